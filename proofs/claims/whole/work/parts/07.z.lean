def am_slen : List Nat := [9, 22]
def am_sbyt : List (List Int32) := [[78, 70, 83, 72, 88, 66, 67, 80, 76], [116, 104, 101, 32, 116, 101, 120, 116, 32, 105, 115, 32, 110, 111, 116, 32, 97, 32, 102, 111, 114, 109]]
def am_refst : List (String × String × String) := [("java/lang/Throwable", "UNASSIGNED_STACK", "[Ljava/lang/StackTraceElement;"), ("java/lang/Throwable", "SUPPRESSED_SENTINEL", "Ljava/util/List;"), ("jdk/internal/util/Preconditions", "SIOOBE_FORMATTER", "Ljava/util/function/BiFunction;")]
/-- what stays as it was at the start: links across the nest, String constants, statics -/
def am_Z (ad0 : Nat → Nat) (A : Nat → Prop) (U : State) : Prop :=
  (∀ q ∈ am_nest, va_Nw (.methodLinkNest q.1 q.2.1 q.2.2.1 q.2.2.2) U) ∧ (∀ q ∈ am_strs, vk_R q.1 q.2.1 (am_texts.getD q.2.2 "") (ad0 (1000 + q.2.2)) U) ∧
  vk_S 2 am_slen am_sbyt (fun i => ad0 (1000 + i)) (fun i => ad0 (2000 + i)) A U U.heap ∧ va_Z "java/lang/String" "COMPACT_STRINGS" "Z" (.int 1) A U U.heap ∧
  ∀ q ∈ am_refst, ∃ o : Option Nat, (∀ k, o = some k → 1000 ≤ k) ∧ va_Z q.1 q.2.1 q.2.2 (am_v ad0 (.inr (.inr o))) A U U.heap
theorem am_Z.call {ad0 ad : Nat → Nat} {A A1 : Nat → Prop} {s U : State} {H : Heap} {locs : List Loc} (h : am_Z ad0 A s) (hS : va_S A s.heap H locs) (hA : ∀ q, A1 q → A q) (had : ∀ k, 1000 ≤ k → ad k = ad0 k) (hU : U.heap = H) (hW : s.WarmedH U.vm) : am_Z ad A1 U := by
  obtain ⟨h1, h2, h3, h4, h5⟩ := h
  have e1 : (fun i => ad (1000 + i)) = (fun i => ad0 (1000 + i)) := by
    funext i
    exact had _ (by omega)
  have e2 : (fun i => ad (2000 + i)) = (fun i => ad0 (2000 + i)) := by
    funext i
    exact had _ (by omega)
  refine ⟨fun q hq => va_Nw.warmM hW (h1 q hq), fun q hq => ?_, ?_, ?_, fun q hq => ?_⟩
  · rw [had _ (by omega)]
    exact vk_R.warm hW (h2 q hq)
  · rw [e1, e2, hU]
    exact ((h3.moved hW.alike).kept hS.2.1).narrow hA
  · rw [hU]
    exact ((h4.moved hW.alike).kept hS.2.1).narrow hA
  · obtain ⟨o, hv, hz⟩ := h5 q hq
    refine ⟨o, hv, ?_⟩
    have e3 : am_v ad (.inr (.inr o)) = am_v ad0 (.inr (.inr o)) := by
      cases o with
      | none => rfl
      | some k => show Value.ref (ad k) = Value.ref (ad0 k); rw [had k (hv k rfl)]
    rw [hU, e3]
    exact ((hz.moved hW.alike).kept hS.2.1).narrow hA
theorem am_Z.blind {ad : Nat → Nat} {A : Nat → Prop} {U : State} {g : JFrame} {mk : MethodId} {a : Array Value} (h : am_Z ad A U) : am_Z ad A (U.calling g mk a) := by
  obtain ⟨h1, h2, h3, h4, h5⟩ := h
  refine ⟨fun q hq => va_Nw.same rfl rfl (h1 q hq), fun q hq => vk_R.same rfl (h2 q hq), h3.moved (Vm.Alike.refl U.vm), h4.moved (Vm.Alike.refl U.vm), fun q hq => ?_⟩
  obtain ⟨o, hv, hz⟩ := h5 q hq
  exact ⟨o, hv, hz.moved (Vm.Alike.refl U.vm)⟩
