/-! THE SMALL MACHINE: values are whole numbers, cells are told by their places in one fixed list, an instruction is a function. -/
abbrev am_V : Type := Int ⊕ (Int ⊕ Option Nat)
abbrev am_H : Type := Nat × (Nat → Nat → Int) × (Nat → Int → Int) × (Nat → Nat → Option Nat)
abbrev am_L : Type := List (Option am_V)
abbrev am_I : Type := Nat × Instr × Nat × List Nat × Int
abbrev am_M : Type := MethodName × ByteArray × Nat × Option FieldType × List am_I
abbrev am_O : Type := Option (Prop × Nat × am_L × List am_V × am_H)
def am_u1 (h : Nat → Nat → Int) (c j : Nat) (x : Int) : Nat → Nat → Int := fun a b => if a = c then (if b = j then x else h a b) else h a b
def am_u2 (r : Nat → Nat → Option Nat) (c j : Nat) (x : Option Nat) : Nat → Nat → Option Nat := fun a b => if a = c then (if b = j then x else r a b) else r a b
def am_u3 (g : Nat → Int → Int) (c : Nat) (j x : Int) : Nat → Int → Int := fun a b => if a = c then (if b = j then x else g a b) else g a b
def am_n3 (g : Nat → Int → Int) (n : Nat) : Nat → Int → Int := fun a b => if a = n then 0 else g a b
def am_n1 (h : Nat → Nat → Int) (n : Nat) : Nat → Nat → Int := fun a b => if a = n then 0 else h a b
def am_n2 (r : Nat → Nat → Option Nat) (n : Nat) : Nat → Nat → Option Nat := fun a b => if a = n then none else r a b
def am_at {α : Type} : List α → Nat → Option α
  | [], _ => none
  | a :: _, 0 => some a
  | _ :: l, i + 1 => am_at l i
theorem am_at_eq {α : Type} : ∀ (l : List α) (i : Nat), am_at l i = l[i]? := by
  intro l
  induction l with
  | nil => intro i; simp [am_at]
  | cons a l ih =>
    intro i
    cases i with
    | zero => simp [am_at]
    | succ i => simp [am_at, ih]
def am_get : am_L → Nat → Option am_V
  | [], _ => none
  | o :: _, 0 => o
  | _ :: l, i + 1 => am_get l i
def am_sto : am_L → Nat → am_V → Option am_L
  | [], _, _ => none
  | _ :: l, 0, v => some (some v :: l)
  | o :: l, i + 1, v => match o, i with
    | some (.inr (.inl _)), 0 => none
    | _, _ => match am_sto l i v with
      | some l' => some (o :: l')
      | none => none
def am_and (x y : Int) : Int := (Int32.ofInt x &&& Int32.ofInt y).toInt
def am_or (x y : Int) : Int := (Int32.ofInt x ||| Int32.ofInt y).toInt
def am_shl (x y : Int) : Int := (Int32.ofInt x <<< (Int32.ofInt y &&& 31)).toInt
def am_shr (x y : Int) : Int := (Int32.ofInt x >>> (Int32.ofInt y &&& 31)).toInt
def am_cmp (x y : Int) : Int := if y < x then 1 else if x = y then 0 else -1
/-- the kind of a field: 0 int, 1 reference, 2 boolean -/
def am_kd (ci j : Nat) : Option Nat := match am_at am_ks ci with
  | some l => am_at l j
  | none => none
def am_szc (c : Nat) : Nat := match am_at am_sh c with
  | some (.inl (_, n)) => n
  | some (.inr ci) => match am_at am_ks ci with
    | some l => l.length
    | none => 0
  | none => 0
def am_sz : Nat → Nat
  | 0 => 0
  | k + 1 => am_sz k + am_szc k
def am_ld (lv : am_L) (i nx : Nat) (kind : Nat) (st : List am_V) (σ : am_H) : am_O := match am_get lv i with
  | some (.inl x) => cond (Nat.beq kind 0) (some (True, nx, lv, .inl x :: st, σ)) none
  | some (.inr (.inl y)) => cond (Nat.beq kind 1) (some (True, nx, lv, .inr (.inl y) :: st, σ)) none
  | some (.inr (.inr (some k))) => cond (Nat.beq kind 2) (some (True, nx, lv, .inr (.inr (some k)) :: st, σ)) none
  | _ => none
def am_st (lv : am_L) (i nx : Nat) (kind : Nat) (st : List am_V) (σ : am_H) : am_O := match st with
  | .inl x :: r => cond (Nat.beq kind 0) (match am_sto lv i (.inl x) with
    | some l => some (True, nx, l, r, σ)
    | none => none) none
  | .inr (.inr (some k)) :: r => cond (Nat.beq kind 2) (match am_sto lv i (.inr (.inr (some k))) with
    | some l => some (True, nx, l, r, σ)
    | none => none) none
  | _ => none
def am_ald (ty nx : Nat) (lv : am_L) (st : List am_V) (σ : am_H) : am_O := match st with
  | .inl i :: .inr (.inr (some c)) :: r => match σ with
    | (n, h, g, rf) => match am_at am_sh c with
      | some (.inl (t, len)) => cond (Nat.beq t ty && Nat.blt c n) (some (0 ≤ i ∧ i < (len : Int), nx, lv, .inl (g c i) :: r, (n, h, g, rf))) none
      | _ => none
  | _ => none
def am_step (d n1 : Nat) (e : am_I) (lv : am_L) (st : List am_V) (σ : am_H) : am_O := match e with
  | (_, ins, nx, xs, kk) => match ins with
    | .iconst n => some (-2147483648 ≤ n ∧ n ≤ 2147483647, nx, lv, .inl n :: st, σ)
    | .bipush n => some (-128 ≤ n ∧ n ≤ 127, nx, lv, .inl n :: st, σ)
    | .sipush n => some (-32768 ≤ n ∧ n ≤ 32767, nx, lv, .inl n :: st, σ)
    | .ldc _ => match xs with
      | [] => some (-2147483648 ≤ kk ∧ kk ≤ 2147483647, nx, lv, .inl kk :: st, σ)
      | [q] => some (True, nx, lv, .inr (.inr (some (1000 + q))) :: st, σ)
      | _ => none
    | .ldc2_w _ => some (-9223372036854775808 ≤ kk ∧ kk ≤ 9223372036854775807, nx, lv, .inr (.inl kk) :: st, σ)
    | .lconst _ => some (0 ≤ kk ∧ kk ≤ 1, nx, lv, .inr (.inl kk) :: st, σ)
    | .iload_n k => am_ld lv k.val nx 0 st σ
    | .iload i => am_ld lv i nx 0 st σ
    | .lload i => am_ld lv i nx 1 st σ
    | .lload_n k => am_ld lv k.val nx 1 st σ
    | .aload_n k => am_ld lv k.val nx 2 st σ
    | .aload i => am_ld lv i nx 2 st σ
    | .istore_n k => am_st lv k.val nx 0 st σ
    | .istore i => am_st lv i nx 0 st σ
    | .astore_n k => am_st lv k.val nx 2 st σ
    | .astore i => am_st lv i nx 2 st σ
    | .iinc i n => match am_get lv i with
      | some (.inl x) => match am_sto lv i (.inl (x + n)) with
        | some l => some (-2147483648 ≤ x + n ∧ x + n ≤ 2147483647, nx, l, st, σ)
        | none => none
      | _ => none
    | .iadd => match st with
      | .inl y :: .inl x :: r => some (-2147483648 ≤ x + y ∧ x + y ≤ 2147483647, nx, lv, .inl (x + y) :: r, σ)
      | _ => none
    | .isub => match st with
      | .inl y :: .inl x :: r => some (-2147483648 ≤ x - y ∧ x - y ≤ 2147483647, nx, lv, .inl (x - y) :: r, σ)
      | _ => none
    | .imul => match st with
      | .inl y :: .inl x :: r => some (-2147483648 ≤ x * y ∧ x * y ≤ 2147483647, nx, lv, .inl (x * y) :: r, σ)
      | _ => none
    | .idiv => match st with
      | .inl y :: .inl x :: r => some (0 ≤ x ∧ 0 < y, nx, lv, .inl (x / y) :: r, σ)
      | _ => none
    | .irem => match st with
      | .inl y :: .inl x :: r => some (0 ≤ x ∧ 0 < y, nx, lv, .inl (x % y) :: r, σ)
      | _ => none
    | .iand => match st with
      | .inl y :: .inl x :: r => some (True, nx, lv, .inl (am_and x y) :: r, σ)
      | _ => none
    | .ior => match st with
      | .inl y :: .inl x :: r => some (True, nx, lv, .inl (am_or x y) :: r, σ)
      | _ => none
    | .ishl => match st with
      | .inl y :: .inl x :: r => some (True, nx, lv, .inl (am_shl x y) :: r, σ)
      | _ => none
    | .ishr => match st with
      | .inl y :: .inl x :: r => some (True, nx, lv, .inl (am_shr x y) :: r, σ)
      | _ => none
    | .lcmp => match st with
      | .inr (.inl y) :: .inr (.inl x) :: r => some (True, nx, lv, .inl (am_cmp x y) :: r, σ)
      | _ => none
    | .i2c => match st with
      | .inl x :: r => some (0 ≤ x ∧ x < 65536, nx, lv, .inl x :: r, σ)
      | _ => none
    | .i2l => match st with
      | .inl x :: r => some (True, nx, lv, .inr (.inl x) :: r, σ)
      | _ => none
    | .l2i => match st with
      | .inr (.inl x) :: r => some (-2147483648 ≤ x ∧ x ≤ 2147483647, nx, lv, .inl x :: r, σ)
      | _ => none
    | .dup => match st with
      | .inl x :: r => some (True, nx, lv, .inl x :: .inl x :: r, σ)
      | .inr (.inr k) :: r => some (True, nx, lv, .inr (.inr k) :: .inr (.inr k) :: r, σ)
      | _ => none
    | .dup2 => match st with
      | .inl x :: .inr (.inr k) :: r => some (True, nx, lv, .inl x :: .inr (.inr k) :: .inl x :: .inr (.inr k) :: r, σ)
      | _ => none
    | .goto _ => match xs with
      | [t] => some (True, t, lv, st, σ)
      | _ => none
    | .arraylength => match st with
      | .inr (.inr (some c)) :: r => match am_at am_sh c with
        | some (.inl (_, len)) => cond (Nat.blt c σ.1) (some (True, nx, lv, .inl (len : Int) :: r, σ)) none
        | _ => none
      | _ => none
    | .iaload => am_ald 0 nx lv st σ
    | .caload => am_ald 1 nx lv st σ
    | .baload => am_ald 2 nx lv st σ
    | .iastore => match st with
      | .inl x :: .inl i :: .inr (.inr (some c)) :: r => match σ with
        | (n, h, g, rf) => match am_at am_sh c with
          | some (.inl (t, len)) => cond (Nat.beq t 0 && Nat.blt c n) (some (0 ≤ i ∧ i < (len : Int), nx, lv, r, (n, h, am_u3 g c i x, rf))) none
          | _ => none
      | _ => none
    | .castore => match st with
      | .inl x :: .inl i :: .inr (.inr (some c)) :: r => match σ with
        | (n, h, g, rf) => match am_at am_sh c with
          | some (.inl (t, len)) => cond (Nat.beq t 1 && Nat.blt c n) (some ((0 ≤ i ∧ i < (len : Int)) ∧ 0 ≤ x ∧ x < 65536, nx, lv, r, (n, h, am_u3 g c i x, rf))) none
          | _ => none
      | _ => none
    | .bastore => match st with
      | .inl x :: .inl i :: .inr (.inr (some c)) :: r => match σ with
        | (n, h, g, rf) => match am_at am_sh c with
          | some (.inl (t, len)) => cond (Nat.beq t 2 && Nat.blt c n) (some ((0 ≤ i ∧ i < (len : Int)) ∧ (x = 0 ∨ x = 1), nx, lv, r, (n, h, am_u3 g c i x, rf))) none
          | _ => none
      | _ => none
    | .getfield _ => match st with
      | .inr (.inr (some c)) :: r => match xs, σ with
        | [ci, j], (n, h, g, rf) => match am_at am_sh c, am_kd ci j with
          | some (.inr ci'), some kd => cond (Nat.beq ci' ci && Nat.blt c n) (cond (Nat.beq kd 1) (some (True, nx, lv, .inr (.inr (rf c j)) :: r, (n, h, g, rf))) (some (True, nx, lv, .inl (h c j) :: r, (n, h, g, rf)))) none
          | _, _ => none
        | _, _ => none
      | _ => none
    | .putfield _ => match st with
      | .inl x :: .inr (.inr (some c)) :: r => match xs, σ with
        | [ci, j], (n, h, g, rf) => match am_at am_sh c, am_kd ci j with
          | some (.inr ci'), some 0 => cond (Nat.beq ci' ci && Nat.blt c n) (some (True, nx, lv, r, (n, am_u1 h c j x, g, rf))) none
          | some (.inr ci'), some 2 => cond (Nat.beq ci' ci && Nat.blt c n) (some ((x = 0 ∨ x = 1), nx, lv, r, (n, am_u1 h c j x, g, rf))) none
          | _, _ => none
        | _, _ => none
      | .inr (.inr (some k)) :: .inr (.inr (some c)) :: r => match xs, σ with
        | [ci, j], (n, h, g, rf) => match am_at am_sh c, am_kd ci j with
          | some (.inr ci'), some 1 => cond (Nat.beq ci' ci && Nat.blt c n && Nat.blt k n) (some (True, nx, lv, r, (n, h, g, am_u2 rf c j (some k)))) none
          | _, _ => none
        | _, _ => none
      | _ => none
    | .newarray _ => match st with
      | .inl x :: r => match xs, σ with
        | [ty], (n, h, g, rf) => match am_at am_sh n with
          | some (.inl (t, len)) => cond (Nat.beq t ty) (some (x = (len : Int) ∧ n < n1, nx, lv, .inr (.inr (some n)) :: r, (n + 1, am_n1 h n, am_n3 g n, am_n2 rf n))) none
          | _ => none
        | _, _ => none
      | _ => none
    | .new _ => match xs, σ with
      | [ci], (n, h, g, rf) => match am_at am_sh n with
        | some (.inr ci') => cond (Nat.beq ci' ci) (some (n < n1, nx, lv, .inr (.inr (some n)) :: st, (n + 1, am_n1 h n, am_n3 g n, am_n2 rf n))) none
        | _ => none
      | _, _ => none
    | .invokespecial _ => match xs, st with
      | [], .inr (.inr (some _)) :: r => some (0 < d ∧ r.length ≤ 8, nx, lv, r, σ)
      | _, _ => none
    | .invokestatic _ => match xs, st with
      | [], .inl y :: .inl x :: r => some (0 < d ∧ r.length ≤ 8 ∧ σ.1 ≤ n1, nx, lv, .inl (if x < y then y else x) :: r, σ)
      | _, _ => none
    | _ => none
def am_br (e : am_I) (st : List am_V) : Option (Prop × Nat × Nat × List am_V) := match e with
  | (_, ins, nx, xs, _) => match xs with
    | [t] => match ins with
      | .ifCond .eq _ => match st with | .inl x :: r => some (x = 0, t, nx, r) | _ => none
      | .ifCond .ne _ => match st with | .inl x :: r => some (¬ x = 0, t, nx, r) | _ => none
      | .ifCond .lt _ => match st with | .inl x :: r => some (x < 0, t, nx, r) | _ => none
      | .ifCond .ge _ => match st with | .inl x :: r => some (0 ≤ x, t, nx, r) | _ => none
      | .ifCond .gt _ => match st with | .inl x :: r => some (0 < x, t, nx, r) | _ => none
      | .ifCond .le _ => match st with | .inl x :: r => some (x ≤ 0, t, nx, r) | _ => none
      | .if_icmp .eq _ => match st with | .inl y :: .inl x :: r => some (x = y, t, nx, r) | _ => none
      | .if_icmp .ne _ => match st with | .inl y :: .inl x :: r => some (¬ x = y, t, nx, r) | _ => none
      | .if_icmp .lt _ => match st with | .inl y :: .inl x :: r => some (x < y, t, nx, r) | _ => none
      | .if_icmp .ge _ => match st with | .inl y :: .inl x :: r => some (y ≤ x, t, nx, r) | _ => none
      | .if_icmp .gt _ => match st with | .inl y :: .inl x :: r => some (y < x, t, nx, r) | _ => none
      | .if_icmp .le _ => match st with | .inl y :: .inl x :: r => some (x ≤ y, t, nx, r) | _ => none
      | _ => none
    | _ => none
