def y_bc (x0 : Int32) : Int32 :=
  let y1 := x0 - (((x0.toUInt32 >>> ((1 : Int32).toUInt32 &&& Int32.toUInt32 31)).toInt32) &&& 1431655765)
  let y2 := (y1 &&& 858993459) + (((y1.toUInt32 >>> ((2 : Int32).toUInt32 &&& Int32.toUInt32 31)).toInt32) &&& 858993459)
  let y3 := (y2 + ((y2.toUInt32 >>> ((4 : Int32).toUInt32 &&& Int32.toUInt32 31)).toInt32)) &&& 252645135
  let y4 := y3 + ((y3.toUInt32 >>> ((8 : Int32).toUInt32 &&& Int32.toUInt32 31)).toInt32)
  let y5 := y4 + ((y4.toUInt32 >>> ((16 : Int32).toUInt32 &&& Int32.toUInt32 31)).toInt32)
  y5 &&& 63
theorem K_bc (x : Int32) (μ : q_M) : f_J6_bitCount_0f7a4 x μ = some (y_bc x, μ) := rfl
def y_pc (P : Nat → Bool) : Nat → Int
  | 0 => 0
  | n + 1 => y_pc P n + (if P n = true then 1 else 0)
theorem y_pc_eq {P Q : Nat → Bool} : ∀ n : Nat, (∀ i, i < n → P i = Q i) → y_pc P n = y_pc Q n := by
  intro n
  induction n with
  | zero => intro _; rfl
  | succ n ih =>
    intro h
    unfold y_pc
    rw [ih (fun i hi => h i (by omega)), h n (by omega)]
theorem y_pc_b (P : Nat → Bool) : ∀ n : Nat, 0 ≤ y_pc P n ∧ y_pc P n ≤ (n : Int) := by
  intro n
  induction n with
  | zero => unfold y_pc; omega
  | succ n ih =>
    unfold y_pc
    split <;> omega
def y_bcn (n : Nat) : Nat := (y_bc (Int32.ofNat n)).toBitVec.toNat
def y_pcn (n : Nat) : Nat → Nat
  | 0 => 0
  | k + 1 => y_pcn n k + (if n.testBit k = true then 1 else 0)
theorem y_bc_all : ∀ a, a < 64 → ∀ b, b < 64 → y_bcn (64 * a + b) = y_pcn (64 * a + b) 12 := by decide +kernel
theorem y_pcn_eq (n : Nat) : ∀ k : Nat, ((y_pcn n k : Nat) : Int) = y_pc (fun i => n.testBit i) k := by
  intro k
  induction k with
  | zero => rfl
  | succ k ih =>
    unfold y_pcn y_pc
    rw [← ih]
    split <;> simp
theorem y_bc_is {x : Int32} (h : ∀ i, 12 ≤ i → i < 32 → bt x i = false) : y_bc x = iz (y_pc (bt x) 12) := by
  have n1 : x.toBitVec.toNat < 2 ^ 12 := Nat.lt_pow_two_of_testBit _ (fun i hi => by
    rcases Nat.lt_or_ge i 32 with g | g
    · exact h i hi g
    · exact b_big (x := x) g)
  have e : x = Int32.ofNat x.toBitVec.toNat := by
    apply Int32.toBitVec_inj.mp
    apply BitVec.eq_of_toNat_eq
    show _ = x.toBitVec.toNat % 2 ^ 32
    rw [Nat.mod_eq_of_lt (by omega)]
  have p : y_pc (bt x) 12 = y_pc (fun i => x.toBitVec.toNat.testBit i) 12 := y_pc_eq 12 (fun i _ => rfl)
  rw [p, ← y_pcn_eq]
  generalize x.toBitVec.toNat = n at *
  rw [e]
  have key := y_bc_all (n / 64) (by omega) (n % 64) (by omega)
  rw [show 64 * (n / 64) + n % 64 = n by omega] at key
  rw [← key]
  apply Int32.toBitVec_inj.mp
  apply BitVec.eq_of_toNat_eq
  unfold y_bcn
  rw [show iz (((y_bc (Int32.ofNat n)).toBitVec.toNat : Nat) : Int) = nI ((y_bc (Int32.ofNat n)).toBitVec.toNat) from z_nI _]
  show _ = ((y_bc (Int32.ofNat n)).toBitVec.toNat) % 2 ^ 32
  rw [Nat.mod_eq_of_lt (y_bc (Int32.ofNat n)).toBitVec.isLt]
theorem y_ct_is {x : Nat} : ∀ v : List Nat, v.Nodup → y_ct x v = if x ∈ v then 1 else 0 := by
  intro v
  induction v with
  | nil => intro _; rfl
  | cons y v ih =>
    intro h
    have n := List.nodup_cons.mp h
    unfold y_ct
    rw [ih n.2]
    by_cases e : y = x
    · subst e
      rw [if_pos rfl, if_neg n.1, if_pos List.mem_cons_self]
      rfl
    · rw [if_neg e]
      by_cases m : x ∈ v
      · rw [if_pos m, if_pos (List.mem_cons_of_mem _ m)]; rfl
      · rw [if_neg m, if_neg (fun q => by
          rcases List.mem_cons.mp q with q | q
          · exact e q.symm
          · exact m q)]
        rfl
theorem y_pc_0 : ∀ n : Nat, y_pc (fun _ => false) n = 0 := by
  intro n
  induction n with
  | zero => rfl
  | succ n ih => unfold y_pc; rw [ih]; rfl
theorem y_pc_add {P Q R : Nat → Bool} : ∀ n : Nat, (∀ i, i < n → (if R i = true then (1 : Int) else 0) = (if P i = true then 1 else 0) + (if Q i = true then 1 else 0)) → y_pc R n = y_pc P n + y_pc Q n := by
  intro n
  induction n with
  | zero => intro _; rfl
  | succ n ih =>
    intro h
    unfold y_pc
    rw [ih (fun i hi => h i (by omega)), h n (by omega)]
    omega
theorem y_pc_1 {x : Nat} (b : Bool) : ∀ n : Nat, y_pc (fun i => decide (i = x) && b) n = if x < n ∧ b = true then 1 else 0 := by
  intro n
  induction n with
  | zero => unfold y_pc; rw [if_neg (by omega)]
  | succ n ih =>
    unfold y_pc
    rw [ih]
    cases b with
    | false => simp
    | true =>
      by_cases e : n = x
      · subst e
        rw [if_neg (by omega), if_pos (by simp), if_pos ⟨by omega, rfl⟩]
        rfl
      · rw [if_neg (show ¬ ((decide (n = x) && true) = true) by simp [e])]
        by_cases c : x < n
        · rw [if_pos ⟨c, rfl⟩, if_pos ⟨by omega, rfl⟩]; rfl
        · rw [if_neg (by omega), if_neg (by omega)]; rfl
theorem y_sh_is {v : List Nat} (hv : v.Nodup) : ∀ p : List Nat, p.Nodup → (∀ r, r ∈ p → r < 12) → y_sh p v = y_pc (fun i => decide (i ∈ p) && decide (i ∈ v)) 12 := by
  intro p
  induction p with
  | nil =>
    intro _ _
    rw [y_pc_eq (Q := fun _ => false) 12 (fun i _ => by simp), y_pc_0]
    rfl
  | cons x p ih =>
    intro h hb
    have n := List.nodup_cons.mp h
    unfold y_sh
    rw [ih n.2 (fun r q => hb r (List.mem_cons_of_mem _ q)), y_ct_is v hv]
    have a := y_pc_1 (x := x) (decide (x ∈ v)) 12
    have x12 := hb x List.mem_cons_self
    have e : (if x ∈ v then (1 : Int) else 0) = if x < 12 ∧ decide (x ∈ v) = true then 1 else 0 := by
      by_cases m : x ∈ v
      · rw [if_pos m, if_pos ⟨x12, decide_eq_true m⟩]
      · rw [if_neg m, if_neg (fun q => m (of_decide_eq_true q.2))]
    rw [e, ← a]
    symm
    apply y_pc_add
    intro i hi
    by_cases c : i = x
    · subst c
      by_cases m : i ∈ v
      · simp [m, n.1]
      · simp [m]
    · by_cases m : i ∈ p
      · simp [c, m]
      · simp [c, m]
theorem y_rs {p v : List Nat} {x y : Int32} (hx : ∀ b, b < 32 → bt x b = decide (b ∈ p)) (hy : ∀ b, b < 32 → bt y b = decide (b ∈ v)) (hp : p.Nodup) (hv : v.Nodup) (h1 : ∀ r, r ∈ p → r < 12) : y_bc (x &&& y) = iz (y_sh p v) := by
  rw [y_bc_is (fun i h1' h2 => by
    rw [b_and, hx i h2, decide_eq_false (fun q => by have := h1 i q; omega)]
    rfl), y_sh_is hv p hp h1]
  congr 1
  apply y_pc_eq
  intro i hi
  rw [b_and, hx i (by omega), hy i (by omega)]
theorem y_re {p v : List Nat} {x y : Int32} (hx : ∀ b, b < 32 → bt x b = decide (b ∈ p)) (hy : ∀ b, b < 32 → bt y b = decide (b ∈ v)) (h1 : ∀ r, r ∈ p → r < 12) (h2 : ∀ r, r ∈ v → r < 12) : x = y ↔ ∀ r, r ∈ p ↔ r ∈ v := by
  constructor
  · intro e r
    subst e
    constructor
    · intro q
      have := (hx r (by have := h1 r q; omega)).symm.trans (hy r (by have := h1 r q; omega))
      rw [decide_eq_true q] at this
      exact of_decide_eq_true this.symm
    · intro q
      have := (hx r (by have := h2 r q; omega)).symm.trans (hy r (by have := h2 r q; omega))
      rw [decide_eq_true q] at this
      exact of_decide_eq_true this
  · intro e
    apply b_ext
    intro i hi
    rw [hx i hi, hy i hi]
    exact decide_eq_decide.mpr (e i)
