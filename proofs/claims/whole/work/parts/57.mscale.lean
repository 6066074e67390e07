theorem K_cl (x0 x2 : Int64) (Kx : Int64 → q_M → Option (Int64 × q_M)) (μ : q_M) : ∀ (b a n : Nat), b < n → a < 9223372036854775808 → b < 9223372036854775808 → L_X10_common_6 x0 x2 Kx n (lz (a : Int)) (lz (b : Int)) μ = Kx (lz (Nat.gcd a b : Nat)) μ := by
  intro b
  induction b using Nat.strongRecOn with
  | _ b ih =>
    intro a n hn ha hb
    obtain ⟨n, rfl⟩ : ∃ z, n = z + 1 := ⟨n - 1, by omega⟩
    have c : (lg_cmp (lz (b : Int)) 0 = 0) = ((b : Int) = 0) := (z_c2 _ _).trans (z_eq64 (a := (b : Int)) (b := 0) (by omega) (by omega) (by omega) (by omega))
    have c2 : (lz (b : Int) = 0) = ((b : Int) = 0) := z_eq64 (a := (b : Int)) (b := 0) (by omega) (by omega) (by omega) (by omega)
    rw [L_X10_common_6]
    simp only [c]
    by_cases h0 : b = 0
    · subst h0
      rw [if_pos (show ((0 : Nat) : Int) = 0 from rfl), Nat.gcd_zero_right]
    · rw [if_neg (by omega), z_gd (by simp only [c2]; simpa using h0), z_le, z_rl (by omega) (by omega) (by omega) (by omega), ← Int.natCast_emod]
      have := Nat.mod_lt a (show 0 < b by omega)
      rw [ih (a % b) this b n (by omega) hb (by omega), Nat.gcd_comm a b, Nat.gcd_rec b a, Nat.gcd_comm]
theorem K_common {a b : Nat} (ha : a < 9223372036854775808) (hb : b < 100000000) (μ : q_M) : f_X10_common (lz (a : Int)) (lz (b : Int)) μ = some (lz (Nat.gcd a b : Nat), μ) := by
  unfold f_X10_common
  exact K_cl _ _ _ μ b a q_fu (by rw [z_fu]; exact hb) ha (by omega)
def y_lc (m n : Nat) : Nat := m / Nat.gcd m n * n
def y_LB (σ : y_S) (b : Nat) : Nat → Nat
  | 0 => 1
  | k + 1 => y_lc (y_LB σ b k) (σ 16 (6 * b + k)).toNat
def y_LS (σ : y_S) (b : Nat) : Nat → Nat
  | 0 => 1
  | 1 => 1
  | k + 2 => y_lc (y_LS σ b (k + 1)) (σ 14 (6 * b + (k + 1)) - σ 14 (6 * b + k)).toNat
def y_WB (σ : y_S) : Prop := ∀ b : Nat, b < 6 → (0 ≤ σ 13 b ∧ σ 13 b ≤ 6) ∧ (∀ k : Nat, (k : Int) < σ 13 b → (0 ≤ σ 14 (6 * b + k) ∧ σ 14 (6 * b + k) ≤ 60) ∧ (-1000 ≤ σ 15 (6 * b + k) ∧ σ 15 (6 * b + k) ≤ 1000) ∧ (1 ≤ σ 16 (6 * b + k) ∧ σ 16 (6 * b + k) ≤ 1000)) ∧ ∀ k : Nat, (k : Int) + 1 < σ 13 b → σ 14 (6 * b + k) < σ 14 (6 * b + (k + 1))
theorem y_lc_le {m n : Nat} (hm : 0 < m) : y_lc m n ≤ m * n := Nat.mul_le_mul_right n (Nat.div_le_self _ _)
theorem y_lc_pos {m n : Nat} (hm : 0 < m) (hn : 0 < n) : 0 < y_lc m n := Nat.mul_pos (Nat.div_pos (Nat.le_of_dvd hm (Nat.gcd_dvd_left m n)) (Nat.gcd_pos_of_pos_left n hm)) hn
theorem y_LB_b {σ : y_S} {b : Nat} (hb : b < 6) (w : y_WB σ) : ∀ k : Nat, (k : Int) ≤ σ 13 b → 0 < y_LB σ b k ∧ y_LB σ b k ≤ 1000 ^ k := by
  intro k
  induction k with
  | zero => intro _; exact ⟨Nat.le_refl 1, Nat.le_refl 1⟩
  | succ k ih =>
    intro hk
    obtain ⟨h1, h2⟩ := ih (by omega)
    have g := ((w b hb).2.1 k (by omega)).2.2
    unfold y_LB
    refine ⟨y_lc_pos h1 (by omega), Nat.le_trans (y_lc_le h1) ?_⟩
    rw [Nat.pow_succ]
    exact Nat.mul_le_mul h2 (by omega)
theorem y_LS_b {σ : y_S} {b : Nat} (hb : b < 6) (w : y_WB σ) : ∀ k : Nat, (k : Int) ≤ σ 13 b → 0 < y_LS σ b k ∧ y_LS σ b k ≤ 60 ^ (k - 1) := by
  intro k
  induction k with
  | zero => intro _; exact ⟨Nat.le_refl 1, Nat.le_refl 1⟩
  | succ k ih =>
    intro hk
    cases k with
    | zero => exact ⟨Nat.le_refl 1, Nat.le_refl 1⟩
    | succ k =>
      obtain ⟨h1, h2⟩ := ih (by omega)
      have g := (w b hb).2.2 k (by omega)
      have g1 := ((w b hb).2.1 k (by omega)).1
      have g2 := ((w b hb).2.1 (k + 1) (by omega)).1
      unfold y_LS
      refine ⟨y_lc_pos h1 (by omega), Nat.le_trans (y_lc_le h1) ?_⟩
      rw [show k + 1 + 1 - 1 = k + 1 - 1 + 1 by omega, Nat.pow_succ]
      exact Nat.mul_le_mul h2 (by omega)
theorem y_LB_m {σ : y_S} {b : Nat} (hb : b < 6) (w : y_WB σ) {k : Nat} (hk : (k : Int) ≤ σ 13 b) : 0 < y_LB σ b k ∧ y_LB σ b k ≤ 1000000000000000000 := by
  obtain ⟨h1, h2⟩ := y_LB_b hb w k hk
  have := (w b hb).1
  exact ⟨h1, Nat.le_trans h2 (Nat.le_trans (Nat.pow_le_pow_right (by decide) (show k ≤ 6 by omega)) (by decide))⟩
theorem y_LS_m {σ : y_S} {b : Nat} (hb : b < 6) (w : y_WB σ) {k : Nat} (hk : (k : Int) ≤ σ 13 b) : 0 < y_LS σ b k ∧ y_LS σ b k ≤ 777600000 := by
  obtain ⟨h1, h2⟩ := y_LS_b hb w k hk
  have := (w b hb).1
  exact ⟨h1, Nat.le_trans h2 (Nat.le_trans (Nat.pow_le_pow_right (by decide) (show k - 1 ≤ 5 by omega)) (by decide))⟩
def y_Lc (B S : Nat) (μ : q_M) : Prop := μ.2 137 47 = lz (B : Int) ∧ μ.2 137 48 = lz (S : Int)
theorem y_lcz {m n : Nat} (hm : 0 < m) (hm2 : m ≤ 1000000000000000000) (hn : n ≤ 1000) : lz (m : Int) / lz (Nat.gcd m n : Nat) * lz (n : Int) = lz (y_lc m n : Nat) := by
  have g0 : 0 < Nat.gcd m n := Nat.gcd_pos_of_pos_left n hm
  have g1 : Nat.gcd m n ≤ m := Nat.le_of_dvd hm (Nat.gcd_dvd_left m n)
  rw [z_divL (by omega) (by omega) (by omega) (by omega), z_mulL]
  congr 1
theorem K_r12 {σ : y_S} (w : y_WB σ) {b : Nat} (hb : b < 6) (Kx : q_M → Option (Unit × q_M)) : ∀ (d n i : Nat) (μ : q_M), y_RM σ μ → y_Lc (y_LB σ b i) (y_LS σ b i) μ → i + d = (σ 13 b).toNat → d < n → ∃ μ', L_X10_rate_12 (iz (b : Int)) Kx n (iz (i : Int)) μ = Kx μ' ∧ y_Sc μ μ' ∧ y_Lc (y_LB σ b (σ 13 b).toNat) (y_LS σ b (σ 13 b).toNat) μ' := by
  intro d
  have gb := (w b hb).1
  have cb : (iz (b : Int)).toNatClampNeg = b := by rw [z_cl (by omega) (by omega)]; omega
  induction d with
  | zero =>
    intro n i μ h hL hi hn
    obtain ⟨n, rfl⟩ : ∃ z, n = z + 1 := ⟨n - 1, by omega⟩
    have e : (iz (σ 13 b) ≤ iz (i : Int)) = (σ 13 b ≤ (i : Int)) := z_le32 (by omega) (by omega) (by omega) (by omega)
    rw [L_X10_rate_12, z_gd (z_ix (by omega) (by omega) (by omega)), cb, m_cornerCounts h]
    simp only [e]
    rw [if_pos (by omega)]
    exact ⟨μ, rfl, y_Sc.rf, by rw [← hi]; exact hL⟩
  | succ d ih =>
    intro n i μ h hL hi hn
    obtain ⟨n, rfl⟩ : ∃ z, n = z + 1 := ⟨n - 1, by omega⟩
    have gk := (w b hb).2.1 i (by omega)
    have e : (iz (σ 13 b) ≤ iz (i : Int)) = (σ 13 b ≤ (i : Int)) := z_le32 (by omega) (by omega) (by omega) (by omega)
    have e2 : (iz (i : Int) ≤ 0) = ((i : Int) ≤ 0) := z_le32 (b := 0) (by omega) (by omega) (by omega) (by omega)
    have s : 6 * iz (b : Int) + iz (i : Int) = iz (6 * b + i) := by rw [show 6 * iz (b : Int) = iz (6 * b) from z_mul 6 b, z_add]
    have cl : (iz (6 * (b : Int) + i)).toNatClampNeg = 6 * b + i := by rw [z_cl (by omega) (by omega)]; omega
    obtain ⟨b0, b1⟩ := y_LB_m hb w (k := i) (by omega)
    obtain ⟨s0, s1⟩ := y_LS_m hb w (k := i) (by omega)
    have be : (iz (σ 16 (6 * b + i))).toInt64 = lz ((σ 16 (6 * b + i)).toNat : Int) := by rw [z_64 (by omega) (by omega), Int.toNat_of_nonneg (by omega)]
    have gp : 0 < Nat.gcd (y_LB σ b i) (σ 16 (6 * b + i)).toNat := Nat.gcd_pos_of_pos_left _ b0
    have gl : Nat.gcd (y_LB σ b i) (σ 16 (6 * b + i)).toNat ≤ y_LB σ b i := Nat.le_of_dvd b0 (Nat.gcd_dvd_left _ _)
    have n0 : decide (¬ lz ((Nat.gcd (y_LB σ b i) (σ 16 (6 * b + i)).toNat : Nat) : Int) = 0) = true := by
      have : (lz ((Nat.gcd (y_LB σ b i) (σ 16 (6 * b + i)).toNat : Nat) : Int) = 0) = (((Nat.gcd (y_LB σ b i) (σ 16 (6 * b + i)).toNat : Nat) : Int) = 0) := z_eq64 (b := 0) (by omega) (by omega) (by omega) (by omega)
      apply decide_eq_true
      rw [this]
      omega
    rw [L_X10_rate_12, z_gd (z_ix (by omega) (by omega) (by omega)), cb, m_cornerCounts h]
    simp only [e]
    rw [if_neg (by omega), z_le, s, z_gd (z_ix (by omega) (by omega) (by omega)), cl, m_belows h, be, hL.1, K_common (by omega) (by omega) μ, z_bd, z_gd n0, m_belows h, be, y_lcz b0 b1 (by omega), z_le]
    have h1 : y_RM σ (q_sl μ 137 47 (lz (y_lc (y_LB σ b i) (σ 16 (6 * b + i)).toNat : Nat))) := h
    have u47 : (q_sl μ 137 47 (lz (y_lc (y_LB σ b i) (σ 16 (6 * b + i)).toNat : Nat))).2 137 47 = lz ((y_LB σ b (i + 1) : Nat) : Int) := by rw [z_sl2, if_pos ⟨rfl, rfl⟩]; rfl
    have u48 : (q_sl μ 137 47 (lz (y_lc (y_LB σ b i) (σ 16 (6 * b + i)).toNat : Nat))).2 137 48 = lz ((y_LS σ b i : Nat) : Int) := by rw [z_sl2, if_neg (by decide)]; exact hL.2
    have uS : y_Sc μ (q_sl μ 137 47 (lz (y_lc (y_LB σ b i) (σ 16 (6 * b + i)).toNat : Nat))) := y_Sc.rf.sl
    generalize q_sl μ 137 47 (lz (y_lc (y_LB σ b i) (σ 16 (6 * b + i)).toNat : Nat)) = μ1 at h1 u47 u48 uS
    simp only [e2, z_le, z_a1]
    by_cases i0 : i = 0
    · subst i0
      rw [if_pos (by omega)]
      obtain ⟨μ', f, s2, l2⟩ := ih n 1 μ1 h1 ⟨u47, u48⟩ (by omega) (by omega)
      exact ⟨μ', f, uS.tr s2, l2⟩
    · obtain ⟨k, rfl⟩ : ∃ k, i = k + 1 := ⟨i - 1, by omega⟩
      have r1 := (w b hb).2.2 k (by omega)
      have gk0 := ((w b hb).2.1 k (by omega)).1
      have s3 : iz (6 * (b : Int) + ((k + 1 : Nat) : Int)) - 1 = iz (6 * (b : Int) + k) := by rw [z_s1]; congr 1; omega
      have cl3 : (iz (6 * (b : Int) + (k : Int))).toNatClampNeg = 6 * b + k := by rw [z_cl (by omega) (by omega)]; omega
      have st : (iz (σ 14 (6 * b + (k + 1))) - iz (σ 14 (6 * b + k))).toInt64 = lz ((σ 14 (6 * b + (k + 1)) - σ 14 (6 * b + k)).toNat : Int) := by rw [z_sub, z_64 (by omega) (by omega), Int.toNat_of_nonneg (by omega)]
      have gp2 : 0 < Nat.gcd (y_LS σ b (k + 1)) (σ 14 (6 * b + (k + 1)) - σ 14 (6 * b + k)).toNat := Nat.gcd_pos_of_pos_left _ s0
      have gl2 : Nat.gcd (y_LS σ b (k + 1)) (σ 14 (6 * b + (k + 1)) - σ 14 (6 * b + k)).toNat ≤ y_LS σ b (k + 1) := Nat.le_of_dvd s0 (Nat.gcd_dvd_left _ _)
      have n2 : decide (¬ lz ((Nat.gcd (y_LS σ b (k + 1)) (σ 14 (6 * b + (k + 1)) - σ 14 (6 * b + k)).toNat : Nat) : Int) = 0) = true := by
        have : (lz ((Nat.gcd (y_LS σ b (k + 1)) (σ 14 (6 * b + (k + 1)) - σ 14 (6 * b + k)).toNat : Nat) : Int) = 0) = (((Nat.gcd (y_LS σ b (k + 1)) (σ 14 (6 * b + (k + 1)) - σ 14 (6 * b + k)).toNat : Nat) : Int) = 0) := z_eq64 (b := 0) (by omega) (by omega) (by omega) (by omega)
        apply decide_eq_true
        rw [this]
        omega
      rw [if_neg (by omega), s3, z_gd (z_ix (by omega) (by omega) (by omega)), cl3, m_places h1, m_places h1, st, u48, K_common (by omega) (by omega) μ1, z_bd, z_gd n2, y_lcz s0 (by omega) (by omega)]
      have h2 : y_RM σ (q_sl μ1 137 48 (lz (y_lc (y_LS σ b (k + 1)) (σ 14 (6 * b + (k + 1)) - σ 14 (6 * b + k)).toNat : Nat))) := h1
      have v47 : (q_sl μ1 137 48 (lz (y_lc (y_LS σ b (k + 1)) (σ 14 (6 * b + (k + 1)) - σ 14 (6 * b + k)).toNat : Nat))).2 137 47 = lz ((y_LB σ b (k + 1 + 1) : Nat) : Int) := by rw [z_sl2, if_neg (by decide)]; exact u47
      have v48 : (q_sl μ1 137 48 (lz (y_lc (y_LS σ b (k + 1)) (σ 14 (6 * b + (k + 1)) - σ 14 (6 * b + k)).toNat : Nat))).2 137 48 = lz ((y_LS σ b (k + 1 + 1) : Nat) : Int) := by rw [z_sl2, if_pos ⟨rfl, rfl⟩]; rfl
      obtain ⟨μ', f, s2, l2⟩ := ih n (k + 1 + 1) _ h2 ⟨v47, v48⟩ (by omega) (by omega)
      exact ⟨μ', f, (uS.sl).tr s2, l2⟩
