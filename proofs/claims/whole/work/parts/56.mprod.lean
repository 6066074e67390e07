def y_Sc (μ μ' : q_M) : Prop := μ'.1 = μ.1 ∧ ∀ a, a ≠ 137 → μ'.2 a = μ.2 a
theorem y_Sc.rf {μ : q_M} : y_Sc μ μ := ⟨rfl, fun _ _ => rfl⟩
theorem y_Sc.tr {μ μ1 μ2 : q_M} (h : y_Sc μ μ1) (g : y_Sc μ1 μ2) : y_Sc μ μ2 := ⟨g.1.trans h.1, fun a ha => (g.2 a ha).trans (h.2 a ha)⟩
theorem y_Sc.sl {μ μ1 : q_M} {i : Nat} {x : Int64} (h : y_Sc μ μ1) : y_Sc μ (q_sl μ1 137 i x) := ⟨h.1, fun k hk => (q_sl_row hk).trans (h.2 k hk)⟩
theorem y_Sc.RM {σ : y_S} {μ μ' : q_M} (h : y_Sc μ μ') (r : y_RM σ μ) : y_RM σ μ' := by
  unfold y_RM at r ⊢
  rw [h.1]
  exact r
theorem y_Sc.Fm {μ μ' : q_M} (h : y_Sc μ μ') : y_Fm μ μ' := fun a ha => ⟨by rw [h.1], h.2 a (by omega)⟩
theorem z_N : (1000000000 : Int64) = lz 1000000000 := rfl
theorem z_E : (1000000000000000000 : Int64) = lz 1000000000000000000 := rfl
theorem y_prod {a m : Int} (ha : 0 ≤ a ∧ a ≤ 1000000000000000000) (hm : 0 ≤ m ∧ m < 1000000000000000) : let cr := (a % 1000000000) * (m / 1000000000) + (a / 1000000000) * (m % 1000000000); let lo := (a % 1000000000) * (m % 1000000000) + (cr % 1000000000) * 1000000000; (0 ≤ cr ∧ cr < 2000000000000000000) ∧ (0 ≤ lo ∧ lo < 2000000000000000000) ∧ (0 ≤ (a / 1000000000) * (m / 1000000000) ∧ (a / 1000000000) * (m / 1000000000) ≤ 1000000000000000) ∧ (a % 1000000000) * (m / 1000000000) < 1000000000000000 ∧ 0 ≤ (a % 1000000000) * (m / 1000000000) ∧ 0 ≤ (a / 1000000000) * (m % 1000000000) ∧ (a / 1000000000) * (m % 1000000000) < 1000000000000000000 ∧ 0 ≤ (a % 1000000000) * (m % 1000000000) ∧ (a % 1000000000) * (m % 1000000000) < 1000000000000000000 ∧ a * m = ((a / 1000000000) * (m / 1000000000) + cr / 1000000000) * 1000000000000000000 + lo := by
  intro cr lo
  have a1 : 0 ≤ a / 1000000000 ∧ a / 1000000000 ≤ 1000000000 := by omega
  have a0 : 0 ≤ a % 1000000000 ∧ a % 1000000000 < 1000000000 := by omega
  have m1 : 0 ≤ m / 1000000000 ∧ m / 1000000000 < 1000000 := by omega
  have m0 : 0 ≤ m % 1000000000 ∧ m % 1000000000 < 1000000000 := by omega
  have ea : a = a / 1000000000 * 1000000000 + a % 1000000000 := by omega
  have em : m = m / 1000000000 * 1000000000 + m % 1000000000 := by omega
  have p01 : (a % 1000000000) * (m / 1000000000) ≤ 999999999 * 999999 := Int.mul_le_mul (by omega) (by omega) m1.1 (by omega)
  have p10 : (a / 1000000000) * (m % 1000000000) ≤ 1000000000 * 999999999 := Int.mul_le_mul a1.2 (by omega) m0.1 (by omega)
  have p11 : (a / 1000000000) * (m / 1000000000) ≤ 1000000000 * 999999 := Int.mul_le_mul a1.2 (by omega) m1.1 (by omega)
  have p00 : (a % 1000000000) * (m % 1000000000) ≤ 999999999 * 999999999 := Int.mul_le_mul (by omega) (by omega) m0.1 (by omega)
  have n01 : 0 ≤ (a % 1000000000) * (m / 1000000000) := Int.mul_nonneg a0.1 m1.1
  have n10 : 0 ≤ (a / 1000000000) * (m % 1000000000) := Int.mul_nonneg a1.1 m0.1
  have n11 : 0 ≤ (a / 1000000000) * (m / 1000000000) := Int.mul_nonneg a1.1 m1.1
  have n00 : 0 ≤ (a % 1000000000) * (m % 1000000000) := Int.mul_nonneg a0.1 m0.1
  have hcr : cr = (a % 1000000000) * (m / 1000000000) + (a / 1000000000) * (m % 1000000000) := rfl
  have hlo : lo = (a % 1000000000) * (m % 1000000000) + (cr % 1000000000) * 1000000000 := rfl
  have key : a * m = (a / 1000000000) * (m / 1000000000) * 1000000000000000000 + cr * 1000000000 + (a % 1000000000) * (m % 1000000000) := by
    rw [hcr]
    generalize a / 1000000000 = A1 at *
    generalize a % 1000000000 = A0 at *
    generalize m / 1000000000 = M1 at *
    generalize m % 1000000000 = M0 at *
    rw [ea, em]
    simp only [Int.add_mul, Int.mul_add]
    have e1 : A1 * 1000000000 * (M1 * 1000000000) = A1 * M1 * 1000000000000000000 := by
      rw [Int.mul_assoc, Int.mul_left_comm 1000000000 M1 1000000000, ← Int.mul_assoc]; rfl
    have e2 : A1 * 1000000000 * M0 = A1 * M0 * 1000000000 := by rw [Int.mul_assoc, Int.mul_comm 1000000000 M0, ← Int.mul_assoc]
    have e3 : A0 * (M1 * 1000000000) = A0 * M1 * 1000000000 := by rw [← Int.mul_assoc]
    rw [e1, e2, e3]
    omega
  refine ⟨by omega, by omega, by omega, by omega, n01, n10, by omega, n00, by omega, ?_⟩
  rw [key, hlo, Int.add_mul]
  omega
theorem K_product {a m : Int} (ha : 0 ≤ a ∧ a ≤ 1000000000000000000) (hm : 0 ≤ m ∧ m < 1000000000000000) (μ : q_M) : ∃ μ', f_X10_product (lz a) (lz m) μ = some ((), μ') ∧ y_Sc μ μ' ∧ μ'.2 137 49 = lz (a * m / 1000000000000000000) ∧ μ'.2 137 50 = lz (a * m % 1000000000000000000) ∧ ∀ j, j ≠ 49 → j ≠ 50 → μ'.2 137 j = μ.2 137 j := by
  obtain ⟨h1, h2, h3, h4, h5, h6, h7, h8, h9, key⟩ := y_prod ha hm
  unfold f_X10_product
  rw [z_N, z_E]
  simp only [z_le]
  rw [z_divL ha.1 (by omega) (by omega) (by omega), z_rl ha.1 (by omega) (by omega) (by omega), z_divL hm.1 (by omega) (by omega) (by omega), z_rl hm.1 (by omega) (by omega) (by omega)]
  simp only [z_mulL, z_addL]
  rw [z_rl h1.1 (by omega) (by omega) (by omega), z_divL h1.1 (by omega) (by omega) (by omega)]
  simp only [z_mulL, z_addL, z_sl2, and_self, if_true, and_true, true_and, Nat.reduceEqDiff, and_false, if_false]
  rw [z_divL h2.1 (by omega) (by omega) (by omega), z_rl h2.1 (by omega) (by omega) (by omega), z_addL]
  refine ⟨_, rfl, ((y_Sc.rf.sl).sl).sl, ?_, ?_, ?_⟩
  · simp only [z_sl2, and_self, if_true, and_true, true_and, Nat.reduceEqDiff, and_false, if_false]
    congr 1
    rw [key]
    omega
  · simp only [z_sl2, and_self, if_true, and_true, true_and, Nat.reduceEqDiff, and_false, if_false]
    congr 1
    rw [key]
    omega
  · intro j j1 j2
    simp only [z_sl2, true_and, j1, j2, if_false]
def y_Sm (S : Int) (μ : q_M) : Prop := μ.2 137 45 = lz (S / 1000000000000000000) ∧ μ.2 137 46 = lz (S % 1000000000000000000)
theorem z_0L : (0 : Int64) = lz 0 := rfl
theorem z_1L : (1 : Int64) = lz 1 := rfl
theorem K_n109 {H L : Int} (x1 x3 : Int64) (hL : 0 ≤ L ∧ L < 2000000000000000000) (hH : -1000000000000000000 ≤ H ∧ H ≤ 1000000000000000000) {μ : q_M} (h5 : μ.2 137 45 = lz H) (h6 : μ.2 137 46 = lz L) : ∃ μ', J_X10_add_109 x1 x3 μ = some ((), μ') ∧ y_Sc μ μ' ∧ y_Sm (H * 1000000000000000000 + L) μ' ∧ ∀ j, j ≠ 45 → j ≠ 46 → μ'.2 137 j = μ.2 137 j := by
  unfold J_X10_add_109
  have c : (lg_cmp (lz L) (lz 1000000000000000000) < 0) = (L < 1000000000000000000) := (z_c0 _ _).trans (z_lt64 (by omega) (by omega) (by omega) (by omega))
  simp only [z_E, h6, c]
  by_cases q : L < 1000000000000000000
  · rw [if_pos q]
    exact ⟨_, rfl, y_Sc.rf, ⟨by rw [h5]; congr 1; omega, by rw [h6]; congr 1; omega⟩, fun j _ _ => rfl⟩
  · rw [if_neg q]
    simp only [z_le, z_subL]
    refine ⟨_, rfl, (y_Sc.rf.sl).sl, ⟨?_, ?_⟩, fun j a1 a2 => ?_⟩
    · simp only [z_sl2, and_self, if_true, and_true, true_and, Nat.reduceEqDiff, and_false, if_false]
      rw [h5, z_1L, z_addL]; congr 1; omega
    · simp only [z_sl2, and_self, if_true, and_true, true_and, Nat.reduceEqDiff, and_false, if_false]
      congr 1; omega
    · simp only [z_sl2, true_and, a1, a2, if_false]
theorem K_n78 {H L : Int} (x1 x3 : Int64) (hL : -1000000000000000000 < L ∧ L < 2000000000000000000) (hH : -100000000000000000 ≤ H ∧ H ≤ 100000000000000000) {μ : q_M} (h5 : μ.2 137 45 = lz H) (h6 : μ.2 137 46 = lz L) : ∃ μ', J_X10_add_78 x1 x3 μ = some ((), μ') ∧ y_Sc μ μ' ∧ y_Sm (H * 1000000000000000000 + L) μ' ∧ ∀ j, j ≠ 45 → j ≠ 46 → μ'.2 137 j = μ.2 137 j := by
  have c : (0 ≤ lg_cmp (μ.2 137 46) 0) = (0 ≤ L) := by rw [h6]; exact (z_c3 _ _).trans (z_le64 (b := L) (a := 0) (by omega) (by omega) (by omega) (by omega))
  have key : ∀ μ2 : q_M, μ2.2 137 45 = lz (H - 1) → μ2.2 137 46 = lz (L + 1000000000000000000) → y_Sc μ μ2 → (∀ j, j ≠ 45 → j ≠ 46 → μ2.2 137 j = μ.2 137 j) → ¬ 0 ≤ L → ∃ μ', J_X10_add_109 x1 x3 μ2 = some ((), μ') ∧ y_Sc μ μ' ∧ y_Sm (H * 1000000000000000000 + L) μ' ∧ ∀ j, j ≠ 45 → j ≠ 46 → μ'.2 137 j = μ.2 137 j := by
    intro μ2 g5 g6 gs go gn
    obtain ⟨μ', f, s, m, o⟩ := K_n109 x1 x3 (by omega) (by omega) g5 g6
    refine ⟨μ', f, gs.tr s, ?_, fun j a1 a2 => (o j a1 a2).trans (go j a1 a2)⟩
    have : (H - 1) * 1000000000000000000 + (L + 1000000000000000000) = H * 1000000000000000000 + L := by omega
    rw [this] at m
    exact m
  unfold J_X10_add_78
  simp only [c]
  by_cases q : 0 ≤ L
  · rw [if_pos q]
    exact K_n109 x1 x3 (by omega) (by omega) h5 h6
  · rw [if_neg q, z_le, z_le]
    refine key _ ?_ ?_ ((y_Sc.rf.sl).sl) (fun j a1 a2 => ?_) q
    · simp only [z_sl2, and_self, if_true, and_true, true_and, Nat.reduceEqDiff, and_false, if_false]
      rw [h5, z_1L, z_subL]
    · simp only [z_sl2, and_self, if_true, and_true, true_and, Nat.reduceEqDiff, and_false, if_false]
      rw [h6, z_E, z_addL]
    · simp only [z_sl2, true_and, a1, a2, if_false]
theorem K_add {a x S : Int} (ha : 0 ≤ a ∧ a ≤ 1000000000000000000) (hx : -1000000000000000 < x ∧ x < 1000000000000000) (hS : -10000000000000000000000000000000000 ≤ S ∧ S ≤ 10000000000000000000000000000000000) {μ : q_M} (h : y_Sm S μ) : ∃ μ', f_X10_add (lz a) (lz x) μ = some ((), μ') ∧ y_Sc μ μ' ∧ y_Sm (S + a * x) μ' ∧ ∀ j, j ≠ 45 → j ≠ 46 → j ≠ 49 → j ≠ 50 → μ'.2 137 j = μ.2 137 j := by
  have e0 : (0 ≤ lg_cmp (lz x) 0) = (0 ≤ x) := (z_c3 _ _).trans (z_le64 (b := x) (a := 0) (by omega) (by omega) (by omega) (by omega))
  have key : ∀ (p : Int) (μ1 μ2 : q_M), (-1000000000000000000000000000000000 ≤ p ∧ p ≤ 1000000000000000000000000000000000) → y_Sc μ μ1 → (∀ j, j ≠ 49 → j ≠ 50 → μ1.2 137 j = μ.2 137 j) → y_Sc μ1 μ2 → (∀ j, j ≠ 45 → j ≠ 46 → μ2.2 137 j = μ1.2 137 j) → (∃ A B : Int, μ2.2 137 45 = lz (S / 1000000000000000000 + A) ∧ μ2.2 137 46 = lz (S % 1000000000000000000 + B) ∧ A * 1000000000000000000 + B = p ∧ -1000000000000000000 < B ∧ B < 1000000000000000000) → ∃ μ', J_X10_add_78 (lz a) (lz x) μ2 = some ((), μ') ∧ y_Sc μ μ' ∧ y_Sm (S + p) μ' ∧ ∀ j, j ≠ 45 → j ≠ 46 → j ≠ 49 → j ≠ 50 → μ'.2 137 j = μ.2 137 j := by
    intro p μ1 μ2 hp s1 o1 s2 o2 hAB
    obtain ⟨A, B, g5, g6, gp, b1, b2⟩ := hAB
    obtain ⟨μ', f, s, m, o⟩ := K_n78 (lz a) (lz x) (by omega) (by omega) g5 g6
    refine ⟨μ', f, (s1.tr s2).tr s, ?_, fun j a1 a2 a3 a4 => ((o j a1 a2).trans (o2 j a1 a2)).trans (o1 j a3 a4)⟩
    have : (S / 1000000000000000000 + A) * 1000000000000000000 + (S % 1000000000000000000 + B) = S + p := by omega
    rw [this] at m
    exact m
  unfold f_X10_add
  simp only [e0]
  by_cases hx0 : 0 ≤ x
  · rw [if_pos hx0]
    unfold J_X10_add_14
    obtain ⟨μ1, f1, s1, hi, lo, ot⟩ := K_product ha (m := x) (by omega) μ
    have n0 : 0 ≤ a * x := Int.mul_nonneg ha.1 hx0
    have n1 : a * x ≤ 1000000000000000000 * 1000000000000000 := Int.mul_le_mul ha.2 (by omega) hx0 (by omega)
    rw [f1, z_bd]
    simp only [e0]
    rw [if_pos hx0, z_le, z_le]
    refine key (a * x) μ1 _ (by omega) s1 ot ((y_Sc.rf.sl).sl) (fun j a1 a2 => ?_) ⟨a * x / 1000000000000000000, a * x % 1000000000000000000, ?_, ?_, by omega, by omega, by omega⟩
    · simp only [z_sl2, true_and, a1, a2, if_false]
    · simp only [z_sl2, and_self, if_true, and_true, true_and, Nat.reduceEqDiff, and_false, if_false]
      rw [ot 45 (by decide) (by decide), h.1, hi, z_addL]
    · simp only [z_sl2, and_self, if_true, and_true, true_and, Nat.reduceEqDiff, and_false, if_false]
      rw [ot 46 (by decide) (by decide), h.2, lo, z_addL]
  · rw [if_neg hx0, z_negL]
    unfold J_X10_add_14
    obtain ⟨μ1, f1, s1, hi, lo, ot⟩ := K_product ha (m := -x) (by omega) μ
    have n0 : 0 ≤ a * -x := Int.mul_nonneg ha.1 (by omega)
    have n1 : a * -x ≤ 1000000000000000000 * 1000000000000000 := Int.mul_le_mul ha.2 (by omega) (by omega) (by omega)
    have n2 : a * x = - (a * -x) := by rw [Int.mul_neg, Int.neg_neg]
    rw [f1, z_bd]
    simp only [e0]
    rw [if_neg hx0, z_le, z_le]
    refine key (a * x) μ1 _ (by omega) s1 ot ((y_Sc.rf.sl).sl) (fun j a1 a2 => ?_) ⟨-(a * -x / 1000000000000000000), -(a * -x % 1000000000000000000), ?_, ?_, by omega, by omega, by omega⟩
    · simp only [z_sl2, true_and, a1, a2, if_false]
    · simp only [z_sl2, and_self, if_true, and_true, true_and, Nat.reduceEqDiff, and_false, if_false]
      rw [ot 45 (by decide) (by decide), h.1, hi, z_subL, Int.sub_eq_add_neg]
    · simp only [z_sl2, and_self, if_true, and_true, true_and, Nat.reduceEqDiff, and_false, if_false]
      rw [ot 46 (by decide) (by decide), h.2, lo, z_subL, Int.sub_eq_add_neg]
