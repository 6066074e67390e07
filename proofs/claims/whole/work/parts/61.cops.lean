def y_br (σ : y_S) (r : Nat) : Int := if (r : Int) < σ 0 1 ∧ 0 ≤ σ 7 r then σ 7 r else -1
def y_RB (σ : y_S) (μ : q_M) : Prop := (∀ r, r < 12 → μ.1 (14 + r) 6 = iz (y_br σ r)) ∧ ∀ r, r < 12 → ∀ b, b < 12 → bt (μ.1 (14 + r) 7) b = decide (σ 11 (12 * r + b) = 1)
theorem k_hasNode {σ : y_S} {μ : q_M} (h : y_RD σ μ) (h1 : 0 ≤ σ 0 0) (h2 : σ 0 0 ≤ 7) (x : Int32) : f_X3_hasNode x μ = some (if 0 ≤ x.toInt ∧ x.toInt < σ 0 0 then 1 else 0, μ) := by
  unfold f_X3_hasNode
  have e1 : (x < 0) = (x.toInt < 0) := by rw [Int32.lt_iff_toInt_lt]; rfl
  have e2 : (μ.1 1 0 ≤ x) = (σ 0 0 ≤ x.toInt) := by rw [d_nodes h, Int32.le_iff_toInt_le, z_toI (by omega) (by omega)]
  simp only [e1, e2]
  by_cases g1 : x.toInt < 0
  · rw [if_pos g1, if_neg (by omega)]
  · rw [if_neg g1]
    by_cases g2 : σ 0 0 ≤ x.toInt
    · rw [if_pos g2, if_neg (by omega)]
    · rw [if_neg g2, if_pos (by omega)]
theorem k_hasRoad {σ : y_S} {μ : q_M} (h : y_RD σ μ) (h1 : 0 ≤ σ 0 1) (h2 : σ 0 1 ≤ 12) (x : Int32) : f_X3_hasRoad x μ = some (if 0 ≤ x.toInt ∧ x.toInt < σ 0 1 then 1 else 0, μ) := by
  unfold f_X3_hasRoad
  have e1 : (x < 0) = (x.toInt < 0) := by rw [Int32.lt_iff_toInt_lt]; rfl
  have e2 : (μ.1 1 1 ≤ x) = (σ 0 1 ≤ x.toInt) := by rw [d_roads h, Int32.le_iff_toInt_le, z_toI (by omega) (by omega)]
  simp only [e1, e2]
  by_cases g1 : x.toInt < 0
  · rw [if_pos g1, if_neg (by omega)]
  · rw [if_neg g1]
    by_cases g2 : σ 0 1 ≤ x.toInt
    · rw [if_pos g2, if_neg (by omega)]
    · rw [if_neg g2, if_pos (by omega)]
theorem k_hasBridge {σ : y_S} {μ : q_M} (h : y_RD σ μ) (h1 : 0 ≤ σ 0 2) (h2 : σ 0 2 ≤ 6) (x : Int32) : f_X3_hasBridge x μ = some (if 0 ≤ x.toInt ∧ x.toInt < σ 0 2 then 1 else 0, μ) := by
  unfold f_X3_hasBridge
  have e1 : (x < 0) = (x.toInt < 0) := by rw [Int32.lt_iff_toInt_lt]; rfl
  have e2 : (μ.1 1 2 ≤ x) = (σ 0 2 ≤ x.toInt) := by rw [d_bridges h, Int32.le_iff_toInt_le, z_toI (by omega) (by omega)]
  simp only [e1, e2]
  by_cases g1 : x.toInt < 0
  · rw [if_pos g1, if_neg (by omega)]
  · rw [if_neg g1]
    by_cases g2 : σ 0 2 ≤ x.toInt
    · rw [if_pos g2, if_neg (by omega)]
    · rw [if_neg g2, if_pos (by omega)]
theorem k_isSize (x : Int32) (μ : q_M) : f_X9_isSize x μ = some (if 1 ≤ x.toInt ∧ x.toInt ≤ 9999 then 1 else 0, μ) := by
  unfold f_X9_isSize
  rw [k_within, z_bd, z_gd z_zb, Int32.toInt_toInt64, L1, L9999]
theorem k_cforget (μ : q_M) : f_X1_forget μ = some ((), q_si μ 2 5 0) := rfl
theorem y_fgD {σ : y_S} {μ : q_M} (h : y_RD σ μ) : y_RD (y_fg σ) (q_si μ 2 5 0) := h.set (c := 0) (j := 6) (by decide) rfl rfl (by decide)
theorem C_node {σ : y_S} {μ : q_M} (h : y_RD σ μ) (w : y_W0 σ) : ∃ μ', f_X9_node μ = some (iz (a_node σ), μ') ∧ y_RD (n_node σ) μ' ∧ (μ' = μ ∨ ∃ x, μ' = q_si μ 1 0 x) := by
  obtain ⟨w0, -⟩ := w
  unfold f_X9_node a_node n_node
  have e : (iz (σ 0 0) < 7) = (σ 0 0 < 7) := z_lt32 (b := 7) (by omega) (by omega) (by omega) (by omega)
  simp only [d_nodes h, e, z_le]
  by_cases g : σ 0 0 = 7
  · rw [if_neg (by omega), if_pos g, if_pos g]
    exact ⟨μ, rfl, h, Or.inl rfl⟩
  · rw [if_pos (by omega), if_neg g, if_neg g]
    exact ⟨_, rfl, h.set (c := 0) (j := 0) (by decide) rfl (z_a1 _) (by decide), Or.inr ⟨_, rfl⟩⟩
theorem C_size {σ : y_S} {μ : q_M} (h : y_RD σ μ) (x1 x2 x3 : Int32) : (p_size x1.toInt x2.toInt x3.toInt → f_X9_size x1 x2 x3 μ = some (1, q_si (q_si (q_si μ 2 5 0) 3 0 x1) 3 1 x2) ∧ y_RD (n_size σ x1.toInt x2.toInt) (q_si (q_si (q_si μ 2 5 0) 3 0 x1) 3 1 x2)) ∧ (¬ p_size x1.toInt x2.toInt x3.toInt → f_X9_size x1 x2 x3 μ = some (0, μ)) := by
  unfold f_X9_size
  simp only [k_isSize, k_within, z_bd, z_b0, Int32.toInt_toInt64, L1, L200, ite_not, z_le, k_cforget]
  constructor
  · intro hp
    obtain ⟨p1, p2, p3⟩ := hp
    rw [if_pos p1, if_pos p2, if_pos p3]
    refine ⟨rfl, ?_⟩
    have R := ((y_fgD h).set (c := 0) (j := 4) (by decide) rfl (z_iz x1).symm (by decide)).set (c := 0) (j := 5) (by decide) rfl (z_iz x2).symm (by decide)
    have e : n_size σ x1.toInt x2.toInt = y_up (y_up (y_fg σ) 0 4 x1.toInt) 0 5 x2.toInt := by
      unfold n_size y_fg
      funext c j
      simp only [y_up]
      by_cases c0 : c = 0
      · subst c0
        by_cases j5 : j = 5
        · subst j5; simp
        · by_cases j4 : j = 4
          · subst j4; simp
          · simp [j4, j5]
      · simp [c0]
    rw [e]
    exact R
  · intro hp
    by_cases p1 : 1 ≤ x1.toInt ∧ x1.toInt ≤ 9999
    · rw [if_pos p1]
      by_cases p2 : 1 ≤ x2.toInt ∧ x2.toInt ≤ 9999
      · rw [if_pos p2]
        by_cases p3 : 1 ≤ x3.toInt ∧ x3.toInt ≤ 200
        · exact absurd ⟨p1, p2, p3⟩ hp
        · rw [if_neg p3]
      · rw [if_neg p2]
    · rw [if_neg p1]
theorem C_record {σ : y_S} {μ : q_M} (h : y_RD σ μ) (w : y_W0 σ) (x1 : Int32) : f_X9_record x1 μ = some (if 0 ≤ x1.toInt ∧ x1.toInt < σ 0 11 then iz (σ 21 x1.toInt.toNat) else -2, μ) := by
  obtain ⟨-, -, -, -, -, -, -, -, -, -, -, w⟩ := w
  unfold f_X9_record
  have e1 : (x1 < 0) = (x1.toInt < 0) := by rw [Int32.lt_iff_toInt_lt]; rfl
  have e2 : (μ.1 0 3 ≤ x1) = (σ 0 11 ≤ x1.toInt) := by rw [d_records h, Int32.le_iff_toInt_le, z_toI (by omega) (by omega)]
  simp only [e1, e2]
  by_cases g1 : x1.toInt < 0
  · rw [if_pos g1, if_neg (by omega)]
  · rw [if_neg g1]
    by_cases g2 : σ 0 11 ≤ x1.toInt
    · rw [if_pos g2, if_neg (by omega)]
    · rw [if_neg g2, if_pos (by omega), z_gix (by omega) (by omega), z_clx, d_recorded h (by omega)]
