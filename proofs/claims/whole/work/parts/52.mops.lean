def y_WR (σ : y_S) : Prop := ∀ r : Nat, (r : Int) < σ 0 1 → (0 ≤ σ 1 r ∧ σ 1 r < σ 0 0) ∧ (0 ≤ σ 2 r ∧ σ 2 r < σ 0 0) ∧ σ 1 r ≠ σ 2 r ∧ (1 ≤ σ 3 r ∧ σ 3 r ≤ 600) ∧ (1 ≤ σ 4 r ∧ σ 4 r ≤ 9999) ∧ (1 ≤ σ 5 r ∧ σ 5 r ≤ 9999) ∧ (0 ≤ σ 6 r ∧ σ 6 r ≤ 1) ∧ (-2 ≤ σ 7 r ∧ σ 7 r < σ 0 2) ∧ (0 ≤ σ 8 r ∧ σ 8 r ≤ 3) ∧ ∀ k : Nat, (k : Int) < σ 8 r → (0 ≤ σ 9 (3 * r + k) ∧ σ 9 (3 * r + k) < 1440) ∧ (0 ≤ σ 10 (3 * r + k) ∧ σ 10 (3 * r + k) < 1440)
theorem z_gix {α : Type} {x : Int32} {n : Nat} {y : Option α} (h1 : 0 ≤ x.toInt) (h2 : x.toInt < n) : q_gd (q_ix x n) y = y := z_gd (by rw [← z_iz x]; exact z_ix h1 h2 (z_i2 x))
theorem z_clx (x : Int32) : x.toNatClampNeg = x.toInt.toNat := rfl
def p_bridge (σ : y_S) (a : Int) : Prop := (0 ≤ a ∧ a < σ 0 1) ∧ ¬ 0 ≤ σ 7 a.toNat ∧ ¬ σ 0 2 = 6
def n_bridge (σ : y_S) (a : Int) : y_S := y_fg (y_up (y_up σ 7 a.toNat (σ 0 2)) 0 2 (σ 0 2 + 1))
theorem M_bridge {σ : y_S} {μ : q_M} (h : y_RM σ μ) (w : y_W0 σ) (wr : y_WR σ) (x1 : Int32) : (p_bridge σ x1.toInt → ∃ μ', f_X10_bridge x1 μ = some (iz (σ 0 2), μ') ∧ y_RM (n_bridge σ x1.toInt) μ' ∧ y_Fm μ μ') ∧ (¬ p_bridge σ x1.toInt → f_X10_bridge x1 μ = some (-1, μ)) := by
  obtain ⟨w0, w1, w2, -⟩ := w
  have hb : (μ.1 137 13 = 6) = (σ 0 2 = 6) := by rw [m_bridges h]; exact z_eq32 (b := 6) (by omega) (by omega) (by omega) (by omega)
  unfold f_X10_bridge
  rw [k_isRoad h w1.1 w1.2]
  simp only [z_bd, z_b0, ite_not]
  by_cases p1 : 0 ≤ x1.toInt ∧ x1.toInt < σ 0 1
  · rw [if_pos p1, z_gix (by omega) (by omega), z_clx, m_bridgeOf h]
    have g := wr x1.toInt.toNat (by omega)
    have e : (0 ≤ iz (σ 7 x1.toInt.toNat)) = (0 ≤ σ 7 x1.toInt.toNat) := z_le32 (a := 0) (by omega) (by omega) (by omega) (by omega)
    simp only [e, hb]
    constructor
    · intro hp
      obtain ⟨-, p2, p3⟩ := hp
      rw [if_neg p2, if_neg p3]
      simp only [z_le, z_si1, Nat.reduceEqDiff, false_and, and_false, and_true, true_and, if_true, if_false, k_forget, z_bd, m_bridges h, z_a1, z_s1, Int.add_sub_cancel]
      refine ⟨_, rfl, ?_, ?_⟩
      · exact y_fgR (y_set0 (y_setA h (by decide) (by decide) rfl rfl) (by decide) rfl rfl)
      · exact ((y_Fm.rf.si (by decide)).si (by decide)).si (by decide)
    · intro hp
      by_cases p2 : 0 ≤ σ 7 x1.toInt.toNat
      · rw [if_pos p2]
      · rw [if_neg p2]
        by_cases p3 : σ 0 2 = 6
        · rw [if_pos p3]
        · exact absurd ⟨p1, p2, p3⟩ hp
  · rw [if_neg p1]
    exact ⟨fun hp => absurd hp.1 p1, fun _ => rfl⟩
def p_size (a b c : Int) : Prop := (1 ≤ a ∧ a ≤ 9999) ∧ (1 ≤ b ∧ b ≤ 9999) ∧ (1 ≤ c ∧ c ≤ 200)
def n_size (σ : y_S) (a b : Int) : y_S := y_fg (y_up (y_up σ 0 4 a) 0 5 b)
theorem M_size {σ : y_S} {μ : q_M} (h : y_RM σ μ) (x1 x2 x3 : Int32) : (p_size x1.toInt x2.toInt x3.toInt → ∃ μ', f_X10_size x1 x2 x3 μ = some (1, μ') ∧ y_RM (n_size σ x1.toInt x2.toInt) μ' ∧ y_Fm μ μ') ∧ (¬ p_size x1.toInt x2.toInt x3.toInt → f_X10_size x1 x2 x3 μ = some (0, μ)) := by
  unfold f_X10_size
  simp only [k_in, z_bd, z_b0, Int32.toInt_toInt64, L1, L9999, L200, ite_not, z_le, k_forget]
  constructor
  · intro hp
    obtain ⟨p1, p2, p3⟩ := hp
    rw [if_pos p1, if_pos p2, if_pos p3]
    exact ⟨_, rfl, y_fgR (y_set0 (y_set0 h (by decide) rfl (z_iz x1).symm) (by decide) rfl (z_iz x2).symm), ((y_Fm.rf.si (by decide)).si (by decide)).si (by decide)⟩
  · intro hp
    by_cases p1 : 1 ≤ x1.toInt ∧ x1.toInt ≤ 9999
    · rw [if_pos p1]
      by_cases p2 : 1 ≤ x2.toInt ∧ x2.toInt ≤ 9999
      · rw [if_pos p2]
        by_cases p3 : 1 ≤ x3.toInt ∧ x3.toInt ≤ 200
        · exact absurd ⟨p1, p2, p3⟩ hp
        · rw [if_neg p3]
      · rw [if_neg p2]
    · rw [if_neg p1]
def p_change (σ : y_S) (a : Int) : Prop := 0 ≤ a ∧ a < σ 0 1
def n_change (σ : y_S) (a v : Int) : y_S := y_fg (y_up σ 6 a.toNat v)
theorem M_change {σ : y_S} {μ : q_M} (h : y_RM σ μ) (w : y_W0 σ) (wr : y_WR σ) (x1 x2 : Int32) (hz : q_zb x2 = true) : (p_change σ x1.toInt → ∃ μ', f_X10_change x1 x2 μ = some (iz (σ 6 x1.toInt.toNat), μ') ∧ y_RM (n_change σ x1.toInt x2.toInt) μ' ∧ y_Fm μ μ') ∧ (¬ p_change σ x1.toInt → f_X10_change x1 x2 μ = some (-1, μ)) := by
  obtain ⟨w0, w1, w2, -⟩ := w
  unfold f_X10_change
  rw [k_isRoad h w1.1 w1.2]
  simp only [z_bd, z_b0, ite_not]
  by_cases p1 : 0 ≤ x1.toInt ∧ x1.toInt < σ 0 1
  · rw [if_pos p1, z_gix (by omega) (by omega), z_clx, m_opens h]
    have g := wr x1.toInt.toNat (by omega)
    refine ⟨fun _ => ?_, fun hp => absurd p1 hp⟩
    have e : (iz (σ 6 x1.toInt.toNat) = 0) = (σ 6 x1.toInt.toNat = 0) := z_eq32 (b := 0) (by omega) (by omega) (by omega) (by omega)
    have R : y_RM (n_change σ x1.toInt x2.toInt) (q_si (q_si μ 143 x1.toInt.toNat x2) 137 28 0) := y_fgR (y_setA h (by decide) (by decide) rfl (z_iz x2).symm)
    have Fr : y_Fm μ (q_si (q_si μ 143 x1.toInt.toNat x2) 137 28 0) := (y_Fm.rf.si (by decide)).si (by decide)
    simp only [e]
    by_cases p2 : σ 6 x1.toInt.toNat = 0
    · rw [if_pos p2, p2]
      unfold J_X10_change_24
      rw [z_gix (by omega) (by omega), z_gd hz, z_le, k_forget, z_bd]
      exact ⟨_, rfl, R, Fr⟩
    · rw [if_neg p2, show σ 6 x1.toInt.toNat = 1 by omega]
      unfold J_X10_change_24
      rw [z_gix (by omega) (by omega), z_gd hz, z_le, k_forget, z_bd]
      exact ⟨_, rfl, R, Fr⟩
  · rw [if_neg p1]
    exact ⟨fun hp => absurd hp p1, fun _ => rfl⟩
def p_slow (σ : y_S) (a : Int) : Prop := 0 ≤ a ∧ a < σ 0 2
def n_slow (σ : y_S) (a v : Int) : y_S := y_fg (y_up σ 12 a.toNat v)
theorem M_slow {σ : y_S} {μ : q_M} (h : y_RM σ μ) (w : y_W0 σ) (wz : ∀ b, σ 12 b = 0 ∨ σ 12 b = 1) (x1 x2 : Int32) (hz : q_zb x2 = true) : (p_slow σ x1.toInt → ∃ μ', f_X10_slow x1 x2 μ = some (iz (σ 12 x1.toInt.toNat), μ') ∧ y_RM (n_slow σ x1.toInt x2.toInt) μ' ∧ y_Fm μ μ') ∧ (¬ p_slow σ x1.toInt → f_X10_slow x1 x2 μ = some (-1, μ)) := by
  obtain ⟨w0, w1, w2, -⟩ := w
  unfold f_X10_slow
  rw [k_isBridge h w2.1 w2.2]
  simp only [z_bd, z_b0, ite_not]
  by_cases p1 : 0 ≤ x1.toInt ∧ x1.toInt < σ 0 2
  · rw [if_pos p1, z_gix (by omega) (by omega), z_clx, m_isSlow h]
    have g := wz x1.toInt.toNat
    refine ⟨fun _ => ?_, fun hp => absurd p1 hp⟩
    have e : (iz (σ 12 x1.toInt.toNat) = 0) = (σ 12 x1.toInt.toNat = 0) := z_eq32 (b := 0) (by omega) (by omega) (by omega) (by omega)
    have R : y_RM (n_slow σ x1.toInt x2.toInt) (q_si (q_si μ 149 x1.toInt.toNat x2) 137 28 0) := y_fgR (y_setA h (by decide) (by decide) rfl (z_iz x2).symm)
    have Fr : y_Fm μ (q_si (q_si μ 149 x1.toInt.toNat x2) 137 28 0) := (y_Fm.rf.si (by decide)).si (by decide)
    simp only [e]
    by_cases p2 : σ 12 x1.toInt.toNat = 0
    · rw [if_pos p2, p2]
      unfold J_X10_slow_24
      rw [z_gix (by omega) (by omega), z_gd hz, z_le, k_forget, z_bd]
      exact ⟨_, rfl, R, Fr⟩
    · rw [if_neg p2, show σ 12 x1.toInt.toNat = 1 by omega]
      unfold J_X10_slow_24
      rw [z_gix (by omega) (by omega), z_gd hz, z_le, k_forget, z_bd]
      exact ⟨_, rfl, R, Fr⟩
  · rw [if_neg p1]
    exact ⟨fun hp => absurd hp p1, fun _ => rfl⟩
theorem M_record {σ : y_S} {μ : q_M} (h : y_RM σ μ) (w : y_W0 σ) (x1 : Int32) : f_X10_record x1 μ = some (if 0 ≤ x1.toInt ∧ x1.toInt < σ 0 11 then iz (σ 21 x1.toInt.toNat) else -2, μ) := by
  obtain ⟨-, -, -, -, -, -, -, -, -, -, -, w⟩ := w
  have hn : (μ.1 137 31 - 1).toInt = σ 0 11 - 1 := by rw [m_records h]; exact z_m1 (by omega) (by omega)
  unfold f_X10_record
  simp only [k_in, z_bd, z_b0, Int32.toInt_toInt64, hn, L0, ite_not]
  by_cases p1 : 0 ≤ x1.toInt ∧ x1.toInt < σ 0 11
  · rw [if_pos (by omega), if_pos p1, z_gix (by omega) (by omega), z_clx, m_recorded h]
  · rw [if_neg (by omega), if_neg p1]
def p_hours (σ : y_S) (a b c : Int) : Prop := (0 ≤ a ∧ a < σ 0 1) ∧ (0 ≤ b ∧ b ≤ 1439) ∧ (0 ≤ c ∧ c ≤ 1439) ∧ ¬ σ 8 a.toNat = 3
def n_hours (σ : y_S) (a b c : Int) : y_S := y_fg (y_up (y_up (y_up σ 9 (3 * a.toNat + (σ 8 a.toNat).toNat) b) 10 (3 * a.toNat + (σ 8 a.toNat).toNat) c) 8 a.toNat (σ 8 a.toNat + 1))
theorem M_hours {σ : y_S} {μ : q_M} (h : y_RM σ μ) (w : y_W0 σ) (wr : y_WR σ) (x1 x2 x3 : Int32) : (p_hours σ x1.toInt x2.toInt x3.toInt → ∃ μ', f_X10_hours x1 x2 x3 μ = some (1, μ') ∧ y_RM (n_hours σ x1.toInt x2.toInt x3.toInt) μ' ∧ y_Fm μ μ') ∧ (¬ p_hours σ x1.toInt x2.toInt x3.toInt → f_X10_hours x1 x2 x3 μ = some (0, μ)) := by
  obtain ⟨w0, w1, w2, -⟩ := w
  unfold f_X10_hours
  rw [k_isRoad h w1.1 w1.2]
  simp only [z_bd, z_b0, ite_not, k_in, Int32.toInt_toInt64, L0, L1439]
  by_cases p1 : 0 ≤ x1.toInt ∧ x1.toInt < σ 0 1
  · rw [if_pos p1]
    by_cases p2 : 0 ≤ x2.toInt ∧ x2.toInt ≤ 1439
    · rw [if_pos p2]
      by_cases p3 : 0 ≤ x3.toInt ∧ x3.toInt ≤ 1439
      · rw [if_pos p3, z_gix (by omega) (by omega), z_clx, m_hourCounts h]
        have g := (wr x1.toInt.toNat (by omega)).2.2.2.2.2.2.2.2.1
        have e : (iz (σ 8 x1.toInt.toNat) = 3) = (σ 8 x1.toInt.toNat = 3) := z_eq32 (b := 3) (by omega) (by omega) (by omega) (by omega)
        simp only [e]
        by_cases p4 : σ 8 x1.toInt.toNat = 3
        · rw [if_pos p4]
          exact ⟨fun hp => absurd p4 hp.2.2.2, fun _ => rfl⟩
        · rw [if_neg p4]
          refine ⟨fun _ => ?_, fun hp => absurd ⟨p1, p2, p3, p4⟩ hp⟩
          have s : 3 * x1 + iz (σ 8 x1.toInt.toNat) = iz (3 * x1.toInt + σ 8 x1.toInt.toNat) := by
            rw [← z_add, ← z_mul, z_iz]; rfl
          have cl : (iz (3 * x1.toInt + σ 8 x1.toInt.toNat)).toNatClampNeg = 3 * x1.toInt.toNat + (σ 8 x1.toInt.toNat).toNat := by
            rw [z_cl (by omega) (by omega)]; omega
          have gi : ∀ {α : Type} (y : Option α), q_gd (q_ix (iz (3 * x1.toInt + σ 8 x1.toInt.toNat)) 36) y = y := fun y => z_gd (z_ix (by omega) (by omega) (by omega))
          simp only [z_le, z_si1, Nat.reduceEqDiff, false_and, and_false, and_true, true_and, if_true, if_false, m_hourCounts h, s, gi, cl, k_forget, z_bd, z_a1]
          refine ⟨_, rfl, ?_, ?_⟩
          · exact y_fgR (y_setA (y_setA (y_setA h (by decide) (by decide) rfl (z_iz x2).symm) (by decide) (by decide) rfl (z_iz x3).symm) (by decide) (by decide) rfl rfl)
          · exact (((y_Fm.rf.si (by decide)).si (by decide)).si (by decide)).si (by decide)
      · rw [if_neg p3]
        exact ⟨fun hp => absurd hp.2.2.1 p3, fun _ => rfl⟩
    · rw [if_neg p2]
      exact ⟨fun hp => absurd hp.2.1 p2, fun _ => rfl⟩
  · rw [if_neg p1]
    exact ⟨fun hp => absurd hp.1 p1, fun _ => rfl⟩
def p_turn (σ : y_S) (a b : Int) : Prop := (0 ≤ a ∧ a < σ 0 1) ∧ (0 ≤ b ∧ b < σ 0 1) ∧ ¬ a = b ∧ (σ 1 a.toNat = σ 1 b.toNat ∨ σ 1 a.toNat = σ 2 b.toNat ∨ σ 2 a.toNat = σ 1 b.toNat ∨ σ 2 a.toNat = σ 2 b.toNat)
def n_turn (σ : y_S) (a b v : Int) : y_S := y_fg (y_up σ 11 (12 * a.toNat + b.toNat) (if v = 0 then 1 else 0))
theorem M_turn {σ : y_S} {μ : q_M} (h : y_RM σ μ) (w : y_W0 σ) (wr : y_WR σ) (x1 x2 x3 : Int32) : (p_turn σ x1.toInt x2.toInt → ∃ μ', f_X10_turn x1 x2 x3 μ = some (1, μ') ∧ y_RM (n_turn σ x1.toInt x2.toInt x3.toInt) μ' ∧ y_Fm μ μ') ∧ (¬ p_turn σ x1.toInt x2.toInt → f_X10_turn x1 x2 x3 μ = some (0, μ)) := by
  obtain ⟨w0, w1, w2, -⟩ := w
  unfold f_X10_turn
  rw [k_isRoad h w1.1 w1.2]
  simp only [z_bd, z_b0, ite_not]
  by_cases p1 : 0 ≤ x1.toInt ∧ x1.toInt < σ 0 1
  · rw [if_pos p1, k_isRoad h w1.1 w1.2]
    simp only [z_bd, z_b0, ite_not]
    by_cases p2 : 0 ≤ x2.toInt ∧ x2.toInt < σ 0 1
    · have hx : (x1 = x2) = (x1.toInt = x2.toInt) := z_e32 x1 x2
      simp only [if_pos p2, hx]
      by_cases p3 : x1.toInt = x2.toInt
      · rw [if_pos p3]
        exact ⟨fun hp => absurd p3 hp.2.2.1, fun _ => rfl⟩
      · rw [if_neg p3, z_gix (by omega) (by omega), z_gix (by omega) (by omega)]
        have ga := wr x1.toInt.toNat (by omega)
        have gb := wr x2.toInt.toNat (by omega)
        simp only [z_clx, m_as h, m_bs h]
        have q1 : (iz (σ 1 x1.toInt.toNat) = iz (σ 1 x2.toInt.toNat)) = (σ 1 x1.toInt.toNat = σ 1 x2.toInt.toNat) := z_eq32 (by omega) (by omega) (by omega) (by omega)
        have q2 : (iz (σ 1 x1.toInt.toNat) = iz (σ 2 x2.toInt.toNat)) = (σ 1 x1.toInt.toNat = σ 2 x2.toInt.toNat) := z_eq32 (by omega) (by omega) (by omega) (by omega)
        have q3 : (iz (σ 2 x1.toInt.toNat) = iz (σ 1 x2.toInt.toNat)) = (σ 2 x1.toInt.toNat = σ 1 x2.toInt.toNat) := z_eq32 (by omega) (by omega) (by omega) (by omega)
        have q4 : (iz (σ 2 x1.toInt.toNat) = iz (σ 2 x2.toInt.toNat)) = (σ 2 x1.toInt.toNat = σ 2 x2.toInt.toNat) := z_eq32 (by omega) (by omega) (by omega) (by omega)
        simp only [q1, q2, q3, q4]
        have s : 12 * x1 + x2 = iz (12 * x1.toInt + x2.toInt) := by
          rw [← z_add, ← z_mul, z_iz, z_iz]; rfl
        have cl : (iz (12 * x1.toInt + x2.toInt)).toNatClampNeg = 12 * x1.toInt.toNat + x2.toInt.toNat := by
          rw [z_cl (by omega) (by omega)]; omega
        have J : ∃ μ', J_X10_turn_85 x1 x2 x3 μ = some (1, μ') ∧ y_RM (n_turn σ x1.toInt x2.toInt x3.toInt) μ' ∧ y_Fm μ μ' := by
          unfold J_X10_turn_85 n_turn
          have hx : (x3 = 0) = (x3.toInt = 0) := z_e32 x3 0
          have gi : ∀ {α : Type} (y : Option α), q_gd (q_ix (iz (12 * x1.toInt + x2.toInt)) 144) y = y := fun y => z_gd (z_ix (by omega) (by omega) (by omega))
          simp only [s, gi, cl, hx, z_le, k_forget, z_bd]
          by_cases p4 : x3.toInt = 0
          · rw [if_pos p4, if_pos p4]
            exact ⟨_, rfl, y_fgR (y_setA h (by decide) (by decide) rfl rfl), (y_Fm.rf.si (by decide)).si (by decide)⟩
          · rw [if_neg p4, if_neg p4]
            exact ⟨_, rfl, y_fgR (y_setA h (by decide) (by decide) rfl rfl), (y_Fm.rf.si (by decide)).si (by decide)⟩
        by_cases e1 : σ 1 x1.toInt.toNat = σ 1 x2.toInt.toNat
        · rw [if_pos e1]
          exact ⟨fun _ => J, fun hp => absurd ⟨p1, p2, p3, Or.inl e1⟩ hp⟩
        · rw [if_neg e1]
          by_cases e2 : σ 1 x1.toInt.toNat = σ 2 x2.toInt.toNat
          · rw [if_pos e2]
            exact ⟨fun _ => J, fun hp => absurd ⟨p1, p2, p3, Or.inr (Or.inl e2)⟩ hp⟩
          · rw [if_neg e2]
            by_cases e3 : σ 2 x1.toInt.toNat = σ 1 x2.toInt.toNat
            · rw [if_pos e3]
              exact ⟨fun _ => J, fun hp => absurd ⟨p1, p2, p3, Or.inr (Or.inr (Or.inl e3))⟩ hp⟩
            · rw [if_neg e3]
              by_cases e4 : σ 2 x1.toInt.toNat = σ 2 x2.toInt.toNat
              · rw [if_pos e4]
                exact ⟨fun _ => J, fun hp => absurd ⟨p1, p2, p3, Or.inr (Or.inr (Or.inr e4))⟩ hp⟩
              · rw [if_neg e4]
                refine ⟨fun hp => ?_, fun _ => rfl⟩
                rcases hp.2.2.2 with q | q | q | q
                · exact absurd q e1
                · exact absurd q e2
                · exact absurd q e3
                · exact absurd q e4
    · rw [if_neg p2]
      exact ⟨fun hp => absurd hp.2.1 p2, fun _ => rfl⟩
  · rw [if_neg p1]
    exact ⟨fun hp => absurd hp.1 p1, fun _ => rfl⟩
