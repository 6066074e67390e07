theorem c_ca9 {a k : Nat} (hk : k < 3) : c_ca 9 (3 * a + k) = (14 + a + 12, k) := by
  unfold c_ca
  rw [if_neg (by decide), if_neg (by decide), if_neg (by decide), if_pos rfl, show 26 + (3 * a + k) / 3 = 14 + a + 12 by omega, show (3 * a + k) % 3 = k by omega]
theorem c_ca10 {a k : Nat} (hk : k < 3) : c_ca 10 (3 * a + k) = (14 + a + 24, k) := by
  unfold c_ca
  rw [if_neg (by decide), if_neg (by decide), if_neg (by decide), if_neg (by decide), if_pos rfl, show 38 + (3 * a + k) / 3 = 14 + a + 24 by omega, show (3 * a + k) % 3 = k by omega]
def u_hours (μ : q_M) (a k : Nat) (x2 x3 y : Int32) : q_M := q_si (q_si (q_si (q_si μ 2 5 0) (14 + a + 12) k x2) (14 + a + 24) k x3) (14 + a) 8 y
theorem C_hours {σ : y_S} {μ : q_M} (h : y_RD σ μ) (hB : y_RB σ μ) (w : y_W0 σ) (wr : y_WR σ) (x1 x2 x3 : Int32) : (p_hours σ x1.toInt x2.toInt x3.toInt → ∃ μ', μ' = u_hours μ x1.toInt.toNat (σ 8 x1.toInt.toNat).toNat x2 x3 (iz (σ 8 x1.toInt.toNat + 1)) ∧ f_X9_hours x1 x2 x3 μ = some (1, μ') ∧ y_RD (n_hours σ x1.toInt x2.toInt x3.toInt) μ' ∧ y_RB (n_hours σ x1.toInt x2.toInt x3.toInt) μ') ∧ (¬ p_hours σ x1.toInt x2.toInt x3.toInt → f_X9_hours x1 x2 x3 μ = some (0, μ)) := by
  obtain ⟨w0, w1, w2, -⟩ := w
  unfold f_X9_hours
  rw [k_hasRoad h w1.1 w1.2]
  simp only [z_bd, z_b0, ite_not, k_within, Int32.toInt_toInt64, L0, L1439, k_cforget]
  by_cases p1 : 0 ≤ x1.toInt ∧ x1.toInt < σ 0 1
  · rw [if_pos p1, z_gix (by omega) (by omega), z_clx]
    unfold n_hours p_hours
    have ha : ((x1.toInt.toNat : Nat) : Int) < σ 0 1 := by omega
    generalize x1.toInt.toNat = a at ha
    have g := (wr a ha).2.2.2.2.2.2.2.2.1
    have e : (iz (σ 8 a) < 3) = (σ 8 a < 3) := z_lt32 (b := 3) (by omega) (by omega) (by omega) (by omega)
    simp only [d_hourCounts h (show a < 12 by omega), e]
    by_cases p4 : σ 8 a = 3
    · rw [if_neg (by omega)]
      exact ⟨fun hp => absurd p4 hp.2.2.2, fun _ => rfl⟩
    · rw [if_pos (by omega)]
      by_cases p2 : 0 ≤ x2.toInt ∧ x2.toInt ≤ 1439
      · rw [if_pos p2]
        by_cases p3 : 0 ≤ x3.toInt ∧ x3.toInt ≤ 1439
        · rw [if_pos p3]
          refine ⟨fun _ => ⟨_, rfl, ?_, ?_, ?_⟩, fun hp => absurd ⟨p1, p2, p3, p4⟩ hp⟩
          · unfold f_X6_addBar u_hours
            have n1 : (14 + a = 2) = False := eq_false (by omega)
            have n2 : (14 + a = 14 + a + 12) = False := eq_false (by omega)
            have n3 : (14 + a = 14 + a + 24) = False := eq_false (by omega)
            have cl : (iz (σ 8 a)).toNatClampNeg = (σ 8 a).toNat := z_cl (by omega) (by omega)
            have gi : ∀ {α : Type} (y : Option α), q_gd (q_ix (iz (σ 8 a)) 3) y = y := fun y => z_gd (z_ix (by omega) (by omega) (by omega))
            simp only [z_si1, n1, n2, n3, false_and, if_false, d_hourCounts h (show a < 12 by omega), e, gi, cl, z_le, z_a1]
            rw [if_pos (by omega), z_bd]
          · have R := (((y_fgD h).set (c := 9) (j := 3 * a + (σ 8 a).toNat) (v := x2.toInt) (by simp [c_dom]; omega) (c_ca9 (by omega)) (z_iz x2).symm rfl).set (c := 10) (j := 3 * a + (σ 8 a).toNat) (v := x3.toInt) (by simp [c_dom]; omega) (c_ca10 (by omega)) (z_iz x3).symm rfl).set (c := 8) (j := a) (v := σ 8 a + 1) (by simp [c_dom]; omega) rfl rfl rfl
            simp only [y_fgn (c := 9) (by decide), y_fgn (c := 10) (by decide), y_fgn (c := 8) (by decide)] at R
            exact R
          · refine y_RB.eq ((((hB.other (a := 2) (i := 5) (x := 0) (by omega)).other (a := 14 + a + 12) (i := (σ 8 a).toNat) (x := x2) (by omega)).other (a := 14 + a + 24) (i := (σ 8 a).toNat) (x := x3) (by omega)).other (a := 14 + a) (i := 8) (by omega)) (fun r hr => ?_) (fun j => ?_)
            · unfold y_br y_fg; simp [y_up]
            · unfold y_fg; simp [y_up]
        · rw [if_neg p3]
          exact ⟨fun hp => absurd hp.2.2.1 p3, fun _ => rfl⟩
      · rw [if_neg p2]
        exact ⟨fun hp => absurd hp.2.1 p2, fun _ => rfl⟩
  · rw [if_neg p1]
    exact ⟨fun hp => absurd hp.1 p1, fun _ => rfl⟩
theorem k_across {σ : y_S} {μ : q_M} (h : y_RD σ μ) (wr : y_WR σ) (w0 : σ 0 0 ≤ 7) (w1 : σ 0 1 ≤ 12) {r : Nat} (hr : (r : Int) < σ 0 1) {n : Int} (hn : -1 ≤ n ∧ n < 100) : f_X6_nodeAcross (14 + r) (iz n) μ = some (iz (if n = σ 1 r then σ 2 r else if n = σ 2 r then σ 1 r else -1), μ) := by
  have g := wr r hr
  have e1 : (iz n = iz (σ 1 r)) = (n = σ 1 r) := z_eq32 (by omega) (by omega) (by omega) (by omega)
  have e2 : (iz n = iz (σ 2 r)) = (n = σ 2 r) := z_eq32 (by omega) (by omega) (by omega) (by omega)
  unfold f_X6_nodeAcross
  simp only [d_as h (show r < 12 by omega), d_bs h (show r < 12 by omega), e1, e2]
  by_cases c1 : n = σ 1 r
  · rw [if_pos c1, if_pos c1]
  · rw [if_neg c1, if_neg c1]
    by_cases c2 : n = σ 2 r
    · rw [if_pos c2, if_pos c2]
    · rw [if_neg c2, if_neg c2]; rfl
theorem k_meets {σ : y_S} {μ : q_M} (h : y_RD σ μ) (wr : y_WR σ) (w0 : σ 0 0 ≤ 7) (w1 : σ 0 1 ≤ 12) {a b : Nat} (ha : (a : Int) < σ 0 1) (hb : (b : Int) < σ 0 1) : f_X6_meets (14 + a) (14 + b) μ = some (if σ 1 a = σ 1 b ∨ σ 1 a = σ 2 b ∨ σ 2 a = σ 1 b ∨ σ 2 a = σ 2 b then 1 else 0, μ) := by
  have ga := wr a ha
  have gb := wr b hb
  unfold f_X6_meets
  rw [d_as h (show a < 12 by omega), k_across h wr w0 w1 hb (by omega), z_bd, d_bs h (show a < 12 by omega), k_across h wr w0 w1 hb (by omega), z_bd]
  have e : ∀ z : Int, -2 ≤ z → z < 100 → (iz z = -1) = (z = -1) := fun z h1 h2 => z_eq32 (b := -1) (by omega) (by omega) (by omega) (by omega)
  by_cases c1 : σ 1 a = σ 1 b
  · rw [if_pos c1, if_pos (Or.inl c1), if_neg (by rw [e _ (by omega) (by omega)]; omega)]
  · by_cases c2 : σ 1 a = σ 2 b
    · rw [if_neg c1, if_pos c2, if_pos (Or.inr (Or.inl c2)), if_neg (by rw [e _ (by omega) (by omega)]; omega)]
    · rw [if_neg c1, if_neg c2, if_pos (show iz (-1) = -1 from rfl)]
      by_cases c3 : σ 2 a = σ 1 b
      · rw [if_pos c3, if_pos (Or.inr (Or.inr (Or.inl c3))), if_neg (by rw [e _ (by omega) (by omega)]; omega)]
      · by_cases c4 : σ 2 a = σ 2 b
        · rw [if_neg c3, if_pos c4, if_pos (Or.inr (Or.inr (Or.inr c4))), if_neg (by rw [e _ (by omega) (by omega)]; omega)]
        · rw [if_neg c3, if_neg c4, if_pos (show iz (-1) = -1 from rfl), if_neg (by omega)]
theorem y_RB.setT {σ σ' : y_S} {μ : q_M} {a : Nat} {x : Int32} (h : y_RB σ μ) (h1 : ∀ r, r < 12 → y_br σ' r = y_br σ r) (h2 : ∀ b, b < 12 → bt x b = decide (σ' 11 (12 * a + b) = 1)) (h3 : ∀ r, r < 12 → r ≠ a → ∀ b, b < 12 → σ' 11 (12 * r + b) = σ 11 (12 * r + b)) : y_RB σ' (q_si μ (14 + a) 7 x) := by
  refine ⟨fun r hr => ?_, fun r hr b hb => ?_⟩
  · rw [z_si1, if_neg (by omega), h.1 r hr, h1 r hr]
  · rw [z_si1]
    by_cases e : r = a
    · subst e; rw [if_pos ⟨rfl, rfl⟩, h2 b hb]
    · rw [if_neg (by omega), h.2 r hr b hb, h3 r hr e b hb]
theorem C_turn {σ : y_S} {μ : q_M} (h : y_RD σ μ) (hB : y_RB σ μ) (w : y_W0 σ) (wr : y_WR σ) (x1 x2 x3 : Int32) : (p_turn σ x1.toInt x2.toInt → ∃ μ' y, μ' = q_si (q_si μ 2 5 0) (14 + x1.toInt.toNat) 7 y ∧ f_X9_turn x1 x2 x3 μ = some (1, μ') ∧ y_RD (n_turn σ x1.toInt x2.toInt x3.toInt) μ' ∧ y_RB (n_turn σ x1.toInt x2.toInt x3.toInt) μ') ∧ (¬ p_turn σ x1.toInt x2.toInt → f_X9_turn x1 x2 x3 μ = some (0, μ)) := by
  obtain ⟨w0, w1, w2, -⟩ := w
  unfold f_X9_turn
  rw [k_hasRoad h w1.1 w1.2]
  have hx : (x1 = x2) = (x1.toInt = x2.toInt) := z_e32 x1 x2
  simp only [z_bd, z_b0, ite_not]
  by_cases p1 : 0 ≤ x1.toInt ∧ x1.toInt < σ 0 1
  · rw [if_pos p1, k_hasRoad h w1.1 w1.2]
    simp only [z_bd, z_b0, ite_not, hx]
    by_cases p2 : 0 ≤ x2.toInt ∧ x2.toInt < σ 0 1
    · rw [if_pos p2]
      by_cases p3 : x1.toInt = x2.toInt
      · rw [if_pos p3]
        exact ⟨fun hp => absurd p3 hp.2.2.1, fun _ => rfl⟩
      · rw [if_neg p3, z_gix (by omega) (by omega), z_gix (by omega) (by omega), z_clx, z_clx]
        unfold p_turn n_turn
        have ha : ((x1.toInt.toNat : Nat) : Int) < σ 0 1 := by omega
        have hb : ((x2.toInt.toNat : Nat) : Int) < σ 0 1 := by omega
        have e2 : x2 = iz ((x2.toInt.toNat : Nat) : Int) := by rw [Int.toNat_of_nonneg p2.1, z_iz]
        generalize x1.toInt.toNat = a at ha
        rw [k_meets h wr w0.2 w1.2 ha hb, z_bd]
        generalize x2.toInt.toNat = b at hb e2
        simp only [z_b0, ite_not]
        by_cases p4 : σ 1 a = σ 1 b ∨ σ 1 a = σ 2 b ∨ σ 2 a = σ 1 b ∨ σ 2 a = σ 2 b
        · rw [if_pos p4]
          refine ⟨fun _ => ?_, fun hp => absurd ⟨p1, p2, p3, p4⟩ hp⟩
          have n1 : (14 + a = 2) = False := eq_false (by omega)
          have hz : (x3 = 0) = (x3.toInt = 0) := z_e32 x3 0
          simp only [k_cforget, z_bd, f_X6_setTurn, z_le, z_si1, n1, false_and, if_false, hz]
          have R : ∀ (y : Int32) (v : Int), y_RD (y_fg (y_up σ 11 (12 * a + b) v)) (q_si (q_si μ 2 5 0) (14 + a) 7 y) := by
            intro y v
            have R := ((y_fgD h).out (x := y) (c_no67 (a := a) (i := 7) (by omega) (Or.inr rfl))).irr (c := 11) (j := 12 * a + b) (v := v) rfl rfl
            simp only [y_fgn (c := 11) (by decide)] at R
            exact R
          have Q : ∀ (y : Int32) (v : Int), (∀ k, k < 12 → bt y k = if k = b then decide (v = 1) else bt (μ.1 (14 + a) 7) k) → y_RB (y_fg (y_up σ 11 (12 * a + b) v)) (q_si (q_si μ 2 5 0) (14 + a) 7 y) := by
            intro y v hy
            refine y_RB.setT (hB.other (a := 2) (i := 5) (x := 0) (by omega)) (fun r hr => ?_) (fun k hk => ?_) (fun r hr e k hk => ?_)
            · unfold y_br y_fg; simp [y_up]
            · rw [hy k hk, hB.2 a (by omega) k hk]
              unfold y_fg
              by_cases e : k = b
              · subst e; simp [y_up]
              · have : ¬ 12 * a + k = 12 * a + b := by omega
                simp [y_up, e]
            · unfold y_fg
              have : ¬ 12 * r + k = 12 * a + b := by omega
              simp [y_up, this]
          by_cases p5 : x3.toInt = 0
          · rw [if_pos p5, if_pos p5, z_bd]
            refine ⟨_, _, rfl, rfl, R _ _, Q _ _ (fun k hk => ?_)⟩
            rw [b_or, e2, z_one (by omega) (by omega)]
            by_cases e : k = b
            · subst e; simp
            · simp [e]
          · rw [if_neg p5, if_neg p5, z_bd]
            refine ⟨_, _, rfl, rfl, R _ _, Q _ _ (fun k hk => ?_)⟩
            rw [b_and, z_not (by omega), e2, z_one (by omega) (by omega)]
            by_cases e : k = b
            · subst e; simp
            · simp [e]
        · rw [if_neg p4]
          exact ⟨fun hp => absurd hp.2.2.2 p4, fun _ => rfl⟩
    · rw [if_neg p2]
      exact ⟨fun hp => absurd hp.2.1 p2, fun _ => rfl⟩
  · rw [if_neg p1]
    exact ⟨fun hp => absurd hp.1 p1, fun _ => rfl⟩
