theorem y_RD.irr {σ : y_S} {μ : q_M} {c j : Nat} {v : Int} (h : y_RD σ μ) (h1 : c_dom c j = false) (h2 : c_doL c j = false) : y_RD (y_up σ c j v) μ := by
  refine ⟨fun d k hk => ?_, fun d k hk => ?_⟩
  · rw [h.1 d k hk]
    have : ¬ (d = c ∧ k = j) := fun q => by obtain ⟨rfl, rfl⟩ := q; rw [h1] at hk; cases hk
    simp [y_up, this]
  · rw [h.2 d k hk]
    have : ¬ (d = c ∧ k = j) := fun q => by obtain ⟨rfl, rfl⟩ := q; rw [h2] at hk; cases hk
    simp [y_up, this]
theorem y_upc {σ : y_S} {c j c' j' : Nat} {v v' : Int} (h : ¬ (c = c' ∧ j = j')) : y_up (y_up σ c j v) c' j' v' = y_up (y_up σ c' j' v') c j v := by
  funext d k
  simp only [y_up]
  by_cases h1 : d = c ∧ k = j
  · obtain ⟨rfl, rfl⟩ := h1
    rw [if_neg h, if_pos ⟨rfl, rfl⟩, if_pos ⟨rfl, rfl⟩]
  · rw [if_neg h1]
    by_cases h2 : d = c' ∧ k = j'
    · rw [if_pos h2, if_neg h1]
    · rw [if_neg h2, if_neg h1]
theorem y_fgc {σ : y_S} {c j : Nat} {v : Int} (h : ¬ (c = 0 ∧ j = 6)) : y_up (y_fg σ) c j v = y_fg (y_up σ c j v) := y_upc (fun q => h ⟨q.1.symm, q.2.symm⟩)
theorem y_fgn {σ : y_S} {c j : Nat} {v : Int} (h : c ≠ 0) : y_up (y_fg σ) c j v = y_fg (y_up σ c j v) := y_fgc (fun q => h q.1)
theorem y_fgz {σ : y_S} {j : Nat} {v : Int} (h : j ≠ 6) : y_up (y_fg σ) 0 j v = y_fg (y_up σ 0 j v) := y_fgc (fun q => h q.2)
theorem y_RB.other {σ : y_S} {μ : q_M} {a i : Nat} {x : Int32} (h : y_RB σ μ) (ha : a < 14 ∨ 25 < a ∨ (i ≠ 6 ∧ i ≠ 7)) : y_RB σ (q_si μ a i x) := by
  refine ⟨fun r hr => ?_, fun r hr b hb => ?_⟩
  · rw [z_si1, if_neg (by omega), h.1 r hr]
  · rw [z_si1, if_neg (by omega), h.2 r hr b hb]
theorem y_RB.sl {σ : y_S} {μ : q_M} {a i : Nat} {x : Int64} (h : y_RB σ μ) : y_RB σ (q_sl μ a i x) := h
theorem y_RB.eq {σ σ' : y_S} {μ : q_M} (h : y_RB σ μ) (h1 : ∀ r, r < 12 → y_br σ' r = y_br σ r) (h2 : ∀ j, σ' 11 j = σ 11 j) : y_RB σ' μ := by
  refine ⟨fun r hr => ?_, fun r hr b hb => ?_⟩
  · rw [h1 r hr, h.1 r hr]
  · rw [h2, h.2 r hr b hb]
def u_road (μ : q_M) (n : Nat) (x1 x2 x3 x4 x5 y : Int32) : q_M := q_si (q_si (q_si (q_si (q_si (q_si (q_si (q_si μ 2 5 0) (14 + n) 0 x1) (14 + n) 1 x2) (14 + n) 2 x3) (14 + n) 3 x4) (14 + n) 4 x5) (14 + n) 5 1) 1 1 y
theorem C_road {σ : y_S} {μ : q_M} (h : y_RD σ μ) (hB : y_RB σ μ) (w : y_W0 σ) (x1 x2 x3 x4 x5 : Int32) : (p_road σ x1.toInt x2.toInt x3.toInt x4.toInt x5.toInt → f_X9_road x1 x2 x3 x4 x5 μ = some (iz (σ 0 1), u_road μ (σ 0 1).toNat x1 x2 x3 x4 x5 (iz (σ 0 1 + 1))) ∧ y_RD (n_road σ x1.toInt x2.toInt x3.toInt x4.toInt x5.toInt) (u_road μ (σ 0 1).toNat x1 x2 x3 x4 x5 (iz (σ 0 1 + 1))) ∧ y_RB (n_road σ x1.toInt x2.toInt x3.toInt x4.toInt x5.toInt) (u_road μ (σ 0 1).toNat x1 x2 x3 x4 x5 (iz (σ 0 1 + 1)))) ∧ (¬ p_road σ x1.toInt x2.toInt x3.toInt x4.toInt x5.toInt → f_X9_road x1 x2 x3 x4 x5 μ = some (-1, μ)) := by
  obtain ⟨w0, w1, -⟩ := w
  have hr : (12 ≤ μ.1 1 1) = (12 ≤ σ 0 1) := by rw [d_roads h]; exact z_le32 (a := 12) (by omega) (by omega) (by omega) (by omega)
  have hx : (x1 = x2) = (x1.toInt = x2.toInt) := z_e32 x1 x2
  unfold f_X9_road
  simp only [hr]
  by_cases p7 : σ 0 1 = 12
  · rw [if_pos (by omega)]
    exact ⟨fun hp => absurd p7 hp.2.2.2.2.2.2, fun _ => rfl⟩
  · rw [if_neg (by omega), k_hasNode h w0.1 w0.2, z_bd]
    simp only [z_b0, ite_not]
    by_cases p1 : 0 ≤ x1.toInt ∧ x1.toInt < σ 0 0
    · rw [if_pos p1, k_hasNode h w0.1 w0.2, z_bd]
      simp only [z_b0, ite_not, hx, k_within, k_isSize, z_bd, Int32.toInt_toInt64, L1, L600]
      by_cases p2 : 0 ≤ x2.toInt ∧ x2.toInt < σ 0 0
      · rw [if_pos p2]
        by_cases p3 : x1.toInt = x2.toInt
        · rw [if_pos p3]
          exact ⟨fun hp => absurd p3 hp.2.2.1, fun _ => rfl⟩
        · rw [if_neg p3]
          by_cases p4 : 1 ≤ x3.toInt ∧ x3.toInt ≤ 600
          · rw [if_pos p4]
            by_cases p5 : 1 ≤ x4.toInt ∧ x4.toInt ≤ 9999
            · rw [if_pos p5]
              by_cases p6 : 1 ≤ x5.toInt ∧ x5.toInt ≤ 9999
              · rw [if_pos p6]
                refine ⟨fun _ => ?_, fun hp => absurd ⟨by omega, by omega, p3, p4, p5, p6, p7⟩ hp⟩
                have c : (iz (σ 0 1)).toNatClampNeg = (σ 0 1).toNat := z_cl (by omega) (by omega)
                have nl : ((1 : Nat) = 14 + (σ 0 1).toNat) = False := eq_false (by omega)
                refine ⟨?_, ?_, ?_⟩
                · simp only [k_cforget, z_bd, z_si1, Nat.reduceEqDiff, false_and, if_false, d_roads h, z_gd (z_ix (a := σ 0 1) (n := 12) (by omega) (by omega) (by omega)), c, f_X6_lay, z_le, nl, z_a1, u_road]
                · have hn : (σ 0 1).toNat < 12 := by omega
                  have R := ((((((y_fgD h).set (c := 1) (j := (σ 0 1).toNat) (by simp [c_dom, hn]) rfl (z_iz x1).symm rfl).set (c := 2) (j := (σ 0 1).toNat) (by simp [c_dom, hn]) rfl (z_iz x2).symm rfl).set (c := 3) (j := (σ 0 1).toNat) (by simp [c_dom, hn]) rfl (z_iz x3).symm rfl).set (c := 4) (j := (σ 0 1).toNat) (by simp [c_dom, hn]) rfl (z_iz x4).symm rfl).set (c := 5) (j := (σ 0 1).toNat) (by simp [c_dom, hn]) rfl (z_iz x5).symm rfl).set (c := 6) (j := (σ 0 1).toNat) (v := 1) (by simp [c_dom, hn]) rfl rfl rfl
                  have R := (R.irr (c := 7) (j := (σ 0 1).toNat) (v := -2) rfl rfl).set (c := 0) (j := 1) (v := σ 0 1 + 1) (by decide) rfl rfl rfl
                  unfold n_road
                  simp only [y_fgn (c := 1) (by decide), y_fgn (c := 2) (by decide), y_fgn (c := 3) (by decide), y_fgn (c := 4) (by decide), y_fgn (c := 5) (by decide), y_fgn (c := 6) (by decide), y_fgn (c := 7) (by decide), y_fgz (j := 1) (by decide)] at R
                  exact R
                · have B := (((((((hB.other (a := 2) (i := 5) (x := 0) (by omega)).other (a := 14 + (σ 0 1).toNat) (i := 0) (x := x1) (by omega)).other (a := 14 + (σ 0 1).toNat) (i := 1) (x := x2) (by omega)).other (a := 14 + (σ 0 1).toNat) (i := 2) (x := x3) (by omega)).other (a := 14 + (σ 0 1).toNat) (i := 3) (x := x4) (by omega)).other (a := 14 + (σ 0 1).toNat) (i := 4) (x := x5) (by omega)).other (a := 14 + (σ 0 1).toNat) (i := 5) (x := 1) (by omega)).other (a := 1) (i := 1) (x := iz (σ 0 1 + 1)) (by omega)
                  refine B.eq (fun r hr => ?_) (fun j => ?_)
                  · unfold y_br n_road y_fg
                    simp only [y_up]
                    by_cases e : r = (σ 0 1).toNat
                    · subst e
                      simp
                      omega
                    · simp [e]
                      by_cases g : (r : Int) < σ 0 1
                      · simp [g, show (r : Int) < σ 0 1 + 1 by omega]
                      · simp [g, show ¬ (r : Int) < σ 0 1 + 1 by omega]
                  · unfold n_road y_fg
                    simp [y_up]
              · rw [if_neg p6]
                exact ⟨fun hp => absurd hp.2.2.2.2.2.1 p6, fun _ => rfl⟩
            · rw [if_neg p5]
              exact ⟨fun hp => absurd hp.2.2.2.2.1 p5, fun _ => rfl⟩
          · rw [if_neg p4]
            exact ⟨fun hp => absurd hp.2.2.2.1 p4, fun _ => rfl⟩
      · rw [if_neg p2]
        exact ⟨fun hp => absurd (by have := hp.2.1; omega) p2, fun _ => rfl⟩
    · rw [if_neg p1]
      exact ⟨fun hp => absurd (by have := hp.1; omega) p1, fun _ => rfl⟩
theorem y_RD.out {σ : y_S} {μ : q_M} {a i : Nat} {x : Int32} (h : y_RD σ μ) (hn : ∀ c j, c_dom c j = true → ¬ ((c_ca c j).1 = a ∧ (c_ca c j).2 = i)) : y_RD σ (q_si μ a i x) :=
  ⟨fun c j hc => by rw [z_si1, if_neg (hn c j hc), h.1 c j hc], h.2⟩
theorem c_no67 {a i : Nat} (ha : a < 12) (hi : i = 6 ∨ i = 7) : ∀ c j, c_dom c j = true → ¬ ((c_ca c j).1 = 14 + a ∧ (c_ca c j).2 = i) := by
  intro c j hc q
  have hh := c_inv c (c_dom_lt hc).1 j (c_dom_lt hc).2 hc
  rw [q.1, q.2] at hh
  unfold c_cb at hh
  rw [if_neg (by omega), if_neg (by omega), if_neg (by omega), if_neg (by omega), if_neg (by omega), if_pos (by omega), if_neg (by omega)] at hh
  have e1 : i + 1 = c := congrArg Prod.fst hh
  have e2 : 14 + a - 14 = j := congrArg Prod.snd hh
  rcases hi with rfl | rfl
  · subst e1; simp [c_dom] at hc
  · subst e1
    obtain ⟨k1, k2⟩ : (c_ca 8 j).2 = 8 ∧ True := ⟨rfl, trivial⟩
    have := q.2
    rw [k1] at this
    omega
theorem y_RB.setBr {σ σ' : y_S} {μ : q_M} {a : Nat} {v : Int} (h : y_RB σ μ) (h1 : ∀ r, r < 12 → r ≠ a → y_br σ' r = y_br σ r) (h2 : y_br σ' a = v) (h3 : ∀ j, σ' 11 j = σ 11 j) : y_RB σ' (q_si μ (14 + a) 6 (iz v)) := by
  refine ⟨fun r hr => ?_, fun r hr b hb => ?_⟩
  · rw [z_si1]
    by_cases e : r = a
    · subst e; rw [if_pos ⟨rfl, rfl⟩, h2]
    · rw [if_neg (by omega), h.1 r hr, h1 r hr e]
  · rw [z_si1, if_neg (by omega), h.2 r hr b hb, h3]
def u_bridge (μ : q_M) (a : Nat) (b : Int) : q_M := q_si (q_si (q_si μ 2 5 0) (14 + a) 6 (iz b)) 1 2 (iz (b + 1))
theorem C_bridge {σ : y_S} {μ : q_M} (h : y_RD σ μ) (hB : y_RB σ μ) (w : y_W0 σ) (wr : y_WR σ) (x1 : Int32) : (p_bridge σ x1.toInt → f_X9_bridge x1 μ = some (iz (σ 0 2), u_bridge μ x1.toInt.toNat (σ 0 2)) ∧ y_RD (n_bridge σ x1.toInt) (u_bridge μ x1.toInt.toNat (σ 0 2)) ∧ y_RB (n_bridge σ x1.toInt) (u_bridge μ x1.toInt.toNat (σ 0 2))) ∧ (¬ p_bridge σ x1.toInt → f_X9_bridge x1 μ = some (-1, μ)) := by
  obtain ⟨w0, w1, w2, -⟩ := w
  have hb : (6 ≤ μ.1 1 2) = (6 ≤ σ 0 2) := by rw [d_bridges h]; exact z_le32 (a := 6) (by omega) (by omega) (by omega) (by omega)
  unfold f_X9_bridge
  rw [k_hasRoad h w1.1 w1.2]
  simp only [z_bd, z_b0, ite_not, hb]
  by_cases p1 : 0 ≤ x1.toInt ∧ x1.toInt < σ 0 1
  · rw [if_pos p1]
    unfold p_bridge n_bridge
    rw [z_gix (by omega) (by omega), z_clx]
    have ha : ((x1.toInt.toNat : Nat) : Int) < σ 0 1 := by omega
    generalize x1.toInt.toNat = a at ha
    have g := (wr a ha).2.2.2.2.2.2.2.1
    by_cases p3 : σ 0 2 = 6
    · rw [if_pos (by omega)]
      exact ⟨fun hp => absurd p3 hp.2.2, fun _ => rfl⟩
    · rw [if_neg (by omega), hB.1 a (by omega)]
      by_cases p2 : 0 ≤ σ 7 a
      · have br : y_br σ a = σ 7 a := if_pos ⟨ha, p2⟩
        have e : (iz (σ 7 a) = -1) = (σ 7 a = -1) := z_eq32 (b := -1) (by omega) (by omega) (by omega) (by omega)
        simp only [br, e]
        rw [if_neg (by omega)]
        exact ⟨fun hp => absurd p2 hp.2.1, fun _ => rfl⟩
      · have br : y_br σ a = -1 := if_neg (fun z => p2 z.2)
        rw [br, if_pos (show iz (-1) = -1 from rfl)]
        refine ⟨fun _ => ?_, fun hp => absurd ⟨p1, p2, p3⟩ hp⟩
        have nl : ((1 : Nat) = 14 + a) = False := eq_false (by omega)
        unfold u_bridge
        refine ⟨?_, ?_, ?_⟩
        · simp only [k_cforget, z_bd, z_le, z_si1, Nat.reduceEqDiff, false_and, if_false, d_bridges h, nl, z_a1]
        · have R := (((y_fgD h).out (x := iz (σ 0 2)) (c_no67 (a := a) (i := 6) (by omega) (Or.inl rfl))).irr (c := 7) (j := a) (v := σ 0 2) rfl rfl).set (c := 0) (j := 2) (v := σ 0 2 + 1) (by decide) rfl rfl rfl
          simp only [y_fgn (c := 7) (by decide), y_fgz (j := 2) (by decide)] at R
          exact R
        · refine y_RB.other (y_RB.setBr (hB.other (a := 2) (i := 5) (x := 0) (by omega)) (fun r hr e => ?_) ?_ (fun j => ?_)) (by omega)
          · unfold y_br y_fg
            simp [y_up, e]
          · unfold y_br y_fg
            simp [y_up]
            omega
          · unfold y_fg
            simp [y_up]
  · rw [if_neg p1]
    exact ⟨fun hp => absurd hp.1 p1, fun _ => rfl⟩
def u_change (μ : q_M) (a : Nat) (x : Int32) : q_M := q_si (q_si μ 2 5 0) (14 + a) 5 x
theorem z_zb2 {x : Int32} (h : q_zb x = true) : x.toInt = 0 ∨ x.toInt = 1 := by
  rcases of_decide_eq_true h with rfl | rfl
  · exact Or.inl rfl
  · exact Or.inr rfl
theorem C_change {σ : y_S} {μ : q_M} (h : y_RD σ μ) (hB : y_RB σ μ) (w : y_W0 σ) (wr : y_WR σ) (x1 x2 : Int32) (hz : q_zb x2 = true) : (p_change σ x1.toInt → f_X9_change x1 x2 μ = some (iz (σ 6 x1.toInt.toNat), u_change μ x1.toInt.toNat x2) ∧ y_RD (n_change σ x1.toInt x2.toInt) (u_change μ x1.toInt.toNat x2) ∧ y_RB (n_change σ x1.toInt x2.toInt) (u_change μ x1.toInt.toNat x2)) ∧ (¬ p_change σ x1.toInt → f_X9_change x1 x2 μ = some (-1, μ)) := by
  obtain ⟨w0, w1, w2, -⟩ := w
  unfold f_X9_change
  rw [k_hasRoad h w1.1 w1.2]
  simp only [z_bd, z_b0, ite_not, k_cforget]
  by_cases p1 : 0 ≤ x1.toInt ∧ x1.toInt < σ 0 1
  · rw [if_pos p1, z_gix (by omega) (by omega), z_clx]
    unfold n_change
    have ha : ((x1.toInt.toNat : Nat) : Int) < σ 0 1 := by omega
    generalize x1.toInt.toNat = a at ha
    have g := (wr a ha).2.2.2.2.2.2.1
    refine ⟨fun _ => ?_, fun hp => absurd p1 hp⟩
    have e : (iz (σ 6 a) = 0) = (σ 6 a = 0) := z_eq32 (b := 0) (by omega) (by omega) (by omega) (by omega)
    have nl : (14 + a = 2) = False := eq_false (by omega)
    unfold u_change
    refine ⟨?_, ?_, ?_⟩
    · simp only [z_le, z_gd hz, z_si1, nl, false_and, if_false, d_opens h (show a < 12 by omega), e]
      by_cases p2 : σ 6 a = 0
      · rw [if_pos p2, p2]
        rfl
      · rw [if_neg p2, show σ 6 a = 1 by omega]
        rfl
    · have R := (y_fgD h).set (c := 6) (j := a) (v := x2.toInt) (by simp [c_dom]; omega) rfl (z_iz x2).symm rfl
      simp only [y_fgn (c := 6) (by decide)] at R
      exact R
    · refine y_RB.eq ((hB.other (a := 2) (i := 5) (x := 0) (by omega)).other (a := 14 + a) (i := 5) (by omega)) (fun r hr => ?_) (fun j => ?_)
      · unfold y_br y_fg; simp [y_up]
      · unfold y_fg; simp [y_up]
  · rw [if_neg p1]
    exact ⟨fun hp => absurd hp p1, fun _ => rfl⟩
def u_slow (μ : q_M) (a : Nat) (x : Int32) : q_M := q_si (q_si μ 2 5 0) (50 + a) 0 x
theorem C_slow {σ : y_S} {μ : q_M} (h : y_RD σ μ) (hB : y_RB σ μ) (w : y_W0 σ) (wz : ∀ b, σ 12 b = 0 ∨ σ 12 b = 1) (x1 x2 : Int32) (hz : q_zb x2 = true) : (p_slow σ x1.toInt → f_X9_slow x1 x2 μ = some (iz (σ 12 x1.toInt.toNat), u_slow μ x1.toInt.toNat x2) ∧ y_RD (n_slow σ x1.toInt x2.toInt) (u_slow μ x1.toInt.toNat x2) ∧ y_RB (n_slow σ x1.toInt x2.toInt) (u_slow μ x1.toInt.toNat x2)) ∧ (¬ p_slow σ x1.toInt → f_X9_slow x1 x2 μ = some (-1, μ)) := by
  obtain ⟨w0, w1, w2, -⟩ := w
  unfold f_X9_slow
  rw [k_hasBridge h w2.1 w2.2]
  simp only [z_bd, z_b0, ite_not, k_cforget]
  by_cases p1 : 0 ≤ x1.toInt ∧ x1.toInt < σ 0 2
  · rw [if_pos p1, z_gix (by omega) (by omega), z_clx]
    unfold n_slow
    have ha : ((x1.toInt.toNat : Nat) : Int) < σ 0 2 := by omega
    generalize x1.toInt.toNat = a at ha
    have g := wz a
    refine ⟨fun _ => ?_, fun hp => absurd p1 hp⟩
    have e : (iz (σ 12 a) = 0) = (σ 12 a = 0) := z_eq32 (b := 0) (by omega) (by omega) (by omega) (by omega)
    have nl : (50 + a = 2) = False := eq_false (by omega)
    unfold u_slow
    refine ⟨?_, ?_, ?_⟩
    · simp only [z_le, z_gd hz, z_si1, nl, false_and, if_false, d_isSlow h (show a < 6 by omega), e]
      by_cases p2 : σ 12 a = 0
      · rw [if_pos p2, p2]
        rfl
      · rw [if_neg p2, show σ 12 a = 1 by omega]
        rfl
    · have R := (y_fgD h).set (c := 12) (j := a) (v := x2.toInt) (by simp [c_dom]; omega) rfl (z_iz x2).symm rfl
      simp only [y_fgn (c := 12) (by decide)] at R
      exact R
    · refine y_RB.eq ((hB.other (a := 2) (i := 5) (x := 0) (by omega)).other (a := 50 + a) (i := 0) (by omega)) (fun r hr => ?_) (fun j => ?_)
      · unfold y_br y_fg; simp [y_up]
      · unfold y_fg; simp [y_up]
  · rw [if_neg p1]
    exact ⟨fun hp => absurd hp p1, fun _ => rfl⟩
