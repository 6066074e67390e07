theorem y_up_ne {σ : y_S} {c j c' j' : Nat} {v : Int} (h : c' ≠ c ∨ j' ≠ j) : y_up σ c j v c' j' = σ c' j' := by
  unfold y_up
  rw [if_neg (by omega)]
theorem y_up_eq {σ : y_S} {c j : Nat} {v : Int} : y_up σ c j v c j = v := by
  unfold y_up
  rw [if_pos ⟨rfl, rfl⟩]
theorem y_WR.eq {σ σ' : y_S} (wr : y_WR σ) (h : ∀ c j, 1 ≤ c → c ≤ 10 → σ' c j = σ c j) (h0 : ∀ j, j ≤ 2 → σ' 0 j = σ 0 j) : y_WR σ' := by
  have e : ∀ c, 1 ≤ c → c ≤ 10 → σ' c = σ c := fun c h1 h2 => funext fun j => h c j h1 h2
  unfold y_WR
  rw [h0 0 (by decide), h0 1 (by decide), h0 2 (by decide), e 1 (by decide) (by decide), e 2 (by decide) (by decide), e 3 (by decide) (by decide), e 4 (by decide) (by decide), e 5 (by decide) (by decide), e 6 (by decide) (by decide), e 7 (by decide) (by decide), e 8 (by decide) (by decide), e 9 (by decide) (by decide), e 10 (by decide) (by decide)]
  exact wr
theorem y_WB.eq {σ σ' : y_S} (wb : y_WB σ) (h : ∀ c j, 13 ≤ c → c ≤ 16 → σ' c j = σ c j) : y_WB σ' := by
  have e : ∀ c, 13 ≤ c → c ≤ 16 → σ' c = σ c := fun c h1 h2 => funext fun j => h c j h1 h2
  unfold y_WB
  rw [e 13 (by decide) (by decide), e 14 (by decide) (by decide), e 15 (by decide) (by decide), e 16 (by decide) (by decide)]
  exact wb
theorem y_WA.eq {σ σ' : y_S} (wa : y_WA σ) (h : ∀ c j, 17 ≤ c → c ≤ 18 → σ' c j = σ c j) (h0 : σ' 0 3 = σ 0 3) : y_WA σ' := by
  have e : ∀ c, 17 ≤ c → c ≤ 18 → σ' c = σ c := fun c h1 h2 => funext fun j => h c j h1 h2
  unfold y_WA
  rw [h0, e 17 (by decide) (by decide), e 18 (by decide) (by decide)]
  exact wa
theorem y_W0.fg {σ : y_S} (w : y_W0 σ) : y_W0 (y_fg σ) := by
  have e : ∀ j, j ≠ 6 → y_fg σ 0 j = σ 0 j := fun j hj => y_up_ne (Or.inr hj)
  have e6 : y_fg σ 0 6 = 0 := y_up_eq
  unfold y_W0 at w ⊢
  rw [e 0 (by decide), e 1 (by decide), e 2 (by decide), e 3 (by decide), e 4 (by decide), e 5 (by decide), e6, e 7 (by decide), e 8 (by decide), e 9 (by decide), e 10 (by decide), e 11 (by decide)]
  obtain ⟨w0, w1, w2, w3, w4, w5, w6, w7⟩ := w
  exact ⟨w0, w1, w2, w3, w4, w5, ⟨by omega, by omega⟩, w7⟩
def y_WZ (σ : y_S) : Prop := ∀ b : Nat, b < 6 → σ 0 2 ≤ (b : Int) → σ 13 b = 0
def y_WO (σ : y_S) : Prop := ∀ k : Nat, (k : Int) < σ 0 3 → σ 17 k ≤ 30 * (k : Int)
def y_WH (σ : y_S) : Prop := ∀ r : Nat, r < 12 → σ 0 1 ≤ (r : Int) → σ 8 r = 0
theorem n_row_ne {σ : y_S} {b at_ u v : Int} {c j : Nat} (h1 : c < 13 ∨ 16 < c) (h2 : c ≠ 0 ∨ j ≠ 6) : n_row σ b at_ u v c j = σ c j := by
  unfold n_row y_fg
  rw [y_up_ne (by omega), y_up_ne (by omega), y_up_ne (by omega), y_up_ne (by omega), y_up_ne (by omega)]
theorem n_row_13 {σ : y_S} {b at_ u v : Int} {j : Nat} : n_row σ b at_ u v 13 j = if j = b.toNat then σ 13 b.toNat + 1 else σ 13 j := by
  unfold n_row y_fg
  rw [y_up_ne (by omega)]
  by_cases e : j = b.toNat
  · subst e; rw [y_up_eq, if_pos rfl]
  · rw [if_neg e, y_up_ne (by omega), y_up_ne (by omega), y_up_ne (by omega), y_up_ne (by omega)]
theorem n_row_14 {σ : y_S} {b at_ u v : Int} {j : Nat} : n_row σ b at_ u v 14 j = if j = 6 * b.toNat + (σ 13 b.toNat).toNat then at_ else σ 14 j := by
  unfold n_row y_fg
  rw [y_up_ne (by omega), y_up_ne (by omega), y_up_ne (by omega), y_up_ne (by omega)]
  by_cases e : j = 6 * b.toNat + (σ 13 b.toNat).toNat
  · subst e; rw [y_up_eq, if_pos rfl]
  · rw [if_neg e, y_up_ne (by omega)]
theorem n_row_15 {σ : y_S} {b at_ u v : Int} {j : Nat} : n_row σ b at_ u v 15 j = if j = 6 * b.toNat + (σ 13 b.toNat).toNat then u else σ 15 j := by
  unfold n_row y_fg
  rw [y_up_ne (by omega), y_up_ne (by omega), y_up_ne (by omega)]
  by_cases e : j = 6 * b.toNat + (σ 13 b.toNat).toNat
  · subst e; rw [y_up_eq, if_pos rfl]
  · rw [if_neg e, y_up_ne (by omega), y_up_ne (by omega)]
theorem n_row_16 {σ : y_S} {b at_ u v : Int} {j : Nat} : n_row σ b at_ u v 16 j = if j = 6 * b.toNat + (σ 13 b.toNat).toNat then v else σ 16 j := by
  unfold n_row y_fg
  rw [y_up_ne (by omega), y_up_ne (by omega)]
  by_cases e : j = 6 * b.toNat + (σ 13 b.toNat).toNat
  · subst e; rw [y_up_eq, if_pos rfl]
  · rw [if_neg e, y_up_ne (by omega), y_up_ne (by omega), y_up_ne (by omega)]
theorem y_W0.eq {σ σ' : y_S} (w : y_W0 σ) (h : ∀ j, j < 12 → j ≠ 6 → σ' 0 j = σ 0 j) (h6 : 0 ≤ σ' 0 6 ∧ σ' 0 6 ≤ 5) : y_W0 σ' := by
  unfold y_W0 at w ⊢
  rw [h 0 (by decide) (by decide), h 1 (by decide) (by decide), h 2 (by decide) (by decide), h 3 (by decide) (by decide), h 4 (by decide) (by decide), h 5 (by decide) (by decide), h 7 (by decide) (by decide), h 8 (by decide) (by decide), h 9 (by decide) (by decide), h 10 (by decide) (by decide), h 11 (by decide) (by decide)]
  obtain ⟨w0, w1, w2, w3, w4, w5, w6, w7⟩ := w
  exact ⟨w0, w1, w2, w3, w4, w5, h6, w7⟩
theorem n_row_6 {σ : y_S} {b at_ u v : Int} : n_row σ b at_ u v 0 6 = 0 := by
  unfold n_row y_fg
  exact y_up_eq
theorem n_row_W {σ : y_S} (w : y_W σ) {b at_ u v : Int} (p : p_row σ b at_ u v) : y_W (n_row σ b at_ u v) := by
  obtain ⟨w0, wr, wb, wa, ws, wt⟩ := w
  obtain ⟨p1, p2, p3, p4, p5, p6⟩ := p
  have w2 := w0.2.2.1
  refine ⟨w0.eq (fun j h1 h2 => n_row_ne (by omega) (by omega)) ⟨by rw [n_row_6]; omega, by rw [n_row_6]; omega⟩, wr.eq (fun c j h1 h2 => n_row_ne (by omega) (by omega)) (fun j hj => n_row_ne (by omega) (by omega)), fun d hd => ?_, wa.eq (fun c j h1 h2 => n_row_ne (by omega) (by omega)) (n_row_ne (by omega) (by omega)), fun b => by rw [n_row_ne (by omega) (by omega)]; exact ws b, fun b => by rw [n_row_ne (by omega) (by omega)]; exact wt b⟩
  have g := wb d hd
  have gb := wb b.toNat (by omega)
  by_cases e : d = b.toNat
  · subst e
    rw [n_row_13, if_pos rfl]
    refine ⟨by omega, fun k hk => ?_, fun k hk => ?_⟩
    · rw [n_row_14, n_row_15, n_row_16]
      by_cases e : k = (σ 13 b.toNat).toNat
      · subst e; rw [if_pos rfl, if_pos rfl, if_pos rfl]; exact ⟨p2, p3, p4⟩
      · rw [if_neg (by omega), if_neg (by omega), if_neg (by omega)]; exact g.2.1 k (by omega)
    · rw [n_row_14, n_row_14, if_neg (by omega)]
      by_cases e : k + 1 = (σ 13 b.toNat).toNat
      · rw [if_pos (by omega)]
        rcases p6 with q | q
        · omega
        · rw [show (σ 13 b.toNat).toNat - 1 = k by omega] at q; exact q
      · rw [if_neg (by omega)]; exact g.2.2 k (by omega)
  · rw [n_row_13, if_neg e]
    refine ⟨g.1, fun k hk => ?_, fun k hk => ?_⟩
    · rw [n_row_14, n_row_15, n_row_16, if_neg (by omega), if_neg (by omega), if_neg (by omega)]; exact g.2.1 k hk
    · rw [n_row_14, n_row_14, if_neg (by omega), if_neg (by omega)]; exact g.2.2 k hk
theorem n_row_same {σ : y_S} (w : y_W σ) {b at_ u v : Int} (p : p_row σ b at_ u v) {d : Nat} (hd : d < 6) (e : d ≠ b.toNat) : y_same σ (n_row σ b at_ u v) d := by
  obtain ⟨w0, wr, wb, wa, ws, wt⟩ := w
  obtain ⟨p1, p2, p3, p4, p5, p6⟩ := p
  have w2 := w0.2.2.1
  have g := wb d hd
  have gb := wb b.toNat (by omega)
  refine ⟨n_row_ne (by omega) (by omega), by rw [n_row_13, if_neg e], fun k hk => ?_, fun i hi => ⟨n_row_ne (by omega) (by omega), n_row_ne (by omega) (by omega)⟩⟩
  rw [n_row_14, n_row_15, n_row_16, if_neg (by omega), if_neg (by omega), if_neg (by omega)]
  exact ⟨rfl, rfl, rfl⟩
theorem K_canCorner {σ : y_S} {b : Nat} (hb : b < 6) (w : y_WB σ) {μ : q_M} (h : y_RD σ μ) (x : Int64) : f_X0_canTakeCorner (50 + b) x μ = some (if (σ 13 b < 6 ∧ (0 ≤ x.toInt ∧ x.toInt ≤ 60)) ∧ (σ 13 b ≤ 0 ∨ σ 14 (6 * b + ((σ 13 b).toNat - 1)) < x.toInt) then 1 else 0, μ) := by
  have g := w b hb
  have e6 : (6 ≤ iz (σ 13 b)) = (6 ≤ σ 13 b) := z_le32 (a := 6) (by omega) (by omega) (by omega) (by omega)
  unfold f_X0_canTakeCorner
  rw [d_cornerCounts h hb, z_if e6, k_within, z_bd, z_if z_b0, ite_not, L0, show (60 : Int64).toInt = 60 from rfl, d_cornerCounts h hb, z_if (z_eq0 (by omega) (by omega))]
  by_cases c1 : 6 ≤ σ 13 b
  · rw [if_pos c1, if_neg (by omega)]
  · rw [if_neg c1]
    by_cases c2 : 0 ≤ x.toInt ∧ x.toInt ≤ 60
    · rw [if_pos c2]
      by_cases c3 : σ 13 b = 0
      · rw [if_pos c3, if_pos (by omega)]
      · have q := g.2.1 ((σ 13 b).toNat - 1) (by omega)
        have cl : (iz (σ 13 b - 1)).toNatClampNeg = (σ 13 b).toNat - 1 := by rw [z_cl (by omega) (by omega)]; omega
        rw [if_neg c3, z_s1, z_gd (z_ix (by omega) (by omega) (by omega)), cl, d_at h hb (by omega), z_if (z_c4 _ _), z_if (show (x ≤ lz (σ 14 (6 * b + ((σ 13 b).toNat - 1)))) = (x.toInt ≤ σ 14 (6 * b + ((σ 13 b).toNat - 1))) by rw [Int64.le_iff_toInt_le, z_toL (by omega) (by omega)])]
        by_cases c4 : x.toInt ≤ σ 14 (6 * b + ((σ 13 b).toNat - 1))
        · rw [if_pos c4, if_neg (by omega)]
        · rw [if_neg c4, if_pos (by omega)]
    · rw [if_neg c2, if_neg (by omega)]
def u_row (μ : q_M) (b k : Nat) (x2 x4 x6 : Int64) (y : Int32) : q_M := q_si (q_sl (q_sl (q_sl (q_si μ 2 5 0) (50 + b + 6) k x2) (50 + b + 12) k x4) (50 + b + 18) k x6) (50 + b) 1 y
theorem n_row_alt {σ : y_S} {b at_ u v : Int} : n_row σ b at_ u v = y_up (y_up (y_up (y_up (y_fg σ) 14 (6 * b.toNat + (σ 13 b.toNat).toNat) at_) 15 (6 * b.toNat + (σ 13 b.toNat).toNat) u) 16 (6 * b.toNat + (σ 13 b.toNat).toNat) v) 13 b.toNat (σ 13 b.toNat + 1) := by
  unfold n_row y_fg
  funext c j
  simp only [y_up]
  by_cases c0 : c = 0
  · subst c0
    simp
  · simp [c0]
theorem K_addCorner {σ : y_S} {b : Nat} (hb : b < 6) (w : y_WB σ) {μ : q_M} (h : y_RD σ μ) (h6 : σ 13 b < 6) (x2 x4 x6 : Int64) : f_X0_addCorner (50 + b) x2 x4 x6 (q_si μ 2 5 0) = some ((), u_row μ b (σ 13 b).toNat x2 x4 x6 (iz (σ 13 b + 1))) := by
  have g := w b hb
  have d1 : (q_si μ 2 5 0).1 (50 + b) 1 = iz (σ 13 b) := by rw [z_si1, if_neg (by omega)]; exact d_cornerCounts h hb
  have cl : (iz (σ 13 b)).toNatClampNeg = (σ 13 b).toNat := by rw [z_cl (by omega) (by omega)]
  unfold f_X0_addCorner
  rw [d1, z_if (show (iz (σ 13 b) < 6) = (σ 13 b < 6) from z_lt32 (b := 6) (by omega) (by omega) (by omega) (by omega)), if_pos h6, z_gd (z_ix (by omega) (by omega) (by omega)), z_le]
  simp only [z_sl1, d1, cl]
  rw [z_gd (z_ix (by omega) (by omega) (by omega)), z_le]
  simp only [z_sl1, d1, cl]
  rw [z_gd (z_ix (by omega) (by omega) (by omega)), z_le, z_le]
  simp only [z_sl1, d1, z_a1]
  rfl
theorem u_row_R0 {σ : y_S} {b k : Nat} (hb : b < 6) (hk : k < 6) {v : Int} {μ : q_M} (h : y_RD σ μ) (x2 x4 x6 : Int64) : y_RD (y_up (y_up (y_up (y_up (y_fg σ) 14 (6 * b + k) x2.toInt) 15 (6 * b + k) x4.toInt) 16 (6 * b + k) x6.toInt) 13 b v) (u_row μ b k x2 x4 x6 (iz v)) := by
  have a1 : (6 * b + k) / 6 = b := by omega
  have a2 : (6 * b + k) % 6 = k := by omega
  have a3 : 6 * b + k < 36 := by omega
  refine ((((y_fgD h).setL (c := 14) (decide_eq_true a3) ?_ (z_lz x2).symm rfl).setL (c := 15) (decide_eq_true a3) ?_ (z_lz x4).symm rfl).setL (c := 16) (decide_eq_true a3) ?_ (z_lz x6).symm rfl).set (c := 13) (j := b) (decide_eq_true hb) rfl rfl rfl
  · show (56 + (6 * b + k) / 6, (6 * b + k) % 6) = _
    rw [a1, a2, show 56 + b = 50 + b + 6 by omega]
  · show (62 + (6 * b + k) / 6, (6 * b + k) % 6) = _
    rw [a1, a2, show 62 + b = 50 + b + 12 by omega]
  · show (68 + (6 * b + k) / 6, (6 * b + k) % 6) = _
    rw [a1, a2, show 68 + b = 50 + b + 18 by omega]
theorem u_row_1 {μ : q_M} {b k : Nat} {x2 x4 x6 : Int64} {y : Int32} {a : Nat} (h1 : a ≠ 2) (h2 : a ≠ 50 + b) : (u_row μ b k x2 x4 x6 y).1 a = μ.1 a := by
  unfold u_row
  rw [q_si_row (by omega), z_sl1, z_sl1, z_sl1, q_si_row (by omega)]
theorem u_row_2 {μ : q_M} {b k : Nat} {x2 x4 x6 : Int64} {y : Int32} {a : Nat} (h : a < 56 ∨ 74 ≤ a) (hb : b < 6) : (u_row μ b k x2 x4 x6 y).2 a = μ.2 a := by
  unfold u_row
  rw [z_si2, q_sl_row (by omega), q_sl_row (by omega), q_sl_row (by omega), z_si2]
theorem u_row_F {μ : q_M} {b k : Nat} (hb : b < 6) {x2 x4 x6 : Int64} {y : Int32} : y_Fc μ (u_row μ b k x2 x4 x6 y) := fun a ha => ⟨u_row_1 (by omega) (by omega), u_row_2 (by omega) hb⟩
theorem u_row_B {σ σ' : y_S} {μ : q_M} {b k : Nat} (hb : b < 6) {x2 x4 x6 : Int64} {y : Int32} (h : y_RB σ μ) (e0 : σ' 0 1 = σ 0 1) (e7 : ∀ j, σ' 7 j = σ 7 j) (e11 : ∀ j, σ' 11 j = σ 11 j) : y_RB σ' (u_row μ b k x2 x4 x6 y) := by
  refine ⟨fun r hr => ?_, fun r hr k hk => ?_⟩
  · rw [u_row_1 (by omega) (by omega), h.1 r hr]
    unfold y_br
    rw [e0, e7]
  · rw [u_row_1 (by omega) (by omega), e11]; exact h.2 r hr k hk
theorem y_Rk.sm {σ σ' : y_S} {b : Nat} {μ μ' : q_M} (hk : y_Rk σ b μ) (t : y_top σ' b = y_top σ b ∧ y_und σ' b = y_und σ b) (h1 : ∀ j, j = 6 ∨ j = 7 → μ'.1 (50 + b) j = μ.1 (50 + b) j) (h2 : ∀ a, (a = 50 + b + 24 + 7 + 16 ∨ a = 50 + b + 24 + 14 + 16) → μ'.2 a = μ.2 a) : y_Rk σ' b μ' := by
  obtain ⟨k1, k2, k3, k4⟩ := hk
  have e1 : y_ru σ' b = y_ru σ b := by unfold y_ru y_gg; rw [t.1, t.2]
  have e2 : y_rd σ' b = y_rd σ b := by unfold y_rd y_gg; rw [t.1, t.2]
  refine ⟨?_, ?_, ?_, ?_⟩
  · rw [e1]; exact ⟨fun j hj => by rw [h2 _ (Or.inl rfl)]; exact k1.1 j hj, k1.2⟩
  · rw [e2]; exact ⟨fun j hj => by rw [h2 _ (Or.inr rfl)]; exact k2.1 j hj, k2.2⟩
  · rw [h1 6 (Or.inl rfl), k3]; unfold y_tw; rw [t.1, t.2]
  · rw [h1 7 (Or.inr rfl), k4]; unfold y_ww; rw [t.1, t.2]
theorem C_row {σ : y_S} (w : y_W σ) {μ : q_M} (h : y_RD σ μ) (hB : y_RB σ μ) (hk : y_RK σ μ) (x1 : Int32) (x2 x4 x6 : Int64) : (p_row σ x1.toInt x2.toInt x4.toInt x6.toInt → ∃ μ', f_X9_row x1 x2 x4 x6 μ = some (1, μ') ∧ y_RD (n_row σ x1.toInt x2.toInt x4.toInt x6.toInt) μ' ∧ y_RB (n_row σ x1.toInt x2.toInt x4.toInt x6.toInt) μ' ∧ y_RK (n_row σ x1.toInt x2.toInt x4.toInt x6.toInt) μ' ∧ y_Fc μ μ' ∧ μ'.1 118 = μ.1 118) ∧ (¬ p_row σ x1.toInt x2.toInt x4.toInt x6.toInt → f_X9_row x1 x2 x4 x6 μ = some (0, μ)) := by
  have w2 := w.1.2.2.1
  have wb := w.2.2.1
  unfold f_X9_row
  rw [k_hasBridge h w2.1 w2.2, z_bd, z_if z_b0, ite_not]
  by_cases p1 : 0 ≤ x1.toInt ∧ x1.toInt < σ 0 2
  · have hb : x1.toInt.toNat < 6 := by omega
    have g := wb _ hb
    rw [if_pos p1, z_gix (by omega) (by omega), z_clx, K_canCorner hb wb h, z_bd, z_if z_b0, ite_not, k_within, z_bd, z_if z_b0, ite_not, k_within, z_bd, z_if z_b0, ite_not, k_cforget, z_bd, L1, show (1000 : Int64).toInt = 1000 from rfl, show (-1000 : Int64).toInt = -1000 from rfl]
    constructor
    · intro p
      have p' := p
      obtain ⟨-, q2, q3, q4, q5, q6⟩ := p
      have W := n_row_W w p'
      rw [if_pos (by omega), if_pos q3, if_pos q4, K_addCorner hb wb h (by omega), z_bd]
      have R0 : y_RD (n_row σ x1.toInt x2.toInt x4.toInt x6.toInt) (u_row μ x1.toInt.toNat (σ 13 x1.toInt.toNat).toNat x2 x4 x6 (iz (σ 13 x1.toInt.toNat + 1))) := by
        rw [n_row_alt]
        exact u_row_R0 hb (by omega) h x2 x4 x6
      have B0 := u_row_B (σ' := n_row σ x1.toInt x2.toInt x4.toInt x6.toInt) (k := (σ 13 x1.toInt.toNat).toNat) (x2 := x2) (x4 := x4) (x6 := x6) (y := iz (σ 13 x1.toInt.toNat + 1)) hb hB (n_row_ne (by omega) (by omega)) (fun j => n_row_ne (by omega) (by omega)) (fun j => n_row_ne (by omega) (by omega))
      obtain ⟨μ1, f1, r1, F1⟩ := C_rateBridge W hb R0
      have ex : iz (x1.toInt.toNat : Int) = x1 := by
        rw [Int.toNat_of_nonneg p1.1, z_iz]
      rw [ex] at f1
      rw [f1, z_bd]
      refine ⟨μ1, rfl, F1.RD hb R0, F1.RB B0, fun d hd => ?_, (u_row_F hb).tr (F1.Fc hb), (F1.1 118 (by omega)).trans (u_row_1 (by omega) (by omega))⟩
      by_cases e : d = x1.toInt.toNat
      · rw [e]; exact r1
      · have t := (n_row_same w p' hd e).top (wb d hd).1.1 w.1.2.2.2.1.1
        refine F1.Rk hb hd e ((hk d hd).sm t (fun j hj => ?_) (fun a ha => ?_))
        · rw [u_row_1 (by omega) (by omega)]
        · rw [u_row_2 (by omega) hb]
    · intro p
      by_cases c1 : (σ 13 x1.toInt.toNat < 6 ∧ (0 ≤ x2.toInt ∧ x2.toInt ≤ 60)) ∧ (σ 13 x1.toInt.toNat ≤ 0 ∨ σ 14 (6 * x1.toInt.toNat + ((σ 13 x1.toInt.toNat).toNat - 1)) < x2.toInt)
      · rw [if_pos c1]
        by_cases c2 : -1000 ≤ x4.toInt ∧ x4.toInt ≤ 1000
        · rw [if_pos c2]
          by_cases c3 : 1 ≤ x6.toInt ∧ x6.toInt ≤ 1000
          · exact absurd ⟨p1, c1.1.2, c2, c3, by omega, c1.2⟩ p
          · rw [if_neg c3]
        · rw [if_neg c2]
      · rw [if_neg c1]
  · rw [if_neg p1]
    exact ⟨fun p => absurd p.1 p1, fun _ => rfl⟩
