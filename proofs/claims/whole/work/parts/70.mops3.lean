def y_cv (σ : y_S) (l : List Nat) (gap : Int) : Nat → Int → Int → Int
  | 0, _, v => v
  | d + 1, i, v => y_cv σ l gap d (i + 1) (if y_en σ l (σ 0 10 + i * gap) ≤ v then v else y_en σ l (σ 0 10 + i * gap))
theorem K_cvl {σ : y_S} (w : y_W σ) (wf : y_WF σ) (wg : y_WG σ) {μ : q_M} (h : y_RM σ μ) (hp : 0 < (y_hd σ).length) {n gap : Int} (hn : 1 ≤ n ∧ n ≤ 20) (hg : 0 ≤ gap ∧ gap ≤ 600) (Kx : Int32 → q_M → Option (Int32 × q_M)) : ∀ (d z : Nat) (i v : Int), i + d = n → d < z → 0 ≤ i → 0 ≤ v → v ≤ 1000000 → L_X10_convoy_38 (iz n) (iz gap) Kx z (iz v) (iz i) μ = Kx (iz (y_cv σ (y_hd σ) gap d i v)) μ := by
  have hl := y_hd_len w wf
  have w6 := w.1.2.2.2.2.2.2.1
  have wm := w.1.2.2.2.2.2.2.2.2.2.2.1
  obtain ⟨c6, e6⟩ := y_hd_pos hp
  intro d
  induction d with
  | zero =>
    intro z i v hi hz h0 h1 h2
    obtain ⟨z, rfl⟩ : ∃ y, z = y + 1 := ⟨z - 1, by omega⟩
    rw [L_X10_convoy_38, z_if (z_le32 (by omega) (by omega) (by omega) (by omega)), if_pos (by omega)]
    rfl
  | succ d ih =>
    intro z i v hi hz h0 h1 h2
    obtain ⟨z, rfl⟩ : ∃ y, z = y + 1 := ⟨z - 1, by omega⟩
    have ig : 0 ≤ i * gap ∧ i * gap ≤ 20 * 600 := ⟨Int.mul_nonneg h0 hg.1, Int.mul_le_mul (by omega) hg.2 hg.1 (by omega)⟩
    have eb := y_en_b w (y_hd σ) (σ 0 10 + i * gap) (y_hd_Ls w wg)
    have E := K_endOf w h (x1 := 156) (off := 12 * ((σ 0 6).toNat - 1)) (y_hd σ) (σ 0 10 + i * gap) (y_hd_Ls w wg) (by rw [show q_len 156 = 60 from rfl]; omega) (by decide) (by omega) (by omega) (fun j hj => y_hd_cell w wf h hj)
    rw [L_X10_convoy_38, z_if (z_le32 (by omega) (by omega) (by omega) (by omega)), if_neg (by omega), K_handSize w wf h, z_bd, m_found h, m_minute h, z_s1, show 12 * iz (σ 0 6 - 1) = iz (12 * (σ 0 6 - 1)) from z_mul 12 _, show 12 * (σ 0 6 - 1) = ((12 * ((σ 0 6).toNat - 1) : Nat) : Int) by omega, z_mul, z_add, E, z_bd, z_if (z_le32 (by omega) (by omega) (by omega) (by omega))]
    simp only [z_le, z_a1]
    unfold y_cv
    by_cases c : y_en σ (y_hd σ) (σ 0 10 + i * gap) ≤ v
    · rw [if_pos c, if_pos c]
      exact ih z (i + 1) v (by omega) (by omega) (by omega) h1 h2
    · rw [if_neg c, if_neg c]
      exact ih z (i + 1) _ (by omega) (by omega) (by omega) (by omega) (by omega)
def a_convoy (σ : y_S) (n gap : Int) : Int := if (1 ≤ n ∧ n ≤ 20) ∧ (0 ≤ gap ∧ gap ≤ 600) ∧ ¬ (y_hd σ).length = 0 then y_cv σ (y_hd σ) gap n.toNat 0 0 - σ 0 10 else -1
theorem L20 : (20 : Int64).toInt = 20 := rfl
theorem M_convoy {σ : y_S} (w : y_W σ) (wf : y_WF σ) (wg : y_WG σ) {μ : q_M} (h : y_RM σ μ) (x1 x2 : Int32) : f_X10_convoy x1 x2 μ = some (iz (a_convoy σ x1.toInt x2.toInt), μ) := by
  have hl := y_hd_len w wf
  unfold f_X10_convoy a_convoy
  rw [k_in, z_bd, z_if z_b0, Int32.toInt_toInt64, L1, L20, ite_not]
  by_cases c1 : 1 ≤ x1.toInt ∧ x1.toInt ≤ 20
  · rw [if_pos c1, k_in, z_bd, z_if z_b0, Int32.toInt_toInt64, L0, L600, ite_not]
    by_cases c2 : 0 ≤ x2.toInt ∧ x2.toInt ≤ 600
    · rw [if_pos c2, K_handSize w wf h, z_bd, z_if (z_eq0 (by omega) (by omega))]
      by_cases c3 : (y_hd σ).length = 0
      · rw [if_pos (by omega), if_neg (fun q => q.2.2 c3)]; rfl
      · rw [if_neg (by omega), if_pos ⟨c1, c2, c3⟩]
        have := K_cvl w wf wg h (by omega) c1 c2 (fun v3 μ => some ((v3 - (μ.1 137 27)), μ)) x1.toInt.toNat q_fu 0 0 (by omega) (by rw [z_fu]; omega) (by omega) (by omega) (by omega)
        rw [z_iz, z_iz] at this
        refine Eq.trans this ?_
        rw [m_minute h, z_sub]
    · rw [if_neg c2, if_neg (fun q => c2 q.2.1)]; rfl
  · rw [if_neg c1, if_neg (fun q => c1 q.1)]; rfl
def a_count (σ : y_S) (k : Int) : Int := if k = 0 then σ 0 0 else if k = 1 then σ 0 1 else if k = 2 then σ 0 2 else if k = 3 then σ 0 3 else if k = 4 then ((y_hd σ).length : Int) else if k = 5 then σ 0 6 else if k = 6 then (if σ 0 7 = 0 then 0 else ((y_ws σ).length : Int)) else -1
theorem z_xk (x : Int32) {a : Int} (h1 : -2147483648 ≤ a) (h2 : a < 2147483648) : (x = iz a) = (x.toInt = a) := by rw [z_e32, z_toI h1 h2]
theorem M_count {σ : y_S} (w : y_W σ) (wf : y_WF σ) {μ : q_M} (h : y_RM σ μ) (x : Int32) : ∃ μ', f_X10_count x μ = some (iz (a_count σ x.toInt), μ') ∧ y_RM σ μ' ∧ y_Fm μ μ' := by
  have w7 := w.1.2.2.2.2.2.2.2.1
  unfold f_X10_count a_count
  have e1 : (x = 1) = (x.toInt = 1) := z_xk x (a := 1) (by omega) (by omega)
  have e2 : (x = 2) = (x.toInt = 2) := z_xk x (a := 2) (by omega) (by omega)
  have e3 : (x = 3) = (x.toInt = 3) := z_xk x (a := 3) (by omega) (by omega)
  have e4 : (x = 4) = (x.toInt = 4) := z_xk x (a := 4) (by omega) (by omega)
  have e5 : (x = 5) = (x.toInt = 5) := z_xk x (a := 5) (by omega) (by omega)
  have e6 : (x = 6) = (x.toInt = 6) := z_xk x (a := 6) (by omega) (by omega)
  rw [z_if (z_x0 x), z_if e1, z_if e2, z_if e3, z_if e4, z_if e5, z_if e6, m_nodes h, m_roads h, m_bridges h, m_axles h, K_handSize w wf h, z_bd, m_found h, m_isRun h, z_if (z_eq0 (by omega) (by omega))]
  generalize x.toInt = k
  by_cases c0 : k = 0
  · rw [if_pos c0, if_pos c0]; exact ⟨μ, rfl, h, y_Fm.rf⟩
  rw [if_neg c0, if_neg c0]
  by_cases c0 : k = 1
  · rw [if_pos c0, if_pos c0]; exact ⟨μ, rfl, h, y_Fm.rf⟩
  rw [if_neg c0, if_neg c0]
  by_cases c0 : k = 2
  · rw [if_pos c0, if_pos c0]; exact ⟨μ, rfl, h, y_Fm.rf⟩
  rw [if_neg c0, if_neg c0]
  by_cases c0 : k = 3
  · rw [if_pos c0, if_pos c0]; exact ⟨μ, rfl, h, y_Fm.rf⟩
  rw [if_neg c0, if_neg c0]
  by_cases c0 : k = 4
  · rw [if_pos c0, if_pos c0]; exact ⟨μ, rfl, h, y_Fm.rf⟩
  rw [if_neg c0, if_neg c0]
  by_cases c0 : k = 5
  · rw [if_pos c0, if_pos c0]; exact ⟨μ, rfl, h, y_Fm.rf⟩
  rw [if_neg c0, if_neg c0]
  by_cases c0 : k = 6
  · rw [if_pos c0, if_pos c0]
    by_cases c1 : σ 0 7 = 0
    · rw [if_pos c1, if_pos c1]; exact ⟨μ, rfl, h, y_Fm.rf⟩
    · rw [if_neg c1, if_neg c1]
      obtain ⟨μ1, f1, h1, -, n1, F1⟩ := K_search w wf (L := 1000000000) (by omega) h
      rw [show f_X10_search 1000000000 μ = _ from f1, z_bd, n1]
      exact ⟨μ1, rfl, h1, F1⟩
  rw [if_neg c0, if_neg c0]
  exact ⟨μ, rfl, h, y_Fm.rf⟩
theorem y_W.eq {σ σ' : y_S} (w : y_W σ) (h : ∀ c j, 1 ≤ c → c ≤ 18 → σ' c j = σ c j) (h0 : ∀ j, j ≤ 3 → σ' 0 j = σ 0 j) (w0 : y_W0 σ') : y_W σ' := by
  obtain ⟨-, wr, wb, wa, ws, wt⟩ := w
  have e : ∀ c, 1 ≤ c → c ≤ 18 → σ' c = σ c := fun c h1 h2 => funext fun j => h c j h1 h2
  refine ⟨w0, ?_, ?_, ?_, ?_, ?_⟩
  · unfold y_WR
    rw [h0 0 (by decide), h0 1 (by decide), h0 2 (by decide), e 1 (by decide) (by decide), e 2 (by decide) (by decide), e 3 (by decide) (by decide), e 4 (by decide) (by decide), e 5 (by decide) (by decide), e 6 (by decide) (by decide), e 7 (by decide) (by decide), e 8 (by decide) (by decide), e 9 (by decide) (by decide), e 10 (by decide) (by decide)]
    exact wr
  · unfold y_WB
    rw [e 13 (by decide) (by decide), e 14 (by decide) (by decide), e 15 (by decide) (by decide), e 16 (by decide) (by decide)]
    exact wb
  · unfold y_WA
    rw [h0 3 (by decide), e 17 (by decide) (by decide), e 18 (by decide) (by decide)]
    exact wa
  · rw [e 12 (by decide) (by decide)]; exact ws
  · rw [e 11 (by decide) (by decide)]; exact wt
def p_run (σ : y_S) (a b m : Int) : Prop := (0 ≤ a ∧ a ≤ σ 0 0 - 1) ∧ (0 ≤ b ∧ b ≤ σ 0 0 - 1) ∧ ¬ a = b ∧ (0 ≤ m ∧ m ≤ 10000)
def s_run (σ : y_S) (a b m : Int) : y_S := y_up (y_up (y_up (y_up (y_up σ 0 7 1) 0 8 a) 0 9 b) 0 10 m) 0 6 0
theorem s_run_W {σ : y_S} (w : y_W σ) {a b m : Int} (hp : p_run σ a b m) : y_W (s_run σ a b m) ∧ y_WF (s_run σ a b m) := by
  obtain ⟨p1, p2, p3, p4⟩ := hp
  constructor
  · refine w.eq (fun c j h1 h2 => ?_) (fun j hj => ?_) ?_
    · unfold s_run y_up
      simp [show ¬ c = 0 by omega]
    · unfold s_run y_up
      simp [show ¬ j = 7 by omega, show ¬ j = 8 by omega, show ¬ j = 9 by omega, show ¬ j = 10 by omega, show ¬ j = 6 by omega]
    · obtain ⟨⟨w0, w1, w2, w3, w4, w5, w6, w7, w8, w9, w10, w11⟩, -⟩ := w
      unfold y_W0 s_run y_up
      simp only [true_and, and_true, Nat.reduceEqDiff, and_false, if_false, if_true, and_self]
      omega
  · intro f hf
    have : s_run σ a b m 0 6 = 0 := by simp [s_run, y_up]
    omega
def a_run (σ : y_S) (B : List Nat) : Int := if B.length = 0 then -1 else y_en σ B (σ 0 10) - σ 0 10
def n_rec (σ : y_S) (v : Int) : y_S := if 50 ≤ σ 0 11 then σ else y_up (y_up σ 21 (σ 0 11).toNat v) 0 11 (σ 0 11 + 1)
def n_kb (σ : y_S) (B : List Nat) : y_S := if B.length = 0 then σ else n_keep σ B
def n_run (s : y_S) : y_S := n_rec (n_kb s (y_bs s 1000000000)) (a_run s (y_bs s 1000000000))
theorem K_r106 {σ : y_S} (h11 : 0 ≤ σ 0 11 ∧ σ 0 11 ≤ 50) {μ : q_M} (h : y_RM σ μ) (x1 x2 x3 : Int32) (v : Int) : ∃ μ', J_X10_run_106 x1 x2 x3 (iz v) μ = some (iz v, μ') ∧ y_RM (n_rec σ v) μ' ∧ y_Fm μ μ' := by
  unfold J_X10_run_106 n_rec
  have e : (50 ≤ iz (σ 0 11)) = (50 ≤ σ 0 11) := z_le32 (a := 50) (by omega) (by omega) (by omega) (by omega)
  rw [m_records h, z_if e]
  by_cases c : 50 ≤ σ 0 11
  · rw [if_pos c, if_pos c]; exact ⟨μ, rfl, h, y_Fm.rf⟩
  · rw [if_neg c, if_neg c, z_gd (z_ix (by omega) (by omega) (by omega)), z_cl (by omega) (by omega), z_le, z_le]
    have e2 : (q_si μ 158 (σ 0 11).toNat (iz v)).1 137 31 = iz (σ 0 11) := by
      rw [z_si1, if_neg (by omega)]; exact m_records h
    rw [e2, z_a1]
    exact ⟨_, rfl, y_set0 (y_setA h (by decide) (by decide) rfl rfl) (by decide) rfl rfl, (y_Fm.rf.si (by decide)).si (by decide)⟩
theorem L10k : (10000 : Int64).toInt = 10000 := rfl
theorem M_run {σ : y_S} (w : y_W σ) {μ : q_M} (h : y_RM σ μ) (x1 x2 x3 : Int32) : (p_run σ x1.toInt x2.toInt x3.toInt → ∃ μ', f_X10_run x1 x2 x3 μ = some (iz (a_run (s_run σ x1.toInt x2.toInt x3.toInt) (y_bs (s_run σ x1.toInt x2.toInt x3.toInt) 1000000000)), μ') ∧ y_RM (n_run (s_run σ x1.toInt x2.toInt x3.toInt)) μ' ∧ y_Fm μ μ') ∧ (¬ p_run σ x1.toInt x2.toInt x3.toInt → f_X10_run x1 x2 x3 μ = some (-2, μ)) := by
  have w0 := w.1.1
  have hn : (μ.1 137 0 - 1).toInt = σ 0 0 - 1 := by rw [m_nodes h]; exact z_m1 (by omega) (by omega)
  have hx : (x1 = x2) = (x1.toInt = x2.toInt) := z_e32 x1 x2
  unfold f_X10_run
  rw [k_in, z_bd, z_if z_b0, k_in, z_bd, z_if z_b0, z_if hx, k_in, z_bd, z_if z_b0]
  simp only [Int32.toInt_toInt64, hn, L0, L10k, ite_not, z_le]
  constructor
  · intro hp
    obtain ⟨W, WF⟩ := s_run_W w hp
    obtain ⟨p1, p2, p3, p4⟩ := hp
    rw [if_pos p1, if_pos p2, if_neg p3, if_pos p4]
    have h1 : y_RM (s_run σ x1.toInt x2.toInt x3.toInt) (q_si (q_si (q_si (q_si (q_si μ 137 24 1) 137 25 x1) 137 26 x2) 137 27 x3) 137 28 0) := y_set0 (y_set0 (y_set0 (y_set0 (y_set0 h (by decide) rfl rfl) (by decide) rfl (z_iz x1).symm) (by decide) rfl (z_iz x2).symm) (by decide) rfl (z_iz x3).symm) (by decide) rfl rfl
    have F0 : y_Fm μ (q_si (q_si (q_si (q_si (q_si μ 137 24 1) 137 25 x1) 137 26 x2) 137 27 x3) 137 28 0) := ((((y_Fm.rf.si (by decide)).si (by decide)).si (by decide)).si (by decide)).si (by decide)
    have e10 : s_run σ x1.toInt x2.toInt x3.toInt 0 10 = x3.toInt := by simp [s_run, y_up]
    have e6 : s_run σ x1.toInt x2.toInt x3.toInt 0 6 = 0 := by simp [s_run, y_up]
    generalize q_si (q_si (q_si (q_si (q_si μ 137 24 1) 137 25 x1) 137 26 x2) 137 27 x3) 137 28 0 = μ0 at *
    generalize s_run σ x1.toInt x2.toInt x3.toInt = s at *
    obtain ⟨μ1, f1, h2, b2, -, F1⟩ := K_search W WF (L := 1000000000) (by omega) h1
    rw [show f_X10_search 1000000000 μ0 = _ from f1, z_bd]
    have bl := b2.2.2.2.2
    unfold n_run a_run n_kb
    generalize y_bs s 1000000000 = B at *
    rw [b2.1, z_if (z_le0 (by omega) (by omega))]
    have w11 := W.1.2.2.2.2.2.2.2.2.2.2.2
    by_cases c : B.length = 0
    · rw [if_pos (by omega), if_pos c, if_pos c]
      obtain ⟨μ2, f2, h3, F2⟩ := K_r106 w11 h2 x1 x2 x3 (-1)
      exact ⟨μ2, f2, h3, (F0.tr F1).tr F2⟩
    · rw [if_neg (by omega), if_neg c, if_neg c]
      obtain ⟨μ2, f2, h3, k2, F2⟩ := K_keep W (by omega) h2 b2
      have b38 := b2.2.1 (fun q => c (by rw [q]; rfl))
      rw [f2, z_bd, k2, b38]
      have ex : x3 = iz (s 0 10) := by rw [e10, z_iz]
      have e11 : n_keep s B 0 11 = s 0 11 := by simp [n_keep, y_up]
      rw [ex, z_sub]
      obtain ⟨μ3, f3, h4, F3⟩ := K_r106 (by rw [e11]; exact w11) h3 x1 x2 (iz (s 0 10)) (y_en s B (s 0 10) - s 0 10)
      exact ⟨μ3, f3, h4, ((F0.tr F1).tr F2).tr F3⟩
  · intro hp
    by_cases p1 : 0 ≤ x1.toInt ∧ x1.toInt ≤ σ 0 0 - 1
    · rw [if_pos p1]
      by_cases p2 : 0 ≤ x2.toInt ∧ x2.toInt ≤ σ 0 0 - 1
      · rw [if_pos p2]
        by_cases p3 : x1.toInt = x2.toInt
        · rw [if_pos p3]
        · rw [if_neg p3]
          by_cases p4 : 0 ≤ x3.toInt ∧ x3.toInt ≤ 10000
          · exact absurd ⟨p1, p2, p3, p4⟩ hp
          · rw [if_neg p4]
      · rw [if_neg p2]
    · rw [if_neg p1]
def p_alt (σ : y_S) (a b : Int) : Prop := (0 ≤ a ∧ a ≤ b) ∧ (1 ≤ b ∧ b ≤ 100) ∧ ¬ σ 0 6 = 0 ∧ ¬ σ 0 6 = 5
def y_lm (σ : y_S) (a b : Int) : Int := σ 20 0 * a / b
theorem y_lm_b {σ : y_S} (w : y_W σ) (wf : y_WF σ) {a b : Int} (hp : p_alt σ a b) : (0 ≤ σ 20 0 * a ∧ σ 20 0 * a ≤ 600) ∧ 0 ≤ y_lm σ a b ∧ y_lm σ a b ≤ 600 := by
  obtain ⟨p1, p2, p3, -⟩ := hp
  have w6 := w.1.2.2.2.2.2.2.1
  have g := (wf 0 (by omega)).1
  have m : 0 ≤ σ 20 0 * a ∧ σ 20 0 * a ≤ 6 * 100 := ⟨Int.mul_nonneg (by omega) (by omega), Int.mul_le_mul (by omega) (by omega) (by omega) (by omega)⟩
  unfold y_lm
  refine ⟨by omega, Int.ediv_nonneg m.1 (by omega), ?_⟩
  have := Int.ediv_le_self b m.1
  omega
theorem L100 : (100 : Int64).toInt = 100 := rfl
theorem M_alternate {σ : y_S} (w : y_W σ) (wf : y_WF σ) {μ : q_M} (h : y_RM σ μ) (x1 x3 : Int64) : (p_alt σ x1.toInt x3.toInt → ∃ μ', f_X10_alternate x1 x3 μ = some (iz (a_run σ (y_bs σ (y_lm σ x1.toInt x3.toInt))), μ') ∧ y_RM (n_kb σ (y_bs σ (y_lm σ x1.toInt x3.toInt))) μ' ∧ y_Fm μ μ') ∧ (¬ p_alt σ x1.toInt x3.toInt → f_X10_alternate x1 x3 μ = some (-2, μ)) := by
  have w6 := w.1.2.2.2.2.2.2.1
  have e5 : (iz (σ 0 6) = 5) = (σ 0 6 = 5) := z_eq32 (b := 5) (by omega) (by omega) (by omega) (by omega)
  unfold f_X10_alternate
  rw [k_in, z_bd, z_if z_b0, k_in, z_bd, z_if z_b0, m_found h, z_if (z_eq0 (by omega) (by omega)), z_if e5]
  simp only [L0, L1, L100, ite_not]
  constructor
  · intro hp
    have lb := y_lm_b w wf hp
    obtain ⟨p1, p2, p3, p4⟩ := hp
    have g := (wf 0 (by omega)).1
    rw [if_pos p1, if_pos p2, if_neg p3, if_neg p4, z_gd (by decide), show (0 : Int32).toNatClampNeg = 0 from rfl, m_foundSizes h, z_64 (by omega) (by omega)]
    have n0 : ¬ x3 = 0 := by rw [z_e64]; show ¬ x3.toInt = 0; omega
    rw [z_gd (decide_eq_true n0)]
    have eL : (lz (σ 20 0) * x1 / x3).toInt32 = iz (y_lm σ x1.toInt x3.toInt) := by
      rw [show lz (σ 20 0) * x1 / x3 = lz (σ 20 0) * lz x1.toInt / lz x3.toInt by rw [z_lz, z_lz], z_mulL, z_divL (by omega) (by omega) (by omega) (by omega), z_32]
      rfl
    rw [eL]
    obtain ⟨μ1, f1, h2, b2, -, F1⟩ := K_search w wf (L := y_lm σ x1.toInt x3.toInt) (by omega) h
    rw [f1, z_bd]
    have bl := b2.2.2.2.2
    unfold a_run n_kb
    generalize y_bs σ (y_lm σ x1.toInt x3.toInt) = B at *
    rw [b2.1, z_if (z_eq0 (by omega) (by omega))]
    by_cases c : B.length = 0
    · rw [if_pos (by omega), if_pos c, if_pos c]
      exact ⟨μ1, rfl, h2, F1⟩
    · rw [if_neg (by omega), if_neg c, if_neg c]
      obtain ⟨μ2, f2, h3, k2, F2⟩ := K_keep w (by omega) h2 b2
      have b38 := b2.2.1 (fun q => c (by rw [q]; rfl))
      have e10 : n_keep σ B 0 10 = σ 0 10 := by simp [n_keep, y_up]
      rw [f2, z_bd, k2, b38, m_minute h3, e10, z_sub]
      exact ⟨μ2, rfl, h3, F1.tr F2⟩
  · intro hp
    by_cases p1 : 0 ≤ x1.toInt ∧ x1.toInt ≤ x3.toInt
    · rw [if_pos p1]
      by_cases p2 : 1 ≤ x3.toInt ∧ x3.toInt ≤ 100
      · rw [if_pos p2]
        by_cases p3 : σ 0 6 = 0
        · rw [if_pos p3]
        · rw [if_neg p3]
          by_cases p4 : σ 0 6 = 5
          · rw [if_pos p4]
          · exact absurd ⟨p1, p2, p3, p4⟩ hp
      · rw [if_neg p2]
    · rw [if_neg p1]
def p_row (σ : y_S) (b at_ u v : Int) : Prop := (0 ≤ b ∧ b < σ 0 2) ∧ (0 ≤ at_ ∧ at_ ≤ 60) ∧ (-1000 ≤ u ∧ u ≤ 1000) ∧ (1 ≤ v ∧ v ≤ 1000) ∧ ¬ σ 13 b.toNat = 6 ∧ (σ 13 b.toNat ≤ 0 ∨ σ 14 (6 * b.toNat + ((σ 13 b.toNat).toNat - 1)) < at_)
def n_row (σ : y_S) (b at_ u v : Int) : y_S := y_fg (y_up (y_up (y_up (y_up σ 14 (6 * b.toNat + (σ 13 b.toNat).toNat) at_) 15 (6 * b.toNat + (σ 13 b.toNat).toNat) u) 16 (6 * b.toNat + (σ 13 b.toNat).toNat) v) 13 b.toNat (σ 13 b.toNat + 1))
theorem L60 : (60 : Int64).toInt = 60 := rfl
theorem L1000 : (1000 : Int64).toInt = 1000 := rfl
theorem Lm1000 : (-1000 : Int64).toInt = -1000 := rfl
theorem L30 : (30 : Int64).toInt = 30 := rfl
theorem z_x32 (x : Int64) : x.toInt32 = iz x.toInt := by
  have := z_32 x.toInt
  rw [z_lz] at this
  exact this
theorem K_r97 {σ : y_S} (w : y_W σ) {μ : q_M} (h : y_RM σ μ) {b : Nat} (hb : b < 6) (hc : σ 13 b < 6) (x2 x4 x6 : Int64) : ∃ μ', J_X10_row_97 (iz (b : Int)) x2 x4 x6 (iz (6 * (b : Int) + σ 13 b)) μ = some (1, μ') ∧ y_RM (n_row σ (b : Int) x2.toInt x4.toInt x6.toInt) μ' ∧ y_Fm μ μ' := by
  have gb := (w.2.2.1 b hb).1
  have cb : (iz (b : Int)).toNatClampNeg = b := by rw [z_cl (by omega) (by omega)]; omega
  have cl : (iz (6 * (b : Int) + σ 13 b)).toNatClampNeg = 6 * b + (σ 13 b).toNat := by rw [z_cl (by omega) (by omega)]; omega
  unfold J_X10_row_97 n_row
  rw [z_gd (z_ix (by omega) (by omega) (by omega)), cl, z_le, z_le, z_le, z_gd (z_ix (by omega) (by omega) (by omega)), cb, z_le, z_x32, z_x32, z_x32]
  simp only [z_si1, Nat.reduceEqDiff, false_and, if_false, m_cornerCounts h, z_a1, k_forget, z_bd, Int.toNat_natCast]
  exact ⟨_, rfl, y_fgR (y_setA (y_setA (y_setA (y_setA h (by decide) (by decide) rfl rfl) (by decide) (by decide) rfl rfl) (by decide) (by decide) rfl rfl) (by decide) (by decide) rfl rfl), ((((y_Fm.rf.si (by decide)).si (by decide)).si (by decide)).si (by decide)).si (by decide)⟩
theorem M_row {σ : y_S} (w : y_W σ) {μ : q_M} (h : y_RM σ μ) (x1 : Int32) (x2 x4 x6 : Int64) : (p_row σ x1.toInt x2.toInt x4.toInt x6.toInt → ∃ μ', f_X10_row x1 x2 x4 x6 μ = some (1, μ') ∧ y_RM (n_row σ x1.toInt x2.toInt x4.toInt x6.toInt) μ' ∧ y_Fm μ μ') ∧ (¬ p_row σ x1.toInt x2.toInt x4.toInt x6.toInt → f_X10_row x1 x2 x4 x6 μ = some (0, μ)) := by
  have w2 := w.1.2.2.1
  unfold f_X10_row
  rw [k_isBridge h w2.1 w2.2, z_bd, z_if z_b0, k_in, z_bd, z_if z_b0, k_in, z_bd, z_if z_b0, k_in, z_bd, z_if z_b0]
  simp only [L0, L1, L60, L1000, Lm1000, ite_not]
  by_cases p1 : 0 ≤ x1.toInt ∧ x1.toInt < σ 0 2
  · rw [if_pos p1]
    by_cases p2 : 0 ≤ x2.toInt ∧ x2.toInt ≤ 60
    · rw [if_pos p2]
      by_cases p3 : -1000 ≤ x4.toInt ∧ x4.toInt ≤ 1000
      · rw [if_pos p3]
        by_cases p4 : 1 ≤ x6.toInt ∧ x6.toInt ≤ 1000
        · rw [if_pos p4]
          unfold p_row
          have hb : x1.toInt.toNat < 6 := by omega
          have ex : x1 = iz ((x1.toInt.toNat : Nat) : Int) := by rw [show ((x1.toInt.toNat : Nat) : Int) = x1.toInt by omega, z_iz]
          have ei : x1.toInt = ((x1.toInt.toNat : Nat) : Int) := by omega
          generalize x1.toInt.toNat = b at *
          have g := w.2.2.1 b hb
          have gb := g.1
          have cb : (iz (b : Int)).toNatClampNeg = b := by rw [z_cl (by omega) (by omega)]; omega
          have e6 : (iz (σ 13 b) = 6) = (σ 13 b = 6) := z_eq32 (b := 6) (by omega) (by omega) (by omega) (by omega)
          rw [ex, z_gd (z_ix (by omega) (by omega) (by omega)), cb, m_cornerCounts h, z_if e6, ← ex, ei]
          by_cases p5 : σ 13 b = 6
          · rw [if_pos p5]
            exact ⟨fun hp => absurd p5 hp.2.2.2.2.1, fun _ => rfl⟩
          · rw [if_neg p5, z_le, ex, show 6 * iz (b : Int) = iz (6 * b) from z_mul 6 b, z_add, z_if (z_le0 (by omega) (by omega))]
            obtain ⟨μ', f, R, F⟩ := K_r97 w h hb (by omega) x2 x4 x6
            by_cases p6 : σ 13 b ≤ 0
            · rw [if_pos p6]
              exact ⟨fun _ => ⟨μ', f, R, F⟩, fun hp => absurd ⟨by omega, p2, p3, p4, p5, Or.inl p6⟩ hp⟩
            · rw [if_neg p6, z_s1, z_gd (z_ix (by omega) (by omega) (by omega)), z_cl (by omega) (by omega), m_places h]
              have gk := (g.2.1 ((σ 13 b).toNat - 1) (by omega)).1
              rw [show (6 * (b : Int) + σ 13 b - 1).toNat = 6 * b + ((σ 13 b).toNat - 1) by omega, z_64 (by omega) (by omega)]
              have e7 : (0 < lg_cmp x2 (lz (σ 14 (6 * b + ((σ 13 b).toNat - 1))))) = (σ 14 (6 * b + ((σ 13 b).toNat - 1)) < x2.toInt) := by
                rw [z_c1, Int64.lt_iff_toInt_lt, z_toL (by omega) (by omega)]
              rw [z_if e7]
              by_cases p7 : σ 14 (6 * b + ((σ 13 b).toNat - 1)) < x2.toInt
              · rw [if_pos p7]
                exact ⟨fun _ => ⟨μ', f, R, F⟩, fun hp => absurd ⟨by omega, p2, p3, p4, p5, Or.inr p7⟩ hp⟩
              · rw [if_neg p7]
                refine ⟨fun hp => ?_, fun _ => rfl⟩
                rcases hp.2.2.2.2.2 with q | q
                · exact absurd q p6
                · exact absurd q p7
        · rw [if_neg p4]; exact ⟨fun hp => absurd hp.2.2.2.1 p4, fun _ => rfl⟩
      · rw [if_neg p3]; exact ⟨fun hp => absurd hp.2.2.1 p3, fun _ => rfl⟩
    · rw [if_neg p2]; exact ⟨fun hp => absurd hp.2.1 p2, fun _ => rfl⟩
  · rw [if_neg p1]; exact ⟨fun hp => absurd hp.1 p1, fun _ => rfl⟩
def p_axle (σ : y_S) (u v : Int) : Prop := ¬ σ 0 3 = 5 ∧ (0 ≤ v ∧ v ≤ 1000) ∧ ((σ 0 3 = 0 ∧ u = 0) ∨ (¬ σ 0 3 = 0 ∧ 1 ≤ u ∧ u ≤ 30))
def n_axle (σ : y_S) (u v : Int) : y_S := y_fg (y_up (y_up (y_up σ 17 (σ 0 3).toNat (if σ 0 3 = 0 then u + 0 else u + σ 17 ((σ 0 3).toNat - 1))) 18 (σ 0 3).toNat v) 0 3 (σ 0 3 + 1))
theorem K_a48 {σ : y_S} (w : y_W σ) {μ : q_M} (h : y_RM σ μ) (hc : σ 0 3 < 5) (x1 x3 : Int64) : ∃ μ', J_X10_axle_48 x1 x3 μ = some (1, μ') ∧ y_RM (n_axle σ x1.toInt x3.toInt) μ' ∧ y_Fm μ μ' := by
  have w3 := w.1.2.2.2.1
  unfold J_X10_axle_48 n_axle
  rw [m_axles h, z_if (z_eq0 (by omega) (by omega))]
  have g1 : ∀ {α : Type} (y : Option α), q_gd (q_ix (iz (σ 0 3)) 5) y = y := fun y => z_gd (z_ix (by omega) (by omega) (by omega))
  have c1 : (iz (σ 0 3)).toNatClampNeg = (σ 0 3).toNat := z_cl (by omega) (by omega)
  have J : ∀ (s0 : Int32) (z : Int), x1.toInt32 + s0 = iz z → ∃ μ', J_X10_axle_80 x1 x3 s0 x1.toInt32 (iz (σ 0 3)) μ = some (1, μ') ∧ y_RM (y_fg (y_up (y_up (y_up σ 17 (σ 0 3).toNat z) 18 (σ 0 3).toNat x3.toInt) 0 3 (σ 0 3 + 1))) μ' ∧ y_Fm μ μ' := by
    intro s0 z hz
    unfold J_X10_axle_80
    rw [g1, c1, hz, z_x32]
    simp only [z_le, z_si1, Nat.reduceEqDiff, false_and, if_false, m_axles h, g1, c1, z_a1, k_forget, z_bd]
    exact ⟨_, rfl, y_fgR (y_set0 (y_setA (y_setA h (by decide) (by decide) rfl rfl) (by decide) (by decide) rfl rfl) (by decide) rfl rfl), (((y_Fm.rf.si (by decide)).si (by decide)).si (by decide)).si (by decide)⟩
  by_cases c : σ 0 3 = 0
  · rw [if_pos c, if_pos c]
    exact J 0 _ (by rw [z_x32]; exact z_add _ 0)
  · rw [if_neg c, if_neg c, z_s1, z_gd (z_ix (by omega) (by omega) (by omega)), z_cl (by omega) (by omega), m_offsets h, show (σ 0 3 - 1).toNat = (σ 0 3).toNat - 1 by omega]
    exact J _ _ (by rw [z_x32]; exact z_add _ _)
theorem M_axle {σ : y_S} (w : y_W σ) {μ : q_M} (h : y_RM σ μ) (x1 x3 : Int64) : (p_axle σ x1.toInt x3.toInt → ∃ μ', f_X10_axle x1 x3 μ = some (1, μ') ∧ y_RM (n_axle σ x1.toInt x3.toInt) μ' ∧ y_Fm μ μ') ∧ (¬ p_axle σ x1.toInt x3.toInt → f_X10_axle x1 x3 μ = some (0, μ)) := by
  have w3 := w.1.2.2.2.1
  have e5 : (iz (σ 0 3) = 5) = (σ 0 3 = 5) := z_eq32 (b := 5) (by omega) (by omega) (by omega) (by omega)
  unfold f_X10_axle p_axle
  rw [m_axles h, z_if e5, k_in, z_bd, z_if z_b0, m_axles h, z_if (z_eq0 (by omega) (by omega)), k_in, z_bd, z_if z_b0]
  have e0 : (lg_cmp x1 0 = 0) = (x1.toInt = 0) := by rw [z_c2, z_e64]; rfl
  rw [z_if e0]
  simp only [L0, L1, L30, L1000, ite_not]
  by_cases p1 : σ 0 3 = 5
  · rw [if_pos p1]; exact ⟨fun hp => absurd p1 hp.1, fun _ => rfl⟩
  · rw [if_neg p1]
    by_cases p2 : 0 ≤ x3.toInt ∧ x3.toInt ≤ 1000
    · rw [if_pos p2]
      have K := K_a48 w h (by omega) x1 x3
      by_cases p3 : σ 0 3 = 0
      · rw [if_pos p3]
        by_cases p4 : x1.toInt = 0
        · rw [if_pos p4]
          exact ⟨fun _ => K, fun hp => absurd ⟨p1, p2, Or.inl ⟨p3, p4⟩⟩ hp⟩
        · rw [if_neg p4]
          refine ⟨fun hp => ?_, fun _ => rfl⟩
          rcases hp.2.2 with q | q
          · exact absurd q.2 p4
          · exact absurd p3 q.1
      · rw [if_neg p3]
        by_cases p4 : 1 ≤ x1.toInt ∧ x1.toInt ≤ 30
        · rw [if_pos p4]
          exact ⟨fun _ => K, fun hp => absurd ⟨p1, p2, Or.inr ⟨p3, p4⟩⟩ hp⟩
        · rw [if_neg p4]
          refine ⟨fun hp => ?_, fun _ => rfl⟩
          rcases hp.2.2 with q | q
          · exact absurd q.1 p3
          · exact absurd q.2 p4
    · rw [if_neg p2]; exact ⟨fun hp => absurd hp.2.1 p2, fun _ => rfl⟩
