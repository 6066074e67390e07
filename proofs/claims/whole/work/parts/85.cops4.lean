theorem K_chand {σ : y_S} (w : y_W σ) {μ : q_M} (h : y_RC σ μ) : ∃ k, f_X1_atHand μ = some (k, μ) ∧ q_kd k = 7 ∧ μ.1 k 2 = iz ((y_hd σ).length : Int) ∧ y_la μ (k + 8) (y_hd σ) ∧ ∀ i, i < (y_hd σ).length → μ.1 (k + 16) i = iz (y_sa σ (y_hd σ) i) := by
  have w6 := w.1.2.2.2.2.2.2.1
  unfold f_X1_atHand y_hd
  rw [d_found h.1, z_if (z_le0 (by omega) (by omega))]
  by_cases c : σ 0 6 = 0
  · rw [if_pos (by omega), if_pos c]
    exact ⟨118, rfl, rfl, h.2.2.2.2, fun k hk => absurd hk (Nat.not_lt_zero _), fun k hk => absurd hk (Nat.not_lt_zero _)⟩
  · have cl : (iz (σ 0 6 - 1)).toNatClampNeg = (σ 0 6).toNat - 1 := by rw [z_cl (by omega) (by omega)]; omega
    rw [if_neg (by omega), if_neg c, z_s1, z_gd (z_ix (by omega) (by omega) (by omega)), cl]
    obtain ⟨a1, a2, a3, -⟩ := h.2.2.2.1 ((σ 0 6).toNat - 1) (by omega)
    refine ⟨113 + ((σ 0 6).toNat - 1), rfl, ?_, a1, a2, a3⟩
    have key : ∀ j, j < 5 → q_kd (113 + j) = 7 := by decide
    exact key _ (by omega)
theorem K_place {x0 : Nat} {μ : q_M} {n : Nat} (hn : n ≤ 6) (h : μ.1 x0 2 = iz (n : Int)) (x : Int32) : f_X7_hasPlace x0 x μ = some (if 0 ≤ x.toInt ∧ x.toInt < n then 1 else 0, μ) := by
  unfold f_X7_hasPlace
  have e1 : (x < 0) = (x.toInt < 0) := by rw [Int32.lt_iff_toInt_lt]; rfl
  have e2 : (iz (n : Int) ≤ x) = ((n : Int) ≤ x.toInt) := by rw [Int32.le_iff_toInt_le, z_toI (by omega) (by omega)]
  rw [h, z_if e1, z_if e2]
  by_cases g1 : x.toInt < 0
  · rw [if_pos g1, if_neg (by omega)]
  · rw [if_neg g1]
    by_cases g2 : (n : Int) ≤ x.toInt
    · rw [if_pos g2, if_neg (by omega)]
    · rw [if_neg g2, if_pos (by omega)]
theorem C_road2 {σ : y_S} (w : y_W σ) (wf : y_WF σ) {μ : q_M} (h : y_RC σ μ) (x : Int32) : f_X9_road2 x μ = some (if 0 ≤ x.toInt ∧ x.toInt < (y_hd σ).length then iz (((y_hd σ).getD x.toInt.toNat 0 : Nat) : Int) else -1, μ) := by
  have l6 := y_hd_len w wf
  obtain ⟨k, f, kd, k2, k8, k16⟩ := K_chand w h
  unfold f_X9_road2
  rw [f, z_bd, z_gd (decide_eq_true kd), K_place l6 k2, z_bd, z_if z_b0, ite_not]
  by_cases c : 0 ≤ x.toInt ∧ x.toInt < (y_hd σ).length
  · rw [if_pos c, if_pos c, z_gix (by omega) (by omega), z_clx, k8 _ (by omega)]
  · rw [if_neg c, if_neg c]
theorem C_begun {σ : y_S} (w : y_W σ) (wf : y_WF σ) {μ : q_M} (h : y_RC σ μ) (x : Int32) : f_X9_begun x μ = some (if 0 ≤ x.toInt ∧ x.toInt < (y_hd σ).length then iz (a_begun σ x.toInt.toNat) else -1, μ) := by
  have l6 := y_hd_len w wf
  obtain ⟨k, f, kd, k2, k8, k16⟩ := K_chand w h
  unfold f_X9_begun
  rw [f, z_bd, z_gd (decide_eq_true kd), K_place l6 k2, z_bd, z_if z_b0, ite_not]
  by_cases c : 0 ≤ x.toInt ∧ x.toInt < (y_hd σ).length
  · rw [if_pos c, if_pos c, z_gix (by omega) (by omega), z_clx, k16 _ (by omega)]
    rfl
  · rw [if_neg c, if_neg c]
theorem K_cbal {σ : y_S} (w : y_W σ) {μ : q_M} (h : y_RC σ μ) (x1 x2 : Int32) : ∀ (d n i : Nat) (c : Int), i + d = (σ 0 1).toNat → d < n → 0 ≤ c → c ≤ i → L_X9_bars_21 x1 x2 (fun μ => some (-1, μ)) n (iz c) (iz (i : Int)) μ = some (iz (y_pk (y_bp σ) (fun r => if x2.toInt = 0 then (r : Int) else y_why σ r) x1.toInt (List.range' i d) c), μ) := by
  have w1 := w.1.2.1
  intro d
  induction d with
  | zero =>
    intro n i c hi hn h0 h1
    obtain ⟨n, rfl⟩ : ∃ z, n = z + 1 := ⟨n - 1, by omega⟩
    rw [L_X9_bars_21, d_roads h.1, z_if (z_le32 (by omega) (by omega) (by omega) (by omega)), if_pos (by omega)]
    rfl
  | succ d ih =>
    intro n i c hi hn h0 h1
    obtain ⟨n, rfl⟩ : ∃ z, n = z + 1 := ⟨n - 1, by omega⟩
    have hr : (i : Int) < σ 0 1 := by omega
    have yw := y_why_b σ i
    rw [L_X9_bars_21, d_roads h.1, z_if (z_le32 (by omega) (by omega) (by omega) (by omega)), if_neg (by omega), K_cwhy w hr h.1 h.2.1 h.2.2.1, z_bd, z_if (z_eq0 (by omega) (by omega)), z_le, z_le, z_le, z_a1, z_a1, z_if (z_ex (by omega) (by omega) x1), z_if (z_x0 x2), List.range'_succ]
    unfold y_pk y_bp
    by_cases c0 : y_why σ i = 0
    · rw [if_pos c0, if_neg (show ¬ (decide (0 < y_why σ i) = true) by rw [decide_eq_false (by omega)]; exact Bool.noConfusion)]
      exact ih n (i + 1) c (by omega) (by omega) h0 (by omega)
    · rw [if_neg c0, if_pos (show decide (0 < y_why σ i) = true from decide_eq_true (by omega))]
      by_cases c1 : c = x1.toInt
      · rw [if_pos c1, if_pos c1]
        by_cases c2 : x2.toInt = 0
        · rw [if_pos c2, if_pos c2]
        · rw [if_neg c2, if_neg c2]
      · rw [if_neg c1, if_neg c1]
        exact ih n (i + 1) (c + 1) (by omega) (by omega) (by omega) (by omega)
theorem C_bars {σ : y_S} (w : y_W σ) {μ : q_M} (h : y_RC σ μ) (x1 x2 : Int32) : f_X9_bars x1 x2 μ = some (iz (a_bars σ x1.toInt x2.toInt), μ) := by
  have w1 := w.1.2.1
  have e1 : (x1 < 0) = (x1.toInt < 0) := by rw [Int32.lt_iff_toInt_lt]; rfl
  unfold f_X9_bars a_bars
  rw [z_if e1, k_within, z_bd, z_if z_b0, ite_not, Int32.toInt_toInt64, L0, L1]
  by_cases c1 : x1.toInt < 0
  · rw [if_pos c1, y_pk_neg _ _ c1 _ 0 (by omega)]
    split <;> rfl
  · rw [if_neg c1]
    by_cases c2 : 0 ≤ x2.toInt ∧ x2.toInt ≤ 1
    · rw [if_pos c2, if_pos c2]
      exact K_cbal w h x1 x2 (σ 0 1).toNat q_fu 0 0 (by omega) (by rw [z_fu]; omega) (by omega) (by omega)
    · rw [if_neg c2, if_neg c2]; rfl
theorem K_cesl {σ : y_S} (w : y_W σ) {μ : q_M} (h : y_RC σ μ) {v2 many : Nat} (hm : many ≤ 6) (hq : μ.1 v2 2 = iz (many : Int)) (x1 : Int32) : ∀ (l : List Nat) (n i : Nat) (c : Int), (∀ r, r ∈ l → (r : Int) < σ 0 1) → l.length + i = many → l.length < n → 0 ≤ c → c ≤ i → (∀ k, k < l.length → μ.1 (v2 + 8) (i + k) = iz ((l.getD k 0 : Nat) : Int)) → L_X9_escort_19 x1 (fun μ => some (-1, μ)) n v2 (iz c) (iz (i : Int)) μ = some (iz (y_pk (fun r => decide (y_wes σ r)) (fun r => (r : Int)) x1.toInt l c), μ) := by
  have w1 := w.1.2.1
  intro l
  induction l with
  | nil =>
    intro n i c hl hi hn h0 h1 hc
    obtain ⟨n, rfl⟩ : ∃ z, n = z + 1 := ⟨n - 1, by simp at hn; omega⟩
    simp at hi
    rw [L_X9_escort_19, hq, z_if (z_le32 (by omega) (by omega) (by omega) (by omega)), if_pos (by omega)]
    rfl
  | cons r l ih =>
    intro n i c hl hi hn h0 h1 hc
    obtain ⟨n, rfl⟩ : ∃ z, n = z + 1 := ⟨n - 1, by simp at hn; omega⟩
    simp only [List.length_cons] at hi hn
    have hr := hl r (List.mem_cons_self)
    have c0 := hc 0 (by simp)
    simp only [Nat.add_zero, List.getD_cons_zero] at c0
    have cl : (iz (i : Int)).toNatClampNeg = i := by rw [z_cl (by omega) (by omega)]; omega
    have IH := fun c (q1 : 0 ≤ c) (q2 : c ≤ (i : Int) + 1) => ih n (i + 1) c (fun s q => hl s (List.mem_cons_of_mem _ q)) (by omega) (by omega) q1 (by omega) (fun k hk => by
      have := hc (k + 1) (by simp; omega)
      rw [List.getD_cons_succ] at this
      exact z_at this (by omega))
    rw [L_X9_escort_19, hq, z_if (z_le32 (by omega) (by omega) (by omega) (by omega)), if_neg (by omega), z_gd (z_ix (by omega) (by omega) (by omega)), cl, c0, K_cwes w hr h.1 h.2.1 h.2.2.1, z_bd, z_if z_b0, ite_not, c0, z_le, z_le, z_le, z_a1, z_a1, z_if (z_ex (by omega) (by omega) x1)]
    unfold y_pk
    by_cases c2 : y_wes σ r
    · rw [if_pos c2, if_pos (show decide (y_wes σ r) = true from decide_eq_true c2)]
      by_cases c1 : c = x1.toInt
      · rw [if_pos c1, if_pos c1]
      · rw [if_neg c1, if_neg c1]
        exact IH (c + 1) (by omega) (by omega)
    · rw [if_neg c2, if_neg (show ¬ (decide (y_wes σ r) = true) by rw [decide_eq_false c2]; exact Bool.noConfusion)]
      exact IH c h0 (by omega)
theorem C_escort {σ : y_S} (w : y_W σ) (wf : y_WF σ) (wg : y_WG σ) {μ : q_M} (h : y_RC σ μ) (x1 : Int32) : f_X9_escort x1 μ = some (iz (a_escort σ x1.toInt), μ) := by
  have l6 := y_hd_len w wf
  have ls := y_hd_Ls w wg
  obtain ⟨k, f, kd, k2, k8, k16⟩ := K_chand w h
  have e1 : (0 ≤ x1) = (0 ≤ x1.toInt) := by rw [Int32.le_iff_toInt_le]; rfl
  unfold f_X9_escort a_escort
  rw [z_if e1, f, z_bd, z_gd (decide_eq_true kd)]
  by_cases c : 0 ≤ x1.toInt
  · rw [if_pos c]
    exact K_cesl w h l6 k2 x1 (y_hd σ) q_fu 0 0 (fun r q => (ls r q).1) (by omega) (by rw [z_fu]; omega) (by omega) (by omega) (fun j hj => by rw [Nat.zero_add]; exact k8 j hj)
  · rw [if_neg c, y_pk_neg _ _ (by omega) _ 0 (by omega)]; rfl
theorem K_cnol {σ : y_S} (w : y_W σ) {μ : q_M} (h : y_RC σ μ) {v2 many : Nat} (hm : many ≤ 6) (hq : μ.1 v2 2 = iz (many : Int)) (x1 : Int32) : ∀ (l : List Nat) (n i : Nat) (c : Int), (∀ r, r ∈ l → (r : Int) < σ 0 1) → l.length + i = many → l.length < n → 0 ≤ c → c ≤ i → (∀ k, k < l.length → μ.1 (v2 + 8) (i + k) = iz ((l.getD k 0 : Nat) : Int)) → L_X9_notice_19 x1 (fun μ => some (-1, μ)) n v2 (iz c) (iz (i : Int)) μ = some (iz (y_pk (fun r => decide (0 ≤ σ 7 r)) (σ 7) x1.toInt l c), μ) := by
  have w1 := w.1.2.1
  have w2 := w.1.2.2.1
  intro l
  induction l with
  | nil =>
    intro n i c hl hi hn h0 h1 hc
    obtain ⟨n, rfl⟩ : ∃ z, n = z + 1 := ⟨n - 1, by simp at hn; omega⟩
    simp at hi
    rw [L_X9_notice_19, hq, z_if (z_le32 (by omega) (by omega) (by omega) (by omega)), if_pos (by omega)]
    rfl
  | cons r l ih =>
    intro n i c hl hi hn h0 h1 hc
    obtain ⟨n, rfl⟩ : ∃ z, n = z + 1 := ⟨n - 1, by simp at hn; omega⟩
    simp only [List.length_cons] at hi hn
    have hr := hl r (List.mem_cons_self)
    have c0 := hc 0 (by simp)
    simp only [Nat.add_zero, List.getD_cons_zero] at c0
    have cl : (iz (i : Int)).toNatClampNeg = i := by rw [z_cl (by omega) (by omega)]; omega
    have cr : (iz (r : Int)).toNatClampNeg = r := by rw [z_cl (by omega) (by omega)]; omega
    have yb : y_br σ r = -1 ∨ (0 ≤ y_br σ r ∧ y_br σ r < 6) := by rcases y_br_b w hr with ⟨a, b, c⟩ | ⟨a, b⟩ <;> omega
    have IH := fun c (q1 : 0 ≤ c) (q2 : c ≤ (i : Int) + 1) => ih n (i + 1) c (fun s q => hl s (List.mem_cons_of_mem _ q)) (by omega) (by omega) q1 (by omega) (fun k hk => by
      have := hc (k + 1) (by simp; omega)
      rw [List.getD_cons_succ] at this
      exact z_at this (by omega))
    rw [L_X9_notice_19, hq, z_if (z_le32 (by omega) (by omega) (by omega) (by omega)), if_neg (by omega), z_gd (z_ix (by omega) (by omega) (by omega)), cl, c0, z_gd (z_ix (by omega) (by omega) (by omega)), cr, z_le, d_br h.2.1 (by omega), z_if (z_eqm (by omega) (by omega)), z_le, z_le, z_le, z_a1, z_a1, z_if (z_ex (by omega) (by omega) x1)]
    unfold y_pk
    rcases y_br_b w hr with ⟨a, b, c3⟩ | ⟨a, b⟩
    · rw [if_neg (by omega), if_pos (show decide (0 ≤ σ 7 r) = true from decide_eq_true a)]
      by_cases c1 : c = x1.toInt
      · rw [if_pos c1, if_pos c1, b]
      · rw [if_neg c1, if_neg c1]
        exact IH (c + 1) (by omega) (by omega)
    · rw [if_pos b, if_neg (show ¬ (decide (0 ≤ σ 7 r) = true) by rw [decide_eq_false a]; exact Bool.noConfusion)]
      exact IH c h0 (by omega)
theorem C_notice {σ : y_S} (w : y_W σ) (wf : y_WF σ) (wg : y_WG σ) {μ : q_M} (h : y_RC σ μ) (x1 : Int32) : f_X9_notice x1 μ = some (iz (a_notice σ x1.toInt), μ) := by
  have l6 := y_hd_len w wf
  have ls := y_hd_Ls w wg
  obtain ⟨k, f, kd, k2, k8, k16⟩ := K_chand w h
  have e1 : (0 ≤ x1) = (0 ≤ x1.toInt) := by rw [Int32.le_iff_toInt_le]; rfl
  unfold f_X9_notice a_notice
  rw [z_if e1, f, z_bd, z_gd (decide_eq_true kd)]
  by_cases c : 0 ≤ x1.toInt
  · rw [if_pos c]
    exact K_cnol w h l6 k2 x1 (y_hd σ) q_fu 0 0 (fun r q => (ls r q).1) (by omega) (by rw [z_fu]; omega) (by omega) (by omega) (fun j hj => by rw [Nat.zero_add]; exact k8 j hj)
  · rw [if_neg c, y_pk_neg _ _ (by omega) _ 0 (by omega)]; rfl
theorem K_ccvl {σ : y_S} (w : y_W σ) (wf : y_WF σ) (wg : y_WG σ) {μ : q_M} (h : y_RC σ μ) {n gap : Int} (hn : 1 ≤ n ∧ n ≤ 20) (hg : 0 ≤ gap ∧ gap ≤ 600) (Kx : Int32 → q_M → Option (Int32 × q_M)) : ∀ (d z : Nat) (i v : Int), i + d = n → d < z → 0 ≤ i → 0 ≤ v → v ≤ 1000000 → L_X9_convoy_47 (iz n) (iz gap) Kx z (iz v) (iz i) μ = Kx (iz (y_cv σ (y_hd σ) gap d i v)) μ := by
  have l6 := y_hd_len w wf
  have ls := y_hd_Ls w wg
  have w10 := w.1.2.2.2.2.2.2.2.2.2.2.1
  intro d
  induction d with
  | zero =>
    intro z i v hi hz h0 h1 h2
    obtain ⟨z, rfl⟩ : ∃ k, z = k + 1 := ⟨z - 1, by omega⟩
    rw [L_X9_convoy_47, z_if (z_le32 (by omega) (by omega) (by omega) (by omega)), if_pos (by omega)]
    rfl
  | succ d ih =>
    intro z i v hi hz h0 h1 h2
    obtain ⟨z, rfl⟩ : ∃ k, z = k + 1 := ⟨z - 1, by omega⟩
    obtain ⟨k, f, kd, k2, k8, k16⟩ := K_chand w h
    have ig : 0 ≤ i * gap ∧ i * gap ≤ 20 * 600 := ⟨Int.mul_nonneg h0 hg.1, Int.mul_le_mul (by omega) hg.2 hg.1 (by omega)⟩
    have eb := y_en_b w (y_hd σ) (σ 0 10 + i * gap) ls
    rw [L_X9_convoy_47, z_if (z_le32 (by omega) (by omega) (by omega) (by omega)), if_neg (by omega), f, z_bd, z_gd (decide_eq_true kd), d_minute h.1, z_mul, z_add, K_cdrive w h.1 h.2.1 l6 k2 k8 ls (by omega) (by omega), z_bd, z_le, z_le, z_a1, z_if (z_lt32 (by omega) (by omega) (by omega) (by omega))]
    unfold y_cv
    by_cases c : y_en σ (y_hd σ) (σ 0 10 + i * gap) ≤ v
    · rw [if_neg (by omega), if_pos c]
      exact ih z (i + 1) v (by omega) (by omega) (by omega) h1 h2
    · rw [if_pos (by omega), if_neg c]
      exact ih z (i + 1) _ (by omega) (by omega) (by omega) (by omega) (by omega)
theorem C_convoy {σ : y_S} (w : y_W σ) (wf : y_WF σ) (wg : y_WG σ) {μ : q_M} (h : y_RC σ μ) (x1 x2 : Int32) : f_X9_convoy x1 x2 μ = some (iz (a_convoy σ x1.toInt x2.toInt), μ) := by
  have l6 := y_hd_len w wf
  have ls := y_hd_Ls w wg
  have w6 := w.1.2.2.2.2.2.2.1
  have w10 := w.1.2.2.2.2.2.2.2.2.2.2.1
  unfold f_X9_convoy a_convoy
  rw [d_found h.1, z_if (z_eq0 (by omega) (by omega)), k_within, z_bd, z_if z_b0, ite_not, k_within, z_bd, z_if z_b0, ite_not, z_le, Int32.toInt_toInt64, Int32.toInt_toInt64, L0, L1, L20, L600]
  by_cases c0 : σ 0 6 = 0
  · rw [if_pos c0, if_neg (fun q => q.2.2 (by unfold y_hd; rw [if_pos c0]; rfl))]; rfl
  · have lh : ¬ (y_hd σ).length = 0 := by
      unfold y_hd
      rw [if_neg c0, y_fw_len]
      have := (wf ((σ 0 6).toNat - 1) (by omega)).1
      omega
    rw [if_neg c0]
    by_cases c1 : 1 ≤ x1.toInt ∧ x1.toInt ≤ 20
    · rw [if_pos c1]
      by_cases c2 : 0 ≤ x2.toInt ∧ x2.toInt ≤ 600
      · rw [if_pos c2, if_pos ⟨c1, c2, lh⟩, d_minute h.1]
        have key := K_ccvl w wf wg h c1 c2 (fun v3 μ => some (v3 - μ.1 2 9, μ)) x1.toInt.toNat q_fu 0 (σ 0 10) (by omega) (by rw [z_fu]; omega) (by omega) (by omega) (by omega)
        rw [z_iz, z_iz] at key
        rw [show L_X9_convoy_47 x1 x2 (fun v3 μ => some (v3 - μ.1 2 9, μ)) q_fu (iz (σ 0 10)) 0 μ = _ from key, d_minute h.1, z_sub]
        obtain ⟨d, hd⟩ : ∃ d, x1.toInt.toNat = d + 1 := ⟨x1.toInt.toNat - 1, by omega⟩
        rw [hd]
        have eb := y_en_b w (y_hd σ) (σ 0 10 + 0 * x2.toInt) ls
        rw [Int.zero_mul, Int.add_zero] at eb
        have e : y_cv σ (y_hd σ) x2.toInt (d + 1) 0 (σ 0 10) = y_cv σ (y_hd σ) x2.toInt (d + 1) 0 0 := by
          unfold y_cv
          rw [Int.zero_mul, Int.add_zero]
          congr 1
          by_cases q1 : y_en σ (y_hd σ) (σ 0 10) ≤ σ 0 10
          · rw [if_pos q1]
            by_cases q2 : y_en σ (y_hd σ) (σ 0 10) ≤ 0
            · rw [if_pos q2]; omega
            · rw [if_neg q2]; omega
          · rw [if_neg q1, if_neg (by omega)]
        rw [e]
      · rw [if_neg c2, if_neg (fun q => c2 q.2.1)]; rfl
    · rw [if_neg c1, if_neg (fun q => c1 q.1)]; rfl
theorem C_count {σ : y_S} (w : y_W σ) (wp : y_WP σ) (wn : σ 0 7 ≠ 0 → σ 0 8 ≠ σ 0 9) {μ : q_M} (h : y_RC σ μ) (x : Int32) : ∃ μ', f_X9_count x μ = some (iz (a_count σ x.toInt), μ') ∧ y_RC σ μ' ∧ y_Fc μ μ' := by
  unfold f_X9_count a_count
  rw [z_if (z_x0 x), z_if (show (x = 1) = (x.toInt = 1) from z_xk x (a := 1) (by omega) (by omega)), z_if (show (x = 2) = (x.toInt = 2) from z_xk x (a := 2) (by omega) (by omega)), z_if (show (x = 3) = (x.toInt = 3) from z_xk x (a := 3) (by omega) (by omega)), z_if (show (x = 4) = (x.toInt = 4) from z_xk x (a := 4) (by omega) (by omega)), z_if (show (x = 5) = (x.toInt = 5) from z_xk x (a := 5) (by omega) (by omega)), z_if (show (x = 6) = (x.toInt = 6) from z_xk x (a := 6) (by omega) (by omega)), d_nodes h.1, d_roads h.1, d_bridges h.1, d_axles h.1, d_found h.1]
  by_cases c0 : x.toInt = 0
  · rw [if_pos c0, if_pos c0]; exact ⟨μ, rfl, h, y_Fc.rf⟩
  rw [if_neg c0, if_neg c0]
  by_cases c1 : x.toInt = 1
  · rw [if_pos c1, if_pos c1]; exact ⟨μ, rfl, h, y_Fc.rf⟩
  rw [if_neg c1, if_neg c1]
  by_cases c2 : x.toInt = 2
  · rw [if_pos c2, if_pos c2]; exact ⟨μ, rfl, h, y_Fc.rf⟩
  rw [if_neg c2, if_neg c2]
  by_cases c3 : x.toInt = 3
  · rw [if_pos c3, if_pos c3]; exact ⟨μ, rfl, h, y_Fc.rf⟩
  rw [if_neg c3, if_neg c3]
  by_cases c4 : x.toInt = 4
  · rw [if_pos c4, if_pos c4]
    obtain ⟨k, f, kd, k2, k8, k16⟩ := K_chand w h
    rw [f, z_bd, z_gd (decide_eq_true kd), k2]
    exact ⟨μ, rfl, h, y_Fc.rf⟩
  rw [if_neg c4, if_neg c4]
  by_cases c5 : x.toInt = 5
  · rw [if_pos c5, if_pos c5]; exact ⟨μ, rfl, h, y_Fc.rf⟩
  rw [if_neg c5, if_neg c5]
  by_cases c6 : x.toInt = 6
  · rw [if_pos c6, if_pos c6]
    have key : ∃ L, y_LL σ L ∧ (0 < σ 0 6 → μ.1 2 10 = iz L) := by
      by_cases q : 0 < σ 0 6
      · exact ⟨(μ.1 2 10).toInt, ⟨fun z => absurd q z, z_i1 _, z_i2 _⟩, fun _ => (z_iz _).symm⟩
      · exact ⟨0, ⟨fun _ => by omega, by omega, by omega⟩, fun z => absurd z q⟩
    obtain ⟨L, hL, h10⟩ := key
    obtain ⟨μ1, f1, R1, c13, -, F1⟩ := K_look w wp wn hL h h10
    rw [f1, z_bd, c13]
    exact ⟨μ1, rfl, R1, F1⟩
  rw [if_neg c6, if_neg c6]
  exact ⟨μ, rfl, h, y_Fc.rf⟩
