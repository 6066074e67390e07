theorem d_br {σ : y_S} {μ : q_M} (hB : y_RB σ μ) {r : Nat} (hr : r < 12) : μ.1 (14 + r) 6 = iz (y_br σ r) := hB.1 r hr
theorem y_br_b {σ : y_S} (w : y_W σ) {r : Nat} (hr : (r : Int) < σ 0 1) : (0 ≤ σ 7 r ∧ y_br σ r = σ 7 r ∧ σ 7 r < σ 0 2) ∨ (¬ 0 ≤ σ 7 r ∧ y_br σ r = -1) := by
  have g := w.2.1 r hr
  unfold y_br
  by_cases c : 0 ≤ σ 7 r
  · rw [if_pos ⟨hr, c⟩]; exact Or.inl ⟨c, rfl, by omega⟩
  · rw [if_neg (fun q => c q.2)]; exact Or.inr ⟨c, rfl⟩
theorem K_chb {σ : y_S} (w : y_W σ) {r : Nat} (hr : (r : Int) < σ 0 1) {μ : q_M} (h : y_RD σ μ) : f_X3_hasBridge (iz (y_br σ r)) μ = some (if 0 ≤ σ 7 r then 1 else 0, μ) := by
  have w2 := w.1.2.2.1
  rw [k_hasBridge h w2.1 w2.2]
  rcases y_br_b w hr with ⟨a, b, c⟩ | ⟨a, b⟩
  · rw [b, z_toI (by omega) (by omega), if_pos (by omega), if_pos a]
  · rw [b, z_toI (by omega) (by omega), if_neg (by omega), if_neg a]
theorem z_by (b : Bool) : (y_bI b = 0) = (b = false) := by cases b <;> simp [y_bI]
theorem K_cwhy {σ : y_S} (w : y_W σ) {r : Nat} (hr : (r : Int) < σ 0 1) {μ : q_M} (h : y_RD σ μ) (hB : y_RB σ μ) (hk : y_RK σ μ) : f_X3_whyNotBearing (iz (r : Int)) μ = some (iz (y_why σ r), μ) := by
  have w0 := w.1
  have w1 := w0.2.1
  have w2 := w0.2.2.1
  have w4 := w0.2.2.2.2.1
  have w5 := w0.2.2.2.2.2.1
  have g := w.2.1 r hr
  have r12 : r < 12 := by omega
  have cl : (iz (r : Int)).toNatClampNeg = r := by rw [z_cl (by omega) (by omega)]; omega
  unfold f_X3_whyNotBearing y_why
  rw [z_gd (z_ix (by omega) (by omega) (by omega)), cl, d_opens h r12, d_height h, d_heights h r12, d_width h, d_widths h r12, d_br hB r12, z_if (z_eq0 (by omega) (by omega)), z_if (z_le32 (by omega) (by omega) (by omega) (by omega)), z_if (z_le32 (by omega) (by omega) (by omega) (by omega)), K_chb w hr h, z_bd, z_if z_b0, ite_not, d_br hB r12]
  by_cases c1 : σ 6 r = 0
  · rw [if_pos c1, if_pos c1]; rfl
  · rw [if_neg c1, if_neg c1]
    by_cases c2 : σ 4 r < σ 0 4
    · rw [if_neg (by omega), if_pos c2]; rfl
    · rw [if_pos (by omega), if_neg c2]
      by_cases c3 : σ 5 r < σ 0 5
      · rw [if_neg (by omega), if_pos c3]; rfl
      · rw [if_pos (by omega), if_neg c3]
        rcases y_br_b w hr with ⟨a, b, c⟩ | ⟨a, b⟩
        · have cl2 : (iz (σ 7 r)).toNatClampNeg = (σ 7 r).toNat := by rw [z_cl (by omega) (by omega)]
          rw [if_pos a, b, z_gd (z_ix (by omega) (by omega) (by omega)), cl2, (hk (σ 7 r).toNat (by omega)).2.2.1, z_if (z_by _)]
          unfold y_tw
          by_cases c4 : y_und σ (σ 7 r).toNat * 1 < y_top σ (σ 7 r).toNat * 1
          · rw [if_neg (by rw [decide_eq_true c4]; exact Bool.noConfusion), if_pos ⟨a, c4⟩]; rfl
          · rw [if_pos (decide_eq_false c4), if_neg (fun q => c4 q.2)]; rfl
        · rw [if_neg a, if_neg (fun q => a q.1)]; rfl
theorem K_cwes {σ : y_S} (w : y_W σ) {r : Nat} (hr : (r : Int) < σ 0 1) {μ : q_M} (h : y_RD σ μ) (hB : y_RB σ μ) (hk : y_RK σ μ) : f_X3_wantsEscort (iz (r : Int)) μ = some (if y_wes σ r then 1 else 0, μ) := by
  have w0 := w.1
  have w1 := w0.2.1
  have w2 := w0.2.2.1
  have w4 := w0.2.2.2.2.1
  have w5 := w0.2.2.2.2.2.1
  have g := w.2.1 r hr
  have r12 : r < 12 := by omega
  have cl : (iz (r : Int)).toNatClampNeg = r := by rw [z_cl (by omega) (by omega)]; omega
  have e1 : (iz (σ 4 r - σ 0 4) < 50) = (σ 4 r - σ 0 4 < 50) := z_lt32 (b := 50) (by omega) (by omega) (by omega) (by omega)
  have e2 : (iz (σ 5 r - σ 0 5) < 50) = (σ 5 r - σ 0 5 < 50) := z_lt32 (b := 50) (by omega) (by omega) (by omega) (by omega)
  unfold f_X3_wantsEscort
  rw [z_gd (z_ix (by omega) (by omega) (by omega)), cl, d_height h, d_heights h r12, d_width h, d_widths h r12, d_br hB r12, z_sub, z_sub, z_if e1, z_if e2, K_chb w hr h, z_bd, z_if z_b0, ite_not, d_br hB r12]
  by_cases c1 : σ 4 r - σ 0 4 < 50
  · rw [if_pos c1, if_pos (Or.inl c1)]
  · rw [if_neg c1]
    by_cases c2 : σ 5 r - σ 0 5 < 50
    · rw [if_pos c2, if_pos (Or.inr (Or.inl c2))]
    · rw [if_neg c2]
      rcases y_br_b w hr with ⟨a, b, c⟩ | ⟨a, b⟩
      · have cl2 : (iz (σ 7 r)).toNatClampNeg = (σ 7 r).toNat := by rw [z_cl (by omega) (by omega)]
        rw [if_pos a, b, z_gd (z_ix (by omega) (by omega) (by omega)), cl2, (hk (σ 7 r).toNat (by omega)).2.2.2, z_if (z_by _)]
        unfold y_ww
        by_cases c4 : y_und σ (σ 7 r).toNat * 3 < y_top σ (σ 7 r).toNat * 4
        · rw [if_neg (by rw [decide_eq_true c4]; exact Bool.noConfusion), if_pos (show y_wes σ r from Or.inr (Or.inr ⟨a, c4⟩))]
        · rw [if_pos (decide_eq_false c4), if_neg (show ¬ y_wes σ r from fun q => by
            rcases q with q | q | q
            · exact c1 q
            · exact c2 q
            · exact c4 q.2)]
      · rw [if_neg a, if_neg (show ¬ y_wes σ r from fun q => by
          rcases q with q | q | q
          · exact c1 q
          · exact c2 q
          · exact a q.1)]
theorem K_cend {σ : y_S} (w : y_W σ) {r : Nat} (hr : (r : Int) < σ 0 1) {μ : q_M} (h : y_RD σ μ) (hB : y_RB σ μ) (t : Int) : f_X3_endOfRoad (iz (r : Int)) (iz t) μ = some (iz (t + y_tk σ r), μ) := by
  have w1 := w.1.2.1
  have w2 := w.1.2.2.1
  have g := w.2.1 r hr
  have r12 : r < 12 := by omega
  have cl : (iz (r : Int)).toNatClampNeg = r := by rw [z_cl (by omega) (by omega)]; omega
  have e2 : (2 : Int32) * iz (σ 3 r) = iz (2 * σ 3 r) := z_mul 2 _
  unfold f_X3_endOfRoad J_X3_endOfRoad_37 J_X3_endOfRoad_38 y_tk
  rw [z_gd (z_ix (by omega) (by omega) (by omega)), cl, d_br hB r12, K_chb w hr h, z_bd, z_if z_b0, ite_not, d_br hB r12, if_pos (show (0 : Int32) = 0 from rfl), if_neg (show ¬ (1 : Int32) = 0 by decide), d_minutes h r12, z_add, e2, z_add]
  rcases y_br_b w hr with ⟨a, b, c⟩ | ⟨a, b⟩
  · have cl2 : (iz (σ 7 r)).toNatClampNeg = (σ 7 r).toNat := by rw [z_cl (by omega) (by omega)]
    have s := w.2.2.2.2.1 (σ 7 r).toNat
    rw [if_pos a, b, z_gd (z_ix (by omega) (by omega) (by omega)), cl2, d_isSlow h (by omega), z_if (z_eq0 (by omega) (by omega))]
    by_cases c4 : σ 12 (σ 7 r).toNat = 0
    · rw [if_pos c4, if_neg (fun q => q.2 c4)]
    · rw [if_neg c4, if_pos ⟨a, c4⟩, Int.mul_comm]
  · rw [if_neg a, if_neg (fun q => a q.1)]
theorem K_cst {σ : y_S} (w : y_W σ) {r : Nat} (hr : (r : Int) < σ 0 1) {μ : q_M} (h : y_RD σ μ) {t : Int} (ht : 0 ≤ t ∧ t < 2147000000) (ho : y_op σ r) : f_X6_earliestStart (14 + r) (iz t) μ = some (iz (y_st σ r t), μ) := by
  have w1 := w.1.2.1
  have g := w.2.1 r hr
  rw [K_earliestStart h r (by omega) g.2.2.2.2.2.2.2.2.1 g.2.2.2.2.2.2.2.2.2 t ht]
  obtain ⟨v, e, -⟩ := y_op_all ho t
  unfold y_st
  rw [e]
  rfl
theorem K_cdv {σ : y_S} (w : y_W σ) {μ : q_M} (h : y_RD σ μ) (hB : y_RB σ μ) {x1 many : Nat} (hm : many ≤ 6) (hq : μ.1 x1 2 = iz (many : Int)) (x2 : Int32) (Kx : Int32 → q_M → Option (Int32 × q_M)) : ∀ (l : List Nat) (n i : Nat) (t : Int), y_Ls σ l → l.length + i = many → l.length < n → 0 ≤ t → t + 2640 * l.length ≤ 2000000 → (∀ k, k < l.length → μ.1 (x1 + 8) (i + k) = iz ((l.getD k 0 : Nat) : Int)) → L_X3_endOfDrive_5 x1 x2 Kx n (iz t) (iz (i : Int)) μ = Kx (iz (y_en σ l t)) μ := by
  have w1 := w.1.2.1
  intro l
  induction l with
  | nil =>
    intro n i t hl hi hn h0 h1 hc
    obtain ⟨n, rfl⟩ : ∃ z, n = z + 1 := ⟨n - 1, by simp at hn; omega⟩
    simp at hi
    rw [L_X3_endOfDrive_5, hq, z_if (z_le32 (by omega) (by omega) (by omega) (by omega)), if_pos (by omega)]
    rfl
  | cons r l ih =>
    intro n i t hl hi hn h0 h1 hc
    obtain ⟨n, rfl⟩ : ∃ z, n = z + 1 := ⟨n - 1, by simp at hn; omega⟩
    simp only [List.length_cons] at hi hn h1
    have hr := hl r (List.mem_cons_self)
    have c0 := hc 0 (by simp)
    simp only [Nat.add_zero, List.getD_cons_zero] at c0
    have cl : (iz (i : Int)).toNatClampNeg = i := by rw [z_cl (by omega) (by omega)]; omega
    have cr : (iz (r : Int)).toNatClampNeg = r := by rw [z_cl (by omega) (by omega)]; omega
    have sb := y_st_b hr.2 t
    have tb := y_tk_b w hr.1
    rw [L_X3_endOfDrive_5, hq, z_if (z_le32 (by omega) (by omega) (by omega) (by omega)), if_neg (by omega), z_gd (z_ix (by omega) (by omega) (by omega)), cl, c0, z_gd (z_ix (by omega) (by omega) (by omega)), cr, K_cst w hr.1 h (by omega) hr.2, z_bd, K_cend w hr.1 h hB, z_bd, z_le, z_a1]
    exact ih n (i + 1) (y_st σ r t + y_tk σ r) (fun s q => hl s (List.mem_cons_of_mem _ q)) (by omega) (by omega) (by omega) (by omega) (fun k hk => by
      have := hc (k + 1) (by simp; omega)
      rw [List.getD_cons_succ] at this
      exact z_at this (by omega))
theorem K_cdrive {σ : y_S} (w : y_W σ) {μ : q_M} (h : y_RD σ μ) (hB : y_RB σ μ) {x1 : Nat} {l : List Nat} (hm : l.length ≤ 6) (hq : μ.1 x1 2 = iz (l.length : Int)) (hc : y_la μ (x1 + 8) l) (hl : y_Ls σ l) {t : Int} (h0 : 0 ≤ t) (h1 : t ≤ 1000000) : f_X3_endOfDrive x1 (iz t) μ = some (iz (y_en σ l t), μ) := by
  unfold f_X3_endOfDrive
  exact K_cdv w h hB hm hq (iz t) (fun v3 μ => some (v3, μ)) l q_fu 0 t hl (by omega) (by rw [z_fu]; omega) h0 (by omega) (fun k hk => by rw [Nat.zero_add]; exact hc k hk)
theorem K_cbl {σ : y_S} (w : y_W σ) {μ : q_M} (hB : y_RB σ μ) {x1 many : Nat} (hm : many ≤ 6) (hq : μ.1 x1 2 = iz (many : Int)) (Kx : Int32 → q_M → Option (Int32 × q_M)) : ∀ (l : List Nat) (n i : Nat) (t : Int), (∀ r, r ∈ l → (r : Int) < σ 0 1) → l.length + i = many → l.length < n → (∀ k, k < l.length → μ.1 (x1 + 8) (i + k) = iz ((l.getD k 0 : Nat) : Int)) → L_X3_bridgesOn_4 x1 Kx n (iz t) (iz (i : Int)) μ = Kx (iz (t + y_nb σ l)) μ := by
  have w1 := w.1.2.1
  have w2 := w.1.2.2.1
  intro l
  induction l with
  | nil =>
    intro n i t hl hi hn hc
    obtain ⟨n, rfl⟩ : ∃ z, n = z + 1 := ⟨n - 1, by simp at hn; omega⟩
    simp at hi
    rw [L_X3_bridgesOn_4, hq, z_if (z_le32 (by omega) (by omega) (by omega) (by omega)), if_pos (by omega)]
    unfold y_nb
    rw [Int.add_zero]
  | cons r l ih =>
    intro n i t hl hi hn hc
    obtain ⟨n, rfl⟩ : ∃ z, n = z + 1 := ⟨n - 1, by simp at hn; omega⟩
    simp only [List.length_cons] at hi hn
    have hr := hl r (List.mem_cons_self)
    have c0 := hc 0 (by simp)
    simp only [Nat.add_zero, List.getD_cons_zero] at c0
    have cl : (iz (i : Int)).toNatClampNeg = i := by rw [z_cl (by omega) (by omega)]; omega
    have cr : (iz (r : Int)).toNatClampNeg = r := by rw [z_cl (by omega) (by omega)]; omega
    have IH := fun t => ih n (i + 1) t (fun s q => hl s (List.mem_cons_of_mem _ q)) (by omega) (by omega) (fun k hk => by
      have := hc (k + 1) (by simp; omega)
      rw [List.getD_cons_succ] at this
      exact z_at this (by omega))
    have yb : y_br σ r = -1 ∨ (0 ≤ y_br σ r ∧ y_br σ r < 6) := by rcases y_br_b w hr with ⟨a, b, c⟩ | ⟨a, b⟩ <;> omega
    rw [L_X3_bridgesOn_4, hq, z_if (z_le32 (by omega) (by omega) (by omega) (by omega)), if_neg (by omega), z_gd (z_ix (by omega) (by omega) (by omega)), cl, c0, z_gd (z_ix (by omega) (by omega) (by omega)), cr, d_br hB (by omega), z_if (z_eqm (by omega) (by omega)), z_le, z_le, z_le, z_a1, z_a1]
    unfold y_nb
    rcases y_br_b w hr with ⟨a, b, c⟩ | ⟨a, b⟩
    · rw [if_neg (by omega), if_pos a, ← Int.add_assoc]
      exact IH (t + 1)
    · rw [if_pos b, if_neg a, Int.zero_add]
      exact IH t
theorem K_cbr {σ : y_S} (w : y_W σ) {μ : q_M} (hB : y_RB σ μ) {x1 : Nat} {l : List Nat} (hm : l.length ≤ 6) (hq : μ.1 x1 2 = iz (l.length : Int)) (hc : y_la μ (x1 + 8) l) (hl : ∀ r, r ∈ l → (r : Int) < σ 0 1) : f_X3_bridgesOn x1 μ = some (iz (y_nb σ l), μ) := by
  unfold f_X3_bridgesOn
  have := K_cbl w hB hm hq (fun v2 μ => some (v2, μ)) l q_fu 0 0 hl (by omega) (by rw [z_fu]; omega) (fun k hk => by rw [Nat.zero_add]; exact hc k hk)
  rw [Int.zero_add] at this
  exact this
theorem K_cul {σ : y_S} (w : y_W σ) {μ : q_M} (h : y_RD σ μ) (hB : y_RB σ μ) (hk : y_RK σ μ) : ∀ (d n i : Nat) (u : Int32), i + d = (σ 0 1).toNat → d < n → (∀ b, b < 32 → bt u b = (decide (b < i) && y_ok σ b)) → ∃ u', L_X3_usableRoads_4 (fun v1 μ => some (v1, μ)) n u (iz (i : Int)) μ = some (u', μ) ∧ ∀ b, b < 32 → bt u' b = (decide (b < (σ 0 1).toNat) && y_ok σ b) := by
  have w1 := w.1.2.1
  intro d
  induction d with
  | zero =>
    intro n i u hi hn hu
    obtain ⟨n, rfl⟩ : ∃ z, n = z + 1 := ⟨n - 1, by omega⟩
    rw [L_X3_usableRoads_4, d_roads h, z_if (z_le32 (by omega) (by omega) (by omega) (by omega)), if_pos (by omega)]
    refine ⟨u, rfl, ?_⟩
    rw [show (σ 0 1).toNat = i by omega]
    exact hu
  | succ d ih =>
    intro n i u hi hn hu
    obtain ⟨n, rfl⟩ : ∃ z, n = z + 1 := ⟨n - 1, by omega⟩
    have hr : (i : Int) < σ 0 1 := by omega
    have g := w.2.1 i hr
    have yw := y_why_b σ i
    have cl : (iz (i : Int)).toNatClampNeg = i := by rw [z_cl (by omega) (by omega)]; omega
    have no : y_ok σ i = false → ∀ b, b < 32 → bt u b = (decide (b < i + 1) && y_ok σ b) := by
      intro q b hb
      rw [hu b hb]
      by_cases e : b = i
      · rw [e, q]; simp
      · rw [show decide (b < i) = decide (b < i + 1) from decide_eq_decide.mpr (by omega)]
    rw [L_X3_usableRoads_4, d_roads h, z_if (z_le32 (by omega) (by omega) (by omega) (by omega)), if_neg (by omega), K_cwhy w hr h hB hk, z_bd, z_if (z_eq0 (by omega) (by omega)), z_le, z_a1]
    by_cases c : y_why σ i = 0
    · rw [if_pos c, z_gd (z_ix (by omega) (by omega) (by omega)), cl, show f_X6_earliestStart (14 + i) 0 μ = _ from K_earliestStart h i (by omega) g.2.2.2.2.2.2.2.2.1 g.2.2.2.2.2.2.2.2.2 0 (by omega), z_bd, z_le, z_le, z_le]
      cases e : y_ea σ i 0 1440 0 with
      | none =>
        rw [if_pos (show iz (y_er none (-1)) = -1 from rfl)]
        exact ih n (i + 1) u (by omega) (by omega) (no (by simp [y_ok, e]))
      | some v =>
        obtain ⟨k, rfl, k1, k2, -⟩ := y_ea_ex _ _ _ e
        rw [if_neg (show ¬ iz (y_er (some (0 + k)) (-1)) = -1 from fun q => by
          rw [z_eqm (by show -2147483648 ≤ 0 + k; omega) (by show 0 + k < 2147483648; omega)] at q
          have : (0 : Int) + k = -1 := q
          omega)]
        refine ih n (i + 1) _ (by omega) (by omega) (fun b hb => ?_)
        rw [b_or, z_one (by omega) hb, hu b hb]
        by_cases q : b = i
        · rw [q]
          simp [y_ok, c, e]
        · rw [decide_eq_false q, Bool.or_false, show decide (b < i) = decide (b < i + 1) from decide_eq_decide.mpr (by omega)]
    · rw [if_neg c]
      exact ih n (i + 1) u (by omega) (by omega) (no (by simp [y_ok, c]))
theorem K_cuse {σ : y_S} (w : y_W σ) {μ : q_M} (h : y_RD σ μ) (hB : y_RB σ μ) (hk : y_RK σ μ) : ∃ u', f_X3_usableRoads μ = some (u', μ) ∧ ∀ b, b < 32 → bt u' b = (decide (b < (σ 0 1).toNat) && y_ok σ b) := by
  have w1 := w.1.2.1
  unfold f_X3_usableRoads
  exact K_cul w h hB hk (σ 0 1).toNat q_fu 0 0 (by omega) (by rw [z_fu]; omega) (fun b hb => by rw [b_0]; simp)
