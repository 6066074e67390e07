theorem s_run_ne {σ : y_S} {a b m : Int} {c j : Nat} (h : c ≠ 0 ∨ j < 6 ∨ 10 < j) : s_run σ a b m c j = σ c j := by
  unfold s_run
  rw [y_up_ne (by omega), y_up_ne (by omega), y_up_ne (by omega), y_up_ne (by omega), y_up_ne (by omega)]
theorem s_run_6 {σ : y_S} {a b m : Int} : s_run σ a b m 0 6 = 0 := by
  unfold s_run
  rw [y_up_eq]
theorem s_run_10 {σ : y_S} {a b m : Int} : s_run σ a b m 0 10 = m := by
  unfold s_run
  rw [y_up_ne (by omega), y_up_eq]
theorem s_run_9 {σ : y_S} {a b m : Int} : s_run σ a b m 0 9 = b := by
  unfold s_run
  rw [y_up_ne (by omega), y_up_ne (by omega), y_up_eq]
theorem s_run_8 {σ : y_S} {a b m : Int} : s_run σ a b m 0 8 = a := by
  unfold s_run
  rw [y_up_ne (by omega), y_up_ne (by omega), y_up_ne (by omega), y_up_eq]
theorem s_run_7 {σ : y_S} {a b m : Int} : s_run σ a b m 0 7 = 1 := by
  unfold s_run
  rw [y_up_ne (by omega), y_up_ne (by omega), y_up_ne (by omega), y_up_ne (by omega), y_up_eq]
theorem s_run_alt {σ : y_S} {a b m : Int} : s_run σ a b m = y_up (y_up (y_up (y_up (y_fg σ) 0 7 1) 0 8 a) 0 9 b) 0 10 m := by
  unfold s_run y_fg
  funext c j
  simp only [y_up]
  by_cases c0 : c = 0
  · subst c0
    by_cases j6 : j = 6
    · subst j6; simp
    · simp [j6]
  · simp [c0]
theorem s_run_top {σ : y_S} {a b m : Int} (d : Nat) : y_same σ (s_run σ a b m) d := ⟨s_run_ne (by omega), s_run_ne (by omega), fun k _ => ⟨s_run_ne (by omega), s_run_ne (by omega), s_run_ne (by omega)⟩, fun i _ => ⟨s_run_ne (by omega), s_run_ne (by omega)⟩⟩
theorem K_begin {σ : y_S} (w : y_W σ) {μ : q_M} (h : y_RC σ μ) (x1 x2 x3 : Int32) : ∃ μ', f_X1_begin x1 x2 x3 μ = some ((), μ') ∧ y_RC (s_run σ x1.toInt x2.toInt x3.toInt) μ' ∧ y_Fc μ μ' := by
  unfold f_X1_begin
  rw [k_cforget, z_bd, z_le, z_le, z_le, z_le]
  have R : y_RD (s_run σ x1.toInt x2.toInt x3.toInt) (q_si (q_si (q_si (q_si (q_si μ 2 5 0) 2 6 1) 2 7 x1) 2 8 x2) 2 9 x3) := by
    rw [s_run_alt]
    exact ((((y_fgD h.1).set (c := 0) (j := 7) (by decide) rfl rfl (by decide)).set (c := 0) (j := 8) (by decide) rfl (z_iz x1).symm (by decide)).set (c := 0) (j := 9) (by decide) rfl (z_iz x2).symm (by decide)).set (c := 0) (j := 10) (by decide) rfl (z_iz x3).symm (by decide)
  have a : ∀ a, a ≠ 2 → (q_si (q_si (q_si (q_si (q_si μ 2 5 0) 2 6 1) 2 7 x1) 2 8 x2) 2 9 x3).1 a = μ.1 a := fun a ha => by
    rw [q_si_row ha, q_si_row ha, q_si_row ha, q_si_row ha, q_si_row ha]
  have m : (q_si (q_si (q_si (q_si (q_si μ 2 5 0) 2 6 1) 2 7 x1) 2 8 x2) 2 9 x3).2 = μ.2 := rfl
  generalize q_si (q_si (q_si (q_si (q_si μ 2 5 0) 2 6 1) 2 7 x1) 2 8 x2) 2 9 x3 = μ1 at *
  refine ⟨μ1, rfl, ⟨R, h.2.1.eq2 (s_run_ne (by omega)) (fun j => s_run_ne (by omega)) (fun j => s_run_ne (by omega)) (fun b h1 h2 => a b (by omega)), fun b hb => (h.2.2.1 b hb).sm ((s_run_top b).top (w.2.2.1 b hb).1.1 w.1.2.2.2.1.1) (fun j _ => by rw [a _ (by omega)]) (fun b _ => by rw [m]), fun f hf => ?_, ?_⟩, fun b hb => ⟨a b (by omega), by rw [m]⟩⟩
  · rw [s_run_6] at hf; omega
  · rw [a _ (by omega)]; exact h.2.2.2.2
theorem n_rec_ne {σ : y_S} {v : Int} {c j : Nat} (h : c ≠ 21 ∧ (c ≠ 0 ∨ j ≠ 11)) : n_rec σ v c j = σ c j := by
  unfold n_rec
  split
  · rfl
  · rw [y_up_ne (by omega), y_up_ne (by omega)]
theorem n_rec_Q {σ : y_S} {v : Int} : y_Q σ (n_rec σ v) := ⟨fun c j h1 h2 => n_rec_ne (by omega), fun j h1 h2 h3 => n_rec_ne (by omega)⟩
theorem n_rec_fw {σ : y_S} {v : Int} (f : Nat) : y_fw (n_rec σ v) f = y_fw σ f := by
  unfold y_fw
  rw [n_rec_ne (by omega)]
  apply List.map_congr_left
  intro k _
  rw [n_rec_ne (by omega)]
theorem K_crec {σ : y_S} (w : y_W σ) {μ : q_M} (h : y_RC σ μ) {v : Int} : ∃ μ', (if 50 ≤ μ.1 0 3 then some (iz v, μ) else q_le (q_si μ 0 3 (μ.1 0 3 + 1)) (fun μ22 => q_gd (q_ix (μ.1 0 3) 50) (q_le (q_si μ22 5 (μ.1 0 3).toNatClampNeg (iz v)) (fun μ24 => some (iz v, μ24))))) = some (iz v, μ') ∧ y_RC (n_rec σ v) μ' ∧ y_Fc μ μ' := by
  have w11 := w.1.2.2.2.2.2.2.2.2.2.2.2
  have w6 := w.1.2.2.2.2.2.2.1
  rw [d_records h.1, z_if (show (50 ≤ iz (σ 0 11)) = (50 ≤ σ 0 11) from z_le32 (a := 50) (by omega) (by omega) (by omega) (by omega))]
  by_cases c : 50 ≤ σ 0 11
  · rw [if_pos c]
    refine ⟨μ, rfl, ?_, y_Fc.rf⟩
    unfold n_rec
    rw [if_pos c]
    exact h
  · have cl : (iz (σ 0 11)).toNatClampNeg = (σ 0 11).toNat := by rw [z_cl (by omega) (by omega)]
    rw [if_neg c, z_le, z_gd (z_ix (by omega) (by omega) (by omega)), z_le, z_a1, cl]
    have R : y_RD (n_rec σ v) (q_si (q_si μ 0 3 (iz (σ 0 11 + 1))) 5 (σ 0 11).toNat (iz v)) := by
      have R0 := (h.1.set (c := 0) (j := 11) (v := σ 0 11 + 1) (by decide) rfl rfl (by decide)).set (c := 21) (j := (σ 0 11).toNat) (v := v) (decide_eq_true (by omega)) rfl rfl rfl
      have e : n_rec σ v = y_up (y_up σ 0 11 (σ 0 11 + 1)) 21 (σ 0 11).toNat v := by
        unfold n_rec
        rw [if_neg c]
        funext c j
        simp only [y_up]
        by_cases c0 : c = 0
        · subst c0; simp
        · simp [c0]
      rw [e]
      exact R0
    have a : ∀ a, a ≠ 0 → a ≠ 5 → (q_si (q_si μ 0 3 (iz (σ 0 11 + 1))) 5 (σ 0 11).toNat (iz v)).1 a = μ.1 a := fun a h1 h2 => by rw [q_si_row h2, q_si_row h1]
    have m : (q_si (q_si μ 0 3 (iz (σ 0 11 + 1))) 5 (σ 0 11).toNat (iz v)).2 = μ.2 := rfl
    generalize q_si (q_si μ 0 3 (iz (σ 0 11 + 1))) 5 (σ 0 11).toNat (iz v) = μ1 at *
    refine ⟨μ1, rfl, ⟨R, h.2.1.eq2 (n_rec_ne (by omega)) (fun j => n_rec_ne (by omega)) (fun j => n_rec_ne (by omega)) (fun b h1 h2 => a b (by omega) (by omega)), n_rec_Q.RK w h.2.2.1 (fun b h1 h2 => a b (by omega) (by omega)) (fun b _ _ => by rw [m]), fun f hf => ?_, ?_⟩, fun b hb => ⟨a b (by omega) (by omega), by rw [m]⟩⟩
    · rw [n_rec_ne (by omega)] at hf
      rw [n_rec_fw]
      exact n_rec_Q.Wf ((h.2.2.2.1 f hf).eq (a _ (by omega) (by omega)) (a _ (by omega) (by omega)) (a _ (by omega) (by omega)))
    · rw [a _ (by omega) (by omega)]; exact h.2.2.2.2
theorem n_kb_W {σ : y_S} (w : y_W σ) (hf : σ 0 6 < 5) (B : List Nat) : y_W (n_kb σ B) := by
  unfold n_kb
  split
  · exact w
  · have w6 := w.1.2.2.2.2.2.2.1
    exact w.eq (fun c j h1 h2 => n_keep_ne (by omega) (by omega) (by omega)) (fun j hj => n_keep_ne (by omega) (by omega) (by omega)) (w.1.eq (fun j h1 h2 => n_keep_ne (by omega) (by omega) (by omega)) (by rw [n_keep_6]; omega))
theorem C_run {σ : y_S} (w : y_W σ) {μ : q_M} (h : y_RC σ μ) (x1 x2 x3 : Int32) : (p_run σ x1.toInt x2.toInt x3.toInt → ∃ μ', f_X9_run x1 x2 x3 μ = some (iz (a_run (s_run σ x1.toInt x2.toInt x3.toInt) (y_bs (s_run σ x1.toInt x2.toInt x3.toInt) 1000000000)), μ') ∧ y_RC (n_run (s_run σ x1.toInt x2.toInt x3.toInt)) μ' ∧ y_Fc μ μ') ∧ (¬ p_run σ x1.toInt x2.toInt x3.toInt → f_X9_run x1 x2 x3 μ = some (-2, μ)) := by
  have w0 := w.1.1
  unfold f_X9_run
  rw [k_hasNode h.1 w0.1 w0.2, z_bd, z_if z_b0, ite_not, k_hasNode h.1 w0.1 w0.2, z_bd, z_if z_b0, ite_not, z_if (z_e32 x1 x2), k_within, z_bd, z_if z_b0, ite_not, Int32.toInt_toInt64, L0, L10k]
  constructor
  · intro hp
    obtain ⟨W, WF⟩ := s_run_W w hp
    obtain ⟨p1, p2, p3, p4⟩ := hp
    rw [if_pos (by omega), if_pos (by omega), if_neg p3, if_pos p4]
    obtain ⟨μ1, f1, R1, F1⟩ := K_begin w h x1 x2 x3
    rw [f1, z_bd]
    have e6 : s_run σ x1.toInt x2.toInt x3.toInt 0 6 = 0 := s_run_6
    have e7 : s_run σ x1.toInt x2.toInt x3.toInt 0 7 = 1 := s_run_7
    have ne : s_run σ x1.toInt x2.toInt x3.toInt 0 8 ≠ s_run σ x1.toInt x2.toInt x3.toInt 0 9 := by rw [s_run_8, s_run_9]; exact p3
    generalize s_run σ x1.toInt x2.toInt x3.toInt = s at *
    obtain ⟨μ2, f2, R2, -, b2, F2⟩ := K_look W (fun f hf => by omega) (fun _ => ne) (L := 1000000000) ⟨fun _ => by omega, by omega, by omega⟩ R1 (fun q => by omega)
    obtain ⟨c14, cB⟩ := b2 (by omega)
    rw [f2, z_bd]
    obtain ⟨μ3, f3, R3, F3⟩ := K_keepB W WF (by omega) R2 c14 cB
    rw [f3, z_bd]
    unfold n_run
    generalize a_run s (y_bs s 1000000000) = v
    obtain ⟨μ4, f4, R4, F4⟩ := K_crec (v := v) (n_kb_W W (by omega) _) R3
    exact ⟨μ4, f4, R4, ((F1.tr F2).tr F3).tr F4⟩
  · intro hp
    by_cases p1 : 0 ≤ x1.toInt ∧ x1.toInt < σ 0 0
    · rw [if_pos p1]
      by_cases p2 : 0 ≤ x2.toInt ∧ x2.toInt < σ 0 0
      · rw [if_pos p2]
        by_cases p3 : x1.toInt = x2.toInt
        · rw [if_pos p3]
        · rw [if_neg p3]
          by_cases p4 : 0 ≤ x3.toInt ∧ x3.toInt ≤ 10000
          · exact absurd ⟨by omega, by omega, p3, p4⟩ hp
          · rw [if_neg p4]
      · rw [if_neg p2]
    · rw [if_neg p1]
theorem C_alternate {σ : y_S} (w : y_W σ) (wf : y_WF σ) (wp : y_WP σ) (wn : 0 < σ 0 6 → σ 0 7 = 1 ∧ σ 0 8 ≠ σ 0 9) {μ : q_M} (h : y_RC σ μ) (x1 x3 : Int64) : (p_alt σ x1.toInt x3.toInt → ∃ μ', f_X9_alternate x1 x3 μ = some (iz (a_run σ (y_bs σ (y_lm σ x1.toInt x3.toInt))), μ') ∧ y_RC (n_kb σ (y_bs σ (y_lm σ x1.toInt x3.toInt))) μ' ∧ y_Fc μ μ') ∧ (¬ p_alt σ x1.toInt x3.toInt → f_X9_alternate x1 x3 μ = some (-2, μ)) := by
  have w6 := w.1.2.2.2.2.2.2.1
  unfold f_X9_alternate
  rw [k_within, z_bd, z_if z_b0, ite_not, k_within, z_bd, z_if z_b0, ite_not, d_found h.1, z_if (z_eq0 (by omega) (by omega)), z_if (show (iz (σ 0 6) < 5) = (σ 0 6 < 5) from z_lt32 (b := 5) (by omega) (by omega) (by omega) (by omega)), L0, L1, L100]
  constructor
  · intro hp
    have lb := y_lm_b w wf hp
    obtain ⟨p1, p2, p3, p4⟩ := hp
    have g := (wf 0 (by omega)).1
    obtain ⟨n7, ne⟩ := wn (by omega)
    have W0 := h.2.2.2.1 0 (by omega)
    have d2 : μ.1 113 2 = iz (σ 20 0) := by
      rw [show μ.1 113 2 = iz ((y_fw σ 0).length : Int) from W0.1, y_fw_len, Int.toNat_of_nonneg (by omega)]
    rw [if_pos p2, if_pos p1, if_neg p3, if_pos (by omega)]
    have fl : f_X1_limitSharing x1 x3 μ = some ((), q_si μ 2 10 (iz (y_lm σ x1.toInt x3.toInt))) := by
      unfold f_X1_limitSharing
      have n0 : ¬ x3 = 0 := by rw [z_e64]; show ¬ x3.toInt = 0; omega
      have eL : (lz (σ 20 0) * x1 / x3).toInt32 = iz (y_lm σ x1.toInt x3.toInt) := by
        rw [show lz (σ 20 0) * x1 / x3 = lz (σ 20 0) * lz x1.toInt / lz x3.toInt by rw [z_lz, z_lz], z_mulL, z_divL (by omega) (by omega) (by omega) (by omega), z_32]
        rfl
      rw [z_if (z_c3 x3 1), if_pos (by rw [Int64.le_iff_toInt_le]; show 1 ≤ x3.toInt; omega), z_gd (by decide), z_gd (decide_eq_true n0), show (0 : Int32).toNatClampNeg = 0 from rfl, show (113 + 0 : Nat) = 113 from rfl, d2, z_64 (by omega) (by omega), eL, z_le]
    rw [fl, z_bd]
    have F0 : y_Fy μ (q_si μ 2 10 (iz (y_lm σ x1.toInt x3.toInt))) := y_Fy.si (by omega)
    have R0 := F0.RC w h
    obtain ⟨μ2, f2, R2, -, b2, F2⟩ := K_look w wp (fun _ => ne) (L := y_lm σ x1.toInt x3.toInt) ⟨fun _ => by omega, by omega, by omega⟩ R0 (fun q => by rw [z_si1, if_pos ⟨rfl, rfl⟩])
    obtain ⟨c14, cB⟩ := b2 (by omega)
    rw [f2, z_bd]
    obtain ⟨μ3, f3, R3, F3⟩ := K_keepB w wf (by omega) R2 c14 cB
    rw [f3, z_bd]
    exact ⟨μ3, rfl, R3, (F0.Fc.tr F2).tr F3⟩
  · intro hp
    by_cases p2 : 1 ≤ x3.toInt ∧ x3.toInt ≤ 100
    · rw [if_pos p2]
      by_cases p1 : 0 ≤ x1.toInt ∧ x1.toInt ≤ x3.toInt
      · rw [if_pos p1]
        by_cases p3 : σ 0 6 = 0
        · rw [if_pos p3]
        · rw [if_neg p3]
          by_cases p4 : σ 0 6 = 5
          · rw [if_neg (by omega)]
          · exact absurd ⟨p1, p2, p3, p4⟩ hp
      · rw [if_neg p1]
    · rw [if_neg p2]
