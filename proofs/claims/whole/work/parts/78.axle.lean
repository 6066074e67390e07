theorem n_axle_ne {σ : y_S} {u v : Int} {c j : Nat} (h1 : c ≠ 17 ∧ c ≠ 18) (h2 : c ≠ 0 ∨ (j ≠ 6 ∧ j ≠ 3)) : n_axle σ u v c j = σ c j := by
  unfold n_axle y_fg
  rw [y_up_ne (by omega), y_up_ne (by omega), y_up_ne (by omega), y_up_ne (by omega)]
theorem n_axle_6 {σ : y_S} {u v : Int} : n_axle σ u v 0 6 = 0 := by
  unfold n_axle y_fg
  exact y_up_eq
theorem n_axle_3 {σ : y_S} {u v : Int} : n_axle σ u v 0 3 = σ 0 3 + 1 := by
  unfold n_axle y_fg
  rw [y_up_ne (by omega), y_up_eq]
theorem n_axle_17 {σ : y_S} {u v : Int} {j : Nat} : n_axle σ u v 17 j = if j = (σ 0 3).toNat then (if σ 0 3 = 0 then u + 0 else u + σ 17 ((σ 0 3).toNat - 1)) else σ 17 j := by
  unfold n_axle y_fg
  rw [y_up_ne (by omega), y_up_ne (by omega), y_up_ne (by omega)]
  by_cases e : j = (σ 0 3).toNat
  · subst e; rw [y_up_eq, if_pos rfl]
  · rw [if_neg e, y_up_ne (by omega)]
theorem n_axle_18 {σ : y_S} {u v : Int} {j : Nat} : n_axle σ u v 18 j = if j = (σ 0 3).toNat then v else σ 18 j := by
  unfold n_axle y_fg
  rw [y_up_ne (by omega), y_up_ne (by omega)]
  by_cases e : j = (σ 0 3).toNat
  · subst e; rw [y_up_eq, if_pos rfl]
  · rw [if_neg e, y_up_ne (by omega), y_up_ne (by omega)]
theorem n_axle_W {σ : y_S} (w : y_W σ) (wo : y_WO σ) {u v : Int} (p : p_axle σ u v) : y_W (n_axle σ u v) ∧ y_WO (n_axle σ u v) := by
  obtain ⟨w0, wr, wb, wa, ws, wt⟩ := w
  obtain ⟨p1, p2, p3⟩ := p
  have w3 := w0.2.2.2.1
  have key : ∀ k : Nat, (k : Int) < σ 0 3 + 1 → (0 ≤ n_axle σ u v 17 k ∧ n_axle σ u v 17 k ≤ 30 * (k : Int)) ∧ (0 ≤ n_axle σ u v 18 k ∧ n_axle σ u v 18 k ≤ 1000) := by
    intro k hk
    rw [n_axle_17, n_axle_18]
    by_cases e : k = (σ 0 3).toNat
    · rw [if_pos e, if_pos e]
      by_cases e0 : σ 0 3 = 0
      · rw [if_pos e0]; omega
      · rw [if_neg e0]
        have a := wa ((σ 0 3).toNat - 1) (by omega)
        have b := wo ((σ 0 3).toNat - 1) (by omega)
        omega
    · rw [if_neg e, if_neg e]
      have a := wa k (by omega)
      have b := wo k (by omega)
      omega
  refine ⟨⟨?_, wr.eq (fun c j h1 h2 => n_axle_ne (by omega) (by omega)) (fun j hj => n_axle_ne (by omega) (by omega)), wb.eq (fun c j h1 h2 => n_axle_ne (by omega) (by omega)), fun k hk => ?_, fun b => by rw [n_axle_ne (by omega) (by omega)]; exact ws b, fun b => by rw [n_axle_ne (by omega) (by omega)]; exact wt b⟩, fun k hk => ?_⟩
  · unfold y_W0 at w0 ⊢
    rw [n_axle_6, n_axle_3, n_axle_ne (j := 0) (by omega) (by omega), n_axle_ne (j := 1) (by omega) (by omega), n_axle_ne (j := 2) (by omega) (by omega), n_axle_ne (j := 4) (by omega) (by omega), n_axle_ne (j := 5) (by omega) (by omega), n_axle_ne (j := 7) (by omega) (by omega), n_axle_ne (j := 8) (by omega) (by omega), n_axle_ne (j := 9) (by omega) (by omega), n_axle_ne (j := 10) (by omega) (by omega), n_axle_ne (j := 11) (by omega) (by omega)]
    omega
  · rw [n_axle_3] at hk
    have := key k hk
    omega
  · rw [n_axle_3] at hk
    exact (key k hk).1.2
theorem K_canAxle {σ : y_S} (w : y_W σ) {μ : q_M} (h : y_RD σ μ) (x : Int64) : f_X2_canTakeAxle x μ = some (if ¬ σ 0 3 = 5 ∧ ((σ 0 3 = 0 ∧ x.toInt = 0) ∨ (¬ σ 0 3 = 0 ∧ 1 ≤ x.toInt ∧ x.toInt ≤ 30)) then 1 else 0, μ) := by
  have w3 := w.1.2.2.2.1
  unfold f_X2_canTakeAxle
  rw [d_axles h, z_if (z_eq0 (by omega) (by omega)), z_if (show (5 ≤ iz (σ 0 3)) = (5 ≤ σ 0 3) from z_le32 (a := 5) (by omega) (by omega) (by omega) (by omega)), k_within, z_bd, z_if z_b0, ite_not, L1, show (30 : Int64).toInt = 30 from rfl, z_if (z_c2 x 0), z_if (z_e64 x 0), L0]
  by_cases c0 : σ 0 3 = 0
  · rw [if_pos c0]
    by_cases c1 : x.toInt = 0
    · rw [if_pos c1, if_pos (by omega)]
    · rw [if_neg c1, if_neg (by omega)]
  · rw [if_neg c0]
    by_cases c1 : 5 ≤ σ 0 3
    · rw [if_pos c1, if_neg (by omega)]
    · rw [if_neg c1]
      by_cases c2 : 1 ≤ x.toInt ∧ x.toInt ≤ 30
      · rw [if_pos c2, if_pos (by omega)]
      · rw [if_neg c2, if_neg (by omega)]
def u_axle (μ : q_M) (k : Nat) (x1 x3 : Int64) (y : Int32) : q_M := q_si (q_sl (q_sl (q_si μ 2 5 0) 9 k x1) 10 k x3) 3 2 y
theorem u_axle_R {σ : y_S} {k : Nat} (hk : k < 5) {v o : Int} {μ : q_M} (h : y_RD σ μ) (x3 : Int64) : y_RD (y_up (y_up (y_up (y_fg σ) 17 k o) 18 k x3.toInt) 0 3 v) (u_axle μ k (lz o) x3 (iz v)) :=
  (((y_fgD h).setL (c := 17) (decide_eq_true hk) rfl rfl rfl).setL (c := 18) (decide_eq_true hk) rfl (z_lz x3).symm rfl).set (c := 0) (j := 3) rfl rfl rfl rfl
theorem n_axle_alt {σ : y_S} {u v : Int} : n_axle σ u v = y_up (y_up (y_up (y_fg σ) 17 (σ 0 3).toNat (if σ 0 3 = 0 then u + 0 else u + σ 17 ((σ 0 3).toNat - 1))) 18 (σ 0 3).toNat v) 0 3 (σ 0 3 + 1) := by
  unfold n_axle y_fg
  funext c j
  simp only [y_up]
  by_cases c0 : c = 0
  · subst c0
    by_cases j6 : j = 6
    · subst j6; simp
    · simp [j6]
  · simp [c0]
theorem K_addAxle {σ : y_S} (w : y_W σ) {μ : q_M} (h : y_RD σ μ) (h5 : σ 0 3 < 5) (x1 x3 : Int64) (hx : 0 ≤ x1.toInt ∧ x1.toInt ≤ 30) (h0 : σ 0 3 = 0 → x1.toInt = 0) : f_X2_addAxle x1 x3 (q_si μ 2 5 0) = some ((), u_axle μ (σ 0 3).toNat (lz (if σ 0 3 = 0 then x1.toInt + 0 else x1.toInt + σ 17 ((σ 0 3).toNat - 1))) x3 (iz (σ 0 3 + 1))) := by
  have w3 := w.1.2.2.2.1
  have d1 : (q_si μ 2 5 0).1 3 2 = iz (σ 0 3) := by rw [z_si1, if_neg (by omega)]; exact d_axles h
  have cl : (iz (σ 0 3)).toNatClampNeg = (σ 0 3).toNat := by rw [z_cl (by omega) (by omega)]
  have J : ∀ o : Int64, J_X2_addAxle_41 x1 x3 o (iz (σ 0 3)) (q_si μ 2 5 0) = some ((), u_axle μ (σ 0 3).toNat o x3 (iz (σ 0 3 + 1))) := by
    intro o
    unfold J_X2_addAxle_41
    rw [z_gd (z_ix (by omega) (by omega) (by omega)), z_le]
    simp only [z_sl1, d1, cl]
    rw [z_gd (z_ix (by omega) (by omega) (by omega)), z_le, z_le]
    simp only [z_sl1, d1, z_a1]
    rfl
  unfold f_X2_addAxle
  rw [d1, z_if (show (iz (σ 0 3) < 5) = (σ 0 3 < 5) from z_lt32 (b := 5) (by omega) (by omega) (by omega) (by omega)), if_pos h5, z_if (z_eq0 (by omega) (by omega))]
  by_cases c0 : σ 0 3 = 0
  · rw [if_pos c0, if_pos c0, J 0, h0 c0]; rfl
  · have cl2 : (iz (σ 0 3 - 1)).toNatClampNeg = (σ 0 3).toNat - 1 := by rw [z_cl (by omega) (by omega)]; omega
    rw [if_neg c0, if_neg c0, z_s1, z_gd (z_ix (by omega) (by omega) (by omega)), J, cl2, z_si2, d_offsets h (by omega), ← z_lz x1, z_addL, z_lz x1, Int.add_comm]
theorem u_axle_1 {μ : q_M} {k : Nat} {x1 x3 : Int64} {y : Int32} {a : Nat} (h1 : a ≠ 2) (h2 : a ≠ 3) : (u_axle μ k x1 x3 y).1 a = μ.1 a := by
  unfold u_axle
  rw [q_si_row (by omega), z_sl1, z_sl1, q_si_row (by omega)]
theorem u_axle_2 {μ : q_M} {k : Nat} {x1 x3 : Int64} {y : Int32} {a : Nat} (h : 11 ≤ a) : (u_axle μ k x1 x3 y).2 a = μ.2 a := by
  unfold u_axle
  rw [z_si2, q_sl_row (by omega), q_sl_row (by omega), z_si2]
theorem C_axle {σ : y_S} (w : y_W σ) (wz : y_WZ σ) (wo : y_WO σ) {μ : q_M} (h : y_RD σ μ) (hB : y_RB σ μ) (hk : y_RK σ μ) (x1 x3 : Int64) : (p_axle σ x1.toInt x3.toInt → ∃ μ', f_X9_axle x1 x3 μ = some (1, μ') ∧ y_RD (n_axle σ x1.toInt x3.toInt) μ' ∧ y_RB (n_axle σ x1.toInt x3.toInt) μ' ∧ y_RK (n_axle σ x1.toInt x3.toInt) μ' ∧ y_Fc μ μ' ∧ μ'.1 118 = μ.1 118) ∧ (¬ p_axle σ x1.toInt x3.toInt → f_X9_axle x1 x3 μ = some (0, μ)) := by
  have w3 := w.1.2.2.2.1
  have w2 := w.1.2.2.1
  unfold f_X9_axle
  rw [K_canAxle w h, z_bd, z_if z_b0, ite_not, k_within, z_bd, z_if z_b0, ite_not, k_cforget, z_bd, L0, show (1000 : Int64).toInt = 1000 from rfl]
  constructor
  · intro p
    obtain ⟨q1, q2, q3⟩ := p
    obtain ⟨W, -⟩ := n_axle_W w wo ⟨q1, q2, q3⟩
    rw [if_pos ⟨q1, q3⟩, if_pos q2, K_addAxle w h (by omega) x1 x3 (by omega) (by omega), z_bd]
    have R0 := u_axle_R (k := (σ 0 3).toNat) (by omega) (v := σ 0 3 + 1) (o := if σ 0 3 = 0 then x1.toInt + 0 else x1.toInt + σ 17 ((σ 0 3).toNat - 1)) h x3
    rw [← n_axle_alt (σ := σ) (u := x1.toInt) (v := x3.toInt)] at R0
    generalize hu : u_axle μ (σ 0 3).toNat (lz (if σ 0 3 = 0 then x1.toInt + 0 else x1.toInt + σ 17 ((σ 0 3).toNat - 1))) x3 (iz (σ 0 3 + 1)) = ν at R0
    have U1 : ∀ a, a ≠ 2 → a ≠ 3 → ν.1 a = μ.1 a := fun a h1 h2 => by rw [← hu]; exact u_axle_1 h1 h2
    have U2 : ∀ a, 11 ≤ a → ν.2 a = μ.2 a := fun a h1 => by rw [← hu]; exact u_axle_2 h1
    have B0 : y_RB (n_axle σ x1.toInt x3.toInt) ν := by
      refine ⟨fun r hr => ?_, fun r hr k hk => ?_⟩
      · rw [U1 _ (by omega) (by omega), hB.1 r hr]
        unfold y_br
        rw [n_axle_ne (by omega) (by omega), n_axle_ne (by omega) (by omega)]
      · rw [U1 _ (by omega) (by omega), n_axle_ne (by omega) (by omega)]; exact hB.2 r hr k hk
    obtain ⟨μ1, f1, r1, F1⟩ := C_rateAll W R0 (fun b h1 h2 => by
      rw [n_axle_ne (by omega) (by omega)] at h1
      have z0 : σ 13 b = 0 := wz b h2 (by omega)
      have z1 : n_axle σ x1.toInt x3.toInt 13 b = 0 := by rw [n_axle_ne (by omega) (by omega)]; exact z0
      refine (hk b h2).sm ⟨?_, ?_⟩ (fun j hj => by rw [U1 _ (by omega) (by omega)]) (fun a ha => U2 a (by omega))
      · rw [(y_top0 z0).1, (y_top0 z1).1]
      · rw [(y_top0 z0).2, (y_top0 z1).2])
    rw [f1, z_bd]
    have F0 : y_Fc μ ν := fun a ha => ⟨U1 a (by omega) (by omega), U2 a (by omega)⟩
    exact ⟨μ1, rfl, F1.RD R0, F1.RB B0, r1, F0.tr F1.Fc, (F1.1 118 (by omega)).trans (U1 118 (by omega) (by omega))⟩
  · intro p
    by_cases c1 : ¬ σ 0 3 = 5 ∧ ((σ 0 3 = 0 ∧ x1.toInt = 0) ∨ (¬ σ 0 3 = 0 ∧ 1 ≤ x1.toInt ∧ x1.toInt ≤ 30))
    · rw [if_pos c1]
      by_cases c2 : 0 ≤ x3.toInt ∧ x3.toInt ≤ 1000
      · exact absurd ⟨c1.1, c2, c1.2⟩ p
      · rw [if_neg c2]
    · rw [if_neg c1]
