def y_s0 : y_S := fun c j => if c = 0 ∧ (j = 4 ∨ j = 5) then 1 else 0
theorem y_s0_0 {c j : Nat} (h : c ≠ 0 ∨ (j ≠ 4 ∧ j ≠ 5)) : y_s0 c j = 0 := by
  unfold y_s0
  rw [if_neg (by omega)]
theorem y_s0_4 : y_s0 0 4 = 1 := rfl
theorem y_s0_5 : y_s0 0 5 = 1 := rfl
theorem y_s0_I : y_Inv y_s0 := by
  refine ⟨⟨?_, fun r hr => ?_, fun b hb => ?_, fun k hk => ?_, fun b => Or.inl (y_s0_0 (by omega)), fun b => Or.inl (y_s0_0 (by omega))⟩, fun f hf => ?_, fun f hf => ?_, fun b _ _ => y_s0_0 (by omega), fun k hk => ?_, fun r _ _ => y_s0_0 (by omega), fun q => ?_, fun q => ?_⟩
  · unfold y_W0
    rw [y_s0_4, y_s0_5, y_s0_0 (c := 0) (j := 0) (by omega), y_s0_0 (c := 0) (j := 1) (by omega), y_s0_0 (c := 0) (j := 2) (by omega), y_s0_0 (c := 0) (j := 3) (by omega), y_s0_0 (c := 0) (j := 6) (by omega), y_s0_0 (c := 0) (j := 7) (by omega), y_s0_0 (c := 0) (j := 8) (by omega), y_s0_0 (c := 0) (j := 9) (by omega), y_s0_0 (c := 0) (j := 10) (by omega), y_s0_0 (c := 0) (j := 11) (by omega)]
    omega
  · rw [y_s0_0 (by omega)] at hr; omega
  · rw [y_s0_0 (c := 13) (by omega)]
    exact ⟨by omega, fun k hk => by omega, fun k hk => by omega⟩
  · rw [y_s0_0 (by omega)] at hk; omega
  · rw [y_s0_0 (by omega)] at hf; omega
  · rw [y_s0_0 (by omega)] at hf; omega
  · rw [y_s0_0 (by omega)] at hk; omega
  · exact absurd (y_s0_0 (by omega)) q
  · rw [y_s0_0 (by omega)] at q; omega
theorem n_mu_0 {a j : Nat} (h1 : ¬ (a = 3 ∧ j < 2)) (h2 : ¬ (a = 137 ∧ (j = 22 ∨ j = 23))) (h3 : ¬ (14 ≤ a ∧ a < 26 ∧ j = 6)) : n_mu.1 a j = 0 := by
  unfold n_mu
  simp only []
  by_cases c1 : a = 3
  · rw [if_pos c1, if_neg (by omega), if_neg (by omega)]
  · rw [if_neg c1]
    by_cases c2 : a = 137
    · rw [if_pos c2, if_neg (by omega), if_neg (by omega)]
    · rw [if_neg c2]
      by_cases c3 : 14 ≤ a ∧ a < 26
      · rw [if_pos c3, if_neg (by omega)]
      · rw [if_neg c3]
theorem n_mu_L {a j : Nat} (h : ¬ (104 ≤ a ∧ a < 111)) : n_mu.2 a j = 0 := by
  unfold n_mu
  simp only []
  rw [if_neg h]
theorem y_s0_RM : y_RM y_s0 n_mu := by
  refine ⟨?_, fun c h1 h2 j => ?_⟩
  · intro j hj
    by_cases e4 : j = 4
    · subst e4; rfl
    · by_cases e5 : j = 5
      · subst e5; rfl
      · have key : ∀ j, j < 12 → j ≠ 4 → j ≠ 5 → y_sc j ≠ 22 ∧ y_sc j ≠ 23 := by decide
        have k := key j hj e4 e5
        rw [y_s0_0 (by omega), n_mu_0 (by omega) (by omega) (by omega)]
        rfl
  · rw [y_s0_0 (by omega), n_mu_0 (by omega) (by omega) (by omega)]
    rfl
theorem y_s0_RC : y_RC y_s0 n_mu := by
  refine ⟨⟨fun c j hd => ?_, fun c j hd => ?_⟩, ⟨fun r hr => ?_, fun r hr k hk => ?_⟩, fun b hb => ?_, fun f hf => ?_, ?_⟩
  · by_cases e : c = 0 ∧ (j = 4 ∨ j = 5)
    · obtain ⟨rfl, q⟩ := e
      rcases q with q | q
      · subst q; rfl
      · subst q; rfl
    · have key1 : ∀ c, c < 22 → ∀ j, j < 50 → c_dom c j = true → (c = 0 ∧ (j = 4 ∨ j = 5)) ∨ (c_ca c j).1 ≠ 3 ∨ 2 ≤ (c_ca c j).2 := by decide +kernel
      have key2 : ∀ c, c < 22 → ∀ j, j < 50 → c_dom c j = true → (c_ca c j).1 < 137 := by decide +kernel
      have key3 : ∀ c, c < 22 → ∀ j, j < 50 → c_dom c j = true → (c_ca c j).1 < 14 ∨ 26 ≤ (c_ca c j).1 ∨ (c_ca c j).2 ≠ 6 := by decide +kernel
      have k1 := key1 c (c_dom_lt hd).1 j (c_dom_lt hd).2 hd
      have k2 := key2 c (c_dom_lt hd).1 j (c_dom_lt hd).2 hd
      have k3 := key3 c (c_dom_lt hd).1 j (c_dom_lt hd).2 hd
      rw [y_s0_0 (by omega), n_mu_0 (by omega) (by omega) (by omega)]
      rfl
  · have key : ∀ c, c < 22 → ∀ j, j < 50 → c_doL c j = true → ¬ (104 ≤ (c_cl c j).1 ∧ (c_cl c j).1 < 111) ∧ c ≠ 0 := by decide +kernel
    have k := key c (c_doL_lt hd).1 j (c_doL_lt hd).2 hd
    rw [y_s0_0 (Or.inl k.2), n_mu_L k.1]
    rfl
  · unfold y_br
    rw [if_neg (fun q => by have := q.1; rw [y_s0_0 (by omega)] at this; omega)]
    unfold n_mu
    simp only []
    rw [if_neg (by omega), if_neg (by omega), if_pos (by omega), if_pos rfl]
    rfl
  · rw [n_mu_0 (by omega) (by omega) (by omega), b_0, y_s0_0 (by omega)]
    rfl
  · have z : y_s0 13 b = 0 := y_s0_0 (by omega)
    have t := y_top0 z
    have e1 : y_ru y_s0 b = 0 := by unfold y_ru y_gg; rw [t.1, t.2]; rfl
    have e2 : y_rd y_s0 b = 1 := by unfold y_rd y_gg; rw [t.1, t.2]; rfl
    refine ⟨?_, ?_, ?_, ?_⟩
    · rw [e1]
      refine ⟨fun j hj => ?_, by omega⟩
      rw [n_mu_L (by omega)]
      have key : ∀ j, j < 4 → (0 : Int64) = lz ((y_q 0 j % 1000000000 : Nat) : Int) := by decide +kernel
      exact key j hj
    · rw [e2]
      refine ⟨fun j hj => ?_, by omega⟩
      have key : ∀ j, j < 4 → n_one j = lz ((y_q 1 j % 1000000000 : Nat) : Int) := by decide +kernel
      rw [← key j hj]
      unfold n_mu
      simp only []
      rw [if_pos (by omega)]
    · rw [n_mu_0 (by omega) (by omega) (by omega)]
      unfold y_tw
      rw [t.1, t.2]
      rfl
    · rw [n_mu_0 (by omega) (by omega) (by omega)]
      unfold y_ww
      rw [t.1, t.2]
      rfl
  · rw [y_s0_0 (by omega)] at hf; omega
  · rw [n_mu_0 (by omega) (by omega) (by omega)]
    rfl
theorem y_R0 : y_R n_mu := ⟨y_s0, y_s0_I, y_s0_RM, y_s0_RC⟩
abbrev y_G (x : Option (Int32 × q_M)) : Prop := ∃ μr, x = some (1, μr)
theorem y_ite {P : Prop} [Decidable P] {a b : Option (Int32 × q_M)} (h1 : P → y_G a) (h2 : ¬ P → y_G b) : y_G (if P then a else b) := by
  by_cases c : P
  · rw [if_pos c]; exact h1 c
  · rw [if_neg c]; exact h2 c
theorem y_gdd {b : Bool} {x : Option (Int32 × q_M)} (hb : b = true) (h : y_G x) : y_G (q_gd b x) := by
  rw [z_gd hb]
  exact h
theorem y_lee {α : Type} {v : α} {k : α → Option (Int32 × q_M)} (h : y_G (k v)) : y_G (q_le v k) := h
theorem y_stp.go {f g : q_M → Option (Int32 × q_M)} {μ : q_M} (h : y_stp f g μ) {K : q_M → Option (Int32 × q_M)} (hK : ∀ μ', y_R μ' → y_G (K μ')) : y_G (q_bd (f μ) (fun r μ1 => q_bd (g μ1) (fun r' μ2 => if r = r' then K μ2 else some (0, μ2)))) := by
  obtain ⟨r, μ1, μ2, h1, h2, h3⟩ := h
  rw [h1, z_bd, h2, z_bd, if_pos rfl]
  exact hK μ2 h3
theorem y_stp.go64 {f g : q_M → Option (Int64 × q_M)} {μ : q_M} (h : y_stp f g μ) {K : q_M → Option (Int32 × q_M)} (hK : ∀ μ', y_R μ' → y_G (K μ')) : y_G (q_bd (f μ) (fun r μ1 => q_bd (g μ1) (fun r' μ2 => if lg_cmp r r' = 0 then K μ2 else some (0, μ2)))) := by
  obtain ⟨r, μ1, μ2, h1, h2, h3⟩ := h
  rw [h1, z_bd, h2, z_bd, z_if (z_c2 r r), if_pos rfl]
  exact hK μ2 h3
theorem law_542 {xs : Nat → Int32} {L : Nat} {Kb : Int32 → q_M → Option (Int32 × q_M)} {Kx : q_M → Option (Int32 × q_M)} {v3 x1 x2 : Int32} {v : Int32} {μ : q_M} (h : y_R μ) (g1 : q_ix (v3 + 1) L = true) (g2 : q_ix (v3 + 2) L = true) (g3 : q_ix (v3 + 3) L = true) (e1 : x1 = xs (v3 + 1).toNatClampNeg) (e2 : x2 = xs (v3 + 2).toNatClampNeg) (hv : (xs (v3 + 3).toNatClampNeg = 0 ∧ v = 0) ∨ (¬ xs (v3 + 3).toNatClampNeg = 0 ∧ v = 1)) (hK : ∀ μ', y_R μ' → y_G (Kb (v3 + 8) μ')) : y_G (J_L_law_542 xs L Kb Kx v3 v x2 x1 μ) := by
  obtain ⟨r, μ1, μ2, h1, h2, h3⟩ := S_turn x1 x2 v h
  unfold J_L_law_542
  rw [h1, z_bd, z_gd g1, z_gd g2, z_gd g3, ← e1, ← e2]
  rcases hv with ⟨c, rfl⟩ | ⟨c, rfl⟩
  · rw [if_pos c, h2, z_bd, if_pos rfl]; exact hK μ2 h3
  · rw [if_neg c, h2, z_bd, if_pos rfl]; exact hK μ2 h3
theorem law_911 {xs : Nat → Int32} {L : Nat} {Kb : Int32 → q_M → Option (Int32 × q_M)} {Kx : q_M → Option (Int32 × q_M)} {v3 x1 : Int32} {v : Int32} {μ : q_M} (h : y_R μ) (g1 : q_ix (v3 + 1) L = true) (g2 : q_ix (v3 + 2) L = true) (e1 : x1 = xs (v3 + 1).toNatClampNeg) (hv : (xs (v3 + 2).toNatClampNeg = 0 ∧ v = 0) ∨ (¬ xs (v3 + 2).toNatClampNeg = 0 ∧ v = 1)) (hK : ∀ μ', y_R μ' → y_G (Kb (v3 + 8) μ')) : y_G (J_L_law_911 xs L Kb Kx v3 v x1 μ) := by
  have hz : q_zb v = true := by rcases hv with ⟨_, rfl⟩ | ⟨_, rfl⟩ <;> decide
  obtain ⟨r, μ1, μ2, h1, h2, h3⟩ := S_slow x1 v hz h
  unfold J_L_law_911
  rw [h1, z_bd, z_gd g1, z_gd g2, ← e1]
  rcases hv with ⟨c, rfl⟩ | ⟨c, rfl⟩
  · rw [if_pos c, h2, z_bd, if_pos rfl]; exact hK μ2 h3
  · rw [if_neg c, h2, z_bd, if_pos rfl]; exact hK μ2 h3
theorem law_1062 {xs : Nat → Int32} {L : Nat} {Kb : Int32 → q_M → Option (Int32 × q_M)} {Kx : q_M → Option (Int32 × q_M)} {v3 x1 : Int32} {v : Int32} {μ : q_M} (h : y_R μ) (g1 : q_ix (v3 + 1) L = true) (g2 : q_ix (v3 + 2) L = true) (e1 : x1 = xs (v3 + 1).toNatClampNeg) (hv : (xs (v3 + 2).toNatClampNeg = 0 ∧ v = 0) ∨ (¬ xs (v3 + 2).toNatClampNeg = 0 ∧ v = 1)) (hK : ∀ μ', y_R μ' → y_G (Kb (v3 + 8) μ')) : y_G (J_L_law_1062 xs L Kb Kx v3 v x1 μ) := by
  have hz : q_zb v = true := by rcases hv with ⟨_, rfl⟩ | ⟨_, rfl⟩ <;> decide
  obtain ⟨r, μ1, μ2, h1, h2, h3⟩ := S_change x1 v hz h
  unfold J_L_law_1062
  rw [h1, z_bd, z_gd g1, z_gd g2, ← e1]
  rcases hv with ⟨c, rfl⟩ | ⟨c, rfl⟩
  · rw [if_pos c, h2, z_bd, if_pos rfl]; exact hK μ2 h3
  · rw [if_neg c, h2, z_bd, if_pos rfl]; exact hK μ2 h3
theorem law_go (xs : Nat → Int32) (L : Nat) (hL : L ≤ 4096) : ∀ (d n i : Nat) (μ : q_M), L ≤ i + 8 * d → d < n → i ≤ 5000 → y_R μ → y_G (L_L_law_18 xs L (fun μ => some (1, μ)) n (iz (i : Int)) μ) := by
  intro d
  induction d with
  | zero =>
    intro n i μ hi hn h5 h
    obtain ⟨n, rfl⟩ : ∃ z, n = z + 1 := ⟨n - 1, by omega⟩
    have e : (Int32.ofNat L - 8 < iz (i : Int)) = ((L : Int) - 8 < i) := by
      rw [show Int32.ofNat L - 8 = iz ((L : Int) - 8) by rw [show Int32.ofNat L = iz (L : Int) from (z_nI L).symm]; exact z_sub _ 8]
      exact z_lt32 (by omega) (by omega) (by omega) (by omega)
    rw [L_L_law_18, z_if e, if_pos (by omega)]
    exact ⟨μ, rfl⟩
  | succ d ih =>
    intro n i μ hi hn h5 h
    obtain ⟨n, rfl⟩ : ∃ z, n = z + 1 := ⟨n - 1, by omega⟩
    have e : (Int32.ofNat L - 8 < iz (i : Int)) = ((L : Int) - 8 < i) := by
      rw [show Int32.ofNat L - 8 = iz ((L : Int) - 8) by rw [show Int32.ofNat L = iz (L : Int) from (z_nI L).symm]; exact z_sub _ 8]
      exact z_lt32 (by omega) (by omega) (by omega) (by omega)
    rw [L_L_law_18, z_if e]
    by_cases c : (L : Int) - 8 < i
    · rw [if_pos c]; exact ⟨μ, rfl⟩
    rw [if_neg c]
    have g0 : q_ix (iz (i : Int)) L = true := z_ix (by omega) (by omega) (by omega)
    have g1 : q_ix (iz (i : Int) + 1) L = true := by
      rw [show iz (i : Int) + 1 = iz ((i : Int) + 1) from z_add _ 1]
      exact z_ix (by omega) (by omega) (by omega)
    have g2 : q_ix (iz (i : Int) + 2) L = true := by
      rw [show iz (i : Int) + 2 = iz ((i : Int) + 2) from z_add _ 2]
      exact z_ix (by omega) (by omega) (by omega)
    have g3 : q_ix (iz (i : Int) + 3) L = true := by
      rw [show iz (i : Int) + 3 = iz ((i : Int) + 3) from z_add _ 3]
      exact z_ix (by omega) (by omega) (by omega)
    have g4 : q_ix (iz (i : Int) + 4) L = true := by
      rw [show iz (i : Int) + 4 = iz ((i : Int) + 4) from z_add _ 4]
      exact z_ix (by omega) (by omega) (by omega)
    have g5 : q_ix (iz (i : Int) + 5) L = true := by
      rw [show iz (i : Int) + 5 = iz ((i : Int) + 5) from z_add _ 5]
      exact z_ix (by omega) (by omega) (by omega)
    have g6 : q_ix (iz (i : Int) + 6) L = true := by
      rw [show iz (i : Int) + 6 = iz ((i : Int) + 6) from z_add _ 6]
      exact z_ix (by omega) (by omega) (by omega)
    have g7 : q_ix (iz (i : Int) + 7) L = true := by
      rw [show iz (i : Int) + 7 = iz ((i : Int) + 7) from z_add _ 7]
      exact z_ix (by omega) (by omega) (by omega)
    have hK : ∀ μ', y_R μ' → y_G (L_L_law_18 xs L (fun μ => some (1, μ)) n (iz (i : Int) + 8) μ') := fun μ' h' => by
      rw [show iz (i : Int) + 8 = iz (((i + 8 : Nat) : Nat) : Int) from z_add _ 8]
      exact ih n (i + 8) μ' (by omega) (by omega) (by omega) h'
    generalize iz (i : Int) = v3 at *
    refine y_gdd g0 (y_lee ?_)
    refine y_ite (fun _ => (S_node h).go hK) (fun _ => ?_)
    refine y_ite (fun _ => y_gdd g1 (y_gdd g2 (y_gdd g3 (y_gdd g4 (y_gdd g5 ((S_road _ _ _ _ _ h).go hK)))))) (fun _ => ?_)
    refine y_ite (fun _ => y_gdd g1 ((S_bridge _ h).go hK)) (fun _ => ?_)
    refine y_ite (fun _ => y_gdd g1 (y_gdd g2 (y_gdd g3 (y_gdd g4 (y_gdd g5 (y_gdd g6 (y_gdd g7 ((S_row _ _ _ _ h).go hK)))))))) (fun _ => ?_)
    refine y_ite (fun _ => y_gdd g1 (y_gdd g2 (y_gdd g3 (y_gdd g4 ((S_axle _ _ h).go hK))))) (fun _ => ?_)
    refine y_ite (fun _ => y_gdd g1 (y_gdd g2 (y_gdd g3 ((S_size _ _ _ h).go hK)))) (fun _ => ?_)
    refine y_ite (fun _ => y_gdd g1 (y_gdd g2 (y_gdd g3 (y_ite (fun c => law_542 h g1 g2 g3 rfl rfl (Or.inl ⟨c, rfl⟩) hK) (fun c => law_542 h g1 g2 g3 rfl rfl (Or.inr ⟨c, rfl⟩) hK))))) (fun _ => ?_)
    refine y_ite (fun _ => y_gdd g1 (y_gdd g2 (y_gdd g3 ((S_hours _ _ _ h).go hK)))) (fun _ => ?_)
    refine y_ite (fun _ => y_gdd g1 (y_gdd g2 ((S_rating _ _ h).go64 hK))) (fun _ => ?_)
    refine y_ite (fun _ => y_gdd g1 ((S_kept _ h).go hK)) (fun _ => ?_)
    refine y_ite (fun _ => y_gdd g1 (y_gdd g2 (y_gdd g3 ((S_run _ _ _ h).go hK)))) (fun _ => ?_)
    refine y_ite (fun _ => y_gdd g1 ((S_road2 _ h).go hK)) (fun _ => ?_)
    refine y_ite (fun _ => y_gdd g1 ((S_begun _ h).go hK)) (fun _ => ?_)
    refine y_ite (fun _ => y_gdd g1 (y_gdd g2 ((S_bars _ _ h).go hK))) (fun _ => ?_)
    refine y_ite (fun _ => y_gdd g1 (y_gdd g2 (y_gdd g3 (y_gdd g4 ((S_alternate _ _ h).go hK))))) (fun _ => ?_)
    refine y_ite (fun _ => y_gdd g1 (y_gdd g2 (y_ite (fun c => law_911 h g1 g2 rfl (Or.inl ⟨c, rfl⟩) hK) (fun c => law_911 h g1 g2 rfl (Or.inr ⟨c, rfl⟩) hK)))) (fun _ => ?_)
    refine y_ite (fun _ => y_gdd g1 (y_gdd g2 ((S_convoy _ _ h).go hK))) (fun _ => ?_)
    refine y_ite (fun _ => y_gdd g1 ((S_escort _ h).go hK)) (fun _ => ?_)
    refine y_ite (fun _ => y_gdd g1 ((S_notice _ h).go hK)) (fun _ => ?_)
    refine y_ite (fun _ => y_gdd g1 ((S_record _ h).go hK)) (fun _ => ?_)
    refine y_ite (fun _ => y_gdd g1 (y_gdd g2 (y_ite (fun c => law_1062 h g1 g2 rfl (Or.inl ⟨c, rfl⟩) hK) (fun c => law_1062 h g1 g2 rfl (Or.inr ⟨c, rfl⟩) hK)))) (fun _ => ?_)
    refine y_ite (fun _ => y_gdd g1 ((S_count _ h).go hK)) (fun _ => ?_)
    exact hK μ h
theorem law_ok (xs : Nat → Int32) (L : Nat) (hL : L ≤ 4096) : ∃ μr, f_law xs L 0 n_mu = some (1, μr) := law_go xs L hL 512 q_fu 0 n_mu (by omega) (by rw [z_fu]; omega) (by omega) y_R0
