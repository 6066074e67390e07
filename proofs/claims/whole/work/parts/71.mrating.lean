theorem z_n0 {p : Int} (h1 : 1 ≤ p) (h2 : p < 9223372036854775808) : ¬ lz p = 0 := fun q => by
  have := (eq_iff_iff.mp (z_eq64 (a := p) (b := 0) (by omega) (by omega) (by omega) (by omega))).mp q
  omega
theorem y_emm (a b n p : Int) : (a % p * n + b) % p = (a * n + b) % p := by
  rw [Int.add_emod, Int.mul_emod, Int.emod_emod, ← Int.mul_emod, ← Int.add_emod]
theorem K_restOf {V p : Int} (hV : 0 ≤ V ∧ V ≤ 10000000000000000000000000000000000) (hp : 2 ≤ p ∧ p ≤ 1000) (μ : q_M) : f_X10_restOf (lz (V / 1000000000000000000)) (lz (V % 1000000000000000000)) (lz p) μ = some (lz (V % p), μ) := by
  have a1 := Int.emod_nonneg (V / 1000000000000000000) (show p ≠ 0 by omega)
  have a2 := Int.emod_lt_of_pos (V / 1000000000000000000) (show 0 < p by omega)
  have b1 := Int.emod_nonneg (V / 1000000000000000000 % p * 1000000000 + V % 1000000000000000000 / 1000000000) (show p ≠ 0 by omega)
  have b2 := Int.emod_lt_of_pos (V / 1000000000000000000 % p * 1000000000 + V % 1000000000000000000 / 1000000000) (show 0 < p by omega)
  unfold f_X10_restOf
  have n0 : ¬ lz p = 0 := z_n0 (by omega) (by omega)
  rw [z_gd (decide_eq_true n0), z_le, z_le, z_N, z_rl (by omega) (by omega) (by omega) (by omega), z_divL (by omega) (by omega) (by omega) (by omega), z_mulL, z_addL, z_rl (by omega) (by omega) (by omega) (by omega), z_rl (by omega) (by omega) (by omega) (by omega), z_mulL, z_addL, z_rl (by omega) (by omega) (by omega) (by omega), y_emm, Int.add_mul, Int.mul_assoc, Int.add_assoc, y_emm, show V / 1000000000000000000 * (1000000000 * 1000000000) + (V % 1000000000000000000 / 1000000000 * 1000000000 + V % 1000000000000000000 % 1000000000) = V by omega]
theorem y_dvd3 {V p : Int} (hp : 2 ≤ p ∧ p ≤ 1000) (hV : 0 ≤ V ∧ V ≤ 10000000000000000000000000000000000) : let r1 := V / 1000000000000000000 % p * 1000000000 + V % 1000000000000000000 / 1000000000; let r2 := r1 % p * 1000000000 + V % 1000000000000000000 % 1000000000; (0 ≤ r1 ∧ r1 < 1000000000000) ∧ (0 ≤ r2 ∧ r2 < 1000000000000) ∧ (0 ≤ r1 / p ∧ r1 / p < 1000000000) ∧ (0 ≤ r2 / p ∧ r2 / p < 1000000000) ∧ V / p = V / 1000000000000000000 / p * 1000000000000000000 + (r1 / p * 1000000000 + r2 / p) := by
  intro r1 r2
  have a1 := Int.emod_nonneg (V / 1000000000000000000) (show p ≠ 0 by omega)
  have a2 := Int.emod_lt_of_pos (V / 1000000000000000000) (show 0 < p by omega)
  have a3 := Int.emod_add_mul_ediv (V / 1000000000000000000) p
  have b1 := Int.emod_nonneg r1 (show p ≠ 0 by omega)
  have b2 := Int.emod_lt_of_pos r1 (show 0 < p by omega)
  have b3 := Int.emod_add_mul_ediv r1 p
  have c1 := Int.emod_nonneg r2 (show p ≠ 0 by omega)
  have c2 := Int.emod_lt_of_pos r2 (show 0 < p by omega)
  have c3 := Int.emod_add_mul_ediv r2 p
  have d1 : 0 ≤ r1 ∧ r1 < 1000000000 * p := by omega
  have d2 : 0 ≤ r2 ∧ r2 < 1000000000 * p := by omega
  refine ⟨by omega, by omega, ⟨Int.ediv_nonneg d1.1 (by omega), Int.ediv_lt_of_lt_mul (by omega) d1.2⟩, ⟨Int.ediv_nonneg d2.1 (by omega), Int.ediv_lt_of_lt_mul (by omega) d2.2⟩, ?_⟩
  have key : r2 % p + p * (V / 1000000000000000000 / p * 1000000000000000000 + (r1 / p * 1000000000 + r2 / p)) = V := by
    rw [Int.mul_add, Int.mul_add, ← Int.mul_assoc, ← Int.mul_assoc]
    generalize p * (V / 1000000000000000000 / p) = x at *
    generalize p * (r1 / p) = y at *
    generalize p * (r2 / p) = z at *
    omega
  exact ((Int.ediv_emod_unique (show 0 < p by omega)).mpr ⟨key, c1, c2⟩).1
theorem K_divide {V p : Int} (hV : 0 ≤ V ∧ V ≤ 10000000000000000000000000000000000) (hp : 2 ≤ p ∧ p ≤ 1000) (μ : q_M) : ∃ μ', f_X10_divide (lz (V / 1000000000000000000)) (lz (V % 1000000000000000000)) (lz p) μ = some ((), μ') ∧ y_Sc μ μ' ∧ μ'.2 137 49 = lz (V / p / 1000000000000000000) ∧ μ'.2 137 50 = lz (V / p % 1000000000000000000) ∧ ∀ j, j ≠ 49 → j ≠ 50 → μ'.2 137 j = μ.2 137 j := by
  obtain ⟨r1, r2, u1, u2, e⟩ := y_dvd3 hp hV
  have a1 := Int.emod_nonneg (V / 1000000000000000000) (show p ≠ 0 by omega)
  have a2 := Int.emod_lt_of_pos (V / 1000000000000000000) (show 0 < p by omega)
  unfold f_X10_divide
  have n0 : ¬ lz p = 0 := z_n0 (by omega) (by omega)
  have e1 : lz (V / 1000000000000000000) / lz p = lz (V / 1000000000000000000 / p) := z_divL (by omega) (by omega) (by omega) (by omega)
  have e2 : q_rl (lz (V / 1000000000000000000)) (lz p) = lz (V / 1000000000000000000 % p) := z_rl (by omega) (by omega) (by omega) (by omega)
  have e3 : lz (V % 1000000000000000000) / lz 1000000000 = lz (V % 1000000000000000000 / 1000000000) := z_divL (by omega) (by omega) (by omega) (by omega)
  have e4 : q_rl (lz (V % 1000000000000000000)) (lz 1000000000) = lz (V % 1000000000000000000 % 1000000000) := z_rl (by omega) (by omega) (by omega) (by omega)
  rw [z_gd (decide_eq_true n0), z_N]
  simp only [z_le, e1, e2, e3, e4, z_mulL, z_addL]
  generalize V / 1000000000000000000 % p * 1000000000 + V % 1000000000000000000 / 1000000000 = R1 at *
  have e5 : lz R1 / lz p = lz (R1 / p) := z_divL (by omega) (by omega) (by omega) (by omega)
  have e6 : q_rl (lz R1) (lz p) = lz (R1 % p) := z_rl (by omega) (by omega) (by omega) (by omega)
  simp only [e5, e6, z_mulL, z_addL]
  generalize R1 % p * 1000000000 + V % 1000000000000000000 % 1000000000 = R2 at *
  have e7 : lz R2 / lz p = lz (R2 / p) := z_divL (by omega) (by omega) (by omega) (by omega)
  simp only [e7, z_mulL, z_addL]
  refine ⟨_, rfl, y_Sc.rf.sl.sl, ?_, ?_, fun j h1 h2 => ?_⟩
  · simp only [z_sl2, true_and, Nat.reduceEqDiff, if_false, if_true]
    congr 1; omega
  · simp only [z_sl2, true_and, if_true]
    congr 1; omega
  · simp only [z_sl2, true_and, h1, h2, if_false]
theorem K_r59 {p : Nat} (hp : 2 ≤ p ∧ p ≤ 1000) (x1 x2 : Int32) (Kx : Int64 → q_M → Option (Int64 × q_M)) : ∀ (d n t u : Nat) (μ : q_M), t < 2 ^ d → 1 ≤ t → d < n → t ≤ 10000000000000000000000000000000000 → u ≤ 10000000000000000000000000000000000 → y_Tp (t : Int) μ → y_Up (u : Int) μ → ∃ (μ' : q_M) (t' u' c : Nat), L_X10_rating_59 x1 x2 Kx n (lz (p : Int)) μ = Kx (lz (p : Int)) μ' ∧ y_Sc μ μ' ∧ y_Tp (t' : Int) μ' ∧ y_Up (u' : Int) μ' ∧ t = t' * c ∧ u = u' * c ∧ ¬ (p ∣ t' ∧ p ∣ u') := by
  intro d
  induction d with
  | zero => intro n t u μ h1 h2; simp at h1; omega
  | succ d ih =>
    intro n t u μ h1 h2 hn ht hu hT hU
    obtain ⟨n, rfl⟩ : ∃ z, n = z + 1 := ⟨n - 1, by omega⟩
    have eT : ((t : Int) % (p : Int)) = ((t % p : Nat) : Int) := (Int.natCast_emod t p).symm
    have eU : ((u : Int) % (p : Int)) = ((u % p : Nat) : Int) := (Int.natCast_emod u p).symm
    have mt := Nat.mod_lt t (show 0 < p by omega)
    have mu := Nat.mod_lt u (show 0 < p by omega)
    have z0 : ∀ k : Nat, k < p → (lg_cmp (lz (k : Int)) 0 = 0) = ((k : Int) = 0) := fun k hk => (z_c2 _ _).trans (z_eq64 (a := (k : Int)) (b := 0) (by omega) (by omega) (by omega) (by omega))
    rw [L_X10_rating_59, hT.1, hT.2, K_restOf (V := (t : Int)) (p := (p : Int)) (by omega) (by omega), z_bd, eT, z_if (z0 _ mt)]
    by_cases c1 : t % p = 0
    · rw [if_pos (by omega), hU.1, hU.2, K_restOf (V := (u : Int)) (p := (p : Int)) (by omega) (by omega), z_bd, eU, z_if (z0 _ mu)]
      by_cases c2 : u % p = 0
      · rw [if_pos (by omega), hT.1, hT.2]
        obtain ⟨μ1, f1, s1, q1, q2, q3⟩ := K_divide (V := (t : Int)) (p := (p : Int)) (by omega) (by omega) μ
        rw [f1, z_bd, z_le, z_le]
        have hU1 : y_Up (u : Int) (q_sl (q_sl μ1 137 41 (μ1.2 137 49)) 137 42 ((q_sl μ1 137 41 (μ1.2 137 49)).2 137 50)) := by
          refine ⟨?_, ?_⟩
          · simp only [z_sl2, true_and, Nat.reduceEqDiff, if_false]; rw [q3 43 (by decide) (by decide)]; exact hU.1
          · simp only [z_sl2, true_and, Nat.reduceEqDiff, if_false]; rw [q3 44 (by decide) (by decide)]; exact hU.2
        have hT1 : y_Tp ((t / p : Nat) : Int) (q_sl (q_sl μ1 137 41 (μ1.2 137 49)) 137 42 ((q_sl μ1 137 41 (μ1.2 137 49)).2 137 50)) := by
          refine ⟨?_, ?_⟩
          · simp only [z_sl2, true_and, Nat.reduceEqDiff, if_false, if_true]; rw [q1, Int.natCast_ediv]
          · simp only [z_sl2, true_and, Nat.reduceEqDiff, if_false, if_true]; rw [q2, Int.natCast_ediv]
        have s2 : y_Sc μ (q_sl (q_sl μ1 137 41 (μ1.2 137 49)) 137 42 ((q_sl μ1 137 41 (μ1.2 137 49)).2 137 50)) := s1.sl.sl
        generalize q_sl (q_sl μ1 137 41 (μ1.2 137 49)) 137 42 ((q_sl μ1 137 41 (μ1.2 137 49)).2 137 50) = μ2 at *
        rw [hU1.1, hU1.2]
        obtain ⟨μ3, f3, s3, r1, r2, r3⟩ := K_divide (V := (u : Int)) (p := (p : Int)) (by omega) (by omega) μ2
        rw [f3, z_bd, z_le, z_le]
        have hU3 : y_Up ((u / p : Nat) : Int) (q_sl (q_sl μ3 137 43 (μ3.2 137 49)) 137 44 ((q_sl μ3 137 43 (μ3.2 137 49)).2 137 50)) := by
          refine ⟨?_, ?_⟩
          · simp only [z_sl2, true_and, Nat.reduceEqDiff, if_false, if_true]; rw [r1, Int.natCast_ediv]
          · simp only [z_sl2, true_and, Nat.reduceEqDiff, if_false, if_true]; rw [r2, Int.natCast_ediv]
        have hT3 : y_Tp ((t / p : Nat) : Int) (q_sl (q_sl μ3 137 43 (μ3.2 137 49)) 137 44 ((q_sl μ3 137 43 (μ3.2 137 49)).2 137 50)) := by
          refine ⟨?_, ?_⟩
          · simp only [z_sl2, true_and, Nat.reduceEqDiff, if_false]; rw [r3 41 (by decide) (by decide)]; exact hT1.1
          · simp only [z_sl2, true_and, Nat.reduceEqDiff, if_false]; rw [r3 42 (by decide) (by decide)]; exact hT1.2
        have s4 : y_Sc μ (q_sl (q_sl μ3 137 43 (μ3.2 137 49)) 137 44 ((q_sl μ3 137 43 (μ3.2 137 49)).2 137 50)) := (s2.tr s3).sl.sl
        generalize q_sl (q_sl μ3 137 43 (μ3.2 137 49)) 137 44 ((q_sl μ3 137 43 (μ3.2 137 49)).2 137 50) = μ4 at *
        have e1 : t = t / p * p := (Nat.div_mul_cancel (Nat.dvd_of_mod_eq_zero c1)).symm
        have e2 : u = u / p * p := (Nat.div_mul_cancel (Nat.dvd_of_mod_eq_zero c2)).symm
        have t1 : t / p < 2 ^ d := by
          apply Nat.div_lt_of_lt_mul
          rw [Nat.pow_succ] at h1
          have := Nat.mul_le_mul_left (2 ^ d) hp.1
          rw [Nat.mul_comm p]
          omega
        have t2 : 1 ≤ t / p := by
          apply Nat.pos_of_ne_zero
          intro q
          rw [q, Nat.zero_mul] at e1
          omega
        have t3 := Nat.div_le_self t p
        have u3 := Nat.div_le_self u p
        obtain ⟨μ', t', u', c, f, s, a, b, g1, g2, g3⟩ := ih n (t / p) (u / p) μ4 t1 t2 (by omega) (by omega) (by omega) hT3 hU3
        refine ⟨μ', t', u', c * p, f, s4.tr s, a, b, ?_, ?_, g3⟩
        · rw [← Nat.mul_assoc, ← g1]; exact e1
        · rw [← Nat.mul_assoc, ← g2]; exact e2
      · rw [if_neg (by omega)]
        exact ⟨μ, t, u, 1, rfl, y_Sc.rf, hT, hU, (Nat.mul_one t).symm, (Nat.mul_one u).symm, fun q => c2 (Nat.mod_eq_zero_of_dvd q.2)⟩
    · rw [if_neg (by omega)]
      exact ⟨μ, t, u, 1, rfl, y_Sc.rf, hT, hU, (Nat.mul_one t).symm, (Nat.mul_one u).symm, fun q => c1 (Nat.mod_eq_zero_of_dvd q.1)⟩
theorem K_r51 (x1 x2 : Int32) (Kx : q_M → Option (Int64 × q_M)) : ∀ (d n p t u : Nat) (μ : q_M), p + d = 1001 → d < n → 2 ≤ p → 1 ≤ t → t ≤ 10000000000000000000000000000000000 → u ≤ 10000000000000000000000000000000000 → y_Tp (t : Int) μ → y_Up (u : Int) μ → (∀ q, 2 ≤ q → q < p → ¬ (q ∣ t ∧ q ∣ u)) → ∃ (μ' : q_M) (t' u' c : Nat), L_X10_rating_51 x1 x2 Kx n (lz (p : Int)) μ = Kx μ' ∧ y_Sc μ μ' ∧ y_Tp (t' : Int) μ' ∧ y_Up (u' : Int) μ' ∧ t = t' * c ∧ u = u' * c ∧ ∀ q, 2 ≤ q → q ≤ 1000 → ¬ (q ∣ t' ∧ q ∣ u') := by
  intro d
  induction d with
  | zero =>
    intro n p t u μ hd hn hp ht ht2 hu hT hU hq
    obtain ⟨n, rfl⟩ : ∃ z, n = z + 1 := ⟨n - 1, by omega⟩
    have e : (0 < lg_cmp (lz (p : Int)) 1000) = (1000 < (p : Int)) := (z_c1 _ _).trans (z_lt64 (a := 1000) (by omega) (by omega) (by omega) (by omega))
    rw [L_X10_rating_51, z_if e, if_pos (by omega)]
    exact ⟨μ, t, u, 1, rfl, y_Sc.rf, hT, hU, (Nat.mul_one t).symm, (Nat.mul_one u).symm, fun q h1 h2 => hq q h1 (by omega)⟩
  | succ d ih =>
    intro n p t u μ hd hn hp ht ht2 hu hT hU hq
    obtain ⟨n, rfl⟩ : ∃ z, n = z + 1 := ⟨n - 1, by omega⟩
    have e : (0 < lg_cmp (lz (p : Int)) 1000) = (1000 < (p : Int)) := (z_c1 _ _).trans (z_lt64 (a := 1000) (by omega) (by omega) (by omega) (by omega))
    rw [L_X10_rating_51, z_if e, if_neg (by omega)]
    have t113 : t < 2 ^ 113 := Nat.lt_of_le_of_lt ht2 (by decide)
    obtain ⟨μ1, t1, u1, c1, f1, s1, T1, U1, e1, e2, nd⟩ := K_r59 (p := p) (by omega) x1 x2 (fun v3 μ => q_le ((v3 + 1) : Int64) (fun y27 => (L_X10_rating_51 x1 x2 Kx n) y27 μ)) 113 q_fu t u μ t113 ht (by rw [z_fu]; omega) ht2 hu hT hU
    rw [f1, z_le, show lz (p : Int) + 1 = lz (((p + 1 : Nat)) : Int) from z_addL _ 1]
    have c0 : 0 < c1 := Nat.pos_of_ne_zero (fun q => by rw [q, Nat.mul_zero] at e1; omega)
    have t0 : 1 ≤ t1 := Nat.pos_of_ne_zero (fun q => by rw [q, Nat.zero_mul] at e1; omega)
    have tl : t1 ≤ t := by rw [e1]; exact Nat.le_mul_of_pos_right t1 c0
    have ul : u1 ≤ u := by rw [e2]; exact Nat.le_mul_of_pos_right u1 c0
    obtain ⟨μ', t', u', c, f, s, a, b, g1, g2, g3⟩ := ih n (p + 1) t1 u1 μ1 (by omega) (by omega) (by omega) t0 (by omega) (by omega) T1 U1 (fun q h1 h2 => by
      by_cases e : q = p
      · subst e; exact nd
      · intro hh
        exact hq q h1 (by omega) ⟨by rw [e1]; exact Nat.dvd_mul_right_of_dvd hh.1 _, by rw [e2]; exact Nat.dvd_mul_right_of_dvd hh.2 _⟩)
    refine ⟨μ', t', u', c * c1, f, s1.tr s, a, b, ?_, ?_, g3⟩
    · rw [← Nat.mul_assoc, ← g1]; exact e1
    · rw [← Nat.mul_assoc, ← g2]; exact e2
theorem y_pr : ∀ g : Nat, 1 < g → ∃ q, 1 < q ∧ q ∣ g ∧ ∀ a b, q ∣ a * b → q ∣ a ∨ q ∣ b := by
  intro g
  induction g using Nat.strongRecOn with
  | _ g ih =>
    intro hg
    by_cases h : ∃ d, 1 < d ∧ d < g ∧ d ∣ g
    · obtain ⟨d, h1, h2, h3⟩ := h
      obtain ⟨q, a, b, c⟩ := ih d h2 h1
      exact ⟨q, a, Nat.dvd_trans b h3, c⟩
    · refine ⟨g, hg, Nat.dvd_refl g, fun a b hab => ?_⟩
      by_cases c : Nat.gcd g a = 1
      · right
        exact Nat.Coprime.dvd_of_dvd_mul_left c hab
      · left
        have d1 := Nat.gcd_dvd_left g a
        have d2 := Nat.gcd_dvd_right g a
        have d3 : 0 < Nat.gcd g a := Nat.gcd_pos_of_pos_left a (by omega)
        have d4 := Nat.le_of_dvd (by omega) d1
        have : Nat.gcd g a = g := by
          by_cases e : Nat.gcd g a < g
          · exact absurd ⟨Nat.gcd g a, by omega, e, d1⟩ h
          · omega
        rw [this] at d2
        exact d2
theorem y_lc_pr {q : Nat} (hq : ∀ a b, q ∣ a * b → q ∣ a ∨ q ∣ b) {m n : Nat} (h : q ∣ y_lc m n) : q ∣ m ∨ q ∣ n := by
  unfold y_lc at h
  rcases hq _ _ h with c | c
  · left
    exact Nat.dvd_trans c (Nat.div_dvd_of_dvd (Nat.gcd_dvd_left m n))
  · exact Or.inr c
theorem y_LB_pr {σ : y_S} {b : Nat} (hb : b < 6) (w : y_WB σ) {q : Nat} (h1 : 1 < q) (hq : ∀ a b, q ∣ a * b → q ∣ a ∨ q ∣ b) : ∀ k : Nat, (k : Int) ≤ σ 13 b → q ∣ y_LB σ b k → q ≤ 1000 := by
  intro k
  induction k with
  | zero => intro _ h; have : q ≤ 1 := Nat.le_of_dvd Nat.one_pos h; omega
  | succ k ih =>
    intro hk h
    unfold y_LB at h
    rcases y_lc_pr hq h with c | c
    · exact ih (by omega) c
    · have g := ((w b hb).2.1 k (by omega)).2.2
      have := Nat.le_of_dvd (by omega) c
      omega
theorem y_LS_pr {σ : y_S} {b : Nat} (hb : b < 6) (w : y_WB σ) {q : Nat} (h1 : 1 < q) (hq : ∀ a b, q ∣ a * b → q ∣ a ∨ q ∣ b) : ∀ k : Nat, (k : Int) ≤ σ 13 b → q ∣ y_LS σ b k → q ≤ 1000 := by
  intro k
  induction k with
  | zero => intro _ h; have : q ≤ 1 := Nat.le_of_dvd Nat.one_pos h; omega
  | succ k ih =>
    intro hk h
    cases k with
    | zero => have : q ≤ 1 := Nat.le_of_dvd Nat.one_pos h; omega
    | succ k =>
      unfold y_LS at h
      rcases y_lc_pr hq h with c | c
      · exact ih (by omega) c
      · have g := (w b hb).2.2 k (by omega)
        have g1 := ((w b hb).2.1 k (by omega)).1
        have g2 := ((w b hb).2.1 (k + 1) (by omega)).1
        have := Nat.le_of_dvd (by omega) c
        omega
def y_gg (σ : y_S) (b : Nat) : Nat := Nat.gcd (y_top σ b).toNat (y_und σ b).toNat
def y_ru (σ : y_S) (b : Nat) : Nat := (y_top σ b).toNat / y_gg σ b
def y_rd (σ : y_S) (b : Nat) : Nat := (y_und σ b).toNat / y_gg σ b
theorem y_red {t u t' u' c : Nat} (hc : 0 < c) (ht : t = t' * c) (hu : u = u' * c) (hg : Nat.gcd t' u' = 1) : t' = t / Nat.gcd t u ∧ u' = u / Nat.gcd t u := by
  have : Nat.gcd t u = c := by rw [ht, hu, Nat.gcd_mul_right, hg, Nat.one_mul]
  rw [this, ht, hu, Nat.mul_div_cancel _ hc, Nat.mul_div_cancel _ hc]
  exact ⟨rfl, rfl⟩
def a_rating (σ : y_S) (b part : Int) : Int := if (0 ≤ b ∧ b < σ 0 2) ∧ (0 ≤ part ∧ part ≤ 1) then (if part = 0 then (y_ru σ b.toNat : Int) % 1000000000000000000 else (y_rd σ b.toNat : Int) % 1000000000000000000) else -1
theorem M_rating {σ : y_S} (w : y_W σ) {μ : q_M} (h : y_RM σ μ) (x1 x2 : Int32) : ∃ μ', f_X10_rating x1 x2 μ = some (lz (a_rating σ x1.toInt x2.toInt), μ') ∧ y_Sc μ μ' := by
  have w2 := w.1.2.2.1
  have e1 : (x2 < 0) = (x2.toInt < 0) := by rw [Int32.lt_iff_toInt_lt]; rfl
  have e2 : (x2 ≤ 1) = (x2.toInt ≤ 1) := by rw [Int32.le_iff_toInt_le]; rfl
  unfold f_X10_rating a_rating
  rw [k_isBridge h w2.1 w2.2, z_bd, z_if z_b0, ite_not, z_if e1, z_if e2]
  by_cases p1 : 0 ≤ x1.toInt ∧ x1.toInt < σ 0 2
  · rw [if_pos p1]
    by_cases p2 : x2.toInt < 0
    · rw [if_pos p2, if_neg (by omega)]; exact ⟨μ, rfl, y_Sc.rf⟩
    · rw [if_neg p2]
      by_cases p3 : x2.toInt ≤ 1
      · rw [if_pos p3, if_pos ⟨p1, by omega⟩]
        have hb : x1.toInt.toNat < 6 := by omega
        have ex : x1 = iz ((x1.toInt.toNat : Nat) : Int) := by rw [show ((x1.toInt.toNat : Nat) : Int) = x1.toInt by omega, z_iz]
        generalize x1.toInt.toNat = b at *
        obtain ⟨μ1, f1, s1, t1, u1⟩ := K_rate w.2.2.1 w.2.2.2.1 w.1.2.2.2.1 hb h
        have tb := y_top_b w hb
        have ub := y_und_b w hb
        have c1 : (lg_cmp (μ1.2 137 41) 0 = 0) = (y_top σ b / 1000000000000000000 = 0) := by rw [t1.1]; exact (z_c2 _ _).trans (z_eq64 (b := 0) (by omega) (by omega) (by omega) (by omega))
        have c2 : (lg_cmp (μ1.2 137 42) 0 = 0) = (y_top σ b % 1000000000000000000 = 0) := by rw [t1.2]; exact (z_c2 _ _).trans (z_eq64 (b := 0) (by omega) (by omega) (by omega) (by omega))
        rw [ex, f1, z_bd, z_if c1, z_if c2]
        have K : 1 ≤ y_top σ b → ∃ μ', L_X10_rating_51 (iz (b : Int)) x2 (fun μ => (if x2 = 0 then some ((μ.2 137 42), μ) else some ((μ.2 137 44), μ))) q_fu 2 μ1 = some (lz (if x2.toInt = 0 then (y_ru σ b : Int) % 1000000000000000000 else (y_rd σ b : Int) % 1000000000000000000), μ') ∧ y_Sc μ μ' := by
          intro pos
          obtain ⟨μ2, t', u', c, f2, s2, T2, U2, g1, g2, g3⟩ := K_r51 (iz (b : Int)) x2 (fun μ => (if x2 = 0 then some ((μ.2 137 42), μ) else some ((μ.2 137 44), μ))) 999 q_fu 2 (y_top σ b).toNat (y_und σ b).toNat μ1 (by omega) (by rw [z_fu]; omega) (by omega) (by omega) (by omega) (by omega) (by rw [Int.toNat_of_nonneg (by omega)]; exact t1) (by rw [Int.toNat_of_nonneg (by omega)]; exact u1) (fun q h1 h2 => by omega)
          have c0 : 0 < c := Nat.pos_of_ne_zero (fun q => by rw [q, Nat.mul_zero] at g1; omega)
          have t0 : 0 < t' := Nat.pos_of_ne_zero (fun q => by rw [q, Nat.zero_mul] at g1; omega)
          have gg : Nat.gcd t' u' = 1 := by
            have gp : 0 < Nat.gcd t' u' := Nat.gcd_pos_of_pos_left u' t0
            by_cases q1 : 1 < Nat.gcd t' u'
            · obtain ⟨q, a1, a2, a3⟩ := y_pr _ q1
              have d1 := Nat.dvd_trans a2 (Nat.gcd_dvd_left t' u')
              have d2 := Nat.dvd_trans a2 (Nat.gcd_dvd_right t' u')
              have d3 : q ∣ (y_und σ b).toNat := by rw [g2]; exact Nat.dvd_mul_right_of_dvd d2 _
              have eu : (y_und σ b).toNat = y_LB σ b (σ 13 b).toNat * y_LS σ b (σ 13 b).toNat := by
                unfold y_und
                rw [← Int.natCast_mul, Int.toNat_natCast]
              rw [eu] at d3
              have gb := (w.2.2.1 b hb).1
              have : q ≤ 1000 := by
                rcases a3 _ _ d3 with d | d
                · exact y_LB_pr hb w.2.2.1 a1 a3 _ (by omega) d
                · exact y_LS_pr hb w.2.2.1 a1 a3 _ (by omega) d
              exact absurd ⟨d1, d2⟩ (g3 q (by omega) this)
            · omega
          obtain ⟨r1, r2⟩ := y_red c0 g1 g2 gg
          have er : y_ru σ b = t' := r1.symm
          have ed : y_rd σ b = u' := r2.symm
          rw [er, ed]
          rw [show (2 : Int64) = lz ((2 : Nat) : Int) from rfl, f2, z_if (z_x0 x2), T2.2, U2.2]
          refine ⟨μ2, ?_, s1.tr s2⟩
          split <;> rfl
        by_cases q1 : y_top σ b / 1000000000000000000 = 0
        · rw [if_pos q1]
          by_cases q2 : y_top σ b % 1000000000000000000 = 0
          · rw [if_pos q2]
            have z0 : y_top σ b = 0 := by omega
            have er : y_ru σ b = 0 := by unfold y_ru; rw [z0]; exact Nat.zero_div _
            have ed : y_rd σ b = 1 := by
              unfold y_rd y_gg
              rw [z0, show (0 : Int).toNat = 0 from rfl, Nat.gcd_zero_left]
              exact Nat.div_self (by omega)
            refine ⟨μ1, ?_, s1⟩
            rw [er, ed, z_x64]
            congr 3
            split <;> omega
          · rw [if_neg q2]; exact K (by omega)
        · rw [if_neg q1]; exact K (by omega)
      · rw [if_neg p3, if_neg (by omega)]; exact ⟨μ, rfl, y_Sc.rf⟩
  · rw [if_neg p1, if_neg (fun q => p1 q.1)]; exact ⟨μ, rfl, y_Sc.rf⟩
