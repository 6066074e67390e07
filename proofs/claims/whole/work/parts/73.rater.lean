theorem K_cdl (x0 x2 : Int64) (Kx : Int64 → q_M → Option (Int64 × q_M)) (μ : q_M) : ∀ (k a b s n : Nat), b < 2 ^ k → a < 9000000000000000000 → b < 9000000000000000000 → s + 2 * k < 200 → 2 * k < n → L_X4_commonDivisor_9 x0 x2 Kx n (lz (a : Int)) (lz (b : Int)) (iz (s : Int)) μ = Kx (lz (Nat.gcd a b : Nat)) μ := by
  have st : ∀ (s : Nat), s < 200 → ¬ 200 ≤ iz (s : Int) := fun s hs => by
    rw [show (200 ≤ iz (s : Int)) = (200 ≤ (s : Int)) from z_le32 (a := 200) (by omega) (by omega) (by omega) (by omega)]; omega
  have z0 : ∀ b : Nat, b < 9000000000000000000 → (lg_cmp (lz (b : Int)) 0 = 0) = ((b : Int) = 0) := fun b hb => (z_c2 _ _).trans (z_eq64 (a := (b : Int)) (b := 0) (by omega) (by omega) (by omega) (by omega))
  intro k
  induction k with
  | zero =>
    intro a b s n h1 h2 h3 hs hn
    obtain ⟨n, rfl⟩ : ∃ z, n = z + 1 := ⟨n - 1, by omega⟩
    have : b = 0 := by simp at h1; exact h1
    subst this
    rw [L_X4_commonDivisor_9, if_neg (st s (by omega)), z_if (z0 0 (by omega)), if_pos (show ((0 : Nat) : Int) = 0 from rfl), Nat.gcd_zero_right]
  | succ k ih =>
    intro a b s n h1 h2 h3 hs hn
    obtain ⟨n, rfl⟩ : ∃ z, n = z + 1 := ⟨n - 1, by omega⟩
    rw [L_X4_commonDivisor_9, if_neg (st s (by omega)), z_if (z0 b h3)]
    by_cases c0 : b = 0
    · rw [if_pos (by omega), c0, Nat.gcd_zero_right]
    · have ml := Nat.mod_lt a (show 0 < b by omega)
      rw [if_neg (by omega), z_gd (decide_eq_true (z_n0 (by omega) (by omega))), z_le, z_le, z_rl (by omega) (by omega) (by omega) (by omega), ← Int.natCast_emod, z_a1]
      obtain ⟨n, rfl⟩ : ∃ z, n = z + 1 := ⟨n - 1, by omega⟩
      have eg : Nat.gcd a b = Nat.gcd b (a % b) := by rw [Nat.gcd_comm a b, Nat.gcd_rec b a, Nat.gcd_comm]
      have this : ¬ 200 ≤ iz ((s : Int) + 1) := st (s + 1) (by omega)
      rw [L_X4_commonDivisor_9, if_neg this, z_if (z0 (a % b) (by omega)), eg]
      generalize a % b = r at *
      by_cases c1 : r = 0
      · rw [if_pos (by omega), c1, Nat.gcd_zero_right]
      · have ml2 := Nat.mod_lt b (show 0 < r by omega)
        have dv : r ≤ b / r * r := Nat.le_mul_of_pos_left r (Nat.div_pos (by omega) (by omega))
        have dm := Nat.div_add_mod b r
        rw [Nat.mul_comm] at dm
        rw [if_neg (by omega), z_gd (decide_eq_true (z_n0 (by omega) (by omega))), z_le, z_le, z_rl (by omega) (by omega) (by omega) (by omega), ← Int.natCast_emod, z_a1]
        have eg2 : Nat.gcd b r = Nat.gcd r (b % r) := by rw [Nat.gcd_comm b r, Nat.gcd_rec r b, Nat.gcd_comm]
        rw [eg2]
        have p2 : 2 ^ (k + 1) = 2 ^ k * 2 := Nat.pow_succ 2 k
        have := ih r (b % r) (s + 2) n (by omega) (by omega) (by omega) (by omega) (by omega)
        exact this
theorem K_commonDivisor {a b : Nat} (ha : 1 ≤ a) (ha2 : a < 9000000000000000000) (hb : b ≤ 1000000000000000000) (μ : q_M) : f_X4_commonDivisor (lz (a : Int)) (lz (b : Int)) μ = some (lz (Nat.gcd a b : Nat), μ) := by
  unfold f_X4_commonDivisor
  have := K_cdl (lz (a : Int)) (lz (b : Int)) (fun v4 μ => some ((if v4 < (1 : Int64) then (1 : Int64) else v4), μ)) μ 60 a b 0 q_fu (Nat.lt_of_le_of_lt hb (by decide)) ha2 (by omega) (by omega) (by rw [z_fu]; omega)
  refine Eq.trans this ?_
  have g1 : 0 < Nat.gcd a b := Nat.gcd_pos_of_pos_left b (by omega)
  have g2 : Nat.gcd a b ≤ a := Nat.le_of_dvd (by omega) (Nat.gcd_dvd_left a b)
  have e : (lz ((Nat.gcd a b : Nat) : Int) < (1 : Int64)) = (((Nat.gcd a b : Nat) : Int) < 1) := z_lt64 (b := 1) (by omega) (by omega) (by omega) (by omega)
  rw [z_if e, if_neg (by omega)]
theorem K_quotient {a b : Nat} (ha : a < 9000000000000000000) (hb : 1 ≤ b) (hb2 : b < 9000000000000000000) (μ : q_M) : f_X4_quotient (lz (a : Int)) (lz (b : Int)) μ = some (lz ((a / b : Nat) : Int), μ) := by
  unfold f_X4_quotient
  rw [if_pos (z_g1 hb (by omega)), z_gd (decide_eq_true (z_n0 (by omega) (by omega))), z_divL (by omega) (by omega) (by omega) (by omega), ← Int.natCast_ediv]
theorem d_at {σ : y_S} {μ : q_M} (h : y_RD σ μ) {b k : Nat} (hb : b < 6) (hk : k < 6) : μ.2 (50 + b + 6) k = lz (σ 14 (6 * b + k)) := by
  have := h.2 14 (6 * b + k) (by simp [c_doL]; omega)
  simp only [c_cl, if_true] at this
  rw [← this, show 56 + (6 * b + k) / 6 = 50 + b + 6 by omega, show (6 * b + k) % 6 = k by omega]
theorem d_above {σ : y_S} {μ : q_M} (h : y_RD σ μ) {b k : Nat} (hb : b < 6) (hk : k < 6) : μ.2 (50 + b + 12) k = lz (σ 15 (6 * b + k)) := by
  have := h.2 15 (6 * b + k) (by simp [c_doL]; omega)
  simp only [c_cl, show ¬ (15 : Nat) = 14 by decide, if_false, if_true] at this
  rw [← this, show 62 + (6 * b + k) / 6 = 50 + b + 12 by omega, show (6 * b + k) % 6 = k by omega]
theorem d_below {σ : y_S} {μ : q_M} (h : y_RD σ μ) {b k : Nat} (hb : b < 6) (hk : k < 6) : μ.2 (50 + b + 18) k = lz (σ 16 (6 * b + k)) := by
  have := h.2 16 (6 * b + k) (by simp [c_doL]; omega)
  simp only [c_cl, show ¬ (16 : Nat) = 14 by decide, show ¬ (16 : Nat) = 15 by decide, if_false, if_true] at this
  rw [← this, show 68 + (6 * b + k) / 6 = 50 + b + 18 by omega, show (6 * b + k) % 6 = k by omega]
def y_Fx (S : Nat → Prop) (μ μ' : q_M) : Prop := μ'.1 = μ.1 ∧ ∀ a, ¬ S a → μ'.2 a = μ.2 a
theorem y_Fx.rf {S : Nat → Prop} {μ : q_M} : y_Fx S μ μ := ⟨rfl, fun _ _ => rfl⟩
theorem y_Fx.tr {S : Nat → Prop} {μ μ1 μ2 : q_M} (h : y_Fx S μ μ1) (g : y_Fx S μ1 μ2) : y_Fx S μ μ2 := ⟨g.1.trans h.1, fun a ha => (g.2 a ha).trans (h.2 a ha)⟩
theorem y_Fx.mono {S T : Nat → Prop} {μ μ' : q_M} (h : y_Fx S μ μ') (hs : ∀ a, S a → T a) : y_Fx T μ μ' := ⟨h.1, fun a ha => h.2 a (fun q => ha (hs a q))⟩
theorem y_Fx.sl {S : Nat → Prop} {μ μ1 : q_M} {a i : Nat} {x : Int64} (h : y_Fx S μ μ1) (ha : S a) : y_Fx S μ (q_sl μ1 a i x) := ⟨h.1, fun k hk => (q_sl_row (fun e => hk (by rw [e]; exact ha))).trans (h.2 k hk)⟩
theorem y_Fw.Fx {k : Nat} {S : Nat → Prop} {μ μ' : q_M} (h : y_Fw k μ μ') (hs : S (k + 16)) : y_Fx S μ μ' := ⟨h.1, fun a ha => h.2 a (fun e => ha (by rw [e]; exact hs))⟩
def y_cl (a : Nat) : Prop := a = 9 ∨ a = 10 ∨ (56 ≤ a ∧ a < 74)
theorem y_Fx.RD {S : Nat → Prop} {σ : y_S} {μ μ' : q_M} (h : y_Fx S μ μ') (hs : ∀ a, S a → ¬ y_cl a) (r : y_RD σ μ) : y_RD σ μ' := by
  refine ⟨fun c j hd => by rw [h.1]; exact r.1 c j hd, fun c j hd => ?_⟩
  rw [h.2 _ (fun q => hs _ q ?_)]
  · exact r.2 c j hd
  · have := c_doL_lt hd
    have : ∀ c, c < 22 → ∀ j, j < 50 → c_doL c j = true → (c_cl c j).1 = 9 ∨ (c_cl c j).1 = 10 ∨ (56 ≤ (c_cl c j).1 ∧ (c_cl c j).1 < 74) := by decide +kernel
    exact this c (c_doL_lt hd).1 j (c_doL_lt hd).2 hd
theorem y_Fx.Wd {S : Nat → Prop} {m V : Nat} {μ μ' : q_M} (h : y_Fx S μ μ') (hm : ¬ S (m + 16)) (g : y_Wd μ m V) : y_Wd μ' m V := ⟨fun j hj => by rw [h.2 (m + 16) hm]; exact g.1 j hj, g.2⟩
def y_gp (σ : y_S) (b c : Nat) : Nat := if (c : Int) + 1 < σ 13 b then (σ 14 (6 * b + (c + 1)) - σ 14 (6 * b + c)).toNat else 1
theorem y_gp_b {σ : y_S} {b : Nat} (hb : b < 6) (w : y_WB σ) (c : Nat) : 1 ≤ y_gp σ b c ∧ y_gp σ b c ≤ 60 := by
  unfold y_gp
  by_cases e : (c : Int) + 1 < σ 13 b
  · rw [if_pos e]
    have g := (w b hb).2.2 c e
    have g1 := ((w b hb).2.1 c (by omega)).1
    have g2 := ((w b hb).2.1 (c + 1) (by omega)).1
    omega
  · rw [if_neg e]; omega
theorem K_gapBehind {σ : y_S} {b : Nat} (hb : b < 6) (w : y_WB σ) {μ : q_M} (h : y_RD σ μ) {c : Nat} (hc : (c : Int) < σ 13 b) : f_X0_gapBehind (50 + b) (iz (c : Int)) μ = some (lz (y_gp σ b c : Nat), μ) := by
  have gb := (w b hb).1
  unfold f_X0_gapBehind y_gp
  rw [z_if (z_lt0 (by omega) (by omega)), if_neg (by omega), d_cornerCounts h hb, z_a1, z_if (z_le32 (by omega) (by omega) (by omega) (by omega))]
  by_cases e : (c : Int) + 1 < σ 13 b
  · have g := (w b hb).2.2 c e
    rw [if_neg (by omega), if_pos e, z_gd (z_ix (by omega) (by omega) (by omega)), z_gd (z_ix (by omega) (by omega) (by omega)), z_cl (by omega) (by omega), z_cl (by omega) (by omega), show ((c : Int) + 1).toNat = c + 1 by omega, Int.toNat_natCast, d_at h hb (by omega), d_at h hb (by omega), z_subL]
    congr 3; omega
  · rw [if_pos (by omega), if_neg e]; rfl
def y_vf (σ : y_S) (b k : Nat) : Nat := (σ 16 (6 * b + k)).toNat / Nat.gcd (σ 16 (6 * b + k)).toNat (y_LB σ b k)
def y_GS (σ : y_S) (b k : Nat) : Nat := if (k : Int) < σ 13 b then y_LS σ b (k + 1) else y_LS σ b k
def y_gf (σ : y_S) (b k : Nat) : Nat := y_gp σ b k / Nat.gcd (y_gp σ b k) (y_GS σ b k)
theorem y_lc_eq (m n : Nat) : y_lc m n = m * (n / Nat.gcd n m) := by
  unfold y_lc
  rw [Nat.gcd_comm n m]
  obtain ⟨x, hx⟩ := Nat.gcd_dvd_left m n
  obtain ⟨y, hy⟩ := Nat.gcd_dvd_right m n
  generalize Nat.gcd m n = g at *
  subst hx
  subst hy
  by_cases c : g = 0
  · subst c; simp
  · rw [Nat.mul_div_cancel_left _ (by omega), Nat.mul_div_cancel_left _ (by omega), Nat.mul_left_comm, Nat.mul_assoc]
theorem y_LB_s (σ : y_S) (b k : Nat) : y_LB σ b (k + 1) = y_LB σ b k * y_vf σ b k := by
  conv => lhs; unfold y_LB
  rw [y_lc_eq]; rfl
theorem y_GS_s {σ : y_S} {b k : Nat} (hk : (k : Int) < σ 13 b) : y_GS σ b (k + 1) = y_GS σ b k * y_gf σ b k := by
  unfold y_gf
  by_cases c : (k : Int) + 1 < σ 13 b
  · have e1 : y_GS σ b (k + 1) = y_lc (y_LS σ b (k + 1)) (σ 14 (6 * b + (k + 1)) - σ 14 (6 * b + k)).toNat := by
      unfold y_GS
      rw [if_pos (by omega)]
      rfl
    have e2 : y_GS σ b k = y_LS σ b (k + 1) := by unfold y_GS; rw [if_pos hk]
    have e3 : y_gp σ b k = (σ 14 (6 * b + (k + 1)) - σ 14 (6 * b + k)).toNat := by unfold y_gp; rw [if_pos c]
    rw [e1, e2, e3, y_lc_eq]
  · have e1 : y_GS σ b (k + 1) = y_LS σ b (k + 1) := by unfold y_GS; rw [if_neg (by omega)]
    have e2 : y_GS σ b k = y_LS σ b (k + 1) := by unfold y_GS; rw [if_pos hk]
    have e3 : y_gp σ b k = 1 := by unfold y_gp; rw [if_neg c]
    rw [e1, e2, e3, Nat.gcd_one_left, Nat.div_self (by decide), Nat.mul_one]
theorem y_GS_0 (σ : y_S) (b : Nat) : y_GS σ b 0 = 1 := by
  unfold y_GS
  split <;> rfl
theorem y_GS_e {σ : y_S} {b : Nat} (h : 0 ≤ σ 13 b) : y_GS σ b (σ 13 b).toNat = y_LS σ b (σ 13 b).toNat := by
  unfold y_GS
  rw [if_neg (by omega)]
theorem y_GS_m {σ : y_S} {b : Nat} (hb : b < 6) (w : y_WB σ) {k : Nat} (hk : (k : Int) ≤ σ 13 b) : 0 < y_GS σ b k ∧ y_GS σ b k ≤ 777600000 := by
  unfold y_GS
  by_cases c : (k : Int) < σ 13 b
  · rw [if_pos c]; exact y_LS_m hb w (by omega)
  · rw [if_neg c]; exact y_LS_m hb w hk
def y_Sf (a : Nat) : Prop := a = 4 ∨ a = 12 ∨ a = 13
def y_Rt (σ : y_S) (b i : Nat) (μ : q_M) : Prop := μ.2 4 6 = lz ((y_LB σ b i : Nat) : Int) ∧ μ.2 4 7 = lz ((y_GS σ b i : Nat) : Int) ∧ ∀ k, k < i → μ.2 12 k = lz ((y_vf σ b k : Nat) : Int) ∧ μ.2 13 k = lz ((y_gf σ b k : Nat) : Int)
theorem K_fsl {σ : y_S} {b : Nat} (hb : b < 6) (w : y_WB σ) (Kx : q_M → Option (Unit × q_M)) : ∀ (d n i : Nat) (μ : q_M), i + d = (σ 13 b).toNat → d < n → y_RD σ μ → y_Rt σ b i μ → ∃ μ', L_X4_findScales_12 (50 + b) Kx n (iz (i : Int)) μ = Kx μ' ∧ y_Rt σ b (σ 13 b).toNat μ' ∧ y_Fx y_Sf μ μ' := by
  have gb := (w b hb).1
  intro d
  induction d with
  | zero =>
    intro n i μ hi hn h hr
    obtain ⟨n, rfl⟩ : ∃ z, n = z + 1 := ⟨n - 1, by omega⟩
    rw [L_X4_findScales_12, d_cornerCounts h hb, z_if (z_le32 (by omega) (by omega) (by omega) (by omega)), if_pos (by omega)]
    exact ⟨μ, rfl, by rw [← hi]; exact hr, y_Fx.rf⟩
  | succ d ih =>
    intro n i μ hi hn h hr
    obtain ⟨n, rfl⟩ : ∃ z, n = z + 1 := ⟨n - 1, by omega⟩
    have hc : (i : Int) < σ 13 b := by omega
    have gk := ((w b hb).2.1 i hc).2.2
    have eb : σ 16 (6 * b + i) = (((σ 16 (6 * b + i)).toNat : Nat) : Int) := by omega
    have cl : (iz (i : Int)).toNatClampNeg = i := by rw [z_cl (by omega) (by omega)]; omega
    obtain ⟨b0, b1⟩ := y_LB_m hb w (k := i) (by omega)
    obtain ⟨b2, b3⟩ := y_LB_m hb w (k := i + 1) (by omega)
    obtain ⟨g0, g1⟩ := y_GS_m hb w (k := i) (by omega)
    obtain ⟨g2, g3⟩ := y_GS_m hb w (k := i + 1) (by omega)
    have gp := y_gp_b hb w i
    have bl := y_LB_s σ b i
    have gl := y_GS_s hc
    have q1 : 0 < Nat.gcd (σ 16 (6 * b + i)).toNat (y_LB σ b i) := Nat.gcd_pos_of_pos_left _ (by omega)
    have q2 : Nat.gcd (σ 16 (6 * b + i)).toNat (y_LB σ b i) ≤ (σ 16 (6 * b + i)).toNat := Nat.le_of_dvd (by omega) (Nat.gcd_dvd_left _ _)
    have q3 : 0 < Nat.gcd (y_gp σ b i) (y_GS σ b i) := Nat.gcd_pos_of_pos_left _ (by omega)
    have q4 : Nat.gcd (y_gp σ b i) (y_GS σ b i) ≤ y_gp σ b i := Nat.le_of_dvd (by omega) (Nat.gcd_dvd_left _ _)
    rw [L_X4_findScales_12, d_cornerCounts h hb, z_if (z_le32 (by omega) (by omega) (by omega) (by omega)), if_neg (by omega), z_gd (z_ix (by omega) (by omega) (by omega)), cl, d_below h hb (by omega), hr.1, eb, K_commonDivisor (by omega) (by omega) b1, z_bd, K_quotient (by omega) q1 (by omega), z_bd]
    rw [show (σ 16 (6 * b + i)).toNat / Nat.gcd (σ 16 (6 * b + i)).toNat (y_LB σ b i) = y_vf σ b i from rfl]
    have nS : ∀ a, y_Sf a → ¬ y_cl a := by intro a ha hc; unfold y_Sf at ha; unfold y_cl at hc; omega
    have e6 : (q_sl μ 12 i (lz ((y_vf σ b i : Nat) : Int))).2 4 6 * (q_sl μ 12 i (lz ((y_vf σ b i : Nat) : Int))).2 12 i = lz ((y_LB σ b (i + 1) : Nat) : Int) := by
      simp only [z_sl2, Nat.reduceEqDiff, false_and, if_false, and_self, if_true]
      rw [hr.1, z_mulL, ← Int.natCast_mul, ← bl]
    simp only [z_le, e6, z_a1]
    have F2 : y_Fx y_Sf μ (q_sl (q_sl μ 12 i (lz ((y_vf σ b i : Nat) : Int))) 4 6 (lz ((y_LB σ b (i + 1) : Nat) : Int))) := (y_Fx.rf.sl (Or.inr (Or.inl rfl))).sl (Or.inl rfl)
    have m6 : (q_sl (q_sl μ 12 i (lz ((y_vf σ b i : Nat) : Int))) 4 6 (lz ((y_LB σ b (i + 1) : Nat) : Int))).2 4 6 = lz ((y_LB σ b (i + 1) : Nat) : Int) := by
      rw [z_sl2, if_pos ⟨rfl, rfl⟩]
    have m7 : (q_sl (q_sl μ 12 i (lz ((y_vf σ b i : Nat) : Int))) 4 6 (lz ((y_LB σ b (i + 1) : Nat) : Int))).2 4 7 = lz ((y_GS σ b i : Nat) : Int) := by
      rw [z_sl2, if_neg (by omega), z_sl2, if_neg (by omega)]; exact hr.2.1
    have m12 : ∀ k, k < i + 1 → (q_sl (q_sl μ 12 i (lz ((y_vf σ b i : Nat) : Int))) 4 6 (lz ((y_LB σ b (i + 1) : Nat) : Int))).2 12 k = lz ((y_vf σ b k : Nat) : Int) := by
      intro k hk
      rw [z_sl2, if_neg (by omega), z_sl2]
      by_cases e : k = i
      · rw [if_pos ⟨rfl, e⟩, e]
      · rw [if_neg (fun q => e q.2)]; exact (hr.2.2 k (by omega)).1
    have m13 : ∀ k, k < i → (q_sl (q_sl μ 12 i (lz ((y_vf σ b i : Nat) : Int))) 4 6 (lz ((y_LB σ b (i + 1) : Nat) : Int))).2 13 k = lz ((y_gf σ b k : Nat) : Int) := by
      intro k hk
      rw [z_sl2, if_neg (by omega), z_sl2, if_neg (by omega)]; exact (hr.2.2 k (by omega)).2
    generalize q_sl (q_sl μ 12 i (lz ((y_vf σ b i : Nat) : Int))) 4 6 (lz ((y_LB σ b (i + 1) : Nat) : Int)) = M at *
    have h2 := F2.RD nS h
    rw [K_gapBehind hb w h2 hc, z_bd, m7, K_commonDivisor (by omega) (by omega) (by omega), z_bd, K_quotient (by omega) q3 (by omega), z_bd]
    rw [show y_gp σ b i / Nat.gcd (y_gp σ b i) (y_GS σ b i) = y_gf σ b i from rfl]
    have e8 : (q_sl M 13 i (lz ((y_gf σ b i : Nat) : Int))).2 4 7 * (q_sl M 13 i (lz ((y_gf σ b i : Nat) : Int))).2 13 i = lz ((y_GS σ b (i + 1) : Nat) : Int) := by
      simp only [z_sl2, Nat.reduceEqDiff, false_and, if_false, and_self, if_true]
      rw [m7, z_mulL, ← Int.natCast_mul, ← gl]
    rw [e8]
    have F4 : y_Fx y_Sf μ (q_sl (q_sl M 13 i (lz ((y_gf σ b i : Nat) : Int))) 4 7 (lz ((y_GS σ b (i + 1) : Nat) : Int))) := (F2.sl (Or.inr (Or.inr rfl))).sl (Or.inl rfl)
    obtain ⟨μ', f, a, F⟩ := ih n (i + 1) (q_sl (q_sl M 13 i (lz ((y_gf σ b i : Nat) : Int))) 4 7 (lz ((y_GS σ b (i + 1) : Nat) : Int))) (by omega) (by omega) (F4.RD nS h) ⟨by
      rw [z_sl2, if_neg (by omega), z_sl2, if_neg (by omega)]; exact m6, by
      rw [z_sl2, if_pos ⟨rfl, rfl⟩], fun k hk => ⟨by
      rw [z_sl2, if_neg (by omega), z_sl2, if_neg (by omega)]; exact m12 k hk, by
      rw [z_sl2, if_neg (by omega), z_sl2]
      by_cases e : k = i
      · rw [if_pos ⟨rfl, e⟩, e]
      · rw [if_neg (fun q => e q.2)]; exact m13 k (by omega)⟩⟩
    exact ⟨μ', f, a, F4.tr F⟩
theorem K_findScales {σ : y_S} {b : Nat} (hb : b < 6) (w : y_WB σ) {μ : q_M} (h : y_RD σ μ) : ∃ μ', f_X4_findScales (50 + b) μ = some ((), μ') ∧ y_Rt σ b (σ 13 b).toNat μ' ∧ y_Fx y_Sf μ μ' := by
  have gb := (w b hb).1
  have nS : ∀ a, y_Sf a → ¬ y_cl a := by intro a ha hc; unfold y_Sf at ha; unfold y_cl at hc; omega
  unfold f_X4_findScales
  rw [z_le, z_le]
  have F0 : y_Fx y_Sf μ (q_sl (q_sl μ 4 6 1) 4 7 1) := (y_Fx.rf.sl (Or.inl rfl)).sl (Or.inl rfl)
  obtain ⟨μ', f, a, F⟩ := K_fsl hb w (fun μ => some ((), μ)) (σ 13 b).toNat q_fu 0 (q_sl (q_sl μ 4 6 1) 4 7 1) (by omega) (by rw [z_fu]; omega) (F0.RD nS h) ⟨by
    rw [z_sl2, if_neg (by omega), z_sl2, if_pos ⟨rfl, rfl⟩]; rfl, by
    rw [z_sl2, if_pos ⟨rfl, rfl⟩, y_GS_0]; rfl, fun k hk => by omega⟩
  exact ⟨μ', f, a, F0.tr F⟩
