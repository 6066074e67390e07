def y_bI (b : Bool) : Int32 := if b = true then 1 else 0
theorem y_bI0 (b : Bool) : (y_bI b = 0) = (b = false) := by cases b <;> simp [y_bI]
def y_bar (f t m : Int) : Bool := if t < f then decide (f ≤ m) || decide (m ≤ t) else decide (f ≤ m) && decide (m ≤ t)
def y_bn (σ : y_S) (r : Nat) (m : Int) : Nat → Bool
  | 0 => false
  | k + 1 => y_bn σ r m k || y_bar (σ 9 (3 * r + k)) (σ 10 (3 * r + k)) m
def y_ba (σ : y_S) (r : Nat) (t : Int) : Bool := y_bn σ r (t % 1440) (σ 8 r).toNat
theorem K_bl {σ : y_S} {μ : q_M} (h : y_RM σ μ) (w1 : σ 0 1 ≤ 12) (wr : y_WR σ) (r : Nat) (hr : (r : Int) < σ 0 1) (x2 : Int32) (Kx : Int32 → q_M → Option (Int32 × q_M)) (m : Int) (hm : 0 ≤ m ∧ m < 1440) : ∀ (d n i : Nat), i + d = (σ 8 r).toNat → d < n → L_X10_isBarred_14 (iz r) x2 Kx n (iz m) (y_bI (y_bn σ r m i)) (iz (3 * r + i)) μ = Kx (y_bI (y_bn σ r m (σ 8 r).toNat)) μ := by
  have g := wr r hr
  intro d
  induction d with
  | zero =>
    intro n i hi hn
    obtain ⟨n, rfl⟩ : ∃ z, n = z + 1 := ⟨n - 1, by omega⟩
    have e : (3 * iz (r : Int) + iz (σ 8 r) ≤ iz (3 * (r : Int) + i)) = (3 * (r : Int) + σ 8 r ≤ 3 * (r : Int) + i) := by
      rw [show 3 * iz (r : Int) = iz (3 * r) from z_mul 3 r, z_add]; exact z_le32 (by omega) (by omega) (by omega) (by omega)
    rw [L_X10_isBarred_14, z_gd (z_ix (by omega) (by omega) (by omega)), z_cl (by omega) (by omega), m_hourCounts h, Int.toNat_natCast]
    simp only [e]
    rw [if_pos (by omega), show i = (σ 8 r).toNat by omega]
  | succ d ih =>
    intro n i hi hn
    obtain ⟨n, rfl⟩ : ∃ z, n = z + 1 := ⟨n - 1, by omega⟩
    have gk := g.2.2.2.2.2.2.2.2.2 i (by omega)
    have ix : q_ix (iz (3 * (r : Int) + i)) 36 = true := z_ix (by omega) (by omega) (by omega)
    have cl : (iz (3 * (r : Int) + i)).toNatClampNeg = 3 * r + i := by rw [z_cl (by omega) (by omega)]; omega
    have nx : iz (3 * (r : Int) + i) + 1 = iz (3 * r + ((i + 1 : Nat) : Int)) := by rw [z_a1]; congr 1
    have e : (3 * iz (r : Int) + iz (σ 8 r) ≤ iz (3 * (r : Int) + i)) = (3 * (r : Int) + σ 8 r ≤ 3 * (r : Int) + i) := by
      rw [show 3 * iz (r : Int) = iz (3 * r) from z_mul 3 r, z_add]; exact z_le32 (by omega) (by omega) (by omega) (by omega)
    have e2 : (iz (σ 9 (3 * r + i)) ≤ iz (σ 10 (3 * r + i))) = (σ 9 (3 * r + i) ≤ σ 10 (3 * r + i)) := z_le32 (by omega) (by omega) (by omega) (by omega)
    have e3 : (iz m < iz (σ 9 (3 * r + i))) = (m < σ 9 (3 * r + i)) := z_lt32 (by omega) (by omega) (by omega) (by omega)
    have e4 : (iz (σ 10 (3 * r + i)) < iz m) = (σ 10 (3 * r + i) < m) := z_lt32 (by omega) (by omega) (by omega) (by omega)
    have e5 : (iz (σ 9 (3 * r + i)) ≤ iz m) = (σ 9 (3 * r + i) ≤ m) := z_le32 (by omega) (by omega) (by omega) (by omega)
    rw [L_X10_isBarred_14, z_gd (z_ix (by omega) (by omega) (by omega)), z_cl (by omega) (by omega), m_hourCounts h, Int.toNat_natCast]
    simp only [e]
    rw [if_neg (by omega), z_gd ix, cl, m_hourFroms h, m_hourTos h]
    simp only [e2]
    have key : ∀ s0 : Int32, s0 = y_bI (decide (σ 10 (3 * r + i) < σ 9 (3 * r + i))) → J_X10_isBarred_51 (iz r) x2 (L_X10_isBarred_14 (iz r) x2 Kx n) Kx (iz m) (y_bI (y_bn σ r m i)) (iz (3 * r + i)) s0 μ = Kx (y_bI (y_bn σ r m (σ 8 r).toNat)) μ := by
      intro s0 hs
      have ih := ih n (i + 1) (by omega) (by omega)
      unfold J_X10_isBarred_51
      subst hs
      simp only [z_gd ix, cl, m_hourFroms h, m_hourTos h, z_le, nx, y_bI0, e3, e4, e5]
      by_cases hb : y_bn σ r m i = true
      · have e : y_bn σ r m (i + 1) = true := by simp [y_bn, hb]
        rw [e] at ih
        rw [if_neg (by simp [hb])]
        exact ih
      · have hb : y_bn σ r m i = false := by simpa using hb
        rw [if_pos hb]
        by_cases hc : σ 10 (3 * r + i) < σ 9 (3 * r + i)
        · rw [if_neg (by simp [hc])]
          have e : y_bn σ r m (i + 1) = (decide (σ 9 (3 * r + i) ≤ m) || decide (m ≤ σ 10 (3 * r + i))) := by simp [y_bn, hb, y_bar, hc]
          rw [e] at ih
          by_cases h1 : σ 9 (3 * r + i) ≤ m
          · rw [if_pos h1]; simpa [h1, y_bI] using ih
          · rw [if_neg h1]
            by_cases h2 : σ 10 (3 * r + i) < m
            · rw [if_pos h2]; simpa [h1, show ¬ m ≤ σ 10 (3 * r + i) by omega, y_bI] using ih
            · rw [if_neg h2]; simpa [h1, show m ≤ σ 10 (3 * r + i) by omega, y_bI] using ih
        · rw [if_pos (by simp [hc])]
          have e : y_bn σ r m (i + 1) = (decide (σ 9 (3 * r + i) ≤ m) && decide (m ≤ σ 10 (3 * r + i))) := by simp [y_bn, hb, y_bar, hc]
          rw [e] at ih
          by_cases h1 : m < σ 9 (3 * r + i)
          · rw [if_pos h1]; simpa [show ¬ σ 9 (3 * r + i) ≤ m by omega, y_bI] using ih
          · rw [if_neg h1]
            by_cases h2 : σ 10 (3 * r + i) < m
            · rw [if_pos h2]; simpa [show ¬ m ≤ σ 10 (3 * r + i) by omega, y_bI] using ih
            · rw [if_neg h2]; simpa [show σ 9 (3 * r + i) ≤ m by omega, show m ≤ σ 10 (3 * r + i) by omega, y_bI] using ih
    by_cases hc : σ 9 (3 * r + i) ≤ σ 10 (3 * r + i)
    · rw [if_pos hc]
      exact key 0 (by simp [y_bI, show ¬ σ 10 (3 * r + i) < σ 9 (3 * r + i) by omega])
    · rw [if_neg hc]
      exact key 1 (by simp [y_bI, show σ 10 (3 * r + i) < σ 9 (3 * r + i) by omega])
theorem K_isBarred {σ : y_S} {μ : q_M} (h : y_RM σ μ) (w1 : σ 0 1 ≤ 12) (wr : y_WR σ) (r : Nat) (hr : (r : Int) < σ 0 1) (t : Int) (ht : 0 ≤ t ∧ t < 2147483648) : f_X10_isBarred (iz r) (iz t) μ = some (y_bI (y_ba σ r t), μ) := by
  have g := wr r hr
  unfold f_X10_isBarred
  rw [z_le, z_le, show q_ri (iz t) 1440 = iz (t % 1440) from z_ri (b := 1440) ht.1 ht.2 (by omega) (by omega)]
  have := K_bl h w1 wr r hr (iz t) (fun v4 μ => q_gd (q_zb v4) (some (v4, μ))) (t % 1440) (by omega) (σ 8 r).toNat q_fu 0 (by omega) (by rw [z_fu]; omega)
  have e : iz (3 * (r : Int) + ((0 : Nat) : Int)) = 3 * iz (r : Int) := by rw [show ((0 : Nat) : Int) = 0 from rfl, Int.add_zero]; exact (z_mul 3 r).symm
  rw [e] at this
  refine Eq.trans this ?_
  unfold y_ba y_bI
  cases y_bn σ r (t % 1440) (σ 8 r).toNat <;> rfl
def y_ea (σ : y_S) (r : Nat) (t : Int) : Nat → Int → Option Int
  | 0, _ => none
  | n + 1, k => if y_ba σ r (t + k) = false then some (t + k) else y_ea σ r t n (k + 1)
def y_er (o : Option Int) (no : Int) : Int := match o with
  | none => no
  | some v => v
theorem K_el {σ : y_S} {μ : q_M} (h : y_RM σ μ) (w1 : σ 0 1 ≤ 12) (wr : y_WR σ) (r : Nat) (hr : (r : Int) < σ 0 1) (t : Int) (ht : 0 ≤ t ∧ t < 2147000000) : ∀ (d n : Nat) (k : Int), k + d = 1440 → 0 ≤ k → d < n → L_X10_earliest_2 (iz r) (iz t) (fun μ => some (-2, μ)) n (iz k) μ = some (iz (y_er (y_ea σ r t d k) (-2)), μ) := by
  intro d
  induction d with
  | zero =>
    intro n k hk h0 hn
    obtain ⟨n, rfl⟩ : ∃ z, n = z + 1 := ⟨n - 1, by omega⟩
    have e : (1440 ≤ iz k) = (1440 ≤ k) := z_le32 (a := 1440) (by omega) (by omega) (by omega) (by omega)
    rw [L_X10_earliest_2]
    simp only [e]
    rw [if_pos (by omega)]
    rfl
  | succ d ih =>
    intro n k hk h0 hn
    obtain ⟨n, rfl⟩ : ∃ z, n = z + 1 := ⟨n - 1, by omega⟩
    have e : (1440 ≤ iz k) = (1440 ≤ k) := z_le32 (a := 1440) (by omega) (by omega) (by omega) (by omega)
    rw [L_X10_earliest_2]
    simp only [e]
    rw [if_neg (by omega), z_add, K_isBarred h w1 wr r hr (t + k) (by omega), z_bd, z_a1]
    simp only [y_bI0, z_le]
    unfold y_ea
    by_cases hb : y_ba σ r (t + k) = false
    · rw [if_pos hb, if_pos hb]; rfl
    · rw [if_neg hb, if_neg hb]
      exact ih n (k + 1) (by omega) (by omega) (by omega)
theorem K_earliest {σ : y_S} {μ : q_M} (h : y_RM σ μ) (w1 : σ 0 1 ≤ 12) (wr : y_WR σ) (r : Nat) (hr : (r : Int) < σ 0 1) (t : Int) (ht : 0 ≤ t ∧ t < 2147000000) : f_X10_earliest (iz r) (iz t) μ = some (iz (y_er (y_ea σ r t 1440 0) (-2)), μ) := by
  unfold f_X10_earliest
  exact K_el h w1 wr r hr t ht 1440 q_fu 0 (by omega) (by omega) (by rw [z_fu]; omega)
