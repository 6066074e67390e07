def c_dom (c j : Nat) : Bool := if c = 0 then decide (j < 12) else if c ≤ 6 then decide (j < 12) else if c = 8 then decide (j < 12) else if c = 9 then decide (j < 36) else if c = 10 then decide (j < 36) else if c = 12 then decide (j < 6) else if c = 13 then decide (j < 6) else if c = 21 then decide (j < 50) else false
def c_ca (c j : Nat) : Nat × Nat := if c = 0 then (([1, 1, 1, 3, 3, 3, 2, 2, 2, 2, 2, 0] : List Nat).getD j 0, ([0, 1, 2, 2, 0, 1, 5, 6, 7, 8, 9, 3] : List Nat).getD j 0) else if c ≤ 6 then (14 + j, c - 1) else if c = 8 then (14 + j, 8) else if c = 9 then (26 + j / 3, j % 3) else if c = 10 then (38 + j / 3, j % 3) else if c = 12 then (50 + j, 0) else if c = 13 then (50 + j, 1) else (5, j)
def c_cb (a i : Nat) : Nat × Nat := if a = 1 then (0, i) else if a = 3 then (0, ([4, 5, 3] : List Nat).getD i 0) else if a = 2 then (0, i + 1) else if a = 0 then (0, 11) else if a = 5 then (21, i) else if a < 26 then (if i = 8 then (8, a - 14) else (i + 1, a - 14)) else if a < 38 then (9, 3 * (a - 26) + i) else if a < 50 then (10, 3 * (a - 38) + i) else if i = 0 then (12, a - 50) else (13, a - 50)
theorem c_inv : ∀ c, c < 22 → ∀ j, j < 50 → c_dom c j = true → c_cb (c_ca c j).1 (c_ca c j).2 = (c, j) := by decide +kernel
theorem c_dom_lt {c j : Nat} (h : c_dom c j = true) : c < 22 ∧ j < 50 := by
  unfold c_dom at h
  by_cases h0 : c = 0
  · simp [h0] at h; omega
  · by_cases h1 : c ≤ 6
    · simp [h0, h1] at h; omega
    · by_cases h2 : c = 8
      · simp [h2] at h; omega
      · by_cases h3 : c = 9
        · simp [h3] at h; omega
        · by_cases h4 : c = 10
          · simp [h4] at h; omega
          · by_cases h5 : c = 12
            · simp [h5] at h; omega
            · by_cases h6 : c = 13
              · simp [h6] at h; omega
              · by_cases h7 : c = 21
                · simp [h7] at h; omega
                · simp [h0, h1, h2, h3, h4, h5, h6, h7] at h
theorem c_inj {c j d k : Nat} (h1 : c_dom c j = true) (h2 : c_dom d k = true) (e : c_ca c j = c_ca d k) : c = d ∧ j = k := by
  have a := c_inv c (c_dom_lt h1).1 j (c_dom_lt h1).2 h1
  have b := c_inv d (c_dom_lt h2).1 k (c_dom_lt h2).2 h2
  rw [e, b] at a
  cases a
  exact ⟨rfl, rfl⟩
def c_doL (c j : Nat) : Bool := if c = 14 then decide (j < 36) else if c = 15 then decide (j < 36) else if c = 16 then decide (j < 36) else if c = 17 then decide (j < 5) else if c = 18 then decide (j < 5) else false
def c_cl (c j : Nat) : Nat × Nat := if c = 14 then (56 + j / 6, j % 6) else if c = 15 then (62 + j / 6, j % 6) else if c = 16 then (68 + j / 6, j % 6) else if c = 17 then (9, j) else (10, j)
def c_cd (a i : Nat) : Nat × Nat := if a = 9 then (17, i) else if a = 10 then (18, i) else if a < 62 then (14, 6 * (a - 56) + i) else if a < 68 then (15, 6 * (a - 62) + i) else (16, 6 * (a - 68) + i)
theorem c_invL : ∀ c, c < 22 → ∀ j, j < 50 → c_doL c j = true → c_cd (c_cl c j).1 (c_cl c j).2 = (c, j) := by decide +kernel
theorem c_doL_lt {c j : Nat} (h : c_doL c j = true) : c < 22 ∧ j < 50 := by
  unfold c_doL at h
  by_cases h0 : c = 14
  · simp [h0] at h; omega
  · by_cases h1 : c = 15
    · simp [h1] at h; omega
    · by_cases h2 : c = 16
      · simp [h2] at h; omega
      · by_cases h3 : c = 17
        · simp [h3] at h; omega
        · by_cases h4 : c = 18
          · simp [h4] at h; omega
          · simp [h0, h1, h2, h3, h4] at h
theorem c_injL {c j d k : Nat} (h1 : c_doL c j = true) (h2 : c_doL d k = true) (e : c_cl c j = c_cl d k) : c = d ∧ j = k := by
  have a := c_invL c (c_doL_lt h1).1 j (c_doL_lt h1).2 h1
  have b := c_invL d (c_doL_lt h2).1 k (c_doL_lt h2).2 h2
  rw [e, b] at a
  cases a
  exact ⟨rfl, rfl⟩
def y_RD (σ : y_S) (μ : q_M) : Prop := (∀ c j, c_dom c j = true → μ.1 (c_ca c j).1 (c_ca c j).2 = iz (σ c j)) ∧ ∀ c j, c_doL c j = true → μ.2 (c_cl c j).1 (c_cl c j).2 = lz (σ c j)
theorem y_RD.set {σ : y_S} {μ : q_M} {c j a i : Nat} {v : Int} {x : Int32} (h : y_RD σ μ) (hd : c_dom c j = true) (ha : c_ca c j = (a, i)) (hx : x = iz v) (hL : c_doL c j = false) : y_RD (y_up σ c j v) (q_si μ a i x) := by
  subst hx
  refine ⟨fun d k hk => ?_, fun d k hk => ?_⟩
  · rw [z_si1]
    by_cases e : d = c ∧ k = j
    · obtain ⟨rfl, rfl⟩ := e
      rw [ha]; simp [y_up]
    · rw [if_neg, h.1 d k hk]
      · simp [y_up, e]
      · intro q
        exact e (c_inj hk hd (by rw [ha]; exact Prod.ext q.1 q.2))
  · rw [z_si2, h.2 d k hk]
    by_cases e : d = c ∧ k = j
    · obtain ⟨rfl, rfl⟩ := e
      rw [hk] at hL; cases hL
    · simp [y_up, e]
theorem y_RD.setL {σ : y_S} {μ : q_M} {c j a i : Nat} {v : Int} {x : Int64} (h : y_RD σ μ) (hd : c_doL c j = true) (ha : c_cl c j = (a, i)) (hx : x = lz v) (hL : c_dom c j = false) : y_RD (y_up σ c j v) (q_sl μ a i x) := by
  subst hx
  refine ⟨fun d k hk => ?_, fun d k hk => ?_⟩
  · rw [z_sl1, h.1 d k hk]
    by_cases e : d = c ∧ k = j
    · obtain ⟨rfl, rfl⟩ := e
      rw [hk] at hL; cases hL
    · simp [y_up, e]
  · rw [z_sl2]
    by_cases e : d = c ∧ k = j
    · obtain ⟨rfl, rfl⟩ := e
      rw [ha]; simp [y_up]
    · rw [if_neg, h.2 d k hk]
      · simp [y_up, e]
      · intro q
        exact e (c_injL hk hd (by rw [ha]; exact Prod.ext q.1 q.2))
def y_Fc (μ μ' : q_M) : Prop := ∀ a, 137 ≤ a → μ'.1 a = μ.1 a ∧ μ'.2 a = μ.2 a
theorem y_Fc.rf {μ : q_M} : y_Fc μ μ := fun _ _ => ⟨rfl, rfl⟩
theorem y_Fc.tr {μ μ1 μ2 : q_M} (h : y_Fc μ μ1) (g : y_Fc μ1 μ2) : y_Fc μ μ2 := fun a ha => ⟨(g a ha).1.trans (h a ha).1, (g a ha).2.trans (h a ha).2⟩
theorem y_Fc.si {μ μ1 : q_M} {a i : Nat} {x : Int32} (h : y_Fc μ μ1) (ha : a < 137) : y_Fc μ (q_si μ1 a i x) := fun k hk => ⟨(q_si_row (by omega)).trans (h k hk).1, (h k hk).2⟩
theorem y_Fc.sl {μ μ1 : q_M} {a i : Nat} {x : Int64} (h : y_Fc μ μ1) (ha : a < 137) : y_Fc μ (q_sl μ1 a i x) := fun k hk => ⟨(h k hk).1, (q_sl_row (by omega)).trans (h k hk).2⟩
theorem d_nodes {σ : y_S} {μ : q_M} (h : y_RD σ μ) : μ.1 1 0 = iz (σ 0 0) := h.1 0 0 (by decide)
theorem d_roads {σ : y_S} {μ : q_M} (h : y_RD σ μ) : μ.1 1 1 = iz (σ 0 1) := h.1 0 1 (by decide)
theorem d_bridges {σ : y_S} {μ : q_M} (h : y_RD σ μ) : μ.1 1 2 = iz (σ 0 2) := h.1 0 2 (by decide)
theorem d_axles {σ : y_S} {μ : q_M} (h : y_RD σ μ) : μ.1 3 2 = iz (σ 0 3) := h.1 0 3 (by decide)
theorem d_height {σ : y_S} {μ : q_M} (h : y_RD σ μ) : μ.1 3 0 = iz (σ 0 4) := h.1 0 4 (by decide)
theorem d_width {σ : y_S} {μ : q_M} (h : y_RD σ μ) : μ.1 3 1 = iz (σ 0 5) := h.1 0 5 (by decide)
theorem d_found {σ : y_S} {μ : q_M} (h : y_RD σ μ) : μ.1 2 5 = iz (σ 0 6) := h.1 0 6 (by decide)
theorem d_isRun {σ : y_S} {μ : q_M} (h : y_RD σ μ) : μ.1 2 6 = iz (σ 0 7) := h.1 0 7 (by decide)
theorem d_from {σ : y_S} {μ : q_M} (h : y_RD σ μ) : μ.1 2 7 = iz (σ 0 8) := h.1 0 8 (by decide)
theorem d_to {σ : y_S} {μ : q_M} (h : y_RD σ μ) : μ.1 2 8 = iz (σ 0 9) := h.1 0 9 (by decide)
theorem d_minute {σ : y_S} {μ : q_M} (h : y_RD σ μ) : μ.1 2 9 = iz (σ 0 10) := h.1 0 10 (by decide)
theorem d_records {σ : y_S} {μ : q_M} (h : y_RD σ μ) : μ.1 0 3 = iz (σ 0 11) := h.1 0 11 (by decide)
theorem d_as {σ : y_S} {μ : q_M} (h : y_RD σ μ) {r : Nat} (hr : r < 12) : μ.1 (14 + r) 0 = iz (σ 1 r) := h.1 1 r (by simp [c_dom, hr])
theorem d_bs {σ : y_S} {μ : q_M} (h : y_RD σ μ) {r : Nat} (hr : r < 12) : μ.1 (14 + r) 1 = iz (σ 2 r) := h.1 2 r (by simp [c_dom, hr])
theorem d_minutes {σ : y_S} {μ : q_M} (h : y_RD σ μ) {r : Nat} (hr : r < 12) : μ.1 (14 + r) 2 = iz (σ 3 r) := h.1 3 r (by simp [c_dom, hr])
theorem d_heights {σ : y_S} {μ : q_M} (h : y_RD σ μ) {r : Nat} (hr : r < 12) : μ.1 (14 + r) 3 = iz (σ 4 r) := h.1 4 r (by simp [c_dom, hr])
theorem d_widths {σ : y_S} {μ : q_M} (h : y_RD σ μ) {r : Nat} (hr : r < 12) : μ.1 (14 + r) 4 = iz (σ 5 r) := h.1 5 r (by simp [c_dom, hr])
theorem d_opens {σ : y_S} {μ : q_M} (h : y_RD σ μ) {r : Nat} (hr : r < 12) : μ.1 (14 + r) 5 = iz (σ 6 r) := h.1 6 r (by simp [c_dom, hr])
theorem d_hourCounts {σ : y_S} {μ : q_M} (h : y_RD σ μ) {r : Nat} (hr : r < 12) : μ.1 (14 + r) 8 = iz (σ 8 r) := h.1 8 r (by simp [c_dom, hr])
theorem d_hourFroms {σ : y_S} {μ : q_M} (h : y_RD σ μ) {r k : Nat} (hr : r < 12) (hk : k < 3) : μ.1 (14 + r + 12) k = iz (σ 9 (3 * r + k)) := by
  have := h.1 9 (3 * r + k) (by simp [c_dom]; omega)
  simp only [c_ca] at this
  simp only [show ¬ (9 : Nat) = 0 by decide, show ¬ (9 : Nat) ≤ 6 by decide, show ¬ (9 : Nat) = 8 by decide, if_true, if_false] at this
  rw [← this, show 26 + (3 * r + k) / 3 = 14 + r + 12 by omega, show (3 * r + k) % 3 = k by omega]
theorem d_hourTos {σ : y_S} {μ : q_M} (h : y_RD σ μ) {r k : Nat} (hr : r < 12) (hk : k < 3) : μ.1 (14 + r + 24) k = iz (σ 10 (3 * r + k)) := by
  have := h.1 10 (3 * r + k) (by simp [c_dom]; omega)
  simp only [c_ca] at this
  simp only [show ¬ (10 : Nat) = 0 by decide, show ¬ (10 : Nat) ≤ 6 by decide, show ¬ (10 : Nat) = 8 by decide, show ¬ (10 : Nat) = 9 by decide, if_true, if_false] at this
  rw [← this, show 38 + (3 * r + k) / 3 = 14 + r + 24 by omega, show (3 * r + k) % 3 = k by omega]
theorem d_isSlow {σ : y_S} {μ : q_M} (h : y_RD σ μ) {b : Nat} (hb : b < 6) : μ.1 (50 + b) 0 = iz (σ 12 b) := h.1 12 b (by simp [c_dom, hb])
theorem d_cornerCounts {σ : y_S} {μ : q_M} (h : y_RD σ μ) {b : Nat} (hb : b < 6) : μ.1 (50 + b) 1 = iz (σ 13 b) := h.1 13 b (by simp [c_dom, hb])
theorem d_recorded {σ : y_S} {μ : q_M} (h : y_RD σ μ) {k : Nat} (hk : k < 50) : μ.1 5 k = iz (σ 21 k) := h.1 21 k (by simp [c_dom, hk])
theorem d_offsets {σ : y_S} {μ : q_M} (h : y_RD σ μ) {k : Nat} (hk : k < 5) : μ.2 9 k = lz (σ 17 k) := h.2 17 k (by simp [c_doL, hk])
theorem d_loads {σ : y_S} {μ : q_M} (h : y_RD σ μ) {k : Nat} (hk : k < 5) : μ.2 10 k = lz (σ 18 k) := h.2 18 k (by simp [c_doL, hk])
theorem K_wl {σ : y_S} {μ : q_M} (h : y_RD σ μ) (r : Nat) (hr : r < 12) (g : 0 ≤ σ 8 r ∧ σ 8 r ≤ 3) (gk : ∀ k : Nat, (k : Int) < σ 8 r → (0 ≤ σ 9 (3 * r + k) ∧ σ 9 (3 * r + k) < 1440) ∧ (0 ≤ σ 10 (3 * r + k) ∧ σ 10 (3 * r + k) < 1440)) (Kx : Int32 → q_M → Option (Int32 × q_M)) (m : Int) (hm : 0 ≤ m ∧ m < 1440) : ∀ (d n i : Nat), i + d = (σ 8 r).toNat → d < n → (0 ≤ y_wn σ r m i ∧ y_wn σ r m i ≤ 1440) → L_X6_waitAt_4 (14 + r) (iz m) Kx n (iz (y_wn σ r m i)) (iz i) μ = Kx (iz (y_wn σ r m (σ 8 r).toNat)) μ := by
  intro d
  induction d with
  | zero =>
    intro n i hi hn hw
    obtain ⟨n, rfl⟩ : ∃ z, n = z + 1 := ⟨n - 1, by omega⟩
    have e : (iz (σ 8 r) ≤ iz (i : Int)) = (σ 8 r ≤ (i : Int)) := z_le32 (by omega) (by omega) (by omega) (by omega)
    rw [L_X6_waitAt_4, d_hourCounts h hr]
    simp only [e]
    rw [if_pos (by omega), show i = (σ 8 r).toNat by omega]
  | succ d ih =>
    intro n i hi hn hw
    obtain ⟨n, rfl⟩ : ∃ z, n = z + 1 := ⟨n - 1, by omega⟩
    have q := gk i (by omega)
    have e : (iz (σ 8 r) ≤ iz (i : Int)) = (σ 8 r ≤ (i : Int)) := z_le32 (by omega) (by omega) (by omega) (by omega)
    have a1 : q_ri (iz (σ 10 (3 * r + i)) - iz (σ 9 (3 * r + i)) + 1440) 1440 = iz ((σ 10 (3 * r + i) - σ 9 (3 * r + i) + 1440) % 1440) := by
      rw [z_sub, show iz (σ 10 (3 * r + i) - σ 9 (3 * r + i)) + 1440 = iz (σ 10 (3 * r + i) - σ 9 (3 * r + i) + 1440) from z_add _ 1440]
      exact z_ri (b := 1440) (by omega) (by omega) (by omega) (by omega)
    have a2 : q_ri (iz m - iz (σ 9 (3 * r + i)) + 1440) 1440 = iz ((m - σ 9 (3 * r + i) + 1440) % 1440) := by
      rw [z_sub, show iz (m - σ 9 (3 * r + i)) + 1440 = iz (m - σ 9 (3 * r + i) + 1440) from z_add _ 1440]
      exact z_ri (b := 1440) (by omega) (by omega) (by omega) (by omega)
    have a3 : iz ((σ 10 (3 * r + i) - σ 9 (3 * r + i) + 1440) % 1440) - iz ((m - σ 9 (3 * r + i) + 1440) % 1440) + 1 = iz (y_w1 (σ 9 (3 * r + i)) (σ 10 (3 * r + i)) m) := by
      rw [z_sub, z_a1]; rfl
    have wr : -1440 ≤ y_w1 (σ 9 (3 * r + i)) (σ 10 (3 * r + i)) m ∧ y_w1 (σ 9 (3 * r + i)) (σ 10 (3 * r + i)) m ≤ 1440 := by unfold y_w1; omega
    have a4 : (iz (y_wn σ r m i) < iz (y_w1 (σ 9 (3 * r + i)) (σ 10 (3 * r + i)) m)) = (y_wn σ r m i < y_w1 (σ 9 (3 * r + i)) (σ 10 (3 * r + i)) m) := z_lt32 (by omega) (by omega) (by omega) (by omega)
    have a5 : (if y_wn σ r m i < y_w1 (σ 9 (3 * r + i)) (σ 10 (3 * r + i)) m then iz (y_w1 (σ 9 (3 * r + i)) (σ 10 (3 * r + i)) m) else iz (y_wn σ r m i)) = iz (y_wn σ r m (i + 1)) := by
      conv => rhs; unfold y_wn
      split <;> rfl
    have hw2 : 0 ≤ y_wn σ r m (i + 1) ∧ y_wn σ r m (i + 1) ≤ 1440 := by
      unfold y_wn; split <;> omega
    have cl : (iz (i : Int)).toNatClampNeg = i := by rw [z_cl (by omega) (by omega)]; omega
    rw [L_X6_waitAt_4, d_hourCounts h hr]
    simp only [e]
    rw [if_neg (by omega), z_gd (z_ix (by omega) (by omega) (by omega)), cl, d_hourFroms h hr (by omega), d_hourTos h hr (by omega)]
    simp only [z_le, a1, a2, a3, a4, a5, z_a1]
    exact ih n (i + 1) (by omega) (by omega) hw2
theorem K_waitAt {σ : y_S} {μ : q_M} (h : y_RD σ μ) (r : Nat) (hr : r < 12) (g : 0 ≤ σ 8 r ∧ σ 8 r ≤ 3) (gk : ∀ k : Nat, (k : Int) < σ 8 r → (0 ≤ σ 9 (3 * r + k) ∧ σ 9 (3 * r + k) < 1440) ∧ (0 ≤ σ 10 (3 * r + k) ∧ σ 10 (3 * r + k) < 1440)) (m : Int) (hm : 0 ≤ m ∧ m < 1440) : f_X6_waitAt (14 + r) (iz m) μ = some (iz (y_wn σ r m (σ 8 r).toNat), μ) := by
  unfold f_X6_waitAt
  exact K_wl h r hr g gk _ m hm (σ 8 r).toNat q_fu 0 (by omega) (by rw [z_fu]; omega) (by unfold y_wn; omega)
theorem y_wn_le {σ : y_S} {r : Nat} {m : Int} (hm : 0 ≤ m ∧ m < 1440) : ∀ n : Nat, (∀ k : Nat, k < n → (0 ≤ σ 9 (3 * r + k) ∧ σ 9 (3 * r + k) < 1440) ∧ (0 ≤ σ 10 (3 * r + k) ∧ σ 10 (3 * r + k) < 1440)) → y_wn σ r m n ≤ 1440 := by
  intro n
  induction n with
  | zero => intro _; unfold y_wn; omega
  | succ n ih =>
    intro hk
    have a := ih (fun k q => hk k (by omega))
    have b := hk n (by omega)
    unfold y_wn
    split
    · unfold y_w1; omega
    · exact a
theorem K_esl {σ : y_S} {μ : q_M} (h : y_RD σ μ) (r : Nat) (hr : r < 12) (g : 0 ≤ σ 8 r ∧ σ 8 r ≤ 3) (gk : ∀ k : Nat, (k : Int) < σ 8 r → (0 ≤ σ 9 (3 * r + k) ∧ σ 9 (3 * r + k) < 1440) ∧ (0 ≤ σ 10 (3 * r + k) ∧ σ 10 (3 * r + k) < 1440)) (x1 : Int32) : ∀ (d n i : Nat) (s : Int), i + d = (σ 8 r).toNat + 1 → d < n → 0 ≤ s → s + 1440 * d < 2147483648 → L_X6_earliestStart_4 (14 + r) x1 (fun μ => some (-1, μ)) n (iz s) (iz i) μ = some (iz (y_er (y_el (fun m => y_wn σ r m (σ 8 r).toNat) d s) (-1)), μ) := by
  intro d
  induction d with
  | zero =>
    intro n i s hi hn h0 h1
    obtain ⟨n, rfl⟩ : ∃ z, n = z + 1 := ⟨n - 1, by omega⟩
    have e : (iz (σ 8 r) < iz (i : Int)) = (σ 8 r < (i : Int)) := z_lt32 (by omega) (by omega) (by omega) (by omega)
    rw [L_X6_earliestStart_4, d_hourCounts h hr]
    simp only [e]
    rw [if_pos (by omega)]
    rfl
  | succ d ih =>
    intro n i s hi hn h0 h1
    obtain ⟨n, rfl⟩ : ∃ z, n = z + 1 := ⟨n - 1, by omega⟩
    have e : (iz (σ 8 r) < iz (i : Int)) = (σ 8 r < (i : Int)) := z_lt32 (by omega) (by omega) (by omega) (by omega)
    have nn := y_wn_nn σ r (s % 1440) (σ 8 r).toNat
    have le := y_wn_le (σ := σ) (r := r) (m := s % 1440) (by omega) (σ 8 r).toNat (fun k q => gk k (by omega))
    have e2 : (iz (y_wn σ r (s % 1440) (σ 8 r).toNat) = 0) = (y_wn σ r (s % 1440) (σ 8 r).toNat = 0) := z_eq32 (b := 0) (by omega) (by omega) (by omega) (by omega)
    rw [L_X6_earliestStart_4, d_hourCounts h hr]
    simp only [e]
    rw [if_neg (by omega), show q_ri (iz s) 1440 = iz (s % 1440) from z_ri (b := 1440) h0 (by omega) (by omega) (by omega), K_waitAt h r hr g gk (s % 1440) (by omega), z_bd]
    simp only [e2, z_le, z_add, z_a1]
    unfold y_el
    by_cases c : y_wn σ r (s % 1440) (σ 8 r).toNat = 0
    · rw [if_pos c, if_pos c]; rfl
    · rw [if_neg c, if_neg c]
      exact ih n (i + 1) _ (by omega) (by omega) (by omega) (by omega)
theorem K_earliestStart {σ : y_S} {μ : q_M} (h : y_RD σ μ) (r : Nat) (hr : r < 12) (g : 0 ≤ σ 8 r ∧ σ 8 r ≤ 3) (gk : ∀ k : Nat, (k : Int) < σ 8 r → (0 ≤ σ 9 (3 * r + k) ∧ σ 9 (3 * r + k) < 1440) ∧ (0 ≤ σ 10 (3 * r + k) ∧ σ 10 (3 * r + k) < 1440)) (t : Int) (ht : 0 ≤ t ∧ t < 2147000000) : f_X6_earliestStart (14 + r) (iz t) μ = some (iz (y_er (y_ea σ r t 1440 0) (-1)), μ) := by
  unfold f_X6_earliestStart
  rw [← y_ell g gk t]
  exact K_esl h r hr g gk (iz t) ((σ 8 r).toNat + 1) q_fu 0 t (by omega) (by rw [z_fu]; omega) ht.1 (by omega)
