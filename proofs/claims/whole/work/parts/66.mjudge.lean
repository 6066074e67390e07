theorem z_fs : ∃ z, q_fu = z + 1 := ⟨q_fu - 1, by have := z_fu; omega⟩
def y_la (μ : q_M) (a : Nat) (l : List Nat) : Prop := ∀ k, k < l.length → μ.1 a k = iz ((l.getD k 0 : Nat) : Int)
def y_Bs (σ : y_S) (B : List Nat) (μ : q_M) : Prop := μ.1 137 37 = iz (B.length : Int) ∧ (B ≠ [] → μ.1 137 38 = iz (y_en σ B (σ 0 10))) ∧ y_la μ 161 B ∧ y_Ls σ B ∧ B.length ≤ 12
theorem K_isBetter {σ : y_S} (w : y_W σ) {μ : q_M} (h : y_RM σ μ) {B p : List Nat} (hB : y_Bs σ B μ) (hs : μ.1 137 34 = iz (p.length : Int)) (hp : y_la μ 159 p) (hL : y_Ls σ p) (hl : p.length ≤ 12) : f_X10_isBetter (iz (y_en σ p (σ 0 10))) μ = some (y_bI (B.isEmpty || y_bt σ (y_en σ p (σ 0 10)) p (y_en σ B (σ 0 10)) B), μ) := by
  obtain ⟨b1, b2, b3, b4, b5⟩ := hB
  have wm := w.1.2.2.2.2.2.2.2.2.2.2.1
  have w1 := w.1.2.1.2
  have e1 := y_en_b w p (σ 0 10) hL
  have e2 := y_en_b w B (σ 0 10) b4
  unfold f_X10_isBetter
  rw [b1, z_if (z_eq0 (by omega) (by omega))]
  cases B with
  | nil =>
    rw [if_pos (by simp)]
    unfold J_X10_isBetter_15
    rw [b1, z_if (z_eq0 (by omega) (by omega)), if_pos (by simp)]
    rfl
  | cons c B =>
    have b2 := b2 (by simp)
    have l0 : ¬ (((c :: B).length : Nat) : Int) = 0 := by rw [List.length_cons]; omega
    rw [if_neg l0, b2, z_if (z_eq32 (by omega) (by omega) (by omega) (by omega))]
    have B1 := K_bridgesOf w h p (fun r q => (hL r q).1) (x1 := 159) (by simpa [q_len] using hl) (by decide) hp
    have B2 := K_bridgesOf w h (c :: B) (fun r q => (b4 r q).1) (x1 := 161) (by simpa [q_len] using b5) (by decide) b3
    have n1 := y_nb_b σ p
    have n2 := y_nb_b σ (c :: B)
    have ra : ∀ r, r ∈ p → r < 12 := fun r q => by have := (hL r q).1; omega
    have rb : ∀ r, r ∈ c :: B → r < 12 := fun r q => by have := (b4 r q).1; omega
    simp only [List.isEmpty_cons, Bool.false_or]
    generalize c :: B = B at *
    unfold y_bt
    by_cases q1 : y_en σ p (σ 0 10) = y_en σ B (σ 0 10)
    · rw [if_pos q1, if_pos q1, hs, B1, z_bd, b1, B2, z_bd, z_if (z_eq32 (by omega) (by omega) (by omega) (by omega))]
      by_cases q2 : y_nb σ p = y_nb σ B
      · rw [if_pos q2, if_pos q2, hs, b1, z_if (z_eq32 (by omega) (by omega) (by omega) (by omega))]
        by_cases q3 : p.length = B.length
        · rw [if_pos (by omega), if_pos q3]
          exact K_ib116 _ hl hs p B q_fu 0 q3 (by omega) (by rw [z_fu]; omega) ra rb (fun k hk => z_at (hp k hk) (by omega)) (fun k hk => z_at (b3 k hk) (by omega))
        · rw [if_neg (by omega), if_neg q3]
          unfold J_X10_isBetter_78
          rw [if_pos (by rw [q2]), b1, hs, z_if (z_le32 (by omega) (by omega) (by omega) (by omega))]
          by_cases q4 : p.length < B.length
          · rw [if_neg (by omega)]; simp [y_bI, q4]
          · rw [if_pos (by omega)]; simp [y_bI, q4]
      · rw [if_neg q2, if_neg q2]
        unfold J_X10_isBetter_78
        rw [z_if (z_eq32 (by omega) (by omega) (by omega) (by omega)), if_neg q2, z_if (z_le32 (by omega) (by omega) (by omega) (by omega))]
        by_cases q4 : y_nb σ p < y_nb σ B
        · rw [if_neg (by omega)]; simp [y_bI, q4]
        · rw [if_pos (by omega)]; simp [y_bI, q4]
    · rw [if_neg q1, if_neg q1]
      unfold J_X10_isBetter_15
      rw [b1, z_if (z_eq0 (by omega) (by omega)), if_neg l0, b2, z_if (z_le32 (by omega) (by omega) (by omega) (by omega))]
      by_cases q4 : y_en σ p (σ 0 10) < y_en σ B (σ 0 10)
      · rw [if_neg (by omega)]; simp [y_bI, q4]
      · rw [if_pos (by omega)]; simp [y_bI, q4]
def y_fw (σ : y_S) (f : Nat) : List Nat := (List.range (σ 20 f).toNat).map (fun k => (σ 19 (12 * f + k)).toNat)
def y_WF (σ : y_S) : Prop := ∀ f : Nat, (f : Int) < σ 0 6 → (1 ≤ σ 20 f ∧ σ 20 f ≤ 6) ∧ ∀ k : Nat, (k : Int) < σ 20 f → 0 ≤ σ 19 (12 * f + k) ∧ σ 19 (12 * f + k) < σ 0 1
theorem y_fw_len (σ : y_S) (f : Nat) : (y_fw σ f).length = (σ 20 f).toNat := by simp [y_fw]
theorem y_fw_get {σ : y_S} {f k : Nat} (h : k < (σ 20 f).toNat) : (y_fw σ f).getD k 0 = (σ 19 (12 * f + k)).toNat := by
  simp [y_fw, List.getD_eq_getElem?_getD, h]
theorem y_fw_mem {σ : y_S} (w : y_WF σ) {f : Nat} (hf : (f : Int) < σ 0 6) {r : Nat} (h : r ∈ y_fw σ f) : (r : Int) < σ 0 1 := by
  simp only [y_fw, List.mem_map, List.mem_range] at h
  obtain ⟨k, hk, rfl⟩ := h
  have := (w f hf).2 k (by omega)
  omega
theorem y_fw_cell {σ : y_S} (w : y_WF σ) {f : Nat} (hf : (f : Int) < σ 0 6) {μ : q_M} (h : y_RM σ μ) {k : Nat} (hk : k < (y_fw σ f).length) : μ.1 156 (12 * f + k) = iz (((y_fw σ f).getD k 0 : Nat) : Int) := by
  rw [y_fw_len] at hk
  rw [m_foundRoads h, y_fw_get hk]
  have := (w f hf).2 k (by omega)
  congr 1; omega
theorem K_mb31 {μ : q_M} {sz : Nat} (hsz : sz ≤ 12) (hs : μ.1 137 34 = iz (sz : Int)) {f : Nat} (hf : f < 5) (Kx : Int32 → Int32 → q_M → Option (Int32 × q_M)) : ∀ (a b : List Nat) (n i : Nat), a.length = b.length → a.length + i = sz → a.length + 1 < n → (∀ r, r ∈ a → r < 12) → (∀ r, r ∈ b → r < 12) → (∀ k, k < a.length → μ.1 159 (i + k) = iz ((a.getD k 0 : Nat) : Int)) → (∀ k, k < b.length → μ.1 156 (12 * f + i + k) = iz ((b.getD k 0 : Nat) : Int)) → L_X10_mayBe_31 Kx n (iz (f : Int)) 1 (iz (i : Int)) μ = Kx (iz (f : Int)) (y_bI (decide (b = a))) μ := by
  intro a
  induction a with
  | nil =>
    intro b n i hb hi hn ra rb ha hb2
    obtain ⟨n, rfl⟩ : ∃ z, n = z + 1 := ⟨n - 1, by omega⟩
    simp only [List.length_nil] at hi hb
    have : b = [] := List.length_eq_zero_iff.mp hb.symm
    subst this
    rw [L_X10_mayBe_31, hs, z_if (z_le32 (by omega) (by omega) (by omega) (by omega)), if_pos (by omega)]
    rfl
  | cons x a ih =>
    intro b n i hb hi hn ra rb ha hb2
    cases b with
    | nil => cases hb
    | cons y b =>
      obtain ⟨n, rfl⟩ : ∃ z, n = z + 1 := ⟨n - 1, by omega⟩
      simp only [List.length_cons] at hi hn ha hb hb2
      have a0 := ha 0 (by omega)
      have b0 := hb2 0 (by omega)
      have rx := ra x (by simp)
      have ry := rb y (by simp)
      simp only [List.getD_cons_zero, Nat.add_zero] at a0 b0
      have cl : (iz (i : Int)).toNatClampNeg = i := by rw [z_cl (by omega) (by omega)]; omega
      have cf : (iz (12 * (f : Int) + (i : Int))).toNatClampNeg = 12 * f + i := by rw [z_cl (by omega) (by omega)]; omega
      rw [L_X10_mayBe_31, hs, z_if (z_le32 (by omega) (by omega) (by omega) (by omega)), if_neg (by omega), if_neg (by decide), show 12 * iz (f : Int) = iz (12 * f) from z_mul 12 f, z_add, z_gd (z_ix (by omega) (by omega) (by omega)), z_gd (z_ix (by omega) (by omega) (by omega)), cl, cf, a0, b0, z_if (z_eq32 (by omega) (by omega) (by omega) (by omega))]
      by_cases c : y = x
      · subst c
        rw [if_pos rfl, z_le, z_a1]
        have := ih b n (i + 1) (by omega) (by omega) (by omega) (fun r q => ra r (by simp [q])) (fun r q => rb r (by simp [q])) (fun k hk => by
          have := ha (k + 1) (by omega)
          rw [List.getD_cons_succ] at this
          exact z_at this (by omega)) (fun k hk => by
          have := hb2 (k + 1) (by omega)
          rw [List.getD_cons_succ] at this
          exact z_at this (by omega))
        refine Eq.trans this ?_
        congr 2
        simp
      · rw [if_neg (by omega), z_le]
        obtain ⟨n, rfl⟩ : ∃ z, n = z + 1 := ⟨n - 1, by omega⟩
        rw [L_X10_mayBe_31]
        simp [c, y_bI]
def y_in (σ : y_S) (p : List Nat) : Nat → Nat → Bool
  | 0, _ => false
  | d + 1, f => decide (y_fw σ f = p) || y_in σ p d (f + 1)
theorem K_mb2 {σ : y_S} (w : y_W σ) (wf : y_WF σ) {μ : q_M} (h : y_RM σ μ) {p : List Nat} (hs : μ.1 137 34 = iz (p.length : Int)) (hp : y_la μ 159 p) (hL : ∀ r, r ∈ p → (r : Int) < σ 0 1) (hl : p.length ≤ 12) (Kx : q_M → Option (Int32 × q_M)) : ∀ (d n f : Nat), f + d = (σ 0 6).toNat → d < n → L_X10_mayBe_2 Kx n (iz (f : Int)) μ = if y_in σ p d f = true then some (0, μ) else Kx μ := by
  have w6 := w.1.2.2.2.2.2.2.1
  have w1 := w.1.2.1.2
  intro d
  induction d with
  | zero =>
    intro n f hf hn
    obtain ⟨n, rfl⟩ : ∃ z, n = z + 1 := ⟨n - 1, by omega⟩
    rw [L_X10_mayBe_2, m_found h, z_if (z_le32 (by omega) (by omega) (by omega) (by omega)), if_pos (by omega)]
    rfl
  | succ d ih =>
    intro n f hf hn
    obtain ⟨n, rfl⟩ : ∃ z, n = z + 1 := ⟨n - 1, by omega⟩
    have ff : (f : Int) < σ 0 6 := by omega
    have g := wf f ff
    have cl : (iz (f : Int)).toNatClampNeg = f := by rw [z_cl (by omega) (by omega)]; omega
    have ih := ih n (f + 1) (by omega) (by omega)
    rw [L_X10_mayBe_2, m_found h, z_if (z_le32 (by omega) (by omega) (by omega) (by omega)), if_neg (by omega), z_gd (z_ix (by omega) (by omega) (by omega)), cl, m_foundSizes h, hs, z_if (z_eq32 (by omega) (by omega) (by omega) (by omega))]
    unfold y_in
    by_cases c : σ 20 f = (p.length : Int)
    · rw [if_pos c]
      have := K_mb31 hl hs (f := f) (by omega) (fun v1 v2 μ => (if v2 = 0 then q_le (v1 + 1 : Int32) (fun y14 => (L_X10_mayBe_2 Kx n) y14 μ) else some (0, μ))) p (y_fw σ f) q_fu 0 (by rw [y_fw_len]; omega) (by omega) (by rw [z_fu]; omega) (fun r q => by have := hL r q; omega) (fun r q => by have := y_fw_mem wf ff q; omega) (fun k hk => z_at (hp k hk) (by omega)) (fun k hk => z_at (y_fw_cell wf ff h hk) (by omega))
      refine Eq.trans this ?_
      rw [z_if (y_bI0 _), z_le, z_a1]
      by_cases e : y_fw σ f = p
      · simp [e]
      · simp only [e, decide_false, if_true, Bool.false_or]
        exact ih
    · obtain ⟨n0, e0⟩ := z_fs
      rw [if_neg c, e0, L_X10_mayBe_31]
      have e : ¬ y_fw σ f = p := fun q => c (by rw [← q, y_fw_len]; omega)
      simp only [if_true, ite_self, e, decide_false, Bool.false_or, z_le, z_a1]
      exact ih
def y_ct (x : Nat) : List Nat → Int
  | [] => 0
  | y :: v => (if y = x then 1 else 0) + y_ct x v
def y_sh : List Nat → List Nat → Int
  | [], _ => 0
  | x :: a, v => y_ct x v + y_sh a v
theorem y_ct_b (x : Nat) : ∀ v : List Nat, 0 ≤ y_ct x v ∧ y_ct x v ≤ v.length := by
  intro v
  induction v with
  | nil => unfold y_ct; simp
  | cons y v ih => unfold y_ct; simp only [List.length_cons]; split <;> omega
theorem y_sh_b (v : List Nat) (hv : v.length ≤ 6) : ∀ a : List Nat, 0 ≤ y_sh a v ∧ y_sh a v ≤ 6 * a.length := by
  intro a
  induction a with
  | nil => unfold y_sh; simp
  | cons x a ih => unfold y_sh; have := y_ct_b x v; simp only [List.length_cons]; omega
theorem K_mb108 {μ : q_M} {sz : Nat} (hsz : sz ≤ 12) (hs : μ.1 157 0 = iz (sz : Int)) {x k : Nat} (hx : x < 12) (hk : k < 12) (hk2 : μ.1 159 k = iz (x : Int)) (Kx : Int32 → Int32 → q_M → Option (Int32 × q_M)) : ∀ (b : List Nat) (n i : Nat) (s : Int), b.length + i = sz → b.length < n → (∀ r, r ∈ b → r < 12) → (∀ k, k < b.length → μ.1 156 (i + k) = iz ((b.getD k 0 : Nat) : Int)) → L_X10_mayBe_108 Kx n (iz s) (iz (k : Int)) (iz (i : Int)) μ = Kx (iz (s + y_ct x b)) (iz (k : Int)) μ := by
  intro b
  induction b with
  | nil =>
    intro n i s hi hn rb hb
    obtain ⟨n, rfl⟩ : ∃ z, n = z + 1 := ⟨n - 1, by omega⟩
    simp only [List.length_nil] at hi
    rw [L_X10_mayBe_108, z_gd (by decide), show (0 : Int32).toNatClampNeg = 0 from rfl, hs, z_if (z_le32 (by omega) (by omega) (by omega) (by omega)), if_pos (by omega)]
    unfold y_ct
    rw [Int.add_zero]
  | cons y b ih =>
    intro n i s hi hn rb hb
    obtain ⟨n, rfl⟩ : ∃ z, n = z + 1 := ⟨n - 1, by omega⟩
    simp only [List.length_cons] at hi hn hb
    have b0 := hb 0 (by omega)
    have ry := rb y (by simp)
    simp only [List.getD_cons_zero, Nat.add_zero] at b0
    have cl : (iz (i : Int)).toNatClampNeg = i := by rw [z_cl (by omega) (by omega)]; omega
    have ck : (iz (k : Int)).toNatClampNeg = k := by rw [z_cl (by omega) (by omega)]; omega
    have ih := fun u => ih n (i + 1) u (by omega) (by omega) (fun r q => rb r (by simp [q])) (fun k hk => by
      have := hb (k + 1) (by omega)
      rw [List.getD_cons_succ] at this
      exact z_at this (by omega))
    rw [L_X10_mayBe_108, z_gd (by decide), show (0 : Int32).toNatClampNeg = 0 from rfl, hs, z_if (z_le32 (by omega) (by omega) (by omega) (by omega)), if_neg (by omega), z_gd (z_ix (by omega) (by omega) (by omega)), z_gd (z_ix (by omega) (by omega) (by omega)), cl, ck, b0, hk2, z_if (z_eq32 (by omega) (by omega) (by omega) (by omega))]
    simp only [z_le, z_a1]
    rw [show iz s + 0 = iz (s + 0) from z_add s 0]
    unfold y_ct
    by_cases c : y = x
    · rw [if_pos (by omega), if_pos c]
      exact (ih (s + 1)).trans (by congr 2; omega)
    · rw [if_neg (by omega), if_neg c]
      exact (ih (s + 0)).trans (by congr 2; omega)
theorem K_mb91 {σ : y_S} (w : y_W σ) (wf : y_WF σ) {μ : q_M} (h : y_RM σ μ) {sz : Nat} (hsz : sz ≤ 12) (hs : μ.1 137 34 = iz (sz : Int)) (Kx : Int32 → q_M → Option (Int32 × q_M)) : ∀ (a : List Nat) (n i : Nat) (s : Int), a.length + i = sz → a.length < n → (∀ r, r ∈ a → r < 12) → (∀ k, k < a.length → μ.1 159 (i + k) = iz ((a.getD k 0 : Nat) : Int)) → L_X10_mayBe_91 Kx n (iz s) (iz (i : Int)) μ = Kx (iz (s + if 0 < σ 0 6 then y_sh a (y_fw σ 0) else 0)) μ := by
  have w6 := w.1.2.2.2.2.2.2.1
  have w1 := w.1.2.1.2
  intro a
  induction a with
  | nil =>
    intro n i s hi hn ra ha
    obtain ⟨n, rfl⟩ : ∃ z, n = z + 1 := ⟨n - 1, by omega⟩
    simp only [List.length_nil] at hi
    rw [L_X10_mayBe_91, hs, z_if (z_le32 (by omega) (by omega) (by omega) (by omega)), if_pos (by omega)]
    unfold y_sh
    rw [ite_self, Int.add_zero]
  | cons x a ih =>
    intro n i s hi hn ra ha
    obtain ⟨n, rfl⟩ : ∃ z, n = z + 1 := ⟨n - 1, by omega⟩
    simp only [List.length_cons] at hi hn ha
    have a0 := ha 0 (by omega)
    have rx := ra x (by simp)
    simp only [List.getD_cons_zero, Nat.add_zero] at a0
    have ih := fun u => ih n (i + 1) u (by omega) (by omega) (fun r q => ra r (by simp [q])) (fun k hk => by
      have := ha (k + 1) (by omega)
      rw [List.getD_cons_succ] at this
      exact z_at this (by omega))
    rw [L_X10_mayBe_91, hs, z_if (z_le32 (by omega) (by omega) (by omega) (by omega)), if_neg (by omega), m_found h, z_if (z_le0 (by omega) (by omega))]
    by_cases c : σ 0 6 ≤ 0
    · rw [if_pos c, if_neg (by omega), Int.add_zero]
    · rw [if_neg c, if_pos (by omega)]
      rw [if_pos (show 0 < σ 0 6 by omega)] at ih
      have g := wf 0 (by omega)
      have s0 : μ.1 157 0 = iz (((y_fw σ 0).length : Nat) : Int) := by rw [m_foundSizes h, y_fw_len]; congr 1; omega
      have := K_mb108 (sz := (y_fw σ 0).length) (by rw [y_fw_len]; omega) s0 rx (show i < 12 by omega) a0 (fun v1 v2 μ => q_le (v2 + 1 : Int32) (fun y26 => (L_X10_mayBe_91 Kx n) v1 y26 μ)) (y_fw σ 0) q_fu 0 s (by omega) (by rw [z_fu, y_fw_len]; omega) (fun r q => by have := y_fw_mem wf (f := 0) (by omega) q; omega) (fun k hk => z_at (y_fw_cell wf (f := 0) (by omega) h hk) (by omega))
      refine Eq.trans this ?_
      rw [z_le, z_a1]
      refine (ih (s + y_ct x (y_fw σ 0))).trans ?_
      conv => rhs; unfold y_sh
      congr 2; omega
def y_mb (σ : y_S) (L : Int) (p : List Nat) : Bool := !(y_in σ p (σ 0 6).toNat 0) && decide ((if 0 < σ 0 6 then y_sh p (y_fw σ 0) else 0) ≤ L)
theorem K_mayBe {σ : y_S} (w : y_W σ) (wf : y_WF σ) {μ : q_M} (h : y_RM σ μ) {p : List Nat} (hs : μ.1 137 34 = iz (p.length : Int)) (hp : y_la μ 159 p) (hL : ∀ r, r ∈ p → (r : Int) < σ 0 1) (hl : p.length ≤ 12) {L : Int} (hlim : μ.1 137 39 = iz L) (hL2 : 0 ≤ L ∧ L ≤ 1000000000) : f_X10_mayBe μ = some (y_bI (y_mb σ L p), μ) := by
  have w6 := w.1.2.2.2.2.2.2.1
  have w1 := w.1.2.1.2
  unfold f_X10_mayBe
  rw [show (0 : Int32) = iz ((0 : Nat) : Int) from rfl, K_mb2 w wf h hs hp hL hl _ (σ 0 6).toNat q_fu 0 (by omega) (by rw [z_fu]; omega)]
  unfold y_mb
  by_cases c : y_in σ p (σ 0 6).toNat 0 = true
  · rw [if_pos c, c]; rfl
  · rw [if_neg c]
    have := K_mb91 w wf h hl hs (fun v1 μ => J_X10_mayBe_153 v1 μ) p q_fu 0 0 (by omega) (by rw [z_fu]; omega) (fun r q => by have := hL r q; omega) (fun k hk => z_at (hp k hk) (by omega))
    refine Eq.trans this ?_
    have bd : 0 ≤ (if 0 < σ 0 6 then y_sh p (y_fw σ 0) else 0) ∧ (if 0 < σ 0 6 then y_sh p (y_fw σ 0) else 0) ≤ 72 := by
      split
      · have g := wf 0 (by omega)
        have := y_sh_b (y_fw σ 0) (by rw [y_fw_len]; omega) p
        omega
      · omega
    rw [Int.zero_add]
    generalize (if 0 < σ 0 6 then y_sh p (y_fw σ 0) else 0) = S at *
    unfold J_X10_mayBe_153
    rw [hlim, z_if (z_lt32 (by omega) (by omega) (by omega) (by omega))]
    have c : y_in σ p (σ 0 6).toNat 0 = false := by simpa using c
    by_cases q : L < S
    · rw [if_pos q, c]; simp [y_bI, show ¬ S ≤ L by omega]
    · rw [if_neg q, c]; simp [y_bI, show S ≤ L by omega]
def y_jd (σ : y_S) (L : Int) (B p : List Nat) : List Nat := if y_mb σ L p = true ∧ (B.isEmpty || y_bt σ (y_en σ p (σ 0 10)) p (y_en σ B (σ 0 10)) B) = true then p else B
def y_Fj (μ μ' : q_M) : Prop := (∀ a, a ≠ 137 → a ≠ 161 → μ'.1 a = μ.1 a) ∧ (∀ j, j ≠ 37 → j ≠ 38 → j ≠ 40 → μ'.1 137 j = μ.1 137 j) ∧ μ'.2 = μ.2
theorem y_Fj.RM {σ : y_S} {μ μ' : q_M} (f : y_Fj μ μ') (h : y_RM σ μ) : y_RM σ μ' := by
  refine ⟨fun j hj => ?_, fun c h1 h2 j => ?_⟩
  · rw [← h.1 j hj]
    have : ∀ j, j < 12 → y_sc j ≠ 37 ∧ y_sc j ≠ 38 ∧ y_sc j ≠ 40 := by decide
    obtain ⟨a, b, c⟩ := this j hj
    exact f.2.1 _ a b c
  · rw [← h.2 c h1 h2 j, f.1 _ (by omega) (by omega)]
theorem y_Fj.Fm {μ μ' : q_M} (f : y_Fj μ μ') : y_Fm μ μ' := fun a ha => ⟨f.1 a (by omega) (by omega), by rw [f.2.2]⟩
theorem y_Fj.tr {μ μ1 μ2 : q_M} (f : y_Fj μ μ1) (g : y_Fj μ1 μ2) : y_Fj μ μ2 := ⟨fun a h1 h2 => (g.1 a h1 h2).trans (f.1 a h1 h2), fun j h1 h2 h3 => (g.2.1 j h1 h2 h3).trans (f.2.1 j h1 h2 h3), g.2.2.trans f.2.2⟩
theorem K_jl {sz : Nat} (hsz : sz ≤ 12) {p : List Nat} (hp2 : p.length = sz) (Kx : q_M → Option (Unit × q_M)) : ∀ (d n i : Nat) (μ : q_M), i + d = sz → d < n → μ.1 137 34 = iz (sz : Int) → y_la μ 159 p → (∀ k, k < i → μ.1 161 k = iz ((p.getD k 0 : Nat) : Int)) → ∃ μ', L_X10_judge_58 Kx n (iz (i : Int)) μ = Kx μ' ∧ y_la μ' 161 p ∧ (∀ a, a ≠ 161 → μ'.1 a = μ.1 a) ∧ μ'.2 = μ.2 := by
  intro d
  induction d with
  | zero =>
    intro n i μ hi hn hs hp hb
    obtain ⟨n, rfl⟩ : ∃ z, n = z + 1 := ⟨n - 1, by omega⟩
    rw [L_X10_judge_58, hs, z_if (z_le32 (by omega) (by omega) (by omega) (by omega)), if_pos (by omega)]
    exact ⟨μ, rfl, fun k hk => hb k (by omega), fun _ _ => rfl, rfl⟩
  | succ d ih =>
    intro n i μ hi hn hs hp hb
    obtain ⟨n, rfl⟩ : ∃ z, n = z + 1 := ⟨n - 1, by omega⟩
    have cl : (iz (i : Int)).toNatClampNeg = i := by rw [z_cl (by omega) (by omega)]; omega
    rw [L_X10_judge_58, hs, z_if (z_le32 (by omega) (by omega) (by omega) (by omega)), if_neg (by omega), z_gd (z_ix (by omega) (by omega) (by omega)), cl, z_le, z_le, z_a1]
    obtain ⟨μ', f, a, b, c⟩ := ih n (i + 1) (q_si μ 161 i (μ.1 159 i)) (by omega) (by omega) hs hp (fun k hk => by
      rw [z_si1]
      by_cases e : k = i
      · subst e; rw [if_pos ⟨rfl, rfl⟩]; exact hp k (by omega)
      · rw [if_neg (fun q => e q.2)]; exact hb k (by omega))
    refine ⟨μ', f, a, fun x hx => ?_, c⟩
    rw [b x hx]
    exact q_si_row hx
theorem K_judge {σ : y_S} (w : y_W σ) (wf : y_WF σ) {μ : q_M} (h : y_RM σ μ) {B p : List Nat} (hB : y_Bs σ B μ) (hs : μ.1 137 34 = iz (p.length : Int)) (hp : y_la μ 159 p) (hL : y_Ls σ p) (hl : p.length ≤ 12) {L N : Int} (hlim : μ.1 137 39 = iz L) (hL2 : 0 ≤ L ∧ L ≤ 1000000000) (hN : μ.1 137 40 = iz N) : ∃ μ', f_X10_judge μ = some ((), μ') ∧ y_Bs σ (y_jd σ L B p) μ' ∧ μ'.1 137 40 = iz (N + 1) ∧ y_Fj μ μ' := by
  have wm := w.1.2.2.2.2.2.2.2.2.2.2.1
  unfold f_X10_judge
  rw [z_le, hN, z_a1]
  have F1 : y_Fj μ (q_si μ 137 40 (iz (N + 1))) := ⟨fun a h1 h2 => q_si_row h1, fun j h1 h2 h3 => by rw [z_si1, if_neg (fun q => h3 q.2)], rfl⟩
  have N1 : (q_si μ 137 40 (iz (N + 1))).1 137 40 = iz (N + 1) := by rw [z_si1, if_pos ⟨rfl, rfl⟩]
  have B1 : y_Bs σ B (q_si μ 137 40 (iz (N + 1))) := ⟨hB.1, hB.2.1, hB.2.2.1, hB.2.2.2⟩
  generalize q_si μ 137 40 (iz (N + 1)) = μ1 at *
  have h1 := F1.RM h
  have s1 : μ1.1 137 34 = iz (p.length : Int) := (F1.2.1 34 (by decide) (by decide) (by decide)).trans hs
  have l1 : μ1.1 137 39 = iz L := (F1.2.1 39 (by decide) (by decide) (by decide)).trans hlim
  have p1 : y_la μ1 159 p := fun k hk => by rw [F1.1 159 (by decide) (by decide)]; exact hp k hk
  have E := K_endOf w h1 (x1 := 159) (off := 0) p (σ 0 10) hL (by simpa [q_len] using hl) (by decide) (by omega) (by omega) (fun k hk => z_at (p1 k hk) (by omega))
  rw [s1, m_minute h1, show f_X10_endOf 159 0 (iz (p.length : Int)) (iz (σ 0 10)) μ1 = _ from E, z_bd, K_mayBe w wf h1 s1 p1 (fun r q => (hL r q).1) hl l1 hL2, z_bd, z_if (y_bI0 _)]
  unfold y_jd
  by_cases c1 : y_mb σ L p = true
  · rw [if_neg (by simp [c1]), K_isBetter w h1 B1 s1 p1 hL hl, z_bd, z_if (y_bI0 _)]
    by_cases c2 : (B.isEmpty || y_bt σ (y_en σ p (σ 0 10)) p (y_en σ B (σ 0 10)) B) = true
    · rw [if_neg (by simp [c2]), if_pos ⟨c1, c2⟩, z_le, z_le]
      have e2 : (q_si μ1 137 38 (iz (y_en σ p (σ 0 10)))).1 137 34 = iz (p.length : Int) := s1
      rw [e2]
      obtain ⟨μ', f, a, b, c⟩ := K_jl hl rfl (fun μ => some ((), μ)) p.length q_fu 0 (q_si (q_si μ1 137 38 (iz (y_en σ p (σ 0 10)))) 137 37 (iz (p.length : Int))) (by omega) (by rw [z_fu]; omega) s1 p1 (fun k hk => by omega)
      refine ⟨μ', f, ⟨?_, fun _ => ?_, a, hL, hl⟩, ?_, ?_⟩
      · rw [b 137 (by decide)]; simp [z_si1]
      · rw [b 137 (by decide)]; simp [z_si1]
      · rw [b 137 (by decide)]; simp only [z_si1, true_and, Nat.reduceEqDiff, if_false]; exact N1
      · refine F1.tr ⟨fun x h1 h2 => ?_, fun j h1 h2 h3 => ?_, c⟩
        · rw [b x h2]
          exact (q_si_row h1).trans (q_si_row h1)
        · rw [b 137 (by decide)]; simp only [z_si1, true_and, h1, h2, if_false]
    · rw [if_pos (by simpa using c2), if_neg (fun q => c2 q.2)]
      exact ⟨μ1, rfl, B1, N1, F1⟩
  · rw [if_pos (by simpa using c1), if_neg (fun q => c1 q.1)]
    exact ⟨μ1, rfl, B1, N1, F1⟩
