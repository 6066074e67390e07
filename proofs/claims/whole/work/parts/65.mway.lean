theorem z_lt0 {a : Int} (h1 : -2147483648 ≤ a) (h2 : a < 2147483648) : (iz a < 0) = (a < 0) := z_lt32 (b := 0) h1 h2 (by omega) (by omega)
theorem z_le0 {a : Int} (h1 : -2147483648 ≤ a) (h2 : a < 2147483648) : (iz a ≤ 0) = (a ≤ 0) := z_le32 (b := 0) h1 h2 (by omega) (by omega)
theorem z_0le {a : Int} (h1 : -2147483648 ≤ a) (h2 : a < 2147483648) : (0 ≤ iz a) = (0 ≤ a) := z_le32 (a := 0) (by omega) (by omega) h1 h2
theorem z_0lt {a : Int} (h1 : -2147483648 ≤ a) (h2 : a < 2147483648) : (0 < iz a) = (0 < a) := z_lt32 (a := 0) (by omega) (by omega) h1 h2
theorem z_eq0 {a : Int} (h1 : -2147483648 ≤ a) (h2 : a < 2147483648) : (iz a = 0) = (a = 0) := z_eq32 (b := 0) h1 h2 (by omega) (by omega)
theorem z_eqm {a : Int} (h1 : -2147483648 ≤ a) (h2 : a < 2147483648) : (iz a = -1) = (a = -1) := by
  rw [show (-1 : Int32) = iz (-1) from rfl]; exact z_eq32 h1 h2 (by omega) (by omega)
theorem z_eqn {a : Int} (h1 : -2147483648 ≤ a) (h2 : a < 2147483648) : (iz a = -2) = (a = -2) := by
  rw [show (-2 : Int32) = iz (-2) from rfl]; exact z_eq32 h1 h2 (by omega) (by omega)
theorem z_at {μ : q_M} {a i j : Nat} {v : Int32} (h : μ.1 a i = v) (e : j = i) : μ.1 a j = v := by rw [e]; exact h
def y_st (σ : y_S) (r : Nat) (t : Int) : Int := y_er (y_ea σ r t 1440 0) (-2)
def y_op (σ : y_S) (r : Nat) : Prop := (y_ea σ r 0 1440 0).isSome = true
def y_ok (σ : y_S) (r : Nat) : Bool := decide (y_why σ r = 0) && (y_ea σ r 0 1440 0).isSome
theorem y_ea_ex {σ : y_S} {r : Nat} {t : Int} : ∀ (n : Nat) (k v : Int), y_ea σ r t n k = some v → ∃ i, v = t + i ∧ k ≤ i ∧ i < k + n ∧ y_ba σ r (t + i) = false := by
  intro n
  induction n with
  | zero => intro k v h; cases h
  | succ n ih =>
    intro k v h
    unfold y_ea at h
    by_cases c : y_ba σ r (t + k) = false
    · rw [if_pos c] at h
      cases h
      exact ⟨k, rfl, by omega, by omega, c⟩
    · rw [if_neg c] at h
      obtain ⟨i, a, b, d, e⟩ := ih (k + 1) v h
      exact ⟨i, a, by omega, by omega, e⟩
theorem y_ea_lt {σ : y_S} {r : Nat} {t : Int} : ∀ (n : Nat) (k i : Int), k ≤ i → i < k + n → y_ba σ r (t + i) = false → (y_ea σ r t n k).isSome = true := by
  intro n
  induction n with
  | zero => intro k i h1 h2; omega
  | succ n ih =>
    intro k i h1 h2 hb
    unfold y_ea
    by_cases c : y_ba σ r (t + k) = false
    · rw [if_pos c]; rfl
    · rw [if_neg c]
      have : k ≠ i := fun q => by rw [q] at c; exact c hb
      exact ih (k + 1) i (by omega) (by omega) hb
theorem y_op_all {σ : y_S} {r : Nat} (h : y_op σ r) (t : Int) : ∃ v, y_ea σ r t 1440 0 = some v ∧ t ≤ v ∧ v < t + 1440 := by
  unfold y_op at h
  cases e : y_ea σ r 0 1440 0 with
  | none => rw [e] at h; cases h
  | some u =>
    obtain ⟨i, a, b, c, d⟩ := y_ea_ex 1440 0 u e
    have hs := y_ea_lt (σ := σ) (r := r) (t := t) 1440 0 ((i - t) % 1440) (by omega) (by omega) (by rw [← d]; exact y_ba_mod (by omega))
    cases e2 : y_ea σ r t 1440 0 with
    | none => rw [e2] at hs; cases hs
    | some v =>
      obtain ⟨j, p, q, s, -⟩ := y_ea_ex 1440 0 v e2
      exact ⟨v, rfl, by omega, by omega⟩
theorem y_st_b {σ : y_S} {r : Nat} (h : y_op σ r) (t : Int) : t ≤ y_st σ r t ∧ y_st σ r t < t + 1440 := by
  obtain ⟨v, e, a, b⟩ := y_op_all h t
  unfold y_st
  rw [e]
  exact ⟨a, b⟩
theorem y_ok_op {σ : y_S} {r : Nat} (h : y_ok σ r = true) : y_op σ r := by
  unfold y_ok at h
  exact (Bool.and_eq_true_iff.mp h).2
theorem y_tk_b {σ : y_S} (w : y_W σ) {r : Nat} (hr : (r : Int) < σ 0 1) : 1 ≤ y_tk σ r ∧ y_tk σ r ≤ 1200 := by
  have g := w.2.1 r hr
  unfold y_tk
  split <;> omega
def y_en (σ : y_S) : List Nat → Int → Int
  | [], t => t
  | r :: l, t => y_en σ l (y_st σ r t + y_tk σ r)
def y_Ls (σ : y_S) (l : List Nat) : Prop := ∀ r, r ∈ l → (r : Int) < σ 0 1 ∧ y_op σ r
theorem y_en_b {σ : y_S} (w : y_W σ) : ∀ (l : List Nat) (t : Int), y_Ls σ l → t ≤ y_en σ l t ∧ y_en σ l t ≤ t + 2640 * l.length := by
  intro l
  induction l with
  | nil => intro t _; unfold y_en; simp
  | cons r l ih =>
    intro t h
    have a := h r (by simp)
    have b := y_st_b a.2 t
    have c := y_tk_b w a.1
    have d := ih (y_st σ r t + y_tk σ r) (fun s q => h s (by simp [q]))
    unfold y_en
    simp only [List.length_cons]
    omega
theorem K_endl {σ : y_S} (w : y_W σ) {μ : q_M} (h : y_RM σ μ) {x1 : Nat} (x4 : Int32) {off many : Nat} (hq : off + many ≤ q_len x1) (hq2 : q_len x1 ≤ 1000) (Kx : Int32 → q_M → Option (Int32 × q_M)) : ∀ (l : List Nat) (n i : Nat) (t : Int), y_Ls σ l → l.length + i = many → l.length < n → 0 ≤ t → t + 2640 * l.length ≤ 2000000 → (∀ k, k < l.length → μ.1 x1 (off + i + k) = iz ((l.getD k 0 : Nat) : Int)) → L_X10_endOf_7 x1 (iz (off : Int)) (iz (many : Int)) x4 Kx n (iz t) (iz (i : Int)) μ = Kx (iz (y_en σ l t)) μ := by
  intro l
  induction l with
  | nil =>
    intro n i t hl hi hn h0 h1 hc
    obtain ⟨n, rfl⟩ : ∃ z, n = z + 1 := ⟨n - 1, by omega⟩
    simp only [List.length_nil] at hi
    rw [L_X10_endOf_7, z_if (z_le32 (by omega) (by omega) (by omega) (by omega)), if_pos (by omega)]
    rfl
  | cons r l ih =>
    intro n i t hl hi hn h0 h1 hc
    obtain ⟨n, rfl⟩ : ∃ z, n = z + 1 := ⟨n - 1, by omega⟩
    simp only [List.length_cons] at hi hn h1 hc
    have a := hl r (by simp)
    have b := y_st_b a.2 t
    have c := y_tk_b w a.1
    have c0 := hc 0 (by omega)
    simp only [List.getD_cons_zero, Nat.add_zero] at c0
    have cl : (iz ((off : Int) + (i : Int))).toNatClampNeg = off + i := by rw [z_cl (by omega) (by omega)]; omega
    rw [L_X10_endOf_7, z_if (z_le32 (by omega) (by omega) (by omega) (by omega)), if_neg (by omega), z_add, z_gd (z_ix (by omega) (by omega) (by omega)), cl, c0, K_earliest h w.1.2.1.2 w.2.1 r a.1 t (by omega), z_bd, c0, K_takes w a.1 h, z_bd, z_le, z_le, z_add, z_a1]
    have := ih n (i + 1) (y_st σ r t + y_tk σ r) (fun s q => hl s (by simp [q])) (by omega) (by omega) (by omega) (by omega) (fun k hk => by
      have := hc (k + 1) (by omega)
      rw [List.getD_cons_succ] at this
      exact z_at this (by omega))
    exact this
theorem K_endOf {σ : y_S} (w : y_W σ) {μ : q_M} (h : y_RM σ μ) {x1 : Nat} {off : Nat} (l : List Nat) (t : Int) (hl : y_Ls σ l) (hq : off + l.length ≤ q_len x1) (hq2 : q_len x1 ≤ 1000) (h0 : 0 ≤ t) (h1 : t + 2640 * l.length ≤ 2000000) (hc : ∀ k, k < l.length → μ.1 x1 (off + k) = iz ((l.getD k 0 : Nat) : Int)) : f_X10_endOf x1 (iz (off : Int)) (iz (l.length : Int)) (iz t) μ = some (iz (y_en σ l t), μ) := by
  unfold f_X10_endOf
  exact K_endl w h (iz t) hq hq2 _ l q_fu 0 t hl (by omega) (by rw [z_fu]; omega) h0 h1 (fun k hk => by rw [Nat.add_zero]; exact hc k hk)
def y_nb (σ : y_S) : List Nat → Int
  | [] => 0
  | r :: l => (if 0 ≤ σ 7 r then 1 else 0) + y_nb σ l
theorem y_nb_b (σ : y_S) : ∀ l : List Nat, 0 ≤ y_nb σ l ∧ y_nb σ l ≤ l.length := by
  intro l
  induction l with
  | nil => unfold y_nb; simp
  | cons r l ih => unfold y_nb; simp only [List.length_cons]; split <;> omega
theorem K_bol {σ : y_S} (w : y_W σ) {μ : q_M} (h : y_RM σ μ) {x1 : Nat} {many : Nat} (hq : many ≤ q_len x1) (hq2 : q_len x1 ≤ 1000) (Kx : Int32 → q_M → Option (Int32 × q_M)) : ∀ (l : List Nat) (n i : Nat) (t : Int), (∀ r, r ∈ l → (r : Int) < σ 0 1) → l.length + i = many → l.length < n → (∀ k, k < l.length → μ.1 x1 (i + k) = iz ((l.getD k 0 : Nat) : Int)) → L_X10_bridgesOf_5 x1 (iz (many : Int)) Kx n (iz t) (iz (i : Int)) μ = Kx (iz (t + y_nb σ l)) μ := by
  intro l
  induction l with
  | nil =>
    intro n i t hl hi hn hc
    obtain ⟨n, rfl⟩ : ∃ z, n = z + 1 := ⟨n - 1, by omega⟩
    simp only [List.length_nil] at hi
    rw [L_X10_bridgesOf_5, z_if (z_le32 (by omega) (by omega) (by omega) (by omega)), if_pos (by omega)]
    unfold y_nb
    rw [Int.add_zero]
  | cons r l ih =>
    intro n i t hl hi hn hc
    obtain ⟨n, rfl⟩ : ∃ z, n = z + 1 := ⟨n - 1, by omega⟩
    simp only [List.length_cons] at hi hn hc
    have a := hl r (by simp)
    have w1 := w.1.2.1.2
    have g := w.2.1 r a
    have w2 := w.1.2.2.1
    have c0 := hc 0 (by omega)
    simp only [List.getD_cons_zero, Nat.add_zero] at c0
    have cl : (iz (i : Int)).toNatClampNeg = i := by rw [z_cl (by omega) (by omega)]; omega
    have cr : (iz (r : Int)).toNatClampNeg = r := by rw [z_cl (by omega) (by omega)]; omega
    have := fun u => ih n (i + 1) u (fun s q => hl s (by simp [q])) (by omega) (by omega) (fun k hk => by
      have := hc (k + 1) (by omega)
      rw [List.getD_cons_succ] at this
      exact z_at this (by omega))
    rw [L_X10_bridgesOf_5, z_if (z_le32 (by omega) (by omega) (by omega) (by omega)), if_neg (by omega), z_gd (z_ix (by omega) (by omega) (by omega)), cl, c0, z_gd (z_ix (by omega) (by omega) (by omega)), cr, m_bridgeOf h, z_if (z_lt0 (by omega) (by omega))]
    simp only [z_le, z_a1]
    rw [show iz t + 0 = iz (t + 0) from z_add t 0]
    unfold y_nb
    by_cases c : σ 7 r < 0
    · rw [if_pos c, if_neg (by omega)]
      exact (this (t + 0)).trans (by congr 2; omega)
    · rw [if_neg c, if_pos (by omega)]
      exact (this (t + 1)).trans (by congr 2; omega)
theorem K_bridgesOf {σ : y_S} (w : y_W σ) {μ : q_M} (h : y_RM σ μ) {x1 : Nat} (l : List Nat) (hl : ∀ r, r ∈ l → (r : Int) < σ 0 1) (hq : l.length ≤ q_len x1) (hq2 : q_len x1 ≤ 1000) (hc : ∀ k, k < l.length → μ.1 x1 k = iz ((l.getD k 0 : Nat) : Int)) : f_X10_bridgesOf x1 (iz (l.length : Int)) μ = some (iz (y_nb σ l), μ) := by
  unfold f_X10_bridgesOf
  have := K_bol w h hq hq2 (fun v3 μ => some (v3, μ)) l q_fu 0 0 hl (by omega) (by rw [z_fu]; omega) (fun k hk => by rw [Nat.zero_add]; exact hc k hk)
  rw [Int.zero_add] at this
  exact this
def y_lx : List Nat → List Nat → Bool
  | [], _ => false
  | _ :: _, [] => false
  | x :: xs, y :: ys => if x = y then y_lx xs ys else decide (x < y)
def y_bt (σ : y_S) (e : Int) (w : List Nat) (E : Int) (b : List Nat) : Bool := if e = E then (if y_nb σ w = y_nb σ b then (if w.length = b.length then y_lx w b else decide (w.length < b.length)) else decide (y_nb σ w < y_nb σ b)) else decide (e < E)
theorem K_ib116 {μ : q_M} (x1 : Int32) {sz : Nat} (hsz : sz ≤ 12) (hs : μ.1 137 34 = iz (sz : Int)) : ∀ (a b : List Nat) (n i : Nat), a.length = b.length → a.length + i = sz → a.length < n → (∀ r, r ∈ a → r < 12) → (∀ r, r ∈ b → r < 12) → (∀ k, k < a.length → μ.1 159 (i + k) = iz ((a.getD k 0 : Nat) : Int)) → (∀ k, k < b.length → μ.1 161 (i + k) = iz ((b.getD k 0 : Nat) : Int)) → L_X10_isBetter_116 x1 (fun v4 μ => J_X10_isBetter_148 x1 v4 μ) n (iz (i : Int)) μ = some (y_bI (y_lx a b), μ) := by
  intro a
  induction a with
  | nil =>
    intro b n i hb hi hn ra rb ha hb2
    obtain ⟨n, rfl⟩ : ∃ z, n = z + 1 := ⟨n - 1, by omega⟩
    simp only [List.length_nil] at hi
    rw [L_X10_isBetter_116, hs, z_if (z_le32 (by omega) (by omega) (by omega) (by omega)), if_pos (by omega)]
    unfold J_X10_isBetter_148
    rw [hs, z_if (z_le32 (by omega) (by omega) (by omega) (by omega)), if_pos (by omega)]
    rfl
  | cons x a ih =>
    intro b n i hb hi hn ra rb ha hb2
    cases b with
    | nil => cases hb
    | cons y b =>
      obtain ⟨n, rfl⟩ : ∃ z, n = z + 1 := ⟨n - 1, by omega⟩
      simp only [List.length_cons] at hi hn ha hb hb2
      have a0 := ha 0 (by omega)
      have b0 := hb2 0 (by omega)
      have rx := ra x (by simp)
      have ry := rb y (by simp)
      simp only [List.getD_cons_zero, Nat.add_zero] at a0 b0
      have cl : (iz (i : Int)).toNatClampNeg = i := by rw [z_cl (by omega) (by omega)]; omega
      rw [L_X10_isBetter_116, hs, z_if (z_le32 (by omega) (by omega) (by omega) (by omega)), if_neg (by omega), z_gd (z_ix (by omega) (by omega) (by omega)), cl, a0, b0, z_if (z_eq32 (by omega) (by omega) (by omega) (by omega))]
      unfold y_lx
      by_cases c : x = y
      · rw [if_pos (by omega), if_pos c, z_le, z_a1]
        exact ih b n (i + 1) (by omega) (by omega) (by omega) (fun r q => ra r (by simp [q])) (fun r q => rb r (by simp [q])) (fun k hk => by
          have := ha (k + 1) (by omega)
          rw [List.getD_cons_succ] at this
          exact z_at this (by omega)) (fun k hk => by
          have := hb2 (k + 1) (by omega)
          rw [List.getD_cons_succ] at this
          exact z_at this (by omega))
      · rw [if_neg (by omega), if_neg c]
        unfold J_X10_isBetter_148
        rw [hs, z_if (z_le32 (by omega) (by omega) (by omega) (by omega)), if_neg (by omega), z_gd (z_ix (by omega) (by omega) (by omega)), cl, a0, b0, z_if (z_le32 (by omega) (by omega) (by omega) (by omega))]
        by_cases d : x < y
        · rw [if_neg (by omega)]; simp [y_bI, d]
        · rw [if_pos (by omega)]; simp [y_bI, d]
