def y_Fb (μ μ' : q_M) : Prop := (∀ a, a ≠ 162 → μ'.1 a = μ.1 a) ∧ ∀ a, a ≠ 137 → μ'.2 a = μ.2 a
theorem y_Fb.RM {σ : y_S} {μ μ' : q_M} (f : y_Fb μ μ') (h : y_RM σ μ) : y_RM σ μ' := by
  refine ⟨fun j hj => ?_, fun c h1 h2 j => ?_⟩
  · rw [f.1 137 (by decide)]; exact h.1 j hj
  · rw [f.1 _ (by omega)]; exact h.2 c h1 h2 j
theorem y_Fb.Fm {μ μ' : q_M} (f : y_Fb μ μ') : y_Fm μ μ' := fun a ha => ⟨f.1 a (by omega), f.2 a (by omega)⟩
theorem y_Fb.tr {μ μ1 μ2 : q_M} (f : y_Fb μ μ1) (g : y_Fb μ1 μ2) : y_Fb μ μ2 := ⟨fun a h => (g.1 a h).trans (f.1 a h), fun a h => (g.2 a h).trans (f.2 a h)⟩
theorem y_Sc.Fb {μ μ' : q_M} (f : y_Sc μ μ') : y_Fb μ μ' := ⟨fun a _ => by rw [f.1], f.2⟩
theorem y_why_b (σ : y_S) (r : Nat) : 0 ≤ y_why σ r ∧ y_why σ r ≤ 4 := by
  unfold y_why
  repeat (split <;> try omega)
theorem K_fbl {σ : y_S} (w : y_W σ) (Kx : q_M → Option (Unit × q_M)) : ∀ (d n i : Nat) (μ : q_M), i + d = (σ 0 1).toNat → d < n → y_RM σ μ → (∀ r, r < i → μ.1 162 r = y_bI (y_ok σ r)) → ∃ μ', L_X10_findBearing_2 Kx n (iz (i : Int)) μ = Kx μ' ∧ (∀ r : Nat, (r : Int) < σ 0 1 → μ'.1 162 r = y_bI (y_ok σ r)) ∧ y_Fb μ μ' := by
  have w1 := w.1.2.1
  intro d
  induction d with
  | zero =>
    intro n i μ hi hn h hb
    obtain ⟨n, rfl⟩ : ∃ z, n = z + 1 := ⟨n - 1, by omega⟩
    rw [L_X10_findBearing_2, m_roads h, z_if (z_le32 (by omega) (by omega) (by omega) (by omega)), if_pos (by omega)]
    exact ⟨μ, rfl, fun r q => hb r (by omega), ⟨fun _ _ => rfl, fun _ _ => rfl⟩⟩
  | succ d ih =>
    intro n i μ hi hn h hb
    obtain ⟨n, rfl⟩ : ∃ z, n = z + 1 := ⟨n - 1, by omega⟩
    have hr : (i : Int) < σ 0 1 := by omega
    have cl : (iz (i : Int)).toNatClampNeg = i := by rw [z_cl (by omega) (by omega)]; omega
    have g1 : ∀ {α : Type} (y : Option α), q_gd (q_ix (iz (i : Int)) 12) y = y := fun y => z_gd (z_ix (by omega) (by omega) (by omega))
    obtain ⟨μ1, f1, s1⟩ := K_why w hr h
    have h1 := s1.RM h
    have yb := y_why_b σ i
    rw [L_X10_findBearing_2, m_roads h, z_if (z_le32 (by omega) (by omega) (by omega) (by omega)), if_neg (by omega), f1, z_bd, z_if (z_eq0 (by omega) (by omega))]
    have key : ∀ x : Int32, x = y_bI (y_ok σ i) → ∃ μ', L_X10_findBearing_2 Kx n (iz ((i + 1 : Nat) : Int)) (q_si μ1 162 i x) = Kx μ' ∧ (∀ r : Nat, (r : Int) < σ 0 1 → μ'.1 162 r = y_bI (y_ok σ r)) ∧ y_Fb μ μ' := by
      intro x hx
      have F1 : y_Fb μ (q_si μ1 162 i x) := s1.Fb.tr ⟨fun a q => q_si_row q, fun _ _ => rfl⟩
      obtain ⟨μ', f, b, F⟩ := ih n (i + 1) (q_si μ1 162 i x) (by omega) (by omega) (F1.RM h) (fun r q => by
        rw [z_si1]
        by_cases e : r = i
        · rw [if_pos ⟨rfl, e⟩, hx, e]
        · rw [if_neg (fun q => e q.2), s1.1]; exact hb r (by omega))
      exact ⟨μ', f, b, F1.tr F⟩
    have eok : ∀ b : Bool, (y_ea σ i 0 1440 0).isSome = b → y_why σ i = 0 → y_ok σ i = b := fun b q1 q2 => by unfold y_ok; simp [q1, q2]
    by_cases c : y_why σ i = 0
    · have E := K_earliest h1 w1.2 w.2.1 i hr 0 (by omega)
      rw [if_pos c, show f_X10_earliest (iz (i : Int)) 0 μ1 = _ from E, z_bd]
      cases e : y_ea σ i 0 1440 0 with
      | none =>
        rw [if_pos (by rfl), g1, cl]
        simp only [z_le, z_a1]
        exact key 0 (by rw [eok false (by rw [e]; rfl) c]; rfl)
      | some v =>
        obtain ⟨j, p1, p2, p3, -⟩ := y_ea_ex 1440 0 v e
        have : ¬ iz (y_er (some v) (-2)) = -2 := by
          rw [z_eqn (by show -2147483648 ≤ v; omega) (by show v < 2147483648; omega)]
          show ¬ v = -2
          omega
        rw [if_neg this, g1, cl]
        simp only [z_le, z_a1]
        exact key 1 (by rw [eok true (by rw [e]; rfl) c]; rfl)
    · rw [if_neg c, g1, cl]
      simp only [z_le, z_a1]
      exact key 0 (by unfold y_ok; simp [c, y_bI])
theorem K_findBearing {σ : y_S} (w : y_W σ) {μ : q_M} (h : y_RM σ μ) : ∃ μ', f_X10_findBearing μ = some ((), μ') ∧ (∀ r : Nat, (r : Int) < σ 0 1 → μ'.1 162 r = y_bI (y_ok σ r)) ∧ y_Fb μ μ' := by
  have w1 := w.1.2.1
  unfold f_X10_findBearing
  exact K_fbl w (fun μ => some ((), μ)) (σ 0 1).toNat q_fu 0 μ (by omega) (by rw [z_fu]; omega) h (fun r q => by omega)
def y_v0 (σ : y_S) : Nat → Bool := fun k => decide (k = (σ 0 8).toNat)
def y_ws (σ : y_S) : List (List Nat) := y_ds σ 6 (σ 0 8) (y_v0 σ) []
def y_bs (σ : y_S) (L : Int) : List Nat := (y_ws σ).foldl (y_jd σ L) []
theorem y_v0_cn {σ : y_S} (w : y_W σ) : y_cn (y_v0 σ) = 6 := by
  have w8 := w.1.2.2.2.2.2.2.2.2.1
  unfold y_v0
  have : ∀ k, k < 7 → y_cn (fun j => decide (j = k)) = 6 := by decide
  exact this (σ 0 8).toNat (by omega)
theorem K_s26 {σ : y_S} (w : y_W σ) (x1 : Int32) (Kx : q_M → Option (Unit × q_M)) : ∀ (d n i : Nat) (μ : q_M), i + d = 7 → d < n → y_RM σ μ → (∀ k, k < i → μ.1 160 k = y_bI (y_v0 σ k)) → ∃ μ', L_X10_search_26 x1 Kx n (iz (i : Int)) μ = Kx μ' ∧ (∀ k, k < 7 → μ'.1 160 k = y_bI (y_v0 σ k)) ∧ (∀ a, a ≠ 160 → μ'.1 a = μ.1 a) ∧ μ'.2 = μ.2 := by
  have w8 := w.1.2.2.2.2.2.2.2.2.1
  intro d
  induction d with
  | zero =>
    intro n i μ hi hn h hb
    obtain ⟨n, rfl⟩ : ∃ z, n = z + 1 := ⟨n - 1, by omega⟩
    rw [L_X10_search_26, if_pos (by rw [show (7 ≤ iz (i : Int)) = (7 ≤ (i : Int)) from z_le32 (a := 7) (by omega) (by omega) (by omega) (by omega)]; omega)]
    exact ⟨μ, rfl, fun k q => hb k (by omega), fun _ _ => rfl, rfl⟩
  | succ d ih =>
    intro n i μ hi hn h hb
    obtain ⟨n, rfl⟩ : ∃ z, n = z + 1 := ⟨n - 1, by omega⟩
    have cl : (iz (i : Int)).toNatClampNeg = i := by rw [z_cl (by omega) (by omega)]; omega
    have g1 : ∀ {α : Type} (y : Option α), q_gd (q_ix (iz (i : Int)) 7) y = y := fun y => z_gd (z_ix (by omega) (by omega) (by omega))
    rw [L_X10_search_26, if_neg (by rw [show (7 ≤ iz (i : Int)) = (7 ≤ (i : Int)) from z_le32 (a := 7) (by omega) (by omega) (by omega) (by omega)]; omega), m_from h, z_if (z_eq32 (by omega) (by omega) (by omega) (by omega))]
    simp only [g1, cl, z_le, z_a1]
    have key : ∀ x : Int32, x = y_bI (y_v0 σ i) → ∃ μ', L_X10_search_26 x1 Kx n (iz ((i + 1 : Nat) : Int)) (q_si μ 160 i x) = Kx μ' ∧ (∀ k, k < 7 → μ'.1 160 k = y_bI (y_v0 σ k)) ∧ (∀ a, a ≠ 160 → μ'.1 a = μ.1 a) ∧ μ'.2 = μ.2 := by
      intro x hx
      obtain ⟨μ', f, b, F, F2⟩ := ih n (i + 1) (q_si μ 160 i x) (by omega) (by omega) (y_scr h (by omega) (by omega)) (fun k q => by
        rw [z_si1]
        by_cases e : k = i
        · rw [if_pos ⟨rfl, e⟩, hx, e]
        · rw [if_neg (fun q => e q.2)]; exact hb k (by omega))
      exact ⟨μ', f, b, fun a ha => (F a ha).trans (q_si_row ha), F2⟩
    by_cases c : (i : Int) = σ 0 8
    · rw [if_pos c]
      exact key 1 (by unfold y_v0; rw [decide_eq_true (by omega)]; rfl)
    · rw [if_neg c]
      exact key 0 (by unfold y_v0; rw [decide_eq_false (by omega)]; rfl)
theorem K_search {σ : y_S} (w : y_W σ) (wf : y_WF σ) {L : Int} (hL2 : 0 ≤ L ∧ L ≤ 1000000000) {μ : q_M} (h : y_RM σ μ) : ∃ μ', f_X10_search (iz L) μ = some ((), μ') ∧ y_RM σ μ' ∧ y_Bs σ (y_bs σ L) μ' ∧ μ'.1 137 40 = iz ((y_ws σ).length : Int) ∧ y_Fm μ μ' := by
  have w8 := w.1.2.2.2.2.2.2.2.2.1
  unfold f_X10_search
  obtain ⟨μ1, f1, b1, F1⟩ := K_findBearing w h
  have h1 := F1.RM h
  rw [f1, z_bd]
  simp only [z_le]
  have h2 : y_RM σ (q_si (q_si (q_si (q_si μ1 137 39 (iz L)) 137 37 0) 137 34 0) 137 40 0) := y_scr (y_scr (y_scr (y_scr h1 (fun _ => by decide) (by omega)) (fun _ => by decide) (by omega)) (fun _ => by decide) (by omega)) (fun _ => by decide) (by omega)
  obtain ⟨μ2, f2, v2, F2, F2L⟩ := K_s26 w (iz L) (fun μ => q_bd (f_X10_goThrough μ) (fun u15 μ15 => some ((), μ15))) 7 q_fu 0 _ (by omega) (by rw [z_fu]; omega) h2 (fun k q => by omega)
  rw [show iz ((0 : Nat) : Int) = (0 : Int32) from rfl] at f2
  rw [f2]
  have h3 : y_RM σ μ2 := by
    refine ⟨fun j hj => ?_, fun c q1 q2 j => ?_⟩
    · rw [F2 137 (by decide)]; exact h2.1 j hj
    · rw [F2 _ (by omega)]; exact h2.2 c q1 q2 j
  unfold f_X10_goThrough
  rw [z_gd (by decide), z_le, z_le, m_from h3, show (0 : Int32).toNatClampNeg = 0 from rfl]
  have R : y_Rs σ L [] 0 [] (fun _ => σ 0 8) (fun _ => 0) (y_v0 σ) (q_si (q_si μ2 163 0 (iz (σ 0 8))) 164 0 0) := by
    refine ⟨y_scr (y_scr h3 (by omega) (by omega)) (by omega) (by omega), ⟨?_, fun q => absurd rfl q, fun k q => absurd q (Nat.not_lt_zero k), fun r q => absurd q List.not_mem_nil, Nat.zero_le 12⟩, ⟨?_, ?_, ?_⟩, fun k q => absurd q (Nat.not_lt_zero k), fun k q => ?_, fun k q => ?_, fun r q => ?_⟩
    · simp only [z_si1, Nat.reduceEqDiff, false_and, if_false]; rw [F2 137 (by decide)]
      simp only [z_si1, Nat.reduceEqDiff, and_false, and_self, if_false, if_true]; rfl
    · simp only [z_si1, Nat.reduceEqDiff, false_and, if_false]; rw [F2 137 (by decide)]
      simp only [z_si1, Nat.reduceEqDiff, and_false, and_self, if_false, if_true]; rfl
    · simp only [z_si1, Nat.reduceEqDiff, false_and, if_false]; rw [F2 137 (by decide)]
      simp only [z_si1, Nat.reduceEqDiff, and_false, and_self, if_false, if_true]
    · simp only [z_si1, Nat.reduceEqDiff, false_and, if_false]; rw [F2 137 (by decide)]
      simp only [z_si1, and_self, if_true]; rfl
    · have : k = 0 := by simpa using q
      subst this
      constructor
      · simp only [z_si1, Nat.reduceEqDiff, false_and, if_false, and_self, if_true]
      · simp only [z_si1, and_self, if_true]; rfl
    · simp only [z_si1, Nat.reduceEqDiff, false_and, if_false]; exact v2 k q
    · simp only [z_si1, Nat.reduceEqDiff, false_and, if_false]; rw [F2 162 (by decide)]
      simp only [z_si1, Nat.reduceEqDiff, false_and, if_false]; exact b1 r q
  have cn := y_v0_cn w
  have hco : y_co 6 < q_fu := by rw [z_fu]; decide
  obtain ⟨n', μ', T', f3, c3, R3, -, F3⟩ := K_go w wf hL2 (fun μ => some ((), μ)) 6 q_fu _ [] _ _ _ [] 0 (σ 0 8) R rfl rfl w8 (by unfold y_v0; simp) (by omega) (by simp only [List.length_nil]; omega) (fun r q => by cases q) hco
  rw [f3]
  obtain ⟨n', rfl⟩ : ∃ z, n' = z + 1 := ⟨n' - 1, by omega⟩
  rw [L_X10_goThrough_19, if_pos (by rfl), z_bd]
  refine ⟨μ', rfl, R3.1, R3.2.1, ?_, ?_⟩
  · rw [R3.2.2.1.2.2, Int.zero_add]; rfl
  · refine F1.Fm.tr (y_Fm.tr ?_ F3)
    intro a ha
    constructor
    · rw [q_si_row (by omega), q_si_row (by omega), F2 a (by omega), q_si_row (by omega), q_si_row (by omega), q_si_row (by omega), q_si_row (by omega)]
    · show μ2.2 a = μ1.2 a
      rw [F2L]; rfl
def n_keep (σ : y_S) (B : List Nat) : y_S := y_up (y_up (fun c j => if c = 19 ∧ 12 * (σ 0 6).toNat ≤ j ∧ j < 12 * (σ 0 6).toNat + B.length then ((B.getD (j - 12 * (σ 0 6).toNat) 0 : Nat) : Int) else σ c j) 20 (σ 0 6).toNat (B.length : Int)) 0 6 (σ 0 6 + 1)
def y_k1 (σ : y_S) (B : List Nat) (f i : Nat) : y_S := fun c j => if c = 19 ∧ 12 * f ≤ j ∧ j < 12 * f + i then ((B.getD (j - 12 * f) 0 : Nat) : Int) else σ c j
theorem K_kl {σ : y_S} (w : y_W σ) (h6 : σ 0 6 < 5) {B : List Nat} (hB : B.length ≤ 12) (Kx : q_M → Option (Unit × q_M)) : ∀ (d n i : Nat) (μ : q_M), i + d = B.length → d < n → y_RM (y_k1 σ B (σ 0 6).toNat i) μ → μ.1 137 37 = iz (B.length : Int) → y_la μ 161 B → ∃ μ', L_X10_keep_2 Kx n (iz (i : Int)) μ = Kx μ' ∧ y_RM (y_k1 σ B (σ 0 6).toNat B.length) μ' ∧ (∀ a, a ≠ 156 → μ'.1 a = μ.1 a) ∧ μ'.2 = μ.2 := by
  have w6 := w.1.2.2.2.2.2.2.1
  intro d
  induction d with
  | zero =>
    intro n i μ hi hn h hs hb
    obtain ⟨n, rfl⟩ : ∃ z, n = z + 1 := ⟨n - 1, by omega⟩
    rw [L_X10_keep_2, hs, z_if (z_le32 (by omega) (by omega) (by omega) (by omega)), if_pos (by omega)]
    exact ⟨μ, rfl, by rw [← hi]; exact h, fun _ _ => rfl, rfl⟩
  | succ d ih =>
    intro n i μ hi hn h hs hb
    obtain ⟨n, rfl⟩ : ∃ z, n = z + 1 := ⟨n - 1, by omega⟩
    have cl : (iz (i : Int)).toNatClampNeg = i := by rw [z_cl (by omega) (by omega)]; omega
    have e6 : y_k1 σ B (σ 0 6).toNat i 0 6 = σ 0 6 := by simp [y_k1]
    have m6 := m_found h
    rw [e6] at m6
    have ci : (iz (12 * σ 0 6 + (i : Int))).toNatClampNeg = 12 * (σ 0 6).toNat + i := by rw [z_cl (by omega) (by omega)]; omega
    rw [L_X10_keep_2, hs, z_if (z_le32 (by omega) (by omega) (by omega) (by omega)), if_neg (by omega), m6, show 12 * iz (σ 0 6) = iz (12 * σ 0 6) from z_mul 12 _, z_add, z_gd (z_ix (by omega) (by omega) (by omega)), z_gd (z_ix (by omega) (by omega) (by omega)), cl, ci, hb i (by omega)]
    simp only [z_le, z_a1]
    have R := y_setA h (c := 19) (j := 12 * (σ 0 6).toNat + i) (v := ((B.getD i 0 : Nat) : Int)) (by decide) (by decide) rfl rfl
    have eu : y_up (y_k1 σ B (σ 0 6).toNat i) 19 (12 * (σ 0 6).toNat + i) ((B.getD i 0 : Nat) : Int) = y_k1 σ B (σ 0 6).toNat (i + 1) := by
      funext c j
      unfold y_up y_k1
      by_cases c1 : c = 19
      · by_cases c2 : j = 12 * (σ 0 6).toNat + i
        · rw [if_pos ⟨c1, c2⟩, if_pos ⟨c1, by omega, by omega⟩, show j - 12 * (σ 0 6).toNat = i by omega]
        · rw [if_neg (fun q => c2 q.2)]
          by_cases c3 : 12 * (σ 0 6).toNat ≤ j ∧ j < 12 * (σ 0 6).toNat + i
          · rw [if_pos ⟨c1, c3⟩, if_pos ⟨c1, by omega, by omega⟩]
          · rw [if_neg (fun q => c3 q.2), if_neg (by omega)]
      · rw [if_neg (fun q => c1 q.1), if_neg (fun q => c1 q.1), if_neg (fun q => c1 q.1)]
    rw [eu] at R
    obtain ⟨μ', f, a, b, c⟩ := ih n (i + 1) _ (by omega) (by omega) R hs hb
    exact ⟨μ', f, a, fun x hx => (b x hx).trans (q_si_row hx), c⟩
theorem K_keep {σ : y_S} (w : y_W σ) (h6 : σ 0 6 < 5) {B : List Nat} {μ : q_M} (h : y_RM σ μ) (hB : y_Bs σ B μ) : ∃ μ', f_X10_keep μ = some ((), μ') ∧ y_RM (n_keep σ B) μ' ∧ μ'.1 137 38 = μ.1 137 38 ∧ y_Fm μ μ' := by
  have w6 := w.1.2.2.2.2.2.2.1
  have l12 := hB.2.2.2.2
  unfold f_X10_keep
  have h0 : y_RM (y_k1 σ B (σ 0 6).toNat 0) μ := by
    have : y_k1 σ B (σ 0 6).toNat 0 = σ := by
      funext c j
      unfold y_k1
      rw [if_neg (by omega)]
    rw [this]; exact h
  obtain ⟨μ1, f1, a1, b1, c1⟩ := K_kl w h6 l12 (fun μ => q_gd (q_ix (μ.1 137 28) 5) (q_le (q_si μ 157 (μ.1 137 28).toNatClampNeg (μ.1 137 37)) (fun μ7 => q_le (q_si μ7 137 28 ((μ7.1 137 28) + 1)) (fun μ8 => some ((), μ8))))) B.length q_fu 0 μ (by omega) (by rw [z_fu]; omega) h0 hB.1 hB.2.2.1
  rw [show iz ((0 : Nat) : Int) = (0 : Int32) from rfl] at f1
  have e6 : y_k1 σ B (σ 0 6).toNat B.length 0 6 = σ 0 6 := by simp [y_k1]
  have m6 := m_found a1
  rw [e6] at m6
  have s1 : μ1.1 137 37 = iz (B.length : Int) := by rw [b1 137 (by decide)]; exact hB.1
  rw [f1, m6, z_gd (z_ix (by omega) (by omega) (by omega)), z_cl (by omega) (by omega), s1, z_le, z_le]
  have e7 : (q_si μ1 157 (σ 0 6).toNat (iz (B.length : Int))).1 137 28 = iz (σ 0 6) := m6
  rw [e7, z_a1]
  refine ⟨_, rfl, y_set0 (y_setA a1 (by decide) (by decide) rfl rfl) (by decide) rfl rfl, ?_, ?_⟩
  · simp only [z_si1, Nat.reduceEqDiff, and_false, false_and, if_false]
    rw [b1 137 (by decide)]
  · refine (y_Fm.si (y_Fm.si ?_ (by decide)) (by decide))
    exact fun a ha => ⟨b1 a (by omega), by rw [c1]⟩
