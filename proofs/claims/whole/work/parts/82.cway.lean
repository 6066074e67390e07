def y_sa (σ : y_S) (l : List Nat) (i : Nat) : Int := y_st σ (l.getD i 0) (y_en σ (l.take i) (σ 0 10))
def y_Wf (σ : y_S) (μ : q_M) (k : Nat) (l : List Nat) : Prop := μ.1 k 2 = iz (l.length : Int) ∧ y_la μ (k + 8) l ∧ (∀ i, i < l.length → μ.1 (k + 16) i = iz (y_sa σ l i)) ∧ μ.1 k 3 = iz (y_en σ l (σ 0 10)) ∧ μ.1 k 4 = iz (y_nb σ l) ∧ ∀ b, b < 32 → bt (μ.1 k 5) b = decide (b ∈ l)
theorem y_Wf.eq {σ : y_S} {μ μ' : q_M} {k : Nat} {l : List Nat} (h : y_Wf σ μ k l) (e1 : μ'.1 k = μ.1 k) (e2 : μ'.1 (k + 8) = μ.1 (k + 8)) (e3 : μ'.1 (k + 16) = μ.1 (k + 16)) : y_Wf σ μ' k l := by
  unfold y_Wf y_la at *
  rw [e1, e2, e3]
  exact h
def y_RF (σ : y_S) (μ : q_M) : Prop := (∀ f : Nat, (f : Int) < σ 0 6 → y_Wf σ μ (113 + f) (y_fw σ f)) ∧ μ.1 118 2 = iz 0
def y_WP (σ : y_S) : Prop := ∀ f : Nat, (f : Int) < σ 0 6 → y_good σ (y_fw σ f)
theorem K_cpw {x0 x1 : Nat} (hx : 113 ≤ x0 ∧ x0 ≤ 120 ∧ 113 ≤ x1 ∧ x1 ≤ 120 ∧ x0 ≠ x1) (Kx : q_M → Option (Unit × q_M)) : ∀ (d n i : Nat) (μ : q_M), i + d = 6 → d < n → ∃ μ', L_X7_copyFrom_2 x0 x1 Kx n (iz (i : Int)) μ = Kx μ' ∧ (∀ j, i ≤ j → j < 6 → μ'.1 (x0 + 8) j = μ.1 (x1 + 8) j ∧ μ'.1 (x0 + 16) j = μ.1 (x1 + 16) j) ∧ (∀ j, j < i → μ'.1 (x0 + 8) j = μ.1 (x0 + 8) j ∧ μ'.1 (x0 + 16) j = μ.1 (x0 + 16) j) ∧ (∀ a, a ≠ x0 + 8 → a ≠ x0 + 16 → μ'.1 a = μ.1 a) ∧ μ'.2 = μ.2 := by
  intro d
  induction d with
  | zero =>
    intro n i μ hi hn
    obtain ⟨n, rfl⟩ : ∃ z, n = z + 1 := ⟨n - 1, by omega⟩
    rw [L_X7_copyFrom_2, z_if (show (6 ≤ iz (i : Int)) = ((6 : Int) ≤ i) from z_le32 (a := 6) (by omega) (by omega) (by omega) (by omega)), if_pos (by omega)]
    exact ⟨μ, rfl, fun j h1 h2 => by omega, fun j _ => ⟨rfl, rfl⟩, fun _ _ _ => rfl, rfl⟩
  | succ d ih =>
    intro n i μ hi hn
    obtain ⟨n, rfl⟩ : ∃ z, n = z + 1 := ⟨n - 1, by omega⟩
    have cl : (iz (i : Int)).toNatClampNeg = i := by rw [z_cl (by omega) (by omega)]; omega
    rw [L_X7_copyFrom_2, z_if (show (6 ≤ iz (i : Int)) = ((6 : Int) ≤ i) from z_le32 (a := 6) (by omega) (by omega) (by omega) (by omega)), if_neg (by omega), z_gd (z_ix (by omega) (by omega) (by omega)), cl, z_le, z_le, z_le, z_a1]
    generalize hμ1 : q_si (q_si μ (x0 + 8) i (μ.1 (x1 + 8) i)) (x0 + 16) i ((q_si μ (x0 + 8) i (μ.1 (x1 + 8) i)).1 (x1 + 16) i) = μ1
    have g : ∀ a, a ≠ x0 + 8 → a ≠ x0 + 16 → μ1.1 a = μ.1 a := fun a h1 h2 => by rw [← hμ1, q_si_row h2, q_si_row h1]
    have g8 : ∀ j, μ1.1 (x0 + 8) j = if j = i then μ.1 (x1 + 8) i else μ.1 (x0 + 8) j := fun j => by
      rw [← hμ1, q_si_row (by omega), z_si1]
      by_cases e : j = i
      · rw [if_pos ⟨rfl, e⟩, if_pos e]
      · rw [if_neg (fun q => e q.2), if_neg e]
    have g16 : ∀ j, μ1.1 (x0 + 16) j = if j = i then μ.1 (x1 + 16) i else μ.1 (x0 + 16) j := fun j => by
      rw [← hμ1, z_si1]
      by_cases e : j = i
      · rw [if_pos ⟨rfl, e⟩, if_pos e, q_si_row (by omega)]
      · rw [if_neg (fun q => e q.2), if_neg e, q_si_row (by omega)]
    obtain ⟨μ', f, a1, a2, a3, a4⟩ := ih n (i + 1) μ1 (by omega) (by omega)
    refine ⟨μ', f, fun j h1 h2 => ?_, fun j hj => ?_, fun a h1 h2 => (a3 a h1 h2).trans (g a h1 h2), a4.trans (by rw [← hμ1]; rfl)⟩
    · by_cases e : j = i
      · subst e
        have := a2 j (by omega)
        rw [this.1, this.2, g8, g16, if_pos rfl, if_pos rfl]
        exact ⟨rfl, rfl⟩
      · have := a1 j (by omega) h2
        rw [this.1, this.2, g (x1 + 8) (by omega) (by omega), g (x1 + 16) (by omega) (by omega)]
        exact ⟨rfl, rfl⟩
    · have := a2 j (by omega)
      rw [this.1, this.2, g8, g16, if_neg (by omega), if_neg (by omega)]
      exact ⟨rfl, rfl⟩
theorem K_copy {σ : y_S} {x0 x1 : Nat} (hx : 113 ≤ x0 ∧ x0 ≤ 120 ∧ 113 ≤ x1 ∧ x1 ≤ 120 ∧ x0 ≠ x1) {μ : q_M} {l : List Nat} (hl : l.length ≤ 6) (h : y_Wf σ μ x1 l) : ∃ μ', f_X7_copyFrom x0 x1 μ = some ((), μ') ∧ y_Wf σ μ' x0 l ∧ (∀ a, a ≠ x0 → a ≠ x0 + 8 → a ≠ x0 + 16 → μ'.1 a = μ.1 a) ∧ μ'.2 = μ.2 := by
  unfold f_X7_copyFrom
  obtain ⟨μ1, f1, a1, -, a3, a4⟩ := K_cpw hx (fun μ => q_le (q_si μ x0 2 (μ.1 x1 2)) (fun μ6 => q_le (q_si μ6 x0 3 (μ6.1 x1 3)) (fun μ7 => q_le (q_si μ7 x0 4 (μ7.1 x1 4)) (fun μ8 => q_le (q_si μ8 x0 5 (μ8.1 x1 5)) (fun μ9 => some ((), μ9)))))) 6 q_fu 0 μ (by omega) (by rw [z_fu]; omega)
  rw [show iz ((0 : Nat) : Int) = 0 from rfl] at f1
  rw [f1, z_le, z_le, z_le, z_le]
  have x1c : ∀ j, μ1.1 x1 j = μ.1 x1 j := fun j => by rw [a3 x1 (by omega) (by omega)]
  obtain ⟨h1, h2, h3, h4, h5, h6⟩ := h
  refine ⟨_, rfl, ⟨?_, fun k hk => ?_, fun k hk => ?_, ?_, ?_, fun b hb => ?_⟩, fun a b1 b2 b3 => ?_, ?_⟩
  · rw [z_si1, if_neg (by omega), z_si1, if_neg (by omega), z_si1, if_neg (by omega), z_si1, if_pos ⟨rfl, rfl⟩, x1c, h1]
  · rw [q_si_row (by omega), q_si_row (by omega), q_si_row (by omega), q_si_row (by omega), (a1 k (by omega) (by omega)).1, h2 k hk]
  · rw [q_si_row (by omega), q_si_row (by omega), q_si_row (by omega), q_si_row (by omega), (a1 k (by omega) (by omega)).2, h3 k hk]
  · rw [z_si1, if_neg (by omega), z_si1, if_neg (by omega), z_si1, if_pos ⟨rfl, rfl⟩, z_si1, if_neg (by omega), x1c, h4]
  · rw [z_si1, if_neg (by omega), z_si1, if_pos ⟨rfl, rfl⟩, z_si1, if_neg (by omega), z_si1, if_neg (by omega), x1c, h5]
  · rw [z_si1, if_pos ⟨rfl, rfl⟩, z_si1, if_neg (by omega), z_si1, if_neg (by omega), z_si1, if_neg (by omega), x1c, h6 b hb]
  · rw [q_si_row (by omega), q_si_row (by omega), q_si_row (by omega), q_si_row (by omega), a3 a b2 b3]
  · rw [z_si2, z_si2, z_si2, z_si2, a4]
theorem K_cl86 {x0 x1 many : Nat} {μ : q_M} (hm : many ≤ 6) (hs : μ.1 x0 2 = iz (many : Int)) : ∀ (a b : List Nat) (n i : Nat), a.length = b.length → a.length + i = many → a.length < n → (∀ r, r ∈ a → r < 12) → (∀ r, r ∈ b → r < 12) → (∀ k, k < a.length → μ.1 (x0 + 8) (i + k) = iz ((a.getD k 0 : Nat) : Int)) → (∀ k, k < b.length → μ.1 (x1 + 8) (i + k) = iz ((b.getD k 0 : Nat) : Int)) → L_X7_isBetterThan_86 x0 x1 (fun μ => some (0, μ)) n (iz (i : Int)) μ = some (y_bI (y_lx a b), μ) := by
  intro a
  induction a with
  | nil =>
    intro b n i hab hi hn ha hb ca cb
    obtain ⟨n, rfl⟩ : ∃ z, n = z + 1 := ⟨n - 1, by simp at hn; omega⟩
    simp at hi
    rw [L_X7_isBetterThan_86, hs, z_if (z_le32 (by omega) (by omega) (by omega) (by omega)), if_pos (by omega)]
    rfl
  | cons x a ih =>
    intro b n i hab hi hn ha hb ca cb
    obtain ⟨n, rfl⟩ : ∃ z, n = z + 1 := ⟨n - 1, by simp at hn; omega⟩
    cases b with
    | nil => simp at hab
    | cons y b =>
      simp only [List.length_cons] at hi hn hab
      have hx := ha x List.mem_cons_self
      have hy := hb y List.mem_cons_self
      have c0 := ca 0 (by simp)
      have c1 := cb 0 (by simp)
      simp only [Nat.add_zero, List.getD_cons_zero] at c0 c1
      have cl : (iz (i : Int)).toNatClampNeg = i := by rw [z_cl (by omega) (by omega)]; omega
      rw [L_X7_isBetterThan_86, hs, z_if (z_le32 (by omega) (by omega) (by omega) (by omega)), if_neg (by omega), z_gd (z_ix (by omega) (by omega) (by omega)), cl, c0, c1, z_if (z_eq32 (by omega) (by omega) (by omega) (by omega)), z_if (z_le32 (by omega) (by omega) (by omega) (by omega)), z_le, z_a1]
      unfold y_lx
      by_cases e : x = y
      · rw [if_pos (by omega), if_pos e]
        exact ih b n (i + 1) (by omega) (by omega) (by omega) (fun r q => ha r (List.mem_cons_of_mem _ q)) (fun r q => hb r (List.mem_cons_of_mem _ q)) (fun k hk => by
          have := ca (k + 1) (by simp; omega)
          rw [List.getD_cons_succ] at this
          exact z_at this (by omega)) (fun k hk => by
          have := cb (k + 1) (by simp; omega)
          rw [List.getD_cons_succ] at this
          exact z_at this (by omega))
      · rw [if_neg (by omega), if_neg e]
        by_cases c : x < y
        · rw [if_neg (by omega), decide_eq_true c]; rfl
        · rw [if_pos (by omega), decide_eq_false c]; rfl
theorem K_cbt {σ : y_S} (w : y_W σ) {x0 x1 : Nat} {μ : q_M} {p B : List Nat} (hp : y_Wf σ μ x0 p) (hB : y_Wf σ μ x1 B) (gp : y_Ls σ p) (gB : y_Ls σ B) (lp : p.length ≤ 6) (lB : B.length ≤ 6) : f_X7_isBetterThan x0 x1 μ = some (y_bI (y_bt σ (y_en σ p (σ 0 10)) p (y_en σ B (σ 0 10)) B), μ) := by
  have w1 := w.1.2.1
  have w10 := w.1.2.2.2.2.2.2.2.2.2.2.1
  have e1 := y_en_b w p (σ 0 10) gp
  have e2 := y_en_b w B (σ 0 10) gB
  have n1 := y_nb_b σ p
  have n2 := y_nb_b σ B
  unfold f_X7_isBetterThan y_bt
  rw [hp.2.2.2.1, hB.2.2.2.1, hp.2.2.2.2.1, hB.2.2.2.2.1, hp.1, hB.1, z_if (z_eq32 (by omega) (by omega) (by omega) (by omega)), z_if (z_eq32 (by omega) (by omega) (by omega) (by omega)), z_if (z_eq32 (by omega) (by omega) (by omega) (by omega)), z_if (z_le32 (by omega) (by omega) (by omega) (by omega)), z_if (z_le32 (by omega) (by omega) (by omega) (by omega)), z_if (z_le32 (by omega) (by omega) (by omega) (by omega))]
  by_cases c1 : y_en σ p (σ 0 10) = y_en σ B (σ 0 10)
  · rw [if_pos c1, if_pos c1]
    by_cases c2 : y_nb σ p = y_nb σ B
    · rw [if_pos c2, if_pos c2]
      by_cases c3 : p.length = B.length
      · rw [if_pos (by omega), if_pos c3]
        exact K_cl86 lp hp.1 p B q_fu 0 c3 (by omega) (by rw [z_fu]; omega) (fun r q => by have := (gp r q).1; omega) (fun r q => by have := (gB r q).1; omega) (fun k hk => by rw [Nat.zero_add]; exact hp.2.1 k hk) (fun k hk => by rw [Nat.zero_add]; exact hB.2.1 k hk)
      · rw [if_neg (by omega), if_neg c3]
        by_cases c : p.length < B.length
        · rw [if_neg (by omega), decide_eq_true c]; rfl
        · rw [if_pos (by omega), decide_eq_false c]; rfl
    · rw [if_neg c2, if_neg c2]
      by_cases c : y_nb σ p < y_nb σ B
      · rw [if_neg (by omega), decide_eq_true c]; rfl
      · rw [if_pos (by omega), decide_eq_false c]; rfl
  · rw [if_neg c1, if_neg c1]
    by_cases c : y_en σ p (σ 0 10) < y_en σ B (σ 0 10)
    · rw [if_neg (by omega), decide_eq_true c]; rfl
    · rw [if_pos (by omega), decide_eq_false c]; rfl
theorem K_ccl {x0 many : Nat} (hm : many ≤ 6) (Kx : q_M → Option (Unit × q_M)) : ∀ (l : List Nat) (n i : Nat) (s : List Nat) (μ : q_M), μ.1 x0 2 = iz (many : Int) → (∀ r, r ∈ l → r < 12) → l.length + i = many → l.length < n → (∀ k, k < l.length → μ.1 (x0 + 8) (i + k) = iz ((l.getD k 0 : Nat) : Int)) → (∀ b, b < 32 → bt (μ.1 x0 5) b = decide (b ∈ s)) → ∃ x, L_X7_collectRoads_7 x0 Kx n (iz (i : Int)) μ = Kx (q_si μ x0 5 x) ∧ ∀ b, b < 32 → bt x b = (decide (b ∈ s) || decide (b ∈ l)) := by
  intro l
  induction l with
  | nil =>
    intro n i s μ hs hl hi hn hc hb
    obtain ⟨n, rfl⟩ : ∃ z, n = z + 1 := ⟨n - 1, by simp at hn; omega⟩
    simp at hi
    rw [L_X7_collectRoads_7, hs, z_if (z_le32 (by omega) (by omega) (by omega) (by omega)), if_pos (by omega)]
    refine ⟨μ.1 x0 5, ?_, fun b q => by rw [hb b q]; simp⟩
    congr 1
    unfold q_si
    refine Prod.ext ?_ rfl
    funext k j
    show _ = if k = x0 ∧ j = 5 then μ.1 x0 5 else μ.1 k j
    by_cases e : k = x0 ∧ j = 5
    · rw [if_pos e, e.1, e.2]
    · rw [if_neg e]
  | cons r l ih =>
    intro n i s μ hs hl hi hn hc hb
    obtain ⟨n, rfl⟩ : ∃ z, n = z + 1 := ⟨n - 1, by simp at hn; omega⟩
    simp only [List.length_cons] at hi hn
    have hr := hl r List.mem_cons_self
    have c0 := hc 0 (by simp)
    simp only [Nat.add_zero, List.getD_cons_zero] at c0
    have cl : (iz (i : Int)).toNatClampNeg = i := by rw [z_cl (by omega) (by omega)]; omega
    rw [L_X7_collectRoads_7, hs, z_if (z_le32 (by omega) (by omega) (by omega) (by omega)), if_neg (by omega), z_gd (z_ix (by omega) (by omega) (by omega)), cl, c0, z_le, z_le, z_a1]
    obtain ⟨x, f, e⟩ := ih n (i + 1) (r :: s) (q_si μ x0 5 (μ.1 x0 5 ||| (1 <<< (iz (r : Int) &&& 31)))) (by rw [z_si1, if_neg (by omega)]; exact hs) (fun t q => hl t (List.mem_cons_of_mem _ q)) (by omega) (by omega) (fun k hk => by
      rw [q_si_row (by omega)]
      have := hc (k + 1) (by simp; omega)
      rw [List.getD_cons_succ] at this
      exact z_at this (by omega)) (fun b q => by
      rw [z_si1, if_pos ⟨rfl, rfl⟩, b_or, hb b q, z_one (by omega) q]
      by_cases m : b = r
      · simp [m]
      · simp [m])
    refine ⟨x, ?_, fun b q => ?_⟩
    · have f' : L_X7_collectRoads_7 x0 Kx n (iz ((i : Int) + 1)) (q_si μ x0 5 (μ.1 x0 5 ||| (1 <<< (iz (r : Int) &&& 31)))) = _ := f
      rw [f']
      congr 1
      unfold q_si
      refine Prod.ext ?_ rfl
      funext k j
      show (if k = x0 ∧ j = 5 then x else if k = x0 ∧ j = 5 then _ else μ.1 k j) = if k = x0 ∧ j = 5 then x else μ.1 k j
      by_cases e : k = x0 ∧ j = 5
      · rw [if_pos e, if_pos e]
      · rw [if_neg e, if_neg e, if_neg e]
    · rw [e b q]
      by_cases m : b = r
      · simp [m]
      · simp [m]
theorem K_ccr {x0 : Nat} {μ : q_M} {l : List Nat} (hs : μ.1 x0 2 = iz (l.length : Int)) (hl : ∀ r, r ∈ l → r < 12) (hm : l.length ≤ 6) (hc : y_la μ (x0 + 8) l) : ∃ x, f_X7_collectRoads x0 μ = some ((), q_si (q_si μ x0 5 0) x0 5 x) ∧ ∀ b, b < 32 → bt x b = decide (b ∈ l) := by
  unfold f_X7_collectRoads
  rw [z_le]
  obtain ⟨x, f, e⟩ := K_ccl hm (fun μ => some ((), μ)) l q_fu 0 [] (q_si μ x0 5 0) (by rw [z_si1, if_neg (by omega)]; exact hs) hl (by omega) (by rw [z_fu]; omega) (fun k hk => by rw [q_si_row (by omega), Nat.zero_add]; exact hc k hk) (fun b q => by rw [z_si1, if_pos ⟨rfl, rfl⟩, b_0]; simp)
  exact ⟨x, f, fun b q => by rw [e b q]; simp⟩
theorem K_cal {σ : y_S} (w : y_W σ) (wp : y_WP σ) {μ : q_M} (h : y_RD σ μ) (hF : y_RF σ μ) {p : List Nat} (hp : y_Wf σ μ 119 p) (gp : y_good σ p) (Kx : q_M → Option (Int32 × q_M)) : ∀ (d n f : Nat), f + d = (σ 0 6).toNat → d < n → L_X1_isAllowed_2 Kx n (iz (f : Int)) μ = if y_in σ p d f = true then some (0, μ) else Kx μ := by
  have w1 := w.1.2.1
  have w6 := w.1.2.2.2.2.2.2.1
  intro d
  induction d with
  | zero =>
    intro n f hf hn
    obtain ⟨n, rfl⟩ : ∃ z, n = z + 1 := ⟨n - 1, by omega⟩
    rw [L_X1_isAllowed_2, d_found h, z_if (z_le32 (by omega) (by omega) (by omega) (by omega)), if_pos (by omega)]
    unfold y_in
    rw [if_neg (by simp)]
  | succ d ih =>
    intro n f hf hn
    obtain ⟨n, rfl⟩ : ∃ z, n = z + 1 := ⟨n - 1, by omega⟩
    have hlt : (f : Int) < σ 0 6 := by omega
    have gf := wp f hlt
    have hW := hF.1 f hlt
    have cl : (iz (f : Int)).toNatClampNeg = f := by rw [z_cl (by omega) (by omega)]; omega
    have key : (μ.1 119 5 = μ.1 (113 + f) 5) = (y_fw σ f = p) := by
      refine propext ((y_re hp.2.2.2.2.2 hW.2.2.2.2.2 (fun r q => by have := (gp.2.1 r q).1; omega) (fun r q => by have := (gf.2.1 r q).1; omega)).trans ⟨fun q => ?_, fun q r => ?_⟩)
      · exact (y_Pa.uniq _ _ _ gp.1 gf.1 q).symm
      · rw [q]
    rw [L_X1_isAllowed_2, d_found h, z_if (z_le32 (by omega) (by omega) (by omega) (by omega)), if_neg (by omega), z_gd (z_ix (by omega) (by omega) (by omega)), cl, z_if key, z_le, z_a1]
    unfold y_in
    by_cases c : y_fw σ f = p
    · rw [if_pos c, if_pos (by simp [c])]
    · rw [if_neg c, decide_eq_false c, Bool.false_or]
      exact ih n (f + 1) (by omega) (by omega)
theorem K_allow {σ : y_S} (w : y_W σ) (wp : y_WP σ) {μ : q_M} (h : y_RD σ μ) (hF : y_RF σ μ) {L : Int} (hL : 0 < σ 0 6 → μ.1 2 10 = iz L) (hL0 : ¬ 0 < σ 0 6 → 0 ≤ L) (hLb : -2147483648 ≤ L ∧ L < 2147483648) {p : List Nat} (hp : y_Wf σ μ 119 p) (gp : y_good σ p) : f_X1_isAllowed μ = some (y_bI (y_mb σ L p), μ) := by
  have w1 := w.1.2.1
  have w6 := w.1.2.2.2.2.2.2.1
  unfold f_X1_isAllowed
  rw [show (0 : Int32) = iz ((0 : Nat) : Int) from rfl, K_cal w wp h hF hp gp _ (σ 0 6).toNat q_fu 0 (by omega) (by rw [z_fu]; omega)]
  unfold y_mb
  by_cases c : y_in σ p (σ 0 6).toNat 0 = true
  · rw [if_pos c, c]; rfl
  · have c' : y_in σ p (σ 0 6).toNat 0 = false := by simpa using c
    rw [if_neg c, c', show (!false) = true from rfl, Bool.true_and, show iz ((0 : Nat) : Int) = 0 from rfl, d_found h, z_if (z_eq0 (by omega) (by omega))]
    by_cases e : σ 0 6 = 0
    · rw [if_pos e, if_neg (by omega), decide_eq_true (hL0 (by omega))]; rfl
    · have e0 : 0 < σ 0 6 := by omega
      have g0 := wp 0 (by omega)
      have W0 := hF.1 0 (by omega)
      have sb := y_sh_b (y_fw σ 0) g0.2.2 p
      have lp := gp.2.2
      rw [if_neg e, if_pos e0, z_gd (by decide), K_bc, z_bd, hL e0, show (0 : Int32).toNatClampNeg = 0 from rfl, y_rs hp.2.2.2.2.2 W0.2.2.2.2.2 (y_Pa.nodup _ _ gp.1) (y_Pa.nodup _ _ g0.1) (fun r q => by have := (gp.2.1 r q).1; omega), z_if (z_lt32 (by omega) (by omega) (by omega) (by omega))]
      by_cases c2 : y_sh p (y_fw σ 0) ≤ L
      · rw [if_neg (by omega), decide_eq_true c2]; rfl
      · rw [if_pos (by omega), decide_eq_false c2]; rfl
