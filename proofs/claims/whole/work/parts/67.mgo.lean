def y_oe (σ : y_S) (r : Nat) (at_ : Int) : Int := if σ 1 r = at_ then σ 2 r else if σ 2 r = at_ then σ 1 r else -2
def y_vs (vis : Nat → Bool) (k : Nat) (b : Bool) : Nat → Bool := fun j => if j = k then b else vis j
def y_my (σ : y_S) (at_ : Int) (vis : Nat → Bool) (p : List Nat) (r : Nat) : Bool := decide (y_oe σ r at_ ≠ -2) && y_ok σ r && !(vis (y_oe σ r at_).toNat) && (p.isEmpty || decide (σ 11 (12 * p.getD (p.length - 1) 0 + r) = 0))
def y_fr (F : Nat → List (List Nat)) : Nat → Nat → List (List Nat)
  | 0, _ => []
  | m + 1, r => F r ++ y_fr F m (r + 1)
theorem y_fr_s (F : Nat → List (List Nat)) (m r : Nat) : y_fr F (m + 1) r = F r ++ y_fr F m (r + 1) := rfl
def y_ds (σ : y_S) : Nat → Int → (Nat → Bool) → List Nat → List (List Nat)
  | 0, at_, _, p => if at_ = σ 0 9 then [p] else []
  | d + 1, at_, vis, p => if at_ = σ 0 9 then [p] else y_fr (fun r => if y_my σ at_ vis p r = true then y_ds σ d (y_oe σ r at_) (y_vs vis (y_oe σ r at_).toNat true) (p ++ [r]) else []) (σ 0 1).toNat 0
def y_c1 (b : Bool) : Nat := if b = true then 0 else 1
def y_cn (vis : Nat → Bool) : Nat := y_c1 (vis 0) + y_c1 (vis 1) + y_c1 (vis 2) + y_c1 (vis 3) + y_c1 (vis 4) + y_c1 (vis 5) + y_c1 (vis 6)
theorem y_cn_set {vis : Nat → Bool} {k : Nat} (hk : k < 7) (h : vis k = false) : y_cn (y_vs vis k true) + 1 = y_cn vis := by
  have : k = 0 ∨ k = 1 ∨ k = 2 ∨ k = 3 ∨ k = 4 ∨ k = 5 ∨ k = 6 := by omega
  rcases this with rfl | rfl | rfl | rfl | rfl | rfl | rfl <;> simp [y_cn, y_vs, h, y_c1] <;> omega
theorem y_cn_pos {vis : Nat → Bool} {k : Nat} (hk : k < 7) (h : vis k = false) : 1 ≤ y_cn vis := by
  have := y_cn_set hk h; omega
def y_Rs (σ : y_S) (L : Int) (B : List Nat) (N : Int) (p : List Nat) (A T : Nat → Int) (vis : Nat → Bool) (μ : q_M) : Prop := y_RM σ μ ∧ y_Bs σ B μ ∧ (μ.1 137 34 = iz (p.length : Int) ∧ μ.1 137 39 = iz L ∧ μ.1 137 40 = iz N) ∧ y_la μ 159 p ∧ (∀ k, k ≤ p.length → μ.1 163 k = iz (A k) ∧ μ.1 164 k = iz (T k)) ∧ (∀ k, k < 7 → μ.1 160 k = y_bI (vis k)) ∧ ∀ r : Nat, (r : Int) < σ 0 1 → μ.1 162 r = y_bI (y_ok σ r)
theorem y_oe_b {σ : y_S} (w : y_W σ) {r : Nat} (hr : (r : Int) < σ 0 1) (at_ : Int) : y_oe σ r at_ = -2 ∨ (0 ≤ y_oe σ r at_ ∧ y_oe σ r at_ < 7) := by
  have g := w.2.1 r hr
  have w0 := w.1.1
  unfold y_oe
  split
  · omega
  · split <;> omega
theorem K_otherEnd {σ : y_S} (w : y_W σ) {μ : q_M} (h : y_RM σ μ) {r : Nat} (hr : (r : Int) < σ 0 1) {at_ : Int} (ha : 0 ≤ at_ ∧ at_ < 7) : f_X10_otherEnd (iz (r : Int)) (iz at_) μ = some (iz (y_oe σ r at_), μ) := by
  have g := w.2.1 r hr
  have w0 := w.1.1
  have w1 := w.1.2.1.2
  have cl : (iz (r : Int)).toNatClampNeg = r := by rw [z_cl (by omega) (by omega)]; omega
  unfold f_X10_otherEnd y_oe
  rw [z_gd (z_ix (by omega) (by omega) (by omega)), cl, m_as h, m_bs h, z_if (z_eq32 (by omega) (by omega) (by omega) (by omega)), z_if (z_eq32 (by omega) (by omega) (by omega) (by omega))]
  split
  · rfl
  · split <;> rfl
theorem K_mayGo {σ : y_S} (w : y_W σ) {μ : q_M} {L : Int} {B : List Nat} {N : Int} {p : List Nat} {A T : Nat → Int} {vis : Nat → Bool} (h : y_Rs σ L B N p A T vis μ) (hL : y_Ls σ p) (hl : p.length ≤ 12) {r : Nat} (hr : (r : Int) < σ 0 1) {at_ : Int} (ha : 0 ≤ at_ ∧ at_ < 7) : f_X10_mayGo (iz (r : Int)) (iz at_) μ = some (y_bI (y_my σ at_ vis p r), μ) := by
  obtain ⟨hM, -, ⟨hs, -, -⟩, hp, -, hv, hk⟩ := h
  have w1 := w.1.2.1.2
  have cl : (iz (r : Int)).toNatClampNeg = r := by rw [z_cl (by omega) (by omega)]; omega
  have ob := y_oe_b w hr at_
  unfold f_X10_mayGo y_my
  rw [K_otherEnd w hM hr ha, z_bd, z_if (z_eqn (by omega) (by omega))]
  generalize y_oe σ r at_ = o at *
  by_cases c1 : o = -2
  · rw [if_pos c1]; simp [c1, y_bI]
  · rw [if_neg c1, z_gd (z_ix (by omega) (by omega) (by omega)), cl, hk r hr, z_if (y_bI0 _)]
    by_cases c2 : y_ok σ r = false
    · rw [if_pos c2]; simp [c2, y_bI]
    · have c2 : y_ok σ r = true := by simpa using c2
      rw [if_neg (by simp [c2]), z_gd (z_ix (by omega) (by omega) (by omega)), z_cl (by omega) (by omega), hv _ (by omega), z_if (y_bI0 _)]
      by_cases c3 : vis o.toNat = false
      · rw [if_pos c3, hs, z_if (z_eq0 (by omega) (by omega))]
        cases p with
        | nil => rw [if_pos (by simp)]; simp [c1, c2, c3, y_bI]
        | cons x p =>
          have e0 : ¬ (((x :: p).length : Nat) : Int) = 0 := by rw [List.length_cons]; omega
          have e1 : (x :: p).isEmpty = false := rfl
          have l1 : 1 ≤ (x :: p).length := by simp
          generalize x :: p = p at *
          rw [if_neg e0, z_s1, z_gd (z_ix (by omega) (by omega) (by omega)), z_cl (by omega) (by omega), show (((p.length : Nat) : Int) - 1).toNat = p.length - 1 by omega, hp _ (by omega)]
          have hm : p.getD (p.length - 1) 0 ∈ p := by
            rw [List.getD_eq_getElem?_getD, List.getElem?_eq_getElem (by omega)]
            exact List.getElem_mem _
          have hx := (hL _ hm).1
          generalize p.getD (p.length - 1) 0 = x at *
          rw [show 12 * iz (x : Int) = iz (12 * x) from z_mul 12 x, z_add, z_gd (z_ix (by omega) (by omega) (by omega)), z_cl (by omega) (by omega), show (12 * (x : Int) + (r : Int)).toNat = 12 * x + r by omega, m_noTurn hM]
          have wt := w.2.2.2.2.2 (12 * x + r)
          rw [z_if (z_eq0 (by omega) (by omega))]
          by_cases c4 : σ 11 (12 * x + r) = 0
          · rw [if_pos c4]; simp [c1, c2, c3, c4, y_bI]
          · rw [if_neg c4]; simp [c4, y_bI, e1]
      · rw [if_neg c3]
        have c3 : vis o.toNat = true := by simpa using c3
        simp [c3, y_bI]
theorem K_g60 {σ : y_S} (w : y_W σ) {μ : q_M} {L : Int} {B : List Nat} {N : Int} {p : List Nat} {A T : Nat → Int} {vis : Nat → Bool} (h : y_Rs σ L B N p A T vis μ) (hL : y_Ls σ p) (hl : p.length ≤ 12) {at_ : Int} (ha : 0 ≤ at_ ∧ at_ < 7) (Kx : Int32 → Int32 → Int32 → q_M → Option (Unit × q_M)) (v1 : Int32) (G : Nat → List (List Nat)) : ∀ (m n r : Nat), r + m = (σ 0 1).toNat → m < n → (L_X10_goThrough_60 Kx n v1 (iz at_) (iz (r : Int)) μ = Kx v1 (iz at_) (iz (σ 0 1)) μ ∧ y_fr (fun r => if y_my σ at_ vis p r = true then G r else []) m r = [] ∧ ∀ j, r ≤ j → (j : Int) < σ 0 1 → y_my σ at_ vis p j = false) ∨ ∃ s, r ≤ s ∧ (s : Int) < σ 0 1 ∧ y_my σ at_ vis p s = true ∧ L_X10_goThrough_60 Kx n v1 (iz at_) (iz (r : Int)) μ = Kx v1 (iz at_) (iz (s : Int)) μ ∧ y_fr (fun r => if y_my σ at_ vis p r = true then G r else []) m r = G s ++ y_fr (fun r => if y_my σ at_ vis p r = true then G r else []) ((σ 0 1).toNat - (s + 1)) (s + 1) := by
  have w1 := w.1.2.1
  intro m
  induction m with
  | zero =>
    intro n r hr hn
    obtain ⟨n, rfl⟩ : ∃ z, n = z + 1 := ⟨n - 1, by omega⟩
    left
    refine ⟨?_, rfl, fun j h1 h2 => by omega⟩
    rw [L_X10_goThrough_60, m_roads h.1, z_if (z_le32 (by omega) (by omega) (by omega) (by omega)), if_pos (by omega), show (r : Int) = σ 0 1 by omega]
  | succ m ih =>
    intro n r hr hn
    obtain ⟨n, rfl⟩ : ∃ z, n = z + 1 := ⟨n - 1, by omega⟩
    have hr2 : (r : Int) < σ 0 1 := by omega
    rw [L_X10_goThrough_60, m_roads h.1, z_if (z_le32 (by omega) (by omega) (by omega) (by omega)), if_neg (by omega), K_mayGo w h hL hl hr2 ha, z_bd, z_if (y_bI0 _)]
    by_cases c : y_my σ at_ vis p r = true
    · right
      refine ⟨r, by omega, hr2, c, ?_, ?_⟩
      · rw [if_neg (by simp [c])]
      · rw [y_fr_s, if_pos c, show (σ 0 1).toNat - (r + 1) = m by omega]
    · have c2 : y_my σ at_ vis p r = false := by simpa using c
      rw [if_pos c2, z_le, z_a1]
      rw [y_fr_s, if_neg c, List.nil_append]
      rcases ih n (r + 1) (by omega) (by omega) with ⟨a, b, d⟩ | ⟨s, a, b, d, e, f⟩
      · left
        refine ⟨a, b, fun j h1 h2 => ?_⟩
        by_cases e : j = r
        · subst e; exact c2
        · exact d j (by omega) h2
      · right
        exact ⟨s, by omega, b, d, e, f⟩
theorem K_back {σ : y_S} (w : y_W σ) {μ : q_M} {L : Int} {B : List Nat} {N : Int} {p : List Nat} {A T : Nat → Int} {vis : Nat → Bool} (h : y_Rs σ L B N p A T vis μ) (hl : p.length ≤ 12) {at_ : Int} (ha : 0 ≤ at_ ∧ at_ < 7) (Kb : Int32 → q_M → Option (Unit × q_M)) (Kx : q_M → Option (Unit × q_M)) (v1 : Int32) : ∃ μ', J_X10_goThrough_83 Kb Kx v1 (iz at_) (iz (σ 0 1)) μ = Kb (y_bI (!p.isEmpty)) μ' ∧ y_Rs σ L B N p.dropLast A T (y_vs vis at_.toNat false) μ' ∧ y_Fm μ μ' := by
  have w1 := w.1.2.1
  obtain ⟨hM, hB, ⟨hs, hli, hN⟩, hp, hA, hv, hk⟩ := h
  unfold J_X10_goThrough_83
  rw [m_roads hM, if_pos (by rw [z_le32 (by omega) (by omega) (by omega) (by omega)]; omega), z_gd (z_ix (by omega) (by omega) (by omega)), z_le, z_cl (by omega) (by omega)]
  have s1 : (q_si μ 160 at_.toNat 0).1 137 34 = iz (p.length : Int) := hs
  have R : ∀ q : List Nat, (∀ k, k < q.length → q.getD k 0 = p.getD k 0) → q.length ≤ p.length → y_Rs σ L B N q A T (y_vs vis at_.toNat false) (q_si (q_si μ 160 at_.toNat 0) 137 34 (iz (q.length : Int))) := by
    intro q hq hq2
    refine ⟨y_scr (y_scr hM (by omega) (by omega)) (fun _ => by decide) (by omega), ⟨hB.1, hB.2.1, hB.2.2.1, hB.2.2.2⟩, ⟨?_, hli, hN⟩, fun k hk => ?_, fun k hk => hA k (by omega), fun k hk => ?_, hk⟩
    · rw [z_si1, if_pos ⟨rfl, rfl⟩]
    · rw [hq k hk]; exact hp k (by omega)
    · rw [z_si1, if_neg (by omega), z_si1]
      unfold y_vs
      by_cases e : k = at_.toNat
      · rw [if_pos ⟨rfl, e⟩, if_pos e]; rfl
      · rw [if_neg (fun q => e q.2), if_neg e]; exact hv k hk
  have Fr : ∀ x : Int32, y_Fm μ (q_si (q_si μ 160 at_.toNat 0) 137 34 x) := fun x => (y_Fm.rf.si (by decide)).si (by decide)
  rw [s1, z_if (z_le0 (by omega) (by omega))]
  unfold J_X10_goThrough_185
  rw [s1]
  cases p with
  | nil =>
    rw [if_pos (by simp), if_pos rfl, z_le]
    exact ⟨_, rfl, R [] (fun k hk => rfl) (by simp), Fr _⟩
  | cons x p =>
    rw [if_neg (by rw [List.length_cons]; omega), if_neg (by decide), z_le, z_s1]
    have e : (((x :: p).length : Nat) : Int) - 1 = (((x :: p).dropLast.length : Nat) : Int) := by
      rw [List.length_dropLast, List.length_cons]; omega
    rw [e]
    refine ⟨_, rfl, R (x :: p).dropLast (fun k hk => ?_) (by simp), Fr _⟩
    rw [List.length_dropLast] at hk
    rw [List.getD_eq_getElem?_getD, List.getD_eq_getElem?_getD, List.getElem?_dropLast, if_pos hk]
theorem y_gd1 {p : List Nat} {s k : Nat} (h : k < p.length) : (p ++ [s]).getD k 0 = p.getD k 0 := by
  rw [List.getD_eq_getElem?_getD, List.getD_eq_getElem?_getD, List.getElem?_append_left h]
theorem y_gd2 {p : List Nat} {s : Nat} : (p ++ [s]).getD p.length 0 = s := by
  rw [List.getD_eq_getElem?_getD, List.getElem?_concat_length]; rfl
def y_fA (A : Nat → Int) (k : Nat) (v : Int) : Nat → Int := fun j => if j = k then v else A j
theorem K_push {σ : y_S} (w : y_W σ) {μ : q_M} {L : Int} {B : List Nat} {N : Int} {p : List Nat} {A T : Nat → Int} {vis : Nat → Bool} (h : y_Rs σ L B N p A T vis μ) (hl : p.length ≤ 11) {at_ : Int} (ha : 0 ≤ at_ ∧ at_ < 7) {s : Nat} (hs2 : (s : Int) < σ 0 1) (ho : 0 ≤ y_oe σ s at_ ∧ y_oe σ s at_ < 7) (Kb : Int32 → q_M → Option (Unit × q_M)) (Kx : q_M → Option (Unit × q_M)) (v1 : Int32) : ∃ μ', J_X10_goThrough_83 Kb Kx v1 (iz at_) (iz (s : Int)) μ = Kb v1 μ' ∧ y_Rs σ L B N (p ++ [s]) (y_fA A (p.length + 1) (y_oe σ s at_)) (y_fA (y_fA T p.length ((s : Int) + 1)) (p.length + 1) 0) (y_vs vis (y_oe σ s at_).toNat true) μ' ∧ y_Fm μ μ' := by
  have w1 := w.1.2.1
  obtain ⟨hM, hB, ⟨hs, hli, hN⟩, hp, hA, hv, hk⟩ := h
  unfold J_X10_goThrough_83
  rw [m_roads hM, if_neg (by rw [z_le32 (by omega) (by omega) (by omega) (by omega)]; omega), hs]
  have cl : (iz (p.length : Int)).toNatClampNeg = p.length := by rw [z_cl (by omega) (by omega)]; omega
  have cl1 : (iz ((p.length : Int) + 1)).toNatClampNeg = p.length + 1 := by rw [z_cl (by omega) (by omega)]; omega
  have g1 : ∀ {α : Type} (y : Option α), q_gd (q_ix (iz (p.length : Int)) 13) y = y := fun y => z_gd (z_ix (by omega) (by omega) (by omega))
  have g2 : ∀ {α : Type} (y : Option α), q_gd (q_ix (iz (p.length : Int)) 12) y = y := fun y => z_gd (z_ix (by omega) (by omega) (by omega))
  have g3 : ∀ {α : Type} (y : Option α), q_gd (q_ix (iz ((p.length : Int) + 1)) 13) y = y := fun y => z_gd (z_ix (by omega) (by omega) (by omega))
  have g4 : ∀ {α : Type} (y : Option α), q_gd (q_ix (iz (y_oe σ s at_)) 7) y = y := fun y => z_gd (z_ix (by omega) (by omega) (by omega))
  have co : (iz (y_oe σ s at_)).toNatClampNeg = (y_oe σ s at_).toNat := z_cl (by omega) (by omega)
  simp only [g1, cl, z_le, z_si1, Nat.reduceEqDiff, false_and, and_false, if_false, hs, g2, and_self, if_true, z_a1]
  have M3 : y_RM σ (q_si (q_si (q_si μ 164 p.length (iz ((s : Int) + 1))) 159 p.length (iz (s : Int))) 137 34 (iz ((p.length : Int) + 1))) := y_scr (y_scr (y_scr hM (by omega) (by omega)) (by omega) (by omega)) (fun _ => by decide) (by omega)
  rw [K_otherEnd w M3 hs2 ha, z_bd]
  simp only [g3, cl1, z_le, z_si1, Nat.reduceEqDiff, false_and, and_false, if_false, and_self, if_true, g4, co]
  generalize y_oe σ s at_ = o at *
  refine ⟨_, rfl, ⟨y_scr (y_scr (y_scr M3 (by omega) (by omega)) (by omega) (by omega)) (by omega) (by omega), ⟨hB.1, hB.2.1, hB.2.2.1, hB.2.2.2⟩, ⟨?_, hli, hN⟩, fun k hk => ?_, fun k hk => ⟨?_, ?_⟩, fun k hk => ?_, hk⟩, ?_⟩
  · simp only [z_si1, Nat.reduceEqDiff, false_and, and_false, if_false, and_self, if_true]
    rw [List.length_append]; rfl
  · rw [List.length_append, List.length_singleton] at hk
    simp only [z_si1, Nat.reduceEqDiff, false_and, if_false, true_and]
    by_cases e : k = p.length
    · rw [if_pos e, e, y_gd2]
    · rw [if_neg e, y_gd1 (by omega)]; exact hp k (by omega)
  · rw [List.length_append, List.length_singleton] at hk
    simp only [z_si1, Nat.reduceEqDiff, false_and, if_false, true_and]
    unfold y_fA
    by_cases e : k = p.length + 1
    · rw [if_pos e, if_pos e]
    · rw [if_neg e, if_neg e]; exact (hA k (by omega)).1
  · rw [List.length_append, List.length_singleton] at hk
    simp only [z_si1, Nat.reduceEqDiff, false_and, if_false, true_and]
    unfold y_fA
    by_cases e : k = p.length + 1
    · rw [if_pos e, if_pos e]; rfl
    · rw [if_neg e, if_neg e]
      by_cases e2 : k = p.length
      · rw [if_pos e2, if_pos e2]
      · rw [if_neg e2, if_neg e2]; exact (hA k (by omega)).2
  · simp only [z_si1, Nat.reduceEqDiff, false_and, if_false, true_and]
    unfold y_vs
    by_cases e : k = o.toNat
    · rw [if_pos e, if_pos e]; rfl
    · rw [if_neg e, if_neg e]; exact hv k hk
  · exact ((((((y_Fm.rf.si (by decide)).si (by decide)).si (by decide)).si (by decide)).si (by decide)).si (by decide))
def y_co : Nat → Nat
  | 0 => 1
  | d + 1 => 12 * (1 + y_co d) + 1
def y_P (σ : y_S) (L : Int) (Kx : q_M → Option (Unit × q_M)) (d : Nat) : Prop := ∀ (n : Nat) (μ : q_M) (p : List Nat) (A T : Nat → Int) (vis : Nat → Bool) (B : List Nat) (N at_ : Int), y_Rs σ L B N p A T vis μ → A p.length = at_ → T p.length = 0 → (0 ≤ at_ ∧ at_ < 7) → vis at_.toNat = true → y_cn vis ≤ d → p.length + y_cn vis ≤ 6 → y_Ls σ p → y_co d < n → ∃ n' μ' T', L_X10_goThrough_19 Kx n 1 μ = L_X10_goThrough_19 Kx n' (y_bI (!p.isEmpty)) μ' ∧ n ≤ n' + y_co d ∧ y_Rs σ L ((y_ds σ d at_ vis p).foldl (y_jd σ L) B) (N + ((y_ds σ d at_ vis p).length : Int)) p.dropLast A T' (y_vs vis at_.toNat false) μ' ∧ (∀ k, k < p.length → T' k = T k) ∧ y_Fm μ μ'
theorem K_here {σ : y_S} (w : y_W σ) (wf : y_WF σ) {L : Int} (hL2 : 0 ≤ L ∧ L ≤ 1000000000) (Kx : q_M → Option (Unit × q_M)) {n : Nat} {μ : q_M} {p : List Nat} {A T : Nat → Int} {vis : Nat → Bool} {B : List Nat} {N at_ : Int} (h : y_Rs σ L B N p A T vis μ) (hA : A p.length = at_) (ha : 0 ≤ at_ ∧ at_ < 7) (hl : p.length ≤ 6) (hL : y_Ls σ p) (ht : at_ = σ 0 9) : ∃ μ', L_X10_goThrough_19 Kx (n + 1) 1 μ = L_X10_goThrough_19 Kx n (y_bI (!p.isEmpty)) μ' ∧ y_Rs σ L (y_jd σ L B p) (N + 1) p.dropLast A T (y_vs vis at_.toNat false) μ' ∧ y_Fm μ μ' := by
  have w1 := w.1.2.1
  have w9 := w.1.2.2.2.2.2.2.2.2.2.1
  have H := h
  obtain ⟨hM, hB, ⟨hs, hli, hN⟩, hp, hAT, hv, hk⟩ := h
  have cl : (iz (p.length : Int)).toNatClampNeg = p.length := by rw [z_cl (by omega) (by omega)]; omega
  rw [L_X10_goThrough_19, if_neg (by decide), hs, z_gd (z_ix (by omega) (by omega) (by omega)), cl, (hAT p.length (by omega)).1, z_le, z_le, hA, m_to hM, z_if (z_eq32 (by omega) (by omega) (by omega) (by omega)), if_pos ht]
  obtain ⟨μ1, f1, B1, N1, F1⟩ := K_judge w wf hM hB hs hp hL (by omega) hli hL2 hN
  have M1 := F1.RM hM
  have H1 : y_Rs σ L (y_jd σ L B p) (N + 1) p A T vis μ1 := by
    refine ⟨M1, B1, ⟨?_, ?_, N1⟩, fun k q => ?_, fun k q => ?_, fun k q => ?_, fun r q => ?_⟩
    · rw [F1.2.1 34 (by decide) (by decide) (by decide)]; exact hs
    · rw [F1.2.1 39 (by decide) (by decide) (by decide)]; exact hli
    · rw [F1.1 159 (by decide) (by decide)]; exact hp k q
    · rw [F1.1 163 (by decide) (by decide), F1.1 164 (by decide) (by decide)]; exact hAT k q
    · rw [F1.1 160 (by decide) (by decide)]; exact hv k q
    · rw [F1.1 162 (by decide) (by decide)]; exact hk r q
  rw [f1, z_bd, z_le, m_roads M1]
  obtain ⟨z, hz⟩ := z_fs
  rw [hz, L_X10_goThrough_60, m_roads M1, if_pos (by rw [z_le32 (by omega) (by omega) (by omega) (by omega)]; omega)]
  obtain ⟨μ2, f2, R2, F2⟩ := K_back w H1 (by omega) ha (L_X10_goThrough_19 Kx n) Kx 1
  exact ⟨μ2, f2, R2, F1.Fm.tr F2⟩
theorem K_scan {σ : y_S} (w : y_W σ) {L : Int} (Kx : q_M → Option (Unit × q_M)) {n : Nat} {μ : q_M} {p : List Nat} {A T : Nat → Int} {vis : Nat → Bool} {B : List Nat} {N at_ : Int} (h : y_Rs σ L B N p A T vis μ) (hA : A p.length = at_) {r : Nat} (hT : T p.length = (r : Int)) (ha : 0 ≤ at_ ∧ at_ < 7) (hl : p.length ≤ 6) (ht : ¬ at_ = σ 0 9) : L_X10_goThrough_19 Kx (n + 1) 1 μ = L_X10_goThrough_60 (fun v1 v2 v3 μ => J_X10_goThrough_83 (L_X10_goThrough_19 Kx n) Kx v1 v2 v3 μ) q_fu 1 (iz at_) (iz (r : Int)) μ := by
  have w9 := w.1.2.2.2.2.2.2.2.2.2.1
  obtain ⟨hM, hB, ⟨hs, hli, hN⟩, hp, hAT, hv, hk⟩ := h
  have cl : (iz (p.length : Int)).toNatClampNeg = p.length := by rw [z_cl (by omega) (by omega)]; omega
  rw [L_X10_goThrough_19, if_neg (by decide), hs, z_gd (z_ix (by omega) (by omega) (by omega)), cl, (hAT p.length (by omega)).1, (hAT p.length (by omega)).2, z_le, z_le, hA, hT, m_to hM, z_if (z_eq32 (by omega) (by omega) (by omega) (by omega)), if_neg ht]
theorem y_my_oe {σ : y_S} (w : y_W σ) {at_ : Int} {vis : Nat → Bool} {p : List Nat} {r : Nat} (hr : (r : Int) < σ 0 1) (h : y_my σ at_ vis p r = true) : (0 ≤ y_oe σ r at_ ∧ y_oe σ r at_ < 7) ∧ vis (y_oe σ r at_).toNat = false ∧ y_op σ r := by
  unfold y_my at h
  simp only [Bool.and_eq_true, decide_eq_true_eq, Bool.not_eq_true'] at h
  obtain ⟨⟨⟨a, b⟩, c⟩, -⟩ := h
  refine ⟨?_, c, y_ok_op b⟩
  rcases y_oe_b w hr at_ with q | q
  · exact absurd q a
  · exact q
theorem K_go0 {σ : y_S} (w : y_W σ) (wf : y_WF σ) {L : Int} (hL2 : 0 ≤ L ∧ L ≤ 1000000000) (Kx : q_M → Option (Unit × q_M)) : y_P σ L Kx 0 := by
  have w1 := w.1.2.1
  intro n μ p A T vis B N at_ h hA hT ha hvis hc hlen hL hn
  obtain ⟨n, rfl⟩ : ∃ z, n = z + 1 := ⟨n - 1, by omega⟩
  unfold y_ds
  by_cases ht : at_ = σ 0 9
  · obtain ⟨μ', f, R, F⟩ := K_here w wf hL2 Kx (n := n) h hA ha (by omega) hL ht
    exact ⟨n, μ', T, f, by simp only [y_co]; omega, by rw [if_pos ht]; exact R, fun _ _ => rfl, F⟩
  · rw [if_neg ht, K_scan w Kx h hA (r := 0) hT ha (by omega) ht]
    rcases K_g60 w h hL (by omega) ha (fun v1 v2 v3 μ => J_X10_goThrough_83 (L_X10_goThrough_19 Kx n) Kx v1 v2 v3 μ) 1 (fun _ => []) (σ 0 1).toNat q_fu 0 (by omega) (by rw [z_fu]; omega) with ⟨a, -, -⟩ | ⟨s, a, b, c, -, -⟩
    · obtain ⟨μ2, f2, R2, F2⟩ := K_back w h (by omega) ha (L_X10_goThrough_19 Kx n) Kx 1
      refine ⟨n, μ2, T, a.trans f2, by simp only [y_co]; omega, ?_, fun _ _ => rfl, F2⟩
      rw [List.foldl_nil, List.length_nil, show ((0 : Nat) : Int) = 0 from rfl, Int.add_zero]
      exact R2
    · obtain ⟨o1, o2, -⟩ := y_my_oe w b c
      have := y_cn_pos (vis := vis) (k := (y_oe σ s at_).toNat) (by omega) o2
      omega
theorem K_goS {σ : y_S} (w : y_W σ) (wf : y_WF σ) {L : Int} (Kx : q_M → Option (Unit × q_M)) {d : Nat} (IH : y_P σ L Kx d) {at_ : Int} (ht : ¬ at_ = σ 0 9) (ha : 0 ≤ at_ ∧ at_ < 7) {p : List Nat} (hL : y_Ls σ p) {vis : Nat → Bool} (hvis : vis at_.toNat = true) (hc : y_cn vis ≤ d + 1) (hlen : p.length + y_cn vis ≤ 6) {A : Nat → Int} (hA : A p.length = at_) : ∀ (m n r : Nat) (μ : q_M) (T : Nat → Int) (B : List Nat) (N : Int), r + m = (σ 0 1).toNat → y_Rs σ L B N p A T vis μ → T p.length = (r : Int) → m * (1 + y_co d) + 1 < n → ∃ n' μ' T', L_X10_goThrough_19 Kx n 1 μ = L_X10_goThrough_19 Kx n' (y_bI (!p.isEmpty)) μ' ∧ n ≤ n' + (m * (1 + y_co d) + 1) ∧ y_Rs σ L ((y_fr (fun r => if y_my σ at_ vis p r = true then y_ds σ d (y_oe σ r at_) (y_vs vis (y_oe σ r at_).toNat true) (p ++ [r]) else []) m r).foldl (y_jd σ L) B) (N + ((y_fr (fun r => if y_my σ at_ vis p r = true then y_ds σ d (y_oe σ r at_) (y_vs vis (y_oe σ r at_).toNat true) (p ++ [r]) else []) m r).length : Int)) p.dropLast A T' (y_vs vis at_.toNat false) μ' ∧ (∀ k, k < p.length → T' k = T k) ∧ y_Fm μ μ' := by
  have w1 := w.1.2.1
  intro m
  induction m using Nat.strongRecOn with
  | _ m ih =>
    intro n r μ T B N hr h hT hn
    obtain ⟨n, rfl⟩ : ∃ z, n = z + 1 := ⟨n - 1, by omega⟩
    rw [K_scan w Kx h hA hT ha (by omega) ht]
    rcases K_g60 w h hL (by omega) ha (fun v1 v2 v3 μ => J_X10_goThrough_83 (L_X10_goThrough_19 Kx n) Kx v1 v2 v3 μ) 1 (fun r => y_ds σ d (y_oe σ r at_) (y_vs vis (y_oe σ r at_).toNat true) (p ++ [r])) m q_fu r (by omega) (by rw [z_fu]; omega) with ⟨a, a2, -⟩ | ⟨s, a, b, c, e, e2⟩
    · obtain ⟨μ2, f2, R2, F2⟩ := K_back w h (by omega) ha (L_X10_goThrough_19 Kx n) Kx 1
      refine ⟨n, μ2, T, a.trans f2, by omega, ?_, fun _ _ => rfl, F2⟩
      rw [a2, List.foldl_nil, List.length_nil, show ((0 : Nat) : Int) = 0 from rfl, Int.add_zero]
      exact R2
    · obtain ⟨o1, o2, o3⟩ := y_my_oe w b c
      have cs := y_cn_set (vis := vis) (k := (y_oe σ s at_).toNat) (by omega) o2
      obtain ⟨μ1, f1, R1, F1⟩ := K_push w h (by omega) ha b o1 (L_X10_goThrough_19 Kx n) Kx 1
      have hm : m = ((σ 0 1).toNat - (s + 1)) + (s - r) + 1 := by omega
      have hmc : ((σ 0 1).toNat - (s + 1)) * (1 + y_co d) + (1 + y_co d) ≤ m * (1 + y_co d) := by
        rw [← Nat.succ_mul]
        exact Nat.mul_le_mul_right _ (by omega)
      obtain ⟨n2, μ2, T2, f2, c2, R2, k2, F2⟩ := IH n μ1 (p ++ [s]) _ _ _ B N (y_oe σ s at_) R1 (by rw [List.length_append, List.length_singleton]; simp [y_fA]) (by rw [List.length_append, List.length_singleton]; simp [y_fA]) o1 (by simp [y_vs]) (by omega) (by rw [List.length_append, List.length_singleton]; omega) (fun x q => by
        rcases List.mem_append.mp q with q | q
        · exact hL x q
        · rw [List.mem_singleton.mp q]; exact ⟨b, o3⟩) (by omega)
      rw [List.dropLast_concat, show (!(p ++ [s]).isEmpty) = true by simp] at *
      have ev : y_vs (y_vs vis (y_oe σ s at_).toNat true) (y_oe σ s at_).toNat false = vis := by
        funext j
        unfold y_vs
        by_cases e : j = (y_oe σ s at_).toNat
        · rw [if_pos e, e, o2]
        · rw [if_neg e, if_neg e]
      rw [ev] at R2
      have R2' : y_Rs σ L ((y_ds σ d (y_oe σ s at_) (y_vs vis (y_oe σ s at_).toNat true) (p ++ [s])).foldl (y_jd σ L) B) (N + ((y_ds σ d (y_oe σ s at_) (y_vs vis (y_oe σ s at_).toNat true) (p ++ [s])).length : Int)) p A T2 vis μ2 := by
        obtain ⟨q1, q2, q3, q4, q5, q6⟩ := R2
        refine ⟨q1, q2, q3, q4, fun k hk => ⟨?_, (q5 k hk).2⟩, q6⟩
        rw [(q5 k hk).1]
        unfold y_fA
        rw [if_neg (by omega)]
      have t2 : T2 p.length = ((s + 1 : Nat) : Int) := by
        rw [k2 p.length (by rw [List.length_append, List.length_singleton]; omega)]
        unfold y_fA
        rw [if_neg (by omega), if_pos rfl]; rfl
      obtain ⟨n3, μ3, T3, f3, c3, R3, k3, F3⟩ := ih ((σ 0 1).toNat - (s + 1)) (by omega) n2 (s + 1) μ2 T2 _ _ (by omega) R2' t2 (by omega)
      refine ⟨n3, μ3, T3, e.trans (f1.trans (f2.trans f3)), by omega, ?_, fun k hk => ?_, F1.tr (F2.tr F3)⟩
      · rw [e2, List.foldl_append, List.length_append, Int.natCast_add, ← Int.add_assoc]
        exact R3
      · rw [k3 k hk, k2 k (by rw [List.length_append, List.length_singleton]; omega)]
        unfold y_fA
        rw [if_neg (by omega), if_neg (by omega)]
theorem K_go {σ : y_S} (w : y_W σ) (wf : y_WF σ) {L : Int} (hL2 : 0 ≤ L ∧ L ≤ 1000000000) (Kx : q_M → Option (Unit × q_M)) : ∀ d, y_P σ L Kx d := by
  have w1 := w.1.2.1
  intro d
  induction d with
  | zero => exact K_go0 w wf hL2 Kx
  | succ d ih =>
    intro n μ p A T vis B N at_ h hA hT ha hvis hc hlen hL hn
    by_cases ht : at_ = σ 0 9
    · obtain ⟨n, rfl⟩ : ∃ z, n = z + 1 := ⟨n - 1, by omega⟩
      obtain ⟨μ', f, R, F⟩ := K_here w wf hL2 Kx (n := n) h hA ha (by omega) hL ht
      unfold y_ds
      exact ⟨n, μ', T, f, by simp only [y_co]; omega, by rw [if_pos ht]; exact R, fun _ _ => rfl, F⟩
    · have hmc : (σ 0 1).toNat * (1 + y_co d) ≤ 12 * (1 + y_co d) := Nat.mul_le_mul_right _ (by omega)
      simp only [y_co] at hn
      obtain ⟨n', μ', T', f, c, R, k, F⟩ := K_goS w wf Kx ih ht ha hL hvis hc hlen hA (σ 0 1).toNat n 0 μ T B N (by omega) h hT (by omega)
      refine ⟨n', μ', T', f, by simp only [y_co]; omega, ?_, k, F⟩
      unfold y_ds
      rw [if_neg ht]
      exact R
