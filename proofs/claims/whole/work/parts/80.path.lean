def y_wk (σ : y_S) : Int → List Nat → Int
  | a, [] => a
  | a, r :: l => y_wk σ (y_oe σ r a) l
def y_nd (σ : y_S) : Int → List Nat → List Int
  | a, [] => [a]
  | a, r :: l => a :: y_nd σ (y_oe σ r a) l
def y_Pa (σ : y_S) (a b : Int) (p : List Nat) : Prop := y_wk σ a p = b ∧ (y_nd σ a p).Nodup ∧ ¬ (-2 ∈ y_nd σ a p)
theorem y_nd_hd (σ : y_S) (a : Int) (p : List Nat) : a ∈ y_nd σ a p := by cases p <;> simp [y_nd]
theorem y_wk_sn (σ : y_S) (r : Nat) : ∀ (p : List Nat) (a : Int), y_wk σ a (p ++ [r]) = y_oe σ r (y_wk σ a p) := by
  intro p
  induction p with
  | nil => intro a; rfl
  | cons s p ih => intro a; exact ih _
theorem y_nd_sn (σ : y_S) (r : Nat) : ∀ (p : List Nat) (a : Int), y_nd σ a (p ++ [r]) = y_nd σ a p ++ [y_oe σ r (y_wk σ a p)] := by
  intro p
  induction p with
  | nil => intro a; rfl
  | cons s p ih => intro a; exact congrArg (a :: ·) (ih _)
theorem y_oe_in {σ : y_S} {r : Nat} {a : Int} (h : y_oe σ r a ≠ -2) : (σ 1 r = a ∧ σ 2 r = y_oe σ r a) ∨ (σ 2 r = a ∧ σ 1 r = y_oe σ r a) := by
  unfold y_oe at h ⊢
  by_cases c : σ 1 r = a
  · rw [if_pos c]; exact Or.inl ⟨c, rfl⟩
  · rw [if_neg c] at h ⊢
    by_cases e : σ 2 r = a
    · rw [if_pos e]; exact Or.inr ⟨e, rfl⟩
    · rw [if_neg e] at h; exact absurd rfl h
theorem y_inc {σ : y_S} {t : Nat} : ∀ (l : List Nat) (a : Int), ¬ (-2 ∈ y_nd σ a l) → t ∈ l → σ 1 t ∈ y_nd σ a l ∧ σ 2 t ∈ y_nd σ a l := by
  intro l
  induction l with
  | nil => intro a _ h; cases h
  | cons r l ih =>
    intro a h ht
    have h1 : ¬ (-2 ∈ y_nd σ (y_oe σ r a) l) := fun q => h (List.mem_cons_of_mem _ q)
    rcases List.mem_cons.mp ht with rfl | q
    · have o : y_oe σ t a ≠ -2 := fun q => h1 (by rw [← q]; exact y_nd_hd _ _ _)
      have m1 : a ∈ y_nd σ a (t :: l) := y_nd_hd _ _ _
      have m2 : y_oe σ t a ∈ y_nd σ a (t :: l) := List.mem_cons_of_mem _ (y_nd_hd _ _ _)
      rcases y_oe_in o with ⟨e1, e2⟩ | ⟨e1, e2⟩
      · rw [e1, e2]; exact ⟨m1, m2⟩
      · rw [e1, e2]; exact ⟨m2, m1⟩
    · have := ih _ h1 q
      exact ⟨List.mem_cons_of_mem _ this.1, List.mem_cons_of_mem _ this.2⟩
theorem y_Pa.tl {σ : y_S} {a b : Int} {r : Nat} {l : List Nat} (h : y_Pa σ a b (r :: l)) : y_Pa σ (y_oe σ r a) b l ∧ ¬ (a ∈ y_nd σ (y_oe σ r a) l) ∧ (σ 1 r = a ∨ σ 2 r = a) := by
  obtain ⟨h1, h2, h3⟩ := h
  have n := List.nodup_cons.mp h2
  have g3 : ¬ (-2 ∈ y_nd σ (y_oe σ r a) l) := fun q => h3 (List.mem_cons_of_mem _ q)
  have o : y_oe σ r a ≠ -2 := fun q => g3 (by rw [← q]; exact y_nd_hd _ _ _)
  refine ⟨⟨h1, n.2, g3⟩, n.1, ?_⟩
  rcases y_oe_in o with ⟨e1, e2⟩ | ⟨e1, e2⟩
  · exact Or.inl e1
  · exact Or.inr e1
theorem y_Pa.ni {σ : y_S} {a b : Int} {r t : Nat} {l : List Nat} (h : y_Pa σ a b (r :: l)) (ht : σ 1 t = a ∨ σ 2 t = a) : ¬ t ∈ l := by
  obtain ⟨h1, h2, h3⟩ := h.tl
  intro q
  have := y_inc l _ h1.2.2 q
  rcases ht with e | e
  · rw [e] at this; exact h2 this.1
  · rw [e] at this; exact h2 this.2
theorem y_Pa.nodup {σ : y_S} {b : Int} : ∀ (p : List Nat) (a : Int), y_Pa σ a b p → p.Nodup := by
  intro p
  induction p with
  | nil => intro a _; exact List.nodup_nil
  | cons r l ih =>
    intro a h
    exact List.nodup_cons.mpr ⟨h.ni h.tl.2.2, ih _ h.tl.1⟩
theorem y_Pa.uniq {σ : y_S} {b : Int} : ∀ (p q : List Nat) (a : Int), y_Pa σ a b p → y_Pa σ a b q → (∀ r, r ∈ p ↔ r ∈ q) → p = q := by
  intro p
  induction p with
  | nil =>
    intro q a _ _ h
    cases q with
    | nil => rfl
    | cons s m => exact absurd ((h s).mpr List.mem_cons_self) (List.not_mem_nil)
  | cons r l ih =>
    intro q a hp hq h
    cases q with
    | nil => exact absurd ((h r).mp List.mem_cons_self) (List.not_mem_nil)
    | cons s m =>
      have e : s = r := by
        rcases List.mem_cons.mp ((h s).mpr List.mem_cons_self) with e | e
        · exact e
        · exact absurd e (hp.ni hq.tl.2.2)
      subst e
      have n1 := hp.ni hp.tl.2.2
      have n2 := hq.ni hp.tl.2.2
      rw [ih m _ hp.tl.1 hq.tl.1 (fun t => ⟨fun g => ?_, fun g => ?_⟩)]
      · rcases List.mem_cons.mp ((h t).mp (List.mem_cons_of_mem _ g)) with e | e
        · subst e; exact absurd g n1
        · exact e
      · rcases List.mem_cons.mp ((h t).mpr (List.mem_cons_of_mem _ g)) with e | e
        · subst e; exact absurd g n2
        · exact e
def y_Iv (σ : y_S) (vis : Nat → Bool) (p : List Nat) (at_ : Int) : Prop := y_wk σ (σ 0 8) p = at_ ∧ (y_nd σ (σ 0 8) p).Nodup ∧ (∀ n, n ∈ y_nd σ (σ 0 8) p → (0 ≤ n ∧ n < 7) ∧ vis n.toNat = true) ∧ y_Ls σ p ∧ p.length + y_cn vis = 6
theorem y_Iv.Pa {σ : y_S} {vis : Nat → Bool} {p : List Nat} {at_ : Int} (h : y_Iv σ vis p at_) : y_Pa σ (σ 0 8) at_ p := ⟨h.1, h.2.1, fun q => by have := (h.2.2.1 _ q).1.1; omega⟩
theorem y_Iv.b {σ : y_S} {vis : Nat → Bool} {p : List Nat} {at_ : Int} (h : y_Iv σ vis p at_) : (0 ≤ at_ ∧ at_ < 7) ∧ vis at_.toNat = true := by
  apply h.2.2.1
  rw [← h.1]
  have key : ∀ (p : List Nat) (a : Int), y_wk σ a p ∈ y_nd σ a p := by
    intro p
    induction p with
    | nil => intro a; simp [y_wk, y_nd]
    | cons r l ih => intro a; exact List.mem_cons_of_mem _ (ih _)
  exact key p _
theorem y_Iv.sn {σ : y_S} (w : y_W σ) {vis : Nat → Bool} {p : List Nat} {at_ : Int} (h : y_Iv σ vis p at_) {r : Nat} (hr : (r : Int) < σ 0 1) (hm : y_my σ at_ vis p r = true) : y_Iv σ (y_vs vis (y_oe σ r at_).toNat true) (p ++ [r]) (y_oe σ r at_) := by
  obtain ⟨o1, o2, o3⟩ := y_my_oe w hr hm
  obtain ⟨h1, h2, h3, h4, h5⟩ := h
  refine ⟨?_, ?_, ?_, ?_, ?_⟩
  · rw [y_wk_sn, h1]
  · rw [y_nd_sn, h1]
    rw [List.nodup_append]
    refine ⟨h2, by simp, ?_⟩
    intro a ha b hb
    rw [List.mem_singleton] at hb
    subst hb
    intro e
    subst e
    have := (h3 _ ha).2
    rw [o2] at this
    cases this
  · intro n hn
    rw [y_nd_sn, h1] at hn
    unfold y_vs
    rcases List.mem_append.mp hn with q | q
    · have := h3 n q
      refine ⟨this.1, ?_⟩
      by_cases e : n.toNat = (y_oe σ r at_).toNat
      · rw [if_pos e]
      · rw [if_neg e]; exact this.2
    · rw [List.mem_singleton] at q
      subst q
      exact ⟨o1, by rw [if_pos rfl]⟩
  · intro s hs
    rcases List.mem_append.mp hs with q | q
    · exact h4 s q
    · rw [List.mem_singleton] at q
      subst q
      exact ⟨hr, o3⟩
  · have := y_cn_set (vis := vis) (k := (y_oe σ r at_).toNat) (by omega) o2
    rw [List.length_append]
    simp only [List.length_cons, List.length_nil]
    omega
theorem y_fr_mem {F : Nat → List (List Nat)} {q : List Nat} : ∀ (m r : Nat), q ∈ y_fr F m r → ∃ s, r ≤ s ∧ s < r + m ∧ q ∈ F s := by
  intro m
  induction m with
  | zero => intro r h; cases h
  | succ m ih =>
    intro r h
    rcases List.mem_append.mp h with g | g
    · exact ⟨r, by omega, by omega, g⟩
    · obtain ⟨s, s1, s2, s3⟩ := ih _ g
      exact ⟨s, by omega, by omega, s3⟩
abbrev y_good (σ : y_S) (q : List Nat) : Prop := y_Pa σ (σ 0 8) (σ 0 9) q ∧ y_Ls σ q ∧ q.length ≤ 6
theorem y_ds_P {σ : y_S} (w : y_W σ) : ∀ (d : Nat) (vis : Nat → Bool) (p : List Nat) (at_ : Int), y_Iv σ vis p at_ → ∀ q, q ∈ y_ds σ d at_ vis p → y_good σ q := by
  have w1 := w.1.2.1
  intro d
  induction d with
  | zero =>
    intro vis p at_ h q hq
    unfold y_ds at hq
    by_cases c : at_ = σ 0 9
    · rw [if_pos c, List.mem_singleton] at hq
      rw [hq]
      exact ⟨by rw [← c]; exact h.Pa, h.2.2.2.1, by have := h.2.2.2.2; omega⟩
    · rw [if_neg c] at hq; cases hq
  | succ d ih =>
    intro vis p at_ h q hq
    unfold y_ds at hq
    by_cases c : at_ = σ 0 9
    · rw [if_pos c, List.mem_singleton] at hq
      rw [hq]
      exact ⟨by rw [← c]; exact h.Pa, h.2.2.2.1, by have := h.2.2.2.2; omega⟩
    · rw [if_neg c] at hq
      obtain ⟨s, -, s2, s3⟩ := y_fr_mem _ _ hq
      by_cases m : y_my σ at_ vis p s = true
      · rw [if_pos m] at s3
        exact ih _ _ _ (h.sn w (by omega) m) q s3
      · rw [if_neg m] at s3; cases s3
theorem y_Iv0 {σ : y_S} (w : y_W σ) : y_Iv σ (y_v0 σ) [] (σ 0 8) := by
  have w8 := w.1.2.2.2.2.2.2.2.2.1
  refine ⟨rfl, by simp [y_nd], fun n hn => ?_, fun r hr => (by cases hr), by rw [y_v0_cn w]; rfl⟩
  simp only [y_nd, List.mem_singleton] at hn
  subst hn
  exact ⟨w8, by simp [y_v0]⟩
theorem y_ws_P {σ : y_S} (w : y_W σ) {q : List Nat} (h : q ∈ y_ws σ) : y_good σ q := y_ds_P w 6 _ _ _ (y_Iv0 w) q h
theorem y_fold_mem {σ : y_S} {L : Int} : ∀ (l : List (List Nat)) (B : List Nat), l.foldl (y_jd σ L) B = B ∨ l.foldl (y_jd σ L) B ∈ l := by
  intro l
  induction l with
  | nil => intro B; exact Or.inl rfl
  | cons p l ih =>
    intro B
    rw [List.foldl_cons]
    rcases ih (y_jd σ L B p) with q | q
    · rw [q]
      unfold y_jd
      split
      · exact Or.inr List.mem_cons_self
      · exact Or.inl rfl
    · exact Or.inr (List.mem_cons_of_mem _ q)
theorem y_bs_P {σ : y_S} (w : y_W σ) {L : Int} (h : ¬ (y_bs σ L).length = 0) : y_good σ (y_bs σ L) := by
  rcases y_fold_mem (σ := σ) (L := L) (y_ws σ) [] with q | q
  · exact absurd (by unfold y_bs; rw [q]; rfl) h
  · exact y_ws_P w q
theorem y_ds_0 {σ : y_S} (w : y_W σ) {vis : Nat → Bool} (h : y_cn vis = 0) {at_ : Int} (hn : ¬ at_ = σ 0 9) (p : List Nat) (d : Nat) : y_ds σ d at_ vis p = [] := by
  have w1 := w.1.2.1
  cases d with
  | zero => unfold y_ds; rw [if_neg hn]
  | succ d =>
    unfold y_ds
    rw [if_neg hn]
    have key : ∀ (m r : Nat), r + m ≤ (σ 0 1).toNat → y_fr (fun r => if y_my σ at_ vis p r = true then y_ds σ d (y_oe σ r at_) (y_vs vis (y_oe σ r at_).toNat true) (p ++ [r]) else []) m r = [] := by
      intro m
      induction m with
      | zero => intro r _; rfl
      | succ m ih =>
        intro r hr
        rw [y_fr_s, ih (r + 1) (by omega), List.append_nil]
        by_cases m : y_my σ at_ vis p r = true
        · obtain ⟨o1, o2, o3⟩ := y_my_oe w (by omega) m
          have := y_cn_pos (vis := vis) (k := (y_oe σ r at_).toNat) (by omega) o2
          omega
        · simp only [if_neg m]
    exact key _ _ (by omega)
