def y_w1 (f t m : Int) : Int := (t - f + 1440) % 1440 - (m - f + 1440) % 1440 + 1
def y_wn (σ : y_S) (r : Nat) (m : Int) : Nat → Int
  | 0 => 0
  | k + 1 => if y_wn σ r m k < y_w1 (σ 9 (3 * r + k)) (σ 10 (3 * r + k)) m then y_w1 (σ 9 (3 * r + k)) (σ 10 (3 * r + k)) m else y_wn σ r m k
theorem y_bar_iff {f t m : Int} : y_bar f t m = true ↔ (t < f ∧ (f ≤ m ∨ m ≤ t)) ∨ (¬ t < f ∧ f ≤ m ∧ m ≤ t) := by
  unfold y_bar
  by_cases h : t < f
  · simp [h]
  · simp [h]
theorem y_w1_pos {f t m : Int} (hf : 0 ≤ f ∧ f < 1440) (ht : 0 ≤ t ∧ t < 1440) (hm : 0 ≤ m ∧ m < 1440) : 0 < y_w1 f t m ↔ y_bar f t m = true := by
  rw [y_bar_iff]; unfold y_w1; omega
theorem y_w1_end {f t m : Int} (hf : 0 ≤ f ∧ f < 1440) (ht : 0 ≤ t ∧ t < 1440) (hm : 0 ≤ m ∧ m < 1440) (h : 0 < y_w1 f t m) : (m + y_w1 f t m) % 1440 = (t + 1) % 1440 := by
  unfold y_w1 at h ⊢; omega
theorem y_w1_all {f t m j : Int} (hf : 0 ≤ f ∧ f < 1440) (ht : 0 ≤ t ∧ t < 1440) (hm : 0 ≤ m ∧ m < 1440) (hj : 0 ≤ j) (h : j < y_w1 f t m) : y_bar f t ((m + j) % 1440) = true := by
  rw [y_bar_iff]; unfold y_w1 at h; omega
theorem y_wn_nn (σ : y_S) (r : Nat) (m : Int) : ∀ k, 0 ≤ y_wn σ r m k := by
  intro k
  induction k with
  | zero => exact Int.le_refl 0
  | succ k ih => unfold y_wn; split <;> omega
theorem y_bn_of {σ : y_S} {r : Nat} {m : Int} : ∀ {n k : Nat}, k < n → y_bar (σ 9 (3 * r + k)) (σ 10 (3 * r + k)) m = true → y_bn σ r m n = true := by
  intro n
  induction n with
  | zero => intro k h; omega
  | succ n ih =>
    intro k h hb
    unfold y_bn
    by_cases e : k = n
    · subst e; simp [hb]
    · simp [ih (show k < n by omega) hb]
theorem y_wn_spec {σ : y_S} {r : Nat} {m : Int} (hm : 0 ≤ m ∧ m < 1440) : ∀ (n : Nat), (∀ k : Nat, k < n → (0 ≤ σ 9 (3 * r + k) ∧ σ 9 (3 * r + k) < 1440) ∧ (0 ≤ σ 10 (3 * r + k) ∧ σ 10 (3 * r + k) < 1440)) → (y_wn σ r m n = 0 ∧ y_bn σ r m n = false) ∨ (0 < y_wn σ r m n ∧ y_bn σ r m n = true ∧ ∃ k, k < n ∧ y_wn σ r m n = y_w1 (σ 9 (3 * r + k)) (σ 10 (3 * r + k)) m) := by
  intro n
  induction n with
  | zero => intro _; exact Or.inl ⟨rfl, rfl⟩
  | succ n ih =>
    intro hk
    have hn := hk n (by omega)
    have ih := ih (fun k h => hk k (by omega))
    have hp := y_w1_pos hn.1 hn.2 hm
    unfold y_wn y_bn
    by_cases h1 : y_wn σ r m n < y_w1 (σ 9 (3 * r + n)) (σ 10 (3 * r + n)) m
    · rw [if_pos h1]
      have := y_wn_nn σ r m n
      exact Or.inr ⟨by omega, by rw [hp.mp (by omega)]; simp, n, by omega, rfl⟩
    · rw [if_neg h1]
      rcases ih with ⟨a, b⟩ | ⟨a, b, k, hk2, e⟩
      · left
        refine ⟨a, ?_⟩
        have : ¬ y_bar (σ 9 (3 * r + n)) (σ 10 (3 * r + n)) m = true := fun q => by have := hp.mpr q; omega
        simp [b, this]
      · right
        exact ⟨a, by simp [b], k, by omega, e⟩
def y_el (W : Int → Int) : Nat → Int → Option Int
  | 0, _ => none
  | n + 1, s => if W (s % 1440) = 0 then some s else y_el W n (s + W (s % 1440))
theorem y_ea_some {σ : y_S} {r : Nat} {t i : Int} (hb : y_ba σ r (t + i) = false) : ∀ (n : Nat) (k : Int), k ≤ i → i < k + n → (∀ j, k ≤ j → j < i → y_ba σ r (t + j) = true) → y_ea σ r t n k = some (t + i) := by
  intro n
  induction n with
  | zero => intro k h1 h2; omega
  | succ n ih =>
    intro k h1 h2 h3
    unfold y_ea
    by_cases e : k = i
    · subst e; rw [if_pos hb]
    · rw [if_neg (by rw [h3 k (by omega) (by omega)]; decide)]
      exact ih (k + 1) (by omega) (by omega) (fun j a b => h3 j (by omega) b)
theorem y_ea_none {σ : y_S} {r : Nat} {t : Int} : ∀ (n : Nat) (k : Int), (∀ j, k ≤ j → j < k + n → y_ba σ r (t + j) = true) → y_ea σ r t n k = none := by
  intro n
  induction n with
  | zero => intro k _; rfl
  | succ n ih =>
    intro k h3
    unfold y_ea
    rw [if_neg (by rw [h3 k (by omega) (by omega)]; decide)]
    exact ih (k + 1) (fun j a b => h3 j (by omega) (by omega))
theorem y_ba_mod {σ : y_S} {r : Nat} {s t : Int} (h : s % 1440 = t % 1440) : y_ba σ r s = y_ba σ r t := by
  unfold y_ba; rw [h]
theorem y_ell {σ : y_S} {r : Nat} (hc : 0 ≤ σ 8 r ∧ σ 8 r ≤ 3) (hk : ∀ k : Nat, (k : Int) < σ 8 r → (0 ≤ σ 9 (3 * r + k) ∧ σ 9 (3 * r + k) < 1440) ∧ (0 ≤ σ 10 (3 * r + k) ∧ σ 10 (3 * r + k) < 1440)) (t : Int) : y_el (fun m => y_wn σ r m (σ 8 r).toNat) ((σ 8 r).toNat + 1) t = y_ea σ r t 1440 0 := by
  generalize hW : (fun m => y_wn σ r m (σ 8 r).toNat) = W
  have st : ∀ s : Int, (W (s % 1440) = 0 ∧ y_ba σ r s = false) ∨ (0 < W (s % 1440) ∧ (∀ j, 0 ≤ j → j < W (s % 1440) → y_ba σ r (s + j) = true) ∧ ∃ k : Nat, (k : Int) < σ 8 r ∧ (s + W (s % 1440)) % 1440 = (σ 10 (3 * r + k) + 1) % 1440) := by
    intro s
    subst hW
    rcases y_wn_spec (σ := σ) (r := r) (m := s % 1440) (by omega) (σ 8 r).toNat (fun k h => hk k (by omega)) with ⟨a, b⟩ | ⟨a, b, k, h, e⟩
    · exact Or.inl ⟨a, b⟩
    · right
      have hb := hk k (by omega)
      refine ⟨a, fun j h1 h2 => ?_, k, by omega, ?_⟩
      · have h2 : j < y_wn σ r (s % 1440) (σ 8 r).toNat := h2
        have := y_w1_all hb.1 hb.2 (m := s % 1440) (by omega) h1 (by omega)
        unfold y_ba
        refine y_bn_of (k := k) h ?_
        rw [show (s + j) % 1440 = (s % 1440 + j) % 1440 by omega]
        exact this
      · have := y_w1_end hb.1 hb.2 (m := s % 1440) (by omega) (by omega)
        rw [show (s + y_wn σ r (s % 1440) (σ 8 r).toNat) % 1440 = (s % 1440 + y_wn σ r (s % 1440) (σ 8 r).toNat) % 1440 by omega, e]
        exact this
  have go : ∀ (n : Nat) (a : Int), 0 ≤ a → (∀ j, 0 ≤ j → j < a → y_ba σ r (t + j) = true) → (y_el W n (t + a) = y_ea σ r t 1440 0) ∨ (y_el W n (t + a) = none ∧ ∃ f : Nat → Int, f 0 = t + a ∧ (∀ i, i < n → f i < f (i + 1) ∧ ∃ k : Nat, (k : Int) < σ 8 r ∧ f (i + 1) % 1440 = (σ 10 (3 * r + k) + 1) % 1440) ∧ ∀ j, 0 ≤ j → t + j < f n → y_ba σ r (t + j) = true) := by
    intro n
    induction n with
    | zero => intro a ha hb; exact Or.inr ⟨rfl, fun _ => t + a, rfl, fun i h => by omega, fun j h1 h2 => hb j h1 (by have h2 : t + j < t + a := h2; omega)⟩
    | succ n ih =>
      intro a ha hb
      rcases st (t + a) with ⟨h1, h2⟩ | ⟨h1, h2, k, h3, h4⟩
      · left
        unfold y_el
        rw [if_pos h1]
        have : a < 1440 := by
          rcases Int.lt_or_le a 1440 with g | g
          · exact g
          · exfalso
            have := hb (a % 1440) (by omega) (by omega)
            rw [y_ba_mod (s := t + a % 1440) (t := t + a) (by omega), h2] at this
            cases this
        exact (y_ea_some h2 1440 0 ha (by omega) (fun j x y => hb j x y)).symm
      · have e : y_el W (n + 1) (t + a) = y_el W n (t + (a + W ((t + a) % 1440))) := by
          conv => lhs; unfold y_el
          rw [if_neg (by omega), Int.add_assoc]
        rw [e]
        have hb2 : ∀ j, 0 ≤ j → j < a + W ((t + a) % 1440) → y_ba σ r (t + j) = true := by
          intro j x y
          rcases Int.lt_or_le j a with g | g
          · exact hb j x g
          · have := h2 (j - a) (by omega) (by omega)
            rw [show t + a + (j - a) = t + j by omega] at this
            exact this
        rcases ih (a + W ((t + a) % 1440)) (by omega) hb2 with g | ⟨g, f, f0, f1, f2⟩
        · exact Or.inl g
        · refine Or.inr ⟨g, fun i => if i = 0 then t + a else f (i - 1), by simp, fun i hi => ?_, fun j x y => ?_⟩
          · cases i with
            | zero =>
              simp only [if_true, Nat.zero_add, Nat.one_ne_zero, if_false, Nat.sub_self]
              rw [f0]
              exact ⟨by omega, k, h3, by rw [← h4]; congr 1; omega⟩
            | succ i =>
              simp only [Nat.add_eq_zero_iff, Nat.one_ne_zero, and_false, if_false, Nat.add_sub_cancel]
              exact f1 i (by omega)
          · exact f2 j x (by simpa using y)
  rcases go ((σ 8 r).toNat + 1) 0 (by omega) (fun j a b => by omega) with g | ⟨g, f, f0, f1, f2⟩
  · simpa using g
  · rw [Int.add_zero] at g f0
    rw [g]
    symm
    refine y_ea_none 1440 0 (fun j x y => f2 j x ?_)
    have a0 := f1 0 (by omega)
    rcases (show σ 8 r = 0 ∨ σ 8 r = 1 ∨ σ 8 r = 2 ∨ σ 8 r = 3 by omega) with c | c | c | c
    · obtain ⟨-, k, hk2, -⟩ := a0; omega
    · rw [c] at f1 ⊢
      obtain ⟨p0, k0, l0, e0⟩ := f1 0 (by decide)
      obtain ⟨p1, k1, l1, e1⟩ := f1 1 (by decide)
      have : k0 = 0 := by omega
      have : k1 = 0 := by omega
      subst k0 k1
      show t + j < f 2
      simp only [Nat.zero_add, Nat.reduceAdd] at *
      omega
    · rw [c] at f1 ⊢
      obtain ⟨p0, k0, l0, e0⟩ := f1 0 (by decide)
      obtain ⟨p1, k1, l1, e1⟩ := f1 1 (by decide)
      obtain ⟨p2, k2, l2, e2⟩ := f1 2 (by decide)
      show t + j < f 3
      simp only [Nat.zero_add, Nat.reduceAdd] at *
      rcases (show k0 = 0 ∨ k0 = 1 by omega) with rfl | rfl <;> rcases (show k1 = 0 ∨ k1 = 1 by omega) with rfl | rfl <;> rcases (show k2 = 0 ∨ k2 = 1 by omega) with rfl | rfl <;> omega
    · rw [c] at f1 ⊢
      obtain ⟨p0, k0, l0, e0⟩ := f1 0 (by decide)
      obtain ⟨p1, k1, l1, e1⟩ := f1 1 (by decide)
      obtain ⟨p2, k2, l2, e2⟩ := f1 2 (by decide)
      obtain ⟨p3, k3, l3, e3⟩ := f1 3 (by decide)
      show t + j < f 4
      simp only [Nat.zero_add, Nat.reduceAdd] at *
      rcases (show k0 = 0 ∨ k0 = 1 ∨ k0 = 2 by omega) with rfl | rfl | rfl <;> rcases (show k1 = 0 ∨ k1 = 1 ∨ k1 = 2 by omega) with rfl | rfl | rfl <;> rcases (show k2 = 0 ∨ k2 = 1 ∨ k2 = 2 by omega) with rfl | rfl | rfl <;> rcases (show k3 = 0 ∨ k3 = 1 ∨ k3 = 2 by omega) with rfl | rfl | rfl <;> omega
