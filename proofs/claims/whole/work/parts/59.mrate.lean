def y_WA (σ : y_S) : Prop := ∀ k : Nat, (k : Int) < σ 0 3 → (0 ≤ σ 17 k ∧ σ 17 k ≤ 120) ∧ (0 ≤ σ 18 k ∧ σ 18 k ≤ 1000)
def y_mx (a b : Int) : Int := if a < b then b else a
def y_es (σ : y_S) (b : Nat) (B S first way : Int) : Nat → Int
  | 0 => 0
  | i + 1 => y_es σ b B S first way i + y_av σ b B S (first - way * σ 17 i) (σ 18 i) (σ 13 b).toNat 0
theorem y_es_b {σ : y_S} (w : y_WB σ) (wa : y_WA σ) {b : Nat} (hb : b < 6) {B S first way : Int} (hB : 0 ≤ B ∧ B ≤ 1000000000000000000) (hS : 0 ≤ S ∧ S ≤ 777600000) : ∀ i : Nat, (i : Int) ≤ σ 0 3 → -(1555200000000000000000000000000000 * (i : Int)) ≤ y_es σ b B S first way i ∧ y_es σ b B S first way i ≤ 1555200000000000000000000000000000 * (i : Int) := by
  intro i
  induction i with
  | zero => intro _; unfold y_es; omega
  | succ i ih =>
    intro hi
    have a := ih (by omega)
    have gb := (w b hb).1
    have q := y_av_b w hb (place := first - way * σ 17 i) hB hS (wa i (by omega)).2 (σ 13 b).toNat 0 (by omega)
    unfold y_es
    omega
def y_Tp (T : Int) (μ : q_M) : Prop := μ.2 137 41 = lz (T / 1000000000000000000) ∧ μ.2 137 42 = lz (T % 1000000000000000000)
theorem K_ef {σ : y_S} (w : y_WB σ) (wa : y_WA σ) (wn : 0 ≤ σ 0 3 ∧ σ 0 3 ≤ 5) {b : Nat} (hb : b < 6) {B S : Nat} (hB : B ≤ 1000000000000000000) (hS : S ≤ 777600000) {first way : Int} (hf : -200 ≤ first ∧ first ≤ 200) (hw : way = 1 ∨ way = -1) (Kx : q_M → Option (Unit × q_M)) : ∀ (d n i : Nat) (μ : q_M), y_RM σ μ → y_Lc B S μ → y_Sm (y_es σ b B S first way i) μ → i + d = (σ 0 3).toNat → d < n → ∃ μ', L_X10_effect_13 (iz (b : Int)) (iz first) (iz way) Kx n (iz (i : Int)) μ = Kx μ' ∧ y_Fs μ μ' ∧ y_Sm (y_es σ b B S first way (σ 0 3).toNat) μ' := by
  intro d
  have gb := (w b hb).1
  induction d with
  | zero =>
    intro n i μ h hL hm hi hn
    obtain ⟨n, rfl⟩ : ∃ z, n = z + 1 := ⟨n - 1, by omega⟩
    have e : (iz (σ 0 3) ≤ iz (i : Int)) = (σ 0 3 ≤ (i : Int)) := z_le32 (by omega) (by omega) (by omega) (by omega)
    rw [L_X10_effect_13, m_axles h]
    simp only [e]
    rw [if_pos (by omega)]
    exact ⟨μ, rfl, y_Fs.rf, by rw [← hi]; exact hm⟩
  | succ d ih =>
    intro n i μ h hL hm hi hn
    obtain ⟨n, rfl⟩ : ∃ z, n = z + 1 := ⟨n - 1, by omega⟩
    have e : (iz (σ 0 3) ≤ iz (i : Int)) = (σ 0 3 ≤ (i : Int)) := z_le32 (by omega) (by omega) (by omega) (by omega)
    have ga := wa i (by omega)
    have cl : (iz (i : Int)).toNatClampNeg = i := by rw [z_cl (by omega) (by omega)]; omega
    have bd := y_es_b w wa hb (B := (B : Int)) (S := (S : Int)) (first := first) (way := way) (by omega) (by omega) i (by omega)
    have pl : -1000 ≤ first - way * σ 17 i ∧ first - way * σ 17 i ≤ 1000 := by rcases hw with rfl | rfl <;> omega
    obtain ⟨μ1, f1, s1, m1⟩ := K_al w hb hB hS pl ga.2 (T := y_es σ b B S first way i) (by omega) h hL hm (σ 13 b).toNat q_fu 0 (by omega) (by rw [z_fu]; omega)
    rw [L_X10_effect_13, m_axles h]
    simp only [e]
    rw [if_neg (by omega), z_gd (z_ix (by omega) (by omega) (by omega)), cl, m_offsets h, m_loads h, z_mul, z_sub]
    have f2 : f_X10_addAt (iz (b : Int)) (iz (first - way * σ 17 i)) (iz (σ 18 i)) μ = some ((), μ1) := f1
    rw [f2, z_bd, z_le, z_a1]
    obtain ⟨μ', f, s, m⟩ := ih n (i + 1) μ1 (s1.1.RM h) ⟨(s1.2 47 (by decide) (by decide) (by decide) (by decide)).trans hL.1, (s1.2 48 (by decide) (by decide) (by decide) (by decide)).trans hL.2⟩ m1 (by omega) (by omega)
    exact ⟨μ', f, s1.tr s, m⟩
theorem K_j92 {S T : Int} (x1 x2 x3 s0 : Int32) (c : Prop) [Decidable c] (hs : (s0 = 0) = ¬ c) {μ : q_M} (hm : y_Sm S μ) (hT : y_Tp T μ) : ∃ μ', J_X10_effect_92 x1 x2 x3 s0 μ = some ((), μ') ∧ y_Sc μ μ' ∧ y_Tp (if c then S else T) μ' ∧ ∀ j, j ≠ 41 → j ≠ 42 → μ'.2 137 j = μ.2 137 j := by
  unfold J_X10_effect_92 J_X10_effect_111
  simp only [hs, z_le]
  by_cases hc : c
  · rw [if_neg (by simpa using hc), if_neg (by simpa using hc), if_pos hc]
    refine ⟨_, rfl, (y_Sc.rf.sl).sl, ⟨?_, ?_⟩, fun j a1 a2 => ?_⟩
    · simp only [z_sl2, and_self, if_true, and_true, true_and, Nat.reduceEqDiff, and_false, if_false]; exact hm.1
    · simp only [z_sl2, and_self, if_true, and_true, true_and, Nat.reduceEqDiff, and_false, if_false]; exact hm.2
    · simp only [z_sl2, true_and, a1, a2, if_false]
  · rw [if_pos (by simpa using hc), if_pos (by simpa using hc), if_neg hc]
    refine ⟨_, rfl, (y_Sc.rf.sl).sl, ⟨?_, ?_⟩, fun j a1 a2 => ?_⟩
    · simp only [z_sl2, and_self, if_true, and_true, true_and, Nat.reduceEqDiff, and_false, if_false]; exact hT.1
    · simp only [z_sl2, and_self, if_true, and_true, true_and, Nat.reduceEqDiff, and_false, if_false]; exact hT.2
    · simp only [z_sl2, true_and, a1, a2, if_false]
def y_Ft (μ μ' : q_M) : Prop := y_Sc μ μ' ∧ μ'.2 137 47 = μ.2 137 47 ∧ μ'.2 137 48 = μ.2 137 48
theorem y_Ft.tr {μ μ1 μ2 : q_M} (h : y_Ft μ μ1) (g : y_Ft μ1 μ2) : y_Ft μ μ2 := ⟨h.1.tr g.1, g.2.1.trans h.2.1, g.2.2.trans h.2.2⟩
theorem K_effect {σ : y_S} (w : y_WB σ) (wa : y_WA σ) (wn : 0 ≤ σ 0 3 ∧ σ 0 3 ≤ 5) {b : Nat} (hb : b < 6) {B S : Nat} (hB : B ≤ 1000000000000000000) (hS : S ≤ 777600000) {first way : Int} (hf : -200 ≤ first ∧ first ≤ 200) (hw : way = 1 ∨ way = -1) {T : Int} (hT : 0 ≤ T ∧ T ≤ 10000000000000000000000000000000000) {μ : q_M} (h : y_RM σ μ) (hL : y_Lc B S μ) (ht : y_Tp T μ) : ∃ μ', f_X10_effect (iz (b : Int)) (iz first) (iz way) μ = some ((), μ') ∧ y_Ft μ μ' ∧ y_Tp (y_mx T (y_es σ b B S first way (σ 0 3).toNat)) μ' := by
  unfold f_X10_effect
  rw [z_le, z_le]
  have h0 : y_RM σ (q_sl (q_sl μ 137 45 0) 137 46 0) := h
  have hL0 : y_Lc B S (q_sl (q_sl μ 137 45 0) 137 46 0) := by
    refine ⟨?_, ?_⟩
    · simp only [z_sl2, true_and, Nat.reduceEqDiff, if_false]; exact hL.1
    · simp only [z_sl2, true_and, Nat.reduceEqDiff, if_false]; exact hL.2
  have hm0 : y_Sm (y_es σ b B S first way 0) (q_sl (q_sl μ 137 45 0) 137 46 0) := by
    refine ⟨?_, ?_⟩
    · simp only [z_sl2, true_and, Nat.reduceEqDiff, if_false, if_true]; rfl
    · simp only [z_sl2, true_and, Nat.reduceEqDiff, if_false, if_true]; rfl
  have ht0 : y_Tp T (q_sl (q_sl μ 137 45 0) 137 46 0) := by
    refine ⟨?_, ?_⟩
    · simp only [z_sl2, true_and, Nat.reduceEqDiff, if_false]; exact ht.1
    · simp only [z_sl2, true_and, Nat.reduceEqDiff, if_false]; exact ht.2
  have hs0 : y_Ft μ (q_sl (q_sl μ 137 45 0) 137 46 0) := ⟨(y_Sc.rf.sl).sl, hL0.1.trans hL.1.symm, hL0.2.trans hL.2.symm⟩
  generalize q_sl (q_sl μ 137 45 0) 137 46 0 = μ0 at h0 hL0 hm0 ht0 hs0
  obtain ⟨μ1, f1, s1, m1⟩ := K_ef w wa wn hb hB hS hf hw _ (σ 0 3).toNat q_fu 0 μ0 h0 hL0 hm0 (by omega) (by rw [z_fu]; omega)
  have f1 := f1
  rw [show iz ((0 : Nat) : Int) = (0 : Int32) from rfl] at f1
  rw [f1]
  have bd := y_es_b w wa hb (B := (B : Int)) (S := (S : Int)) (first := first) (way := way) (by omega) (by omega) (σ 0 3).toNat (by omega)
  generalize y_es σ b B S first way (σ 0 3).toNat = E at *
  have ht1 : y_Tp T μ1 := ⟨(s1.2 41 (by decide) (by decide) (by decide) (by decide)).trans ht0.1, (s1.2 42 (by decide) (by decide) (by decide) (by decide)).trans ht0.2⟩
  have st : y_Ft μ μ1 := hs0.tr ⟨s1.1, s1.2 47 (by decide) (by decide) (by decide) (by decide), s1.2 48 (by decide) (by decide) (by decide) (by decide)⟩
  have c1 : (0 < lg_cmp (μ1.2 137 45) (μ1.2 137 41)) = (T / 1000000000000000000 < E / 1000000000000000000) := by rw [m1.1, ht1.1]; exact (z_c1 _ _).trans (z_lt64 (by omega) (by omega) (by omega) (by omega))
  have c2 : (lg_cmp (μ1.2 137 45) (μ1.2 137 41) = 0) = (E / 1000000000000000000 = T / 1000000000000000000) := by rw [m1.1, ht1.1]; exact (z_c2 _ _).trans (z_eq64 (by omega) (by omega) (by omega) (by omega))
  have c3 : (lg_cmp (μ1.2 137 46) (μ1.2 137 42) ≤ 0) = (E % 1000000000000000000 ≤ T % 1000000000000000000) := by rw [m1.2, ht1.2]; exact (z_c4 _ _).trans (z_le64 (by omega) (by omega) (by omega) (by omega))
  simp only [c1, c2, c3]
  unfold J_X10_effect_87 J_X10_effect_91 y_mx
  obtain ⟨μa, fa, sa, ta, oa⟩ := K_j92 (iz (b : Int)) (iz first) (iz way) 1 True (by simp) m1 ht1
  obtain ⟨μb, fb, sb, tb, ob⟩ := K_j92 (iz (b : Int)) (iz first) (iz way) 0 False (by simp) m1 ht1
  rw [if_pos trivial] at ta
  rw [if_neg (fun q => q)] at tb
  have ra : y_Ft μ μa := st.tr ⟨sa, oa 47 (by decide) (by decide), oa 48 (by decide) (by decide)⟩
  have rb : y_Ft μ μb := st.tr ⟨sb, ob 47 (by decide) (by decide), ob 48 (by decide) (by decide)⟩
  by_cases q1 : T / 1000000000000000000 < E / 1000000000000000000
  · rw [if_pos q1, fa, if_pos (by omega)]
    exact ⟨μa, rfl, ra, ta⟩
  · rw [if_neg q1]
    by_cases q2 : E / 1000000000000000000 = T / 1000000000000000000
    · rw [if_pos q2]
      by_cases q3 : E % 1000000000000000000 ≤ T % 1000000000000000000
      · rw [if_pos q3, fb, if_neg (by omega)]
        exact ⟨μb, rfl, rb, tb⟩
      · rw [if_neg q3, fa, if_pos (by omega)]
        exact ⟨μa, rfl, ra, ta⟩
    · rw [if_neg q2, fb, if_neg (by omega)]
      exact ⟨μb, rfl, rb, tb⟩
def y_t1 (σ : y_S) (b : Nat) (B S : Int) (k : Nat) : Nat → Int → Int
  | 0, t => t
  | i + 1, t => y_mx (y_mx (y_t1 σ b B S k i t) (y_es σ b B S (σ 14 (6 * b + k) + σ 17 i) 1 (σ 0 3).toNat)) (y_es σ b B S (σ 14 (6 * b + k) - σ 17 i) (-1) (σ 0 3).toNat)
def y_t2 (σ : y_S) (b : Nat) (B S : Int) : Nat → Int
  | 0 => 0
  | k + 1 => y_t1 σ b B S k (σ 0 3).toNat (y_t2 σ b B S k)
theorem y_mx_b {a b c : Int} (ha : 0 ≤ a ∧ a ≤ c) (hb : b ≤ c) : 0 ≤ y_mx a b ∧ y_mx a b ≤ c := by
  unfold y_mx; split <;> omega
theorem y_t1_b {σ : y_S} (w : y_WB σ) (wa : y_WA σ) (wn : 0 ≤ σ 0 3 ∧ σ 0 3 ≤ 5) {b : Nat} (hb : b < 6) {B S : Int} (hB : 0 ≤ B ∧ B ≤ 1000000000000000000) (hS : 0 ≤ S ∧ S ≤ 777600000) (k : Nat) {t : Int} (ht : 0 ≤ t ∧ t ≤ 10000000000000000000000000000000000) : ∀ i : Nat, 0 ≤ y_t1 σ b B S k i t ∧ y_t1 σ b B S k i t ≤ 10000000000000000000000000000000000 := by
  intro i
  induction i with
  | zero => exact ht
  | succ i ih =>
    have e1 := y_es_b w wa hb (first := σ 14 (6 * b + k) + σ 17 i) (way := 1) hB hS (σ 0 3).toNat (by omega)
    have e2 := y_es_b w wa hb (first := σ 14 (6 * b + k) - σ 17 i) (way := -1) hB hS (σ 0 3).toNat (by omega)
    unfold y_t1
    exact y_mx_b (y_mx_b ih (by omega)) (by omega)
theorem y_t2_b {σ : y_S} (w : y_WB σ) (wa : y_WA σ) (wn : 0 ≤ σ 0 3 ∧ σ 0 3 ≤ 5) {b : Nat} (hb : b < 6) {B S : Int} (hB : 0 ≤ B ∧ B ≤ 1000000000000000000) (hS : 0 ≤ S ∧ S ≤ 777600000) : ∀ k : Nat, 0 ≤ y_t2 σ b B S k ∧ y_t2 σ b B S k ≤ 10000000000000000000000000000000000 := by
  intro k
  induction k with
  | zero => unfold y_t2; omega
  | succ k ih => unfold y_t2; exact y_t1_b w wa wn hb hB hS k ih _
theorem K_r133 {σ : y_S} (w : y_WB σ) (wa : y_WA σ) (wn : 0 ≤ σ 0 3 ∧ σ 0 3 ≤ 5) {b : Nat} (hb : b < 6) {B S : Nat} (hB : B ≤ 1000000000000000000) (hS : S ≤ 777600000) {k : Nat} (hk : (k : Int) < σ 13 b) {t : Int} (ht : 0 ≤ t ∧ t ≤ 10000000000000000000000000000000000) (Kx : Int32 → q_M → Option (Unit × q_M)) : ∀ (d n i : Nat) (μ : q_M), y_RM σ μ → y_Lc B S μ → y_Tp (y_t1 σ b B S k i t) μ → i + d = (σ 0 3).toNat → d < n → ∃ μ', L_X10_rate_133 (iz (b : Int)) Kx n (iz (k : Int)) (iz (i : Int)) μ = Kx (iz (k : Int)) μ' ∧ y_Ft μ μ' ∧ y_Tp (y_t1 σ b B S k (σ 0 3).toNat t) μ' := by
  intro d
  have gb := (w b hb).1
  have gk := ((w b hb).2.1 k hk).1
  induction d with
  | zero =>
    intro n i μ h hL hm hi hn
    obtain ⟨n, rfl⟩ : ∃ z, n = z + 1 := ⟨n - 1, by omega⟩
    have e : (iz (σ 0 3) ≤ iz (i : Int)) = (σ 0 3 ≤ (i : Int)) := z_le32 (by omega) (by omega) (by omega) (by omega)
    rw [L_X10_rate_133, m_axles h]
    simp only [e]
    rw [if_pos (by omega)]
    exact ⟨μ, rfl, ⟨y_Sc.rf, rfl, rfl⟩, by rw [← hi]; exact hm⟩
  | succ d ih =>
    intro n i μ h hL hm hi hn
    obtain ⟨n, rfl⟩ : ∃ z, n = z + 1 := ⟨n - 1, by omega⟩
    have e : (iz (σ 0 3) ≤ iz (i : Int)) = (σ 0 3 ≤ (i : Int)) := z_le32 (by omega) (by omega) (by omega) (by omega)
    have ga := (wa i (by omega)).1
    have cl : (iz (i : Int)).toNatClampNeg = i := by rw [z_cl (by omega) (by omega)]; omega
    have s : 6 * iz (b : Int) + iz (k : Int) = iz (6 * b + k) := by rw [show 6 * iz (b : Int) = iz (6 * b) from z_mul 6 b, z_add]
    have cl2 : (iz (6 * (b : Int) + k)).toNatClampNeg = 6 * b + k := by rw [z_cl (by omega) (by omega)]; omega
    have tb := y_t1_b w wa wn hb (B := (B : Int)) (S := (S : Int)) (by omega) (by omega) k ht i
    obtain ⟨μ1, f1, s1, t1⟩ := K_effect w wa wn hb hB hS (first := σ 14 (6 * b + k) + σ 17 i) (way := 1) (by omega) (Or.inl rfl) tb h hL hm
    have h1 := s1.1.RM h
    have hL1 : y_Lc B S μ1 := ⟨s1.2.1.trans hL.1, s1.2.2.trans hL.2⟩
    have e1 := y_es_b w wa hb (B := (B : Int)) (S := (S : Int)) (first := σ 14 (6 * b + k) + σ 17 i) (way := 1) (by omega) (by omega) (σ 0 3).toNat (by omega)
    obtain ⟨μ2, f2, s2, t2⟩ := K_effect w wa wn hb hB hS (first := σ 14 (6 * b + k) - σ 17 i) (way := -1) (by omega) (Or.inr rfl) (y_mx_b tb (by omega)) h1 hL1 t1
    have h2 := s2.1.RM h1
    have hL2 : y_Lc B S μ2 := ⟨s2.2.1.trans hL1.1, s2.2.2.trans hL1.2⟩
    rw [L_X10_rate_133, m_axles h]
    simp only [e]
    rw [if_neg (by omega), s, z_gd (z_ix (by omega) (by omega) (by omega)), z_gd (z_ix (by omega) (by omega) (by omega)), cl, cl2, m_places h, m_offsets h, z_add]
    have f1 : f_X10_effect (iz (b : Int)) (iz (σ 14 (6 * b + k) + σ 17 i)) 1 μ = some ((), μ1) := f1
    have f2 : f_X10_effect (iz (b : Int)) (iz (σ 14 (6 * b + k) - σ 17 i)) (-1) μ1 = some ((), μ2) := f2
    rw [f1, z_bd, m_places h1, m_offsets h1, z_sub, f2, z_bd, z_le, z_a1]
    obtain ⟨μ', f, s3, m⟩ := ih n (i + 1) μ2 h2 hL2 t2 (by omega) (by omega)
    exact ⟨μ', f, (s1.tr s2).tr s3, m⟩
theorem K_r121 {σ : y_S} (w : y_WB σ) (wa : y_WA σ) (wn : 0 ≤ σ 0 3 ∧ σ 0 3 ≤ 5) {b : Nat} (hb : b < 6) {B S : Nat} (hB : B ≤ 1000000000000000000) (hS : S ≤ 777600000) (Kx : q_M → Option (Unit × q_M)) : ∀ (d n k : Nat) (μ : q_M), y_RM σ μ → y_Lc B S μ → y_Tp (y_t2 σ b B S k) μ → k + d = (σ 13 b).toNat → d < n → ∃ μ', L_X10_rate_121 (iz (b : Int)) Kx n (iz (k : Int)) μ = Kx μ' ∧ y_Ft μ μ' ∧ y_Tp (y_t2 σ b B S (σ 13 b).toNat) μ' := by
  intro d
  have gb := (w b hb).1
  have cb : (iz (b : Int)).toNatClampNeg = b := by rw [z_cl (by omega) (by omega)]; omega
  induction d with
  | zero =>
    intro n k μ h hL hm hk hn
    obtain ⟨n, rfl⟩ : ∃ z, n = z + 1 := ⟨n - 1, by omega⟩
    have e : (iz (σ 13 b) ≤ iz (k : Int)) = (σ 13 b ≤ (k : Int)) := z_le32 (by omega) (by omega) (by omega) (by omega)
    rw [L_X10_rate_121, z_gd (z_ix (by omega) (by omega) (by omega)), cb, m_cornerCounts h]
    simp only [e]
    rw [if_pos (by omega)]
    exact ⟨μ, rfl, ⟨y_Sc.rf, rfl, rfl⟩, by rw [← hk]; exact hm⟩
  | succ d ih =>
    intro n k μ h hL hm hk hn
    obtain ⟨n, rfl⟩ : ∃ z, n = z + 1 := ⟨n - 1, by omega⟩
    have e : (iz (σ 13 b) ≤ iz (k : Int)) = (σ 13 b ≤ (k : Int)) := z_le32 (by omega) (by omega) (by omega) (by omega)
    have tb := y_t2_b w wa wn hb (B := (B : Int)) (S := (S : Int)) (by omega) (by omega) k
    rw [L_X10_rate_121, z_gd (z_ix (by omega) (by omega) (by omega)), cb, m_cornerCounts h]
    simp only [e]
    rw [if_neg (by omega)]
    obtain ⟨μ1, f1, s1, t1⟩ := K_r133 w wa wn hb hB hS (k := k) (by omega) tb (fun v2 μ => q_le (v2 + 1 : Int32) (fun y34 => (L_X10_rate_121 (iz (b : Int)) Kx n) y34 μ)) (σ 0 3).toNat q_fu 0 μ h hL hm (by omega) (by rw [z_fu]; omega)
    rw [show iz ((0 : Nat) : Int) = (0 : Int32) from rfl] at f1
    rw [f1]
    simp only [z_le, z_a1]
    obtain ⟨μ', f, s2, m⟩ := ih n (k + 1) μ1 (s1.1.RM h) ⟨s1.2.1.trans hL.1, s1.2.2.trans hL.2⟩ t1 (by omega) (by omega)
    exact ⟨μ', f, s1.tr s2, m⟩
def y_top (σ : y_S) (b : Nat) : Int := y_t2 σ b (y_LB σ b (σ 13 b).toNat : Nat) (y_LS σ b (σ 13 b).toNat : Nat) (σ 13 b).toNat
def y_und (σ : y_S) (b : Nat) : Int := (y_LB σ b (σ 13 b).toNat : Nat) * (y_LS σ b (σ 13 b).toNat : Nat)
theorem K_rate {σ : y_S} (w : y_WB σ) (wa : y_WA σ) (wn : 0 ≤ σ 0 3 ∧ σ 0 3 ≤ 5) {b : Nat} (hb : b < 6) {μ : q_M} (h : y_RM σ μ) : ∃ μ', f_X10_rate (iz (b : Int)) μ = some ((), μ') ∧ y_Sc μ μ' ∧ y_Tp (y_top σ b) μ' ∧ μ'.2 137 43 = lz (y_und σ b / 1000000000000000000) ∧ μ'.2 137 44 = lz (y_und σ b % 1000000000000000000) := by
  have gb := (w b hb).1
  unfold f_X10_rate
  rw [z_le, z_le]
  have hL0 : y_Lc (y_LB σ b 0) (y_LS σ b 0) (q_sl (q_sl μ 137 47 1) 137 48 1) := by
    refine ⟨?_, ?_⟩
    · simp only [z_sl2, true_and, Nat.reduceEqDiff, if_false, if_true]; rfl
    · simp only [z_sl2, true_and, if_true]; rfl
  obtain ⟨μ1, f1, s1, l1⟩ := K_r12 w hb (fun μ => q_le (q_sl μ 137 41 0) (fun μ22 => q_le (q_sl μ22 137 42 0) (fun μ23 => L_X10_rate_121 (iz (b : Int)) (fun μ => q_bd (f_X10_product (μ.2 137 47) (μ.2 137 48) μ) (fun u35 μ35 => q_le (q_sl μ35 137 43 (μ35.2 137 49)) (fun μ37 => q_le (q_sl μ37 137 44 (μ37.2 137 50)) (fun μ38 => some ((), μ38))))) q_fu 0 μ23))) (σ 13 b).toNat q_fu 0 (q_sl (q_sl μ 137 47 1) 137 48 1) h hL0 (by omega) (by rw [z_fu]; omega)
  rw [show iz ((0 : Nat) : Int) = (0 : Int32) from rfl] at f1
  rw [f1, z_le, z_le]
  have s1 : y_Sc μ μ1 := ((y_Sc.rf.sl).sl).tr s1
  have h1 := s1.RM h
  obtain ⟨b0, b1⟩ := y_LB_m hb w (k := (σ 13 b).toNat) (by omega)
  obtain ⟨c0, c1⟩ := y_LS_m hb w (k := (σ 13 b).toNat) (by omega)
  have hL1 : y_Lc (y_LB σ b (σ 13 b).toNat) (y_LS σ b (σ 13 b).toNat) (q_sl (q_sl μ1 137 41 0) 137 42 0) := by
    refine ⟨?_, ?_⟩
    · simp only [z_sl2, true_and, Nat.reduceEqDiff, if_false]; exact l1.1
    · simp only [z_sl2, true_and, Nat.reduceEqDiff, if_false]; exact l1.2
  have ht1 : y_Tp (y_t2 σ b (y_LB σ b (σ 13 b).toNat : Nat) (y_LS σ b (σ 13 b).toNat : Nat) 0) (q_sl (q_sl μ1 137 41 0) 137 42 0) := by
    refine ⟨?_, ?_⟩
    · simp only [z_sl2, true_and, Nat.reduceEqDiff, if_false, if_true]; rfl
    · simp only [z_sl2, true_and, if_true]; rfl
  obtain ⟨μ2, f2, s2, t2⟩ := K_r121 w wa wn hb b1 c1 (fun μ => q_bd (f_X10_product (μ.2 137 47) (μ.2 137 48) μ) (fun u35 μ35 => q_le (q_sl μ35 137 43 (μ35.2 137 49)) (fun μ37 => q_le (q_sl μ37 137 44 (μ37.2 137 50)) (fun μ38 => some ((), μ38))))) (σ 13 b).toNat q_fu 0 (q_sl (q_sl μ1 137 41 0) 137 42 0) h1 hL1 ht1 (by omega) (by rw [z_fu]; omega)
  rw [show iz ((0 : Nat) : Int) = (0 : Int32) from rfl] at f2
  rw [f2, s2.2.1, s2.2.2, hL1.1, hL1.2]
  obtain ⟨μ3, f3, s3, p1, p2, p3⟩ := K_product (a := ((y_LB σ b (σ 13 b).toNat : Nat) : Int)) (m := ((y_LS σ b (σ 13 b).toNat : Nat) : Int)) (by omega) (by omega) μ2
  rw [f3, z_bd, z_le, z_le]
  refine ⟨_, rfl, ((((s1.sl).sl).tr s2.1).tr s3).sl.sl, ⟨?_, ?_⟩, ?_, ?_⟩
  · simp only [z_sl2, true_and, Nat.reduceEqDiff, if_false]; rw [p3 41 (by decide) (by decide)]; exact t2.1
  · simp only [z_sl2, true_and, Nat.reduceEqDiff, if_false]; rw [p3 42 (by decide) (by decide)]; exact t2.2
  · simp only [z_sl2, true_and, Nat.reduceEqDiff, if_false, if_true]; exact p1
  · simp only [z_sl2, true_and, Nat.reduceEqDiff, if_false, if_true]; exact p2
