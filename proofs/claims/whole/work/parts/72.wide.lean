theorem z_lzc {a b : Nat} (h : a = b) : lz (a : Int) = lz (b : Int) := by rw [h]
def y_q (V : Nat) : Nat → Nat
  | 0 => V
  | j + 1 => y_q V j / 1000000000
def y_Wd (μ : q_M) (k V : Nat) : Prop := (∀ j, j < 4 → μ.2 (k + 16) j = lz ((y_q V j % 1000000000 : Nat) : Int)) ∧ V < 1000000000000000000000000000000000000
def y_Fw (k : Nat) (μ μ' : q_M) : Prop := μ'.1 = μ.1 ∧ ∀ a, a ≠ k + 16 → μ'.2 a = μ.2 a
theorem y_Fw.rf {k : Nat} {μ : q_M} : y_Fw k μ μ := ⟨rfl, fun _ _ => rfl⟩
theorem y_Fw.tr {k : Nat} {μ μ1 μ2 : q_M} (h : y_Fw k μ μ1) (g : y_Fw k μ1 μ2) : y_Fw k μ μ2 := ⟨g.1.trans h.1, fun a ha => (g.2 a ha).trans (h.2 a ha)⟩
theorem y_Fw.sl {k i : Nat} {x : Int64} {μ μ1 : q_M} (h : y_Fw k μ μ1) : y_Fw k μ (q_sl μ1 (k + 16) i x) := ⟨h.1, fun a ha => (q_sl_row ha).trans (h.2 a ha)⟩
theorem y_Fw.Wd {k m V : Nat} {μ μ' : q_M} (h : y_Fw k μ μ') (hm : m ≠ k) (g : y_Wd μ m V) : y_Wd μ' m V := ⟨fun j hj => by rw [h.2 (m + 16) (by omega)]; exact g.1 j hj, g.2⟩
theorem y_q4 {V : Nat} (h : V < 1000000000000000000000000000000000000) : y_q V 4 = 0 := by
  simp only [y_q]; omega
theorem y_q_mono {V W : Nat} (h : V ≤ W) : ∀ j, y_q V j ≤ y_q W j := by
  intro j
  induction j with
  | zero => exact h
  | succ j ih => exact Nat.div_le_div_right ih
theorem y_q_small {V : Nat} (h : V < 1000000000) : ∀ j, 1 ≤ j → y_q V j = 0 := by
  intro j
  induction j with
  | zero => intro q; omega
  | succ j ih =>
    intro _
    by_cases e : j = 0
    · subst e; simp only [y_q]; omega
    · simp only [y_q]; rw [ih (by omega)]
theorem z_i4 {i : Nat} (hi : i ≤ 4) : (4 ≤ iz (i : Int)) = (4 ≤ i) := by
  rw [show (4 ≤ iz (i : Int)) = (4 ≤ (i : Int)) from z_le32 (a := 4) (by omega) (by omega) (by omega) (by omega)]
  exact propext ⟨fun h => by omega, fun h => by omega⟩
theorem K_setl {k : Nat} (x1 : Int64) (Kx : q_M → Option (Unit × q_M)) : ∀ (d n i : Nat) (μ : q_M), i + d = 4 → d < n → (∀ j, 1 ≤ j → j < i → μ.2 (k + 16) j = lz 0) → ∃ μ', L_X8_setTo_2 k x1 Kx n (iz (i : Int)) μ = Kx μ' ∧ (∀ j, 1 ≤ j → j < 4 → μ'.2 (k + 16) j = lz 0) ∧ y_Fw k μ μ' := by
  intro d
  induction d with
  | zero =>
    intro n i μ hi hn h
    obtain ⟨n, rfl⟩ : ∃ z, n = z + 1 := ⟨n - 1, by omega⟩
    rw [L_X8_setTo_2, z_if (z_i4 (by omega)), if_pos (by omega)]
    exact ⟨μ, rfl, fun j h1 h2 => h j h1 (by omega), y_Fw.rf⟩
  | succ d ih =>
    intro n i μ hi hn h
    obtain ⟨n, rfl⟩ : ∃ z, n = z + 1 := ⟨n - 1, by omega⟩
    have cl : (iz (i : Int)).toNatClampNeg = i := by rw [z_cl (by omega) (by omega)]; omega
    rw [L_X8_setTo_2, z_if (z_i4 (by omega)), if_neg (by omega), z_gd (z_ix (by omega) (by omega) (by omega)), cl, z_le, z_le, z_a1]
    obtain ⟨μ', f, a, F⟩ := ih n (i + 1) (q_sl μ (k + 16) i 0) (by omega) (by omega) (fun j h1 h2 => by
      rw [z_sl2]
      by_cases e : j = i
      · rw [if_pos ⟨rfl, e⟩]; rfl
      · rw [if_neg (fun q => e q.2)]; exact h j h1 (by omega))
    exact ⟨μ', f, a, y_Fw.rf.sl.tr F⟩
theorem K_setTo {k v : Nat} (hv : v < 1000000000) (μ : q_M) : ∃ μ', f_X8_setTo k (lz (v : Int)) μ = some ((), μ') ∧ y_Wd μ' k v ∧ y_Fw k μ μ' := by
  unfold f_X8_setTo
  obtain ⟨μ1, f1, a1, F1⟩ := K_setl (k := k) (lz (v : Int)) (fun μ => q_gd (q_ix (0 : Int32) 4) (q_le (q_sl μ (k + 16) (0 : Int32).toNatClampNeg (lz (v : Int))) (fun μ6 => some ((), μ6)))) 3 q_fu 1 μ (by omega) (by rw [z_fu]; omega) (fun j h1 h2 => by omega)
  rw [show iz ((1 : Nat) : Int) = (1 : Int32) from rfl] at f1
  rw [f1, z_gd (by decide), z_le]
  refine ⟨_, rfl, ⟨fun j hj => ?_, by omega⟩, F1.sl⟩
  rw [z_sl2]
  by_cases e : j = 0
  · rw [if_pos ⟨rfl, e⟩, e]
    show lz (v : Int) = lz ((v % 1000000000 : Nat) : Int)
    rw [Nat.mod_eq_of_lt hv]
  · rw [if_neg (fun q => e q.2), a1 j (by omega) hj, y_q_small hv j (by omega)]; rfl
theorem K_cpl {k m V : Nat} (Kx : q_M → Option (Unit × q_M)) (hkm : k ≠ m) : ∀ (d n i : Nat) (μ : q_M), i + d = 4 → d < n → y_Wd μ m V → (∀ j, j < i → μ.2 (k + 16) j = lz ((y_q V j % 1000000000 : Nat) : Int)) → ∃ μ', L_X8_copyFrom_2 k m Kx n (iz (i : Int)) μ = Kx μ' ∧ y_Wd μ' k V ∧ y_Fw k μ μ' := by
  intro d
  induction d with
  | zero =>
    intro n i μ hi hn hm h
    obtain ⟨n, rfl⟩ : ∃ z, n = z + 1 := ⟨n - 1, by omega⟩
    rw [L_X8_copyFrom_2, z_if (z_i4 (by omega)), if_pos (by omega)]
    exact ⟨μ, rfl, ⟨fun j h1 => h j (by omega), hm.2⟩, y_Fw.rf⟩
  | succ d ih =>
    intro n i μ hi hn hm h
    obtain ⟨n, rfl⟩ : ∃ z, n = z + 1 := ⟨n - 1, by omega⟩
    have cl : (iz (i : Int)).toNatClampNeg = i := by rw [z_cl (by omega) (by omega)]; omega
    rw [L_X8_copyFrom_2, z_if (z_i4 (by omega)), if_neg (by omega), z_gd (z_ix (by omega) (by omega) (by omega)), cl, z_le, z_le, z_a1]
    have F1 : y_Fw k μ (q_sl μ (k + 16) i (μ.2 (m + 16) i)) := y_Fw.rf.sl
    obtain ⟨μ', f, a, F⟩ := ih n (i + 1) _ (by omega) (by omega) (F1.Wd (Ne.symm hkm) hm) (fun j h1 => by
      rw [z_sl2]
      by_cases e : j = i
      · rw [if_pos ⟨rfl, e⟩, e]; exact hm.1 i (by omega)
      · rw [if_neg (fun q => e q.2)]; exact h j (by omega))
    exact ⟨μ', f, a, F1.tr F⟩
theorem K_copyFrom {k m V : Nat} (hkm : k ≠ m) {μ : q_M} (h : y_Wd μ m V) : ∃ μ', f_X8_copyFrom k m μ = some ((), μ') ∧ y_Wd μ' k V ∧ y_Fw k μ μ' := by
  unfold f_X8_copyFrom
  exact K_cpl (fun μ => some ((), μ)) hkm 4 q_fu 0 μ (by omega) (by rw [z_fu]; omega) h (fun j h1 => by omega)
def y_sg (a b : Nat) : Int := if a < b then -1 else if b < a then 1 else 0
theorem z_am (a : Int) : iz a + -1 = iz (a - 1) := by
  rw [show (-1 : Int32) = iz (-1) from rfl, z_add]; congr 1
theorem K_cwl {k m V W : Nat} {μ : q_M} (hk : y_Wd μ k V) (hm : y_Wd μ m W) : ∀ (i n : Nat), i ≤ 4 → i < n → y_q V i = y_q W i → L_X8_compareWith_2 k m (fun μ => some (0, μ)) n (iz ((i : Int) - 1)) μ = some (iz (y_sg V W), μ) := by
  intro i
  induction i with
  | zero =>
    intro n hi hn h
    obtain ⟨n, rfl⟩ : ∃ z, n = z + 1 := ⟨n - 1, by omega⟩
    rw [L_X8_compareWith_2, z_if (z_lt0 (by omega) (by omega)), if_pos (by omega)]
    have h : V = W := h
    unfold y_sg
    rw [if_neg (by omega), if_neg (by omega)]
    rfl
  | succ i ih =>
    intro n hi hn h
    obtain ⟨n, rfl⟩ : ∃ z, n = z + 1 := ⟨n - 1, by omega⟩
    have cl : (iz (((i + 1 : Nat) : Int) - 1)).toNatClampNeg = i := by rw [z_cl (by omega) (by omega)]; omega
    have e1 := hk.1 i (by omega)
    have e2 := hm.1 i (by omega)
    simp only [y_q] at h
    have c1 : (lg_cmp (μ.2 (k + 16) i) (μ.2 (m + 16) i) = 0) = (((y_q V i % 1000000000 : Nat) : Int) = ((y_q W i % 1000000000 : Nat) : Int)) := by rw [e1, e2]; exact (z_c2 _ _).trans (z_eq64 (by omega) (by omega) (by omega) (by omega))
    have c2 : (0 ≤ lg_cmp (μ.2 (k + 16) i) (μ.2 (m + 16) i)) = (((y_q W i % 1000000000 : Nat) : Int) ≤ ((y_q V i % 1000000000 : Nat) : Int)) := by rw [e1, e2]; exact (z_c3 _ _).trans (z_le64 (by omega) (by omega) (by omega) (by omega))
    rw [L_X8_compareWith_2, z_if (z_lt0 (by omega) (by omega)), if_neg (by omega), z_gd (z_ix (by omega) (by omega) (by omega)), cl, z_if c1, z_if c2, z_le, z_am]
    by_cases q1 : y_q V i % 1000000000 = y_q W i % 1000000000
    · rw [if_pos (by omega), show ((i + 1 : Nat) : Int) - 1 - 1 = (i : Int) - 1 by omega]
      exact ih n (by omega) (by omega) (by omega)
    · rw [if_neg (by omega)]
      unfold y_sg
      by_cases q2 : y_q W i % 1000000000 ≤ y_q V i % 1000000000
      · rw [if_pos (by omega)]
        have : W < V := by
          apply Nat.lt_of_not_le
          intro q
          have := y_q_mono q i
          omega
        rw [if_neg (by omega), if_pos this]; rfl
      · rw [if_neg (by omega)]
        have : V < W := by
          apply Nat.lt_of_not_le
          intro q
          have := y_q_mono q i
          omega
        rw [if_pos this]; rfl
theorem K_compareWith {k m V W : Nat} {μ : q_M} (hk : y_Wd μ k V) (hm : y_Wd μ m W) : f_X8_compareWith k m μ = some (iz (y_sg V W), μ) := by
  unfold f_X8_compareWith
  exact K_cwl hk hm 4 q_fu (by omega) (by rw [z_fu]; omega) (by rw [y_q4 hk.2, y_q4 hm.2])
theorem K_shl {k V W f : Nat} (hf : f < 1000000000) (hW : W < 1000000000000000000000000000000000000) (x1 : Int64) (x5 : Int32) (hV : V < 1000000000000000000000000000000000000) : ∀ (d n i r c : Nat) (μ : q_M), i + d = 4 → d < n → r ≤ 9000000000000000000 → c ≤ 999999999 → y_q W i = y_q V i + r * f + c → (∀ j, j < i → μ.2 (k + 16) j = lz ((y_q W j % 1000000000 : Nat) : Int)) → (∀ j, i ≤ j → j < 4 → μ.2 (k + 16) j = lz ((y_q V j % 1000000000 : Nat) : Int)) → ∃ μ', L_X8_addShifted_10 k x1 (lz (f : Int)) x5 (fun μ => some ((), μ)) n (lz (r : Int)) (lz (c : Int)) (iz (i : Int)) μ = some ((), μ') ∧ y_Wd μ' k W ∧ y_Fw k μ μ' := by
  intro d
  induction d with
  | zero =>
    intro n i r c μ hi hn hr hc hq h1 h2
    obtain ⟨n, rfl⟩ : ∃ z, n = z + 1 := ⟨n - 1, by omega⟩
    rw [L_X8_addShifted_10, z_if (z_i4 (by omega)), if_pos (by omega)]
    exact ⟨μ, rfl, ⟨fun j hj => h1 j (by omega), hW⟩, y_Fw.rf⟩
  | succ d ih =>
    intro n i r c μ hi hn hr hc hq h1 h2
    obtain ⟨n, rfl⟩ : ∃ z, n = z + 1 := ⟨n - 1, by omega⟩
    have cl : (iz (i : Int)).toNatClampNeg = i := by rw [z_cl (by omega) (by omega)]; omega
    have m1 : r % 1000000000 * f ≤ 999999999 * 999999999 := Nat.mul_le_mul (by omega) (by omega)
    have m2 : r * f = r / 1000000000 * f * 1000000000 + r % 1000000000 * f := by
      conv => lhs; rw [show r = r / 1000000000 * 1000000000 + r % 1000000000 by omega, Nat.add_mul, Nat.mul_right_comm]
    have e1 : q_rl (lz (r : Int)) (lz 1000000000) = lz ((r % 1000000000 : Nat) : Int) := z_rl (by omega) (by omega) (by omega) (by omega)
    have e2 : lz (r : Int) / lz 1000000000 = lz ((r / 1000000000 : Nat) : Int) := z_divL (by omega) (by omega) (by omega) (by omega)
    rw [L_X8_addShifted_10, z_if (z_i4 (by omega)), if_neg (by omega), z_gd (z_ix (by omega) (by omega) (by omega)), cl, h2 i (by omega) (by omega), z_N, e1, e2]
    simp only [z_le, z_a1]
    rw [z_mulL, z_addL, z_addL, ← Int.natCast_mul, ← Int.natCast_add, ← Int.natCast_add]
    have vq : y_q V (i + 1) = y_q V i / 1000000000 := rfl
    have wq : y_q W (i + 1) = y_q W i / 1000000000 := rfl
    generalize r % 1000000000 * f = x at *
    generalize hy : r / 1000000000 * f = y at *
    generalize hs : y_q V i % 1000000000 + x + c = s at *
    have e3 : q_rl (lz (s : Int)) (lz 1000000000) = lz ((s % 1000000000 : Nat) : Int) := z_rl (by omega) (by omega) (by omega) (by omega)
    have e4 : lz (s : Int) / lz 1000000000 = lz ((s / 1000000000 : Nat) : Int) := z_divL (by omega) (by omega) (by omega) (by omega)
    rw [e3, e4]
    have F1 : y_Fw k μ (q_sl μ (k + 16) i (lz ((s % 1000000000 : Nat) : Int))) := y_Fw.rf.sl
    obtain ⟨μ', ff, a, F⟩ := ih n (i + 1) (r / 1000000000) (s / 1000000000) (q_sl μ (k + 16) i (lz ((s % 1000000000 : Nat) : Int))) (by omega) (by omega) (by omega) (by omega) (by rw [hy]; omega) (fun j hj => by
      rw [z_sl2]
      by_cases e : j = i
      · rw [if_pos ⟨rfl, e⟩, e]; exact z_lzc (by omega)
      · rw [if_neg (fun q => e q.2)]; exact h1 j (by omega)) (fun j hj hj2 => by
      rw [z_sl2, if_neg (by omega)]; exact h2 j (by omega) hj2)
    exact ⟨μ', ff, a, F1.tr F⟩
theorem K_addShifted {k V f b sh : Nat} (hsh : sh ≤ 2) (hf : f < 1000000000) (hb : b ≤ 9000000000000000000) {μ : q_M} (h : y_Wd μ k V) {W : Nat} (hW : W < 1000000000000000000000000000000000000) (hq : y_q W sh = y_q V sh + b * f) (hlow : ∀ j, j < sh → y_q W j % 1000000000 = y_q V j % 1000000000) : ∃ μ', f_X8_addShifted k (lz (b : Int)) (lz (f : Int)) (iz (sh : Int)) μ = some ((), μ') ∧ y_Wd μ' k W ∧ y_Fw k μ μ' := by
  unfold f_X8_addShifted
  exact K_shl hf hW (lz (b : Int)) (iz (sh : Int)) h.2 (4 - sh) q_fu sh b 0 μ (by omega) (by rw [z_fu]; omega) hb (by omega) (by omega) (fun j hj => by rw [h.1 j (by omega)]; exact z_lzc (hlow j hj).symm) (fun j h1 h2 => h.1 j h2)
theorem K_addProduct {k V a b : Nat} (ha : a ≤ 9000000000000000000) (hb : b ≤ 9000000000000000000) {μ : q_M} (h : y_Wd μ k V) (hW : V + a * b < 1000000000000000000000000000000000000) : ∃ μ', f_X8_addProduct k (lz (a : Int)) (lz (b : Int)) μ = some ((), μ') ∧ y_Wd μ' k (V + a * b) ∧ y_Fw k μ μ' := by
  have E : a * b = b * (a % 1000000000) + b * (a / 1000000000 % 1000000000) * 1000000000 + b * (a / 1000000000 / 1000000000) * 1000000000000000000 := by
    conv => lhs; rw [Nat.mul_comm, show a = a % 1000000000 + a / 1000000000 % 1000000000 * 1000000000 + a / 1000000000 / 1000000000 * 1000000000000000000 by omega, Nat.mul_add, Nat.mul_add, ← Nat.mul_assoc, ← Nat.mul_assoc]
  rw [E] at hW ⊢
  have r1 : q_rl (lz (a : Int)) (lz 1000000000) = lz ((a % 1000000000 : Nat) : Int) := z_rl (by omega) (by omega) (by omega) (by omega)
  have q1 : lz (a : Int) / lz 1000000000 = lz ((a / 1000000000 : Nat) : Int) := z_divL (by omega) (by omega) (by omega) (by omega)
  have r2 : q_rl (lz ((a / 1000000000 : Nat) : Int)) (lz 1000000000) = lz ((a / 1000000000 % 1000000000 : Nat) : Int) := z_rl (by omega) (by omega) (by omega) (by omega)
  have q2 : lz ((a / 1000000000 : Nat) : Int) / lz 1000000000 = lz ((a / 1000000000 / 1000000000 : Nat) : Int) := z_divL (by omega) (by omega) (by omega) (by omega)
  have r3 : q_rl (lz ((a / 1000000000 / 1000000000 : Nat) : Int)) (lz 1000000000) = lz ((a / 1000000000 / 1000000000 : Nat) : Int) := by
    rw [z_rl (by omega) (by omega) (by omega) (by omega)]; congr 1; omega
  obtain ⟨μ1, f1, w1, F1⟩ := K_addShifted (sh := 0) (f := a % 1000000000) (b := b) (by omega) (by omega) hb h (W := V + b * (a % 1000000000)) (by omega) rfl (fun j hj => by omega)
  generalize b * (a % 1000000000) = x at *
  obtain ⟨μ2, f2, w2, F2⟩ := K_addShifted (sh := 1) (f := a / 1000000000 % 1000000000) (b := b) (by omega) (by omega) hb w1 (W := V + x + b * (a / 1000000000 % 1000000000) * 1000000000) (by omega) (by simp only [y_q]; omega) (fun j hj => by
    have : j = 0 := by omega
    subst this; simp only [y_q]; omega)
  generalize b * (a / 1000000000 % 1000000000) = y at *
  obtain ⟨μ3, f3, w3, F3⟩ := K_addShifted (sh := 2) (f := a / 1000000000 / 1000000000) (b := b) (by omega) (by omega) hb w2 (W := V + x + y * 1000000000 + b * (a / 1000000000 / 1000000000) * 1000000000000000000) (by omega) (by simp only [y_q]; omega) (fun j hj => by
    have : j = 0 ∨ j = 1 := by omega
    rcases this with rfl | rfl <;> simp only [y_q] <;> omega)
  unfold f_X8_addProduct
  obtain ⟨z, hz⟩ : ∃ z, q_fu = z + 1 + 1 + 1 + 1 := ⟨q_fu - 4, by have := z_fu; omega⟩
  rw [hz, L_X8_addProduct_6, if_neg (by decide), z_N, r1, show f_X8_addShifted k (lz (b : Int)) (lz ((a % 1000000000 : Nat) : Int)) 0 μ = _ from f1, z_bd, z_le, z_le, q1, show (0 : Int32) + 1 = 1 from rfl]
  rw [L_X8_addProduct_6, if_neg (by decide), z_N, r2, show f_X8_addShifted k (lz (b : Int)) (lz ((a / 1000000000 % 1000000000 : Nat) : Int)) 1 μ1 = _ from f2, z_bd, z_le, z_le, q2, show (1 : Int32) + 1 = 2 from rfl]
  rw [L_X8_addProduct_6, if_neg (by decide), z_N, r3, show f_X8_addShifted k (lz (b : Int)) (lz ((a / 1000000000 / 1000000000 : Nat) : Int)) 2 μ2 = _ from f3, z_bd, z_le, z_le, show (2 : Int32) + 1 = 3 from rfl]
  rw [L_X8_addProduct_6, if_pos (by decide)]
  refine ⟨μ3, rfl, ?_, (F1.tr F2).tr F3⟩
  rw [← Nat.add_assoc, ← Nat.add_assoc]
  exact w3
theorem K_subl {k m V W : Nat} (hkm : k ≠ m) (hW : W ≤ V) (Kx : q_M → Option (Unit × q_M)) : ∀ (d n i c : Nat) (μ : q_M), i + d = 4 → d < n → c ≤ 1 → ((y_q (V - W) i : Nat) : Int) = (y_q V i : Nat) - (y_q W i : Nat) - c → V < 1000000000000000000000000000000000000 → (∀ j, j < i → μ.2 (k + 16) j = lz ((y_q (V - W) j % 1000000000 : Nat) : Int)) → (∀ j, i ≤ j → j < 4 → μ.2 (k + 16) j = lz ((y_q V j % 1000000000 : Nat) : Int)) → y_Wd μ m W → ∃ μ', L_X8_subtract_5 k m Kx n (lz (c : Int)) (iz (i : Int)) μ = Kx μ' ∧ y_Wd μ' k (V - W) ∧ y_Fw k μ μ' := by
  intro d
  induction d with
  | zero =>
    intro n i c μ hi hn hc hq hV h1 h2 hm
    obtain ⟨n, rfl⟩ : ∃ z, n = z + 1 := ⟨n - 1, by omega⟩
    rw [L_X8_subtract_5, z_if (z_i4 (by omega)), if_pos (by omega)]
    exact ⟨μ, rfl, ⟨fun j hj => h1 j (by omega), by omega⟩, y_Fw.rf⟩
  | succ d ih =>
    intro n i c μ hi hn hc hq hV h1 h2 hm
    obtain ⟨n, rfl⟩ : ∃ z, n = z + 1 := ⟨n - 1, by omega⟩
    have cl : (iz (i : Int)).toNatClampNeg = i := by rw [z_cl (by omega) (by omega)]; omega
    have vq : y_q V (i + 1) = y_q V i / 1000000000 := rfl
    have wq : y_q W (i + 1) = y_q W i / 1000000000 := rfl
    have dq : y_q (V - W) (i + 1) = y_q (V - W) i / 1000000000 := rfl
    rw [L_X8_subtract_5, z_if (z_i4 (by omega)), if_neg (by omega), z_gd (z_ix (by omega) (by omega) (by omega)), cl, h2 i (by omega) (by omega), hm.1 i (by omega), z_le, z_subL, z_subL]
    have key : ∀ (e : Nat) (s0 : Int64), s0 = lz (e : Int) → e ≤ 1 → ((y_q (V - W) i % 1000000000 : Nat) : Int) = ((y_q V i % 1000000000 : Nat) : Int) - ((y_q W i % 1000000000 : Nat) : Int) - (c : Int) + (e : Int) * 1000000000 → ∃ μ', J_X8_subtract_42 k m (L_X8_subtract_5 k m Kx n) Kx (iz (i : Int)) (lz (((y_q V i % 1000000000 : Nat) : Int) - ((y_q W i % 1000000000 : Nat) : Int) - (c : Int))) s0 μ = Kx μ' ∧ y_Wd μ' k (V - W) ∧ y_Fw k μ μ' := by
      intro e s0 hs he hv
      unfold J_X8_subtract_42
      rw [hs, z_gd (z_ix (by omega) (by omega) (by omega)), cl, z_le, z_le, z_a1, z_N, z_mulL, z_addL, ← hv]
      have F1 : y_Fw k μ (q_sl μ (k + 16) i (lz ((y_q (V - W) i % 1000000000 : Nat) : Int))) := y_Fw.rf.sl
      obtain ⟨μ', ff, a, F⟩ := ih n (i + 1) e _ (by omega) (by omega) he (by omega) hV (fun j hj => by
        rw [z_sl2]
        by_cases e : j = i
        · rw [if_pos ⟨rfl, e⟩, e]
        · rw [if_neg (fun q => e q.2)]; exact h1 j (by omega)) (fun j hj hj2 => by
        rw [z_sl2, if_neg (by omega)]; exact h2 j (by omega) hj2) (F1.Wd (Ne.symm hkm) hm)
      exact ⟨μ', ff, a, F1.tr F⟩
    have c0 : (0 ≤ lg_cmp (lz (((y_q V i % 1000000000 : Nat) : Int) - ((y_q W i % 1000000000 : Nat) : Int) - (c : Int))) 0) = (0 ≤ ((y_q V i % 1000000000 : Nat) : Int) - ((y_q W i % 1000000000 : Nat) : Int) - (c : Int)) := (z_c3 _ _).trans (z_le64 (a := 0) (by omega) (by omega) (by omega) (by omega))
    rw [z_if c0]
    by_cases q : 0 ≤ ((y_q V i % 1000000000 : Nat) : Int) - ((y_q W i % 1000000000 : Nat) : Int) - (c : Int)
    · rw [if_pos q]; exact key 0 0 rfl (by omega) (by omega)
    · rw [if_neg q]; exact key 1 1 rfl (by omega) (by omega)
theorem K_subtract {k m V W : Nat} (hkm : k ≠ m) (hW : W ≤ V) {μ : q_M} (h : y_Wd μ k V) (hm : y_Wd μ m W) : ∃ μ', f_X8_subtract k m μ = some ((), μ') ∧ y_Wd μ' k (V - W) ∧ y_Fw k μ μ' := by
  unfold f_X8_subtract
  exact K_subl hkm hW (fun μ => some ((), μ)) 4 q_fu 0 0 μ (by omega) (by rw [z_fu]; omega) (by omega) (by simp only [y_q]; omega) h.2 (fun j hj => by omega) (fun j h1 h2 => h.1 j h2) hm
theorem K_mull {k V f : Nat} (hf : f < 1000000000) (hW : V * f < 1000000000000000000000000000000000000) (Kx : q_M → Option (Unit × q_M)) : ∀ (d n i c : Nat) (μ : q_M), i + d = 4 → d < n → c ≤ 999999999 → y_q (V * f) i = y_q V i * f + c → (∀ j, j < i → μ.2 (k + 16) j = lz ((y_q (V * f) j % 1000000000 : Nat) : Int)) → (∀ j, i ≤ j → j < 4 → μ.2 (k + 16) j = lz ((y_q V j % 1000000000 : Nat) : Int)) → ∃ μ', L_X8_multiply_5 k (lz (f : Int)) Kx n (lz (c : Int)) (iz (i : Int)) μ = Kx μ' ∧ y_Wd μ' k (V * f) ∧ y_Fw k μ μ' := by
  intro d
  induction d with
  | zero =>
    intro n i c μ hi hn hc hq h1 h2
    obtain ⟨n, rfl⟩ : ∃ z, n = z + 1 := ⟨n - 1, by omega⟩
    rw [L_X8_multiply_5, z_if (z_i4 (by omega)), if_pos (by omega)]
    exact ⟨μ, rfl, ⟨fun j hj => h1 j (by omega), hW⟩, y_Fw.rf⟩
  | succ d ih =>
    intro n i c μ hi hn hc hq h1 h2
    obtain ⟨n, rfl⟩ : ∃ z, n = z + 1 := ⟨n - 1, by omega⟩
    have cl : (iz (i : Int)).toNatClampNeg = i := by rw [z_cl (by omega) (by omega)]; omega
    have m1 : y_q V i % 1000000000 * f ≤ 999999999 * 999999999 := Nat.mul_le_mul (by omega) (by omega)
    have m2 : y_q V i * f = y_q V i / 1000000000 * f * 1000000000 + y_q V i % 1000000000 * f := by
      conv => lhs; rw [show y_q V i = y_q V i / 1000000000 * 1000000000 + y_q V i % 1000000000 by omega, Nat.add_mul, Nat.mul_right_comm]
    have wq : y_q (V * f) (i + 1) = y_q (V * f) i / 1000000000 := rfl
    have vq : y_q V (i + 1) = y_q V i / 1000000000 := rfl
    rw [L_X8_multiply_5, z_if (z_i4 (by omega)), if_neg (by omega), z_gd (z_ix (by omega) (by omega) (by omega)), cl, h2 i (by omega) (by omega), z_N, z_mulL, z_addL, ← Int.natCast_mul, ← Int.natCast_add]
    simp only [z_le, z_a1]
    generalize y_q V i % 1000000000 * f = x at *
    generalize hy : y_q V i / 1000000000 * f = y at *
    generalize hs : x + c = s at *
    have e3 : q_rl (lz (s : Int)) (lz 1000000000) = lz ((s % 1000000000 : Nat) : Int) := z_rl (by omega) (by omega) (by omega) (by omega)
    have e4 : lz (s : Int) / lz 1000000000 = lz ((s / 1000000000 : Nat) : Int) := z_divL (by omega) (by omega) (by omega) (by omega)
    rw [e3, e4]
    have F1 : y_Fw k μ (q_sl μ (k + 16) i (lz ((s % 1000000000 : Nat) : Int))) := y_Fw.rf.sl
    obtain ⟨μ', ff, a, F⟩ := ih n (i + 1) (s / 1000000000) (q_sl μ (k + 16) i (lz ((s % 1000000000 : Nat) : Int))) (by omega) (by omega) (by omega) (by rw [vq, hy]; omega) (fun j hj => by
      rw [z_sl2]
      by_cases e : j = i
      · rw [if_pos ⟨rfl, e⟩, e]; exact z_lzc (by omega)
      · rw [if_neg (fun q => e q.2)]; exact h1 j (by omega)) (fun j hj hj2 => by
      rw [z_sl2, if_neg (by omega)]; exact h2 j (by omega) hj2)
    exact ⟨μ', ff, a, F1.tr F⟩
theorem K_multiply {k V f : Nat} (hf : f < 1000000000) (hW : V * f < 1000000000000000000000000000000000000) {μ : q_M} (h : y_Wd μ k V) : ∃ μ', f_X8_multiply k (lz (f : Int)) μ = some ((), μ') ∧ y_Wd μ' k (V * f) ∧ y_Fw k μ μ' := by
  unfold f_X8_multiply
  exact K_mull hf hW (fun μ => some ((), μ)) 4 q_fu 0 0 μ (by omega) (by rw [z_fu]; omega) (by omega) rfl (fun j hj => by omega) (fun j h1 h2 => h.1 j h2)
theorem y_q_div (V d : Nat) : ∀ i, y_q (V / d) i = y_q V i / d := by
  intro i
  induction i with
  | zero => rfl
  | succ i ih => simp only [y_q]; rw [ih, Nat.div_div_eq_div_mul, Nat.div_div_eq_div_mul, Nat.mul_comm]
theorem y_dstep {X d : Nat} (hd : 0 < d) : X / d % 1000000000 = (X / 1000000000 % d * 1000000000 + X % 1000000000) / d ∧ X % d = (X / 1000000000 % d * 1000000000 + X % 1000000000) % d := by
  have a := Nat.mod_lt (X / 1000000000) hd
  have b := Nat.div_add_mod (X / 1000000000) d
  have c := Nat.div_add_mod X 1000000000
  have e : X = X / 1000000000 % d * 1000000000 + X % 1000000000 + d * (X / 1000000000 / d * 1000000000) := by
    rw [← Nat.mul_assoc]
    generalize d * (X / 1000000000 / d) = y at *
    omega
  have lt : (X / 1000000000 % d * 1000000000 + X % 1000000000) / d < 1000000000 := by
    apply Nat.div_lt_of_lt_mul
    have : (X / 1000000000 % d + 1) * 1000000000 ≤ d * 1000000000 := Nat.mul_le_mul_right _ a
    omega
  constructor
  · conv => lhs; rw [e, Nat.add_mul_div_left _ _ hd, Nat.add_mul_mod_self_right]
    exact Nat.mod_eq_of_lt lt
  · conv => lhs; rw [e, Nat.add_mul_mod_self_left]
theorem K_dvl {k V dv : Nat} (h0 : 1 ≤ dv) (h1 : dv < 1000000000) (hV : V < 1000000000000000000000000000000000000) (Kx : q_M → Option (Unit × q_M)) : ∀ (i n : Nat) (μ : q_M), i ≤ 4 → i < n → (∀ j, j < i → μ.2 (k + 16) j = lz ((y_q V j % 1000000000 : Nat) : Int)) → (∀ j, i ≤ j → j < 4 → μ.2 (k + 16) j = lz ((y_q (V / dv) j % 1000000000 : Nat) : Int)) → ∃ μ', L_X8_divide_12 k (lz (dv : Int)) Kx n (lz ((y_q V i % dv : Nat) : Int)) (iz ((i : Int) - 1)) μ = Kx μ' ∧ y_Wd μ' k (V / dv) ∧ y_Fw k μ μ' := by
  intro i
  induction i with
  | zero =>
    intro n μ hi hn g1 g2
    obtain ⟨n, rfl⟩ : ∃ z, n = z + 1 := ⟨n - 1, by omega⟩
    rw [L_X8_divide_12, z_if (z_lt0 (by omega) (by omega)), if_pos (by omega)]
    exact ⟨μ, rfl, ⟨fun j hj => g2 j (by omega) hj, Nat.lt_of_le_of_lt (Nat.div_le_self V dv) hV⟩, y_Fw.rf⟩
  | succ i ih =>
    intro n μ hi hn g1 g2
    obtain ⟨n, rfl⟩ : ∃ z, n = z + 1 := ⟨n - 1, by omega⟩
    have cl : (iz (((i + 1 : Nat) : Int) - 1)).toNatClampNeg = i := by rw [z_cl (by omega) (by omega)]; omega
    have ml := Nat.mod_lt (y_q V (i + 1)) (show 0 < dv by omega)
    have vq : y_q V (i + 1) = y_q V i / 1000000000 := rfl
    have ds := y_dstep (X := y_q V i) (d := dv) (by omega)
    rw [← vq] at ds
    rw [L_X8_divide_12, z_if (z_lt0 (by omega) (by omega)), if_neg (by omega), z_gd (z_ix (by omega) (by omega) (by omega)), cl, g1 i (by omega), z_N, z_mulL, z_addL, z_le, z_gd (decide_eq_true (z_n0 (by omega) (by omega))), z_le, z_le, z_le, z_am, show ((i + 1 : Nat) : Int) - 1 - 1 = (i : Int) - 1 by omega]
    have ee : ((y_q V (i + 1) % dv : Nat) : Int) * 1000000000 + ((y_q V i % 1000000000 : Nat) : Int) = ((y_q V (i + 1) % dv * 1000000000 + y_q V i % 1000000000 : Nat) : Int) := by rw [Int.natCast_add, Int.natCast_mul]; rfl
    rw [ee, z_divL (by omega) (by omega) (by omega) (by omega), z_rl (by omega) (by omega) (by omega) (by omega), ← Int.natCast_ediv, ← Int.natCast_emod, ← ds.1, ← ds.2]
    have F1 : y_Fw k μ (q_sl μ (k + 16) i (lz ((y_q V i / dv % 1000000000 : Nat) : Int))) := y_Fw.rf.sl
    obtain ⟨μ', ff, a, F⟩ := ih n (q_sl μ (k + 16) i (lz ((y_q V i / dv % 1000000000 : Nat) : Int))) (by omega) (by omega) (fun j hj => by
      rw [z_sl2, if_neg (by omega)]; exact g1 j (by omega)) (fun j hj hj2 => by
      rw [z_sl2]
      by_cases e : j = i
      · rw [if_pos ⟨rfl, e⟩, e, y_q_div]
      · rw [if_neg (fun q => e q.2)]; exact g2 j (by omega) hj2)
    exact ⟨μ', ff, a, F1.tr F⟩
theorem z_g1 {a : Nat} (h1 : 1 ≤ a) (h2 : a < 9223372036854775808) : 0 ≤ lg_cmp (lz (a : Int)) 1 := by
  rw [z_c3]
  show lz 1 ≤ lz (a : Int)
  rw [z_le64 (by omega) (by omega) (by omega) (by omega)]
  omega
theorem K_divideW {k V dv : Nat} (h0 : 1 ≤ dv) (h1 : dv < 1000000000) {μ : q_M} (h : y_Wd μ k V) : ∃ μ', f_X8_divide k (lz (dv : Int)) μ = some ((), μ') ∧ y_Wd μ' k (V / dv) ∧ y_Fw k μ μ' := by
  unfold f_X8_divide
  rw [if_pos (z_g1 h0 (by omega))]
  have := K_dvl h0 h1 h.2 (fun μ => some ((), μ)) 4 q_fu μ (by omega) (by rw [z_fu]; omega) (fun j hj => h.1 j hj) (fun j h1 h2 => by omega)
  rw [y_q4 h.2, Nat.zero_mod] at this
  exact this
theorem K_reml {k V dv : Nat} (h0 : 1 ≤ dv) (h1 : dv < 1000000000) {μ : q_M} (h : y_Wd μ k V) : ∀ (i n : Nat), i ≤ 4 → i < n → L_X8_remainder_13 k (lz (dv : Int)) (fun v3 μ => some (v3, μ)) n (lz ((y_q V i % dv : Nat) : Int)) (iz ((i : Int) - 1)) μ = some (lz ((V % dv : Nat) : Int), μ) := by
  intro i
  induction i with
  | zero =>
    intro n hi hn
    obtain ⟨n, rfl⟩ : ∃ z, n = z + 1 := ⟨n - 1, by omega⟩
    rw [L_X8_remainder_13, z_if (z_lt0 (by omega) (by omega)), if_pos (by omega)]
    rfl
  | succ i ih =>
    intro n hi hn
    obtain ⟨n, rfl⟩ : ∃ z, n = z + 1 := ⟨n - 1, by omega⟩
    have cl : (iz (((i + 1 : Nat) : Int) - 1)).toNatClampNeg = i := by rw [z_cl (by omega) (by omega)]; omega
    have ml := Nat.mod_lt (y_q V (i + 1)) (show 0 < dv by omega)
    have vq : y_q V (i + 1) = y_q V i / 1000000000 := rfl
    have ds := y_dstep (X := y_q V i) (d := dv) (by omega)
    rw [← vq] at ds
    rw [L_X8_remainder_13, z_if (z_lt0 (by omega) (by omega)), if_neg (by omega), z_gd (z_ix (by omega) (by omega) (by omega)), cl, h.1 i (by omega), z_N, z_mulL, z_addL, z_gd (decide_eq_true (z_n0 (by omega) (by omega))), z_le, z_le, z_am, show ((i + 1 : Nat) : Int) - 1 - 1 = (i : Int) - 1 by omega]
    have ee : ((y_q V (i + 1) % dv : Nat) : Int) * 1000000000 + ((y_q V i % 1000000000 : Nat) : Int) = ((y_q V (i + 1) % dv * 1000000000 + y_q V i % 1000000000 : Nat) : Int) := by rw [Int.natCast_add, Int.natCast_mul]; rfl
    rw [ee, z_rl (by omega) (by omega) (by omega) (by omega), ← Int.natCast_emod, ← ds.2]
    exact ih n (by omega) (by omega)
theorem K_remainder {k V dv : Nat} (h0 : 1 ≤ dv) (h1 : dv < 1000000000) {μ : q_M} (h : y_Wd μ k V) : f_X8_remainder k (lz (dv : Int)) μ = some (lz ((V % dv : Nat) : Int), μ) := by
  unfold f_X8_remainder
  rw [if_pos (z_g1 h0 (by omega))]
  have := K_reml h0 h1 h 4 q_fu (by omega) (by rw [z_fu]; omega)
  rw [y_q4 h.2, Nat.zero_mod] at this
  exact this
theorem K_lowest {k V : Nat} {μ : q_M} (h : y_Wd μ k V) : f_X8_lowestEighteenDigits k μ = some (lz ((V : Int) % 1000000000000000000), μ) := by
  unfold f_X8_lowestEighteenDigits
  rw [z_gd (by decide), z_gd (by decide), show (1 : Int32).toNatClampNeg = 1 from rfl, show (0 : Int32).toNatClampNeg = 0 from rfl, h.1 1 (by decide), h.1 0 (by decide), z_N, z_mulL, z_addL]
  simp only [y_q]
  congr 3
  omega
