abbrev iz (z : Int) : Int32 := Int32.ofInt z
abbrev lz (z : Int) : Int64 := Int64.ofInt z
theorem z_bd {α β : Type} (a : α) (μ : q_M) (k : α → q_M → Option β) : q_bd (some (a, μ)) k = k a μ := rfl
theorem z_gd {α : Type} {b : Bool} {x : Option α} (h : b = true) : q_gd b x = x := by
  unfold q_gd
  rw [if_pos h]
theorem z_gt {α : Type} {x : Option α} : q_gd true x = x := rfl
theorem z_le {α β : Type} (v : α) (k : α → β) : q_le v k = k v := rfl
theorem z_fu : q_fu = 100000000 := rfl
theorem z_toI {a : Int} (h1 : -2147483648 ≤ a) (h2 : a < 2147483648) : (iz a).toInt = a := Int32.toInt_ofInt_of_le (by omega) (by omega)
theorem z_toL {a : Int} (h1 : -9223372036854775808 ≤ a) (h2 : a < 9223372036854775808) : (lz a).toInt = a := Int64.toInt_ofInt_of_le (by omega) (by omega)
theorem z_iz (x : Int32) : iz x.toInt = x := Int32.ofInt_toInt x
theorem z_lz (x : Int64) : lz x.toInt = x := Int64.ofInt_toInt x
theorem z_i1 (x : Int32) : -2147483648 ≤ x.toInt := by have := x.le_toInt; omega
theorem z_i2 (x : Int32) : x.toInt < 2147483648 := by have := x.toInt_lt; omega
theorem z_l1 (x : Int64) : -9223372036854775808 ≤ x.toInt := by have := x.le_toInt; omega
theorem z_l2 (x : Int64) : x.toInt < 9223372036854775808 := by have := x.toInt_lt; omega
theorem z_le32 {a b : Int} (h1 : -2147483648 ≤ a) (h2 : a < 2147483648) (h3 : -2147483648 ≤ b) (h4 : b < 2147483648) : (iz a ≤ iz b) = (a ≤ b) := by
  rw [Int32.le_iff_toInt_le, z_toI h1 h2, z_toI h3 h4]
theorem z_lt32 {a b : Int} (h1 : -2147483648 ≤ a) (h2 : a < 2147483648) (h3 : -2147483648 ≤ b) (h4 : b < 2147483648) : (iz a < iz b) = (a < b) := by
  rw [Int32.lt_iff_toInt_lt, z_toI h1 h2, z_toI h3 h4]
theorem z_eq32 {a b : Int} (h1 : -2147483648 ≤ a) (h2 : a < 2147483648) (h3 : -2147483648 ≤ b) (h4 : b < 2147483648) : (iz a = iz b) = (a = b) := by
  rw [← Int32.toInt_inj, z_toI h1 h2, z_toI h3 h4]
theorem z_le64 {a b : Int} (h1 : -9223372036854775808 ≤ a) (h2 : a < 9223372036854775808) (h3 : -9223372036854775808 ≤ b) (h4 : b < 9223372036854775808) : (lz a ≤ lz b) = (a ≤ b) := by
  rw [Int64.le_iff_toInt_le, z_toL h1 h2, z_toL h3 h4]
theorem z_lt64 {a b : Int} (h1 : -9223372036854775808 ≤ a) (h2 : a < 9223372036854775808) (h3 : -9223372036854775808 ≤ b) (h4 : b < 9223372036854775808) : (lz a < lz b) = (a < b) := by
  rw [Int64.lt_iff_toInt_lt, z_toL h1 h2, z_toL h3 h4]
theorem z_eq64 {a b : Int} (h1 : -9223372036854775808 ≤ a) (h2 : a < 9223372036854775808) (h3 : -9223372036854775808 ≤ b) (h4 : b < 9223372036854775808) : (lz a = lz b) = (a = b) := by
  rw [← Int64.toInt_inj, z_toL h1 h2, z_toL h3 h4]
theorem z_add (a b : Int) : iz a + iz b = iz (a + b) := (Int32.ofInt_add a b).symm
theorem z_sub (a b : Int) : iz a - iz b = iz (a - b) := (Int32.ofInt_sub a b).symm
theorem z_mul (a b : Int) : iz a * iz b = iz (a * b) := (Int32.ofInt_mul a b).symm
theorem z_neg (a : Int) : -iz a = iz (-a) := (Int32.ofInt_neg a).symm
theorem z_addL (a b : Int) : lz a + lz b = lz (a + b) := (Int64.ofInt_add a b).symm
theorem z_subL (a b : Int) : lz a - lz b = lz (a - b) := (Int64.ofInt_sub a b).symm
theorem z_mulL (a b : Int) : lz a * lz b = lz (a * b) := (Int64.ofInt_mul a b).symm
theorem z_negL (a : Int) : -lz a = lz (-a) := (Int64.ofInt_neg a).symm
theorem z_cl {a : Int} (h1 : -2147483648 ≤ a) (h2 : a < 2147483648) : (iz a).toNatClampNeg = a.toNat := by
  rw [← Int32.toNat_toInt, z_toI h1 h2]
theorem z_64 {a : Int} (h1 : -2147483648 ≤ a) (h2 : a < 2147483648) : (iz a).toInt64 = lz a := by
  rw [← Int64.toInt_inj, Int32.toInt_toInt64, z_toI h1 h2, z_toL (by omega) (by omega)]
theorem z_32 (a : Int) : (lz a).toInt32 = iz a := Int64.toInt32_ofInt
theorem z_x64 (x : Int32) : x.toInt64 = lz x.toInt := by
  rw [← Int64.toInt_inj, Int32.toInt_toInt64, z_toL (by have := z_i1 x; omega) (by have := z_i2 x; omega)]
theorem z_ix {a : Int} {n : Nat} (h0 : 0 ≤ a) (h1 : a < n) (h2 : a < 2147483648) : q_ix (iz a) n = true := by
  unfold q_ix
  apply decide_eq_true
  rw [z_cl (by omega) h2]
  intro h
  rcases h with h | h
  · have : (iz a).toInt < (0 : Int32).toInt := Int32.lt_iff_toInt_lt.mp h
    rw [z_toI (by omega) h2] at this
    have h9 : (0 : Int32).toInt = 0 := rfl
    omega
  · omega
theorem z_div {a b : Int} (h1 : 0 ≤ a) (h2 : a < 2147483648) (h3 : 0 < b) (h4 : b < 2147483648) : iz a / iz b = iz (a / b) := by
  rw [← Int32.toInt_inj, Int32.toInt_div_of_ne_right _ _ (by rw [Ne, ← Int32.toInt_inj, z_toI (by omega) h4]; have : (-1 : Int32).toInt = -1 := rfl; omega), z_toI (by omega) h2, z_toI (by omega) h4, Int.tdiv_eq_ediv_of_nonneg h1, z_toI]
  · have := Int.ediv_nonneg h1 (Int.le_of_lt h3); omega
  · have := Int.ediv_le_self b h1; omega
theorem z_ri {a b : Int} (h1 : 0 ≤ a) (h2 : a < 2147483648) (h3 : 0 < b) (h4 : b < 2147483648) : q_ri (iz a) (iz b) = iz (a % b) := by
  unfold q_ri
  rw [z_div h1 h2 h3 h4, z_mul, z_sub]
  congr 1
  have := Int.emod_add_mul_ediv a b
  rw [Int.mul_comm] at this
  omega
theorem z_divL {a b : Int} (h1 : 0 ≤ a) (h2 : a < 9223372036854775808) (h3 : 0 < b) (h4 : b < 9223372036854775808) : lz a / lz b = lz (a / b) := by
  rw [← Int64.toInt_inj, Int64.toInt_div_of_ne_right _ _ (by rw [Ne, ← Int64.toInt_inj, z_toL (by omega) h4]; have : (-1 : Int64).toInt = -1 := rfl; omega), z_toL (by omega) h2, z_toL (by omega) h4, Int.tdiv_eq_ediv_of_nonneg h1, z_toL]
  · have := Int.ediv_nonneg h1 (Int.le_of_lt h3); omega
  · have := Int.ediv_le_self b h1; omega
theorem z_rl {a b : Int} (h1 : 0 ≤ a) (h2 : a < 9223372036854775808) (h3 : 0 < b) (h4 : b < 9223372036854775808) : q_rl (lz a) (lz b) = lz (a % b) := by
  unfold q_rl
  rw [z_divL h1 h2 h3 h4, z_mulL, z_subL]
  congr 1
  have := Int.emod_add_mul_ediv a b
  rw [Int.mul_comm] at this
  omega
theorem z_c0 (x y : Int64) : (lg_cmp x y < 0) = (x < y) := by
  unfold lg_cmp
  by_cases h1 : y < x
  · have h2 : ¬ x < y := fun h => by rw [Int64.lt_iff_toInt_lt] at h h1; omega
    simp [h1, h2]
  · by_cases h2 : x = y
    · subst h2; simp
    · have h3 : x < y := by
        rw [Int64.lt_iff_toInt_lt] at h1 ⊢
        have : x.toInt ≠ y.toInt := fun h => h2 (Int64.toInt_inj.mp h)
        omega
      simp [h1, h2, h3]
theorem z_c1 (x y : Int64) : (0 < lg_cmp x y) = (y < x) := by
  unfold lg_cmp
  by_cases h1 : y < x
  · simp [h1]
  · by_cases h2 : x = y
    · subst h2; simp [h1]
    · simp [h1, h2]
theorem z_c2 (x y : Int64) : (lg_cmp x y = 0) = (x = y) := by
  unfold lg_cmp
  by_cases h1 : y < x
  · have h2 : ¬ x = y := fun h => by subst h; rw [Int64.lt_iff_toInt_lt] at h1; omega
    simp [h1, h2]
  · by_cases h2 : x = y
    · subst h2; simp [h1]
    · simp [h1, h2]
theorem z_c3 (x y : Int64) : (0 ≤ lg_cmp x y) = (y ≤ x) := by
  have h := z_c0 x y
  rw [eq_iff_iff] at h ⊢
  rw [Int32.le_iff_toInt_le, Int64.le_iff_toInt_le]
  rw [Int32.lt_iff_toInt_lt, Int64.lt_iff_toInt_lt] at h
  omega
theorem z_c4 (x y : Int64) : (lg_cmp x y ≤ 0) = (x ≤ y) := by
  have h := z_c1 x y
  rw [eq_iff_iff] at h ⊢
  rw [Int32.le_iff_toInt_le, Int64.le_iff_toInt_le]
  rw [Int32.lt_iff_toInt_lt, Int64.lt_iff_toInt_lt] at h
  omega
theorem z_si1 (μ : q_M) (a j : Nat) (v : Int32) (k i : Nat) : (q_si μ a j v).1 k i = if k = a ∧ i = j then v else μ.1 k i := rfl
theorem z_si2 (μ : q_M) (a j : Nat) (v : Int32) : (q_si μ a j v).2 = μ.2 := rfl
theorem z_sl1 (μ : q_M) (a j : Nat) (v : Int64) : (q_sl μ a j v).1 = μ.1 := rfl
theorem z_sl2 (μ : q_M) (a j : Nat) (v : Int64) (k i : Nat) : (q_sl μ a j v).2 k i = if k = a ∧ i = j then v else μ.2 k i := rfl
