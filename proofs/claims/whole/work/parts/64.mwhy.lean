theorem z_if {α : Type} {P Q : Prop} [Decidable P] [Decidable Q] {a b : α} (h : P = Q) : (if P then a else b) = if Q then a else b := by
  subst h
  by_cases p : P
  · rw [if_pos p, if_pos p]
  · rw [if_neg p, if_neg p]
def y_W (σ : y_S) : Prop := y_W0 σ ∧ y_WR σ ∧ y_WB σ ∧ y_WA σ ∧ (∀ b, σ 12 b = 0 ∨ σ 12 b = 1) ∧ ∀ j, σ 11 j = 0 ∨ σ 11 j = 1
def y_Up (U : Int) (μ : q_M) : Prop := μ.2 137 43 = lz (U / 1000000000000000000) ∧ μ.2 137 44 = lz (U % 1000000000000000000)
theorem K_isAbove {T U a b : Int} (hab : (a = 1 ∧ b = 1) ∨ (a = 4 ∧ b = 3)) (hT : 0 ≤ T ∧ T ≤ 10000000000000000000000000000000000) (hU : 0 ≤ U ∧ U ≤ 10000000000000000000000000000000000) {μ : q_M} (ht : y_Tp T μ) (hu : y_Up U μ) : f_X10_isAbove (iz a) (iz b) μ = some (if U * b < T * a then 1 else 0, μ) := by
  unfold f_X10_isAbove
  rcases hab with ⟨rfl, rfl⟩ | ⟨rfl, rfl⟩
  · rw [ht.1, ht.2, hu.1, hu.2, z_E, z_64 (by omega) (by omega)]
    simp only [z_le, z_mulL]
    rw [z_divL (by omega) (by omega) (by omega) (by omega), z_divL (by omega) (by omega) (by omega) (by omega), z_rl (by omega) (by omega) (by omega) (by omega), z_rl (by omega) (by omega) (by omega) (by omega), z_addL, z_addL]
    simp only [z_c1, z_c2, z_c4]
    rw [z_if (z_lt64 (by omega) (by omega) (by omega) (by omega)), z_if (z_eq64 (by omega) (by omega) (by omega) (by omega)), z_if (z_le64 (by omega) (by omega) (by omega) (by omega))]
    split
    · rw [if_pos (by omega)]
    · split
      · split
        · rw [if_neg (by omega)]
        · rw [if_pos (by omega)]
      · rw [if_neg (by omega)]
  · rw [ht.1, ht.2, hu.1, hu.2, z_E, z_64 (by omega) (by omega), z_64 (by omega) (by omega)]
    simp only [z_le, z_mulL]
    rw [z_divL (by omega) (by omega) (by omega) (by omega), z_divL (by omega) (by omega) (by omega) (by omega), z_rl (by omega) (by omega) (by omega) (by omega), z_rl (by omega) (by omega) (by omega) (by omega), z_addL, z_addL]
    simp only [z_c1, z_c2, z_c4]
    rw [z_if (z_lt64 (by omega) (by omega) (by omega) (by omega)), z_if (z_eq64 (by omega) (by omega) (by omega) (by omega)), z_if (z_le64 (by omega) (by omega) (by omega) (by omega))]
    split
    · rw [if_pos (by omega)]
    · split
      · split
        · rw [if_neg (by omega)]
        · rw [if_pos (by omega)]
      · rw [if_neg (by omega)]
theorem y_top_b {σ : y_S} (w : y_W σ) {b : Nat} (hb : b < 6) : 0 ≤ y_top σ b ∧ y_top σ b ≤ 10000000000000000000000000000000000 := by
  obtain ⟨b0, b1⟩ := y_LB_m hb w.2.2.1 (k := (σ 13 b).toNat) (by have := (w.2.2.1 b hb).1; omega)
  obtain ⟨c0, c1⟩ := y_LS_m hb w.2.2.1 (k := (σ 13 b).toNat) (by have := (w.2.2.1 b hb).1; omega)
  exact y_t2_b w.2.2.1 w.2.2.2.1 w.1.2.2.2.1 hb (by omega) (by omega) _
theorem y_und_b {σ : y_S} (w : y_W σ) {b : Nat} (hb : b < 6) : 1 ≤ y_und σ b ∧ y_und σ b ≤ 777600000000000000000000000 := by
  obtain ⟨b0, b1⟩ := y_LB_m hb w.2.2.1 (k := (σ 13 b).toNat) (by have := (w.2.2.1 b hb).1; omega)
  obtain ⟨c0, c1⟩ := y_LS_m hb w.2.2.1 (k := (σ 13 b).toNat) (by have := (w.2.2.1 b hb).1; omega)
  unfold y_und
  have h1 := Nat.mul_le_mul b1 c1
  have h2 := Nat.mul_pos b0 c0
  rw [← Int.natCast_mul]
  omega
def y_ab (σ : y_S) (b : Nat) (x y : Int) : Prop := y_und σ b * y < y_top σ b * x
def y_why (σ : y_S) (r : Nat) : Int := if σ 6 r = 0 then 1 else if σ 4 r < σ 0 4 then 2 else if σ 5 r < σ 0 5 then 3 else if 0 ≤ σ 7 r ∧ y_und σ (σ 7 r).toNat * 1 < y_top σ (σ 7 r).toNat * 1 then 4 else 0
theorem K_why {σ : y_S} (w : y_W σ) {r : Nat} (hr : (r : Int) < σ 0 1) {μ : q_M} (h : y_RM σ μ) : ∃ μ', f_X10_why (iz (r : Int)) μ = some (iz (y_why σ r), μ') ∧ y_Sc μ μ' := by
  have W := w
  obtain ⟨⟨w0, w1, w2, w3, w4, w5, -⟩, wr, wb, wa, -⟩ := w
  have g := wr r hr
  have cl : (iz (r : Int)).toNatClampNeg = r := by rw [z_cl (by omega) (by omega)]; omega
  unfold f_X10_why y_why
  rw [z_gd (z_ix (by omega) (by omega) (by omega)), cl, m_opens h, m_heights h, m_widths h, m_bridgeOf h, m_height h, m_width h]
  have e1 : (iz (σ 6 r) = 0) = (σ 6 r = 0) := z_eq32 (b := 0) (by omega) (by omega) (by omega) (by omega)
  have e2 : (iz (σ 0 4) ≤ iz (σ 4 r)) = (σ 0 4 ≤ σ 4 r) := z_le32 (by omega) (by omega) (by omega) (by omega)
  have e3 : (iz (σ 0 5) ≤ iz (σ 5 r)) = (σ 0 5 ≤ σ 5 r) := z_le32 (by omega) (by omega) (by omega) (by omega)
  have e4 : (iz (σ 7 r) < 0) = (σ 7 r < 0) := z_lt32 (b := 0) (by omega) (by omega) (by omega) (by omega)
  simp only [e1, e2, e3, e4]
  by_cases c1 : σ 6 r = 0
  · rw [if_pos c1, if_pos c1]; exact ⟨μ, rfl, y_Sc.rf⟩
  · rw [if_neg c1, if_neg c1]
    by_cases c2 : σ 0 4 ≤ σ 4 r
    · rw [if_pos c2, if_neg (show ¬ σ 4 r < σ 0 4 by omega)]
      by_cases c3 : σ 0 5 ≤ σ 5 r
      · rw [if_pos c3, if_neg (show ¬ σ 5 r < σ 0 5 by omega)]
        by_cases c4 : σ 7 r < 0
        · rw [if_pos c4, if_neg (show ¬ (0 ≤ σ 7 r ∧ _) from fun q => by omega)]; exact ⟨μ, rfl, y_Sc.rf⟩
        · rw [if_neg c4]
          have hb : (σ 7 r).toNat < 6 := by omega
          have eb : σ 7 r = (((σ 7 r).toNat : Nat) : Int) := by omega
          obtain ⟨μ1, f1, s1, t1, u1⟩ := K_rate wb wa w3 hb h
          have ub := y_und_b W hb
          have A := K_isAbove (a := 1) (b := 1) (Or.inl ⟨rfl, rfl⟩) (y_top_b W hb) (by omega) t1 u1
          rw [← eb] at f1
          rw [f1, z_bd, show (1 : Int32) = iz 1 from rfl, A, z_bd]
          simp only [z_b0]
          by_cases c5 : y_und σ (σ 7 r).toNat * 1 < y_top σ (σ 7 r).toNat * 1
          · rw [if_neg (by omega), if_pos ⟨by omega, c5⟩]; exact ⟨μ1, rfl, s1⟩
          · rw [if_pos c5, if_neg (fun q => c5 q.2)]; exact ⟨μ1, rfl, s1⟩
      · rw [if_neg c3, if_pos (by omega)]; exact ⟨μ, rfl, y_Sc.rf⟩
    · rw [if_neg c2, if_pos (by omega)]; exact ⟨μ, rfl, y_Sc.rf⟩
abbrev y_wes (σ : y_S) (r : Nat) : Prop := σ 4 r - σ 0 4 < 50 ∨ σ 5 r - σ 0 5 < 50 ∨ (0 ≤ σ 7 r ∧ y_und σ (σ 7 r).toNat * 3 < y_top σ (σ 7 r).toNat * 4)
theorem K_wantsEscort {σ : y_S} (w : y_W σ) {r : Nat} (hr : (r : Int) < σ 0 1) {μ : q_M} (h : y_RM σ μ) : ∃ μ', f_X10_wantsEscort (iz (r : Int)) μ = some (if y_wes σ r then 1 else 0, μ') ∧ y_Sc μ μ' := by
  have W := w
  obtain ⟨⟨w0, w1, w2, w3, w4, w5, -⟩, wr, wb, wa, -⟩ := w
  have g := wr r hr
  have cl : (iz (r : Int)).toNatClampNeg = r := by rw [z_cl (by omega) (by omega)]; omega
  unfold f_X10_wantsEscort
  rw [z_gd (z_ix (by omega) (by omega) (by omega)), cl, m_heights h, m_widths h, m_bridgeOf h, m_height h, m_width h, z_sub, z_sub]
  have e2 : (iz (σ 4 r - σ 0 4) < 50) = (σ 4 r - σ 0 4 < 50) := z_lt32 (b := 50) (by omega) (by omega) (by omega) (by omega)
  have e3 : (50 ≤ iz (σ 5 r - σ 0 5)) = (50 ≤ σ 5 r - σ 0 5) := z_le32 (a := 50) (by omega) (by omega) (by omega) (by omega)
  have e4 : (0 ≤ iz (σ 7 r)) = (0 ≤ σ 7 r) := z_le32 (a := 0) (by omega) (by omega) (by omega) (by omega)
  simp only [e2, e3, e4]
  by_cases c2 : σ 4 r - σ 0 4 < 50
  · rw [if_pos c2, if_pos (show y_wes σ r from Or.inl c2)]; exact ⟨μ, rfl, y_Sc.rf⟩
  · rw [if_neg c2]
    by_cases c3 : 50 ≤ σ 5 r - σ 0 5
    · rw [if_pos c3]
      by_cases c4 : 0 ≤ σ 7 r
      · rw [if_pos c4]
        have hb : (σ 7 r).toNat < 6 := by omega
        have eb : σ 7 r = (((σ 7 r).toNat : Nat) : Int) := by omega
        obtain ⟨μ1, f1, s1, t1, u1⟩ := K_rate wb wa w3 hb h
        have ub := y_und_b W hb
        have A := K_isAbove (a := 4) (b := 3) (Or.inr ⟨rfl, rfl⟩) (y_top_b W hb) (by omega) t1 u1
        rw [← eb] at f1
        rw [f1, z_bd, show (4 : Int32) = iz 4 from rfl, show (3 : Int32) = iz 3 from rfl, A, z_bd, z_gd z_zb]
        refine ⟨μ1, ?_, s1⟩
        by_cases c5 : y_und σ (σ 7 r).toNat * 3 < y_top σ (σ 7 r).toNat * 4
        · rw [if_pos c5, if_pos (show y_wes σ r from Or.inr (Or.inr ⟨c4, c5⟩))]
        · rw [if_neg c5, if_neg]
          rintro (q | q | q)
          · exact c2 q
          · omega
          · exact c5 q.2
      · rw [if_neg c4, if_neg]
        · exact ⟨μ, rfl, y_Sc.rf⟩
        · rintro (q | q | q)
          · exact c2 q
          · omega
          · exact c4 q.1
    · rw [if_neg c3, if_pos (show y_wes σ r from Or.inr (Or.inl (by omega)))]; exact ⟨μ, rfl, y_Sc.rf⟩
def y_tk (σ : y_S) (r : Nat) : Int := if 0 ≤ σ 7 r ∧ ¬ σ 12 (σ 7 r).toNat = 0 then σ 3 r * 2 else σ 3 r
theorem K_takes {σ : y_S} (w : y_W σ) {r : Nat} (hr : (r : Int) < σ 0 1) {μ : q_M} (h : y_RM σ μ) : f_X10_takes (iz (r : Int)) μ = some (iz (y_tk σ r), μ) := by
  obtain ⟨⟨w0, w1, w2, -⟩, wr, -, -, wz, -⟩ := w
  have g := wr r hr
  have cl : (iz (r : Int)).toNatClampNeg = r := by rw [z_cl (by omega) (by omega)]; omega
  unfold f_X10_takes y_tk
  rw [z_gd (z_ix (by omega) (by omega) (by omega)), cl, m_bridgeOf h, m_minutes h]
  have e4 : (iz (σ 7 r) < 0) = (σ 7 r < 0) := z_lt32 (b := 0) (by omega) (by omega) (by omega) (by omega)
  have m1 : iz (σ 3 r) * 1 = iz (σ 3 r) := by rw [show iz (σ 3 r) * 1 = iz (σ 3 r * 1) from z_mul _ 1, Int.mul_one]
  have m2 : iz (σ 3 r) * 2 = iz (σ 3 r * 2) := z_mul _ 2
  simp only [e4, m1, m2]
  by_cases c4 : σ 7 r < 0
  · rw [if_pos c4, if_neg (fun q => by omega)]
  · rw [if_neg c4, z_gd (z_ix (by omega) (by omega) (by omega)), z_cl (by omega) (by omega), m_isSlow h]
    have q := wz (σ 7 r).toNat
    have e5 : (iz (σ 12 (σ 7 r).toNat) = 0) = (σ 12 (σ 7 r).toNat = 0) := z_eq32 (b := 0) (by omega) (by omega) (by omega) (by omega)
    simp only [e5]
    by_cases c5 : σ 12 (σ 7 r).toNat = 0
    · rw [if_pos c5, if_neg (fun q => q.2 c5)]
    · rw [if_neg c5, if_pos ⟨by omega, c5⟩]
def p_kept (σ : y_S) (a : Int) : Prop := 0 ≤ a ∧ a < σ 0 2
theorem M_kept {σ : y_S} (w : y_W σ) {μ : q_M} (h : y_RM σ μ) (x : Int32) : f_X10_kept x μ = some (if 0 ≤ x.toInt ∧ x.toInt < σ 0 2 then 1 else 0, μ) := by
  obtain ⟨⟨w0, w1, w2, -⟩, -⟩ := w
  unfold f_X10_kept
  rw [k_isBridge h w2.1 w2.2, z_bd, z_gd z_zb]
