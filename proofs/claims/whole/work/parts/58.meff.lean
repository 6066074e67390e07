def y_av (σ : y_S) (b : Nat) (B S place load : Int) : Nat → Nat → Int
  | 0, _ => 0
  | d + 1, k => if σ 14 (6 * b + k) = place then B / σ 16 (6 * b + k) * (load * σ 15 (6 * b + k) * S) else if ((k : Int) + 1 < σ 13 b ∧ σ 14 (6 * b + k) < place) ∧ place < σ 14 (6 * b + (k + 1)) then B / σ 16 (6 * b + k) * (load * (S / (σ 14 (6 * b + (k + 1)) - σ 14 (6 * b + k))) * σ 15 (6 * b + k) * (σ 14 (6 * b + (k + 1)) - place)) + B / σ 16 (6 * b + (k + 1)) * (load * (S / (σ 14 (6 * b + (k + 1)) - σ 14 (6 * b + k))) * σ 15 (6 * b + (k + 1)) * (place - σ 14 (6 * b + k))) else y_av σ b B S place load d (k + 1)
theorem y_mulb {a x A X : Int} (ha : 0 ≤ a ∧ a ≤ A) (hx : -X ≤ x ∧ x ≤ X) (hX : 0 ≤ X) : -(A * X) ≤ a * x ∧ a * x ≤ A * X := by
  have h1 : a * x ≤ a * X := Int.mul_le_mul_of_nonneg_left hx.2 ha.1
  have h2 : a * X ≤ A * X := Int.mul_le_mul_of_nonneg_right ha.2 hX
  have h3 : a * -X ≤ a * x := Int.mul_le_mul_of_nonneg_left hx.1 ha.1
  have h4 : a * -X = -(a * X) := Int.mul_neg a X
  omega
theorem y_m1 {load ab S : Int} (hl : 0 ≤ load ∧ load ≤ 1000) (ha : -1000 ≤ ab ∧ ab ≤ 1000) (hS : 0 ≤ S ∧ S ≤ 777600000) : (-1000000 ≤ load * ab ∧ load * ab ≤ 1000000) ∧ (-777600000000000 ≤ load * ab * S ∧ load * ab * S ≤ 777600000000000) := by
  have h1 := y_mulb hl ha (by omega)
  have h2 := y_mulb (a := S) (x := load * ab) (A := 777600000) (X := 1000000) hS (by omega) (by omega)
  rw [Int.mul_comm S] at h2
  omega
theorem y_m2 {load ab S st df : Int} (hl : 0 ≤ load ∧ load ≤ 1000) (ha : -1000 ≤ ab ∧ ab ≤ 1000) (hS : 0 ≤ S ∧ S ≤ 777600000) (hd : 0 ≤ df ∧ df ≤ st) (hs : 0 < st) : (0 ≤ S / st ∧ S / st ≤ S) ∧ (0 ≤ load * (S / st) ∧ load * (S / st) ≤ 777600000000) ∧ (-777600000000000 ≤ load * (S / st) * ab ∧ load * (S / st) * ab ≤ 777600000000000) ∧ (-777600000000000 ≤ load * (S / st) * ab * df ∧ load * (S / st) * ab * df ≤ 777600000000000) := by
  have q0 : 0 ≤ S / st := Int.ediv_nonneg hS.1 (by omega)
  have q1 : S / st ≤ S := Int.ediv_le_self st hS.1
  have q2 : S / st * df ≤ S := by
    have := Int.mul_le_mul_of_nonneg_left hd.2 q0
    have e := Int.ediv_mul_le S (show st ≠ 0 by omega)
    omega
  have q3 : 0 ≤ S / st * df := Int.mul_nonneg q0 hd.1
  have h1 := y_mulb (a := load) (x := S / st) (A := 1000) (X := 777600000) hl (by omega) (by omega)
  have h1n : 0 ≤ load * (S / st) := Int.mul_nonneg hl.1 q0
  have h2 := y_mulb (a := load * (S / st)) (x := ab) (A := 777600000000) (X := 1000) (by omega) (by omega) (by omega)
  have h3 := y_m1 hl ha (S := S / st * df) (by omega)
  have e : load * (S / st) * ab * df = load * ab * (S / st * df) := by
    rw [Int.mul_assoc load, Int.mul_comm (S / st) ab, ← Int.mul_assoc, Int.mul_assoc]
  rw [e]
  omega
theorem y_dv {B be : Int} (hB : 0 ≤ B ∧ B ≤ 1000000000000000000) (hb : 1 ≤ be) : 0 ≤ B / be ∧ B / be ≤ 1000000000000000000 := by
  have := Int.ediv_nonneg hB.1 (show 0 ≤ be by omega)
  have := Int.ediv_le_self be hB.1
  omega
theorem y_av_b {σ : y_S} (w : y_WB σ) {b : Nat} (hb : b < 6) {B S place load : Int} (hB : 0 ≤ B ∧ B ≤ 1000000000000000000) (hS : 0 ≤ S ∧ S ≤ 777600000) (hl : 0 ≤ load ∧ load ≤ 1000) : ∀ d k : Nat, (k : Int) + d ≤ σ 13 b → -1555200000000000000000000000000000 ≤ y_av σ b B S place load d k ∧ y_av σ b B S place load d k ≤ 1555200000000000000000000000000000 := by
  intro d
  induction d with
  | zero => intro k _; unfold y_av; omega
  | succ d ih =>
    intro k hk
    have g := (w b hb).2.1 k (by omega)
    have d0 := y_dv hB g.2.2.1
    have p1 := y_mulb (a := B / σ 16 (6 * b + k)) (x := load * σ 15 (6 * b + k) * S) (A := 1000000000000000000) (X := 777600000000000) d0 (y_m1 hl g.2.1 hS).2 (by omega)
    unfold y_av
    split
    · omega
    · split
      · rename_i c
        have g2 := (w b hb).2.1 (k + 1) (by omega)
        have m1 := y_m2 (load := load) (ab := σ 15 (6 * b + k)) (S := S) (st := σ 14 (6 * b + (k + 1)) - σ 14 (6 * b + k)) (df := σ 14 (6 * b + (k + 1)) - place) hl g.2.1 hS (by omega) (by omega)
        have m2 := y_m2 (load := load) (ab := σ 15 (6 * b + (k + 1))) (S := S) (st := σ 14 (6 * b + (k + 1)) - σ 14 (6 * b + k)) (df := place - σ 14 (6 * b + k)) hl g2.2.1 hS (by omega) (by omega)
        have d1 := y_dv hB g2.2.2.1
        have p2 := y_mulb (a := B / σ 16 (6 * b + k)) (A := 1000000000000000000) (X := 777600000000000) d0 m1.2.2.2 (by omega)
        have p3 := y_mulb (a := B / σ 16 (6 * b + (k + 1))) (A := 1000000000000000000) (X := 777600000000000) d1 m2.2.2.2 (by omega)
        omega
      · exact ih (k + 1) (by omega)
def y_Fs (μ μ' : q_M) : Prop := y_Sc μ μ' ∧ ∀ j, j ≠ 45 → j ≠ 46 → j ≠ 49 → j ≠ 50 → μ'.2 137 j = μ.2 137 j
theorem y_Fs.rf {μ : q_M} : y_Fs μ μ := ⟨y_Sc.rf, fun _ _ _ _ _ => rfl⟩
theorem y_Fs.tr {μ μ1 μ2 : q_M} (h : y_Fs μ μ1) (g : y_Fs μ1 μ2) : y_Fs μ μ2 := ⟨h.1.tr g.1, fun j a b c d => (g.2 j a b c d).trans (h.2 j a b c d)⟩
theorem z_nz {z : Int} (h1 : 0 < z) (h2 : z < 9223372036854775808) : decide (¬ lz z = 0) = true := by
  have : (lz z = 0) = (z = 0) := z_eq64 (b := 0) (by omega) (by omega) (by omega) (by omega)
  apply decide_eq_true
  rw [this]
  omega
theorem K_al {σ : y_S} (w : y_WB σ) {b : Nat} (hb : b < 6) {B S : Nat} (hB : B ≤ 1000000000000000000) (hS : S ≤ 777600000) {place load : Int} (hp : -1000 ≤ place ∧ place ≤ 1000) (hl : 0 ≤ load ∧ load ≤ 1000) {T : Int} (hT : -7000000000000000000000000000000000 ≤ T ∧ T ≤ 7000000000000000000000000000000000) {μ : q_M} (h : y_RM σ μ) (hL : y_Lc B S μ) (hm : y_Sm T μ) : ∀ (d n k : Nat), k + d = (σ 13 b).toNat → d < n → ∃ μ', L_X10_addAt_3 (iz (b : Int)) (iz place) (iz load) (fun μ => some ((), μ)) n (iz (k : Int)) μ = some ((), μ') ∧ y_Fs μ μ' ∧ y_Sm (T + y_av σ b B S place load d k) μ' := by
  intro d
  have gb := (w b hb).1
  have cb : (iz (b : Int)).toNatClampNeg = b := by rw [z_cl (by omega) (by omega)]; omega
  induction d with
  | zero =>
    intro n k hk hn
    obtain ⟨n, rfl⟩ : ∃ z, n = z + 1 := ⟨n - 1, by omega⟩
    have e : (iz (σ 13 b) ≤ iz (k : Int)) = (σ 13 b ≤ (k : Int)) := z_le32 (by omega) (by omega) (by omega) (by omega)
    rw [L_X10_addAt_3, z_gd (z_ix (by omega) (by omega) (by omega)), cb, m_cornerCounts h]
    simp only [e]
    rw [if_pos (by omega)]
    refine ⟨μ, rfl, y_Fs.rf, ?_⟩
    unfold y_av
    rw [Int.add_zero]
    exact hm
  | succ d ih =>
    intro n k hk hn
    obtain ⟨n, rfl⟩ : ∃ z, n = z + 1 := ⟨n - 1, by omega⟩
    have g := (w b hb).2.1 k (by omega)
    have e : (iz (σ 13 b) ≤ iz (k : Int)) = (σ 13 b ≤ (k : Int)) := z_le32 (by omega) (by omega) (by omega) (by omega)
    have e1 : (iz (σ 14 (6 * b + k)) = iz place) = (σ 14 (6 * b + k) = place) := z_eq32 (by omega) (by omega) (by omega) (by omega)
    have e2 : (iz (σ 13 b) ≤ iz ((k : Int) + 1)) = (σ 13 b ≤ (k : Int) + 1) := z_le32 (by omega) (by omega) (by omega) (by omega)
    have e3 : (iz place ≤ iz (σ 14 (6 * b + k))) = (place ≤ σ 14 (6 * b + k)) := z_le32 (by omega) (by omega) (by omega) (by omega)
    have s : 6 * iz (b : Int) + iz (k : Int) = iz (6 * b + k) := by rw [show 6 * iz (b : Int) = iz (6 * b) from z_mul 6 b, z_add]
    have cl : (iz (6 * (b : Int) + k)).toNatClampNeg = 6 * b + k := by rw [z_cl (by omega) (by omega)]; omega
    have rc9 := ih n (k + 1) (by omega) (by omega)
    rw [L_X10_addAt_3, z_gd (z_ix (by omega) (by omega) (by omega)), cb, m_cornerCounts h]
    simp only [e]
    rw [if_neg (by omega), z_le, s, z_gd (z_ix (by omega) (by omega) (by omega)), cl, m_places h, m_belows h, m_aboves h, hL.1, hL.2]
    simp only [e1, z_a1, e2, e3]
    unfold y_av
    by_cases c1 : σ 14 (6 * b + k) = place
    · rw [if_pos c1, if_pos c1, z_64 (by omega) (by omega), z_64 (by omega) (by omega), z_64 (by omega) (by omega), z_gd (z_nz (by omega) (by omega)), z_divL (by omega) (by omega) (by omega) (by omega), z_mulL, z_mulL]
      have d0 := y_dv (B := (B : Int)) (by omega) g.2.2.1
      have m1 := y_m1 hl g.2.1 (S := (S : Int)) (by omega)
      obtain ⟨μ', f, s1, s2, s3⟩ := K_add (x := load * σ 15 (6 * b + k) * S) d0 (by omega) (S := T) (by omega) hm
      rw [f, z_bd]
      exact ⟨μ', rfl, ⟨s1, s3⟩, s2⟩
    · rw [if_neg c1, if_neg c1]
      by_cases c2 : σ 13 b ≤ (k : Int) + 1
      · rw [if_pos c2, if_neg (by omega), z_le]
        exact rc9
      · rw [if_neg c2]
        by_cases c3 : place ≤ σ 14 (6 * b + k)
        · rw [if_pos c3, if_neg (by omega), z_le]
          exact rc9
        · rw [if_neg c3]
          have g2 := (w b hb).2.1 (k + 1) (by omega)
          have r1 := (w b hb).2.2 k (by omega)
          have cl2 : (iz (6 * (b : Int) + k + 1)).toNatClampNeg = 6 * b + (k + 1) := by rw [z_cl (by omega) (by omega)]; omega
          have e4 : (iz (σ 14 (6 * b + (k + 1))) ≤ iz place) = (σ 14 (6 * b + (k + 1)) ≤ place) := z_le32 (by omega) (by omega) (by omega) (by omega)
          rw [z_gd (z_ix (by omega) (by omega) (by omega)), cl2, m_places h]
          simp only [e4]
          by_cases c4 : σ 14 (6 * b + (k + 1)) ≤ place
          · rw [if_pos c4, if_neg (by omega), z_le]
            exact rc9
          · rw [if_neg c4, if_pos (by omega)]
            have d0 := y_dv (B := (B : Int)) (by omega) g.2.2.1
            have d1 := y_dv (B := (B : Int)) (by omega) g2.2.2.1
            have m1 := y_m2 (load := load) (ab := σ 15 (6 * b + k)) (S := (S : Int)) (st := σ 14 (6 * b + (k + 1)) - σ 14 (6 * b + k)) (df := σ 14 (6 * b + (k + 1)) - place) hl g.2.1 (by omega) (by omega) (by omega)
            have m2 := y_m2 (load := load) (ab := σ 15 (6 * b + (k + 1))) (S := (S : Int)) (st := σ 14 (6 * b + (k + 1)) - σ 14 (6 * b + k)) (df := place - σ 14 (6 * b + k)) hl g2.2.1 (by omega) (by omega) (by omega)
            have b1 := y_mulb (a := (B : Int) / σ 16 (6 * b + k)) (A := 1000000000000000000) (X := 777600000000000) d0 m1.2.2.2 (by omega)
            simp only [z_le]
            rw [z_sub, z_64 (a := σ 14 (6 * b + (k + 1)) - σ 14 (6 * b + k)) (by omega) (by omega), z_gd (z_nz (by omega) (by omega)), z_64 (a := load) (by omega) (by omega), z_divL (b := σ 14 (6 * b + (k + 1)) - σ 14 (6 * b + k)) (by omega) (by omega) (by omega) (by omega), z_mulL, z_64 (a := σ 16 (6 * b + k)) (by omega) (by omega), z_gd (z_nz (by omega) (by omega)), z_divL (b := σ 16 (6 * b + k)) (by omega) (by omega) (by omega) (by omega), z_64 (a := σ 15 (6 * b + k)) (by omega) (by omega), z_mulL, z_sub, z_64 (a := σ 14 (6 * b + (k + 1)) - place) (by omega) (by omega), z_mulL]
            obtain ⟨μ1, f1, s1, s2, s3⟩ := K_add (x := load * ((S : Int) / (σ 14 (6 * b + (k + 1)) - σ 14 (6 * b + k))) * σ 15 (6 * b + k) * (σ 14 (6 * b + (k + 1)) - place)) d0 (by omega) (S := T) (by omega) hm
            have h1 := s1.RM h
            rw [f1, z_bd, m_belows h1, m_aboves h1, m_places h1, s3 47 (by decide) (by decide) (by decide) (by decide), hL.1, z_64 (a := σ 16 (6 * b + (k + 1))) (by omega) (by omega), z_gd (z_nz (by omega) (by omega)), z_divL (b := σ 16 (6 * b + (k + 1))) (by omega) (by omega) (by omega) (by omega), z_64 (a := σ 15 (6 * b + (k + 1))) (by omega) (by omega), z_mulL, z_sub, z_64 (a := place - σ 14 (6 * b + k)) (by omega) (by omega), z_mulL]
            obtain ⟨μ2, f2, t1, t2, t3⟩ := K_add (x := load * ((S : Int) / (σ 14 (6 * b + (k + 1)) - σ 14 (6 * b + k))) * σ 15 (6 * b + (k + 1)) * (place - σ 14 (6 * b + k))) d1 (by omega) (by omega) s2
            rw [f2, z_bd]
            refine ⟨μ2, rfl, ⟨s1.tr t1, fun j a1 a2 a3 a4 => (t3 j a1 a2 a3 a4).trans (s3 j a1 a2 a3 a4)⟩, ?_⟩
            rw [Int.add_assoc] at t2
            exact t2
