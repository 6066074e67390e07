def y_E (σ : y_S) (b : Nat) (B : Int) (sh : Nat → Int) : Nat → Int
  | 0 => 0
  | n + 1 => y_E σ b B sh n + sh n * σ 15 (6 * b + n) * (B / σ 16 (6 * b + n))
theorem y_E_up (σ : y_S) (b : Nat) (B : Int) (sh : Nat → Int) (c : Nat) (v : Int) : ∀ n : Nat, y_E σ b B (y_fA sh c v) n = y_E σ b B sh n + (if c < n then (v - sh c) * σ 15 (6 * b + c) * (B / σ 16 (6 * b + c)) else 0) := by
  intro n
  induction n with
  | zero => rfl
  | succ n ih =>
    unfold y_E
    rw [ih]
    by_cases e : c = n
    · subst e
      rw [if_neg (by omega), if_pos (by omega)]
      unfold y_fA
      rw [if_pos rfl, Int.sub_mul, Int.sub_mul]
      omega
    · have : y_fA sh c v n = sh n := by unfold y_fA; rw [if_neg (by omega)]
      rw [this]
      by_cases l : c < n
      · rw [if_pos l, if_pos (by omega)]; omega
      · rw [if_neg l, if_neg (by omega)]; omega
theorem y_m4 (x y z w : Int) : x * z * y * w = w * (x * y * z) := by
  rw [Int.mul_comm (x * z * y) w, Int.mul_right_comm x z y]
def y_Sh (sh : Nat → Int) (μ : q_M) : Prop := ∀ j, j < 6 → μ.2 11 j = lz (sh j)
def y_S1 (a : Nat) : Prop := a = 11
theorem y_S1n : ∀ a, y_S1 a → ¬ y_cl a := by intro a ha hc; unfold y_S1 at ha; unfold y_cl at hc; omega
theorem K_sod {σ : y_S} {b : Nat} (hb : b < 6) (w : y_WB σ) {place : Int} (hp : -1000 ≤ place ∧ place ≤ 1000) (x4 : Int64) (Kx : q_M → Option (Unit × q_M)) {μ : q_M} (h : y_RD σ μ) : ∀ (d n c : Nat), c + d = (σ 13 b).toNat → d < n → (∀ j : Nat, c ≤ j → (j : Int) < σ 13 b → place < σ 14 (6 * b + j)) → L_X4_shareOut_3 (50 + b) (lz place) x4 Kx n (iz (c : Int)) μ = Kx μ := by
  have gb := (w b hb).1
  intro d
  induction d with
  | zero =>
    intro n c hc hn hq
    obtain ⟨n, rfl⟩ : ∃ z, n = z + 1 := ⟨n - 1, by omega⟩
    rw [L_X4_shareOut_3, d_cornerCounts h hb, z_if (z_le32 (by omega) (by omega) (by omega) (by omega)), if_pos (by omega)]
  | succ d ih =>
    intro n c hc hn hq
    obtain ⟨n, rfl⟩ : ∃ z, n = z + 1 := ⟨n - 1, by omega⟩
    have hc2 : (c : Int) < σ 13 b := by omega
    have g1 := ((w b hb).2.1 c hc2).1
    have q0 := hq c (by omega) hc2
    have cl : (iz (c : Int)).toNatClampNeg = c := by rw [z_cl (by omega) (by omega)]; omega
    have c0 : (lg_cmp (lz (place - σ 14 (6 * b + c))) 0 = 0) = (place - σ 14 (6 * b + c) = 0) := (z_c2 _ _).trans (z_eq64 (b := 0) (by omega) (by omega) (by omega) (by omega))
    have c1 : (lg_cmp (lz (place - σ 14 (6 * b + c))) 0 ≤ 0) = (place - σ 14 (6 * b + c) ≤ 0) := (z_c4 _ _).trans (z_le64 (b := 0) (by omega) (by omega) (by omega) (by omega))
    have ih := ih n (c + 1) (by omega) (by omega) (fun j h1 h2 => hq j (by omega) h2)
    rw [L_X4_shareOut_3, d_cornerCounts h hb, z_if (z_le32 (by omega) (by omega) (by omega) (by omega)), if_neg (by omega), z_gd (z_ix (by omega) (by omega) (by omega)), cl, d_at h hb (by omega), z_subL]
    simp only [z_le, z_a1]
    rw [z_if c0, if_neg (by omega), z_if (z_le32 (by omega) (by omega) (by omega) (by omega)), z_if c1]
    by_cases e : σ 13 b ≤ (c : Int) + 1
    · rw [if_pos e]; exact ih
    · rw [if_neg e, if_pos (by omega)]; exact ih
theorem K_sol {σ : y_S} {b : Nat} (hb : b < 6) (w : y_WB σ) {place load : Int} (hp : -1000 ≤ place ∧ place ≤ 1000) (hl : 0 ≤ load ∧ load ≤ 1000) {B S : Nat} (hS : S ≤ 777600000) (Kx : q_M → Option (Unit × q_M)) : ∀ (d n c : Nat) (sh : Nat → Int) (μ : q_M), c + d = (σ 13 b).toNat → d < n → y_RD σ μ → μ.2 4 7 = lz (S : Int) → y_Sh sh μ → ∃ sh' μ', L_X4_shareOut_3 (50 + b) (lz place) (lz load) Kx n (iz (c : Int)) μ = Kx μ' ∧ y_Sh sh' μ' ∧ y_E σ b B sh' (σ 13 b).toNat = y_E σ b B sh (σ 13 b).toNat + y_av σ b B S place load d c ∧ (∀ j, sh j ≤ sh' j ∧ sh' j ≤ sh j + 777600000000) ∧ y_Fx y_S1 μ μ' := by
  have gb := (w b hb).1
  intro d
  induction d with
  | zero =>
    intro n c sh μ hc hn h h7 hs
    obtain ⟨n, rfl⟩ : ∃ z, n = z + 1 := ⟨n - 1, by omega⟩
    rw [L_X4_shareOut_3, d_cornerCounts h hb, z_if (z_le32 (by omega) (by omega) (by omega) (by omega)), if_pos (by omega)]
    refine ⟨sh, μ, rfl, hs, ?_, fun j => by omega, y_Fx.rf⟩
    unfold y_av
    omega
  | succ d ih =>
    intro n c sh μ hc hn h h7 hs
    obtain ⟨n, rfl⟩ : ∃ z, n = z + 1 := ⟨n - 1, by omega⟩
    have hc2 : (c : Int) < σ 13 b := by omega
    have g1 := ((w b hb).2.1 c hc2).1
    have cl : (iz (c : Int)).toNatClampNeg = c := by rw [z_cl (by omega) (by omega)]; omega
    have cl1 : (iz ((c : Int) + 1)).toNatClampNeg = c + 1 := by rw [z_cl (by omega) (by omega)]; omega
    have c0 : (lg_cmp (lz (place - σ 14 (6 * b + c))) 0 = 0) = (place - σ 14 (6 * b + c) = 0) := (z_c2 _ _).trans (z_eq64 (b := 0) (by omega) (by omega) (by omega) (by omega))
    have c1 : (lg_cmp (lz (place - σ 14 (6 * b + c))) 0 ≤ 0) = (place - σ 14 (6 * b + c) ≤ 0) := (z_c4 _ _).trans (z_le64 (b := 0) (by omega) (by omega) (by omega) (by omega))
    rw [L_X4_shareOut_3, d_cornerCounts h hb, z_if (z_le32 (by omega) (by omega) (by omega) (by omega)), if_neg (by omega), z_gd (z_ix (by omega) (by omega) (by omega)), cl, d_at h hb (by omega), z_subL]
    simp only [z_le, z_a1]
    rw [z_if c0, z_if (z_le32 (by omega) (by omega) (by omega) (by omega)), z_if c1]
    unfold y_av
    by_cases e0 : σ 14 (6 * b + c) = place
    · rw [if_pos (by omega), if_pos e0, h7, hs c (by omega), z_mulL, z_addL]
      have F1 : y_Fx y_S1 μ (q_sl μ 11 c (lz (sh c + load * (S : Int)))) := y_Fx.rf.sl rfl
      have D := K_sod hb w hp (lz load) Kx (F1.RD y_S1n h) d n (c + 1) (by omega) (by omega) (fun j h1 h2 => by
        have key : ∀ i : Nat, (c : Int) + 1 + i < σ 13 b → place < σ 14 (6 * b + (c + 1 + i)) := by
          intro i
          induction i with
          | zero => intro q; have := (w b hb).2.2 c (by omega); rw [Nat.add_zero]; omega
          | succ i ihi =>
            intro q
            have a := ihi (by omega)
            have b := (w b hb).2.2 (c + 1 + i) (by omega)
            rw [show c + 1 + (i + 1) = c + 1 + i + 1 by omega]
            omega
        have := key (j - (c + 1)) (by omega)
        rw [show c + 1 + (j - (c + 1)) = j by omega] at this
        exact this)
      refine ⟨y_fA sh c (sh c + load * (S : Int)), _, D, fun j hj => ?_, ?_, fun j => ?_, F1⟩
      · rw [z_sl2]
        unfold y_fA
        by_cases e : j = c
        · rw [if_pos ⟨rfl, e⟩, if_pos e]
        · rw [if_neg (fun q => e q.2), if_neg e]; exact hs j hj
      · rw [y_E_up, if_pos (by omega), show sh c + load * (S : Int) - sh c = load * (S : Int) by omega, y_m4]
      · have m1 : 0 ≤ load * (S : Int) ∧ load * (S : Int) ≤ 1000 * 777600000 := ⟨Int.mul_nonneg hl.1 (by omega), Int.mul_le_mul hl.2 (by omega) (by omega) (by omega)⟩
        unfold y_fA
        split
        · rename_i e; rw [e]; omega
        · omega
    · rw [if_neg (by omega), if_neg e0]
      have ih0 := ih n (c + 1) sh μ (by omega) (by omega) h h7 hs
      by_cases e1 : σ 13 b ≤ (c : Int) + 1
      · rw [if_pos e1, if_neg (by omega)]; exact ih0
      · rw [if_neg e1]
        by_cases e2 : place - σ 14 (6 * b + c) ≤ 0
        · rw [if_pos e2, if_neg (by omega)]; exact ih0
        · have g2 := ((w b hb).2.1 (c + 1) (by omega)).1
          have gm := (w b hb).2.2 c (by omega)
          have c3 : (0 ≤ lg_cmp (lz place) (lz (σ 14 (6 * b + (c + 1))))) = (σ 14 (6 * b + (c + 1)) ≤ place) := (z_c3 _ _).trans (z_le64 (by omega) (by omega) (by omega) (by omega))
          rw [if_neg e2, z_gd (z_ix (by omega) (by omega) (by omega)), cl1, d_at h hb (by omega), z_if c3]
          by_cases e3 : σ 14 (6 * b + (c + 1)) ≤ place
          · rw [if_pos e3, if_neg (by omega)]; exact ih0
          · rw [if_neg e3, if_pos (by omega), K_gapBehind hb w h hc2, z_bd, h7]
            have gp := y_gp_b hb w c
            have eg : ((y_gp σ b c : Nat) : Int) = σ 14 (6 * b + (c + 1)) - σ 14 (6 * b + c) := by
              unfold y_gp; rw [if_pos (by omega)]; omega
            rw [K_quotient (by omega) gp.1 (by omega), z_bd]
            have eq : ((S / y_gp σ b c : Nat) : Int) = (S : Int) / (σ 14 (6 * b + (c + 1)) - σ 14 (6 * b + c)) := by rw [Int.natCast_ediv, eg]
            have qn := Nat.le_trans (Nat.div_le_self S (y_gp σ b c)) hS
            have qb : 0 ≤ ((S / y_gp σ b c : Nat) : Int) ∧ ((S / y_gp σ b c : Nat) : Int) ≤ 777600000 := ⟨Int.natCast_nonneg _, Int.ofNat_le.mpr qn⟩
            rw [eq, eg, z_mulL, z_subL, z_mulL, hs c (by omega), z_addL, show σ 14 (6 * b + (c + 1)) - σ 14 (6 * b + c) - (place - σ 14 (6 * b + c)) = σ 14 (6 * b + (c + 1)) - place by omega]
            rw [eq] at qb
            generalize hP : load * ((S : Int) / (σ 14 (6 * b + (c + 1)) - σ 14 (6 * b + c))) = P
            have pb : 0 ≤ P ∧ P ≤ 1000 * 777600000 := by rw [← hP]; exact ⟨Int.mul_nonneg hl.1 qb.1, Int.mul_le_mul hl.2 qb.2 qb.1 (by omega)⟩
            have F1 : y_Fx y_S1 μ (q_sl μ 11 c (lz (sh c + P * (σ 14 (6 * b + (c + 1)) - place)))) := y_Fx.rf.sl rfl
            have s1 : (q_sl μ 11 c (lz (sh c + P * (σ 14 (6 * b + (c + 1)) - place)))).2 11 (c + 1) = lz (sh (c + 1)) := by
              rw [z_sl2, if_neg (by omega)]; exact hs (c + 1) (by omega)
            rw [s1, z_mulL, z_addL]
            have F2 : y_Fx y_S1 μ (q_sl (q_sl μ 11 c (lz (sh c + P * (σ 14 (6 * b + (c + 1)) - place)))) 11 (c + 1) (lz (sh (c + 1) + P * (place - σ 14 (6 * b + c))))) := F1.sl rfl
            have D := K_sod hb w hp (lz load) Kx (F2.RD y_S1n h) d n (c + 1) (by omega) (by omega) (fun j h1 h2 => by
              have key : ∀ i : Nat, (c : Int) + 1 + i < σ 13 b → place < σ 14 (6 * b + (c + 1 + i)) := by
                intro i
                induction i with
                | zero => intro q; rw [Nat.add_zero]; omega
                | succ i ihi =>
                  intro q
                  have a := ihi (by omega)
                  have b := (w b hb).2.2 (c + 1 + i) (by omega)
                  rw [show c + 1 + (i + 1) = c + 1 + i + 1 by omega]
                  omega
              have := key (j - (c + 1)) (by omega)
              rw [show c + 1 + (j - (c + 1)) = j by omega] at this
              exact this)
            refine ⟨y_fA (y_fA sh c (sh c + P * (σ 14 (6 * b + (c + 1)) - place))) (c + 1) (sh (c + 1) + P * (place - σ 14 (6 * b + c))), _, D, fun j hj => ?_, ?_, fun j => ?_, F2⟩
            · rw [z_sl2]
              unfold y_fA
              by_cases e : j = c + 1
              · rw [if_pos ⟨rfl, e⟩, if_pos e]
              · rw [if_neg (fun q => e q.2), if_neg e, z_sl2]
                by_cases e4 : j = c
                · rw [if_pos ⟨rfl, e4⟩, if_pos e4]
                · rw [if_neg (fun q => e4 q.2), if_neg e4]; exact hs j hj
            · have e5 : y_fA sh c (sh c + P * (σ 14 (6 * b + (c + 1)) - place)) (c + 1) = sh (c + 1) := by unfold y_fA; rw [if_neg (by omega)]
              rw [y_E_up, if_pos (by omega), e5, y_E_up, if_pos (by omega), show sh (c + 1) + P * (place - σ 14 (6 * b + c)) - sh (c + 1) = P * (place - σ 14 (6 * b + c)) by omega, show sh c + P * (σ 14 (6 * b + (c + 1)) - place) - sh c = P * (σ 14 (6 * b + (c + 1)) - place) by omega, y_m4, y_m4, Int.add_assoc]
            · have sg : (S : Int) / (σ 14 (6 * b + (c + 1)) - σ 14 (6 * b + c)) * (σ 14 (6 * b + (c + 1)) - σ 14 (6 * b + c)) ≤ (S : Int) := Int.ediv_mul_le (S : Int) (by omega)
              have pg : P * (σ 14 (6 * b + (c + 1)) - σ 14 (6 * b + c)) ≤ 1000 * 777600000 := by
                rw [← hP, Int.mul_assoc]
                exact Int.mul_le_mul hl.2 (Int.le_trans sg (by omega)) (Int.mul_nonneg qb.1 (by omega)) (by omega)
              have m1 : 0 ≤ P * (σ 14 (6 * b + (c + 1)) - place) ∧ P * (σ 14 (6 * b + (c + 1)) - place) ≤ 1000 * 777600000 := ⟨Int.mul_nonneg pb.1 (by omega), Int.le_trans (Int.mul_le_mul_of_nonneg_left (by omega) pb.1) pg⟩
              have m2 : 0 ≤ P * (place - σ 14 (6 * b + c)) ∧ P * (place - σ 14 (6 * b + c)) ≤ 1000 * 777600000 := ⟨Int.mul_nonneg pb.1 (by omega), Int.le_trans (Int.mul_le_mul_of_nonneg_left (by omega) pb.1) pg⟩
              unfold y_fA
              by_cases e : j = c + 1
              · rw [if_pos e, e]; omega
              · rw [if_neg e]
                by_cases e4 : j = c
                · rw [if_pos e4, e4]; omega
                · rw [if_neg e4]; omega
theorem K_shareOut {σ : y_S} {b : Nat} (hb : b < 6) (w : y_WB σ) {place load : Int} (hp : -1000 ≤ place ∧ place ≤ 1000) (hl : 0 ≤ load ∧ load ≤ 1000) {B S : Nat} (hS : S ≤ 777600000) {sh : Nat → Int} {μ : q_M} (h : y_RD σ μ) (h7 : μ.2 4 7 = lz (S : Int)) (hs : y_Sh sh μ) : ∃ sh' μ', f_X4_shareOut (50 + b) (lz place) (lz load) μ = some ((), μ') ∧ y_Sh sh' μ' ∧ y_E σ b B sh' (σ 13 b).toNat = y_E σ b B sh (σ 13 b).toNat + y_av σ b B S place load (σ 13 b).toNat 0 ∧ (∀ j, sh j ≤ sh' j ∧ sh' j ≤ sh j + 777600000000) ∧ y_Fx y_S1 μ μ' := by
  have gb := (w b hb).1
  unfold f_X4_shareOut
  exact K_sol hb w hp hl hS (fun μ => some ((), μ)) (σ 13 b).toNat q_fu 0 sh μ (by omega) (by rw [z_fu]; omega) h h7 hs
theorem K_tg3 {x1 : Nat} {x3 : Int64} {x5 : Int32} {x6 : Nat} (Kx : q_M → Option (Unit × q_M)) : ∀ (d n i : Nat) (μ : q_M), i + d = 6 → d < n → (∀ j, j < i → μ.2 11 j = lz 0) → ∃ μ', L_X4_takeGreater_3 x1 x3 x5 x6 Kx n (iz (i : Int)) μ = Kx μ' ∧ y_Sh (fun _ => 0) μ' ∧ y_Fx y_S1 μ μ' := by
  intro d
  induction d with
  | zero =>
    intro n i μ hi hn h
    obtain ⟨n, rfl⟩ : ∃ z, n = z + 1 := ⟨n - 1, by omega⟩
    have e : (6 ≤ iz (i : Int)) = (6 ≤ (i : Int)) := z_le32 (a := 6) (by omega) (by omega) (by omega) (by omega)
    rw [L_X4_takeGreater_3, z_if e, if_pos (by omega)]
    exact ⟨μ, rfl, fun j hj => h j (by omega), y_Fx.rf⟩
  | succ d ih =>
    intro n i μ hi hn h
    obtain ⟨n, rfl⟩ : ∃ z, n = z + 1 := ⟨n - 1, by omega⟩
    have e : (6 ≤ iz (i : Int)) = (6 ≤ (i : Int)) := z_le32 (a := 6) (by omega) (by omega) (by omega) (by omega)
    have cl : (iz (i : Int)).toNatClampNeg = i := by rw [z_cl (by omega) (by omega)]; omega
    rw [L_X4_takeGreater_3, z_if e, if_neg (by omega), z_gd (z_ix (by omega) (by omega) (by omega)), cl, z_le, z_le, z_a1]
    obtain ⟨μ', f, a, F⟩ := ih n (i + 1) (q_sl μ 11 i 0) (by omega) (by omega) (fun j hj => by
      rw [z_sl2]
      by_cases e : j = i
      · rw [if_pos ⟨rfl, e⟩]; rfl
      · rw [if_neg (fun q => e q.2)]; exact h j (by omega))
    have F1 : y_Fx y_S1 μ (q_sl μ 11 i 0) := y_Fx.rf.sl rfl
    exact ⟨μ', f, a, F1.tr F⟩
theorem K_tg27 {σ : y_S} {b : Nat} (hb : b < 6) (w : y_WB σ) (wa : y_WA σ) (wn : 0 ≤ σ 0 3 ∧ σ 0 3 ≤ 5) {first way : Int} (hf : -200 ≤ first ∧ first ≤ 200) (hw : way = 1 ∨ way = -1) {B S : Nat} (hS : S ≤ 777600000) {x6 : Nat} (Kx : q_M → Option (Unit × q_M)) : ∀ (d n i : Nat) (sh : Nat → Int) (μ : q_M), i + d = (σ 0 3).toNat → d < n → y_RD σ μ → μ.2 4 7 = lz (S : Int) → y_Sh sh μ → y_E σ b B sh (σ 13 b).toNat = y_es σ b B S first way i → (∀ j, 0 ≤ sh j ∧ sh j ≤ 777600000000 * (i : Int)) → ∃ sh' μ', L_X4_takeGreater_27 (50 + b) (lz first) (iz (-way)) x6 Kx n (iz (i : Int)) μ = Kx μ' ∧ y_Sh sh' μ' ∧ y_E σ b B sh' (σ 13 b).toNat = y_es σ b B S first way (σ 0 3).toNat ∧ (∀ j, 0 ≤ sh' j ∧ sh' j ≤ 3888000000000) ∧ y_Fx y_S1 μ μ' := by
  intro d
  induction d with
  | zero =>
    intro n i sh μ hi hn h h7 hs hE hb2
    obtain ⟨n, rfl⟩ : ∃ z, n = z + 1 := ⟨n - 1, by omega⟩
    rw [L_X4_takeGreater_27, d_axles h, z_if (z_le32 (by omega) (by omega) (by omega) (by omega)), if_pos (by omega)]
    exact ⟨sh, μ, rfl, hs, by rw [hE, show i = (σ 0 3).toNat by omega], fun j => by have := hb2 j; omega, y_Fx.rf⟩
  | succ d ih =>
    intro n i sh μ hi hn h h7 hs hE hb2
    obtain ⟨n, rfl⟩ : ∃ z, n = z + 1 := ⟨n - 1, by omega⟩
    have ga := wa i (by omega)
    have cl : (iz (i : Int)).toNatClampNeg = i := by rw [z_cl (by omega) (by omega)]; omega
    have pe : lz first + (iz (-way)).toInt64 * lz (σ 17 i) = lz (first - way * σ 17 i) := by
      rcases hw with rfl | rfl
      · rw [z_64 (by omega) (by omega), z_mulL, z_addL]; congr 1; omega
      · rw [z_64 (by omega) (by omega), z_mulL, z_addL]; congr 1; omega
    have pb : -1000 ≤ first - way * σ 17 i ∧ first - way * σ 17 i ≤ 1000 := by
      rcases hw with rfl | rfl <;> omega
    rw [L_X4_takeGreater_27, d_axles h, z_if (z_le32 (by omega) (by omega) (by omega) (by omega)), if_neg (by omega), z_gd (z_ix (by omega) (by omega) (by omega)), cl, d_offsets h (by omega), d_loads h (by omega), pe]
    obtain ⟨sh1, μ1, f1, s1, e1, b1, F1⟩ := K_shareOut hb w pb ga.2 hS (B := B) h h7 hs
    rw [f1, z_bd, z_le, z_a1]
    obtain ⟨sh2, μ2, f2, s2, e2, b2, F2⟩ := ih n (i + 1) sh1 μ1 (by omega) (by omega) (F1.RD y_S1n h) (by rw [F1.2 4 (by unfold y_S1; omega)]; exact h7) s1 (by rw [e1, hE]; rfl) (fun j => by have := b1 j; have := hb2 j; omega)
    exact ⟨sh2, μ2, f2, s2, e2, b2, F1.tr F2⟩
def y_S2 (a : Nat) : Prop := a = 111 ∨ a = 112
theorem y_S2n : ∀ a, y_S2 a → ¬ y_cl a := by intro a ha hc; unfold y_S2 at ha; unfold y_cl at hc; omega
theorem K_tg86 {σ : y_S} {b : Nat} (hb : b < 6) (w : y_WB σ) {B : Nat} (hB : 1 ≤ B ∧ B ≤ 1000000000000000000) {sh : Nat → Int} (hsb : ∀ j, 0 ≤ sh j ∧ sh j ≤ 3888000000000) {x3 : Int64} {x5 : Int32} {x6 : Nat} (Kx : q_M → Option (Unit × q_M)) : ∀ (d n i R L : Nat) (μ : q_M), i + d = (σ 13 b).toNat → d < n → y_RD σ μ → μ.2 4 6 = lz (B : Int) → y_Sh sh μ → y_Wd μ 95 R → y_Wd μ 96 L → ((R : Int) - (L : Int) = y_E σ b B sh i) → R ≤ 10000000000000000000000000000000000 * i → L ≤ 10000000000000000000000000000000000 * i → ∃ R' L' μ', L_X4_takeGreater_86 (50 + b) x3 x5 x6 Kx n (iz (i : Int)) μ = Kx μ' ∧ y_Wd μ' 95 R' ∧ y_Wd μ' 96 L' ∧ ((R' : Int) - (L' : Int) = y_E σ b B sh (σ 13 b).toNat) ∧ y_Fx y_S2 μ μ' := by
  have gb := (w b hb).1
  intro d
  induction d with
  | zero =>
    intro n i R L μ hi hn h h6 hs hR hL hE r1 r2
    obtain ⟨n, rfl⟩ : ∃ z, n = z + 1 := ⟨n - 1, by omega⟩
    rw [L_X4_takeGreater_86, d_cornerCounts h hb, z_if (z_le32 (by omega) (by omega) (by omega) (by omega)), if_pos (by omega)]
    exact ⟨R, L, μ, rfl, hR, hL, by rw [hE, show i = (σ 13 b).toNat by omega], y_Fx.rf⟩
  | succ d ih =>
    intro n i R L μ hi hn h h6 hs hR hL hE r1 r2
    obtain ⟨n, rfl⟩ : ∃ z, n = z + 1 := ⟨n - 1, by omega⟩
    have hc : (i : Int) < σ 13 b := by omega
    have gk := (w b hb).2.1 i hc
    have cl : (iz (i : Int)).toNatClampNeg = i := by rw [z_cl (by omega) (by omega)]; omega
    have c0 : (0 ≤ lg_cmp (lz (σ 15 (6 * b + i))) 0) = (0 ≤ σ 15 (6 * b + i)) := (z_c3 _ _).trans (z_le64 (a := 0) (by omega) (by omega) (by omega) (by omega))
    rw [L_X4_takeGreater_86, d_cornerCounts h hb, z_if (z_le32 (by omega) (by omega) (by omega) (by omega)), if_neg (by omega), z_gd (z_ix (by omega) (by omega) (by omega)), cl, d_above h hb (by omega), z_if c0]
    unfold J_X4_takeGreater_118
    have eb : σ 16 (6 * b + i) = (((σ 16 (6 * b + i)).toNat : Nat) : Int) := by omega
    have qd := Nat.div_le_self B (σ 16 (6 * b + i)).toNat
    have Q := K_quotient (a := B) (b := (σ 16 (6 * b + i)).toNat) (by omega) (by omega) (by omega) μ
    rw [← eb] at Q
    rw [z_gd (z_ix (by omega) (by omega) (by omega)), z_gd (z_ix (by omega) (by omega) (by omega)), cl, h6, d_below h hb (by omega), d_above h hb (by omega), Q, z_bd, z_bd, hs i (by omega)]
    simp only [z_le, z_a1]
    have sb := hsb i
    have eu : y_E σ b B sh (i + 1) = y_E σ b B sh i + sh i * σ 15 (6 * b + i) * ((B : Int) / σ 16 (6 * b + i)) := rfl
    have ed : ((B / (σ 16 (6 * b + i)).toNat : Nat) : Int) = (B : Int) / σ 16 (6 * b + i) := by rw [Int.natCast_ediv, ← eb]
    by_cases p : 0 ≤ σ 15 (6 * b + i)
    · rw [if_pos p]
      have ab : (if 0 < lz (σ 15 (6 * b + i)) then lz (σ 15 (6 * b + i)) else -lz (σ 15 (6 * b + i))) = lz (σ 15 (6 * b + i)) := by
        rw [z_if (show (0 < lz (σ 15 (6 * b + i))) = (0 < σ 15 (6 * b + i)) from z_lt64 (a := 0) (by omega) (by omega) (by omega) (by omega))]
        by_cases q : 0 < σ 15 (6 * b + i)
        · rw [if_pos q]
        · rw [if_neg q, z_negL, show σ 15 (6 * b + i) = 0 by omega]; rfl
      have mb : 0 ≤ sh i * σ 15 (6 * b + i) ∧ sh i * σ 15 (6 * b + i) ≤ 3888000000000 * 1000 := ⟨Int.mul_nonneg sb.1 p, Int.mul_le_mul sb.2 (by omega) p (by omega)⟩
      have em : sh i * σ 15 (6 * b + i) = (((sh i * σ 15 (6 * b + i)).toNat : Nat) : Int) := by omega
      rw [ab, z_mulL]
      generalize hm : (sh i * σ 15 (6 * b + i)).toNat = M at *
      rw [em]
      have MB : M * (B / (σ 16 (6 * b + i)).toNat) ≤ 3888000000000000 * 1000000000000000000 := Nat.mul_le_mul (by omega) (by omega)
      obtain ⟨μ1, f1, w1, F1⟩ := K_addProduct (k := 95) (a := M) (b := B / (σ 16 (6 * b + i)).toNat) (by omega) (by omega) hR (by omega)
      rw [f1, z_bd]
      have F1x : y_Fx y_S2 μ μ1 := F1.Fx (Or.inl rfl)
      obtain ⟨R', L', μ', f, a1, a2, a3, F⟩ := ih n (i + 1) _ L μ1 (by omega) (by omega) (F1x.RD y_S2n h) (by rw [F1.2 4 (by omega)]; exact h6) (fun j hj => by rw [F1.2 11 (by omega)]; exact hs j hj) w1 (F1.Wd (by decide) hL) (by rw [eu, em, Int.natCast_add, Int.natCast_mul, ed]; omega) (by omega) (by omega)
      exact ⟨R', L', μ', f, a1, a2, a3, F1x.tr F⟩
    · rw [if_neg p]
      have ab : (if 0 < lz (σ 15 (6 * b + i)) then lz (σ 15 (6 * b + i)) else -lz (σ 15 (6 * b + i))) = lz (-(σ 15 (6 * b + i))) := by
        rw [z_if (show (0 < lz (σ 15 (6 * b + i))) = (0 < σ 15 (6 * b + i)) from z_lt64 (a := 0) (by omega) (by omega) (by omega) (by omega)), if_neg (by omega), z_negL]
      have mb : 0 ≤ sh i * -(σ 15 (6 * b + i)) ∧ sh i * -(σ 15 (6 * b + i)) ≤ 3888000000000 * 1000 := ⟨Int.mul_nonneg sb.1 (by omega), Int.mul_le_mul sb.2 (by omega) (by omega) (by omega)⟩
      have em : sh i * -(σ 15 (6 * b + i)) = (((sh i * -(σ 15 (6 * b + i))).toNat : Nat) : Int) := by omega
      have en : sh i * σ 15 (6 * b + i) = -(((sh i * -(σ 15 (6 * b + i))).toNat : Nat) : Int) := by rw [← em, Int.mul_neg, Int.neg_neg]
      rw [ab, z_mulL]
      generalize hm : (sh i * -(σ 15 (6 * b + i))).toNat = M at *
      rw [em]
      have MB : M * (B / (σ 16 (6 * b + i)).toNat) ≤ 3888000000000000 * 1000000000000000000 := Nat.mul_le_mul (by omega) (by omega)
      obtain ⟨μ1, f1, w1, F1⟩ := K_addProduct (k := 96) (a := M) (b := B / (σ 16 (6 * b + i)).toNat) (by omega) (by omega) hL (by omega)
      rw [f1, z_bd]
      have F1x : y_Fx y_S2 μ μ1 := F1.Fx (Or.inr rfl)
      obtain ⟨R', L', μ', f, a1, a2, a3, F⟩ := ih n (i + 1) R _ μ1 (by omega) (by omega) (F1x.RD y_S2n h) (by rw [F1.2 4 (by omega)]; exact h6) (fun j hj => by rw [F1.2 11 (by omega)]; exact hs j hj) (F1.Wd (by decide) hR) w1 (by rw [eu, en, Int.natCast_add, Int.natCast_mul, ed, Int.neg_mul]; omega) (by omega) (by omega)
      exact ⟨R', L', μ', f, a1, a2, a3, F1x.tr F⟩
def y_S3 (x6 a : Nat) : Prop := a = 11 ∨ a = 111 ∨ a = 112 ∨ a = x6 + 16
theorem K_takeGreater {σ : y_S} {b : Nat} (hb : b < 6) (w : y_WB σ) (wa : y_WA σ) (wn : 0 ≤ σ 0 3 ∧ σ 0 3 ≤ 5) {first way : Int} (hf : -200 ≤ first ∧ first ≤ 200) (hw : way = 1 ∨ way = -1) {B S : Nat} (hB : 1 ≤ B ∧ B ≤ 1000000000000000000) (hS : S ≤ 777600000) {x6 : Nat} (hx : 81 ≤ x6 ∧ x6 < 95) {T : Nat} {μ : q_M} (h : y_RD σ μ) (h6 : μ.2 4 6 = lz (B : Int)) (h7 : μ.2 4 7 = lz (S : Int)) (hT : y_Wd μ x6 T) : ∃ T' μ', f_X4_takeGreater (50 + b) (lz first) (iz (-way)) x6 μ = some ((), μ') ∧ y_Wd μ' x6 T' ∧ (T' : Int) = y_mx (T : Int) (y_es σ b B S first way (σ 0 3).toNat) ∧ y_Fx (y_S3 x6) μ μ' := by
  have gb := (w b hb).1
  have nS : ∀ a, y_S3 x6 a → ¬ y_cl a := by intro a ha hc; unfold y_S3 at ha; unfold y_cl at hc; omega
  unfold f_X4_takeGreater
  obtain ⟨μ1, f1, s1, F1⟩ := K_tg3 (x1 := 50 + b) (x3 := lz first) (x5 := iz (-way)) (x6 := x6) (fun μ => L_X4_takeGreater_27 (50 + b) (lz first) (iz (-way)) x6 (fun μ => q_bd (f_X8_setTo 95 0 μ) (fun u10 μ10 => q_bd (f_X8_setTo 96 0 μ10) (fun u12 μ12 => L_X4_takeGreater_86 (50 + b) (lz first) (iz (-way)) x6 (fun μ => q_bd (f_X8_compareWith 95 96 μ) (fun r26 μ24 => (if 0 ≤ r26 then q_bd (f_X8_subtract 95 96 μ24) (fun u28 μ28 => q_bd (f_X8_compareWith 95 x6 μ28) (fun r32 μ30 => (if r32 ≤ 0 then some ((), μ30) else q_bd (f_X8_copyFrom x6 95 μ30) (fun u34 μ34 => some ((), μ34))))) else some ((), μ24)))) q_fu 0 μ12))) q_fu 0 μ) 6 q_fu 0 μ (by omega) (by rw [z_fu]; omega) (fun j hj => by omega)
  rw [show iz ((0 : Nat) : Int) = (0 : Int32) from rfl] at f1
  rw [f1]
  have G1 : y_Fx (y_S3 x6) μ μ1 := F1.mono (fun a ha => Or.inl ha)
  have E0 : ∀ n, y_E σ b B (fun _ => 0) n = 0 := by
    intro n
    induction n with
    | zero => rfl
    | succ n ih => unfold y_E; rw [ih, Int.zero_mul, Int.zero_mul]; rfl
  obtain ⟨sh, μ2, f2, s2, e2, b2, F2⟩ := K_tg27 hb w wa wn hf hw (B := B) (S := S) hS (x6 := x6) (fun μ => q_bd (f_X8_setTo 95 0 μ) (fun u10 μ10 => q_bd (f_X8_setTo 96 0 μ10) (fun u12 μ12 => L_X4_takeGreater_86 (50 + b) (lz first) (iz (-way)) x6 (fun μ => q_bd (f_X8_compareWith 95 96 μ) (fun r26 μ24 => (if 0 ≤ r26 then q_bd (f_X8_subtract 95 96 μ24) (fun u28 μ28 => q_bd (f_X8_compareWith 95 x6 μ28) (fun r32 μ30 => (if r32 ≤ 0 then some ((), μ30) else q_bd (f_X8_copyFrom x6 95 μ30) (fun u34 μ34 => some ((), μ34))))) else some ((), μ24)))) q_fu 0 μ12))) (σ 0 3).toNat q_fu 0 (fun _ => 0) μ1 (by omega) (by rw [z_fu]; omega) (G1.RD nS h) (by rw [F1.2 4 (by unfold y_S1; omega)]; exact h7) s1 (by rw [E0]; rfl) (fun j => by omega)
  rw [show iz ((0 : Nat) : Int) = (0 : Int32) from rfl] at f2
  rw [f2]
  have G2 : y_Fx (y_S3 x6) μ μ2 := G1.tr (F2.mono (fun a ha => Or.inl ha))
  obtain ⟨μ3, f3, w3, F3⟩ := K_setTo (k := 95) (v := 0) (by omega) μ2
  rw [show f_X8_setTo 95 0 μ2 = _ from f3, z_bd]
  obtain ⟨μ4, f4, w4, F4⟩ := K_setTo (k := 96) (v := 0) (by omega) μ3
  rw [show f_X8_setTo 96 0 μ3 = _ from f4, z_bd]
  have G3 : y_Fx (y_S3 x6) μ μ3 := G2.tr (F3.Fx (Or.inr (Or.inl rfl)))
  have G4 : y_Fx (y_S3 x6) μ μ4 := G3.tr (F4.Fx (Or.inr (Or.inr (Or.inl rfl))))
  have n4 : ¬ y_S3 x6 4 := by unfold y_S3; omega
  have nx : ∀ m, m ≠ 95 → m ≠ 96 → m ≠ x6 → 81 ≤ m → ¬ y_S3 x6 (m + 16) := by intro m a b c d; unfold y_S3; omega
  obtain ⟨R, L, μ5, f5, w5, w6, e5, F5⟩ := K_tg86 hb w hB b2 (x3 := lz first) (x5 := iz (-way)) (x6 := x6) (fun μ => q_bd (f_X8_compareWith 95 96 μ) (fun r26 μ24 => (if 0 ≤ r26 then q_bd (f_X8_subtract 95 96 μ24) (fun u28 μ28 => q_bd (f_X8_compareWith 95 x6 μ28) (fun r32 μ30 => (if r32 ≤ 0 then some ((), μ30) else q_bd (f_X8_copyFrom x6 95 μ30) (fun u34 μ34 => some ((), μ34))))) else some ((), μ24)))) (σ 13 b).toNat q_fu 0 0 0 μ4 (by omega) (by rw [z_fu]; omega) (G4.RD nS h) (by rw [G4.2 4 n4]; exact h6) (fun j hj => by rw [F4.2 11 (by omega), F3.2 11 (by omega)]; exact s2 j hj) (F4.Wd (by decide) w3) w4 rfl (by omega) (by omega)
  rw [show iz ((0 : Nat) : Int) = (0 : Int32) from rfl] at f5
  rw [f5]
  have G5 : y_Fx (y_S3 x6) μ μ5 := G4.tr (F5.mono (fun a ha => by unfold y_S2 at ha; unfold y_S3; omega))
  rw [e2] at e5
  have T5 : y_Wd μ5 x6 T := by
    refine F5.Wd (by unfold y_S2; omega) (F4.Wd (by omega) (F3.Wd (by omega) ?_))
    refine F2.Wd (by unfold y_S1; omega) (F1.Wd (by unfold y_S1; omega) hT)
  rw [K_compareWith w5 w6, z_bd]
  have sg : (0 ≤ iz (y_sg R L)) = (L ≤ R) := by
    rw [z_0le (by unfold y_sg; split <;> (try split) <;> omega) (by unfold y_sg; split <;> (try split) <;> omega)]
    refine propext ⟨fun q => ?_, fun q => ?_⟩
    · unfold y_sg at q
      by_cases c : R < L
      · rw [if_pos c] at q; omega
      · omega
    · unfold y_sg
      rw [if_neg (by omega)]; split <;> omega
  rw [z_if sg]
  unfold y_mx
  by_cases c : L ≤ R
  · rw [if_pos c]
    obtain ⟨μ6, f6, w7, F6⟩ := K_subtract (k := 95) (m := 96) (by decide) c w5 w6
    rw [f6, z_bd]
    have T6 := F6.Wd (show x6 ≠ 95 by omega) T5
    have G6 : y_Fx (y_S3 x6) μ μ6 := G5.tr (F6.Fx (Or.inr (Or.inl rfl)))
    rw [K_compareWith w7 T6, z_bd]
    have sg2 : (iz (y_sg (R - L) T) ≤ 0) = (R - L ≤ T) := by
      rw [z_le0 (by unfold y_sg; split <;> (try split) <;> omega) (by unfold y_sg; split <;> (try split) <;> omega)]
      refine propext ⟨fun q => ?_, fun q => ?_⟩
      · unfold y_sg at q
        by_cases c1 : R - L < T
        · omega
        · rw [if_neg c1] at q
          by_cases c2 : T < R - L
          · rw [if_pos c2] at q; omega
          · omega
      · unfold y_sg
        split
        · omega
        · rw [if_neg (by omega)]; omega
    rw [z_if sg2]
    by_cases c2 : R - L ≤ T
    · rw [if_pos c2]
      refine ⟨T, μ6, rfl, T6, ?_, G6⟩
      rw [if_neg (by omega)]
    · rw [if_neg c2]
      obtain ⟨μ7, f7, w8, F7⟩ := K_copyFrom (k := x6) (m := 95) (by omega) w7
      rw [f7, z_bd]
      refine ⟨R - L, μ7, rfl, w8, ?_, G6.tr (F7.Fx (Or.inr (Or.inr (Or.inr rfl))))⟩
      rw [if_pos (by omega)]
      omega
  · rw [if_neg c]
    refine ⟨T, μ5, rfl, T5, ?_, G5⟩
    rw [if_neg (by omega)]
