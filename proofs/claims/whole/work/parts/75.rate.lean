def y_Pf (f : Nat → Nat) : Nat → Nat
  | 0 => 1
  | n + 1 => y_Pf f n * f n
def y_Pr (f : Nat → Nat) : Nat → Nat → Nat
  | 0, _ => 1
  | d + 1, i => f i * y_Pr f d (i + 1)
theorem y_Pf_add (f : Nat → Nat) : ∀ (d i : Nat), y_Pf f (i + d) = y_Pf f i * y_Pr f d i := by
  intro d
  induction d with
  | zero => intro i; exact (Nat.mul_one _).symm
  | succ d ih =>
    intro i
    rw [show i + (d + 1) = i + 1 + d by omega, ih (i + 1)]
    show y_Pf f i * f i * _ = _
    rw [Nat.mul_assoc]; rfl
theorem y_Pf_LB (σ : y_S) (b : Nat) : ∀ k, y_LB σ b k = y_Pf (y_vf σ b) k := by
  intro k
  induction k with
  | zero => rfl
  | succ k ih => rw [y_LB_s, ih]; rfl
theorem y_Pf_GS {σ : y_S} {b : Nat} : ∀ k : Nat, (k : Int) ≤ σ 13 b → y_GS σ b k = y_Pf (y_gf σ b) k := by
  intro k
  induction k with
  | zero => intro _; rw [y_GS_0]; rfl
  | succ k ih => intro h; rw [y_GS_s (by omega), ih (by omega)]; rfl
def y_S4 (x0 a : Nat) : Prop := a = x0 + 7 + 16 ∨ a = x0 + 14 + 16
theorem K_redl {x0 x1 : Nat} (hx0 : 74 ≤ x0 ∧ x0 ≤ 80) (hx1 : x1 = 12 ∨ x1 = 13) {cc : Nat} (hcc : cc ≤ 6) {f : Nat → Nat} (hf : ∀ k, k < cc → 1 ≤ f k ∧ f k ≤ 1000) (Kx : q_M → Option (Unit × q_M)) : ∀ (d n i U L : Nat) (μ : q_M), i + d = cc → d < n → (∀ k, k < cc → μ.2 x1 k = lz ((f k : Nat) : Int)) → y_Wd μ (x0 + 7) U → y_Wd μ (x0 + 14) L → Nat.gcd U L = 1 → 1 ≤ L → L * y_Pr f d i < 1000000000000000000000000000000000 → ∃ U' L' c μ', L_X4_reduce_2 x0 x1 (iz (cc : Int)) Kx n (iz (i : Int)) μ = Kx μ' ∧ y_Wd μ' (x0 + 7) U' ∧ y_Wd μ' (x0 + 14) L' ∧ Nat.gcd U' L' = 1 ∧ 0 < c ∧ 1 ≤ L' ∧ U = U' * c ∧ L * y_Pr f d i = L' * c ∧ y_Fx (y_S4 x0) μ μ' := by
  intro d
  induction d with
  | zero =>
    intro n i U L μ hi hn hm hU hL hg hl hb
    obtain ⟨n, rfl⟩ : ∃ z, n = z + 1 := ⟨n - 1, by omega⟩
    rw [L_X4_reduce_2, z_if (z_le32 (by omega) (by omega) (by omega) (by omega)), if_pos (by omega)]
    exact ⟨U, L, 1, μ, rfl, hU, hL, hg, by omega, hl, by omega, rfl, y_Fx.rf⟩
  | succ d ih =>
    intro n i U L μ hi hn hm hU hL hg hl hb
    obtain ⟨n, rfl⟩ : ∃ z, n = z + 1 := ⟨n - 1, by omega⟩
    have cl : (iz (i : Int)).toNatClampNeg = i := by rw [z_cl (by omega) (by omega)]; omega
    have fb := hf i (by omega)
    have eq6 : q_len x1 = 6 := by rcases hx1 with rfl | rfl <;> rfl
    have e6 : (Int32.ofNat 6 ≤ iz (i : Int)) = (6 ≤ (i : Int)) := z_le32 (a := 6) (by omega) (by omega) (by omega) (by omega)
    rw [L_X4_reduce_2, z_if (z_le32 (by omega) (by omega) (by omega) (by omega)), if_neg (by omega), eq6, z_if e6, if_neg (by omega), z_gd (z_ix (by omega) (by omega) (by omega)), cl, hm i (by omega), K_remainder (by omega) (by omega) hU, z_bd]
    have ml := Nat.mod_lt U (show 0 < f i by omega)
    rw [K_commonDivisor (by omega) (by omega) (by omega), z_bd]
    have eg : Nat.gcd (f i) (U % f i) = Nat.gcd U (f i) := by rw [Nat.gcd_comm, ← Nat.gcd_rec, Nat.gcd_comm]
    rw [eg]
    have g0 : 0 < Nat.gcd U (f i) := Nat.gcd_pos_of_pos_right U (by omega)
    have g1 : Nat.gcd U (f i) ≤ f i := Nat.le_of_dvd (by omega) (Nat.gcd_dvd_right U (f i))
    have cop : Nat.gcd (U / Nat.gcd U (f i)) (f i / Nat.gcd U (f i)) = 1 := Nat.coprime_div_gcd_div_gcd g0
    have d1 : U = U / Nat.gcd U (f i) * Nat.gcd U (f i) := (Nat.div_mul_cancel (Nat.gcd_dvd_left U (f i))).symm
    have d2 : f i = f i / Nat.gcd U (f i) * Nat.gcd U (f i) := (Nat.div_mul_cancel (Nat.gcd_dvd_right U (f i))).symm
    generalize Nat.gcd U (f i) = g at *
    obtain ⟨μ1, f1, w1, F1⟩ := K_divideW (k := x0 + 7) (dv := g) (by omega) (by omega) hU
    rw [f1, z_bd]
    have h12 : ∀ k, k < cc → μ1.2 x1 k = lz ((f k : Nat) : Int) := fun k hk => by rw [F1.2 x1 (by omega)]; exact hm k hk
    rw [h12 i (by omega), K_quotient (by omega) (by omega) (by omega), z_bd]
    have q1 := Nat.div_le_self (f i) g
    have L1 := F1.Wd (show x0 + 14 ≠ x0 + 7 by omega) hL
    have cop2 : Nat.gcd (U / g) L = 1 := Nat.Coprime.coprime_dvd_left (Nat.div_dvd_of_dvd ⟨U / g, by rw [Nat.mul_comm]; exact d1⟩) hg
    have fp : 1 ≤ f i / g := Nat.pos_of_ne_zero (fun q => by rw [q, Nat.zero_mul] at d2; omega)
    have unf : y_Pr f (d + 1) i = f i * y_Pr f d (i + 1) := rfl
    have pb : L * (f i / g) * y_Pr f d (i + 1) ≤ L * y_Pr f (d + 1) i := by
      rw [unf, Nat.mul_assoc]
      exact Nat.mul_le_mul_left L (Nat.mul_le_mul_right _ q1)
    have lp : L * (f i / g) < 1000000000000000000000000000000000000 := by
      have a : f i / g ≤ 1000 := by omega
      have b := Nat.mul_le_mul_left L a
      have c := hL.2
      by_cases z : 1 ≤ y_Pr f d (i + 1)
      · have := Nat.le_mul_of_pos_right (L * (f i / g)) z
        omega
      · exfalso
        have key : ∀ (d i : Nat), i + d ≤ cc → 1 ≤ y_Pr f d i := by
          intro d
          induction d with
          | zero => intro i _; exact Nat.le_refl 1
          | succ d ihd =>
            intro i hi
            exact Nat.mul_pos (hf i (by omega)).1 (ihd (i + 1) (by omega))
        exact z (key d (i + 1) (by omega))
    obtain ⟨μ2, f2, w2, F2⟩ := K_multiply (k := x0 + 14) (f := f i / g) (by omega) lp L1
    rw [f2, z_bd, z_le, z_a1]
    have G : y_Fx (y_S4 x0) μ μ2 := (F1.Fx (Or.inl rfl)).tr (F2.Fx (Or.inr rfl))
    obtain ⟨U', L', c, μ', ff, a1, a2, a3, a4, a5, a6, a7, F⟩ := ih n (i + 1) (U / g) (L * (f i / g)) μ2 (by omega) (by omega) (fun k hk => by rw [F2.2 x1 (by omega)]; exact h12 k hk) (F2.Wd (by omega) w1) w2 (Nat.Coprime.mul_right cop2 cop) (Nat.mul_pos hl fp) (by omega)
    refine ⟨U', L', c * g, μ', ff, a1, a2, a3, Nat.mul_pos a4 (by omega), a5, ?_, ?_, G.tr F⟩
    · rw [← Nat.mul_assoc, ← a6]; exact d1
    · rw [← Nat.mul_assoc, ← a7, unf]
      conv => lhs; rw [d2]
      rw [← Nat.mul_assoc, ← Nat.mul_assoc, Nat.mul_right_comm]
theorem K_reduce {x0 x1 : Nat} (hx0 : 74 ≤ x0 ∧ x0 ≤ 80) (hx1 : x1 = 12 ∨ x1 = 13) {cc : Nat} (hcc : cc ≤ 6) {f : Nat → Nat} (hf : ∀ k, k < cc → 1 ≤ f k ∧ f k ≤ 1000) {U L : Nat} {μ : q_M} (hm : ∀ k, k < cc → μ.2 x1 k = lz ((f k : Nat) : Int)) (hU : y_Wd μ (x0 + 7) U) (hL : y_Wd μ (x0 + 14) L) (hg : Nat.gcd U L = 1) (hl : 1 ≤ L) (hb : L * y_Pf f cc < 1000000000000000000000000000000000) : ∃ U' L' c μ', f_X4_reduce x0 x1 (iz (cc : Int)) μ = some ((), μ') ∧ y_Wd μ' (x0 + 7) U' ∧ y_Wd μ' (x0 + 14) L' ∧ Nat.gcd U' L' = 1 ∧ 0 < c ∧ 1 ≤ L' ∧ U = U' * c ∧ L * y_Pf f cc = L' * c ∧ y_Fx (y_S4 x0) μ μ' := by
  have e : y_Pf f cc = y_Pr f cc 0 := by
    have := y_Pf_add f cc 0
    rw [Nat.zero_add] at this
    rw [this]
    exact Nat.one_mul _
  rw [e] at hb ⊢
  unfold f_X4_reduce
  exact K_redl hx0 hx1 hcc hf (fun μ => some ((), μ)) cc q_fu 0 U L μ (by omega) (by rw [z_fu]; omega) hm hU hL hg hl hb
theorem y_mx1 (a b : Int) : a ≤ y_mx a b ∧ b ≤ y_mx a b ∧ (y_mx a b = a ∨ y_mx a b = b) := by
  unfold y_mx; split <;> omega
def y_e1 (σ : y_S) (b : Nat) (B S : Int) (k i : Nat) : Int := y_es σ b B S (σ 14 (6 * b + k) + σ 17 i) 1 (σ 0 3).toNat
def y_e2 (σ : y_S) (b : Nat) (B S : Int) (k i : Nat) : Int := y_es σ b B S (σ 14 (6 * b + k) - σ 17 i) (-1) (σ 0 3).toNat
def y_fm (σ : y_S) (b : Nat) (B S T : Int) : Prop := T = 0 ∨ ∃ k i : Nat, (k : Int) < σ 13 b ∧ (i : Int) < σ 0 3 ∧ (T = y_e1 σ b B S k i ∨ T = y_e2 σ b B S k i)
theorem y_fm_mx {σ : y_S} {b : Nat} {B S T : Int} {k i : Nat} (hk : (k : Int) < σ 13 b) (hi : (i : Int) < σ 0 3) (h : y_fm σ b B S T) : y_fm σ b B S (y_mx T (y_e1 σ b B S k i)) ∧ y_fm σ b B S (y_mx T (y_e2 σ b B S k i)) := by
  constructor
  · rcases (y_mx1 T (y_e1 σ b B S k i)).2.2 with e | e
    · rw [e]; exact h
    · exact Or.inr ⟨k, i, hk, hi, Or.inl e⟩
  · rcases (y_mx1 T (y_e2 σ b B S k i)).2.2 with e | e
    · rw [e]; exact h
    · exact Or.inr ⟨k, i, hk, hi, Or.inr e⟩
theorem y_t1_sp {σ : y_S} {b : Nat} {B S : Int} {k : Nat} (hk : (k : Int) < σ 13 b) {t : Int} (ht : y_fm σ b B S t) : ∀ n : Nat, (n : Int) ≤ σ 0 3 → t ≤ y_t1 σ b B S k n t ∧ (∀ i, i < n → y_e1 σ b B S k i ≤ y_t1 σ b B S k n t ∧ y_e2 σ b B S k i ≤ y_t1 σ b B S k n t) ∧ y_fm σ b B S (y_t1 σ b B S k n t) := by
  intro n
  induction n with
  | zero => intro _; exact ⟨Int.le_refl _, fun i hi => by omega, ht⟩
  | succ n ih =>
    intro hn
    obtain ⟨a, b1, c⟩ := ih (by omega)
    have e : y_t1 σ b B S k (n + 1) t = y_mx (y_mx (y_t1 σ b B S k n t) (y_e1 σ b B S k n)) (y_e2 σ b B S k n) := rfl
    rw [e]
    have m1 := y_mx1 (y_t1 σ b B S k n t) (y_e1 σ b B S k n)
    have m2 := y_mx1 (y_mx (y_t1 σ b B S k n t) (y_e1 σ b B S k n)) (y_e2 σ b B S k n)
    have f1 := (y_fm_mx hk (i := n) (by omega) c).1
    have f2 := (y_fm_mx hk (i := n) (by omega) f1).2
    refine ⟨by omega, fun i hi => ?_, f2⟩
    by_cases q : i = n
    · subst q; omega
    · have := b1 i (by omega); omega
theorem y_t2_sp {σ : y_S} {b : Nat} {B S : Int} (w3 : 0 ≤ σ 0 3) : ∀ n : Nat, (n : Int) ≤ σ 13 b → 0 ≤ y_t2 σ b B S n ∧ (∀ k i : Nat, k < n → (i : Int) < σ 0 3 → y_e1 σ b B S k i ≤ y_t2 σ b B S n ∧ y_e2 σ b B S k i ≤ y_t2 σ b B S n) ∧ y_fm σ b B S (y_t2 σ b B S n) := by
  intro n
  induction n with
  | zero => intro _; exact ⟨Int.le_refl _, fun k i hk => by omega, Or.inl rfl⟩
  | succ n ih =>
    intro hn
    obtain ⟨a, b1, c⟩ := ih (by omega)
    have e : y_t2 σ b B S (n + 1) = y_t1 σ b B S n (σ 0 3).toNat (y_t2 σ b B S n) := rfl
    rw [e]
    obtain ⟨p, q, r⟩ := y_t1_sp (k := n) (by omega) c (σ 0 3).toNat (by omega)
    refine ⟨by omega, fun k i hk hi => ?_, r⟩
    by_cases e : k = n
    · subst e; exact q i (by omega)
    · have := b1 k i (by omega) hi; omega
theorem y_t_uni {σ : y_S} {b : Nat} {B S T : Int} (w3 : 0 ≤ σ 0 3) (wc : 0 ≤ σ 13 b) (h0 : 0 ≤ T) (h1 : ∀ k i : Nat, (k : Int) < σ 13 b → (i : Int) < σ 0 3 → y_e1 σ b B S k i ≤ T ∧ y_e2 σ b B S k i ≤ T) (h2 : y_fm σ b B S T) : T = y_t2 σ b B S (σ 13 b).toNat := by
  obtain ⟨a, b1, c⟩ := y_t2_sp (b := b) (B := B) (S := S) w3 (σ 13 b).toNat (by omega)
  have le1 : T ≤ y_t2 σ b B S (σ 13 b).toNat := by
    rcases h2 with e | ⟨k, i, hk, hi, e | e⟩
    · omega
    · rw [e]; exact (b1 k i (by omega) hi).1
    · rw [e]; exact (b1 k i (by omega) hi).2
  have le2 : y_t2 σ b B S (σ 13 b).toNat ≤ T := by
    rcases c with e | ⟨k, i, hk, hi, e | e⟩
    · omega
    · rw [e]; exact (h1 k i hk hi).1
    · rw [e]; exact (h1 k i hk hi).2
  omega
theorem K_rt36 {σ : y_S} {b : Nat} (hb : b < 6) (w : y_WB σ) (wa : y_WA σ) (wn : 0 ≤ σ 0 3 ∧ σ 0 3 ≤ 5) {B S : Nat} (hB : 1 ≤ B ∧ B ≤ 1000000000000000000) (hS : S ≤ 777600000) {x3 : Nat} (hx : 74 ≤ x3 ∧ x3 ≤ 80) {i : Nat} (hi : (i : Int) < σ 0 3) (Kx : Int32 → q_M → Option (Unit × q_M)) : ∀ (d n k T : Nat) (μ : q_M), k + d = (σ 13 b).toNat → d < n → y_RD σ μ → μ.2 4 6 = lz (B : Int) → μ.2 4 7 = lz (S : Int) → y_Wd μ (x3 + 7) T → y_fm σ b B S T → ∃ T' μ', L_X4_rate_36 (50 + b) x3 Kx n (iz (i : Int)) (iz (k : Int)) μ = Kx (iz (i : Int)) μ' ∧ y_Wd μ' (x3 + 7) T' ∧ T ≤ T' ∧ (∀ j : Nat, k ≤ j → (j : Int) < σ 13 b → y_e1 σ b B S j i ≤ T' ∧ y_e2 σ b B S j i ≤ T') ∧ y_fm σ b B S T' ∧ y_Fx (y_S3 (x3 + 7)) μ μ' := by
  have gb := (w b hb).1
  have nS : ∀ a, y_S3 (x3 + 7) a → ¬ y_cl a := by intro a ha hc; unfold y_S3 at ha; unfold y_cl at hc; omega
  have n4 : ¬ y_S3 (x3 + 7) 4 := by unfold y_S3; omega
  intro d
  induction d with
  | zero =>
    intro n k T μ hk hn h h6 h7 hT hf
    obtain ⟨n, rfl⟩ : ∃ z, n = z + 1 := ⟨n - 1, by omega⟩
    rw [L_X4_rate_36, d_cornerCounts h hb, z_if (z_le32 (by omega) (by omega) (by omega) (by omega)), if_pos (by omega)]
    exact ⟨T, μ, rfl, hT, Nat.le_refl T, fun j h1 h2 => by omega, hf, y_Fx.rf⟩
  | succ d ih =>
    intro n k T μ hk hn h h6 h7 hT hf
    obtain ⟨n, rfl⟩ : ∃ z, n = z + 1 := ⟨n - 1, by omega⟩
    have hk2 : (k : Int) < σ 13 b := by omega
    have gk := ((w b hb).2.1 k hk2).1
    have ga := (wa i hi).1
    have cl : (iz (k : Int)).toNatClampNeg = k := by rw [z_cl (by omega) (by omega)]; omega
    have cli : (iz (i : Int)).toNatClampNeg = i := by rw [z_cl (by omega) (by omega)]; omega
    rw [L_X4_rate_36, d_cornerCounts h hb, z_if (z_le32 (by omega) (by omega) (by omega) (by omega)), if_neg (by omega), z_gd (z_ix (by omega) (by omega) (by omega)), z_gd (z_ix (by omega) (by omega) (by omega)), cl, cli, d_at h hb (by omega), d_offsets h (by omega), z_addL]
    obtain ⟨T1, μ1, f1, w1, e1, F1⟩ := K_takeGreater hb w wa wn (first := σ 14 (6 * b + k) + σ 17 i) (way := 1) (by omega) (Or.inl rfl) hB hS (x6 := x3 + 7) (by omega) h h6 h7 hT
    have f1 : f_X4_takeGreater (50 + b) (lz (σ 14 (6 * b + k) + σ 17 i)) (-1) (x3 + 7) μ = some ((), μ1) := f1
    have h1 := F1.RD nS h
    rw [f1, z_bd, d_at h1 hb (by omega), d_offsets h1 (by omega), z_subL]
    obtain ⟨T2, μ2, f2, w2, e2, F2⟩ := K_takeGreater hb w wa wn (first := σ 14 (6 * b + k) - σ 17 i) (way := -1) (by omega) (Or.inr rfl) hB hS (x6 := x3 + 7) (by omega) h1 (by rw [F1.2 4 n4]; exact h6) (by rw [F1.2 4 n4]; exact h7) w1
    have f2 : f_X4_takeGreater (50 + b) (lz (σ 14 (6 * b + k) - σ 17 i)) 1 (x3 + 7) μ1 = some ((), μ2) := f2
    rw [f2, z_bd, z_le, z_a1]
    have e1 : (T1 : Int) = y_mx (T : Int) (y_e1 σ b B S k i) := e1
    have e2 : (T2 : Int) = y_mx (T1 : Int) (y_e2 σ b B S k i) := e2
    have p1 := (y_fm_mx hk2 hi hf).1
    rw [← e1] at p1
    have p2 := (y_fm_mx hk2 hi p1).2
    rw [← e2] at p2
    have m1 := y_mx1 (T : Int) (y_e1 σ b B S k i)
    have m2 := y_mx1 (T1 : Int) (y_e2 σ b B S k i)
    rw [← e1] at m1
    rw [← e2] at m2
    have G := F1.tr F2
    obtain ⟨T', μ', f, a1, a2, a3, a4, F⟩ := ih n (k + 1) T2 μ2 (by omega) (by omega) (F2.RD nS h1) (by rw [G.2 4 n4]; exact h6) (by rw [G.2 4 n4]; exact h7) w2 p2
    refine ⟨T', μ', f, a1, by omega, fun j q1 q2 => ?_, a4, G.tr F⟩
    by_cases e : j = k
    · subst e; omega
    · exact a3 j (by omega) q2
theorem K_rt24 {σ : y_S} {b : Nat} (hb : b < 6) (w : y_WB σ) (wa : y_WA σ) (wn : 0 ≤ σ 0 3 ∧ σ 0 3 ≤ 5) {B S : Nat} (hB : 1 ≤ B ∧ B ≤ 1000000000000000000) (hS : S ≤ 777600000) {x3 : Nat} (hx : 74 ≤ x3 ∧ x3 ≤ 80) (Kx : q_M → Option (Unit × q_M)) : ∀ (d n i T : Nat) (μ : q_M), i + d = (σ 0 3).toNat → d < n → y_RD σ μ → μ.2 4 6 = lz (B : Int) → μ.2 4 7 = lz (S : Int) → y_Wd μ (x3 + 7) T → y_fm σ b B S T → ∃ T' μ', L_X4_rate_24 (50 + b) x3 Kx n (iz (i : Int)) μ = Kx μ' ∧ y_Wd μ' (x3 + 7) T' ∧ T ≤ T' ∧ (∀ j s : Nat, i ≤ s → (s : Int) < σ 0 3 → (j : Int) < σ 13 b → y_e1 σ b B S j s ≤ T' ∧ y_e2 σ b B S j s ≤ T') ∧ y_fm σ b B S T' ∧ y_Fx (y_S3 (x3 + 7)) μ μ' := by
  have gb := (w b hb).1
  have nS : ∀ a, y_S3 (x3 + 7) a → ¬ y_cl a := by intro a ha hc; unfold y_S3 at ha; unfold y_cl at hc; omega
  have n4 : ¬ y_S3 (x3 + 7) 4 := by unfold y_S3; omega
  intro d
  induction d with
  | zero =>
    intro n i T μ hi hn h h6 h7 hT hf
    obtain ⟨n, rfl⟩ : ∃ z, n = z + 1 := ⟨n - 1, by omega⟩
    rw [L_X4_rate_24, d_axles h, z_if (z_le32 (by omega) (by omega) (by omega) (by omega)), if_pos (by omega)]
    exact ⟨T, μ, rfl, hT, Nat.le_refl T, fun j s h1 h2 => by omega, hf, y_Fx.rf⟩
  | succ d ih =>
    intro n i T μ hi hn h h6 h7 hT hf
    obtain ⟨n, rfl⟩ : ∃ z, n = z + 1 := ⟨n - 1, by omega⟩
    rw [L_X4_rate_24, d_axles h, z_if (z_le32 (by omega) (by omega) (by omega) (by omega)), if_neg (by omega)]
    obtain ⟨T1, μ1, f1, w1, l1, q1, p1, F1⟩ := K_rt36 hb w wa wn hB hS hx (i := i) (by omega) (fun v4 μ => q_le (v4 + 1 : Int32) (fun y16 => (L_X4_rate_24 (50 + b) x3 Kx n) y16 μ)) (σ 13 b).toNat q_fu 0 T μ (by omega) (by rw [z_fu]; omega) h h6 h7 hT hf
    rw [show iz ((0 : Nat) : Int) = (0 : Int32) from rfl] at f1
    rw [f1, z_le, z_a1]
    obtain ⟨T', μ', f, a1, a2, a3, a4, F⟩ := ih n (i + 1) T1 μ1 (by omega) (by omega) (F1.RD nS h) (by rw [F1.2 4 n4]; exact h6) (by rw [F1.2 4 n4]; exact h7) w1 p1
    refine ⟨T', μ', f, a1, by omega, fun j s u1 u2 u3 => ?_, a4, F1.tr F⟩
    by_cases e : s = i
    · subst e; have := q1 j (by omega) u3; omega
    · exact a3 j s (by omega) u2 u3
def y_S5 (x3 a : Nat) : Prop := a = 4 ∨ a = 11 ∨ a = 12 ∨ a = 13 ∨ a = 111 ∨ a = 112 ∨ a = x3 + 7 + 16 ∨ a = x3 + 14 + 16
theorem y_S5n {x3 : Nat} (hx : 74 ≤ x3 ∧ x3 ≤ 80) : ∀ a, y_S5 x3 a → ¬ y_cl a := by intro a ha hc; unfold y_S5 at ha; unfold y_cl at hc; omega
theorem y_vf_b {σ : y_S} {b : Nat} (hb : b < 6) (w : y_WB σ) {k : Nat} (hk : (k : Int) < σ 13 b) : 1 ≤ y_vf σ b k ∧ y_vf σ b k ≤ 1000 := by
  have gk := ((w b hb).2.1 k hk).2.2
  unfold y_vf
  have g0 : 0 < Nat.gcd (σ 16 (6 * b + k)).toNat (y_LB σ b k) := Nat.gcd_pos_of_pos_left _ (by omega)
  have g1 : Nat.gcd (σ 16 (6 * b + k)).toNat (y_LB σ b k) ≤ (σ 16 (6 * b + k)).toNat := Nat.le_of_dvd (by omega) (Nat.gcd_dvd_left _ _)
  exact ⟨Nat.div_pos g1 g0, Nat.le_trans (Nat.div_le_self _ _) (by omega)⟩
theorem y_gf_b {σ : y_S} {b : Nat} (hb : b < 6) (w : y_WB σ) (k : Nat) : 1 ≤ y_gf σ b k ∧ y_gf σ b k ≤ 1000 := by
  have gk := y_gp_b hb w k
  unfold y_gf
  have g0 : 0 < Nat.gcd (y_gp σ b k) (y_GS σ b k) := Nat.gcd_pos_of_pos_left _ (by omega)
  have g1 : Nat.gcd (y_gp σ b k) (y_GS σ b k) ≤ y_gp σ b k := Nat.le_of_dvd (by omega) (Nat.gcd_dvd_left _ _)
  exact ⟨Nat.div_pos g1 g0, Nat.le_trans (Nat.div_le_self _ _) (by omega)⟩
theorem C_rate {σ : y_S} {b : Nat} (hb : b < 6) (w : y_W σ) {x3 : Nat} (hx : 74 ≤ x3 ∧ x3 ≤ 80) {μ : q_M} (h : y_RD σ μ) : ∃ μ', f_X4_rate (50 + b) x3 μ = some ((), μ') ∧ y_Wd μ' (x3 + 7) (y_ru σ b) ∧ y_Wd μ' (x3 + 14) (y_rd σ b) ∧ y_Fx (y_S5 x3) μ μ' := by
  have wb := w.2.2.1
  have wa := w.2.2.2.1
  have wn := w.1.2.2.2.1
  have gb := (wb b hb).1
  unfold f_X4_rate
  obtain ⟨μ1, f1, w1, F1⟩ := K_setTo (k := x3 + 7) (v := 0) (by omega) μ
  rw [show f_X8_setTo (x3 + 7) 0 μ = _ from f1, z_bd]
  obtain ⟨μ2, f2, w2, F2⟩ := K_setTo (k := x3 + 14) (v := 1) (by omega) μ1
  rw [show f_X8_setTo (x3 + 14) 1 μ1 = _ from f2, z_bd]
  have w1 := F2.Wd (show x3 + 7 ≠ x3 + 14 by omega) w1
  have G2 : y_Fx (y_S5 x3) μ μ2 := (F1.Fx (by unfold y_S5; omega)).tr (F2.Fx (by unfold y_S5; omega))
  obtain ⟨μ3, f3, r3, F3⟩ := K_findScales hb wb (G2.RD (y_S5n hx) h)
  rw [f3, z_bd]
  have G3 : y_Fx (y_S5 x3) μ μ3 := G2.tr (F3.mono (fun a ha => by unfold y_Sf at ha; unfold y_S5; omega))
  have w1 := F3.Wd (by unfold y_Sf; omega) w1
  have w2 := F3.Wd (by unfold y_Sf; omega) w2
  obtain ⟨b0, b1⟩ := y_LB_m hb wb (k := (σ 13 b).toNat) (by omega)
  obtain ⟨g0, g1⟩ := y_LS_m hb wb (k := (σ 13 b).toNat) (by omega)
  obtain ⟨r6, r7, rk⟩ := r3
  rw [y_GS_e gb.1] at r7
  obtain ⟨T, μ4, f4, t4, -, q4, p4, F4⟩ := K_rt24 hb wb wa wn (B := y_LB σ b (σ 13 b).toNat) (S := y_LS σ b (σ 13 b).toNat) (by omega) g1 hx (fun μ => q_bd (f_X4_reduce x3 12 (μ.1 (50 + b) 1) μ) (fun u17 μ17 => q_bd (f_X4_reduce x3 13 (μ17.1 (50 + b) 1) μ17) (fun u19 μ19 => some ((), μ19)))) (σ 0 3).toNat q_fu 0 0 μ3 (by omega) (by rw [z_fu]; omega) (G3.RD (y_S5n hx) h) r6 r7 w1 (Or.inl rfl)
  rw [show iz ((0 : Nat) : Int) = (0 : Int32) from rfl] at f4
  rw [f4]
  have G4 : y_Fx (y_S5 x3) μ μ4 := G3.tr (F4.mono (fun a ha => by unfold y_S3 at ha; unfold y_S5; omega))
  have tt : (T : Int) = y_top σ b := y_t_uni wn.1 gb.1 (by omega) (fun k i hk hi => q4 k i (by omega) hi hk) p4
  have h4 := G4.RD (y_S5n hx) h
  have w4 := F4.Wd (by unfold y_S3; omega) w2
  have c12 : ∀ k, k < (σ 13 b).toNat → μ4.2 12 k = lz ((y_vf σ b k : Nat) : Int) := fun k hk => by rw [F4.2 12 (by unfold y_S3; omega)]; exact (rk k hk).1
  have c13 : ∀ k, k < (σ 13 b).toNat → μ4.2 13 k = lz ((y_gf σ b k : Nat) : Int) := fun k hk => by rw [F4.2 13 (by unfold y_S3; omega)]; exact (rk k hk).2
  have ec : σ 13 b = (((σ 13 b).toNat : Nat) : Int) := by omega
  have pB : y_Pf (y_vf σ b) (σ 13 b).toNat = y_LB σ b (σ 13 b).toNat := (y_Pf_LB σ b _).symm
  have pG : y_Pf (y_gf σ b) (σ 13 b).toNat = y_LS σ b (σ 13 b).toNat := by rw [← y_Pf_GS _ (by omega), y_GS_e gb.1]
  rw [d_cornerCounts h4 hb]
  obtain ⟨U5, L5, c5, μ5, f5, u5, l5, g5, k5, n5, e5, m5, F5⟩ := K_reduce hx (x1 := 12) (Or.inl rfl) (cc := (σ 13 b).toNat) (by omega) (f := y_vf σ b) (fun k hk => y_vf_b hb wb (by omega)) c12 t4 w4 (Nat.gcd_one_right T) (Nat.le_refl 1) (by rw [pB]; omega)
  rw [← ec] at f5
  rw [f5, z_bd]
  have G5 : y_Fx (y_S5 x3) μ μ5 := G4.tr (F5.mono (fun a ha => by unfold y_S4 at ha; unfold y_S5; omega))
  have h5 := G5.RD (y_S5n hx) h
  rw [d_cornerCounts h5 hb]
  rw [pB, Nat.one_mul] at m5
  have lb : L5 ≤ y_LB σ b (σ 13 b).toNat := by rw [m5]; exact Nat.le_mul_of_pos_right L5 k5
  have ub : L5 * y_LS σ b (σ 13 b).toNat ≤ 1000000000000000000 * 777600000 := Nat.mul_le_mul (by omega) g1
  obtain ⟨U6, L6, c6, μ6, f6, u6, l6, g6, k6, n6, e6, m6, F6⟩ := K_reduce hx (x1 := 13) (Or.inr rfl) (cc := (σ 13 b).toNat) (by omega) (f := y_gf σ b) (fun k hk => y_gf_b hb wb k) (fun k hk => by rw [F5.2 13 (by unfold y_S4; omega)]; exact c13 k hk) u5 l5 g5 n5 (by rw [pG]; omega)
  rw [← ec] at f6
  rw [f6, z_bd]
  have G6 : y_Fx (y_S5 x3) μ μ6 := G5.tr (F6.mono (fun a ha => by unfold y_S4 at ha; unfold y_S5; omega))
  rw [pG] at m6
  have eT : (y_top σ b).toNat = U6 * (c6 * c5) := by
    rw [← tt, Int.toNat_natCast, e5, e6, Nat.mul_assoc]
  have eU : (y_und σ b).toNat = L6 * (c6 * c5) := by
    unfold y_und
    rw [← Int.natCast_mul, Int.toNat_natCast, m5, Nat.mul_right_comm, m6, Nat.mul_assoc]
  obtain ⟨r1, r2⟩ := y_red (Nat.mul_pos k6 k5) eT eU g6
  refine ⟨μ6, rfl, ?_, ?_, G6⟩
  · rw [show y_ru σ b = U6 from r1.symm]; exact u6
  · rw [show y_rd σ b = L6 from r2.symm]; exact l6
