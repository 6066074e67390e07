theorem z_zy (b : Bool) : q_zb (y_bI b) = true := by cases b <;> rfl
def y_same (σ σ' : y_S) (b : Nat) : Prop := σ' 0 3 = σ 0 3 ∧ σ' 13 b = σ 13 b ∧ (∀ k : Nat, (k : Int) < σ 13 b → σ' 14 (6 * b + k) = σ 14 (6 * b + k) ∧ σ' 15 (6 * b + k) = σ 15 (6 * b + k) ∧ σ' 16 (6 * b + k) = σ 16 (6 * b + k)) ∧ ∀ i : Nat, (i : Int) < σ 0 3 → σ' 17 i = σ 17 i ∧ σ' 18 i = σ 18 i
theorem y_same.LB {σ σ' : y_S} {b : Nat} (h : y_same σ σ' b) : ∀ k : Nat, (k : Int) ≤ σ 13 b → y_LB σ' b k = y_LB σ b k := by
  intro k
  induction k with
  | zero => intro _; rfl
  | succ k ih =>
    intro hk
    unfold y_LB
    rw [ih (by omega), (h.2.2.1 k (by omega)).2.2]
theorem y_same.LS {σ σ' : y_S} {b : Nat} (h : y_same σ σ' b) : ∀ k : Nat, (k : Int) ≤ σ 13 b → y_LS σ' b k = y_LS σ b k := by
  intro k
  induction k with
  | zero => intro _; rfl
  | succ k ih =>
    intro hk
    cases k with
    | zero => rfl
    | succ k =>
      unfold y_LS
      rw [ih (by omega), (h.2.2.1 (k + 1) (by omega)).1, (h.2.2.1 k (by omega)).1]
theorem y_same.av {σ σ' : y_S} {b : Nat} (h : y_same σ σ' b) (B S place load : Int) : ∀ (d k : Nat), (k : Int) + d ≤ σ 13 b → y_av σ' b B S place load d k = y_av σ b B S place load d k := by
  intro d
  induction d with
  | zero => intro k _; rfl
  | succ d ih =>
    intro k hk
    have g := h.2.2.1 k (by omega)
    unfold y_av
    rw [ih (k + 1) (by omega), g.1, g.2.1, g.2.2, h.2.1]
    by_cases c : (k : Int) + 1 < σ 13 b
    · have g2 := h.2.2.1 (k + 1) (by omega)
      rw [g2.1, g2.2.1, g2.2.2]
    · rw [if_neg (show ¬ (((k : Int) + 1 < σ 13 b ∧ σ 14 (6 * b + k) < place) ∧ place < σ' 14 (6 * b + (k + 1))) from fun q => c q.1.1), if_neg (show ¬ (((k : Int) + 1 < σ 13 b ∧ σ 14 (6 * b + k) < place) ∧ place < σ 14 (6 * b + (k + 1))) from fun q => c q.1.1)]
theorem y_same.es {σ σ' : y_S} {b : Nat} (h : y_same σ σ' b) (hc : 0 ≤ σ 13 b) (B S first way : Int) : ∀ i : Nat, (i : Int) ≤ σ 0 3 → y_es σ' b B S first way i = y_es σ b B S first way i := by
  intro i
  induction i with
  | zero => intro _; rfl
  | succ i ih =>
    intro hi
    have g := h.2.2.2 i (by omega)
    unfold y_es
    rw [ih (by omega), g.1, g.2, h.2.1, h.av _ _ _ _ _ _ (by omega)]
theorem y_same.t1 {σ σ' : y_S} {b : Nat} (h : y_same σ σ' b) (hc : 0 ≤ σ 13 b) (h3 : 0 ≤ σ 0 3) (B S t : Int) {k : Nat} (hk : (k : Int) < σ 13 b) : ∀ i : Nat, (i : Int) ≤ σ 0 3 → y_t1 σ' b B S k i t = y_t1 σ b B S k i t := by
  intro i
  induction i with
  | zero => intro _; rfl
  | succ i ih =>
    intro hi
    have g := h.2.2.2 i (by omega)
    unfold y_t1
    rw [ih (by omega), g.1, (h.2.2.1 k hk).1, h.1, h.es hc _ _ _ _ _ (by omega), h.es hc _ _ _ _ _ (by omega)]
theorem y_same.t2 {σ σ' : y_S} {b : Nat} (h : y_same σ σ' b) (hc : 0 ≤ σ 13 b) (h3 : 0 ≤ σ 0 3) (B S : Int) : ∀ k : Nat, (k : Int) ≤ σ 13 b → y_t2 σ' b B S k = y_t2 σ b B S k := by
  intro k
  induction k with
  | zero => intro _; rfl
  | succ k ih =>
    intro hk
    unfold y_t2
    rw [ih (by omega), h.1, h.t1 hc h3 _ _ _ (by omega) _ (by omega)]
theorem y_same.top {σ σ' : y_S} {b : Nat} (h : y_same σ σ' b) (hc : 0 ≤ σ 13 b) (h3 : 0 ≤ σ 0 3) : y_top σ' b = y_top σ b ∧ y_und σ' b = y_und σ b := by
  unfold y_top y_und
  rw [h.2.1, h.LB _ (by omega), h.LS _ (by omega), h.t2 hc h3 _ _ _ (by omega)]
  exact ⟨rfl, rfl⟩
theorem y_top0 {σ : y_S} {b : Nat} (h : σ 13 b = 0) : y_top σ b = 0 ∧ y_und σ b = 1 := by
  unfold y_top y_und
  rw [h]
  exact ⟨rfl, rfl⟩
theorem y_tu {σ : y_S} (w : y_W σ) {b : Nat} (hb : b < 6) : ∃ g : Nat, 0 < g ∧ y_top σ b = ((y_ru σ b * g : Nat) : Int) ∧ y_und σ b = ((y_rd σ b * g : Nat) : Int) := by
  have tb := y_top_b w hb
  have ub := y_und_b w hb
  refine ⟨y_gg σ b, Nat.gcd_pos_of_pos_right _ (by omega), ?_, ?_⟩
  · rw [show y_ru σ b * y_gg σ b = (y_top σ b).toNat from Nat.div_mul_cancel (Nat.gcd_dvd_left _ _)]; omega
  · rw [show y_rd σ b * y_gg σ b = (y_und σ b).toNat from Nat.div_mul_cancel (Nat.gcd_dvd_right _ _)]; omega
theorem y_ru_b {σ : y_S} (w : y_W σ) {b : Nat} (hb : b < 6) : y_ru σ b ≤ 10000000000000000000000000000000000 ∧ y_rd σ b ≤ 777600000000000000000000000 := by
  have tb := y_top_b w hb
  have ub := y_und_b w hb
  have a : y_ru σ b ≤ (y_top σ b).toNat := Nat.div_le_self _ _
  have c : y_rd σ b ≤ (y_und σ b).toNat := Nat.div_le_self _ _
  omega
theorem y_cmp {σ : y_S} (w : y_W σ) {b : Nat} (hb : b < 6) (x y : Nat) : (y_rd σ b * y < y_ru σ b * x) = (y_und σ b * (y : Int) < y_top σ b * (x : Int)) := by
  obtain ⟨g, g0, e1, e2⟩ := y_tu w hb
  rw [e1, e2, ← Int.natCast_mul, ← Int.natCast_mul, Nat.mul_right_comm, Nat.mul_right_comm (y_ru σ b)]
  refine propext ⟨fun h => ?_, fun h => ?_⟩
  · exact Int.ofNat_lt.mpr (Nat.mul_lt_mul_of_pos_right h g0)
  · exact Nat.lt_of_mul_lt_mul_right (Int.ofNat_lt.mp h)
theorem C_isAbove {x1 U D x y : Nat} (hx : 74 ≤ x1 ∧ x1 ≤ 80) (hU : U ≤ 10000000000000000000000000000000000) (hD : D ≤ 777600000000000000000000000) (hxy : x ≤ 4 ∧ y ≤ 4) {μ : q_M} (h1 : y_Wd μ (x1 + 7) U) (h2 : y_Wd μ (x1 + 14) D) : ∃ μ', f_X4_isAbove x1 (lz (y : Int)) (lz (x : Int)) μ = some (y_bI (decide (D * y < U * x)), μ') ∧ y_Fx y_S2 μ μ' := by
  unfold f_X4_isAbove
  obtain ⟨μ1, f1, w1, F1⟩ := K_copyFrom (k := 95) (m := x1 + 7) (by omega) h1
  rw [f1, z_bd]
  have m1 : U * x ≤ 10000000000000000000000000000000000 * 4 := Nat.mul_le_mul hU hxy.1
  have m2 : D * y ≤ 777600000000000000000000000 * 4 := Nat.mul_le_mul hD hxy.2
  obtain ⟨μ2, f2, w2, F2⟩ := K_multiply (k := 95) (f := x) (by omega) (by omega) w1
  rw [f2, z_bd]
  have h3 := F2.Wd (show x1 + 14 ≠ 95 by omega) (F1.Wd (show x1 + 14 ≠ 95 by omega) h2)
  obtain ⟨μ3, f3, w3, F3⟩ := K_copyFrom (k := 96) (m := x1 + 14) (by omega) h3
  rw [f3, z_bd]
  obtain ⟨μ4, f4, w4, F4⟩ := K_multiply (k := 96) (f := y) (by omega) (by omega) w3
  rw [f4, z_bd]
  have w5 := F4.Wd (show 95 ≠ 96 by decide) (F3.Wd (show 95 ≠ 96 by decide) w2)
  rw [K_compareWith w5 w4, z_bd]
  have sg : (iz (y_sg (U * x) (D * y)) ≤ 0) = (U * x ≤ D * y) := by
    rw [z_le0 (by unfold y_sg; split <;> (try split) <;> omega) (by unfold y_sg; split <;> (try split) <;> omega)]
    refine propext ⟨fun q => ?_, fun q => ?_⟩
    · unfold y_sg at q
      by_cases c1 : U * x < D * y
      · omega
      · rw [if_neg c1] at q
        by_cases c2 : D * y < U * x
        · rw [if_pos c2] at q; omega
        · omega
    · unfold y_sg
      split
      · omega
      · rw [if_neg (by omega)]; omega
  rw [z_if sg]
  have G : y_Fx y_S2 μ μ4 := (((F1.Fx (Or.inl rfl)).tr (F2.Fx (Or.inl rfl))).tr (F3.Fx (Or.inr rfl))).tr (F4.Fx (Or.inr rfl))
  refine ⟨μ4, ?_, G⟩
  by_cases c : U * x ≤ D * y
  · rw [if_pos c, decide_eq_false (by omega)]; rfl
  · rw [if_neg c, decide_eq_true (by omega)]; rfl
def y_tw (σ : y_S) (b : Nat) : Bool := decide (y_und σ b * 1 < y_top σ b * 1)
def y_ww (σ : y_S) (b : Nat) : Bool := decide (y_und σ b * 3 < y_top σ b * 4)
def y_Rk (σ : y_S) (b : Nat) (μ : q_M) : Prop := y_Wd μ (50 + b + 24 + 7) (y_ru σ b) ∧ y_Wd μ (50 + b + 24 + 14) (y_rd σ b) ∧ μ.1 (50 + b) 6 = y_bI (y_tw σ b) ∧ μ.1 (50 + b) 7 = y_bI (y_ww σ b)
def y_RK (σ : y_S) (μ : q_M) : Prop := ∀ b, b < 6 → y_Rk σ b μ
def y_FK (b : Nat) (μ μ' : q_M) : Prop := (∀ a, a ≠ 50 + b → μ'.1 a = μ.1 a) ∧ (∀ j, j ≠ 6 → j ≠ 7 → μ'.1 (50 + b) j = μ.1 (50 + b) j) ∧ ∀ a, ¬ y_S5 (50 + b + 24) a → μ'.2 a = μ.2 a
theorem y_FK.RD {σ : y_S} {b : Nat} {μ μ' : q_M} (hb : b < 6) (f : y_FK b μ μ') (h : y_RD σ μ) : y_RD σ μ' := by
  refine ⟨fun c j hd => ?_, fun c j hd => ?_⟩
  · rw [← h.1 c j hd]
    have key : ∀ c, c < 22 → ∀ j, j < 50 → c_dom c j = true → (c_ca c j).1 < 50 ∨ (c_ca c j).2 < 2 := by decide +kernel
    by_cases e : (c_ca c j).1 = 50 + b
    · rcases key c (c_dom_lt hd).1 j (c_dom_lt hd).2 hd with q | q
      · omega
      · rw [e]; exact f.2.1 _ (by omega) (by omega)
    · rw [f.1 _ e]
  · rw [← h.2 c j hd]
    have key : ∀ c, c < 22 → ∀ j, j < 50 → c_doL c j = true → (c_cl c j).1 = 9 ∨ (c_cl c j).1 = 10 ∨ (56 ≤ (c_cl c j).1 ∧ (c_cl c j).1 < 74) := by decide +kernel
    have k := key c (c_doL_lt hd).1 j (c_doL_lt hd).2 hd
    rw [f.2.2 _ (by unfold y_S5; omega)]
theorem y_FK.RB {σ : y_S} {b : Nat} {μ μ' : q_M} (f : y_FK b μ μ') (h : y_RB σ μ) : y_RB σ μ' := by
  refine ⟨fun r hr => ?_, fun r hr k hk => ?_⟩
  · rw [f.1 _ (by omega)]; exact h.1 r hr
  · rw [f.1 _ (by omega)]; exact h.2 r hr k hk
theorem y_FK.Rk {σ : y_S} {b c : Nat} {μ μ' : q_M} (hb : b < 6) (hc : c < 6) (hbc : c ≠ b) (f : y_FK b μ μ') (h : y_Rk σ c μ) : y_Rk σ c μ' := by
  obtain ⟨h1, h2, h3, h4⟩ := h
  refine ⟨⟨fun j hj => ?_, h1.2⟩, ⟨fun j hj => ?_, h2.2⟩, ?_, ?_⟩
  · rw [f.2.2 _ (by unfold y_S5; omega)]; exact h1.1 j hj
  · rw [f.2.2 _ (by unfold y_S5; omega)]; exact h2.1 j hj
  · rw [f.1 _ (by omega)]; exact h3
  · rw [f.1 _ (by omega)]; exact h4
theorem y_FK.Fc {b : Nat} {μ μ' : q_M} (hb : b < 6) (f : y_FK b μ μ') : y_Fc μ μ' := fun a ha => ⟨f.1 a (by omega), f.2.2 a (by unfold y_S5; omega)⟩
theorem C_rateBridge {σ : y_S} (w : y_W σ) {b : Nat} (hb : b < 6) {μ : q_M} (h : y_RD σ μ) : ∃ μ', f_X3_rateBridge (iz (b : Int)) μ = some ((), μ') ∧ y_Rk σ b μ' ∧ y_FK b μ μ' := by
  have cb : (iz (b : Int)).toNatClampNeg = b := by rw [z_cl (by omega) (by omega)]; omega
  unfold f_X3_rateBridge
  rw [z_gd (z_ix (by omega) (by omega) (by omega)), cb]
  obtain ⟨μ1, f1, u1, d1, F1⟩ := C_rate hb w (x3 := 50 + b + 24) (by omega) h
  rw [f1, z_bd]
  obtain ⟨rb1, rb2⟩ := y_ru_b w hb
  obtain ⟨μ2, f2, F2⟩ := C_isAbove (x1 := 50 + b + 24) (x := 1) (y := 1) (by omega) rb1 rb2 (by omega) u1 d1
  rw [show f_X4_isAbove (50 + b + 24) 1 1 μ1 = _ from f2, z_bd, z_gd (z_zy _), z_le]
  have u2 := F2.Wd (by unfold y_S2; omega) u1
  have d2 := F2.Wd (by unfold y_S2; omega) d1
  have u3 : y_Wd (q_si μ2 (50 + b) 6 (y_bI (decide (y_rd σ b * 1 < y_ru σ b * 1)))) (50 + b + 24 + 7) (y_ru σ b) := u2
  have d3 : y_Wd (q_si μ2 (50 + b) 6 (y_bI (decide (y_rd σ b * 1 < y_ru σ b * 1)))) (50 + b + 24 + 14) (y_rd σ b) := d2
  obtain ⟨μ4, f4, F4⟩ := C_isAbove (x1 := 50 + b + 24) (x := 4) (y := 3) (by omega) rb1 rb2 (by omega) u3 d3
  rw [show f_X4_isAbove (50 + b + 24) 3 4 _ = _ from f4, z_bd, z_gd (z_zy _), z_le]
  have u4 := F4.Wd (by unfold y_S2; omega) u3
  have d4 := F4.Wd (by unfold y_S2; omega) d3
  refine ⟨_, rfl, ⟨u4, d4, ?_, ?_⟩, fun a ha => ?_, fun j h1 h2 => ?_, fun a ha => ?_⟩
  · rw [z_si1, if_neg (by omega), F4.1, z_si1, if_pos ⟨rfl, rfl⟩]
    exact congrArg y_bI (decide_eq_decide.mpr (Iff.of_eq (y_cmp w hb 1 1)))
  · rw [z_si1, if_pos ⟨rfl, rfl⟩]
    exact congrArg y_bI (decide_eq_decide.mpr (Iff.of_eq (y_cmp w hb 4 3)))
  · rw [q_si_row ha, F4.1, q_si_row ha, F2.1, F1.1]
  · rw [z_si1, if_neg (fun q => h2 q.2), F4.1, z_si1, if_neg (fun q => h1 q.2), F2.1, F1.1]
  · show μ4.2 a = μ.2 a
    rw [F4.2 a (fun q => ha (by unfold y_S2 at q; unfold y_S5; omega))]
    show μ2.2 a = μ.2 a
    rw [F2.2 a (fun q => ha (by unfold y_S2 at q; unfold y_S5; omega)), F1.2 a ha]
theorem y_Fx.RB {S : Nat → Prop} {σ : y_S} {μ μ' : q_M} (f : y_Fx S μ μ') (h : y_RB σ μ) : y_RB σ μ' := by
  refine ⟨fun r hr => ?_, fun r hr k hk => ?_⟩
  · rw [f.1]; exact h.1 r hr
  · rw [f.1]; exact h.2 r hr k hk
def y_FA (μ μ' : q_M) : Prop := (∀ a, (a < 50 ∨ 56 ≤ a) → μ'.1 a = μ.1 a) ∧ (∀ a j, j ≠ 6 → j ≠ 7 → μ'.1 a j = μ.1 a j) ∧ ∀ a, (a ≠ 4 ∧ a ≠ 11 ∧ a ≠ 12 ∧ a ≠ 13 ∧ a < 97) ∨ 112 < a → μ'.2 a = μ.2 a
theorem y_FA.rf {μ : q_M} : y_FA μ μ := ⟨fun _ _ => rfl, fun _ _ _ _ => rfl, fun _ _ => rfl⟩
theorem y_FA.tr {μ μ1 μ2 : q_M} (h : y_FA μ μ1) (g : y_FA μ1 μ2) : y_FA μ μ2 := ⟨fun a ha => (g.1 a ha).trans (h.1 a ha), fun a j h1 h2 => (g.2.1 a j h1 h2).trans (h.2.1 a j h1 h2), fun a ha => (g.2.2 a ha).trans (h.2.2 a ha)⟩
theorem y_FK.FA {b : Nat} {μ μ' : q_M} (hb : b < 6) (f : y_FK b μ μ') : y_FA μ μ' := ⟨fun a ha => f.1 a (by omega), fun a j h1 h2 => by
  by_cases e : a = 50 + b
  · rw [e]; exact f.2.1 j h1 h2
  · rw [f.1 a e], fun a ha => f.2.2 a (by unfold y_S5; omega)⟩
theorem y_FA.RD {σ : y_S} {μ μ' : q_M} (f : y_FA μ μ') (h : y_RD σ μ) : y_RD σ μ' := by
  refine ⟨fun c j hd => ?_, fun c j hd => ?_⟩
  · rw [← h.1 c j hd]
    have key : ∀ c, c < 22 → ∀ j, j < 50 → c_dom c j = true → (c_ca c j).1 < 50 ∨ (c_ca c j).2 < 2 := by decide +kernel
    rcases key c (c_dom_lt hd).1 j (c_dom_lt hd).2 hd with q | q
    · rw [f.1 _ (Or.inl q)]
    · exact f.2.1 _ _ (by omega) (by omega)
  · rw [← h.2 c j hd]
    have key : ∀ c, c < 22 → ∀ j, j < 50 → c_doL c j = true → (c_cl c j).1 = 9 ∨ (c_cl c j).1 = 10 ∨ (56 ≤ (c_cl c j).1 ∧ (c_cl c j).1 < 74) := by decide +kernel
    have k := key c (c_doL_lt hd).1 j (c_doL_lt hd).2 hd
    rw [f.2.2 _ (by omega)]
theorem y_FA.RB {σ : y_S} {μ μ' : q_M} (f : y_FA μ μ') (h : y_RB σ μ) : y_RB σ μ' := by
  refine ⟨fun r hr => ?_, fun r hr k hk => ?_⟩
  · rw [f.1 _ (by omega)]; exact h.1 r hr
  · rw [f.1 _ (by omega)]; exact h.2 r hr k hk
theorem y_FA.Fc {μ μ' : q_M} (f : y_FA μ μ') : y_Fc μ μ' := fun a ha => ⟨f.1 a (by omega), f.2.2 a (by omega)⟩
theorem K_rall {σ : y_S} (w : y_W σ) (Kx : q_M → Option (Unit × q_M)) : ∀ (d n i : Nat) (μ : q_M), i + d = (σ 0 2).toNat → d < n → y_RD σ μ → (∀ b, b < i → y_Rk σ b μ) → (∀ b, (σ 0 2).toNat ≤ b → b < 6 → y_Rk σ b μ) → ∃ μ', L_X3_rateAllBridges_2 Kx n (iz (i : Int)) μ = Kx μ' ∧ y_RK σ μ' ∧ y_FA μ μ' := by
  have w2 := w.1.2.2.1
  intro d
  induction d with
  | zero =>
    intro n i μ hi hn h h1 h2
    obtain ⟨n, rfl⟩ : ∃ z, n = z + 1 := ⟨n - 1, by omega⟩
    rw [L_X3_rateAllBridges_2, d_bridges h, z_if (z_le32 (by omega) (by omega) (by omega) (by omega)), if_pos (by omega)]
    refine ⟨μ, rfl, fun b hb => ?_, y_FA.rf⟩
    by_cases c : b < i
    · exact h1 b c
    · exact h2 b (by omega) hb
  | succ d ih =>
    intro n i μ hi hn h h1 h2
    obtain ⟨n, rfl⟩ : ∃ z, n = z + 1 := ⟨n - 1, by omega⟩
    rw [L_X3_rateAllBridges_2, d_bridges h, z_if (z_le32 (by omega) (by omega) (by omega) (by omega)), if_neg (by omega)]
    obtain ⟨μ1, f1, r1, F1⟩ := C_rateBridge w (b := i) (by omega) h
    rw [f1, z_bd, z_le, z_a1]
    obtain ⟨μ', f, a, F⟩ := ih n (i + 1) μ1 (by omega) (by omega) (F1.RD (by omega) h) (fun b hb => by
      by_cases e : b = i
      · rw [e]; exact r1
      · exact F1.Rk (by omega) (by omega) e (h1 b (by omega))) (fun b hb hb2 => F1.Rk (by omega) hb2 (by omega) (h2 b hb hb2))
    exact ⟨μ', f, a, (F1.FA (by omega)).tr F⟩
theorem C_rateAll {σ : y_S} (w : y_W σ) {μ : q_M} (h : y_RD σ μ) (h2 : ∀ b, (σ 0 2).toNat ≤ b → b < 6 → y_Rk σ b μ) : ∃ μ', f_X3_rateAllBridges μ = some ((), μ') ∧ y_RK σ μ' ∧ y_FA μ μ' := by
  have w2 := w.1.2.2.1
  unfold f_X3_rateAllBridges
  exact K_rall w (fun μ => some ((), μ)) (σ 0 2).toNat q_fu 0 μ (by omega) (by rw [z_fu]; omega) h (fun b hb => by omega) h2
theorem C_isStill {σ : y_S} (w : y_W σ) {b : Nat} (hb : b < 6) {μ : q_M} (h : y_RD σ μ) (hk : y_Rk σ b μ) : ∃ μ', f_X4_isStillRight (50 + b) μ = some (1, μ') ∧ y_Fx (y_S5 80) μ μ' := by
  unfold f_X4_isStillRight
  obtain ⟨μ1, f1, u1, d1, F1⟩ := C_rate hb w (x3 := 80) (by omega) h
  rw [f1, z_bd]
  have u2 := F1.Wd (show ¬ y_S5 80 (50 + b + 24 + 7 + 16) by unfold y_S5; omega) hk.1
  have d2 := F1.Wd (show ¬ y_S5 80 (50 + b + 24 + 14 + 16) by unfold y_S5; omega) hk.2.1
  unfold f_X5_isSameAs
  have s0 : ∀ V : Nat, y_sg V V = 0 := fun V => by unfold y_sg; rw [if_neg (by omega), if_neg (by omega)]
  rw [K_compareWith u1 u2, z_bd, s0, if_pos (show iz 0 = 0 from rfl), K_compareWith d1 d2, z_bd, s0, if_pos (show iz 0 = 0 from rfl), z_bd, z_gd (by decide)]
  exact ⟨μ1, rfl, F1⟩
theorem y_S5.RK {σ : y_S} {μ μ' : q_M} (f : y_Fx (y_S5 80) μ μ') (h : y_RK σ μ) : y_RK σ μ' := by
  intro b hb
  obtain ⟨h1, h2, h3, h4⟩ := h b hb
  refine ⟨f.Wd (by unfold y_S5; omega) h1, f.Wd (by unfold y_S5; omega) h2, ?_, ?_⟩
  · rw [f.1]; exact h3
  · rw [f.1]; exact h4
theorem C_kept {σ : y_S} (w : y_W σ) {μ : q_M} (h : y_RD σ μ) (hk : y_RK σ μ) (x : Int32) : ∃ μ', f_X9_kept x μ = some (if 0 ≤ x.toInt ∧ x.toInt < σ 0 2 then 1 else 0, μ') ∧ y_Fx (y_S5 80) μ μ' := by
  have w2 := w.1.2.2.1
  unfold f_X9_kept
  rw [k_hasBridge h w2.1 w2.2, z_bd, z_if z_b0, ite_not]
  by_cases p : 0 ≤ x.toInt ∧ x.toInt < σ 0 2
  · rw [if_pos p, if_pos p]
    have hb : x.toInt.toNat < 6 := by omega
    unfold f_X3_isKeptRatingTrue
    rw [z_gix (by omega) (by omega), z_clx]
    obtain ⟨μ1, f1, F1⟩ := C_isStill w hb h (hk _ hb)
    rw [f1, z_bd, z_gd (by decide), z_bd, if_neg (by decide)]
    exact ⟨μ1, rfl, F1⟩
  · rw [if_neg p, if_neg p]
    exact ⟨μ, rfl, y_Fx.rf⟩
theorem C_rating {σ : y_S} (w : y_W σ) {μ : q_M} (h : y_RD σ μ) (hk : y_RK σ μ) (x1 x2 : Int32) : f_X9_rating x1 x2 μ = some (lz (a_rating σ x1.toInt x2.toInt), μ) := by
  have w2 := w.1.2.2.1
  unfold f_X9_rating a_rating
  rw [k_hasBridge h w2.1 w2.2, z_bd, z_if z_b0, ite_not, k_within, z_bd, z_if z_b0, ite_not, Int32.toInt_toInt64, L0, L1]
  by_cases p : 0 ≤ x1.toInt ∧ x1.toInt < σ 0 2
  · rw [if_pos p]
    by_cases q : 0 ≤ x2.toInt ∧ x2.toInt ≤ 1
    · have hb : x1.toInt.toNat < 6 := by omega
      obtain ⟨k1, k2, -⟩ := hk _ hb
      rw [if_pos q, z_gix (by omega) (by omega), z_clx, z_if (z_x0 x2), K_lowest k1, z_bd, K_lowest k2, z_bd, if_pos (show (0 ≤ x1.toInt ∧ x1.toInt < σ 0 2) ∧ 0 ≤ x2.toInt ∧ x2.toInt ≤ 1 from ⟨p, q⟩)]
      split <;> rfl
    · rw [if_neg q, if_neg (show ¬ ((0 ≤ x1.toInt ∧ x1.toInt < σ 0 2) ∧ 0 ≤ x2.toInt ∧ x2.toInt ≤ 1) from fun z => q z.2)]; rfl
  · rw [if_neg p, if_neg (show ¬ ((0 ≤ x1.toInt ∧ x1.toInt < σ 0 2) ∧ 0 ≤ x2.toInt ∧ x2.toInt ≤ 1) from fun z => p z.1)]; rfl
