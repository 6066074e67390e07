def y_Fz (μ μ' : q_M) : Prop := (∀ a, a ≠ 2 → a ≠ 119 → a ≠ 120 → a ≠ 127 → a ≠ 128 → a ≠ 135 → a ≠ 136 → μ'.1 a = μ.1 a) ∧ (∀ j, j < 12 → μ'.1 2 j = μ.1 2 j) ∧ μ'.2 = μ.2
theorem y_Fz.rf {μ : q_M} : y_Fz μ μ := ⟨fun _ _ _ _ _ _ _ _ => rfl, fun _ _ => rfl, rfl⟩
theorem y_Fz.tr {μ μ1 μ2 : q_M} (h : y_Fz μ μ1) (g : y_Fz μ1 μ2) : y_Fz μ μ2 := ⟨fun a h1 h2 h3 h4 h5 h6 h7 => (g.1 a h1 h2 h3 h4 h5 h6 h7).trans (h.1 a h1 h2 h3 h4 h5 h6 h7), fun j hj => (g.2.1 j hj).trans (h.2.1 j hj), g.2.2.trans h.2.2⟩
theorem y_Fz.si {μ : q_M} {a j : Nat} {x : Int32} (h : (a = 2 ∧ 12 ≤ j) ∨ a = 119 ∨ a = 120 ∨ a = 127 ∨ a = 128 ∨ a = 135 ∨ a = 136) : y_Fz μ (q_si μ a j x) := by
  refine ⟨fun k h1 h2 h3 h4 h5 h6 h7 => q_si_row (by omega), fun i hi => ?_, rfl⟩
  rw [z_si1, if_neg (by omega)]
theorem y_Fz.Fc {μ μ' : q_M} (f : y_Fz μ μ') : y_Fc μ μ' := fun a ha => ⟨f.1 a (by omega) (by omega) (by omega) (by omega) (by omega) (by omega) (by omega), by rw [f.2.2]⟩
theorem y_Fz.RD {σ : y_S} {μ μ' : q_M} (f : y_Fz μ μ') (h : y_RD σ μ) : y_RD σ μ' := by
  refine ⟨fun c j hd => ?_, fun c j hd => ?_⟩
  · rw [← h.1 c j hd]
    have key : ∀ c, c < 22 → ∀ j, j < 50 → c_dom c j = true → (c_ca c j).1 < 56 ∧ ((c_ca c j).1 = 2 → (c_ca c j).2 < 12) := by decide +kernel
    have k := key c (c_dom_lt hd).1 j (c_dom_lt hd).2 hd
    by_cases e : (c_ca c j).1 = 2
    · rw [e]; exact f.2.1 _ (k.2 e)
    · rw [f.1 _ e (by omega) (by omega) (by omega) (by omega) (by omega) (by omega)]
  · rw [← h.2 c j hd, f.2.2]
theorem y_Fz.RB {σ : y_S} {μ μ' : q_M} (f : y_Fz μ μ') (h : y_RB σ μ) : y_RB σ μ' := by
  refine ⟨fun r hr => ?_, fun r hr k hk => ?_⟩
  · rw [f.1 _ (by omega) (by omega) (by omega) (by omega) (by omega) (by omega) (by omega)]; exact h.1 r hr
  · rw [f.1 _ (by omega) (by omega) (by omega) (by omega) (by omega) (by omega) (by omega)]; exact h.2 r hr k hk
theorem y_Fz.RK {σ : y_S} {μ μ' : q_M} (f : y_Fz μ μ') (h : y_RK σ μ) : y_RK σ μ' := fun b hb => (h b hb).sm ⟨rfl, rfl⟩ (fun j _ => by rw [f.1 _ (by omega) (by omega) (by omega) (by omega) (by omega) (by omega) (by omega)]) (fun a _ => by rw [f.2.2])
theorem y_Fz.RF {σ : y_S} (w : y_W σ) {μ μ' : q_M} (f : y_Fz μ μ') (h : y_RF σ μ) : y_RF σ μ' := by
  have w6 := w.1.2.2.2.2.2.2.1
  refine ⟨fun g hg => ?_, ?_⟩
  · exact (h.1 g hg).eq (f.1 _ (by omega) (by omega) (by omega) (by omega) (by omega) (by omega) (by omega)) (f.1 _ (by omega) (by omega) (by omega) (by omega) (by omega) (by omega) (by omega)) (f.1 _ (by omega) (by omega) (by omega) (by omega) (by omega) (by omega) (by omega))
  · rw [f.1 _ (by omega) (by omega) (by omega) (by omega) (by omega) (by omega) (by omega)]; exact h.2
def y_CB (σ : y_S) (L : Int) (μ : q_M) : Prop := y_RD σ μ ∧ y_RB σ μ ∧ y_RK σ μ ∧ y_RF σ μ ∧ (0 < σ 0 6 → μ.1 2 10 = iz L) ∧ ∀ r : Nat, (r : Int) < σ 0 1 → bt (μ.1 2 11) r = y_ok σ r
theorem y_Fz.CB {σ : y_S} (w : y_W σ) {L : Int} {μ μ' : q_M} (f : y_Fz μ μ') (h : y_CB σ L μ) : y_CB σ L μ' := ⟨f.RD h.1, f.RB h.2.1, f.RK h.2.2.1, f.RF w h.2.2.2.1, fun q => by rw [f.2.1 10 (by omega)]; exact h.2.2.2.2.1 q, fun r hr => by rw [f.2.1 11 (by omega)]; exact h.2.2.2.2.2 r hr⟩
def y_Ct (σ : y_S) (B : List Nat) (N : Int) (p : List Nat) (vis : Nat → Bool) (μ : q_M) : Prop := (∀ k, k < 7 → bt (μ.1 2 12) k = vis k) ∧ μ.1 2 13 = iz N ∧ μ.1 2 14 = y_bI (!B.isEmpty) ∧ (B ≠ [] → y_Wf σ μ 120 B ∧ y_good σ B) ∧ y_la μ 127 p ∧ ∀ i, i < p.length → μ.1 135 i = iz (y_sa σ p i)
abbrev y_LL (σ : y_S) (L : Int) : Prop := (¬ 0 < σ 0 6 → 0 ≤ L) ∧ (-2147483648 ≤ L ∧ L < 2147483648)
theorem K_cons {σ : y_S} (w : y_W σ) (wp : y_WP σ) {L : Int} (hL : y_LL σ L) {μ : q_M} (hb : y_CB σ L μ) {B p : List Nat} {N : Int} {vis : Nat → Bool} (hc : y_Ct σ B N p vis μ) (gp : y_good σ p) (hp : p ≠ []) : ∃ μ', f_X1_consider (iz (y_en σ p (σ 0 10))) (iz (p.length : Int)) μ = some ((), μ') ∧ y_Ct σ (y_jd σ L B p) (N + 1) p vis μ' ∧ y_Fz μ μ' := by
  have w1 := w.1.2.1
  have lp := gp.2.2
  have p12 : ∀ r, r ∈ p → r < 12 := fun r q => by have := (gp.2.1 r q).1; omega
  obtain ⟨c1, c2, c3, c4, c5, c6⟩ := hc
  unfold f_X1_consider
  rw [z_le, z_le, z_le, c2, z_a1]
  generalize hμ3 : q_si (q_si (q_si μ 2 13 (iz (N + 1))) 119 2 (iz (p.length : Int))) 119 3 (iz (y_en σ p (σ 0 10))) = μ3
  have F3 : y_Fz μ μ3 := by
    rw [← hμ3]
    exact (y_Fz.si (by omega)).tr ((y_Fz.si (by omega)).tr (y_Fz.si (by omega)))
  have a3 : ∀ a, a ≠ 2 → a ≠ 119 → μ3.1 a = μ.1 a := fun a h1 h2 => by rw [← hμ3, q_si_row h2, q_si_row h2, q_si_row h1]
  have l3 : μ3.1 119 2 = iz (p.length : Int) := by rw [← hμ3, z_si1, if_neg (by omega), z_si1, if_pos ⟨rfl, rfl⟩]
  have e3 : μ3.1 119 3 = iz (y_en σ p (σ 0 10)) := by rw [← hμ3, z_si1, if_pos ⟨rfl, rfl⟩]
  have n3 : μ3.1 2 13 = iz (N + 1) := by rw [← hμ3, q_si_row (by omega), q_si_row (by omega), z_si1, if_pos ⟨rfl, rfl⟩]
  have o3 : ∀ j, j ≠ 13 → μ3.1 2 j = μ.1 2 j := fun j hj => by rw [← hμ3, q_si_row (by omega), q_si_row (by omega), z_si1, if_neg (by omega)]
  have b3 := F3.CB w hb
  have la3 : y_la μ3 (119 + 8) p := fun k hk => by rw [a3 _ (by omega) (by omega)]; exact c5 k hk
  rw [K_cbr w b3.2.1 lp l3 la3 (fun r q => (gp.2.1 r q).1), z_bd, z_le]
  have l4 : (q_si μ3 119 4 (iz (y_nb σ p))).1 119 2 = iz (p.length : Int) := by rw [z_si1, if_neg (by omega)]; exact l3
  have la4 : y_la (q_si μ3 119 4 (iz (y_nb σ p))) (119 + 8) p := fun k hk => by rw [q_si_row (by omega)]; exact la3 k hk
  obtain ⟨x, f8, bx⟩ := K_ccr l4 p12 lp la4
  rw [f8, z_bd]
  generalize hμ8 : q_si (q_si (q_si μ3 119 4 (iz (y_nb σ p))) 119 5 0) 119 5 x = μ8
  have F8 : y_Fz μ3 μ8 := by
    rw [← hμ8]
    exact (y_Fz.si (by omega)).tr ((y_Fz.si (by omega)).tr (y_Fz.si (by omega)))
  have a8 : ∀ a, a ≠ 119 → μ8.1 a = μ3.1 a := fun a h2 => by rw [← hμ8, q_si_row h2, q_si_row h2, q_si_row h2]
  have W8 : y_Wf σ μ8 119 p := by
    refine ⟨?_, fun k hk => ?_, fun k hk => ?_, ?_, ?_, fun b q => ?_⟩
    · rw [← hμ8, z_si1, if_neg (by omega), z_si1, if_neg (by omega)]; exact l4
    · rw [a8 _ (by omega)]; exact la3 k hk
    · rw [a8 _ (by omega), a3 _ (by omega) (by omega)]; exact c6 k hk
    · rw [← hμ8, z_si1, if_neg (by omega), z_si1, if_neg (by omega), z_si1, if_neg (by omega)]; exact e3
    · rw [← hμ8, z_si1, if_neg (by omega), z_si1, if_neg (by omega), z_si1, if_pos ⟨rfl, rfl⟩]
    · rw [← hμ8, z_si1, if_pos ⟨rfl, rfl⟩]; exact bx b q
  have b8 := F8.CB w b3
  have h14 : μ8.1 2 14 = y_bI (!B.isEmpty) := by rw [a8 _ (by omega), o3 _ (by omega)]; exact c3
  have keepB : y_Ct σ B (N + 1) p vis μ8 := by
    refine ⟨fun k hk => ?_, ?_, h14, fun q => ?_, fun k hk => ?_, fun k hk => ?_⟩
    · rw [a8 _ (by omega), o3 _ (by omega)]; exact c1 k hk
    · rw [a8 _ (by omega)]; exact n3
    · refine ⟨(c4 q).1.eq ?_ ?_ ?_, (c4 q).2⟩
      · rw [a8 _ (by omega), a3 _ (by omega) (by omega)]
      · rw [a8 _ (by omega), a3 _ (by omega) (by omega)]
      · rw [a8 _ (by omega), a3 _ (by omega) (by omega)]
    · rw [a8 _ (by omega)]; exact la3 k hk
    · rw [a8 _ (by omega), a3 _ (by omega) (by omega)]; exact c6 k hk
  have take : ∃ μ', J_X1_consider_79 (iz (y_en σ p (σ 0 10))) (iz (p.length : Int)) μ8 = some ((), μ') ∧ y_Ct σ p (N + 1) p vis μ' ∧ y_Fz μ8 μ' := by
    obtain ⟨μ9, f9, W9, a9, m9⟩ := K_copy (σ := σ) (x0 := 120) (x1 := 119) (by omega) lp W8
    unfold J_X1_consider_79
    rw [f9, z_bd, z_le]
    have F9 : y_Fz μ8 μ9 := ⟨fun a h1 h2 h3 h4 h5 h6 h7 => a9 a h3 h5 h7, fun j _ => by rw [a9 2 (by omega) (by omega) (by omega)], m9⟩
    refine ⟨_, rfl, ⟨fun k hk => ?_, ?_, ?_, fun _ => ⟨?_, gp⟩, fun k hk => ?_, fun k hk => ?_⟩, F9.tr (y_Fz.si (by omega))⟩
    · rw [z_si1, if_neg (by omega), a9 2 (by omega) (by omega) (by omega)]; exact keepB.1 k hk
    · rw [z_si1, if_neg (by omega), a9 2 (by omega) (by omega) (by omega)]; exact keepB.2.1
    · rw [z_si1, if_pos ⟨rfl, rfl⟩]
      cases p with
      | nil => exact absurd rfl hp
      | cons _ _ => rfl
    · exact W9.eq (q_si_row (by omega)) (q_si_row (by omega)) (q_si_row (by omega))
    · rw [q_si_row (by omega), a9 127 (by omega) (by omega) (by omega)]; exact keepB.2.2.2.2.1 k hk
    · rw [q_si_row (by omega), a9 135 (by omega) (by omega) (by omega)]; exact keepB.2.2.2.2.2 k hk
  have F := F3.tr F8
  rw [K_allow w wp b8.1 b8.2.2.2.1 b8.2.2.2.2.1 hL.1 hL.2 W8 gp, z_bd, z_if (z_by _)]
  unfold y_jd
  by_cases m : y_mb σ L p = true
  · rw [if_neg (by rw [m]; exact Bool.noConfusion), h14, z_if (z_by _)]
    by_cases e : B = []
    · subst e
      rw [if_pos (by rfl), if_pos ⟨m, rfl⟩]
      obtain ⟨μ', f, c, G⟩ := take
      exact ⟨μ', f, c, F.tr G⟩
    · have eB : B.isEmpty = false := by
        cases B with
        | nil => exact absurd rfl e
        | cons _ _ => rfl
      have WB := keepB.2.2.2.1 e
      rw [eB, if_neg (by simp), K_cbt w W8 WB.1 gp.2.1 WB.2.2.1 lp WB.2.2.2, z_bd, z_if (z_by _), Bool.false_or]
      by_cases t : y_bt σ (y_en σ p (σ 0 10)) p (y_en σ B (σ 0 10)) B = true
      · rw [if_neg (by rw [t]; exact Bool.noConfusion), if_pos ⟨m, t⟩]
        obtain ⟨μ', f, c, G⟩ := take
        exact ⟨μ', f, c, F.tr G⟩
      · rw [if_pos (by simpa using t), if_neg (fun q => t q.2)]
        exact ⟨μ8, rfl, keepB, F⟩
  · rw [if_pos (by simpa using m), if_neg (fun q => m q.1)]
    exact ⟨μ8, rfl, keepB, F⟩
def y_na (σ : y_S) (r : Nat) (at_ : Int) : Int := if at_ = σ 1 r then σ 2 r else if at_ = σ 2 r then σ 1 r else -1
theorem y_na_oe {σ : y_S} (w : y_W σ) {r : Nat} (hr : (r : Int) < σ 0 1) (at_ : Int) : (y_oe σ r at_ = -2 ∧ y_na σ r at_ = -1) ∨ (y_na σ r at_ = y_oe σ r at_ ∧ 0 ≤ y_oe σ r at_ ∧ y_oe σ r at_ < 7) := by
  have w0 := w.1.1
  have g := w.2.1 r hr
  unfold y_oe y_na
  by_cases c1 : at_ = σ 1 r
  · rw [if_pos c1, if_pos c1.symm]; exact Or.inr ⟨rfl, by omega⟩
  · rw [if_neg c1, if_neg (fun q => c1 q.symm)]
    by_cases c2 : at_ = σ 2 r
    · rw [if_pos c2, if_pos c2.symm]; exact Or.inr ⟨rfl, by omega⟩
    · rw [if_neg c2, if_neg (fun q => c2 q.symm)]; exact Or.inl ⟨rfl, rfl⟩
theorem K_cta {σ : y_S} (w : y_W σ) {L : Int} {μ : q_M} (hb : y_CB σ L μ) {B p : List Nat} {N : Int} {vis : Nat → Bool} (hc : y_Ct σ B N p vis μ) {at_ : Int} (ha : 0 ≤ at_ ∧ at_ < 7) (lp : p.length ≤ 6) (gp : y_Ls σ p) {r : Nat} (hr : (r : Int) < σ 0 1) : f_X1_canTake (iz (r : Int)) (iz at_) (iz (p.length : Int)) μ = some (y_bI (y_my σ at_ vis p r), μ) := by
  have w0 := w.1.1
  have w1 := w.1.2.1
  have cl : (iz (r : Int)).toNatClampNeg = r := by rw [z_cl (by omega) (by omega)]; omega
  unfold f_X1_canTake
  rw [z_gd (z_ix (by omega) (by omega) (by omega)), cl, show f_X6_nodeAcross (14 + r) (iz at_) μ = some (iz (y_na σ r at_), μ) from k_across hb.1 w.2.1 w0.2 w1.2 hr (by omega), z_bd]
  unfold y_my
  rcases y_na_oe w hr at_ with ⟨o1, o2⟩ | ⟨o1, o2, o3⟩
  · rw [o2, if_pos (show iz (-1) = -1 from rfl), o1]; rfl
  · have ok : bt (μ.1 2 12) (y_oe σ r at_).toNat = vis (y_oe σ r at_).toNat := hc.1 _ (by omega)
    have e12 : ((μ.1 2 12 >>> (iz (y_oe σ r at_) &&& 31)) &&& 1 = 1) = (vis (y_oe σ r at_).toNat = true) := by
      rw [← ok, ← z_shT (n := (y_oe σ r at_).toNat) (by omega) (μ.1 2 12), Int.toNat_of_nonneg o2]
    have e11 : ((μ.1 2 11 >>> (iz (r : Int) &&& 31)) &&& 1 = 0) = (y_ok σ r = false) := by
      rw [← hb.2.2.2.2.2 r hr, ← z_sh0 (n := r) (by omega) (μ.1 2 11)]
    rw [o1, z_if (z_eqm (by omega) (by omega)), if_neg (by omega), z_if e12, z_if e11, z_if (z_eq0 (by omega) (by omega)), decide_eq_true (show y_oe σ r at_ ≠ -2 by omega), Bool.true_and]
    by_cases v : vis (y_oe σ r at_).toNat = true
    · rw [if_pos v, v]; simp [y_bI]
    · have v' : vis (y_oe σ r at_).toNat = false := by simpa using v
      rw [if_neg v, v']
      by_cases u : y_ok σ r = false
      · rw [if_pos u, u]; rfl
      · have u' : y_ok σ r = true := by simpa using u
        rw [if_neg u, u', show (true && !false) = true from rfl, Bool.true_and]
        by_cases e : p = []
        · subst e
          rw [if_pos (by rfl)]; rfl
        · have l0 : 0 < p.length := List.length_pos_iff.mpr e
          have eB : p.isEmpty = false := by
            cases p with
            | nil => exact absurd rfl e
            | cons _ _ => rfl
          have lr := (gp _ (y_gm (p := p) (k := p.length - 1) (by omega))).1
          have cl2 : (iz ((p.length : Int) - 1)).toNatClampNeg = p.length - 1 := by rw [z_cl (by omega) (by omega)]; omega
          have la := hc.2.2.2.2.1 (p.length - 1) (by omega)
          have cl3 : (iz ((p.getD (p.length - 1) 0 : Nat) : Int)).toNatClampNeg = p.getD (p.length - 1) 0 := by rw [z_cl (by omega) (by omega)]; omega
          have rb := hb.2.1.2 (p.getD (p.length - 1) 0) (by omega) r (by omega)
          rw [if_neg (by omega), z_s1, z_gd (z_ix (by omega) (by omega) (by omega)), cl2, show (119 + 8 : Nat) = 127 from rfl, la, z_gd (z_ix (by omega) (by omega) (by omega)), cl3]
          unfold f_X6_isTurnBlocked
          rw [z_if (z_shT (n := r) (by omega) (μ.1 (14 + p.getD (p.length - 1) 0) 7)), rb, eB, Bool.false_or]
          have tz := w.2.2.2.2.2 (12 * p.getD (p.length - 1) 0 + r)
          by_cases t : σ 11 (12 * p.getD (p.length - 1) 0 + r) = 1
          · rw [if_pos (decide_eq_true t), z_bd, if_neg (by decide), decide_eq_false (by omega)]; rfl
          · rw [if_neg (by rw [decide_eq_false t]; exact Bool.noConfusion), z_bd, if_pos rfl, decide_eq_true (by omega)]; rfl
theorem y_en_sn (σ : y_S) (r : Nat) : ∀ (p : List Nat) (t : Int), y_en σ (p ++ [r]) t = y_st σ r (y_en σ p t) + y_tk σ r := by
  intro p
  induction p with
  | nil => intro t; rfl
  | cons s p ih => intro t; exact ih _
theorem y_sa_1 {σ : y_S} {p : List Nat} {r i : Nat} (h : i < p.length) : y_sa σ (p ++ [r]) i = y_sa σ p i := by
  unfold y_sa
  rw [y_gd1 h, List.take_append_of_le_length (by omega)]
theorem y_sa_2 {σ : y_S} {p : List Nat} {r : Nat} : y_sa σ (p ++ [r]) p.length = y_st σ r (y_en σ p (σ 0 10)) := by
  unfold y_sa
  rw [y_gd2, List.take_append_of_le_length (by omega), List.take_length]
def y_H (σ : y_S) (L : Int) (fG : Int32 → Int32 → Int32 → q_M → Option (Unit × q_M)) (d : Nat) : Prop := ∀ (μ : q_M) (p : List Nat) (at_ : Int) (vis : Nat → Bool) (B : List Nat) (N : Int), y_CB σ L μ → y_Ct σ B N p vis μ → y_Iv σ vis p at_ → y_cn vis ≤ d → ∃ μ', fG (iz at_) (iz (y_en σ p (σ 0 10))) (iz (p.length : Int)) μ = some ((), μ') ∧ y_Ct σ ((y_ds σ d at_ vis p).foldl (y_jd σ L) B) (N + ((y_ds σ d at_ vis p).length : Int)) p vis μ' ∧ y_Fz μ μ'
theorem K_ctk {σ : y_S} (w : y_W σ) {L : Int} {fG : Int32 → Int32 → Int32 → q_M → Option (Unit × q_M)} {d : Nat} (H : y_H σ L fG d) {μ : q_M} (hb : y_CB σ L μ) {B p : List Nat} {N : Int} {vis : Nat → Bool} (hc : y_Ct σ B N p vis μ) {at_ : Int} (hi : y_Iv σ vis p at_) (hd : y_cn vis ≤ d + 1) {r : Nat} (hr : (r : Int) < σ 0 1) (hm : y_my σ at_ vis p r = true) : ∃ μ', f_X1_take fG (iz (r : Int)) (iz at_) (iz (y_en σ p (σ 0 10))) (iz (p.length : Int)) μ = some ((), μ') ∧ y_Ct σ ((y_ds σ d (y_oe σ r at_) (y_vs vis (y_oe σ r at_).toNat true) (p ++ [r])).foldl (y_jd σ L) B) (N + ((y_ds σ d (y_oe σ r at_) (y_vs vis (y_oe σ r at_).toNat true) (p ++ [r])).length : Int)) p vis μ' ∧ y_Fz μ μ' := by
  have w0 := w.1.1
  have w1 := w.1.2.1
  have w10 := w.1.2.2.2.2.2.2.2.2.2.2.1
  obtain ⟨m1, m2, m3⟩ := y_my_oe w hr hm
  have hi2 := hi.sn w hr hm
  have cp := y_cn_pos (vis := vis) (k := (y_oe σ r at_).toNat) (by omega) m2
  have cs := y_cn_set (vis := vis) (k := (y_oe σ r at_).toNat) (by omega) m2
  have lp : p.length ≤ 5 := by have := hi.2.2.2.2; omega
  have ab := hi.b
  have eb := y_en_b w p (σ 0 10) hi.2.2.2.1
  have cl : (iz (r : Int)).toNatClampNeg = r := by rw [z_cl (by omega) (by omega)]; omega
  have clp : (iz (p.length : Int)).toNatClampNeg = p.length := by rw [z_cl (by omega) (by omega)]; omega
  have na : y_na σ r at_ = y_oe σ r at_ := by
    rcases y_na_oe w hr at_ with ⟨o1, o2⟩ | ⟨o1, o2, o3⟩
    · omega
    · exact o1
  unfold f_X1_take
  rw [z_gd (z_ix (by omega) (by omega) (by omega)), cl, show f_X6_nodeAcross (14 + r) (iz at_) μ = some (iz (y_na σ r at_), μ) from k_across hb.1 w.2.1 w0.2 w1.2 hr (by omega), z_bd, na, K_cst w hr hb.1 (by omega) m3, z_bd, z_gd (z_ix (by omega) (by omega) (by omega)), clp, z_le, z_le, z_le]
  generalize hμ1 : q_si (q_si μ (119 + 8) p.length (iz (r : Int))) (119 + 16) p.length (iz (y_st σ r (y_en σ p (σ 0 10)))) = μ1
  have F1 : y_Fz μ μ1 := by
    rw [← hμ1]
    exact (y_Fz.si (by omega)).tr (y_Fz.si (by omega))
  have a1 : ∀ a, a ≠ 127 → a ≠ 135 → μ1.1 a = μ.1 a := fun a h1 h2 => by rw [← hμ1, q_si_row h2, q_si_row h1]
  have r1 : ∀ k, μ1.1 127 k = if k = p.length then iz (r : Int) else μ.1 127 k := fun k => by
    rw [← hμ1, q_si_row (by omega), z_si1]
    by_cases e : k = p.length
    · rw [if_pos ⟨rfl, e⟩, if_pos e]
    · rw [if_neg (fun q => e q.2), if_neg e]
  have s1 : ∀ k, μ1.1 135 k = if k = p.length then iz (y_st σ r (y_en σ p (σ 0 10))) else μ.1 135 k := fun k => by
    rw [← hμ1, z_si1]
    by_cases e : k = p.length
    · rw [if_pos ⟨rfl, e⟩, if_pos e]
    · rw [if_neg (fun q => e q.2), if_neg e, q_si_row (by omega)]
  have on : ∀ k, k < 7 → bt ((1 : Int32) <<< (iz (y_oe σ r at_) &&& 31)) k = decide (k = (y_oe σ r at_).toNat) := fun k hk => by
    rw [← z_one (n := (y_oe σ r at_).toNat) (by omega) (show k < 32 by omega), Int.toNat_of_nonneg m1.1]
  generalize hμ2 : q_si μ1 2 12 (μ1.1 2 12 ||| (1 <<< (iz (y_oe σ r at_) &&& 31))) = μ2
  have F2 : y_Fz μ1 μ2 := by rw [← hμ2]; exact y_Fz.si (by omega)
  have a2 : ∀ a, a ≠ 2 → μ2.1 a = μ1.1 a := fun a h => by rw [← hμ2]; exact q_si_row h
  have o2 : ∀ j, j ≠ 12 → μ2.1 2 j = μ1.1 2 j := fun j hj => by rw [← hμ2, z_si1, if_neg (by omega)]
  have b2 := (F1.tr F2).CB w hb
  have c2 : y_Ct σ B N (p ++ [r]) (y_vs vis (y_oe σ r at_).toNat true) μ2 := by
    obtain ⟨q1, q2, q3, q4, q5, q6⟩ := hc
    refine ⟨fun k hk => ?_, ?_, ?_, fun q => ?_, fun k hk => ?_, fun k hk => ?_⟩
    · rw [← hμ2, z_si1, if_pos ⟨rfl, rfl⟩, b_or, on k hk, a1 2 (by omega) (by omega), q1 k hk]
      unfold y_vs
      by_cases e : k = (y_oe σ r at_).toNat
      · rw [if_pos e, decide_eq_true e, Bool.or_true]
      · rw [if_neg e, decide_eq_false e, Bool.or_false]
    · rw [o2 _ (by omega), a1 2 (by omega) (by omega)]; exact q2
    · rw [o2 _ (by omega), a1 2 (by omega) (by omega)]; exact q3
    · refine ⟨(q4 q).1.eq ?_ ?_ ?_, (q4 q).2⟩
      · rw [a2 _ (by omega), a1 _ (by omega) (by omega)]
      · rw [a2 _ (by omega), a1 _ (by omega) (by omega)]
      · rw [a2 _ (by omega), a1 _ (by omega) (by omega)]
    · rw [a2 _ (by omega), r1]
      rw [List.length_append] at hk
      simp only [List.length_cons, List.length_nil] at hk
      by_cases e : k = p.length
      · subst e; rw [if_pos rfl, y_gd2]
      · rw [if_neg e, y_gd1 (by omega)]; exact q5 k (by omega)
    · rw [a2 _ (by omega), s1]
      rw [List.length_append] at hk
      simp only [List.length_cons, List.length_nil] at hk
      by_cases e : k = p.length
      · subst e; rw [if_pos rfl, y_sa_2]
      · rw [if_neg e, y_sa_1 (by omega)]; exact q6 k (by omega)
  rw [K_cend w hr b2.1 b2.2.1, z_bd, z_a1]
  obtain ⟨μ3, f3, c3, F3⟩ := H μ2 (p ++ [r]) (y_oe σ r at_) (y_vs vis (y_oe σ r at_).toNat true) B N b2 c2 hi2 (by omega)
  rw [y_en_sn, List.length_append] at f3
  rw [show fG (iz (y_oe σ r at_)) (iz (y_st σ r (y_en σ p (σ 0 10)) + y_tk σ r)) (iz ((p.length : Int) + 1)) μ2 = _ from f3, z_bd, z_le]
  generalize y_ds σ d (y_oe σ r at_) (y_vs vis (y_oe σ r at_).toNat true) (p ++ [r]) = ways at *
  obtain ⟨q1, q2, q3, q4, q5, q6⟩ := c3
  refine ⟨_, rfl, ⟨fun k hk => ?_, ?_, ?_, fun q => ?_, fun k hk => ?_, fun k hk => ?_⟩, ((F1.tr F2).tr F3).tr (y_Fz.si (by omega))⟩
  · rw [z_si1, if_pos ⟨rfl, rfl⟩, b_and, z_not (by omega), on k hk, q1 k hk]
    unfold y_vs
    by_cases e : k = (y_oe σ r at_).toNat
    · rw [if_pos e, decide_eq_true e, e, m2]; rfl
    · rw [if_neg e, decide_eq_false e]; simp
  · rw [z_si1, if_neg (by omega)]; exact q2
  · rw [z_si1, if_neg (by omega)]; exact q3
  · exact ⟨(q4 q).1.eq (q_si_row (by omega)) (q_si_row (by omega)) (q_si_row (by omega)), (q4 q).2⟩
  · rw [q_si_row (by omega), q5 k (by rw [List.length_append]; omega), y_gd1 hk]
  · rw [q_si_row (by omega), q6 k (by rw [List.length_append]; omega), y_sa_1 hk]
theorem K_gol {σ : y_S} (w : y_W σ) {L : Int} {fT : Int32 → Int32 → Int32 → Int32 → q_M → Option (Unit × q_M)} {p : List Nat} {at_ : Int} {vis : Nat → Bool} (hi : y_Iv σ vis p at_) {F : Nat → List (List Nat)} (hF : ∀ r, y_my σ at_ vis p r = false → F r = []) (HT : ∀ (r : Nat) (μ : q_M) (B : List Nat) (N : Int), (r : Int) < σ 0 1 → y_my σ at_ vis p r = true → y_CB σ L μ → y_Ct σ B N p vis μ → ∃ μ', fT (iz (r : Int)) (iz at_) (iz (y_en σ p (σ 0 10))) (iz (p.length : Int)) μ = some ((), μ') ∧ y_Ct σ ((F r).foldl (y_jd σ L) B) (N + ((F r).length : Int)) p vis μ' ∧ y_Fz μ μ') (Kx : q_M → Option (Unit × q_M)) : ∀ (d n i : Nat) (μ : q_M) (B : List Nat) (N : Int), i + d = (σ 0 1).toNat → d < n → y_CB σ L μ → y_Ct σ B N p vis μ → ∃ μ', L_X1_goOn_25 fT (iz at_) (iz (y_en σ p (σ 0 10))) (iz (p.length : Int)) Kx n (iz (i : Int)) μ = Kx μ' ∧ y_Ct σ ((y_fr F d i).foldl (y_jd σ L) B) (N + ((y_fr F d i).length : Int)) p vis μ' ∧ y_Fz μ μ' := by
  have w1 := w.1.2.1
  have lp : p.length ≤ 6 := by have := hi.2.2.2.2; omega
  intro d
  induction d with
  | zero =>
    intro n i μ B N hi' hn hb hc
    obtain ⟨n, rfl⟩ : ∃ z, n = z + 1 := ⟨n - 1, by omega⟩
    rw [L_X1_goOn_25, d_roads hb.1, z_if (z_le32 (by omega) (by omega) (by omega) (by omega)), if_pos (by omega)]
    refine ⟨μ, rfl, ?_, y_Fz.rf⟩
    show y_Ct σ B (N + 0) p vis μ
    rw [Int.add_zero]
    exact hc
  | succ d ih =>
    intro n i μ B N hi' hn hb hc
    obtain ⟨n, rfl⟩ : ∃ z, n = z + 1 := ⟨n - 1, by omega⟩
    have hr : (i : Int) < σ 0 1 := by omega
    rw [L_X1_goOn_25, d_roads hb.1, z_if (z_le32 (by omega) (by omega) (by omega) (by omega)), if_neg (by omega), K_cta w hb hc hi.b.1 lp hi.2.2.2.1 hr, z_bd, z_if (z_by _), z_le, z_a1, y_fr_s, List.foldl_append, List.length_append]
    by_cases m : y_my σ at_ vis p i = true
    · rw [if_neg (by rw [m]; exact Bool.noConfusion)]
      obtain ⟨μ1, f1, c1, F1⟩ := HT i μ B N hr m hb hc
      rw [f1, z_bd, z_le]
      obtain ⟨μ2, f2, c2, F2⟩ := ih n (i + 1) μ1 ((F i).foldl (y_jd σ L) B) (N + ((F i).length : Int)) (by omega) (by omega) (F1.CB w hb) c1
      refine ⟨μ2, f2, ?_, F1.tr F2⟩
      rw [Int.natCast_add, ← Int.add_assoc]
      exact c2
    · have m' : y_my σ at_ vis p i = false := by simpa using m
      rw [if_pos m', hF i m']
      obtain ⟨μ2, f2, c2, F2⟩ := ih n (i + 1) μ B N (by omega) (by omega) hb hc
      refine ⟨μ2, f2, ?_, F2⟩
      rw [show (([] : List (List Nat)).length + (y_fr F d (i + 1)).length) = (y_fr F d (i + 1)).length from by simp]
      exact c2
theorem K_cgo {σ : y_S} (w : y_W σ) (wp : y_WP σ) {L : Int} (hL : y_LL σ L) (hne : σ 0 8 ≠ σ 0 9) : ∀ d : Nat, y_H σ L (q_G (d + 2)) d := by
  have w1 := w.1.2.1
  have w9 := w.1.2.2.2.2.2.2.2.2.2.1
  have fin : ∀ (fT : Int32 → Int32 → Int32 → Int32 → q_M → Option (Unit × q_M)) (d : Nat) (μ : q_M) (p : List Nat) (at_ : Int) (vis : Nat → Bool) (B : List Nat) (N : Int), y_CB σ L μ → y_Ct σ B N p vis μ → y_Iv σ vis p at_ → at_ = σ 0 9 → ∃ μ', f_X1_goOn fT (iz at_) (iz (y_en σ p (σ 0 10))) (iz (p.length : Int)) μ = some ((), μ') ∧ y_Ct σ ((y_ds σ d at_ vis p).foldl (y_jd σ L) B) (N + ((y_ds σ d at_ vis p).length : Int)) p vis μ' ∧ y_Fz μ μ' := by
    intro fT d μ p at_ vis B N hb hc hi he
    have e : y_ds σ d at_ vis p = [p] := by
      cases d <;> (unfold y_ds; rw [if_pos he])
    have gp : y_good σ p := ⟨by rw [← he]; exact hi.Pa, hi.2.2.2.1, by have := hi.2.2.2.2; omega⟩
    have hp : p ≠ [] := by
      intro q
      have := hi.1
      rw [q] at this
      exact hne (this.trans he)
    obtain ⟨μ', f, c, F⟩ := K_cons w wp hL hb hc gp hp
    unfold f_X1_goOn
    rw [d_to hb.1, if_pos (by rw [he]), f, z_bd, e]
    exact ⟨μ', rfl, c, F⟩
  intro d
  induction d with
  | zero =>
    intro μ p at_ vis B N hb hc hi hd
    show ∃ μ', f_X1_goOn (f_X1_take (q_G 1)) _ _ _ _ = _ ∧ _
    by_cases he : at_ = σ 0 9
    · exact fin _ 0 μ p at_ vis B N hb hc hi he
    · have ab := hi.b
      have l6 := hi.2.2.2.2
      rw [y_ds_0 w (by omega) he]
      unfold f_X1_goOn
      rw [d_to hb.1, z_if (z_eq32 (by omega) (by omega) (by omega) (by omega)), if_neg he, z_if (show (iz (p.length : Int) < 6) = ((p.length : Int) < 6) from z_lt32 (b := 6) (by omega) (by omega) (by omega) (by omega)), if_neg (by omega)]
      refine ⟨μ, rfl, ?_, y_Fz.rf⟩
      show y_Ct σ B (N + 0) p vis μ
      rw [Int.add_zero]
      exact hc
  | succ d ih =>
    intro μ p at_ vis B N hb hc hi hd
    show ∃ μ', f_X1_goOn (f_X1_take (q_G (d + 2))) _ _ _ _ = _ ∧ _
    by_cases he : at_ = σ 0 9
    · exact fin _ (d + 1) μ p at_ vis B N hb hc hi he
    · have ab := hi.b
      have l6 := hi.2.2.2.2
      unfold f_X1_goOn
      rw [d_to hb.1, z_if (z_eq32 (by omega) (by omega) (by omega) (by omega)), if_neg he, z_if (show (iz (p.length : Int) < 6) = ((p.length : Int) < 6) from z_lt32 (b := 6) (by omega) (by omega) (by omega) (by omega))]
      by_cases l : p.length < 6
      · rw [if_pos (by omega)]
        have e : y_ds σ (d + 1) at_ vis p = y_fr (fun r => if y_my σ at_ vis p r = true then y_ds σ d (y_oe σ r at_) (y_vs vis (y_oe σ r at_).toNat true) (p ++ [r]) else []) (σ 0 1).toNat 0 := by
          conv => lhs; unfold y_ds
          rw [if_neg he]
        rw [e]
        exact K_gol w hi (F := fun r => if y_my σ at_ vis p r = true then y_ds σ d (y_oe σ r at_) (y_vs vis (y_oe σ r at_).toNat true) (p ++ [r]) else []) (fun r m => by simp [m]) (fun r μ B N hr m hb hc => by
          simp only [m, if_true]
          exact K_ctk w ih hb hc hi hd hr m) (fun μ => some ((), μ)) (σ 0 1).toNat q_fu 0 μ B N (by omega) (by rw [z_fu]; omega) hb hc
      · rw [if_neg (by omega), y_ds_0 w (by omega) he]
        refine ⟨μ, rfl, ?_, y_Fz.rf⟩
        show y_Ct σ B (N + 0) p vis μ
        rw [Int.add_zero]
        exact hc
