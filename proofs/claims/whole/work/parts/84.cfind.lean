def y_Q (σ σ' : y_S) : Prop := (∀ c j, 1 ≤ c → c ≤ 18 → σ' c j = σ c j) ∧ ∀ j, 1 ≤ j → j ≤ 10 → j ≠ 6 → σ' 0 j = σ 0 j
theorem y_Q.f {σ σ' : y_S} (h : y_Q σ σ') {c : Nat} (h1 : 1 ≤ c) (h2 : c ≤ 18) : σ' c = σ c := funext fun j => h.1 c j h1 h2
theorem y_Q.bn {σ σ' : y_S} (h : y_Q σ σ') (r : Nat) (m : Int) : ∀ n : Nat, y_bn σ' r m n = y_bn σ r m n := by
  intro n
  induction n with
  | zero => rfl
  | succ n ih => unfold y_bn; rw [ih, h.f (c := 9) (by decide) (by decide), h.f (c := 10) (by decide) (by decide)]
theorem y_Q.ba {σ σ' : y_S} (h : y_Q σ σ') (r : Nat) (t : Int) : y_ba σ' r t = y_ba σ r t := by
  unfold y_ba
  rw [h.bn, h.f (c := 8) (by decide) (by decide)]
theorem y_Q.ea {σ σ' : y_S} (h : y_Q σ σ') (r : Nat) (t : Int) : ∀ (n : Nat) (k : Int), y_ea σ' r t n k = y_ea σ r t n k := by
  intro n
  induction n with
  | zero => intro k; rfl
  | succ n ih => intro k; unfold y_ea; rw [h.ba, ih]
theorem y_Q.st {σ σ' : y_S} (h : y_Q σ σ') (r : Nat) (t : Int) : y_st σ' r t = y_st σ r t := by
  unfold y_st
  rw [h.ea]
theorem y_Q.tk {σ σ' : y_S} (h : y_Q σ σ') (r : Nat) : y_tk σ' r = y_tk σ r := by
  unfold y_tk
  rw [h.f (c := 7) (by decide) (by decide), h.f (c := 12) (by decide) (by decide), h.f (c := 3) (by decide) (by decide)]
theorem y_Q.en {σ σ' : y_S} (h : y_Q σ σ') : ∀ (l : List Nat) (t : Int), y_en σ' l t = y_en σ l t := by
  intro l
  induction l with
  | nil => intro t; rfl
  | cons r l ih => intro t; unfold y_en; rw [ih, h.st, h.tk]
theorem y_Q.nb {σ σ' : y_S} (h : y_Q σ σ') : ∀ l : List Nat, y_nb σ' l = y_nb σ l := by
  intro l
  induction l with
  | nil => rfl
  | cons r l ih => unfold y_nb; rw [ih, h.f (c := 7) (by decide) (by decide)]
theorem y_Q.sa {σ σ' : y_S} (h : y_Q σ σ') (l : List Nat) (i : Nat) : y_sa σ' l i = y_sa σ l i := by
  unfold y_sa
  rw [h.st, h.en, h.2 10 (by decide) (by decide) (by decide)]
theorem y_Q.oe {σ σ' : y_S} (h : y_Q σ σ') (r : Nat) (a : Int) : y_oe σ' r a = y_oe σ r a := by
  unfold y_oe
  rw [h.f (c := 1) (by decide) (by decide), h.f (c := 2) (by decide) (by decide)]
theorem y_Q.wk {σ σ' : y_S} (h : y_Q σ σ') : ∀ (p : List Nat) (a : Int), y_wk σ' a p = y_wk σ a p := by
  intro p
  induction p with
  | nil => intro a; rfl
  | cons r p ih => intro a; unfold y_wk; rw [ih, h.oe]
theorem y_Q.nd {σ σ' : y_S} (h : y_Q σ σ') : ∀ (p : List Nat) (a : Int), y_nd σ' a p = y_nd σ a p := by
  intro p
  induction p with
  | nil => intro a; rfl
  | cons r p ih => intro a; unfold y_nd; rw [ih, h.oe]
theorem y_Q.Ls {σ σ' : y_S} (h : y_Q σ σ') (l : List Nat) : y_Ls σ' l = y_Ls σ l := by
  unfold y_Ls y_op
  rw [h.2 1 (by decide) (by decide) (by decide)]
  simp only [h.ea]
theorem y_Q.good {σ σ' : y_S} (h : y_Q σ σ') {l : List Nat} (g : y_good σ l) : y_good σ' l := by
  unfold y_good y_Pa at *
  rw [h.2 8 (by decide) (by decide) (by decide), h.2 9 (by decide) (by decide) (by decide), h.wk, h.nd, h.Ls]
  exact g
theorem y_Q.Wf {σ σ' : y_S} (h : y_Q σ σ') {μ : q_M} {k : Nat} {l : List Nat} (g : y_Wf σ μ k l) : y_Wf σ' μ k l := by
  obtain ⟨g1, g2, g3, g4, g5, g6⟩ := g
  refine ⟨g1, g2, fun i hi => ?_, ?_, ?_, g6⟩
  · rw [h.sa]; exact g3 i hi
  · rw [h.en, h.2 10 (by decide) (by decide) (by decide)]; exact g4
  · rw [h.nb]; exact g5
theorem y_Q.sm {σ σ' : y_S} (h : y_Q σ σ') (b : Nat) : y_same σ σ' b := ⟨h.2 3 (by decide) (by decide) (by decide), h.1 13 b (by decide) (by decide), fun k _ => ⟨h.1 14 _ (by decide) (by decide), h.1 15 _ (by decide) (by decide), h.1 16 _ (by decide) (by decide)⟩, fun i _ => ⟨h.1 17 _ (by decide) (by decide), h.1 18 _ (by decide) (by decide)⟩⟩
theorem y_RD.eq {σ σ' : y_S} {μ : q_M} (h : y_RD σ μ) (e : ∀ c j, c ≠ 19 → c ≠ 20 → σ' c j = σ c j) : y_RD σ' μ := by
  refine ⟨fun c j hd => ?_, fun c j hd => ?_⟩
  · have : c ≠ 19 ∧ c ≠ 20 := by
      constructor <;> (intro q; subst q; cases hd)
    rw [e c j this.1 this.2]; exact h.1 c j hd
  · have : c ≠ 19 ∧ c ≠ 20 := by
      constructor <;> (intro q; subst q; cases hd)
    rw [e c j this.1 this.2]; exact h.2 c j hd
theorem y_RB.eq2 {σ σ' : y_S} {μ μ' : q_M} (h : y_RB σ μ) (e0 : σ' 0 1 = σ 0 1) (e7 : ∀ j, σ' 7 j = σ 7 j) (e11 : ∀ j, σ' 11 j = σ 11 j) (hm : ∀ a, 14 ≤ a → a < 26 → μ'.1 a = μ.1 a) : y_RB σ' μ' := by
  refine ⟨fun r hr => ?_, fun r hr k hk => ?_⟩
  · rw [hm _ (by omega) (by omega), h.1 r hr]
    unfold y_br
    rw [e0, e7]
  · rw [hm _ (by omega) (by omega), e11]; exact h.2 r hr k hk
theorem y_Q.RK {σ σ' : y_S} (q : y_Q σ σ') (w : y_W σ) {μ μ' : q_M} (h : y_RK σ μ) (h1 : ∀ a, 50 ≤ a → a < 56 → μ'.1 a = μ.1 a) (h2 : ∀ a, 90 ≤ a → a < 113 → μ'.2 a = μ.2 a) : y_RK σ' μ' := fun b hb => (h b hb).sm ((q.sm b).top (w.2.2.1 b hb).1.1 w.1.2.2.2.1.1) (fun j _ => by rw [h1 _ (by omega) (by omega)]) (fun a ha => h2 a (by omega) (by omega))
def y_RC (σ : y_S) (μ : q_M) : Prop := y_RD σ μ ∧ y_RB σ μ ∧ y_RK σ μ ∧ y_RF σ μ
def y_Fy (μ μ' : q_M) : Prop := (∀ a, a ≠ 2 → a ≠ 119 → a ≠ 120 → a ≠ 127 → a ≠ 128 → a ≠ 135 → a ≠ 136 → μ'.1 a = μ.1 a) ∧ (∀ j, j < 10 → μ'.1 2 j = μ.1 2 j) ∧ μ'.2 = μ.2
theorem y_Fz.Fy {μ μ' : q_M} (h : y_Fz μ μ') : y_Fy μ μ' := ⟨h.1, fun j hj => h.2.1 j (by omega), h.2.2⟩
theorem y_Fy.tr {μ μ1 μ2 : q_M} (h : y_Fy μ μ1) (g : y_Fy μ1 μ2) : y_Fy μ μ2 := ⟨fun a h1 h2 h3 h4 h5 h6 h7 => (g.1 a h1 h2 h3 h4 h5 h6 h7).trans (h.1 a h1 h2 h3 h4 h5 h6 h7), fun j hj => (g.2.1 j hj).trans (h.2.1 j hj), g.2.2.trans h.2.2⟩
theorem y_Fy.si {μ : q_M} {j : Nat} {x : Int32} (h : 10 ≤ j) : y_Fy μ (q_si μ 2 j x) := by
  refine ⟨fun k h1 h2 h3 h4 h5 h6 h7 => q_si_row h1, fun i hi => ?_, rfl⟩
  rw [z_si1, if_neg (by omega)]
theorem y_Fy.Fc {μ μ' : q_M} (f : y_Fy μ μ') : y_Fc μ μ' := fun a ha => ⟨f.1 a (by omega) (by omega) (by omega) (by omega) (by omega) (by omega) (by omega), by rw [f.2.2]⟩
theorem y_Fy.RD {σ : y_S} {μ μ' : q_M} (f : y_Fy μ μ') (h : y_RD σ μ) : y_RD σ μ' := by
  refine ⟨fun c j hd => ?_, fun c j hd => ?_⟩
  · rw [← h.1 c j hd]
    have key : ∀ c, c < 22 → ∀ j, j < 50 → c_dom c j = true → (c_ca c j).1 < 56 ∧ ((c_ca c j).1 = 2 → (c_ca c j).2 < 10) := by decide +kernel
    have k := key c (c_dom_lt hd).1 j (c_dom_lt hd).2 hd
    by_cases e : (c_ca c j).1 = 2
    · rw [e]; exact f.2.1 _ (k.2 e)
    · rw [f.1 _ e (by omega) (by omega) (by omega) (by omega) (by omega) (by omega)]
  · rw [← h.2 c j hd, f.2.2]
theorem y_Fy.RC {σ : y_S} (w : y_W σ) {μ μ' : q_M} (f : y_Fy μ μ') (h : y_RC σ μ) : y_RC σ μ' := by
  have w6 := w.1.2.2.2.2.2.2.1
  refine ⟨f.RD h.1, h.2.1.eq2 rfl (fun _ => rfl) (fun _ => rfl) (fun a h1 h2 => f.1 _ (by omega) (by omega) (by omega) (by omega) (by omega) (by omega) (by omega)), fun b hb => (h.2.2.1 b hb).sm ⟨rfl, rfl⟩ (fun j _ => by rw [f.1 _ (by omega) (by omega) (by omega) (by omega) (by omega) (by omega) (by omega)]) (fun a _ => by rw [f.2.2]), fun g hg => ?_, ?_⟩
  · exact (h.2.2.2.1 g hg).eq (f.1 _ (by omega) (by omega) (by omega) (by omega) (by omega) (by omega) (by omega)) (f.1 _ (by omega) (by omega) (by omega) (by omega) (by omega) (by omega) (by omega)) (f.1 _ (by omega) (by omega) (by omega) (by omega) (by omega) (by omega) (by omega))
  · rw [f.1 _ (by omega) (by omega) (by omega) (by omega) (by omega) (by omega) (by omega)]; exact h.2.2.2.2
theorem K_look {σ : y_S} (w : y_W σ) (wp : y_WP σ) (wn : σ 0 7 ≠ 0 → σ 0 8 ≠ σ 0 9) {L : Int} (hL : y_LL σ L) {μ : q_M} (h : y_RC σ μ) (h10 : 0 < σ 0 6 → μ.1 2 10 = iz L) : ∃ μ', f_X1_lookThrough μ = some ((), μ') ∧ y_RC σ μ' ∧ μ'.1 2 13 = iz (if σ 0 7 = 0 then 0 else ((y_ws σ).length : Int)) ∧ (σ 0 7 ≠ 0 → μ'.1 2 14 = y_bI (!(y_bs σ L).isEmpty) ∧ (y_bs σ L ≠ [] → y_Wf σ μ' 120 (y_bs σ L) ∧ y_good σ (y_bs σ L))) ∧ y_Fc μ μ' := by
  have w1 := w.1.2.1
  have w7 := w.1.2.2.2.2.2.2.2.1
  have w8 := w.1.2.2.2.2.2.2.2.2.1
  obtain ⟨u, f0, hu⟩ := K_cuse w h.1 h.2.1 h.2.2.1
  unfold f_X1_lookThrough
  rw [f0, z_bd, z_le, z_le, z_le, z_le]
  have d7 : (q_si μ 2 11 u).1 2 7 = iz (σ 0 8) := by rw [z_si1, if_neg (by omega)]; exact d_from h.1
  rw [d7]
  generalize hμ4 : q_si (q_si (q_si (q_si μ 2 11 u) 2 12 (1 <<< (iz (σ 0 8) &&& 31))) 2 13 0) 2 14 0 = μ4
  have F4 : y_Fy μ μ4 := by
    rw [← hμ4]
    exact (((y_Fy.si (by omega)).tr (y_Fy.si (by omega))).tr (y_Fy.si (by omega))).tr (y_Fy.si (by omega))
  have R4 := F4.RC w h
  have c10 : μ4.1 2 10 = μ.1 2 10 := by rw [← hμ4, z_si1, if_neg (by omega), z_si1, if_neg (by omega), z_si1, if_neg (by omega), z_si1, if_neg (by omega)]
  have c11 : μ4.1 2 11 = u := by rw [← hμ4, z_si1, if_neg (by omega), z_si1, if_neg (by omega), z_si1, if_neg (by omega), z_si1, if_pos ⟨rfl, rfl⟩]
  have c12 : μ4.1 2 12 = 1 <<< (iz (σ 0 8) &&& 31) := by rw [← hμ4, z_si1, if_neg (by omega), z_si1, if_neg (by omega), z_si1, if_pos ⟨rfl, rfl⟩]
  have c13 : μ4.1 2 13 = 0 := by rw [← hμ4, z_si1, if_neg (by omega), z_si1, if_pos ⟨rfl, rfl⟩]
  have c14 : μ4.1 2 14 = 0 := by rw [← hμ4, z_si1, if_pos ⟨rfl, rfl⟩]
  rw [d_isRun R4.1, z_if (z_eq0 (by omega) (by omega)), d_from R4.1, d_minute R4.1]
  by_cases c : σ 0 7 = 0
  · rw [if_pos c, if_pos c]
    exact ⟨μ4, rfl, R4, by rw [c13]; rfl, fun q => absurd c q, F4.Fc⟩
  · rw [if_neg c, if_neg c]
    have hCB : y_CB σ L μ4 := ⟨R4.1, R4.2.1, R4.2.2.1, R4.2.2.2, fun q => by rw [c10]; exact h10 q, fun r hr => by rw [c11, hu r (by omega), decide_eq_true (by omega), Bool.true_and]⟩
    have hCt : y_Ct σ [] 0 [] (y_v0 σ) μ4 := by
      refine ⟨fun k hk => ?_, c13, c14, fun q => absurd rfl q, fun k hk => absurd hk (Nat.not_lt_zero _), fun k hk => absurd hk (Nat.not_lt_zero _)⟩
      have := z_one (n := (σ 0 8).toNat) (i := k) (by omega) (by omega)
      rw [Int.toNat_of_nonneg w8.1] at this
      rw [c12, this]
      rfl
    obtain ⟨μ5, f5, q5, F5⟩ := K_cgo w wp hL (wn c) 6 μ4 [] (σ 0 8) (y_v0 σ) [] 0 hCB hCt (y_Iv0 w) (by rw [y_v0_cn w]; omega)
    rw [show q_G 8 (iz (σ 0 8)) (iz (σ 0 10)) 0 μ4 = _ from f5, z_bd]
    refine ⟨μ5, rfl, F5.Fy.RC w R4, ?_, fun _ => ⟨q5.2.2.1, q5.2.2.2.1⟩, F4.Fc.tr F5.Fc⟩
    rw [q5.2.1, Int.zero_add]
    rfl
theorem n_keep_ne {σ : y_S} {B : List Nat} {c j : Nat} (h1 : c ≠ 19) (h2 : c ≠ 20) (h3 : c ≠ 0 ∨ j ≠ 6) : n_keep σ B c j = σ c j := by
  unfold n_keep
  rw [y_up_ne (by omega), y_up_ne (by omega), if_neg (by omega)]
theorem n_keep_Q {σ : y_S} {B : List Nat} : y_Q σ (n_keep σ B) := ⟨fun c j h1 h2 => n_keep_ne (by omega) (by omega) (by omega), fun j h1 h2 h3 => n_keep_ne (by omega) (by omega) (by omega)⟩
theorem n_keep_6 {σ : y_S} {B : List Nat} : n_keep σ B 0 6 = σ 0 6 + 1 := by
  unfold n_keep
  rw [y_up_eq]
theorem n_keep_20 {σ : y_S} {B : List Nat} {f : Nat} : n_keep σ B 20 f = if f = (σ 0 6).toNat then (B.length : Int) else σ 20 f := by
  unfold n_keep
  rw [y_up_ne (by omega)]
  by_cases e : f = (σ 0 6).toNat
  · subst e; rw [y_up_eq, if_pos rfl]
  · rw [y_up_ne (by omega), if_neg e, if_neg (by omega)]
theorem n_keep_19 {σ : y_S} {B : List Nat} {j : Nat} : n_keep σ B 19 j = if 12 * (σ 0 6).toNat ≤ j ∧ j < 12 * (σ 0 6).toNat + B.length then ((B.getD (j - 12 * (σ 0 6).toNat) 0 : Nat) : Int) else σ 19 j := by
  unfold n_keep
  rw [y_up_ne (by omega), y_up_ne (by omega)]
  by_cases e : 12 * (σ 0 6).toNat ≤ j ∧ j < 12 * (σ 0 6).toNat + B.length
  · rw [if_pos ⟨rfl, e⟩, if_pos e]
  · rw [if_neg (fun q => e q.2), if_neg e]
theorem y_xt {p q : List Nat} (h : p.length = q.length) (g : ∀ i, i < p.length → p.getD i 0 = q.getD i 0) : p = q := by
  apply List.ext_getElem h
  intro i h1 h2
  have := g i h1
  simpa [List.getD_eq_getElem?_getD, h1, h2] using this
theorem n_keep_new {σ : y_S} {B : List Nat} : y_fw (n_keep σ B) (σ 0 6).toNat = B := by
  have e : (n_keep σ B 20 (σ 0 6).toNat).toNat = B.length := by rw [n_keep_20, if_pos rfl]; omega
  apply y_xt
  · rw [y_fw_len, e]
  · intro i h1
    rw [y_fw_len, e] at h1
    rw [y_fw_get (by omega), n_keep_19, if_pos (by omega), show 12 * (σ 0 6).toNat + i - 12 * (σ 0 6).toNat = i by omega]
    rfl
theorem n_keep_old {σ : y_S} (wf : y_WF σ) {B : List Nat} {f : Nat} (hf : (f : Int) < σ 0 6) : y_fw (n_keep σ B) f = y_fw σ f := by
  have g := (wf f hf).1
  unfold y_fw
  rw [n_keep_20, if_neg (by omega)]
  apply List.map_congr_left
  intro k hk
  have hk := List.mem_range.mp hk
  rw [n_keep_19, if_neg (by omega)]
theorem K_keepB {σ : y_S} (w : y_W σ) (wf : y_WF σ) (hf : σ 0 6 < 5) {μ : q_M} (h : y_RC σ μ) {B : List Nat} (h14 : μ.1 2 14 = y_bI (!B.isEmpty)) (hB : B ≠ [] → y_Wf σ μ 120 B ∧ y_good σ B) : ∃ μ', f_X1_keepBest μ = some (iz (a_run σ B), μ') ∧ y_RC (n_kb σ B) μ' ∧ y_Fc μ μ' := by
  have w6 := w.1.2.2.2.2.2.2.1
  unfold f_X1_keepBest a_run n_kb
  rw [h14, z_if (z_by _)]
  by_cases e : B = []
  · subst e
    rw [if_pos (show (!([] : List Nat).isEmpty) = false from rfl), if_pos (show ([] : List Nat).length = 0 from rfl), if_pos (show ([] : List Nat).length = 0 from rfl)]
    exact ⟨μ, rfl, h, y_Fc.rf⟩
  · have eB : B.isEmpty = false := by
      cases B with
      | nil => exact absurd rfl e
      | cons _ _ => rfl
    have l0 : 0 < B.length := List.length_pos_iff.mpr e
    obtain ⟨WB, gB⟩ := hB e
    have cl : (iz (σ 0 6)).toNatClampNeg = (σ 0 6).toNat := by rw [z_cl (by omega) (by omega)]
    rw [eB, if_neg (show ¬ (!false) = false by decide), if_neg (show ¬ B.length = 0 by omega), if_neg (show ¬ B.length = 0 by omega), d_found h.1, z_if (show (iz (σ 0 6) < 5) = (σ 0 6 < 5) from z_lt32 (b := 5) (by omega) (by omega) (by omega) (by omega)), if_pos hf, z_gd (z_ix (by omega) (by omega) (by omega)), cl]
    obtain ⟨μ1, f1, W1, a1, m1⟩ := K_copy (σ := σ) (x0 := 113 + (σ 0 6).toNat) (x1 := 120) (by omega) gB.2.2 WB
    rw [f1, z_bd, z_le]
    have d5 : μ1.1 2 5 = iz (σ 0 6) := by rw [a1 2 (by omega) (by omega) (by omega)]; exact d_found h.1
    have R1 : y_RD σ μ1 := by
      refine ⟨fun c j hd => ?_, fun c j hd => ?_⟩
      · rw [← h.1.1 c j hd]
        have key : ∀ c, c < 22 → ∀ j, j < 50 → c_dom c j = true → (c_ca c j).1 < 56 := by decide +kernel
        have k := key c (c_dom_lt hd).1 j (c_dom_lt hd).2 hd
        rw [a1 _ (by omega) (by omega) (by omega)]
      · rw [← h.1.2 c j hd, m1]
    have e3 : (q_si μ1 2 5 (iz (σ 0 6 + 1))).1 120 3 - (q_si μ1 2 5 (iz (σ 0 6 + 1))).1 2 9 = iz (y_en σ B (σ 0 10) - σ 0 10) := by
      rw [q_si_row (by omega), z_si1, if_neg (by omega), a1 120 (by omega) (by omega) (by omega), WB.2.2.2.1, d_minute R1, z_sub]
    rw [d5, z_a1, e3]
    have R2 : y_RD (y_up σ 0 6 (σ 0 6 + 1)) (q_si μ1 2 5 (iz (σ 0 6 + 1))) := R1.set (c := 0) (j := 6) (by decide) rfl rfl (by decide)
    refine ⟨_, rfl, ⟨?_, ?_, ?_, ?_⟩, ?_⟩
    · refine R2.eq (fun c j h1 h2 => ?_)
      by_cases q : c = 0 ∧ j = 6
      · obtain ⟨rfl, rfl⟩ := q
        rw [n_keep_6, y_up_eq]
      · rw [n_keep_ne h1 h2 (by omega), y_up_ne (by omega)]
    · refine h.2.1.eq2 (n_keep_ne (by omega) (by omega) (by omega)) (fun j => n_keep_ne (by omega) (by omega) (by omega)) (fun j => n_keep_ne (by omega) (by omega) (by omega)) (fun a h1 h2 => ?_)
      rw [q_si_row (by omega), a1 a (by omega) (by omega) (by omega)]
    · refine n_keep_Q.RK w h.2.2.1 (fun a h1 h2 => ?_) (fun a h1 h2 => ?_)
      · rw [q_si_row (by omega), a1 a (by omega) (by omega) (by omega)]
      · rw [z_si2, m1]
    · refine ⟨fun f hf' => ?_, ?_⟩
      · rw [n_keep_6] at hf'
        by_cases q : f = (σ 0 6).toNat
        · subst q
          rw [n_keep_new]
          exact n_keep_Q.Wf (W1.eq (q_si_row (by omega)) (q_si_row (by omega)) (q_si_row (by omega)))
        · rw [n_keep_old wf (by omega)]
          refine n_keep_Q.Wf ((h.2.2.2.1 f (by omega)).eq ?_ ?_ ?_)
          · rw [q_si_row (by omega), a1 _ (by omega) (by omega) (by omega)]
          · rw [q_si_row (by omega), a1 _ (by omega) (by omega) (by omega)]
          · rw [q_si_row (by omega), a1 _ (by omega) (by omega) (by omega)]
      · rw [q_si_row (by omega), a1 _ (by omega) (by omega) (by omega)]; exact h.2.2.2.2
    · intro a ha
      refine ⟨?_, ?_⟩
      · rw [q_si_row (by omega), a1 a (by omega) (by omega) (by omega)]
      · rw [z_si2, m1]
