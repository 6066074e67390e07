theorem y_Fc.RM {σ : y_S} {μ μ' : q_M} (f : y_Fc μ μ') (h : y_RM σ μ) : y_RM σ μ' := by
  refine ⟨fun j hj => ?_, fun c h1 h2 j => ?_⟩
  · rw [(f 137 (by omega)).1]; exact h.1 j hj
  · rw [(f (137 + c) (by omega)).1]; exact h.2 c h1 h2 j
theorem y_Fm.RC {σ : y_S} (w : y_W σ) {μ μ' : q_M} (f : y_Fm μ μ') (h : y_RC σ μ) : y_RC σ μ' := by
  have w6 := w.1.2.2.2.2.2.2.1
  refine ⟨⟨fun c j hd => ?_, fun c j hd => ?_⟩, ⟨fun r hr => ?_, fun r hr k hk => ?_⟩, fun b hb => (h.2.2.1 b hb).sm ⟨rfl, rfl⟩ (fun j _ => by rw [(f _ (by omega)).1]) (fun a ha => (f a (by omega)).2), fun g hg => ?_, ?_⟩
  · rw [← h.1.1 c j hd]
    have key : ∀ c, c < 22 → ∀ j, j < 50 → c_dom c j = true → (c_ca c j).1 < 137 := by decide +kernel
    rw [(f _ (key c (c_dom_lt hd).1 j (c_dom_lt hd).2 hd)).1]
  · rw [← h.1.2 c j hd]
    have key : ∀ c, c < 22 → ∀ j, j < 50 → c_doL c j = true → (c_cl c j).1 < 137 := by decide +kernel
    rw [(f _ (key c (c_doL_lt hd).1 j (c_doL_lt hd).2 hd)).2]
  · rw [(f _ (by omega)).1]; exact h.2.1.1 r hr
  · rw [(f _ (by omega)).1]; exact h.2.1.2 r hr k hk
  · exact (h.2.2.2.1 g hg).eq (f _ (by omega)).1 (f _ (by omega)).1 (f _ (by omega)).1
  · rw [(f _ (by omega)).1]; exact h.2.2.2.2
def y_R (μ : q_M) : Prop := ∃ σ, y_Inv σ ∧ y_RM σ μ ∧ y_RC σ μ
abbrev y_stp {α : Type} (f g : q_M → Option (α × q_M)) (μ : q_M) : Prop := ∃ r μ1 μ2, f μ = some (r, μ1) ∧ g μ1 = some (r, μ2) ∧ y_R μ2
theorem y_stp.mk {α : Type} {f g : q_M → Option (α × q_M)} {σ' : y_S} {μ μ1 μ2 : q_M} {r : α} (I : y_Inv σ') (h1 : f μ = some (r, μ1)) (h2 : g μ1 = some (r, μ2)) (hm : y_RM σ' μ2) (hc : y_RC σ' μ1) (F : y_Fm μ1 μ2) : y_stp f g μ := ⟨r, μ1, μ2, h1, h2, σ', I, hm, F.RC I.1 hc⟩
theorem y_Sc.R {σ : y_S} {μ μ' : q_M} (f : y_Sc μ μ') (h : y_RM σ μ) : y_RM σ μ' := f.RM h
theorem S_node {μ : q_M} (h : y_R μ) : y_stp f_X9_node f_X10_node μ := by
  obtain ⟨σ, I, hm, hc⟩ := h
  obtain ⟨μ1, f1, R1, e1⟩ := C_node hc.1 I.1.1
  have a : ∀ b, b ≠ 1 → μ1.1 b = μ.1 b := fun b hb => by
    rcases e1 with q | ⟨x, q⟩
    · rw [q]
    · rw [q, q_si_row hb]
  have m : μ1.2 = μ.2 := by
    rcases e1 with q | ⟨x, q⟩
    · rw [q]
    · rw [q]; rfl
  have F1 : y_Fc μ μ1 := fun b hb => ⟨a b (by omega), by rw [m]⟩
  obtain ⟨μ2, f2, R2, F2⟩ := M_node (F1.RM hm) I.1.1
  have ne : ∀ c j, (c ≠ 0 ∨ j ≠ 0) → n_node σ c j = σ c j := fun c j q => by
    unfold n_node
    split
    · rfl
    · exact y_up_ne (by omega)
  have Q : y_Q σ (n_node σ) := ⟨fun c j h1 h2 => ne c j (by omega), fun j h1 h2 h3 => ne 0 j (by omega)⟩
  have w6 := I.1.1.2.2.2.2.2.2.1
  refine y_stp.mk (n_node_I I) f1 f2 R2 ⟨R1, hc.2.1.eq2 (ne 0 1 (by omega)) (fun j => ne 7 j (by omega)) (fun j => ne 11 j (by omega)) (fun b h1 h2 => a b (by omega)), Q.RK I.1 hc.2.2.1 (fun b h1 h2 => a b (by omega)) (fun b _ _ => by rw [m]), fun f hf => ?_, by rw [a _ (by omega)]; exact hc.2.2.2.2⟩ F2
  rw [ne 0 6 (by omega)] at hf
  have fw : y_fw (n_node σ) f = y_fw σ f := by
    unfold y_fw
    rw [ne 20 _ (by omega)]
    apply List.map_congr_left
    intro k _
    rw [ne 19 _ (by omega)]
  rw [fw]
  exact Q.Wf ((hc.2.2.2.1 f hf).eq (a _ (by omega)) (a _ (by omega)) (a _ (by omega)))
theorem S_road (x1 x2 x3 x4 x5 : Int32) {μ : q_M} (h : y_R μ) : y_stp (f_X9_road x1 x2 x3 x4 x5) (f_X10_road x1 x2 x3 x4 x5) μ := by
  obtain ⟨σ, I, hm, hc⟩ := h
  have w1 := I.1.1.2.1
  by_cases p : p_road σ x1.toInt x2.toInt x3.toInt x4.toInt x5.toInt
  · obtain ⟨f1, R1, B1⟩ := (C_road hc.1 hc.2.1 I.1.1 x1 x2 x3 x4 x5).1 p
    have n12 : (σ 0 1).toNat < 12 := by have := p.2.2.2.2.2.2; omega
    generalize hn : (σ 0 1).toNat = n at *
    have a : ∀ b, b ≠ 1 → b ≠ 2 → ¬ (14 ≤ b ∧ b < 26) → (u_road μ n x1 x2 x3 x4 x5 (iz (σ 0 1 + 1))).1 b = μ.1 b := fun b h1 h2 h3 => by
      unfold u_road
      rw [q_si_row (by omega), q_si_row (by omega), q_si_row (by omega), q_si_row (by omega), q_si_row (by omega), q_si_row (by omega), q_si_row (by omega), q_si_row (by omega)]
    have m : (u_road μ n x1 x2 x3 x4 x5 (iz (σ 0 1 + 1))).2 = μ.2 := rfl
    generalize u_road μ n x1 x2 x3 x4 x5 (iz (σ 0 1 + 1)) = μ1 at *
    have F1 : y_Fc μ μ1 := fun b hb => ⟨a b (by omega) (by omega) (by omega), by rw [m]⟩
    obtain ⟨μ2, f2, R2, F2⟩ := (M_road (F1.RM hm) I.1.1 x1 x2 x3 x4 x5).1 p
    refine y_stp.mk (n_road_I I p) f1 f2 R2 (hc.fg I.1 R1 B1 (n_road_ne (by omega)) (fun c j h1 h2 => n_road_ne (by omega)) ?_ (fun b hb j hj => by rw [a _ (by omega) (by omega) (by omega)]) m (by rw [a _ (by omega) (by omega) (by omega)])) F2
    unfold n_road y_fg
    exact y_up_eq
  · exact y_stp.mk I ((C_road hc.1 hc.2.1 I.1.1 x1 x2 x3 x4 x5).2 p) ((M_road hm I.1.1 x1 x2 x3 x4 x5).2 p) hm hc y_Fm.rf
theorem S_bridge (x1 : Int32) {μ : q_M} (h : y_R μ) : y_stp (f_X9_bridge x1) (f_X10_bridge x1) μ := by
  obtain ⟨σ, I, hm, hc⟩ := h
  have w1 := I.1.1.2.1
  by_cases p : p_bridge σ x1.toInt
  · obtain ⟨f1, R1, B1⟩ := (C_bridge hc.1 hc.2.1 I.1.1 I.1.2.1 x1).1 p
    have n12 : x1.toInt.toNat < 12 := by have := p.1; omega
    have a : ∀ b, b ≠ 1 → b ≠ 2 → ¬ (14 ≤ b ∧ b < 26) → (u_bridge μ x1.toInt.toNat (σ 0 2)).1 b = μ.1 b := fun b h1 h2 h3 => by
      unfold u_bridge
      rw [q_si_row (by omega), q_si_row (by omega), q_si_row (by omega)]
    have m : (u_bridge μ x1.toInt.toNat (σ 0 2)).2 = μ.2 := rfl
    generalize u_bridge μ x1.toInt.toNat (σ 0 2) = μ1 at *
    have F1 : y_Fc μ μ1 := fun b hb => ⟨a b (by omega) (by omega) (by omega), by rw [m]⟩
    obtain ⟨μ2, f2, R2, F2⟩ := (M_bridge (F1.RM hm) I.1.1 I.1.2.1 x1).1 p
    refine y_stp.mk (n_bridge_I I p) f1 f2 R2 (hc.fg I.1 R1 B1 (n_bridge_ne (by omega)) (fun c j h1 h2 => n_bridge_ne (by omega)) ?_ (fun b hb j hj => by rw [a _ (by omega) (by omega) (by omega)]) m (by rw [a _ (by omega) (by omega) (by omega)])) F2
    unfold n_bridge y_fg
    exact y_up_eq
  · exact y_stp.mk I ((C_bridge hc.1 hc.2.1 I.1.1 I.1.2.1 x1).2 p) ((M_bridge hm I.1.1 I.1.2.1 x1).2 p) hm hc y_Fm.rf
theorem S_row (x1 : Int32) (x2 x4 x6 : Int64) {μ : q_M} (h : y_R μ) : y_stp (f_X9_row x1 x2 x4 x6) (f_X10_row x1 x2 x4 x6) μ := by
  obtain ⟨σ, I, hm, hc⟩ := h
  by_cases p : p_row σ x1.toInt x2.toInt x4.toInt x6.toInt
  · obtain ⟨μ1, f1, R1, B1, K1, F1, e1⟩ := (C_row I.1 hc.1 hc.2.1 hc.2.2.1 x1 x2 x4 x6).1 p
    obtain ⟨μ2, f2, R2, F2⟩ := (M_row I.1 (F1.RM hm) x1 x2 x4 x6).1 p
    exact y_stp.mk (n_row_I I p) f1 f2 R2 ⟨R1, B1, K1, fun f hf => by rw [n_row_6] at hf; omega, by rw [e1]; exact hc.2.2.2.2⟩ F2
  · exact y_stp.mk I ((C_row I.1 hc.1 hc.2.1 hc.2.2.1 x1 x2 x4 x6).2 p) ((M_row I.1 hm x1 x2 x4 x6).2 p) hm hc y_Fm.rf
theorem S_axle (x1 x3 : Int64) {μ : q_M} (h : y_R μ) : y_stp (f_X9_axle x1 x3) (f_X10_axle x1 x3) μ := by
  obtain ⟨σ, I, hm, hc⟩ := h
  by_cases p : p_axle σ x1.toInt x3.toInt
  · obtain ⟨μ1, f1, R1, B1, K1, F1, e1⟩ := (C_axle I.1 I.2.2.2.1 I.2.2.2.2.1 hc.1 hc.2.1 hc.2.2.1 x1 x3).1 p
    obtain ⟨μ2, f2, R2, F2⟩ := (M_axle I.1 (F1.RM hm) x1 x3).1 p
    exact y_stp.mk (n_axle_I I p) f1 f2 R2 ⟨R1, B1, K1, fun f hf => by rw [n_axle_6] at hf; omega, by rw [e1]; exact hc.2.2.2.2⟩ F2
  · exact y_stp.mk I ((C_axle I.1 I.2.2.2.1 I.2.2.2.2.1 hc.1 hc.2.1 hc.2.2.1 x1 x3).2 p) ((M_axle I.1 hm x1 x3).2 p) hm hc y_Fm.rf
theorem y_RB.n1 {σ σ' : y_S} {μ μ' : q_M} (h : y_RB σ μ) (e0 : σ' 0 1 = σ 0 1) (e7 : ∀ j, σ' 7 j = σ 7 j) (e11 : ∀ j, σ' 11 j = σ 11 j) (hm : ∀ a, 14 ≤ a → a < 26 → μ'.1 a = μ.1 a) : y_RB σ' μ' := h.eq2 e0 e7 e11 hm
theorem S_size (x1 x2 x3 : Int32) {μ : q_M} (h : y_R μ) : y_stp (f_X9_size x1 x2 x3) (f_X10_size x1 x2 x3) μ := by
  obtain ⟨σ, I, hm, hc⟩ := h
  by_cases p : p_size x1.toInt x2.toInt x3.toInt
  · obtain ⟨f1, R1⟩ := (C_size hc.1 x1 x2 x3).1 p
    have a : ∀ b, b ≠ 2 → b ≠ 3 → (q_si (q_si (q_si μ 2 5 0) 3 0 x1) 3 1 x2).1 b = μ.1 b := fun b h1 h2 => by rw [q_si_row h2, q_si_row h2, q_si_row h1]
    have m : (q_si (q_si (q_si μ 2 5 0) 3 0 x1) 3 1 x2).2 = μ.2 := rfl
    generalize q_si (q_si (q_si μ 2 5 0) 3 0 x1) 3 1 x2 = μ1 at *
    have F1 : y_Fc μ μ1 := fun b hb => ⟨a b (by omega) (by omega), by rw [m]⟩
    obtain ⟨μ2, f2, R2, F2⟩ := (M_size (F1.RM hm) x1 x2 x3).1 p
    refine y_stp.mk (n_size_I I p) f1 f2 R2 (hc.fg I.1 R1 (hc.2.1.eq2 (n_size_ne (by omega)) (fun j => n_size_ne (by omega)) (fun j => n_size_ne (by omega)) (fun b h1 h2 => a b (by omega) (by omega))) (n_size_ne (by omega)) (fun c j h1 h2 => n_size_ne (by omega)) ?_ (fun b hb j hj => by rw [a _ (by omega) (by omega)]) m (by rw [a _ (by omega) (by omega)])) F2
    unfold n_size y_fg
    exact y_up_eq
  · exact y_stp.mk I ((C_size hc.1 x1 x2 x3).2 p) ((M_size hm x1 x2 x3).2 p) hm hc y_Fm.rf
theorem S_turn (x1 x2 x3 : Int32) {μ : q_M} (h : y_R μ) : y_stp (f_X9_turn x1 x2 x3) (f_X10_turn x1 x2 x3) μ := by
  obtain ⟨σ, I, hm, hc⟩ := h
  have w1 := I.1.1.2.1
  by_cases p : p_turn σ x1.toInt x2.toInt
  · obtain ⟨μ1, y, e1, f1, R1, B1⟩ := (C_turn hc.1 hc.2.1 I.1.1 I.1.2.1 x1 x2 x3).1 p
    have n12 : x1.toInt.toNat < 12 := by have := p.1; omega
    have a : ∀ b, b ≠ 2 → ¬ (14 ≤ b ∧ b < 26) → μ1.1 b = μ.1 b := fun b h1 h2 => by rw [e1, q_si_row (by omega), q_si_row (by omega)]
    have m : μ1.2 = μ.2 := by rw [e1]; rfl
    have F1 : y_Fc μ μ1 := fun b hb => ⟨a b (by omega) (by omega), by rw [m]⟩
    obtain ⟨μ2, f2, R2, F2⟩ := (M_turn (F1.RM hm) I.1.1 I.1.2.1 x1 x2 x3).1 p
    refine y_stp.mk (n_turn_I I) f1 f2 R2 (hc.fg I.1 R1 B1 (n_turn_ne (by omega)) (fun c j h1 h2 => n_turn_ne (by omega)) ?_ (fun b hb j hj => by rw [a _ (by omega) (by omega)]) m (by rw [a _ (by omega) (by omega)])) F2
    unfold n_turn y_fg
    exact y_up_eq
  · exact y_stp.mk I ((C_turn hc.1 hc.2.1 I.1.1 I.1.2.1 x1 x2 x3).2 p) ((M_turn hm I.1.1 I.1.2.1 x1 x2 x3).2 p) hm hc y_Fm.rf
theorem S_hours (x1 x2 x3 : Int32) {μ : q_M} (h : y_R μ) : y_stp (f_X9_hours x1 x2 x3) (f_X10_hours x1 x2 x3) μ := by
  obtain ⟨σ, I, hm, hc⟩ := h
  have w1 := I.1.1.2.1
  by_cases p : p_hours σ x1.toInt x2.toInt x3.toInt
  · obtain ⟨μ1, e1, f1, R1, B1⟩ := (C_hours hc.1 hc.2.1 I.1.1 I.1.2.1 x1 x2 x3).1 p
    have n12 : x1.toInt.toNat < 12 := by have := p.1; omega
    have a : ∀ b, b ≠ 2 → ¬ (14 ≤ b ∧ b < 50) → μ1.1 b = μ.1 b := fun b h1 h2 => by
      rw [e1]
      unfold u_hours
      rw [q_si_row (by omega), q_si_row (by omega), q_si_row (by omega), q_si_row (by omega)]
    have m : μ1.2 = μ.2 := by rw [e1]; rfl
    have F1 : y_Fc μ μ1 := fun b hb => ⟨a b (by omega) (by omega), by rw [m]⟩
    obtain ⟨μ2, f2, R2, F2⟩ := (M_hours (F1.RM hm) I.1.1 I.1.2.1 x1 x2 x3).1 p
    refine y_stp.mk (n_hours_I I p) f1 f2 R2 (hc.fg I.1 R1 B1 (n_hours_ne (by omega)) (fun c j h1 h2 => n_hours_ne (by omega)) ?_ (fun b hb j hj => by rw [a _ (by omega) (by omega)]) m (by rw [a _ (by omega) (by omega)])) F2
    unfold n_hours y_fg
    exact y_up_eq
  · exact y_stp.mk I ((C_hours hc.1 hc.2.1 I.1.1 I.1.2.1 x1 x2 x3).2 p) ((M_hours hm I.1.1 I.1.2.1 x1 x2 x3).2 p) hm hc y_Fm.rf
theorem z_zv {x : Int32} (h : q_zb x = true) : x.toInt = 0 ∨ x.toInt = 1 := by
  unfold q_zb at h
  rcases of_decide_eq_true h with q | q
  · rw [q]; exact Or.inl rfl
  · rw [q]; exact Or.inr rfl
theorem S_slow (x1 x2 : Int32) (hz : q_zb x2 = true) {μ : q_M} (h : y_R μ) : y_stp (f_X9_slow x1 x2) (f_X10_slow x1 x2) μ := by
  obtain ⟨σ, I, hm, hc⟩ := h
  have w2 := I.1.1.2.2.1
  by_cases p : p_slow σ x1.toInt
  · obtain ⟨f1, R1, B1⟩ := (C_slow hc.1 hc.2.1 I.1.1 I.1.2.2.2.2.1 x1 x2 hz).1 p
    have n12 : x1.toInt.toNat < 6 := by have := p; unfold p_slow at this; omega
    have a : ∀ b, b ≠ 2 → ¬ (50 ≤ b ∧ b < 56) → (u_slow μ x1.toInt.toNat x2).1 b = μ.1 b := fun b h1 h2 => by
      unfold u_slow
      rw [q_si_row (by omega), q_si_row (by omega)]
    have a2 : ∀ b, b < 6 → ∀ j, j = 6 ∨ j = 7 → (u_slow μ x1.toInt.toNat x2).1 (50 + b) j = μ.1 (50 + b) j := fun b hb j hj => by
      unfold u_slow
      rw [z_si1, if_neg (by omega), q_si_row (by omega)]
    have m : (u_slow μ x1.toInt.toNat x2).2 = μ.2 := rfl
    generalize u_slow μ x1.toInt.toNat x2 = μ1 at *
    have F1 : y_Fc μ μ1 := fun b hb => ⟨a b (by omega) (by omega), by rw [m]⟩
    obtain ⟨μ2, f2, R2, F2⟩ := (M_slow (F1.RM hm) I.1.1 I.1.2.2.2.2.1 x1 x2 hz).1 p
    refine y_stp.mk (n_slow_I I (z_zv hz)) f1 f2 R2 (hc.fg I.1 R1 B1 (n_slow_ne (by omega)) (fun c j h1 h2 => n_slow_ne (by omega)) ?_ a2 m (by rw [a _ (by omega) (by omega)])) F2
    unfold n_slow y_fg
    exact y_up_eq
  · exact y_stp.mk I ((C_slow hc.1 hc.2.1 I.1.1 I.1.2.2.2.2.1 x1 x2 hz).2 p) ((M_slow hm I.1.1 I.1.2.2.2.2.1 x1 x2 hz).2 p) hm hc y_Fm.rf
theorem S_change (x1 x2 : Int32) (hz : q_zb x2 = true) {μ : q_M} (h : y_R μ) : y_stp (f_X9_change x1 x2) (f_X10_change x1 x2) μ := by
  obtain ⟨σ, I, hm, hc⟩ := h
  have w1 := I.1.1.2.1
  by_cases p : p_change σ x1.toInt
  · obtain ⟨f1, R1, B1⟩ := (C_change hc.1 hc.2.1 I.1.1 I.1.2.1 x1 x2 hz).1 p
    have n12 : x1.toInt.toNat < 12 := by have := p; unfold p_change at this; omega
    have a : ∀ b, b ≠ 2 → ¬ (14 ≤ b ∧ b < 26) → (u_change μ x1.toInt.toNat x2).1 b = μ.1 b := fun b h1 h2 => by
      unfold u_change
      rw [q_si_row (by omega), q_si_row (by omega)]
    have m : (u_change μ x1.toInt.toNat x2).2 = μ.2 := rfl
    generalize u_change μ x1.toInt.toNat x2 = μ1 at *
    have F1 : y_Fc μ μ1 := fun b hb => ⟨a b (by omega) (by omega), by rw [m]⟩
    obtain ⟨μ2, f2, R2, F2⟩ := (M_change (F1.RM hm) I.1.1 I.1.2.1 x1 x2 hz).1 p
    refine y_stp.mk (n_change_I I (by have := z_zv hz; omega)) f1 f2 R2 (hc.fg I.1 R1 B1 (n_change_ne (by omega)) (fun c j h1 h2 => n_change_ne (by omega)) ?_ (fun b hb j hj => by rw [a _ (by omega) (by omega)]) m (by rw [a _ (by omega) (by omega)])) F2
    unfold n_change y_fg
    exact y_up_eq
  · exact y_stp.mk I ((C_change hc.1 hc.2.1 I.1.1 I.1.2.1 x1 x2 hz).2 p) ((M_change hm I.1.1 I.1.2.1 x1 x2 hz).2 p) hm hc y_Fm.rf
theorem y_S5.RC {σ : y_S} {μ μ' : q_M} (f : y_Fx (y_S5 80) μ μ') (h : y_RC σ μ) : y_RC σ μ' := by
  refine ⟨?_, ?_, y_S5.RK f h.2.2.1, ?_, ?_⟩
  · refine ⟨fun c j hd => by rw [f.1]; exact h.1.1 c j hd, fun c j hd => ?_⟩
    have key : ∀ c, c < 22 → ∀ j, j < 50 → c_doL c j = true → (c_cl c j).1 = 9 ∨ (c_cl c j).1 = 10 ∨ (56 ≤ (c_cl c j).1 ∧ (c_cl c j).1 < 74) := by decide +kernel
    have k := key c (c_doL_lt hd).1 j (c_doL_lt hd).2 hd
    rw [f.2 _ (by unfold y_S5; omega)]
    exact h.1.2 c j hd
  · exact f.RB h.2.1
  · intro g hg
    exact (h.2.2.2.1 g hg).eq (by rw [f.1]) (by rw [f.1]) (by rw [f.1])
  · rw [f.1]; exact h.2.2.2.2
theorem y_S5.Fc {μ μ' : q_M} (f : y_Fx (y_S5 80) μ μ') : y_Fc μ μ' := fun a ha => ⟨by rw [f.1], f.2 a (by unfold y_S5; omega)⟩
theorem S_rating (x1 x2 : Int32) {μ : q_M} (h : y_R μ) : y_stp (f_X9_rating x1 x2) (f_X10_rating x1 x2) μ := by
  obtain ⟨σ, I, hm, hc⟩ := h
  obtain ⟨μ2, f2, F2⟩ := M_rating I.1 hm x1 x2
  exact y_stp.mk I (C_rating I.1 hc.1 hc.2.2.1 x1 x2) f2 (F2.RM hm) hc F2.Fm
theorem S_kept (x1 : Int32) {μ : q_M} (h : y_R μ) : y_stp (f_X9_kept x1) (f_X10_kept x1) μ := by
  obtain ⟨σ, I, hm, hc⟩ := h
  obtain ⟨μ1, f1, F1⟩ := C_kept I.1 hc.1 hc.2.2.1 x1
  have m1 := (y_S5.Fc F1).RM hm
  exact y_stp.mk I f1 (M_kept I.1 m1 x1) m1 (y_S5.RC F1 hc) y_Fm.rf
theorem S_run (x1 x2 x3 : Int32) {μ : q_M} (h : y_R μ) : y_stp (f_X9_run x1 x2 x3) (f_X10_run x1 x2 x3) μ := by
  obtain ⟨σ, I, hm, hc⟩ := h
  by_cases p : p_run σ x1.toInt x2.toInt x3.toInt
  · obtain ⟨μ1, f1, R1, F1⟩ := (C_run I.1 hc x1 x2 x3).1 p
    obtain ⟨μ2, f2, R2, F2⟩ := (M_run I.1 (F1.RM hm) x1 x2 x3).1 p
    exact y_stp.mk (n_run_I I p) f1 f2 R2 R1 F2
  · exact y_stp.mk I ((C_run I.1 hc x1 x2 x3).2 p) ((M_run I.1 hm x1 x2 x3).2 p) hm hc y_Fm.rf
theorem S_alternate (x1 x3 : Int64) {μ : q_M} (h : y_R μ) : y_stp (f_X9_alternate x1 x3) (f_X10_alternate x1 x3) μ := by
  obtain ⟨σ, I, hm, hc⟩ := h
  have w6 := I.1.1.2.2.2.2.2.2.1
  have wn : 0 < σ 0 6 → σ 0 7 = 1 ∧ σ 0 8 ≠ σ 0 9 := fun q => by
    have e := I.2.2.2.2.2.2.2 q
    exact ⟨e, I.2.2.2.2.2.2.1 (by omega)⟩
  by_cases p : p_alt σ x1.toInt x3.toInt
  · obtain ⟨μ1, f1, R1, F1⟩ := (C_alternate I.1 I.2.1 I.2.2.1 wn hc x1 x3).1 p
    obtain ⟨μ2, f2, R2, F2⟩ := (M_alternate I.1 I.2.1 (F1.RM hm) x1 x3).1 p
    have p3 := p.2.2.1
    have p4 := p.2.2.2
    exact y_stp.mk (n_kb_I I (by omega) (wn (by omega)).1 _) f1 f2 R2 R1 F2
  · exact y_stp.mk I ((C_alternate I.1 I.2.1 I.2.2.1 wn hc x1 x3).2 p) ((M_alternate I.1 I.2.1 hm x1 x3).2 p) hm hc y_Fm.rf
theorem S_road2 (x1 : Int32) {μ : q_M} (h : y_R μ) : y_stp (f_X9_road2 x1) (f_X10_road2 x1) μ := by
  obtain ⟨σ, I, hm, hc⟩ := h
  exact y_stp.mk I (C_road2 I.1 I.2.1 hc x1) (M_road2 I.1 I.2.1 hm x1) hm hc y_Fm.rf
theorem S_begun (x1 : Int32) {μ : q_M} (h : y_R μ) : y_stp (f_X9_begun x1) (f_X10_begun x1) μ := by
  obtain ⟨σ, I, hm, hc⟩ := h
  exact y_stp.mk I (C_begun I.1 I.2.1 hc x1) (M_begun I.1 I.2.1 I.WG hm x1) hm hc y_Fm.rf
theorem S_bars (x1 x2 : Int32) {μ : q_M} (h : y_R μ) : y_stp (f_X9_bars x1 x2) (f_X10_bars x1 x2) μ := by
  obtain ⟨σ, I, hm, hc⟩ := h
  obtain ⟨μ2, f2, F2⟩ := M_bars I.1 hm x1 x2
  exact y_stp.mk I (C_bars I.1 hc x1 x2) f2 (F2.RM hm) hc F2.Fm
theorem S_convoy (x1 x2 : Int32) {μ : q_M} (h : y_R μ) : y_stp (f_X9_convoy x1 x2) (f_X10_convoy x1 x2) μ := by
  obtain ⟨σ, I, hm, hc⟩ := h
  exact y_stp.mk I (C_convoy I.1 I.2.1 I.WG hc x1 x2) (M_convoy I.1 I.2.1 I.WG hm x1 x2) hm hc y_Fm.rf
theorem S_escort (x1 : Int32) {μ : q_M} (h : y_R μ) : y_stp (f_X9_escort x1) (f_X10_escort x1) μ := by
  obtain ⟨σ, I, hm, hc⟩ := h
  obtain ⟨μ2, f2, F2⟩ := M_escort I.1 I.2.1 I.WG hm x1
  exact y_stp.mk I (C_escort I.1 I.2.1 I.WG hc x1) f2 (F2.RM hm) hc F2.Fm
theorem S_notice (x1 : Int32) {μ : q_M} (h : y_R μ) : y_stp (f_X9_notice x1) (f_X10_notice x1) μ := by
  obtain ⟨σ, I, hm, hc⟩ := h
  exact y_stp.mk I (C_notice I.1 I.2.1 I.WG hc x1) (M_notice I.1 I.2.1 I.WG hm x1) hm hc y_Fm.rf
theorem S_record (x1 : Int32) {μ : q_M} (h : y_R μ) : y_stp (f_X9_record x1) (f_X10_record x1) μ := by
  obtain ⟨σ, I, hm, hc⟩ := h
  exact y_stp.mk I (C_record hc.1 I.1.1 x1) (M_record hm I.1.1 x1) hm hc y_Fm.rf
theorem S_count (x1 : Int32) {μ : q_M} (h : y_R μ) : y_stp (f_X9_count x1) (f_X10_count x1) μ := by
  obtain ⟨σ, I, hm, hc⟩ := h
  obtain ⟨μ1, f1, R1, F1⟩ := C_count I.1 I.2.2.1 I.2.2.2.2.2.2.1 hc x1
  obtain ⟨μ2, f2, R2, F2⟩ := M_count I.1 I.2.1 (F1.RM hm) x1
  exact y_stp.mk I f1 f2 R2 R1 F2
