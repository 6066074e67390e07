def y_WN (σ : y_S) : Prop := (σ 0 7 ≠ 0 → σ 0 8 ≠ σ 0 9) ∧ (0 < σ 0 6 → σ 0 7 = 1)
def y_Inv (σ : y_S) : Prop := y_W σ ∧ y_WF σ ∧ y_WP σ ∧ y_WZ σ ∧ y_WO σ ∧ y_WH σ ∧ y_WN σ
theorem y_Inv.WG {σ : y_S} (h : y_Inv σ) : y_WG σ := fun f hf => (h.2.2.1 f hf).2.1
theorem y_Inv.fg {σ σ' : y_S} (I : y_Inv σ) (W : y_W σ') (h6 : σ' 0 6 = 0) (h7 : σ' 0 7 = σ 0 7) (h8 : σ' 0 8 = σ 0 8) (h9 : σ' 0 9 = σ 0 9) (z : y_WZ σ') (o : y_WO σ') (h : y_WH σ') : y_Inv σ' := by
  refine ⟨W, fun f hf => by omega, fun f hf => by omega, z, o, h, ?_, fun q => by omega⟩
  rw [h7, h8, h9]
  exact I.2.2.2.2.2.2.1
theorem y_WZ.eq {σ σ' : y_S} (w : y_WZ σ) (h0 : σ' 0 2 = σ 0 2) (h : ∀ j, σ' 13 j = σ 13 j) : y_WZ σ' := fun b hb h2 => by
  rw [h]
  rw [h0] at h2
  exact w b hb h2
theorem y_WO.eq {σ σ' : y_S} (w : y_WO σ) (h0 : σ' 0 3 = σ 0 3) (h : ∀ j, σ' 17 j = σ 17 j) : y_WO σ' := fun b h2 => by
  rw [h]
  rw [h0] at h2
  exact w b h2
theorem y_WH.eq {σ σ' : y_S} (w : y_WH σ) (h0 : σ' 0 1 = σ 0 1) (h : ∀ j, σ' 8 j = σ 8 j) : y_WH σ' := fun b hb h2 => by
  rw [h]
  rw [h0] at h2
  exact w b hb h2
theorem y_RC.fg {σ σ' : y_S} {μ μ' : q_M} (h : y_RC σ μ) (w : y_W σ) (RD' : y_RD σ' μ') (RB' : y_RB σ' μ') (e3 : σ' 0 3 = σ 0 3) (e : ∀ c j, 13 ≤ c → c ≤ 18 → σ' c j = σ c j) (h6 : σ' 0 6 = 0) (m1 : ∀ b, b < 6 → ∀ j, j = 6 ∨ j = 7 → μ'.1 (50 + b) j = μ.1 (50 + b) j) (m2 : μ'.2 = μ.2) (m3 : μ'.1 118 2 = μ.1 118 2) : y_RC σ' μ' := by
  refine ⟨RD', RB', fun b hb => (h.2.2.1 b hb).sm (y_same.top ⟨e3, e 13 b (by omega) (by omega), fun k _ => ⟨e 14 _ (by omega) (by omega), e 15 _ (by omega) (by omega), e 16 _ (by omega) (by omega)⟩, fun i _ => ⟨e 17 _ (by omega) (by omega), e 18 _ (by omega) (by omega)⟩⟩ (w.2.2.1 b hb).1.1 w.1.2.2.2.1.1) (fun j hj => m1 b hb j hj) (fun a _ => by rw [m2]), fun f hf => by omega, by rw [m3]; exact h.2.2.2.2⟩
theorem n_node_I {σ : y_S} (I : y_Inv σ) : y_Inv (n_node σ) := by
  obtain ⟨W, WF, WP, WZ, WO, WH, WN⟩ := I
  unfold n_node
  by_cases c : σ 0 0 = 7
  · rw [if_pos c]; exact ⟨W, WF, WP, WZ, WO, WH, WN⟩
  · rw [if_neg c]
    have ne : ∀ c j, (c ≠ 0 ∨ j ≠ 0) → y_up σ 0 0 (σ 0 0 + 1) c j = σ c j := fun c j h => y_up_ne (by omega)
    have Q : y_Q σ (y_up σ 0 0 (σ 0 0 + 1)) := ⟨fun c j h1 h2 => ne c j (by omega), fun j h1 h2 h3 => ne 0 j (by omega)⟩
    have e0 : y_up σ 0 0 (σ 0 0 + 1) 0 0 = σ 0 0 + 1 := y_up_eq
    generalize y_up σ 0 0 (σ 0 0 + 1) = σ' at *
    obtain ⟨w0, wr, wb, wa, ws, wt⟩ := W
    have fw : ∀ f, y_fw σ' f = y_fw σ f := fun f => by
      unfold y_fw
      rw [ne 20 _ (by omega)]
      apply List.map_congr_left
      intro k _
      rw [ne 19 _ (by omega)]
    refine ⟨⟨?_, fun r hr => ?_, wb.eq (fun c j h1 h2 => ne c j (by omega)), wa.eq (fun c j h1 h2 => ne c j (by omega)) (ne 0 3 (by omega)), fun b => by rw [ne 12 _ (by omega)]; exact ws b, fun b => by rw [ne 11 _ (by omega)]; exact wt b⟩, fun f hf => ?_, fun f hf => ?_, WZ.eq (ne 0 2 (by omega)) (fun j => ne 13 j (by omega)), WO.eq (ne 0 3 (by omega)) (fun j => ne 17 j (by omega)), WH.eq (ne 0 1 (by omega)) (fun j => ne 8 j (by omega)), ?_⟩
    · unfold y_W0 at w0 ⊢
      rw [e0, ne 0 1 (by omega), ne 0 2 (by omega), ne 0 3 (by omega), ne 0 4 (by omega), ne 0 5 (by omega), ne 0 6 (by omega), ne 0 7 (by omega), ne 0 8 (by omega), ne 0 9 (by omega), ne 0 10 (by omega), ne 0 11 (by omega)]
      omega
    · rw [ne 0 1 (by omega)] at hr
      have g := wr r hr
      rw [e0, ne 0 2 (by omega), ne 1 _ (by omega), ne 2 _ (by omega), ne 3 _ (by omega), ne 4 _ (by omega), ne 5 _ (by omega), ne 6 _ (by omega), ne 7 _ (by omega), ne 8 _ (by omega)]
      obtain ⟨g1, g2, g3, g4, g5, g6, g7, g8, g9, g10⟩ := g
      refine ⟨by omega, by omega, g3, g4, g5, g6, g7, g8, g9, fun k hk => ?_⟩
      rw [ne 9 _ (by omega), ne 10 _ (by omega)]
      exact g10 k hk
    · rw [ne 0 6 (by omega)] at hf
      rw [ne 20 _ (by omega), ne 0 1 (by omega)]
      have g := WF f hf
      refine ⟨g.1, fun k hk => ?_⟩
      rw [ne 19 _ (by omega)]
      exact g.2 k hk
    · rw [ne 0 6 (by omega)] at hf
      rw [fw]
      exact Q.good (WP f hf)
    · unfold y_WN
      rw [ne 0 6 (by omega), ne 0 7 (by omega), ne 0 8 (by omega), ne 0 9 (by omega)]
      exact WN
theorem n_road_ne {σ : y_S} {a b m h w : Int} {c j : Nat} (q : (c = 0 ∧ j ≠ 1 ∧ j ≠ 6) ∨ 8 ≤ c ∨ (1 ≤ c ∧ j ≠ (σ 0 1).toNat)) : n_road σ a b m h w c j = σ c j := by
  unfold n_road y_fg
  rw [y_up_ne (by omega), y_up_ne (by omega), y_up_ne (by omega), y_up_ne (by omega), y_up_ne (by omega), y_up_ne (by omega), y_up_ne (by omega), y_up_ne (by omega), y_up_ne (by omega)]
theorem n_road_I {σ : y_S} (I : y_Inv σ) {a b m h w : Int} (p : p_road σ a b m h w) : y_Inv (n_road σ a b m h w) := by
  obtain ⟨w0, wr, wb, wa, ws, wt⟩ := I.1
  obtain ⟨p1, p2, p3, p4, p5, p6, p7⟩ := p
  have w1 := w0.2.1
  have wh := I.2.2.2.2.2.1
  have e1 : n_road σ a b m h w 0 1 = σ 0 1 + 1 := by unfold n_road y_fg; rw [y_up_ne (by omega), y_up_eq]
  have e6 : n_road σ a b m h w 0 6 = 0 := by unfold n_road y_fg; rw [y_up_eq]
  refine I.fg ⟨?_, fun r hr => ?_, wb.eq (fun c j h1 h2 => n_road_ne (by omega)), wa.eq (fun c j h1 h2 => n_road_ne (by omega)) (n_road_ne (by omega)), fun b => by rw [n_road_ne (by omega)]; exact ws b, fun b => by rw [n_road_ne (by omega)]; exact wt b⟩ e6 (n_road_ne (by omega)) (n_road_ne (by omega)) (n_road_ne (by omega)) (I.2.2.2.1.eq (n_road_ne (by omega)) (fun j => n_road_ne (by omega))) (I.2.2.2.2.1.eq (n_road_ne (by omega)) (fun j => n_road_ne (by omega))) (fun r hr h2 => ?_)
  · unfold y_W0 at w0 ⊢
    rw [e1, e6, n_road_ne (j := 0) (by omega), n_road_ne (j := 2) (by omega), n_road_ne (j := 3) (by omega), n_road_ne (j := 4) (by omega), n_road_ne (j := 5) (by omega), n_road_ne (j := 7) (by omega), n_road_ne (j := 8) (by omega), n_road_ne (j := 9) (by omega), n_road_ne (j := 10) (by omega), n_road_ne (j := 11) (by omega)]
    omega
  · rw [e1] at hr
    rw [n_road_ne (c := 0) (j := 0) (by omega), n_road_ne (c := 0) (j := 2) (by omega), n_road_ne (c := 8) (by omega)]
    by_cases e : r = (σ 0 1).toNat
    · have v1 : n_road σ a b m h w 1 r = a := by unfold n_road y_fg; rw [e, y_up_ne (by omega), y_up_ne (by omega), y_up_ne (by omega), y_up_ne (by omega), y_up_ne (by omega), y_up_ne (by omega), y_up_ne (by omega), y_up_ne (by omega), y_up_eq]
      have v2 : n_road σ a b m h w 2 r = b := by unfold n_road y_fg; rw [e, y_up_ne (by omega), y_up_ne (by omega), y_up_ne (by omega), y_up_ne (by omega), y_up_ne (by omega), y_up_ne (by omega), y_up_ne (by omega), y_up_eq]
      have v3 : n_road σ a b m h w 3 r = m := by unfold n_road y_fg; rw [e, y_up_ne (by omega), y_up_ne (by omega), y_up_ne (by omega), y_up_ne (by omega), y_up_ne (by omega), y_up_ne (by omega), y_up_eq]
      have v4 : n_road σ a b m h w 4 r = h := by unfold n_road y_fg; rw [e, y_up_ne (by omega), y_up_ne (by omega), y_up_ne (by omega), y_up_ne (by omega), y_up_ne (by omega), y_up_eq]
      have v5 : n_road σ a b m h w 5 r = w := by unfold n_road y_fg; rw [e, y_up_ne (by omega), y_up_ne (by omega), y_up_ne (by omega), y_up_ne (by omega), y_up_eq]
      have v6 : n_road σ a b m h w 6 r = 1 := by unfold n_road y_fg; rw [e, y_up_ne (by omega), y_up_ne (by omega), y_up_ne (by omega), y_up_eq]
      have v7 : n_road σ a b m h w 7 r = -2 := by unfold n_road y_fg; rw [e, y_up_ne (by omega), y_up_ne (by omega), y_up_eq]
      have z := wh r (by omega) (by omega)
      rw [v1, v2, v3, v4, v5, v6, v7, z]
      have w2 := w0.2.2.1
      exact ⟨by omega, by omega, p3, p4, p5, p6, by omega, by omega, by omega, fun k hk => by omega⟩
    · have g := wr r (by omega)
      rw [n_road_ne (c := 1) (by omega), n_road_ne (c := 2) (by omega), n_road_ne (c := 3) (by omega), n_road_ne (c := 4) (by omega), n_road_ne (c := 5) (by omega), n_road_ne (c := 6) (by omega), n_road_ne (c := 7) (by omega)]
      obtain ⟨g1, g2, g3, g4, g5, g6, g7, g8, g9, g10⟩ := g
      refine ⟨g1, g2, g3, g4, g5, g6, g7, g8, g9, fun k hk => ?_⟩
      rw [n_road_ne (by omega), n_road_ne (by omega)]
      exact g10 k hk
  · rw [e1] at h2
    rw [n_road_ne (by omega)]
    exact wh r hr (by omega)
theorem n_bridge_ne {σ : y_S} {a : Int} {c j : Nat} (q : (c = 0 ∧ j ≠ 2 ∧ j ≠ 6) ∨ (c ≠ 0 ∧ c ≠ 7) ∨ (c = 7 ∧ j ≠ a.toNat)) : n_bridge σ a c j = σ c j := by
  unfold n_bridge y_fg
  rw [y_up_ne (by omega), y_up_ne (by omega), y_up_ne (by omega)]
theorem n_bridge_I {σ : y_S} (I : y_Inv σ) {a : Int} (p : p_bridge σ a) : y_Inv (n_bridge σ a) := by
  obtain ⟨w0, wr, wb, wa, ws, wt⟩ := I.1
  obtain ⟨p1, p2, p3⟩ := p
  have w2 := w0.2.2.1
  have e2 : n_bridge σ a 0 2 = σ 0 2 + 1 := by unfold n_bridge y_fg; rw [y_up_ne (by omega), y_up_eq]
  have e6 : n_bridge σ a 0 6 = 0 := by unfold n_bridge y_fg; rw [y_up_eq]
  have e7 : n_bridge σ a 7 a.toNat = σ 0 2 := by unfold n_bridge y_fg; rw [y_up_ne (by omega), y_up_ne (by omega), y_up_eq]
  refine I.fg ⟨?_, fun r hr => ?_, wb.eq (fun c j h1 h2 => n_bridge_ne (by omega)), wa.eq (fun c j h1 h2 => n_bridge_ne (by omega)) (n_bridge_ne (by omega)), fun b => by rw [n_bridge_ne (by omega)]; exact ws b, fun b => by rw [n_bridge_ne (by omega)]; exact wt b⟩ e6 (n_bridge_ne (by omega)) (n_bridge_ne (by omega)) (n_bridge_ne (by omega)) (fun b hb h2 => ?_) (I.2.2.2.2.1.eq (n_bridge_ne (by omega)) (fun j => n_bridge_ne (by omega))) (I.2.2.2.2.2.1.eq (n_bridge_ne (by omega)) (fun j => n_bridge_ne (by omega)))
  · unfold y_W0 at w0 ⊢
    rw [e2, e6, n_bridge_ne (j := 0) (by omega), n_bridge_ne (j := 1) (by omega), n_bridge_ne (j := 3) (by omega), n_bridge_ne (j := 4) (by omega), n_bridge_ne (j := 5) (by omega), n_bridge_ne (j := 7) (by omega), n_bridge_ne (j := 8) (by omega), n_bridge_ne (j := 9) (by omega), n_bridge_ne (j := 10) (by omega), n_bridge_ne (j := 11) (by omega)]
    omega
  · rw [n_bridge_ne (by omega)] at hr
    have g := wr r hr
    have e : -2 ≤ n_bridge σ a 7 r ∧ n_bridge σ a 7 r < σ 0 2 + 1 := by
      by_cases q : r = a.toNat
      · rw [q, e7]; omega
      · rw [n_bridge_ne (by omega)]; omega
    rw [e2, n_bridge_ne (c := 0) (j := 0) (by omega), n_bridge_ne (c := 1) (by omega), n_bridge_ne (c := 2) (by omega), n_bridge_ne (c := 3) (by omega), n_bridge_ne (c := 4) (by omega), n_bridge_ne (c := 5) (by omega), n_bridge_ne (c := 6) (by omega), n_bridge_ne (c := 8) (by omega)]
    obtain ⟨g1, g2, g3, g4, g5, g6, g7, g8, g9, g10⟩ := g
    refine ⟨g1, g2, g3, g4, g5, g6, g7, e, g9, fun k hk => ?_⟩
    rw [n_bridge_ne (by omega), n_bridge_ne (by omega)]
    exact g10 k hk
  · rw [e2] at h2
    rw [n_bridge_ne (by omega)]
    exact I.2.2.2.1 b hb (by omega)
theorem n_size_ne {σ : y_S} {a b : Int} {c j : Nat} (q : c ≠ 0 ∨ (j ≠ 4 ∧ j ≠ 5 ∧ j ≠ 6)) : n_size σ a b c j = σ c j := by
  unfold n_size y_fg
  rw [y_up_ne (by omega), y_up_ne (by omega), y_up_ne (by omega)]
theorem n_size_I {σ : y_S} (I : y_Inv σ) {a b c : Int} (p : p_size a b c) : y_Inv (n_size σ a b) := by
  obtain ⟨w0, wr, wb, wa, ws, wt⟩ := I.1
  obtain ⟨p1, p2, p3⟩ := p
  have e4 : n_size σ a b 0 4 = a := by unfold n_size y_fg; rw [y_up_ne (by omega), y_up_ne (by omega), y_up_eq]
  have e5 : n_size σ a b 0 5 = b := by unfold n_size y_fg; rw [y_up_ne (by omega), y_up_eq]
  have e6 : n_size σ a b 0 6 = 0 := by unfold n_size y_fg; rw [y_up_eq]
  refine I.fg ⟨?_, wr.eq (fun c j h1 h2 => n_size_ne (by omega)) (fun j hj => n_size_ne (by omega)), wb.eq (fun c j h1 h2 => n_size_ne (by omega)), wa.eq (fun c j h1 h2 => n_size_ne (by omega)) (n_size_ne (by omega)), fun b => by rw [n_size_ne (by omega)]; exact ws b, fun b => by rw [n_size_ne (by omega)]; exact wt b⟩ e6 (n_size_ne (by omega)) (n_size_ne (by omega)) (n_size_ne (by omega)) (I.2.2.2.1.eq (n_size_ne (by omega)) (fun j => n_size_ne (by omega))) (I.2.2.2.2.1.eq (n_size_ne (by omega)) (fun j => n_size_ne (by omega))) (I.2.2.2.2.2.1.eq (n_size_ne (by omega)) (fun j => n_size_ne (by omega)))
  unfold y_W0 at w0 ⊢
  rw [e4, e5, e6, n_size_ne (j := 0) (by omega), n_size_ne (j := 1) (by omega), n_size_ne (j := 2) (by omega), n_size_ne (j := 3) (by omega), n_size_ne (j := 7) (by omega), n_size_ne (j := 8) (by omega), n_size_ne (j := 9) (by omega), n_size_ne (j := 10) (by omega), n_size_ne (j := 11) (by omega)]
  omega
theorem n_change_ne {σ : y_S} {a v : Int} {c j : Nat} (q : (c = 0 ∧ j ≠ 6) ∨ (c ≠ 0 ∧ c ≠ 6) ∨ (c = 6 ∧ j ≠ a.toNat)) : n_change σ a v c j = σ c j := by
  unfold n_change y_fg
  rw [y_up_ne (by omega), y_up_ne (by omega)]
theorem n_change_I {σ : y_S} (I : y_Inv σ) {a v : Int} (hv : 0 ≤ v ∧ v ≤ 1) : y_Inv (n_change σ a v) := by
  obtain ⟨w0, wr, wb, wa, ws, wt⟩ := I.1
  have e6 : n_change σ a v 0 6 = 0 := by unfold n_change y_fg; rw [y_up_eq]
  have e7 : n_change σ a v 6 a.toNat = v := by unfold n_change y_fg; rw [y_up_ne (by omega), y_up_eq]
  refine I.fg ⟨w0.eq (fun j h1 h2 => n_change_ne (by omega)) (by omega), fun r hr => ?_, wb.eq (fun c j h1 h2 => n_change_ne (by omega)), wa.eq (fun c j h1 h2 => n_change_ne (by omega)) (n_change_ne (by omega)), fun b => by rw [n_change_ne (by omega)]; exact ws b, fun b => by rw [n_change_ne (by omega)]; exact wt b⟩ e6 (n_change_ne (by omega)) (n_change_ne (by omega)) (n_change_ne (by omega)) (I.2.2.2.1.eq (n_change_ne (by omega)) (fun j => n_change_ne (by omega))) (I.2.2.2.2.1.eq (n_change_ne (by omega)) (fun j => n_change_ne (by omega))) (I.2.2.2.2.2.1.eq (n_change_ne (by omega)) (fun j => n_change_ne (by omega)))
  rw [n_change_ne (by omega)] at hr
  have g := wr r hr
  have e : 0 ≤ n_change σ a v 6 r ∧ n_change σ a v 6 r ≤ 1 := by
    by_cases q : r = a.toNat
    · rw [q, e7]; exact hv
    · rw [n_change_ne (by omega)]; omega
  rw [n_change_ne (c := 0) (j := 0) (by omega), n_change_ne (c := 0) (j := 2) (by omega), n_change_ne (c := 1) (by omega), n_change_ne (c := 2) (by omega), n_change_ne (c := 3) (by omega), n_change_ne (c := 4) (by omega), n_change_ne (c := 5) (by omega), n_change_ne (c := 7) (by omega), n_change_ne (c := 8) (by omega)]
  obtain ⟨g1, g2, g3, g4, g5, g6, g7, g8, g9, g10⟩ := g
  refine ⟨g1, g2, g3, g4, g5, g6, e, g8, g9, fun k hk => ?_⟩
  rw [n_change_ne (by omega), n_change_ne (by omega)]
  exact g10 k hk
theorem n_slow_ne {σ : y_S} {a v : Int} {c j : Nat} (q : (c = 0 ∧ j ≠ 6) ∨ (c ≠ 0 ∧ c ≠ 12) ∨ (c = 12 ∧ j ≠ a.toNat)) : n_slow σ a v c j = σ c j := by
  unfold n_slow y_fg
  rw [y_up_ne (by omega), y_up_ne (by omega)]
theorem n_slow_I {σ : y_S} (I : y_Inv σ) {a v : Int} (hv : v = 0 ∨ v = 1) : y_Inv (n_slow σ a v) := by
  obtain ⟨w0, wr, wb, wa, ws, wt⟩ := I.1
  have e6 : n_slow σ a v 0 6 = 0 := by unfold n_slow y_fg; rw [y_up_eq]
  have e7 : n_slow σ a v 12 a.toNat = v := by unfold n_slow y_fg; rw [y_up_ne (by omega), y_up_eq]
  refine I.fg ⟨w0.eq (fun j h1 h2 => n_slow_ne (by omega)) (by omega), wr.eq (fun c j h1 h2 => n_slow_ne (by omega)) (fun j hj => n_slow_ne (by omega)), wb.eq (fun c j h1 h2 => n_slow_ne (by omega)), wa.eq (fun c j h1 h2 => n_slow_ne (by omega)) (n_slow_ne (by omega)), fun b => ?_, fun b => by rw [n_slow_ne (by omega)]; exact wt b⟩ e6 (n_slow_ne (by omega)) (n_slow_ne (by omega)) (n_slow_ne (by omega)) (I.2.2.2.1.eq (n_slow_ne (by omega)) (fun j => n_slow_ne (by omega))) (I.2.2.2.2.1.eq (n_slow_ne (by omega)) (fun j => n_slow_ne (by omega))) (I.2.2.2.2.2.1.eq (n_slow_ne (by omega)) (fun j => n_slow_ne (by omega)))
  by_cases q : b = a.toNat
  · rw [q, e7]; exact hv
  · rw [n_slow_ne (by omega)]; exact ws b
theorem n_hours_ne {σ : y_S} {a b d : Int} {c j : Nat} (q : (c = 0 ∧ j ≠ 6) ∨ (c ≠ 0 ∧ c ≠ 8 ∧ c ≠ 9 ∧ c ≠ 10) ∨ (c = 8 ∧ j ≠ a.toNat) ∨ ((c = 9 ∨ c = 10) ∧ j ≠ 3 * a.toNat + (σ 8 a.toNat).toNat)) : n_hours σ a b d c j = σ c j := by
  unfold n_hours y_fg
  rw [y_up_ne (by omega), y_up_ne (by omega), y_up_ne (by omega), y_up_ne (by omega)]
theorem n_hours_I {σ : y_S} (I : y_Inv σ) {a b d : Int} (p : p_hours σ a b d) : y_Inv (n_hours σ a b d) := by
  obtain ⟨w0, wr, wb, wa, ws, wt⟩ := I.1
  obtain ⟨p1, p2, p3, p4⟩ := p
  have w1 := w0.2.1
  have ga := (wr a.toNat (by omega)).2.2.2.2.2.2.2.2.1
  have e6 : n_hours σ a b d 0 6 = 0 := by unfold n_hours y_fg; rw [y_up_eq]
  have e8 : n_hours σ a b d 8 a.toNat = σ 8 a.toNat + 1 := by unfold n_hours y_fg; rw [y_up_ne (by omega), y_up_eq]
  have e9 : n_hours σ a b d 9 (3 * a.toNat + (σ 8 a.toNat).toNat) = b := by unfold n_hours y_fg; rw [y_up_ne (by omega), y_up_ne (by omega), y_up_ne (by omega), y_up_eq]
  have e10 : n_hours σ a b d 10 (3 * a.toNat + (σ 8 a.toNat).toNat) = d := by unfold n_hours y_fg; rw [y_up_ne (by omega), y_up_ne (by omega), y_up_eq]
  refine I.fg ⟨w0.eq (fun j h1 h2 => n_hours_ne (by omega)) (by omega), fun r hr => ?_, wb.eq (fun c j h1 h2 => n_hours_ne (by omega)), wa.eq (fun c j h1 h2 => n_hours_ne (by omega)) (n_hours_ne (by omega)), fun b => by rw [n_hours_ne (by omega)]; exact ws b, fun b => by rw [n_hours_ne (by omega)]; exact wt b⟩ e6 (n_hours_ne (by omega)) (n_hours_ne (by omega)) (n_hours_ne (by omega)) (I.2.2.2.1.eq (n_hours_ne (by omega)) (fun j => n_hours_ne (by omega))) (I.2.2.2.2.1.eq (n_hours_ne (by omega)) (fun j => n_hours_ne (by omega))) (fun r hr h2 => ?_)
  · rw [n_hours_ne (by omega)] at hr
    have g := wr r hr
    rw [n_hours_ne (c := 0) (j := 0) (by omega), n_hours_ne (c := 0) (j := 2) (by omega), n_hours_ne (c := 1) (by omega), n_hours_ne (c := 2) (by omega), n_hours_ne (c := 3) (by omega), n_hours_ne (c := 4) (by omega), n_hours_ne (c := 5) (by omega), n_hours_ne (c := 6) (by omega), n_hours_ne (c := 7) (by omega)]
    obtain ⟨g1, g2, g3, g4, g5, g6, g7, g8, g9, g10⟩ := g
    refine ⟨g1, g2, g3, g4, g5, g6, g7, g8, ?_, fun k hk => ?_⟩
    · by_cases q : r = a.toNat
      · rw [q, e8]; omega
      · rw [n_hours_ne (by omega)]; exact g9
    · by_cases q : r = a.toNat
      · rw [q, e8] at hk
        by_cases q2 : k = (σ 8 a.toNat).toNat
        · rw [q, q2, e9, e10]; omega
        · rw [n_hours_ne (by omega), n_hours_ne (by omega)]
          exact g10 k (by rw [q]; omega)
      · rw [n_hours_ne (by omega)] at hk
        rw [n_hours_ne (by omega), n_hours_ne (by omega)]
        exact g10 k hk
  · rw [n_hours_ne (by omega)] at h2
    rw [n_hours_ne (by omega)]
    exact I.2.2.2.2.2.1 r hr h2
theorem n_turn_ne {σ : y_S} {a b v : Int} {c j : Nat} (q : (c = 0 ∧ j ≠ 6) ∨ (c ≠ 0 ∧ c ≠ 11) ∨ (c = 11 ∧ j ≠ 12 * a.toNat + b.toNat)) : n_turn σ a b v c j = σ c j := by
  unfold n_turn y_fg
  rw [y_up_ne (by omega), y_up_ne (by omega)]
theorem n_turn_I {σ : y_S} (I : y_Inv σ) {a b v : Int} : y_Inv (n_turn σ a b v) := by
  obtain ⟨w0, wr, wb, wa, ws, wt⟩ := I.1
  have e6 : n_turn σ a b v 0 6 = 0 := by unfold n_turn y_fg; rw [y_up_eq]
  have e7 : n_turn σ a b v 11 (12 * a.toNat + b.toNat) = if v = 0 then 1 else 0 := by unfold n_turn y_fg; rw [y_up_ne (by omega), y_up_eq]
  refine I.fg ⟨w0.eq (fun j h1 h2 => n_turn_ne (by omega)) (by omega), wr.eq (fun c j h1 h2 => n_turn_ne (by omega)) (fun j hj => n_turn_ne (by omega)), wb.eq (fun c j h1 h2 => n_turn_ne (by omega)), wa.eq (fun c j h1 h2 => n_turn_ne (by omega)) (n_turn_ne (by omega)), fun b => by rw [n_turn_ne (by omega)]; exact ws b, fun k => ?_⟩ e6 (n_turn_ne (by omega)) (n_turn_ne (by omega)) (n_turn_ne (by omega)) (I.2.2.2.1.eq (n_turn_ne (by omega)) (fun j => n_turn_ne (by omega))) (I.2.2.2.2.1.eq (n_turn_ne (by omega)) (fun j => n_turn_ne (by omega))) (I.2.2.2.2.2.1.eq (n_turn_ne (by omega)) (fun j => n_turn_ne (by omega)))
  by_cases q : k = 12 * a.toNat + b.toNat
  · rw [q, e7]
    split
    · exact Or.inr rfl
    · exact Or.inl rfl
  · rw [n_turn_ne (by omega)]; exact wt k
theorem n_row_I {σ : y_S} (I : y_Inv σ) {b at_ u v : Int} (p : p_row σ b at_ u v) : y_Inv (n_row σ b at_ u v) := by
  have w2 := I.1.1.2.2.1
  refine I.fg (n_row_W I.1 p) n_row_6 (n_row_ne (by omega) (by omega)) (n_row_ne (by omega) (by omega)) (n_row_ne (by omega) (by omega)) (fun d hd h2 => ?_) (I.2.2.2.2.1.eq (n_row_ne (by omega) (by omega)) (fun j => n_row_ne (by omega) (by omega))) (I.2.2.2.2.2.1.eq (n_row_ne (by omega) (by omega)) (fun j => n_row_ne (by omega) (by omega)))
  rw [n_row_ne (by omega) (by omega)] at h2
  have := p.1
  rw [n_row_13, if_neg (by omega)]
  exact I.2.2.2.1 d hd h2
theorem n_axle_I {σ : y_S} (I : y_Inv σ) {u v : Int} (p : p_axle σ u v) : y_Inv (n_axle σ u v) := by
  obtain ⟨W, O⟩ := n_axle_W I.1 I.2.2.2.2.1 p
  exact I.fg W n_axle_6 (n_axle_ne (by omega) (by omega)) (n_axle_ne (by omega) (by omega)) (n_axle_ne (by omega) (by omega)) (I.2.2.2.1.eq (n_axle_ne (by omega) (by omega)) (fun j => n_axle_ne (by omega) (by omega))) O (I.2.2.2.2.2.1.eq (n_axle_ne (by omega) (by omega)) (fun j => n_axle_ne (by omega) (by omega)))
theorem s_run_I {σ : y_S} (I : y_Inv σ) {a b m : Int} (p : p_run σ a b m) : y_Inv (s_run σ a b m) := by
  obtain ⟨W, WF⟩ := s_run_W I.1 p
  refine ⟨W, WF, fun f hf => by rw [s_run_6] at hf; omega, I.2.2.2.1.eq (s_run_ne (by omega)) (fun j => s_run_ne (by omega)), I.2.2.2.2.1.eq (s_run_ne (by omega)) (fun j => s_run_ne (by omega)), I.2.2.2.2.2.1.eq (s_run_ne (by omega)) (fun j => s_run_ne (by omega)), fun _ => ?_, fun q => by rw [s_run_6] at q; omega⟩
  rw [s_run_8, s_run_9]
  exact p.2.2.1
theorem n_kb_I {σ : y_S} (I : y_Inv σ) (h5 : σ 0 6 < 5) (h7 : σ 0 7 = 1) (L : Int) : y_Inv (n_kb σ (y_bs σ L)) := by
  have W := n_kb_W I.1 h5 (y_bs σ L)
  have w6 := I.1.1.2.2.2.2.2.2.1
  have w1 := I.1.1.2.1
  unfold n_kb at *
  by_cases c : (y_bs σ L).length = 0
  · rw [if_pos c]; exact I
  · rw [if_neg c] at W ⊢
    have g := y_bs_P I.1 c
    generalize y_bs σ L = B at *
    refine ⟨W, fun f hf => ?_, fun f hf => ?_, I.2.2.2.1.eq (n_keep_ne (by omega) (by omega) (by omega)) (fun j => n_keep_ne (by omega) (by omega) (by omega)), I.2.2.2.2.1.eq (n_keep_ne (by omega) (by omega) (by omega)) (fun j => n_keep_ne (by omega) (by omega) (by omega)), I.2.2.2.2.2.1.eq (n_keep_ne (by omega) (by omega) (by omega)) (fun j => n_keep_ne (by omega) (by omega) (by omega)), ?_, fun _ => by rw [n_keep_ne (by omega) (by omega) (by omega)]; exact h7⟩
    · rw [n_keep_6] at hf
      rw [n_keep_20, n_keep_ne (c := 0) (j := 1) (by omega) (by omega) (by omega)]
      by_cases q : f = (σ 0 6).toNat
      · rw [if_pos q]
        have gl := g.2.2
        refine ⟨by omega, fun k hk => ?_⟩
        rw [n_keep_19, if_pos (by omega)]
        have := (g.2.1 _ (y_gm (p := B) (k := 12 * f + k - 12 * (σ 0 6).toNat) (by omega))).1
        omega
      · rw [if_neg q]
        have := I.2.1 f (by omega)
        refine ⟨this.1, fun k hk => ?_⟩
        rw [n_keep_19, if_neg (by omega)]
        exact this.2 k hk
    · rw [n_keep_6] at hf
      by_cases q : f = (σ 0 6).toNat
      · rw [q, n_keep_new]; exact n_keep_Q.good g
      · rw [n_keep_old I.2.1 (by omega)]; exact n_keep_Q.good (I.2.2.1 f (by omega))
    · rw [n_keep_ne (by omega) (by omega) (by omega), n_keep_ne (by omega) (by omega) (by omega), n_keep_ne (by omega) (by omega) (by omega)]
      exact I.2.2.2.2.2.2.1
theorem n_rec_I {σ : y_S} (I : y_Inv σ) (v : Int) : y_Inv (n_rec σ v) := by
  have w0 := I.1.1
  have e11 : 0 ≤ n_rec σ v 0 11 ∧ n_rec σ v 0 11 ≤ 50 := by
    have w11 := w0.2.2.2.2.2.2.2.2.2.2.2
    unfold n_rec
    split
    · exact w11
    · rw [y_up_eq]; omega
  refine ⟨I.1.eq (fun c j h1 h2 => n_rec_ne (by omega)) (fun j hj => n_rec_ne (by omega)) ?_, fun f hf => ?_, fun f hf => ?_, I.2.2.2.1.eq (n_rec_ne (by omega)) (fun j => n_rec_ne (by omega)), I.2.2.2.2.1.eq (n_rec_ne (by omega)) (fun j => n_rec_ne (by omega)), I.2.2.2.2.2.1.eq (n_rec_ne (by omega)) (fun j => n_rec_ne (by omega)), ?_⟩
  · unfold y_W0 at w0 ⊢
    rw [n_rec_ne (j := 0) (by omega), n_rec_ne (j := 1) (by omega), n_rec_ne (j := 2) (by omega), n_rec_ne (j := 3) (by omega), n_rec_ne (j := 4) (by omega), n_rec_ne (j := 5) (by omega), n_rec_ne (j := 6) (by omega), n_rec_ne (j := 7) (by omega), n_rec_ne (j := 8) (by omega), n_rec_ne (j := 9) (by omega), n_rec_ne (j := 10) (by omega)]
    omega
  · rw [n_rec_ne (by omega)] at hf
    rw [n_rec_ne (by omega), n_rec_ne (c := 0) (j := 1) (by omega)]
    have g := I.2.1 f hf
    refine ⟨g.1, fun k hk => ?_⟩
    rw [n_rec_ne (by omega)]
    exact g.2 k hk
  · rw [n_rec_ne (by omega)] at hf
    rw [n_rec_fw]
    exact n_rec_Q.good (I.2.2.1 f hf)
  · unfold y_WN
    rw [n_rec_ne (by omega), n_rec_ne (by omega), n_rec_ne (by omega), n_rec_ne (by omega)]
    exact I.2.2.2.2.2.2
theorem n_run_I {σ : y_S} (I : y_Inv σ) {a b m : Int} (p : p_run σ a b m) : y_Inv (n_run (s_run σ a b m)) := by
  have J := s_run_I I p
  unfold n_run
  refine n_rec_I (n_kb_I J ?_ s_run_7 _) _
  rw [s_run_6]
  omega
