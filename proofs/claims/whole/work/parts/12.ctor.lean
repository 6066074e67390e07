def sh_X8 (E : q_E) (h0 : Nat) (w : va_W) : Prop := ∃ u : Nat → Nat, w = [((u 0), .inl (E.2.2.1 1, 5, .inr (.inl (fun _ => 0)))), (h0, .inr (8, [.ref (u 0)]))]
set_option maxHeartbeats 4000000 in
set_option maxRecDepth 100000 in
theorem c_X8_init (l : Launch) (E : q_E) (h0 : Nat) (sz : Nat) : Met l yX8_init wsX8_init ({ frames := 1, cells := 1, slots := 5, locals := 12 }) (n_Pc E [.ref h0] (h0, .inr (8, [.null])) sz) (n_Qv E (sh_X8 E h0) (h0, .inr (8, [.null])) sz) 1 5 (va_A [(h0, .inr (8, [.null]))] sz) := by
  refine n_met (cc := cX8_init) (maxL := 1) (by decide) rfl (Nat.le_of_ble_eq_true rfl) ?_
  intro p e s m below meth c A hx hb hr hml hown hts hlk hin hK hP hD hS hA hAe ls hl
  have hl : lv_has ls 1 [(0, .ref h0)] := hl
  have i8 : ∀ w ∈ u_ws RX8 TX8 1, w ∈ wsX8_init := by decide +kernel
  refine lv_aload_n hx hb dX8_init_0 rfl (lv_at hl 0 rfl) ?_
  refine W.objInit hx hb hown (hts (.methodLink RX8 1 objectInit) (by decide +kernel)) (hts (.instanceMethod objectInit) (by decide +kernel)) (hts (.code objectInit ⟨#[0xb1]⟩ 1 none) (by decide +kernel)) rfl (by rw [hml]; exact hl.1) rfl dX8_init_1 (Nat.le_of_ble_eq_true rfl) (Nat.le_of_ble_eq_true rfl) ?_
  refine W.eq (g2 := F0 m 4 ls []) rfl ?_
  refine lv_aload_n hx hb dX8_init_4 rfl (lv_at hl 0 rfl) ?_
  refine lv_iconst (v := 5) hx hb dX8_init_5 (by decide) ?_
  refine n_newa (atype := .long) (ty := .long) (N := 5) (t0 := 1) (cA := E.2.2.1 1) (a0 := (5, .inr (.inl (fun _ => 0)))) hx hb (hts (.arrayClass .long) (by decide +kernel)) rfl hK rfl hP hD hS hA (fun _ => rfl) (by decide) (by decide) (by decide) (Nat.le_of_ble_eq_true rfl) (Nat.le_of_ble_eq_true rfl) dX8_init_6 (fun q1 H hP hD hS => ?_)
  have hP : va_P (q_D E) vwCl [(q1, .inl (E.2.2.1 1, 5, .inr (.inl (fun _ => 0)))), (h0, .inr (8, [.null]))] H := hP
  have hD : va_D A [(q1, .inl (E.2.2.1 1, 5, .inr (.inl (fun _ => 0)))), (h0, .inr (8, [.null]))] := hD
  refine va_putF (D := q_D E) (ci := 8) (v := .ref q1) (ty := tyX8 0) (C := RX8) (T := TX8) (N := 1) hx hb hts i8 tyX8 tyX8_ok nmX8 hown hK.1.1 hP hD hS 1 rfl rfl 0 (by decide) (hts (.fieldLink RX8 9 "HeavyRoutes$Wide" "limbs" "[J") (by decide +kernel)) (fun _ h9 => h9) rfl hin rfl (by decide +kernel) rfl rfl (Nat.le_of_ble_eq_true rfl) dX8_init_8 (fun H locs hP hD hS => ?_)
  have hP : va_P (q_D E) vwCl [(q1, .inl (E.2.2.1 1, 5, .inr (.inl (fun _ => 0)))), (h0, .inr (8, [.ref q1]))] H := hP
  have hD : va_D A [(q1, .inl (E.2.2.1 1, 5, .inr (.inl (fun _ => 0)))), (h0, .inr (8, [.ref q1]))] := hD
  exact n_vret hx hb hr hP hD ⟨fun k => ([q1] : List Nat).getD k 0, rfl⟩ hS hAe hlk dX8_init_11
def sh_X6 (E : q_E) (h0 : Nat) (w : va_W) : Prop := ∃ u : Nat → Nat, w = [((u 0), .inl (E.2.2.1 0, 3, .inl (fun _ => 0))), ((u 1), .inl (E.2.2.1 0, 3, .inl (fun _ => 0))), (h0, .inr (6, [.int 0, .int 0, .int 0, .int 0, .int 0, .int 0, .int (-1), .int 0, .int 0, .ref (u 1), .ref (u 0)]))]
set_option maxHeartbeats 4000000 in
set_option maxRecDepth 100000 in
theorem c_X6_init (l : Launch) (E : q_E) (h0 : Nat) (sz : Nat) : Met l yX6_init wsX6_init ({ frames := 1, cells := 2, slots := 6, locals := 12 }) (n_Pc E [.ref h0] (h0, .inr (6, [.int 0, .int 0, .int 0, .int 0, .int 0, .int 0, .int 0, .int 0, .int 0, .null, .null])) sz) (n_Qv E (sh_X6 E h0) (h0, .inr (6, [.int 0, .int 0, .int 0, .int 0, .int 0, .int 0, .int 0, .int 0, .int 0, .null, .null])) sz) 2 6 (va_A [(h0, .inr (6, [.int 0, .int 0, .int 0, .int 0, .int 0, .int 0, .int 0, .int 0, .int 0, .null, .null]))] sz) := by
  refine n_met (cc := cX6_init) (maxL := 1) (by decide) rfl (Nat.le_of_ble_eq_true rfl) ?_
  intro p e s m below meth c A hx hb hr hml hown hts hlk hin hK hP hD hS hA hAe ls hl
  have hl : lv_has ls 1 [(0, .ref h0)] := hl
  have i6 : ∀ w ∈ u_ws RX6 TX6 11, w ∈ wsX6_init := by decide +kernel
  refine lv_aload_n hx hb dX6_init_0 rfl (lv_at hl 0 rfl) ?_
  refine W.objInit hx hb hown (hts (.methodLink RX6 3 objectInit) (by decide +kernel)) (hts (.instanceMethod objectInit) (by decide +kernel)) (hts (.code objectInit ⟨#[0xb1]⟩ 1 none) (by decide +kernel)) rfl (by rw [hml]; exact hl.1) rfl dX6_init_1 (Nat.le_of_ble_eq_true rfl) (Nat.le_of_ble_eq_true rfl) ?_
  refine W.eq (g2 := F0 m 4 ls []) rfl ?_
  refine lv_aload_n hx hb dX6_init_4 rfl (lv_at hl 0 rfl) ?_
  refine lv_iconst (v := (-1)) hx hb dX6_init_5 (by decide) ?_
  refine va_put (D := q_D E) (ci := 6) (v := .int (-1)) (ty := tyX6 6) (C := RX6) (T := TX6) (N := 11) hx hb hts i6 tyX6 tyX6_ok nmX6 hown hK.1.1 hP hD hS 0 rfl rfl 6 (by decide) (hts (.fieldLink RX6 9 "HeavyRoutes$Road" "bridge" "I") (by decide +kernel)) (fun _ h9 => h9) rfl (by decide +kernel) rfl rfl (Nat.le_of_ble_eq_true rfl) dX6_init_6 (fun H locs hP hD hS => ?_)
  have hP : va_P (q_D E) vwCl [(h0, .inr (6, [.int 0, .int 0, .int 0, .int 0, .int 0, .int 0, .int (-1), .int 0, .int 0, .null, .null]))] H := hP
  have hD : va_D A [(h0, .inr (6, [.int 0, .int 0, .int 0, .int 0, .int 0, .int 0, .int (-1), .int 0, .int 0, .null, .null]))] := hD
  refine lv_aload_n hx hb dX6_init_9 rfl (lv_at hl 0 rfl) ?_
  refine lv_iconst (v := 3) hx hb dX6_init_10 (by decide) ?_
  refine n_newa (atype := .int) (ty := .int) (N := 3) (t0 := 0) (cA := E.2.2.1 0) (a0 := (3, .inl (fun _ => 0))) hx hb (hts (.arrayClass .int) (by decide +kernel)) rfl hK rfl hP hD hS hA (fun _ => rfl) (by decide) (by decide) (by decide) (Nat.le_of_ble_eq_true rfl) (Nat.le_of_ble_eq_true rfl) dX6_init_11 (fun q1 H hP hD hS => ?_)
  have hP : va_P (q_D E) vwCl [(q1, .inl (E.2.2.1 0, 3, .inl (fun _ => 0))), (h0, .inr (6, [.int 0, .int 0, .int 0, .int 0, .int 0, .int 0, .int (-1), .int 0, .int 0, .null, .null]))] H := hP
  have hD : va_D A [(q1, .inl (E.2.2.1 0, 3, .inl (fun _ => 0))), (h0, .inr (6, [.int 0, .int 0, .int 0, .int 0, .int 0, .int 0, .int (-1), .int 0, .int 0, .null, .null]))] := hD
  refine va_putF (D := q_D E) (ci := 6) (v := .ref q1) (ty := tyX6 9) (C := RX6) (T := TX6) (N := 11) hx hb hts i6 tyX6 tyX6_ok nmX6 hown hK.1.1 hP hD hS 1 rfl rfl 9 (by decide) (hts (.fieldLink RX6 15 "HeavyRoutes$Road" "barFrom" "[I") (by decide +kernel)) (fun _ h9 => h9) rfl hin rfl (by decide +kernel) rfl rfl (Nat.le_of_ble_eq_true rfl) dX6_init_13 (fun H locs hP hD hS => ?_)
  have hP : va_P (q_D E) vwCl [(q1, .inl (E.2.2.1 0, 3, .inl (fun _ => 0))), (h0, .inr (6, [.int 0, .int 0, .int 0, .int 0, .int 0, .int 0, .int (-1), .int 0, .int 0, .ref q1, .null]))] H := hP
  have hD : va_D A [(q1, .inl (E.2.2.1 0, 3, .inl (fun _ => 0))), (h0, .inr (6, [.int 0, .int 0, .int 0, .int 0, .int 0, .int 0, .int (-1), .int 0, .int 0, .ref q1, .null]))] := hD
  refine lv_aload_n hx hb dX6_init_16 rfl (lv_at hl 0 rfl) ?_
  refine lv_iconst (v := 3) hx hb dX6_init_17 (by decide) ?_
  refine n_newa (atype := .int) (ty := .int) (N := 3) (t0 := 0) (cA := E.2.2.1 0) (a0 := (3, .inl (fun _ => 0))) hx hb (hts (.arrayClass .int) (by decide +kernel)) rfl hK rfl hP hD hS hA (fun _ => rfl) (by decide) (by decide) (by decide) (Nat.le_of_ble_eq_true rfl) (Nat.le_of_ble_eq_true rfl) dX6_init_18 (fun q2 H hP hD hS => ?_)
  have hP : va_P (q_D E) vwCl [(q2, .inl (E.2.2.1 0, 3, .inl (fun _ => 0))), (q1, .inl (E.2.2.1 0, 3, .inl (fun _ => 0))), (h0, .inr (6, [.int 0, .int 0, .int 0, .int 0, .int 0, .int 0, .int (-1), .int 0, .int 0, .ref q1, .null]))] H := hP
  have hD : va_D A [(q2, .inl (E.2.2.1 0, 3, .inl (fun _ => 0))), (q1, .inl (E.2.2.1 0, 3, .inl (fun _ => 0))), (h0, .inr (6, [.int 0, .int 0, .int 0, .int 0, .int 0, .int 0, .int (-1), .int 0, .int 0, .ref q1, .null]))] := hD
  refine va_putF (D := q_D E) (ci := 6) (v := .ref q2) (ty := tyX6 10) (C := RX6) (T := TX6) (N := 11) hx hb hts i6 tyX6 tyX6_ok nmX6 hown hK.1.1 hP hD hS 2 rfl rfl 10 (by decide) (hts (.fieldLink RX6 19 "HeavyRoutes$Road" "barTo" "[I") (by decide +kernel)) (fun _ h9 => h9) rfl hin rfl (by decide +kernel) rfl rfl (Nat.le_of_ble_eq_true rfl) dX6_init_20 (fun H locs hP hD hS => ?_)
  have hP : va_P (q_D E) vwCl [(q2, .inl (E.2.2.1 0, 3, .inl (fun _ => 0))), (q1, .inl (E.2.2.1 0, 3, .inl (fun _ => 0))), (h0, .inr (6, [.int 0, .int 0, .int 0, .int 0, .int 0, .int 0, .int (-1), .int 0, .int 0, .ref q1, .ref q2]))] H := hP
  have hD : va_D A [(q2, .inl (E.2.2.1 0, 3, .inl (fun _ => 0))), (q1, .inl (E.2.2.1 0, 3, .inl (fun _ => 0))), (h0, .inr (6, [.int 0, .int 0, .int 0, .int 0, .int 0, .int 0, .int (-1), .int 0, .int 0, .ref q1, .ref q2]))] := hD
  exact n_vret hx hb hr hP hD ⟨fun k => ([q2, q1] : List Nat).getD k 0, rfl⟩ hS hAe hlk dX6_init_23
def sh_X7 (E : q_E) (h0 : Nat) (w : va_W) : Prop := ∃ u : Nat → Nat, w = [((u 0), .inl (E.2.2.1 0, 6, .inl (fun _ => 0))), ((u 1), .inl (E.2.2.1 0, 6, .inl (fun _ => 0))), (h0, .inr (7, [.ref (u 1), .ref (u 0), .int 0, .int 0, .int 0, .int 0]))]
set_option maxHeartbeats 4000000 in
set_option maxRecDepth 100000 in
theorem c_X7_init (l : Launch) (E : q_E) (h0 : Nat) (sz : Nat) : Met l yX7_init wsX7_init ({ frames := 1, cells := 2, slots := 12, locals := 12 }) (n_Pc E [.ref h0] (h0, .inr (7, [.null, .null, .int 0, .int 0, .int 0, .int 0])) sz) (n_Qv E (sh_X7 E h0) (h0, .inr (7, [.null, .null, .int 0, .int 0, .int 0, .int 0])) sz) 2 12 (va_A [(h0, .inr (7, [.null, .null, .int 0, .int 0, .int 0, .int 0]))] sz) := by
  refine n_met (cc := cX7_init) (maxL := 1) (by decide) rfl (Nat.le_of_ble_eq_true rfl) ?_
  intro p e s m below meth c A hx hb hr hml hown hts hlk hin hK hP hD hS hA hAe ls hl
  have hl : lv_has ls 1 [(0, .ref h0)] := hl
  have i7 : ∀ w ∈ u_ws RX7 TX7 6, w ∈ wsX7_init := by decide +kernel
  refine lv_aload_n hx hb dX7_init_0 rfl (lv_at hl 0 rfl) ?_
  refine W.objInit hx hb hown (hts (.methodLink RX7 3 objectInit) (by decide +kernel)) (hts (.instanceMethod objectInit) (by decide +kernel)) (hts (.code objectInit ⟨#[0xb1]⟩ 1 none) (by decide +kernel)) rfl (by rw [hml]; exact hl.1) rfl dX7_init_1 (Nat.le_of_ble_eq_true rfl) (Nat.le_of_ble_eq_true rfl) ?_
  refine W.eq (g2 := F0 m 4 ls []) rfl ?_
  refine lv_aload_n hx hb dX7_init_4 rfl (lv_at hl 0 rfl) ?_
  refine lv_bipush (v := 6) hx hb dX7_init_5 (by decide) ?_
  refine n_newa (atype := .int) (ty := .int) (N := 6) (t0 := 0) (cA := E.2.2.1 0) (a0 := (6, .inl (fun _ => 0))) hx hb (hts (.arrayClass .int) (by decide +kernel)) rfl hK rfl hP hD hS hA (fun _ => rfl) (by decide) (by decide) (by decide) (Nat.le_of_ble_eq_true rfl) (Nat.le_of_ble_eq_true rfl) dX7_init_7 (fun q1 H hP hD hS => ?_)
  have hP : va_P (q_D E) vwCl [(q1, .inl (E.2.2.1 0, 6, .inl (fun _ => 0))), (h0, .inr (7, [.null, .null, .int 0, .int 0, .int 0, .int 0]))] H := hP
  have hD : va_D A [(q1, .inl (E.2.2.1 0, 6, .inl (fun _ => 0))), (h0, .inr (7, [.null, .null, .int 0, .int 0, .int 0, .int 0]))] := hD
  refine va_putF (D := q_D E) (ci := 7) (v := .ref q1) (ty := tyX7 0) (C := RX7) (T := TX7) (N := 6) hx hb hts i7 tyX7 tyX7_ok nmX7 hown hK.1.1 hP hD hS 1 rfl rfl 0 (by decide) (hts (.fieldLink RX7 9 "HeavyRoutes$Way" "roads" "[I") (by decide +kernel)) (fun _ h9 => h9) rfl hin rfl (by decide +kernel) rfl rfl (Nat.le_of_ble_eq_true rfl) dX7_init_9 (fun H locs hP hD hS => ?_)
  have hP : va_P (q_D E) vwCl [(q1, .inl (E.2.2.1 0, 6, .inl (fun _ => 0))), (h0, .inr (7, [.ref q1, .null, .int 0, .int 0, .int 0, .int 0]))] H := hP
  have hD : va_D A [(q1, .inl (E.2.2.1 0, 6, .inl (fun _ => 0))), (h0, .inr (7, [.ref q1, .null, .int 0, .int 0, .int 0, .int 0]))] := hD
  refine lv_aload_n hx hb dX7_init_12 rfl (lv_at hl 0 rfl) ?_
  refine lv_bipush (v := 6) hx hb dX7_init_13 (by decide) ?_
  refine n_newa (atype := .int) (ty := .int) (N := 6) (t0 := 0) (cA := E.2.2.1 0) (a0 := (6, .inl (fun _ => 0))) hx hb (hts (.arrayClass .int) (by decide +kernel)) rfl hK rfl hP hD hS hA (fun _ => rfl) (by decide) (by decide) (by decide) (Nat.le_of_ble_eq_true rfl) (Nat.le_of_ble_eq_true rfl) dX7_init_15 (fun q2 H hP hD hS => ?_)
  have hP : va_P (q_D E) vwCl [(q2, .inl (E.2.2.1 0, 6, .inl (fun _ => 0))), (q1, .inl (E.2.2.1 0, 6, .inl (fun _ => 0))), (h0, .inr (7, [.ref q1, .null, .int 0, .int 0, .int 0, .int 0]))] H := hP
  have hD : va_D A [(q2, .inl (E.2.2.1 0, 6, .inl (fun _ => 0))), (q1, .inl (E.2.2.1 0, 6, .inl (fun _ => 0))), (h0, .inr (7, [.ref q1, .null, .int 0, .int 0, .int 0, .int 0]))] := hD
  refine va_putF (D := q_D E) (ci := 7) (v := .ref q2) (ty := tyX7 1) (C := RX7) (T := TX7) (N := 6) hx hb hts i7 tyX7 tyX7_ok nmX7 hown hK.1.1 hP hD hS 2 rfl rfl 1 (by decide) (hts (.fieldLink RX7 15 "HeavyRoutes$Way" "starts" "[I") (by decide +kernel)) (fun _ h9 => h9) rfl hin rfl (by decide +kernel) rfl rfl (Nat.le_of_ble_eq_true rfl) dX7_init_17 (fun H locs hP hD hS => ?_)
  have hP : va_P (q_D E) vwCl [(q2, .inl (E.2.2.1 0, 6, .inl (fun _ => 0))), (q1, .inl (E.2.2.1 0, 6, .inl (fun _ => 0))), (h0, .inr (7, [.ref q1, .ref q2, .int 0, .int 0, .int 0, .int 0]))] H := hP
  have hD : va_D A [(q2, .inl (E.2.2.1 0, 6, .inl (fun _ => 0))), (q1, .inl (E.2.2.1 0, 6, .inl (fun _ => 0))), (h0, .inr (7, [.ref q1, .ref q2, .int 0, .int 0, .int 0, .int 0]))] := hD
  exact n_vret hx hb hr hP hD ⟨fun k => ([q2, q1] : List Nat).getD k 0, rfl⟩ hS hAe hlk dX7_init_20
def sh_X2 (E : q_E) (h0 : Nat) (w : va_W) : Prop := ∃ u : Nat → Nat, w = [((u 0), .inl (E.2.2.1 1, 5, .inr (.inl (fun _ => 0)))), ((u 1), .inl (E.2.2.1 1, 5, .inr (.inl (fun _ => 0)))), (h0, .inr (2, [.int 1, .int 1, .int 0, .ref (u 1), .ref (u 0)]))]
set_option maxHeartbeats 4000000 in
set_option maxRecDepth 100000 in
theorem c_X2_init (l : Launch) (E : q_E) (h0 : Nat) (sz : Nat) : Met l yX2_init wsX2_init ({ frames := 1, cells := 2, slots := 10, locals := 12 }) (n_Pc E [.ref h0] (h0, .inr (2, [.int 0, .int 0, .int 0, .null, .null])) sz) (n_Qv E (sh_X2 E h0) (h0, .inr (2, [.int 0, .int 0, .int 0, .null, .null])) sz) 2 10 (va_A [(h0, .inr (2, [.int 0, .int 0, .int 0, .null, .null]))] sz) := by
  refine n_met (cc := cX2_init) (maxL := 1) (by decide) rfl (Nat.le_of_ble_eq_true rfl) ?_
  intro p e s m below meth c A hx hb hr hml hown hts hlk hin hK hP hD hS hA hAe ls hl
  have hl : lv_has ls 1 [(0, .ref h0)] := hl
  have i2 : ∀ w ∈ u_ws RX2 TX2 5, w ∈ wsX2_init := by decide +kernel
  refine lv_aload_n hx hb dX2_init_0 rfl (lv_at hl 0 rfl) ?_
  refine W.objInit hx hb hown (hts (.methodLink RX2 3 objectInit) (by decide +kernel)) (hts (.instanceMethod objectInit) (by decide +kernel)) (hts (.code objectInit ⟨#[0xb1]⟩ 1 none) (by decide +kernel)) rfl (by rw [hml]; exact hl.1) rfl dX2_init_1 (Nat.le_of_ble_eq_true rfl) (Nat.le_of_ble_eq_true rfl) ?_
  refine W.eq (g2 := F0 m 4 ls []) rfl ?_
  refine lv_aload_n hx hb dX2_init_4 rfl (lv_at hl 0 rfl) ?_
  refine lv_iconst (v := 1) hx hb dX2_init_5 (by decide) ?_
  refine va_put (D := q_D E) (ci := 2) (v := .int 1) (ty := tyX2 0) (C := RX2) (T := TX2) (N := 5) hx hb hts i2 tyX2 tyX2_ok nmX2 hown hK.1.1 hP hD hS 0 rfl rfl 0 (by decide) (hts (.fieldLink RX2 9 "HeavyRoutes$Journey" "height" "I") (by decide +kernel)) (fun _ h9 => h9) rfl (by decide +kernel) rfl rfl (Nat.le_of_ble_eq_true rfl) dX2_init_6 (fun H locs hP hD hS => ?_)
  have hP : va_P (q_D E) vwCl [(h0, .inr (2, [.int 1, .int 0, .int 0, .null, .null]))] H := hP
  have hD : va_D A [(h0, .inr (2, [.int 1, .int 0, .int 0, .null, .null]))] := hD
  refine lv_aload_n hx hb dX2_init_9 rfl (lv_at hl 0 rfl) ?_
  refine lv_iconst (v := 1) hx hb dX2_init_10 (by decide) ?_
  refine va_put (D := q_D E) (ci := 2) (v := .int 1) (ty := tyX2 1) (C := RX2) (T := TX2) (N := 5) hx hb hts i2 tyX2 tyX2_ok nmX2 hown hK.1.1 hP hD hS 0 rfl rfl 1 (by decide) (hts (.fieldLink RX2 15 "HeavyRoutes$Journey" "width" "I") (by decide +kernel)) (fun _ h9 => h9) rfl (by decide +kernel) rfl rfl (Nat.le_of_ble_eq_true rfl) dX2_init_11 (fun H locs hP hD hS => ?_)
  have hP : va_P (q_D E) vwCl [(h0, .inr (2, [.int 1, .int 1, .int 0, .null, .null]))] H := hP
  have hD : va_D A [(h0, .inr (2, [.int 1, .int 1, .int 0, .null, .null]))] := hD
  refine lv_aload_n hx hb dX2_init_14 rfl (lv_at hl 0 rfl) ?_
  refine lv_iconst (v := 5) hx hb dX2_init_15 (by decide) ?_
  refine n_newa (atype := .long) (ty := .long) (N := 5) (t0 := 1) (cA := E.2.2.1 1) (a0 := (5, .inr (.inl (fun _ => 0)))) hx hb (hts (.arrayClass .long) (by decide +kernel)) rfl hK rfl hP hD hS hA (fun _ => rfl) (by decide) (by decide) (by decide) (Nat.le_of_ble_eq_true rfl) (Nat.le_of_ble_eq_true rfl) dX2_init_16 (fun q1 H hP hD hS => ?_)
  have hP : va_P (q_D E) vwCl [(q1, .inl (E.2.2.1 1, 5, .inr (.inl (fun _ => 0)))), (h0, .inr (2, [.int 1, .int 1, .int 0, .null, .null]))] H := hP
  have hD : va_D A [(q1, .inl (E.2.2.1 1, 5, .inr (.inl (fun _ => 0)))), (h0, .inr (2, [.int 1, .int 1, .int 0, .null, .null]))] := hD
  refine va_putF (D := q_D E) (ci := 2) (v := .ref q1) (ty := tyX2 3) (C := RX2) (T := TX2) (N := 5) hx hb hts i2 tyX2 tyX2_ok nmX2 hown hK.1.1 hP hD hS 1 rfl rfl 3 (by decide) (hts (.fieldLink RX2 18 "HeavyRoutes$Journey" "offsets" "[J") (by decide +kernel)) (fun _ h9 => h9) rfl hin rfl (by decide +kernel) rfl rfl (Nat.le_of_ble_eq_true rfl) dX2_init_18 (fun H locs hP hD hS => ?_)
  have hP : va_P (q_D E) vwCl [(q1, .inl (E.2.2.1 1, 5, .inr (.inl (fun _ => 0)))), (h0, .inr (2, [.int 1, .int 1, .int 0, .ref q1, .null]))] H := hP
  have hD : va_D A [(q1, .inl (E.2.2.1 1, 5, .inr (.inl (fun _ => 0)))), (h0, .inr (2, [.int 1, .int 1, .int 0, .ref q1, .null]))] := hD
  refine lv_aload_n hx hb dX2_init_21 rfl (lv_at hl 0 rfl) ?_
  refine lv_iconst (v := 5) hx hb dX2_init_22 (by decide) ?_
  refine n_newa (atype := .long) (ty := .long) (N := 5) (t0 := 1) (cA := E.2.2.1 1) (a0 := (5, .inr (.inl (fun _ => 0)))) hx hb (hts (.arrayClass .long) (by decide +kernel)) rfl hK rfl hP hD hS hA (fun _ => rfl) (by decide) (by decide) (by decide) (Nat.le_of_ble_eq_true rfl) (Nat.le_of_ble_eq_true rfl) dX2_init_23 (fun q2 H hP hD hS => ?_)
  have hP : va_P (q_D E) vwCl [(q2, .inl (E.2.2.1 1, 5, .inr (.inl (fun _ => 0)))), (q1, .inl (E.2.2.1 1, 5, .inr (.inl (fun _ => 0)))), (h0, .inr (2, [.int 1, .int 1, .int 0, .ref q1, .null]))] H := hP
  have hD : va_D A [(q2, .inl (E.2.2.1 1, 5, .inr (.inl (fun _ => 0)))), (q1, .inl (E.2.2.1 1, 5, .inr (.inl (fun _ => 0)))), (h0, .inr (2, [.int 1, .int 1, .int 0, .ref q1, .null]))] := hD
  refine va_putF (D := q_D E) (ci := 2) (v := .ref q2) (ty := tyX2 4) (C := RX2) (T := TX2) (N := 5) hx hb hts i2 tyX2 tyX2_ok nmX2 hown hK.1.1 hP hD hS 2 rfl rfl 4 (by decide) (hts (.fieldLink RX2 22 "HeavyRoutes$Journey" "loads" "[J") (by decide +kernel)) (fun _ h9 => h9) rfl hin rfl (by decide +kernel) rfl rfl (Nat.le_of_ble_eq_true rfl) dX2_init_25 (fun H locs hP hD hS => ?_)
  have hP : va_P (q_D E) vwCl [(q2, .inl (E.2.2.1 1, 5, .inr (.inl (fun _ => 0)))), (q1, .inl (E.2.2.1 1, 5, .inr (.inl (fun _ => 0)))), (h0, .inr (2, [.int 1, .int 1, .int 0, .ref q1, .ref q2]))] H := hP
  have hD : va_D A [(q2, .inl (E.2.2.1 1, 5, .inr (.inl (fun _ => 0)))), (q1, .inl (E.2.2.1 1, 5, .inr (.inl (fun _ => 0)))), (h0, .inr (2, [.int 1, .int 1, .int 0, .ref q1, .ref q2]))] := hD
  exact n_vret hx hb hr hP hD ⟨fun k => ([q2, q1] : List Nat).getD k 0, rfl⟩ hS hAe hlk dX2_init_28
