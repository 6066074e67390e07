def sh_X8 (E : q_E) (h0 : Nat) (w : va_W) : Prop := ∃ u : Nat → Nat, w = [((u 0), .inl (E.2.2.1 1, 4, .inr (.inl (fun _ => 0)))), (h0, .inr (8, [.ref (u 0)]))]
set_option maxHeartbeats 4000000 in
set_option maxRecDepth 100000 in
theorem c_X8_init (l : Launch) (E : q_E) (h0 : Nat) (sz : Nat) : Met l yX8_init wsX8_init ({ frames := 1, cells := 1, slots := 4, locals := 12 }) (n_Pc E [.ref h0] [(h0, .inr (8, [.null]))] sz) (n_Qv E (sh_X8 E h0) [(h0, .inr (8, [.null]))] sz) 1 4 (va_A [(h0, .inr (8, [.null]))] sz) := by
  refine n_met (cc := cX8_init) (maxL := 1) (by decide) rfl (Nat.le_of_ble_eq_true rfl) ?_
  intro p e s m below meth c A hx hb hr hml hown hts hlk hin hK hP hD hS hA hAe ls hl
  have hl : lv_has ls 1 [(0, .ref h0)] := hl
  have i8 : ∀ w ∈ u_ws RX8 TX8 1, w ∈ wsX8_init := by decide +kernel
  refine lv_aload_n hx hb dX8_init_0 rfl (lv_at hl 0 rfl) ?_
  refine W.objInit hx hb hown (hts (.methodLink RX8 1 objectInit) (by decide +kernel)) (hts (.instanceMethod objectInit) (by decide +kernel)) (hts (.code objectInit ⟨#[0xb1]⟩ 1 none) (by decide +kernel)) rfl (by rw [hml]; exact hl.1) rfl dX8_init_1 (Nat.le_of_ble_eq_true rfl) (Nat.le_of_ble_eq_true rfl) ?_
  refine W.eq (g2 := F0 m 4 ls []) rfl ?_
  refine lv_aload_n hx hb dX8_init_4 rfl (lv_at hl 0 rfl) ?_
  refine lv_iconst (v := 4) hx hb dX8_init_5 (by decide) ?_
  refine n_newa (atype := .long) (ty := .long) (N := 4) (t0 := 1) (cA := E.2.2.1 1) (a0 := (4, .inr (.inl (fun _ => 0)))) hx hb (hts (.arrayClass .long) (by decide +kernel)) rfl hK rfl hP hD hS hA (fun _ => rfl) (by decide) (by decide) (by decide) (Nat.le_of_ble_eq_true rfl) (Nat.le_of_ble_eq_true rfl) dX8_init_6 (fun q1 H hP hD hS => ?_)
  have hP : va_P (q_D E) vwCl [(q1, .inl (E.2.2.1 1, 4, .inr (.inl (fun _ => 0)))), (h0, .inr (8, [.null]))] H := hP
  have hD : va_D A [(q1, .inl (E.2.2.1 1, 4, .inr (.inl (fun _ => 0)))), (h0, .inr (8, [.null]))] := hD
  refine va_putF (D := q_D E) (ci := 8) (v := .ref q1) (ty := tyX8 0) (C := RX8) (T := TX8) (N := 1) hx hb hts i8 tyX8 tyX8_ok nmX8 hown hK.1.1 hP hD hS 1 rfl rfl 0 (by decide) (hts (.fieldLink RX8 9 "HeavyRoutes$Wide" "limbs" "[J") (by decide +kernel)) (fun _ h9 => h9) rfl hin rfl (by decide +kernel) rfl rfl (Nat.le_of_ble_eq_true rfl) dX8_init_8 (fun H locs hP hD hS => ?_)
  have hP : va_P (q_D E) vwCl [(q1, .inl (E.2.2.1 1, 4, .inr (.inl (fun _ => 0)))), (h0, .inr (8, [.ref q1]))] H := hP
  have hD : va_D A [(q1, .inl (E.2.2.1 1, 4, .inr (.inl (fun _ => 0)))), (h0, .inr (8, [.ref q1]))] := hD
  exact n_vret hx hb hr hP hD ⟨fun k => ([q1] : List Nat).getD k 0, rfl⟩ hS hAe hlk dX8_init_11
def n_one : Nat → Int64 := fun j => if j = 0 then 1 else 0
theorem n_one_e : (vp_updL (vp_updL (vp_updL (vp_updL (fun _ => 0) 1 0) 2 0) 3 0) 0 1) = n_one := by
  funext j
  by_cases h : j = 0 <;> simp [vp_updL, n_one, h]
set_option maxHeartbeats 4000000 in
set_option maxRecDepth 100000 in
theorem c_n_setTo (l : Launch) (E : q_E) (h0 x9 : Nat) (sz : Nat) : Met l yX8_setTo wsX8_setTo ({ frames := 1, cells := 0, slots := 0, locals := 12 }) (n_Pc E [.ref h0, .long 1] [(h0, .inr (8, [.ref x9])), (x9, .inl (E.2.2.1 1, 4, .inr (.inl (fun _ => 0))))] sz) (n_Qv E (fun w => w = [(h0, .inr (8, [.ref x9])), (x9, .inl (E.2.2.1 1, 4, .inr (.inl n_one)))]) [(h0, .inr (8, [.ref x9])), (x9, .inl (E.2.2.1 1, 4, .inr (.inl (fun _ => 0))))] sz) 0 0 (va_A [(h0, .inr (8, [.ref x9])), (x9, .inl (E.2.2.1 1, 4, .inr (.inl (fun _ => 0))))] sz) := by
  refine n_met (cc := cX8_setTo) (maxL := 4) (by decide) rfl (Nat.le_of_ble_eq_true rfl) ?_
  intro p e s m below meth c A hx hb hr hml hown hts hlk hin hK hP hD hS hA hAe ls hl
  have hl : lv_has ls 4 [(0, .ref h0), (1, .long 1)] := hl
  have i8 : ∀ w ∈ u_ws RX8 TX8 1, w ∈ wsX8_setTo := by decide +kernel
  refine lv_iconst (v := 1) hx hb dX8_setTo_0 (by decide) ?_
  refine lv_istore_n (lv' := [(3, .int 1), (0, .ref h0), (1, .long 1)]) hx hb dX8_setTo_1 rfl hl (by decide) rfl (fun ls hl => ?_)
  refine lv_iload_n hx hb dX8_setTo_2 rfl (lv_at hl 0 rfl) ?_
  refine lv_iconst (v := 4) hx hb dX8_setTo_3 (by decide) ?_
  refine lv_icmp_ge (tgt := 20) hx hb dX8_setTo_4 (by decide) (fun c9 => absurd c9 (by decide)) (fun _ => ?_)
  refine lv_aload_n hx hb dX8_setTo_7 rfl (lv_at hl 1 rfl) ?_
  refine va_get (D := q_D E) (ci := 8) (v := .ref x9) (C := RX8) (T := TX8) (N := 1) hx hb hts i8 hown hK.1.1 hP 0 rfl rfl 0 (by decide) (hts (.fieldLink RX8 9 "HeavyRoutes$Wide" "limbs" "[J") (by decide +kernel)) (fun _ h9 => h9) rfl dX8_setTo_8 ?_
  refine lv_iload_n hx hb dX8_setTo_11 rfl (lv_at hl 0 rfl) ?_
  refine lv_lconst (v := 0) hx hb dX8_setTo_12 (by decide) ?_
  refine va_last (D := q_D E) (f := (fun _ => 0)) (n := 4) (i := 1) (x := 0) hx hb hK.1.1 hP hD hS 1 1 rfl rfl (by unfold vp_in; decide) dX8_setTo_13 (fun H locs hP hD hS => ?_)
  have hP : va_P (q_D E) vwCl [(h0, .inr (8, [.ref x9])), (x9, .inl (E.2.2.1 1, 4, .inr (.inl (vp_updL (fun _ => 0) 1 0))))] H := hP
  have hD : va_D A [(h0, .inr (8, [.ref x9])), (x9, .inl (E.2.2.1 1, 4, .inr (.inl (vp_updL (fun _ => 0) 1 0))))] := hD
  refine lv_iinc (v := 2) (lv' := [(3, .int 2), (0, .ref h0), (1, .long 1)]) hx hb dX8_setTo_14 hl (k := 0) rfl (by decide) (by decide) rfl (fun ls hl => ?_)
  refine lv_goto (tgt := 2) hx hb dX8_setTo_17 (by decide) ?_
  refine lv_iload_n hx hb dX8_setTo_2 rfl (lv_at hl 0 rfl) ?_
  refine lv_iconst (v := 4) hx hb dX8_setTo_3 (by decide) ?_
  refine lv_icmp_ge (tgt := 20) hx hb dX8_setTo_4 (by decide) (fun c9 => absurd c9 (by decide)) (fun _ => ?_)
  refine lv_aload_n hx hb dX8_setTo_7 rfl (lv_at hl 1 rfl) ?_
  refine va_get (D := q_D E) (ci := 8) (v := .ref x9) (C := RX8) (T := TX8) (N := 1) hx hb hts i8 hown hK.1.1 hP 0 rfl rfl 0 (by decide) (hts (.fieldLink RX8 9 "HeavyRoutes$Wide" "limbs" "[J") (by decide +kernel)) (fun _ h9 => h9) rfl dX8_setTo_8 ?_
  refine lv_iload_n hx hb dX8_setTo_11 rfl (lv_at hl 0 rfl) ?_
  refine lv_lconst (v := 0) hx hb dX8_setTo_12 (by decide) ?_
  refine va_last (D := q_D E) (f := (vp_updL (fun _ => 0) 1 0)) (n := 4) (i := 2) (x := 0) hx hb hK.1.1 hP hD hS 1 1 rfl rfl (by unfold vp_in; decide) dX8_setTo_13 (fun H locs hP hD hS => ?_)
  have hP : va_P (q_D E) vwCl [(h0, .inr (8, [.ref x9])), (x9, .inl (E.2.2.1 1, 4, .inr (.inl (vp_updL (vp_updL (fun _ => 0) 1 0) 2 0))))] H := hP
  have hD : va_D A [(h0, .inr (8, [.ref x9])), (x9, .inl (E.2.2.1 1, 4, .inr (.inl (vp_updL (vp_updL (fun _ => 0) 1 0) 2 0))))] := hD
  refine lv_iinc (v := 3) (lv' := [(3, .int 3), (0, .ref h0), (1, .long 1)]) hx hb dX8_setTo_14 hl (k := 0) rfl (by decide) (by decide) rfl (fun ls hl => ?_)
  refine lv_goto (tgt := 2) hx hb dX8_setTo_17 (by decide) ?_
  refine lv_iload_n hx hb dX8_setTo_2 rfl (lv_at hl 0 rfl) ?_
  refine lv_iconst (v := 4) hx hb dX8_setTo_3 (by decide) ?_
  refine lv_icmp_ge (tgt := 20) hx hb dX8_setTo_4 (by decide) (fun c9 => absurd c9 (by decide)) (fun _ => ?_)
  refine lv_aload_n hx hb dX8_setTo_7 rfl (lv_at hl 1 rfl) ?_
  refine va_get (D := q_D E) (ci := 8) (v := .ref x9) (C := RX8) (T := TX8) (N := 1) hx hb hts i8 hown hK.1.1 hP 0 rfl rfl 0 (by decide) (hts (.fieldLink RX8 9 "HeavyRoutes$Wide" "limbs" "[J") (by decide +kernel)) (fun _ h9 => h9) rfl dX8_setTo_8 ?_
  refine lv_iload_n hx hb dX8_setTo_11 rfl (lv_at hl 0 rfl) ?_
  refine lv_lconst (v := 0) hx hb dX8_setTo_12 (by decide) ?_
  refine va_last (D := q_D E) (f := (vp_updL (vp_updL (fun _ => 0) 1 0) 2 0)) (n := 4) (i := 3) (x := 0) hx hb hK.1.1 hP hD hS 1 1 rfl rfl (by unfold vp_in; decide) dX8_setTo_13 (fun H locs hP hD hS => ?_)
  have hP : va_P (q_D E) vwCl [(h0, .inr (8, [.ref x9])), (x9, .inl (E.2.2.1 1, 4, .inr (.inl (vp_updL (vp_updL (vp_updL (fun _ => 0) 1 0) 2 0) 3 0))))] H := hP
  have hD : va_D A [(h0, .inr (8, [.ref x9])), (x9, .inl (E.2.2.1 1, 4, .inr (.inl (vp_updL (vp_updL (vp_updL (fun _ => 0) 1 0) 2 0) 3 0))))] := hD
  refine lv_iinc (v := 4) (lv' := [(3, .int 4), (0, .ref h0), (1, .long 1)]) hx hb dX8_setTo_14 hl (k := 0) rfl (by decide) (by decide) rfl (fun ls hl => ?_)
  refine lv_goto (tgt := 2) hx hb dX8_setTo_17 (by decide) ?_
  refine lv_iload_n hx hb dX8_setTo_2 rfl (lv_at hl 0 rfl) ?_
  refine lv_iconst (v := 4) hx hb dX8_setTo_3 (by decide) ?_
  refine lv_icmp_ge (tgt := 20) hx hb dX8_setTo_4 (by decide) (fun _ => ?_) (fun c9 => absurd (by decide) c9)
  refine lv_aload_n hx hb dX8_setTo_20 rfl (lv_at hl 1 rfl) ?_
  refine va_get (D := q_D E) (ci := 8) (v := .ref x9) (C := RX8) (T := TX8) (N := 1) hx hb hts i8 hown hK.1.1 hP 0 rfl rfl 0 (by decide) (hts (.fieldLink RX8 9 "HeavyRoutes$Wide" "limbs" "[J") (by decide +kernel)) (fun _ h9 => h9) rfl dX8_setTo_21 ?_
  refine lv_iconst (v := 0) hx hb dX8_setTo_24 (by decide) ?_
  refine lv_lload_n hx hb dX8_setTo_25 rfl (lv_at hl 2 rfl) ?_
  refine va_last (D := q_D E) (f := (vp_updL (vp_updL (vp_updL (fun _ => 0) 1 0) 2 0) 3 0)) (n := 4) (i := 0) (x := 1) hx hb hK.1.1 hP hD hS 1 1 rfl rfl (by unfold vp_in; decide) dX8_setTo_26 (fun H locs hP hD hS => ?_)
  have hP : va_P (q_D E) vwCl [(h0, .inr (8, [.ref x9])), (x9, .inl (E.2.2.1 1, 4, .inr (.inl (vp_updL (vp_updL (vp_updL (vp_updL (fun _ => 0) 1 0) 2 0) 3 0) 0 1))))] H := hP
  have hD : va_D A [(h0, .inr (8, [.ref x9])), (x9, .inl (E.2.2.1 1, 4, .inr (.inl (vp_updL (vp_updL (vp_updL (vp_updL (fun _ => 0) 1 0) 2 0) 3 0) 0 1))))] := hD
  rw [n_one_e] at hP hD
  exact n_vret hx hb hr hP hD rfl hS hAe hlk dX8_setTo_27
def sh_X6 (E : q_E) (h0 : Nat) (w : va_W) : Prop := ∃ u : Nat → Nat, w = [((u 0), .inl (E.2.2.1 0, 3, .inl (fun _ => 0))), ((u 1), .inl (E.2.2.1 0, 3, .inl (fun _ => 0))), (h0, .inr (6, [.int 0, .int 0, .int 0, .int 0, .int 0, .int 0, .int (-1), .int 0, .int 0, .ref (u 1), .ref (u 0)]))]
set_option maxHeartbeats 4000000 in
set_option maxRecDepth 100000 in
theorem c_X6_init (l : Launch) (E : q_E) (h0 : Nat) (sz : Nat) : Met l yX6_init wsX6_init ({ frames := 1, cells := 2, slots := 6, locals := 12 }) (n_Pc E [.ref h0] [(h0, .inr (6, [.int 0, .int 0, .int 0, .int 0, .int 0, .int 0, .int 0, .int 0, .int 0, .null, .null]))] sz) (n_Qv E (sh_X6 E h0) [(h0, .inr (6, [.int 0, .int 0, .int 0, .int 0, .int 0, .int 0, .int 0, .int 0, .int 0, .null, .null]))] sz) 2 6 (va_A [(h0, .inr (6, [.int 0, .int 0, .int 0, .int 0, .int 0, .int 0, .int 0, .int 0, .int 0, .null, .null]))] sz) := by
  refine n_met (cc := cX6_init) (maxL := 1) (by decide) rfl (Nat.le_of_ble_eq_true rfl) ?_
  intro p e s m below meth c A hx hb hr hml hown hts hlk hin hK hP hD hS hA hAe ls hl
  have hl : lv_has ls 1 [(0, .ref h0)] := hl
  have i6 : ∀ w ∈ u_ws RX6 TX6 11, w ∈ wsX6_init := by decide +kernel
  refine lv_aload_n hx hb dX6_init_0 rfl (lv_at hl 0 rfl) ?_
  refine W.objInit hx hb hown (hts (.methodLink RX6 3 objectInit) (by decide +kernel)) (hts (.instanceMethod objectInit) (by decide +kernel)) (hts (.code objectInit ⟨#[0xb1]⟩ 1 none) (by decide +kernel)) rfl (by rw [hml]; exact hl.1) rfl dX6_init_1 (Nat.le_of_ble_eq_true rfl) (Nat.le_of_ble_eq_true rfl) ?_
  refine W.eq (g2 := F0 m 4 ls []) rfl ?_
  refine lv_aload_n hx hb dX6_init_4 rfl (lv_at hl 0 rfl) ?_
  refine lv_iconst (v := (-1)) hx hb dX6_init_5 (by decide) ?_
  refine va_put (D := q_D E) (ci := 6) (v := .int (-1)) (ty := tyX6 6) (C := RX6) (T := TX6) (N := 11) hx hb hts i6 tyX6 tyX6_ok nmX6 hown hK.1.1 hP hD hS 0 rfl rfl 6 (by decide) (hts (.fieldLink RX6 9 "HeavyRoutes$Road" "bridge" "I") (by decide +kernel)) (fun _ h9 => h9) rfl (by decide +kernel) rfl rfl (Nat.le_of_ble_eq_true rfl) dX6_init_6 (fun H locs hP hD hS => ?_)
  have hP : va_P (q_D E) vwCl [(h0, .inr (6, [.int 0, .int 0, .int 0, .int 0, .int 0, .int 0, .int (-1), .int 0, .int 0, .null, .null]))] H := hP
  have hD : va_D A [(h0, .inr (6, [.int 0, .int 0, .int 0, .int 0, .int 0, .int 0, .int (-1), .int 0, .int 0, .null, .null]))] := hD
  refine lv_aload_n hx hb dX6_init_9 rfl (lv_at hl 0 rfl) ?_
  refine lv_iconst (v := 3) hx hb dX6_init_10 (by decide) ?_
  refine n_newa (atype := .int) (ty := .int) (N := 3) (t0 := 0) (cA := E.2.2.1 0) (a0 := (3, .inl (fun _ => 0))) hx hb (hts (.arrayClass .int) (by decide +kernel)) rfl hK rfl hP hD hS hA (fun _ => rfl) (by decide) (by decide) (by decide) (Nat.le_of_ble_eq_true rfl) (Nat.le_of_ble_eq_true rfl) dX6_init_11 (fun q1 H hP hD hS => ?_)
  have hP : va_P (q_D E) vwCl [(q1, .inl (E.2.2.1 0, 3, .inl (fun _ => 0))), (h0, .inr (6, [.int 0, .int 0, .int 0, .int 0, .int 0, .int 0, .int (-1), .int 0, .int 0, .null, .null]))] H := hP
  have hD : va_D A [(q1, .inl (E.2.2.1 0, 3, .inl (fun _ => 0))), (h0, .inr (6, [.int 0, .int 0, .int 0, .int 0, .int 0, .int 0, .int (-1), .int 0, .int 0, .null, .null]))] := hD
  refine va_putF (D := q_D E) (ci := 6) (v := .ref q1) (ty := tyX6 9) (C := RX6) (T := TX6) (N := 11) hx hb hts i6 tyX6 tyX6_ok nmX6 hown hK.1.1 hP hD hS 1 rfl rfl 9 (by decide) (hts (.fieldLink RX6 15 "HeavyRoutes$Road" "barFrom" "[I") (by decide +kernel)) (fun _ h9 => h9) rfl hin rfl (by decide +kernel) rfl rfl (Nat.le_of_ble_eq_true rfl) dX6_init_13 (fun H locs hP hD hS => ?_)
  have hP : va_P (q_D E) vwCl [(q1, .inl (E.2.2.1 0, 3, .inl (fun _ => 0))), (h0, .inr (6, [.int 0, .int 0, .int 0, .int 0, .int 0, .int 0, .int (-1), .int 0, .int 0, .ref q1, .null]))] H := hP
  have hD : va_D A [(q1, .inl (E.2.2.1 0, 3, .inl (fun _ => 0))), (h0, .inr (6, [.int 0, .int 0, .int 0, .int 0, .int 0, .int 0, .int (-1), .int 0, .int 0, .ref q1, .null]))] := hD
  refine lv_aload_n hx hb dX6_init_16 rfl (lv_at hl 0 rfl) ?_
  refine lv_iconst (v := 3) hx hb dX6_init_17 (by decide) ?_
  refine n_newa (atype := .int) (ty := .int) (N := 3) (t0 := 0) (cA := E.2.2.1 0) (a0 := (3, .inl (fun _ => 0))) hx hb (hts (.arrayClass .int) (by decide +kernel)) rfl hK rfl hP hD hS hA (fun _ => rfl) (by decide) (by decide) (by decide) (Nat.le_of_ble_eq_true rfl) (Nat.le_of_ble_eq_true rfl) dX6_init_18 (fun q2 H hP hD hS => ?_)
  have hP : va_P (q_D E) vwCl [(q2, .inl (E.2.2.1 0, 3, .inl (fun _ => 0))), (q1, .inl (E.2.2.1 0, 3, .inl (fun _ => 0))), (h0, .inr (6, [.int 0, .int 0, .int 0, .int 0, .int 0, .int 0, .int (-1), .int 0, .int 0, .ref q1, .null]))] H := hP
  have hD : va_D A [(q2, .inl (E.2.2.1 0, 3, .inl (fun _ => 0))), (q1, .inl (E.2.2.1 0, 3, .inl (fun _ => 0))), (h0, .inr (6, [.int 0, .int 0, .int 0, .int 0, .int 0, .int 0, .int (-1), .int 0, .int 0, .ref q1, .null]))] := hD
  refine va_putF (D := q_D E) (ci := 6) (v := .ref q2) (ty := tyX6 10) (C := RX6) (T := TX6) (N := 11) hx hb hts i6 tyX6 tyX6_ok nmX6 hown hK.1.1 hP hD hS 2 rfl rfl 10 (by decide) (hts (.fieldLink RX6 19 "HeavyRoutes$Road" "barTo" "[I") (by decide +kernel)) (fun _ h9 => h9) rfl hin rfl (by decide +kernel) rfl rfl (Nat.le_of_ble_eq_true rfl) dX6_init_20 (fun H locs hP hD hS => ?_)
  have hP : va_P (q_D E) vwCl [(q2, .inl (E.2.2.1 0, 3, .inl (fun _ => 0))), (q1, .inl (E.2.2.1 0, 3, .inl (fun _ => 0))), (h0, .inr (6, [.int 0, .int 0, .int 0, .int 0, .int 0, .int 0, .int (-1), .int 0, .int 0, .ref q1, .ref q2]))] H := hP
  have hD : va_D A [(q2, .inl (E.2.2.1 0, 3, .inl (fun _ => 0))), (q1, .inl (E.2.2.1 0, 3, .inl (fun _ => 0))), (h0, .inr (6, [.int 0, .int 0, .int 0, .int 0, .int 0, .int 0, .int (-1), .int 0, .int 0, .ref q1, .ref q2]))] := hD
  exact n_vret hx hb hr hP hD ⟨fun k => ([q2, q1] : List Nat).getD k 0, rfl⟩ hS hAe hlk dX6_init_23
def sh_X7 (E : q_E) (h0 : Nat) (w : va_W) : Prop := ∃ u : Nat → Nat, w = [((u 0), .inl (E.2.2.1 0, 6, .inl (fun _ => 0))), ((u 1), .inl (E.2.2.1 0, 6, .inl (fun _ => 0))), (h0, .inr (7, [.ref (u 1), .ref (u 0), .int 0, .int 0, .int 0, .int 0]))]
set_option maxHeartbeats 4000000 in
set_option maxRecDepth 100000 in
theorem c_X7_init (l : Launch) (E : q_E) (h0 : Nat) (sz : Nat) : Met l yX7_init wsX7_init ({ frames := 1, cells := 2, slots := 12, locals := 12 }) (n_Pc E [.ref h0] [(h0, .inr (7, [.null, .null, .int 0, .int 0, .int 0, .int 0]))] sz) (n_Qv E (sh_X7 E h0) [(h0, .inr (7, [.null, .null, .int 0, .int 0, .int 0, .int 0]))] sz) 2 12 (va_A [(h0, .inr (7, [.null, .null, .int 0, .int 0, .int 0, .int 0]))] sz) := by
  refine n_met (cc := cX7_init) (maxL := 1) (by decide) rfl (Nat.le_of_ble_eq_true rfl) ?_
  intro p e s m below meth c A hx hb hr hml hown hts hlk hin hK hP hD hS hA hAe ls hl
  have hl : lv_has ls 1 [(0, .ref h0)] := hl
  have i7 : ∀ w ∈ u_ws RX7 TX7 6, w ∈ wsX7_init := by decide +kernel
  refine lv_aload_n hx hb dX7_init_0 rfl (lv_at hl 0 rfl) ?_
  refine W.objInit hx hb hown (hts (.methodLink RX7 3 objectInit) (by decide +kernel)) (hts (.instanceMethod objectInit) (by decide +kernel)) (hts (.code objectInit ⟨#[0xb1]⟩ 1 none) (by decide +kernel)) rfl (by rw [hml]; exact hl.1) rfl dX7_init_1 (Nat.le_of_ble_eq_true rfl) (Nat.le_of_ble_eq_true rfl) ?_
  refine W.eq (g2 := F0 m 4 ls []) rfl ?_
  refine lv_aload_n hx hb dX7_init_4 rfl (lv_at hl 0 rfl) ?_
  refine lv_bipush (v := 6) hx hb dX7_init_5 (by decide) ?_
  refine n_newa (atype := .int) (ty := .int) (N := 6) (t0 := 0) (cA := E.2.2.1 0) (a0 := (6, .inl (fun _ => 0))) hx hb (hts (.arrayClass .int) (by decide +kernel)) rfl hK rfl hP hD hS hA (fun _ => rfl) (by decide) (by decide) (by decide) (Nat.le_of_ble_eq_true rfl) (Nat.le_of_ble_eq_true rfl) dX7_init_7 (fun q1 H hP hD hS => ?_)
  have hP : va_P (q_D E) vwCl [(q1, .inl (E.2.2.1 0, 6, .inl (fun _ => 0))), (h0, .inr (7, [.null, .null, .int 0, .int 0, .int 0, .int 0]))] H := hP
  have hD : va_D A [(q1, .inl (E.2.2.1 0, 6, .inl (fun _ => 0))), (h0, .inr (7, [.null, .null, .int 0, .int 0, .int 0, .int 0]))] := hD
  refine va_putF (D := q_D E) (ci := 7) (v := .ref q1) (ty := tyX7 0) (C := RX7) (T := TX7) (N := 6) hx hb hts i7 tyX7 tyX7_ok nmX7 hown hK.1.1 hP hD hS 1 rfl rfl 0 (by decide) (hts (.fieldLink RX7 9 "HeavyRoutes$Way" "roads" "[I") (by decide +kernel)) (fun _ h9 => h9) rfl hin rfl (by decide +kernel) rfl rfl (Nat.le_of_ble_eq_true rfl) dX7_init_9 (fun H locs hP hD hS => ?_)
  have hP : va_P (q_D E) vwCl [(q1, .inl (E.2.2.1 0, 6, .inl (fun _ => 0))), (h0, .inr (7, [.ref q1, .null, .int 0, .int 0, .int 0, .int 0]))] H := hP
  have hD : va_D A [(q1, .inl (E.2.2.1 0, 6, .inl (fun _ => 0))), (h0, .inr (7, [.ref q1, .null, .int 0, .int 0, .int 0, .int 0]))] := hD
  refine lv_aload_n hx hb dX7_init_12 rfl (lv_at hl 0 rfl) ?_
  refine lv_bipush (v := 6) hx hb dX7_init_13 (by decide) ?_
  refine n_newa (atype := .int) (ty := .int) (N := 6) (t0 := 0) (cA := E.2.2.1 0) (a0 := (6, .inl (fun _ => 0))) hx hb (hts (.arrayClass .int) (by decide +kernel)) rfl hK rfl hP hD hS hA (fun _ => rfl) (by decide) (by decide) (by decide) (Nat.le_of_ble_eq_true rfl) (Nat.le_of_ble_eq_true rfl) dX7_init_15 (fun q2 H hP hD hS => ?_)
  have hP : va_P (q_D E) vwCl [(q2, .inl (E.2.2.1 0, 6, .inl (fun _ => 0))), (q1, .inl (E.2.2.1 0, 6, .inl (fun _ => 0))), (h0, .inr (7, [.ref q1, .null, .int 0, .int 0, .int 0, .int 0]))] H := hP
  have hD : va_D A [(q2, .inl (E.2.2.1 0, 6, .inl (fun _ => 0))), (q1, .inl (E.2.2.1 0, 6, .inl (fun _ => 0))), (h0, .inr (7, [.ref q1, .null, .int 0, .int 0, .int 0, .int 0]))] := hD
  refine va_putF (D := q_D E) (ci := 7) (v := .ref q2) (ty := tyX7 1) (C := RX7) (T := TX7) (N := 6) hx hb hts i7 tyX7 tyX7_ok nmX7 hown hK.1.1 hP hD hS 2 rfl rfl 1 (by decide) (hts (.fieldLink RX7 15 "HeavyRoutes$Way" "starts" "[I") (by decide +kernel)) (fun _ h9 => h9) rfl hin rfl (by decide +kernel) rfl rfl (Nat.le_of_ble_eq_true rfl) dX7_init_17 (fun H locs hP hD hS => ?_)
  have hP : va_P (q_D E) vwCl [(q2, .inl (E.2.2.1 0, 6, .inl (fun _ => 0))), (q1, .inl (E.2.2.1 0, 6, .inl (fun _ => 0))), (h0, .inr (7, [.ref q1, .ref q2, .int 0, .int 0, .int 0, .int 0]))] H := hP
  have hD : va_D A [(q2, .inl (E.2.2.1 0, 6, .inl (fun _ => 0))), (q1, .inl (E.2.2.1 0, 6, .inl (fun _ => 0))), (h0, .inr (7, [.ref q1, .ref q2, .int 0, .int 0, .int 0, .int 0]))] := hD
  exact n_vret hx hb hr hP hD ⟨fun k => ([q2, q1] : List Nat).getD k 0, rfl⟩ hS hAe hlk dX7_init_20
def sh_X2 (E : q_E) (h0 : Nat) (w : va_W) : Prop := ∃ u : Nat → Nat, w = [((u 0), .inl (E.2.2.1 1, 5, .inr (.inl (fun _ => 0)))), ((u 1), .inl (E.2.2.1 1, 5, .inr (.inl (fun _ => 0)))), (h0, .inr (2, [.int 1, .int 1, .int 0, .ref (u 1), .ref (u 0)]))]
set_option maxHeartbeats 4000000 in
set_option maxRecDepth 100000 in
theorem c_X2_init (l : Launch) (E : q_E) (h0 : Nat) (sz : Nat) : Met l yX2_init wsX2_init ({ frames := 1, cells := 2, slots := 10, locals := 12 }) (n_Pc E [.ref h0] [(h0, .inr (2, [.int 0, .int 0, .int 0, .null, .null]))] sz) (n_Qv E (sh_X2 E h0) [(h0, .inr (2, [.int 0, .int 0, .int 0, .null, .null]))] sz) 2 10 (va_A [(h0, .inr (2, [.int 0, .int 0, .int 0, .null, .null]))] sz) := by
  refine n_met (cc := cX2_init) (maxL := 1) (by decide) rfl (Nat.le_of_ble_eq_true rfl) ?_
  intro p e s m below meth c A hx hb hr hml hown hts hlk hin hK hP hD hS hA hAe ls hl
  have hl : lv_has ls 1 [(0, .ref h0)] := hl
  have i2 : ∀ w ∈ u_ws RX2 TX2 5, w ∈ wsX2_init := by decide +kernel
  refine lv_aload_n hx hb dX2_init_0 rfl (lv_at hl 0 rfl) ?_
  refine W.objInit hx hb hown (hts (.methodLink RX2 3 objectInit) (by decide +kernel)) (hts (.instanceMethod objectInit) (by decide +kernel)) (hts (.code objectInit ⟨#[0xb1]⟩ 1 none) (by decide +kernel)) rfl (by rw [hml]; exact hl.1) rfl dX2_init_1 (Nat.le_of_ble_eq_true rfl) (Nat.le_of_ble_eq_true rfl) ?_
  refine W.eq (g2 := F0 m 4 ls []) rfl ?_
  refine lv_aload_n hx hb dX2_init_4 rfl (lv_at hl 0 rfl) ?_
  refine lv_iconst (v := 1) hx hb dX2_init_5 (by decide) ?_
  refine va_put (D := q_D E) (ci := 2) (v := .int 1) (ty := tyX2 0) (C := RX2) (T := TX2) (N := 5) hx hb hts i2 tyX2 tyX2_ok nmX2 hown hK.1.1 hP hD hS 0 rfl rfl 0 (by decide) (hts (.fieldLink RX2 9 "HeavyRoutes$Journey" "height" "I") (by decide +kernel)) (fun _ h9 => h9) rfl (by decide +kernel) rfl rfl (Nat.le_of_ble_eq_true rfl) dX2_init_6 (fun H locs hP hD hS => ?_)
  have hP : va_P (q_D E) vwCl [(h0, .inr (2, [.int 1, .int 0, .int 0, .null, .null]))] H := hP
  have hD : va_D A [(h0, .inr (2, [.int 1, .int 0, .int 0, .null, .null]))] := hD
  refine lv_aload_n hx hb dX2_init_9 rfl (lv_at hl 0 rfl) ?_
  refine lv_iconst (v := 1) hx hb dX2_init_10 (by decide) ?_
  refine va_put (D := q_D E) (ci := 2) (v := .int 1) (ty := tyX2 1) (C := RX2) (T := TX2) (N := 5) hx hb hts i2 tyX2 tyX2_ok nmX2 hown hK.1.1 hP hD hS 0 rfl rfl 1 (by decide) (hts (.fieldLink RX2 15 "HeavyRoutes$Journey" "width" "I") (by decide +kernel)) (fun _ h9 => h9) rfl (by decide +kernel) rfl rfl (Nat.le_of_ble_eq_true rfl) dX2_init_11 (fun H locs hP hD hS => ?_)
  have hP : va_P (q_D E) vwCl [(h0, .inr (2, [.int 1, .int 1, .int 0, .null, .null]))] H := hP
  have hD : va_D A [(h0, .inr (2, [.int 1, .int 1, .int 0, .null, .null]))] := hD
  refine lv_aload_n hx hb dX2_init_14 rfl (lv_at hl 0 rfl) ?_
  refine lv_iconst (v := 5) hx hb dX2_init_15 (by decide) ?_
  refine n_newa (atype := .long) (ty := .long) (N := 5) (t0 := 1) (cA := E.2.2.1 1) (a0 := (5, .inr (.inl (fun _ => 0)))) hx hb (hts (.arrayClass .long) (by decide +kernel)) rfl hK rfl hP hD hS hA (fun _ => rfl) (by decide) (by decide) (by decide) (Nat.le_of_ble_eq_true rfl) (Nat.le_of_ble_eq_true rfl) dX2_init_16 (fun q1 H hP hD hS => ?_)
  have hP : va_P (q_D E) vwCl [(q1, .inl (E.2.2.1 1, 5, .inr (.inl (fun _ => 0)))), (h0, .inr (2, [.int 1, .int 1, .int 0, .null, .null]))] H := hP
  have hD : va_D A [(q1, .inl (E.2.2.1 1, 5, .inr (.inl (fun _ => 0)))), (h0, .inr (2, [.int 1, .int 1, .int 0, .null, .null]))] := hD
  refine va_putF (D := q_D E) (ci := 2) (v := .ref q1) (ty := tyX2 3) (C := RX2) (T := TX2) (N := 5) hx hb hts i2 tyX2 tyX2_ok nmX2 hown hK.1.1 hP hD hS 1 rfl rfl 3 (by decide) (hts (.fieldLink RX2 18 "HeavyRoutes$Journey" "offsets" "[J") (by decide +kernel)) (fun _ h9 => h9) rfl hin rfl (by decide +kernel) rfl rfl (Nat.le_of_ble_eq_true rfl) dX2_init_18 (fun H locs hP hD hS => ?_)
  have hP : va_P (q_D E) vwCl [(q1, .inl (E.2.2.1 1, 5, .inr (.inl (fun _ => 0)))), (h0, .inr (2, [.int 1, .int 1, .int 0, .ref q1, .null]))] H := hP
  have hD : va_D A [(q1, .inl (E.2.2.1 1, 5, .inr (.inl (fun _ => 0)))), (h0, .inr (2, [.int 1, .int 1, .int 0, .ref q1, .null]))] := hD
  refine lv_aload_n hx hb dX2_init_21 rfl (lv_at hl 0 rfl) ?_
  refine lv_iconst (v := 5) hx hb dX2_init_22 (by decide) ?_
  refine n_newa (atype := .long) (ty := .long) (N := 5) (t0 := 1) (cA := E.2.2.1 1) (a0 := (5, .inr (.inl (fun _ => 0)))) hx hb (hts (.arrayClass .long) (by decide +kernel)) rfl hK rfl hP hD hS hA (fun _ => rfl) (by decide) (by decide) (by decide) (Nat.le_of_ble_eq_true rfl) (Nat.le_of_ble_eq_true rfl) dX2_init_23 (fun q2 H hP hD hS => ?_)
  have hP : va_P (q_D E) vwCl [(q2, .inl (E.2.2.1 1, 5, .inr (.inl (fun _ => 0)))), (q1, .inl (E.2.2.1 1, 5, .inr (.inl (fun _ => 0)))), (h0, .inr (2, [.int 1, .int 1, .int 0, .ref q1, .null]))] H := hP
  have hD : va_D A [(q2, .inl (E.2.2.1 1, 5, .inr (.inl (fun _ => 0)))), (q1, .inl (E.2.2.1 1, 5, .inr (.inl (fun _ => 0)))), (h0, .inr (2, [.int 1, .int 1, .int 0, .ref q1, .null]))] := hD
  refine va_putF (D := q_D E) (ci := 2) (v := .ref q2) (ty := tyX2 4) (C := RX2) (T := TX2) (N := 5) hx hb hts i2 tyX2 tyX2_ok nmX2 hown hK.1.1 hP hD hS 2 rfl rfl 4 (by decide) (hts (.fieldLink RX2 22 "HeavyRoutes$Journey" "loads" "[J") (by decide +kernel)) (fun _ h9 => h9) rfl hin rfl (by decide +kernel) rfl rfl (Nat.le_of_ble_eq_true rfl) dX2_init_25 (fun H locs hP hD hS => ?_)
  have hP : va_P (q_D E) vwCl [(q2, .inl (E.2.2.1 1, 5, .inr (.inl (fun _ => 0)))), (q1, .inl (E.2.2.1 1, 5, .inr (.inl (fun _ => 0)))), (h0, .inr (2, [.int 1, .int 1, .int 0, .ref q1, .ref q2]))] H := hP
  have hD : va_D A [(q2, .inl (E.2.2.1 1, 5, .inr (.inl (fun _ => 0)))), (q1, .inl (E.2.2.1 1, 5, .inr (.inl (fun _ => 0)))), (h0, .inr (2, [.int 1, .int 1, .int 0, .ref q1, .ref q2]))] := hD
  exact n_vret hx hb hr hP hD ⟨fun k => ([q2, q1] : List Nat).getD k 0, rfl⟩ hS hAe hlk dX2_init_28
def sh_X5 (E : q_E) (h0 : Nat) (w : va_W) : Prop := ∃ u : Nat → Nat, w = [((u 0), .inr (8, [.ref (u 1)])), ((u 1), .inl (E.2.2.1 1, 4, .inr (.inl n_one))), ((u 2), .inl (E.2.2.1 1, 4, .inr (.inl (fun _ => 0)))), ((u 3), .inr (8, [.ref (u 2)])), (h0, .inr (5, [.ref (u 3), .ref (u 0)]))]
set_option maxHeartbeats 4000000 in
set_option maxRecDepth 100000 in
theorem c_X5_init (l : Launch) (E : q_E) (h0 : Nat) (sz : Nat) : Met l yX5_init wsX5_init ({ frames := 2, cells := 4, slots := 10, locals := 35 }) (n_Pc E [.ref h0] [(h0, .inr (5, [.null, .null]))] sz) (n_Qv E (sh_X5 E h0) [(h0, .inr (5, [.null, .null]))] sz) 4 10 (va_A [(h0, .inr (5, [.null, .null]))] sz) := by
  refine n_met (cc := cX5_init) (maxL := 1) (by decide) rfl (Nat.le_of_ble_eq_true rfl) ?_
  intro p e s m below meth c A hx hb hr hml hown hts hlk hin hK hP hD hS hA hAe ls hl
  have hl : lv_has ls 1 [(0, .ref h0)] := hl
  have i5 : ∀ w ∈ u_ws RX5 TX5 2, w ∈ wsX5_init := by decide +kernel
  have i8 : ∀ w ∈ u_ws RX8 TX8 1, w ∈ wsX5_init := by decide +kernel
  refine lv_aload_n hx hb dX5_init_0 rfl (lv_at hl 0 rfl) ?_
  refine W.objInit hx hb hown (hts (.methodLink RX5 1 objectInit) (by decide +kernel)) (hts (.instanceMethod objectInit) (by decide +kernel)) (hts (.code objectInit ⟨#[0xb1]⟩ 1 none) (by decide +kernel)) rfl (by rw [hml]; exact hl.1) rfl dX5_init_1 (Nat.le_of_ble_eq_true rfl) (Nat.le_of_ble_eq_true rfl) ?_
  refine W.eq (g2 := F0 m 4 ls []) rfl ?_
  refine lv_aload_n hx hb dX5_init_4 rfl (lv_at hl 0 rfl) ?_
  refine n_new (ci := 8) (fs := [.null]) (C := RX8) (T := TX8) (N := 1) hx hb hts i8 tyX8 tyX8_ok hown (hts (.classLink RX5 7 RX8) (by decide +kernel)) (hts (.instantiable RX8 1) (by decide +kernel)) (hts (.initialized RX8) (by decide +kernel)) hK hP hD hS hA rfl (fun j hj => by rcases (show j = 0 by omega) with rfl <;> rfl) (Nat.le_of_ble_eq_true rfl) (Nat.le_of_ble_eq_true rfl) dX5_init_5 (fun q1 H hP hD hS => ?_)
  have hP : va_P (q_D E) vwCl [(q1, .inr (8, [.null])), (h0, .inr (5, [.null, .null]))] H := hP
  have hD : va_D A [(q1, .inr (8, [.null])), (h0, .inr (5, [.null, .null]))] := hD
  refine lv_dup hx hb dX5_init_8 rfl ?_
  refine n_callI (x := [(q1, .inr (8, [.null]))]) (b := q1) (sh := sh_X8 E q1) ⟨hx, hb, hml, hown, hts⟩ hK hP hD hS hA (c_X8_init l E q1 H.size) (fun hpr => va_runIN (As := []) (rest := [.ref q1, .ref h0]) ⟨hx, hb, hml, hown, hts⟩ (c_X8_init l E q1 H.size) ⟨va_cnB 0 hts gX5_init_X8_init_n9 rfl rfl rfl (hK.1.2.2 (RX5, 9, yX8_init, "HeavyRoutes") (by decide +kernel)) (hts (.initialized RX8) (by decide +kernel)) (by decide +kernel) ⟨(Nat.le_of_ble_eq_true rfl), (Nat.le_of_ble_eq_true rfl)⟩, rfl, hts (.instanceMethod yX8_init) (by decide +kernel)⟩ hpr rfl rfl hl.1 rfl (lv_room (Nat.le_of_ble_eq_true rfl)) dX5_init_9 ⟨(Nat.le_of_ble_eq_true rfl), (Nat.le_of_ble_eq_true rfl)⟩) (fun w2 H locs h4 hP hD hS => ?_)
  obtain ⟨u3, rfl⟩ := h4
  have hP : va_P (q_D E) vwCl [((u3 0), .inl (E.2.2.1 1, 4, .inr (.inl (fun _ => 0)))), (q1, .inr (8, [.ref (u3 0)])), (h0, .inr (5, [.null, .null]))] H := hP
  have hD : va_D A [((u3 0), .inl (E.2.2.1 1, 4, .inr (.inl (fun _ => 0)))), (q1, .inr (8, [.ref (u3 0)])), (h0, .inr (5, [.null, .null]))] := hD
  refine va_putF (D := q_D E) (ci := 5) (v := .ref q1) (ty := tyX5 0) (C := RX5) (T := TX5) (N := 2) hx hb hts i5 tyX5 tyX5_ok nmX5 hown hK.1.1 hP hD hS 2 rfl rfl 0 (by decide) (hts (.fieldLink RX5 10 "HeavyRoutes$Rating" "upper" "LHeavyRoutes$Wide;") (by decide +kernel)) (fun _ h9 => h9) rfl hin rfl (by decide +kernel) rfl rfl (Nat.le_of_ble_eq_true rfl) dX5_init_12 (fun H locs hP hD hS => ?_)
  have hP : va_P (q_D E) vwCl [((u3 0), .inl (E.2.2.1 1, 4, .inr (.inl (fun _ => 0)))), (q1, .inr (8, [.ref (u3 0)])), (h0, .inr (5, [.ref q1, .null]))] H := hP
  have hD : va_D A [((u3 0), .inl (E.2.2.1 1, 4, .inr (.inl (fun _ => 0)))), (q1, .inr (8, [.ref (u3 0)])), (h0, .inr (5, [.ref q1, .null]))] := hD
  refine lv_aload_n hx hb dX5_init_15 rfl (lv_at hl 0 rfl) ?_
  refine n_new (ci := 8) (fs := [.null]) (C := RX8) (T := TX8) (N := 1) hx hb hts i8 tyX8 tyX8_ok hown (hts (.classLink RX5 7 RX8) (by decide +kernel)) (hts (.instantiable RX8 1) (by decide +kernel)) (hts (.initialized RX8) (by decide +kernel)) hK hP hD hS hA rfl (fun j hj => by rcases (show j = 0 by omega) with rfl <;> rfl) (Nat.le_of_ble_eq_true rfl) (Nat.le_of_ble_eq_true rfl) dX5_init_16 (fun q5 H hP hD hS => ?_)
  have hP : va_P (q_D E) vwCl [(q5, .inr (8, [.null])), ((u3 0), .inl (E.2.2.1 1, 4, .inr (.inl (fun _ => 0)))), (q1, .inr (8, [.ref (u3 0)])), (h0, .inr (5, [.ref q1, .null]))] H := hP
  have hD : va_D A [(q5, .inr (8, [.null])), ((u3 0), .inl (E.2.2.1 1, 4, .inr (.inl (fun _ => 0)))), (q1, .inr (8, [.ref (u3 0)])), (h0, .inr (5, [.ref q1, .null]))] := hD
  refine lv_dup hx hb dX5_init_19 rfl ?_
  refine n_callI (x := [(q5, .inr (8, [.null]))]) (b := q5) (sh := sh_X8 E q5) ⟨hx, hb, hml, hown, hts⟩ hK hP hD hS hA (c_X8_init l E q5 H.size) (fun hpr => va_runIN (As := []) (rest := [.ref q5, .ref h0]) ⟨hx, hb, hml, hown, hts⟩ (c_X8_init l E q5 H.size) ⟨va_cnB 0 hts gX5_init_X8_init_n9 rfl rfl rfl (hK.1.2.2 (RX5, 9, yX8_init, "HeavyRoutes") (by decide +kernel)) (hts (.initialized RX8) (by decide +kernel)) (by decide +kernel) ⟨(Nat.le_of_ble_eq_true rfl), (Nat.le_of_ble_eq_true rfl)⟩, rfl, hts (.instanceMethod yX8_init) (by decide +kernel)⟩ hpr rfl rfl hl.1 rfl (lv_room (Nat.le_of_ble_eq_true rfl)) dX5_init_20 ⟨(Nat.le_of_ble_eq_true rfl), (Nat.le_of_ble_eq_true rfl)⟩) (fun w6 H locs h8 hP hD hS => ?_)
  obtain ⟨u7, rfl⟩ := h8
  have hP : va_P (q_D E) vwCl [((u7 0), .inl (E.2.2.1 1, 4, .inr (.inl (fun _ => 0)))), (q5, .inr (8, [.ref (u7 0)])), ((u3 0), .inl (E.2.2.1 1, 4, .inr (.inl (fun _ => 0)))), (q1, .inr (8, [.ref (u3 0)])), (h0, .inr (5, [.ref q1, .null]))] H := hP
  have hD : va_D A [((u7 0), .inl (E.2.2.1 1, 4, .inr (.inl (fun _ => 0)))), (q5, .inr (8, [.ref (u7 0)])), ((u3 0), .inl (E.2.2.1 1, 4, .inr (.inl (fun _ => 0)))), (q1, .inr (8, [.ref (u3 0)])), (h0, .inr (5, [.ref q1, .null]))] := hD
  refine va_putF (D := q_D E) (ci := 5) (v := .ref q5) (ty := tyX5 1) (C := RX5) (T := TX5) (N := 2) hx hb hts i5 tyX5 tyX5_ok nmX5 hown hK.1.1 hP hD hS 4 rfl rfl 1 (by decide) (hts (.fieldLink RX5 16 "HeavyRoutes$Rating" "lower" "LHeavyRoutes$Wide;") (by decide +kernel)) (fun _ h9 => h9) rfl hin rfl (by decide +kernel) rfl rfl (Nat.le_of_ble_eq_true rfl) dX5_init_23 (fun H locs hP hD hS => ?_)
  have hP : va_P (q_D E) vwCl [((u7 0), .inl (E.2.2.1 1, 4, .inr (.inl (fun _ => 0)))), (q5, .inr (8, [.ref (u7 0)])), ((u3 0), .inl (E.2.2.1 1, 4, .inr (.inl (fun _ => 0)))), (q1, .inr (8, [.ref (u3 0)])), (h0, .inr (5, [.ref q1, .ref q5]))] H := hP
  have hD : va_D A [((u7 0), .inl (E.2.2.1 1, 4, .inr (.inl (fun _ => 0)))), (q5, .inr (8, [.ref (u7 0)])), ((u3 0), .inl (E.2.2.1 1, 4, .inr (.inl (fun _ => 0)))), (q1, .inr (8, [.ref (u3 0)])), (h0, .inr (5, [.ref q1, .ref q5]))] := hD
  refine lv_aload_n hx hb dX5_init_26 rfl (lv_at hl 0 rfl) ?_
  refine va_get (D := q_D E) (ci := 5) (v := .ref q5) (C := RX5) (T := TX5) (N := 2) hx hb hts i5 hown hK.1.1 hP 4 rfl rfl 1 (by decide) (hts (.fieldLink RX5 16 "HeavyRoutes$Rating" "lower" "LHeavyRoutes$Wide;") (by decide +kernel)) (fun _ h9 => h9) rfl dX5_init_27 ?_
  refine lv_lconst (v := 1) hx hb dX5_init_30 (by decide) ?_
  have hP := hP.sub (ws' := [(q5, .inr (8, [.ref (u7 0)])), ((u7 0), .inl (E.2.2.1 1, 4, .inr (.inl (fun _ => 0)))), ((u3 0), .inl (E.2.2.1 1, 4, .inr (.inl (fun _ => 0)))), (q1, .inr (8, [.ref (u3 0)])), (h0, .inr (5, [.ref q1, .ref q5]))]) [1, 0, 2, 3, 4] rfl
  have hD := hD.sub (ws' := [(q5, .inr (8, [.ref (u7 0)])), ((u7 0), .inl (E.2.2.1 1, 4, .inr (.inl (fun _ => 0)))), ((u3 0), .inl (E.2.2.1 1, 4, .inr (.inl (fun _ => 0)))), (q1, .inr (8, [.ref (u3 0)])), (h0, .inr (5, [.ref q1, .ref q5]))]) [1, 0, 2, 3, 4] (by decide) rfl
  refine n_callI (x := [(q5, .inr (8, [.ref (u7 0)])), ((u7 0), .inl (E.2.2.1 1, 4, .inr (.inl (fun _ => 0))))]) (b := q5) (sh := fun w => w = [(q5, .inr (8, [.ref (u7 0)])), ((u7 0), .inl (E.2.2.1 1, 4, .inr (.inl n_one)))]) ⟨hx, hb, hml, hown, hts⟩ hK hP hD hS hA (c_n_setTo l E q5 (u7 0) H.size) (fun hpr => va_runV (As := [.long 1]) (rest := []) ⟨hx, hb, hml, hown, hts⟩ (c_n_setTo l E q5 (u7 0) H.size) (cwV 1 hts gX5_init_X8_setTo rfl rfl rfl (by decide +kernel) ⟨(Nat.le_of_ble_eq_true rfl), (Nat.le_of_ble_eq_true rfl)⟩) ⟨hpr.1, va_recv hK.1.1 hP (ci := 8) (q0 := 0) rfl rfl, hpr.2⟩ rfl rfl hl.1 rfl (lv_room (Nat.le_of_ble_eq_true rfl)) dX5_init_31 ⟨(Nat.le_of_ble_eq_true rfl), (Nat.le_of_ble_eq_true rfl)⟩) (fun w9 H locs h9 hP hD hS => ?_)
  subst h9
  have hP : va_P (q_D E) vwCl [(q5, .inr (8, [.ref (u7 0)])), ((u7 0), .inl (E.2.2.1 1, 4, .inr (.inl n_one))), ((u3 0), .inl (E.2.2.1 1, 4, .inr (.inl (fun _ => 0)))), (q1, .inr (8, [.ref (u3 0)])), (h0, .inr (5, [.ref q1, .ref q5]))] H := hP
  have hD : va_D A [(q5, .inr (8, [.ref (u7 0)])), ((u7 0), .inl (E.2.2.1 1, 4, .inr (.inl n_one))), ((u3 0), .inl (E.2.2.1 1, 4, .inr (.inl (fun _ => 0)))), (q1, .inr (8, [.ref (u3 0)])), (h0, .inr (5, [.ref q1, .ref q5]))] := hD
  exact n_vret hx hb hr hP hD ⟨fun k => ([q5, (u7 0), (u3 0), q1] : List Nat).getD k 0, rfl⟩ hS hAe hlk dX5_init_34
def sh_X0 (E : q_E) (h0 : Nat) (w : va_W) : Prop := ∃ u : Nat → Nat, w = [((u 0), .inr (8, [.ref (u 1)])), ((u 1), .inl (E.2.2.1 1, 4, .inr (.inl n_one))), ((u 2), .inl (E.2.2.1 1, 4, .inr (.inl (fun _ => 0)))), ((u 3), .inr (8, [.ref (u 2)])), ((u 4), .inr (5, [.ref (u 3), .ref (u 0)])), ((u 5), .inl (E.2.2.1 1, 6, .inr (.inl (fun _ => 0)))), ((u 6), .inl (E.2.2.1 1, 6, .inr (.inl (fun _ => 0)))), ((u 7), .inl (E.2.2.1 1, 6, .inr (.inl (fun _ => 0)))), (h0, .inr (0, [.int 0, .int 0, .ref (u 7), .ref (u 6), .ref (u 5), .ref (u 4), .int 0, .int 0]))]
set_option maxHeartbeats 4000000 in
set_option maxRecDepth 100000 in
theorem c_X0_init (l : Launch) (E : q_E) (h0 : Nat) (sz : Nat) : Met l yX0_init wsX0_init ({ frames := 3, cells := 8, slots := 30, locals := 55 }) (n_Pc E [.ref h0] [(h0, .inr (0, [.int 0, .int 0, .null, .null, .null, .null, .int 0, .int 0]))] sz) (n_Qv E (sh_X0 E h0) [(h0, .inr (0, [.int 0, .int 0, .null, .null, .null, .null, .int 0, .int 0]))] sz) 8 30 (va_A [(h0, .inr (0, [.int 0, .int 0, .null, .null, .null, .null, .int 0, .int 0]))] sz) := by
  refine n_met (cc := cX0_init) (maxL := 1) (by decide) rfl (Nat.le_of_ble_eq_true rfl) ?_
  intro p e s m below meth c A hx hb hr hml hown hts hlk hin hK hP hD hS hA hAe ls hl
  have hl : lv_has ls 1 [(0, .ref h0)] := hl
  have i0 : ∀ w ∈ u_ws RX0 TX0 8, w ∈ wsX0_init := by decide +kernel
  have i5 : ∀ w ∈ u_ws RX5 TX5 2, w ∈ wsX0_init := by decide +kernel
  refine lv_aload_n hx hb dX0_init_0 rfl (lv_at hl 0 rfl) ?_
  refine W.objInit hx hb hown (hts (.methodLink RX0 3 objectInit) (by decide +kernel)) (hts (.instanceMethod objectInit) (by decide +kernel)) (hts (.code objectInit ⟨#[0xb1]⟩ 1 none) (by decide +kernel)) rfl (by rw [hml]; exact hl.1) rfl dX0_init_1 (Nat.le_of_ble_eq_true rfl) (Nat.le_of_ble_eq_true rfl) ?_
  refine W.eq (g2 := F0 m 4 ls []) rfl ?_
  refine lv_aload_n hx hb dX0_init_4 rfl (lv_at hl 0 rfl) ?_
  refine lv_bipush (v := 6) hx hb dX0_init_5 (by decide) ?_
  refine n_newa (atype := .long) (ty := .long) (N := 6) (t0 := 1) (cA := E.2.2.1 1) (a0 := (6, .inr (.inl (fun _ => 0)))) hx hb (hts (.arrayClass .long) (by decide +kernel)) rfl hK rfl hP hD hS hA (fun _ => rfl) (by decide) (by decide) (by decide) (Nat.le_of_ble_eq_true rfl) (Nat.le_of_ble_eq_true rfl) dX0_init_7 (fun q1 H hP hD hS => ?_)
  have hP : va_P (q_D E) vwCl [(q1, .inl (E.2.2.1 1, 6, .inr (.inl (fun _ => 0)))), (h0, .inr (0, [.int 0, .int 0, .null, .null, .null, .null, .int 0, .int 0]))] H := hP
  have hD : va_D A [(q1, .inl (E.2.2.1 1, 6, .inr (.inl (fun _ => 0)))), (h0, .inr (0, [.int 0, .int 0, .null, .null, .null, .null, .int 0, .int 0]))] := hD
  refine va_putF (D := q_D E) (ci := 0) (v := .ref q1) (ty := tyX0 2) (C := RX0) (T := TX0) (N := 8) hx hb hts i0 tyX0 tyX0_ok nmX0 hown hK.1.1 hP hD hS 1 rfl rfl 2 (by decide) (hts (.fieldLink RX0 9 "HeavyRoutes$Bridge" "at" "[J") (by decide +kernel)) (fun _ h9 => h9) rfl hin rfl (by decide +kernel) rfl rfl (Nat.le_of_ble_eq_true rfl) dX0_init_9 (fun H locs hP hD hS => ?_)
  have hP : va_P (q_D E) vwCl [(q1, .inl (E.2.2.1 1, 6, .inr (.inl (fun _ => 0)))), (h0, .inr (0, [.int 0, .int 0, .ref q1, .null, .null, .null, .int 0, .int 0]))] H := hP
  have hD : va_D A [(q1, .inl (E.2.2.1 1, 6, .inr (.inl (fun _ => 0)))), (h0, .inr (0, [.int 0, .int 0, .ref q1, .null, .null, .null, .int 0, .int 0]))] := hD
  refine lv_aload_n hx hb dX0_init_12 rfl (lv_at hl 0 rfl) ?_
  refine lv_bipush (v := 6) hx hb dX0_init_13 (by decide) ?_
  refine n_newa (atype := .long) (ty := .long) (N := 6) (t0 := 1) (cA := E.2.2.1 1) (a0 := (6, .inr (.inl (fun _ => 0)))) hx hb (hts (.arrayClass .long) (by decide +kernel)) rfl hK rfl hP hD hS hA (fun _ => rfl) (by decide) (by decide) (by decide) (Nat.le_of_ble_eq_true rfl) (Nat.le_of_ble_eq_true rfl) dX0_init_15 (fun q2 H hP hD hS => ?_)
  have hP : va_P (q_D E) vwCl [(q2, .inl (E.2.2.1 1, 6, .inr (.inl (fun _ => 0)))), (q1, .inl (E.2.2.1 1, 6, .inr (.inl (fun _ => 0)))), (h0, .inr (0, [.int 0, .int 0, .ref q1, .null, .null, .null, .int 0, .int 0]))] H := hP
  have hD : va_D A [(q2, .inl (E.2.2.1 1, 6, .inr (.inl (fun _ => 0)))), (q1, .inl (E.2.2.1 1, 6, .inr (.inl (fun _ => 0)))), (h0, .inr (0, [.int 0, .int 0, .ref q1, .null, .null, .null, .int 0, .int 0]))] := hD
  refine va_putF (D := q_D E) (ci := 0) (v := .ref q2) (ty := tyX0 3) (C := RX0) (T := TX0) (N := 8) hx hb hts i0 tyX0 tyX0_ok nmX0 hown hK.1.1 hP hD hS 2 rfl rfl 3 (by decide) (hts (.fieldLink RX0 15 "HeavyRoutes$Bridge" "above" "[J") (by decide +kernel)) (fun _ h9 => h9) rfl hin rfl (by decide +kernel) rfl rfl (Nat.le_of_ble_eq_true rfl) dX0_init_17 (fun H locs hP hD hS => ?_)
  have hP : va_P (q_D E) vwCl [(q2, .inl (E.2.2.1 1, 6, .inr (.inl (fun _ => 0)))), (q1, .inl (E.2.2.1 1, 6, .inr (.inl (fun _ => 0)))), (h0, .inr (0, [.int 0, .int 0, .ref q1, .ref q2, .null, .null, .int 0, .int 0]))] H := hP
  have hD : va_D A [(q2, .inl (E.2.2.1 1, 6, .inr (.inl (fun _ => 0)))), (q1, .inl (E.2.2.1 1, 6, .inr (.inl (fun _ => 0)))), (h0, .inr (0, [.int 0, .int 0, .ref q1, .ref q2, .null, .null, .int 0, .int 0]))] := hD
  refine lv_aload_n hx hb dX0_init_20 rfl (lv_at hl 0 rfl) ?_
  refine lv_bipush (v := 6) hx hb dX0_init_21 (by decide) ?_
  refine n_newa (atype := .long) (ty := .long) (N := 6) (t0 := 1) (cA := E.2.2.1 1) (a0 := (6, .inr (.inl (fun _ => 0)))) hx hb (hts (.arrayClass .long) (by decide +kernel)) rfl hK rfl hP hD hS hA (fun _ => rfl) (by decide) (by decide) (by decide) (Nat.le_of_ble_eq_true rfl) (Nat.le_of_ble_eq_true rfl) dX0_init_23 (fun q3 H hP hD hS => ?_)
  have hP : va_P (q_D E) vwCl [(q3, .inl (E.2.2.1 1, 6, .inr (.inl (fun _ => 0)))), (q2, .inl (E.2.2.1 1, 6, .inr (.inl (fun _ => 0)))), (q1, .inl (E.2.2.1 1, 6, .inr (.inl (fun _ => 0)))), (h0, .inr (0, [.int 0, .int 0, .ref q1, .ref q2, .null, .null, .int 0, .int 0]))] H := hP
  have hD : va_D A [(q3, .inl (E.2.2.1 1, 6, .inr (.inl (fun _ => 0)))), (q2, .inl (E.2.2.1 1, 6, .inr (.inl (fun _ => 0)))), (q1, .inl (E.2.2.1 1, 6, .inr (.inl (fun _ => 0)))), (h0, .inr (0, [.int 0, .int 0, .ref q1, .ref q2, .null, .null, .int 0, .int 0]))] := hD
  refine va_putF (D := q_D E) (ci := 0) (v := .ref q3) (ty := tyX0 4) (C := RX0) (T := TX0) (N := 8) hx hb hts i0 tyX0 tyX0_ok nmX0 hown hK.1.1 hP hD hS 3 rfl rfl 4 (by decide) (hts (.fieldLink RX0 18 "HeavyRoutes$Bridge" "below" "[J") (by decide +kernel)) (fun _ h9 => h9) rfl hin rfl (by decide +kernel) rfl rfl (Nat.le_of_ble_eq_true rfl) dX0_init_25 (fun H locs hP hD hS => ?_)
  have hP : va_P (q_D E) vwCl [(q3, .inl (E.2.2.1 1, 6, .inr (.inl (fun _ => 0)))), (q2, .inl (E.2.2.1 1, 6, .inr (.inl (fun _ => 0)))), (q1, .inl (E.2.2.1 1, 6, .inr (.inl (fun _ => 0)))), (h0, .inr (0, [.int 0, .int 0, .ref q1, .ref q2, .ref q3, .null, .int 0, .int 0]))] H := hP
  have hD : va_D A [(q3, .inl (E.2.2.1 1, 6, .inr (.inl (fun _ => 0)))), (q2, .inl (E.2.2.1 1, 6, .inr (.inl (fun _ => 0)))), (q1, .inl (E.2.2.1 1, 6, .inr (.inl (fun _ => 0)))), (h0, .inr (0, [.int 0, .int 0, .ref q1, .ref q2, .ref q3, .null, .int 0, .int 0]))] := hD
  refine lv_aload_n hx hb dX0_init_28 rfl (lv_at hl 0 rfl) ?_
  refine n_new (ci := 5) (fs := [.null, .null]) (C := RX5) (T := TX5) (N := 2) hx hb hts i5 tyX5 tyX5_ok hown (hts (.classLink RX0 21 RX5) (by decide +kernel)) (hts (.instantiable RX5 2) (by decide +kernel)) (hts (.initialized RX5) (by decide +kernel)) hK hP hD hS hA rfl (fun j hj => by rcases (show j = 0 ∨ j = 1 by omega) with rfl | rfl <;> rfl) (Nat.le_of_ble_eq_true rfl) (Nat.le_of_ble_eq_true rfl) dX0_init_29 (fun q4 H hP hD hS => ?_)
  have hP : va_P (q_D E) vwCl [(q4, .inr (5, [.null, .null])), (q3, .inl (E.2.2.1 1, 6, .inr (.inl (fun _ => 0)))), (q2, .inl (E.2.2.1 1, 6, .inr (.inl (fun _ => 0)))), (q1, .inl (E.2.2.1 1, 6, .inr (.inl (fun _ => 0)))), (h0, .inr (0, [.int 0, .int 0, .ref q1, .ref q2, .ref q3, .null, .int 0, .int 0]))] H := hP
  have hD : va_D A [(q4, .inr (5, [.null, .null])), (q3, .inl (E.2.2.1 1, 6, .inr (.inl (fun _ => 0)))), (q2, .inl (E.2.2.1 1, 6, .inr (.inl (fun _ => 0)))), (q1, .inl (E.2.2.1 1, 6, .inr (.inl (fun _ => 0)))), (h0, .inr (0, [.int 0, .int 0, .ref q1, .ref q2, .ref q3, .null, .int 0, .int 0]))] := hD
  refine lv_dup hx hb dX0_init_32 rfl ?_
  refine n_callI (x := [(q4, .inr (5, [.null, .null]))]) (b := q4) (sh := sh_X5 E q4) ⟨hx, hb, hml, hown, hts⟩ hK hP hD hS hA (c_X5_init l E q4 H.size) (fun hpr => va_runI (As := []) (rest := [.ref q4, .ref h0]) ⟨hx, hb, hml, hown, hts⟩ (c_X5_init l E q4 H.size) (cwI 0 hts gX0_init_X5_init rfl rfl rfl (hts (.initialized RX5) (by decide +kernel)) (hts (.methodLink RX0 23 yX5_init) (by decide +kernel)) (hts (.instanceMethod yX5_init) (by decide +kernel)) rfl (by decide +kernel) ⟨(Nat.le_of_ble_eq_true rfl), (Nat.le_of_ble_eq_true rfl)⟩) hpr rfl rfl hl.1 rfl (lv_room (Nat.le_of_ble_eq_true rfl)) dX0_init_33 ⟨(Nat.le_of_ble_eq_true rfl), (Nat.le_of_ble_eq_true rfl)⟩) (fun w5 H locs h7 hP hD hS => ?_)
  obtain ⟨u6, rfl⟩ := h7
  have hP : va_P (q_D E) vwCl [((u6 0), .inr (8, [.ref (u6 1)])), ((u6 1), .inl (E.2.2.1 1, 4, .inr (.inl n_one))), ((u6 2), .inl (E.2.2.1 1, 4, .inr (.inl (fun _ => 0)))), ((u6 3), .inr (8, [.ref (u6 2)])), (q4, .inr (5, [.ref (u6 3), .ref (u6 0)])), (q3, .inl (E.2.2.1 1, 6, .inr (.inl (fun _ => 0)))), (q2, .inl (E.2.2.1 1, 6, .inr (.inl (fun _ => 0)))), (q1, .inl (E.2.2.1 1, 6, .inr (.inl (fun _ => 0)))), (h0, .inr (0, [.int 0, .int 0, .ref q1, .ref q2, .ref q3, .null, .int 0, .int 0]))] H := hP
  have hD : va_D A [((u6 0), .inr (8, [.ref (u6 1)])), ((u6 1), .inl (E.2.2.1 1, 4, .inr (.inl n_one))), ((u6 2), .inl (E.2.2.1 1, 4, .inr (.inl (fun _ => 0)))), ((u6 3), .inr (8, [.ref (u6 2)])), (q4, .inr (5, [.ref (u6 3), .ref (u6 0)])), (q3, .inl (E.2.2.1 1, 6, .inr (.inl (fun _ => 0)))), (q2, .inl (E.2.2.1 1, 6, .inr (.inl (fun _ => 0)))), (q1, .inl (E.2.2.1 1, 6, .inr (.inl (fun _ => 0)))), (h0, .inr (0, [.int 0, .int 0, .ref q1, .ref q2, .ref q3, .null, .int 0, .int 0]))] := hD
  refine va_putF (D := q_D E) (ci := 0) (v := .ref q4) (ty := tyX0 5) (C := RX0) (T := TX0) (N := 8) hx hb hts i0 tyX0 tyX0_ok nmX0 hown hK.1.1 hP hD hS 8 rfl rfl 5 (by decide) (hts (.fieldLink RX0 24 "HeavyRoutes$Bridge" "kept" "LHeavyRoutes$Rating;") (by decide +kernel)) (fun _ h9 => h9) rfl hin rfl (by decide +kernel) rfl rfl (Nat.le_of_ble_eq_true rfl) dX0_init_36 (fun H locs hP hD hS => ?_)
  have hP : va_P (q_D E) vwCl [((u6 0), .inr (8, [.ref (u6 1)])), ((u6 1), .inl (E.2.2.1 1, 4, .inr (.inl n_one))), ((u6 2), .inl (E.2.2.1 1, 4, .inr (.inl (fun _ => 0)))), ((u6 3), .inr (8, [.ref (u6 2)])), (q4, .inr (5, [.ref (u6 3), .ref (u6 0)])), (q3, .inl (E.2.2.1 1, 6, .inr (.inl (fun _ => 0)))), (q2, .inl (E.2.2.1 1, 6, .inr (.inl (fun _ => 0)))), (q1, .inl (E.2.2.1 1, 6, .inr (.inl (fun _ => 0)))), (h0, .inr (0, [.int 0, .int 0, .ref q1, .ref q2, .ref q3, .ref q4, .int 0, .int 0]))] H := hP
  have hD : va_D A [((u6 0), .inr (8, [.ref (u6 1)])), ((u6 1), .inl (E.2.2.1 1, 4, .inr (.inl n_one))), ((u6 2), .inl (E.2.2.1 1, 4, .inr (.inl (fun _ => 0)))), ((u6 3), .inr (8, [.ref (u6 2)])), (q4, .inr (5, [.ref (u6 3), .ref (u6 0)])), (q3, .inl (E.2.2.1 1, 6, .inr (.inl (fun _ => 0)))), (q2, .inl (E.2.2.1 1, 6, .inr (.inl (fun _ => 0)))), (q1, .inl (E.2.2.1 1, 6, .inr (.inl (fun _ => 0)))), (h0, .inr (0, [.int 0, .int 0, .ref q1, .ref q2, .ref q3, .ref q4, .int 0, .int 0]))] := hD
  exact n_vret hx hb hr hP hD ⟨fun k => ([(u6 0), (u6 1), (u6 2), (u6 3), q4, q3, q2, q1] : List Nat).getD k 0, rfl⟩ hS hAe hlk dX0_init_39
def sh_X4 (E : q_E) (h0 : Nat) (w : va_W) : Prop := ∃ u : Nat → Nat, w = [((u 0), .inl (E.2.2.1 1, 6, .inr (.inl (fun _ => 0)))), ((u 1), .inl (E.2.2.1 1, 6, .inr (.inl (fun _ => 0)))), ((u 2), .inl (E.2.2.1 1, 6, .inr (.inl (fun _ => 0)))), ((u 3), .inr (8, [.ref (u 4)])), ((u 4), .inl (E.2.2.1 1, 4, .inr (.inl n_one))), ((u 5), .inl (E.2.2.1 1, 4, .inr (.inl (fun _ => 0)))), ((u 6), .inr (8, [.ref (u 5)])), ((u 7), .inr (5, [.ref (u 6), .ref (u 3)])), ((u 8), .inl (E.2.2.1 1, 4, .inr (.inl (fun _ => 0)))), ((u 9), .inr (8, [.ref (u 8)])), ((u 10), .inl (E.2.2.1 1, 4, .inr (.inl (fun _ => 0)))), ((u 11), .inr (8, [.ref (u 10)])), (h0, .inr (4, [.ref (u 11), .ref (u 9), .ref (u 7), .ref (u 2), .ref (u 1), .ref (u 0), .long 0, .long 0]))]
set_option maxHeartbeats 4000000 in
set_option maxRecDepth 100000 in
theorem c_X4_init (l : Launch) (E : q_E) (h0 : Nat) (sz : Nat) : Met l yX4_init wsX4_init ({ frames := 3, cells := 12, slots := 40, locals := 55 }) (n_Pc E [.ref h0] [(h0, .inr (4, [.null, .null, .null, .null, .null, .null, .long 0, .long 0]))] sz) (n_Qv E (sh_X4 E h0) [(h0, .inr (4, [.null, .null, .null, .null, .null, .null, .long 0, .long 0]))] sz) 12 40 (va_A [(h0, .inr (4, [.null, .null, .null, .null, .null, .null, .long 0, .long 0]))] sz) := by
  refine n_met (cc := cX4_init) (maxL := 1) (by decide) rfl (Nat.le_of_ble_eq_true rfl) ?_
  intro p e s m below meth c A hx hb hr hml hown hts hlk hin hK hP hD hS hA hAe ls hl
  have hl : lv_has ls 1 [(0, .ref h0)] := hl
  have i4 : ∀ w ∈ u_ws RX4 TX4 8, w ∈ wsX4_init := by decide +kernel
  have i5 : ∀ w ∈ u_ws RX5 TX5 2, w ∈ wsX4_init := by decide +kernel
  have i8 : ∀ w ∈ u_ws RX8 TX8 1, w ∈ wsX4_init := by decide +kernel
  refine lv_aload_n hx hb dX4_init_0 rfl (lv_at hl 0 rfl) ?_
  refine W.objInit hx hb hown (hts (.methodLink RX4 3 objectInit) (by decide +kernel)) (hts (.instanceMethod objectInit) (by decide +kernel)) (hts (.code objectInit ⟨#[0xb1]⟩ 1 none) (by decide +kernel)) rfl (by rw [hml]; exact hl.1) rfl dX4_init_1 (Nat.le_of_ble_eq_true rfl) (Nat.le_of_ble_eq_true rfl) ?_
  refine W.eq (g2 := F0 m 4 ls []) rfl ?_
  refine lv_aload_n hx hb dX4_init_4 rfl (lv_at hl 0 rfl) ?_
  refine n_new (ci := 8) (fs := [.null]) (C := RX8) (T := TX8) (N := 1) hx hb hts i8 tyX8 tyX8_ok hown (hts (.classLink RX4 9 RX8) (by decide +kernel)) (hts (.instantiable RX8 1) (by decide +kernel)) (hts (.initialized RX8) (by decide +kernel)) hK hP hD hS hA rfl (fun j hj => by rcases (show j = 0 by omega) with rfl <;> rfl) (Nat.le_of_ble_eq_true rfl) (Nat.le_of_ble_eq_true rfl) dX4_init_5 (fun q1 H hP hD hS => ?_)
  have hP : va_P (q_D E) vwCl [(q1, .inr (8, [.null])), (h0, .inr (4, [.null, .null, .null, .null, .null, .null, .long 0, .long 0]))] H := hP
  have hD : va_D A [(q1, .inr (8, [.null])), (h0, .inr (4, [.null, .null, .null, .null, .null, .null, .long 0, .long 0]))] := hD
  refine lv_dup hx hb dX4_init_8 rfl ?_
  refine n_callI (x := [(q1, .inr (8, [.null]))]) (b := q1) (sh := sh_X8 E q1) ⟨hx, hb, hml, hown, hts⟩ hK hP hD hS hA (c_X8_init l E q1 H.size) (fun hpr => va_runIN (As := []) (rest := [.ref q1, .ref h0]) ⟨hx, hb, hml, hown, hts⟩ (c_X8_init l E q1 H.size) ⟨va_cnB 0 hts gX4_init_X8_init_n11 rfl rfl rfl (hK.1.2.2 (RX4, 11, yX8_init, "HeavyRoutes") (by decide +kernel)) (hts (.initialized RX8) (by decide +kernel)) (by decide +kernel) ⟨(Nat.le_of_ble_eq_true rfl), (Nat.le_of_ble_eq_true rfl)⟩, rfl, hts (.instanceMethod yX8_init) (by decide +kernel)⟩ hpr rfl rfl hl.1 rfl (lv_room (Nat.le_of_ble_eq_true rfl)) dX4_init_9 ⟨(Nat.le_of_ble_eq_true rfl), (Nat.le_of_ble_eq_true rfl)⟩) (fun w2 H locs h4 hP hD hS => ?_)
  obtain ⟨u3, rfl⟩ := h4
  have hP : va_P (q_D E) vwCl [((u3 0), .inl (E.2.2.1 1, 4, .inr (.inl (fun _ => 0)))), (q1, .inr (8, [.ref (u3 0)])), (h0, .inr (4, [.null, .null, .null, .null, .null, .null, .long 0, .long 0]))] H := hP
  have hD : va_D A [((u3 0), .inl (E.2.2.1 1, 4, .inr (.inl (fun _ => 0)))), (q1, .inr (8, [.ref (u3 0)])), (h0, .inr (4, [.null, .null, .null, .null, .null, .null, .long 0, .long 0]))] := hD
  refine va_putF (D := q_D E) (ci := 4) (v := .ref q1) (ty := tyX4 0) (C := RX4) (T := TX4) (N := 8) hx hb hts i4 tyX4 tyX4_ok nmX4 hown hK.1.1 hP hD hS 2 rfl rfl 0 (by decide) (hts (.fieldLink RX4 12 "HeavyRoutes$Rater" "raising" "LHeavyRoutes$Wide;") (by decide +kernel)) (fun _ h9 => h9) rfl hin rfl (by decide +kernel) rfl rfl (Nat.le_of_ble_eq_true rfl) dX4_init_12 (fun H locs hP hD hS => ?_)
  have hP : va_P (q_D E) vwCl [((u3 0), .inl (E.2.2.1 1, 4, .inr (.inl (fun _ => 0)))), (q1, .inr (8, [.ref (u3 0)])), (h0, .inr (4, [.ref q1, .null, .null, .null, .null, .null, .long 0, .long 0]))] H := hP
  have hD : va_D A [((u3 0), .inl (E.2.2.1 1, 4, .inr (.inl (fun _ => 0)))), (q1, .inr (8, [.ref (u3 0)])), (h0, .inr (4, [.ref q1, .null, .null, .null, .null, .null, .long 0, .long 0]))] := hD
  refine lv_aload_n hx hb dX4_init_15 rfl (lv_at hl 0 rfl) ?_
  refine n_new (ci := 8) (fs := [.null]) (C := RX8) (T := TX8) (N := 1) hx hb hts i8 tyX8 tyX8_ok hown (hts (.classLink RX4 9 RX8) (by decide +kernel)) (hts (.instantiable RX8 1) (by decide +kernel)) (hts (.initialized RX8) (by decide +kernel)) hK hP hD hS hA rfl (fun j hj => by rcases (show j = 0 by omega) with rfl <;> rfl) (Nat.le_of_ble_eq_true rfl) (Nat.le_of_ble_eq_true rfl) dX4_init_16 (fun q5 H hP hD hS => ?_)
  have hP : va_P (q_D E) vwCl [(q5, .inr (8, [.null])), ((u3 0), .inl (E.2.2.1 1, 4, .inr (.inl (fun _ => 0)))), (q1, .inr (8, [.ref (u3 0)])), (h0, .inr (4, [.ref q1, .null, .null, .null, .null, .null, .long 0, .long 0]))] H := hP
  have hD : va_D A [(q5, .inr (8, [.null])), ((u3 0), .inl (E.2.2.1 1, 4, .inr (.inl (fun _ => 0)))), (q1, .inr (8, [.ref (u3 0)])), (h0, .inr (4, [.ref q1, .null, .null, .null, .null, .null, .long 0, .long 0]))] := hD
  refine lv_dup hx hb dX4_init_19 rfl ?_
  refine n_callI (x := [(q5, .inr (8, [.null]))]) (b := q5) (sh := sh_X8 E q5) ⟨hx, hb, hml, hown, hts⟩ hK hP hD hS hA (c_X8_init l E q5 H.size) (fun hpr => va_runIN (As := []) (rest := [.ref q5, .ref h0]) ⟨hx, hb, hml, hown, hts⟩ (c_X8_init l E q5 H.size) ⟨va_cnB 0 hts gX4_init_X8_init_n11 rfl rfl rfl (hK.1.2.2 (RX4, 11, yX8_init, "HeavyRoutes") (by decide +kernel)) (hts (.initialized RX8) (by decide +kernel)) (by decide +kernel) ⟨(Nat.le_of_ble_eq_true rfl), (Nat.le_of_ble_eq_true rfl)⟩, rfl, hts (.instanceMethod yX8_init) (by decide +kernel)⟩ hpr rfl rfl hl.1 rfl (lv_room (Nat.le_of_ble_eq_true rfl)) dX4_init_20 ⟨(Nat.le_of_ble_eq_true rfl), (Nat.le_of_ble_eq_true rfl)⟩) (fun w6 H locs h8 hP hD hS => ?_)
  obtain ⟨u7, rfl⟩ := h8
  have hP : va_P (q_D E) vwCl [((u7 0), .inl (E.2.2.1 1, 4, .inr (.inl (fun _ => 0)))), (q5, .inr (8, [.ref (u7 0)])), ((u3 0), .inl (E.2.2.1 1, 4, .inr (.inl (fun _ => 0)))), (q1, .inr (8, [.ref (u3 0)])), (h0, .inr (4, [.ref q1, .null, .null, .null, .null, .null, .long 0, .long 0]))] H := hP
  have hD : va_D A [((u7 0), .inl (E.2.2.1 1, 4, .inr (.inl (fun _ => 0)))), (q5, .inr (8, [.ref (u7 0)])), ((u3 0), .inl (E.2.2.1 1, 4, .inr (.inl (fun _ => 0)))), (q1, .inr (8, [.ref (u3 0)])), (h0, .inr (4, [.ref q1, .null, .null, .null, .null, .null, .long 0, .long 0]))] := hD
  refine va_putF (D := q_D E) (ci := 4) (v := .ref q5) (ty := tyX4 1) (C := RX4) (T := TX4) (N := 8) hx hb hts i4 tyX4 tyX4_ok nmX4 hown hK.1.1 hP hD hS 4 rfl rfl 1 (by decide) (hts (.fieldLink RX4 18 "HeavyRoutes$Rater" "lowering" "LHeavyRoutes$Wide;") (by decide +kernel)) (fun _ h9 => h9) rfl hin rfl (by decide +kernel) rfl rfl (Nat.le_of_ble_eq_true rfl) dX4_init_23 (fun H locs hP hD hS => ?_)
  have hP : va_P (q_D E) vwCl [((u7 0), .inl (E.2.2.1 1, 4, .inr (.inl (fun _ => 0)))), (q5, .inr (8, [.ref (u7 0)])), ((u3 0), .inl (E.2.2.1 1, 4, .inr (.inl (fun _ => 0)))), (q1, .inr (8, [.ref (u3 0)])), (h0, .inr (4, [.ref q1, .ref q5, .null, .null, .null, .null, .long 0, .long 0]))] H := hP
  have hD : va_D A [((u7 0), .inl (E.2.2.1 1, 4, .inr (.inl (fun _ => 0)))), (q5, .inr (8, [.ref (u7 0)])), ((u3 0), .inl (E.2.2.1 1, 4, .inr (.inl (fun _ => 0)))), (q1, .inr (8, [.ref (u3 0)])), (h0, .inr (4, [.ref q1, .ref q5, .null, .null, .null, .null, .long 0, .long 0]))] := hD
  refine lv_aload_n hx hb dX4_init_26 rfl (lv_at hl 0 rfl) ?_
  refine n_new (ci := 5) (fs := [.null, .null]) (C := RX5) (T := TX5) (N := 2) hx hb hts i5 tyX5 tyX5_ok hown (hts (.classLink RX4 21 RX5) (by decide +kernel)) (hts (.instantiable RX5 2) (by decide +kernel)) (hts (.initialized RX5) (by decide +kernel)) hK hP hD hS hA rfl (fun j hj => by rcases (show j = 0 ∨ j = 1 by omega) with rfl | rfl <;> rfl) (Nat.le_of_ble_eq_true rfl) (Nat.le_of_ble_eq_true rfl) dX4_init_27 (fun q9 H hP hD hS => ?_)
  have hP : va_P (q_D E) vwCl [(q9, .inr (5, [.null, .null])), ((u7 0), .inl (E.2.2.1 1, 4, .inr (.inl (fun _ => 0)))), (q5, .inr (8, [.ref (u7 0)])), ((u3 0), .inl (E.2.2.1 1, 4, .inr (.inl (fun _ => 0)))), (q1, .inr (8, [.ref (u3 0)])), (h0, .inr (4, [.ref q1, .ref q5, .null, .null, .null, .null, .long 0, .long 0]))] H := hP
  have hD : va_D A [(q9, .inr (5, [.null, .null])), ((u7 0), .inl (E.2.2.1 1, 4, .inr (.inl (fun _ => 0)))), (q5, .inr (8, [.ref (u7 0)])), ((u3 0), .inl (E.2.2.1 1, 4, .inr (.inl (fun _ => 0)))), (q1, .inr (8, [.ref (u3 0)])), (h0, .inr (4, [.ref q1, .ref q5, .null, .null, .null, .null, .long 0, .long 0]))] := hD
  refine lv_dup hx hb dX4_init_30 rfl ?_
  refine n_callI (x := [(q9, .inr (5, [.null, .null]))]) (b := q9) (sh := sh_X5 E q9) ⟨hx, hb, hml, hown, hts⟩ hK hP hD hS hA (c_X5_init l E q9 H.size) (fun hpr => va_runI (As := []) (rest := [.ref q9, .ref h0]) ⟨hx, hb, hml, hown, hts⟩ (c_X5_init l E q9 H.size) (cwI 0 hts gX4_init_X5_init rfl rfl rfl (hts (.initialized RX5) (by decide +kernel)) (hts (.methodLink RX4 23 yX5_init) (by decide +kernel)) (hts (.instanceMethod yX5_init) (by decide +kernel)) rfl (by decide +kernel) ⟨(Nat.le_of_ble_eq_true rfl), (Nat.le_of_ble_eq_true rfl)⟩) hpr rfl rfl hl.1 rfl (lv_room (Nat.le_of_ble_eq_true rfl)) dX4_init_31 ⟨(Nat.le_of_ble_eq_true rfl), (Nat.le_of_ble_eq_true rfl)⟩) (fun w10 H locs h12 hP hD hS => ?_)
  obtain ⟨u11, rfl⟩ := h12
  have hP : va_P (q_D E) vwCl [((u11 0), .inr (8, [.ref (u11 1)])), ((u11 1), .inl (E.2.2.1 1, 4, .inr (.inl n_one))), ((u11 2), .inl (E.2.2.1 1, 4, .inr (.inl (fun _ => 0)))), ((u11 3), .inr (8, [.ref (u11 2)])), (q9, .inr (5, [.ref (u11 3), .ref (u11 0)])), ((u7 0), .inl (E.2.2.1 1, 4, .inr (.inl (fun _ => 0)))), (q5, .inr (8, [.ref (u7 0)])), ((u3 0), .inl (E.2.2.1 1, 4, .inr (.inl (fun _ => 0)))), (q1, .inr (8, [.ref (u3 0)])), (h0, .inr (4, [.ref q1, .ref q5, .null, .null, .null, .null, .long 0, .long 0]))] H := hP
  have hD : va_D A [((u11 0), .inr (8, [.ref (u11 1)])), ((u11 1), .inl (E.2.2.1 1, 4, .inr (.inl n_one))), ((u11 2), .inl (E.2.2.1 1, 4, .inr (.inl (fun _ => 0)))), ((u11 3), .inr (8, [.ref (u11 2)])), (q9, .inr (5, [.ref (u11 3), .ref (u11 0)])), ((u7 0), .inl (E.2.2.1 1, 4, .inr (.inl (fun _ => 0)))), (q5, .inr (8, [.ref (u7 0)])), ((u3 0), .inl (E.2.2.1 1, 4, .inr (.inl (fun _ => 0)))), (q1, .inr (8, [.ref (u3 0)])), (h0, .inr (4, [.ref q1, .ref q5, .null, .null, .null, .null, .long 0, .long 0]))] := hD
  refine va_putF (D := q_D E) (ci := 4) (v := .ref q9) (ty := tyX4 2) (C := RX4) (T := TX4) (N := 8) hx hb hts i4 tyX4 tyX4_ok nmX4 hown hK.1.1 hP hD hS 9 rfl rfl 2 (by decide) (hts (.fieldLink RX4 24 "HeavyRoutes$Rater" "anew" "LHeavyRoutes$Rating;") (by decide +kernel)) (fun _ h9 => h9) rfl hin rfl (by decide +kernel) rfl rfl (Nat.le_of_ble_eq_true rfl) dX4_init_34 (fun H locs hP hD hS => ?_)
  have hP : va_P (q_D E) vwCl [((u11 0), .inr (8, [.ref (u11 1)])), ((u11 1), .inl (E.2.2.1 1, 4, .inr (.inl n_one))), ((u11 2), .inl (E.2.2.1 1, 4, .inr (.inl (fun _ => 0)))), ((u11 3), .inr (8, [.ref (u11 2)])), (q9, .inr (5, [.ref (u11 3), .ref (u11 0)])), ((u7 0), .inl (E.2.2.1 1, 4, .inr (.inl (fun _ => 0)))), (q5, .inr (8, [.ref (u7 0)])), ((u3 0), .inl (E.2.2.1 1, 4, .inr (.inl (fun _ => 0)))), (q1, .inr (8, [.ref (u3 0)])), (h0, .inr (4, [.ref q1, .ref q5, .ref q9, .null, .null, .null, .long 0, .long 0]))] H := hP
  have hD : va_D A [((u11 0), .inr (8, [.ref (u11 1)])), ((u11 1), .inl (E.2.2.1 1, 4, .inr (.inl n_one))), ((u11 2), .inl (E.2.2.1 1, 4, .inr (.inl (fun _ => 0)))), ((u11 3), .inr (8, [.ref (u11 2)])), (q9, .inr (5, [.ref (u11 3), .ref (u11 0)])), ((u7 0), .inl (E.2.2.1 1, 4, .inr (.inl (fun _ => 0)))), (q5, .inr (8, [.ref (u7 0)])), ((u3 0), .inl (E.2.2.1 1, 4, .inr (.inl (fun _ => 0)))), (q1, .inr (8, [.ref (u3 0)])), (h0, .inr (4, [.ref q1, .ref q5, .ref q9, .null, .null, .null, .long 0, .long 0]))] := hD
  refine lv_aload_n hx hb dX4_init_37 rfl (lv_at hl 0 rfl) ?_
  refine lv_bipush (v := 6) hx hb dX4_init_38 (by decide) ?_
  refine n_newa (atype := .long) (ty := .long) (N := 6) (t0 := 1) (cA := E.2.2.1 1) (a0 := (6, .inr (.inl (fun _ => 0)))) hx hb (hts (.arrayClass .long) (by decide +kernel)) rfl hK rfl hP hD hS hA (fun _ => rfl) (by decide) (by decide) (by decide) (Nat.le_of_ble_eq_true rfl) (Nat.le_of_ble_eq_true rfl) dX4_init_40 (fun q13 H hP hD hS => ?_)
  have hP : va_P (q_D E) vwCl [(q13, .inl (E.2.2.1 1, 6, .inr (.inl (fun _ => 0)))), ((u11 0), .inr (8, [.ref (u11 1)])), ((u11 1), .inl (E.2.2.1 1, 4, .inr (.inl n_one))), ((u11 2), .inl (E.2.2.1 1, 4, .inr (.inl (fun _ => 0)))), ((u11 3), .inr (8, [.ref (u11 2)])), (q9, .inr (5, [.ref (u11 3), .ref (u11 0)])), ((u7 0), .inl (E.2.2.1 1, 4, .inr (.inl (fun _ => 0)))), (q5, .inr (8, [.ref (u7 0)])), ((u3 0), .inl (E.2.2.1 1, 4, .inr (.inl (fun _ => 0)))), (q1, .inr (8, [.ref (u3 0)])), (h0, .inr (4, [.ref q1, .ref q5, .ref q9, .null, .null, .null, .long 0, .long 0]))] H := hP
  have hD : va_D A [(q13, .inl (E.2.2.1 1, 6, .inr (.inl (fun _ => 0)))), ((u11 0), .inr (8, [.ref (u11 1)])), ((u11 1), .inl (E.2.2.1 1, 4, .inr (.inl n_one))), ((u11 2), .inl (E.2.2.1 1, 4, .inr (.inl (fun _ => 0)))), ((u11 3), .inr (8, [.ref (u11 2)])), (q9, .inr (5, [.ref (u11 3), .ref (u11 0)])), ((u7 0), .inl (E.2.2.1 1, 4, .inr (.inl (fun _ => 0)))), (q5, .inr (8, [.ref (u7 0)])), ((u3 0), .inl (E.2.2.1 1, 4, .inr (.inl (fun _ => 0)))), (q1, .inr (8, [.ref (u3 0)])), (h0, .inr (4, [.ref q1, .ref q5, .ref q9, .null, .null, .null, .long 0, .long 0]))] := hD
  refine va_putF (D := q_D E) (ci := 4) (v := .ref q13) (ty := tyX4 3) (C := RX4) (T := TX4) (N := 8) hx hb hts i4 tyX4 tyX4_ok nmX4 hown hK.1.1 hP hD hS 10 rfl rfl 3 (by decide) (hts (.fieldLink RX4 28 "HeavyRoutes$Rater" "shares" "[J") (by decide +kernel)) (fun _ h9 => h9) rfl hin rfl (by decide +kernel) rfl rfl (Nat.le_of_ble_eq_true rfl) dX4_init_42 (fun H locs hP hD hS => ?_)
  have hP : va_P (q_D E) vwCl [(q13, .inl (E.2.2.1 1, 6, .inr (.inl (fun _ => 0)))), ((u11 0), .inr (8, [.ref (u11 1)])), ((u11 1), .inl (E.2.2.1 1, 4, .inr (.inl n_one))), ((u11 2), .inl (E.2.2.1 1, 4, .inr (.inl (fun _ => 0)))), ((u11 3), .inr (8, [.ref (u11 2)])), (q9, .inr (5, [.ref (u11 3), .ref (u11 0)])), ((u7 0), .inl (E.2.2.1 1, 4, .inr (.inl (fun _ => 0)))), (q5, .inr (8, [.ref (u7 0)])), ((u3 0), .inl (E.2.2.1 1, 4, .inr (.inl (fun _ => 0)))), (q1, .inr (8, [.ref (u3 0)])), (h0, .inr (4, [.ref q1, .ref q5, .ref q9, .ref q13, .null, .null, .long 0, .long 0]))] H := hP
  have hD : va_D A [(q13, .inl (E.2.2.1 1, 6, .inr (.inl (fun _ => 0)))), ((u11 0), .inr (8, [.ref (u11 1)])), ((u11 1), .inl (E.2.2.1 1, 4, .inr (.inl n_one))), ((u11 2), .inl (E.2.2.1 1, 4, .inr (.inl (fun _ => 0)))), ((u11 3), .inr (8, [.ref (u11 2)])), (q9, .inr (5, [.ref (u11 3), .ref (u11 0)])), ((u7 0), .inl (E.2.2.1 1, 4, .inr (.inl (fun _ => 0)))), (q5, .inr (8, [.ref (u7 0)])), ((u3 0), .inl (E.2.2.1 1, 4, .inr (.inl (fun _ => 0)))), (q1, .inr (8, [.ref (u3 0)])), (h0, .inr (4, [.ref q1, .ref q5, .ref q9, .ref q13, .null, .null, .long 0, .long 0]))] := hD
  refine lv_aload_n hx hb dX4_init_45 rfl (lv_at hl 0 rfl) ?_
  refine lv_bipush (v := 6) hx hb dX4_init_46 (by decide) ?_
  refine n_newa (atype := .long) (ty := .long) (N := 6) (t0 := 1) (cA := E.2.2.1 1) (a0 := (6, .inr (.inl (fun _ => 0)))) hx hb (hts (.arrayClass .long) (by decide +kernel)) rfl hK rfl hP hD hS hA (fun _ => rfl) (by decide) (by decide) (by decide) (Nat.le_of_ble_eq_true rfl) (Nat.le_of_ble_eq_true rfl) dX4_init_48 (fun q14 H hP hD hS => ?_)
  have hP : va_P (q_D E) vwCl [(q14, .inl (E.2.2.1 1, 6, .inr (.inl (fun _ => 0)))), (q13, .inl (E.2.2.1 1, 6, .inr (.inl (fun _ => 0)))), ((u11 0), .inr (8, [.ref (u11 1)])), ((u11 1), .inl (E.2.2.1 1, 4, .inr (.inl n_one))), ((u11 2), .inl (E.2.2.1 1, 4, .inr (.inl (fun _ => 0)))), ((u11 3), .inr (8, [.ref (u11 2)])), (q9, .inr (5, [.ref (u11 3), .ref (u11 0)])), ((u7 0), .inl (E.2.2.1 1, 4, .inr (.inl (fun _ => 0)))), (q5, .inr (8, [.ref (u7 0)])), ((u3 0), .inl (E.2.2.1 1, 4, .inr (.inl (fun _ => 0)))), (q1, .inr (8, [.ref (u3 0)])), (h0, .inr (4, [.ref q1, .ref q5, .ref q9, .ref q13, .null, .null, .long 0, .long 0]))] H := hP
  have hD : va_D A [(q14, .inl (E.2.2.1 1, 6, .inr (.inl (fun _ => 0)))), (q13, .inl (E.2.2.1 1, 6, .inr (.inl (fun _ => 0)))), ((u11 0), .inr (8, [.ref (u11 1)])), ((u11 1), .inl (E.2.2.1 1, 4, .inr (.inl n_one))), ((u11 2), .inl (E.2.2.1 1, 4, .inr (.inl (fun _ => 0)))), ((u11 3), .inr (8, [.ref (u11 2)])), (q9, .inr (5, [.ref (u11 3), .ref (u11 0)])), ((u7 0), .inl (E.2.2.1 1, 4, .inr (.inl (fun _ => 0)))), (q5, .inr (8, [.ref (u7 0)])), ((u3 0), .inl (E.2.2.1 1, 4, .inr (.inl (fun _ => 0)))), (q1, .inr (8, [.ref (u3 0)])), (h0, .inr (4, [.ref q1, .ref q5, .ref q9, .ref q13, .null, .null, .long 0, .long 0]))] := hD
  refine va_putF (D := q_D E) (ci := 4) (v := .ref q14) (ty := tyX4 4) (C := RX4) (T := TX4) (N := 8) hx hb hts i4 tyX4 tyX4_ok nmX4 hown hK.1.1 hP hD hS 11 rfl rfl 4 (by decide) (hts (.fieldLink RX4 32 "HeavyRoutes$Rater" "valueFactors" "[J") (by decide +kernel)) (fun _ h9 => h9) rfl hin rfl (by decide +kernel) rfl rfl (Nat.le_of_ble_eq_true rfl) dX4_init_50 (fun H locs hP hD hS => ?_)
  have hP : va_P (q_D E) vwCl [(q14, .inl (E.2.2.1 1, 6, .inr (.inl (fun _ => 0)))), (q13, .inl (E.2.2.1 1, 6, .inr (.inl (fun _ => 0)))), ((u11 0), .inr (8, [.ref (u11 1)])), ((u11 1), .inl (E.2.2.1 1, 4, .inr (.inl n_one))), ((u11 2), .inl (E.2.2.1 1, 4, .inr (.inl (fun _ => 0)))), ((u11 3), .inr (8, [.ref (u11 2)])), (q9, .inr (5, [.ref (u11 3), .ref (u11 0)])), ((u7 0), .inl (E.2.2.1 1, 4, .inr (.inl (fun _ => 0)))), (q5, .inr (8, [.ref (u7 0)])), ((u3 0), .inl (E.2.2.1 1, 4, .inr (.inl (fun _ => 0)))), (q1, .inr (8, [.ref (u3 0)])), (h0, .inr (4, [.ref q1, .ref q5, .ref q9, .ref q13, .ref q14, .null, .long 0, .long 0]))] H := hP
  have hD : va_D A [(q14, .inl (E.2.2.1 1, 6, .inr (.inl (fun _ => 0)))), (q13, .inl (E.2.2.1 1, 6, .inr (.inl (fun _ => 0)))), ((u11 0), .inr (8, [.ref (u11 1)])), ((u11 1), .inl (E.2.2.1 1, 4, .inr (.inl n_one))), ((u11 2), .inl (E.2.2.1 1, 4, .inr (.inl (fun _ => 0)))), ((u11 3), .inr (8, [.ref (u11 2)])), (q9, .inr (5, [.ref (u11 3), .ref (u11 0)])), ((u7 0), .inl (E.2.2.1 1, 4, .inr (.inl (fun _ => 0)))), (q5, .inr (8, [.ref (u7 0)])), ((u3 0), .inl (E.2.2.1 1, 4, .inr (.inl (fun _ => 0)))), (q1, .inr (8, [.ref (u3 0)])), (h0, .inr (4, [.ref q1, .ref q5, .ref q9, .ref q13, .ref q14, .null, .long 0, .long 0]))] := hD
  refine lv_aload_n hx hb dX4_init_53 rfl (lv_at hl 0 rfl) ?_
  refine lv_bipush (v := 6) hx hb dX4_init_54 (by decide) ?_
  refine n_newa (atype := .long) (ty := .long) (N := 6) (t0 := 1) (cA := E.2.2.1 1) (a0 := (6, .inr (.inl (fun _ => 0)))) hx hb (hts (.arrayClass .long) (by decide +kernel)) rfl hK rfl hP hD hS hA (fun _ => rfl) (by decide) (by decide) (by decide) (Nat.le_of_ble_eq_true rfl) (Nat.le_of_ble_eq_true rfl) dX4_init_56 (fun q15 H hP hD hS => ?_)
  have hP : va_P (q_D E) vwCl [(q15, .inl (E.2.2.1 1, 6, .inr (.inl (fun _ => 0)))), (q14, .inl (E.2.2.1 1, 6, .inr (.inl (fun _ => 0)))), (q13, .inl (E.2.2.1 1, 6, .inr (.inl (fun _ => 0)))), ((u11 0), .inr (8, [.ref (u11 1)])), ((u11 1), .inl (E.2.2.1 1, 4, .inr (.inl n_one))), ((u11 2), .inl (E.2.2.1 1, 4, .inr (.inl (fun _ => 0)))), ((u11 3), .inr (8, [.ref (u11 2)])), (q9, .inr (5, [.ref (u11 3), .ref (u11 0)])), ((u7 0), .inl (E.2.2.1 1, 4, .inr (.inl (fun _ => 0)))), (q5, .inr (8, [.ref (u7 0)])), ((u3 0), .inl (E.2.2.1 1, 4, .inr (.inl (fun _ => 0)))), (q1, .inr (8, [.ref (u3 0)])), (h0, .inr (4, [.ref q1, .ref q5, .ref q9, .ref q13, .ref q14, .null, .long 0, .long 0]))] H := hP
  have hD : va_D A [(q15, .inl (E.2.2.1 1, 6, .inr (.inl (fun _ => 0)))), (q14, .inl (E.2.2.1 1, 6, .inr (.inl (fun _ => 0)))), (q13, .inl (E.2.2.1 1, 6, .inr (.inl (fun _ => 0)))), ((u11 0), .inr (8, [.ref (u11 1)])), ((u11 1), .inl (E.2.2.1 1, 4, .inr (.inl n_one))), ((u11 2), .inl (E.2.2.1 1, 4, .inr (.inl (fun _ => 0)))), ((u11 3), .inr (8, [.ref (u11 2)])), (q9, .inr (5, [.ref (u11 3), .ref (u11 0)])), ((u7 0), .inl (E.2.2.1 1, 4, .inr (.inl (fun _ => 0)))), (q5, .inr (8, [.ref (u7 0)])), ((u3 0), .inl (E.2.2.1 1, 4, .inr (.inl (fun _ => 0)))), (q1, .inr (8, [.ref (u3 0)])), (h0, .inr (4, [.ref q1, .ref q5, .ref q9, .ref q13, .ref q14, .null, .long 0, .long 0]))] := hD
  refine va_putF (D := q_D E) (ci := 4) (v := .ref q15) (ty := tyX4 5) (C := RX4) (T := TX4) (N := 8) hx hb hts i4 tyX4 tyX4_ok nmX4 hown hK.1.1 hP hD hS 12 rfl rfl 5 (by decide) (hts (.fieldLink RX4 35 "HeavyRoutes$Rater" "gapFactors" "[J") (by decide +kernel)) (fun _ h9 => h9) rfl hin rfl (by decide +kernel) rfl rfl (Nat.le_of_ble_eq_true rfl) dX4_init_58 (fun H locs hP hD hS => ?_)
  have hP : va_P (q_D E) vwCl [(q15, .inl (E.2.2.1 1, 6, .inr (.inl (fun _ => 0)))), (q14, .inl (E.2.2.1 1, 6, .inr (.inl (fun _ => 0)))), (q13, .inl (E.2.2.1 1, 6, .inr (.inl (fun _ => 0)))), ((u11 0), .inr (8, [.ref (u11 1)])), ((u11 1), .inl (E.2.2.1 1, 4, .inr (.inl n_one))), ((u11 2), .inl (E.2.2.1 1, 4, .inr (.inl (fun _ => 0)))), ((u11 3), .inr (8, [.ref (u11 2)])), (q9, .inr (5, [.ref (u11 3), .ref (u11 0)])), ((u7 0), .inl (E.2.2.1 1, 4, .inr (.inl (fun _ => 0)))), (q5, .inr (8, [.ref (u7 0)])), ((u3 0), .inl (E.2.2.1 1, 4, .inr (.inl (fun _ => 0)))), (q1, .inr (8, [.ref (u3 0)])), (h0, .inr (4, [.ref q1, .ref q5, .ref q9, .ref q13, .ref q14, .ref q15, .long 0, .long 0]))] H := hP
  have hD : va_D A [(q15, .inl (E.2.2.1 1, 6, .inr (.inl (fun _ => 0)))), (q14, .inl (E.2.2.1 1, 6, .inr (.inl (fun _ => 0)))), (q13, .inl (E.2.2.1 1, 6, .inr (.inl (fun _ => 0)))), ((u11 0), .inr (8, [.ref (u11 1)])), ((u11 1), .inl (E.2.2.1 1, 4, .inr (.inl n_one))), ((u11 2), .inl (E.2.2.1 1, 4, .inr (.inl (fun _ => 0)))), ((u11 3), .inr (8, [.ref (u11 2)])), (q9, .inr (5, [.ref (u11 3), .ref (u11 0)])), ((u7 0), .inl (E.2.2.1 1, 4, .inr (.inl (fun _ => 0)))), (q5, .inr (8, [.ref (u7 0)])), ((u3 0), .inl (E.2.2.1 1, 4, .inr (.inl (fun _ => 0)))), (q1, .inr (8, [.ref (u3 0)])), (h0, .inr (4, [.ref q1, .ref q5, .ref q9, .ref q13, .ref q14, .ref q15, .long 0, .long 0]))] := hD
  exact n_vret hx hb hr hP hD ⟨fun k => ([q15, q14, q13, (u11 0), (u11 1), (u11 2), (u11 3), q9, (u7 0), q5, (u3 0), q1] : List Nat).getD k 0, rfl⟩ hS hAe hlk dX4_init_61
