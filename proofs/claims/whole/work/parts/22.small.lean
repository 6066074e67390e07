def f_X9_isWithin (x0 : Int64) (x2 : Int64) (x4 : Int64) (μ : q_M) : Option (Int32 × q_M) := (if 0 < (lg_cmp x2 x0) then some (0, μ) else (if 0 < (lg_cmp x0 x4) then some (0, μ) else some (1, μ)))
set_option maxHeartbeats 4000000 in
set_option maxRecDepth 100000 in
theorem c_X9_isWithin (l : Launch) (E : q_E) (hE : q_I E) (x0 : Int64) (x2 : Int64) (x4 : Int64) (μ μr : q_M) (r : Int32) (h : f_X9_isWithin x0 x2 x4 μ = some (r, μr)) : Met l yX9_isWithin wsX9_isWithin ({ frames := 0, cells := 0, slots := 0, locals := 0 }) (q_Pc E μ [.long x0, .long x2, .long x4]) (q_Qi E r μr) 0 0 (q_A E) := by
  refine q_met (cc := cX9_isWithin) (maxL := 6) (ret := (some .boolean)) hE (by decide) rfl (Nat.le_of_ble_eq_true rfl) ?_
  intro p e s m below meth c hx hb hr hml hown hts hlk F S ls hl
  have hl : lv_has ls 6 [(0, .long x0), (2, .long x2), (4, .long x4)] := hl
  unfold f_X9_isWithin at h
  obtain ⟨H, eH⟩ : ∃ z, z = s.heap := ⟨_, rfl⟩
  obtain ⟨locs, eL⟩ : ∃ z : List Loc, z = [] := ⟨_, rfl⟩
  rw [← eH, ← eL] at S
  suffices hh : W p l e ({ frames := 0, cells := 0, slots := 0, locals := 0 }) s m ([.long x0, .long x2, .long x4] : List Value).toArray below meth c H locs 0 0 (MQ below (q_Qi E r μr) ([.long x0, .long x2, .long x4] : List Value).toArray s 0 0 (q_A E)) (F0 m 0 ls []) by rw [eH, eL] at hh; exact hh
  refine lv_lload_n hx hb dX9_isWithin_0 rfl (lv_at hl 1 rfl) ?_
  refine lv_lload_n hx hb dX9_isWithin_1 rfl (lv_at hl 0 rfl) ?_
  refine W.lcmp hx hb dX9_isWithin_2 ?_
  refine lv_if_gt (tgt := 17) hx hb dX9_isWithin_3 (by decide) (fun c1 => ?_) (fun c1 => ?_)
  · have h := q_ip c1 h
    refine lv_iconst (v := 0) hx hb dX9_isWithin_17 (by decide) ?_
    exact q_zret hx hb hr S (by decide) h hlk dX9_isWithin_18
  · have h := q_ig c1 h
    refine lv_lload_n hx hb dX9_isWithin_6 rfl (lv_at hl 0 rfl) ?_
    refine lv_lload hx hb dX9_isWithin_7 (lv_at hl 2 rfl) ?_
    refine W.lcmp hx hb dX9_isWithin_9 ?_
    refine lv_if_gt (tgt := 17) hx hb dX9_isWithin_10 (by decide) (fun c2 => ?_) (fun c2 => ?_)
    · have h := q_ip c2 h
      refine lv_iconst (v := 0) hx hb dX9_isWithin_17 (by decide) ?_
      exact q_zret hx hb hr S (by decide) h hlk dX9_isWithin_18
    · have h := q_ig c2 h
      refine lv_iconst (v := 1) hx hb dX9_isWithin_13 (by decide) ?_
      refine lv_goto (tgt := 18) hx hb dX9_isWithin_14 (by decide) ?_
      exact q_zret hx hb hr S (by decide) h hlk dX9_isWithin_18
def f_X0_canTakeCorner (x0 : Nat) (x1 : Int64) (μ : q_M) : Option (Int32 × q_M) := (if 6 ≤ (μ.1 x0 1) then some (0, μ) else q_bd (f_X9_isWithin x1 0 60 μ) (fun r4 μ2 => (if r4 = 0 then some (0, μ2) else (if (μ2.1 x0 1) = 0 then some (1, μ2) else q_gd (q_ix ((μ2.1 x0 1) - 1) 6) ((if (lg_cmp x1 (μ2.2 (x0 + 6) ((μ2.1 x0 1) - 1).toNatClampNeg)) ≤ 0 then some (0, μ2) else some (1, μ2)))))))
set_option maxHeartbeats 4000000 in
set_option maxRecDepth 100000 in
theorem c_X0_canTakeCorner (l : Launch) (E : q_E) (hE : q_I E) (x0 : Nat) (x1 : Int64) (kx0 : q_kd x0 = 0) (μ μr : q_M) (r : Int32) (h : f_X0_canTakeCorner x0 x1 μ = some (r, μr)) : Met l yX0_canTakeCorner wsX0_canTakeCorner ({ frames := 1, cells := 0, slots := 0, locals := 25 }) (q_Pc E μ [.ref (E.2.2.2 x0), .long x1]) (q_Qi E r μr) 0 0 (q_A E) := by
  refine q_met (cc := cX0_canTakeCorner) (maxL := 3) (ret := (some .boolean)) hE (by decide) rfl (Nat.le_of_ble_eq_true rfl) ?_
  intro p e s m below meth c hx hb hr hml hown hts hlk F S ls hl
  have hl : lv_has ls 3 [(0, .ref (E.2.2.2 x0)), (1, .long x1)] := hl
  have i0 : ∀ w ∈ u_ws RX0 TX0 8, w ∈ wsX0_canTakeCorner := by decide +kernel
  unfold f_X0_canTakeCorner at h
  obtain ⟨H, eH⟩ : ∃ z, z = s.heap := ⟨_, rfl⟩
  obtain ⟨locs, eL⟩ : ∃ z : List Loc, z = [] := ⟨_, rfl⟩
  rw [← eH, ← eL] at S
  suffices hh : W p l e ({ frames := 1, cells := 0, slots := 0, locals := 25 }) s m ([.ref (E.2.2.2 x0), .long x1] : List Value).toArray below meth c H locs 0 0 (MQ below (q_Qi E r μr) ([.ref (E.2.2.2 x0), .long x1] : List Value).toArray s 0 0 (q_A E)) (F0 m 0 ls []) by rw [eH, eL] at hh; exact hh
  refine lv_aload_n hx hb dX0_canTakeCorner_0 rfl (lv_at hl 0 rfl) ?_
  refine q_geti (own := RX0) (C := RX0) (T := TX0) (N := 8) (ci := 0) (j := 1)  hx hb hts i0 hown F S kx0 (by decide) rfl (by decide) (by decide) rfl (hts (.fieldLink RX0 28 "HeavyRoutes$Bridge" "cornerCount" "I") (by decide +kernel)) dX0_canTakeCorner_1 ?_
  refine lv_bipush (v := 6) hx hb dX0_canTakeCorner_4 (by decide) ?_
  refine lv_icmp_ge (tgt := 20) hx hb dX0_canTakeCorner_6 (by decide) (fun c1 => ?_) (fun c1 => ?_)
  · have h := q_ip c1 h
    refine lv_iconst (v := 0) hx hb dX0_canTakeCorner_20 (by decide) ?_
    exact q_zret hx hb hr S (by decide) h hlk dX0_canTakeCorner_21
  · have h := q_ig c1 h
    refine lv_lload_n hx hb dX0_canTakeCorner_9 rfl (lv_at hl 1 rfl) ?_
    refine lv_lconst (v := 0) hx hb dX0_canTakeCorner_10 (by decide) ?_
    refine lv_ldc2 (v := 60) hx hb hown (hts (.constantLong RX0 32 (60)) (by decide +kernel)) dX0_canTakeCorner_11 ?_
    obtain ⟨r4, μ2, hc3, h⟩ := q_bd_some h
    refine q_ki F S (q_runSN (As := [.long x1, .long 0, .long 60]) (rest := []) ⟨hx, hb, hml, hown, hts⟩ F S (c_X9_isWithin l E hE x1 0 60 μ μ2 r4 hc3) ⟨va_cnB 3 hts gX0_canTakeCorner_X9_isWithin_n34 rfl rfl rfl (q_nwM (host := "HeavyRoutes") F (by decide +kernel)) (hts (.initialized RX9) (by decide +kernel)) (by decide +kernel) ⟨Nat.le_of_ble_eq_true rfl, Nat.le_of_ble_eq_true rfl⟩, hts (.static yX9_isWithin) (by decide +kernel), trivial⟩ rfl hl.1 rfl (Nat.le_of_ble_eq_true rfl) dX0_canTakeCorner_14 ⟨Nat.zero_le _, Nat.zero_le _⟩) (fun H locs S => ?_)
    refine lv_if_ne (tgt := 22) hx hb dX0_canTakeCorner_17 (by decide) (fun c5 => ?_) (fun c5 => ?_)
    · have h := q_ig c5 h
      refine lv_aload_n hx hb dX0_canTakeCorner_22 rfl (lv_at hl 0 rfl) ?_
      refine q_geti (own := RX0) (C := RX0) (T := TX0) (N := 8) (ci := 0) (j := 1)  hx hb hts i0 hown F S kx0 (by decide) rfl (by decide) (by decide) rfl (hts (.fieldLink RX0 28 "HeavyRoutes$Bridge" "cornerCount" "I") (by decide +kernel)) dX0_canTakeCorner_23 ?_
      refine lv_if_eq (tgt := 45) hx hb dX0_canTakeCorner_26 (by decide) (fun c6 => ?_) (fun c6 => ?_)
      · have h := q_ip c6 h
        refine lv_iconst (v := 1) hx hb dX0_canTakeCorner_45 (by decide) ?_
        refine lv_goto (tgt := 50) hx hb dX0_canTakeCorner_46 (by decide) ?_
        exact q_zret hx hb hr S (by decide) h hlk dX0_canTakeCorner_50
      · have h := q_ig c6 h
        refine lv_lload_n hx hb dX0_canTakeCorner_29 rfl (lv_at hl 1 rfl) ?_
        refine lv_aload_n hx hb dX0_canTakeCorner_30 rfl (lv_at hl 0 rfl) ?_
        refine q_getr (own := RX0) (C := RX0) (T := TX0) (N := 8) (ci := 0) (j := 2)  hx hb hts i0 hown F S kx0 (by decide) rfl (by decide) (by decide) rfl (q_p_0_2 kx0) (hts (.fieldLink RX0 9 "HeavyRoutes$Bridge" "at" "[J") (by decide +kernel)) dX0_canTakeCorner_31 ?_
        refine lv_aload_n hx hb dX0_canTakeCorner_34 rfl (lv_at hl 0 rfl) ?_
        refine q_geti (own := RX0) (C := RX0) (T := TX0) (N := 8) (ci := 0) (j := 1)  hx hb hts i0 hown F S kx0 (by decide) rfl (by decide) (by decide) rfl (hts (.fieldLink RX0 28 "HeavyRoutes$Bridge" "cornerCount" "I") (by decide +kernel)) dX0_canTakeCorner_35 ?_
        refine lv_iconst (v := 1) hx hb dX0_canTakeCorner_38 (by decide) ?_
        refine lv_isub hx hb dX0_canTakeCorner_39 ?_
        obtain ⟨g7, h⟩ := q_gd_some h
        refine q_lald hx hb F S (q_k_0_2 kx0) (q_n_0_2 kx0) g7 dX0_canTakeCorner_40 ?_
        refine W.lcmp hx hb dX0_canTakeCorner_41 ?_
        refine lv_if_le (tgt := 49) hx hb dX0_canTakeCorner_42 (by decide) (fun c8 => ?_) (fun c8 => ?_)
        · have h := q_ip c8 h
          refine lv_iconst (v := 0) hx hb dX0_canTakeCorner_49 (by decide) ?_
          exact q_zret hx hb hr S (by decide) h hlk dX0_canTakeCorner_50
        · have h := q_ig c8 h
          refine lv_iconst (v := 1) hx hb dX0_canTakeCorner_45 (by decide) ?_
          refine lv_goto (tgt := 50) hx hb dX0_canTakeCorner_46 (by decide) ?_
          exact q_zret hx hb hr S (by decide) h hlk dX0_canTakeCorner_50
    · have h := q_ip c5 h
      refine lv_iconst (v := 0) hx hb dX0_canTakeCorner_20 (by decide) ?_
      exact q_zret hx hb hr S (by decide) h hlk dX0_canTakeCorner_21
def f_X0_addCorner (x0 : Nat) (x1 : Int64) (x3 : Int64) (x5 : Int64) (μ : q_M) : Option (Unit × q_M) := (if (μ.1 x0 1) < 6 then q_gd (q_ix (μ.1 x0 1) 6) (q_le (q_sl μ (x0 + 6) (μ.1 x0 1).toNatClampNeg x1) (fun μ3 => q_gd (q_ix (μ3.1 x0 1) 6) (q_le (q_sl μ3 (x0 + 12) (μ3.1 x0 1).toNatClampNeg x3) (fun μ5 => q_gd (q_ix (μ5.1 x0 1) 6) (q_le (q_sl μ5 (x0 + 18) (μ5.1 x0 1).toNatClampNeg x5) (fun μ7 => q_le (q_si μ7 x0 1 ((μ7.1 x0 1) + 1)) (fun μ8 => some ((), μ8)))))))) else some ((), μ))
set_option maxHeartbeats 4000000 in
set_option maxRecDepth 100000 in
theorem c_X0_addCorner (l : Launch) (E : q_E) (hE : q_I E) (x0 : Nat) (x1 : Int64) (x3 : Int64) (x5 : Int64) (kx0 : q_kd x0 = 0) (μ μr : q_M) (r : Unit) (h : f_X0_addCorner x0 x1 x3 x5 μ = some (r, μr)) : Met l yX0_addCorner wsX0_addCorner ({ frames := 0, cells := 0, slots := 0, locals := 0 }) (q_Pc E μ [.ref (E.2.2.2 x0), .long x1, .long x3, .long x5]) (q_Qv E r μr) 0 0 (q_A E) := by
  refine q_met (cc := cX0_addCorner) (maxL := 7) (ret := none) hE (by decide) rfl (Nat.le_of_ble_eq_true rfl) ?_
  intro p e s m below meth c hx hb hr hml hown hts hlk F S ls hl
  have hl : lv_has ls 7 [(0, .ref (E.2.2.2 x0)), (1, .long x1), (3, .long x3), (5, .long x5)] := hl
  have i0 : ∀ w ∈ u_ws RX0 TX0 8, w ∈ wsX0_addCorner := by decide +kernel
  unfold f_X0_addCorner at h
  obtain ⟨H, eH⟩ : ∃ z, z = s.heap := ⟨_, rfl⟩
  obtain ⟨locs, eL⟩ : ∃ z : List Loc, z = [] := ⟨_, rfl⟩
  rw [← eH, ← eL] at S
  suffices hh : W p l e ({ frames := 0, cells := 0, slots := 0, locals := 0 }) s m ([.ref (E.2.2.2 x0), .long x1, .long x3, .long x5] : List Value).toArray below meth c H locs 0 0 (MQ below (q_Qv E r μr) ([.ref (E.2.2.2 x0), .long x1, .long x3, .long x5] : List Value).toArray s 0 0 (q_A E)) (F0 m 0 ls []) by rw [eH, eL] at hh; exact hh
  refine lv_aload_n hx hb dX0_addCorner_0 rfl (lv_at hl 0 rfl) ?_
  refine q_geti (own := RX0) (C := RX0) (T := TX0) (N := 8) (ci := 0) (j := 1)  hx hb hts i0 hown F S kx0 (by decide) rfl (by decide) (by decide) rfl (hts (.fieldLink RX0 28 "HeavyRoutes$Bridge" "cornerCount" "I") (by decide +kernel)) dX0_addCorner_1 ?_
  refine lv_bipush (v := 6) hx hb dX0_addCorner_4 (by decide) ?_
  refine lv_icmp_lt (tgt := 10) hx hb dX0_addCorner_6 (by decide) (fun c1 => ?_) (fun c1 => ?_)
  · have h := q_ip c1 h
    refine lv_aload_n hx hb dX0_addCorner_10 rfl (lv_at hl 0 rfl) ?_
    refine q_getr (own := RX0) (C := RX0) (T := TX0) (N := 8) (ci := 0) (j := 2)  hx hb hts i0 hown F S kx0 (by decide) rfl (by decide) (by decide) rfl (q_p_0_2 kx0) (hts (.fieldLink RX0 9 "HeavyRoutes$Bridge" "at" "[J") (by decide +kernel)) dX0_addCorner_11 ?_
    refine lv_aload_n hx hb dX0_addCorner_14 rfl (lv_at hl 0 rfl) ?_
    refine q_geti (own := RX0) (C := RX0) (T := TX0) (N := 8) (ci := 0) (j := 1)  hx hb hts i0 hown F S kx0 (by decide) rfl (by decide) (by decide) rfl (hts (.fieldLink RX0 28 "HeavyRoutes$Bridge" "cornerCount" "I") (by decide +kernel)) dX0_addCorner_15 ?_
    refine lv_lload_n hx hb dX0_addCorner_18 rfl (lv_at hl 1 rfl) ?_
    obtain ⟨g2, h⟩ := q_gd_some h
    refine q_last hx hb F S (q_k_0_2 kx0) (q_n_0_2 kx0) g2 dX0_addCorner_19 (fun H locs μ3 eμ3 S => ?_)
    have h := q_le_e h eμ3
    refine lv_aload_n hx hb dX0_addCorner_20 rfl (lv_at hl 0 rfl) ?_
    refine q_getr (own := RX0) (C := RX0) (T := TX0) (N := 8) (ci := 0) (j := 3)  hx hb hts i0 hown F S kx0 (by decide) rfl (by decide) (by decide) rfl (q_p_0_3 kx0) (hts (.fieldLink RX0 15 "HeavyRoutes$Bridge" "above" "[J") (by decide +kernel)) dX0_addCorner_21 ?_
    refine lv_aload_n hx hb dX0_addCorner_24 rfl (lv_at hl 0 rfl) ?_
    refine q_geti (own := RX0) (C := RX0) (T := TX0) (N := 8) (ci := 0) (j := 1)  hx hb hts i0 hown F S kx0 (by decide) rfl (by decide) (by decide) rfl (hts (.fieldLink RX0 28 "HeavyRoutes$Bridge" "cornerCount" "I") (by decide +kernel)) dX0_addCorner_25 ?_
    refine lv_lload_n hx hb dX0_addCorner_28 rfl (lv_at hl 2 rfl) ?_
    obtain ⟨g4, h⟩ := q_gd_some h
    refine q_last hx hb F S (q_k_0_3 kx0) (q_n_0_3 kx0) g4 dX0_addCorner_29 (fun H locs μ5 eμ5 S => ?_)
    have h := q_le_e h eμ5
    refine lv_aload_n hx hb dX0_addCorner_30 rfl (lv_at hl 0 rfl) ?_
    refine q_getr (own := RX0) (C := RX0) (T := TX0) (N := 8) (ci := 0) (j := 4)  hx hb hts i0 hown F S kx0 (by decide) rfl (by decide) (by decide) rfl (q_p_0_4 kx0) (hts (.fieldLink RX0 18 "HeavyRoutes$Bridge" "below" "[J") (by decide +kernel)) dX0_addCorner_31 ?_
    refine lv_aload_n hx hb dX0_addCorner_34 rfl (lv_at hl 0 rfl) ?_
    refine q_geti (own := RX0) (C := RX0) (T := TX0) (N := 8) (ci := 0) (j := 1)  hx hb hts i0 hown F S kx0 (by decide) rfl (by decide) (by decide) rfl (hts (.fieldLink RX0 28 "HeavyRoutes$Bridge" "cornerCount" "I") (by decide +kernel)) dX0_addCorner_35 ?_
    refine lv_lload hx hb dX0_addCorner_38 (lv_at hl 3 rfl) ?_
    obtain ⟨g6, h⟩ := q_gd_some h
    refine q_last hx hb F S (q_k_0_4 kx0) (q_n_0_4 kx0) g6 dX0_addCorner_40 (fun H locs μ7 eμ7 S => ?_)
    have h := q_le_e h eμ7
    refine lv_aload_n hx hb dX0_addCorner_41 rfl (lv_at hl 0 rfl) ?_
    refine lv_dup hx hb dX0_addCorner_42 rfl ?_
    refine q_geti (own := RX0) (C := RX0) (T := TX0) (N := 8) (ci := 0) (j := 1)  hx hb hts i0 hown F S kx0 (by decide) rfl (by decide) (by decide) rfl (hts (.fieldLink RX0 28 "HeavyRoutes$Bridge" "cornerCount" "I") (by decide +kernel)) dX0_addCorner_43 ?_
    refine lv_iconst (v := 1) hx hb dX0_addCorner_46 (by decide) ?_
    refine lv_iadd hx hb dX0_addCorner_47 ?_
    refine q_puti (own := RX0) (C := RX0) (T := TX0) (N := 8) (ci := 0) (j := 1)  hx hb hts i0 tyX0 tyX0_ok nmX0 hown F S kx0 (by decide) rfl (by decide) (by decide) rfl (hts (.fieldLink RX0 28 "HeavyRoutes$Bridge" "cornerCount" "I") (by decide +kernel)) rfl (by decide +kernel) dX0_addCorner_48 (fun H locs μ8 eμ8 S => ?_)
    have h := q_le_e h eμ8
    exact q_vret hx hb hr S h hlk dX0_addCorner_51
  · have h := q_ig c1 h
    exact q_vret hx hb hr S h hlk dX0_addCorner_9
def f_X0_gapBehind (x0 : Nat) (x1 : Int32) (μ : q_M) : Option (Int64 × q_M) := (if x1 < 0 then some (1, μ) else (if (μ.1 x0 1) ≤ (x1 + 1) then some (1, μ) else q_gd (q_ix (x1 + 1) 6) (q_gd (q_ix x1 6) (some (((μ.2 (x0 + 6) (x1 + 1).toNatClampNeg) - (μ.2 (x0 + 6) x1.toNatClampNeg)), μ)))))
set_option maxHeartbeats 4000000 in
set_option maxRecDepth 100000 in
theorem c_X0_gapBehind (l : Launch) (E : q_E) (hE : q_I E) (x0 : Nat) (x1 : Int32) (kx0 : q_kd x0 = 0) (μ μr : q_M) (r : Int64) (h : f_X0_gapBehind x0 x1 μ = some (r, μr)) : Met l yX0_gapBehind wsX0_gapBehind ({ frames := 0, cells := 0, slots := 0, locals := 0 }) (q_Pc E μ [.ref (E.2.2.2 x0), .int x1]) (q_Ql E r μr) 0 0 (q_A E) := by
  refine q_met (cc := cX0_gapBehind) (maxL := 2) (ret := (some .long)) hE (by decide) rfl (Nat.le_of_ble_eq_true rfl) ?_
  intro p e s m below meth c hx hb hr hml hown hts hlk F S ls hl
  have hl : lv_has ls 2 [(0, .ref (E.2.2.2 x0)), (1, .int x1)] := hl
  have i0 : ∀ w ∈ u_ws RX0 TX0 8, w ∈ wsX0_gapBehind := by decide +kernel
  unfold f_X0_gapBehind at h
  obtain ⟨H, eH⟩ : ∃ z, z = s.heap := ⟨_, rfl⟩
  obtain ⟨locs, eL⟩ : ∃ z : List Loc, z = [] := ⟨_, rfl⟩
  rw [← eH, ← eL] at S
  suffices hh : W p l e ({ frames := 0, cells := 0, slots := 0, locals := 0 }) s m ([.ref (E.2.2.2 x0), .int x1] : List Value).toArray below meth c H locs 0 0 (MQ below (q_Ql E r μr) ([.ref (E.2.2.2 x0), .int x1] : List Value).toArray s 0 0 (q_A E)) (F0 m 0 ls []) by rw [eH, eL] at hh; exact hh
  refine lv_iload_n hx hb dX0_gapBehind_0 rfl (lv_at hl 1 rfl) ?_
  refine lv_if_lt (tgt := 32) hx hb dX0_gapBehind_1 (by decide) (fun c1 => ?_) (fun c1 => ?_)
  · have h := q_ip c1 h
    refine lv_lconst (v := 1) hx hb dX0_gapBehind_32 (by decide) ?_
    exact q_lret hx hb hr S h hlk dX0_gapBehind_33
  · have h := q_ig c1 h
    refine lv_iload_n hx hb dX0_gapBehind_4 rfl (lv_at hl 1 rfl) ?_
    refine lv_iconst (v := 1) hx hb dX0_gapBehind_5 (by decide) ?_
    refine lv_iadd hx hb dX0_gapBehind_6 ?_
    refine lv_aload_n hx hb dX0_gapBehind_7 rfl (lv_at hl 0 rfl) ?_
    refine q_geti (own := RX0) (C := RX0) (T := TX0) (N := 8) (ci := 0) (j := 1)  hx hb hts i0 hown F S kx0 (by decide) rfl (by decide) (by decide) rfl (hts (.fieldLink RX0 28 "HeavyRoutes$Bridge" "cornerCount" "I") (by decide +kernel)) dX0_gapBehind_8 ?_
    refine lv_icmp_ge (tgt := 32) hx hb dX0_gapBehind_11 (by decide) (fun c2 => ?_) (fun c2 => ?_)
    · have h := q_ip c2 h
      refine lv_lconst (v := 1) hx hb dX0_gapBehind_32 (by decide) ?_
      exact q_lret hx hb hr S h hlk dX0_gapBehind_33
    · have h := q_ig c2 h
      refine lv_aload_n hx hb dX0_gapBehind_14 rfl (lv_at hl 0 rfl) ?_
      refine q_getr (own := RX0) (C := RX0) (T := TX0) (N := 8) (ci := 0) (j := 2)  hx hb hts i0 hown F S kx0 (by decide) rfl (by decide) (by decide) rfl (q_p_0_2 kx0) (hts (.fieldLink RX0 9 "HeavyRoutes$Bridge" "at" "[J") (by decide +kernel)) dX0_gapBehind_15 ?_
      refine lv_iload_n hx hb dX0_gapBehind_18 rfl (lv_at hl 1 rfl) ?_
      refine lv_iconst (v := 1) hx hb dX0_gapBehind_19 (by decide) ?_
      refine lv_iadd hx hb dX0_gapBehind_20 ?_
      obtain ⟨g3, h⟩ := q_gd_some h
      refine q_lald hx hb F S (q_k_0_2 kx0) (q_n_0_2 kx0) g3 dX0_gapBehind_21 ?_
      refine lv_aload_n hx hb dX0_gapBehind_22 rfl (lv_at hl 0 rfl) ?_
      refine q_getr (own := RX0) (C := RX0) (T := TX0) (N := 8) (ci := 0) (j := 2)  hx hb hts i0 hown F S kx0 (by decide) rfl (by decide) (by decide) rfl (q_p_0_2 kx0) (hts (.fieldLink RX0 9 "HeavyRoutes$Bridge" "at" "[J") (by decide +kernel)) dX0_gapBehind_23 ?_
      refine lv_iload_n hx hb dX0_gapBehind_26 rfl (lv_at hl 1 rfl) ?_
      obtain ⟨g4, h⟩ := q_gd_some h
      refine q_lald hx hb F S (q_k_0_2 kx0) (q_n_0_2 kx0) g4 dX0_gapBehind_27 ?_
      refine lv_lsub hx hb dX0_gapBehind_28 ?_
      refine lv_goto (tgt := 33) hx hb dX0_gapBehind_29 (by decide) ?_
      exact q_lret hx hb hr S h hlk dX0_gapBehind_33
def f_J6_bitCount_0f7a4 (x0 : Int32) (μ : q_M) : Option (Int32 × q_M) := q_le ((x0 - (((x0.toUInt32 >>> ((1 : Int32).toUInt32 &&& Int32.toUInt32 31)).toInt32) &&& 1431655765)) : Int32) (fun y1 => q_le (((y1 &&& 858993459) + (((y1.toUInt32 >>> ((2 : Int32).toUInt32 &&& Int32.toUInt32 31)).toInt32) &&& 858993459)) : Int32) (fun y2 => q_le (((y2 + ((y2.toUInt32 >>> ((4 : Int32).toUInt32 &&& Int32.toUInt32 31)).toInt32)) &&& 252645135) : Int32) (fun y3 => q_le ((y3 + ((y3.toUInt32 >>> ((8 : Int32).toUInt32 &&& Int32.toUInt32 31)).toInt32)) : Int32) (fun y4 => q_le ((y4 + ((y4.toUInt32 >>> ((16 : Int32).toUInt32 &&& Int32.toUInt32 31)).toInt32)) : Int32) (fun y5 => some ((y5 &&& 63), μ))))))
set_option maxHeartbeats 4000000 in
set_option maxRecDepth 100000 in
theorem c_J6_bitCount_0f7a4 (l : Launch) (E : q_E) (hE : q_I E) (x0 : Int32) (μ μr : q_M) (r : Int32) (h : f_J6_bitCount_0f7a4 x0 μ = some (r, μr)) : Met l yJ6_bitCount_0f7a4 wsJ6_bitCount_0f7a4 ({ frames := 0, cells := 0, slots := 0, locals := 0 }) (q_Pc E μ [.int x0]) (q_Qi E r μr) 0 0 (q_A E) := by
  refine q_met (cc := cJ6_bitCount_0f7a4) (maxL := 1) (ret := (some .int)) hE (by decide) rfl (Nat.le_of_ble_eq_true rfl) ?_
  intro p e s m below meth c hx hb hr hml hown hts hlk F S ls hl
  have hl : lv_has ls 1 [(0, .int x0)] := hl
  unfold f_J6_bitCount_0f7a4 at h
  obtain ⟨H, eH⟩ : ∃ z, z = s.heap := ⟨_, rfl⟩
  obtain ⟨locs, eL⟩ : ∃ z : List Loc, z = [] := ⟨_, rfl⟩
  rw [← eH, ← eL] at S
  suffices hh : W p l e ({ frames := 0, cells := 0, slots := 0, locals := 0 }) s m ([.int x0] : List Value).toArray below meth c H locs 0 0 (MQ below (q_Qi E r μr) ([.int x0] : List Value).toArray s 0 0 (q_A E)) (F0 m 0 ls []) by rw [eH, eL] at hh; exact hh
  refine lv_iload_n hx hb dJ6_bitCount_0f7a4_0 rfl (lv_at hl 0 rfl) ?_
  refine lv_iload_n hx hb dJ6_bitCount_0f7a4_1 rfl (lv_at hl 0 rfl) ?_
  refine lv_iconst (v := 1) hx hb dJ6_bitCount_0f7a4_2 (by decide) ?_
  refine lv_iushr (v := (x0.toUInt32 >>> ((1 : Int32).toUInt32 &&& Int32.toUInt32 31)).toInt32) hx hb dJ6_bitCount_0f7a4_3 rfl ?_
  refine lv_ldcw (v := 1431655765) hx hb hown (hts (.constant RJ6 265 (1431655765)) (by decide +kernel)) dJ6_bitCount_0f7a4_4 ?_
  refine lv_iand hx hb dJ6_bitCount_0f7a4_7 ?_
  refine lv_isub hx hb dJ6_bitCount_0f7a4_8 ?_
  refine lv_topi (fun y1 ey1 => ?_)
  have h := q_le_e h ey1
  refine lv_istore_n (lv' := [(0, .int y1)]) hx hb dJ6_bitCount_0f7a4_9 rfl hl (by decide) rfl (fun ls hl => ?_)
  refine lv_iload_n hx hb dJ6_bitCount_0f7a4_10 rfl (lv_at hl 0 rfl) ?_
  refine lv_ldcw (v := 858993459) hx hb hown (hts (.constant RJ6 266 (858993459)) (by decide +kernel)) dJ6_bitCount_0f7a4_11 ?_
  refine lv_iand hx hb dJ6_bitCount_0f7a4_14 ?_
  refine lv_iload_n hx hb dJ6_bitCount_0f7a4_15 rfl (lv_at hl 0 rfl) ?_
  refine lv_iconst (v := 2) hx hb dJ6_bitCount_0f7a4_16 (by decide) ?_
  refine lv_iushr (v := (y1.toUInt32 >>> ((2 : Int32).toUInt32 &&& Int32.toUInt32 31)).toInt32) hx hb dJ6_bitCount_0f7a4_17 rfl ?_
  refine lv_ldcw (v := 858993459) hx hb hown (hts (.constant RJ6 266 (858993459)) (by decide +kernel)) dJ6_bitCount_0f7a4_18 ?_
  refine lv_iand hx hb dJ6_bitCount_0f7a4_21 ?_
  refine lv_iadd hx hb dJ6_bitCount_0f7a4_22 ?_
  refine lv_topi (fun y2 ey2 => ?_)
  have h := q_le_e h ey2
  refine lv_istore_n (lv' := [(0, .int y2)]) hx hb dJ6_bitCount_0f7a4_23 rfl hl (by decide) rfl (fun ls hl => ?_)
  refine lv_iload_n hx hb dJ6_bitCount_0f7a4_24 rfl (lv_at hl 0 rfl) ?_
  refine lv_iload_n hx hb dJ6_bitCount_0f7a4_25 rfl (lv_at hl 0 rfl) ?_
  refine lv_iconst (v := 4) hx hb dJ6_bitCount_0f7a4_26 (by decide) ?_
  refine lv_iushr (v := (y2.toUInt32 >>> ((4 : Int32).toUInt32 &&& Int32.toUInt32 31)).toInt32) hx hb dJ6_bitCount_0f7a4_27 rfl ?_
  refine lv_iadd hx hb dJ6_bitCount_0f7a4_28 ?_
  refine lv_ldcw (v := 252645135) hx hb hown (hts (.constant RJ6 267 (252645135)) (by decide +kernel)) dJ6_bitCount_0f7a4_29 ?_
  refine lv_iand hx hb dJ6_bitCount_0f7a4_32 ?_
  refine lv_topi (fun y3 ey3 => ?_)
  have h := q_le_e h ey3
  refine lv_istore_n (lv' := [(0, .int y3)]) hx hb dJ6_bitCount_0f7a4_33 rfl hl (by decide) rfl (fun ls hl => ?_)
  refine lv_iload_n hx hb dJ6_bitCount_0f7a4_34 rfl (lv_at hl 0 rfl) ?_
  refine lv_iload_n hx hb dJ6_bitCount_0f7a4_35 rfl (lv_at hl 0 rfl) ?_
  refine lv_bipush (v := 8) hx hb dJ6_bitCount_0f7a4_36 (by decide) ?_
  refine lv_iushr (v := (y3.toUInt32 >>> ((8 : Int32).toUInt32 &&& Int32.toUInt32 31)).toInt32) hx hb dJ6_bitCount_0f7a4_38 rfl ?_
  refine lv_iadd hx hb dJ6_bitCount_0f7a4_39 ?_
  refine lv_topi (fun y4 ey4 => ?_)
  have h := q_le_e h ey4
  refine lv_istore_n (lv' := [(0, .int y4)]) hx hb dJ6_bitCount_0f7a4_40 rfl hl (by decide) rfl (fun ls hl => ?_)
  refine lv_iload_n hx hb dJ6_bitCount_0f7a4_41 rfl (lv_at hl 0 rfl) ?_
  refine lv_iload_n hx hb dJ6_bitCount_0f7a4_42 rfl (lv_at hl 0 rfl) ?_
  refine lv_bipush (v := 16) hx hb dJ6_bitCount_0f7a4_43 (by decide) ?_
  refine lv_iushr (v := (y4.toUInt32 >>> ((16 : Int32).toUInt32 &&& Int32.toUInt32 31)).toInt32) hx hb dJ6_bitCount_0f7a4_45 rfl ?_
  refine lv_iadd hx hb dJ6_bitCount_0f7a4_46 ?_
  refine lv_topi (fun y5 ey5 => ?_)
  have h := q_le_e h ey5
  refine lv_istore_n (lv' := [(0, .int y5)]) hx hb dJ6_bitCount_0f7a4_47 rfl hl (by decide) rfl (fun ls hl => ?_)
  refine lv_iload_n hx hb dJ6_bitCount_0f7a4_48 rfl (lv_at hl 0 rfl) ?_
  refine lv_bipush (v := 63) hx hb dJ6_bitCount_0f7a4_49 (by decide) ?_
  refine lv_iand hx hb dJ6_bitCount_0f7a4_51 ?_
  exact q_iret hx hb hr S h hlk dJ6_bitCount_0f7a4_52
def f_X2_canTakeAxle (x1 : Int64) (μ : q_M) : Option (Int32 × q_M) := (if (μ.1 3 2) = 0 then (if (lg_cmp x1 0) = 0 then some (1, μ) else some (0, μ)) else (if 5 ≤ (μ.1 3 2) then some (0, μ) else q_bd (f_X9_isWithin x1 1 30 μ) (fun r5 μ3 => (if r5 = 0 then some (0, μ3) else some (1, μ3)))))
set_option maxHeartbeats 4000000 in
set_option maxRecDepth 100000 in
theorem c_X2_canTakeAxle (l : Launch) (E : q_E) (hE : q_I E) (x1 : Int64) (μ μr : q_M) (r : Int32) (h : f_X2_canTakeAxle x1 μ = some (r, μr)) : Met l yX2_canTakeAxle wsX2_canTakeAxle ({ frames := 1, cells := 0, slots := 0, locals := 25 }) (q_Pc E μ [.ref (E.2.2.2 3), .long x1]) (q_Qi E r μr) 0 0 (q_A E) := by
  refine q_met (cc := cX2_canTakeAxle) (maxL := 3) (ret := (some .boolean)) hE (by decide) rfl (Nat.le_of_ble_eq_true rfl) ?_
  intro p e s m below meth c hx hb hr hml hown hts hlk F S ls hl
  have hl : lv_has ls 3 [(0, .ref (E.2.2.2 3)), (1, .long x1)] := hl
  have i2 : ∀ w ∈ u_ws RX2 TX2 5, w ∈ wsX2_canTakeAxle := by decide +kernel
  unfold f_X2_canTakeAxle at h
  obtain ⟨H, eH⟩ : ∃ z, z = s.heap := ⟨_, rfl⟩
  obtain ⟨locs, eL⟩ : ∃ z : List Loc, z = [] := ⟨_, rfl⟩
  rw [← eH, ← eL] at S
  suffices hh : W p l e ({ frames := 1, cells := 0, slots := 0, locals := 25 }) s m ([.ref (E.2.2.2 3), .long x1] : List Value).toArray below meth c H locs 0 0 (MQ below (q_Qi E r μr) ([.ref (E.2.2.2 3), .long x1] : List Value).toArray s 0 0 (q_A E)) (F0 m 0 ls []) by rw [eH, eL] at hh; exact hh
  refine lv_aload_n hx hb dX2_canTakeAxle_0 rfl (lv_at hl 0 rfl) ?_
  refine q_geti (own := RX2) (C := RX2) (T := TX2) (N := 5) (ci := 2) (j := 2)  hx hb hts i2 hown F S q_k3 (by decide) rfl (by decide) (by decide) rfl (hts (.fieldLink RX2 25 "HeavyRoutes$Journey" "axleCount" "I") (by decide +kernel)) dX2_canTakeAxle_1 ?_
  refine lv_if_ne (tgt := 19) hx hb dX2_canTakeAxle_4 (by decide) (fun c1 => ?_) (fun c1 => ?_)
  · have h := q_ig c1 h
    refine lv_aload_n hx hb dX2_canTakeAxle_19 rfl (lv_at hl 0 rfl) ?_
    refine q_geti (own := RX2) (C := RX2) (T := TX2) (N := 5) (ci := 2) (j := 2)  hx hb hts i2 hown F S q_k3 (by decide) rfl (by decide) (by decide) rfl (hts (.fieldLink RX2 25 "HeavyRoutes$Journey" "axleCount" "I") (by decide +kernel)) dX2_canTakeAxle_20 ?_
    refine lv_iconst (v := 5) hx hb dX2_canTakeAxle_23 (by decide) ?_
    refine lv_icmp_ge (tgt := 42) hx hb dX2_canTakeAxle_24 (by decide) (fun c2 => ?_) (fun c2 => ?_)
    · have h := q_ip c2 h
      refine lv_iconst (v := 0) hx hb dX2_canTakeAxle_42 (by decide) ?_
      exact q_zret hx hb hr S (by decide) h hlk dX2_canTakeAxle_43
    · have h := q_ig c2 h
      refine lv_lload_n hx hb dX2_canTakeAxle_27 rfl (lv_at hl 1 rfl) ?_
      refine lv_lconst (v := 1) hx hb dX2_canTakeAxle_28 (by decide) ?_
      refine lv_ldc2 (v := 30) hx hb hown (hts (.constantLong RX2 28 (30)) (by decide +kernel)) dX2_canTakeAxle_29 ?_
      obtain ⟨r5, μ3, hc4, h⟩ := q_bd_some h
      refine q_ki F S (q_runSN (As := [.long x1, .long 1, .long 30]) (rest := []) ⟨hx, hb, hml, hown, hts⟩ F S (c_X9_isWithin l E hE x1 1 30 μ μ3 r5 hc4) ⟨va_cnB 3 hts gX2_canTakeAxle_X9_isWithin_n30 rfl rfl rfl (q_nwM (host := "HeavyRoutes") F (by decide +kernel)) (hts (.initialized RX9) (by decide +kernel)) (by decide +kernel) ⟨Nat.le_of_ble_eq_true rfl, Nat.le_of_ble_eq_true rfl⟩, hts (.static yX9_isWithin) (by decide +kernel), trivial⟩ rfl hl.1 rfl (Nat.le_of_ble_eq_true rfl) dX2_canTakeAxle_32 ⟨Nat.zero_le _, Nat.zero_le _⟩) (fun H locs S => ?_)
      refine lv_if_eq (tgt := 42) hx hb dX2_canTakeAxle_35 (by decide) (fun c6 => ?_) (fun c6 => ?_)
      · have h := q_ip c6 h
        refine lv_iconst (v := 0) hx hb dX2_canTakeAxle_42 (by decide) ?_
        exact q_zret hx hb hr S (by decide) h hlk dX2_canTakeAxle_43
      · have h := q_ig c6 h
        refine lv_iconst (v := 1) hx hb dX2_canTakeAxle_38 (by decide) ?_
        refine lv_goto (tgt := 43) hx hb dX2_canTakeAxle_39 (by decide) ?_
        exact q_zret hx hb hr S (by decide) h hlk dX2_canTakeAxle_43
  · have h := q_ip c1 h
    refine lv_lload_n hx hb dX2_canTakeAxle_7 rfl (lv_at hl 1 rfl) ?_
    refine lv_lconst (v := 0) hx hb dX2_canTakeAxle_8 (by decide) ?_
    refine W.lcmp hx hb dX2_canTakeAxle_9 ?_
    refine lv_if_ne (tgt := 17) hx hb dX2_canTakeAxle_10 (by decide) (fun c7 => ?_) (fun c7 => ?_)
    · have h := q_ig c7 h
      refine lv_iconst (v := 0) hx hb dX2_canTakeAxle_17 (by decide) ?_
      exact q_zret hx hb hr S (by decide) h hlk dX2_canTakeAxle_18
    · have h := q_ip c7 h
      refine lv_iconst (v := 1) hx hb dX2_canTakeAxle_13 (by decide) ?_
      refine lv_goto (tgt := 18) hx hb dX2_canTakeAxle_14 (by decide) ?_
      exact q_zret hx hb hr S (by decide) h hlk dX2_canTakeAxle_18
def J_X2_addAxle_41 (x1 : Int64) (x3 : Int64) (s0 : Int64) (s1 : Int32) (μ : q_M) : Option (Unit × q_M) := q_gd (q_ix s1 5) (q_le (q_sl μ 9 s1.toNatClampNeg s0) (fun μ5 => q_gd (q_ix (μ5.1 3 2) 5) (q_le (q_sl μ5 10 (μ5.1 3 2).toNatClampNeg x3) (fun μ7 => q_le (q_si μ7 3 2 ((μ7.1 3 2) + 1)) (fun μ8 => some ((), μ8))))))
def f_X2_addAxle (x1 : Int64) (x3 : Int64) (μ : q_M) : Option (Unit × q_M) := (if (μ.1 3 2) < 5 then (if (μ.1 3 2) = 0 then J_X2_addAxle_41 x1 x3 0 (μ.1 3 2) μ else q_gd (q_ix ((μ.1 3 2) - 1) 5) (J_X2_addAxle_41 x1 x3 ((μ.2 9 ((μ.1 3 2) - 1).toNatClampNeg) + x1) (μ.1 3 2) μ)) else some ((), μ))
set_option maxHeartbeats 4000000 in
set_option maxRecDepth 100000 in
theorem c_X2_addAxle (l : Launch) (E : q_E) (hE : q_I E) (x1 : Int64) (x3 : Int64) (μ μr : q_M) (r : Unit) (h : f_X2_addAxle x1 x3 μ = some (r, μr)) : Met l yX2_addAxle wsX2_addAxle ({ frames := 0, cells := 0, slots := 0, locals := 0 }) (q_Pc E μ [.ref (E.2.2.2 3), .long x1, .long x3]) (q_Qv E r μr) 0 0 (q_A E) := by
  refine q_met (cc := cX2_addAxle) (maxL := 5) (ret := none) hE (by decide) rfl (Nat.le_of_ble_eq_true rfl) ?_
  intro p e s m below meth c hx hb hr hml hown hts hlk F S ls hl
  have hl : lv_has ls 5 [(0, .ref (E.2.2.2 3)), (1, .long x1), (3, .long x3)] := hl
  have i2 : ∀ w ∈ u_ws RX2 TX2 5, w ∈ wsX2_addAxle := by decide +kernel
  have hJ41 : ∀ (s0 : Int64), ∀ (s1 : Int32), ∀ (μ : q_M) (H : Heap) (locs : List Loc) (ls : Array Slot), q_S E (q_A E) s μ H locs → lv_has ls 5 [(0, .ref (E.2.2.2 3)), (3, .long x3)] → J_X2_addAxle_41 x1 x3 s0 s1 μ = some (r, μr) → W p l e ({ frames := 0, cells := 0, slots := 0, locals := 0 }) s m ([.ref (E.2.2.2 3), .long x1, .long x3] : List Value).toArray below meth c H locs 0 0 (MQ below (q_Qv E r μr) ([.ref (E.2.2.2 3), .long x1, .long x3] : List Value).toArray s 0 0 (q_A E)) (F0 m 41 ls [.long s0, .int s1, .ref (E.2.2.2 9)]) := by
    intro s0 s1 μ H locs ls S hl h
    rw [J_X2_addAxle_41] at h
    obtain ⟨g4, h⟩ := q_gd_some h
    refine q_last hx hb F S q_k9 q_n9 g4 dX2_addAxle_41 (fun H locs μ5 eμ5 S => ?_)
    have h := q_le_e h eμ5
    refine lv_aload_n hx hb dX2_addAxle_42 rfl (lv_at hl 0 rfl) ?_
    refine q_getr (own := RX2) (C := RX2) (T := TX2) (N := 5) (ci := 2) (j := 4)  (b := 10) hx hb hts i2 hown F S q_k3 (by decide) rfl (by decide) (by decide) rfl (by decide) (hts (.fieldLink RX2 22 "HeavyRoutes$Journey" "loads" "[J") (by decide +kernel)) dX2_addAxle_43 ?_
    refine lv_aload_n hx hb dX2_addAxle_46 rfl (lv_at hl 0 rfl) ?_
    refine q_geti (own := RX2) (C := RX2) (T := TX2) (N := 5) (ci := 2) (j := 2)  hx hb hts i2 hown F S q_k3 (by decide) rfl (by decide) (by decide) rfl (hts (.fieldLink RX2 25 "HeavyRoutes$Journey" "axleCount" "I") (by decide +kernel)) dX2_addAxle_47 ?_
    refine lv_lload_n hx hb dX2_addAxle_50 rfl (lv_at hl 1 rfl) ?_
    obtain ⟨g6, h⟩ := q_gd_some h
    refine q_last hx hb F S q_k10 q_n10 g6 dX2_addAxle_51 (fun H locs μ7 eμ7 S => ?_)
    have h := q_le_e h eμ7
    refine lv_aload_n hx hb dX2_addAxle_52 rfl (lv_at hl 0 rfl) ?_
    refine lv_dup hx hb dX2_addAxle_53 rfl ?_
    refine q_geti (own := RX2) (C := RX2) (T := TX2) (N := 5) (ci := 2) (j := 2)  hx hb hts i2 hown F S q_k3 (by decide) rfl (by decide) (by decide) rfl (hts (.fieldLink RX2 25 "HeavyRoutes$Journey" "axleCount" "I") (by decide +kernel)) dX2_addAxle_54 ?_
    refine lv_iconst (v := 1) hx hb dX2_addAxle_57 (by decide) ?_
    refine lv_iadd hx hb dX2_addAxle_58 ?_
    refine q_puti (own := RX2) (C := RX2) (T := TX2) (N := 5) (ci := 2) (j := 2)  hx hb hts i2 tyX2 tyX2_ok nmX2 hown F S q_k3 (by decide) rfl (by decide) (by decide) rfl (hts (.fieldLink RX2 25 "HeavyRoutes$Journey" "axleCount" "I") (by decide +kernel)) rfl (by decide +kernel) dX2_addAxle_59 (fun H locs μ8 eμ8 S => ?_)
    have h := q_le_e h eμ8
    exact q_vret hx hb hr S h hlk dX2_addAxle_62
  unfold f_X2_addAxle at h
  obtain ⟨H, eH⟩ : ∃ z, z = s.heap := ⟨_, rfl⟩
  obtain ⟨locs, eL⟩ : ∃ z : List Loc, z = [] := ⟨_, rfl⟩
  rw [← eH, ← eL] at S
  suffices hh : W p l e ({ frames := 0, cells := 0, slots := 0, locals := 0 }) s m ([.ref (E.2.2.2 3), .long x1, .long x3] : List Value).toArray below meth c H locs 0 0 (MQ below (q_Qv E r μr) ([.ref (E.2.2.2 3), .long x1, .long x3] : List Value).toArray s 0 0 (q_A E)) (F0 m 0 ls []) by rw [eH, eL] at hh; exact hh
  refine lv_aload_n hx hb dX2_addAxle_0 rfl (lv_at hl 0 rfl) ?_
  refine q_geti (own := RX2) (C := RX2) (T := TX2) (N := 5) (ci := 2) (j := 2)  hx hb hts i2 hown F S q_k3 (by decide) rfl (by decide) (by decide) rfl (hts (.fieldLink RX2 25 "HeavyRoutes$Journey" "axleCount" "I") (by decide +kernel)) dX2_addAxle_1 ?_
  refine lv_iconst (v := 5) hx hb dX2_addAxle_4 (by decide) ?_
  refine lv_icmp_lt (tgt := 9) hx hb dX2_addAxle_5 (by decide) (fun c1 => ?_) (fun c1 => ?_)
  · have h := q_ip c1 h
    refine lv_aload_n hx hb dX2_addAxle_9 rfl (lv_at hl 0 rfl) ?_
    refine q_getr (own := RX2) (C := RX2) (T := TX2) (N := 5) (ci := 2) (j := 3)  (b := 9) hx hb hts i2 hown F S q_k3 (by decide) rfl (by decide) (by decide) rfl (by decide) (hts (.fieldLink RX2 18 "HeavyRoutes$Journey" "offsets" "[J") (by decide +kernel)) dX2_addAxle_10 ?_
    refine lv_aload_n hx hb dX2_addAxle_13 rfl (lv_at hl 0 rfl) ?_
    refine q_geti (own := RX2) (C := RX2) (T := TX2) (N := 5) (ci := 2) (j := 2)  hx hb hts i2 hown F S q_k3 (by decide) rfl (by decide) (by decide) rfl (hts (.fieldLink RX2 25 "HeavyRoutes$Journey" "axleCount" "I") (by decide +kernel)) dX2_addAxle_14 ?_
    refine lv_aload_n hx hb dX2_addAxle_17 rfl (lv_at hl 0 rfl) ?_
    refine q_geti (own := RX2) (C := RX2) (T := TX2) (N := 5) (ci := 2) (j := 2)  hx hb hts i2 hown F S q_k3 (by decide) rfl (by decide) (by decide) rfl (hts (.fieldLink RX2 25 "HeavyRoutes$Journey" "axleCount" "I") (by decide +kernel)) dX2_addAxle_18 ?_
    refine lv_if_ne (tgt := 28) hx hb dX2_addAxle_21 (by decide) (fun c2 => ?_) (fun c2 => ?_)
    · have h := q_ig c2 h
      refine lv_aload_n hx hb dX2_addAxle_28 rfl (lv_at hl 0 rfl) ?_
      refine q_getr (own := RX2) (C := RX2) (T := TX2) (N := 5) (ci := 2) (j := 3)  (b := 9) hx hb hts i2 hown F S q_k3 (by decide) rfl (by decide) (by decide) rfl (by decide) (hts (.fieldLink RX2 18 "HeavyRoutes$Journey" "offsets" "[J") (by decide +kernel)) dX2_addAxle_29 ?_
      refine lv_aload_n hx hb dX2_addAxle_32 rfl (lv_at hl 0 rfl) ?_
      refine q_geti (own := RX2) (C := RX2) (T := TX2) (N := 5) (ci := 2) (j := 2)  hx hb hts i2 hown F S q_k3 (by decide) rfl (by decide) (by decide) rfl (hts (.fieldLink RX2 25 "HeavyRoutes$Journey" "axleCount" "I") (by decide +kernel)) dX2_addAxle_33 ?_
      refine lv_iconst (v := 1) hx hb dX2_addAxle_36 (by decide) ?_
      refine lv_isub hx hb dX2_addAxle_37 ?_
      obtain ⟨g3, h⟩ := q_gd_some h
      refine q_lald hx hb F S q_k9 q_n9 g3 dX2_addAxle_38 ?_
      refine lv_lload_n hx hb dX2_addAxle_39 rfl (lv_at hl 1 rfl) ?_
      refine lv_ladd hx hb dX2_addAxle_40 ?_
      exact hJ41 ((μ.2 9 ((μ.1 3 2) - 1).toNatClampNeg) + x1) (μ.1 3 2) μ H locs ls S (lv_sub hl [0, 2] rfl) h
    · have h := q_ip c2 h
      refine lv_lconst (v := 0) hx hb dX2_addAxle_24 (by decide) ?_
      refine lv_goto (tgt := 41) hx hb dX2_addAxle_25 (by decide) ?_
      exact hJ41 0 (μ.1 3 2) μ H locs ls S (lv_sub hl [0, 2] rfl) h
  · have h := q_ig c1 h
    exact q_vret hx hb hr S h hlk dX2_addAxle_8
def f_X5_isSameAs (x0 : Nat) (x1 : Nat) (μ : q_M) : Option (Int32 × q_M) := q_bd (f_X8_compareWith (x0 + 7) (x1 + 7) μ) (fun r3 μ1 => (if r3 = 0 then q_bd (f_X8_compareWith (x0 + 14) (x1 + 14) μ1) (fun r7 μ5 => (if r7 = 0 then some (1, μ5) else some (0, μ5))) else some (0, μ1)))
set_option maxHeartbeats 4000000 in
set_option maxRecDepth 100000 in
theorem c_X5_isSameAs (l : Launch) (E : q_E) (hE : q_I E) (x0 : Nat) (x1 : Nat) (kx0 : q_kd x0 = 5) (kx1 : q_kd x1 = 5) (μ μr : q_M) (r : Int32) (h : f_X5_isSameAs x0 x1 μ = some (r, μr)) : Met l yX5_isSameAs wsX5_isSameAs ({ frames := 1, cells := 0, slots := 0, locals := 22 }) (q_Pc E μ [.ref (E.2.2.2 x0), .ref (E.2.2.2 x1)]) (q_Qi E r μr) 0 0 (q_A E) := by
  refine q_met (cc := cX5_isSameAs) (maxL := 2) (ret := (some .boolean)) hE (by decide) rfl (Nat.le_of_ble_eq_true rfl) ?_
  intro p e s m below meth c hx hb hr hml hown hts hlk F S ls hl
  have hl : lv_has ls 2 [(0, .ref (E.2.2.2 x0)), (1, .ref (E.2.2.2 x1))] := hl
  have i5 : ∀ w ∈ u_ws RX5 TX5 2, w ∈ wsX5_isSameAs := by decide +kernel
  unfold f_X5_isSameAs at h
  obtain ⟨H, eH⟩ : ∃ z, z = s.heap := ⟨_, rfl⟩
  obtain ⟨locs, eL⟩ : ∃ z : List Loc, z = [] := ⟨_, rfl⟩
  rw [← eH, ← eL] at S
  suffices hh : W p l e ({ frames := 1, cells := 0, slots := 0, locals := 22 }) s m ([.ref (E.2.2.2 x0), .ref (E.2.2.2 x1)] : List Value).toArray below meth c H locs 0 0 (MQ below (q_Qi E r μr) ([.ref (E.2.2.2 x0), .ref (E.2.2.2 x1)] : List Value).toArray s 0 0 (q_A E)) (F0 m 0 ls []) by rw [eH, eL] at hh; exact hh
  refine lv_aload_n hx hb dX5_isSameAs_0 rfl (lv_at hl 0 rfl) ?_
  refine q_getr (own := RX5) (C := RX5) (T := TX5) (N := 2) (ci := 5) (j := 0)  hx hb hts i5 hown F S kx0 (by decide) rfl (by decide) (by decide) rfl (q_p_5_0 kx0) (hts (.fieldLink RX5 10 "HeavyRoutes$Rating" "upper" "LHeavyRoutes$Wide;") (by decide +kernel)) dX5_isSameAs_1 ?_
  refine lv_aload_n hx hb dX5_isSameAs_4 rfl (lv_at hl 1 rfl) ?_
  refine q_getr (own := RX5) (C := RX5) (T := TX5) (N := 2) (ci := 5) (j := 0)  hx hb hts i5 hown F S kx1 (by decide) rfl (by decide) (by decide) rfl (q_p_5_0 kx1) (hts (.fieldLink RX5 10 "HeavyRoutes$Rating" "upper" "LHeavyRoutes$Wide;") (by decide +kernel)) dX5_isSameAs_5 ?_
  obtain ⟨r3, μ1, hc2, h⟩ := q_bd_some h
  refine q_ki F S (q_runV (As := [.ref (E.2.2.2 (x1 + 7))]) (rest := []) (b := (x0 + 7)) ⟨hx, hb, hml, hown, hts⟩ F S (c_X8_compareWith l E hE (x0 + 7) (x1 + 7) (q_k_5_0 kx0) (q_k_5_0 kx1) μ μ1 r3 hc2) (cwV 1 hts gX5_isSameAs_X8_compareWith rfl rfl rfl (by decide +kernel) ⟨Nat.le_of_ble_eq_true rfl, Nat.le_of_ble_eq_true rfl⟩) (q_k_5_0 kx0) (by decide) rfl rfl hl.1 rfl (Nat.le_of_ble_eq_true rfl) dX5_isSameAs_8 ⟨Nat.zero_le _, Nat.zero_le _⟩) (fun H locs S => ?_)
  refine lv_if_ne (tgt := 32) hx hb dX5_isSameAs_11 (by decide) (fun c4 => ?_) (fun c4 => ?_)
  · have h := q_ig c4 h
    refine lv_iconst (v := 0) hx hb dX5_isSameAs_32 (by decide) ?_
    exact q_zret hx hb hr S (by decide) h hlk dX5_isSameAs_33
  · have h := q_ip c4 h
    refine lv_aload_n hx hb dX5_isSameAs_14 rfl (lv_at hl 0 rfl) ?_
    refine q_getr (own := RX5) (C := RX5) (T := TX5) (N := 2) (ci := 5) (j := 1)  hx hb hts i5 hown F S kx0 (by decide) rfl (by decide) (by decide) rfl (q_p_5_1 kx0) (hts (.fieldLink RX5 16 "HeavyRoutes$Rating" "lower" "LHeavyRoutes$Wide;") (by decide +kernel)) dX5_isSameAs_15 ?_
    refine lv_aload_n hx hb dX5_isSameAs_18 rfl (lv_at hl 1 rfl) ?_
    refine q_getr (own := RX5) (C := RX5) (T := TX5) (N := 2) (ci := 5) (j := 1)  hx hb hts i5 hown F S kx1 (by decide) rfl (by decide) (by decide) rfl (q_p_5_1 kx1) (hts (.fieldLink RX5 16 "HeavyRoutes$Rating" "lower" "LHeavyRoutes$Wide;") (by decide +kernel)) dX5_isSameAs_19 ?_
    obtain ⟨r7, μ5, hc6, h⟩ := q_bd_some h
    refine q_ki F S (q_runV (As := [.ref (E.2.2.2 (x1 + 14))]) (rest := []) (b := (x0 + 14)) ⟨hx, hb, hml, hown, hts⟩ F S (c_X8_compareWith l E hE (x0 + 14) (x1 + 14) (q_k_5_1 kx0) (q_k_5_1 kx1) μ1 μ5 r7 hc6) (cwV 1 hts gX5_isSameAs_X8_compareWith rfl rfl rfl (by decide +kernel) ⟨Nat.le_of_ble_eq_true rfl, Nat.le_of_ble_eq_true rfl⟩) (q_k_5_1 kx0) (by decide) rfl rfl hl.1 rfl (Nat.le_of_ble_eq_true rfl) dX5_isSameAs_22 ⟨Nat.zero_le _, Nat.zero_le _⟩) (fun H locs S => ?_)
    refine lv_if_ne (tgt := 32) hx hb dX5_isSameAs_25 (by decide) (fun c8 => ?_) (fun c8 => ?_)
    · have h := q_ig c8 h
      refine lv_iconst (v := 0) hx hb dX5_isSameAs_32 (by decide) ?_
      exact q_zret hx hb hr S (by decide) h hlk dX5_isSameAs_33
    · have h := q_ip c8 h
      refine lv_iconst (v := 1) hx hb dX5_isSameAs_28 (by decide) ?_
      refine lv_goto (tgt := 33) hx hb dX5_isSameAs_29 (by decide) ?_
      exact q_zret hx hb hr S (by decide) h hlk dX5_isSameAs_33
def f_X9_isSize (x0 : Int32) (μ : q_M) : Option (Int32 × q_M) := q_bd (f_X9_isWithin x0.toInt64 1 9999 μ) (fun r3 μ1 => q_gd (q_zb r3) (some (r3, μ1)))
set_option maxHeartbeats 4000000 in
set_option maxRecDepth 100000 in
theorem c_X9_isSize (l : Launch) (E : q_E) (hE : q_I E) (x0 : Int32) (μ μr : q_M) (r : Int32) (h : f_X9_isSize x0 μ = some (r, μr)) : Met l yX9_isSize wsX9_isSize ({ frames := 1, cells := 0, slots := 0, locals := 25 }) (q_Pc E μ [.int x0]) (q_Qi E r μr) 0 0 (q_A E) := by
  refine q_met (cc := cX9_isSize) (maxL := 1) (ret := (some .boolean)) hE (by decide) rfl (Nat.le_of_ble_eq_true rfl) ?_
  intro p e s m below meth c hx hb hr hml hown hts hlk F S ls hl
  have hl : lv_has ls 1 [(0, .int x0)] := hl
  unfold f_X9_isSize at h
  obtain ⟨H, eH⟩ : ∃ z, z = s.heap := ⟨_, rfl⟩
  obtain ⟨locs, eL⟩ : ∃ z : List Loc, z = [] := ⟨_, rfl⟩
  rw [← eH, ← eL] at S
  suffices hh : W p l e ({ frames := 1, cells := 0, slots := 0, locals := 25 }) s m ([.int x0] : List Value).toArray below meth c H locs 0 0 (MQ below (q_Qi E r μr) ([.int x0] : List Value).toArray s 0 0 (q_A E)) (F0 m 0 ls []) by rw [eH, eL] at hh; exact hh
  refine lv_iload_n hx hb dX9_isSize_0 rfl (lv_at hl 0 rfl) ?_
  refine lv_i2l (v := x0.toInt64) hx hb dX9_isSize_1 rfl ?_
  refine lv_lconst (v := 1) hx hb dX9_isSize_2 (by decide) ?_
  refine lv_ldc2 (v := 9999) hx hb hown (hts (.constantLong RX9 237 (9999)) (by decide +kernel)) dX9_isSize_3 ?_
  obtain ⟨r3, μ1, hc2, h⟩ := q_bd_some h
  refine q_ki F S (q_runS (As := [.long x0.toInt64, .long 1, .long 9999]) (rest := []) ⟨hx, hb, hml, hown, hts⟩ F S (c_X9_isWithin l E hE x0.toInt64 1 9999 μ μ1 r3 hc2) (va_cwS 3 hts gX9_isSize_X9_isWithin rfl rfl rfl (by decide +kernel) ⟨Nat.le_of_ble_eq_true rfl, Nat.le_of_ble_eq_true rfl⟩) rfl hl.1 rfl (Nat.le_of_ble_eq_true rfl) dX9_isSize_6 ⟨Nat.zero_le _, Nat.zero_le _⟩) (fun H locs S => ?_)
  obtain ⟨g4, h⟩ := q_gd_some h
  exact q_zret hx hb hr S g4 h hlk dX9_isSize_9
