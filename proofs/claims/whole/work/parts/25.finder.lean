def f_X1_forget (μ : q_M) : Option (Unit × q_M) := q_le (q_si μ 2 5 0) (fun μ1 => some ((), μ1))
set_option maxHeartbeats 4000000 in
set_option maxRecDepth 100000 in
theorem c_X1_forget (l : Launch) (E : q_E) (hE : q_I E) (μ μr : q_M) (r : Unit) (h : f_X1_forget μ = some (r, μr)) : Met l yX1_forget wsX1_forget ({ frames := 0, cells := 0, slots := 0, locals := 0 }) (q_Pc E μ [.ref (E.2.2.2 2)]) (q_Qv E r μr) 0 0 (q_A E) := by
  refine q_met (cc := cX1_forget) (maxL := 1) (ret := none) hE (by decide) rfl (Nat.le_of_ble_eq_true rfl) ?_
  intro p e s m below meth c hx hb hr hml hown hts hlk F S ls hl
  have hl : lv_has ls 1 [(0, .ref (E.2.2.2 2))] := hl
  have i1 : ∀ w ∈ u_ws RX1 TX1 15, w ∈ wsX1_forget := by decide +kernel
  unfold f_X1_forget at h
  obtain ⟨H, eH⟩ : ∃ z, z = s.heap := ⟨_, rfl⟩
  obtain ⟨locs, eL⟩ : ∃ z : List Loc, z = [] := ⟨_, rfl⟩
  rw [← eH, ← eL] at S
  suffices hh : W p l e ({ frames := 0, cells := 0, slots := 0, locals := 0 }) s m ([.ref (E.2.2.2 2)] : List Value).toArray below meth c H locs 0 0 (MQ below (q_Qv E r μr) ([.ref (E.2.2.2 2)] : List Value).toArray s 0 0 (q_A E)) (F0 m 0 ls []) by rw [eH, eL] at hh; exact hh
  refine lv_aload_n hx hb dX1_forget_0 rfl (lv_at hl 0 rfl) ?_
  refine lv_iconst (v := 0) hx hb dX1_forget_1 (by decide) ?_
  refine q_puti (own := RX1) (C := RX1) (T := TX1) (N := 15) (ci := 1) (j := 5)  hx hb hts i1 tyX1 tyX1_ok nmX1 hown F S q_k2 (by decide) rfl (by decide) (by decide) rfl (hts (.fieldLink RX1 32 "HeavyRoutes$Finder" "foundCount" "I") (by decide +kernel)) rfl (by decide +kernel) dX1_forget_2 (fun H locs μ1 eμ1 S => ?_)
  have h := q_le_e h eμ1
  exact q_vret hx hb hr S h hlk dX1_forget_5
def f_X1_atHand (μ : q_M) : Option (Nat × q_M) := (if (μ.1 2 5) ≤ 0 then some (118, μ) else q_gd (q_ix ((μ.1 2 5) - 1) 5) (some ((113 + ((μ.1 2 5) - 1).toNatClampNeg), μ)))
set_option maxHeartbeats 4000000 in
set_option maxRecDepth 100000 in
theorem c_X1_atHand (l : Launch) (E : q_E) (hE : q_I E) (μ μr : q_M) (r : Nat) (h : f_X1_atHand μ = some (r, μr)) : Met l yX1_atHand wsX1_atHand ({ frames := 0, cells := 0, slots := 0, locals := 0 }) (q_Pc E μ [.ref (E.2.2.2 2)]) (q_Qr E r μr) 0 0 (q_A E) := by
  refine q_met (cc := cX1_atHand) (maxL := 1) (ret := (some (.object "HeavyRoutes$Way"))) hE (by decide) rfl (Nat.le_of_ble_eq_true rfl) ?_
  intro p e s m below meth c hx hb hr hml hown hts hlk F S ls hl
  have hl : lv_has ls 1 [(0, .ref (E.2.2.2 2))] := hl
  have i1 : ∀ w ∈ u_ws RX1 TX1 15, w ∈ wsX1_atHand := by decide +kernel
  unfold f_X1_atHand at h
  obtain ⟨H, eH⟩ : ∃ z, z = s.heap := ⟨_, rfl⟩
  obtain ⟨locs, eL⟩ : ∃ z : List Loc, z = [] := ⟨_, rfl⟩
  rw [← eH, ← eL] at S
  suffices hh : W p l e ({ frames := 0, cells := 0, slots := 0, locals := 0 }) s m ([.ref (E.2.2.2 2)] : List Value).toArray below meth c H locs 0 0 (MQ below (q_Qr E r μr) ([.ref (E.2.2.2 2)] : List Value).toArray s 0 0 (q_A E)) (F0 m 0 ls []) by rw [eH, eL] at hh; exact hh
  refine lv_aload_n hx hb dX1_atHand_0 rfl (lv_at hl 0 rfl) ?_
  refine q_geti (own := RX1) (C := RX1) (T := TX1) (N := 15) (ci := 1) (j := 5)  hx hb hts i1 hown F S q_k2 (by decide) rfl (by decide) (by decide) rfl (hts (.fieldLink RX1 32 "HeavyRoutes$Finder" "foundCount" "I") (by decide +kernel)) dX1_atHand_1 ?_
  refine lv_if_le (tgt := 21) hx hb dX1_atHand_4 (by decide) (fun c1 => ?_) (fun c1 => ?_)
  · have h := q_ip c1 h
    refine lv_aload_n hx hb dX1_atHand_21 rfl (lv_at hl 0 rfl) ?_
    refine q_getr (own := RX1) (C := RX1) (T := TX1) (N := 15) (ci := 1) (j := 2)  (b := 118) hx hb hts i1 hown F S q_k2 (by decide) rfl (by decide) (by decide) rfl (by decide) (hts (.fieldLink RX1 18 "HeavyRoutes$Finder" "noWay" "LHeavyRoutes$Way;") (by decide +kernel)) dX1_atHand_22 ?_
    exact q_aret hx hb hr (Or.inl ⟨_, rfl⟩) S h hlk dX1_atHand_25
  · have h := q_ig c1 h
    refine lv_aload_n hx hb dX1_atHand_7 rfl (lv_at hl 0 rfl) ?_
    refine q_getr (own := RX1) (C := RX1) (T := TX1) (N := 15) (ci := 1) (j := 1)  (b := 8) hx hb hts i1 hown F S q_k2 (by decide) rfl (by decide) (by decide) rfl (by decide) (hts (.fieldLink RX1 11 "HeavyRoutes$Finder" "found" "[LHeavyRoutes$Way;") (by decide +kernel)) dX1_atHand_8 ?_
    refine lv_aload_n hx hb dX1_atHand_11 rfl (lv_at hl 0 rfl) ?_
    refine q_geti (own := RX1) (C := RX1) (T := TX1) (N := 15) (ci := 1) (j := 5)  hx hb hts i1 hown F S q_k2 (by decide) rfl (by decide) (by decide) rfl (hts (.fieldLink RX1 32 "HeavyRoutes$Finder" "foundCount" "I") (by decide +kernel)) dX1_atHand_12 ?_
    refine lv_iconst (v := 1) hx hb dX1_atHand_15 (by decide) ?_
    refine lv_isub hx hb dX1_atHand_16 ?_
    obtain ⟨g2, h⟩ := q_gd_some h
    refine q_rald (t := 2) hx hb F S q_k8 (by decide) rfl q_n8 (q_pe16 ((μ.1 2 5) - 1).toNatClampNeg) g2 dX1_atHand_17 ?_
    refine lv_goto (tgt := 25) hx hb dX1_atHand_18 (by decide) ?_
    exact q_aret hx hb hr (Or.inl ⟨_, rfl⟩) S h hlk dX1_atHand_25
def f_X1_begin (x1 : Int32) (x2 : Int32) (x3 : Int32) (μ : q_M) : Option (Unit × q_M) := q_bd (f_X1_forget  μ) (fun u1 μ1 => q_le (q_si μ1 2 6 1) (fun μ3 => q_le (q_si μ3 2 7 x1) (fun μ4 => q_le (q_si μ4 2 8 x2) (fun μ5 => q_le (q_si μ5 2 9 x3) (fun μ6 => some ((), μ6))))))
set_option maxHeartbeats 4000000 in
set_option maxRecDepth 100000 in
theorem c_X1_begin (l : Launch) (E : q_E) (hE : q_I E) (x1 : Int32) (x2 : Int32) (x3 : Int32) (μ μr : q_M) (r : Unit) (h : f_X1_begin x1 x2 x3 μ = some (r, μr)) : Met l yX1_begin wsX1_begin ({ frames := 1, cells := 0, slots := 0, locals := 20 }) (q_Pc E μ [.ref (E.2.2.2 2), .int x1, .int x2, .int x3]) (q_Qv E r μr) 0 0 (q_A E) := by
  refine q_met (cc := cX1_begin) (maxL := 4) (ret := none) hE (by decide) rfl (Nat.le_of_ble_eq_true rfl) ?_
  intro p e s m below meth c hx hb hr hml hown hts hlk F S ls hl
  have hl : lv_has ls 4 [(0, .ref (E.2.2.2 2)), (1, .int x1), (2, .int x2), (3, .int x3)] := hl
  have i1 : ∀ w ∈ u_ws RX1 TX1 15, w ∈ wsX1_begin := by decide +kernel
  unfold f_X1_begin at h
  obtain ⟨H, eH⟩ : ∃ z, z = s.heap := ⟨_, rfl⟩
  obtain ⟨locs, eL⟩ : ∃ z : List Loc, z = [] := ⟨_, rfl⟩
  rw [← eH, ← eL] at S
  suffices hh : W p l e ({ frames := 1, cells := 0, slots := 0, locals := 20 }) s m ([.ref (E.2.2.2 2), .int x1, .int x2, .int x3] : List Value).toArray below meth c H locs 0 0 (MQ below (q_Qv E r μr) ([.ref (E.2.2.2 2), .int x1, .int x2, .int x3] : List Value).toArray s 0 0 (q_A E)) (F0 m 0 ls []) by rw [eH, eL] at hh; exact hh
  refine lv_aload_n hx hb dX1_begin_0 rfl (lv_at hl 0 rfl) ?_
  obtain ⟨u1, μ1, hc2, h⟩ := q_bd_some h
  refine q_kv F S (q_runV (As := []) (rest := []) (b := 2) ⟨hx, hb, hml, hown, hts⟩ F S (c_X1_forget l E hE  μ μ1 u1 hc2) (cwV 0 hts gX1_begin_X1_forget rfl rfl rfl (by decide +kernel) ⟨Nat.le_of_ble_eq_true rfl, Nat.le_of_ble_eq_true rfl⟩) q_k2 (by decide) rfl rfl hl.1 rfl (Nat.le_of_ble_eq_true rfl) dX1_begin_1 ⟨Nat.zero_le _, Nat.zero_le _⟩) (fun H locs S => ?_)
  refine lv_aload_n hx hb dX1_begin_4 rfl (lv_at hl 0 rfl) ?_
  refine lv_iconst (v := 1) hx hb dX1_begin_5 (by decide) ?_
  refine q_putz (own := RX1) (C := RX1) (T := TX1) (N := 15) (ci := 1) (j := 6)  hx hb hts i1 tyX1 tyX1_ok nmX1 hown F S q_k2 (by decide) rfl (by decide) (by decide) rfl (hts (.fieldLink RX1 39 "HeavyRoutes$Finder" "hasBegun" "Z") (by decide +kernel)) rfl (by decide +kernel) (by decide) dX1_begin_6 (fun H locs μ3 eμ3 S => ?_)
  have h := q_le_e h eμ3
  refine lv_aload_n hx hb dX1_begin_9 rfl (lv_at hl 0 rfl) ?_
  refine lv_iload_n hx hb dX1_begin_10 rfl (lv_at hl 1 rfl) ?_
  refine q_puti (own := RX1) (C := RX1) (T := TX1) (N := 15) (ci := 1) (j := 7)  hx hb hts i1 tyX1 tyX1_ok nmX1 hown F S q_k2 (by decide) rfl (by decide) (by decide) rfl (hts (.fieldLink RX1 43 "HeavyRoutes$Finder" "from" "I") (by decide +kernel)) rfl (by decide +kernel) dX1_begin_11 (fun H locs μ4 eμ4 S => ?_)
  have h := q_le_e h eμ4
  refine lv_aload_n hx hb dX1_begin_14 rfl (lv_at hl 0 rfl) ?_
  refine lv_iload_n hx hb dX1_begin_15 rfl (lv_at hl 2 rfl) ?_
  refine q_puti (own := RX1) (C := RX1) (T := TX1) (N := 15) (ci := 1) (j := 8)  hx hb hts i1 tyX1 tyX1_ok nmX1 hown F S q_k2 (by decide) rfl (by decide) (by decide) rfl (hts (.fieldLink RX1 46 "HeavyRoutes$Finder" "to" "I") (by decide +kernel)) rfl (by decide +kernel) dX1_begin_16 (fun H locs μ5 eμ5 S => ?_)
  have h := q_le_e h eμ5
  refine lv_aload_n hx hb dX1_begin_19 rfl (lv_at hl 0 rfl) ?_
  refine lv_iload_n hx hb dX1_begin_20 rfl (lv_at hl 3 rfl) ?_
  refine q_puti (own := RX1) (C := RX1) (T := TX1) (N := 15) (ci := 1) (j := 9)  hx hb hts i1 tyX1 tyX1_ok nmX1 hown F S q_k2 (by decide) rfl (by decide) (by decide) rfl (hts (.fieldLink RX1 49 "HeavyRoutes$Finder" "minute" "I") (by decide +kernel)) rfl (by decide +kernel) dX1_begin_21 (fun H locs μ6 eμ6 S => ?_)
  have h := q_le_e h eμ6
  exact q_vret hx hb hr S h hlk dX1_begin_24
def f_X1_limitSharing (x1 : Int64) (x3 : Int64) (μ : q_M) : Option (Unit × q_M) := (if 0 ≤ (lg_cmp x3 1) then q_gd (q_ix (0 : Int32) 5) (q_gd (decide (¬ (x3 = 0))) (q_le (q_si μ 2 10 (((((μ.1 (113 + (0 : Int32).toNatClampNeg) 2).toInt64) * x1) / x3).toInt32)) (fun μ4 => some ((), μ4)))) else q_le (q_si μ 2 10 0) (fun μ5 => some ((), μ5)))
set_option maxHeartbeats 4000000 in
set_option maxRecDepth 100000 in
theorem c_X1_limitSharing (l : Launch) (E : q_E) (hE : q_I E) (x1 : Int64) (x3 : Int64) (μ μr : q_M) (r : Unit) (h : f_X1_limitSharing x1 x3 μ = some (r, μr)) : Met l yX1_limitSharing wsX1_limitSharing ({ frames := 0, cells := 0, slots := 0, locals := 0 }) (q_Pc E μ [.ref (E.2.2.2 2), .long x1, .long x3]) (q_Qv E r μr) 0 0 (q_A E) := by
  refine q_met (cc := cX1_limitSharing) (maxL := 5) (ret := none) hE (by decide) rfl (Nat.le_of_ble_eq_true rfl) ?_
  intro p e s m below meth c hx hb hr hml hown hts hlk F S ls hl
  have hl : lv_has ls 5 [(0, .ref (E.2.2.2 2)), (1, .long x1), (3, .long x3)] := hl
  have i1 : ∀ w ∈ u_ws RX1 TX1 15, w ∈ wsX1_limitSharing := by decide +kernel
  have i7 : ∀ w ∈ u_ws RX7 TX7 6, w ∈ wsX1_limitSharing := by decide +kernel
  unfold f_X1_limitSharing at h
  obtain ⟨H, eH⟩ : ∃ z, z = s.heap := ⟨_, rfl⟩
  obtain ⟨locs, eL⟩ : ∃ z : List Loc, z = [] := ⟨_, rfl⟩
  rw [← eH, ← eL] at S
  suffices hh : W p l e ({ frames := 0, cells := 0, slots := 0, locals := 0 }) s m ([.ref (E.2.2.2 2), .long x1, .long x3] : List Value).toArray below meth c H locs 0 0 (MQ below (q_Qv E r μr) ([.ref (E.2.2.2 2), .long x1, .long x3] : List Value).toArray s 0 0 (q_A E)) (F0 m 0 ls []) by rw [eH, eL] at hh; exact hh
  refine lv_aload_n hx hb dX1_limitSharing_0 rfl (lv_at hl 0 rfl) ?_
  refine lv_lload_n hx hb dX1_limitSharing_1 rfl (lv_at hl 2 rfl) ?_
  refine lv_lconst (v := 1) hx hb dX1_limitSharing_2 (by decide) ?_
  refine W.lcmp hx hb dX1_limitSharing_3 ?_
  refine lv_if_ge (tgt := 11) hx hb dX1_limitSharing_4 (by decide) (fun c1 => ?_) (fun c1 => ?_)
  · have h := q_ip c1 h
    refine lv_aload_n hx hb dX1_limitSharing_11 rfl (lv_at hl 0 rfl) ?_
    refine q_getr (own := RX1) (C := RX1) (T := TX1) (N := 15) (ci := 1) (j := 1)  (b := 8) hx hb hts i1 hown F S q_k2 (by decide) rfl (by decide) (by decide) rfl (by decide) (hts (.fieldLink RX1 11 "HeavyRoutes$Finder" "found" "[LHeavyRoutes$Way;") (by decide +kernel)) dX1_limitSharing_12 ?_
    refine lv_iconst (v := 0) hx hb dX1_limitSharing_15 (by decide) ?_
    obtain ⟨g2, h⟩ := q_gd_some h
    refine q_rald (t := 2) hx hb F S q_k8 (by decide) rfl q_n8 (q_pe16 (0 : Int32).toNatClampNeg) g2 dX1_limitSharing_16 ?_
    refine q_getiN (own := RX1) (C := RX7) (T := TX7) (N := 6) (ci := 7) (j := 2) (host := "HeavyRoutes") hx hb hts i7 hown F S (q_e16 g2) (by decide) rfl (by decide) (by decide) rfl (by decide +kernel) dX1_limitSharing_17 ?_
    refine lv_i2l (v := (μ.1 (113 + (0 : Int32).toNatClampNeg) 2).toInt64) hx hb dX1_limitSharing_20 rfl ?_
    refine lv_lload_n hx hb dX1_limitSharing_21 rfl (lv_at hl 1 rfl) ?_
    refine lv_lmul hx hb dX1_limitSharing_22 ?_
    refine lv_lload_n hx hb dX1_limitSharing_23 rfl (lv_at hl 2 rfl) ?_
    obtain ⟨g3, h⟩ := q_gd_some h
    refine lv_ldiv hx hb dX1_limitSharing_24 (of_decide_eq_true g3) ?_
    refine lv_l2i (v := ((((μ.1 (113 + (0 : Int32).toNatClampNeg) 2).toInt64) * x1) / x3).toInt32) hx hb dX1_limitSharing_25 rfl ?_
    refine q_puti (own := RX1) (C := RX1) (T := TX1) (N := 15) (ci := 1) (j := 10)  hx hb hts i1 tyX1 tyX1_ok nmX1 hown F S q_k2 (by decide) rfl (by decide) (by decide) rfl (hts (.fieldLink RX1 55 "HeavyRoutes$Finder" "mostShared" "I") (by decide +kernel)) rfl (by decide +kernel) dX1_limitSharing_26 (fun H locs μ4 eμ4 S => ?_)
    have h := q_le_e h eμ4
    exact q_vret hx hb hr S h hlk dX1_limitSharing_29
  · have h := q_ig c1 h
    refine lv_iconst (v := 0) hx hb dX1_limitSharing_7 (by decide) ?_
    refine lv_goto (tgt := 26) hx hb dX1_limitSharing_8 (by decide) ?_
    refine q_puti (own := RX1) (C := RX1) (T := TX1) (N := 15) (ci := 1) (j := 10)  hx hb hts i1 tyX1 tyX1_ok nmX1 hown F S q_k2 (by decide) rfl (by decide) (by decide) rfl (hts (.fieldLink RX1 55 "HeavyRoutes$Finder" "mostShared" "I") (by decide +kernel)) rfl (by decide +kernel) dX1_limitSharing_26 (fun H locs μ5 eμ5 S => ?_)
    have h := q_le_e h eμ5
    exact q_vret hx hb hr S h hlk dX1_limitSharing_29
def f_X1_keepBest (μ : q_M) : Option (Int32 × q_M) := (if (μ.1 2 14) = 0 then some ((-1), μ) else (if (μ.1 2 5) < 5 then q_gd (q_ix (μ.1 2 5) 5) (q_bd (f_X7_copyFrom (113 + (μ.1 2 5).toNatClampNeg) 120 μ) (fun u4 μ4 => q_le (q_si μ4 2 5 ((μ4.1 2 5) + 1)) (fun μ6 => some (((μ6.1 120 3) - (μ6.1 2 9)), μ6)))) else some ((-1), μ)))
set_option maxHeartbeats 4000000 in
set_option maxRecDepth 100000 in
theorem c_X1_keepBest (l : Launch) (E : q_E) (hE : q_I E) (μ μr : q_M) (r : Int32) (h : f_X1_keepBest μ = some (r, μr)) : Met l yX1_keepBest wsX1_keepBest ({ frames := 1, cells := 0, slots := 0, locals := 22 }) (q_Pc E μ [.ref (E.2.2.2 2)]) (q_Qi E r μr) 0 0 (q_A E) := by
  refine q_met (cc := cX1_keepBest) (maxL := 1) (ret := (some .int)) hE (by decide) rfl (Nat.le_of_ble_eq_true rfl) ?_
  intro p e s m below meth c hx hb hr hml hown hts hlk F S ls hl
  have hl : lv_has ls 1 [(0, .ref (E.2.2.2 2))] := hl
  have i1 : ∀ w ∈ u_ws RX1 TX1 15, w ∈ wsX1_keepBest := by decide +kernel
  have i7 : ∀ w ∈ u_ws RX7 TX7 6, w ∈ wsX1_keepBest := by decide +kernel
  unfold f_X1_keepBest at h
  obtain ⟨H, eH⟩ : ∃ z, z = s.heap := ⟨_, rfl⟩
  obtain ⟨locs, eL⟩ : ∃ z : List Loc, z = [] := ⟨_, rfl⟩
  rw [← eH, ← eL] at S
  suffices hh : W p l e ({ frames := 1, cells := 0, slots := 0, locals := 22 }) s m ([.ref (E.2.2.2 2)] : List Value).toArray below meth c H locs 0 0 (MQ below (q_Qi E r μr) ([.ref (E.2.2.2 2)] : List Value).toArray s 0 0 (q_A E)) (F0 m 0 ls []) by rw [eH, eL] at hh; exact hh
  refine lv_aload_n hx hb dX1_keepBest_0 rfl (lv_at hl 0 rfl) ?_
  refine q_geti (own := RX1) (C := RX1) (T := TX1) (N := 15) (ci := 1) (j := 14)  hx hb hts i1 hown F S q_k2 (by decide) rfl (by decide) (by decide) rfl (hts (.fieldLink RX1 58 "HeavyRoutes$Finder" "hasBest" "Z") (by decide +kernel)) dX1_keepBest_1 ?_
  refine lv_if_eq (tgt := 15) hx hb dX1_keepBest_4 (by decide) (fun c1 => ?_) (fun c1 => ?_)
  · have h := q_ip c1 h
    refine lv_iconst (v := (-1)) hx hb dX1_keepBest_15 (by decide) ?_
    exact q_iret hx hb hr S h hlk dX1_keepBest_16
  · have h := q_ig c1 h
    refine lv_aload_n hx hb dX1_keepBest_7 rfl (lv_at hl 0 rfl) ?_
    refine q_geti (own := RX1) (C := RX1) (T := TX1) (N := 15) (ci := 1) (j := 5)  hx hb hts i1 hown F S q_k2 (by decide) rfl (by decide) (by decide) rfl (hts (.fieldLink RX1 32 "HeavyRoutes$Finder" "foundCount" "I") (by decide +kernel)) dX1_keepBest_8 ?_
    refine lv_iconst (v := 5) hx hb dX1_keepBest_11 (by decide) ?_
    refine lv_icmp_lt (tgt := 17) hx hb dX1_keepBest_12 (by decide) (fun c2 => ?_) (fun c2 => ?_)
    · have h := q_ip c2 h
      refine lv_aload_n hx hb dX1_keepBest_17 rfl (lv_at hl 0 rfl) ?_
      refine q_getr (own := RX1) (C := RX1) (T := TX1) (N := 15) (ci := 1) (j := 1)  (b := 8) hx hb hts i1 hown F S q_k2 (by decide) rfl (by decide) (by decide) rfl (by decide) (hts (.fieldLink RX1 11 "HeavyRoutes$Finder" "found" "[LHeavyRoutes$Way;") (by decide +kernel)) dX1_keepBest_18 ?_
      refine lv_aload_n hx hb dX1_keepBest_21 rfl (lv_at hl 0 rfl) ?_
      refine q_geti (own := RX1) (C := RX1) (T := TX1) (N := 15) (ci := 1) (j := 5)  hx hb hts i1 hown F S q_k2 (by decide) rfl (by decide) (by decide) rfl (hts (.fieldLink RX1 32 "HeavyRoutes$Finder" "foundCount" "I") (by decide +kernel)) dX1_keepBest_22 ?_
      obtain ⟨g3, h⟩ := q_gd_some h
      refine q_rald (t := 2) hx hb F S q_k8 (by decide) rfl q_n8 (q_pe16 (μ.1 2 5).toNatClampNeg) g3 dX1_keepBest_25 ?_
      refine lv_aload_n hx hb dX1_keepBest_26 rfl (lv_at hl 0 rfl) ?_
      refine q_getr (own := RX1) (C := RX1) (T := TX1) (N := 15) (ci := 1) (j := 4)  (b := 120) hx hb hts i1 hown F S q_k2 (by decide) rfl (by decide) (by decide) rfl (by decide) (hts (.fieldLink RX1 25 "HeavyRoutes$Finder" "best" "LHeavyRoutes$Way;") (by decide +kernel)) dX1_keepBest_27 ?_
      obtain ⟨u4, μ4, hc5, h⟩ := q_bd_some h
      refine q_kv F S (q_runV (As := [.ref (E.2.2.2 120)]) (rest := []) (b := (113 + (μ.1 2 5).toNatClampNeg)) ⟨hx, hb, hml, hown, hts⟩ F S (c_X7_copyFrom l E hE (113 + (μ.1 2 5).toNatClampNeg) 120 (q_e16 g3) q_k120 μ μ4 u4 hc5) (cwV 1 hts gX1_keepBest_X7_copyFrom rfl rfl rfl (by decide +kernel) ⟨Nat.le_of_ble_eq_true rfl, Nat.le_of_ble_eq_true rfl⟩) (q_e16 g3) (by decide) rfl rfl hl.1 rfl (Nat.le_of_ble_eq_true rfl) dX1_keepBest_30 ⟨Nat.zero_le _, Nat.zero_le _⟩) (fun H locs S => ?_)
      refine lv_aload_n hx hb dX1_keepBest_33 rfl (lv_at hl 0 rfl) ?_
      refine lv_dup hx hb dX1_keepBest_34 rfl ?_
      refine q_geti (own := RX1) (C := RX1) (T := TX1) (N := 15) (ci := 1) (j := 5)  hx hb hts i1 hown F S q_k2 (by decide) rfl (by decide) (by decide) rfl (hts (.fieldLink RX1 32 "HeavyRoutes$Finder" "foundCount" "I") (by decide +kernel)) dX1_keepBest_35 ?_
      refine lv_iconst (v := 1) hx hb dX1_keepBest_38 (by decide) ?_
      refine lv_iadd hx hb dX1_keepBest_39 ?_
      refine q_puti (own := RX1) (C := RX1) (T := TX1) (N := 15) (ci := 1) (j := 5)  hx hb hts i1 tyX1 tyX1_ok nmX1 hown F S q_k2 (by decide) rfl (by decide) (by decide) rfl (hts (.fieldLink RX1 32 "HeavyRoutes$Finder" "foundCount" "I") (by decide +kernel)) rfl (by decide +kernel) dX1_keepBest_40 (fun H locs μ6 eμ6 S => ?_)
      have h := q_le_e h eμ6
      refine lv_aload_n hx hb dX1_keepBest_43 rfl (lv_at hl 0 rfl) ?_
      refine q_getr (own := RX1) (C := RX1) (T := TX1) (N := 15) (ci := 1) (j := 4)  (b := 120) hx hb hts i1 hown F S q_k2 (by decide) rfl (by decide) (by decide) rfl (by decide) (hts (.fieldLink RX1 25 "HeavyRoutes$Finder" "best" "LHeavyRoutes$Way;") (by decide +kernel)) dX1_keepBest_44 ?_
      refine q_getiN (own := RX1) (C := RX7) (T := TX7) (N := 6) (ci := 7) (j := 3) (host := "HeavyRoutes") hx hb hts i7 hown F S q_k120 (by decide) rfl (by decide) (by decide) rfl (by decide +kernel) dX1_keepBest_47 ?_
      refine lv_aload_n hx hb dX1_keepBest_50 rfl (lv_at hl 0 rfl) ?_
      refine q_geti (own := RX1) (C := RX1) (T := TX1) (N := 15) (ci := 1) (j := 9)  hx hb hts i1 hown F S q_k2 (by decide) rfl (by decide) (by decide) rfl (hts (.fieldLink RX1 49 "HeavyRoutes$Finder" "minute" "I") (by decide +kernel)) dX1_keepBest_51 ?_
      refine lv_isub hx hb dX1_keepBest_54 ?_
      exact q_iret hx hb hr S h hlk dX1_keepBest_55
    · have h := q_ig c2 h
      refine lv_iconst (v := (-1)) hx hb dX1_keepBest_15 (by decide) ?_
      exact q_iret hx hb hr S h hlk dX1_keepBest_16
def L_X1_isAllowed_2 (Kx : q_M → Option (Int32 × q_M)) : Nat → Int32 → q_M → Option (Int32 × q_M)
  | 0, _, _ => none
  | n + 1, v1, μ => (if (μ.1 2 5) ≤ v1 then Kx μ else q_gd (q_ix v1 5) ((if (μ.1 119 5) = (μ.1 (113 + v1.toNatClampNeg) 5) then some (0, μ) else q_le (v1 + 1 : Int32) (fun y4 => (L_X1_isAllowed_2 Kx n) y4 μ))))
def f_X1_isAllowed (μ : q_M) : Option (Int32 × q_M) := L_X1_isAllowed_2 (fun μ => (if (μ.1 2 5) = 0 then some (1, μ) else q_gd (q_ix (0 : Int32) 5) (q_bd (f_J6_bitCount_0f7a4 ((μ.1 119 5) &&& (μ.1 (113 + (0 : Int32).toNatClampNeg) 5)) μ) (fun r9 μ7 => (if (μ7.1 2 10) < r9 then some (0, μ7) else some (1, μ7)))))) q_fu 0 μ
set_option maxHeartbeats 4000000 in
set_option maxRecDepth 100000 in
theorem c_X1_isAllowed (l : Launch) (E : q_E) (hE : q_I E) (μ μr : q_M) (r : Int32) (h : f_X1_isAllowed μ = some (r, μr)) : Met l yX1_isAllowed wsX1_isAllowed ({ frames := 1, cells := 0, slots := 0, locals := 20 }) (q_Pc E μ [.ref (E.2.2.2 2)]) (q_Qi E r μr) 0 0 (q_A E) := by
  refine q_met (cc := cX1_isAllowed) (maxL := 2) (ret := (some .boolean)) hE (by decide) rfl (Nat.le_of_ble_eq_true rfl) ?_
  intro p e s m below meth c hx hb hr hml hown hts hlk F S ls hl
  have hl : lv_has ls 2 [(0, .ref (E.2.2.2 2))] := hl
  have i1 : ∀ w ∈ u_ws RX1 TX1 15, w ∈ wsX1_isAllowed := by decide +kernel
  have i7 : ∀ w ∈ u_ws RX7 TX7 6, w ∈ wsX1_isAllowed := by decide +kernel
  have hL2 : ∀ (Kx : q_M → Option (Int32 × q_M)), (∀ (μ : q_M) (H : Heap) (locs : List Loc) (ls : Array Slot), q_S E (q_A E) s μ H locs → lv_has ls 2 [(0, .ref (E.2.2.2 2))] → Kx μ = some (r, μr) → W p l e ({ frames := 1, cells := 0, slots := 0, locals := 20 }) s m ([.ref (E.2.2.2 2)] : List Value).toArray below meth c H locs 0 0 (MQ below (q_Qi E r μr) ([.ref (E.2.2.2 2)] : List Value).toArray s 0 0 (q_A E)) (F0 m 37 ls [])) → ∀ (n : Nat), ∀ (v1 : Int32), ∀ (μ : q_M) (H : Heap) (locs : List Loc) (ls : Array Slot), q_S E (q_A E) s μ H locs → lv_has ls 2 [(0, .ref (E.2.2.2 2)), (1, .int v1)] → L_X1_isAllowed_2 Kx n v1 μ = some (r, μr) → W p l e ({ frames := 1, cells := 0, slots := 0, locals := 20 }) s m ([.ref (E.2.2.2 2)] : List Value).toArray below meth c H locs 0 0 (MQ below (q_Qi E r μr) ([.ref (E.2.2.2 2)] : List Value).toArray s 0 0 (q_A E)) (F0 m 2 ls []) := by
    intro Kx hKx n
    induction n with
    | zero => intro v1 μ H locs ls S hl h; exact absurd h (by simp [L_X1_isAllowed_2])
    | succ n ih =>
      intro v1 μ H locs ls S hl h
      rw [L_X1_isAllowed_2] at h
      refine lv_iload_n hx hb dX1_isAllowed_2 rfl (lv_at hl 1 rfl) ?_
      refine lv_aload_n hx hb dX1_isAllowed_3 rfl (lv_at hl 0 rfl) ?_
      refine q_geti (own := RX1) (C := RX1) (T := TX1) (N := 15) (ci := 1) (j := 5)  hx hb hts i1 hown F S q_k2 (by decide) rfl (by decide) (by decide) rfl (hts (.fieldLink RX1 32 "HeavyRoutes$Finder" "foundCount" "I") (by decide +kernel)) dX1_isAllowed_4 ?_
      refine lv_icmp_ge (tgt := 37) hx hb dX1_isAllowed_7 (by decide) (fun c1 => ?_) (fun c1 => ?_)
      · have h := q_ip c1 h
        exact hKx μ H locs ls S (lv_sub hl [0] rfl) h
      · have h := q_ig c1 h
        refine lv_aload_n hx hb dX1_isAllowed_10 rfl (lv_at hl 0 rfl) ?_
        refine q_getr (own := RX1) (C := RX1) (T := TX1) (N := 15) (ci := 1) (j := 3)  (b := 119) hx hb hts i1 hown F S q_k2 (by decide) rfl (by decide) (by decide) rfl (by decide) (hts (.fieldLink RX1 22 "HeavyRoutes$Finder" "trial" "LHeavyRoutes$Way;") (by decide +kernel)) dX1_isAllowed_11 ?_
        refine q_getiN (own := RX1) (C := RX7) (T := TX7) (N := 6) (ci := 7) (j := 5) (host := "HeavyRoutes") hx hb hts i7 hown F S q_k119 (by decide) rfl (by decide) (by decide) rfl (by decide +kernel) dX1_isAllowed_14 ?_
        refine lv_aload_n hx hb dX1_isAllowed_17 rfl (lv_at hl 0 rfl) ?_
        refine q_getr (own := RX1) (C := RX1) (T := TX1) (N := 15) (ci := 1) (j := 1)  (b := 8) hx hb hts i1 hown F S q_k2 (by decide) rfl (by decide) (by decide) rfl (by decide) (hts (.fieldLink RX1 11 "HeavyRoutes$Finder" "found" "[LHeavyRoutes$Way;") (by decide +kernel)) dX1_isAllowed_18 ?_
        refine lv_iload_n hx hb dX1_isAllowed_21 rfl (lv_at hl 1 rfl) ?_
        obtain ⟨g2, h⟩ := q_gd_some h
        refine q_rald (t := 2) hx hb F S q_k8 (by decide) rfl q_n8 (q_pe16 v1.toNatClampNeg) g2 dX1_isAllowed_22 ?_
        refine q_getiN (own := RX1) (C := RX7) (T := TX7) (N := 6) (ci := 7) (j := 5) (host := "HeavyRoutes") hx hb hts i7 hown F S (q_e16 g2) (by decide) rfl (by decide) (by decide) rfl (by decide +kernel) dX1_isAllowed_23 ?_
        refine lv_icmp_ne (tgt := 31) hx hb dX1_isAllowed_26 (by decide) (fun c3 => ?_) (fun c3 => ?_)
        · have h := q_ig c3 h
          obtain ⟨y4, ey4⟩ : ∃ z : Int32, z = v1 + 1 := ⟨_, rfl⟩
          have h := q_le_e h ey4
          refine lv_iinc (v := y4) (lv' := [(1, .int y4), (0, .ref (E.2.2.2 2))]) hx hb dX1_isAllowed_31 hl (k := 1) rfl (by rw [ey4]; rfl) (by decide) rfl (fun ls hl => ?_)
          refine lv_goto (tgt := 2) hx hb dX1_isAllowed_34 (by decide) ?_
          exact ih y4 μ H locs ls S (lv_sub hl [1, 0] rfl) h
        · have h := q_ip c3 h
          refine lv_iconst (v := 0) hx hb dX1_isAllowed_29 (by decide) ?_
          exact q_zret hx hb hr S (by decide) h hlk dX1_isAllowed_30
  unfold f_X1_isAllowed at h
  obtain ⟨H, eH⟩ : ∃ z, z = s.heap := ⟨_, rfl⟩
  obtain ⟨locs, eL⟩ : ∃ z : List Loc, z = [] := ⟨_, rfl⟩
  rw [← eH, ← eL] at S
  suffices hh : W p l e ({ frames := 1, cells := 0, slots := 0, locals := 20 }) s m ([.ref (E.2.2.2 2)] : List Value).toArray below meth c H locs 0 0 (MQ below (q_Qi E r μr) ([.ref (E.2.2.2 2)] : List Value).toArray s 0 0 (q_A E)) (F0 m 0 ls []) by rw [eH, eL] at hh; exact hh
  refine lv_iconst (v := 0) hx hb dX1_isAllowed_0 (by decide) ?_
  refine lv_istore_n (lv' := [(1, .int 0), (0, .ref (E.2.2.2 2))]) hx hb dX1_isAllowed_1 rfl hl (by decide) rfl (fun ls hl => ?_)
  refine hL2 _ (fun μ H locs ls S hl h => ?_) q_fu 0 μ H locs ls S (lv_sub hl [1, 0] rfl) h
  refine lv_aload_n hx hb dX1_isAllowed_37 rfl (lv_at hl 0 rfl) ?_
  refine q_geti (own := RX1) (C := RX1) (T := TX1) (N := 15) (ci := 1) (j := 5)  hx hb hts i1 hown F S q_k2 (by decide) rfl (by decide) (by decide) rfl (hts (.fieldLink RX1 32 "HeavyRoutes$Finder" "foundCount" "I") (by decide +kernel)) dX1_isAllowed_38 ?_
  refine lv_if_eq (tgt := 71) hx hb dX1_isAllowed_41 (by decide) (fun c5 => ?_) (fun c5 => ?_)
  · have h := q_ip c5 h
    refine lv_iconst (v := 1) hx hb dX1_isAllowed_71 (by decide) ?_
    refine lv_goto (tgt := 76) hx hb dX1_isAllowed_72 (by decide) ?_
    exact q_zret hx hb hr S (by decide) h hlk dX1_isAllowed_76
  · have h := q_ig c5 h
    refine lv_aload_n hx hb dX1_isAllowed_44 rfl (lv_at hl 0 rfl) ?_
    refine q_getr (own := RX1) (C := RX1) (T := TX1) (N := 15) (ci := 1) (j := 3)  (b := 119) hx hb hts i1 hown F S q_k2 (by decide) rfl (by decide) (by decide) rfl (by decide) (hts (.fieldLink RX1 22 "HeavyRoutes$Finder" "trial" "LHeavyRoutes$Way;") (by decide +kernel)) dX1_isAllowed_45 ?_
    refine q_getiN (own := RX1) (C := RX7) (T := TX7) (N := 6) (ci := 7) (j := 5) (host := "HeavyRoutes") hx hb hts i7 hown F S q_k119 (by decide) rfl (by decide) (by decide) rfl (by decide +kernel) dX1_isAllowed_48 ?_
    refine lv_aload_n hx hb dX1_isAllowed_51 rfl (lv_at hl 0 rfl) ?_
    refine q_getr (own := RX1) (C := RX1) (T := TX1) (N := 15) (ci := 1) (j := 1)  (b := 8) hx hb hts i1 hown F S q_k2 (by decide) rfl (by decide) (by decide) rfl (by decide) (hts (.fieldLink RX1 11 "HeavyRoutes$Finder" "found" "[LHeavyRoutes$Way;") (by decide +kernel)) dX1_isAllowed_52 ?_
    refine lv_iconst (v := 0) hx hb dX1_isAllowed_55 (by decide) ?_
    obtain ⟨g6, h⟩ := q_gd_some h
    refine q_rald (t := 2) hx hb F S q_k8 (by decide) rfl q_n8 (q_pe16 (0 : Int32).toNatClampNeg) g6 dX1_isAllowed_56 ?_
    refine q_getiN (own := RX1) (C := RX7) (T := TX7) (N := 6) (ci := 7) (j := 5) (host := "HeavyRoutes") hx hb hts i7 hown F S (q_e16 g6) (by decide) rfl (by decide) (by decide) rfl (by decide +kernel) dX1_isAllowed_57 ?_
    refine lv_iand hx hb dX1_isAllowed_60 ?_
    obtain ⟨r9, μ7, hc8, h⟩ := q_bd_some h
    refine q_ki F S (q_runS (As := [.int ((μ.1 119 5) &&& (μ.1 (113 + (0 : Int32).toNatClampNeg) 5))]) (rest := []) ⟨hx, hb, hml, hown, hts⟩ F S (c_J6_bitCount_0f7a4 l E hE ((μ.1 119 5) &&& (μ.1 (113 + (0 : Int32).toNatClampNeg) 5)) μ μ7 r9 hc8) (va_cwS 1 hts gX1_isAllowed_J6_bitCount_0f7a4 rfl rfl rfl (by decide +kernel) ⟨Nat.le_of_ble_eq_true rfl, Nat.le_of_ble_eq_true rfl⟩) rfl hl.1 rfl (Nat.le_of_ble_eq_true rfl) dX1_isAllowed_61 ⟨Nat.zero_le _, Nat.zero_le _⟩) (fun H locs S => ?_)
    refine lv_aload_n hx hb dX1_isAllowed_64 rfl (lv_at hl 0 rfl) ?_
    refine q_geti (own := RX1) (C := RX1) (T := TX1) (N := 15) (ci := 1) (j := 10)  hx hb hts i1 hown F S q_k2 (by decide) rfl (by decide) (by decide) rfl (hts (.fieldLink RX1 55 "HeavyRoutes$Finder" "mostShared" "I") (by decide +kernel)) dX1_isAllowed_65 ?_
    refine lv_icmp_gt (tgt := 75) hx hb dX1_isAllowed_68 (by decide) (fun c10 => ?_) (fun c10 => ?_)
    · have h := q_ip c10 h
      refine lv_iconst (v := 0) hx hb dX1_isAllowed_75 (by decide) ?_
      exact q_zret hx hb hr S (by decide) h hlk dX1_isAllowed_76
    · have h := q_ig c10 h
      refine lv_iconst (v := 1) hx hb dX1_isAllowed_71 (by decide) ?_
      refine lv_goto (tgt := 76) hx hb dX1_isAllowed_72 (by decide) ?_
      exact q_zret hx hb hr S (by decide) h hlk dX1_isAllowed_76
def J_X1_consider_79 (x1 : Int32) (x2 : Int32) (μ : q_M) : Option (Unit × q_M) := q_bd (f_X7_copyFrom 120 119 μ) (fun u15 μ15 => q_le (q_si μ15 2 14 1) (fun μ17 => some ((), μ17)))
def f_X1_consider (x1 : Int32) (x2 : Int32) (μ : q_M) : Option (Unit × q_M) := q_le (q_si μ 2 13 ((μ.1 2 13) + 1)) (fun μ1 => q_le (q_si μ1 119 2 x2) (fun μ2 => q_le (q_si μ2 119 3 x1) (fun μ3 => q_bd (f_X3_bridgesOn 119 μ3) (fun r6 μ4 => q_le (q_si μ4 119 4 r6) (fun μ7 => q_bd (f_X7_collectRoads 119 μ7) (fun u8 μ8 => q_bd (f_X1_isAllowed  μ8) (fun r12 μ10 => (if r12 = 0 then some ((), μ10) else (if (μ10.1 2 14) = 0 then J_X1_consider_79 x1 x2 μ10 else q_bd (f_X7_isBetterThan 119 120 μ10) (fun r20 μ18 => (if r20 = 0 then some ((), μ18) else J_X1_consider_79 x1 x2 μ18)))))))))))
set_option maxHeartbeats 4000000 in
set_option maxRecDepth 100000 in
theorem c_X1_consider (l : Launch) (E : q_E) (hE : q_I E) (x1 : Int32) (x2 : Int32) (μ μr : q_M) (r : Unit) (h : f_X1_consider x1 x2 μ = some (r, μr)) : Met l yX1_consider wsX1_consider ({ frames := 2, cells := 0, slots := 0, locals := 41 }) (q_Pc E μ [.ref (E.2.2.2 2), .int x1, .int x2]) (q_Qv E r μr) 0 0 (q_A E) := by
  refine q_met (cc := cX1_consider) (maxL := 3) (ret := none) hE (by decide) rfl (Nat.le_of_ble_eq_true rfl) ?_
  intro p e s m below meth c hx hb hr hml hown hts hlk F S ls hl
  have hl : lv_has ls 3 [(0, .ref (E.2.2.2 2)), (1, .int x1), (2, .int x2)] := hl
  have i1 : ∀ w ∈ u_ws RX1 TX1 15, w ∈ wsX1_consider := by decide +kernel
  have i7 : ∀ w ∈ u_ws RX7 TX7 6, w ∈ wsX1_consider := by decide +kernel
  have hJ79 : ∀ (μ : q_M) (H : Heap) (locs : List Loc) (ls : Array Slot), q_S E (q_A E) s μ H locs → lv_has ls 3 [(0, .ref (E.2.2.2 2))] → J_X1_consider_79 x1 x2 μ = some (r, μr) → W p l e ({ frames := 2, cells := 0, slots := 0, locals := 41 }) s m ([.ref (E.2.2.2 2), .int x1, .int x2] : List Value).toArray below meth c H locs 0 0 (MQ below (q_Qv E r μr) ([.ref (E.2.2.2 2), .int x1, .int x2] : List Value).toArray s 0 0 (q_A E)) (F0 m 79 ls []) := by
    intro μ H locs ls S hl h
    rw [J_X1_consider_79] at h
    refine lv_aload_n hx hb dX1_consider_79 rfl (lv_at hl 0 rfl) ?_
    refine q_getr (own := RX1) (C := RX1) (T := TX1) (N := 15) (ci := 1) (j := 4)  (b := 120) hx hb hts i1 hown F S q_k2 (by decide) rfl (by decide) (by decide) rfl (by decide) (hts (.fieldLink RX1 25 "HeavyRoutes$Finder" "best" "LHeavyRoutes$Way;") (by decide +kernel)) dX1_consider_80 ?_
    refine lv_aload_n hx hb dX1_consider_83 rfl (lv_at hl 0 rfl) ?_
    refine q_getr (own := RX1) (C := RX1) (T := TX1) (N := 15) (ci := 1) (j := 3)  (b := 119) hx hb hts i1 hown F S q_k2 (by decide) rfl (by decide) (by decide) rfl (by decide) (hts (.fieldLink RX1 22 "HeavyRoutes$Finder" "trial" "LHeavyRoutes$Way;") (by decide +kernel)) dX1_consider_84 ?_
    obtain ⟨u15, μ15, hc16, h⟩ := q_bd_some h
    refine q_kv F S (q_runV (As := [.ref (E.2.2.2 119)]) (rest := []) (b := 120) ⟨hx, hb, hml, hown, hts⟩ F S (c_X7_copyFrom l E hE 120 119 q_k120 q_k119 μ μ15 u15 hc16) (cwV 1 hts gX1_consider_X7_copyFrom rfl rfl rfl (by decide +kernel) ⟨Nat.le_of_ble_eq_true rfl, Nat.le_of_ble_eq_true rfl⟩) q_k120 (by decide) rfl rfl hl.1 rfl (Nat.le_of_ble_eq_true rfl) dX1_consider_87 ⟨Nat.zero_le _, Nat.zero_le _⟩) (fun H locs S => ?_)
    refine lv_aload_n hx hb dX1_consider_90 rfl (lv_at hl 0 rfl) ?_
    refine lv_iconst (v := 1) hx hb dX1_consider_91 (by decide) ?_
    refine q_putz (own := RX1) (C := RX1) (T := TX1) (N := 15) (ci := 1) (j := 14)  hx hb hts i1 tyX1 tyX1_ok nmX1 hown F S q_k2 (by decide) rfl (by decide) (by decide) rfl (hts (.fieldLink RX1 58 "HeavyRoutes$Finder" "hasBest" "Z") (by decide +kernel)) rfl (by decide +kernel) (by decide) dX1_consider_92 (fun H locs μ17 eμ17 S => ?_)
    have h := q_le_e h eμ17
    exact q_vret hx hb hr S h hlk dX1_consider_95
  unfold f_X1_consider at h
  obtain ⟨H, eH⟩ : ∃ z, z = s.heap := ⟨_, rfl⟩
  obtain ⟨locs, eL⟩ : ∃ z : List Loc, z = [] := ⟨_, rfl⟩
  rw [← eH, ← eL] at S
  suffices hh : W p l e ({ frames := 2, cells := 0, slots := 0, locals := 41 }) s m ([.ref (E.2.2.2 2), .int x1, .int x2] : List Value).toArray below meth c H locs 0 0 (MQ below (q_Qv E r μr) ([.ref (E.2.2.2 2), .int x1, .int x2] : List Value).toArray s 0 0 (q_A E)) (F0 m 0 ls []) by rw [eH, eL] at hh; exact hh
  refine lv_aload_n hx hb dX1_consider_0 rfl (lv_at hl 0 rfl) ?_
  refine lv_dup hx hb dX1_consider_1 rfl ?_
  refine q_geti (own := RX1) (C := RX1) (T := TX1) (N := 15) (ci := 1) (j := 13)  hx hb hts i1 hown F S q_k2 (by decide) rfl (by decide) (by decide) rfl (hts (.fieldLink RX1 80 "HeavyRoutes$Finder" "wayCount" "I") (by decide +kernel)) dX1_consider_2 ?_
  refine lv_iconst (v := 1) hx hb dX1_consider_5 (by decide) ?_
  refine lv_iadd hx hb dX1_consider_6 ?_
  refine q_puti (own := RX1) (C := RX1) (T := TX1) (N := 15) (ci := 1) (j := 13)  hx hb hts i1 tyX1 tyX1_ok nmX1 hown F S q_k2 (by decide) rfl (by decide) (by decide) rfl (hts (.fieldLink RX1 80 "HeavyRoutes$Finder" "wayCount" "I") (by decide +kernel)) rfl (by decide +kernel) dX1_consider_7 (fun H locs μ1 eμ1 S => ?_)
  have h := q_le_e h eμ1
  refine lv_aload_n hx hb dX1_consider_10 rfl (lv_at hl 0 rfl) ?_
  refine q_getr (own := RX1) (C := RX1) (T := TX1) (N := 15) (ci := 1) (j := 3)  (b := 119) hx hb hts i1 hown F S q_k2 (by decide) rfl (by decide) (by decide) rfl (by decide) (hts (.fieldLink RX1 22 "HeavyRoutes$Finder" "trial" "LHeavyRoutes$Way;") (by decide +kernel)) dX1_consider_11 ?_
  refine lv_iload_n hx hb dX1_consider_14 rfl (lv_at hl 2 rfl) ?_
  refine q_putiN (own := RX1) (C := RX7) (T := TX7) (N := 6) (ci := 7) (j := 2) (host := "HeavyRoutes") hx hb hts i7 tyX7 tyX7_ok nmX7 hown F S q_k119 (by decide) rfl (by decide) (by decide) rfl (by decide +kernel) rfl (by decide +kernel) dX1_consider_15 (fun H locs μ2 eμ2 S => ?_)
  have h := q_le_e h eμ2
  refine lv_aload_n hx hb dX1_consider_18 rfl (lv_at hl 0 rfl) ?_
  refine q_getr (own := RX1) (C := RX1) (T := TX1) (N := 15) (ci := 1) (j := 3)  (b := 119) hx hb hts i1 hown F S q_k2 (by decide) rfl (by decide) (by decide) rfl (by decide) (hts (.fieldLink RX1 22 "HeavyRoutes$Finder" "trial" "LHeavyRoutes$Way;") (by decide +kernel)) dX1_consider_19 ?_
  refine lv_iload_n hx hb dX1_consider_22 rfl (lv_at hl 1 rfl) ?_
  refine q_putiN (own := RX1) (C := RX7) (T := TX7) (N := 6) (ci := 7) (j := 3) (host := "HeavyRoutes") hx hb hts i7 tyX7 tyX7_ok nmX7 hown F S q_k119 (by decide) rfl (by decide) (by decide) rfl (by decide +kernel) rfl (by decide +kernel) dX1_consider_23 (fun H locs μ3 eμ3 S => ?_)
  have h := q_le_e h eμ3
  refine lv_aload_n hx hb dX1_consider_26 rfl (lv_at hl 0 rfl) ?_
  refine q_getr (own := RX1) (C := RX1) (T := TX1) (N := 15) (ci := 1) (j := 3)  (b := 119) hx hb hts i1 hown F S q_k2 (by decide) rfl (by decide) (by decide) rfl (by decide) (hts (.fieldLink RX1 22 "HeavyRoutes$Finder" "trial" "LHeavyRoutes$Way;") (by decide +kernel)) dX1_consider_27 ?_
  refine lv_aload_n hx hb dX1_consider_30 rfl (lv_at hl 0 rfl) ?_
  refine q_getr (own := RX1) (C := RX1) (T := TX1) (N := 15) (ci := 1) (j := 0)  (b := 1) hx hb hts i1 hown F S q_k2 (by decide) rfl (by decide) (by decide) rfl (by decide) (hts (.fieldLink RX1 28 "HeavyRoutes$Finder" "net" "LHeavyRoutes$Net;") (by decide +kernel)) dX1_consider_31 ?_
  refine lv_aload_n hx hb dX1_consider_34 rfl (lv_at hl 0 rfl) ?_
  refine q_getr (own := RX1) (C := RX1) (T := TX1) (N := 15) (ci := 1) (j := 3)  (b := 119) hx hb hts i1 hown F S q_k2 (by decide) rfl (by decide) (by decide) rfl (by decide) (hts (.fieldLink RX1 22 "HeavyRoutes$Finder" "trial" "LHeavyRoutes$Way;") (by decide +kernel)) dX1_consider_35 ?_
  obtain ⟨r6, μ4, hc5, h⟩ := q_bd_some h
  refine q_ki F S (q_runV (As := [.ref (E.2.2.2 119)]) (rest := [.ref (E.2.2.2 119)]) (b := 1) ⟨hx, hb, hml, hown, hts⟩ F S (c_X3_bridgesOn l E hE 119 q_k119 μ3 μ4 r6 hc5) (cwV 1 hts gX1_consider_X3_bridgesOn rfl rfl rfl (by decide +kernel) ⟨Nat.le_of_ble_eq_true rfl, Nat.le_of_ble_eq_true rfl⟩) q_k1 (by decide) rfl rfl hl.1 rfl (Nat.le_of_ble_eq_true rfl) dX1_consider_38 ⟨Nat.zero_le _, Nat.zero_le _⟩) (fun H locs S => ?_)
  refine q_putiN (own := RX1) (C := RX7) (T := TX7) (N := 6) (ci := 7) (j := 4) (host := "HeavyRoutes") hx hb hts i7 tyX7 tyX7_ok nmX7 hown F S q_k119 (by decide) rfl (by decide) (by decide) rfl (by decide +kernel) rfl (by decide +kernel) dX1_consider_41 (fun H locs μ7 eμ7 S => ?_)
  have h := q_le_e h eμ7
  refine lv_aload_n hx hb dX1_consider_44 rfl (lv_at hl 0 rfl) ?_
  refine q_getr (own := RX1) (C := RX1) (T := TX1) (N := 15) (ci := 1) (j := 3)  (b := 119) hx hb hts i1 hown F S q_k2 (by decide) rfl (by decide) (by decide) rfl (by decide) (hts (.fieldLink RX1 22 "HeavyRoutes$Finder" "trial" "LHeavyRoutes$Way;") (by decide +kernel)) dX1_consider_45 ?_
  obtain ⟨u8, μ8, hc9, h⟩ := q_bd_some h
  refine q_kv F S (q_runV (As := []) (rest := []) (b := 119) ⟨hx, hb, hml, hown, hts⟩ F S (c_X7_collectRoads l E hE 119 q_k119 μ7 μ8 u8 hc9) (cwV 0 hts gX1_consider_X7_collectRoads rfl rfl rfl (by decide +kernel) ⟨Nat.le_of_ble_eq_true rfl, Nat.le_of_ble_eq_true rfl⟩) q_k119 (by decide) rfl rfl hl.1 rfl (Nat.le_of_ble_eq_true rfl) dX1_consider_48 ⟨Nat.zero_le _, Nat.zero_le _⟩) (fun H locs S => ?_)
  refine lv_aload_n hx hb dX1_consider_51 rfl (lv_at hl 0 rfl) ?_
  obtain ⟨r12, μ10, hc11, h⟩ := q_bd_some h
  refine q_ki F S (q_runV (As := []) (rest := []) (b := 2) ⟨hx, hb, hml, hown, hts⟩ F S (c_X1_isAllowed l E hE  μ8 μ10 r12 hc11) (cwV 0 hts gX1_consider_X1_isAllowed rfl rfl rfl (by decide +kernel) ⟨Nat.le_of_ble_eq_true rfl, Nat.le_of_ble_eq_true rfl⟩) q_k2 (by decide) rfl rfl hl.1 rfl (Nat.le_of_ble_eq_true rfl) dX1_consider_52 ⟨Nat.zero_le _, Nat.zero_le _⟩) (fun H locs S => ?_)
  refine lv_if_eq (tgt := 95) hx hb dX1_consider_55 (by decide) (fun c13 => ?_) (fun c13 => ?_)
  · have h := q_ip c13 h
    exact q_vret hx hb hr S h hlk dX1_consider_95
  · have h := q_ig c13 h
    refine lv_aload_n hx hb dX1_consider_58 rfl (lv_at hl 0 rfl) ?_
    refine q_geti (own := RX1) (C := RX1) (T := TX1) (N := 15) (ci := 1) (j := 14)  hx hb hts i1 hown F S q_k2 (by decide) rfl (by decide) (by decide) rfl (hts (.fieldLink RX1 58 "HeavyRoutes$Finder" "hasBest" "Z") (by decide +kernel)) dX1_consider_59 ?_
    refine lv_if_eq (tgt := 79) hx hb dX1_consider_62 (by decide) (fun c14 => ?_) (fun c14 => ?_)
    · have h := q_ip c14 h
      exact hJ79 μ10 H locs ls S (lv_sub hl [0] rfl) h
    · have h := q_ig c14 h
      refine lv_aload_n hx hb dX1_consider_65 rfl (lv_at hl 0 rfl) ?_
      refine q_getr (own := RX1) (C := RX1) (T := TX1) (N := 15) (ci := 1) (j := 3)  (b := 119) hx hb hts i1 hown F S q_k2 (by decide) rfl (by decide) (by decide) rfl (by decide) (hts (.fieldLink RX1 22 "HeavyRoutes$Finder" "trial" "LHeavyRoutes$Way;") (by decide +kernel)) dX1_consider_66 ?_
      refine lv_aload_n hx hb dX1_consider_69 rfl (lv_at hl 0 rfl) ?_
      refine q_getr (own := RX1) (C := RX1) (T := TX1) (N := 15) (ci := 1) (j := 4)  (b := 120) hx hb hts i1 hown F S q_k2 (by decide) rfl (by decide) (by decide) rfl (by decide) (hts (.fieldLink RX1 25 "HeavyRoutes$Finder" "best" "LHeavyRoutes$Way;") (by decide +kernel)) dX1_consider_70 ?_
      obtain ⟨r20, μ18, hc19, h⟩ := q_bd_some h
      refine q_ki F S (q_runV (As := [.ref (E.2.2.2 120)]) (rest := []) (b := 119) ⟨hx, hb, hml, hown, hts⟩ F S (c_X7_isBetterThan l E hE 119 120 q_k119 q_k120 μ10 μ18 r20 hc19) (cwV 1 hts gX1_consider_X7_isBetterThan rfl rfl rfl (by decide +kernel) ⟨Nat.le_of_ble_eq_true rfl, Nat.le_of_ble_eq_true rfl⟩) q_k119 (by decide) rfl rfl hl.1 rfl (Nat.le_of_ble_eq_true rfl) dX1_consider_73 ⟨Nat.zero_le _, Nat.zero_le _⟩) (fun H locs S => ?_)
      refine lv_if_eq (tgt := 95) hx hb dX1_consider_76 (by decide) (fun c21 => ?_) (fun c21 => ?_)
      · have h := q_ip c21 h
        exact q_vret hx hb hr S h hlk dX1_consider_95
      · have h := q_ig c21 h
        exact hJ79 μ18 H locs ls S (lv_sub hl [0] rfl) h
def f_X1_canTake (x1 : Int32) (x2 : Int32) (x3 : Int32) (μ : q_M) : Option (Int32 × q_M) := q_gd (q_ix x1 12) (q_bd (f_X6_nodeAcross (14 + x1.toNatClampNeg) x2 μ) (fun r4 μ2 => (if r4 = (-1) then some (0, μ2) else (if (((μ2.1 2 12) >>> (r4 &&& 31)) &&& 1) = 1 then some (0, μ2) else (if (((μ2.1 2 11) >>> (x1 &&& 31)) &&& 1) = 0 then some (0, μ2) else (if x3 = 0 then some (1, μ2) else q_gd (q_ix (x3 - 1) 6) (q_gd (q_ix (μ2.1 (119 + 8) (x3 - 1).toNatClampNeg) 12) (q_bd (f_X6_isTurnBlocked (14 + (μ2.1 (119 + 8) (x3 - 1).toNatClampNeg).toNatClampNeg) x1 μ2) (fun r13 μ11 => (if r13 = 0 then some (1, μ11) else some (0, μ11)))))))))))
set_option maxHeartbeats 4000000 in
set_option maxRecDepth 100000 in
theorem c_X1_canTake (l : Launch) (E : q_E) (hE : q_I E) (x1 : Int32) (x2 : Int32) (x3 : Int32) (μ μr : q_M) (r : Int32) (h : f_X1_canTake x1 x2 x3 μ = some (r, μr)) : Met l yX1_canTake wsX1_canTake ({ frames := 1, cells := 0, slots := 0, locals := 21 }) (q_Pc E μ [.ref (E.2.2.2 2), .int x1, .int x2, .int x3]) (q_Qi E r μr) 0 0 (q_A E) := by
  refine q_met (cc := cX1_canTake) (maxL := 5) (ret := (some .boolean)) hE (by decide) rfl (Nat.le_of_ble_eq_true rfl) ?_
  intro p e s m below meth c hx hb hr hml hown hts hlk F S ls hl
  have hl : lv_has ls 5 [(0, .ref (E.2.2.2 2)), (1, .int x1), (2, .int x2), (3, .int x3)] := hl
  have i1 : ∀ w ∈ u_ws RX1 TX1 15, w ∈ wsX1_canTake := by decide +kernel
  have i3 : ∀ w ∈ u_ws RX3 TX3 7, w ∈ wsX1_canTake := by decide +kernel
  have i7 : ∀ w ∈ u_ws RX7 TX7 6, w ∈ wsX1_canTake := by decide +kernel
  unfold f_X1_canTake at h
  obtain ⟨H, eH⟩ : ∃ z, z = s.heap := ⟨_, rfl⟩
  obtain ⟨locs, eL⟩ : ∃ z : List Loc, z = [] := ⟨_, rfl⟩
  rw [← eH, ← eL] at S
  suffices hh : W p l e ({ frames := 1, cells := 0, slots := 0, locals := 21 }) s m ([.ref (E.2.2.2 2), .int x1, .int x2, .int x3] : List Value).toArray below meth c H locs 0 0 (MQ below (q_Qi E r μr) ([.ref (E.2.2.2 2), .int x1, .int x2, .int x3] : List Value).toArray s 0 0 (q_A E)) (F0 m 0 ls []) by rw [eH, eL] at hh; exact hh
  refine lv_aload_n hx hb dX1_canTake_0 rfl (lv_at hl 0 rfl) ?_
  refine q_getr (own := RX1) (C := RX1) (T := TX1) (N := 15) (ci := 1) (j := 0)  (b := 1) hx hb hts i1 hown F S q_k2 (by decide) rfl (by decide) (by decide) rfl (by decide) (hts (.fieldLink RX1 28 "HeavyRoutes$Finder" "net" "LHeavyRoutes$Net;") (by decide +kernel)) dX1_canTake_1 ?_
  refine q_getrN (own := RX1) (C := RX3) (T := TX3) (N := 7) (ci := 3) (j := 3) (host := "HeavyRoutes") (b := 6) hx hb hts i3 hown F S q_k1 (by decide) rfl (by decide) (by decide) rfl (by decide) (by decide +kernel) dX1_canTake_4 ?_
  refine lv_iload_n hx hb dX1_canTake_7 rfl (lv_at hl 1 rfl) ?_
  obtain ⟨g1, h⟩ := q_gd_some h
  refine q_rald (t := 0) hx hb F S q_k6 (by decide) rfl q_n6 (q_pe14 x1.toNatClampNeg) g1 dX1_canTake_8 ?_
  refine lv_iload_n hx hb dX1_canTake_9 rfl (lv_at hl 2 rfl) ?_
  obtain ⟨r4, μ2, hc3, h⟩ := q_bd_some h
  refine q_ki F S (q_runV (As := [.int x2]) (rest := []) (b := (14 + x1.toNatClampNeg)) ⟨hx, hb, hml, hown, hts⟩ F S (c_X6_nodeAcross l E hE (14 + x1.toNatClampNeg) x2 (q_e14 g1) μ μ2 r4 hc3) (cwV 1 hts gX1_canTake_X6_nodeAcross rfl rfl rfl (by decide +kernel) ⟨Nat.le_of_ble_eq_true rfl, Nat.le_of_ble_eq_true rfl⟩) (q_e14 g1) (by decide) rfl rfl hl.1 rfl (Nat.le_of_ble_eq_true rfl) dX1_canTake_10 ⟨Nat.zero_le _, Nat.zero_le _⟩) (fun H locs S => ?_)
  refine lv_istore (lv' := [(4, .int r4), (0, .ref (E.2.2.2 2)), (1, .int x1), (2, .int x2), (3, .int x3)]) hx hb dX1_canTake_13 hl (by decide) rfl (fun ls hl => ?_)
  refine lv_iload hx hb dX1_canTake_15 (lv_at hl 0 rfl) ?_
  refine lv_iconst (v := (-1)) hx hb dX1_canTake_17 (by decide) ?_
  refine lv_icmp_eq (tgt := 45) hx hb dX1_canTake_18 (by decide) (fun c5 => ?_) (fun c5 => ?_)
  · have h := q_ip c5 h
    refine lv_iconst (v := 0) hx hb dX1_canTake_45 (by decide) ?_
    exact q_zret hx hb hr S (by decide) h hlk dX1_canTake_46
  · have h := q_ig c5 h
    refine lv_aload_n hx hb dX1_canTake_21 rfl (lv_at hl 1 rfl) ?_
    refine q_geti (own := RX1) (C := RX1) (T := TX1) (N := 15) (ci := 1) (j := 12)  hx hb hts i1 hown F S q_k2 (by decide) rfl (by decide) (by decide) rfl (hts (.fieldLink RX1 77 "HeavyRoutes$Finder" "visited" "I") (by decide +kernel)) dX1_canTake_22 ?_
    refine lv_iload hx hb dX1_canTake_25 (lv_at hl 0 rfl) ?_
    refine lv_ishr hx hb dX1_canTake_27 ?_
    refine lv_iconst (v := 1) hx hb dX1_canTake_28 (by decide) ?_
    refine lv_iand hx hb dX1_canTake_29 ?_
    refine lv_iconst (v := 1) hx hb dX1_canTake_30 (by decide) ?_
    refine lv_icmp_eq (tgt := 45) hx hb dX1_canTake_31 (by decide) (fun c6 => ?_) (fun c6 => ?_)
    · have h := q_ip c6 h
      refine lv_iconst (v := 0) hx hb dX1_canTake_45 (by decide) ?_
      exact q_zret hx hb hr S (by decide) h hlk dX1_canTake_46
    · have h := q_ig c6 h
      refine lv_aload_n hx hb dX1_canTake_34 rfl (lv_at hl 1 rfl) ?_
      refine q_geti (own := RX1) (C := RX1) (T := TX1) (N := 15) (ci := 1) (j := 11)  hx hb hts i1 hown F S q_k2 (by decide) rfl (by decide) (by decide) rfl (hts (.fieldLink RX1 74 "HeavyRoutes$Finder" "usable" "I") (by decide +kernel)) dX1_canTake_35 ?_
      refine lv_iload_n hx hb dX1_canTake_38 rfl (lv_at hl 2 rfl) ?_
      refine lv_ishr hx hb dX1_canTake_39 ?_
      refine lv_iconst (v := 1) hx hb dX1_canTake_40 (by decide) ?_
      refine lv_iand hx hb dX1_canTake_41 ?_
      refine lv_if_ne (tgt := 47) hx hb dX1_canTake_42 (by decide) (fun c7 => ?_) (fun c7 => ?_)
      · have h := q_ig c7 h
        refine lv_iload_n hx hb dX1_canTake_47 rfl (lv_at hl 4 rfl) ?_
        refine lv_if_eq (tgt := 77) hx hb dX1_canTake_48 (by decide) (fun c8 => ?_) (fun c8 => ?_)
        · have h := q_ip c8 h
          refine lv_iconst (v := 1) hx hb dX1_canTake_77 (by decide) ?_
          refine lv_goto (tgt := 82) hx hb dX1_canTake_78 (by decide) ?_
          exact q_zret hx hb hr S (by decide) h hlk dX1_canTake_82
        · have h := q_ig c8 h
          refine lv_aload_n hx hb dX1_canTake_51 rfl (lv_at hl 1 rfl) ?_
          refine q_getr (own := RX1) (C := RX1) (T := TX1) (N := 15) (ci := 1) (j := 0)  (b := 1) hx hb hts i1 hown F S q_k2 (by decide) rfl (by decide) (by decide) rfl (by decide) (hts (.fieldLink RX1 28 "HeavyRoutes$Finder" "net" "LHeavyRoutes$Net;") (by decide +kernel)) dX1_canTake_52 ?_
          refine q_getrN (own := RX1) (C := RX3) (T := TX3) (N := 7) (ci := 3) (j := 3) (host := "HeavyRoutes") (b := 6) hx hb hts i3 hown F S q_k1 (by decide) rfl (by decide) (by decide) rfl (by decide) (by decide +kernel) dX1_canTake_55 ?_
          refine lv_aload_n hx hb dX1_canTake_58 rfl (lv_at hl 1 rfl) ?_
          refine q_getr (own := RX1) (C := RX1) (T := TX1) (N := 15) (ci := 1) (j := 3)  (b := 119) hx hb hts i1 hown F S q_k2 (by decide) rfl (by decide) (by decide) rfl (by decide) (hts (.fieldLink RX1 22 "HeavyRoutes$Finder" "trial" "LHeavyRoutes$Way;") (by decide +kernel)) dX1_canTake_59 ?_
          refine q_getrN (own := RX1) (C := RX7) (T := TX7) (N := 6) (ci := 7) (j := 0) (host := "HeavyRoutes") hx hb hts i7 hown F S q_k119 (by decide) rfl (by decide) (by decide) rfl (q_p_7_0 q_k119) (by decide +kernel) dX1_canTake_62 ?_
          refine lv_iload_n hx hb dX1_canTake_65 rfl (lv_at hl 4 rfl) ?_
          refine lv_iconst (v := 1) hx hb dX1_canTake_66 (by decide) ?_
          refine lv_isub hx hb dX1_canTake_67 ?_
          obtain ⟨g9, h⟩ := q_gd_some h
          refine q_iald hx hb F S (q_k_7_0 q_k119) (q_n_7_0 q_k119) g9 dX1_canTake_68 ?_
          obtain ⟨g10, h⟩ := q_gd_some h
          refine q_rald (t := 0) hx hb F S q_k6 (by decide) rfl q_n6 (q_pe14 (μ2.1 (119 + 8) (x3 - 1).toNatClampNeg).toNatClampNeg) g10 dX1_canTake_69 ?_
          refine lv_iload_n hx hb dX1_canTake_70 rfl (lv_at hl 2 rfl) ?_
          obtain ⟨r13, μ11, hc12, h⟩ := q_bd_some h
          refine q_ki F S (q_runV (As := [.int x1]) (rest := []) (b := (14 + (μ2.1 (119 + 8) (x3 - 1).toNatClampNeg).toNatClampNeg)) ⟨hx, hb, hml, hown, hts⟩ F S (c_X6_isTurnBlocked l E hE (14 + (μ2.1 (119 + 8) (x3 - 1).toNatClampNeg).toNatClampNeg) x1 (q_e14 g10) μ2 μ11 r13 hc12) (cwV 1 hts gX1_canTake_X6_isTurnBlocked rfl rfl rfl (by decide +kernel) ⟨Nat.le_of_ble_eq_true rfl, Nat.le_of_ble_eq_true rfl⟩) (q_e14 g10) (by decide) rfl rfl hl.1 rfl (Nat.le_of_ble_eq_true rfl) dX1_canTake_71 ⟨Nat.zero_le _, Nat.zero_le _⟩) (fun H locs S => ?_)
          refine lv_if_ne (tgt := 81) hx hb dX1_canTake_74 (by decide) (fun c14 => ?_) (fun c14 => ?_)
          · have h := q_ig c14 h
            refine lv_iconst (v := 0) hx hb dX1_canTake_81 (by decide) ?_
            exact q_zret hx hb hr S (by decide) h hlk dX1_canTake_82
          · have h := q_ip c14 h
            refine lv_iconst (v := 1) hx hb dX1_canTake_77 (by decide) ?_
            refine lv_goto (tgt := 82) hx hb dX1_canTake_78 (by decide) ?_
            exact q_zret hx hb hr S (by decide) h hlk dX1_canTake_82
      · have h := q_ip c7 h
        refine lv_iconst (v := 0) hx hb dX1_canTake_45 (by decide) ?_
        exact q_zret hx hb hr S (by decide) h hlk dX1_canTake_46
def f_X1_take (fG : Int32 → Int32 → Int32 → q_M → Option (Unit × q_M)) (x1 : Int32) (x2 : Int32) (x3 : Int32) (x4 : Int32) (μ : q_M) : Option (Unit × q_M) := q_gd (q_ix x1 12) (q_bd (f_X6_nodeAcross (14 + x1.toNatClampNeg) x2 μ) (fun r4 μ2 => q_bd (f_X6_earliestStart (14 + x1.toNatClampNeg) x3 μ2) (fun r7 μ5 => q_gd (q_ix x4 6) (q_le (q_si μ5 (119 + 8) x4.toNatClampNeg x1) (fun μ9 => q_le (q_si μ9 (119 + 16) x4.toNatClampNeg r7) (fun μ10 => q_le (q_si μ10 2 12 ((μ10.1 2 12) ||| (1 <<< (r4 &&& 31)))) (fun μ11 => q_bd (f_X3_endOfRoad x1 r7 μ11) (fun r14 μ12 => q_bd (fG r4 r14 (x4 + 1) μ12) (fun u15 μ15 => q_le (q_si μ15 2 12 ((μ15.1 2 12) &&& ((1 <<< (r4 &&& 31)) ^^^ (-1)))) (fun μ17 => some ((), μ17)))))))))))
set_option maxHeartbeats 4000000 in
set_option maxRecDepth 100000 in
theorem c_X1_take (l : Launch) (E : q_E) (hE : q_I E) (qa qb : Nat) (fG : Int32 → Int32 → Int32 → q_M → Option (Unit × q_M)) (hfG : ∀ (x1 x2 x3 : Int32) (μ μr : q_M) (r : Unit), fG x1 x2 x3 μ = some (r, μr) → Met l yX1_goOn wsX1_goOn ({ frames := qa, cells := 0, slots := 0, locals := qb }) (q_Pc E μ [.ref (E.2.2.2 2), .int x1, .int x2, .int x3]) (q_Qv E r μr) 0 0 (q_A E)) (x1 : Int32) (x2 : Int32) (x3 : Int32) (x4 : Int32) (μ μr : q_M) (r : Unit) (h : f_X1_take fG x1 x2 x3 x4 μ = some (r, μr)) : Met l yX1_take wsX1_take ({ frames := qa + 4, cells := 0, slots := 0, locals := qb + 160 }) (q_Pc E μ [.ref (E.2.2.2 2), .int x1, .int x2, .int x3, .int x4]) (q_Qv E r μr) 0 0 (q_A E) := by
  refine q_met (cc := cX1_take) (maxL := 7) (ret := none) hE (by decide) rfl (Nat.le_of_ble_eq_true rfl) ?_
  intro p e s m below meth c hx hb hr hml hown hts hlk F S ls hl
  have hl : lv_has ls 7 [(0, .ref (E.2.2.2 2)), (1, .int x1), (2, .int x2), (3, .int x3), (4, .int x4)] := hl
  have i1 : ∀ w ∈ u_ws RX1 TX1 15, w ∈ wsX1_take := by decide +kernel
  have i3 : ∀ w ∈ u_ws RX3 TX3 7, w ∈ wsX1_take := by decide +kernel
  have i7 : ∀ w ∈ u_ws RX7 TX7 6, w ∈ wsX1_take := by decide +kernel
  unfold f_X1_take at h
  obtain ⟨H, eH⟩ : ∃ z, z = s.heap := ⟨_, rfl⟩
  obtain ⟨locs, eL⟩ : ∃ z : List Loc, z = [] := ⟨_, rfl⟩
  rw [← eH, ← eL] at S
  suffices hh : W p l e ({ frames := qa + 4, cells := 0, slots := 0, locals := qb + 160 }) s m ([.ref (E.2.2.2 2), .int x1, .int x2, .int x3, .int x4] : List Value).toArray below meth c H locs 0 0 (MQ below (q_Qv E r μr) ([.ref (E.2.2.2 2), .int x1, .int x2, .int x3, .int x4] : List Value).toArray s 0 0 (q_A E)) (F0 m 0 ls []) by rw [eH, eL] at hh; exact hh
  refine lv_aload_n hx hb dX1_take_0 rfl (lv_at hl 0 rfl) ?_
  refine q_getr (own := RX1) (C := RX1) (T := TX1) (N := 15) (ci := 1) (j := 0)  (b := 1) hx hb hts i1 hown F S q_k2 (by decide) rfl (by decide) (by decide) rfl (by decide) (hts (.fieldLink RX1 28 "HeavyRoutes$Finder" "net" "LHeavyRoutes$Net;") (by decide +kernel)) dX1_take_1 ?_
  refine q_getrN (own := RX1) (C := RX3) (T := TX3) (N := 7) (ci := 3) (j := 3) (host := "HeavyRoutes") (b := 6) hx hb hts i3 hown F S q_k1 (by decide) rfl (by decide) (by decide) rfl (by decide) (by decide +kernel) dX1_take_4 ?_
  refine lv_iload_n hx hb dX1_take_7 rfl (lv_at hl 1 rfl) ?_
  obtain ⟨g1, h⟩ := q_gd_some h
  refine q_rald (t := 0) hx hb F S q_k6 (by decide) rfl q_n6 (q_pe14 x1.toNatClampNeg) g1 dX1_take_8 ?_
  refine lv_iload_n hx hb dX1_take_9 rfl (lv_at hl 2 rfl) ?_
  obtain ⟨r4, μ2, hc3, h⟩ := q_bd_some h
  refine q_ki F S (q_runV (As := [.int x2]) (rest := []) (b := (14 + x1.toNatClampNeg)) ⟨hx, hb, hml, hown, hts⟩ F S (c_X6_nodeAcross l E hE (14 + x1.toNatClampNeg) x2 (q_e14 g1) μ μ2 r4 hc3) (cwV 1 hts gX1_take_X6_nodeAcross rfl rfl rfl (by decide +kernel) ⟨by show 0 + 1 ≤ qa + 4; omega, by show 8 + (2 + 11) + 0 ≤ qb + 160; omega⟩) (q_e14 g1) (by decide) rfl rfl hl.1 rfl (Nat.le_of_ble_eq_true rfl) dX1_take_10 ⟨Nat.zero_le _, Nat.zero_le _⟩) (fun H locs S => ?_)
  refine lv_istore (lv' := [(5, .int r4), (0, .ref (E.2.2.2 2)), (1, .int x1), (2, .int x2), (3, .int x3), (4, .int x4)]) hx hb dX1_take_13 hl (by decide) rfl (fun ls hl => ?_)
  refine lv_aload_n hx hb dX1_take_15 rfl (lv_at hl 1 rfl) ?_
  refine q_getr (own := RX1) (C := RX1) (T := TX1) (N := 15) (ci := 1) (j := 0)  (b := 1) hx hb hts i1 hown F S q_k2 (by decide) rfl (by decide) (by decide) rfl (by decide) (hts (.fieldLink RX1 28 "HeavyRoutes$Finder" "net" "LHeavyRoutes$Net;") (by decide +kernel)) dX1_take_16 ?_
  refine q_getrN (own := RX1) (C := RX3) (T := TX3) (N := 7) (ci := 3) (j := 3) (host := "HeavyRoutes") (b := 6) hx hb hts i3 hown F S q_k1 (by decide) rfl (by decide) (by decide) rfl (by decide) (by decide +kernel) dX1_take_19 ?_
  refine lv_iload_n hx hb dX1_take_22 rfl (lv_at hl 2 rfl) ?_
  refine q_rald (t := 0) hx hb F S q_k6 (by decide) rfl q_n6 (q_pe14 x1.toNatClampNeg) g1 dX1_take_23 ?_
  refine lv_iload_n hx hb dX1_take_24 rfl (lv_at hl 4 rfl) ?_
  obtain ⟨r7, μ5, hc6, h⟩ := q_bd_some h
  refine q_ki F S (q_runV (As := [.int x3]) (rest := []) (b := (14 + x1.toNatClampNeg)) ⟨hx, hb, hml, hown, hts⟩ F S (c_X6_earliestStart l E hE (14 + x1.toNatClampNeg) x3 (q_e14 g1) μ2 μ5 r7 hc6) (cwV 1 hts gX1_take_X6_earliestStart rfl rfl rfl (by decide +kernel) ⟨by show 2 + 1 ≤ qa + 4; omega, by show 8 + (5 + 11) + 65 ≤ qb + 160; omega⟩) (q_e14 g1) (by decide) rfl rfl hl.1 rfl (Nat.le_of_ble_eq_true rfl) dX1_take_25 ⟨Nat.zero_le _, Nat.zero_le _⟩) (fun H locs S => ?_)
  refine lv_istore (lv' := [(6, .int r7), (5, .int r4), (0, .ref (E.2.2.2 2)), (1, .int x1), (2, .int x2), (3, .int x3), (4, .int x4)]) hx hb dX1_take_28 hl (by decide) rfl (fun ls hl => ?_)
  refine lv_aload_n hx hb dX1_take_30 rfl (lv_at hl 2 rfl) ?_
  refine q_getr (own := RX1) (C := RX1) (T := TX1) (N := 15) (ci := 1) (j := 3)  (b := 119) hx hb hts i1 hown F S q_k2 (by decide) rfl (by decide) (by decide) rfl (by decide) (hts (.fieldLink RX1 22 "HeavyRoutes$Finder" "trial" "LHeavyRoutes$Way;") (by decide +kernel)) dX1_take_31 ?_
  refine q_getrN (own := RX1) (C := RX7) (T := TX7) (N := 6) (ci := 7) (j := 0) (host := "HeavyRoutes") hx hb hts i7 hown F S q_k119 (by decide) rfl (by decide) (by decide) rfl (q_p_7_0 q_k119) (by decide +kernel) dX1_take_34 ?_
  refine lv_iload hx hb dX1_take_37 (lv_at hl 6 rfl) ?_
  refine lv_iload_n hx hb dX1_take_39 rfl (lv_at hl 3 rfl) ?_
  obtain ⟨g8, h⟩ := q_gd_some h
  refine q_iast hx hb F S (q_k_7_0 q_k119) (q_n_7_0 q_k119) g8 dX1_take_40 (fun H locs μ9 eμ9 S => ?_)
  have h := q_le_e h eμ9
  refine lv_aload_n hx hb dX1_take_41 rfl (lv_at hl 2 rfl) ?_
  refine q_getr (own := RX1) (C := RX1) (T := TX1) (N := 15) (ci := 1) (j := 3)  (b := 119) hx hb hts i1 hown F S q_k2 (by decide) rfl (by decide) (by decide) rfl (by decide) (hts (.fieldLink RX1 22 "HeavyRoutes$Finder" "trial" "LHeavyRoutes$Way;") (by decide +kernel)) dX1_take_42 ?_
  refine q_getrN (own := RX1) (C := RX7) (T := TX7) (N := 6) (ci := 7) (j := 1) (host := "HeavyRoutes") hx hb hts i7 hown F S q_k119 (by decide) rfl (by decide) (by decide) rfl (q_p_7_1 q_k119) (by decide +kernel) dX1_take_45 ?_
  refine lv_iload hx hb dX1_take_48 (lv_at hl 6 rfl) ?_
  refine lv_iload hx hb dX1_take_50 (lv_at hl 0 rfl) ?_
  refine q_iast hx hb F S (q_k_7_1 q_k119) (q_n_7_1 q_k119) g8 dX1_take_52 (fun H locs μ10 eμ10 S => ?_)
  have h := q_le_e h eμ10
  refine lv_aload_n hx hb dX1_take_53 rfl (lv_at hl 2 rfl) ?_
  refine lv_dup hx hb dX1_take_54 rfl ?_
  refine q_geti (own := RX1) (C := RX1) (T := TX1) (N := 15) (ci := 1) (j := 12)  hx hb hts i1 hown F S q_k2 (by decide) rfl (by decide) (by decide) rfl (hts (.fieldLink RX1 77 "HeavyRoutes$Finder" "visited" "I") (by decide +kernel)) dX1_take_55 ?_
  refine lv_iconst (v := 1) hx hb dX1_take_58 (by decide) ?_
  refine lv_iload hx hb dX1_take_59 (lv_at hl 1 rfl) ?_
  refine lv_ishl hx hb dX1_take_61 ?_
  refine lv_ior hx hb dX1_take_62 ?_
  refine q_puti (own := RX1) (C := RX1) (T := TX1) (N := 15) (ci := 1) (j := 12)  hx hb hts i1 tyX1 tyX1_ok nmX1 hown F S q_k2 (by decide) rfl (by decide) (by decide) rfl (hts (.fieldLink RX1 77 "HeavyRoutes$Finder" "visited" "I") (by decide +kernel)) rfl (by decide +kernel) dX1_take_63 (fun H locs μ11 eμ11 S => ?_)
  have h := q_le_e h eμ11
  refine lv_aload_n hx hb dX1_take_66 rfl (lv_at hl 2 rfl) ?_
  refine lv_iload hx hb dX1_take_67 (lv_at hl 1 rfl) ?_
  refine lv_aload_n hx hb dX1_take_69 rfl (lv_at hl 2 rfl) ?_
  refine q_getr (own := RX1) (C := RX1) (T := TX1) (N := 15) (ci := 1) (j := 0)  (b := 1) hx hb hts i1 hown F S q_k2 (by decide) rfl (by decide) (by decide) rfl (by decide) (hts (.fieldLink RX1 28 "HeavyRoutes$Finder" "net" "LHeavyRoutes$Net;") (by decide +kernel)) dX1_take_70 ?_
  refine lv_iload_n hx hb dX1_take_73 rfl (lv_at hl 3 rfl) ?_
  refine lv_iload hx hb dX1_take_74 (lv_at hl 0 rfl) ?_
  obtain ⟨r14, μ12, hc13, h⟩ := q_bd_some h
  refine q_ki F S (q_runV (As := [.int x1, .int r7]) (rest := [.int r4, .ref (E.2.2.2 2)]) (b := 1) ⟨hx, hb, hml, hown, hts⟩ F S (c_X3_endOfRoad l E hE x1 r7 μ11 μ12 r14 hc13) (cwV 2 hts gX1_take_X3_endOfRoad rfl rfl rfl (by decide +kernel) ⟨by show 1 + 1 ≤ qa + 4; omega, by show 8 + (5 + 11) + 21 ≤ qb + 160; omega⟩) q_k1 (by decide) rfl rfl hl.1 rfl (Nat.le_of_ble_eq_true rfl) dX1_take_76 ⟨Nat.zero_le _, Nat.zero_le _⟩) (fun H locs S => ?_)
  refine lv_iload hx hb dX1_take_79 (lv_at hl 6 rfl) ?_
  refine lv_iconst (v := 1) hx hb dX1_take_81 (by decide) ?_
  refine lv_iadd hx hb dX1_take_82 ?_
  obtain ⟨u15, μ15, hc16, h⟩ := q_bd_some h
  refine q_kv F S (q_runV (As := [.int r4, .int r14, .int (x4 + 1)]) (rest := []) (b := 2) ⟨hx, hb, hml, hown, hts⟩ F S (hfG r4 r14 (x4 + 1) μ12 μ15 u15 hc16) (cwV 3 hts gX1_take_X1_goOn rfl rfl rfl (by decide +kernel) ⟨by show qa + 1 ≤ qa + 4; omega, by show 8 + (5 + 11) + qb ≤ qb + 160; omega⟩) q_k2 (by decide) rfl rfl hl.1 rfl (Nat.le_of_ble_eq_true rfl) dX1_take_83 ⟨Nat.zero_le _, Nat.zero_le _⟩) (fun H locs S => ?_)
  refine lv_aload_n hx hb dX1_take_86 rfl (lv_at hl 2 rfl) ?_
  refine lv_dup hx hb dX1_take_87 rfl ?_
  refine q_geti (own := RX1) (C := RX1) (T := TX1) (N := 15) (ci := 1) (j := 12)  hx hb hts i1 hown F S q_k2 (by decide) rfl (by decide) (by decide) rfl (hts (.fieldLink RX1 77 "HeavyRoutes$Finder" "visited" "I") (by decide +kernel)) dX1_take_88 ?_
  refine lv_iconst (v := 1) hx hb dX1_take_91 (by decide) ?_
  refine lv_iload hx hb dX1_take_92 (lv_at hl 1 rfl) ?_
  refine lv_ishl hx hb dX1_take_94 ?_
  refine lv_iconst (v := (-1)) hx hb dX1_take_95 (by decide) ?_
  refine lv_ixor hx hb dX1_take_96 ?_
  refine lv_iand hx hb dX1_take_97 ?_
  refine q_puti (own := RX1) (C := RX1) (T := TX1) (N := 15) (ci := 1) (j := 12)  hx hb hts i1 tyX1 tyX1_ok nmX1 hown F S q_k2 (by decide) rfl (by decide) (by decide) rfl (hts (.fieldLink RX1 77 "HeavyRoutes$Finder" "visited" "I") (by decide +kernel)) rfl (by decide +kernel) dX1_take_98 (fun H locs μ17 eμ17 S => ?_)
  have h := q_le_e h eμ17
  exact q_vret hx hb hr S h hlk dX1_take_101
def L_X1_goOn_25 (fT : Int32 → Int32 → Int32 → Int32 → q_M → Option (Unit × q_M)) (x1 : Int32) (x2 : Int32) (x3 : Int32) (Kx : q_M → Option (Unit × q_M)) : Nat → Int32 → q_M → Option (Unit × q_M)
  | 0, _, _ => none
  | n + 1, v4, μ => (if (μ.1 1 1) ≤ v4 then Kx μ else q_bd (f_X1_canTake v4 x1 x3 μ) (fun r6 μ4 => (if r6 = 0 then q_le (v4 + 1 : Int32) (fun y8 => (L_X1_goOn_25 fT x1 x2 x3 Kx n) y8 μ4) else q_bd (fT v4 x1 x2 x3 μ4) (fun u9 μ9 => q_le (v4 + 1 : Int32) (fun y11 => (L_X1_goOn_25 fT x1 x2 x3 Kx n) y11 μ9)))))
def f_X1_goOn (fT : Int32 → Int32 → Int32 → Int32 → q_M → Option (Unit × q_M)) (x1 : Int32) (x2 : Int32) (x3 : Int32) (μ : q_M) : Option (Unit × q_M) := (if x1 = (μ.1 2 8) then q_bd (f_X1_consider x2 x3 μ) (fun u12 μ12 => some ((), μ12)) else (if x3 < 6 then L_X1_goOn_25 fT x1 x2 x3 (fun μ => some ((), μ)) q_fu 0 μ else some ((), μ)))
set_option maxHeartbeats 4000000 in
set_option maxRecDepth 100000 in
theorem c_X1_goOn (l : Launch) (E : q_E) (hE : q_I E) (qa qb : Nat) (fT : Int32 → Int32 → Int32 → Int32 → q_M → Option (Unit × q_M)) (hfT : ∀ (x1 x2 x3 x4 : Int32) (μ μr : q_M) (r : Unit), fT x1 x2 x3 x4 μ = some (r, μr) → Met l yX1_take wsX1_take ({ frames := qa, cells := 0, slots := 0, locals := qb }) (q_Pc E μ [.ref (E.2.2.2 2), .int x1, .int x2, .int x3, .int x4]) (q_Qv E r μr) 0 0 (q_A E)) (x1 : Int32) (x2 : Int32) (x3 : Int32) (μ μr : q_M) (r : Unit) (h : f_X1_goOn fT x1 x2 x3 μ = some (r, μr)) : Met l yX1_goOn wsX1_goOn ({ frames := qa + 3, cells := 0, slots := 0, locals := qb + 120 }) (q_Pc E μ [.ref (E.2.2.2 2), .int x1, .int x2, .int x3]) (q_Qv E r μr) 0 0 (q_A E) := by
  refine q_met (cc := cX1_goOn) (maxL := 5) (ret := none) hE (by decide) rfl (Nat.le_of_ble_eq_true rfl) ?_
  intro p e s m below meth c hx hb hr hml hown hts hlk F S ls hl
  have hl : lv_has ls 5 [(0, .ref (E.2.2.2 2)), (1, .int x1), (2, .int x2), (3, .int x3)] := hl
  have i1 : ∀ w ∈ u_ws RX1 TX1 15, w ∈ wsX1_goOn := by decide +kernel
  have i3 : ∀ w ∈ u_ws RX3 TX3 7, w ∈ wsX1_goOn := by decide +kernel
  have hL25 : ∀ (Kx : q_M → Option (Unit × q_M)), (∀ (μ : q_M) (H : Heap) (locs : List Loc) (ls : Array Slot), q_S E (q_A E) s μ H locs → lv_has ls 5 [] → Kx μ = some (r, μr) → W p l e ({ frames := qa + 3, cells := 0, slots := 0, locals := qb + 120 }) s m ([.ref (E.2.2.2 2), .int x1, .int x2, .int x3] : List Value).toArray below meth c H locs 0 0 (MQ below (q_Qv E r μr) ([.ref (E.2.2.2 2), .int x1, .int x2, .int x3] : List Value).toArray s 0 0 (q_A E)) (F0 m 63 ls [])) → ∀ (n : Nat), ∀ (v4 : Int32), ∀ (μ : q_M) (H : Heap) (locs : List Loc) (ls : Array Slot), q_S E (q_A E) s μ H locs → lv_has ls 5 [(0, .ref (E.2.2.2 2)), (1, .int x1), (2, .int x2), (3, .int x3), (4, .int v4)] → L_X1_goOn_25 fT x1 x2 x3 Kx n v4 μ = some (r, μr) → W p l e ({ frames := qa + 3, cells := 0, slots := 0, locals := qb + 120 }) s m ([.ref (E.2.2.2 2), .int x1, .int x2, .int x3] : List Value).toArray below meth c H locs 0 0 (MQ below (q_Qv E r μr) ([.ref (E.2.2.2 2), .int x1, .int x2, .int x3] : List Value).toArray s 0 0 (q_A E)) (F0 m 25 ls []) := by
    intro Kx hKx n
    induction n with
    | zero => intro v4 μ H locs ls S hl h; exact absurd h (by simp [L_X1_goOn_25])
    | succ n ih =>
      intro v4 μ H locs ls S hl h
      rw [L_X1_goOn_25] at h
      refine lv_iload hx hb dX1_goOn_25 (lv_at hl 4 rfl) ?_
      refine lv_aload_n hx hb dX1_goOn_27 rfl (lv_at hl 0 rfl) ?_
      refine q_getr (own := RX1) (C := RX1) (T := TX1) (N := 15) (ci := 1) (j := 0)  (b := 1) hx hb hts i1 hown F S q_k2 (by decide) rfl (by decide) (by decide) rfl (by decide) (hts (.fieldLink RX1 28 "HeavyRoutes$Finder" "net" "LHeavyRoutes$Net;") (by decide +kernel)) dX1_goOn_28 ?_
      refine q_getiN (own := RX1) (C := RX3) (T := TX3) (N := 7) (ci := 3) (j := 1) (host := "HeavyRoutes") hx hb hts i3 hown F S q_k1 (by decide) rfl (by decide) (by decide) rfl (by decide +kernel) dX1_goOn_31 ?_
      refine lv_icmp_ge (tgt := 63) hx hb dX1_goOn_34 (by decide) (fun c3 => ?_) (fun c3 => ?_)
      · have h := q_ip c3 h
        exact hKx μ H locs ls S (lv_sub hl [] rfl) h
      · have h := q_ig c3 h
        refine lv_aload_n hx hb dX1_goOn_37 rfl (lv_at hl 0 rfl) ?_
        refine lv_iload hx hb dX1_goOn_38 (lv_at hl 4 rfl) ?_
        refine lv_iload_n hx hb dX1_goOn_40 rfl (lv_at hl 1 rfl) ?_
        refine lv_iload_n hx hb dX1_goOn_41 rfl (lv_at hl 3 rfl) ?_
        obtain ⟨r6, μ4, hc5, h⟩ := q_bd_some h
        refine q_ki F S (q_runV (As := [.int v4, .int x1, .int x3]) (rest := []) (b := 2) ⟨hx, hb, hml, hown, hts⟩ F S (c_X1_canTake l E hE v4 x1 x3 μ μ4 r6 hc5) (cwV 3 hts gX1_goOn_X1_canTake rfl rfl rfl (by decide +kernel) ⟨by show 1 + 1 ≤ qa + 3; omega, by show 8 + (5 + 11) + 21 ≤ qb + 120; omega⟩) q_k2 (by decide) rfl rfl hl.1 rfl (Nat.le_of_ble_eq_true rfl) dX1_goOn_42 ⟨Nat.zero_le _, Nat.zero_le _⟩) (fun H locs S => ?_)
        refine lv_if_eq (tgt := 57) hx hb dX1_goOn_45 (by decide) (fun c7 => ?_) (fun c7 => ?_)
        · have h := q_ip c7 h
          obtain ⟨y8, ey8⟩ : ∃ z : Int32, z = v4 + 1 := ⟨_, rfl⟩
          have h := q_le_e h ey8
          refine lv_iinc (v := y8) (lv' := [(4, .int y8), (0, .ref (E.2.2.2 2)), (1, .int x1), (2, .int x2), (3, .int x3)]) hx hb dX1_goOn_57 hl (k := 4) rfl (by rw [ey8]; rfl) (by decide) rfl (fun ls hl => ?_)
          refine lv_goto (tgt := 25) hx hb dX1_goOn_60 (by decide) ?_
          exact ih y8 μ4 H locs ls S (lv_sub hl [1, 2, 3, 4, 0] rfl) h
        · have h := q_ig c7 h
          refine lv_aload_n hx hb dX1_goOn_48 rfl (lv_at hl 0 rfl) ?_
          refine lv_iload hx hb dX1_goOn_49 (lv_at hl 4 rfl) ?_
          refine lv_iload_n hx hb dX1_goOn_51 rfl (lv_at hl 1 rfl) ?_
          refine lv_iload_n hx hb dX1_goOn_52 rfl (lv_at hl 2 rfl) ?_
          refine lv_iload_n hx hb dX1_goOn_53 rfl (lv_at hl 3 rfl) ?_
          obtain ⟨u9, μ9, hc10, h⟩ := q_bd_some h
          refine q_kv F S (q_runV (As := [.int v4, .int x1, .int x2, .int x3]) (rest := []) (b := 2) ⟨hx, hb, hml, hown, hts⟩ F S (hfT v4 x1 x2 x3 μ4 μ9 u9 hc10) (cwV 4 hts gX1_goOn_X1_take rfl rfl rfl (by decide +kernel) ⟨by show qa + 1 ≤ qa + 3; omega, by show 8 + (7 + 11) + qb ≤ qb + 120; omega⟩) q_k2 (by decide) rfl rfl hl.1 rfl (Nat.le_of_ble_eq_true rfl) dX1_goOn_54 ⟨Nat.zero_le _, Nat.zero_le _⟩) (fun H locs S => ?_)
          obtain ⟨y11, ey11⟩ : ∃ z : Int32, z = v4 + 1 := ⟨_, rfl⟩
          have h := q_le_e h ey11
          refine lv_iinc (v := y11) (lv' := [(4, .int y11), (0, .ref (E.2.2.2 2)), (1, .int x1), (2, .int x2), (3, .int x3)]) hx hb dX1_goOn_57 hl (k := 4) rfl (by rw [ey11]; rfl) (by decide) rfl (fun ls hl => ?_)
          refine lv_goto (tgt := 25) hx hb dX1_goOn_60 (by decide) ?_
          exact ih y11 μ9 H locs ls S (lv_sub hl [1, 2, 3, 4, 0] rfl) h
  unfold f_X1_goOn at h
  obtain ⟨H, eH⟩ : ∃ z, z = s.heap := ⟨_, rfl⟩
  obtain ⟨locs, eL⟩ : ∃ z : List Loc, z = [] := ⟨_, rfl⟩
  rw [← eH, ← eL] at S
  suffices hh : W p l e ({ frames := qa + 3, cells := 0, slots := 0, locals := qb + 120 }) s m ([.ref (E.2.2.2 2), .int x1, .int x2, .int x3] : List Value).toArray below meth c H locs 0 0 (MQ below (q_Qv E r μr) ([.ref (E.2.2.2 2), .int x1, .int x2, .int x3] : List Value).toArray s 0 0 (q_A E)) (F0 m 0 ls []) by rw [eH, eL] at hh; exact hh
  refine lv_iload_n hx hb dX1_goOn_0 rfl (lv_at hl 1 rfl) ?_
  refine lv_aload_n hx hb dX1_goOn_1 rfl (lv_at hl 0 rfl) ?_
  refine q_geti (own := RX1) (C := RX1) (T := TX1) (N := 15) (ci := 1) (j := 8)  hx hb hts i1 hown F S q_k2 (by decide) rfl (by decide) (by decide) rfl (hts (.fieldLink RX1 46 "HeavyRoutes$Finder" "to" "I") (by decide +kernel)) dX1_goOn_2 ?_
  refine lv_icmp_ne (tgt := 15) hx hb dX1_goOn_5 (by decide) (fun c1 => ?_) (fun c1 => ?_)
  · have h := q_ig c1 h
    refine lv_iload_n hx hb dX1_goOn_15 rfl (lv_at hl 3 rfl) ?_
    refine lv_bipush (v := 6) hx hb dX1_goOn_16 (by decide) ?_
    refine lv_icmp_lt (tgt := 22) hx hb dX1_goOn_18 (by decide) (fun c2 => ?_) (fun c2 => ?_)
    · have h := q_ip c2 h
      refine lv_iconst (v := 0) hx hb dX1_goOn_22 (by decide) ?_
      refine lv_istore (lv' := [(4, .int 0), (0, .ref (E.2.2.2 2)), (1, .int x1), (2, .int x2), (3, .int x3)]) hx hb dX1_goOn_23 hl (by decide) rfl (fun ls hl => ?_)
      refine hL25 _ (fun μ H locs ls S hl h => ?_) q_fu 0 μ H locs ls S (lv_sub hl [1, 2, 3, 4, 0] rfl) h
      exact q_vret hx hb hr S h hlk dX1_goOn_63
    · have h := q_ig c2 h
      exact q_vret hx hb hr S h hlk dX1_goOn_21
  · have h := q_ip c1 h
    refine lv_aload_n hx hb dX1_goOn_8 rfl (lv_at hl 0 rfl) ?_
    refine lv_iload_n hx hb dX1_goOn_9 rfl (lv_at hl 2 rfl) ?_
    refine lv_iload_n hx hb dX1_goOn_10 rfl (lv_at hl 3 rfl) ?_
    obtain ⟨u12, μ12, hc13, h⟩ := q_bd_some h
    refine q_kv F S (q_runV (As := [.int x2, .int x3]) (rest := []) (b := 2) ⟨hx, hb, hml, hown, hts⟩ F S (c_X1_consider l E hE x2 x3 μ μ12 u12 hc13) (cwV 2 hts gX1_goOn_X1_consider rfl rfl rfl (by decide +kernel) ⟨by show 2 + 1 ≤ qa + 3; omega, by show 8 + (3 + 11) + 41 ≤ qb + 120; omega⟩) q_k2 (by decide) rfl rfl hl.1 rfl (Nat.le_of_ble_eq_true rfl) dX1_goOn_11 ⟨Nat.zero_le _, Nat.zero_le _⟩) (fun H locs S => ?_)
    exact q_vret hx hb hr S h hlk dX1_goOn_14
def q_G : Nat → Int32 → Int32 → Int32 → q_M → Option (Unit × q_M)
  | 0 => fun _ _ _ _ => none
  | d + 1 => f_X1_goOn (f_X1_take (q_G d))
theorem q_cG (l : Launch) (E : q_E) (hE : q_I E) : ∀ (d : Nat) (x1 x2 x3 : Int32) (μ μr : q_M) (r : Unit), q_G d x1 x2 x3 μ = some (r, μr) → Met l yX1_goOn wsX1_goOn ({ frames := d * 7, cells := 0, slots := 0, locals := d * 280 }) (q_Pc E μ [.ref (E.2.2.2 2), .int x1, .int x2, .int x3]) (q_Qv E r μr) 0 0 (q_A E) := by
  intro d
  induction d with
  | zero => intro x1 x2 x3 μ μr r h; cases h
  | succ d ih =>
    intro x1 x2 x3 μ μr r h
    have h1 : d * 7 + 4 + 3 = (d + 1) * 7 := by omega
    have h2 : d * 280 + 160 + 120 = (d + 1) * 280 := by omega
    rw [← h1, ← h2]
    exact c_X1_goOn l E hE (d * 7 + 4) (d * 280 + 160) (f_X1_take (q_G d)) (fun x1 x2 x3 x4 μ μr r h => c_X1_take l E hE (d * 7) (d * 280) (q_G d) ih x1 x2 x3 x4 μ μr r h) x1 x2 x3 μ μr r h
def f_X1_lookThrough (μ : q_M) : Option (Unit × q_M) := q_bd (f_X3_usableRoads  μ) (fun r3 μ1 => q_le (q_si μ1 2 11 r3) (fun μ4 => q_le (q_si μ4 2 12 (1 <<< ((μ4.1 2 7) &&& 31))) (fun μ5 => q_le (q_si μ5 2 13 0) (fun μ6 => q_le (q_si μ6 2 14 0) (fun μ7 => (if (μ7.1 2 6) = 0 then some ((), μ7) else q_bd (q_G 8 (μ7.1 2 7) (μ7.1 2 9) 0 μ7) (fun u9 μ9 => some ((), μ9))))))))
set_option maxHeartbeats 4000000 in
set_option maxRecDepth 100000 in
theorem c_X1_lookThrough (l : Launch) (E : q_E) (hE : q_I E) (μ μr : q_M) (r : Unit) (h : f_X1_lookThrough μ = some (r, μr)) : Met l yX1_lookThrough wsX1_lookThrough ({ frames := 57, cells := 0, slots := 0, locals := 2264 }) (q_Pc E μ [.ref (E.2.2.2 2)]) (q_Qv E r μr) 0 0 (q_A E) := by
  refine q_met (cc := cX1_lookThrough) (maxL := 1) (ret := none) hE (by decide) rfl (Nat.le_of_ble_eq_true rfl) ?_
  intro p e s m below meth c hx hb hr hml hown hts hlk F S ls hl
  have hl : lv_has ls 1 [(0, .ref (E.2.2.2 2))] := hl
  have i1 : ∀ w ∈ u_ws RX1 TX1 15, w ∈ wsX1_lookThrough := by decide +kernel
  unfold f_X1_lookThrough at h
  obtain ⟨H, eH⟩ : ∃ z, z = s.heap := ⟨_, rfl⟩
  obtain ⟨locs, eL⟩ : ∃ z : List Loc, z = [] := ⟨_, rfl⟩
  rw [← eH, ← eL] at S
  suffices hh : W p l e ({ frames := 57, cells := 0, slots := 0, locals := 2264 }) s m ([.ref (E.2.2.2 2)] : List Value).toArray below meth c H locs 0 0 (MQ below (q_Qv E r μr) ([.ref (E.2.2.2 2)] : List Value).toArray s 0 0 (q_A E)) (F0 m 0 ls []) by rw [eH, eL] at hh; exact hh
  refine lv_aload_n hx hb dX1_lookThrough_0 rfl (lv_at hl 0 rfl) ?_
  refine lv_aload_n hx hb dX1_lookThrough_1 rfl (lv_at hl 0 rfl) ?_
  refine q_getr (own := RX1) (C := RX1) (T := TX1) (N := 15) (ci := 1) (j := 0)  (b := 1) hx hb hts i1 hown F S q_k2 (by decide) rfl (by decide) (by decide) rfl (by decide) (hts (.fieldLink RX1 28 "HeavyRoutes$Finder" "net" "LHeavyRoutes$Net;") (by decide +kernel)) dX1_lookThrough_2 ?_
  obtain ⟨r3, μ1, hc2, h⟩ := q_bd_some h
  refine q_ki F S (q_runV (As := []) (rest := [.ref (E.2.2.2 2)]) (b := 1) ⟨hx, hb, hml, hown, hts⟩ F S (c_X3_usableRoads l E hE  μ μ1 r3 hc2) (cwV 0 hts gX1_lookThrough_X3_usableRoads rfl rfl rfl (by decide +kernel) ⟨Nat.le_of_ble_eq_true rfl, Nat.le_of_ble_eq_true rfl⟩) q_k1 (by decide) rfl rfl hl.1 rfl (Nat.le_of_ble_eq_true rfl) dX1_lookThrough_5 ⟨Nat.zero_le _, Nat.zero_le _⟩) (fun H locs S => ?_)
  refine q_puti (own := RX1) (C := RX1) (T := TX1) (N := 15) (ci := 1) (j := 11)  hx hb hts i1 tyX1 tyX1_ok nmX1 hown F S q_k2 (by decide) rfl (by decide) (by decide) rfl (hts (.fieldLink RX1 74 "HeavyRoutes$Finder" "usable" "I") (by decide +kernel)) rfl (by decide +kernel) dX1_lookThrough_8 (fun H locs μ4 eμ4 S => ?_)
  have h := q_le_e h eμ4
  refine lv_aload_n hx hb dX1_lookThrough_11 rfl (lv_at hl 0 rfl) ?_
  refine lv_iconst (v := 1) hx hb dX1_lookThrough_12 (by decide) ?_
  refine lv_aload_n hx hb dX1_lookThrough_13 rfl (lv_at hl 0 rfl) ?_
  refine q_geti (own := RX1) (C := RX1) (T := TX1) (N := 15) (ci := 1) (j := 7)  hx hb hts i1 hown F S q_k2 (by decide) rfl (by decide) (by decide) rfl (hts (.fieldLink RX1 43 "HeavyRoutes$Finder" "from" "I") (by decide +kernel)) dX1_lookThrough_14 ?_
  refine lv_ishl hx hb dX1_lookThrough_17 ?_
  refine q_puti (own := RX1) (C := RX1) (T := TX1) (N := 15) (ci := 1) (j := 12)  hx hb hts i1 tyX1 tyX1_ok nmX1 hown F S q_k2 (by decide) rfl (by decide) (by decide) rfl (hts (.fieldLink RX1 77 "HeavyRoutes$Finder" "visited" "I") (by decide +kernel)) rfl (by decide +kernel) dX1_lookThrough_18 (fun H locs μ5 eμ5 S => ?_)
  have h := q_le_e h eμ5
  refine lv_aload_n hx hb dX1_lookThrough_21 rfl (lv_at hl 0 rfl) ?_
  refine lv_iconst (v := 0) hx hb dX1_lookThrough_22 (by decide) ?_
  refine q_puti (own := RX1) (C := RX1) (T := TX1) (N := 15) (ci := 1) (j := 13)  hx hb hts i1 tyX1 tyX1_ok nmX1 hown F S q_k2 (by decide) rfl (by decide) (by decide) rfl (hts (.fieldLink RX1 80 "HeavyRoutes$Finder" "wayCount" "I") (by decide +kernel)) rfl (by decide +kernel) dX1_lookThrough_23 (fun H locs μ6 eμ6 S => ?_)
  have h := q_le_e h eμ6
  refine lv_aload_n hx hb dX1_lookThrough_26 rfl (lv_at hl 0 rfl) ?_
  refine lv_iconst (v := 0) hx hb dX1_lookThrough_27 (by decide) ?_
  refine q_putz (own := RX1) (C := RX1) (T := TX1) (N := 15) (ci := 1) (j := 14)  hx hb hts i1 tyX1 tyX1_ok nmX1 hown F S q_k2 (by decide) rfl (by decide) (by decide) rfl (hts (.fieldLink RX1 58 "HeavyRoutes$Finder" "hasBest" "Z") (by decide +kernel)) rfl (by decide +kernel) (by decide) dX1_lookThrough_28 (fun H locs μ7 eμ7 S => ?_)
  have h := q_le_e h eμ7
  refine lv_aload_n hx hb dX1_lookThrough_31 rfl (lv_at hl 0 rfl) ?_
  refine q_geti (own := RX1) (C := RX1) (T := TX1) (N := 15) (ci := 1) (j := 6)  hx hb hts i1 hown F S q_k2 (by decide) rfl (by decide) (by decide) rfl (hts (.fieldLink RX1 39 "HeavyRoutes$Finder" "hasBegun" "Z") (by decide +kernel)) dX1_lookThrough_32 ?_
  refine lv_if_eq (tgt := 51) hx hb dX1_lookThrough_35 (by decide) (fun c8 => ?_) (fun c8 => ?_)
  · have h := q_ip c8 h
    exact q_vret hx hb hr S h hlk dX1_lookThrough_51
  · have h := q_ig c8 h
    refine lv_aload_n hx hb dX1_lookThrough_38 rfl (lv_at hl 0 rfl) ?_
    refine lv_aload_n hx hb dX1_lookThrough_39 rfl (lv_at hl 0 rfl) ?_
    refine q_geti (own := RX1) (C := RX1) (T := TX1) (N := 15) (ci := 1) (j := 7)  hx hb hts i1 hown F S q_k2 (by decide) rfl (by decide) (by decide) rfl (hts (.fieldLink RX1 43 "HeavyRoutes$Finder" "from" "I") (by decide +kernel)) dX1_lookThrough_40 ?_
    refine lv_aload_n hx hb dX1_lookThrough_43 rfl (lv_at hl 0 rfl) ?_
    refine q_geti (own := RX1) (C := RX1) (T := TX1) (N := 15) (ci := 1) (j := 9)  hx hb hts i1 hown F S q_k2 (by decide) rfl (by decide) (by decide) rfl (hts (.fieldLink RX1 49 "HeavyRoutes$Finder" "minute" "I") (by decide +kernel)) dX1_lookThrough_44 ?_
    refine lv_iconst (v := 0) hx hb dX1_lookThrough_47 (by decide) ?_
    obtain ⟨u9, μ9, hc10, h⟩ := q_bd_some h
    refine q_kv F S (q_runV (As := [.int (μ7.1 2 7), .int (μ7.1 2 9), .int 0]) (rest := []) (b := 2) ⟨hx, hb, hml, hown, hts⟩ F S (q_cG l E hE 8 (μ7.1 2 7) (μ7.1 2 9) 0 μ7 μ9 u9 hc10) (cwV 3 hts gX1_lookThrough_X1_goOn rfl rfl rfl (by decide +kernel) ⟨Nat.le_of_ble_eq_true rfl, Nat.le_of_ble_eq_true rfl⟩) q_k2 (by decide) rfl rfl hl.1 rfl (Nat.le_of_ble_eq_true rfl) dX1_lookThrough_48 ⟨Nat.zero_le _, Nat.zero_le _⟩) (fun H locs S => ?_)
    exact q_vret hx hb hr S h hlk dX1_lookThrough_51
