def f_X10_in (x0 : Int64) (x2 : Int64) (x4 : Int64) (μ : q_M) : Option (Int32 × q_M) := (if (lg_cmp x0 x2) < 0 then some (0, μ) else (if 0 < (lg_cmp x0 x4) then some (0, μ) else some (1, μ)))
set_option maxHeartbeats 4000000 in
set_option maxRecDepth 100000 in
theorem c_X10_in (l : Launch) (E : q_E) (hE : q_I E) (x0 : Int64) (x2 : Int64) (x4 : Int64) (μ μr : q_M) (r : Int32) (h : f_X10_in x0 x2 x4 μ = some (r, μr)) : Met l yX10_in wsX10_in ({ frames := 0, cells := 0, slots := 0, locals := 0 }) (q_Pc E μ [.long x0, .long x2, .long x4]) (q_Qi E r μr) 0 0 (q_A E) := by
  refine q_met (cc := cX10_in) (maxL := 6) (ret := (some .boolean)) hE (by decide) rfl (Nat.le_of_ble_eq_true rfl) ?_
  intro p e s m below meth c hx hb hr hml hown hts hlk F S ls hl
  have hl : lv_has ls 6 [(0, .long x0), (2, .long x2), (4, .long x4)] := hl
  unfold f_X10_in at h
  obtain ⟨H, eH⟩ : ∃ z, z = s.heap := ⟨_, rfl⟩
  obtain ⟨locs, eL⟩ : ∃ z : List Loc, z = [] := ⟨_, rfl⟩
  rw [← eH, ← eL] at S
  suffices hh : W p l e ({ frames := 0, cells := 0, slots := 0, locals := 0 }) s m ([.long x0, .long x2, .long x4] : List Value).toArray below meth c H locs 0 0 (MQ below (q_Qi E r μr) ([.long x0, .long x2, .long x4] : List Value).toArray s 0 0 (q_A E)) (F0 m 0 ls []) by rw [eH, eL] at hh; exact hh
  refine lv_lload_n hx hb dX10_in_0 rfl (lv_at hl 0 rfl) ?_
  refine lv_lload_n hx hb dX10_in_1 rfl (lv_at hl 1 rfl) ?_
  refine W.lcmp hx hb dX10_in_2 ?_
  refine lv_if_lt (tgt := 17) hx hb dX10_in_3 (by decide) (fun c1 => ?_) (fun c1 => ?_)
  · have h := q_ip c1 h
    refine lv_iconst (v := 0) hx hb dX10_in_17 (by decide) ?_
    exact q_zret hx hb hr S (by decide) h hlk dX10_in_18
  · have h := q_ig c1 h
    refine lv_lload_n hx hb dX10_in_6 rfl (lv_at hl 0 rfl) ?_
    refine lv_lload hx hb dX10_in_7 (lv_at hl 2 rfl) ?_
    refine W.lcmp hx hb dX10_in_9 ?_
    refine lv_if_gt (tgt := 17) hx hb dX10_in_10 (by decide) (fun c2 => ?_) (fun c2 => ?_)
    · have h := q_ip c2 h
      refine lv_iconst (v := 0) hx hb dX10_in_17 (by decide) ?_
      exact q_zret hx hb hr S (by decide) h hlk dX10_in_18
    · have h := q_ig c2 h
      refine lv_iconst (v := 1) hx hb dX10_in_13 (by decide) ?_
      refine lv_goto (tgt := 18) hx hb dX10_in_14 (by decide) ?_
      exact q_zret hx hb hr S (by decide) h hlk dX10_in_18
def f_X10_isRoad (x1 : Int32) (μ : q_M) : Option (Int32 × q_M) := q_bd (f_X10_in x1.toInt64 0 (((μ.1 137 1) - 1).toInt64) μ) (fun r3 μ1 => q_gd (q_zb r3) (some (r3, μ1)))
set_option maxHeartbeats 4000000 in
set_option maxRecDepth 100000 in
theorem c_X10_isRoad (l : Launch) (E : q_E) (hE : q_I E) (x1 : Int32) (μ μr : q_M) (r : Int32) (h : f_X10_isRoad x1 μ = some (r, μr)) : Met l yX10_isRoad wsX10_isRoad ({ frames := 1, cells := 0, slots := 0, locals := 25 }) (q_Pc E μ [.ref (E.2.2.2 137), .int x1]) (q_Qi E r μr) 0 0 (q_A E) := by
  refine q_met (cc := cX10_isRoad) (maxL := 2) (ret := (some .boolean)) hE (by decide) rfl (Nat.le_of_ble_eq_true rfl) ?_
  intro p e s m below meth c hx hb hr hml hown hts hlk F S ls hl
  have hl : lv_has ls 2 [(0, .ref (E.2.2.2 137)), (1, .int x1)] := hl
  have i10 : ∀ w ∈ u_ws RX10 TX10 54, w ∈ wsX10_isRoad := by decide +kernel
  unfold f_X10_isRoad at h
  obtain ⟨H, eH⟩ : ∃ z, z = s.heap := ⟨_, rfl⟩
  obtain ⟨locs, eL⟩ : ∃ z : List Loc, z = [] := ⟨_, rfl⟩
  rw [← eH, ← eL] at S
  suffices hh : W p l e ({ frames := 1, cells := 0, slots := 0, locals := 25 }) s m ([.ref (E.2.2.2 137), .int x1] : List Value).toArray below meth c H locs 0 0 (MQ below (q_Qi E r μr) ([.ref (E.2.2.2 137), .int x1] : List Value).toArray s 0 0 (q_A E)) (F0 m 0 ls []) by rw [eH, eL] at hh; exact hh
  refine lv_iload_n hx hb dX10_isRoad_0 rfl (lv_at hl 1 rfl) ?_
  refine lv_i2l (v := x1.toInt64) hx hb dX10_isRoad_1 rfl ?_
  refine lv_lconst (v := 0) hx hb dX10_isRoad_2 (by decide) ?_
  refine lv_aload_n hx hb dX10_isRoad_3 rfl (lv_at hl 0 rfl) ?_
  refine q_geti (own := RX10) (C := RX10) (T := TX10) (N := 54) (ci := 10) (j := 1)  hx hb hts i10 hown F S q_k137 (by decide) rfl (by decide) (by decide) rfl (hts (.fieldLink RX10 99 "HeavyRoutesModel" "roads" "I") (by decide +kernel)) dX10_isRoad_4 ?_
  refine lv_iconst (v := 1) hx hb dX10_isRoad_7 (by decide) ?_
  refine lv_isub hx hb dX10_isRoad_8 ?_
  refine lv_i2l (v := ((μ.1 137 1) - 1).toInt64) hx hb dX10_isRoad_9 rfl ?_
  obtain ⟨r3, μ1, hc2, h⟩ := q_bd_some h
  refine q_ki F S (q_runS (As := [.long x1.toInt64, .long 0, .long (((μ.1 137 1) - 1).toInt64)]) (rest := []) ⟨hx, hb, hml, hown, hts⟩ F S (c_X10_in l E hE x1.toInt64 0 (((μ.1 137 1) - 1).toInt64) μ μ1 r3 hc2) (va_cwS 3 hts gX10_isRoad_X10_in rfl rfl rfl (by decide +kernel) ⟨Nat.le_of_ble_eq_true rfl, Nat.le_of_ble_eq_true rfl⟩) rfl hl.1 rfl (Nat.le_of_ble_eq_true rfl) dX10_isRoad_10 ⟨Nat.zero_le _, Nat.zero_le _⟩) (fun H locs S => ?_)
  obtain ⟨g4, h⟩ := q_gd_some h
  exact q_zret hx hb hr S g4 h hlk dX10_isRoad_13
def f_X10_isBridge (x1 : Int32) (μ : q_M) : Option (Int32 × q_M) := q_bd (f_X10_in x1.toInt64 0 (((μ.1 137 13) - 1).toInt64) μ) (fun r3 μ1 => q_gd (q_zb r3) (some (r3, μ1)))
set_option maxHeartbeats 4000000 in
set_option maxRecDepth 100000 in
theorem c_X10_isBridge (l : Launch) (E : q_E) (hE : q_I E) (x1 : Int32) (μ μr : q_M) (r : Int32) (h : f_X10_isBridge x1 μ = some (r, μr)) : Met l yX10_isBridge wsX10_isBridge ({ frames := 1, cells := 0, slots := 0, locals := 25 }) (q_Pc E μ [.ref (E.2.2.2 137), .int x1]) (q_Qi E r μr) 0 0 (q_A E) := by
  refine q_met (cc := cX10_isBridge) (maxL := 2) (ret := (some .boolean)) hE (by decide) rfl (Nat.le_of_ble_eq_true rfl) ?_
  intro p e s m below meth c hx hb hr hml hown hts hlk F S ls hl
  have hl : lv_has ls 2 [(0, .ref (E.2.2.2 137)), (1, .int x1)] := hl
  have i10 : ∀ w ∈ u_ws RX10 TX10 54, w ∈ wsX10_isBridge := by decide +kernel
  unfold f_X10_isBridge at h
  obtain ⟨H, eH⟩ : ∃ z, z = s.heap := ⟨_, rfl⟩
  obtain ⟨locs, eL⟩ : ∃ z : List Loc, z = [] := ⟨_, rfl⟩
  rw [← eH, ← eL] at S
  suffices hh : W p l e ({ frames := 1, cells := 0, slots := 0, locals := 25 }) s m ([.ref (E.2.2.2 137), .int x1] : List Value).toArray below meth c H locs 0 0 (MQ below (q_Qi E r μr) ([.ref (E.2.2.2 137), .int x1] : List Value).toArray s 0 0 (q_A E)) (F0 m 0 ls []) by rw [eH, eL] at hh; exact hh
  refine lv_iload_n hx hb dX10_isBridge_0 rfl (lv_at hl 1 rfl) ?_
  refine lv_i2l (v := x1.toInt64) hx hb dX10_isBridge_1 rfl ?_
  refine lv_lconst (v := 0) hx hb dX10_isBridge_2 (by decide) ?_
  refine lv_aload_n hx hb dX10_isBridge_3 rfl (lv_at hl 0 rfl) ?_
  refine q_geti (own := RX10) (C := RX10) (T := TX10) (N := 54) (ci := 10) (j := 13)  hx hb hts i10 hown F S q_k137 (by decide) rfl (by decide) (by decide) rfl (hts (.fieldLink RX10 106 "HeavyRoutesModel" "bridges" "I") (by decide +kernel)) dX10_isBridge_4 ?_
  refine lv_iconst (v := 1) hx hb dX10_isBridge_7 (by decide) ?_
  refine lv_isub hx hb dX10_isBridge_8 ?_
  refine lv_i2l (v := ((μ.1 137 13) - 1).toInt64) hx hb dX10_isBridge_9 rfl ?_
  obtain ⟨r3, μ1, hc2, h⟩ := q_bd_some h
  refine q_ki F S (q_runS (As := [.long x1.toInt64, .long 0, .long (((μ.1 137 13) - 1).toInt64)]) (rest := []) ⟨hx, hb, hml, hown, hts⟩ F S (c_X10_in l E hE x1.toInt64 0 (((μ.1 137 13) - 1).toInt64) μ μ1 r3 hc2) (va_cwS 3 hts gX10_isBridge_X10_in rfl rfl rfl (by decide +kernel) ⟨Nat.le_of_ble_eq_true rfl, Nat.le_of_ble_eq_true rfl⟩) rfl hl.1 rfl (Nat.le_of_ble_eq_true rfl) dX10_isBridge_10 ⟨Nat.zero_le _, Nat.zero_le _⟩) (fun H locs S => ?_)
  obtain ⟨g4, h⟩ := q_gd_some h
  exact q_zret hx hb hr S g4 h hlk dX10_isBridge_13
def f_X10_forget (μ : q_M) : Option (Unit × q_M) := q_le (q_si μ 137 28 0) (fun μ1 => some ((), μ1))
set_option maxHeartbeats 4000000 in
set_option maxRecDepth 100000 in
theorem c_X10_forget (l : Launch) (E : q_E) (hE : q_I E) (μ μr : q_M) (r : Unit) (h : f_X10_forget μ = some (r, μr)) : Met l yX10_forget wsX10_forget ({ frames := 0, cells := 0, slots := 0, locals := 0 }) (q_Pc E μ [.ref (E.2.2.2 137)]) (q_Qv E r μr) 0 0 (q_A E) := by
  refine q_met (cc := cX10_forget) (maxL := 1) (ret := none) hE (by decide) rfl (Nat.le_of_ble_eq_true rfl) ?_
  intro p e s m below meth c hx hb hr hml hown hts hlk F S ls hl
  have hl : lv_has ls 1 [(0, .ref (E.2.2.2 137))] := hl
  have i10 : ∀ w ∈ u_ws RX10 TX10 54, w ∈ wsX10_forget := by decide +kernel
  unfold f_X10_forget at h
  obtain ⟨H, eH⟩ : ∃ z, z = s.heap := ⟨_, rfl⟩
  obtain ⟨locs, eL⟩ : ∃ z : List Loc, z = [] := ⟨_, rfl⟩
  rw [← eH, ← eL] at S
  suffices hh : W p l e ({ frames := 0, cells := 0, slots := 0, locals := 0 }) s m ([.ref (E.2.2.2 137)] : List Value).toArray below meth c H locs 0 0 (MQ below (q_Qv E r μr) ([.ref (E.2.2.2 137)] : List Value).toArray s 0 0 (q_A E)) (F0 m 0 ls []) by rw [eH, eL] at hh; exact hh
  refine lv_aload_n hx hb dX10_forget_0 rfl (lv_at hl 0 rfl) ?_
  refine lv_iconst (v := 0) hx hb dX10_forget_1 (by decide) ?_
  refine q_puti (own := RX10) (C := RX10) (T := TX10) (N := 54) (ci := 10) (j := 28)  hx hb hts i10 tyX10 tyX10_ok nmX10 hown F S q_k137 (by decide) rfl (by decide) (by decide) rfl (hts (.fieldLink RX10 109 "HeavyRoutesModel" "found" "I") (by decide +kernel)) rfl (by decide +kernel) dX10_forget_2 (fun H locs μ1 eμ1 S => ?_)
  have h := q_le_e h eμ1
  exact q_vret hx hb hr S h hlk dX10_forget_5
def f_X10_node (μ : q_M) : Option (Int32 × q_M) := (if (μ.1 137 0) = 7 then some ((-1), μ) else q_le (q_si μ 137 0 ((μ.1 137 0) + 1)) (fun μ2 => some (((μ2.1 137 0) - 1), μ2)))
set_option maxHeartbeats 4000000 in
set_option maxRecDepth 100000 in
theorem c_X10_node (l : Launch) (E : q_E) (hE : q_I E) (μ μr : q_M) (r : Int32) (h : f_X10_node μ = some (r, μr)) : Met l yX10_node wsX10_node ({ frames := 0, cells := 0, slots := 0, locals := 0 }) (q_Pc E μ [.ref (E.2.2.2 137)]) (q_Qi E r μr) 0 0 (q_A E) := by
  refine q_met (cc := cX10_node) (maxL := 1) (ret := (some .int)) hE (by decide) rfl (Nat.le_of_ble_eq_true rfl) ?_
  intro p e s m below meth c hx hb hr hml hown hts hlk F S ls hl
  have hl : lv_has ls 1 [(0, .ref (E.2.2.2 137))] := hl
  have i10 : ∀ w ∈ u_ws RX10 TX10 54, w ∈ wsX10_node := by decide +kernel
  unfold f_X10_node at h
  obtain ⟨H, eH⟩ : ∃ z, z = s.heap := ⟨_, rfl⟩
  obtain ⟨locs, eL⟩ : ∃ z : List Loc, z = [] := ⟨_, rfl⟩
  rw [← eH, ← eL] at S
  suffices hh : W p l e ({ frames := 0, cells := 0, slots := 0, locals := 0 }) s m ([.ref (E.2.2.2 137)] : List Value).toArray below meth c H locs 0 0 (MQ below (q_Qi E r μr) ([.ref (E.2.2.2 137)] : List Value).toArray s 0 0 (q_A E)) (F0 m 0 ls []) by rw [eH, eL] at hh; exact hh
  refine lv_aload_n hx hb dX10_node_0 rfl (lv_at hl 0 rfl) ?_
  refine q_geti (own := RX10) (C := RX10) (T := TX10) (N := 54) (ci := 10) (j := 0)  hx hb hts i10 hown F S q_k137 (by decide) rfl (by decide) (by decide) rfl (hts (.fieldLink RX10 112 "HeavyRoutesModel" "nodes" "I") (by decide +kernel)) dX10_node_1 ?_
  refine lv_bipush (v := 7) hx hb dX10_node_4 (by decide) ?_
  refine lv_icmp_ne (tgt := 11) hx hb dX10_node_6 (by decide) (fun c1 => ?_) (fun c1 => ?_)
  · have h := q_ig c1 h
    refine lv_aload_n hx hb dX10_node_11 rfl (lv_at hl 0 rfl) ?_
    refine lv_dup hx hb dX10_node_12 rfl ?_
    refine q_geti (own := RX10) (C := RX10) (T := TX10) (N := 54) (ci := 10) (j := 0)  hx hb hts i10 hown F S q_k137 (by decide) rfl (by decide) (by decide) rfl (hts (.fieldLink RX10 112 "HeavyRoutesModel" "nodes" "I") (by decide +kernel)) dX10_node_13 ?_
    refine lv_iconst (v := 1) hx hb dX10_node_16 (by decide) ?_
    refine lv_iadd hx hb dX10_node_17 ?_
    refine q_puti (own := RX10) (C := RX10) (T := TX10) (N := 54) (ci := 10) (j := 0)  hx hb hts i10 tyX10 tyX10_ok nmX10 hown F S q_k137 (by decide) rfl (by decide) (by decide) rfl (hts (.fieldLink RX10 112 "HeavyRoutesModel" "nodes" "I") (by decide +kernel)) rfl (by decide +kernel) dX10_node_18 (fun H locs μ2 eμ2 S => ?_)
    have h := q_le_e h eμ2
    refine lv_aload_n hx hb dX10_node_21 rfl (lv_at hl 0 rfl) ?_
    refine q_geti (own := RX10) (C := RX10) (T := TX10) (N := 54) (ci := 10) (j := 0)  hx hb hts i10 hown F S q_k137 (by decide) rfl (by decide) (by decide) rfl (hts (.fieldLink RX10 112 "HeavyRoutesModel" "nodes" "I") (by decide +kernel)) dX10_node_22 ?_
    refine lv_iconst (v := 1) hx hb dX10_node_25 (by decide) ?_
    refine lv_isub hx hb dX10_node_26 ?_
    exact q_iret hx hb hr S h hlk dX10_node_27
  · have h := q_ip c1 h
    refine lv_iconst (v := (-1)) hx hb dX10_node_9 (by decide) ?_
    exact q_iret hx hb hr S h hlk dX10_node_10
def f_X10_road (x1 : Int32) (x2 : Int32) (x3 : Int32) (x4 : Int32) (x5 : Int32) (μ : q_M) : Option (Int32 × q_M) := q_bd (f_X10_in x1.toInt64 0 (((μ.1 137 0) - 1).toInt64) μ) (fun r3 μ1 => (if r3 = 0 then some ((-1), μ1) else q_bd (f_X10_in x2.toInt64 0 (((μ1.1 137 0) - 1).toInt64) μ1) (fun r7 μ5 => (if r7 = 0 then some ((-1), μ5) else (if x1 = x2 then some ((-1), μ5) else q_bd (f_X10_in x3.toInt64 1 600 μ5) (fun r12 μ10 => (if r12 = 0 then some ((-1), μ10) else q_bd (f_X10_in x4.toInt64 1 9999 μ10) (fun r16 μ14 => (if r16 = 0 then some ((-1), μ14) else q_bd (f_X10_in x5.toInt64 1 9999 μ14) (fun r20 μ18 => (if r20 = 0 then some ((-1), μ18) else (if (μ18.1 137 1) = 12 then some ((-1), μ18) else q_gd (q_ix (μ18.1 137 1) 12) (q_le (q_si μ18 138 (μ18.1 137 1).toNatClampNeg x1) (fun μ24 => q_gd (q_ix (μ24.1 137 1) 12) (q_le (q_si μ24 139 (μ24.1 137 1).toNatClampNeg x2) (fun μ26 => q_gd (q_ix (μ26.1 137 1) 12) (q_le (q_si μ26 140 (μ26.1 137 1).toNatClampNeg x3) (fun μ28 => q_gd (q_ix (μ28.1 137 1) 12) (q_le (q_si μ28 141 (μ28.1 137 1).toNatClampNeg x4) (fun μ30 => q_gd (q_ix (μ30.1 137 1) 12) (q_le (q_si μ30 142 (μ30.1 137 1).toNatClampNeg x5) (fun μ32 => q_gd (q_ix (μ32.1 137 1) 12) (q_le (q_si μ32 143 (μ32.1 137 1).toNatClampNeg 1) (fun μ34 => q_gd (q_ix (μ34.1 137 1) 12) (q_le (q_si μ34 144 (μ34.1 137 1).toNatClampNeg (-2)) (fun μ36 => q_le (q_si μ36 137 1 ((μ36.1 137 1) + 1)) (fun μ37 => q_bd (f_X10_forget  μ37) (fun u38 μ38 => some (((μ38.1 137 1) - 1), μ38)))))))))))))))))))))))))))))
set_option maxHeartbeats 4000000 in
set_option maxRecDepth 100000 in
theorem c_X10_road (l : Launch) (E : q_E) (hE : q_I E) (x1 : Int32) (x2 : Int32) (x3 : Int32) (x4 : Int32) (x5 : Int32) (μ μr : q_M) (r : Int32) (h : f_X10_road x1 x2 x3 x4 x5 μ = some (r, μr)) : Met l yX10_road wsX10_road ({ frames := 1, cells := 0, slots := 0, locals := 25 }) (q_Pc E μ [.ref (E.2.2.2 137), .int x1, .int x2, .int x3, .int x4, .int x5]) (q_Qi E r μr) 0 0 (q_A E) := by
  refine q_met (cc := cX10_road) (maxL := 6) (ret := (some .int)) hE (by decide) rfl (Nat.le_of_ble_eq_true rfl) ?_
  intro p e s m below meth c hx hb hr hml hown hts hlk F S ls hl
  have hl : lv_has ls 6 [(0, .ref (E.2.2.2 137)), (1, .int x1), (2, .int x2), (3, .int x3), (4, .int x4), (5, .int x5)] := hl
  have i10 : ∀ w ∈ u_ws RX10 TX10 54, w ∈ wsX10_road := by decide +kernel
  unfold f_X10_road at h
  obtain ⟨H, eH⟩ : ∃ z, z = s.heap := ⟨_, rfl⟩
  obtain ⟨locs, eL⟩ : ∃ z : List Loc, z = [] := ⟨_, rfl⟩
  rw [← eH, ← eL] at S
  suffices hh : W p l e ({ frames := 1, cells := 0, slots := 0, locals := 25 }) s m ([.ref (E.2.2.2 137), .int x1, .int x2, .int x3, .int x4, .int x5] : List Value).toArray below meth c H locs 0 0 (MQ below (q_Qi E r μr) ([.ref (E.2.2.2 137), .int x1, .int x2, .int x3, .int x4, .int x5] : List Value).toArray s 0 0 (q_A E)) (F0 m 0 ls []) by rw [eH, eL] at hh; exact hh
  refine lv_iload_n hx hb dX10_road_0 rfl (lv_at hl 1 rfl) ?_
  refine lv_i2l (v := x1.toInt64) hx hb dX10_road_1 rfl ?_
  refine lv_lconst (v := 0) hx hb dX10_road_2 (by decide) ?_
  refine lv_aload_n hx hb dX10_road_3 rfl (lv_at hl 0 rfl) ?_
  refine q_geti (own := RX10) (C := RX10) (T := TX10) (N := 54) (ci := 10) (j := 0)  hx hb hts i10 hown F S q_k137 (by decide) rfl (by decide) (by decide) rfl (hts (.fieldLink RX10 112 "HeavyRoutesModel" "nodes" "I") (by decide +kernel)) dX10_road_4 ?_
  refine lv_iconst (v := 1) hx hb dX10_road_7 (by decide) ?_
  refine lv_isub hx hb dX10_road_8 ?_
  refine lv_i2l (v := ((μ.1 137 0) - 1).toInt64) hx hb dX10_road_9 rfl ?_
  obtain ⟨r3, μ1, hc2, h⟩ := q_bd_some h
  refine q_ki F S (q_runS (As := [.long x1.toInt64, .long 0, .long (((μ.1 137 0) - 1).toInt64)]) (rest := []) ⟨hx, hb, hml, hown, hts⟩ F S (c_X10_in l E hE x1.toInt64 0 (((μ.1 137 0) - 1).toInt64) μ μ1 r3 hc2) (va_cwS 3 hts gX10_road_X10_in rfl rfl rfl (by decide +kernel) ⟨Nat.le_of_ble_eq_true rfl, Nat.le_of_ble_eq_true rfl⟩) rfl hl.1 rfl (Nat.le_of_ble_eq_true rfl) dX10_road_10 ⟨Nat.zero_le _, Nat.zero_le _⟩) (fun H locs S => ?_)
  refine lv_if_eq (tgt := 84) hx hb dX10_road_13 (by decide) (fun c4 => ?_) (fun c4 => ?_)
  · have h := q_ip c4 h
    refine lv_iconst (v := (-1)) hx hb dX10_road_84 (by decide) ?_
    exact q_iret hx hb hr S h hlk dX10_road_85
  · have h := q_ig c4 h
    refine lv_iload_n hx hb dX10_road_16 rfl (lv_at hl 2 rfl) ?_
    refine lv_i2l (v := x2.toInt64) hx hb dX10_road_17 rfl ?_
    refine lv_lconst (v := 0) hx hb dX10_road_18 (by decide) ?_
    refine lv_aload_n hx hb dX10_road_19 rfl (lv_at hl 0 rfl) ?_
    refine q_geti (own := RX10) (C := RX10) (T := TX10) (N := 54) (ci := 10) (j := 0)  hx hb hts i10 hown F S q_k137 (by decide) rfl (by decide) (by decide) rfl (hts (.fieldLink RX10 112 "HeavyRoutesModel" "nodes" "I") (by decide +kernel)) dX10_road_20 ?_
    refine lv_iconst (v := 1) hx hb dX10_road_23 (by decide) ?_
    refine lv_isub hx hb dX10_road_24 ?_
    refine lv_i2l (v := ((μ1.1 137 0) - 1).toInt64) hx hb dX10_road_25 rfl ?_
    obtain ⟨r7, μ5, hc6, h⟩ := q_bd_some h
    refine q_ki F S (q_runS (As := [.long x2.toInt64, .long 0, .long (((μ1.1 137 0) - 1).toInt64)]) (rest := []) ⟨hx, hb, hml, hown, hts⟩ F S (c_X10_in l E hE x2.toInt64 0 (((μ1.1 137 0) - 1).toInt64) μ1 μ5 r7 hc6) (va_cwS 3 hts gX10_road_X10_in rfl rfl rfl (by decide +kernel) ⟨Nat.le_of_ble_eq_true rfl, Nat.le_of_ble_eq_true rfl⟩) rfl hl.1 rfl (Nat.le_of_ble_eq_true rfl) dX10_road_26 ⟨Nat.zero_le _, Nat.zero_le _⟩) (fun H locs S => ?_)
    refine lv_if_eq (tgt := 84) hx hb dX10_road_29 (by decide) (fun c8 => ?_) (fun c8 => ?_)
    · have h := q_ip c8 h
      refine lv_iconst (v := (-1)) hx hb dX10_road_84 (by decide) ?_
      exact q_iret hx hb hr S h hlk dX10_road_85
    · have h := q_ig c8 h
      refine lv_iload_n hx hb dX10_road_32 rfl (lv_at hl 1 rfl) ?_
      refine lv_iload_n hx hb dX10_road_33 rfl (lv_at hl 2 rfl) ?_
      refine lv_icmp_eq (tgt := 84) hx hb dX10_road_34 (by decide) (fun c9 => ?_) (fun c9 => ?_)
      · have h := q_ip c9 h
        refine lv_iconst (v := (-1)) hx hb dX10_road_84 (by decide) ?_
        exact q_iret hx hb hr S h hlk dX10_road_85
      · have h := q_ig c9 h
        refine lv_iload_n hx hb dX10_road_37 rfl (lv_at hl 3 rfl) ?_
        refine lv_i2l (v := x3.toInt64) hx hb dX10_road_38 rfl ?_
        refine lv_lconst (v := 1) hx hb dX10_road_39 (by decide) ?_
        refine lv_ldc2 (v := 600) hx hb hown (hts (.constantLong RX10 115 (600)) (by decide +kernel)) dX10_road_40 ?_
        obtain ⟨r12, μ10, hc11, h⟩ := q_bd_some h
        refine q_ki F S (q_runS (As := [.long x3.toInt64, .long 1, .long 600]) (rest := []) ⟨hx, hb, hml, hown, hts⟩ F S (c_X10_in l E hE x3.toInt64 1 600 μ5 μ10 r12 hc11) (va_cwS 3 hts gX10_road_X10_in rfl rfl rfl (by decide +kernel) ⟨Nat.le_of_ble_eq_true rfl, Nat.le_of_ble_eq_true rfl⟩) rfl hl.1 rfl (Nat.le_of_ble_eq_true rfl) dX10_road_43 ⟨Nat.zero_le _, Nat.zero_le _⟩) (fun H locs S => ?_)
        refine lv_if_eq (tgt := 84) hx hb dX10_road_46 (by decide) (fun c13 => ?_) (fun c13 => ?_)
        · have h := q_ip c13 h
          refine lv_iconst (v := (-1)) hx hb dX10_road_84 (by decide) ?_
          exact q_iret hx hb hr S h hlk dX10_road_85
        · have h := q_ig c13 h
          refine lv_iload hx hb dX10_road_49 (lv_at hl 4 rfl) ?_
          refine lv_i2l (v := x4.toInt64) hx hb dX10_road_51 rfl ?_
          refine lv_lconst (v := 1) hx hb dX10_road_52 (by decide) ?_
          refine lv_ldc2 (v := 9999) hx hb hown (hts (.constantLong RX10 117 (9999)) (by decide +kernel)) dX10_road_53 ?_
          obtain ⟨r16, μ14, hc15, h⟩ := q_bd_some h
          refine q_ki F S (q_runS (As := [.long x4.toInt64, .long 1, .long 9999]) (rest := []) ⟨hx, hb, hml, hown, hts⟩ F S (c_X10_in l E hE x4.toInt64 1 9999 μ10 μ14 r16 hc15) (va_cwS 3 hts gX10_road_X10_in rfl rfl rfl (by decide +kernel) ⟨Nat.le_of_ble_eq_true rfl, Nat.le_of_ble_eq_true rfl⟩) rfl hl.1 rfl (Nat.le_of_ble_eq_true rfl) dX10_road_56 ⟨Nat.zero_le _, Nat.zero_le _⟩) (fun H locs S => ?_)
          refine lv_if_eq (tgt := 84) hx hb dX10_road_59 (by decide) (fun c17 => ?_) (fun c17 => ?_)
          · have h := q_ip c17 h
            refine lv_iconst (v := (-1)) hx hb dX10_road_84 (by decide) ?_
            exact q_iret hx hb hr S h hlk dX10_road_85
          · have h := q_ig c17 h
            refine lv_iload hx hb dX10_road_62 (lv_at hl 5 rfl) ?_
            refine lv_i2l (v := x5.toInt64) hx hb dX10_road_64 rfl ?_
            refine lv_lconst (v := 1) hx hb dX10_road_65 (by decide) ?_
            refine lv_ldc2 (v := 9999) hx hb hown (hts (.constantLong RX10 117 (9999)) (by decide +kernel)) dX10_road_66 ?_
            obtain ⟨r20, μ18, hc19, h⟩ := q_bd_some h
            refine q_ki F S (q_runS (As := [.long x5.toInt64, .long 1, .long 9999]) (rest := []) ⟨hx, hb, hml, hown, hts⟩ F S (c_X10_in l E hE x5.toInt64 1 9999 μ14 μ18 r20 hc19) (va_cwS 3 hts gX10_road_X10_in rfl rfl rfl (by decide +kernel) ⟨Nat.le_of_ble_eq_true rfl, Nat.le_of_ble_eq_true rfl⟩) rfl hl.1 rfl (Nat.le_of_ble_eq_true rfl) dX10_road_69 ⟨Nat.zero_le _, Nat.zero_le _⟩) (fun H locs S => ?_)
            refine lv_if_eq (tgt := 84) hx hb dX10_road_72 (by decide) (fun c21 => ?_) (fun c21 => ?_)
            · have h := q_ip c21 h
              refine lv_iconst (v := (-1)) hx hb dX10_road_84 (by decide) ?_
              exact q_iret hx hb hr S h hlk dX10_road_85
            · have h := q_ig c21 h
              refine lv_aload_n hx hb dX10_road_75 rfl (lv_at hl 0 rfl) ?_
              refine q_geti (own := RX10) (C := RX10) (T := TX10) (N := 54) (ci := 10) (j := 1)  hx hb hts i10 hown F S q_k137 (by decide) rfl (by decide) (by decide) rfl (hts (.fieldLink RX10 99 "HeavyRoutesModel" "roads" "I") (by decide +kernel)) dX10_road_76 ?_
              refine lv_bipush (v := 12) hx hb dX10_road_79 (by decide) ?_
              refine lv_icmp_ne (tgt := 86) hx hb dX10_road_81 (by decide) (fun c22 => ?_) (fun c22 => ?_)
              · have h := q_ig c22 h
                refine lv_aload_n hx hb dX10_road_86 rfl (lv_at hl 0 rfl) ?_
                refine q_getr (own := RX10) (C := RX10) (T := TX10) (N := 54) (ci := 10) (j := 2)  (b := 138) hx hb hts i10 hown F S q_k137 (by decide) rfl (by decide) (by decide) rfl (by decide) (hts (.fieldLink RX10 7 "HeavyRoutesModel" "as" "[I") (by decide +kernel)) dX10_road_87 ?_
                refine lv_aload_n hx hb dX10_road_90 rfl (lv_at hl 0 rfl) ?_
                refine q_geti (own := RX10) (C := RX10) (T := TX10) (N := 54) (ci := 10) (j := 1)  hx hb hts i10 hown F S q_k137 (by decide) rfl (by decide) (by decide) rfl (hts (.fieldLink RX10 99 "HeavyRoutesModel" "roads" "I") (by decide +kernel)) dX10_road_91 ?_
                refine lv_iload_n hx hb dX10_road_94 rfl (lv_at hl 1 rfl) ?_
                obtain ⟨g23, h⟩ := q_gd_some h
                refine q_iast hx hb F S q_k138 q_n138 g23 dX10_road_95 (fun H locs μ24 eμ24 S => ?_)
                have h := q_le_e h eμ24
                refine lv_aload_n hx hb dX10_road_96 rfl (lv_at hl 0 rfl) ?_
                refine q_getr (own := RX10) (C := RX10) (T := TX10) (N := 54) (ci := 10) (j := 3)  (b := 139) hx hb hts i10 hown F S q_k137 (by decide) rfl (by decide) (by decide) rfl (by decide) (hts (.fieldLink RX10 13 "HeavyRoutesModel" "bs" "[I") (by decide +kernel)) dX10_road_97 ?_
                refine lv_aload_n hx hb dX10_road_100 rfl (lv_at hl 0 rfl) ?_
                refine q_geti (own := RX10) (C := RX10) (T := TX10) (N := 54) (ci := 10) (j := 1)  hx hb hts i10 hown F S q_k137 (by decide) rfl (by decide) (by decide) rfl (hts (.fieldLink RX10 99 "HeavyRoutesModel" "roads" "I") (by decide +kernel)) dX10_road_101 ?_
                refine lv_iload_n hx hb dX10_road_104 rfl (lv_at hl 2 rfl) ?_
                obtain ⟨g25, h⟩ := q_gd_some h
                refine q_iast hx hb F S q_k139 q_n139 g25 dX10_road_105 (fun H locs μ26 eμ26 S => ?_)
                have h := q_le_e h eμ26
                refine lv_aload_n hx hb dX10_road_106 rfl (lv_at hl 0 rfl) ?_
                refine q_getr (own := RX10) (C := RX10) (T := TX10) (N := 54) (ci := 10) (j := 4)  (b := 140) hx hb hts i10 hown F S q_k137 (by decide) rfl (by decide) (by decide) rfl (by decide) (hts (.fieldLink RX10 16 "HeavyRoutesModel" "minutes" "[I") (by decide +kernel)) dX10_road_107 ?_
                refine lv_aload_n hx hb dX10_road_110 rfl (lv_at hl 0 rfl) ?_
                refine q_geti (own := RX10) (C := RX10) (T := TX10) (N := 54) (ci := 10) (j := 1)  hx hb hts i10 hown F S q_k137 (by decide) rfl (by decide) (by decide) rfl (hts (.fieldLink RX10 99 "HeavyRoutesModel" "roads" "I") (by decide +kernel)) dX10_road_111 ?_
                refine lv_iload_n hx hb dX10_road_114 rfl (lv_at hl 3 rfl) ?_
                obtain ⟨g27, h⟩ := q_gd_some h
                refine q_iast hx hb F S q_k140 q_n140 g27 dX10_road_115 (fun H locs μ28 eμ28 S => ?_)
                have h := q_le_e h eμ28
                refine lv_aload_n hx hb dX10_road_116 rfl (lv_at hl 0 rfl) ?_
                refine q_getr (own := RX10) (C := RX10) (T := TX10) (N := 54) (ci := 10) (j := 5)  (b := 141) hx hb hts i10 hown F S q_k137 (by decide) rfl (by decide) (by decide) rfl (by decide) (hts (.fieldLink RX10 19 "HeavyRoutesModel" "heights" "[I") (by decide +kernel)) dX10_road_117 ?_
                refine lv_aload_n hx hb dX10_road_120 rfl (lv_at hl 0 rfl) ?_
                refine q_geti (own := RX10) (C := RX10) (T := TX10) (N := 54) (ci := 10) (j := 1)  hx hb hts i10 hown F S q_k137 (by decide) rfl (by decide) (by decide) rfl (hts (.fieldLink RX10 99 "HeavyRoutesModel" "roads" "I") (by decide +kernel)) dX10_road_121 ?_
                refine lv_iload hx hb dX10_road_124 (lv_at hl 4 rfl) ?_
                obtain ⟨g29, h⟩ := q_gd_some h
                refine q_iast hx hb F S q_k141 q_n141 g29 dX10_road_126 (fun H locs μ30 eμ30 S => ?_)
                have h := q_le_e h eμ30
                refine lv_aload_n hx hb dX10_road_127 rfl (lv_at hl 0 rfl) ?_
                refine q_getr (own := RX10) (C := RX10) (T := TX10) (N := 54) (ci := 10) (j := 6)  (b := 142) hx hb hts i10 hown F S q_k137 (by decide) rfl (by decide) (by decide) rfl (by decide) (hts (.fieldLink RX10 22 "HeavyRoutesModel" "widths" "[I") (by decide +kernel)) dX10_road_128 ?_
                refine lv_aload_n hx hb dX10_road_131 rfl (lv_at hl 0 rfl) ?_
                refine q_geti (own := RX10) (C := RX10) (T := TX10) (N := 54) (ci := 10) (j := 1)  hx hb hts i10 hown F S q_k137 (by decide) rfl (by decide) (by decide) rfl (hts (.fieldLink RX10 99 "HeavyRoutesModel" "roads" "I") (by decide +kernel)) dX10_road_132 ?_
                refine lv_iload hx hb dX10_road_135 (lv_at hl 5 rfl) ?_
                obtain ⟨g31, h⟩ := q_gd_some h
                refine q_iast hx hb F S q_k142 q_n142 g31 dX10_road_137 (fun H locs μ32 eμ32 S => ?_)
                have h := q_le_e h eμ32
                refine lv_aload_n hx hb dX10_road_138 rfl (lv_at hl 0 rfl) ?_
                refine q_getr (own := RX10) (C := RX10) (T := TX10) (N := 54) (ci := 10) (j := 7)  (b := 143) hx hb hts i10 hown F S q_k137 (by decide) rfl (by decide) (by decide) rfl (by decide) (hts (.fieldLink RX10 25 "HeavyRoutesModel" "open" "[Z") (by decide +kernel)) dX10_road_139 ?_
                refine lv_aload_n hx hb dX10_road_142 rfl (lv_at hl 0 rfl) ?_
                refine q_geti (own := RX10) (C := RX10) (T := TX10) (N := 54) (ci := 10) (j := 1)  hx hb hts i10 hown F S q_k137 (by decide) rfl (by decide) (by decide) rfl (hts (.fieldLink RX10 99 "HeavyRoutesModel" "roads" "I") (by decide +kernel)) dX10_road_143 ?_
                refine lv_iconst (v := 1) hx hb dX10_road_146 (by decide) ?_
                obtain ⟨g33, h⟩ := q_gd_some h
                refine q_zast hx hb F S q_k143 q_n143 g33 (by decide) dX10_road_147 (fun H locs μ34 eμ34 S => ?_)
                have h := q_le_e h eμ34
                refine lv_aload_n hx hb dX10_road_148 rfl (lv_at hl 0 rfl) ?_
                refine q_getr (own := RX10) (C := RX10) (T := TX10) (N := 54) (ci := 10) (j := 8)  (b := 144) hx hb hts i10 hown F S q_k137 (by decide) rfl (by decide) (by decide) rfl (by decide) (hts (.fieldLink RX10 29 "HeavyRoutesModel" "bridgeOf" "[I") (by decide +kernel)) dX10_road_149 ?_
                refine lv_aload_n hx hb dX10_road_152 rfl (lv_at hl 0 rfl) ?_
                refine q_geti (own := RX10) (C := RX10) (T := TX10) (N := 54) (ci := 10) (j := 1)  hx hb hts i10 hown F S q_k137 (by decide) rfl (by decide) (by decide) rfl (hts (.fieldLink RX10 99 "HeavyRoutesModel" "roads" "I") (by decide +kernel)) dX10_road_153 ?_
                refine lv_bipush (v := (-2)) hx hb dX10_road_156 (by decide) ?_
                obtain ⟨g35, h⟩ := q_gd_some h
                refine q_iast hx hb F S q_k144 q_n144 g35 dX10_road_158 (fun H locs μ36 eμ36 S => ?_)
                have h := q_le_e h eμ36
                refine lv_aload_n hx hb dX10_road_159 rfl (lv_at hl 0 rfl) ?_
                refine lv_dup hx hb dX10_road_160 rfl ?_
                refine q_geti (own := RX10) (C := RX10) (T := TX10) (N := 54) (ci := 10) (j := 1)  hx hb hts i10 hown F S q_k137 (by decide) rfl (by decide) (by decide) rfl (hts (.fieldLink RX10 99 "HeavyRoutesModel" "roads" "I") (by decide +kernel)) dX10_road_161 ?_
                refine lv_iconst (v := 1) hx hb dX10_road_164 (by decide) ?_
                refine lv_iadd hx hb dX10_road_165 ?_
                refine q_puti (own := RX10) (C := RX10) (T := TX10) (N := 54) (ci := 10) (j := 1)  hx hb hts i10 tyX10 tyX10_ok nmX10 hown F S q_k137 (by decide) rfl (by decide) (by decide) rfl (hts (.fieldLink RX10 99 "HeavyRoutesModel" "roads" "I") (by decide +kernel)) rfl (by decide +kernel) dX10_road_166 (fun H locs μ37 eμ37 S => ?_)
                have h := q_le_e h eμ37
                refine lv_aload_n hx hb dX10_road_169 rfl (lv_at hl 0 rfl) ?_
                obtain ⟨u38, μ38, hc39, h⟩ := q_bd_some h
                refine q_kv F S (q_runV (As := []) (rest := []) (b := 137) ⟨hx, hb, hml, hown, hts⟩ F S (c_X10_forget l E hE  μ37 μ38 u38 hc39) (cwV 0 hts gX10_road_X10_forget rfl rfl rfl (by decide +kernel) ⟨Nat.le_of_ble_eq_true rfl, Nat.le_of_ble_eq_true rfl⟩) q_k137 (by decide) rfl rfl hl.1 rfl (Nat.le_of_ble_eq_true rfl) dX10_road_170 ⟨Nat.zero_le _, Nat.zero_le _⟩) (fun H locs S => ?_)
                refine lv_aload_n hx hb dX10_road_173 rfl (lv_at hl 0 rfl) ?_
                refine q_geti (own := RX10) (C := RX10) (T := TX10) (N := 54) (ci := 10) (j := 1)  hx hb hts i10 hown F S q_k137 (by decide) rfl (by decide) (by decide) rfl (hts (.fieldLink RX10 99 "HeavyRoutesModel" "roads" "I") (by decide +kernel)) dX10_road_174 ?_
                refine lv_iconst (v := 1) hx hb dX10_road_177 (by decide) ?_
                refine lv_isub hx hb dX10_road_178 ?_
                exact q_iret hx hb hr S h hlk dX10_road_179
              · have h := q_ip c22 h
                refine lv_iconst (v := (-1)) hx hb dX10_road_84 (by decide) ?_
                exact q_iret hx hb hr S h hlk dX10_road_85
def f_X10_bridge (x1 : Int32) (μ : q_M) : Option (Int32 × q_M) := q_bd (f_X10_isRoad x1 μ) (fun r3 μ1 => (if r3 = 0 then some ((-1), μ1) else q_gd (q_ix x1 12) ((if 0 ≤ (μ1.1 144 x1.toNatClampNeg) then some ((-1), μ1) else (if (μ1.1 137 13) = 6 then some ((-1), μ1) else q_le (q_si μ1 144 x1.toNatClampNeg (μ1.1 137 13)) (fun μ8 => q_le (q_si μ8 137 13 ((μ8.1 137 13) + 1)) (fun μ9 => q_bd (f_X10_forget  μ9) (fun u10 μ10 => some (((μ10.1 137 13) - 1), μ10)))))))))
set_option maxHeartbeats 4000000 in
set_option maxRecDepth 100000 in
theorem c_X10_bridge (l : Launch) (E : q_E) (hE : q_I E) (x1 : Int32) (μ μr : q_M) (r : Int32) (h : f_X10_bridge x1 μ = some (r, μr)) : Met l yX10_bridge wsX10_bridge ({ frames := 2, cells := 0, slots := 0, locals := 46 }) (q_Pc E μ [.ref (E.2.2.2 137), .int x1]) (q_Qi E r μr) 0 0 (q_A E) := by
  refine q_met (cc := cX10_bridge) (maxL := 2) (ret := (some .int)) hE (by decide) rfl (Nat.le_of_ble_eq_true rfl) ?_
  intro p e s m below meth c hx hb hr hml hown hts hlk F S ls hl
  have hl : lv_has ls 2 [(0, .ref (E.2.2.2 137)), (1, .int x1)] := hl
  have i10 : ∀ w ∈ u_ws RX10 TX10 54, w ∈ wsX10_bridge := by decide +kernel
  unfold f_X10_bridge at h
  obtain ⟨H, eH⟩ : ∃ z, z = s.heap := ⟨_, rfl⟩
  obtain ⟨locs, eL⟩ : ∃ z : List Loc, z = [] := ⟨_, rfl⟩
  rw [← eH, ← eL] at S
  suffices hh : W p l e ({ frames := 2, cells := 0, slots := 0, locals := 46 }) s m ([.ref (E.2.2.2 137), .int x1] : List Value).toArray below meth c H locs 0 0 (MQ below (q_Qi E r μr) ([.ref (E.2.2.2 137), .int x1] : List Value).toArray s 0 0 (q_A E)) (F0 m 0 ls []) by rw [eH, eL] at hh; exact hh
  refine lv_aload_n hx hb dX10_bridge_0 rfl (lv_at hl 0 rfl) ?_
  refine lv_iload_n hx hb dX10_bridge_1 rfl (lv_at hl 1 rfl) ?_
  obtain ⟨r3, μ1, hc2, h⟩ := q_bd_some h
  refine q_ki F S (q_runV (As := [.int x1]) (rest := []) (b := 137) ⟨hx, hb, hml, hown, hts⟩ F S (c_X10_isRoad l E hE x1 μ μ1 r3 hc2) (cwV 1 hts gX10_bridge_X10_isRoad rfl rfl rfl (by decide +kernel) ⟨Nat.le_of_ble_eq_true rfl, Nat.le_of_ble_eq_true rfl⟩) q_k137 (by decide) rfl rfl hl.1 rfl (Nat.le_of_ble_eq_true rfl) dX10_bridge_2 ⟨Nat.zero_le _, Nat.zero_le _⟩) (fun H locs S => ?_)
  refine lv_if_eq (tgt := 26) hx hb dX10_bridge_5 (by decide) (fun c4 => ?_) (fun c4 => ?_)
  · have h := q_ip c4 h
    refine lv_iconst (v := (-1)) hx hb dX10_bridge_26 (by decide) ?_
    exact q_iret hx hb hr S h hlk dX10_bridge_27
  · have h := q_ig c4 h
    refine lv_aload_n hx hb dX10_bridge_8 rfl (lv_at hl 0 rfl) ?_
    refine q_getr (own := RX10) (C := RX10) (T := TX10) (N := 54) (ci := 10) (j := 8)  (b := 144) hx hb hts i10 hown F S q_k137 (by decide) rfl (by decide) (by decide) rfl (by decide) (hts (.fieldLink RX10 29 "HeavyRoutesModel" "bridgeOf" "[I") (by decide +kernel)) dX10_bridge_9 ?_
    refine lv_iload_n hx hb dX10_bridge_12 rfl (lv_at hl 1 rfl) ?_
    obtain ⟨g5, h⟩ := q_gd_some h
    refine q_iald hx hb F S q_k144 q_n144 g5 dX10_bridge_13 ?_
    refine lv_if_ge (tgt := 26) hx hb dX10_bridge_14 (by decide) (fun c6 => ?_) (fun c6 => ?_)
    · have h := q_ip c6 h
      refine lv_iconst (v := (-1)) hx hb dX10_bridge_26 (by decide) ?_
      exact q_iret hx hb hr S h hlk dX10_bridge_27
    · have h := q_ig c6 h
      refine lv_aload_n hx hb dX10_bridge_17 rfl (lv_at hl 0 rfl) ?_
      refine q_geti (own := RX10) (C := RX10) (T := TX10) (N := 54) (ci := 10) (j := 13)  hx hb hts i10 hown F S q_k137 (by decide) rfl (by decide) (by decide) rfl (hts (.fieldLink RX10 106 "HeavyRoutesModel" "bridges" "I") (by decide +kernel)) dX10_bridge_18 ?_
      refine lv_bipush (v := 6) hx hb dX10_bridge_21 (by decide) ?_
      refine lv_icmp_ne (tgt := 28) hx hb dX10_bridge_23 (by decide) (fun c7 => ?_) (fun c7 => ?_)
      · have h := q_ig c7 h
        refine lv_aload_n hx hb dX10_bridge_28 rfl (lv_at hl 0 rfl) ?_
        refine q_getr (own := RX10) (C := RX10) (T := TX10) (N := 54) (ci := 10) (j := 8)  (b := 144) hx hb hts i10 hown F S q_k137 (by decide) rfl (by decide) (by decide) rfl (by decide) (hts (.fieldLink RX10 29 "HeavyRoutesModel" "bridgeOf" "[I") (by decide +kernel)) dX10_bridge_29 ?_
        refine lv_iload_n hx hb dX10_bridge_32 rfl (lv_at hl 1 rfl) ?_
        refine lv_aload_n hx hb dX10_bridge_33 rfl (lv_at hl 0 rfl) ?_
        refine q_geti (own := RX10) (C := RX10) (T := TX10) (N := 54) (ci := 10) (j := 13)  hx hb hts i10 hown F S q_k137 (by decide) rfl (by decide) (by decide) rfl (hts (.fieldLink RX10 106 "HeavyRoutesModel" "bridges" "I") (by decide +kernel)) dX10_bridge_34 ?_
        refine q_iast hx hb F S q_k144 q_n144 g5 dX10_bridge_37 (fun H locs μ8 eμ8 S => ?_)
        have h := q_le_e h eμ8
        refine lv_aload_n hx hb dX10_bridge_38 rfl (lv_at hl 0 rfl) ?_
        refine lv_dup hx hb dX10_bridge_39 rfl ?_
        refine q_geti (own := RX10) (C := RX10) (T := TX10) (N := 54) (ci := 10) (j := 13)  hx hb hts i10 hown F S q_k137 (by decide) rfl (by decide) (by decide) rfl (hts (.fieldLink RX10 106 "HeavyRoutesModel" "bridges" "I") (by decide +kernel)) dX10_bridge_40 ?_
        refine lv_iconst (v := 1) hx hb dX10_bridge_43 (by decide) ?_
        refine lv_iadd hx hb dX10_bridge_44 ?_
        refine q_puti (own := RX10) (C := RX10) (T := TX10) (N := 54) (ci := 10) (j := 13)  hx hb hts i10 tyX10 tyX10_ok nmX10 hown F S q_k137 (by decide) rfl (by decide) (by decide) rfl (hts (.fieldLink RX10 106 "HeavyRoutesModel" "bridges" "I") (by decide +kernel)) rfl (by decide +kernel) dX10_bridge_45 (fun H locs μ9 eμ9 S => ?_)
        have h := q_le_e h eμ9
        refine lv_aload_n hx hb dX10_bridge_48 rfl (lv_at hl 0 rfl) ?_
        obtain ⟨u10, μ10, hc11, h⟩ := q_bd_some h
        refine q_kv F S (q_runV (As := []) (rest := []) (b := 137) ⟨hx, hb, hml, hown, hts⟩ F S (c_X10_forget l E hE  μ9 μ10 u10 hc11) (cwV 0 hts gX10_bridge_X10_forget rfl rfl rfl (by decide +kernel) ⟨Nat.le_of_ble_eq_true rfl, Nat.le_of_ble_eq_true rfl⟩) q_k137 (by decide) rfl rfl hl.1 rfl (Nat.le_of_ble_eq_true rfl) dX10_bridge_49 ⟨Nat.zero_le _, Nat.zero_le _⟩) (fun H locs S => ?_)
        refine lv_aload_n hx hb dX10_bridge_52 rfl (lv_at hl 0 rfl) ?_
        refine q_geti (own := RX10) (C := RX10) (T := TX10) (N := 54) (ci := 10) (j := 13)  hx hb hts i10 hown F S q_k137 (by decide) rfl (by decide) (by decide) rfl (hts (.fieldLink RX10 106 "HeavyRoutesModel" "bridges" "I") (by decide +kernel)) dX10_bridge_53 ?_
        refine lv_iconst (v := 1) hx hb dX10_bridge_56 (by decide) ?_
        refine lv_isub hx hb dX10_bridge_57 ?_
        exact q_iret hx hb hr S h hlk dX10_bridge_58
      · have h := q_ip c7 h
        refine lv_iconst (v := (-1)) hx hb dX10_bridge_26 (by decide) ?_
        exact q_iret hx hb hr S h hlk dX10_bridge_27
def J_X10_row_97 (x1 : Int32) (x2 : Int64) (x4 : Int64) (x6 : Int64) (v8 : Int32) (μ : q_M) : Option (Int32 × q_M) := q_gd (q_ix v8 36) (q_le (q_si μ 151 v8.toNatClampNeg x2.toInt32) (fun μ22 => q_le (q_si μ22 152 v8.toNatClampNeg x4.toInt32) (fun μ23 => q_le (q_si μ23 153 v8.toNatClampNeg x6.toInt32) (fun μ24 => q_gd (q_ix x1 6) (q_le (q_si μ24 150 x1.toNatClampNeg ((μ24.1 150 x1.toNatClampNeg) + 1)) (fun μ26 => q_bd (f_X10_forget  μ26) (fun u27 μ27 => some (1, μ27))))))))
def f_X10_row (x1 : Int32) (x2 : Int64) (x4 : Int64) (x6 : Int64) (μ : q_M) : Option (Int32 × q_M) := q_bd (f_X10_isBridge x1 μ) (fun r3 μ1 => (if r3 = 0 then some (0, μ1) else q_bd (f_X10_in x2 0 60 μ1) (fun r7 μ5 => (if r7 = 0 then some (0, μ5) else q_bd (f_X10_in x4 (-1000) 1000 μ5) (fun r11 μ9 => (if r11 = 0 then some (0, μ9) else q_bd (f_X10_in x6 1 1000 μ9) (fun r15 μ13 => (if r15 = 0 then some (0, μ13) else q_gd (q_ix x1 6) ((if (μ13.1 150 x1.toNatClampNeg) = 6 then some (0, μ13) else q_le (((6 * x1) + (μ13.1 150 x1.toNatClampNeg)) : Int32) (fun y19 => (if (μ13.1 150 x1.toNatClampNeg) ≤ 0 then J_X10_row_97 x1 x2 x4 x6 y19 μ13 else q_gd (q_ix (y19 - 1) 36) ((if 0 < (lg_cmp x2 ((μ13.1 151 (y19 - 1).toNatClampNeg).toInt64)) then J_X10_row_97 x1 x2 x4 x6 y19 μ13 else some (0, μ13)))))))))))))))
set_option maxHeartbeats 4000000 in
set_option maxRecDepth 100000 in
theorem c_X10_row (l : Launch) (E : q_E) (hE : q_I E) (x1 : Int32) (x2 : Int64) (x4 : Int64) (x6 : Int64) (μ μr : q_M) (r : Int32) (h : f_X10_row x1 x2 x4 x6 μ = some (r, μr)) : Met l yX10_row wsX10_row ({ frames := 2, cells := 0, slots := 0, locals := 46 }) (q_Pc E μ [.ref (E.2.2.2 137), .int x1, .long x2, .long x4, .long x6]) (q_Qi E r μr) 0 0 (q_A E) := by
  refine q_met (cc := cX10_row) (maxL := 9) (ret := (some .boolean)) hE (by decide) rfl (Nat.le_of_ble_eq_true rfl) ?_
  intro p e s m below meth c hx hb hr hml hown hts hlk F S ls hl
  have hl : lv_has ls 9 [(0, .ref (E.2.2.2 137)), (1, .int x1), (2, .long x2), (4, .long x4), (6, .long x6)] := hl
  have i10 : ∀ w ∈ u_ws RX10 TX10 54, w ∈ wsX10_row := by decide +kernel
  have hJ97 : ∀ (v8 : Int32), ∀ (μ : q_M) (H : Heap) (locs : List Loc) (ls : Array Slot), q_S E (q_A E) s μ H locs → lv_has ls 9 [(0, .ref (E.2.2.2 137)), (1, .int x1), (2, .long x2), (4, .long x4), (6, .long x6), (8, .int v8)] → J_X10_row_97 x1 x2 x4 x6 v8 μ = some (r, μr) → W p l e ({ frames := 2, cells := 0, slots := 0, locals := 46 }) s m ([.ref (E.2.2.2 137), .int x1, .long x2, .long x4, .long x6] : List Value).toArray below meth c H locs 0 0 (MQ below (q_Qi E r μr) ([.ref (E.2.2.2 137), .int x1, .long x2, .long x4, .long x6] : List Value).toArray s 0 0 (q_A E)) (F0 m 97 ls []) := by
    intro v8 μ H locs ls S hl h
    rw [J_X10_row_97] at h
    refine lv_aload_n hx hb dX10_row_97 rfl (lv_at hl 0 rfl) ?_
    refine q_getr (own := RX10) (C := RX10) (T := TX10) (N := 54) (ci := 10) (j := 16)  (b := 151) hx hb hts i10 hown F S q_k137 (by decide) rfl (by decide) (by decide) rfl (by decide) (hts (.fieldLink RX10 50 "HeavyRoutesModel" "places" "[I") (by decide +kernel)) dX10_row_98 ?_
    refine lv_iload hx hb dX10_row_101 (lv_at hl 5 rfl) ?_
    refine lv_lload_n hx hb dX10_row_103 rfl (lv_at hl 2 rfl) ?_
    refine lv_l2i (v := x2.toInt32) hx hb dX10_row_104 rfl ?_
    obtain ⟨g21, h⟩ := q_gd_some h
    refine q_iast hx hb F S q_k151 q_n151 g21 dX10_row_105 (fun H locs μ22 eμ22 S => ?_)
    have h := q_le_e h eμ22
    refine lv_aload_n hx hb dX10_row_106 rfl (lv_at hl 0 rfl) ?_
    refine q_getr (own := RX10) (C := RX10) (T := TX10) (N := 54) (ci := 10) (j := 17)  (b := 152) hx hb hts i10 hown F S q_k137 (by decide) rfl (by decide) (by decide) rfl (by decide) (hts (.fieldLink RX10 53 "HeavyRoutesModel" "aboves" "[I") (by decide +kernel)) dX10_row_107 ?_
    refine lv_iload hx hb dX10_row_110 (lv_at hl 5 rfl) ?_
    refine lv_lload hx hb dX10_row_112 (lv_at hl 3 rfl) ?_
    refine lv_l2i (v := x4.toInt32) hx hb dX10_row_114 rfl ?_
    refine q_iast hx hb F S q_k152 q_n152 g21 dX10_row_115 (fun H locs μ23 eμ23 S => ?_)
    have h := q_le_e h eμ23
    refine lv_aload_n hx hb dX10_row_116 rfl (lv_at hl 0 rfl) ?_
    refine q_getr (own := RX10) (C := RX10) (T := TX10) (N := 54) (ci := 10) (j := 18)  (b := 153) hx hb hts i10 hown F S q_k137 (by decide) rfl (by decide) (by decide) rfl (by decide) (hts (.fieldLink RX10 56 "HeavyRoutesModel" "belows" "[I") (by decide +kernel)) dX10_row_117 ?_
    refine lv_iload hx hb dX10_row_120 (lv_at hl 5 rfl) ?_
    refine lv_lload hx hb dX10_row_122 (lv_at hl 4 rfl) ?_
    refine lv_l2i (v := x6.toInt32) hx hb dX10_row_124 rfl ?_
    refine q_iast hx hb F S q_k153 q_n153 g21 dX10_row_125 (fun H locs μ24 eμ24 S => ?_)
    have h := q_le_e h eμ24
    refine lv_aload_n hx hb dX10_row_126 rfl (lv_at hl 0 rfl) ?_
    refine q_getr (own := RX10) (C := RX10) (T := TX10) (N := 54) (ci := 10) (j := 15)  (b := 150) hx hb hts i10 hown F S q_k137 (by decide) rfl (by decide) (by decide) rfl (by decide) (hts (.fieldLink RX10 47 "HeavyRoutesModel" "cornerCounts" "[I") (by decide +kernel)) dX10_row_127 ?_
    refine lv_iload_n hx hb dX10_row_130 rfl (lv_at hl 1 rfl) ?_
    refine lv_dup2_11 hx hb dX10_row_131 rfl rfl ?_
    obtain ⟨g25, h⟩ := q_gd_some h
    refine q_iald hx hb F S q_k150 q_n150 g25 dX10_row_132 ?_
    refine lv_iconst (v := 1) hx hb dX10_row_133 (by decide) ?_
    refine lv_iadd hx hb dX10_row_134 ?_
    refine q_iast hx hb F S q_k150 q_n150 g25 dX10_row_135 (fun H locs μ26 eμ26 S => ?_)
    have h := q_le_e h eμ26
    refine lv_aload_n hx hb dX10_row_136 rfl (lv_at hl 0 rfl) ?_
    obtain ⟨u27, μ27, hc28, h⟩ := q_bd_some h
    refine q_kv F S (q_runV (As := []) (rest := []) (b := 137) ⟨hx, hb, hml, hown, hts⟩ F S (c_X10_forget l E hE  μ26 μ27 u27 hc28) (cwV 0 hts gX10_row_X10_forget rfl rfl rfl (by decide +kernel) ⟨Nat.le_of_ble_eq_true rfl, Nat.le_of_ble_eq_true rfl⟩) q_k137 (by decide) rfl rfl hl.1 rfl (Nat.le_of_ble_eq_true rfl) dX10_row_137 ⟨Nat.zero_le _, Nat.zero_le _⟩) (fun H locs S => ?_)
    refine lv_iconst (v := 1) hx hb dX10_row_140 (by decide) ?_
    exact q_zret hx hb hr S (by decide) h hlk dX10_row_141
  unfold f_X10_row at h
  obtain ⟨H, eH⟩ : ∃ z, z = s.heap := ⟨_, rfl⟩
  obtain ⟨locs, eL⟩ : ∃ z : List Loc, z = [] := ⟨_, rfl⟩
  rw [← eH, ← eL] at S
  suffices hh : W p l e ({ frames := 2, cells := 0, slots := 0, locals := 46 }) s m ([.ref (E.2.2.2 137), .int x1, .long x2, .long x4, .long x6] : List Value).toArray below meth c H locs 0 0 (MQ below (q_Qi E r μr) ([.ref (E.2.2.2 137), .int x1, .long x2, .long x4, .long x6] : List Value).toArray s 0 0 (q_A E)) (F0 m 0 ls []) by rw [eH, eL] at hh; exact hh
  refine lv_aload_n hx hb dX10_row_0 rfl (lv_at hl 0 rfl) ?_
  refine lv_iload_n hx hb dX10_row_1 rfl (lv_at hl 1 rfl) ?_
  obtain ⟨r3, μ1, hc2, h⟩ := q_bd_some h
  refine q_ki F S (q_runV (As := [.int x1]) (rest := []) (b := 137) ⟨hx, hb, hml, hown, hts⟩ F S (c_X10_isBridge l E hE x1 μ μ1 r3 hc2) (cwV 1 hts gX10_row_X10_isBridge rfl rfl rfl (by decide +kernel) ⟨Nat.le_of_ble_eq_true rfl, Nat.le_of_ble_eq_true rfl⟩) q_k137 (by decide) rfl rfl hl.1 rfl (Nat.le_of_ble_eq_true rfl) dX10_row_2 ⟨Nat.zero_le _, Nat.zero_le _⟩) (fun H locs S => ?_)
  refine lv_if_eq (tgt := 56) hx hb dX10_row_5 (by decide) (fun c4 => ?_) (fun c4 => ?_)
  · have h := q_ip c4 h
    refine lv_iconst (v := 0) hx hb dX10_row_56 (by decide) ?_
    exact q_zret hx hb hr S (by decide) h hlk dX10_row_57
  · have h := q_ig c4 h
    refine lv_lload_n hx hb dX10_row_8 rfl (lv_at hl 2 rfl) ?_
    refine lv_lconst (v := 0) hx hb dX10_row_9 (by decide) ?_
    refine lv_ldc2 (v := 60) hx hb hown (hts (.constantLong RX10 129 (60)) (by decide +kernel)) dX10_row_10 ?_
    obtain ⟨r7, μ5, hc6, h⟩ := q_bd_some h
    refine q_ki F S (q_runS (As := [.long x2, .long 0, .long 60]) (rest := []) ⟨hx, hb, hml, hown, hts⟩ F S (c_X10_in l E hE x2 0 60 μ1 μ5 r7 hc6) (va_cwS 3 hts gX10_row_X10_in rfl rfl rfl (by decide +kernel) ⟨Nat.le_of_ble_eq_true rfl, Nat.le_of_ble_eq_true rfl⟩) rfl hl.1 rfl (Nat.le_of_ble_eq_true rfl) dX10_row_13 ⟨Nat.zero_le _, Nat.zero_le _⟩) (fun H locs S => ?_)
    refine lv_if_eq (tgt := 56) hx hb dX10_row_16 (by decide) (fun c8 => ?_) (fun c8 => ?_)
    · have h := q_ip c8 h
      refine lv_iconst (v := 0) hx hb dX10_row_56 (by decide) ?_
      exact q_zret hx hb hr S (by decide) h hlk dX10_row_57
    · have h := q_ig c8 h
      refine lv_lload hx hb dX10_row_19 (lv_at hl 3 rfl) ?_
      refine lv_ldc2 (v := (-1000)) hx hb hown (hts (.constantLong RX10 131 (-1000)) (by decide +kernel)) dX10_row_21 ?_
      refine lv_ldc2 (v := 1000) hx hb hown (hts (.constantLong RX10 133 (1000)) (by decide +kernel)) dX10_row_24 ?_
      obtain ⟨r11, μ9, hc10, h⟩ := q_bd_some h
      refine q_ki F S (q_runS (As := [.long x4, .long (-1000), .long 1000]) (rest := []) ⟨hx, hb, hml, hown, hts⟩ F S (c_X10_in l E hE x4 (-1000) 1000 μ5 μ9 r11 hc10) (va_cwS 3 hts gX10_row_X10_in rfl rfl rfl (by decide +kernel) ⟨Nat.le_of_ble_eq_true rfl, Nat.le_of_ble_eq_true rfl⟩) rfl hl.1 rfl (Nat.le_of_ble_eq_true rfl) dX10_row_27 ⟨Nat.zero_le _, Nat.zero_le _⟩) (fun H locs S => ?_)
      refine lv_if_eq (tgt := 56) hx hb dX10_row_30 (by decide) (fun c12 => ?_) (fun c12 => ?_)
      · have h := q_ip c12 h
        refine lv_iconst (v := 0) hx hb dX10_row_56 (by decide) ?_
        exact q_zret hx hb hr S (by decide) h hlk dX10_row_57
      · have h := q_ig c12 h
        refine lv_lload hx hb dX10_row_33 (lv_at hl 4 rfl) ?_
        refine lv_lconst (v := 1) hx hb dX10_row_35 (by decide) ?_
        refine lv_ldc2 (v := 1000) hx hb hown (hts (.constantLong RX10 133 (1000)) (by decide +kernel)) dX10_row_36 ?_
        obtain ⟨r15, μ13, hc14, h⟩ := q_bd_some h
        refine q_ki F S (q_runS (As := [.long x6, .long 1, .long 1000]) (rest := []) ⟨hx, hb, hml, hown, hts⟩ F S (c_X10_in l E hE x6 1 1000 μ9 μ13 r15 hc14) (va_cwS 3 hts gX10_row_X10_in rfl rfl rfl (by decide +kernel) ⟨Nat.le_of_ble_eq_true rfl, Nat.le_of_ble_eq_true rfl⟩) rfl hl.1 rfl (Nat.le_of_ble_eq_true rfl) dX10_row_39 ⟨Nat.zero_le _, Nat.zero_le _⟩) (fun H locs S => ?_)
        refine lv_if_eq (tgt := 56) hx hb dX10_row_42 (by decide) (fun c16 => ?_) (fun c16 => ?_)
        · have h := q_ip c16 h
          refine lv_iconst (v := 0) hx hb dX10_row_56 (by decide) ?_
          exact q_zret hx hb hr S (by decide) h hlk dX10_row_57
        · have h := q_ig c16 h
          refine lv_aload_n hx hb dX10_row_45 rfl (lv_at hl 0 rfl) ?_
          refine q_getr (own := RX10) (C := RX10) (T := TX10) (N := 54) (ci := 10) (j := 15)  (b := 150) hx hb hts i10 hown F S q_k137 (by decide) rfl (by decide) (by decide) rfl (by decide) (hts (.fieldLink RX10 47 "HeavyRoutesModel" "cornerCounts" "[I") (by decide +kernel)) dX10_row_46 ?_
          refine lv_iload_n hx hb dX10_row_49 rfl (lv_at hl 1 rfl) ?_
          obtain ⟨g17, h⟩ := q_gd_some h
          refine q_iald hx hb F S q_k150 q_n150 g17 dX10_row_50 ?_
          refine lv_bipush (v := 6) hx hb dX10_row_51 (by decide) ?_
          refine lv_icmp_ne (tgt := 58) hx hb dX10_row_53 (by decide) (fun c18 => ?_) (fun c18 => ?_)
          · have h := q_ig c18 h
            refine lv_bipush (v := 6) hx hb dX10_row_58 (by decide) ?_
            refine lv_iload_n hx hb dX10_row_60 rfl (lv_at hl 1 rfl) ?_
            refine lv_imul hx hb dX10_row_61 ?_
            refine lv_aload_n hx hb dX10_row_62 rfl (lv_at hl 0 rfl) ?_
            refine q_getr (own := RX10) (C := RX10) (T := TX10) (N := 54) (ci := 10) (j := 15)  (b := 150) hx hb hts i10 hown F S q_k137 (by decide) rfl (by decide) (by decide) rfl (by decide) (hts (.fieldLink RX10 47 "HeavyRoutesModel" "cornerCounts" "[I") (by decide +kernel)) dX10_row_63 ?_
            refine lv_iload_n hx hb dX10_row_66 rfl (lv_at hl 1 rfl) ?_
            refine q_iald hx hb F S q_k150 q_n150 g17 dX10_row_67 ?_
            refine lv_iadd hx hb dX10_row_68 ?_
            refine lv_topi (fun y19 ey19 => ?_)
            have h := q_le_e h ey19
            refine lv_istore (lv' := [(8, .int y19), (0, .ref (E.2.2.2 137)), (1, .int x1), (2, .long x2), (4, .long x4), (6, .long x6)]) hx hb dX10_row_69 hl (by decide) rfl (fun ls hl => ?_)
            refine lv_aload_n hx hb dX10_row_71 rfl (lv_at hl 1 rfl) ?_
            refine q_getr (own := RX10) (C := RX10) (T := TX10) (N := 54) (ci := 10) (j := 15)  (b := 150) hx hb hts i10 hown F S q_k137 (by decide) rfl (by decide) (by decide) rfl (by decide) (hts (.fieldLink RX10 47 "HeavyRoutesModel" "cornerCounts" "[I") (by decide +kernel)) dX10_row_72 ?_
            refine lv_iload_n hx hb dX10_row_75 rfl (lv_at hl 2 rfl) ?_
            refine q_iald hx hb F S q_k150 q_n150 g17 dX10_row_76 ?_
            refine lv_if_le (tgt := 97) hx hb dX10_row_77 (by decide) (fun c20 => ?_) (fun c20 => ?_)
            · have h := q_ip c20 h
              exact hJ97 y19 μ13 H locs ls S (lv_sub hl [1, 2, 3, 4, 5, 0] rfl) h
            · have h := q_ig c20 h
              refine lv_lload_n hx hb dX10_row_80 rfl (lv_at hl 3 rfl) ?_
              refine lv_aload_n hx hb dX10_row_81 rfl (lv_at hl 1 rfl) ?_
              refine q_getr (own := RX10) (C := RX10) (T := TX10) (N := 54) (ci := 10) (j := 16)  (b := 151) hx hb hts i10 hown F S q_k137 (by decide) rfl (by decide) (by decide) rfl (by decide) (hts (.fieldLink RX10 50 "HeavyRoutesModel" "places" "[I") (by decide +kernel)) dX10_row_82 ?_
              refine lv_iload hx hb dX10_row_85 (lv_at hl 0 rfl) ?_
              refine lv_iconst (v := 1) hx hb dX10_row_87 (by decide) ?_
              refine lv_isub hx hb dX10_row_88 ?_
              obtain ⟨g29, h⟩ := q_gd_some h
              refine q_iald hx hb F S q_k151 q_n151 g29 dX10_row_89 ?_
              refine lv_i2l (v := (μ13.1 151 (y19 - 1).toNatClampNeg).toInt64) hx hb dX10_row_90 rfl ?_
              refine W.lcmp hx hb dX10_row_91 ?_
              refine lv_if_gt (tgt := 97) hx hb dX10_row_92 (by decide) (fun c30 => ?_) (fun c30 => ?_)
              · have h := q_ip c30 h
                exact hJ97 y19 μ13 H locs ls S (lv_sub hl [1, 2, 3, 4, 5, 0] rfl) h
              · have h := q_ig c30 h
                refine lv_iconst (v := 0) hx hb dX10_row_95 (by decide) ?_
                exact q_zret hx hb hr S (by decide) h hlk dX10_row_96
          · have h := q_ip c18 h
            refine lv_iconst (v := 0) hx hb dX10_row_56 (by decide) ?_
            exact q_zret hx hb hr S (by decide) h hlk dX10_row_57
def J_X10_axle_80 (x1 : Int64) (x3 : Int64) (s0 : Int32) (s1 : Int32) (s2 : Int32) (μ : q_M) : Option (Int32 × q_M) := q_gd (q_ix s2 5) (q_le (q_si μ 154 s2.toNatClampNeg (s1 + s0)) (fun μ14 => q_gd (q_ix (μ14.1 137 19) 5) (q_le (q_si μ14 155 (μ14.1 137 19).toNatClampNeg x3.toInt32) (fun μ16 => q_le (q_si μ16 137 19 ((μ16.1 137 19) + 1)) (fun μ17 => q_bd (f_X10_forget  μ17) (fun u18 μ18 => some (1, μ18)))))))
def J_X10_axle_48 (x1 : Int64) (x3 : Int64) (μ : q_M) : Option (Int32 × q_M) := (if (μ.1 137 19) = 0 then J_X10_axle_80 x1 x3 0 x1.toInt32 (μ.1 137 19) μ else q_gd (q_ix ((μ.1 137 19) - 1) 5) (J_X10_axle_80 x1 x3 (μ.1 154 ((μ.1 137 19) - 1).toNatClampNeg) x1.toInt32 (μ.1 137 19) μ))
def f_X10_axle (x1 : Int64) (x3 : Int64) (μ : q_M) : Option (Int32 × q_M) := (if (μ.1 137 19) = 5 then some (0, μ) else q_bd (f_X10_in x3 0 1000 μ) (fun r4 μ2 => (if r4 = 0 then some (0, μ2) else (if (μ2.1 137 19) = 0 then (if (lg_cmp x1 0) = 0 then J_X10_axle_48 x1 x3 μ2 else some (0, μ2)) else q_bd (f_X10_in x1 1 30 μ2) (fun r9 μ7 => (if r9 = 0 then some (0, μ7) else J_X10_axle_48 x1 x3 μ7))))))
set_option maxHeartbeats 4000000 in
set_option maxRecDepth 100000 in
theorem c_X10_axle (l : Launch) (E : q_E) (hE : q_I E) (x1 : Int64) (x3 : Int64) (μ μr : q_M) (r : Int32) (h : f_X10_axle x1 x3 μ = some (r, μr)) : Met l yX10_axle wsX10_axle ({ frames := 1, cells := 0, slots := 0, locals := 25 }) (q_Pc E μ [.ref (E.2.2.2 137), .long x1, .long x3]) (q_Qi E r μr) 0 0 (q_A E) := by
  refine q_met (cc := cX10_axle) (maxL := 5) (ret := (some .boolean)) hE (by decide) rfl (Nat.le_of_ble_eq_true rfl) ?_
  intro p e s m below meth c hx hb hr hml hown hts hlk F S ls hl
  have hl : lv_has ls 5 [(0, .ref (E.2.2.2 137)), (1, .long x1), (3, .long x3)] := hl
  have i10 : ∀ w ∈ u_ws RX10 TX10 54, w ∈ wsX10_axle := by decide +kernel
  have hJ80 : ∀ (s0 : Int32), ∀ (s1 : Int32), ∀ (s2 : Int32), ∀ (μ : q_M) (H : Heap) (locs : List Loc) (ls : Array Slot), q_S E (q_A E) s μ H locs → lv_has ls 5 [(0, .ref (E.2.2.2 137)), (3, .long x3)] → J_X10_axle_80 x1 x3 s0 s1 s2 μ = some (r, μr) → W p l e ({ frames := 1, cells := 0, slots := 0, locals := 25 }) s m ([.ref (E.2.2.2 137), .long x1, .long x3] : List Value).toArray below meth c H locs 0 0 (MQ below (q_Qi E r μr) ([.ref (E.2.2.2 137), .long x1, .long x3] : List Value).toArray s 0 0 (q_A E)) (F0 m 80 ls [.int s0, .int s1, .int s2, .ref (E.2.2.2 154)]) := by
    intro s0 s1 s2 μ H locs ls S hl h
    rw [J_X10_axle_80] at h
    refine lv_iadd hx hb dX10_axle_80 ?_
    obtain ⟨g13, h⟩ := q_gd_some h
    refine q_iast hx hb F S q_k154 q_n154 g13 dX10_axle_81 (fun H locs μ14 eμ14 S => ?_)
    have h := q_le_e h eμ14
    refine lv_aload_n hx hb dX10_axle_82 rfl (lv_at hl 0 rfl) ?_
    refine q_getr (own := RX10) (C := RX10) (T := TX10) (N := 54) (ci := 10) (j := 21)  (b := 155) hx hb hts i10 hown F S q_k137 (by decide) rfl (by decide) (by decide) rfl (by decide) (hts (.fieldLink RX10 62 "HeavyRoutesModel" "loads" "[I") (by decide +kernel)) dX10_axle_83 ?_
    refine lv_aload_n hx hb dX10_axle_86 rfl (lv_at hl 0 rfl) ?_
    refine q_geti (own := RX10) (C := RX10) (T := TX10) (N := 54) (ci := 10) (j := 19)  hx hb hts i10 hown F S q_k137 (by decide) rfl (by decide) (by decide) rfl (hts (.fieldLink RX10 135 "HeavyRoutesModel" "axles" "I") (by decide +kernel)) dX10_axle_87 ?_
    refine lv_lload_n hx hb dX10_axle_90 rfl (lv_at hl 1 rfl) ?_
    refine lv_l2i (v := x3.toInt32) hx hb dX10_axle_91 rfl ?_
    obtain ⟨g15, h⟩ := q_gd_some h
    refine q_iast hx hb F S q_k155 q_n155 g15 dX10_axle_92 (fun H locs μ16 eμ16 S => ?_)
    have h := q_le_e h eμ16
    refine lv_aload_n hx hb dX10_axle_93 rfl (lv_at hl 0 rfl) ?_
    refine lv_dup hx hb dX10_axle_94 rfl ?_
    refine q_geti (own := RX10) (C := RX10) (T := TX10) (N := 54) (ci := 10) (j := 19)  hx hb hts i10 hown F S q_k137 (by decide) rfl (by decide) (by decide) rfl (hts (.fieldLink RX10 135 "HeavyRoutesModel" "axles" "I") (by decide +kernel)) dX10_axle_95 ?_
    refine lv_iconst (v := 1) hx hb dX10_axle_98 (by decide) ?_
    refine lv_iadd hx hb dX10_axle_99 ?_
    refine q_puti (own := RX10) (C := RX10) (T := TX10) (N := 54) (ci := 10) (j := 19)  hx hb hts i10 tyX10 tyX10_ok nmX10 hown F S q_k137 (by decide) rfl (by decide) (by decide) rfl (hts (.fieldLink RX10 135 "HeavyRoutesModel" "axles" "I") (by decide +kernel)) rfl (by decide +kernel) dX10_axle_100 (fun H locs μ17 eμ17 S => ?_)
    have h := q_le_e h eμ17
    refine lv_aload_n hx hb dX10_axle_103 rfl (lv_at hl 0 rfl) ?_
    obtain ⟨u18, μ18, hc19, h⟩ := q_bd_some h
    refine q_kv F S (q_runV (As := []) (rest := []) (b := 137) ⟨hx, hb, hml, hown, hts⟩ F S (c_X10_forget l E hE  μ17 μ18 u18 hc19) (cwV 0 hts gX10_axle_X10_forget rfl rfl rfl (by decide +kernel) ⟨Nat.le_of_ble_eq_true rfl, Nat.le_of_ble_eq_true rfl⟩) q_k137 (by decide) rfl rfl hl.1 rfl (Nat.le_of_ble_eq_true rfl) dX10_axle_104 ⟨Nat.zero_le _, Nat.zero_le _⟩) (fun H locs S => ?_)
    refine lv_iconst (v := 1) hx hb dX10_axle_107 (by decide) ?_
    exact q_zret hx hb hr S (by decide) h hlk dX10_axle_108
  have hJ48 : ∀ (μ : q_M) (H : Heap) (locs : List Loc) (ls : Array Slot), q_S E (q_A E) s μ H locs → lv_has ls 5 [(0, .ref (E.2.2.2 137)), (1, .long x1), (3, .long x3)] → J_X10_axle_48 x1 x3 μ = some (r, μr) → W p l e ({ frames := 1, cells := 0, slots := 0, locals := 25 }) s m ([.ref (E.2.2.2 137), .long x1, .long x3] : List Value).toArray below meth c H locs 0 0 (MQ below (q_Qi E r μr) ([.ref (E.2.2.2 137), .long x1, .long x3] : List Value).toArray s 0 0 (q_A E)) (F0 m 48 ls []) := by
    intro μ H locs ls S hl h
    rw [J_X10_axle_48] at h
    refine lv_aload_n hx hb dX10_axle_48 rfl (lv_at hl 0 rfl) ?_
    refine q_getr (own := RX10) (C := RX10) (T := TX10) (N := 54) (ci := 10) (j := 20)  (b := 154) hx hb hts i10 hown F S q_k137 (by decide) rfl (by decide) (by decide) rfl (by decide) (hts (.fieldLink RX10 59 "HeavyRoutesModel" "offsets" "[I") (by decide +kernel)) dX10_axle_49 ?_
    refine lv_aload_n hx hb dX10_axle_52 rfl (lv_at hl 0 rfl) ?_
    refine q_geti (own := RX10) (C := RX10) (T := TX10) (N := 54) (ci := 10) (j := 19)  hx hb hts i10 hown F S q_k137 (by decide) rfl (by decide) (by decide) rfl (hts (.fieldLink RX10 135 "HeavyRoutesModel" "axles" "I") (by decide +kernel)) dX10_axle_53 ?_
    refine lv_lload_n hx hb dX10_axle_56 rfl (lv_at hl 1 rfl) ?_
    refine lv_l2i (v := x1.toInt32) hx hb dX10_axle_57 rfl ?_
    refine lv_aload_n hx hb dX10_axle_58 rfl (lv_at hl 0 rfl) ?_
    refine q_geti (own := RX10) (C := RX10) (T := TX10) (N := 54) (ci := 10) (j := 19)  hx hb hts i10 hown F S q_k137 (by decide) rfl (by decide) (by decide) rfl (hts (.fieldLink RX10 135 "HeavyRoutesModel" "axles" "I") (by decide +kernel)) dX10_axle_59 ?_
    refine lv_if_ne (tgt := 69) hx hb dX10_axle_62 (by decide) (fun c11 => ?_) (fun c11 => ?_)
    · have h := q_ig c11 h
      refine lv_aload_n hx hb dX10_axle_69 rfl (lv_at hl 0 rfl) ?_
      refine q_getr (own := RX10) (C := RX10) (T := TX10) (N := 54) (ci := 10) (j := 20)  (b := 154) hx hb hts i10 hown F S q_k137 (by decide) rfl (by decide) (by decide) rfl (by decide) (hts (.fieldLink RX10 59 "HeavyRoutesModel" "offsets" "[I") (by decide +kernel)) dX10_axle_70 ?_
      refine lv_aload_n hx hb dX10_axle_73 rfl (lv_at hl 0 rfl) ?_
      refine q_geti (own := RX10) (C := RX10) (T := TX10) (N := 54) (ci := 10) (j := 19)  hx hb hts i10 hown F S q_k137 (by decide) rfl (by decide) (by decide) rfl (hts (.fieldLink RX10 135 "HeavyRoutesModel" "axles" "I") (by decide +kernel)) dX10_axle_74 ?_
      refine lv_iconst (v := 1) hx hb dX10_axle_77 (by decide) ?_
      refine lv_isub hx hb dX10_axle_78 ?_
      obtain ⟨g12, h⟩ := q_gd_some h
      refine q_iald hx hb F S q_k154 q_n154 g12 dX10_axle_79 ?_
      exact hJ80 (μ.1 154 ((μ.1 137 19) - 1).toNatClampNeg) x1.toInt32 (μ.1 137 19) μ H locs ls S (lv_sub hl [0, 2] rfl) h
    · have h := q_ip c11 h
      refine lv_iconst (v := 0) hx hb dX10_axle_65 (by decide) ?_
      refine lv_goto (tgt := 80) hx hb dX10_axle_66 (by decide) ?_
      exact hJ80 0 x1.toInt32 (μ.1 137 19) μ H locs ls S (lv_sub hl [0, 2] rfl) h
  unfold f_X10_axle at h
  obtain ⟨H, eH⟩ : ∃ z, z = s.heap := ⟨_, rfl⟩
  obtain ⟨locs, eL⟩ : ∃ z : List Loc, z = [] := ⟨_, rfl⟩
  rw [← eH, ← eL] at S
  suffices hh : W p l e ({ frames := 1, cells := 0, slots := 0, locals := 25 }) s m ([.ref (E.2.2.2 137), .long x1, .long x3] : List Value).toArray below meth c H locs 0 0 (MQ below (q_Qi E r μr) ([.ref (E.2.2.2 137), .long x1, .long x3] : List Value).toArray s 0 0 (q_A E)) (F0 m 0 ls []) by rw [eH, eL] at hh; exact hh
  refine lv_aload_n hx hb dX10_axle_0 rfl (lv_at hl 0 rfl) ?_
  refine q_geti (own := RX10) (C := RX10) (T := TX10) (N := 54) (ci := 10) (j := 19)  hx hb hts i10 hown F S q_k137 (by decide) rfl (by decide) (by decide) rfl (hts (.fieldLink RX10 135 "HeavyRoutesModel" "axles" "I") (by decide +kernel)) dX10_axle_1 ?_
  refine lv_iconst (v := 5) hx hb dX10_axle_4 (by decide) ?_
  refine lv_icmp_eq (tgt := 46) hx hb dX10_axle_5 (by decide) (fun c1 => ?_) (fun c1 => ?_)
  · have h := q_ip c1 h
    refine lv_iconst (v := 0) hx hb dX10_axle_46 (by decide) ?_
    exact q_zret hx hb hr S (by decide) h hlk dX10_axle_47
  · have h := q_ig c1 h
    refine lv_lload_n hx hb dX10_axle_8 rfl (lv_at hl 2 rfl) ?_
    refine lv_lconst (v := 0) hx hb dX10_axle_9 (by decide) ?_
    refine lv_ldc2 (v := 1000) hx hb hown (hts (.constantLong RX10 133 (1000)) (by decide +kernel)) dX10_axle_10 ?_
    obtain ⟨r4, μ2, hc3, h⟩ := q_bd_some h
    refine q_ki F S (q_runS (As := [.long x3, .long 0, .long 1000]) (rest := []) ⟨hx, hb, hml, hown, hts⟩ F S (c_X10_in l E hE x3 0 1000 μ μ2 r4 hc3) (va_cwS 3 hts gX10_axle_X10_in rfl rfl rfl (by decide +kernel) ⟨Nat.le_of_ble_eq_true rfl, Nat.le_of_ble_eq_true rfl⟩) rfl hl.1 rfl (Nat.le_of_ble_eq_true rfl) dX10_axle_13 ⟨Nat.zero_le _, Nat.zero_le _⟩) (fun H locs S => ?_)
    refine lv_if_eq (tgt := 46) hx hb dX10_axle_16 (by decide) (fun c5 => ?_) (fun c5 => ?_)
    · have h := q_ip c5 h
      refine lv_iconst (v := 0) hx hb dX10_axle_46 (by decide) ?_
      exact q_zret hx hb hr S (by decide) h hlk dX10_axle_47
    · have h := q_ig c5 h
      refine lv_aload_n hx hb dX10_axle_19 rfl (lv_at hl 0 rfl) ?_
      refine q_geti (own := RX10) (C := RX10) (T := TX10) (N := 54) (ci := 10) (j := 19)  hx hb hts i10 hown F S q_k137 (by decide) rfl (by decide) (by decide) rfl (hts (.fieldLink RX10 135 "HeavyRoutesModel" "axles" "I") (by decide +kernel)) dX10_axle_20 ?_
      refine lv_if_ne (tgt := 35) hx hb dX10_axle_23 (by decide) (fun c6 => ?_) (fun c6 => ?_)
      · have h := q_ig c6 h
        refine lv_lload_n hx hb dX10_axle_35 rfl (lv_at hl 1 rfl) ?_
        refine lv_lconst (v := 1) hx hb dX10_axle_36 (by decide) ?_
        refine lv_ldc2 (v := 30) hx hb hown (hts (.constantLong RX10 138 (30)) (by decide +kernel)) dX10_axle_37 ?_
        obtain ⟨r9, μ7, hc8, h⟩ := q_bd_some h
        refine q_ki F S (q_runS (As := [.long x1, .long 1, .long 30]) (rest := []) ⟨hx, hb, hml, hown, hts⟩ F S (c_X10_in l E hE x1 1 30 μ2 μ7 r9 hc8) (va_cwS 3 hts gX10_axle_X10_in rfl rfl rfl (by decide +kernel) ⟨Nat.le_of_ble_eq_true rfl, Nat.le_of_ble_eq_true rfl⟩) rfl hl.1 rfl (Nat.le_of_ble_eq_true rfl) dX10_axle_40 ⟨Nat.zero_le _, Nat.zero_le _⟩) (fun H locs S => ?_)
        refine lv_if_ne (tgt := 48) hx hb dX10_axle_43 (by decide) (fun c10 => ?_) (fun c10 => ?_)
        · have h := q_ig c10 h
          exact hJ48 μ7 H locs ls S (lv_sub hl [0, 1, 2] rfl) h
        · have h := q_ip c10 h
          refine lv_iconst (v := 0) hx hb dX10_axle_46 (by decide) ?_
          exact q_zret hx hb hr S (by decide) h hlk dX10_axle_47
      · have h := q_ip c6 h
        refine lv_lload_n hx hb dX10_axle_26 rfl (lv_at hl 1 rfl) ?_
        refine lv_lconst (v := 0) hx hb dX10_axle_27 (by decide) ?_
        refine W.lcmp hx hb dX10_axle_28 ?_
        refine lv_if_ne (tgt := 46) hx hb dX10_axle_29 (by decide) (fun c20 => ?_) (fun c20 => ?_)
        · have h := q_ig c20 h
          refine lv_iconst (v := 0) hx hb dX10_axle_46 (by decide) ?_
          exact q_zret hx hb hr S (by decide) h hlk dX10_axle_47
        · have h := q_ip c20 h
          refine lv_goto (tgt := 48) hx hb dX10_axle_32 (by decide) ?_
          exact hJ48 μ2 H locs ls S (lv_sub hl [0, 1, 2] rfl) h
def f_X10_size (x1 : Int32) (x2 : Int32) (x3 : Int32) (μ : q_M) : Option (Int32 × q_M) := q_bd (f_X10_in x1.toInt64 1 9999 μ) (fun r3 μ1 => (if r3 = 0 then some (0, μ1) else q_bd (f_X10_in x2.toInt64 1 9999 μ1) (fun r7 μ5 => (if r7 = 0 then some (0, μ5) else q_bd (f_X10_in x3.toInt64 1 200 μ5) (fun r11 μ9 => (if r11 = 0 then some (0, μ9) else q_le (q_si μ9 137 22 x1) (fun μ13 => q_le (q_si μ13 137 23 x2) (fun μ14 => q_bd (f_X10_forget  μ14) (fun u15 μ15 => some (1, μ15))))))))))
set_option maxHeartbeats 4000000 in
set_option maxRecDepth 100000 in
theorem c_X10_size (l : Launch) (E : q_E) (hE : q_I E) (x1 : Int32) (x2 : Int32) (x3 : Int32) (μ μr : q_M) (r : Int32) (h : f_X10_size x1 x2 x3 μ = some (r, μr)) : Met l yX10_size wsX10_size ({ frames := 1, cells := 0, slots := 0, locals := 25 }) (q_Pc E μ [.ref (E.2.2.2 137), .int x1, .int x2, .int x3]) (q_Qi E r μr) 0 0 (q_A E) := by
  refine q_met (cc := cX10_size) (maxL := 4) (ret := (some .boolean)) hE (by decide) rfl (Nat.le_of_ble_eq_true rfl) ?_
  intro p e s m below meth c hx hb hr hml hown hts hlk F S ls hl
  have hl : lv_has ls 4 [(0, .ref (E.2.2.2 137)), (1, .int x1), (2, .int x2), (3, .int x3)] := hl
  have i10 : ∀ w ∈ u_ws RX10 TX10 54, w ∈ wsX10_size := by decide +kernel
  unfold f_X10_size at h
  obtain ⟨H, eH⟩ : ∃ z, z = s.heap := ⟨_, rfl⟩
  obtain ⟨locs, eL⟩ : ∃ z : List Loc, z = [] := ⟨_, rfl⟩
  rw [← eH, ← eL] at S
  suffices hh : W p l e ({ frames := 1, cells := 0, slots := 0, locals := 25 }) s m ([.ref (E.2.2.2 137), .int x1, .int x2, .int x3] : List Value).toArray below meth c H locs 0 0 (MQ below (q_Qi E r μr) ([.ref (E.2.2.2 137), .int x1, .int x2, .int x3] : List Value).toArray s 0 0 (q_A E)) (F0 m 0 ls []) by rw [eH, eL] at hh; exact hh
  refine lv_iload_n hx hb dX10_size_0 rfl (lv_at hl 1 rfl) ?_
  refine lv_i2l (v := x1.toInt64) hx hb dX10_size_1 rfl ?_
  refine lv_lconst (v := 1) hx hb dX10_size_2 (by decide) ?_
  refine lv_ldc2 (v := 9999) hx hb hown (hts (.constantLong RX10 117 (9999)) (by decide +kernel)) dX10_size_3 ?_
  obtain ⟨r3, μ1, hc2, h⟩ := q_bd_some h
  refine q_ki F S (q_runS (As := [.long x1.toInt64, .long 1, .long 9999]) (rest := []) ⟨hx, hb, hml, hown, hts⟩ F S (c_X10_in l E hE x1.toInt64 1 9999 μ μ1 r3 hc2) (va_cwS 3 hts gX10_size_X10_in rfl rfl rfl (by decide +kernel) ⟨Nat.le_of_ble_eq_true rfl, Nat.le_of_ble_eq_true rfl⟩) rfl hl.1 rfl (Nat.le_of_ble_eq_true rfl) dX10_size_6 ⟨Nat.zero_le _, Nat.zero_le _⟩) (fun H locs S => ?_)
  refine lv_if_eq (tgt := 36) hx hb dX10_size_9 (by decide) (fun c4 => ?_) (fun c4 => ?_)
  · have h := q_ip c4 h
    refine lv_iconst (v := 0) hx hb dX10_size_36 (by decide) ?_
    exact q_zret hx hb hr S (by decide) h hlk dX10_size_37
  · have h := q_ig c4 h
    refine lv_iload_n hx hb dX10_size_12 rfl (lv_at hl 2 rfl) ?_
    refine lv_i2l (v := x2.toInt64) hx hb dX10_size_13 rfl ?_
    refine lv_lconst (v := 1) hx hb dX10_size_14 (by decide) ?_
    refine lv_ldc2 (v := 9999) hx hb hown (hts (.constantLong RX10 117 (9999)) (by decide +kernel)) dX10_size_15 ?_
    obtain ⟨r7, μ5, hc6, h⟩ := q_bd_some h
    refine q_ki F S (q_runS (As := [.long x2.toInt64, .long 1, .long 9999]) (rest := []) ⟨hx, hb, hml, hown, hts⟩ F S (c_X10_in l E hE x2.toInt64 1 9999 μ1 μ5 r7 hc6) (va_cwS 3 hts gX10_size_X10_in rfl rfl rfl (by decide +kernel) ⟨Nat.le_of_ble_eq_true rfl, Nat.le_of_ble_eq_true rfl⟩) rfl hl.1 rfl (Nat.le_of_ble_eq_true rfl) dX10_size_18 ⟨Nat.zero_le _, Nat.zero_le _⟩) (fun H locs S => ?_)
    refine lv_if_eq (tgt := 36) hx hb dX10_size_21 (by decide) (fun c8 => ?_) (fun c8 => ?_)
    · have h := q_ip c8 h
      refine lv_iconst (v := 0) hx hb dX10_size_36 (by decide) ?_
      exact q_zret hx hb hr S (by decide) h hlk dX10_size_37
    · have h := q_ig c8 h
      refine lv_iload_n hx hb dX10_size_24 rfl (lv_at hl 3 rfl) ?_
      refine lv_i2l (v := x3.toInt64) hx hb dX10_size_25 rfl ?_
      refine lv_lconst (v := 1) hx hb dX10_size_26 (by decide) ?_
      refine lv_ldc2 (v := 200) hx hb hown (hts (.constantLong RX10 140 (200)) (by decide +kernel)) dX10_size_27 ?_
      obtain ⟨r11, μ9, hc10, h⟩ := q_bd_some h
      refine q_ki F S (q_runS (As := [.long x3.toInt64, .long 1, .long 200]) (rest := []) ⟨hx, hb, hml, hown, hts⟩ F S (c_X10_in l E hE x3.toInt64 1 200 μ5 μ9 r11 hc10) (va_cwS 3 hts gX10_size_X10_in rfl rfl rfl (by decide +kernel) ⟨Nat.le_of_ble_eq_true rfl, Nat.le_of_ble_eq_true rfl⟩) rfl hl.1 rfl (Nat.le_of_ble_eq_true rfl) dX10_size_30 ⟨Nat.zero_le _, Nat.zero_le _⟩) (fun H locs S => ?_)
      refine lv_if_ne (tgt := 38) hx hb dX10_size_33 (by decide) (fun c12 => ?_) (fun c12 => ?_)
      · have h := q_ig c12 h
        refine lv_aload_n hx hb dX10_size_38 rfl (lv_at hl 0 rfl) ?_
        refine lv_iload_n hx hb dX10_size_39 rfl (lv_at hl 1 rfl) ?_
        refine q_puti (own := RX10) (C := RX10) (T := TX10) (N := 54) (ci := 10) (j := 22)  hx hb hts i10 tyX10 tyX10_ok nmX10 hown F S q_k137 (by decide) rfl (by decide) (by decide) rfl (hts (.fieldLink RX10 65 "HeavyRoutesModel" "height" "I") (by decide +kernel)) rfl (by decide +kernel) dX10_size_40 (fun H locs μ13 eμ13 S => ?_)
        have h := q_le_e h eμ13
        refine lv_aload_n hx hb dX10_size_43 rfl (lv_at hl 0 rfl) ?_
        refine lv_iload_n hx hb dX10_size_44 rfl (lv_at hl 2 rfl) ?_
        refine q_puti (own := RX10) (C := RX10) (T := TX10) (N := 54) (ci := 10) (j := 23)  hx hb hts i10 tyX10 tyX10_ok nmX10 hown F S q_k137 (by decide) rfl (by decide) (by decide) rfl (hts (.fieldLink RX10 69 "HeavyRoutesModel" "width" "I") (by decide +kernel)) rfl (by decide +kernel) dX10_size_45 (fun H locs μ14 eμ14 S => ?_)
        have h := q_le_e h eμ14
        refine lv_aload_n hx hb dX10_size_48 rfl (lv_at hl 0 rfl) ?_
        obtain ⟨u15, μ15, hc16, h⟩ := q_bd_some h
        refine q_kv F S (q_runV (As := []) (rest := []) (b := 137) ⟨hx, hb, hml, hown, hts⟩ F S (c_X10_forget l E hE  μ14 μ15 u15 hc16) (cwV 0 hts gX10_size_X10_forget rfl rfl rfl (by decide +kernel) ⟨Nat.le_of_ble_eq_true rfl, Nat.le_of_ble_eq_true rfl⟩) q_k137 (by decide) rfl rfl hl.1 rfl (Nat.le_of_ble_eq_true rfl) dX10_size_49 ⟨Nat.zero_le _, Nat.zero_le _⟩) (fun H locs S => ?_)
        refine lv_iconst (v := 1) hx hb dX10_size_52 (by decide) ?_
        exact q_zret hx hb hr S (by decide) h hlk dX10_size_53
      · have h := q_ip c12 h
        refine lv_iconst (v := 0) hx hb dX10_size_36 (by decide) ?_
        exact q_zret hx hb hr S (by decide) h hlk dX10_size_37
def J_X10_turn_85 (x1 : Int32) (x2 : Int32) (x3 : Int32) (μ : q_M) : Option (Int32 × q_M) := (if x3 = 0 then q_gd (q_ix ((12 * x1) + x2) 144) (q_le (q_si μ 148 ((12 * x1) + x2).toNatClampNeg 1) (fun μ19 => q_bd (f_X10_forget  μ19) (fun u20 μ20 => some (1, μ20)))) else q_gd (q_ix ((12 * x1) + x2) 144) (q_le (q_si μ 148 ((12 * x1) + x2).toNatClampNeg 0) (fun μ15 => q_bd (f_X10_forget  μ15) (fun u16 μ16 => some (1, μ16)))))
def f_X10_turn (x1 : Int32) (x2 : Int32) (x3 : Int32) (μ : q_M) : Option (Int32 × q_M) := q_bd (f_X10_isRoad x1 μ) (fun r3 μ1 => (if r3 = 0 then some (0, μ1) else q_bd (f_X10_isRoad x2 μ1) (fun r7 μ5 => (if r7 = 0 then some (0, μ5) else (if x1 = x2 then some (0, μ5) else q_gd (q_ix x1 12) (q_gd (q_ix x2 12) ((if (μ5.1 138 x1.toNatClampNeg) = (μ5.1 138 x2.toNatClampNeg) then J_X10_turn_85 x1 x2 x3 μ5 else (if (μ5.1 138 x1.toNatClampNeg) = (μ5.1 139 x2.toNatClampNeg) then J_X10_turn_85 x1 x2 x3 μ5 else (if (μ5.1 139 x1.toNatClampNeg) = (μ5.1 138 x2.toNatClampNeg) then J_X10_turn_85 x1 x2 x3 μ5 else (if (μ5.1 139 x1.toNatClampNeg) = (μ5.1 139 x2.toNatClampNeg) then J_X10_turn_85 x1 x2 x3 μ5 else some (0, μ5))))))))))))
set_option maxHeartbeats 4000000 in
set_option maxRecDepth 100000 in
theorem c_X10_turn (l : Launch) (E : q_E) (hE : q_I E) (x1 : Int32) (x2 : Int32) (x3 : Int32) (μ μr : q_M) (r : Int32) (h : f_X10_turn x1 x2 x3 μ = some (r, μr)) : Met l yX10_turn wsX10_turn ({ frames := 2, cells := 0, slots := 0, locals := 46 }) (q_Pc E μ [.ref (E.2.2.2 137), .int x1, .int x2, .int x3]) (q_Qi E r μr) 0 0 (q_A E) := by
  refine q_met (cc := cX10_turn) (maxL := 4) (ret := (some .boolean)) hE (by decide) rfl (Nat.le_of_ble_eq_true rfl) ?_
  intro p e s m below meth c hx hb hr hml hown hts hlk F S ls hl
  have hl : lv_has ls 4 [(0, .ref (E.2.2.2 137)), (1, .int x1), (2, .int x2), (3, .int x3)] := hl
  have i10 : ∀ w ∈ u_ws RX10 TX10 54, w ∈ wsX10_turn := by decide +kernel
  have hJ85 : ∀ (μ : q_M) (H : Heap) (locs : List Loc) (ls : Array Slot), q_S E (q_A E) s μ H locs → lv_has ls 4 [(0, .ref (E.2.2.2 137)), (1, .int x1), (2, .int x2), (3, .int x3)] → J_X10_turn_85 x1 x2 x3 μ = some (r, μr) → W p l e ({ frames := 2, cells := 0, slots := 0, locals := 46 }) s m ([.ref (E.2.2.2 137), .int x1, .int x2, .int x3] : List Value).toArray below meth c H locs 0 0 (MQ below (q_Qi E r μr) ([.ref (E.2.2.2 137), .int x1, .int x2, .int x3] : List Value).toArray s 0 0 (q_A E)) (F0 m 85 ls []) := by
    intro μ H locs ls S hl h
    rw [J_X10_turn_85] at h
    refine lv_aload_n hx hb dX10_turn_85 rfl (lv_at hl 0 rfl) ?_
    refine q_getr (own := RX10) (C := RX10) (T := TX10) (N := 54) (ci := 10) (j := 12)  (b := 148) hx hb hts i10 hown F S q_k137 (by decide) rfl (by decide) (by decide) rfl (by decide) (hts (.fieldLink RX10 41 "HeavyRoutesModel" "noTurn" "[Z") (by decide +kernel)) dX10_turn_86 ?_
    refine lv_bipush (v := 12) hx hb dX10_turn_89 (by decide) ?_
    refine lv_iload_n hx hb dX10_turn_91 rfl (lv_at hl 1 rfl) ?_
    refine lv_imul hx hb dX10_turn_92 ?_
    refine lv_iload_n hx hb dX10_turn_93 rfl (lv_at hl 2 rfl) ?_
    refine lv_iadd hx hb dX10_turn_94 ?_
    refine lv_iload_n hx hb dX10_turn_95 rfl (lv_at hl 3 rfl) ?_
    refine lv_if_ne (tgt := 103) hx hb dX10_turn_96 (by decide) (fun c13 => ?_) (fun c13 => ?_)
    · have h := q_ig c13 h
      refine lv_iconst (v := 0) hx hb dX10_turn_103 (by decide) ?_
      obtain ⟨g14, h⟩ := q_gd_some h
      refine q_zast hx hb F S q_k148 q_n148 g14 (by decide) dX10_turn_104 (fun H locs μ15 eμ15 S => ?_)
      have h := q_le_e h eμ15
      refine lv_aload_n hx hb dX10_turn_105 rfl (lv_at hl 0 rfl) ?_
      obtain ⟨u16, μ16, hc17, h⟩ := q_bd_some h
      refine q_kv F S (q_runV (As := []) (rest := []) (b := 137) ⟨hx, hb, hml, hown, hts⟩ F S (c_X10_forget l E hE  μ15 μ16 u16 hc17) (cwV 0 hts gX10_turn_X10_forget rfl rfl rfl (by decide +kernel) ⟨Nat.le_of_ble_eq_true rfl, Nat.le_of_ble_eq_true rfl⟩) q_k137 (by decide) rfl rfl hl.1 rfl (Nat.le_of_ble_eq_true rfl) dX10_turn_106 ⟨Nat.zero_le _, Nat.zero_le _⟩) (fun H locs S => ?_)
      refine lv_iconst (v := 1) hx hb dX10_turn_109 (by decide) ?_
      exact q_zret hx hb hr S (by decide) h hlk dX10_turn_110
    · have h := q_ip c13 h
      refine lv_iconst (v := 1) hx hb dX10_turn_99 (by decide) ?_
      refine lv_goto (tgt := 104) hx hb dX10_turn_100 (by decide) ?_
      obtain ⟨g18, h⟩ := q_gd_some h
      refine q_zast hx hb F S q_k148 q_n148 g18 (by decide) dX10_turn_104 (fun H locs μ19 eμ19 S => ?_)
      have h := q_le_e h eμ19
      refine lv_aload_n hx hb dX10_turn_105 rfl (lv_at hl 0 rfl) ?_
      obtain ⟨u20, μ20, hc21, h⟩ := q_bd_some h
      refine q_kv F S (q_runV (As := []) (rest := []) (b := 137) ⟨hx, hb, hml, hown, hts⟩ F S (c_X10_forget l E hE  μ19 μ20 u20 hc21) (cwV 0 hts gX10_turn_X10_forget rfl rfl rfl (by decide +kernel) ⟨Nat.le_of_ble_eq_true rfl, Nat.le_of_ble_eq_true rfl⟩) q_k137 (by decide) rfl rfl hl.1 rfl (Nat.le_of_ble_eq_true rfl) dX10_turn_106 ⟨Nat.zero_le _, Nat.zero_le _⟩) (fun H locs S => ?_)
      refine lv_iconst (v := 1) hx hb dX10_turn_109 (by decide) ?_
      exact q_zret hx hb hr S (by decide) h hlk dX10_turn_110
  unfold f_X10_turn at h
  obtain ⟨H, eH⟩ : ∃ z, z = s.heap := ⟨_, rfl⟩
  obtain ⟨locs, eL⟩ : ∃ z : List Loc, z = [] := ⟨_, rfl⟩
  rw [← eH, ← eL] at S
  suffices hh : W p l e ({ frames := 2, cells := 0, slots := 0, locals := 46 }) s m ([.ref (E.2.2.2 137), .int x1, .int x2, .int x3] : List Value).toArray below meth c H locs 0 0 (MQ below (q_Qi E r μr) ([.ref (E.2.2.2 137), .int x1, .int x2, .int x3] : List Value).toArray s 0 0 (q_A E)) (F0 m 0 ls []) by rw [eH, eL] at hh; exact hh
  refine lv_aload_n hx hb dX10_turn_0 rfl (lv_at hl 0 rfl) ?_
  refine lv_iload_n hx hb dX10_turn_1 rfl (lv_at hl 1 rfl) ?_
  obtain ⟨r3, μ1, hc2, h⟩ := q_bd_some h
  refine q_ki F S (q_runV (As := [.int x1]) (rest := []) (b := 137) ⟨hx, hb, hml, hown, hts⟩ F S (c_X10_isRoad l E hE x1 μ μ1 r3 hc2) (cwV 1 hts gX10_turn_X10_isRoad rfl rfl rfl (by decide +kernel) ⟨Nat.le_of_ble_eq_true rfl, Nat.le_of_ble_eq_true rfl⟩) q_k137 (by decide) rfl rfl hl.1 rfl (Nat.le_of_ble_eq_true rfl) dX10_turn_2 ⟨Nat.zero_le _, Nat.zero_le _⟩) (fun H locs S => ?_)
  refine lv_if_eq (tgt := 21) hx hb dX10_turn_5 (by decide) (fun c4 => ?_) (fun c4 => ?_)
  · have h := q_ip c4 h
    refine lv_iconst (v := 0) hx hb dX10_turn_21 (by decide) ?_
    exact q_zret hx hb hr S (by decide) h hlk dX10_turn_22
  · have h := q_ig c4 h
    refine lv_aload_n hx hb dX10_turn_8 rfl (lv_at hl 0 rfl) ?_
    refine lv_iload_n hx hb dX10_turn_9 rfl (lv_at hl 2 rfl) ?_
    obtain ⟨r7, μ5, hc6, h⟩ := q_bd_some h
    refine q_ki F S (q_runV (As := [.int x2]) (rest := []) (b := 137) ⟨hx, hb, hml, hown, hts⟩ F S (c_X10_isRoad l E hE x2 μ1 μ5 r7 hc6) (cwV 1 hts gX10_turn_X10_isRoad rfl rfl rfl (by decide +kernel) ⟨Nat.le_of_ble_eq_true rfl, Nat.le_of_ble_eq_true rfl⟩) q_k137 (by decide) rfl rfl hl.1 rfl (Nat.le_of_ble_eq_true rfl) dX10_turn_10 ⟨Nat.zero_le _, Nat.zero_le _⟩) (fun H locs S => ?_)
    refine lv_if_eq (tgt := 21) hx hb dX10_turn_13 (by decide) (fun c8 => ?_) (fun c8 => ?_)
    · have h := q_ip c8 h
      refine lv_iconst (v := 0) hx hb dX10_turn_21 (by decide) ?_
      exact q_zret hx hb hr S (by decide) h hlk dX10_turn_22
    · have h := q_ig c8 h
      refine lv_iload_n hx hb dX10_turn_16 rfl (lv_at hl 1 rfl) ?_
      refine lv_iload_n hx hb dX10_turn_17 rfl (lv_at hl 2 rfl) ?_
      refine lv_icmp_ne (tgt := 23) hx hb dX10_turn_18 (by decide) (fun c9 => ?_) (fun c9 => ?_)
      · have h := q_ig c9 h
        refine lv_aload_n hx hb dX10_turn_23 rfl (lv_at hl 0 rfl) ?_
        refine q_getr (own := RX10) (C := RX10) (T := TX10) (N := 54) (ci := 10) (j := 2)  (b := 138) hx hb hts i10 hown F S q_k137 (by decide) rfl (by decide) (by decide) rfl (by decide) (hts (.fieldLink RX10 7 "HeavyRoutesModel" "as" "[I") (by decide +kernel)) dX10_turn_24 ?_
        refine lv_iload_n hx hb dX10_turn_27 rfl (lv_at hl 1 rfl) ?_
        obtain ⟨g10, h⟩ := q_gd_some h
        refine q_iald hx hb F S q_k138 q_n138 g10 dX10_turn_28 ?_
        refine lv_aload_n hx hb dX10_turn_29 rfl (lv_at hl 0 rfl) ?_
        refine q_getr (own := RX10) (C := RX10) (T := TX10) (N := 54) (ci := 10) (j := 2)  (b := 138) hx hb hts i10 hown F S q_k137 (by decide) rfl (by decide) (by decide) rfl (by decide) (hts (.fieldLink RX10 7 "HeavyRoutesModel" "as" "[I") (by decide +kernel)) dX10_turn_30 ?_
        refine lv_iload_n hx hb dX10_turn_33 rfl (lv_at hl 2 rfl) ?_
        obtain ⟨g11, h⟩ := q_gd_some h
        refine q_iald hx hb F S q_k138 q_n138 g11 dX10_turn_34 ?_
        refine lv_icmp_eq (tgt := 85) hx hb dX10_turn_35 (by decide) (fun c12 => ?_) (fun c12 => ?_)
        · have h := q_ip c12 h
          exact hJ85 μ5 H locs ls S (lv_sub hl [0, 1, 2, 3] rfl) h
        · have h := q_ig c12 h
          refine lv_aload_n hx hb dX10_turn_38 rfl (lv_at hl 0 rfl) ?_
          refine q_getr (own := RX10) (C := RX10) (T := TX10) (N := 54) (ci := 10) (j := 2)  (b := 138) hx hb hts i10 hown F S q_k137 (by decide) rfl (by decide) (by decide) rfl (by decide) (hts (.fieldLink RX10 7 "HeavyRoutesModel" "as" "[I") (by decide +kernel)) dX10_turn_39 ?_
          refine lv_iload_n hx hb dX10_turn_42 rfl (lv_at hl 1 rfl) ?_
          refine q_iald hx hb F S q_k138 q_n138 g10 dX10_turn_43 ?_
          refine lv_aload_n hx hb dX10_turn_44 rfl (lv_at hl 0 rfl) ?_
          refine q_getr (own := RX10) (C := RX10) (T := TX10) (N := 54) (ci := 10) (j := 3)  (b := 139) hx hb hts i10 hown F S q_k137 (by decide) rfl (by decide) (by decide) rfl (by decide) (hts (.fieldLink RX10 13 "HeavyRoutesModel" "bs" "[I") (by decide +kernel)) dX10_turn_45 ?_
          refine lv_iload_n hx hb dX10_turn_48 rfl (lv_at hl 2 rfl) ?_
          refine q_iald hx hb F S q_k139 q_n139 g11 dX10_turn_49 ?_
          refine lv_icmp_eq (tgt := 85) hx hb dX10_turn_50 (by decide) (fun c22 => ?_) (fun c22 => ?_)
          · have h := q_ip c22 h
            exact hJ85 μ5 H locs ls S (lv_sub hl [0, 1, 2, 3] rfl) h
          · have h := q_ig c22 h
            refine lv_aload_n hx hb dX10_turn_53 rfl (lv_at hl 0 rfl) ?_
            refine q_getr (own := RX10) (C := RX10) (T := TX10) (N := 54) (ci := 10) (j := 3)  (b := 139) hx hb hts i10 hown F S q_k137 (by decide) rfl (by decide) (by decide) rfl (by decide) (hts (.fieldLink RX10 13 "HeavyRoutesModel" "bs" "[I") (by decide +kernel)) dX10_turn_54 ?_
            refine lv_iload_n hx hb dX10_turn_57 rfl (lv_at hl 1 rfl) ?_
            refine q_iald hx hb F S q_k139 q_n139 g10 dX10_turn_58 ?_
            refine lv_aload_n hx hb dX10_turn_59 rfl (lv_at hl 0 rfl) ?_
            refine q_getr (own := RX10) (C := RX10) (T := TX10) (N := 54) (ci := 10) (j := 2)  (b := 138) hx hb hts i10 hown F S q_k137 (by decide) rfl (by decide) (by decide) rfl (by decide) (hts (.fieldLink RX10 7 "HeavyRoutesModel" "as" "[I") (by decide +kernel)) dX10_turn_60 ?_
            refine lv_iload_n hx hb dX10_turn_63 rfl (lv_at hl 2 rfl) ?_
            refine q_iald hx hb F S q_k138 q_n138 g11 dX10_turn_64 ?_
            refine lv_icmp_eq (tgt := 85) hx hb dX10_turn_65 (by decide) (fun c23 => ?_) (fun c23 => ?_)
            · have h := q_ip c23 h
              exact hJ85 μ5 H locs ls S (lv_sub hl [0, 1, 2, 3] rfl) h
            · have h := q_ig c23 h
              refine lv_aload_n hx hb dX10_turn_68 rfl (lv_at hl 0 rfl) ?_
              refine q_getr (own := RX10) (C := RX10) (T := TX10) (N := 54) (ci := 10) (j := 3)  (b := 139) hx hb hts i10 hown F S q_k137 (by decide) rfl (by decide) (by decide) rfl (by decide) (hts (.fieldLink RX10 13 "HeavyRoutesModel" "bs" "[I") (by decide +kernel)) dX10_turn_69 ?_
              refine lv_iload_n hx hb dX10_turn_72 rfl (lv_at hl 1 rfl) ?_
              refine q_iald hx hb F S q_k139 q_n139 g10 dX10_turn_73 ?_
              refine lv_aload_n hx hb dX10_turn_74 rfl (lv_at hl 0 rfl) ?_
              refine q_getr (own := RX10) (C := RX10) (T := TX10) (N := 54) (ci := 10) (j := 3)  (b := 139) hx hb hts i10 hown F S q_k137 (by decide) rfl (by decide) (by decide) rfl (by decide) (hts (.fieldLink RX10 13 "HeavyRoutesModel" "bs" "[I") (by decide +kernel)) dX10_turn_75 ?_
              refine lv_iload_n hx hb dX10_turn_78 rfl (lv_at hl 2 rfl) ?_
              refine q_iald hx hb F S q_k139 q_n139 g11 dX10_turn_79 ?_
              refine lv_icmp_eq (tgt := 85) hx hb dX10_turn_80 (by decide) (fun c24 => ?_) (fun c24 => ?_)
              · have h := q_ip c24 h
                exact hJ85 μ5 H locs ls S (lv_sub hl [0, 1, 2, 3] rfl) h
              · have h := q_ig c24 h
                refine lv_iconst (v := 0) hx hb dX10_turn_83 (by decide) ?_
                exact q_zret hx hb hr S (by decide) h hlk dX10_turn_84
      · have h := q_ip c9 h
        refine lv_iconst (v := 0) hx hb dX10_turn_21 (by decide) ?_
        exact q_zret hx hb hr S (by decide) h hlk dX10_turn_22
def f_X10_hours (x1 : Int32) (x2 : Int32) (x3 : Int32) (μ : q_M) : Option (Int32 × q_M) := q_bd (f_X10_isRoad x1 μ) (fun r3 μ1 => (if r3 = 0 then some (0, μ1) else q_bd (f_X10_in x2.toInt64 0 1439 μ1) (fun r7 μ5 => (if r7 = 0 then some (0, μ5) else q_bd (f_X10_in x3.toInt64 0 1439 μ5) (fun r11 μ9 => (if r11 = 0 then some (0, μ9) else q_gd (q_ix x1 12) ((if (μ9.1 145 x1.toNatClampNeg) = 3 then some (0, μ9) else q_gd (q_ix ((3 * x1) + (μ9.1 145 x1.toNatClampNeg)) 36) (q_le (q_si μ9 146 ((3 * x1) + (μ9.1 145 x1.toNatClampNeg)).toNatClampNeg x2) (fun μ16 => q_gd (q_ix ((3 * x1) + (μ16.1 145 x1.toNatClampNeg)) 36) (q_le (q_si μ16 147 ((3 * x1) + (μ16.1 145 x1.toNatClampNeg)).toNatClampNeg x3) (fun μ18 => q_le (q_si μ18 145 x1.toNatClampNeg ((μ18.1 145 x1.toNatClampNeg) + 1)) (fun μ19 => q_bd (f_X10_forget  μ19) (fun u20 μ20 => some (1, μ20)))))))))))))))
set_option maxHeartbeats 4000000 in
set_option maxRecDepth 100000 in
theorem c_X10_hours (l : Launch) (E : q_E) (hE : q_I E) (x1 : Int32) (x2 : Int32) (x3 : Int32) (μ μr : q_M) (r : Int32) (h : f_X10_hours x1 x2 x3 μ = some (r, μr)) : Met l yX10_hours wsX10_hours ({ frames := 2, cells := 0, slots := 0, locals := 46 }) (q_Pc E μ [.ref (E.2.2.2 137), .int x1, .int x2, .int x3]) (q_Qi E r μr) 0 0 (q_A E) := by
  refine q_met (cc := cX10_hours) (maxL := 4) (ret := (some .boolean)) hE (by decide) rfl (Nat.le_of_ble_eq_true rfl) ?_
  intro p e s m below meth c hx hb hr hml hown hts hlk F S ls hl
  have hl : lv_has ls 4 [(0, .ref (E.2.2.2 137)), (1, .int x1), (2, .int x2), (3, .int x3)] := hl
  have i10 : ∀ w ∈ u_ws RX10 TX10 54, w ∈ wsX10_hours := by decide +kernel
  unfold f_X10_hours at h
  obtain ⟨H, eH⟩ : ∃ z, z = s.heap := ⟨_, rfl⟩
  obtain ⟨locs, eL⟩ : ∃ z : List Loc, z = [] := ⟨_, rfl⟩
  rw [← eH, ← eL] at S
  suffices hh : W p l e ({ frames := 2, cells := 0, slots := 0, locals := 46 }) s m ([.ref (E.2.2.2 137), .int x1, .int x2, .int x3] : List Value).toArray below meth c H locs 0 0 (MQ below (q_Qi E r μr) ([.ref (E.2.2.2 137), .int x1, .int x2, .int x3] : List Value).toArray s 0 0 (q_A E)) (F0 m 0 ls []) by rw [eH, eL] at hh; exact hh
  refine lv_aload_n hx hb dX10_hours_0 rfl (lv_at hl 0 rfl) ?_
  refine lv_iload_n hx hb dX10_hours_1 rfl (lv_at hl 1 rfl) ?_
  obtain ⟨r3, μ1, hc2, h⟩ := q_bd_some h
  refine q_ki F S (q_runV (As := [.int x1]) (rest := []) (b := 137) ⟨hx, hb, hml, hown, hts⟩ F S (c_X10_isRoad l E hE x1 μ μ1 r3 hc2) (cwV 1 hts gX10_hours_X10_isRoad rfl rfl rfl (by decide +kernel) ⟨Nat.le_of_ble_eq_true rfl, Nat.le_of_ble_eq_true rfl⟩) q_k137 (by decide) rfl rfl hl.1 rfl (Nat.le_of_ble_eq_true rfl) dX10_hours_2 ⟨Nat.zero_le _, Nat.zero_le _⟩) (fun H locs S => ?_)
  refine lv_if_eq (tgt := 42) hx hb dX10_hours_5 (by decide) (fun c4 => ?_) (fun c4 => ?_)
  · have h := q_ip c4 h
    refine lv_iconst (v := 0) hx hb dX10_hours_42 (by decide) ?_
    exact q_zret hx hb hr S (by decide) h hlk dX10_hours_43
  · have h := q_ig c4 h
    refine lv_iload_n hx hb dX10_hours_8 rfl (lv_at hl 2 rfl) ?_
    refine lv_i2l (v := x2.toInt64) hx hb dX10_hours_9 rfl ?_
    refine lv_lconst (v := 0) hx hb dX10_hours_10 (by decide) ?_
    refine lv_ldc2 (v := 1439) hx hb hown (hts (.constantLong RX10 142 (1439)) (by decide +kernel)) dX10_hours_11 ?_
    obtain ⟨r7, μ5, hc6, h⟩ := q_bd_some h
    refine q_ki F S (q_runS (As := [.long x2.toInt64, .long 0, .long 1439]) (rest := []) ⟨hx, hb, hml, hown, hts⟩ F S (c_X10_in l E hE x2.toInt64 0 1439 μ1 μ5 r7 hc6) (va_cwS 3 hts gX10_hours_X10_in rfl rfl rfl (by decide +kernel) ⟨Nat.le_of_ble_eq_true rfl, Nat.le_of_ble_eq_true rfl⟩) rfl hl.1 rfl (Nat.le_of_ble_eq_true rfl) dX10_hours_14 ⟨Nat.zero_le _, Nat.zero_le _⟩) (fun H locs S => ?_)
    refine lv_if_eq (tgt := 42) hx hb dX10_hours_17 (by decide) (fun c8 => ?_) (fun c8 => ?_)
    · have h := q_ip c8 h
      refine lv_iconst (v := 0) hx hb dX10_hours_42 (by decide) ?_
      exact q_zret hx hb hr S (by decide) h hlk dX10_hours_43
    · have h := q_ig c8 h
      refine lv_iload_n hx hb dX10_hours_20 rfl (lv_at hl 3 rfl) ?_
      refine lv_i2l (v := x3.toInt64) hx hb dX10_hours_21 rfl ?_
      refine lv_lconst (v := 0) hx hb dX10_hours_22 (by decide) ?_
      refine lv_ldc2 (v := 1439) hx hb hown (hts (.constantLong RX10 142 (1439)) (by decide +kernel)) dX10_hours_23 ?_
      obtain ⟨r11, μ9, hc10, h⟩ := q_bd_some h
      refine q_ki F S (q_runS (As := [.long x3.toInt64, .long 0, .long 1439]) (rest := []) ⟨hx, hb, hml, hown, hts⟩ F S (c_X10_in l E hE x3.toInt64 0 1439 μ5 μ9 r11 hc10) (va_cwS 3 hts gX10_hours_X10_in rfl rfl rfl (by decide +kernel) ⟨Nat.le_of_ble_eq_true rfl, Nat.le_of_ble_eq_true rfl⟩) rfl hl.1 rfl (Nat.le_of_ble_eq_true rfl) dX10_hours_26 ⟨Nat.zero_le _, Nat.zero_le _⟩) (fun H locs S => ?_)
      refine lv_if_eq (tgt := 42) hx hb dX10_hours_29 (by decide) (fun c12 => ?_) (fun c12 => ?_)
      · have h := q_ip c12 h
        refine lv_iconst (v := 0) hx hb dX10_hours_42 (by decide) ?_
        exact q_zret hx hb hr S (by decide) h hlk dX10_hours_43
      · have h := q_ig c12 h
        refine lv_aload_n hx hb dX10_hours_32 rfl (lv_at hl 0 rfl) ?_
        refine q_getr (own := RX10) (C := RX10) (T := TX10) (N := 54) (ci := 10) (j := 9)  (b := 145) hx hb hts i10 hown F S q_k137 (by decide) rfl (by decide) (by decide) rfl (by decide) (hts (.fieldLink RX10 32 "HeavyRoutesModel" "hourCounts" "[I") (by decide +kernel)) dX10_hours_33 ?_
        refine lv_iload_n hx hb dX10_hours_36 rfl (lv_at hl 1 rfl) ?_
        obtain ⟨g13, h⟩ := q_gd_some h
        refine q_iald hx hb F S q_k145 q_n145 g13 dX10_hours_37 ?_
        refine lv_iconst (v := 3) hx hb dX10_hours_38 (by decide) ?_
        refine lv_icmp_ne (tgt := 44) hx hb dX10_hours_39 (by decide) (fun c14 => ?_) (fun c14 => ?_)
        · have h := q_ig c14 h
          refine lv_aload_n hx hb dX10_hours_44 rfl (lv_at hl 0 rfl) ?_
          refine q_getr (own := RX10) (C := RX10) (T := TX10) (N := 54) (ci := 10) (j := 10)  (b := 146) hx hb hts i10 hown F S q_k137 (by decide) rfl (by decide) (by decide) rfl (by decide) (hts (.fieldLink RX10 35 "HeavyRoutesModel" "hourFroms" "[I") (by decide +kernel)) dX10_hours_45 ?_
          refine lv_iconst (v := 3) hx hb dX10_hours_48 (by decide) ?_
          refine lv_iload_n hx hb dX10_hours_49 rfl (lv_at hl 1 rfl) ?_
          refine lv_imul hx hb dX10_hours_50 ?_
          refine lv_aload_n hx hb dX10_hours_51 rfl (lv_at hl 0 rfl) ?_
          refine q_getr (own := RX10) (C := RX10) (T := TX10) (N := 54) (ci := 10) (j := 9)  (b := 145) hx hb hts i10 hown F S q_k137 (by decide) rfl (by decide) (by decide) rfl (by decide) (hts (.fieldLink RX10 32 "HeavyRoutesModel" "hourCounts" "[I") (by decide +kernel)) dX10_hours_52 ?_
          refine lv_iload_n hx hb dX10_hours_55 rfl (lv_at hl 1 rfl) ?_
          refine q_iald hx hb F S q_k145 q_n145 g13 dX10_hours_56 ?_
          refine lv_iadd hx hb dX10_hours_57 ?_
          refine lv_iload_n hx hb dX10_hours_58 rfl (lv_at hl 2 rfl) ?_
          obtain ⟨g15, h⟩ := q_gd_some h
          refine q_iast hx hb F S q_k146 q_n146 g15 dX10_hours_59 (fun H locs μ16 eμ16 S => ?_)
          have h := q_le_e h eμ16
          refine lv_aload_n hx hb dX10_hours_60 rfl (lv_at hl 0 rfl) ?_
          refine q_getr (own := RX10) (C := RX10) (T := TX10) (N := 54) (ci := 10) (j := 11)  (b := 147) hx hb hts i10 hown F S q_k137 (by decide) rfl (by decide) (by decide) rfl (by decide) (hts (.fieldLink RX10 38 "HeavyRoutesModel" "hourTos" "[I") (by decide +kernel)) dX10_hours_61 ?_
          refine lv_iconst (v := 3) hx hb dX10_hours_64 (by decide) ?_
          refine lv_iload_n hx hb dX10_hours_65 rfl (lv_at hl 1 rfl) ?_
          refine lv_imul hx hb dX10_hours_66 ?_
          refine lv_aload_n hx hb dX10_hours_67 rfl (lv_at hl 0 rfl) ?_
          refine q_getr (own := RX10) (C := RX10) (T := TX10) (N := 54) (ci := 10) (j := 9)  (b := 145) hx hb hts i10 hown F S q_k137 (by decide) rfl (by decide) (by decide) rfl (by decide) (hts (.fieldLink RX10 32 "HeavyRoutesModel" "hourCounts" "[I") (by decide +kernel)) dX10_hours_68 ?_
          refine lv_iload_n hx hb dX10_hours_71 rfl (lv_at hl 1 rfl) ?_
          refine q_iald hx hb F S q_k145 q_n145 g13 dX10_hours_72 ?_
          refine lv_iadd hx hb dX10_hours_73 ?_
          refine lv_iload_n hx hb dX10_hours_74 rfl (lv_at hl 3 rfl) ?_
          obtain ⟨g17, h⟩ := q_gd_some h
          refine q_iast hx hb F S q_k147 q_n147 g17 dX10_hours_75 (fun H locs μ18 eμ18 S => ?_)
          have h := q_le_e h eμ18
          refine lv_aload_n hx hb dX10_hours_76 rfl (lv_at hl 0 rfl) ?_
          refine q_getr (own := RX10) (C := RX10) (T := TX10) (N := 54) (ci := 10) (j := 9)  (b := 145) hx hb hts i10 hown F S q_k137 (by decide) rfl (by decide) (by decide) rfl (by decide) (hts (.fieldLink RX10 32 "HeavyRoutesModel" "hourCounts" "[I") (by decide +kernel)) dX10_hours_77 ?_
          refine lv_iload_n hx hb dX10_hours_80 rfl (lv_at hl 1 rfl) ?_
          refine lv_dup2_11 hx hb dX10_hours_81 rfl rfl ?_
          refine q_iald hx hb F S q_k145 q_n145 g13 dX10_hours_82 ?_
          refine lv_iconst (v := 1) hx hb dX10_hours_83 (by decide) ?_
          refine lv_iadd hx hb dX10_hours_84 ?_
          refine q_iast hx hb F S q_k145 q_n145 g13 dX10_hours_85 (fun H locs μ19 eμ19 S => ?_)
          have h := q_le_e h eμ19
          refine lv_aload_n hx hb dX10_hours_86 rfl (lv_at hl 0 rfl) ?_
          obtain ⟨u20, μ20, hc21, h⟩ := q_bd_some h
          refine q_kv F S (q_runV (As := []) (rest := []) (b := 137) ⟨hx, hb, hml, hown, hts⟩ F S (c_X10_forget l E hE  μ19 μ20 u20 hc21) (cwV 0 hts gX10_hours_X10_forget rfl rfl rfl (by decide +kernel) ⟨Nat.le_of_ble_eq_true rfl, Nat.le_of_ble_eq_true rfl⟩) q_k137 (by decide) rfl rfl hl.1 rfl (Nat.le_of_ble_eq_true rfl) dX10_hours_87 ⟨Nat.zero_le _, Nat.zero_le _⟩) (fun H locs S => ?_)
          refine lv_iconst (v := 1) hx hb dX10_hours_90 (by decide) ?_
          exact q_zret hx hb hr S (by decide) h hlk dX10_hours_91
        · have h := q_ip c14 h
          refine lv_iconst (v := 0) hx hb dX10_hours_42 (by decide) ?_
          exact q_zret hx hb hr S (by decide) h hlk dX10_hours_43
def J_X10_slow_24 (x1 : Int32) (x2 : Int32) (s0 : Int32) (μ : q_M) : Option (Int32 × q_M) := q_gd (q_ix x1 6) (q_gd (q_zb x2) (q_le (q_si μ 149 x1.toNatClampNeg x2) (fun μ9 => q_bd (f_X10_forget  μ9) (fun u10 μ10 => some (s0, μ10)))))
def f_X10_slow (x1 : Int32) (x2 : Int32) (μ : q_M) : Option (Int32 × q_M) := q_bd (f_X10_isBridge x1 μ) (fun r3 μ1 => (if r3 = 0 then some ((-1), μ1) else q_gd (q_ix x1 6) ((if (μ1.1 149 x1.toNatClampNeg) = 0 then J_X10_slow_24 x1 x2 0 μ1 else J_X10_slow_24 x1 x2 1 μ1))))
set_option maxHeartbeats 4000000 in
set_option maxRecDepth 100000 in
theorem c_X10_slow (l : Launch) (E : q_E) (hE : q_I E) (x1 : Int32) (x2 : Int32) (μ μr : q_M) (r : Int32) (h : f_X10_slow x1 x2 μ = some (r, μr)) : Met l yX10_slow wsX10_slow ({ frames := 2, cells := 0, slots := 0, locals := 46 }) (q_Pc E μ [.ref (E.2.2.2 137), .int x1, .int x2]) (q_Qi E r μr) 0 0 (q_A E) := by
  refine q_met (cc := cX10_slow) (maxL := 4) (ret := (some .int)) hE (by decide) rfl (Nat.le_of_ble_eq_true rfl) ?_
  intro p e s m below meth c hx hb hr hml hown hts hlk F S ls hl
  have hl : lv_has ls 4 [(0, .ref (E.2.2.2 137)), (1, .int x1), (2, .int x2)] := hl
  have i10 : ∀ w ∈ u_ws RX10 TX10 54, w ∈ wsX10_slow := by decide +kernel
  have hJ24 : ∀ (s0 : Int32), ∀ (μ : q_M) (H : Heap) (locs : List Loc) (ls : Array Slot), q_S E (q_A E) s μ H locs → lv_has ls 4 [(0, .ref (E.2.2.2 137)), (1, .int x1), (2, .int x2)] → J_X10_slow_24 x1 x2 s0 μ = some (r, μr) → W p l e ({ frames := 2, cells := 0, slots := 0, locals := 46 }) s m ([.ref (E.2.2.2 137), .int x1, .int x2] : List Value).toArray below meth c H locs 0 0 (MQ below (q_Qi E r μr) ([.ref (E.2.2.2 137), .int x1, .int x2] : List Value).toArray s 0 0 (q_A E)) (F0 m 24 ls [.int s0]) := by
    intro s0 μ H locs ls S hl h
    rw [J_X10_slow_24] at h
    refine lv_istore_n (lv' := [(3, .int s0), (0, .ref (E.2.2.2 137)), (1, .int x1), (2, .int x2)]) hx hb dX10_slow_24 rfl hl (by decide) rfl (fun ls hl => ?_)
    refine lv_aload_n hx hb dX10_slow_25 rfl (lv_at hl 1 rfl) ?_
    refine q_getr (own := RX10) (C := RX10) (T := TX10) (N := 54) (ci := 10) (j := 14)  (b := 149) hx hb hts i10 hown F S q_k137 (by decide) rfl (by decide) (by decide) rfl (by decide) (hts (.fieldLink RX10 44 "HeavyRoutesModel" "isSlow" "[Z") (by decide +kernel)) dX10_slow_26 ?_
    refine lv_iload_n hx hb dX10_slow_29 rfl (lv_at hl 2 rfl) ?_
    refine lv_iload_n hx hb dX10_slow_30 rfl (lv_at hl 3 rfl) ?_
    obtain ⟨g7, h⟩ := q_gd_some h
    obtain ⟨g8, h⟩ := q_gd_some h
    refine q_zast hx hb F S q_k149 q_n149 g7 g8 dX10_slow_31 (fun H locs μ9 eμ9 S => ?_)
    have h := q_le_e h eμ9
    refine lv_aload_n hx hb dX10_slow_32 rfl (lv_at hl 1 rfl) ?_
    obtain ⟨u10, μ10, hc11, h⟩ := q_bd_some h
    refine q_kv F S (q_runV (As := []) (rest := []) (b := 137) ⟨hx, hb, hml, hown, hts⟩ F S (c_X10_forget l E hE  μ9 μ10 u10 hc11) (cwV 0 hts gX10_slow_X10_forget rfl rfl rfl (by decide +kernel) ⟨Nat.le_of_ble_eq_true rfl, Nat.le_of_ble_eq_true rfl⟩) q_k137 (by decide) rfl rfl hl.1 rfl (Nat.le_of_ble_eq_true rfl) dX10_slow_33 ⟨Nat.zero_le _, Nat.zero_le _⟩) (fun H locs S => ?_)
    refine lv_iload_n hx hb dX10_slow_36 rfl (lv_at hl 0 rfl) ?_
    exact q_iret hx hb hr S h hlk dX10_slow_37
  unfold f_X10_slow at h
  obtain ⟨H, eH⟩ : ∃ z, z = s.heap := ⟨_, rfl⟩
  obtain ⟨locs, eL⟩ : ∃ z : List Loc, z = [] := ⟨_, rfl⟩
  rw [← eH, ← eL] at S
  suffices hh : W p l e ({ frames := 2, cells := 0, slots := 0, locals := 46 }) s m ([.ref (E.2.2.2 137), .int x1, .int x2] : List Value).toArray below meth c H locs 0 0 (MQ below (q_Qi E r μr) ([.ref (E.2.2.2 137), .int x1, .int x2] : List Value).toArray s 0 0 (q_A E)) (F0 m 0 ls []) by rw [eH, eL] at hh; exact hh
  refine lv_aload_n hx hb dX10_slow_0 rfl (lv_at hl 0 rfl) ?_
  refine lv_iload_n hx hb dX10_slow_1 rfl (lv_at hl 1 rfl) ?_
  obtain ⟨r3, μ1, hc2, h⟩ := q_bd_some h
  refine q_ki F S (q_runV (As := [.int x1]) (rest := []) (b := 137) ⟨hx, hb, hml, hown, hts⟩ F S (c_X10_isBridge l E hE x1 μ μ1 r3 hc2) (cwV 1 hts gX10_slow_X10_isBridge rfl rfl rfl (by decide +kernel) ⟨Nat.le_of_ble_eq_true rfl, Nat.le_of_ble_eq_true rfl⟩) q_k137 (by decide) rfl rfl hl.1 rfl (Nat.le_of_ble_eq_true rfl) dX10_slow_2 ⟨Nat.zero_le _, Nat.zero_le _⟩) (fun H locs S => ?_)
  refine lv_if_ne (tgt := 10) hx hb dX10_slow_5 (by decide) (fun c4 => ?_) (fun c4 => ?_)
  · have h := q_ig c4 h
    refine lv_aload_n hx hb dX10_slow_10 rfl (lv_at hl 0 rfl) ?_
    refine q_getr (own := RX10) (C := RX10) (T := TX10) (N := 54) (ci := 10) (j := 14)  (b := 149) hx hb hts i10 hown F S q_k137 (by decide) rfl (by decide) (by decide) rfl (by decide) (hts (.fieldLink RX10 44 "HeavyRoutesModel" "isSlow" "[Z") (by decide +kernel)) dX10_slow_11 ?_
    refine lv_iload_n hx hb dX10_slow_14 rfl (lv_at hl 1 rfl) ?_
    obtain ⟨g5, h⟩ := q_gd_some h
    refine q_zald hx hb F S q_k149 q_n149 g5 dX10_slow_15 ?_
    refine lv_if_eq (tgt := 23) hx hb dX10_slow_16 (by decide) (fun c6 => ?_) (fun c6 => ?_)
    · have h := q_ip c6 h
      refine lv_iconst (v := 0) hx hb dX10_slow_23 (by decide) ?_
      exact hJ24 0 μ1 H locs ls S (lv_sub hl [0, 1, 2] rfl) h
    · have h := q_ig c6 h
      refine lv_iconst (v := 1) hx hb dX10_slow_19 (by decide) ?_
      refine lv_goto (tgt := 24) hx hb dX10_slow_20 (by decide) ?_
      exact hJ24 1 μ1 H locs ls S (lv_sub hl [0, 1, 2] rfl) h
  · have h := q_ip c4 h
    refine lv_iconst (v := (-1)) hx hb dX10_slow_8 (by decide) ?_
    exact q_iret hx hb hr S h hlk dX10_slow_9
def J_X10_change_24 (x1 : Int32) (x2 : Int32) (s0 : Int32) (μ : q_M) : Option (Int32 × q_M) := q_gd (q_ix x1 12) (q_gd (q_zb x2) (q_le (q_si μ 143 x1.toNatClampNeg x2) (fun μ9 => q_bd (f_X10_forget  μ9) (fun u10 μ10 => some (s0, μ10)))))
def f_X10_change (x1 : Int32) (x2 : Int32) (μ : q_M) : Option (Int32 × q_M) := q_bd (f_X10_isRoad x1 μ) (fun r3 μ1 => (if r3 = 0 then some ((-1), μ1) else q_gd (q_ix x1 12) ((if (μ1.1 143 x1.toNatClampNeg) = 0 then J_X10_change_24 x1 x2 0 μ1 else J_X10_change_24 x1 x2 1 μ1))))
set_option maxHeartbeats 4000000 in
set_option maxRecDepth 100000 in
theorem c_X10_change (l : Launch) (E : q_E) (hE : q_I E) (x1 : Int32) (x2 : Int32) (μ μr : q_M) (r : Int32) (h : f_X10_change x1 x2 μ = some (r, μr)) : Met l yX10_change wsX10_change ({ frames := 2, cells := 0, slots := 0, locals := 46 }) (q_Pc E μ [.ref (E.2.2.2 137), .int x1, .int x2]) (q_Qi E r μr) 0 0 (q_A E) := by
  refine q_met (cc := cX10_change) (maxL := 4) (ret := (some .int)) hE (by decide) rfl (Nat.le_of_ble_eq_true rfl) ?_
  intro p e s m below meth c hx hb hr hml hown hts hlk F S ls hl
  have hl : lv_has ls 4 [(0, .ref (E.2.2.2 137)), (1, .int x1), (2, .int x2)] := hl
  have i10 : ∀ w ∈ u_ws RX10 TX10 54, w ∈ wsX10_change := by decide +kernel
  have hJ24 : ∀ (s0 : Int32), ∀ (μ : q_M) (H : Heap) (locs : List Loc) (ls : Array Slot), q_S E (q_A E) s μ H locs → lv_has ls 4 [(0, .ref (E.2.2.2 137)), (1, .int x1), (2, .int x2)] → J_X10_change_24 x1 x2 s0 μ = some (r, μr) → W p l e ({ frames := 2, cells := 0, slots := 0, locals := 46 }) s m ([.ref (E.2.2.2 137), .int x1, .int x2] : List Value).toArray below meth c H locs 0 0 (MQ below (q_Qi E r μr) ([.ref (E.2.2.2 137), .int x1, .int x2] : List Value).toArray s 0 0 (q_A E)) (F0 m 24 ls [.int s0]) := by
    intro s0 μ H locs ls S hl h
    rw [J_X10_change_24] at h
    refine lv_istore_n (lv' := [(3, .int s0), (0, .ref (E.2.2.2 137)), (1, .int x1), (2, .int x2)]) hx hb dX10_change_24 rfl hl (by decide) rfl (fun ls hl => ?_)
    refine lv_aload_n hx hb dX10_change_25 rfl (lv_at hl 1 rfl) ?_
    refine q_getr (own := RX10) (C := RX10) (T := TX10) (N := 54) (ci := 10) (j := 7)  (b := 143) hx hb hts i10 hown F S q_k137 (by decide) rfl (by decide) (by decide) rfl (by decide) (hts (.fieldLink RX10 25 "HeavyRoutesModel" "open" "[Z") (by decide +kernel)) dX10_change_26 ?_
    refine lv_iload_n hx hb dX10_change_29 rfl (lv_at hl 2 rfl) ?_
    refine lv_iload_n hx hb dX10_change_30 rfl (lv_at hl 3 rfl) ?_
    obtain ⟨g7, h⟩ := q_gd_some h
    obtain ⟨g8, h⟩ := q_gd_some h
    refine q_zast hx hb F S q_k143 q_n143 g7 g8 dX10_change_31 (fun H locs μ9 eμ9 S => ?_)
    have h := q_le_e h eμ9
    refine lv_aload_n hx hb dX10_change_32 rfl (lv_at hl 1 rfl) ?_
    obtain ⟨u10, μ10, hc11, h⟩ := q_bd_some h
    refine q_kv F S (q_runV (As := []) (rest := []) (b := 137) ⟨hx, hb, hml, hown, hts⟩ F S (c_X10_forget l E hE  μ9 μ10 u10 hc11) (cwV 0 hts gX10_change_X10_forget rfl rfl rfl (by decide +kernel) ⟨Nat.le_of_ble_eq_true rfl, Nat.le_of_ble_eq_true rfl⟩) q_k137 (by decide) rfl rfl hl.1 rfl (Nat.le_of_ble_eq_true rfl) dX10_change_33 ⟨Nat.zero_le _, Nat.zero_le _⟩) (fun H locs S => ?_)
    refine lv_iload_n hx hb dX10_change_36 rfl (lv_at hl 0 rfl) ?_
    exact q_iret hx hb hr S h hlk dX10_change_37
  unfold f_X10_change at h
  obtain ⟨H, eH⟩ : ∃ z, z = s.heap := ⟨_, rfl⟩
  obtain ⟨locs, eL⟩ : ∃ z : List Loc, z = [] := ⟨_, rfl⟩
  rw [← eH, ← eL] at S
  suffices hh : W p l e ({ frames := 2, cells := 0, slots := 0, locals := 46 }) s m ([.ref (E.2.2.2 137), .int x1, .int x2] : List Value).toArray below meth c H locs 0 0 (MQ below (q_Qi E r μr) ([.ref (E.2.2.2 137), .int x1, .int x2] : List Value).toArray s 0 0 (q_A E)) (F0 m 0 ls []) by rw [eH, eL] at hh; exact hh
  refine lv_aload_n hx hb dX10_change_0 rfl (lv_at hl 0 rfl) ?_
  refine lv_iload_n hx hb dX10_change_1 rfl (lv_at hl 1 rfl) ?_
  obtain ⟨r3, μ1, hc2, h⟩ := q_bd_some h
  refine q_ki F S (q_runV (As := [.int x1]) (rest := []) (b := 137) ⟨hx, hb, hml, hown, hts⟩ F S (c_X10_isRoad l E hE x1 μ μ1 r3 hc2) (cwV 1 hts gX10_change_X10_isRoad rfl rfl rfl (by decide +kernel) ⟨Nat.le_of_ble_eq_true rfl, Nat.le_of_ble_eq_true rfl⟩) q_k137 (by decide) rfl rfl hl.1 rfl (Nat.le_of_ble_eq_true rfl) dX10_change_2 ⟨Nat.zero_le _, Nat.zero_le _⟩) (fun H locs S => ?_)
  refine lv_if_ne (tgt := 10) hx hb dX10_change_5 (by decide) (fun c4 => ?_) (fun c4 => ?_)
  · have h := q_ig c4 h
    refine lv_aload_n hx hb dX10_change_10 rfl (lv_at hl 0 rfl) ?_
    refine q_getr (own := RX10) (C := RX10) (T := TX10) (N := 54) (ci := 10) (j := 7)  (b := 143) hx hb hts i10 hown F S q_k137 (by decide) rfl (by decide) (by decide) rfl (by decide) (hts (.fieldLink RX10 25 "HeavyRoutesModel" "open" "[Z") (by decide +kernel)) dX10_change_11 ?_
    refine lv_iload_n hx hb dX10_change_14 rfl (lv_at hl 1 rfl) ?_
    obtain ⟨g5, h⟩ := q_gd_some h
    refine q_zald hx hb F S q_k143 q_n143 g5 dX10_change_15 ?_
    refine lv_if_eq (tgt := 23) hx hb dX10_change_16 (by decide) (fun c6 => ?_) (fun c6 => ?_)
    · have h := q_ip c6 h
      refine lv_iconst (v := 0) hx hb dX10_change_23 (by decide) ?_
      exact hJ24 0 μ1 H locs ls S (lv_sub hl [0, 1, 2] rfl) h
    · have h := q_ig c6 h
      refine lv_iconst (v := 1) hx hb dX10_change_19 (by decide) ?_
      refine lv_goto (tgt := 24) hx hb dX10_change_20 (by decide) ?_
      exact hJ24 1 μ1 H locs ls S (lv_sub hl [0, 1, 2] rfl) h
  · have h := q_ip c4 h
    refine lv_iconst (v := (-1)) hx hb dX10_change_8 (by decide) ?_
    exact q_iret hx hb hr S h hlk dX10_change_9
def L_X10_common_6 (x0 : Int64) (x2 : Int64) (Kx : Int64 → q_M → Option (Int64 × q_M)) : Nat → Int64 → Int64 → q_M → Option (Int64 × q_M)
  | 0, _, _, _ => none
  | n + 1, v4, v6, μ => (if (lg_cmp v6 0) = 0 then Kx v4 μ else q_gd (decide (¬ (v6 = 0))) (q_le ((q_rl v4 v6) : Int64) (fun y3 => (L_X10_common_6 x0 x2 Kx n) v6 y3 μ)))
def f_X10_common (x0 : Int64) (x2 : Int64) (μ : q_M) : Option (Int64 × q_M) := L_X10_common_6 x0 x2 (fun v4 μ => some (v4, μ)) q_fu x0 x2 μ
set_option maxHeartbeats 4000000 in
set_option maxRecDepth 100000 in
theorem c_X10_common (l : Launch) (E : q_E) (hE : q_I E) (x0 : Int64) (x2 : Int64) (μ μr : q_M) (r : Int64) (h : f_X10_common x0 x2 μ = some (r, μr)) : Met l yX10_common wsX10_common ({ frames := 0, cells := 0, slots := 0, locals := 0 }) (q_Pc E μ [.long x0, .long x2]) (q_Ql E r μr) 0 0 (q_A E) := by
  refine q_met (cc := cX10_common) (maxL := 10) (ret := (some .long)) hE (by decide) rfl (Nat.le_of_ble_eq_true rfl) ?_
  intro p e s m below meth c hx hb hr hml hown hts hlk F S ls hl
  have hl : lv_has ls 10 [(0, .long x0), (2, .long x2)] := hl
  have hL6 : ∀ (Kx : Int64 → q_M → Option (Int64 × q_M)), (∀ (v4 : Int64), ∀ (μ : q_M) (H : Heap) (locs : List Loc) (ls : Array Slot), q_S E (q_A E) s μ H locs → lv_has ls 10 [(4, .long v4)] → Kx v4 μ = some (r, μr) → W p l e ({ frames := 0, cells := 0, slots := 0, locals := 0 }) s m ([.long x0, .long x2] : List Value).toArray below meth c H locs 0 0 (MQ below (q_Ql E r μr) ([.long x0, .long x2] : List Value).toArray s 0 0 (q_A E)) (F0 m 31 ls [])) → ∀ (n : Nat), ∀ (v4 : Int64), ∀ (v6 : Int64), ∀ (μ : q_M) (H : Heap) (locs : List Loc) (ls : Array Slot), q_S E (q_A E) s μ H locs → lv_has ls 10 [(4, .long v4), (6, .long v6)] → L_X10_common_6 x0 x2 Kx n v4 v6 μ = some (r, μr) → W p l e ({ frames := 0, cells := 0, slots := 0, locals := 0 }) s m ([.long x0, .long x2] : List Value).toArray below meth c H locs 0 0 (MQ below (q_Ql E r μr) ([.long x0, .long x2] : List Value).toArray s 0 0 (q_A E)) (F0 m 6 ls []) := by
    intro Kx hKx n
    induction n with
    | zero => intro v4 v6 μ H locs ls S hl h; exact absurd h (by simp [L_X10_common_6])
    | succ n ih =>
      intro v4 v6 μ H locs ls S hl h
      rw [L_X10_common_6] at h
      refine lv_lload hx hb dX10_common_6 (lv_at hl 1 rfl) ?_
      refine lv_lconst (v := 0) hx hb dX10_common_8 (by decide) ?_
      refine W.lcmp hx hb dX10_common_9 ?_
      refine lv_if_eq (tgt := 31) hx hb dX10_common_10 (by decide) (fun c1 => ?_) (fun c1 => ?_)
      · have h := q_ip c1 h
        exact hKx v4 μ H locs ls S (lv_sub hl [0] rfl) h
      · have h := q_ig c1 h
        refine lv_lload hx hb dX10_common_13 (lv_at hl 0 rfl) ?_
        refine lv_lload hx hb dX10_common_15 (lv_at hl 1 rfl) ?_
        obtain ⟨g2, h⟩ := q_gd_some h
        refine lv_lrem hx hb dX10_common_17 (of_decide_eq_true g2) ?_
        refine lv_topl (fun y3 ey3 => ?_)
        have h := q_le_e h ey3
        refine lv_lstore (lv' := [(8, .long y3), (4, .long v4), (6, .long v6)]) hx hb dX10_common_18 hl (by decide) rfl (fun ls hl => ?_)
        refine lv_lload hx hb dX10_common_20 (lv_at hl 2 rfl) ?_
        refine lv_lstore (lv' := [(4, .long v6), (8, .long y3), (6, .long v6)]) hx hb dX10_common_22 hl (by decide) rfl (fun ls hl => ?_)
        refine lv_lload hx hb dX10_common_24 (lv_at hl 1 rfl) ?_
        refine lv_lstore (lv' := [(6, .long y3), (4, .long v6), (8, .long y3)]) hx hb dX10_common_26 hl (by decide) rfl (fun ls hl => ?_)
        refine lv_goto (tgt := 6) hx hb dX10_common_28 (by decide) ?_
        exact ih v6 y3 μ H locs ls S (lv_sub hl [1, 0] rfl) h
  unfold f_X10_common at h
  obtain ⟨H, eH⟩ : ∃ z, z = s.heap := ⟨_, rfl⟩
  obtain ⟨locs, eL⟩ : ∃ z : List Loc, z = [] := ⟨_, rfl⟩
  rw [← eH, ← eL] at S
  suffices hh : W p l e ({ frames := 0, cells := 0, slots := 0, locals := 0 }) s m ([.long x0, .long x2] : List Value).toArray below meth c H locs 0 0 (MQ below (q_Ql E r μr) ([.long x0, .long x2] : List Value).toArray s 0 0 (q_A E)) (F0 m 0 ls []) by rw [eH, eL] at hh; exact hh
  refine lv_lload_n hx hb dX10_common_0 rfl (lv_at hl 0 rfl) ?_
  refine lv_lstore (lv' := [(4, .long x0), (0, .long x0), (2, .long x2)]) hx hb dX10_common_1 hl (by decide) rfl (fun ls hl => ?_)
  refine lv_lload_n hx hb dX10_common_3 rfl (lv_at hl 2 rfl) ?_
  refine lv_lstore (lv' := [(6, .long x2), (4, .long x0), (0, .long x0), (2, .long x2)]) hx hb dX10_common_4 hl (by decide) rfl (fun ls hl => ?_)
  refine hL6 _ (fun v4 μ H locs ls S hl h => ?_) q_fu x0 x2 μ H locs ls S (lv_sub hl [1, 0] rfl) h
  refine lv_lload hx hb dX10_common_31 (lv_at hl 0 rfl) ?_
  exact q_lret hx hb hr S h hlk dX10_common_33
