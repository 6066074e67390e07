def f_X10_product (x1 : Int64) (x3 : Int64) (μ : q_M) : Option (Unit × q_M) := q_le ((x1 / 1000000000) : Int64) (fun y1 => q_le ((q_rl x1 1000000000) : Int64) (fun y2 => q_le ((x3 / 1000000000) : Int64) (fun y3 => q_le ((q_rl x3 1000000000) : Int64) (fun y4 => q_le (((y2 * y3) + (y1 * y4)) : Int64) (fun y5 => q_le (q_sl μ 137 50 ((y2 * y4) + ((q_rl y5 1000000000) * 1000000000))) (fun μ6 => q_le (q_sl μ6 137 49 (((y1 * y3) + (y5 / 1000000000)) + ((μ6.2 137 50) / 1000000000000000000))) (fun μ7 => q_le (q_sl μ7 137 50 (q_rl (μ7.2 137 50) 1000000000000000000)) (fun μ8 => some ((), μ8)))))))))
set_option maxHeartbeats 4000000 in
set_option maxRecDepth 100000 in
theorem c_X10_product (l : Launch) (E : q_E) (hE : q_I E) (x1 : Int64) (x3 : Int64) (μ μr : q_M) (r : Unit) (h : f_X10_product x1 x3 μ = some (r, μr)) : Met l yX10_product wsX10_product ({ frames := 0, cells := 0, slots := 0, locals := 0 }) (q_Pc E μ [.ref (E.2.2.2 137), .long x1, .long x3]) (q_Qv E r μr) 0 0 (q_A E) := by
  refine q_met (cc := cX10_product) (maxL := 15) (ret := none) hE (by decide) rfl (Nat.le_of_ble_eq_true rfl) ?_
  intro p e s m below meth c hx hb hr hml hown hts hlk F S ls hl
  have hl : lv_has ls 15 [(0, .ref (E.2.2.2 137)), (1, .long x1), (3, .long x3)] := hl
  have i10 : ∀ w ∈ u_ws RX10 TX10 54, w ∈ wsX10_product := by decide +kernel
  unfold f_X10_product at h
  obtain ⟨H, eH⟩ : ∃ z, z = s.heap := ⟨_, rfl⟩
  obtain ⟨locs, eL⟩ : ∃ z : List Loc, z = [] := ⟨_, rfl⟩
  rw [← eH, ← eL] at S
  suffices hh : W p l e ({ frames := 0, cells := 0, slots := 0, locals := 0 }) s m ([.ref (E.2.2.2 137), .long x1, .long x3] : List Value).toArray below meth c H locs 0 0 (MQ below (q_Qv E r μr) ([.ref (E.2.2.2 137), .long x1, .long x3] : List Value).toArray s 0 0 (q_A E)) (F0 m 0 ls []) by rw [eH, eL] at hh; exact hh
  refine lv_lload_n hx hb dX10_product_0 rfl (lv_at hl 1 rfl) ?_
  refine lv_ldc2 (v := 1000000000) hx hb hown (hts (.constantLong RX10 144 (1000000000)) (by decide +kernel)) dX10_product_1 ?_
  refine lv_ldiv hx hb dX10_product_4 (by decide) ?_
  refine lv_topl (fun y1 ey1 => ?_)
  have h := q_le_e h ey1
  refine lv_lstore (lv' := [(5, .long y1), (0, .ref (E.2.2.2 137)), (1, .long x1), (3, .long x3)]) hx hb dX10_product_5 hl (by decide) rfl (fun ls hl => ?_)
  refine lv_lload_n hx hb dX10_product_7 rfl (lv_at hl 2 rfl) ?_
  refine lv_ldc2 (v := 1000000000) hx hb hown (hts (.constantLong RX10 144 (1000000000)) (by decide +kernel)) dX10_product_8 ?_
  refine lv_lrem hx hb dX10_product_11 (by decide) ?_
  refine lv_topl (fun y2 ey2 => ?_)
  have h := q_le_e h ey2
  refine lv_lstore (lv' := [(7, .long y2), (5, .long y1), (0, .ref (E.2.2.2 137)), (1, .long x1), (3, .long x3)]) hx hb dX10_product_12 hl (by decide) rfl (fun ls hl => ?_)
  refine lv_lload_n hx hb dX10_product_14 rfl (lv_at hl 4 rfl) ?_
  refine lv_ldc2 (v := 1000000000) hx hb hown (hts (.constantLong RX10 144 (1000000000)) (by decide +kernel)) dX10_product_15 ?_
  refine lv_ldiv hx hb dX10_product_18 (by decide) ?_
  refine lv_topl (fun y3 ey3 => ?_)
  have h := q_le_e h ey3
  refine lv_lstore (lv' := [(9, .long y3), (7, .long y2), (5, .long y1), (0, .ref (E.2.2.2 137)), (1, .long x1), (3, .long x3)]) hx hb dX10_product_19 hl (by decide) rfl (fun ls hl => ?_)
  refine lv_lload_n hx hb dX10_product_21 rfl (lv_at hl 5 rfl) ?_
  refine lv_ldc2 (v := 1000000000) hx hb hown (hts (.constantLong RX10 144 (1000000000)) (by decide +kernel)) dX10_product_22 ?_
  refine lv_lrem hx hb dX10_product_25 (by decide) ?_
  refine lv_topl (fun y4 ey4 => ?_)
  have h := q_le_e h ey4
  refine lv_lstore (lv' := [(11, .long y4), (9, .long y3), (7, .long y2), (5, .long y1), (0, .ref (E.2.2.2 137)), (1, .long x1), (3, .long x3)]) hx hb dX10_product_26 hl (by decide) rfl (fun ls hl => ?_)
  refine lv_lload hx hb dX10_product_28 (lv_at hl 2 rfl) ?_
  refine lv_lload hx hb dX10_product_30 (lv_at hl 1 rfl) ?_
  refine lv_lmul hx hb dX10_product_32 ?_
  refine lv_lload hx hb dX10_product_33 (lv_at hl 3 rfl) ?_
  refine lv_lload hx hb dX10_product_35 (lv_at hl 0 rfl) ?_
  refine lv_lmul hx hb dX10_product_37 ?_
  refine lv_ladd hx hb dX10_product_38 ?_
  refine lv_topl (fun y5 ey5 => ?_)
  have h := q_le_e h ey5
  refine lv_lstore (lv' := [(13, .long y5), (11, .long y4), (9, .long y3), (7, .long y2), (5, .long y1), (0, .ref (E.2.2.2 137)), (1, .long x1), (3, .long x3)]) hx hb dX10_product_39 hl (by decide) rfl (fun ls hl => ?_)
  refine lv_aload_n hx hb dX10_product_41 rfl (lv_at hl 5 rfl) ?_
  refine lv_lload hx hb dX10_product_42 (lv_at hl 3 rfl) ?_
  refine lv_lload hx hb dX10_product_44 (lv_at hl 1 rfl) ?_
  refine lv_lmul hx hb dX10_product_46 ?_
  refine lv_lload hx hb dX10_product_47 (lv_at hl 0 rfl) ?_
  refine lv_ldc2 (v := 1000000000) hx hb hown (hts (.constantLong RX10 144 (1000000000)) (by decide +kernel)) dX10_product_49 ?_
  refine lv_lrem hx hb dX10_product_52 (by decide) ?_
  refine lv_ldc2 (v := 1000000000) hx hb hown (hts (.constantLong RX10 144 (1000000000)) (by decide +kernel)) dX10_product_53 ?_
  refine lv_lmul hx hb dX10_product_56 ?_
  refine lv_ladd hx hb dX10_product_57 ?_
  refine q_putl (own := RX10) (C := RX10) (T := TX10) (N := 54) (ci := 10) (j := 50)  hx hb hts i10 tyX10 tyX10_ok nmX10 hown F S q_k137 (by decide) rfl (by decide) (by decide) rfl (hts (.fieldLink RX10 146 "HeavyRoutesModel" "low" "J") (by decide +kernel)) rfl (by decide +kernel) dX10_product_58 (fun H locs μ6 eμ6 S => ?_)
  have h := q_le_e h eμ6
  refine lv_aload_n hx hb dX10_product_61 rfl (lv_at hl 5 rfl) ?_
  refine lv_lload hx hb dX10_product_62 (lv_at hl 4 rfl) ?_
  refine lv_lload hx hb dX10_product_64 (lv_at hl 2 rfl) ?_
  refine lv_lmul hx hb dX10_product_66 ?_
  refine lv_lload hx hb dX10_product_67 (lv_at hl 0 rfl) ?_
  refine lv_ldc2 (v := 1000000000) hx hb hown (hts (.constantLong RX10 144 (1000000000)) (by decide +kernel)) dX10_product_69 ?_
  refine lv_ldiv hx hb dX10_product_72 (by decide) ?_
  refine lv_ladd hx hb dX10_product_73 ?_
  refine lv_aload_n hx hb dX10_product_74 rfl (lv_at hl 5 rfl) ?_
  refine q_getl (own := RX10) (C := RX10) (T := TX10) (N := 54) (ci := 10) (j := 50)  hx hb hts i10 hown F S q_k137 (by decide) rfl (by decide) (by decide) rfl (hts (.fieldLink RX10 146 "HeavyRoutesModel" "low" "J") (by decide +kernel)) dX10_product_75 ?_
  refine lv_ldc2 (v := 1000000000000000000) hx hb hown (hts (.constantLong RX10 150 (1000000000000000000)) (by decide +kernel)) dX10_product_78 ?_
  refine lv_ldiv hx hb dX10_product_81 (by decide) ?_
  refine lv_ladd hx hb dX10_product_82 ?_
  refine q_putl (own := RX10) (C := RX10) (T := TX10) (N := 54) (ci := 10) (j := 49)  hx hb hts i10 tyX10 tyX10_ok nmX10 hown F S q_k137 (by decide) rfl (by decide) (by decide) rfl (hts (.fieldLink RX10 152 "HeavyRoutesModel" "high" "J") (by decide +kernel)) rfl (by decide +kernel) dX10_product_83 (fun H locs μ7 eμ7 S => ?_)
  have h := q_le_e h eμ7
  refine lv_aload_n hx hb dX10_product_86 rfl (lv_at hl 5 rfl) ?_
  refine lv_aload_n hx hb dX10_product_87 rfl (lv_at hl 5 rfl) ?_
  refine q_getl (own := RX10) (C := RX10) (T := TX10) (N := 54) (ci := 10) (j := 50)  hx hb hts i10 hown F S q_k137 (by decide) rfl (by decide) (by decide) rfl (hts (.fieldLink RX10 146 "HeavyRoutesModel" "low" "J") (by decide +kernel)) dX10_product_88 ?_
  refine lv_ldc2 (v := 1000000000000000000) hx hb hown (hts (.constantLong RX10 150 (1000000000000000000)) (by decide +kernel)) dX10_product_91 ?_
  refine lv_lrem hx hb dX10_product_94 (by decide) ?_
  refine q_putl (own := RX10) (C := RX10) (T := TX10) (N := 54) (ci := 10) (j := 50)  hx hb hts i10 tyX10 tyX10_ok nmX10 hown F S q_k137 (by decide) rfl (by decide) (by decide) rfl (hts (.fieldLink RX10 146 "HeavyRoutesModel" "low" "J") (by decide +kernel)) rfl (by decide +kernel) dX10_product_95 (fun H locs μ8 eμ8 S => ?_)
  have h := q_le_e h eμ8
  exact q_vret hx hb hr S h hlk dX10_product_98
def J_X10_add_109 (x1 : Int64) (x3 : Int64) (μ : q_M) : Option (Unit × q_M) := (if (lg_cmp (μ.2 137 46) 1000000000000000000) < 0 then some ((), μ) else q_le (q_sl μ 137 46 ((μ.2 137 46) - 1000000000000000000)) (fun μ9 => q_le (q_sl μ9 137 45 ((μ9.2 137 45) + 1)) (fun μ10 => some ((), μ10))))
def J_X10_add_78 (x1 : Int64) (x3 : Int64) (μ : q_M) : Option (Unit × q_M) := (if 0 ≤ (lg_cmp (μ.2 137 46) 0) then J_X10_add_109 x1 x3 μ else q_le (q_sl μ 137 46 ((μ.2 137 46) + 1000000000000000000)) (fun μ11 => q_le (q_sl μ11 137 45 ((μ11.2 137 45) - 1)) (fun μ12 => J_X10_add_109 x1 x3 μ12)))
def J_X10_add_14 (x1 : Int64) (x3 : Int64) (s0 : Int64) (s1 : Int64) (μ : q_M) : Option (Unit × q_M) := q_bd (f_X10_product s1 s0 μ) (fun u2 μ2 => (if 0 ≤ (lg_cmp x3 0) then q_le (q_sl μ2 137 45 ((μ2.2 137 45) + (μ2.2 137 49))) (fun μ5 => q_le (q_sl μ5 137 46 ((μ5.2 137 46) + (μ5.2 137 50))) (fun μ6 => J_X10_add_78 x1 x3 μ6)) else q_le (q_sl μ2 137 45 ((μ2.2 137 45) - (μ2.2 137 49))) (fun μ13 => q_le (q_sl μ13 137 46 ((μ13.2 137 46) - (μ13.2 137 50))) (fun μ14 => J_X10_add_78 x1 x3 μ14))))
def f_X10_add (x1 : Int64) (x3 : Int64) (μ : q_M) : Option (Unit × q_M) := (if 0 ≤ (lg_cmp x3 0) then J_X10_add_14 x1 x3 x3 x1 μ else J_X10_add_14 x1 x3 (-x3) x1 μ)
set_option maxHeartbeats 4000000 in
set_option maxRecDepth 100000 in
theorem c_X10_add (l : Launch) (E : q_E) (hE : q_I E) (x1 : Int64) (x3 : Int64) (μ μr : q_M) (r : Unit) (h : f_X10_add x1 x3 μ = some (r, μr)) : Met l yX10_add wsX10_add ({ frames := 1, cells := 0, slots := 0, locals := 34 }) (q_Pc E μ [.ref (E.2.2.2 137), .long x1, .long x3]) (q_Qv E r μr) 0 0 (q_A E) := by
  refine q_met (cc := cX10_add) (maxL := 5) (ret := none) hE (by decide) rfl (Nat.le_of_ble_eq_true rfl) ?_
  intro p e s m below meth c hx hb hr hml hown hts hlk F S ls hl
  have hl : lv_has ls 5 [(0, .ref (E.2.2.2 137)), (1, .long x1), (3, .long x3)] := hl
  have i10 : ∀ w ∈ u_ws RX10 TX10 54, w ∈ wsX10_add := by decide +kernel
  have hJ109 : ∀ (μ : q_M) (H : Heap) (locs : List Loc) (ls : Array Slot), q_S E (q_A E) s μ H locs → lv_has ls 5 [(0, .ref (E.2.2.2 137))] → J_X10_add_109 x1 x3 μ = some (r, μr) → W p l e ({ frames := 1, cells := 0, slots := 0, locals := 34 }) s m ([.ref (E.2.2.2 137), .long x1, .long x3] : List Value).toArray below meth c H locs 0 0 (MQ below (q_Qv E r μr) ([.ref (E.2.2.2 137), .long x1, .long x3] : List Value).toArray s 0 0 (q_A E)) (F0 m 109 ls []) := by
    intro μ H locs ls S hl h
    rw [J_X10_add_109] at h
    refine lv_aload_n hx hb dX10_add_109 rfl (lv_at hl 0 rfl) ?_
    refine q_getl (own := RX10) (C := RX10) (T := TX10) (N := 54) (ci := 10) (j := 46)  hx hb hts i10 hown F S q_k137 (by decide) rfl (by decide) (by decide) rfl (hts (.fieldLink RX10 162 "HeavyRoutesModel" "sumLow" "J") (by decide +kernel)) dX10_add_110 ?_
    refine lv_ldc2 (v := 1000000000000000000) hx hb hown (hts (.constantLong RX10 150 (1000000000000000000)) (by decide +kernel)) dX10_add_113 ?_
    refine W.lcmp hx hb dX10_add_116 ?_
    refine lv_if_lt (tgt := 142) hx hb dX10_add_117 (by decide) (fun c8 => ?_) (fun c8 => ?_)
    · have h := q_ip c8 h
      exact q_vret hx hb hr S h hlk dX10_add_142
    · have h := q_ig c8 h
      refine lv_aload_n hx hb dX10_add_120 rfl (lv_at hl 0 rfl) ?_
      refine lv_dup hx hb dX10_add_121 rfl ?_
      refine q_getl (own := RX10) (C := RX10) (T := TX10) (N := 54) (ci := 10) (j := 46)  hx hb hts i10 hown F S q_k137 (by decide) rfl (by decide) (by decide) rfl (hts (.fieldLink RX10 162 "HeavyRoutesModel" "sumLow" "J") (by decide +kernel)) dX10_add_122 ?_
      refine lv_ldc2 (v := 1000000000000000000) hx hb hown (hts (.constantLong RX10 150 (1000000000000000000)) (by decide +kernel)) dX10_add_125 ?_
      refine lv_lsub hx hb dX10_add_128 ?_
      refine q_putl (own := RX10) (C := RX10) (T := TX10) (N := 54) (ci := 10) (j := 46)  hx hb hts i10 tyX10 tyX10_ok nmX10 hown F S q_k137 (by decide) rfl (by decide) (by decide) rfl (hts (.fieldLink RX10 162 "HeavyRoutesModel" "sumLow" "J") (by decide +kernel)) rfl (by decide +kernel) dX10_add_129 (fun H locs μ9 eμ9 S => ?_)
      have h := q_le_e h eμ9
      refine lv_aload_n hx hb dX10_add_132 rfl (lv_at hl 0 rfl) ?_
      refine lv_dup hx hb dX10_add_133 rfl ?_
      refine q_getl (own := RX10) (C := RX10) (T := TX10) (N := 54) (ci := 10) (j := 45)  hx hb hts i10 hown F S q_k137 (by decide) rfl (by decide) (by decide) rfl (hts (.fieldLink RX10 159 "HeavyRoutesModel" "sumHigh" "J") (by decide +kernel)) dX10_add_134 ?_
      refine lv_lconst (v := 1) hx hb dX10_add_137 (by decide) ?_
      refine lv_ladd hx hb dX10_add_138 ?_
      refine q_putl (own := RX10) (C := RX10) (T := TX10) (N := 54) (ci := 10) (j := 45)  hx hb hts i10 tyX10 tyX10_ok nmX10 hown F S q_k137 (by decide) rfl (by decide) (by decide) rfl (hts (.fieldLink RX10 159 "HeavyRoutesModel" "sumHigh" "J") (by decide +kernel)) rfl (by decide +kernel) dX10_add_139 (fun H locs μ10 eμ10 S => ?_)
      have h := q_le_e h eμ10
      exact q_vret hx hb hr S h hlk dX10_add_142
  have hJ78 : ∀ (μ : q_M) (H : Heap) (locs : List Loc) (ls : Array Slot), q_S E (q_A E) s μ H locs → lv_has ls 5 [(0, .ref (E.2.2.2 137))] → J_X10_add_78 x1 x3 μ = some (r, μr) → W p l e ({ frames := 1, cells := 0, slots := 0, locals := 34 }) s m ([.ref (E.2.2.2 137), .long x1, .long x3] : List Value).toArray below meth c H locs 0 0 (MQ below (q_Qv E r μr) ([.ref (E.2.2.2 137), .long x1, .long x3] : List Value).toArray s 0 0 (q_A E)) (F0 m 78 ls []) := by
    intro μ H locs ls S hl h
    rw [J_X10_add_78] at h
    refine lv_aload_n hx hb dX10_add_78 rfl (lv_at hl 0 rfl) ?_
    refine q_getl (own := RX10) (C := RX10) (T := TX10) (N := 54) (ci := 10) (j := 46)  hx hb hts i10 hown F S q_k137 (by decide) rfl (by decide) (by decide) rfl (hts (.fieldLink RX10 162 "HeavyRoutesModel" "sumLow" "J") (by decide +kernel)) dX10_add_79 ?_
    refine lv_lconst (v := 0) hx hb dX10_add_82 (by decide) ?_
    refine W.lcmp hx hb dX10_add_83 ?_
    refine lv_if_ge (tgt := 109) hx hb dX10_add_84 (by decide) (fun c7 => ?_) (fun c7 => ?_)
    · have h := q_ip c7 h
      exact hJ109 μ H locs ls S (lv_sub hl [0] rfl) h
    · have h := q_ig c7 h
      refine lv_aload_n hx hb dX10_add_87 rfl (lv_at hl 0 rfl) ?_
      refine lv_dup hx hb dX10_add_88 rfl ?_
      refine q_getl (own := RX10) (C := RX10) (T := TX10) (N := 54) (ci := 10) (j := 46)  hx hb hts i10 hown F S q_k137 (by decide) rfl (by decide) (by decide) rfl (hts (.fieldLink RX10 162 "HeavyRoutesModel" "sumLow" "J") (by decide +kernel)) dX10_add_89 ?_
      refine lv_ldc2 (v := 1000000000000000000) hx hb hown (hts (.constantLong RX10 150 (1000000000000000000)) (by decide +kernel)) dX10_add_92 ?_
      refine lv_ladd hx hb dX10_add_95 ?_
      refine q_putl (own := RX10) (C := RX10) (T := TX10) (N := 54) (ci := 10) (j := 46)  hx hb hts i10 tyX10 tyX10_ok nmX10 hown F S q_k137 (by decide) rfl (by decide) (by decide) rfl (hts (.fieldLink RX10 162 "HeavyRoutesModel" "sumLow" "J") (by decide +kernel)) rfl (by decide +kernel) dX10_add_96 (fun H locs μ11 eμ11 S => ?_)
      have h := q_le_e h eμ11
      refine lv_aload_n hx hb dX10_add_99 rfl (lv_at hl 0 rfl) ?_
      refine lv_dup hx hb dX10_add_100 rfl ?_
      refine q_getl (own := RX10) (C := RX10) (T := TX10) (N := 54) (ci := 10) (j := 45)  hx hb hts i10 hown F S q_k137 (by decide) rfl (by decide) (by decide) rfl (hts (.fieldLink RX10 159 "HeavyRoutesModel" "sumHigh" "J") (by decide +kernel)) dX10_add_101 ?_
      refine lv_lconst (v := 1) hx hb dX10_add_104 (by decide) ?_
      refine lv_lsub hx hb dX10_add_105 ?_
      refine q_putl (own := RX10) (C := RX10) (T := TX10) (N := 54) (ci := 10) (j := 45)  hx hb hts i10 tyX10 tyX10_ok nmX10 hown F S q_k137 (by decide) rfl (by decide) (by decide) rfl (hts (.fieldLink RX10 159 "HeavyRoutesModel" "sumHigh" "J") (by decide +kernel)) rfl (by decide +kernel) dX10_add_106 (fun H locs μ12 eμ12 S => ?_)
      have h := q_le_e h eμ12
      exact hJ109 μ12 H locs ls S (lv_sub hl [0] rfl) h
  have hJ14 : ∀ (s0 : Int64), ∀ (s1 : Int64), ∀ (μ : q_M) (H : Heap) (locs : List Loc) (ls : Array Slot), q_S E (q_A E) s μ H locs → lv_has ls 5 [(0, .ref (E.2.2.2 137)), (3, .long x3)] → J_X10_add_14 x1 x3 s0 s1 μ = some (r, μr) → W p l e ({ frames := 1, cells := 0, slots := 0, locals := 34 }) s m ([.ref (E.2.2.2 137), .long x1, .long x3] : List Value).toArray below meth c H locs 0 0 (MQ below (q_Qv E r μr) ([.ref (E.2.2.2 137), .long x1, .long x3] : List Value).toArray s 0 0 (q_A E)) (F0 m 14 ls [.long s0, .long s1, .ref (E.2.2.2 137)]) := by
    intro s0 s1 μ H locs ls S hl h
    rw [J_X10_add_14] at h
    obtain ⟨u2, μ2, hc3, h⟩ := q_bd_some h
    refine q_kv F S (q_runV (As := [.long s1, .long s0]) (rest := []) (b := 137) ⟨hx, hb, hml, hown, hts⟩ F S (c_X10_product l E hE s1 s0 μ μ2 u2 hc3) (cwV 2 hts gX10_add_X10_product rfl rfl rfl (by decide +kernel) ⟨Nat.le_of_ble_eq_true rfl, Nat.le_of_ble_eq_true rfl⟩) q_k137 (by decide) rfl rfl hl.1 rfl (Nat.le_of_ble_eq_true rfl) dX10_add_14 ⟨Nat.zero_le _, Nat.zero_le _⟩) (fun H locs S => ?_)
    refine lv_lload_n hx hb dX10_add_17 rfl (lv_at hl 1 rfl) ?_
    refine lv_lconst (v := 0) hx hb dX10_add_18 (by decide) ?_
    refine W.lcmp hx hb dX10_add_19 ?_
    refine lv_if_ge (tgt := 52) hx hb dX10_add_20 (by decide) (fun c4 => ?_) (fun c4 => ?_)
    · have h := q_ip c4 h
      refine lv_aload_n hx hb dX10_add_52 rfl (lv_at hl 0 rfl) ?_
      refine lv_dup hx hb dX10_add_53 rfl ?_
      refine q_getl (own := RX10) (C := RX10) (T := TX10) (N := 54) (ci := 10) (j := 45)  hx hb hts i10 hown F S q_k137 (by decide) rfl (by decide) (by decide) rfl (hts (.fieldLink RX10 159 "HeavyRoutesModel" "sumHigh" "J") (by decide +kernel)) dX10_add_54 ?_
      refine lv_aload_n hx hb dX10_add_57 rfl (lv_at hl 0 rfl) ?_
      refine q_getl (own := RX10) (C := RX10) (T := TX10) (N := 54) (ci := 10) (j := 49)  hx hb hts i10 hown F S q_k137 (by decide) rfl (by decide) (by decide) rfl (hts (.fieldLink RX10 152 "HeavyRoutesModel" "high" "J") (by decide +kernel)) dX10_add_58 ?_
      refine lv_ladd hx hb dX10_add_61 ?_
      refine q_putl (own := RX10) (C := RX10) (T := TX10) (N := 54) (ci := 10) (j := 45)  hx hb hts i10 tyX10 tyX10_ok nmX10 hown F S q_k137 (by decide) rfl (by decide) (by decide) rfl (hts (.fieldLink RX10 159 "HeavyRoutesModel" "sumHigh" "J") (by decide +kernel)) rfl (by decide +kernel) dX10_add_62 (fun H locs μ5 eμ5 S => ?_)
      have h := q_le_e h eμ5
      refine lv_aload_n hx hb dX10_add_65 rfl (lv_at hl 0 rfl) ?_
      refine lv_dup hx hb dX10_add_66 rfl ?_
      refine q_getl (own := RX10) (C := RX10) (T := TX10) (N := 54) (ci := 10) (j := 46)  hx hb hts i10 hown F S q_k137 (by decide) rfl (by decide) (by decide) rfl (hts (.fieldLink RX10 162 "HeavyRoutesModel" "sumLow" "J") (by decide +kernel)) dX10_add_67 ?_
      refine lv_aload_n hx hb dX10_add_70 rfl (lv_at hl 0 rfl) ?_
      refine q_getl (own := RX10) (C := RX10) (T := TX10) (N := 54) (ci := 10) (j := 50)  hx hb hts i10 hown F S q_k137 (by decide) rfl (by decide) (by decide) rfl (hts (.fieldLink RX10 146 "HeavyRoutesModel" "low" "J") (by decide +kernel)) dX10_add_71 ?_
      refine lv_ladd hx hb dX10_add_74 ?_
      refine q_putl (own := RX10) (C := RX10) (T := TX10) (N := 54) (ci := 10) (j := 46)  hx hb hts i10 tyX10 tyX10_ok nmX10 hown F S q_k137 (by decide) rfl (by decide) (by decide) rfl (hts (.fieldLink RX10 162 "HeavyRoutesModel" "sumLow" "J") (by decide +kernel)) rfl (by decide +kernel) dX10_add_75 (fun H locs μ6 eμ6 S => ?_)
      have h := q_le_e h eμ6
      exact hJ78 μ6 H locs ls S (lv_sub hl [0] rfl) h
    · have h := q_ig c4 h
      refine lv_aload_n hx hb dX10_add_23 rfl (lv_at hl 0 rfl) ?_
      refine lv_dup hx hb dX10_add_24 rfl ?_
      refine q_getl (own := RX10) (C := RX10) (T := TX10) (N := 54) (ci := 10) (j := 45)  hx hb hts i10 hown F S q_k137 (by decide) rfl (by decide) (by decide) rfl (hts (.fieldLink RX10 159 "HeavyRoutesModel" "sumHigh" "J") (by decide +kernel)) dX10_add_25 ?_
      refine lv_aload_n hx hb dX10_add_28 rfl (lv_at hl 0 rfl) ?_
      refine q_getl (own := RX10) (C := RX10) (T := TX10) (N := 54) (ci := 10) (j := 49)  hx hb hts i10 hown F S q_k137 (by decide) rfl (by decide) (by decide) rfl (hts (.fieldLink RX10 152 "HeavyRoutesModel" "high" "J") (by decide +kernel)) dX10_add_29 ?_
      refine lv_lsub hx hb dX10_add_32 ?_
      refine q_putl (own := RX10) (C := RX10) (T := TX10) (N := 54) (ci := 10) (j := 45)  hx hb hts i10 tyX10 tyX10_ok nmX10 hown F S q_k137 (by decide) rfl (by decide) (by decide) rfl (hts (.fieldLink RX10 159 "HeavyRoutesModel" "sumHigh" "J") (by decide +kernel)) rfl (by decide +kernel) dX10_add_33 (fun H locs μ13 eμ13 S => ?_)
      have h := q_le_e h eμ13
      refine lv_aload_n hx hb dX10_add_36 rfl (lv_at hl 0 rfl) ?_
      refine lv_dup hx hb dX10_add_37 rfl ?_
      refine q_getl (own := RX10) (C := RX10) (T := TX10) (N := 54) (ci := 10) (j := 46)  hx hb hts i10 hown F S q_k137 (by decide) rfl (by decide) (by decide) rfl (hts (.fieldLink RX10 162 "HeavyRoutesModel" "sumLow" "J") (by decide +kernel)) dX10_add_38 ?_
      refine lv_aload_n hx hb dX10_add_41 rfl (lv_at hl 0 rfl) ?_
      refine q_getl (own := RX10) (C := RX10) (T := TX10) (N := 54) (ci := 10) (j := 50)  hx hb hts i10 hown F S q_k137 (by decide) rfl (by decide) (by decide) rfl (hts (.fieldLink RX10 146 "HeavyRoutesModel" "low" "J") (by decide +kernel)) dX10_add_42 ?_
      refine lv_lsub hx hb dX10_add_45 ?_
      refine q_putl (own := RX10) (C := RX10) (T := TX10) (N := 54) (ci := 10) (j := 46)  hx hb hts i10 tyX10 tyX10_ok nmX10 hown F S q_k137 (by decide) rfl (by decide) (by decide) rfl (hts (.fieldLink RX10 162 "HeavyRoutesModel" "sumLow" "J") (by decide +kernel)) rfl (by decide +kernel) dX10_add_46 (fun H locs μ14 eμ14 S => ?_)
      have h := q_le_e h eμ14
      refine lv_goto (tgt := 78) hx hb dX10_add_49 (by decide) ?_
      exact hJ78 μ14 H locs ls S (lv_sub hl [0] rfl) h
  unfold f_X10_add at h
  obtain ⟨H, eH⟩ : ∃ z, z = s.heap := ⟨_, rfl⟩
  obtain ⟨locs, eL⟩ : ∃ z : List Loc, z = [] := ⟨_, rfl⟩
  rw [← eH, ← eL] at S
  suffices hh : W p l e ({ frames := 1, cells := 0, slots := 0, locals := 34 }) s m ([.ref (E.2.2.2 137), .long x1, .long x3] : List Value).toArray below meth c H locs 0 0 (MQ below (q_Qv E r μr) ([.ref (E.2.2.2 137), .long x1, .long x3] : List Value).toArray s 0 0 (q_A E)) (F0 m 0 ls []) by rw [eH, eL] at hh; exact hh
  refine lv_aload_n hx hb dX10_add_0 rfl (lv_at hl 0 rfl) ?_
  refine lv_lload_n hx hb dX10_add_1 rfl (lv_at hl 1 rfl) ?_
  refine lv_lload_n hx hb dX10_add_2 rfl (lv_at hl 2 rfl) ?_
  refine lv_lconst (v := 0) hx hb dX10_add_3 (by decide) ?_
  refine W.lcmp hx hb dX10_add_4 ?_
  refine lv_if_ge (tgt := 13) hx hb dX10_add_5 (by decide) (fun c1 => ?_) (fun c1 => ?_)
  · have h := q_ip c1 h
    refine lv_lload_n hx hb dX10_add_13 rfl (lv_at hl 2 rfl) ?_
    exact hJ14 x3 x1 μ H locs ls S (lv_sub hl [0, 2] rfl) h
  · have h := q_ig c1 h
    refine lv_lload_n hx hb dX10_add_8 rfl (lv_at hl 2 rfl) ?_
    refine lv_lneg hx hb dX10_add_9 ?_
    refine lv_goto (tgt := 14) hx hb dX10_add_10 (by decide) ?_
    exact hJ14 (-x3) x1 μ H locs ls S (lv_sub hl [0, 2] rfl) h
def L_X10_addAt_3 (x1 : Int32) (x2 : Int32) (x3 : Int32) (Kx : q_M → Option (Unit × q_M)) : Nat → Int32 → q_M → Option (Unit × q_M)
  | 0, _, _ => none
  | n + 1, v4, μ => q_gd (q_ix x1 6) ((if (μ.1 150 x1.toNatClampNeg) ≤ v4 then Kx μ else q_le (((6 * x1) + v4) : Int32) (fun y3 => q_gd (q_ix y3 36) ((if (μ.1 151 y3.toNatClampNeg) = x2 then q_gd (decide (¬ (((μ.1 153 y3.toNatClampNeg).toInt64) = 0))) (q_bd (f_X10_add ((μ.2 137 47) / ((μ.1 153 y3.toNatClampNeg).toInt64)) ((x3.toInt64 * ((μ.1 152 y3.toNatClampNeg).toInt64)) * (μ.2 137 48)) μ) (fun u23 μ23 => some ((), μ23))) else (if (μ.1 150 x1.toNatClampNeg) ≤ (v4 + 1) then q_le (v4 + 1 : Int32) (fun y7 => (L_X10_addAt_3 x1 x2 x3 Kx n) y7 μ) else (if x2 ≤ (μ.1 151 y3.toNatClampNeg) then q_le (v4 + 1 : Int32) (fun y9 => (L_X10_addAt_3 x1 x2 x3 Kx n) y9 μ) else q_gd (q_ix (y3 + 1) 36) ((if (μ.1 151 (y3 + 1).toNatClampNeg) ≤ x2 then q_le (v4 + 1 : Int32) (fun y12 => (L_X10_addAt_3 x1 x2 x3 Kx n) y12 μ) else q_le (((μ.1 151 (y3 + 1).toNatClampNeg) - (μ.1 151 y3.toNatClampNeg)).toInt64 : Int64) (fun y13 => q_gd (decide (¬ (y13 = 0))) (q_le ((x3.toInt64 * ((μ.2 137 48) / y13)) : Int64) (fun y15 => q_gd (decide (¬ (((μ.1 153 y3.toNatClampNeg).toInt64) = 0))) (q_bd (f_X10_add ((μ.2 137 47) / ((μ.1 153 y3.toNatClampNeg).toInt64)) ((y15 * ((μ.1 152 y3.toNatClampNeg).toInt64)) * (((μ.1 151 (y3 + 1).toNatClampNeg) - x2).toInt64)) μ) (fun u17 μ17 => q_gd (decide (¬ (((μ17.1 153 (y3 + 1).toNatClampNeg).toInt64) = 0))) (q_bd (f_X10_add ((μ17.2 137 47) / ((μ17.1 153 (y3 + 1).toNatClampNeg).toInt64)) ((y15 * ((μ17.1 152 (y3 + 1).toNatClampNeg).toInt64)) * ((x2 - (μ17.1 151 y3.toNatClampNeg)).toInt64)) μ17) (fun u20 μ20 => some ((), μ20)))))))))))))))))
def f_X10_addAt (x1 : Int32) (x2 : Int32) (x3 : Int32) (μ : q_M) : Option (Unit × q_M) := L_X10_addAt_3 x1 x2 x3 (fun μ => some ((), μ)) q_fu 0 μ
set_option maxHeartbeats 4000000 in
set_option maxRecDepth 100000 in
theorem c_X10_addAt (l : Launch) (E : q_E) (hE : q_I E) (x1 : Int32) (x2 : Int32) (x3 : Int32) (μ μr : q_M) (r : Unit) (h : f_X10_addAt x1 x2 x3 μ = some (r, μr)) : Met l yX10_addAt wsX10_addAt ({ frames := 2, cells := 0, slots := 0, locals := 58 }) (q_Pc E μ [.ref (E.2.2.2 137), .int x1, .int x2, .int x3]) (q_Qv E r μr) 0 0 (q_A E) := by
  refine q_met (cc := cX10_addAt) (maxL := 10) (ret := none) hE (by decide) rfl (Nat.le_of_ble_eq_true rfl) ?_
  intro p e s m below meth c hx hb hr hml hown hts hlk F S ls hl
  have hl : lv_has ls 10 [(0, .ref (E.2.2.2 137)), (1, .int x1), (2, .int x2), (3, .int x3)] := hl
  have i10 : ∀ w ∈ u_ws RX10 TX10 54, w ∈ wsX10_addAt := by decide +kernel
  have hL3 : ∀ (Kx : q_M → Option (Unit × q_M)), (∀ (μ : q_M) (H : Heap) (locs : List Loc) (ls : Array Slot), q_S E (q_A E) s μ H locs → lv_has ls 10 [] → Kx μ = some (r, μr) → W p l e ({ frames := 2, cells := 0, slots := 0, locals := 58 }) s m ([.ref (E.2.2.2 137), .int x1, .int x2, .int x3] : List Value).toArray below meth c H locs 0 0 (MQ below (q_Qv E r μr) ([.ref (E.2.2.2 137), .int x1, .int x2, .int x3] : List Value).toArray s 0 0 (q_A E)) (F0 m 228 ls [])) → ∀ (n : Nat), ∀ (v4 : Int32), ∀ (μ : q_M) (H : Heap) (locs : List Loc) (ls : Array Slot), q_S E (q_A E) s μ H locs → lv_has ls 10 [(0, .ref (E.2.2.2 137)), (1, .int x1), (2, .int x2), (3, .int x3), (4, .int v4)] → L_X10_addAt_3 x1 x2 x3 Kx n v4 μ = some (r, μr) → W p l e ({ frames := 2, cells := 0, slots := 0, locals := 58 }) s m ([.ref (E.2.2.2 137), .int x1, .int x2, .int x3] : List Value).toArray below meth c H locs 0 0 (MQ below (q_Qv E r μr) ([.ref (E.2.2.2 137), .int x1, .int x2, .int x3] : List Value).toArray s 0 0 (q_A E)) (F0 m 3 ls []) := by
    intro Kx hKx n
    induction n with
    | zero => intro v4 μ H locs ls S hl h; exact absurd h (by simp [L_X10_addAt_3])
    | succ n ih =>
      intro v4 μ H locs ls S hl h
      rw [L_X10_addAt_3] at h
      refine lv_iload hx hb dX10_addAt_3 (lv_at hl 4 rfl) ?_
      refine lv_aload_n hx hb dX10_addAt_5 rfl (lv_at hl 0 rfl) ?_
      refine q_getr (own := RX10) (C := RX10) (T := TX10) (N := 54) (ci := 10) (j := 15)  (b := 150) hx hb hts i10 hown F S q_k137 (by decide) rfl (by decide) (by decide) rfl (by decide) (hts (.fieldLink RX10 47 "HeavyRoutesModel" "cornerCounts" "[I") (by decide +kernel)) dX10_addAt_6 ?_
      refine lv_iload_n hx hb dX10_addAt_9 rfl (lv_at hl 1 rfl) ?_
      obtain ⟨g1, h⟩ := q_gd_some h
      refine q_iald hx hb F S q_k150 q_n150 g1 dX10_addAt_10 ?_
      refine lv_icmp_ge (tgt := 228) hx hb dX10_addAt_11 (by decide) (fun c2 => ?_) (fun c2 => ?_)
      · have h := q_ip c2 h
        exact hKx μ H locs ls S (lv_sub hl [] rfl) h
      · have h := q_ig c2 h
        refine lv_bipush (v := 6) hx hb dX10_addAt_14 (by decide) ?_
        refine lv_iload_n hx hb dX10_addAt_16 rfl (lv_at hl 1 rfl) ?_
        refine lv_imul hx hb dX10_addAt_17 ?_
        refine lv_iload hx hb dX10_addAt_18 (lv_at hl 4 rfl) ?_
        refine lv_iadd hx hb dX10_addAt_20 ?_
        refine lv_topi (fun y3 ey3 => ?_)
        have h := q_le_e h ey3
        refine lv_istore (lv' := [(5, .int y3), (0, .ref (E.2.2.2 137)), (1, .int x1), (2, .int x2), (3, .int x3), (4, .int v4)]) hx hb dX10_addAt_21 hl (by decide) rfl (fun ls hl => ?_)
        refine lv_aload_n hx hb dX10_addAt_23 rfl (lv_at hl 1 rfl) ?_
        refine q_getr (own := RX10) (C := RX10) (T := TX10) (N := 54) (ci := 10) (j := 16)  (b := 151) hx hb hts i10 hown F S q_k137 (by decide) rfl (by decide) (by decide) rfl (by decide) (hts (.fieldLink RX10 50 "HeavyRoutesModel" "places" "[I") (by decide +kernel)) dX10_addAt_24 ?_
        refine lv_iload hx hb dX10_addAt_27 (lv_at hl 0 rfl) ?_
        obtain ⟨g4, h⟩ := q_gd_some h
        refine q_iald hx hb F S q_k151 q_n151 g4 dX10_addAt_29 ?_
        refine lv_iload_n hx hb dX10_addAt_30 rfl (lv_at hl 3 rfl) ?_
        refine lv_icmp_ne (tgt := 68) hx hb dX10_addAt_31 (by decide) (fun c5 => ?_) (fun c5 => ?_)
        · have h := q_ig c5 h
          refine lv_iload hx hb dX10_addAt_68 (lv_at hl 5 rfl) ?_
          refine lv_iconst (v := 1) hx hb dX10_addAt_70 (by decide) ?_
          refine lv_iadd hx hb dX10_addAt_71 ?_
          refine lv_aload_n hx hb dX10_addAt_72 rfl (lv_at hl 1 rfl) ?_
          refine q_getr (own := RX10) (C := RX10) (T := TX10) (N := 54) (ci := 10) (j := 15)  (b := 150) hx hb hts i10 hown F S q_k137 (by decide) rfl (by decide) (by decide) rfl (by decide) (hts (.fieldLink RX10 47 "HeavyRoutesModel" "cornerCounts" "[I") (by decide +kernel)) dX10_addAt_73 ?_
          refine lv_iload_n hx hb dX10_addAt_76 rfl (lv_at hl 2 rfl) ?_
          refine q_iald hx hb F S q_k150 q_n150 g1 dX10_addAt_77 ?_
          refine lv_icmp_ge (tgt := 222) hx hb dX10_addAt_78 (by decide) (fun c6 => ?_) (fun c6 => ?_)
          · have h := q_ip c6 h
            obtain ⟨y7, ey7⟩ : ∃ z : Int32, z = v4 + 1 := ⟨_, rfl⟩
            have h := q_le_e h ey7
            refine lv_iinc (v := y7) (lv' := [(4, .int y7), (5, .int y3), (0, .ref (E.2.2.2 137)), (1, .int x1), (2, .int x2), (3, .int x3)]) hx hb dX10_addAt_222 hl (k := 5) rfl (by rw [ey7]; rfl) (by decide) rfl (fun ls hl => ?_)
            refine lv_goto (tgt := 3) hx hb dX10_addAt_225 (by decide) ?_
            exact ih y7 μ H locs ls S (lv_sub hl [2, 3, 4, 5, 0] rfl) h
          · have h := q_ig c6 h
            refine lv_aload_n hx hb dX10_addAt_81 rfl (lv_at hl 1 rfl) ?_
            refine q_getr (own := RX10) (C := RX10) (T := TX10) (N := 54) (ci := 10) (j := 16)  (b := 151) hx hb hts i10 hown F S q_k137 (by decide) rfl (by decide) (by decide) rfl (by decide) (hts (.fieldLink RX10 50 "HeavyRoutesModel" "places" "[I") (by decide +kernel)) dX10_addAt_82 ?_
            refine lv_iload hx hb dX10_addAt_85 (lv_at hl 0 rfl) ?_
            refine q_iald hx hb F S q_k151 q_n151 g4 dX10_addAt_87 ?_
            refine lv_iload_n hx hb dX10_addAt_88 rfl (lv_at hl 3 rfl) ?_
            refine lv_icmp_ge (tgt := 222) hx hb dX10_addAt_89 (by decide) (fun c8 => ?_) (fun c8 => ?_)
            · have h := q_ip c8 h
              obtain ⟨y9, ey9⟩ : ∃ z : Int32, z = v4 + 1 := ⟨_, rfl⟩
              have h := q_le_e h ey9
              refine lv_iinc (v := y9) (lv' := [(4, .int y9), (5, .int y3), (0, .ref (E.2.2.2 137)), (1, .int x1), (2, .int x2), (3, .int x3)]) hx hb dX10_addAt_222 hl (k := 5) rfl (by rw [ey9]; rfl) (by decide) rfl (fun ls hl => ?_)
              refine lv_goto (tgt := 3) hx hb dX10_addAt_225 (by decide) ?_
              exact ih y9 μ H locs ls S (lv_sub hl [2, 3, 4, 5, 0] rfl) h
            · have h := q_ig c8 h
              refine lv_iload_n hx hb dX10_addAt_92 rfl (lv_at hl 3 rfl) ?_
              refine lv_aload_n hx hb dX10_addAt_93 rfl (lv_at hl 1 rfl) ?_
              refine q_getr (own := RX10) (C := RX10) (T := TX10) (N := 54) (ci := 10) (j := 16)  (b := 151) hx hb hts i10 hown F S q_k137 (by decide) rfl (by decide) (by decide) rfl (by decide) (hts (.fieldLink RX10 50 "HeavyRoutesModel" "places" "[I") (by decide +kernel)) dX10_addAt_94 ?_
              refine lv_iload hx hb dX10_addAt_97 (lv_at hl 0 rfl) ?_
              refine lv_iconst (v := 1) hx hb dX10_addAt_99 (by decide) ?_
              refine lv_iadd hx hb dX10_addAt_100 ?_
              obtain ⟨g10, h⟩ := q_gd_some h
              refine q_iald hx hb F S q_k151 q_n151 g10 dX10_addAt_101 ?_
              refine lv_icmp_ge (tgt := 222) hx hb dX10_addAt_102 (by decide) (fun c11 => ?_) (fun c11 => ?_)
              · have h := q_ip c11 h
                obtain ⟨y12, ey12⟩ : ∃ z : Int32, z = v4 + 1 := ⟨_, rfl⟩
                have h := q_le_e h ey12
                refine lv_iinc (v := y12) (lv' := [(4, .int y12), (5, .int y3), (0, .ref (E.2.2.2 137)), (1, .int x1), (2, .int x2), (3, .int x3)]) hx hb dX10_addAt_222 hl (k := 5) rfl (by rw [ey12]; rfl) (by decide) rfl (fun ls hl => ?_)
                refine lv_goto (tgt := 3) hx hb dX10_addAt_225 (by decide) ?_
                exact ih y12 μ H locs ls S (lv_sub hl [2, 3, 4, 5, 0] rfl) h
              · have h := q_ig c11 h
                refine lv_aload_n hx hb dX10_addAt_105 rfl (lv_at hl 1 rfl) ?_
                refine q_getr (own := RX10) (C := RX10) (T := TX10) (N := 54) (ci := 10) (j := 16)  (b := 151) hx hb hts i10 hown F S q_k137 (by decide) rfl (by decide) (by decide) rfl (by decide) (hts (.fieldLink RX10 50 "HeavyRoutesModel" "places" "[I") (by decide +kernel)) dX10_addAt_106 ?_
                refine lv_iload hx hb dX10_addAt_109 (lv_at hl 0 rfl) ?_
                refine lv_iconst (v := 1) hx hb dX10_addAt_111 (by decide) ?_
                refine lv_iadd hx hb dX10_addAt_112 ?_
                refine q_iald hx hb F S q_k151 q_n151 g10 dX10_addAt_113 ?_
                refine lv_aload_n hx hb dX10_addAt_114 rfl (lv_at hl 1 rfl) ?_
                refine q_getr (own := RX10) (C := RX10) (T := TX10) (N := 54) (ci := 10) (j := 16)  (b := 151) hx hb hts i10 hown F S q_k137 (by decide) rfl (by decide) (by decide) rfl (by decide) (hts (.fieldLink RX10 50 "HeavyRoutesModel" "places" "[I") (by decide +kernel)) dX10_addAt_115 ?_
                refine lv_iload hx hb dX10_addAt_118 (lv_at hl 0 rfl) ?_
                refine q_iald hx hb F S q_k151 q_n151 g4 dX10_addAt_120 ?_
                refine lv_isub hx hb dX10_addAt_121 ?_
                refine lv_i2l (v := ((μ.1 151 (y3 + 1).toNatClampNeg) - (μ.1 151 y3.toNatClampNeg)).toInt64) hx hb dX10_addAt_122 rfl ?_
                refine lv_topl (fun y13 ey13 => ?_)
                have h := q_le_e h ey13
                refine lv_lstore (lv' := [(6, .long y13), (5, .int y3), (0, .ref (E.2.2.2 137)), (1, .int x1), (2, .int x2), (3, .int x3), (4, .int v4)]) hx hb dX10_addAt_123 hl (by decide) rfl (fun ls hl => ?_)
                refine lv_iload_n hx hb dX10_addAt_125 rfl (lv_at hl 5 rfl) ?_
                refine lv_i2l (v := x3.toInt64) hx hb dX10_addAt_126 rfl ?_
                refine lv_aload_n hx hb dX10_addAt_127 rfl (lv_at hl 2 rfl) ?_
                refine q_getl (own := RX10) (C := RX10) (T := TX10) (N := 54) (ci := 10) (j := 48)  hx hb hts i10 hown F S q_k137 (by decide) rfl (by decide) (by decide) rfl (hts (.fieldLink RX10 168 "HeavyRoutesModel" "leastStep" "J") (by decide +kernel)) dX10_addAt_128 ?_
                refine lv_lload hx hb dX10_addAt_131 (lv_at hl 0 rfl) ?_
                obtain ⟨g14, h⟩ := q_gd_some h
                refine lv_ldiv hx hb dX10_addAt_133 (of_decide_eq_true g14) ?_
                refine lv_lmul hx hb dX10_addAt_134 ?_
                refine lv_topl (fun y15 ey15 => ?_)
                have h := q_le_e h ey15
                refine lv_lstore (lv' := [(8, .long y15), (6, .long y13), (5, .int y3), (0, .ref (E.2.2.2 137)), (1, .int x1), (2, .int x2), (3, .int x3), (4, .int v4)]) hx hb dX10_addAt_135 hl (by decide) rfl (fun ls hl => ?_)
                refine lv_aload_n hx hb dX10_addAt_137 rfl (lv_at hl 3 rfl) ?_
                refine lv_aload_n hx hb dX10_addAt_138 rfl (lv_at hl 3 rfl) ?_
                refine q_getl (own := RX10) (C := RX10) (T := TX10) (N := 54) (ci := 10) (j := 47)  hx hb hts i10 hown F S q_k137 (by decide) rfl (by decide) (by decide) rfl (hts (.fieldLink RX10 165 "HeavyRoutesModel" "leastBelow" "J") (by decide +kernel)) dX10_addAt_139 ?_
                refine lv_aload_n hx hb dX10_addAt_142 rfl (lv_at hl 3 rfl) ?_
                refine q_getr (own := RX10) (C := RX10) (T := TX10) (N := 54) (ci := 10) (j := 18)  (b := 153) hx hb hts i10 hown F S q_k137 (by decide) rfl (by decide) (by decide) rfl (by decide) (hts (.fieldLink RX10 56 "HeavyRoutesModel" "belows" "[I") (by decide +kernel)) dX10_addAt_143 ?_
                refine lv_iload hx hb dX10_addAt_146 (lv_at hl 2 rfl) ?_
                refine q_iald hx hb F S q_k153 q_n153 g4 dX10_addAt_148 ?_
                refine lv_i2l (v := (μ.1 153 y3.toNatClampNeg).toInt64) hx hb dX10_addAt_149 rfl ?_
                obtain ⟨g16, h⟩ := q_gd_some h
                refine lv_ldiv hx hb dX10_addAt_150 (of_decide_eq_true g16) ?_
                refine lv_lload hx hb dX10_addAt_151 (lv_at hl 0 rfl) ?_
                refine lv_aload_n hx hb dX10_addAt_153 rfl (lv_at hl 3 rfl) ?_
                refine q_getr (own := RX10) (C := RX10) (T := TX10) (N := 54) (ci := 10) (j := 17)  (b := 152) hx hb hts i10 hown F S q_k137 (by decide) rfl (by decide) (by decide) rfl (by decide) (hts (.fieldLink RX10 53 "HeavyRoutesModel" "aboves" "[I") (by decide +kernel)) dX10_addAt_154 ?_
                refine lv_iload hx hb dX10_addAt_157 (lv_at hl 2 rfl) ?_
                refine q_iald hx hb F S q_k152 q_n152 g4 dX10_addAt_159 ?_
                refine lv_i2l (v := (μ.1 152 y3.toNatClampNeg).toInt64) hx hb dX10_addAt_160 rfl ?_
                refine lv_lmul hx hb dX10_addAt_161 ?_
                refine lv_aload_n hx hb dX10_addAt_162 rfl (lv_at hl 3 rfl) ?_
                refine q_getr (own := RX10) (C := RX10) (T := TX10) (N := 54) (ci := 10) (j := 16)  (b := 151) hx hb hts i10 hown F S q_k137 (by decide) rfl (by decide) (by decide) rfl (by decide) (hts (.fieldLink RX10 50 "HeavyRoutesModel" "places" "[I") (by decide +kernel)) dX10_addAt_163 ?_
                refine lv_iload hx hb dX10_addAt_166 (lv_at hl 2 rfl) ?_
                refine lv_iconst (v := 1) hx hb dX10_addAt_168 (by decide) ?_
                refine lv_iadd hx hb dX10_addAt_169 ?_
                refine q_iald hx hb F S q_k151 q_n151 g10 dX10_addAt_170 ?_
                refine lv_iload_n hx hb dX10_addAt_171 rfl (lv_at hl 5 rfl) ?_
                refine lv_isub hx hb dX10_addAt_172 ?_
                refine lv_i2l (v := ((μ.1 151 (y3 + 1).toNatClampNeg) - x2).toInt64) hx hb dX10_addAt_173 rfl ?_
                refine lv_lmul hx hb dX10_addAt_174 ?_
                obtain ⟨u17, μ17, hc18, h⟩ := q_bd_some h
                refine q_kv F S (q_runV (As := [.long ((μ.2 137 47) / ((μ.1 153 y3.toNatClampNeg).toInt64)), .long ((y15 * ((μ.1 152 y3.toNatClampNeg).toInt64)) * (((μ.1 151 (y3 + 1).toNatClampNeg) - x2).toInt64))]) (rest := []) (b := 137) ⟨hx, hb, hml, hown, hts⟩ F S (c_X10_add l E hE ((μ.2 137 47) / ((μ.1 153 y3.toNatClampNeg).toInt64)) ((y15 * ((μ.1 152 y3.toNatClampNeg).toInt64)) * (((μ.1 151 (y3 + 1).toNatClampNeg) - x2).toInt64)) μ μ17 u17 hc18) (cwV 2 hts gX10_addAt_X10_add rfl rfl rfl (by decide +kernel) ⟨Nat.le_of_ble_eq_true rfl, Nat.le_of_ble_eq_true rfl⟩) q_k137 (by decide) rfl rfl hl.1 rfl (Nat.le_of_ble_eq_true rfl) dX10_addAt_175 ⟨Nat.zero_le _, Nat.zero_le _⟩) (fun H locs S => ?_)
                refine lv_aload_n hx hb dX10_addAt_178 rfl (lv_at hl 3 rfl) ?_
                refine lv_aload_n hx hb dX10_addAt_179 rfl (lv_at hl 3 rfl) ?_
                refine q_getl (own := RX10) (C := RX10) (T := TX10) (N := 54) (ci := 10) (j := 47)  hx hb hts i10 hown F S q_k137 (by decide) rfl (by decide) (by decide) rfl (hts (.fieldLink RX10 165 "HeavyRoutesModel" "leastBelow" "J") (by decide +kernel)) dX10_addAt_180 ?_
                refine lv_aload_n hx hb dX10_addAt_183 rfl (lv_at hl 3 rfl) ?_
                refine q_getr (own := RX10) (C := RX10) (T := TX10) (N := 54) (ci := 10) (j := 18)  (b := 153) hx hb hts i10 hown F S q_k137 (by decide) rfl (by decide) (by decide) rfl (by decide) (hts (.fieldLink RX10 56 "HeavyRoutesModel" "belows" "[I") (by decide +kernel)) dX10_addAt_184 ?_
                refine lv_iload hx hb dX10_addAt_187 (lv_at hl 2 rfl) ?_
                refine lv_iconst (v := 1) hx hb dX10_addAt_189 (by decide) ?_
                refine lv_iadd hx hb dX10_addAt_190 ?_
                refine q_iald hx hb F S q_k153 q_n153 g10 dX10_addAt_191 ?_
                refine lv_i2l (v := (μ17.1 153 (y3 + 1).toNatClampNeg).toInt64) hx hb dX10_addAt_192 rfl ?_
                obtain ⟨g19, h⟩ := q_gd_some h
                refine lv_ldiv hx hb dX10_addAt_193 (of_decide_eq_true g19) ?_
                refine lv_lload hx hb dX10_addAt_194 (lv_at hl 0 rfl) ?_
                refine lv_aload_n hx hb dX10_addAt_196 rfl (lv_at hl 3 rfl) ?_
                refine q_getr (own := RX10) (C := RX10) (T := TX10) (N := 54) (ci := 10) (j := 17)  (b := 152) hx hb hts i10 hown F S q_k137 (by decide) rfl (by decide) (by decide) rfl (by decide) (hts (.fieldLink RX10 53 "HeavyRoutesModel" "aboves" "[I") (by decide +kernel)) dX10_addAt_197 ?_
                refine lv_iload hx hb dX10_addAt_200 (lv_at hl 2 rfl) ?_
                refine lv_iconst (v := 1) hx hb dX10_addAt_202 (by decide) ?_
                refine lv_iadd hx hb dX10_addAt_203 ?_
                refine q_iald hx hb F S q_k152 q_n152 g10 dX10_addAt_204 ?_
                refine lv_i2l (v := (μ17.1 152 (y3 + 1).toNatClampNeg).toInt64) hx hb dX10_addAt_205 rfl ?_
                refine lv_lmul hx hb dX10_addAt_206 ?_
                refine lv_iload_n hx hb dX10_addAt_207 rfl (lv_at hl 5 rfl) ?_
                refine lv_aload_n hx hb dX10_addAt_208 rfl (lv_at hl 3 rfl) ?_
                refine q_getr (own := RX10) (C := RX10) (T := TX10) (N := 54) (ci := 10) (j := 16)  (b := 151) hx hb hts i10 hown F S q_k137 (by decide) rfl (by decide) (by decide) rfl (by decide) (hts (.fieldLink RX10 50 "HeavyRoutesModel" "places" "[I") (by decide +kernel)) dX10_addAt_209 ?_
                refine lv_iload hx hb dX10_addAt_212 (lv_at hl 2 rfl) ?_
                refine q_iald hx hb F S q_k151 q_n151 g4 dX10_addAt_214 ?_
                refine lv_isub hx hb dX10_addAt_215 ?_
                refine lv_i2l (v := (x2 - (μ17.1 151 y3.toNatClampNeg)).toInt64) hx hb dX10_addAt_216 rfl ?_
                refine lv_lmul hx hb dX10_addAt_217 ?_
                obtain ⟨u20, μ20, hc21, h⟩ := q_bd_some h
                refine q_kv F S (q_runV (As := [.long ((μ17.2 137 47) / ((μ17.1 153 (y3 + 1).toNatClampNeg).toInt64)), .long ((y15 * ((μ17.1 152 (y3 + 1).toNatClampNeg).toInt64)) * ((x2 - (μ17.1 151 y3.toNatClampNeg)).toInt64))]) (rest := []) (b := 137) ⟨hx, hb, hml, hown, hts⟩ F S (c_X10_add l E hE ((μ17.2 137 47) / ((μ17.1 153 (y3 + 1).toNatClampNeg).toInt64)) ((y15 * ((μ17.1 152 (y3 + 1).toNatClampNeg).toInt64)) * ((x2 - (μ17.1 151 y3.toNatClampNeg)).toInt64)) μ17 μ20 u20 hc21) (cwV 2 hts gX10_addAt_X10_add rfl rfl rfl (by decide +kernel) ⟨Nat.le_of_ble_eq_true rfl, Nat.le_of_ble_eq_true rfl⟩) q_k137 (by decide) rfl rfl hl.1 rfl (Nat.le_of_ble_eq_true rfl) dX10_addAt_218 ⟨Nat.zero_le _, Nat.zero_le _⟩) (fun H locs S => ?_)
                exact q_vret hx hb hr S h hlk dX10_addAt_221
        · have h := q_ip c5 h
          refine lv_aload_n hx hb dX10_addAt_34 rfl (lv_at hl 1 rfl) ?_
          refine lv_aload_n hx hb dX10_addAt_35 rfl (lv_at hl 1 rfl) ?_
          refine q_getl (own := RX10) (C := RX10) (T := TX10) (N := 54) (ci := 10) (j := 47)  hx hb hts i10 hown F S q_k137 (by decide) rfl (by decide) (by decide) rfl (hts (.fieldLink RX10 165 "HeavyRoutesModel" "leastBelow" "J") (by decide +kernel)) dX10_addAt_36 ?_
          refine lv_aload_n hx hb dX10_addAt_39 rfl (lv_at hl 1 rfl) ?_
          refine q_getr (own := RX10) (C := RX10) (T := TX10) (N := 54) (ci := 10) (j := 18)  (b := 153) hx hb hts i10 hown F S q_k137 (by decide) rfl (by decide) (by decide) rfl (by decide) (hts (.fieldLink RX10 56 "HeavyRoutesModel" "belows" "[I") (by decide +kernel)) dX10_addAt_40 ?_
          refine lv_iload hx hb dX10_addAt_43 (lv_at hl 0 rfl) ?_
          refine q_iald hx hb F S q_k153 q_n153 g4 dX10_addAt_45 ?_
          refine lv_i2l (v := (μ.1 153 y3.toNatClampNeg).toInt64) hx hb dX10_addAt_46 rfl ?_
          obtain ⟨g22, h⟩ := q_gd_some h
          refine lv_ldiv hx hb dX10_addAt_47 (of_decide_eq_true g22) ?_
          refine lv_iload_n hx hb dX10_addAt_48 rfl (lv_at hl 4 rfl) ?_
          refine lv_i2l (v := x3.toInt64) hx hb dX10_addAt_49 rfl ?_
          refine lv_aload_n hx hb dX10_addAt_50 rfl (lv_at hl 1 rfl) ?_
          refine q_getr (own := RX10) (C := RX10) (T := TX10) (N := 54) (ci := 10) (j := 17)  (b := 152) hx hb hts i10 hown F S q_k137 (by decide) rfl (by decide) (by decide) rfl (by decide) (hts (.fieldLink RX10 53 "HeavyRoutesModel" "aboves" "[I") (by decide +kernel)) dX10_addAt_51 ?_
          refine lv_iload hx hb dX10_addAt_54 (lv_at hl 0 rfl) ?_
          refine q_iald hx hb F S q_k152 q_n152 g4 dX10_addAt_56 ?_
          refine lv_i2l (v := (μ.1 152 y3.toNatClampNeg).toInt64) hx hb dX10_addAt_57 rfl ?_
          refine lv_lmul hx hb dX10_addAt_58 ?_
          refine lv_aload_n hx hb dX10_addAt_59 rfl (lv_at hl 1 rfl) ?_
          refine q_getl (own := RX10) (C := RX10) (T := TX10) (N := 54) (ci := 10) (j := 48)  hx hb hts i10 hown F S q_k137 (by decide) rfl (by decide) (by decide) rfl (hts (.fieldLink RX10 168 "HeavyRoutesModel" "leastStep" "J") (by decide +kernel)) dX10_addAt_60 ?_
          refine lv_lmul hx hb dX10_addAt_63 ?_
          obtain ⟨u23, μ23, hc24, h⟩ := q_bd_some h
          refine q_kv F S (q_runV (As := [.long ((μ.2 137 47) / ((μ.1 153 y3.toNatClampNeg).toInt64)), .long ((x3.toInt64 * ((μ.1 152 y3.toNatClampNeg).toInt64)) * (μ.2 137 48))]) (rest := []) (b := 137) ⟨hx, hb, hml, hown, hts⟩ F S (c_X10_add l E hE ((μ.2 137 47) / ((μ.1 153 y3.toNatClampNeg).toInt64)) ((x3.toInt64 * ((μ.1 152 y3.toNatClampNeg).toInt64)) * (μ.2 137 48)) μ μ23 u23 hc24) (cwV 2 hts gX10_addAt_X10_add rfl rfl rfl (by decide +kernel) ⟨Nat.le_of_ble_eq_true rfl, Nat.le_of_ble_eq_true rfl⟩) q_k137 (by decide) rfl rfl hl.1 rfl (Nat.le_of_ble_eq_true rfl) dX10_addAt_64 ⟨Nat.zero_le _, Nat.zero_le _⟩) (fun H locs S => ?_)
          exact q_vret hx hb hr S h hlk dX10_addAt_67
  unfold f_X10_addAt at h
  obtain ⟨H, eH⟩ : ∃ z, z = s.heap := ⟨_, rfl⟩
  obtain ⟨locs, eL⟩ : ∃ z : List Loc, z = [] := ⟨_, rfl⟩
  rw [← eH, ← eL] at S
  suffices hh : W p l e ({ frames := 2, cells := 0, slots := 0, locals := 58 }) s m ([.ref (E.2.2.2 137), .int x1, .int x2, .int x3] : List Value).toArray below meth c H locs 0 0 (MQ below (q_Qv E r μr) ([.ref (E.2.2.2 137), .int x1, .int x2, .int x3] : List Value).toArray s 0 0 (q_A E)) (F0 m 0 ls []) by rw [eH, eL] at hh; exact hh
  refine lv_iconst (v := 0) hx hb dX10_addAt_0 (by decide) ?_
  refine lv_istore (lv' := [(4, .int 0), (0, .ref (E.2.2.2 137)), (1, .int x1), (2, .int x2), (3, .int x3)]) hx hb dX10_addAt_1 hl (by decide) rfl (fun ls hl => ?_)
  refine hL3 _ (fun μ H locs ls S hl h => ?_) q_fu 0 μ H locs ls S (lv_sub hl [1, 2, 3, 4, 0] rfl) h
  exact q_vret hx hb hr S h hlk dX10_addAt_228
def L_X10_effect_13 (x1 : Int32) (x2 : Int32) (x3 : Int32) (Kx : q_M → Option (Unit × q_M)) : Nat → Int32 → q_M → Option (Unit × q_M)
  | 0, _, _ => none
  | n + 1, v4, μ => (if (μ.1 137 19) ≤ v4 then Kx μ else q_gd (q_ix v4 5) (q_bd (f_X10_addAt x1 (x2 - (x3 * (μ.1 154 v4.toNatClampNeg))) (μ.1 155 v4.toNatClampNeg) μ) (fun u5 μ5 => q_le (v4 + 1 : Int32) (fun y7 => (L_X10_effect_13 x1 x2 x3 Kx n) y7 μ5))))
def J_X10_effect_111 (x1 : Int32) (x2 : Int32) (x3 : Int32) (v4 : Int32) (s0 : Int64) (μ : q_M) : Option (Unit × q_M) := q_le (q_sl μ 137 41 s0) (fun μ10 => (if v4 = 0 then q_le (q_sl μ10 137 42 (μ10.2 137 42)) (fun μ12 => some ((), μ12)) else q_le (q_sl μ10 137 42 (μ10.2 137 46)) (fun μ13 => some ((), μ13))))
def J_X10_effect_92 (x1 : Int32) (x2 : Int32) (x3 : Int32) (s0 : Int32) (μ : q_M) : Option (Unit × q_M) := (if s0 = 0 then J_X10_effect_111 x1 x2 x3 s0 (μ.2 137 41) μ else J_X10_effect_111 x1 x2 x3 s0 (μ.2 137 45) μ)
def J_X10_effect_87 (x1 : Int32) (x2 : Int32) (x3 : Int32) (μ : q_M) : Option (Unit × q_M) := J_X10_effect_92 x1 x2 x3 1 μ
def J_X10_effect_91 (x1 : Int32) (x2 : Int32) (x3 : Int32) (μ : q_M) : Option (Unit × q_M) := J_X10_effect_92 x1 x2 x3 0 μ
def f_X10_effect (x1 : Int32) (x2 : Int32) (x3 : Int32) (μ : q_M) : Option (Unit × q_M) := q_le (q_sl μ 137 45 0) (fun μ1 => q_le (q_sl μ1 137 46 0) (fun μ2 => L_X10_effect_13 x1 x2 x3 (fun μ => (if 0 < (lg_cmp (μ.2 137 45) (μ.2 137 41)) then J_X10_effect_87 x1 x2 x3 μ else (if (lg_cmp (μ.2 137 45) (μ.2 137 41)) = 0 then (if (lg_cmp (μ.2 137 46) (μ.2 137 42)) ≤ 0 then J_X10_effect_91 x1 x2 x3 μ else J_X10_effect_87 x1 x2 x3 μ) else J_X10_effect_91 x1 x2 x3 μ))) q_fu 0 μ2))
set_option maxHeartbeats 4000000 in
set_option maxRecDepth 100000 in
theorem c_X10_effect (l : Launch) (E : q_E) (hE : q_I E) (x1 : Int32) (x2 : Int32) (x3 : Int32) (μ μr : q_M) (r : Unit) (h : f_X10_effect x1 x2 x3 μ = some (r, μr)) : Met l yX10_effect wsX10_effect ({ frames := 3, cells := 0, slots := 0, locals := 87 }) (q_Pc E μ [.ref (E.2.2.2 137), .int x1, .int x2, .int x3]) (q_Qv E r μr) 0 0 (q_A E) := by
  refine q_met (cc := cX10_effect) (maxL := 5) (ret := none) hE (by decide) rfl (Nat.le_of_ble_eq_true rfl) ?_
  intro p e s m below meth c hx hb hr hml hown hts hlk F S ls hl
  have hl : lv_has ls 5 [(0, .ref (E.2.2.2 137)), (1, .int x1), (2, .int x2), (3, .int x3)] := hl
  have i10 : ∀ w ∈ u_ws RX10 TX10 54, w ∈ wsX10_effect := by decide +kernel
  have hL13 : ∀ (Kx : q_M → Option (Unit × q_M)), (∀ (μ : q_M) (H : Heap) (locs : List Loc) (ls : Array Slot), q_S E (q_A E) s μ H locs → lv_has ls 5 [(0, .ref (E.2.2.2 137))] → Kx μ = some (r, μr) → W p l e ({ frames := 3, cells := 0, slots := 0, locals := 87 }) s m ([.ref (E.2.2.2 137), .int x1, .int x2, .int x3] : List Value).toArray below meth c H locs 0 0 (MQ below (q_Qv E r μr) ([.ref (E.2.2.2 137), .int x1, .int x2, .int x3] : List Value).toArray s 0 0 (q_A E)) (F0 m 51 ls [])) → ∀ (n : Nat), ∀ (v4 : Int32), ∀ (μ : q_M) (H : Heap) (locs : List Loc) (ls : Array Slot), q_S E (q_A E) s μ H locs → lv_has ls 5 [(0, .ref (E.2.2.2 137)), (1, .int x1), (2, .int x2), (3, .int x3), (4, .int v4)] → L_X10_effect_13 x1 x2 x3 Kx n v4 μ = some (r, μr) → W p l e ({ frames := 3, cells := 0, slots := 0, locals := 87 }) s m ([.ref (E.2.2.2 137), .int x1, .int x2, .int x3] : List Value).toArray below meth c H locs 0 0 (MQ below (q_Qv E r μr) ([.ref (E.2.2.2 137), .int x1, .int x2, .int x3] : List Value).toArray s 0 0 (q_A E)) (F0 m 13 ls []) := by
    intro Kx hKx n
    induction n with
    | zero => intro v4 μ H locs ls S hl h; exact absurd h (by simp [L_X10_effect_13])
    | succ n ih =>
      intro v4 μ H locs ls S hl h
      rw [L_X10_effect_13] at h
      refine lv_iload hx hb dX10_effect_13 (lv_at hl 4 rfl) ?_
      refine lv_aload_n hx hb dX10_effect_15 rfl (lv_at hl 0 rfl) ?_
      refine q_geti (own := RX10) (C := RX10) (T := TX10) (N := 54) (ci := 10) (j := 19)  hx hb hts i10 hown F S q_k137 (by decide) rfl (by decide) (by decide) rfl (hts (.fieldLink RX10 135 "HeavyRoutesModel" "axles" "I") (by decide +kernel)) dX10_effect_16 ?_
      refine lv_icmp_ge (tgt := 51) hx hb dX10_effect_19 (by decide) (fun c3 => ?_) (fun c3 => ?_)
      · have h := q_ip c3 h
        exact hKx μ H locs ls S (lv_sub hl [0] rfl) h
      · have h := q_ig c3 h
        refine lv_aload_n hx hb dX10_effect_22 rfl (lv_at hl 0 rfl) ?_
        refine lv_iload_n hx hb dX10_effect_23 rfl (lv_at hl 1 rfl) ?_
        refine lv_iload_n hx hb dX10_effect_24 rfl (lv_at hl 2 rfl) ?_
        refine lv_iload_n hx hb dX10_effect_25 rfl (lv_at hl 3 rfl) ?_
        refine lv_aload_n hx hb dX10_effect_26 rfl (lv_at hl 0 rfl) ?_
        refine q_getr (own := RX10) (C := RX10) (T := TX10) (N := 54) (ci := 10) (j := 20)  (b := 154) hx hb hts i10 hown F S q_k137 (by decide) rfl (by decide) (by decide) rfl (by decide) (hts (.fieldLink RX10 59 "HeavyRoutesModel" "offsets" "[I") (by decide +kernel)) dX10_effect_27 ?_
        refine lv_iload hx hb dX10_effect_30 (lv_at hl 4 rfl) ?_
        obtain ⟨g4, h⟩ := q_gd_some h
        refine q_iald hx hb F S q_k154 q_n154 g4 dX10_effect_32 ?_
        refine lv_imul hx hb dX10_effect_33 ?_
        refine lv_isub hx hb dX10_effect_34 ?_
        refine lv_aload_n hx hb dX10_effect_35 rfl (lv_at hl 0 rfl) ?_
        refine q_getr (own := RX10) (C := RX10) (T := TX10) (N := 54) (ci := 10) (j := 21)  (b := 155) hx hb hts i10 hown F S q_k137 (by decide) rfl (by decide) (by decide) rfl (by decide) (hts (.fieldLink RX10 62 "HeavyRoutesModel" "loads" "[I") (by decide +kernel)) dX10_effect_36 ?_
        refine lv_iload hx hb dX10_effect_39 (lv_at hl 4 rfl) ?_
        refine q_iald hx hb F S q_k155 q_n155 g4 dX10_effect_41 ?_
        obtain ⟨u5, μ5, hc6, h⟩ := q_bd_some h
        refine q_kv F S (q_runV (As := [.int x1, .int (x2 - (x3 * (μ.1 154 v4.toNatClampNeg))), .int (μ.1 155 v4.toNatClampNeg)]) (rest := []) (b := 137) ⟨hx, hb, hml, hown, hts⟩ F S (c_X10_addAt l E hE x1 (x2 - (x3 * (μ.1 154 v4.toNatClampNeg))) (μ.1 155 v4.toNatClampNeg) μ μ5 u5 hc6) (cwV 3 hts gX10_effect_X10_addAt rfl rfl rfl (by decide +kernel) ⟨Nat.le_of_ble_eq_true rfl, Nat.le_of_ble_eq_true rfl⟩) q_k137 (by decide) rfl rfl hl.1 rfl (Nat.le_of_ble_eq_true rfl) dX10_effect_42 ⟨Nat.zero_le _, Nat.zero_le _⟩) (fun H locs S => ?_)
        obtain ⟨y7, ey7⟩ : ∃ z : Int32, z = v4 + 1 := ⟨_, rfl⟩
        have h := q_le_e h ey7
        refine lv_iinc (v := y7) (lv' := [(4, .int y7), (0, .ref (E.2.2.2 137)), (1, .int x1), (2, .int x2), (3, .int x3)]) hx hb dX10_effect_45 hl (k := 4) rfl (by rw [ey7]; rfl) (by decide) rfl (fun ls hl => ?_)
        refine lv_goto (tgt := 13) hx hb dX10_effect_48 (by decide) ?_
        exact ih y7 μ5 H locs ls S (lv_sub hl [1, 2, 3, 4, 0] rfl) h
  have hJ111 : ∀ (v4 : Int32), ∀ (s0 : Int64), ∀ (μ : q_M) (H : Heap) (locs : List Loc) (ls : Array Slot), q_S E (q_A E) s μ H locs → lv_has ls 5 [(0, .ref (E.2.2.2 137)), (4, .int v4)] → J_X10_effect_111 x1 x2 x3 v4 s0 μ = some (r, μr) → W p l e ({ frames := 3, cells := 0, slots := 0, locals := 87 }) s m ([.ref (E.2.2.2 137), .int x1, .int x2, .int x3] : List Value).toArray below meth c H locs 0 0 (MQ below (q_Qv E r μr) ([.ref (E.2.2.2 137), .int x1, .int x2, .int x3] : List Value).toArray s 0 0 (q_A E)) (F0 m 111 ls [.long s0, .ref (E.2.2.2 137)]) := by
    intro v4 s0 μ H locs ls S hl h
    rw [J_X10_effect_111] at h
    refine q_putl (own := RX10) (C := RX10) (T := TX10) (N := 54) (ci := 10) (j := 41)  hx hb hts i10 tyX10 tyX10_ok nmX10 hown F S q_k137 (by decide) rfl (by decide) (by decide) rfl (hts (.fieldLink RX10 178 "HeavyRoutesModel" "topHigh" "J") (by decide +kernel)) rfl (by decide +kernel) dX10_effect_111 (fun H locs μ10 eμ10 S => ?_)
    have h := q_le_e h eμ10
    refine lv_aload_n hx hb dX10_effect_114 rfl (lv_at hl 0 rfl) ?_
    refine lv_iload hx hb dX10_effect_115 (lv_at hl 1 rfl) ?_
    refine lv_if_eq (tgt := 127) hx hb dX10_effect_117 (by decide) (fun c11 => ?_) (fun c11 => ?_)
    · have h := q_ip c11 h
      refine lv_aload_n hx hb dX10_effect_127 rfl (lv_at hl 0 rfl) ?_
      refine q_getl (own := RX10) (C := RX10) (T := TX10) (N := 54) (ci := 10) (j := 42)  hx hb hts i10 hown F S q_k137 (by decide) rfl (by decide) (by decide) rfl (hts (.fieldLink RX10 181 "HeavyRoutesModel" "topLow" "J") (by decide +kernel)) dX10_effect_128 ?_
      refine q_putl (own := RX10) (C := RX10) (T := TX10) (N := 54) (ci := 10) (j := 42)  hx hb hts i10 tyX10 tyX10_ok nmX10 hown F S q_k137 (by decide) rfl (by decide) (by decide) rfl (hts (.fieldLink RX10 181 "HeavyRoutesModel" "topLow" "J") (by decide +kernel)) rfl (by decide +kernel) dX10_effect_131 (fun H locs μ12 eμ12 S => ?_)
      have h := q_le_e h eμ12
      exact q_vret hx hb hr S h hlk dX10_effect_134
    · have h := q_ig c11 h
      refine lv_aload_n hx hb dX10_effect_120 rfl (lv_at hl 0 rfl) ?_
      refine q_getl (own := RX10) (C := RX10) (T := TX10) (N := 54) (ci := 10) (j := 46)  hx hb hts i10 hown F S q_k137 (by decide) rfl (by decide) (by decide) rfl (hts (.fieldLink RX10 162 "HeavyRoutesModel" "sumLow" "J") (by decide +kernel)) dX10_effect_121 ?_
      refine lv_goto (tgt := 131) hx hb dX10_effect_124 (by decide) ?_
      refine q_putl (own := RX10) (C := RX10) (T := TX10) (N := 54) (ci := 10) (j := 42)  hx hb hts i10 tyX10 tyX10_ok nmX10 hown F S q_k137 (by decide) rfl (by decide) (by decide) rfl (hts (.fieldLink RX10 181 "HeavyRoutesModel" "topLow" "J") (by decide +kernel)) rfl (by decide +kernel) dX10_effect_131 (fun H locs μ13 eμ13 S => ?_)
      have h := q_le_e h eμ13
      exact q_vret hx hb hr S h hlk dX10_effect_134
  have hJ92 : ∀ (s0 : Int32), ∀ (μ : q_M) (H : Heap) (locs : List Loc) (ls : Array Slot), q_S E (q_A E) s μ H locs → lv_has ls 5 [(0, .ref (E.2.2.2 137))] → J_X10_effect_92 x1 x2 x3 s0 μ = some (r, μr) → W p l e ({ frames := 3, cells := 0, slots := 0, locals := 87 }) s m ([.ref (E.2.2.2 137), .int x1, .int x2, .int x3] : List Value).toArray below meth c H locs 0 0 (MQ below (q_Qv E r μr) ([.ref (E.2.2.2 137), .int x1, .int x2, .int x3] : List Value).toArray s 0 0 (q_A E)) (F0 m 92 ls [.int s0]) := by
    intro s0 μ H locs ls S hl h
    rw [J_X10_effect_92] at h
    refine lv_istore (lv' := [(4, .int s0), (0, .ref (E.2.2.2 137))]) hx hb dX10_effect_92 hl (by decide) rfl (fun ls hl => ?_)
    refine lv_aload_n hx hb dX10_effect_94 rfl (lv_at hl 1 rfl) ?_
    refine lv_iload hx hb dX10_effect_95 (lv_at hl 0 rfl) ?_
    refine lv_if_eq (tgt := 107) hx hb dX10_effect_97 (by decide) (fun c9 => ?_) (fun c9 => ?_)
    · have h := q_ip c9 h
      refine lv_aload_n hx hb dX10_effect_107 rfl (lv_at hl 1 rfl) ?_
      refine q_getl (own := RX10) (C := RX10) (T := TX10) (N := 54) (ci := 10) (j := 41)  hx hb hts i10 hown F S q_k137 (by decide) rfl (by decide) (by decide) rfl (hts (.fieldLink RX10 178 "HeavyRoutesModel" "topHigh" "J") (by decide +kernel)) dX10_effect_108 ?_
      exact hJ111 s0 (μ.2 137 41) μ H locs ls S (lv_sub hl [1, 0] rfl) h
    · have h := q_ig c9 h
      refine lv_aload_n hx hb dX10_effect_100 rfl (lv_at hl 1 rfl) ?_
      refine q_getl (own := RX10) (C := RX10) (T := TX10) (N := 54) (ci := 10) (j := 45)  hx hb hts i10 hown F S q_k137 (by decide) rfl (by decide) (by decide) rfl (hts (.fieldLink RX10 159 "HeavyRoutesModel" "sumHigh" "J") (by decide +kernel)) dX10_effect_101 ?_
      refine lv_goto (tgt := 111) hx hb dX10_effect_104 (by decide) ?_
      exact hJ111 s0 (μ.2 137 45) μ H locs ls S (lv_sub hl [1, 0] rfl) h
  have hJ87 : ∀ (μ : q_M) (H : Heap) (locs : List Loc) (ls : Array Slot), q_S E (q_A E) s μ H locs → lv_has ls 5 [(0, .ref (E.2.2.2 137))] → J_X10_effect_87 x1 x2 x3 μ = some (r, μr) → W p l e ({ frames := 3, cells := 0, slots := 0, locals := 87 }) s m ([.ref (E.2.2.2 137), .int x1, .int x2, .int x3] : List Value).toArray below meth c H locs 0 0 (MQ below (q_Qv E r μr) ([.ref (E.2.2.2 137), .int x1, .int x2, .int x3] : List Value).toArray s 0 0 (q_A E)) (F0 m 87 ls []) := by
    intro μ H locs ls S hl h
    rw [J_X10_effect_87] at h
    refine lv_iconst (v := 1) hx hb dX10_effect_87 (by decide) ?_
    refine lv_goto (tgt := 92) hx hb dX10_effect_88 (by decide) ?_
    exact hJ92 1 μ H locs ls S (lv_sub hl [0] rfl) h
  have hJ91 : ∀ (μ : q_M) (H : Heap) (locs : List Loc) (ls : Array Slot), q_S E (q_A E) s μ H locs → lv_has ls 5 [(0, .ref (E.2.2.2 137))] → J_X10_effect_91 x1 x2 x3 μ = some (r, μr) → W p l e ({ frames := 3, cells := 0, slots := 0, locals := 87 }) s m ([.ref (E.2.2.2 137), .int x1, .int x2, .int x3] : List Value).toArray below meth c H locs 0 0 (MQ below (q_Qv E r μr) ([.ref (E.2.2.2 137), .int x1, .int x2, .int x3] : List Value).toArray s 0 0 (q_A E)) (F0 m 91 ls []) := by
    intro μ H locs ls S hl h
    rw [J_X10_effect_91] at h
    refine lv_iconst (v := 0) hx hb dX10_effect_91 (by decide) ?_
    exact hJ92 0 μ H locs ls S (lv_sub hl [0] rfl) h
  unfold f_X10_effect at h
  obtain ⟨H, eH⟩ : ∃ z, z = s.heap := ⟨_, rfl⟩
  obtain ⟨locs, eL⟩ : ∃ z : List Loc, z = [] := ⟨_, rfl⟩
  rw [← eH, ← eL] at S
  suffices hh : W p l e ({ frames := 3, cells := 0, slots := 0, locals := 87 }) s m ([.ref (E.2.2.2 137), .int x1, .int x2, .int x3] : List Value).toArray below meth c H locs 0 0 (MQ below (q_Qv E r μr) ([.ref (E.2.2.2 137), .int x1, .int x2, .int x3] : List Value).toArray s 0 0 (q_A E)) (F0 m 0 ls []) by rw [eH, eL] at hh; exact hh
  refine lv_aload_n hx hb dX10_effect_0 rfl (lv_at hl 0 rfl) ?_
  refine lv_lconst (v := 0) hx hb dX10_effect_1 (by decide) ?_
  refine q_putl (own := RX10) (C := RX10) (T := TX10) (N := 54) (ci := 10) (j := 45)  hx hb hts i10 tyX10 tyX10_ok nmX10 hown F S q_k137 (by decide) rfl (by decide) (by decide) rfl (hts (.fieldLink RX10 159 "HeavyRoutesModel" "sumHigh" "J") (by decide +kernel)) rfl (by decide +kernel) dX10_effect_2 (fun H locs μ1 eμ1 S => ?_)
  have h := q_le_e h eμ1
  refine lv_aload_n hx hb dX10_effect_5 rfl (lv_at hl 0 rfl) ?_
  refine lv_lconst (v := 0) hx hb dX10_effect_6 (by decide) ?_
  refine q_putl (own := RX10) (C := RX10) (T := TX10) (N := 54) (ci := 10) (j := 46)  hx hb hts i10 tyX10 tyX10_ok nmX10 hown F S q_k137 (by decide) rfl (by decide) (by decide) rfl (hts (.fieldLink RX10 162 "HeavyRoutesModel" "sumLow" "J") (by decide +kernel)) rfl (by decide +kernel) dX10_effect_7 (fun H locs μ2 eμ2 S => ?_)
  have h := q_le_e h eμ2
  refine lv_iconst (v := 0) hx hb dX10_effect_10 (by decide) ?_
  refine lv_istore (lv' := [(4, .int 0), (0, .ref (E.2.2.2 137)), (1, .int x1), (2, .int x2), (3, .int x3)]) hx hb dX10_effect_11 hl (by decide) rfl (fun ls hl => ?_)
  refine hL13 _ (fun μ H locs ls S hl h => ?_) q_fu 0 μ2 H locs ls S (lv_sub hl [1, 2, 3, 4, 0] rfl) h
  refine lv_aload_n hx hb dX10_effect_51 rfl (lv_at hl 0 rfl) ?_
  refine q_getl (own := RX10) (C := RX10) (T := TX10) (N := 54) (ci := 10) (j := 45)  hx hb hts i10 hown F S q_k137 (by decide) rfl (by decide) (by decide) rfl (hts (.fieldLink RX10 159 "HeavyRoutesModel" "sumHigh" "J") (by decide +kernel)) dX10_effect_52 ?_
  refine lv_aload_n hx hb dX10_effect_55 rfl (lv_at hl 0 rfl) ?_
  refine q_getl (own := RX10) (C := RX10) (T := TX10) (N := 54) (ci := 10) (j := 41)  hx hb hts i10 hown F S q_k137 (by decide) rfl (by decide) (by decide) rfl (hts (.fieldLink RX10 178 "HeavyRoutesModel" "topHigh" "J") (by decide +kernel)) dX10_effect_56 ?_
  refine W.lcmp hx hb dX10_effect_59 ?_
  refine lv_if_gt (tgt := 87) hx hb dX10_effect_60 (by decide) (fun c8 => ?_) (fun c8 => ?_)
  · have h := q_ip c8 h
    exact hJ87 μ H locs ls S (lv_sub hl [0] rfl) h
  · have h := q_ig c8 h
    refine lv_aload_n hx hb dX10_effect_63 rfl (lv_at hl 0 rfl) ?_
    refine q_getl (own := RX10) (C := RX10) (T := TX10) (N := 54) (ci := 10) (j := 45)  hx hb hts i10 hown F S q_k137 (by decide) rfl (by decide) (by decide) rfl (hts (.fieldLink RX10 159 "HeavyRoutesModel" "sumHigh" "J") (by decide +kernel)) dX10_effect_64 ?_
    refine lv_aload_n hx hb dX10_effect_67 rfl (lv_at hl 0 rfl) ?_
    refine q_getl (own := RX10) (C := RX10) (T := TX10) (N := 54) (ci := 10) (j := 41)  hx hb hts i10 hown F S q_k137 (by decide) rfl (by decide) (by decide) rfl (hts (.fieldLink RX10 178 "HeavyRoutesModel" "topHigh" "J") (by decide +kernel)) dX10_effect_68 ?_
    refine W.lcmp hx hb dX10_effect_71 ?_
    refine lv_if_ne (tgt := 91) hx hb dX10_effect_72 (by decide) (fun c14 => ?_) (fun c14 => ?_)
    · have h := q_ig c14 h
      exact hJ91 μ H locs ls S (lv_sub hl [0] rfl) h
    · have h := q_ip c14 h
      refine lv_aload_n hx hb dX10_effect_75 rfl (lv_at hl 0 rfl) ?_
      refine q_getl (own := RX10) (C := RX10) (T := TX10) (N := 54) (ci := 10) (j := 46)  hx hb hts i10 hown F S q_k137 (by decide) rfl (by decide) (by decide) rfl (hts (.fieldLink RX10 162 "HeavyRoutesModel" "sumLow" "J") (by decide +kernel)) dX10_effect_76 ?_
      refine lv_aload_n hx hb dX10_effect_79 rfl (lv_at hl 0 rfl) ?_
      refine q_getl (own := RX10) (C := RX10) (T := TX10) (N := 54) (ci := 10) (j := 42)  hx hb hts i10 hown F S q_k137 (by decide) rfl (by decide) (by decide) rfl (hts (.fieldLink RX10 181 "HeavyRoutesModel" "topLow" "J") (by decide +kernel)) dX10_effect_80 ?_
      refine W.lcmp hx hb dX10_effect_83 ?_
      refine lv_if_le (tgt := 91) hx hb dX10_effect_84 (by decide) (fun c15 => ?_) (fun c15 => ?_)
      · have h := q_ip c15 h
        exact hJ91 μ H locs ls S (lv_sub hl [0] rfl) h
      · have h := q_ig c15 h
        exact hJ87 μ H locs ls S (lv_sub hl [0] rfl) h
def L_X10_rate_12 (x1 : Int32) (Kx : q_M → Option (Unit × q_M)) : Nat → Int32 → q_M → Option (Unit × q_M)
  | 0, _, _ => none
  | n + 1, v2, μ => q_gd (q_ix x1 6) ((if (μ.1 150 x1.toNatClampNeg) ≤ v2 then Kx μ else q_le (((6 * x1) + v2) : Int32) (fun y5 => q_gd (q_ix y5 36) (q_bd (f_X10_common (μ.2 137 47) ((μ.1 153 y5.toNatClampNeg).toInt64) μ) (fun r9 μ7 => q_gd (decide (¬ (r9 = 0))) (q_le (q_sl μ7 137 47 (((μ.2 137 47) / r9) * ((μ7.1 153 y5.toNatClampNeg).toInt64))) (fun μ11 => (if v2 ≤ 0 then q_le (v2 + 1 : Int32) (fun y13 => (L_X10_rate_12 x1 Kx n) y13 μ11) else q_gd (q_ix (y5 - 1) 36) (q_le (((μ11.1 151 y5.toNatClampNeg) - (μ11.1 151 (y5 - 1).toNatClampNeg)).toInt64 : Int64) (fun y15 => q_bd (f_X10_common (μ11.2 137 48) y15 μ11) (fun r18 μ16 => q_gd (decide (¬ (r18 = 0))) (q_le (q_sl μ16 137 48 (((μ11.2 137 48) / r18) * y15)) (fun μ20 => q_le (v2 + 1 : Int32) (fun y21 => (L_X10_rate_12 x1 Kx n) y21 μ20))))))))))))))
def L_X10_rate_133 (x1 : Int32) (Kx : Int32 → q_M → Option (Unit × q_M)) : Nat → Int32 → Int32 → q_M → Option (Unit × q_M)
  | 0, _, _, _ => none
  | n + 1, v2, v3, μ => (if (μ.1 137 19) ≤ v3 then Kx v2 μ else q_gd (q_ix ((6 * x1) + v2) 36) (q_gd (q_ix v3 5) (q_bd (f_X10_effect x1 ((μ.1 151 ((6 * x1) + v2).toNatClampNeg) + (μ.1 154 v3.toNatClampNeg)) 1 μ) (fun u29 μ29 => q_bd (f_X10_effect x1 ((μ29.1 151 ((6 * x1) + v2).toNatClampNeg) - (μ29.1 154 v3.toNatClampNeg)) (-1) μ29) (fun u31 μ31 => q_le (v3 + 1 : Int32) (fun y33 => (L_X10_rate_133 x1 Kx n) v2 y33 μ31))))))
def L_X10_rate_121 (x1 : Int32) (Kx : q_M → Option (Unit × q_M)) : Nat → Int32 → q_M → Option (Unit × q_M)
  | 0, _, _ => none
  | n + 1, v2, μ => q_gd (q_ix x1 6) ((if (μ.1 150 x1.toNatClampNeg) ≤ v2 then Kx μ else L_X10_rate_133 x1 (fun v2 μ => q_le (v2 + 1 : Int32) (fun y34 => (L_X10_rate_121 x1 Kx n) y34 μ)) q_fu v2 0 μ))
def f_X10_rate (x1 : Int32) (μ : q_M) : Option (Unit × q_M) := q_le (q_sl μ 137 47 1) (fun μ1 => q_le (q_sl μ1 137 48 1) (fun μ2 => L_X10_rate_12 x1 (fun μ => q_le (q_sl μ 137 41 0) (fun μ22 => q_le (q_sl μ22 137 42 0) (fun μ23 => L_X10_rate_121 x1 (fun μ => q_bd (f_X10_product (μ.2 137 47) (μ.2 137 48) μ) (fun u35 μ35 => q_le (q_sl μ35 137 43 (μ35.2 137 49)) (fun μ37 => q_le (q_sl μ37 137 44 (μ37.2 137 50)) (fun μ38 => some ((), μ38))))) q_fu 0 μ23))) q_fu 0 μ2))
set_option maxHeartbeats 4000000 in
set_option maxRecDepth 100000 in
theorem c_X10_rate (l : Launch) (E : q_E) (hE : q_I E) (x1 : Int32) (μ μr : q_M) (r : Unit) (h : f_X10_rate x1 μ = some (r, μr)) : Met l yX10_rate wsX10_rate ({ frames := 4, cells := 0, slots := 0, locals := 111 }) (q_Pc E μ [.ref (E.2.2.2 137), .int x1]) (q_Qv E r μr) 0 0 (q_A E) := by
  refine q_met (cc := cX10_rate) (maxL := 6) (ret := none) hE (by decide) rfl (Nat.le_of_ble_eq_true rfl) ?_
  intro p e s m below meth c hx hb hr hml hown hts hlk F S ls hl
  have hl : lv_has ls 6 [(0, .ref (E.2.2.2 137)), (1, .int x1)] := hl
  have i10 : ∀ w ∈ u_ws RX10 TX10 54, w ∈ wsX10_rate := by decide +kernel
  have hL12 : ∀ (Kx : q_M → Option (Unit × q_M)), (∀ (μ : q_M) (H : Heap) (locs : List Loc) (ls : Array Slot), q_S E (q_A E) s μ H locs → lv_has ls 6 [(0, .ref (E.2.2.2 137)), (1, .int x1)] → Kx μ = some (r, μr) → W p l e ({ frames := 4, cells := 0, slots := 0, locals := 111 }) s m ([.ref (E.2.2.2 137), .int x1] : List Value).toArray below meth c H locs 0 0 (MQ below (q_Qv E r μr) ([.ref (E.2.2.2 137), .int x1] : List Value).toArray s 0 0 (q_A E)) (F0 m 109 ls [])) → ∀ (n : Nat), ∀ (v2 : Int32), ∀ (μ : q_M) (H : Heap) (locs : List Loc) (ls : Array Slot), q_S E (q_A E) s μ H locs → lv_has ls 6 [(0, .ref (E.2.2.2 137)), (1, .int x1), (2, .int v2)] → L_X10_rate_12 x1 Kx n v2 μ = some (r, μr) → W p l e ({ frames := 4, cells := 0, slots := 0, locals := 111 }) s m ([.ref (E.2.2.2 137), .int x1] : List Value).toArray below meth c H locs 0 0 (MQ below (q_Qv E r μr) ([.ref (E.2.2.2 137), .int x1] : List Value).toArray s 0 0 (q_A E)) (F0 m 12 ls []) := by
    intro Kx hKx n
    induction n with
    | zero => intro v2 μ H locs ls S hl h; exact absurd h (by simp [L_X10_rate_12])
    | succ n ih =>
      intro v2 μ H locs ls S hl h
      rw [L_X10_rate_12] at h
      refine lv_iload_n hx hb dX10_rate_12 rfl (lv_at hl 2 rfl) ?_
      refine lv_aload_n hx hb dX10_rate_13 rfl (lv_at hl 0 rfl) ?_
      refine q_getr (own := RX10) (C := RX10) (T := TX10) (N := 54) (ci := 10) (j := 15)  (b := 150) hx hb hts i10 hown F S q_k137 (by decide) rfl (by decide) (by decide) rfl (by decide) (hts (.fieldLink RX10 47 "HeavyRoutesModel" "cornerCounts" "[I") (by decide +kernel)) dX10_rate_14 ?_
      refine lv_iload_n hx hb dX10_rate_17 rfl (lv_at hl 1 rfl) ?_
      obtain ⟨g3, h⟩ := q_gd_some h
      refine q_iald hx hb F S q_k150 q_n150 g3 dX10_rate_18 ?_
      refine lv_icmp_ge (tgt := 109) hx hb dX10_rate_19 (by decide) (fun c4 => ?_) (fun c4 => ?_)
      · have h := q_ip c4 h
        exact hKx μ H locs ls S (lv_sub hl [0, 1] rfl) h
      · have h := q_ig c4 h
        refine lv_bipush (v := 6) hx hb dX10_rate_22 (by decide) ?_
        refine lv_iload_n hx hb dX10_rate_24 rfl (lv_at hl 1 rfl) ?_
        refine lv_imul hx hb dX10_rate_25 ?_
        refine lv_iload_n hx hb dX10_rate_26 rfl (lv_at hl 2 rfl) ?_
        refine lv_iadd hx hb dX10_rate_27 ?_
        refine lv_topi (fun y5 ey5 => ?_)
        have h := q_le_e h ey5
        refine lv_istore_n (lv' := [(3, .int y5), (0, .ref (E.2.2.2 137)), (1, .int x1), (2, .int v2)]) hx hb dX10_rate_28 rfl hl (by decide) rfl (fun ls hl => ?_)
        refine lv_aload_n hx hb dX10_rate_29 rfl (lv_at hl 1 rfl) ?_
        refine lv_aload_n hx hb dX10_rate_30 rfl (lv_at hl 1 rfl) ?_
        refine q_getl (own := RX10) (C := RX10) (T := TX10) (N := 54) (ci := 10) (j := 47)  hx hb hts i10 hown F S q_k137 (by decide) rfl (by decide) (by decide) rfl (hts (.fieldLink RX10 165 "HeavyRoutesModel" "leastBelow" "J") (by decide +kernel)) dX10_rate_31 ?_
        refine lv_aload_n hx hb dX10_rate_34 rfl (lv_at hl 1 rfl) ?_
        refine q_getl (own := RX10) (C := RX10) (T := TX10) (N := 54) (ci := 10) (j := 47)  hx hb hts i10 hown F S q_k137 (by decide) rfl (by decide) (by decide) rfl (hts (.fieldLink RX10 165 "HeavyRoutesModel" "leastBelow" "J") (by decide +kernel)) dX10_rate_35 ?_
        refine lv_aload_n hx hb dX10_rate_38 rfl (lv_at hl 1 rfl) ?_
        refine q_getr (own := RX10) (C := RX10) (T := TX10) (N := 54) (ci := 10) (j := 18)  (b := 153) hx hb hts i10 hown F S q_k137 (by decide) rfl (by decide) (by decide) rfl (by decide) (hts (.fieldLink RX10 56 "HeavyRoutesModel" "belows" "[I") (by decide +kernel)) dX10_rate_39 ?_
        refine lv_iload_n hx hb dX10_rate_42 rfl (lv_at hl 0 rfl) ?_
        obtain ⟨g6, h⟩ := q_gd_some h
        refine q_iald hx hb F S q_k153 q_n153 g6 dX10_rate_43 ?_
        refine lv_i2l (v := (μ.1 153 y5.toNatClampNeg).toInt64) hx hb dX10_rate_44 rfl ?_
        obtain ⟨r9, μ7, hc8, h⟩ := q_bd_some h
        refine q_kl F S (q_runS (As := [.long (μ.2 137 47), .long ((μ.1 153 y5.toNatClampNeg).toInt64)]) (rest := [.long (μ.2 137 47), .ref (E.2.2.2 137)]) ⟨hx, hb, hml, hown, hts⟩ F S (c_X10_common l E hE (μ.2 137 47) ((μ.1 153 y5.toNatClampNeg).toInt64) μ μ7 r9 hc8) (va_cwS 2 hts gX10_rate_X10_common rfl rfl rfl (by decide +kernel) ⟨Nat.le_of_ble_eq_true rfl, Nat.le_of_ble_eq_true rfl⟩) rfl hl.1 rfl (Nat.le_of_ble_eq_true rfl) dX10_rate_45 ⟨Nat.zero_le _, Nat.zero_le _⟩) (fun H locs S => ?_)
        obtain ⟨g10, h⟩ := q_gd_some h
        refine lv_ldiv hx hb dX10_rate_48 (of_decide_eq_true g10) ?_
        refine lv_aload_n hx hb dX10_rate_49 rfl (lv_at hl 1 rfl) ?_
        refine q_getr (own := RX10) (C := RX10) (T := TX10) (N := 54) (ci := 10) (j := 18)  (b := 153) hx hb hts i10 hown F S q_k137 (by decide) rfl (by decide) (by decide) rfl (by decide) (hts (.fieldLink RX10 56 "HeavyRoutesModel" "belows" "[I") (by decide +kernel)) dX10_rate_50 ?_
        refine lv_iload_n hx hb dX10_rate_53 rfl (lv_at hl 0 rfl) ?_
        refine q_iald hx hb F S q_k153 q_n153 g6 dX10_rate_54 ?_
        refine lv_i2l (v := (μ7.1 153 y5.toNatClampNeg).toInt64) hx hb dX10_rate_55 rfl ?_
        refine lv_lmul hx hb dX10_rate_56 ?_
        refine q_putl (own := RX10) (C := RX10) (T := TX10) (N := 54) (ci := 10) (j := 47)  hx hb hts i10 tyX10 tyX10_ok nmX10 hown F S q_k137 (by decide) rfl (by decide) (by decide) rfl (hts (.fieldLink RX10 165 "HeavyRoutesModel" "leastBelow" "J") (by decide +kernel)) rfl (by decide +kernel) dX10_rate_57 (fun H locs μ11 eμ11 S => ?_)
        have h := q_le_e h eμ11
        refine lv_iload_n hx hb dX10_rate_60 rfl (lv_at hl 3 rfl) ?_
        refine lv_if_le (tgt := 103) hx hb dX10_rate_61 (by decide) (fun c12 => ?_) (fun c12 => ?_)
        · have h := q_ip c12 h
          obtain ⟨y13, ey13⟩ : ∃ z : Int32, z = v2 + 1 := ⟨_, rfl⟩
          have h := q_le_e h ey13
          refine lv_iinc (v := y13) (lv' := [(2, .int y13), (3, .int y5), (0, .ref (E.2.2.2 137)), (1, .int x1)]) hx hb dX10_rate_103 hl (k := 3) rfl (by rw [ey13]; rfl) (by decide) rfl (fun ls hl => ?_)
          refine lv_goto (tgt := 12) hx hb dX10_rate_106 (by decide) ?_
          exact ih y13 μ11 H locs ls S (lv_sub hl [2, 3, 0] rfl) h
        · have h := q_ig c12 h
          refine lv_aload_n hx hb dX10_rate_64 rfl (lv_at hl 1 rfl) ?_
          refine q_getr (own := RX10) (C := RX10) (T := TX10) (N := 54) (ci := 10) (j := 16)  (b := 151) hx hb hts i10 hown F S q_k137 (by decide) rfl (by decide) (by decide) rfl (by decide) (hts (.fieldLink RX10 50 "HeavyRoutesModel" "places" "[I") (by decide +kernel)) dX10_rate_65 ?_
          refine lv_iload_n hx hb dX10_rate_68 rfl (lv_at hl 0 rfl) ?_
          refine q_iald hx hb F S q_k151 q_n151 g6 dX10_rate_69 ?_
          refine lv_aload_n hx hb dX10_rate_70 rfl (lv_at hl 1 rfl) ?_
          refine q_getr (own := RX10) (C := RX10) (T := TX10) (N := 54) (ci := 10) (j := 16)  (b := 151) hx hb hts i10 hown F S q_k137 (by decide) rfl (by decide) (by decide) rfl (by decide) (hts (.fieldLink RX10 50 "HeavyRoutesModel" "places" "[I") (by decide +kernel)) dX10_rate_71 ?_
          refine lv_iload_n hx hb dX10_rate_74 rfl (lv_at hl 0 rfl) ?_
          refine lv_iconst (v := 1) hx hb dX10_rate_75 (by decide) ?_
          refine lv_isub hx hb dX10_rate_76 ?_
          obtain ⟨g14, h⟩ := q_gd_some h
          refine q_iald hx hb F S q_k151 q_n151 g14 dX10_rate_77 ?_
          refine lv_isub hx hb dX10_rate_78 ?_
          refine lv_i2l (v := ((μ11.1 151 y5.toNatClampNeg) - (μ11.1 151 (y5 - 1).toNatClampNeg)).toInt64) hx hb dX10_rate_79 rfl ?_
          refine lv_topl (fun y15 ey15 => ?_)
          have h := q_le_e h ey15
          refine lv_lstore (lv' := [(4, .long y15), (3, .int y5), (0, .ref (E.2.2.2 137)), (1, .int x1), (2, .int v2)]) hx hb dX10_rate_80 hl (by decide) rfl (fun ls hl => ?_)
          refine lv_aload_n hx hb dX10_rate_82 rfl (lv_at hl 2 rfl) ?_
          refine lv_aload_n hx hb dX10_rate_83 rfl (lv_at hl 2 rfl) ?_
          refine q_getl (own := RX10) (C := RX10) (T := TX10) (N := 54) (ci := 10) (j := 48)  hx hb hts i10 hown F S q_k137 (by decide) rfl (by decide) (by decide) rfl (hts (.fieldLink RX10 168 "HeavyRoutesModel" "leastStep" "J") (by decide +kernel)) dX10_rate_84 ?_
          refine lv_aload_n hx hb dX10_rate_87 rfl (lv_at hl 2 rfl) ?_
          refine q_getl (own := RX10) (C := RX10) (T := TX10) (N := 54) (ci := 10) (j := 48)  hx hb hts i10 hown F S q_k137 (by decide) rfl (by decide) (by decide) rfl (hts (.fieldLink RX10 168 "HeavyRoutesModel" "leastStep" "J") (by decide +kernel)) dX10_rate_88 ?_
          refine lv_lload hx hb dX10_rate_91 (lv_at hl 0 rfl) ?_
          obtain ⟨r18, μ16, hc17, h⟩ := q_bd_some h
          refine q_kl F S (q_runS (As := [.long (μ11.2 137 48), .long y15]) (rest := [.long (μ11.2 137 48), .ref (E.2.2.2 137)]) ⟨hx, hb, hml, hown, hts⟩ F S (c_X10_common l E hE (μ11.2 137 48) y15 μ11 μ16 r18 hc17) (va_cwS 2 hts gX10_rate_X10_common rfl rfl rfl (by decide +kernel) ⟨Nat.le_of_ble_eq_true rfl, Nat.le_of_ble_eq_true rfl⟩) rfl hl.1 rfl (Nat.le_of_ble_eq_true rfl) dX10_rate_93 ⟨Nat.zero_le _, Nat.zero_le _⟩) (fun H locs S => ?_)
          obtain ⟨g19, h⟩ := q_gd_some h
          refine lv_ldiv hx hb dX10_rate_96 (of_decide_eq_true g19) ?_
          refine lv_lload hx hb dX10_rate_97 (lv_at hl 0 rfl) ?_
          refine lv_lmul hx hb dX10_rate_99 ?_
          refine q_putl (own := RX10) (C := RX10) (T := TX10) (N := 54) (ci := 10) (j := 48)  hx hb hts i10 tyX10 tyX10_ok nmX10 hown F S q_k137 (by decide) rfl (by decide) (by decide) rfl (hts (.fieldLink RX10 168 "HeavyRoutesModel" "leastStep" "J") (by decide +kernel)) rfl (by decide +kernel) dX10_rate_100 (fun H locs μ20 eμ20 S => ?_)
          have h := q_le_e h eμ20
          obtain ⟨y21, ey21⟩ : ∃ z : Int32, z = v2 + 1 := ⟨_, rfl⟩
          have h := q_le_e h ey21
          refine lv_iinc (v := y21) (lv' := [(2, .int y21), (4, .long y15), (3, .int y5), (0, .ref (E.2.2.2 137)), (1, .int x1)]) hx hb dX10_rate_103 hl (k := 4) rfl (by rw [ey21]; rfl) (by decide) rfl (fun ls hl => ?_)
          refine lv_goto (tgt := 12) hx hb dX10_rate_106 (by decide) ?_
          exact ih y21 μ20 H locs ls S (lv_sub hl [3, 4, 0] rfl) h
  have hL133 : ∀ (Kx : Int32 → q_M → Option (Unit × q_M)), (∀ (v2 : Int32), ∀ (μ : q_M) (H : Heap) (locs : List Loc) (ls : Array Slot), q_S E (q_A E) s μ H locs → lv_has ls 6 [(0, .ref (E.2.2.2 137)), (1, .int x1), (2, .int v2)] → Kx v2 μ = some (r, μr) → W p l e ({ frames := 4, cells := 0, slots := 0, locals := 111 }) s m ([.ref (E.2.2.2 137), .int x1] : List Value).toArray below meth c H locs 0 0 (MQ below (q_Qv E r μr) ([.ref (E.2.2.2 137), .int x1] : List Value).toArray s 0 0 (q_A E)) (F0 m 195 ls [])) → ∀ (n : Nat), ∀ (v2 : Int32), ∀ (v3 : Int32), ∀ (μ : q_M) (H : Heap) (locs : List Loc) (ls : Array Slot), q_S E (q_A E) s μ H locs → lv_has ls 6 [(0, .ref (E.2.2.2 137)), (1, .int x1), (2, .int v2), (3, .int v3)] → L_X10_rate_133 x1 Kx n v2 v3 μ = some (r, μr) → W p l e ({ frames := 4, cells := 0, slots := 0, locals := 111 }) s m ([.ref (E.2.2.2 137), .int x1] : List Value).toArray below meth c H locs 0 0 (MQ below (q_Qv E r μr) ([.ref (E.2.2.2 137), .int x1] : List Value).toArray s 0 0 (q_A E)) (F0 m 133 ls []) := by
    intro Kx hKx n
    induction n with
    | zero => intro v2 v3 μ H locs ls S hl h; exact absurd h (by simp [L_X10_rate_133])
    | succ n ih =>
      intro v2 v3 μ H locs ls S hl h
      rw [L_X10_rate_133] at h
      refine lv_iload_n hx hb dX10_rate_133 rfl (lv_at hl 3 rfl) ?_
      refine lv_aload_n hx hb dX10_rate_134 rfl (lv_at hl 0 rfl) ?_
      refine q_geti (own := RX10) (C := RX10) (T := TX10) (N := 54) (ci := 10) (j := 19)  hx hb hts i10 hown F S q_k137 (by decide) rfl (by decide) (by decide) rfl (hts (.fieldLink RX10 135 "HeavyRoutesModel" "axles" "I") (by decide +kernel)) dX10_rate_135 ?_
      refine lv_icmp_ge (tgt := 195) hx hb dX10_rate_138 (by decide) (fun c26 => ?_) (fun c26 => ?_)
      · have h := q_ip c26 h
        exact hKx v2 μ H locs ls S (lv_sub hl [0, 1, 2] rfl) h
      · have h := q_ig c26 h
        refine lv_aload_n hx hb dX10_rate_141 rfl (lv_at hl 0 rfl) ?_
        refine lv_iload_n hx hb dX10_rate_142 rfl (lv_at hl 1 rfl) ?_
        refine lv_aload_n hx hb dX10_rate_143 rfl (lv_at hl 0 rfl) ?_
        refine q_getr (own := RX10) (C := RX10) (T := TX10) (N := 54) (ci := 10) (j := 16)  (b := 151) hx hb hts i10 hown F S q_k137 (by decide) rfl (by decide) (by decide) rfl (by decide) (hts (.fieldLink RX10 50 "HeavyRoutesModel" "places" "[I") (by decide +kernel)) dX10_rate_144 ?_
        refine lv_bipush (v := 6) hx hb dX10_rate_147 (by decide) ?_
        refine lv_iload_n hx hb dX10_rate_149 rfl (lv_at hl 1 rfl) ?_
        refine lv_imul hx hb dX10_rate_150 ?_
        refine lv_iload_n hx hb dX10_rate_151 rfl (lv_at hl 2 rfl) ?_
        refine lv_iadd hx hb dX10_rate_152 ?_
        obtain ⟨g27, h⟩ := q_gd_some h
        refine q_iald hx hb F S q_k151 q_n151 g27 dX10_rate_153 ?_
        refine lv_aload_n hx hb dX10_rate_154 rfl (lv_at hl 0 rfl) ?_
        refine q_getr (own := RX10) (C := RX10) (T := TX10) (N := 54) (ci := 10) (j := 20)  (b := 154) hx hb hts i10 hown F S q_k137 (by decide) rfl (by decide) (by decide) rfl (by decide) (hts (.fieldLink RX10 59 "HeavyRoutesModel" "offsets" "[I") (by decide +kernel)) dX10_rate_155 ?_
        refine lv_iload_n hx hb dX10_rate_158 rfl (lv_at hl 3 rfl) ?_
        obtain ⟨g28, h⟩ := q_gd_some h
        refine q_iald hx hb F S q_k154 q_n154 g28 dX10_rate_159 ?_
        refine lv_iadd hx hb dX10_rate_160 ?_
        refine lv_iconst (v := 1) hx hb dX10_rate_161 (by decide) ?_
        obtain ⟨u29, μ29, hc30, h⟩ := q_bd_some h
        refine q_kv F S (q_runV (As := [.int x1, .int ((μ.1 151 ((6 * x1) + v2).toNatClampNeg) + (μ.1 154 v3.toNatClampNeg)), .int 1]) (rest := []) (b := 137) ⟨hx, hb, hml, hown, hts⟩ F S (c_X10_effect l E hE x1 ((μ.1 151 ((6 * x1) + v2).toNatClampNeg) + (μ.1 154 v3.toNatClampNeg)) 1 μ μ29 u29 hc30) (cwV 3 hts gX10_rate_X10_effect rfl rfl rfl (by decide +kernel) ⟨Nat.le_of_ble_eq_true rfl, Nat.le_of_ble_eq_true rfl⟩) q_k137 (by decide) rfl rfl hl.1 rfl (Nat.le_of_ble_eq_true rfl) dX10_rate_162 ⟨Nat.zero_le _, Nat.zero_le _⟩) (fun H locs S => ?_)
        refine lv_aload_n hx hb dX10_rate_165 rfl (lv_at hl 0 rfl) ?_
        refine lv_iload_n hx hb dX10_rate_166 rfl (lv_at hl 1 rfl) ?_
        refine lv_aload_n hx hb dX10_rate_167 rfl (lv_at hl 0 rfl) ?_
        refine q_getr (own := RX10) (C := RX10) (T := TX10) (N := 54) (ci := 10) (j := 16)  (b := 151) hx hb hts i10 hown F S q_k137 (by decide) rfl (by decide) (by decide) rfl (by decide) (hts (.fieldLink RX10 50 "HeavyRoutesModel" "places" "[I") (by decide +kernel)) dX10_rate_168 ?_
        refine lv_bipush (v := 6) hx hb dX10_rate_171 (by decide) ?_
        refine lv_iload_n hx hb dX10_rate_173 rfl (lv_at hl 1 rfl) ?_
        refine lv_imul hx hb dX10_rate_174 ?_
        refine lv_iload_n hx hb dX10_rate_175 rfl (lv_at hl 2 rfl) ?_
        refine lv_iadd hx hb dX10_rate_176 ?_
        refine q_iald hx hb F S q_k151 q_n151 g27 dX10_rate_177 ?_
        refine lv_aload_n hx hb dX10_rate_178 rfl (lv_at hl 0 rfl) ?_
        refine q_getr (own := RX10) (C := RX10) (T := TX10) (N := 54) (ci := 10) (j := 20)  (b := 154) hx hb hts i10 hown F S q_k137 (by decide) rfl (by decide) (by decide) rfl (by decide) (hts (.fieldLink RX10 59 "HeavyRoutesModel" "offsets" "[I") (by decide +kernel)) dX10_rate_179 ?_
        refine lv_iload_n hx hb dX10_rate_182 rfl (lv_at hl 3 rfl) ?_
        refine q_iald hx hb F S q_k154 q_n154 g28 dX10_rate_183 ?_
        refine lv_isub hx hb dX10_rate_184 ?_
        refine lv_iconst (v := (-1)) hx hb dX10_rate_185 (by decide) ?_
        obtain ⟨u31, μ31, hc32, h⟩ := q_bd_some h
        refine q_kv F S (q_runV (As := [.int x1, .int ((μ29.1 151 ((6 * x1) + v2).toNatClampNeg) - (μ29.1 154 v3.toNatClampNeg)), .int (-1)]) (rest := []) (b := 137) ⟨hx, hb, hml, hown, hts⟩ F S (c_X10_effect l E hE x1 ((μ29.1 151 ((6 * x1) + v2).toNatClampNeg) - (μ29.1 154 v3.toNatClampNeg)) (-1) μ29 μ31 u31 hc32) (cwV 3 hts gX10_rate_X10_effect rfl rfl rfl (by decide +kernel) ⟨Nat.le_of_ble_eq_true rfl, Nat.le_of_ble_eq_true rfl⟩) q_k137 (by decide) rfl rfl hl.1 rfl (Nat.le_of_ble_eq_true rfl) dX10_rate_186 ⟨Nat.zero_le _, Nat.zero_le _⟩) (fun H locs S => ?_)
        obtain ⟨y33, ey33⟩ : ∃ z : Int32, z = v3 + 1 := ⟨_, rfl⟩
        have h := q_le_e h ey33
        refine lv_iinc (v := y33) (lv' := [(3, .int y33), (0, .ref (E.2.2.2 137)), (1, .int x1), (2, .int v2)]) hx hb dX10_rate_189 hl (k := 3) rfl (by rw [ey33]; rfl) (by decide) rfl (fun ls hl => ?_)
        refine lv_goto (tgt := 133) hx hb dX10_rate_192 (by decide) ?_
        exact ih v2 y33 μ31 H locs ls S (lv_sub hl [1, 2, 3, 0] rfl) h
  have hL121 : ∀ (Kx : q_M → Option (Unit × q_M)), (∀ (μ : q_M) (H : Heap) (locs : List Loc) (ls : Array Slot), q_S E (q_A E) s μ H locs → lv_has ls 6 [(0, .ref (E.2.2.2 137))] → Kx μ = some (r, μr) → W p l e ({ frames := 4, cells := 0, slots := 0, locals := 111 }) s m ([.ref (E.2.2.2 137), .int x1] : List Value).toArray below meth c H locs 0 0 (MQ below (q_Qv E r μr) ([.ref (E.2.2.2 137), .int x1] : List Value).toArray s 0 0 (q_A E)) (F0 m 201 ls [])) → ∀ (n : Nat), ∀ (v2 : Int32), ∀ (μ : q_M) (H : Heap) (locs : List Loc) (ls : Array Slot), q_S E (q_A E) s μ H locs → lv_has ls 6 [(0, .ref (E.2.2.2 137)), (1, .int x1), (2, .int v2)] → L_X10_rate_121 x1 Kx n v2 μ = some (r, μr) → W p l e ({ frames := 4, cells := 0, slots := 0, locals := 111 }) s m ([.ref (E.2.2.2 137), .int x1] : List Value).toArray below meth c H locs 0 0 (MQ below (q_Qv E r μr) ([.ref (E.2.2.2 137), .int x1] : List Value).toArray s 0 0 (q_A E)) (F0 m 121 ls []) := by
    intro Kx hKx n
    induction n with
    | zero => intro v2 μ H locs ls S hl h; exact absurd h (by simp [L_X10_rate_121])
    | succ n ih =>
      intro v2 μ H locs ls S hl h
      rw [L_X10_rate_121] at h
      refine lv_iload_n hx hb dX10_rate_121 rfl (lv_at hl 2 rfl) ?_
      refine lv_aload_n hx hb dX10_rate_122 rfl (lv_at hl 0 rfl) ?_
      refine q_getr (own := RX10) (C := RX10) (T := TX10) (N := 54) (ci := 10) (j := 15)  (b := 150) hx hb hts i10 hown F S q_k137 (by decide) rfl (by decide) (by decide) rfl (by decide) (hts (.fieldLink RX10 47 "HeavyRoutesModel" "cornerCounts" "[I") (by decide +kernel)) dX10_rate_123 ?_
      refine lv_iload_n hx hb dX10_rate_126 rfl (lv_at hl 1 rfl) ?_
      obtain ⟨g24, h⟩ := q_gd_some h
      refine q_iald hx hb F S q_k150 q_n150 g24 dX10_rate_127 ?_
      refine lv_icmp_ge (tgt := 201) hx hb dX10_rate_128 (by decide) (fun c25 => ?_) (fun c25 => ?_)
      · have h := q_ip c25 h
        exact hKx μ H locs ls S (lv_sub hl [0] rfl) h
      · have h := q_ig c25 h
        refine lv_iconst (v := 0) hx hb dX10_rate_131 (by decide) ?_
        refine lv_istore_n (lv' := [(3, .int 0), (0, .ref (E.2.2.2 137)), (1, .int x1), (2, .int v2)]) hx hb dX10_rate_132 rfl hl (by decide) rfl (fun ls hl => ?_)
        refine hL133 _ (fun v2 μ H locs ls S hl h => ?_) q_fu v2 0 μ H locs ls S (lv_sub hl [1, 2, 3, 0] rfl) h
        obtain ⟨y34, ey34⟩ : ∃ z : Int32, z = v2 + 1 := ⟨_, rfl⟩
        have h := q_le_e h ey34
        refine lv_iinc (v := y34) (lv' := [(2, .int y34), (0, .ref (E.2.2.2 137)), (1, .int x1)]) hx hb dX10_rate_195 hl (k := 2) rfl (by rw [ey34]; rfl) (by decide) rfl (fun ls hl => ?_)
        refine lv_goto (tgt := 121) hx hb dX10_rate_198 (by decide) ?_
        exact ih y34 μ H locs ls S (lv_sub hl [1, 2, 0] rfl) h
  unfold f_X10_rate at h
  obtain ⟨H, eH⟩ : ∃ z, z = s.heap := ⟨_, rfl⟩
  obtain ⟨locs, eL⟩ : ∃ z : List Loc, z = [] := ⟨_, rfl⟩
  rw [← eH, ← eL] at S
  suffices hh : W p l e ({ frames := 4, cells := 0, slots := 0, locals := 111 }) s m ([.ref (E.2.2.2 137), .int x1] : List Value).toArray below meth c H locs 0 0 (MQ below (q_Qv E r μr) ([.ref (E.2.2.2 137), .int x1] : List Value).toArray s 0 0 (q_A E)) (F0 m 0 ls []) by rw [eH, eL] at hh; exact hh
  refine lv_aload_n hx hb dX10_rate_0 rfl (lv_at hl 0 rfl) ?_
  refine lv_lconst (v := 1) hx hb dX10_rate_1 (by decide) ?_
  refine q_putl (own := RX10) (C := RX10) (T := TX10) (N := 54) (ci := 10) (j := 47)  hx hb hts i10 tyX10 tyX10_ok nmX10 hown F S q_k137 (by decide) rfl (by decide) (by decide) rfl (hts (.fieldLink RX10 165 "HeavyRoutesModel" "leastBelow" "J") (by decide +kernel)) rfl (by decide +kernel) dX10_rate_2 (fun H locs μ1 eμ1 S => ?_)
  have h := q_le_e h eμ1
  refine lv_aload_n hx hb dX10_rate_5 rfl (lv_at hl 0 rfl) ?_
  refine lv_lconst (v := 1) hx hb dX10_rate_6 (by decide) ?_
  refine q_putl (own := RX10) (C := RX10) (T := TX10) (N := 54) (ci := 10) (j := 48)  hx hb hts i10 tyX10 tyX10_ok nmX10 hown F S q_k137 (by decide) rfl (by decide) (by decide) rfl (hts (.fieldLink RX10 168 "HeavyRoutesModel" "leastStep" "J") (by decide +kernel)) rfl (by decide +kernel) dX10_rate_7 (fun H locs μ2 eμ2 S => ?_)
  have h := q_le_e h eμ2
  refine lv_iconst (v := 0) hx hb dX10_rate_10 (by decide) ?_
  refine lv_istore_n (lv' := [(2, .int 0), (0, .ref (E.2.2.2 137)), (1, .int x1)]) hx hb dX10_rate_11 rfl hl (by decide) rfl (fun ls hl => ?_)
  refine hL12 _ (fun μ H locs ls S hl h => ?_) q_fu 0 μ2 H locs ls S (lv_sub hl [1, 2, 0] rfl) h
  refine lv_aload_n hx hb dX10_rate_109 rfl (lv_at hl 0 rfl) ?_
  refine lv_lconst (v := 0) hx hb dX10_rate_110 (by decide) ?_
  refine q_putl (own := RX10) (C := RX10) (T := TX10) (N := 54) (ci := 10) (j := 41)  hx hb hts i10 tyX10 tyX10_ok nmX10 hown F S q_k137 (by decide) rfl (by decide) (by decide) rfl (hts (.fieldLink RX10 178 "HeavyRoutesModel" "topHigh" "J") (by decide +kernel)) rfl (by decide +kernel) dX10_rate_111 (fun H locs μ22 eμ22 S => ?_)
  have h := q_le_e h eμ22
  refine lv_aload_n hx hb dX10_rate_114 rfl (lv_at hl 0 rfl) ?_
  refine lv_lconst (v := 0) hx hb dX10_rate_115 (by decide) ?_
  refine q_putl (own := RX10) (C := RX10) (T := TX10) (N := 54) (ci := 10) (j := 42)  hx hb hts i10 tyX10 tyX10_ok nmX10 hown F S q_k137 (by decide) rfl (by decide) (by decide) rfl (hts (.fieldLink RX10 181 "HeavyRoutesModel" "topLow" "J") (by decide +kernel)) rfl (by decide +kernel) dX10_rate_116 (fun H locs μ23 eμ23 S => ?_)
  have h := q_le_e h eμ23
  refine lv_iconst (v := 0) hx hb dX10_rate_119 (by decide) ?_
  refine lv_istore_n (lv' := [(2, .int 0), (0, .ref (E.2.2.2 137)), (1, .int x1)]) hx hb dX10_rate_120 rfl hl (by decide) rfl (fun ls hl => ?_)
  refine hL121 _ (fun μ H locs ls S hl h => ?_) q_fu 0 μ23 H locs ls S (lv_sub hl [1, 2, 0] rfl) h
  refine lv_aload_n hx hb dX10_rate_201 rfl (lv_at hl 0 rfl) ?_
  refine lv_aload_n hx hb dX10_rate_202 rfl (lv_at hl 0 rfl) ?_
  refine q_getl (own := RX10) (C := RX10) (T := TX10) (N := 54) (ci := 10) (j := 47)  hx hb hts i10 hown F S q_k137 (by decide) rfl (by decide) (by decide) rfl (hts (.fieldLink RX10 165 "HeavyRoutesModel" "leastBelow" "J") (by decide +kernel)) dX10_rate_203 ?_
  refine lv_aload_n hx hb dX10_rate_206 rfl (lv_at hl 0 rfl) ?_
  refine q_getl (own := RX10) (C := RX10) (T := TX10) (N := 54) (ci := 10) (j := 48)  hx hb hts i10 hown F S q_k137 (by decide) rfl (by decide) (by decide) rfl (hts (.fieldLink RX10 168 "HeavyRoutesModel" "leastStep" "J") (by decide +kernel)) dX10_rate_207 ?_
  obtain ⟨u35, μ35, hc36, h⟩ := q_bd_some h
  refine q_kv F S (q_runV (As := [.long (μ.2 137 47), .long (μ.2 137 48)]) (rest := []) (b := 137) ⟨hx, hb, hml, hown, hts⟩ F S (c_X10_product l E hE (μ.2 137 47) (μ.2 137 48) μ μ35 u35 hc36) (cwV 2 hts gX10_rate_X10_product rfl rfl rfl (by decide +kernel) ⟨Nat.le_of_ble_eq_true rfl, Nat.le_of_ble_eq_true rfl⟩) q_k137 (by decide) rfl rfl hl.1 rfl (Nat.le_of_ble_eq_true rfl) dX10_rate_210 ⟨Nat.zero_le _, Nat.zero_le _⟩) (fun H locs S => ?_)
  refine lv_aload_n hx hb dX10_rate_213 rfl (lv_at hl 0 rfl) ?_
  refine lv_aload_n hx hb dX10_rate_214 rfl (lv_at hl 0 rfl) ?_
  refine q_getl (own := RX10) (C := RX10) (T := TX10) (N := 54) (ci := 10) (j := 49)  hx hb hts i10 hown F S q_k137 (by decide) rfl (by decide) (by decide) rfl (hts (.fieldLink RX10 152 "HeavyRoutesModel" "high" "J") (by decide +kernel)) dX10_rate_215 ?_
  refine q_putl (own := RX10) (C := RX10) (T := TX10) (N := 54) (ci := 10) (j := 43)  hx hb hts i10 tyX10 tyX10_ok nmX10 hown F S q_k137 (by decide) rfl (by decide) (by decide) rfl (hts (.fieldLink RX10 191 "HeavyRoutesModel" "underHigh" "J") (by decide +kernel)) rfl (by decide +kernel) dX10_rate_218 (fun H locs μ37 eμ37 S => ?_)
  have h := q_le_e h eμ37
  refine lv_aload_n hx hb dX10_rate_221 rfl (lv_at hl 0 rfl) ?_
  refine lv_aload_n hx hb dX10_rate_222 rfl (lv_at hl 0 rfl) ?_
  refine q_getl (own := RX10) (C := RX10) (T := TX10) (N := 54) (ci := 10) (j := 50)  hx hb hts i10 hown F S q_k137 (by decide) rfl (by decide) (by decide) rfl (hts (.fieldLink RX10 146 "HeavyRoutesModel" "low" "J") (by decide +kernel)) dX10_rate_223 ?_
  refine q_putl (own := RX10) (C := RX10) (T := TX10) (N := 54) (ci := 10) (j := 44)  hx hb hts i10 tyX10 tyX10_ok nmX10 hown F S q_k137 (by decide) rfl (by decide) (by decide) rfl (hts (.fieldLink RX10 194 "HeavyRoutesModel" "underLow" "J") (by decide +kernel)) rfl (by decide +kernel) dX10_rate_226 (fun H locs μ38 eμ38 S => ?_)
  have h := q_le_e h eμ38
  exact q_vret hx hb hr S h hlk dX10_rate_229
def f_X10_isAbove (x1 : Int32) (x2 : Int32) (μ : q_M) : Option (Int32 × q_M) := q_le (((μ.2 137 42) * x1.toInt64) : Int64) (fun y1 => q_le ((((μ.2 137 41) * x1.toInt64) + (y1 / 1000000000000000000)) : Int64) (fun y2 => q_le (((μ.2 137 44) * x2.toInt64) : Int64) (fun y3 => q_le ((((μ.2 137 43) * x2.toInt64) + (y3 / 1000000000000000000)) : Int64) (fun y4 => (if 0 < (lg_cmp y2 y4) then some (1, μ) else (if (lg_cmp y2 y4) = 0 then (if (lg_cmp (q_rl y1 1000000000000000000) (q_rl y3 1000000000000000000)) ≤ 0 then some (0, μ) else some (1, μ)) else some (0, μ)))))))
set_option maxHeartbeats 4000000 in
set_option maxRecDepth 100000 in
theorem c_X10_isAbove (l : Launch) (E : q_E) (hE : q_I E) (x1 : Int32) (x2 : Int32) (μ μr : q_M) (r : Int32) (h : f_X10_isAbove x1 x2 μ = some (r, μr)) : Met l yX10_isAbove wsX10_isAbove ({ frames := 0, cells := 0, slots := 0, locals := 0 }) (q_Pc E μ [.ref (E.2.2.2 137), .int x1, .int x2]) (q_Qi E r μr) 0 0 (q_A E) := by
  refine q_met (cc := cX10_isAbove) (maxL := 11) (ret := (some .boolean)) hE (by decide) rfl (Nat.le_of_ble_eq_true rfl) ?_
  intro p e s m below meth c hx hb hr hml hown hts hlk F S ls hl
  have hl : lv_has ls 11 [(0, .ref (E.2.2.2 137)), (1, .int x1), (2, .int x2)] := hl
  have i10 : ∀ w ∈ u_ws RX10 TX10 54, w ∈ wsX10_isAbove := by decide +kernel
  unfold f_X10_isAbove at h
  obtain ⟨H, eH⟩ : ∃ z, z = s.heap := ⟨_, rfl⟩
  obtain ⟨locs, eL⟩ : ∃ z : List Loc, z = [] := ⟨_, rfl⟩
  rw [← eH, ← eL] at S
  suffices hh : W p l e ({ frames := 0, cells := 0, slots := 0, locals := 0 }) s m ([.ref (E.2.2.2 137), .int x1, .int x2] : List Value).toArray below meth c H locs 0 0 (MQ below (q_Qi E r μr) ([.ref (E.2.2.2 137), .int x1, .int x2] : List Value).toArray s 0 0 (q_A E)) (F0 m 0 ls []) by rw [eH, eL] at hh; exact hh
  refine lv_aload_n hx hb dX10_isAbove_0 rfl (lv_at hl 0 rfl) ?_
  refine q_getl (own := RX10) (C := RX10) (T := TX10) (N := 54) (ci := 10) (j := 42)  hx hb hts i10 hown F S q_k137 (by decide) rfl (by decide) (by decide) rfl (hts (.fieldLink RX10 181 "HeavyRoutesModel" "topLow" "J") (by decide +kernel)) dX10_isAbove_1 ?_
  refine lv_iload_n hx hb dX10_isAbove_4 rfl (lv_at hl 1 rfl) ?_
  refine lv_i2l (v := x1.toInt64) hx hb dX10_isAbove_5 rfl ?_
  refine lv_lmul hx hb dX10_isAbove_6 ?_
  refine lv_topl (fun y1 ey1 => ?_)
  have h := q_le_e h ey1
  refine lv_lstore_n (lv' := [(3, .long y1), (0, .ref (E.2.2.2 137)), (1, .int x1), (2, .int x2)]) hx hb dX10_isAbove_7 rfl hl (by decide) rfl (fun ls hl => ?_)
  refine lv_aload_n hx hb dX10_isAbove_8 rfl (lv_at hl 1 rfl) ?_
  refine q_getl (own := RX10) (C := RX10) (T := TX10) (N := 54) (ci := 10) (j := 41)  hx hb hts i10 hown F S q_k137 (by decide) rfl (by decide) (by decide) rfl (hts (.fieldLink RX10 178 "HeavyRoutesModel" "topHigh" "J") (by decide +kernel)) dX10_isAbove_9 ?_
  refine lv_iload_n hx hb dX10_isAbove_12 rfl (lv_at hl 2 rfl) ?_
  refine lv_i2l (v := x1.toInt64) hx hb dX10_isAbove_13 rfl ?_
  refine lv_lmul hx hb dX10_isAbove_14 ?_
  refine lv_lload_n hx hb dX10_isAbove_15 rfl (lv_at hl 0 rfl) ?_
  refine lv_ldc2 (v := 1000000000000000000) hx hb hown (hts (.constantLong RX10 150 (1000000000000000000)) (by decide +kernel)) dX10_isAbove_16 ?_
  refine lv_ldiv hx hb dX10_isAbove_19 (by decide) ?_
  refine lv_ladd hx hb dX10_isAbove_20 ?_
  refine lv_topl (fun y2 ey2 => ?_)
  have h := q_le_e h ey2
  refine lv_lstore (lv' := [(5, .long y2), (3, .long y1), (0, .ref (E.2.2.2 137)), (1, .int x1), (2, .int x2)]) hx hb dX10_isAbove_21 hl (by decide) rfl (fun ls hl => ?_)
  refine lv_aload_n hx hb dX10_isAbove_23 rfl (lv_at hl 2 rfl) ?_
  refine q_getl (own := RX10) (C := RX10) (T := TX10) (N := 54) (ci := 10) (j := 44)  hx hb hts i10 hown F S q_k137 (by decide) rfl (by decide) (by decide) rfl (hts (.fieldLink RX10 194 "HeavyRoutesModel" "underLow" "J") (by decide +kernel)) dX10_isAbove_24 ?_
  refine lv_iload_n hx hb dX10_isAbove_27 rfl (lv_at hl 4 rfl) ?_
  refine lv_i2l (v := x2.toInt64) hx hb dX10_isAbove_28 rfl ?_
  refine lv_lmul hx hb dX10_isAbove_29 ?_
  refine lv_topl (fun y3 ey3 => ?_)
  have h := q_le_e h ey3
  refine lv_lstore (lv' := [(7, .long y3), (5, .long y2), (3, .long y1), (0, .ref (E.2.2.2 137)), (1, .int x1), (2, .int x2)]) hx hb dX10_isAbove_30 hl (by decide) rfl (fun ls hl => ?_)
  refine lv_aload_n hx hb dX10_isAbove_32 rfl (lv_at hl 3 rfl) ?_
  refine q_getl (own := RX10) (C := RX10) (T := TX10) (N := 54) (ci := 10) (j := 43)  hx hb hts i10 hown F S q_k137 (by decide) rfl (by decide) (by decide) rfl (hts (.fieldLink RX10 191 "HeavyRoutesModel" "underHigh" "J") (by decide +kernel)) dX10_isAbove_33 ?_
  refine lv_iload_n hx hb dX10_isAbove_36 rfl (lv_at hl 5 rfl) ?_
  refine lv_i2l (v := x2.toInt64) hx hb dX10_isAbove_37 rfl ?_
  refine lv_lmul hx hb dX10_isAbove_38 ?_
  refine lv_lload hx hb dX10_isAbove_39 (lv_at hl 0 rfl) ?_
  refine lv_ldc2 (v := 1000000000000000000) hx hb hown (hts (.constantLong RX10 150 (1000000000000000000)) (by decide +kernel)) dX10_isAbove_41 ?_
  refine lv_ldiv hx hb dX10_isAbove_44 (by decide) ?_
  refine lv_ladd hx hb dX10_isAbove_45 ?_
  refine lv_topl (fun y4 ey4 => ?_)
  have h := q_le_e h ey4
  refine lv_lstore (lv' := [(9, .long y4), (7, .long y3), (5, .long y2), (3, .long y1), (0, .ref (E.2.2.2 137)), (1, .int x1), (2, .int x2)]) hx hb dX10_isAbove_46 hl (by decide) rfl (fun ls hl => ?_)
  refine lv_lload hx hb dX10_isAbove_48 (lv_at hl 2 rfl) ?_
  refine lv_lload hx hb dX10_isAbove_50 (lv_at hl 0 rfl) ?_
  refine W.lcmp hx hb dX10_isAbove_52 ?_
  refine lv_if_gt (tgt := 79) hx hb dX10_isAbove_53 (by decide) (fun c5 => ?_) (fun c5 => ?_)
  · have h := q_ip c5 h
    refine lv_iconst (v := 1) hx hb dX10_isAbove_79 (by decide) ?_
    refine lv_goto (tgt := 84) hx hb dX10_isAbove_80 (by decide) ?_
    exact q_zret hx hb hr S (by decide) h hlk dX10_isAbove_84
  · have h := q_ig c5 h
    refine lv_lload hx hb dX10_isAbove_56 (lv_at hl 2 rfl) ?_
    refine lv_lload hx hb dX10_isAbove_58 (lv_at hl 0 rfl) ?_
    refine W.lcmp hx hb dX10_isAbove_60 ?_
    refine lv_if_ne (tgt := 83) hx hb dX10_isAbove_61 (by decide) (fun c6 => ?_) (fun c6 => ?_)
    · have h := q_ig c6 h
      refine lv_iconst (v := 0) hx hb dX10_isAbove_83 (by decide) ?_
      exact q_zret hx hb hr S (by decide) h hlk dX10_isAbove_84
    · have h := q_ip c6 h
      refine lv_lload_n hx hb dX10_isAbove_64 rfl (lv_at hl 3 rfl) ?_
      refine lv_ldc2 (v := 1000000000000000000) hx hb hown (hts (.constantLong RX10 150 (1000000000000000000)) (by decide +kernel)) dX10_isAbove_65 ?_
      refine lv_lrem hx hb dX10_isAbove_68 (by decide) ?_
      refine lv_lload hx hb dX10_isAbove_69 (lv_at hl 1 rfl) ?_
      refine lv_ldc2 (v := 1000000000000000000) hx hb hown (hts (.constantLong RX10 150 (1000000000000000000)) (by decide +kernel)) dX10_isAbove_71 ?_
      refine lv_lrem hx hb dX10_isAbove_74 (by decide) ?_
      refine W.lcmp hx hb dX10_isAbove_75 ?_
      refine lv_if_le (tgt := 83) hx hb dX10_isAbove_76 (by decide) (fun c7 => ?_) (fun c7 => ?_)
      · have h := q_ip c7 h
        refine lv_iconst (v := 0) hx hb dX10_isAbove_83 (by decide) ?_
        exact q_zret hx hb hr S (by decide) h hlk dX10_isAbove_84
      · have h := q_ig c7 h
        refine lv_iconst (v := 1) hx hb dX10_isAbove_79 (by decide) ?_
        refine lv_goto (tgt := 84) hx hb dX10_isAbove_80 (by decide) ?_
        exact q_zret hx hb hr S (by decide) h hlk dX10_isAbove_84
def f_X10_restOf (x0 : Int64) (x2 : Int64) (x4 : Int64) (μ : q_M) : Option (Int64 × q_M) := q_gd (decide (¬ (x4 = 0))) (q_le ((q_rl x0 x4) : Int64) (fun y2 => q_le ((q_rl ((y2 * 1000000000) + (x2 / 1000000000)) x4) : Int64) (fun y3 => some ((q_rl ((y3 * 1000000000) + (q_rl x2 1000000000)) x4), μ))))
set_option maxHeartbeats 4000000 in
set_option maxRecDepth 100000 in
theorem c_X10_restOf (l : Launch) (E : q_E) (hE : q_I E) (x0 : Int64) (x2 : Int64) (x4 : Int64) (μ μr : q_M) (r : Int64) (h : f_X10_restOf x0 x2 x4 μ = some (r, μr)) : Met l yX10_restOf wsX10_restOf ({ frames := 0, cells := 0, slots := 0, locals := 0 }) (q_Pc E μ [.long x0, .long x2, .long x4]) (q_Ql E r μr) 0 0 (q_A E) := by
  refine q_met (cc := cX10_restOf) (maxL := 8) (ret := (some .long)) hE (by decide) rfl (Nat.le_of_ble_eq_true rfl) ?_
  intro p e s m below meth c hx hb hr hml hown hts hlk F S ls hl
  have hl : lv_has ls 8 [(0, .long x0), (2, .long x2), (4, .long x4)] := hl
  unfold f_X10_restOf at h
  obtain ⟨H, eH⟩ : ∃ z, z = s.heap := ⟨_, rfl⟩
  obtain ⟨locs, eL⟩ : ∃ z : List Loc, z = [] := ⟨_, rfl⟩
  rw [← eH, ← eL] at S
  suffices hh : W p l e ({ frames := 0, cells := 0, slots := 0, locals := 0 }) s m ([.long x0, .long x2, .long x4] : List Value).toArray below meth c H locs 0 0 (MQ below (q_Ql E r μr) ([.long x0, .long x2, .long x4] : List Value).toArray s 0 0 (q_A E)) (F0 m 0 ls []) by rw [eH, eL] at hh; exact hh
  refine lv_lload_n hx hb dX10_restOf_0 rfl (lv_at hl 0 rfl) ?_
  refine lv_lload hx hb dX10_restOf_1 (lv_at hl 2 rfl) ?_
  obtain ⟨g1, h⟩ := q_gd_some h
  refine lv_lrem hx hb dX10_restOf_3 (of_decide_eq_true g1) ?_
  refine lv_topl (fun y2 ey2 => ?_)
  have h := q_le_e h ey2
  refine lv_lstore (lv' := [(6, .long y2), (0, .long x0), (2, .long x2), (4, .long x4)]) hx hb dX10_restOf_4 hl (by decide) rfl (fun ls hl => ?_)
  refine lv_lload hx hb dX10_restOf_6 (lv_at hl 0 rfl) ?_
  refine lv_ldc2 (v := 1000000000) hx hb hown (hts (.constantLong RX10 144 (1000000000)) (by decide +kernel)) dX10_restOf_8 ?_
  refine lv_lmul hx hb dX10_restOf_11 ?_
  refine lv_lload_n hx hb dX10_restOf_12 rfl (lv_at hl 2 rfl) ?_
  refine lv_ldc2 (v := 1000000000) hx hb hown (hts (.constantLong RX10 144 (1000000000)) (by decide +kernel)) dX10_restOf_13 ?_
  refine lv_ldiv hx hb dX10_restOf_16 (by decide) ?_
  refine lv_ladd hx hb dX10_restOf_17 ?_
  refine lv_lload hx hb dX10_restOf_18 (lv_at hl 3 rfl) ?_
  refine lv_lrem hx hb dX10_restOf_20 (of_decide_eq_true g1) ?_
  refine lv_topl (fun y3 ey3 => ?_)
  have h := q_le_e h ey3
  refine lv_lstore (lv' := [(6, .long y3), (0, .long x0), (2, .long x2), (4, .long x4)]) hx hb dX10_restOf_21 hl (by decide) rfl (fun ls hl => ?_)
  refine lv_lload hx hb dX10_restOf_23 (lv_at hl 0 rfl) ?_
  refine lv_ldc2 (v := 1000000000) hx hb hown (hts (.constantLong RX10 144 (1000000000)) (by decide +kernel)) dX10_restOf_25 ?_
  refine lv_lmul hx hb dX10_restOf_28 ?_
  refine lv_lload_n hx hb dX10_restOf_29 rfl (lv_at hl 2 rfl) ?_
  refine lv_ldc2 (v := 1000000000) hx hb hown (hts (.constantLong RX10 144 (1000000000)) (by decide +kernel)) dX10_restOf_30 ?_
  refine lv_lrem hx hb dX10_restOf_33 (by decide) ?_
  refine lv_ladd hx hb dX10_restOf_34 ?_
  refine lv_lload hx hb dX10_restOf_35 (lv_at hl 3 rfl) ?_
  refine lv_lrem hx hb dX10_restOf_37 (of_decide_eq_true g1) ?_
  exact q_lret hx hb hr S h hlk dX10_restOf_38
def f_X10_divide (x1 : Int64) (x3 : Int64) (x5 : Int64) (μ : q_M) : Option (Unit × q_M) := q_gd (decide (¬ (x5 = 0))) (q_le (q_sl μ 137 49 (x1 / x5)) (fun μ2 => q_le ((((q_rl x1 x5) * 1000000000) + (x3 / 1000000000)) : Int64) (fun y3 => q_le ((y3 / x5) : Int64) (fun y4 => q_le ((((q_rl y3 x5) * 1000000000) + (q_rl x3 1000000000)) : Int64) (fun y5 => q_le (q_sl μ2 137 50 ((y4 * 1000000000) + (y5 / x5))) (fun μ6 => some ((), μ6)))))))
set_option maxHeartbeats 4000000 in
set_option maxRecDepth 100000 in
theorem c_X10_divide (l : Launch) (E : q_E) (hE : q_I E) (x1 : Int64) (x3 : Int64) (x5 : Int64) (μ μr : q_M) (r : Unit) (h : f_X10_divide x1 x3 x5 μ = some (r, μr)) : Met l yX10_divide wsX10_divide ({ frames := 0, cells := 0, slots := 0, locals := 0 }) (q_Pc E μ [.ref (E.2.2.2 137), .long x1, .long x3, .long x5]) (q_Qv E r μr) 0 0 (q_A E) := by
  refine q_met (cc := cX10_divide) (maxL := 11) (ret := none) hE (by decide) rfl (Nat.le_of_ble_eq_true rfl) ?_
  intro p e s m below meth c hx hb hr hml hown hts hlk F S ls hl
  have hl : lv_has ls 11 [(0, .ref (E.2.2.2 137)), (1, .long x1), (3, .long x3), (5, .long x5)] := hl
  have i10 : ∀ w ∈ u_ws RX10 TX10 54, w ∈ wsX10_divide := by decide +kernel
  unfold f_X10_divide at h
  obtain ⟨H, eH⟩ : ∃ z, z = s.heap := ⟨_, rfl⟩
  obtain ⟨locs, eL⟩ : ∃ z : List Loc, z = [] := ⟨_, rfl⟩
  rw [← eH, ← eL] at S
  suffices hh : W p l e ({ frames := 0, cells := 0, slots := 0, locals := 0 }) s m ([.ref (E.2.2.2 137), .long x1, .long x3, .long x5] : List Value).toArray below meth c H locs 0 0 (MQ below (q_Qv E r μr) ([.ref (E.2.2.2 137), .long x1, .long x3, .long x5] : List Value).toArray s 0 0 (q_A E)) (F0 m 0 ls []) by rw [eH, eL] at hh; exact hh
  refine lv_aload_n hx hb dX10_divide_0 rfl (lv_at hl 0 rfl) ?_
  refine lv_lload_n hx hb dX10_divide_1 rfl (lv_at hl 1 rfl) ?_
  refine lv_lload hx hb dX10_divide_2 (lv_at hl 3 rfl) ?_
  obtain ⟨g1, h⟩ := q_gd_some h
  refine lv_ldiv hx hb dX10_divide_4 (of_decide_eq_true g1) ?_
  refine q_putl (own := RX10) (C := RX10) (T := TX10) (N := 54) (ci := 10) (j := 49)  hx hb hts i10 tyX10 tyX10_ok nmX10 hown F S q_k137 (by decide) rfl (by decide) (by decide) rfl (hts (.fieldLink RX10 152 "HeavyRoutesModel" "high" "J") (by decide +kernel)) rfl (by decide +kernel) dX10_divide_5 (fun H locs μ2 eμ2 S => ?_)
  have h := q_le_e h eμ2
  refine lv_lload_n hx hb dX10_divide_8 rfl (lv_at hl 1 rfl) ?_
  refine lv_lload hx hb dX10_divide_9 (lv_at hl 3 rfl) ?_
  refine lv_lrem hx hb dX10_divide_11 (of_decide_eq_true g1) ?_
  refine lv_ldc2 (v := 1000000000) hx hb hown (hts (.constantLong RX10 144 (1000000000)) (by decide +kernel)) dX10_divide_12 ?_
  refine lv_lmul hx hb dX10_divide_15 ?_
  refine lv_lload_n hx hb dX10_divide_16 rfl (lv_at hl 2 rfl) ?_
  refine lv_ldc2 (v := 1000000000) hx hb hown (hts (.constantLong RX10 144 (1000000000)) (by decide +kernel)) dX10_divide_17 ?_
  refine lv_ldiv hx hb dX10_divide_20 (by decide) ?_
  refine lv_ladd hx hb dX10_divide_21 ?_
  refine lv_topl (fun y3 ey3 => ?_)
  have h := q_le_e h ey3
  refine lv_lstore (lv' := [(7, .long y3), (0, .ref (E.2.2.2 137)), (1, .long x1), (3, .long x3), (5, .long x5)]) hx hb dX10_divide_22 hl (by decide) rfl (fun ls hl => ?_)
  refine lv_lload hx hb dX10_divide_24 (lv_at hl 0 rfl) ?_
  refine lv_lload hx hb dX10_divide_26 (lv_at hl 4 rfl) ?_
  refine lv_ldiv hx hb dX10_divide_28 (of_decide_eq_true g1) ?_
  refine lv_topl (fun y4 ey4 => ?_)
  have h := q_le_e h ey4
  refine lv_lstore (lv' := [(9, .long y4), (7, .long y3), (0, .ref (E.2.2.2 137)), (1, .long x1), (3, .long x3), (5, .long x5)]) hx hb dX10_divide_29 hl (by decide) rfl (fun ls hl => ?_)
  refine lv_lload hx hb dX10_divide_31 (lv_at hl 1 rfl) ?_
  refine lv_lload hx hb dX10_divide_33 (lv_at hl 5 rfl) ?_
  refine lv_lrem hx hb dX10_divide_35 (of_decide_eq_true g1) ?_
  refine lv_ldc2 (v := 1000000000) hx hb hown (hts (.constantLong RX10 144 (1000000000)) (by decide +kernel)) dX10_divide_36 ?_
  refine lv_lmul hx hb dX10_divide_39 ?_
  refine lv_lload_n hx hb dX10_divide_40 rfl (lv_at hl 4 rfl) ?_
  refine lv_ldc2 (v := 1000000000) hx hb hown (hts (.constantLong RX10 144 (1000000000)) (by decide +kernel)) dX10_divide_41 ?_
  refine lv_lrem hx hb dX10_divide_44 (by decide) ?_
  refine lv_ladd hx hb dX10_divide_45 ?_
  refine lv_topl (fun y5 ey5 => ?_)
  have h := q_le_e h ey5
  refine lv_lstore (lv' := [(7, .long y5), (9, .long y4), (0, .ref (E.2.2.2 137)), (1, .long x1), (3, .long x3), (5, .long x5)]) hx hb dX10_divide_46 hl (by decide) rfl (fun ls hl => ?_)
  refine lv_aload_n hx hb dX10_divide_48 rfl (lv_at hl 2 rfl) ?_
  refine lv_lload hx hb dX10_divide_49 (lv_at hl 1 rfl) ?_
  refine lv_ldc2 (v := 1000000000) hx hb hown (hts (.constantLong RX10 144 (1000000000)) (by decide +kernel)) dX10_divide_51 ?_
  refine lv_lmul hx hb dX10_divide_54 ?_
  refine lv_lload hx hb dX10_divide_55 (lv_at hl 0 rfl) ?_
  refine lv_lload hx hb dX10_divide_57 (lv_at hl 5 rfl) ?_
  refine lv_ldiv hx hb dX10_divide_59 (of_decide_eq_true g1) ?_
  refine lv_ladd hx hb dX10_divide_60 ?_
  refine q_putl (own := RX10) (C := RX10) (T := TX10) (N := 54) (ci := 10) (j := 50)  hx hb hts i10 tyX10 tyX10_ok nmX10 hown F S q_k137 (by decide) rfl (by decide) (by decide) rfl (hts (.fieldLink RX10 146 "HeavyRoutesModel" "low" "J") (by decide +kernel)) rfl (by decide +kernel) dX10_divide_61 (fun H locs μ6 eμ6 S => ?_)
  have h := q_le_e h eμ6
  exact q_vret hx hb hr S h hlk dX10_divide_64
