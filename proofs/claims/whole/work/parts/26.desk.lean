def f_X9_node (μ : q_M) : Option (Int32 × q_M) := (if (μ.1 1 0) < 7 then q_le (q_si μ 1 0 ((μ.1 1 0) + 1)) (fun μ2 => some ((μ.1 1 0), μ2)) else some ((-1), μ))
set_option maxHeartbeats 4000000 in
set_option maxRecDepth 100000 in
theorem c_X9_node (l : Launch) (E : q_E) (hE : q_I E) (μ μr : q_M) (r : Int32) (h : f_X9_node μ = some (r, μr)) : Met l yX9_node wsX9_node ({ frames := 0, cells := 0, slots := 0, locals := 0 }) (q_Pc E μ [.ref (E.2.2.2 0)]) (q_Qi E r μr) 0 0 (q_A E) := by
  refine q_met (cc := cX9_node) (maxL := 1) (ret := (some .int)) hE (by decide) rfl (Nat.le_of_ble_eq_true rfl) ?_
  intro p e s m below meth c hx hb hr hml hown hts hlk F S ls hl
  have hl : lv_has ls 1 [(0, .ref (E.2.2.2 0))] := hl
  have i3 : ∀ w ∈ u_ws RX3 TX3 7, w ∈ wsX9_node := by decide +kernel
  have i9 : ∀ w ∈ u_ws RX9 TX9 4, w ∈ wsX9_node := by decide +kernel
  unfold f_X9_node at h
  obtain ⟨H, eH⟩ : ∃ z, z = s.heap := ⟨_, rfl⟩
  obtain ⟨locs, eL⟩ : ∃ z : List Loc, z = [] := ⟨_, rfl⟩
  rw [← eH, ← eL] at S
  suffices hh : W p l e ({ frames := 0, cells := 0, slots := 0, locals := 0 }) s m ([.ref (E.2.2.2 0)] : List Value).toArray below meth c H locs 0 0 (MQ below (q_Qi E r μr) ([.ref (E.2.2.2 0)] : List Value).toArray s 0 0 (q_A E)) (F0 m 0 ls []) by rw [eH, eL] at hh; exact hh
  refine lv_aload_n hx hb dX9_node_0 rfl (lv_at hl 0 rfl) ?_
  refine q_getr (own := RX9) (C := RX9) (T := TX9) (N := 4) (ci := 9) (j := 0)  (b := 1) hx hb hts i9 hown F S q_k0 (by decide) rfl (by decide) (by decide) rfl (by decide) (hts (.fieldLink RX9 12 "HeavyRoutes" "net" "LHeavyRoutes$Net;") (by decide +kernel)) dX9_node_1 ?_
  refine q_getiN (own := RX9) (C := RX3) (T := TX3) (N := 7) (ci := 3) (j := 0) (host := "HeavyRoutes") hx hb hts i3 hown F S q_k1 (by decide) rfl (by decide) (by decide) rfl (by decide +kernel) dX9_node_4 ?_
  refine lv_bipush (v := 7) hx hb dX9_node_7 (by decide) ?_
  refine lv_icmp_lt (tgt := 14) hx hb dX9_node_9 (by decide) (fun c1 => ?_) (fun c1 => ?_)
  · have h := q_ip c1 h
    refine lv_aload_n hx hb dX9_node_14 rfl (lv_at hl 0 rfl) ?_
    refine q_getr (own := RX9) (C := RX9) (T := TX9) (N := 4) (ci := 9) (j := 0)  (b := 1) hx hb hts i9 hown F S q_k0 (by decide) rfl (by decide) (by decide) rfl (by decide) (hts (.fieldLink RX9 12 "HeavyRoutes" "net" "LHeavyRoutes$Net;") (by decide +kernel)) dX9_node_15 ?_
    refine lv_dup hx hb dX9_node_18 rfl ?_
    refine q_getiN (own := RX9) (C := RX3) (T := TX3) (N := 7) (ci := 3) (j := 0) (host := "HeavyRoutes") hx hb hts i3 hown F S q_k1 (by decide) rfl (by decide) (by decide) rfl (by decide +kernel) dX9_node_19 ?_
    refine lv_dup_x1 hx hb dX9_node_22 rfl rfl ?_
    refine lv_iconst (v := 1) hx hb dX9_node_23 (by decide) ?_
    refine lv_iadd hx hb dX9_node_24 ?_
    refine q_putiN (own := RX9) (C := RX3) (T := TX3) (N := 7) (ci := 3) (j := 0) (host := "HeavyRoutes") hx hb hts i3 tyX3 tyX3_ok nmX3 hown F S q_k1 (by decide) rfl (by decide) (by decide) rfl (by decide +kernel) rfl (by decide +kernel) dX9_node_25 (fun H locs μ2 eμ2 S => ?_)
    have h := q_le_e h eμ2
    exact q_iret hx hb hr S h hlk dX9_node_28
  · have h := q_ig c1 h
    refine lv_iconst (v := (-1)) hx hb dX9_node_12 (by decide) ?_
    exact q_iret hx hb hr S h hlk dX9_node_13
def f_X9_road (x1 : Int32) (x2 : Int32) (x3 : Int32) (x4 : Int32) (x5 : Int32) (μ : q_M) : Option (Int32 × q_M) := (if 12 ≤ (μ.1 1 1) then some ((-1), μ) else q_bd (f_X3_hasNode x1 μ) (fun r4 μ2 => (if r4 = 0 then some ((-1), μ2) else q_bd (f_X3_hasNode x2 μ2) (fun r8 μ6 => (if r8 = 0 then some ((-1), μ6) else (if x1 = x2 then some ((-1), μ6) else q_bd (f_X9_isWithin x3.toInt64 1 600 μ6) (fun r13 μ11 => (if r13 = 0 then some ((-1), μ11) else q_bd (f_X9_isSize x4 μ11) (fun r17 μ15 => (if r17 = 0 then some ((-1), μ15) else q_bd (f_X9_isSize x5 μ15) (fun r21 μ19 => (if r21 = 0 then some ((-1), μ19) else q_bd (f_X1_forget  μ19) (fun u23 μ23 => q_gd (q_ix (μ23.1 1 1) 12) (q_bd (f_X6_lay (14 + (μ23.1 1 1).toNatClampNeg) x1 x2 x3 x4 x5 μ23) (fun u26 μ26 => q_le (q_si μ26 1 1 ((μ26.1 1 1) + 1)) (fun μ28 => some ((μ26.1 1 1), μ28)))))))))))))))))
set_option maxHeartbeats 4000000 in
set_option maxRecDepth 100000 in
theorem c_X9_road (l : Launch) (E : q_E) (hE : q_I E) (x1 : Int32) (x2 : Int32) (x3 : Int32) (x4 : Int32) (x5 : Int32) (μ μr : q_M) (r : Int32) (h : f_X9_road x1 x2 x3 x4 x5 μ = some (r, μr)) : Met l yX9_road wsX9_road ({ frames := 2, cells := 0, slots := 0, locals := 45 }) (q_Pc E μ [.ref (E.2.2.2 0), .int x1, .int x2, .int x3, .int x4, .int x5]) (q_Qi E r μr) 0 0 (q_A E) := by
  refine q_met (cc := cX9_road) (maxL := 6) (ret := (some .int)) hE (by decide) rfl (Nat.le_of_ble_eq_true rfl) ?_
  intro p e s m below meth c hx hb hr hml hown hts hlk F S ls hl
  have hl : lv_has ls 6 [(0, .ref (E.2.2.2 0)), (1, .int x1), (2, .int x2), (3, .int x3), (4, .int x4), (5, .int x5)] := hl
  have i3 : ∀ w ∈ u_ws RX3 TX3 7, w ∈ wsX9_road := by decide +kernel
  have i9 : ∀ w ∈ u_ws RX9 TX9 4, w ∈ wsX9_road := by decide +kernel
  unfold f_X9_road at h
  obtain ⟨H, eH⟩ : ∃ z, z = s.heap := ⟨_, rfl⟩
  obtain ⟨locs, eL⟩ : ∃ z : List Loc, z = [] := ⟨_, rfl⟩
  rw [← eH, ← eL] at S
  suffices hh : W p l e ({ frames := 2, cells := 0, slots := 0, locals := 45 }) s m ([.ref (E.2.2.2 0), .int x1, .int x2, .int x3, .int x4, .int x5] : List Value).toArray below meth c H locs 0 0 (MQ below (q_Qi E r μr) ([.ref (E.2.2.2 0), .int x1, .int x2, .int x3, .int x4, .int x5] : List Value).toArray s 0 0 (q_A E)) (F0 m 0 ls []) by rw [eH, eL] at hh; exact hh
  refine lv_aload_n hx hb dX9_road_0 rfl (lv_at hl 0 rfl) ?_
  refine q_getr (own := RX9) (C := RX9) (T := TX9) (N := 4) (ci := 9) (j := 0)  (b := 1) hx hb hts i9 hown F S q_k0 (by decide) rfl (by decide) (by decide) rfl (by decide) (hts (.fieldLink RX9 12 "HeavyRoutes" "net" "LHeavyRoutes$Net;") (by decide +kernel)) dX9_road_1 ?_
  refine q_getiN (own := RX9) (C := RX3) (T := TX3) (N := 7) (ci := 3) (j := 1) (host := "HeavyRoutes") hx hb hts i3 hown F S q_k1 (by decide) rfl (by decide) (by decide) rfl (by decide +kernel) dX9_road_4 ?_
  refine lv_bipush (v := 12) hx hb dX9_road_7 (by decide) ?_
  refine lv_icmp_ge (tgt := 39) hx hb dX9_road_9 (by decide) (fun c1 => ?_) (fun c1 => ?_)
  · have h := q_ip c1 h
    refine lv_iconst (v := (-1)) hx hb dX9_road_39 (by decide) ?_
    exact q_iret hx hb hr S h hlk dX9_road_40
  · have h := q_ig c1 h
    refine lv_aload_n hx hb dX9_road_12 rfl (lv_at hl 0 rfl) ?_
    refine q_getr (own := RX9) (C := RX9) (T := TX9) (N := 4) (ci := 9) (j := 0)  (b := 1) hx hb hts i9 hown F S q_k0 (by decide) rfl (by decide) (by decide) rfl (by decide) (hts (.fieldLink RX9 12 "HeavyRoutes" "net" "LHeavyRoutes$Net;") (by decide +kernel)) dX9_road_13 ?_
    refine lv_iload_n hx hb dX9_road_16 rfl (lv_at hl 1 rfl) ?_
    obtain ⟨r4, μ2, hc3, h⟩ := q_bd_some h
    refine q_ki F S (q_runV (As := [.int x1]) (rest := []) (b := 1) ⟨hx, hb, hml, hown, hts⟩ F S (c_X3_hasNode l E hE x1 μ μ2 r4 hc3) (cwV 1 hts gX9_road_X3_hasNode rfl rfl rfl (by decide +kernel) ⟨Nat.le_of_ble_eq_true rfl, Nat.le_of_ble_eq_true rfl⟩) q_k1 (by decide) rfl rfl hl.1 rfl (Nat.le_of_ble_eq_true rfl) dX9_road_17 ⟨Nat.zero_le _, Nat.zero_le _⟩) (fun H locs S => ?_)
    refine lv_if_eq (tgt := 39) hx hb dX9_road_20 (by decide) (fun c5 => ?_) (fun c5 => ?_)
    · have h := q_ip c5 h
      refine lv_iconst (v := (-1)) hx hb dX9_road_39 (by decide) ?_
      exact q_iret hx hb hr S h hlk dX9_road_40
    · have h := q_ig c5 h
      refine lv_aload_n hx hb dX9_road_23 rfl (lv_at hl 0 rfl) ?_
      refine q_getr (own := RX9) (C := RX9) (T := TX9) (N := 4) (ci := 9) (j := 0)  (b := 1) hx hb hts i9 hown F S q_k0 (by decide) rfl (by decide) (by decide) rfl (by decide) (hts (.fieldLink RX9 12 "HeavyRoutes" "net" "LHeavyRoutes$Net;") (by decide +kernel)) dX9_road_24 ?_
      refine lv_iload_n hx hb dX9_road_27 rfl (lv_at hl 2 rfl) ?_
      obtain ⟨r8, μ6, hc7, h⟩ := q_bd_some h
      refine q_ki F S (q_runV (As := [.int x2]) (rest := []) (b := 1) ⟨hx, hb, hml, hown, hts⟩ F S (c_X3_hasNode l E hE x2 μ2 μ6 r8 hc7) (cwV 1 hts gX9_road_X3_hasNode rfl rfl rfl (by decide +kernel) ⟨Nat.le_of_ble_eq_true rfl, Nat.le_of_ble_eq_true rfl⟩) q_k1 (by decide) rfl rfl hl.1 rfl (Nat.le_of_ble_eq_true rfl) dX9_road_28 ⟨Nat.zero_le _, Nat.zero_le _⟩) (fun H locs S => ?_)
      refine lv_if_eq (tgt := 39) hx hb dX9_road_31 (by decide) (fun c9 => ?_) (fun c9 => ?_)
      · have h := q_ip c9 h
        refine lv_iconst (v := (-1)) hx hb dX9_road_39 (by decide) ?_
        exact q_iret hx hb hr S h hlk dX9_road_40
      · have h := q_ig c9 h
        refine lv_iload_n hx hb dX9_road_34 rfl (lv_at hl 1 rfl) ?_
        refine lv_iload_n hx hb dX9_road_35 rfl (lv_at hl 2 rfl) ?_
        refine lv_icmp_ne (tgt := 41) hx hb dX9_road_36 (by decide) (fun c10 => ?_) (fun c10 => ?_)
        · have h := q_ig c10 h
          refine lv_iload_n hx hb dX9_road_41 rfl (lv_at hl 3 rfl) ?_
          refine lv_i2l (v := x3.toInt64) hx hb dX9_road_42 rfl ?_
          refine lv_lconst (v := 1) hx hb dX9_road_43 (by decide) ?_
          refine lv_ldc2 (v := 600) hx hb hown (hts (.constantLong RX9 40 (600)) (by decide +kernel)) dX9_road_44 ?_
          obtain ⟨r13, μ11, hc12, h⟩ := q_bd_some h
          refine q_ki F S (q_runS (As := [.long x3.toInt64, .long 1, .long 600]) (rest := []) ⟨hx, hb, hml, hown, hts⟩ F S (c_X9_isWithin l E hE x3.toInt64 1 600 μ6 μ11 r13 hc12) (va_cwS 3 hts gX9_road_X9_isWithin rfl rfl rfl (by decide +kernel) ⟨Nat.le_of_ble_eq_true rfl, Nat.le_of_ble_eq_true rfl⟩) rfl hl.1 rfl (Nat.le_of_ble_eq_true rfl) dX9_road_47 ⟨Nat.zero_le _, Nat.zero_le _⟩) (fun H locs S => ?_)
          refine lv_if_eq (tgt := 69) hx hb dX9_road_50 (by decide) (fun c14 => ?_) (fun c14 => ?_)
          · have h := q_ip c14 h
            refine lv_iconst (v := (-1)) hx hb dX9_road_69 (by decide) ?_
            exact q_iret hx hb hr S h hlk dX9_road_70
          · have h := q_ig c14 h
            refine lv_iload hx hb dX9_road_53 (lv_at hl 4 rfl) ?_
            obtain ⟨r17, μ15, hc16, h⟩ := q_bd_some h
            refine q_ki F S (q_runS (As := [.int x4]) (rest := []) ⟨hx, hb, hml, hown, hts⟩ F S (c_X9_isSize l E hE x4 μ11 μ15 r17 hc16) (va_cwS 1 hts gX9_road_X9_isSize rfl rfl rfl (by decide +kernel) ⟨Nat.le_of_ble_eq_true rfl, Nat.le_of_ble_eq_true rfl⟩) rfl hl.1 rfl (Nat.le_of_ble_eq_true rfl) dX9_road_55 ⟨Nat.zero_le _, Nat.zero_le _⟩) (fun H locs S => ?_)
            refine lv_if_eq (tgt := 69) hx hb dX9_road_58 (by decide) (fun c18 => ?_) (fun c18 => ?_)
            · have h := q_ip c18 h
              refine lv_iconst (v := (-1)) hx hb dX9_road_69 (by decide) ?_
              exact q_iret hx hb hr S h hlk dX9_road_70
            · have h := q_ig c18 h
              refine lv_iload hx hb dX9_road_61 (lv_at hl 5 rfl) ?_
              obtain ⟨r21, μ19, hc20, h⟩ := q_bd_some h
              refine q_ki F S (q_runS (As := [.int x5]) (rest := []) ⟨hx, hb, hml, hown, hts⟩ F S (c_X9_isSize l E hE x5 μ15 μ19 r21 hc20) (va_cwS 1 hts gX9_road_X9_isSize rfl rfl rfl (by decide +kernel) ⟨Nat.le_of_ble_eq_true rfl, Nat.le_of_ble_eq_true rfl⟩) rfl hl.1 rfl (Nat.le_of_ble_eq_true rfl) dX9_road_63 ⟨Nat.zero_le _, Nat.zero_le _⟩) (fun H locs S => ?_)
              refine lv_if_ne (tgt := 71) hx hb dX9_road_66 (by decide) (fun c22 => ?_) (fun c22 => ?_)
              · have h := q_ig c22 h
                refine lv_aload_n hx hb dX9_road_71 rfl (lv_at hl 0 rfl) ?_
                refine q_getr (own := RX9) (C := RX9) (T := TX9) (N := 4) (ci := 9) (j := 1)  (b := 2) hx hb hts i9 hown F S q_k0 (by decide) rfl (by decide) (by decide) rfl (by decide) (hts (.fieldLink RX9 21 "HeavyRoutes" "finder" "LHeavyRoutes$Finder;") (by decide +kernel)) dX9_road_72 ?_
                obtain ⟨u23, μ23, hc24, h⟩ := q_bd_some h
                refine q_kv F S (q_runV (As := []) (rest := []) (b := 2) ⟨hx, hb, hml, hown, hts⟩ F S (c_X1_forget l E hE  μ19 μ23 u23 hc24) (cwV 0 hts gX9_road_X1_forget rfl rfl rfl (by decide +kernel) ⟨Nat.le_of_ble_eq_true rfl, Nat.le_of_ble_eq_true rfl⟩) q_k2 (by decide) rfl rfl hl.1 rfl (Nat.le_of_ble_eq_true rfl) dX9_road_75 ⟨Nat.zero_le _, Nat.zero_le _⟩) (fun H locs S => ?_)
                refine lv_aload_n hx hb dX9_road_78 rfl (lv_at hl 0 rfl) ?_
                refine q_getr (own := RX9) (C := RX9) (T := TX9) (N := 4) (ci := 9) (j := 0)  (b := 1) hx hb hts i9 hown F S q_k0 (by decide) rfl (by decide) (by decide) rfl (by decide) (hts (.fieldLink RX9 12 "HeavyRoutes" "net" "LHeavyRoutes$Net;") (by decide +kernel)) dX9_road_79 ?_
                refine q_getrN (own := RX9) (C := RX3) (T := TX3) (N := 7) (ci := 3) (j := 3) (host := "HeavyRoutes") (b := 6) hx hb hts i3 hown F S q_k1 (by decide) rfl (by decide) (by decide) rfl (by decide) (by decide +kernel) dX9_road_82 ?_
                refine lv_aload_n hx hb dX9_road_85 rfl (lv_at hl 0 rfl) ?_
                refine q_getr (own := RX9) (C := RX9) (T := TX9) (N := 4) (ci := 9) (j := 0)  (b := 1) hx hb hts i9 hown F S q_k0 (by decide) rfl (by decide) (by decide) rfl (by decide) (hts (.fieldLink RX9 12 "HeavyRoutes" "net" "LHeavyRoutes$Net;") (by decide +kernel)) dX9_road_86 ?_
                refine q_getiN (own := RX9) (C := RX3) (T := TX3) (N := 7) (ci := 3) (j := 1) (host := "HeavyRoutes") hx hb hts i3 hown F S q_k1 (by decide) rfl (by decide) (by decide) rfl (by decide +kernel) dX9_road_89 ?_
                obtain ⟨g25, h⟩ := q_gd_some h
                refine q_rald (t := 0) hx hb F S q_k6 (by decide) rfl q_n6 (q_pe14 (μ23.1 1 1).toNatClampNeg) g25 dX9_road_92 ?_
                refine lv_iload_n hx hb dX9_road_93 rfl (lv_at hl 1 rfl) ?_
                refine lv_iload_n hx hb dX9_road_94 rfl (lv_at hl 2 rfl) ?_
                refine lv_iload_n hx hb dX9_road_95 rfl (lv_at hl 3 rfl) ?_
                refine lv_iload hx hb dX9_road_96 (lv_at hl 4 rfl) ?_
                refine lv_iload hx hb dX9_road_98 (lv_at hl 5 rfl) ?_
                obtain ⟨u26, μ26, hc27, h⟩ := q_bd_some h
                refine q_kv F S (q_runV (As := [.int x1, .int x2, .int x3, .int x4, .int x5]) (rest := []) (b := (14 + (μ23.1 1 1).toNatClampNeg)) ⟨hx, hb, hml, hown, hts⟩ F S (c_X6_lay l E hE (14 + (μ23.1 1 1).toNatClampNeg) x1 x2 x3 x4 x5 (q_e14 g25) μ23 μ26 u26 hc27) (cwV 5 hts gX9_road_X6_lay rfl rfl rfl (by decide +kernel) ⟨Nat.le_of_ble_eq_true rfl, Nat.le_of_ble_eq_true rfl⟩) (q_e14 g25) (by decide) rfl rfl hl.1 rfl (Nat.le_of_ble_eq_true rfl) dX9_road_100 ⟨Nat.zero_le _, Nat.zero_le _⟩) (fun H locs S => ?_)
                refine lv_aload_n hx hb dX9_road_103 rfl (lv_at hl 0 rfl) ?_
                refine q_getr (own := RX9) (C := RX9) (T := TX9) (N := 4) (ci := 9) (j := 0)  (b := 1) hx hb hts i9 hown F S q_k0 (by decide) rfl (by decide) (by decide) rfl (by decide) (hts (.fieldLink RX9 12 "HeavyRoutes" "net" "LHeavyRoutes$Net;") (by decide +kernel)) dX9_road_104 ?_
                refine lv_dup hx hb dX9_road_107 rfl ?_
                refine q_getiN (own := RX9) (C := RX3) (T := TX3) (N := 7) (ci := 3) (j := 1) (host := "HeavyRoutes") hx hb hts i3 hown F S q_k1 (by decide) rfl (by decide) (by decide) rfl (by decide +kernel) dX9_road_108 ?_
                refine lv_dup_x1 hx hb dX9_road_111 rfl rfl ?_
                refine lv_iconst (v := 1) hx hb dX9_road_112 (by decide) ?_
                refine lv_iadd hx hb dX9_road_113 ?_
                refine q_putiN (own := RX9) (C := RX3) (T := TX3) (N := 7) (ci := 3) (j := 1) (host := "HeavyRoutes") hx hb hts i3 tyX3 tyX3_ok nmX3 hown F S q_k1 (by decide) rfl (by decide) (by decide) rfl (by decide +kernel) rfl (by decide +kernel) dX9_road_114 (fun H locs μ28 eμ28 S => ?_)
                have h := q_le_e h eμ28
                exact q_iret hx hb hr S h hlk dX9_road_117
              · have h := q_ip c22 h
                refine lv_iconst (v := (-1)) hx hb dX9_road_69 (by decide) ?_
                exact q_iret hx hb hr S h hlk dX9_road_70
        · have h := q_ip c10 h
          refine lv_iconst (v := (-1)) hx hb dX9_road_39 (by decide) ?_
          exact q_iret hx hb hr S h hlk dX9_road_40
def f_X9_bridge (x1 : Int32) (μ : q_M) : Option (Int32 × q_M) := q_bd (f_X3_hasRoad x1 μ) (fun r3 μ1 => (if r3 = 0 then some ((-1), μ1) else (if 6 ≤ (μ1.1 1 2) then some ((-1), μ1) else q_gd (q_ix x1 12) ((if (μ1.1 (14 + x1.toNatClampNeg) 6) = (-1) then q_bd (f_X1_forget  μ1) (fun u8 μ8 => q_le (q_si μ8 (14 + x1.toNatClampNeg) 6 (μ8.1 1 2)) (fun μ10 => q_le (q_si μ10 1 2 ((μ10.1 1 2) + 1)) (fun μ11 => some ((μ10.1 1 2), μ11)))) else some ((-1), μ1))))))
set_option maxHeartbeats 4000000 in
set_option maxRecDepth 100000 in
theorem c_X9_bridge (l : Launch) (E : q_E) (hE : q_I E) (x1 : Int32) (μ μr : q_M) (r : Int32) (h : f_X9_bridge x1 μ = some (r, μr)) : Met l yX9_bridge wsX9_bridge ({ frames := 1, cells := 0, slots := 0, locals := 21 }) (q_Pc E μ [.ref (E.2.2.2 0), .int x1]) (q_Qi E r μr) 0 0 (q_A E) := by
  refine q_met (cc := cX9_bridge) (maxL := 2) (ret := (some .int)) hE (by decide) rfl (Nat.le_of_ble_eq_true rfl) ?_
  intro p e s m below meth c hx hb hr hml hown hts hlk F S ls hl
  have hl : lv_has ls 2 [(0, .ref (E.2.2.2 0)), (1, .int x1)] := hl
  have i3 : ∀ w ∈ u_ws RX3 TX3 7, w ∈ wsX9_bridge := by decide +kernel
  have i6 : ∀ w ∈ u_ws RX6 TX6 11, w ∈ wsX9_bridge := by decide +kernel
  have i9 : ∀ w ∈ u_ws RX9 TX9 4, w ∈ wsX9_bridge := by decide +kernel
  unfold f_X9_bridge at h
  obtain ⟨H, eH⟩ : ∃ z, z = s.heap := ⟨_, rfl⟩
  obtain ⟨locs, eL⟩ : ∃ z : List Loc, z = [] := ⟨_, rfl⟩
  rw [← eH, ← eL] at S
  suffices hh : W p l e ({ frames := 1, cells := 0, slots := 0, locals := 21 }) s m ([.ref (E.2.2.2 0), .int x1] : List Value).toArray below meth c H locs 0 0 (MQ below (q_Qi E r μr) ([.ref (E.2.2.2 0), .int x1] : List Value).toArray s 0 0 (q_A E)) (F0 m 0 ls []) by rw [eH, eL] at hh; exact hh
  refine lv_aload_n hx hb dX9_bridge_0 rfl (lv_at hl 0 rfl) ?_
  refine q_getr (own := RX9) (C := RX9) (T := TX9) (N := 4) (ci := 9) (j := 0)  (b := 1) hx hb hts i9 hown F S q_k0 (by decide) rfl (by decide) (by decide) rfl (by decide) (hts (.fieldLink RX9 12 "HeavyRoutes" "net" "LHeavyRoutes$Net;") (by decide +kernel)) dX9_bridge_1 ?_
  refine lv_iload_n hx hb dX9_bridge_4 rfl (lv_at hl 1 rfl) ?_
  obtain ⟨r3, μ1, hc2, h⟩ := q_bd_some h
  refine q_ki F S (q_runV (As := [.int x1]) (rest := []) (b := 1) ⟨hx, hb, hml, hown, hts⟩ F S (c_X3_hasRoad l E hE x1 μ μ1 r3 hc2) (cwV 1 hts gX9_bridge_X3_hasRoad rfl rfl rfl (by decide +kernel) ⟨Nat.le_of_ble_eq_true rfl, Nat.le_of_ble_eq_true rfl⟩) q_k1 (by decide) rfl rfl hl.1 rfl (Nat.le_of_ble_eq_true rfl) dX9_bridge_5 ⟨Nat.zero_le _, Nat.zero_le _⟩) (fun H locs S => ?_)
  refine lv_if_eq (tgt := 39) hx hb dX9_bridge_8 (by decide) (fun c4 => ?_) (fun c4 => ?_)
  · have h := q_ip c4 h
    refine lv_iconst (v := (-1)) hx hb dX9_bridge_39 (by decide) ?_
    exact q_iret hx hb hr S h hlk dX9_bridge_40
  · have h := q_ig c4 h
    refine lv_aload_n hx hb dX9_bridge_11 rfl (lv_at hl 0 rfl) ?_
    refine q_getr (own := RX9) (C := RX9) (T := TX9) (N := 4) (ci := 9) (j := 0)  (b := 1) hx hb hts i9 hown F S q_k0 (by decide) rfl (by decide) (by decide) rfl (by decide) (hts (.fieldLink RX9 12 "HeavyRoutes" "net" "LHeavyRoutes$Net;") (by decide +kernel)) dX9_bridge_12 ?_
    refine q_getiN (own := RX9) (C := RX3) (T := TX3) (N := 7) (ci := 3) (j := 2) (host := "HeavyRoutes") hx hb hts i3 hown F S q_k1 (by decide) rfl (by decide) (by decide) rfl (by decide +kernel) dX9_bridge_15 ?_
    refine lv_bipush (v := 6) hx hb dX9_bridge_18 (by decide) ?_
    refine lv_icmp_ge (tgt := 39) hx hb dX9_bridge_20 (by decide) (fun c5 => ?_) (fun c5 => ?_)
    · have h := q_ip c5 h
      refine lv_iconst (v := (-1)) hx hb dX9_bridge_39 (by decide) ?_
      exact q_iret hx hb hr S h hlk dX9_bridge_40
    · have h := q_ig c5 h
      refine lv_aload_n hx hb dX9_bridge_23 rfl (lv_at hl 0 rfl) ?_
      refine q_getr (own := RX9) (C := RX9) (T := TX9) (N := 4) (ci := 9) (j := 0)  (b := 1) hx hb hts i9 hown F S q_k0 (by decide) rfl (by decide) (by decide) rfl (by decide) (hts (.fieldLink RX9 12 "HeavyRoutes" "net" "LHeavyRoutes$Net;") (by decide +kernel)) dX9_bridge_24 ?_
      refine q_getrN (own := RX9) (C := RX3) (T := TX3) (N := 7) (ci := 3) (j := 3) (host := "HeavyRoutes") (b := 6) hx hb hts i3 hown F S q_k1 (by decide) rfl (by decide) (by decide) rfl (by decide) (by decide +kernel) dX9_bridge_27 ?_
      refine lv_iload_n hx hb dX9_bridge_30 rfl (lv_at hl 1 rfl) ?_
      obtain ⟨g6, h⟩ := q_gd_some h
      refine q_rald (t := 0) hx hb F S q_k6 (by decide) rfl q_n6 (q_pe14 x1.toNatClampNeg) g6 dX9_bridge_31 ?_
      refine q_getiN (own := RX9) (C := RX6) (T := TX6) (N := 11) (ci := 6) (j := 6) (host := "HeavyRoutes") hx hb hts i6 hown F S (q_e14 g6) (by decide) rfl (by decide) (by decide) rfl (by decide +kernel) dX9_bridge_32 ?_
      refine lv_iconst (v := (-1)) hx hb dX9_bridge_35 (by decide) ?_
      refine lv_icmp_eq (tgt := 41) hx hb dX9_bridge_36 (by decide) (fun c7 => ?_) (fun c7 => ?_)
      · have h := q_ip c7 h
        refine lv_aload_n hx hb dX9_bridge_41 rfl (lv_at hl 0 rfl) ?_
        refine q_getr (own := RX9) (C := RX9) (T := TX9) (N := 4) (ci := 9) (j := 1)  (b := 2) hx hb hts i9 hown F S q_k0 (by decide) rfl (by decide) (by decide) rfl (by decide) (hts (.fieldLink RX9 21 "HeavyRoutes" "finder" "LHeavyRoutes$Finder;") (by decide +kernel)) dX9_bridge_42 ?_
        obtain ⟨u8, μ8, hc9, h⟩ := q_bd_some h
        refine q_kv F S (q_runV (As := []) (rest := []) (b := 2) ⟨hx, hb, hml, hown, hts⟩ F S (c_X1_forget l E hE  μ1 μ8 u8 hc9) (cwV 0 hts gX9_bridge_X1_forget rfl rfl rfl (by decide +kernel) ⟨Nat.le_of_ble_eq_true rfl, Nat.le_of_ble_eq_true rfl⟩) q_k2 (by decide) rfl rfl hl.1 rfl (Nat.le_of_ble_eq_true rfl) dX9_bridge_45 ⟨Nat.zero_le _, Nat.zero_le _⟩) (fun H locs S => ?_)
        refine lv_aload_n hx hb dX9_bridge_48 rfl (lv_at hl 0 rfl) ?_
        refine q_getr (own := RX9) (C := RX9) (T := TX9) (N := 4) (ci := 9) (j := 0)  (b := 1) hx hb hts i9 hown F S q_k0 (by decide) rfl (by decide) (by decide) rfl (by decide) (hts (.fieldLink RX9 12 "HeavyRoutes" "net" "LHeavyRoutes$Net;") (by decide +kernel)) dX9_bridge_49 ?_
        refine q_getrN (own := RX9) (C := RX3) (T := TX3) (N := 7) (ci := 3) (j := 3) (host := "HeavyRoutes") (b := 6) hx hb hts i3 hown F S q_k1 (by decide) rfl (by decide) (by decide) rfl (by decide) (by decide +kernel) dX9_bridge_52 ?_
        refine lv_iload_n hx hb dX9_bridge_55 rfl (lv_at hl 1 rfl) ?_
        refine q_rald (t := 0) hx hb F S q_k6 (by decide) rfl q_n6 (q_pe14 x1.toNatClampNeg) g6 dX9_bridge_56 ?_
        refine lv_aload_n hx hb dX9_bridge_57 rfl (lv_at hl 0 rfl) ?_
        refine q_getr (own := RX9) (C := RX9) (T := TX9) (N := 4) (ci := 9) (j := 0)  (b := 1) hx hb hts i9 hown F S q_k0 (by decide) rfl (by decide) (by decide) rfl (by decide) (hts (.fieldLink RX9 12 "HeavyRoutes" "net" "LHeavyRoutes$Net;") (by decide +kernel)) dX9_bridge_58 ?_
        refine q_getiN (own := RX9) (C := RX3) (T := TX3) (N := 7) (ci := 3) (j := 2) (host := "HeavyRoutes") hx hb hts i3 hown F S q_k1 (by decide) rfl (by decide) (by decide) rfl (by decide +kernel) dX9_bridge_61 ?_
        refine q_putiN (own := RX9) (C := RX6) (T := TX6) (N := 11) (ci := 6) (j := 6) (host := "HeavyRoutes") hx hb hts i6 tyX6 tyX6_ok nmX6 hown F S (q_e14 g6) (by decide) rfl (by decide) (by decide) rfl (by decide +kernel) rfl (by decide +kernel) dX9_bridge_64 (fun H locs μ10 eμ10 S => ?_)
        have h := q_le_e h eμ10
        refine lv_aload_n hx hb dX9_bridge_67 rfl (lv_at hl 0 rfl) ?_
        refine q_getr (own := RX9) (C := RX9) (T := TX9) (N := 4) (ci := 9) (j := 0)  (b := 1) hx hb hts i9 hown F S q_k0 (by decide) rfl (by decide) (by decide) rfl (by decide) (hts (.fieldLink RX9 12 "HeavyRoutes" "net" "LHeavyRoutes$Net;") (by decide +kernel)) dX9_bridge_68 ?_
        refine lv_dup hx hb dX9_bridge_71 rfl ?_
        refine q_getiN (own := RX9) (C := RX3) (T := TX3) (N := 7) (ci := 3) (j := 2) (host := "HeavyRoutes") hx hb hts i3 hown F S q_k1 (by decide) rfl (by decide) (by decide) rfl (by decide +kernel) dX9_bridge_72 ?_
        refine lv_dup_x1 hx hb dX9_bridge_75 rfl rfl ?_
        refine lv_iconst (v := 1) hx hb dX9_bridge_76 (by decide) ?_
        refine lv_iadd hx hb dX9_bridge_77 ?_
        refine q_putiN (own := RX9) (C := RX3) (T := TX3) (N := 7) (ci := 3) (j := 2) (host := "HeavyRoutes") hx hb hts i3 tyX3 tyX3_ok nmX3 hown F S q_k1 (by decide) rfl (by decide) (by decide) rfl (by decide +kernel) rfl (by decide +kernel) dX9_bridge_78 (fun H locs μ11 eμ11 S => ?_)
        have h := q_le_e h eμ11
        exact q_iret hx hb hr S h hlk dX9_bridge_81
      · have h := q_ig c7 h
        refine lv_iconst (v := (-1)) hx hb dX9_bridge_39 (by decide) ?_
        exact q_iret hx hb hr S h hlk dX9_bridge_40
def f_X9_row (x1 : Int32) (x2 : Int64) (x4 : Int64) (x6 : Int64) (μ : q_M) : Option (Int32 × q_M) := q_bd (f_X3_hasBridge x1 μ) (fun r3 μ1 => (if r3 = 0 then some (0, μ1) else q_gd (q_ix x1 6) (q_bd (f_X0_canTakeCorner (50 + x1.toNatClampNeg) x2 μ1) (fun r8 μ6 => (if r8 = 0 then some (0, μ6) else q_bd (f_X9_isWithin x4 (-1000) 1000 μ6) (fun r12 μ10 => (if r12 = 0 then some (0, μ10) else q_bd (f_X9_isWithin x6 1 1000 μ10) (fun r16 μ14 => (if r16 = 0 then some (0, μ14) else q_bd (f_X1_forget  μ14) (fun u18 μ18 => q_bd (f_X0_addCorner (50 + x1.toNatClampNeg) x2 x4 x6 μ18) (fun u20 μ20 => q_bd (f_X3_rateBridge x1 μ20) (fun u22 μ22 => some (1, μ22)))))))))))))
set_option maxHeartbeats 4000000 in
set_option maxRecDepth 100000 in
theorem c_X9_row (l : Launch) (E : q_E) (hE : q_I E) (x1 : Int32) (x2 : Int64) (x4 : Int64) (x6 : Int64) (μ μr : q_M) (r : Int32) (h : f_X9_row x1 x2 x4 x6 μ = some (r, μr)) : Met l yX9_row wsX9_row ({ frames := 5, cells := 0, slots := 0, locals := 142 }) (q_Pc E μ [.ref (E.2.2.2 0), .int x1, .long x2, .long x4, .long x6]) (q_Qi E r μr) 0 0 (q_A E) := by
  refine q_met (cc := cX9_row) (maxL := 8) (ret := (some .boolean)) hE (by decide) rfl (Nat.le_of_ble_eq_true rfl) ?_
  intro p e s m below meth c hx hb hr hml hown hts hlk F S ls hl
  have hl : lv_has ls 8 [(0, .ref (E.2.2.2 0)), (1, .int x1), (2, .long x2), (4, .long x4), (6, .long x6)] := hl
  have i3 : ∀ w ∈ u_ws RX3 TX3 7, w ∈ wsX9_row := by decide +kernel
  have i9 : ∀ w ∈ u_ws RX9 TX9 4, w ∈ wsX9_row := by decide +kernel
  unfold f_X9_row at h
  obtain ⟨H, eH⟩ : ∃ z, z = s.heap := ⟨_, rfl⟩
  obtain ⟨locs, eL⟩ : ∃ z : List Loc, z = [] := ⟨_, rfl⟩
  rw [← eH, ← eL] at S
  suffices hh : W p l e ({ frames := 5, cells := 0, slots := 0, locals := 142 }) s m ([.ref (E.2.2.2 0), .int x1, .long x2, .long x4, .long x6] : List Value).toArray below meth c H locs 0 0 (MQ below (q_Qi E r μr) ([.ref (E.2.2.2 0), .int x1, .long x2, .long x4, .long x6] : List Value).toArray s 0 0 (q_A E)) (F0 m 0 ls []) by rw [eH, eL] at hh; exact hh
  refine lv_aload_n hx hb dX9_row_0 rfl (lv_at hl 0 rfl) ?_
  refine q_getr (own := RX9) (C := RX9) (T := TX9) (N := 4) (ci := 9) (j := 0)  (b := 1) hx hb hts i9 hown F S q_k0 (by decide) rfl (by decide) (by decide) rfl (by decide) (hts (.fieldLink RX9 12 "HeavyRoutes" "net" "LHeavyRoutes$Net;") (by decide +kernel)) dX9_row_1 ?_
  refine lv_iload_n hx hb dX9_row_4 rfl (lv_at hl 1 rfl) ?_
  obtain ⟨r3, μ1, hc2, h⟩ := q_bd_some h
  refine q_ki F S (q_runV (As := [.int x1]) (rest := []) (b := 1) ⟨hx, hb, hml, hown, hts⟩ F S (c_X3_hasBridge l E hE x1 μ μ1 r3 hc2) (cwV 1 hts gX9_row_X3_hasBridge rfl rfl rfl (by decide +kernel) ⟨Nat.le_of_ble_eq_true rfl, Nat.le_of_ble_eq_true rfl⟩) q_k1 (by decide) rfl rfl hl.1 rfl (Nat.le_of_ble_eq_true rfl) dX9_row_5 ⟨Nat.zero_le _, Nat.zero_le _⟩) (fun H locs S => ?_)
  refine lv_if_eq (tgt := 27) hx hb dX9_row_8 (by decide) (fun c4 => ?_) (fun c4 => ?_)
  · have h := q_ip c4 h
    refine lv_iconst (v := 0) hx hb dX9_row_27 (by decide) ?_
    exact q_zret hx hb hr S (by decide) h hlk dX9_row_28
  · have h := q_ig c4 h
    refine lv_aload_n hx hb dX9_row_11 rfl (lv_at hl 0 rfl) ?_
    refine q_getr (own := RX9) (C := RX9) (T := TX9) (N := 4) (ci := 9) (j := 0)  (b := 1) hx hb hts i9 hown F S q_k0 (by decide) rfl (by decide) (by decide) rfl (by decide) (hts (.fieldLink RX9 12 "HeavyRoutes" "net" "LHeavyRoutes$Net;") (by decide +kernel)) dX9_row_12 ?_
    refine q_getrN (own := RX9) (C := RX3) (T := TX3) (N := 7) (ci := 3) (j := 4) (host := "HeavyRoutes") (b := 7) hx hb hts i3 hown F S q_k1 (by decide) rfl (by decide) (by decide) rfl (by decide) (by decide +kernel) dX9_row_15 ?_
    refine lv_iload_n hx hb dX9_row_18 rfl (lv_at hl 1 rfl) ?_
    obtain ⟨g5, h⟩ := q_gd_some h
    refine q_rald (t := 1) hx hb F S q_k7 (by decide) rfl q_n7 (q_pe15 x1.toNatClampNeg) g5 dX9_row_19 ?_
    refine lv_lload_n hx hb dX9_row_20 rfl (lv_at hl 2 rfl) ?_
    obtain ⟨r8, μ6, hc7, h⟩ := q_bd_some h
    refine q_ki F S (q_runV (As := [.long x2]) (rest := []) (b := (50 + x1.toNatClampNeg)) ⟨hx, hb, hml, hown, hts⟩ F S (c_X0_canTakeCorner l E hE (50 + x1.toNatClampNeg) x2 (q_e15 g5) μ1 μ6 r8 hc7) (cwV 1 hts gX9_row_X0_canTakeCorner rfl rfl rfl (by decide +kernel) ⟨Nat.le_of_ble_eq_true rfl, Nat.le_of_ble_eq_true rfl⟩) (q_e15 g5) (by decide) rfl rfl hl.1 rfl (Nat.le_of_ble_eq_true rfl) dX9_row_21 ⟨Nat.zero_le _, Nat.zero_le _⟩) (fun H locs S => ?_)
    refine lv_if_ne (tgt := 29) hx hb dX9_row_24 (by decide) (fun c9 => ?_) (fun c9 => ?_)
    · have h := q_ig c9 h
      refine lv_lload hx hb dX9_row_29 (lv_at hl 3 rfl) ?_
      refine lv_ldc2 (v := (-1000)) hx hb hown (hts (.constantLong RX9 84 (-1000)) (by decide +kernel)) dX9_row_31 ?_
      refine lv_ldc2 (v := 1000) hx hb hown (hts (.constantLong RX9 86 (1000)) (by decide +kernel)) dX9_row_34 ?_
      obtain ⟨r12, μ10, hc11, h⟩ := q_bd_some h
      refine q_ki F S (q_runS (As := [.long x4, .long (-1000), .long 1000]) (rest := []) ⟨hx, hb, hml, hown, hts⟩ F S (c_X9_isWithin l E hE x4 (-1000) 1000 μ6 μ10 r12 hc11) (va_cwS 3 hts gX9_row_X9_isWithin rfl rfl rfl (by decide +kernel) ⟨Nat.le_of_ble_eq_true rfl, Nat.le_of_ble_eq_true rfl⟩) rfl hl.1 rfl (Nat.le_of_ble_eq_true rfl) dX9_row_37 ⟨Nat.zero_le _, Nat.zero_le _⟩) (fun H locs S => ?_)
      refine lv_if_eq (tgt := 55) hx hb dX9_row_40 (by decide) (fun c13 => ?_) (fun c13 => ?_)
      · have h := q_ip c13 h
        refine lv_iconst (v := 0) hx hb dX9_row_55 (by decide) ?_
        exact q_zret hx hb hr S (by decide) h hlk dX9_row_56
      · have h := q_ig c13 h
        refine lv_lload hx hb dX9_row_43 (lv_at hl 4 rfl) ?_
        refine lv_lconst (v := 1) hx hb dX9_row_45 (by decide) ?_
        refine lv_ldc2 (v := 1000) hx hb hown (hts (.constantLong RX9 86 (1000)) (by decide +kernel)) dX9_row_46 ?_
        obtain ⟨r16, μ14, hc15, h⟩ := q_bd_some h
        refine q_ki F S (q_runS (As := [.long x6, .long 1, .long 1000]) (rest := []) ⟨hx, hb, hml, hown, hts⟩ F S (c_X9_isWithin l E hE x6 1 1000 μ10 μ14 r16 hc15) (va_cwS 3 hts gX9_row_X9_isWithin rfl rfl rfl (by decide +kernel) ⟨Nat.le_of_ble_eq_true rfl, Nat.le_of_ble_eq_true rfl⟩) rfl hl.1 rfl (Nat.le_of_ble_eq_true rfl) dX9_row_49 ⟨Nat.zero_le _, Nat.zero_le _⟩) (fun H locs S => ?_)
        refine lv_if_ne (tgt := 57) hx hb dX9_row_52 (by decide) (fun c17 => ?_) (fun c17 => ?_)
        · have h := q_ig c17 h
          refine lv_aload_n hx hb dX9_row_57 rfl (lv_at hl 0 rfl) ?_
          refine q_getr (own := RX9) (C := RX9) (T := TX9) (N := 4) (ci := 9) (j := 1)  (b := 2) hx hb hts i9 hown F S q_k0 (by decide) rfl (by decide) (by decide) rfl (by decide) (hts (.fieldLink RX9 21 "HeavyRoutes" "finder" "LHeavyRoutes$Finder;") (by decide +kernel)) dX9_row_58 ?_
          obtain ⟨u18, μ18, hc19, h⟩ := q_bd_some h
          refine q_kv F S (q_runV (As := []) (rest := []) (b := 2) ⟨hx, hb, hml, hown, hts⟩ F S (c_X1_forget l E hE  μ14 μ18 u18 hc19) (cwV 0 hts gX9_row_X1_forget rfl rfl rfl (by decide +kernel) ⟨Nat.le_of_ble_eq_true rfl, Nat.le_of_ble_eq_true rfl⟩) q_k2 (by decide) rfl rfl hl.1 rfl (Nat.le_of_ble_eq_true rfl) dX9_row_61 ⟨Nat.zero_le _, Nat.zero_le _⟩) (fun H locs S => ?_)
          refine lv_aload_n hx hb dX9_row_64 rfl (lv_at hl 0 rfl) ?_
          refine q_getr (own := RX9) (C := RX9) (T := TX9) (N := 4) (ci := 9) (j := 0)  (b := 1) hx hb hts i9 hown F S q_k0 (by decide) rfl (by decide) (by decide) rfl (by decide) (hts (.fieldLink RX9 12 "HeavyRoutes" "net" "LHeavyRoutes$Net;") (by decide +kernel)) dX9_row_65 ?_
          refine q_getrN (own := RX9) (C := RX3) (T := TX3) (N := 7) (ci := 3) (j := 4) (host := "HeavyRoutes") (b := 7) hx hb hts i3 hown F S q_k1 (by decide) rfl (by decide) (by decide) rfl (by decide) (by decide +kernel) dX9_row_68 ?_
          refine lv_iload_n hx hb dX9_row_71 rfl (lv_at hl 1 rfl) ?_
          refine q_rald (t := 1) hx hb F S q_k7 (by decide) rfl q_n7 (q_pe15 x1.toNatClampNeg) g5 dX9_row_72 ?_
          refine lv_lload_n hx hb dX9_row_73 rfl (lv_at hl 2 rfl) ?_
          refine lv_lload hx hb dX9_row_74 (lv_at hl 3 rfl) ?_
          refine lv_lload hx hb dX9_row_76 (lv_at hl 4 rfl) ?_
          obtain ⟨u20, μ20, hc21, h⟩ := q_bd_some h
          refine q_kv F S (q_runV (As := [.long x2, .long x4, .long x6]) (rest := []) (b := (50 + x1.toNatClampNeg)) ⟨hx, hb, hml, hown, hts⟩ F S (c_X0_addCorner l E hE (50 + x1.toNatClampNeg) x2 x4 x6 (q_e15 g5) μ18 μ20 u20 hc21) (cwV 3 hts gX9_row_X0_addCorner rfl rfl rfl (by decide +kernel) ⟨Nat.le_of_ble_eq_true rfl, Nat.le_of_ble_eq_true rfl⟩) (q_e15 g5) (by decide) rfl rfl hl.1 rfl (Nat.le_of_ble_eq_true rfl) dX9_row_78 ⟨Nat.zero_le _, Nat.zero_le _⟩) (fun H locs S => ?_)
          refine lv_aload_n hx hb dX9_row_81 rfl (lv_at hl 0 rfl) ?_
          refine q_getr (own := RX9) (C := RX9) (T := TX9) (N := 4) (ci := 9) (j := 0)  (b := 1) hx hb hts i9 hown F S q_k0 (by decide) rfl (by decide) (by decide) rfl (by decide) (hts (.fieldLink RX9 12 "HeavyRoutes" "net" "LHeavyRoutes$Net;") (by decide +kernel)) dX9_row_82 ?_
          refine lv_iload_n hx hb dX9_row_85 rfl (lv_at hl 1 rfl) ?_
          obtain ⟨u22, μ22, hc23, h⟩ := q_bd_some h
          refine q_kv F S (q_runV (As := [.int x1]) (rest := []) (b := 1) ⟨hx, hb, hml, hown, hts⟩ F S (c_X3_rateBridge l E hE x1 μ20 μ22 u22 hc23) (cwV 1 hts gX9_row_X3_rateBridge rfl rfl rfl (by decide +kernel) ⟨Nat.le_of_ble_eq_true rfl, Nat.le_of_ble_eq_true rfl⟩) q_k1 (by decide) rfl rfl hl.1 rfl (Nat.le_of_ble_eq_true rfl) dX9_row_86 ⟨Nat.zero_le _, Nat.zero_le _⟩) (fun H locs S => ?_)
          refine lv_iconst (v := 1) hx hb dX9_row_89 (by decide) ?_
          exact q_zret hx hb hr S (by decide) h hlk dX9_row_90
        · have h := q_ip c17 h
          refine lv_iconst (v := 0) hx hb dX9_row_55 (by decide) ?_
          exact q_zret hx hb hr S (by decide) h hlk dX9_row_56
    · have h := q_ip c9 h
      refine lv_iconst (v := 0) hx hb dX9_row_27 (by decide) ?_
      exact q_zret hx hb hr S (by decide) h hlk dX9_row_28
def f_X9_axle (x1 : Int64) (x3 : Int64) (μ : q_M) : Option (Int32 × q_M) := q_bd (f_X2_canTakeAxle x1 μ) (fun r3 μ1 => (if r3 = 0 then some (0, μ1) else q_bd (f_X9_isWithin x3 0 1000 μ1) (fun r7 μ5 => (if r7 = 0 then some (0, μ5) else q_bd (f_X1_forget  μ5) (fun u9 μ9 => q_bd (f_X2_addAxle x1 x3 μ9) (fun u11 μ11 => q_bd (f_X3_rateAllBridges  μ11) (fun u13 μ13 => some (1, μ13))))))))
set_option maxHeartbeats 4000000 in
set_option maxRecDepth 100000 in
theorem c_X9_axle (l : Launch) (E : q_E) (hE : q_I E) (x1 : Int64) (x3 : Int64) (μ μr : q_M) (r : Int32) (h : f_X9_axle x1 x3 μ = some (r, μr)) : Met l yX9_axle wsX9_axle ({ frames := 6, cells := 0, slots := 0, locals := 163 }) (q_Pc E μ [.ref (E.2.2.2 0), .long x1, .long x3]) (q_Qi E r μr) 0 0 (q_A E) := by
  refine q_met (cc := cX9_axle) (maxL := 5) (ret := (some .boolean)) hE (by decide) rfl (Nat.le_of_ble_eq_true rfl) ?_
  intro p e s m below meth c hx hb hr hml hown hts hlk F S ls hl
  have hl : lv_has ls 5 [(0, .ref (E.2.2.2 0)), (1, .long x1), (3, .long x3)] := hl
  have i3 : ∀ w ∈ u_ws RX3 TX3 7, w ∈ wsX9_axle := by decide +kernel
  have i9 : ∀ w ∈ u_ws RX9 TX9 4, w ∈ wsX9_axle := by decide +kernel
  unfold f_X9_axle at h
  obtain ⟨H, eH⟩ : ∃ z, z = s.heap := ⟨_, rfl⟩
  obtain ⟨locs, eL⟩ : ∃ z : List Loc, z = [] := ⟨_, rfl⟩
  rw [← eH, ← eL] at S
  suffices hh : W p l e ({ frames := 6, cells := 0, slots := 0, locals := 163 }) s m ([.ref (E.2.2.2 0), .long x1, .long x3] : List Value).toArray below meth c H locs 0 0 (MQ below (q_Qi E r μr) ([.ref (E.2.2.2 0), .long x1, .long x3] : List Value).toArray s 0 0 (q_A E)) (F0 m 0 ls []) by rw [eH, eL] at hh; exact hh
  refine lv_aload_n hx hb dX9_axle_0 rfl (lv_at hl 0 rfl) ?_
  refine q_getr (own := RX9) (C := RX9) (T := TX9) (N := 4) (ci := 9) (j := 0)  (b := 1) hx hb hts i9 hown F S q_k0 (by decide) rfl (by decide) (by decide) rfl (by decide) (hts (.fieldLink RX9 12 "HeavyRoutes" "net" "LHeavyRoutes$Net;") (by decide +kernel)) dX9_axle_1 ?_
  refine q_getrN (own := RX9) (C := RX3) (T := TX3) (N := 7) (ci := 3) (j := 5) (host := "HeavyRoutes") (b := 3) hx hb hts i3 hown F S q_k1 (by decide) rfl (by decide) (by decide) rfl (by decide) (by decide +kernel) dX9_axle_4 ?_
  refine lv_lload_n hx hb dX9_axle_7 rfl (lv_at hl 1 rfl) ?_
  obtain ⟨r3, μ1, hc2, h⟩ := q_bd_some h
  refine q_ki F S (q_runV (As := [.long x1]) (rest := []) (b := 3) ⟨hx, hb, hml, hown, hts⟩ F S (c_X2_canTakeAxle l E hE x1 μ μ1 r3 hc2) (cwV 1 hts gX9_axle_X2_canTakeAxle rfl rfl rfl (by decide +kernel) ⟨Nat.le_of_ble_eq_true rfl, Nat.le_of_ble_eq_true rfl⟩) q_k3 (by decide) rfl rfl hl.1 rfl (Nat.le_of_ble_eq_true rfl) dX9_axle_8 ⟨Nat.zero_le _, Nat.zero_le _⟩) (fun H locs S => ?_)
  refine lv_if_eq (tgt := 25) hx hb dX9_axle_11 (by decide) (fun c4 => ?_) (fun c4 => ?_)
  · have h := q_ip c4 h
    refine lv_iconst (v := 0) hx hb dX9_axle_25 (by decide) ?_
    exact q_zret hx hb hr S (by decide) h hlk dX9_axle_26
  · have h := q_ig c4 h
    refine lv_lload_n hx hb dX9_axle_14 rfl (lv_at hl 2 rfl) ?_
    refine lv_lconst (v := 0) hx hb dX9_axle_15 (by decide) ?_
    refine lv_ldc2 (v := 1000) hx hb hown (hts (.constantLong RX9 86 (1000)) (by decide +kernel)) dX9_axle_16 ?_
    obtain ⟨r7, μ5, hc6, h⟩ := q_bd_some h
    refine q_ki F S (q_runS (As := [.long x3, .long 0, .long 1000]) (rest := []) ⟨hx, hb, hml, hown, hts⟩ F S (c_X9_isWithin l E hE x3 0 1000 μ1 μ5 r7 hc6) (va_cwS 3 hts gX9_axle_X9_isWithin rfl rfl rfl (by decide +kernel) ⟨Nat.le_of_ble_eq_true rfl, Nat.le_of_ble_eq_true rfl⟩) rfl hl.1 rfl (Nat.le_of_ble_eq_true rfl) dX9_axle_19 ⟨Nat.zero_le _, Nat.zero_le _⟩) (fun H locs S => ?_)
    refine lv_if_ne (tgt := 27) hx hb dX9_axle_22 (by decide) (fun c8 => ?_) (fun c8 => ?_)
    · have h := q_ig c8 h
      refine lv_aload_n hx hb dX9_axle_27 rfl (lv_at hl 0 rfl) ?_
      refine q_getr (own := RX9) (C := RX9) (T := TX9) (N := 4) (ci := 9) (j := 1)  (b := 2) hx hb hts i9 hown F S q_k0 (by decide) rfl (by decide) (by decide) rfl (by decide) (hts (.fieldLink RX9 21 "HeavyRoutes" "finder" "LHeavyRoutes$Finder;") (by decide +kernel)) dX9_axle_28 ?_
      obtain ⟨u9, μ9, hc10, h⟩ := q_bd_some h
      refine q_kv F S (q_runV (As := []) (rest := []) (b := 2) ⟨hx, hb, hml, hown, hts⟩ F S (c_X1_forget l E hE  μ5 μ9 u9 hc10) (cwV 0 hts gX9_axle_X1_forget rfl rfl rfl (by decide +kernel) ⟨Nat.le_of_ble_eq_true rfl, Nat.le_of_ble_eq_true rfl⟩) q_k2 (by decide) rfl rfl hl.1 rfl (Nat.le_of_ble_eq_true rfl) dX9_axle_31 ⟨Nat.zero_le _, Nat.zero_le _⟩) (fun H locs S => ?_)
      refine lv_aload_n hx hb dX9_axle_34 rfl (lv_at hl 0 rfl) ?_
      refine q_getr (own := RX9) (C := RX9) (T := TX9) (N := 4) (ci := 9) (j := 0)  (b := 1) hx hb hts i9 hown F S q_k0 (by decide) rfl (by decide) (by decide) rfl (by decide) (hts (.fieldLink RX9 12 "HeavyRoutes" "net" "LHeavyRoutes$Net;") (by decide +kernel)) dX9_axle_35 ?_
      refine q_getrN (own := RX9) (C := RX3) (T := TX3) (N := 7) (ci := 3) (j := 5) (host := "HeavyRoutes") (b := 3) hx hb hts i3 hown F S q_k1 (by decide) rfl (by decide) (by decide) rfl (by decide) (by decide +kernel) dX9_axle_38 ?_
      refine lv_lload_n hx hb dX9_axle_41 rfl (lv_at hl 1 rfl) ?_
      refine lv_lload_n hx hb dX9_axle_42 rfl (lv_at hl 2 rfl) ?_
      obtain ⟨u11, μ11, hc12, h⟩ := q_bd_some h
      refine q_kv F S (q_runV (As := [.long x1, .long x3]) (rest := []) (b := 3) ⟨hx, hb, hml, hown, hts⟩ F S (c_X2_addAxle l E hE x1 x3 μ9 μ11 u11 hc12) (cwV 2 hts gX9_axle_X2_addAxle rfl rfl rfl (by decide +kernel) ⟨Nat.le_of_ble_eq_true rfl, Nat.le_of_ble_eq_true rfl⟩) q_k3 (by decide) rfl rfl hl.1 rfl (Nat.le_of_ble_eq_true rfl) dX9_axle_43 ⟨Nat.zero_le _, Nat.zero_le _⟩) (fun H locs S => ?_)
      refine lv_aload_n hx hb dX9_axle_46 rfl (lv_at hl 0 rfl) ?_
      refine q_getr (own := RX9) (C := RX9) (T := TX9) (N := 4) (ci := 9) (j := 0)  (b := 1) hx hb hts i9 hown F S q_k0 (by decide) rfl (by decide) (by decide) rfl (by decide) (hts (.fieldLink RX9 12 "HeavyRoutes" "net" "LHeavyRoutes$Net;") (by decide +kernel)) dX9_axle_47 ?_
      obtain ⟨u13, μ13, hc14, h⟩ := q_bd_some h
      refine q_kv F S (q_runV (As := []) (rest := []) (b := 1) ⟨hx, hb, hml, hown, hts⟩ F S (c_X3_rateAllBridges l E hE  μ11 μ13 u13 hc14) (cwV 0 hts gX9_axle_X3_rateAllBridges rfl rfl rfl (by decide +kernel) ⟨Nat.le_of_ble_eq_true rfl, Nat.le_of_ble_eq_true rfl⟩) q_k1 (by decide) rfl rfl hl.1 rfl (Nat.le_of_ble_eq_true rfl) dX9_axle_50 ⟨Nat.zero_le _, Nat.zero_le _⟩) (fun H locs S => ?_)
      refine lv_iconst (v := 1) hx hb dX9_axle_53 (by decide) ?_
      exact q_zret hx hb hr S (by decide) h hlk dX9_axle_54
    · have h := q_ip c8 h
      refine lv_iconst (v := 0) hx hb dX9_axle_25 (by decide) ?_
      exact q_zret hx hb hr S (by decide) h hlk dX9_axle_26
def f_X9_size (x1 : Int32) (x2 : Int32) (x3 : Int32) (μ : q_M) : Option (Int32 × q_M) := q_bd (f_X9_isSize x1 μ) (fun r3 μ1 => (if r3 = 0 then some (0, μ1) else q_bd (f_X9_isSize x2 μ1) (fun r7 μ5 => (if r7 = 0 then some (0, μ5) else q_bd (f_X9_isWithin x3.toInt64 1 200 μ5) (fun r11 μ9 => (if r11 = 0 then some (0, μ9) else q_bd (f_X1_forget  μ9) (fun u13 μ13 => q_le (q_si μ13 3 0 x1) (fun μ15 => q_le (q_si μ15 3 1 x2) (fun μ16 => some (1, μ16))))))))))
set_option maxHeartbeats 4000000 in
set_option maxRecDepth 100000 in
theorem c_X9_size (l : Launch) (E : q_E) (hE : q_I E) (x1 : Int32) (x2 : Int32) (x3 : Int32) (μ μr : q_M) (r : Int32) (h : f_X9_size x1 x2 x3 μ = some (r, μr)) : Met l yX9_size wsX9_size ({ frames := 2, cells := 0, slots := 0, locals := 45 }) (q_Pc E μ [.ref (E.2.2.2 0), .int x1, .int x2, .int x3]) (q_Qi E r μr) 0 0 (q_A E) := by
  refine q_met (cc := cX9_size) (maxL := 4) (ret := (some .boolean)) hE (by decide) rfl (Nat.le_of_ble_eq_true rfl) ?_
  intro p e s m below meth c hx hb hr hml hown hts hlk F S ls hl
  have hl : lv_has ls 4 [(0, .ref (E.2.2.2 0)), (1, .int x1), (2, .int x2), (3, .int x3)] := hl
  have i2 : ∀ w ∈ u_ws RX2 TX2 5, w ∈ wsX9_size := by decide +kernel
  have i3 : ∀ w ∈ u_ws RX3 TX3 7, w ∈ wsX9_size := by decide +kernel
  have i9 : ∀ w ∈ u_ws RX9 TX9 4, w ∈ wsX9_size := by decide +kernel
  unfold f_X9_size at h
  obtain ⟨H, eH⟩ : ∃ z, z = s.heap := ⟨_, rfl⟩
  obtain ⟨locs, eL⟩ : ∃ z : List Loc, z = [] := ⟨_, rfl⟩
  rw [← eH, ← eL] at S
  suffices hh : W p l e ({ frames := 2, cells := 0, slots := 0, locals := 45 }) s m ([.ref (E.2.2.2 0), .int x1, .int x2, .int x3] : List Value).toArray below meth c H locs 0 0 (MQ below (q_Qi E r μr) ([.ref (E.2.2.2 0), .int x1, .int x2, .int x3] : List Value).toArray s 0 0 (q_A E)) (F0 m 0 ls []) by rw [eH, eL] at hh; exact hh
  refine lv_iload_n hx hb dX9_size_0 rfl (lv_at hl 1 rfl) ?_
  obtain ⟨r3, μ1, hc2, h⟩ := q_bd_some h
  refine q_ki F S (q_runS (As := [.int x1]) (rest := []) ⟨hx, hb, hml, hown, hts⟩ F S (c_X9_isSize l E hE x1 μ μ1 r3 hc2) (va_cwS 1 hts gX9_size_X9_isSize rfl rfl rfl (by decide +kernel) ⟨Nat.le_of_ble_eq_true rfl, Nat.le_of_ble_eq_true rfl⟩) rfl hl.1 rfl (Nat.le_of_ble_eq_true rfl) dX9_size_1 ⟨Nat.zero_le _, Nat.zero_le _⟩) (fun H locs S => ?_)
  refine lv_if_eq (tgt := 26) hx hb dX9_size_4 (by decide) (fun c4 => ?_) (fun c4 => ?_)
  · have h := q_ip c4 h
    refine lv_iconst (v := 0) hx hb dX9_size_26 (by decide) ?_
    exact q_zret hx hb hr S (by decide) h hlk dX9_size_27
  · have h := q_ig c4 h
    refine lv_iload_n hx hb dX9_size_7 rfl (lv_at hl 2 rfl) ?_
    obtain ⟨r7, μ5, hc6, h⟩ := q_bd_some h
    refine q_ki F S (q_runS (As := [.int x2]) (rest := []) ⟨hx, hb, hml, hown, hts⟩ F S (c_X9_isSize l E hE x2 μ1 μ5 r7 hc6) (va_cwS 1 hts gX9_size_X9_isSize rfl rfl rfl (by decide +kernel) ⟨Nat.le_of_ble_eq_true rfl, Nat.le_of_ble_eq_true rfl⟩) rfl hl.1 rfl (Nat.le_of_ble_eq_true rfl) dX9_size_8 ⟨Nat.zero_le _, Nat.zero_le _⟩) (fun H locs S => ?_)
    refine lv_if_eq (tgt := 26) hx hb dX9_size_11 (by decide) (fun c8 => ?_) (fun c8 => ?_)
    · have h := q_ip c8 h
      refine lv_iconst (v := 0) hx hb dX9_size_26 (by decide) ?_
      exact q_zret hx hb hr S (by decide) h hlk dX9_size_27
    · have h := q_ig c8 h
      refine lv_iload_n hx hb dX9_size_14 rfl (lv_at hl 3 rfl) ?_
      refine lv_i2l (v := x3.toInt64) hx hb dX9_size_15 rfl ?_
      refine lv_lconst (v := 1) hx hb dX9_size_16 (by decide) ?_
      refine lv_ldc2 (v := 200) hx hb hown (hts (.constantLong RX9 112 (200)) (by decide +kernel)) dX9_size_17 ?_
      obtain ⟨r11, μ9, hc10, h⟩ := q_bd_some h
      refine q_ki F S (q_runS (As := [.long x3.toInt64, .long 1, .long 200]) (rest := []) ⟨hx, hb, hml, hown, hts⟩ F S (c_X9_isWithin l E hE x3.toInt64 1 200 μ5 μ9 r11 hc10) (va_cwS 3 hts gX9_size_X9_isWithin rfl rfl rfl (by decide +kernel) ⟨Nat.le_of_ble_eq_true rfl, Nat.le_of_ble_eq_true rfl⟩) rfl hl.1 rfl (Nat.le_of_ble_eq_true rfl) dX9_size_20 ⟨Nat.zero_le _, Nat.zero_le _⟩) (fun H locs S => ?_)
      refine lv_if_ne (tgt := 28) hx hb dX9_size_23 (by decide) (fun c12 => ?_) (fun c12 => ?_)
      · have h := q_ig c12 h
        refine lv_aload_n hx hb dX9_size_28 rfl (lv_at hl 0 rfl) ?_
        refine q_getr (own := RX9) (C := RX9) (T := TX9) (N := 4) (ci := 9) (j := 1)  (b := 2) hx hb hts i9 hown F S q_k0 (by decide) rfl (by decide) (by decide) rfl (by decide) (hts (.fieldLink RX9 21 "HeavyRoutes" "finder" "LHeavyRoutes$Finder;") (by decide +kernel)) dX9_size_29 ?_
        obtain ⟨u13, μ13, hc14, h⟩ := q_bd_some h
        refine q_kv F S (q_runV (As := []) (rest := []) (b := 2) ⟨hx, hb, hml, hown, hts⟩ F S (c_X1_forget l E hE  μ9 μ13 u13 hc14) (cwV 0 hts gX9_size_X1_forget rfl rfl rfl (by decide +kernel) ⟨Nat.le_of_ble_eq_true rfl, Nat.le_of_ble_eq_true rfl⟩) q_k2 (by decide) rfl rfl hl.1 rfl (Nat.le_of_ble_eq_true rfl) dX9_size_32 ⟨Nat.zero_le _, Nat.zero_le _⟩) (fun H locs S => ?_)
        refine lv_aload_n hx hb dX9_size_35 rfl (lv_at hl 0 rfl) ?_
        refine q_getr (own := RX9) (C := RX9) (T := TX9) (N := 4) (ci := 9) (j := 0)  (b := 1) hx hb hts i9 hown F S q_k0 (by decide) rfl (by decide) (by decide) rfl (by decide) (hts (.fieldLink RX9 12 "HeavyRoutes" "net" "LHeavyRoutes$Net;") (by decide +kernel)) dX9_size_36 ?_
        refine q_getrN (own := RX9) (C := RX3) (T := TX3) (N := 7) (ci := 3) (j := 5) (host := "HeavyRoutes") (b := 3) hx hb hts i3 hown F S q_k1 (by decide) rfl (by decide) (by decide) rfl (by decide) (by decide +kernel) dX9_size_39 ?_
        refine lv_iload_n hx hb dX9_size_42 rfl (lv_at hl 1 rfl) ?_
        refine q_putiN (own := RX9) (C := RX2) (T := TX2) (N := 5) (ci := 2) (j := 0) (host := "HeavyRoutes") hx hb hts i2 tyX2 tyX2_ok nmX2 hown F S q_k3 (by decide) rfl (by decide) (by decide) rfl (by decide +kernel) rfl (by decide +kernel) dX9_size_43 (fun H locs μ15 eμ15 S => ?_)
        have h := q_le_e h eμ15
        refine lv_aload_n hx hb dX9_size_46 rfl (lv_at hl 0 rfl) ?_
        refine q_getr (own := RX9) (C := RX9) (T := TX9) (N := 4) (ci := 9) (j := 0)  (b := 1) hx hb hts i9 hown F S q_k0 (by decide) rfl (by decide) (by decide) rfl (by decide) (hts (.fieldLink RX9 12 "HeavyRoutes" "net" "LHeavyRoutes$Net;") (by decide +kernel)) dX9_size_47 ?_
        refine q_getrN (own := RX9) (C := RX3) (T := TX3) (N := 7) (ci := 3) (j := 5) (host := "HeavyRoutes") (b := 3) hx hb hts i3 hown F S q_k1 (by decide) rfl (by decide) (by decide) rfl (by decide) (by decide +kernel) dX9_size_50 ?_
        refine lv_iload_n hx hb dX9_size_53 rfl (lv_at hl 2 rfl) ?_
        refine q_putiN (own := RX9) (C := RX2) (T := TX2) (N := 5) (ci := 2) (j := 1) (host := "HeavyRoutes") hx hb hts i2 tyX2 tyX2_ok nmX2 hown F S q_k3 (by decide) rfl (by decide) (by decide) rfl (by decide +kernel) rfl (by decide +kernel) dX9_size_54 (fun H locs μ16 eμ16 S => ?_)
        have h := q_le_e h eμ16
        refine lv_iconst (v := 1) hx hb dX9_size_57 (by decide) ?_
        exact q_zret hx hb hr S (by decide) h hlk dX9_size_58
      · have h := q_ip c12 h
        refine lv_iconst (v := 0) hx hb dX9_size_26 (by decide) ?_
        exact q_zret hx hb hr S (by decide) h hlk dX9_size_27
def f_X9_turn (x1 : Int32) (x2 : Int32) (x3 : Int32) (μ : q_M) : Option (Int32 × q_M) := q_bd (f_X3_hasRoad x1 μ) (fun r3 μ1 => (if r3 = 0 then some (0, μ1) else q_bd (f_X3_hasRoad x2 μ1) (fun r7 μ5 => (if r7 = 0 then some (0, μ5) else (if x1 = x2 then some (0, μ5) else q_gd (q_ix x1 12) (q_gd (q_ix x2 12) (q_bd (f_X6_meets (14 + x1.toNatClampNeg) (14 + x2.toNatClampNeg) μ5) (fun r14 μ12 => (if r14 = 0 then some (0, μ12) else q_bd (f_X1_forget  μ12) (fun u16 μ16 => q_bd (f_X6_setTurn (14 + x1.toNatClampNeg) x2 x3 μ16) (fun u18 μ18 => some (1, μ18))))))))))))
set_option maxHeartbeats 4000000 in
set_option maxRecDepth 100000 in
theorem c_X9_turn (l : Launch) (E : q_E) (hE : q_I E) (x1 : Int32) (x2 : Int32) (x3 : Int32) (μ μr : q_M) (r : Int32) (h : f_X9_turn x1 x2 x3 μ = some (r, μr)) : Met l yX9_turn wsX9_turn ({ frames := 2, cells := 0, slots := 0, locals := 42 }) (q_Pc E μ [.ref (E.2.2.2 0), .int x1, .int x2, .int x3]) (q_Qi E r μr) 0 0 (q_A E) := by
  refine q_met (cc := cX9_turn) (maxL := 4) (ret := (some .boolean)) hE (by decide) rfl (Nat.le_of_ble_eq_true rfl) ?_
  intro p e s m below meth c hx hb hr hml hown hts hlk F S ls hl
  have hl : lv_has ls 4 [(0, .ref (E.2.2.2 0)), (1, .int x1), (2, .int x2), (3, .int x3)] := hl
  have i3 : ∀ w ∈ u_ws RX3 TX3 7, w ∈ wsX9_turn := by decide +kernel
  have i9 : ∀ w ∈ u_ws RX9 TX9 4, w ∈ wsX9_turn := by decide +kernel
  unfold f_X9_turn at h
  obtain ⟨H, eH⟩ : ∃ z, z = s.heap := ⟨_, rfl⟩
  obtain ⟨locs, eL⟩ : ∃ z : List Loc, z = [] := ⟨_, rfl⟩
  rw [← eH, ← eL] at S
  suffices hh : W p l e ({ frames := 2, cells := 0, slots := 0, locals := 42 }) s m ([.ref (E.2.2.2 0), .int x1, .int x2, .int x3] : List Value).toArray below meth c H locs 0 0 (MQ below (q_Qi E r μr) ([.ref (E.2.2.2 0), .int x1, .int x2, .int x3] : List Value).toArray s 0 0 (q_A E)) (F0 m 0 ls []) by rw [eH, eL] at hh; exact hh
  refine lv_aload_n hx hb dX9_turn_0 rfl (lv_at hl 0 rfl) ?_
  refine q_getr (own := RX9) (C := RX9) (T := TX9) (N := 4) (ci := 9) (j := 0)  (b := 1) hx hb hts i9 hown F S q_k0 (by decide) rfl (by decide) (by decide) rfl (by decide) (hts (.fieldLink RX9 12 "HeavyRoutes" "net" "LHeavyRoutes$Net;") (by decide +kernel)) dX9_turn_1 ?_
  refine lv_iload_n hx hb dX9_turn_4 rfl (lv_at hl 1 rfl) ?_
  obtain ⟨r3, μ1, hc2, h⟩ := q_bd_some h
  refine q_ki F S (q_runV (As := [.int x1]) (rest := []) (b := 1) ⟨hx, hb, hml, hown, hts⟩ F S (c_X3_hasRoad l E hE x1 μ μ1 r3 hc2) (cwV 1 hts gX9_turn_X3_hasRoad rfl rfl rfl (by decide +kernel) ⟨Nat.le_of_ble_eq_true rfl, Nat.le_of_ble_eq_true rfl⟩) q_k1 (by decide) rfl rfl hl.1 rfl (Nat.le_of_ble_eq_true rfl) dX9_turn_5 ⟨Nat.zero_le _, Nat.zero_le _⟩) (fun H locs S => ?_)
  refine lv_if_eq (tgt := 27) hx hb dX9_turn_8 (by decide) (fun c4 => ?_) (fun c4 => ?_)
  · have h := q_ip c4 h
    refine lv_iconst (v := 0) hx hb dX9_turn_27 (by decide) ?_
    exact q_zret hx hb hr S (by decide) h hlk dX9_turn_28
  · have h := q_ig c4 h
    refine lv_aload_n hx hb dX9_turn_11 rfl (lv_at hl 0 rfl) ?_
    refine q_getr (own := RX9) (C := RX9) (T := TX9) (N := 4) (ci := 9) (j := 0)  (b := 1) hx hb hts i9 hown F S q_k0 (by decide) rfl (by decide) (by decide) rfl (by decide) (hts (.fieldLink RX9 12 "HeavyRoutes" "net" "LHeavyRoutes$Net;") (by decide +kernel)) dX9_turn_12 ?_
    refine lv_iload_n hx hb dX9_turn_15 rfl (lv_at hl 2 rfl) ?_
    obtain ⟨r7, μ5, hc6, h⟩ := q_bd_some h
    refine q_ki F S (q_runV (As := [.int x2]) (rest := []) (b := 1) ⟨hx, hb, hml, hown, hts⟩ F S (c_X3_hasRoad l E hE x2 μ1 μ5 r7 hc6) (cwV 1 hts gX9_turn_X3_hasRoad rfl rfl rfl (by decide +kernel) ⟨Nat.le_of_ble_eq_true rfl, Nat.le_of_ble_eq_true rfl⟩) q_k1 (by decide) rfl rfl hl.1 rfl (Nat.le_of_ble_eq_true rfl) dX9_turn_16 ⟨Nat.zero_le _, Nat.zero_le _⟩) (fun H locs S => ?_)
    refine lv_if_eq (tgt := 27) hx hb dX9_turn_19 (by decide) (fun c8 => ?_) (fun c8 => ?_)
    · have h := q_ip c8 h
      refine lv_iconst (v := 0) hx hb dX9_turn_27 (by decide) ?_
      exact q_zret hx hb hr S (by decide) h hlk dX9_turn_28
    · have h := q_ig c8 h
      refine lv_iload_n hx hb dX9_turn_22 rfl (lv_at hl 1 rfl) ?_
      refine lv_iload_n hx hb dX9_turn_23 rfl (lv_at hl 2 rfl) ?_
      refine lv_icmp_ne (tgt := 29) hx hb dX9_turn_24 (by decide) (fun c9 => ?_) (fun c9 => ?_)
      · have h := q_ig c9 h
        refine lv_aload_n hx hb dX9_turn_29 rfl (lv_at hl 0 rfl) ?_
        refine q_getr (own := RX9) (C := RX9) (T := TX9) (N := 4) (ci := 9) (j := 0)  (b := 1) hx hb hts i9 hown F S q_k0 (by decide) rfl (by decide) (by decide) rfl (by decide) (hts (.fieldLink RX9 12 "HeavyRoutes" "net" "LHeavyRoutes$Net;") (by decide +kernel)) dX9_turn_30 ?_
        refine q_getrN (own := RX9) (C := RX3) (T := TX3) (N := 7) (ci := 3) (j := 3) (host := "HeavyRoutes") (b := 6) hx hb hts i3 hown F S q_k1 (by decide) rfl (by decide) (by decide) rfl (by decide) (by decide +kernel) dX9_turn_33 ?_
        refine lv_iload_n hx hb dX9_turn_36 rfl (lv_at hl 1 rfl) ?_
        obtain ⟨g10, h⟩ := q_gd_some h
        refine q_rald (t := 0) hx hb F S q_k6 (by decide) rfl q_n6 (q_pe14 x1.toNatClampNeg) g10 dX9_turn_37 ?_
        refine lv_aload_n hx hb dX9_turn_38 rfl (lv_at hl 0 rfl) ?_
        refine q_getr (own := RX9) (C := RX9) (T := TX9) (N := 4) (ci := 9) (j := 0)  (b := 1) hx hb hts i9 hown F S q_k0 (by decide) rfl (by decide) (by decide) rfl (by decide) (hts (.fieldLink RX9 12 "HeavyRoutes" "net" "LHeavyRoutes$Net;") (by decide +kernel)) dX9_turn_39 ?_
        refine q_getrN (own := RX9) (C := RX3) (T := TX3) (N := 7) (ci := 3) (j := 3) (host := "HeavyRoutes") (b := 6) hx hb hts i3 hown F S q_k1 (by decide) rfl (by decide) (by decide) rfl (by decide) (by decide +kernel) dX9_turn_42 ?_
        refine lv_iload_n hx hb dX9_turn_45 rfl (lv_at hl 2 rfl) ?_
        obtain ⟨g11, h⟩ := q_gd_some h
        refine q_rald (t := 0) hx hb F S q_k6 (by decide) rfl q_n6 (q_pe14 x2.toNatClampNeg) g11 dX9_turn_46 ?_
        obtain ⟨r14, μ12, hc13, h⟩ := q_bd_some h
        refine q_ki F S (q_runV (As := [.ref (E.2.2.2 (14 + x2.toNatClampNeg))]) (rest := []) (b := (14 + x1.toNatClampNeg)) ⟨hx, hb, hml, hown, hts⟩ F S (c_X6_meets l E hE (14 + x1.toNatClampNeg) (14 + x2.toNatClampNeg) (q_e14 g10) (q_e14 g11) μ5 μ12 r14 hc13) (cwV 1 hts gX9_turn_X6_meets rfl rfl rfl (by decide +kernel) ⟨Nat.le_of_ble_eq_true rfl, Nat.le_of_ble_eq_true rfl⟩) (q_e14 g10) (by decide) rfl rfl hl.1 rfl (Nat.le_of_ble_eq_true rfl) dX9_turn_47 ⟨Nat.zero_le _, Nat.zero_le _⟩) (fun H locs S => ?_)
        refine lv_if_ne (tgt := 55) hx hb dX9_turn_50 (by decide) (fun c15 => ?_) (fun c15 => ?_)
        · have h := q_ig c15 h
          refine lv_aload_n hx hb dX9_turn_55 rfl (lv_at hl 0 rfl) ?_
          refine q_getr (own := RX9) (C := RX9) (T := TX9) (N := 4) (ci := 9) (j := 1)  (b := 2) hx hb hts i9 hown F S q_k0 (by decide) rfl (by decide) (by decide) rfl (by decide) (hts (.fieldLink RX9 21 "HeavyRoutes" "finder" "LHeavyRoutes$Finder;") (by decide +kernel)) dX9_turn_56 ?_
          obtain ⟨u16, μ16, hc17, h⟩ := q_bd_some h
          refine q_kv F S (q_runV (As := []) (rest := []) (b := 2) ⟨hx, hb, hml, hown, hts⟩ F S (c_X1_forget l E hE  μ12 μ16 u16 hc17) (cwV 0 hts gX9_turn_X1_forget rfl rfl rfl (by decide +kernel) ⟨Nat.le_of_ble_eq_true rfl, Nat.le_of_ble_eq_true rfl⟩) q_k2 (by decide) rfl rfl hl.1 rfl (Nat.le_of_ble_eq_true rfl) dX9_turn_59 ⟨Nat.zero_le _, Nat.zero_le _⟩) (fun H locs S => ?_)
          refine lv_aload_n hx hb dX9_turn_62 rfl (lv_at hl 0 rfl) ?_
          refine q_getr (own := RX9) (C := RX9) (T := TX9) (N := 4) (ci := 9) (j := 0)  (b := 1) hx hb hts i9 hown F S q_k0 (by decide) rfl (by decide) (by decide) rfl (by decide) (hts (.fieldLink RX9 12 "HeavyRoutes" "net" "LHeavyRoutes$Net;") (by decide +kernel)) dX9_turn_63 ?_
          refine q_getrN (own := RX9) (C := RX3) (T := TX3) (N := 7) (ci := 3) (j := 3) (host := "HeavyRoutes") (b := 6) hx hb hts i3 hown F S q_k1 (by decide) rfl (by decide) (by decide) rfl (by decide) (by decide +kernel) dX9_turn_66 ?_
          refine lv_iload_n hx hb dX9_turn_69 rfl (lv_at hl 1 rfl) ?_
          refine q_rald (t := 0) hx hb F S q_k6 (by decide) rfl q_n6 (q_pe14 x1.toNatClampNeg) g10 dX9_turn_70 ?_
          refine lv_iload_n hx hb dX9_turn_71 rfl (lv_at hl 2 rfl) ?_
          refine lv_iload_n hx hb dX9_turn_72 rfl (lv_at hl 3 rfl) ?_
          obtain ⟨u18, μ18, hc19, h⟩ := q_bd_some h
          refine q_kv F S (q_runV (As := [.int x2, .int x3]) (rest := []) (b := (14 + x1.toNatClampNeg)) ⟨hx, hb, hml, hown, hts⟩ F S (c_X6_setTurn l E hE (14 + x1.toNatClampNeg) x2 x3 (q_e14 g10) μ16 μ18 u18 hc19) (cwV 2 hts gX9_turn_X6_setTurn rfl rfl rfl (by decide +kernel) ⟨Nat.le_of_ble_eq_true rfl, Nat.le_of_ble_eq_true rfl⟩) (q_e14 g10) (by decide) rfl rfl hl.1 rfl (Nat.le_of_ble_eq_true rfl) dX9_turn_73 ⟨Nat.zero_le _, Nat.zero_le _⟩) (fun H locs S => ?_)
          refine lv_iconst (v := 1) hx hb dX9_turn_76 (by decide) ?_
          exact q_zret hx hb hr S (by decide) h hlk dX9_turn_77
        · have h := q_ip c15 h
          refine lv_iconst (v := 0) hx hb dX9_turn_53 (by decide) ?_
          exact q_zret hx hb hr S (by decide) h hlk dX9_turn_54
      · have h := q_ip c9 h
        refine lv_iconst (v := 0) hx hb dX9_turn_27 (by decide) ?_
        exact q_zret hx hb hr S (by decide) h hlk dX9_turn_28
def f_X9_hours (x1 : Int32) (x2 : Int32) (x3 : Int32) (μ : q_M) : Option (Int32 × q_M) := q_bd (f_X3_hasRoad x1 μ) (fun r3 μ1 => (if r3 = 0 then some (0, μ1) else q_gd (q_ix x1 12) ((if (μ1.1 (14 + x1.toNatClampNeg) 8) < 3 then q_bd (f_X9_isWithin x2.toInt64 0 1439 μ1) (fun r9 μ7 => (if r9 = 0 then some (0, μ7) else q_bd (f_X9_isWithin x3.toInt64 0 1439 μ7) (fun r13 μ11 => (if r13 = 0 then some (0, μ11) else q_bd (f_X1_forget  μ11) (fun u15 μ15 => q_bd (f_X6_addBar (14 + x1.toNatClampNeg) x2 x3 μ15) (fun u17 μ17 => some (1, μ17))))))) else some (0, μ1)))))
set_option maxHeartbeats 4000000 in
set_option maxRecDepth 100000 in
theorem c_X9_hours (l : Launch) (E : q_E) (hE : q_I E) (x1 : Int32) (x2 : Int32) (x3 : Int32) (μ μr : q_M) (r : Int32) (h : f_X9_hours x1 x2 x3 μ = some (r, μr)) : Met l yX9_hours wsX9_hours ({ frames := 1, cells := 0, slots := 0, locals := 25 }) (q_Pc E μ [.ref (E.2.2.2 0), .int x1, .int x2, .int x3]) (q_Qi E r μr) 0 0 (q_A E) := by
  refine q_met (cc := cX9_hours) (maxL := 4) (ret := (some .boolean)) hE (by decide) rfl (Nat.le_of_ble_eq_true rfl) ?_
  intro p e s m below meth c hx hb hr hml hown hts hlk F S ls hl
  have hl : lv_has ls 4 [(0, .ref (E.2.2.2 0)), (1, .int x1), (2, .int x2), (3, .int x3)] := hl
  have i3 : ∀ w ∈ u_ws RX3 TX3 7, w ∈ wsX9_hours := by decide +kernel
  have i6 : ∀ w ∈ u_ws RX6 TX6 11, w ∈ wsX9_hours := by decide +kernel
  have i9 : ∀ w ∈ u_ws RX9 TX9 4, w ∈ wsX9_hours := by decide +kernel
  unfold f_X9_hours at h
  obtain ⟨H, eH⟩ : ∃ z, z = s.heap := ⟨_, rfl⟩
  obtain ⟨locs, eL⟩ : ∃ z : List Loc, z = [] := ⟨_, rfl⟩
  rw [← eH, ← eL] at S
  suffices hh : W p l e ({ frames := 1, cells := 0, slots := 0, locals := 25 }) s m ([.ref (E.2.2.2 0), .int x1, .int x2, .int x3] : List Value).toArray below meth c H locs 0 0 (MQ below (q_Qi E r μr) ([.ref (E.2.2.2 0), .int x1, .int x2, .int x3] : List Value).toArray s 0 0 (q_A E)) (F0 m 0 ls []) by rw [eH, eL] at hh; exact hh
  refine lv_aload_n hx hb dX9_hours_0 rfl (lv_at hl 0 rfl) ?_
  refine q_getr (own := RX9) (C := RX9) (T := TX9) (N := 4) (ci := 9) (j := 0)  (b := 1) hx hb hts i9 hown F S q_k0 (by decide) rfl (by decide) (by decide) rfl (by decide) (hts (.fieldLink RX9 12 "HeavyRoutes" "net" "LHeavyRoutes$Net;") (by decide +kernel)) dX9_hours_1 ?_
  refine lv_iload_n hx hb dX9_hours_4 rfl (lv_at hl 1 rfl) ?_
  obtain ⟨r3, μ1, hc2, h⟩ := q_bd_some h
  refine q_ki F S (q_runV (As := [.int x1]) (rest := []) (b := 1) ⟨hx, hb, hml, hown, hts⟩ F S (c_X3_hasRoad l E hE x1 μ μ1 r3 hc2) (cwV 1 hts gX9_hours_X3_hasRoad rfl rfl rfl (by decide +kernel) ⟨Nat.le_of_ble_eq_true rfl, Nat.le_of_ble_eq_true rfl⟩) q_k1 (by decide) rfl rfl hl.1 rfl (Nat.le_of_ble_eq_true rfl) dX9_hours_5 ⟨Nat.zero_le _, Nat.zero_le _⟩) (fun H locs S => ?_)
  refine lv_if_eq (tgt := 27) hx hb dX9_hours_8 (by decide) (fun c4 => ?_) (fun c4 => ?_)
  · have h := q_ip c4 h
    refine lv_iconst (v := 0) hx hb dX9_hours_27 (by decide) ?_
    exact q_zret hx hb hr S (by decide) h hlk dX9_hours_28
  · have h := q_ig c4 h
    refine lv_aload_n hx hb dX9_hours_11 rfl (lv_at hl 0 rfl) ?_
    refine q_getr (own := RX9) (C := RX9) (T := TX9) (N := 4) (ci := 9) (j := 0)  (b := 1) hx hb hts i9 hown F S q_k0 (by decide) rfl (by decide) (by decide) rfl (by decide) (hts (.fieldLink RX9 12 "HeavyRoutes" "net" "LHeavyRoutes$Net;") (by decide +kernel)) dX9_hours_12 ?_
    refine q_getrN (own := RX9) (C := RX3) (T := TX3) (N := 7) (ci := 3) (j := 3) (host := "HeavyRoutes") (b := 6) hx hb hts i3 hown F S q_k1 (by decide) rfl (by decide) (by decide) rfl (by decide) (by decide +kernel) dX9_hours_15 ?_
    refine lv_iload_n hx hb dX9_hours_18 rfl (lv_at hl 1 rfl) ?_
    obtain ⟨g5, h⟩ := q_gd_some h
    refine q_rald (t := 0) hx hb F S q_k6 (by decide) rfl q_n6 (q_pe14 x1.toNatClampNeg) g5 dX9_hours_19 ?_
    refine q_getiN (own := RX9) (C := RX6) (T := TX6) (N := 11) (ci := 6) (j := 8) (host := "HeavyRoutes") hx hb hts i6 hown F S (q_e14 g5) (by decide) rfl (by decide) (by decide) rfl (by decide +kernel) dX9_hours_20 ?_
    refine lv_iconst (v := 3) hx hb dX9_hours_23 (by decide) ?_
    refine lv_icmp_lt (tgt := 29) hx hb dX9_hours_24 (by decide) (fun c6 => ?_) (fun c6 => ?_)
    · have h := q_ip c6 h
      refine lv_iload_n hx hb dX9_hours_29 rfl (lv_at hl 2 rfl) ?_
      refine lv_i2l (v := x2.toInt64) hx hb dX9_hours_30 rfl ?_
      refine lv_lconst (v := 0) hx hb dX9_hours_31 (by decide) ?_
      refine lv_ldc2 (v := 1439) hx hb hown (hts (.constantLong RX9 131 (1439)) (by decide +kernel)) dX9_hours_32 ?_
      obtain ⟨r9, μ7, hc8, h⟩ := q_bd_some h
      refine q_ki F S (q_runS (As := [.long x2.toInt64, .long 0, .long 1439]) (rest := []) ⟨hx, hb, hml, hown, hts⟩ F S (c_X9_isWithin l E hE x2.toInt64 0 1439 μ1 μ7 r9 hc8) (va_cwS 3 hts gX9_hours_X9_isWithin rfl rfl rfl (by decide +kernel) ⟨Nat.le_of_ble_eq_true rfl, Nat.le_of_ble_eq_true rfl⟩) rfl hl.1 rfl (Nat.le_of_ble_eq_true rfl) dX9_hours_35 ⟨Nat.zero_le _, Nat.zero_le _⟩) (fun H locs S => ?_)
      refine lv_if_eq (tgt := 53) hx hb dX9_hours_38 (by decide) (fun c10 => ?_) (fun c10 => ?_)
      · have h := q_ip c10 h
        refine lv_iconst (v := 0) hx hb dX9_hours_53 (by decide) ?_
        exact q_zret hx hb hr S (by decide) h hlk dX9_hours_54
      · have h := q_ig c10 h
        refine lv_iload_n hx hb dX9_hours_41 rfl (lv_at hl 3 rfl) ?_
        refine lv_i2l (v := x3.toInt64) hx hb dX9_hours_42 rfl ?_
        refine lv_lconst (v := 0) hx hb dX9_hours_43 (by decide) ?_
        refine lv_ldc2 (v := 1439) hx hb hown (hts (.constantLong RX9 131 (1439)) (by decide +kernel)) dX9_hours_44 ?_
        obtain ⟨r13, μ11, hc12, h⟩ := q_bd_some h
        refine q_ki F S (q_runS (As := [.long x3.toInt64, .long 0, .long 1439]) (rest := []) ⟨hx, hb, hml, hown, hts⟩ F S (c_X9_isWithin l E hE x3.toInt64 0 1439 μ7 μ11 r13 hc12) (va_cwS 3 hts gX9_hours_X9_isWithin rfl rfl rfl (by decide +kernel) ⟨Nat.le_of_ble_eq_true rfl, Nat.le_of_ble_eq_true rfl⟩) rfl hl.1 rfl (Nat.le_of_ble_eq_true rfl) dX9_hours_47 ⟨Nat.zero_le _, Nat.zero_le _⟩) (fun H locs S => ?_)
        refine lv_if_ne (tgt := 55) hx hb dX9_hours_50 (by decide) (fun c14 => ?_) (fun c14 => ?_)
        · have h := q_ig c14 h
          refine lv_aload_n hx hb dX9_hours_55 rfl (lv_at hl 0 rfl) ?_
          refine q_getr (own := RX9) (C := RX9) (T := TX9) (N := 4) (ci := 9) (j := 1)  (b := 2) hx hb hts i9 hown F S q_k0 (by decide) rfl (by decide) (by decide) rfl (by decide) (hts (.fieldLink RX9 21 "HeavyRoutes" "finder" "LHeavyRoutes$Finder;") (by decide +kernel)) dX9_hours_56 ?_
          obtain ⟨u15, μ15, hc16, h⟩ := q_bd_some h
          refine q_kv F S (q_runV (As := []) (rest := []) (b := 2) ⟨hx, hb, hml, hown, hts⟩ F S (c_X1_forget l E hE  μ11 μ15 u15 hc16) (cwV 0 hts gX9_hours_X1_forget rfl rfl rfl (by decide +kernel) ⟨Nat.le_of_ble_eq_true rfl, Nat.le_of_ble_eq_true rfl⟩) q_k2 (by decide) rfl rfl hl.1 rfl (Nat.le_of_ble_eq_true rfl) dX9_hours_59 ⟨Nat.zero_le _, Nat.zero_le _⟩) (fun H locs S => ?_)
          refine lv_aload_n hx hb dX9_hours_62 rfl (lv_at hl 0 rfl) ?_
          refine q_getr (own := RX9) (C := RX9) (T := TX9) (N := 4) (ci := 9) (j := 0)  (b := 1) hx hb hts i9 hown F S q_k0 (by decide) rfl (by decide) (by decide) rfl (by decide) (hts (.fieldLink RX9 12 "HeavyRoutes" "net" "LHeavyRoutes$Net;") (by decide +kernel)) dX9_hours_63 ?_
          refine q_getrN (own := RX9) (C := RX3) (T := TX3) (N := 7) (ci := 3) (j := 3) (host := "HeavyRoutes") (b := 6) hx hb hts i3 hown F S q_k1 (by decide) rfl (by decide) (by decide) rfl (by decide) (by decide +kernel) dX9_hours_66 ?_
          refine lv_iload_n hx hb dX9_hours_69 rfl (lv_at hl 1 rfl) ?_
          refine q_rald (t := 0) hx hb F S q_k6 (by decide) rfl q_n6 (q_pe14 x1.toNatClampNeg) g5 dX9_hours_70 ?_
          refine lv_iload_n hx hb dX9_hours_71 rfl (lv_at hl 2 rfl) ?_
          refine lv_iload_n hx hb dX9_hours_72 rfl (lv_at hl 3 rfl) ?_
          obtain ⟨u17, μ17, hc18, h⟩ := q_bd_some h
          refine q_kv F S (q_runV (As := [.int x2, .int x3]) (rest := []) (b := (14 + x1.toNatClampNeg)) ⟨hx, hb, hml, hown, hts⟩ F S (c_X6_addBar l E hE (14 + x1.toNatClampNeg) x2 x3 (q_e14 g5) μ15 μ17 u17 hc18) (cwV 2 hts gX9_hours_X6_addBar rfl rfl rfl (by decide +kernel) ⟨Nat.le_of_ble_eq_true rfl, Nat.le_of_ble_eq_true rfl⟩) (q_e14 g5) (by decide) rfl rfl hl.1 rfl (Nat.le_of_ble_eq_true rfl) dX9_hours_73 ⟨Nat.zero_le _, Nat.zero_le _⟩) (fun H locs S => ?_)
          refine lv_iconst (v := 1) hx hb dX9_hours_76 (by decide) ?_
          exact q_zret hx hb hr S (by decide) h hlk dX9_hours_77
        · have h := q_ip c14 h
          refine lv_iconst (v := 0) hx hb dX9_hours_53 (by decide) ?_
          exact q_zret hx hb hr S (by decide) h hlk dX9_hours_54
    · have h := q_ig c6 h
      refine lv_iconst (v := 0) hx hb dX9_hours_27 (by decide) ?_
      exact q_zret hx hb hr S (by decide) h hlk dX9_hours_28
def f_X9_rating (x1 : Int32) (x2 : Int32) (μ : q_M) : Option (Int64 × q_M) := q_bd (f_X3_hasBridge x1 μ) (fun r3 μ1 => (if r3 = 0 then some ((-1), μ1) else q_bd (f_X9_isWithin x2.toInt64 0 1 μ1) (fun r7 μ5 => (if r7 = 0 then some ((-1), μ5) else q_gd (q_ix x1 6) ((if x2 = 0 then q_bd (f_X8_lowestEighteenDigits (((50 + x1.toNatClampNeg) + 24) + 7) μ5) (fun r16 μ14 => some (r16, μ14)) else q_bd (f_X8_lowestEighteenDigits (((50 + x1.toNatClampNeg) + 24) + 14) μ5) (fun r13 μ11 => some (r13, μ11))))))))
set_option maxHeartbeats 4000000 in
set_option maxRecDepth 100000 in
theorem c_X9_rating (l : Launch) (E : q_E) (hE : q_I E) (x1 : Int32) (x2 : Int32) (μ μr : q_M) (r : Int64) (h : f_X9_rating x1 x2 μ = some (r, μr)) : Met l yX9_rating wsX9_rating ({ frames := 1, cells := 0, slots := 0, locals := 25 }) (q_Pc E μ [.ref (E.2.2.2 0), .int x1, .int x2]) (q_Ql E r μr) 0 0 (q_A E) := by
  refine q_met (cc := cX9_rating) (maxL := 4) (ret := (some .long)) hE (by decide) rfl (Nat.le_of_ble_eq_true rfl) ?_
  intro p e s m below meth c hx hb hr hml hown hts hlk F S ls hl
  have hl : lv_has ls 4 [(0, .ref (E.2.2.2 0)), (1, .int x1), (2, .int x2)] := hl
  have i0 : ∀ w ∈ u_ws RX0 TX0 8, w ∈ wsX9_rating := by decide +kernel
  have i3 : ∀ w ∈ u_ws RX3 TX3 7, w ∈ wsX9_rating := by decide +kernel
  have i5 : ∀ w ∈ u_ws RX5 TX5 2, w ∈ wsX9_rating := by decide +kernel
  have i9 : ∀ w ∈ u_ws RX9 TX9 4, w ∈ wsX9_rating := by decide +kernel
  unfold f_X9_rating at h
  obtain ⟨H, eH⟩ : ∃ z, z = s.heap := ⟨_, rfl⟩
  obtain ⟨locs, eL⟩ : ∃ z : List Loc, z = [] := ⟨_, rfl⟩
  rw [← eH, ← eL] at S
  suffices hh : W p l e ({ frames := 1, cells := 0, slots := 0, locals := 25 }) s m ([.ref (E.2.2.2 0), .int x1, .int x2] : List Value).toArray below meth c H locs 0 0 (MQ below (q_Ql E r μr) ([.ref (E.2.2.2 0), .int x1, .int x2] : List Value).toArray s 0 0 (q_A E)) (F0 m 0 ls []) by rw [eH, eL] at hh; exact hh
  refine lv_aload_n hx hb dX9_rating_0 rfl (lv_at hl 0 rfl) ?_
  refine q_getr (own := RX9) (C := RX9) (T := TX9) (N := 4) (ci := 9) (j := 0)  (b := 1) hx hb hts i9 hown F S q_k0 (by decide) rfl (by decide) (by decide) rfl (by decide) (hts (.fieldLink RX9 12 "HeavyRoutes" "net" "LHeavyRoutes$Net;") (by decide +kernel)) dX9_rating_1 ?_
  refine lv_iload_n hx hb dX9_rating_4 rfl (lv_at hl 1 rfl) ?_
  obtain ⟨r3, μ1, hc2, h⟩ := q_bd_some h
  refine q_ki F S (q_runV (As := [.int x1]) (rest := []) (b := 1) ⟨hx, hb, hml, hown, hts⟩ F S (c_X3_hasBridge l E hE x1 μ μ1 r3 hc2) (cwV 1 hts gX9_rating_X3_hasBridge rfl rfl rfl (by decide +kernel) ⟨Nat.le_of_ble_eq_true rfl, Nat.le_of_ble_eq_true rfl⟩) q_k1 (by decide) rfl rfl hl.1 rfl (Nat.le_of_ble_eq_true rfl) dX9_rating_5 ⟨Nat.zero_le _, Nat.zero_le _⟩) (fun H locs S => ?_)
  refine lv_if_eq (tgt := 21) hx hb dX9_rating_8 (by decide) (fun c4 => ?_) (fun c4 => ?_)
  · have h := q_ip c4 h
    refine lv_ldc2 (v := (-1)) hx hb hown (hts (.constantLong RX9 137 (-1)) (by decide +kernel)) dX9_rating_21 ?_
    exact q_lret hx hb hr S h hlk dX9_rating_24
  · have h := q_ig c4 h
    refine lv_iload_n hx hb dX9_rating_11 rfl (lv_at hl 2 rfl) ?_
    refine lv_i2l (v := x2.toInt64) hx hb dX9_rating_12 rfl ?_
    refine lv_lconst (v := 0) hx hb dX9_rating_13 (by decide) ?_
    refine lv_lconst (v := 1) hx hb dX9_rating_14 (by decide) ?_
    obtain ⟨r7, μ5, hc6, h⟩ := q_bd_some h
    refine q_ki F S (q_runS (As := [.long x2.toInt64, .long 0, .long 1]) (rest := []) ⟨hx, hb, hml, hown, hts⟩ F S (c_X9_isWithin l E hE x2.toInt64 0 1 μ1 μ5 r7 hc6) (va_cwS 3 hts gX9_rating_X9_isWithin rfl rfl rfl (by decide +kernel) ⟨Nat.le_of_ble_eq_true rfl, Nat.le_of_ble_eq_true rfl⟩) rfl hl.1 rfl (Nat.le_of_ble_eq_true rfl) dX9_rating_15 ⟨Nat.zero_le _, Nat.zero_le _⟩) (fun H locs S => ?_)
    refine lv_if_ne (tgt := 25) hx hb dX9_rating_18 (by decide) (fun c8 => ?_) (fun c8 => ?_)
    · have h := q_ig c8 h
      refine lv_aload_n hx hb dX9_rating_25 rfl (lv_at hl 0 rfl) ?_
      refine q_getr (own := RX9) (C := RX9) (T := TX9) (N := 4) (ci := 9) (j := 0)  (b := 1) hx hb hts i9 hown F S q_k0 (by decide) rfl (by decide) (by decide) rfl (by decide) (hts (.fieldLink RX9 12 "HeavyRoutes" "net" "LHeavyRoutes$Net;") (by decide +kernel)) dX9_rating_26 ?_
      refine q_getrN (own := RX9) (C := RX3) (T := TX3) (N := 7) (ci := 3) (j := 4) (host := "HeavyRoutes") (b := 7) hx hb hts i3 hown F S q_k1 (by decide) rfl (by decide) (by decide) rfl (by decide) (by decide +kernel) dX9_rating_29 ?_
      refine lv_iload_n hx hb dX9_rating_32 rfl (lv_at hl 1 rfl) ?_
      obtain ⟨g9, h⟩ := q_gd_some h
      refine q_rald (t := 1) hx hb F S q_k7 (by decide) rfl q_n7 (q_pe15 x1.toNatClampNeg) g9 dX9_rating_33 ?_
      refine q_getrN (own := RX9) (C := RX0) (T := TX0) (N := 8) (ci := 0) (j := 5) (host := "HeavyRoutes") hx hb hts i0 hown F S (q_e15 g9) (by decide) rfl (by decide) (by decide) rfl (q_p_0_5 (q_e15 g9)) (by decide +kernel) dX9_rating_34 ?_
      refine lv_astore_n (lv' := [(3, .ref (E.2.2.2 ((50 + x1.toNatClampNeg) + 24))), (0, .ref (E.2.2.2 0)), (1, .int x1), (2, .int x2)]) hx hb dX9_rating_37 rfl hl (by decide) rfl (fun ls hl => ?_)
      refine lv_iload_n hx hb dX9_rating_38 rfl (lv_at hl 3 rfl) ?_
      refine lv_if_ne (tgt := 52) hx hb dX9_rating_39 (by decide) (fun c10 => ?_) (fun c10 => ?_)
      · have h := q_ig c10 h
        refine lv_aload_n hx hb dX9_rating_52 rfl (lv_at hl 0 rfl) ?_
        refine q_getrN (own := RX9) (C := RX5) (T := TX5) (N := 2) (ci := 5) (j := 1) (host := "HeavyRoutes") hx hb hts i5 hown F S (q_k_0_5 (q_e15 g9)) (by decide) rfl (by decide) (by decide) rfl (q_p_5_1 (q_k_0_5 (q_e15 g9))) (by decide +kernel) dX9_rating_53 ?_
        obtain ⟨r13, μ11, hc12, h⟩ := q_bd_some h
        refine q_kl F S (q_runV (As := []) (rest := []) (b := (((50 + x1.toNatClampNeg) + 24) + 14)) ⟨hx, hb, hml, hown, hts⟩ F S (c_X8_lowestEighteenDigits l E hE (((50 + x1.toNatClampNeg) + 24) + 14) (q_k_5_1 (q_k_0_5 (q_e15 g9))) μ5 μ11 r13 hc12) (cwV 0 hts gX9_rating_X8_lowestEighteenDigits rfl rfl rfl (by decide +kernel) ⟨Nat.le_of_ble_eq_true rfl, Nat.le_of_ble_eq_true rfl⟩) (q_k_5_1 (q_k_0_5 (q_e15 g9))) (by decide) rfl rfl hl.1 rfl (Nat.le_of_ble_eq_true rfl) dX9_rating_56 ⟨Nat.zero_le _, Nat.zero_le _⟩) (fun H locs S => ?_)
        exact q_lret hx hb hr S h hlk dX9_rating_59
      · have h := q_ip c10 h
        refine lv_aload_n hx hb dX9_rating_42 rfl (lv_at hl 0 rfl) ?_
        refine q_getrN (own := RX9) (C := RX5) (T := TX5) (N := 2) (ci := 5) (j := 0) (host := "HeavyRoutes") hx hb hts i5 hown F S (q_k_0_5 (q_e15 g9)) (by decide) rfl (by decide) (by decide) rfl (q_p_5_0 (q_k_0_5 (q_e15 g9))) (by decide +kernel) dX9_rating_43 ?_
        obtain ⟨r16, μ14, hc15, h⟩ := q_bd_some h
        refine q_kl F S (q_runV (As := []) (rest := []) (b := (((50 + x1.toNatClampNeg) + 24) + 7)) ⟨hx, hb, hml, hown, hts⟩ F S (c_X8_lowestEighteenDigits l E hE (((50 + x1.toNatClampNeg) + 24) + 7) (q_k_5_0 (q_k_0_5 (q_e15 g9))) μ5 μ14 r16 hc15) (cwV 0 hts gX9_rating_X8_lowestEighteenDigits rfl rfl rfl (by decide +kernel) ⟨Nat.le_of_ble_eq_true rfl, Nat.le_of_ble_eq_true rfl⟩) (q_k_5_0 (q_k_0_5 (q_e15 g9))) (by decide) rfl rfl hl.1 rfl (Nat.le_of_ble_eq_true rfl) dX9_rating_46 ⟨Nat.zero_le _, Nat.zero_le _⟩) (fun H locs S => ?_)
        refine lv_goto (tgt := 59) hx hb dX9_rating_49 (by decide) ?_
        exact q_lret hx hb hr S h hlk dX9_rating_59
    · have h := q_ip c8 h
      refine lv_ldc2 (v := (-1)) hx hb hown (hts (.constantLong RX9 137 (-1)) (by decide +kernel)) dX9_rating_21 ?_
      exact q_lret hx hb hr S h hlk dX9_rating_24
def f_X9_kept (x1 : Int32) (μ : q_M) : Option (Int32 × q_M) := q_bd (f_X3_hasBridge x1 μ) (fun r3 μ1 => (if r3 = 0 then some (0, μ1) else q_bd (f_X3_isKeptRatingTrue x1 μ1) (fun r7 μ5 => (if r7 = 0 then some (0, μ5) else some (1, μ5)))))
set_option maxHeartbeats 4000000 in
set_option maxRecDepth 100000 in
theorem c_X9_kept (l : Launch) (E : q_E) (hE : q_I E) (x1 : Int32) (μ μr : q_M) (r : Int32) (h : f_X9_kept x1 μ = some (r, μr)) : Met l yX9_kept wsX9_kept ({ frames := 6, cells := 0, slots := 0, locals := 163 }) (q_Pc E μ [.ref (E.2.2.2 0), .int x1]) (q_Qi E r μr) 0 0 (q_A E) := by
  refine q_met (cc := cX9_kept) (maxL := 2) (ret := (some .boolean)) hE (by decide) rfl (Nat.le_of_ble_eq_true rfl) ?_
  intro p e s m below meth c hx hb hr hml hown hts hlk F S ls hl
  have hl : lv_has ls 2 [(0, .ref (E.2.2.2 0)), (1, .int x1)] := hl
  have i9 : ∀ w ∈ u_ws RX9 TX9 4, w ∈ wsX9_kept := by decide +kernel
  unfold f_X9_kept at h
  obtain ⟨H, eH⟩ : ∃ z, z = s.heap := ⟨_, rfl⟩
  obtain ⟨locs, eL⟩ : ∃ z : List Loc, z = [] := ⟨_, rfl⟩
  rw [← eH, ← eL] at S
  suffices hh : W p l e ({ frames := 6, cells := 0, slots := 0, locals := 163 }) s m ([.ref (E.2.2.2 0), .int x1] : List Value).toArray below meth c H locs 0 0 (MQ below (q_Qi E r μr) ([.ref (E.2.2.2 0), .int x1] : List Value).toArray s 0 0 (q_A E)) (F0 m 0 ls []) by rw [eH, eL] at hh; exact hh
  refine lv_aload_n hx hb dX9_kept_0 rfl (lv_at hl 0 rfl) ?_
  refine q_getr (own := RX9) (C := RX9) (T := TX9) (N := 4) (ci := 9) (j := 0)  (b := 1) hx hb hts i9 hown F S q_k0 (by decide) rfl (by decide) (by decide) rfl (by decide) (hts (.fieldLink RX9 12 "HeavyRoutes" "net" "LHeavyRoutes$Net;") (by decide +kernel)) dX9_kept_1 ?_
  refine lv_iload_n hx hb dX9_kept_4 rfl (lv_at hl 1 rfl) ?_
  obtain ⟨r3, μ1, hc2, h⟩ := q_bd_some h
  refine q_ki F S (q_runV (As := [.int x1]) (rest := []) (b := 1) ⟨hx, hb, hml, hown, hts⟩ F S (c_X3_hasBridge l E hE x1 μ μ1 r3 hc2) (cwV 1 hts gX9_kept_X3_hasBridge rfl rfl rfl (by decide +kernel) ⟨Nat.le_of_ble_eq_true rfl, Nat.le_of_ble_eq_true rfl⟩) q_k1 (by decide) rfl rfl hl.1 rfl (Nat.le_of_ble_eq_true rfl) dX9_kept_5 ⟨Nat.zero_le _, Nat.zero_le _⟩) (fun H locs S => ?_)
  refine lv_if_eq (tgt := 26) hx hb dX9_kept_8 (by decide) (fun c4 => ?_) (fun c4 => ?_)
  · have h := q_ip c4 h
    refine lv_iconst (v := 0) hx hb dX9_kept_26 (by decide) ?_
    exact q_zret hx hb hr S (by decide) h hlk dX9_kept_27
  · have h := q_ig c4 h
    refine lv_aload_n hx hb dX9_kept_11 rfl (lv_at hl 0 rfl) ?_
    refine q_getr (own := RX9) (C := RX9) (T := TX9) (N := 4) (ci := 9) (j := 0)  (b := 1) hx hb hts i9 hown F S q_k0 (by decide) rfl (by decide) (by decide) rfl (by decide) (hts (.fieldLink RX9 12 "HeavyRoutes" "net" "LHeavyRoutes$Net;") (by decide +kernel)) dX9_kept_12 ?_
    refine lv_iload_n hx hb dX9_kept_15 rfl (lv_at hl 1 rfl) ?_
    obtain ⟨r7, μ5, hc6, h⟩ := q_bd_some h
    refine q_ki F S (q_runV (As := [.int x1]) (rest := []) (b := 1) ⟨hx, hb, hml, hown, hts⟩ F S (c_X3_isKeptRatingTrue l E hE x1 μ1 μ5 r7 hc6) (cwV 1 hts gX9_kept_X3_isKeptRatingTrue rfl rfl rfl (by decide +kernel) ⟨Nat.le_of_ble_eq_true rfl, Nat.le_of_ble_eq_true rfl⟩) q_k1 (by decide) rfl rfl hl.1 rfl (Nat.le_of_ble_eq_true rfl) dX9_kept_16 ⟨Nat.zero_le _, Nat.zero_le _⟩) (fun H locs S => ?_)
    refine lv_if_eq (tgt := 26) hx hb dX9_kept_19 (by decide) (fun c8 => ?_) (fun c8 => ?_)
    · have h := q_ip c8 h
      refine lv_iconst (v := 0) hx hb dX9_kept_26 (by decide) ?_
      exact q_zret hx hb hr S (by decide) h hlk dX9_kept_27
    · have h := q_ig c8 h
      refine lv_iconst (v := 1) hx hb dX9_kept_22 (by decide) ?_
      refine lv_goto (tgt := 27) hx hb dX9_kept_23 (by decide) ?_
      exact q_zret hx hb hr S (by decide) h hlk dX9_kept_27
def f_X9_run (x1 : Int32) (x2 : Int32) (x3 : Int32) (μ : q_M) : Option (Int32 × q_M) := q_bd (f_X3_hasNode x1 μ) (fun r3 μ1 => (if r3 = 0 then some ((-2), μ1) else q_bd (f_X3_hasNode x2 μ1) (fun r7 μ5 => (if r7 = 0 then some ((-2), μ5) else (if x1 = x2 then some ((-2), μ5) else q_bd (f_X9_isWithin x3.toInt64 0 10000 μ5) (fun r12 μ10 => (if r12 = 0 then some ((-2), μ10) else q_bd (f_X1_begin x1 x2 x3 μ10) (fun u14 μ14 => q_bd (f_X1_lookThrough  μ14) (fun u16 μ16 => q_bd (f_X1_keepBest  μ16) (fun r20 μ18 => (if 50 ≤ (μ18.1 0 3) then some (r20, μ18) else q_le (q_si μ18 0 3 ((μ18.1 0 3) + 1)) (fun μ22 => q_gd (q_ix (μ18.1 0 3) 50) (q_le (q_si μ22 5 (μ18.1 0 3).toNatClampNeg r20) (fun μ24 => some (r20, μ24)))))))))))))))
set_option maxHeartbeats 4000000 in
set_option maxRecDepth 100000 in
theorem c_X9_run (l : Launch) (E : q_E) (hE : q_I E) (x1 : Int32) (x2 : Int32) (x3 : Int32) (μ μr : q_M) (r : Int32) (h : f_X9_run x1 x2 x3 μ = some (r, μr)) : Met l yX9_run wsX9_run ({ frames := 58, cells := 0, slots := 0, locals := 2284 }) (q_Pc E μ [.ref (E.2.2.2 0), .int x1, .int x2, .int x3]) (q_Qi E r μr) 0 0 (q_A E) := by
  refine q_met (cc := cX9_run) (maxL := 5) (ret := (some .int)) hE (by decide) rfl (Nat.le_of_ble_eq_true rfl) ?_
  intro p e s m below meth c hx hb hr hml hown hts hlk F S ls hl
  have hl : lv_has ls 5 [(0, .ref (E.2.2.2 0)), (1, .int x1), (2, .int x2), (3, .int x3)] := hl
  have i9 : ∀ w ∈ u_ws RX9 TX9 4, w ∈ wsX9_run := by decide +kernel
  unfold f_X9_run at h
  obtain ⟨H, eH⟩ : ∃ z, z = s.heap := ⟨_, rfl⟩
  obtain ⟨locs, eL⟩ : ∃ z : List Loc, z = [] := ⟨_, rfl⟩
  rw [← eH, ← eL] at S
  suffices hh : W p l e ({ frames := 58, cells := 0, slots := 0, locals := 2284 }) s m ([.ref (E.2.2.2 0), .int x1, .int x2, .int x3] : List Value).toArray below meth c H locs 0 0 (MQ below (q_Qi E r μr) ([.ref (E.2.2.2 0), .int x1, .int x2, .int x3] : List Value).toArray s 0 0 (q_A E)) (F0 m 0 ls []) by rw [eH, eL] at hh; exact hh
  refine lv_aload_n hx hb dX9_run_0 rfl (lv_at hl 0 rfl) ?_
  refine q_getr (own := RX9) (C := RX9) (T := TX9) (N := 4) (ci := 9) (j := 0)  (b := 1) hx hb hts i9 hown F S q_k0 (by decide) rfl (by decide) (by decide) rfl (by decide) (hts (.fieldLink RX9 12 "HeavyRoutes" "net" "LHeavyRoutes$Net;") (by decide +kernel)) dX9_run_1 ?_
  refine lv_iload_n hx hb dX9_run_4 rfl (lv_at hl 1 rfl) ?_
  obtain ⟨r3, μ1, hc2, h⟩ := q_bd_some h
  refine q_ki F S (q_runV (As := [.int x1]) (rest := []) (b := 1) ⟨hx, hb, hml, hown, hts⟩ F S (c_X3_hasNode l E hE x1 μ μ1 r3 hc2) (cwV 1 hts gX9_run_X3_hasNode rfl rfl rfl (by decide +kernel) ⟨Nat.le_of_ble_eq_true rfl, Nat.le_of_ble_eq_true rfl⟩) q_k1 (by decide) rfl rfl hl.1 rfl (Nat.le_of_ble_eq_true rfl) dX9_run_5 ⟨Nat.zero_le _, Nat.zero_le _⟩) (fun H locs S => ?_)
  refine lv_if_eq (tgt := 39) hx hb dX9_run_8 (by decide) (fun c4 => ?_) (fun c4 => ?_)
  · have h := q_ip c4 h
    refine lv_bipush (v := (-2)) hx hb dX9_run_39 (by decide) ?_
    exact q_iret hx hb hr S h hlk dX9_run_41
  · have h := q_ig c4 h
    refine lv_aload_n hx hb dX9_run_11 rfl (lv_at hl 0 rfl) ?_
    refine q_getr (own := RX9) (C := RX9) (T := TX9) (N := 4) (ci := 9) (j := 0)  (b := 1) hx hb hts i9 hown F S q_k0 (by decide) rfl (by decide) (by decide) rfl (by decide) (hts (.fieldLink RX9 12 "HeavyRoutes" "net" "LHeavyRoutes$Net;") (by decide +kernel)) dX9_run_12 ?_
    refine lv_iload_n hx hb dX9_run_15 rfl (lv_at hl 2 rfl) ?_
    obtain ⟨r7, μ5, hc6, h⟩ := q_bd_some h
    refine q_ki F S (q_runV (As := [.int x2]) (rest := []) (b := 1) ⟨hx, hb, hml, hown, hts⟩ F S (c_X3_hasNode l E hE x2 μ1 μ5 r7 hc6) (cwV 1 hts gX9_run_X3_hasNode rfl rfl rfl (by decide +kernel) ⟨Nat.le_of_ble_eq_true rfl, Nat.le_of_ble_eq_true rfl⟩) q_k1 (by decide) rfl rfl hl.1 rfl (Nat.le_of_ble_eq_true rfl) dX9_run_16 ⟨Nat.zero_le _, Nat.zero_le _⟩) (fun H locs S => ?_)
    refine lv_if_eq (tgt := 39) hx hb dX9_run_19 (by decide) (fun c8 => ?_) (fun c8 => ?_)
    · have h := q_ip c8 h
      refine lv_bipush (v := (-2)) hx hb dX9_run_39 (by decide) ?_
      exact q_iret hx hb hr S h hlk dX9_run_41
    · have h := q_ig c8 h
      refine lv_iload_n hx hb dX9_run_22 rfl (lv_at hl 1 rfl) ?_
      refine lv_iload_n hx hb dX9_run_23 rfl (lv_at hl 2 rfl) ?_
      refine lv_icmp_eq (tgt := 39) hx hb dX9_run_24 (by decide) (fun c9 => ?_) (fun c9 => ?_)
      · have h := q_ip c9 h
        refine lv_bipush (v := (-2)) hx hb dX9_run_39 (by decide) ?_
        exact q_iret hx hb hr S h hlk dX9_run_41
      · have h := q_ig c9 h
        refine lv_iload_n hx hb dX9_run_27 rfl (lv_at hl 3 rfl) ?_
        refine lv_i2l (v := x3.toInt64) hx hb dX9_run_28 rfl ?_
        refine lv_lconst (v := 0) hx hb dX9_run_29 (by decide) ?_
        refine lv_ldc2 (v := 10000) hx hb hown (hts (.constantLong RX9 161 (10000)) (by decide +kernel)) dX9_run_30 ?_
        obtain ⟨r12, μ10, hc11, h⟩ := q_bd_some h
        refine q_ki F S (q_runS (As := [.long x3.toInt64, .long 0, .long 10000]) (rest := []) ⟨hx, hb, hml, hown, hts⟩ F S (c_X9_isWithin l E hE x3.toInt64 0 10000 μ5 μ10 r12 hc11) (va_cwS 3 hts gX9_run_X9_isWithin rfl rfl rfl (by decide +kernel) ⟨Nat.le_of_ble_eq_true rfl, Nat.le_of_ble_eq_true rfl⟩) rfl hl.1 rfl (Nat.le_of_ble_eq_true rfl) dX9_run_33 ⟨Nat.zero_le _, Nat.zero_le _⟩) (fun H locs S => ?_)
        refine lv_if_ne (tgt := 42) hx hb dX9_run_36 (by decide) (fun c13 => ?_) (fun c13 => ?_)
        · have h := q_ig c13 h
          refine lv_aload_n hx hb dX9_run_42 rfl (lv_at hl 0 rfl) ?_
          refine q_getr (own := RX9) (C := RX9) (T := TX9) (N := 4) (ci := 9) (j := 1)  (b := 2) hx hb hts i9 hown F S q_k0 (by decide) rfl (by decide) (by decide) rfl (by decide) (hts (.fieldLink RX9 21 "HeavyRoutes" "finder" "LHeavyRoutes$Finder;") (by decide +kernel)) dX9_run_43 ?_
          refine lv_iload_n hx hb dX9_run_46 rfl (lv_at hl 1 rfl) ?_
          refine lv_iload_n hx hb dX9_run_47 rfl (lv_at hl 2 rfl) ?_
          refine lv_iload_n hx hb dX9_run_48 rfl (lv_at hl 3 rfl) ?_
          obtain ⟨u14, μ14, hc15, h⟩ := q_bd_some h
          refine q_kv F S (q_runV (As := [.int x1, .int x2, .int x3]) (rest := []) (b := 2) ⟨hx, hb, hml, hown, hts⟩ F S (c_X1_begin l E hE x1 x2 x3 μ10 μ14 u14 hc15) (cwV 3 hts gX9_run_X1_begin rfl rfl rfl (by decide +kernel) ⟨Nat.le_of_ble_eq_true rfl, Nat.le_of_ble_eq_true rfl⟩) q_k2 (by decide) rfl rfl hl.1 rfl (Nat.le_of_ble_eq_true rfl) dX9_run_49 ⟨Nat.zero_le _, Nat.zero_le _⟩) (fun H locs S => ?_)
          refine lv_aload_n hx hb dX9_run_52 rfl (lv_at hl 0 rfl) ?_
          refine q_getr (own := RX9) (C := RX9) (T := TX9) (N := 4) (ci := 9) (j := 1)  (b := 2) hx hb hts i9 hown F S q_k0 (by decide) rfl (by decide) (by decide) rfl (by decide) (hts (.fieldLink RX9 21 "HeavyRoutes" "finder" "LHeavyRoutes$Finder;") (by decide +kernel)) dX9_run_53 ?_
          obtain ⟨u16, μ16, hc17, h⟩ := q_bd_some h
          refine q_kv F S (q_runV (As := []) (rest := []) (b := 2) ⟨hx, hb, hml, hown, hts⟩ F S (c_X1_lookThrough l E hE  μ14 μ16 u16 hc17) (cwV 0 hts gX9_run_X1_lookThrough rfl rfl rfl (by decide +kernel) ⟨Nat.le_of_ble_eq_true rfl, Nat.le_of_ble_eq_true rfl⟩) q_k2 (by decide) rfl rfl hl.1 rfl (Nat.le_of_ble_eq_true rfl) dX9_run_56 ⟨Nat.zero_le _, Nat.zero_le _⟩) (fun H locs S => ?_)
          refine lv_aload_n hx hb dX9_run_59 rfl (lv_at hl 0 rfl) ?_
          refine q_getr (own := RX9) (C := RX9) (T := TX9) (N := 4) (ci := 9) (j := 1)  (b := 2) hx hb hts i9 hown F S q_k0 (by decide) rfl (by decide) (by decide) rfl (by decide) (hts (.fieldLink RX9 21 "HeavyRoutes" "finder" "LHeavyRoutes$Finder;") (by decide +kernel)) dX9_run_60 ?_
          obtain ⟨r20, μ18, hc19, h⟩ := q_bd_some h
          refine q_ki F S (q_runV (As := []) (rest := []) (b := 2) ⟨hx, hb, hml, hown, hts⟩ F S (c_X1_keepBest l E hE  μ16 μ18 r20 hc19) (cwV 0 hts gX9_run_X1_keepBest rfl rfl rfl (by decide +kernel) ⟨Nat.le_of_ble_eq_true rfl, Nat.le_of_ble_eq_true rfl⟩) q_k2 (by decide) rfl rfl hl.1 rfl (Nat.le_of_ble_eq_true rfl) dX9_run_63 ⟨Nat.zero_le _, Nat.zero_le _⟩) (fun H locs S => ?_)
          refine lv_istore (lv' := [(4, .int r20), (0, .ref (E.2.2.2 0)), (1, .int x1), (2, .int x2), (3, .int x3)]) hx hb dX9_run_66 hl (by decide) rfl (fun ls hl => ?_)
          refine lv_aload_n hx hb dX9_run_68 rfl (lv_at hl 1 rfl) ?_
          refine q_geti (own := RX9) (C := RX9) (T := TX9) (N := 4) (ci := 9) (j := 3)  hx hb hts i9 hown F S q_k0 (by decide) rfl (by decide) (by decide) rfl (hts (.fieldLink RX9 174 "HeavyRoutes" "recordCount" "I") (by decide +kernel)) dX9_run_69 ?_
          refine lv_bipush (v := 50) hx hb dX9_run_72 (by decide) ?_
          refine lv_icmp_ge (tgt := 95) hx hb dX9_run_74 (by decide) (fun c21 => ?_) (fun c21 => ?_)
          · have h := q_ip c21 h
            refine lv_iload hx hb dX9_run_95 (lv_at hl 0 rfl) ?_
            exact q_iret hx hb hr S h hlk dX9_run_97
          · have h := q_ig c21 h
            refine lv_aload_n hx hb dX9_run_77 rfl (lv_at hl 1 rfl) ?_
            refine q_getr (own := RX9) (C := RX9) (T := TX9) (N := 4) (ci := 9) (j := 2)  (b := 5) hx hb hts i9 hown F S q_k0 (by decide) rfl (by decide) (by decide) rfl (by decide) (hts (.fieldLink RX9 25 "HeavyRoutes" "records" "[I") (by decide +kernel)) dX9_run_78 ?_
            refine lv_aload_n hx hb dX9_run_81 rfl (lv_at hl 1 rfl) ?_
            refine lv_dup hx hb dX9_run_82 rfl ?_
            refine q_geti (own := RX9) (C := RX9) (T := TX9) (N := 4) (ci := 9) (j := 3)  hx hb hts i9 hown F S q_k0 (by decide) rfl (by decide) (by decide) rfl (hts (.fieldLink RX9 174 "HeavyRoutes" "recordCount" "I") (by decide +kernel)) dX9_run_83 ?_
            refine lv_dup_x1 hx hb dX9_run_86 rfl rfl ?_
            refine lv_iconst (v := 1) hx hb dX9_run_87 (by decide) ?_
            refine lv_iadd hx hb dX9_run_88 ?_
            refine q_puti (own := RX9) (C := RX9) (T := TX9) (N := 4) (ci := 9) (j := 3)  hx hb hts i9 tyX9 tyX9_ok nmX9 hown F S q_k0 (by decide) rfl (by decide) (by decide) rfl (hts (.fieldLink RX9 174 "HeavyRoutes" "recordCount" "I") (by decide +kernel)) rfl (by decide +kernel) dX9_run_89 (fun H locs μ22 eμ22 S => ?_)
            have h := q_le_e h eμ22
            refine lv_iload hx hb dX9_run_92 (lv_at hl 0 rfl) ?_
            obtain ⟨g23, h⟩ := q_gd_some h
            refine q_iast hx hb F S q_k5 q_n5 g23 dX9_run_94 (fun H locs μ24 eμ24 S => ?_)
            have h := q_le_e h eμ24
            refine lv_iload hx hb dX9_run_95 (lv_at hl 0 rfl) ?_
            exact q_iret hx hb hr S h hlk dX9_run_97
        · have h := q_ip c13 h
          refine lv_bipush (v := (-2)) hx hb dX9_run_39 (by decide) ?_
          exact q_iret hx hb hr S h hlk dX9_run_41
def f_X9_road2 (x1 : Int32) (μ : q_M) : Option (Int32 × q_M) := q_bd (f_X1_atHand  μ) (fun r3 μ1 => q_gd (decide (q_kd r3 = 7)) (q_bd (f_X7_hasPlace r3 x1 μ1) (fun r7 μ5 => (if r7 = 0 then some ((-1), μ5) else q_gd (q_ix x1 6) (some ((μ5.1 (r3 + 8) x1.toNatClampNeg), μ5))))))
set_option maxHeartbeats 4000000 in
set_option maxRecDepth 100000 in
theorem c_X9_road2 (l : Launch) (E : q_E) (hE : q_I E) (x1 : Int32) (μ μr : q_M) (r : Int32) (h : f_X9_road2 x1 μ = some (r, μr)) : Met l yX9_road2 wsX9_road2 ({ frames := 1, cells := 0, slots := 0, locals := 21 }) (q_Pc E μ [.ref (E.2.2.2 0), .int x1]) (q_Qi E r μr) 0 0 (q_A E) := by
  refine q_met (cc := cX9_road2) (maxL := 3) (ret := (some .int)) hE (by decide) rfl (Nat.le_of_ble_eq_true rfl) ?_
  intro p e s m below meth c hx hb hr hml hown hts hlk F S ls hl
  have hl : lv_has ls 3 [(0, .ref (E.2.2.2 0)), (1, .int x1)] := hl
  have i7 : ∀ w ∈ u_ws RX7 TX7 6, w ∈ wsX9_road2 := by decide +kernel
  have i9 : ∀ w ∈ u_ws RX9 TX9 4, w ∈ wsX9_road2 := by decide +kernel
  unfold f_X9_road2 at h
  obtain ⟨H, eH⟩ : ∃ z, z = s.heap := ⟨_, rfl⟩
  obtain ⟨locs, eL⟩ : ∃ z : List Loc, z = [] := ⟨_, rfl⟩
  rw [← eH, ← eL] at S
  suffices hh : W p l e ({ frames := 1, cells := 0, slots := 0, locals := 21 }) s m ([.ref (E.2.2.2 0), .int x1] : List Value).toArray below meth c H locs 0 0 (MQ below (q_Qi E r μr) ([.ref (E.2.2.2 0), .int x1] : List Value).toArray s 0 0 (q_A E)) (F0 m 0 ls []) by rw [eH, eL] at hh; exact hh
  refine lv_aload_n hx hb dX9_road2_0 rfl (lv_at hl 0 rfl) ?_
  refine q_getr (own := RX9) (C := RX9) (T := TX9) (N := 4) (ci := 9) (j := 1)  (b := 2) hx hb hts i9 hown F S q_k0 (by decide) rfl (by decide) (by decide) rfl (by decide) (hts (.fieldLink RX9 21 "HeavyRoutes" "finder" "LHeavyRoutes$Finder;") (by decide +kernel)) dX9_road2_1 ?_
  obtain ⟨r3, μ1, hc2, h⟩ := q_bd_some h
  refine q_kr F S (q_runV (As := []) (rest := []) (b := 2) ⟨hx, hb, hml, hown, hts⟩ F S (c_X1_atHand l E hE  μ μ1 r3 hc2) (cwV 0 hts gX9_road2_X1_atHand rfl rfl rfl (by decide +kernel) ⟨Nat.le_of_ble_eq_true rfl, Nat.le_of_ble_eq_true rfl⟩) q_k2 (by decide) rfl rfl hl.1 rfl (Nat.le_of_ble_eq_true rfl) dX9_road2_4 ⟨Nat.zero_le _, Nat.zero_le _⟩) (fun H locs S => ?_)
  obtain ⟨g4, h⟩ := q_gd_some h
  refine lv_astore_n (lv' := [(2, .ref (E.2.2.2 r3)), (0, .ref (E.2.2.2 0)), (1, .int x1)]) hx hb dX9_road2_7 rfl hl (by decide) rfl (fun ls hl => ?_)
  refine lv_aload_n hx hb dX9_road2_8 rfl (lv_at hl 0 rfl) ?_
  refine lv_iload_n hx hb dX9_road2_9 rfl (lv_at hl 2 rfl) ?_
  obtain ⟨r7, μ5, hc6, h⟩ := q_bd_some h
  refine q_ki F S (q_runV (As := [.int x1]) (rest := []) (b := r3) ⟨hx, hb, hml, hown, hts⟩ F S (c_X7_hasPlace l E hE r3 x1 (of_decide_eq_true g4) μ1 μ5 r7 hc6) (cwV 1 hts gX9_road2_X7_hasPlace rfl rfl rfl (by decide +kernel) ⟨Nat.le_of_ble_eq_true rfl, Nat.le_of_ble_eq_true rfl⟩) (of_decide_eq_true g4) (by decide) rfl rfl hl.1 rfl (Nat.le_of_ble_eq_true rfl) dX9_road2_10 ⟨Nat.zero_le _, Nat.zero_le _⟩) (fun H locs S => ?_)
  refine lv_if_eq (tgt := 25) hx hb dX9_road2_13 (by decide) (fun c8 => ?_) (fun c8 => ?_)
  · have h := q_ip c8 h
    refine lv_iconst (v := (-1)) hx hb dX9_road2_25 (by decide) ?_
    exact q_iret hx hb hr S h hlk dX9_road2_26
  · have h := q_ig c8 h
    refine lv_aload_n hx hb dX9_road2_16 rfl (lv_at hl 0 rfl) ?_
    refine q_getrN (own := RX9) (C := RX7) (T := TX7) (N := 6) (ci := 7) (j := 0) (host := "HeavyRoutes") hx hb hts i7 hown F S (of_decide_eq_true g4) (by decide) rfl (by decide) (by decide) rfl (q_p_7_0 (of_decide_eq_true g4)) (by decide +kernel) dX9_road2_17 ?_
    refine lv_iload_n hx hb dX9_road2_20 rfl (lv_at hl 2 rfl) ?_
    obtain ⟨g9, h⟩ := q_gd_some h
    refine q_iald hx hb F S (q_k_7_0 (of_decide_eq_true g4)) (q_n_7_0 (of_decide_eq_true g4)) g9 dX9_road2_21 ?_
    refine lv_goto (tgt := 26) hx hb dX9_road2_22 (by decide) ?_
    exact q_iret hx hb hr S h hlk dX9_road2_26
def f_X9_begun (x1 : Int32) (μ : q_M) : Option (Int32 × q_M) := q_bd (f_X1_atHand  μ) (fun r3 μ1 => q_gd (decide (q_kd r3 = 7)) (q_bd (f_X7_hasPlace r3 x1 μ1) (fun r7 μ5 => (if r7 = 0 then some ((-1), μ5) else q_gd (q_ix x1 6) (some ((μ5.1 (r3 + 16) x1.toNatClampNeg), μ5))))))
set_option maxHeartbeats 4000000 in
set_option maxRecDepth 100000 in
theorem c_X9_begun (l : Launch) (E : q_E) (hE : q_I E) (x1 : Int32) (μ μr : q_M) (r : Int32) (h : f_X9_begun x1 μ = some (r, μr)) : Met l yX9_begun wsX9_begun ({ frames := 1, cells := 0, slots := 0, locals := 21 }) (q_Pc E μ [.ref (E.2.2.2 0), .int x1]) (q_Qi E r μr) 0 0 (q_A E) := by
  refine q_met (cc := cX9_begun) (maxL := 3) (ret := (some .int)) hE (by decide) rfl (Nat.le_of_ble_eq_true rfl) ?_
  intro p e s m below meth c hx hb hr hml hown hts hlk F S ls hl
  have hl : lv_has ls 3 [(0, .ref (E.2.2.2 0)), (1, .int x1)] := hl
  have i7 : ∀ w ∈ u_ws RX7 TX7 6, w ∈ wsX9_begun := by decide +kernel
  have i9 : ∀ w ∈ u_ws RX9 TX9 4, w ∈ wsX9_begun := by decide +kernel
  unfold f_X9_begun at h
  obtain ⟨H, eH⟩ : ∃ z, z = s.heap := ⟨_, rfl⟩
  obtain ⟨locs, eL⟩ : ∃ z : List Loc, z = [] := ⟨_, rfl⟩
  rw [← eH, ← eL] at S
  suffices hh : W p l e ({ frames := 1, cells := 0, slots := 0, locals := 21 }) s m ([.ref (E.2.2.2 0), .int x1] : List Value).toArray below meth c H locs 0 0 (MQ below (q_Qi E r μr) ([.ref (E.2.2.2 0), .int x1] : List Value).toArray s 0 0 (q_A E)) (F0 m 0 ls []) by rw [eH, eL] at hh; exact hh
  refine lv_aload_n hx hb dX9_begun_0 rfl (lv_at hl 0 rfl) ?_
  refine q_getr (own := RX9) (C := RX9) (T := TX9) (N := 4) (ci := 9) (j := 1)  (b := 2) hx hb hts i9 hown F S q_k0 (by decide) rfl (by decide) (by decide) rfl (by decide) (hts (.fieldLink RX9 21 "HeavyRoutes" "finder" "LHeavyRoutes$Finder;") (by decide +kernel)) dX9_begun_1 ?_
  obtain ⟨r3, μ1, hc2, h⟩ := q_bd_some h
  refine q_kr F S (q_runV (As := []) (rest := []) (b := 2) ⟨hx, hb, hml, hown, hts⟩ F S (c_X1_atHand l E hE  μ μ1 r3 hc2) (cwV 0 hts gX9_begun_X1_atHand rfl rfl rfl (by decide +kernel) ⟨Nat.le_of_ble_eq_true rfl, Nat.le_of_ble_eq_true rfl⟩) q_k2 (by decide) rfl rfl hl.1 rfl (Nat.le_of_ble_eq_true rfl) dX9_begun_4 ⟨Nat.zero_le _, Nat.zero_le _⟩) (fun H locs S => ?_)
  obtain ⟨g4, h⟩ := q_gd_some h
  refine lv_astore_n (lv' := [(2, .ref (E.2.2.2 r3)), (0, .ref (E.2.2.2 0)), (1, .int x1)]) hx hb dX9_begun_7 rfl hl (by decide) rfl (fun ls hl => ?_)
  refine lv_aload_n hx hb dX9_begun_8 rfl (lv_at hl 0 rfl) ?_
  refine lv_iload_n hx hb dX9_begun_9 rfl (lv_at hl 2 rfl) ?_
  obtain ⟨r7, μ5, hc6, h⟩ := q_bd_some h
  refine q_ki F S (q_runV (As := [.int x1]) (rest := []) (b := r3) ⟨hx, hb, hml, hown, hts⟩ F S (c_X7_hasPlace l E hE r3 x1 (of_decide_eq_true g4) μ1 μ5 r7 hc6) (cwV 1 hts gX9_begun_X7_hasPlace rfl rfl rfl (by decide +kernel) ⟨Nat.le_of_ble_eq_true rfl, Nat.le_of_ble_eq_true rfl⟩) (of_decide_eq_true g4) (by decide) rfl rfl hl.1 rfl (Nat.le_of_ble_eq_true rfl) dX9_begun_10 ⟨Nat.zero_le _, Nat.zero_le _⟩) (fun H locs S => ?_)
  refine lv_if_eq (tgt := 25) hx hb dX9_begun_13 (by decide) (fun c8 => ?_) (fun c8 => ?_)
  · have h := q_ip c8 h
    refine lv_iconst (v := (-1)) hx hb dX9_begun_25 (by decide) ?_
    exact q_iret hx hb hr S h hlk dX9_begun_26
  · have h := q_ig c8 h
    refine lv_aload_n hx hb dX9_begun_16 rfl (lv_at hl 0 rfl) ?_
    refine q_getrN (own := RX9) (C := RX7) (T := TX7) (N := 6) (ci := 7) (j := 1) (host := "HeavyRoutes") hx hb hts i7 hown F S (of_decide_eq_true g4) (by decide) rfl (by decide) (by decide) rfl (q_p_7_1 (of_decide_eq_true g4)) (by decide +kernel) dX9_begun_17 ?_
    refine lv_iload_n hx hb dX9_begun_20 rfl (lv_at hl 2 rfl) ?_
    obtain ⟨g9, h⟩ := q_gd_some h
    refine q_iald hx hb F S (q_k_7_1 (of_decide_eq_true g4)) (q_n_7_1 (of_decide_eq_true g4)) g9 dX9_begun_21 ?_
    refine lv_goto (tgt := 26) hx hb dX9_begun_22 (by decide) ?_
    exact q_iret hx hb hr S h hlk dX9_begun_26
def L_X9_bars_21 (x1 : Int32) (x2 : Int32) (Kx : q_M → Option (Int32 × q_M)) : Nat → Int32 → Int32 → q_M → Option (Int32 × q_M)
  | 0, _, _, _ => none
  | n + 1, v3, v4, μ => (if (μ.1 1 1) ≤ v4 then Kx μ else q_bd (f_X3_whyNotBearing v4 μ) (fun r9 μ7 => (if r9 = 0 then q_le (v4 + 1 : Int32) (fun y11 => (L_X9_bars_21 x1 x2 Kx n) v3 y11 μ7) else q_le (v3 + 1 : Int32) (fun y12 => (if v3 = x1 then (if x2 = 0 then some (v4, μ7) else some (r9, μ7)) else q_le (v4 + 1 : Int32) (fun y14 => (L_X9_bars_21 x1 x2 Kx n) y12 y14 μ7))))))
def f_X9_bars (x1 : Int32) (x2 : Int32) (μ : q_M) : Option (Int32 × q_M) := (if x1 < 0 then some ((-1), μ) else q_bd (f_X9_isWithin x2.toInt64 0 1 μ) (fun r4 μ2 => (if r4 = 0 then some ((-1), μ2) else L_X9_bars_21 x1 x2 (fun μ => some ((-1), μ)) q_fu 0 0 μ2)))
set_option maxHeartbeats 4000000 in
set_option maxRecDepth 100000 in
theorem c_X9_bars (l : Launch) (E : q_E) (hE : q_I E) (x1 : Int32) (x2 : Int32) (μ μr : q_M) (r : Int32) (h : f_X9_bars x1 x2 μ = some (r, μr)) : Met l yX9_bars wsX9_bars ({ frames := 2, cells := 0, slots := 0, locals := 43 }) (q_Pc E μ [.ref (E.2.2.2 0), .int x1, .int x2]) (q_Qi E r μr) 0 0 (q_A E) := by
  refine q_met (cc := cX9_bars) (maxL := 6) (ret := (some .int)) hE (by decide) rfl (Nat.le_of_ble_eq_true rfl) ?_
  intro p e s m below meth c hx hb hr hml hown hts hlk F S ls hl
  have hl : lv_has ls 6 [(0, .ref (E.2.2.2 0)), (1, .int x1), (2, .int x2)] := hl
  have i3 : ∀ w ∈ u_ws RX3 TX3 7, w ∈ wsX9_bars := by decide +kernel
  have i9 : ∀ w ∈ u_ws RX9 TX9 4, w ∈ wsX9_bars := by decide +kernel
  have hL21 : ∀ (Kx : q_M → Option (Int32 × q_M)), (∀ (μ : q_M) (H : Heap) (locs : List Loc) (ls : Array Slot), q_S E (q_A E) s μ H locs → lv_has ls 6 [] → Kx μ = some (r, μr) → W p l e ({ frames := 2, cells := 0, slots := 0, locals := 43 }) s m ([.ref (E.2.2.2 0), .int x1, .int x2] : List Value).toArray below meth c H locs 0 0 (MQ below (q_Qi E r μr) ([.ref (E.2.2.2 0), .int x1, .int x2] : List Value).toArray s 0 0 (q_A E)) (F0 m 75 ls [])) → ∀ (n : Nat), ∀ (v3 : Int32), ∀ (v4 : Int32), ∀ (μ : q_M) (H : Heap) (locs : List Loc) (ls : Array Slot), q_S E (q_A E) s μ H locs → lv_has ls 6 [(0, .ref (E.2.2.2 0)), (1, .int x1), (2, .int x2), (3, .int v3), (4, .int v4)] → L_X9_bars_21 x1 x2 Kx n v3 v4 μ = some (r, μr) → W p l e ({ frames := 2, cells := 0, slots := 0, locals := 43 }) s m ([.ref (E.2.2.2 0), .int x1, .int x2] : List Value).toArray below meth c H locs 0 0 (MQ below (q_Qi E r μr) ([.ref (E.2.2.2 0), .int x1, .int x2] : List Value).toArray s 0 0 (q_A E)) (F0 m 21 ls []) := by
    intro Kx hKx n
    induction n with
    | zero => intro v3 v4 μ H locs ls S hl h; exact absurd h (by simp [L_X9_bars_21])
    | succ n ih =>
      intro v3 v4 μ H locs ls S hl h
      rw [L_X9_bars_21] at h
      refine lv_iload hx hb dX9_bars_21 (lv_at hl 4 rfl) ?_
      refine lv_aload_n hx hb dX9_bars_23 rfl (lv_at hl 0 rfl) ?_
      refine q_getr (own := RX9) (C := RX9) (T := TX9) (N := 4) (ci := 9) (j := 0)  (b := 1) hx hb hts i9 hown F S q_k0 (by decide) rfl (by decide) (by decide) rfl (by decide) (hts (.fieldLink RX9 12 "HeavyRoutes" "net" "LHeavyRoutes$Net;") (by decide +kernel)) dX9_bars_24 ?_
      refine q_getiN (own := RX9) (C := RX3) (T := TX3) (N := 7) (ci := 3) (j := 1) (host := "HeavyRoutes") hx hb hts i3 hown F S q_k1 (by decide) rfl (by decide) (by decide) rfl (by decide +kernel) dX9_bars_27 ?_
      refine lv_icmp_ge (tgt := 75) hx hb dX9_bars_30 (by decide) (fun c6 => ?_) (fun c6 => ?_)
      · have h := q_ip c6 h
        exact hKx μ H locs ls S (lv_sub hl [] rfl) h
      · have h := q_ig c6 h
        refine lv_aload_n hx hb dX9_bars_33 rfl (lv_at hl 0 rfl) ?_
        refine q_getr (own := RX9) (C := RX9) (T := TX9) (N := 4) (ci := 9) (j := 0)  (b := 1) hx hb hts i9 hown F S q_k0 (by decide) rfl (by decide) (by decide) rfl (by decide) (hts (.fieldLink RX9 12 "HeavyRoutes" "net" "LHeavyRoutes$Net;") (by decide +kernel)) dX9_bars_34 ?_
        refine lv_iload hx hb dX9_bars_37 (lv_at hl 4 rfl) ?_
        obtain ⟨r9, μ7, hc8, h⟩ := q_bd_some h
        refine q_ki F S (q_runV (As := [.int v4]) (rest := []) (b := 1) ⟨hx, hb, hml, hown, hts⟩ F S (c_X3_whyNotBearing l E hE v4 μ μ7 r9 hc8) (cwV 1 hts gX9_bars_X3_whyNotBearing rfl rfl rfl (by decide +kernel) ⟨Nat.le_of_ble_eq_true rfl, Nat.le_of_ble_eq_true rfl⟩) q_k1 (by decide) rfl rfl hl.1 rfl (Nat.le_of_ble_eq_true rfl) dX9_bars_39 ⟨Nat.zero_le _, Nat.zero_le _⟩) (fun H locs S => ?_)
        refine lv_istore (lv' := [(5, .int r9), (0, .ref (E.2.2.2 0)), (1, .int x1), (2, .int x2), (3, .int v3), (4, .int v4)]) hx hb dX9_bars_42 hl (by decide) rfl (fun ls hl => ?_)
        refine lv_iload hx hb dX9_bars_44 (lv_at hl 0 rfl) ?_
        refine lv_if_eq (tgt := 69) hx hb dX9_bars_46 (by decide) (fun c10 => ?_) (fun c10 => ?_)
        · have h := q_ip c10 h
          obtain ⟨y11, ey11⟩ : ∃ z : Int32, z = v4 + 1 := ⟨_, rfl⟩
          have h := q_le_e h ey11
          refine lv_iinc (v := y11) (lv' := [(4, .int y11), (5, .int r9), (0, .ref (E.2.2.2 0)), (1, .int x1), (2, .int x2), (3, .int v3)]) hx hb dX9_bars_69 hl (k := 5) rfl (by rw [ey11]; rfl) (by decide) rfl (fun ls hl => ?_)
          refine lv_goto (tgt := 21) hx hb dX9_bars_72 (by decide) ?_
          exact ih v3 y11 μ7 H locs ls S (lv_sub hl [2, 3, 4, 5, 0] rfl) h
        · have h := q_ig c10 h
          refine lv_iload_n hx hb dX9_bars_49 rfl (lv_at hl 4 rfl) ?_
          obtain ⟨y12, ey12⟩ : ∃ z : Int32, z = v3 + 1 := ⟨_, rfl⟩
          have h := q_le_e h ey12
          refine lv_iinc (v := y12) (lv' := [(3, .int y12), (5, .int r9), (0, .ref (E.2.2.2 0)), (1, .int x1), (2, .int x2), (4, .int v4)]) hx hb dX9_bars_50 hl (k := 4) rfl (by rw [ey12]; rfl) (by decide) rfl (fun ls hl => ?_)
          refine lv_iload_n hx hb dX9_bars_53 rfl (lv_at hl 3 rfl) ?_
          refine lv_icmp_ne (tgt := 69) hx hb dX9_bars_54 (by decide) (fun c13 => ?_) (fun c13 => ?_)
          · have h := q_ig c13 h
            obtain ⟨y14, ey14⟩ : ∃ z : Int32, z = v4 + 1 := ⟨_, rfl⟩
            have h := q_le_e h ey14
            refine lv_iinc (v := y14) (lv' := [(4, .int y14), (3, .int y12), (5, .int r9), (0, .ref (E.2.2.2 0)), (1, .int x1), (2, .int x2)]) hx hb dX9_bars_69 hl (k := 5) rfl (by rw [ey14]; rfl) (by decide) rfl (fun ls hl => ?_)
            refine lv_goto (tgt := 21) hx hb dX9_bars_72 (by decide) ?_
            exact ih y12 y14 μ7 H locs ls S (lv_sub hl [3, 4, 5, 1, 0] rfl) h
          · have h := q_ip c13 h
            refine lv_iload_n hx hb dX9_bars_57 rfl (lv_at hl 4 rfl) ?_
            refine lv_if_ne (tgt := 66) hx hb dX9_bars_58 (by decide) (fun c15 => ?_) (fun c15 => ?_)
            · have h := q_ig c15 h
              refine lv_iload hx hb dX9_bars_66 (lv_at hl 1 rfl) ?_
              exact q_iret hx hb hr S h hlk dX9_bars_68
            · have h := q_ip c15 h
              refine lv_iload hx hb dX9_bars_61 (lv_at hl 5 rfl) ?_
              refine lv_goto (tgt := 68) hx hb dX9_bars_63 (by decide) ?_
              exact q_iret hx hb hr S h hlk dX9_bars_68
  unfold f_X9_bars at h
  obtain ⟨H, eH⟩ : ∃ z, z = s.heap := ⟨_, rfl⟩
  obtain ⟨locs, eL⟩ : ∃ z : List Loc, z = [] := ⟨_, rfl⟩
  rw [← eH, ← eL] at S
  suffices hh : W p l e ({ frames := 2, cells := 0, slots := 0, locals := 43 }) s m ([.ref (E.2.2.2 0), .int x1, .int x2] : List Value).toArray below meth c H locs 0 0 (MQ below (q_Qi E r μr) ([.ref (E.2.2.2 0), .int x1, .int x2] : List Value).toArray s 0 0 (q_A E)) (F0 m 0 ls []) by rw [eH, eL] at hh; exact hh
  refine lv_iload_n hx hb dX9_bars_0 rfl (lv_at hl 1 rfl) ?_
  refine lv_if_lt (tgt := 14) hx hb dX9_bars_1 (by decide) (fun c1 => ?_) (fun c1 => ?_)
  · have h := q_ip c1 h
    refine lv_iconst (v := (-1)) hx hb dX9_bars_14 (by decide) ?_
    exact q_iret hx hb hr S h hlk dX9_bars_15
  · have h := q_ig c1 h
    refine lv_iload_n hx hb dX9_bars_4 rfl (lv_at hl 2 rfl) ?_
    refine lv_i2l (v := x2.toInt64) hx hb dX9_bars_5 rfl ?_
    refine lv_lconst (v := 0) hx hb dX9_bars_6 (by decide) ?_
    refine lv_lconst (v := 1) hx hb dX9_bars_7 (by decide) ?_
    obtain ⟨r4, μ2, hc3, h⟩ := q_bd_some h
    refine q_ki F S (q_runS (As := [.long x2.toInt64, .long 0, .long 1]) (rest := []) ⟨hx, hb, hml, hown, hts⟩ F S (c_X9_isWithin l E hE x2.toInt64 0 1 μ μ2 r4 hc3) (va_cwS 3 hts gX9_bars_X9_isWithin rfl rfl rfl (by decide +kernel) ⟨Nat.le_of_ble_eq_true rfl, Nat.le_of_ble_eq_true rfl⟩) rfl hl.1 rfl (Nat.le_of_ble_eq_true rfl) dX9_bars_8 ⟨Nat.zero_le _, Nat.zero_le _⟩) (fun H locs S => ?_)
    refine lv_if_ne (tgt := 16) hx hb dX9_bars_11 (by decide) (fun c5 => ?_) (fun c5 => ?_)
    · have h := q_ig c5 h
      refine lv_iconst (v := 0) hx hb dX9_bars_16 (by decide) ?_
      refine lv_istore_n (lv' := [(3, .int 0), (0, .ref (E.2.2.2 0)), (1, .int x1), (2, .int x2)]) hx hb dX9_bars_17 rfl hl (by decide) rfl (fun ls hl => ?_)
      refine lv_iconst (v := 0) hx hb dX9_bars_18 (by decide) ?_
      refine lv_istore (lv' := [(4, .int 0), (3, .int 0), (0, .ref (E.2.2.2 0)), (1, .int x1), (2, .int x2)]) hx hb dX9_bars_19 hl (by decide) rfl (fun ls hl => ?_)
      refine hL21 _ (fun μ H locs ls S hl h => ?_) q_fu 0 0 μ2 H locs ls S (lv_sub hl [2, 3, 4, 1, 0] rfl) h
      refine lv_iconst (v := (-1)) hx hb dX9_bars_75 (by decide) ?_
      exact q_iret hx hb hr S h hlk dX9_bars_76
    · have h := q_ip c5 h
      refine lv_iconst (v := (-1)) hx hb dX9_bars_14 (by decide) ?_
      exact q_iret hx hb hr S h hlk dX9_bars_15
def f_X9_alternate (x1 : Int64) (x3 : Int64) (μ : q_M) : Option (Int32 × q_M) := q_bd (f_X9_isWithin x3 1 100 μ) (fun r3 μ1 => (if r3 = 0 then some ((-2), μ1) else q_bd (f_X9_isWithin x1 0 x3 μ1) (fun r7 μ5 => (if r7 = 0 then some ((-2), μ5) else (if (μ5.1 2 5) = 0 then some ((-2), μ5) else (if (μ5.1 2 5) < 5 then q_bd (f_X1_limitSharing x1 x3 μ5) (fun u11 μ11 => q_bd (f_X1_lookThrough  μ11) (fun u13 μ13 => q_bd (f_X1_keepBest  μ13) (fun r17 μ15 => some (r17, μ15)))) else some ((-2), μ5)))))))
set_option maxHeartbeats 4000000 in
set_option maxRecDepth 100000 in
theorem c_X9_alternate (l : Launch) (E : q_E) (hE : q_I E) (x1 : Int64) (x3 : Int64) (μ μr : q_M) (r : Int32) (h : f_X9_alternate x1 x3 μ = some (r, μr)) : Met l yX9_alternate wsX9_alternate ({ frames := 58, cells := 0, slots := 0, locals := 2284 }) (q_Pc E μ [.ref (E.2.2.2 0), .long x1, .long x3]) (q_Qi E r μr) 0 0 (q_A E) := by
  refine q_met (cc := cX9_alternate) (maxL := 5) (ret := (some .int)) hE (by decide) rfl (Nat.le_of_ble_eq_true rfl) ?_
  intro p e s m below meth c hx hb hr hml hown hts hlk F S ls hl
  have hl : lv_has ls 5 [(0, .ref (E.2.2.2 0)), (1, .long x1), (3, .long x3)] := hl
  have i1 : ∀ w ∈ u_ws RX1 TX1 15, w ∈ wsX9_alternate := by decide +kernel
  have i9 : ∀ w ∈ u_ws RX9 TX9 4, w ∈ wsX9_alternate := by decide +kernel
  unfold f_X9_alternate at h
  obtain ⟨H, eH⟩ : ∃ z, z = s.heap := ⟨_, rfl⟩
  obtain ⟨locs, eL⟩ : ∃ z : List Loc, z = [] := ⟨_, rfl⟩
  rw [← eH, ← eL] at S
  suffices hh : W p l e ({ frames := 58, cells := 0, slots := 0, locals := 2284 }) s m ([.ref (E.2.2.2 0), .long x1, .long x3] : List Value).toArray below meth c H locs 0 0 (MQ below (q_Qi E r μr) ([.ref (E.2.2.2 0), .long x1, .long x3] : List Value).toArray s 0 0 (q_A E)) (F0 m 0 ls []) by rw [eH, eL] at hh; exact hh
  refine lv_lload_n hx hb dX9_alternate_0 rfl (lv_at hl 2 rfl) ?_
  refine lv_lconst (v := 1) hx hb dX9_alternate_1 (by decide) ?_
  refine lv_ldc2 (v := 100) hx hb hown (hts (.constantLong RX9 195 (100)) (by decide +kernel)) dX9_alternate_2 ?_
  obtain ⟨r3, μ1, hc2, h⟩ := q_bd_some h
  refine q_ki F S (q_runS (As := [.long x3, .long 1, .long 100]) (rest := []) ⟨hx, hb, hml, hown, hts⟩ F S (c_X9_isWithin l E hE x3 1 100 μ μ1 r3 hc2) (va_cwS 3 hts gX9_alternate_X9_isWithin rfl rfl rfl (by decide +kernel) ⟨Nat.le_of_ble_eq_true rfl, Nat.le_of_ble_eq_true rfl⟩) rfl hl.1 rfl (Nat.le_of_ble_eq_true rfl) dX9_alternate_5 ⟨Nat.zero_le _, Nat.zero_le _⟩) (fun H locs S => ?_)
  refine lv_if_eq (tgt := 20) hx hb dX9_alternate_8 (by decide) (fun c4 => ?_) (fun c4 => ?_)
  · have h := q_ip c4 h
    refine lv_bipush (v := (-2)) hx hb dX9_alternate_20 (by decide) ?_
    exact q_iret hx hb hr S h hlk dX9_alternate_22
  · have h := q_ig c4 h
    refine lv_lload_n hx hb dX9_alternate_11 rfl (lv_at hl 1 rfl) ?_
    refine lv_lconst (v := 0) hx hb dX9_alternate_12 (by decide) ?_
    refine lv_lload_n hx hb dX9_alternate_13 rfl (lv_at hl 2 rfl) ?_
    obtain ⟨r7, μ5, hc6, h⟩ := q_bd_some h
    refine q_ki F S (q_runS (As := [.long x1, .long 0, .long x3]) (rest := []) ⟨hx, hb, hml, hown, hts⟩ F S (c_X9_isWithin l E hE x1 0 x3 μ1 μ5 r7 hc6) (va_cwS 3 hts gX9_alternate_X9_isWithin rfl rfl rfl (by decide +kernel) ⟨Nat.le_of_ble_eq_true rfl, Nat.le_of_ble_eq_true rfl⟩) rfl hl.1 rfl (Nat.le_of_ble_eq_true rfl) dX9_alternate_14 ⟨Nat.zero_le _, Nat.zero_le _⟩) (fun H locs S => ?_)
    refine lv_if_ne (tgt := 23) hx hb dX9_alternate_17 (by decide) (fun c8 => ?_) (fun c8 => ?_)
    · have h := q_ig c8 h
      refine lv_aload_n hx hb dX9_alternate_23 rfl (lv_at hl 0 rfl) ?_
      refine q_getr (own := RX9) (C := RX9) (T := TX9) (N := 4) (ci := 9) (j := 1)  (b := 2) hx hb hts i9 hown F S q_k0 (by decide) rfl (by decide) (by decide) rfl (by decide) (hts (.fieldLink RX9 21 "HeavyRoutes" "finder" "LHeavyRoutes$Finder;") (by decide +kernel)) dX9_alternate_24 ?_
      refine q_getiN (own := RX9) (C := RX1) (T := TX1) (N := 15) (ci := 1) (j := 5) (host := "HeavyRoutes") hx hb hts i1 hown F S q_k2 (by decide) rfl (by decide) (by decide) rfl (by decide +kernel) dX9_alternate_27 ?_
      refine lv_if_eq (tgt := 44) hx hb dX9_alternate_30 (by decide) (fun c9 => ?_) (fun c9 => ?_)
      · have h := q_ip c9 h
        refine lv_bipush (v := (-2)) hx hb dX9_alternate_44 (by decide) ?_
        exact q_iret hx hb hr S h hlk dX9_alternate_46
      · have h := q_ig c9 h
        refine lv_aload_n hx hb dX9_alternate_33 rfl (lv_at hl 0 rfl) ?_
        refine q_getr (own := RX9) (C := RX9) (T := TX9) (N := 4) (ci := 9) (j := 1)  (b := 2) hx hb hts i9 hown F S q_k0 (by decide) rfl (by decide) (by decide) rfl (by decide) (hts (.fieldLink RX9 21 "HeavyRoutes" "finder" "LHeavyRoutes$Finder;") (by decide +kernel)) dX9_alternate_34 ?_
        refine q_getiN (own := RX9) (C := RX1) (T := TX1) (N := 15) (ci := 1) (j := 5) (host := "HeavyRoutes") hx hb hts i1 hown F S q_k2 (by decide) rfl (by decide) (by decide) rfl (by decide +kernel) dX9_alternate_37 ?_
        refine lv_iconst (v := 5) hx hb dX9_alternate_40 (by decide) ?_
        refine lv_icmp_lt (tgt := 47) hx hb dX9_alternate_41 (by decide) (fun c10 => ?_) (fun c10 => ?_)
        · have h := q_ip c10 h
          refine lv_aload_n hx hb dX9_alternate_47 rfl (lv_at hl 0 rfl) ?_
          refine q_getr (own := RX9) (C := RX9) (T := TX9) (N := 4) (ci := 9) (j := 1)  (b := 2) hx hb hts i9 hown F S q_k0 (by decide) rfl (by decide) (by decide) rfl (by decide) (hts (.fieldLink RX9 21 "HeavyRoutes" "finder" "LHeavyRoutes$Finder;") (by decide +kernel)) dX9_alternate_48 ?_
          refine lv_lload_n hx hb dX9_alternate_51 rfl (lv_at hl 1 rfl) ?_
          refine lv_lload_n hx hb dX9_alternate_52 rfl (lv_at hl 2 rfl) ?_
          obtain ⟨u11, μ11, hc12, h⟩ := q_bd_some h
          refine q_kv F S (q_runV (As := [.long x1, .long x3]) (rest := []) (b := 2) ⟨hx, hb, hml, hown, hts⟩ F S (c_X1_limitSharing l E hE x1 x3 μ5 μ11 u11 hc12) (cwV 2 hts gX9_alternate_X1_limitSharing rfl rfl rfl (by decide +kernel) ⟨Nat.le_of_ble_eq_true rfl, Nat.le_of_ble_eq_true rfl⟩) q_k2 (by decide) rfl rfl hl.1 rfl (Nat.le_of_ble_eq_true rfl) dX9_alternate_53 ⟨Nat.zero_le _, Nat.zero_le _⟩) (fun H locs S => ?_)
          refine lv_aload_n hx hb dX9_alternate_56 rfl (lv_at hl 0 rfl) ?_
          refine q_getr (own := RX9) (C := RX9) (T := TX9) (N := 4) (ci := 9) (j := 1)  (b := 2) hx hb hts i9 hown F S q_k0 (by decide) rfl (by decide) (by decide) rfl (by decide) (hts (.fieldLink RX9 21 "HeavyRoutes" "finder" "LHeavyRoutes$Finder;") (by decide +kernel)) dX9_alternate_57 ?_
          obtain ⟨u13, μ13, hc14, h⟩ := q_bd_some h
          refine q_kv F S (q_runV (As := []) (rest := []) (b := 2) ⟨hx, hb, hml, hown, hts⟩ F S (c_X1_lookThrough l E hE  μ11 μ13 u13 hc14) (cwV 0 hts gX9_alternate_X1_lookThrough rfl rfl rfl (by decide +kernel) ⟨Nat.le_of_ble_eq_true rfl, Nat.le_of_ble_eq_true rfl⟩) q_k2 (by decide) rfl rfl hl.1 rfl (Nat.le_of_ble_eq_true rfl) dX9_alternate_60 ⟨Nat.zero_le _, Nat.zero_le _⟩) (fun H locs S => ?_)
          refine lv_aload_n hx hb dX9_alternate_63 rfl (lv_at hl 0 rfl) ?_
          refine q_getr (own := RX9) (C := RX9) (T := TX9) (N := 4) (ci := 9) (j := 1)  (b := 2) hx hb hts i9 hown F S q_k0 (by decide) rfl (by decide) (by decide) rfl (by decide) (hts (.fieldLink RX9 21 "HeavyRoutes" "finder" "LHeavyRoutes$Finder;") (by decide +kernel)) dX9_alternate_64 ?_
          obtain ⟨r17, μ15, hc16, h⟩ := q_bd_some h
          refine q_ki F S (q_runV (As := []) (rest := []) (b := 2) ⟨hx, hb, hml, hown, hts⟩ F S (c_X1_keepBest l E hE  μ13 μ15 r17 hc16) (cwV 0 hts gX9_alternate_X1_keepBest rfl rfl rfl (by decide +kernel) ⟨Nat.le_of_ble_eq_true rfl, Nat.le_of_ble_eq_true rfl⟩) q_k2 (by decide) rfl rfl hl.1 rfl (Nat.le_of_ble_eq_true rfl) dX9_alternate_67 ⟨Nat.zero_le _, Nat.zero_le _⟩) (fun H locs S => ?_)
          exact q_iret hx hb hr S h hlk dX9_alternate_70
        · have h := q_ig c10 h
          refine lv_bipush (v := (-2)) hx hb dX9_alternate_44 (by decide) ?_
          exact q_iret hx hb hr S h hlk dX9_alternate_46
    · have h := q_ip c8 h
      refine lv_bipush (v := (-2)) hx hb dX9_alternate_20 (by decide) ?_
      exact q_iret hx hb hr S h hlk dX9_alternate_22
def f_X9_slow (x1 : Int32) (x2 : Int32) (μ : q_M) : Option (Int32 × q_M) := q_bd (f_X3_hasBridge x1 μ) (fun r3 μ1 => (if r3 = 0 then some ((-1), μ1) else q_bd (f_X1_forget  μ1) (fun u5 μ5 => q_gd (q_ix x1 6) (q_le ((μ5.1 (50 + x1.toNatClampNeg) 0) : Int32) (fun y8 => q_gd (q_zb x2) (q_le (q_si μ5 (50 + x1.toNatClampNeg) 0 x2) (fun μ10 => (if y8 = 0 then some (0, μ10) else some (1, μ10)))))))))
set_option maxHeartbeats 4000000 in
set_option maxRecDepth 100000 in
theorem c_X9_slow (l : Launch) (E : q_E) (hE : q_I E) (x1 : Int32) (x2 : Int32) (μ μr : q_M) (r : Int32) (h : f_X9_slow x1 x2 μ = some (r, μr)) : Met l yX9_slow wsX9_slow ({ frames := 1, cells := 0, slots := 0, locals := 21 }) (q_Pc E μ [.ref (E.2.2.2 0), .int x1, .int x2]) (q_Qi E r μr) 0 0 (q_A E) := by
  refine q_met (cc := cX9_slow) (maxL := 4) (ret := (some .int)) hE (by decide) rfl (Nat.le_of_ble_eq_true rfl) ?_
  intro p e s m below meth c hx hb hr hml hown hts hlk F S ls hl
  have hl : lv_has ls 4 [(0, .ref (E.2.2.2 0)), (1, .int x1), (2, .int x2)] := hl
  have i0 : ∀ w ∈ u_ws RX0 TX0 8, w ∈ wsX9_slow := by decide +kernel
  have i3 : ∀ w ∈ u_ws RX3 TX3 7, w ∈ wsX9_slow := by decide +kernel
  have i9 : ∀ w ∈ u_ws RX9 TX9 4, w ∈ wsX9_slow := by decide +kernel
  unfold f_X9_slow at h
  obtain ⟨H, eH⟩ : ∃ z, z = s.heap := ⟨_, rfl⟩
  obtain ⟨locs, eL⟩ : ∃ z : List Loc, z = [] := ⟨_, rfl⟩
  rw [← eH, ← eL] at S
  suffices hh : W p l e ({ frames := 1, cells := 0, slots := 0, locals := 21 }) s m ([.ref (E.2.2.2 0), .int x1, .int x2] : List Value).toArray below meth c H locs 0 0 (MQ below (q_Qi E r μr) ([.ref (E.2.2.2 0), .int x1, .int x2] : List Value).toArray s 0 0 (q_A E)) (F0 m 0 ls []) by rw [eH, eL] at hh; exact hh
  refine lv_aload_n hx hb dX9_slow_0 rfl (lv_at hl 0 rfl) ?_
  refine q_getr (own := RX9) (C := RX9) (T := TX9) (N := 4) (ci := 9) (j := 0)  (b := 1) hx hb hts i9 hown F S q_k0 (by decide) rfl (by decide) (by decide) rfl (by decide) (hts (.fieldLink RX9 12 "HeavyRoutes" "net" "LHeavyRoutes$Net;") (by decide +kernel)) dX9_slow_1 ?_
  refine lv_iload_n hx hb dX9_slow_4 rfl (lv_at hl 1 rfl) ?_
  obtain ⟨r3, μ1, hc2, h⟩ := q_bd_some h
  refine q_ki F S (q_runV (As := [.int x1]) (rest := []) (b := 1) ⟨hx, hb, hml, hown, hts⟩ F S (c_X3_hasBridge l E hE x1 μ μ1 r3 hc2) (cwV 1 hts gX9_slow_X3_hasBridge rfl rfl rfl (by decide +kernel) ⟨Nat.le_of_ble_eq_true rfl, Nat.le_of_ble_eq_true rfl⟩) q_k1 (by decide) rfl rfl hl.1 rfl (Nat.le_of_ble_eq_true rfl) dX9_slow_5 ⟨Nat.zero_le _, Nat.zero_le _⟩) (fun H locs S => ?_)
  refine lv_if_ne (tgt := 13) hx hb dX9_slow_8 (by decide) (fun c4 => ?_) (fun c4 => ?_)
  · have h := q_ig c4 h
    refine lv_aload_n hx hb dX9_slow_13 rfl (lv_at hl 0 rfl) ?_
    refine q_getr (own := RX9) (C := RX9) (T := TX9) (N := 4) (ci := 9) (j := 1)  (b := 2) hx hb hts i9 hown F S q_k0 (by decide) rfl (by decide) (by decide) rfl (by decide) (hts (.fieldLink RX9 21 "HeavyRoutes" "finder" "LHeavyRoutes$Finder;") (by decide +kernel)) dX9_slow_14 ?_
    obtain ⟨u5, μ5, hc6, h⟩ := q_bd_some h
    refine q_kv F S (q_runV (As := []) (rest := []) (b := 2) ⟨hx, hb, hml, hown, hts⟩ F S (c_X1_forget l E hE  μ1 μ5 u5 hc6) (cwV 0 hts gX9_slow_X1_forget rfl rfl rfl (by decide +kernel) ⟨Nat.le_of_ble_eq_true rfl, Nat.le_of_ble_eq_true rfl⟩) q_k2 (by decide) rfl rfl hl.1 rfl (Nat.le_of_ble_eq_true rfl) dX9_slow_17 ⟨Nat.zero_le _, Nat.zero_le _⟩) (fun H locs S => ?_)
    refine lv_aload_n hx hb dX9_slow_20 rfl (lv_at hl 0 rfl) ?_
    refine q_getr (own := RX9) (C := RX9) (T := TX9) (N := 4) (ci := 9) (j := 0)  (b := 1) hx hb hts i9 hown F S q_k0 (by decide) rfl (by decide) (by decide) rfl (by decide) (hts (.fieldLink RX9 12 "HeavyRoutes" "net" "LHeavyRoutes$Net;") (by decide +kernel)) dX9_slow_21 ?_
    refine q_getrN (own := RX9) (C := RX3) (T := TX3) (N := 7) (ci := 3) (j := 4) (host := "HeavyRoutes") (b := 7) hx hb hts i3 hown F S q_k1 (by decide) rfl (by decide) (by decide) rfl (by decide) (by decide +kernel) dX9_slow_24 ?_
    refine lv_iload_n hx hb dX9_slow_27 rfl (lv_at hl 1 rfl) ?_
    obtain ⟨g7, h⟩ := q_gd_some h
    refine q_rald (t := 1) hx hb F S q_k7 (by decide) rfl q_n7 (q_pe15 x1.toNatClampNeg) g7 dX9_slow_28 ?_
    refine q_getiN (own := RX9) (C := RX0) (T := TX0) (N := 8) (ci := 0) (j := 0) (host := "HeavyRoutes") hx hb hts i0 hown F S (q_e15 g7) (by decide) rfl (by decide) (by decide) rfl (by decide +kernel) dX9_slow_29 ?_
    refine lv_topi (fun y8 ey8 => ?_)
    have h := q_le_e h ey8
    refine lv_istore_n (lv' := [(3, .int y8), (0, .ref (E.2.2.2 0)), (1, .int x1), (2, .int x2)]) hx hb dX9_slow_32 rfl hl (by decide) rfl (fun ls hl => ?_)
    refine lv_aload_n hx hb dX9_slow_33 rfl (lv_at hl 1 rfl) ?_
    refine q_getr (own := RX9) (C := RX9) (T := TX9) (N := 4) (ci := 9) (j := 0)  (b := 1) hx hb hts i9 hown F S q_k0 (by decide) rfl (by decide) (by decide) rfl (by decide) (hts (.fieldLink RX9 12 "HeavyRoutes" "net" "LHeavyRoutes$Net;") (by decide +kernel)) dX9_slow_34 ?_
    refine q_getrN (own := RX9) (C := RX3) (T := TX3) (N := 7) (ci := 3) (j := 4) (host := "HeavyRoutes") (b := 7) hx hb hts i3 hown F S q_k1 (by decide) rfl (by decide) (by decide) rfl (by decide) (by decide +kernel) dX9_slow_37 ?_
    refine lv_iload_n hx hb dX9_slow_40 rfl (lv_at hl 2 rfl) ?_
    refine q_rald (t := 1) hx hb F S q_k7 (by decide) rfl q_n7 (q_pe15 x1.toNatClampNeg) g7 dX9_slow_41 ?_
    refine lv_iload_n hx hb dX9_slow_42 rfl (lv_at hl 3 rfl) ?_
    obtain ⟨g9, h⟩ := q_gd_some h
    refine q_putzN (own := RX9) (C := RX0) (T := TX0) (N := 8) (ci := 0) (j := 0) (host := "HeavyRoutes") hx hb hts i0 tyX0 tyX0_ok nmX0 hown F S (q_e15 g7) (by decide) rfl (by decide) (by decide) rfl (by decide +kernel) rfl (by decide +kernel) g9 dX9_slow_43 (fun H locs μ10 eμ10 S => ?_)
    have h := q_le_e h eμ10
    refine lv_iload_n hx hb dX9_slow_46 rfl (lv_at hl 0 rfl) ?_
    refine lv_if_eq (tgt := 54) hx hb dX9_slow_47 (by decide) (fun c11 => ?_) (fun c11 => ?_)
    · have h := q_ip c11 h
      refine lv_iconst (v := 0) hx hb dX9_slow_54 (by decide) ?_
      exact q_iret hx hb hr S h hlk dX9_slow_55
    · have h := q_ig c11 h
      refine lv_iconst (v := 1) hx hb dX9_slow_50 (by decide) ?_
      refine lv_goto (tgt := 55) hx hb dX9_slow_51 (by decide) ?_
      exact q_iret hx hb hr S h hlk dX9_slow_55
  · have h := q_ip c4 h
    refine lv_iconst (v := (-1)) hx hb dX9_slow_11 (by decide) ?_
    exact q_iret hx hb hr S h hlk dX9_slow_12
def L_X9_convoy_47 (x1 : Int32) (x2 : Int32) (Kx : Int32 → q_M → Option (Int32 × q_M)) : Nat → Int32 → Int32 → q_M → Option (Int32 × q_M)
  | 0, _, _, _ => none
  | n + 1, v3, v4, μ => (if x1 ≤ v4 then Kx v3 μ else q_bd (f_X1_atHand  μ) (fun r14 μ12 => q_gd (decide (q_kd r14 = 7)) (q_bd (f_X3_endOfDrive r14 ((μ12.1 2 9) + (v4 * x2)) μ12) (fun r18 μ16 => q_le ((if v3 < r18 then r18 else v3) : Int32) (fun y19 => q_le (v4 + 1 : Int32) (fun y20 => (L_X9_convoy_47 x1 x2 Kx n) y19 y20 μ16))))))
def f_X9_convoy (x1 : Int32) (x2 : Int32) (μ : q_M) : Option (Int32 × q_M) := (if (μ.1 2 5) = 0 then some ((-1), μ) else q_bd (f_X9_isWithin x1.toInt64 1 20 μ) (fun r4 μ2 => (if r4 = 0 then some ((-1), μ2) else q_bd (f_X9_isWithin x2.toInt64 0 600 μ2) (fun r8 μ6 => (if r8 = 0 then some ((-1), μ6) else q_le ((μ6.1 2 9) : Int32) (fun y10 => L_X9_convoy_47 x1 x2 (fun v3 μ => some ((v3 - (μ.1 2 9)), μ)) q_fu y10 0 μ6))))))
set_option maxHeartbeats 4000000 in
set_option maxRecDepth 100000 in
theorem c_X9_convoy (l : Launch) (E : q_E) (hE : q_I E) (x1 : Int32) (x2 : Int32) (μ μr : q_M) (r : Int32) (h : f_X9_convoy x1 x2 μ = some (r, μr)) : Met l yX9_convoy wsX9_convoy ({ frames := 4, cells := 0, slots := 0, locals := 113 }) (q_Pc E μ [.ref (E.2.2.2 0), .int x1, .int x2]) (q_Qi E r μr) 0 0 (q_A E) := by
  refine q_met (cc := cX9_convoy) (maxL := 5) (ret := (some .int)) hE (by decide) rfl (Nat.le_of_ble_eq_true rfl) ?_
  intro p e s m below meth c hx hb hr hml hown hts hlk F S ls hl
  have hl : lv_has ls 5 [(0, .ref (E.2.2.2 0)), (1, .int x1), (2, .int x2)] := hl
  have i1 : ∀ w ∈ u_ws RX1 TX1 15, w ∈ wsX9_convoy := by decide +kernel
  have i9 : ∀ w ∈ u_ws RX9 TX9 4, w ∈ wsX9_convoy := by decide +kernel
  have hL47 : ∀ (Kx : Int32 → q_M → Option (Int32 × q_M)), (∀ (v3 : Int32), ∀ (μ : q_M) (H : Heap) (locs : List Loc) (ls : Array Slot), q_S E (q_A E) s μ H locs → lv_has ls 5 [(0, .ref (E.2.2.2 0)), (3, .int v3)] → Kx v3 μ = some (r, μr) → W p l e ({ frames := 4, cells := 0, slots := 0, locals := 113 }) s m ([.ref (E.2.2.2 0), .int x1, .int x2] : List Value).toArray below meth c H locs 0 0 (MQ below (q_Qi E r μr) ([.ref (E.2.2.2 0), .int x1, .int x2] : List Value).toArray s 0 0 (q_A E)) (F0 m 90 ls [])) → ∀ (n : Nat), ∀ (v3 : Int32), ∀ (v4 : Int32), ∀ (μ : q_M) (H : Heap) (locs : List Loc) (ls : Array Slot), q_S E (q_A E) s μ H locs → lv_has ls 5 [(0, .ref (E.2.2.2 0)), (1, .int x1), (2, .int x2), (3, .int v3), (4, .int v4)] → L_X9_convoy_47 x1 x2 Kx n v3 v4 μ = some (r, μr) → W p l e ({ frames := 4, cells := 0, slots := 0, locals := 113 }) s m ([.ref (E.2.2.2 0), .int x1, .int x2] : List Value).toArray below meth c H locs 0 0 (MQ below (q_Qi E r μr) ([.ref (E.2.2.2 0), .int x1, .int x2] : List Value).toArray s 0 0 (q_A E)) (F0 m 47 ls []) := by
    intro Kx hKx n
    induction n with
    | zero => intro v3 v4 μ H locs ls S hl h; exact absurd h (by simp [L_X9_convoy_47])
    | succ n ih =>
      intro v3 v4 μ H locs ls S hl h
      rw [L_X9_convoy_47] at h
      refine lv_iload hx hb dX9_convoy_47 (lv_at hl 4 rfl) ?_
      refine lv_iload_n hx hb dX9_convoy_49 rfl (lv_at hl 1 rfl) ?_
      refine lv_icmp_ge (tgt := 90) hx hb dX9_convoy_50 (by decide) (fun c11 => ?_) (fun c11 => ?_)
      · have h := q_ip c11 h
        exact hKx v3 μ H locs ls S (lv_sub hl [0, 3] rfl) h
      · have h := q_ig c11 h
        refine lv_iload_n hx hb dX9_convoy_53 rfl (lv_at hl 3 rfl) ?_
        refine lv_aload_n hx hb dX9_convoy_54 rfl (lv_at hl 0 rfl) ?_
        refine q_getr (own := RX9) (C := RX9) (T := TX9) (N := 4) (ci := 9) (j := 0)  (b := 1) hx hb hts i9 hown F S q_k0 (by decide) rfl (by decide) (by decide) rfl (by decide) (hts (.fieldLink RX9 12 "HeavyRoutes" "net" "LHeavyRoutes$Net;") (by decide +kernel)) dX9_convoy_55 ?_
        refine lv_aload_n hx hb dX9_convoy_58 rfl (lv_at hl 0 rfl) ?_
        refine q_getr (own := RX9) (C := RX9) (T := TX9) (N := 4) (ci := 9) (j := 1)  (b := 2) hx hb hts i9 hown F S q_k0 (by decide) rfl (by decide) (by decide) rfl (by decide) (hts (.fieldLink RX9 21 "HeavyRoutes" "finder" "LHeavyRoutes$Finder;") (by decide +kernel)) dX9_convoy_59 ?_
        obtain ⟨r14, μ12, hc13, h⟩ := q_bd_some h
        refine q_kr F S (q_runV (As := []) (rest := [.ref (E.2.2.2 1), .int v3]) (b := 2) ⟨hx, hb, hml, hown, hts⟩ F S (c_X1_atHand l E hE  μ μ12 r14 hc13) (cwV 0 hts gX9_convoy_X1_atHand rfl rfl rfl (by decide +kernel) ⟨Nat.le_of_ble_eq_true rfl, Nat.le_of_ble_eq_true rfl⟩) q_k2 (by decide) rfl rfl hl.1 rfl (Nat.le_of_ble_eq_true rfl) dX9_convoy_62 ⟨Nat.zero_le _, Nat.zero_le _⟩) (fun H locs S => ?_)
        obtain ⟨g15, h⟩ := q_gd_some h
        refine lv_aload_n hx hb dX9_convoy_65 rfl (lv_at hl 0 rfl) ?_
        refine q_getr (own := RX9) (C := RX9) (T := TX9) (N := 4) (ci := 9) (j := 1)  (b := 2) hx hb hts i9 hown F S q_k0 (by decide) rfl (by decide) (by decide) rfl (by decide) (hts (.fieldLink RX9 21 "HeavyRoutes" "finder" "LHeavyRoutes$Finder;") (by decide +kernel)) dX9_convoy_66 ?_
        refine q_getiN (own := RX9) (C := RX1) (T := TX1) (N := 15) (ci := 1) (j := 9) (host := "HeavyRoutes") hx hb hts i1 hown F S q_k2 (by decide) rfl (by decide) (by decide) rfl (by decide +kernel) dX9_convoy_69 ?_
        refine lv_iload hx hb dX9_convoy_72 (lv_at hl 4 rfl) ?_
        refine lv_iload_n hx hb dX9_convoy_74 rfl (lv_at hl 2 rfl) ?_
        refine lv_imul hx hb dX9_convoy_75 ?_
        refine lv_iadd hx hb dX9_convoy_76 ?_
        obtain ⟨r18, μ16, hc17, h⟩ := q_bd_some h
        refine q_ki F S (q_runV (As := [.ref (E.2.2.2 r14), .int ((μ12.1 2 9) + (v4 * x2))]) (rest := [.int v3]) (b := 1) ⟨hx, hb, hml, hown, hts⟩ F S (c_X3_endOfDrive l E hE r14 ((μ12.1 2 9) + (v4 * x2)) (of_decide_eq_true g15) μ12 μ16 r18 hc17) (cwV 2 hts gX9_convoy_X3_endOfDrive rfl rfl rfl (by decide +kernel) ⟨Nat.le_of_ble_eq_true rfl, Nat.le_of_ble_eq_true rfl⟩) q_k1 (by decide) rfl rfl hl.1 rfl (Nat.le_of_ble_eq_true rfl) dX9_convoy_77 ⟨Nat.zero_le _, Nat.zero_le _⟩) (fun H locs S => ?_)
        refine va_mmax hx hb (hml.trans hl.1.symm) hown (hts (.methodLink RX9 216 Lib.Math.max.name) (by decide +kernel)) (hts (.static Lib.Math.max.name) (by decide +kernel)) (hts (.initialized "java/lang/Math") (by decide +kernel)) (hts (.code Lib.Math.max.name Lib.Math.max.code 2 (some .int)) (by decide +kernel)) (Nat.le_of_ble_eq_true rfl) (Nat.le_of_ble_eq_true rfl) (Nat.zero_le _) (Nat.zero_le _) dX9_convoy_80 ?_
        refine lv_topi (fun y19 ey19 => ?_)
        have h := q_le_e h ey19
        refine lv_istore_n (lv' := [(3, .int y19), (0, .ref (E.2.2.2 0)), (1, .int x1), (2, .int x2), (4, .int v4)]) hx hb dX9_convoy_83 rfl hl (by decide) rfl (fun ls hl => ?_)
        obtain ⟨y20, ey20⟩ : ∃ z : Int32, z = v4 + 1 := ⟨_, rfl⟩
        have h := q_le_e h ey20
        refine lv_iinc (v := y20) (lv' := [(4, .int y20), (3, .int y19), (0, .ref (E.2.2.2 0)), (1, .int x1), (2, .int x2)]) hx hb dX9_convoy_84 hl (k := 4) rfl (by rw [ey20]; rfl) (by decide) rfl (fun ls hl => ?_)
        refine lv_goto (tgt := 47) hx hb dX9_convoy_87 (by decide) ?_
        exact ih y19 y20 μ16 H locs ls S (lv_sub hl [2, 3, 4, 1, 0] rfl) h
  unfold f_X9_convoy at h
  obtain ⟨H, eH⟩ : ∃ z, z = s.heap := ⟨_, rfl⟩
  obtain ⟨locs, eL⟩ : ∃ z : List Loc, z = [] := ⟨_, rfl⟩
  rw [← eH, ← eL] at S
  suffices hh : W p l e ({ frames := 4, cells := 0, slots := 0, locals := 113 }) s m ([.ref (E.2.2.2 0), .int x1, .int x2] : List Value).toArray below meth c H locs 0 0 (MQ below (q_Qi E r μr) ([.ref (E.2.2.2 0), .int x1, .int x2] : List Value).toArray s 0 0 (q_A E)) (F0 m 0 ls []) by rw [eH, eL] at hh; exact hh
  refine lv_aload_n hx hb dX9_convoy_0 rfl (lv_at hl 0 rfl) ?_
  refine q_getr (own := RX9) (C := RX9) (T := TX9) (N := 4) (ci := 9) (j := 1)  (b := 2) hx hb hts i9 hown F S q_k0 (by decide) rfl (by decide) (by decide) rfl (by decide) (hts (.fieldLink RX9 21 "HeavyRoutes" "finder" "LHeavyRoutes$Finder;") (by decide +kernel)) dX9_convoy_1 ?_
  refine q_getiN (own := RX9) (C := RX1) (T := TX1) (N := 15) (ci := 1) (j := 5) (host := "HeavyRoutes") hx hb hts i1 hown F S q_k2 (by decide) rfl (by decide) (by decide) rfl (by decide +kernel) dX9_convoy_4 ?_
  refine lv_if_eq (tgt := 34) hx hb dX9_convoy_7 (by decide) (fun c1 => ?_) (fun c1 => ?_)
  · have h := q_ip c1 h
    refine lv_iconst (v := (-1)) hx hb dX9_convoy_34 (by decide) ?_
    exact q_iret hx hb hr S h hlk dX9_convoy_35
  · have h := q_ig c1 h
    refine lv_iload_n hx hb dX9_convoy_10 rfl (lv_at hl 1 rfl) ?_
    refine lv_i2l (v := x1.toInt64) hx hb dX9_convoy_11 rfl ?_
    refine lv_lconst (v := 1) hx hb dX9_convoy_12 (by decide) ?_
    refine lv_ldc2 (v := 20) hx hb hown (hts (.constantLong RX9 207 (20)) (by decide +kernel)) dX9_convoy_13 ?_
    obtain ⟨r4, μ2, hc3, h⟩ := q_bd_some h
    refine q_ki F S (q_runS (As := [.long x1.toInt64, .long 1, .long 20]) (rest := []) ⟨hx, hb, hml, hown, hts⟩ F S (c_X9_isWithin l E hE x1.toInt64 1 20 μ μ2 r4 hc3) (va_cwS 3 hts gX9_convoy_X9_isWithin rfl rfl rfl (by decide +kernel) ⟨Nat.le_of_ble_eq_true rfl, Nat.le_of_ble_eq_true rfl⟩) rfl hl.1 rfl (Nat.le_of_ble_eq_true rfl) dX9_convoy_16 ⟨Nat.zero_le _, Nat.zero_le _⟩) (fun H locs S => ?_)
    refine lv_if_eq (tgt := 34) hx hb dX9_convoy_19 (by decide) (fun c5 => ?_) (fun c5 => ?_)
    · have h := q_ip c5 h
      refine lv_iconst (v := (-1)) hx hb dX9_convoy_34 (by decide) ?_
      exact q_iret hx hb hr S h hlk dX9_convoy_35
    · have h := q_ig c5 h
      refine lv_iload_n hx hb dX9_convoy_22 rfl (lv_at hl 2 rfl) ?_
      refine lv_i2l (v := x2.toInt64) hx hb dX9_convoy_23 rfl ?_
      refine lv_lconst (v := 0) hx hb dX9_convoy_24 (by decide) ?_
      refine lv_ldc2 (v := 600) hx hb hown (hts (.constantLong RX9 40 (600)) (by decide +kernel)) dX9_convoy_25 ?_
      obtain ⟨r8, μ6, hc7, h⟩ := q_bd_some h
      refine q_ki F S (q_runS (As := [.long x2.toInt64, .long 0, .long 600]) (rest := []) ⟨hx, hb, hml, hown, hts⟩ F S (c_X9_isWithin l E hE x2.toInt64 0 600 μ2 μ6 r8 hc7) (va_cwS 3 hts gX9_convoy_X9_isWithin rfl rfl rfl (by decide +kernel) ⟨Nat.le_of_ble_eq_true rfl, Nat.le_of_ble_eq_true rfl⟩) rfl hl.1 rfl (Nat.le_of_ble_eq_true rfl) dX9_convoy_28 ⟨Nat.zero_le _, Nat.zero_le _⟩) (fun H locs S => ?_)
      refine lv_if_ne (tgt := 36) hx hb dX9_convoy_31 (by decide) (fun c9 => ?_) (fun c9 => ?_)
      · have h := q_ig c9 h
        refine lv_aload_n hx hb dX9_convoy_36 rfl (lv_at hl 0 rfl) ?_
        refine q_getr (own := RX9) (C := RX9) (T := TX9) (N := 4) (ci := 9) (j := 1)  (b := 2) hx hb hts i9 hown F S q_k0 (by decide) rfl (by decide) (by decide) rfl (by decide) (hts (.fieldLink RX9 21 "HeavyRoutes" "finder" "LHeavyRoutes$Finder;") (by decide +kernel)) dX9_convoy_37 ?_
        refine q_getiN (own := RX9) (C := RX1) (T := TX1) (N := 15) (ci := 1) (j := 9) (host := "HeavyRoutes") hx hb hts i1 hown F S q_k2 (by decide) rfl (by decide) (by decide) rfl (by decide +kernel) dX9_convoy_40 ?_
        refine lv_topi (fun y10 ey10 => ?_)
        have h := q_le_e h ey10
        refine lv_istore_n (lv' := [(3, .int y10), (0, .ref (E.2.2.2 0)), (1, .int x1), (2, .int x2)]) hx hb dX9_convoy_43 rfl hl (by decide) rfl (fun ls hl => ?_)
        refine lv_iconst (v := 0) hx hb dX9_convoy_44 (by decide) ?_
        refine lv_istore (lv' := [(4, .int 0), (3, .int y10), (0, .ref (E.2.2.2 0)), (1, .int x1), (2, .int x2)]) hx hb dX9_convoy_45 hl (by decide) rfl (fun ls hl => ?_)
        refine hL47 _ (fun v3 μ H locs ls S hl h => ?_) q_fu y10 0 μ6 H locs ls S (lv_sub hl [2, 3, 4, 1, 0] rfl) h
        refine lv_iload_n hx hb dX9_convoy_90 rfl (lv_at hl 1 rfl) ?_
        refine lv_aload_n hx hb dX9_convoy_91 rfl (lv_at hl 0 rfl) ?_
        refine q_getr (own := RX9) (C := RX9) (T := TX9) (N := 4) (ci := 9) (j := 1)  (b := 2) hx hb hts i9 hown F S q_k0 (by decide) rfl (by decide) (by decide) rfl (by decide) (hts (.fieldLink RX9 21 "HeavyRoutes" "finder" "LHeavyRoutes$Finder;") (by decide +kernel)) dX9_convoy_92 ?_
        refine q_getiN (own := RX9) (C := RX1) (T := TX1) (N := 15) (ci := 1) (j := 9) (host := "HeavyRoutes") hx hb hts i1 hown F S q_k2 (by decide) rfl (by decide) (by decide) rfl (by decide +kernel) dX9_convoy_95 ?_
        refine lv_isub hx hb dX9_convoy_98 ?_
        exact q_iret hx hb hr S h hlk dX9_convoy_99
      · have h := q_ip c9 h
        refine lv_iconst (v := (-1)) hx hb dX9_convoy_34 (by decide) ?_
        exact q_iret hx hb hr S h hlk dX9_convoy_35
def L_X9_escort_19 (x1 : Int32) (Kx : q_M → Option (Int32 × q_M)) : Nat → Nat → Int32 → Int32 → q_M → Option (Int32 × q_M)
  | 0, _, _, _, _ => none
  | n + 1, v2, v3, v4, μ => (if (μ.1 v2 2) ≤ v4 then Kx μ else q_gd (q_ix v4 6) (q_bd (f_X3_wantsEscort (μ.1 (v2 + 8) v4.toNatClampNeg) μ) (fun r10 μ8 => (if r10 = 0 then q_le (v4 + 1 : Int32) (fun y12 => (L_X9_escort_19 x1 Kx n) v2 v3 y12 μ8) else q_le (v3 + 1 : Int32) (fun y13 => (if v3 = x1 then some ((μ8.1 (v2 + 8) v4.toNatClampNeg), μ8) else q_le (v4 + 1 : Int32) (fun y15 => (L_X9_escort_19 x1 Kx n) v2 y13 y15 μ8)))))))
def f_X9_escort (x1 : Int32) (μ : q_M) : Option (Int32 × q_M) := (if 0 ≤ x1 then q_bd (f_X1_atHand  μ) (fun r4 μ2 => q_gd (decide (q_kd r4 = 7)) (L_X9_escort_19 x1 (fun μ => some ((-1), μ)) q_fu r4 0 0 μ2)) else some ((-1), μ))
set_option maxHeartbeats 4000000 in
set_option maxRecDepth 100000 in
theorem c_X9_escort (l : Launch) (E : q_E) (hE : q_I E) (x1 : Int32) (μ μr : q_M) (r : Int32) (h : f_X9_escort x1 μ = some (r, μr)) : Met l yX9_escort wsX9_escort ({ frames := 2, cells := 0, slots := 0, locals := 43 }) (q_Pc E μ [.ref (E.2.2.2 0), .int x1]) (q_Qi E r μr) 0 0 (q_A E) := by
  refine q_met (cc := cX9_escort) (maxL := 5) (ret := (some .int)) hE (by decide) rfl (Nat.le_of_ble_eq_true rfl) ?_
  intro p e s m below meth c hx hb hr hml hown hts hlk F S ls hl
  have hl : lv_has ls 5 [(0, .ref (E.2.2.2 0)), (1, .int x1)] := hl
  have i7 : ∀ w ∈ u_ws RX7 TX7 6, w ∈ wsX9_escort := by decide +kernel
  have i9 : ∀ w ∈ u_ws RX9 TX9 4, w ∈ wsX9_escort := by decide +kernel
  have hL19 : ∀ (Kx : q_M → Option (Int32 × q_M)), (∀ (μ : q_M) (H : Heap) (locs : List Loc) (ls : Array Slot), q_S E (q_A E) s μ H locs → lv_has ls 5 [] → Kx μ = some (r, μr) → W p l e ({ frames := 2, cells := 0, slots := 0, locals := 43 }) s m ([.ref (E.2.2.2 0), .int x1] : List Value).toArray below meth c H locs 0 0 (MQ below (q_Qi E r μr) ([.ref (E.2.2.2 0), .int x1] : List Value).toArray s 0 0 (q_A E)) (F0 m 67 ls [])) → ∀ (n : Nat), ∀ (v2 : Nat), ∀ (v3 : Int32), ∀ (v4 : Int32), q_kd v2 = 7 → ∀ (μ : q_M) (H : Heap) (locs : List Loc) (ls : Array Slot), q_S E (q_A E) s μ H locs → lv_has ls 5 [(0, .ref (E.2.2.2 0)), (1, .int x1), (2, .ref (E.2.2.2 v2)), (3, .int v3), (4, .int v4)] → L_X9_escort_19 x1 Kx n v2 v3 v4 μ = some (r, μr) → W p l e ({ frames := 2, cells := 0, slots := 0, locals := 43 }) s m ([.ref (E.2.2.2 0), .int x1] : List Value).toArray below meth c H locs 0 0 (MQ below (q_Qi E r μr) ([.ref (E.2.2.2 0), .int x1] : List Value).toArray s 0 0 (q_A E)) (F0 m 19 ls []) := by
    intro Kx hKx n
    induction n with
    | zero => intro v2 v3 v4 kv2 μ H locs ls S hl h; exact absurd h (by simp [L_X9_escort_19])
    | succ n ih =>
      intro v2 v3 v4 kv2 μ H locs ls S hl h
      rw [L_X9_escort_19] at h
      refine lv_iload hx hb dX9_escort_19 (lv_at hl 4 rfl) ?_
      refine lv_aload_n hx hb dX9_escort_21 rfl (lv_at hl 2 rfl) ?_
      refine q_getiN (own := RX9) (C := RX7) (T := TX7) (N := 6) (ci := 7) (j := 2) (host := "HeavyRoutes") hx hb hts i7 hown F S kv2 (by decide) rfl (by decide) (by decide) rfl (by decide +kernel) dX9_escort_22 ?_
      refine lv_icmp_ge (tgt := 67) hx hb dX9_escort_25 (by decide) (fun c6 => ?_) (fun c6 => ?_)
      · have h := q_ip c6 h
        exact hKx μ H locs ls S (lv_sub hl [] rfl) h
      · have h := q_ig c6 h
        refine lv_aload_n hx hb dX9_escort_28 rfl (lv_at hl 0 rfl) ?_
        refine q_getr (own := RX9) (C := RX9) (T := TX9) (N := 4) (ci := 9) (j := 0)  (b := 1) hx hb hts i9 hown F S q_k0 (by decide) rfl (by decide) (by decide) rfl (by decide) (hts (.fieldLink RX9 12 "HeavyRoutes" "net" "LHeavyRoutes$Net;") (by decide +kernel)) dX9_escort_29 ?_
        refine lv_aload_n hx hb dX9_escort_32 rfl (lv_at hl 2 rfl) ?_
        refine q_getrN (own := RX9) (C := RX7) (T := TX7) (N := 6) (ci := 7) (j := 0) (host := "HeavyRoutes") hx hb hts i7 hown F S kv2 (by decide) rfl (by decide) (by decide) rfl (q_p_7_0 kv2) (by decide +kernel) dX9_escort_33 ?_
        refine lv_iload hx hb dX9_escort_36 (lv_at hl 4 rfl) ?_
        obtain ⟨g7, h⟩ := q_gd_some h
        refine q_iald hx hb F S (q_k_7_0 kv2) (q_n_7_0 kv2) g7 dX9_escort_38 ?_
        obtain ⟨r10, μ8, hc9, h⟩ := q_bd_some h
        refine q_ki F S (q_runV (As := [.int (μ.1 (v2 + 8) v4.toNatClampNeg)]) (rest := []) (b := 1) ⟨hx, hb, hml, hown, hts⟩ F S (c_X3_wantsEscort l E hE (μ.1 (v2 + 8) v4.toNatClampNeg) μ μ8 r10 hc9) (cwV 1 hts gX9_escort_X3_wantsEscort rfl rfl rfl (by decide +kernel) ⟨Nat.le_of_ble_eq_true rfl, Nat.le_of_ble_eq_true rfl⟩) q_k1 (by decide) rfl rfl hl.1 rfl (Nat.le_of_ble_eq_true rfl) dX9_escort_39 ⟨Nat.zero_le _, Nat.zero_le _⟩) (fun H locs S => ?_)
        refine lv_if_eq (tgt := 61) hx hb dX9_escort_42 (by decide) (fun c11 => ?_) (fun c11 => ?_)
        · have h := q_ip c11 h
          obtain ⟨y12, ey12⟩ : ∃ z : Int32, z = v4 + 1 := ⟨_, rfl⟩
          have h := q_le_e h ey12
          refine lv_iinc (v := y12) (lv' := [(4, .int y12), (0, .ref (E.2.2.2 0)), (1, .int x1), (2, .ref (E.2.2.2 v2)), (3, .int v3)]) hx hb dX9_escort_61 hl (k := 4) rfl (by rw [ey12]; rfl) (by decide) rfl (fun ls hl => ?_)
          refine lv_goto (tgt := 19) hx hb dX9_escort_64 (by decide) ?_
          exact ih v2 v3 y12 kv2 μ8 H locs ls S (lv_sub hl [1, 2, 3, 4, 0] rfl) h
        · have h := q_ig c11 h
          refine lv_iload_n hx hb dX9_escort_45 rfl (lv_at hl 3 rfl) ?_
          obtain ⟨y13, ey13⟩ : ∃ z : Int32, z = v3 + 1 := ⟨_, rfl⟩
          have h := q_le_e h ey13
          refine lv_iinc (v := y13) (lv' := [(3, .int y13), (0, .ref (E.2.2.2 0)), (1, .int x1), (2, .ref (E.2.2.2 v2)), (4, .int v4)]) hx hb dX9_escort_46 hl (k := 3) rfl (by rw [ey13]; rfl) (by decide) rfl (fun ls hl => ?_)
          refine lv_iload_n hx hb dX9_escort_49 rfl (lv_at hl 2 rfl) ?_
          refine lv_icmp_ne (tgt := 61) hx hb dX9_escort_50 (by decide) (fun c14 => ?_) (fun c14 => ?_)
          · have h := q_ig c14 h
            obtain ⟨y15, ey15⟩ : ∃ z : Int32, z = v4 + 1 := ⟨_, rfl⟩
            have h := q_le_e h ey15
            refine lv_iinc (v := y15) (lv' := [(4, .int y15), (3, .int y13), (0, .ref (E.2.2.2 0)), (1, .int x1), (2, .ref (E.2.2.2 v2))]) hx hb dX9_escort_61 hl (k := 4) rfl (by rw [ey15]; rfl) (by decide) rfl (fun ls hl => ?_)
            refine lv_goto (tgt := 19) hx hb dX9_escort_64 (by decide) ?_
            exact ih v2 y13 y15 kv2 μ8 H locs ls S (lv_sub hl [2, 3, 4, 1, 0] rfl) h
          · have h := q_ip c14 h
            refine lv_aload_n hx hb dX9_escort_53 rfl (lv_at hl 3 rfl) ?_
            refine q_getrN (own := RX9) (C := RX7) (T := TX7) (N := 6) (ci := 7) (j := 0) (host := "HeavyRoutes") hx hb hts i7 hown F S kv2 (by decide) rfl (by decide) (by decide) rfl (q_p_7_0 kv2) (by decide +kernel) dX9_escort_54 ?_
            refine lv_iload hx hb dX9_escort_57 (lv_at hl 4 rfl) ?_
            refine q_iald hx hb F S (q_k_7_0 kv2) (q_n_7_0 kv2) g7 dX9_escort_59 ?_
            exact q_iret hx hb hr S h hlk dX9_escort_60
  unfold f_X9_escort at h
  obtain ⟨H, eH⟩ : ∃ z, z = s.heap := ⟨_, rfl⟩
  obtain ⟨locs, eL⟩ : ∃ z : List Loc, z = [] := ⟨_, rfl⟩
  rw [← eH, ← eL] at S
  suffices hh : W p l e ({ frames := 2, cells := 0, slots := 0, locals := 43 }) s m ([.ref (E.2.2.2 0), .int x1] : List Value).toArray below meth c H locs 0 0 (MQ below (q_Qi E r μr) ([.ref (E.2.2.2 0), .int x1] : List Value).toArray s 0 0 (q_A E)) (F0 m 0 ls []) by rw [eH, eL] at hh; exact hh
  refine lv_iload_n hx hb dX9_escort_0 rfl (lv_at hl 1 rfl) ?_
  refine lv_if_ge (tgt := 6) hx hb dX9_escort_1 (by decide) (fun c1 => ?_) (fun c1 => ?_)
  · have h := q_ip c1 h
    refine lv_aload_n hx hb dX9_escort_6 rfl (lv_at hl 0 rfl) ?_
    refine q_getr (own := RX9) (C := RX9) (T := TX9) (N := 4) (ci := 9) (j := 1)  (b := 2) hx hb hts i9 hown F S q_k0 (by decide) rfl (by decide) (by decide) rfl (by decide) (hts (.fieldLink RX9 21 "HeavyRoutes" "finder" "LHeavyRoutes$Finder;") (by decide +kernel)) dX9_escort_7 ?_
    obtain ⟨r4, μ2, hc3, h⟩ := q_bd_some h
    refine q_kr F S (q_runV (As := []) (rest := []) (b := 2) ⟨hx, hb, hml, hown, hts⟩ F S (c_X1_atHand l E hE  μ μ2 r4 hc3) (cwV 0 hts gX9_escort_X1_atHand rfl rfl rfl (by decide +kernel) ⟨Nat.le_of_ble_eq_true rfl, Nat.le_of_ble_eq_true rfl⟩) q_k2 (by decide) rfl rfl hl.1 rfl (Nat.le_of_ble_eq_true rfl) dX9_escort_10 ⟨Nat.zero_le _, Nat.zero_le _⟩) (fun H locs S => ?_)
    obtain ⟨g5, h⟩ := q_gd_some h
    refine lv_astore_n (lv' := [(2, .ref (E.2.2.2 r4)), (0, .ref (E.2.2.2 0)), (1, .int x1)]) hx hb dX9_escort_13 rfl hl (by decide) rfl (fun ls hl => ?_)
    refine lv_iconst (v := 0) hx hb dX9_escort_14 (by decide) ?_
    refine lv_istore_n (lv' := [(3, .int 0), (2, .ref (E.2.2.2 r4)), (0, .ref (E.2.2.2 0)), (1, .int x1)]) hx hb dX9_escort_15 rfl hl (by decide) rfl (fun ls hl => ?_)
    refine lv_iconst (v := 0) hx hb dX9_escort_16 (by decide) ?_
    refine lv_istore (lv' := [(4, .int 0), (3, .int 0), (2, .ref (E.2.2.2 r4)), (0, .ref (E.2.2.2 0)), (1, .int x1)]) hx hb dX9_escort_17 hl (by decide) rfl (fun ls hl => ?_)
    refine hL19 _ (fun μ H locs ls S hl h => ?_) q_fu r4 0 0 (of_decide_eq_true g5) μ2 H locs ls S (lv_sub hl [3, 4, 2, 1, 0] rfl) h
    refine lv_iconst (v := (-1)) hx hb dX9_escort_67 (by decide) ?_
    exact q_iret hx hb hr S h hlk dX9_escort_68
  · have h := q_ig c1 h
    refine lv_iconst (v := (-1)) hx hb dX9_escort_4 (by decide) ?_
    exact q_iret hx hb hr S h hlk dX9_escort_5
def L_X9_notice_19 (x1 : Int32) (Kx : q_M → Option (Int32 × q_M)) : Nat → Nat → Int32 → Int32 → q_M → Option (Int32 × q_M)
  | 0, _, _, _, _ => none
  | n + 1, v2, v3, v4, μ => (if (μ.1 v2 2) ≤ v4 then Kx μ else q_gd (q_ix v4 6) (q_gd (q_ix (μ.1 (v2 + 8) v4.toNatClampNeg) 12) (q_le ((μ.1 (14 + (μ.1 (v2 + 8) v4.toNatClampNeg).toNatClampNeg) 6) : Int32) (fun y9 => (if y9 = (-1) then q_le (v4 + 1 : Int32) (fun y11 => (L_X9_notice_19 x1 Kx n) v2 v3 y11 μ) else q_le (v3 + 1 : Int32) (fun y12 => (if v3 = x1 then some (y9, μ) else q_le (v4 + 1 : Int32) (fun y14 => (L_X9_notice_19 x1 Kx n) v2 y12 y14 μ))))))))
def f_X9_notice (x1 : Int32) (μ : q_M) : Option (Int32 × q_M) := (if 0 ≤ x1 then q_bd (f_X1_atHand  μ) (fun r4 μ2 => q_gd (decide (q_kd r4 = 7)) (L_X9_notice_19 x1 (fun μ => some ((-1), μ)) q_fu r4 0 0 μ2)) else some ((-1), μ))
set_option maxHeartbeats 4000000 in
set_option maxRecDepth 100000 in
theorem c_X9_notice (l : Launch) (E : q_E) (hE : q_I E) (x1 : Int32) (μ μr : q_M) (r : Int32) (h : f_X9_notice x1 μ = some (r, μr)) : Met l yX9_notice wsX9_notice ({ frames := 1, cells := 0, slots := 0, locals := 20 }) (q_Pc E μ [.ref (E.2.2.2 0), .int x1]) (q_Qi E r μr) 0 0 (q_A E) := by
  refine q_met (cc := cX9_notice) (maxL := 6) (ret := (some .int)) hE (by decide) rfl (Nat.le_of_ble_eq_true rfl) ?_
  intro p e s m below meth c hx hb hr hml hown hts hlk F S ls hl
  have hl : lv_has ls 6 [(0, .ref (E.2.2.2 0)), (1, .int x1)] := hl
  have i3 : ∀ w ∈ u_ws RX3 TX3 7, w ∈ wsX9_notice := by decide +kernel
  have i6 : ∀ w ∈ u_ws RX6 TX6 11, w ∈ wsX9_notice := by decide +kernel
  have i7 : ∀ w ∈ u_ws RX7 TX7 6, w ∈ wsX9_notice := by decide +kernel
  have i9 : ∀ w ∈ u_ws RX9 TX9 4, w ∈ wsX9_notice := by decide +kernel
  have hL19 : ∀ (Kx : q_M → Option (Int32 × q_M)), (∀ (μ : q_M) (H : Heap) (locs : List Loc) (ls : Array Slot), q_S E (q_A E) s μ H locs → lv_has ls 6 [] → Kx μ = some (r, μr) → W p l e ({ frames := 1, cells := 0, slots := 0, locals := 20 }) s m ([.ref (E.2.2.2 0), .int x1] : List Value).toArray below meth c H locs 0 0 (MQ below (q_Qi E r μr) ([.ref (E.2.2.2 0), .int x1] : List Value).toArray s 0 0 (q_A E)) (F0 m 71 ls [])) → ∀ (n : Nat), ∀ (v2 : Nat), ∀ (v3 : Int32), ∀ (v4 : Int32), q_kd v2 = 7 → ∀ (μ : q_M) (H : Heap) (locs : List Loc) (ls : Array Slot), q_S E (q_A E) s μ H locs → lv_has ls 6 [(0, .ref (E.2.2.2 0)), (1, .int x1), (2, .ref (E.2.2.2 v2)), (3, .int v3), (4, .int v4)] → L_X9_notice_19 x1 Kx n v2 v3 v4 μ = some (r, μr) → W p l e ({ frames := 1, cells := 0, slots := 0, locals := 20 }) s m ([.ref (E.2.2.2 0), .int x1] : List Value).toArray below meth c H locs 0 0 (MQ below (q_Qi E r μr) ([.ref (E.2.2.2 0), .int x1] : List Value).toArray s 0 0 (q_A E)) (F0 m 19 ls []) := by
    intro Kx hKx n
    induction n with
    | zero => intro v2 v3 v4 kv2 μ H locs ls S hl h; exact absurd h (by simp [L_X9_notice_19])
    | succ n ih =>
      intro v2 v3 v4 kv2 μ H locs ls S hl h
      rw [L_X9_notice_19] at h
      refine lv_iload hx hb dX9_notice_19 (lv_at hl 4 rfl) ?_
      refine lv_aload_n hx hb dX9_notice_21 rfl (lv_at hl 2 rfl) ?_
      refine q_getiN (own := RX9) (C := RX7) (T := TX7) (N := 6) (ci := 7) (j := 2) (host := "HeavyRoutes") hx hb hts i7 hown F S kv2 (by decide) rfl (by decide) (by decide) rfl (by decide +kernel) dX9_notice_22 ?_
      refine lv_icmp_ge (tgt := 71) hx hb dX9_notice_25 (by decide) (fun c6 => ?_) (fun c6 => ?_)
      · have h := q_ip c6 h
        exact hKx μ H locs ls S (lv_sub hl [] rfl) h
      · have h := q_ig c6 h
        refine lv_aload_n hx hb dX9_notice_28 rfl (lv_at hl 0 rfl) ?_
        refine q_getr (own := RX9) (C := RX9) (T := TX9) (N := 4) (ci := 9) (j := 0)  (b := 1) hx hb hts i9 hown F S q_k0 (by decide) rfl (by decide) (by decide) rfl (by decide) (hts (.fieldLink RX9 12 "HeavyRoutes" "net" "LHeavyRoutes$Net;") (by decide +kernel)) dX9_notice_29 ?_
        refine q_getrN (own := RX9) (C := RX3) (T := TX3) (N := 7) (ci := 3) (j := 3) (host := "HeavyRoutes") (b := 6) hx hb hts i3 hown F S q_k1 (by decide) rfl (by decide) (by decide) rfl (by decide) (by decide +kernel) dX9_notice_32 ?_
        refine lv_aload_n hx hb dX9_notice_35 rfl (lv_at hl 2 rfl) ?_
        refine q_getrN (own := RX9) (C := RX7) (T := TX7) (N := 6) (ci := 7) (j := 0) (host := "HeavyRoutes") hx hb hts i7 hown F S kv2 (by decide) rfl (by decide) (by decide) rfl (q_p_7_0 kv2) (by decide +kernel) dX9_notice_36 ?_
        refine lv_iload hx hb dX9_notice_39 (lv_at hl 4 rfl) ?_
        obtain ⟨g7, h⟩ := q_gd_some h
        refine q_iald hx hb F S (q_k_7_0 kv2) (q_n_7_0 kv2) g7 dX9_notice_41 ?_
        obtain ⟨g8, h⟩ := q_gd_some h
        refine q_rald (t := 0) hx hb F S q_k6 (by decide) rfl q_n6 (q_pe14 (μ.1 (v2 + 8) v4.toNatClampNeg).toNatClampNeg) g8 dX9_notice_42 ?_
        refine q_getiN (own := RX9) (C := RX6) (T := TX6) (N := 11) (ci := 6) (j := 6) (host := "HeavyRoutes") hx hb hts i6 hown F S (q_e14 g8) (by decide) rfl (by decide) (by decide) rfl (by decide +kernel) dX9_notice_43 ?_
        refine lv_topi (fun y9 ey9 => ?_)
        have h := q_le_e h ey9
        refine lv_istore (lv' := [(5, .int y9), (0, .ref (E.2.2.2 0)), (1, .int x1), (2, .ref (E.2.2.2 v2)), (3, .int v3), (4, .int v4)]) hx hb dX9_notice_46 hl (by decide) rfl (fun ls hl => ?_)
        refine lv_iload hx hb dX9_notice_48 (lv_at hl 0 rfl) ?_
        refine lv_iconst (v := (-1)) hx hb dX9_notice_50 (by decide) ?_
        refine lv_icmp_eq (tgt := 65) hx hb dX9_notice_51 (by decide) (fun c10 => ?_) (fun c10 => ?_)
        · have h := q_ip c10 h
          obtain ⟨y11, ey11⟩ : ∃ z : Int32, z = v4 + 1 := ⟨_, rfl⟩
          have h := q_le_e h ey11
          refine lv_iinc (v := y11) (lv' := [(4, .int y11), (5, .int y9), (0, .ref (E.2.2.2 0)), (1, .int x1), (2, .ref (E.2.2.2 v2)), (3, .int v3)]) hx hb dX9_notice_65 hl (k := 5) rfl (by rw [ey11]; rfl) (by decide) rfl (fun ls hl => ?_)
          refine lv_goto (tgt := 19) hx hb dX9_notice_68 (by decide) ?_
          exact ih v2 v3 y11 kv2 μ H locs ls S (lv_sub hl [2, 3, 4, 5, 0] rfl) h
        · have h := q_ig c10 h
          refine lv_iload_n hx hb dX9_notice_54 rfl (lv_at hl 4 rfl) ?_
          obtain ⟨y12, ey12⟩ : ∃ z : Int32, z = v3 + 1 := ⟨_, rfl⟩
          have h := q_le_e h ey12
          refine lv_iinc (v := y12) (lv' := [(3, .int y12), (5, .int y9), (0, .ref (E.2.2.2 0)), (1, .int x1), (2, .ref (E.2.2.2 v2)), (4, .int v4)]) hx hb dX9_notice_55 hl (k := 4) rfl (by rw [ey12]; rfl) (by decide) rfl (fun ls hl => ?_)
          refine lv_iload_n hx hb dX9_notice_58 rfl (lv_at hl 3 rfl) ?_
          refine lv_icmp_ne (tgt := 65) hx hb dX9_notice_59 (by decide) (fun c13 => ?_) (fun c13 => ?_)
          · have h := q_ig c13 h
            obtain ⟨y14, ey14⟩ : ∃ z : Int32, z = v4 + 1 := ⟨_, rfl⟩
            have h := q_le_e h ey14
            refine lv_iinc (v := y14) (lv' := [(4, .int y14), (3, .int y12), (5, .int y9), (0, .ref (E.2.2.2 0)), (1, .int x1), (2, .ref (E.2.2.2 v2))]) hx hb dX9_notice_65 hl (k := 5) rfl (by rw [ey14]; rfl) (by decide) rfl (fun ls hl => ?_)
            refine lv_goto (tgt := 19) hx hb dX9_notice_68 (by decide) ?_
            exact ih v2 y12 y14 kv2 μ H locs ls S (lv_sub hl [3, 4, 5, 1, 0] rfl) h
          · have h := q_ip c13 h
            refine lv_iload hx hb dX9_notice_62 (lv_at hl 1 rfl) ?_
            exact q_iret hx hb hr S h hlk dX9_notice_64
  unfold f_X9_notice at h
  obtain ⟨H, eH⟩ : ∃ z, z = s.heap := ⟨_, rfl⟩
  obtain ⟨locs, eL⟩ : ∃ z : List Loc, z = [] := ⟨_, rfl⟩
  rw [← eH, ← eL] at S
  suffices hh : W p l e ({ frames := 1, cells := 0, slots := 0, locals := 20 }) s m ([.ref (E.2.2.2 0), .int x1] : List Value).toArray below meth c H locs 0 0 (MQ below (q_Qi E r μr) ([.ref (E.2.2.2 0), .int x1] : List Value).toArray s 0 0 (q_A E)) (F0 m 0 ls []) by rw [eH, eL] at hh; exact hh
  refine lv_iload_n hx hb dX9_notice_0 rfl (lv_at hl 1 rfl) ?_
  refine lv_if_ge (tgt := 6) hx hb dX9_notice_1 (by decide) (fun c1 => ?_) (fun c1 => ?_)
  · have h := q_ip c1 h
    refine lv_aload_n hx hb dX9_notice_6 rfl (lv_at hl 0 rfl) ?_
    refine q_getr (own := RX9) (C := RX9) (T := TX9) (N := 4) (ci := 9) (j := 1)  (b := 2) hx hb hts i9 hown F S q_k0 (by decide) rfl (by decide) (by decide) rfl (by decide) (hts (.fieldLink RX9 21 "HeavyRoutes" "finder" "LHeavyRoutes$Finder;") (by decide +kernel)) dX9_notice_7 ?_
    obtain ⟨r4, μ2, hc3, h⟩ := q_bd_some h
    refine q_kr F S (q_runV (As := []) (rest := []) (b := 2) ⟨hx, hb, hml, hown, hts⟩ F S (c_X1_atHand l E hE  μ μ2 r4 hc3) (cwV 0 hts gX9_notice_X1_atHand rfl rfl rfl (by decide +kernel) ⟨Nat.le_of_ble_eq_true rfl, Nat.le_of_ble_eq_true rfl⟩) q_k2 (by decide) rfl rfl hl.1 rfl (Nat.le_of_ble_eq_true rfl) dX9_notice_10 ⟨Nat.zero_le _, Nat.zero_le _⟩) (fun H locs S => ?_)
    obtain ⟨g5, h⟩ := q_gd_some h
    refine lv_astore_n (lv' := [(2, .ref (E.2.2.2 r4)), (0, .ref (E.2.2.2 0)), (1, .int x1)]) hx hb dX9_notice_13 rfl hl (by decide) rfl (fun ls hl => ?_)
    refine lv_iconst (v := 0) hx hb dX9_notice_14 (by decide) ?_
    refine lv_istore_n (lv' := [(3, .int 0), (2, .ref (E.2.2.2 r4)), (0, .ref (E.2.2.2 0)), (1, .int x1)]) hx hb dX9_notice_15 rfl hl (by decide) rfl (fun ls hl => ?_)
    refine lv_iconst (v := 0) hx hb dX9_notice_16 (by decide) ?_
    refine lv_istore (lv' := [(4, .int 0), (3, .int 0), (2, .ref (E.2.2.2 r4)), (0, .ref (E.2.2.2 0)), (1, .int x1)]) hx hb dX9_notice_17 hl (by decide) rfl (fun ls hl => ?_)
    refine hL19 _ (fun μ H locs ls S hl h => ?_) q_fu r4 0 0 (of_decide_eq_true g5) μ2 H locs ls S (lv_sub hl [3, 4, 2, 1, 0] rfl) h
    refine lv_iconst (v := (-1)) hx hb dX9_notice_71 (by decide) ?_
    exact q_iret hx hb hr S h hlk dX9_notice_72
  · have h := q_ig c1 h
    refine lv_iconst (v := (-1)) hx hb dX9_notice_4 (by decide) ?_
    exact q_iret hx hb hr S h hlk dX9_notice_5
def f_X9_record (x1 : Int32) (μ : q_M) : Option (Int32 × q_M) := (if x1 < 0 then some ((-2), μ) else (if (μ.1 0 3) ≤ x1 then some ((-2), μ) else q_gd (q_ix x1 50) (some ((μ.1 5 x1.toNatClampNeg), μ))))
set_option maxHeartbeats 4000000 in
set_option maxRecDepth 100000 in
theorem c_X9_record (l : Launch) (E : q_E) (hE : q_I E) (x1 : Int32) (μ μr : q_M) (r : Int32) (h : f_X9_record x1 μ = some (r, μr)) : Met l yX9_record wsX9_record ({ frames := 0, cells := 0, slots := 0, locals := 0 }) (q_Pc E μ [.ref (E.2.2.2 0), .int x1]) (q_Qi E r μr) 0 0 (q_A E) := by
  refine q_met (cc := cX9_record) (maxL := 2) (ret := (some .int)) hE (by decide) rfl (Nat.le_of_ble_eq_true rfl) ?_
  intro p e s m below meth c hx hb hr hml hown hts hlk F S ls hl
  have hl : lv_has ls 2 [(0, .ref (E.2.2.2 0)), (1, .int x1)] := hl
  have i9 : ∀ w ∈ u_ws RX9 TX9 4, w ∈ wsX9_record := by decide +kernel
  unfold f_X9_record at h
  obtain ⟨H, eH⟩ : ∃ z, z = s.heap := ⟨_, rfl⟩
  obtain ⟨locs, eL⟩ : ∃ z : List Loc, z = [] := ⟨_, rfl⟩
  rw [← eH, ← eL] at S
  suffices hh : W p l e ({ frames := 0, cells := 0, slots := 0, locals := 0 }) s m ([.ref (E.2.2.2 0), .int x1] : List Value).toArray below meth c H locs 0 0 (MQ below (q_Qi E r μr) ([.ref (E.2.2.2 0), .int x1] : List Value).toArray s 0 0 (q_A E)) (F0 m 0 ls []) by rw [eH, eL] at hh; exact hh
  refine lv_iload_n hx hb dX9_record_0 rfl (lv_at hl 1 rfl) ?_
  refine lv_if_lt (tgt := 21) hx hb dX9_record_1 (by decide) (fun c1 => ?_) (fun c1 => ?_)
  · have h := q_ip c1 h
    refine lv_bipush (v := (-2)) hx hb dX9_record_21 (by decide) ?_
    exact q_iret hx hb hr S h hlk dX9_record_23
  · have h := q_ig c1 h
    refine lv_iload_n hx hb dX9_record_4 rfl (lv_at hl 1 rfl) ?_
    refine lv_aload_n hx hb dX9_record_5 rfl (lv_at hl 0 rfl) ?_
    refine q_geti (own := RX9) (C := RX9) (T := TX9) (N := 4) (ci := 9) (j := 3)  hx hb hts i9 hown F S q_k0 (by decide) rfl (by decide) (by decide) rfl (hts (.fieldLink RX9 174 "HeavyRoutes" "recordCount" "I") (by decide +kernel)) dX9_record_6 ?_
    refine lv_icmp_ge (tgt := 21) hx hb dX9_record_9 (by decide) (fun c2 => ?_) (fun c2 => ?_)
    · have h := q_ip c2 h
      refine lv_bipush (v := (-2)) hx hb dX9_record_21 (by decide) ?_
      exact q_iret hx hb hr S h hlk dX9_record_23
    · have h := q_ig c2 h
      refine lv_aload_n hx hb dX9_record_12 rfl (lv_at hl 0 rfl) ?_
      refine q_getr (own := RX9) (C := RX9) (T := TX9) (N := 4) (ci := 9) (j := 2)  (b := 5) hx hb hts i9 hown F S q_k0 (by decide) rfl (by decide) (by decide) rfl (by decide) (hts (.fieldLink RX9 25 "HeavyRoutes" "records" "[I") (by decide +kernel)) dX9_record_13 ?_
      refine lv_iload_n hx hb dX9_record_16 rfl (lv_at hl 1 rfl) ?_
      obtain ⟨g3, h⟩ := q_gd_some h
      refine q_iald hx hb F S q_k5 q_n5 g3 dX9_record_17 ?_
      refine lv_goto (tgt := 23) hx hb dX9_record_18 (by decide) ?_
      exact q_iret hx hb hr S h hlk dX9_record_23
def f_X9_change (x1 : Int32) (x2 : Int32) (μ : q_M) : Option (Int32 × q_M) := q_bd (f_X3_hasRoad x1 μ) (fun r3 μ1 => (if r3 = 0 then some ((-1), μ1) else q_bd (f_X1_forget  μ1) (fun u5 μ5 => q_gd (q_ix x1 12) (q_le ((μ5.1 (14 + x1.toNatClampNeg) 5) : Int32) (fun y8 => q_gd (q_zb x2) (q_le (q_si μ5 (14 + x1.toNatClampNeg) 5 x2) (fun μ10 => (if y8 = 0 then some (0, μ10) else some (1, μ10)))))))))
set_option maxHeartbeats 4000000 in
set_option maxRecDepth 100000 in
theorem c_X9_change (l : Launch) (E : q_E) (hE : q_I E) (x1 : Int32) (x2 : Int32) (μ μr : q_M) (r : Int32) (h : f_X9_change x1 x2 μ = some (r, μr)) : Met l yX9_change wsX9_change ({ frames := 1, cells := 0, slots := 0, locals := 21 }) (q_Pc E μ [.ref (E.2.2.2 0), .int x1, .int x2]) (q_Qi E r μr) 0 0 (q_A E) := by
  refine q_met (cc := cX9_change) (maxL := 4) (ret := (some .int)) hE (by decide) rfl (Nat.le_of_ble_eq_true rfl) ?_
  intro p e s m below meth c hx hb hr hml hown hts hlk F S ls hl
  have hl : lv_has ls 4 [(0, .ref (E.2.2.2 0)), (1, .int x1), (2, .int x2)] := hl
  have i3 : ∀ w ∈ u_ws RX3 TX3 7, w ∈ wsX9_change := by decide +kernel
  have i6 : ∀ w ∈ u_ws RX6 TX6 11, w ∈ wsX9_change := by decide +kernel
  have i9 : ∀ w ∈ u_ws RX9 TX9 4, w ∈ wsX9_change := by decide +kernel
  unfold f_X9_change at h
  obtain ⟨H, eH⟩ : ∃ z, z = s.heap := ⟨_, rfl⟩
  obtain ⟨locs, eL⟩ : ∃ z : List Loc, z = [] := ⟨_, rfl⟩
  rw [← eH, ← eL] at S
  suffices hh : W p l e ({ frames := 1, cells := 0, slots := 0, locals := 21 }) s m ([.ref (E.2.2.2 0), .int x1, .int x2] : List Value).toArray below meth c H locs 0 0 (MQ below (q_Qi E r μr) ([.ref (E.2.2.2 0), .int x1, .int x2] : List Value).toArray s 0 0 (q_A E)) (F0 m 0 ls []) by rw [eH, eL] at hh; exact hh
  refine lv_aload_n hx hb dX9_change_0 rfl (lv_at hl 0 rfl) ?_
  refine q_getr (own := RX9) (C := RX9) (T := TX9) (N := 4) (ci := 9) (j := 0)  (b := 1) hx hb hts i9 hown F S q_k0 (by decide) rfl (by decide) (by decide) rfl (by decide) (hts (.fieldLink RX9 12 "HeavyRoutes" "net" "LHeavyRoutes$Net;") (by decide +kernel)) dX9_change_1 ?_
  refine lv_iload_n hx hb dX9_change_4 rfl (lv_at hl 1 rfl) ?_
  obtain ⟨r3, μ1, hc2, h⟩ := q_bd_some h
  refine q_ki F S (q_runV (As := [.int x1]) (rest := []) (b := 1) ⟨hx, hb, hml, hown, hts⟩ F S (c_X3_hasRoad l E hE x1 μ μ1 r3 hc2) (cwV 1 hts gX9_change_X3_hasRoad rfl rfl rfl (by decide +kernel) ⟨Nat.le_of_ble_eq_true rfl, Nat.le_of_ble_eq_true rfl⟩) q_k1 (by decide) rfl rfl hl.1 rfl (Nat.le_of_ble_eq_true rfl) dX9_change_5 ⟨Nat.zero_le _, Nat.zero_le _⟩) (fun H locs S => ?_)
  refine lv_if_ne (tgt := 13) hx hb dX9_change_8 (by decide) (fun c4 => ?_) (fun c4 => ?_)
  · have h := q_ig c4 h
    refine lv_aload_n hx hb dX9_change_13 rfl (lv_at hl 0 rfl) ?_
    refine q_getr (own := RX9) (C := RX9) (T := TX9) (N := 4) (ci := 9) (j := 1)  (b := 2) hx hb hts i9 hown F S q_k0 (by decide) rfl (by decide) (by decide) rfl (by decide) (hts (.fieldLink RX9 21 "HeavyRoutes" "finder" "LHeavyRoutes$Finder;") (by decide +kernel)) dX9_change_14 ?_
    obtain ⟨u5, μ5, hc6, h⟩ := q_bd_some h
    refine q_kv F S (q_runV (As := []) (rest := []) (b := 2) ⟨hx, hb, hml, hown, hts⟩ F S (c_X1_forget l E hE  μ1 μ5 u5 hc6) (cwV 0 hts gX9_change_X1_forget rfl rfl rfl (by decide +kernel) ⟨Nat.le_of_ble_eq_true rfl, Nat.le_of_ble_eq_true rfl⟩) q_k2 (by decide) rfl rfl hl.1 rfl (Nat.le_of_ble_eq_true rfl) dX9_change_17 ⟨Nat.zero_le _, Nat.zero_le _⟩) (fun H locs S => ?_)
    refine lv_aload_n hx hb dX9_change_20 rfl (lv_at hl 0 rfl) ?_
    refine q_getr (own := RX9) (C := RX9) (T := TX9) (N := 4) (ci := 9) (j := 0)  (b := 1) hx hb hts i9 hown F S q_k0 (by decide) rfl (by decide) (by decide) rfl (by decide) (hts (.fieldLink RX9 12 "HeavyRoutes" "net" "LHeavyRoutes$Net;") (by decide +kernel)) dX9_change_21 ?_
    refine q_getrN (own := RX9) (C := RX3) (T := TX3) (N := 7) (ci := 3) (j := 3) (host := "HeavyRoutes") (b := 6) hx hb hts i3 hown F S q_k1 (by decide) rfl (by decide) (by decide) rfl (by decide) (by decide +kernel) dX9_change_24 ?_
    refine lv_iload_n hx hb dX9_change_27 rfl (lv_at hl 1 rfl) ?_
    obtain ⟨g7, h⟩ := q_gd_some h
    refine q_rald (t := 0) hx hb F S q_k6 (by decide) rfl q_n6 (q_pe14 x1.toNatClampNeg) g7 dX9_change_28 ?_
    refine q_getiN (own := RX9) (C := RX6) (T := TX6) (N := 11) (ci := 6) (j := 5) (host := "HeavyRoutes") hx hb hts i6 hown F S (q_e14 g7) (by decide) rfl (by decide) (by decide) rfl (by decide +kernel) dX9_change_29 ?_
    refine lv_topi (fun y8 ey8 => ?_)
    have h := q_le_e h ey8
    refine lv_istore_n (lv' := [(3, .int y8), (0, .ref (E.2.2.2 0)), (1, .int x1), (2, .int x2)]) hx hb dX9_change_32 rfl hl (by decide) rfl (fun ls hl => ?_)
    refine lv_aload_n hx hb dX9_change_33 rfl (lv_at hl 1 rfl) ?_
    refine q_getr (own := RX9) (C := RX9) (T := TX9) (N := 4) (ci := 9) (j := 0)  (b := 1) hx hb hts i9 hown F S q_k0 (by decide) rfl (by decide) (by decide) rfl (by decide) (hts (.fieldLink RX9 12 "HeavyRoutes" "net" "LHeavyRoutes$Net;") (by decide +kernel)) dX9_change_34 ?_
    refine q_getrN (own := RX9) (C := RX3) (T := TX3) (N := 7) (ci := 3) (j := 3) (host := "HeavyRoutes") (b := 6) hx hb hts i3 hown F S q_k1 (by decide) rfl (by decide) (by decide) rfl (by decide) (by decide +kernel) dX9_change_37 ?_
    refine lv_iload_n hx hb dX9_change_40 rfl (lv_at hl 2 rfl) ?_
    refine q_rald (t := 0) hx hb F S q_k6 (by decide) rfl q_n6 (q_pe14 x1.toNatClampNeg) g7 dX9_change_41 ?_
    refine lv_iload_n hx hb dX9_change_42 rfl (lv_at hl 3 rfl) ?_
    obtain ⟨g9, h⟩ := q_gd_some h
    refine q_putzN (own := RX9) (C := RX6) (T := TX6) (N := 11) (ci := 6) (j := 5) (host := "HeavyRoutes") hx hb hts i6 tyX6 tyX6_ok nmX6 hown F S (q_e14 g7) (by decide) rfl (by decide) (by decide) rfl (by decide +kernel) rfl (by decide +kernel) g9 dX9_change_43 (fun H locs μ10 eμ10 S => ?_)
    have h := q_le_e h eμ10
    refine lv_iload_n hx hb dX9_change_46 rfl (lv_at hl 0 rfl) ?_
    refine lv_if_eq (tgt := 54) hx hb dX9_change_47 (by decide) (fun c11 => ?_) (fun c11 => ?_)
    · have h := q_ip c11 h
      refine lv_iconst (v := 0) hx hb dX9_change_54 (by decide) ?_
      exact q_iret hx hb hr S h hlk dX9_change_55
    · have h := q_ig c11 h
      refine lv_iconst (v := 1) hx hb dX9_change_50 (by decide) ?_
      refine lv_goto (tgt := 55) hx hb dX9_change_51 (by decide) ?_
      exact q_iret hx hb hr S h hlk dX9_change_55
  · have h := q_ip c4 h
    refine lv_iconst (v := (-1)) hx hb dX9_change_11 (by decide) ?_
    exact q_iret hx hb hr S h hlk dX9_change_12
def f_X9_count (x1 : Int32) (μ : q_M) : Option (Int32 × q_M) := (if x1 = 0 then some ((μ.1 1 0), μ) else if x1 = 1 then some ((μ.1 1 1), μ) else if x1 = 2 then some ((μ.1 1 2), μ) else if x1 = 3 then some ((μ.1 3 2), μ) else if x1 = 4 then q_bd (f_X1_atHand  μ) (fun r8 μ6 => q_gd (decide (q_kd r8 = 7)) (some ((μ6.1 r8 2), μ6))) else if x1 = 5 then some ((μ.1 2 5), μ) else if x1 = 6 then q_bd (f_X1_lookThrough  μ) (fun u12 μ12 => some ((μ12.1 2 13), μ12)) else some ((-1), μ))
set_option maxHeartbeats 4000000 in
set_option maxRecDepth 100000 in
theorem c_X9_count (l : Launch) (E : q_E) (hE : q_I E) (x1 : Int32) (μ μr : q_M) (r : Int32) (h : f_X9_count x1 μ = some (r, μr)) : Met l yX9_count wsX9_count ({ frames := 58, cells := 0, slots := 0, locals := 2284 }) (q_Pc E μ [.ref (E.2.2.2 0), .int x1]) (q_Qi E r μr) 0 0 (q_A E) := by
  refine q_met (cc := cX9_count) (maxL := 2) (ret := (some .int)) hE (by decide) rfl (Nat.le_of_ble_eq_true rfl) ?_
  intro p e s m below meth c hx hb hr hml hown hts hlk F S ls hl
  have hl : lv_has ls 2 [(0, .ref (E.2.2.2 0)), (1, .int x1)] := hl
  have i1 : ∀ w ∈ u_ws RX1 TX1 15, w ∈ wsX9_count := by decide +kernel
  have i2 : ∀ w ∈ u_ws RX2 TX2 5, w ∈ wsX9_count := by decide +kernel
  have i3 : ∀ w ∈ u_ws RX3 TX3 7, w ∈ wsX9_count := by decide +kernel
  have i7 : ∀ w ∈ u_ws RX7 TX7 6, w ∈ wsX9_count := by decide +kernel
  have i9 : ∀ w ∈ u_ws RX9 TX9 4, w ∈ wsX9_count := by decide +kernel
  unfold f_X9_count at h
  obtain ⟨H, eH⟩ : ∃ z, z = s.heap := ⟨_, rfl⟩
  obtain ⟨locs, eL⟩ : ∃ z : List Loc, z = [] := ⟨_, rfl⟩
  rw [← eH, ← eL] at S
  suffices hh : W p l e ({ frames := 58, cells := 0, slots := 0, locals := 2284 }) s m ([.ref (E.2.2.2 0), .int x1] : List Value).toArray below meth c H locs 0 0 (MQ below (q_Qi E r μr) ([.ref (E.2.2.2 0), .int x1] : List Value).toArray s 0 0 (q_A E)) (F0 m 0 ls []) by rw [eH, eL] at hh; exact hh
  refine lv_iload_n hx hb dX9_count_0 rfl (lv_at hl 1 rfl) ?_
  by_cases c1 : x1 = 0
  · have h := q_ip c1 h
    refine lv_tableIn (off := 43) (tgt := 44) hx hb dX9_count_1 (by rw [c1]; decide) (by rw [c1]; decide) (by rw [c1]; decide) (by decide) ?_
    refine lv_aload_n hx hb dX9_count_44 rfl (lv_at hl 0 rfl) ?_
    refine q_getr (own := RX9) (C := RX9) (T := TX9) (N := 4) (ci := 9) (j := 0)  (b := 1) hx hb hts i9 hown F S q_k0 (by decide) rfl (by decide) (by decide) rfl (by decide) (hts (.fieldLink RX9 12 "HeavyRoutes" "net" "LHeavyRoutes$Net;") (by decide +kernel)) dX9_count_45 ?_
    refine q_getiN (own := RX9) (C := RX3) (T := TX3) (N := 7) (ci := 3) (j := 0) (host := "HeavyRoutes") hx hb hts i3 hown F S q_k1 (by decide) rfl (by decide) (by decide) rfl (by decide +kernel) dX9_count_48 ?_
    exact q_iret hx hb hr S h hlk dX9_count_51
  have h := q_ig c1 h
  by_cases c2 : x1 = 1
  · have h := q_ip c2 h
    refine lv_tableIn (off := 51) (tgt := 52) hx hb dX9_count_1 (by rw [c2]; decide) (by rw [c2]; decide) (by rw [c2]; decide) (by decide) ?_
    refine lv_aload_n hx hb dX9_count_52 rfl (lv_at hl 0 rfl) ?_
    refine q_getr (own := RX9) (C := RX9) (T := TX9) (N := 4) (ci := 9) (j := 0)  (b := 1) hx hb hts i9 hown F S q_k0 (by decide) rfl (by decide) (by decide) rfl (by decide) (hts (.fieldLink RX9 12 "HeavyRoutes" "net" "LHeavyRoutes$Net;") (by decide +kernel)) dX9_count_53 ?_
    refine q_getiN (own := RX9) (C := RX3) (T := TX3) (N := 7) (ci := 3) (j := 1) (host := "HeavyRoutes") hx hb hts i3 hown F S q_k1 (by decide) rfl (by decide) (by decide) rfl (by decide +kernel) dX9_count_56 ?_
    exact q_iret hx hb hr S h hlk dX9_count_59
  have h := q_ig c2 h
  by_cases c3 : x1 = 2
  · have h := q_ip c3 h
    refine lv_tableIn (off := 59) (tgt := 60) hx hb dX9_count_1 (by rw [c3]; decide) (by rw [c3]; decide) (by rw [c3]; decide) (by decide) ?_
    refine lv_aload_n hx hb dX9_count_60 rfl (lv_at hl 0 rfl) ?_
    refine q_getr (own := RX9) (C := RX9) (T := TX9) (N := 4) (ci := 9) (j := 0)  (b := 1) hx hb hts i9 hown F S q_k0 (by decide) rfl (by decide) (by decide) rfl (by decide) (hts (.fieldLink RX9 12 "HeavyRoutes" "net" "LHeavyRoutes$Net;") (by decide +kernel)) dX9_count_61 ?_
    refine q_getiN (own := RX9) (C := RX3) (T := TX3) (N := 7) (ci := 3) (j := 2) (host := "HeavyRoutes") hx hb hts i3 hown F S q_k1 (by decide) rfl (by decide) (by decide) rfl (by decide +kernel) dX9_count_64 ?_
    exact q_iret hx hb hr S h hlk dX9_count_67
  have h := q_ig c3 h
  by_cases c4 : x1 = 3
  · have h := q_ip c4 h
    refine lv_tableIn (off := 67) (tgt := 68) hx hb dX9_count_1 (by rw [c4]; decide) (by rw [c4]; decide) (by rw [c4]; decide) (by decide) ?_
    refine lv_aload_n hx hb dX9_count_68 rfl (lv_at hl 0 rfl) ?_
    refine q_getr (own := RX9) (C := RX9) (T := TX9) (N := 4) (ci := 9) (j := 0)  (b := 1) hx hb hts i9 hown F S q_k0 (by decide) rfl (by decide) (by decide) rfl (by decide) (hts (.fieldLink RX9 12 "HeavyRoutes" "net" "LHeavyRoutes$Net;") (by decide +kernel)) dX9_count_69 ?_
    refine q_getrN (own := RX9) (C := RX3) (T := TX3) (N := 7) (ci := 3) (j := 5) (host := "HeavyRoutes") (b := 3) hx hb hts i3 hown F S q_k1 (by decide) rfl (by decide) (by decide) rfl (by decide) (by decide +kernel) dX9_count_72 ?_
    refine q_getiN (own := RX9) (C := RX2) (T := TX2) (N := 5) (ci := 2) (j := 2) (host := "HeavyRoutes") hx hb hts i2 hown F S q_k3 (by decide) rfl (by decide) (by decide) rfl (by decide +kernel) dX9_count_75 ?_
    exact q_iret hx hb hr S h hlk dX9_count_78
  have h := q_ig c4 h
  by_cases c5 : x1 = 4
  · have h := q_ip c5 h
    refine lv_tableIn (off := 78) (tgt := 79) hx hb dX9_count_1 (by rw [c5]; decide) (by rw [c5]; decide) (by rw [c5]; decide) (by decide) ?_
    refine lv_aload_n hx hb dX9_count_79 rfl (lv_at hl 0 rfl) ?_
    refine q_getr (own := RX9) (C := RX9) (T := TX9) (N := 4) (ci := 9) (j := 1)  (b := 2) hx hb hts i9 hown F S q_k0 (by decide) rfl (by decide) (by decide) rfl (by decide) (hts (.fieldLink RX9 21 "HeavyRoutes" "finder" "LHeavyRoutes$Finder;") (by decide +kernel)) dX9_count_80 ?_
    obtain ⟨r8, μ6, hc7, h⟩ := q_bd_some h
    refine q_kr F S (q_runV (As := []) (rest := []) (b := 2) ⟨hx, hb, hml, hown, hts⟩ F S (c_X1_atHand l E hE  μ μ6 r8 hc7) (cwV 0 hts gX9_count_X1_atHand rfl rfl rfl (by decide +kernel) ⟨Nat.le_of_ble_eq_true rfl, Nat.le_of_ble_eq_true rfl⟩) q_k2 (by decide) rfl rfl hl.1 rfl (Nat.le_of_ble_eq_true rfl) dX9_count_83 ⟨Nat.zero_le _, Nat.zero_le _⟩) (fun H locs S => ?_)
    obtain ⟨g9, h⟩ := q_gd_some h
    refine q_getiN (own := RX9) (C := RX7) (T := TX7) (N := 6) (ci := 7) (j := 2) (host := "HeavyRoutes") hx hb hts i7 hown F S (of_decide_eq_true g9) (by decide) rfl (by decide) (by decide) rfl (by decide +kernel) dX9_count_86 ?_
    exact q_iret hx hb hr S h hlk dX9_count_89
  have h := q_ig c5 h
  by_cases c10 : x1 = 5
  · have h := q_ip c10 h
    refine lv_tableIn (off := 89) (tgt := 90) hx hb dX9_count_1 (by rw [c10]; decide) (by rw [c10]; decide) (by rw [c10]; decide) (by decide) ?_
    refine lv_aload_n hx hb dX9_count_90 rfl (lv_at hl 0 rfl) ?_
    refine q_getr (own := RX9) (C := RX9) (T := TX9) (N := 4) (ci := 9) (j := 1)  (b := 2) hx hb hts i9 hown F S q_k0 (by decide) rfl (by decide) (by decide) rfl (by decide) (hts (.fieldLink RX9 21 "HeavyRoutes" "finder" "LHeavyRoutes$Finder;") (by decide +kernel)) dX9_count_91 ?_
    refine q_getiN (own := RX9) (C := RX1) (T := TX1) (N := 15) (ci := 1) (j := 5) (host := "HeavyRoutes") hx hb hts i1 hown F S q_k2 (by decide) rfl (by decide) (by decide) rfl (by decide +kernel) dX9_count_94 ?_
    exact q_iret hx hb hr S h hlk dX9_count_97
  have h := q_ig c10 h
  by_cases c11 : x1 = 6
  · have h := q_ip c11 h
    refine lv_tableIn (off := 97) (tgt := 98) hx hb dX9_count_1 (by rw [c11]; decide) (by rw [c11]; decide) (by rw [c11]; decide) (by decide) ?_
    refine lv_aload_n hx hb dX9_count_98 rfl (lv_at hl 0 rfl) ?_
    refine q_getr (own := RX9) (C := RX9) (T := TX9) (N := 4) (ci := 9) (j := 1)  (b := 2) hx hb hts i9 hown F S q_k0 (by decide) rfl (by decide) (by decide) rfl (by decide) (hts (.fieldLink RX9 21 "HeavyRoutes" "finder" "LHeavyRoutes$Finder;") (by decide +kernel)) dX9_count_99 ?_
    obtain ⟨u12, μ12, hc13, h⟩ := q_bd_some h
    refine q_kv F S (q_runV (As := []) (rest := []) (b := 2) ⟨hx, hb, hml, hown, hts⟩ F S (c_X1_lookThrough l E hE  μ μ12 u12 hc13) (cwV 0 hts gX9_count_X1_lookThrough rfl rfl rfl (by decide +kernel) ⟨Nat.le_of_ble_eq_true rfl, Nat.le_of_ble_eq_true rfl⟩) q_k2 (by decide) rfl rfl hl.1 rfl (Nat.le_of_ble_eq_true rfl) dX9_count_102 ⟨Nat.zero_le _, Nat.zero_le _⟩) (fun H locs S => ?_)
    refine lv_aload_n hx hb dX9_count_105 rfl (lv_at hl 0 rfl) ?_
    refine q_getr (own := RX9) (C := RX9) (T := TX9) (N := 4) (ci := 9) (j := 1)  (b := 2) hx hb hts i9 hown F S q_k0 (by decide) rfl (by decide) (by decide) rfl (by decide) (hts (.fieldLink RX9 21 "HeavyRoutes" "finder" "LHeavyRoutes$Finder;") (by decide +kernel)) dX9_count_106 ?_
    refine q_getiN (own := RX9) (C := RX1) (T := TX1) (N := 15) (ci := 1) (j := 13) (host := "HeavyRoutes") hx hb hts i1 hown F S q_k2 (by decide) rfl (by decide) (by decide) rfl (by decide +kernel) dX9_count_109 ?_
    exact q_iret hx hb hr S h hlk dX9_count_112
  have h := q_ig c11 h
  refine lv_tableOut (tgt := 113) hx hb dX9_count_1 (q_sw6 x1 c1 c2 c3 c4 c5 c10 c11) (by decide) ?_
  refine lv_iconst (v := (-1)) hx hb dX9_count_113 (by decide) ?_
  exact q_iret hx hb hr S h hlk dX9_count_114
