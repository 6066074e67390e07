def f_X3_hasBridge (x1 : Int32) (μ : q_M) : Option (Int32 × q_M) := (if x1 < 0 then some (0, μ) else (if (μ.1 1 2) ≤ x1 then some (0, μ) else some (1, μ)))
set_option maxHeartbeats 4000000 in
set_option maxRecDepth 100000 in
theorem c_X3_hasBridge (l : Launch) (E : q_E) (hE : q_I E) (x1 : Int32) (μ μr : q_M) (r : Int32) (h : f_X3_hasBridge x1 μ = some (r, μr)) : Met l yX3_hasBridge wsX3_hasBridge ({ frames := 0, cells := 0, slots := 0, locals := 0 }) (q_Pc E μ [.ref (E.2.2.2 1), .int x1]) (q_Qi E r μr) 0 0 (q_A E) := by
  refine q_met (cc := cX3_hasBridge) (maxL := 2) (ret := (some .boolean)) hE (by decide) rfl (Nat.le_of_ble_eq_true rfl) ?_
  intro p e s m below meth c hx hb hr hml hown hts hlk F S ls hl
  have hl : lv_has ls 2 [(0, .ref (E.2.2.2 1)), (1, .int x1)] := hl
  have i3 : ∀ w ∈ u_ws RX3 TX3 7, w ∈ wsX3_hasBridge := by decide +kernel
  unfold f_X3_hasBridge at h
  obtain ⟨H, eH⟩ : ∃ z, z = s.heap := ⟨_, rfl⟩
  obtain ⟨locs, eL⟩ : ∃ z : List Loc, z = [] := ⟨_, rfl⟩
  rw [← eH, ← eL] at S
  suffices hh : W p l e ({ frames := 0, cells := 0, slots := 0, locals := 0 }) s m ([.ref (E.2.2.2 1), .int x1] : List Value).toArray below meth c H locs 0 0 (MQ below (q_Qi E r μr) ([.ref (E.2.2.2 1), .int x1] : List Value).toArray s 0 0 (q_A E)) (F0 m 0 ls []) by rw [eH, eL] at hh; exact hh
  refine lv_iload_n hx hb dX3_hasBridge_0 rfl (lv_at hl 1 rfl) ?_
  refine lv_if_lt (tgt := 16) hx hb dX3_hasBridge_1 (by decide) (fun c1 => ?_) (fun c1 => ?_)
  · have h := q_ip c1 h
    refine lv_iconst (v := 0) hx hb dX3_hasBridge_16 (by decide) ?_
    exact q_zret hx hb hr S (by decide) h hlk dX3_hasBridge_17
  · have h := q_ig c1 h
    refine lv_iload_n hx hb dX3_hasBridge_4 rfl (lv_at hl 1 rfl) ?_
    refine lv_aload_n hx hb dX3_hasBridge_5 rfl (lv_at hl 0 rfl) ?_
    refine q_geti (own := RX3) (C := RX3) (T := TX3) (N := 7) (ci := 3) (j := 2)  hx hb hts i3 hown F S q_k1 (by decide) rfl (by decide) (by decide) rfl (hts (.fieldLink RX3 46 "HeavyRoutes$Net" "bridgeCount" "I") (by decide +kernel)) dX3_hasBridge_6 ?_
    refine lv_icmp_ge (tgt := 16) hx hb dX3_hasBridge_9 (by decide) (fun c2 => ?_) (fun c2 => ?_)
    · have h := q_ip c2 h
      refine lv_iconst (v := 0) hx hb dX3_hasBridge_16 (by decide) ?_
      exact q_zret hx hb hr S (by decide) h hlk dX3_hasBridge_17
    · have h := q_ig c2 h
      refine lv_iconst (v := 1) hx hb dX3_hasBridge_12 (by decide) ?_
      refine lv_goto (tgt := 17) hx hb dX3_hasBridge_13 (by decide) ?_
      exact q_zret hx hb hr S (by decide) h hlk dX3_hasBridge_17
def f_X3_whyNotBearing (x1 : Int32) (μ : q_M) : Option (Int32 × q_M) := q_gd (q_ix x1 12) ((if (μ.1 (14 + x1.toNatClampNeg) 5) = 0 then some (1, μ) else (if (μ.1 3 0) ≤ (μ.1 (14 + x1.toNatClampNeg) 3) then (if (μ.1 3 1) ≤ (μ.1 (14 + x1.toNatClampNeg) 4) then q_bd (f_X3_hasBridge (μ.1 (14 + x1.toNatClampNeg) 6) μ) (fun r7 μ5 => (if r7 = 0 then some (0, μ5) else q_gd (q_ix (μ5.1 (14 + x1.toNatClampNeg) 6) 6) ((if (μ5.1 (50 + (μ5.1 (14 + x1.toNatClampNeg) 6).toNatClampNeg) 6) = 0 then some (0, μ5) else some (4, μ5))))) else some (3, μ)) else some (2, μ))))
set_option maxHeartbeats 4000000 in
set_option maxRecDepth 100000 in
theorem c_X3_whyNotBearing (l : Launch) (E : q_E) (hE : q_I E) (x1 : Int32) (μ μr : q_M) (r : Int32) (h : f_X3_whyNotBearing x1 μ = some (r, μr)) : Met l yX3_whyNotBearing wsX3_whyNotBearing ({ frames := 1, cells := 0, slots := 0, locals := 21 }) (q_Pc E μ [.ref (E.2.2.2 1), .int x1]) (q_Qi E r μr) 0 0 (q_A E) := by
  refine q_met (cc := cX3_whyNotBearing) (maxL := 3) (ret := (some .int)) hE (by decide) rfl (Nat.le_of_ble_eq_true rfl) ?_
  intro p e s m below meth c hx hb hr hml hown hts hlk F S ls hl
  have hl : lv_has ls 3 [(0, .ref (E.2.2.2 1)), (1, .int x1)] := hl
  have i0 : ∀ w ∈ u_ws RX0 TX0 8, w ∈ wsX3_whyNotBearing := by decide +kernel
  have i2 : ∀ w ∈ u_ws RX2 TX2 5, w ∈ wsX3_whyNotBearing := by decide +kernel
  have i3 : ∀ w ∈ u_ws RX3 TX3 7, w ∈ wsX3_whyNotBearing := by decide +kernel
  have i6 : ∀ w ∈ u_ws RX6 TX6 11, w ∈ wsX3_whyNotBearing := by decide +kernel
  unfold f_X3_whyNotBearing at h
  obtain ⟨H, eH⟩ : ∃ z, z = s.heap := ⟨_, rfl⟩
  obtain ⟨locs, eL⟩ : ∃ z : List Loc, z = [] := ⟨_, rfl⟩
  rw [← eH, ← eL] at S
  suffices hh : W p l e ({ frames := 1, cells := 0, slots := 0, locals := 21 }) s m ([.ref (E.2.2.2 1), .int x1] : List Value).toArray below meth c H locs 0 0 (MQ below (q_Qi E r μr) ([.ref (E.2.2.2 1), .int x1] : List Value).toArray s 0 0 (q_A E)) (F0 m 0 ls []) by rw [eH, eL] at hh; exact hh
  refine lv_aload_n hx hb dX3_whyNotBearing_0 rfl (lv_at hl 0 rfl) ?_
  refine q_getr (own := RX3) (C := RX3) (T := TX3) (N := 7) (ci := 3) (j := 3)  (b := 6) hx hb hts i3 hown F S q_k1 (by decide) rfl (by decide) (by decide) rfl (by decide) (hts (.fieldLink RX3 11 "HeavyRoutes$Net" "roads" "[LHeavyRoutes$Road;") (by decide +kernel)) dX3_whyNotBearing_1 ?_
  refine lv_iload_n hx hb dX3_whyNotBearing_4 rfl (lv_at hl 1 rfl) ?_
  obtain ⟨g1, h⟩ := q_gd_some h
  refine q_rald (t := 0) hx hb F S q_k6 (by decide) rfl q_n6 (q_pe14 x1.toNatClampNeg) g1 dX3_whyNotBearing_5 ?_
  refine lv_astore_n (lv' := [(2, .ref (E.2.2.2 (14 + x1.toNatClampNeg))), (0, .ref (E.2.2.2 1)), (1, .int x1)]) hx hb dX3_whyNotBearing_6 rfl hl (by decide) rfl (fun ls hl => ?_)
  refine lv_aload_n hx hb dX3_whyNotBearing_7 rfl (lv_at hl 0 rfl) ?_
  refine q_getiN (own := RX3) (C := RX6) (T := TX6) (N := 11) (ci := 6) (j := 5) (host := "HeavyRoutes") hx hb hts i6 hown F S (q_e14 g1) (by decide) rfl (by decide) (by decide) rfl (by decide +kernel) dX3_whyNotBearing_8 ?_
  refine lv_if_ne (tgt := 16) hx hb dX3_whyNotBearing_11 (by decide) (fun c2 => ?_) (fun c2 => ?_)
  · have h := q_ig c2 h
    refine lv_aload_n hx hb dX3_whyNotBearing_16 rfl (lv_at hl 0 rfl) ?_
    refine q_getiN (own := RX3) (C := RX6) (T := TX6) (N := 11) (ci := 6) (j := 3) (host := "HeavyRoutes") hx hb hts i6 hown F S (q_e14 g1) (by decide) rfl (by decide) (by decide) rfl (by decide +kernel) dX3_whyNotBearing_17 ?_
    refine lv_aload_n hx hb dX3_whyNotBearing_20 rfl (lv_at hl 1 rfl) ?_
    refine q_getr (own := RX3) (C := RX3) (T := TX3) (N := 7) (ci := 3) (j := 5)  (b := 3) hx hb hts i3 hown F S q_k1 (by decide) rfl (by decide) (by decide) rfl (by decide) (hts (.fieldLink RX3 26 "HeavyRoutes$Net" "journey" "LHeavyRoutes$Journey;") (by decide +kernel)) dX3_whyNotBearing_21 ?_
    refine q_getiN (own := RX3) (C := RX2) (T := TX2) (N := 5) (ci := 2) (j := 0) (host := "HeavyRoutes") hx hb hts i2 hown F S q_k3 (by decide) rfl (by decide) (by decide) rfl (by decide +kernel) dX3_whyNotBearing_24 ?_
    refine lv_icmp_ge (tgt := 32) hx hb dX3_whyNotBearing_27 (by decide) (fun c3 => ?_) (fun c3 => ?_)
    · have h := q_ip c3 h
      refine lv_aload_n hx hb dX3_whyNotBearing_32 rfl (lv_at hl 0 rfl) ?_
      refine q_getiN (own := RX3) (C := RX6) (T := TX6) (N := 11) (ci := 6) (j := 4) (host := "HeavyRoutes") hx hb hts i6 hown F S (q_e14 g1) (by decide) rfl (by decide) (by decide) rfl (by decide +kernel) dX3_whyNotBearing_33 ?_
      refine lv_aload_n hx hb dX3_whyNotBearing_36 rfl (lv_at hl 1 rfl) ?_
      refine q_getr (own := RX3) (C := RX3) (T := TX3) (N := 7) (ci := 3) (j := 5)  (b := 3) hx hb hts i3 hown F S q_k1 (by decide) rfl (by decide) (by decide) rfl (by decide) (hts (.fieldLink RX3 26 "HeavyRoutes$Net" "journey" "LHeavyRoutes$Journey;") (by decide +kernel)) dX3_whyNotBearing_37 ?_
      refine q_getiN (own := RX3) (C := RX2) (T := TX2) (N := 5) (ci := 2) (j := 1) (host := "HeavyRoutes") hx hb hts i2 hown F S q_k3 (by decide) rfl (by decide) (by decide) rfl (by decide +kernel) dX3_whyNotBearing_40 ?_
      refine lv_icmp_ge (tgt := 48) hx hb dX3_whyNotBearing_43 (by decide) (fun c4 => ?_) (fun c4 => ?_)
      · have h := q_ip c4 h
        refine lv_aload_n hx hb dX3_whyNotBearing_48 rfl (lv_at hl 1 rfl) ?_
        refine lv_aload_n hx hb dX3_whyNotBearing_49 rfl (lv_at hl 0 rfl) ?_
        refine q_getiN (own := RX3) (C := RX6) (T := TX6) (N := 11) (ci := 6) (j := 6) (host := "HeavyRoutes") hx hb hts i6 hown F S (q_e14 g1) (by decide) rfl (by decide) (by decide) rfl (by decide +kernel) dX3_whyNotBearing_50 ?_
        obtain ⟨r7, μ5, hc6, h⟩ := q_bd_some h
        refine q_ki F S (q_runV (As := [.int (μ.1 (14 + x1.toNatClampNeg) 6)]) (rest := []) (b := 1) ⟨hx, hb, hml, hown, hts⟩ F S (c_X3_hasBridge l E hE (μ.1 (14 + x1.toNatClampNeg) 6) μ μ5 r7 hc6) (cwV 1 hts gX3_whyNotBearing_X3_hasBridge rfl rfl rfl (by decide +kernel) ⟨Nat.le_of_ble_eq_true rfl, Nat.le_of_ble_eq_true rfl⟩) q_k1 (by decide) rfl rfl hl.1 rfl (Nat.le_of_ble_eq_true rfl) dX3_whyNotBearing_53 ⟨Nat.zero_le _, Nat.zero_le _⟩) (fun H locs S => ?_)
        refine lv_if_eq (tgt := 78) hx hb dX3_whyNotBearing_56 (by decide) (fun c8 => ?_) (fun c8 => ?_)
        · have h := q_ip c8 h
          refine lv_iconst (v := 0) hx hb dX3_whyNotBearing_78 (by decide) ?_
          exact q_iret hx hb hr S h hlk dX3_whyNotBearing_79
        · have h := q_ig c8 h
          refine lv_aload_n hx hb dX3_whyNotBearing_59 rfl (lv_at hl 1 rfl) ?_
          refine q_getr (own := RX3) (C := RX3) (T := TX3) (N := 7) (ci := 3) (j := 4)  (b := 7) hx hb hts i3 hown F S q_k1 (by decide) rfl (by decide) (by decide) rfl (by decide) (hts (.fieldLink RX3 19 "HeavyRoutes$Net" "bridges" "[LHeavyRoutes$Bridge;") (by decide +kernel)) dX3_whyNotBearing_60 ?_
          refine lv_aload_n hx hb dX3_whyNotBearing_63 rfl (lv_at hl 0 rfl) ?_
          refine q_getiN (own := RX3) (C := RX6) (T := TX6) (N := 11) (ci := 6) (j := 6) (host := "HeavyRoutes") hx hb hts i6 hown F S (q_e14 g1) (by decide) rfl (by decide) (by decide) rfl (by decide +kernel) dX3_whyNotBearing_64 ?_
          obtain ⟨g9, h⟩ := q_gd_some h
          refine q_rald (t := 1) hx hb F S q_k7 (by decide) rfl q_n7 (q_pe15 (μ5.1 (14 + x1.toNatClampNeg) 6).toNatClampNeg) g9 dX3_whyNotBearing_67 ?_
          refine q_getiN (own := RX3) (C := RX0) (T := TX0) (N := 8) (ci := 0) (j := 6) (host := "HeavyRoutes") hx hb hts i0 hown F S (q_e15 g9) (by decide) rfl (by decide) (by decide) rfl (by decide +kernel) dX3_whyNotBearing_68 ?_
          refine lv_if_eq (tgt := 78) hx hb dX3_whyNotBearing_71 (by decide) (fun c10 => ?_) (fun c10 => ?_)
          · have h := q_ip c10 h
            refine lv_iconst (v := 0) hx hb dX3_whyNotBearing_78 (by decide) ?_
            exact q_iret hx hb hr S h hlk dX3_whyNotBearing_79
          · have h := q_ig c10 h
            refine lv_iconst (v := 4) hx hb dX3_whyNotBearing_74 (by decide) ?_
            refine lv_goto (tgt := 79) hx hb dX3_whyNotBearing_75 (by decide) ?_
            exact q_iret hx hb hr S h hlk dX3_whyNotBearing_79
      · have h := q_ig c4 h
        refine lv_iconst (v := 3) hx hb dX3_whyNotBearing_46 (by decide) ?_
        exact q_iret hx hb hr S h hlk dX3_whyNotBearing_47
    · have h := q_ig c3 h
      refine lv_iconst (v := 2) hx hb dX3_whyNotBearing_30 (by decide) ?_
      exact q_iret hx hb hr S h hlk dX3_whyNotBearing_31
  · have h := q_ip c2 h
    refine lv_iconst (v := 1) hx hb dX3_whyNotBearing_14 (by decide) ?_
    exact q_iret hx hb hr S h hlk dX3_whyNotBearing_15
def L_X3_usableRoads_4 (Kx : Int32 → q_M → Option (Int32 × q_M)) : Nat → Int32 → Int32 → q_M → Option (Int32 × q_M)
  | 0, _, _, _ => none
  | n + 1, v1, v2, μ => (if (μ.1 1 1) ≤ v2 then Kx v1 μ else q_bd (f_X3_whyNotBearing v2 μ) (fun r4 μ2 => (if r4 = 0 then q_gd (q_ix v2 12) (q_bd (f_X6_earliestStart (14 + v2.toNatClampNeg) 0 μ2) (fun r10 μ8 => (if r10 = (-1) then q_le (v2 + 1 : Int32) (fun y12 => (L_X3_usableRoads_4 Kx n) v1 y12 μ8) else q_le ((v1 ||| (1 <<< (v2 &&& 31))) : Int32) (fun y13 => q_le (v2 + 1 : Int32) (fun y14 => (L_X3_usableRoads_4 Kx n) y13 y14 μ8))))) else q_le (v2 + 1 : Int32) (fun y6 => (L_X3_usableRoads_4 Kx n) v1 y6 μ2))))
def f_X3_usableRoads (μ : q_M) : Option (Int32 × q_M) := L_X3_usableRoads_4 (fun v1 μ => some (v1, μ)) q_fu 0 0 μ
set_option maxHeartbeats 4000000 in
set_option maxRecDepth 100000 in
theorem c_X3_usableRoads (l : Launch) (E : q_E) (hE : q_I E) (μ μr : q_M) (r : Int32) (h : f_X3_usableRoads μ = some (r, μr)) : Met l yX3_usableRoads wsX3_usableRoads ({ frames := 3, cells := 0, slots := 0, locals := 89 }) (q_Pc E μ [.ref (E.2.2.2 1)]) (q_Qi E r μr) 0 0 (q_A E) := by
  refine q_met (cc := cX3_usableRoads) (maxL := 3) (ret := (some .int)) hE (by decide) rfl (Nat.le_of_ble_eq_true rfl) ?_
  intro p e s m below meth c hx hb hr hml hown hts hlk F S ls hl
  have hl : lv_has ls 3 [(0, .ref (E.2.2.2 1))] := hl
  have i3 : ∀ w ∈ u_ws RX3 TX3 7, w ∈ wsX3_usableRoads := by decide +kernel
  have hL4 : ∀ (Kx : Int32 → q_M → Option (Int32 × q_M)), (∀ (v1 : Int32), ∀ (μ : q_M) (H : Heap) (locs : List Loc) (ls : Array Slot), q_S E (q_A E) s μ H locs → lv_has ls 3 [(1, .int v1)] → Kx v1 μ = some (r, μr) → W p l e ({ frames := 3, cells := 0, slots := 0, locals := 89 }) s m ([.ref (E.2.2.2 1)] : List Value).toArray below meth c H locs 0 0 (MQ below (q_Qi E r μr) ([.ref (E.2.2.2 1)] : List Value).toArray s 0 0 (q_A E)) (F0 m 46 ls [])) → ∀ (n : Nat), ∀ (v1 : Int32), ∀ (v2 : Int32), ∀ (μ : q_M) (H : Heap) (locs : List Loc) (ls : Array Slot), q_S E (q_A E) s μ H locs → lv_has ls 3 [(0, .ref (E.2.2.2 1)), (1, .int v1), (2, .int v2)] → L_X3_usableRoads_4 Kx n v1 v2 μ = some (r, μr) → W p l e ({ frames := 3, cells := 0, slots := 0, locals := 89 }) s m ([.ref (E.2.2.2 1)] : List Value).toArray below meth c H locs 0 0 (MQ below (q_Qi E r μr) ([.ref (E.2.2.2 1)] : List Value).toArray s 0 0 (q_A E)) (F0 m 4 ls []) := by
    intro Kx hKx n
    induction n with
    | zero => intro v1 v2 μ H locs ls S hl h; exact absurd h (by simp [L_X3_usableRoads_4])
    | succ n ih =>
      intro v1 v2 μ H locs ls S hl h
      rw [L_X3_usableRoads_4] at h
      refine lv_iload_n hx hb dX3_usableRoads_4 rfl (lv_at hl 2 rfl) ?_
      refine lv_aload_n hx hb dX3_usableRoads_5 rfl (lv_at hl 0 rfl) ?_
      refine q_geti (own := RX3) (C := RX3) (T := TX3) (N := 7) (ci := 3) (j := 1)  hx hb hts i3 hown F S q_k1 (by decide) rfl (by decide) (by decide) rfl (hts (.fieldLink RX3 43 "HeavyRoutes$Net" "roadCount" "I") (by decide +kernel)) dX3_usableRoads_6 ?_
      refine lv_icmp_ge (tgt := 46) hx hb dX3_usableRoads_9 (by decide) (fun c1 => ?_) (fun c1 => ?_)
      · have h := q_ip c1 h
        exact hKx v1 μ H locs ls S (lv_sub hl [1] rfl) h
      · have h := q_ig c1 h
        refine lv_aload_n hx hb dX3_usableRoads_12 rfl (lv_at hl 0 rfl) ?_
        refine lv_iload_n hx hb dX3_usableRoads_13 rfl (lv_at hl 2 rfl) ?_
        obtain ⟨r4, μ2, hc3, h⟩ := q_bd_some h
        refine q_ki F S (q_runV (As := [.int v2]) (rest := []) (b := 1) ⟨hx, hb, hml, hown, hts⟩ F S (c_X3_whyNotBearing l E hE v2 μ μ2 r4 hc3) (cwV 1 hts gX3_usableRoads_X3_whyNotBearing rfl rfl rfl (by decide +kernel) ⟨Nat.le_of_ble_eq_true rfl, Nat.le_of_ble_eq_true rfl⟩) q_k1 (by decide) rfl rfl hl.1 rfl (Nat.le_of_ble_eq_true rfl) dX3_usableRoads_14 ⟨Nat.zero_le _, Nat.zero_le _⟩) (fun H locs S => ?_)
        refine lv_if_ne (tgt := 40) hx hb dX3_usableRoads_17 (by decide) (fun c5 => ?_) (fun c5 => ?_)
        · have h := q_ig c5 h
          obtain ⟨y6, ey6⟩ : ∃ z : Int32, z = v2 + 1 := ⟨_, rfl⟩
          have h := q_le_e h ey6
          refine lv_iinc (v := y6) (lv' := [(2, .int y6), (0, .ref (E.2.2.2 1)), (1, .int v1)]) hx hb dX3_usableRoads_40 hl (k := 2) rfl (by rw [ey6]; rfl) (by decide) rfl (fun ls hl => ?_)
          refine lv_goto (tgt := 4) hx hb dX3_usableRoads_43 (by decide) ?_
          exact ih v1 y6 μ2 H locs ls S (lv_sub hl [1, 2, 0] rfl) h
        · have h := q_ip c5 h
          refine lv_aload_n hx hb dX3_usableRoads_20 rfl (lv_at hl 0 rfl) ?_
          refine q_getr (own := RX3) (C := RX3) (T := TX3) (N := 7) (ci := 3) (j := 3)  (b := 6) hx hb hts i3 hown F S q_k1 (by decide) rfl (by decide) (by decide) rfl (by decide) (hts (.fieldLink RX3 11 "HeavyRoutes$Net" "roads" "[LHeavyRoutes$Road;") (by decide +kernel)) dX3_usableRoads_21 ?_
          refine lv_iload_n hx hb dX3_usableRoads_24 rfl (lv_at hl 2 rfl) ?_
          obtain ⟨g7, h⟩ := q_gd_some h
          refine q_rald (t := 0) hx hb F S q_k6 (by decide) rfl q_n6 (q_pe14 v2.toNatClampNeg) g7 dX3_usableRoads_25 ?_
          refine lv_iconst (v := 0) hx hb dX3_usableRoads_26 (by decide) ?_
          obtain ⟨r10, μ8, hc9, h⟩ := q_bd_some h
          refine q_ki F S (q_runV (As := [.int 0]) (rest := []) (b := (14 + v2.toNatClampNeg)) ⟨hx, hb, hml, hown, hts⟩ F S (c_X6_earliestStart l E hE (14 + v2.toNatClampNeg) 0 (q_e14 g7) μ2 μ8 r10 hc9) (cwV 1 hts gX3_usableRoads_X6_earliestStart rfl rfl rfl (by decide +kernel) ⟨Nat.le_of_ble_eq_true rfl, Nat.le_of_ble_eq_true rfl⟩) (q_e14 g7) (by decide) rfl rfl hl.1 rfl (Nat.le_of_ble_eq_true rfl) dX3_usableRoads_27 ⟨Nat.zero_le _, Nat.zero_le _⟩) (fun H locs S => ?_)
          refine lv_iconst (v := (-1)) hx hb dX3_usableRoads_30 (by decide) ?_
          refine lv_icmp_eq (tgt := 40) hx hb dX3_usableRoads_31 (by decide) (fun c11 => ?_) (fun c11 => ?_)
          · have h := q_ip c11 h
            obtain ⟨y12, ey12⟩ : ∃ z : Int32, z = v2 + 1 := ⟨_, rfl⟩
            have h := q_le_e h ey12
            refine lv_iinc (v := y12) (lv' := [(2, .int y12), (0, .ref (E.2.2.2 1)), (1, .int v1)]) hx hb dX3_usableRoads_40 hl (k := 2) rfl (by rw [ey12]; rfl) (by decide) rfl (fun ls hl => ?_)
            refine lv_goto (tgt := 4) hx hb dX3_usableRoads_43 (by decide) ?_
            exact ih v1 y12 μ8 H locs ls S (lv_sub hl [1, 2, 0] rfl) h
          · have h := q_ig c11 h
            refine lv_iload_n hx hb dX3_usableRoads_34 rfl (lv_at hl 1 rfl) ?_
            refine lv_iconst (v := 1) hx hb dX3_usableRoads_35 (by decide) ?_
            refine lv_iload_n hx hb dX3_usableRoads_36 rfl (lv_at hl 2 rfl) ?_
            refine lv_ishl hx hb dX3_usableRoads_37 ?_
            refine lv_ior hx hb dX3_usableRoads_38 ?_
            refine lv_topi (fun y13 ey13 => ?_)
            have h := q_le_e h ey13
            refine lv_istore_n (lv' := [(1, .int y13), (0, .ref (E.2.2.2 1)), (2, .int v2)]) hx hb dX3_usableRoads_39 rfl hl (by decide) rfl (fun ls hl => ?_)
            obtain ⟨y14, ey14⟩ : ∃ z : Int32, z = v2 + 1 := ⟨_, rfl⟩
            have h := q_le_e h ey14
            refine lv_iinc (v := y14) (lv' := [(2, .int y14), (1, .int y13), (0, .ref (E.2.2.2 1))]) hx hb dX3_usableRoads_40 hl (k := 2) rfl (by rw [ey14]; rfl) (by decide) rfl (fun ls hl => ?_)
            refine lv_goto (tgt := 4) hx hb dX3_usableRoads_43 (by decide) ?_
            exact ih y13 y14 μ8 H locs ls S (lv_sub hl [2, 1, 0] rfl) h
  unfold f_X3_usableRoads at h
  obtain ⟨H, eH⟩ : ∃ z, z = s.heap := ⟨_, rfl⟩
  obtain ⟨locs, eL⟩ : ∃ z : List Loc, z = [] := ⟨_, rfl⟩
  rw [← eH, ← eL] at S
  suffices hh : W p l e ({ frames := 3, cells := 0, slots := 0, locals := 89 }) s m ([.ref (E.2.2.2 1)] : List Value).toArray below meth c H locs 0 0 (MQ below (q_Qi E r μr) ([.ref (E.2.2.2 1)] : List Value).toArray s 0 0 (q_A E)) (F0 m 0 ls []) by rw [eH, eL] at hh; exact hh
  refine lv_iconst (v := 0) hx hb dX3_usableRoads_0 (by decide) ?_
  refine lv_istore_n (lv' := [(1, .int 0), (0, .ref (E.2.2.2 1))]) hx hb dX3_usableRoads_1 rfl hl (by decide) rfl (fun ls hl => ?_)
  refine lv_iconst (v := 0) hx hb dX3_usableRoads_2 (by decide) ?_
  refine lv_istore_n (lv' := [(2, .int 0), (1, .int 0), (0, .ref (E.2.2.2 1))]) hx hb dX3_usableRoads_3 rfl hl (by decide) rfl (fun ls hl => ?_)
  refine hL4 _ (fun v1 μ H locs ls S hl h => ?_) q_fu 0 0 μ H locs ls S (lv_sub hl [2, 1, 0] rfl) h
  refine lv_iload_n hx hb dX3_usableRoads_46 rfl (lv_at hl 0 rfl) ?_
  exact q_iret hx hb hr S h hlk dX3_usableRoads_47
def L_X3_bridgesOn_4 (x1 : Nat) (Kx : Int32 → q_M → Option (Int32 × q_M)) : Nat → Int32 → Int32 → q_M → Option (Int32 × q_M)
  | 0, _, _, _ => none
  | n + 1, v2, v3, μ => (if (μ.1 x1 2) ≤ v3 then Kx v2 μ else q_gd (q_ix v3 6) (q_gd (q_ix (μ.1 (x1 + 8) v3.toNatClampNeg) 12) ((if (μ.1 (14 + (μ.1 (x1 + 8) v3.toNatClampNeg).toNatClampNeg) 6) = (-1) then q_le (v3 + 1 : Int32) (fun y5 => (L_X3_bridgesOn_4 x1 Kx n) v2 y5 μ) else q_le (v2 + 1 : Int32) (fun y6 => q_le (v3 + 1 : Int32) (fun y7 => (L_X3_bridgesOn_4 x1 Kx n) y6 y7 μ))))))
def f_X3_bridgesOn (x1 : Nat) (μ : q_M) : Option (Int32 × q_M) := L_X3_bridgesOn_4 x1 (fun v2 μ => some (v2, μ)) q_fu 0 0 μ
set_option maxHeartbeats 4000000 in
set_option maxRecDepth 100000 in
theorem c_X3_bridgesOn (l : Launch) (E : q_E) (hE : q_I E) (x1 : Nat) (kx1 : q_kd x1 = 7) (μ μr : q_M) (r : Int32) (h : f_X3_bridgesOn x1 μ = some (r, μr)) : Met l yX3_bridgesOn wsX3_bridgesOn ({ frames := 0, cells := 0, slots := 0, locals := 0 }) (q_Pc E μ [.ref (E.2.2.2 1), .ref (E.2.2.2 x1)]) (q_Qi E r μr) 0 0 (q_A E) := by
  refine q_met (cc := cX3_bridgesOn) (maxL := 4) (ret := (some .int)) hE (by decide) rfl (Nat.le_of_ble_eq_true rfl) ?_
  intro p e s m below meth c hx hb hr hml hown hts hlk F S ls hl
  have hl : lv_has ls 4 [(0, .ref (E.2.2.2 1)), (1, .ref (E.2.2.2 x1))] := hl
  have i3 : ∀ w ∈ u_ws RX3 TX3 7, w ∈ wsX3_bridgesOn := by decide +kernel
  have i6 : ∀ w ∈ u_ws RX6 TX6 11, w ∈ wsX3_bridgesOn := by decide +kernel
  have i7 : ∀ w ∈ u_ws RX7 TX7 6, w ∈ wsX3_bridgesOn := by decide +kernel
  have hL4 : ∀ (Kx : Int32 → q_M → Option (Int32 × q_M)), (∀ (v2 : Int32), ∀ (μ : q_M) (H : Heap) (locs : List Loc) (ls : Array Slot), q_S E (q_A E) s μ H locs → lv_has ls 4 [(2, .int v2)] → Kx v2 μ = some (r, μr) → W p l e ({ frames := 0, cells := 0, slots := 0, locals := 0 }) s m ([.ref (E.2.2.2 1), .ref (E.2.2.2 x1)] : List Value).toArray below meth c H locs 0 0 (MQ below (q_Qi E r μr) ([.ref (E.2.2.2 1), .ref (E.2.2.2 x1)] : List Value).toArray s 0 0 (q_A E)) (F0 m 39 ls [])) → ∀ (n : Nat), ∀ (v2 : Int32), ∀ (v3 : Int32), ∀ (μ : q_M) (H : Heap) (locs : List Loc) (ls : Array Slot), q_S E (q_A E) s μ H locs → lv_has ls 4 [(0, .ref (E.2.2.2 1)), (1, .ref (E.2.2.2 x1)), (2, .int v2), (3, .int v3)] → L_X3_bridgesOn_4 x1 Kx n v2 v3 μ = some (r, μr) → W p l e ({ frames := 0, cells := 0, slots := 0, locals := 0 }) s m ([.ref (E.2.2.2 1), .ref (E.2.2.2 x1)] : List Value).toArray below meth c H locs 0 0 (MQ below (q_Qi E r μr) ([.ref (E.2.2.2 1), .ref (E.2.2.2 x1)] : List Value).toArray s 0 0 (q_A E)) (F0 m 4 ls []) := by
    intro Kx hKx n
    induction n with
    | zero => intro v2 v3 μ H locs ls S hl h; exact absurd h (by simp [L_X3_bridgesOn_4])
    | succ n ih =>
      intro v2 v3 μ H locs ls S hl h
      rw [L_X3_bridgesOn_4] at h
      refine lv_iload_n hx hb dX3_bridgesOn_4 rfl (lv_at hl 3 rfl) ?_
      refine lv_aload_n hx hb dX3_bridgesOn_5 rfl (lv_at hl 1 rfl) ?_
      refine q_getiN (own := RX3) (C := RX7) (T := TX7) (N := 6) (ci := 7) (j := 2) (host := "HeavyRoutes") hx hb hts i7 hown F S kx1 (by decide) rfl (by decide) (by decide) rfl (by decide +kernel) dX3_bridgesOn_6 ?_
      refine lv_icmp_ge (tgt := 39) hx hb dX3_bridgesOn_9 (by decide) (fun c1 => ?_) (fun c1 => ?_)
      · have h := q_ip c1 h
        exact hKx v2 μ H locs ls S (lv_sub hl [2] rfl) h
      · have h := q_ig c1 h
        refine lv_aload_n hx hb dX3_bridgesOn_12 rfl (lv_at hl 0 rfl) ?_
        refine q_getr (own := RX3) (C := RX3) (T := TX3) (N := 7) (ci := 3) (j := 3)  (b := 6) hx hb hts i3 hown F S q_k1 (by decide) rfl (by decide) (by decide) rfl (by decide) (hts (.fieldLink RX3 11 "HeavyRoutes$Net" "roads" "[LHeavyRoutes$Road;") (by decide +kernel)) dX3_bridgesOn_13 ?_
        refine lv_aload_n hx hb dX3_bridgesOn_16 rfl (lv_at hl 1 rfl) ?_
        refine q_getrN (own := RX3) (C := RX7) (T := TX7) (N := 6) (ci := 7) (j := 0) (host := "HeavyRoutes") hx hb hts i7 hown F S kx1 (by decide) rfl (by decide) (by decide) rfl (q_p_7_0 kx1) (by decide +kernel) dX3_bridgesOn_17 ?_
        refine lv_iload_n hx hb dX3_bridgesOn_20 rfl (lv_at hl 3 rfl) ?_
        obtain ⟨g2, h⟩ := q_gd_some h
        refine q_iald hx hb F S (q_k_7_0 kx1) (q_n_7_0 kx1) g2 dX3_bridgesOn_21 ?_
        obtain ⟨g3, h⟩ := q_gd_some h
        refine q_rald (t := 0) hx hb F S q_k6 (by decide) rfl q_n6 (q_pe14 (μ.1 (x1 + 8) v3.toNatClampNeg).toNatClampNeg) g3 dX3_bridgesOn_22 ?_
        refine q_getiN (own := RX3) (C := RX6) (T := TX6) (N := 11) (ci := 6) (j := 6) (host := "HeavyRoutes") hx hb hts i6 hown F S (q_e14 g3) (by decide) rfl (by decide) (by decide) rfl (by decide +kernel) dX3_bridgesOn_23 ?_
        refine lv_iconst (v := (-1)) hx hb dX3_bridgesOn_26 (by decide) ?_
        refine lv_icmp_eq (tgt := 33) hx hb dX3_bridgesOn_27 (by decide) (fun c4 => ?_) (fun c4 => ?_)
        · have h := q_ip c4 h
          obtain ⟨y5, ey5⟩ : ∃ z : Int32, z = v3 + 1 := ⟨_, rfl⟩
          have h := q_le_e h ey5
          refine lv_iinc (v := y5) (lv' := [(3, .int y5), (0, .ref (E.2.2.2 1)), (1, .ref (E.2.2.2 x1)), (2, .int v2)]) hx hb dX3_bridgesOn_33 hl (k := 3) rfl (by rw [ey5]; rfl) (by decide) rfl (fun ls hl => ?_)
          refine lv_goto (tgt := 4) hx hb dX3_bridgesOn_36 (by decide) ?_
          exact ih v2 y5 μ H locs ls S (lv_sub hl [1, 2, 3, 0] rfl) h
        · have h := q_ig c4 h
          obtain ⟨y6, ey6⟩ : ∃ z : Int32, z = v2 + 1 := ⟨_, rfl⟩
          have h := q_le_e h ey6
          refine lv_iinc (v := y6) (lv' := [(2, .int y6), (0, .ref (E.2.2.2 1)), (1, .ref (E.2.2.2 x1)), (3, .int v3)]) hx hb dX3_bridgesOn_30 hl (k := 2) rfl (by rw [ey6]; rfl) (by decide) rfl (fun ls hl => ?_)
          obtain ⟨y7, ey7⟩ : ∃ z : Int32, z = v3 + 1 := ⟨_, rfl⟩
          have h := q_le_e h ey7
          refine lv_iinc (v := y7) (lv' := [(3, .int y7), (2, .int y6), (0, .ref (E.2.2.2 1)), (1, .ref (E.2.2.2 x1))]) hx hb dX3_bridgesOn_33 hl (k := 3) rfl (by rw [ey7]; rfl) (by decide) rfl (fun ls hl => ?_)
          refine lv_goto (tgt := 4) hx hb dX3_bridgesOn_36 (by decide) ?_
          exact ih y6 y7 μ H locs ls S (lv_sub hl [2, 3, 1, 0] rfl) h
  unfold f_X3_bridgesOn at h
  obtain ⟨H, eH⟩ : ∃ z, z = s.heap := ⟨_, rfl⟩
  obtain ⟨locs, eL⟩ : ∃ z : List Loc, z = [] := ⟨_, rfl⟩
  rw [← eH, ← eL] at S
  suffices hh : W p l e ({ frames := 0, cells := 0, slots := 0, locals := 0 }) s m ([.ref (E.2.2.2 1), .ref (E.2.2.2 x1)] : List Value).toArray below meth c H locs 0 0 (MQ below (q_Qi E r μr) ([.ref (E.2.2.2 1), .ref (E.2.2.2 x1)] : List Value).toArray s 0 0 (q_A E)) (F0 m 0 ls []) by rw [eH, eL] at hh; exact hh
  refine lv_iconst (v := 0) hx hb dX3_bridgesOn_0 (by decide) ?_
  refine lv_istore_n (lv' := [(2, .int 0), (0, .ref (E.2.2.2 1)), (1, .ref (E.2.2.2 x1))]) hx hb dX3_bridgesOn_1 rfl hl (by decide) rfl (fun ls hl => ?_)
  refine lv_iconst (v := 0) hx hb dX3_bridgesOn_2 (by decide) ?_
  refine lv_istore_n (lv' := [(3, .int 0), (2, .int 0), (0, .ref (E.2.2.2 1)), (1, .ref (E.2.2.2 x1))]) hx hb dX3_bridgesOn_3 rfl hl (by decide) rfl (fun ls hl => ?_)
  refine hL4 _ (fun v2 μ H locs ls S hl h => ?_) q_fu 0 0 μ H locs ls S (lv_sub hl [2, 3, 1, 0] rfl) h
  refine lv_iload_n hx hb dX3_bridgesOn_39 rfl (lv_at hl 0 rfl) ?_
  exact q_iret hx hb hr S h hlk dX3_bridgesOn_40
def J_X3_endOfRoad_38 (x1 : Int32) (x2 : Int32) (v3 : Nat) (s0 : Int32) (μ : q_M) : Option (Int32 × q_M) := (if s0 = 0 then some ((x2 + (μ.1 v3 2)), μ) else some ((x2 + (2 * (μ.1 v3 2))), μ))
def J_X3_endOfRoad_37 (x1 : Int32) (x2 : Int32) (v3 : Nat) (μ : q_M) : Option (Int32 × q_M) := J_X3_endOfRoad_38 x1 x2 v3 0 μ
def f_X3_endOfRoad (x1 : Int32) (x2 : Int32) (μ : q_M) : Option (Int32 × q_M) := q_gd (q_ix x1 12) (q_bd (f_X3_hasBridge (μ.1 (14 + x1.toNatClampNeg) 6) μ) (fun r4 μ2 => (if r4 = 0 then J_X3_endOfRoad_37 x1 x2 (14 + x1.toNatClampNeg) μ2 else q_gd (q_ix (μ2.1 (14 + x1.toNatClampNeg) 6) 6) ((if (μ2.1 (50 + (μ2.1 (14 + x1.toNatClampNeg) 6).toNatClampNeg) 0) = 0 then J_X3_endOfRoad_37 x1 x2 (14 + x1.toNatClampNeg) μ2 else J_X3_endOfRoad_38 x1 x2 (14 + x1.toNatClampNeg) 1 μ2)))))
set_option maxHeartbeats 4000000 in
set_option maxRecDepth 100000 in
theorem c_X3_endOfRoad (l : Launch) (E : q_E) (hE : q_I E) (x1 : Int32) (x2 : Int32) (μ μr : q_M) (r : Int32) (h : f_X3_endOfRoad x1 x2 μ = some (r, μr)) : Met l yX3_endOfRoad wsX3_endOfRoad ({ frames := 1, cells := 0, slots := 0, locals := 21 }) (q_Pc E μ [.ref (E.2.2.2 1), .int x1, .int x2]) (q_Qi E r μr) 0 0 (q_A E) := by
  refine q_met (cc := cX3_endOfRoad) (maxL := 5) (ret := (some .int)) hE (by decide) rfl (Nat.le_of_ble_eq_true rfl) ?_
  intro p e s m below meth c hx hb hr hml hown hts hlk F S ls hl
  have hl : lv_has ls 5 [(0, .ref (E.2.2.2 1)), (1, .int x1), (2, .int x2)] := hl
  have i0 : ∀ w ∈ u_ws RX0 TX0 8, w ∈ wsX3_endOfRoad := by decide +kernel
  have i3 : ∀ w ∈ u_ws RX3 TX3 7, w ∈ wsX3_endOfRoad := by decide +kernel
  have i6 : ∀ w ∈ u_ws RX6 TX6 11, w ∈ wsX3_endOfRoad := by decide +kernel
  have hJ38 : ∀ (v3 : Nat), ∀ (s0 : Int32), q_kd v3 = 6 → ∀ (μ : q_M) (H : Heap) (locs : List Loc) (ls : Array Slot), q_S E (q_A E) s μ H locs → lv_has ls 5 [(2, .int x2), (3, .ref (E.2.2.2 v3))] → J_X3_endOfRoad_38 x1 x2 v3 s0 μ = some (r, μr) → W p l e ({ frames := 1, cells := 0, slots := 0, locals := 21 }) s m ([.ref (E.2.2.2 1), .int x1, .int x2] : List Value).toArray below meth c H locs 0 0 (MQ below (q_Qi E r μr) ([.ref (E.2.2.2 1), .int x1, .int x2] : List Value).toArray s 0 0 (q_A E)) (F0 m 38 ls [.int s0]) := by
    intro v3 s0 kv3 μ H locs ls S hl h
    rw [J_X3_endOfRoad_38] at h
    refine lv_istore (lv' := [(4, .int s0), (2, .int x2), (3, .ref (E.2.2.2 v3))]) hx hb dX3_endOfRoad_38 hl (by decide) rfl (fun ls hl => ?_)
    refine lv_iload_n hx hb dX3_endOfRoad_40 rfl (lv_at hl 1 rfl) ?_
    refine lv_iload hx hb dX3_endOfRoad_41 (lv_at hl 0 rfl) ?_
    refine lv_if_eq (tgt := 55) hx hb dX3_endOfRoad_43 (by decide) (fun c6 => ?_) (fun c6 => ?_)
    · have h := q_ip c6 h
      refine lv_aload_n hx hb dX3_endOfRoad_55 rfl (lv_at hl 2 rfl) ?_
      refine q_getiN (own := RX3) (C := RX6) (T := TX6) (N := 11) (ci := 6) (j := 2) (host := "HeavyRoutes") hx hb hts i6 hown F S kv3 (by decide) rfl (by decide) (by decide) rfl (by decide +kernel) dX3_endOfRoad_56 ?_
      refine lv_iadd hx hb dX3_endOfRoad_59 ?_
      exact q_iret hx hb hr S h hlk dX3_endOfRoad_60
    · have h := q_ig c6 h
      refine lv_iconst (v := 2) hx hb dX3_endOfRoad_46 (by decide) ?_
      refine lv_aload_n hx hb dX3_endOfRoad_47 rfl (lv_at hl 2 rfl) ?_
      refine q_getiN (own := RX3) (C := RX6) (T := TX6) (N := 11) (ci := 6) (j := 2) (host := "HeavyRoutes") hx hb hts i6 hown F S kv3 (by decide) rfl (by decide) (by decide) rfl (by decide +kernel) dX3_endOfRoad_48 ?_
      refine lv_imul hx hb dX3_endOfRoad_51 ?_
      refine lv_goto (tgt := 59) hx hb dX3_endOfRoad_52 (by decide) ?_
      refine lv_iadd hx hb dX3_endOfRoad_59 ?_
      exact q_iret hx hb hr S h hlk dX3_endOfRoad_60
  have hJ37 : ∀ (v3 : Nat), q_kd v3 = 6 → ∀ (μ : q_M) (H : Heap) (locs : List Loc) (ls : Array Slot), q_S E (q_A E) s μ H locs → lv_has ls 5 [(2, .int x2), (3, .ref (E.2.2.2 v3))] → J_X3_endOfRoad_37 x1 x2 v3 μ = some (r, μr) → W p l e ({ frames := 1, cells := 0, slots := 0, locals := 21 }) s m ([.ref (E.2.2.2 1), .int x1, .int x2] : List Value).toArray below meth c H locs 0 0 (MQ below (q_Qi E r μr) ([.ref (E.2.2.2 1), .int x1, .int x2] : List Value).toArray s 0 0 (q_A E)) (F0 m 37 ls []) := by
    intro v3 kv3 μ H locs ls S hl h
    rw [J_X3_endOfRoad_37] at h
    refine lv_iconst (v := 0) hx hb dX3_endOfRoad_37 (by decide) ?_
    exact hJ38 v3 0 kv3 μ H locs ls S (lv_sub hl [0, 1] rfl) h
  unfold f_X3_endOfRoad at h
  obtain ⟨H, eH⟩ : ∃ z, z = s.heap := ⟨_, rfl⟩
  obtain ⟨locs, eL⟩ : ∃ z : List Loc, z = [] := ⟨_, rfl⟩
  rw [← eH, ← eL] at S
  suffices hh : W p l e ({ frames := 1, cells := 0, slots := 0, locals := 21 }) s m ([.ref (E.2.2.2 1), .int x1, .int x2] : List Value).toArray below meth c H locs 0 0 (MQ below (q_Qi E r μr) ([.ref (E.2.2.2 1), .int x1, .int x2] : List Value).toArray s 0 0 (q_A E)) (F0 m 0 ls []) by rw [eH, eL] at hh; exact hh
  refine lv_aload_n hx hb dX3_endOfRoad_0 rfl (lv_at hl 0 rfl) ?_
  refine q_getr (own := RX3) (C := RX3) (T := TX3) (N := 7) (ci := 3) (j := 3)  (b := 6) hx hb hts i3 hown F S q_k1 (by decide) rfl (by decide) (by decide) rfl (by decide) (hts (.fieldLink RX3 11 "HeavyRoutes$Net" "roads" "[LHeavyRoutes$Road;") (by decide +kernel)) dX3_endOfRoad_1 ?_
  refine lv_iload_n hx hb dX3_endOfRoad_4 rfl (lv_at hl 1 rfl) ?_
  obtain ⟨g1, h⟩ := q_gd_some h
  refine q_rald (t := 0) hx hb F S q_k6 (by decide) rfl q_n6 (q_pe14 x1.toNatClampNeg) g1 dX3_endOfRoad_5 ?_
  refine lv_astore_n (lv' := [(3, .ref (E.2.2.2 (14 + x1.toNatClampNeg))), (0, .ref (E.2.2.2 1)), (1, .int x1), (2, .int x2)]) hx hb dX3_endOfRoad_6 rfl hl (by decide) rfl (fun ls hl => ?_)
  refine lv_aload_n hx hb dX3_endOfRoad_7 rfl (lv_at hl 1 rfl) ?_
  refine lv_aload_n hx hb dX3_endOfRoad_8 rfl (lv_at hl 0 rfl) ?_
  refine q_getiN (own := RX3) (C := RX6) (T := TX6) (N := 11) (ci := 6) (j := 6) (host := "HeavyRoutes") hx hb hts i6 hown F S (q_e14 g1) (by decide) rfl (by decide) (by decide) rfl (by decide +kernel) dX3_endOfRoad_9 ?_
  obtain ⟨r4, μ2, hc3, h⟩ := q_bd_some h
  refine q_ki F S (q_runV (As := [.int (μ.1 (14 + x1.toNatClampNeg) 6)]) (rest := []) (b := 1) ⟨hx, hb, hml, hown, hts⟩ F S (c_X3_hasBridge l E hE (μ.1 (14 + x1.toNatClampNeg) 6) μ μ2 r4 hc3) (cwV 1 hts gX3_endOfRoad_X3_hasBridge rfl rfl rfl (by decide +kernel) ⟨Nat.le_of_ble_eq_true rfl, Nat.le_of_ble_eq_true rfl⟩) q_k1 (by decide) rfl rfl hl.1 rfl (Nat.le_of_ble_eq_true rfl) dX3_endOfRoad_12 ⟨Nat.zero_le _, Nat.zero_le _⟩) (fun H locs S => ?_)
  refine lv_if_eq (tgt := 37) hx hb dX3_endOfRoad_15 (by decide) (fun c5 => ?_) (fun c5 => ?_)
  · have h := q_ip c5 h
    exact hJ37 (14 + x1.toNatClampNeg) (q_e14 g1) μ2 H locs ls S (lv_sub hl [3, 0] rfl) h
  · have h := q_ig c5 h
    refine lv_aload_n hx hb dX3_endOfRoad_18 rfl (lv_at hl 1 rfl) ?_
    refine q_getr (own := RX3) (C := RX3) (T := TX3) (N := 7) (ci := 3) (j := 4)  (b := 7) hx hb hts i3 hown F S q_k1 (by decide) rfl (by decide) (by decide) rfl (by decide) (hts (.fieldLink RX3 19 "HeavyRoutes$Net" "bridges" "[LHeavyRoutes$Bridge;") (by decide +kernel)) dX3_endOfRoad_19 ?_
    refine lv_aload_n hx hb dX3_endOfRoad_22 rfl (lv_at hl 0 rfl) ?_
    refine q_getiN (own := RX3) (C := RX6) (T := TX6) (N := 11) (ci := 6) (j := 6) (host := "HeavyRoutes") hx hb hts i6 hown F S (q_e14 g1) (by decide) rfl (by decide) (by decide) rfl (by decide +kernel) dX3_endOfRoad_23 ?_
    obtain ⟨g7, h⟩ := q_gd_some h
    refine q_rald (t := 1) hx hb F S q_k7 (by decide) rfl q_n7 (q_pe15 (μ2.1 (14 + x1.toNatClampNeg) 6).toNatClampNeg) g7 dX3_endOfRoad_26 ?_
    refine q_getiN (own := RX3) (C := RX0) (T := TX0) (N := 8) (ci := 0) (j := 0) (host := "HeavyRoutes") hx hb hts i0 hown F S (q_e15 g7) (by decide) rfl (by decide) (by decide) rfl (by decide +kernel) dX3_endOfRoad_27 ?_
    refine lv_if_eq (tgt := 37) hx hb dX3_endOfRoad_30 (by decide) (fun c8 => ?_) (fun c8 => ?_)
    · have h := q_ip c8 h
      exact hJ37 (14 + x1.toNatClampNeg) (q_e14 g1) μ2 H locs ls S (lv_sub hl [3, 0] rfl) h
    · have h := q_ig c8 h
      refine lv_iconst (v := 1) hx hb dX3_endOfRoad_33 (by decide) ?_
      refine lv_goto (tgt := 38) hx hb dX3_endOfRoad_34 (by decide) ?_
      exact hJ38 (14 + x1.toNatClampNeg) 1 (q_e14 g1) μ2 H locs ls S (lv_sub hl [3, 0] rfl) h
def f_X3_hasNode (x1 : Int32) (μ : q_M) : Option (Int32 × q_M) := (if x1 < 0 then some (0, μ) else (if (μ.1 1 0) ≤ x1 then some (0, μ) else some (1, μ)))
set_option maxHeartbeats 4000000 in
set_option maxRecDepth 100000 in
theorem c_X3_hasNode (l : Launch) (E : q_E) (hE : q_I E) (x1 : Int32) (μ μr : q_M) (r : Int32) (h : f_X3_hasNode x1 μ = some (r, μr)) : Met l yX3_hasNode wsX3_hasNode ({ frames := 0, cells := 0, slots := 0, locals := 0 }) (q_Pc E μ [.ref (E.2.2.2 1), .int x1]) (q_Qi E r μr) 0 0 (q_A E) := by
  refine q_met (cc := cX3_hasNode) (maxL := 2) (ret := (some .boolean)) hE (by decide) rfl (Nat.le_of_ble_eq_true rfl) ?_
  intro p e s m below meth c hx hb hr hml hown hts hlk F S ls hl
  have hl : lv_has ls 2 [(0, .ref (E.2.2.2 1)), (1, .int x1)] := hl
  have i3 : ∀ w ∈ u_ws RX3 TX3 7, w ∈ wsX3_hasNode := by decide +kernel
  unfold f_X3_hasNode at h
  obtain ⟨H, eH⟩ : ∃ z, z = s.heap := ⟨_, rfl⟩
  obtain ⟨locs, eL⟩ : ∃ z : List Loc, z = [] := ⟨_, rfl⟩
  rw [← eH, ← eL] at S
  suffices hh : W p l e ({ frames := 0, cells := 0, slots := 0, locals := 0 }) s m ([.ref (E.2.2.2 1), .int x1] : List Value).toArray below meth c H locs 0 0 (MQ below (q_Qi E r μr) ([.ref (E.2.2.2 1), .int x1] : List Value).toArray s 0 0 (q_A E)) (F0 m 0 ls []) by rw [eH, eL] at hh; exact hh
  refine lv_iload_n hx hb dX3_hasNode_0 rfl (lv_at hl 1 rfl) ?_
  refine lv_if_lt (tgt := 16) hx hb dX3_hasNode_1 (by decide) (fun c1 => ?_) (fun c1 => ?_)
  · have h := q_ip c1 h
    refine lv_iconst (v := 0) hx hb dX3_hasNode_16 (by decide) ?_
    exact q_zret hx hb hr S (by decide) h hlk dX3_hasNode_17
  · have h := q_ig c1 h
    refine lv_iload_n hx hb dX3_hasNode_4 rfl (lv_at hl 1 rfl) ?_
    refine lv_aload_n hx hb dX3_hasNode_5 rfl (lv_at hl 0 rfl) ?_
    refine q_geti (own := RX3) (C := RX3) (T := TX3) (N := 7) (ci := 3) (j := 0)  hx hb hts i3 hown F S q_k1 (by decide) rfl (by decide) (by decide) rfl (hts (.fieldLink RX3 39 "HeavyRoutes$Net" "nodeCount" "I") (by decide +kernel)) dX3_hasNode_6 ?_
    refine lv_icmp_ge (tgt := 16) hx hb dX3_hasNode_9 (by decide) (fun c2 => ?_) (fun c2 => ?_)
    · have h := q_ip c2 h
      refine lv_iconst (v := 0) hx hb dX3_hasNode_16 (by decide) ?_
      exact q_zret hx hb hr S (by decide) h hlk dX3_hasNode_17
    · have h := q_ig c2 h
      refine lv_iconst (v := 1) hx hb dX3_hasNode_12 (by decide) ?_
      refine lv_goto (tgt := 17) hx hb dX3_hasNode_13 (by decide) ?_
      exact q_zret hx hb hr S (by decide) h hlk dX3_hasNode_17
def f_X3_hasRoad (x1 : Int32) (μ : q_M) : Option (Int32 × q_M) := (if x1 < 0 then some (0, μ) else (if (μ.1 1 1) ≤ x1 then some (0, μ) else some (1, μ)))
set_option maxHeartbeats 4000000 in
set_option maxRecDepth 100000 in
theorem c_X3_hasRoad (l : Launch) (E : q_E) (hE : q_I E) (x1 : Int32) (μ μr : q_M) (r : Int32) (h : f_X3_hasRoad x1 μ = some (r, μr)) : Met l yX3_hasRoad wsX3_hasRoad ({ frames := 0, cells := 0, slots := 0, locals := 0 }) (q_Pc E μ [.ref (E.2.2.2 1), .int x1]) (q_Qi E r μr) 0 0 (q_A E) := by
  refine q_met (cc := cX3_hasRoad) (maxL := 2) (ret := (some .boolean)) hE (by decide) rfl (Nat.le_of_ble_eq_true rfl) ?_
  intro p e s m below meth c hx hb hr hml hown hts hlk F S ls hl
  have hl : lv_has ls 2 [(0, .ref (E.2.2.2 1)), (1, .int x1)] := hl
  have i3 : ∀ w ∈ u_ws RX3 TX3 7, w ∈ wsX3_hasRoad := by decide +kernel
  unfold f_X3_hasRoad at h
  obtain ⟨H, eH⟩ : ∃ z, z = s.heap := ⟨_, rfl⟩
  obtain ⟨locs, eL⟩ : ∃ z : List Loc, z = [] := ⟨_, rfl⟩
  rw [← eH, ← eL] at S
  suffices hh : W p l e ({ frames := 0, cells := 0, slots := 0, locals := 0 }) s m ([.ref (E.2.2.2 1), .int x1] : List Value).toArray below meth c H locs 0 0 (MQ below (q_Qi E r μr) ([.ref (E.2.2.2 1), .int x1] : List Value).toArray s 0 0 (q_A E)) (F0 m 0 ls []) by rw [eH, eL] at hh; exact hh
  refine lv_iload_n hx hb dX3_hasRoad_0 rfl (lv_at hl 1 rfl) ?_
  refine lv_if_lt (tgt := 16) hx hb dX3_hasRoad_1 (by decide) (fun c1 => ?_) (fun c1 => ?_)
  · have h := q_ip c1 h
    refine lv_iconst (v := 0) hx hb dX3_hasRoad_16 (by decide) ?_
    exact q_zret hx hb hr S (by decide) h hlk dX3_hasRoad_17
  · have h := q_ig c1 h
    refine lv_iload_n hx hb dX3_hasRoad_4 rfl (lv_at hl 1 rfl) ?_
    refine lv_aload_n hx hb dX3_hasRoad_5 rfl (lv_at hl 0 rfl) ?_
    refine q_geti (own := RX3) (C := RX3) (T := TX3) (N := 7) (ci := 3) (j := 1)  hx hb hts i3 hown F S q_k1 (by decide) rfl (by decide) (by decide) rfl (hts (.fieldLink RX3 43 "HeavyRoutes$Net" "roadCount" "I") (by decide +kernel)) dX3_hasRoad_6 ?_
    refine lv_icmp_ge (tgt := 16) hx hb dX3_hasRoad_9 (by decide) (fun c2 => ?_) (fun c2 => ?_)
    · have h := q_ip c2 h
      refine lv_iconst (v := 0) hx hb dX3_hasRoad_16 (by decide) ?_
      exact q_zret hx hb hr S (by decide) h hlk dX3_hasRoad_17
    · have h := q_ig c2 h
      refine lv_iconst (v := 1) hx hb dX3_hasRoad_12 (by decide) ?_
      refine lv_goto (tgt := 17) hx hb dX3_hasRoad_13 (by decide) ?_
      exact q_zret hx hb hr S (by decide) h hlk dX3_hasRoad_17
def f_X3_rateBridge (x1 : Int32) (μ : q_M) : Option (Unit × q_M) := q_gd (q_ix x1 6) (q_bd (f_X4_rate (50 + x1.toNatClampNeg) ((50 + x1.toNatClampNeg) + 24) μ) (fun u2 μ2 => q_bd (f_X4_isAbove ((50 + x1.toNatClampNeg) + 24) 1 1 μ2) (fun r6 μ4 => q_gd (q_zb r6) (q_le (q_si μ4 (50 + x1.toNatClampNeg) 6 r6) (fun μ8 => q_bd (f_X4_isAbove ((50 + x1.toNatClampNeg) + 24) 3 4 μ8) (fun r11 μ9 => q_gd (q_zb r11) (q_le (q_si μ9 (50 + x1.toNatClampNeg) 7 r11) (fun μ13 => some ((), μ13)))))))))
set_option maxHeartbeats 4000000 in
set_option maxRecDepth 100000 in
theorem c_X3_rateBridge (l : Launch) (E : q_E) (hE : q_I E) (x1 : Int32) (μ μr : q_M) (r : Unit) (h : f_X3_rateBridge x1 μ = some (r, μr)) : Met l yX3_rateBridge wsX3_rateBridge ({ frames := 4, cells := 0, slots := 0, locals := 120 }) (q_Pc E μ [.ref (E.2.2.2 1), .int x1]) (q_Qv E r μr) 0 0 (q_A E) := by
  refine q_met (cc := cX3_rateBridge) (maxL := 3) (ret := none) hE (by decide) rfl (Nat.le_of_ble_eq_true rfl) ?_
  intro p e s m below meth c hx hb hr hml hown hts hlk F S ls hl
  have hl : lv_has ls 3 [(0, .ref (E.2.2.2 1)), (1, .int x1)] := hl
  have i0 : ∀ w ∈ u_ws RX0 TX0 8, w ∈ wsX3_rateBridge := by decide +kernel
  have i3 : ∀ w ∈ u_ws RX3 TX3 7, w ∈ wsX3_rateBridge := by decide +kernel
  unfold f_X3_rateBridge at h
  obtain ⟨H, eH⟩ : ∃ z, z = s.heap := ⟨_, rfl⟩
  obtain ⟨locs, eL⟩ : ∃ z : List Loc, z = [] := ⟨_, rfl⟩
  rw [← eH, ← eL] at S
  suffices hh : W p l e ({ frames := 4, cells := 0, slots := 0, locals := 120 }) s m ([.ref (E.2.2.2 1), .int x1] : List Value).toArray below meth c H locs 0 0 (MQ below (q_Qv E r μr) ([.ref (E.2.2.2 1), .int x1] : List Value).toArray s 0 0 (q_A E)) (F0 m 0 ls []) by rw [eH, eL] at hh; exact hh
  refine lv_aload_n hx hb dX3_rateBridge_0 rfl (lv_at hl 0 rfl) ?_
  refine q_getr (own := RX3) (C := RX3) (T := TX3) (N := 7) (ci := 3) (j := 4)  (b := 7) hx hb hts i3 hown F S q_k1 (by decide) rfl (by decide) (by decide) rfl (by decide) (hts (.fieldLink RX3 19 "HeavyRoutes$Net" "bridges" "[LHeavyRoutes$Bridge;") (by decide +kernel)) dX3_rateBridge_1 ?_
  refine lv_iload_n hx hb dX3_rateBridge_4 rfl (lv_at hl 1 rfl) ?_
  obtain ⟨g1, h⟩ := q_gd_some h
  refine q_rald (t := 1) hx hb F S q_k7 (by decide) rfl q_n7 (q_pe15 x1.toNatClampNeg) g1 dX3_rateBridge_5 ?_
  refine lv_astore_n (lv' := [(2, .ref (E.2.2.2 (50 + x1.toNatClampNeg))), (0, .ref (E.2.2.2 1)), (1, .int x1)]) hx hb dX3_rateBridge_6 rfl hl (by decide) rfl (fun ls hl => ?_)
  refine lv_aload_n hx hb dX3_rateBridge_7 rfl (lv_at hl 1 rfl) ?_
  refine q_getr (own := RX3) (C := RX3) (T := TX3) (N := 7) (ci := 3) (j := 6)  (b := 4) hx hb hts i3 hown F S q_k1 (by decide) rfl (by decide) (by decide) rfl (by decide) (hts (.fieldLink RX3 33 "HeavyRoutes$Net" "rater" "LHeavyRoutes$Rater;") (by decide +kernel)) dX3_rateBridge_8 ?_
  refine lv_aload_n hx hb dX3_rateBridge_11 rfl (lv_at hl 0 rfl) ?_
  refine lv_aload_n hx hb dX3_rateBridge_12 rfl (lv_at hl 1 rfl) ?_
  refine q_getr (own := RX3) (C := RX3) (T := TX3) (N := 7) (ci := 3) (j := 5)  (b := 3) hx hb hts i3 hown F S q_k1 (by decide) rfl (by decide) (by decide) rfl (by decide) (hts (.fieldLink RX3 26 "HeavyRoutes$Net" "journey" "LHeavyRoutes$Journey;") (by decide +kernel)) dX3_rateBridge_13 ?_
  refine lv_aload_n hx hb dX3_rateBridge_16 rfl (lv_at hl 0 rfl) ?_
  refine q_getrN (own := RX3) (C := RX0) (T := TX0) (N := 8) (ci := 0) (j := 5) (host := "HeavyRoutes") hx hb hts i0 hown F S (q_e15 g1) (by decide) rfl (by decide) (by decide) rfl (q_p_0_5 (q_e15 g1)) (by decide +kernel) dX3_rateBridge_17 ?_
  obtain ⟨u2, μ2, hc3, h⟩ := q_bd_some h
  refine q_kv F S (q_runV (As := [.ref (E.2.2.2 (50 + x1.toNatClampNeg)), .ref (E.2.2.2 3), .ref (E.2.2.2 ((50 + x1.toNatClampNeg) + 24))]) (rest := []) (b := 4) ⟨hx, hb, hml, hown, hts⟩ F S (c_X4_rate l E hE (50 + x1.toNatClampNeg) ((50 + x1.toNatClampNeg) + 24) (q_e15 g1) (q_k_0_5 (q_e15 g1)) μ μ2 u2 hc3) (cwV 3 hts gX3_rateBridge_X4_rate rfl rfl rfl (by decide +kernel) ⟨Nat.le_of_ble_eq_true rfl, Nat.le_of_ble_eq_true rfl⟩) q_k4 (by decide) rfl rfl hl.1 rfl (Nat.le_of_ble_eq_true rfl) dX3_rateBridge_20 ⟨Nat.zero_le _, Nat.zero_le _⟩) (fun H locs S => ?_)
  refine lv_aload_n hx hb dX3_rateBridge_23 rfl (lv_at hl 0 rfl) ?_
  refine lv_aload_n hx hb dX3_rateBridge_24 rfl (lv_at hl 1 rfl) ?_
  refine q_getr (own := RX3) (C := RX3) (T := TX3) (N := 7) (ci := 3) (j := 6)  (b := 4) hx hb hts i3 hown F S q_k1 (by decide) rfl (by decide) (by decide) rfl (by decide) (hts (.fieldLink RX3 33 "HeavyRoutes$Net" "rater" "LHeavyRoutes$Rater;") (by decide +kernel)) dX3_rateBridge_25 ?_
  refine lv_aload_n hx hb dX3_rateBridge_28 rfl (lv_at hl 0 rfl) ?_
  refine q_getrN (own := RX3) (C := RX0) (T := TX0) (N := 8) (ci := 0) (j := 5) (host := "HeavyRoutes") hx hb hts i0 hown F S (q_e15 g1) (by decide) rfl (by decide) (by decide) rfl (q_p_0_5 (q_e15 g1)) (by decide +kernel) dX3_rateBridge_29 ?_
  refine lv_lconst (v := 1) hx hb dX3_rateBridge_32 (by decide) ?_
  refine lv_lconst (v := 1) hx hb dX3_rateBridge_33 (by decide) ?_
  obtain ⟨r6, μ4, hc5, h⟩ := q_bd_some h
  refine q_ki F S (q_runV (As := [.ref (E.2.2.2 ((50 + x1.toNatClampNeg) + 24)), .long 1, .long 1]) (rest := [.ref (E.2.2.2 (50 + x1.toNatClampNeg))]) (b := 4) ⟨hx, hb, hml, hown, hts⟩ F S (c_X4_isAbove l E hE ((50 + x1.toNatClampNeg) + 24) 1 1 (q_k_0_5 (q_e15 g1)) μ2 μ4 r6 hc5) (cwV 3 hts gX3_rateBridge_X4_isAbove rfl rfl rfl (by decide +kernel) ⟨Nat.le_of_ble_eq_true rfl, Nat.le_of_ble_eq_true rfl⟩) q_k4 (by decide) rfl rfl hl.1 rfl (Nat.le_of_ble_eq_true rfl) dX3_rateBridge_34 ⟨Nat.zero_le _, Nat.zero_le _⟩) (fun H locs S => ?_)
  obtain ⟨g7, h⟩ := q_gd_some h
  refine q_putzN (own := RX3) (C := RX0) (T := TX0) (N := 8) (ci := 0) (j := 6) (host := "HeavyRoutes") hx hb hts i0 tyX0 tyX0_ok nmX0 hown F S (q_e15 g1) (by decide) rfl (by decide) (by decide) rfl (by decide +kernel) rfl (by decide +kernel) g7 dX3_rateBridge_37 (fun H locs μ8 eμ8 S => ?_)
  have h := q_le_e h eμ8
  refine lv_aload_n hx hb dX3_rateBridge_40 rfl (lv_at hl 0 rfl) ?_
  refine lv_aload_n hx hb dX3_rateBridge_41 rfl (lv_at hl 1 rfl) ?_
  refine q_getr (own := RX3) (C := RX3) (T := TX3) (N := 7) (ci := 3) (j := 6)  (b := 4) hx hb hts i3 hown F S q_k1 (by decide) rfl (by decide) (by decide) rfl (by decide) (hts (.fieldLink RX3 33 "HeavyRoutes$Net" "rater" "LHeavyRoutes$Rater;") (by decide +kernel)) dX3_rateBridge_42 ?_
  refine lv_aload_n hx hb dX3_rateBridge_45 rfl (lv_at hl 0 rfl) ?_
  refine q_getrN (own := RX3) (C := RX0) (T := TX0) (N := 8) (ci := 0) (j := 5) (host := "HeavyRoutes") hx hb hts i0 hown F S (q_e15 g1) (by decide) rfl (by decide) (by decide) rfl (q_p_0_5 (q_e15 g1)) (by decide +kernel) dX3_rateBridge_46 ?_
  refine lv_ldc2 (v := 3) hx hb hown (hts (.constantLong RX3 65 (3)) (by decide +kernel)) dX3_rateBridge_49 ?_
  refine lv_ldc2 (v := 4) hx hb hown (hts (.constantLong RX3 67 (4)) (by decide +kernel)) dX3_rateBridge_52 ?_
  obtain ⟨r11, μ9, hc10, h⟩ := q_bd_some h
  refine q_ki F S (q_runV (As := [.ref (E.2.2.2 ((50 + x1.toNatClampNeg) + 24)), .long 3, .long 4]) (rest := [.ref (E.2.2.2 (50 + x1.toNatClampNeg))]) (b := 4) ⟨hx, hb, hml, hown, hts⟩ F S (c_X4_isAbove l E hE ((50 + x1.toNatClampNeg) + 24) 3 4 (q_k_0_5 (q_e15 g1)) μ8 μ9 r11 hc10) (cwV 3 hts gX3_rateBridge_X4_isAbove rfl rfl rfl (by decide +kernel) ⟨Nat.le_of_ble_eq_true rfl, Nat.le_of_ble_eq_true rfl⟩) q_k4 (by decide) rfl rfl hl.1 rfl (Nat.le_of_ble_eq_true rfl) dX3_rateBridge_55 ⟨Nat.zero_le _, Nat.zero_le _⟩) (fun H locs S => ?_)
  obtain ⟨g12, h⟩ := q_gd_some h
  refine q_putzN (own := RX3) (C := RX0) (T := TX0) (N := 8) (ci := 0) (j := 7) (host := "HeavyRoutes") hx hb hts i0 tyX0 tyX0_ok nmX0 hown F S (q_e15 g1) (by decide) rfl (by decide) (by decide) rfl (by decide +kernel) rfl (by decide +kernel) g12 dX3_rateBridge_58 (fun H locs μ13 eμ13 S => ?_)
  have h := q_le_e h eμ13
  exact q_vret hx hb hr S h hlk dX3_rateBridge_61
def L_X3_rateAllBridges_2 (Kx : q_M → Option (Unit × q_M)) : Nat → Int32 → q_M → Option (Unit × q_M)
  | 0, _, _ => none
  | n + 1, v1, μ => (if (μ.1 1 2) ≤ v1 then Kx μ else q_bd (f_X3_rateBridge v1 μ) (fun u2 μ2 => q_le (v1 + 1 : Int32) (fun y4 => (L_X3_rateAllBridges_2 Kx n) y4 μ2)))
def f_X3_rateAllBridges (μ : q_M) : Option (Unit × q_M) := L_X3_rateAllBridges_2 (fun μ => some ((), μ)) q_fu 0 μ
set_option maxHeartbeats 4000000 in
set_option maxRecDepth 100000 in
theorem c_X3_rateAllBridges (l : Launch) (E : q_E) (hE : q_I E) (μ μr : q_M) (r : Unit) (h : f_X3_rateAllBridges μ = some (r, μr)) : Met l yX3_rateAllBridges wsX3_rateAllBridges ({ frames := 5, cells := 0, slots := 0, locals := 142 }) (q_Pc E μ [.ref (E.2.2.2 1)]) (q_Qv E r μr) 0 0 (q_A E) := by
  refine q_met (cc := cX3_rateAllBridges) (maxL := 2) (ret := none) hE (by decide) rfl (Nat.le_of_ble_eq_true rfl) ?_
  intro p e s m below meth c hx hb hr hml hown hts hlk F S ls hl
  have hl : lv_has ls 2 [(0, .ref (E.2.2.2 1))] := hl
  have i3 : ∀ w ∈ u_ws RX3 TX3 7, w ∈ wsX3_rateAllBridges := by decide +kernel
  have hL2 : ∀ (Kx : q_M → Option (Unit × q_M)), (∀ (μ : q_M) (H : Heap) (locs : List Loc) (ls : Array Slot), q_S E (q_A E) s μ H locs → lv_has ls 2 [] → Kx μ = some (r, μr) → W p l e ({ frames := 5, cells := 0, slots := 0, locals := 142 }) s m ([.ref (E.2.2.2 1)] : List Value).toArray below meth c H locs 0 0 (MQ below (q_Qv E r μr) ([.ref (E.2.2.2 1)] : List Value).toArray s 0 0 (q_A E)) (F0 m 21 ls [])) → ∀ (n : Nat), ∀ (v1 : Int32), ∀ (μ : q_M) (H : Heap) (locs : List Loc) (ls : Array Slot), q_S E (q_A E) s μ H locs → lv_has ls 2 [(0, .ref (E.2.2.2 1)), (1, .int v1)] → L_X3_rateAllBridges_2 Kx n v1 μ = some (r, μr) → W p l e ({ frames := 5, cells := 0, slots := 0, locals := 142 }) s m ([.ref (E.2.2.2 1)] : List Value).toArray below meth c H locs 0 0 (MQ below (q_Qv E r μr) ([.ref (E.2.2.2 1)] : List Value).toArray s 0 0 (q_A E)) (F0 m 2 ls []) := by
    intro Kx hKx n
    induction n with
    | zero => intro v1 μ H locs ls S hl h; exact absurd h (by simp [L_X3_rateAllBridges_2])
    | succ n ih =>
      intro v1 μ H locs ls S hl h
      rw [L_X3_rateAllBridges_2] at h
      refine lv_iload_n hx hb dX3_rateAllBridges_2 rfl (lv_at hl 1 rfl) ?_
      refine lv_aload_n hx hb dX3_rateAllBridges_3 rfl (lv_at hl 0 rfl) ?_
      refine q_geti (own := RX3) (C := RX3) (T := TX3) (N := 7) (ci := 3) (j := 2)  hx hb hts i3 hown F S q_k1 (by decide) rfl (by decide) (by decide) rfl (hts (.fieldLink RX3 46 "HeavyRoutes$Net" "bridgeCount" "I") (by decide +kernel)) dX3_rateAllBridges_4 ?_
      refine lv_icmp_ge (tgt := 21) hx hb dX3_rateAllBridges_7 (by decide) (fun c1 => ?_) (fun c1 => ?_)
      · have h := q_ip c1 h
        exact hKx μ H locs ls S (lv_sub hl [] rfl) h
      · have h := q_ig c1 h
        refine lv_aload_n hx hb dX3_rateAllBridges_10 rfl (lv_at hl 0 rfl) ?_
        refine lv_iload_n hx hb dX3_rateAllBridges_11 rfl (lv_at hl 1 rfl) ?_
        obtain ⟨u2, μ2, hc3, h⟩ := q_bd_some h
        refine q_kv F S (q_runV (As := [.int v1]) (rest := []) (b := 1) ⟨hx, hb, hml, hown, hts⟩ F S (c_X3_rateBridge l E hE v1 μ μ2 u2 hc3) (cwV 1 hts gX3_rateAllBridges_X3_rateBridge rfl rfl rfl (by decide +kernel) ⟨Nat.le_of_ble_eq_true rfl, Nat.le_of_ble_eq_true rfl⟩) q_k1 (by decide) rfl rfl hl.1 rfl (Nat.le_of_ble_eq_true rfl) dX3_rateAllBridges_12 ⟨Nat.zero_le _, Nat.zero_le _⟩) (fun H locs S => ?_)
        obtain ⟨y4, ey4⟩ : ∃ z : Int32, z = v1 + 1 := ⟨_, rfl⟩
        have h := q_le_e h ey4
        refine lv_iinc (v := y4) (lv' := [(1, .int y4), (0, .ref (E.2.2.2 1))]) hx hb dX3_rateAllBridges_15 hl (k := 1) rfl (by rw [ey4]; rfl) (by decide) rfl (fun ls hl => ?_)
        refine lv_goto (tgt := 2) hx hb dX3_rateAllBridges_18 (by decide) ?_
        exact ih y4 μ2 H locs ls S (lv_sub hl [1, 0] rfl) h
  unfold f_X3_rateAllBridges at h
  obtain ⟨H, eH⟩ : ∃ z, z = s.heap := ⟨_, rfl⟩
  obtain ⟨locs, eL⟩ : ∃ z : List Loc, z = [] := ⟨_, rfl⟩
  rw [← eH, ← eL] at S
  suffices hh : W p l e ({ frames := 5, cells := 0, slots := 0, locals := 142 }) s m ([.ref (E.2.2.2 1)] : List Value).toArray below meth c H locs 0 0 (MQ below (q_Qv E r μr) ([.ref (E.2.2.2 1)] : List Value).toArray s 0 0 (q_A E)) (F0 m 0 ls []) by rw [eH, eL] at hh; exact hh
  refine lv_iconst (v := 0) hx hb dX3_rateAllBridges_0 (by decide) ?_
  refine lv_istore_n (lv' := [(1, .int 0), (0, .ref (E.2.2.2 1))]) hx hb dX3_rateAllBridges_1 rfl hl (by decide) rfl (fun ls hl => ?_)
  refine hL2 _ (fun μ H locs ls S hl h => ?_) q_fu 0 μ H locs ls S (lv_sub hl [1, 0] rfl) h
  exact q_vret hx hb hr S h hlk dX3_rateAllBridges_21
def f_X3_isKeptRatingTrue (x1 : Int32) (μ : q_M) : Option (Int32 × q_M) := q_gd (q_ix x1 6) (q_bd (f_X4_isStillRight (50 + x1.toNatClampNeg) μ) (fun r4 μ2 => q_gd (q_zb r4) (some (r4, μ2))))
set_option maxHeartbeats 4000000 in
set_option maxRecDepth 100000 in
theorem c_X3_isKeptRatingTrue (l : Launch) (E : q_E) (hE : q_I E) (x1 : Int32) (μ μr : q_M) (r : Int32) (h : f_X3_isKeptRatingTrue x1 μ = some (r, μr)) : Met l yX3_isKeptRatingTrue wsX3_isKeptRatingTrue ({ frames := 5, cells := 0, slots := 0, locals := 142 }) (q_Pc E μ [.ref (E.2.2.2 1), .int x1]) (q_Qi E r μr) 0 0 (q_A E) := by
  refine q_met (cc := cX3_isKeptRatingTrue) (maxL := 2) (ret := (some .boolean)) hE (by decide) rfl (Nat.le_of_ble_eq_true rfl) ?_
  intro p e s m below meth c hx hb hr hml hown hts hlk F S ls hl
  have hl : lv_has ls 2 [(0, .ref (E.2.2.2 1)), (1, .int x1)] := hl
  have i3 : ∀ w ∈ u_ws RX3 TX3 7, w ∈ wsX3_isKeptRatingTrue := by decide +kernel
  unfold f_X3_isKeptRatingTrue at h
  obtain ⟨H, eH⟩ : ∃ z, z = s.heap := ⟨_, rfl⟩
  obtain ⟨locs, eL⟩ : ∃ z : List Loc, z = [] := ⟨_, rfl⟩
  rw [← eH, ← eL] at S
  suffices hh : W p l e ({ frames := 5, cells := 0, slots := 0, locals := 142 }) s m ([.ref (E.2.2.2 1), .int x1] : List Value).toArray below meth c H locs 0 0 (MQ below (q_Qi E r μr) ([.ref (E.2.2.2 1), .int x1] : List Value).toArray s 0 0 (q_A E)) (F0 m 0 ls []) by rw [eH, eL] at hh; exact hh
  refine lv_aload_n hx hb dX3_isKeptRatingTrue_0 rfl (lv_at hl 0 rfl) ?_
  refine q_getr (own := RX3) (C := RX3) (T := TX3) (N := 7) (ci := 3) (j := 6)  (b := 4) hx hb hts i3 hown F S q_k1 (by decide) rfl (by decide) (by decide) rfl (by decide) (hts (.fieldLink RX3 33 "HeavyRoutes$Net" "rater" "LHeavyRoutes$Rater;") (by decide +kernel)) dX3_isKeptRatingTrue_1 ?_
  refine lv_aload_n hx hb dX3_isKeptRatingTrue_4 rfl (lv_at hl 0 rfl) ?_
  refine q_getr (own := RX3) (C := RX3) (T := TX3) (N := 7) (ci := 3) (j := 4)  (b := 7) hx hb hts i3 hown F S q_k1 (by decide) rfl (by decide) (by decide) rfl (by decide) (hts (.fieldLink RX3 19 "HeavyRoutes$Net" "bridges" "[LHeavyRoutes$Bridge;") (by decide +kernel)) dX3_isKeptRatingTrue_5 ?_
  refine lv_iload_n hx hb dX3_isKeptRatingTrue_8 rfl (lv_at hl 1 rfl) ?_
  obtain ⟨g1, h⟩ := q_gd_some h
  refine q_rald (t := 1) hx hb F S q_k7 (by decide) rfl q_n7 (q_pe15 x1.toNatClampNeg) g1 dX3_isKeptRatingTrue_9 ?_
  refine lv_aload_n hx hb dX3_isKeptRatingTrue_10 rfl (lv_at hl 0 rfl) ?_
  refine q_getr (own := RX3) (C := RX3) (T := TX3) (N := 7) (ci := 3) (j := 5)  (b := 3) hx hb hts i3 hown F S q_k1 (by decide) rfl (by decide) (by decide) rfl (by decide) (hts (.fieldLink RX3 26 "HeavyRoutes$Net" "journey" "LHeavyRoutes$Journey;") (by decide +kernel)) dX3_isKeptRatingTrue_11 ?_
  obtain ⟨r4, μ2, hc3, h⟩ := q_bd_some h
  refine q_ki F S (q_runV (As := [.ref (E.2.2.2 (50 + x1.toNatClampNeg)), .ref (E.2.2.2 3)]) (rest := []) (b := 4) ⟨hx, hb, hml, hown, hts⟩ F S (c_X4_isStillRight l E hE (50 + x1.toNatClampNeg) (q_e15 g1) μ μ2 r4 hc3) (cwV 2 hts gX3_isKeptRatingTrue_X4_isStillRight rfl rfl rfl (by decide +kernel) ⟨Nat.le_of_ble_eq_true rfl, Nat.le_of_ble_eq_true rfl⟩) q_k4 (by decide) rfl rfl hl.1 rfl (Nat.le_of_ble_eq_true rfl) dX3_isKeptRatingTrue_14 ⟨Nat.zero_le _, Nat.zero_le _⟩) (fun H locs S => ?_)
  obtain ⟨g5, h⟩ := q_gd_some h
  exact q_zret hx hb hr S g5 h hlk dX3_isKeptRatingTrue_17
def f_X3_wantsEscort (x1 : Int32) (μ : q_M) : Option (Int32 × q_M) := q_gd (q_ix x1 12) ((if ((μ.1 (14 + x1.toNatClampNeg) 3) - (μ.1 3 0)) < 50 then some (1, μ) else (if ((μ.1 (14 + x1.toNatClampNeg) 4) - (μ.1 3 1)) < 50 then some (1, μ) else q_bd (f_X3_hasBridge (μ.1 (14 + x1.toNatClampNeg) 6) μ) (fun r6 μ4 => (if r6 = 0 then some (0, μ4) else q_gd (q_ix (μ4.1 (14 + x1.toNatClampNeg) 6) 6) ((if (μ4.1 (50 + (μ4.1 (14 + x1.toNatClampNeg) 6).toNatClampNeg) 7) = 0 then some (0, μ4) else some (1, μ4))))))))
set_option maxHeartbeats 4000000 in
set_option maxRecDepth 100000 in
theorem c_X3_wantsEscort (l : Launch) (E : q_E) (hE : q_I E) (x1 : Int32) (μ μr : q_M) (r : Int32) (h : f_X3_wantsEscort x1 μ = some (r, μr)) : Met l yX3_wantsEscort wsX3_wantsEscort ({ frames := 1, cells := 0, slots := 0, locals := 21 }) (q_Pc E μ [.ref (E.2.2.2 1), .int x1]) (q_Qi E r μr) 0 0 (q_A E) := by
  refine q_met (cc := cX3_wantsEscort) (maxL := 3) (ret := (some .boolean)) hE (by decide) rfl (Nat.le_of_ble_eq_true rfl) ?_
  intro p e s m below meth c hx hb hr hml hown hts hlk F S ls hl
  have hl : lv_has ls 3 [(0, .ref (E.2.2.2 1)), (1, .int x1)] := hl
  have i0 : ∀ w ∈ u_ws RX0 TX0 8, w ∈ wsX3_wantsEscort := by decide +kernel
  have i2 : ∀ w ∈ u_ws RX2 TX2 5, w ∈ wsX3_wantsEscort := by decide +kernel
  have i3 : ∀ w ∈ u_ws RX3 TX3 7, w ∈ wsX3_wantsEscort := by decide +kernel
  have i6 : ∀ w ∈ u_ws RX6 TX6 11, w ∈ wsX3_wantsEscort := by decide +kernel
  unfold f_X3_wantsEscort at h
  obtain ⟨H, eH⟩ : ∃ z, z = s.heap := ⟨_, rfl⟩
  obtain ⟨locs, eL⟩ : ∃ z : List Loc, z = [] := ⟨_, rfl⟩
  rw [← eH, ← eL] at S
  suffices hh : W p l e ({ frames := 1, cells := 0, slots := 0, locals := 21 }) s m ([.ref (E.2.2.2 1), .int x1] : List Value).toArray below meth c H locs 0 0 (MQ below (q_Qi E r μr) ([.ref (E.2.2.2 1), .int x1] : List Value).toArray s 0 0 (q_A E)) (F0 m 0 ls []) by rw [eH, eL] at hh; exact hh
  refine lv_aload_n hx hb dX3_wantsEscort_0 rfl (lv_at hl 0 rfl) ?_
  refine q_getr (own := RX3) (C := RX3) (T := TX3) (N := 7) (ci := 3) (j := 3)  (b := 6) hx hb hts i3 hown F S q_k1 (by decide) rfl (by decide) (by decide) rfl (by decide) (hts (.fieldLink RX3 11 "HeavyRoutes$Net" "roads" "[LHeavyRoutes$Road;") (by decide +kernel)) dX3_wantsEscort_1 ?_
  refine lv_iload_n hx hb dX3_wantsEscort_4 rfl (lv_at hl 1 rfl) ?_
  obtain ⟨g1, h⟩ := q_gd_some h
  refine q_rald (t := 0) hx hb F S q_k6 (by decide) rfl q_n6 (q_pe14 x1.toNatClampNeg) g1 dX3_wantsEscort_5 ?_
  refine lv_astore_n (lv' := [(2, .ref (E.2.2.2 (14 + x1.toNatClampNeg))), (0, .ref (E.2.2.2 1)), (1, .int x1)]) hx hb dX3_wantsEscort_6 rfl hl (by decide) rfl (fun ls hl => ?_)
  refine lv_aload_n hx hb dX3_wantsEscort_7 rfl (lv_at hl 0 rfl) ?_
  refine q_getiN (own := RX3) (C := RX6) (T := TX6) (N := 11) (ci := 6) (j := 3) (host := "HeavyRoutes") hx hb hts i6 hown F S (q_e14 g1) (by decide) rfl (by decide) (by decide) rfl (by decide +kernel) dX3_wantsEscort_8 ?_
  refine lv_aload_n hx hb dX3_wantsEscort_11 rfl (lv_at hl 1 rfl) ?_
  refine q_getr (own := RX3) (C := RX3) (T := TX3) (N := 7) (ci := 3) (j := 5)  (b := 3) hx hb hts i3 hown F S q_k1 (by decide) rfl (by decide) (by decide) rfl (by decide) (hts (.fieldLink RX3 26 "HeavyRoutes$Net" "journey" "LHeavyRoutes$Journey;") (by decide +kernel)) dX3_wantsEscort_12 ?_
  refine q_getiN (own := RX3) (C := RX2) (T := TX2) (N := 5) (ci := 2) (j := 0) (host := "HeavyRoutes") hx hb hts i2 hown F S q_k3 (by decide) rfl (by decide) (by decide) rfl (by decide +kernel) dX3_wantsEscort_15 ?_
  refine lv_isub hx hb dX3_wantsEscort_18 ?_
  refine lv_bipush (v := 50) hx hb dX3_wantsEscort_19 (by decide) ?_
  refine lv_icmp_lt (tgt := 67) hx hb dX3_wantsEscort_21 (by decide) (fun c2 => ?_) (fun c2 => ?_)
  · have h := q_ip c2 h
    refine lv_iconst (v := 1) hx hb dX3_wantsEscort_67 (by decide) ?_
    refine lv_goto (tgt := 72) hx hb dX3_wantsEscort_68 (by decide) ?_
    exact q_zret hx hb hr S (by decide) h hlk dX3_wantsEscort_72
  · have h := q_ig c2 h
    refine lv_aload_n hx hb dX3_wantsEscort_24 rfl (lv_at hl 0 rfl) ?_
    refine q_getiN (own := RX3) (C := RX6) (T := TX6) (N := 11) (ci := 6) (j := 4) (host := "HeavyRoutes") hx hb hts i6 hown F S (q_e14 g1) (by decide) rfl (by decide) (by decide) rfl (by decide +kernel) dX3_wantsEscort_25 ?_
    refine lv_aload_n hx hb dX3_wantsEscort_28 rfl (lv_at hl 1 rfl) ?_
    refine q_getr (own := RX3) (C := RX3) (T := TX3) (N := 7) (ci := 3) (j := 5)  (b := 3) hx hb hts i3 hown F S q_k1 (by decide) rfl (by decide) (by decide) rfl (by decide) (hts (.fieldLink RX3 26 "HeavyRoutes$Net" "journey" "LHeavyRoutes$Journey;") (by decide +kernel)) dX3_wantsEscort_29 ?_
    refine q_getiN (own := RX3) (C := RX2) (T := TX2) (N := 5) (ci := 2) (j := 1) (host := "HeavyRoutes") hx hb hts i2 hown F S q_k3 (by decide) rfl (by decide) (by decide) rfl (by decide +kernel) dX3_wantsEscort_32 ?_
    refine lv_isub hx hb dX3_wantsEscort_35 ?_
    refine lv_bipush (v := 50) hx hb dX3_wantsEscort_36 (by decide) ?_
    refine lv_icmp_lt (tgt := 67) hx hb dX3_wantsEscort_38 (by decide) (fun c3 => ?_) (fun c3 => ?_)
    · have h := q_ip c3 h
      refine lv_iconst (v := 1) hx hb dX3_wantsEscort_67 (by decide) ?_
      refine lv_goto (tgt := 72) hx hb dX3_wantsEscort_68 (by decide) ?_
      exact q_zret hx hb hr S (by decide) h hlk dX3_wantsEscort_72
    · have h := q_ig c3 h
      refine lv_aload_n hx hb dX3_wantsEscort_41 rfl (lv_at hl 1 rfl) ?_
      refine lv_aload_n hx hb dX3_wantsEscort_42 rfl (lv_at hl 0 rfl) ?_
      refine q_getiN (own := RX3) (C := RX6) (T := TX6) (N := 11) (ci := 6) (j := 6) (host := "HeavyRoutes") hx hb hts i6 hown F S (q_e14 g1) (by decide) rfl (by decide) (by decide) rfl (by decide +kernel) dX3_wantsEscort_43 ?_
      obtain ⟨r6, μ4, hc5, h⟩ := q_bd_some h
      refine q_ki F S (q_runV (As := [.int (μ.1 (14 + x1.toNatClampNeg) 6)]) (rest := []) (b := 1) ⟨hx, hb, hml, hown, hts⟩ F S (c_X3_hasBridge l E hE (μ.1 (14 + x1.toNatClampNeg) 6) μ μ4 r6 hc5) (cwV 1 hts gX3_wantsEscort_X3_hasBridge rfl rfl rfl (by decide +kernel) ⟨Nat.le_of_ble_eq_true rfl, Nat.le_of_ble_eq_true rfl⟩) q_k1 (by decide) rfl rfl hl.1 rfl (Nat.le_of_ble_eq_true rfl) dX3_wantsEscort_46 ⟨Nat.zero_le _, Nat.zero_le _⟩) (fun H locs S => ?_)
      refine lv_if_eq (tgt := 71) hx hb dX3_wantsEscort_49 (by decide) (fun c7 => ?_) (fun c7 => ?_)
      · have h := q_ip c7 h
        refine lv_iconst (v := 0) hx hb dX3_wantsEscort_71 (by decide) ?_
        exact q_zret hx hb hr S (by decide) h hlk dX3_wantsEscort_72
      · have h := q_ig c7 h
        refine lv_aload_n hx hb dX3_wantsEscort_52 rfl (lv_at hl 1 rfl) ?_
        refine q_getr (own := RX3) (C := RX3) (T := TX3) (N := 7) (ci := 3) (j := 4)  (b := 7) hx hb hts i3 hown F S q_k1 (by decide) rfl (by decide) (by decide) rfl (by decide) (hts (.fieldLink RX3 19 "HeavyRoutes$Net" "bridges" "[LHeavyRoutes$Bridge;") (by decide +kernel)) dX3_wantsEscort_53 ?_
        refine lv_aload_n hx hb dX3_wantsEscort_56 rfl (lv_at hl 0 rfl) ?_
        refine q_getiN (own := RX3) (C := RX6) (T := TX6) (N := 11) (ci := 6) (j := 6) (host := "HeavyRoutes") hx hb hts i6 hown F S (q_e14 g1) (by decide) rfl (by decide) (by decide) rfl (by decide +kernel) dX3_wantsEscort_57 ?_
        obtain ⟨g8, h⟩ := q_gd_some h
        refine q_rald (t := 1) hx hb F S q_k7 (by decide) rfl q_n7 (q_pe15 (μ4.1 (14 + x1.toNatClampNeg) 6).toNatClampNeg) g8 dX3_wantsEscort_60 ?_
        refine q_getiN (own := RX3) (C := RX0) (T := TX0) (N := 8) (ci := 0) (j := 7) (host := "HeavyRoutes") hx hb hts i0 hown F S (q_e15 g8) (by decide) rfl (by decide) (by decide) rfl (by decide +kernel) dX3_wantsEscort_61 ?_
        refine lv_if_eq (tgt := 71) hx hb dX3_wantsEscort_64 (by decide) (fun c9 => ?_) (fun c9 => ?_)
        · have h := q_ip c9 h
          refine lv_iconst (v := 0) hx hb dX3_wantsEscort_71 (by decide) ?_
          exact q_zret hx hb hr S (by decide) h hlk dX3_wantsEscort_72
        · have h := q_ig c9 h
          refine lv_iconst (v := 1) hx hb dX3_wantsEscort_67 (by decide) ?_
          refine lv_goto (tgt := 72) hx hb dX3_wantsEscort_68 (by decide) ?_
          exact q_zret hx hb hr S (by decide) h hlk dX3_wantsEscort_72
def L_X3_endOfDrive_5 (x1 : Nat) (x2 : Int32) (Kx : Int32 → q_M → Option (Int32 × q_M)) : Nat → Int32 → Int32 → q_M → Option (Int32 × q_M)
  | 0, _, _, _ => none
  | n + 1, v3, v4, μ => (if (μ.1 x1 2) ≤ v4 then Kx v3 μ else q_gd (q_ix v4 6) (q_gd (q_ix (μ.1 (x1 + 8) v4.toNatClampNeg) 12) (q_bd (f_X6_earliestStart (14 + (μ.1 (x1 + 8) v4.toNatClampNeg).toNatClampNeg) v3 μ) (fun r6 μ4 => q_bd (f_X3_endOfRoad (μ.1 (x1 + 8) v4.toNatClampNeg) r6 μ4) (fun r9 μ7 => q_le (v4 + 1 : Int32) (fun y10 => (L_X3_endOfDrive_5 x1 x2 Kx n) r9 y10 μ7))))))
def f_X3_endOfDrive (x1 : Nat) (x2 : Int32) (μ : q_M) : Option (Int32 × q_M) := L_X3_endOfDrive_5 x1 x2 (fun v3 μ => some (v3, μ)) q_fu x2 0 μ
set_option maxHeartbeats 4000000 in
set_option maxRecDepth 100000 in
theorem c_X3_endOfDrive (l : Launch) (E : q_E) (hE : q_I E) (x1 : Nat) (x2 : Int32) (kx1 : q_kd x1 = 7) (μ μr : q_M) (r : Int32) (h : f_X3_endOfDrive x1 x2 μ = some (r, μr)) : Met l yX3_endOfDrive wsX3_endOfDrive ({ frames := 3, cells := 0, slots := 0, locals := 89 }) (q_Pc E μ [.ref (E.2.2.2 1), .ref (E.2.2.2 x1), .int x2]) (q_Qi E r μr) 0 0 (q_A E) := by
  refine q_met (cc := cX3_endOfDrive) (maxL := 5) (ret := (some .int)) hE (by decide) rfl (Nat.le_of_ble_eq_true rfl) ?_
  intro p e s m below meth c hx hb hr hml hown hts hlk F S ls hl
  have hl : lv_has ls 5 [(0, .ref (E.2.2.2 1)), (1, .ref (E.2.2.2 x1)), (2, .int x2)] := hl
  have i3 : ∀ w ∈ u_ws RX3 TX3 7, w ∈ wsX3_endOfDrive := by decide +kernel
  have i7 : ∀ w ∈ u_ws RX7 TX7 6, w ∈ wsX3_endOfDrive := by decide +kernel
  have hL5 : ∀ (Kx : Int32 → q_M → Option (Int32 × q_M)), (∀ (v3 : Int32), ∀ (μ : q_M) (H : Heap) (locs : List Loc) (ls : Array Slot), q_S E (q_A E) s μ H locs → lv_has ls 5 [(3, .int v3)] → Kx v3 μ = some (r, μr) → W p l e ({ frames := 3, cells := 0, slots := 0, locals := 89 }) s m ([.ref (E.2.2.2 1), .ref (E.2.2.2 x1), .int x2] : List Value).toArray below meth c H locs 0 0 (MQ below (q_Qi E r μr) ([.ref (E.2.2.2 1), .ref (E.2.2.2 x1), .int x2] : List Value).toArray s 0 0 (q_A E)) (F0 m 48 ls [])) → ∀ (n : Nat), ∀ (v3 : Int32), ∀ (v4 : Int32), ∀ (μ : q_M) (H : Heap) (locs : List Loc) (ls : Array Slot), q_S E (q_A E) s μ H locs → lv_has ls 5 [(0, .ref (E.2.2.2 1)), (1, .ref (E.2.2.2 x1)), (3, .int v3), (4, .int v4)] → L_X3_endOfDrive_5 x1 x2 Kx n v3 v4 μ = some (r, μr) → W p l e ({ frames := 3, cells := 0, slots := 0, locals := 89 }) s m ([.ref (E.2.2.2 1), .ref (E.2.2.2 x1), .int x2] : List Value).toArray below meth c H locs 0 0 (MQ below (q_Qi E r μr) ([.ref (E.2.2.2 1), .ref (E.2.2.2 x1), .int x2] : List Value).toArray s 0 0 (q_A E)) (F0 m 5 ls []) := by
    intro Kx hKx n
    induction n with
    | zero => intro v3 v4 μ H locs ls S hl h; exact absurd h (by simp [L_X3_endOfDrive_5])
    | succ n ih =>
      intro v3 v4 μ H locs ls S hl h
      rw [L_X3_endOfDrive_5] at h
      refine lv_iload hx hb dX3_endOfDrive_5 (lv_at hl 3 rfl) ?_
      refine lv_aload_n hx hb dX3_endOfDrive_7 rfl (lv_at hl 1 rfl) ?_
      refine q_getiN (own := RX3) (C := RX7) (T := TX7) (N := 6) (ci := 7) (j := 2) (host := "HeavyRoutes") hx hb hts i7 hown F S kx1 (by decide) rfl (by decide) (by decide) rfl (by decide +kernel) dX3_endOfDrive_8 ?_
      refine lv_icmp_ge (tgt := 48) hx hb dX3_endOfDrive_11 (by decide) (fun c1 => ?_) (fun c1 => ?_)
      · have h := q_ip c1 h
        exact hKx v3 μ H locs ls S (lv_sub hl [2] rfl) h
      · have h := q_ig c1 h
        refine lv_aload_n hx hb dX3_endOfDrive_14 rfl (lv_at hl 0 rfl) ?_
        refine lv_aload_n hx hb dX3_endOfDrive_15 rfl (lv_at hl 1 rfl) ?_
        refine q_getrN (own := RX3) (C := RX7) (T := TX7) (N := 6) (ci := 7) (j := 0) (host := "HeavyRoutes") hx hb hts i7 hown F S kx1 (by decide) rfl (by decide) (by decide) rfl (q_p_7_0 kx1) (by decide +kernel) dX3_endOfDrive_16 ?_
        refine lv_iload hx hb dX3_endOfDrive_19 (lv_at hl 3 rfl) ?_
        obtain ⟨g2, h⟩ := q_gd_some h
        refine q_iald hx hb F S (q_k_7_0 kx1) (q_n_7_0 kx1) g2 dX3_endOfDrive_21 ?_
        refine lv_aload_n hx hb dX3_endOfDrive_22 rfl (lv_at hl 0 rfl) ?_
        refine q_getr (own := RX3) (C := RX3) (T := TX3) (N := 7) (ci := 3) (j := 3)  (b := 6) hx hb hts i3 hown F S q_k1 (by decide) rfl (by decide) (by decide) rfl (by decide) (hts (.fieldLink RX3 11 "HeavyRoutes$Net" "roads" "[LHeavyRoutes$Road;") (by decide +kernel)) dX3_endOfDrive_23 ?_
        refine lv_aload_n hx hb dX3_endOfDrive_26 rfl (lv_at hl 1 rfl) ?_
        refine q_getrN (own := RX3) (C := RX7) (T := TX7) (N := 6) (ci := 7) (j := 0) (host := "HeavyRoutes") hx hb hts i7 hown F S kx1 (by decide) rfl (by decide) (by decide) rfl (q_p_7_0 kx1) (by decide +kernel) dX3_endOfDrive_27 ?_
        refine lv_iload hx hb dX3_endOfDrive_30 (lv_at hl 3 rfl) ?_
        refine q_iald hx hb F S (q_k_7_0 kx1) (q_n_7_0 kx1) g2 dX3_endOfDrive_32 ?_
        obtain ⟨g3, h⟩ := q_gd_some h
        refine q_rald (t := 0) hx hb F S q_k6 (by decide) rfl q_n6 (q_pe14 (μ.1 (x1 + 8) v4.toNatClampNeg).toNatClampNeg) g3 dX3_endOfDrive_33 ?_
        refine lv_iload_n hx hb dX3_endOfDrive_34 rfl (lv_at hl 2 rfl) ?_
        obtain ⟨r6, μ4, hc5, h⟩ := q_bd_some h
        refine q_ki F S (q_runV (As := [.int v3]) (rest := [.int (μ.1 (x1 + 8) v4.toNatClampNeg), .ref (E.2.2.2 1)]) (b := (14 + (μ.1 (x1 + 8) v4.toNatClampNeg).toNatClampNeg)) ⟨hx, hb, hml, hown, hts⟩ F S (c_X6_earliestStart l E hE (14 + (μ.1 (x1 + 8) v4.toNatClampNeg).toNatClampNeg) v3 (q_e14 g3) μ μ4 r6 hc5) (cwV 1 hts gX3_endOfDrive_X6_earliestStart rfl rfl rfl (by decide +kernel) ⟨Nat.le_of_ble_eq_true rfl, Nat.le_of_ble_eq_true rfl⟩) (q_e14 g3) (by decide) rfl rfl hl.1 rfl (Nat.le_of_ble_eq_true rfl) dX3_endOfDrive_35 ⟨Nat.zero_le _, Nat.zero_le _⟩) (fun H locs S => ?_)
        obtain ⟨r9, μ7, hc8, h⟩ := q_bd_some h
        refine q_ki F S (q_runV (As := [.int (μ.1 (x1 + 8) v4.toNatClampNeg), .int r6]) (rest := []) (b := 1) ⟨hx, hb, hml, hown, hts⟩ F S (c_X3_endOfRoad l E hE (μ.1 (x1 + 8) v4.toNatClampNeg) r6 μ4 μ7 r9 hc8) (cwV 2 hts gX3_endOfDrive_X3_endOfRoad rfl rfl rfl (by decide +kernel) ⟨Nat.le_of_ble_eq_true rfl, Nat.le_of_ble_eq_true rfl⟩) q_k1 (by decide) rfl rfl hl.1 rfl (Nat.le_of_ble_eq_true rfl) dX3_endOfDrive_38 ⟨Nat.zero_le _, Nat.zero_le _⟩) (fun H locs S => ?_)
        refine lv_istore_n (lv' := [(3, .int r9), (0, .ref (E.2.2.2 1)), (1, .ref (E.2.2.2 x1)), (4, .int v4)]) hx hb dX3_endOfDrive_41 rfl hl (by decide) rfl (fun ls hl => ?_)
        obtain ⟨y10, ey10⟩ : ∃ z : Int32, z = v4 + 1 := ⟨_, rfl⟩
        have h := q_le_e h ey10
        refine lv_iinc (v := y10) (lv' := [(4, .int y10), (3, .int r9), (0, .ref (E.2.2.2 1)), (1, .ref (E.2.2.2 x1))]) hx hb dX3_endOfDrive_42 hl (k := 3) rfl (by rw [ey10]; rfl) (by decide) rfl (fun ls hl => ?_)
        refine lv_goto (tgt := 5) hx hb dX3_endOfDrive_45 (by decide) ?_
        exact ih r9 y10 μ7 H locs ls S (lv_sub hl [2, 3, 1, 0] rfl) h
  unfold f_X3_endOfDrive at h
  obtain ⟨H, eH⟩ : ∃ z, z = s.heap := ⟨_, rfl⟩
  obtain ⟨locs, eL⟩ : ∃ z : List Loc, z = [] := ⟨_, rfl⟩
  rw [← eH, ← eL] at S
  suffices hh : W p l e ({ frames := 3, cells := 0, slots := 0, locals := 89 }) s m ([.ref (E.2.2.2 1), .ref (E.2.2.2 x1), .int x2] : List Value).toArray below meth c H locs 0 0 (MQ below (q_Qi E r μr) ([.ref (E.2.2.2 1), .ref (E.2.2.2 x1), .int x2] : List Value).toArray s 0 0 (q_A E)) (F0 m 0 ls []) by rw [eH, eL] at hh; exact hh
  refine lv_iload_n hx hb dX3_endOfDrive_0 rfl (lv_at hl 2 rfl) ?_
  refine lv_istore_n (lv' := [(3, .int x2), (0, .ref (E.2.2.2 1)), (1, .ref (E.2.2.2 x1)), (2, .int x2)]) hx hb dX3_endOfDrive_1 rfl hl (by decide) rfl (fun ls hl => ?_)
  refine lv_iconst (v := 0) hx hb dX3_endOfDrive_2 (by decide) ?_
  refine lv_istore (lv' := [(4, .int 0), (3, .int x2), (0, .ref (E.2.2.2 1)), (1, .ref (E.2.2.2 x1)), (2, .int x2)]) hx hb dX3_endOfDrive_3 hl (by decide) rfl (fun ls hl => ?_)
  refine hL5 _ (fun v3 μ H locs ls S hl h => ?_) q_fu x2 0 μ H locs ls S (lv_sub hl [2, 3, 1, 0] rfl) h
  refine lv_iload_n hx hb dX3_endOfDrive_48 rfl (lv_at hl 0 rfl) ?_
  exact q_iret hx hb hr S h hlk dX3_endOfDrive_49
