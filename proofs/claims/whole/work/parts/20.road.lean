def L_X6_waitAt_4 (x0 : Nat) (x1 : Int32) (Kx : Int32 → q_M → Option (Int32 × q_M)) : Nat → Int32 → Int32 → q_M → Option (Int32 × q_M)
  | 0, _, _, _ => none
  | n + 1, v2, v3, μ => (if (μ.1 x0 8) ≤ v3 then Kx v2 μ else q_gd (q_ix v3 3) (q_le ((q_ri (((μ.1 (x0 + 24) v3.toNatClampNeg) - (μ.1 (x0 + 12) v3.toNatClampNeg)) + 1440) 1440) : Int32) (fun y3 => q_le ((q_ri ((x1 - (μ.1 (x0 + 12) v3.toNatClampNeg)) + 1440) 1440) : Int32) (fun y4 => q_le ((if v2 < ((y3 - y4) + 1) then ((y3 - y4) + 1) else v2) : Int32) (fun y5 => q_le (v3 + 1 : Int32) (fun y6 => (L_X6_waitAt_4 x0 x1 Kx n) y5 y6 μ))))))
def f_X6_waitAt (x0 : Nat) (x1 : Int32) (μ : q_M) : Option (Int32 × q_M) := L_X6_waitAt_4 x0 x1 (fun v2 μ => some (v2, μ)) q_fu 0 0 μ
set_option maxHeartbeats 4000000 in
set_option maxRecDepth 100000 in
theorem c_X6_waitAt (l : Launch) (E : q_E) (hE : q_I E) (x0 : Nat) (x1 : Int32) (kx0 : q_kd x0 = 6) (μ μr : q_M) (r : Int32) (h : f_X6_waitAt x0 x1 μ = some (r, μr)) : Met l yX6_waitAt wsX6_waitAt ({ frames := 1, cells := 0, slots := 0, locals := 40 }) (q_Pc E μ [.ref (E.2.2.2 x0), .int x1]) (q_Qi E r μr) 0 0 (q_A E) := by
  refine q_met (cc := cX6_waitAt) (maxL := 6) (ret := (some .int)) hE (by decide) rfl (Nat.le_of_ble_eq_true rfl) ?_
  intro p e s m below meth c hx hb hr hml hown hts hlk F S ls hl
  have hl : lv_has ls 6 [(0, .ref (E.2.2.2 x0)), (1, .int x1)] := hl
  have i6 : ∀ w ∈ u_ws RX6 TX6 11, w ∈ wsX6_waitAt := by decide +kernel
  have hL4 : ∀ (Kx : Int32 → q_M → Option (Int32 × q_M)), (∀ (v2 : Int32), ∀ (μ : q_M) (H : Heap) (locs : List Loc) (ls : Array Slot), q_S E (q_A E) s μ H locs → lv_has ls 6 [(2, .int v2)] → Kx v2 μ = some (r, μr) → W p l e ({ frames := 1, cells := 0, slots := 0, locals := 40 }) s m ([.ref (E.2.2.2 x0), .int x1] : List Value).toArray below meth c H locs 0 0 (MQ below (q_Qi E r μr) ([.ref (E.2.2.2 x0), .int x1] : List Value).toArray s 0 0 (q_A E)) (F0 m 71 ls [])) → ∀ (n : Nat), ∀ (v2 : Int32), ∀ (v3 : Int32), ∀ (μ : q_M) (H : Heap) (locs : List Loc) (ls : Array Slot), q_S E (q_A E) s μ H locs → lv_has ls 6 [(0, .ref (E.2.2.2 x0)), (1, .int x1), (2, .int v2), (3, .int v3)] → L_X6_waitAt_4 x0 x1 Kx n v2 v3 μ = some (r, μr) → W p l e ({ frames := 1, cells := 0, slots := 0, locals := 40 }) s m ([.ref (E.2.2.2 x0), .int x1] : List Value).toArray below meth c H locs 0 0 (MQ below (q_Qi E r μr) ([.ref (E.2.2.2 x0), .int x1] : List Value).toArray s 0 0 (q_A E)) (F0 m 4 ls []) := by
    intro Kx hKx n
    induction n with
    | zero => intro v2 v3 μ H locs ls S hl h; exact absurd h (by simp [L_X6_waitAt_4])
    | succ n ih =>
      intro v2 v3 μ H locs ls S hl h
      rw [L_X6_waitAt_4] at h
      refine lv_iload_n hx hb dX6_waitAt_4 rfl (lv_at hl 3 rfl) ?_
      refine lv_aload_n hx hb dX6_waitAt_5 rfl (lv_at hl 0 rfl) ?_
      refine q_geti (own := RX6) (C := RX6) (T := TX6) (N := 11) (ci := 6) (j := 8)  hx hb hts i6 hown F S kx0 (by decide) rfl (by decide) (by decide) rfl (hts (.fieldLink RX6 48 "HeavyRoutes$Road" "barCount" "I") (by decide +kernel)) dX6_waitAt_6 ?_
      refine lv_icmp_ge (tgt := 71) hx hb dX6_waitAt_9 (by decide) (fun c1 => ?_) (fun c1 => ?_)
      · have h := q_ip c1 h
        exact hKx v2 μ H locs ls S (lv_sub hl [2] rfl) h
      · have h := q_ig c1 h
        refine lv_aload_n hx hb dX6_waitAt_12 rfl (lv_at hl 0 rfl) ?_
        refine q_getr (own := RX6) (C := RX6) (T := TX6) (N := 11) (ci := 6) (j := 10)  hx hb hts i6 hown F S kx0 (by decide) rfl (by decide) (by decide) rfl (q_p_6_10 kx0) (hts (.fieldLink RX6 19 "HeavyRoutes$Road" "barTo" "[I") (by decide +kernel)) dX6_waitAt_13 ?_
        refine lv_iload_n hx hb dX6_waitAt_16 rfl (lv_at hl 3 rfl) ?_
        obtain ⟨g2, h⟩ := q_gd_some h
        refine q_iald hx hb F S (q_k_6_10 kx0) (q_n_6_10 kx0) g2 dX6_waitAt_17 ?_
        refine lv_aload_n hx hb dX6_waitAt_18 rfl (lv_at hl 0 rfl) ?_
        refine q_getr (own := RX6) (C := RX6) (T := TX6) (N := 11) (ci := 6) (j := 9)  hx hb hts i6 hown F S kx0 (by decide) rfl (by decide) (by decide) rfl (q_p_6_9 kx0) (hts (.fieldLink RX6 15 "HeavyRoutes$Road" "barFrom" "[I") (by decide +kernel)) dX6_waitAt_19 ?_
        refine lv_iload_n hx hb dX6_waitAt_22 rfl (lv_at hl 3 rfl) ?_
        refine q_iald hx hb F S (q_k_6_9 kx0) (q_n_6_9 kx0) g2 dX6_waitAt_23 ?_
        refine lv_isub hx hb dX6_waitAt_24 ?_
        refine lv_sipush (v := 1440) hx hb dX6_waitAt_25 (by decide) ?_
        refine lv_iadd hx hb dX6_waitAt_28 ?_
        refine lv_sipush (v := 1440) hx hb dX6_waitAt_29 (by decide) ?_
        refine lv_irem hx hb dX6_waitAt_32 (by decide) ?_
        refine lv_topi (fun y3 ey3 => ?_)
        have h := q_le_e h ey3
        refine lv_istore (lv' := [(4, .int y3), (0, .ref (E.2.2.2 x0)), (1, .int x1), (2, .int v2), (3, .int v3)]) hx hb dX6_waitAt_33 hl (by decide) rfl (fun ls hl => ?_)
        refine lv_iload_n hx hb dX6_waitAt_35 rfl (lv_at hl 2 rfl) ?_
        refine lv_aload_n hx hb dX6_waitAt_36 rfl (lv_at hl 1 rfl) ?_
        refine q_getr (own := RX6) (C := RX6) (T := TX6) (N := 11) (ci := 6) (j := 9)  hx hb hts i6 hown F S kx0 (by decide) rfl (by decide) (by decide) rfl (q_p_6_9 kx0) (hts (.fieldLink RX6 15 "HeavyRoutes$Road" "barFrom" "[I") (by decide +kernel)) dX6_waitAt_37 ?_
        refine lv_iload_n hx hb dX6_waitAt_40 rfl (lv_at hl 4 rfl) ?_
        refine q_iald hx hb F S (q_k_6_9 kx0) (q_n_6_9 kx0) g2 dX6_waitAt_41 ?_
        refine lv_isub hx hb dX6_waitAt_42 ?_
        refine lv_sipush (v := 1440) hx hb dX6_waitAt_43 (by decide) ?_
        refine lv_iadd hx hb dX6_waitAt_46 ?_
        refine lv_sipush (v := 1440) hx hb dX6_waitAt_47 (by decide) ?_
        refine lv_irem hx hb dX6_waitAt_50 (by decide) ?_
        refine lv_topi (fun y4 ey4 => ?_)
        have h := q_le_e h ey4
        refine lv_istore (lv' := [(5, .int y4), (4, .int y3), (0, .ref (E.2.2.2 x0)), (1, .int x1), (2, .int v2), (3, .int v3)]) hx hb dX6_waitAt_51 hl (by decide) rfl (fun ls hl => ?_)
        refine lv_iload_n hx hb dX6_waitAt_53 rfl (lv_at hl 4 rfl) ?_
        refine lv_iload hx hb dX6_waitAt_54 (lv_at hl 1 rfl) ?_
        refine lv_iload hx hb dX6_waitAt_56 (lv_at hl 0 rfl) ?_
        refine lv_isub hx hb dX6_waitAt_58 ?_
        refine lv_iconst (v := 1) hx hb dX6_waitAt_59 (by decide) ?_
        refine lv_iadd hx hb dX6_waitAt_60 ?_
        refine va_mmax hx hb (hml.trans hl.1.symm) hown (hts (.methodLink RX6 54 Lib.Math.max.name) (by decide +kernel)) (hts (.static Lib.Math.max.name) (by decide +kernel)) (hts (.initialized "java/lang/Math") (by decide +kernel)) (hts (.code Lib.Math.max.name Lib.Math.max.code 2 (some .int)) (by decide +kernel)) (Nat.le_of_ble_eq_true rfl) (Nat.le_of_ble_eq_true rfl) (Nat.zero_le _) (Nat.zero_le _) dX6_waitAt_61 ?_
        refine lv_topi (fun y5 ey5 => ?_)
        have h := q_le_e h ey5
        refine lv_istore_n (lv' := [(2, .int y5), (5, .int y4), (4, .int y3), (0, .ref (E.2.2.2 x0)), (1, .int x1), (3, .int v3)]) hx hb dX6_waitAt_64 rfl hl (by decide) rfl (fun ls hl => ?_)
        obtain ⟨y6, ey6⟩ : ∃ z : Int32, z = v3 + 1 := ⟨_, rfl⟩
        have h := q_le_e h ey6
        refine lv_iinc (v := y6) (lv' := [(3, .int y6), (2, .int y5), (5, .int y4), (4, .int y3), (0, .ref (E.2.2.2 x0)), (1, .int x1)]) hx hb dX6_waitAt_65 hl (k := 5) rfl (by rw [ey6]; rfl) (by decide) rfl (fun ls hl => ?_)
        refine lv_goto (tgt := 4) hx hb dX6_waitAt_68 (by decide) ?_
        exact ih y5 y6 μ H locs ls S (lv_sub hl [4, 5, 1, 0] rfl) h
  unfold f_X6_waitAt at h
  obtain ⟨H, eH⟩ : ∃ z, z = s.heap := ⟨_, rfl⟩
  obtain ⟨locs, eL⟩ : ∃ z : List Loc, z = [] := ⟨_, rfl⟩
  rw [← eH, ← eL] at S
  suffices hh : W p l e ({ frames := 1, cells := 0, slots := 0, locals := 40 }) s m ([.ref (E.2.2.2 x0), .int x1] : List Value).toArray below meth c H locs 0 0 (MQ below (q_Qi E r μr) ([.ref (E.2.2.2 x0), .int x1] : List Value).toArray s 0 0 (q_A E)) (F0 m 0 ls []) by rw [eH, eL] at hh; exact hh
  refine lv_iconst (v := 0) hx hb dX6_waitAt_0 (by decide) ?_
  refine lv_istore_n (lv' := [(2, .int 0), (0, .ref (E.2.2.2 x0)), (1, .int x1)]) hx hb dX6_waitAt_1 rfl hl (by decide) rfl (fun ls hl => ?_)
  refine lv_iconst (v := 0) hx hb dX6_waitAt_2 (by decide) ?_
  refine lv_istore_n (lv' := [(3, .int 0), (2, .int 0), (0, .ref (E.2.2.2 x0)), (1, .int x1)]) hx hb dX6_waitAt_3 rfl hl (by decide) rfl (fun ls hl => ?_)
  refine hL4 _ (fun v2 μ H locs ls S hl h => ?_) q_fu 0 0 μ H locs ls S (lv_sub hl [2, 3, 1, 0] rfl) h
  refine lv_iload_n hx hb dX6_waitAt_71 rfl (lv_at hl 0 rfl) ?_
  exact q_iret hx hb hr S h hlk dX6_waitAt_72
def L_X6_earliestStart_4 (x0 : Nat) (x1 : Int32) (Kx : q_M → Option (Int32 × q_M)) : Nat → Int32 → Int32 → q_M → Option (Int32 × q_M)
  | 0, _, _, _ => none
  | n + 1, v2, v3, μ => (if (μ.1 x0 8) < v3 then Kx μ else q_bd (f_X6_waitAt x0 (q_ri v2 1440) μ) (fun r4 μ2 => (if r4 = 0 then some (v2, μ2) else q_le ((v2 + r4) : Int32) (fun y6 => q_le (v3 + 1 : Int32) (fun y7 => (L_X6_earliestStart_4 x0 x1 Kx n) y6 y7 μ2)))))
def f_X6_earliestStart (x0 : Nat) (x1 : Int32) (μ : q_M) : Option (Int32 × q_M) := L_X6_earliestStart_4 x0 x1 (fun μ => some ((-1), μ)) q_fu x1 0 μ
set_option maxHeartbeats 4000000 in
set_option maxRecDepth 100000 in
theorem c_X6_earliestStart (l : Launch) (E : q_E) (hE : q_I E) (x0 : Nat) (x1 : Int32) (kx0 : q_kd x0 = 6) (μ μr : q_M) (r : Int32) (h : f_X6_earliestStart x0 x1 μ = some (r, μr)) : Met l yX6_earliestStart wsX6_earliestStart ({ frames := 2, cells := 0, slots := 0, locals := 65 }) (q_Pc E μ [.ref (E.2.2.2 x0), .int x1]) (q_Qi E r μr) 0 0 (q_A E) := by
  refine q_met (cc := cX6_earliestStart) (maxL := 5) (ret := (some .int)) hE (by decide) rfl (Nat.le_of_ble_eq_true rfl) ?_
  intro p e s m below meth c hx hb hr hml hown hts hlk F S ls hl
  have hl : lv_has ls 5 [(0, .ref (E.2.2.2 x0)), (1, .int x1)] := hl
  have i6 : ∀ w ∈ u_ws RX6 TX6 11, w ∈ wsX6_earliestStart := by decide +kernel
  have hL4 : ∀ (Kx : q_M → Option (Int32 × q_M)), (∀ (μ : q_M) (H : Heap) (locs : List Loc) (ls : Array Slot), q_S E (q_A E) s μ H locs → lv_has ls 5 [] → Kx μ = some (r, μr) → W p l e ({ frames := 2, cells := 0, slots := 0, locals := 65 }) s m ([.ref (E.2.2.2 x0), .int x1] : List Value).toArray below meth c H locs 0 0 (MQ below (q_Qi E r μr) ([.ref (E.2.2.2 x0), .int x1] : List Value).toArray s 0 0 (q_A E)) (F0 m 41 ls [])) → ∀ (n : Nat), ∀ (v2 : Int32), ∀ (v3 : Int32), ∀ (μ : q_M) (H : Heap) (locs : List Loc) (ls : Array Slot), q_S E (q_A E) s μ H locs → lv_has ls 5 [(0, .ref (E.2.2.2 x0)), (2, .int v2), (3, .int v3)] → L_X6_earliestStart_4 x0 x1 Kx n v2 v3 μ = some (r, μr) → W p l e ({ frames := 2, cells := 0, slots := 0, locals := 65 }) s m ([.ref (E.2.2.2 x0), .int x1] : List Value).toArray below meth c H locs 0 0 (MQ below (q_Qi E r μr) ([.ref (E.2.2.2 x0), .int x1] : List Value).toArray s 0 0 (q_A E)) (F0 m 4 ls []) := by
    intro Kx hKx n
    induction n with
    | zero => intro v2 v3 μ H locs ls S hl h; exact absurd h (by simp [L_X6_earliestStart_4])
    | succ n ih =>
      intro v2 v3 μ H locs ls S hl h
      rw [L_X6_earliestStart_4] at h
      refine lv_iload_n hx hb dX6_earliestStart_4 rfl (lv_at hl 2 rfl) ?_
      refine lv_aload_n hx hb dX6_earliestStart_5 rfl (lv_at hl 0 rfl) ?_
      refine q_geti (own := RX6) (C := RX6) (T := TX6) (N := 11) (ci := 6) (j := 8)  hx hb hts i6 hown F S kx0 (by decide) rfl (by decide) (by decide) rfl (hts (.fieldLink RX6 48 "HeavyRoutes$Road" "barCount" "I") (by decide +kernel)) dX6_earliestStart_6 ?_
      refine lv_icmp_gt (tgt := 41) hx hb dX6_earliestStart_9 (by decide) (fun c1 => ?_) (fun c1 => ?_)
      · have h := q_ip c1 h
        exact hKx μ H locs ls S (lv_sub hl [] rfl) h
      · have h := q_ig c1 h
        refine lv_aload_n hx hb dX6_earliestStart_12 rfl (lv_at hl 0 rfl) ?_
        refine lv_iload_n hx hb dX6_earliestStart_13 rfl (lv_at hl 1 rfl) ?_
        refine lv_sipush (v := 1440) hx hb dX6_earliestStart_14 (by decide) ?_
        refine lv_irem hx hb dX6_earliestStart_17 (by decide) ?_
        obtain ⟨r4, μ2, hc3, h⟩ := q_bd_some h
        refine q_ki F S (q_runV (As := [.int (q_ri v2 1440)]) (rest := []) (b := x0) ⟨hx, hb, hml, hown, hts⟩ F S (c_X6_waitAt l E hE x0 (q_ri v2 1440) kx0 μ μ2 r4 hc3) (cwV 1 hts gX6_earliestStart_X6_waitAt rfl rfl rfl (by decide +kernel) ⟨Nat.le_of_ble_eq_true rfl, Nat.le_of_ble_eq_true rfl⟩) kx0 (by decide) rfl rfl hl.1 rfl (Nat.le_of_ble_eq_true rfl) dX6_earliestStart_18 ⟨Nat.zero_le _, Nat.zero_le _⟩) (fun H locs S => ?_)
        refine lv_istore (lv' := [(4, .int r4), (0, .ref (E.2.2.2 x0)), (2, .int v2), (3, .int v3)]) hx hb dX6_earliestStart_21 hl (by decide) rfl (fun ls hl => ?_)
        refine lv_iload hx hb dX6_earliestStart_23 (lv_at hl 0 rfl) ?_
        refine lv_if_ne (tgt := 30) hx hb dX6_earliestStart_25 (by decide) (fun c5 => ?_) (fun c5 => ?_)
        · have h := q_ig c5 h
          refine lv_iload_n hx hb dX6_earliestStart_30 rfl (lv_at hl 2 rfl) ?_
          refine lv_iload hx hb dX6_earliestStart_31 (lv_at hl 0 rfl) ?_
          refine lv_iadd hx hb dX6_earliestStart_33 ?_
          refine lv_topi (fun y6 ey6 => ?_)
          have h := q_le_e h ey6
          refine lv_istore_n (lv' := [(2, .int y6), (4, .int r4), (0, .ref (E.2.2.2 x0)), (3, .int v3)]) hx hb dX6_earliestStart_34 rfl hl (by decide) rfl (fun ls hl => ?_)
          obtain ⟨y7, ey7⟩ : ∃ z : Int32, z = v3 + 1 := ⟨_, rfl⟩
          have h := q_le_e h ey7
          refine lv_iinc (v := y7) (lv' := [(3, .int y7), (2, .int y6), (4, .int r4), (0, .ref (E.2.2.2 x0))]) hx hb dX6_earliestStart_35 hl (k := 3) rfl (by rw [ey7]; rfl) (by decide) rfl (fun ls hl => ?_)
          refine lv_goto (tgt := 4) hx hb dX6_earliestStart_38 (by decide) ?_
          exact ih y6 y7 μ2 H locs ls S (lv_sub hl [3, 1, 0] rfl) h
        · have h := q_ip c5 h
          refine lv_iload_n hx hb dX6_earliestStart_28 rfl (lv_at hl 2 rfl) ?_
          exact q_iret hx hb hr S h hlk dX6_earliestStart_29
  unfold f_X6_earliestStart at h
  obtain ⟨H, eH⟩ : ∃ z, z = s.heap := ⟨_, rfl⟩
  obtain ⟨locs, eL⟩ : ∃ z : List Loc, z = [] := ⟨_, rfl⟩
  rw [← eH, ← eL] at S
  suffices hh : W p l e ({ frames := 2, cells := 0, slots := 0, locals := 65 }) s m ([.ref (E.2.2.2 x0), .int x1] : List Value).toArray below meth c H locs 0 0 (MQ below (q_Qi E r μr) ([.ref (E.2.2.2 x0), .int x1] : List Value).toArray s 0 0 (q_A E)) (F0 m 0 ls []) by rw [eH, eL] at hh; exact hh
  refine lv_iload_n hx hb dX6_earliestStart_0 rfl (lv_at hl 1 rfl) ?_
  refine lv_istore_n (lv' := [(2, .int x1), (0, .ref (E.2.2.2 x0)), (1, .int x1)]) hx hb dX6_earliestStart_1 rfl hl (by decide) rfl (fun ls hl => ?_)
  refine lv_iconst (v := 0) hx hb dX6_earliestStart_2 (by decide) ?_
  refine lv_istore_n (lv' := [(3, .int 0), (2, .int x1), (0, .ref (E.2.2.2 x0)), (1, .int x1)]) hx hb dX6_earliestStart_3 rfl hl (by decide) rfl (fun ls hl => ?_)
  refine hL4 _ (fun μ H locs ls S hl h => ?_) q_fu x1 0 μ H locs ls S (lv_sub hl [2, 1, 0] rfl) h
  refine lv_iconst (v := (-1)) hx hb dX6_earliestStart_41 (by decide) ?_
  exact q_iret hx hb hr S h hlk dX6_earliestStart_42
def f_X6_nodeAcross (x0 : Nat) (x1 : Int32) (μ : q_M) : Option (Int32 × q_M) := (if x1 = (μ.1 x0 0) then some ((μ.1 x0 1), μ) else (if x1 = (μ.1 x0 1) then some ((μ.1 x0 0), μ) else some ((-1), μ)))
set_option maxHeartbeats 4000000 in
set_option maxRecDepth 100000 in
theorem c_X6_nodeAcross (l : Launch) (E : q_E) (hE : q_I E) (x0 : Nat) (x1 : Int32) (kx0 : q_kd x0 = 6) (μ μr : q_M) (r : Int32) (h : f_X6_nodeAcross x0 x1 μ = some (r, μr)) : Met l yX6_nodeAcross wsX6_nodeAcross ({ frames := 0, cells := 0, slots := 0, locals := 0 }) (q_Pc E μ [.ref (E.2.2.2 x0), .int x1]) (q_Qi E r μr) 0 0 (q_A E) := by
  refine q_met (cc := cX6_nodeAcross) (maxL := 2) (ret := (some .int)) hE (by decide) rfl (Nat.le_of_ble_eq_true rfl) ?_
  intro p e s m below meth c hx hb hr hml hown hts hlk F S ls hl
  have hl : lv_has ls 2 [(0, .ref (E.2.2.2 x0)), (1, .int x1)] := hl
  have i6 : ∀ w ∈ u_ws RX6 TX6 11, w ∈ wsX6_nodeAcross := by decide +kernel
  unfold f_X6_nodeAcross at h
  obtain ⟨H, eH⟩ : ∃ z, z = s.heap := ⟨_, rfl⟩
  obtain ⟨locs, eL⟩ : ∃ z : List Loc, z = [] := ⟨_, rfl⟩
  rw [← eH, ← eL] at S
  suffices hh : W p l e ({ frames := 0, cells := 0, slots := 0, locals := 0 }) s m ([.ref (E.2.2.2 x0), .int x1] : List Value).toArray below meth c H locs 0 0 (MQ below (q_Qi E r μr) ([.ref (E.2.2.2 x0), .int x1] : List Value).toArray s 0 0 (q_A E)) (F0 m 0 ls []) by rw [eH, eL] at hh; exact hh
  refine lv_iload_n hx hb dX6_nodeAcross_0 rfl (lv_at hl 1 rfl) ?_
  refine lv_aload_n hx hb dX6_nodeAcross_1 rfl (lv_at hl 0 rfl) ?_
  refine q_geti (own := RX6) (C := RX6) (T := TX6) (N := 11) (ci := 6) (j := 0)  hx hb hts i6 hown F S kx0 (by decide) rfl (by decide) (by decide) rfl (hts (.fieldLink RX6 22 "HeavyRoutes$Road" "endA" "I") (by decide +kernel)) dX6_nodeAcross_2 ?_
  refine lv_icmp_ne (tgt := 13) hx hb dX6_nodeAcross_5 (by decide) (fun c1 => ?_) (fun c1 => ?_)
  · have h := q_ig c1 h
    refine lv_iload_n hx hb dX6_nodeAcross_13 rfl (lv_at hl 1 rfl) ?_
    refine lv_aload_n hx hb dX6_nodeAcross_14 rfl (lv_at hl 0 rfl) ?_
    refine q_geti (own := RX6) (C := RX6) (T := TX6) (N := 11) (ci := 6) (j := 1)  hx hb hts i6 hown F S kx0 (by decide) rfl (by decide) (by decide) rfl (hts (.fieldLink RX6 25 "HeavyRoutes$Road" "endB" "I") (by decide +kernel)) dX6_nodeAcross_15 ?_
    refine lv_icmp_ne (tgt := 28) hx hb dX6_nodeAcross_18 (by decide) (fun c2 => ?_) (fun c2 => ?_)
    · have h := q_ig c2 h
      refine lv_iconst (v := (-1)) hx hb dX6_nodeAcross_28 (by decide) ?_
      exact q_iret hx hb hr S h hlk dX6_nodeAcross_29
    · have h := q_ip c2 h
      refine lv_aload_n hx hb dX6_nodeAcross_21 rfl (lv_at hl 0 rfl) ?_
      refine q_geti (own := RX6) (C := RX6) (T := TX6) (N := 11) (ci := 6) (j := 0)  hx hb hts i6 hown F S kx0 (by decide) rfl (by decide) (by decide) rfl (hts (.fieldLink RX6 22 "HeavyRoutes$Road" "endA" "I") (by decide +kernel)) dX6_nodeAcross_22 ?_
      refine lv_goto (tgt := 29) hx hb dX6_nodeAcross_25 (by decide) ?_
      exact q_iret hx hb hr S h hlk dX6_nodeAcross_29
  · have h := q_ip c1 h
    refine lv_aload_n hx hb dX6_nodeAcross_8 rfl (lv_at hl 0 rfl) ?_
    refine q_geti (own := RX6) (C := RX6) (T := TX6) (N := 11) (ci := 6) (j := 1)  hx hb hts i6 hown F S kx0 (by decide) rfl (by decide) (by decide) rfl (hts (.fieldLink RX6 25 "HeavyRoutes$Road" "endB" "I") (by decide +kernel)) dX6_nodeAcross_9 ?_
    exact q_iret hx hb hr S h hlk dX6_nodeAcross_12
def f_X6_isTurnBlocked (x0 : Nat) (x1 : Int32) (μ : q_M) : Option (Int32 × q_M) := (if (((μ.1 x0 7) >>> (x1 &&& 31)) &&& 1) = 1 then some (1, μ) else some (0, μ))
set_option maxHeartbeats 4000000 in
set_option maxRecDepth 100000 in
theorem c_X6_isTurnBlocked (l : Launch) (E : q_E) (hE : q_I E) (x0 : Nat) (x1 : Int32) (kx0 : q_kd x0 = 6) (μ μr : q_M) (r : Int32) (h : f_X6_isTurnBlocked x0 x1 μ = some (r, μr)) : Met l yX6_isTurnBlocked wsX6_isTurnBlocked ({ frames := 0, cells := 0, slots := 0, locals := 0 }) (q_Pc E μ [.ref (E.2.2.2 x0), .int x1]) (q_Qi E r μr) 0 0 (q_A E) := by
  refine q_met (cc := cX6_isTurnBlocked) (maxL := 2) (ret := (some .boolean)) hE (by decide) rfl (Nat.le_of_ble_eq_true rfl) ?_
  intro p e s m below meth c hx hb hr hml hown hts hlk F S ls hl
  have hl : lv_has ls 2 [(0, .ref (E.2.2.2 x0)), (1, .int x1)] := hl
  have i6 : ∀ w ∈ u_ws RX6 TX6 11, w ∈ wsX6_isTurnBlocked := by decide +kernel
  unfold f_X6_isTurnBlocked at h
  obtain ⟨H, eH⟩ : ∃ z, z = s.heap := ⟨_, rfl⟩
  obtain ⟨locs, eL⟩ : ∃ z : List Loc, z = [] := ⟨_, rfl⟩
  rw [← eH, ← eL] at S
  suffices hh : W p l e ({ frames := 0, cells := 0, slots := 0, locals := 0 }) s m ([.ref (E.2.2.2 x0), .int x1] : List Value).toArray below meth c H locs 0 0 (MQ below (q_Qi E r μr) ([.ref (E.2.2.2 x0), .int x1] : List Value).toArray s 0 0 (q_A E)) (F0 m 0 ls []) by rw [eH, eL] at hh; exact hh
  refine lv_aload_n hx hb dX6_isTurnBlocked_0 rfl (lv_at hl 0 rfl) ?_
  refine q_geti (own := RX6) (C := RX6) (T := TX6) (N := 11) (ci := 6) (j := 7)  hx hb hts i6 hown F S kx0 (by decide) rfl (by decide) (by decide) rfl (hts (.fieldLink RX6 45 "HeavyRoutes$Road" "blockedTurns" "I") (by decide +kernel)) dX6_isTurnBlocked_1 ?_
  refine lv_iload_n hx hb dX6_isTurnBlocked_4 rfl (lv_at hl 1 rfl) ?_
  refine lv_ishr hx hb dX6_isTurnBlocked_5 ?_
  refine lv_iconst (v := 1) hx hb dX6_isTurnBlocked_6 (by decide) ?_
  refine lv_iand hx hb dX6_isTurnBlocked_7 ?_
  refine lv_iconst (v := 1) hx hb dX6_isTurnBlocked_8 (by decide) ?_
  refine lv_icmp_ne (tgt := 16) hx hb dX6_isTurnBlocked_9 (by decide) (fun c1 => ?_) (fun c1 => ?_)
  · have h := q_ig c1 h
    refine lv_iconst (v := 0) hx hb dX6_isTurnBlocked_16 (by decide) ?_
    exact q_zret hx hb hr S (by decide) h hlk dX6_isTurnBlocked_17
  · have h := q_ip c1 h
    refine lv_iconst (v := 1) hx hb dX6_isTurnBlocked_12 (by decide) ?_
    refine lv_goto (tgt := 17) hx hb dX6_isTurnBlocked_13 (by decide) ?_
    exact q_zret hx hb hr S (by decide) h hlk dX6_isTurnBlocked_17
def f_X6_lay (x0 : Nat) (x1 : Int32) (x2 : Int32) (x3 : Int32) (x4 : Int32) (x5 : Int32) (μ : q_M) : Option (Unit × q_M) := q_le (q_si μ x0 0 x1) (fun μ1 => q_le (q_si μ1 x0 1 x2) (fun μ2 => q_le (q_si μ2 x0 2 x3) (fun μ3 => q_le (q_si μ3 x0 3 x4) (fun μ4 => q_le (q_si μ4 x0 4 x5) (fun μ5 => q_le (q_si μ5 x0 5 1) (fun μ6 => some ((), μ6)))))))
set_option maxHeartbeats 4000000 in
set_option maxRecDepth 100000 in
theorem c_X6_lay (l : Launch) (E : q_E) (hE : q_I E) (x0 : Nat) (x1 : Int32) (x2 : Int32) (x3 : Int32) (x4 : Int32) (x5 : Int32) (kx0 : q_kd x0 = 6) (μ μr : q_M) (r : Unit) (h : f_X6_lay x0 x1 x2 x3 x4 x5 μ = some (r, μr)) : Met l yX6_lay wsX6_lay ({ frames := 0, cells := 0, slots := 0, locals := 0 }) (q_Pc E μ [.ref (E.2.2.2 x0), .int x1, .int x2, .int x3, .int x4, .int x5]) (q_Qv E r μr) 0 0 (q_A E) := by
  refine q_met (cc := cX6_lay) (maxL := 6) (ret := none) hE (by decide) rfl (Nat.le_of_ble_eq_true rfl) ?_
  intro p e s m below meth c hx hb hr hml hown hts hlk F S ls hl
  have hl : lv_has ls 6 [(0, .ref (E.2.2.2 x0)), (1, .int x1), (2, .int x2), (3, .int x3), (4, .int x4), (5, .int x5)] := hl
  have i6 : ∀ w ∈ u_ws RX6 TX6 11, w ∈ wsX6_lay := by decide +kernel
  unfold f_X6_lay at h
  obtain ⟨H, eH⟩ : ∃ z, z = s.heap := ⟨_, rfl⟩
  obtain ⟨locs, eL⟩ : ∃ z : List Loc, z = [] := ⟨_, rfl⟩
  rw [← eH, ← eL] at S
  suffices hh : W p l e ({ frames := 0, cells := 0, slots := 0, locals := 0 }) s m ([.ref (E.2.2.2 x0), .int x1, .int x2, .int x3, .int x4, .int x5] : List Value).toArray below meth c H locs 0 0 (MQ below (q_Qv E r μr) ([.ref (E.2.2.2 x0), .int x1, .int x2, .int x3, .int x4, .int x5] : List Value).toArray s 0 0 (q_A E)) (F0 m 0 ls []) by rw [eH, eL] at hh; exact hh
  refine lv_aload_n hx hb dX6_lay_0 rfl (lv_at hl 0 rfl) ?_
  refine lv_iload_n hx hb dX6_lay_1 rfl (lv_at hl 1 rfl) ?_
  refine q_puti (own := RX6) (C := RX6) (T := TX6) (N := 11) (ci := 6) (j := 0)  hx hb hts i6 tyX6 tyX6_ok nmX6 hown F S kx0 (by decide) rfl (by decide) (by decide) rfl (hts (.fieldLink RX6 22 "HeavyRoutes$Road" "endA" "I") (by decide +kernel)) rfl (by decide +kernel) dX6_lay_2 (fun H locs μ1 eμ1 S => ?_)
  have h := q_le_e h eμ1
  refine lv_aload_n hx hb dX6_lay_5 rfl (lv_at hl 0 rfl) ?_
  refine lv_iload_n hx hb dX6_lay_6 rfl (lv_at hl 2 rfl) ?_
  refine q_puti (own := RX6) (C := RX6) (T := TX6) (N := 11) (ci := 6) (j := 1)  hx hb hts i6 tyX6 tyX6_ok nmX6 hown F S kx0 (by decide) rfl (by decide) (by decide) rfl (hts (.fieldLink RX6 25 "HeavyRoutes$Road" "endB" "I") (by decide +kernel)) rfl (by decide +kernel) dX6_lay_7 (fun H locs μ2 eμ2 S => ?_)
  have h := q_le_e h eμ2
  refine lv_aload_n hx hb dX6_lay_10 rfl (lv_at hl 0 rfl) ?_
  refine lv_iload_n hx hb dX6_lay_11 rfl (lv_at hl 3 rfl) ?_
  refine q_puti (own := RX6) (C := RX6) (T := TX6) (N := 11) (ci := 6) (j := 2)  hx hb hts i6 tyX6 tyX6_ok nmX6 hown F S kx0 (by decide) rfl (by decide) (by decide) rfl (hts (.fieldLink RX6 28 "HeavyRoutes$Road" "minutes" "I") (by decide +kernel)) rfl (by decide +kernel) dX6_lay_12 (fun H locs μ3 eμ3 S => ?_)
  have h := q_le_e h eμ3
  refine lv_aload_n hx hb dX6_lay_15 rfl (lv_at hl 0 rfl) ?_
  refine lv_iload hx hb dX6_lay_16 (lv_at hl 4 rfl) ?_
  refine q_puti (own := RX6) (C := RX6) (T := TX6) (N := 11) (ci := 6) (j := 3)  hx hb hts i6 tyX6 tyX6_ok nmX6 hown F S kx0 (by decide) rfl (by decide) (by decide) rfl (hts (.fieldLink RX6 31 "HeavyRoutes$Road" "height" "I") (by decide +kernel)) rfl (by decide +kernel) dX6_lay_18 (fun H locs μ4 eμ4 S => ?_)
  have h := q_le_e h eμ4
  refine lv_aload_n hx hb dX6_lay_21 rfl (lv_at hl 0 rfl) ?_
  refine lv_iload hx hb dX6_lay_22 (lv_at hl 5 rfl) ?_
  refine q_puti (own := RX6) (C := RX6) (T := TX6) (N := 11) (ci := 6) (j := 4)  hx hb hts i6 tyX6 tyX6_ok nmX6 hown F S kx0 (by decide) rfl (by decide) (by decide) rfl (hts (.fieldLink RX6 34 "HeavyRoutes$Road" "width" "I") (by decide +kernel)) rfl (by decide +kernel) dX6_lay_24 (fun H locs μ5 eμ5 S => ?_)
  have h := q_le_e h eμ5
  refine lv_aload_n hx hb dX6_lay_27 rfl (lv_at hl 0 rfl) ?_
  refine lv_iconst (v := 1) hx hb dX6_lay_28 (by decide) ?_
  refine q_putz (own := RX6) (C := RX6) (T := TX6) (N := 11) (ci := 6) (j := 5)  hx hb hts i6 tyX6 tyX6_ok nmX6 hown F S kx0 (by decide) rfl (by decide) (by decide) rfl (hts (.fieldLink RX6 37 "HeavyRoutes$Road" "open" "Z") (by decide +kernel)) rfl (by decide +kernel) (by decide) dX6_lay_29 (fun H locs μ6 eμ6 S => ?_)
  have h := q_le_e h eμ6
  exact q_vret hx hb hr S h hlk dX6_lay_32
def f_X6_meets (x0 : Nat) (x1 : Nat) (μ : q_M) : Option (Int32 × q_M) := q_bd (f_X6_nodeAcross x1 (μ.1 x0 0) μ) (fun r3 μ1 => (if r3 = (-1) then q_bd (f_X6_nodeAcross x1 (μ1.1 x0 1) μ1) (fun r7 μ5 => (if r7 = (-1) then some (0, μ5) else some (1, μ5))) else some (1, μ1)))
set_option maxHeartbeats 4000000 in
set_option maxRecDepth 100000 in
theorem c_X6_meets (l : Launch) (E : q_E) (hE : q_I E) (x0 : Nat) (x1 : Nat) (kx0 : q_kd x0 = 6) (kx1 : q_kd x1 = 6) (μ μr : q_M) (r : Int32) (h : f_X6_meets x0 x1 μ = some (r, μr)) : Met l yX6_meets wsX6_meets ({ frames := 1, cells := 0, slots := 0, locals := 21 }) (q_Pc E μ [.ref (E.2.2.2 x0), .ref (E.2.2.2 x1)]) (q_Qi E r μr) 0 0 (q_A E) := by
  refine q_met (cc := cX6_meets) (maxL := 2) (ret := (some .boolean)) hE (by decide) rfl (Nat.le_of_ble_eq_true rfl) ?_
  intro p e s m below meth c hx hb hr hml hown hts hlk F S ls hl
  have hl : lv_has ls 2 [(0, .ref (E.2.2.2 x0)), (1, .ref (E.2.2.2 x1))] := hl
  have i6 : ∀ w ∈ u_ws RX6 TX6 11, w ∈ wsX6_meets := by decide +kernel
  unfold f_X6_meets at h
  obtain ⟨H, eH⟩ : ∃ z, z = s.heap := ⟨_, rfl⟩
  obtain ⟨locs, eL⟩ : ∃ z : List Loc, z = [] := ⟨_, rfl⟩
  rw [← eH, ← eL] at S
  suffices hh : W p l e ({ frames := 1, cells := 0, slots := 0, locals := 21 }) s m ([.ref (E.2.2.2 x0), .ref (E.2.2.2 x1)] : List Value).toArray below meth c H locs 0 0 (MQ below (q_Qi E r μr) ([.ref (E.2.2.2 x0), .ref (E.2.2.2 x1)] : List Value).toArray s 0 0 (q_A E)) (F0 m 0 ls []) by rw [eH, eL] at hh; exact hh
  refine lv_aload_n hx hb dX6_meets_0 rfl (lv_at hl 1 rfl) ?_
  refine lv_aload_n hx hb dX6_meets_1 rfl (lv_at hl 0 rfl) ?_
  refine q_geti (own := RX6) (C := RX6) (T := TX6) (N := 11) (ci := 6) (j := 0)  hx hb hts i6 hown F S kx0 (by decide) rfl (by decide) (by decide) rfl (hts (.fieldLink RX6 22 "HeavyRoutes$Road" "endA" "I") (by decide +kernel)) dX6_meets_2 ?_
  obtain ⟨r3, μ1, hc2, h⟩ := q_bd_some h
  refine q_ki F S (q_runV (As := [.int (μ.1 x0 0)]) (rest := []) (b := x1) ⟨hx, hb, hml, hown, hts⟩ F S (c_X6_nodeAcross l E hE x1 (μ.1 x0 0) kx1 μ μ1 r3 hc2) (cwV 1 hts gX6_meets_X6_nodeAcross rfl rfl rfl (by decide +kernel) ⟨Nat.le_of_ble_eq_true rfl, Nat.le_of_ble_eq_true rfl⟩) kx1 (by decide) rfl rfl hl.1 rfl (Nat.le_of_ble_eq_true rfl) dX6_meets_5 ⟨Nat.zero_le _, Nat.zero_le _⟩) (fun H locs S => ?_)
  refine lv_iconst (v := (-1)) hx hb dX6_meets_8 (by decide) ?_
  refine lv_icmp_ne (tgt := 24) hx hb dX6_meets_9 (by decide) (fun c4 => ?_) (fun c4 => ?_)
  · have h := q_ig c4 h
    refine lv_iconst (v := 1) hx hb dX6_meets_24 (by decide) ?_
    refine lv_goto (tgt := 29) hx hb dX6_meets_25 (by decide) ?_
    exact q_zret hx hb hr S (by decide) h hlk dX6_meets_29
  · have h := q_ip c4 h
    refine lv_aload_n hx hb dX6_meets_12 rfl (lv_at hl 1 rfl) ?_
    refine lv_aload_n hx hb dX6_meets_13 rfl (lv_at hl 0 rfl) ?_
    refine q_geti (own := RX6) (C := RX6) (T := TX6) (N := 11) (ci := 6) (j := 1)  hx hb hts i6 hown F S kx0 (by decide) rfl (by decide) (by decide) rfl (hts (.fieldLink RX6 25 "HeavyRoutes$Road" "endB" "I") (by decide +kernel)) dX6_meets_14 ?_
    obtain ⟨r7, μ5, hc6, h⟩ := q_bd_some h
    refine q_ki F S (q_runV (As := [.int (μ1.1 x0 1)]) (rest := []) (b := x1) ⟨hx, hb, hml, hown, hts⟩ F S (c_X6_nodeAcross l E hE x1 (μ1.1 x0 1) kx1 μ1 μ5 r7 hc6) (cwV 1 hts gX6_meets_X6_nodeAcross rfl rfl rfl (by decide +kernel) ⟨Nat.le_of_ble_eq_true rfl, Nat.le_of_ble_eq_true rfl⟩) kx1 (by decide) rfl rfl hl.1 rfl (Nat.le_of_ble_eq_true rfl) dX6_meets_17 ⟨Nat.zero_le _, Nat.zero_le _⟩) (fun H locs S => ?_)
    refine lv_iconst (v := (-1)) hx hb dX6_meets_20 (by decide) ?_
    refine lv_icmp_eq (tgt := 28) hx hb dX6_meets_21 (by decide) (fun c8 => ?_) (fun c8 => ?_)
    · have h := q_ip c8 h
      refine lv_iconst (v := 0) hx hb dX6_meets_28 (by decide) ?_
      exact q_zret hx hb hr S (by decide) h hlk dX6_meets_29
    · have h := q_ig c8 h
      refine lv_iconst (v := 1) hx hb dX6_meets_24 (by decide) ?_
      refine lv_goto (tgt := 29) hx hb dX6_meets_25 (by decide) ?_
      exact q_zret hx hb hr S (by decide) h hlk dX6_meets_29
def f_X6_setTurn (x0 : Nat) (x1 : Int32) (x2 : Int32) (μ : q_M) : Option (Unit × q_M) := q_le ((1 <<< (x1 &&& 31)) : Int32) (fun y1 => (if x2 = 0 then q_le (q_si μ x0 7 ((μ.1 x0 7) ||| y1)) (fun μ3 => some ((), μ3)) else q_le (q_si μ x0 7 ((μ.1 x0 7) &&& (y1 ^^^ (-1)))) (fun μ4 => some ((), μ4))))
set_option maxHeartbeats 4000000 in
set_option maxRecDepth 100000 in
theorem c_X6_setTurn (l : Launch) (E : q_E) (hE : q_I E) (x0 : Nat) (x1 : Int32) (x2 : Int32) (kx0 : q_kd x0 = 6) (μ μr : q_M) (r : Unit) (h : f_X6_setTurn x0 x1 x2 μ = some (r, μr)) : Met l yX6_setTurn wsX6_setTurn ({ frames := 0, cells := 0, slots := 0, locals := 0 }) (q_Pc E μ [.ref (E.2.2.2 x0), .int x1, .int x2]) (q_Qv E r μr) 0 0 (q_A E) := by
  refine q_met (cc := cX6_setTurn) (maxL := 4) (ret := none) hE (by decide) rfl (Nat.le_of_ble_eq_true rfl) ?_
  intro p e s m below meth c hx hb hr hml hown hts hlk F S ls hl
  have hl : lv_has ls 4 [(0, .ref (E.2.2.2 x0)), (1, .int x1), (2, .int x2)] := hl
  have i6 : ∀ w ∈ u_ws RX6 TX6 11, w ∈ wsX6_setTurn := by decide +kernel
  unfold f_X6_setTurn at h
  obtain ⟨H, eH⟩ : ∃ z, z = s.heap := ⟨_, rfl⟩
  obtain ⟨locs, eL⟩ : ∃ z : List Loc, z = [] := ⟨_, rfl⟩
  rw [← eH, ← eL] at S
  suffices hh : W p l e ({ frames := 0, cells := 0, slots := 0, locals := 0 }) s m ([.ref (E.2.2.2 x0), .int x1, .int x2] : List Value).toArray below meth c H locs 0 0 (MQ below (q_Qv E r μr) ([.ref (E.2.2.2 x0), .int x1, .int x2] : List Value).toArray s 0 0 (q_A E)) (F0 m 0 ls []) by rw [eH, eL] at hh; exact hh
  refine lv_iconst (v := 1) hx hb dX6_setTurn_0 (by decide) ?_
  refine lv_iload_n hx hb dX6_setTurn_1 rfl (lv_at hl 1 rfl) ?_
  refine lv_ishl hx hb dX6_setTurn_2 ?_
  refine lv_topi (fun y1 ey1 => ?_)
  have h := q_le_e h ey1
  refine lv_istore_n (lv' := [(3, .int y1), (0, .ref (E.2.2.2 x0)), (1, .int x1), (2, .int x2)]) hx hb dX6_setTurn_3 rfl hl (by decide) rfl (fun ls hl => ?_)
  refine lv_aload_n hx hb dX6_setTurn_4 rfl (lv_at hl 1 rfl) ?_
  refine lv_iload_n hx hb dX6_setTurn_5 rfl (lv_at hl 3 rfl) ?_
  refine lv_if_eq (tgt := 20) hx hb dX6_setTurn_6 (by decide) (fun c2 => ?_) (fun c2 => ?_)
  · have h := q_ip c2 h
    refine lv_aload_n hx hb dX6_setTurn_20 rfl (lv_at hl 1 rfl) ?_
    refine q_geti (own := RX6) (C := RX6) (T := TX6) (N := 11) (ci := 6) (j := 7)  hx hb hts i6 hown F S kx0 (by decide) rfl (by decide) (by decide) rfl (hts (.fieldLink RX6 45 "HeavyRoutes$Road" "blockedTurns" "I") (by decide +kernel)) dX6_setTurn_21 ?_
    refine lv_iload_n hx hb dX6_setTurn_24 rfl (lv_at hl 0 rfl) ?_
    refine lv_ior hx hb dX6_setTurn_25 ?_
    refine q_puti (own := RX6) (C := RX6) (T := TX6) (N := 11) (ci := 6) (j := 7)  hx hb hts i6 tyX6 tyX6_ok nmX6 hown F S kx0 (by decide) rfl (by decide) (by decide) rfl (hts (.fieldLink RX6 45 "HeavyRoutes$Road" "blockedTurns" "I") (by decide +kernel)) rfl (by decide +kernel) dX6_setTurn_26 (fun H locs μ3 eμ3 S => ?_)
    have h := q_le_e h eμ3
    exact q_vret hx hb hr S h hlk dX6_setTurn_29
  · have h := q_ig c2 h
    refine lv_aload_n hx hb dX6_setTurn_9 rfl (lv_at hl 1 rfl) ?_
    refine q_geti (own := RX6) (C := RX6) (T := TX6) (N := 11) (ci := 6) (j := 7)  hx hb hts i6 hown F S kx0 (by decide) rfl (by decide) (by decide) rfl (hts (.fieldLink RX6 45 "HeavyRoutes$Road" "blockedTurns" "I") (by decide +kernel)) dX6_setTurn_10 ?_
    refine lv_iload_n hx hb dX6_setTurn_13 rfl (lv_at hl 0 rfl) ?_
    refine lv_iconst (v := (-1)) hx hb dX6_setTurn_14 (by decide) ?_
    refine lv_ixor hx hb dX6_setTurn_15 ?_
    refine lv_iand hx hb dX6_setTurn_16 ?_
    refine lv_goto (tgt := 26) hx hb dX6_setTurn_17 (by decide) ?_
    refine q_puti (own := RX6) (C := RX6) (T := TX6) (N := 11) (ci := 6) (j := 7)  hx hb hts i6 tyX6 tyX6_ok nmX6 hown F S kx0 (by decide) rfl (by decide) (by decide) rfl (hts (.fieldLink RX6 45 "HeavyRoutes$Road" "blockedTurns" "I") (by decide +kernel)) rfl (by decide +kernel) dX6_setTurn_26 (fun H locs μ4 eμ4 S => ?_)
    have h := q_le_e h eμ4
    exact q_vret hx hb hr S h hlk dX6_setTurn_29
def f_X6_addBar (x0 : Nat) (x1 : Int32) (x2 : Int32) (μ : q_M) : Option (Unit × q_M) := (if (μ.1 x0 8) < 3 then q_gd (q_ix (μ.1 x0 8) 3) (q_le (q_si μ (x0 + 12) (μ.1 x0 8).toNatClampNeg x1) (fun μ3 => q_gd (q_ix (μ3.1 x0 8) 3) (q_le (q_si μ3 (x0 + 24) (μ3.1 x0 8).toNatClampNeg x2) (fun μ5 => q_le (q_si μ5 x0 8 ((μ5.1 x0 8) + 1)) (fun μ6 => some ((), μ6)))))) else some ((), μ))
set_option maxHeartbeats 4000000 in
set_option maxRecDepth 100000 in
theorem c_X6_addBar (l : Launch) (E : q_E) (hE : q_I E) (x0 : Nat) (x1 : Int32) (x2 : Int32) (kx0 : q_kd x0 = 6) (μ μr : q_M) (r : Unit) (h : f_X6_addBar x0 x1 x2 μ = some (r, μr)) : Met l yX6_addBar wsX6_addBar ({ frames := 0, cells := 0, slots := 0, locals := 0 }) (q_Pc E μ [.ref (E.2.2.2 x0), .int x1, .int x2]) (q_Qv E r μr) 0 0 (q_A E) := by
  refine q_met (cc := cX6_addBar) (maxL := 3) (ret := none) hE (by decide) rfl (Nat.le_of_ble_eq_true rfl) ?_
  intro p e s m below meth c hx hb hr hml hown hts hlk F S ls hl
  have hl : lv_has ls 3 [(0, .ref (E.2.2.2 x0)), (1, .int x1), (2, .int x2)] := hl
  have i6 : ∀ w ∈ u_ws RX6 TX6 11, w ∈ wsX6_addBar := by decide +kernel
  unfold f_X6_addBar at h
  obtain ⟨H, eH⟩ : ∃ z, z = s.heap := ⟨_, rfl⟩
  obtain ⟨locs, eL⟩ : ∃ z : List Loc, z = [] := ⟨_, rfl⟩
  rw [← eH, ← eL] at S
  suffices hh : W p l e ({ frames := 0, cells := 0, slots := 0, locals := 0 }) s m ([.ref (E.2.2.2 x0), .int x1, .int x2] : List Value).toArray below meth c H locs 0 0 (MQ below (q_Qv E r μr) ([.ref (E.2.2.2 x0), .int x1, .int x2] : List Value).toArray s 0 0 (q_A E)) (F0 m 0 ls []) by rw [eH, eL] at hh; exact hh
  refine lv_aload_n hx hb dX6_addBar_0 rfl (lv_at hl 0 rfl) ?_
  refine q_geti (own := RX6) (C := RX6) (T := TX6) (N := 11) (ci := 6) (j := 8)  hx hb hts i6 hown F S kx0 (by decide) rfl (by decide) (by decide) rfl (hts (.fieldLink RX6 48 "HeavyRoutes$Road" "barCount" "I") (by decide +kernel)) dX6_addBar_1 ?_
  refine lv_iconst (v := 3) hx hb dX6_addBar_4 (by decide) ?_
  refine lv_icmp_lt (tgt := 9) hx hb dX6_addBar_5 (by decide) (fun c1 => ?_) (fun c1 => ?_)
  · have h := q_ip c1 h
    refine lv_aload_n hx hb dX6_addBar_9 rfl (lv_at hl 0 rfl) ?_
    refine q_getr (own := RX6) (C := RX6) (T := TX6) (N := 11) (ci := 6) (j := 9)  hx hb hts i6 hown F S kx0 (by decide) rfl (by decide) (by decide) rfl (q_p_6_9 kx0) (hts (.fieldLink RX6 15 "HeavyRoutes$Road" "barFrom" "[I") (by decide +kernel)) dX6_addBar_10 ?_
    refine lv_aload_n hx hb dX6_addBar_13 rfl (lv_at hl 0 rfl) ?_
    refine q_geti (own := RX6) (C := RX6) (T := TX6) (N := 11) (ci := 6) (j := 8)  hx hb hts i6 hown F S kx0 (by decide) rfl (by decide) (by decide) rfl (hts (.fieldLink RX6 48 "HeavyRoutes$Road" "barCount" "I") (by decide +kernel)) dX6_addBar_14 ?_
    refine lv_iload_n hx hb dX6_addBar_17 rfl (lv_at hl 1 rfl) ?_
    obtain ⟨g2, h⟩ := q_gd_some h
    refine q_iast hx hb F S (q_k_6_9 kx0) (q_n_6_9 kx0) g2 dX6_addBar_18 (fun H locs μ3 eμ3 S => ?_)
    have h := q_le_e h eμ3
    refine lv_aload_n hx hb dX6_addBar_19 rfl (lv_at hl 0 rfl) ?_
    refine q_getr (own := RX6) (C := RX6) (T := TX6) (N := 11) (ci := 6) (j := 10)  hx hb hts i6 hown F S kx0 (by decide) rfl (by decide) (by decide) rfl (q_p_6_10 kx0) (hts (.fieldLink RX6 19 "HeavyRoutes$Road" "barTo" "[I") (by decide +kernel)) dX6_addBar_20 ?_
    refine lv_aload_n hx hb dX6_addBar_23 rfl (lv_at hl 0 rfl) ?_
    refine q_geti (own := RX6) (C := RX6) (T := TX6) (N := 11) (ci := 6) (j := 8)  hx hb hts i6 hown F S kx0 (by decide) rfl (by decide) (by decide) rfl (hts (.fieldLink RX6 48 "HeavyRoutes$Road" "barCount" "I") (by decide +kernel)) dX6_addBar_24 ?_
    refine lv_iload_n hx hb dX6_addBar_27 rfl (lv_at hl 2 rfl) ?_
    obtain ⟨g4, h⟩ := q_gd_some h
    refine q_iast hx hb F S (q_k_6_10 kx0) (q_n_6_10 kx0) g4 dX6_addBar_28 (fun H locs μ5 eμ5 S => ?_)
    have h := q_le_e h eμ5
    refine lv_aload_n hx hb dX6_addBar_29 rfl (lv_at hl 0 rfl) ?_
    refine lv_dup hx hb dX6_addBar_30 rfl ?_
    refine q_geti (own := RX6) (C := RX6) (T := TX6) (N := 11) (ci := 6) (j := 8)  hx hb hts i6 hown F S kx0 (by decide) rfl (by decide) (by decide) rfl (hts (.fieldLink RX6 48 "HeavyRoutes$Road" "barCount" "I") (by decide +kernel)) dX6_addBar_31 ?_
    refine lv_iconst (v := 1) hx hb dX6_addBar_34 (by decide) ?_
    refine lv_iadd hx hb dX6_addBar_35 ?_
    refine q_puti (own := RX6) (C := RX6) (T := TX6) (N := 11) (ci := 6) (j := 8)  hx hb hts i6 tyX6 tyX6_ok nmX6 hown F S kx0 (by decide) rfl (by decide) (by decide) rfl (hts (.fieldLink RX6 48 "HeavyRoutes$Road" "barCount" "I") (by decide +kernel)) rfl (by decide +kernel) dX6_addBar_36 (fun H locs μ6 eμ6 S => ?_)
    have h := q_le_e h eμ6
    exact q_vret hx hb hr S h hlk dX6_addBar_39
  · have h := q_ig c1 h
    exact q_vret hx hb hr S h hlk dX6_addBar_8
