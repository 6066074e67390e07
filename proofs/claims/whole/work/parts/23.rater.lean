def L_X4_commonDivisor_9 (x0 : Int64) (x2 : Int64) (Kx : Int64 → q_M → Option (Int64 × q_M)) : Nat → Int64 → Int64 → Int32 → q_M → Option (Int64 × q_M)
  | 0, _, _, _, _ => none
  | n + 1, v4, v6, v8, μ => (if 200 ≤ v8 then Kx v4 μ else (if (lg_cmp v6 0) = 0 then Kx v4 μ else q_gd (decide (¬ (v6 = 0))) (q_le ((q_rl v4 v6) : Int64) (fun y4 => q_le (v8 + 1 : Int32) (fun y5 => (L_X4_commonDivisor_9 x0 x2 Kx n) v6 y4 y5 μ)))))
def f_X4_commonDivisor (x0 : Int64) (x2 : Int64) (μ : q_M) : Option (Int64 × q_M) := L_X4_commonDivisor_9 x0 x2 (fun v4 μ => some ((if v4 < (1 : Int64) then (1 : Int64) else v4), μ)) q_fu x0 x2 0 μ
set_option maxHeartbeats 4000000 in
set_option maxRecDepth 100000 in
theorem c_X4_commonDivisor (l : Launch) (E : q_E) (hE : q_I E) (x0 : Int64) (x2 : Int64) (μ μr : q_M) (r : Int64) (h : f_X4_commonDivisor x0 x2 μ = some (r, μr)) : Met l yX4_commonDivisor wsX4_commonDivisor ({ frames := 1, cells := 0, slots := 0, locals := 40 }) (q_Pc E μ [.long x0, .long x2]) (q_Ql E r μr) 0 0 (q_A E) := by
  refine q_met (cc := cX4_commonDivisor) (maxL := 11) (ret := (some .long)) hE (by decide) rfl (Nat.le_of_ble_eq_true rfl) ?_
  intro p e s m below meth c hx hb hr hml hown hts hlk F S ls hl
  have hl : lv_has ls 11 [(0, .long x0), (2, .long x2)] := hl
  have hL9 : ∀ (Kx : Int64 → q_M → Option (Int64 × q_M)), (∀ (v4 : Int64), ∀ (μ : q_M) (H : Heap) (locs : List Loc) (ls : Array Slot), q_S E (q_A E) s μ H locs → lv_has ls 11 [(4, .long v4)] → Kx v4 μ = some (r, μr) → W p l e ({ frames := 1, cells := 0, slots := 0, locals := 40 }) s m ([.long x0, .long x2] : List Value).toArray below meth c H locs 0 0 (MQ below (q_Ql E r μr) ([.long x0, .long x2] : List Value).toArray s 0 0 (q_A E)) (F0 m 45 ls [])) → ∀ (n : Nat), ∀ (v4 : Int64), ∀ (v6 : Int64), ∀ (v8 : Int32), ∀ (μ : q_M) (H : Heap) (locs : List Loc) (ls : Array Slot), q_S E (q_A E) s μ H locs → lv_has ls 11 [(4, .long v4), (6, .long v6), (8, .int v8)] → L_X4_commonDivisor_9 x0 x2 Kx n v4 v6 v8 μ = some (r, μr) → W p l e ({ frames := 1, cells := 0, slots := 0, locals := 40 }) s m ([.long x0, .long x2] : List Value).toArray below meth c H locs 0 0 (MQ below (q_Ql E r μr) ([.long x0, .long x2] : List Value).toArray s 0 0 (q_A E)) (F0 m 9 ls []) := by
    intro Kx hKx n
    induction n with
    | zero => intro v4 v6 v8 μ H locs ls S hl h; exact absurd h (by simp [L_X4_commonDivisor_9])
    | succ n ih =>
      intro v4 v6 v8 μ H locs ls S hl h
      rw [L_X4_commonDivisor_9] at h
      refine lv_iload hx hb dX4_commonDivisor_9 (lv_at hl 2 rfl) ?_
      refine lv_sipush (v := 200) hx hb dX4_commonDivisor_11 (by decide) ?_
      refine lv_icmp_ge (tgt := 45) hx hb dX4_commonDivisor_14 (by decide) (fun c1 => ?_) (fun c1 => ?_)
      · have h := q_ip c1 h
        exact hKx v4 μ H locs ls S (lv_sub hl [0] rfl) h
      · have h := q_ig c1 h
        refine lv_lload hx hb dX4_commonDivisor_17 (lv_at hl 1 rfl) ?_
        refine lv_lconst (v := 0) hx hb dX4_commonDivisor_19 (by decide) ?_
        refine W.lcmp hx hb dX4_commonDivisor_20 ?_
        refine lv_if_eq (tgt := 45) hx hb dX4_commonDivisor_21 (by decide) (fun c2 => ?_) (fun c2 => ?_)
        · have h := q_ip c2 h
          exact hKx v4 μ H locs ls S (lv_sub hl [0] rfl) h
        · have h := q_ig c2 h
          refine lv_lload hx hb dX4_commonDivisor_24 (lv_at hl 0 rfl) ?_
          refine lv_lload hx hb dX4_commonDivisor_26 (lv_at hl 1 rfl) ?_
          obtain ⟨g3, h⟩ := q_gd_some h
          refine lv_lrem hx hb dX4_commonDivisor_28 (of_decide_eq_true g3) ?_
          refine lv_topl (fun y4 ey4 => ?_)
          have h := q_le_e h ey4
          refine lv_lstore (lv' := [(9, .long y4), (4, .long v4), (6, .long v6), (8, .int v8)]) hx hb dX4_commonDivisor_29 hl (by decide) rfl (fun ls hl => ?_)
          refine lv_lload hx hb dX4_commonDivisor_31 (lv_at hl 2 rfl) ?_
          refine lv_lstore (lv' := [(4, .long v6), (9, .long y4), (6, .long v6), (8, .int v8)]) hx hb dX4_commonDivisor_33 hl (by decide) rfl (fun ls hl => ?_)
          refine lv_lload hx hb dX4_commonDivisor_35 (lv_at hl 1 rfl) ?_
          refine lv_lstore (lv' := [(6, .long y4), (4, .long v6), (9, .long y4), (8, .int v8)]) hx hb dX4_commonDivisor_37 hl (by decide) rfl (fun ls hl => ?_)
          obtain ⟨y5, ey5⟩ : ∃ z : Int32, z = v8 + 1 := ⟨_, rfl⟩
          have h := q_le_e h ey5
          refine lv_iinc (v := y5) (lv' := [(8, .int y5), (6, .long y4), (4, .long v6), (9, .long y4)]) hx hb dX4_commonDivisor_39 hl (k := 3) rfl (by rw [ey5]; rfl) (by decide) rfl (fun ls hl => ?_)
          refine lv_goto (tgt := 9) hx hb dX4_commonDivisor_42 (by decide) ?_
          exact ih v6 y4 y5 μ H locs ls S (lv_sub hl [2, 1, 0] rfl) h
  unfold f_X4_commonDivisor at h
  obtain ⟨H, eH⟩ : ∃ z, z = s.heap := ⟨_, rfl⟩
  obtain ⟨locs, eL⟩ : ∃ z : List Loc, z = [] := ⟨_, rfl⟩
  rw [← eH, ← eL] at S
  suffices hh : W p l e ({ frames := 1, cells := 0, slots := 0, locals := 40 }) s m ([.long x0, .long x2] : List Value).toArray below meth c H locs 0 0 (MQ below (q_Ql E r μr) ([.long x0, .long x2] : List Value).toArray s 0 0 (q_A E)) (F0 m 0 ls []) by rw [eH, eL] at hh; exact hh
  refine lv_lload_n hx hb dX4_commonDivisor_0 rfl (lv_at hl 0 rfl) ?_
  refine lv_lstore (lv' := [(4, .long x0), (0, .long x0), (2, .long x2)]) hx hb dX4_commonDivisor_1 hl (by decide) rfl (fun ls hl => ?_)
  refine lv_lload_n hx hb dX4_commonDivisor_3 rfl (lv_at hl 2 rfl) ?_
  refine lv_lstore (lv' := [(6, .long x2), (4, .long x0), (0, .long x0), (2, .long x2)]) hx hb dX4_commonDivisor_4 hl (by decide) rfl (fun ls hl => ?_)
  refine lv_iconst (v := 0) hx hb dX4_commonDivisor_6 (by decide) ?_
  refine lv_istore (lv' := [(8, .int 0), (6, .long x2), (4, .long x0), (0, .long x0), (2, .long x2)]) hx hb dX4_commonDivisor_7 hl (by decide) rfl (fun ls hl => ?_)
  refine hL9 _ (fun v4 μ H locs ls S hl h => ?_) q_fu x0 x2 0 μ H locs ls S (lv_sub hl [2, 1, 0] rfl) h
  refine lv_lconst (v := 1) hx hb dX4_commonDivisor_45 (by decide) ?_
  refine lv_lload hx hb dX4_commonDivisor_46 (lv_at hl 0 rfl) ?_
  refine va_mmax_long hx hb (hml.trans hl.1.symm) hown (hts (.methodLink RX4 149 Lib.MathLoose.max_long.x) (by decide +kernel)) (hts (.static Lib.MathLoose.max_long.x) (by decide +kernel)) (hts (.initialized "java/lang/Math") (by decide +kernel)) (hts (.code Lib.MathLoose.max_long.x Lib.MathLoose.max_long.code 4 (some .long)) (by decide +kernel)) (Nat.le_of_ble_eq_true rfl) (Nat.le_of_ble_eq_true rfl) (Nat.zero_le _) (Nat.zero_le _) dX4_commonDivisor_48 ?_
  exact q_lret hx hb hr S h hlk dX4_commonDivisor_51
def f_X4_quotient (x0 : Int64) (x2 : Int64) (μ : q_M) : Option (Int64 × q_M) := (if 0 ≤ (lg_cmp x2 1) then q_gd (decide (¬ (x2 = 0))) (some ((x0 / x2), μ)) else some (x0, μ))
set_option maxHeartbeats 4000000 in
set_option maxRecDepth 100000 in
theorem c_X4_quotient (l : Launch) (E : q_E) (hE : q_I E) (x0 : Int64) (x2 : Int64) (μ μr : q_M) (r : Int64) (h : f_X4_quotient x0 x2 μ = some (r, μr)) : Met l yX4_quotient wsX4_quotient ({ frames := 0, cells := 0, slots := 0, locals := 0 }) (q_Pc E μ [.long x0, .long x2]) (q_Ql E r μr) 0 0 (q_A E) := by
  refine q_met (cc := cX4_quotient) (maxL := 4) (ret := (some .long)) hE (by decide) rfl (Nat.le_of_ble_eq_true rfl) ?_
  intro p e s m below meth c hx hb hr hml hown hts hlk F S ls hl
  have hl : lv_has ls 4 [(0, .long x0), (2, .long x2)] := hl
  unfold f_X4_quotient at h
  obtain ⟨H, eH⟩ : ∃ z, z = s.heap := ⟨_, rfl⟩
  obtain ⟨locs, eL⟩ : ∃ z : List Loc, z = [] := ⟨_, rfl⟩
  rw [← eH, ← eL] at S
  suffices hh : W p l e ({ frames := 0, cells := 0, slots := 0, locals := 0 }) s m ([.long x0, .long x2] : List Value).toArray below meth c H locs 0 0 (MQ below (q_Ql E r μr) ([.long x0, .long x2] : List Value).toArray s 0 0 (q_A E)) (F0 m 0 ls []) by rw [eH, eL] at hh; exact hh
  refine lv_lload_n hx hb dX4_quotient_0 rfl (lv_at hl 1 rfl) ?_
  refine lv_lconst (v := 1) hx hb dX4_quotient_1 (by decide) ?_
  refine W.lcmp hx hb dX4_quotient_2 ?_
  refine lv_if_ge (tgt := 10) hx hb dX4_quotient_3 (by decide) (fun c1 => ?_) (fun c1 => ?_)
  · have h := q_ip c1 h
    refine lv_lload_n hx hb dX4_quotient_10 rfl (lv_at hl 0 rfl) ?_
    refine lv_lload_n hx hb dX4_quotient_11 rfl (lv_at hl 1 rfl) ?_
    obtain ⟨g2, h⟩ := q_gd_some h
    refine lv_ldiv hx hb dX4_quotient_12 (of_decide_eq_true g2) ?_
    exact q_lret hx hb hr S h hlk dX4_quotient_13
  · have h := q_ig c1 h
    refine lv_lload_n hx hb dX4_quotient_6 rfl (lv_at hl 0 rfl) ?_
    refine lv_goto (tgt := 13) hx hb dX4_quotient_7 (by decide) ?_
    exact q_lret hx hb hr S h hlk dX4_quotient_13
def L_X4_findScales_12 (x1 : Nat) (Kx : q_M → Option (Unit × q_M)) : Nat → Int32 → q_M → Option (Unit × q_M)
  | 0, _, _ => none
  | n + 1, v2, μ => (if (μ.1 x1 1) ≤ v2 then Kx μ else q_gd (q_ix v2 6) (q_bd (f_X4_commonDivisor (μ.2 (x1 + 18) v2.toNatClampNeg) (μ.2 4 6) μ) (fun r7 μ5 => q_bd (f_X4_quotient (μ.2 (x1 + 18) v2.toNatClampNeg) r7 μ5) (fun r10 μ8 => q_le (q_sl μ8 12 v2.toNatClampNeg r10) (fun μ11 => q_le (q_sl μ11 4 6 ((μ11.2 4 6) * (μ11.2 12 v2.toNatClampNeg))) (fun μ12 => q_bd (f_X0_gapBehind x1 v2 μ12) (fun r15 μ13 => q_bd (f_X4_commonDivisor r15 (μ13.2 4 7) μ13) (fun r18 μ16 => q_bd (f_X4_quotient r15 r18 μ16) (fun r21 μ19 => q_le (q_sl μ19 13 v2.toNatClampNeg r21) (fun μ22 => q_le (q_sl μ22 4 7 ((μ22.2 4 7) * (μ22.2 13 v2.toNatClampNeg))) (fun μ23 => q_le (v2 + 1 : Int32) (fun y24 => (L_X4_findScales_12 x1 Kx n) y24 μ23))))))))))))
def f_X4_findScales (x1 : Nat) (μ : q_M) : Option (Unit × q_M) := q_le (q_sl μ 4 6 1) (fun μ1 => q_le (q_sl μ1 4 7 1) (fun μ2 => L_X4_findScales_12 x1 (fun μ => some ((), μ)) q_fu 0 μ2))
set_option maxHeartbeats 4000000 in
set_option maxRecDepth 100000 in
theorem c_X4_findScales (l : Launch) (E : q_E) (hE : q_I E) (x1 : Nat) (kx1 : q_kd x1 = 0) (μ μr : q_M) (r : Unit) (h : f_X4_findScales x1 μ = some (r, μr)) : Met l yX4_findScales wsX4_findScales ({ frames := 2, cells := 0, slots := 0, locals := 70 }) (q_Pc E μ [.ref (E.2.2.2 4), .ref (E.2.2.2 x1)]) (q_Qv E r μr) 0 0 (q_A E) := by
  refine q_met (cc := cX4_findScales) (maxL := 5) (ret := none) hE (by decide) rfl (Nat.le_of_ble_eq_true rfl) ?_
  intro p e s m below meth c hx hb hr hml hown hts hlk F S ls hl
  have hl : lv_has ls 5 [(0, .ref (E.2.2.2 4)), (1, .ref (E.2.2.2 x1))] := hl
  have i0 : ∀ w ∈ u_ws RX0 TX0 8, w ∈ wsX4_findScales := by decide +kernel
  have i4 : ∀ w ∈ u_ws RX4 TX4 8, w ∈ wsX4_findScales := by decide +kernel
  have hL12 : ∀ (Kx : q_M → Option (Unit × q_M)), (∀ (μ : q_M) (H : Heap) (locs : List Loc) (ls : Array Slot), q_S E (q_A E) s μ H locs → lv_has ls 5 [] → Kx μ = some (r, μr) → W p l e ({ frames := 2, cells := 0, slots := 0, locals := 70 }) s m ([.ref (E.2.2.2 4), .ref (E.2.2.2 x1)] : List Value).toArray below meth c H locs 0 0 (MQ below (q_Qv E r μr) ([.ref (E.2.2.2 4), .ref (E.2.2.2 x1)] : List Value).toArray s 0 0 (q_A E)) (F0 m 108 ls [])) → ∀ (n : Nat), ∀ (v2 : Int32), ∀ (μ : q_M) (H : Heap) (locs : List Loc) (ls : Array Slot), q_S E (q_A E) s μ H locs → lv_has ls 5 [(0, .ref (E.2.2.2 4)), (1, .ref (E.2.2.2 x1)), (2, .int v2)] → L_X4_findScales_12 x1 Kx n v2 μ = some (r, μr) → W p l e ({ frames := 2, cells := 0, slots := 0, locals := 70 }) s m ([.ref (E.2.2.2 4), .ref (E.2.2.2 x1)] : List Value).toArray below meth c H locs 0 0 (MQ below (q_Qv E r μr) ([.ref (E.2.2.2 4), .ref (E.2.2.2 x1)] : List Value).toArray s 0 0 (q_A E)) (F0 m 12 ls []) := by
    intro Kx hKx n
    induction n with
    | zero => intro v2 μ H locs ls S hl h; exact absurd h (by simp [L_X4_findScales_12])
    | succ n ih =>
      intro v2 μ H locs ls S hl h
      rw [L_X4_findScales_12] at h
      refine lv_iload_n hx hb dX4_findScales_12 rfl (lv_at hl 2 rfl) ?_
      refine lv_aload_n hx hb dX4_findScales_13 rfl (lv_at hl 1 rfl) ?_
      refine q_getiN (own := RX4) (C := RX0) (T := TX0) (N := 8) (ci := 0) (j := 1) (host := "HeavyRoutes") hx hb hts i0 hown F S kx1 (by decide) rfl (by decide) (by decide) rfl (by decide +kernel) dX4_findScales_14 ?_
      refine lv_icmp_ge (tgt := 108) hx hb dX4_findScales_17 (by decide) (fun c3 => ?_) (fun c3 => ?_)
      · have h := q_ip c3 h
        exact hKx μ H locs ls S (lv_sub hl [] rfl) h
      · have h := q_ig c3 h
        refine lv_aload_n hx hb dX4_findScales_20 rfl (lv_at hl 0 rfl) ?_
        refine q_getr (own := RX4) (C := RX4) (T := TX4) (N := 8) (ci := 4) (j := 4)  (b := 12) hx hb hts i4 hown F S q_k4 (by decide) rfl (by decide) (by decide) rfl (by decide) (hts (.fieldLink RX4 32 "HeavyRoutes$Rater" "valueFactors" "[J") (by decide +kernel)) dX4_findScales_21 ?_
        refine lv_iload_n hx hb dX4_findScales_24 rfl (lv_at hl 2 rfl) ?_
        refine lv_aload_n hx hb dX4_findScales_25 rfl (lv_at hl 1 rfl) ?_
        refine q_getrN (own := RX4) (C := RX0) (T := TX0) (N := 8) (ci := 0) (j := 4) (host := "HeavyRoutes") hx hb hts i0 hown F S kx1 (by decide) rfl (by decide) (by decide) rfl (q_p_0_4 kx1) (by decide +kernel) dX4_findScales_26 ?_
        refine lv_iload_n hx hb dX4_findScales_29 rfl (lv_at hl 2 rfl) ?_
        obtain ⟨g4, h⟩ := q_gd_some h
        refine q_lald hx hb F S (q_k_0_4 kx1) (q_n_0_4 kx1) g4 dX4_findScales_30 ?_
        refine lv_aload_n hx hb dX4_findScales_31 rfl (lv_at hl 1 rfl) ?_
        refine q_getrN (own := RX4) (C := RX0) (T := TX0) (N := 8) (ci := 0) (j := 4) (host := "HeavyRoutes") hx hb hts i0 hown F S kx1 (by decide) rfl (by decide) (by decide) rfl (q_p_0_4 kx1) (by decide +kernel) dX4_findScales_32 ?_
        refine lv_iload_n hx hb dX4_findScales_35 rfl (lv_at hl 2 rfl) ?_
        refine q_lald hx hb F S (q_k_0_4 kx1) (q_n_0_4 kx1) g4 dX4_findScales_36 ?_
        refine lv_aload_n hx hb dX4_findScales_37 rfl (lv_at hl 0 rfl) ?_
        refine q_getl (own := RX4) (C := RX4) (T := TX4) (N := 8) (ci := 4) (j := 6)  hx hb hts i4 hown F S q_k4 (by decide) rfl (by decide) (by decide) rfl (hts (.fieldLink RX4 77 "HeavyRoutes$Rater" "valueScale" "J") (by decide +kernel)) dX4_findScales_38 ?_
        obtain ⟨r7, μ5, hc6, h⟩ := q_bd_some h
        refine q_kl F S (q_runS (As := [.long (μ.2 (x1 + 18) v2.toNatClampNeg), .long (μ.2 4 6)]) (rest := [.long (μ.2 (x1 + 18) v2.toNatClampNeg), .int v2, .ref (E.2.2.2 12)]) ⟨hx, hb, hml, hown, hts⟩ F S (c_X4_commonDivisor l E hE (μ.2 (x1 + 18) v2.toNatClampNeg) (μ.2 4 6) μ μ5 r7 hc6) (va_cwS 2 hts gX4_findScales_X4_commonDivisor rfl rfl rfl (by decide +kernel) ⟨Nat.le_of_ble_eq_true rfl, Nat.le_of_ble_eq_true rfl⟩) rfl hl.1 rfl (Nat.le_of_ble_eq_true rfl) dX4_findScales_41 ⟨Nat.zero_le _, Nat.zero_le _⟩) (fun H locs S => ?_)
        obtain ⟨r10, μ8, hc9, h⟩ := q_bd_some h
        refine q_kl F S (q_runS (As := [.long (μ.2 (x1 + 18) v2.toNatClampNeg), .long r7]) (rest := [.int v2, .ref (E.2.2.2 12)]) ⟨hx, hb, hml, hown, hts⟩ F S (c_X4_quotient l E hE (μ.2 (x1 + 18) v2.toNatClampNeg) r7 μ5 μ8 r10 hc9) (va_cwS 2 hts gX4_findScales_X4_quotient rfl rfl rfl (by decide +kernel) ⟨Nat.le_of_ble_eq_true rfl, Nat.le_of_ble_eq_true rfl⟩) rfl hl.1 rfl (Nat.le_of_ble_eq_true rfl) dX4_findScales_44 ⟨Nat.zero_le _, Nat.zero_le _⟩) (fun H locs S => ?_)
        refine q_last hx hb F S q_k12 q_n12 g4 dX4_findScales_47 (fun H locs μ11 eμ11 S => ?_)
        have h := q_le_e h eμ11
        refine lv_aload_n hx hb dX4_findScales_48 rfl (lv_at hl 0 rfl) ?_
        refine lv_dup hx hb dX4_findScales_49 rfl ?_
        refine q_getl (own := RX4) (C := RX4) (T := TX4) (N := 8) (ci := 4) (j := 6)  hx hb hts i4 hown F S q_k4 (by decide) rfl (by decide) (by decide) rfl (hts (.fieldLink RX4 77 "HeavyRoutes$Rater" "valueScale" "J") (by decide +kernel)) dX4_findScales_50 ?_
        refine lv_aload_n hx hb dX4_findScales_53 rfl (lv_at hl 0 rfl) ?_
        refine q_getr (own := RX4) (C := RX4) (T := TX4) (N := 8) (ci := 4) (j := 4)  (b := 12) hx hb hts i4 hown F S q_k4 (by decide) rfl (by decide) (by decide) rfl (by decide) (hts (.fieldLink RX4 32 "HeavyRoutes$Rater" "valueFactors" "[J") (by decide +kernel)) dX4_findScales_54 ?_
        refine lv_iload_n hx hb dX4_findScales_57 rfl (lv_at hl 2 rfl) ?_
        refine q_lald hx hb F S q_k12 q_n12 g4 dX4_findScales_58 ?_
        refine lv_lmul hx hb dX4_findScales_59 ?_
        refine q_putl (own := RX4) (C := RX4) (T := TX4) (N := 8) (ci := 4) (j := 6)  hx hb hts i4 tyX4 tyX4_ok nmX4 hown F S q_k4 (by decide) rfl (by decide) (by decide) rfl (hts (.fieldLink RX4 77 "HeavyRoutes$Rater" "valueScale" "J") (by decide +kernel)) rfl (by decide +kernel) dX4_findScales_60 (fun H locs μ12 eμ12 S => ?_)
        have h := q_le_e h eμ12
        refine lv_aload_n hx hb dX4_findScales_63 rfl (lv_at hl 1 rfl) ?_
        refine lv_iload_n hx hb dX4_findScales_64 rfl (lv_at hl 2 rfl) ?_
        obtain ⟨r15, μ13, hc14, h⟩ := q_bd_some h
        refine q_kl F S (q_runV (As := [.int v2]) (rest := []) (b := x1) ⟨hx, hb, hml, hown, hts⟩ F S (c_X0_gapBehind l E hE x1 v2 kx1 μ12 μ13 r15 hc14) (cwV 1 hts gX4_findScales_X0_gapBehind rfl rfl rfl (by decide +kernel) ⟨Nat.le_of_ble_eq_true rfl, Nat.le_of_ble_eq_true rfl⟩) kx1 (by decide) rfl rfl hl.1 rfl (Nat.le_of_ble_eq_true rfl) dX4_findScales_65 ⟨Nat.zero_le _, Nat.zero_le _⟩) (fun H locs S => ?_)
        refine lv_lstore_n (lv' := [(3, .long r15), (0, .ref (E.2.2.2 4)), (1, .ref (E.2.2.2 x1)), (2, .int v2)]) hx hb dX4_findScales_68 rfl hl (by decide) rfl (fun ls hl => ?_)
        refine lv_aload_n hx hb dX4_findScales_69 rfl (lv_at hl 1 rfl) ?_
        refine q_getr (own := RX4) (C := RX4) (T := TX4) (N := 8) (ci := 4) (j := 5)  (b := 13) hx hb hts i4 hown F S q_k4 (by decide) rfl (by decide) (by decide) rfl (by decide) (hts (.fieldLink RX4 35 "HeavyRoutes$Rater" "gapFactors" "[J") (by decide +kernel)) dX4_findScales_70 ?_
        refine lv_iload_n hx hb dX4_findScales_73 rfl (lv_at hl 3 rfl) ?_
        refine lv_lload_n hx hb dX4_findScales_74 rfl (lv_at hl 0 rfl) ?_
        refine lv_lload_n hx hb dX4_findScales_75 rfl (lv_at hl 0 rfl) ?_
        refine lv_aload_n hx hb dX4_findScales_76 rfl (lv_at hl 1 rfl) ?_
        refine q_getl (own := RX4) (C := RX4) (T := TX4) (N := 8) (ci := 4) (j := 7)  hx hb hts i4 hown F S q_k4 (by decide) rfl (by decide) (by decide) rfl (hts (.fieldLink RX4 81 "HeavyRoutes$Rater" "gapScale" "J") (by decide +kernel)) dX4_findScales_77 ?_
        obtain ⟨r18, μ16, hc17, h⟩ := q_bd_some h
        refine q_kl F S (q_runS (As := [.long r15, .long (μ13.2 4 7)]) (rest := [.long r15, .int v2, .ref (E.2.2.2 13)]) ⟨hx, hb, hml, hown, hts⟩ F S (c_X4_commonDivisor l E hE r15 (μ13.2 4 7) μ13 μ16 r18 hc17) (va_cwS 2 hts gX4_findScales_X4_commonDivisor rfl rfl rfl (by decide +kernel) ⟨Nat.le_of_ble_eq_true rfl, Nat.le_of_ble_eq_true rfl⟩) rfl hl.1 rfl (Nat.le_of_ble_eq_true rfl) dX4_findScales_80 ⟨Nat.zero_le _, Nat.zero_le _⟩) (fun H locs S => ?_)
        obtain ⟨r21, μ19, hc20, h⟩ := q_bd_some h
        refine q_kl F S (q_runS (As := [.long r15, .long r18]) (rest := [.int v2, .ref (E.2.2.2 13)]) ⟨hx, hb, hml, hown, hts⟩ F S (c_X4_quotient l E hE r15 r18 μ16 μ19 r21 hc20) (va_cwS 2 hts gX4_findScales_X4_quotient rfl rfl rfl (by decide +kernel) ⟨Nat.le_of_ble_eq_true rfl, Nat.le_of_ble_eq_true rfl⟩) rfl hl.1 rfl (Nat.le_of_ble_eq_true rfl) dX4_findScales_83 ⟨Nat.zero_le _, Nat.zero_le _⟩) (fun H locs S => ?_)
        refine q_last hx hb F S q_k13 q_n13 g4 dX4_findScales_86 (fun H locs μ22 eμ22 S => ?_)
        have h := q_le_e h eμ22
        refine lv_aload_n hx hb dX4_findScales_87 rfl (lv_at hl 1 rfl) ?_
        refine lv_dup hx hb dX4_findScales_88 rfl ?_
        refine q_getl (own := RX4) (C := RX4) (T := TX4) (N := 8) (ci := 4) (j := 7)  hx hb hts i4 hown F S q_k4 (by decide) rfl (by decide) (by decide) rfl (hts (.fieldLink RX4 81 "HeavyRoutes$Rater" "gapScale" "J") (by decide +kernel)) dX4_findScales_89 ?_
        refine lv_aload_n hx hb dX4_findScales_92 rfl (lv_at hl 1 rfl) ?_
        refine q_getr (own := RX4) (C := RX4) (T := TX4) (N := 8) (ci := 4) (j := 5)  (b := 13) hx hb hts i4 hown F S q_k4 (by decide) rfl (by decide) (by decide) rfl (by decide) (hts (.fieldLink RX4 35 "HeavyRoutes$Rater" "gapFactors" "[J") (by decide +kernel)) dX4_findScales_93 ?_
        refine lv_iload_n hx hb dX4_findScales_96 rfl (lv_at hl 3 rfl) ?_
        refine q_lald hx hb F S q_k13 q_n13 g4 dX4_findScales_97 ?_
        refine lv_lmul hx hb dX4_findScales_98 ?_
        refine q_putl (own := RX4) (C := RX4) (T := TX4) (N := 8) (ci := 4) (j := 7)  hx hb hts i4 tyX4 tyX4_ok nmX4 hown F S q_k4 (by decide) rfl (by decide) (by decide) rfl (hts (.fieldLink RX4 81 "HeavyRoutes$Rater" "gapScale" "J") (by decide +kernel)) rfl (by decide +kernel) dX4_findScales_99 (fun H locs μ23 eμ23 S => ?_)
        have h := q_le_e h eμ23
        obtain ⟨y24, ey24⟩ : ∃ z : Int32, z = v2 + 1 := ⟨_, rfl⟩
        have h := q_le_e h ey24
        refine lv_iinc (v := y24) (lv' := [(2, .int y24), (3, .long r15), (0, .ref (E.2.2.2 4)), (1, .ref (E.2.2.2 x1))]) hx hb dX4_findScales_102 hl (k := 3) rfl (by rw [ey24]; rfl) (by decide) rfl (fun ls hl => ?_)
        refine lv_goto (tgt := 12) hx hb dX4_findScales_105 (by decide) ?_
        exact ih y24 μ23 H locs ls S (lv_sub hl [2, 3, 0] rfl) h
  unfold f_X4_findScales at h
  obtain ⟨H, eH⟩ : ∃ z, z = s.heap := ⟨_, rfl⟩
  obtain ⟨locs, eL⟩ : ∃ z : List Loc, z = [] := ⟨_, rfl⟩
  rw [← eH, ← eL] at S
  suffices hh : W p l e ({ frames := 2, cells := 0, slots := 0, locals := 70 }) s m ([.ref (E.2.2.2 4), .ref (E.2.2.2 x1)] : List Value).toArray below meth c H locs 0 0 (MQ below (q_Qv E r μr) ([.ref (E.2.2.2 4), .ref (E.2.2.2 x1)] : List Value).toArray s 0 0 (q_A E)) (F0 m 0 ls []) by rw [eH, eL] at hh; exact hh
  refine lv_aload_n hx hb dX4_findScales_0 rfl (lv_at hl 0 rfl) ?_
  refine lv_lconst (v := 1) hx hb dX4_findScales_1 (by decide) ?_
  refine q_putl (own := RX4) (C := RX4) (T := TX4) (N := 8) (ci := 4) (j := 6)  hx hb hts i4 tyX4 tyX4_ok nmX4 hown F S q_k4 (by decide) rfl (by decide) (by decide) rfl (hts (.fieldLink RX4 77 "HeavyRoutes$Rater" "valueScale" "J") (by decide +kernel)) rfl (by decide +kernel) dX4_findScales_2 (fun H locs μ1 eμ1 S => ?_)
  have h := q_le_e h eμ1
  refine lv_aload_n hx hb dX4_findScales_5 rfl (lv_at hl 0 rfl) ?_
  refine lv_lconst (v := 1) hx hb dX4_findScales_6 (by decide) ?_
  refine q_putl (own := RX4) (C := RX4) (T := TX4) (N := 8) (ci := 4) (j := 7)  hx hb hts i4 tyX4 tyX4_ok nmX4 hown F S q_k4 (by decide) rfl (by decide) (by decide) rfl (hts (.fieldLink RX4 81 "HeavyRoutes$Rater" "gapScale" "J") (by decide +kernel)) rfl (by decide +kernel) dX4_findScales_7 (fun H locs μ2 eμ2 S => ?_)
  have h := q_le_e h eμ2
  refine lv_iconst (v := 0) hx hb dX4_findScales_10 (by decide) ?_
  refine lv_istore_n (lv' := [(2, .int 0), (0, .ref (E.2.2.2 4)), (1, .ref (E.2.2.2 x1))]) hx hb dX4_findScales_11 rfl hl (by decide) rfl (fun ls hl => ?_)
  refine hL12 _ (fun μ H locs ls S hl h => ?_) q_fu 0 μ2 H locs ls S (lv_sub hl [1, 2, 0] rfl) h
  exact q_vret hx hb hr S h hlk dX4_findScales_108
def L_X4_shareOut_3 (x1 : Nat) (x2 : Int64) (x4 : Int64) (Kx : q_M → Option (Unit × q_M)) : Nat → Int32 → q_M → Option (Unit × q_M)
  | 0, _, _ => none
  | n + 1, v6, μ => (if (μ.1 x1 1) ≤ v6 then Kx μ else q_gd (q_ix v6 6) (q_le ((x2 - (μ.2 (x1 + 6) v6.toNatClampNeg)) : Int64) (fun y3 => (if (lg_cmp y3 0) = 0 then q_le (q_sl μ 11 v6.toNatClampNeg ((μ.2 11 v6.toNatClampNeg) + (x4 * (μ.2 4 7)))) (fun μ22 => q_le (v6 + 1 : Int32) (fun y23 => (L_X4_shareOut_3 x1 x2 x4 Kx n) y23 μ22)) else (if (μ.1 x1 1) ≤ (v6 + 1) then q_le (v6 + 1 : Int32) (fun y6 => (L_X4_shareOut_3 x1 x2 x4 Kx n) y6 μ) else (if (lg_cmp y3 0) ≤ 0 then q_le (v6 + 1 : Int32) (fun y8 => (L_X4_shareOut_3 x1 x2 x4 Kx n) y8 μ) else q_gd (q_ix (v6 + 1) 6) ((if 0 ≤ (lg_cmp x2 (μ.2 (x1 + 6) (v6 + 1).toNatClampNeg)) then q_le (v6 + 1 : Int32) (fun y11 => (L_X4_shareOut_3 x1 x2 x4 Kx n) y11 μ) else q_bd (f_X0_gapBehind x1 v6 μ) (fun r14 μ12 => q_bd (f_X4_quotient (μ12.2 4 7) r14 μ12) (fun r17 μ15 => q_le ((x4 * r17) : Int64) (fun y18 => q_le (q_sl μ15 11 v6.toNatClampNeg ((μ15.2 11 v6.toNatClampNeg) + (y18 * (r14 - y3)))) (fun μ19 => q_le (q_sl μ19 11 (v6 + 1).toNatClampNeg ((μ19.2 11 (v6 + 1).toNatClampNeg) + (y18 * y3))) (fun μ20 => q_le (v6 + 1 : Int32) (fun y21 => (L_X4_shareOut_3 x1 x2 x4 Kx n) y21 μ20))))))))))))))
def f_X4_shareOut (x1 : Nat) (x2 : Int64) (x4 : Int64) (μ : q_M) : Option (Unit × q_M) := L_X4_shareOut_3 x1 x2 x4 (fun μ => some ((), μ)) q_fu 0 μ
set_option maxHeartbeats 4000000 in
set_option maxRecDepth 100000 in
theorem c_X4_shareOut (l : Launch) (E : q_E) (hE : q_I E) (x1 : Nat) (x2 : Int64) (x4 : Int64) (kx1 : q_kd x1 = 0) (μ μr : q_M) (r : Unit) (h : f_X4_shareOut x1 x2 x4 μ = some (r, μr)) : Met l yX4_shareOut wsX4_shareOut ({ frames := 1, cells := 0, slots := 0, locals := 23 }) (q_Pc E μ [.ref (E.2.2.2 4), .ref (E.2.2.2 x1), .long x2, .long x4]) (q_Qv E r μr) 0 0 (q_A E) := by
  refine q_met (cc := cX4_shareOut) (maxL := 13) (ret := none) hE (by decide) rfl (Nat.le_of_ble_eq_true rfl) ?_
  intro p e s m below meth c hx hb hr hml hown hts hlk F S ls hl
  have hl : lv_has ls 13 [(0, .ref (E.2.2.2 4)), (1, .ref (E.2.2.2 x1)), (2, .long x2), (4, .long x4)] := hl
  have i0 : ∀ w ∈ u_ws RX0 TX0 8, w ∈ wsX4_shareOut := by decide +kernel
  have i4 : ∀ w ∈ u_ws RX4 TX4 8, w ∈ wsX4_shareOut := by decide +kernel
  have hL3 : ∀ (Kx : q_M → Option (Unit × q_M)), (∀ (μ : q_M) (H : Heap) (locs : List Loc) (ls : Array Slot), q_S E (q_A E) s μ H locs → lv_has ls 13 [] → Kx μ = some (r, μr) → W p l e ({ frames := 1, cells := 0, slots := 0, locals := 23 }) s m ([.ref (E.2.2.2 4), .ref (E.2.2.2 x1), .long x2, .long x4] : List Value).toArray below meth c H locs 0 0 (MQ below (q_Qv E r μr) ([.ref (E.2.2.2 4), .ref (E.2.2.2 x1), .long x2, .long x4] : List Value).toArray s 0 0 (q_A E)) (F0 m 145 ls [])) → ∀ (n : Nat), ∀ (v6 : Int32), ∀ (μ : q_M) (H : Heap) (locs : List Loc) (ls : Array Slot), q_S E (q_A E) s μ H locs → lv_has ls 13 [(0, .ref (E.2.2.2 4)), (1, .ref (E.2.2.2 x1)), (2, .long x2), (4, .long x4), (6, .int v6)] → L_X4_shareOut_3 x1 x2 x4 Kx n v6 μ = some (r, μr) → W p l e ({ frames := 1, cells := 0, slots := 0, locals := 23 }) s m ([.ref (E.2.2.2 4), .ref (E.2.2.2 x1), .long x2, .long x4] : List Value).toArray below meth c H locs 0 0 (MQ below (q_Qv E r μr) ([.ref (E.2.2.2 4), .ref (E.2.2.2 x1), .long x2, .long x4] : List Value).toArray s 0 0 (q_A E)) (F0 m 3 ls []) := by
    intro Kx hKx n
    induction n with
    | zero => intro v6 μ H locs ls S hl h; exact absurd h (by simp [L_X4_shareOut_3])
    | succ n ih =>
      intro v6 μ H locs ls S hl h
      rw [L_X4_shareOut_3] at h
      refine lv_iload hx hb dX4_shareOut_3 (lv_at hl 4 rfl) ?_
      refine lv_aload_n hx hb dX4_shareOut_5 rfl (lv_at hl 1 rfl) ?_
      refine q_getiN (own := RX4) (C := RX0) (T := TX0) (N := 8) (ci := 0) (j := 1) (host := "HeavyRoutes") hx hb hts i0 hown F S kx1 (by decide) rfl (by decide) (by decide) rfl (by decide +kernel) dX4_shareOut_6 ?_
      refine lv_icmp_ge (tgt := 145) hx hb dX4_shareOut_9 (by decide) (fun c1 => ?_) (fun c1 => ?_)
      · have h := q_ip c1 h
        exact hKx μ H locs ls S (lv_sub hl [] rfl) h
      · have h := q_ig c1 h
        refine lv_lload_n hx hb dX4_shareOut_12 rfl (lv_at hl 2 rfl) ?_
        refine lv_aload_n hx hb dX4_shareOut_13 rfl (lv_at hl 1 rfl) ?_
        refine q_getrN (own := RX4) (C := RX0) (T := TX0) (N := 8) (ci := 0) (j := 2) (host := "HeavyRoutes") hx hb hts i0 hown F S kx1 (by decide) rfl (by decide) (by decide) rfl (q_p_0_2 kx1) (by decide +kernel) dX4_shareOut_14 ?_
        refine lv_iload hx hb dX4_shareOut_17 (lv_at hl 4 rfl) ?_
        obtain ⟨g2, h⟩ := q_gd_some h
        refine q_lald hx hb F S (q_k_0_2 kx1) (q_n_0_2 kx1) g2 dX4_shareOut_19 ?_
        refine lv_lsub hx hb dX4_shareOut_20 ?_
        refine lv_topl (fun y3 ey3 => ?_)
        have h := q_le_e h ey3
        refine lv_lstore (lv' := [(7, .long y3), (0, .ref (E.2.2.2 4)), (1, .ref (E.2.2.2 x1)), (2, .long x2), (4, .long x4), (6, .int v6)]) hx hb dX4_shareOut_21 hl (by decide) rfl (fun ls hl => ?_)
        refine lv_lload hx hb dX4_shareOut_23 (lv_at hl 0 rfl) ?_
        refine lv_lconst (v := 0) hx hb dX4_shareOut_25 (by decide) ?_
        refine W.lcmp hx hb dX4_shareOut_26 ?_
        refine lv_if_ne (tgt := 50) hx hb dX4_shareOut_27 (by decide) (fun c4 => ?_) (fun c4 => ?_)
        · have h := q_ig c4 h
          refine lv_iload hx hb dX4_shareOut_50 (lv_at hl 5 rfl) ?_
          refine lv_iconst (v := 1) hx hb dX4_shareOut_52 (by decide) ?_
          refine lv_iadd hx hb dX4_shareOut_53 ?_
          refine lv_aload_n hx hb dX4_shareOut_54 rfl (lv_at hl 2 rfl) ?_
          refine q_getiN (own := RX4) (C := RX0) (T := TX0) (N := 8) (ci := 0) (j := 1) (host := "HeavyRoutes") hx hb hts i0 hown F S kx1 (by decide) rfl (by decide) (by decide) rfl (by decide +kernel) dX4_shareOut_55 ?_
          refine lv_icmp_ge (tgt := 139) hx hb dX4_shareOut_58 (by decide) (fun c5 => ?_) (fun c5 => ?_)
          · have h := q_ip c5 h
            obtain ⟨y6, ey6⟩ : ∃ z : Int32, z = v6 + 1 := ⟨_, rfl⟩
            have h := q_le_e h ey6
            refine lv_iinc (v := y6) (lv' := [(6, .int y6), (7, .long y3), (0, .ref (E.2.2.2 4)), (1, .ref (E.2.2.2 x1)), (2, .long x2), (4, .long x4)]) hx hb dX4_shareOut_139 hl (k := 5) rfl (by rw [ey6]; rfl) (by decide) rfl (fun ls hl => ?_)
            refine lv_goto (tgt := 3) hx hb dX4_shareOut_142 (by decide) ?_
            exact ih y6 μ H locs ls S (lv_sub hl [2, 3, 4, 5, 0] rfl) h
          · have h := q_ig c5 h
            refine lv_lload hx hb dX4_shareOut_61 (lv_at hl 0 rfl) ?_
            refine lv_lconst (v := 0) hx hb dX4_shareOut_63 (by decide) ?_
            refine W.lcmp hx hb dX4_shareOut_64 ?_
            refine lv_if_le (tgt := 139) hx hb dX4_shareOut_65 (by decide) (fun c7 => ?_) (fun c7 => ?_)
            · have h := q_ip c7 h
              obtain ⟨y8, ey8⟩ : ∃ z : Int32, z = v6 + 1 := ⟨_, rfl⟩
              have h := q_le_e h ey8
              refine lv_iinc (v := y8) (lv' := [(6, .int y8), (7, .long y3), (0, .ref (E.2.2.2 4)), (1, .ref (E.2.2.2 x1)), (2, .long x2), (4, .long x4)]) hx hb dX4_shareOut_139 hl (k := 5) rfl (by rw [ey8]; rfl) (by decide) rfl (fun ls hl => ?_)
              refine lv_goto (tgt := 3) hx hb dX4_shareOut_142 (by decide) ?_
              exact ih y8 μ H locs ls S (lv_sub hl [2, 3, 4, 5, 0] rfl) h
            · have h := q_ig c7 h
              refine lv_lload_n hx hb dX4_shareOut_68 rfl (lv_at hl 3 rfl) ?_
              refine lv_aload_n hx hb dX4_shareOut_69 rfl (lv_at hl 2 rfl) ?_
              refine q_getrN (own := RX4) (C := RX0) (T := TX0) (N := 8) (ci := 0) (j := 2) (host := "HeavyRoutes") hx hb hts i0 hown F S kx1 (by decide) rfl (by decide) (by decide) rfl (q_p_0_2 kx1) (by decide +kernel) dX4_shareOut_70 ?_
              refine lv_iload hx hb dX4_shareOut_73 (lv_at hl 5 rfl) ?_
              refine lv_iconst (v := 1) hx hb dX4_shareOut_75 (by decide) ?_
              refine lv_iadd hx hb dX4_shareOut_76 ?_
              obtain ⟨g9, h⟩ := q_gd_some h
              refine q_lald hx hb F S (q_k_0_2 kx1) (q_n_0_2 kx1) g9 dX4_shareOut_77 ?_
              refine W.lcmp hx hb dX4_shareOut_78 ?_
              refine lv_if_ge (tgt := 139) hx hb dX4_shareOut_79 (by decide) (fun c10 => ?_) (fun c10 => ?_)
              · have h := q_ip c10 h
                obtain ⟨y11, ey11⟩ : ∃ z : Int32, z = v6 + 1 := ⟨_, rfl⟩
                have h := q_le_e h ey11
                refine lv_iinc (v := y11) (lv' := [(6, .int y11), (7, .long y3), (0, .ref (E.2.2.2 4)), (1, .ref (E.2.2.2 x1)), (2, .long x2), (4, .long x4)]) hx hb dX4_shareOut_139 hl (k := 5) rfl (by rw [ey11]; rfl) (by decide) rfl (fun ls hl => ?_)
                refine lv_goto (tgt := 3) hx hb dX4_shareOut_142 (by decide) ?_
                exact ih y11 μ H locs ls S (lv_sub hl [2, 3, 4, 5, 0] rfl) h
              · have h := q_ig c10 h
                refine lv_aload_n hx hb dX4_shareOut_82 rfl (lv_at hl 2 rfl) ?_
                refine lv_iload hx hb dX4_shareOut_83 (lv_at hl 5 rfl) ?_
                obtain ⟨r14, μ12, hc13, h⟩ := q_bd_some h
                refine q_kl F S (q_runV (As := [.int v6]) (rest := []) (b := x1) ⟨hx, hb, hml, hown, hts⟩ F S (c_X0_gapBehind l E hE x1 v6 kx1 μ μ12 r14 hc13) (cwV 1 hts gX4_shareOut_X0_gapBehind rfl rfl rfl (by decide +kernel) ⟨Nat.le_of_ble_eq_true rfl, Nat.le_of_ble_eq_true rfl⟩) kx1 (by decide) rfl rfl hl.1 rfl (Nat.le_of_ble_eq_true rfl) dX4_shareOut_85 ⟨Nat.zero_le _, Nat.zero_le _⟩) (fun H locs S => ?_)
                refine lv_lstore (lv' := [(9, .long r14), (7, .long y3), (0, .ref (E.2.2.2 4)), (1, .ref (E.2.2.2 x1)), (2, .long x2), (4, .long x4), (6, .int v6)]) hx hb dX4_shareOut_88 hl (by decide) rfl (fun ls hl => ?_)
                refine lv_lload hx hb dX4_shareOut_90 (lv_at hl 5 rfl) ?_
                refine lv_aload_n hx hb dX4_shareOut_92 rfl (lv_at hl 2 rfl) ?_
                refine q_getl (own := RX4) (C := RX4) (T := TX4) (N := 8) (ci := 4) (j := 7)  hx hb hts i4 hown F S q_k4 (by decide) rfl (by decide) (by decide) rfl (hts (.fieldLink RX4 81 "HeavyRoutes$Rater" "gapScale" "J") (by decide +kernel)) dX4_shareOut_93 ?_
                refine lv_lload hx hb dX4_shareOut_96 (lv_at hl 0 rfl) ?_
                obtain ⟨r17, μ15, hc16, h⟩ := q_bd_some h
                refine q_kl F S (q_runS (As := [.long (μ12.2 4 7), .long r14]) (rest := [.long x4]) ⟨hx, hb, hml, hown, hts⟩ F S (c_X4_quotient l E hE (μ12.2 4 7) r14 μ12 μ15 r17 hc16) (va_cwS 2 hts gX4_shareOut_X4_quotient rfl rfl rfl (by decide +kernel) ⟨Nat.le_of_ble_eq_true rfl, Nat.le_of_ble_eq_true rfl⟩) rfl hl.1 rfl (Nat.le_of_ble_eq_true rfl) dX4_shareOut_98 ⟨Nat.zero_le _, Nat.zero_le _⟩) (fun H locs S => ?_)
                refine lv_lmul hx hb dX4_shareOut_101 ?_
                refine lv_topl (fun y18 ey18 => ?_)
                have h := q_le_e h ey18
                refine lv_lstore (lv' := [(11, .long y18), (9, .long r14), (7, .long y3), (0, .ref (E.2.2.2 4)), (1, .ref (E.2.2.2 x1)), (2, .long x2), (4, .long x4), (6, .int v6)]) hx hb dX4_shareOut_102 hl (by decide) rfl (fun ls hl => ?_)
                refine lv_aload_n hx hb dX4_shareOut_104 rfl (lv_at hl 3 rfl) ?_
                refine q_getr (own := RX4) (C := RX4) (T := TX4) (N := 8) (ci := 4) (j := 3)  (b := 11) hx hb hts i4 hown F S q_k4 (by decide) rfl (by decide) (by decide) rfl (by decide) (hts (.fieldLink RX4 28 "HeavyRoutes$Rater" "shares" "[J") (by decide +kernel)) dX4_shareOut_105 ?_
                refine lv_iload hx hb dX4_shareOut_108 (lv_at hl 7 rfl) ?_
                refine lv_dup2_11 hx hb dX4_shareOut_110 rfl rfl ?_
                refine q_lald hx hb F S q_k11 q_n11 g2 dX4_shareOut_111 ?_
                refine lv_lload hx hb dX4_shareOut_112 (lv_at hl 0 rfl) ?_
                refine lv_lload hx hb dX4_shareOut_114 (lv_at hl 1 rfl) ?_
                refine lv_lload hx hb dX4_shareOut_116 (lv_at hl 2 rfl) ?_
                refine lv_lsub hx hb dX4_shareOut_118 ?_
                refine lv_lmul hx hb dX4_shareOut_119 ?_
                refine lv_ladd hx hb dX4_shareOut_120 ?_
                refine q_last hx hb F S q_k11 q_n11 g2 dX4_shareOut_121 (fun H locs μ19 eμ19 S => ?_)
                have h := q_le_e h eμ19
                refine lv_aload_n hx hb dX4_shareOut_122 rfl (lv_at hl 3 rfl) ?_
                refine q_getr (own := RX4) (C := RX4) (T := TX4) (N := 8) (ci := 4) (j := 3)  (b := 11) hx hb hts i4 hown F S q_k4 (by decide) rfl (by decide) (by decide) rfl (by decide) (hts (.fieldLink RX4 28 "HeavyRoutes$Rater" "shares" "[J") (by decide +kernel)) dX4_shareOut_123 ?_
                refine lv_iload hx hb dX4_shareOut_126 (lv_at hl 7 rfl) ?_
                refine lv_iconst (v := 1) hx hb dX4_shareOut_128 (by decide) ?_
                refine lv_iadd hx hb dX4_shareOut_129 ?_
                refine lv_dup2_11 hx hb dX4_shareOut_130 rfl rfl ?_
                refine q_lald hx hb F S q_k11 q_n11 g9 dX4_shareOut_131 ?_
                refine lv_lload hx hb dX4_shareOut_132 (lv_at hl 0 rfl) ?_
                refine lv_lload hx hb dX4_shareOut_134 (lv_at hl 2 rfl) ?_
                refine lv_lmul hx hb dX4_shareOut_136 ?_
                refine lv_ladd hx hb dX4_shareOut_137 ?_
                refine q_last hx hb F S q_k11 q_n11 g9 dX4_shareOut_138 (fun H locs μ20 eμ20 S => ?_)
                have h := q_le_e h eμ20
                obtain ⟨y21, ey21⟩ : ∃ z : Int32, z = v6 + 1 := ⟨_, rfl⟩
                have h := q_le_e h ey21
                refine lv_iinc (v := y21) (lv' := [(6, .int y21), (11, .long y18), (9, .long r14), (7, .long y3), (0, .ref (E.2.2.2 4)), (1, .ref (E.2.2.2 x1)), (2, .long x2), (4, .long x4)]) hx hb dX4_shareOut_139 hl (k := 7) rfl (by rw [ey21]; rfl) (by decide) rfl (fun ls hl => ?_)
                refine lv_goto (tgt := 3) hx hb dX4_shareOut_142 (by decide) ?_
                exact ih y21 μ20 H locs ls S (lv_sub hl [4, 5, 6, 7, 0] rfl) h
        · have h := q_ip c4 h
          refine lv_aload_n hx hb dX4_shareOut_30 rfl (lv_at hl 1 rfl) ?_
          refine q_getr (own := RX4) (C := RX4) (T := TX4) (N := 8) (ci := 4) (j := 3)  (b := 11) hx hb hts i4 hown F S q_k4 (by decide) rfl (by decide) (by decide) rfl (by decide) (hts (.fieldLink RX4 28 "HeavyRoutes$Rater" "shares" "[J") (by decide +kernel)) dX4_shareOut_31 ?_
          refine lv_iload hx hb dX4_shareOut_34 (lv_at hl 5 rfl) ?_
          refine lv_dup2_11 hx hb dX4_shareOut_36 rfl rfl ?_
          refine q_lald hx hb F S q_k11 q_n11 g2 dX4_shareOut_37 ?_
          refine lv_lload hx hb dX4_shareOut_38 (lv_at hl 4 rfl) ?_
          refine lv_aload_n hx hb dX4_shareOut_40 rfl (lv_at hl 1 rfl) ?_
          refine q_getl (own := RX4) (C := RX4) (T := TX4) (N := 8) (ci := 4) (j := 7)  hx hb hts i4 hown F S q_k4 (by decide) rfl (by decide) (by decide) rfl (hts (.fieldLink RX4 81 "HeavyRoutes$Rater" "gapScale" "J") (by decide +kernel)) dX4_shareOut_41 ?_
          refine lv_lmul hx hb dX4_shareOut_44 ?_
          refine lv_ladd hx hb dX4_shareOut_45 ?_
          refine q_last hx hb F S q_k11 q_n11 g2 dX4_shareOut_46 (fun H locs μ22 eμ22 S => ?_)
          have h := q_le_e h eμ22
          refine lv_goto (tgt := 139) hx hb dX4_shareOut_47 (by decide) ?_
          obtain ⟨y23, ey23⟩ : ∃ z : Int32, z = v6 + 1 := ⟨_, rfl⟩
          have h := q_le_e h ey23
          refine lv_iinc (v := y23) (lv' := [(6, .int y23), (7, .long y3), (0, .ref (E.2.2.2 4)), (1, .ref (E.2.2.2 x1)), (2, .long x2), (4, .long x4)]) hx hb dX4_shareOut_139 hl (k := 5) rfl (by rw [ey23]; rfl) (by decide) rfl (fun ls hl => ?_)
          refine lv_goto (tgt := 3) hx hb dX4_shareOut_142 (by decide) ?_
          exact ih y23 μ22 H locs ls S (lv_sub hl [2, 3, 4, 5, 0] rfl) h
  unfold f_X4_shareOut at h
  obtain ⟨H, eH⟩ : ∃ z, z = s.heap := ⟨_, rfl⟩
  obtain ⟨locs, eL⟩ : ∃ z : List Loc, z = [] := ⟨_, rfl⟩
  rw [← eH, ← eL] at S
  suffices hh : W p l e ({ frames := 1, cells := 0, slots := 0, locals := 23 }) s m ([.ref (E.2.2.2 4), .ref (E.2.2.2 x1), .long x2, .long x4] : List Value).toArray below meth c H locs 0 0 (MQ below (q_Qv E r μr) ([.ref (E.2.2.2 4), .ref (E.2.2.2 x1), .long x2, .long x4] : List Value).toArray s 0 0 (q_A E)) (F0 m 0 ls []) by rw [eH, eL] at hh; exact hh
  refine lv_iconst (v := 0) hx hb dX4_shareOut_0 (by decide) ?_
  refine lv_istore (lv' := [(6, .int 0), (0, .ref (E.2.2.2 4)), (1, .ref (E.2.2.2 x1)), (2, .long x2), (4, .long x4)]) hx hb dX4_shareOut_1 hl (by decide) rfl (fun ls hl => ?_)
  refine hL3 _ (fun μ H locs ls S hl h => ?_) q_fu 0 μ H locs ls S (lv_sub hl [1, 2, 3, 4, 0] rfl) h
  exact q_vret hx hb hr S h hlk dX4_shareOut_145
def L_X4_takeGreater_3 (x1 : Nat) (x3 : Int64) (x5 : Int32) (x6 : Nat) (Kx : q_M → Option (Unit × q_M)) : Nat → Int32 → q_M → Option (Unit × q_M)
  | 0, _, _ => none
  | n + 1, v7, μ => (if 6 ≤ v7 then Kx μ else q_gd (q_ix v7 6) (q_le (q_sl μ 11 v7.toNatClampNeg 0) (fun μ3 => q_le (v7 + 1 : Int32) (fun y4 => (L_X4_takeGreater_3 x1 x3 x5 x6 Kx n) y4 μ3))))
def L_X4_takeGreater_27 (x1 : Nat) (x3 : Int64) (x5 : Int32) (x6 : Nat) (Kx : q_M → Option (Unit × q_M)) : Nat → Int32 → q_M → Option (Unit × q_M)
  | 0, _, _ => none
  | n + 1, v7, μ => (if (μ.1 3 2) ≤ v7 then Kx μ else q_gd (q_ix v7 5) (q_bd (f_X4_shareOut x1 (x3 + (x5.toInt64 * (μ.2 9 v7.toNatClampNeg))) (μ.2 10 v7.toNatClampNeg) μ) (fun u7 μ7 => q_le (v7 + 1 : Int32) (fun y9 => (L_X4_takeGreater_27 x1 x3 x5 x6 Kx n) y9 μ7))))
def J_X4_takeGreater_118 (x1 : Nat) (x3 : Int64) (x5 : Int32) (x6 : Nat) (Kb : Int32 → q_M → Option (Unit × q_M)) (Kx : q_M → Option (Unit × q_M)) (v7 : Int32) (s0 : Nat) (μ : q_M) : Option (Unit × q_M) := q_gd (q_ix v7 6) (q_bd (f_X4_quotient (μ.2 4 6) (μ.2 (x1 + 18) v7.toNatClampNeg) μ) (fun r20 μ18 => q_bd (f_X8_addProduct s0 ((μ.2 11 v7.toNatClampNeg) * (if 0 < (μ.2 (x1 + 12) v7.toNatClampNeg) then (μ.2 (x1 + 12) v7.toNatClampNeg) else -(μ.2 (x1 + 12) v7.toNatClampNeg))) r20 μ18) (fun u21 μ21 => q_le (v7 + 1 : Int32) (fun y23 => Kb y23 μ21))))
def L_X4_takeGreater_86 (x1 : Nat) (x3 : Int64) (x5 : Int32) (x6 : Nat) (Kx : q_M → Option (Unit × q_M)) : Nat → Int32 → q_M → Option (Unit × q_M)
  | 0, _, _ => none
  | n + 1, v7, μ => (if (μ.1 x1 1) ≤ v7 then Kx μ else q_gd (q_ix v7 6) ((if 0 ≤ (lg_cmp (μ.2 (x1 + 12) v7.toNatClampNeg) 0) then J_X4_takeGreater_118 x1 x3 x5 x6 (L_X4_takeGreater_86 x1 x3 x5 x6 Kx n) Kx v7 95 μ else J_X4_takeGreater_118 x1 x3 x5 x6 (L_X4_takeGreater_86 x1 x3 x5 x6 Kx n) Kx v7 96 μ)))
def f_X4_takeGreater (x1 : Nat) (x3 : Int64) (x5 : Int32) (x6 : Nat) (μ : q_M) : Option (Unit × q_M) := L_X4_takeGreater_3 x1 x3 x5 x6 (fun μ => L_X4_takeGreater_27 x1 x3 x5 x6 (fun μ => q_bd (f_X8_setTo 95 0 μ) (fun u10 μ10 => q_bd (f_X8_setTo 96 0 μ10) (fun u12 μ12 => L_X4_takeGreater_86 x1 x3 x5 x6 (fun μ => q_bd (f_X8_compareWith 95 96 μ) (fun r26 μ24 => (if 0 ≤ r26 then q_bd (f_X8_subtract 95 96 μ24) (fun u28 μ28 => q_bd (f_X8_compareWith 95 x6 μ28) (fun r32 μ30 => (if r32 ≤ 0 then some ((), μ30) else q_bd (f_X8_copyFrom x6 95 μ30) (fun u34 μ34 => some ((), μ34))))) else some ((), μ24)))) q_fu 0 μ12))) q_fu 0 μ) q_fu 0 μ
set_option maxHeartbeats 4000000 in
set_option maxRecDepth 100000 in
theorem c_X4_takeGreater (l : Launch) (E : q_E) (hE : q_I E) (x1 : Nat) (x3 : Int64) (x5 : Int32) (x6 : Nat) (kx1 : q_kd x1 = 0) (kx6 : q_kd x6 = 8) (μ μr : q_M) (r : Unit) (h : f_X4_takeGreater x1 x3 x5 x6 μ = some (r, μr)) : Met l yX4_takeGreater wsX4_takeGreater ({ frames := 2, cells := 0, slots := 0, locals := 59 }) (q_Pc E μ [.ref (E.2.2.2 4), .ref (E.2.2.2 x1), .ref (E.2.2.2 3), .long x3, .int x5, .ref (E.2.2.2 x6)]) (q_Qv E r μr) 0 0 (q_A E) := by
  refine q_met (cc := cX4_takeGreater) (maxL := 9) (ret := none) hE (by decide) rfl (Nat.le_of_ble_eq_true rfl) ?_
  intro p e s m below meth c hx hb hr hml hown hts hlk F S ls hl
  have hl : lv_has ls 9 [(0, .ref (E.2.2.2 4)), (1, .ref (E.2.2.2 x1)), (2, .ref (E.2.2.2 3)), (3, .long x3), (5, .int x5), (6, .ref (E.2.2.2 x6))] := hl
  have i0 : ∀ w ∈ u_ws RX0 TX0 8, w ∈ wsX4_takeGreater := by decide +kernel
  have i2 : ∀ w ∈ u_ws RX2 TX2 5, w ∈ wsX4_takeGreater := by decide +kernel
  have i4 : ∀ w ∈ u_ws RX4 TX4 8, w ∈ wsX4_takeGreater := by decide +kernel
  have hL3 : ∀ (Kx : q_M → Option (Unit × q_M)), (∀ (μ : q_M) (H : Heap) (locs : List Loc) (ls : Array Slot), q_S E (q_A E) s μ H locs → lv_has ls 9 [(0, .ref (E.2.2.2 4)), (1, .ref (E.2.2.2 x1)), (2, .ref (E.2.2.2 3)), (3, .long x3), (5, .int x5), (6, .ref (E.2.2.2 x6))] → Kx μ = some (r, μr) → W p l e ({ frames := 2, cells := 0, slots := 0, locals := 59 }) s m ([.ref (E.2.2.2 4), .ref (E.2.2.2 x1), .ref (E.2.2.2 3), .long x3, .int x5, .ref (E.2.2.2 x6)] : List Value).toArray below meth c H locs 0 0 (MQ below (q_Qv E r μr) ([.ref (E.2.2.2 4), .ref (E.2.2.2 x1), .ref (E.2.2.2 3), .long x3, .int x5, .ref (E.2.2.2 x6)] : List Value).toArray s 0 0 (q_A E)) (F0 m 24 ls [])) → ∀ (n : Nat), ∀ (v7 : Int32), ∀ (μ : q_M) (H : Heap) (locs : List Loc) (ls : Array Slot), q_S E (q_A E) s μ H locs → lv_has ls 9 [(0, .ref (E.2.2.2 4)), (1, .ref (E.2.2.2 x1)), (2, .ref (E.2.2.2 3)), (3, .long x3), (5, .int x5), (6, .ref (E.2.2.2 x6)), (7, .int v7)] → L_X4_takeGreater_3 x1 x3 x5 x6 Kx n v7 μ = some (r, μr) → W p l e ({ frames := 2, cells := 0, slots := 0, locals := 59 }) s m ([.ref (E.2.2.2 4), .ref (E.2.2.2 x1), .ref (E.2.2.2 3), .long x3, .int x5, .ref (E.2.2.2 x6)] : List Value).toArray below meth c H locs 0 0 (MQ below (q_Qv E r μr) ([.ref (E.2.2.2 4), .ref (E.2.2.2 x1), .ref (E.2.2.2 3), .long x3, .int x5, .ref (E.2.2.2 x6)] : List Value).toArray s 0 0 (q_A E)) (F0 m 3 ls []) := by
    intro Kx hKx n
    induction n with
    | zero => intro v7 μ H locs ls S hl h; exact absurd h (by simp [L_X4_takeGreater_3])
    | succ n ih =>
      intro v7 μ H locs ls S hl h
      rw [L_X4_takeGreater_3] at h
      refine lv_iload hx hb dX4_takeGreater_3 (lv_at hl 6 rfl) ?_
      refine lv_bipush (v := 6) hx hb dX4_takeGreater_5 (by decide) ?_
      refine lv_icmp_ge (tgt := 24) hx hb dX4_takeGreater_7 (by decide) (fun c1 => ?_) (fun c1 => ?_)
      · have h := q_ip c1 h
        exact hKx μ H locs ls S (lv_sub hl [0, 1, 2, 3, 4, 5] rfl) h
      · have h := q_ig c1 h
        refine lv_aload_n hx hb dX4_takeGreater_10 rfl (lv_at hl 0 rfl) ?_
        refine q_getr (own := RX4) (C := RX4) (T := TX4) (N := 8) (ci := 4) (j := 3)  (b := 11) hx hb hts i4 hown F S q_k4 (by decide) rfl (by decide) (by decide) rfl (by decide) (hts (.fieldLink RX4 28 "HeavyRoutes$Rater" "shares" "[J") (by decide +kernel)) dX4_takeGreater_11 ?_
        refine lv_iload hx hb dX4_takeGreater_14 (lv_at hl 6 rfl) ?_
        refine lv_lconst (v := 0) hx hb dX4_takeGreater_16 (by decide) ?_
        obtain ⟨g2, h⟩ := q_gd_some h
        refine q_last hx hb F S q_k11 q_n11 g2 dX4_takeGreater_17 (fun H locs μ3 eμ3 S => ?_)
        have h := q_le_e h eμ3
        obtain ⟨y4, ey4⟩ : ∃ z : Int32, z = v7 + 1 := ⟨_, rfl⟩
        have h := q_le_e h ey4
        refine lv_iinc (v := y4) (lv' := [(7, .int y4), (0, .ref (E.2.2.2 4)), (1, .ref (E.2.2.2 x1)), (2, .ref (E.2.2.2 3)), (3, .long x3), (5, .int x5), (6, .ref (E.2.2.2 x6))]) hx hb dX4_takeGreater_18 hl (k := 6) rfl (by rw [ey4]; rfl) (by decide) rfl (fun ls hl => ?_)
        refine lv_goto (tgt := 3) hx hb dX4_takeGreater_21 (by decide) ?_
        exact ih y4 μ3 H locs ls S (lv_sub hl [1, 2, 3, 4, 5, 6, 0] rfl) h
  have hL27 : ∀ (Kx : q_M → Option (Unit × q_M)), (∀ (μ : q_M) (H : Heap) (locs : List Loc) (ls : Array Slot), q_S E (q_A E) s μ H locs → lv_has ls 9 [(0, .ref (E.2.2.2 4)), (1, .ref (E.2.2.2 x1)), (6, .ref (E.2.2.2 x6))] → Kx μ = some (r, μr) → W p l e ({ frames := 2, cells := 0, slots := 0, locals := 59 }) s m ([.ref (E.2.2.2 4), .ref (E.2.2.2 x1), .ref (E.2.2.2 3), .long x3, .int x5, .ref (E.2.2.2 x6)] : List Value).toArray below meth c H locs 0 0 (MQ below (q_Qv E r μr) ([.ref (E.2.2.2 4), .ref (E.2.2.2 x1), .ref (E.2.2.2 3), .long x3, .int x5, .ref (E.2.2.2 x6)] : List Value).toArray s 0 0 (q_A E)) (F0 m 67 ls [])) → ∀ (n : Nat), ∀ (v7 : Int32), ∀ (μ : q_M) (H : Heap) (locs : List Loc) (ls : Array Slot), q_S E (q_A E) s μ H locs → lv_has ls 9 [(0, .ref (E.2.2.2 4)), (1, .ref (E.2.2.2 x1)), (2, .ref (E.2.2.2 3)), (3, .long x3), (5, .int x5), (6, .ref (E.2.2.2 x6)), (7, .int v7)] → L_X4_takeGreater_27 x1 x3 x5 x6 Kx n v7 μ = some (r, μr) → W p l e ({ frames := 2, cells := 0, slots := 0, locals := 59 }) s m ([.ref (E.2.2.2 4), .ref (E.2.2.2 x1), .ref (E.2.2.2 3), .long x3, .int x5, .ref (E.2.2.2 x6)] : List Value).toArray below meth c H locs 0 0 (MQ below (q_Qv E r μr) ([.ref (E.2.2.2 4), .ref (E.2.2.2 x1), .ref (E.2.2.2 3), .long x3, .int x5, .ref (E.2.2.2 x6)] : List Value).toArray s 0 0 (q_A E)) (F0 m 27 ls []) := by
    intro Kx hKx n
    induction n with
    | zero => intro v7 μ H locs ls S hl h; exact absurd h (by simp [L_X4_takeGreater_27])
    | succ n ih =>
      intro v7 μ H locs ls S hl h
      rw [L_X4_takeGreater_27] at h
      refine lv_iload hx hb dX4_takeGreater_27 (lv_at hl 6 rfl) ?_
      refine lv_aload_n hx hb dX4_takeGreater_29 rfl (lv_at hl 2 rfl) ?_
      refine q_getiN (own := RX4) (C := RX2) (T := TX2) (N := 5) (ci := 2) (j := 2) (host := "HeavyRoutes") hx hb hts i2 hown F S q_k3 (by decide) rfl (by decide) (by decide) rfl (by decide +kernel) dX4_takeGreater_30 ?_
      refine lv_icmp_ge (tgt := 67) hx hb dX4_takeGreater_33 (by decide) (fun c5 => ?_) (fun c5 => ?_)
      · have h := q_ip c5 h
        exact hKx μ H locs ls S (lv_sub hl [0, 1, 5] rfl) h
      · have h := q_ig c5 h
        refine lv_aload_n hx hb dX4_takeGreater_36 rfl (lv_at hl 0 rfl) ?_
        refine lv_aload_n hx hb dX4_takeGreater_37 rfl (lv_at hl 1 rfl) ?_
        refine lv_lload_n hx hb dX4_takeGreater_38 rfl (lv_at hl 3 rfl) ?_
        refine lv_iload hx hb dX4_takeGreater_39 (lv_at hl 4 rfl) ?_
        refine lv_i2l (v := x5.toInt64) hx hb dX4_takeGreater_41 rfl ?_
        refine lv_aload_n hx hb dX4_takeGreater_42 rfl (lv_at hl 2 rfl) ?_
        refine q_getrN (own := RX4) (C := RX2) (T := TX2) (N := 5) (ci := 2) (j := 3) (host := "HeavyRoutes") (b := 9) hx hb hts i2 hown F S q_k3 (by decide) rfl (by decide) (by decide) rfl (by decide) (by decide +kernel) dX4_takeGreater_43 ?_
        refine lv_iload hx hb dX4_takeGreater_46 (lv_at hl 6 rfl) ?_
        obtain ⟨g6, h⟩ := q_gd_some h
        refine q_lald hx hb F S q_k9 q_n9 g6 dX4_takeGreater_48 ?_
        refine lv_lmul hx hb dX4_takeGreater_49 ?_
        refine lv_ladd hx hb dX4_takeGreater_50 ?_
        refine lv_aload_n hx hb dX4_takeGreater_51 rfl (lv_at hl 2 rfl) ?_
        refine q_getrN (own := RX4) (C := RX2) (T := TX2) (N := 5) (ci := 2) (j := 4) (host := "HeavyRoutes") (b := 10) hx hb hts i2 hown F S q_k3 (by decide) rfl (by decide) (by decide) rfl (by decide) (by decide +kernel) dX4_takeGreater_52 ?_
        refine lv_iload hx hb dX4_takeGreater_55 (lv_at hl 6 rfl) ?_
        refine q_lald hx hb F S q_k10 q_n10 g6 dX4_takeGreater_57 ?_
        obtain ⟨u7, μ7, hc8, h⟩ := q_bd_some h
        refine q_kv F S (q_runV (As := [.ref (E.2.2.2 x1), .long (x3 + (x5.toInt64 * (μ.2 9 v7.toNatClampNeg))), .long (μ.2 10 v7.toNatClampNeg)]) (rest := []) (b := 4) ⟨hx, hb, hml, hown, hts⟩ F S (c_X4_shareOut l E hE x1 (x3 + (x5.toInt64 * (μ.2 9 v7.toNatClampNeg))) (μ.2 10 v7.toNatClampNeg) kx1 μ μ7 u7 hc8) (cwV 3 hts gX4_takeGreater_X4_shareOut rfl rfl rfl (by decide +kernel) ⟨Nat.le_of_ble_eq_true rfl, Nat.le_of_ble_eq_true rfl⟩) q_k4 (by decide) rfl rfl hl.1 rfl (Nat.le_of_ble_eq_true rfl) dX4_takeGreater_58 ⟨Nat.zero_le _, Nat.zero_le _⟩) (fun H locs S => ?_)
        obtain ⟨y9, ey9⟩ : ∃ z : Int32, z = v7 + 1 := ⟨_, rfl⟩
        have h := q_le_e h ey9
        refine lv_iinc (v := y9) (lv' := [(7, .int y9), (0, .ref (E.2.2.2 4)), (1, .ref (E.2.2.2 x1)), (2, .ref (E.2.2.2 3)), (3, .long x3), (5, .int x5), (6, .ref (E.2.2.2 x6))]) hx hb dX4_takeGreater_61 hl (k := 6) rfl (by rw [ey9]; rfl) (by decide) rfl (fun ls hl => ?_)
        refine lv_goto (tgt := 27) hx hb dX4_takeGreater_64 (by decide) ?_
        exact ih y9 μ7 H locs ls S (lv_sub hl [1, 2, 3, 4, 5, 6, 0] rfl) h
  have hJ118 : ∀ (Kb : Int32 → q_M → Option (Unit × q_M)), (∀ (v7 : Int32), ∀ (μ : q_M) (H : Heap) (locs : List Loc) (ls : Array Slot), q_S E (q_A E) s μ H locs → lv_has ls 9 [(0, .ref (E.2.2.2 4)), (1, .ref (E.2.2.2 x1)), (6, .ref (E.2.2.2 x6)), (7, .int v7)] → Kb v7 μ = some (r, μr) → W p l e ({ frames := 2, cells := 0, slots := 0, locals := 59 }) s m ([.ref (E.2.2.2 4), .ref (E.2.2.2 x1), .ref (E.2.2.2 3), .long x3, .int x5, .ref (E.2.2.2 x6)] : List Value).toArray below meth c H locs 0 0 (MQ below (q_Qv E r μr) ([.ref (E.2.2.2 4), .ref (E.2.2.2 x1), .ref (E.2.2.2 3), .long x3, .int x5, .ref (E.2.2.2 x6)] : List Value).toArray s 0 0 (q_A E)) (F0 m 86 ls [])) → ∀ (Kx : q_M → Option (Unit × q_M)), (∀ (μ : q_M) (H : Heap) (locs : List Loc) (ls : Array Slot), q_S E (q_A E) s μ H locs → lv_has ls 9 [(0, .ref (E.2.2.2 4)), (6, .ref (E.2.2.2 x6))] → Kx μ = some (r, μr) → W p l e ({ frames := 2, cells := 0, slots := 0, locals := 59 }) s m ([.ref (E.2.2.2 4), .ref (E.2.2.2 x1), .ref (E.2.2.2 3), .long x3, .int x5, .ref (E.2.2.2 x6)] : List Value).toArray below meth c H locs 0 0 (MQ below (q_Qv E r μr) ([.ref (E.2.2.2 4), .ref (E.2.2.2 x1), .ref (E.2.2.2 3), .long x3, .int x5, .ref (E.2.2.2 x6)] : List Value).toArray s 0 0 (q_A E)) (F0 m 163 ls [])) → ∀ (v7 : Int32), ∀ (s0 : Nat), q_kd s0 = 8 → ∀ (μ : q_M) (H : Heap) (locs : List Loc) (ls : Array Slot), q_S E (q_A E) s μ H locs → lv_has ls 9 [(0, .ref (E.2.2.2 4)), (1, .ref (E.2.2.2 x1)), (6, .ref (E.2.2.2 x6)), (7, .int v7)] → J_X4_takeGreater_118 x1 x3 x5 x6 Kb Kx v7 s0 μ = some (r, μr) → W p l e ({ frames := 2, cells := 0, slots := 0, locals := 59 }) s m ([.ref (E.2.2.2 4), .ref (E.2.2.2 x1), .ref (E.2.2.2 3), .long x3, .int x5, .ref (E.2.2.2 x6)] : List Value).toArray below meth c H locs 0 0 (MQ below (q_Qv E r μr) ([.ref (E.2.2.2 4), .ref (E.2.2.2 x1), .ref (E.2.2.2 3), .long x3, .int x5, .ref (E.2.2.2 x6)] : List Value).toArray s 0 0 (q_A E)) (F0 m 118 ls [.ref (E.2.2.2 s0)]) := by
    intro Kb hKb Kx hKx v7 s0 ks0 μ H locs ls S hl h
    rw [J_X4_takeGreater_118] at h
    refine lv_astore (lv' := [(8, .ref (E.2.2.2 s0)), (0, .ref (E.2.2.2 4)), (1, .ref (E.2.2.2 x1)), (6, .ref (E.2.2.2 x6)), (7, .int v7)]) hx hb dX4_takeGreater_118 hl (by decide) rfl (fun ls hl => ?_)
    refine lv_aload hx hb dX4_takeGreater_120 (lv_at hl 0 rfl) ?_
    refine lv_aload_n hx hb dX4_takeGreater_122 rfl (lv_at hl 1 rfl) ?_
    refine q_getr (own := RX4) (C := RX4) (T := TX4) (N := 8) (ci := 4) (j := 3)  (b := 11) hx hb hts i4 hown F S q_k4 (by decide) rfl (by decide) (by decide) rfl (by decide) (hts (.fieldLink RX4 28 "HeavyRoutes$Rater" "shares" "[J") (by decide +kernel)) dX4_takeGreater_123 ?_
    refine lv_iload hx hb dX4_takeGreater_126 (lv_at hl 4 rfl) ?_
    obtain ⟨g17, h⟩ := q_gd_some h
    refine q_lald hx hb F S q_k11 q_n11 g17 dX4_takeGreater_128 ?_
    refine lv_aload_n hx hb dX4_takeGreater_129 rfl (lv_at hl 2 rfl) ?_
    refine q_getrN (own := RX4) (C := RX0) (T := TX0) (N := 8) (ci := 0) (j := 3) (host := "HeavyRoutes") hx hb hts i0 hown F S kx1 (by decide) rfl (by decide) (by decide) rfl (q_p_0_3 kx1) (by decide +kernel) dX4_takeGreater_130 ?_
    refine lv_iload hx hb dX4_takeGreater_133 (lv_at hl 4 rfl) ?_
    refine q_lald hx hb F S (q_k_0_3 kx1) (q_n_0_3 kx1) g17 dX4_takeGreater_135 ?_
    refine va_mabs_long hx hb (hml.trans hl.1.symm) hown (hts (.methodLink RX4 108 Lib.MathLoose.abs_long.x) (by decide +kernel)) (hts (.static Lib.MathLoose.abs_long.x) (by decide +kernel)) (hts (.initialized "java/lang/Math") (by decide +kernel)) (hts (.code Lib.MathLoose.abs_long.x Lib.MathLoose.abs_long.code 2 (some .long)) (by decide +kernel)) (Nat.le_of_ble_eq_true rfl) (Nat.le_of_ble_eq_true rfl) (Nat.zero_le _) (Nat.zero_le _) dX4_takeGreater_136 ?_
    refine lv_lmul hx hb dX4_takeGreater_139 ?_
    refine lv_aload_n hx hb dX4_takeGreater_140 rfl (lv_at hl 1 rfl) ?_
    refine q_getl (own := RX4) (C := RX4) (T := TX4) (N := 8) (ci := 4) (j := 6)  hx hb hts i4 hown F S q_k4 (by decide) rfl (by decide) (by decide) rfl (hts (.fieldLink RX4 77 "HeavyRoutes$Rater" "valueScale" "J") (by decide +kernel)) dX4_takeGreater_141 ?_
    refine lv_aload_n hx hb dX4_takeGreater_144 rfl (lv_at hl 2 rfl) ?_
    refine q_getrN (own := RX4) (C := RX0) (T := TX0) (N := 8) (ci := 0) (j := 4) (host := "HeavyRoutes") hx hb hts i0 hown F S kx1 (by decide) rfl (by decide) (by decide) rfl (q_p_0_4 kx1) (by decide +kernel) dX4_takeGreater_145 ?_
    refine lv_iload hx hb dX4_takeGreater_148 (lv_at hl 4 rfl) ?_
    refine q_lald hx hb F S (q_k_0_4 kx1) (q_n_0_4 kx1) g17 dX4_takeGreater_150 ?_
    obtain ⟨r20, μ18, hc19, h⟩ := q_bd_some h
    refine q_kl F S (q_runS (As := [.long (μ.2 4 6), .long (μ.2 (x1 + 18) v7.toNatClampNeg)]) (rest := [.long ((μ.2 11 v7.toNatClampNeg) * (if 0 < (μ.2 (x1 + 12) v7.toNatClampNeg) then (μ.2 (x1 + 12) v7.toNatClampNeg) else -(μ.2 (x1 + 12) v7.toNatClampNeg))), .ref (E.2.2.2 s0)]) ⟨hx, hb, hml, hown, hts⟩ F S (c_X4_quotient l E hE (μ.2 4 6) (μ.2 (x1 + 18) v7.toNatClampNeg) μ μ18 r20 hc19) (va_cwS 2 hts gX4_takeGreater_X4_quotient rfl rfl rfl (by decide +kernel) ⟨Nat.le_of_ble_eq_true rfl, Nat.le_of_ble_eq_true rfl⟩) rfl hl.1 rfl (Nat.le_of_ble_eq_true rfl) dX4_takeGreater_151 ⟨Nat.zero_le _, Nat.zero_le _⟩) (fun H locs S => ?_)
    obtain ⟨u21, μ21, hc22, h⟩ := q_bd_some h
    refine q_kv F S (q_runV (As := [.long ((μ.2 11 v7.toNatClampNeg) * (if 0 < (μ.2 (x1 + 12) v7.toNatClampNeg) then (μ.2 (x1 + 12) v7.toNatClampNeg) else -(μ.2 (x1 + 12) v7.toNatClampNeg))), .long r20]) (rest := []) (b := s0) ⟨hx, hb, hml, hown, hts⟩ F S (c_X8_addProduct l E hE s0 ((μ.2 11 v7.toNatClampNeg) * (if 0 < (μ.2 (x1 + 12) v7.toNatClampNeg) then (μ.2 (x1 + 12) v7.toNatClampNeg) else -(μ.2 (x1 + 12) v7.toNatClampNeg))) r20 ks0 μ18 μ21 u21 hc22) (cwV 2 hts gX4_takeGreater_X8_addProduct rfl rfl rfl (by decide +kernel) ⟨Nat.le_of_ble_eq_true rfl, Nat.le_of_ble_eq_true rfl⟩) ks0 (by decide) rfl rfl hl.1 rfl (Nat.le_of_ble_eq_true rfl) dX4_takeGreater_154 ⟨Nat.zero_le _, Nat.zero_le _⟩) (fun H locs S => ?_)
    obtain ⟨y23, ey23⟩ : ∃ z : Int32, z = v7 + 1 := ⟨_, rfl⟩
    have h := q_le_e h ey23
    refine lv_iinc (v := y23) (lv' := [(7, .int y23), (8, .ref (E.2.2.2 s0)), (0, .ref (E.2.2.2 4)), (1, .ref (E.2.2.2 x1)), (6, .ref (E.2.2.2 x6))]) hx hb dX4_takeGreater_157 hl (k := 4) rfl (by rw [ey23]; rfl) (by decide) rfl (fun ls hl => ?_)
    refine lv_goto (tgt := 86) hx hb dX4_takeGreater_160 (by decide) ?_
    exact hKb y23 μ21 H locs ls S (lv_sub hl [2, 3, 4, 0] rfl) h
  have hL86 : ∀ (Kx : q_M → Option (Unit × q_M)), (∀ (μ : q_M) (H : Heap) (locs : List Loc) (ls : Array Slot), q_S E (q_A E) s μ H locs → lv_has ls 9 [(0, .ref (E.2.2.2 4)), (6, .ref (E.2.2.2 x6))] → Kx μ = some (r, μr) → W p l e ({ frames := 2, cells := 0, slots := 0, locals := 59 }) s m ([.ref (E.2.2.2 4), .ref (E.2.2.2 x1), .ref (E.2.2.2 3), .long x3, .int x5, .ref (E.2.2.2 x6)] : List Value).toArray below meth c H locs 0 0 (MQ below (q_Qv E r μr) ([.ref (E.2.2.2 4), .ref (E.2.2.2 x1), .ref (E.2.2.2 3), .long x3, .int x5, .ref (E.2.2.2 x6)] : List Value).toArray s 0 0 (q_A E)) (F0 m 163 ls [])) → ∀ (n : Nat), ∀ (v7 : Int32), ∀ (μ : q_M) (H : Heap) (locs : List Loc) (ls : Array Slot), q_S E (q_A E) s μ H locs → lv_has ls 9 [(0, .ref (E.2.2.2 4)), (1, .ref (E.2.2.2 x1)), (6, .ref (E.2.2.2 x6)), (7, .int v7)] → L_X4_takeGreater_86 x1 x3 x5 x6 Kx n v7 μ = some (r, μr) → W p l e ({ frames := 2, cells := 0, slots := 0, locals := 59 }) s m ([.ref (E.2.2.2 4), .ref (E.2.2.2 x1), .ref (E.2.2.2 3), .long x3, .int x5, .ref (E.2.2.2 x6)] : List Value).toArray below meth c H locs 0 0 (MQ below (q_Qv E r μr) ([.ref (E.2.2.2 4), .ref (E.2.2.2 x1), .ref (E.2.2.2 3), .long x3, .int x5, .ref (E.2.2.2 x6)] : List Value).toArray s 0 0 (q_A E)) (F0 m 86 ls []) := by
    intro Kx hKx n
    induction n with
    | zero => intro v7 μ H locs ls S hl h; exact absurd h (by simp [L_X4_takeGreater_86])
    | succ n ih =>
      intro v7 μ H locs ls S hl h
      rw [L_X4_takeGreater_86] at h
      refine lv_iload hx hb dX4_takeGreater_86 (lv_at hl 3 rfl) ?_
      refine lv_aload_n hx hb dX4_takeGreater_88 rfl (lv_at hl 1 rfl) ?_
      refine q_getiN (own := RX4) (C := RX0) (T := TX0) (N := 8) (ci := 0) (j := 1) (host := "HeavyRoutes") hx hb hts i0 hown F S kx1 (by decide) rfl (by decide) (by decide) rfl (by decide +kernel) dX4_takeGreater_89 ?_
      refine lv_icmp_ge (tgt := 163) hx hb dX4_takeGreater_92 (by decide) (fun c14 => ?_) (fun c14 => ?_)
      · have h := q_ip c14 h
        exact hKx μ H locs ls S (lv_sub hl [0, 2] rfl) h
      · have h := q_ig c14 h
        refine lv_aload_n hx hb dX4_takeGreater_95 rfl (lv_at hl 1 rfl) ?_
        refine q_getrN (own := RX4) (C := RX0) (T := TX0) (N := 8) (ci := 0) (j := 3) (host := "HeavyRoutes") hx hb hts i0 hown F S kx1 (by decide) rfl (by decide) (by decide) rfl (q_p_0_3 kx1) (by decide +kernel) dX4_takeGreater_96 ?_
        refine lv_iload hx hb dX4_takeGreater_99 (lv_at hl 3 rfl) ?_
        obtain ⟨g15, h⟩ := q_gd_some h
        refine q_lald hx hb F S (q_k_0_3 kx1) (q_n_0_3 kx1) g15 dX4_takeGreater_101 ?_
        refine lv_lconst (v := 0) hx hb dX4_takeGreater_102 (by decide) ?_
        refine W.lcmp hx hb dX4_takeGreater_103 ?_
        refine lv_if_ge (tgt := 114) hx hb dX4_takeGreater_104 (by decide) (fun c16 => ?_) (fun c16 => ?_)
        · have h := q_ip c16 h
          refine lv_aload_n hx hb dX4_takeGreater_114 rfl (lv_at hl 0 rfl) ?_
          refine q_getr (own := RX4) (C := RX4) (T := TX4) (N := 8) (ci := 4) (j := 0)  (b := 95) hx hb hts i4 hown F S q_k4 (by decide) rfl (by decide) (by decide) rfl (by decide) (hts (.fieldLink RX4 12 "HeavyRoutes$Rater" "raising" "LHeavyRoutes$Wide;") (by decide +kernel)) dX4_takeGreater_115 ?_
          exact hJ118 _ ih _ hKx v7 95 q_k95 μ H locs ls S (lv_sub hl [0, 1, 2, 3] rfl) h
        · have h := q_ig c16 h
          refine lv_aload_n hx hb dX4_takeGreater_107 rfl (lv_at hl 0 rfl) ?_
          refine q_getr (own := RX4) (C := RX4) (T := TX4) (N := 8) (ci := 4) (j := 1)  (b := 96) hx hb hts i4 hown F S q_k4 (by decide) rfl (by decide) (by decide) rfl (by decide) (hts (.fieldLink RX4 18 "HeavyRoutes$Rater" "lowering" "LHeavyRoutes$Wide;") (by decide +kernel)) dX4_takeGreater_108 ?_
          refine lv_goto (tgt := 118) hx hb dX4_takeGreater_111 (by decide) ?_
          exact hJ118 _ ih _ hKx v7 96 q_k96 μ H locs ls S (lv_sub hl [0, 1, 2, 3] rfl) h
  unfold f_X4_takeGreater at h
  obtain ⟨H, eH⟩ : ∃ z, z = s.heap := ⟨_, rfl⟩
  obtain ⟨locs, eL⟩ : ∃ z : List Loc, z = [] := ⟨_, rfl⟩
  rw [← eH, ← eL] at S
  suffices hh : W p l e ({ frames := 2, cells := 0, slots := 0, locals := 59 }) s m ([.ref (E.2.2.2 4), .ref (E.2.2.2 x1), .ref (E.2.2.2 3), .long x3, .int x5, .ref (E.2.2.2 x6)] : List Value).toArray below meth c H locs 0 0 (MQ below (q_Qv E r μr) ([.ref (E.2.2.2 4), .ref (E.2.2.2 x1), .ref (E.2.2.2 3), .long x3, .int x5, .ref (E.2.2.2 x6)] : List Value).toArray s 0 0 (q_A E)) (F0 m 0 ls []) by rw [eH, eL] at hh; exact hh
  refine lv_iconst (v := 0) hx hb dX4_takeGreater_0 (by decide) ?_
  refine lv_istore (lv' := [(7, .int 0), (0, .ref (E.2.2.2 4)), (1, .ref (E.2.2.2 x1)), (2, .ref (E.2.2.2 3)), (3, .long x3), (5, .int x5), (6, .ref (E.2.2.2 x6))]) hx hb dX4_takeGreater_1 hl (by decide) rfl (fun ls hl => ?_)
  refine hL3 _ (fun μ H locs ls S hl h => ?_) q_fu 0 μ H locs ls S (lv_sub hl [1, 2, 3, 4, 5, 6, 0] rfl) h
  refine lv_iconst (v := 0) hx hb dX4_takeGreater_24 (by decide) ?_
  refine lv_istore (lv' := [(7, .int 0), (0, .ref (E.2.2.2 4)), (1, .ref (E.2.2.2 x1)), (2, .ref (E.2.2.2 3)), (3, .long x3), (5, .int x5), (6, .ref (E.2.2.2 x6))]) hx hb dX4_takeGreater_25 hl (by decide) rfl (fun ls hl => ?_)
  refine hL27 _ (fun μ H locs ls S hl h => ?_) q_fu 0 μ H locs ls S (lv_sub hl [1, 2, 3, 4, 5, 6, 0] rfl) h
  refine lv_aload_n hx hb dX4_takeGreater_67 rfl (lv_at hl 0 rfl) ?_
  refine q_getr (own := RX4) (C := RX4) (T := TX4) (N := 8) (ci := 4) (j := 0)  (b := 95) hx hb hts i4 hown F S q_k4 (by decide) rfl (by decide) (by decide) rfl (by decide) (hts (.fieldLink RX4 12 "HeavyRoutes$Rater" "raising" "LHeavyRoutes$Wide;") (by decide +kernel)) dX4_takeGreater_68 ?_
  refine lv_lconst (v := 0) hx hb dX4_takeGreater_71 (by decide) ?_
  obtain ⟨u10, μ10, hc11, h⟩ := q_bd_some h
  refine q_kv F S (q_runV (As := [.long 0]) (rest := []) (b := 95) ⟨hx, hb, hml, hown, hts⟩ F S (c_X8_setTo l E hE 95 0 q_k95 μ μ10 u10 hc11) (cwV 1 hts gX4_takeGreater_X8_setTo rfl rfl rfl (by decide +kernel) ⟨Nat.le_of_ble_eq_true rfl, Nat.le_of_ble_eq_true rfl⟩) q_k95 (by decide) rfl rfl hl.1 rfl (Nat.le_of_ble_eq_true rfl) dX4_takeGreater_72 ⟨Nat.zero_le _, Nat.zero_le _⟩) (fun H locs S => ?_)
  refine lv_aload_n hx hb dX4_takeGreater_75 rfl (lv_at hl 0 rfl) ?_
  refine q_getr (own := RX4) (C := RX4) (T := TX4) (N := 8) (ci := 4) (j := 1)  (b := 96) hx hb hts i4 hown F S q_k4 (by decide) rfl (by decide) (by decide) rfl (by decide) (hts (.fieldLink RX4 18 "HeavyRoutes$Rater" "lowering" "LHeavyRoutes$Wide;") (by decide +kernel)) dX4_takeGreater_76 ?_
  refine lv_lconst (v := 0) hx hb dX4_takeGreater_79 (by decide) ?_
  obtain ⟨u12, μ12, hc13, h⟩ := q_bd_some h
  refine q_kv F S (q_runV (As := [.long 0]) (rest := []) (b := 96) ⟨hx, hb, hml, hown, hts⟩ F S (c_X8_setTo l E hE 96 0 q_k96 μ10 μ12 u12 hc13) (cwV 1 hts gX4_takeGreater_X8_setTo rfl rfl rfl (by decide +kernel) ⟨Nat.le_of_ble_eq_true rfl, Nat.le_of_ble_eq_true rfl⟩) q_k96 (by decide) rfl rfl hl.1 rfl (Nat.le_of_ble_eq_true rfl) dX4_takeGreater_80 ⟨Nat.zero_le _, Nat.zero_le _⟩) (fun H locs S => ?_)
  refine lv_iconst (v := 0) hx hb dX4_takeGreater_83 (by decide) ?_
  refine lv_istore (lv' := [(7, .int 0), (0, .ref (E.2.2.2 4)), (1, .ref (E.2.2.2 x1)), (6, .ref (E.2.2.2 x6))]) hx hb dX4_takeGreater_84 hl (by decide) rfl (fun ls hl => ?_)
  refine hL86 _ (fun μ H locs ls S hl h => ?_) q_fu 0 μ12 H locs ls S (lv_sub hl [1, 2, 3, 0] rfl) h
  refine lv_aload_n hx hb dX4_takeGreater_163 rfl (lv_at hl 0 rfl) ?_
  refine q_getr (own := RX4) (C := RX4) (T := TX4) (N := 8) (ci := 4) (j := 0)  (b := 95) hx hb hts i4 hown F S q_k4 (by decide) rfl (by decide) (by decide) rfl (by decide) (hts (.fieldLink RX4 12 "HeavyRoutes$Rater" "raising" "LHeavyRoutes$Wide;") (by decide +kernel)) dX4_takeGreater_164 ?_
  refine lv_aload_n hx hb dX4_takeGreater_167 rfl (lv_at hl 0 rfl) ?_
  refine q_getr (own := RX4) (C := RX4) (T := TX4) (N := 8) (ci := 4) (j := 1)  (b := 96) hx hb hts i4 hown F S q_k4 (by decide) rfl (by decide) (by decide) rfl (by decide) (hts (.fieldLink RX4 18 "HeavyRoutes$Rater" "lowering" "LHeavyRoutes$Wide;") (by decide +kernel)) dX4_takeGreater_168 ?_
  obtain ⟨r26, μ24, hc25, h⟩ := q_bd_some h
  refine q_ki F S (q_runV (As := [.ref (E.2.2.2 96)]) (rest := []) (b := 95) ⟨hx, hb, hml, hown, hts⟩ F S (c_X8_compareWith l E hE 95 96 q_k95 q_k96 μ μ24 r26 hc25) (cwV 1 hts gX4_takeGreater_X8_compareWith rfl rfl rfl (by decide +kernel) ⟨Nat.le_of_ble_eq_true rfl, Nat.le_of_ble_eq_true rfl⟩) q_k95 (by decide) rfl rfl hl.1 rfl (Nat.le_of_ble_eq_true rfl) dX4_takeGreater_171 ⟨Nat.zero_le _, Nat.zero_le _⟩) (fun H locs S => ?_)
  refine lv_if_ge (tgt := 178) hx hb dX4_takeGreater_174 (by decide) (fun c27 => ?_) (fun c27 => ?_)
  · have h := q_ip c27 h
    refine lv_aload_n hx hb dX4_takeGreater_178 rfl (lv_at hl 0 rfl) ?_
    refine q_getr (own := RX4) (C := RX4) (T := TX4) (N := 8) (ci := 4) (j := 0)  (b := 95) hx hb hts i4 hown F S q_k4 (by decide) rfl (by decide) (by decide) rfl (by decide) (hts (.fieldLink RX4 12 "HeavyRoutes$Rater" "raising" "LHeavyRoutes$Wide;") (by decide +kernel)) dX4_takeGreater_179 ?_
    refine lv_aload_n hx hb dX4_takeGreater_182 rfl (lv_at hl 0 rfl) ?_
    refine q_getr (own := RX4) (C := RX4) (T := TX4) (N := 8) (ci := 4) (j := 1)  (b := 96) hx hb hts i4 hown F S q_k4 (by decide) rfl (by decide) (by decide) rfl (by decide) (hts (.fieldLink RX4 18 "HeavyRoutes$Rater" "lowering" "LHeavyRoutes$Wide;") (by decide +kernel)) dX4_takeGreater_183 ?_
    obtain ⟨u28, μ28, hc29, h⟩ := q_bd_some h
    refine q_kv F S (q_runV (As := [.ref (E.2.2.2 96)]) (rest := []) (b := 95) ⟨hx, hb, hml, hown, hts⟩ F S (c_X8_subtract l E hE 95 96 q_k95 q_k96 μ24 μ28 u28 hc29) (cwV 1 hts gX4_takeGreater_X8_subtract rfl rfl rfl (by decide +kernel) ⟨Nat.le_of_ble_eq_true rfl, Nat.le_of_ble_eq_true rfl⟩) q_k95 (by decide) rfl rfl hl.1 rfl (Nat.le_of_ble_eq_true rfl) dX4_takeGreater_186 ⟨Nat.zero_le _, Nat.zero_le _⟩) (fun H locs S => ?_)
    refine lv_aload_n hx hb dX4_takeGreater_189 rfl (lv_at hl 0 rfl) ?_
    refine q_getr (own := RX4) (C := RX4) (T := TX4) (N := 8) (ci := 4) (j := 0)  (b := 95) hx hb hts i4 hown F S q_k4 (by decide) rfl (by decide) (by decide) rfl (by decide) (hts (.fieldLink RX4 12 "HeavyRoutes$Rater" "raising" "LHeavyRoutes$Wide;") (by decide +kernel)) dX4_takeGreater_190 ?_
    refine lv_aload hx hb dX4_takeGreater_193 (lv_at hl 1 rfl) ?_
    obtain ⟨r32, μ30, hc31, h⟩ := q_bd_some h
    refine q_ki F S (q_runV (As := [.ref (E.2.2.2 x6)]) (rest := []) (b := 95) ⟨hx, hb, hml, hown, hts⟩ F S (c_X8_compareWith l E hE 95 x6 q_k95 kx6 μ28 μ30 r32 hc31) (cwV 1 hts gX4_takeGreater_X8_compareWith rfl rfl rfl (by decide +kernel) ⟨Nat.le_of_ble_eq_true rfl, Nat.le_of_ble_eq_true rfl⟩) q_k95 (by decide) rfl rfl hl.1 rfl (Nat.le_of_ble_eq_true rfl) dX4_takeGreater_195 ⟨Nat.zero_le _, Nat.zero_le _⟩) (fun H locs S => ?_)
    refine lv_if_le (tgt := 210) hx hb dX4_takeGreater_198 (by decide) (fun c33 => ?_) (fun c33 => ?_)
    · have h := q_ip c33 h
      exact q_vret hx hb hr S h hlk dX4_takeGreater_210
    · have h := q_ig c33 h
      refine lv_aload hx hb dX4_takeGreater_201 (lv_at hl 1 rfl) ?_
      refine lv_aload_n hx hb dX4_takeGreater_203 rfl (lv_at hl 0 rfl) ?_
      refine q_getr (own := RX4) (C := RX4) (T := TX4) (N := 8) (ci := 4) (j := 0)  (b := 95) hx hb hts i4 hown F S q_k4 (by decide) rfl (by decide) (by decide) rfl (by decide) (hts (.fieldLink RX4 12 "HeavyRoutes$Rater" "raising" "LHeavyRoutes$Wide;") (by decide +kernel)) dX4_takeGreater_204 ?_
      obtain ⟨u34, μ34, hc35, h⟩ := q_bd_some h
      refine q_kv F S (q_runV (As := [.ref (E.2.2.2 95)]) (rest := []) (b := x6) ⟨hx, hb, hml, hown, hts⟩ F S (c_X8_copyFrom l E hE x6 95 kx6 q_k95 μ30 μ34 u34 hc35) (cwV 1 hts gX4_takeGreater_X8_copyFrom rfl rfl rfl (by decide +kernel) ⟨Nat.le_of_ble_eq_true rfl, Nat.le_of_ble_eq_true rfl⟩) kx6 (by decide) rfl rfl hl.1 rfl (Nat.le_of_ble_eq_true rfl) dX4_takeGreater_207 ⟨Nat.zero_le _, Nat.zero_le _⟩) (fun H locs S => ?_)
      exact q_vret hx hb hr S h hlk dX4_takeGreater_210
  · have h := q_ig c27 h
    exact q_vret hx hb hr S h hlk dX4_takeGreater_177
def L_X4_reduce_2 (x0 : Nat) (x1 : Nat) (x2 : Int32) (Kx : q_M → Option (Unit × q_M)) : Nat → Int32 → q_M → Option (Unit × q_M)
  | 0, _, _ => none
  | n + 1, v3, μ => (if x2 ≤ v3 then Kx μ else (if (Int32.ofNat (q_len x1)) ≤ v3 then Kx μ else q_gd (q_ix v3 (q_len x1)) (q_bd (f_X8_remainder (x0 + 7) (μ.2 x1 v3.toNatClampNeg) μ) (fun r6 μ4 => q_bd (f_X4_commonDivisor (μ.2 x1 v3.toNatClampNeg) r6 μ4) (fun r9 μ7 => q_bd (f_X8_divide (x0 + 7) r9 μ7) (fun u10 μ10 => q_bd (f_X4_quotient (μ10.2 x1 v3.toNatClampNeg) r9 μ10) (fun r14 μ12 => q_bd (f_X8_multiply (x0 + 14) r14 μ12) (fun u15 μ15 => q_le (v3 + 1 : Int32) (fun y17 => (L_X4_reduce_2 x0 x1 x2 Kx n) y17 μ15)))))))))
def f_X4_reduce (x0 : Nat) (x1 : Nat) (x2 : Int32) (μ : q_M) : Option (Unit × q_M) := L_X4_reduce_2 x0 x1 x2 (fun μ => some ((), μ)) q_fu 0 μ
set_option maxHeartbeats 4000000 in
set_option maxRecDepth 100000 in
theorem c_X4_reduce (l : Launch) (E : q_E) (hE : q_I E) (x0 : Nat) (x1 : Nat) (x2 : Int32) (kx0 : q_kd x0 = 5) (kx1 : q_kd x1 = 12) (μ μr : q_M) (r : Unit) (h : f_X4_reduce x0 x1 x2 μ = some (r, μr)) : Met l yX4_reduce wsX4_reduce ({ frames := 2, cells := 0, slots := 0, locals := 70 }) (q_Pc E μ [.ref (E.2.2.2 x0), .ref (E.2.2.2 x1), .int x2]) (q_Qv E r μr) 0 0 (q_A E) := by
  refine q_met (cc := cX4_reduce) (maxL := 6) (ret := none) hE (by decide) rfl (Nat.le_of_ble_eq_true rfl) ?_
  intro p e s m below meth c hx hb hr hml hown hts hlk F S ls hl
  have hl : lv_has ls 6 [(0, .ref (E.2.2.2 x0)), (1, .ref (E.2.2.2 x1)), (2, .int x2)] := hl
  have i5 : ∀ w ∈ u_ws RX5 TX5 2, w ∈ wsX4_reduce := by decide +kernel
  have hL2 : ∀ (Kx : q_M → Option (Unit × q_M)), (∀ (μ : q_M) (H : Heap) (locs : List Loc) (ls : Array Slot), q_S E (q_A E) s μ H locs → lv_has ls 6 [] → Kx μ = some (r, μr) → W p l e ({ frames := 2, cells := 0, slots := 0, locals := 70 }) s m ([.ref (E.2.2.2 x0), .ref (E.2.2.2 x1), .int x2] : List Value).toArray below meth c H locs 0 0 (MQ below (q_Qv E r μr) ([.ref (E.2.2.2 x0), .ref (E.2.2.2 x1), .int x2] : List Value).toArray s 0 0 (q_A E)) (F0 m 61 ls [])) → ∀ (n : Nat), ∀ (v3 : Int32), ∀ (μ : q_M) (H : Heap) (locs : List Loc) (ls : Array Slot), q_S E (q_A E) s μ H locs → lv_has ls 6 [(0, .ref (E.2.2.2 x0)), (1, .ref (E.2.2.2 x1)), (2, .int x2), (3, .int v3)] → L_X4_reduce_2 x0 x1 x2 Kx n v3 μ = some (r, μr) → W p l e ({ frames := 2, cells := 0, slots := 0, locals := 70 }) s m ([.ref (E.2.2.2 x0), .ref (E.2.2.2 x1), .int x2] : List Value).toArray below meth c H locs 0 0 (MQ below (q_Qv E r μr) ([.ref (E.2.2.2 x0), .ref (E.2.2.2 x1), .int x2] : List Value).toArray s 0 0 (q_A E)) (F0 m 2 ls []) := by
    intro Kx hKx n
    induction n with
    | zero => intro v3 μ H locs ls S hl h; exact absurd h (by simp [L_X4_reduce_2])
    | succ n ih =>
      intro v3 μ H locs ls S hl h
      rw [L_X4_reduce_2] at h
      refine lv_iload_n hx hb dX4_reduce_2 rfl (lv_at hl 3 rfl) ?_
      refine lv_iload_n hx hb dX4_reduce_3 rfl (lv_at hl 2 rfl) ?_
      refine lv_icmp_ge (tgt := 61) hx hb dX4_reduce_4 (by decide) (fun c1 => ?_) (fun c1 => ?_)
      · have h := q_ip c1 h
        exact hKx μ H locs ls S (lv_sub hl [] rfl) h
      · have h := q_ig c1 h
        refine lv_iload_n hx hb dX4_reduce_7 rfl (lv_at hl 3 rfl) ?_
        refine lv_aload_n hx hb dX4_reduce_8 rfl (lv_at hl 1 rfl) ?_
        refine q_alenL (v := (Int32.ofNat (q_len x1))) hx hb F S kx1 rfl rfl dX4_reduce_9 ?_
        refine lv_icmp_ge (tgt := 61) hx hb dX4_reduce_10 (by decide) (fun c2 => ?_) (fun c2 => ?_)
        · have h := q_ip c2 h
          exact hKx μ H locs ls S (lv_sub hl [] rfl) h
        · have h := q_ig c2 h
          refine lv_aload_n hx hb dX4_reduce_13 rfl (lv_at hl 1 rfl) ?_
          refine lv_iload_n hx hb dX4_reduce_14 rfl (lv_at hl 3 rfl) ?_
          obtain ⟨g3, h⟩ := q_gd_some h
          refine q_lald hx hb F S kx1 rfl g3 dX4_reduce_15 ?_
          refine lv_aload_n hx hb dX4_reduce_16 rfl (lv_at hl 0 rfl) ?_
          refine q_getrN (own := RX4) (C := RX5) (T := TX5) (N := 2) (ci := 5) (j := 0) (host := "HeavyRoutes") hx hb hts i5 hown F S kx0 (by decide) rfl (by decide) (by decide) rfl (q_p_5_0 kx0) (by decide +kernel) dX4_reduce_17 ?_
          refine lv_aload_n hx hb dX4_reduce_20 rfl (lv_at hl 1 rfl) ?_
          refine lv_iload_n hx hb dX4_reduce_21 rfl (lv_at hl 3 rfl) ?_
          refine q_lald hx hb F S kx1 rfl g3 dX4_reduce_22 ?_
          obtain ⟨r6, μ4, hc5, h⟩ := q_bd_some h
          refine q_kl F S (q_runV (As := [.long (μ.2 x1 v3.toNatClampNeg)]) (rest := [.long (μ.2 x1 v3.toNatClampNeg)]) (b := (x0 + 7)) ⟨hx, hb, hml, hown, hts⟩ F S (c_X8_remainder l E hE (x0 + 7) (μ.2 x1 v3.toNatClampNeg) (q_k_5_0 kx0) μ μ4 r6 hc5) (cwV 1 hts gX4_reduce_X8_remainder rfl rfl rfl (by decide +kernel) ⟨Nat.le_of_ble_eq_true rfl, Nat.le_of_ble_eq_true rfl⟩) (q_k_5_0 kx0) (by decide) rfl rfl hl.1 rfl (Nat.le_of_ble_eq_true rfl) dX4_reduce_23 ⟨Nat.zero_le _, Nat.zero_le _⟩) (fun H locs S => ?_)
          obtain ⟨r9, μ7, hc8, h⟩ := q_bd_some h
          refine q_kl F S (q_runS (As := [.long (μ.2 x1 v3.toNatClampNeg), .long r6]) (rest := []) ⟨hx, hb, hml, hown, hts⟩ F S (c_X4_commonDivisor l E hE (μ.2 x1 v3.toNatClampNeg) r6 μ4 μ7 r9 hc8) (va_cwS 2 hts gX4_reduce_X4_commonDivisor rfl rfl rfl (by decide +kernel) ⟨Nat.le_of_ble_eq_true rfl, Nat.le_of_ble_eq_true rfl⟩) rfl hl.1 rfl (Nat.le_of_ble_eq_true rfl) dX4_reduce_26 ⟨Nat.zero_le _, Nat.zero_le _⟩) (fun H locs S => ?_)
          refine lv_lstore (lv' := [(4, .long r9), (0, .ref (E.2.2.2 x0)), (1, .ref (E.2.2.2 x1)), (2, .int x2), (3, .int v3)]) hx hb dX4_reduce_29 hl (by decide) rfl (fun ls hl => ?_)
          refine lv_aload_n hx hb dX4_reduce_31 rfl (lv_at hl 1 rfl) ?_
          refine q_getrN (own := RX4) (C := RX5) (T := TX5) (N := 2) (ci := 5) (j := 0) (host := "HeavyRoutes") hx hb hts i5 hown F S kx0 (by decide) rfl (by decide) (by decide) rfl (q_p_5_0 kx0) (by decide +kernel) dX4_reduce_32 ?_
          refine lv_lload hx hb dX4_reduce_35 (lv_at hl 0 rfl) ?_
          obtain ⟨u10, μ10, hc11, h⟩ := q_bd_some h
          refine q_kv F S (q_runV (As := [.long r9]) (rest := []) (b := (x0 + 7)) ⟨hx, hb, hml, hown, hts⟩ F S (c_X8_divide l E hE (x0 + 7) r9 (q_k_5_0 kx0) μ7 μ10 u10 hc11) (cwV 1 hts gX4_reduce_X8_divide rfl rfl rfl (by decide +kernel) ⟨Nat.le_of_ble_eq_true rfl, Nat.le_of_ble_eq_true rfl⟩) (q_k_5_0 kx0) (by decide) rfl rfl hl.1 rfl (Nat.le_of_ble_eq_true rfl) dX4_reduce_37 ⟨Nat.zero_le _, Nat.zero_le _⟩) (fun H locs S => ?_)
          refine lv_aload_n hx hb dX4_reduce_40 rfl (lv_at hl 1 rfl) ?_
          refine q_getrN (own := RX4) (C := RX5) (T := TX5) (N := 2) (ci := 5) (j := 1) (host := "HeavyRoutes") hx hb hts i5 hown F S kx0 (by decide) rfl (by decide) (by decide) rfl (q_p_5_1 kx0) (by decide +kernel) dX4_reduce_41 ?_
          refine lv_aload_n hx hb dX4_reduce_44 rfl (lv_at hl 2 rfl) ?_
          refine lv_iload_n hx hb dX4_reduce_45 rfl (lv_at hl 4 rfl) ?_
          refine q_lald hx hb F S kx1 rfl g3 dX4_reduce_46 ?_
          refine lv_lload hx hb dX4_reduce_47 (lv_at hl 0 rfl) ?_
          obtain ⟨r14, μ12, hc13, h⟩ := q_bd_some h
          refine q_kl F S (q_runS (As := [.long (μ10.2 x1 v3.toNatClampNeg), .long r9]) (rest := [.ref (E.2.2.2 (x0 + 14))]) ⟨hx, hb, hml, hown, hts⟩ F S (c_X4_quotient l E hE (μ10.2 x1 v3.toNatClampNeg) r9 μ10 μ12 r14 hc13) (va_cwS 2 hts gX4_reduce_X4_quotient rfl rfl rfl (by decide +kernel) ⟨Nat.le_of_ble_eq_true rfl, Nat.le_of_ble_eq_true rfl⟩) rfl hl.1 rfl (Nat.le_of_ble_eq_true rfl) dX4_reduce_49 ⟨Nat.zero_le _, Nat.zero_le _⟩) (fun H locs S => ?_)
          obtain ⟨u15, μ15, hc16, h⟩ := q_bd_some h
          refine q_kv F S (q_runV (As := [.long r14]) (rest := []) (b := (x0 + 14)) ⟨hx, hb, hml, hown, hts⟩ F S (c_X8_multiply l E hE (x0 + 14) r14 (q_k_5_1 kx0) μ12 μ15 u15 hc16) (cwV 1 hts gX4_reduce_X8_multiply rfl rfl rfl (by decide +kernel) ⟨Nat.le_of_ble_eq_true rfl, Nat.le_of_ble_eq_true rfl⟩) (q_k_5_1 kx0) (by decide) rfl rfl hl.1 rfl (Nat.le_of_ble_eq_true rfl) dX4_reduce_52 ⟨Nat.zero_le _, Nat.zero_le _⟩) (fun H locs S => ?_)
          obtain ⟨y17, ey17⟩ : ∃ z : Int32, z = v3 + 1 := ⟨_, rfl⟩
          have h := q_le_e h ey17
          refine lv_iinc (v := y17) (lv' := [(3, .int y17), (4, .long r9), (0, .ref (E.2.2.2 x0)), (1, .ref (E.2.2.2 x1)), (2, .int x2)]) hx hb dX4_reduce_55 hl (k := 4) rfl (by rw [ey17]; rfl) (by decide) rfl (fun ls hl => ?_)
          refine lv_goto (tgt := 2) hx hb dX4_reduce_58 (by decide) ?_
          exact ih y17 μ15 H locs ls S (lv_sub hl [2, 3, 4, 0] rfl) h
  unfold f_X4_reduce at h
  obtain ⟨H, eH⟩ : ∃ z, z = s.heap := ⟨_, rfl⟩
  obtain ⟨locs, eL⟩ : ∃ z : List Loc, z = [] := ⟨_, rfl⟩
  rw [← eH, ← eL] at S
  suffices hh : W p l e ({ frames := 2, cells := 0, slots := 0, locals := 70 }) s m ([.ref (E.2.2.2 x0), .ref (E.2.2.2 x1), .int x2] : List Value).toArray below meth c H locs 0 0 (MQ below (q_Qv E r μr) ([.ref (E.2.2.2 x0), .ref (E.2.2.2 x1), .int x2] : List Value).toArray s 0 0 (q_A E)) (F0 m 0 ls []) by rw [eH, eL] at hh; exact hh
  refine lv_iconst (v := 0) hx hb dX4_reduce_0 (by decide) ?_
  refine lv_istore_n (lv' := [(3, .int 0), (0, .ref (E.2.2.2 x0)), (1, .ref (E.2.2.2 x1)), (2, .int x2)]) hx hb dX4_reduce_1 rfl hl (by decide) rfl (fun ls hl => ?_)
  refine hL2 _ (fun μ H locs ls S hl h => ?_) q_fu 0 μ H locs ls S (lv_sub hl [1, 2, 3, 0] rfl) h
  exact q_vret hx hb hr S h hlk dX4_reduce_61
def L_X4_rate_36 (x1 : Nat) (x3 : Nat) (Kx : Int32 → q_M → Option (Unit × q_M)) : Nat → Int32 → Int32 → q_M → Option (Unit × q_M)
  | 0, _, _, _ => none
  | n + 1, v4, v5, μ => (if (μ.1 x1 1) ≤ v5 then Kx v4 μ else q_gd (q_ix v5 6) (q_gd (q_ix v4 5) (q_bd (f_X4_takeGreater x1 ((μ.2 (x1 + 6) v5.toNatClampNeg) + (μ.2 9 v4.toNatClampNeg)) (-1) (x3 + 7) μ) (fun u11 μ11 => q_bd (f_X4_takeGreater x1 ((μ11.2 (x1 + 6) v5.toNatClampNeg) - (μ11.2 9 v4.toNatClampNeg)) 1 (x3 + 7) μ11) (fun u13 μ13 => q_le (v5 + 1 : Int32) (fun y15 => (L_X4_rate_36 x1 x3 Kx n) v4 y15 μ13))))))
def L_X4_rate_24 (x1 : Nat) (x3 : Nat) (Kx : q_M → Option (Unit × q_M)) : Nat → Int32 → q_M → Option (Unit × q_M)
  | 0, _, _ => none
  | n + 1, v4, μ => (if (μ.1 3 2) ≤ v4 then Kx μ else L_X4_rate_36 x1 x3 (fun v4 μ => q_le (v4 + 1 : Int32) (fun y16 => (L_X4_rate_24 x1 x3 Kx n) y16 μ)) q_fu v4 0 μ)
def f_X4_rate (x1 : Nat) (x3 : Nat) (μ : q_M) : Option (Unit × q_M) := q_bd (f_X8_setTo (x3 + 7) 0 μ) (fun u1 μ1 => q_bd (f_X8_setTo (x3 + 14) 1 μ1) (fun u3 μ3 => q_bd (f_X4_findScales x1 μ3) (fun u5 μ5 => L_X4_rate_24 x1 x3 (fun μ => q_bd (f_X4_reduce x3 12 (μ.1 x1 1) μ) (fun u17 μ17 => q_bd (f_X4_reduce x3 13 (μ17.1 x1 1) μ17) (fun u19 μ19 => some ((), μ19)))) q_fu 0 μ5)))
set_option maxHeartbeats 4000000 in
set_option maxRecDepth 100000 in
theorem c_X4_rate (l : Launch) (E : q_E) (hE : q_I E) (x1 : Nat) (x3 : Nat) (kx1 : q_kd x1 = 0) (kx3 : q_kd x3 = 5) (μ μr : q_M) (r : Unit) (h : f_X4_rate x1 x3 μ = some (r, μr)) : Met l yX4_rate wsX4_rate ({ frames := 3, cells := 0, slots := 0, locals := 95 }) (q_Pc E μ [.ref (E.2.2.2 4), .ref (E.2.2.2 x1), .ref (E.2.2.2 3), .ref (E.2.2.2 x3)]) (q_Qv E r μr) 0 0 (q_A E) := by
  refine q_met (cc := cX4_rate) (maxL := 6) (ret := none) hE (by decide) rfl (Nat.le_of_ble_eq_true rfl) ?_
  intro p e s m below meth c hx hb hr hml hown hts hlk F S ls hl
  have hl : lv_has ls 6 [(0, .ref (E.2.2.2 4)), (1, .ref (E.2.2.2 x1)), (2, .ref (E.2.2.2 3)), (3, .ref (E.2.2.2 x3))] := hl
  have i0 : ∀ w ∈ u_ws RX0 TX0 8, w ∈ wsX4_rate := by decide +kernel
  have i2 : ∀ w ∈ u_ws RX2 TX2 5, w ∈ wsX4_rate := by decide +kernel
  have i4 : ∀ w ∈ u_ws RX4 TX4 8, w ∈ wsX4_rate := by decide +kernel
  have i5 : ∀ w ∈ u_ws RX5 TX5 2, w ∈ wsX4_rate := by decide +kernel
  have hL36 : ∀ (Kx : Int32 → q_M → Option (Unit × q_M)), (∀ (v4 : Int32), ∀ (μ : q_M) (H : Heap) (locs : List Loc) (ls : Array Slot), q_S E (q_A E) s μ H locs → lv_has ls 6 [(0, .ref (E.2.2.2 4)), (1, .ref (E.2.2.2 x1)), (2, .ref (E.2.2.2 3)), (3, .ref (E.2.2.2 x3)), (4, .int v4)] → Kx v4 μ = some (r, μr) → W p l e ({ frames := 3, cells := 0, slots := 0, locals := 95 }) s m ([.ref (E.2.2.2 4), .ref (E.2.2.2 x1), .ref (E.2.2.2 3), .ref (E.2.2.2 x3)] : List Value).toArray below meth c H locs 0 0 (MQ below (q_Qv E r μr) ([.ref (E.2.2.2 4), .ref (E.2.2.2 x1), .ref (E.2.2.2 3), .ref (E.2.2.2 x3)] : List Value).toArray s 0 0 (q_A E)) (F0 m 103 ls [])) → ∀ (n : Nat), ∀ (v4 : Int32), ∀ (v5 : Int32), ∀ (μ : q_M) (H : Heap) (locs : List Loc) (ls : Array Slot), q_S E (q_A E) s μ H locs → lv_has ls 6 [(0, .ref (E.2.2.2 4)), (1, .ref (E.2.2.2 x1)), (2, .ref (E.2.2.2 3)), (3, .ref (E.2.2.2 x3)), (4, .int v4), (5, .int v5)] → L_X4_rate_36 x1 x3 Kx n v4 v5 μ = some (r, μr) → W p l e ({ frames := 3, cells := 0, slots := 0, locals := 95 }) s m ([.ref (E.2.2.2 4), .ref (E.2.2.2 x1), .ref (E.2.2.2 3), .ref (E.2.2.2 x3)] : List Value).toArray below meth c H locs 0 0 (MQ below (q_Qv E r μr) ([.ref (E.2.2.2 4), .ref (E.2.2.2 x1), .ref (E.2.2.2 3), .ref (E.2.2.2 x3)] : List Value).toArray s 0 0 (q_A E)) (F0 m 36 ls []) := by
    intro Kx hKx n
    induction n with
    | zero => intro v4 v5 μ H locs ls S hl h; exact absurd h (by simp [L_X4_rate_36])
    | succ n ih =>
      intro v4 v5 μ H locs ls S hl h
      rw [L_X4_rate_36] at h
      refine lv_iload hx hb dX4_rate_36 (lv_at hl 5 rfl) ?_
      refine lv_aload_n hx hb dX4_rate_38 rfl (lv_at hl 1 rfl) ?_
      refine q_getiN (own := RX4) (C := RX0) (T := TX0) (N := 8) (ci := 0) (j := 1) (host := "HeavyRoutes") hx hb hts i0 hown F S kx1 (by decide) rfl (by decide) (by decide) rfl (by decide +kernel) dX4_rate_39 ?_
      refine lv_icmp_ge (tgt := 103) hx hb dX4_rate_42 (by decide) (fun c8 => ?_) (fun c8 => ?_)
      · have h := q_ip c8 h
        exact hKx v4 μ H locs ls S (lv_sub hl [0, 1, 2, 3, 4] rfl) h
      · have h := q_ig c8 h
        refine lv_aload_n hx hb dX4_rate_45 rfl (lv_at hl 0 rfl) ?_
        refine lv_aload_n hx hb dX4_rate_46 rfl (lv_at hl 1 rfl) ?_
        refine lv_aload_n hx hb dX4_rate_47 rfl (lv_at hl 2 rfl) ?_
        refine lv_aload_n hx hb dX4_rate_48 rfl (lv_at hl 1 rfl) ?_
        refine q_getrN (own := RX4) (C := RX0) (T := TX0) (N := 8) (ci := 0) (j := 2) (host := "HeavyRoutes") hx hb hts i0 hown F S kx1 (by decide) rfl (by decide) (by decide) rfl (q_p_0_2 kx1) (by decide +kernel) dX4_rate_49 ?_
        refine lv_iload hx hb dX4_rate_52 (lv_at hl 5 rfl) ?_
        obtain ⟨g9, h⟩ := q_gd_some h
        refine q_lald hx hb F S (q_k_0_2 kx1) (q_n_0_2 kx1) g9 dX4_rate_54 ?_
        refine lv_aload_n hx hb dX4_rate_55 rfl (lv_at hl 2 rfl) ?_
        refine q_getrN (own := RX4) (C := RX2) (T := TX2) (N := 5) (ci := 2) (j := 3) (host := "HeavyRoutes") (b := 9) hx hb hts i2 hown F S q_k3 (by decide) rfl (by decide) (by decide) rfl (by decide) (by decide +kernel) dX4_rate_56 ?_
        refine lv_iload hx hb dX4_rate_59 (lv_at hl 4 rfl) ?_
        obtain ⟨g10, h⟩ := q_gd_some h
        refine q_lald hx hb F S q_k9 q_n9 g10 dX4_rate_61 ?_
        refine lv_ladd hx hb dX4_rate_62 ?_
        refine lv_iconst (v := (-1)) hx hb dX4_rate_63 (by decide) ?_
        refine lv_aload_n hx hb dX4_rate_64 rfl (lv_at hl 3 rfl) ?_
        refine q_getrN (own := RX4) (C := RX5) (T := TX5) (N := 2) (ci := 5) (j := 0) (host := "HeavyRoutes") hx hb hts i5 hown F S kx3 (by decide) rfl (by decide) (by decide) rfl (q_p_5_0 kx3) (by decide +kernel) dX4_rate_65 ?_
        obtain ⟨u11, μ11, hc12, h⟩ := q_bd_some h
        refine q_kv F S (q_runV (As := [.ref (E.2.2.2 x1), .ref (E.2.2.2 3), .long ((μ.2 (x1 + 6) v5.toNatClampNeg) + (μ.2 9 v4.toNatClampNeg)), .int (-1), .ref (E.2.2.2 (x3 + 7))]) (rest := []) (b := 4) ⟨hx, hb, hml, hown, hts⟩ F S (c_X4_takeGreater l E hE x1 ((μ.2 (x1 + 6) v5.toNatClampNeg) + (μ.2 9 v4.toNatClampNeg)) (-1) (x3 + 7) kx1 (q_k_5_0 kx3) μ μ11 u11 hc12) (cwV 5 hts gX4_rate_X4_takeGreater rfl rfl rfl (by decide +kernel) ⟨Nat.le_of_ble_eq_true rfl, Nat.le_of_ble_eq_true rfl⟩) q_k4 (by decide) rfl rfl hl.1 rfl (Nat.le_of_ble_eq_true rfl) dX4_rate_68 ⟨Nat.zero_le _, Nat.zero_le _⟩) (fun H locs S => ?_)
        refine lv_aload_n hx hb dX4_rate_71 rfl (lv_at hl 0 rfl) ?_
        refine lv_aload_n hx hb dX4_rate_72 rfl (lv_at hl 1 rfl) ?_
        refine lv_aload_n hx hb dX4_rate_73 rfl (lv_at hl 2 rfl) ?_
        refine lv_aload_n hx hb dX4_rate_74 rfl (lv_at hl 1 rfl) ?_
        refine q_getrN (own := RX4) (C := RX0) (T := TX0) (N := 8) (ci := 0) (j := 2) (host := "HeavyRoutes") hx hb hts i0 hown F S kx1 (by decide) rfl (by decide) (by decide) rfl (q_p_0_2 kx1) (by decide +kernel) dX4_rate_75 ?_
        refine lv_iload hx hb dX4_rate_78 (lv_at hl 5 rfl) ?_
        refine q_lald hx hb F S (q_k_0_2 kx1) (q_n_0_2 kx1) g9 dX4_rate_80 ?_
        refine lv_aload_n hx hb dX4_rate_81 rfl (lv_at hl 2 rfl) ?_
        refine q_getrN (own := RX4) (C := RX2) (T := TX2) (N := 5) (ci := 2) (j := 3) (host := "HeavyRoutes") (b := 9) hx hb hts i2 hown F S q_k3 (by decide) rfl (by decide) (by decide) rfl (by decide) (by decide +kernel) dX4_rate_82 ?_
        refine lv_iload hx hb dX4_rate_85 (lv_at hl 4 rfl) ?_
        refine q_lald hx hb F S q_k9 q_n9 g10 dX4_rate_87 ?_
        refine lv_lsub hx hb dX4_rate_88 ?_
        refine lv_iconst (v := 1) hx hb dX4_rate_89 (by decide) ?_
        refine lv_aload_n hx hb dX4_rate_90 rfl (lv_at hl 3 rfl) ?_
        refine q_getrN (own := RX4) (C := RX5) (T := TX5) (N := 2) (ci := 5) (j := 0) (host := "HeavyRoutes") hx hb hts i5 hown F S kx3 (by decide) rfl (by decide) (by decide) rfl (q_p_5_0 kx3) (by decide +kernel) dX4_rate_91 ?_
        obtain ⟨u13, μ13, hc14, h⟩ := q_bd_some h
        refine q_kv F S (q_runV (As := [.ref (E.2.2.2 x1), .ref (E.2.2.2 3), .long ((μ11.2 (x1 + 6) v5.toNatClampNeg) - (μ11.2 9 v4.toNatClampNeg)), .int 1, .ref (E.2.2.2 (x3 + 7))]) (rest := []) (b := 4) ⟨hx, hb, hml, hown, hts⟩ F S (c_X4_takeGreater l E hE x1 ((μ11.2 (x1 + 6) v5.toNatClampNeg) - (μ11.2 9 v4.toNatClampNeg)) 1 (x3 + 7) kx1 (q_k_5_0 kx3) μ11 μ13 u13 hc14) (cwV 5 hts gX4_rate_X4_takeGreater rfl rfl rfl (by decide +kernel) ⟨Nat.le_of_ble_eq_true rfl, Nat.le_of_ble_eq_true rfl⟩) q_k4 (by decide) rfl rfl hl.1 rfl (Nat.le_of_ble_eq_true rfl) dX4_rate_94 ⟨Nat.zero_le _, Nat.zero_le _⟩) (fun H locs S => ?_)
        obtain ⟨y15, ey15⟩ : ∃ z : Int32, z = v5 + 1 := ⟨_, rfl⟩
        have h := q_le_e h ey15
        refine lv_iinc (v := y15) (lv' := [(5, .int y15), (0, .ref (E.2.2.2 4)), (1, .ref (E.2.2.2 x1)), (2, .ref (E.2.2.2 3)), (3, .ref (E.2.2.2 x3)), (4, .int v4)]) hx hb dX4_rate_97 hl (k := 5) rfl (by rw [ey15]; rfl) (by decide) rfl (fun ls hl => ?_)
        refine lv_goto (tgt := 36) hx hb dX4_rate_100 (by decide) ?_
        exact ih v4 y15 μ13 H locs ls S (lv_sub hl [1, 2, 3, 4, 5, 0] rfl) h
  have hL24 : ∀ (Kx : q_M → Option (Unit × q_M)), (∀ (μ : q_M) (H : Heap) (locs : List Loc) (ls : Array Slot), q_S E (q_A E) s μ H locs → lv_has ls 6 [(0, .ref (E.2.2.2 4)), (1, .ref (E.2.2.2 x1)), (3, .ref (E.2.2.2 x3))] → Kx μ = some (r, μr) → W p l e ({ frames := 3, cells := 0, slots := 0, locals := 95 }) s m ([.ref (E.2.2.2 4), .ref (E.2.2.2 x1), .ref (E.2.2.2 3), .ref (E.2.2.2 x3)] : List Value).toArray below meth c H locs 0 0 (MQ below (q_Qv E r μr) ([.ref (E.2.2.2 4), .ref (E.2.2.2 x1), .ref (E.2.2.2 3), .ref (E.2.2.2 x3)] : List Value).toArray s 0 0 (q_A E)) (F0 m 109 ls [])) → ∀ (n : Nat), ∀ (v4 : Int32), ∀ (μ : q_M) (H : Heap) (locs : List Loc) (ls : Array Slot), q_S E (q_A E) s μ H locs → lv_has ls 6 [(0, .ref (E.2.2.2 4)), (1, .ref (E.2.2.2 x1)), (2, .ref (E.2.2.2 3)), (3, .ref (E.2.2.2 x3)), (4, .int v4)] → L_X4_rate_24 x1 x3 Kx n v4 μ = some (r, μr) → W p l e ({ frames := 3, cells := 0, slots := 0, locals := 95 }) s m ([.ref (E.2.2.2 4), .ref (E.2.2.2 x1), .ref (E.2.2.2 3), .ref (E.2.2.2 x3)] : List Value).toArray below meth c H locs 0 0 (MQ below (q_Qv E r μr) ([.ref (E.2.2.2 4), .ref (E.2.2.2 x1), .ref (E.2.2.2 3), .ref (E.2.2.2 x3)] : List Value).toArray s 0 0 (q_A E)) (F0 m 24 ls []) := by
    intro Kx hKx n
    induction n with
    | zero => intro v4 μ H locs ls S hl h; exact absurd h (by simp [L_X4_rate_24])
    | succ n ih =>
      intro v4 μ H locs ls S hl h
      rw [L_X4_rate_24] at h
      refine lv_iload hx hb dX4_rate_24 (lv_at hl 4 rfl) ?_
      refine lv_aload_n hx hb dX4_rate_26 rfl (lv_at hl 2 rfl) ?_
      refine q_getiN (own := RX4) (C := RX2) (T := TX2) (N := 5) (ci := 2) (j := 2) (host := "HeavyRoutes") hx hb hts i2 hown F S q_k3 (by decide) rfl (by decide) (by decide) rfl (by decide +kernel) dX4_rate_27 ?_
      refine lv_icmp_ge (tgt := 109) hx hb dX4_rate_30 (by decide) (fun c7 => ?_) (fun c7 => ?_)
      · have h := q_ip c7 h
        exact hKx μ H locs ls S (lv_sub hl [0, 1, 3] rfl) h
      · have h := q_ig c7 h
        refine lv_iconst (v := 0) hx hb dX4_rate_33 (by decide) ?_
        refine lv_istore (lv' := [(5, .int 0), (0, .ref (E.2.2.2 4)), (1, .ref (E.2.2.2 x1)), (2, .ref (E.2.2.2 3)), (3, .ref (E.2.2.2 x3)), (4, .int v4)]) hx hb dX4_rate_34 hl (by decide) rfl (fun ls hl => ?_)
        refine hL36 _ (fun v4 μ H locs ls S hl h => ?_) q_fu v4 0 μ H locs ls S (lv_sub hl [1, 2, 3, 4, 5, 0] rfl) h
        obtain ⟨y16, ey16⟩ : ∃ z : Int32, z = v4 + 1 := ⟨_, rfl⟩
        have h := q_le_e h ey16
        refine lv_iinc (v := y16) (lv' := [(4, .int y16), (0, .ref (E.2.2.2 4)), (1, .ref (E.2.2.2 x1)), (2, .ref (E.2.2.2 3)), (3, .ref (E.2.2.2 x3))]) hx hb dX4_rate_103 hl (k := 4) rfl (by rw [ey16]; rfl) (by decide) rfl (fun ls hl => ?_)
        refine lv_goto (tgt := 24) hx hb dX4_rate_106 (by decide) ?_
        exact ih y16 μ H locs ls S (lv_sub hl [1, 2, 3, 4, 0] rfl) h
  unfold f_X4_rate at h
  obtain ⟨H, eH⟩ : ∃ z, z = s.heap := ⟨_, rfl⟩
  obtain ⟨locs, eL⟩ : ∃ z : List Loc, z = [] := ⟨_, rfl⟩
  rw [← eH, ← eL] at S
  suffices hh : W p l e ({ frames := 3, cells := 0, slots := 0, locals := 95 }) s m ([.ref (E.2.2.2 4), .ref (E.2.2.2 x1), .ref (E.2.2.2 3), .ref (E.2.2.2 x3)] : List Value).toArray below meth c H locs 0 0 (MQ below (q_Qv E r μr) ([.ref (E.2.2.2 4), .ref (E.2.2.2 x1), .ref (E.2.2.2 3), .ref (E.2.2.2 x3)] : List Value).toArray s 0 0 (q_A E)) (F0 m 0 ls []) by rw [eH, eL] at hh; exact hh
  refine lv_aload_n hx hb dX4_rate_0 rfl (lv_at hl 3 rfl) ?_
  refine q_getrN (own := RX4) (C := RX5) (T := TX5) (N := 2) (ci := 5) (j := 0) (host := "HeavyRoutes") hx hb hts i5 hown F S kx3 (by decide) rfl (by decide) (by decide) rfl (q_p_5_0 kx3) (by decide +kernel) dX4_rate_1 ?_
  refine lv_lconst (v := 0) hx hb dX4_rate_4 (by decide) ?_
  obtain ⟨u1, μ1, hc2, h⟩ := q_bd_some h
  refine q_kv F S (q_runV (As := [.long 0]) (rest := []) (b := (x3 + 7)) ⟨hx, hb, hml, hown, hts⟩ F S (c_X8_setTo l E hE (x3 + 7) 0 (q_k_5_0 kx3) μ μ1 u1 hc2) (cwV 1 hts gX4_rate_X8_setTo rfl rfl rfl (by decide +kernel) ⟨Nat.le_of_ble_eq_true rfl, Nat.le_of_ble_eq_true rfl⟩) (q_k_5_0 kx3) (by decide) rfl rfl hl.1 rfl (Nat.le_of_ble_eq_true rfl) dX4_rate_5 ⟨Nat.zero_le _, Nat.zero_le _⟩) (fun H locs S => ?_)
  refine lv_aload_n hx hb dX4_rate_8 rfl (lv_at hl 3 rfl) ?_
  refine q_getrN (own := RX4) (C := RX5) (T := TX5) (N := 2) (ci := 5) (j := 1) (host := "HeavyRoutes") hx hb hts i5 hown F S kx3 (by decide) rfl (by decide) (by decide) rfl (q_p_5_1 kx3) (by decide +kernel) dX4_rate_9 ?_
  refine lv_lconst (v := 1) hx hb dX4_rate_12 (by decide) ?_
  obtain ⟨u3, μ3, hc4, h⟩ := q_bd_some h
  refine q_kv F S (q_runV (As := [.long 1]) (rest := []) (b := (x3 + 14)) ⟨hx, hb, hml, hown, hts⟩ F S (c_X8_setTo l E hE (x3 + 14) 1 (q_k_5_1 kx3) μ1 μ3 u3 hc4) (cwV 1 hts gX4_rate_X8_setTo rfl rfl rfl (by decide +kernel) ⟨Nat.le_of_ble_eq_true rfl, Nat.le_of_ble_eq_true rfl⟩) (q_k_5_1 kx3) (by decide) rfl rfl hl.1 rfl (Nat.le_of_ble_eq_true rfl) dX4_rate_13 ⟨Nat.zero_le _, Nat.zero_le _⟩) (fun H locs S => ?_)
  refine lv_aload_n hx hb dX4_rate_16 rfl (lv_at hl 0 rfl) ?_
  refine lv_aload_n hx hb dX4_rate_17 rfl (lv_at hl 1 rfl) ?_
  obtain ⟨u5, μ5, hc6, h⟩ := q_bd_some h
  refine q_kv F S (q_runV (As := [.ref (E.2.2.2 x1)]) (rest := []) (b := 4) ⟨hx, hb, hml, hown, hts⟩ F S (c_X4_findScales l E hE x1 kx1 μ3 μ5 u5 hc6) (cwV 1 hts gX4_rate_X4_findScales rfl rfl rfl (by decide +kernel) ⟨Nat.le_of_ble_eq_true rfl, Nat.le_of_ble_eq_true rfl⟩) q_k4 (by decide) rfl rfl hl.1 rfl (Nat.le_of_ble_eq_true rfl) dX4_rate_18 ⟨Nat.zero_le _, Nat.zero_le _⟩) (fun H locs S => ?_)
  refine lv_iconst (v := 0) hx hb dX4_rate_21 (by decide) ?_
  refine lv_istore (lv' := [(4, .int 0), (0, .ref (E.2.2.2 4)), (1, .ref (E.2.2.2 x1)), (2, .ref (E.2.2.2 3)), (3, .ref (E.2.2.2 x3))]) hx hb dX4_rate_22 hl (by decide) rfl (fun ls hl => ?_)
  refine hL24 _ (fun μ H locs ls S hl h => ?_) q_fu 0 μ5 H locs ls S (lv_sub hl [1, 2, 3, 4, 0] rfl) h
  refine lv_aload_n hx hb dX4_rate_109 rfl (lv_at hl 2 rfl) ?_
  refine lv_aload_n hx hb dX4_rate_110 rfl (lv_at hl 0 rfl) ?_
  refine q_getr (own := RX4) (C := RX4) (T := TX4) (N := 8) (ci := 4) (j := 4)  (b := 12) hx hb hts i4 hown F S q_k4 (by decide) rfl (by decide) (by decide) rfl (by decide) (hts (.fieldLink RX4 32 "HeavyRoutes$Rater" "valueFactors" "[J") (by decide +kernel)) dX4_rate_111 ?_
  refine lv_aload_n hx hb dX4_rate_114 rfl (lv_at hl 1 rfl) ?_
  refine q_getiN (own := RX4) (C := RX0) (T := TX0) (N := 8) (ci := 0) (j := 1) (host := "HeavyRoutes") hx hb hts i0 hown F S kx1 (by decide) rfl (by decide) (by decide) rfl (by decide +kernel) dX4_rate_115 ?_
  obtain ⟨u17, μ17, hc18, h⟩ := q_bd_some h
  refine q_kv F S (q_runS (As := [.ref (E.2.2.2 x3), .ref (E.2.2.2 12), .int (μ.1 x1 1)]) (rest := []) ⟨hx, hb, hml, hown, hts⟩ F S (c_X4_reduce l E hE x3 12 (μ.1 x1 1) kx3 q_k12 μ μ17 u17 hc18) (va_cwS 3 hts gX4_rate_X4_reduce rfl rfl rfl (by decide +kernel) ⟨Nat.le_of_ble_eq_true rfl, Nat.le_of_ble_eq_true rfl⟩) rfl hl.1 rfl (Nat.le_of_ble_eq_true rfl) dX4_rate_118 ⟨Nat.zero_le _, Nat.zero_le _⟩) (fun H locs S => ?_)
  refine lv_aload_n hx hb dX4_rate_121 rfl (lv_at hl 2 rfl) ?_
  refine lv_aload_n hx hb dX4_rate_122 rfl (lv_at hl 0 rfl) ?_
  refine q_getr (own := RX4) (C := RX4) (T := TX4) (N := 8) (ci := 4) (j := 5)  (b := 13) hx hb hts i4 hown F S q_k4 (by decide) rfl (by decide) (by decide) rfl (by decide) (hts (.fieldLink RX4 35 "HeavyRoutes$Rater" "gapFactors" "[J") (by decide +kernel)) dX4_rate_123 ?_
  refine lv_aload_n hx hb dX4_rate_126 rfl (lv_at hl 1 rfl) ?_
  refine q_getiN (own := RX4) (C := RX0) (T := TX0) (N := 8) (ci := 0) (j := 1) (host := "HeavyRoutes") hx hb hts i0 hown F S kx1 (by decide) rfl (by decide) (by decide) rfl (by decide +kernel) dX4_rate_127 ?_
  obtain ⟨u19, μ19, hc20, h⟩ := q_bd_some h
  refine q_kv F S (q_runS (As := [.ref (E.2.2.2 x3), .ref (E.2.2.2 13), .int (μ17.1 x1 1)]) (rest := []) ⟨hx, hb, hml, hown, hts⟩ F S (c_X4_reduce l E hE x3 13 (μ17.1 x1 1) kx3 q_k13 μ17 μ19 u19 hc20) (va_cwS 3 hts gX4_rate_X4_reduce rfl rfl rfl (by decide +kernel) ⟨Nat.le_of_ble_eq_true rfl, Nat.le_of_ble_eq_true rfl⟩) rfl hl.1 rfl (Nat.le_of_ble_eq_true rfl) dX4_rate_130 ⟨Nat.zero_le _, Nat.zero_le _⟩) (fun H locs S => ?_)
  exact q_vret hx hb hr S h hlk dX4_rate_133
def f_X4_isAbove (x1 : Nat) (x2 : Int64) (x4 : Int64) (μ : q_M) : Option (Int32 × q_M) := q_bd (f_X8_copyFrom 95 (x1 + 7) μ) (fun u1 μ1 => q_bd (f_X8_multiply 95 x4 μ1) (fun u3 μ3 => q_bd (f_X8_copyFrom 96 (x1 + 14) μ3) (fun u5 μ5 => q_bd (f_X8_multiply 96 x2 μ5) (fun u7 μ7 => q_bd (f_X8_compareWith 95 96 μ7) (fun r11 μ9 => (if r11 ≤ 0 then some (0, μ9) else some (1, μ9)))))))
set_option maxHeartbeats 4000000 in
set_option maxRecDepth 100000 in
theorem c_X4_isAbove (l : Launch) (E : q_E) (hE : q_I E) (x1 : Nat) (x2 : Int64) (x4 : Int64) (kx1 : q_kd x1 = 5) (μ μr : q_M) (r : Int32) (h : f_X4_isAbove x1 x2 x4 μ = some (r, μr)) : Met l yX4_isAbove wsX4_isAbove ({ frames := 1, cells := 0, slots := 0, locals := 27 }) (q_Pc E μ [.ref (E.2.2.2 4), .ref (E.2.2.2 x1), .long x2, .long x4]) (q_Qi E r μr) 0 0 (q_A E) := by
  refine q_met (cc := cX4_isAbove) (maxL := 6) (ret := (some .boolean)) hE (by decide) rfl (Nat.le_of_ble_eq_true rfl) ?_
  intro p e s m below meth c hx hb hr hml hown hts hlk F S ls hl
  have hl : lv_has ls 6 [(0, .ref (E.2.2.2 4)), (1, .ref (E.2.2.2 x1)), (2, .long x2), (4, .long x4)] := hl
  have i4 : ∀ w ∈ u_ws RX4 TX4 8, w ∈ wsX4_isAbove := by decide +kernel
  have i5 : ∀ w ∈ u_ws RX5 TX5 2, w ∈ wsX4_isAbove := by decide +kernel
  unfold f_X4_isAbove at h
  obtain ⟨H, eH⟩ : ∃ z, z = s.heap := ⟨_, rfl⟩
  obtain ⟨locs, eL⟩ : ∃ z : List Loc, z = [] := ⟨_, rfl⟩
  rw [← eH, ← eL] at S
  suffices hh : W p l e ({ frames := 1, cells := 0, slots := 0, locals := 27 }) s m ([.ref (E.2.2.2 4), .ref (E.2.2.2 x1), .long x2, .long x4] : List Value).toArray below meth c H locs 0 0 (MQ below (q_Qi E r μr) ([.ref (E.2.2.2 4), .ref (E.2.2.2 x1), .long x2, .long x4] : List Value).toArray s 0 0 (q_A E)) (F0 m 0 ls []) by rw [eH, eL] at hh; exact hh
  refine lv_aload_n hx hb dX4_isAbove_0 rfl (lv_at hl 0 rfl) ?_
  refine q_getr (own := RX4) (C := RX4) (T := TX4) (N := 8) (ci := 4) (j := 0)  (b := 95) hx hb hts i4 hown F S q_k4 (by decide) rfl (by decide) (by decide) rfl (by decide) (hts (.fieldLink RX4 12 "HeavyRoutes$Rater" "raising" "LHeavyRoutes$Wide;") (by decide +kernel)) dX4_isAbove_1 ?_
  refine lv_aload_n hx hb dX4_isAbove_4 rfl (lv_at hl 1 rfl) ?_
  refine q_getrN (own := RX4) (C := RX5) (T := TX5) (N := 2) (ci := 5) (j := 0) (host := "HeavyRoutes") hx hb hts i5 hown F S kx1 (by decide) rfl (by decide) (by decide) rfl (q_p_5_0 kx1) (by decide +kernel) dX4_isAbove_5 ?_
  obtain ⟨u1, μ1, hc2, h⟩ := q_bd_some h
  refine q_kv F S (q_runV (As := [.ref (E.2.2.2 (x1 + 7))]) (rest := []) (b := 95) ⟨hx, hb, hml, hown, hts⟩ F S (c_X8_copyFrom l E hE 95 (x1 + 7) q_k95 (q_k_5_0 kx1) μ μ1 u1 hc2) (cwV 1 hts gX4_isAbove_X8_copyFrom rfl rfl rfl (by decide +kernel) ⟨Nat.le_of_ble_eq_true rfl, Nat.le_of_ble_eq_true rfl⟩) q_k95 (by decide) rfl rfl hl.1 rfl (Nat.le_of_ble_eq_true rfl) dX4_isAbove_8 ⟨Nat.zero_le _, Nat.zero_le _⟩) (fun H locs S => ?_)
  refine lv_aload_n hx hb dX4_isAbove_11 rfl (lv_at hl 0 rfl) ?_
  refine q_getr (own := RX4) (C := RX4) (T := TX4) (N := 8) (ci := 4) (j := 0)  (b := 95) hx hb hts i4 hown F S q_k4 (by decide) rfl (by decide) (by decide) rfl (by decide) (hts (.fieldLink RX4 12 "HeavyRoutes$Rater" "raising" "LHeavyRoutes$Wide;") (by decide +kernel)) dX4_isAbove_12 ?_
  refine lv_lload hx hb dX4_isAbove_15 (lv_at hl 3 rfl) ?_
  obtain ⟨u3, μ3, hc4, h⟩ := q_bd_some h
  refine q_kv F S (q_runV (As := [.long x4]) (rest := []) (b := 95) ⟨hx, hb, hml, hown, hts⟩ F S (c_X8_multiply l E hE 95 x4 q_k95 μ1 μ3 u3 hc4) (cwV 1 hts gX4_isAbove_X8_multiply rfl rfl rfl (by decide +kernel) ⟨Nat.le_of_ble_eq_true rfl, Nat.le_of_ble_eq_true rfl⟩) q_k95 (by decide) rfl rfl hl.1 rfl (Nat.le_of_ble_eq_true rfl) dX4_isAbove_17 ⟨Nat.zero_le _, Nat.zero_le _⟩) (fun H locs S => ?_)
  refine lv_aload_n hx hb dX4_isAbove_20 rfl (lv_at hl 0 rfl) ?_
  refine q_getr (own := RX4) (C := RX4) (T := TX4) (N := 8) (ci := 4) (j := 1)  (b := 96) hx hb hts i4 hown F S q_k4 (by decide) rfl (by decide) (by decide) rfl (by decide) (hts (.fieldLink RX4 18 "HeavyRoutes$Rater" "lowering" "LHeavyRoutes$Wide;") (by decide +kernel)) dX4_isAbove_21 ?_
  refine lv_aload_n hx hb dX4_isAbove_24 rfl (lv_at hl 1 rfl) ?_
  refine q_getrN (own := RX4) (C := RX5) (T := TX5) (N := 2) (ci := 5) (j := 1) (host := "HeavyRoutes") hx hb hts i5 hown F S kx1 (by decide) rfl (by decide) (by decide) rfl (q_p_5_1 kx1) (by decide +kernel) dX4_isAbove_25 ?_
  obtain ⟨u5, μ5, hc6, h⟩ := q_bd_some h
  refine q_kv F S (q_runV (As := [.ref (E.2.2.2 (x1 + 14))]) (rest := []) (b := 96) ⟨hx, hb, hml, hown, hts⟩ F S (c_X8_copyFrom l E hE 96 (x1 + 14) q_k96 (q_k_5_1 kx1) μ3 μ5 u5 hc6) (cwV 1 hts gX4_isAbove_X8_copyFrom rfl rfl rfl (by decide +kernel) ⟨Nat.le_of_ble_eq_true rfl, Nat.le_of_ble_eq_true rfl⟩) q_k96 (by decide) rfl rfl hl.1 rfl (Nat.le_of_ble_eq_true rfl) dX4_isAbove_28 ⟨Nat.zero_le _, Nat.zero_le _⟩) (fun H locs S => ?_)
  refine lv_aload_n hx hb dX4_isAbove_31 rfl (lv_at hl 0 rfl) ?_
  refine q_getr (own := RX4) (C := RX4) (T := TX4) (N := 8) (ci := 4) (j := 1)  (b := 96) hx hb hts i4 hown F S q_k4 (by decide) rfl (by decide) (by decide) rfl (by decide) (hts (.fieldLink RX4 18 "HeavyRoutes$Rater" "lowering" "LHeavyRoutes$Wide;") (by decide +kernel)) dX4_isAbove_32 ?_
  refine lv_lload_n hx hb dX4_isAbove_35 rfl (lv_at hl 2 rfl) ?_
  obtain ⟨u7, μ7, hc8, h⟩ := q_bd_some h
  refine q_kv F S (q_runV (As := [.long x2]) (rest := []) (b := 96) ⟨hx, hb, hml, hown, hts⟩ F S (c_X8_multiply l E hE 96 x2 q_k96 μ5 μ7 u7 hc8) (cwV 1 hts gX4_isAbove_X8_multiply rfl rfl rfl (by decide +kernel) ⟨Nat.le_of_ble_eq_true rfl, Nat.le_of_ble_eq_true rfl⟩) q_k96 (by decide) rfl rfl hl.1 rfl (Nat.le_of_ble_eq_true rfl) dX4_isAbove_36 ⟨Nat.zero_le _, Nat.zero_le _⟩) (fun H locs S => ?_)
  refine lv_aload_n hx hb dX4_isAbove_39 rfl (lv_at hl 0 rfl) ?_
  refine q_getr (own := RX4) (C := RX4) (T := TX4) (N := 8) (ci := 4) (j := 0)  (b := 95) hx hb hts i4 hown F S q_k4 (by decide) rfl (by decide) (by decide) rfl (by decide) (hts (.fieldLink RX4 12 "HeavyRoutes$Rater" "raising" "LHeavyRoutes$Wide;") (by decide +kernel)) dX4_isAbove_40 ?_
  refine lv_aload_n hx hb dX4_isAbove_43 rfl (lv_at hl 0 rfl) ?_
  refine q_getr (own := RX4) (C := RX4) (T := TX4) (N := 8) (ci := 4) (j := 1)  (b := 96) hx hb hts i4 hown F S q_k4 (by decide) rfl (by decide) (by decide) rfl (by decide) (hts (.fieldLink RX4 18 "HeavyRoutes$Rater" "lowering" "LHeavyRoutes$Wide;") (by decide +kernel)) dX4_isAbove_44 ?_
  obtain ⟨r11, μ9, hc10, h⟩ := q_bd_some h
  refine q_ki F S (q_runV (As := [.ref (E.2.2.2 96)]) (rest := []) (b := 95) ⟨hx, hb, hml, hown, hts⟩ F S (c_X8_compareWith l E hE 95 96 q_k95 q_k96 μ7 μ9 r11 hc10) (cwV 1 hts gX4_isAbove_X8_compareWith rfl rfl rfl (by decide +kernel) ⟨Nat.le_of_ble_eq_true rfl, Nat.le_of_ble_eq_true rfl⟩) q_k95 (by decide) rfl rfl hl.1 rfl (Nat.le_of_ble_eq_true rfl) dX4_isAbove_47 ⟨Nat.zero_le _, Nat.zero_le _⟩) (fun H locs S => ?_)
  refine lv_if_le (tgt := 57) hx hb dX4_isAbove_50 (by decide) (fun c12 => ?_) (fun c12 => ?_)
  · have h := q_ip c12 h
    refine lv_iconst (v := 0) hx hb dX4_isAbove_57 (by decide) ?_
    exact q_zret hx hb hr S (by decide) h hlk dX4_isAbove_58
  · have h := q_ig c12 h
    refine lv_iconst (v := 1) hx hb dX4_isAbove_53 (by decide) ?_
    refine lv_goto (tgt := 58) hx hb dX4_isAbove_54 (by decide) ?_
    exact q_zret hx hb hr S (by decide) h hlk dX4_isAbove_58
def f_X4_isStillRight (x1 : Nat) (μ : q_M) : Option (Int32 × q_M) := q_bd (f_X4_rate x1 80 μ) (fun u1 μ1 => q_bd (f_X5_isSameAs 80 (x1 + 24) μ1) (fun r5 μ3 => q_gd (q_zb r5) (some (r5, μ3))))
set_option maxHeartbeats 4000000 in
set_option maxRecDepth 100000 in
theorem c_X4_isStillRight (l : Launch) (E : q_E) (hE : q_I E) (x1 : Nat) (kx1 : q_kd x1 = 0) (μ μr : q_M) (r : Int32) (h : f_X4_isStillRight x1 μ = some (r, μr)) : Met l yX4_isStillRight wsX4_isStillRight ({ frames := 4, cells := 0, slots := 0, locals := 120 }) (q_Pc E μ [.ref (E.2.2.2 4), .ref (E.2.2.2 x1), .ref (E.2.2.2 3)]) (q_Qi E r μr) 0 0 (q_A E) := by
  refine q_met (cc := cX4_isStillRight) (maxL := 3) (ret := (some .boolean)) hE (by decide) rfl (Nat.le_of_ble_eq_true rfl) ?_
  intro p e s m below meth c hx hb hr hml hown hts hlk F S ls hl
  have hl : lv_has ls 3 [(0, .ref (E.2.2.2 4)), (1, .ref (E.2.2.2 x1)), (2, .ref (E.2.2.2 3))] := hl
  have i0 : ∀ w ∈ u_ws RX0 TX0 8, w ∈ wsX4_isStillRight := by decide +kernel
  have i4 : ∀ w ∈ u_ws RX4 TX4 8, w ∈ wsX4_isStillRight := by decide +kernel
  unfold f_X4_isStillRight at h
  obtain ⟨H, eH⟩ : ∃ z, z = s.heap := ⟨_, rfl⟩
  obtain ⟨locs, eL⟩ : ∃ z : List Loc, z = [] := ⟨_, rfl⟩
  rw [← eH, ← eL] at S
  suffices hh : W p l e ({ frames := 4, cells := 0, slots := 0, locals := 120 }) s m ([.ref (E.2.2.2 4), .ref (E.2.2.2 x1), .ref (E.2.2.2 3)] : List Value).toArray below meth c H locs 0 0 (MQ below (q_Qi E r μr) ([.ref (E.2.2.2 4), .ref (E.2.2.2 x1), .ref (E.2.2.2 3)] : List Value).toArray s 0 0 (q_A E)) (F0 m 0 ls []) by rw [eH, eL] at hh; exact hh
  refine lv_aload_n hx hb dX4_isStillRight_0 rfl (lv_at hl 0 rfl) ?_
  refine lv_aload_n hx hb dX4_isStillRight_1 rfl (lv_at hl 1 rfl) ?_
  refine lv_aload_n hx hb dX4_isStillRight_2 rfl (lv_at hl 2 rfl) ?_
  refine lv_aload_n hx hb dX4_isStillRight_3 rfl (lv_at hl 0 rfl) ?_
  refine q_getr (own := RX4) (C := RX4) (T := TX4) (N := 8) (ci := 4) (j := 2)  (b := 80) hx hb hts i4 hown F S q_k4 (by decide) rfl (by decide) (by decide) rfl (by decide) (hts (.fieldLink RX4 24 "HeavyRoutes$Rater" "anew" "LHeavyRoutes$Rating;") (by decide +kernel)) dX4_isStillRight_4 ?_
  obtain ⟨u1, μ1, hc2, h⟩ := q_bd_some h
  refine q_kv F S (q_runV (As := [.ref (E.2.2.2 x1), .ref (E.2.2.2 3), .ref (E.2.2.2 80)]) (rest := []) (b := 4) ⟨hx, hb, hml, hown, hts⟩ F S (c_X4_rate l E hE x1 80 kx1 q_k80 μ μ1 u1 hc2) (cwV 3 hts gX4_isStillRight_X4_rate rfl rfl rfl (by decide +kernel) ⟨Nat.le_of_ble_eq_true rfl, Nat.le_of_ble_eq_true rfl⟩) q_k4 (by decide) rfl rfl hl.1 rfl (Nat.le_of_ble_eq_true rfl) dX4_isStillRight_7 ⟨Nat.zero_le _, Nat.zero_le _⟩) (fun H locs S => ?_)
  refine lv_aload_n hx hb dX4_isStillRight_10 rfl (lv_at hl 0 rfl) ?_
  refine q_getr (own := RX4) (C := RX4) (T := TX4) (N := 8) (ci := 4) (j := 2)  (b := 80) hx hb hts i4 hown F S q_k4 (by decide) rfl (by decide) (by decide) rfl (by decide) (hts (.fieldLink RX4 24 "HeavyRoutes$Rater" "anew" "LHeavyRoutes$Rating;") (by decide +kernel)) dX4_isStillRight_11 ?_
  refine lv_aload_n hx hb dX4_isStillRight_14 rfl (lv_at hl 1 rfl) ?_
  refine q_getrN (own := RX4) (C := RX0) (T := TX0) (N := 8) (ci := 0) (j := 5) (host := "HeavyRoutes") hx hb hts i0 hown F S kx1 (by decide) rfl (by decide) (by decide) rfl (q_p_0_5 kx1) (by decide +kernel) dX4_isStillRight_15 ?_
  obtain ⟨r5, μ3, hc4, h⟩ := q_bd_some h
  refine q_ki F S (q_runV (As := [.ref (E.2.2.2 (x1 + 24))]) (rest := []) (b := 80) ⟨hx, hb, hml, hown, hts⟩ F S (c_X5_isSameAs l E hE 80 (x1 + 24) q_k80 (q_k_0_5 kx1) μ1 μ3 r5 hc4) (cwV 1 hts gX4_isStillRight_X5_isSameAs rfl rfl rfl (by decide +kernel) ⟨Nat.le_of_ble_eq_true rfl, Nat.le_of_ble_eq_true rfl⟩) q_k80 (by decide) rfl rfl hl.1 rfl (Nat.le_of_ble_eq_true rfl) dX4_isStillRight_18 ⟨Nat.zero_le _, Nat.zero_le _⟩) (fun H locs S => ?_)
  obtain ⟨g6, h⟩ := q_gd_some h
  exact q_zret hx hb hr S g6 h hlk dX4_isStillRight_21
