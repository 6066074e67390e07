def L_X7_copyFrom_2 (x0 : Nat) (x1 : Nat) (Kx : q_M → Option (Unit × q_M)) : Nat → Int32 → q_M → Option (Unit × q_M)
  | 0, _, _ => none
  | n + 1, v2, μ => (if 6 ≤ v2 then Kx μ else q_gd (q_ix v2 6) (q_le (q_si μ (x0 + 8) v2.toNatClampNeg (μ.1 (x1 + 8) v2.toNatClampNeg)) (fun μ3 => q_le (q_si μ3 (x0 + 16) v2.toNatClampNeg (μ3.1 (x1 + 16) v2.toNatClampNeg)) (fun μ4 => q_le (v2 + 1 : Int32) (fun y5 => (L_X7_copyFrom_2 x0 x1 Kx n) y5 μ4)))))
def f_X7_copyFrom (x0 : Nat) (x1 : Nat) (μ : q_M) : Option (Unit × q_M) := L_X7_copyFrom_2 x0 x1 (fun μ => q_le (q_si μ x0 2 (μ.1 x1 2)) (fun μ6 => q_le (q_si μ6 x0 3 (μ6.1 x1 3)) (fun μ7 => q_le (q_si μ7 x0 4 (μ7.1 x1 4)) (fun μ8 => q_le (q_si μ8 x0 5 (μ8.1 x1 5)) (fun μ9 => some ((), μ9)))))) q_fu 0 μ
set_option maxHeartbeats 4000000 in
set_option maxRecDepth 100000 in
theorem c_X7_copyFrom (l : Launch) (E : q_E) (hE : q_I E) (x0 : Nat) (x1 : Nat) (kx0 : q_kd x0 = 7) (kx1 : q_kd x1 = 7) (μ μr : q_M) (r : Unit) (h : f_X7_copyFrom x0 x1 μ = some (r, μr)) : Met l yX7_copyFrom wsX7_copyFrom ({ frames := 0, cells := 0, slots := 0, locals := 0 }) (q_Pc E μ [.ref (E.2.2.2 x0), .ref (E.2.2.2 x1)]) (q_Qv E r μr) 0 0 (q_A E) := by
  refine q_met (cc := cX7_copyFrom) (maxL := 3) (ret := none) hE (by decide) rfl (Nat.le_of_ble_eq_true rfl) ?_
  intro p e s m below meth c hx hb hr hml hown hts hlk F S ls hl
  have hl : lv_has ls 3 [(0, .ref (E.2.2.2 x0)), (1, .ref (E.2.2.2 x1))] := hl
  have i7 : ∀ w ∈ u_ws RX7 TX7 6, w ∈ wsX7_copyFrom := by decide +kernel
  have hL2 : ∀ (Kx : q_M → Option (Unit × q_M)), (∀ (μ : q_M) (H : Heap) (locs : List Loc) (ls : Array Slot), q_S E (q_A E) s μ H locs → lv_has ls 3 [(0, .ref (E.2.2.2 x0)), (1, .ref (E.2.2.2 x1))] → Kx μ = some (r, μr) → W p l e ({ frames := 0, cells := 0, slots := 0, locals := 0 }) s m ([.ref (E.2.2.2 x0), .ref (E.2.2.2 x1)] : List Value).toArray below meth c H locs 0 0 (MQ below (q_Qv E r μr) ([.ref (E.2.2.2 x0), .ref (E.2.2.2 x1)] : List Value).toArray s 0 0 (q_A E)) (F0 m 38 ls [])) → ∀ (n : Nat), ∀ (v2 : Int32), ∀ (μ : q_M) (H : Heap) (locs : List Loc) (ls : Array Slot), q_S E (q_A E) s μ H locs → lv_has ls 3 [(0, .ref (E.2.2.2 x0)), (1, .ref (E.2.2.2 x1)), (2, .int v2)] → L_X7_copyFrom_2 x0 x1 Kx n v2 μ = some (r, μr) → W p l e ({ frames := 0, cells := 0, slots := 0, locals := 0 }) s m ([.ref (E.2.2.2 x0), .ref (E.2.2.2 x1)] : List Value).toArray below meth c H locs 0 0 (MQ below (q_Qv E r μr) ([.ref (E.2.2.2 x0), .ref (E.2.2.2 x1)] : List Value).toArray s 0 0 (q_A E)) (F0 m 2 ls []) := by
    intro Kx hKx n
    induction n with
    | zero => intro v2 μ H locs ls S hl h; exact absurd h (by simp [L_X7_copyFrom_2])
    | succ n ih =>
      intro v2 μ H locs ls S hl h
      rw [L_X7_copyFrom_2] at h
      refine lv_iload_n hx hb dX7_copyFrom_2 rfl (lv_at hl 2 rfl) ?_
      refine lv_bipush (v := 6) hx hb dX7_copyFrom_3 (by decide) ?_
      refine lv_icmp_ge (tgt := 38) hx hb dX7_copyFrom_5 (by decide) (fun c1 => ?_) (fun c1 => ?_)
      · have h := q_ip c1 h
        exact hKx μ H locs ls S (lv_sub hl [0, 1] rfl) h
      · have h := q_ig c1 h
        refine lv_aload_n hx hb dX7_copyFrom_8 rfl (lv_at hl 0 rfl) ?_
        refine q_getr (own := RX7) (C := RX7) (T := TX7) (N := 6) (ci := 7) (j := 0)  hx hb hts i7 hown F S kx0 (by decide) rfl (by decide) (by decide) rfl (q_p_7_0 kx0) (hts (.fieldLink RX7 9 "HeavyRoutes$Way" "roads" "[I") (by decide +kernel)) dX7_copyFrom_9 ?_
        refine lv_iload_n hx hb dX7_copyFrom_12 rfl (lv_at hl 2 rfl) ?_
        refine lv_aload_n hx hb dX7_copyFrom_13 rfl (lv_at hl 1 rfl) ?_
        refine q_getr (own := RX7) (C := RX7) (T := TX7) (N := 6) (ci := 7) (j := 0)  hx hb hts i7 hown F S kx1 (by decide) rfl (by decide) (by decide) rfl (q_p_7_0 kx1) (hts (.fieldLink RX7 9 "HeavyRoutes$Way" "roads" "[I") (by decide +kernel)) dX7_copyFrom_14 ?_
        refine lv_iload_n hx hb dX7_copyFrom_17 rfl (lv_at hl 2 rfl) ?_
        obtain ⟨g2, h⟩ := q_gd_some h
        refine q_iald hx hb F S (q_k_7_0 kx1) (q_n_7_0 kx1) g2 dX7_copyFrom_18 ?_
        refine q_iast hx hb F S (q_k_7_0 kx0) (q_n_7_0 kx0) g2 dX7_copyFrom_19 (fun H locs μ3 eμ3 S => ?_)
        have h := q_le_e h eμ3
        refine lv_aload_n hx hb dX7_copyFrom_20 rfl (lv_at hl 0 rfl) ?_
        refine q_getr (own := RX7) (C := RX7) (T := TX7) (N := 6) (ci := 7) (j := 1)  hx hb hts i7 hown F S kx0 (by decide) rfl (by decide) (by decide) rfl (q_p_7_1 kx0) (hts (.fieldLink RX7 15 "HeavyRoutes$Way" "starts" "[I") (by decide +kernel)) dX7_copyFrom_21 ?_
        refine lv_iload_n hx hb dX7_copyFrom_24 rfl (lv_at hl 2 rfl) ?_
        refine lv_aload_n hx hb dX7_copyFrom_25 rfl (lv_at hl 1 rfl) ?_
        refine q_getr (own := RX7) (C := RX7) (T := TX7) (N := 6) (ci := 7) (j := 1)  hx hb hts i7 hown F S kx1 (by decide) rfl (by decide) (by decide) rfl (q_p_7_1 kx1) (hts (.fieldLink RX7 15 "HeavyRoutes$Way" "starts" "[I") (by decide +kernel)) dX7_copyFrom_26 ?_
        refine lv_iload_n hx hb dX7_copyFrom_29 rfl (lv_at hl 2 rfl) ?_
        refine q_iald hx hb F S (q_k_7_1 kx1) (q_n_7_1 kx1) g2 dX7_copyFrom_30 ?_
        refine q_iast hx hb F S (q_k_7_1 kx0) (q_n_7_1 kx0) g2 dX7_copyFrom_31 (fun H locs μ4 eμ4 S => ?_)
        have h := q_le_e h eμ4
        obtain ⟨y5, ey5⟩ : ∃ z : Int32, z = v2 + 1 := ⟨_, rfl⟩
        have h := q_le_e h ey5
        refine lv_iinc (v := y5) (lv' := [(2, .int y5), (0, .ref (E.2.2.2 x0)), (1, .ref (E.2.2.2 x1))]) hx hb dX7_copyFrom_32 hl (k := 2) rfl (by rw [ey5]; rfl) (by decide) rfl (fun ls hl => ?_)
        refine lv_goto (tgt := 2) hx hb dX7_copyFrom_35 (by decide) ?_
        exact ih y5 μ4 H locs ls S (lv_sub hl [1, 2, 0] rfl) h
  unfold f_X7_copyFrom at h
  obtain ⟨H, eH⟩ : ∃ z, z = s.heap := ⟨_, rfl⟩
  obtain ⟨locs, eL⟩ : ∃ z : List Loc, z = [] := ⟨_, rfl⟩
  rw [← eH, ← eL] at S
  suffices hh : W p l e ({ frames := 0, cells := 0, slots := 0, locals := 0 }) s m ([.ref (E.2.2.2 x0), .ref (E.2.2.2 x1)] : List Value).toArray below meth c H locs 0 0 (MQ below (q_Qv E r μr) ([.ref (E.2.2.2 x0), .ref (E.2.2.2 x1)] : List Value).toArray s 0 0 (q_A E)) (F0 m 0 ls []) by rw [eH, eL] at hh; exact hh
  refine lv_iconst (v := 0) hx hb dX7_copyFrom_0 (by decide) ?_
  refine lv_istore_n (lv' := [(2, .int 0), (0, .ref (E.2.2.2 x0)), (1, .ref (E.2.2.2 x1))]) hx hb dX7_copyFrom_1 rfl hl (by decide) rfl (fun ls hl => ?_)
  refine hL2 _ (fun μ H locs ls S hl h => ?_) q_fu 0 μ H locs ls S (lv_sub hl [1, 2, 0] rfl) h
  refine lv_aload_n hx hb dX7_copyFrom_38 rfl (lv_at hl 0 rfl) ?_
  refine lv_aload_n hx hb dX7_copyFrom_39 rfl (lv_at hl 1 rfl) ?_
  refine q_geti (own := RX7) (C := RX7) (T := TX7) (N := 6) (ci := 7) (j := 2)  hx hb hts i7 hown F S kx1 (by decide) rfl (by decide) (by decide) rfl (hts (.fieldLink RX7 18 "HeavyRoutes$Way" "length" "I") (by decide +kernel)) dX7_copyFrom_40 ?_
  refine q_puti (own := RX7) (C := RX7) (T := TX7) (N := 6) (ci := 7) (j := 2)  hx hb hts i7 tyX7 tyX7_ok nmX7 hown F S kx0 (by decide) rfl (by decide) (by decide) rfl (hts (.fieldLink RX7 18 "HeavyRoutes$Way" "length" "I") (by decide +kernel)) rfl (by decide +kernel) dX7_copyFrom_43 (fun H locs μ6 eμ6 S => ?_)
  have h := q_le_e h eμ6
  refine lv_aload_n hx hb dX7_copyFrom_46 rfl (lv_at hl 0 rfl) ?_
  refine lv_aload_n hx hb dX7_copyFrom_47 rfl (lv_at hl 1 rfl) ?_
  refine q_geti (own := RX7) (C := RX7) (T := TX7) (N := 6) (ci := 7) (j := 3)  hx hb hts i7 hown F S kx1 (by decide) rfl (by decide) (by decide) rfl (hts (.fieldLink RX7 22 "HeavyRoutes$Way" "end" "I") (by decide +kernel)) dX7_copyFrom_48 ?_
  refine q_puti (own := RX7) (C := RX7) (T := TX7) (N := 6) (ci := 7) (j := 3)  hx hb hts i7 tyX7 tyX7_ok nmX7 hown F S kx0 (by decide) rfl (by decide) (by decide) rfl (hts (.fieldLink RX7 22 "HeavyRoutes$Way" "end" "I") (by decide +kernel)) rfl (by decide +kernel) dX7_copyFrom_51 (fun H locs μ7 eμ7 S => ?_)
  have h := q_le_e h eμ7
  refine lv_aload_n hx hb dX7_copyFrom_54 rfl (lv_at hl 0 rfl) ?_
  refine lv_aload_n hx hb dX7_copyFrom_55 rfl (lv_at hl 1 rfl) ?_
  refine q_geti (own := RX7) (C := RX7) (T := TX7) (N := 6) (ci := 7) (j := 4)  hx hb hts i7 hown F S kx1 (by decide) rfl (by decide) (by decide) rfl (hts (.fieldLink RX7 25 "HeavyRoutes$Way" "bridges" "I") (by decide +kernel)) dX7_copyFrom_56 ?_
  refine q_puti (own := RX7) (C := RX7) (T := TX7) (N := 6) (ci := 7) (j := 4)  hx hb hts i7 tyX7 tyX7_ok nmX7 hown F S kx0 (by decide) rfl (by decide) (by decide) rfl (hts (.fieldLink RX7 25 "HeavyRoutes$Way" "bridges" "I") (by decide +kernel)) rfl (by decide +kernel) dX7_copyFrom_59 (fun H locs μ8 eμ8 S => ?_)
  have h := q_le_e h eμ8
  refine lv_aload_n hx hb dX7_copyFrom_62 rfl (lv_at hl 0 rfl) ?_
  refine lv_aload_n hx hb dX7_copyFrom_63 rfl (lv_at hl 1 rfl) ?_
  refine q_geti (own := RX7) (C := RX7) (T := TX7) (N := 6) (ci := 7) (j := 5)  hx hb hts i7 hown F S kx1 (by decide) rfl (by decide) (by decide) rfl (hts (.fieldLink RX7 28 "HeavyRoutes$Way" "roadSet" "I") (by decide +kernel)) dX7_copyFrom_64 ?_
  refine q_puti (own := RX7) (C := RX7) (T := TX7) (N := 6) (ci := 7) (j := 5)  hx hb hts i7 tyX7 tyX7_ok nmX7 hown F S kx0 (by decide) rfl (by decide) (by decide) rfl (hts (.fieldLink RX7 28 "HeavyRoutes$Way" "roadSet" "I") (by decide +kernel)) rfl (by decide +kernel) dX7_copyFrom_67 (fun H locs μ9 eμ9 S => ?_)
  have h := q_le_e h eμ9
  exact q_vret hx hb hr S h hlk dX7_copyFrom_70
def L_X7_collectRoads_7 (x0 : Nat) (Kx : q_M → Option (Unit × q_M)) : Nat → Int32 → q_M → Option (Unit × q_M)
  | 0, _, _ => none
  | n + 1, v1, μ => (if (μ.1 x0 2) ≤ v1 then Kx μ else q_gd (q_ix v1 6) (q_le (q_si μ x0 5 ((μ.1 x0 5) ||| (1 <<< ((μ.1 (x0 + 8) v1.toNatClampNeg) &&& 31)))) (fun μ4 => q_le (v1 + 1 : Int32) (fun y5 => (L_X7_collectRoads_7 x0 Kx n) y5 μ4))))
def f_X7_collectRoads (x0 : Nat) (μ : q_M) : Option (Unit × q_M) := q_le (q_si μ x0 5 0) (fun μ1 => L_X7_collectRoads_7 x0 (fun μ => some ((), μ)) q_fu 0 μ1)
set_option maxHeartbeats 4000000 in
set_option maxRecDepth 100000 in
theorem c_X7_collectRoads (l : Launch) (E : q_E) (hE : q_I E) (x0 : Nat) (kx0 : q_kd x0 = 7) (μ μr : q_M) (r : Unit) (h : f_X7_collectRoads x0 μ = some (r, μr)) : Met l yX7_collectRoads wsX7_collectRoads ({ frames := 0, cells := 0, slots := 0, locals := 0 }) (q_Pc E μ [.ref (E.2.2.2 x0)]) (q_Qv E r μr) 0 0 (q_A E) := by
  refine q_met (cc := cX7_collectRoads) (maxL := 2) (ret := none) hE (by decide) rfl (Nat.le_of_ble_eq_true rfl) ?_
  intro p e s m below meth c hx hb hr hml hown hts hlk F S ls hl
  have hl : lv_has ls 2 [(0, .ref (E.2.2.2 x0))] := hl
  have i7 : ∀ w ∈ u_ws RX7 TX7 6, w ∈ wsX7_collectRoads := by decide +kernel
  have hL7 : ∀ (Kx : q_M → Option (Unit × q_M)), (∀ (μ : q_M) (H : Heap) (locs : List Loc) (ls : Array Slot), q_S E (q_A E) s μ H locs → lv_has ls 2 [] → Kx μ = some (r, μr) → W p l e ({ frames := 0, cells := 0, slots := 0, locals := 0 }) s m ([.ref (E.2.2.2 x0)] : List Value).toArray below meth c H locs 0 0 (MQ below (q_Qv E r μr) ([.ref (E.2.2.2 x0)] : List Value).toArray s 0 0 (q_A E)) (F0 m 38 ls [])) → ∀ (n : Nat), ∀ (v1 : Int32), ∀ (μ : q_M) (H : Heap) (locs : List Loc) (ls : Array Slot), q_S E (q_A E) s μ H locs → lv_has ls 2 [(0, .ref (E.2.2.2 x0)), (1, .int v1)] → L_X7_collectRoads_7 x0 Kx n v1 μ = some (r, μr) → W p l e ({ frames := 0, cells := 0, slots := 0, locals := 0 }) s m ([.ref (E.2.2.2 x0)] : List Value).toArray below meth c H locs 0 0 (MQ below (q_Qv E r μr) ([.ref (E.2.2.2 x0)] : List Value).toArray s 0 0 (q_A E)) (F0 m 7 ls []) := by
    intro Kx hKx n
    induction n with
    | zero => intro v1 μ H locs ls S hl h; exact absurd h (by simp [L_X7_collectRoads_7])
    | succ n ih =>
      intro v1 μ H locs ls S hl h
      rw [L_X7_collectRoads_7] at h
      refine lv_iload_n hx hb dX7_collectRoads_7 rfl (lv_at hl 1 rfl) ?_
      refine lv_aload_n hx hb dX7_collectRoads_8 rfl (lv_at hl 0 rfl) ?_
      refine q_geti (own := RX7) (C := RX7) (T := TX7) (N := 6) (ci := 7) (j := 2)  hx hb hts i7 hown F S kx0 (by decide) rfl (by decide) (by decide) rfl (hts (.fieldLink RX7 18 "HeavyRoutes$Way" "length" "I") (by decide +kernel)) dX7_collectRoads_9 ?_
      refine lv_icmp_ge (tgt := 38) hx hb dX7_collectRoads_12 (by decide) (fun c2 => ?_) (fun c2 => ?_)
      · have h := q_ip c2 h
        exact hKx μ H locs ls S (lv_sub hl [] rfl) h
      · have h := q_ig c2 h
        refine lv_aload_n hx hb dX7_collectRoads_15 rfl (lv_at hl 0 rfl) ?_
        refine lv_dup hx hb dX7_collectRoads_16 rfl ?_
        refine q_geti (own := RX7) (C := RX7) (T := TX7) (N := 6) (ci := 7) (j := 5)  hx hb hts i7 hown F S kx0 (by decide) rfl (by decide) (by decide) rfl (hts (.fieldLink RX7 28 "HeavyRoutes$Way" "roadSet" "I") (by decide +kernel)) dX7_collectRoads_17 ?_
        refine lv_iconst (v := 1) hx hb dX7_collectRoads_20 (by decide) ?_
        refine lv_aload_n hx hb dX7_collectRoads_21 rfl (lv_at hl 0 rfl) ?_
        refine q_getr (own := RX7) (C := RX7) (T := TX7) (N := 6) (ci := 7) (j := 0)  hx hb hts i7 hown F S kx0 (by decide) rfl (by decide) (by decide) rfl (q_p_7_0 kx0) (hts (.fieldLink RX7 9 "HeavyRoutes$Way" "roads" "[I") (by decide +kernel)) dX7_collectRoads_22 ?_
        refine lv_iload_n hx hb dX7_collectRoads_25 rfl (lv_at hl 1 rfl) ?_
        obtain ⟨g3, h⟩ := q_gd_some h
        refine q_iald hx hb F S (q_k_7_0 kx0) (q_n_7_0 kx0) g3 dX7_collectRoads_26 ?_
        refine lv_ishl hx hb dX7_collectRoads_27 ?_
        refine lv_ior hx hb dX7_collectRoads_28 ?_
        refine q_puti (own := RX7) (C := RX7) (T := TX7) (N := 6) (ci := 7) (j := 5)  hx hb hts i7 tyX7 tyX7_ok nmX7 hown F S kx0 (by decide) rfl (by decide) (by decide) rfl (hts (.fieldLink RX7 28 "HeavyRoutes$Way" "roadSet" "I") (by decide +kernel)) rfl (by decide +kernel) dX7_collectRoads_29 (fun H locs μ4 eμ4 S => ?_)
        have h := q_le_e h eμ4
        obtain ⟨y5, ey5⟩ : ∃ z : Int32, z = v1 + 1 := ⟨_, rfl⟩
        have h := q_le_e h ey5
        refine lv_iinc (v := y5) (lv' := [(1, .int y5), (0, .ref (E.2.2.2 x0))]) hx hb dX7_collectRoads_32 hl (k := 1) rfl (by rw [ey5]; rfl) (by decide) rfl (fun ls hl => ?_)
        refine lv_goto (tgt := 7) hx hb dX7_collectRoads_35 (by decide) ?_
        exact ih y5 μ4 H locs ls S (lv_sub hl [1, 0] rfl) h
  unfold f_X7_collectRoads at h
  obtain ⟨H, eH⟩ : ∃ z, z = s.heap := ⟨_, rfl⟩
  obtain ⟨locs, eL⟩ : ∃ z : List Loc, z = [] := ⟨_, rfl⟩
  rw [← eH, ← eL] at S
  suffices hh : W p l e ({ frames := 0, cells := 0, slots := 0, locals := 0 }) s m ([.ref (E.2.2.2 x0)] : List Value).toArray below meth c H locs 0 0 (MQ below (q_Qv E r μr) ([.ref (E.2.2.2 x0)] : List Value).toArray s 0 0 (q_A E)) (F0 m 0 ls []) by rw [eH, eL] at hh; exact hh
  refine lv_aload_n hx hb dX7_collectRoads_0 rfl (lv_at hl 0 rfl) ?_
  refine lv_iconst (v := 0) hx hb dX7_collectRoads_1 (by decide) ?_
  refine q_puti (own := RX7) (C := RX7) (T := TX7) (N := 6) (ci := 7) (j := 5)  hx hb hts i7 tyX7 tyX7_ok nmX7 hown F S kx0 (by decide) rfl (by decide) (by decide) rfl (hts (.fieldLink RX7 28 "HeavyRoutes$Way" "roadSet" "I") (by decide +kernel)) rfl (by decide +kernel) dX7_collectRoads_2 (fun H locs μ1 eμ1 S => ?_)
  have h := q_le_e h eμ1
  refine lv_iconst (v := 0) hx hb dX7_collectRoads_5 (by decide) ?_
  refine lv_istore_n (lv' := [(1, .int 0), (0, .ref (E.2.2.2 x0))]) hx hb dX7_collectRoads_6 rfl hl (by decide) rfl (fun ls hl => ?_)
  refine hL7 _ (fun μ H locs ls S hl h => ?_) q_fu 0 μ1 H locs ls S (lv_sub hl [1, 0] rfl) h
  exact q_vret hx hb hr S h hlk dX7_collectRoads_38
def L_X7_isBetterThan_86 (x0 : Nat) (x1 : Nat) (Kx : q_M → Option (Int32 × q_M)) : Nat → Int32 → q_M → Option (Int32 × q_M)
  | 0, _, _ => none
  | n + 1, v2, μ => (if (μ.1 x0 2) ≤ v2 then Kx μ else q_gd (q_ix v2 6) ((if (μ.1 (x0 + 8) v2.toNatClampNeg) = (μ.1 (x1 + 8) v2.toNatClampNeg) then q_le (v2 + 1 : Int32) (fun y7 => (L_X7_isBetterThan_86 x0 x1 Kx n) y7 μ) else (if (μ.1 (x1 + 8) v2.toNatClampNeg) ≤ (μ.1 (x0 + 8) v2.toNatClampNeg) then some (0, μ) else some (1, μ)))))
def f_X7_isBetterThan (x0 : Nat) (x1 : Nat) (μ : q_M) : Option (Int32 × q_M) := (if (μ.1 x0 3) = (μ.1 x1 3) then (if (μ.1 x0 4) = (μ.1 x1 4) then (if (μ.1 x0 2) = (μ.1 x1 2) then L_X7_isBetterThan_86 x0 x1 (fun μ => some (0, μ)) q_fu 0 μ else (if (μ.1 x1 2) ≤ (μ.1 x0 2) then some (0, μ) else some (1, μ))) else (if (μ.1 x1 4) ≤ (μ.1 x0 4) then some (0, μ) else some (1, μ))) else (if (μ.1 x1 3) ≤ (μ.1 x0 3) then some (0, μ) else some (1, μ)))
set_option maxHeartbeats 4000000 in
set_option maxRecDepth 100000 in
theorem c_X7_isBetterThan (l : Launch) (E : q_E) (hE : q_I E) (x0 : Nat) (x1 : Nat) (kx0 : q_kd x0 = 7) (kx1 : q_kd x1 = 7) (μ μr : q_M) (r : Int32) (h : f_X7_isBetterThan x0 x1 μ = some (r, μr)) : Met l yX7_isBetterThan wsX7_isBetterThan ({ frames := 0, cells := 0, slots := 0, locals := 0 }) (q_Pc E μ [.ref (E.2.2.2 x0), .ref (E.2.2.2 x1)]) (q_Qi E r μr) 0 0 (q_A E) := by
  refine q_met (cc := cX7_isBetterThan) (maxL := 3) (ret := (some .boolean)) hE (by decide) rfl (Nat.le_of_ble_eq_true rfl) ?_
  intro p e s m below meth c hx hb hr hml hown hts hlk F S ls hl
  have hl : lv_has ls 3 [(0, .ref (E.2.2.2 x0)), (1, .ref (E.2.2.2 x1))] := hl
  have i7 : ∀ w ∈ u_ws RX7 TX7 6, w ∈ wsX7_isBetterThan := by decide +kernel
  have hL86 : ∀ (Kx : q_M → Option (Int32 × q_M)), (∀ (μ : q_M) (H : Heap) (locs : List Loc) (ls : Array Slot), q_S E (q_A E) s μ H locs → lv_has ls 3 [] → Kx μ = some (r, μr) → W p l e ({ frames := 0, cells := 0, slots := 0, locals := 0 }) s m ([.ref (E.2.2.2 x0), .ref (E.2.2.2 x1)] : List Value).toArray below meth c H locs 0 0 (MQ below (q_Qi E r μr) ([.ref (E.2.2.2 x0), .ref (E.2.2.2 x1)] : List Value).toArray s 0 0 (q_A E)) (F0 m 136 ls [])) → ∀ (n : Nat), ∀ (v2 : Int32), ∀ (μ : q_M) (H : Heap) (locs : List Loc) (ls : Array Slot), q_S E (q_A E) s μ H locs → lv_has ls 3 [(0, .ref (E.2.2.2 x0)), (1, .ref (E.2.2.2 x1)), (2, .int v2)] → L_X7_isBetterThan_86 x0 x1 Kx n v2 μ = some (r, μr) → W p l e ({ frames := 0, cells := 0, slots := 0, locals := 0 }) s m ([.ref (E.2.2.2 x0), .ref (E.2.2.2 x1)] : List Value).toArray below meth c H locs 0 0 (MQ below (q_Qi E r μr) ([.ref (E.2.2.2 x0), .ref (E.2.2.2 x1)] : List Value).toArray s 0 0 (q_A E)) (F0 m 86 ls []) := by
    intro Kx hKx n
    induction n with
    | zero => intro v2 μ H locs ls S hl h; exact absurd h (by simp [L_X7_isBetterThan_86])
    | succ n ih =>
      intro v2 μ H locs ls S hl h
      rw [L_X7_isBetterThan_86] at h
      refine lv_iload_n hx hb dX7_isBetterThan_86 rfl (lv_at hl 2 rfl) ?_
      refine lv_aload_n hx hb dX7_isBetterThan_87 rfl (lv_at hl 0 rfl) ?_
      refine q_geti (own := RX7) (C := RX7) (T := TX7) (N := 6) (ci := 7) (j := 2)  hx hb hts i7 hown F S kx0 (by decide) rfl (by decide) (by decide) rfl (hts (.fieldLink RX7 18 "HeavyRoutes$Way" "length" "I") (by decide +kernel)) dX7_isBetterThan_88 ?_
      refine lv_icmp_ge (tgt := 136) hx hb dX7_isBetterThan_91 (by decide) (fun c4 => ?_) (fun c4 => ?_)
      · have h := q_ip c4 h
        exact hKx μ H locs ls S (lv_sub hl [] rfl) h
      · have h := q_ig c4 h
        refine lv_aload_n hx hb dX7_isBetterThan_94 rfl (lv_at hl 0 rfl) ?_
        refine q_getr (own := RX7) (C := RX7) (T := TX7) (N := 6) (ci := 7) (j := 0)  hx hb hts i7 hown F S kx0 (by decide) rfl (by decide) (by decide) rfl (q_p_7_0 kx0) (hts (.fieldLink RX7 9 "HeavyRoutes$Way" "roads" "[I") (by decide +kernel)) dX7_isBetterThan_95 ?_
        refine lv_iload_n hx hb dX7_isBetterThan_98 rfl (lv_at hl 2 rfl) ?_
        obtain ⟨g5, h⟩ := q_gd_some h
        refine q_iald hx hb F S (q_k_7_0 kx0) (q_n_7_0 kx0) g5 dX7_isBetterThan_99 ?_
        refine lv_aload_n hx hb dX7_isBetterThan_100 rfl (lv_at hl 1 rfl) ?_
        refine q_getr (own := RX7) (C := RX7) (T := TX7) (N := 6) (ci := 7) (j := 0)  hx hb hts i7 hown F S kx1 (by decide) rfl (by decide) (by decide) rfl (q_p_7_0 kx1) (hts (.fieldLink RX7 9 "HeavyRoutes$Way" "roads" "[I") (by decide +kernel)) dX7_isBetterThan_101 ?_
        refine lv_iload_n hx hb dX7_isBetterThan_104 rfl (lv_at hl 2 rfl) ?_
        refine q_iald hx hb F S (q_k_7_0 kx1) (q_n_7_0 kx1) g5 dX7_isBetterThan_105 ?_
        refine lv_icmp_eq (tgt := 130) hx hb dX7_isBetterThan_106 (by decide) (fun c6 => ?_) (fun c6 => ?_)
        · have h := q_ip c6 h
          obtain ⟨y7, ey7⟩ : ∃ z : Int32, z = v2 + 1 := ⟨_, rfl⟩
          have h := q_le_e h ey7
          refine lv_iinc (v := y7) (lv' := [(2, .int y7), (0, .ref (E.2.2.2 x0)), (1, .ref (E.2.2.2 x1))]) hx hb dX7_isBetterThan_130 hl (k := 2) rfl (by rw [ey7]; rfl) (by decide) rfl (fun ls hl => ?_)
          refine lv_goto (tgt := 86) hx hb dX7_isBetterThan_133 (by decide) ?_
          exact ih y7 μ H locs ls S (lv_sub hl [1, 2, 0] rfl) h
        · have h := q_ig c6 h
          refine lv_aload_n hx hb dX7_isBetterThan_109 rfl (lv_at hl 0 rfl) ?_
          refine q_getr (own := RX7) (C := RX7) (T := TX7) (N := 6) (ci := 7) (j := 0)  hx hb hts i7 hown F S kx0 (by decide) rfl (by decide) (by decide) rfl (q_p_7_0 kx0) (hts (.fieldLink RX7 9 "HeavyRoutes$Way" "roads" "[I") (by decide +kernel)) dX7_isBetterThan_110 ?_
          refine lv_iload_n hx hb dX7_isBetterThan_113 rfl (lv_at hl 2 rfl) ?_
          refine q_iald hx hb F S (q_k_7_0 kx0) (q_n_7_0 kx0) g5 dX7_isBetterThan_114 ?_
          refine lv_aload_n hx hb dX7_isBetterThan_115 rfl (lv_at hl 1 rfl) ?_
          refine q_getr (own := RX7) (C := RX7) (T := TX7) (N := 6) (ci := 7) (j := 0)  hx hb hts i7 hown F S kx1 (by decide) rfl (by decide) (by decide) rfl (q_p_7_0 kx1) (hts (.fieldLink RX7 9 "HeavyRoutes$Way" "roads" "[I") (by decide +kernel)) dX7_isBetterThan_116 ?_
          refine lv_iload_n hx hb dX7_isBetterThan_119 rfl (lv_at hl 2 rfl) ?_
          refine q_iald hx hb F S (q_k_7_0 kx1) (q_n_7_0 kx1) g5 dX7_isBetterThan_120 ?_
          refine lv_icmp_ge (tgt := 128) hx hb dX7_isBetterThan_121 (by decide) (fun c8 => ?_) (fun c8 => ?_)
          · have h := q_ip c8 h
            refine lv_iconst (v := 0) hx hb dX7_isBetterThan_128 (by decide) ?_
            exact q_zret hx hb hr S (by decide) h hlk dX7_isBetterThan_129
          · have h := q_ig c8 h
            refine lv_iconst (v := 1) hx hb dX7_isBetterThan_124 (by decide) ?_
            refine lv_goto (tgt := 129) hx hb dX7_isBetterThan_125 (by decide) ?_
            exact q_zret hx hb hr S (by decide) h hlk dX7_isBetterThan_129
  unfold f_X7_isBetterThan at h
  obtain ⟨H, eH⟩ : ∃ z, z = s.heap := ⟨_, rfl⟩
  obtain ⟨locs, eL⟩ : ∃ z : List Loc, z = [] := ⟨_, rfl⟩
  rw [← eH, ← eL] at S
  suffices hh : W p l e ({ frames := 0, cells := 0, slots := 0, locals := 0 }) s m ([.ref (E.2.2.2 x0), .ref (E.2.2.2 x1)] : List Value).toArray below meth c H locs 0 0 (MQ below (q_Qi E r μr) ([.ref (E.2.2.2 x0), .ref (E.2.2.2 x1)] : List Value).toArray s 0 0 (q_A E)) (F0 m 0 ls []) by rw [eH, eL] at hh; exact hh
  refine lv_aload_n hx hb dX7_isBetterThan_0 rfl (lv_at hl 0 rfl) ?_
  refine q_geti (own := RX7) (C := RX7) (T := TX7) (N := 6) (ci := 7) (j := 3)  hx hb hts i7 hown F S kx0 (by decide) rfl (by decide) (by decide) rfl (hts (.fieldLink RX7 22 "HeavyRoutes$Way" "end" "I") (by decide +kernel)) dX7_isBetterThan_1 ?_
  refine lv_aload_n hx hb dX7_isBetterThan_4 rfl (lv_at hl 1 rfl) ?_
  refine q_geti (own := RX7) (C := RX7) (T := TX7) (N := 6) (ci := 7) (j := 3)  hx hb hts i7 hown F S kx1 (by decide) rfl (by decide) (by decide) rfl (hts (.fieldLink RX7 22 "HeavyRoutes$Way" "end" "I") (by decide +kernel)) dX7_isBetterThan_5 ?_
  refine lv_icmp_eq (tgt := 28) hx hb dX7_isBetterThan_8 (by decide) (fun c1 => ?_) (fun c1 => ?_)
  · have h := q_ip c1 h
    refine lv_aload_n hx hb dX7_isBetterThan_28 rfl (lv_at hl 0 rfl) ?_
    refine q_geti (own := RX7) (C := RX7) (T := TX7) (N := 6) (ci := 7) (j := 4)  hx hb hts i7 hown F S kx0 (by decide) rfl (by decide) (by decide) rfl (hts (.fieldLink RX7 25 "HeavyRoutes$Way" "bridges" "I") (by decide +kernel)) dX7_isBetterThan_29 ?_
    refine lv_aload_n hx hb dX7_isBetterThan_32 rfl (lv_at hl 1 rfl) ?_
    refine q_geti (own := RX7) (C := RX7) (T := TX7) (N := 6) (ci := 7) (j := 4)  hx hb hts i7 hown F S kx1 (by decide) rfl (by decide) (by decide) rfl (hts (.fieldLink RX7 25 "HeavyRoutes$Way" "bridges" "I") (by decide +kernel)) dX7_isBetterThan_33 ?_
    refine lv_icmp_eq (tgt := 56) hx hb dX7_isBetterThan_36 (by decide) (fun c2 => ?_) (fun c2 => ?_)
    · have h := q_ip c2 h
      refine lv_aload_n hx hb dX7_isBetterThan_56 rfl (lv_at hl 0 rfl) ?_
      refine q_geti (own := RX7) (C := RX7) (T := TX7) (N := 6) (ci := 7) (j := 2)  hx hb hts i7 hown F S kx0 (by decide) rfl (by decide) (by decide) rfl (hts (.fieldLink RX7 18 "HeavyRoutes$Way" "length" "I") (by decide +kernel)) dX7_isBetterThan_57 ?_
      refine lv_aload_n hx hb dX7_isBetterThan_60 rfl (lv_at hl 1 rfl) ?_
      refine q_geti (own := RX7) (C := RX7) (T := TX7) (N := 6) (ci := 7) (j := 2)  hx hb hts i7 hown F S kx1 (by decide) rfl (by decide) (by decide) rfl (hts (.fieldLink RX7 18 "HeavyRoutes$Way" "length" "I") (by decide +kernel)) dX7_isBetterThan_61 ?_
      refine lv_icmp_eq (tgt := 84) hx hb dX7_isBetterThan_64 (by decide) (fun c3 => ?_) (fun c3 => ?_)
      · have h := q_ip c3 h
        refine lv_iconst (v := 0) hx hb dX7_isBetterThan_84 (by decide) ?_
        refine lv_istore_n (lv' := [(2, .int 0), (0, .ref (E.2.2.2 x0)), (1, .ref (E.2.2.2 x1))]) hx hb dX7_isBetterThan_85 rfl hl (by decide) rfl (fun ls hl => ?_)
        refine hL86 _ (fun μ H locs ls S hl h => ?_) q_fu 0 μ H locs ls S (lv_sub hl [1, 2, 0] rfl) h
        refine lv_iconst (v := 0) hx hb dX7_isBetterThan_136 (by decide) ?_
        exact q_zret hx hb hr S (by decide) h hlk dX7_isBetterThan_137
      · have h := q_ig c3 h
        refine lv_aload_n hx hb dX7_isBetterThan_67 rfl (lv_at hl 0 rfl) ?_
        refine q_geti (own := RX7) (C := RX7) (T := TX7) (N := 6) (ci := 7) (j := 2)  hx hb hts i7 hown F S kx0 (by decide) rfl (by decide) (by decide) rfl (hts (.fieldLink RX7 18 "HeavyRoutes$Way" "length" "I") (by decide +kernel)) dX7_isBetterThan_68 ?_
        refine lv_aload_n hx hb dX7_isBetterThan_71 rfl (lv_at hl 1 rfl) ?_
        refine q_geti (own := RX7) (C := RX7) (T := TX7) (N := 6) (ci := 7) (j := 2)  hx hb hts i7 hown F S kx1 (by decide) rfl (by decide) (by decide) rfl (hts (.fieldLink RX7 18 "HeavyRoutes$Way" "length" "I") (by decide +kernel)) dX7_isBetterThan_72 ?_
        refine lv_icmp_ge (tgt := 82) hx hb dX7_isBetterThan_75 (by decide) (fun c9 => ?_) (fun c9 => ?_)
        · have h := q_ip c9 h
          refine lv_iconst (v := 0) hx hb dX7_isBetterThan_82 (by decide) ?_
          exact q_zret hx hb hr S (by decide) h hlk dX7_isBetterThan_83
        · have h := q_ig c9 h
          refine lv_iconst (v := 1) hx hb dX7_isBetterThan_78 (by decide) ?_
          refine lv_goto (tgt := 83) hx hb dX7_isBetterThan_79 (by decide) ?_
          exact q_zret hx hb hr S (by decide) h hlk dX7_isBetterThan_83
    · have h := q_ig c2 h
      refine lv_aload_n hx hb dX7_isBetterThan_39 rfl (lv_at hl 0 rfl) ?_
      refine q_geti (own := RX7) (C := RX7) (T := TX7) (N := 6) (ci := 7) (j := 4)  hx hb hts i7 hown F S kx0 (by decide) rfl (by decide) (by decide) rfl (hts (.fieldLink RX7 25 "HeavyRoutes$Way" "bridges" "I") (by decide +kernel)) dX7_isBetterThan_40 ?_
      refine lv_aload_n hx hb dX7_isBetterThan_43 rfl (lv_at hl 1 rfl) ?_
      refine q_geti (own := RX7) (C := RX7) (T := TX7) (N := 6) (ci := 7) (j := 4)  hx hb hts i7 hown F S kx1 (by decide) rfl (by decide) (by decide) rfl (hts (.fieldLink RX7 25 "HeavyRoutes$Way" "bridges" "I") (by decide +kernel)) dX7_isBetterThan_44 ?_
      refine lv_icmp_ge (tgt := 54) hx hb dX7_isBetterThan_47 (by decide) (fun c10 => ?_) (fun c10 => ?_)
      · have h := q_ip c10 h
        refine lv_iconst (v := 0) hx hb dX7_isBetterThan_54 (by decide) ?_
        exact q_zret hx hb hr S (by decide) h hlk dX7_isBetterThan_55
      · have h := q_ig c10 h
        refine lv_iconst (v := 1) hx hb dX7_isBetterThan_50 (by decide) ?_
        refine lv_goto (tgt := 55) hx hb dX7_isBetterThan_51 (by decide) ?_
        exact q_zret hx hb hr S (by decide) h hlk dX7_isBetterThan_55
  · have h := q_ig c1 h
    refine lv_aload_n hx hb dX7_isBetterThan_11 rfl (lv_at hl 0 rfl) ?_
    refine q_geti (own := RX7) (C := RX7) (T := TX7) (N := 6) (ci := 7) (j := 3)  hx hb hts i7 hown F S kx0 (by decide) rfl (by decide) (by decide) rfl (hts (.fieldLink RX7 22 "HeavyRoutes$Way" "end" "I") (by decide +kernel)) dX7_isBetterThan_12 ?_
    refine lv_aload_n hx hb dX7_isBetterThan_15 rfl (lv_at hl 1 rfl) ?_
    refine q_geti (own := RX7) (C := RX7) (T := TX7) (N := 6) (ci := 7) (j := 3)  hx hb hts i7 hown F S kx1 (by decide) rfl (by decide) (by decide) rfl (hts (.fieldLink RX7 22 "HeavyRoutes$Way" "end" "I") (by decide +kernel)) dX7_isBetterThan_16 ?_
    refine lv_icmp_ge (tgt := 26) hx hb dX7_isBetterThan_19 (by decide) (fun c11 => ?_) (fun c11 => ?_)
    · have h := q_ip c11 h
      refine lv_iconst (v := 0) hx hb dX7_isBetterThan_26 (by decide) ?_
      exact q_zret hx hb hr S (by decide) h hlk dX7_isBetterThan_27
    · have h := q_ig c11 h
      refine lv_iconst (v := 1) hx hb dX7_isBetterThan_22 (by decide) ?_
      refine lv_goto (tgt := 27) hx hb dX7_isBetterThan_23 (by decide) ?_
      exact q_zret hx hb hr S (by decide) h hlk dX7_isBetterThan_27
def L_X8_setTo_2 (x0 : Nat) (x1 : Int64) (Kx : q_M → Option (Unit × q_M)) : Nat → Int32 → q_M → Option (Unit × q_M)
  | 0, _, _ => none
  | n + 1, v3, μ => (if 4 ≤ v3 then Kx μ else q_gd (q_ix v3 4) (q_le (q_sl μ (x0 + 16) v3.toNatClampNeg 0) (fun μ3 => q_le (v3 + 1 : Int32) (fun y4 => (L_X8_setTo_2 x0 x1 Kx n) y4 μ3))))
def f_X8_setTo (x0 : Nat) (x1 : Int64) (μ : q_M) : Option (Unit × q_M) := L_X8_setTo_2 x0 x1 (fun μ => q_gd (q_ix (0 : Int32) 4) (q_le (q_sl μ (x0 + 16) (0 : Int32).toNatClampNeg x1) (fun μ6 => some ((), μ6)))) q_fu 1 μ
set_option maxHeartbeats 4000000 in
set_option maxRecDepth 100000 in
theorem c_X8_setTo (l : Launch) (E : q_E) (hE : q_I E) (x0 : Nat) (x1 : Int64) (kx0 : q_kd x0 = 8) (μ μr : q_M) (r : Unit) (h : f_X8_setTo x0 x1 μ = some (r, μr)) : Met l yX8_setTo wsX8_setTo ({ frames := 0, cells := 0, slots := 0, locals := 0 }) (q_Pc E μ [.ref (E.2.2.2 x0), .long x1]) (q_Qv E r μr) 0 0 (q_A E) := by
  refine q_met (cc := cX8_setTo) (maxL := 4) (ret := none) hE (by decide) rfl (Nat.le_of_ble_eq_true rfl) ?_
  intro p e s m below meth c hx hb hr hml hown hts hlk F S ls hl
  have hl : lv_has ls 4 [(0, .ref (E.2.2.2 x0)), (1, .long x1)] := hl
  have i8 : ∀ w ∈ u_ws RX8 TX8 1, w ∈ wsX8_setTo := by decide +kernel
  have hL2 : ∀ (Kx : q_M → Option (Unit × q_M)), (∀ (μ : q_M) (H : Heap) (locs : List Loc) (ls : Array Slot), q_S E (q_A E) s μ H locs → lv_has ls 4 [(0, .ref (E.2.2.2 x0)), (1, .long x1)] → Kx μ = some (r, μr) → W p l e ({ frames := 0, cells := 0, slots := 0, locals := 0 }) s m ([.ref (E.2.2.2 x0), .long x1] : List Value).toArray below meth c H locs 0 0 (MQ below (q_Qv E r μr) ([.ref (E.2.2.2 x0), .long x1] : List Value).toArray s 0 0 (q_A E)) (F0 m 20 ls [])) → ∀ (n : Nat), ∀ (v3 : Int32), ∀ (μ : q_M) (H : Heap) (locs : List Loc) (ls : Array Slot), q_S E (q_A E) s μ H locs → lv_has ls 4 [(0, .ref (E.2.2.2 x0)), (1, .long x1), (3, .int v3)] → L_X8_setTo_2 x0 x1 Kx n v3 μ = some (r, μr) → W p l e ({ frames := 0, cells := 0, slots := 0, locals := 0 }) s m ([.ref (E.2.2.2 x0), .long x1] : List Value).toArray below meth c H locs 0 0 (MQ below (q_Qv E r μr) ([.ref (E.2.2.2 x0), .long x1] : List Value).toArray s 0 0 (q_A E)) (F0 m 2 ls []) := by
    intro Kx hKx n
    induction n with
    | zero => intro v3 μ H locs ls S hl h; exact absurd h (by simp [L_X8_setTo_2])
    | succ n ih =>
      intro v3 μ H locs ls S hl h
      rw [L_X8_setTo_2] at h
      refine lv_iload_n hx hb dX8_setTo_2 rfl (lv_at hl 2 rfl) ?_
      refine lv_iconst (v := 4) hx hb dX8_setTo_3 (by decide) ?_
      refine lv_icmp_ge (tgt := 20) hx hb dX8_setTo_4 (by decide) (fun c1 => ?_) (fun c1 => ?_)
      · have h := q_ip c1 h
        exact hKx μ H locs ls S (lv_sub hl [0, 1] rfl) h
      · have h := q_ig c1 h
        refine lv_aload_n hx hb dX8_setTo_7 rfl (lv_at hl 0 rfl) ?_
        refine q_getr (own := RX8) (C := RX8) (T := TX8) (N := 1) (ci := 8) (j := 0)  hx hb hts i8 hown F S kx0 (by decide) rfl (by decide) (by decide) rfl (q_p_8_0 kx0) (hts (.fieldLink RX8 9 "HeavyRoutes$Wide" "limbs" "[J") (by decide +kernel)) dX8_setTo_8 ?_
        refine lv_iload_n hx hb dX8_setTo_11 rfl (lv_at hl 2 rfl) ?_
        refine lv_lconst (v := 0) hx hb dX8_setTo_12 (by decide) ?_
        obtain ⟨g2, h⟩ := q_gd_some h
        refine q_last hx hb F S (q_k_8_0 kx0) (q_n_8_0 kx0) g2 dX8_setTo_13 (fun H locs μ3 eμ3 S => ?_)
        have h := q_le_e h eμ3
        obtain ⟨y4, ey4⟩ : ∃ z : Int32, z = v3 + 1 := ⟨_, rfl⟩
        have h := q_le_e h ey4
        refine lv_iinc (v := y4) (lv' := [(3, .int y4), (0, .ref (E.2.2.2 x0)), (1, .long x1)]) hx hb dX8_setTo_14 hl (k := 2) rfl (by rw [ey4]; rfl) (by decide) rfl (fun ls hl => ?_)
        refine lv_goto (tgt := 2) hx hb dX8_setTo_17 (by decide) ?_
        exact ih y4 μ3 H locs ls S (lv_sub hl [1, 2, 0] rfl) h
  unfold f_X8_setTo at h
  obtain ⟨H, eH⟩ : ∃ z, z = s.heap := ⟨_, rfl⟩
  obtain ⟨locs, eL⟩ : ∃ z : List Loc, z = [] := ⟨_, rfl⟩
  rw [← eH, ← eL] at S
  suffices hh : W p l e ({ frames := 0, cells := 0, slots := 0, locals := 0 }) s m ([.ref (E.2.2.2 x0), .long x1] : List Value).toArray below meth c H locs 0 0 (MQ below (q_Qv E r μr) ([.ref (E.2.2.2 x0), .long x1] : List Value).toArray s 0 0 (q_A E)) (F0 m 0 ls []) by rw [eH, eL] at hh; exact hh
  refine lv_iconst (v := 1) hx hb dX8_setTo_0 (by decide) ?_
  refine lv_istore_n (lv' := [(3, .int 1), (0, .ref (E.2.2.2 x0)), (1, .long x1)]) hx hb dX8_setTo_1 rfl hl (by decide) rfl (fun ls hl => ?_)
  refine hL2 _ (fun μ H locs ls S hl h => ?_) q_fu 1 μ H locs ls S (lv_sub hl [1, 2, 0] rfl) h
  refine lv_aload_n hx hb dX8_setTo_20 rfl (lv_at hl 0 rfl) ?_
  refine q_getr (own := RX8) (C := RX8) (T := TX8) (N := 1) (ci := 8) (j := 0)  hx hb hts i8 hown F S kx0 (by decide) rfl (by decide) (by decide) rfl (q_p_8_0 kx0) (hts (.fieldLink RX8 9 "HeavyRoutes$Wide" "limbs" "[J") (by decide +kernel)) dX8_setTo_21 ?_
  refine lv_iconst (v := 0) hx hb dX8_setTo_24 (by decide) ?_
  refine lv_lload_n hx hb dX8_setTo_25 rfl (lv_at hl 1 rfl) ?_
  obtain ⟨g5, h⟩ := q_gd_some h
  refine q_last hx hb F S (q_k_8_0 kx0) (q_n_8_0 kx0) g5 dX8_setTo_26 (fun H locs μ6 eμ6 S => ?_)
  have h := q_le_e h eμ6
  exact q_vret hx hb hr S h hlk dX8_setTo_27
def L_X8_addShifted_10 (x0 : Nat) (x1 : Int64) (x3 : Int64) (x5 : Int32) (Kx : q_M → Option (Unit × q_M)) : Nat → Int64 → Int64 → Int32 → q_M → Option (Unit × q_M)
  | 0, _, _, _, _ => none
  | n + 1, v6, v8, v10, μ => (if 4 ≤ v10 then Kx μ else q_gd (q_ix v10 4) (q_le ((((μ.2 (x0 + 16) v10.toNatClampNeg) + ((q_rl v6 1000000000) * x3)) + v8) : Int64) (fun y3 => q_le (q_sl μ (x0 + 16) v10.toNatClampNeg (q_rl y3 1000000000)) (fun μ4 => q_le ((y3 / 1000000000) : Int64) (fun y5 => q_le ((v6 / 1000000000) : Int64) (fun y6 => q_le (v10 + 1 : Int32) (fun y7 => (L_X8_addShifted_10 x0 x1 x3 x5 Kx n) y6 y5 y7 μ4)))))))
def f_X8_addShifted (x0 : Nat) (x1 : Int64) (x3 : Int64) (x5 : Int32) (μ : q_M) : Option (Unit × q_M) := L_X8_addShifted_10 x0 x1 x3 x5 (fun μ => some ((), μ)) q_fu x1 0 x5 μ
set_option maxHeartbeats 4000000 in
set_option maxRecDepth 100000 in
theorem c_X8_addShifted (l : Launch) (E : q_E) (hE : q_I E) (x0 : Nat) (x1 : Int64) (x3 : Int64) (x5 : Int32) (kx0 : q_kd x0 = 8) (μ μr : q_M) (r : Unit) (h : f_X8_addShifted x0 x1 x3 x5 μ = some (r, μr)) : Met l yX8_addShifted wsX8_addShifted ({ frames := 0, cells := 0, slots := 0, locals := 0 }) (q_Pc E μ [.ref (E.2.2.2 x0), .long x1, .long x3, .int x5]) (q_Qv E r μr) 0 0 (q_A E) := by
  refine q_met (cc := cX8_addShifted) (maxL := 13) (ret := none) hE (by decide) rfl (Nat.le_of_ble_eq_true rfl) ?_
  intro p e s m below meth c hx hb hr hml hown hts hlk F S ls hl
  have hl : lv_has ls 13 [(0, .ref (E.2.2.2 x0)), (1, .long x1), (3, .long x3), (5, .int x5)] := hl
  have i8 : ∀ w ∈ u_ws RX8 TX8 1, w ∈ wsX8_addShifted := by decide +kernel
  have hL10 : ∀ (Kx : q_M → Option (Unit × q_M)), (∀ (μ : q_M) (H : Heap) (locs : List Loc) (ls : Array Slot), q_S E (q_A E) s μ H locs → lv_has ls 13 [] → Kx μ = some (r, μr) → W p l e ({ frames := 0, cells := 0, slots := 0, locals := 0 }) s m ([.ref (E.2.2.2 x0), .long x1, .long x3, .int x5] : List Value).toArray below meth c H locs 0 0 (MQ below (q_Qv E r μr) ([.ref (E.2.2.2 x0), .long x1, .long x3, .int x5] : List Value).toArray s 0 0 (q_A E)) (F0 m 72 ls [])) → ∀ (n : Nat), ∀ (v6 : Int64), ∀ (v8 : Int64), ∀ (v10 : Int32), ∀ (μ : q_M) (H : Heap) (locs : List Loc) (ls : Array Slot), q_S E (q_A E) s μ H locs → lv_has ls 13 [(0, .ref (E.2.2.2 x0)), (3, .long x3), (6, .long v6), (8, .long v8), (10, .int v10)] → L_X8_addShifted_10 x0 x1 x3 x5 Kx n v6 v8 v10 μ = some (r, μr) → W p l e ({ frames := 0, cells := 0, slots := 0, locals := 0 }) s m ([.ref (E.2.2.2 x0), .long x1, .long x3, .int x5] : List Value).toArray below meth c H locs 0 0 (MQ below (q_Qv E r μr) ([.ref (E.2.2.2 x0), .long x1, .long x3, .int x5] : List Value).toArray s 0 0 (q_A E)) (F0 m 10 ls []) := by
    intro Kx hKx n
    induction n with
    | zero => intro v6 v8 v10 μ H locs ls S hl h; exact absurd h (by simp [L_X8_addShifted_10])
    | succ n ih =>
      intro v6 v8 v10 μ H locs ls S hl h
      rw [L_X8_addShifted_10] at h
      refine lv_iload hx hb dX8_addShifted_10 (lv_at hl 4 rfl) ?_
      refine lv_iconst (v := 4) hx hb dX8_addShifted_12 (by decide) ?_
      refine lv_icmp_ge (tgt := 72) hx hb dX8_addShifted_13 (by decide) (fun c1 => ?_) (fun c1 => ?_)
      · have h := q_ip c1 h
        exact hKx μ H locs ls S (lv_sub hl [] rfl) h
      · have h := q_ig c1 h
        refine lv_aload_n hx hb dX8_addShifted_16 rfl (lv_at hl 0 rfl) ?_
        refine q_getr (own := RX8) (C := RX8) (T := TX8) (N := 1) (ci := 8) (j := 0)  hx hb hts i8 hown F S kx0 (by decide) rfl (by decide) (by decide) rfl (q_p_8_0 kx0) (hts (.fieldLink RX8 9 "HeavyRoutes$Wide" "limbs" "[J") (by decide +kernel)) dX8_addShifted_17 ?_
        refine lv_iload hx hb dX8_addShifted_20 (lv_at hl 4 rfl) ?_
        obtain ⟨g2, h⟩ := q_gd_some h
        refine q_lald hx hb F S (q_k_8_0 kx0) (q_n_8_0 kx0) g2 dX8_addShifted_22 ?_
        refine lv_lload hx hb dX8_addShifted_23 (lv_at hl 2 rfl) ?_
        refine lv_ldc2 (v := 1000000000) hx hb hown (hts (.constantLong RX8 13 (1000000000)) (by decide +kernel)) dX8_addShifted_25 ?_
        refine lv_lrem hx hb dX8_addShifted_28 (by decide) ?_
        refine lv_lload_n hx hb dX8_addShifted_29 rfl (lv_at hl 1 rfl) ?_
        refine lv_lmul hx hb dX8_addShifted_30 ?_
        refine lv_ladd hx hb dX8_addShifted_31 ?_
        refine lv_lload hx hb dX8_addShifted_32 (lv_at hl 3 rfl) ?_
        refine lv_ladd hx hb dX8_addShifted_34 ?_
        refine lv_topl (fun y3 ey3 => ?_)
        have h := q_le_e h ey3
        refine lv_lstore (lv' := [(11, .long y3), (0, .ref (E.2.2.2 x0)), (3, .long x3), (6, .long v6), (8, .long v8), (10, .int v10)]) hx hb dX8_addShifted_35 hl (by decide) rfl (fun ls hl => ?_)
        refine lv_aload_n hx hb dX8_addShifted_37 rfl (lv_at hl 1 rfl) ?_
        refine q_getr (own := RX8) (C := RX8) (T := TX8) (N := 1) (ci := 8) (j := 0)  hx hb hts i8 hown F S kx0 (by decide) rfl (by decide) (by decide) rfl (q_p_8_0 kx0) (hts (.fieldLink RX8 9 "HeavyRoutes$Wide" "limbs" "[J") (by decide +kernel)) dX8_addShifted_38 ?_
        refine lv_iload hx hb dX8_addShifted_41 (lv_at hl 5 rfl) ?_
        refine lv_lload hx hb dX8_addShifted_43 (lv_at hl 0 rfl) ?_
        refine lv_ldc2 (v := 1000000000) hx hb hown (hts (.constantLong RX8 13 (1000000000)) (by decide +kernel)) dX8_addShifted_45 ?_
        refine lv_lrem hx hb dX8_addShifted_48 (by decide) ?_
        refine q_last hx hb F S (q_k_8_0 kx0) (q_n_8_0 kx0) g2 dX8_addShifted_49 (fun H locs μ4 eμ4 S => ?_)
        have h := q_le_e h eμ4
        refine lv_lload hx hb dX8_addShifted_50 (lv_at hl 0 rfl) ?_
        refine lv_ldc2 (v := 1000000000) hx hb hown (hts (.constantLong RX8 13 (1000000000)) (by decide +kernel)) dX8_addShifted_52 ?_
        refine lv_ldiv hx hb dX8_addShifted_55 (by decide) ?_
        refine lv_topl (fun y5 ey5 => ?_)
        have h := q_le_e h ey5
        refine lv_lstore (lv' := [(8, .long y5), (11, .long y3), (0, .ref (E.2.2.2 x0)), (3, .long x3), (6, .long v6), (10, .int v10)]) hx hb dX8_addShifted_56 hl (by decide) rfl (fun ls hl => ?_)
        refine lv_lload hx hb dX8_addShifted_58 (lv_at hl 4 rfl) ?_
        refine lv_ldc2 (v := 1000000000) hx hb hown (hts (.constantLong RX8 13 (1000000000)) (by decide +kernel)) dX8_addShifted_60 ?_
        refine lv_ldiv hx hb dX8_addShifted_63 (by decide) ?_
        refine lv_topl (fun y6 ey6 => ?_)
        have h := q_le_e h ey6
        refine lv_lstore (lv' := [(6, .long y6), (8, .long y5), (11, .long y3), (0, .ref (E.2.2.2 x0)), (3, .long x3), (10, .int v10)]) hx hb dX8_addShifted_64 hl (by decide) rfl (fun ls hl => ?_)
        obtain ⟨y7, ey7⟩ : ∃ z : Int32, z = v10 + 1 := ⟨_, rfl⟩
        have h := q_le_e h ey7
        refine lv_iinc (v := y7) (lv' := [(10, .int y7), (6, .long y6), (8, .long y5), (11, .long y3), (0, .ref (E.2.2.2 x0)), (3, .long x3)]) hx hb dX8_addShifted_66 hl (k := 5) rfl (by rw [ey7]; rfl) (by decide) rfl (fun ls hl => ?_)
        refine lv_goto (tgt := 10) hx hb dX8_addShifted_69 (by decide) ?_
        exact ih y6 y5 y7 μ4 H locs ls S (lv_sub hl [4, 5, 1, 2, 0] rfl) h
  unfold f_X8_addShifted at h
  obtain ⟨H, eH⟩ : ∃ z, z = s.heap := ⟨_, rfl⟩
  obtain ⟨locs, eL⟩ : ∃ z : List Loc, z = [] := ⟨_, rfl⟩
  rw [← eH, ← eL] at S
  suffices hh : W p l e ({ frames := 0, cells := 0, slots := 0, locals := 0 }) s m ([.ref (E.2.2.2 x0), .long x1, .long x3, .int x5] : List Value).toArray below meth c H locs 0 0 (MQ below (q_Qv E r μr) ([.ref (E.2.2.2 x0), .long x1, .long x3, .int x5] : List Value).toArray s 0 0 (q_A E)) (F0 m 0 ls []) by rw [eH, eL] at hh; exact hh
  refine lv_lload_n hx hb dX8_addShifted_0 rfl (lv_at hl 1 rfl) ?_
  refine lv_lstore (lv' := [(6, .long x1), (0, .ref (E.2.2.2 x0)), (1, .long x1), (3, .long x3), (5, .int x5)]) hx hb dX8_addShifted_1 hl (by decide) rfl (fun ls hl => ?_)
  refine lv_lconst (v := 0) hx hb dX8_addShifted_3 (by decide) ?_
  refine lv_lstore (lv' := [(8, .long 0), (6, .long x1), (0, .ref (E.2.2.2 x0)), (1, .long x1), (3, .long x3), (5, .int x5)]) hx hb dX8_addShifted_4 hl (by decide) rfl (fun ls hl => ?_)
  refine lv_iload hx hb dX8_addShifted_6 (lv_at hl 5 rfl) ?_
  refine lv_istore (lv' := [(10, .int x5), (8, .long 0), (6, .long x1), (0, .ref (E.2.2.2 x0)), (1, .long x1), (3, .long x3), (5, .int x5)]) hx hb dX8_addShifted_8 hl (by decide) rfl (fun ls hl => ?_)
  refine hL10 _ (fun μ H locs ls S hl h => ?_) q_fu x1 0 x5 μ H locs ls S (lv_sub hl [3, 5, 2, 1, 0] rfl) h
  exact q_vret hx hb hr S h hlk dX8_addShifted_72
def L_X8_addProduct_6 (x0 : Nat) (x1 : Int64) (x3 : Int64) (Kx : q_M → Option (Unit × q_M)) : Nat → Int64 → Int32 → q_M → Option (Unit × q_M)
  | 0, _, _, _ => none
  | n + 1, v5, v7, μ => (if 3 ≤ v7 then Kx μ else q_bd (f_X8_addShifted x0 x3 (q_rl v5 1000000000) v7 μ) (fun u2 μ2 => q_le ((v5 / 1000000000) : Int64) (fun y4 => q_le (v7 + 1 : Int32) (fun y5 => (L_X8_addProduct_6 x0 x1 x3 Kx n) y4 y5 μ2))))
def f_X8_addProduct (x0 : Nat) (x1 : Int64) (x3 : Int64) (μ : q_M) : Option (Unit × q_M) := L_X8_addProduct_6 x0 x1 x3 (fun μ => some ((), μ)) q_fu x1 0 μ
set_option maxHeartbeats 4000000 in
set_option maxRecDepth 100000 in
theorem c_X8_addProduct (l : Launch) (E : q_E) (hE : q_I E) (x0 : Nat) (x1 : Int64) (x3 : Int64) (kx0 : q_kd x0 = 8) (μ μr : q_M) (r : Unit) (h : f_X8_addProduct x0 x1 x3 μ = some (r, μr)) : Met l yX8_addProduct wsX8_addProduct ({ frames := 1, cells := 0, slots := 0, locals := 32 }) (q_Pc E μ [.ref (E.2.2.2 x0), .long x1, .long x3]) (q_Qv E r μr) 0 0 (q_A E) := by
  refine q_met (cc := cX8_addProduct) (maxL := 8) (ret := none) hE (by decide) rfl (Nat.le_of_ble_eq_true rfl) ?_
  intro p e s m below meth c hx hb hr hml hown hts hlk F S ls hl
  have hl : lv_has ls 8 [(0, .ref (E.2.2.2 x0)), (1, .long x1), (3, .long x3)] := hl
  have hL6 : ∀ (Kx : q_M → Option (Unit × q_M)), (∀ (μ : q_M) (H : Heap) (locs : List Loc) (ls : Array Slot), q_S E (q_A E) s μ H locs → lv_has ls 8 [] → Kx μ = some (r, μr) → W p l e ({ frames := 1, cells := 0, slots := 0, locals := 32 }) s m ([.ref (E.2.2.2 x0), .long x1, .long x3] : List Value).toArray below meth c H locs 0 0 (MQ below (q_Qv E r μr) ([.ref (E.2.2.2 x0), .long x1, .long x3] : List Value).toArray s 0 0 (q_A E)) (F0 m 39 ls [])) → ∀ (n : Nat), ∀ (v5 : Int64), ∀ (v7 : Int32), ∀ (μ : q_M) (H : Heap) (locs : List Loc) (ls : Array Slot), q_S E (q_A E) s μ H locs → lv_has ls 8 [(0, .ref (E.2.2.2 x0)), (3, .long x3), (5, .long v5), (7, .int v7)] → L_X8_addProduct_6 x0 x1 x3 Kx n v5 v7 μ = some (r, μr) → W p l e ({ frames := 1, cells := 0, slots := 0, locals := 32 }) s m ([.ref (E.2.2.2 x0), .long x1, .long x3] : List Value).toArray below meth c H locs 0 0 (MQ below (q_Qv E r μr) ([.ref (E.2.2.2 x0), .long x1, .long x3] : List Value).toArray s 0 0 (q_A E)) (F0 m 6 ls []) := by
    intro Kx hKx n
    induction n with
    | zero => intro v5 v7 μ H locs ls S hl h; exact absurd h (by simp [L_X8_addProduct_6])
    | succ n ih =>
      intro v5 v7 μ H locs ls S hl h
      rw [L_X8_addProduct_6] at h
      refine lv_iload hx hb dX8_addProduct_6 (lv_at hl 3 rfl) ?_
      refine lv_iconst (v := 3) hx hb dX8_addProduct_8 (by decide) ?_
      refine lv_icmp_ge (tgt := 39) hx hb dX8_addProduct_9 (by decide) (fun c1 => ?_) (fun c1 => ?_)
      · have h := q_ip c1 h
        exact hKx μ H locs ls S (lv_sub hl [] rfl) h
      · have h := q_ig c1 h
        refine lv_aload_n hx hb dX8_addProduct_12 rfl (lv_at hl 0 rfl) ?_
        refine lv_lload_n hx hb dX8_addProduct_13 rfl (lv_at hl 1 rfl) ?_
        refine lv_lload hx hb dX8_addProduct_14 (lv_at hl 2 rfl) ?_
        refine lv_ldc2 (v := 1000000000) hx hb hown (hts (.constantLong RX8 13 (1000000000)) (by decide +kernel)) dX8_addProduct_16 ?_
        refine lv_lrem hx hb dX8_addProduct_19 (by decide) ?_
        refine lv_iload hx hb dX8_addProduct_20 (lv_at hl 3 rfl) ?_
        obtain ⟨u2, μ2, hc3, h⟩ := q_bd_some h
        refine q_kv F S (q_runV (As := [.long x3, .long (q_rl v5 1000000000), .int v7]) (rest := []) (b := x0) ⟨hx, hb, hml, hown, hts⟩ F S (c_X8_addShifted l E hE x0 x3 (q_rl v5 1000000000) v7 kx0 μ μ2 u2 hc3) (cwV 3 hts gX8_addProduct_X8_addShifted rfl rfl rfl (by decide +kernel) ⟨Nat.le_of_ble_eq_true rfl, Nat.le_of_ble_eq_true rfl⟩) kx0 (by decide) rfl rfl hl.1 rfl (Nat.le_of_ble_eq_true rfl) dX8_addProduct_22 ⟨Nat.zero_le _, Nat.zero_le _⟩) (fun H locs S => ?_)
        refine lv_lload hx hb dX8_addProduct_25 (lv_at hl 2 rfl) ?_
        refine lv_ldc2 (v := 1000000000) hx hb hown (hts (.constantLong RX8 13 (1000000000)) (by decide +kernel)) dX8_addProduct_27 ?_
        refine lv_ldiv hx hb dX8_addProduct_30 (by decide) ?_
        refine lv_topl (fun y4 ey4 => ?_)
        have h := q_le_e h ey4
        refine lv_lstore (lv' := [(5, .long y4), (0, .ref (E.2.2.2 x0)), (3, .long x3), (7, .int v7)]) hx hb dX8_addProduct_31 hl (by decide) rfl (fun ls hl => ?_)
        obtain ⟨y5, ey5⟩ : ∃ z : Int32, z = v7 + 1 := ⟨_, rfl⟩
        have h := q_le_e h ey5
        refine lv_iinc (v := y5) (lv' := [(7, .int y5), (5, .long y4), (0, .ref (E.2.2.2 x0)), (3, .long x3)]) hx hb dX8_addProduct_33 hl (k := 3) rfl (by rw [ey5]; rfl) (by decide) rfl (fun ls hl => ?_)
        refine lv_goto (tgt := 6) hx hb dX8_addProduct_36 (by decide) ?_
        exact ih y4 y5 μ2 H locs ls S (lv_sub hl [2, 3, 1, 0] rfl) h
  unfold f_X8_addProduct at h
  obtain ⟨H, eH⟩ : ∃ z, z = s.heap := ⟨_, rfl⟩
  obtain ⟨locs, eL⟩ : ∃ z : List Loc, z = [] := ⟨_, rfl⟩
  rw [← eH, ← eL] at S
  suffices hh : W p l e ({ frames := 1, cells := 0, slots := 0, locals := 32 }) s m ([.ref (E.2.2.2 x0), .long x1, .long x3] : List Value).toArray below meth c H locs 0 0 (MQ below (q_Qv E r μr) ([.ref (E.2.2.2 x0), .long x1, .long x3] : List Value).toArray s 0 0 (q_A E)) (F0 m 0 ls []) by rw [eH, eL] at hh; exact hh
  refine lv_lload_n hx hb dX8_addProduct_0 rfl (lv_at hl 1 rfl) ?_
  refine lv_lstore (lv' := [(5, .long x1), (0, .ref (E.2.2.2 x0)), (1, .long x1), (3, .long x3)]) hx hb dX8_addProduct_1 hl (by decide) rfl (fun ls hl => ?_)
  refine lv_iconst (v := 0) hx hb dX8_addProduct_3 (by decide) ?_
  refine lv_istore (lv' := [(7, .int 0), (5, .long x1), (0, .ref (E.2.2.2 x0)), (1, .long x1), (3, .long x3)]) hx hb dX8_addProduct_4 hl (by decide) rfl (fun ls hl => ?_)
  refine hL6 _ (fun μ H locs ls S hl h => ?_) q_fu x1 0 μ H locs ls S (lv_sub hl [2, 4, 1, 0] rfl) h
  exact q_vret hx hb hr S h hlk dX8_addProduct_39
def L_X8_compareWith_2 (x0 : Nat) (x1 : Nat) (Kx : q_M → Option (Int32 × q_M)) : Nat → Int32 → q_M → Option (Int32 × q_M)
  | 0, _, _ => none
  | n + 1, v2, μ => (if v2 < 0 then Kx μ else q_gd (q_ix v2 4) ((if (lg_cmp (μ.2 (x0 + 16) v2.toNatClampNeg) (μ.2 (x1 + 16) v2.toNatClampNeg)) = 0 then q_le (v2 + (-1) : Int32) (fun y4 => (L_X8_compareWith_2 x0 x1 Kx n) y4 μ) else (if 0 ≤ (lg_cmp (μ.2 (x0 + 16) v2.toNatClampNeg) (μ.2 (x1 + 16) v2.toNatClampNeg)) then some (1, μ) else some ((-1), μ)))))
def f_X8_compareWith (x0 : Nat) (x1 : Nat) (μ : q_M) : Option (Int32 × q_M) := L_X8_compareWith_2 x0 x1 (fun μ => some (0, μ)) q_fu 3 μ
set_option maxHeartbeats 4000000 in
set_option maxRecDepth 100000 in
theorem c_X8_compareWith (l : Launch) (E : q_E) (hE : q_I E) (x0 : Nat) (x1 : Nat) (kx0 : q_kd x0 = 8) (kx1 : q_kd x1 = 8) (μ μr : q_M) (r : Int32) (h : f_X8_compareWith x0 x1 μ = some (r, μr)) : Met l yX8_compareWith wsX8_compareWith ({ frames := 0, cells := 0, slots := 0, locals := 0 }) (q_Pc E μ [.ref (E.2.2.2 x0), .ref (E.2.2.2 x1)]) (q_Qi E r μr) 0 0 (q_A E) := by
  refine q_met (cc := cX8_compareWith) (maxL := 3) (ret := (some .int)) hE (by decide) rfl (Nat.le_of_ble_eq_true rfl) ?_
  intro p e s m below meth c hx hb hr hml hown hts hlk F S ls hl
  have hl : lv_has ls 3 [(0, .ref (E.2.2.2 x0)), (1, .ref (E.2.2.2 x1))] := hl
  have i8 : ∀ w ∈ u_ws RX8 TX8 1, w ∈ wsX8_compareWith := by decide +kernel
  have hL2 : ∀ (Kx : q_M → Option (Int32 × q_M)), (∀ (μ : q_M) (H : Heap) (locs : List Loc) (ls : Array Slot), q_S E (q_A E) s μ H locs → lv_has ls 3 [] → Kx μ = some (r, μr) → W p l e ({ frames := 0, cells := 0, slots := 0, locals := 0 }) s m ([.ref (E.2.2.2 x0), .ref (E.2.2.2 x1)] : List Value).toArray below meth c H locs 0 0 (MQ below (q_Qi E r μr) ([.ref (E.2.2.2 x0), .ref (E.2.2.2 x1)] : List Value).toArray s 0 0 (q_A E)) (F0 m 50 ls [])) → ∀ (n : Nat), ∀ (v2 : Int32), ∀ (μ : q_M) (H : Heap) (locs : List Loc) (ls : Array Slot), q_S E (q_A E) s μ H locs → lv_has ls 3 [(0, .ref (E.2.2.2 x0)), (1, .ref (E.2.2.2 x1)), (2, .int v2)] → L_X8_compareWith_2 x0 x1 Kx n v2 μ = some (r, μr) → W p l e ({ frames := 0, cells := 0, slots := 0, locals := 0 }) s m ([.ref (E.2.2.2 x0), .ref (E.2.2.2 x1)] : List Value).toArray below meth c H locs 0 0 (MQ below (q_Qi E r μr) ([.ref (E.2.2.2 x0), .ref (E.2.2.2 x1)] : List Value).toArray s 0 0 (q_A E)) (F0 m 2 ls []) := by
    intro Kx hKx n
    induction n with
    | zero => intro v2 μ H locs ls S hl h; exact absurd h (by simp [L_X8_compareWith_2])
    | succ n ih =>
      intro v2 μ H locs ls S hl h
      rw [L_X8_compareWith_2] at h
      refine lv_iload_n hx hb dX8_compareWith_2 rfl (lv_at hl 2 rfl) ?_
      refine lv_if_lt (tgt := 50) hx hb dX8_compareWith_3 (by decide) (fun c1 => ?_) (fun c1 => ?_)
      · have h := q_ip c1 h
        exact hKx μ H locs ls S (lv_sub hl [] rfl) h
      · have h := q_ig c1 h
        refine lv_aload_n hx hb dX8_compareWith_6 rfl (lv_at hl 0 rfl) ?_
        refine q_getr (own := RX8) (C := RX8) (T := TX8) (N := 1) (ci := 8) (j := 0)  hx hb hts i8 hown F S kx0 (by decide) rfl (by decide) (by decide) rfl (q_p_8_0 kx0) (hts (.fieldLink RX8 9 "HeavyRoutes$Wide" "limbs" "[J") (by decide +kernel)) dX8_compareWith_7 ?_
        refine lv_iload_n hx hb dX8_compareWith_10 rfl (lv_at hl 2 rfl) ?_
        obtain ⟨g2, h⟩ := q_gd_some h
        refine q_lald hx hb F S (q_k_8_0 kx0) (q_n_8_0 kx0) g2 dX8_compareWith_11 ?_
        refine lv_aload_n hx hb dX8_compareWith_12 rfl (lv_at hl 1 rfl) ?_
        refine q_getr (own := RX8) (C := RX8) (T := TX8) (N := 1) (ci := 8) (j := 0)  hx hb hts i8 hown F S kx1 (by decide) rfl (by decide) (by decide) rfl (q_p_8_0 kx1) (hts (.fieldLink RX8 9 "HeavyRoutes$Wide" "limbs" "[J") (by decide +kernel)) dX8_compareWith_13 ?_
        refine lv_iload_n hx hb dX8_compareWith_16 rfl (lv_at hl 2 rfl) ?_
        refine q_lald hx hb F S (q_k_8_0 kx1) (q_n_8_0 kx1) g2 dX8_compareWith_17 ?_
        refine W.lcmp hx hb dX8_compareWith_18 ?_
        refine lv_if_eq (tgt := 44) hx hb dX8_compareWith_19 (by decide) (fun c3 => ?_) (fun c3 => ?_)
        · have h := q_ip c3 h
          obtain ⟨y4, ey4⟩ : ∃ z : Int32, z = v2 + (-1) := ⟨_, rfl⟩
          have h := q_le_e h ey4
          refine lv_iinc (v := y4) (lv' := [(2, .int y4), (0, .ref (E.2.2.2 x0)), (1, .ref (E.2.2.2 x1))]) hx hb dX8_compareWith_44 hl (k := 2) rfl (by rw [ey4]; rfl) (by decide) rfl (fun ls hl => ?_)
          refine lv_goto (tgt := 2) hx hb dX8_compareWith_47 (by decide) ?_
          exact ih y4 μ H locs ls S (lv_sub hl [1, 2, 0] rfl) h
        · have h := q_ig c3 h
          refine lv_aload_n hx hb dX8_compareWith_22 rfl (lv_at hl 0 rfl) ?_
          refine q_getr (own := RX8) (C := RX8) (T := TX8) (N := 1) (ci := 8) (j := 0)  hx hb hts i8 hown F S kx0 (by decide) rfl (by decide) (by decide) rfl (q_p_8_0 kx0) (hts (.fieldLink RX8 9 "HeavyRoutes$Wide" "limbs" "[J") (by decide +kernel)) dX8_compareWith_23 ?_
          refine lv_iload_n hx hb dX8_compareWith_26 rfl (lv_at hl 2 rfl) ?_
          refine q_lald hx hb F S (q_k_8_0 kx0) (q_n_8_0 kx0) g2 dX8_compareWith_27 ?_
          refine lv_aload_n hx hb dX8_compareWith_28 rfl (lv_at hl 1 rfl) ?_
          refine q_getr (own := RX8) (C := RX8) (T := TX8) (N := 1) (ci := 8) (j := 0)  hx hb hts i8 hown F S kx1 (by decide) rfl (by decide) (by decide) rfl (q_p_8_0 kx1) (hts (.fieldLink RX8 9 "HeavyRoutes$Wide" "limbs" "[J") (by decide +kernel)) dX8_compareWith_29 ?_
          refine lv_iload_n hx hb dX8_compareWith_32 rfl (lv_at hl 2 rfl) ?_
          refine q_lald hx hb F S (q_k_8_0 kx1) (q_n_8_0 kx1) g2 dX8_compareWith_33 ?_
          refine W.lcmp hx hb dX8_compareWith_34 ?_
          refine lv_if_ge (tgt := 42) hx hb dX8_compareWith_35 (by decide) (fun c5 => ?_) (fun c5 => ?_)
          · have h := q_ip c5 h
            refine lv_iconst (v := 1) hx hb dX8_compareWith_42 (by decide) ?_
            exact q_iret hx hb hr S h hlk dX8_compareWith_43
          · have h := q_ig c5 h
            refine lv_iconst (v := (-1)) hx hb dX8_compareWith_38 (by decide) ?_
            refine lv_goto (tgt := 43) hx hb dX8_compareWith_39 (by decide) ?_
            exact q_iret hx hb hr S h hlk dX8_compareWith_43
  unfold f_X8_compareWith at h
  obtain ⟨H, eH⟩ : ∃ z, z = s.heap := ⟨_, rfl⟩
  obtain ⟨locs, eL⟩ : ∃ z : List Loc, z = [] := ⟨_, rfl⟩
  rw [← eH, ← eL] at S
  suffices hh : W p l e ({ frames := 0, cells := 0, slots := 0, locals := 0 }) s m ([.ref (E.2.2.2 x0), .ref (E.2.2.2 x1)] : List Value).toArray below meth c H locs 0 0 (MQ below (q_Qi E r μr) ([.ref (E.2.2.2 x0), .ref (E.2.2.2 x1)] : List Value).toArray s 0 0 (q_A E)) (F0 m 0 ls []) by rw [eH, eL] at hh; exact hh
  refine lv_iconst (v := 3) hx hb dX8_compareWith_0 (by decide) ?_
  refine lv_istore_n (lv' := [(2, .int 3), (0, .ref (E.2.2.2 x0)), (1, .ref (E.2.2.2 x1))]) hx hb dX8_compareWith_1 rfl hl (by decide) rfl (fun ls hl => ?_)
  refine hL2 _ (fun μ H locs ls S hl h => ?_) q_fu 3 μ H locs ls S (lv_sub hl [1, 2, 0] rfl) h
  refine lv_iconst (v := 0) hx hb dX8_compareWith_50 (by decide) ?_
  exact q_iret hx hb hr S h hlk dX8_compareWith_51
def J_X8_subtract_42 (x0 : Nat) (x1 : Nat) (Kb : Int64 → Int32 → q_M → Option (Unit × q_M)) (Kx : q_M → Option (Unit × q_M)) (v4 : Int32) (v5 : Int64) (s0 : Int64) (μ : q_M) : Option (Unit × q_M) := q_gd (q_ix v4 4) (q_le (q_sl μ (x0 + 16) v4.toNatClampNeg (v5 + (s0 * 1000000000))) (fun μ6 => q_le (v4 + 1 : Int32) (fun y7 => Kb s0 y7 μ6)))
def L_X8_subtract_5 (x0 : Nat) (x1 : Nat) (Kx : q_M → Option (Unit × q_M)) : Nat → Int64 → Int32 → q_M → Option (Unit × q_M)
  | 0, _, _, _ => none
  | n + 1, v2, v4, μ => (if 4 ≤ v4 then Kx μ else q_gd (q_ix v4 4) (q_le ((((μ.2 (x0 + 16) v4.toNatClampNeg) - (μ.2 (x1 + 16) v4.toNatClampNeg)) - v2) : Int64) (fun y3 => (if 0 ≤ (lg_cmp y3 0) then J_X8_subtract_42 x0 x1 (L_X8_subtract_5 x0 x1 Kx n) Kx v4 y3 0 μ else J_X8_subtract_42 x0 x1 (L_X8_subtract_5 x0 x1 Kx n) Kx v4 y3 1 μ))))
def f_X8_subtract (x0 : Nat) (x1 : Nat) (μ : q_M) : Option (Unit × q_M) := L_X8_subtract_5 x0 x1 (fun μ => some ((), μ)) q_fu 0 0 μ
set_option maxHeartbeats 4000000 in
set_option maxRecDepth 100000 in
theorem c_X8_subtract (l : Launch) (E : q_E) (hE : q_I E) (x0 : Nat) (x1 : Nat) (kx0 : q_kd x0 = 8) (kx1 : q_kd x1 = 8) (μ μr : q_M) (r : Unit) (h : f_X8_subtract x0 x1 μ = some (r, μr)) : Met l yX8_subtract wsX8_subtract ({ frames := 0, cells := 0, slots := 0, locals := 0 }) (q_Pc E μ [.ref (E.2.2.2 x0), .ref (E.2.2.2 x1)]) (q_Qv E r μr) 0 0 (q_A E) := by
  refine q_met (cc := cX8_subtract) (maxL := 7) (ret := none) hE (by decide) rfl (Nat.le_of_ble_eq_true rfl) ?_
  intro p e s m below meth c hx hb hr hml hown hts hlk F S ls hl
  have hl : lv_has ls 7 [(0, .ref (E.2.2.2 x0)), (1, .ref (E.2.2.2 x1))] := hl
  have i8 : ∀ w ∈ u_ws RX8 TX8 1, w ∈ wsX8_subtract := by decide +kernel
  have hJ42 : ∀ (Kb : Int64 → Int32 → q_M → Option (Unit × q_M)), (∀ (v2 : Int64), ∀ (v4 : Int32), ∀ (μ : q_M) (H : Heap) (locs : List Loc) (ls : Array Slot), q_S E (q_A E) s μ H locs → lv_has ls 7 [(0, .ref (E.2.2.2 x0)), (1, .ref (E.2.2.2 x1)), (2, .long v2), (4, .int v4)] → Kb v2 v4 μ = some (r, μr) → W p l e ({ frames := 0, cells := 0, slots := 0, locals := 0 }) s m ([.ref (E.2.2.2 x0), .ref (E.2.2.2 x1)] : List Value).toArray below meth c H locs 0 0 (MQ below (q_Qv E r μr) ([.ref (E.2.2.2 x0), .ref (E.2.2.2 x1)] : List Value).toArray s 0 0 (q_A E)) (F0 m 5 ls [])) → ∀ (Kx : q_M → Option (Unit × q_M)), (∀ (μ : q_M) (H : Heap) (locs : List Loc) (ls : Array Slot), q_S E (q_A E) s μ H locs → lv_has ls 7 [] → Kx μ = some (r, μr) → W p l e ({ frames := 0, cells := 0, slots := 0, locals := 0 }) s m ([.ref (E.2.2.2 x0), .ref (E.2.2.2 x1)] : List Value).toArray below meth c H locs 0 0 (MQ below (q_Qv E r μr) ([.ref (E.2.2.2 x0), .ref (E.2.2.2 x1)] : List Value).toArray s 0 0 (q_A E)) (F0 m 64 ls [])) → ∀ (v4 : Int32), ∀ (v5 : Int64), ∀ (s0 : Int64), ∀ (μ : q_M) (H : Heap) (locs : List Loc) (ls : Array Slot), q_S E (q_A E) s μ H locs → lv_has ls 7 [(0, .ref (E.2.2.2 x0)), (1, .ref (E.2.2.2 x1)), (4, .int v4), (5, .long v5)] → J_X8_subtract_42 x0 x1 Kb Kx v4 v5 s0 μ = some (r, μr) → W p l e ({ frames := 0, cells := 0, slots := 0, locals := 0 }) s m ([.ref (E.2.2.2 x0), .ref (E.2.2.2 x1)] : List Value).toArray below meth c H locs 0 0 (MQ below (q_Qv E r μr) ([.ref (E.2.2.2 x0), .ref (E.2.2.2 x1)] : List Value).toArray s 0 0 (q_A E)) (F0 m 42 ls [.long s0]) := by
    intro Kb hKb Kx hKx v4 v5 s0 μ H locs ls S hl h
    rw [J_X8_subtract_42] at h
    refine lv_lstore_n (lv' := [(2, .long s0), (0, .ref (E.2.2.2 x0)), (1, .ref (E.2.2.2 x1)), (4, .int v4), (5, .long v5)]) hx hb dX8_subtract_42 rfl hl (by decide) rfl (fun ls hl => ?_)
    refine lv_aload_n hx hb dX8_subtract_43 rfl (lv_at hl 1 rfl) ?_
    refine q_getr (own := RX8) (C := RX8) (T := TX8) (N := 1) (ci := 8) (j := 0)  hx hb hts i8 hown F S kx0 (by decide) rfl (by decide) (by decide) rfl (q_p_8_0 kx0) (hts (.fieldLink RX8 9 "HeavyRoutes$Wide" "limbs" "[J") (by decide +kernel)) dX8_subtract_44 ?_
    refine lv_iload hx hb dX8_subtract_47 (lv_at hl 3 rfl) ?_
    refine lv_lload hx hb dX8_subtract_49 (lv_at hl 4 rfl) ?_
    refine lv_lload_n hx hb dX8_subtract_51 rfl (lv_at hl 0 rfl) ?_
    refine lv_ldc2 (v := 1000000000) hx hb hown (hts (.constantLong RX8 13 (1000000000)) (by decide +kernel)) dX8_subtract_52 ?_
    refine lv_lmul hx hb dX8_subtract_55 ?_
    refine lv_ladd hx hb dX8_subtract_56 ?_
    obtain ⟨g5, h⟩ := q_gd_some h
    refine q_last hx hb F S (q_k_8_0 kx0) (q_n_8_0 kx0) g5 dX8_subtract_57 (fun H locs μ6 eμ6 S => ?_)
    have h := q_le_e h eμ6
    obtain ⟨y7, ey7⟩ : ∃ z : Int32, z = v4 + 1 := ⟨_, rfl⟩
    have h := q_le_e h ey7
    refine lv_iinc (v := y7) (lv' := [(4, .int y7), (2, .long s0), (0, .ref (E.2.2.2 x0)), (1, .ref (E.2.2.2 x1)), (5, .long v5)]) hx hb dX8_subtract_58 hl (k := 3) rfl (by rw [ey7]; rfl) (by decide) rfl (fun ls hl => ?_)
    refine lv_goto (tgt := 5) hx hb dX8_subtract_61 (by decide) ?_
    exact hKb s0 y7 μ6 H locs ls S (lv_sub hl [2, 3, 1, 0] rfl) h
  have hL5 : ∀ (Kx : q_M → Option (Unit × q_M)), (∀ (μ : q_M) (H : Heap) (locs : List Loc) (ls : Array Slot), q_S E (q_A E) s μ H locs → lv_has ls 7 [] → Kx μ = some (r, μr) → W p l e ({ frames := 0, cells := 0, slots := 0, locals := 0 }) s m ([.ref (E.2.2.2 x0), .ref (E.2.2.2 x1)] : List Value).toArray below meth c H locs 0 0 (MQ below (q_Qv E r μr) ([.ref (E.2.2.2 x0), .ref (E.2.2.2 x1)] : List Value).toArray s 0 0 (q_A E)) (F0 m 64 ls [])) → ∀ (n : Nat), ∀ (v2 : Int64), ∀ (v4 : Int32), ∀ (μ : q_M) (H : Heap) (locs : List Loc) (ls : Array Slot), q_S E (q_A E) s μ H locs → lv_has ls 7 [(0, .ref (E.2.2.2 x0)), (1, .ref (E.2.2.2 x1)), (2, .long v2), (4, .int v4)] → L_X8_subtract_5 x0 x1 Kx n v2 v4 μ = some (r, μr) → W p l e ({ frames := 0, cells := 0, slots := 0, locals := 0 }) s m ([.ref (E.2.2.2 x0), .ref (E.2.2.2 x1)] : List Value).toArray below meth c H locs 0 0 (MQ below (q_Qv E r μr) ([.ref (E.2.2.2 x0), .ref (E.2.2.2 x1)] : List Value).toArray s 0 0 (q_A E)) (F0 m 5 ls []) := by
    intro Kx hKx n
    induction n with
    | zero => intro v2 v4 μ H locs ls S hl h; exact absurd h (by simp [L_X8_subtract_5])
    | succ n ih =>
      intro v2 v4 μ H locs ls S hl h
      rw [L_X8_subtract_5] at h
      refine lv_iload hx hb dX8_subtract_5 (lv_at hl 3 rfl) ?_
      refine lv_iconst (v := 4) hx hb dX8_subtract_7 (by decide) ?_
      refine lv_icmp_ge (tgt := 64) hx hb dX8_subtract_8 (by decide) (fun c1 => ?_) (fun c1 => ?_)
      · have h := q_ip c1 h
        exact hKx μ H locs ls S (lv_sub hl [] rfl) h
      · have h := q_ig c1 h
        refine lv_aload_n hx hb dX8_subtract_11 rfl (lv_at hl 0 rfl) ?_
        refine q_getr (own := RX8) (C := RX8) (T := TX8) (N := 1) (ci := 8) (j := 0)  hx hb hts i8 hown F S kx0 (by decide) rfl (by decide) (by decide) rfl (q_p_8_0 kx0) (hts (.fieldLink RX8 9 "HeavyRoutes$Wide" "limbs" "[J") (by decide +kernel)) dX8_subtract_12 ?_
        refine lv_iload hx hb dX8_subtract_15 (lv_at hl 3 rfl) ?_
        obtain ⟨g2, h⟩ := q_gd_some h
        refine q_lald hx hb F S (q_k_8_0 kx0) (q_n_8_0 kx0) g2 dX8_subtract_17 ?_
        refine lv_aload_n hx hb dX8_subtract_18 rfl (lv_at hl 1 rfl) ?_
        refine q_getr (own := RX8) (C := RX8) (T := TX8) (N := 1) (ci := 8) (j := 0)  hx hb hts i8 hown F S kx1 (by decide) rfl (by decide) (by decide) rfl (q_p_8_0 kx1) (hts (.fieldLink RX8 9 "HeavyRoutes$Wide" "limbs" "[J") (by decide +kernel)) dX8_subtract_19 ?_
        refine lv_iload hx hb dX8_subtract_22 (lv_at hl 3 rfl) ?_
        refine q_lald hx hb F S (q_k_8_0 kx1) (q_n_8_0 kx1) g2 dX8_subtract_24 ?_
        refine lv_lsub hx hb dX8_subtract_25 ?_
        refine lv_lload_n hx hb dX8_subtract_26 rfl (lv_at hl 2 rfl) ?_
        refine lv_lsub hx hb dX8_subtract_27 ?_
        refine lv_topl (fun y3 ey3 => ?_)
        have h := q_le_e h ey3
        refine lv_lstore (lv' := [(5, .long y3), (0, .ref (E.2.2.2 x0)), (1, .ref (E.2.2.2 x1)), (2, .long v2), (4, .int v4)]) hx hb dX8_subtract_28 hl (by decide) rfl (fun ls hl => ?_)
        refine lv_lload hx hb dX8_subtract_30 (lv_at hl 0 rfl) ?_
        refine lv_lconst (v := 0) hx hb dX8_subtract_32 (by decide) ?_
        refine W.lcmp hx hb dX8_subtract_33 ?_
        refine lv_if_ge (tgt := 41) hx hb dX8_subtract_34 (by decide) (fun c4 => ?_) (fun c4 => ?_)
        · have h := q_ip c4 h
          refine lv_lconst (v := 0) hx hb dX8_subtract_41 (by decide) ?_
          exact hJ42 _ ih _ hKx v4 y3 0 μ H locs ls S (lv_sub hl [1, 2, 4, 0] rfl) h
        · have h := q_ig c4 h
          refine lv_lconst (v := 1) hx hb dX8_subtract_37 (by decide) ?_
          refine lv_goto (tgt := 42) hx hb dX8_subtract_38 (by decide) ?_
          exact hJ42 _ ih _ hKx v4 y3 1 μ H locs ls S (lv_sub hl [1, 2, 4, 0] rfl) h
  unfold f_X8_subtract at h
  obtain ⟨H, eH⟩ : ∃ z, z = s.heap := ⟨_, rfl⟩
  obtain ⟨locs, eL⟩ : ∃ z : List Loc, z = [] := ⟨_, rfl⟩
  rw [← eH, ← eL] at S
  suffices hh : W p l e ({ frames := 0, cells := 0, slots := 0, locals := 0 }) s m ([.ref (E.2.2.2 x0), .ref (E.2.2.2 x1)] : List Value).toArray below meth c H locs 0 0 (MQ below (q_Qv E r μr) ([.ref (E.2.2.2 x0), .ref (E.2.2.2 x1)] : List Value).toArray s 0 0 (q_A E)) (F0 m 0 ls []) by rw [eH, eL] at hh; exact hh
  refine lv_lconst (v := 0) hx hb dX8_subtract_0 (by decide) ?_
  refine lv_lstore_n (lv' := [(2, .long 0), (0, .ref (E.2.2.2 x0)), (1, .ref (E.2.2.2 x1))]) hx hb dX8_subtract_1 rfl hl (by decide) rfl (fun ls hl => ?_)
  refine lv_iconst (v := 0) hx hb dX8_subtract_2 (by decide) ?_
  refine lv_istore (lv' := [(4, .int 0), (2, .long 0), (0, .ref (E.2.2.2 x0)), (1, .ref (E.2.2.2 x1))]) hx hb dX8_subtract_3 hl (by decide) rfl (fun ls hl => ?_)
  refine hL5 _ (fun μ H locs ls S hl h => ?_) q_fu 0 0 μ H locs ls S (lv_sub hl [2, 3, 1, 0] rfl) h
  exact q_vret hx hb hr S h hlk dX8_subtract_64
def L_X8_copyFrom_2 (x0 : Nat) (x1 : Nat) (Kx : q_M → Option (Unit × q_M)) : Nat → Int32 → q_M → Option (Unit × q_M)
  | 0, _, _ => none
  | n + 1, v2, μ => (if 4 ≤ v2 then Kx μ else q_gd (q_ix v2 4) (q_le (q_sl μ (x0 + 16) v2.toNatClampNeg (μ.2 (x1 + 16) v2.toNatClampNeg)) (fun μ3 => q_le (v2 + 1 : Int32) (fun y4 => (L_X8_copyFrom_2 x0 x1 Kx n) y4 μ3))))
def f_X8_copyFrom (x0 : Nat) (x1 : Nat) (μ : q_M) : Option (Unit × q_M) := L_X8_copyFrom_2 x0 x1 (fun μ => some ((), μ)) q_fu 0 μ
set_option maxHeartbeats 4000000 in
set_option maxRecDepth 100000 in
theorem c_X8_copyFrom (l : Launch) (E : q_E) (hE : q_I E) (x0 : Nat) (x1 : Nat) (kx0 : q_kd x0 = 8) (kx1 : q_kd x1 = 8) (μ μr : q_M) (r : Unit) (h : f_X8_copyFrom x0 x1 μ = some (r, μr)) : Met l yX8_copyFrom wsX8_copyFrom ({ frames := 0, cells := 0, slots := 0, locals := 0 }) (q_Pc E μ [.ref (E.2.2.2 x0), .ref (E.2.2.2 x1)]) (q_Qv E r μr) 0 0 (q_A E) := by
  refine q_met (cc := cX8_copyFrom) (maxL := 3) (ret := none) hE (by decide) rfl (Nat.le_of_ble_eq_true rfl) ?_
  intro p e s m below meth c hx hb hr hml hown hts hlk F S ls hl
  have hl : lv_has ls 3 [(0, .ref (E.2.2.2 x0)), (1, .ref (E.2.2.2 x1))] := hl
  have i8 : ∀ w ∈ u_ws RX8 TX8 1, w ∈ wsX8_copyFrom := by decide +kernel
  have hL2 : ∀ (Kx : q_M → Option (Unit × q_M)), (∀ (μ : q_M) (H : Heap) (locs : List Loc) (ls : Array Slot), q_S E (q_A E) s μ H locs → lv_has ls 3 [] → Kx μ = some (r, μr) → W p l e ({ frames := 0, cells := 0, slots := 0, locals := 0 }) s m ([.ref (E.2.2.2 x0), .ref (E.2.2.2 x1)] : List Value).toArray below meth c H locs 0 0 (MQ below (q_Qv E r μr) ([.ref (E.2.2.2 x0), .ref (E.2.2.2 x1)] : List Value).toArray s 0 0 (q_A E)) (F0 m 25 ls [])) → ∀ (n : Nat), ∀ (v2 : Int32), ∀ (μ : q_M) (H : Heap) (locs : List Loc) (ls : Array Slot), q_S E (q_A E) s μ H locs → lv_has ls 3 [(0, .ref (E.2.2.2 x0)), (1, .ref (E.2.2.2 x1)), (2, .int v2)] → L_X8_copyFrom_2 x0 x1 Kx n v2 μ = some (r, μr) → W p l e ({ frames := 0, cells := 0, slots := 0, locals := 0 }) s m ([.ref (E.2.2.2 x0), .ref (E.2.2.2 x1)] : List Value).toArray below meth c H locs 0 0 (MQ below (q_Qv E r μr) ([.ref (E.2.2.2 x0), .ref (E.2.2.2 x1)] : List Value).toArray s 0 0 (q_A E)) (F0 m 2 ls []) := by
    intro Kx hKx n
    induction n with
    | zero => intro v2 μ H locs ls S hl h; exact absurd h (by simp [L_X8_copyFrom_2])
    | succ n ih =>
      intro v2 μ H locs ls S hl h
      rw [L_X8_copyFrom_2] at h
      refine lv_iload_n hx hb dX8_copyFrom_2 rfl (lv_at hl 2 rfl) ?_
      refine lv_iconst (v := 4) hx hb dX8_copyFrom_3 (by decide) ?_
      refine lv_icmp_ge (tgt := 25) hx hb dX8_copyFrom_4 (by decide) (fun c1 => ?_) (fun c1 => ?_)
      · have h := q_ip c1 h
        exact hKx μ H locs ls S (lv_sub hl [] rfl) h
      · have h := q_ig c1 h
        refine lv_aload_n hx hb dX8_copyFrom_7 rfl (lv_at hl 0 rfl) ?_
        refine q_getr (own := RX8) (C := RX8) (T := TX8) (N := 1) (ci := 8) (j := 0)  hx hb hts i8 hown F S kx0 (by decide) rfl (by decide) (by decide) rfl (q_p_8_0 kx0) (hts (.fieldLink RX8 9 "HeavyRoutes$Wide" "limbs" "[J") (by decide +kernel)) dX8_copyFrom_8 ?_
        refine lv_iload_n hx hb dX8_copyFrom_11 rfl (lv_at hl 2 rfl) ?_
        refine lv_aload_n hx hb dX8_copyFrom_12 rfl (lv_at hl 1 rfl) ?_
        refine q_getr (own := RX8) (C := RX8) (T := TX8) (N := 1) (ci := 8) (j := 0)  hx hb hts i8 hown F S kx1 (by decide) rfl (by decide) (by decide) rfl (q_p_8_0 kx1) (hts (.fieldLink RX8 9 "HeavyRoutes$Wide" "limbs" "[J") (by decide +kernel)) dX8_copyFrom_13 ?_
        refine lv_iload_n hx hb dX8_copyFrom_16 rfl (lv_at hl 2 rfl) ?_
        obtain ⟨g2, h⟩ := q_gd_some h
        refine q_lald hx hb F S (q_k_8_0 kx1) (q_n_8_0 kx1) g2 dX8_copyFrom_17 ?_
        refine q_last hx hb F S (q_k_8_0 kx0) (q_n_8_0 kx0) g2 dX8_copyFrom_18 (fun H locs μ3 eμ3 S => ?_)
        have h := q_le_e h eμ3
        obtain ⟨y4, ey4⟩ : ∃ z : Int32, z = v2 + 1 := ⟨_, rfl⟩
        have h := q_le_e h ey4
        refine lv_iinc (v := y4) (lv' := [(2, .int y4), (0, .ref (E.2.2.2 x0)), (1, .ref (E.2.2.2 x1))]) hx hb dX8_copyFrom_19 hl (k := 2) rfl (by rw [ey4]; rfl) (by decide) rfl (fun ls hl => ?_)
        refine lv_goto (tgt := 2) hx hb dX8_copyFrom_22 (by decide) ?_
        exact ih y4 μ3 H locs ls S (lv_sub hl [1, 2, 0] rfl) h
  unfold f_X8_copyFrom at h
  obtain ⟨H, eH⟩ : ∃ z, z = s.heap := ⟨_, rfl⟩
  obtain ⟨locs, eL⟩ : ∃ z : List Loc, z = [] := ⟨_, rfl⟩
  rw [← eH, ← eL] at S
  suffices hh : W p l e ({ frames := 0, cells := 0, slots := 0, locals := 0 }) s m ([.ref (E.2.2.2 x0), .ref (E.2.2.2 x1)] : List Value).toArray below meth c H locs 0 0 (MQ below (q_Qv E r μr) ([.ref (E.2.2.2 x0), .ref (E.2.2.2 x1)] : List Value).toArray s 0 0 (q_A E)) (F0 m 0 ls []) by rw [eH, eL] at hh; exact hh
  refine lv_iconst (v := 0) hx hb dX8_copyFrom_0 (by decide) ?_
  refine lv_istore_n (lv' := [(2, .int 0), (0, .ref (E.2.2.2 x0)), (1, .ref (E.2.2.2 x1))]) hx hb dX8_copyFrom_1 rfl hl (by decide) rfl (fun ls hl => ?_)
  refine hL2 _ (fun μ H locs ls S hl h => ?_) q_fu 0 μ H locs ls S (lv_sub hl [1, 2, 0] rfl) h
  exact q_vret hx hb hr S h hlk dX8_copyFrom_25
def L_X8_remainder_13 (x0 : Nat) (x1 : Int64) (Kx : Int64 → q_M → Option (Int64 × q_M)) : Nat → Int64 → Int32 → q_M → Option (Int64 × q_M)
  | 0, _, _, _ => none
  | n + 1, v3, v5, μ => (if v5 < 0 then Kx v3 μ else q_gd (q_ix v5 4) (q_gd (decide (¬ (x1 = 0))) (q_le ((q_rl ((v3 * 1000000000) + (μ.2 (x0 + 16) v5.toNatClampNeg)) x1) : Int64) (fun y5 => q_le (v5 + (-1) : Int32) (fun y6 => (L_X8_remainder_13 x0 x1 Kx n) y5 y6 μ)))))
def f_X8_remainder (x0 : Nat) (x1 : Int64) (μ : q_M) : Option (Int64 × q_M) := (if 0 ≤ (lg_cmp x1 1) then L_X8_remainder_13 x0 x1 (fun v3 μ => some (v3, μ)) q_fu 0 3 μ else some (0, μ))
set_option maxHeartbeats 4000000 in
set_option maxRecDepth 100000 in
theorem c_X8_remainder (l : Launch) (E : q_E) (hE : q_I E) (x0 : Nat) (x1 : Int64) (kx0 : q_kd x0 = 8) (μ μr : q_M) (r : Int64) (h : f_X8_remainder x0 x1 μ = some (r, μr)) : Met l yX8_remainder wsX8_remainder ({ frames := 0, cells := 0, slots := 0, locals := 0 }) (q_Pc E μ [.ref (E.2.2.2 x0), .long x1]) (q_Ql E r μr) 0 0 (q_A E) := by
  refine q_met (cc := cX8_remainder) (maxL := 6) (ret := (some .long)) hE (by decide) rfl (Nat.le_of_ble_eq_true rfl) ?_
  intro p e s m below meth c hx hb hr hml hown hts hlk F S ls hl
  have hl : lv_has ls 6 [(0, .ref (E.2.2.2 x0)), (1, .long x1)] := hl
  have i8 : ∀ w ∈ u_ws RX8 TX8 1, w ∈ wsX8_remainder := by decide +kernel
  have hL13 : ∀ (Kx : Int64 → q_M → Option (Int64 × q_M)), (∀ (v3 : Int64), ∀ (μ : q_M) (H : Heap) (locs : List Loc) (ls : Array Slot), q_S E (q_A E) s μ H locs → lv_has ls 6 [(3, .long v3)] → Kx v3 μ = some (r, μr) → W p l e ({ frames := 0, cells := 0, slots := 0, locals := 0 }) s m ([.ref (E.2.2.2 x0), .long x1] : List Value).toArray below meth c H locs 0 0 (MQ below (q_Ql E r μr) ([.ref (E.2.2.2 x0), .long x1] : List Value).toArray s 0 0 (q_A E)) (F0 m 40 ls [])) → ∀ (n : Nat), ∀ (v3 : Int64), ∀ (v5 : Int32), ∀ (μ : q_M) (H : Heap) (locs : List Loc) (ls : Array Slot), q_S E (q_A E) s μ H locs → lv_has ls 6 [(0, .ref (E.2.2.2 x0)), (1, .long x1), (3, .long v3), (5, .int v5)] → L_X8_remainder_13 x0 x1 Kx n v3 v5 μ = some (r, μr) → W p l e ({ frames := 0, cells := 0, slots := 0, locals := 0 }) s m ([.ref (E.2.2.2 x0), .long x1] : List Value).toArray below meth c H locs 0 0 (MQ below (q_Ql E r μr) ([.ref (E.2.2.2 x0), .long x1] : List Value).toArray s 0 0 (q_A E)) (F0 m 13 ls []) := by
    intro Kx hKx n
    induction n with
    | zero => intro v3 v5 μ H locs ls S hl h; exact absurd h (by simp [L_X8_remainder_13])
    | succ n ih =>
      intro v3 v5 μ H locs ls S hl h
      rw [L_X8_remainder_13] at h
      refine lv_iload hx hb dX8_remainder_13 (lv_at hl 3 rfl) ?_
      refine lv_if_lt (tgt := 40) hx hb dX8_remainder_15 (by decide) (fun c2 => ?_) (fun c2 => ?_)
      · have h := q_ip c2 h
        exact hKx v3 μ H locs ls S (lv_sub hl [2] rfl) h
      · have h := q_ig c2 h
        refine lv_lload_n hx hb dX8_remainder_18 rfl (lv_at hl 2 rfl) ?_
        refine lv_ldc2 (v := 1000000000) hx hb hown (hts (.constantLong RX8 13 (1000000000)) (by decide +kernel)) dX8_remainder_19 ?_
        refine lv_lmul hx hb dX8_remainder_22 ?_
        refine lv_aload_n hx hb dX8_remainder_23 rfl (lv_at hl 0 rfl) ?_
        refine q_getr (own := RX8) (C := RX8) (T := TX8) (N := 1) (ci := 8) (j := 0)  hx hb hts i8 hown F S kx0 (by decide) rfl (by decide) (by decide) rfl (q_p_8_0 kx0) (hts (.fieldLink RX8 9 "HeavyRoutes$Wide" "limbs" "[J") (by decide +kernel)) dX8_remainder_24 ?_
        refine lv_iload hx hb dX8_remainder_27 (lv_at hl 3 rfl) ?_
        obtain ⟨g3, h⟩ := q_gd_some h
        refine q_lald hx hb F S (q_k_8_0 kx0) (q_n_8_0 kx0) g3 dX8_remainder_29 ?_
        refine lv_ladd hx hb dX8_remainder_30 ?_
        refine lv_lload_n hx hb dX8_remainder_31 rfl (lv_at hl 1 rfl) ?_
        obtain ⟨g4, h⟩ := q_gd_some h
        refine lv_lrem hx hb dX8_remainder_32 (of_decide_eq_true g4) ?_
        refine lv_topl (fun y5 ey5 => ?_)
        have h := q_le_e h ey5
        refine lv_lstore_n (lv' := [(3, .long y5), (0, .ref (E.2.2.2 x0)), (1, .long x1), (5, .int v5)]) hx hb dX8_remainder_33 rfl hl (by decide) rfl (fun ls hl => ?_)
        obtain ⟨y6, ey6⟩ : ∃ z : Int32, z = v5 + (-1) := ⟨_, rfl⟩
        have h := q_le_e h ey6
        refine lv_iinc (v := y6) (lv' := [(5, .int y6), (3, .long y5), (0, .ref (E.2.2.2 x0)), (1, .long x1)]) hx hb dX8_remainder_34 hl (k := 3) rfl (by rw [ey6]; rfl) (by decide) rfl (fun ls hl => ?_)
        refine lv_goto (tgt := 13) hx hb dX8_remainder_37 (by decide) ?_
        exact ih y5 y6 μ H locs ls S (lv_sub hl [2, 3, 1, 0] rfl) h
  unfold f_X8_remainder at h
  obtain ⟨H, eH⟩ : ∃ z, z = s.heap := ⟨_, rfl⟩
  obtain ⟨locs, eL⟩ : ∃ z : List Loc, z = [] := ⟨_, rfl⟩
  rw [← eH, ← eL] at S
  suffices hh : W p l e ({ frames := 0, cells := 0, slots := 0, locals := 0 }) s m ([.ref (E.2.2.2 x0), .long x1] : List Value).toArray below meth c H locs 0 0 (MQ below (q_Ql E r μr) ([.ref (E.2.2.2 x0), .long x1] : List Value).toArray s 0 0 (q_A E)) (F0 m 0 ls []) by rw [eH, eL] at hh; exact hh
  refine lv_lload_n hx hb dX8_remainder_0 rfl (lv_at hl 1 rfl) ?_
  refine lv_lconst (v := 1) hx hb dX8_remainder_1 (by decide) ?_
  refine W.lcmp hx hb dX8_remainder_2 ?_
  refine lv_if_ge (tgt := 8) hx hb dX8_remainder_3 (by decide) (fun c1 => ?_) (fun c1 => ?_)
  · have h := q_ip c1 h
    refine lv_lconst (v := 0) hx hb dX8_remainder_8 (by decide) ?_
    refine lv_lstore_n (lv' := [(3, .long 0), (0, .ref (E.2.2.2 x0)), (1, .long x1)]) hx hb dX8_remainder_9 rfl hl (by decide) rfl (fun ls hl => ?_)
    refine lv_iconst (v := 3) hx hb dX8_remainder_10 (by decide) ?_
    refine lv_istore (lv' := [(5, .int 3), (3, .long 0), (0, .ref (E.2.2.2 x0)), (1, .long x1)]) hx hb dX8_remainder_11 hl (by decide) rfl (fun ls hl => ?_)
    refine hL13 _ (fun v3 μ H locs ls S hl h => ?_) q_fu 0 3 μ H locs ls S (lv_sub hl [2, 3, 1, 0] rfl) h
    refine lv_lload_n hx hb dX8_remainder_40 rfl (lv_at hl 0 rfl) ?_
    exact q_lret hx hb hr S h hlk dX8_remainder_41
  · have h := q_ig c1 h
    refine lv_lconst (v := 0) hx hb dX8_remainder_6 (by decide) ?_
    exact q_lret hx hb hr S h hlk dX8_remainder_7
def L_X8_divide_12 (x0 : Nat) (x1 : Int64) (Kx : q_M → Option (Unit × q_M)) : Nat → Int64 → Int32 → q_M → Option (Unit × q_M)
  | 0, _, _, _ => none
  | n + 1, v3, v5, μ => (if v5 < 0 then Kx μ else q_gd (q_ix v5 4) (q_le (((v3 * 1000000000) + (μ.2 (x0 + 16) v5.toNatClampNeg)) : Int64) (fun y4 => q_gd (decide (¬ (x1 = 0))) (q_le (q_sl μ (x0 + 16) v5.toNatClampNeg (y4 / x1)) (fun μ6 => q_le ((q_rl y4 x1) : Int64) (fun y7 => q_le (v5 + (-1) : Int32) (fun y8 => (L_X8_divide_12 x0 x1 Kx n) y7 y8 μ6)))))))
def f_X8_divide (x0 : Nat) (x1 : Int64) (μ : q_M) : Option (Unit × q_M) := (if 0 ≤ (lg_cmp x1 1) then L_X8_divide_12 x0 x1 (fun μ => some ((), μ)) q_fu 0 3 μ else some ((), μ))
set_option maxHeartbeats 4000000 in
set_option maxRecDepth 100000 in
theorem c_X8_divide (l : Launch) (E : q_E) (hE : q_I E) (x0 : Nat) (x1 : Int64) (kx0 : q_kd x0 = 8) (μ μr : q_M) (r : Unit) (h : f_X8_divide x0 x1 μ = some (r, μr)) : Met l yX8_divide wsX8_divide ({ frames := 0, cells := 0, slots := 0, locals := 0 }) (q_Pc E μ [.ref (E.2.2.2 x0), .long x1]) (q_Qv E r μr) 0 0 (q_A E) := by
  refine q_met (cc := cX8_divide) (maxL := 8) (ret := none) hE (by decide) rfl (Nat.le_of_ble_eq_true rfl) ?_
  intro p e s m below meth c hx hb hr hml hown hts hlk F S ls hl
  have hl : lv_has ls 8 [(0, .ref (E.2.2.2 x0)), (1, .long x1)] := hl
  have i8 : ∀ w ∈ u_ws RX8 TX8 1, w ∈ wsX8_divide := by decide +kernel
  have hL12 : ∀ (Kx : q_M → Option (Unit × q_M)), (∀ (μ : q_M) (H : Heap) (locs : List Loc) (ls : Array Slot), q_S E (q_A E) s μ H locs → lv_has ls 8 [] → Kx μ = some (r, μr) → W p l e ({ frames := 0, cells := 0, slots := 0, locals := 0 }) s m ([.ref (E.2.2.2 x0), .long x1] : List Value).toArray below meth c H locs 0 0 (MQ below (q_Qv E r μr) ([.ref (E.2.2.2 x0), .long x1] : List Value).toArray s 0 0 (q_A E)) (F0 m 54 ls [])) → ∀ (n : Nat), ∀ (v3 : Int64), ∀ (v5 : Int32), ∀ (μ : q_M) (H : Heap) (locs : List Loc) (ls : Array Slot), q_S E (q_A E) s μ H locs → lv_has ls 8 [(0, .ref (E.2.2.2 x0)), (1, .long x1), (3, .long v3), (5, .int v5)] → L_X8_divide_12 x0 x1 Kx n v3 v5 μ = some (r, μr) → W p l e ({ frames := 0, cells := 0, slots := 0, locals := 0 }) s m ([.ref (E.2.2.2 x0), .long x1] : List Value).toArray below meth c H locs 0 0 (MQ below (q_Qv E r μr) ([.ref (E.2.2.2 x0), .long x1] : List Value).toArray s 0 0 (q_A E)) (F0 m 12 ls []) := by
    intro Kx hKx n
    induction n with
    | zero => intro v3 v5 μ H locs ls S hl h; exact absurd h (by simp [L_X8_divide_12])
    | succ n ih =>
      intro v3 v5 μ H locs ls S hl h
      rw [L_X8_divide_12] at h
      refine lv_iload hx hb dX8_divide_12 (lv_at hl 3 rfl) ?_
      refine lv_if_lt (tgt := 54) hx hb dX8_divide_14 (by decide) (fun c2 => ?_) (fun c2 => ?_)
      · have h := q_ip c2 h
        exact hKx μ H locs ls S (lv_sub hl [] rfl) h
      · have h := q_ig c2 h
        refine lv_lload_n hx hb dX8_divide_17 rfl (lv_at hl 2 rfl) ?_
        refine lv_ldc2 (v := 1000000000) hx hb hown (hts (.constantLong RX8 13 (1000000000)) (by decide +kernel)) dX8_divide_18 ?_
        refine lv_lmul hx hb dX8_divide_21 ?_
        refine lv_aload_n hx hb dX8_divide_22 rfl (lv_at hl 0 rfl) ?_
        refine q_getr (own := RX8) (C := RX8) (T := TX8) (N := 1) (ci := 8) (j := 0)  hx hb hts i8 hown F S kx0 (by decide) rfl (by decide) (by decide) rfl (q_p_8_0 kx0) (hts (.fieldLink RX8 9 "HeavyRoutes$Wide" "limbs" "[J") (by decide +kernel)) dX8_divide_23 ?_
        refine lv_iload hx hb dX8_divide_26 (lv_at hl 3 rfl) ?_
        obtain ⟨g3, h⟩ := q_gd_some h
        refine q_lald hx hb F S (q_k_8_0 kx0) (q_n_8_0 kx0) g3 dX8_divide_28 ?_
        refine lv_ladd hx hb dX8_divide_29 ?_
        refine lv_topl (fun y4 ey4 => ?_)
        have h := q_le_e h ey4
        refine lv_lstore (lv' := [(6, .long y4), (0, .ref (E.2.2.2 x0)), (1, .long x1), (3, .long v3), (5, .int v5)]) hx hb dX8_divide_30 hl (by decide) rfl (fun ls hl => ?_)
        refine lv_aload_n hx hb dX8_divide_32 rfl (lv_at hl 1 rfl) ?_
        refine q_getr (own := RX8) (C := RX8) (T := TX8) (N := 1) (ci := 8) (j := 0)  hx hb hts i8 hown F S kx0 (by decide) rfl (by decide) (by decide) rfl (q_p_8_0 kx0) (hts (.fieldLink RX8 9 "HeavyRoutes$Wide" "limbs" "[J") (by decide +kernel)) dX8_divide_33 ?_
        refine lv_iload hx hb dX8_divide_36 (lv_at hl 4 rfl) ?_
        refine lv_lload hx hb dX8_divide_38 (lv_at hl 0 rfl) ?_
        refine lv_lload_n hx hb dX8_divide_40 rfl (lv_at hl 2 rfl) ?_
        obtain ⟨g5, h⟩ := q_gd_some h
        refine lv_ldiv hx hb dX8_divide_41 (of_decide_eq_true g5) ?_
        refine q_last hx hb F S (q_k_8_0 kx0) (q_n_8_0 kx0) g3 dX8_divide_42 (fun H locs μ6 eμ6 S => ?_)
        have h := q_le_e h eμ6
        refine lv_lload hx hb dX8_divide_43 (lv_at hl 0 rfl) ?_
        refine lv_lload_n hx hb dX8_divide_45 rfl (lv_at hl 2 rfl) ?_
        refine lv_lrem hx hb dX8_divide_46 (of_decide_eq_true g5) ?_
        refine lv_topl (fun y7 ey7 => ?_)
        have h := q_le_e h ey7
        refine lv_lstore_n (lv' := [(3, .long y7), (6, .long y4), (0, .ref (E.2.2.2 x0)), (1, .long x1), (5, .int v5)]) hx hb dX8_divide_47 rfl hl (by decide) rfl (fun ls hl => ?_)
        obtain ⟨y8, ey8⟩ : ∃ z : Int32, z = v5 + (-1) := ⟨_, rfl⟩
        have h := q_le_e h ey8
        refine lv_iinc (v := y8) (lv' := [(5, .int y8), (3, .long y7), (6, .long y4), (0, .ref (E.2.2.2 x0)), (1, .long x1)]) hx hb dX8_divide_48 hl (k := 4) rfl (by rw [ey8]; rfl) (by decide) rfl (fun ls hl => ?_)
        refine lv_goto (tgt := 12) hx hb dX8_divide_51 (by decide) ?_
        exact ih y7 y8 μ6 H locs ls S (lv_sub hl [3, 4, 1, 0] rfl) h
  unfold f_X8_divide at h
  obtain ⟨H, eH⟩ : ∃ z, z = s.heap := ⟨_, rfl⟩
  obtain ⟨locs, eL⟩ : ∃ z : List Loc, z = [] := ⟨_, rfl⟩
  rw [← eH, ← eL] at S
  suffices hh : W p l e ({ frames := 0, cells := 0, slots := 0, locals := 0 }) s m ([.ref (E.2.2.2 x0), .long x1] : List Value).toArray below meth c H locs 0 0 (MQ below (q_Qv E r μr) ([.ref (E.2.2.2 x0), .long x1] : List Value).toArray s 0 0 (q_A E)) (F0 m 0 ls []) by rw [eH, eL] at hh; exact hh
  refine lv_lload_n hx hb dX8_divide_0 rfl (lv_at hl 1 rfl) ?_
  refine lv_lconst (v := 1) hx hb dX8_divide_1 (by decide) ?_
  refine W.lcmp hx hb dX8_divide_2 ?_
  refine lv_if_ge (tgt := 7) hx hb dX8_divide_3 (by decide) (fun c1 => ?_) (fun c1 => ?_)
  · have h := q_ip c1 h
    refine lv_lconst (v := 0) hx hb dX8_divide_7 (by decide) ?_
    refine lv_lstore_n (lv' := [(3, .long 0), (0, .ref (E.2.2.2 x0)), (1, .long x1)]) hx hb dX8_divide_8 rfl hl (by decide) rfl (fun ls hl => ?_)
    refine lv_iconst (v := 3) hx hb dX8_divide_9 (by decide) ?_
    refine lv_istore (lv' := [(5, .int 3), (3, .long 0), (0, .ref (E.2.2.2 x0)), (1, .long x1)]) hx hb dX8_divide_10 hl (by decide) rfl (fun ls hl => ?_)
    refine hL12 _ (fun μ H locs ls S hl h => ?_) q_fu 0 3 μ H locs ls S (lv_sub hl [2, 3, 1, 0] rfl) h
    exact q_vret hx hb hr S h hlk dX8_divide_54
  · have h := q_ig c1 h
    exact q_vret hx hb hr S h hlk dX8_divide_6
def L_X8_multiply_5 (x0 : Nat) (x1 : Int64) (Kx : q_M → Option (Unit × q_M)) : Nat → Int64 → Int32 → q_M → Option (Unit × q_M)
  | 0, _, _, _ => none
  | n + 1, v3, v5, μ => (if 4 ≤ v5 then Kx μ else q_gd (q_ix v5 4) (q_le ((((μ.2 (x0 + 16) v5.toNatClampNeg) * x1) + v3) : Int64) (fun y3 => q_le (q_sl μ (x0 + 16) v5.toNatClampNeg (q_rl y3 1000000000)) (fun μ4 => q_le ((y3 / 1000000000) : Int64) (fun y5 => q_le (v5 + 1 : Int32) (fun y6 => (L_X8_multiply_5 x0 x1 Kx n) y5 y6 μ4))))))
def f_X8_multiply (x0 : Nat) (x1 : Int64) (μ : q_M) : Option (Unit × q_M) := L_X8_multiply_5 x0 x1 (fun μ => some ((), μ)) q_fu 0 0 μ
set_option maxHeartbeats 4000000 in
set_option maxRecDepth 100000 in
theorem c_X8_multiply (l : Launch) (E : q_E) (hE : q_I E) (x0 : Nat) (x1 : Int64) (kx0 : q_kd x0 = 8) (μ μr : q_M) (r : Unit) (h : f_X8_multiply x0 x1 μ = some (r, μr)) : Met l yX8_multiply wsX8_multiply ({ frames := 0, cells := 0, slots := 0, locals := 0 }) (q_Pc E μ [.ref (E.2.2.2 x0), .long x1]) (q_Qv E r μr) 0 0 (q_A E) := by
  refine q_met (cc := cX8_multiply) (maxL := 8) (ret := none) hE (by decide) rfl (Nat.le_of_ble_eq_true rfl) ?_
  intro p e s m below meth c hx hb hr hml hown hts hlk F S ls hl
  have hl : lv_has ls 8 [(0, .ref (E.2.2.2 x0)), (1, .long x1)] := hl
  have i8 : ∀ w ∈ u_ws RX8 TX8 1, w ∈ wsX8_multiply := by decide +kernel
  have hL5 : ∀ (Kx : q_M → Option (Unit × q_M)), (∀ (μ : q_M) (H : Heap) (locs : List Loc) (ls : Array Slot), q_S E (q_A E) s μ H locs → lv_has ls 8 [] → Kx μ = some (r, μr) → W p l e ({ frames := 0, cells := 0, slots := 0, locals := 0 }) s m ([.ref (E.2.2.2 x0), .long x1] : List Value).toArray below meth c H locs 0 0 (MQ below (q_Qv E r μr) ([.ref (E.2.2.2 x0), .long x1] : List Value).toArray s 0 0 (q_A E)) (F0 m 50 ls [])) → ∀ (n : Nat), ∀ (v3 : Int64), ∀ (v5 : Int32), ∀ (μ : q_M) (H : Heap) (locs : List Loc) (ls : Array Slot), q_S E (q_A E) s μ H locs → lv_has ls 8 [(0, .ref (E.2.2.2 x0)), (1, .long x1), (3, .long v3), (5, .int v5)] → L_X8_multiply_5 x0 x1 Kx n v3 v5 μ = some (r, μr) → W p l e ({ frames := 0, cells := 0, slots := 0, locals := 0 }) s m ([.ref (E.2.2.2 x0), .long x1] : List Value).toArray below meth c H locs 0 0 (MQ below (q_Qv E r μr) ([.ref (E.2.2.2 x0), .long x1] : List Value).toArray s 0 0 (q_A E)) (F0 m 5 ls []) := by
    intro Kx hKx n
    induction n with
    | zero => intro v3 v5 μ H locs ls S hl h; exact absurd h (by simp [L_X8_multiply_5])
    | succ n ih =>
      intro v3 v5 μ H locs ls S hl h
      rw [L_X8_multiply_5] at h
      refine lv_iload hx hb dX8_multiply_5 (lv_at hl 3 rfl) ?_
      refine lv_iconst (v := 4) hx hb dX8_multiply_7 (by decide) ?_
      refine lv_icmp_ge (tgt := 50) hx hb dX8_multiply_8 (by decide) (fun c1 => ?_) (fun c1 => ?_)
      · have h := q_ip c1 h
        exact hKx μ H locs ls S (lv_sub hl [] rfl) h
      · have h := q_ig c1 h
        refine lv_aload_n hx hb dX8_multiply_11 rfl (lv_at hl 0 rfl) ?_
        refine q_getr (own := RX8) (C := RX8) (T := TX8) (N := 1) (ci := 8) (j := 0)  hx hb hts i8 hown F S kx0 (by decide) rfl (by decide) (by decide) rfl (q_p_8_0 kx0) (hts (.fieldLink RX8 9 "HeavyRoutes$Wide" "limbs" "[J") (by decide +kernel)) dX8_multiply_12 ?_
        refine lv_iload hx hb dX8_multiply_15 (lv_at hl 3 rfl) ?_
        obtain ⟨g2, h⟩ := q_gd_some h
        refine q_lald hx hb F S (q_k_8_0 kx0) (q_n_8_0 kx0) g2 dX8_multiply_17 ?_
        refine lv_lload_n hx hb dX8_multiply_18 rfl (lv_at hl 1 rfl) ?_
        refine lv_lmul hx hb dX8_multiply_19 ?_
        refine lv_lload_n hx hb dX8_multiply_20 rfl (lv_at hl 2 rfl) ?_
        refine lv_ladd hx hb dX8_multiply_21 ?_
        refine lv_topl (fun y3 ey3 => ?_)
        have h := q_le_e h ey3
        refine lv_lstore (lv' := [(6, .long y3), (0, .ref (E.2.2.2 x0)), (1, .long x1), (3, .long v3), (5, .int v5)]) hx hb dX8_multiply_22 hl (by decide) rfl (fun ls hl => ?_)
        refine lv_aload_n hx hb dX8_multiply_24 rfl (lv_at hl 1 rfl) ?_
        refine q_getr (own := RX8) (C := RX8) (T := TX8) (N := 1) (ci := 8) (j := 0)  hx hb hts i8 hown F S kx0 (by decide) rfl (by decide) (by decide) rfl (q_p_8_0 kx0) (hts (.fieldLink RX8 9 "HeavyRoutes$Wide" "limbs" "[J") (by decide +kernel)) dX8_multiply_25 ?_
        refine lv_iload hx hb dX8_multiply_28 (lv_at hl 4 rfl) ?_
        refine lv_lload hx hb dX8_multiply_30 (lv_at hl 0 rfl) ?_
        refine lv_ldc2 (v := 1000000000) hx hb hown (hts (.constantLong RX8 13 (1000000000)) (by decide +kernel)) dX8_multiply_32 ?_
        refine lv_lrem hx hb dX8_multiply_35 (by decide) ?_
        refine q_last hx hb F S (q_k_8_0 kx0) (q_n_8_0 kx0) g2 dX8_multiply_36 (fun H locs μ4 eμ4 S => ?_)
        have h := q_le_e h eμ4
        refine lv_lload hx hb dX8_multiply_37 (lv_at hl 0 rfl) ?_
        refine lv_ldc2 (v := 1000000000) hx hb hown (hts (.constantLong RX8 13 (1000000000)) (by decide +kernel)) dX8_multiply_39 ?_
        refine lv_ldiv hx hb dX8_multiply_42 (by decide) ?_
        refine lv_topl (fun y5 ey5 => ?_)
        have h := q_le_e h ey5
        refine lv_lstore_n (lv' := [(3, .long y5), (6, .long y3), (0, .ref (E.2.2.2 x0)), (1, .long x1), (5, .int v5)]) hx hb dX8_multiply_43 rfl hl (by decide) rfl (fun ls hl => ?_)
        obtain ⟨y6, ey6⟩ : ∃ z : Int32, z = v5 + 1 := ⟨_, rfl⟩
        have h := q_le_e h ey6
        refine lv_iinc (v := y6) (lv' := [(5, .int y6), (3, .long y5), (6, .long y3), (0, .ref (E.2.2.2 x0)), (1, .long x1)]) hx hb dX8_multiply_44 hl (k := 4) rfl (by rw [ey6]; rfl) (by decide) rfl (fun ls hl => ?_)
        refine lv_goto (tgt := 5) hx hb dX8_multiply_47 (by decide) ?_
        exact ih y5 y6 μ4 H locs ls S (lv_sub hl [3, 4, 1, 0] rfl) h
  unfold f_X8_multiply at h
  obtain ⟨H, eH⟩ : ∃ z, z = s.heap := ⟨_, rfl⟩
  obtain ⟨locs, eL⟩ : ∃ z : List Loc, z = [] := ⟨_, rfl⟩
  rw [← eH, ← eL] at S
  suffices hh : W p l e ({ frames := 0, cells := 0, slots := 0, locals := 0 }) s m ([.ref (E.2.2.2 x0), .long x1] : List Value).toArray below meth c H locs 0 0 (MQ below (q_Qv E r μr) ([.ref (E.2.2.2 x0), .long x1] : List Value).toArray s 0 0 (q_A E)) (F0 m 0 ls []) by rw [eH, eL] at hh; exact hh
  refine lv_lconst (v := 0) hx hb dX8_multiply_0 (by decide) ?_
  refine lv_lstore_n (lv' := [(3, .long 0), (0, .ref (E.2.2.2 x0)), (1, .long x1)]) hx hb dX8_multiply_1 rfl hl (by decide) rfl (fun ls hl => ?_)
  refine lv_iconst (v := 0) hx hb dX8_multiply_2 (by decide) ?_
  refine lv_istore (lv' := [(5, .int 0), (3, .long 0), (0, .ref (E.2.2.2 x0)), (1, .long x1)]) hx hb dX8_multiply_3 hl (by decide) rfl (fun ls hl => ?_)
  refine hL5 _ (fun μ H locs ls S hl h => ?_) q_fu 0 0 μ H locs ls S (lv_sub hl [2, 3, 1, 0] rfl) h
  exact q_vret hx hb hr S h hlk dX8_multiply_50
def f_X7_hasPlace (x0 : Nat) (x1 : Int32) (μ : q_M) : Option (Int32 × q_M) := (if x1 < 0 then some (0, μ) else (if (μ.1 x0 2) ≤ x1 then some (0, μ) else some (1, μ)))
set_option maxHeartbeats 4000000 in
set_option maxRecDepth 100000 in
theorem c_X7_hasPlace (l : Launch) (E : q_E) (hE : q_I E) (x0 : Nat) (x1 : Int32) (kx0 : q_kd x0 = 7) (μ μr : q_M) (r : Int32) (h : f_X7_hasPlace x0 x1 μ = some (r, μr)) : Met l yX7_hasPlace wsX7_hasPlace ({ frames := 0, cells := 0, slots := 0, locals := 0 }) (q_Pc E μ [.ref (E.2.2.2 x0), .int x1]) (q_Qi E r μr) 0 0 (q_A E) := by
  refine q_met (cc := cX7_hasPlace) (maxL := 2) (ret := (some .boolean)) hE (by decide) rfl (Nat.le_of_ble_eq_true rfl) ?_
  intro p e s m below meth c hx hb hr hml hown hts hlk F S ls hl
  have hl : lv_has ls 2 [(0, .ref (E.2.2.2 x0)), (1, .int x1)] := hl
  have i7 : ∀ w ∈ u_ws RX7 TX7 6, w ∈ wsX7_hasPlace := by decide +kernel
  unfold f_X7_hasPlace at h
  obtain ⟨H, eH⟩ : ∃ z, z = s.heap := ⟨_, rfl⟩
  obtain ⟨locs, eL⟩ : ∃ z : List Loc, z = [] := ⟨_, rfl⟩
  rw [← eH, ← eL] at S
  suffices hh : W p l e ({ frames := 0, cells := 0, slots := 0, locals := 0 }) s m ([.ref (E.2.2.2 x0), .int x1] : List Value).toArray below meth c H locs 0 0 (MQ below (q_Qi E r μr) ([.ref (E.2.2.2 x0), .int x1] : List Value).toArray s 0 0 (q_A E)) (F0 m 0 ls []) by rw [eH, eL] at hh; exact hh
  refine lv_iload_n hx hb dX7_hasPlace_0 rfl (lv_at hl 1 rfl) ?_
  refine lv_if_lt (tgt := 16) hx hb dX7_hasPlace_1 (by decide) (fun c1 => ?_) (fun c1 => ?_)
  · have h := q_ip c1 h
    refine lv_iconst (v := 0) hx hb dX7_hasPlace_16 (by decide) ?_
    exact q_zret hx hb hr S (by decide) h hlk dX7_hasPlace_17
  · have h := q_ig c1 h
    refine lv_iload_n hx hb dX7_hasPlace_4 rfl (lv_at hl 1 rfl) ?_
    refine lv_aload_n hx hb dX7_hasPlace_5 rfl (lv_at hl 0 rfl) ?_
    refine q_geti (own := RX7) (C := RX7) (T := TX7) (N := 6) (ci := 7) (j := 2)  hx hb hts i7 hown F S kx0 (by decide) rfl (by decide) (by decide) rfl (hts (.fieldLink RX7 18 "HeavyRoutes$Way" "length" "I") (by decide +kernel)) dX7_hasPlace_6 ?_
    refine lv_icmp_ge (tgt := 16) hx hb dX7_hasPlace_9 (by decide) (fun c2 => ?_) (fun c2 => ?_)
    · have h := q_ip c2 h
      refine lv_iconst (v := 0) hx hb dX7_hasPlace_16 (by decide) ?_
      exact q_zret hx hb hr S (by decide) h hlk dX7_hasPlace_17
    · have h := q_ig c2 h
      refine lv_iconst (v := 1) hx hb dX7_hasPlace_12 (by decide) ?_
      refine lv_goto (tgt := 17) hx hb dX7_hasPlace_13 (by decide) ?_
      exact q_zret hx hb hr S (by decide) h hlk dX7_hasPlace_17
def f_X8_lowestEighteenDigits (x0 : Nat) (μ : q_M) : Option (Int64 × q_M) := q_gd (q_ix (1 : Int32) 4) (q_gd (q_ix (0 : Int32) 4) (some ((((μ.2 (x0 + 16) (1 : Int32).toNatClampNeg) * 1000000000) + (μ.2 (x0 + 16) (0 : Int32).toNatClampNeg)), μ)))
set_option maxHeartbeats 4000000 in
set_option maxRecDepth 100000 in
theorem c_X8_lowestEighteenDigits (l : Launch) (E : q_E) (hE : q_I E) (x0 : Nat) (kx0 : q_kd x0 = 8) (μ μr : q_M) (r : Int64) (h : f_X8_lowestEighteenDigits x0 μ = some (r, μr)) : Met l yX8_lowestEighteenDigits wsX8_lowestEighteenDigits ({ frames := 0, cells := 0, slots := 0, locals := 0 }) (q_Pc E μ [.ref (E.2.2.2 x0)]) (q_Ql E r μr) 0 0 (q_A E) := by
  refine q_met (cc := cX8_lowestEighteenDigits) (maxL := 1) (ret := (some .long)) hE (by decide) rfl (Nat.le_of_ble_eq_true rfl) ?_
  intro p e s m below meth c hx hb hr hml hown hts hlk F S ls hl
  have hl : lv_has ls 1 [(0, .ref (E.2.2.2 x0))] := hl
  have i8 : ∀ w ∈ u_ws RX8 TX8 1, w ∈ wsX8_lowestEighteenDigits := by decide +kernel
  unfold f_X8_lowestEighteenDigits at h
  obtain ⟨H, eH⟩ : ∃ z, z = s.heap := ⟨_, rfl⟩
  obtain ⟨locs, eL⟩ : ∃ z : List Loc, z = [] := ⟨_, rfl⟩
  rw [← eH, ← eL] at S
  suffices hh : W p l e ({ frames := 0, cells := 0, slots := 0, locals := 0 }) s m ([.ref (E.2.2.2 x0)] : List Value).toArray below meth c H locs 0 0 (MQ below (q_Ql E r μr) ([.ref (E.2.2.2 x0)] : List Value).toArray s 0 0 (q_A E)) (F0 m 0 ls []) by rw [eH, eL] at hh; exact hh
  refine lv_aload_n hx hb dX8_lowestEighteenDigits_0 rfl (lv_at hl 0 rfl) ?_
  refine q_getr (own := RX8) (C := RX8) (T := TX8) (N := 1) (ci := 8) (j := 0)  hx hb hts i8 hown F S kx0 (by decide) rfl (by decide) (by decide) rfl (q_p_8_0 kx0) (hts (.fieldLink RX8 9 "HeavyRoutes$Wide" "limbs" "[J") (by decide +kernel)) dX8_lowestEighteenDigits_1 ?_
  refine lv_iconst (v := 1) hx hb dX8_lowestEighteenDigits_4 (by decide) ?_
  obtain ⟨g1, h⟩ := q_gd_some h
  refine q_lald hx hb F S (q_k_8_0 kx0) (q_n_8_0 kx0) g1 dX8_lowestEighteenDigits_5 ?_
  refine lv_ldc2 (v := 1000000000) hx hb hown (hts (.constantLong RX8 13 (1000000000)) (by decide +kernel)) dX8_lowestEighteenDigits_6 ?_
  refine lv_lmul hx hb dX8_lowestEighteenDigits_9 ?_
  refine lv_aload_n hx hb dX8_lowestEighteenDigits_10 rfl (lv_at hl 0 rfl) ?_
  refine q_getr (own := RX8) (C := RX8) (T := TX8) (N := 1) (ci := 8) (j := 0)  hx hb hts i8 hown F S kx0 (by decide) rfl (by decide) (by decide) rfl (q_p_8_0 kx0) (hts (.fieldLink RX8 9 "HeavyRoutes$Wide" "limbs" "[J") (by decide +kernel)) dX8_lowestEighteenDigits_11 ?_
  refine lv_iconst (v := 0) hx hb dX8_lowestEighteenDigits_14 (by decide) ?_
  obtain ⟨g2, h⟩ := q_gd_some h
  refine q_lald hx hb F S (q_k_8_0 kx0) (q_n_8_0 kx0) g2 dX8_lowestEighteenDigits_15 ?_
  refine lv_ladd hx hb dX8_lowestEighteenDigits_16 ?_
  exact q_lret hx hb hr S h hlk dX8_lowestEighteenDigits_17
