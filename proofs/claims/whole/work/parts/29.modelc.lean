def L_X10_rating_59 (x1 : Int32) (x2 : Int32) (Kx : Int64 → q_M → Option (Int64 × q_M)) : Nat → Int64 → q_M → Option (Int64 × q_M)
  | 0, _, _ => none
  | n + 1, v3, μ => q_bd (f_X10_restOf (μ.2 137 41) (μ.2 137 42) v3 μ) (fun r13 μ11 => (if (lg_cmp r13 0) = 0 then q_bd (f_X10_restOf (μ11.2 137 43) (μ11.2 137 44) v3 μ11) (fun r17 μ15 => (if (lg_cmp r17 0) = 0 then q_bd (f_X10_divide (μ15.2 137 41) (μ15.2 137 42) v3 μ15) (fun u19 μ19 => q_le (q_sl μ19 137 41 (μ19.2 137 49)) (fun μ21 => q_le (q_sl μ21 137 42 (μ21.2 137 50)) (fun μ22 => q_bd (f_X10_divide (μ22.2 137 43) (μ22.2 137 44) v3 μ22) (fun u23 μ23 => q_le (q_sl μ23 137 43 (μ23.2 137 49)) (fun μ25 => q_le (q_sl μ25 137 44 (μ25.2 137 50)) (fun μ26 => (L_X10_rating_59 x1 x2 Kx n) v3 μ26)))))) else Kx v3 μ15)) else Kx v3 μ11))
def L_X10_rating_51 (x1 : Int32) (x2 : Int32) (Kx : q_M → Option (Int64 × q_M)) : Nat → Int64 → q_M → Option (Int64 × q_M)
  | 0, _, _ => none
  | n + 1, v3, μ => (if 0 < (lg_cmp v3 1000) then Kx μ else L_X10_rating_59 x1 x2 (fun v3 μ => q_le ((v3 + 1) : Int64) (fun y27 => (L_X10_rating_51 x1 x2 Kx n) y27 μ)) q_fu v3 μ)
def f_X10_rating (x1 : Int32) (x2 : Int32) (μ : q_M) : Option (Int64 × q_M) := q_bd (f_X10_isBridge x1 μ) (fun r3 μ1 => (if r3 = 0 then some ((-1), μ1) else (if x2 < 0 then some ((-1), μ1) else (if x2 ≤ 1 then q_bd (f_X10_rate x1 μ1) (fun u7 μ7 => (if (lg_cmp (μ7.2 137 41) 0) = 0 then (if (lg_cmp (μ7.2 137 42) 0) = 0 then some (x2.toInt64, μ7) else L_X10_rating_51 x1 x2 (fun μ => (if x2 = 0 then some ((μ.2 137 42), μ) else some ((μ.2 137 44), μ))) q_fu 2 μ7) else L_X10_rating_51 x1 x2 (fun μ => (if x2 = 0 then some ((μ.2 137 42), μ) else some ((μ.2 137 44), μ))) q_fu 2 μ7)) else some ((-1), μ1)))))
set_option maxHeartbeats 4000000 in
set_option maxRecDepth 100000 in
theorem c_X10_rating (l : Launch) (E : q_E) (hE : q_I E) (x1 : Int32) (x2 : Int32) (μ μr : q_M) (r : Int64) (h : f_X10_rating x1 x2 μ = some (r, μr)) : Met l yX10_rating wsX10_rating ({ frames := 5, cells := 0, slots := 0, locals := 136 }) (q_Pc E μ [.ref (E.2.2.2 137), .int x1, .int x2]) (q_Ql E r μr) 0 0 (q_A E) := by
  refine q_met (cc := cX10_rating) (maxL := 5) (ret := (some .long)) hE (by decide) rfl (Nat.le_of_ble_eq_true rfl) ?_
  intro p e s m below meth c hx hb hr hml hown hts hlk F S ls hl
  have hl : lv_has ls 5 [(0, .ref (E.2.2.2 137)), (1, .int x1), (2, .int x2)] := hl
  have i10 : ∀ w ∈ u_ws RX10 TX10 54, w ∈ wsX10_rating := by decide +kernel
  have hL59 : ∀ (Kx : Int64 → q_M → Option (Int64 × q_M)), (∀ (v3 : Int64), ∀ (μ : q_M) (H : Heap) (locs : List Loc) (ls : Array Slot), q_S E (q_A E) s μ H locs → lv_has ls 5 [(0, .ref (E.2.2.2 137)), (2, .int x2), (3, .long v3)] → Kx v3 μ = some (r, μr) → W p l e ({ frames := 5, cells := 0, slots := 0, locals := 136 }) s m ([.ref (E.2.2.2 137), .int x1, .int x2] : List Value).toArray below meth c H locs 0 0 (MQ below (q_Ql E r μr) ([.ref (E.2.2.2 137), .int x1, .int x2] : List Value).toArray s 0 0 (q_A E)) (F0 m 154 ls [])) → ∀ (n : Nat), ∀ (v3 : Int64), ∀ (μ : q_M) (H : Heap) (locs : List Loc) (ls : Array Slot), q_S E (q_A E) s μ H locs → lv_has ls 5 [(0, .ref (E.2.2.2 137)), (2, .int x2), (3, .long v3)] → L_X10_rating_59 x1 x2 Kx n v3 μ = some (r, μr) → W p l e ({ frames := 5, cells := 0, slots := 0, locals := 136 }) s m ([.ref (E.2.2.2 137), .int x1, .int x2] : List Value).toArray below meth c H locs 0 0 (MQ below (q_Ql E r μr) ([.ref (E.2.2.2 137), .int x1, .int x2] : List Value).toArray s 0 0 (q_A E)) (F0 m 59 ls []) := by
    intro Kx hKx n
    induction n with
    | zero => intro v3 μ H locs ls S hl h; exact absurd h (by simp [L_X10_rating_59])
    | succ n ih =>
      intro v3 μ H locs ls S hl h
      rw [L_X10_rating_59] at h
      refine lv_aload_n hx hb dX10_rating_59 rfl (lv_at hl 0 rfl) ?_
      refine q_getl (own := RX10) (C := RX10) (T := TX10) (N := 54) (ci := 10) (j := 41)  hx hb hts i10 hown F S q_k137 (by decide) rfl (by decide) (by decide) rfl (hts (.fieldLink RX10 178 "HeavyRoutesModel" "topHigh" "J") (by decide +kernel)) dX10_rating_60 ?_
      refine lv_aload_n hx hb dX10_rating_63 rfl (lv_at hl 0 rfl) ?_
      refine q_getl (own := RX10) (C := RX10) (T := TX10) (N := 54) (ci := 10) (j := 42)  hx hb hts i10 hown F S q_k137 (by decide) rfl (by decide) (by decide) rfl (hts (.fieldLink RX10 181 "HeavyRoutesModel" "topLow" "J") (by decide +kernel)) dX10_rating_64 ?_
      refine lv_lload_n hx hb dX10_rating_67 rfl (lv_at hl 2 rfl) ?_
      obtain ⟨r13, μ11, hc12, h⟩ := q_bd_some h
      refine q_kl F S (q_runS (As := [.long (μ.2 137 41), .long (μ.2 137 42), .long v3]) (rest := []) ⟨hx, hb, hml, hown, hts⟩ F S (c_X10_restOf l E hE (μ.2 137 41) (μ.2 137 42) v3 μ μ11 r13 hc12) (va_cwS 3 hts gX10_rating_X10_restOf rfl rfl rfl (by decide +kernel) ⟨Nat.le_of_ble_eq_true rfl, Nat.le_of_ble_eq_true rfl⟩) rfl hl.1 rfl (Nat.le_of_ble_eq_true rfl) dX10_rating_68 ⟨Nat.zero_le _, Nat.zero_le _⟩) (fun H locs S => ?_)
      refine lv_lconst (v := 0) hx hb dX10_rating_71 (by decide) ?_
      refine W.lcmp hx hb dX10_rating_72 ?_
      refine lv_if_ne (tgt := 154) hx hb dX10_rating_73 (by decide) (fun c14 => ?_) (fun c14 => ?_)
      · have h := q_ig c14 h
        exact hKx v3 μ11 H locs ls S (lv_sub hl [0, 1, 2] rfl) h
      · have h := q_ip c14 h
        refine lv_aload_n hx hb dX10_rating_76 rfl (lv_at hl 0 rfl) ?_
        refine q_getl (own := RX10) (C := RX10) (T := TX10) (N := 54) (ci := 10) (j := 43)  hx hb hts i10 hown F S q_k137 (by decide) rfl (by decide) (by decide) rfl (hts (.fieldLink RX10 191 "HeavyRoutesModel" "underHigh" "J") (by decide +kernel)) dX10_rating_77 ?_
        refine lv_aload_n hx hb dX10_rating_80 rfl (lv_at hl 0 rfl) ?_
        refine q_getl (own := RX10) (C := RX10) (T := TX10) (N := 54) (ci := 10) (j := 44)  hx hb hts i10 hown F S q_k137 (by decide) rfl (by decide) (by decide) rfl (hts (.fieldLink RX10 194 "HeavyRoutesModel" "underLow" "J") (by decide +kernel)) dX10_rating_81 ?_
        refine lv_lload_n hx hb dX10_rating_84 rfl (lv_at hl 2 rfl) ?_
        obtain ⟨r17, μ15, hc16, h⟩ := q_bd_some h
        refine q_kl F S (q_runS (As := [.long (μ11.2 137 43), .long (μ11.2 137 44), .long v3]) (rest := []) ⟨hx, hb, hml, hown, hts⟩ F S (c_X10_restOf l E hE (μ11.2 137 43) (μ11.2 137 44) v3 μ11 μ15 r17 hc16) (va_cwS 3 hts gX10_rating_X10_restOf rfl rfl rfl (by decide +kernel) ⟨Nat.le_of_ble_eq_true rfl, Nat.le_of_ble_eq_true rfl⟩) rfl hl.1 rfl (Nat.le_of_ble_eq_true rfl) dX10_rating_85 ⟨Nat.zero_le _, Nat.zero_le _⟩) (fun H locs S => ?_)
        refine lv_lconst (v := 0) hx hb dX10_rating_88 (by decide) ?_
        refine W.lcmp hx hb dX10_rating_89 ?_
        refine lv_if_ne (tgt := 154) hx hb dX10_rating_90 (by decide) (fun c18 => ?_) (fun c18 => ?_)
        · have h := q_ig c18 h
          exact hKx v3 μ15 H locs ls S (lv_sub hl [0, 1, 2] rfl) h
        · have h := q_ip c18 h
          refine lv_aload_n hx hb dX10_rating_93 rfl (lv_at hl 0 rfl) ?_
          refine lv_aload_n hx hb dX10_rating_94 rfl (lv_at hl 0 rfl) ?_
          refine q_getl (own := RX10) (C := RX10) (T := TX10) (N := 54) (ci := 10) (j := 41)  hx hb hts i10 hown F S q_k137 (by decide) rfl (by decide) (by decide) rfl (hts (.fieldLink RX10 178 "HeavyRoutesModel" "topHigh" "J") (by decide +kernel)) dX10_rating_95 ?_
          refine lv_aload_n hx hb dX10_rating_98 rfl (lv_at hl 0 rfl) ?_
          refine q_getl (own := RX10) (C := RX10) (T := TX10) (N := 54) (ci := 10) (j := 42)  hx hb hts i10 hown F S q_k137 (by decide) rfl (by decide) (by decide) rfl (hts (.fieldLink RX10 181 "HeavyRoutesModel" "topLow" "J") (by decide +kernel)) dX10_rating_99 ?_
          refine lv_lload_n hx hb dX10_rating_102 rfl (lv_at hl 2 rfl) ?_
          obtain ⟨u19, μ19, hc20, h⟩ := q_bd_some h
          refine q_kv F S (q_runV (As := [.long (μ15.2 137 41), .long (μ15.2 137 42), .long v3]) (rest := []) (b := 137) ⟨hx, hb, hml, hown, hts⟩ F S (c_X10_divide l E hE (μ15.2 137 41) (μ15.2 137 42) v3 μ15 μ19 u19 hc20) (cwV 3 hts gX10_rating_X10_divide rfl rfl rfl (by decide +kernel) ⟨Nat.le_of_ble_eq_true rfl, Nat.le_of_ble_eq_true rfl⟩) q_k137 (by decide) rfl rfl hl.1 rfl (Nat.le_of_ble_eq_true rfl) dX10_rating_103 ⟨Nat.zero_le _, Nat.zero_le _⟩) (fun H locs S => ?_)
          refine lv_aload_n hx hb dX10_rating_106 rfl (lv_at hl 0 rfl) ?_
          refine lv_aload_n hx hb dX10_rating_107 rfl (lv_at hl 0 rfl) ?_
          refine q_getl (own := RX10) (C := RX10) (T := TX10) (N := 54) (ci := 10) (j := 49)  hx hb hts i10 hown F S q_k137 (by decide) rfl (by decide) (by decide) rfl (hts (.fieldLink RX10 152 "HeavyRoutesModel" "high" "J") (by decide +kernel)) dX10_rating_108 ?_
          refine q_putl (own := RX10) (C := RX10) (T := TX10) (N := 54) (ci := 10) (j := 41)  hx hb hts i10 tyX10 tyX10_ok nmX10 hown F S q_k137 (by decide) rfl (by decide) (by decide) rfl (hts (.fieldLink RX10 178 "HeavyRoutesModel" "topHigh" "J") (by decide +kernel)) rfl (by decide +kernel) dX10_rating_111 (fun H locs μ21 eμ21 S => ?_)
          have h := q_le_e h eμ21
          refine lv_aload_n hx hb dX10_rating_114 rfl (lv_at hl 0 rfl) ?_
          refine lv_aload_n hx hb dX10_rating_115 rfl (lv_at hl 0 rfl) ?_
          refine q_getl (own := RX10) (C := RX10) (T := TX10) (N := 54) (ci := 10) (j := 50)  hx hb hts i10 hown F S q_k137 (by decide) rfl (by decide) (by decide) rfl (hts (.fieldLink RX10 146 "HeavyRoutesModel" "low" "J") (by decide +kernel)) dX10_rating_116 ?_
          refine q_putl (own := RX10) (C := RX10) (T := TX10) (N := 54) (ci := 10) (j := 42)  hx hb hts i10 tyX10 tyX10_ok nmX10 hown F S q_k137 (by decide) rfl (by decide) (by decide) rfl (hts (.fieldLink RX10 181 "HeavyRoutesModel" "topLow" "J") (by decide +kernel)) rfl (by decide +kernel) dX10_rating_119 (fun H locs μ22 eμ22 S => ?_)
          have h := q_le_e h eμ22
          refine lv_aload_n hx hb dX10_rating_122 rfl (lv_at hl 0 rfl) ?_
          refine lv_aload_n hx hb dX10_rating_123 rfl (lv_at hl 0 rfl) ?_
          refine q_getl (own := RX10) (C := RX10) (T := TX10) (N := 54) (ci := 10) (j := 43)  hx hb hts i10 hown F S q_k137 (by decide) rfl (by decide) (by decide) rfl (hts (.fieldLink RX10 191 "HeavyRoutesModel" "underHigh" "J") (by decide +kernel)) dX10_rating_124 ?_
          refine lv_aload_n hx hb dX10_rating_127 rfl (lv_at hl 0 rfl) ?_
          refine q_getl (own := RX10) (C := RX10) (T := TX10) (N := 54) (ci := 10) (j := 44)  hx hb hts i10 hown F S q_k137 (by decide) rfl (by decide) (by decide) rfl (hts (.fieldLink RX10 194 "HeavyRoutesModel" "underLow" "J") (by decide +kernel)) dX10_rating_128 ?_
          refine lv_lload_n hx hb dX10_rating_131 rfl (lv_at hl 2 rfl) ?_
          obtain ⟨u23, μ23, hc24, h⟩ := q_bd_some h
          refine q_kv F S (q_runV (As := [.long (μ22.2 137 43), .long (μ22.2 137 44), .long v3]) (rest := []) (b := 137) ⟨hx, hb, hml, hown, hts⟩ F S (c_X10_divide l E hE (μ22.2 137 43) (μ22.2 137 44) v3 μ22 μ23 u23 hc24) (cwV 3 hts gX10_rating_X10_divide rfl rfl rfl (by decide +kernel) ⟨Nat.le_of_ble_eq_true rfl, Nat.le_of_ble_eq_true rfl⟩) q_k137 (by decide) rfl rfl hl.1 rfl (Nat.le_of_ble_eq_true rfl) dX10_rating_132 ⟨Nat.zero_le _, Nat.zero_le _⟩) (fun H locs S => ?_)
          refine lv_aload_n hx hb dX10_rating_135 rfl (lv_at hl 0 rfl) ?_
          refine lv_aload_n hx hb dX10_rating_136 rfl (lv_at hl 0 rfl) ?_
          refine q_getl (own := RX10) (C := RX10) (T := TX10) (N := 54) (ci := 10) (j := 49)  hx hb hts i10 hown F S q_k137 (by decide) rfl (by decide) (by decide) rfl (hts (.fieldLink RX10 152 "HeavyRoutesModel" "high" "J") (by decide +kernel)) dX10_rating_137 ?_
          refine q_putl (own := RX10) (C := RX10) (T := TX10) (N := 54) (ci := 10) (j := 43)  hx hb hts i10 tyX10 tyX10_ok nmX10 hown F S q_k137 (by decide) rfl (by decide) (by decide) rfl (hts (.fieldLink RX10 191 "HeavyRoutesModel" "underHigh" "J") (by decide +kernel)) rfl (by decide +kernel) dX10_rating_140 (fun H locs μ25 eμ25 S => ?_)
          have h := q_le_e h eμ25
          refine lv_aload_n hx hb dX10_rating_143 rfl (lv_at hl 0 rfl) ?_
          refine lv_aload_n hx hb dX10_rating_144 rfl (lv_at hl 0 rfl) ?_
          refine q_getl (own := RX10) (C := RX10) (T := TX10) (N := 54) (ci := 10) (j := 50)  hx hb hts i10 hown F S q_k137 (by decide) rfl (by decide) (by decide) rfl (hts (.fieldLink RX10 146 "HeavyRoutesModel" "low" "J") (by decide +kernel)) dX10_rating_145 ?_
          refine q_putl (own := RX10) (C := RX10) (T := TX10) (N := 54) (ci := 10) (j := 44)  hx hb hts i10 tyX10 tyX10_ok nmX10 hown F S q_k137 (by decide) rfl (by decide) (by decide) rfl (hts (.fieldLink RX10 194 "HeavyRoutesModel" "underLow" "J") (by decide +kernel)) rfl (by decide +kernel) dX10_rating_148 (fun H locs μ26 eμ26 S => ?_)
          have h := q_le_e h eμ26
          refine lv_goto (tgt := 59) hx hb dX10_rating_151 (by decide) ?_
          exact ih v3 μ26 H locs ls S (lv_sub hl [0, 1, 2] rfl) h
  have hL51 : ∀ (Kx : q_M → Option (Int64 × q_M)), (∀ (μ : q_M) (H : Heap) (locs : List Loc) (ls : Array Slot), q_S E (q_A E) s μ H locs → lv_has ls 5 [(0, .ref (E.2.2.2 137)), (2, .int x2)] → Kx μ = some (r, μr) → W p l e ({ frames := 5, cells := 0, slots := 0, locals := 136 }) s m ([.ref (E.2.2.2 137), .int x1, .int x2] : List Value).toArray below meth c H locs 0 0 (MQ below (q_Ql E r μr) ([.ref (E.2.2.2 137), .int x1, .int x2] : List Value).toArray s 0 0 (q_A E)) (F0 m 161 ls [])) → ∀ (n : Nat), ∀ (v3 : Int64), ∀ (μ : q_M) (H : Heap) (locs : List Loc) (ls : Array Slot), q_S E (q_A E) s μ H locs → lv_has ls 5 [(0, .ref (E.2.2.2 137)), (2, .int x2), (3, .long v3)] → L_X10_rating_51 x1 x2 Kx n v3 μ = some (r, μr) → W p l e ({ frames := 5, cells := 0, slots := 0, locals := 136 }) s m ([.ref (E.2.2.2 137), .int x1, .int x2] : List Value).toArray below meth c H locs 0 0 (MQ below (q_Ql E r μr) ([.ref (E.2.2.2 137), .int x1, .int x2] : List Value).toArray s 0 0 (q_A E)) (F0 m 51 ls []) := by
    intro Kx hKx n
    induction n with
    | zero => intro v3 μ H locs ls S hl h; exact absurd h (by simp [L_X10_rating_51])
    | succ n ih =>
      intro v3 μ H locs ls S hl h
      rw [L_X10_rating_51] at h
      refine lv_lload_n hx hb dX10_rating_51 rfl (lv_at hl 2 rfl) ?_
      refine lv_ldc2 (v := 1000) hx hb hown (hts (.constantLong RX10 133 (1000)) (by decide +kernel)) dX10_rating_52 ?_
      refine W.lcmp hx hb dX10_rating_55 ?_
      refine lv_if_gt (tgt := 161) hx hb dX10_rating_56 (by decide) (fun c10 => ?_) (fun c10 => ?_)
      · have h := q_ip c10 h
        exact hKx μ H locs ls S (lv_sub hl [0, 1] rfl) h
      · have h := q_ig c10 h
        refine hL59 _ (fun v3 μ H locs ls S hl h => ?_) q_fu v3 μ H locs ls S (lv_sub hl [0, 1, 2] rfl) h
        refine lv_lload_n hx hb dX10_rating_154 rfl (lv_at hl 2 rfl) ?_
        refine lv_lconst (v := 1) hx hb dX10_rating_155 (by decide) ?_
        refine lv_ladd hx hb dX10_rating_156 ?_
        refine lv_topl (fun y27 ey27 => ?_)
        have h := q_le_e h ey27
        refine lv_lstore_n (lv' := [(3, .long y27), (0, .ref (E.2.2.2 137)), (2, .int x2)]) hx hb dX10_rating_157 rfl hl (by decide) rfl (fun ls hl => ?_)
        refine lv_goto (tgt := 51) hx hb dX10_rating_158 (by decide) ?_
        exact ih y27 μ H locs ls S (lv_sub hl [1, 2, 0] rfl) h
  unfold f_X10_rating at h
  obtain ⟨H, eH⟩ : ∃ z, z = s.heap := ⟨_, rfl⟩
  obtain ⟨locs, eL⟩ : ∃ z : List Loc, z = [] := ⟨_, rfl⟩
  rw [← eH, ← eL] at S
  suffices hh : W p l e ({ frames := 5, cells := 0, slots := 0, locals := 136 }) s m ([.ref (E.2.2.2 137), .int x1, .int x2] : List Value).toArray below meth c H locs 0 0 (MQ below (q_Ql E r μr) ([.ref (E.2.2.2 137), .int x1, .int x2] : List Value).toArray s 0 0 (q_A E)) (F0 m 0 ls []) by rw [eH, eL] at hh; exact hh
  refine lv_aload_n hx hb dX10_rating_0 rfl (lv_at hl 0 rfl) ?_
  refine lv_iload_n hx hb dX10_rating_1 rfl (lv_at hl 1 rfl) ?_
  obtain ⟨r3, μ1, hc2, h⟩ := q_bd_some h
  refine q_ki F S (q_runV (As := [.int x1]) (rest := []) (b := 137) ⟨hx, hb, hml, hown, hts⟩ F S (c_X10_isBridge l E hE x1 μ μ1 r3 hc2) (cwV 1 hts gX10_rating_X10_isBridge rfl rfl rfl (by decide +kernel) ⟨Nat.le_of_ble_eq_true rfl, Nat.le_of_ble_eq_true rfl⟩) q_k137 (by decide) rfl rfl hl.1 rfl (Nat.le_of_ble_eq_true rfl) dX10_rating_2 ⟨Nat.zero_le _, Nat.zero_le _⟩) (fun H locs S => ?_)
  refine lv_if_eq (tgt := 17) hx hb dX10_rating_5 (by decide) (fun c4 => ?_) (fun c4 => ?_)
  · have h := q_ip c4 h
    refine lv_ldc2 (v := (-1)) hx hb hown (hts (.constantLong RX10 197 (-1)) (by decide +kernel)) dX10_rating_17 ?_
    exact q_lret hx hb hr S h hlk dX10_rating_20
  · have h := q_ig c4 h
    refine lv_iload_n hx hb dX10_rating_8 rfl (lv_at hl 2 rfl) ?_
    refine lv_if_lt (tgt := 17) hx hb dX10_rating_9 (by decide) (fun c5 => ?_) (fun c5 => ?_)
    · have h := q_ip c5 h
      refine lv_ldc2 (v := (-1)) hx hb hown (hts (.constantLong RX10 197 (-1)) (by decide +kernel)) dX10_rating_17 ?_
      exact q_lret hx hb hr S h hlk dX10_rating_20
    · have h := q_ig c5 h
      refine lv_iload_n hx hb dX10_rating_12 rfl (lv_at hl 2 rfl) ?_
      refine lv_iconst (v := 1) hx hb dX10_rating_13 (by decide) ?_
      refine lv_icmp_le (tgt := 21) hx hb dX10_rating_14 (by decide) (fun c6 => ?_) (fun c6 => ?_)
      · have h := q_ip c6 h
        refine lv_aload_n hx hb dX10_rating_21 rfl (lv_at hl 0 rfl) ?_
        refine lv_iload_n hx hb dX10_rating_22 rfl (lv_at hl 1 rfl) ?_
        obtain ⟨u7, μ7, hc8, h⟩ := q_bd_some h
        refine q_kv F S (q_runV (As := [.int x1]) (rest := []) (b := 137) ⟨hx, hb, hml, hown, hts⟩ F S (c_X10_rate l E hE x1 μ1 μ7 u7 hc8) (cwV 1 hts gX10_rating_X10_rate rfl rfl rfl (by decide +kernel) ⟨Nat.le_of_ble_eq_true rfl, Nat.le_of_ble_eq_true rfl⟩) q_k137 (by decide) rfl rfl hl.1 rfl (Nat.le_of_ble_eq_true rfl) dX10_rating_23 ⟨Nat.zero_le _, Nat.zero_le _⟩) (fun H locs S => ?_)
        refine lv_aload_n hx hb dX10_rating_26 rfl (lv_at hl 0 rfl) ?_
        refine q_getl (own := RX10) (C := RX10) (T := TX10) (N := 54) (ci := 10) (j := 41)  hx hb hts i10 hown F S q_k137 (by decide) rfl (by decide) (by decide) rfl (hts (.fieldLink RX10 178 "HeavyRoutesModel" "topHigh" "J") (by decide +kernel)) dX10_rating_27 ?_
        refine lv_lconst (v := 0) hx hb dX10_rating_30 (by decide) ?_
        refine W.lcmp hx hb dX10_rating_31 ?_
        refine lv_if_ne (tgt := 47) hx hb dX10_rating_32 (by decide) (fun c9 => ?_) (fun c9 => ?_)
        · have h := q_ig c9 h
          refine lv_ldc2 (v := 2) hx hb hown (hts (.constantLong RX10 203 (2)) (by decide +kernel)) dX10_rating_47 ?_
          refine lv_lstore_n (lv' := [(3, .long 2), (0, .ref (E.2.2.2 137)), (1, .int x1), (2, .int x2)]) hx hb dX10_rating_50 rfl hl (by decide) rfl (fun ls hl => ?_)
          refine hL51 _ (fun μ H locs ls S hl h => ?_) q_fu 2 μ7 H locs ls S (lv_sub hl [1, 3, 0] rfl) h
          refine lv_iload_n hx hb dX10_rating_161 rfl (lv_at hl 1 rfl) ?_
          refine lv_if_ne (tgt := 172) hx hb dX10_rating_162 (by decide) (fun c28 => ?_) (fun c28 => ?_)
          · have h := q_ig c28 h
            refine lv_aload_n hx hb dX10_rating_172 rfl (lv_at hl 0 rfl) ?_
            refine q_getl (own := RX10) (C := RX10) (T := TX10) (N := 54) (ci := 10) (j := 44)  hx hb hts i10 hown F S q_k137 (by decide) rfl (by decide) (by decide) rfl (hts (.fieldLink RX10 194 "HeavyRoutesModel" "underLow" "J") (by decide +kernel)) dX10_rating_173 ?_
            exact q_lret hx hb hr S h hlk dX10_rating_176
          · have h := q_ip c28 h
            refine lv_aload_n hx hb dX10_rating_165 rfl (lv_at hl 0 rfl) ?_
            refine q_getl (own := RX10) (C := RX10) (T := TX10) (N := 54) (ci := 10) (j := 42)  hx hb hts i10 hown F S q_k137 (by decide) rfl (by decide) (by decide) rfl (hts (.fieldLink RX10 181 "HeavyRoutesModel" "topLow" "J") (by decide +kernel)) dX10_rating_166 ?_
            refine lv_goto (tgt := 176) hx hb dX10_rating_169 (by decide) ?_
            exact q_lret hx hb hr S h hlk dX10_rating_176
        · have h := q_ip c9 h
          refine lv_aload_n hx hb dX10_rating_35 rfl (lv_at hl 0 rfl) ?_
          refine q_getl (own := RX10) (C := RX10) (T := TX10) (N := 54) (ci := 10) (j := 42)  hx hb hts i10 hown F S q_k137 (by decide) rfl (by decide) (by decide) rfl (hts (.fieldLink RX10 181 "HeavyRoutesModel" "topLow" "J") (by decide +kernel)) dX10_rating_36 ?_
          refine lv_lconst (v := 0) hx hb dX10_rating_39 (by decide) ?_
          refine W.lcmp hx hb dX10_rating_40 ?_
          refine lv_if_ne (tgt := 47) hx hb dX10_rating_41 (by decide) (fun c29 => ?_) (fun c29 => ?_)
          · have h := q_ig c29 h
            refine lv_ldc2 (v := 2) hx hb hown (hts (.constantLong RX10 203 (2)) (by decide +kernel)) dX10_rating_47 ?_
            refine lv_lstore_n (lv' := [(3, .long 2), (0, .ref (E.2.2.2 137)), (1, .int x1), (2, .int x2)]) hx hb dX10_rating_50 rfl hl (by decide) rfl (fun ls hl => ?_)
            refine hL51 _ (fun μ H locs ls S hl h => ?_) q_fu 2 μ7 H locs ls S (lv_sub hl [1, 3, 0] rfl) h
            refine lv_iload_n hx hb dX10_rating_161 rfl (lv_at hl 1 rfl) ?_
            refine lv_if_ne (tgt := 172) hx hb dX10_rating_162 (by decide) (fun c30 => ?_) (fun c30 => ?_)
            · have h := q_ig c30 h
              refine lv_aload_n hx hb dX10_rating_172 rfl (lv_at hl 0 rfl) ?_
              refine q_getl (own := RX10) (C := RX10) (T := TX10) (N := 54) (ci := 10) (j := 44)  hx hb hts i10 hown F S q_k137 (by decide) rfl (by decide) (by decide) rfl (hts (.fieldLink RX10 194 "HeavyRoutesModel" "underLow" "J") (by decide +kernel)) dX10_rating_173 ?_
              exact q_lret hx hb hr S h hlk dX10_rating_176
            · have h := q_ip c30 h
              refine lv_aload_n hx hb dX10_rating_165 rfl (lv_at hl 0 rfl) ?_
              refine q_getl (own := RX10) (C := RX10) (T := TX10) (N := 54) (ci := 10) (j := 42)  hx hb hts i10 hown F S q_k137 (by decide) rfl (by decide) (by decide) rfl (hts (.fieldLink RX10 181 "HeavyRoutesModel" "topLow" "J") (by decide +kernel)) dX10_rating_166 ?_
              refine lv_goto (tgt := 176) hx hb dX10_rating_169 (by decide) ?_
              exact q_lret hx hb hr S h hlk dX10_rating_176
          · have h := q_ip c29 h
            refine lv_iload_n hx hb dX10_rating_44 rfl (lv_at hl 2 rfl) ?_
            refine lv_i2l (v := x2.toInt64) hx hb dX10_rating_45 rfl ?_
            exact q_lret hx hb hr S h hlk dX10_rating_46
      · have h := q_ig c6 h
        refine lv_ldc2 (v := (-1)) hx hb hown (hts (.constantLong RX10 197 (-1)) (by decide +kernel)) dX10_rating_17 ?_
        exact q_lret hx hb hr S h hlk dX10_rating_20
def f_X10_kept (x1 : Int32) (μ : q_M) : Option (Int32 × q_M) := q_bd (f_X10_isBridge x1 μ) (fun r3 μ1 => q_gd (q_zb r3) (some (r3, μ1)))
set_option maxHeartbeats 4000000 in
set_option maxRecDepth 100000 in
theorem c_X10_kept (l : Launch) (E : q_E) (hE : q_I E) (x1 : Int32) (μ μr : q_M) (r : Int32) (h : f_X10_kept x1 μ = some (r, μr)) : Met l yX10_kept wsX10_kept ({ frames := 2, cells := 0, slots := 0, locals := 46 }) (q_Pc E μ [.ref (E.2.2.2 137), .int x1]) (q_Qi E r μr) 0 0 (q_A E) := by
  refine q_met (cc := cX10_kept) (maxL := 2) (ret := (some .boolean)) hE (by decide) rfl (Nat.le_of_ble_eq_true rfl) ?_
  intro p e s m below meth c hx hb hr hml hown hts hlk F S ls hl
  have hl : lv_has ls 2 [(0, .ref (E.2.2.2 137)), (1, .int x1)] := hl
  unfold f_X10_kept at h
  obtain ⟨H, eH⟩ : ∃ z, z = s.heap := ⟨_, rfl⟩
  obtain ⟨locs, eL⟩ : ∃ z : List Loc, z = [] := ⟨_, rfl⟩
  rw [← eH, ← eL] at S
  suffices hh : W p l e ({ frames := 2, cells := 0, slots := 0, locals := 46 }) s m ([.ref (E.2.2.2 137), .int x1] : List Value).toArray below meth c H locs 0 0 (MQ below (q_Qi E r μr) ([.ref (E.2.2.2 137), .int x1] : List Value).toArray s 0 0 (q_A E)) (F0 m 0 ls []) by rw [eH, eL] at hh; exact hh
  refine lv_aload_n hx hb dX10_kept_0 rfl (lv_at hl 0 rfl) ?_
  refine lv_iload_n hx hb dX10_kept_1 rfl (lv_at hl 1 rfl) ?_
  obtain ⟨r3, μ1, hc2, h⟩ := q_bd_some h
  refine q_ki F S (q_runV (As := [.int x1]) (rest := []) (b := 137) ⟨hx, hb, hml, hown, hts⟩ F S (c_X10_isBridge l E hE x1 μ μ1 r3 hc2) (cwV 1 hts gX10_kept_X10_isBridge rfl rfl rfl (by decide +kernel) ⟨Nat.le_of_ble_eq_true rfl, Nat.le_of_ble_eq_true rfl⟩) q_k137 (by decide) rfl rfl hl.1 rfl (Nat.le_of_ble_eq_true rfl) dX10_kept_2 ⟨Nat.zero_le _, Nat.zero_le _⟩) (fun H locs S => ?_)
  obtain ⟨g4, h⟩ := q_gd_some h
  exact q_zret hx hb hr S g4 h hlk dX10_kept_5
def f_X10_why (x1 : Int32) (μ : q_M) : Option (Int32 × q_M) := q_gd (q_ix x1 12) ((if (μ.1 143 x1.toNatClampNeg) = 0 then some (1, μ) else (if (μ.1 137 22) ≤ (μ.1 141 x1.toNatClampNeg) then (if (μ.1 137 23) ≤ (μ.1 142 x1.toNatClampNeg) then (if (μ.1 144 x1.toNatClampNeg) < 0 then some (0, μ) else q_bd (f_X10_rate (μ.1 144 x1.toNatClampNeg) μ) (fun u6 μ6 => q_bd (f_X10_isAbove 1 1 μ6) (fun r10 μ8 => (if r10 = 0 then some (0, μ8) else some (4, μ8))))) else some (3, μ)) else some (2, μ))))
set_option maxHeartbeats 4000000 in
set_option maxRecDepth 100000 in
theorem c_X10_why (l : Launch) (E : q_E) (hE : q_I E) (x1 : Int32) (μ μr : q_M) (r : Int32) (h : f_X10_why x1 μ = some (r, μr)) : Met l yX10_why wsX10_why ({ frames := 5, cells := 0, slots := 0, locals := 136 }) (q_Pc E μ [.ref (E.2.2.2 137), .int x1]) (q_Qi E r μr) 0 0 (q_A E) := by
  refine q_met (cc := cX10_why) (maxL := 2) (ret := (some .int)) hE (by decide) rfl (Nat.le_of_ble_eq_true rfl) ?_
  intro p e s m below meth c hx hb hr hml hown hts hlk F S ls hl
  have hl : lv_has ls 2 [(0, .ref (E.2.2.2 137)), (1, .int x1)] := hl
  have i10 : ∀ w ∈ u_ws RX10 TX10 54, w ∈ wsX10_why := by decide +kernel
  unfold f_X10_why at h
  obtain ⟨H, eH⟩ : ∃ z, z = s.heap := ⟨_, rfl⟩
  obtain ⟨locs, eL⟩ : ∃ z : List Loc, z = [] := ⟨_, rfl⟩
  rw [← eH, ← eL] at S
  suffices hh : W p l e ({ frames := 5, cells := 0, slots := 0, locals := 136 }) s m ([.ref (E.2.2.2 137), .int x1] : List Value).toArray below meth c H locs 0 0 (MQ below (q_Qi E r μr) ([.ref (E.2.2.2 137), .int x1] : List Value).toArray s 0 0 (q_A E)) (F0 m 0 ls []) by rw [eH, eL] at hh; exact hh
  refine lv_aload_n hx hb dX10_why_0 rfl (lv_at hl 0 rfl) ?_
  refine q_getr (own := RX10) (C := RX10) (T := TX10) (N := 54) (ci := 10) (j := 7)  (b := 143) hx hb hts i10 hown F S q_k137 (by decide) rfl (by decide) (by decide) rfl (by decide) (hts (.fieldLink RX10 25 "HeavyRoutesModel" "open" "[Z") (by decide +kernel)) dX10_why_1 ?_
  refine lv_iload_n hx hb dX10_why_4 rfl (lv_at hl 1 rfl) ?_
  obtain ⟨g1, h⟩ := q_gd_some h
  refine q_zald hx hb F S q_k143 q_n143 g1 dX10_why_5 ?_
  refine lv_if_ne (tgt := 11) hx hb dX10_why_6 (by decide) (fun c2 => ?_) (fun c2 => ?_)
  · have h := q_ig c2 h
    refine lv_aload_n hx hb dX10_why_11 rfl (lv_at hl 0 rfl) ?_
    refine q_getr (own := RX10) (C := RX10) (T := TX10) (N := 54) (ci := 10) (j := 5)  (b := 141) hx hb hts i10 hown F S q_k137 (by decide) rfl (by decide) (by decide) rfl (by decide) (hts (.fieldLink RX10 19 "HeavyRoutesModel" "heights" "[I") (by decide +kernel)) dX10_why_12 ?_
    refine lv_iload_n hx hb dX10_why_15 rfl (lv_at hl 1 rfl) ?_
    refine q_iald hx hb F S q_k141 q_n141 g1 dX10_why_16 ?_
    refine lv_aload_n hx hb dX10_why_17 rfl (lv_at hl 0 rfl) ?_
    refine q_geti (own := RX10) (C := RX10) (T := TX10) (N := 54) (ci := 10) (j := 22)  hx hb hts i10 hown F S q_k137 (by decide) rfl (by decide) (by decide) rfl (hts (.fieldLink RX10 65 "HeavyRoutesModel" "height" "I") (by decide +kernel)) dX10_why_18 ?_
    refine lv_icmp_ge (tgt := 26) hx hb dX10_why_21 (by decide) (fun c3 => ?_) (fun c3 => ?_)
    · have h := q_ip c3 h
      refine lv_aload_n hx hb dX10_why_26 rfl (lv_at hl 0 rfl) ?_
      refine q_getr (own := RX10) (C := RX10) (T := TX10) (N := 54) (ci := 10) (j := 6)  (b := 142) hx hb hts i10 hown F S q_k137 (by decide) rfl (by decide) (by decide) rfl (by decide) (hts (.fieldLink RX10 22 "HeavyRoutesModel" "widths" "[I") (by decide +kernel)) dX10_why_27 ?_
      refine lv_iload_n hx hb dX10_why_30 rfl (lv_at hl 1 rfl) ?_
      refine q_iald hx hb F S q_k142 q_n142 g1 dX10_why_31 ?_
      refine lv_aload_n hx hb dX10_why_32 rfl (lv_at hl 0 rfl) ?_
      refine q_geti (own := RX10) (C := RX10) (T := TX10) (N := 54) (ci := 10) (j := 23)  hx hb hts i10 hown F S q_k137 (by decide) rfl (by decide) (by decide) rfl (hts (.fieldLink RX10 69 "HeavyRoutesModel" "width" "I") (by decide +kernel)) dX10_why_33 ?_
      refine lv_icmp_ge (tgt := 41) hx hb dX10_why_36 (by decide) (fun c4 => ?_) (fun c4 => ?_)
      · have h := q_ip c4 h
        refine lv_aload_n hx hb dX10_why_41 rfl (lv_at hl 0 rfl) ?_
        refine q_getr (own := RX10) (C := RX10) (T := TX10) (N := 54) (ci := 10) (j := 8)  (b := 144) hx hb hts i10 hown F S q_k137 (by decide) rfl (by decide) (by decide) rfl (by decide) (hts (.fieldLink RX10 29 "HeavyRoutesModel" "bridgeOf" "[I") (by decide +kernel)) dX10_why_42 ?_
        refine lv_iload_n hx hb dX10_why_45 rfl (lv_at hl 1 rfl) ?_
        refine q_iald hx hb F S q_k144 q_n144 g1 dX10_why_46 ?_
        refine lv_if_lt (tgt := 75) hx hb dX10_why_47 (by decide) (fun c5 => ?_) (fun c5 => ?_)
        · have h := q_ip c5 h
          refine lv_iconst (v := 0) hx hb dX10_why_75 (by decide) ?_
          exact q_iret hx hb hr S h hlk dX10_why_76
        · have h := q_ig c5 h
          refine lv_aload_n hx hb dX10_why_50 rfl (lv_at hl 0 rfl) ?_
          refine lv_aload_n hx hb dX10_why_51 rfl (lv_at hl 0 rfl) ?_
          refine q_getr (own := RX10) (C := RX10) (T := TX10) (N := 54) (ci := 10) (j := 8)  (b := 144) hx hb hts i10 hown F S q_k137 (by decide) rfl (by decide) (by decide) rfl (by decide) (hts (.fieldLink RX10 29 "HeavyRoutesModel" "bridgeOf" "[I") (by decide +kernel)) dX10_why_52 ?_
          refine lv_iload_n hx hb dX10_why_55 rfl (lv_at hl 1 rfl) ?_
          refine q_iald hx hb F S q_k144 q_n144 g1 dX10_why_56 ?_
          obtain ⟨u6, μ6, hc7, h⟩ := q_bd_some h
          refine q_kv F S (q_runV (As := [.int (μ.1 144 x1.toNatClampNeg)]) (rest := []) (b := 137) ⟨hx, hb, hml, hown, hts⟩ F S (c_X10_rate l E hE (μ.1 144 x1.toNatClampNeg) μ μ6 u6 hc7) (cwV 1 hts gX10_why_X10_rate rfl rfl rfl (by decide +kernel) ⟨Nat.le_of_ble_eq_true rfl, Nat.le_of_ble_eq_true rfl⟩) q_k137 (by decide) rfl rfl hl.1 rfl (Nat.le_of_ble_eq_true rfl) dX10_why_57 ⟨Nat.zero_le _, Nat.zero_le _⟩) (fun H locs S => ?_)
          refine lv_aload_n hx hb dX10_why_60 rfl (lv_at hl 0 rfl) ?_
          refine lv_iconst (v := 1) hx hb dX10_why_61 (by decide) ?_
          refine lv_iconst (v := 1) hx hb dX10_why_62 (by decide) ?_
          obtain ⟨r10, μ8, hc9, h⟩ := q_bd_some h
          refine q_ki F S (q_runV (As := [.int 1, .int 1]) (rest := []) (b := 137) ⟨hx, hb, hml, hown, hts⟩ F S (c_X10_isAbove l E hE 1 1 μ6 μ8 r10 hc9) (cwV 2 hts gX10_why_X10_isAbove rfl rfl rfl (by decide +kernel) ⟨Nat.le_of_ble_eq_true rfl, Nat.le_of_ble_eq_true rfl⟩) q_k137 (by decide) rfl rfl hl.1 rfl (Nat.le_of_ble_eq_true rfl) dX10_why_63 ⟨Nat.zero_le _, Nat.zero_le _⟩) (fun H locs S => ?_)
          refine lv_if_eq (tgt := 73) hx hb dX10_why_66 (by decide) (fun c11 => ?_) (fun c11 => ?_)
          · have h := q_ip c11 h
            refine lv_iconst (v := 0) hx hb dX10_why_73 (by decide) ?_
            exact q_iret hx hb hr S h hlk dX10_why_74
          · have h := q_ig c11 h
            refine lv_iconst (v := 4) hx hb dX10_why_69 (by decide) ?_
            refine lv_goto (tgt := 74) hx hb dX10_why_70 (by decide) ?_
            exact q_iret hx hb hr S h hlk dX10_why_74
      · have h := q_ig c4 h
        refine lv_iconst (v := 3) hx hb dX10_why_39 (by decide) ?_
        exact q_iret hx hb hr S h hlk dX10_why_40
    · have h := q_ig c3 h
      refine lv_iconst (v := 2) hx hb dX10_why_24 (by decide) ?_
      exact q_iret hx hb hr S h hlk dX10_why_25
  · have h := q_ip c2 h
    refine lv_iconst (v := 1) hx hb dX10_why_9 (by decide) ?_
    exact q_iret hx hb hr S h hlk dX10_why_10
def J_X10_isBarred_51 (x1 : Int32) (x2 : Int32) (Kb : Int32 → Int32 → Int32 → q_M → Option (Int32 × q_M)) (Kx : Int32 → q_M → Option (Int32 × q_M)) (v3 : Int32) (v4 : Int32) (v5 : Int32) (s0 : Int32) (μ : q_M) : Option (Int32 × q_M) := (if v4 = 0 then (if s0 = 0 then q_gd (q_ix v5 36) ((if v3 < (μ.1 146 v5.toNatClampNeg) then q_le (v5 + 1 : Int32) (fun y12 => Kb v3 0 y12 μ) else (if (μ.1 147 v5.toNatClampNeg) < v3 then q_le (v5 + 1 : Int32) (fun y14 => Kb v3 0 y14 μ) else q_le (v5 + 1 : Int32) (fun y15 => Kb v3 1 y15 μ)))) else q_gd (q_ix v5 36) ((if (μ.1 146 v5.toNatClampNeg) ≤ v3 then q_le (v5 + 1 : Int32) (fun y18 => Kb v3 1 y18 μ) else (if (μ.1 147 v5.toNatClampNeg) < v3 then q_le (v5 + 1 : Int32) (fun y20 => Kb v3 0 y20 μ) else q_le (v5 + 1 : Int32) (fun y21 => Kb v3 1 y21 μ))))) else q_le (v5 + 1 : Int32) (fun y8 => Kb v3 1 y8 μ))
def L_X10_isBarred_14 (x1 : Int32) (x2 : Int32) (Kx : Int32 → q_M → Option (Int32 × q_M)) : Nat → Int32 → Int32 → Int32 → q_M → Option (Int32 × q_M)
  | 0, _, _, _, _ => none
  | n + 1, v3, v4, v5, μ => q_gd (q_ix x1 12) ((if ((3 * x1) + (μ.1 145 x1.toNatClampNeg)) ≤ v5 then Kx v4 μ else q_gd (q_ix v5 36) ((if (μ.1 146 v5.toNatClampNeg) ≤ (μ.1 147 v5.toNatClampNeg) then J_X10_isBarred_51 x1 x2 (L_X10_isBarred_14 x1 x2 Kx n) Kx v3 v4 v5 0 μ else J_X10_isBarred_51 x1 x2 (L_X10_isBarred_14 x1 x2 Kx n) Kx v3 v4 v5 1 μ))))
def f_X10_isBarred (x1 : Int32) (x2 : Int32) (μ : q_M) : Option (Int32 × q_M) := q_le ((q_ri x2 1440) : Int32) (fun y1 => q_le ((3 * x1) : Int32) (fun y2 => L_X10_isBarred_14 x1 x2 (fun v4 μ => q_gd (q_zb v4) (some (v4, μ))) q_fu y1 0 y2 μ))
set_option maxHeartbeats 4000000 in
set_option maxRecDepth 100000 in
theorem c_X10_isBarred (l : Launch) (E : q_E) (hE : q_I E) (x1 : Int32) (x2 : Int32) (μ μr : q_M) (r : Int32) (h : f_X10_isBarred x1 x2 μ = some (r, μr)) : Met l yX10_isBarred wsX10_isBarred ({ frames := 0, cells := 0, slots := 0, locals := 0 }) (q_Pc E μ [.ref (E.2.2.2 137), .int x1, .int x2]) (q_Qi E r μr) 0 0 (q_A E) := by
  refine q_met (cc := cX10_isBarred) (maxL := 7) (ret := (some .boolean)) hE (by decide) rfl (Nat.le_of_ble_eq_true rfl) ?_
  intro p e s m below meth c hx hb hr hml hown hts hlk F S ls hl
  have hl : lv_has ls 7 [(0, .ref (E.2.2.2 137)), (1, .int x1), (2, .int x2)] := hl
  have i10 : ∀ w ∈ u_ws RX10 TX10 54, w ∈ wsX10_isBarred := by decide +kernel
  have hJ51 : ∀ (Kb : Int32 → Int32 → Int32 → q_M → Option (Int32 × q_M)), (∀ (v3 : Int32), ∀ (v4 : Int32), ∀ (v5 : Int32), ∀ (μ : q_M) (H : Heap) (locs : List Loc) (ls : Array Slot), q_S E (q_A E) s μ H locs → lv_has ls 7 [(0, .ref (E.2.2.2 137)), (1, .int x1), (3, .int v3), (4, .int v4), (5, .int v5)] → Kb v3 v4 v5 μ = some (r, μr) → W p l e ({ frames := 0, cells := 0, slots := 0, locals := 0 }) s m ([.ref (E.2.2.2 137), .int x1, .int x2] : List Value).toArray below meth c H locs 0 0 (MQ below (q_Qi E r μr) ([.ref (E.2.2.2 137), .int x1, .int x2] : List Value).toArray s 0 0 (q_A E)) (F0 m 14 ls [])) → ∀ (Kx : Int32 → q_M → Option (Int32 × q_M)), (∀ (v4 : Int32), ∀ (μ : q_M) (H : Heap) (locs : List Loc) (ls : Array Slot), q_S E (q_A E) s μ H locs → lv_has ls 7 [(4, .int v4)] → Kx v4 μ = some (r, μr) → W p l e ({ frames := 0, cells := 0, slots := 0, locals := 0 }) s m ([.ref (E.2.2.2 137), .int x1, .int x2] : List Value).toArray below meth c H locs 0 0 (MQ below (q_Qi E r μr) ([.ref (E.2.2.2 137), .int x1, .int x2] : List Value).toArray s 0 0 (q_A E)) (F0 m 123 ls [])) → ∀ (v3 : Int32), ∀ (v4 : Int32), ∀ (v5 : Int32), ∀ (s0 : Int32), ∀ (μ : q_M) (H : Heap) (locs : List Loc) (ls : Array Slot), q_S E (q_A E) s μ H locs → lv_has ls 7 [(0, .ref (E.2.2.2 137)), (1, .int x1), (3, .int v3), (4, .int v4), (5, .int v5)] → J_X10_isBarred_51 x1 x2 Kb Kx v3 v4 v5 s0 μ = some (r, μr) → W p l e ({ frames := 0, cells := 0, slots := 0, locals := 0 }) s m ([.ref (E.2.2.2 137), .int x1, .int x2] : List Value).toArray below meth c H locs 0 0 (MQ below (q_Qi E r μr) ([.ref (E.2.2.2 137), .int x1, .int x2] : List Value).toArray s 0 0 (q_A E)) (F0 m 51 ls [.int s0]) := by
    intro Kb hKb Kx hKx v3 v4 v5 s0 μ H locs ls S hl h
    rw [J_X10_isBarred_51] at h
    refine lv_istore (lv' := [(6, .int s0), (0, .ref (E.2.2.2 137)), (1, .int x1), (3, .int v3), (4, .int v4), (5, .int v5)]) hx hb dX10_isBarred_51 hl (by decide) rfl (fun ls hl => ?_)
    refine lv_iload hx hb dX10_isBarred_53 (lv_at hl 4 rfl) ?_
    refine lv_if_ne (tgt := 110) hx hb dX10_isBarred_55 (by decide) (fun c7 => ?_) (fun c7 => ?_)
    · have h := q_ig c7 h
      refine lv_iconst (v := 1) hx hb dX10_isBarred_110 (by decide) ?_
      refine lv_goto (tgt := 115) hx hb dX10_isBarred_111 (by decide) ?_
      refine lv_istore (lv' := [(4, .int 1), (6, .int s0), (0, .ref (E.2.2.2 137)), (1, .int x1), (3, .int v3), (5, .int v5)]) hx hb dX10_isBarred_115 hl (by decide) rfl (fun ls hl => ?_)
      obtain ⟨y8, ey8⟩ : ∃ z : Int32, z = v5 + 1 := ⟨_, rfl⟩
      have h := q_le_e h ey8
      refine lv_iinc (v := y8) (lv' := [(5, .int y8), (4, .int 1), (6, .int s0), (0, .ref (E.2.2.2 137)), (1, .int x1), (3, .int v3)]) hx hb dX10_isBarred_117 hl (k := 5) rfl (by rw [ey8]; rfl) (by decide) rfl (fun ls hl => ?_)
      refine lv_goto (tgt := 14) hx hb dX10_isBarred_120 (by decide) ?_
      exact hKb v3 1 y8 μ H locs ls S (lv_sub hl [3, 4, 5, 1, 0] rfl) h
    · have h := q_ip c7 h
      refine lv_iload hx hb dX10_isBarred_58 (lv_at hl 0 rfl) ?_
      refine lv_if_eq (tgt := 88) hx hb dX10_isBarred_60 (by decide) (fun c9 => ?_) (fun c9 => ?_)
      · have h := q_ip c9 h
        refine lv_iload_n hx hb dX10_isBarred_88 rfl (lv_at hl 3 rfl) ?_
        refine lv_aload_n hx hb dX10_isBarred_89 rfl (lv_at hl 1 rfl) ?_
        refine q_getr (own := RX10) (C := RX10) (T := TX10) (N := 54) (ci := 10) (j := 10)  (b := 146) hx hb hts i10 hown F S q_k137 (by decide) rfl (by decide) (by decide) rfl (by decide) (hts (.fieldLink RX10 35 "HeavyRoutesModel" "hourFroms" "[I") (by decide +kernel)) dX10_isBarred_90 ?_
        refine lv_iload hx hb dX10_isBarred_93 (lv_at hl 5 rfl) ?_
        obtain ⟨g10, h⟩ := q_gd_some h
        refine q_iald hx hb F S q_k146 q_n146 g10 dX10_isBarred_95 ?_
        refine lv_icmp_lt (tgt := 114) hx hb dX10_isBarred_96 (by decide) (fun c11 => ?_) (fun c11 => ?_)
        · have h := q_ip c11 h
          refine lv_iconst (v := 0) hx hb dX10_isBarred_114 (by decide) ?_
          refine lv_istore (lv' := [(4, .int 0), (6, .int s0), (0, .ref (E.2.2.2 137)), (1, .int x1), (3, .int v3), (5, .int v5)]) hx hb dX10_isBarred_115 hl (by decide) rfl (fun ls hl => ?_)
          obtain ⟨y12, ey12⟩ : ∃ z : Int32, z = v5 + 1 := ⟨_, rfl⟩
          have h := q_le_e h ey12
          refine lv_iinc (v := y12) (lv' := [(5, .int y12), (4, .int 0), (6, .int s0), (0, .ref (E.2.2.2 137)), (1, .int x1), (3, .int v3)]) hx hb dX10_isBarred_117 hl (k := 5) rfl (by rw [ey12]; rfl) (by decide) rfl (fun ls hl => ?_)
          refine lv_goto (tgt := 14) hx hb dX10_isBarred_120 (by decide) ?_
          exact hKb v3 0 y12 μ H locs ls S (lv_sub hl [3, 4, 5, 1, 0] rfl) h
        · have h := q_ig c11 h
          refine lv_iload_n hx hb dX10_isBarred_99 rfl (lv_at hl 3 rfl) ?_
          refine lv_aload_n hx hb dX10_isBarred_100 rfl (lv_at hl 1 rfl) ?_
          refine q_getr (own := RX10) (C := RX10) (T := TX10) (N := 54) (ci := 10) (j := 11)  (b := 147) hx hb hts i10 hown F S q_k137 (by decide) rfl (by decide) (by decide) rfl (by decide) (hts (.fieldLink RX10 38 "HeavyRoutesModel" "hourTos" "[I") (by decide +kernel)) dX10_isBarred_101 ?_
          refine lv_iload hx hb dX10_isBarred_104 (lv_at hl 5 rfl) ?_
          refine q_iald hx hb F S q_k147 q_n147 g10 dX10_isBarred_106 ?_
          refine lv_icmp_gt (tgt := 114) hx hb dX10_isBarred_107 (by decide) (fun c13 => ?_) (fun c13 => ?_)
          · have h := q_ip c13 h
            refine lv_iconst (v := 0) hx hb dX10_isBarred_114 (by decide) ?_
            refine lv_istore (lv' := [(4, .int 0), (6, .int s0), (0, .ref (E.2.2.2 137)), (1, .int x1), (3, .int v3), (5, .int v5)]) hx hb dX10_isBarred_115 hl (by decide) rfl (fun ls hl => ?_)
            obtain ⟨y14, ey14⟩ : ∃ z : Int32, z = v5 + 1 := ⟨_, rfl⟩
            have h := q_le_e h ey14
            refine lv_iinc (v := y14) (lv' := [(5, .int y14), (4, .int 0), (6, .int s0), (0, .ref (E.2.2.2 137)), (1, .int x1), (3, .int v3)]) hx hb dX10_isBarred_117 hl (k := 5) rfl (by rw [ey14]; rfl) (by decide) rfl (fun ls hl => ?_)
            refine lv_goto (tgt := 14) hx hb dX10_isBarred_120 (by decide) ?_
            exact hKb v3 0 y14 μ H locs ls S (lv_sub hl [3, 4, 5, 1, 0] rfl) h
          · have h := q_ig c13 h
            refine lv_iconst (v := 1) hx hb dX10_isBarred_110 (by decide) ?_
            refine lv_goto (tgt := 115) hx hb dX10_isBarred_111 (by decide) ?_
            refine lv_istore (lv' := [(4, .int 1), (6, .int s0), (0, .ref (E.2.2.2 137)), (1, .int x1), (3, .int v3), (5, .int v5)]) hx hb dX10_isBarred_115 hl (by decide) rfl (fun ls hl => ?_)
            obtain ⟨y15, ey15⟩ : ∃ z : Int32, z = v5 + 1 := ⟨_, rfl⟩
            have h := q_le_e h ey15
            refine lv_iinc (v := y15) (lv' := [(5, .int y15), (4, .int 1), (6, .int s0), (0, .ref (E.2.2.2 137)), (1, .int x1), (3, .int v3)]) hx hb dX10_isBarred_117 hl (k := 5) rfl (by rw [ey15]; rfl) (by decide) rfl (fun ls hl => ?_)
            refine lv_goto (tgt := 14) hx hb dX10_isBarred_120 (by decide) ?_
            exact hKb v3 1 y15 μ H locs ls S (lv_sub hl [3, 4, 5, 1, 0] rfl) h
      · have h := q_ig c9 h
        refine lv_iload_n hx hb dX10_isBarred_63 rfl (lv_at hl 3 rfl) ?_
        refine lv_aload_n hx hb dX10_isBarred_64 rfl (lv_at hl 1 rfl) ?_
        refine q_getr (own := RX10) (C := RX10) (T := TX10) (N := 54) (ci := 10) (j := 10)  (b := 146) hx hb hts i10 hown F S q_k137 (by decide) rfl (by decide) (by decide) rfl (by decide) (hts (.fieldLink RX10 35 "HeavyRoutesModel" "hourFroms" "[I") (by decide +kernel)) dX10_isBarred_65 ?_
        refine lv_iload hx hb dX10_isBarred_68 (lv_at hl 5 rfl) ?_
        obtain ⟨g16, h⟩ := q_gd_some h
        refine q_iald hx hb F S q_k146 q_n146 g16 dX10_isBarred_70 ?_
        refine lv_icmp_ge (tgt := 110) hx hb dX10_isBarred_71 (by decide) (fun c17 => ?_) (fun c17 => ?_)
        · have h := q_ip c17 h
          refine lv_iconst (v := 1) hx hb dX10_isBarred_110 (by decide) ?_
          refine lv_goto (tgt := 115) hx hb dX10_isBarred_111 (by decide) ?_
          refine lv_istore (lv' := [(4, .int 1), (6, .int s0), (0, .ref (E.2.2.2 137)), (1, .int x1), (3, .int v3), (5, .int v5)]) hx hb dX10_isBarred_115 hl (by decide) rfl (fun ls hl => ?_)
          obtain ⟨y18, ey18⟩ : ∃ z : Int32, z = v5 + 1 := ⟨_, rfl⟩
          have h := q_le_e h ey18
          refine lv_iinc (v := y18) (lv' := [(5, .int y18), (4, .int 1), (6, .int s0), (0, .ref (E.2.2.2 137)), (1, .int x1), (3, .int v3)]) hx hb dX10_isBarred_117 hl (k := 5) rfl (by rw [ey18]; rfl) (by decide) rfl (fun ls hl => ?_)
          refine lv_goto (tgt := 14) hx hb dX10_isBarred_120 (by decide) ?_
          exact hKb v3 1 y18 μ H locs ls S (lv_sub hl [3, 4, 5, 1, 0] rfl) h
        · have h := q_ig c17 h
          refine lv_iload_n hx hb dX10_isBarred_74 rfl (lv_at hl 3 rfl) ?_
          refine lv_aload_n hx hb dX10_isBarred_75 rfl (lv_at hl 1 rfl) ?_
          refine q_getr (own := RX10) (C := RX10) (T := TX10) (N := 54) (ci := 10) (j := 11)  (b := 147) hx hb hts i10 hown F S q_k137 (by decide) rfl (by decide) (by decide) rfl (by decide) (hts (.fieldLink RX10 38 "HeavyRoutesModel" "hourTos" "[I") (by decide +kernel)) dX10_isBarred_76 ?_
          refine lv_iload hx hb dX10_isBarred_79 (lv_at hl 5 rfl) ?_
          refine q_iald hx hb F S q_k147 q_n147 g16 dX10_isBarred_81 ?_
          refine lv_icmp_gt (tgt := 114) hx hb dX10_isBarred_82 (by decide) (fun c19 => ?_) (fun c19 => ?_)
          · have h := q_ip c19 h
            refine lv_iconst (v := 0) hx hb dX10_isBarred_114 (by decide) ?_
            refine lv_istore (lv' := [(4, .int 0), (6, .int s0), (0, .ref (E.2.2.2 137)), (1, .int x1), (3, .int v3), (5, .int v5)]) hx hb dX10_isBarred_115 hl (by decide) rfl (fun ls hl => ?_)
            obtain ⟨y20, ey20⟩ : ∃ z : Int32, z = v5 + 1 := ⟨_, rfl⟩
            have h := q_le_e h ey20
            refine lv_iinc (v := y20) (lv' := [(5, .int y20), (4, .int 0), (6, .int s0), (0, .ref (E.2.2.2 137)), (1, .int x1), (3, .int v3)]) hx hb dX10_isBarred_117 hl (k := 5) rfl (by rw [ey20]; rfl) (by decide) rfl (fun ls hl => ?_)
            refine lv_goto (tgt := 14) hx hb dX10_isBarred_120 (by decide) ?_
            exact hKb v3 0 y20 μ H locs ls S (lv_sub hl [3, 4, 5, 1, 0] rfl) h
          · have h := q_ig c19 h
            refine lv_goto (tgt := 110) hx hb dX10_isBarred_85 (by decide) ?_
            refine lv_iconst (v := 1) hx hb dX10_isBarred_110 (by decide) ?_
            refine lv_goto (tgt := 115) hx hb dX10_isBarred_111 (by decide) ?_
            refine lv_istore (lv' := [(4, .int 1), (6, .int s0), (0, .ref (E.2.2.2 137)), (1, .int x1), (3, .int v3), (5, .int v5)]) hx hb dX10_isBarred_115 hl (by decide) rfl (fun ls hl => ?_)
            obtain ⟨y21, ey21⟩ : ∃ z : Int32, z = v5 + 1 := ⟨_, rfl⟩
            have h := q_le_e h ey21
            refine lv_iinc (v := y21) (lv' := [(5, .int y21), (4, .int 1), (6, .int s0), (0, .ref (E.2.2.2 137)), (1, .int x1), (3, .int v3)]) hx hb dX10_isBarred_117 hl (k := 5) rfl (by rw [ey21]; rfl) (by decide) rfl (fun ls hl => ?_)
            refine lv_goto (tgt := 14) hx hb dX10_isBarred_120 (by decide) ?_
            exact hKb v3 1 y21 μ H locs ls S (lv_sub hl [3, 4, 5, 1, 0] rfl) h
  have hL14 : ∀ (Kx : Int32 → q_M → Option (Int32 × q_M)), (∀ (v4 : Int32), ∀ (μ : q_M) (H : Heap) (locs : List Loc) (ls : Array Slot), q_S E (q_A E) s μ H locs → lv_has ls 7 [(4, .int v4)] → Kx v4 μ = some (r, μr) → W p l e ({ frames := 0, cells := 0, slots := 0, locals := 0 }) s m ([.ref (E.2.2.2 137), .int x1, .int x2] : List Value).toArray below meth c H locs 0 0 (MQ below (q_Qi E r μr) ([.ref (E.2.2.2 137), .int x1, .int x2] : List Value).toArray s 0 0 (q_A E)) (F0 m 123 ls [])) → ∀ (n : Nat), ∀ (v3 : Int32), ∀ (v4 : Int32), ∀ (v5 : Int32), ∀ (μ : q_M) (H : Heap) (locs : List Loc) (ls : Array Slot), q_S E (q_A E) s μ H locs → lv_has ls 7 [(0, .ref (E.2.2.2 137)), (1, .int x1), (3, .int v3), (4, .int v4), (5, .int v5)] → L_X10_isBarred_14 x1 x2 Kx n v3 v4 v5 μ = some (r, μr) → W p l e ({ frames := 0, cells := 0, slots := 0, locals := 0 }) s m ([.ref (E.2.2.2 137), .int x1, .int x2] : List Value).toArray below meth c H locs 0 0 (MQ below (q_Qi E r μr) ([.ref (E.2.2.2 137), .int x1, .int x2] : List Value).toArray s 0 0 (q_A E)) (F0 m 14 ls []) := by
    intro Kx hKx n
    induction n with
    | zero => intro v3 v4 v5 μ H locs ls S hl h; exact absurd h (by simp [L_X10_isBarred_14])
    | succ n ih =>
      intro v3 v4 v5 μ H locs ls S hl h
      rw [L_X10_isBarred_14] at h
      refine lv_iload hx hb dX10_isBarred_14 (lv_at hl 4 rfl) ?_
      refine lv_iconst (v := 3) hx hb dX10_isBarred_16 (by decide) ?_
      refine lv_iload_n hx hb dX10_isBarred_17 rfl (lv_at hl 1 rfl) ?_
      refine lv_imul hx hb dX10_isBarred_18 ?_
      refine lv_aload_n hx hb dX10_isBarred_19 rfl (lv_at hl 0 rfl) ?_
      refine q_getr (own := RX10) (C := RX10) (T := TX10) (N := 54) (ci := 10) (j := 9)  (b := 145) hx hb hts i10 hown F S q_k137 (by decide) rfl (by decide) (by decide) rfl (by decide) (hts (.fieldLink RX10 32 "HeavyRoutesModel" "hourCounts" "[I") (by decide +kernel)) dX10_isBarred_20 ?_
      refine lv_iload_n hx hb dX10_isBarred_23 rfl (lv_at hl 1 rfl) ?_
      obtain ⟨g3, h⟩ := q_gd_some h
      refine q_iald hx hb F S q_k145 q_n145 g3 dX10_isBarred_24 ?_
      refine lv_iadd hx hb dX10_isBarred_25 ?_
      refine lv_icmp_ge (tgt := 123) hx hb dX10_isBarred_26 (by decide) (fun c4 => ?_) (fun c4 => ?_)
      · have h := q_ip c4 h
        exact hKx v4 μ H locs ls S (lv_sub hl [3] rfl) h
      · have h := q_ig c4 h
        refine lv_aload_n hx hb dX10_isBarred_29 rfl (lv_at hl 0 rfl) ?_
        refine q_getr (own := RX10) (C := RX10) (T := TX10) (N := 54) (ci := 10) (j := 10)  (b := 146) hx hb hts i10 hown F S q_k137 (by decide) rfl (by decide) (by decide) rfl (by decide) (hts (.fieldLink RX10 35 "HeavyRoutesModel" "hourFroms" "[I") (by decide +kernel)) dX10_isBarred_30 ?_
        refine lv_iload hx hb dX10_isBarred_33 (lv_at hl 4 rfl) ?_
        obtain ⟨g5, h⟩ := q_gd_some h
        refine q_iald hx hb F S q_k146 q_n146 g5 dX10_isBarred_35 ?_
        refine lv_aload_n hx hb dX10_isBarred_36 rfl (lv_at hl 0 rfl) ?_
        refine q_getr (own := RX10) (C := RX10) (T := TX10) (N := 54) (ci := 10) (j := 11)  (b := 147) hx hb hts i10 hown F S q_k137 (by decide) rfl (by decide) (by decide) rfl (by decide) (hts (.fieldLink RX10 38 "HeavyRoutesModel" "hourTos" "[I") (by decide +kernel)) dX10_isBarred_37 ?_
        refine lv_iload hx hb dX10_isBarred_40 (lv_at hl 4 rfl) ?_
        refine q_iald hx hb F S q_k147 q_n147 g5 dX10_isBarred_42 ?_
        refine lv_icmp_le (tgt := 50) hx hb dX10_isBarred_43 (by decide) (fun c6 => ?_) (fun c6 => ?_)
        · have h := q_ip c6 h
          refine lv_iconst (v := 0) hx hb dX10_isBarred_50 (by decide) ?_
          exact hJ51 _ ih _ hKx v3 v4 v5 0 μ H locs ls S (lv_sub hl [0, 1, 2, 3, 4] rfl) h
        · have h := q_ig c6 h
          refine lv_iconst (v := 1) hx hb dX10_isBarred_46 (by decide) ?_
          refine lv_goto (tgt := 51) hx hb dX10_isBarred_47 (by decide) ?_
          exact hJ51 _ ih _ hKx v3 v4 v5 1 μ H locs ls S (lv_sub hl [0, 1, 2, 3, 4] rfl) h
  unfold f_X10_isBarred at h
  obtain ⟨H, eH⟩ : ∃ z, z = s.heap := ⟨_, rfl⟩
  obtain ⟨locs, eL⟩ : ∃ z : List Loc, z = [] := ⟨_, rfl⟩
  rw [← eH, ← eL] at S
  suffices hh : W p l e ({ frames := 0, cells := 0, slots := 0, locals := 0 }) s m ([.ref (E.2.2.2 137), .int x1, .int x2] : List Value).toArray below meth c H locs 0 0 (MQ below (q_Qi E r μr) ([.ref (E.2.2.2 137), .int x1, .int x2] : List Value).toArray s 0 0 (q_A E)) (F0 m 0 ls []) by rw [eH, eL] at hh; exact hh
  refine lv_iload_n hx hb dX10_isBarred_0 rfl (lv_at hl 2 rfl) ?_
  refine lv_sipush (v := 1440) hx hb dX10_isBarred_1 (by decide) ?_
  refine lv_irem hx hb dX10_isBarred_4 (by decide) ?_
  refine lv_topi (fun y1 ey1 => ?_)
  have h := q_le_e h ey1
  refine lv_istore_n (lv' := [(3, .int y1), (0, .ref (E.2.2.2 137)), (1, .int x1), (2, .int x2)]) hx hb dX10_isBarred_5 rfl hl (by decide) rfl (fun ls hl => ?_)
  refine lv_iconst (v := 0) hx hb dX10_isBarred_6 (by decide) ?_
  refine lv_istore (lv' := [(4, .int 0), (3, .int y1), (0, .ref (E.2.2.2 137)), (1, .int x1), (2, .int x2)]) hx hb dX10_isBarred_7 hl (by decide) rfl (fun ls hl => ?_)
  refine lv_iconst (v := 3) hx hb dX10_isBarred_9 (by decide) ?_
  refine lv_iload_n hx hb dX10_isBarred_10 rfl (lv_at hl 3 rfl) ?_
  refine lv_imul hx hb dX10_isBarred_11 ?_
  refine lv_topi (fun y2 ey2 => ?_)
  have h := q_le_e h ey2
  refine lv_istore (lv' := [(5, .int y2), (4, .int 0), (3, .int y1), (0, .ref (E.2.2.2 137)), (1, .int x1), (2, .int x2)]) hx hb dX10_isBarred_12 hl (by decide) rfl (fun ls hl => ?_)
  refine hL14 _ (fun v4 μ H locs ls S hl h => ?_) q_fu y1 0 y2 μ H locs ls S (lv_sub hl [3, 4, 2, 1, 0] rfl) h
  refine lv_iload hx hb dX10_isBarred_123 (lv_at hl 0 rfl) ?_
  obtain ⟨g22, h⟩ := q_gd_some h
  exact q_zret hx hb hr S g22 h hlk dX10_isBarred_125
def L_X10_earliest_2 (x1 : Int32) (x2 : Int32) (Kx : q_M → Option (Int32 × q_M)) : Nat → Int32 → q_M → Option (Int32 × q_M)
  | 0, _, _ => none
  | n + 1, v3, μ => (if 1440 ≤ v3 then Kx μ else q_bd (f_X10_isBarred x1 (x2 + v3) μ) (fun r4 μ2 => (if r4 = 0 then some ((x2 + v3), μ2) else q_le (v3 + 1 : Int32) (fun y6 => (L_X10_earliest_2 x1 x2 Kx n) y6 μ2))))
def f_X10_earliest (x1 : Int32) (x2 : Int32) (μ : q_M) : Option (Int32 × q_M) := L_X10_earliest_2 x1 x2 (fun μ => some ((-2), μ)) q_fu 0 μ
set_option maxHeartbeats 4000000 in
set_option maxRecDepth 100000 in
theorem c_X10_earliest (l : Launch) (E : q_E) (hE : q_I E) (x1 : Int32) (x2 : Int32) (μ μr : q_M) (r : Int32) (h : f_X10_earliest x1 x2 μ = some (r, μr)) : Met l yX10_earliest wsX10_earliest ({ frames := 1, cells := 0, slots := 0, locals := 26 }) (q_Pc E μ [.ref (E.2.2.2 137), .int x1, .int x2]) (q_Qi E r μr) 0 0 (q_A E) := by
  refine q_met (cc := cX10_earliest) (maxL := 4) (ret := (some .int)) hE (by decide) rfl (Nat.le_of_ble_eq_true rfl) ?_
  intro p e s m below meth c hx hb hr hml hown hts hlk F S ls hl
  have hl : lv_has ls 4 [(0, .ref (E.2.2.2 137)), (1, .int x1), (2, .int x2)] := hl
  have hL2 : ∀ (Kx : q_M → Option (Int32 × q_M)), (∀ (μ : q_M) (H : Heap) (locs : List Loc) (ls : Array Slot), q_S E (q_A E) s μ H locs → lv_has ls 4 [] → Kx μ = some (r, μr) → W p l e ({ frames := 1, cells := 0, slots := 0, locals := 26 }) s m ([.ref (E.2.2.2 137), .int x1, .int x2] : List Value).toArray below meth c H locs 0 0 (MQ below (q_Qi E r μr) ([.ref (E.2.2.2 137), .int x1, .int x2] : List Value).toArray s 0 0 (q_A E)) (F0 m 30 ls [])) → ∀ (n : Nat), ∀ (v3 : Int32), ∀ (μ : q_M) (H : Heap) (locs : List Loc) (ls : Array Slot), q_S E (q_A E) s μ H locs → lv_has ls 4 [(0, .ref (E.2.2.2 137)), (1, .int x1), (2, .int x2), (3, .int v3)] → L_X10_earliest_2 x1 x2 Kx n v3 μ = some (r, μr) → W p l e ({ frames := 1, cells := 0, slots := 0, locals := 26 }) s m ([.ref (E.2.2.2 137), .int x1, .int x2] : List Value).toArray below meth c H locs 0 0 (MQ below (q_Qi E r μr) ([.ref (E.2.2.2 137), .int x1, .int x2] : List Value).toArray s 0 0 (q_A E)) (F0 m 2 ls []) := by
    intro Kx hKx n
    induction n with
    | zero => intro v3 μ H locs ls S hl h; exact absurd h (by simp [L_X10_earliest_2])
    | succ n ih =>
      intro v3 μ H locs ls S hl h
      rw [L_X10_earliest_2] at h
      refine lv_iload_n hx hb dX10_earliest_2 rfl (lv_at hl 3 rfl) ?_
      refine lv_sipush (v := 1440) hx hb dX10_earliest_3 (by decide) ?_
      refine lv_icmp_ge (tgt := 30) hx hb dX10_earliest_6 (by decide) (fun c1 => ?_) (fun c1 => ?_)
      · have h := q_ip c1 h
        exact hKx μ H locs ls S (lv_sub hl [] rfl) h
      · have h := q_ig c1 h
        refine lv_aload_n hx hb dX10_earliest_9 rfl (lv_at hl 0 rfl) ?_
        refine lv_iload_n hx hb dX10_earliest_10 rfl (lv_at hl 1 rfl) ?_
        refine lv_iload_n hx hb dX10_earliest_11 rfl (lv_at hl 2 rfl) ?_
        refine lv_iload_n hx hb dX10_earliest_12 rfl (lv_at hl 3 rfl) ?_
        refine lv_iadd hx hb dX10_earliest_13 ?_
        obtain ⟨r4, μ2, hc3, h⟩ := q_bd_some h
        refine q_ki F S (q_runV (As := [.int x1, .int (x2 + v3)]) (rest := []) (b := 137) ⟨hx, hb, hml, hown, hts⟩ F S (c_X10_isBarred l E hE x1 (x2 + v3) μ μ2 r4 hc3) (cwV 2 hts gX10_earliest_X10_isBarred rfl rfl rfl (by decide +kernel) ⟨Nat.le_of_ble_eq_true rfl, Nat.le_of_ble_eq_true rfl⟩) q_k137 (by decide) rfl rfl hl.1 rfl (Nat.le_of_ble_eq_true rfl) dX10_earliest_14 ⟨Nat.zero_le _, Nat.zero_le _⟩) (fun H locs S => ?_)
        refine lv_if_ne (tgt := 24) hx hb dX10_earliest_17 (by decide) (fun c5 => ?_) (fun c5 => ?_)
        · have h := q_ig c5 h
          obtain ⟨y6, ey6⟩ : ∃ z : Int32, z = v3 + 1 := ⟨_, rfl⟩
          have h := q_le_e h ey6
          refine lv_iinc (v := y6) (lv' := [(3, .int y6), (0, .ref (E.2.2.2 137)), (1, .int x1), (2, .int x2)]) hx hb dX10_earliest_24 hl (k := 3) rfl (by rw [ey6]; rfl) (by decide) rfl (fun ls hl => ?_)
          refine lv_goto (tgt := 2) hx hb dX10_earliest_27 (by decide) ?_
          exact ih y6 μ2 H locs ls S (lv_sub hl [1, 2, 3, 0] rfl) h
        · have h := q_ip c5 h
          refine lv_iload_n hx hb dX10_earliest_20 rfl (lv_at hl 2 rfl) ?_
          refine lv_iload_n hx hb dX10_earliest_21 rfl (lv_at hl 3 rfl) ?_
          refine lv_iadd hx hb dX10_earliest_22 ?_
          exact q_iret hx hb hr S h hlk dX10_earliest_23
  unfold f_X10_earliest at h
  obtain ⟨H, eH⟩ : ∃ z, z = s.heap := ⟨_, rfl⟩
  obtain ⟨locs, eL⟩ : ∃ z : List Loc, z = [] := ⟨_, rfl⟩
  rw [← eH, ← eL] at S
  suffices hh : W p l e ({ frames := 1, cells := 0, slots := 0, locals := 26 }) s m ([.ref (E.2.2.2 137), .int x1, .int x2] : List Value).toArray below meth c H locs 0 0 (MQ below (q_Qi E r μr) ([.ref (E.2.2.2 137), .int x1, .int x2] : List Value).toArray s 0 0 (q_A E)) (F0 m 0 ls []) by rw [eH, eL] at hh; exact hh
  refine lv_iconst (v := 0) hx hb dX10_earliest_0 (by decide) ?_
  refine lv_istore_n (lv' := [(3, .int 0), (0, .ref (E.2.2.2 137)), (1, .int x1), (2, .int x2)]) hx hb dX10_earliest_1 rfl hl (by decide) rfl (fun ls hl => ?_)
  refine hL2 _ (fun μ H locs ls S hl h => ?_) q_fu 0 μ H locs ls S (lv_sub hl [1, 2, 3, 0] rfl) h
  refine lv_bipush (v := (-2)) hx hb dX10_earliest_30 (by decide) ?_
  exact q_iret hx hb hr S h hlk dX10_earliest_32
def f_X10_takes (x1 : Int32) (μ : q_M) : Option (Int32 × q_M) := q_gd (q_ix x1 12) ((if (μ.1 144 x1.toNatClampNeg) < 0 then some (((μ.1 140 x1.toNatClampNeg) * 1), μ) else q_gd (q_ix (μ.1 144 x1.toNatClampNeg) 6) ((if (μ.1 149 (μ.1 144 x1.toNatClampNeg).toNatClampNeg) = 0 then some (((μ.1 140 x1.toNatClampNeg) * 1), μ) else some (((μ.1 140 x1.toNatClampNeg) * 2), μ)))))
set_option maxHeartbeats 4000000 in
set_option maxRecDepth 100000 in
theorem c_X10_takes (l : Launch) (E : q_E) (hE : q_I E) (x1 : Int32) (μ μr : q_M) (r : Int32) (h : f_X10_takes x1 μ = some (r, μr)) : Met l yX10_takes wsX10_takes ({ frames := 0, cells := 0, slots := 0, locals := 0 }) (q_Pc E μ [.ref (E.2.2.2 137), .int x1]) (q_Qi E r μr) 0 0 (q_A E) := by
  refine q_met (cc := cX10_takes) (maxL := 2) (ret := (some .int)) hE (by decide) rfl (Nat.le_of_ble_eq_true rfl) ?_
  intro p e s m below meth c hx hb hr hml hown hts hlk F S ls hl
  have hl : lv_has ls 2 [(0, .ref (E.2.2.2 137)), (1, .int x1)] := hl
  have i10 : ∀ w ∈ u_ws RX10 TX10 54, w ∈ wsX10_takes := by decide +kernel
  unfold f_X10_takes at h
  obtain ⟨H, eH⟩ : ∃ z, z = s.heap := ⟨_, rfl⟩
  obtain ⟨locs, eL⟩ : ∃ z : List Loc, z = [] := ⟨_, rfl⟩
  rw [← eH, ← eL] at S
  suffices hh : W p l e ({ frames := 0, cells := 0, slots := 0, locals := 0 }) s m ([.ref (E.2.2.2 137), .int x1] : List Value).toArray below meth c H locs 0 0 (MQ below (q_Qi E r μr) ([.ref (E.2.2.2 137), .int x1] : List Value).toArray s 0 0 (q_A E)) (F0 m 0 ls []) by rw [eH, eL] at hh; exact hh
  refine lv_aload_n hx hb dX10_takes_0 rfl (lv_at hl 0 rfl) ?_
  refine q_getr (own := RX10) (C := RX10) (T := TX10) (N := 54) (ci := 10) (j := 4)  (b := 140) hx hb hts i10 hown F S q_k137 (by decide) rfl (by decide) (by decide) rfl (by decide) (hts (.fieldLink RX10 16 "HeavyRoutesModel" "minutes" "[I") (by decide +kernel)) dX10_takes_1 ?_
  refine lv_iload_n hx hb dX10_takes_4 rfl (lv_at hl 1 rfl) ?_
  obtain ⟨g1, h⟩ := q_gd_some h
  refine q_iald hx hb F S q_k140 q_n140 g1 dX10_takes_5 ?_
  refine lv_aload_n hx hb dX10_takes_6 rfl (lv_at hl 0 rfl) ?_
  refine q_getr (own := RX10) (C := RX10) (T := TX10) (N := 54) (ci := 10) (j := 8)  (b := 144) hx hb hts i10 hown F S q_k137 (by decide) rfl (by decide) (by decide) rfl (by decide) (hts (.fieldLink RX10 29 "HeavyRoutesModel" "bridgeOf" "[I") (by decide +kernel)) dX10_takes_7 ?_
  refine lv_iload_n hx hb dX10_takes_10 rfl (lv_at hl 1 rfl) ?_
  refine q_iald hx hb F S q_k144 q_n144 g1 dX10_takes_11 ?_
  refine lv_if_lt (tgt := 33) hx hb dX10_takes_12 (by decide) (fun c2 => ?_) (fun c2 => ?_)
  · have h := q_ip c2 h
    refine lv_iconst (v := 1) hx hb dX10_takes_33 (by decide) ?_
    refine lv_imul hx hb dX10_takes_34 ?_
    exact q_iret hx hb hr S h hlk dX10_takes_35
  · have h := q_ig c2 h
    refine lv_aload_n hx hb dX10_takes_15 rfl (lv_at hl 0 rfl) ?_
    refine q_getr (own := RX10) (C := RX10) (T := TX10) (N := 54) (ci := 10) (j := 14)  (b := 149) hx hb hts i10 hown F S q_k137 (by decide) rfl (by decide) (by decide) rfl (by decide) (hts (.fieldLink RX10 44 "HeavyRoutesModel" "isSlow" "[Z") (by decide +kernel)) dX10_takes_16 ?_
    refine lv_aload_n hx hb dX10_takes_19 rfl (lv_at hl 0 rfl) ?_
    refine q_getr (own := RX10) (C := RX10) (T := TX10) (N := 54) (ci := 10) (j := 8)  (b := 144) hx hb hts i10 hown F S q_k137 (by decide) rfl (by decide) (by decide) rfl (by decide) (hts (.fieldLink RX10 29 "HeavyRoutesModel" "bridgeOf" "[I") (by decide +kernel)) dX10_takes_20 ?_
    refine lv_iload_n hx hb dX10_takes_23 rfl (lv_at hl 1 rfl) ?_
    refine q_iald hx hb F S q_k144 q_n144 g1 dX10_takes_24 ?_
    obtain ⟨g3, h⟩ := q_gd_some h
    refine q_zald hx hb F S q_k149 q_n149 g3 dX10_takes_25 ?_
    refine lv_if_eq (tgt := 33) hx hb dX10_takes_26 (by decide) (fun c4 => ?_) (fun c4 => ?_)
    · have h := q_ip c4 h
      refine lv_iconst (v := 1) hx hb dX10_takes_33 (by decide) ?_
      refine lv_imul hx hb dX10_takes_34 ?_
      exact q_iret hx hb hr S h hlk dX10_takes_35
    · have h := q_ig c4 h
      refine lv_iconst (v := 2) hx hb dX10_takes_29 (by decide) ?_
      refine lv_goto (tgt := 34) hx hb dX10_takes_30 (by decide) ?_
      refine lv_imul hx hb dX10_takes_34 ?_
      exact q_iret hx hb hr S h hlk dX10_takes_35
def L_X10_findBearing_2 (Kx : q_M → Option (Unit × q_M)) : Nat → Int32 → q_M → Option (Unit × q_M)
  | 0, _, _ => none
  | n + 1, v1, μ => (if (μ.1 137 1) ≤ v1 then Kx μ else q_bd (f_X10_why v1 μ) (fun r4 μ2 => (if r4 = 0 then q_bd (f_X10_earliest v1 0 μ2) (fun r11 μ9 => (if r11 = (-2) then q_gd (q_ix v1 12) (q_le (q_si μ9 162 v1.toNatClampNeg 0) (fun μ14 => q_le (v1 + 1 : Int32) (fun y15 => (L_X10_findBearing_2 Kx n) y15 μ14))) else q_gd (q_ix v1 12) (q_le (q_si μ9 162 v1.toNatClampNeg 1) (fun μ17 => q_le (v1 + 1 : Int32) (fun y18 => (L_X10_findBearing_2 Kx n) y18 μ17))))) else q_gd (q_ix v1 12) (q_le (q_si μ2 162 v1.toNatClampNeg 0) (fun μ7 => q_le (v1 + 1 : Int32) (fun y8 => (L_X10_findBearing_2 Kx n) y8 μ7))))))
def f_X10_findBearing (μ : q_M) : Option (Unit × q_M) := L_X10_findBearing_2 (fun μ => some ((), μ)) q_fu 0 μ
set_option maxHeartbeats 4000000 in
set_option maxRecDepth 100000 in
theorem c_X10_findBearing (l : Launch) (E : q_E) (hE : q_I E) (μ μr : q_M) (r : Unit) (h : f_X10_findBearing μ = some (r, μr)) : Met l yX10_findBearing wsX10_findBearing ({ frames := 6, cells := 0, slots := 0, locals := 157 }) (q_Pc E μ [.ref (E.2.2.2 137)]) (q_Qv E r μr) 0 0 (q_A E) := by
  refine q_met (cc := cX10_findBearing) (maxL := 2) (ret := none) hE (by decide) rfl (Nat.le_of_ble_eq_true rfl) ?_
  intro p e s m below meth c hx hb hr hml hown hts hlk F S ls hl
  have hl : lv_has ls 2 [(0, .ref (E.2.2.2 137))] := hl
  have i10 : ∀ w ∈ u_ws RX10 TX10 54, w ∈ wsX10_findBearing := by decide +kernel
  have hL2 : ∀ (Kx : q_M → Option (Unit × q_M)), (∀ (μ : q_M) (H : Heap) (locs : List Loc) (ls : Array Slot), q_S E (q_A E) s μ H locs → lv_has ls 2 [] → Kx μ = some (r, μr) → W p l e ({ frames := 6, cells := 0, slots := 0, locals := 157 }) s m ([.ref (E.2.2.2 137)] : List Value).toArray below meth c H locs 0 0 (MQ below (q_Qv E r μr) ([.ref (E.2.2.2 137)] : List Value).toArray s 0 0 (q_A E)) (F0 m 46 ls [])) → ∀ (n : Nat), ∀ (v1 : Int32), ∀ (μ : q_M) (H : Heap) (locs : List Loc) (ls : Array Slot), q_S E (q_A E) s μ H locs → lv_has ls 2 [(0, .ref (E.2.2.2 137)), (1, .int v1)] → L_X10_findBearing_2 Kx n v1 μ = some (r, μr) → W p l e ({ frames := 6, cells := 0, slots := 0, locals := 157 }) s m ([.ref (E.2.2.2 137)] : List Value).toArray below meth c H locs 0 0 (MQ below (q_Qv E r μr) ([.ref (E.2.2.2 137)] : List Value).toArray s 0 0 (q_A E)) (F0 m 2 ls []) := by
    intro Kx hKx n
    induction n with
    | zero => intro v1 μ H locs ls S hl h; exact absurd h (by simp [L_X10_findBearing_2])
    | succ n ih =>
      intro v1 μ H locs ls S hl h
      rw [L_X10_findBearing_2] at h
      refine lv_iload_n hx hb dX10_findBearing_2 rfl (lv_at hl 1 rfl) ?_
      refine lv_aload_n hx hb dX10_findBearing_3 rfl (lv_at hl 0 rfl) ?_
      refine q_geti (own := RX10) (C := RX10) (T := TX10) (N := 54) (ci := 10) (j := 1)  hx hb hts i10 hown F S q_k137 (by decide) rfl (by decide) (by decide) rfl (hts (.fieldLink RX10 99 "HeavyRoutesModel" "roads" "I") (by decide +kernel)) dX10_findBearing_4 ?_
      refine lv_icmp_ge (tgt := 46) hx hb dX10_findBearing_7 (by decide) (fun c1 => ?_) (fun c1 => ?_)
      · have h := q_ip c1 h
        exact hKx μ H locs ls S (lv_sub hl [] rfl) h
      · have h := q_ig c1 h
        refine lv_aload_n hx hb dX10_findBearing_10 rfl (lv_at hl 0 rfl) ?_
        refine q_getr (own := RX10) (C := RX10) (T := TX10) (N := 54) (ci := 10) (j := 51)  (b := 162) hx hb hts i10 hown F S q_k137 (by decide) rfl (by decide) (by decide) rfl (by decide) (hts (.fieldLink RX10 90 "HeavyRoutesModel" "bears" "[Z") (by decide +kernel)) dX10_findBearing_11 ?_
        refine lv_iload_n hx hb dX10_findBearing_14 rfl (lv_at hl 1 rfl) ?_
        refine lv_aload_n hx hb dX10_findBearing_15 rfl (lv_at hl 0 rfl) ?_
        refine lv_iload_n hx hb dX10_findBearing_16 rfl (lv_at hl 1 rfl) ?_
        obtain ⟨r4, μ2, hc3, h⟩ := q_bd_some h
        refine q_ki F S (q_runV (As := [.int v1]) (rest := [.int v1, .ref (E.2.2.2 162)]) (b := 137) ⟨hx, hb, hml, hown, hts⟩ F S (c_X10_why l E hE v1 μ μ2 r4 hc3) (cwV 1 hts gX10_findBearing_X10_why rfl rfl rfl (by decide +kernel) ⟨Nat.le_of_ble_eq_true rfl, Nat.le_of_ble_eq_true rfl⟩) q_k137 (by decide) rfl rfl hl.1 rfl (Nat.le_of_ble_eq_true rfl) dX10_findBearing_17 ⟨Nat.zero_le _, Nat.zero_le _⟩) (fun H locs S => ?_)
        refine lv_if_ne (tgt := 38) hx hb dX10_findBearing_20 (by decide) (fun c5 => ?_) (fun c5 => ?_)
        · have h := q_ig c5 h
          refine lv_iconst (v := 0) hx hb dX10_findBearing_38 (by decide) ?_
          obtain ⟨g6, h⟩ := q_gd_some h
          refine q_zast hx hb F S q_k162 q_n162 g6 (by decide) dX10_findBearing_39 (fun H locs μ7 eμ7 S => ?_)
          have h := q_le_e h eμ7
          obtain ⟨y8, ey8⟩ : ∃ z : Int32, z = v1 + 1 := ⟨_, rfl⟩
          have h := q_le_e h ey8
          refine lv_iinc (v := y8) (lv' := [(1, .int y8), (0, .ref (E.2.2.2 137))]) hx hb dX10_findBearing_40 hl (k := 1) rfl (by rw [ey8]; rfl) (by decide) rfl (fun ls hl => ?_)
          refine lv_goto (tgt := 2) hx hb dX10_findBearing_43 (by decide) ?_
          exact ih y8 μ7 H locs ls S (lv_sub hl [1, 0] rfl) h
        · have h := q_ip c5 h
          refine lv_aload_n hx hb dX10_findBearing_23 rfl (lv_at hl 0 rfl) ?_
          refine lv_iload_n hx hb dX10_findBearing_24 rfl (lv_at hl 1 rfl) ?_
          refine lv_iconst (v := 0) hx hb dX10_findBearing_25 (by decide) ?_
          obtain ⟨r11, μ9, hc10, h⟩ := q_bd_some h
          refine q_ki F S (q_runV (As := [.int v1, .int 0]) (rest := [.int v1, .ref (E.2.2.2 162)]) (b := 137) ⟨hx, hb, hml, hown, hts⟩ F S (c_X10_earliest l E hE v1 0 μ2 μ9 r11 hc10) (cwV 2 hts gX10_findBearing_X10_earliest rfl rfl rfl (by decide +kernel) ⟨Nat.le_of_ble_eq_true rfl, Nat.le_of_ble_eq_true rfl⟩) q_k137 (by decide) rfl rfl hl.1 rfl (Nat.le_of_ble_eq_true rfl) dX10_findBearing_26 ⟨Nat.zero_le _, Nat.zero_le _⟩) (fun H locs S => ?_)
          refine lv_bipush (v := (-2)) hx hb dX10_findBearing_29 (by decide) ?_
          refine lv_icmp_eq (tgt := 38) hx hb dX10_findBearing_31 (by decide) (fun c12 => ?_) (fun c12 => ?_)
          · have h := q_ip c12 h
            refine lv_iconst (v := 0) hx hb dX10_findBearing_38 (by decide) ?_
            obtain ⟨g13, h⟩ := q_gd_some h
            refine q_zast hx hb F S q_k162 q_n162 g13 (by decide) dX10_findBearing_39 (fun H locs μ14 eμ14 S => ?_)
            have h := q_le_e h eμ14
            obtain ⟨y15, ey15⟩ : ∃ z : Int32, z = v1 + 1 := ⟨_, rfl⟩
            have h := q_le_e h ey15
            refine lv_iinc (v := y15) (lv' := [(1, .int y15), (0, .ref (E.2.2.2 137))]) hx hb dX10_findBearing_40 hl (k := 1) rfl (by rw [ey15]; rfl) (by decide) rfl (fun ls hl => ?_)
            refine lv_goto (tgt := 2) hx hb dX10_findBearing_43 (by decide) ?_
            exact ih y15 μ14 H locs ls S (lv_sub hl [1, 0] rfl) h
          · have h := q_ig c12 h
            refine lv_iconst (v := 1) hx hb dX10_findBearing_34 (by decide) ?_
            refine lv_goto (tgt := 39) hx hb dX10_findBearing_35 (by decide) ?_
            obtain ⟨g16, h⟩ := q_gd_some h
            refine q_zast hx hb F S q_k162 q_n162 g16 (by decide) dX10_findBearing_39 (fun H locs μ17 eμ17 S => ?_)
            have h := q_le_e h eμ17
            obtain ⟨y18, ey18⟩ : ∃ z : Int32, z = v1 + 1 := ⟨_, rfl⟩
            have h := q_le_e h ey18
            refine lv_iinc (v := y18) (lv' := [(1, .int y18), (0, .ref (E.2.2.2 137))]) hx hb dX10_findBearing_40 hl (k := 1) rfl (by rw [ey18]; rfl) (by decide) rfl (fun ls hl => ?_)
            refine lv_goto (tgt := 2) hx hb dX10_findBearing_43 (by decide) ?_
            exact ih y18 μ17 H locs ls S (lv_sub hl [1, 0] rfl) h
  unfold f_X10_findBearing at h
  obtain ⟨H, eH⟩ : ∃ z, z = s.heap := ⟨_, rfl⟩
  obtain ⟨locs, eL⟩ : ∃ z : List Loc, z = [] := ⟨_, rfl⟩
  rw [← eH, ← eL] at S
  suffices hh : W p l e ({ frames := 6, cells := 0, slots := 0, locals := 157 }) s m ([.ref (E.2.2.2 137)] : List Value).toArray below meth c H locs 0 0 (MQ below (q_Qv E r μr) ([.ref (E.2.2.2 137)] : List Value).toArray s 0 0 (q_A E)) (F0 m 0 ls []) by rw [eH, eL] at hh; exact hh
  refine lv_iconst (v := 0) hx hb dX10_findBearing_0 (by decide) ?_
  refine lv_istore_n (lv' := [(1, .int 0), (0, .ref (E.2.2.2 137))]) hx hb dX10_findBearing_1 rfl hl (by decide) rfl (fun ls hl => ?_)
  refine hL2 _ (fun μ H locs ls S hl h => ?_) q_fu 0 μ H locs ls S (lv_sub hl [1, 0] rfl) h
  exact q_vret hx hb hr S h hlk dX10_findBearing_46
def L_X10_endOf_7 (x1 : Nat) (x2 : Int32) (x3 : Int32) (x4 : Int32) (Kx : Int32 → q_M → Option (Int32 × q_M)) : Nat → Int32 → Int32 → q_M → Option (Int32 × q_M)
  | 0, _, _, _ => none
  | n + 1, v5, v6, μ => (if x3 ≤ v6 then Kx v5 μ else q_gd (q_ix (x2 + v6) (q_len x1)) (q_bd (f_X10_earliest (μ.1 x1 (x2 + v6).toNatClampNeg) v5 μ) (fun r5 μ3 => q_bd (f_X10_takes (μ3.1 x1 (x2 + v6).toNatClampNeg) μ3) (fun r8 μ6 => q_le ((r5 + r8) : Int32) (fun y9 => q_le (v6 + 1 : Int32) (fun y10 => (L_X10_endOf_7 x1 x2 x3 x4 Kx n) y9 y10 μ6))))))
def f_X10_endOf (x1 : Nat) (x2 : Int32) (x3 : Int32) (x4 : Int32) (μ : q_M) : Option (Int32 × q_M) := L_X10_endOf_7 x1 x2 x3 x4 (fun v5 μ => some (v5, μ)) q_fu x4 0 μ
set_option maxHeartbeats 4000000 in
set_option maxRecDepth 100000 in
theorem c_X10_endOf (l : Launch) (E : q_E) (hE : q_I E) (x1 : Nat) (x2 : Int32) (x3 : Int32) (x4 : Int32) (kx1 : q_kd x1 = 11) (μ μr : q_M) (r : Int32) (h : f_X10_endOf x1 x2 x3 x4 μ = some (r, μr)) : Met l yX10_endOf wsX10_endOf ({ frames := 2, cells := 0, slots := 0, locals := 49 }) (q_Pc E μ [.ref (E.2.2.2 137), .ref (E.2.2.2 x1), .int x2, .int x3, .int x4]) (q_Qi E r μr) 0 0 (q_A E) := by
  refine q_met (cc := cX10_endOf) (maxL := 7) (ret := (some .int)) hE (by decide) rfl (Nat.le_of_ble_eq_true rfl) ?_
  intro p e s m below meth c hx hb hr hml hown hts hlk F S ls hl
  have hl : lv_has ls 7 [(0, .ref (E.2.2.2 137)), (1, .ref (E.2.2.2 x1)), (2, .int x2), (3, .int x3), (4, .int x4)] := hl
  have hL7 : ∀ (Kx : Int32 → q_M → Option (Int32 × q_M)), (∀ (v5 : Int32), ∀ (μ : q_M) (H : Heap) (locs : List Loc) (ls : Array Slot), q_S E (q_A E) s μ H locs → lv_has ls 7 [(5, .int v5)] → Kx v5 μ = some (r, μr) → W p l e ({ frames := 2, cells := 0, slots := 0, locals := 49 }) s m ([.ref (E.2.2.2 137), .ref (E.2.2.2 x1), .int x2, .int x3, .int x4] : List Value).toArray below meth c H locs 0 0 (MQ below (q_Qi E r μr) ([.ref (E.2.2.2 137), .ref (E.2.2.2 x1), .int x2, .int x3, .int x4] : List Value).toArray s 0 0 (q_A E)) (F0 m 44 ls [])) → ∀ (n : Nat), ∀ (v5 : Int32), ∀ (v6 : Int32), ∀ (μ : q_M) (H : Heap) (locs : List Loc) (ls : Array Slot), q_S E (q_A E) s μ H locs → lv_has ls 7 [(0, .ref (E.2.2.2 137)), (1, .ref (E.2.2.2 x1)), (2, .int x2), (3, .int x3), (5, .int v5), (6, .int v6)] → L_X10_endOf_7 x1 x2 x3 x4 Kx n v5 v6 μ = some (r, μr) → W p l e ({ frames := 2, cells := 0, slots := 0, locals := 49 }) s m ([.ref (E.2.2.2 137), .ref (E.2.2.2 x1), .int x2, .int x3, .int x4] : List Value).toArray below meth c H locs 0 0 (MQ below (q_Qi E r μr) ([.ref (E.2.2.2 137), .ref (E.2.2.2 x1), .int x2, .int x3, .int x4] : List Value).toArray s 0 0 (q_A E)) (F0 m 7 ls []) := by
    intro Kx hKx n
    induction n with
    | zero => intro v5 v6 μ H locs ls S hl h; exact absurd h (by simp [L_X10_endOf_7])
    | succ n ih =>
      intro v5 v6 μ H locs ls S hl h
      rw [L_X10_endOf_7] at h
      refine lv_iload hx hb dX10_endOf_7 (lv_at hl 5 rfl) ?_
      refine lv_iload_n hx hb dX10_endOf_9 rfl (lv_at hl 3 rfl) ?_
      refine lv_icmp_ge (tgt := 44) hx hb dX10_endOf_10 (by decide) (fun c1 => ?_) (fun c1 => ?_)
      · have h := q_ip c1 h
        exact hKx v5 μ H locs ls S (lv_sub hl [4] rfl) h
      · have h := q_ig c1 h
        refine lv_aload_n hx hb dX10_endOf_13 rfl (lv_at hl 0 rfl) ?_
        refine lv_aload_n hx hb dX10_endOf_14 rfl (lv_at hl 1 rfl) ?_
        refine lv_iload_n hx hb dX10_endOf_15 rfl (lv_at hl 2 rfl) ?_
        refine lv_iload hx hb dX10_endOf_16 (lv_at hl 5 rfl) ?_
        refine lv_iadd hx hb dX10_endOf_18 ?_
        obtain ⟨g2, h⟩ := q_gd_some h
        refine q_iald hx hb F S kx1 rfl g2 dX10_endOf_19 ?_
        refine lv_iload hx hb dX10_endOf_20 (lv_at hl 4 rfl) ?_
        obtain ⟨r5, μ3, hc4, h⟩ := q_bd_some h
        refine q_ki F S (q_runV (As := [.int (μ.1 x1 (x2 + v6).toNatClampNeg), .int v5]) (rest := []) (b := 137) ⟨hx, hb, hml, hown, hts⟩ F S (c_X10_earliest l E hE (μ.1 x1 (x2 + v6).toNatClampNeg) v5 μ μ3 r5 hc4) (cwV 2 hts gX10_endOf_X10_earliest rfl rfl rfl (by decide +kernel) ⟨Nat.le_of_ble_eq_true rfl, Nat.le_of_ble_eq_true rfl⟩) q_k137 (by decide) rfl rfl hl.1 rfl (Nat.le_of_ble_eq_true rfl) dX10_endOf_22 ⟨Nat.zero_le _, Nat.zero_le _⟩) (fun H locs S => ?_)
        refine lv_aload_n hx hb dX10_endOf_25 rfl (lv_at hl 0 rfl) ?_
        refine lv_aload_n hx hb dX10_endOf_26 rfl (lv_at hl 1 rfl) ?_
        refine lv_iload_n hx hb dX10_endOf_27 rfl (lv_at hl 2 rfl) ?_
        refine lv_iload hx hb dX10_endOf_28 (lv_at hl 5 rfl) ?_
        refine lv_iadd hx hb dX10_endOf_30 ?_
        refine q_iald hx hb F S kx1 rfl g2 dX10_endOf_31 ?_
        obtain ⟨r8, μ6, hc7, h⟩ := q_bd_some h
        refine q_ki F S (q_runV (As := [.int (μ3.1 x1 (x2 + v6).toNatClampNeg)]) (rest := [.int r5]) (b := 137) ⟨hx, hb, hml, hown, hts⟩ F S (c_X10_takes l E hE (μ3.1 x1 (x2 + v6).toNatClampNeg) μ3 μ6 r8 hc7) (cwV 1 hts gX10_endOf_X10_takes rfl rfl rfl (by decide +kernel) ⟨Nat.le_of_ble_eq_true rfl, Nat.le_of_ble_eq_true rfl⟩) q_k137 (by decide) rfl rfl hl.1 rfl (Nat.le_of_ble_eq_true rfl) dX10_endOf_32 ⟨Nat.zero_le _, Nat.zero_le _⟩) (fun H locs S => ?_)
        refine lv_iadd hx hb dX10_endOf_35 ?_
        refine lv_topi (fun y9 ey9 => ?_)
        have h := q_le_e h ey9
        refine lv_istore (lv' := [(5, .int y9), (0, .ref (E.2.2.2 137)), (1, .ref (E.2.2.2 x1)), (2, .int x2), (3, .int x3), (6, .int v6)]) hx hb dX10_endOf_36 hl (by decide) rfl (fun ls hl => ?_)
        obtain ⟨y10, ey10⟩ : ∃ z : Int32, z = v6 + 1 := ⟨_, rfl⟩
        have h := q_le_e h ey10
        refine lv_iinc (v := y10) (lv' := [(6, .int y10), (5, .int y9), (0, .ref (E.2.2.2 137)), (1, .ref (E.2.2.2 x1)), (2, .int x2), (3, .int x3)]) hx hb dX10_endOf_38 hl (k := 5) rfl (by rw [ey10]; rfl) (by decide) rfl (fun ls hl => ?_)
        refine lv_goto (tgt := 7) hx hb dX10_endOf_41 (by decide) ?_
        exact ih y9 y10 μ6 H locs ls S (lv_sub hl [2, 3, 4, 5, 1, 0] rfl) h
  unfold f_X10_endOf at h
  obtain ⟨H, eH⟩ : ∃ z, z = s.heap := ⟨_, rfl⟩
  obtain ⟨locs, eL⟩ : ∃ z : List Loc, z = [] := ⟨_, rfl⟩
  rw [← eH, ← eL] at S
  suffices hh : W p l e ({ frames := 2, cells := 0, slots := 0, locals := 49 }) s m ([.ref (E.2.2.2 137), .ref (E.2.2.2 x1), .int x2, .int x3, .int x4] : List Value).toArray below meth c H locs 0 0 (MQ below (q_Qi E r μr) ([.ref (E.2.2.2 137), .ref (E.2.2.2 x1), .int x2, .int x3, .int x4] : List Value).toArray s 0 0 (q_A E)) (F0 m 0 ls []) by rw [eH, eL] at hh; exact hh
  refine lv_iload hx hb dX10_endOf_0 (lv_at hl 4 rfl) ?_
  refine lv_istore (lv' := [(5, .int x4), (0, .ref (E.2.2.2 137)), (1, .ref (E.2.2.2 x1)), (2, .int x2), (3, .int x3), (4, .int x4)]) hx hb dX10_endOf_2 hl (by decide) rfl (fun ls hl => ?_)
  refine lv_iconst (v := 0) hx hb dX10_endOf_4 (by decide) ?_
  refine lv_istore (lv' := [(6, .int 0), (5, .int x4), (0, .ref (E.2.2.2 137)), (1, .ref (E.2.2.2 x1)), (2, .int x2), (3, .int x3), (4, .int x4)]) hx hb dX10_endOf_5 hl (by decide) rfl (fun ls hl => ?_)
  refine hL7 _ (fun v5 μ H locs ls S hl h => ?_) q_fu x4 0 μ H locs ls S (lv_sub hl [2, 3, 4, 5, 1, 0] rfl) h
  refine lv_iload hx hb dX10_endOf_44 (lv_at hl 0 rfl) ?_
  exact q_iret hx hb hr S h hlk dX10_endOf_46
def L_X10_bridgesOf_5 (x1 : Nat) (x2 : Int32) (Kx : Int32 → q_M → Option (Int32 × q_M)) : Nat → Int32 → Int32 → q_M → Option (Int32 × q_M)
  | 0, _, _, _ => none
  | n + 1, v3, v4, μ => (if x2 ≤ v4 then Kx v3 μ else q_gd (q_ix v4 (q_len x1)) (q_gd (q_ix (μ.1 x1 v4.toNatClampNeg) 12) ((if (μ.1 144 (μ.1 x1 v4.toNatClampNeg).toNatClampNeg) < 0 then q_le ((v3 + 0) : Int32) (fun y5 => q_le (v4 + 1 : Int32) (fun y6 => (L_X10_bridgesOf_5 x1 x2 Kx n) y5 y6 μ)) else q_le ((v3 + 1) : Int32) (fun y7 => q_le (v4 + 1 : Int32) (fun y8 => (L_X10_bridgesOf_5 x1 x2 Kx n) y7 y8 μ))))))
def f_X10_bridgesOf (x1 : Nat) (x2 : Int32) (μ : q_M) : Option (Int32 × q_M) := L_X10_bridgesOf_5 x1 x2 (fun v3 μ => some (v3, μ)) q_fu 0 0 μ
set_option maxHeartbeats 4000000 in
set_option maxRecDepth 100000 in
theorem c_X10_bridgesOf (l : Launch) (E : q_E) (hE : q_I E) (x1 : Nat) (x2 : Int32) (kx1 : q_kd x1 = 11) (μ μr : q_M) (r : Int32) (h : f_X10_bridgesOf x1 x2 μ = some (r, μr)) : Met l yX10_bridgesOf wsX10_bridgesOf ({ frames := 0, cells := 0, slots := 0, locals := 0 }) (q_Pc E μ [.ref (E.2.2.2 137), .ref (E.2.2.2 x1), .int x2]) (q_Qi E r μr) 0 0 (q_A E) := by
  refine q_met (cc := cX10_bridgesOf) (maxL := 5) (ret := (some .int)) hE (by decide) rfl (Nat.le_of_ble_eq_true rfl) ?_
  intro p e s m below meth c hx hb hr hml hown hts hlk F S ls hl
  have hl : lv_has ls 5 [(0, .ref (E.2.2.2 137)), (1, .ref (E.2.2.2 x1)), (2, .int x2)] := hl
  have i10 : ∀ w ∈ u_ws RX10 TX10 54, w ∈ wsX10_bridgesOf := by decide +kernel
  have hL5 : ∀ (Kx : Int32 → q_M → Option (Int32 × q_M)), (∀ (v3 : Int32), ∀ (μ : q_M) (H : Heap) (locs : List Loc) (ls : Array Slot), q_S E (q_A E) s μ H locs → lv_has ls 5 [(3, .int v3)] → Kx v3 μ = some (r, μr) → W p l e ({ frames := 0, cells := 0, slots := 0, locals := 0 }) s m ([.ref (E.2.2.2 137), .ref (E.2.2.2 x1), .int x2] : List Value).toArray below meth c H locs 0 0 (MQ below (q_Qi E r μr) ([.ref (E.2.2.2 137), .ref (E.2.2.2 x1), .int x2] : List Value).toArray s 0 0 (q_A E)) (F0 m 37 ls [])) → ∀ (n : Nat), ∀ (v3 : Int32), ∀ (v4 : Int32), ∀ (μ : q_M) (H : Heap) (locs : List Loc) (ls : Array Slot), q_S E (q_A E) s μ H locs → lv_has ls 5 [(0, .ref (E.2.2.2 137)), (1, .ref (E.2.2.2 x1)), (2, .int x2), (3, .int v3), (4, .int v4)] → L_X10_bridgesOf_5 x1 x2 Kx n v3 v4 μ = some (r, μr) → W p l e ({ frames := 0, cells := 0, slots := 0, locals := 0 }) s m ([.ref (E.2.2.2 137), .ref (E.2.2.2 x1), .int x2] : List Value).toArray below meth c H locs 0 0 (MQ below (q_Qi E r μr) ([.ref (E.2.2.2 137), .ref (E.2.2.2 x1), .int x2] : List Value).toArray s 0 0 (q_A E)) (F0 m 5 ls []) := by
    intro Kx hKx n
    induction n with
    | zero => intro v3 v4 μ H locs ls S hl h; exact absurd h (by simp [L_X10_bridgesOf_5])
    | succ n ih =>
      intro v3 v4 μ H locs ls S hl h
      rw [L_X10_bridgesOf_5] at h
      refine lv_iload hx hb dX10_bridgesOf_5 (lv_at hl 4 rfl) ?_
      refine lv_iload_n hx hb dX10_bridgesOf_7 rfl (lv_at hl 2 rfl) ?_
      refine lv_icmp_ge (tgt := 37) hx hb dX10_bridgesOf_8 (by decide) (fun c1 => ?_) (fun c1 => ?_)
      · have h := q_ip c1 h
        exact hKx v3 μ H locs ls S (lv_sub hl [3] rfl) h
      · have h := q_ig c1 h
        refine lv_iload_n hx hb dX10_bridgesOf_11 rfl (lv_at hl 3 rfl) ?_
        refine lv_aload_n hx hb dX10_bridgesOf_12 rfl (lv_at hl 0 rfl) ?_
        refine q_getr (own := RX10) (C := RX10) (T := TX10) (N := 54) (ci := 10) (j := 8)  (b := 144) hx hb hts i10 hown F S q_k137 (by decide) rfl (by decide) (by decide) rfl (by decide) (hts (.fieldLink RX10 29 "HeavyRoutesModel" "bridgeOf" "[I") (by decide +kernel)) dX10_bridgesOf_13 ?_
        refine lv_aload_n hx hb dX10_bridgesOf_16 rfl (lv_at hl 1 rfl) ?_
        refine lv_iload hx hb dX10_bridgesOf_17 (lv_at hl 4 rfl) ?_
        obtain ⟨g2, h⟩ := q_gd_some h
        refine q_iald hx hb F S kx1 rfl g2 dX10_bridgesOf_19 ?_
        obtain ⟨g3, h⟩ := q_gd_some h
        refine q_iald hx hb F S q_k144 q_n144 g3 dX10_bridgesOf_20 ?_
        refine lv_if_lt (tgt := 28) hx hb dX10_bridgesOf_21 (by decide) (fun c4 => ?_) (fun c4 => ?_)
        · have h := q_ip c4 h
          refine lv_iconst (v := 0) hx hb dX10_bridgesOf_28 (by decide) ?_
          refine lv_iadd hx hb dX10_bridgesOf_29 ?_
          refine lv_topi (fun y5 ey5 => ?_)
          have h := q_le_e h ey5
          refine lv_istore_n (lv' := [(3, .int y5), (0, .ref (E.2.2.2 137)), (1, .ref (E.2.2.2 x1)), (2, .int x2), (4, .int v4)]) hx hb dX10_bridgesOf_30 rfl hl (by decide) rfl (fun ls hl => ?_)
          obtain ⟨y6, ey6⟩ : ∃ z : Int32, z = v4 + 1 := ⟨_, rfl⟩
          have h := q_le_e h ey6
          refine lv_iinc (v := y6) (lv' := [(4, .int y6), (3, .int y5), (0, .ref (E.2.2.2 137)), (1, .ref (E.2.2.2 x1)), (2, .int x2)]) hx hb dX10_bridgesOf_31 hl (k := 4) rfl (by rw [ey6]; rfl) (by decide) rfl (fun ls hl => ?_)
          refine lv_goto (tgt := 5) hx hb dX10_bridgesOf_34 (by decide) ?_
          exact ih y5 y6 μ H locs ls S (lv_sub hl [2, 3, 4, 1, 0] rfl) h
        · have h := q_ig c4 h
          refine lv_iconst (v := 1) hx hb dX10_bridgesOf_24 (by decide) ?_
          refine lv_goto (tgt := 29) hx hb dX10_bridgesOf_25 (by decide) ?_
          refine lv_iadd hx hb dX10_bridgesOf_29 ?_
          refine lv_topi (fun y7 ey7 => ?_)
          have h := q_le_e h ey7
          refine lv_istore_n (lv' := [(3, .int y7), (0, .ref (E.2.2.2 137)), (1, .ref (E.2.2.2 x1)), (2, .int x2), (4, .int v4)]) hx hb dX10_bridgesOf_30 rfl hl (by decide) rfl (fun ls hl => ?_)
          obtain ⟨y8, ey8⟩ : ∃ z : Int32, z = v4 + 1 := ⟨_, rfl⟩
          have h := q_le_e h ey8
          refine lv_iinc (v := y8) (lv' := [(4, .int y8), (3, .int y7), (0, .ref (E.2.2.2 137)), (1, .ref (E.2.2.2 x1)), (2, .int x2)]) hx hb dX10_bridgesOf_31 hl (k := 4) rfl (by rw [ey8]; rfl) (by decide) rfl (fun ls hl => ?_)
          refine lv_goto (tgt := 5) hx hb dX10_bridgesOf_34 (by decide) ?_
          exact ih y7 y8 μ H locs ls S (lv_sub hl [2, 3, 4, 1, 0] rfl) h
  unfold f_X10_bridgesOf at h
  obtain ⟨H, eH⟩ : ∃ z, z = s.heap := ⟨_, rfl⟩
  obtain ⟨locs, eL⟩ : ∃ z : List Loc, z = [] := ⟨_, rfl⟩
  rw [← eH, ← eL] at S
  suffices hh : W p l e ({ frames := 0, cells := 0, slots := 0, locals := 0 }) s m ([.ref (E.2.2.2 137), .ref (E.2.2.2 x1), .int x2] : List Value).toArray below meth c H locs 0 0 (MQ below (q_Qi E r μr) ([.ref (E.2.2.2 137), .ref (E.2.2.2 x1), .int x2] : List Value).toArray s 0 0 (q_A E)) (F0 m 0 ls []) by rw [eH, eL] at hh; exact hh
  refine lv_iconst (v := 0) hx hb dX10_bridgesOf_0 (by decide) ?_
  refine lv_istore_n (lv' := [(3, .int 0), (0, .ref (E.2.2.2 137)), (1, .ref (E.2.2.2 x1)), (2, .int x2)]) hx hb dX10_bridgesOf_1 rfl hl (by decide) rfl (fun ls hl => ?_)
  refine lv_iconst (v := 0) hx hb dX10_bridgesOf_2 (by decide) ?_
  refine lv_istore (lv' := [(4, .int 0), (3, .int 0), (0, .ref (E.2.2.2 137)), (1, .ref (E.2.2.2 x1)), (2, .int x2)]) hx hb dX10_bridgesOf_3 hl (by decide) rfl (fun ls hl => ?_)
  refine hL5 _ (fun v3 μ H locs ls S hl h => ?_) q_fu 0 0 μ H locs ls S (lv_sub hl [2, 3, 4, 1, 0] rfl) h
  refine lv_iload_n hx hb dX10_bridgesOf_37 rfl (lv_at hl 0 rfl) ?_
  exact q_iret hx hb hr S h hlk dX10_bridgesOf_38
def J_X10_isBetter_15 (x1 : Int32) (μ : q_M) : Option (Int32 × q_M) := (if (μ.1 137 37) = 0 then some (1, μ) else (if (μ.1 137 38) ≤ x1 then some (0, μ) else some (1, μ)))
def J_X10_isBetter_78 (x1 : Int32) (v2 : Int32) (v3 : Int32) (μ : q_M) : Option (Int32 × q_M) := (if v2 = v3 then (if (μ.1 137 37) ≤ (μ.1 137 34) then some (0, μ) else some (1, μ)) else (if v3 ≤ v2 then some (0, μ) else some (1, μ)))
def L_X10_isBetter_116 (x1 : Int32) (Kx : Int32 → q_M → Option (Int32 × q_M)) : Nat → Int32 → q_M → Option (Int32 × q_M)
  | 0, _, _ => none
  | n + 1, v4, μ => (if (μ.1 137 34) ≤ v4 then Kx v4 μ else q_gd (q_ix v4 12) ((if (μ.1 159 v4.toNatClampNeg) = (μ.1 161 v4.toNatClampNeg) then q_le (v4 + 1 : Int32) (fun y19 => (L_X10_isBetter_116 x1 Kx n) y19 μ) else Kx v4 μ)))
def J_X10_isBetter_148 (x1 : Int32) (v4 : Int32) (μ : q_M) : Option (Int32 × q_M) := (if (μ.1 137 34) ≤ v4 then some (0, μ) else q_gd (q_ix v4 12) ((if (μ.1 161 v4.toNatClampNeg) ≤ (μ.1 159 v4.toNatClampNeg) then some (0, μ) else some (1, μ))))
def f_X10_isBetter (x1 : Int32) (μ : q_M) : Option (Int32 × q_M) := (if (μ.1 137 37) = 0 then J_X10_isBetter_15 x1 μ else (if x1 = (μ.1 137 38) then q_bd (f_X10_bridgesOf 159 (μ.1 137 34) μ) (fun r7 μ5 => q_bd (f_X10_bridgesOf 161 (μ5.1 137 37) μ5) (fun r10 μ8 => (if r7 = r10 then (if (μ8.1 137 34) = (μ8.1 137 37) then L_X10_isBetter_116 x1 (fun v4 μ => J_X10_isBetter_148 x1 v4 μ) q_fu 0 μ8 else J_X10_isBetter_78 x1 r7 r10 μ8) else J_X10_isBetter_78 x1 r7 r10 μ8))) else J_X10_isBetter_15 x1 μ))
set_option maxHeartbeats 4000000 in
set_option maxRecDepth 100000 in
theorem c_X10_isBetter (l : Launch) (E : q_E) (hE : q_I E) (x1 : Int32) (μ μr : q_M) (r : Int32) (h : f_X10_isBetter x1 μ = some (r, μr)) : Met l yX10_isBetter wsX10_isBetter ({ frames := 1, cells := 0, slots := 0, locals := 24 }) (q_Pc E μ [.ref (E.2.2.2 137), .int x1]) (q_Qi E r μr) 0 0 (q_A E) := by
  refine q_met (cc := cX10_isBetter) (maxL := 5) (ret := (some .boolean)) hE (by decide) rfl (Nat.le_of_ble_eq_true rfl) ?_
  intro p e s m below meth c hx hb hr hml hown hts hlk F S ls hl
  have hl : lv_has ls 5 [(0, .ref (E.2.2.2 137)), (1, .int x1)] := hl
  have i10 : ∀ w ∈ u_ws RX10 TX10 54, w ∈ wsX10_isBetter := by decide +kernel
  have hJ15 : ∀ (μ : q_M) (H : Heap) (locs : List Loc) (ls : Array Slot), q_S E (q_A E) s μ H locs → lv_has ls 5 [(0, .ref (E.2.2.2 137)), (1, .int x1)] → J_X10_isBetter_15 x1 μ = some (r, μr) → W p l e ({ frames := 1, cells := 0, slots := 0, locals := 24 }) s m ([.ref (E.2.2.2 137), .int x1] : List Value).toArray below meth c H locs 0 0 (MQ below (q_Qi E r μr) ([.ref (E.2.2.2 137), .int x1] : List Value).toArray s 0 0 (q_A E)) (F0 m 15 ls []) := by
    intro μ H locs ls S hl h
    rw [J_X10_isBetter_15] at h
    refine lv_aload_n hx hb dX10_isBetter_15 rfl (lv_at hl 0 rfl) ?_
    refine q_geti (own := RX10) (C := RX10) (T := TX10) (N := 54) (ci := 10) (j := 37)  hx hb hts i10 hown F S q_k137 (by decide) rfl (by decide) (by decide) rfl (hts (.fieldLink RX10 231 "HeavyRoutesModel" "bestSize" "I") (by decide +kernel)) dX10_isBetter_16 ?_
    refine lv_if_eq (tgt := 30) hx hb dX10_isBetter_19 (by decide) (fun c2 => ?_) (fun c2 => ?_)
    · have h := q_ip c2 h
      refine lv_iconst (v := 1) hx hb dX10_isBetter_30 (by decide) ?_
      refine lv_goto (tgt := 35) hx hb dX10_isBetter_31 (by decide) ?_
      exact q_zret hx hb hr S (by decide) h hlk dX10_isBetter_35
    · have h := q_ig c2 h
      refine lv_iload_n hx hb dX10_isBetter_22 rfl (lv_at hl 1 rfl) ?_
      refine lv_aload_n hx hb dX10_isBetter_23 rfl (lv_at hl 0 rfl) ?_
      refine q_geti (own := RX10) (C := RX10) (T := TX10) (N := 54) (ci := 10) (j := 38)  hx hb hts i10 hown F S q_k137 (by decide) rfl (by decide) (by decide) rfl (hts (.fieldLink RX10 234 "HeavyRoutesModel" "bestEnd" "I") (by decide +kernel)) dX10_isBetter_24 ?_
      refine lv_icmp_ge (tgt := 34) hx hb dX10_isBetter_27 (by decide) (fun c3 => ?_) (fun c3 => ?_)
      · have h := q_ip c3 h
        refine lv_iconst (v := 0) hx hb dX10_isBetter_34 (by decide) ?_
        exact q_zret hx hb hr S (by decide) h hlk dX10_isBetter_35
      · have h := q_ig c3 h
        refine lv_iconst (v := 1) hx hb dX10_isBetter_30 (by decide) ?_
        refine lv_goto (tgt := 35) hx hb dX10_isBetter_31 (by decide) ?_
        exact q_zret hx hb hr S (by decide) h hlk dX10_isBetter_35
  have hJ78 : ∀ (v2 : Int32), ∀ (v3 : Int32), ∀ (μ : q_M) (H : Heap) (locs : List Loc) (ls : Array Slot), q_S E (q_A E) s μ H locs → lv_has ls 5 [(0, .ref (E.2.2.2 137)), (2, .int v2), (3, .int v3)] → J_X10_isBetter_78 x1 v2 v3 μ = some (r, μr) → W p l e ({ frames := 1, cells := 0, slots := 0, locals := 24 }) s m ([.ref (E.2.2.2 137), .int x1] : List Value).toArray below meth c H locs 0 0 (MQ below (q_Qi E r μr) ([.ref (E.2.2.2 137), .int x1] : List Value).toArray s 0 0 (q_A E)) (F0 m 78 ls []) := by
    intro v2 v3 μ H locs ls S hl h
    rw [J_X10_isBetter_78] at h
    refine lv_iload_n hx hb dX10_isBetter_78 rfl (lv_at hl 1 rfl) ?_
    refine lv_iload_n hx hb dX10_isBetter_79 rfl (lv_at hl 2 rfl) ?_
    refine lv_icmp_eq (tgt := 96) hx hb dX10_isBetter_80 (by decide) (fun c12 => ?_) (fun c12 => ?_)
    · have h := q_ip c12 h
      refine lv_aload_n hx hb dX10_isBetter_96 rfl (lv_at hl 0 rfl) ?_
      refine q_geti (own := RX10) (C := RX10) (T := TX10) (N := 54) (ci := 10) (j := 34)  hx hb hts i10 hown F S q_k137 (by decide) rfl (by decide) (by decide) rfl (hts (.fieldLink RX10 237 "HeavyRoutesModel" "size" "I") (by decide +kernel)) dX10_isBetter_97 ?_
      refine lv_aload_n hx hb dX10_isBetter_100 rfl (lv_at hl 0 rfl) ?_
      refine q_geti (own := RX10) (C := RX10) (T := TX10) (N := 54) (ci := 10) (j := 37)  hx hb hts i10 hown F S q_k137 (by decide) rfl (by decide) (by decide) rfl (hts (.fieldLink RX10 231 "HeavyRoutesModel" "bestSize" "I") (by decide +kernel)) dX10_isBetter_101 ?_
      refine lv_icmp_ge (tgt := 111) hx hb dX10_isBetter_104 (by decide) (fun c13 => ?_) (fun c13 => ?_)
      · have h := q_ip c13 h
        refine lv_iconst (v := 0) hx hb dX10_isBetter_111 (by decide) ?_
        exact q_zret hx hb hr S (by decide) h hlk dX10_isBetter_112
      · have h := q_ig c13 h
        refine lv_iconst (v := 1) hx hb dX10_isBetter_107 (by decide) ?_
        refine lv_goto (tgt := 112) hx hb dX10_isBetter_108 (by decide) ?_
        exact q_zret hx hb hr S (by decide) h hlk dX10_isBetter_112
    · have h := q_ig c12 h
      refine lv_iload_n hx hb dX10_isBetter_83 rfl (lv_at hl 1 rfl) ?_
      refine lv_iload_n hx hb dX10_isBetter_84 rfl (lv_at hl 2 rfl) ?_
      refine lv_icmp_ge (tgt := 92) hx hb dX10_isBetter_85 (by decide) (fun c14 => ?_) (fun c14 => ?_)
      · have h := q_ip c14 h
        refine lv_iconst (v := 0) hx hb dX10_isBetter_92 (by decide) ?_
        refine lv_goto (tgt := 112) hx hb dX10_isBetter_93 (by decide) ?_
        exact q_zret hx hb hr S (by decide) h hlk dX10_isBetter_112
      · have h := q_ig c14 h
        refine lv_iconst (v := 1) hx hb dX10_isBetter_88 (by decide) ?_
        refine lv_goto (tgt := 112) hx hb dX10_isBetter_89 (by decide) ?_
        exact q_zret hx hb hr S (by decide) h hlk dX10_isBetter_112
  have hL116 : ∀ (Kx : Int32 → q_M → Option (Int32 × q_M)), (∀ (v4 : Int32), ∀ (μ : q_M) (H : Heap) (locs : List Loc) (ls : Array Slot), q_S E (q_A E) s μ H locs → lv_has ls 5 [(0, .ref (E.2.2.2 137)), (4, .int v4)] → Kx v4 μ = some (r, μr) → W p l e ({ frames := 1, cells := 0, slots := 0, locals := 24 }) s m ([.ref (E.2.2.2 137), .int x1] : List Value).toArray below meth c H locs 0 0 (MQ below (q_Qi E r μr) ([.ref (E.2.2.2 137), .int x1] : List Value).toArray s 0 0 (q_A E)) (F0 m 148 ls [])) → ∀ (n : Nat), ∀ (v4 : Int32), ∀ (μ : q_M) (H : Heap) (locs : List Loc) (ls : Array Slot), q_S E (q_A E) s μ H locs → lv_has ls 5 [(0, .ref (E.2.2.2 137)), (4, .int v4)] → L_X10_isBetter_116 x1 Kx n v4 μ = some (r, μr) → W p l e ({ frames := 1, cells := 0, slots := 0, locals := 24 }) s m ([.ref (E.2.2.2 137), .int x1] : List Value).toArray below meth c H locs 0 0 (MQ below (q_Qi E r μr) ([.ref (E.2.2.2 137), .int x1] : List Value).toArray s 0 0 (q_A E)) (F0 m 116 ls []) := by
    intro Kx hKx n
    induction n with
    | zero => intro v4 μ H locs ls S hl h; exact absurd h (by simp [L_X10_isBetter_116])
    | succ n ih =>
      intro v4 μ H locs ls S hl h
      rw [L_X10_isBetter_116] at h
      refine lv_iload hx hb dX10_isBetter_116 (lv_at hl 1 rfl) ?_
      refine lv_aload_n hx hb dX10_isBetter_118 rfl (lv_at hl 0 rfl) ?_
      refine q_geti (own := RX10) (C := RX10) (T := TX10) (N := 54) (ci := 10) (j := 34)  hx hb hts i10 hown F S q_k137 (by decide) rfl (by decide) (by decide) rfl (hts (.fieldLink RX10 237 "HeavyRoutesModel" "size" "I") (by decide +kernel)) dX10_isBetter_119 ?_
      refine lv_icmp_ge (tgt := 148) hx hb dX10_isBetter_122 (by decide) (fun c16 => ?_) (fun c16 => ?_)
      · have h := q_ip c16 h
        exact hKx v4 μ H locs ls S (lv_sub hl [0, 1] rfl) h
      · have h := q_ig c16 h
        refine lv_aload_n hx hb dX10_isBetter_125 rfl (lv_at hl 0 rfl) ?_
        refine q_getr (own := RX10) (C := RX10) (T := TX10) (N := 54) (ci := 10) (j := 33)  (b := 159) hx hb hts i10 hown F S q_k137 (by decide) rfl (by decide) (by decide) rfl (by decide) (hts (.fieldLink RX10 81 "HeavyRoutesModel" "way" "[I") (by decide +kernel)) dX10_isBetter_126 ?_
        refine lv_iload hx hb dX10_isBetter_129 (lv_at hl 1 rfl) ?_
        obtain ⟨g17, h⟩ := q_gd_some h
        refine q_iald hx hb F S q_k159 q_n159 g17 dX10_isBetter_131 ?_
        refine lv_aload_n hx hb dX10_isBetter_132 rfl (lv_at hl 0 rfl) ?_
        refine q_getr (own := RX10) (C := RX10) (T := TX10) (N := 54) (ci := 10) (j := 36)  (b := 161) hx hb hts i10 hown F S q_k137 (by decide) rfl (by decide) (by decide) rfl (by decide) (hts (.fieldLink RX10 87 "HeavyRoutesModel" "best" "[I") (by decide +kernel)) dX10_isBetter_133 ?_
        refine lv_iload hx hb dX10_isBetter_136 (lv_at hl 1 rfl) ?_
        refine q_iald hx hb F S q_k161 q_n161 g17 dX10_isBetter_138 ?_
        refine lv_icmp_ne (tgt := 148) hx hb dX10_isBetter_139 (by decide) (fun c18 => ?_) (fun c18 => ?_)
        · have h := q_ig c18 h
          exact hKx v4 μ H locs ls S (lv_sub hl [0, 1] rfl) h
        · have h := q_ip c18 h
          obtain ⟨y19, ey19⟩ : ∃ z : Int32, z = v4 + 1 := ⟨_, rfl⟩
          have h := q_le_e h ey19
          refine lv_iinc (v := y19) (lv' := [(4, .int y19), (0, .ref (E.2.2.2 137))]) hx hb dX10_isBetter_142 hl (k := 1) rfl (by rw [ey19]; rfl) (by decide) rfl (fun ls hl => ?_)
          refine lv_goto (tgt := 116) hx hb dX10_isBetter_145 (by decide) ?_
          exact ih y19 μ H locs ls S (lv_sub hl [1, 0] rfl) h
  have hJ148 : ∀ (v4 : Int32), ∀ (μ : q_M) (H : Heap) (locs : List Loc) (ls : Array Slot), q_S E (q_A E) s μ H locs → lv_has ls 5 [(0, .ref (E.2.2.2 137)), (4, .int v4)] → J_X10_isBetter_148 x1 v4 μ = some (r, μr) → W p l e ({ frames := 1, cells := 0, slots := 0, locals := 24 }) s m ([.ref (E.2.2.2 137), .int x1] : List Value).toArray below meth c H locs 0 0 (MQ below (q_Qi E r μr) ([.ref (E.2.2.2 137), .int x1] : List Value).toArray s 0 0 (q_A E)) (F0 m 148 ls []) := by
    intro v4 μ H locs ls S hl h
    rw [J_X10_isBetter_148] at h
    refine lv_iload hx hb dX10_isBetter_148 (lv_at hl 1 rfl) ?_
    refine lv_aload_n hx hb dX10_isBetter_150 rfl (lv_at hl 0 rfl) ?_
    refine q_geti (own := RX10) (C := RX10) (T := TX10) (N := 54) (ci := 10) (j := 34)  hx hb hts i10 hown F S q_k137 (by decide) rfl (by decide) (by decide) rfl (hts (.fieldLink RX10 237 "HeavyRoutesModel" "size" "I") (by decide +kernel)) dX10_isBetter_151 ?_
    refine lv_icmp_ge (tgt := 178) hx hb dX10_isBetter_154 (by decide) (fun c20 => ?_) (fun c20 => ?_)
    · have h := q_ip c20 h
      refine lv_iconst (v := 0) hx hb dX10_isBetter_178 (by decide) ?_
      exact q_zret hx hb hr S (by decide) h hlk dX10_isBetter_179
    · have h := q_ig c20 h
      refine lv_aload_n hx hb dX10_isBetter_157 rfl (lv_at hl 0 rfl) ?_
      refine q_getr (own := RX10) (C := RX10) (T := TX10) (N := 54) (ci := 10) (j := 33)  (b := 159) hx hb hts i10 hown F S q_k137 (by decide) rfl (by decide) (by decide) rfl (by decide) (hts (.fieldLink RX10 81 "HeavyRoutesModel" "way" "[I") (by decide +kernel)) dX10_isBetter_158 ?_
      refine lv_iload hx hb dX10_isBetter_161 (lv_at hl 1 rfl) ?_
      obtain ⟨g21, h⟩ := q_gd_some h
      refine q_iald hx hb F S q_k159 q_n159 g21 dX10_isBetter_163 ?_
      refine lv_aload_n hx hb dX10_isBetter_164 rfl (lv_at hl 0 rfl) ?_
      refine q_getr (own := RX10) (C := RX10) (T := TX10) (N := 54) (ci := 10) (j := 36)  (b := 161) hx hb hts i10 hown F S q_k137 (by decide) rfl (by decide) (by decide) rfl (by decide) (hts (.fieldLink RX10 87 "HeavyRoutesModel" "best" "[I") (by decide +kernel)) dX10_isBetter_165 ?_
      refine lv_iload hx hb dX10_isBetter_168 (lv_at hl 1 rfl) ?_
      refine q_iald hx hb F S q_k161 q_n161 g21 dX10_isBetter_170 ?_
      refine lv_icmp_ge (tgt := 178) hx hb dX10_isBetter_171 (by decide) (fun c22 => ?_) (fun c22 => ?_)
      · have h := q_ip c22 h
        refine lv_iconst (v := 0) hx hb dX10_isBetter_178 (by decide) ?_
        exact q_zret hx hb hr S (by decide) h hlk dX10_isBetter_179
      · have h := q_ig c22 h
        refine lv_iconst (v := 1) hx hb dX10_isBetter_174 (by decide) ?_
        refine lv_goto (tgt := 179) hx hb dX10_isBetter_175 (by decide) ?_
        exact q_zret hx hb hr S (by decide) h hlk dX10_isBetter_179
  unfold f_X10_isBetter at h
  obtain ⟨H, eH⟩ : ∃ z, z = s.heap := ⟨_, rfl⟩
  obtain ⟨locs, eL⟩ : ∃ z : List Loc, z = [] := ⟨_, rfl⟩
  rw [← eH, ← eL] at S
  suffices hh : W p l e ({ frames := 1, cells := 0, slots := 0, locals := 24 }) s m ([.ref (E.2.2.2 137), .int x1] : List Value).toArray below meth c H locs 0 0 (MQ below (q_Qi E r μr) ([.ref (E.2.2.2 137), .int x1] : List Value).toArray s 0 0 (q_A E)) (F0 m 0 ls []) by rw [eH, eL] at hh; exact hh
  refine lv_aload_n hx hb dX10_isBetter_0 rfl (lv_at hl 0 rfl) ?_
  refine q_geti (own := RX10) (C := RX10) (T := TX10) (N := 54) (ci := 10) (j := 37)  hx hb hts i10 hown F S q_k137 (by decide) rfl (by decide) (by decide) rfl (hts (.fieldLink RX10 231 "HeavyRoutesModel" "bestSize" "I") (by decide +kernel)) dX10_isBetter_1 ?_
  refine lv_if_eq (tgt := 15) hx hb dX10_isBetter_4 (by decide) (fun c1 => ?_) (fun c1 => ?_)
  · have h := q_ip c1 h
    exact hJ15 μ H locs ls S (lv_sub hl [0, 1] rfl) h
  · have h := q_ig c1 h
    refine lv_iload_n hx hb dX10_isBetter_7 rfl (lv_at hl 1 rfl) ?_
    refine lv_aload_n hx hb dX10_isBetter_8 rfl (lv_at hl 0 rfl) ?_
    refine q_geti (own := RX10) (C := RX10) (T := TX10) (N := 54) (ci := 10) (j := 38)  hx hb hts i10 hown F S q_k137 (by decide) rfl (by decide) (by decide) rfl (hts (.fieldLink RX10 234 "HeavyRoutesModel" "bestEnd" "I") (by decide +kernel)) dX10_isBetter_9 ?_
    refine lv_icmp_eq (tgt := 36) hx hb dX10_isBetter_12 (by decide) (fun c4 => ?_) (fun c4 => ?_)
    · have h := q_ip c4 h
      refine lv_aload_n hx hb dX10_isBetter_36 rfl (lv_at hl 0 rfl) ?_
      refine lv_aload_n hx hb dX10_isBetter_37 rfl (lv_at hl 0 rfl) ?_
      refine q_getr (own := RX10) (C := RX10) (T := TX10) (N := 54) (ci := 10) (j := 33)  (b := 159) hx hb hts i10 hown F S q_k137 (by decide) rfl (by decide) (by decide) rfl (by decide) (hts (.fieldLink RX10 81 "HeavyRoutesModel" "way" "[I") (by decide +kernel)) dX10_isBetter_38 ?_
      refine lv_aload_n hx hb dX10_isBetter_41 rfl (lv_at hl 0 rfl) ?_
      refine q_geti (own := RX10) (C := RX10) (T := TX10) (N := 54) (ci := 10) (j := 34)  hx hb hts i10 hown F S q_k137 (by decide) rfl (by decide) (by decide) rfl (hts (.fieldLink RX10 237 "HeavyRoutesModel" "size" "I") (by decide +kernel)) dX10_isBetter_42 ?_
      obtain ⟨r7, μ5, hc6, h⟩ := q_bd_some h
      refine q_ki F S (q_runV (As := [.ref (E.2.2.2 159), .int (μ.1 137 34)]) (rest := []) (b := 137) ⟨hx, hb, hml, hown, hts⟩ F S (c_X10_bridgesOf l E hE 159 (μ.1 137 34) q_k159 μ μ5 r7 hc6) (cwV 2 hts gX10_isBetter_X10_bridgesOf rfl rfl rfl (by decide +kernel) ⟨Nat.le_of_ble_eq_true rfl, Nat.le_of_ble_eq_true rfl⟩) q_k137 (by decide) rfl rfl hl.1 rfl (Nat.le_of_ble_eq_true rfl) dX10_isBetter_45 ⟨Nat.zero_le _, Nat.zero_le _⟩) (fun H locs S => ?_)
      refine lv_istore_n (lv' := [(2, .int r7), (0, .ref (E.2.2.2 137)), (1, .int x1)]) hx hb dX10_isBetter_48 rfl hl (by decide) rfl (fun ls hl => ?_)
      refine lv_aload_n hx hb dX10_isBetter_49 rfl (lv_at hl 1 rfl) ?_
      refine lv_aload_n hx hb dX10_isBetter_50 rfl (lv_at hl 1 rfl) ?_
      refine q_getr (own := RX10) (C := RX10) (T := TX10) (N := 54) (ci := 10) (j := 36)  (b := 161) hx hb hts i10 hown F S q_k137 (by decide) rfl (by decide) (by decide) rfl (by decide) (hts (.fieldLink RX10 87 "HeavyRoutesModel" "best" "[I") (by decide +kernel)) dX10_isBetter_51 ?_
      refine lv_aload_n hx hb dX10_isBetter_54 rfl (lv_at hl 1 rfl) ?_
      refine q_geti (own := RX10) (C := RX10) (T := TX10) (N := 54) (ci := 10) (j := 37)  hx hb hts i10 hown F S q_k137 (by decide) rfl (by decide) (by decide) rfl (hts (.fieldLink RX10 231 "HeavyRoutesModel" "bestSize" "I") (by decide +kernel)) dX10_isBetter_55 ?_
      obtain ⟨r10, μ8, hc9, h⟩ := q_bd_some h
      refine q_ki F S (q_runV (As := [.ref (E.2.2.2 161), .int (μ5.1 137 37)]) (rest := []) (b := 137) ⟨hx, hb, hml, hown, hts⟩ F S (c_X10_bridgesOf l E hE 161 (μ5.1 137 37) q_k161 μ5 μ8 r10 hc9) (cwV 2 hts gX10_isBetter_X10_bridgesOf rfl rfl rfl (by decide +kernel) ⟨Nat.le_of_ble_eq_true rfl, Nat.le_of_ble_eq_true rfl⟩) q_k137 (by decide) rfl rfl hl.1 rfl (Nat.le_of_ble_eq_true rfl) dX10_isBetter_58 ⟨Nat.zero_le _, Nat.zero_le _⟩) (fun H locs S => ?_)
      refine lv_istore_n (lv' := [(3, .int r10), (2, .int r7), (0, .ref (E.2.2.2 137)), (1, .int x1)]) hx hb dX10_isBetter_61 rfl hl (by decide) rfl (fun ls hl => ?_)
      refine lv_iload_n hx hb dX10_isBetter_62 rfl (lv_at hl 1 rfl) ?_
      refine lv_iload_n hx hb dX10_isBetter_63 rfl (lv_at hl 0 rfl) ?_
      refine lv_icmp_ne (tgt := 78) hx hb dX10_isBetter_64 (by decide) (fun c11 => ?_) (fun c11 => ?_)
      · have h := q_ig c11 h
        exact hJ78 r7 r10 μ8 H locs ls S (lv_sub hl [2, 1, 0] rfl) h
      · have h := q_ip c11 h
        refine lv_aload_n hx hb dX10_isBetter_67 rfl (lv_at hl 2 rfl) ?_
        refine q_geti (own := RX10) (C := RX10) (T := TX10) (N := 54) (ci := 10) (j := 34)  hx hb hts i10 hown F S q_k137 (by decide) rfl (by decide) (by decide) rfl (hts (.fieldLink RX10 237 "HeavyRoutesModel" "size" "I") (by decide +kernel)) dX10_isBetter_68 ?_
        refine lv_aload_n hx hb dX10_isBetter_71 rfl (lv_at hl 2 rfl) ?_
        refine q_geti (own := RX10) (C := RX10) (T := TX10) (N := 54) (ci := 10) (j := 37)  hx hb hts i10 hown F S q_k137 (by decide) rfl (by decide) (by decide) rfl (hts (.fieldLink RX10 231 "HeavyRoutesModel" "bestSize" "I") (by decide +kernel)) dX10_isBetter_72 ?_
        refine lv_icmp_eq (tgt := 113) hx hb dX10_isBetter_75 (by decide) (fun c15 => ?_) (fun c15 => ?_)
        · have h := q_ip c15 h
          refine lv_iconst (v := 0) hx hb dX10_isBetter_113 (by decide) ?_
          refine lv_istore (lv' := [(4, .int 0), (3, .int r10), (2, .int r7), (0, .ref (E.2.2.2 137)), (1, .int x1)]) hx hb dX10_isBetter_114 hl (by decide) rfl (fun ls hl => ?_)
          refine hL116 _ (fun v4 μ H locs ls S hl h => ?_) q_fu 0 μ8 H locs ls S (lv_sub hl [3, 0] rfl) h
          exact hJ148 v4 μ H locs ls S (lv_sub hl [0, 1] rfl) h
        · have h := q_ig c15 h
          exact hJ78 r7 r10 μ8 H locs ls S (lv_sub hl [2, 1, 0] rfl) h
    · have h := q_ig c4 h
      exact hJ15 μ H locs ls S (lv_sub hl [0, 1] rfl) h
def L_X10_mayBe_31 (Kx : Int32 → Int32 → q_M → Option (Int32 × q_M)) : Nat → Int32 → Int32 → Int32 → q_M → Option (Int32 × q_M)
  | 0, _, _, _, _ => none
  | n + 1, v1, v2, v3, μ => (if (μ.1 137 34) ≤ v3 then Kx v1 v2 μ else (if v2 = 0 then Kx v1 v2 μ else q_gd (q_ix ((12 * v1) + v3) 60) (q_gd (q_ix v3 12) ((if (μ.1 156 ((12 * v1) + v3).toNatClampNeg) = (μ.1 159 v3.toNatClampNeg) then q_le (v3 + 1 : Int32) (fun y10 => (L_X10_mayBe_31 Kx n) v1 1 y10 μ) else q_le (v3 + 1 : Int32) (fun y9 => (L_X10_mayBe_31 Kx n) v1 0 y9 μ))))))
def L_X10_mayBe_2 (Kx : q_M → Option (Int32 × q_M)) : Nat → Int32 → q_M → Option (Int32 × q_M)
  | 0, _, _ => none
  | n + 1, v1, μ => (if (μ.1 137 28) ≤ v1 then Kx μ else q_gd (q_ix v1 5) ((if (μ.1 157 v1.toNatClampNeg) = (μ.1 137 34) then L_X10_mayBe_31 (fun v1 v2 μ => (if v2 = 0 then q_le (v1 + 1 : Int32) (fun y14 => (L_X10_mayBe_2 Kx n) y14 μ) else some (0, μ))) q_fu v1 1 0 μ else L_X10_mayBe_31 (fun v1 v2 μ => (if v2 = 0 then q_le (v1 + 1 : Int32) (fun y12 => (L_X10_mayBe_2 Kx n) y12 μ) else some (0, μ))) q_fu v1 0 0 μ)))
def L_X10_mayBe_108 (Kx : Int32 → Int32 → q_M → Option (Int32 × q_M)) : Nat → Int32 → Int32 → Int32 → q_M → Option (Int32 × q_M)
  | 0, _, _, _, _ => none
  | n + 1, v1, v2, v3, μ => q_gd (q_ix (0 : Int32) 5) ((if (μ.1 157 (0 : Int32).toNatClampNeg) ≤ v3 then Kx v1 v2 μ else q_gd (q_ix v3 60) (q_gd (q_ix v2 12) ((if (μ.1 156 v3.toNatClampNeg) = (μ.1 159 v2.toNatClampNeg) then q_le ((v1 + 1) : Int32) (fun y24 => q_le (v3 + 1 : Int32) (fun y25 => (L_X10_mayBe_108 Kx n) y24 v2 y25 μ)) else q_le ((v1 + 0) : Int32) (fun y22 => q_le (v3 + 1 : Int32) (fun y23 => (L_X10_mayBe_108 Kx n) y22 v2 y23 μ)))))))
def L_X10_mayBe_91 (Kx : Int32 → q_M → Option (Int32 × q_M)) : Nat → Int32 → Int32 → q_M → Option (Int32 × q_M)
  | 0, _, _, _ => none
  | n + 1, v1, v2, μ => (if (μ.1 137 34) ≤ v2 then Kx v1 μ else (if (μ.1 137 28) ≤ 0 then Kx v1 μ else L_X10_mayBe_108 (fun v1 v2 μ => q_le (v2 + 1 : Int32) (fun y26 => (L_X10_mayBe_91 Kx n) v1 y26 μ)) q_fu v1 v2 0 μ))
def J_X10_mayBe_153 (v1 : Int32) (μ : q_M) : Option (Int32 × q_M) := (if (μ.1 137 39) < v1 then some (0, μ) else some (1, μ))
def f_X10_mayBe (μ : q_M) : Option (Int32 × q_M) := L_X10_mayBe_2 (fun μ => L_X10_mayBe_91 (fun v1 μ => J_X10_mayBe_153 v1 μ) q_fu 0 0 μ) q_fu 0 μ
set_option maxHeartbeats 4000000 in
set_option maxRecDepth 100000 in
theorem c_X10_mayBe (l : Launch) (E : q_E) (hE : q_I E) (μ μr : q_M) (r : Int32) (h : f_X10_mayBe μ = some (r, μr)) : Met l yX10_mayBe wsX10_mayBe ({ frames := 0, cells := 0, slots := 0, locals := 0 }) (q_Pc E μ [.ref (E.2.2.2 137)]) (q_Qi E r μr) 0 0 (q_A E) := by
  refine q_met (cc := cX10_mayBe) (maxL := 4) (ret := (some .boolean)) hE (by decide) rfl (Nat.le_of_ble_eq_true rfl) ?_
  intro p e s m below meth c hx hb hr hml hown hts hlk F S ls hl
  have hl : lv_has ls 4 [(0, .ref (E.2.2.2 137))] := hl
  have i10 : ∀ w ∈ u_ws RX10 TX10 54, w ∈ wsX10_mayBe := by decide +kernel
  have hL31 : ∀ (Kx : Int32 → Int32 → q_M → Option (Int32 × q_M)), (∀ (v1 : Int32), ∀ (v2 : Int32), ∀ (μ : q_M) (H : Heap) (locs : List Loc) (ls : Array Slot), q_S E (q_A E) s μ H locs → lv_has ls 4 [(0, .ref (E.2.2.2 137)), (1, .int v1), (2, .int v2)] → Kx v1 v2 μ = some (r, μr) → W p l e ({ frames := 0, cells := 0, slots := 0, locals := 0 }) s m ([.ref (E.2.2.2 137)] : List Value).toArray below meth c H locs 0 0 (MQ below (q_Qi E r μr) ([.ref (E.2.2.2 137)] : List Value).toArray s 0 0 (q_A E)) (F0 m 75 ls [])) → ∀ (n : Nat), ∀ (v1 : Int32), ∀ (v2 : Int32), ∀ (v3 : Int32), ∀ (μ : q_M) (H : Heap) (locs : List Loc) (ls : Array Slot), q_S E (q_A E) s μ H locs → lv_has ls 4 [(0, .ref (E.2.2.2 137)), (1, .int v1), (2, .int v2), (3, .int v3)] → L_X10_mayBe_31 Kx n v1 v2 v3 μ = some (r, μr) → W p l e ({ frames := 0, cells := 0, slots := 0, locals := 0 }) s m ([.ref (E.2.2.2 137)] : List Value).toArray below meth c H locs 0 0 (MQ below (q_Qi E r μr) ([.ref (E.2.2.2 137)] : List Value).toArray s 0 0 (q_A E)) (F0 m 31 ls []) := by
    intro Kx hKx n
    induction n with
    | zero => intro v1 v2 v3 μ H locs ls S hl h; exact absurd h (by simp [L_X10_mayBe_31])
    | succ n ih =>
      intro v1 v2 v3 μ H locs ls S hl h
      rw [L_X10_mayBe_31] at h
      refine lv_iload_n hx hb dX10_mayBe_31 rfl (lv_at hl 3 rfl) ?_
      refine lv_aload_n hx hb dX10_mayBe_32 rfl (lv_at hl 0 rfl) ?_
      refine q_geti (own := RX10) (C := RX10) (T := TX10) (N := 54) (ci := 10) (j := 34)  hx hb hts i10 hown F S q_k137 (by decide) rfl (by decide) (by decide) rfl (hts (.fieldLink RX10 237 "HeavyRoutesModel" "size" "I") (by decide +kernel)) dX10_mayBe_33 ?_
      refine lv_icmp_ge (tgt := 75) hx hb dX10_mayBe_36 (by decide) (fun c4 => ?_) (fun c4 => ?_)
      · have h := q_ip c4 h
        exact hKx v1 v2 μ H locs ls S (lv_sub hl [0, 1, 2] rfl) h
      · have h := q_ig c4 h
        refine lv_iload_n hx hb dX10_mayBe_39 rfl (lv_at hl 2 rfl) ?_
        refine lv_if_eq (tgt := 75) hx hb dX10_mayBe_40 (by decide) (fun c5 => ?_) (fun c5 => ?_)
        · have h := q_ip c5 h
          exact hKx v1 v2 μ H locs ls S (lv_sub hl [0, 1, 2] rfl) h
        · have h := q_ig c5 h
          refine lv_aload_n hx hb dX10_mayBe_43 rfl (lv_at hl 0 rfl) ?_
          refine q_getr (own := RX10) (C := RX10) (T := TX10) (N := 54) (ci := 10) (j := 29)  (b := 156) hx hb hts i10 hown F S q_k137 (by decide) rfl (by decide) (by decide) rfl (by decide) (hts (.fieldLink RX10 72 "HeavyRoutesModel" "foundRoads" "[I") (by decide +kernel)) dX10_mayBe_44 ?_
          refine lv_bipush (v := 12) hx hb dX10_mayBe_47 (by decide) ?_
          refine lv_iload_n hx hb dX10_mayBe_49 rfl (lv_at hl 1 rfl) ?_
          refine lv_imul hx hb dX10_mayBe_50 ?_
          refine lv_iload_n hx hb dX10_mayBe_51 rfl (lv_at hl 3 rfl) ?_
          refine lv_iadd hx hb dX10_mayBe_52 ?_
          obtain ⟨g6, h⟩ := q_gd_some h
          refine q_iald hx hb F S q_k156 q_n156 g6 dX10_mayBe_53 ?_
          refine lv_aload_n hx hb dX10_mayBe_54 rfl (lv_at hl 0 rfl) ?_
          refine q_getr (own := RX10) (C := RX10) (T := TX10) (N := 54) (ci := 10) (j := 33)  (b := 159) hx hb hts i10 hown F S q_k137 (by decide) rfl (by decide) (by decide) rfl (by decide) (hts (.fieldLink RX10 81 "HeavyRoutesModel" "way" "[I") (by decide +kernel)) dX10_mayBe_55 ?_
          refine lv_iload_n hx hb dX10_mayBe_58 rfl (lv_at hl 3 rfl) ?_
          obtain ⟨g7, h⟩ := q_gd_some h
          refine q_iald hx hb F S q_k159 q_n159 g7 dX10_mayBe_59 ?_
          refine lv_icmp_ne (tgt := 67) hx hb dX10_mayBe_60 (by decide) (fun c8 => ?_) (fun c8 => ?_)
          · have h := q_ig c8 h
            refine lv_iconst (v := 0) hx hb dX10_mayBe_67 (by decide) ?_
            refine lv_istore_n (lv' := [(2, .int 0), (0, .ref (E.2.2.2 137)), (1, .int v1), (3, .int v3)]) hx hb dX10_mayBe_68 rfl hl (by decide) rfl (fun ls hl => ?_)
            obtain ⟨y9, ey9⟩ : ∃ z : Int32, z = v3 + 1 := ⟨_, rfl⟩
            have h := q_le_e h ey9
            refine lv_iinc (v := y9) (lv' := [(3, .int y9), (2, .int 0), (0, .ref (E.2.2.2 137)), (1, .int v1)]) hx hb dX10_mayBe_69 hl (k := 3) rfl (by rw [ey9]; rfl) (by decide) rfl (fun ls hl => ?_)
            refine lv_goto (tgt := 31) hx hb dX10_mayBe_72 (by decide) ?_
            exact ih v1 0 y9 μ H locs ls S (lv_sub hl [2, 3, 1, 0] rfl) h
          · have h := q_ip c8 h
            refine lv_iconst (v := 1) hx hb dX10_mayBe_63 (by decide) ?_
            refine lv_goto (tgt := 68) hx hb dX10_mayBe_64 (by decide) ?_
            refine lv_istore_n (lv' := [(2, .int 1), (0, .ref (E.2.2.2 137)), (1, .int v1), (3, .int v3)]) hx hb dX10_mayBe_68 rfl hl (by decide) rfl (fun ls hl => ?_)
            obtain ⟨y10, ey10⟩ : ∃ z : Int32, z = v3 + 1 := ⟨_, rfl⟩
            have h := q_le_e h ey10
            refine lv_iinc (v := y10) (lv' := [(3, .int y10), (2, .int 1), (0, .ref (E.2.2.2 137)), (1, .int v1)]) hx hb dX10_mayBe_69 hl (k := 3) rfl (by rw [ey10]; rfl) (by decide) rfl (fun ls hl => ?_)
            refine lv_goto (tgt := 31) hx hb dX10_mayBe_72 (by decide) ?_
            exact ih v1 1 y10 μ H locs ls S (lv_sub hl [2, 3, 1, 0] rfl) h
  have hL2 : ∀ (Kx : q_M → Option (Int32 × q_M)), (∀ (μ : q_M) (H : Heap) (locs : List Loc) (ls : Array Slot), q_S E (q_A E) s μ H locs → lv_has ls 4 [(0, .ref (E.2.2.2 137))] → Kx μ = some (r, μr) → W p l e ({ frames := 0, cells := 0, slots := 0, locals := 0 }) s m ([.ref (E.2.2.2 137)] : List Value).toArray below meth c H locs 0 0 (MQ below (q_Qi E r μr) ([.ref (E.2.2.2 137)] : List Value).toArray s 0 0 (q_A E)) (F0 m 87 ls [])) → ∀ (n : Nat), ∀ (v1 : Int32), ∀ (μ : q_M) (H : Heap) (locs : List Loc) (ls : Array Slot), q_S E (q_A E) s μ H locs → lv_has ls 4 [(0, .ref (E.2.2.2 137)), (1, .int v1)] → L_X10_mayBe_2 Kx n v1 μ = some (r, μr) → W p l e ({ frames := 0, cells := 0, slots := 0, locals := 0 }) s m ([.ref (E.2.2.2 137)] : List Value).toArray below meth c H locs 0 0 (MQ below (q_Qi E r μr) ([.ref (E.2.2.2 137)] : List Value).toArray s 0 0 (q_A E)) (F0 m 2 ls []) := by
    intro Kx hKx n
    induction n with
    | zero => intro v1 μ H locs ls S hl h; exact absurd h (by simp [L_X10_mayBe_2])
    | succ n ih =>
      intro v1 μ H locs ls S hl h
      rw [L_X10_mayBe_2] at h
      refine lv_iload_n hx hb dX10_mayBe_2 rfl (lv_at hl 1 rfl) ?_
      refine lv_aload_n hx hb dX10_mayBe_3 rfl (lv_at hl 0 rfl) ?_
      refine q_geti (own := RX10) (C := RX10) (T := TX10) (N := 54) (ci := 10) (j := 28)  hx hb hts i10 hown F S q_k137 (by decide) rfl (by decide) (by decide) rfl (hts (.fieldLink RX10 109 "HeavyRoutesModel" "found" "I") (by decide +kernel)) dX10_mayBe_4 ?_
      refine lv_icmp_ge (tgt := 87) hx hb dX10_mayBe_7 (by decide) (fun c1 => ?_) (fun c1 => ?_)
      · have h := q_ip c1 h
        exact hKx μ H locs ls S (lv_sub hl [0] rfl) h
      · have h := q_ig c1 h
        refine lv_aload_n hx hb dX10_mayBe_10 rfl (lv_at hl 0 rfl) ?_
        refine q_getr (own := RX10) (C := RX10) (T := TX10) (N := 54) (ci := 10) (j := 30)  (b := 157) hx hb hts i10 hown F S q_k137 (by decide) rfl (by decide) (by decide) rfl (by decide) (hts (.fieldLink RX10 75 "HeavyRoutesModel" "foundSizes" "[I") (by decide +kernel)) dX10_mayBe_11 ?_
        refine lv_iload_n hx hb dX10_mayBe_14 rfl (lv_at hl 1 rfl) ?_
        obtain ⟨g2, h⟩ := q_gd_some h
        refine q_iald hx hb F S q_k157 q_n157 g2 dX10_mayBe_15 ?_
        refine lv_aload_n hx hb dX10_mayBe_16 rfl (lv_at hl 0 rfl) ?_
        refine q_geti (own := RX10) (C := RX10) (T := TX10) (N := 54) (ci := 10) (j := 34)  hx hb hts i10 hown F S q_k137 (by decide) rfl (by decide) (by decide) rfl (hts (.fieldLink RX10 237 "HeavyRoutesModel" "size" "I") (by decide +kernel)) dX10_mayBe_17 ?_
        refine lv_icmp_ne (tgt := 27) hx hb dX10_mayBe_20 (by decide) (fun c3 => ?_) (fun c3 => ?_)
        · have h := q_ig c3 h
          refine lv_iconst (v := 0) hx hb dX10_mayBe_27 (by decide) ?_
          refine lv_istore_n (lv' := [(2, .int 0), (0, .ref (E.2.2.2 137)), (1, .int v1)]) hx hb dX10_mayBe_28 rfl hl (by decide) rfl (fun ls hl => ?_)
          refine lv_iconst (v := 0) hx hb dX10_mayBe_29 (by decide) ?_
          refine lv_istore_n (lv' := [(3, .int 0), (2, .int 0), (0, .ref (E.2.2.2 137)), (1, .int v1)]) hx hb dX10_mayBe_30 rfl hl (by decide) rfl (fun ls hl => ?_)
          refine hL31 _ (fun v1 v2 μ H locs ls S hl h => ?_) q_fu v1 0 0 μ H locs ls S (lv_sub hl [2, 3, 1, 0] rfl) h
          refine lv_iload_n hx hb dX10_mayBe_75 rfl (lv_at hl 2 rfl) ?_
          refine lv_if_eq (tgt := 81) hx hb dX10_mayBe_76 (by decide) (fun c11 => ?_) (fun c11 => ?_)
          · have h := q_ip c11 h
            obtain ⟨y12, ey12⟩ : ∃ z : Int32, z = v1 + 1 := ⟨_, rfl⟩
            have h := q_le_e h ey12
            refine lv_iinc (v := y12) (lv' := [(1, .int y12), (0, .ref (E.2.2.2 137)), (2, .int v2)]) hx hb dX10_mayBe_81 hl (k := 1) rfl (by rw [ey12]; rfl) (by decide) rfl (fun ls hl => ?_)
            refine lv_goto (tgt := 2) hx hb dX10_mayBe_84 (by decide) ?_
            exact ih y12 μ H locs ls S (lv_sub hl [1, 0] rfl) h
          · have h := q_ig c11 h
            refine lv_iconst (v := 0) hx hb dX10_mayBe_79 (by decide) ?_
            exact q_zret hx hb hr S (by decide) h hlk dX10_mayBe_80
        · have h := q_ip c3 h
          refine lv_iconst (v := 1) hx hb dX10_mayBe_23 (by decide) ?_
          refine lv_goto (tgt := 28) hx hb dX10_mayBe_24 (by decide) ?_
          refine lv_istore_n (lv' := [(2, .int 1), (0, .ref (E.2.2.2 137)), (1, .int v1)]) hx hb dX10_mayBe_28 rfl hl (by decide) rfl (fun ls hl => ?_)
          refine lv_iconst (v := 0) hx hb dX10_mayBe_29 (by decide) ?_
          refine lv_istore_n (lv' := [(3, .int 0), (2, .int 1), (0, .ref (E.2.2.2 137)), (1, .int v1)]) hx hb dX10_mayBe_30 rfl hl (by decide) rfl (fun ls hl => ?_)
          refine hL31 _ (fun v1 v2 μ H locs ls S hl h => ?_) q_fu v1 1 0 μ H locs ls S (lv_sub hl [2, 3, 1, 0] rfl) h
          refine lv_iload_n hx hb dX10_mayBe_75 rfl (lv_at hl 2 rfl) ?_
          refine lv_if_eq (tgt := 81) hx hb dX10_mayBe_76 (by decide) (fun c13 => ?_) (fun c13 => ?_)
          · have h := q_ip c13 h
            obtain ⟨y14, ey14⟩ : ∃ z : Int32, z = v1 + 1 := ⟨_, rfl⟩
            have h := q_le_e h ey14
            refine lv_iinc (v := y14) (lv' := [(1, .int y14), (0, .ref (E.2.2.2 137)), (2, .int v2)]) hx hb dX10_mayBe_81 hl (k := 1) rfl (by rw [ey14]; rfl) (by decide) rfl (fun ls hl => ?_)
            refine lv_goto (tgt := 2) hx hb dX10_mayBe_84 (by decide) ?_
            exact ih y14 μ H locs ls S (lv_sub hl [1, 0] rfl) h
          · have h := q_ig c13 h
            refine lv_iconst (v := 0) hx hb dX10_mayBe_79 (by decide) ?_
            exact q_zret hx hb hr S (by decide) h hlk dX10_mayBe_80
  have hL108 : ∀ (Kx : Int32 → Int32 → q_M → Option (Int32 × q_M)), (∀ (v1 : Int32), ∀ (v2 : Int32), ∀ (μ : q_M) (H : Heap) (locs : List Loc) (ls : Array Slot), q_S E (q_A E) s μ H locs → lv_has ls 4 [(0, .ref (E.2.2.2 137)), (1, .int v1), (2, .int v2)] → Kx v1 v2 μ = some (r, μr) → W p l e ({ frames := 0, cells := 0, slots := 0, locals := 0 }) s m ([.ref (E.2.2.2 137)] : List Value).toArray below meth c H locs 0 0 (MQ below (q_Qi E r μr) ([.ref (E.2.2.2 137)] : List Value).toArray s 0 0 (q_A E)) (F0 m 147 ls [])) → ∀ (n : Nat), ∀ (v1 : Int32), ∀ (v2 : Int32), ∀ (v3 : Int32), ∀ (μ : q_M) (H : Heap) (locs : List Loc) (ls : Array Slot), q_S E (q_A E) s μ H locs → lv_has ls 4 [(0, .ref (E.2.2.2 137)), (1, .int v1), (2, .int v2), (3, .int v3)] → L_X10_mayBe_108 Kx n v1 v2 v3 μ = some (r, μr) → W p l e ({ frames := 0, cells := 0, slots := 0, locals := 0 }) s m ([.ref (E.2.2.2 137)] : List Value).toArray below meth c H locs 0 0 (MQ below (q_Qi E r μr) ([.ref (E.2.2.2 137)] : List Value).toArray s 0 0 (q_A E)) (F0 m 108 ls []) := by
    intro Kx hKx n
    induction n with
    | zero => intro v1 v2 v3 μ H locs ls S hl h; exact absurd h (by simp [L_X10_mayBe_108])
    | succ n ih =>
      intro v1 v2 v3 μ H locs ls S hl h
      rw [L_X10_mayBe_108] at h
      refine lv_iload_n hx hb dX10_mayBe_108 rfl (lv_at hl 3 rfl) ?_
      refine lv_aload_n hx hb dX10_mayBe_109 rfl (lv_at hl 0 rfl) ?_
      refine q_getr (own := RX10) (C := RX10) (T := TX10) (N := 54) (ci := 10) (j := 30)  (b := 157) hx hb hts i10 hown F S q_k137 (by decide) rfl (by decide) (by decide) rfl (by decide) (hts (.fieldLink RX10 75 "HeavyRoutesModel" "foundSizes" "[I") (by decide +kernel)) dX10_mayBe_110 ?_
      refine lv_iconst (v := 0) hx hb dX10_mayBe_113 (by decide) ?_
      obtain ⟨g17, h⟩ := q_gd_some h
      refine q_iald hx hb F S q_k157 q_n157 g17 dX10_mayBe_114 ?_
      refine lv_icmp_ge (tgt := 147) hx hb dX10_mayBe_115 (by decide) (fun c18 => ?_) (fun c18 => ?_)
      · have h := q_ip c18 h
        exact hKx v1 v2 μ H locs ls S (lv_sub hl [0, 1, 2] rfl) h
      · have h := q_ig c18 h
        refine lv_iload_n hx hb dX10_mayBe_118 rfl (lv_at hl 1 rfl) ?_
        refine lv_aload_n hx hb dX10_mayBe_119 rfl (lv_at hl 0 rfl) ?_
        refine q_getr (own := RX10) (C := RX10) (T := TX10) (N := 54) (ci := 10) (j := 29)  (b := 156) hx hb hts i10 hown F S q_k137 (by decide) rfl (by decide) (by decide) rfl (by decide) (hts (.fieldLink RX10 72 "HeavyRoutesModel" "foundRoads" "[I") (by decide +kernel)) dX10_mayBe_120 ?_
        refine lv_iload_n hx hb dX10_mayBe_123 rfl (lv_at hl 3 rfl) ?_
        obtain ⟨g19, h⟩ := q_gd_some h
        refine q_iald hx hb F S q_k156 q_n156 g19 dX10_mayBe_124 ?_
        refine lv_aload_n hx hb dX10_mayBe_125 rfl (lv_at hl 0 rfl) ?_
        refine q_getr (own := RX10) (C := RX10) (T := TX10) (N := 54) (ci := 10) (j := 33)  (b := 159) hx hb hts i10 hown F S q_k137 (by decide) rfl (by decide) (by decide) rfl (by decide) (hts (.fieldLink RX10 81 "HeavyRoutesModel" "way" "[I") (by decide +kernel)) dX10_mayBe_126 ?_
        refine lv_iload_n hx hb dX10_mayBe_129 rfl (lv_at hl 2 rfl) ?_
        obtain ⟨g20, h⟩ := q_gd_some h
        refine q_iald hx hb F S q_k159 q_n159 g20 dX10_mayBe_130 ?_
        refine lv_icmp_ne (tgt := 138) hx hb dX10_mayBe_131 (by decide) (fun c21 => ?_) (fun c21 => ?_)
        · have h := q_ig c21 h
          refine lv_iconst (v := 0) hx hb dX10_mayBe_138 (by decide) ?_
          refine lv_iadd hx hb dX10_mayBe_139 ?_
          refine lv_topi (fun y22 ey22 => ?_)
          have h := q_le_e h ey22
          refine lv_istore_n (lv' := [(1, .int y22), (0, .ref (E.2.2.2 137)), (2, .int v2), (3, .int v3)]) hx hb dX10_mayBe_140 rfl hl (by decide) rfl (fun ls hl => ?_)
          obtain ⟨y23, ey23⟩ : ∃ z : Int32, z = v3 + 1 := ⟨_, rfl⟩
          have h := q_le_e h ey23
          refine lv_iinc (v := y23) (lv' := [(3, .int y23), (1, .int y22), (0, .ref (E.2.2.2 137)), (2, .int v2)]) hx hb dX10_mayBe_141 hl (k := 3) rfl (by rw [ey23]; rfl) (by decide) rfl (fun ls hl => ?_)
          refine lv_goto (tgt := 108) hx hb dX10_mayBe_144 (by decide) ?_
          exact ih y22 v2 y23 μ H locs ls S (lv_sub hl [2, 1, 3, 0] rfl) h
        · have h := q_ip c21 h
          refine lv_iconst (v := 1) hx hb dX10_mayBe_134 (by decide) ?_
          refine lv_goto (tgt := 139) hx hb dX10_mayBe_135 (by decide) ?_
          refine lv_iadd hx hb dX10_mayBe_139 ?_
          refine lv_topi (fun y24 ey24 => ?_)
          have h := q_le_e h ey24
          refine lv_istore_n (lv' := [(1, .int y24), (0, .ref (E.2.2.2 137)), (2, .int v2), (3, .int v3)]) hx hb dX10_mayBe_140 rfl hl (by decide) rfl (fun ls hl => ?_)
          obtain ⟨y25, ey25⟩ : ∃ z : Int32, z = v3 + 1 := ⟨_, rfl⟩
          have h := q_le_e h ey25
          refine lv_iinc (v := y25) (lv' := [(3, .int y25), (1, .int y24), (0, .ref (E.2.2.2 137)), (2, .int v2)]) hx hb dX10_mayBe_141 hl (k := 3) rfl (by rw [ey25]; rfl) (by decide) rfl (fun ls hl => ?_)
          refine lv_goto (tgt := 108) hx hb dX10_mayBe_144 (by decide) ?_
          exact ih y24 v2 y25 μ H locs ls S (lv_sub hl [2, 1, 3, 0] rfl) h
  have hL91 : ∀ (Kx : Int32 → q_M → Option (Int32 × q_M)), (∀ (v1 : Int32), ∀ (μ : q_M) (H : Heap) (locs : List Loc) (ls : Array Slot), q_S E (q_A E) s μ H locs → lv_has ls 4 [(0, .ref (E.2.2.2 137)), (1, .int v1)] → Kx v1 μ = some (r, μr) → W p l e ({ frames := 0, cells := 0, slots := 0, locals := 0 }) s m ([.ref (E.2.2.2 137)] : List Value).toArray below meth c H locs 0 0 (MQ below (q_Qi E r μr) ([.ref (E.2.2.2 137)] : List Value).toArray s 0 0 (q_A E)) (F0 m 153 ls [])) → ∀ (n : Nat), ∀ (v1 : Int32), ∀ (v2 : Int32), ∀ (μ : q_M) (H : Heap) (locs : List Loc) (ls : Array Slot), q_S E (q_A E) s μ H locs → lv_has ls 4 [(0, .ref (E.2.2.2 137)), (1, .int v1), (2, .int v2)] → L_X10_mayBe_91 Kx n v1 v2 μ = some (r, μr) → W p l e ({ frames := 0, cells := 0, slots := 0, locals := 0 }) s m ([.ref (E.2.2.2 137)] : List Value).toArray below meth c H locs 0 0 (MQ below (q_Qi E r μr) ([.ref (E.2.2.2 137)] : List Value).toArray s 0 0 (q_A E)) (F0 m 91 ls []) := by
    intro Kx hKx n
    induction n with
    | zero => intro v1 v2 μ H locs ls S hl h; exact absurd h (by simp [L_X10_mayBe_91])
    | succ n ih =>
      intro v1 v2 μ H locs ls S hl h
      rw [L_X10_mayBe_91] at h
      refine lv_iload_n hx hb dX10_mayBe_91 rfl (lv_at hl 2 rfl) ?_
      refine lv_aload_n hx hb dX10_mayBe_92 rfl (lv_at hl 0 rfl) ?_
      refine q_geti (own := RX10) (C := RX10) (T := TX10) (N := 54) (ci := 10) (j := 34)  hx hb hts i10 hown F S q_k137 (by decide) rfl (by decide) (by decide) rfl (hts (.fieldLink RX10 237 "HeavyRoutesModel" "size" "I") (by decide +kernel)) dX10_mayBe_93 ?_
      refine lv_icmp_ge (tgt := 153) hx hb dX10_mayBe_96 (by decide) (fun c15 => ?_) (fun c15 => ?_)
      · have h := q_ip c15 h
        exact hKx v1 μ H locs ls S (lv_sub hl [0, 1] rfl) h
      · have h := q_ig c15 h
        refine lv_aload_n hx hb dX10_mayBe_99 rfl (lv_at hl 0 rfl) ?_
        refine q_geti (own := RX10) (C := RX10) (T := TX10) (N := 54) (ci := 10) (j := 28)  hx hb hts i10 hown F S q_k137 (by decide) rfl (by decide) (by decide) rfl (hts (.fieldLink RX10 109 "HeavyRoutesModel" "found" "I") (by decide +kernel)) dX10_mayBe_100 ?_
        refine lv_if_le (tgt := 153) hx hb dX10_mayBe_103 (by decide) (fun c16 => ?_) (fun c16 => ?_)
        · have h := q_ip c16 h
          exact hKx v1 μ H locs ls S (lv_sub hl [0, 1] rfl) h
        · have h := q_ig c16 h
          refine lv_iconst (v := 0) hx hb dX10_mayBe_106 (by decide) ?_
          refine lv_istore_n (lv' := [(3, .int 0), (0, .ref (E.2.2.2 137)), (1, .int v1), (2, .int v2)]) hx hb dX10_mayBe_107 rfl hl (by decide) rfl (fun ls hl => ?_)
          refine hL108 _ (fun v1 v2 μ H locs ls S hl h => ?_) q_fu v1 v2 0 μ H locs ls S (lv_sub hl [1, 2, 3, 0] rfl) h
          obtain ⟨y26, ey26⟩ : ∃ z : Int32, z = v2 + 1 := ⟨_, rfl⟩
          have h := q_le_e h ey26
          refine lv_iinc (v := y26) (lv' := [(2, .int y26), (0, .ref (E.2.2.2 137)), (1, .int v1)]) hx hb dX10_mayBe_147 hl (k := 2) rfl (by rw [ey26]; rfl) (by decide) rfl (fun ls hl => ?_)
          refine lv_goto (tgt := 91) hx hb dX10_mayBe_150 (by decide) ?_
          exact ih v1 y26 μ H locs ls S (lv_sub hl [1, 2, 0] rfl) h
  have hJ153 : ∀ (v1 : Int32), ∀ (μ : q_M) (H : Heap) (locs : List Loc) (ls : Array Slot), q_S E (q_A E) s μ H locs → lv_has ls 4 [(0, .ref (E.2.2.2 137)), (1, .int v1)] → J_X10_mayBe_153 v1 μ = some (r, μr) → W p l e ({ frames := 0, cells := 0, slots := 0, locals := 0 }) s m ([.ref (E.2.2.2 137)] : List Value).toArray below meth c H locs 0 0 (MQ below (q_Qi E r μr) ([.ref (E.2.2.2 137)] : List Value).toArray s 0 0 (q_A E)) (F0 m 153 ls []) := by
    intro v1 μ H locs ls S hl h
    rw [J_X10_mayBe_153] at h
    refine lv_iload_n hx hb dX10_mayBe_153 rfl (lv_at hl 1 rfl) ?_
    refine lv_aload_n hx hb dX10_mayBe_154 rfl (lv_at hl 0 rfl) ?_
    refine q_geti (own := RX10) (C := RX10) (T := TX10) (N := 54) (ci := 10) (j := 39)  hx hb hts i10 hown F S q_k137 (by decide) rfl (by decide) (by decide) rfl (hts (.fieldLink RX10 244 "HeavyRoutesModel" "limit" "I") (by decide +kernel)) dX10_mayBe_155 ?_
    refine lv_icmp_gt (tgt := 165) hx hb dX10_mayBe_158 (by decide) (fun c27 => ?_) (fun c27 => ?_)
    · have h := q_ip c27 h
      refine lv_iconst (v := 0) hx hb dX10_mayBe_165 (by decide) ?_
      exact q_zret hx hb hr S (by decide) h hlk dX10_mayBe_166
    · have h := q_ig c27 h
      refine lv_iconst (v := 1) hx hb dX10_mayBe_161 (by decide) ?_
      refine lv_goto (tgt := 166) hx hb dX10_mayBe_162 (by decide) ?_
      exact q_zret hx hb hr S (by decide) h hlk dX10_mayBe_166
  unfold f_X10_mayBe at h
  obtain ⟨H, eH⟩ : ∃ z, z = s.heap := ⟨_, rfl⟩
  obtain ⟨locs, eL⟩ : ∃ z : List Loc, z = [] := ⟨_, rfl⟩
  rw [← eH, ← eL] at S
  suffices hh : W p l e ({ frames := 0, cells := 0, slots := 0, locals := 0 }) s m ([.ref (E.2.2.2 137)] : List Value).toArray below meth c H locs 0 0 (MQ below (q_Qi E r μr) ([.ref (E.2.2.2 137)] : List Value).toArray s 0 0 (q_A E)) (F0 m 0 ls []) by rw [eH, eL] at hh; exact hh
  refine lv_iconst (v := 0) hx hb dX10_mayBe_0 (by decide) ?_
  refine lv_istore_n (lv' := [(1, .int 0), (0, .ref (E.2.2.2 137))]) hx hb dX10_mayBe_1 rfl hl (by decide) rfl (fun ls hl => ?_)
  refine hL2 _ (fun μ H locs ls S hl h => ?_) q_fu 0 μ H locs ls S (lv_sub hl [1, 0] rfl) h
  refine lv_iconst (v := 0) hx hb dX10_mayBe_87 (by decide) ?_
  refine lv_istore_n (lv' := [(1, .int 0), (0, .ref (E.2.2.2 137))]) hx hb dX10_mayBe_88 rfl hl (by decide) rfl (fun ls hl => ?_)
  refine lv_iconst (v := 0) hx hb dX10_mayBe_89 (by decide) ?_
  refine lv_istore_n (lv' := [(2, .int 0), (1, .int 0), (0, .ref (E.2.2.2 137))]) hx hb dX10_mayBe_90 rfl hl (by decide) rfl (fun ls hl => ?_)
  refine hL91 _ (fun v1 μ H locs ls S hl h => ?_) q_fu 0 0 μ H locs ls S (lv_sub hl [2, 1, 0] rfl) h
  exact hJ153 v1 μ H locs ls S (lv_sub hl [0, 1] rfl) h
def L_X10_judge_58 (Kx : q_M → Option (Unit × q_M)) : Nat → Int32 → q_M → Option (Unit × q_M)
  | 0, _, _ => none
  | n + 1, v2, μ => (if (μ.1 137 34) ≤ v2 then Kx μ else q_gd (q_ix v2 12) (q_le (q_si μ 161 v2.toNatClampNeg (μ.1 159 v2.toNatClampNeg)) (fun μ17 => q_le (v2 + 1 : Int32) (fun y18 => (L_X10_judge_58 Kx n) y18 μ17))))
def f_X10_judge (μ : q_M) : Option (Unit × q_M) := q_le (q_si μ 137 40 ((μ.1 137 40) + 1)) (fun μ1 => q_bd (f_X10_endOf 159 0 (μ1.1 137 34) (μ1.1 137 27) μ1) (fun r4 μ2 => q_bd (f_X10_mayBe  μ2) (fun r7 μ5 => (if r7 = 0 then some ((), μ5) else q_bd (f_X10_isBetter r4 μ5) (fun r11 μ9 => (if r11 = 0 then some ((), μ9) else q_le (q_si μ9 137 38 r4) (fun μ13 => q_le (q_si μ13 137 37 (μ13.1 137 34)) (fun μ14 => L_X10_judge_58 (fun μ => some ((), μ)) q_fu 0 μ14))))))))
set_option maxHeartbeats 4000000 in
set_option maxRecDepth 100000 in
theorem c_X10_judge (l : Launch) (E : q_E) (hE : q_I E) (μ μr : q_M) (r : Unit) (h : f_X10_judge μ = some (r, μr)) : Met l yX10_judge wsX10_judge ({ frames := 3, cells := 0, slots := 0, locals := 75 }) (q_Pc E μ [.ref (E.2.2.2 137)]) (q_Qv E r μr) 0 0 (q_A E) := by
  refine q_met (cc := cX10_judge) (maxL := 3) (ret := none) hE (by decide) rfl (Nat.le_of_ble_eq_true rfl) ?_
  intro p e s m below meth c hx hb hr hml hown hts hlk F S ls hl
  have hl : lv_has ls 3 [(0, .ref (E.2.2.2 137))] := hl
  have i10 : ∀ w ∈ u_ws RX10 TX10 54, w ∈ wsX10_judge := by decide +kernel
  have hL58 : ∀ (Kx : q_M → Option (Unit × q_M)), (∀ (μ : q_M) (H : Heap) (locs : List Loc) (ls : Array Slot), q_S E (q_A E) s μ H locs → lv_has ls 3 [] → Kx μ = some (r, μr) → W p l e ({ frames := 3, cells := 0, slots := 0, locals := 75 }) s m ([.ref (E.2.2.2 137)] : List Value).toArray below meth c H locs 0 0 (MQ below (q_Qv E r μr) ([.ref (E.2.2.2 137)] : List Value).toArray s 0 0 (q_A E)) (F0 m 84 ls [])) → ∀ (n : Nat), ∀ (v2 : Int32), ∀ (μ : q_M) (H : Heap) (locs : List Loc) (ls : Array Slot), q_S E (q_A E) s μ H locs → lv_has ls 3 [(0, .ref (E.2.2.2 137)), (2, .int v2)] → L_X10_judge_58 Kx n v2 μ = some (r, μr) → W p l e ({ frames := 3, cells := 0, slots := 0, locals := 75 }) s m ([.ref (E.2.2.2 137)] : List Value).toArray below meth c H locs 0 0 (MQ below (q_Qv E r μr) ([.ref (E.2.2.2 137)] : List Value).toArray s 0 0 (q_A E)) (F0 m 58 ls []) := by
    intro Kx hKx n
    induction n with
    | zero => intro v2 μ H locs ls S hl h; exact absurd h (by simp [L_X10_judge_58])
    | succ n ih =>
      intro v2 μ H locs ls S hl h
      rw [L_X10_judge_58] at h
      refine lv_iload_n hx hb dX10_judge_58 rfl (lv_at hl 1 rfl) ?_
      refine lv_aload_n hx hb dX10_judge_59 rfl (lv_at hl 0 rfl) ?_
      refine q_geti (own := RX10) (C := RX10) (T := TX10) (N := 54) (ci := 10) (j := 34)  hx hb hts i10 hown F S q_k137 (by decide) rfl (by decide) (by decide) rfl (hts (.fieldLink RX10 237 "HeavyRoutesModel" "size" "I") (by decide +kernel)) dX10_judge_60 ?_
      refine lv_icmp_ge (tgt := 84) hx hb dX10_judge_63 (by decide) (fun c15 => ?_) (fun c15 => ?_)
      · have h := q_ip c15 h
        exact hKx μ H locs ls S (lv_sub hl [] rfl) h
      · have h := q_ig c15 h
        refine lv_aload_n hx hb dX10_judge_66 rfl (lv_at hl 0 rfl) ?_
        refine q_getr (own := RX10) (C := RX10) (T := TX10) (N := 54) (ci := 10) (j := 36)  (b := 161) hx hb hts i10 hown F S q_k137 (by decide) rfl (by decide) (by decide) rfl (by decide) (hts (.fieldLink RX10 87 "HeavyRoutesModel" "best" "[I") (by decide +kernel)) dX10_judge_67 ?_
        refine lv_iload_n hx hb dX10_judge_70 rfl (lv_at hl 1 rfl) ?_
        refine lv_aload_n hx hb dX10_judge_71 rfl (lv_at hl 0 rfl) ?_
        refine q_getr (own := RX10) (C := RX10) (T := TX10) (N := 54) (ci := 10) (j := 33)  (b := 159) hx hb hts i10 hown F S q_k137 (by decide) rfl (by decide) (by decide) rfl (by decide) (hts (.fieldLink RX10 81 "HeavyRoutesModel" "way" "[I") (by decide +kernel)) dX10_judge_72 ?_
        refine lv_iload_n hx hb dX10_judge_75 rfl (lv_at hl 1 rfl) ?_
        obtain ⟨g16, h⟩ := q_gd_some h
        refine q_iald hx hb F S q_k159 q_n159 g16 dX10_judge_76 ?_
        refine q_iast hx hb F S q_k161 q_n161 g16 dX10_judge_77 (fun H locs μ17 eμ17 S => ?_)
        have h := q_le_e h eμ17
        obtain ⟨y18, ey18⟩ : ∃ z : Int32, z = v2 + 1 := ⟨_, rfl⟩
        have h := q_le_e h ey18
        refine lv_iinc (v := y18) (lv' := [(2, .int y18), (0, .ref (E.2.2.2 137))]) hx hb dX10_judge_78 hl (k := 1) rfl (by rw [ey18]; rfl) (by decide) rfl (fun ls hl => ?_)
        refine lv_goto (tgt := 58) hx hb dX10_judge_81 (by decide) ?_
        exact ih y18 μ17 H locs ls S (lv_sub hl [1, 0] rfl) h
  unfold f_X10_judge at h
  obtain ⟨H, eH⟩ : ∃ z, z = s.heap := ⟨_, rfl⟩
  obtain ⟨locs, eL⟩ : ∃ z : List Loc, z = [] := ⟨_, rfl⟩
  rw [← eH, ← eL] at S
  suffices hh : W p l e ({ frames := 3, cells := 0, slots := 0, locals := 75 }) s m ([.ref (E.2.2.2 137)] : List Value).toArray below meth c H locs 0 0 (MQ below (q_Qv E r μr) ([.ref (E.2.2.2 137)] : List Value).toArray s 0 0 (q_A E)) (F0 m 0 ls []) by rw [eH, eL] at hh; exact hh
  refine lv_aload_n hx hb dX10_judge_0 rfl (lv_at hl 0 rfl) ?_
  refine lv_dup hx hb dX10_judge_1 rfl ?_
  refine q_geti (own := RX10) (C := RX10) (T := TX10) (N := 54) (ci := 10) (j := 40)  hx hb hts i10 hown F S q_k137 (by decide) rfl (by decide) (by decide) rfl (hts (.fieldLink RX10 247 "HeavyRoutesModel" "ways" "I") (by decide +kernel)) dX10_judge_2 ?_
  refine lv_iconst (v := 1) hx hb dX10_judge_5 (by decide) ?_
  refine lv_iadd hx hb dX10_judge_6 ?_
  refine q_puti (own := RX10) (C := RX10) (T := TX10) (N := 54) (ci := 10) (j := 40)  hx hb hts i10 tyX10 tyX10_ok nmX10 hown F S q_k137 (by decide) rfl (by decide) (by decide) rfl (hts (.fieldLink RX10 247 "HeavyRoutesModel" "ways" "I") (by decide +kernel)) rfl (by decide +kernel) dX10_judge_7 (fun H locs μ1 eμ1 S => ?_)
  have h := q_le_e h eμ1
  refine lv_aload_n hx hb dX10_judge_10 rfl (lv_at hl 0 rfl) ?_
  refine lv_aload_n hx hb dX10_judge_11 rfl (lv_at hl 0 rfl) ?_
  refine q_getr (own := RX10) (C := RX10) (T := TX10) (N := 54) (ci := 10) (j := 33)  (b := 159) hx hb hts i10 hown F S q_k137 (by decide) rfl (by decide) (by decide) rfl (by decide) (hts (.fieldLink RX10 81 "HeavyRoutesModel" "way" "[I") (by decide +kernel)) dX10_judge_12 ?_
  refine lv_iconst (v := 0) hx hb dX10_judge_15 (by decide) ?_
  refine lv_aload_n hx hb dX10_judge_16 rfl (lv_at hl 0 rfl) ?_
  refine q_geti (own := RX10) (C := RX10) (T := TX10) (N := 54) (ci := 10) (j := 34)  hx hb hts i10 hown F S q_k137 (by decide) rfl (by decide) (by decide) rfl (hts (.fieldLink RX10 237 "HeavyRoutesModel" "size" "I") (by decide +kernel)) dX10_judge_17 ?_
  refine lv_aload_n hx hb dX10_judge_20 rfl (lv_at hl 0 rfl) ?_
  refine q_geti (own := RX10) (C := RX10) (T := TX10) (N := 54) (ci := 10) (j := 27)  hx hb hts i10 hown F S q_k137 (by decide) rfl (by decide) (by decide) rfl (hts (.fieldLink RX10 250 "HeavyRoutesModel" "runMinute" "I") (by decide +kernel)) dX10_judge_21 ?_
  obtain ⟨r4, μ2, hc3, h⟩ := q_bd_some h
  refine q_ki F S (q_runV (As := [.ref (E.2.2.2 159), .int 0, .int (μ1.1 137 34), .int (μ1.1 137 27)]) (rest := []) (b := 137) ⟨hx, hb, hml, hown, hts⟩ F S (c_X10_endOf l E hE 159 0 (μ1.1 137 34) (μ1.1 137 27) q_k159 μ1 μ2 r4 hc3) (cwV 4 hts gX10_judge_X10_endOf rfl rfl rfl (by decide +kernel) ⟨Nat.le_of_ble_eq_true rfl, Nat.le_of_ble_eq_true rfl⟩) q_k137 (by decide) rfl rfl hl.1 rfl (Nat.le_of_ble_eq_true rfl) dX10_judge_24 ⟨Nat.zero_le _, Nat.zero_le _⟩) (fun H locs S => ?_)
  refine lv_istore_n (lv' := [(1, .int r4), (0, .ref (E.2.2.2 137))]) hx hb dX10_judge_27 rfl hl (by decide) rfl (fun ls hl => ?_)
  refine lv_aload_n hx hb dX10_judge_28 rfl (lv_at hl 1 rfl) ?_
  obtain ⟨r7, μ5, hc6, h⟩ := q_bd_some h
  refine q_ki F S (q_runV (As := []) (rest := []) (b := 137) ⟨hx, hb, hml, hown, hts⟩ F S (c_X10_mayBe l E hE  μ2 μ5 r7 hc6) (cwV 0 hts gX10_judge_X10_mayBe rfl rfl rfl (by decide +kernel) ⟨Nat.le_of_ble_eq_true rfl, Nat.le_of_ble_eq_true rfl⟩) q_k137 (by decide) rfl rfl hl.1 rfl (Nat.le_of_ble_eq_true rfl) dX10_judge_29 ⟨Nat.zero_le _, Nat.zero_le _⟩) (fun H locs S => ?_)
  refine lv_if_eq (tgt := 84) hx hb dX10_judge_32 (by decide) (fun c8 => ?_) (fun c8 => ?_)
  · have h := q_ip c8 h
    exact q_vret hx hb hr S h hlk dX10_judge_84
  · have h := q_ig c8 h
    refine lv_aload_n hx hb dX10_judge_35 rfl (lv_at hl 1 rfl) ?_
    refine lv_iload_n hx hb dX10_judge_36 rfl (lv_at hl 0 rfl) ?_
    obtain ⟨r11, μ9, hc10, h⟩ := q_bd_some h
    refine q_ki F S (q_runV (As := [.int r4]) (rest := []) (b := 137) ⟨hx, hb, hml, hown, hts⟩ F S (c_X10_isBetter l E hE r4 μ5 μ9 r11 hc10) (cwV 1 hts gX10_judge_X10_isBetter rfl rfl rfl (by decide +kernel) ⟨Nat.le_of_ble_eq_true rfl, Nat.le_of_ble_eq_true rfl⟩) q_k137 (by decide) rfl rfl hl.1 rfl (Nat.le_of_ble_eq_true rfl) dX10_judge_37 ⟨Nat.zero_le _, Nat.zero_le _⟩) (fun H locs S => ?_)
    refine lv_if_eq (tgt := 84) hx hb dX10_judge_40 (by decide) (fun c12 => ?_) (fun c12 => ?_)
    · have h := q_ip c12 h
      exact q_vret hx hb hr S h hlk dX10_judge_84
    · have h := q_ig c12 h
      refine lv_aload_n hx hb dX10_judge_43 rfl (lv_at hl 1 rfl) ?_
      refine lv_iload_n hx hb dX10_judge_44 rfl (lv_at hl 0 rfl) ?_
      refine q_puti (own := RX10) (C := RX10) (T := TX10) (N := 54) (ci := 10) (j := 38)  hx hb hts i10 tyX10 tyX10_ok nmX10 hown F S q_k137 (by decide) rfl (by decide) (by decide) rfl (hts (.fieldLink RX10 234 "HeavyRoutesModel" "bestEnd" "I") (by decide +kernel)) rfl (by decide +kernel) dX10_judge_45 (fun H locs μ13 eμ13 S => ?_)
      have h := q_le_e h eμ13
      refine lv_aload_n hx hb dX10_judge_48 rfl (lv_at hl 1 rfl) ?_
      refine lv_aload_n hx hb dX10_judge_49 rfl (lv_at hl 1 rfl) ?_
      refine q_geti (own := RX10) (C := RX10) (T := TX10) (N := 54) (ci := 10) (j := 34)  hx hb hts i10 hown F S q_k137 (by decide) rfl (by decide) (by decide) rfl (hts (.fieldLink RX10 237 "HeavyRoutesModel" "size" "I") (by decide +kernel)) dX10_judge_50 ?_
      refine q_puti (own := RX10) (C := RX10) (T := TX10) (N := 54) (ci := 10) (j := 37)  hx hb hts i10 tyX10 tyX10_ok nmX10 hown F S q_k137 (by decide) rfl (by decide) (by decide) rfl (hts (.fieldLink RX10 231 "HeavyRoutesModel" "bestSize" "I") (by decide +kernel)) rfl (by decide +kernel) dX10_judge_53 (fun H locs μ14 eμ14 S => ?_)
      have h := q_le_e h eμ14
      refine lv_iconst (v := 0) hx hb dX10_judge_56 (by decide) ?_
      refine lv_istore_n (lv' := [(2, .int 0), (1, .int r4), (0, .ref (E.2.2.2 137))]) hx hb dX10_judge_57 rfl hl (by decide) rfl (fun ls hl => ?_)
      refine hL58 _ (fun μ H locs ls S hl h => ?_) q_fu 0 μ14 H locs ls S (lv_sub hl [2, 0] rfl) h
      exact q_vret hx hb hr S h hlk dX10_judge_84
def f_X10_otherEnd (x1 : Int32) (x2 : Int32) (μ : q_M) : Option (Int32 × q_M) := q_gd (q_ix x1 12) ((if (μ.1 138 x1.toNatClampNeg) = x2 then some ((μ.1 139 x1.toNatClampNeg), μ) else (if (μ.1 139 x1.toNatClampNeg) = x2 then some ((μ.1 138 x1.toNatClampNeg), μ) else some ((-2), μ))))
set_option maxHeartbeats 4000000 in
set_option maxRecDepth 100000 in
theorem c_X10_otherEnd (l : Launch) (E : q_E) (hE : q_I E) (x1 : Int32) (x2 : Int32) (μ μr : q_M) (r : Int32) (h : f_X10_otherEnd x1 x2 μ = some (r, μr)) : Met l yX10_otherEnd wsX10_otherEnd ({ frames := 0, cells := 0, slots := 0, locals := 0 }) (q_Pc E μ [.ref (E.2.2.2 137), .int x1, .int x2]) (q_Qi E r μr) 0 0 (q_A E) := by
  refine q_met (cc := cX10_otherEnd) (maxL := 3) (ret := (some .int)) hE (by decide) rfl (Nat.le_of_ble_eq_true rfl) ?_
  intro p e s m below meth c hx hb hr hml hown hts hlk F S ls hl
  have hl : lv_has ls 3 [(0, .ref (E.2.2.2 137)), (1, .int x1), (2, .int x2)] := hl
  have i10 : ∀ w ∈ u_ws RX10 TX10 54, w ∈ wsX10_otherEnd := by decide +kernel
  unfold f_X10_otherEnd at h
  obtain ⟨H, eH⟩ : ∃ z, z = s.heap := ⟨_, rfl⟩
  obtain ⟨locs, eL⟩ : ∃ z : List Loc, z = [] := ⟨_, rfl⟩
  rw [← eH, ← eL] at S
  suffices hh : W p l e ({ frames := 0, cells := 0, slots := 0, locals := 0 }) s m ([.ref (E.2.2.2 137), .int x1, .int x2] : List Value).toArray below meth c H locs 0 0 (MQ below (q_Qi E r μr) ([.ref (E.2.2.2 137), .int x1, .int x2] : List Value).toArray s 0 0 (q_A E)) (F0 m 0 ls []) by rw [eH, eL] at hh; exact hh
  refine lv_aload_n hx hb dX10_otherEnd_0 rfl (lv_at hl 0 rfl) ?_
  refine q_getr (own := RX10) (C := RX10) (T := TX10) (N := 54) (ci := 10) (j := 2)  (b := 138) hx hb hts i10 hown F S q_k137 (by decide) rfl (by decide) (by decide) rfl (by decide) (hts (.fieldLink RX10 7 "HeavyRoutesModel" "as" "[I") (by decide +kernel)) dX10_otherEnd_1 ?_
  refine lv_iload_n hx hb dX10_otherEnd_4 rfl (lv_at hl 1 rfl) ?_
  obtain ⟨g1, h⟩ := q_gd_some h
  refine q_iald hx hb F S q_k138 q_n138 g1 dX10_otherEnd_5 ?_
  refine lv_iload_n hx hb dX10_otherEnd_6 rfl (lv_at hl 2 rfl) ?_
  refine lv_icmp_ne (tgt := 19) hx hb dX10_otherEnd_7 (by decide) (fun c2 => ?_) (fun c2 => ?_)
  · have h := q_ig c2 h
    refine lv_aload_n hx hb dX10_otherEnd_19 rfl (lv_at hl 0 rfl) ?_
    refine q_getr (own := RX10) (C := RX10) (T := TX10) (N := 54) (ci := 10) (j := 3)  (b := 139) hx hb hts i10 hown F S q_k137 (by decide) rfl (by decide) (by decide) rfl (by decide) (hts (.fieldLink RX10 13 "HeavyRoutesModel" "bs" "[I") (by decide +kernel)) dX10_otherEnd_20 ?_
    refine lv_iload_n hx hb dX10_otherEnd_23 rfl (lv_at hl 1 rfl) ?_
    refine q_iald hx hb F S q_k139 q_n139 g1 dX10_otherEnd_24 ?_
    refine lv_iload_n hx hb dX10_otherEnd_25 rfl (lv_at hl 2 rfl) ?_
    refine lv_icmp_ne (tgt := 38) hx hb dX10_otherEnd_26 (by decide) (fun c3 => ?_) (fun c3 => ?_)
    · have h := q_ig c3 h
      refine lv_bipush (v := (-2)) hx hb dX10_otherEnd_38 (by decide) ?_
      exact q_iret hx hb hr S h hlk dX10_otherEnd_40
    · have h := q_ip c3 h
      refine lv_aload_n hx hb dX10_otherEnd_29 rfl (lv_at hl 0 rfl) ?_
      refine q_getr (own := RX10) (C := RX10) (T := TX10) (N := 54) (ci := 10) (j := 2)  (b := 138) hx hb hts i10 hown F S q_k137 (by decide) rfl (by decide) (by decide) rfl (by decide) (hts (.fieldLink RX10 7 "HeavyRoutesModel" "as" "[I") (by decide +kernel)) dX10_otherEnd_30 ?_
      refine lv_iload_n hx hb dX10_otherEnd_33 rfl (lv_at hl 1 rfl) ?_
      refine q_iald hx hb F S q_k138 q_n138 g1 dX10_otherEnd_34 ?_
      refine lv_goto (tgt := 40) hx hb dX10_otherEnd_35 (by decide) ?_
      exact q_iret hx hb hr S h hlk dX10_otherEnd_40
  · have h := q_ip c2 h
    refine lv_aload_n hx hb dX10_otherEnd_10 rfl (lv_at hl 0 rfl) ?_
    refine q_getr (own := RX10) (C := RX10) (T := TX10) (N := 54) (ci := 10) (j := 3)  (b := 139) hx hb hts i10 hown F S q_k137 (by decide) rfl (by decide) (by decide) rfl (by decide) (hts (.fieldLink RX10 13 "HeavyRoutesModel" "bs" "[I") (by decide +kernel)) dX10_otherEnd_11 ?_
    refine lv_iload_n hx hb dX10_otherEnd_14 rfl (lv_at hl 1 rfl) ?_
    refine q_iald hx hb F S q_k139 q_n139 g1 dX10_otherEnd_15 ?_
    refine lv_goto (tgt := 40) hx hb dX10_otherEnd_16 (by decide) ?_
    exact q_iret hx hb hr S h hlk dX10_otherEnd_40
def f_X10_mayGo (x1 : Int32) (x2 : Int32) (μ : q_M) : Option (Int32 × q_M) := q_bd (f_X10_otherEnd x1 x2 μ) (fun r3 μ1 => (if r3 = (-2) then some (0, μ1) else q_gd (q_ix x1 12) ((if (μ1.1 162 x1.toNatClampNeg) = 0 then some (0, μ1) else q_gd (q_ix r3 7) ((if (μ1.1 160 r3.toNatClampNeg) = 0 then (if (μ1.1 137 34) = 0 then some (1, μ1) else q_gd (q_ix ((μ1.1 137 34) - 1) 12) (q_gd (q_ix ((12 * (μ1.1 159 ((μ1.1 137 34) - 1).toNatClampNeg)) + x1) 144) ((if (μ1.1 148 ((12 * (μ1.1 159 ((μ1.1 137 34) - 1).toNatClampNeg)) + x1).toNatClampNeg) = 0 then some (1, μ1) else some (0, μ1))))) else some (0, μ1)))))))
set_option maxHeartbeats 4000000 in
set_option maxRecDepth 100000 in
theorem c_X10_mayGo (l : Launch) (E : q_E) (hE : q_I E) (x1 : Int32) (x2 : Int32) (μ μr : q_M) (r : Int32) (h : f_X10_mayGo x1 x2 μ = some (r, μr)) : Met l yX10_mayGo wsX10_mayGo ({ frames := 1, cells := 0, slots := 0, locals := 22 }) (q_Pc E μ [.ref (E.2.2.2 137), .int x1, .int x2]) (q_Qi E r μr) 0 0 (q_A E) := by
  refine q_met (cc := cX10_mayGo) (maxL := 4) (ret := (some .boolean)) hE (by decide) rfl (Nat.le_of_ble_eq_true rfl) ?_
  intro p e s m below meth c hx hb hr hml hown hts hlk F S ls hl
  have hl : lv_has ls 4 [(0, .ref (E.2.2.2 137)), (1, .int x1), (2, .int x2)] := hl
  have i10 : ∀ w ∈ u_ws RX10 TX10 54, w ∈ wsX10_mayGo := by decide +kernel
  unfold f_X10_mayGo at h
  obtain ⟨H, eH⟩ : ∃ z, z = s.heap := ⟨_, rfl⟩
  obtain ⟨locs, eL⟩ : ∃ z : List Loc, z = [] := ⟨_, rfl⟩
  rw [← eH, ← eL] at S
  suffices hh : W p l e ({ frames := 1, cells := 0, slots := 0, locals := 22 }) s m ([.ref (E.2.2.2 137), .int x1, .int x2] : List Value).toArray below meth c H locs 0 0 (MQ below (q_Qi E r μr) ([.ref (E.2.2.2 137), .int x1, .int x2] : List Value).toArray s 0 0 (q_A E)) (F0 m 0 ls []) by rw [eH, eL] at hh; exact hh
  refine lv_aload_n hx hb dX10_mayGo_0 rfl (lv_at hl 0 rfl) ?_
  refine lv_iload_n hx hb dX10_mayGo_1 rfl (lv_at hl 1 rfl) ?_
  refine lv_iload_n hx hb dX10_mayGo_2 rfl (lv_at hl 2 rfl) ?_
  obtain ⟨r3, μ1, hc2, h⟩ := q_bd_some h
  refine q_ki F S (q_runV (As := [.int x1, .int x2]) (rest := []) (b := 137) ⟨hx, hb, hml, hown, hts⟩ F S (c_X10_otherEnd l E hE x1 x2 μ μ1 r3 hc2) (cwV 2 hts gX10_mayGo_X10_otherEnd rfl rfl rfl (by decide +kernel) ⟨Nat.le_of_ble_eq_true rfl, Nat.le_of_ble_eq_true rfl⟩) q_k137 (by decide) rfl rfl hl.1 rfl (Nat.le_of_ble_eq_true rfl) dX10_mayGo_3 ⟨Nat.zero_le _, Nat.zero_le _⟩) (fun H locs S => ?_)
  refine lv_istore_n (lv' := [(3, .int r3), (0, .ref (E.2.2.2 137)), (1, .int x1), (2, .int x2)]) hx hb dX10_mayGo_6 rfl hl (by decide) rfl (fun ls hl => ?_)
  refine lv_iload_n hx hb dX10_mayGo_7 rfl (lv_at hl 0 rfl) ?_
  refine lv_bipush (v := (-2)) hx hb dX10_mayGo_8 (by decide) ?_
  refine lv_icmp_eq (tgt := 66) hx hb dX10_mayGo_10 (by decide) (fun c4 => ?_) (fun c4 => ?_)
  · have h := q_ip c4 h
    refine lv_iconst (v := 0) hx hb dX10_mayGo_66 (by decide) ?_
    exact q_zret hx hb hr S (by decide) h hlk dX10_mayGo_67
  · have h := q_ig c4 h
    refine lv_aload_n hx hb dX10_mayGo_13 rfl (lv_at hl 1 rfl) ?_
    refine q_getr (own := RX10) (C := RX10) (T := TX10) (N := 54) (ci := 10) (j := 51)  (b := 162) hx hb hts i10 hown F S q_k137 (by decide) rfl (by decide) (by decide) rfl (by decide) (hts (.fieldLink RX10 90 "HeavyRoutesModel" "bears" "[Z") (by decide +kernel)) dX10_mayGo_14 ?_
    refine lv_iload_n hx hb dX10_mayGo_17 rfl (lv_at hl 2 rfl) ?_
    obtain ⟨g5, h⟩ := q_gd_some h
    refine q_zald hx hb F S q_k162 q_n162 g5 dX10_mayGo_18 ?_
    refine lv_if_eq (tgt := 66) hx hb dX10_mayGo_19 (by decide) (fun c6 => ?_) (fun c6 => ?_)
    · have h := q_ip c6 h
      refine lv_iconst (v := 0) hx hb dX10_mayGo_66 (by decide) ?_
      exact q_zret hx hb hr S (by decide) h hlk dX10_mayGo_67
    · have h := q_ig c6 h
      refine lv_aload_n hx hb dX10_mayGo_22 rfl (lv_at hl 1 rfl) ?_
      refine q_getr (own := RX10) (C := RX10) (T := TX10) (N := 54) (ci := 10) (j := 35)  (b := 160) hx hb hts i10 hown F S q_k137 (by decide) rfl (by decide) (by decide) rfl (by decide) (hts (.fieldLink RX10 84 "HeavyRoutesModel" "seen" "[Z") (by decide +kernel)) dX10_mayGo_23 ?_
      refine lv_iload_n hx hb dX10_mayGo_26 rfl (lv_at hl 0 rfl) ?_
      obtain ⟨g7, h⟩ := q_gd_some h
      refine q_zald hx hb F S q_k160 q_n160 g7 dX10_mayGo_27 ?_
      refine lv_if_ne (tgt := 66) hx hb dX10_mayGo_28 (by decide) (fun c8 => ?_) (fun c8 => ?_)
      · have h := q_ig c8 h
        refine lv_iconst (v := 0) hx hb dX10_mayGo_66 (by decide) ?_
        exact q_zret hx hb hr S (by decide) h hlk dX10_mayGo_67
      · have h := q_ip c8 h
        refine lv_aload_n hx hb dX10_mayGo_31 rfl (lv_at hl 1 rfl) ?_
        refine q_geti (own := RX10) (C := RX10) (T := TX10) (N := 54) (ci := 10) (j := 34)  hx hb hts i10 hown F S q_k137 (by decide) rfl (by decide) (by decide) rfl (hts (.fieldLink RX10 237 "HeavyRoutesModel" "size" "I") (by decide +kernel)) dX10_mayGo_32 ?_
        refine lv_if_eq (tgt := 62) hx hb dX10_mayGo_35 (by decide) (fun c9 => ?_) (fun c9 => ?_)
        · have h := q_ip c9 h
          refine lv_iconst (v := 1) hx hb dX10_mayGo_62 (by decide) ?_
          refine lv_goto (tgt := 67) hx hb dX10_mayGo_63 (by decide) ?_
          exact q_zret hx hb hr S (by decide) h hlk dX10_mayGo_67
        · have h := q_ig c9 h
          refine lv_aload_n hx hb dX10_mayGo_38 rfl (lv_at hl 1 rfl) ?_
          refine q_getr (own := RX10) (C := RX10) (T := TX10) (N := 54) (ci := 10) (j := 12)  (b := 148) hx hb hts i10 hown F S q_k137 (by decide) rfl (by decide) (by decide) rfl (by decide) (hts (.fieldLink RX10 41 "HeavyRoutesModel" "noTurn" "[Z") (by decide +kernel)) dX10_mayGo_39 ?_
          refine lv_bipush (v := 12) hx hb dX10_mayGo_42 (by decide) ?_
          refine lv_aload_n hx hb dX10_mayGo_44 rfl (lv_at hl 1 rfl) ?_
          refine q_getr (own := RX10) (C := RX10) (T := TX10) (N := 54) (ci := 10) (j := 33)  (b := 159) hx hb hts i10 hown F S q_k137 (by decide) rfl (by decide) (by decide) rfl (by decide) (hts (.fieldLink RX10 81 "HeavyRoutesModel" "way" "[I") (by decide +kernel)) dX10_mayGo_45 ?_
          refine lv_aload_n hx hb dX10_mayGo_48 rfl (lv_at hl 1 rfl) ?_
          refine q_geti (own := RX10) (C := RX10) (T := TX10) (N := 54) (ci := 10) (j := 34)  hx hb hts i10 hown F S q_k137 (by decide) rfl (by decide) (by decide) rfl (hts (.fieldLink RX10 237 "HeavyRoutesModel" "size" "I") (by decide +kernel)) dX10_mayGo_49 ?_
          refine lv_iconst (v := 1) hx hb dX10_mayGo_52 (by decide) ?_
          refine lv_isub hx hb dX10_mayGo_53 ?_
          obtain ⟨g10, h⟩ := q_gd_some h
          refine q_iald hx hb F S q_k159 q_n159 g10 dX10_mayGo_54 ?_
          refine lv_imul hx hb dX10_mayGo_55 ?_
          refine lv_iload_n hx hb dX10_mayGo_56 rfl (lv_at hl 2 rfl) ?_
          refine lv_iadd hx hb dX10_mayGo_57 ?_
          obtain ⟨g11, h⟩ := q_gd_some h
          refine q_zald hx hb F S q_k148 q_n148 g11 dX10_mayGo_58 ?_
          refine lv_if_ne (tgt := 66) hx hb dX10_mayGo_59 (by decide) (fun c12 => ?_) (fun c12 => ?_)
          · have h := q_ig c12 h
            refine lv_iconst (v := 0) hx hb dX10_mayGo_66 (by decide) ?_
            exact q_zret hx hb hr S (by decide) h hlk dX10_mayGo_67
          · have h := q_ip c12 h
            refine lv_iconst (v := 1) hx hb dX10_mayGo_62 (by decide) ?_
            refine lv_goto (tgt := 67) hx hb dX10_mayGo_63 (by decide) ?_
            exact q_zret hx hb hr S (by decide) h hlk dX10_mayGo_67
