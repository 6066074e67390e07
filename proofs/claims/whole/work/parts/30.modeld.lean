def L_X10_goThrough_60 (Kx : Int32 → Int32 → Int32 → q_M → Option (Unit × q_M)) : Nat → Int32 → Int32 → Int32 → q_M → Option (Unit × q_M)
  | 0, _, _, _, _ => none
  | n + 1, v1, v2, v3, μ => (if (μ.1 137 1) ≤ v3 then Kx v1 v2 v3 μ else q_bd (f_X10_mayGo v3 v2 μ) (fun r12 μ10 => (if r12 = 0 then q_le (v3 + 1 : Int32) (fun y14 => (L_X10_goThrough_60 Kx n) v1 v2 y14 μ10) else Kx v1 v2 v3 μ10)))
def J_X10_goThrough_185 (Kb : Int32 → q_M → Option (Unit × q_M)) (Kx : q_M → Option (Unit × q_M)) (s0 : Int32) (μ : q_M) : Option (Unit × q_M) := (if s0 = 0 then q_le (q_si μ 137 34 ((μ.1 137 34) - 0)) (fun μ20 => Kb s0 μ20) else q_le (q_si μ 137 34 ((μ.1 137 34) - 1)) (fun μ21 => Kb s0 μ21))
def J_X10_goThrough_83 (Kb : Int32 → q_M → Option (Unit × q_M)) (Kx : q_M → Option (Unit × q_M)) (v1 : Int32) (v2 : Int32) (v3 : Int32) (μ : q_M) : Option (Unit × q_M) := (if (μ.1 137 1) ≤ v3 then q_gd (q_ix v2 7) (q_le (q_si μ 160 v2.toNatClampNeg 0) (fun μ17 => (if (μ17.1 137 34) ≤ 0 then J_X10_goThrough_185 Kb Kx 0 μ17 else J_X10_goThrough_185 Kb Kx 1 μ17))) else q_gd (q_ix (μ.1 137 34) 13) (q_le (q_si μ 164 (μ.1 137 34).toNatClampNeg (v3 + 1)) (fun μ23 => q_gd (q_ix (μ23.1 137 34) 12) (q_le (q_si μ23 159 (μ23.1 137 34).toNatClampNeg v3) (fun μ25 => q_le (q_si μ25 137 34 ((μ25.1 137 34) + 1)) (fun μ26 => q_bd (f_X10_otherEnd v3 v2 μ26) (fun r29 μ27 => q_gd (q_ix (μ26.1 137 34) 13) (q_le (q_si μ27 163 (μ26.1 137 34).toNatClampNeg r29) (fun μ31 => q_gd (q_ix (μ31.1 137 34) 13) (q_le (q_si μ31 164 (μ31.1 137 34).toNatClampNeg 0) (fun μ33 => q_gd (q_ix (μ33.1 137 34) 13) (q_gd (q_ix (μ33.1 163 (μ33.1 137 34).toNatClampNeg) 7) (q_le (q_si μ33 160 (μ33.1 163 (μ33.1 137 34).toNatClampNeg).toNatClampNeg 1) (fun μ36 => Kb v1 μ36))))))))))))))
def L_X10_goThrough_19 (Kx : q_M → Option (Unit × q_M)) : Nat → Int32 → q_M → Option (Unit × q_M)
  | 0, _, _ => none
  | n + 1, v1, μ => (if v1 = 0 then Kx μ else q_gd (q_ix (μ.1 137 34) 13) (q_le ((μ.1 163 (μ.1 137 34).toNatClampNeg) : Int32) (fun y6 => q_le ((μ.1 164 (μ.1 137 34).toNatClampNeg) : Int32) (fun y7 => (if y6 = (μ.1 137 26) then q_bd (f_X10_judge  μ) (fun u37 μ37 => q_le ((μ37.1 137 1) : Int32) (fun y39 => L_X10_goThrough_60 (fun v1 v2 v3 μ => J_X10_goThrough_83 (L_X10_goThrough_19 Kx n) Kx v1 v2 v3 μ) q_fu v1 y6 y39 μ37)) else L_X10_goThrough_60 (fun v1 v2 v3 μ => J_X10_goThrough_83 (L_X10_goThrough_19 Kx n) Kx v1 v2 v3 μ) q_fu v1 y6 y7 μ)))))
def f_X10_goThrough (μ : q_M) : Option (Unit × q_M) := q_gd (q_ix (0 : Int32) 13) (q_le (q_si μ 163 (0 : Int32).toNatClampNeg (μ.1 137 25)) (fun μ2 => q_le (q_si μ2 164 (0 : Int32).toNatClampNeg 0) (fun μ3 => L_X10_goThrough_19 (fun μ => some ((), μ)) q_fu 1 μ3)))
set_option maxHeartbeats 4000000 in
set_option maxRecDepth 100000 in
theorem c_X10_goThrough (l : Launch) (E : q_E) (hE : q_I E) (μ μr : q_M) (r : Unit) (h : f_X10_goThrough μ = some (r, μr)) : Met l yX10_goThrough wsX10_goThrough ({ frames := 4, cells := 0, slots := 0, locals := 97 }) (q_Pc E μ [.ref (E.2.2.2 137)]) (q_Qv E r μr) 0 0 (q_A E) := by
  refine q_met (cc := cX10_goThrough) (maxL := 4) (ret := none) hE (by decide) rfl (Nat.le_of_ble_eq_true rfl) ?_
  intro p e s m below meth c hx hb hr hml hown hts hlk F S ls hl
  have hl : lv_has ls 4 [(0, .ref (E.2.2.2 137))] := hl
  have i10 : ∀ w ∈ u_ws RX10 TX10 54, w ∈ wsX10_goThrough := by decide +kernel
  have hL60 : ∀ (Kx : Int32 → Int32 → Int32 → q_M → Option (Unit × q_M)), (∀ (v1 : Int32), ∀ (v2 : Int32), ∀ (v3 : Int32), ∀ (μ : q_M) (H : Heap) (locs : List Loc) (ls : Array Slot), q_S E (q_A E) s μ H locs → lv_has ls 4 [(0, .ref (E.2.2.2 137)), (1, .int v1), (2, .int v2), (3, .int v3)] → Kx v1 v2 v3 μ = some (r, μr) → W p l e ({ frames := 4, cells := 0, slots := 0, locals := 97 }) s m ([.ref (E.2.2.2 137)] : List Value).toArray below meth c H locs 0 0 (MQ below (q_Qv E r μr) ([.ref (E.2.2.2 137)] : List Value).toArray s 0 0 (q_A E)) (F0 m 83 ls [])) → ∀ (n : Nat), ∀ (v1 : Int32), ∀ (v2 : Int32), ∀ (v3 : Int32), ∀ (μ : q_M) (H : Heap) (locs : List Loc) (ls : Array Slot), q_S E (q_A E) s μ H locs → lv_has ls 4 [(0, .ref (E.2.2.2 137)), (1, .int v1), (2, .int v2), (3, .int v3)] → L_X10_goThrough_60 Kx n v1 v2 v3 μ = some (r, μr) → W p l e ({ frames := 4, cells := 0, slots := 0, locals := 97 }) s m ([.ref (E.2.2.2 137)] : List Value).toArray below meth c H locs 0 0 (MQ below (q_Qv E r μr) ([.ref (E.2.2.2 137)] : List Value).toArray s 0 0 (q_A E)) (F0 m 60 ls []) := by
    intro Kx hKx n
    induction n with
    | zero => intro v1 v2 v3 μ H locs ls S hl h; exact absurd h (by simp [L_X10_goThrough_60])
    | succ n ih =>
      intro v1 v2 v3 μ H locs ls S hl h
      rw [L_X10_goThrough_60] at h
      refine lv_iload_n hx hb dX10_goThrough_60 rfl (lv_at hl 3 rfl) ?_
      refine lv_aload_n hx hb dX10_goThrough_61 rfl (lv_at hl 0 rfl) ?_
      refine q_geti (own := RX10) (C := RX10) (T := TX10) (N := 54) (ci := 10) (j := 1)  hx hb hts i10 hown F S q_k137 (by decide) rfl (by decide) (by decide) rfl (hts (.fieldLink RX10 99 "HeavyRoutesModel" "roads" "I") (by decide +kernel)) dX10_goThrough_62 ?_
      refine lv_icmp_ge (tgt := 83) hx hb dX10_goThrough_65 (by decide) (fun c9 => ?_) (fun c9 => ?_)
      · have h := q_ip c9 h
        exact hKx v1 v2 v3 μ H locs ls S (lv_sub hl [0, 1, 2, 3] rfl) h
      · have h := q_ig c9 h
        refine lv_aload_n hx hb dX10_goThrough_68 rfl (lv_at hl 0 rfl) ?_
        refine lv_iload_n hx hb dX10_goThrough_69 rfl (lv_at hl 3 rfl) ?_
        refine lv_iload_n hx hb dX10_goThrough_70 rfl (lv_at hl 2 rfl) ?_
        obtain ⟨r12, μ10, hc11, h⟩ := q_bd_some h
        refine q_ki F S (q_runV (As := [.int v3, .int v2]) (rest := []) (b := 137) ⟨hx, hb, hml, hown, hts⟩ F S (c_X10_mayGo l E hE v3 v2 μ μ10 r12 hc11) (cwV 2 hts gX10_goThrough_X10_mayGo rfl rfl rfl (by decide +kernel) ⟨Nat.le_of_ble_eq_true rfl, Nat.le_of_ble_eq_true rfl⟩) q_k137 (by decide) rfl rfl hl.1 rfl (Nat.le_of_ble_eq_true rfl) dX10_goThrough_71 ⟨Nat.zero_le _, Nat.zero_le _⟩) (fun H locs S => ?_)
        refine lv_if_ne (tgt := 83) hx hb dX10_goThrough_74 (by decide) (fun c13 => ?_) (fun c13 => ?_)
        · have h := q_ig c13 h
          exact hKx v1 v2 v3 μ10 H locs ls S (lv_sub hl [0, 1, 2, 3] rfl) h
        · have h := q_ip c13 h
          obtain ⟨y14, ey14⟩ : ∃ z : Int32, z = v3 + 1 := ⟨_, rfl⟩
          have h := q_le_e h ey14
          refine lv_iinc (v := y14) (lv' := [(3, .int y14), (0, .ref (E.2.2.2 137)), (1, .int v1), (2, .int v2)]) hx hb dX10_goThrough_77 hl (k := 3) rfl (by rw [ey14]; rfl) (by decide) rfl (fun ls hl => ?_)
          refine lv_goto (tgt := 60) hx hb dX10_goThrough_80 (by decide) ?_
          exact ih v1 v2 y14 μ10 H locs ls S (lv_sub hl [1, 2, 3, 0] rfl) h
  have hJ185 : ∀ (Kb : Int32 → q_M → Option (Unit × q_M)), (∀ (v1 : Int32), ∀ (μ : q_M) (H : Heap) (locs : List Loc) (ls : Array Slot), q_S E (q_A E) s μ H locs → lv_has ls 4 [(0, .ref (E.2.2.2 137)), (1, .int v1)] → Kb v1 μ = some (r, μr) → W p l e ({ frames := 4, cells := 0, slots := 0, locals := 97 }) s m ([.ref (E.2.2.2 137)] : List Value).toArray below meth c H locs 0 0 (MQ below (q_Qv E r μr) ([.ref (E.2.2.2 137)] : List Value).toArray s 0 0 (q_A E)) (F0 m 19 ls [])) → ∀ (Kx : q_M → Option (Unit × q_M)), (∀ (μ : q_M) (H : Heap) (locs : List Loc) (ls : Array Slot), q_S E (q_A E) s μ H locs → lv_has ls 4 [] → Kx μ = some (r, μr) → W p l e ({ frames := 4, cells := 0, slots := 0, locals := 97 }) s m ([.ref (E.2.2.2 137)] : List Value).toArray below meth c H locs 0 0 (MQ below (q_Qv E r μr) ([.ref (E.2.2.2 137)] : List Value).toArray s 0 0 (q_A E)) (F0 m 207 ls [])) → ∀ (s0 : Int32), ∀ (μ : q_M) (H : Heap) (locs : List Loc) (ls : Array Slot), q_S E (q_A E) s μ H locs → lv_has ls 4 [(0, .ref (E.2.2.2 137))] → J_X10_goThrough_185 Kb Kx s0 μ = some (r, μr) → W p l e ({ frames := 4, cells := 0, slots := 0, locals := 97 }) s m ([.ref (E.2.2.2 137)] : List Value).toArray below meth c H locs 0 0 (MQ below (q_Qv E r μr) ([.ref (E.2.2.2 137)] : List Value).toArray s 0 0 (q_A E)) (F0 m 185 ls [.int s0]) := by
    intro Kb hKb Kx hKx s0 μ H locs ls S hl h
    rw [J_X10_goThrough_185] at h
    refine lv_istore_n (lv' := [(1, .int s0), (0, .ref (E.2.2.2 137))]) hx hb dX10_goThrough_185 rfl hl (by decide) rfl (fun ls hl => ?_)
    refine lv_aload_n hx hb dX10_goThrough_186 rfl (lv_at hl 1 rfl) ?_
    refine lv_dup hx hb dX10_goThrough_187 rfl ?_
    refine q_geti (own := RX10) (C := RX10) (T := TX10) (N := 54) (ci := 10) (j := 34)  hx hb hts i10 hown F S q_k137 (by decide) rfl (by decide) (by decide) rfl (hts (.fieldLink RX10 237 "HeavyRoutesModel" "size" "I") (by decide +kernel)) dX10_goThrough_188 ?_
    refine lv_iload_n hx hb dX10_goThrough_191 rfl (lv_at hl 0 rfl) ?_
    refine lv_if_eq (tgt := 199) hx hb dX10_goThrough_192 (by decide) (fun c19 => ?_) (fun c19 => ?_)
    · have h := q_ip c19 h
      refine lv_iconst (v := 0) hx hb dX10_goThrough_199 (by decide) ?_
      refine lv_isub hx hb dX10_goThrough_200 ?_
      refine q_puti (own := RX10) (C := RX10) (T := TX10) (N := 54) (ci := 10) (j := 34)  hx hb hts i10 tyX10 tyX10_ok nmX10 hown F S q_k137 (by decide) rfl (by decide) (by decide) rfl (hts (.fieldLink RX10 237 "HeavyRoutesModel" "size" "I") (by decide +kernel)) rfl (by decide +kernel) dX10_goThrough_201 (fun H locs μ20 eμ20 S => ?_)
      have h := q_le_e h eμ20
      refine lv_goto (tgt := 19) hx hb dX10_goThrough_204 (by decide) ?_
      exact hKb s0 μ20 H locs ls S (lv_sub hl [1, 0] rfl) h
    · have h := q_ig c19 h
      refine lv_iconst (v := 1) hx hb dX10_goThrough_195 (by decide) ?_
      refine lv_goto (tgt := 200) hx hb dX10_goThrough_196 (by decide) ?_
      refine lv_isub hx hb dX10_goThrough_200 ?_
      refine q_puti (own := RX10) (C := RX10) (T := TX10) (N := 54) (ci := 10) (j := 34)  hx hb hts i10 tyX10 tyX10_ok nmX10 hown F S q_k137 (by decide) rfl (by decide) (by decide) rfl (hts (.fieldLink RX10 237 "HeavyRoutesModel" "size" "I") (by decide +kernel)) rfl (by decide +kernel) dX10_goThrough_201 (fun H locs μ21 eμ21 S => ?_)
      have h := q_le_e h eμ21
      refine lv_goto (tgt := 19) hx hb dX10_goThrough_204 (by decide) ?_
      exact hKb s0 μ21 H locs ls S (lv_sub hl [1, 0] rfl) h
  have hJ83 : ∀ (Kb : Int32 → q_M → Option (Unit × q_M)), (∀ (v1 : Int32), ∀ (μ : q_M) (H : Heap) (locs : List Loc) (ls : Array Slot), q_S E (q_A E) s μ H locs → lv_has ls 4 [(0, .ref (E.2.2.2 137)), (1, .int v1)] → Kb v1 μ = some (r, μr) → W p l e ({ frames := 4, cells := 0, slots := 0, locals := 97 }) s m ([.ref (E.2.2.2 137)] : List Value).toArray below meth c H locs 0 0 (MQ below (q_Qv E r μr) ([.ref (E.2.2.2 137)] : List Value).toArray s 0 0 (q_A E)) (F0 m 19 ls [])) → ∀ (Kx : q_M → Option (Unit × q_M)), (∀ (μ : q_M) (H : Heap) (locs : List Loc) (ls : Array Slot), q_S E (q_A E) s μ H locs → lv_has ls 4 [] → Kx μ = some (r, μr) → W p l e ({ frames := 4, cells := 0, slots := 0, locals := 97 }) s m ([.ref (E.2.2.2 137)] : List Value).toArray below meth c H locs 0 0 (MQ below (q_Qv E r μr) ([.ref (E.2.2.2 137)] : List Value).toArray s 0 0 (q_A E)) (F0 m 207 ls [])) → ∀ (v1 : Int32), ∀ (v2 : Int32), ∀ (v3 : Int32), ∀ (μ : q_M) (H : Heap) (locs : List Loc) (ls : Array Slot), q_S E (q_A E) s μ H locs → lv_has ls 4 [(0, .ref (E.2.2.2 137)), (1, .int v1), (2, .int v2), (3, .int v3)] → J_X10_goThrough_83 Kb Kx v1 v2 v3 μ = some (r, μr) → W p l e ({ frames := 4, cells := 0, slots := 0, locals := 97 }) s m ([.ref (E.2.2.2 137)] : List Value).toArray below meth c H locs 0 0 (MQ below (q_Qv E r μr) ([.ref (E.2.2.2 137)] : List Value).toArray s 0 0 (q_A E)) (F0 m 83 ls []) := by
    intro Kb hKb Kx hKx v1 v2 v3 μ H locs ls S hl h
    rw [J_X10_goThrough_83] at h
    refine lv_iload_n hx hb dX10_goThrough_83 rfl (lv_at hl 3 rfl) ?_
    refine lv_aload_n hx hb dX10_goThrough_84 rfl (lv_at hl 0 rfl) ?_
    refine q_geti (own := RX10) (C := RX10) (T := TX10) (N := 54) (ci := 10) (j := 1)  hx hb hts i10 hown F S q_k137 (by decide) rfl (by decide) (by decide) rfl (hts (.fieldLink RX10 99 "HeavyRoutesModel" "roads" "I") (by decide +kernel)) dX10_goThrough_85 ?_
    refine lv_icmp_ge (tgt := 166) hx hb dX10_goThrough_88 (by decide) (fun c15 => ?_) (fun c15 => ?_)
    · have h := q_ip c15 h
      refine lv_aload_n hx hb dX10_goThrough_166 rfl (lv_at hl 0 rfl) ?_
      refine q_getr (own := RX10) (C := RX10) (T := TX10) (N := 54) (ci := 10) (j := 35)  (b := 160) hx hb hts i10 hown F S q_k137 (by decide) rfl (by decide) (by decide) rfl (by decide) (hts (.fieldLink RX10 84 "HeavyRoutesModel" "seen" "[Z") (by decide +kernel)) dX10_goThrough_167 ?_
      refine lv_iload_n hx hb dX10_goThrough_170 rfl (lv_at hl 2 rfl) ?_
      refine lv_iconst (v := 0) hx hb dX10_goThrough_171 (by decide) ?_
      obtain ⟨g16, h⟩ := q_gd_some h
      refine q_zast hx hb F S q_k160 q_n160 g16 (by decide) dX10_goThrough_172 (fun H locs μ17 eμ17 S => ?_)
      have h := q_le_e h eμ17
      refine lv_aload_n hx hb dX10_goThrough_173 rfl (lv_at hl 0 rfl) ?_
      refine q_geti (own := RX10) (C := RX10) (T := TX10) (N := 54) (ci := 10) (j := 34)  hx hb hts i10 hown F S q_k137 (by decide) rfl (by decide) (by decide) rfl (hts (.fieldLink RX10 237 "HeavyRoutesModel" "size" "I") (by decide +kernel)) dX10_goThrough_174 ?_
      refine lv_if_le (tgt := 184) hx hb dX10_goThrough_177 (by decide) (fun c18 => ?_) (fun c18 => ?_)
      · have h := q_ip c18 h
        refine lv_iconst (v := 0) hx hb dX10_goThrough_184 (by decide) ?_
        exact hJ185 _ hKb _ hKx 0 μ17 H locs ls S (lv_sub hl [0] rfl) h
      · have h := q_ig c18 h
        refine lv_iconst (v := 1) hx hb dX10_goThrough_180 (by decide) ?_
        refine lv_goto (tgt := 185) hx hb dX10_goThrough_181 (by decide) ?_
        exact hJ185 _ hKb _ hKx 1 μ17 H locs ls S (lv_sub hl [0] rfl) h
    · have h := q_ig c15 h
      refine lv_aload_n hx hb dX10_goThrough_91 rfl (lv_at hl 0 rfl) ?_
      refine q_getr (own := RX10) (C := RX10) (T := TX10) (N := 54) (ci := 10) (j := 53)  (b := 164) hx hb hts i10 hown F S q_k137 (by decide) rfl (by decide) (by decide) rfl (by decide) (hts (.fieldLink RX10 96 "HeavyRoutesModel" "tried" "[I") (by decide +kernel)) dX10_goThrough_92 ?_
      refine lv_aload_n hx hb dX10_goThrough_95 rfl (lv_at hl 0 rfl) ?_
      refine q_geti (own := RX10) (C := RX10) (T := TX10) (N := 54) (ci := 10) (j := 34)  hx hb hts i10 hown F S q_k137 (by decide) rfl (by decide) (by decide) rfl (hts (.fieldLink RX10 237 "HeavyRoutesModel" "size" "I") (by decide +kernel)) dX10_goThrough_96 ?_
      refine lv_iload_n hx hb dX10_goThrough_99 rfl (lv_at hl 3 rfl) ?_
      refine lv_iconst (v := 1) hx hb dX10_goThrough_100 (by decide) ?_
      refine lv_iadd hx hb dX10_goThrough_101 ?_
      obtain ⟨g22, h⟩ := q_gd_some h
      refine q_iast hx hb F S q_k164 q_n164 g22 dX10_goThrough_102 (fun H locs μ23 eμ23 S => ?_)
      have h := q_le_e h eμ23
      refine lv_aload_n hx hb dX10_goThrough_103 rfl (lv_at hl 0 rfl) ?_
      refine q_getr (own := RX10) (C := RX10) (T := TX10) (N := 54) (ci := 10) (j := 33)  (b := 159) hx hb hts i10 hown F S q_k137 (by decide) rfl (by decide) (by decide) rfl (by decide) (hts (.fieldLink RX10 81 "HeavyRoutesModel" "way" "[I") (by decide +kernel)) dX10_goThrough_104 ?_
      refine lv_aload_n hx hb dX10_goThrough_107 rfl (lv_at hl 0 rfl) ?_
      refine q_geti (own := RX10) (C := RX10) (T := TX10) (N := 54) (ci := 10) (j := 34)  hx hb hts i10 hown F S q_k137 (by decide) rfl (by decide) (by decide) rfl (hts (.fieldLink RX10 237 "HeavyRoutesModel" "size" "I") (by decide +kernel)) dX10_goThrough_108 ?_
      refine lv_iload_n hx hb dX10_goThrough_111 rfl (lv_at hl 3 rfl) ?_
      obtain ⟨g24, h⟩ := q_gd_some h
      refine q_iast hx hb F S q_k159 q_n159 g24 dX10_goThrough_112 (fun H locs μ25 eμ25 S => ?_)
      have h := q_le_e h eμ25
      refine lv_aload_n hx hb dX10_goThrough_113 rfl (lv_at hl 0 rfl) ?_
      refine lv_dup hx hb dX10_goThrough_114 rfl ?_
      refine q_geti (own := RX10) (C := RX10) (T := TX10) (N := 54) (ci := 10) (j := 34)  hx hb hts i10 hown F S q_k137 (by decide) rfl (by decide) (by decide) rfl (hts (.fieldLink RX10 237 "HeavyRoutesModel" "size" "I") (by decide +kernel)) dX10_goThrough_115 ?_
      refine lv_iconst (v := 1) hx hb dX10_goThrough_118 (by decide) ?_
      refine lv_iadd hx hb dX10_goThrough_119 ?_
      refine q_puti (own := RX10) (C := RX10) (T := TX10) (N := 54) (ci := 10) (j := 34)  hx hb hts i10 tyX10 tyX10_ok nmX10 hown F S q_k137 (by decide) rfl (by decide) (by decide) rfl (hts (.fieldLink RX10 237 "HeavyRoutesModel" "size" "I") (by decide +kernel)) rfl (by decide +kernel) dX10_goThrough_120 (fun H locs μ26 eμ26 S => ?_)
      have h := q_le_e h eμ26
      refine lv_aload_n hx hb dX10_goThrough_123 rfl (lv_at hl 0 rfl) ?_
      refine q_getr (own := RX10) (C := RX10) (T := TX10) (N := 54) (ci := 10) (j := 52)  (b := 163) hx hb hts i10 hown F S q_k137 (by decide) rfl (by decide) (by decide) rfl (by decide) (hts (.fieldLink RX10 93 "HeavyRoutesModel" "ats" "[I") (by decide +kernel)) dX10_goThrough_124 ?_
      refine lv_aload_n hx hb dX10_goThrough_127 rfl (lv_at hl 0 rfl) ?_
      refine q_geti (own := RX10) (C := RX10) (T := TX10) (N := 54) (ci := 10) (j := 34)  hx hb hts i10 hown F S q_k137 (by decide) rfl (by decide) (by decide) rfl (hts (.fieldLink RX10 237 "HeavyRoutesModel" "size" "I") (by decide +kernel)) dX10_goThrough_128 ?_
      refine lv_aload_n hx hb dX10_goThrough_131 rfl (lv_at hl 0 rfl) ?_
      refine lv_iload_n hx hb dX10_goThrough_132 rfl (lv_at hl 3 rfl) ?_
      refine lv_iload_n hx hb dX10_goThrough_133 rfl (lv_at hl 2 rfl) ?_
      obtain ⟨r29, μ27, hc28, h⟩ := q_bd_some h
      refine q_ki F S (q_runV (As := [.int v3, .int v2]) (rest := [.int (μ26.1 137 34), .ref (E.2.2.2 163)]) (b := 137) ⟨hx, hb, hml, hown, hts⟩ F S (c_X10_otherEnd l E hE v3 v2 μ26 μ27 r29 hc28) (cwV 2 hts gX10_goThrough_X10_otherEnd rfl rfl rfl (by decide +kernel) ⟨Nat.le_of_ble_eq_true rfl, Nat.le_of_ble_eq_true rfl⟩) q_k137 (by decide) rfl rfl hl.1 rfl (Nat.le_of_ble_eq_true rfl) dX10_goThrough_134 ⟨Nat.zero_le _, Nat.zero_le _⟩) (fun H locs S => ?_)
      obtain ⟨g30, h⟩ := q_gd_some h
      refine q_iast hx hb F S q_k163 q_n163 g30 dX10_goThrough_137 (fun H locs μ31 eμ31 S => ?_)
      have h := q_le_e h eμ31
      refine lv_aload_n hx hb dX10_goThrough_138 rfl (lv_at hl 0 rfl) ?_
      refine q_getr (own := RX10) (C := RX10) (T := TX10) (N := 54) (ci := 10) (j := 53)  (b := 164) hx hb hts i10 hown F S q_k137 (by decide) rfl (by decide) (by decide) rfl (by decide) (hts (.fieldLink RX10 96 "HeavyRoutesModel" "tried" "[I") (by decide +kernel)) dX10_goThrough_139 ?_
      refine lv_aload_n hx hb dX10_goThrough_142 rfl (lv_at hl 0 rfl) ?_
      refine q_geti (own := RX10) (C := RX10) (T := TX10) (N := 54) (ci := 10) (j := 34)  hx hb hts i10 hown F S q_k137 (by decide) rfl (by decide) (by decide) rfl (hts (.fieldLink RX10 237 "HeavyRoutesModel" "size" "I") (by decide +kernel)) dX10_goThrough_143 ?_
      refine lv_iconst (v := 0) hx hb dX10_goThrough_146 (by decide) ?_
      obtain ⟨g32, h⟩ := q_gd_some h
      refine q_iast hx hb F S q_k164 q_n164 g32 dX10_goThrough_147 (fun H locs μ33 eμ33 S => ?_)
      have h := q_le_e h eμ33
      refine lv_aload_n hx hb dX10_goThrough_148 rfl (lv_at hl 0 rfl) ?_
      refine q_getr (own := RX10) (C := RX10) (T := TX10) (N := 54) (ci := 10) (j := 35)  (b := 160) hx hb hts i10 hown F S q_k137 (by decide) rfl (by decide) (by decide) rfl (by decide) (hts (.fieldLink RX10 84 "HeavyRoutesModel" "seen" "[Z") (by decide +kernel)) dX10_goThrough_149 ?_
      refine lv_aload_n hx hb dX10_goThrough_152 rfl (lv_at hl 0 rfl) ?_
      refine q_getr (own := RX10) (C := RX10) (T := TX10) (N := 54) (ci := 10) (j := 52)  (b := 163) hx hb hts i10 hown F S q_k137 (by decide) rfl (by decide) (by decide) rfl (by decide) (hts (.fieldLink RX10 93 "HeavyRoutesModel" "ats" "[I") (by decide +kernel)) dX10_goThrough_153 ?_
      refine lv_aload_n hx hb dX10_goThrough_156 rfl (lv_at hl 0 rfl) ?_
      refine q_geti (own := RX10) (C := RX10) (T := TX10) (N := 54) (ci := 10) (j := 34)  hx hb hts i10 hown F S q_k137 (by decide) rfl (by decide) (by decide) rfl (hts (.fieldLink RX10 237 "HeavyRoutesModel" "size" "I") (by decide +kernel)) dX10_goThrough_157 ?_
      obtain ⟨g34, h⟩ := q_gd_some h
      refine q_iald hx hb F S q_k163 q_n163 g34 dX10_goThrough_160 ?_
      refine lv_iconst (v := 1) hx hb dX10_goThrough_161 (by decide) ?_
      obtain ⟨g35, h⟩ := q_gd_some h
      refine q_zast hx hb F S q_k160 q_n160 g35 (by decide) dX10_goThrough_162 (fun H locs μ36 eμ36 S => ?_)
      have h := q_le_e h eμ36
      refine lv_goto (tgt := 204) hx hb dX10_goThrough_163 (by decide) ?_
      refine lv_goto (tgt := 19) hx hb dX10_goThrough_204 (by decide) ?_
      exact hKb v1 μ36 H locs ls S (lv_sub hl [0, 1] rfl) h
  have hL19 : ∀ (Kx : q_M → Option (Unit × q_M)), (∀ (μ : q_M) (H : Heap) (locs : List Loc) (ls : Array Slot), q_S E (q_A E) s μ H locs → lv_has ls 4 [] → Kx μ = some (r, μr) → W p l e ({ frames := 4, cells := 0, slots := 0, locals := 97 }) s m ([.ref (E.2.2.2 137)] : List Value).toArray below meth c H locs 0 0 (MQ below (q_Qv E r μr) ([.ref (E.2.2.2 137)] : List Value).toArray s 0 0 (q_A E)) (F0 m 207 ls [])) → ∀ (n : Nat), ∀ (v1 : Int32), ∀ (μ : q_M) (H : Heap) (locs : List Loc) (ls : Array Slot), q_S E (q_A E) s μ H locs → lv_has ls 4 [(0, .ref (E.2.2.2 137)), (1, .int v1)] → L_X10_goThrough_19 Kx n v1 μ = some (r, μr) → W p l e ({ frames := 4, cells := 0, slots := 0, locals := 97 }) s m ([.ref (E.2.2.2 137)] : List Value).toArray below meth c H locs 0 0 (MQ below (q_Qv E r μr) ([.ref (E.2.2.2 137)] : List Value).toArray s 0 0 (q_A E)) (F0 m 19 ls []) := by
    intro Kx hKx n
    induction n with
    | zero => intro v1 μ H locs ls S hl h; exact absurd h (by simp [L_X10_goThrough_19])
    | succ n ih =>
      intro v1 μ H locs ls S hl h
      rw [L_X10_goThrough_19] at h
      refine lv_iload_n hx hb dX10_goThrough_19 rfl (lv_at hl 1 rfl) ?_
      refine lv_if_eq (tgt := 207) hx hb dX10_goThrough_20 (by decide) (fun c4 => ?_) (fun c4 => ?_)
      · have h := q_ip c4 h
        exact hKx μ H locs ls S (lv_sub hl [] rfl) h
      · have h := q_ig c4 h
        refine lv_aload_n hx hb dX10_goThrough_23 rfl (lv_at hl 0 rfl) ?_
        refine q_getr (own := RX10) (C := RX10) (T := TX10) (N := 54) (ci := 10) (j := 52)  (b := 163) hx hb hts i10 hown F S q_k137 (by decide) rfl (by decide) (by decide) rfl (by decide) (hts (.fieldLink RX10 93 "HeavyRoutesModel" "ats" "[I") (by decide +kernel)) dX10_goThrough_24 ?_
        refine lv_aload_n hx hb dX10_goThrough_27 rfl (lv_at hl 0 rfl) ?_
        refine q_geti (own := RX10) (C := RX10) (T := TX10) (N := 54) (ci := 10) (j := 34)  hx hb hts i10 hown F S q_k137 (by decide) rfl (by decide) (by decide) rfl (hts (.fieldLink RX10 237 "HeavyRoutesModel" "size" "I") (by decide +kernel)) dX10_goThrough_28 ?_
        obtain ⟨g5, h⟩ := q_gd_some h
        refine q_iald hx hb F S q_k163 q_n163 g5 dX10_goThrough_31 ?_
        refine lv_topi (fun y6 ey6 => ?_)
        have h := q_le_e h ey6
        refine lv_istore_n (lv' := [(2, .int y6), (0, .ref (E.2.2.2 137)), (1, .int v1)]) hx hb dX10_goThrough_32 rfl hl (by decide) rfl (fun ls hl => ?_)
        refine lv_aload_n hx hb dX10_goThrough_33 rfl (lv_at hl 1 rfl) ?_
        refine q_getr (own := RX10) (C := RX10) (T := TX10) (N := 54) (ci := 10) (j := 53)  (b := 164) hx hb hts i10 hown F S q_k137 (by decide) rfl (by decide) (by decide) rfl (by decide) (hts (.fieldLink RX10 96 "HeavyRoutesModel" "tried" "[I") (by decide +kernel)) dX10_goThrough_34 ?_
        refine lv_aload_n hx hb dX10_goThrough_37 rfl (lv_at hl 1 rfl) ?_
        refine q_geti (own := RX10) (C := RX10) (T := TX10) (N := 54) (ci := 10) (j := 34)  hx hb hts i10 hown F S q_k137 (by decide) rfl (by decide) (by decide) rfl (hts (.fieldLink RX10 237 "HeavyRoutesModel" "size" "I") (by decide +kernel)) dX10_goThrough_38 ?_
        refine q_iald hx hb F S q_k164 q_n164 g5 dX10_goThrough_41 ?_
        refine lv_topi (fun y7 ey7 => ?_)
        have h := q_le_e h ey7
        refine lv_istore_n (lv' := [(3, .int y7), (2, .int y6), (0, .ref (E.2.2.2 137)), (1, .int v1)]) hx hb dX10_goThrough_42 rfl hl (by decide) rfl (fun ls hl => ?_)
        refine lv_iload_n hx hb dX10_goThrough_43 rfl (lv_at hl 1 rfl) ?_
        refine lv_aload_n hx hb dX10_goThrough_44 rfl (lv_at hl 2 rfl) ?_
        refine q_geti (own := RX10) (C := RX10) (T := TX10) (N := 54) (ci := 10) (j := 26)  hx hb hts i10 hown F S q_k137 (by decide) rfl (by decide) (by decide) rfl (hts (.fieldLink RX10 270 "HeavyRoutesModel" "runTo" "I") (by decide +kernel)) dX10_goThrough_45 ?_
        refine lv_icmp_ne (tgt := 60) hx hb dX10_goThrough_48 (by decide) (fun c8 => ?_) (fun c8 => ?_)
        · have h := q_ig c8 h
          refine hL60 _ (fun v1 v2 v3 μ H locs ls S hl h => ?_) q_fu v1 y6 y7 μ H locs ls S (lv_sub hl [2, 3, 1, 0] rfl) h
          exact hJ83 _ ih _ hKx v1 v2 v3 μ H locs ls S (lv_sub hl [0, 1, 2, 3] rfl) h
        · have h := q_ip c8 h
          refine lv_aload_n hx hb dX10_goThrough_51 rfl (lv_at hl 2 rfl) ?_
          obtain ⟨u37, μ37, hc38, h⟩ := q_bd_some h
          refine q_kv F S (q_runV (As := []) (rest := []) (b := 137) ⟨hx, hb, hml, hown, hts⟩ F S (c_X10_judge l E hE  μ μ37 u37 hc38) (cwV 0 hts gX10_goThrough_X10_judge rfl rfl rfl (by decide +kernel) ⟨Nat.le_of_ble_eq_true rfl, Nat.le_of_ble_eq_true rfl⟩) q_k137 (by decide) rfl rfl hl.1 rfl (Nat.le_of_ble_eq_true rfl) dX10_goThrough_52 ⟨Nat.zero_le _, Nat.zero_le _⟩) (fun H locs S => ?_)
          refine lv_aload_n hx hb dX10_goThrough_55 rfl (lv_at hl 2 rfl) ?_
          refine q_geti (own := RX10) (C := RX10) (T := TX10) (N := 54) (ci := 10) (j := 1)  hx hb hts i10 hown F S q_k137 (by decide) rfl (by decide) (by decide) rfl (hts (.fieldLink RX10 99 "HeavyRoutesModel" "roads" "I") (by decide +kernel)) dX10_goThrough_56 ?_
          refine lv_topi (fun y39 ey39 => ?_)
          have h := q_le_e h ey39
          refine lv_istore_n (lv' := [(3, .int y39), (2, .int y6), (0, .ref (E.2.2.2 137)), (1, .int v1)]) hx hb dX10_goThrough_59 rfl hl (by decide) rfl (fun ls hl => ?_)
          refine hL60 _ (fun v1 v2 v3 μ H locs ls S hl h => ?_) q_fu v1 y6 y39 μ37 H locs ls S (lv_sub hl [2, 3, 1, 0] rfl) h
          exact hJ83 _ ih _ hKx v1 v2 v3 μ H locs ls S (lv_sub hl [0, 1, 2, 3] rfl) h
  unfold f_X10_goThrough at h
  obtain ⟨H, eH⟩ : ∃ z, z = s.heap := ⟨_, rfl⟩
  obtain ⟨locs, eL⟩ : ∃ z : List Loc, z = [] := ⟨_, rfl⟩
  rw [← eH, ← eL] at S
  suffices hh : W p l e ({ frames := 4, cells := 0, slots := 0, locals := 97 }) s m ([.ref (E.2.2.2 137)] : List Value).toArray below meth c H locs 0 0 (MQ below (q_Qv E r μr) ([.ref (E.2.2.2 137)] : List Value).toArray s 0 0 (q_A E)) (F0 m 0 ls []) by rw [eH, eL] at hh; exact hh
  refine lv_aload_n hx hb dX10_goThrough_0 rfl (lv_at hl 0 rfl) ?_
  refine q_getr (own := RX10) (C := RX10) (T := TX10) (N := 54) (ci := 10) (j := 52)  (b := 163) hx hb hts i10 hown F S q_k137 (by decide) rfl (by decide) (by decide) rfl (by decide) (hts (.fieldLink RX10 93 "HeavyRoutesModel" "ats" "[I") (by decide +kernel)) dX10_goThrough_1 ?_
  refine lv_iconst (v := 0) hx hb dX10_goThrough_4 (by decide) ?_
  refine lv_aload_n hx hb dX10_goThrough_5 rfl (lv_at hl 0 rfl) ?_
  refine q_geti (own := RX10) (C := RX10) (T := TX10) (N := 54) (ci := 10) (j := 25)  hx hb hts i10 hown F S q_k137 (by decide) rfl (by decide) (by decide) rfl (hts (.fieldLink RX10 267 "HeavyRoutesModel" "runFrom" "I") (by decide +kernel)) dX10_goThrough_6 ?_
  obtain ⟨g1, h⟩ := q_gd_some h
  refine q_iast hx hb F S q_k163 q_n163 g1 dX10_goThrough_9 (fun H locs μ2 eμ2 S => ?_)
  have h := q_le_e h eμ2
  refine lv_aload_n hx hb dX10_goThrough_10 rfl (lv_at hl 0 rfl) ?_
  refine q_getr (own := RX10) (C := RX10) (T := TX10) (N := 54) (ci := 10) (j := 53)  (b := 164) hx hb hts i10 hown F S q_k137 (by decide) rfl (by decide) (by decide) rfl (by decide) (hts (.fieldLink RX10 96 "HeavyRoutesModel" "tried" "[I") (by decide +kernel)) dX10_goThrough_11 ?_
  refine lv_iconst (v := 0) hx hb dX10_goThrough_14 (by decide) ?_
  refine lv_iconst (v := 0) hx hb dX10_goThrough_15 (by decide) ?_
  refine q_iast hx hb F S q_k164 q_n164 g1 dX10_goThrough_16 (fun H locs μ3 eμ3 S => ?_)
  have h := q_le_e h eμ3
  refine lv_iconst (v := 1) hx hb dX10_goThrough_17 (by decide) ?_
  refine lv_istore_n (lv' := [(1, .int 1), (0, .ref (E.2.2.2 137))]) hx hb dX10_goThrough_18 rfl hl (by decide) rfl (fun ls hl => ?_)
  refine hL19 _ (fun μ H locs ls S hl h => ?_) q_fu 1 μ3 H locs ls S (lv_sub hl [1, 0] rfl) h
  exact q_vret hx hb hr S h hlk dX10_goThrough_207
def L_X10_search_26 (x1 : Int32) (Kx : q_M → Option (Unit × q_M)) : Nat → Int32 → q_M → Option (Unit × q_M)
  | 0, _, _ => none
  | n + 1, v2, μ => (if 7 ≤ v2 then Kx μ else (if v2 = (μ.1 137 25) then q_gd (q_ix v2 7) (q_le (q_si μ 160 v2.toNatClampNeg 1) (fun μ13 => q_le (v2 + 1 : Int32) (fun y14 => (L_X10_search_26 x1 Kx n) y14 μ13))) else q_gd (q_ix v2 7) (q_le (q_si μ 160 v2.toNatClampNeg 0) (fun μ10 => q_le (v2 + 1 : Int32) (fun y11 => (L_X10_search_26 x1 Kx n) y11 μ10)))))
def f_X10_search (x1 : Int32) (μ : q_M) : Option (Unit × q_M) := q_bd (f_X10_findBearing  μ) (fun u1 μ1 => q_le (q_si μ1 137 39 x1) (fun μ3 => q_le (q_si μ3 137 37 0) (fun μ4 => q_le (q_si μ4 137 34 0) (fun μ5 => q_le (q_si μ5 137 40 0) (fun μ6 => L_X10_search_26 x1 (fun μ => q_bd (f_X10_goThrough  μ) (fun u15 μ15 => some ((), μ15))) q_fu 0 μ6)))))
set_option maxHeartbeats 4000000 in
set_option maxRecDepth 100000 in
theorem c_X10_search (l : Launch) (E : q_E) (hE : q_I E) (x1 : Int32) (μ μr : q_M) (r : Unit) (h : f_X10_search x1 μ = some (r, μr)) : Met l yX10_search wsX10_search ({ frames := 7, cells := 0, slots := 0, locals := 178 }) (q_Pc E μ [.ref (E.2.2.2 137), .int x1]) (q_Qv E r μr) 0 0 (q_A E) := by
  refine q_met (cc := cX10_search) (maxL := 3) (ret := none) hE (by decide) rfl (Nat.le_of_ble_eq_true rfl) ?_
  intro p e s m below meth c hx hb hr hml hown hts hlk F S ls hl
  have hl : lv_has ls 3 [(0, .ref (E.2.2.2 137)), (1, .int x1)] := hl
  have i10 : ∀ w ∈ u_ws RX10 TX10 54, w ∈ wsX10_search := by decide +kernel
  have hL26 : ∀ (Kx : q_M → Option (Unit × q_M)), (∀ (μ : q_M) (H : Heap) (locs : List Loc) (ls : Array Slot), q_S E (q_A E) s μ H locs → lv_has ls 3 [(0, .ref (E.2.2.2 137))] → Kx μ = some (r, μr) → W p l e ({ frames := 7, cells := 0, slots := 0, locals := 178 }) s m ([.ref (E.2.2.2 137), .int x1] : List Value).toArray below meth c H locs 0 0 (MQ below (q_Qv E r μr) ([.ref (E.2.2.2 137), .int x1] : List Value).toArray s 0 0 (q_A E)) (F0 m 57 ls [])) → ∀ (n : Nat), ∀ (v2 : Int32), ∀ (μ : q_M) (H : Heap) (locs : List Loc) (ls : Array Slot), q_S E (q_A E) s μ H locs → lv_has ls 3 [(0, .ref (E.2.2.2 137)), (2, .int v2)] → L_X10_search_26 x1 Kx n v2 μ = some (r, μr) → W p l e ({ frames := 7, cells := 0, slots := 0, locals := 178 }) s m ([.ref (E.2.2.2 137), .int x1] : List Value).toArray below meth c H locs 0 0 (MQ below (q_Qv E r μr) ([.ref (E.2.2.2 137), .int x1] : List Value).toArray s 0 0 (q_A E)) (F0 m 26 ls []) := by
    intro Kx hKx n
    induction n with
    | zero => intro v2 μ H locs ls S hl h; exact absurd h (by simp [L_X10_search_26])
    | succ n ih =>
      intro v2 μ H locs ls S hl h
      rw [L_X10_search_26] at h
      refine lv_iload_n hx hb dX10_search_26 rfl (lv_at hl 1 rfl) ?_
      refine lv_bipush (v := 7) hx hb dX10_search_27 (by decide) ?_
      refine lv_icmp_ge (tgt := 57) hx hb dX10_search_29 (by decide) (fun c7 => ?_) (fun c7 => ?_)
      · have h := q_ip c7 h
        exact hKx μ H locs ls S (lv_sub hl [0] rfl) h
      · have h := q_ig c7 h
        refine lv_aload_n hx hb dX10_search_32 rfl (lv_at hl 0 rfl) ?_
        refine q_getr (own := RX10) (C := RX10) (T := TX10) (N := 54) (ci := 10) (j := 35)  (b := 160) hx hb hts i10 hown F S q_k137 (by decide) rfl (by decide) (by decide) rfl (by decide) (hts (.fieldLink RX10 84 "HeavyRoutesModel" "seen" "[Z") (by decide +kernel)) dX10_search_33 ?_
        refine lv_iload_n hx hb dX10_search_36 rfl (lv_at hl 1 rfl) ?_
        refine lv_iload_n hx hb dX10_search_37 rfl (lv_at hl 1 rfl) ?_
        refine lv_aload_n hx hb dX10_search_38 rfl (lv_at hl 0 rfl) ?_
        refine q_geti (own := RX10) (C := RX10) (T := TX10) (N := 54) (ci := 10) (j := 25)  hx hb hts i10 hown F S q_k137 (by decide) rfl (by decide) (by decide) rfl (hts (.fieldLink RX10 267 "HeavyRoutesModel" "runFrom" "I") (by decide +kernel)) dX10_search_39 ?_
        refine lv_icmp_ne (tgt := 49) hx hb dX10_search_42 (by decide) (fun c8 => ?_) (fun c8 => ?_)
        · have h := q_ig c8 h
          refine lv_iconst (v := 0) hx hb dX10_search_49 (by decide) ?_
          obtain ⟨g9, h⟩ := q_gd_some h
          refine q_zast hx hb F S q_k160 q_n160 g9 (by decide) dX10_search_50 (fun H locs μ10 eμ10 S => ?_)
          have h := q_le_e h eμ10
          obtain ⟨y11, ey11⟩ : ∃ z : Int32, z = v2 + 1 := ⟨_, rfl⟩
          have h := q_le_e h ey11
          refine lv_iinc (v := y11) (lv' := [(2, .int y11), (0, .ref (E.2.2.2 137))]) hx hb dX10_search_51 hl (k := 1) rfl (by rw [ey11]; rfl) (by decide) rfl (fun ls hl => ?_)
          refine lv_goto (tgt := 26) hx hb dX10_search_54 (by decide) ?_
          exact ih y11 μ10 H locs ls S (lv_sub hl [1, 0] rfl) h
        · have h := q_ip c8 h
          refine lv_iconst (v := 1) hx hb dX10_search_45 (by decide) ?_
          refine lv_goto (tgt := 50) hx hb dX10_search_46 (by decide) ?_
          obtain ⟨g12, h⟩ := q_gd_some h
          refine q_zast hx hb F S q_k160 q_n160 g12 (by decide) dX10_search_50 (fun H locs μ13 eμ13 S => ?_)
          have h := q_le_e h eμ13
          obtain ⟨y14, ey14⟩ : ∃ z : Int32, z = v2 + 1 := ⟨_, rfl⟩
          have h := q_le_e h ey14
          refine lv_iinc (v := y14) (lv' := [(2, .int y14), (0, .ref (E.2.2.2 137))]) hx hb dX10_search_51 hl (k := 1) rfl (by rw [ey14]; rfl) (by decide) rfl (fun ls hl => ?_)
          refine lv_goto (tgt := 26) hx hb dX10_search_54 (by decide) ?_
          exact ih y14 μ13 H locs ls S (lv_sub hl [1, 0] rfl) h
  unfold f_X10_search at h
  obtain ⟨H, eH⟩ : ∃ z, z = s.heap := ⟨_, rfl⟩
  obtain ⟨locs, eL⟩ : ∃ z : List Loc, z = [] := ⟨_, rfl⟩
  rw [← eH, ← eL] at S
  suffices hh : W p l e ({ frames := 7, cells := 0, slots := 0, locals := 178 }) s m ([.ref (E.2.2.2 137), .int x1] : List Value).toArray below meth c H locs 0 0 (MQ below (q_Qv E r μr) ([.ref (E.2.2.2 137), .int x1] : List Value).toArray s 0 0 (q_A E)) (F0 m 0 ls []) by rw [eH, eL] at hh; exact hh
  refine lv_aload_n hx hb dX10_search_0 rfl (lv_at hl 0 rfl) ?_
  obtain ⟨u1, μ1, hc2, h⟩ := q_bd_some h
  refine q_kv F S (q_runV (As := []) (rest := []) (b := 137) ⟨hx, hb, hml, hown, hts⟩ F S (c_X10_findBearing l E hE  μ μ1 u1 hc2) (cwV 0 hts gX10_search_X10_findBearing rfl rfl rfl (by decide +kernel) ⟨Nat.le_of_ble_eq_true rfl, Nat.le_of_ble_eq_true rfl⟩) q_k137 (by decide) rfl rfl hl.1 rfl (Nat.le_of_ble_eq_true rfl) dX10_search_1 ⟨Nat.zero_le _, Nat.zero_le _⟩) (fun H locs S => ?_)
  refine lv_aload_n hx hb dX10_search_4 rfl (lv_at hl 0 rfl) ?_
  refine lv_iload_n hx hb dX10_search_5 rfl (lv_at hl 1 rfl) ?_
  refine q_puti (own := RX10) (C := RX10) (T := TX10) (N := 54) (ci := 10) (j := 39)  hx hb hts i10 tyX10 tyX10_ok nmX10 hown F S q_k137 (by decide) rfl (by decide) (by decide) rfl (hts (.fieldLink RX10 244 "HeavyRoutesModel" "limit" "I") (by decide +kernel)) rfl (by decide +kernel) dX10_search_6 (fun H locs μ3 eμ3 S => ?_)
  have h := q_le_e h eμ3
  refine lv_aload_n hx hb dX10_search_9 rfl (lv_at hl 0 rfl) ?_
  refine lv_iconst (v := 0) hx hb dX10_search_10 (by decide) ?_
  refine q_puti (own := RX10) (C := RX10) (T := TX10) (N := 54) (ci := 10) (j := 37)  hx hb hts i10 tyX10 tyX10_ok nmX10 hown F S q_k137 (by decide) rfl (by decide) (by decide) rfl (hts (.fieldLink RX10 231 "HeavyRoutesModel" "bestSize" "I") (by decide +kernel)) rfl (by decide +kernel) dX10_search_11 (fun H locs μ4 eμ4 S => ?_)
  have h := q_le_e h eμ4
  refine lv_aload_n hx hb dX10_search_14 rfl (lv_at hl 0 rfl) ?_
  refine lv_iconst (v := 0) hx hb dX10_search_15 (by decide) ?_
  refine q_puti (own := RX10) (C := RX10) (T := TX10) (N := 54) (ci := 10) (j := 34)  hx hb hts i10 tyX10 tyX10_ok nmX10 hown F S q_k137 (by decide) rfl (by decide) (by decide) rfl (hts (.fieldLink RX10 237 "HeavyRoutesModel" "size" "I") (by decide +kernel)) rfl (by decide +kernel) dX10_search_16 (fun H locs μ5 eμ5 S => ?_)
  have h := q_le_e h eμ5
  refine lv_aload_n hx hb dX10_search_19 rfl (lv_at hl 0 rfl) ?_
  refine lv_iconst (v := 0) hx hb dX10_search_20 (by decide) ?_
  refine q_puti (own := RX10) (C := RX10) (T := TX10) (N := 54) (ci := 10) (j := 40)  hx hb hts i10 tyX10 tyX10_ok nmX10 hown F S q_k137 (by decide) rfl (by decide) (by decide) rfl (hts (.fieldLink RX10 247 "HeavyRoutesModel" "ways" "I") (by decide +kernel)) rfl (by decide +kernel) dX10_search_21 (fun H locs μ6 eμ6 S => ?_)
  have h := q_le_e h eμ6
  refine lv_iconst (v := 0) hx hb dX10_search_24 (by decide) ?_
  refine lv_istore_n (lv' := [(2, .int 0), (0, .ref (E.2.2.2 137)), (1, .int x1)]) hx hb dX10_search_25 rfl hl (by decide) rfl (fun ls hl => ?_)
  refine hL26 _ (fun μ H locs ls S hl h => ?_) q_fu 0 μ6 H locs ls S (lv_sub hl [1, 0] rfl) h
  refine lv_aload_n hx hb dX10_search_57 rfl (lv_at hl 0 rfl) ?_
  obtain ⟨u15, μ15, hc16, h⟩ := q_bd_some h
  refine q_kv F S (q_runV (As := []) (rest := []) (b := 137) ⟨hx, hb, hml, hown, hts⟩ F S (c_X10_goThrough l E hE  μ μ15 u15 hc16) (cwV 0 hts gX10_search_X10_goThrough rfl rfl rfl (by decide +kernel) ⟨Nat.le_of_ble_eq_true rfl, Nat.le_of_ble_eq_true rfl⟩) q_k137 (by decide) rfl rfl hl.1 rfl (Nat.le_of_ble_eq_true rfl) dX10_search_58 ⟨Nat.zero_le _, Nat.zero_le _⟩) (fun H locs S => ?_)
  exact q_vret hx hb hr S h hlk dX10_search_61
def L_X10_keep_2 (Kx : q_M → Option (Unit × q_M)) : Nat → Int32 → q_M → Option (Unit × q_M)
  | 0, _, _ => none
  | n + 1, v1, μ => (if (μ.1 137 37) ≤ v1 then Kx μ else q_gd (q_ix v1 12) (q_gd (q_ix ((12 * (μ.1 137 28)) + v1) 60) (q_le (q_si μ 156 ((12 * (μ.1 137 28)) + v1).toNatClampNeg (μ.1 161 v1.toNatClampNeg)) (fun μ4 => q_le (v1 + 1 : Int32) (fun y5 => (L_X10_keep_2 Kx n) y5 μ4)))))
def f_X10_keep (μ : q_M) : Option (Unit × q_M) := L_X10_keep_2 (fun μ => q_gd (q_ix (μ.1 137 28) 5) (q_le (q_si μ 157 (μ.1 137 28).toNatClampNeg (μ.1 137 37)) (fun μ7 => q_le (q_si μ7 137 28 ((μ7.1 137 28) + 1)) (fun μ8 => some ((), μ8))))) q_fu 0 μ
set_option maxHeartbeats 4000000 in
set_option maxRecDepth 100000 in
theorem c_X10_keep (l : Launch) (E : q_E) (hE : q_I E) (μ μr : q_M) (r : Unit) (h : f_X10_keep μ = some (r, μr)) : Met l yX10_keep wsX10_keep ({ frames := 0, cells := 0, slots := 0, locals := 0 }) (q_Pc E μ [.ref (E.2.2.2 137)]) (q_Qv E r μr) 0 0 (q_A E) := by
  refine q_met (cc := cX10_keep) (maxL := 2) (ret := none) hE (by decide) rfl (Nat.le_of_ble_eq_true rfl) ?_
  intro p e s m below meth c hx hb hr hml hown hts hlk F S ls hl
  have hl : lv_has ls 2 [(0, .ref (E.2.2.2 137))] := hl
  have i10 : ∀ w ∈ u_ws RX10 TX10 54, w ∈ wsX10_keep := by decide +kernel
  have hL2 : ∀ (Kx : q_M → Option (Unit × q_M)), (∀ (μ : q_M) (H : Heap) (locs : List Loc) (ls : Array Slot), q_S E (q_A E) s μ H locs → lv_has ls 2 [(0, .ref (E.2.2.2 137))] → Kx μ = some (r, μr) → W p l e ({ frames := 0, cells := 0, slots := 0, locals := 0 }) s m ([.ref (E.2.2.2 137)] : List Value).toArray below meth c H locs 0 0 (MQ below (q_Qv E r μr) ([.ref (E.2.2.2 137)] : List Value).toArray s 0 0 (q_A E)) (F0 m 36 ls [])) → ∀ (n : Nat), ∀ (v1 : Int32), ∀ (μ : q_M) (H : Heap) (locs : List Loc) (ls : Array Slot), q_S E (q_A E) s μ H locs → lv_has ls 2 [(0, .ref (E.2.2.2 137)), (1, .int v1)] → L_X10_keep_2 Kx n v1 μ = some (r, μr) → W p l e ({ frames := 0, cells := 0, slots := 0, locals := 0 }) s m ([.ref (E.2.2.2 137)] : List Value).toArray below meth c H locs 0 0 (MQ below (q_Qv E r μr) ([.ref (E.2.2.2 137)] : List Value).toArray s 0 0 (q_A E)) (F0 m 2 ls []) := by
    intro Kx hKx n
    induction n with
    | zero => intro v1 μ H locs ls S hl h; exact absurd h (by simp [L_X10_keep_2])
    | succ n ih =>
      intro v1 μ H locs ls S hl h
      rw [L_X10_keep_2] at h
      refine lv_iload_n hx hb dX10_keep_2 rfl (lv_at hl 1 rfl) ?_
      refine lv_aload_n hx hb dX10_keep_3 rfl (lv_at hl 0 rfl) ?_
      refine q_geti (own := RX10) (C := RX10) (T := TX10) (N := 54) (ci := 10) (j := 37)  hx hb hts i10 hown F S q_k137 (by decide) rfl (by decide) (by decide) rfl (hts (.fieldLink RX10 231 "HeavyRoutesModel" "bestSize" "I") (by decide +kernel)) dX10_keep_4 ?_
      refine lv_icmp_ge (tgt := 36) hx hb dX10_keep_7 (by decide) (fun c1 => ?_) (fun c1 => ?_)
      · have h := q_ip c1 h
        exact hKx μ H locs ls S (lv_sub hl [0] rfl) h
      · have h := q_ig c1 h
        refine lv_aload_n hx hb dX10_keep_10 rfl (lv_at hl 0 rfl) ?_
        refine q_getr (own := RX10) (C := RX10) (T := TX10) (N := 54) (ci := 10) (j := 29)  (b := 156) hx hb hts i10 hown F S q_k137 (by decide) rfl (by decide) (by decide) rfl (by decide) (hts (.fieldLink RX10 72 "HeavyRoutesModel" "foundRoads" "[I") (by decide +kernel)) dX10_keep_11 ?_
        refine lv_bipush (v := 12) hx hb dX10_keep_14 (by decide) ?_
        refine lv_aload_n hx hb dX10_keep_16 rfl (lv_at hl 0 rfl) ?_
        refine q_geti (own := RX10) (C := RX10) (T := TX10) (N := 54) (ci := 10) (j := 28)  hx hb hts i10 hown F S q_k137 (by decide) rfl (by decide) (by decide) rfl (hts (.fieldLink RX10 109 "HeavyRoutesModel" "found" "I") (by decide +kernel)) dX10_keep_17 ?_
        refine lv_imul hx hb dX10_keep_20 ?_
        refine lv_iload_n hx hb dX10_keep_21 rfl (lv_at hl 1 rfl) ?_
        refine lv_iadd hx hb dX10_keep_22 ?_
        refine lv_aload_n hx hb dX10_keep_23 rfl (lv_at hl 0 rfl) ?_
        refine q_getr (own := RX10) (C := RX10) (T := TX10) (N := 54) (ci := 10) (j := 36)  (b := 161) hx hb hts i10 hown F S q_k137 (by decide) rfl (by decide) (by decide) rfl (by decide) (hts (.fieldLink RX10 87 "HeavyRoutesModel" "best" "[I") (by decide +kernel)) dX10_keep_24 ?_
        refine lv_iload_n hx hb dX10_keep_27 rfl (lv_at hl 1 rfl) ?_
        obtain ⟨g2, h⟩ := q_gd_some h
        refine q_iald hx hb F S q_k161 q_n161 g2 dX10_keep_28 ?_
        obtain ⟨g3, h⟩ := q_gd_some h
        refine q_iast hx hb F S q_k156 q_n156 g3 dX10_keep_29 (fun H locs μ4 eμ4 S => ?_)
        have h := q_le_e h eμ4
        obtain ⟨y5, ey5⟩ : ∃ z : Int32, z = v1 + 1 := ⟨_, rfl⟩
        have h := q_le_e h ey5
        refine lv_iinc (v := y5) (lv' := [(1, .int y5), (0, .ref (E.2.2.2 137))]) hx hb dX10_keep_30 hl (k := 1) rfl (by rw [ey5]; rfl) (by decide) rfl (fun ls hl => ?_)
        refine lv_goto (tgt := 2) hx hb dX10_keep_33 (by decide) ?_
        exact ih y5 μ4 H locs ls S (lv_sub hl [1, 0] rfl) h
  unfold f_X10_keep at h
  obtain ⟨H, eH⟩ : ∃ z, z = s.heap := ⟨_, rfl⟩
  obtain ⟨locs, eL⟩ : ∃ z : List Loc, z = [] := ⟨_, rfl⟩
  rw [← eH, ← eL] at S
  suffices hh : W p l e ({ frames := 0, cells := 0, slots := 0, locals := 0 }) s m ([.ref (E.2.2.2 137)] : List Value).toArray below meth c H locs 0 0 (MQ below (q_Qv E r μr) ([.ref (E.2.2.2 137)] : List Value).toArray s 0 0 (q_A E)) (F0 m 0 ls []) by rw [eH, eL] at hh; exact hh
  refine lv_iconst (v := 0) hx hb dX10_keep_0 (by decide) ?_
  refine lv_istore_n (lv' := [(1, .int 0), (0, .ref (E.2.2.2 137))]) hx hb dX10_keep_1 rfl hl (by decide) rfl (fun ls hl => ?_)
  refine hL2 _ (fun μ H locs ls S hl h => ?_) q_fu 0 μ H locs ls S (lv_sub hl [1, 0] rfl) h
  refine lv_aload_n hx hb dX10_keep_36 rfl (lv_at hl 0 rfl) ?_
  refine q_getr (own := RX10) (C := RX10) (T := TX10) (N := 54) (ci := 10) (j := 30)  (b := 157) hx hb hts i10 hown F S q_k137 (by decide) rfl (by decide) (by decide) rfl (by decide) (hts (.fieldLink RX10 75 "HeavyRoutesModel" "foundSizes" "[I") (by decide +kernel)) dX10_keep_37 ?_
  refine lv_aload_n hx hb dX10_keep_40 rfl (lv_at hl 0 rfl) ?_
  refine q_geti (own := RX10) (C := RX10) (T := TX10) (N := 54) (ci := 10) (j := 28)  hx hb hts i10 hown F S q_k137 (by decide) rfl (by decide) (by decide) rfl (hts (.fieldLink RX10 109 "HeavyRoutesModel" "found" "I") (by decide +kernel)) dX10_keep_41 ?_
  refine lv_aload_n hx hb dX10_keep_44 rfl (lv_at hl 0 rfl) ?_
  refine q_geti (own := RX10) (C := RX10) (T := TX10) (N := 54) (ci := 10) (j := 37)  hx hb hts i10 hown F S q_k137 (by decide) rfl (by decide) (by decide) rfl (hts (.fieldLink RX10 231 "HeavyRoutesModel" "bestSize" "I") (by decide +kernel)) dX10_keep_45 ?_
  obtain ⟨g6, h⟩ := q_gd_some h
  refine q_iast hx hb F S q_k157 q_n157 g6 dX10_keep_48 (fun H locs μ7 eμ7 S => ?_)
  have h := q_le_e h eμ7
  refine lv_aload_n hx hb dX10_keep_49 rfl (lv_at hl 0 rfl) ?_
  refine lv_dup hx hb dX10_keep_50 rfl ?_
  refine q_geti (own := RX10) (C := RX10) (T := TX10) (N := 54) (ci := 10) (j := 28)  hx hb hts i10 hown F S q_k137 (by decide) rfl (by decide) (by decide) rfl (hts (.fieldLink RX10 109 "HeavyRoutesModel" "found" "I") (by decide +kernel)) dX10_keep_51 ?_
  refine lv_iconst (v := 1) hx hb dX10_keep_54 (by decide) ?_
  refine lv_iadd hx hb dX10_keep_55 ?_
  refine q_puti (own := RX10) (C := RX10) (T := TX10) (N := 54) (ci := 10) (j := 28)  hx hb hts i10 tyX10 tyX10_ok nmX10 hown F S q_k137 (by decide) rfl (by decide) (by decide) rfl (hts (.fieldLink RX10 109 "HeavyRoutesModel" "found" "I") (by decide +kernel)) rfl (by decide +kernel) dX10_keep_56 (fun H locs μ8 eμ8 S => ?_)
  have h := q_le_e h eμ8
  exact q_vret hx hb hr S h hlk dX10_keep_59
def J_X10_run_106 (x1 : Int32) (x2 : Int32) (x3 : Int32) (v4 : Int32) (μ : q_M) : Option (Int32 × q_M) := (if 50 ≤ (μ.1 137 31) then some (v4, μ) else q_gd (q_ix (μ.1 137 31) 50) (q_le (q_si μ 158 (μ.1 137 31).toNatClampNeg v4) (fun μ24 => q_le (q_si μ24 137 31 ((μ24.1 137 31) + 1)) (fun μ25 => some (v4, μ25)))))
def f_X10_run (x1 : Int32) (x2 : Int32) (x3 : Int32) (μ : q_M) : Option (Int32 × q_M) := q_bd (f_X10_in x1.toInt64 0 (((μ.1 137 0) - 1).toInt64) μ) (fun r3 μ1 => (if r3 = 0 then some ((-2), μ1) else q_bd (f_X10_in x2.toInt64 0 (((μ1.1 137 0) - 1).toInt64) μ1) (fun r7 μ5 => (if r7 = 0 then some ((-2), μ5) else (if x1 = x2 then some ((-2), μ5) else q_bd (f_X10_in x3.toInt64 0 10000 μ5) (fun r12 μ10 => (if r12 = 0 then some ((-2), μ10) else q_le (q_si μ10 137 24 1) (fun μ14 => q_le (q_si μ14 137 25 x1) (fun μ15 => q_le (q_si μ15 137 26 x2) (fun μ16 => q_le (q_si μ16 137 27 x3) (fun μ17 => q_le (q_si μ17 137 28 0) (fun μ18 => q_bd (f_X10_search 1000000000 μ18) (fun u19 μ19 => (if (μ19.1 137 37) ≤ 0 then J_X10_run_106 x1 x2 x3 (-1) μ19 else q_bd (f_X10_keep  μ19) (fun u26 μ26 => q_le (((μ26.1 137 38) - x3) : Int32) (fun y28 => J_X10_run_106 x1 x2 x3 y28 μ26))))))))))))))))
set_option maxHeartbeats 4000000 in
set_option maxRecDepth 100000 in
theorem c_X10_run (l : Launch) (E : q_E) (hE : q_I E) (x1 : Int32) (x2 : Int32) (x3 : Int32) (μ μr : q_M) (r : Int32) (h : f_X10_run x1 x2 x3 μ = some (r, μr)) : Met l yX10_run wsX10_run ({ frames := 8, cells := 0, slots := 0, locals := 200 }) (q_Pc E μ [.ref (E.2.2.2 137), .int x1, .int x2, .int x3]) (q_Qi E r μr) 0 0 (q_A E) := by
  refine q_met (cc := cX10_run) (maxL := 5) (ret := (some .int)) hE (by decide) rfl (Nat.le_of_ble_eq_true rfl) ?_
  intro p e s m below meth c hx hb hr hml hown hts hlk F S ls hl
  have hl : lv_has ls 5 [(0, .ref (E.2.2.2 137)), (1, .int x1), (2, .int x2), (3, .int x3)] := hl
  have i10 : ∀ w ∈ u_ws RX10 TX10 54, w ∈ wsX10_run := by decide +kernel
  have hJ106 : ∀ (v4 : Int32), ∀ (μ : q_M) (H : Heap) (locs : List Loc) (ls : Array Slot), q_S E (q_A E) s μ H locs → lv_has ls 5 [(0, .ref (E.2.2.2 137)), (4, .int v4)] → J_X10_run_106 x1 x2 x3 v4 μ = some (r, μr) → W p l e ({ frames := 8, cells := 0, slots := 0, locals := 200 }) s m ([.ref (E.2.2.2 137), .int x1, .int x2, .int x3] : List Value).toArray below meth c H locs 0 0 (MQ below (q_Qi E r μr) ([.ref (E.2.2.2 137), .int x1, .int x2, .int x3] : List Value).toArray s 0 0 (q_A E)) (F0 m 106 ls []) := by
    intro v4 μ H locs ls S hl h
    rw [J_X10_run_106] at h
    refine lv_aload_n hx hb dX10_run_106 rfl (lv_at hl 0 rfl) ?_
    refine q_geti (own := RX10) (C := RX10) (T := TX10) (N := 54) (ci := 10) (j := 31)  hx hb hts i10 hown F S q_k137 (by decide) rfl (by decide) (by decide) rfl (hts (.fieldLink RX10 298 "HeavyRoutesModel" "records" "I") (by decide +kernel)) dX10_run_107 ?_
    refine lv_bipush (v := 50) hx hb dX10_run_110 (by decide) ?_
    refine lv_icmp_ge (tgt := 136) hx hb dX10_run_112 (by decide) (fun c22 => ?_) (fun c22 => ?_)
    · have h := q_ip c22 h
      refine lv_iload hx hb dX10_run_136 (lv_at hl 1 rfl) ?_
      exact q_iret hx hb hr S h hlk dX10_run_138
    · have h := q_ig c22 h
      refine lv_aload_n hx hb dX10_run_115 rfl (lv_at hl 0 rfl) ?_
      refine q_getr (own := RX10) (C := RX10) (T := TX10) (N := 54) (ci := 10) (j := 32)  (b := 158) hx hb hts i10 hown F S q_k137 (by decide) rfl (by decide) (by decide) rfl (by decide) (hts (.fieldLink RX10 78 "HeavyRoutesModel" "recorded" "[I") (by decide +kernel)) dX10_run_116 ?_
      refine lv_aload_n hx hb dX10_run_119 rfl (lv_at hl 0 rfl) ?_
      refine q_geti (own := RX10) (C := RX10) (T := TX10) (N := 54) (ci := 10) (j := 31)  hx hb hts i10 hown F S q_k137 (by decide) rfl (by decide) (by decide) rfl (hts (.fieldLink RX10 298 "HeavyRoutesModel" "records" "I") (by decide +kernel)) dX10_run_120 ?_
      refine lv_iload hx hb dX10_run_123 (lv_at hl 1 rfl) ?_
      obtain ⟨g23, h⟩ := q_gd_some h
      refine q_iast hx hb F S q_k158 q_n158 g23 dX10_run_125 (fun H locs μ24 eμ24 S => ?_)
      have h := q_le_e h eμ24
      refine lv_aload_n hx hb dX10_run_126 rfl (lv_at hl 0 rfl) ?_
      refine lv_dup hx hb dX10_run_127 rfl ?_
      refine q_geti (own := RX10) (C := RX10) (T := TX10) (N := 54) (ci := 10) (j := 31)  hx hb hts i10 hown F S q_k137 (by decide) rfl (by decide) (by decide) rfl (hts (.fieldLink RX10 298 "HeavyRoutesModel" "records" "I") (by decide +kernel)) dX10_run_128 ?_
      refine lv_iconst (v := 1) hx hb dX10_run_131 (by decide) ?_
      refine lv_iadd hx hb dX10_run_132 ?_
      refine q_puti (own := RX10) (C := RX10) (T := TX10) (N := 54) (ci := 10) (j := 31)  hx hb hts i10 tyX10 tyX10_ok nmX10 hown F S q_k137 (by decide) rfl (by decide) (by decide) rfl (hts (.fieldLink RX10 298 "HeavyRoutesModel" "records" "I") (by decide +kernel)) rfl (by decide +kernel) dX10_run_133 (fun H locs μ25 eμ25 S => ?_)
      have h := q_le_e h eμ25
      refine lv_iload hx hb dX10_run_136 (lv_at hl 1 rfl) ?_
      exact q_iret hx hb hr S h hlk dX10_run_138
  unfold f_X10_run at h
  obtain ⟨H, eH⟩ : ∃ z, z = s.heap := ⟨_, rfl⟩
  obtain ⟨locs, eL⟩ : ∃ z : List Loc, z = [] := ⟨_, rfl⟩
  rw [← eH, ← eL] at S
  suffices hh : W p l e ({ frames := 8, cells := 0, slots := 0, locals := 200 }) s m ([.ref (E.2.2.2 137), .int x1, .int x2, .int x3] : List Value).toArray below meth c H locs 0 0 (MQ below (q_Qi E r μr) ([.ref (E.2.2.2 137), .int x1, .int x2, .int x3] : List Value).toArray s 0 0 (q_A E)) (F0 m 0 ls []) by rw [eH, eL] at hh; exact hh
  refine lv_iload_n hx hb dX10_run_0 rfl (lv_at hl 1 rfl) ?_
  refine lv_i2l (v := x1.toInt64) hx hb dX10_run_1 rfl ?_
  refine lv_lconst (v := 0) hx hb dX10_run_2 (by decide) ?_
  refine lv_aload_n hx hb dX10_run_3 rfl (lv_at hl 0 rfl) ?_
  refine q_geti (own := RX10) (C := RX10) (T := TX10) (N := 54) (ci := 10) (j := 0)  hx hb hts i10 hown F S q_k137 (by decide) rfl (by decide) (by decide) rfl (hts (.fieldLink RX10 112 "HeavyRoutesModel" "nodes" "I") (by decide +kernel)) dX10_run_4 ?_
  refine lv_iconst (v := 1) hx hb dX10_run_7 (by decide) ?_
  refine lv_isub hx hb dX10_run_8 ?_
  refine lv_i2l (v := ((μ.1 137 0) - 1).toInt64) hx hb dX10_run_9 rfl ?_
  obtain ⟨r3, μ1, hc2, h⟩ := q_bd_some h
  refine q_ki F S (q_runS (As := [.long x1.toInt64, .long 0, .long (((μ.1 137 0) - 1).toInt64)]) (rest := []) ⟨hx, hb, hml, hown, hts⟩ F S (c_X10_in l E hE x1.toInt64 0 (((μ.1 137 0) - 1).toInt64) μ μ1 r3 hc2) (va_cwS 3 hts gX10_run_X10_in rfl rfl rfl (by decide +kernel) ⟨Nat.le_of_ble_eq_true rfl, Nat.le_of_ble_eq_true rfl⟩) rfl hl.1 rfl (Nat.le_of_ble_eq_true rfl) dX10_run_10 ⟨Nat.zero_le _, Nat.zero_le _⟩) (fun H locs S => ?_)
  refine lv_if_eq (tgt := 49) hx hb dX10_run_13 (by decide) (fun c4 => ?_) (fun c4 => ?_)
  · have h := q_ip c4 h
    refine lv_bipush (v := (-2)) hx hb dX10_run_49 (by decide) ?_
    exact q_iret hx hb hr S h hlk dX10_run_51
  · have h := q_ig c4 h
    refine lv_iload_n hx hb dX10_run_16 rfl (lv_at hl 2 rfl) ?_
    refine lv_i2l (v := x2.toInt64) hx hb dX10_run_17 rfl ?_
    refine lv_lconst (v := 0) hx hb dX10_run_18 (by decide) ?_
    refine lv_aload_n hx hb dX10_run_19 rfl (lv_at hl 0 rfl) ?_
    refine q_geti (own := RX10) (C := RX10) (T := TX10) (N := 54) (ci := 10) (j := 0)  hx hb hts i10 hown F S q_k137 (by decide) rfl (by decide) (by decide) rfl (hts (.fieldLink RX10 112 "HeavyRoutesModel" "nodes" "I") (by decide +kernel)) dX10_run_20 ?_
    refine lv_iconst (v := 1) hx hb dX10_run_23 (by decide) ?_
    refine lv_isub hx hb dX10_run_24 ?_
    refine lv_i2l (v := ((μ1.1 137 0) - 1).toInt64) hx hb dX10_run_25 rfl ?_
    obtain ⟨r7, μ5, hc6, h⟩ := q_bd_some h
    refine q_ki F S (q_runS (As := [.long x2.toInt64, .long 0, .long (((μ1.1 137 0) - 1).toInt64)]) (rest := []) ⟨hx, hb, hml, hown, hts⟩ F S (c_X10_in l E hE x2.toInt64 0 (((μ1.1 137 0) - 1).toInt64) μ1 μ5 r7 hc6) (va_cwS 3 hts gX10_run_X10_in rfl rfl rfl (by decide +kernel) ⟨Nat.le_of_ble_eq_true rfl, Nat.le_of_ble_eq_true rfl⟩) rfl hl.1 rfl (Nat.le_of_ble_eq_true rfl) dX10_run_26 ⟨Nat.zero_le _, Nat.zero_le _⟩) (fun H locs S => ?_)
    refine lv_if_eq (tgt := 49) hx hb dX10_run_29 (by decide) (fun c8 => ?_) (fun c8 => ?_)
    · have h := q_ip c8 h
      refine lv_bipush (v := (-2)) hx hb dX10_run_49 (by decide) ?_
      exact q_iret hx hb hr S h hlk dX10_run_51
    · have h := q_ig c8 h
      refine lv_iload_n hx hb dX10_run_32 rfl (lv_at hl 1 rfl) ?_
      refine lv_iload_n hx hb dX10_run_33 rfl (lv_at hl 2 rfl) ?_
      refine lv_icmp_eq (tgt := 49) hx hb dX10_run_34 (by decide) (fun c9 => ?_) (fun c9 => ?_)
      · have h := q_ip c9 h
        refine lv_bipush (v := (-2)) hx hb dX10_run_49 (by decide) ?_
        exact q_iret hx hb hr S h hlk dX10_run_51
      · have h := q_ig c9 h
        refine lv_iload_n hx hb dX10_run_37 rfl (lv_at hl 3 rfl) ?_
        refine lv_i2l (v := x3.toInt64) hx hb dX10_run_38 rfl ?_
        refine lv_lconst (v := 0) hx hb dX10_run_39 (by decide) ?_
        refine lv_ldc2 (v := 10000) hx hb hown (hts (.constantLong RX10 285 (10000)) (by decide +kernel)) dX10_run_40 ?_
        obtain ⟨r12, μ10, hc11, h⟩ := q_bd_some h
        refine q_ki F S (q_runS (As := [.long x3.toInt64, .long 0, .long 10000]) (rest := []) ⟨hx, hb, hml, hown, hts⟩ F S (c_X10_in l E hE x3.toInt64 0 10000 μ5 μ10 r12 hc11) (va_cwS 3 hts gX10_run_X10_in rfl rfl rfl (by decide +kernel) ⟨Nat.le_of_ble_eq_true rfl, Nat.le_of_ble_eq_true rfl⟩) rfl hl.1 rfl (Nat.le_of_ble_eq_true rfl) dX10_run_43 ⟨Nat.zero_le _, Nat.zero_le _⟩) (fun H locs S => ?_)
        refine lv_if_ne (tgt := 52) hx hb dX10_run_46 (by decide) (fun c13 => ?_) (fun c13 => ?_)
        · have h := q_ig c13 h
          refine lv_aload_n hx hb dX10_run_52 rfl (lv_at hl 0 rfl) ?_
          refine lv_iconst (v := 1) hx hb dX10_run_53 (by decide) ?_
          refine q_putz (own := RX10) (C := RX10) (T := TX10) (N := 54) (ci := 10) (j := 24)  hx hb hts i10 tyX10 tyX10_ok nmX10 hown F S q_k137 (by decide) rfl (by decide) (by decide) rfl (hts (.fieldLink RX10 287 "HeavyRoutesModel" "isRun" "Z") (by decide +kernel)) rfl (by decide +kernel) (by decide) dX10_run_54 (fun H locs μ14 eμ14 S => ?_)
          have h := q_le_e h eμ14
          refine lv_aload_n hx hb dX10_run_57 rfl (lv_at hl 0 rfl) ?_
          refine lv_iload_n hx hb dX10_run_58 rfl (lv_at hl 1 rfl) ?_
          refine q_puti (own := RX10) (C := RX10) (T := TX10) (N := 54) (ci := 10) (j := 25)  hx hb hts i10 tyX10 tyX10_ok nmX10 hown F S q_k137 (by decide) rfl (by decide) (by decide) rfl (hts (.fieldLink RX10 267 "HeavyRoutesModel" "runFrom" "I") (by decide +kernel)) rfl (by decide +kernel) dX10_run_59 (fun H locs μ15 eμ15 S => ?_)
          have h := q_le_e h eμ15
          refine lv_aload_n hx hb dX10_run_62 rfl (lv_at hl 0 rfl) ?_
          refine lv_iload_n hx hb dX10_run_63 rfl (lv_at hl 2 rfl) ?_
          refine q_puti (own := RX10) (C := RX10) (T := TX10) (N := 54) (ci := 10) (j := 26)  hx hb hts i10 tyX10 tyX10_ok nmX10 hown F S q_k137 (by decide) rfl (by decide) (by decide) rfl (hts (.fieldLink RX10 270 "HeavyRoutesModel" "runTo" "I") (by decide +kernel)) rfl (by decide +kernel) dX10_run_64 (fun H locs μ16 eμ16 S => ?_)
          have h := q_le_e h eμ16
          refine lv_aload_n hx hb dX10_run_67 rfl (lv_at hl 0 rfl) ?_
          refine lv_iload_n hx hb dX10_run_68 rfl (lv_at hl 3 rfl) ?_
          refine q_puti (own := RX10) (C := RX10) (T := TX10) (N := 54) (ci := 10) (j := 27)  hx hb hts i10 tyX10 tyX10_ok nmX10 hown F S q_k137 (by decide) rfl (by decide) (by decide) rfl (hts (.fieldLink RX10 250 "HeavyRoutesModel" "runMinute" "I") (by decide +kernel)) rfl (by decide +kernel) dX10_run_69 (fun H locs μ17 eμ17 S => ?_)
          have h := q_le_e h eμ17
          refine lv_aload_n hx hb dX10_run_72 rfl (lv_at hl 0 rfl) ?_
          refine lv_iconst (v := 0) hx hb dX10_run_73 (by decide) ?_
          refine q_puti (own := RX10) (C := RX10) (T := TX10) (N := 54) (ci := 10) (j := 28)  hx hb hts i10 tyX10 tyX10_ok nmX10 hown F S q_k137 (by decide) rfl (by decide) (by decide) rfl (hts (.fieldLink RX10 109 "HeavyRoutesModel" "found" "I") (by decide +kernel)) rfl (by decide +kernel) dX10_run_74 (fun H locs μ18 eμ18 S => ?_)
          have h := q_le_e h eμ18
          refine lv_aload_n hx hb dX10_run_77 rfl (lv_at hl 0 rfl) ?_
          refine lv_ldcw (v := 1000000000) hx hb hown (hts (.constant RX10 291 (1000000000)) (by decide +kernel)) dX10_run_78 ?_
          obtain ⟨u19, μ19, hc20, h⟩ := q_bd_some h
          refine q_kv F S (q_runV (As := [.int 1000000000]) (rest := []) (b := 137) ⟨hx, hb, hml, hown, hts⟩ F S (c_X10_search l E hE 1000000000 μ18 μ19 u19 hc20) (cwV 1 hts gX10_run_X10_search rfl rfl rfl (by decide +kernel) ⟨Nat.le_of_ble_eq_true rfl, Nat.le_of_ble_eq_true rfl⟩) q_k137 (by decide) rfl rfl hl.1 rfl (Nat.le_of_ble_eq_true rfl) dX10_run_81 ⟨Nat.zero_le _, Nat.zero_le _⟩) (fun H locs S => ?_)
          refine lv_iconst (v := (-1)) hx hb dX10_run_84 (by decide) ?_
          refine lv_istore (lv' := [(4, .int (-1)), (0, .ref (E.2.2.2 137)), (1, .int x1), (2, .int x2), (3, .int x3)]) hx hb dX10_run_85 hl (by decide) rfl (fun ls hl => ?_)
          refine lv_aload_n hx hb dX10_run_87 rfl (lv_at hl 1 rfl) ?_
          refine q_geti (own := RX10) (C := RX10) (T := TX10) (N := 54) (ci := 10) (j := 37)  hx hb hts i10 hown F S q_k137 (by decide) rfl (by decide) (by decide) rfl (hts (.fieldLink RX10 231 "HeavyRoutesModel" "bestSize" "I") (by decide +kernel)) dX10_run_88 ?_
          refine lv_if_le (tgt := 106) hx hb dX10_run_91 (by decide) (fun c21 => ?_) (fun c21 => ?_)
          · have h := q_ip c21 h
            exact hJ106 (-1) μ19 H locs ls S (lv_sub hl [1, 0] rfl) h
          · have h := q_ig c21 h
            refine lv_aload_n hx hb dX10_run_94 rfl (lv_at hl 1 rfl) ?_
            obtain ⟨u26, μ26, hc27, h⟩ := q_bd_some h
            refine q_kv F S (q_runV (As := []) (rest := []) (b := 137) ⟨hx, hb, hml, hown, hts⟩ F S (c_X10_keep l E hE  μ19 μ26 u26 hc27) (cwV 0 hts gX10_run_X10_keep rfl rfl rfl (by decide +kernel) ⟨Nat.le_of_ble_eq_true rfl, Nat.le_of_ble_eq_true rfl⟩) q_k137 (by decide) rfl rfl hl.1 rfl (Nat.le_of_ble_eq_true rfl) dX10_run_95 ⟨Nat.zero_le _, Nat.zero_le _⟩) (fun H locs S => ?_)
            refine lv_aload_n hx hb dX10_run_98 rfl (lv_at hl 1 rfl) ?_
            refine q_geti (own := RX10) (C := RX10) (T := TX10) (N := 54) (ci := 10) (j := 38)  hx hb hts i10 hown F S q_k137 (by decide) rfl (by decide) (by decide) rfl (hts (.fieldLink RX10 234 "HeavyRoutesModel" "bestEnd" "I") (by decide +kernel)) dX10_run_99 ?_
            refine lv_iload_n hx hb dX10_run_102 rfl (lv_at hl 4 rfl) ?_
            refine lv_isub hx hb dX10_run_103 ?_
            refine lv_topi (fun y28 ey28 => ?_)
            have h := q_le_e h ey28
            refine lv_istore (lv' := [(4, .int y28), (0, .ref (E.2.2.2 137)), (1, .int x1), (2, .int x2), (3, .int x3)]) hx hb dX10_run_104 hl (by decide) rfl (fun ls hl => ?_)
            exact hJ106 y28 μ26 H locs ls S (lv_sub hl [1, 0] rfl) h
        · have h := q_ip c13 h
          refine lv_bipush (v := (-2)) hx hb dX10_run_49 (by decide) ?_
          exact q_iret hx hb hr S h hlk dX10_run_51
def f_X10_alternate (x1 : Int64) (x3 : Int64) (μ : q_M) : Option (Int32 × q_M) := q_bd (f_X10_in x1 0 x3 μ) (fun r3 μ1 => (if r3 = 0 then some ((-2), μ1) else q_bd (f_X10_in x3 1 100 μ1) (fun r7 μ5 => (if r7 = 0 then some ((-2), μ5) else (if (μ5.1 137 28) = 0 then some ((-2), μ5) else (if (μ5.1 137 28) = 5 then some ((-2), μ5) else q_gd (q_ix (0 : Int32) 5) (q_gd (decide (¬ (x3 = 0))) (q_bd (f_X10_search (((((μ5.1 157 (0 : Int32).toNatClampNeg).toInt64) * x1) / x3).toInt32) μ5) (fun u13 μ13 => (if (μ13.1 137 37) = 0 then some ((-1), μ13) else q_bd (f_X10_keep  μ13) (fun u16 μ16 => some (((μ16.1 137 38) - (μ16.1 137 27)), μ16))))))))))))
set_option maxHeartbeats 4000000 in
set_option maxRecDepth 100000 in
theorem c_X10_alternate (l : Launch) (E : q_E) (hE : q_I E) (x1 : Int64) (x3 : Int64) (μ μr : q_M) (r : Int32) (h : f_X10_alternate x1 x3 μ = some (r, μr)) : Met l yX10_alternate wsX10_alternate ({ frames := 8, cells := 0, slots := 0, locals := 200 }) (q_Pc E μ [.ref (E.2.2.2 137), .long x1, .long x3]) (q_Qi E r μr) 0 0 (q_A E) := by
  refine q_met (cc := cX10_alternate) (maxL := 5) (ret := (some .int)) hE (by decide) rfl (Nat.le_of_ble_eq_true rfl) ?_
  intro p e s m below meth c hx hb hr hml hown hts hlk F S ls hl
  have hl : lv_has ls 5 [(0, .ref (E.2.2.2 137)), (1, .long x1), (3, .long x3)] := hl
  have i10 : ∀ w ∈ u_ws RX10 TX10 54, w ∈ wsX10_alternate := by decide +kernel
  unfold f_X10_alternate at h
  obtain ⟨H, eH⟩ : ∃ z, z = s.heap := ⟨_, rfl⟩
  obtain ⟨locs, eL⟩ : ∃ z : List Loc, z = [] := ⟨_, rfl⟩
  rw [← eH, ← eL] at S
  suffices hh : W p l e ({ frames := 8, cells := 0, slots := 0, locals := 200 }) s m ([.ref (E.2.2.2 137), .long x1, .long x3] : List Value).toArray below meth c H locs 0 0 (MQ below (q_Qi E r μr) ([.ref (E.2.2.2 137), .long x1, .long x3] : List Value).toArray s 0 0 (q_A E)) (F0 m 0 ls []) by rw [eH, eL] at hh; exact hh
  refine lv_lload_n hx hb dX10_alternate_0 rfl (lv_at hl 1 rfl) ?_
  refine lv_lconst (v := 0) hx hb dX10_alternate_1 (by decide) ?_
  refine lv_lload_n hx hb dX10_alternate_2 rfl (lv_at hl 2 rfl) ?_
  obtain ⟨r3, μ1, hc2, h⟩ := q_bd_some h
  refine q_ki F S (q_runS (As := [.long x1, .long 0, .long x3]) (rest := []) ⟨hx, hb, hml, hown, hts⟩ F S (c_X10_in l E hE x1 0 x3 μ μ1 r3 hc2) (va_cwS 3 hts gX10_alternate_X10_in rfl rfl rfl (by decide +kernel) ⟨Nat.le_of_ble_eq_true rfl, Nat.le_of_ble_eq_true rfl⟩) rfl hl.1 rfl (Nat.le_of_ble_eq_true rfl) dX10_alternate_3 ⟨Nat.zero_le _, Nat.zero_le _⟩) (fun H locs S => ?_)
  refine lv_if_eq (tgt := 35) hx hb dX10_alternate_6 (by decide) (fun c4 => ?_) (fun c4 => ?_)
  · have h := q_ip c4 h
    refine lv_bipush (v := (-2)) hx hb dX10_alternate_35 (by decide) ?_
    exact q_iret hx hb hr S h hlk dX10_alternate_37
  · have h := q_ig c4 h
    refine lv_lload_n hx hb dX10_alternate_9 rfl (lv_at hl 2 rfl) ?_
    refine lv_lconst (v := 1) hx hb dX10_alternate_10 (by decide) ?_
    refine lv_ldc2 (v := 100) hx hb hown (hts (.constantLong RX10 301 (100)) (by decide +kernel)) dX10_alternate_11 ?_
    obtain ⟨r7, μ5, hc6, h⟩ := q_bd_some h
    refine q_ki F S (q_runS (As := [.long x3, .long 1, .long 100]) (rest := []) ⟨hx, hb, hml, hown, hts⟩ F S (c_X10_in l E hE x3 1 100 μ1 μ5 r7 hc6) (va_cwS 3 hts gX10_alternate_X10_in rfl rfl rfl (by decide +kernel) ⟨Nat.le_of_ble_eq_true rfl, Nat.le_of_ble_eq_true rfl⟩) rfl hl.1 rfl (Nat.le_of_ble_eq_true rfl) dX10_alternate_14 ⟨Nat.zero_le _, Nat.zero_le _⟩) (fun H locs S => ?_)
    refine lv_if_eq (tgt := 35) hx hb dX10_alternate_17 (by decide) (fun c8 => ?_) (fun c8 => ?_)
    · have h := q_ip c8 h
      refine lv_bipush (v := (-2)) hx hb dX10_alternate_35 (by decide) ?_
      exact q_iret hx hb hr S h hlk dX10_alternate_37
    · have h := q_ig c8 h
      refine lv_aload_n hx hb dX10_alternate_20 rfl (lv_at hl 0 rfl) ?_
      refine q_geti (own := RX10) (C := RX10) (T := TX10) (N := 54) (ci := 10) (j := 28)  hx hb hts i10 hown F S q_k137 (by decide) rfl (by decide) (by decide) rfl (hts (.fieldLink RX10 109 "HeavyRoutesModel" "found" "I") (by decide +kernel)) dX10_alternate_21 ?_
      refine lv_if_eq (tgt := 35) hx hb dX10_alternate_24 (by decide) (fun c9 => ?_) (fun c9 => ?_)
      · have h := q_ip c9 h
        refine lv_bipush (v := (-2)) hx hb dX10_alternate_35 (by decide) ?_
        exact q_iret hx hb hr S h hlk dX10_alternate_37
      · have h := q_ig c9 h
        refine lv_aload_n hx hb dX10_alternate_27 rfl (lv_at hl 0 rfl) ?_
        refine q_geti (own := RX10) (C := RX10) (T := TX10) (N := 54) (ci := 10) (j := 28)  hx hb hts i10 hown F S q_k137 (by decide) rfl (by decide) (by decide) rfl (hts (.fieldLink RX10 109 "HeavyRoutesModel" "found" "I") (by decide +kernel)) dX10_alternate_28 ?_
        refine lv_iconst (v := 5) hx hb dX10_alternate_31 (by decide) ?_
        refine lv_icmp_ne (tgt := 38) hx hb dX10_alternate_32 (by decide) (fun c10 => ?_) (fun c10 => ?_)
        · have h := q_ig c10 h
          refine lv_aload_n hx hb dX10_alternate_38 rfl (lv_at hl 0 rfl) ?_
          refine lv_aload_n hx hb dX10_alternate_39 rfl (lv_at hl 0 rfl) ?_
          refine q_getr (own := RX10) (C := RX10) (T := TX10) (N := 54) (ci := 10) (j := 30)  (b := 157) hx hb hts i10 hown F S q_k137 (by decide) rfl (by decide) (by decide) rfl (by decide) (hts (.fieldLink RX10 75 "HeavyRoutesModel" "foundSizes" "[I") (by decide +kernel)) dX10_alternate_40 ?_
          refine lv_iconst (v := 0) hx hb dX10_alternate_43 (by decide) ?_
          obtain ⟨g11, h⟩ := q_gd_some h
          refine q_iald hx hb F S q_k157 q_n157 g11 dX10_alternate_44 ?_
          refine lv_i2l (v := (μ5.1 157 (0 : Int32).toNatClampNeg).toInt64) hx hb dX10_alternate_45 rfl ?_
          refine lv_lload_n hx hb dX10_alternate_46 rfl (lv_at hl 1 rfl) ?_
          refine lv_lmul hx hb dX10_alternate_47 ?_
          refine lv_lload_n hx hb dX10_alternate_48 rfl (lv_at hl 2 rfl) ?_
          obtain ⟨g12, h⟩ := q_gd_some h
          refine lv_ldiv hx hb dX10_alternate_49 (of_decide_eq_true g12) ?_
          refine lv_l2i (v := ((((μ5.1 157 (0 : Int32).toNatClampNeg).toInt64) * x1) / x3).toInt32) hx hb dX10_alternate_50 rfl ?_
          obtain ⟨u13, μ13, hc14, h⟩ := q_bd_some h
          refine q_kv F S (q_runV (As := [.int (((((μ5.1 157 (0 : Int32).toNatClampNeg).toInt64) * x1) / x3).toInt32)]) (rest := []) (b := 137) ⟨hx, hb, hml, hown, hts⟩ F S (c_X10_search l E hE (((((μ5.1 157 (0 : Int32).toNatClampNeg).toInt64) * x1) / x3).toInt32) μ5 μ13 u13 hc14) (cwV 1 hts gX10_alternate_X10_search rfl rfl rfl (by decide +kernel) ⟨Nat.le_of_ble_eq_true rfl, Nat.le_of_ble_eq_true rfl⟩) q_k137 (by decide) rfl rfl hl.1 rfl (Nat.le_of_ble_eq_true rfl) dX10_alternate_51 ⟨Nat.zero_le _, Nat.zero_le _⟩) (fun H locs S => ?_)
          refine lv_aload_n hx hb dX10_alternate_54 rfl (lv_at hl 0 rfl) ?_
          refine q_geti (own := RX10) (C := RX10) (T := TX10) (N := 54) (ci := 10) (j := 37)  hx hb hts i10 hown F S q_k137 (by decide) rfl (by decide) (by decide) rfl (hts (.fieldLink RX10 231 "HeavyRoutesModel" "bestSize" "I") (by decide +kernel)) dX10_alternate_55 ?_
          refine lv_if_ne (tgt := 63) hx hb dX10_alternate_58 (by decide) (fun c15 => ?_) (fun c15 => ?_)
          · have h := q_ig c15 h
            refine lv_aload_n hx hb dX10_alternate_63 rfl (lv_at hl 0 rfl) ?_
            obtain ⟨u16, μ16, hc17, h⟩ := q_bd_some h
            refine q_kv F S (q_runV (As := []) (rest := []) (b := 137) ⟨hx, hb, hml, hown, hts⟩ F S (c_X10_keep l E hE  μ13 μ16 u16 hc17) (cwV 0 hts gX10_alternate_X10_keep rfl rfl rfl (by decide +kernel) ⟨Nat.le_of_ble_eq_true rfl, Nat.le_of_ble_eq_true rfl⟩) q_k137 (by decide) rfl rfl hl.1 rfl (Nat.le_of_ble_eq_true rfl) dX10_alternate_64 ⟨Nat.zero_le _, Nat.zero_le _⟩) (fun H locs S => ?_)
            refine lv_aload_n hx hb dX10_alternate_67 rfl (lv_at hl 0 rfl) ?_
            refine q_geti (own := RX10) (C := RX10) (T := TX10) (N := 54) (ci := 10) (j := 38)  hx hb hts i10 hown F S q_k137 (by decide) rfl (by decide) (by decide) rfl (hts (.fieldLink RX10 234 "HeavyRoutesModel" "bestEnd" "I") (by decide +kernel)) dX10_alternate_68 ?_
            refine lv_aload_n hx hb dX10_alternate_71 rfl (lv_at hl 0 rfl) ?_
            refine q_geti (own := RX10) (C := RX10) (T := TX10) (N := 54) (ci := 10) (j := 27)  hx hb hts i10 hown F S q_k137 (by decide) rfl (by decide) (by decide) rfl (hts (.fieldLink RX10 250 "HeavyRoutesModel" "runMinute" "I") (by decide +kernel)) dX10_alternate_72 ?_
            refine lv_isub hx hb dX10_alternate_75 ?_
            exact q_iret hx hb hr S h hlk dX10_alternate_76
          · have h := q_ip c15 h
            refine lv_iconst (v := (-1)) hx hb dX10_alternate_61 (by decide) ?_
            exact q_iret hx hb hr S h hlk dX10_alternate_62
        · have h := q_ip c10 h
          refine lv_bipush (v := (-2)) hx hb dX10_alternate_35 (by decide) ?_
          exact q_iret hx hb hr S h hlk dX10_alternate_37
def f_X10_handSize (μ : q_M) : Option (Int32 × q_M) := (if (μ.1 137 28) = 0 then some (0, μ) else q_gd (q_ix ((μ.1 137 28) - 1) 5) (some ((μ.1 157 ((μ.1 137 28) - 1).toNatClampNeg), μ)))
set_option maxHeartbeats 4000000 in
set_option maxRecDepth 100000 in
theorem c_X10_handSize (l : Launch) (E : q_E) (hE : q_I E) (μ μr : q_M) (r : Int32) (h : f_X10_handSize μ = some (r, μr)) : Met l yX10_handSize wsX10_handSize ({ frames := 0, cells := 0, slots := 0, locals := 0 }) (q_Pc E μ [.ref (E.2.2.2 137)]) (q_Qi E r μr) 0 0 (q_A E) := by
  refine q_met (cc := cX10_handSize) (maxL := 1) (ret := (some .int)) hE (by decide) rfl (Nat.le_of_ble_eq_true rfl) ?_
  intro p e s m below meth c hx hb hr hml hown hts hlk F S ls hl
  have hl : lv_has ls 1 [(0, .ref (E.2.2.2 137))] := hl
  have i10 : ∀ w ∈ u_ws RX10 TX10 54, w ∈ wsX10_handSize := by decide +kernel
  unfold f_X10_handSize at h
  obtain ⟨H, eH⟩ : ∃ z, z = s.heap := ⟨_, rfl⟩
  obtain ⟨locs, eL⟩ : ∃ z : List Loc, z = [] := ⟨_, rfl⟩
  rw [← eH, ← eL] at S
  suffices hh : W p l e ({ frames := 0, cells := 0, slots := 0, locals := 0 }) s m ([.ref (E.2.2.2 137)] : List Value).toArray below meth c H locs 0 0 (MQ below (q_Qi E r μr) ([.ref (E.2.2.2 137)] : List Value).toArray s 0 0 (q_A E)) (F0 m 0 ls []) by rw [eH, eL] at hh; exact hh
  refine lv_aload_n hx hb dX10_handSize_0 rfl (lv_at hl 0 rfl) ?_
  refine q_geti (own := RX10) (C := RX10) (T := TX10) (N := 54) (ci := 10) (j := 28)  hx hb hts i10 hown F S q_k137 (by decide) rfl (by decide) (by decide) rfl (hts (.fieldLink RX10 109 "HeavyRoutesModel" "found" "I") (by decide +kernel)) dX10_handSize_1 ?_
  refine lv_if_ne (tgt := 11) hx hb dX10_handSize_4 (by decide) (fun c1 => ?_) (fun c1 => ?_)
  · have h := q_ig c1 h
    refine lv_aload_n hx hb dX10_handSize_11 rfl (lv_at hl 0 rfl) ?_
    refine q_getr (own := RX10) (C := RX10) (T := TX10) (N := 54) (ci := 10) (j := 30)  (b := 157) hx hb hts i10 hown F S q_k137 (by decide) rfl (by decide) (by decide) rfl (by decide) (hts (.fieldLink RX10 75 "HeavyRoutesModel" "foundSizes" "[I") (by decide +kernel)) dX10_handSize_12 ?_
    refine lv_aload_n hx hb dX10_handSize_15 rfl (lv_at hl 0 rfl) ?_
    refine q_geti (own := RX10) (C := RX10) (T := TX10) (N := 54) (ci := 10) (j := 28)  hx hb hts i10 hown F S q_k137 (by decide) rfl (by decide) (by decide) rfl (hts (.fieldLink RX10 109 "HeavyRoutesModel" "found" "I") (by decide +kernel)) dX10_handSize_16 ?_
    refine lv_iconst (v := 1) hx hb dX10_handSize_19 (by decide) ?_
    refine lv_isub hx hb dX10_handSize_20 ?_
    obtain ⟨g2, h⟩ := q_gd_some h
    refine q_iald hx hb F S q_k157 q_n157 g2 dX10_handSize_21 ?_
    exact q_iret hx hb hr S h hlk dX10_handSize_22
  · have h := q_ip c1 h
    refine lv_iconst (v := 0) hx hb dX10_handSize_7 (by decide) ?_
    refine lv_goto (tgt := 22) hx hb dX10_handSize_8 (by decide) ?_
    exact q_iret hx hb hr S h hlk dX10_handSize_22
def f_X10_hand (x1 : Int32) (μ : q_M) : Option (Int32 × q_M) := q_gd (q_ix ((12 * ((μ.1 137 28) - 1)) + x1) 60) (some ((μ.1 156 ((12 * ((μ.1 137 28) - 1)) + x1).toNatClampNeg), μ))
set_option maxHeartbeats 4000000 in
set_option maxRecDepth 100000 in
theorem c_X10_hand (l : Launch) (E : q_E) (hE : q_I E) (x1 : Int32) (μ μr : q_M) (r : Int32) (h : f_X10_hand x1 μ = some (r, μr)) : Met l yX10_hand wsX10_hand ({ frames := 0, cells := 0, slots := 0, locals := 0 }) (q_Pc E μ [.ref (E.2.2.2 137), .int x1]) (q_Qi E r μr) 0 0 (q_A E) := by
  refine q_met (cc := cX10_hand) (maxL := 2) (ret := (some .int)) hE (by decide) rfl (Nat.le_of_ble_eq_true rfl) ?_
  intro p e s m below meth c hx hb hr hml hown hts hlk F S ls hl
  have hl : lv_has ls 2 [(0, .ref (E.2.2.2 137)), (1, .int x1)] := hl
  have i10 : ∀ w ∈ u_ws RX10 TX10 54, w ∈ wsX10_hand := by decide +kernel
  unfold f_X10_hand at h
  obtain ⟨H, eH⟩ : ∃ z, z = s.heap := ⟨_, rfl⟩
  obtain ⟨locs, eL⟩ : ∃ z : List Loc, z = [] := ⟨_, rfl⟩
  rw [← eH, ← eL] at S
  suffices hh : W p l e ({ frames := 0, cells := 0, slots := 0, locals := 0 }) s m ([.ref (E.2.2.2 137), .int x1] : List Value).toArray below meth c H locs 0 0 (MQ below (q_Qi E r μr) ([.ref (E.2.2.2 137), .int x1] : List Value).toArray s 0 0 (q_A E)) (F0 m 0 ls []) by rw [eH, eL] at hh; exact hh
  refine lv_aload_n hx hb dX10_hand_0 rfl (lv_at hl 0 rfl) ?_
  refine q_getr (own := RX10) (C := RX10) (T := TX10) (N := 54) (ci := 10) (j := 29)  (b := 156) hx hb hts i10 hown F S q_k137 (by decide) rfl (by decide) (by decide) rfl (by decide) (hts (.fieldLink RX10 72 "HeavyRoutesModel" "foundRoads" "[I") (by decide +kernel)) dX10_hand_1 ?_
  refine lv_bipush (v := 12) hx hb dX10_hand_4 (by decide) ?_
  refine lv_aload_n hx hb dX10_hand_6 rfl (lv_at hl 0 rfl) ?_
  refine q_geti (own := RX10) (C := RX10) (T := TX10) (N := 54) (ci := 10) (j := 28)  hx hb hts i10 hown F S q_k137 (by decide) rfl (by decide) (by decide) rfl (hts (.fieldLink RX10 109 "HeavyRoutesModel" "found" "I") (by decide +kernel)) dX10_hand_7 ?_
  refine lv_iconst (v := 1) hx hb dX10_hand_10 (by decide) ?_
  refine lv_isub hx hb dX10_hand_11 ?_
  refine lv_imul hx hb dX10_hand_12 ?_
  refine lv_iload_n hx hb dX10_hand_13 rfl (lv_at hl 1 rfl) ?_
  refine lv_iadd hx hb dX10_hand_14 ?_
  obtain ⟨g1, h⟩ := q_gd_some h
  refine q_iald hx hb F S q_k156 q_n156 g1 dX10_hand_15 ?_
  exact q_iret hx hb hr S h hlk dX10_hand_16
def f_X10_road2 (x1 : Int32) (μ : q_M) : Option (Int32 × q_M) := q_bd (f_X10_handSize  μ) (fun r3 μ1 => q_bd (f_X10_in x1.toInt64 0 ((r3 - 1).toInt64) μ1) (fun r6 μ4 => (if r6 = 0 then some ((-1), μ4) else q_bd (f_X10_hand x1 μ4) (fun r10 μ8 => some (r10, μ8)))))
set_option maxHeartbeats 4000000 in
set_option maxRecDepth 100000 in
theorem c_X10_road2 (l : Launch) (E : q_E) (hE : q_I E) (x1 : Int32) (μ μr : q_M) (r : Int32) (h : f_X10_road2 x1 μ = some (r, μr)) : Met l yX10_road2 wsX10_road2 ({ frames := 1, cells := 0, slots := 0, locals := 25 }) (q_Pc E μ [.ref (E.2.2.2 137), .int x1]) (q_Qi E r μr) 0 0 (q_A E) := by
  refine q_met (cc := cX10_road2) (maxL := 2) (ret := (some .int)) hE (by decide) rfl (Nat.le_of_ble_eq_true rfl) ?_
  intro p e s m below meth c hx hb hr hml hown hts hlk F S ls hl
  have hl : lv_has ls 2 [(0, .ref (E.2.2.2 137)), (1, .int x1)] := hl
  unfold f_X10_road2 at h
  obtain ⟨H, eH⟩ : ∃ z, z = s.heap := ⟨_, rfl⟩
  obtain ⟨locs, eL⟩ : ∃ z : List Loc, z = [] := ⟨_, rfl⟩
  rw [← eH, ← eL] at S
  suffices hh : W p l e ({ frames := 1, cells := 0, slots := 0, locals := 25 }) s m ([.ref (E.2.2.2 137), .int x1] : List Value).toArray below meth c H locs 0 0 (MQ below (q_Qi E r μr) ([.ref (E.2.2.2 137), .int x1] : List Value).toArray s 0 0 (q_A E)) (F0 m 0 ls []) by rw [eH, eL] at hh; exact hh
  refine lv_iload_n hx hb dX10_road2_0 rfl (lv_at hl 1 rfl) ?_
  refine lv_i2l (v := x1.toInt64) hx hb dX10_road2_1 rfl ?_
  refine lv_lconst (v := 0) hx hb dX10_road2_2 (by decide) ?_
  refine lv_aload_n hx hb dX10_road2_3 rfl (lv_at hl 0 rfl) ?_
  obtain ⟨r3, μ1, hc2, h⟩ := q_bd_some h
  refine q_ki F S (q_runV (As := []) (rest := [.long 0, .long x1.toInt64]) (b := 137) ⟨hx, hb, hml, hown, hts⟩ F S (c_X10_handSize l E hE  μ μ1 r3 hc2) (cwV 0 hts gX10_road2_X10_handSize rfl rfl rfl (by decide +kernel) ⟨Nat.le_of_ble_eq_true rfl, Nat.le_of_ble_eq_true rfl⟩) q_k137 (by decide) rfl rfl hl.1 rfl (Nat.le_of_ble_eq_true rfl) dX10_road2_4 ⟨Nat.zero_le _, Nat.zero_le _⟩) (fun H locs S => ?_)
  refine lv_iconst (v := 1) hx hb dX10_road2_7 (by decide) ?_
  refine lv_isub hx hb dX10_road2_8 ?_
  refine lv_i2l (v := (r3 - 1).toInt64) hx hb dX10_road2_9 rfl ?_
  obtain ⟨r6, μ4, hc5, h⟩ := q_bd_some h
  refine q_ki F S (q_runS (As := [.long x1.toInt64, .long 0, .long ((r3 - 1).toInt64)]) (rest := []) ⟨hx, hb, hml, hown, hts⟩ F S (c_X10_in l E hE x1.toInt64 0 ((r3 - 1).toInt64) μ1 μ4 r6 hc5) (va_cwS 3 hts gX10_road2_X10_in rfl rfl rfl (by decide +kernel) ⟨Nat.le_of_ble_eq_true rfl, Nat.le_of_ble_eq_true rfl⟩) rfl hl.1 rfl (Nat.le_of_ble_eq_true rfl) dX10_road2_10 ⟨Nat.zero_le _, Nat.zero_le _⟩) (fun H locs S => ?_)
  refine lv_if_eq (tgt := 24) hx hb dX10_road2_13 (by decide) (fun c7 => ?_) (fun c7 => ?_)
  · have h := q_ip c7 h
    refine lv_iconst (v := (-1)) hx hb dX10_road2_24 (by decide) ?_
    exact q_iret hx hb hr S h hlk dX10_road2_25
  · have h := q_ig c7 h
    refine lv_aload_n hx hb dX10_road2_16 rfl (lv_at hl 0 rfl) ?_
    refine lv_iload_n hx hb dX10_road2_17 rfl (lv_at hl 1 rfl) ?_
    obtain ⟨r10, μ8, hc9, h⟩ := q_bd_some h
    refine q_ki F S (q_runV (As := [.int x1]) (rest := []) (b := 137) ⟨hx, hb, hml, hown, hts⟩ F S (c_X10_hand l E hE x1 μ4 μ8 r10 hc9) (cwV 1 hts gX10_road2_X10_hand rfl rfl rfl (by decide +kernel) ⟨Nat.le_of_ble_eq_true rfl, Nat.le_of_ble_eq_true rfl⟩) q_k137 (by decide) rfl rfl hl.1 rfl (Nat.le_of_ble_eq_true rfl) dX10_road2_18 ⟨Nat.zero_le _, Nat.zero_le _⟩) (fun H locs S => ?_)
    refine lv_goto (tgt := 25) hx hb dX10_road2_21 (by decide) ?_
    exact q_iret hx hb hr S h hlk dX10_road2_25
def f_X10_begun (x1 : Int32) (μ : q_M) : Option (Int32 × q_M) := q_bd (f_X10_handSize  μ) (fun r3 μ1 => q_bd (f_X10_in x1.toInt64 0 ((r3 - 1).toInt64) μ1) (fun r6 μ4 => (if r6 = 0 then some ((-1), μ4) else q_bd (f_X10_hand x1 μ4) (fun r10 μ8 => q_bd (f_X10_endOf 156 (12 * ((μ8.1 137 28) - 1)) x1 (μ8.1 137 27) μ8) (fun r13 μ11 => q_bd (f_X10_earliest r10 r13 μ11) (fun r16 μ14 => some (r16, μ14)))))))
set_option maxHeartbeats 4000000 in
set_option maxRecDepth 100000 in
theorem c_X10_begun (l : Launch) (E : q_E) (hE : q_I E) (x1 : Int32) (μ μr : q_M) (r : Int32) (h : f_X10_begun x1 μ = some (r, μr)) : Met l yX10_begun wsX10_begun ({ frames := 3, cells := 0, slots := 0, locals := 75 }) (q_Pc E μ [.ref (E.2.2.2 137), .int x1]) (q_Qi E r μr) 0 0 (q_A E) := by
  refine q_met (cc := cX10_begun) (maxL := 2) (ret := (some .int)) hE (by decide) rfl (Nat.le_of_ble_eq_true rfl) ?_
  intro p e s m below meth c hx hb hr hml hown hts hlk F S ls hl
  have hl : lv_has ls 2 [(0, .ref (E.2.2.2 137)), (1, .int x1)] := hl
  have i10 : ∀ w ∈ u_ws RX10 TX10 54, w ∈ wsX10_begun := by decide +kernel
  unfold f_X10_begun at h
  obtain ⟨H, eH⟩ : ∃ z, z = s.heap := ⟨_, rfl⟩
  obtain ⟨locs, eL⟩ : ∃ z : List Loc, z = [] := ⟨_, rfl⟩
  rw [← eH, ← eL] at S
  suffices hh : W p l e ({ frames := 3, cells := 0, slots := 0, locals := 75 }) s m ([.ref (E.2.2.2 137), .int x1] : List Value).toArray below meth c H locs 0 0 (MQ below (q_Qi E r μr) ([.ref (E.2.2.2 137), .int x1] : List Value).toArray s 0 0 (q_A E)) (F0 m 0 ls []) by rw [eH, eL] at hh; exact hh
  refine lv_iload_n hx hb dX10_begun_0 rfl (lv_at hl 1 rfl) ?_
  refine lv_i2l (v := x1.toInt64) hx hb dX10_begun_1 rfl ?_
  refine lv_lconst (v := 0) hx hb dX10_begun_2 (by decide) ?_
  refine lv_aload_n hx hb dX10_begun_3 rfl (lv_at hl 0 rfl) ?_
  obtain ⟨r3, μ1, hc2, h⟩ := q_bd_some h
  refine q_ki F S (q_runV (As := []) (rest := [.long 0, .long x1.toInt64]) (b := 137) ⟨hx, hb, hml, hown, hts⟩ F S (c_X10_handSize l E hE  μ μ1 r3 hc2) (cwV 0 hts gX10_begun_X10_handSize rfl rfl rfl (by decide +kernel) ⟨Nat.le_of_ble_eq_true rfl, Nat.le_of_ble_eq_true rfl⟩) q_k137 (by decide) rfl rfl hl.1 rfl (Nat.le_of_ble_eq_true rfl) dX10_begun_4 ⟨Nat.zero_le _, Nat.zero_le _⟩) (fun H locs S => ?_)
  refine lv_iconst (v := 1) hx hb dX10_begun_7 (by decide) ?_
  refine lv_isub hx hb dX10_begun_8 ?_
  refine lv_i2l (v := (r3 - 1).toInt64) hx hb dX10_begun_9 rfl ?_
  obtain ⟨r6, μ4, hc5, h⟩ := q_bd_some h
  refine q_ki F S (q_runS (As := [.long x1.toInt64, .long 0, .long ((r3 - 1).toInt64)]) (rest := []) ⟨hx, hb, hml, hown, hts⟩ F S (c_X10_in l E hE x1.toInt64 0 ((r3 - 1).toInt64) μ1 μ4 r6 hc5) (va_cwS 3 hts gX10_begun_X10_in rfl rfl rfl (by decide +kernel) ⟨Nat.le_of_ble_eq_true rfl, Nat.le_of_ble_eq_true rfl⟩) rfl hl.1 rfl (Nat.le_of_ble_eq_true rfl) dX10_begun_10 ⟨Nat.zero_le _, Nat.zero_le _⟩) (fun H locs S => ?_)
  refine lv_if_ne (tgt := 18) hx hb dX10_begun_13 (by decide) (fun c7 => ?_) (fun c7 => ?_)
  · have h := q_ig c7 h
    refine lv_aload_n hx hb dX10_begun_18 rfl (lv_at hl 0 rfl) ?_
    refine lv_aload_n hx hb dX10_begun_19 rfl (lv_at hl 0 rfl) ?_
    refine lv_iload_n hx hb dX10_begun_20 rfl (lv_at hl 1 rfl) ?_
    obtain ⟨r10, μ8, hc9, h⟩ := q_bd_some h
    refine q_ki F S (q_runV (As := [.int x1]) (rest := [.ref (E.2.2.2 137)]) (b := 137) ⟨hx, hb, hml, hown, hts⟩ F S (c_X10_hand l E hE x1 μ4 μ8 r10 hc9) (cwV 1 hts gX10_begun_X10_hand rfl rfl rfl (by decide +kernel) ⟨Nat.le_of_ble_eq_true rfl, Nat.le_of_ble_eq_true rfl⟩) q_k137 (by decide) rfl rfl hl.1 rfl (Nat.le_of_ble_eq_true rfl) dX10_begun_21 ⟨Nat.zero_le _, Nat.zero_le _⟩) (fun H locs S => ?_)
    refine lv_aload_n hx hb dX10_begun_24 rfl (lv_at hl 0 rfl) ?_
    refine lv_aload_n hx hb dX10_begun_25 rfl (lv_at hl 0 rfl) ?_
    refine q_getr (own := RX10) (C := RX10) (T := TX10) (N := 54) (ci := 10) (j := 29)  (b := 156) hx hb hts i10 hown F S q_k137 (by decide) rfl (by decide) (by decide) rfl (by decide) (hts (.fieldLink RX10 72 "HeavyRoutesModel" "foundRoads" "[I") (by decide +kernel)) dX10_begun_26 ?_
    refine lv_bipush (v := 12) hx hb dX10_begun_29 (by decide) ?_
    refine lv_aload_n hx hb dX10_begun_31 rfl (lv_at hl 0 rfl) ?_
    refine q_geti (own := RX10) (C := RX10) (T := TX10) (N := 54) (ci := 10) (j := 28)  hx hb hts i10 hown F S q_k137 (by decide) rfl (by decide) (by decide) rfl (hts (.fieldLink RX10 109 "HeavyRoutesModel" "found" "I") (by decide +kernel)) dX10_begun_32 ?_
    refine lv_iconst (v := 1) hx hb dX10_begun_35 (by decide) ?_
    refine lv_isub hx hb dX10_begun_36 ?_
    refine lv_imul hx hb dX10_begun_37 ?_
    refine lv_iload_n hx hb dX10_begun_38 rfl (lv_at hl 1 rfl) ?_
    refine lv_aload_n hx hb dX10_begun_39 rfl (lv_at hl 0 rfl) ?_
    refine q_geti (own := RX10) (C := RX10) (T := TX10) (N := 54) (ci := 10) (j := 27)  hx hb hts i10 hown F S q_k137 (by decide) rfl (by decide) (by decide) rfl (hts (.fieldLink RX10 250 "HeavyRoutesModel" "runMinute" "I") (by decide +kernel)) dX10_begun_40 ?_
    obtain ⟨r13, μ11, hc12, h⟩ := q_bd_some h
    refine q_ki F S (q_runV (As := [.ref (E.2.2.2 156), .int (12 * ((μ8.1 137 28) - 1)), .int x1, .int (μ8.1 137 27)]) (rest := [.int r10, .ref (E.2.2.2 137)]) (b := 137) ⟨hx, hb, hml, hown, hts⟩ F S (c_X10_endOf l E hE 156 (12 * ((μ8.1 137 28) - 1)) x1 (μ8.1 137 27) q_k156 μ8 μ11 r13 hc12) (cwV 4 hts gX10_begun_X10_endOf rfl rfl rfl (by decide +kernel) ⟨Nat.le_of_ble_eq_true rfl, Nat.le_of_ble_eq_true rfl⟩) q_k137 (by decide) rfl rfl hl.1 rfl (Nat.le_of_ble_eq_true rfl) dX10_begun_43 ⟨Nat.zero_le _, Nat.zero_le _⟩) (fun H locs S => ?_)
    obtain ⟨r16, μ14, hc15, h⟩ := q_bd_some h
    refine q_ki F S (q_runV (As := [.int r10, .int r13]) (rest := []) (b := 137) ⟨hx, hb, hml, hown, hts⟩ F S (c_X10_earliest l E hE r10 r13 μ11 μ14 r16 hc15) (cwV 2 hts gX10_begun_X10_earliest rfl rfl rfl (by decide +kernel) ⟨Nat.le_of_ble_eq_true rfl, Nat.le_of_ble_eq_true rfl⟩) q_k137 (by decide) rfl rfl hl.1 rfl (Nat.le_of_ble_eq_true rfl) dX10_begun_46 ⟨Nat.zero_le _, Nat.zero_le _⟩) (fun H locs S => ?_)
    exact q_iret hx hb hr S h hlk dX10_begun_49
  · have h := q_ip c7 h
    refine lv_iconst (v := (-1)) hx hb dX10_begun_16 (by decide) ?_
    exact q_iret hx hb hr S h hlk dX10_begun_17
def L_X10_bars_16 (x1 : Int32) (x2 : Int32) (Kx : q_M → Option (Int32 × q_M)) : Nat → Int32 → Int32 → q_M → Option (Int32 × q_M)
  | 0, _, _, _ => none
  | n + 1, v3, v4, μ => (if (μ.1 137 1) ≤ v4 then Kx μ else q_bd (f_X10_why v4 μ) (fun r6 μ4 => (if r6 ≤ 0 then q_le (v4 + 1 : Int32) (fun y8 => (L_X10_bars_16 x1 x2 Kx n) v3 y8 μ4) else (if v3 = x1 then (if x2 = 0 then some (v4, μ4) else some (r6, μ4)) else q_le (v3 + 1 : Int32) (fun y10 => q_le (v4 + 1 : Int32) (fun y11 => (L_X10_bars_16 x1 x2 Kx n) y10 y11 μ4))))))
def f_X10_bars (x1 : Int32) (x2 : Int32) (μ : q_M) : Option (Int32 × q_M) := (if x2 < 0 then some ((-1), μ) else (if x2 ≤ 1 then L_X10_bars_16 x1 x2 (fun μ => some ((-1), μ)) q_fu 0 0 μ else some ((-1), μ)))
set_option maxHeartbeats 4000000 in
set_option maxRecDepth 100000 in
theorem c_X10_bars (l : Launch) (E : q_E) (hE : q_I E) (x1 : Int32) (x2 : Int32) (μ μr : q_M) (r : Int32) (h : f_X10_bars x1 x2 μ = some (r, μr)) : Met l yX10_bars wsX10_bars ({ frames := 6, cells := 0, slots := 0, locals := 157 }) (q_Pc E μ [.ref (E.2.2.2 137), .int x1, .int x2]) (q_Qi E r μr) 0 0 (q_A E) := by
  refine q_met (cc := cX10_bars) (maxL := 6) (ret := (some .int)) hE (by decide) rfl (Nat.le_of_ble_eq_true rfl) ?_
  intro p e s m below meth c hx hb hr hml hown hts hlk F S ls hl
  have hl : lv_has ls 6 [(0, .ref (E.2.2.2 137)), (1, .int x1), (2, .int x2)] := hl
  have i10 : ∀ w ∈ u_ws RX10 TX10 54, w ∈ wsX10_bars := by decide +kernel
  have hL16 : ∀ (Kx : q_M → Option (Int32 × q_M)), (∀ (μ : q_M) (H : Heap) (locs : List Loc) (ls : Array Slot), q_S E (q_A E) s μ H locs → lv_has ls 6 [] → Kx μ = some (r, μr) → W p l e ({ frames := 6, cells := 0, slots := 0, locals := 157 }) s m ([.ref (E.2.2.2 137), .int x1, .int x2] : List Value).toArray below meth c H locs 0 0 (MQ below (q_Qi E r μr) ([.ref (E.2.2.2 137), .int x1, .int x2] : List Value).toArray s 0 0 (q_A E)) (F0 m 64 ls [])) → ∀ (n : Nat), ∀ (v3 : Int32), ∀ (v4 : Int32), ∀ (μ : q_M) (H : Heap) (locs : List Loc) (ls : Array Slot), q_S E (q_A E) s μ H locs → lv_has ls 6 [(0, .ref (E.2.2.2 137)), (1, .int x1), (2, .int x2), (3, .int v3), (4, .int v4)] → L_X10_bars_16 x1 x2 Kx n v3 v4 μ = some (r, μr) → W p l e ({ frames := 6, cells := 0, slots := 0, locals := 157 }) s m ([.ref (E.2.2.2 137), .int x1, .int x2] : List Value).toArray below meth c H locs 0 0 (MQ below (q_Qi E r μr) ([.ref (E.2.2.2 137), .int x1, .int x2] : List Value).toArray s 0 0 (q_A E)) (F0 m 16 ls []) := by
    intro Kx hKx n
    induction n with
    | zero => intro v3 v4 μ H locs ls S hl h; exact absurd h (by simp [L_X10_bars_16])
    | succ n ih =>
      intro v3 v4 μ H locs ls S hl h
      rw [L_X10_bars_16] at h
      refine lv_iload hx hb dX10_bars_16 (lv_at hl 4 rfl) ?_
      refine lv_aload_n hx hb dX10_bars_18 rfl (lv_at hl 0 rfl) ?_
      refine q_geti (own := RX10) (C := RX10) (T := TX10) (N := 54) (ci := 10) (j := 1)  hx hb hts i10 hown F S q_k137 (by decide) rfl (by decide) (by decide) rfl (hts (.fieldLink RX10 99 "HeavyRoutesModel" "roads" "I") (by decide +kernel)) dX10_bars_19 ?_
      refine lv_icmp_ge (tgt := 64) hx hb dX10_bars_22 (by decide) (fun c3 => ?_) (fun c3 => ?_)
      · have h := q_ip c3 h
        exact hKx μ H locs ls S (lv_sub hl [] rfl) h
      · have h := q_ig c3 h
        refine lv_aload_n hx hb dX10_bars_25 rfl (lv_at hl 0 rfl) ?_
        refine lv_iload hx hb dX10_bars_26 (lv_at hl 4 rfl) ?_
        obtain ⟨r6, μ4, hc5, h⟩ := q_bd_some h
        refine q_ki F S (q_runV (As := [.int v4]) (rest := []) (b := 137) ⟨hx, hb, hml, hown, hts⟩ F S (c_X10_why l E hE v4 μ μ4 r6 hc5) (cwV 1 hts gX10_bars_X10_why rfl rfl rfl (by decide +kernel) ⟨Nat.le_of_ble_eq_true rfl, Nat.le_of_ble_eq_true rfl⟩) q_k137 (by decide) rfl rfl hl.1 rfl (Nat.le_of_ble_eq_true rfl) dX10_bars_28 ⟨Nat.zero_le _, Nat.zero_le _⟩) (fun H locs S => ?_)
        refine lv_istore (lv' := [(5, .int r6), (0, .ref (E.2.2.2 137)), (1, .int x1), (2, .int x2), (3, .int v3), (4, .int v4)]) hx hb dX10_bars_31 hl (by decide) rfl (fun ls hl => ?_)
        refine lv_iload hx hb dX10_bars_33 (lv_at hl 0 rfl) ?_
        refine lv_if_le (tgt := 58) hx hb dX10_bars_35 (by decide) (fun c7 => ?_) (fun c7 => ?_)
        · have h := q_ip c7 h
          obtain ⟨y8, ey8⟩ : ∃ z : Int32, z = v4 + 1 := ⟨_, rfl⟩
          have h := q_le_e h ey8
          refine lv_iinc (v := y8) (lv' := [(4, .int y8), (5, .int r6), (0, .ref (E.2.2.2 137)), (1, .int x1), (2, .int x2), (3, .int v3)]) hx hb dX10_bars_58 hl (k := 5) rfl (by rw [ey8]; rfl) (by decide) rfl (fun ls hl => ?_)
          refine lv_goto (tgt := 16) hx hb dX10_bars_61 (by decide) ?_
          exact ih v3 y8 μ4 H locs ls S (lv_sub hl [2, 3, 4, 5, 0] rfl) h
        · have h := q_ig c7 h
          refine lv_iload_n hx hb dX10_bars_38 rfl (lv_at hl 4 rfl) ?_
          refine lv_iload_n hx hb dX10_bars_39 rfl (lv_at hl 2 rfl) ?_
          refine lv_icmp_ne (tgt := 55) hx hb dX10_bars_40 (by decide) (fun c9 => ?_) (fun c9 => ?_)
          · have h := q_ig c9 h
            obtain ⟨y10, ey10⟩ : ∃ z : Int32, z = v3 + 1 := ⟨_, rfl⟩
            have h := q_le_e h ey10
            refine lv_iinc (v := y10) (lv' := [(3, .int y10), (5, .int r6), (0, .ref (E.2.2.2 137)), (1, .int x1), (2, .int x2), (4, .int v4)]) hx hb dX10_bars_55 hl (k := 4) rfl (by rw [ey10]; rfl) (by decide) rfl (fun ls hl => ?_)
            obtain ⟨y11, ey11⟩ : ∃ z : Int32, z = v4 + 1 := ⟨_, rfl⟩
            have h := q_le_e h ey11
            refine lv_iinc (v := y11) (lv' := [(4, .int y11), (3, .int y10), (5, .int r6), (0, .ref (E.2.2.2 137)), (1, .int x1), (2, .int x2)]) hx hb dX10_bars_58 hl (k := 5) rfl (by rw [ey11]; rfl) (by decide) rfl (fun ls hl => ?_)
            refine lv_goto (tgt := 16) hx hb dX10_bars_61 (by decide) ?_
            exact ih y10 y11 μ4 H locs ls S (lv_sub hl [3, 4, 5, 1, 0] rfl) h
          · have h := q_ip c9 h
            refine lv_iload_n hx hb dX10_bars_43 rfl (lv_at hl 3 rfl) ?_
            refine lv_if_ne (tgt := 52) hx hb dX10_bars_44 (by decide) (fun c12 => ?_) (fun c12 => ?_)
            · have h := q_ig c12 h
              refine lv_iload hx hb dX10_bars_52 (lv_at hl 0 rfl) ?_
              exact q_iret hx hb hr S h hlk dX10_bars_54
            · have h := q_ip c12 h
              refine lv_iload hx hb dX10_bars_47 (lv_at hl 5 rfl) ?_
              refine lv_goto (tgt := 54) hx hb dX10_bars_49 (by decide) ?_
              exact q_iret hx hb hr S h hlk dX10_bars_54
  unfold f_X10_bars at h
  obtain ⟨H, eH⟩ : ∃ z, z = s.heap := ⟨_, rfl⟩
  obtain ⟨locs, eL⟩ : ∃ z : List Loc, z = [] := ⟨_, rfl⟩
  rw [← eH, ← eL] at S
  suffices hh : W p l e ({ frames := 6, cells := 0, slots := 0, locals := 157 }) s m ([.ref (E.2.2.2 137), .int x1, .int x2] : List Value).toArray below meth c H locs 0 0 (MQ below (q_Qi E r μr) ([.ref (E.2.2.2 137), .int x1, .int x2] : List Value).toArray s 0 0 (q_A E)) (F0 m 0 ls []) by rw [eH, eL] at hh; exact hh
  refine lv_iload_n hx hb dX10_bars_0 rfl (lv_at hl 2 rfl) ?_
  refine lv_if_lt (tgt := 9) hx hb dX10_bars_1 (by decide) (fun c1 => ?_) (fun c1 => ?_)
  · have h := q_ip c1 h
    refine lv_iconst (v := (-1)) hx hb dX10_bars_9 (by decide) ?_
    exact q_iret hx hb hr S h hlk dX10_bars_10
  · have h := q_ig c1 h
    refine lv_iload_n hx hb dX10_bars_4 rfl (lv_at hl 2 rfl) ?_
    refine lv_iconst (v := 1) hx hb dX10_bars_5 (by decide) ?_
    refine lv_icmp_le (tgt := 11) hx hb dX10_bars_6 (by decide) (fun c2 => ?_) (fun c2 => ?_)
    · have h := q_ip c2 h
      refine lv_iconst (v := 0) hx hb dX10_bars_11 (by decide) ?_
      refine lv_istore_n (lv' := [(3, .int 0), (0, .ref (E.2.2.2 137)), (1, .int x1), (2, .int x2)]) hx hb dX10_bars_12 rfl hl (by decide) rfl (fun ls hl => ?_)
      refine lv_iconst (v := 0) hx hb dX10_bars_13 (by decide) ?_
      refine lv_istore (lv' := [(4, .int 0), (3, .int 0), (0, .ref (E.2.2.2 137)), (1, .int x1), (2, .int x2)]) hx hb dX10_bars_14 hl (by decide) rfl (fun ls hl => ?_)
      refine hL16 _ (fun μ H locs ls S hl h => ?_) q_fu 0 0 μ H locs ls S (lv_sub hl [2, 3, 4, 1, 0] rfl) h
      refine lv_iconst (v := (-1)) hx hb dX10_bars_64 (by decide) ?_
      exact q_iret hx hb hr S h hlk dX10_bars_65
    · have h := q_ig c2 h
      refine lv_iconst (v := (-1)) hx hb dX10_bars_9 (by decide) ?_
      exact q_iret hx hb hr S h hlk dX10_bars_10
def L_X10_convoy_38 (x1 : Int32) (x2 : Int32) (Kx : Int32 → q_M → Option (Int32 × q_M)) : Nat → Int32 → Int32 → q_M → Option (Int32 × q_M)
  | 0, _, _, _ => none
  | n + 1, v3, v4, μ => (if x1 ≤ v4 then Kx v3 μ else q_bd (f_X10_handSize  μ) (fun r16 μ14 => q_bd (f_X10_endOf 156 (12 * ((μ.1 137 28) - 1)) r16 ((μ14.1 137 27) + (v4 * x2)) μ14) (fun r19 μ17 => (if r19 ≤ v3 then q_le (v4 + 1 : Int32) (fun y21 => (L_X10_convoy_38 x1 x2 Kx n) v3 y21 μ17) else q_le (v4 + 1 : Int32) (fun y22 => (L_X10_convoy_38 x1 x2 Kx n) r19 y22 μ17)))))
def f_X10_convoy (x1 : Int32) (x2 : Int32) (μ : q_M) : Option (Int32 × q_M) := q_bd (f_X10_in x1.toInt64 1 20 μ) (fun r3 μ1 => (if r3 = 0 then some ((-1), μ1) else q_bd (f_X10_in x2.toInt64 0 600 μ1) (fun r7 μ5 => (if r7 = 0 then some ((-1), μ5) else q_bd (f_X10_handSize  μ5) (fun r11 μ9 => (if r11 = 0 then some ((-1), μ9) else L_X10_convoy_38 x1 x2 (fun v3 μ => some ((v3 - (μ.1 137 27)), μ)) q_fu 0 0 μ9))))))
set_option maxHeartbeats 4000000 in
set_option maxRecDepth 100000 in
theorem c_X10_convoy (l : Launch) (E : q_E) (hE : q_I E) (x1 : Int32) (x2 : Int32) (μ μr : q_M) (r : Int32) (h : f_X10_convoy x1 x2 μ = some (r, μr)) : Met l yX10_convoy wsX10_convoy ({ frames := 3, cells := 0, slots := 0, locals := 75 }) (q_Pc E μ [.ref (E.2.2.2 137), .int x1, .int x2]) (q_Qi E r μr) 0 0 (q_A E) := by
  refine q_met (cc := cX10_convoy) (maxL := 6) (ret := (some .int)) hE (by decide) rfl (Nat.le_of_ble_eq_true rfl) ?_
  intro p e s m below meth c hx hb hr hml hown hts hlk F S ls hl
  have hl : lv_has ls 6 [(0, .ref (E.2.2.2 137)), (1, .int x1), (2, .int x2)] := hl
  have i10 : ∀ w ∈ u_ws RX10 TX10 54, w ∈ wsX10_convoy := by decide +kernel
  have hL38 : ∀ (Kx : Int32 → q_M → Option (Int32 × q_M)), (∀ (v3 : Int32), ∀ (μ : q_M) (H : Heap) (locs : List Loc) (ls : Array Slot), q_S E (q_A E) s μ H locs → lv_has ls 6 [(0, .ref (E.2.2.2 137)), (3, .int v3)] → Kx v3 μ = some (r, μr) → W p l e ({ frames := 3, cells := 0, slots := 0, locals := 75 }) s m ([.ref (E.2.2.2 137), .int x1, .int x2] : List Value).toArray below meth c H locs 0 0 (MQ below (q_Qi E r μr) ([.ref (E.2.2.2 137), .int x1, .int x2] : List Value).toArray s 0 0 (q_A E)) (F0 m 95 ls [])) → ∀ (n : Nat), ∀ (v3 : Int32), ∀ (v4 : Int32), ∀ (μ : q_M) (H : Heap) (locs : List Loc) (ls : Array Slot), q_S E (q_A E) s μ H locs → lv_has ls 6 [(0, .ref (E.2.2.2 137)), (1, .int x1), (2, .int x2), (3, .int v3), (4, .int v4)] → L_X10_convoy_38 x1 x2 Kx n v3 v4 μ = some (r, μr) → W p l e ({ frames := 3, cells := 0, slots := 0, locals := 75 }) s m ([.ref (E.2.2.2 137), .int x1, .int x2] : List Value).toArray below meth c H locs 0 0 (MQ below (q_Qi E r μr) ([.ref (E.2.2.2 137), .int x1, .int x2] : List Value).toArray s 0 0 (q_A E)) (F0 m 38 ls []) := by
    intro Kx hKx n
    induction n with
    | zero => intro v3 v4 μ H locs ls S hl h; exact absurd h (by simp [L_X10_convoy_38])
    | succ n ih =>
      intro v3 v4 μ H locs ls S hl h
      rw [L_X10_convoy_38] at h
      refine lv_iload hx hb dX10_convoy_38 (lv_at hl 4 rfl) ?_
      refine lv_iload_n hx hb dX10_convoy_40 rfl (lv_at hl 1 rfl) ?_
      refine lv_icmp_ge (tgt := 95) hx hb dX10_convoy_41 (by decide) (fun c13 => ?_) (fun c13 => ?_)
      · have h := q_ip c13 h
        exact hKx v3 μ H locs ls S (lv_sub hl [0, 3] rfl) h
      · have h := q_ig c13 h
        refine lv_aload_n hx hb dX10_convoy_44 rfl (lv_at hl 0 rfl) ?_
        refine lv_aload_n hx hb dX10_convoy_45 rfl (lv_at hl 0 rfl) ?_
        refine q_getr (own := RX10) (C := RX10) (T := TX10) (N := 54) (ci := 10) (j := 29)  (b := 156) hx hb hts i10 hown F S q_k137 (by decide) rfl (by decide) (by decide) rfl (by decide) (hts (.fieldLink RX10 72 "HeavyRoutesModel" "foundRoads" "[I") (by decide +kernel)) dX10_convoy_46 ?_
        refine lv_bipush (v := 12) hx hb dX10_convoy_49 (by decide) ?_
        refine lv_aload_n hx hb dX10_convoy_51 rfl (lv_at hl 0 rfl) ?_
        refine q_geti (own := RX10) (C := RX10) (T := TX10) (N := 54) (ci := 10) (j := 28)  hx hb hts i10 hown F S q_k137 (by decide) rfl (by decide) (by decide) rfl (hts (.fieldLink RX10 109 "HeavyRoutesModel" "found" "I") (by decide +kernel)) dX10_convoy_52 ?_
        refine lv_iconst (v := 1) hx hb dX10_convoy_55 (by decide) ?_
        refine lv_isub hx hb dX10_convoy_56 ?_
        refine lv_imul hx hb dX10_convoy_57 ?_
        refine lv_aload_n hx hb dX10_convoy_58 rfl (lv_at hl 0 rfl) ?_
        obtain ⟨r16, μ14, hc15, h⟩ := q_bd_some h
        refine q_ki F S (q_runV (As := []) (rest := [.int (12 * ((μ.1 137 28) - 1)), .ref (E.2.2.2 156), .ref (E.2.2.2 137)]) (b := 137) ⟨hx, hb, hml, hown, hts⟩ F S (c_X10_handSize l E hE  μ μ14 r16 hc15) (cwV 0 hts gX10_convoy_X10_handSize rfl rfl rfl (by decide +kernel) ⟨Nat.le_of_ble_eq_true rfl, Nat.le_of_ble_eq_true rfl⟩) q_k137 (by decide) rfl rfl hl.1 rfl (Nat.le_of_ble_eq_true rfl) dX10_convoy_59 ⟨Nat.zero_le _, Nat.zero_le _⟩) (fun H locs S => ?_)
        refine lv_aload_n hx hb dX10_convoy_62 rfl (lv_at hl 0 rfl) ?_
        refine q_geti (own := RX10) (C := RX10) (T := TX10) (N := 54) (ci := 10) (j := 27)  hx hb hts i10 hown F S q_k137 (by decide) rfl (by decide) (by decide) rfl (hts (.fieldLink RX10 250 "HeavyRoutesModel" "runMinute" "I") (by decide +kernel)) dX10_convoy_63 ?_
        refine lv_iload hx hb dX10_convoy_66 (lv_at hl 4 rfl) ?_
        refine lv_iload_n hx hb dX10_convoy_68 rfl (lv_at hl 2 rfl) ?_
        refine lv_imul hx hb dX10_convoy_69 ?_
        refine lv_iadd hx hb dX10_convoy_70 ?_
        obtain ⟨r19, μ17, hc18, h⟩ := q_bd_some h
        refine q_ki F S (q_runV (As := [.ref (E.2.2.2 156), .int (12 * ((μ.1 137 28) - 1)), .int r16, .int ((μ14.1 137 27) + (v4 * x2))]) (rest := []) (b := 137) ⟨hx, hb, hml, hown, hts⟩ F S (c_X10_endOf l E hE 156 (12 * ((μ.1 137 28) - 1)) r16 ((μ14.1 137 27) + (v4 * x2)) q_k156 μ14 μ17 r19 hc18) (cwV 4 hts gX10_convoy_X10_endOf rfl rfl rfl (by decide +kernel) ⟨Nat.le_of_ble_eq_true rfl, Nat.le_of_ble_eq_true rfl⟩) q_k137 (by decide) rfl rfl hl.1 rfl (Nat.le_of_ble_eq_true rfl) dX10_convoy_71 ⟨Nat.zero_le _, Nat.zero_le _⟩) (fun H locs S => ?_)
        refine lv_istore (lv' := [(5, .int r19), (0, .ref (E.2.2.2 137)), (1, .int x1), (2, .int x2), (3, .int v3), (4, .int v4)]) hx hb dX10_convoy_74 hl (by decide) rfl (fun ls hl => ?_)
        refine lv_iload hx hb dX10_convoy_76 (lv_at hl 0 rfl) ?_
        refine lv_iload_n hx hb dX10_convoy_78 rfl (lv_at hl 4 rfl) ?_
        refine lv_icmp_le (tgt := 87) hx hb dX10_convoy_79 (by decide) (fun c20 => ?_) (fun c20 => ?_)
        · have h := q_ip c20 h
          refine lv_iload_n hx hb dX10_convoy_87 rfl (lv_at hl 4 rfl) ?_
          refine lv_istore_n (lv' := [(3, .int v3), (5, .int r19), (0, .ref (E.2.2.2 137)), (1, .int x1), (2, .int x2), (4, .int v4)]) hx hb dX10_convoy_88 rfl hl (by decide) rfl (fun ls hl => ?_)
          obtain ⟨y21, ey21⟩ : ∃ z : Int32, z = v4 + 1 := ⟨_, rfl⟩
          have h := q_le_e h ey21
          refine lv_iinc (v := y21) (lv' := [(4, .int y21), (3, .int v3), (5, .int r19), (0, .ref (E.2.2.2 137)), (1, .int x1), (2, .int x2)]) hx hb dX10_convoy_89 hl (k := 5) rfl (by rw [ey21]; rfl) (by decide) rfl (fun ls hl => ?_)
          refine lv_goto (tgt := 38) hx hb dX10_convoy_92 (by decide) ?_
          exact ih v3 y21 μ17 H locs ls S (lv_sub hl [3, 4, 5, 1, 0] rfl) h
        · have h := q_ig c20 h
          refine lv_iload hx hb dX10_convoy_82 (lv_at hl 0 rfl) ?_
          refine lv_goto (tgt := 88) hx hb dX10_convoy_84 (by decide) ?_
          refine lv_istore_n (lv' := [(3, .int r19), (5, .int r19), (0, .ref (E.2.2.2 137)), (1, .int x1), (2, .int x2), (4, .int v4)]) hx hb dX10_convoy_88 rfl hl (by decide) rfl (fun ls hl => ?_)
          obtain ⟨y22, ey22⟩ : ∃ z : Int32, z = v4 + 1 := ⟨_, rfl⟩
          have h := q_le_e h ey22
          refine lv_iinc (v := y22) (lv' := [(4, .int y22), (3, .int r19), (5, .int r19), (0, .ref (E.2.2.2 137)), (1, .int x1), (2, .int x2)]) hx hb dX10_convoy_89 hl (k := 5) rfl (by rw [ey22]; rfl) (by decide) rfl (fun ls hl => ?_)
          refine lv_goto (tgt := 38) hx hb dX10_convoy_92 (by decide) ?_
          exact ih r19 y22 μ17 H locs ls S (lv_sub hl [3, 4, 5, 1, 0] rfl) h
  unfold f_X10_convoy at h
  obtain ⟨H, eH⟩ : ∃ z, z = s.heap := ⟨_, rfl⟩
  obtain ⟨locs, eL⟩ : ∃ z : List Loc, z = [] := ⟨_, rfl⟩
  rw [← eH, ← eL] at S
  suffices hh : W p l e ({ frames := 3, cells := 0, slots := 0, locals := 75 }) s m ([.ref (E.2.2.2 137), .int x1, .int x2] : List Value).toArray below meth c H locs 0 0 (MQ below (q_Qi E r μr) ([.ref (E.2.2.2 137), .int x1, .int x2] : List Value).toArray s 0 0 (q_A E)) (F0 m 0 ls []) by rw [eH, eL] at hh; exact hh
  refine lv_iload_n hx hb dX10_convoy_0 rfl (lv_at hl 1 rfl) ?_
  refine lv_i2l (v := x1.toInt64) hx hb dX10_convoy_1 rfl ?_
  refine lv_lconst (v := 1) hx hb dX10_convoy_2 (by decide) ?_
  refine lv_ldc2 (v := 20) hx hb hown (hts (.constantLong RX10 310 (20)) (by decide +kernel)) dX10_convoy_3 ?_
  obtain ⟨r3, μ1, hc2, h⟩ := q_bd_some h
  refine q_ki F S (q_runS (As := [.long x1.toInt64, .long 1, .long 20]) (rest := []) ⟨hx, hb, hml, hown, hts⟩ F S (c_X10_in l E hE x1.toInt64 1 20 μ μ1 r3 hc2) (va_cwS 3 hts gX10_convoy_X10_in rfl rfl rfl (by decide +kernel) ⟨Nat.le_of_ble_eq_true rfl, Nat.le_of_ble_eq_true rfl⟩) rfl hl.1 rfl (Nat.le_of_ble_eq_true rfl) dX10_convoy_6 ⟨Nat.zero_le _, Nat.zero_le _⟩) (fun H locs S => ?_)
  refine lv_if_eq (tgt := 31) hx hb dX10_convoy_9 (by decide) (fun c4 => ?_) (fun c4 => ?_)
  · have h := q_ip c4 h
    refine lv_iconst (v := (-1)) hx hb dX10_convoy_31 (by decide) ?_
    exact q_iret hx hb hr S h hlk dX10_convoy_32
  · have h := q_ig c4 h
    refine lv_iload_n hx hb dX10_convoy_12 rfl (lv_at hl 2 rfl) ?_
    refine lv_i2l (v := x2.toInt64) hx hb dX10_convoy_13 rfl ?_
    refine lv_lconst (v := 0) hx hb dX10_convoy_14 (by decide) ?_
    refine lv_ldc2 (v := 600) hx hb hown (hts (.constantLong RX10 115 (600)) (by decide +kernel)) dX10_convoy_15 ?_
    obtain ⟨r7, μ5, hc6, h⟩ := q_bd_some h
    refine q_ki F S (q_runS (As := [.long x2.toInt64, .long 0, .long 600]) (rest := []) ⟨hx, hb, hml, hown, hts⟩ F S (c_X10_in l E hE x2.toInt64 0 600 μ1 μ5 r7 hc6) (va_cwS 3 hts gX10_convoy_X10_in rfl rfl rfl (by decide +kernel) ⟨Nat.le_of_ble_eq_true rfl, Nat.le_of_ble_eq_true rfl⟩) rfl hl.1 rfl (Nat.le_of_ble_eq_true rfl) dX10_convoy_18 ⟨Nat.zero_le _, Nat.zero_le _⟩) (fun H locs S => ?_)
    refine lv_if_eq (tgt := 31) hx hb dX10_convoy_21 (by decide) (fun c8 => ?_) (fun c8 => ?_)
    · have h := q_ip c8 h
      refine lv_iconst (v := (-1)) hx hb dX10_convoy_31 (by decide) ?_
      exact q_iret hx hb hr S h hlk dX10_convoy_32
    · have h := q_ig c8 h
      refine lv_aload_n hx hb dX10_convoy_24 rfl (lv_at hl 0 rfl) ?_
      obtain ⟨r11, μ9, hc10, h⟩ := q_bd_some h
      refine q_ki F S (q_runV (As := []) (rest := []) (b := 137) ⟨hx, hb, hml, hown, hts⟩ F S (c_X10_handSize l E hE  μ5 μ9 r11 hc10) (cwV 0 hts gX10_convoy_X10_handSize rfl rfl rfl (by decide +kernel) ⟨Nat.le_of_ble_eq_true rfl, Nat.le_of_ble_eq_true rfl⟩) q_k137 (by decide) rfl rfl hl.1 rfl (Nat.le_of_ble_eq_true rfl) dX10_convoy_25 ⟨Nat.zero_le _, Nat.zero_le _⟩) (fun H locs S => ?_)
      refine lv_if_ne (tgt := 33) hx hb dX10_convoy_28 (by decide) (fun c12 => ?_) (fun c12 => ?_)
      · have h := q_ig c12 h
        refine lv_iconst (v := 0) hx hb dX10_convoy_33 (by decide) ?_
        refine lv_istore_n (lv' := [(3, .int 0), (0, .ref (E.2.2.2 137)), (1, .int x1), (2, .int x2)]) hx hb dX10_convoy_34 rfl hl (by decide) rfl (fun ls hl => ?_)
        refine lv_iconst (v := 0) hx hb dX10_convoy_35 (by decide) ?_
        refine lv_istore (lv' := [(4, .int 0), (3, .int 0), (0, .ref (E.2.2.2 137)), (1, .int x1), (2, .int x2)]) hx hb dX10_convoy_36 hl (by decide) rfl (fun ls hl => ?_)
        refine hL38 _ (fun v3 μ H locs ls S hl h => ?_) q_fu 0 0 μ9 H locs ls S (lv_sub hl [2, 3, 4, 1, 0] rfl) h
        refine lv_iload_n hx hb dX10_convoy_95 rfl (lv_at hl 1 rfl) ?_
        refine lv_aload_n hx hb dX10_convoy_96 rfl (lv_at hl 0 rfl) ?_
        refine q_geti (own := RX10) (C := RX10) (T := TX10) (N := 54) (ci := 10) (j := 27)  hx hb hts i10 hown F S q_k137 (by decide) rfl (by decide) (by decide) rfl (hts (.fieldLink RX10 250 "HeavyRoutesModel" "runMinute" "I") (by decide +kernel)) dX10_convoy_97 ?_
        refine lv_isub hx hb dX10_convoy_100 ?_
        exact q_iret hx hb hr S h hlk dX10_convoy_101
      · have h := q_ip c12 h
        refine lv_iconst (v := (-1)) hx hb dX10_convoy_31 (by decide) ?_
        exact q_iret hx hb hr S h hlk dX10_convoy_32
def f_X10_wantsEscort (x1 : Int32) (μ : q_M) : Option (Int32 × q_M) := q_gd (q_ix x1 12) ((if ((μ.1 141 x1.toNatClampNeg) - (μ.1 137 22)) < 50 then some (1, μ) else (if 50 ≤ ((μ.1 142 x1.toNatClampNeg) - (μ.1 137 23)) then (if 0 ≤ (μ.1 144 x1.toNatClampNeg) then q_bd (f_X10_rate (μ.1 144 x1.toNatClampNeg) μ) (fun u5 μ5 => q_bd (f_X10_isAbove 4 3 μ5) (fun r9 μ7 => q_gd (q_zb r9) (some (r9, μ7)))) else some (0, μ)) else some (1, μ))))
set_option maxHeartbeats 4000000 in
set_option maxRecDepth 100000 in
theorem c_X10_wantsEscort (l : Launch) (E : q_E) (hE : q_I E) (x1 : Int32) (μ μr : q_M) (r : Int32) (h : f_X10_wantsEscort x1 μ = some (r, μr)) : Met l yX10_wantsEscort wsX10_wantsEscort ({ frames := 5, cells := 0, slots := 0, locals := 136 }) (q_Pc E μ [.ref (E.2.2.2 137), .int x1]) (q_Qi E r μr) 0 0 (q_A E) := by
  refine q_met (cc := cX10_wantsEscort) (maxL := 2) (ret := (some .boolean)) hE (by decide) rfl (Nat.le_of_ble_eq_true rfl) ?_
  intro p e s m below meth c hx hb hr hml hown hts hlk F S ls hl
  have hl : lv_has ls 2 [(0, .ref (E.2.2.2 137)), (1, .int x1)] := hl
  have i10 : ∀ w ∈ u_ws RX10 TX10 54, w ∈ wsX10_wantsEscort := by decide +kernel
  unfold f_X10_wantsEscort at h
  obtain ⟨H, eH⟩ : ∃ z, z = s.heap := ⟨_, rfl⟩
  obtain ⟨locs, eL⟩ : ∃ z : List Loc, z = [] := ⟨_, rfl⟩
  rw [← eH, ← eL] at S
  suffices hh : W p l e ({ frames := 5, cells := 0, slots := 0, locals := 136 }) s m ([.ref (E.2.2.2 137), .int x1] : List Value).toArray below meth c H locs 0 0 (MQ below (q_Qi E r μr) ([.ref (E.2.2.2 137), .int x1] : List Value).toArray s 0 0 (q_A E)) (F0 m 0 ls []) by rw [eH, eL] at hh; exact hh
  refine lv_aload_n hx hb dX10_wantsEscort_0 rfl (lv_at hl 0 rfl) ?_
  refine q_getr (own := RX10) (C := RX10) (T := TX10) (N := 54) (ci := 10) (j := 5)  (b := 141) hx hb hts i10 hown F S q_k137 (by decide) rfl (by decide) (by decide) rfl (by decide) (hts (.fieldLink RX10 19 "HeavyRoutesModel" "heights" "[I") (by decide +kernel)) dX10_wantsEscort_1 ?_
  refine lv_iload_n hx hb dX10_wantsEscort_4 rfl (lv_at hl 1 rfl) ?_
  obtain ⟨g1, h⟩ := q_gd_some h
  refine q_iald hx hb F S q_k141 q_n141 g1 dX10_wantsEscort_5 ?_
  refine lv_aload_n hx hb dX10_wantsEscort_6 rfl (lv_at hl 0 rfl) ?_
  refine q_geti (own := RX10) (C := RX10) (T := TX10) (N := 54) (ci := 10) (j := 22)  hx hb hts i10 hown F S q_k137 (by decide) rfl (by decide) (by decide) rfl (hts (.fieldLink RX10 65 "HeavyRoutesModel" "height" "I") (by decide +kernel)) dX10_wantsEscort_7 ?_
  refine lv_isub hx hb dX10_wantsEscort_10 ?_
  refine lv_bipush (v := 50) hx hb dX10_wantsEscort_11 (by decide) ?_
  refine lv_icmp_lt (tgt := 32) hx hb dX10_wantsEscort_13 (by decide) (fun c2 => ?_) (fun c2 => ?_)
  · have h := q_ip c2 h
    refine lv_iconst (v := 1) hx hb dX10_wantsEscort_32 (by decide) ?_
    exact q_zret hx hb hr S (by decide) h hlk dX10_wantsEscort_33
  · have h := q_ig c2 h
    refine lv_aload_n hx hb dX10_wantsEscort_16 rfl (lv_at hl 0 rfl) ?_
    refine q_getr (own := RX10) (C := RX10) (T := TX10) (N := 54) (ci := 10) (j := 6)  (b := 142) hx hb hts i10 hown F S q_k137 (by decide) rfl (by decide) (by decide) rfl (by decide) (hts (.fieldLink RX10 22 "HeavyRoutesModel" "widths" "[I") (by decide +kernel)) dX10_wantsEscort_17 ?_
    refine lv_iload_n hx hb dX10_wantsEscort_20 rfl (lv_at hl 1 rfl) ?_
    refine q_iald hx hb F S q_k142 q_n142 g1 dX10_wantsEscort_21 ?_
    refine lv_aload_n hx hb dX10_wantsEscort_22 rfl (lv_at hl 0 rfl) ?_
    refine q_geti (own := RX10) (C := RX10) (T := TX10) (N := 54) (ci := 10) (j := 23)  hx hb hts i10 hown F S q_k137 (by decide) rfl (by decide) (by decide) rfl (hts (.fieldLink RX10 69 "HeavyRoutesModel" "width" "I") (by decide +kernel)) dX10_wantsEscort_23 ?_
    refine lv_isub hx hb dX10_wantsEscort_26 ?_
    refine lv_bipush (v := 50) hx hb dX10_wantsEscort_27 (by decide) ?_
    refine lv_icmp_ge (tgt := 34) hx hb dX10_wantsEscort_29 (by decide) (fun c3 => ?_) (fun c3 => ?_)
    · have h := q_ip c3 h
      refine lv_aload_n hx hb dX10_wantsEscort_34 rfl (lv_at hl 0 rfl) ?_
      refine q_getr (own := RX10) (C := RX10) (T := TX10) (N := 54) (ci := 10) (j := 8)  (b := 144) hx hb hts i10 hown F S q_k137 (by decide) rfl (by decide) (by decide) rfl (by decide) (hts (.fieldLink RX10 29 "HeavyRoutesModel" "bridgeOf" "[I") (by decide +kernel)) dX10_wantsEscort_35 ?_
      refine lv_iload_n hx hb dX10_wantsEscort_38 rfl (lv_at hl 1 rfl) ?_
      refine q_iald hx hb F S q_k144 q_n144 g1 dX10_wantsEscort_39 ?_
      refine lv_if_ge (tgt := 45) hx hb dX10_wantsEscort_40 (by decide) (fun c4 => ?_) (fun c4 => ?_)
      · have h := q_ip c4 h
        refine lv_aload_n hx hb dX10_wantsEscort_45 rfl (lv_at hl 0 rfl) ?_
        refine lv_aload_n hx hb dX10_wantsEscort_46 rfl (lv_at hl 0 rfl) ?_
        refine q_getr (own := RX10) (C := RX10) (T := TX10) (N := 54) (ci := 10) (j := 8)  (b := 144) hx hb hts i10 hown F S q_k137 (by decide) rfl (by decide) (by decide) rfl (by decide) (hts (.fieldLink RX10 29 "HeavyRoutesModel" "bridgeOf" "[I") (by decide +kernel)) dX10_wantsEscort_47 ?_
        refine lv_iload_n hx hb dX10_wantsEscort_50 rfl (lv_at hl 1 rfl) ?_
        refine q_iald hx hb F S q_k144 q_n144 g1 dX10_wantsEscort_51 ?_
        obtain ⟨u5, μ5, hc6, h⟩ := q_bd_some h
        refine q_kv F S (q_runV (As := [.int (μ.1 144 x1.toNatClampNeg)]) (rest := []) (b := 137) ⟨hx, hb, hml, hown, hts⟩ F S (c_X10_rate l E hE (μ.1 144 x1.toNatClampNeg) μ μ5 u5 hc6) (cwV 1 hts gX10_wantsEscort_X10_rate rfl rfl rfl (by decide +kernel) ⟨Nat.le_of_ble_eq_true rfl, Nat.le_of_ble_eq_true rfl⟩) q_k137 (by decide) rfl rfl hl.1 rfl (Nat.le_of_ble_eq_true rfl) dX10_wantsEscort_52 ⟨Nat.zero_le _, Nat.zero_le _⟩) (fun H locs S => ?_)
        refine lv_aload_n hx hb dX10_wantsEscort_55 rfl (lv_at hl 0 rfl) ?_
        refine lv_iconst (v := 4) hx hb dX10_wantsEscort_56 (by decide) ?_
        refine lv_iconst (v := 3) hx hb dX10_wantsEscort_57 (by decide) ?_
        obtain ⟨r9, μ7, hc8, h⟩ := q_bd_some h
        refine q_ki F S (q_runV (As := [.int 4, .int 3]) (rest := []) (b := 137) ⟨hx, hb, hml, hown, hts⟩ F S (c_X10_isAbove l E hE 4 3 μ5 μ7 r9 hc8) (cwV 2 hts gX10_wantsEscort_X10_isAbove rfl rfl rfl (by decide +kernel) ⟨Nat.le_of_ble_eq_true rfl, Nat.le_of_ble_eq_true rfl⟩) q_k137 (by decide) rfl rfl hl.1 rfl (Nat.le_of_ble_eq_true rfl) dX10_wantsEscort_58 ⟨Nat.zero_le _, Nat.zero_le _⟩) (fun H locs S => ?_)
        obtain ⟨g10, h⟩ := q_gd_some h
        exact q_zret hx hb hr S g10 h hlk dX10_wantsEscort_61
      · have h := q_ig c4 h
        refine lv_iconst (v := 0) hx hb dX10_wantsEscort_43 (by decide) ?_
        exact q_zret hx hb hr S (by decide) h hlk dX10_wantsEscort_44
    · have h := q_ig c3 h
      refine lv_iconst (v := 1) hx hb dX10_wantsEscort_32 (by decide) ?_
      exact q_zret hx hb hr S (by decide) h hlk dX10_wantsEscort_33
def L_X10_escort_4 (x1 : Int32) (Kx : q_M → Option (Int32 × q_M)) : Nat → Int32 → Int32 → q_M → Option (Int32 × q_M)
  | 0, _, _, _ => none
  | n + 1, v2, v3, μ => q_bd (f_X10_handSize  μ) (fun r3 μ1 => (if r3 ≤ v3 then Kx μ1 else q_bd (f_X10_hand v3 μ1) (fun r7 μ5 => q_bd (f_X10_wantsEscort r7 μ5) (fun r10 μ8 => (if r10 = 0 then q_le (v3 + 1 : Int32) (fun y12 => (L_X10_escort_4 x1 Kx n) v2 y12 μ8) else (if v2 = x1 then q_bd (f_X10_hand v3 μ8) (fun r18 μ16 => some (r18, μ16)) else q_le (v2 + 1 : Int32) (fun y14 => q_le (v3 + 1 : Int32) (fun y15 => (L_X10_escort_4 x1 Kx n) y14 y15 μ8))))))))
def f_X10_escort (x1 : Int32) (μ : q_M) : Option (Int32 × q_M) := L_X10_escort_4 x1 (fun μ => some ((-1), μ)) q_fu 0 0 μ
set_option maxHeartbeats 4000000 in
set_option maxRecDepth 100000 in
theorem c_X10_escort (l : Launch) (E : q_E) (hE : q_I E) (x1 : Int32) (μ μr : q_M) (r : Int32) (h : f_X10_escort x1 μ = some (r, μr)) : Met l yX10_escort wsX10_escort ({ frames := 6, cells := 0, slots := 0, locals := 157 }) (q_Pc E μ [.ref (E.2.2.2 137), .int x1]) (q_Qi E r μr) 0 0 (q_A E) := by
  refine q_met (cc := cX10_escort) (maxL := 4) (ret := (some .int)) hE (by decide) rfl (Nat.le_of_ble_eq_true rfl) ?_
  intro p e s m below meth c hx hb hr hml hown hts hlk F S ls hl
  have hl : lv_has ls 4 [(0, .ref (E.2.2.2 137)), (1, .int x1)] := hl
  have hL4 : ∀ (Kx : q_M → Option (Int32 × q_M)), (∀ (μ : q_M) (H : Heap) (locs : List Loc) (ls : Array Slot), q_S E (q_A E) s μ H locs → lv_has ls 4 [] → Kx μ = some (r, μr) → W p l e ({ frames := 6, cells := 0, slots := 0, locals := 157 }) s m ([.ref (E.2.2.2 137), .int x1] : List Value).toArray below meth c H locs 0 0 (MQ below (q_Qi E r μr) ([.ref (E.2.2.2 137), .int x1] : List Value).toArray s 0 0 (q_A E)) (F0 m 44 ls [])) → ∀ (n : Nat), ∀ (v2 : Int32), ∀ (v3 : Int32), ∀ (μ : q_M) (H : Heap) (locs : List Loc) (ls : Array Slot), q_S E (q_A E) s μ H locs → lv_has ls 4 [(0, .ref (E.2.2.2 137)), (1, .int x1), (2, .int v2), (3, .int v3)] → L_X10_escort_4 x1 Kx n v2 v3 μ = some (r, μr) → W p l e ({ frames := 6, cells := 0, slots := 0, locals := 157 }) s m ([.ref (E.2.2.2 137), .int x1] : List Value).toArray below meth c H locs 0 0 (MQ below (q_Qi E r μr) ([.ref (E.2.2.2 137), .int x1] : List Value).toArray s 0 0 (q_A E)) (F0 m 4 ls []) := by
    intro Kx hKx n
    induction n with
    | zero => intro v2 v3 μ H locs ls S hl h; exact absurd h (by simp [L_X10_escort_4])
    | succ n ih =>
      intro v2 v3 μ H locs ls S hl h
      rw [L_X10_escort_4] at h
      refine lv_iload_n hx hb dX10_escort_4 rfl (lv_at hl 3 rfl) ?_
      refine lv_aload_n hx hb dX10_escort_5 rfl (lv_at hl 0 rfl) ?_
      obtain ⟨r3, μ1, hc2, h⟩ := q_bd_some h
      refine q_ki F S (q_runV (As := []) (rest := [.int v3]) (b := 137) ⟨hx, hb, hml, hown, hts⟩ F S (c_X10_handSize l E hE  μ μ1 r3 hc2) (cwV 0 hts gX10_escort_X10_handSize rfl rfl rfl (by decide +kernel) ⟨Nat.le_of_ble_eq_true rfl, Nat.le_of_ble_eq_true rfl⟩) q_k137 (by decide) rfl rfl hl.1 rfl (Nat.le_of_ble_eq_true rfl) dX10_escort_6 ⟨Nat.zero_le _, Nat.zero_le _⟩) (fun H locs S => ?_)
      refine lv_icmp_ge (tgt := 44) hx hb dX10_escort_9 (by decide) (fun c4 => ?_) (fun c4 => ?_)
      · have h := q_ip c4 h
        exact hKx μ1 H locs ls S (lv_sub hl [] rfl) h
      · have h := q_ig c4 h
        refine lv_aload_n hx hb dX10_escort_12 rfl (lv_at hl 0 rfl) ?_
        refine lv_aload_n hx hb dX10_escort_13 rfl (lv_at hl 0 rfl) ?_
        refine lv_iload_n hx hb dX10_escort_14 rfl (lv_at hl 3 rfl) ?_
        obtain ⟨r7, μ5, hc6, h⟩ := q_bd_some h
        refine q_ki F S (q_runV (As := [.int v3]) (rest := [.ref (E.2.2.2 137)]) (b := 137) ⟨hx, hb, hml, hown, hts⟩ F S (c_X10_hand l E hE v3 μ1 μ5 r7 hc6) (cwV 1 hts gX10_escort_X10_hand rfl rfl rfl (by decide +kernel) ⟨Nat.le_of_ble_eq_true rfl, Nat.le_of_ble_eq_true rfl⟩) q_k137 (by decide) rfl rfl hl.1 rfl (Nat.le_of_ble_eq_true rfl) dX10_escort_15 ⟨Nat.zero_le _, Nat.zero_le _⟩) (fun H locs S => ?_)
        obtain ⟨r10, μ8, hc9, h⟩ := q_bd_some h
        refine q_ki F S (q_runV (As := [.int r7]) (rest := []) (b := 137) ⟨hx, hb, hml, hown, hts⟩ F S (c_X10_wantsEscort l E hE r7 μ5 μ8 r10 hc9) (cwV 1 hts gX10_escort_X10_wantsEscort rfl rfl rfl (by decide +kernel) ⟨Nat.le_of_ble_eq_true rfl, Nat.le_of_ble_eq_true rfl⟩) q_k137 (by decide) rfl rfl hl.1 rfl (Nat.le_of_ble_eq_true rfl) dX10_escort_18 ⟨Nat.zero_le _, Nat.zero_le _⟩) (fun H locs S => ?_)
        refine lv_if_eq (tgt := 38) hx hb dX10_escort_21 (by decide) (fun c11 => ?_) (fun c11 => ?_)
        · have h := q_ip c11 h
          obtain ⟨y12, ey12⟩ : ∃ z : Int32, z = v3 + 1 := ⟨_, rfl⟩
          have h := q_le_e h ey12
          refine lv_iinc (v := y12) (lv' := [(3, .int y12), (0, .ref (E.2.2.2 137)), (1, .int x1), (2, .int v2)]) hx hb dX10_escort_38 hl (k := 3) rfl (by rw [ey12]; rfl) (by decide) rfl (fun ls hl => ?_)
          refine lv_goto (tgt := 4) hx hb dX10_escort_41 (by decide) ?_
          exact ih v2 y12 μ8 H locs ls S (lv_sub hl [1, 2, 3, 0] rfl) h
        · have h := q_ig c11 h
          refine lv_iload_n hx hb dX10_escort_24 rfl (lv_at hl 2 rfl) ?_
          refine lv_iload_n hx hb dX10_escort_25 rfl (lv_at hl 1 rfl) ?_
          refine lv_icmp_ne (tgt := 35) hx hb dX10_escort_26 (by decide) (fun c13 => ?_) (fun c13 => ?_)
          · have h := q_ig c13 h
            obtain ⟨y14, ey14⟩ : ∃ z : Int32, z = v2 + 1 := ⟨_, rfl⟩
            have h := q_le_e h ey14
            refine lv_iinc (v := y14) (lv' := [(2, .int y14), (0, .ref (E.2.2.2 137)), (1, .int x1), (3, .int v3)]) hx hb dX10_escort_35 hl (k := 2) rfl (by rw [ey14]; rfl) (by decide) rfl (fun ls hl => ?_)
            obtain ⟨y15, ey15⟩ : ∃ z : Int32, z = v3 + 1 := ⟨_, rfl⟩
            have h := q_le_e h ey15
            refine lv_iinc (v := y15) (lv' := [(3, .int y15), (2, .int y14), (0, .ref (E.2.2.2 137)), (1, .int x1)]) hx hb dX10_escort_38 hl (k := 3) rfl (by rw [ey15]; rfl) (by decide) rfl (fun ls hl => ?_)
            refine lv_goto (tgt := 4) hx hb dX10_escort_41 (by decide) ?_
            exact ih y14 y15 μ8 H locs ls S (lv_sub hl [2, 3, 1, 0] rfl) h
          · have h := q_ip c13 h
            refine lv_aload_n hx hb dX10_escort_29 rfl (lv_at hl 0 rfl) ?_
            refine lv_iload_n hx hb dX10_escort_30 rfl (lv_at hl 3 rfl) ?_
            obtain ⟨r18, μ16, hc17, h⟩ := q_bd_some h
            refine q_ki F S (q_runV (As := [.int v3]) (rest := []) (b := 137) ⟨hx, hb, hml, hown, hts⟩ F S (c_X10_hand l E hE v3 μ8 μ16 r18 hc17) (cwV 1 hts gX10_escort_X10_hand rfl rfl rfl (by decide +kernel) ⟨Nat.le_of_ble_eq_true rfl, Nat.le_of_ble_eq_true rfl⟩) q_k137 (by decide) rfl rfl hl.1 rfl (Nat.le_of_ble_eq_true rfl) dX10_escort_31 ⟨Nat.zero_le _, Nat.zero_le _⟩) (fun H locs S => ?_)
            exact q_iret hx hb hr S h hlk dX10_escort_34
  unfold f_X10_escort at h
  obtain ⟨H, eH⟩ : ∃ z, z = s.heap := ⟨_, rfl⟩
  obtain ⟨locs, eL⟩ : ∃ z : List Loc, z = [] := ⟨_, rfl⟩
  rw [← eH, ← eL] at S
  suffices hh : W p l e ({ frames := 6, cells := 0, slots := 0, locals := 157 }) s m ([.ref (E.2.2.2 137), .int x1] : List Value).toArray below meth c H locs 0 0 (MQ below (q_Qi E r μr) ([.ref (E.2.2.2 137), .int x1] : List Value).toArray s 0 0 (q_A E)) (F0 m 0 ls []) by rw [eH, eL] at hh; exact hh
  refine lv_iconst (v := 0) hx hb dX10_escort_0 (by decide) ?_
  refine lv_istore_n (lv' := [(2, .int 0), (0, .ref (E.2.2.2 137)), (1, .int x1)]) hx hb dX10_escort_1 rfl hl (by decide) rfl (fun ls hl => ?_)
  refine lv_iconst (v := 0) hx hb dX10_escort_2 (by decide) ?_
  refine lv_istore_n (lv' := [(3, .int 0), (2, .int 0), (0, .ref (E.2.2.2 137)), (1, .int x1)]) hx hb dX10_escort_3 rfl hl (by decide) rfl (fun ls hl => ?_)
  refine hL4 _ (fun μ H locs ls S hl h => ?_) q_fu 0 0 μ H locs ls S (lv_sub hl [2, 3, 1, 0] rfl) h
  refine lv_iconst (v := (-1)) hx hb dX10_escort_44 (by decide) ?_
  exact q_iret hx hb hr S h hlk dX10_escort_45
def L_X10_notice_4 (x1 : Int32) (Kx : q_M → Option (Int32 × q_M)) : Nat → Int32 → Int32 → q_M → Option (Int32 × q_M)
  | 0, _, _, _ => none
  | n + 1, v2, v3, μ => q_bd (f_X10_handSize  μ) (fun r3 μ1 => (if r3 ≤ v3 then Kx μ1 else q_bd (f_X10_hand v3 μ1) (fun r7 μ5 => q_gd (q_ix r7 12) ((if (μ5.1 144 r7.toNatClampNeg) < 0 then q_le (v3 + 1 : Int32) (fun y10 => (L_X10_notice_4 x1 Kx n) v2 y10 μ5) else (if v2 = x1 then q_bd (f_X10_hand v3 μ5) (fun r16 μ14 => q_gd (q_ix r16 12) (some ((μ14.1 144 r16.toNatClampNeg), μ14))) else q_le (v2 + 1 : Int32) (fun y12 => q_le (v3 + 1 : Int32) (fun y13 => (L_X10_notice_4 x1 Kx n) y12 y13 μ5))))))))
def f_X10_notice (x1 : Int32) (μ : q_M) : Option (Int32 × q_M) := L_X10_notice_4 x1 (fun μ => some ((-1), μ)) q_fu 0 0 μ
set_option maxHeartbeats 4000000 in
set_option maxRecDepth 100000 in
theorem c_X10_notice (l : Launch) (E : q_E) (hE : q_I E) (x1 : Int32) (μ μr : q_M) (r : Int32) (h : f_X10_notice x1 μ = some (r, μr)) : Met l yX10_notice wsX10_notice ({ frames := 1, cells := 0, slots := 0, locals := 21 }) (q_Pc E μ [.ref (E.2.2.2 137), .int x1]) (q_Qi E r μr) 0 0 (q_A E) := by
  refine q_met (cc := cX10_notice) (maxL := 4) (ret := (some .int)) hE (by decide) rfl (Nat.le_of_ble_eq_true rfl) ?_
  intro p e s m below meth c hx hb hr hml hown hts hlk F S ls hl
  have hl : lv_has ls 4 [(0, .ref (E.2.2.2 137)), (1, .int x1)] := hl
  have i10 : ∀ w ∈ u_ws RX10 TX10 54, w ∈ wsX10_notice := by decide +kernel
  have hL4 : ∀ (Kx : q_M → Option (Int32 × q_M)), (∀ (μ : q_M) (H : Heap) (locs : List Loc) (ls : Array Slot), q_S E (q_A E) s μ H locs → lv_has ls 4 [] → Kx μ = some (r, μr) → W p l e ({ frames := 1, cells := 0, slots := 0, locals := 21 }) s m ([.ref (E.2.2.2 137), .int x1] : List Value).toArray below meth c H locs 0 0 (MQ below (q_Qi E r μr) ([.ref (E.2.2.2 137), .int x1] : List Value).toArray s 0 0 (q_A E)) (F0 m 50 ls [])) → ∀ (n : Nat), ∀ (v2 : Int32), ∀ (v3 : Int32), ∀ (μ : q_M) (H : Heap) (locs : List Loc) (ls : Array Slot), q_S E (q_A E) s μ H locs → lv_has ls 4 [(0, .ref (E.2.2.2 137)), (1, .int x1), (2, .int v2), (3, .int v3)] → L_X10_notice_4 x1 Kx n v2 v3 μ = some (r, μr) → W p l e ({ frames := 1, cells := 0, slots := 0, locals := 21 }) s m ([.ref (E.2.2.2 137), .int x1] : List Value).toArray below meth c H locs 0 0 (MQ below (q_Qi E r μr) ([.ref (E.2.2.2 137), .int x1] : List Value).toArray s 0 0 (q_A E)) (F0 m 4 ls []) := by
    intro Kx hKx n
    induction n with
    | zero => intro v2 v3 μ H locs ls S hl h; exact absurd h (by simp [L_X10_notice_4])
    | succ n ih =>
      intro v2 v3 μ H locs ls S hl h
      rw [L_X10_notice_4] at h
      refine lv_iload_n hx hb dX10_notice_4 rfl (lv_at hl 3 rfl) ?_
      refine lv_aload_n hx hb dX10_notice_5 rfl (lv_at hl 0 rfl) ?_
      obtain ⟨r3, μ1, hc2, h⟩ := q_bd_some h
      refine q_ki F S (q_runV (As := []) (rest := [.int v3]) (b := 137) ⟨hx, hb, hml, hown, hts⟩ F S (c_X10_handSize l E hE  μ μ1 r3 hc2) (cwV 0 hts gX10_notice_X10_handSize rfl rfl rfl (by decide +kernel) ⟨Nat.le_of_ble_eq_true rfl, Nat.le_of_ble_eq_true rfl⟩) q_k137 (by decide) rfl rfl hl.1 rfl (Nat.le_of_ble_eq_true rfl) dX10_notice_6 ⟨Nat.zero_le _, Nat.zero_le _⟩) (fun H locs S => ?_)
      refine lv_icmp_ge (tgt := 50) hx hb dX10_notice_9 (by decide) (fun c4 => ?_) (fun c4 => ?_)
      · have h := q_ip c4 h
        exact hKx μ1 H locs ls S (lv_sub hl [] rfl) h
      · have h := q_ig c4 h
        refine lv_aload_n hx hb dX10_notice_12 rfl (lv_at hl 0 rfl) ?_
        refine q_getr (own := RX10) (C := RX10) (T := TX10) (N := 54) (ci := 10) (j := 8)  (b := 144) hx hb hts i10 hown F S q_k137 (by decide) rfl (by decide) (by decide) rfl (by decide) (hts (.fieldLink RX10 29 "HeavyRoutesModel" "bridgeOf" "[I") (by decide +kernel)) dX10_notice_13 ?_
        refine lv_aload_n hx hb dX10_notice_16 rfl (lv_at hl 0 rfl) ?_
        refine lv_iload_n hx hb dX10_notice_17 rfl (lv_at hl 3 rfl) ?_
        obtain ⟨r7, μ5, hc6, h⟩ := q_bd_some h
        refine q_ki F S (q_runV (As := [.int v3]) (rest := [.ref (E.2.2.2 144)]) (b := 137) ⟨hx, hb, hml, hown, hts⟩ F S (c_X10_hand l E hE v3 μ1 μ5 r7 hc6) (cwV 1 hts gX10_notice_X10_hand rfl rfl rfl (by decide +kernel) ⟨Nat.le_of_ble_eq_true rfl, Nat.le_of_ble_eq_true rfl⟩) q_k137 (by decide) rfl rfl hl.1 rfl (Nat.le_of_ble_eq_true rfl) dX10_notice_18 ⟨Nat.zero_le _, Nat.zero_le _⟩) (fun H locs S => ?_)
        obtain ⟨g8, h⟩ := q_gd_some h
        refine q_iald hx hb F S q_k144 q_n144 g8 dX10_notice_21 ?_
        refine lv_if_lt (tgt := 44) hx hb dX10_notice_22 (by decide) (fun c9 => ?_) (fun c9 => ?_)
        · have h := q_ip c9 h
          obtain ⟨y10, ey10⟩ : ∃ z : Int32, z = v3 + 1 := ⟨_, rfl⟩
          have h := q_le_e h ey10
          refine lv_iinc (v := y10) (lv' := [(3, .int y10), (0, .ref (E.2.2.2 137)), (1, .int x1), (2, .int v2)]) hx hb dX10_notice_44 hl (k := 3) rfl (by rw [ey10]; rfl) (by decide) rfl (fun ls hl => ?_)
          refine lv_goto (tgt := 4) hx hb dX10_notice_47 (by decide) ?_
          exact ih v2 y10 μ5 H locs ls S (lv_sub hl [1, 2, 3, 0] rfl) h
        · have h := q_ig c9 h
          refine lv_iload_n hx hb dX10_notice_25 rfl (lv_at hl 2 rfl) ?_
          refine lv_iload_n hx hb dX10_notice_26 rfl (lv_at hl 1 rfl) ?_
          refine lv_icmp_ne (tgt := 41) hx hb dX10_notice_27 (by decide) (fun c11 => ?_) (fun c11 => ?_)
          · have h := q_ig c11 h
            obtain ⟨y12, ey12⟩ : ∃ z : Int32, z = v2 + 1 := ⟨_, rfl⟩
            have h := q_le_e h ey12
            refine lv_iinc (v := y12) (lv' := [(2, .int y12), (0, .ref (E.2.2.2 137)), (1, .int x1), (3, .int v3)]) hx hb dX10_notice_41 hl (k := 2) rfl (by rw [ey12]; rfl) (by decide) rfl (fun ls hl => ?_)
            obtain ⟨y13, ey13⟩ : ∃ z : Int32, z = v3 + 1 := ⟨_, rfl⟩
            have h := q_le_e h ey13
            refine lv_iinc (v := y13) (lv' := [(3, .int y13), (2, .int y12), (0, .ref (E.2.2.2 137)), (1, .int x1)]) hx hb dX10_notice_44 hl (k := 3) rfl (by rw [ey13]; rfl) (by decide) rfl (fun ls hl => ?_)
            refine lv_goto (tgt := 4) hx hb dX10_notice_47 (by decide) ?_
            exact ih y12 y13 μ5 H locs ls S (lv_sub hl [2, 3, 1, 0] rfl) h
          · have h := q_ip c11 h
            refine lv_aload_n hx hb dX10_notice_30 rfl (lv_at hl 0 rfl) ?_
            refine q_getr (own := RX10) (C := RX10) (T := TX10) (N := 54) (ci := 10) (j := 8)  (b := 144) hx hb hts i10 hown F S q_k137 (by decide) rfl (by decide) (by decide) rfl (by decide) (hts (.fieldLink RX10 29 "HeavyRoutesModel" "bridgeOf" "[I") (by decide +kernel)) dX10_notice_31 ?_
            refine lv_aload_n hx hb dX10_notice_34 rfl (lv_at hl 0 rfl) ?_
            refine lv_iload_n hx hb dX10_notice_35 rfl (lv_at hl 3 rfl) ?_
            obtain ⟨r16, μ14, hc15, h⟩ := q_bd_some h
            refine q_ki F S (q_runV (As := [.int v3]) (rest := [.ref (E.2.2.2 144)]) (b := 137) ⟨hx, hb, hml, hown, hts⟩ F S (c_X10_hand l E hE v3 μ5 μ14 r16 hc15) (cwV 1 hts gX10_notice_X10_hand rfl rfl rfl (by decide +kernel) ⟨Nat.le_of_ble_eq_true rfl, Nat.le_of_ble_eq_true rfl⟩) q_k137 (by decide) rfl rfl hl.1 rfl (Nat.le_of_ble_eq_true rfl) dX10_notice_36 ⟨Nat.zero_le _, Nat.zero_le _⟩) (fun H locs S => ?_)
            obtain ⟨g17, h⟩ := q_gd_some h
            refine q_iald hx hb F S q_k144 q_n144 g17 dX10_notice_39 ?_
            exact q_iret hx hb hr S h hlk dX10_notice_40
  unfold f_X10_notice at h
  obtain ⟨H, eH⟩ : ∃ z, z = s.heap := ⟨_, rfl⟩
  obtain ⟨locs, eL⟩ : ∃ z : List Loc, z = [] := ⟨_, rfl⟩
  rw [← eH, ← eL] at S
  suffices hh : W p l e ({ frames := 1, cells := 0, slots := 0, locals := 21 }) s m ([.ref (E.2.2.2 137), .int x1] : List Value).toArray below meth c H locs 0 0 (MQ below (q_Qi E r μr) ([.ref (E.2.2.2 137), .int x1] : List Value).toArray s 0 0 (q_A E)) (F0 m 0 ls []) by rw [eH, eL] at hh; exact hh
  refine lv_iconst (v := 0) hx hb dX10_notice_0 (by decide) ?_
  refine lv_istore_n (lv' := [(2, .int 0), (0, .ref (E.2.2.2 137)), (1, .int x1)]) hx hb dX10_notice_1 rfl hl (by decide) rfl (fun ls hl => ?_)
  refine lv_iconst (v := 0) hx hb dX10_notice_2 (by decide) ?_
  refine lv_istore_n (lv' := [(3, .int 0), (2, .int 0), (0, .ref (E.2.2.2 137)), (1, .int x1)]) hx hb dX10_notice_3 rfl hl (by decide) rfl (fun ls hl => ?_)
  refine hL4 _ (fun μ H locs ls S hl h => ?_) q_fu 0 0 μ H locs ls S (lv_sub hl [2, 3, 1, 0] rfl) h
  refine lv_iconst (v := (-1)) hx hb dX10_notice_50 (by decide) ?_
  exact q_iret hx hb hr S h hlk dX10_notice_51
def f_X10_record (x1 : Int32) (μ : q_M) : Option (Int32 × q_M) := q_bd (f_X10_in x1.toInt64 0 (((μ.1 137 31) - 1).toInt64) μ) (fun r3 μ1 => (if r3 = 0 then some ((-2), μ1) else q_gd (q_ix x1 50) (some ((μ1.1 158 x1.toNatClampNeg), μ1))))
set_option maxHeartbeats 4000000 in
set_option maxRecDepth 100000 in
theorem c_X10_record (l : Launch) (E : q_E) (hE : q_I E) (x1 : Int32) (μ μr : q_M) (r : Int32) (h : f_X10_record x1 μ = some (r, μr)) : Met l yX10_record wsX10_record ({ frames := 1, cells := 0, slots := 0, locals := 25 }) (q_Pc E μ [.ref (E.2.2.2 137), .int x1]) (q_Qi E r μr) 0 0 (q_A E) := by
  refine q_met (cc := cX10_record) (maxL := 2) (ret := (some .int)) hE (by decide) rfl (Nat.le_of_ble_eq_true rfl) ?_
  intro p e s m below meth c hx hb hr hml hown hts hlk F S ls hl
  have hl : lv_has ls 2 [(0, .ref (E.2.2.2 137)), (1, .int x1)] := hl
  have i10 : ∀ w ∈ u_ws RX10 TX10 54, w ∈ wsX10_record := by decide +kernel
  unfold f_X10_record at h
  obtain ⟨H, eH⟩ : ∃ z, z = s.heap := ⟨_, rfl⟩
  obtain ⟨locs, eL⟩ : ∃ z : List Loc, z = [] := ⟨_, rfl⟩
  rw [← eH, ← eL] at S
  suffices hh : W p l e ({ frames := 1, cells := 0, slots := 0, locals := 25 }) s m ([.ref (E.2.2.2 137), .int x1] : List Value).toArray below meth c H locs 0 0 (MQ below (q_Qi E r μr) ([.ref (E.2.2.2 137), .int x1] : List Value).toArray s 0 0 (q_A E)) (F0 m 0 ls []) by rw [eH, eL] at hh; exact hh
  refine lv_iload_n hx hb dX10_record_0 rfl (lv_at hl 1 rfl) ?_
  refine lv_i2l (v := x1.toInt64) hx hb dX10_record_1 rfl ?_
  refine lv_lconst (v := 0) hx hb dX10_record_2 (by decide) ?_
  refine lv_aload_n hx hb dX10_record_3 rfl (lv_at hl 0 rfl) ?_
  refine q_geti (own := RX10) (C := RX10) (T := TX10) (N := 54) (ci := 10) (j := 31)  hx hb hts i10 hown F S q_k137 (by decide) rfl (by decide) (by decide) rfl (hts (.fieldLink RX10 298 "HeavyRoutesModel" "records" "I") (by decide +kernel)) dX10_record_4 ?_
  refine lv_iconst (v := 1) hx hb dX10_record_7 (by decide) ?_
  refine lv_isub hx hb dX10_record_8 ?_
  refine lv_i2l (v := ((μ.1 137 31) - 1).toInt64) hx hb dX10_record_9 rfl ?_
  obtain ⟨r3, μ1, hc2, h⟩ := q_bd_some h
  refine q_ki F S (q_runS (As := [.long x1.toInt64, .long 0, .long (((μ.1 137 31) - 1).toInt64)]) (rest := []) ⟨hx, hb, hml, hown, hts⟩ F S (c_X10_in l E hE x1.toInt64 0 (((μ.1 137 31) - 1).toInt64) μ μ1 r3 hc2) (va_cwS 3 hts gX10_record_X10_in rfl rfl rfl (by decide +kernel) ⟨Nat.le_of_ble_eq_true rfl, Nat.le_of_ble_eq_true rfl⟩) rfl hl.1 rfl (Nat.le_of_ble_eq_true rfl) dX10_record_10 ⟨Nat.zero_le _, Nat.zero_le _⟩) (fun H locs S => ?_)
  refine lv_if_eq (tgt := 25) hx hb dX10_record_13 (by decide) (fun c4 => ?_) (fun c4 => ?_)
  · have h := q_ip c4 h
    refine lv_bipush (v := (-2)) hx hb dX10_record_25 (by decide) ?_
    exact q_iret hx hb hr S h hlk dX10_record_27
  · have h := q_ig c4 h
    refine lv_aload_n hx hb dX10_record_16 rfl (lv_at hl 0 rfl) ?_
    refine q_getr (own := RX10) (C := RX10) (T := TX10) (N := 54) (ci := 10) (j := 32)  (b := 158) hx hb hts i10 hown F S q_k137 (by decide) rfl (by decide) (by decide) rfl (by decide) (hts (.fieldLink RX10 78 "HeavyRoutesModel" "recorded" "[I") (by decide +kernel)) dX10_record_17 ?_
    refine lv_iload_n hx hb dX10_record_20 rfl (lv_at hl 1 rfl) ?_
    obtain ⟨g5, h⟩ := q_gd_some h
    refine q_iald hx hb F S q_k158 q_n158 g5 dX10_record_21 ?_
    refine lv_goto (tgt := 27) hx hb dX10_record_22 (by decide) ?_
    exact q_iret hx hb hr S h hlk dX10_record_27
def f_X10_count (x1 : Int32) (μ : q_M) : Option (Int32 × q_M) := (if x1 = 0 then some ((μ.1 137 0), μ) else if x1 = 1 then some ((μ.1 137 1), μ) else if x1 = 2 then some ((μ.1 137 13), μ) else if x1 = 3 then some ((μ.1 137 19), μ) else if x1 = 4 then q_bd (f_X10_handSize  μ) (fun r8 μ6 => some (r8, μ6)) else if x1 = 5 then some ((μ.1 137 28), μ) else if x1 = 6 then (if (μ.1 137 24) = 0 then some (0, μ) else q_bd (f_X10_search 1000000000 μ) (fun u12 μ12 => some ((μ12.1 137 40), μ12))) else some ((-1), μ))
set_option maxHeartbeats 4000000 in
set_option maxRecDepth 100000 in
theorem c_X10_count (l : Launch) (E : q_E) (hE : q_I E) (x1 : Int32) (μ μr : q_M) (r : Int32) (h : f_X10_count x1 μ = some (r, μr)) : Met l yX10_count wsX10_count ({ frames := 8, cells := 0, slots := 0, locals := 200 }) (q_Pc E μ [.ref (E.2.2.2 137), .int x1]) (q_Qi E r μr) 0 0 (q_A E) := by
  refine q_met (cc := cX10_count) (maxL := 2) (ret := (some .int)) hE (by decide) rfl (Nat.le_of_ble_eq_true rfl) ?_
  intro p e s m below meth c hx hb hr hml hown hts hlk F S ls hl
  have hl : lv_has ls 2 [(0, .ref (E.2.2.2 137)), (1, .int x1)] := hl
  have i10 : ∀ w ∈ u_ws RX10 TX10 54, w ∈ wsX10_count := by decide +kernel
  unfold f_X10_count at h
  obtain ⟨H, eH⟩ : ∃ z, z = s.heap := ⟨_, rfl⟩
  obtain ⟨locs, eL⟩ : ∃ z : List Loc, z = [] := ⟨_, rfl⟩
  rw [← eH, ← eL] at S
  suffices hh : W p l e ({ frames := 8, cells := 0, slots := 0, locals := 200 }) s m ([.ref (E.2.2.2 137), .int x1] : List Value).toArray below meth c H locs 0 0 (MQ below (q_Qi E r μr) ([.ref (E.2.2.2 137), .int x1] : List Value).toArray s 0 0 (q_A E)) (F0 m 0 ls []) by rw [eH, eL] at hh; exact hh
  refine lv_iload_n hx hb dX10_count_0 rfl (lv_at hl 1 rfl) ?_
  by_cases c1 : x1 = 0
  · have h := q_ip c1 h
    refine lv_tableIn (off := 43) (tgt := 44) hx hb dX10_count_1 (by rw [c1]; decide) (by rw [c1]; decide) (by rw [c1]; decide) (by decide) ?_
    refine lv_aload_n hx hb dX10_count_44 rfl (lv_at hl 0 rfl) ?_
    refine q_geti (own := RX10) (C := RX10) (T := TX10) (N := 54) (ci := 10) (j := 0)  hx hb hts i10 hown F S q_k137 (by decide) rfl (by decide) (by decide) rfl (hts (.fieldLink RX10 112 "HeavyRoutesModel" "nodes" "I") (by decide +kernel)) dX10_count_45 ?_
    exact q_iret hx hb hr S h hlk dX10_count_48
  have h := q_ig c1 h
  by_cases c2 : x1 = 1
  · have h := q_ip c2 h
    refine lv_tableIn (off := 48) (tgt := 49) hx hb dX10_count_1 (by rw [c2]; decide) (by rw [c2]; decide) (by rw [c2]; decide) (by decide) ?_
    refine lv_aload_n hx hb dX10_count_49 rfl (lv_at hl 0 rfl) ?_
    refine q_geti (own := RX10) (C := RX10) (T := TX10) (N := 54) (ci := 10) (j := 1)  hx hb hts i10 hown F S q_k137 (by decide) rfl (by decide) (by decide) rfl (hts (.fieldLink RX10 99 "HeavyRoutesModel" "roads" "I") (by decide +kernel)) dX10_count_50 ?_
    exact q_iret hx hb hr S h hlk dX10_count_53
  have h := q_ig c2 h
  by_cases c3 : x1 = 2
  · have h := q_ip c3 h
    refine lv_tableIn (off := 53) (tgt := 54) hx hb dX10_count_1 (by rw [c3]; decide) (by rw [c3]; decide) (by rw [c3]; decide) (by decide) ?_
    refine lv_aload_n hx hb dX10_count_54 rfl (lv_at hl 0 rfl) ?_
    refine q_geti (own := RX10) (C := RX10) (T := TX10) (N := 54) (ci := 10) (j := 13)  hx hb hts i10 hown F S q_k137 (by decide) rfl (by decide) (by decide) rfl (hts (.fieldLink RX10 106 "HeavyRoutesModel" "bridges" "I") (by decide +kernel)) dX10_count_55 ?_
    exact q_iret hx hb hr S h hlk dX10_count_58
  have h := q_ig c3 h
  by_cases c4 : x1 = 3
  · have h := q_ip c4 h
    refine lv_tableIn (off := 58) (tgt := 59) hx hb dX10_count_1 (by rw [c4]; decide) (by rw [c4]; decide) (by rw [c4]; decide) (by decide) ?_
    refine lv_aload_n hx hb dX10_count_59 rfl (lv_at hl 0 rfl) ?_
    refine q_geti (own := RX10) (C := RX10) (T := TX10) (N := 54) (ci := 10) (j := 19)  hx hb hts i10 hown F S q_k137 (by decide) rfl (by decide) (by decide) rfl (hts (.fieldLink RX10 135 "HeavyRoutesModel" "axles" "I") (by decide +kernel)) dX10_count_60 ?_
    exact q_iret hx hb hr S h hlk dX10_count_63
  have h := q_ig c4 h
  by_cases c5 : x1 = 4
  · have h := q_ip c5 h
    refine lv_tableIn (off := 63) (tgt := 64) hx hb dX10_count_1 (by rw [c5]; decide) (by rw [c5]; decide) (by rw [c5]; decide) (by decide) ?_
    refine lv_aload_n hx hb dX10_count_64 rfl (lv_at hl 0 rfl) ?_
    obtain ⟨r8, μ6, hc7, h⟩ := q_bd_some h
    refine q_ki F S (q_runV (As := []) (rest := []) (b := 137) ⟨hx, hb, hml, hown, hts⟩ F S (c_X10_handSize l E hE  μ μ6 r8 hc7) (cwV 0 hts gX10_count_X10_handSize rfl rfl rfl (by decide +kernel) ⟨Nat.le_of_ble_eq_true rfl, Nat.le_of_ble_eq_true rfl⟩) q_k137 (by decide) rfl rfl hl.1 rfl (Nat.le_of_ble_eq_true rfl) dX10_count_65 ⟨Nat.zero_le _, Nat.zero_le _⟩) (fun H locs S => ?_)
    exact q_iret hx hb hr S h hlk dX10_count_68
  have h := q_ig c5 h
  by_cases c9 : x1 = 5
  · have h := q_ip c9 h
    refine lv_tableIn (off := 68) (tgt := 69) hx hb dX10_count_1 (by rw [c9]; decide) (by rw [c9]; decide) (by rw [c9]; decide) (by decide) ?_
    refine lv_aload_n hx hb dX10_count_69 rfl (lv_at hl 0 rfl) ?_
    refine q_geti (own := RX10) (C := RX10) (T := TX10) (N := 54) (ci := 10) (j := 28)  hx hb hts i10 hown F S q_k137 (by decide) rfl (by decide) (by decide) rfl (hts (.fieldLink RX10 109 "HeavyRoutesModel" "found" "I") (by decide +kernel)) dX10_count_70 ?_
    exact q_iret hx hb hr S h hlk dX10_count_73
  have h := q_ig c9 h
  by_cases c10 : x1 = 6
  · have h := q_ip c10 h
    refine lv_tableIn (off := 73) (tgt := 74) hx hb dX10_count_1 (by rw [c10]; decide) (by rw [c10]; decide) (by rw [c10]; decide) (by decide) ?_
    refine lv_aload_n hx hb dX10_count_74 rfl (lv_at hl 0 rfl) ?_
    refine q_geti (own := RX10) (C := RX10) (T := TX10) (N := 54) (ci := 10) (j := 24)  hx hb hts i10 hown F S q_k137 (by decide) rfl (by decide) (by decide) rfl (hts (.fieldLink RX10 287 "HeavyRoutesModel" "isRun" "Z") (by decide +kernel)) dX10_count_75 ?_
    refine lv_if_ne (tgt := 83) hx hb dX10_count_78 (by decide) (fun c11 => ?_) (fun c11 => ?_)
    · have h := q_ig c11 h
      refine lv_aload_n hx hb dX10_count_83 rfl (lv_at hl 0 rfl) ?_
      refine lv_ldcw (v := 1000000000) hx hb hown (hts (.constant RX10 291 (1000000000)) (by decide +kernel)) dX10_count_84 ?_
      obtain ⟨u12, μ12, hc13, h⟩ := q_bd_some h
      refine q_kv F S (q_runV (As := [.int 1000000000]) (rest := []) (b := 137) ⟨hx, hb, hml, hown, hts⟩ F S (c_X10_search l E hE 1000000000 μ μ12 u12 hc13) (cwV 1 hts gX10_count_X10_search rfl rfl rfl (by decide +kernel) ⟨Nat.le_of_ble_eq_true rfl, Nat.le_of_ble_eq_true rfl⟩) q_k137 (by decide) rfl rfl hl.1 rfl (Nat.le_of_ble_eq_true rfl) dX10_count_87 ⟨Nat.zero_le _, Nat.zero_le _⟩) (fun H locs S => ?_)
      refine lv_aload_n hx hb dX10_count_90 rfl (lv_at hl 0 rfl) ?_
      refine q_geti (own := RX10) (C := RX10) (T := TX10) (N := 54) (ci := 10) (j := 40)  hx hb hts i10 hown F S q_k137 (by decide) rfl (by decide) (by decide) rfl (hts (.fieldLink RX10 247 "HeavyRoutesModel" "ways" "I") (by decide +kernel)) dX10_count_91 ?_
      exact q_iret hx hb hr S h hlk dX10_count_94
    · have h := q_ip c11 h
      refine lv_iconst (v := 0) hx hb dX10_count_81 (by decide) ?_
      exact q_iret hx hb hr S h hlk dX10_count_82
  have h := q_ig c10 h
  refine lv_tableOut (tgt := 95) hx hb dX10_count_1 (q_sw6 x1 c1 c2 c3 c4 c5 c9 c10) (by decide) ?_
  refine lv_iconst (v := (-1)) hx hb dX10_count_95 (by decide) ?_
  exact q_iret hx hb hr S h hlk dX10_count_96
