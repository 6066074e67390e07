def J_L_law_542 (xs : Nat → Int32) (L : Nat) (Kb : Int32 → q_M → Option (Int32 × q_M)) (Kx : q_M → Option (Int32 × q_M)) (v3 : Int32) (s0 : Int32) (s1 : Int32) (s2 : Int32) (μ : q_M) : Option (Int32 × q_M) := q_bd (f_X9_turn s2 s1 s0 μ) (fun r85 μ83 => q_gd (q_ix (v3 + 1) L) (q_gd (q_ix (v3 + 2) L) (q_gd (q_ix (v3 + 3) L) ((if (xs (v3 + 3).toNatClampNeg) = 0 then q_bd (f_X10_turn (xs (v3 + 1).toNatClampNeg) (xs (v3 + 2).toNatClampNeg) 0 μ83) (fun r92 μ90 => (if r85 = r92 then q_le (v3 + 8 : Int32) (fun y94 => Kb y94 μ90) else some (0, μ90))) else q_bd (f_X10_turn (xs (v3 + 1).toNatClampNeg) (xs (v3 + 2).toNatClampNeg) 1 μ83) (fun r97 μ95 => (if r85 = r97 then q_le (v3 + 8 : Int32) (fun y99 => Kb y99 μ95) else some (0, μ95))))))))
def J_L_law_911 (xs : Nat → Int32) (L : Nat) (Kb : Int32 → q_M → Option (Int32 × q_M)) (Kx : q_M → Option (Int32 × q_M)) (v3 : Int32) (s0 : Int32) (s1 : Int32) (μ : q_M) : Option (Int32 × q_M) := q_bd (f_X9_slow s1 s0 μ) (fun r195 μ193 => q_gd (q_ix (v3 + 1) L) (q_gd (q_ix (v3 + 2) L) ((if (xs (v3 + 2).toNatClampNeg) = 0 then q_bd (f_X10_slow (xs (v3 + 1).toNatClampNeg) 0 μ193) (fun r201 μ199 => (if r195 = r201 then q_le (v3 + 8 : Int32) (fun y203 => Kb y203 μ199) else some (0, μ199))) else q_bd (f_X10_slow (xs (v3 + 1).toNatClampNeg) 1 μ193) (fun r206 μ204 => (if r195 = r206 then q_le (v3 + 8 : Int32) (fun y208 => Kb y208 μ204) else some (0, μ204)))))))
def J_L_law_1062 (xs : Nat → Int32) (L : Nat) (Kb : Int32 → q_M → Option (Int32 × q_M)) (Kx : q_M → Option (Int32 × q_M)) (v3 : Int32) (s0 : Int32) (s1 : Int32) (μ : q_M) : Option (Int32 × q_M) := q_bd (f_X9_change s1 s0 μ) (fun r256 μ254 => q_gd (q_ix (v3 + 1) L) (q_gd (q_ix (v3 + 2) L) ((if (xs (v3 + 2).toNatClampNeg) = 0 then q_bd (f_X10_change (xs (v3 + 1).toNatClampNeg) 0 μ254) (fun r262 μ260 => (if r256 = r262 then q_le (v3 + 8 : Int32) (fun y264 => Kb y264 μ260) else some (0, μ260))) else q_bd (f_X10_change (xs (v3 + 1).toNatClampNeg) 1 μ254) (fun r267 μ265 => (if r256 = r267 then q_le (v3 + 8 : Int32) (fun y269 => Kb y269 μ265) else some (0, μ265)))))))
def L_L_law_18 (xs : Nat → Int32) (L : Nat) (Kx : q_M → Option (Int32 × q_M)) : Nat → Int32 → q_M → Option (Int32 × q_M)
  | 0, _, _ => none
  | n + 1, v3, μ => (if ((Int32.ofNat L) - 8) < v3 then Kx μ else q_gd (q_ix v3 L) ((q_le (((xs v3.toNatClampNeg) &&& 31) : Int32) (fun y3 => if y3 = 0 then q_bd (f_X9_node  μ) (fun r7 μ5 => q_bd (f_X10_node  μ5) (fun r10 μ8 => (if r7 = r10 then q_le (v3 + 8 : Int32) (fun y12 => (L_L_law_18 xs L Kx n) y12 μ8) else some (0, μ8)))) else if y3 = 1 then q_gd (q_ix (v3 + 1) L) (q_gd (q_ix (v3 + 2) L) (q_gd (q_ix (v3 + 3) L) (q_gd (q_ix (v3 + 4) L) (q_gd (q_ix (v3 + 5) L) (q_bd (f_X9_road (xs (v3 + 1).toNatClampNeg) (xs (v3 + 2).toNatClampNeg) (xs (v3 + 3).toNatClampNeg) (xs (v3 + 4).toNatClampNeg) (xs (v3 + 5).toNatClampNeg) μ) (fun r21 μ19 => q_bd (f_X10_road (xs (v3 + 1).toNatClampNeg) (xs (v3 + 2).toNatClampNeg) (xs (v3 + 3).toNatClampNeg) (xs (v3 + 4).toNatClampNeg) (xs (v3 + 5).toNatClampNeg) μ19) (fun r24 μ22 => (if r21 = r24 then q_le (v3 + 8 : Int32) (fun y26 => (L_L_law_18 xs L Kx n) y26 μ22) else some (0, μ22))))))))) else if y3 = 2 then q_gd (q_ix (v3 + 1) L) (q_bd (f_X9_bridge (xs (v3 + 1).toNatClampNeg) μ) (fun r31 μ29 => q_bd (f_X10_bridge (xs (v3 + 1).toNatClampNeg) μ29) (fun r34 μ32 => (if r31 = r34 then q_le (v3 + 8 : Int32) (fun y36 => (L_L_law_18 xs L Kx n) y36 μ32) else some (0, μ32))))) else if y3 = 3 then q_gd (q_ix (v3 + 1) L) (q_gd (q_ix (v3 + 2) L) (q_gd (q_ix (v3 + 3) L) (q_gd (q_ix (v3 + 4) L) (q_gd (q_ix (v3 + 5) L) (q_gd (q_ix (v3 + 6) L) (q_gd (q_ix (v3 + 7) L) (q_bd (f_X9_row (xs (v3 + 1).toNatClampNeg) ((((xs (v3 + 2).toNatClampNeg).toInt64) <<< ((32 : Int32).toInt64 &&& 63)) ||| (((xs (v3 + 3).toNatClampNeg).toInt64) &&& 4294967295)) ((((xs (v3 + 4).toNatClampNeg).toInt64) <<< ((32 : Int32).toInt64 &&& 63)) ||| (((xs (v3 + 5).toNatClampNeg).toInt64) &&& 4294967295)) ((((xs (v3 + 6).toNatClampNeg).toInt64) <<< ((32 : Int32).toInt64 &&& 63)) ||| (((xs (v3 + 7).toNatClampNeg).toInt64) &&& 4294967295)) μ) (fun r47 μ45 => q_bd (f_X10_row (xs (v3 + 1).toNatClampNeg) ((((xs (v3 + 2).toNatClampNeg).toInt64) <<< ((32 : Int32).toInt64 &&& 63)) ||| (((xs (v3 + 3).toNatClampNeg).toInt64) &&& 4294967295)) ((((xs (v3 + 4).toNatClampNeg).toInt64) <<< ((32 : Int32).toInt64 &&& 63)) ||| (((xs (v3 + 5).toNatClampNeg).toInt64) &&& 4294967295)) ((((xs (v3 + 6).toNatClampNeg).toInt64) <<< ((32 : Int32).toInt64 &&& 63)) ||| (((xs (v3 + 7).toNatClampNeg).toInt64) &&& 4294967295)) μ45) (fun r50 μ48 => (if r47 = r50 then q_le (v3 + 8 : Int32) (fun y52 => (L_L_law_18 xs L Kx n) y52 μ48) else some (0, μ48))))))))))) else if y3 = 4 then q_gd (q_ix (v3 + 1) L) (q_gd (q_ix (v3 + 2) L) (q_gd (q_ix (v3 + 3) L) (q_gd (q_ix (v3 + 4) L) (q_bd (f_X9_axle ((((xs (v3 + 1).toNatClampNeg).toInt64) <<< ((32 : Int32).toInt64 &&& 63)) ||| (((xs (v3 + 2).toNatClampNeg).toInt64) &&& 4294967295)) ((((xs (v3 + 3).toNatClampNeg).toInt64) <<< ((32 : Int32).toInt64 &&& 63)) ||| (((xs (v3 + 4).toNatClampNeg).toInt64) &&& 4294967295)) μ) (fun r60 μ58 => q_bd (f_X10_axle ((((xs (v3 + 1).toNatClampNeg).toInt64) <<< ((32 : Int32).toInt64 &&& 63)) ||| (((xs (v3 + 2).toNatClampNeg).toInt64) &&& 4294967295)) ((((xs (v3 + 3).toNatClampNeg).toInt64) <<< ((32 : Int32).toInt64 &&& 63)) ||| (((xs (v3 + 4).toNatClampNeg).toInt64) &&& 4294967295)) μ58) (fun r63 μ61 => (if r60 = r63 then q_le (v3 + 8 : Int32) (fun y65 => (L_L_law_18 xs L Kx n) y65 μ61) else some (0, μ61)))))))) else if y3 = 5 then q_gd (q_ix (v3 + 1) L) (q_gd (q_ix (v3 + 2) L) (q_gd (q_ix (v3 + 3) L) (q_bd (f_X9_size (xs (v3 + 1).toNatClampNeg) (xs (v3 + 2).toNatClampNeg) (xs (v3 + 3).toNatClampNeg) μ) (fun r72 μ70 => q_bd (f_X10_size (xs (v3 + 1).toNatClampNeg) (xs (v3 + 2).toNatClampNeg) (xs (v3 + 3).toNatClampNeg) μ70) (fun r75 μ73 => (if r72 = r75 then q_le (v3 + 8 : Int32) (fun y77 => (L_L_law_18 xs L Kx n) y77 μ73) else some (0, μ73))))))) else if y3 = 6 then q_gd (q_ix (v3 + 1) L) (q_gd (q_ix (v3 + 2) L) (q_gd (q_ix (v3 + 3) L) ((if (xs (v3 + 3).toNatClampNeg) = 0 then J_L_law_542 xs L (L_L_law_18 xs L Kx n) Kx v3 0 (xs (v3 + 2).toNatClampNeg) (xs (v3 + 1).toNatClampNeg) μ else J_L_law_542 xs L (L_L_law_18 xs L Kx n) Kx v3 1 (xs (v3 + 2).toNatClampNeg) (xs (v3 + 1).toNatClampNeg) μ)))) else if y3 = 7 then q_gd (q_ix (v3 + 1) L) (q_gd (q_ix (v3 + 2) L) (q_gd (q_ix (v3 + 3) L) (q_bd (f_X9_hours (xs (v3 + 1).toNatClampNeg) (xs (v3 + 2).toNatClampNeg) (xs (v3 + 3).toNatClampNeg) μ) (fun r106 μ104 => q_bd (f_X10_hours (xs (v3 + 1).toNatClampNeg) (xs (v3 + 2).toNatClampNeg) (xs (v3 + 3).toNatClampNeg) μ104) (fun r109 μ107 => (if r106 = r109 then q_le (v3 + 8 : Int32) (fun y111 => (L_L_law_18 xs L Kx n) y111 μ107) else some (0, μ107))))))) else if y3 = 8 then q_gd (q_ix (v3 + 1) L) (q_gd (q_ix (v3 + 2) L) (q_bd (f_X9_rating (xs (v3 + 1).toNatClampNeg) (xs (v3 + 2).toNatClampNeg) μ) (fun r117 μ115 => q_bd (f_X10_rating (xs (v3 + 1).toNatClampNeg) (xs (v3 + 2).toNatClampNeg) μ115) (fun r120 μ118 => (if (lg_cmp r117 r120) = 0 then q_le (v3 + 8 : Int32) (fun y122 => (L_L_law_18 xs L Kx n) y122 μ118) else some (0, μ118)))))) else if y3 = 9 then q_gd (q_ix (v3 + 1) L) (q_bd (f_X9_kept (xs (v3 + 1).toNatClampNeg) μ) (fun r127 μ125 => q_bd (f_X10_kept (xs (v3 + 1).toNatClampNeg) μ125) (fun r130 μ128 => (if r127 = r130 then q_le (v3 + 8 : Int32) (fun y132 => (L_L_law_18 xs L Kx n) y132 μ128) else some (0, μ128))))) else if y3 = 10 then q_gd (q_ix (v3 + 1) L) (q_gd (q_ix (v3 + 2) L) (q_gd (q_ix (v3 + 3) L) (q_bd (f_X9_run (xs (v3 + 1).toNatClampNeg) (xs (v3 + 2).toNatClampNeg) (xs (v3 + 3).toNatClampNeg) μ) (fun r139 μ137 => q_bd (f_X10_run (xs (v3 + 1).toNatClampNeg) (xs (v3 + 2).toNatClampNeg) (xs (v3 + 3).toNatClampNeg) μ137) (fun r142 μ140 => (if r139 = r142 then q_le (v3 + 8 : Int32) (fun y144 => (L_L_law_18 xs L Kx n) y144 μ140) else some (0, μ140))))))) else if y3 = 11 then q_gd (q_ix (v3 + 1) L) (q_bd (f_X9_road2 (xs (v3 + 1).toNatClampNeg) μ) (fun r149 μ147 => q_bd (f_X10_road2 (xs (v3 + 1).toNatClampNeg) μ147) (fun r152 μ150 => (if r149 = r152 then q_le (v3 + 8 : Int32) (fun y154 => (L_L_law_18 xs L Kx n) y154 μ150) else some (0, μ150))))) else if y3 = 12 then q_gd (q_ix (v3 + 1) L) (q_bd (f_X9_begun (xs (v3 + 1).toNatClampNeg) μ) (fun r159 μ157 => q_bd (f_X10_begun (xs (v3 + 1).toNatClampNeg) μ157) (fun r162 μ160 => (if r159 = r162 then q_le (v3 + 8 : Int32) (fun y164 => (L_L_law_18 xs L Kx n) y164 μ160) else some (0, μ160))))) else if y3 = 13 then q_gd (q_ix (v3 + 1) L) (q_gd (q_ix (v3 + 2) L) (q_bd (f_X9_bars (xs (v3 + 1).toNatClampNeg) (xs (v3 + 2).toNatClampNeg) μ) (fun r170 μ168 => q_bd (f_X10_bars (xs (v3 + 1).toNatClampNeg) (xs (v3 + 2).toNatClampNeg) μ168) (fun r173 μ171 => (if r170 = r173 then q_le (v3 + 8 : Int32) (fun y175 => (L_L_law_18 xs L Kx n) y175 μ171) else some (0, μ171)))))) else if y3 = 14 then q_gd (q_ix (v3 + 1) L) (q_gd (q_ix (v3 + 2) L) (q_gd (q_ix (v3 + 3) L) (q_gd (q_ix (v3 + 4) L) (q_bd (f_X9_alternate ((((xs (v3 + 1).toNatClampNeg).toInt64) <<< ((32 : Int32).toInt64 &&& 63)) ||| (((xs (v3 + 2).toNatClampNeg).toInt64) &&& 4294967295)) ((((xs (v3 + 3).toNatClampNeg).toInt64) <<< ((32 : Int32).toInt64 &&& 63)) ||| (((xs (v3 + 4).toNatClampNeg).toInt64) &&& 4294967295)) μ) (fun r183 μ181 => q_bd (f_X10_alternate ((((xs (v3 + 1).toNatClampNeg).toInt64) <<< ((32 : Int32).toInt64 &&& 63)) ||| (((xs (v3 + 2).toNatClampNeg).toInt64) &&& 4294967295)) ((((xs (v3 + 3).toNatClampNeg).toInt64) <<< ((32 : Int32).toInt64 &&& 63)) ||| (((xs (v3 + 4).toNatClampNeg).toInt64) &&& 4294967295)) μ181) (fun r186 μ184 => (if r183 = r186 then q_le (v3 + 8 : Int32) (fun y188 => (L_L_law_18 xs L Kx n) y188 μ184) else some (0, μ184)))))))) else if y3 = 15 then q_gd (q_ix (v3 + 1) L) (q_gd (q_ix (v3 + 2) L) ((if (xs (v3 + 2).toNatClampNeg) = 0 then J_L_law_911 xs L (L_L_law_18 xs L Kx n) Kx v3 0 (xs (v3 + 1).toNatClampNeg) μ else J_L_law_911 xs L (L_L_law_18 xs L Kx n) Kx v3 1 (xs (v3 + 1).toNatClampNeg) μ))) else if y3 = 16 then q_gd (q_ix (v3 + 1) L) (q_gd (q_ix (v3 + 2) L) (q_bd (f_X9_convoy (xs (v3 + 1).toNatClampNeg) (xs (v3 + 2).toNatClampNeg) μ) (fun r214 μ212 => q_bd (f_X10_convoy (xs (v3 + 1).toNatClampNeg) (xs (v3 + 2).toNatClampNeg) μ212) (fun r217 μ215 => (if r214 = r217 then q_le (v3 + 8 : Int32) (fun y219 => (L_L_law_18 xs L Kx n) y219 μ215) else some (0, μ215)))))) else if y3 = 17 then q_gd (q_ix (v3 + 1) L) (q_bd (f_X9_escort (xs (v3 + 1).toNatClampNeg) μ) (fun r224 μ222 => q_bd (f_X10_escort (xs (v3 + 1).toNatClampNeg) μ222) (fun r227 μ225 => (if r224 = r227 then q_le (v3 + 8 : Int32) (fun y229 => (L_L_law_18 xs L Kx n) y229 μ225) else some (0, μ225))))) else if y3 = 18 then q_gd (q_ix (v3 + 1) L) (q_bd (f_X9_notice (xs (v3 + 1).toNatClampNeg) μ) (fun r234 μ232 => q_bd (f_X10_notice (xs (v3 + 1).toNatClampNeg) μ232) (fun r237 μ235 => (if r234 = r237 then q_le (v3 + 8 : Int32) (fun y239 => (L_L_law_18 xs L Kx n) y239 μ235) else some (0, μ235))))) else if y3 = 19 then q_gd (q_ix (v3 + 1) L) (q_bd (f_X9_record (xs (v3 + 1).toNatClampNeg) μ) (fun r244 μ242 => q_bd (f_X10_record (xs (v3 + 1).toNatClampNeg) μ242) (fun r247 μ245 => (if r244 = r247 then q_le (v3 + 8 : Int32) (fun y249 => (L_L_law_18 xs L Kx n) y249 μ245) else some (0, μ245))))) else if y3 = 20 then q_gd (q_ix (v3 + 1) L) (q_gd (q_ix (v3 + 2) L) ((if (xs (v3 + 2).toNatClampNeg) = 0 then J_L_law_1062 xs L (L_L_law_18 xs L Kx n) Kx v3 0 (xs (v3 + 1).toNatClampNeg) μ else J_L_law_1062 xs L (L_L_law_18 xs L Kx n) Kx v3 1 (xs (v3 + 1).toNatClampNeg) μ))) else if y3 = 21 then q_gd (q_ix (v3 + 1) L) (q_bd (f_X9_count (xs (v3 + 1).toNatClampNeg) μ) (fun r274 μ272 => q_bd (f_X10_count (xs (v3 + 1).toNatClampNeg) μ272) (fun r277 μ275 => (if r274 = r277 then q_le (v3 + 8 : Int32) (fun y279 => (L_L_law_18 xs L Kx n) y279 μ275) else some (0, μ275))))) else q_le (v3 + 8 : Int32) (fun y280 => (L_L_law_18 xs L Kx n) y280 μ)))))
def f_law (xs : Nat → Int32) (L : Nat) (v3 : Int32) (μ : q_M) : Option (Int32 × q_M) := L_L_law_18 xs L (fun μ => some (1, μ)) q_fu v3 μ
set_option maxHeartbeats 8000000 in
set_option maxRecDepth 100000 in
theorem law_loop {p : Program} {l : Launch} {e : Env} {s : State} {m : MethodId} {below : List Frame} {meth : Method} {c : Code} {b L : Nat} {xs : Nat → Int32} (C0 : lw_At p s m meth c b L xs) (E : q_E) (F : q_X E (fun q => s.heap.size ≤ q) s) (v3 : Int32) (μ μr : q_M) (H : Heap) (locs : List Loc) (ls : Array Slot) (S : q_S E (fun q => s.heap.size ≤ q) s μ H locs) (hl : lv_has ls 4 [(0, .ref b), (1, .ref (E.2.2.2 0)), (2, .ref (E.2.2.2 137)), (3, .int v3)]) (h : f_law xs L v3 μ = some (1, μr)) : W p l e room_1 s m #[Value.ref b] below meth c H locs 165 1434 (lw_Z below #[Value.ref b] s) (F0 m 18 ls []) := by
  obtain ⟨hx, hb, hr, hml, hown, hts0, hX, hbl, hlk, hgv⟩ := C0
  have hts : ∀ w ∈ lw_tbl, w.before #[Value.ref b] s = true := hts0
  have hbA : ¬ (fun q : Nat => s.heap.size ≤ q) b := Nat.not_le.mpr hbl
  have hE : q_I E := F.2.1
  have hJ542 : ∀ (Kb : Int32 → q_M → Option (Int32 × q_M)), (∀ (v3 : Int32), ∀ (μ : q_M) (H : Heap) (locs : List Loc) (ls : Array Slot), q_S E (fun q => s.heap.size ≤ q) s μ H locs → lv_has ls 4 [(0, .ref b), (1, .ref (E.2.2.2 0)), (2, .ref (E.2.2.2 137)), (3, .int v3)] → Kb v3 μ = some (1, μr) → W p l e room_1 s m #[Value.ref b] below meth c H locs 165 1434 (lw_Z below #[Value.ref b] s) (F0 m 18 ls [])) → ∀ (Kx : q_M → Option (Int32 × q_M)), (∀ (μ : q_M) (H : Heap) (locs : List Loc) (ls : Array Slot), q_S E (fun q => s.heap.size ≤ q) s μ H locs → lv_has ls 4 [] → Kx μ = some (1, μr) → W p l e room_1 s m #[Value.ref b] below meth c H locs 165 1434 (lw_Z below #[Value.ref b] s) (F0 m 1121 ls [])) → ∀ (v3 : Int32), ∀ (s0 : Int32), ∀ (s1 : Int32), ∀ (s2 : Int32), ∀ (μ : q_M) (H : Heap) (locs : List Loc) (ls : Array Slot), q_S E (fun q => s.heap.size ≤ q) s μ H locs → lv_has ls 4 [(0, .ref b), (1, .ref (E.2.2.2 0)), (2, .ref (E.2.2.2 137)), (3, .int v3)] → J_L_law_542 xs L Kb Kx v3 s0 s1 s2 μ = some (1, μr) → W p l e room_1 s m #[Value.ref b] below meth c H locs 165 1434 (lw_Z below #[Value.ref b] s) (F0 m 542 ls [.int s0, .int s1, .int s2, .ref (E.2.2.2 0)]) := by
    intro Kb hKb Kx hKx v3 s0 s1 s2 μ H locs ls S hl h
    rw [J_L_law_542] at h
    obtain ⟨r85, μ83, hc84, h⟩ := q_bd_some h
    refine q_ki F S (q_runV (As := [.int s2, .int s1, .int s0]) (rest := []) (b := 0) ⟨hx, hb, hml, hown, hts⟩ F S (c_X9_turn l E hE s2 s1 s0 μ μ83 r85 hc84) (cwV 3 hts gl_X9_turn rfl rfl rfl (by decide +kernel) ⟨Nat.le_of_ble_eq_true rfl, Nat.le_of_ble_eq_true rfl⟩) q_k0 (by decide) rfl rfl hl.1 rfl (Nat.le_of_ble_eq_true rfl) dL_law_542 ⟨Nat.le_of_ble_eq_true rfl, Nat.le_of_ble_eq_true rfl⟩) (fun H locs S => ?_)
    refine lv_aload_n hx hb dL_law_545 rfl (lv_at hl 2 rfl) ?_
    refine lv_aload_n hx hb dL_law_546 rfl (lv_at hl 0 rfl) ?_
    refine lv_iload_n hx hb dL_law_547 rfl (lv_at hl 3 rfl) ?_
    refine lv_iconst (v := 1) hx hb dL_law_548 (by decide) ?_
    refine lv_iadd hx hb dL_law_549 ?_
    obtain ⟨g86, h⟩ := q_gd_some h
    refine va_sld hx hb hX hbl hbA S.2 (q_in g86) dL_law_550 ?_
    refine lv_aload_n hx hb dL_law_551 rfl (lv_at hl 0 rfl) ?_
    refine lv_iload_n hx hb dL_law_552 rfl (lv_at hl 3 rfl) ?_
    refine lv_iconst (v := 2) hx hb dL_law_553 (by decide) ?_
    refine lv_iadd hx hb dL_law_554 ?_
    obtain ⟨g87, h⟩ := q_gd_some h
    refine va_sld hx hb hX hbl hbA S.2 (q_in g87) dL_law_555 ?_
    refine lv_aload_n hx hb dL_law_556 rfl (lv_at hl 0 rfl) ?_
    refine lv_iload_n hx hb dL_law_557 rfl (lv_at hl 3 rfl) ?_
    refine lv_iconst (v := 3) hx hb dL_law_558 (by decide) ?_
    refine lv_iadd hx hb dL_law_559 ?_
    obtain ⟨g88, h⟩ := q_gd_some h
    refine va_sld hx hb hX hbl hbA S.2 (q_in g88) dL_law_560 ?_
    refine lv_if_eq (tgt := 568) hx hb dL_law_561 (by decide) (fun c89 => ?_) (fun c89 => ?_)
    · have h := q_ip c89 h
      refine lv_iconst (v := 0) hx hb dL_law_568 (by decide) ?_
      obtain ⟨r92, μ90, hc91, h⟩ := q_bd_some h
      refine q_ki F S (q_runV (As := [.int (xs (v3 + 1).toNatClampNeg), .int (xs (v3 + 2).toNatClampNeg), .int 0]) (rest := [.int r85]) (b := 137) ⟨hx, hb, hml, hown, hts⟩ F S (c_X10_turn l E hE (xs (v3 + 1).toNatClampNeg) (xs (v3 + 2).toNatClampNeg) 0 μ83 μ90 r92 hc91) (cwV 3 hts gl_X10_turn rfl rfl rfl (by decide +kernel) ⟨Nat.le_of_ble_eq_true rfl, Nat.le_of_ble_eq_true rfl⟩) q_k137 (by decide) rfl rfl hl.1 rfl (Nat.le_of_ble_eq_true rfl) dL_law_569 ⟨Nat.le_of_ble_eq_true rfl, Nat.le_of_ble_eq_true rfl⟩) (fun H locs S => ?_)
      refine lv_icmp_eq (tgt := 1115) hx hb dL_law_572 (by decide) (fun c93 => ?_) (fun c93 => ?_)
      · have h := q_ip c93 h
        obtain ⟨y94, ey94⟩ : ∃ z : Int32, z = v3 + 8 := ⟨_, rfl⟩
        have h := q_le_e h ey94
        refine lv_iinc (v := y94) (lv' := [(3, .int y94), (0, .ref b), (1, .ref (E.2.2.2 0)), (2, .ref (E.2.2.2 137))]) hx hb dL_law_1115 hl (k := 3) rfl (by rw [ey94]; rfl) (by decide) rfl (fun ls hl => ?_)
        refine lv_goto (tgt := 18) hx hb dL_law_1118 (by decide) ?_
        exact hKb y94 μ90 H locs ls S (lv_sub hl [1, 2, 3, 0] rfl) h
      · have h := q_ig c93 h
        refine lv_iconst (v := 0) hx hb dL_law_575 (by decide) ?_
        exact absurd h (by simp)
    · have h := q_ig c89 h
      refine lv_iconst (v := 1) hx hb dL_law_564 (by decide) ?_
      refine lv_goto (tgt := 569) hx hb dL_law_565 (by decide) ?_
      obtain ⟨r97, μ95, hc96, h⟩ := q_bd_some h
      refine q_ki F S (q_runV (As := [.int (xs (v3 + 1).toNatClampNeg), .int (xs (v3 + 2).toNatClampNeg), .int 1]) (rest := [.int r85]) (b := 137) ⟨hx, hb, hml, hown, hts⟩ F S (c_X10_turn l E hE (xs (v3 + 1).toNatClampNeg) (xs (v3 + 2).toNatClampNeg) 1 μ83 μ95 r97 hc96) (cwV 3 hts gl_X10_turn rfl rfl rfl (by decide +kernel) ⟨Nat.le_of_ble_eq_true rfl, Nat.le_of_ble_eq_true rfl⟩) q_k137 (by decide) rfl rfl hl.1 rfl (Nat.le_of_ble_eq_true rfl) dL_law_569 ⟨Nat.le_of_ble_eq_true rfl, Nat.le_of_ble_eq_true rfl⟩) (fun H locs S => ?_)
      refine lv_icmp_eq (tgt := 1115) hx hb dL_law_572 (by decide) (fun c98 => ?_) (fun c98 => ?_)
      · have h := q_ip c98 h
        obtain ⟨y99, ey99⟩ : ∃ z : Int32, z = v3 + 8 := ⟨_, rfl⟩
        have h := q_le_e h ey99
        refine lv_iinc (v := y99) (lv' := [(3, .int y99), (0, .ref b), (1, .ref (E.2.2.2 0)), (2, .ref (E.2.2.2 137))]) hx hb dL_law_1115 hl (k := 3) rfl (by rw [ey99]; rfl) (by decide) rfl (fun ls hl => ?_)
        refine lv_goto (tgt := 18) hx hb dL_law_1118 (by decide) ?_
        exact hKb y99 μ95 H locs ls S (lv_sub hl [1, 2, 3, 0] rfl) h
      · have h := q_ig c98 h
        refine lv_iconst (v := 0) hx hb dL_law_575 (by decide) ?_
        exact absurd h (by simp)
  have hJ911 : ∀ (Kb : Int32 → q_M → Option (Int32 × q_M)), (∀ (v3 : Int32), ∀ (μ : q_M) (H : Heap) (locs : List Loc) (ls : Array Slot), q_S E (fun q => s.heap.size ≤ q) s μ H locs → lv_has ls 4 [(0, .ref b), (1, .ref (E.2.2.2 0)), (2, .ref (E.2.2.2 137)), (3, .int v3)] → Kb v3 μ = some (1, μr) → W p l e room_1 s m #[Value.ref b] below meth c H locs 165 1434 (lw_Z below #[Value.ref b] s) (F0 m 18 ls [])) → ∀ (Kx : q_M → Option (Int32 × q_M)), (∀ (μ : q_M) (H : Heap) (locs : List Loc) (ls : Array Slot), q_S E (fun q => s.heap.size ≤ q) s μ H locs → lv_has ls 4 [] → Kx μ = some (1, μr) → W p l e room_1 s m #[Value.ref b] below meth c H locs 165 1434 (lw_Z below #[Value.ref b] s) (F0 m 1121 ls [])) → ∀ (v3 : Int32), ∀ (s0 : Int32), ∀ (s1 : Int32), ∀ (μ : q_M) (H : Heap) (locs : List Loc) (ls : Array Slot), q_S E (fun q => s.heap.size ≤ q) s μ H locs → lv_has ls 4 [(0, .ref b), (1, .ref (E.2.2.2 0)), (2, .ref (E.2.2.2 137)), (3, .int v3)] → J_L_law_911 xs L Kb Kx v3 s0 s1 μ = some (1, μr) → W p l e room_1 s m #[Value.ref b] below meth c H locs 165 1434 (lw_Z below #[Value.ref b] s) (F0 m 911 ls [.int s0, .int s1, .ref (E.2.2.2 0)]) := by
    intro Kb hKb Kx hKx v3 s0 s1 μ H locs ls S hl h
    rw [J_L_law_911] at h
    obtain ⟨r195, μ193, hc194, h⟩ := q_bd_some h
    refine q_ki F S (q_runV (As := [.int s1, .int s0]) (rest := []) (b := 0) ⟨hx, hb, hml, hown, hts⟩ F S (c_X9_slow l E hE s1 s0 μ μ193 r195 hc194) (cwV 2 hts gl_X9_slow rfl rfl rfl (by decide +kernel) ⟨Nat.le_of_ble_eq_true rfl, Nat.le_of_ble_eq_true rfl⟩) q_k0 (by decide) rfl rfl hl.1 rfl (Nat.le_of_ble_eq_true rfl) dL_law_911 ⟨Nat.le_of_ble_eq_true rfl, Nat.le_of_ble_eq_true rfl⟩) (fun H locs S => ?_)
    refine lv_aload_n hx hb dL_law_914 rfl (lv_at hl 2 rfl) ?_
    refine lv_aload_n hx hb dL_law_915 rfl (lv_at hl 0 rfl) ?_
    refine lv_iload_n hx hb dL_law_916 rfl (lv_at hl 3 rfl) ?_
    refine lv_iconst (v := 1) hx hb dL_law_917 (by decide) ?_
    refine lv_iadd hx hb dL_law_918 ?_
    obtain ⟨g196, h⟩ := q_gd_some h
    refine va_sld hx hb hX hbl hbA S.2 (q_in g196) dL_law_919 ?_
    refine lv_aload_n hx hb dL_law_920 rfl (lv_at hl 0 rfl) ?_
    refine lv_iload_n hx hb dL_law_921 rfl (lv_at hl 3 rfl) ?_
    refine lv_iconst (v := 2) hx hb dL_law_922 (by decide) ?_
    refine lv_iadd hx hb dL_law_923 ?_
    obtain ⟨g197, h⟩ := q_gd_some h
    refine va_sld hx hb hX hbl hbA S.2 (q_in g197) dL_law_924 ?_
    refine lv_if_eq (tgt := 932) hx hb dL_law_925 (by decide) (fun c198 => ?_) (fun c198 => ?_)
    · have h := q_ip c198 h
      refine lv_iconst (v := 0) hx hb dL_law_932 (by decide) ?_
      obtain ⟨r201, μ199, hc200, h⟩ := q_bd_some h
      refine q_ki F S (q_runV (As := [.int (xs (v3 + 1).toNatClampNeg), .int 0]) (rest := [.int r195]) (b := 137) ⟨hx, hb, hml, hown, hts⟩ F S (c_X10_slow l E hE (xs (v3 + 1).toNatClampNeg) 0 μ193 μ199 r201 hc200) (cwV 2 hts gl_X10_slow rfl rfl rfl (by decide +kernel) ⟨Nat.le_of_ble_eq_true rfl, Nat.le_of_ble_eq_true rfl⟩) q_k137 (by decide) rfl rfl hl.1 rfl (Nat.le_of_ble_eq_true rfl) dL_law_933 ⟨Nat.le_of_ble_eq_true rfl, Nat.le_of_ble_eq_true rfl⟩) (fun H locs S => ?_)
      refine lv_icmp_eq (tgt := 1115) hx hb dL_law_936 (by decide) (fun c202 => ?_) (fun c202 => ?_)
      · have h := q_ip c202 h
        obtain ⟨y203, ey203⟩ : ∃ z : Int32, z = v3 + 8 := ⟨_, rfl⟩
        have h := q_le_e h ey203
        refine lv_iinc (v := y203) (lv' := [(3, .int y203), (0, .ref b), (1, .ref (E.2.2.2 0)), (2, .ref (E.2.2.2 137))]) hx hb dL_law_1115 hl (k := 3) rfl (by rw [ey203]; rfl) (by decide) rfl (fun ls hl => ?_)
        refine lv_goto (tgt := 18) hx hb dL_law_1118 (by decide) ?_
        exact hKb y203 μ199 H locs ls S (lv_sub hl [1, 2, 3, 0] rfl) h
      · have h := q_ig c202 h
        refine lv_iconst (v := 0) hx hb dL_law_939 (by decide) ?_
        exact absurd h (by simp)
    · have h := q_ig c198 h
      refine lv_iconst (v := 1) hx hb dL_law_928 (by decide) ?_
      refine lv_goto (tgt := 933) hx hb dL_law_929 (by decide) ?_
      obtain ⟨r206, μ204, hc205, h⟩ := q_bd_some h
      refine q_ki F S (q_runV (As := [.int (xs (v3 + 1).toNatClampNeg), .int 1]) (rest := [.int r195]) (b := 137) ⟨hx, hb, hml, hown, hts⟩ F S (c_X10_slow l E hE (xs (v3 + 1).toNatClampNeg) 1 μ193 μ204 r206 hc205) (cwV 2 hts gl_X10_slow rfl rfl rfl (by decide +kernel) ⟨Nat.le_of_ble_eq_true rfl, Nat.le_of_ble_eq_true rfl⟩) q_k137 (by decide) rfl rfl hl.1 rfl (Nat.le_of_ble_eq_true rfl) dL_law_933 ⟨Nat.le_of_ble_eq_true rfl, Nat.le_of_ble_eq_true rfl⟩) (fun H locs S => ?_)
      refine lv_icmp_eq (tgt := 1115) hx hb dL_law_936 (by decide) (fun c207 => ?_) (fun c207 => ?_)
      · have h := q_ip c207 h
        obtain ⟨y208, ey208⟩ : ∃ z : Int32, z = v3 + 8 := ⟨_, rfl⟩
        have h := q_le_e h ey208
        refine lv_iinc (v := y208) (lv' := [(3, .int y208), (0, .ref b), (1, .ref (E.2.2.2 0)), (2, .ref (E.2.2.2 137))]) hx hb dL_law_1115 hl (k := 3) rfl (by rw [ey208]; rfl) (by decide) rfl (fun ls hl => ?_)
        refine lv_goto (tgt := 18) hx hb dL_law_1118 (by decide) ?_
        exact hKb y208 μ204 H locs ls S (lv_sub hl [1, 2, 3, 0] rfl) h
      · have h := q_ig c207 h
        refine lv_iconst (v := 0) hx hb dL_law_939 (by decide) ?_
        exact absurd h (by simp)
  have hJ1062 : ∀ (Kb : Int32 → q_M → Option (Int32 × q_M)), (∀ (v3 : Int32), ∀ (μ : q_M) (H : Heap) (locs : List Loc) (ls : Array Slot), q_S E (fun q => s.heap.size ≤ q) s μ H locs → lv_has ls 4 [(0, .ref b), (1, .ref (E.2.2.2 0)), (2, .ref (E.2.2.2 137)), (3, .int v3)] → Kb v3 μ = some (1, μr) → W p l e room_1 s m #[Value.ref b] below meth c H locs 165 1434 (lw_Z below #[Value.ref b] s) (F0 m 18 ls [])) → ∀ (Kx : q_M → Option (Int32 × q_M)), (∀ (μ : q_M) (H : Heap) (locs : List Loc) (ls : Array Slot), q_S E (fun q => s.heap.size ≤ q) s μ H locs → lv_has ls 4 [] → Kx μ = some (1, μr) → W p l e room_1 s m #[Value.ref b] below meth c H locs 165 1434 (lw_Z below #[Value.ref b] s) (F0 m 1121 ls [])) → ∀ (v3 : Int32), ∀ (s0 : Int32), ∀ (s1 : Int32), ∀ (μ : q_M) (H : Heap) (locs : List Loc) (ls : Array Slot), q_S E (fun q => s.heap.size ≤ q) s μ H locs → lv_has ls 4 [(0, .ref b), (1, .ref (E.2.2.2 0)), (2, .ref (E.2.2.2 137)), (3, .int v3)] → J_L_law_1062 xs L Kb Kx v3 s0 s1 μ = some (1, μr) → W p l e room_1 s m #[Value.ref b] below meth c H locs 165 1434 (lw_Z below #[Value.ref b] s) (F0 m 1062 ls [.int s0, .int s1, .ref (E.2.2.2 0)]) := by
    intro Kb hKb Kx hKx v3 s0 s1 μ H locs ls S hl h
    rw [J_L_law_1062] at h
    obtain ⟨r256, μ254, hc255, h⟩ := q_bd_some h
    refine q_ki F S (q_runV (As := [.int s1, .int s0]) (rest := []) (b := 0) ⟨hx, hb, hml, hown, hts⟩ F S (c_X9_change l E hE s1 s0 μ μ254 r256 hc255) (cwV 2 hts gl_X9_change rfl rfl rfl (by decide +kernel) ⟨Nat.le_of_ble_eq_true rfl, Nat.le_of_ble_eq_true rfl⟩) q_k0 (by decide) rfl rfl hl.1 rfl (Nat.le_of_ble_eq_true rfl) dL_law_1062 ⟨Nat.le_of_ble_eq_true rfl, Nat.le_of_ble_eq_true rfl⟩) (fun H locs S => ?_)
    refine lv_aload_n hx hb dL_law_1065 rfl (lv_at hl 2 rfl) ?_
    refine lv_aload_n hx hb dL_law_1066 rfl (lv_at hl 0 rfl) ?_
    refine lv_iload_n hx hb dL_law_1067 rfl (lv_at hl 3 rfl) ?_
    refine lv_iconst (v := 1) hx hb dL_law_1068 (by decide) ?_
    refine lv_iadd hx hb dL_law_1069 ?_
    obtain ⟨g257, h⟩ := q_gd_some h
    refine va_sld hx hb hX hbl hbA S.2 (q_in g257) dL_law_1070 ?_
    refine lv_aload_n hx hb dL_law_1071 rfl (lv_at hl 0 rfl) ?_
    refine lv_iload_n hx hb dL_law_1072 rfl (lv_at hl 3 rfl) ?_
    refine lv_iconst (v := 2) hx hb dL_law_1073 (by decide) ?_
    refine lv_iadd hx hb dL_law_1074 ?_
    obtain ⟨g258, h⟩ := q_gd_some h
    refine va_sld hx hb hX hbl hbA S.2 (q_in g258) dL_law_1075 ?_
    refine lv_if_eq (tgt := 1083) hx hb dL_law_1076 (by decide) (fun c259 => ?_) (fun c259 => ?_)
    · have h := q_ip c259 h
      refine lv_iconst (v := 0) hx hb dL_law_1083 (by decide) ?_
      obtain ⟨r262, μ260, hc261, h⟩ := q_bd_some h
      refine q_ki F S (q_runV (As := [.int (xs (v3 + 1).toNatClampNeg), .int 0]) (rest := [.int r256]) (b := 137) ⟨hx, hb, hml, hown, hts⟩ F S (c_X10_change l E hE (xs (v3 + 1).toNatClampNeg) 0 μ254 μ260 r262 hc261) (cwV 2 hts gl_X10_change rfl rfl rfl (by decide +kernel) ⟨Nat.le_of_ble_eq_true rfl, Nat.le_of_ble_eq_true rfl⟩) q_k137 (by decide) rfl rfl hl.1 rfl (Nat.le_of_ble_eq_true rfl) dL_law_1084 ⟨Nat.le_of_ble_eq_true rfl, Nat.le_of_ble_eq_true rfl⟩) (fun H locs S => ?_)
      refine lv_icmp_eq (tgt := 1115) hx hb dL_law_1087 (by decide) (fun c263 => ?_) (fun c263 => ?_)
      · have h := q_ip c263 h
        obtain ⟨y264, ey264⟩ : ∃ z : Int32, z = v3 + 8 := ⟨_, rfl⟩
        have h := q_le_e h ey264
        refine lv_iinc (v := y264) (lv' := [(3, .int y264), (0, .ref b), (1, .ref (E.2.2.2 0)), (2, .ref (E.2.2.2 137))]) hx hb dL_law_1115 hl (k := 3) rfl (by rw [ey264]; rfl) (by decide) rfl (fun ls hl => ?_)
        refine lv_goto (tgt := 18) hx hb dL_law_1118 (by decide) ?_
        exact hKb y264 μ260 H locs ls S (lv_sub hl [1, 2, 3, 0] rfl) h
      · have h := q_ig c263 h
        refine lv_iconst (v := 0) hx hb dL_law_1090 (by decide) ?_
        exact absurd h (by simp)
    · have h := q_ig c259 h
      refine lv_iconst (v := 1) hx hb dL_law_1079 (by decide) ?_
      refine lv_goto (tgt := 1084) hx hb dL_law_1080 (by decide) ?_
      obtain ⟨r267, μ265, hc266, h⟩ := q_bd_some h
      refine q_ki F S (q_runV (As := [.int (xs (v3 + 1).toNatClampNeg), .int 1]) (rest := [.int r256]) (b := 137) ⟨hx, hb, hml, hown, hts⟩ F S (c_X10_change l E hE (xs (v3 + 1).toNatClampNeg) 1 μ254 μ265 r267 hc266) (cwV 2 hts gl_X10_change rfl rfl rfl (by decide +kernel) ⟨Nat.le_of_ble_eq_true rfl, Nat.le_of_ble_eq_true rfl⟩) q_k137 (by decide) rfl rfl hl.1 rfl (Nat.le_of_ble_eq_true rfl) dL_law_1084 ⟨Nat.le_of_ble_eq_true rfl, Nat.le_of_ble_eq_true rfl⟩) (fun H locs S => ?_)
      refine lv_icmp_eq (tgt := 1115) hx hb dL_law_1087 (by decide) (fun c268 => ?_) (fun c268 => ?_)
      · have h := q_ip c268 h
        obtain ⟨y269, ey269⟩ : ∃ z : Int32, z = v3 + 8 := ⟨_, rfl⟩
        have h := q_le_e h ey269
        refine lv_iinc (v := y269) (lv' := [(3, .int y269), (0, .ref b), (1, .ref (E.2.2.2 0)), (2, .ref (E.2.2.2 137))]) hx hb dL_law_1115 hl (k := 3) rfl (by rw [ey269]; rfl) (by decide) rfl (fun ls hl => ?_)
        refine lv_goto (tgt := 18) hx hb dL_law_1118 (by decide) ?_
        exact hKb y269 μ265 H locs ls S (lv_sub hl [1, 2, 3, 0] rfl) h
      · have h := q_ig c268 h
        refine lv_iconst (v := 0) hx hb dL_law_1090 (by decide) ?_
        exact absurd h (by simp)
  have hL18 : ∀ (Kx : q_M → Option (Int32 × q_M)), (∀ (μ : q_M) (H : Heap) (locs : List Loc) (ls : Array Slot), q_S E (fun q => s.heap.size ≤ q) s μ H locs → lv_has ls 4 [] → Kx μ = some (1, μr) → W p l e room_1 s m #[Value.ref b] below meth c H locs 165 1434 (lw_Z below #[Value.ref b] s) (F0 m 1121 ls [])) → ∀ (n : Nat), ∀ (v3 : Int32), ∀ (μ : q_M) (H : Heap) (locs : List Loc) (ls : Array Slot), q_S E (fun q => s.heap.size ≤ q) s μ H locs → lv_has ls 4 [(0, .ref b), (1, .ref (E.2.2.2 0)), (2, .ref (E.2.2.2 137)), (3, .int v3)] → L_L_law_18 xs L Kx n v3 μ = some (1, μr) → W p l e room_1 s m #[Value.ref b] below meth c H locs 165 1434 (lw_Z below #[Value.ref b] s) (F0 m 18 ls []) := by
    intro Kx hKx n
    induction n with
    | zero => intro v3 μ H locs ls S hl h; exact absurd h (by simp [L_L_law_18])
    | succ n ih =>
      intro v3 μ H locs ls S hl h
      rw [L_L_law_18] at h
      refine lv_iload_n hx hb dL_law_18 rfl (lv_at hl 3 rfl) ?_
      refine lv_aload_n hx hb dL_law_19 rfl (lv_at hl 0 rfl) ?_
      refine va_slen hx hb hX hbl hbA S.2 dL_law_20 ?_
      refine lv_bipush (v := 8) hx hb dL_law_21 (by decide) ?_
      refine lv_isub hx hb dL_law_23 ?_
      refine lv_icmp_gt (tgt := 1121) hx hb dL_law_24 (by decide) (fun c1 => ?_) (fun c1 => ?_)
      · have h := q_ip c1 h
        exact hKx μ H locs ls S (lv_sub hl [] rfl) h
      · have h := q_ig c1 h
        refine lv_aload_n hx hb dL_law_27 rfl (lv_at hl 0 rfl) ?_
        refine lv_iload_n hx hb dL_law_28 rfl (lv_at hl 3 rfl) ?_
        obtain ⟨g2, h⟩ := q_gd_some h
        refine va_sld hx hb hX hbl hbA S.2 (q_in g2) dL_law_29 ?_
        refine lv_bipush (v := 31) hx hb dL_law_30 (by decide) ?_
        refine lv_iand hx hb dL_law_32 ?_
        refine lv_topi (fun y3 ey3 => ?_)
        have h := q_le_e h ey3
        by_cases c4 : y3 = 0
        · have h := q_ip c4 h
          refine lv_tableIn (off := 103) (tgt := 136) hx hb dL_law_33 (by rw [c4]; decide) (by rw [c4]; decide) (by rw [c4]; decide) (by decide) ?_
          refine lv_aload_n hx hb dL_law_136 rfl (lv_at hl 1 rfl) ?_
          obtain ⟨r7, μ5, hc6, h⟩ := q_bd_some h
          refine q_ki F S (q_runV (As := []) (rest := []) (b := 0) ⟨hx, hb, hml, hown, hts⟩ F S (c_X9_node l E hE  μ μ5 r7 hc6) (cwV 0 hts gl_X9_node rfl rfl rfl (by decide +kernel) ⟨Nat.le_of_ble_eq_true rfl, Nat.le_of_ble_eq_true rfl⟩) q_k0 (by decide) rfl rfl hl.1 rfl (Nat.le_of_ble_eq_true rfl) dL_law_137 ⟨Nat.le_of_ble_eq_true rfl, Nat.le_of_ble_eq_true rfl⟩) (fun H locs S => ?_)
          refine lv_aload_n hx hb dL_law_140 rfl (lv_at hl 2 rfl) ?_
          obtain ⟨r10, μ8, hc9, h⟩ := q_bd_some h
          refine q_ki F S (q_runV (As := []) (rest := [.int r7]) (b := 137) ⟨hx, hb, hml, hown, hts⟩ F S (c_X10_node l E hE  μ5 μ8 r10 hc9) (cwV 0 hts gl_X10_node rfl rfl rfl (by decide +kernel) ⟨Nat.le_of_ble_eq_true rfl, Nat.le_of_ble_eq_true rfl⟩) q_k137 (by decide) rfl rfl hl.1 rfl (Nat.le_of_ble_eq_true rfl) dL_law_141 ⟨Nat.le_of_ble_eq_true rfl, Nat.le_of_ble_eq_true rfl⟩) (fun H locs S => ?_)
          refine lv_icmp_eq (tgt := 1115) hx hb dL_law_144 (by decide) (fun c11 => ?_) (fun c11 => ?_)
          · have h := q_ip c11 h
            obtain ⟨y12, ey12⟩ : ∃ z : Int32, z = v3 + 8 := ⟨_, rfl⟩
            have h := q_le_e h ey12
            refine lv_iinc (v := y12) (lv' := [(3, .int y12), (0, .ref b), (1, .ref (E.2.2.2 0)), (2, .ref (E.2.2.2 137))]) hx hb dL_law_1115 hl (k := 3) rfl (by rw [ey12]; rfl) (by decide) rfl (fun ls hl => ?_)
            refine lv_goto (tgt := 18) hx hb dL_law_1118 (by decide) ?_
            exact ih y12 μ8 H locs ls S (lv_sub hl [1, 2, 3, 0] rfl) h
          · have h := q_ig c11 h
            refine lv_iconst (v := 0) hx hb dL_law_147 (by decide) ?_
            exact absurd h (by simp)
        have h := q_ig c4 h
        by_cases c13 : y3 = 1
        · have h := q_ip c13 h
          refine lv_tableIn (off := 116) (tgt := 149) hx hb dL_law_33 (by rw [c13]; decide) (by rw [c13]; decide) (by rw [c13]; decide) (by decide) ?_
          refine lv_aload_n hx hb dL_law_149 rfl (lv_at hl 1 rfl) ?_
          refine lv_aload_n hx hb dL_law_150 rfl (lv_at hl 0 rfl) ?_
          refine lv_iload_n hx hb dL_law_151 rfl (lv_at hl 3 rfl) ?_
          refine lv_iconst (v := 1) hx hb dL_law_152 (by decide) ?_
          refine lv_iadd hx hb dL_law_153 ?_
          obtain ⟨g14, h⟩ := q_gd_some h
          refine va_sld hx hb hX hbl hbA S.2 (q_in g14) dL_law_154 ?_
          refine lv_aload_n hx hb dL_law_155 rfl (lv_at hl 0 rfl) ?_
          refine lv_iload_n hx hb dL_law_156 rfl (lv_at hl 3 rfl) ?_
          refine lv_iconst (v := 2) hx hb dL_law_157 (by decide) ?_
          refine lv_iadd hx hb dL_law_158 ?_
          obtain ⟨g15, h⟩ := q_gd_some h
          refine va_sld hx hb hX hbl hbA S.2 (q_in g15) dL_law_159 ?_
          refine lv_aload_n hx hb dL_law_160 rfl (lv_at hl 0 rfl) ?_
          refine lv_iload_n hx hb dL_law_161 rfl (lv_at hl 3 rfl) ?_
          refine lv_iconst (v := 3) hx hb dL_law_162 (by decide) ?_
          refine lv_iadd hx hb dL_law_163 ?_
          obtain ⟨g16, h⟩ := q_gd_some h
          refine va_sld hx hb hX hbl hbA S.2 (q_in g16) dL_law_164 ?_
          refine lv_aload_n hx hb dL_law_165 rfl (lv_at hl 0 rfl) ?_
          refine lv_iload_n hx hb dL_law_166 rfl (lv_at hl 3 rfl) ?_
          refine lv_iconst (v := 4) hx hb dL_law_167 (by decide) ?_
          refine lv_iadd hx hb dL_law_168 ?_
          obtain ⟨g17, h⟩ := q_gd_some h
          refine va_sld hx hb hX hbl hbA S.2 (q_in g17) dL_law_169 ?_
          refine lv_aload_n hx hb dL_law_170 rfl (lv_at hl 0 rfl) ?_
          refine lv_iload_n hx hb dL_law_171 rfl (lv_at hl 3 rfl) ?_
          refine lv_iconst (v := 5) hx hb dL_law_172 (by decide) ?_
          refine lv_iadd hx hb dL_law_173 ?_
          obtain ⟨g18, h⟩ := q_gd_some h
          refine va_sld hx hb hX hbl hbA S.2 (q_in g18) dL_law_174 ?_
          obtain ⟨r21, μ19, hc20, h⟩ := q_bd_some h
          refine q_ki F S (q_runV (As := [.int (xs (v3 + 1).toNatClampNeg), .int (xs (v3 + 2).toNatClampNeg), .int (xs (v3 + 3).toNatClampNeg), .int (xs (v3 + 4).toNatClampNeg), .int (xs (v3 + 5).toNatClampNeg)]) (rest := []) (b := 0) ⟨hx, hb, hml, hown, hts⟩ F S (c_X9_road l E hE (xs (v3 + 1).toNatClampNeg) (xs (v3 + 2).toNatClampNeg) (xs (v3 + 3).toNatClampNeg) (xs (v3 + 4).toNatClampNeg) (xs (v3 + 5).toNatClampNeg) μ μ19 r21 hc20) (cwV 5 hts gl_X9_road rfl rfl rfl (by decide +kernel) ⟨Nat.le_of_ble_eq_true rfl, Nat.le_of_ble_eq_true rfl⟩) q_k0 (by decide) rfl rfl hl.1 rfl (Nat.le_of_ble_eq_true rfl) dL_law_175 ⟨Nat.le_of_ble_eq_true rfl, Nat.le_of_ble_eq_true rfl⟩) (fun H locs S => ?_)
          refine lv_aload_n hx hb dL_law_178 rfl (lv_at hl 2 rfl) ?_
          refine lv_aload_n hx hb dL_law_179 rfl (lv_at hl 0 rfl) ?_
          refine lv_iload_n hx hb dL_law_180 rfl (lv_at hl 3 rfl) ?_
          refine lv_iconst (v := 1) hx hb dL_law_181 (by decide) ?_
          refine lv_iadd hx hb dL_law_182 ?_
          refine va_sld hx hb hX hbl hbA S.2 (q_in g14) dL_law_183 ?_
          refine lv_aload_n hx hb dL_law_184 rfl (lv_at hl 0 rfl) ?_
          refine lv_iload_n hx hb dL_law_185 rfl (lv_at hl 3 rfl) ?_
          refine lv_iconst (v := 2) hx hb dL_law_186 (by decide) ?_
          refine lv_iadd hx hb dL_law_187 ?_
          refine va_sld hx hb hX hbl hbA S.2 (q_in g15) dL_law_188 ?_
          refine lv_aload_n hx hb dL_law_189 rfl (lv_at hl 0 rfl) ?_
          refine lv_iload_n hx hb dL_law_190 rfl (lv_at hl 3 rfl) ?_
          refine lv_iconst (v := 3) hx hb dL_law_191 (by decide) ?_
          refine lv_iadd hx hb dL_law_192 ?_
          refine va_sld hx hb hX hbl hbA S.2 (q_in g16) dL_law_193 ?_
          refine lv_aload_n hx hb dL_law_194 rfl (lv_at hl 0 rfl) ?_
          refine lv_iload_n hx hb dL_law_195 rfl (lv_at hl 3 rfl) ?_
          refine lv_iconst (v := 4) hx hb dL_law_196 (by decide) ?_
          refine lv_iadd hx hb dL_law_197 ?_
          refine va_sld hx hb hX hbl hbA S.2 (q_in g17) dL_law_198 ?_
          refine lv_aload_n hx hb dL_law_199 rfl (lv_at hl 0 rfl) ?_
          refine lv_iload_n hx hb dL_law_200 rfl (lv_at hl 3 rfl) ?_
          refine lv_iconst (v := 5) hx hb dL_law_201 (by decide) ?_
          refine lv_iadd hx hb dL_law_202 ?_
          refine va_sld hx hb hX hbl hbA S.2 (q_in g18) dL_law_203 ?_
          obtain ⟨r24, μ22, hc23, h⟩ := q_bd_some h
          refine q_ki F S (q_runV (As := [.int (xs (v3 + 1).toNatClampNeg), .int (xs (v3 + 2).toNatClampNeg), .int (xs (v3 + 3).toNatClampNeg), .int (xs (v3 + 4).toNatClampNeg), .int (xs (v3 + 5).toNatClampNeg)]) (rest := [.int r21]) (b := 137) ⟨hx, hb, hml, hown, hts⟩ F S (c_X10_road l E hE (xs (v3 + 1).toNatClampNeg) (xs (v3 + 2).toNatClampNeg) (xs (v3 + 3).toNatClampNeg) (xs (v3 + 4).toNatClampNeg) (xs (v3 + 5).toNatClampNeg) μ19 μ22 r24 hc23) (cwV 5 hts gl_X10_road rfl rfl rfl (by decide +kernel) ⟨Nat.le_of_ble_eq_true rfl, Nat.le_of_ble_eq_true rfl⟩) q_k137 (by decide) rfl rfl hl.1 rfl (Nat.le_of_ble_eq_true rfl) dL_law_204 ⟨Nat.le_of_ble_eq_true rfl, Nat.le_of_ble_eq_true rfl⟩) (fun H locs S => ?_)
          refine lv_icmp_eq (tgt := 1115) hx hb dL_law_207 (by decide) (fun c25 => ?_) (fun c25 => ?_)
          · have h := q_ip c25 h
            obtain ⟨y26, ey26⟩ : ∃ z : Int32, z = v3 + 8 := ⟨_, rfl⟩
            have h := q_le_e h ey26
            refine lv_iinc (v := y26) (lv' := [(3, .int y26), (0, .ref b), (1, .ref (E.2.2.2 0)), (2, .ref (E.2.2.2 137))]) hx hb dL_law_1115 hl (k := 3) rfl (by rw [ey26]; rfl) (by decide) rfl (fun ls hl => ?_)
            refine lv_goto (tgt := 18) hx hb dL_law_1118 (by decide) ?_
            exact ih y26 μ22 H locs ls S (lv_sub hl [1, 2, 3, 0] rfl) h
          · have h := q_ig c25 h
            refine lv_iconst (v := 0) hx hb dL_law_210 (by decide) ?_
            exact absurd h (by simp)
        have h := q_ig c13 h
        by_cases c27 : y3 = 2
        · have h := q_ip c27 h
          refine lv_tableIn (off := 179) (tgt := 212) hx hb dL_law_33 (by rw [c27]; decide) (by rw [c27]; decide) (by rw [c27]; decide) (by decide) ?_
          refine lv_aload_n hx hb dL_law_212 rfl (lv_at hl 1 rfl) ?_
          refine lv_aload_n hx hb dL_law_213 rfl (lv_at hl 0 rfl) ?_
          refine lv_iload_n hx hb dL_law_214 rfl (lv_at hl 3 rfl) ?_
          refine lv_iconst (v := 1) hx hb dL_law_215 (by decide) ?_
          refine lv_iadd hx hb dL_law_216 ?_
          obtain ⟨g28, h⟩ := q_gd_some h
          refine va_sld hx hb hX hbl hbA S.2 (q_in g28) dL_law_217 ?_
          obtain ⟨r31, μ29, hc30, h⟩ := q_bd_some h
          refine q_ki F S (q_runV (As := [.int (xs (v3 + 1).toNatClampNeg)]) (rest := []) (b := 0) ⟨hx, hb, hml, hown, hts⟩ F S (c_X9_bridge l E hE (xs (v3 + 1).toNatClampNeg) μ μ29 r31 hc30) (cwV 1 hts gl_X9_bridge rfl rfl rfl (by decide +kernel) ⟨Nat.le_of_ble_eq_true rfl, Nat.le_of_ble_eq_true rfl⟩) q_k0 (by decide) rfl rfl hl.1 rfl (Nat.le_of_ble_eq_true rfl) dL_law_218 ⟨Nat.le_of_ble_eq_true rfl, Nat.le_of_ble_eq_true rfl⟩) (fun H locs S => ?_)
          refine lv_aload_n hx hb dL_law_221 rfl (lv_at hl 2 rfl) ?_
          refine lv_aload_n hx hb dL_law_222 rfl (lv_at hl 0 rfl) ?_
          refine lv_iload_n hx hb dL_law_223 rfl (lv_at hl 3 rfl) ?_
          refine lv_iconst (v := 1) hx hb dL_law_224 (by decide) ?_
          refine lv_iadd hx hb dL_law_225 ?_
          refine va_sld hx hb hX hbl hbA S.2 (q_in g28) dL_law_226 ?_
          obtain ⟨r34, μ32, hc33, h⟩ := q_bd_some h
          refine q_ki F S (q_runV (As := [.int (xs (v3 + 1).toNatClampNeg)]) (rest := [.int r31]) (b := 137) ⟨hx, hb, hml, hown, hts⟩ F S (c_X10_bridge l E hE (xs (v3 + 1).toNatClampNeg) μ29 μ32 r34 hc33) (cwV 1 hts gl_X10_bridge rfl rfl rfl (by decide +kernel) ⟨Nat.le_of_ble_eq_true rfl, Nat.le_of_ble_eq_true rfl⟩) q_k137 (by decide) rfl rfl hl.1 rfl (Nat.le_of_ble_eq_true rfl) dL_law_227 ⟨Nat.le_of_ble_eq_true rfl, Nat.le_of_ble_eq_true rfl⟩) (fun H locs S => ?_)
          refine lv_icmp_eq (tgt := 1115) hx hb dL_law_230 (by decide) (fun c35 => ?_) (fun c35 => ?_)
          · have h := q_ip c35 h
            obtain ⟨y36, ey36⟩ : ∃ z : Int32, z = v3 + 8 := ⟨_, rfl⟩
            have h := q_le_e h ey36
            refine lv_iinc (v := y36) (lv' := [(3, .int y36), (0, .ref b), (1, .ref (E.2.2.2 0)), (2, .ref (E.2.2.2 137))]) hx hb dL_law_1115 hl (k := 3) rfl (by rw [ey36]; rfl) (by decide) rfl (fun ls hl => ?_)
            refine lv_goto (tgt := 18) hx hb dL_law_1118 (by decide) ?_
            exact ih y36 μ32 H locs ls S (lv_sub hl [1, 2, 3, 0] rfl) h
          · have h := q_ig c35 h
            refine lv_iconst (v := 0) hx hb dL_law_233 (by decide) ?_
            exact absurd h (by simp)
        have h := q_ig c27 h
        by_cases c37 : y3 = 3
        · have h := q_ip c37 h
          refine lv_tableIn (off := 202) (tgt := 235) hx hb dL_law_33 (by rw [c37]; decide) (by rw [c37]; decide) (by rw [c37]; decide) (by decide) ?_
          refine lv_aload_n hx hb dL_law_235 rfl (lv_at hl 1 rfl) ?_
          refine lv_aload_n hx hb dL_law_236 rfl (lv_at hl 0 rfl) ?_
          refine lv_iload_n hx hb dL_law_237 rfl (lv_at hl 3 rfl) ?_
          refine lv_iconst (v := 1) hx hb dL_law_238 (by decide) ?_
          refine lv_iadd hx hb dL_law_239 ?_
          obtain ⟨g38, h⟩ := q_gd_some h
          refine va_sld hx hb hX hbl hbA S.2 (q_in g38) dL_law_240 ?_
          refine lv_aload_n hx hb dL_law_241 rfl (lv_at hl 0 rfl) ?_
          refine lv_iload_n hx hb dL_law_242 rfl (lv_at hl 3 rfl) ?_
          refine lv_iconst (v := 2) hx hb dL_law_243 (by decide) ?_
          refine lv_iadd hx hb dL_law_244 ?_
          obtain ⟨g39, h⟩ := q_gd_some h
          refine va_sld hx hb hX hbl hbA S.2 (q_in g39) dL_law_245 ?_
          refine lv_i2l (v := (xs (v3 + 2).toNatClampNeg).toInt64) hx hb dL_law_246 rfl ?_
          refine lv_bipush (v := 32) hx hb dL_law_247 (by decide) ?_
          refine lv_lshl (v := (((xs (v3 + 2).toNatClampNeg).toInt64) <<< ((32 : Int32).toInt64 &&& 63))) hx hb dL_law_249 rfl ?_
          refine lv_aload_n hx hb dL_law_250 rfl (lv_at hl 0 rfl) ?_
          refine lv_iload_n hx hb dL_law_251 rfl (lv_at hl 3 rfl) ?_
          refine lv_iconst (v := 3) hx hb dL_law_252 (by decide) ?_
          refine lv_iadd hx hb dL_law_253 ?_
          obtain ⟨g40, h⟩ := q_gd_some h
          refine va_sld hx hb hX hbl hbA S.2 (q_in g40) dL_law_254 ?_
          refine lv_i2l (v := (xs (v3 + 3).toNatClampNeg).toInt64) hx hb dL_law_255 rfl ?_
          refine lv_ldc2 (v := 4294967295) hx hb hown (hts (.constantLong RL 28 (4294967295)) (by decide +kernel)) dL_law_256 ?_
          refine lv_land hx hb dL_law_259 ?_
          refine lv_lor hx hb dL_law_260 ?_
          refine lv_aload_n hx hb dL_law_261 rfl (lv_at hl 0 rfl) ?_
          refine lv_iload_n hx hb dL_law_262 rfl (lv_at hl 3 rfl) ?_
          refine lv_iconst (v := 4) hx hb dL_law_263 (by decide) ?_
          refine lv_iadd hx hb dL_law_264 ?_
          obtain ⟨g41, h⟩ := q_gd_some h
          refine va_sld hx hb hX hbl hbA S.2 (q_in g41) dL_law_265 ?_
          refine lv_i2l (v := (xs (v3 + 4).toNatClampNeg).toInt64) hx hb dL_law_266 rfl ?_
          refine lv_bipush (v := 32) hx hb dL_law_267 (by decide) ?_
          refine lv_lshl (v := (((xs (v3 + 4).toNatClampNeg).toInt64) <<< ((32 : Int32).toInt64 &&& 63))) hx hb dL_law_269 rfl ?_
          refine lv_aload_n hx hb dL_law_270 rfl (lv_at hl 0 rfl) ?_
          refine lv_iload_n hx hb dL_law_271 rfl (lv_at hl 3 rfl) ?_
          refine lv_iconst (v := 5) hx hb dL_law_272 (by decide) ?_
          refine lv_iadd hx hb dL_law_273 ?_
          obtain ⟨g42, h⟩ := q_gd_some h
          refine va_sld hx hb hX hbl hbA S.2 (q_in g42) dL_law_274 ?_
          refine lv_i2l (v := (xs (v3 + 5).toNatClampNeg).toInt64) hx hb dL_law_275 rfl ?_
          refine lv_ldc2 (v := 4294967295) hx hb hown (hts (.constantLong RL 28 (4294967295)) (by decide +kernel)) dL_law_276 ?_
          refine lv_land hx hb dL_law_279 ?_
          refine lv_lor hx hb dL_law_280 ?_
          refine lv_aload_n hx hb dL_law_281 rfl (lv_at hl 0 rfl) ?_
          refine lv_iload_n hx hb dL_law_282 rfl (lv_at hl 3 rfl) ?_
          refine lv_bipush (v := 6) hx hb dL_law_283 (by decide) ?_
          refine lv_iadd hx hb dL_law_285 ?_
          obtain ⟨g43, h⟩ := q_gd_some h
          refine va_sld hx hb hX hbl hbA S.2 (q_in g43) dL_law_286 ?_
          refine lv_i2l (v := (xs (v3 + 6).toNatClampNeg).toInt64) hx hb dL_law_287 rfl ?_
          refine lv_bipush (v := 32) hx hb dL_law_288 (by decide) ?_
          refine lv_lshl (v := (((xs (v3 + 6).toNatClampNeg).toInt64) <<< ((32 : Int32).toInt64 &&& 63))) hx hb dL_law_290 rfl ?_
          refine lv_aload_n hx hb dL_law_291 rfl (lv_at hl 0 rfl) ?_
          refine lv_iload_n hx hb dL_law_292 rfl (lv_at hl 3 rfl) ?_
          refine lv_bipush (v := 7) hx hb dL_law_293 (by decide) ?_
          refine lv_iadd hx hb dL_law_295 ?_
          obtain ⟨g44, h⟩ := q_gd_some h
          refine va_sld hx hb hX hbl hbA S.2 (q_in g44) dL_law_296 ?_
          refine lv_i2l (v := (xs (v3 + 7).toNatClampNeg).toInt64) hx hb dL_law_297 rfl ?_
          refine lv_ldc2 (v := 4294967295) hx hb hown (hts (.constantLong RL 28 (4294967295)) (by decide +kernel)) dL_law_298 ?_
          refine lv_land hx hb dL_law_301 ?_
          refine lv_lor hx hb dL_law_302 ?_
          obtain ⟨r47, μ45, hc46, h⟩ := q_bd_some h
          refine q_ki F S (q_runV (As := [.int (xs (v3 + 1).toNatClampNeg), .long ((((xs (v3 + 2).toNatClampNeg).toInt64) <<< ((32 : Int32).toInt64 &&& 63)) ||| (((xs (v3 + 3).toNatClampNeg).toInt64) &&& 4294967295)), .long ((((xs (v3 + 4).toNatClampNeg).toInt64) <<< ((32 : Int32).toInt64 &&& 63)) ||| (((xs (v3 + 5).toNatClampNeg).toInt64) &&& 4294967295)), .long ((((xs (v3 + 6).toNatClampNeg).toInt64) <<< ((32 : Int32).toInt64 &&& 63)) ||| (((xs (v3 + 7).toNatClampNeg).toInt64) &&& 4294967295))]) (rest := []) (b := 0) ⟨hx, hb, hml, hown, hts⟩ F S (c_X9_row l E hE (xs (v3 + 1).toNatClampNeg) ((((xs (v3 + 2).toNatClampNeg).toInt64) <<< ((32 : Int32).toInt64 &&& 63)) ||| (((xs (v3 + 3).toNatClampNeg).toInt64) &&& 4294967295)) ((((xs (v3 + 4).toNatClampNeg).toInt64) <<< ((32 : Int32).toInt64 &&& 63)) ||| (((xs (v3 + 5).toNatClampNeg).toInt64) &&& 4294967295)) ((((xs (v3 + 6).toNatClampNeg).toInt64) <<< ((32 : Int32).toInt64 &&& 63)) ||| (((xs (v3 + 7).toNatClampNeg).toInt64) &&& 4294967295)) μ μ45 r47 hc46) (cwV 4 hts gl_X9_row rfl rfl rfl (by decide +kernel) ⟨Nat.le_of_ble_eq_true rfl, Nat.le_of_ble_eq_true rfl⟩) q_k0 (by decide) rfl rfl hl.1 rfl (Nat.le_of_ble_eq_true rfl) dL_law_303 ⟨Nat.le_of_ble_eq_true rfl, Nat.le_of_ble_eq_true rfl⟩) (fun H locs S => ?_)
          refine lv_aload_n hx hb dL_law_306 rfl (lv_at hl 2 rfl) ?_
          refine lv_aload_n hx hb dL_law_307 rfl (lv_at hl 0 rfl) ?_
          refine lv_iload_n hx hb dL_law_308 rfl (lv_at hl 3 rfl) ?_
          refine lv_iconst (v := 1) hx hb dL_law_309 (by decide) ?_
          refine lv_iadd hx hb dL_law_310 ?_
          refine va_sld hx hb hX hbl hbA S.2 (q_in g38) dL_law_311 ?_
          refine lv_aload_n hx hb dL_law_312 rfl (lv_at hl 0 rfl) ?_
          refine lv_iload_n hx hb dL_law_313 rfl (lv_at hl 3 rfl) ?_
          refine lv_iconst (v := 2) hx hb dL_law_314 (by decide) ?_
          refine lv_iadd hx hb dL_law_315 ?_
          refine va_sld hx hb hX hbl hbA S.2 (q_in g39) dL_law_316 ?_
          refine lv_i2l (v := (xs (v3 + 2).toNatClampNeg).toInt64) hx hb dL_law_317 rfl ?_
          refine lv_bipush (v := 32) hx hb dL_law_318 (by decide) ?_
          refine lv_lshl (v := (((xs (v3 + 2).toNatClampNeg).toInt64) <<< ((32 : Int32).toInt64 &&& 63))) hx hb dL_law_320 rfl ?_
          refine lv_aload_n hx hb dL_law_321 rfl (lv_at hl 0 rfl) ?_
          refine lv_iload_n hx hb dL_law_322 rfl (lv_at hl 3 rfl) ?_
          refine lv_iconst (v := 3) hx hb dL_law_323 (by decide) ?_
          refine lv_iadd hx hb dL_law_324 ?_
          refine va_sld hx hb hX hbl hbA S.2 (q_in g40) dL_law_325 ?_
          refine lv_i2l (v := (xs (v3 + 3).toNatClampNeg).toInt64) hx hb dL_law_326 rfl ?_
          refine lv_ldc2 (v := 4294967295) hx hb hown (hts (.constantLong RL 28 (4294967295)) (by decide +kernel)) dL_law_327 ?_
          refine lv_land hx hb dL_law_330 ?_
          refine lv_lor hx hb dL_law_331 ?_
          refine lv_aload_n hx hb dL_law_332 rfl (lv_at hl 0 rfl) ?_
          refine lv_iload_n hx hb dL_law_333 rfl (lv_at hl 3 rfl) ?_
          refine lv_iconst (v := 4) hx hb dL_law_334 (by decide) ?_
          refine lv_iadd hx hb dL_law_335 ?_
          refine va_sld hx hb hX hbl hbA S.2 (q_in g41) dL_law_336 ?_
          refine lv_i2l (v := (xs (v3 + 4).toNatClampNeg).toInt64) hx hb dL_law_337 rfl ?_
          refine lv_bipush (v := 32) hx hb dL_law_338 (by decide) ?_
          refine lv_lshl (v := (((xs (v3 + 4).toNatClampNeg).toInt64) <<< ((32 : Int32).toInt64 &&& 63))) hx hb dL_law_340 rfl ?_
          refine lv_aload_n hx hb dL_law_341 rfl (lv_at hl 0 rfl) ?_
          refine lv_iload_n hx hb dL_law_342 rfl (lv_at hl 3 rfl) ?_
          refine lv_iconst (v := 5) hx hb dL_law_343 (by decide) ?_
          refine lv_iadd hx hb dL_law_344 ?_
          refine va_sld hx hb hX hbl hbA S.2 (q_in g42) dL_law_345 ?_
          refine lv_i2l (v := (xs (v3 + 5).toNatClampNeg).toInt64) hx hb dL_law_346 rfl ?_
          refine lv_ldc2 (v := 4294967295) hx hb hown (hts (.constantLong RL 28 (4294967295)) (by decide +kernel)) dL_law_347 ?_
          refine lv_land hx hb dL_law_350 ?_
          refine lv_lor hx hb dL_law_351 ?_
          refine lv_aload_n hx hb dL_law_352 rfl (lv_at hl 0 rfl) ?_
          refine lv_iload_n hx hb dL_law_353 rfl (lv_at hl 3 rfl) ?_
          refine lv_bipush (v := 6) hx hb dL_law_354 (by decide) ?_
          refine lv_iadd hx hb dL_law_356 ?_
          refine va_sld hx hb hX hbl hbA S.2 (q_in g43) dL_law_357 ?_
          refine lv_i2l (v := (xs (v3 + 6).toNatClampNeg).toInt64) hx hb dL_law_358 rfl ?_
          refine lv_bipush (v := 32) hx hb dL_law_359 (by decide) ?_
          refine lv_lshl (v := (((xs (v3 + 6).toNatClampNeg).toInt64) <<< ((32 : Int32).toInt64 &&& 63))) hx hb dL_law_361 rfl ?_
          refine lv_aload_n hx hb dL_law_362 rfl (lv_at hl 0 rfl) ?_
          refine lv_iload_n hx hb dL_law_363 rfl (lv_at hl 3 rfl) ?_
          refine lv_bipush (v := 7) hx hb dL_law_364 (by decide) ?_
          refine lv_iadd hx hb dL_law_366 ?_
          refine va_sld hx hb hX hbl hbA S.2 (q_in g44) dL_law_367 ?_
          refine lv_i2l (v := (xs (v3 + 7).toNatClampNeg).toInt64) hx hb dL_law_368 rfl ?_
          refine lv_ldc2 (v := 4294967295) hx hb hown (hts (.constantLong RL 28 (4294967295)) (by decide +kernel)) dL_law_369 ?_
          refine lv_land hx hb dL_law_372 ?_
          refine lv_lor hx hb dL_law_373 ?_
          obtain ⟨r50, μ48, hc49, h⟩ := q_bd_some h
          refine q_ki F S (q_runV (As := [.int (xs (v3 + 1).toNatClampNeg), .long ((((xs (v3 + 2).toNatClampNeg).toInt64) <<< ((32 : Int32).toInt64 &&& 63)) ||| (((xs (v3 + 3).toNatClampNeg).toInt64) &&& 4294967295)), .long ((((xs (v3 + 4).toNatClampNeg).toInt64) <<< ((32 : Int32).toInt64 &&& 63)) ||| (((xs (v3 + 5).toNatClampNeg).toInt64) &&& 4294967295)), .long ((((xs (v3 + 6).toNatClampNeg).toInt64) <<< ((32 : Int32).toInt64 &&& 63)) ||| (((xs (v3 + 7).toNatClampNeg).toInt64) &&& 4294967295))]) (rest := [.int r47]) (b := 137) ⟨hx, hb, hml, hown, hts⟩ F S (c_X10_row l E hE (xs (v3 + 1).toNatClampNeg) ((((xs (v3 + 2).toNatClampNeg).toInt64) <<< ((32 : Int32).toInt64 &&& 63)) ||| (((xs (v3 + 3).toNatClampNeg).toInt64) &&& 4294967295)) ((((xs (v3 + 4).toNatClampNeg).toInt64) <<< ((32 : Int32).toInt64 &&& 63)) ||| (((xs (v3 + 5).toNatClampNeg).toInt64) &&& 4294967295)) ((((xs (v3 + 6).toNatClampNeg).toInt64) <<< ((32 : Int32).toInt64 &&& 63)) ||| (((xs (v3 + 7).toNatClampNeg).toInt64) &&& 4294967295)) μ45 μ48 r50 hc49) (cwV 4 hts gl_X10_row rfl rfl rfl (by decide +kernel) ⟨Nat.le_of_ble_eq_true rfl, Nat.le_of_ble_eq_true rfl⟩) q_k137 (by decide) rfl rfl hl.1 rfl (Nat.le_of_ble_eq_true rfl) dL_law_374 ⟨Nat.le_of_ble_eq_true rfl, Nat.le_of_ble_eq_true rfl⟩) (fun H locs S => ?_)
          refine lv_icmp_eq (tgt := 1115) hx hb dL_law_377 (by decide) (fun c51 => ?_) (fun c51 => ?_)
          · have h := q_ip c51 h
            obtain ⟨y52, ey52⟩ : ∃ z : Int32, z = v3 + 8 := ⟨_, rfl⟩
            have h := q_le_e h ey52
            refine lv_iinc (v := y52) (lv' := [(3, .int y52), (0, .ref b), (1, .ref (E.2.2.2 0)), (2, .ref (E.2.2.2 137))]) hx hb dL_law_1115 hl (k := 3) rfl (by rw [ey52]; rfl) (by decide) rfl (fun ls hl => ?_)
            refine lv_goto (tgt := 18) hx hb dL_law_1118 (by decide) ?_
            exact ih y52 μ48 H locs ls S (lv_sub hl [1, 2, 3, 0] rfl) h
          · have h := q_ig c51 h
            refine lv_iconst (v := 0) hx hb dL_law_380 (by decide) ?_
            exact absurd h (by simp)
        have h := q_ig c37 h
        by_cases c53 : y3 = 4
        · have h := q_ip c53 h
          refine lv_tableIn (off := 349) (tgt := 382) hx hb dL_law_33 (by rw [c53]; decide) (by rw [c53]; decide) (by rw [c53]; decide) (by decide) ?_
          refine lv_aload_n hx hb dL_law_382 rfl (lv_at hl 1 rfl) ?_
          refine lv_aload_n hx hb dL_law_383 rfl (lv_at hl 0 rfl) ?_
          refine lv_iload_n hx hb dL_law_384 rfl (lv_at hl 3 rfl) ?_
          refine lv_iconst (v := 1) hx hb dL_law_385 (by decide) ?_
          refine lv_iadd hx hb dL_law_386 ?_
          obtain ⟨g54, h⟩ := q_gd_some h
          refine va_sld hx hb hX hbl hbA S.2 (q_in g54) dL_law_387 ?_
          refine lv_i2l (v := (xs (v3 + 1).toNatClampNeg).toInt64) hx hb dL_law_388 rfl ?_
          refine lv_bipush (v := 32) hx hb dL_law_389 (by decide) ?_
          refine lv_lshl (v := (((xs (v3 + 1).toNatClampNeg).toInt64) <<< ((32 : Int32).toInt64 &&& 63))) hx hb dL_law_391 rfl ?_
          refine lv_aload_n hx hb dL_law_392 rfl (lv_at hl 0 rfl) ?_
          refine lv_iload_n hx hb dL_law_393 rfl (lv_at hl 3 rfl) ?_
          refine lv_iconst (v := 2) hx hb dL_law_394 (by decide) ?_
          refine lv_iadd hx hb dL_law_395 ?_
          obtain ⟨g55, h⟩ := q_gd_some h
          refine va_sld hx hb hX hbl hbA S.2 (q_in g55) dL_law_396 ?_
          refine lv_i2l (v := (xs (v3 + 2).toNatClampNeg).toInt64) hx hb dL_law_397 rfl ?_
          refine lv_ldc2 (v := 4294967295) hx hb hown (hts (.constantLong RL 28 (4294967295)) (by decide +kernel)) dL_law_398 ?_
          refine lv_land hx hb dL_law_401 ?_
          refine lv_lor hx hb dL_law_402 ?_
          refine lv_aload_n hx hb dL_law_403 rfl (lv_at hl 0 rfl) ?_
          refine lv_iload_n hx hb dL_law_404 rfl (lv_at hl 3 rfl) ?_
          refine lv_iconst (v := 3) hx hb dL_law_405 (by decide) ?_
          refine lv_iadd hx hb dL_law_406 ?_
          obtain ⟨g56, h⟩ := q_gd_some h
          refine va_sld hx hb hX hbl hbA S.2 (q_in g56) dL_law_407 ?_
          refine lv_i2l (v := (xs (v3 + 3).toNatClampNeg).toInt64) hx hb dL_law_408 rfl ?_
          refine lv_bipush (v := 32) hx hb dL_law_409 (by decide) ?_
          refine lv_lshl (v := (((xs (v3 + 3).toNatClampNeg).toInt64) <<< ((32 : Int32).toInt64 &&& 63))) hx hb dL_law_411 rfl ?_
          refine lv_aload_n hx hb dL_law_412 rfl (lv_at hl 0 rfl) ?_
          refine lv_iload_n hx hb dL_law_413 rfl (lv_at hl 3 rfl) ?_
          refine lv_iconst (v := 4) hx hb dL_law_414 (by decide) ?_
          refine lv_iadd hx hb dL_law_415 ?_
          obtain ⟨g57, h⟩ := q_gd_some h
          refine va_sld hx hb hX hbl hbA S.2 (q_in g57) dL_law_416 ?_
          refine lv_i2l (v := (xs (v3 + 4).toNatClampNeg).toInt64) hx hb dL_law_417 rfl ?_
          refine lv_ldc2 (v := 4294967295) hx hb hown (hts (.constantLong RL 28 (4294967295)) (by decide +kernel)) dL_law_418 ?_
          refine lv_land hx hb dL_law_421 ?_
          refine lv_lor hx hb dL_law_422 ?_
          obtain ⟨r60, μ58, hc59, h⟩ := q_bd_some h
          refine q_ki F S (q_runV (As := [.long ((((xs (v3 + 1).toNatClampNeg).toInt64) <<< ((32 : Int32).toInt64 &&& 63)) ||| (((xs (v3 + 2).toNatClampNeg).toInt64) &&& 4294967295)), .long ((((xs (v3 + 3).toNatClampNeg).toInt64) <<< ((32 : Int32).toInt64 &&& 63)) ||| (((xs (v3 + 4).toNatClampNeg).toInt64) &&& 4294967295))]) (rest := []) (b := 0) ⟨hx, hb, hml, hown, hts⟩ F S (c_X9_axle l E hE ((((xs (v3 + 1).toNatClampNeg).toInt64) <<< ((32 : Int32).toInt64 &&& 63)) ||| (((xs (v3 + 2).toNatClampNeg).toInt64) &&& 4294967295)) ((((xs (v3 + 3).toNatClampNeg).toInt64) <<< ((32 : Int32).toInt64 &&& 63)) ||| (((xs (v3 + 4).toNatClampNeg).toInt64) &&& 4294967295)) μ μ58 r60 hc59) (cwV 2 hts gl_X9_axle rfl rfl rfl (by decide +kernel) ⟨Nat.le_of_ble_eq_true rfl, Nat.le_of_ble_eq_true rfl⟩) q_k0 (by decide) rfl rfl hl.1 rfl (Nat.le_of_ble_eq_true rfl) dL_law_423 ⟨Nat.le_of_ble_eq_true rfl, Nat.le_of_ble_eq_true rfl⟩) (fun H locs S => ?_)
          refine lv_aload_n hx hb dL_law_426 rfl (lv_at hl 2 rfl) ?_
          refine lv_aload_n hx hb dL_law_427 rfl (lv_at hl 0 rfl) ?_
          refine lv_iload_n hx hb dL_law_428 rfl (lv_at hl 3 rfl) ?_
          refine lv_iconst (v := 1) hx hb dL_law_429 (by decide) ?_
          refine lv_iadd hx hb dL_law_430 ?_
          refine va_sld hx hb hX hbl hbA S.2 (q_in g54) dL_law_431 ?_
          refine lv_i2l (v := (xs (v3 + 1).toNatClampNeg).toInt64) hx hb dL_law_432 rfl ?_
          refine lv_bipush (v := 32) hx hb dL_law_433 (by decide) ?_
          refine lv_lshl (v := (((xs (v3 + 1).toNatClampNeg).toInt64) <<< ((32 : Int32).toInt64 &&& 63))) hx hb dL_law_435 rfl ?_
          refine lv_aload_n hx hb dL_law_436 rfl (lv_at hl 0 rfl) ?_
          refine lv_iload_n hx hb dL_law_437 rfl (lv_at hl 3 rfl) ?_
          refine lv_iconst (v := 2) hx hb dL_law_438 (by decide) ?_
          refine lv_iadd hx hb dL_law_439 ?_
          refine va_sld hx hb hX hbl hbA S.2 (q_in g55) dL_law_440 ?_
          refine lv_i2l (v := (xs (v3 + 2).toNatClampNeg).toInt64) hx hb dL_law_441 rfl ?_
          refine lv_ldc2 (v := 4294967295) hx hb hown (hts (.constantLong RL 28 (4294967295)) (by decide +kernel)) dL_law_442 ?_
          refine lv_land hx hb dL_law_445 ?_
          refine lv_lor hx hb dL_law_446 ?_
          refine lv_aload_n hx hb dL_law_447 rfl (lv_at hl 0 rfl) ?_
          refine lv_iload_n hx hb dL_law_448 rfl (lv_at hl 3 rfl) ?_
          refine lv_iconst (v := 3) hx hb dL_law_449 (by decide) ?_
          refine lv_iadd hx hb dL_law_450 ?_
          refine va_sld hx hb hX hbl hbA S.2 (q_in g56) dL_law_451 ?_
          refine lv_i2l (v := (xs (v3 + 3).toNatClampNeg).toInt64) hx hb dL_law_452 rfl ?_
          refine lv_bipush (v := 32) hx hb dL_law_453 (by decide) ?_
          refine lv_lshl (v := (((xs (v3 + 3).toNatClampNeg).toInt64) <<< ((32 : Int32).toInt64 &&& 63))) hx hb dL_law_455 rfl ?_
          refine lv_aload_n hx hb dL_law_456 rfl (lv_at hl 0 rfl) ?_
          refine lv_iload_n hx hb dL_law_457 rfl (lv_at hl 3 rfl) ?_
          refine lv_iconst (v := 4) hx hb dL_law_458 (by decide) ?_
          refine lv_iadd hx hb dL_law_459 ?_
          refine va_sld hx hb hX hbl hbA S.2 (q_in g57) dL_law_460 ?_
          refine lv_i2l (v := (xs (v3 + 4).toNatClampNeg).toInt64) hx hb dL_law_461 rfl ?_
          refine lv_ldc2 (v := 4294967295) hx hb hown (hts (.constantLong RL 28 (4294967295)) (by decide +kernel)) dL_law_462 ?_
          refine lv_land hx hb dL_law_465 ?_
          refine lv_lor hx hb dL_law_466 ?_
          obtain ⟨r63, μ61, hc62, h⟩ := q_bd_some h
          refine q_ki F S (q_runV (As := [.long ((((xs (v3 + 1).toNatClampNeg).toInt64) <<< ((32 : Int32).toInt64 &&& 63)) ||| (((xs (v3 + 2).toNatClampNeg).toInt64) &&& 4294967295)), .long ((((xs (v3 + 3).toNatClampNeg).toInt64) <<< ((32 : Int32).toInt64 &&& 63)) ||| (((xs (v3 + 4).toNatClampNeg).toInt64) &&& 4294967295))]) (rest := [.int r60]) (b := 137) ⟨hx, hb, hml, hown, hts⟩ F S (c_X10_axle l E hE ((((xs (v3 + 1).toNatClampNeg).toInt64) <<< ((32 : Int32).toInt64 &&& 63)) ||| (((xs (v3 + 2).toNatClampNeg).toInt64) &&& 4294967295)) ((((xs (v3 + 3).toNatClampNeg).toInt64) <<< ((32 : Int32).toInt64 &&& 63)) ||| (((xs (v3 + 4).toNatClampNeg).toInt64) &&& 4294967295)) μ58 μ61 r63 hc62) (cwV 2 hts gl_X10_axle rfl rfl rfl (by decide +kernel) ⟨Nat.le_of_ble_eq_true rfl, Nat.le_of_ble_eq_true rfl⟩) q_k137 (by decide) rfl rfl hl.1 rfl (Nat.le_of_ble_eq_true rfl) dL_law_467 ⟨Nat.le_of_ble_eq_true rfl, Nat.le_of_ble_eq_true rfl⟩) (fun H locs S => ?_)
          refine lv_icmp_eq (tgt := 1115) hx hb dL_law_470 (by decide) (fun c64 => ?_) (fun c64 => ?_)
          · have h := q_ip c64 h
            obtain ⟨y65, ey65⟩ : ∃ z : Int32, z = v3 + 8 := ⟨_, rfl⟩
            have h := q_le_e h ey65
            refine lv_iinc (v := y65) (lv' := [(3, .int y65), (0, .ref b), (1, .ref (E.2.2.2 0)), (2, .ref (E.2.2.2 137))]) hx hb dL_law_1115 hl (k := 3) rfl (by rw [ey65]; rfl) (by decide) rfl (fun ls hl => ?_)
            refine lv_goto (tgt := 18) hx hb dL_law_1118 (by decide) ?_
            exact ih y65 μ61 H locs ls S (lv_sub hl [1, 2, 3, 0] rfl) h
          · have h := q_ig c64 h
            refine lv_iconst (v := 0) hx hb dL_law_473 (by decide) ?_
            exact absurd h (by simp)
        have h := q_ig c53 h
        by_cases c66 : y3 = 5
        · have h := q_ip c66 h
          refine lv_tableIn (off := 442) (tgt := 475) hx hb dL_law_33 (by rw [c66]; decide) (by rw [c66]; decide) (by rw [c66]; decide) (by decide) ?_
          refine lv_aload_n hx hb dL_law_475 rfl (lv_at hl 1 rfl) ?_
          refine lv_aload_n hx hb dL_law_476 rfl (lv_at hl 0 rfl) ?_
          refine lv_iload_n hx hb dL_law_477 rfl (lv_at hl 3 rfl) ?_
          refine lv_iconst (v := 1) hx hb dL_law_478 (by decide) ?_
          refine lv_iadd hx hb dL_law_479 ?_
          obtain ⟨g67, h⟩ := q_gd_some h
          refine va_sld hx hb hX hbl hbA S.2 (q_in g67) dL_law_480 ?_
          refine lv_aload_n hx hb dL_law_481 rfl (lv_at hl 0 rfl) ?_
          refine lv_iload_n hx hb dL_law_482 rfl (lv_at hl 3 rfl) ?_
          refine lv_iconst (v := 2) hx hb dL_law_483 (by decide) ?_
          refine lv_iadd hx hb dL_law_484 ?_
          obtain ⟨g68, h⟩ := q_gd_some h
          refine va_sld hx hb hX hbl hbA S.2 (q_in g68) dL_law_485 ?_
          refine lv_aload_n hx hb dL_law_486 rfl (lv_at hl 0 rfl) ?_
          refine lv_iload_n hx hb dL_law_487 rfl (lv_at hl 3 rfl) ?_
          refine lv_iconst (v := 3) hx hb dL_law_488 (by decide) ?_
          refine lv_iadd hx hb dL_law_489 ?_
          obtain ⟨g69, h⟩ := q_gd_some h
          refine va_sld hx hb hX hbl hbA S.2 (q_in g69) dL_law_490 ?_
          obtain ⟨r72, μ70, hc71, h⟩ := q_bd_some h
          refine q_ki F S (q_runV (As := [.int (xs (v3 + 1).toNatClampNeg), .int (xs (v3 + 2).toNatClampNeg), .int (xs (v3 + 3).toNatClampNeg)]) (rest := []) (b := 0) ⟨hx, hb, hml, hown, hts⟩ F S (c_X9_size l E hE (xs (v3 + 1).toNatClampNeg) (xs (v3 + 2).toNatClampNeg) (xs (v3 + 3).toNatClampNeg) μ μ70 r72 hc71) (cwV 3 hts gl_X9_size rfl rfl rfl (by decide +kernel) ⟨Nat.le_of_ble_eq_true rfl, Nat.le_of_ble_eq_true rfl⟩) q_k0 (by decide) rfl rfl hl.1 rfl (Nat.le_of_ble_eq_true rfl) dL_law_491 ⟨Nat.le_of_ble_eq_true rfl, Nat.le_of_ble_eq_true rfl⟩) (fun H locs S => ?_)
          refine lv_aload_n hx hb dL_law_494 rfl (lv_at hl 2 rfl) ?_
          refine lv_aload_n hx hb dL_law_495 rfl (lv_at hl 0 rfl) ?_
          refine lv_iload_n hx hb dL_law_496 rfl (lv_at hl 3 rfl) ?_
          refine lv_iconst (v := 1) hx hb dL_law_497 (by decide) ?_
          refine lv_iadd hx hb dL_law_498 ?_
          refine va_sld hx hb hX hbl hbA S.2 (q_in g67) dL_law_499 ?_
          refine lv_aload_n hx hb dL_law_500 rfl (lv_at hl 0 rfl) ?_
          refine lv_iload_n hx hb dL_law_501 rfl (lv_at hl 3 rfl) ?_
          refine lv_iconst (v := 2) hx hb dL_law_502 (by decide) ?_
          refine lv_iadd hx hb dL_law_503 ?_
          refine va_sld hx hb hX hbl hbA S.2 (q_in g68) dL_law_504 ?_
          refine lv_aload_n hx hb dL_law_505 rfl (lv_at hl 0 rfl) ?_
          refine lv_iload_n hx hb dL_law_506 rfl (lv_at hl 3 rfl) ?_
          refine lv_iconst (v := 3) hx hb dL_law_507 (by decide) ?_
          refine lv_iadd hx hb dL_law_508 ?_
          refine va_sld hx hb hX hbl hbA S.2 (q_in g69) dL_law_509 ?_
          obtain ⟨r75, μ73, hc74, h⟩ := q_bd_some h
          refine q_ki F S (q_runV (As := [.int (xs (v3 + 1).toNatClampNeg), .int (xs (v3 + 2).toNatClampNeg), .int (xs (v3 + 3).toNatClampNeg)]) (rest := [.int r72]) (b := 137) ⟨hx, hb, hml, hown, hts⟩ F S (c_X10_size l E hE (xs (v3 + 1).toNatClampNeg) (xs (v3 + 2).toNatClampNeg) (xs (v3 + 3).toNatClampNeg) μ70 μ73 r75 hc74) (cwV 3 hts gl_X10_size rfl rfl rfl (by decide +kernel) ⟨Nat.le_of_ble_eq_true rfl, Nat.le_of_ble_eq_true rfl⟩) q_k137 (by decide) rfl rfl hl.1 rfl (Nat.le_of_ble_eq_true rfl) dL_law_510 ⟨Nat.le_of_ble_eq_true rfl, Nat.le_of_ble_eq_true rfl⟩) (fun H locs S => ?_)
          refine lv_icmp_eq (tgt := 1115) hx hb dL_law_513 (by decide) (fun c76 => ?_) (fun c76 => ?_)
          · have h := q_ip c76 h
            obtain ⟨y77, ey77⟩ : ∃ z : Int32, z = v3 + 8 := ⟨_, rfl⟩
            have h := q_le_e h ey77
            refine lv_iinc (v := y77) (lv' := [(3, .int y77), (0, .ref b), (1, .ref (E.2.2.2 0)), (2, .ref (E.2.2.2 137))]) hx hb dL_law_1115 hl (k := 3) rfl (by rw [ey77]; rfl) (by decide) rfl (fun ls hl => ?_)
            refine lv_goto (tgt := 18) hx hb dL_law_1118 (by decide) ?_
            exact ih y77 μ73 H locs ls S (lv_sub hl [1, 2, 3, 0] rfl) h
          · have h := q_ig c76 h
            refine lv_iconst (v := 0) hx hb dL_law_516 (by decide) ?_
            exact absurd h (by simp)
        have h := q_ig c66 h
        by_cases c78 : y3 = 6
        · have h := q_ip c78 h
          refine lv_tableIn (off := 485) (tgt := 518) hx hb dL_law_33 (by rw [c78]; decide) (by rw [c78]; decide) (by rw [c78]; decide) (by decide) ?_
          refine lv_aload_n hx hb dL_law_518 rfl (lv_at hl 1 rfl) ?_
          refine lv_aload_n hx hb dL_law_519 rfl (lv_at hl 0 rfl) ?_
          refine lv_iload_n hx hb dL_law_520 rfl (lv_at hl 3 rfl) ?_
          refine lv_iconst (v := 1) hx hb dL_law_521 (by decide) ?_
          refine lv_iadd hx hb dL_law_522 ?_
          obtain ⟨g79, h⟩ := q_gd_some h
          refine va_sld hx hb hX hbl hbA S.2 (q_in g79) dL_law_523 ?_
          refine lv_aload_n hx hb dL_law_524 rfl (lv_at hl 0 rfl) ?_
          refine lv_iload_n hx hb dL_law_525 rfl (lv_at hl 3 rfl) ?_
          refine lv_iconst (v := 2) hx hb dL_law_526 (by decide) ?_
          refine lv_iadd hx hb dL_law_527 ?_
          obtain ⟨g80, h⟩ := q_gd_some h
          refine va_sld hx hb hX hbl hbA S.2 (q_in g80) dL_law_528 ?_
          refine lv_aload_n hx hb dL_law_529 rfl (lv_at hl 0 rfl) ?_
          refine lv_iload_n hx hb dL_law_530 rfl (lv_at hl 3 rfl) ?_
          refine lv_iconst (v := 3) hx hb dL_law_531 (by decide) ?_
          refine lv_iadd hx hb dL_law_532 ?_
          obtain ⟨g81, h⟩ := q_gd_some h
          refine va_sld hx hb hX hbl hbA S.2 (q_in g81) dL_law_533 ?_
          refine lv_if_eq (tgt := 541) hx hb dL_law_534 (by decide) (fun c82 => ?_) (fun c82 => ?_)
          · have h := q_ip c82 h
            refine lv_iconst (v := 0) hx hb dL_law_541 (by decide) ?_
            exact hJ542 _ ih _ hKx v3 0 (xs (v3 + 2).toNatClampNeg) (xs (v3 + 1).toNatClampNeg) μ H locs ls S (lv_sub hl [0, 1, 2, 3] rfl) h
          · have h := q_ig c82 h
            refine lv_iconst (v := 1) hx hb dL_law_537 (by decide) ?_
            refine lv_goto (tgt := 542) hx hb dL_law_538 (by decide) ?_
            exact hJ542 _ ih _ hKx v3 1 (xs (v3 + 2).toNatClampNeg) (xs (v3 + 1).toNatClampNeg) μ H locs ls S (lv_sub hl [0, 1, 2, 3] rfl) h
        have h := q_ig c78 h
        by_cases c100 : y3 = 7
        · have h := q_ip c100 h
          refine lv_tableIn (off := 544) (tgt := 577) hx hb dL_law_33 (by rw [c100]; decide) (by rw [c100]; decide) (by rw [c100]; decide) (by decide) ?_
          refine lv_aload_n hx hb dL_law_577 rfl (lv_at hl 1 rfl) ?_
          refine lv_aload_n hx hb dL_law_578 rfl (lv_at hl 0 rfl) ?_
          refine lv_iload_n hx hb dL_law_579 rfl (lv_at hl 3 rfl) ?_
          refine lv_iconst (v := 1) hx hb dL_law_580 (by decide) ?_
          refine lv_iadd hx hb dL_law_581 ?_
          obtain ⟨g101, h⟩ := q_gd_some h
          refine va_sld hx hb hX hbl hbA S.2 (q_in g101) dL_law_582 ?_
          refine lv_aload_n hx hb dL_law_583 rfl (lv_at hl 0 rfl) ?_
          refine lv_iload_n hx hb dL_law_584 rfl (lv_at hl 3 rfl) ?_
          refine lv_iconst (v := 2) hx hb dL_law_585 (by decide) ?_
          refine lv_iadd hx hb dL_law_586 ?_
          obtain ⟨g102, h⟩ := q_gd_some h
          refine va_sld hx hb hX hbl hbA S.2 (q_in g102) dL_law_587 ?_
          refine lv_aload_n hx hb dL_law_588 rfl (lv_at hl 0 rfl) ?_
          refine lv_iload_n hx hb dL_law_589 rfl (lv_at hl 3 rfl) ?_
          refine lv_iconst (v := 3) hx hb dL_law_590 (by decide) ?_
          refine lv_iadd hx hb dL_law_591 ?_
          obtain ⟨g103, h⟩ := q_gd_some h
          refine va_sld hx hb hX hbl hbA S.2 (q_in g103) dL_law_592 ?_
          obtain ⟨r106, μ104, hc105, h⟩ := q_bd_some h
          refine q_ki F S (q_runV (As := [.int (xs (v3 + 1).toNatClampNeg), .int (xs (v3 + 2).toNatClampNeg), .int (xs (v3 + 3).toNatClampNeg)]) (rest := []) (b := 0) ⟨hx, hb, hml, hown, hts⟩ F S (c_X9_hours l E hE (xs (v3 + 1).toNatClampNeg) (xs (v3 + 2).toNatClampNeg) (xs (v3 + 3).toNatClampNeg) μ μ104 r106 hc105) (cwV 3 hts gl_X9_hours rfl rfl rfl (by decide +kernel) ⟨Nat.le_of_ble_eq_true rfl, Nat.le_of_ble_eq_true rfl⟩) q_k0 (by decide) rfl rfl hl.1 rfl (Nat.le_of_ble_eq_true rfl) dL_law_593 ⟨Nat.le_of_ble_eq_true rfl, Nat.le_of_ble_eq_true rfl⟩) (fun H locs S => ?_)
          refine lv_aload_n hx hb dL_law_596 rfl (lv_at hl 2 rfl) ?_
          refine lv_aload_n hx hb dL_law_597 rfl (lv_at hl 0 rfl) ?_
          refine lv_iload_n hx hb dL_law_598 rfl (lv_at hl 3 rfl) ?_
          refine lv_iconst (v := 1) hx hb dL_law_599 (by decide) ?_
          refine lv_iadd hx hb dL_law_600 ?_
          refine va_sld hx hb hX hbl hbA S.2 (q_in g101) dL_law_601 ?_
          refine lv_aload_n hx hb dL_law_602 rfl (lv_at hl 0 rfl) ?_
          refine lv_iload_n hx hb dL_law_603 rfl (lv_at hl 3 rfl) ?_
          refine lv_iconst (v := 2) hx hb dL_law_604 (by decide) ?_
          refine lv_iadd hx hb dL_law_605 ?_
          refine va_sld hx hb hX hbl hbA S.2 (q_in g102) dL_law_606 ?_
          refine lv_aload_n hx hb dL_law_607 rfl (lv_at hl 0 rfl) ?_
          refine lv_iload_n hx hb dL_law_608 rfl (lv_at hl 3 rfl) ?_
          refine lv_iconst (v := 3) hx hb dL_law_609 (by decide) ?_
          refine lv_iadd hx hb dL_law_610 ?_
          refine va_sld hx hb hX hbl hbA S.2 (q_in g103) dL_law_611 ?_
          obtain ⟨r109, μ107, hc108, h⟩ := q_bd_some h
          refine q_ki F S (q_runV (As := [.int (xs (v3 + 1).toNatClampNeg), .int (xs (v3 + 2).toNatClampNeg), .int (xs (v3 + 3).toNatClampNeg)]) (rest := [.int r106]) (b := 137) ⟨hx, hb, hml, hown, hts⟩ F S (c_X10_hours l E hE (xs (v3 + 1).toNatClampNeg) (xs (v3 + 2).toNatClampNeg) (xs (v3 + 3).toNatClampNeg) μ104 μ107 r109 hc108) (cwV 3 hts gl_X10_hours rfl rfl rfl (by decide +kernel) ⟨Nat.le_of_ble_eq_true rfl, Nat.le_of_ble_eq_true rfl⟩) q_k137 (by decide) rfl rfl hl.1 rfl (Nat.le_of_ble_eq_true rfl) dL_law_612 ⟨Nat.le_of_ble_eq_true rfl, Nat.le_of_ble_eq_true rfl⟩) (fun H locs S => ?_)
          refine lv_icmp_eq (tgt := 1115) hx hb dL_law_615 (by decide) (fun c110 => ?_) (fun c110 => ?_)
          · have h := q_ip c110 h
            obtain ⟨y111, ey111⟩ : ∃ z : Int32, z = v3 + 8 := ⟨_, rfl⟩
            have h := q_le_e h ey111
            refine lv_iinc (v := y111) (lv' := [(3, .int y111), (0, .ref b), (1, .ref (E.2.2.2 0)), (2, .ref (E.2.2.2 137))]) hx hb dL_law_1115 hl (k := 3) rfl (by rw [ey111]; rfl) (by decide) rfl (fun ls hl => ?_)
            refine lv_goto (tgt := 18) hx hb dL_law_1118 (by decide) ?_
            exact ih y111 μ107 H locs ls S (lv_sub hl [1, 2, 3, 0] rfl) h
          · have h := q_ig c110 h
            refine lv_iconst (v := 0) hx hb dL_law_618 (by decide) ?_
            exact absurd h (by simp)
        have h := q_ig c100 h
        by_cases c112 : y3 = 8
        · have h := q_ip c112 h
          refine lv_tableIn (off := 587) (tgt := 620) hx hb dL_law_33 (by rw [c112]; decide) (by rw [c112]; decide) (by rw [c112]; decide) (by decide) ?_
          refine lv_aload_n hx hb dL_law_620 rfl (lv_at hl 1 rfl) ?_
          refine lv_aload_n hx hb dL_law_621 rfl (lv_at hl 0 rfl) ?_
          refine lv_iload_n hx hb dL_law_622 rfl (lv_at hl 3 rfl) ?_
          refine lv_iconst (v := 1) hx hb dL_law_623 (by decide) ?_
          refine lv_iadd hx hb dL_law_624 ?_
          obtain ⟨g113, h⟩ := q_gd_some h
          refine va_sld hx hb hX hbl hbA S.2 (q_in g113) dL_law_625 ?_
          refine lv_aload_n hx hb dL_law_626 rfl (lv_at hl 0 rfl) ?_
          refine lv_iload_n hx hb dL_law_627 rfl (lv_at hl 3 rfl) ?_
          refine lv_iconst (v := 2) hx hb dL_law_628 (by decide) ?_
          refine lv_iadd hx hb dL_law_629 ?_
          obtain ⟨g114, h⟩ := q_gd_some h
          refine va_sld hx hb hX hbl hbA S.2 (q_in g114) dL_law_630 ?_
          obtain ⟨r117, μ115, hc116, h⟩ := q_bd_some h
          refine q_kl F S (q_runV (As := [.int (xs (v3 + 1).toNatClampNeg), .int (xs (v3 + 2).toNatClampNeg)]) (rest := []) (b := 0) ⟨hx, hb, hml, hown, hts⟩ F S (c_X9_rating l E hE (xs (v3 + 1).toNatClampNeg) (xs (v3 + 2).toNatClampNeg) μ μ115 r117 hc116) (cwV 2 hts gl_X9_rating rfl rfl rfl (by decide +kernel) ⟨Nat.le_of_ble_eq_true rfl, Nat.le_of_ble_eq_true rfl⟩) q_k0 (by decide) rfl rfl hl.1 rfl (Nat.le_of_ble_eq_true rfl) dL_law_631 ⟨Nat.le_of_ble_eq_true rfl, Nat.le_of_ble_eq_true rfl⟩) (fun H locs S => ?_)
          refine lv_aload_n hx hb dL_law_634 rfl (lv_at hl 2 rfl) ?_
          refine lv_aload_n hx hb dL_law_635 rfl (lv_at hl 0 rfl) ?_
          refine lv_iload_n hx hb dL_law_636 rfl (lv_at hl 3 rfl) ?_
          refine lv_iconst (v := 1) hx hb dL_law_637 (by decide) ?_
          refine lv_iadd hx hb dL_law_638 ?_
          refine va_sld hx hb hX hbl hbA S.2 (q_in g113) dL_law_639 ?_
          refine lv_aload_n hx hb dL_law_640 rfl (lv_at hl 0 rfl) ?_
          refine lv_iload_n hx hb dL_law_641 rfl (lv_at hl 3 rfl) ?_
          refine lv_iconst (v := 2) hx hb dL_law_642 (by decide) ?_
          refine lv_iadd hx hb dL_law_643 ?_
          refine va_sld hx hb hX hbl hbA S.2 (q_in g114) dL_law_644 ?_
          obtain ⟨r120, μ118, hc119, h⟩ := q_bd_some h
          refine q_kl F S (q_runV (As := [.int (xs (v3 + 1).toNatClampNeg), .int (xs (v3 + 2).toNatClampNeg)]) (rest := [.long r117]) (b := 137) ⟨hx, hb, hml, hown, hts⟩ F S (c_X10_rating l E hE (xs (v3 + 1).toNatClampNeg) (xs (v3 + 2).toNatClampNeg) μ115 μ118 r120 hc119) (cwV 2 hts gl_X10_rating rfl rfl rfl (by decide +kernel) ⟨Nat.le_of_ble_eq_true rfl, Nat.le_of_ble_eq_true rfl⟩) q_k137 (by decide) rfl rfl hl.1 rfl (Nat.le_of_ble_eq_true rfl) dL_law_645 ⟨Nat.le_of_ble_eq_true rfl, Nat.le_of_ble_eq_true rfl⟩) (fun H locs S => ?_)
          refine W.lcmp hx hb dL_law_648 ?_
          refine lv_if_eq (tgt := 1115) hx hb dL_law_649 (by decide) (fun c121 => ?_) (fun c121 => ?_)
          · have h := q_ip c121 h
            obtain ⟨y122, ey122⟩ : ∃ z : Int32, z = v3 + 8 := ⟨_, rfl⟩
            have h := q_le_e h ey122
            refine lv_iinc (v := y122) (lv' := [(3, .int y122), (0, .ref b), (1, .ref (E.2.2.2 0)), (2, .ref (E.2.2.2 137))]) hx hb dL_law_1115 hl (k := 3) rfl (by rw [ey122]; rfl) (by decide) rfl (fun ls hl => ?_)
            refine lv_goto (tgt := 18) hx hb dL_law_1118 (by decide) ?_
            exact ih y122 μ118 H locs ls S (lv_sub hl [1, 2, 3, 0] rfl) h
          · have h := q_ig c121 h
            refine lv_iconst (v := 0) hx hb dL_law_652 (by decide) ?_
            exact absurd h (by simp)
        have h := q_ig c112 h
        by_cases c123 : y3 = 9
        · have h := q_ip c123 h
          refine lv_tableIn (off := 621) (tgt := 654) hx hb dL_law_33 (by rw [c123]; decide) (by rw [c123]; decide) (by rw [c123]; decide) (by decide) ?_
          refine lv_aload_n hx hb dL_law_654 rfl (lv_at hl 1 rfl) ?_
          refine lv_aload_n hx hb dL_law_655 rfl (lv_at hl 0 rfl) ?_
          refine lv_iload_n hx hb dL_law_656 rfl (lv_at hl 3 rfl) ?_
          refine lv_iconst (v := 1) hx hb dL_law_657 (by decide) ?_
          refine lv_iadd hx hb dL_law_658 ?_
          obtain ⟨g124, h⟩ := q_gd_some h
          refine va_sld hx hb hX hbl hbA S.2 (q_in g124) dL_law_659 ?_
          obtain ⟨r127, μ125, hc126, h⟩ := q_bd_some h
          refine q_ki F S (q_runV (As := [.int (xs (v3 + 1).toNatClampNeg)]) (rest := []) (b := 0) ⟨hx, hb, hml, hown, hts⟩ F S (c_X9_kept l E hE (xs (v3 + 1).toNatClampNeg) μ μ125 r127 hc126) (cwV 1 hts gl_X9_kept rfl rfl rfl (by decide +kernel) ⟨Nat.le_of_ble_eq_true rfl, Nat.le_of_ble_eq_true rfl⟩) q_k0 (by decide) rfl rfl hl.1 rfl (Nat.le_of_ble_eq_true rfl) dL_law_660 ⟨Nat.le_of_ble_eq_true rfl, Nat.le_of_ble_eq_true rfl⟩) (fun H locs S => ?_)
          refine lv_aload_n hx hb dL_law_663 rfl (lv_at hl 2 rfl) ?_
          refine lv_aload_n hx hb dL_law_664 rfl (lv_at hl 0 rfl) ?_
          refine lv_iload_n hx hb dL_law_665 rfl (lv_at hl 3 rfl) ?_
          refine lv_iconst (v := 1) hx hb dL_law_666 (by decide) ?_
          refine lv_iadd hx hb dL_law_667 ?_
          refine va_sld hx hb hX hbl hbA S.2 (q_in g124) dL_law_668 ?_
          obtain ⟨r130, μ128, hc129, h⟩ := q_bd_some h
          refine q_ki F S (q_runV (As := [.int (xs (v3 + 1).toNatClampNeg)]) (rest := [.int r127]) (b := 137) ⟨hx, hb, hml, hown, hts⟩ F S (c_X10_kept l E hE (xs (v3 + 1).toNatClampNeg) μ125 μ128 r130 hc129) (cwV 1 hts gl_X10_kept rfl rfl rfl (by decide +kernel) ⟨Nat.le_of_ble_eq_true rfl, Nat.le_of_ble_eq_true rfl⟩) q_k137 (by decide) rfl rfl hl.1 rfl (Nat.le_of_ble_eq_true rfl) dL_law_669 ⟨Nat.le_of_ble_eq_true rfl, Nat.le_of_ble_eq_true rfl⟩) (fun H locs S => ?_)
          refine lv_icmp_eq (tgt := 1115) hx hb dL_law_672 (by decide) (fun c131 => ?_) (fun c131 => ?_)
          · have h := q_ip c131 h
            obtain ⟨y132, ey132⟩ : ∃ z : Int32, z = v3 + 8 := ⟨_, rfl⟩
            have h := q_le_e h ey132
            refine lv_iinc (v := y132) (lv' := [(3, .int y132), (0, .ref b), (1, .ref (E.2.2.2 0)), (2, .ref (E.2.2.2 137))]) hx hb dL_law_1115 hl (k := 3) rfl (by rw [ey132]; rfl) (by decide) rfl (fun ls hl => ?_)
            refine lv_goto (tgt := 18) hx hb dL_law_1118 (by decide) ?_
            exact ih y132 μ128 H locs ls S (lv_sub hl [1, 2, 3, 0] rfl) h
          · have h := q_ig c131 h
            refine lv_iconst (v := 0) hx hb dL_law_675 (by decide) ?_
            exact absurd h (by simp)
        have h := q_ig c123 h
        by_cases c133 : y3 = 10
        · have h := q_ip c133 h
          refine lv_tableIn (off := 644) (tgt := 677) hx hb dL_law_33 (by rw [c133]; decide) (by rw [c133]; decide) (by rw [c133]; decide) (by decide) ?_
          refine lv_aload_n hx hb dL_law_677 rfl (lv_at hl 1 rfl) ?_
          refine lv_aload_n hx hb dL_law_678 rfl (lv_at hl 0 rfl) ?_
          refine lv_iload_n hx hb dL_law_679 rfl (lv_at hl 3 rfl) ?_
          refine lv_iconst (v := 1) hx hb dL_law_680 (by decide) ?_
          refine lv_iadd hx hb dL_law_681 ?_
          obtain ⟨g134, h⟩ := q_gd_some h
          refine va_sld hx hb hX hbl hbA S.2 (q_in g134) dL_law_682 ?_
          refine lv_aload_n hx hb dL_law_683 rfl (lv_at hl 0 rfl) ?_
          refine lv_iload_n hx hb dL_law_684 rfl (lv_at hl 3 rfl) ?_
          refine lv_iconst (v := 2) hx hb dL_law_685 (by decide) ?_
          refine lv_iadd hx hb dL_law_686 ?_
          obtain ⟨g135, h⟩ := q_gd_some h
          refine va_sld hx hb hX hbl hbA S.2 (q_in g135) dL_law_687 ?_
          refine lv_aload_n hx hb dL_law_688 rfl (lv_at hl 0 rfl) ?_
          refine lv_iload_n hx hb dL_law_689 rfl (lv_at hl 3 rfl) ?_
          refine lv_iconst (v := 3) hx hb dL_law_690 (by decide) ?_
          refine lv_iadd hx hb dL_law_691 ?_
          obtain ⟨g136, h⟩ := q_gd_some h
          refine va_sld hx hb hX hbl hbA S.2 (q_in g136) dL_law_692 ?_
          obtain ⟨r139, μ137, hc138, h⟩ := q_bd_some h
          refine q_ki F S (q_runV (As := [.int (xs (v3 + 1).toNatClampNeg), .int (xs (v3 + 2).toNatClampNeg), .int (xs (v3 + 3).toNatClampNeg)]) (rest := []) (b := 0) ⟨hx, hb, hml, hown, hts⟩ F S (c_X9_run l E hE (xs (v3 + 1).toNatClampNeg) (xs (v3 + 2).toNatClampNeg) (xs (v3 + 3).toNatClampNeg) μ μ137 r139 hc138) (cwV 3 hts gl_X9_run rfl rfl rfl (by decide +kernel) ⟨Nat.le_of_ble_eq_true rfl, Nat.le_of_ble_eq_true rfl⟩) q_k0 (by decide) rfl rfl hl.1 rfl (Nat.le_of_ble_eq_true rfl) dL_law_693 ⟨Nat.le_of_ble_eq_true rfl, Nat.le_of_ble_eq_true rfl⟩) (fun H locs S => ?_)
          refine lv_aload_n hx hb dL_law_696 rfl (lv_at hl 2 rfl) ?_
          refine lv_aload_n hx hb dL_law_697 rfl (lv_at hl 0 rfl) ?_
          refine lv_iload_n hx hb dL_law_698 rfl (lv_at hl 3 rfl) ?_
          refine lv_iconst (v := 1) hx hb dL_law_699 (by decide) ?_
          refine lv_iadd hx hb dL_law_700 ?_
          refine va_sld hx hb hX hbl hbA S.2 (q_in g134) dL_law_701 ?_
          refine lv_aload_n hx hb dL_law_702 rfl (lv_at hl 0 rfl) ?_
          refine lv_iload_n hx hb dL_law_703 rfl (lv_at hl 3 rfl) ?_
          refine lv_iconst (v := 2) hx hb dL_law_704 (by decide) ?_
          refine lv_iadd hx hb dL_law_705 ?_
          refine va_sld hx hb hX hbl hbA S.2 (q_in g135) dL_law_706 ?_
          refine lv_aload_n hx hb dL_law_707 rfl (lv_at hl 0 rfl) ?_
          refine lv_iload_n hx hb dL_law_708 rfl (lv_at hl 3 rfl) ?_
          refine lv_iconst (v := 3) hx hb dL_law_709 (by decide) ?_
          refine lv_iadd hx hb dL_law_710 ?_
          refine va_sld hx hb hX hbl hbA S.2 (q_in g136) dL_law_711 ?_
          obtain ⟨r142, μ140, hc141, h⟩ := q_bd_some h
          refine q_ki F S (q_runV (As := [.int (xs (v3 + 1).toNatClampNeg), .int (xs (v3 + 2).toNatClampNeg), .int (xs (v3 + 3).toNatClampNeg)]) (rest := [.int r139]) (b := 137) ⟨hx, hb, hml, hown, hts⟩ F S (c_X10_run l E hE (xs (v3 + 1).toNatClampNeg) (xs (v3 + 2).toNatClampNeg) (xs (v3 + 3).toNatClampNeg) μ137 μ140 r142 hc141) (cwV 3 hts gl_X10_run rfl rfl rfl (by decide +kernel) ⟨Nat.le_of_ble_eq_true rfl, Nat.le_of_ble_eq_true rfl⟩) q_k137 (by decide) rfl rfl hl.1 rfl (Nat.le_of_ble_eq_true rfl) dL_law_712 ⟨Nat.le_of_ble_eq_true rfl, Nat.le_of_ble_eq_true rfl⟩) (fun H locs S => ?_)
          refine lv_icmp_eq (tgt := 1115) hx hb dL_law_715 (by decide) (fun c143 => ?_) (fun c143 => ?_)
          · have h := q_ip c143 h
            obtain ⟨y144, ey144⟩ : ∃ z : Int32, z = v3 + 8 := ⟨_, rfl⟩
            have h := q_le_e h ey144
            refine lv_iinc (v := y144) (lv' := [(3, .int y144), (0, .ref b), (1, .ref (E.2.2.2 0)), (2, .ref (E.2.2.2 137))]) hx hb dL_law_1115 hl (k := 3) rfl (by rw [ey144]; rfl) (by decide) rfl (fun ls hl => ?_)
            refine lv_goto (tgt := 18) hx hb dL_law_1118 (by decide) ?_
            exact ih y144 μ140 H locs ls S (lv_sub hl [1, 2, 3, 0] rfl) h
          · have h := q_ig c143 h
            refine lv_iconst (v := 0) hx hb dL_law_718 (by decide) ?_
            exact absurd h (by simp)
        have h := q_ig c133 h
        by_cases c145 : y3 = 11
        · have h := q_ip c145 h
          refine lv_tableIn (off := 687) (tgt := 720) hx hb dL_law_33 (by rw [c145]; decide) (by rw [c145]; decide) (by rw [c145]; decide) (by decide) ?_
          refine lv_aload_n hx hb dL_law_720 rfl (lv_at hl 1 rfl) ?_
          refine lv_aload_n hx hb dL_law_721 rfl (lv_at hl 0 rfl) ?_
          refine lv_iload_n hx hb dL_law_722 rfl (lv_at hl 3 rfl) ?_
          refine lv_iconst (v := 1) hx hb dL_law_723 (by decide) ?_
          refine lv_iadd hx hb dL_law_724 ?_
          obtain ⟨g146, h⟩ := q_gd_some h
          refine va_sld hx hb hX hbl hbA S.2 (q_in g146) dL_law_725 ?_
          obtain ⟨r149, μ147, hc148, h⟩ := q_bd_some h
          refine q_ki F S (q_runV (As := [.int (xs (v3 + 1).toNatClampNeg)]) (rest := []) (b := 0) ⟨hx, hb, hml, hown, hts⟩ F S (c_X9_road2 l E hE (xs (v3 + 1).toNatClampNeg) μ μ147 r149 hc148) (cwV 1 hts gl_X9_road2 rfl rfl rfl (by decide +kernel) ⟨Nat.le_of_ble_eq_true rfl, Nat.le_of_ble_eq_true rfl⟩) q_k0 (by decide) rfl rfl hl.1 rfl (Nat.le_of_ble_eq_true rfl) dL_law_726 ⟨Nat.le_of_ble_eq_true rfl, Nat.le_of_ble_eq_true rfl⟩) (fun H locs S => ?_)
          refine lv_aload_n hx hb dL_law_729 rfl (lv_at hl 2 rfl) ?_
          refine lv_aload_n hx hb dL_law_730 rfl (lv_at hl 0 rfl) ?_
          refine lv_iload_n hx hb dL_law_731 rfl (lv_at hl 3 rfl) ?_
          refine lv_iconst (v := 1) hx hb dL_law_732 (by decide) ?_
          refine lv_iadd hx hb dL_law_733 ?_
          refine va_sld hx hb hX hbl hbA S.2 (q_in g146) dL_law_734 ?_
          obtain ⟨r152, μ150, hc151, h⟩ := q_bd_some h
          refine q_ki F S (q_runV (As := [.int (xs (v3 + 1).toNatClampNeg)]) (rest := [.int r149]) (b := 137) ⟨hx, hb, hml, hown, hts⟩ F S (c_X10_road2 l E hE (xs (v3 + 1).toNatClampNeg) μ147 μ150 r152 hc151) (cwV 1 hts gl_X10_road2 rfl rfl rfl (by decide +kernel) ⟨Nat.le_of_ble_eq_true rfl, Nat.le_of_ble_eq_true rfl⟩) q_k137 (by decide) rfl rfl hl.1 rfl (Nat.le_of_ble_eq_true rfl) dL_law_735 ⟨Nat.le_of_ble_eq_true rfl, Nat.le_of_ble_eq_true rfl⟩) (fun H locs S => ?_)
          refine lv_icmp_eq (tgt := 1115) hx hb dL_law_738 (by decide) (fun c153 => ?_) (fun c153 => ?_)
          · have h := q_ip c153 h
            obtain ⟨y154, ey154⟩ : ∃ z : Int32, z = v3 + 8 := ⟨_, rfl⟩
            have h := q_le_e h ey154
            refine lv_iinc (v := y154) (lv' := [(3, .int y154), (0, .ref b), (1, .ref (E.2.2.2 0)), (2, .ref (E.2.2.2 137))]) hx hb dL_law_1115 hl (k := 3) rfl (by rw [ey154]; rfl) (by decide) rfl (fun ls hl => ?_)
            refine lv_goto (tgt := 18) hx hb dL_law_1118 (by decide) ?_
            exact ih y154 μ150 H locs ls S (lv_sub hl [1, 2, 3, 0] rfl) h
          · have h := q_ig c153 h
            refine lv_iconst (v := 0) hx hb dL_law_741 (by decide) ?_
            exact absurd h (by simp)
        have h := q_ig c145 h
        by_cases c155 : y3 = 12
        · have h := q_ip c155 h
          refine lv_tableIn (off := 710) (tgt := 743) hx hb dL_law_33 (by rw [c155]; decide) (by rw [c155]; decide) (by rw [c155]; decide) (by decide) ?_
          refine lv_aload_n hx hb dL_law_743 rfl (lv_at hl 1 rfl) ?_
          refine lv_aload_n hx hb dL_law_744 rfl (lv_at hl 0 rfl) ?_
          refine lv_iload_n hx hb dL_law_745 rfl (lv_at hl 3 rfl) ?_
          refine lv_iconst (v := 1) hx hb dL_law_746 (by decide) ?_
          refine lv_iadd hx hb dL_law_747 ?_
          obtain ⟨g156, h⟩ := q_gd_some h
          refine va_sld hx hb hX hbl hbA S.2 (q_in g156) dL_law_748 ?_
          obtain ⟨r159, μ157, hc158, h⟩ := q_bd_some h
          refine q_ki F S (q_runV (As := [.int (xs (v3 + 1).toNatClampNeg)]) (rest := []) (b := 0) ⟨hx, hb, hml, hown, hts⟩ F S (c_X9_begun l E hE (xs (v3 + 1).toNatClampNeg) μ μ157 r159 hc158) (cwV 1 hts gl_X9_begun rfl rfl rfl (by decide +kernel) ⟨Nat.le_of_ble_eq_true rfl, Nat.le_of_ble_eq_true rfl⟩) q_k0 (by decide) rfl rfl hl.1 rfl (Nat.le_of_ble_eq_true rfl) dL_law_749 ⟨Nat.le_of_ble_eq_true rfl, Nat.le_of_ble_eq_true rfl⟩) (fun H locs S => ?_)
          refine lv_aload_n hx hb dL_law_752 rfl (lv_at hl 2 rfl) ?_
          refine lv_aload_n hx hb dL_law_753 rfl (lv_at hl 0 rfl) ?_
          refine lv_iload_n hx hb dL_law_754 rfl (lv_at hl 3 rfl) ?_
          refine lv_iconst (v := 1) hx hb dL_law_755 (by decide) ?_
          refine lv_iadd hx hb dL_law_756 ?_
          refine va_sld hx hb hX hbl hbA S.2 (q_in g156) dL_law_757 ?_
          obtain ⟨r162, μ160, hc161, h⟩ := q_bd_some h
          refine q_ki F S (q_runV (As := [.int (xs (v3 + 1).toNatClampNeg)]) (rest := [.int r159]) (b := 137) ⟨hx, hb, hml, hown, hts⟩ F S (c_X10_begun l E hE (xs (v3 + 1).toNatClampNeg) μ157 μ160 r162 hc161) (cwV 1 hts gl_X10_begun rfl rfl rfl (by decide +kernel) ⟨Nat.le_of_ble_eq_true rfl, Nat.le_of_ble_eq_true rfl⟩) q_k137 (by decide) rfl rfl hl.1 rfl (Nat.le_of_ble_eq_true rfl) dL_law_758 ⟨Nat.le_of_ble_eq_true rfl, Nat.le_of_ble_eq_true rfl⟩) (fun H locs S => ?_)
          refine lv_icmp_eq (tgt := 1115) hx hb dL_law_761 (by decide) (fun c163 => ?_) (fun c163 => ?_)
          · have h := q_ip c163 h
            obtain ⟨y164, ey164⟩ : ∃ z : Int32, z = v3 + 8 := ⟨_, rfl⟩
            have h := q_le_e h ey164
            refine lv_iinc (v := y164) (lv' := [(3, .int y164), (0, .ref b), (1, .ref (E.2.2.2 0)), (2, .ref (E.2.2.2 137))]) hx hb dL_law_1115 hl (k := 3) rfl (by rw [ey164]; rfl) (by decide) rfl (fun ls hl => ?_)
            refine lv_goto (tgt := 18) hx hb dL_law_1118 (by decide) ?_
            exact ih y164 μ160 H locs ls S (lv_sub hl [1, 2, 3, 0] rfl) h
          · have h := q_ig c163 h
            refine lv_iconst (v := 0) hx hb dL_law_764 (by decide) ?_
            exact absurd h (by simp)
        have h := q_ig c155 h
        by_cases c165 : y3 = 13
        · have h := q_ip c165 h
          refine lv_tableIn (off := 733) (tgt := 766) hx hb dL_law_33 (by rw [c165]; decide) (by rw [c165]; decide) (by rw [c165]; decide) (by decide) ?_
          refine lv_aload_n hx hb dL_law_766 rfl (lv_at hl 1 rfl) ?_
          refine lv_aload_n hx hb dL_law_767 rfl (lv_at hl 0 rfl) ?_
          refine lv_iload_n hx hb dL_law_768 rfl (lv_at hl 3 rfl) ?_
          refine lv_iconst (v := 1) hx hb dL_law_769 (by decide) ?_
          refine lv_iadd hx hb dL_law_770 ?_
          obtain ⟨g166, h⟩ := q_gd_some h
          refine va_sld hx hb hX hbl hbA S.2 (q_in g166) dL_law_771 ?_
          refine lv_aload_n hx hb dL_law_772 rfl (lv_at hl 0 rfl) ?_
          refine lv_iload_n hx hb dL_law_773 rfl (lv_at hl 3 rfl) ?_
          refine lv_iconst (v := 2) hx hb dL_law_774 (by decide) ?_
          refine lv_iadd hx hb dL_law_775 ?_
          obtain ⟨g167, h⟩ := q_gd_some h
          refine va_sld hx hb hX hbl hbA S.2 (q_in g167) dL_law_776 ?_
          obtain ⟨r170, μ168, hc169, h⟩ := q_bd_some h
          refine q_ki F S (q_runV (As := [.int (xs (v3 + 1).toNatClampNeg), .int (xs (v3 + 2).toNatClampNeg)]) (rest := []) (b := 0) ⟨hx, hb, hml, hown, hts⟩ F S (c_X9_bars l E hE (xs (v3 + 1).toNatClampNeg) (xs (v3 + 2).toNatClampNeg) μ μ168 r170 hc169) (cwV 2 hts gl_X9_bars rfl rfl rfl (by decide +kernel) ⟨Nat.le_of_ble_eq_true rfl, Nat.le_of_ble_eq_true rfl⟩) q_k0 (by decide) rfl rfl hl.1 rfl (Nat.le_of_ble_eq_true rfl) dL_law_777 ⟨Nat.le_of_ble_eq_true rfl, Nat.le_of_ble_eq_true rfl⟩) (fun H locs S => ?_)
          refine lv_aload_n hx hb dL_law_780 rfl (lv_at hl 2 rfl) ?_
          refine lv_aload_n hx hb dL_law_781 rfl (lv_at hl 0 rfl) ?_
          refine lv_iload_n hx hb dL_law_782 rfl (lv_at hl 3 rfl) ?_
          refine lv_iconst (v := 1) hx hb dL_law_783 (by decide) ?_
          refine lv_iadd hx hb dL_law_784 ?_
          refine va_sld hx hb hX hbl hbA S.2 (q_in g166) dL_law_785 ?_
          refine lv_aload_n hx hb dL_law_786 rfl (lv_at hl 0 rfl) ?_
          refine lv_iload_n hx hb dL_law_787 rfl (lv_at hl 3 rfl) ?_
          refine lv_iconst (v := 2) hx hb dL_law_788 (by decide) ?_
          refine lv_iadd hx hb dL_law_789 ?_
          refine va_sld hx hb hX hbl hbA S.2 (q_in g167) dL_law_790 ?_
          obtain ⟨r173, μ171, hc172, h⟩ := q_bd_some h
          refine q_ki F S (q_runV (As := [.int (xs (v3 + 1).toNatClampNeg), .int (xs (v3 + 2).toNatClampNeg)]) (rest := [.int r170]) (b := 137) ⟨hx, hb, hml, hown, hts⟩ F S (c_X10_bars l E hE (xs (v3 + 1).toNatClampNeg) (xs (v3 + 2).toNatClampNeg) μ168 μ171 r173 hc172) (cwV 2 hts gl_X10_bars rfl rfl rfl (by decide +kernel) ⟨Nat.le_of_ble_eq_true rfl, Nat.le_of_ble_eq_true rfl⟩) q_k137 (by decide) rfl rfl hl.1 rfl (Nat.le_of_ble_eq_true rfl) dL_law_791 ⟨Nat.le_of_ble_eq_true rfl, Nat.le_of_ble_eq_true rfl⟩) (fun H locs S => ?_)
          refine lv_icmp_eq (tgt := 1115) hx hb dL_law_794 (by decide) (fun c174 => ?_) (fun c174 => ?_)
          · have h := q_ip c174 h
            obtain ⟨y175, ey175⟩ : ∃ z : Int32, z = v3 + 8 := ⟨_, rfl⟩
            have h := q_le_e h ey175
            refine lv_iinc (v := y175) (lv' := [(3, .int y175), (0, .ref b), (1, .ref (E.2.2.2 0)), (2, .ref (E.2.2.2 137))]) hx hb dL_law_1115 hl (k := 3) rfl (by rw [ey175]; rfl) (by decide) rfl (fun ls hl => ?_)
            refine lv_goto (tgt := 18) hx hb dL_law_1118 (by decide) ?_
            exact ih y175 μ171 H locs ls S (lv_sub hl [1, 2, 3, 0] rfl) h
          · have h := q_ig c174 h
            refine lv_iconst (v := 0) hx hb dL_law_797 (by decide) ?_
            exact absurd h (by simp)
        have h := q_ig c165 h
        by_cases c176 : y3 = 14
        · have h := q_ip c176 h
          refine lv_tableIn (off := 766) (tgt := 799) hx hb dL_law_33 (by rw [c176]; decide) (by rw [c176]; decide) (by rw [c176]; decide) (by decide) ?_
          refine lv_aload_n hx hb dL_law_799 rfl (lv_at hl 1 rfl) ?_
          refine lv_aload_n hx hb dL_law_800 rfl (lv_at hl 0 rfl) ?_
          refine lv_iload_n hx hb dL_law_801 rfl (lv_at hl 3 rfl) ?_
          refine lv_iconst (v := 1) hx hb dL_law_802 (by decide) ?_
          refine lv_iadd hx hb dL_law_803 ?_
          obtain ⟨g177, h⟩ := q_gd_some h
          refine va_sld hx hb hX hbl hbA S.2 (q_in g177) dL_law_804 ?_
          refine lv_i2l (v := (xs (v3 + 1).toNatClampNeg).toInt64) hx hb dL_law_805 rfl ?_
          refine lv_bipush (v := 32) hx hb dL_law_806 (by decide) ?_
          refine lv_lshl (v := (((xs (v3 + 1).toNatClampNeg).toInt64) <<< ((32 : Int32).toInt64 &&& 63))) hx hb dL_law_808 rfl ?_
          refine lv_aload_n hx hb dL_law_809 rfl (lv_at hl 0 rfl) ?_
          refine lv_iload_n hx hb dL_law_810 rfl (lv_at hl 3 rfl) ?_
          refine lv_iconst (v := 2) hx hb dL_law_811 (by decide) ?_
          refine lv_iadd hx hb dL_law_812 ?_
          obtain ⟨g178, h⟩ := q_gd_some h
          refine va_sld hx hb hX hbl hbA S.2 (q_in g178) dL_law_813 ?_
          refine lv_i2l (v := (xs (v3 + 2).toNatClampNeg).toInt64) hx hb dL_law_814 rfl ?_
          refine lv_ldc2 (v := 4294967295) hx hb hown (hts (.constantLong RL 28 (4294967295)) (by decide +kernel)) dL_law_815 ?_
          refine lv_land hx hb dL_law_818 ?_
          refine lv_lor hx hb dL_law_819 ?_
          refine lv_aload_n hx hb dL_law_820 rfl (lv_at hl 0 rfl) ?_
          refine lv_iload_n hx hb dL_law_821 rfl (lv_at hl 3 rfl) ?_
          refine lv_iconst (v := 3) hx hb dL_law_822 (by decide) ?_
          refine lv_iadd hx hb dL_law_823 ?_
          obtain ⟨g179, h⟩ := q_gd_some h
          refine va_sld hx hb hX hbl hbA S.2 (q_in g179) dL_law_824 ?_
          refine lv_i2l (v := (xs (v3 + 3).toNatClampNeg).toInt64) hx hb dL_law_825 rfl ?_
          refine lv_bipush (v := 32) hx hb dL_law_826 (by decide) ?_
          refine lv_lshl (v := (((xs (v3 + 3).toNatClampNeg).toInt64) <<< ((32 : Int32).toInt64 &&& 63))) hx hb dL_law_828 rfl ?_
          refine lv_aload_n hx hb dL_law_829 rfl (lv_at hl 0 rfl) ?_
          refine lv_iload_n hx hb dL_law_830 rfl (lv_at hl 3 rfl) ?_
          refine lv_iconst (v := 4) hx hb dL_law_831 (by decide) ?_
          refine lv_iadd hx hb dL_law_832 ?_
          obtain ⟨g180, h⟩ := q_gd_some h
          refine va_sld hx hb hX hbl hbA S.2 (q_in g180) dL_law_833 ?_
          refine lv_i2l (v := (xs (v3 + 4).toNatClampNeg).toInt64) hx hb dL_law_834 rfl ?_
          refine lv_ldc2 (v := 4294967295) hx hb hown (hts (.constantLong RL 28 (4294967295)) (by decide +kernel)) dL_law_835 ?_
          refine lv_land hx hb dL_law_838 ?_
          refine lv_lor hx hb dL_law_839 ?_
          obtain ⟨r183, μ181, hc182, h⟩ := q_bd_some h
          refine q_ki F S (q_runV (As := [.long ((((xs (v3 + 1).toNatClampNeg).toInt64) <<< ((32 : Int32).toInt64 &&& 63)) ||| (((xs (v3 + 2).toNatClampNeg).toInt64) &&& 4294967295)), .long ((((xs (v3 + 3).toNatClampNeg).toInt64) <<< ((32 : Int32).toInt64 &&& 63)) ||| (((xs (v3 + 4).toNatClampNeg).toInt64) &&& 4294967295))]) (rest := []) (b := 0) ⟨hx, hb, hml, hown, hts⟩ F S (c_X9_alternate l E hE ((((xs (v3 + 1).toNatClampNeg).toInt64) <<< ((32 : Int32).toInt64 &&& 63)) ||| (((xs (v3 + 2).toNatClampNeg).toInt64) &&& 4294967295)) ((((xs (v3 + 3).toNatClampNeg).toInt64) <<< ((32 : Int32).toInt64 &&& 63)) ||| (((xs (v3 + 4).toNatClampNeg).toInt64) &&& 4294967295)) μ μ181 r183 hc182) (cwV 2 hts gl_X9_alternate rfl rfl rfl (by decide +kernel) ⟨Nat.le_of_ble_eq_true rfl, Nat.le_of_ble_eq_true rfl⟩) q_k0 (by decide) rfl rfl hl.1 rfl (Nat.le_of_ble_eq_true rfl) dL_law_840 ⟨Nat.le_of_ble_eq_true rfl, Nat.le_of_ble_eq_true rfl⟩) (fun H locs S => ?_)
          refine lv_aload_n hx hb dL_law_843 rfl (lv_at hl 2 rfl) ?_
          refine lv_aload_n hx hb dL_law_844 rfl (lv_at hl 0 rfl) ?_
          refine lv_iload_n hx hb dL_law_845 rfl (lv_at hl 3 rfl) ?_
          refine lv_iconst (v := 1) hx hb dL_law_846 (by decide) ?_
          refine lv_iadd hx hb dL_law_847 ?_
          refine va_sld hx hb hX hbl hbA S.2 (q_in g177) dL_law_848 ?_
          refine lv_i2l (v := (xs (v3 + 1).toNatClampNeg).toInt64) hx hb dL_law_849 rfl ?_
          refine lv_bipush (v := 32) hx hb dL_law_850 (by decide) ?_
          refine lv_lshl (v := (((xs (v3 + 1).toNatClampNeg).toInt64) <<< ((32 : Int32).toInt64 &&& 63))) hx hb dL_law_852 rfl ?_
          refine lv_aload_n hx hb dL_law_853 rfl (lv_at hl 0 rfl) ?_
          refine lv_iload_n hx hb dL_law_854 rfl (lv_at hl 3 rfl) ?_
          refine lv_iconst (v := 2) hx hb dL_law_855 (by decide) ?_
          refine lv_iadd hx hb dL_law_856 ?_
          refine va_sld hx hb hX hbl hbA S.2 (q_in g178) dL_law_857 ?_
          refine lv_i2l (v := (xs (v3 + 2).toNatClampNeg).toInt64) hx hb dL_law_858 rfl ?_
          refine lv_ldc2 (v := 4294967295) hx hb hown (hts (.constantLong RL 28 (4294967295)) (by decide +kernel)) dL_law_859 ?_
          refine lv_land hx hb dL_law_862 ?_
          refine lv_lor hx hb dL_law_863 ?_
          refine lv_aload_n hx hb dL_law_864 rfl (lv_at hl 0 rfl) ?_
          refine lv_iload_n hx hb dL_law_865 rfl (lv_at hl 3 rfl) ?_
          refine lv_iconst (v := 3) hx hb dL_law_866 (by decide) ?_
          refine lv_iadd hx hb dL_law_867 ?_
          refine va_sld hx hb hX hbl hbA S.2 (q_in g179) dL_law_868 ?_
          refine lv_i2l (v := (xs (v3 + 3).toNatClampNeg).toInt64) hx hb dL_law_869 rfl ?_
          refine lv_bipush (v := 32) hx hb dL_law_870 (by decide) ?_
          refine lv_lshl (v := (((xs (v3 + 3).toNatClampNeg).toInt64) <<< ((32 : Int32).toInt64 &&& 63))) hx hb dL_law_872 rfl ?_
          refine lv_aload_n hx hb dL_law_873 rfl (lv_at hl 0 rfl) ?_
          refine lv_iload_n hx hb dL_law_874 rfl (lv_at hl 3 rfl) ?_
          refine lv_iconst (v := 4) hx hb dL_law_875 (by decide) ?_
          refine lv_iadd hx hb dL_law_876 ?_
          refine va_sld hx hb hX hbl hbA S.2 (q_in g180) dL_law_877 ?_
          refine lv_i2l (v := (xs (v3 + 4).toNatClampNeg).toInt64) hx hb dL_law_878 rfl ?_
          refine lv_ldc2 (v := 4294967295) hx hb hown (hts (.constantLong RL 28 (4294967295)) (by decide +kernel)) dL_law_879 ?_
          refine lv_land hx hb dL_law_882 ?_
          refine lv_lor hx hb dL_law_883 ?_
          obtain ⟨r186, μ184, hc185, h⟩ := q_bd_some h
          refine q_ki F S (q_runV (As := [.long ((((xs (v3 + 1).toNatClampNeg).toInt64) <<< ((32 : Int32).toInt64 &&& 63)) ||| (((xs (v3 + 2).toNatClampNeg).toInt64) &&& 4294967295)), .long ((((xs (v3 + 3).toNatClampNeg).toInt64) <<< ((32 : Int32).toInt64 &&& 63)) ||| (((xs (v3 + 4).toNatClampNeg).toInt64) &&& 4294967295))]) (rest := [.int r183]) (b := 137) ⟨hx, hb, hml, hown, hts⟩ F S (c_X10_alternate l E hE ((((xs (v3 + 1).toNatClampNeg).toInt64) <<< ((32 : Int32).toInt64 &&& 63)) ||| (((xs (v3 + 2).toNatClampNeg).toInt64) &&& 4294967295)) ((((xs (v3 + 3).toNatClampNeg).toInt64) <<< ((32 : Int32).toInt64 &&& 63)) ||| (((xs (v3 + 4).toNatClampNeg).toInt64) &&& 4294967295)) μ181 μ184 r186 hc185) (cwV 2 hts gl_X10_alternate rfl rfl rfl (by decide +kernel) ⟨Nat.le_of_ble_eq_true rfl, Nat.le_of_ble_eq_true rfl⟩) q_k137 (by decide) rfl rfl hl.1 rfl (Nat.le_of_ble_eq_true rfl) dL_law_884 ⟨Nat.le_of_ble_eq_true rfl, Nat.le_of_ble_eq_true rfl⟩) (fun H locs S => ?_)
          refine lv_icmp_eq (tgt := 1115) hx hb dL_law_887 (by decide) (fun c187 => ?_) (fun c187 => ?_)
          · have h := q_ip c187 h
            obtain ⟨y188, ey188⟩ : ∃ z : Int32, z = v3 + 8 := ⟨_, rfl⟩
            have h := q_le_e h ey188
            refine lv_iinc (v := y188) (lv' := [(3, .int y188), (0, .ref b), (1, .ref (E.2.2.2 0)), (2, .ref (E.2.2.2 137))]) hx hb dL_law_1115 hl (k := 3) rfl (by rw [ey188]; rfl) (by decide) rfl (fun ls hl => ?_)
            refine lv_goto (tgt := 18) hx hb dL_law_1118 (by decide) ?_
            exact ih y188 μ184 H locs ls S (lv_sub hl [1, 2, 3, 0] rfl) h
          · have h := q_ig c187 h
            refine lv_iconst (v := 0) hx hb dL_law_890 (by decide) ?_
            exact absurd h (by simp)
        have h := q_ig c176 h
        by_cases c189 : y3 = 15
        · have h := q_ip c189 h
          refine lv_tableIn (off := 859) (tgt := 892) hx hb dL_law_33 (by rw [c189]; decide) (by rw [c189]; decide) (by rw [c189]; decide) (by decide) ?_
          refine lv_aload_n hx hb dL_law_892 rfl (lv_at hl 1 rfl) ?_
          refine lv_aload_n hx hb dL_law_893 rfl (lv_at hl 0 rfl) ?_
          refine lv_iload_n hx hb dL_law_894 rfl (lv_at hl 3 rfl) ?_
          refine lv_iconst (v := 1) hx hb dL_law_895 (by decide) ?_
          refine lv_iadd hx hb dL_law_896 ?_
          obtain ⟨g190, h⟩ := q_gd_some h
          refine va_sld hx hb hX hbl hbA S.2 (q_in g190) dL_law_897 ?_
          refine lv_aload_n hx hb dL_law_898 rfl (lv_at hl 0 rfl) ?_
          refine lv_iload_n hx hb dL_law_899 rfl (lv_at hl 3 rfl) ?_
          refine lv_iconst (v := 2) hx hb dL_law_900 (by decide) ?_
          refine lv_iadd hx hb dL_law_901 ?_
          obtain ⟨g191, h⟩ := q_gd_some h
          refine va_sld hx hb hX hbl hbA S.2 (q_in g191) dL_law_902 ?_
          refine lv_if_eq (tgt := 910) hx hb dL_law_903 (by decide) (fun c192 => ?_) (fun c192 => ?_)
          · have h := q_ip c192 h
            refine lv_iconst (v := 0) hx hb dL_law_910 (by decide) ?_
            exact hJ911 _ ih _ hKx v3 0 (xs (v3 + 1).toNatClampNeg) μ H locs ls S (lv_sub hl [0, 1, 2, 3] rfl) h
          · have h := q_ig c192 h
            refine lv_iconst (v := 1) hx hb dL_law_906 (by decide) ?_
            refine lv_goto (tgt := 911) hx hb dL_law_907 (by decide) ?_
            exact hJ911 _ ih _ hKx v3 1 (xs (v3 + 1).toNatClampNeg) μ H locs ls S (lv_sub hl [0, 1, 2, 3] rfl) h
        have h := q_ig c189 h
        by_cases c209 : y3 = 16
        · have h := q_ip c209 h
          refine lv_tableIn (off := 908) (tgt := 941) hx hb dL_law_33 (by rw [c209]; decide) (by rw [c209]; decide) (by rw [c209]; decide) (by decide) ?_
          refine lv_aload_n hx hb dL_law_941 rfl (lv_at hl 1 rfl) ?_
          refine lv_aload_n hx hb dL_law_942 rfl (lv_at hl 0 rfl) ?_
          refine lv_iload_n hx hb dL_law_943 rfl (lv_at hl 3 rfl) ?_
          refine lv_iconst (v := 1) hx hb dL_law_944 (by decide) ?_
          refine lv_iadd hx hb dL_law_945 ?_
          obtain ⟨g210, h⟩ := q_gd_some h
          refine va_sld hx hb hX hbl hbA S.2 (q_in g210) dL_law_946 ?_
          refine lv_aload_n hx hb dL_law_947 rfl (lv_at hl 0 rfl) ?_
          refine lv_iload_n hx hb dL_law_948 rfl (lv_at hl 3 rfl) ?_
          refine lv_iconst (v := 2) hx hb dL_law_949 (by decide) ?_
          refine lv_iadd hx hb dL_law_950 ?_
          obtain ⟨g211, h⟩ := q_gd_some h
          refine va_sld hx hb hX hbl hbA S.2 (q_in g211) dL_law_951 ?_
          obtain ⟨r214, μ212, hc213, h⟩ := q_bd_some h
          refine q_ki F S (q_runV (As := [.int (xs (v3 + 1).toNatClampNeg), .int (xs (v3 + 2).toNatClampNeg)]) (rest := []) (b := 0) ⟨hx, hb, hml, hown, hts⟩ F S (c_X9_convoy l E hE (xs (v3 + 1).toNatClampNeg) (xs (v3 + 2).toNatClampNeg) μ μ212 r214 hc213) (cwV 2 hts gl_X9_convoy rfl rfl rfl (by decide +kernel) ⟨Nat.le_of_ble_eq_true rfl, Nat.le_of_ble_eq_true rfl⟩) q_k0 (by decide) rfl rfl hl.1 rfl (Nat.le_of_ble_eq_true rfl) dL_law_952 ⟨Nat.le_of_ble_eq_true rfl, Nat.le_of_ble_eq_true rfl⟩) (fun H locs S => ?_)
          refine lv_aload_n hx hb dL_law_955 rfl (lv_at hl 2 rfl) ?_
          refine lv_aload_n hx hb dL_law_956 rfl (lv_at hl 0 rfl) ?_
          refine lv_iload_n hx hb dL_law_957 rfl (lv_at hl 3 rfl) ?_
          refine lv_iconst (v := 1) hx hb dL_law_958 (by decide) ?_
          refine lv_iadd hx hb dL_law_959 ?_
          refine va_sld hx hb hX hbl hbA S.2 (q_in g210) dL_law_960 ?_
          refine lv_aload_n hx hb dL_law_961 rfl (lv_at hl 0 rfl) ?_
          refine lv_iload_n hx hb dL_law_962 rfl (lv_at hl 3 rfl) ?_
          refine lv_iconst (v := 2) hx hb dL_law_963 (by decide) ?_
          refine lv_iadd hx hb dL_law_964 ?_
          refine va_sld hx hb hX hbl hbA S.2 (q_in g211) dL_law_965 ?_
          obtain ⟨r217, μ215, hc216, h⟩ := q_bd_some h
          refine q_ki F S (q_runV (As := [.int (xs (v3 + 1).toNatClampNeg), .int (xs (v3 + 2).toNatClampNeg)]) (rest := [.int r214]) (b := 137) ⟨hx, hb, hml, hown, hts⟩ F S (c_X10_convoy l E hE (xs (v3 + 1).toNatClampNeg) (xs (v3 + 2).toNatClampNeg) μ212 μ215 r217 hc216) (cwV 2 hts gl_X10_convoy rfl rfl rfl (by decide +kernel) ⟨Nat.le_of_ble_eq_true rfl, Nat.le_of_ble_eq_true rfl⟩) q_k137 (by decide) rfl rfl hl.1 rfl (Nat.le_of_ble_eq_true rfl) dL_law_966 ⟨Nat.le_of_ble_eq_true rfl, Nat.le_of_ble_eq_true rfl⟩) (fun H locs S => ?_)
          refine lv_icmp_eq (tgt := 1115) hx hb dL_law_969 (by decide) (fun c218 => ?_) (fun c218 => ?_)
          · have h := q_ip c218 h
            obtain ⟨y219, ey219⟩ : ∃ z : Int32, z = v3 + 8 := ⟨_, rfl⟩
            have h := q_le_e h ey219
            refine lv_iinc (v := y219) (lv' := [(3, .int y219), (0, .ref b), (1, .ref (E.2.2.2 0)), (2, .ref (E.2.2.2 137))]) hx hb dL_law_1115 hl (k := 3) rfl (by rw [ey219]; rfl) (by decide) rfl (fun ls hl => ?_)
            refine lv_goto (tgt := 18) hx hb dL_law_1118 (by decide) ?_
            exact ih y219 μ215 H locs ls S (lv_sub hl [1, 2, 3, 0] rfl) h
          · have h := q_ig c218 h
            refine lv_iconst (v := 0) hx hb dL_law_972 (by decide) ?_
            exact absurd h (by simp)
        have h := q_ig c209 h
        by_cases c220 : y3 = 17
        · have h := q_ip c220 h
          refine lv_tableIn (off := 941) (tgt := 974) hx hb dL_law_33 (by rw [c220]; decide) (by rw [c220]; decide) (by rw [c220]; decide) (by decide) ?_
          refine lv_aload_n hx hb dL_law_974 rfl (lv_at hl 1 rfl) ?_
          refine lv_aload_n hx hb dL_law_975 rfl (lv_at hl 0 rfl) ?_
          refine lv_iload_n hx hb dL_law_976 rfl (lv_at hl 3 rfl) ?_
          refine lv_iconst (v := 1) hx hb dL_law_977 (by decide) ?_
          refine lv_iadd hx hb dL_law_978 ?_
          obtain ⟨g221, h⟩ := q_gd_some h
          refine va_sld hx hb hX hbl hbA S.2 (q_in g221) dL_law_979 ?_
          obtain ⟨r224, μ222, hc223, h⟩ := q_bd_some h
          refine q_ki F S (q_runV (As := [.int (xs (v3 + 1).toNatClampNeg)]) (rest := []) (b := 0) ⟨hx, hb, hml, hown, hts⟩ F S (c_X9_escort l E hE (xs (v3 + 1).toNatClampNeg) μ μ222 r224 hc223) (cwV 1 hts gl_X9_escort rfl rfl rfl (by decide +kernel) ⟨Nat.le_of_ble_eq_true rfl, Nat.le_of_ble_eq_true rfl⟩) q_k0 (by decide) rfl rfl hl.1 rfl (Nat.le_of_ble_eq_true rfl) dL_law_980 ⟨Nat.le_of_ble_eq_true rfl, Nat.le_of_ble_eq_true rfl⟩) (fun H locs S => ?_)
          refine lv_aload_n hx hb dL_law_983 rfl (lv_at hl 2 rfl) ?_
          refine lv_aload_n hx hb dL_law_984 rfl (lv_at hl 0 rfl) ?_
          refine lv_iload_n hx hb dL_law_985 rfl (lv_at hl 3 rfl) ?_
          refine lv_iconst (v := 1) hx hb dL_law_986 (by decide) ?_
          refine lv_iadd hx hb dL_law_987 ?_
          refine va_sld hx hb hX hbl hbA S.2 (q_in g221) dL_law_988 ?_
          obtain ⟨r227, μ225, hc226, h⟩ := q_bd_some h
          refine q_ki F S (q_runV (As := [.int (xs (v3 + 1).toNatClampNeg)]) (rest := [.int r224]) (b := 137) ⟨hx, hb, hml, hown, hts⟩ F S (c_X10_escort l E hE (xs (v3 + 1).toNatClampNeg) μ222 μ225 r227 hc226) (cwV 1 hts gl_X10_escort rfl rfl rfl (by decide +kernel) ⟨Nat.le_of_ble_eq_true rfl, Nat.le_of_ble_eq_true rfl⟩) q_k137 (by decide) rfl rfl hl.1 rfl (Nat.le_of_ble_eq_true rfl) dL_law_989 ⟨Nat.le_of_ble_eq_true rfl, Nat.le_of_ble_eq_true rfl⟩) (fun H locs S => ?_)
          refine lv_icmp_eq (tgt := 1115) hx hb dL_law_992 (by decide) (fun c228 => ?_) (fun c228 => ?_)
          · have h := q_ip c228 h
            obtain ⟨y229, ey229⟩ : ∃ z : Int32, z = v3 + 8 := ⟨_, rfl⟩
            have h := q_le_e h ey229
            refine lv_iinc (v := y229) (lv' := [(3, .int y229), (0, .ref b), (1, .ref (E.2.2.2 0)), (2, .ref (E.2.2.2 137))]) hx hb dL_law_1115 hl (k := 3) rfl (by rw [ey229]; rfl) (by decide) rfl (fun ls hl => ?_)
            refine lv_goto (tgt := 18) hx hb dL_law_1118 (by decide) ?_
            exact ih y229 μ225 H locs ls S (lv_sub hl [1, 2, 3, 0] rfl) h
          · have h := q_ig c228 h
            refine lv_iconst (v := 0) hx hb dL_law_995 (by decide) ?_
            exact absurd h (by simp)
        have h := q_ig c220 h
        by_cases c230 : y3 = 18
        · have h := q_ip c230 h
          refine lv_tableIn (off := 964) (tgt := 997) hx hb dL_law_33 (by rw [c230]; decide) (by rw [c230]; decide) (by rw [c230]; decide) (by decide) ?_
          refine lv_aload_n hx hb dL_law_997 rfl (lv_at hl 1 rfl) ?_
          refine lv_aload_n hx hb dL_law_998 rfl (lv_at hl 0 rfl) ?_
          refine lv_iload_n hx hb dL_law_999 rfl (lv_at hl 3 rfl) ?_
          refine lv_iconst (v := 1) hx hb dL_law_1000 (by decide) ?_
          refine lv_iadd hx hb dL_law_1001 ?_
          obtain ⟨g231, h⟩ := q_gd_some h
          refine va_sld hx hb hX hbl hbA S.2 (q_in g231) dL_law_1002 ?_
          obtain ⟨r234, μ232, hc233, h⟩ := q_bd_some h
          refine q_ki F S (q_runV (As := [.int (xs (v3 + 1).toNatClampNeg)]) (rest := []) (b := 0) ⟨hx, hb, hml, hown, hts⟩ F S (c_X9_notice l E hE (xs (v3 + 1).toNatClampNeg) μ μ232 r234 hc233) (cwV 1 hts gl_X9_notice rfl rfl rfl (by decide +kernel) ⟨Nat.le_of_ble_eq_true rfl, Nat.le_of_ble_eq_true rfl⟩) q_k0 (by decide) rfl rfl hl.1 rfl (Nat.le_of_ble_eq_true rfl) dL_law_1003 ⟨Nat.le_of_ble_eq_true rfl, Nat.le_of_ble_eq_true rfl⟩) (fun H locs S => ?_)
          refine lv_aload_n hx hb dL_law_1006 rfl (lv_at hl 2 rfl) ?_
          refine lv_aload_n hx hb dL_law_1007 rfl (lv_at hl 0 rfl) ?_
          refine lv_iload_n hx hb dL_law_1008 rfl (lv_at hl 3 rfl) ?_
          refine lv_iconst (v := 1) hx hb dL_law_1009 (by decide) ?_
          refine lv_iadd hx hb dL_law_1010 ?_
          refine va_sld hx hb hX hbl hbA S.2 (q_in g231) dL_law_1011 ?_
          obtain ⟨r237, μ235, hc236, h⟩ := q_bd_some h
          refine q_ki F S (q_runV (As := [.int (xs (v3 + 1).toNatClampNeg)]) (rest := [.int r234]) (b := 137) ⟨hx, hb, hml, hown, hts⟩ F S (c_X10_notice l E hE (xs (v3 + 1).toNatClampNeg) μ232 μ235 r237 hc236) (cwV 1 hts gl_X10_notice rfl rfl rfl (by decide +kernel) ⟨Nat.le_of_ble_eq_true rfl, Nat.le_of_ble_eq_true rfl⟩) q_k137 (by decide) rfl rfl hl.1 rfl (Nat.le_of_ble_eq_true rfl) dL_law_1012 ⟨Nat.le_of_ble_eq_true rfl, Nat.le_of_ble_eq_true rfl⟩) (fun H locs S => ?_)
          refine lv_icmp_eq (tgt := 1115) hx hb dL_law_1015 (by decide) (fun c238 => ?_) (fun c238 => ?_)
          · have h := q_ip c238 h
            obtain ⟨y239, ey239⟩ : ∃ z : Int32, z = v3 + 8 := ⟨_, rfl⟩
            have h := q_le_e h ey239
            refine lv_iinc (v := y239) (lv' := [(3, .int y239), (0, .ref b), (1, .ref (E.2.2.2 0)), (2, .ref (E.2.2.2 137))]) hx hb dL_law_1115 hl (k := 3) rfl (by rw [ey239]; rfl) (by decide) rfl (fun ls hl => ?_)
            refine lv_goto (tgt := 18) hx hb dL_law_1118 (by decide) ?_
            exact ih y239 μ235 H locs ls S (lv_sub hl [1, 2, 3, 0] rfl) h
          · have h := q_ig c238 h
            refine lv_iconst (v := 0) hx hb dL_law_1018 (by decide) ?_
            exact absurd h (by simp)
        have h := q_ig c230 h
        by_cases c240 : y3 = 19
        · have h := q_ip c240 h
          refine lv_tableIn (off := 987) (tgt := 1020) hx hb dL_law_33 (by rw [c240]; decide) (by rw [c240]; decide) (by rw [c240]; decide) (by decide) ?_
          refine lv_aload_n hx hb dL_law_1020 rfl (lv_at hl 1 rfl) ?_
          refine lv_aload_n hx hb dL_law_1021 rfl (lv_at hl 0 rfl) ?_
          refine lv_iload_n hx hb dL_law_1022 rfl (lv_at hl 3 rfl) ?_
          refine lv_iconst (v := 1) hx hb dL_law_1023 (by decide) ?_
          refine lv_iadd hx hb dL_law_1024 ?_
          obtain ⟨g241, h⟩ := q_gd_some h
          refine va_sld hx hb hX hbl hbA S.2 (q_in g241) dL_law_1025 ?_
          obtain ⟨r244, μ242, hc243, h⟩ := q_bd_some h
          refine q_ki F S (q_runV (As := [.int (xs (v3 + 1).toNatClampNeg)]) (rest := []) (b := 0) ⟨hx, hb, hml, hown, hts⟩ F S (c_X9_record l E hE (xs (v3 + 1).toNatClampNeg) μ μ242 r244 hc243) (cwV 1 hts gl_X9_record rfl rfl rfl (by decide +kernel) ⟨Nat.le_of_ble_eq_true rfl, Nat.le_of_ble_eq_true rfl⟩) q_k0 (by decide) rfl rfl hl.1 rfl (Nat.le_of_ble_eq_true rfl) dL_law_1026 ⟨Nat.le_of_ble_eq_true rfl, Nat.le_of_ble_eq_true rfl⟩) (fun H locs S => ?_)
          refine lv_aload_n hx hb dL_law_1029 rfl (lv_at hl 2 rfl) ?_
          refine lv_aload_n hx hb dL_law_1030 rfl (lv_at hl 0 rfl) ?_
          refine lv_iload_n hx hb dL_law_1031 rfl (lv_at hl 3 rfl) ?_
          refine lv_iconst (v := 1) hx hb dL_law_1032 (by decide) ?_
          refine lv_iadd hx hb dL_law_1033 ?_
          refine va_sld hx hb hX hbl hbA S.2 (q_in g241) dL_law_1034 ?_
          obtain ⟨r247, μ245, hc246, h⟩ := q_bd_some h
          refine q_ki F S (q_runV (As := [.int (xs (v3 + 1).toNatClampNeg)]) (rest := [.int r244]) (b := 137) ⟨hx, hb, hml, hown, hts⟩ F S (c_X10_record l E hE (xs (v3 + 1).toNatClampNeg) μ242 μ245 r247 hc246) (cwV 1 hts gl_X10_record rfl rfl rfl (by decide +kernel) ⟨Nat.le_of_ble_eq_true rfl, Nat.le_of_ble_eq_true rfl⟩) q_k137 (by decide) rfl rfl hl.1 rfl (Nat.le_of_ble_eq_true rfl) dL_law_1035 ⟨Nat.le_of_ble_eq_true rfl, Nat.le_of_ble_eq_true rfl⟩) (fun H locs S => ?_)
          refine lv_icmp_eq (tgt := 1115) hx hb dL_law_1038 (by decide) (fun c248 => ?_) (fun c248 => ?_)
          · have h := q_ip c248 h
            obtain ⟨y249, ey249⟩ : ∃ z : Int32, z = v3 + 8 := ⟨_, rfl⟩
            have h := q_le_e h ey249
            refine lv_iinc (v := y249) (lv' := [(3, .int y249), (0, .ref b), (1, .ref (E.2.2.2 0)), (2, .ref (E.2.2.2 137))]) hx hb dL_law_1115 hl (k := 3) rfl (by rw [ey249]; rfl) (by decide) rfl (fun ls hl => ?_)
            refine lv_goto (tgt := 18) hx hb dL_law_1118 (by decide) ?_
            exact ih y249 μ245 H locs ls S (lv_sub hl [1, 2, 3, 0] rfl) h
          · have h := q_ig c248 h
            refine lv_iconst (v := 0) hx hb dL_law_1041 (by decide) ?_
            exact absurd h (by simp)
        have h := q_ig c240 h
        by_cases c250 : y3 = 20
        · have h := q_ip c250 h
          refine lv_tableIn (off := 1010) (tgt := 1043) hx hb dL_law_33 (by rw [c250]; decide) (by rw [c250]; decide) (by rw [c250]; decide) (by decide) ?_
          refine lv_aload_n hx hb dL_law_1043 rfl (lv_at hl 1 rfl) ?_
          refine lv_aload_n hx hb dL_law_1044 rfl (lv_at hl 0 rfl) ?_
          refine lv_iload_n hx hb dL_law_1045 rfl (lv_at hl 3 rfl) ?_
          refine lv_iconst (v := 1) hx hb dL_law_1046 (by decide) ?_
          refine lv_iadd hx hb dL_law_1047 ?_
          obtain ⟨g251, h⟩ := q_gd_some h
          refine va_sld hx hb hX hbl hbA S.2 (q_in g251) dL_law_1048 ?_
          refine lv_aload_n hx hb dL_law_1049 rfl (lv_at hl 0 rfl) ?_
          refine lv_iload_n hx hb dL_law_1050 rfl (lv_at hl 3 rfl) ?_
          refine lv_iconst (v := 2) hx hb dL_law_1051 (by decide) ?_
          refine lv_iadd hx hb dL_law_1052 ?_
          obtain ⟨g252, h⟩ := q_gd_some h
          refine va_sld hx hb hX hbl hbA S.2 (q_in g252) dL_law_1053 ?_
          refine lv_if_eq (tgt := 1061) hx hb dL_law_1054 (by decide) (fun c253 => ?_) (fun c253 => ?_)
          · have h := q_ip c253 h
            refine lv_iconst (v := 0) hx hb dL_law_1061 (by decide) ?_
            exact hJ1062 _ ih _ hKx v3 0 (xs (v3 + 1).toNatClampNeg) μ H locs ls S (lv_sub hl [0, 1, 2, 3] rfl) h
          · have h := q_ig c253 h
            refine lv_iconst (v := 1) hx hb dL_law_1057 (by decide) ?_
            refine lv_goto (tgt := 1062) hx hb dL_law_1058 (by decide) ?_
            exact hJ1062 _ ih _ hKx v3 1 (xs (v3 + 1).toNatClampNeg) μ H locs ls S (lv_sub hl [0, 1, 2, 3] rfl) h
        have h := q_ig c250 h
        by_cases c270 : y3 = 21
        · have h := q_ip c270 h
          refine lv_tableIn (off := 1059) (tgt := 1092) hx hb dL_law_33 (by rw [c270]; decide) (by rw [c270]; decide) (by rw [c270]; decide) (by decide) ?_
          refine lv_aload_n hx hb dL_law_1092 rfl (lv_at hl 1 rfl) ?_
          refine lv_aload_n hx hb dL_law_1093 rfl (lv_at hl 0 rfl) ?_
          refine lv_iload_n hx hb dL_law_1094 rfl (lv_at hl 3 rfl) ?_
          refine lv_iconst (v := 1) hx hb dL_law_1095 (by decide) ?_
          refine lv_iadd hx hb dL_law_1096 ?_
          obtain ⟨g271, h⟩ := q_gd_some h
          refine va_sld hx hb hX hbl hbA S.2 (q_in g271) dL_law_1097 ?_
          obtain ⟨r274, μ272, hc273, h⟩ := q_bd_some h
          refine q_ki F S (q_runV (As := [.int (xs (v3 + 1).toNatClampNeg)]) (rest := []) (b := 0) ⟨hx, hb, hml, hown, hts⟩ F S (c_X9_count l E hE (xs (v3 + 1).toNatClampNeg) μ μ272 r274 hc273) (cwV 1 hts gl_X9_count rfl rfl rfl (by decide +kernel) ⟨Nat.le_of_ble_eq_true rfl, Nat.le_of_ble_eq_true rfl⟩) q_k0 (by decide) rfl rfl hl.1 rfl (Nat.le_of_ble_eq_true rfl) dL_law_1098 ⟨Nat.le_of_ble_eq_true rfl, Nat.le_of_ble_eq_true rfl⟩) (fun H locs S => ?_)
          refine lv_aload_n hx hb dL_law_1101 rfl (lv_at hl 2 rfl) ?_
          refine lv_aload_n hx hb dL_law_1102 rfl (lv_at hl 0 rfl) ?_
          refine lv_iload_n hx hb dL_law_1103 rfl (lv_at hl 3 rfl) ?_
          refine lv_iconst (v := 1) hx hb dL_law_1104 (by decide) ?_
          refine lv_iadd hx hb dL_law_1105 ?_
          refine va_sld hx hb hX hbl hbA S.2 (q_in g271) dL_law_1106 ?_
          obtain ⟨r277, μ275, hc276, h⟩ := q_bd_some h
          refine q_ki F S (q_runV (As := [.int (xs (v3 + 1).toNatClampNeg)]) (rest := [.int r274]) (b := 137) ⟨hx, hb, hml, hown, hts⟩ F S (c_X10_count l E hE (xs (v3 + 1).toNatClampNeg) μ272 μ275 r277 hc276) (cwV 1 hts gl_X10_count rfl rfl rfl (by decide +kernel) ⟨Nat.le_of_ble_eq_true rfl, Nat.le_of_ble_eq_true rfl⟩) q_k137 (by decide) rfl rfl hl.1 rfl (Nat.le_of_ble_eq_true rfl) dL_law_1107 ⟨Nat.le_of_ble_eq_true rfl, Nat.le_of_ble_eq_true rfl⟩) (fun H locs S => ?_)
          refine lv_icmp_eq (tgt := 1115) hx hb dL_law_1110 (by decide) (fun c278 => ?_) (fun c278 => ?_)
          · have h := q_ip c278 h
            obtain ⟨y279, ey279⟩ : ∃ z : Int32, z = v3 + 8 := ⟨_, rfl⟩
            have h := q_le_e h ey279
            refine lv_iinc (v := y279) (lv' := [(3, .int y279), (0, .ref b), (1, .ref (E.2.2.2 0)), (2, .ref (E.2.2.2 137))]) hx hb dL_law_1115 hl (k := 3) rfl (by rw [ey279]; rfl) (by decide) rfl (fun ls hl => ?_)
            refine lv_goto (tgt := 18) hx hb dL_law_1118 (by decide) ?_
            exact ih y279 μ275 H locs ls S (lv_sub hl [1, 2, 3, 0] rfl) h
          · have h := q_ig c278 h
            refine lv_iconst (v := 0) hx hb dL_law_1113 (by decide) ?_
            exact absurd h (by simp)
        have h := q_ig c270 h
        refine lv_tableOut (tgt := 1115) hx hb dL_law_33 (q_sw21 y3 c4 c13 c27 c37 c53 c66 c78 c100 c112 c123 c133 c145 c155 c165 c176 c189 c209 c220 c230 c240 c250 c270) (by decide) ?_
        obtain ⟨y280, ey280⟩ : ∃ z : Int32, z = v3 + 8 := ⟨_, rfl⟩
        have h := q_le_e h ey280
        refine lv_iinc (v := y280) (lv' := [(3, .int y280), (0, .ref b), (1, .ref (E.2.2.2 0)), (2, .ref (E.2.2.2 137))]) hx hb dL_law_1115 hl (k := 3) rfl (by rw [ey280]; rfl) (by decide) rfl (fun ls hl => ?_)
        refine lv_goto (tgt := 18) hx hb dL_law_1118 (by decide) ?_
        exact ih y280 μ H locs ls S (lv_sub hl [1, 2, 3, 0] rfl) h
  unfold f_law at h
  refine hL18 _ (fun μ H locs ls S hl h => ?_) q_fu v3 μ H locs ls S (lv_sub hl [0, 1, 2, 3] rfl) h
  refine lv_iconst (v := 1) hx hb dL_law_1121 (by decide) ?_
  refine va_forget (fun q hq => S.2.2.2 q hq) ?_
  refine W.widen (k := 600000) (n := 7302250) (Nat.le_of_ble_eq_true rfl) (Nat.le_of_ble_eq_true rfl) ?_
  exact lw_ret hx hb hr hlk dL_law_1122
