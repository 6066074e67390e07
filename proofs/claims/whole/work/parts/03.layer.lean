/-! the memory: ids, kinds, cells; rows of the machine over it -/
abbrev q_M : Type := (Nat → Nat → Int32) × (Nat → Nat → Int64)
abbrev q_E : Type := (Nat → ClassId) × (Nat → Nat → Nat) × (Nat → ClassId) × (Nat → Nat)
def q_kd (k : Nat) : Nat := if k < 1 then 9 else if k < 2 then 3 else if k < 3 then 1 else if k < 4 then 2 else if k < 5 then 4 else if k < 6 then 11 else if k < 7 then 14 else if k < 8 then 15 else if k < 9 then 16 else if k < 14 then 12 else if k < 26 then 6 else if k < 50 then 11 else if k < 56 then 0 else if k < 74 then 12 else if k < 81 then 5 else if k < 97 then 8 else if k < 113 then 12 else if k < 121 then 7 else if k < 137 then 11 else if k < 138 then 10 else if k < 165 then (if k = 143 ∨ k = 148 ∨ k = 149 ∨ k = 160 ∨ k = 162 then 13 else 11) else 99
def q_len (k : Nat) : Nat := if k < 6 then 50 else if k < 7 then 12 else if k < 8 then 6 else if k < 9 then 5 else if k < 11 then 5 else if k < 14 then 6 else if k < 50 then 3 else if k < 74 then 6 else if k < 113 then 4 else if k < 138 then 6 else ([12, 12, 12, 12, 12, 12, 12, 12, 36, 36, 144, 6, 6, 36, 36, 36, 5, 5, 60, 5, 50, 12, 7, 12, 12, 13, 13] : List Nat).getD (k - 138) 0
def q_nf (c : Nat) : Nat := ([8, 15, 5, 7, 8, 2, 11, 6, 1, 4, 54] : List Nat).getD c 0
def q_ftl : List (List Nat) := [[0, 0, 2, 2, 2, 2, 0, 0], [2, 2, 2, 2, 2, 0, 0, 0, 0, 0, 0, 0, 0, 0, 0], [0, 0, 0, 2, 2], [0, 0, 0, 2, 2, 2, 2], [2, 2, 2, 2, 2, 2, 1, 1], [2, 2], [0, 0, 0, 0, 0, 0, 0, 0, 0, 2, 2], [2, 2, 0, 0, 0, 0], [2], [2, 2, 2, 0], [0, 0, 2, 2, 2, 2, 2, 2, 2, 2, 2, 2, 2, 0, 2, 2, 2, 2, 2, 0, 2, 2, 0, 0, 0, 0, 0, 0, 0, 2, 2, 0, 2, 2, 0, 2, 2, 0, 0, 0, 0, 1, 1, 1, 1, 1, 1, 1, 1, 1, 1, 2, 2, 2]]
def q_ft (c j : Nat) : Nat := (q_ftl.getD c []).getD j 0
def q_fkl : List (List Nat) := [[98, 98, 12, 12, 12, 5, 98, 98], [3, 16, 7, 7, 7, 98, 98, 98, 98, 98, 98, 98, 98, 98, 98], [98, 98, 98, 12, 12], [98, 98, 98, 14, 15, 2, 4], [8, 8, 5, 12, 12, 12, 98, 98], [8, 8], [98, 98, 98, 98, 98, 98, 98, 98, 98, 11, 11], [11, 11, 98, 98, 98, 98], [12], [3, 1, 11, 98], [98, 98, 11, 11, 11, 11, 11, 13, 11, 11, 11, 11, 13, 98, 13, 11, 11, 11, 11, 98, 11, 11, 98, 98, 98, 98, 98, 98, 98, 11, 11, 98, 11, 11, 98, 13, 11, 98, 98, 98, 98, 98, 98, 98, 98, 98, 98, 98, 98, 98, 98, 13, 11, 11]]
def q_fk (c j : Nat) : Nat := (q_fkl.getD c []).getD j 98
def q_fnl : List (List Nat) := [[0, 0, 6, 6, 6, 0, 0, 0], [0, 5, 0, 0, 0, 0, 0, 0, 0, 0, 0, 0, 0, 0, 0], [0, 0, 0, 5, 5], [0, 0, 0, 12, 6, 0, 0], [0, 0, 0, 6, 6, 6, 0, 0], [0, 0], [0, 0, 0, 0, 0, 0, 0, 0, 0, 3, 3], [6, 6, 0, 0, 0, 0], [4], [0, 0, 50, 0], [0, 0, 12, 12, 12, 12, 12, 12, 12, 12, 36, 36, 144, 0, 6, 6, 36, 36, 36, 0, 5, 5, 0, 0, 0, 0, 0, 0, 0, 60, 5, 0, 50, 12, 0, 7, 12, 0, 0, 0, 0, 0, 0, 0, 0, 0, 0, 0, 0, 0, 0, 12, 13, 13]]
def q_fn (c j : Nat) : Nat := (q_fnl.getD c []).getD j 0
def q_pt (k j : Nat) : Nat := if q_kd k = 6 then (if j = 9 then k + 12 else k + 24) else if q_kd k = 0 then (if j = 2 then k + 6 else if j = 3 then k + 12 else if j = 4 then k + 18 else k + 24) else if q_kd k = 5 then (if j = 0 then k + 7 else k + 14) else if q_kd k = 8 then (k + 16) else if q_kd k = 7 then (if j = 0 then k + 8 else k + 16) else if q_kd k = 9 then (if j = 0 then 1 else if j = 1 then 2 else 5) else if q_kd k = 3 then (if j = 3 then 6 else if j = 4 then 7 else if j = 5 then 3 else 4) else if q_kd k = 1 then (if j = 0 then 1 else if j = 1 then 8 else if j = 2 then 118 else if j = 3 then 119 else 120) else if q_kd k = 2 then (if j = 3 then 9 else 10) else if q_kd k = 4 then (if j = 0 then 95 else if j = 1 then 96 else if j = 2 then 80 else if j = 3 then 11 else if j = 4 then 12 else 13) else if q_kd k = 10 then ([0, 0, 138, 139, 140, 141, 142, 143, 144, 145, 146, 147, 148, 0, 149, 150, 151, 152, 153, 0, 154, 155, 0, 0, 0, 0, 0, 0, 0, 156, 157, 0, 158, 159, 0, 160, 161, 0, 0, 0, 0, 0, 0, 0, 0, 0, 0, 0, 0, 0, 0, 162, 163, 164] : List Nat).getD j 0 else if q_kd k = 14 then 14 + j else if q_kd k = 15 then 50 + j else if q_kd k = 16 then 113 + j else 0
def q_sv (E : q_E) (t : Nat) (rI : Nat → Int32) (rL : Nat → Int64) (rP : Nat → Nat) (j : Nat) : Value := if t = 0 then .int (rI j) else if t = 1 then .long (rL j) else .ref (E.2.2.2 (rP j))
def q_fl (E : q_E) (μ : q_M) (k c : Nat) : List Value := (List.range (q_nf c)).map (fun j => q_sv E (q_ft c j) (μ.1 k) (μ.2 k) (q_pt k) j)
def q_cl (E : q_E) (μ : q_M) (k : Nat) : va_E := if q_kd k = 11 then .inl (E.2.2.1 0, q_len k, .inl (μ.1 k)) else if q_kd k = 12 then .inl (E.2.2.1 1, q_len k, .inr (.inl (μ.2 k))) else if q_kd k = 13 then .inl (E.2.2.1 2, q_len k, .inl (μ.1 k)) else if q_kd k = 14 then .inl (E.2.2.1 3, q_len k, .inr (.inr (.inr (.inr (fun i => some (E.2.2.2 (q_pt k i))))))) else if q_kd k = 15 then .inl (E.2.2.1 4, q_len k, .inr (.inr (.inr (.inr (fun i => some (E.2.2.2 (q_pt k i))))))) else if q_kd k = 16 then .inl (E.2.2.1 5, q_len k, .inr (.inr (.inr (.inr (fun i => some (E.2.2.2 (q_pt k i))))))) else .inr (q_kd k, q_fl E μ k (q_kd k))
def q_ws (E : q_E) (μ : q_M) : va_W := (List.range 165).map (fun k => (E.2.2.2 k, q_cl E μ k))
def q_ty (E : q_E) : List (ClassId × FieldType) := [(E.2.2.1 0, .int), (E.2.2.1 1, .long), (E.2.2.1 2, .boolean), (E.2.2.1 3, .object "HeavyRoutes$Road"), (E.2.2.1 4, .object "HeavyRoutes$Bridge"), (E.2.2.1 5, .object "HeavyRoutes$Way")]
abbrev q_D (E : q_E) : va_G := (E.1, E.2.1)
def q_nF : List (String × Nat × String × String × String × String) := [("HeavyRoutes", 114, "HeavyRoutes$Journey", "height", "I", "HeavyRoutes"), ("HeavyRoutes$Net", 86, "HeavyRoutes$Journey", "height", "I", "HeavyRoutes"), ("HeavyRoutes", 117, "HeavyRoutes$Journey", "width", "I", "HeavyRoutes"), ("HeavyRoutes$Net", 90, "HeavyRoutes$Journey", "width", "I", "HeavyRoutes"), ("HeavyRoutes$Rater", 52, "HeavyRoutes$Journey", "axleCount", "I", "HeavyRoutes"), ("HeavyRoutes", 231, "HeavyRoutes$Journey", "axleCount", "I", "HeavyRoutes"), ("HeavyRoutes$Rater", 66, "HeavyRoutes$Journey", "offsets", "[J", "HeavyRoutes"), ("HeavyRoutes$Rater", 98, "HeavyRoutes$Journey", "loads", "[J", "HeavyRoutes"), ("HeavyRoutes$Rater", 38, "HeavyRoutes$Rating", "upper", "LHeavyRoutes$Wide;", "HeavyRoutes"), ("HeavyRoutes", 143, "HeavyRoutes$Rating", "upper", "LHeavyRoutes$Wide;", "HeavyRoutes"), ("HeavyRoutes$Rater", 45, "HeavyRoutes$Rating", "lower", "LHeavyRoutes$Wide;", "HeavyRoutes"), ("HeavyRoutes", 155, "HeavyRoutes$Rating", "lower", "LHeavyRoutes$Wide;", "HeavyRoutes"), ("HeavyRoutes$Net", 101, "HeavyRoutes$Road", "minutes", "I", "HeavyRoutes"), ("HeavyRoutes$Net", 83, "HeavyRoutes$Road", "height", "I", "HeavyRoutes"), ("HeavyRoutes$Net", 87, "HeavyRoutes$Road", "width", "I", "HeavyRoutes"), ("HeavyRoutes$Net", 80, "HeavyRoutes$Road", "open", "Z", "HeavyRoutes"), ("HeavyRoutes", 228, "HeavyRoutes$Road", "open", "Z", "HeavyRoutes"), ("HeavyRoutes", 68, "HeavyRoutes$Road", "bridge", "I", "HeavyRoutes"), ("HeavyRoutes$Net", 91, "HeavyRoutes$Road", "bridge", "I", "HeavyRoutes"), ("HeavyRoutes", 128, "HeavyRoutes$Road", "barCount", "I", "HeavyRoutes"), ("HeavyRoutes$Net", 98, "HeavyRoutes$Bridge", "slow", "Z", "HeavyRoutes"), ("HeavyRoutes", 203, "HeavyRoutes$Bridge", "slow", "Z", "HeavyRoutes"), ("HeavyRoutes$Rater", 58, "HeavyRoutes$Bridge", "cornerCount", "I", "HeavyRoutes"), ("HeavyRoutes$Rater", 63, "HeavyRoutes$Bridge", "at", "[J", "HeavyRoutes"), ("HeavyRoutes$Rater", 105, "HeavyRoutes$Bridge", "above", "[J", "HeavyRoutes"), ("HeavyRoutes$Rater", 84, "HeavyRoutes$Bridge", "below", "[J", "HeavyRoutes"), ("HeavyRoutes$Net", 49, "HeavyRoutes$Bridge", "kept", "LHeavyRoutes$Rating;", "HeavyRoutes"), ("HeavyRoutes$Rater", 142, "HeavyRoutes$Bridge", "kept", "LHeavyRoutes$Rating;", "HeavyRoutes"), ("HeavyRoutes", 139, "HeavyRoutes$Bridge", "kept", "LHeavyRoutes$Rating;", "HeavyRoutes"), ("HeavyRoutes$Net", 61, "HeavyRoutes$Bridge", "tooWeak", "Z", "HeavyRoutes"), ("HeavyRoutes$Net", 69, "HeavyRoutes$Bridge", "wantsEscort", "Z", "HeavyRoutes"), ("HeavyRoutes", 29, "HeavyRoutes$Net", "nodeCount", "I", "HeavyRoutes"), ("HeavyRoutes", 33, "HeavyRoutes$Net", "roadCount", "I", "HeavyRoutes"), ("HeavyRoutes$Finder", 91, "HeavyRoutes$Net", "roadCount", "I", "HeavyRoutes"), ("HeavyRoutes", 65, "HeavyRoutes$Net", "bridgeCount", "I", "HeavyRoutes"), ("HeavyRoutes", 52, "HeavyRoutes$Net", "roads", "[LHeavyRoutes$Road;", "HeavyRoutes"), ("HeavyRoutes$Finder", 102, "HeavyRoutes$Net", "roads", "[LHeavyRoutes$Road;", "HeavyRoutes"), ("HeavyRoutes", 74, "HeavyRoutes$Net", "bridges", "[LHeavyRoutes$Bridge;", "HeavyRoutes"), ("HeavyRoutes", 96, "HeavyRoutes$Net", "journey", "LHeavyRoutes$Journey;", "HeavyRoutes"), ("HeavyRoutes$Finder", 112, "HeavyRoutes$Way", "roads", "[I", "HeavyRoutes"), ("HeavyRoutes$Net", 109, "HeavyRoutes$Way", "roads", "[I", "HeavyRoutes"), ("HeavyRoutes", 186, "HeavyRoutes$Way", "roads", "[I", "HeavyRoutes"), ("HeavyRoutes$Finder", 122, "HeavyRoutes$Way", "starts", "[I", "HeavyRoutes"), ("HeavyRoutes", 188, "HeavyRoutes$Way", "starts", "[I", "HeavyRoutes"), ("HeavyRoutes$Finder", 52, "HeavyRoutes$Way", "length", "I", "HeavyRoutes"), ("HeavyRoutes$Net", 104, "HeavyRoutes$Way", "length", "I", "HeavyRoutes"), ("HeavyRoutes", 222, "HeavyRoutes$Way", "length", "I", "HeavyRoutes"), ("HeavyRoutes$Finder", 65, "HeavyRoutes$Way", "end", "I", "HeavyRoutes"), ("HeavyRoutes$Finder", 133, "HeavyRoutes$Way", "bridges", "I", "HeavyRoutes"), ("HeavyRoutes$Finder", 147, "HeavyRoutes$Way", "roadSet", "I", "HeavyRoutes"), ("HeavyRoutes", 197, "HeavyRoutes$Finder", "foundCount", "I", "HeavyRoutes"), ("HeavyRoutes", 209, "HeavyRoutes$Finder", "minute", "I", "HeavyRoutes"), ("HeavyRoutes", 234, "HeavyRoutes$Finder", "wayCount", "I", "HeavyRoutes")]
def q_nM : List (String × Nat × MethodName × String) := [("HeavyRoutes$Net", 25, ⟨"HeavyRoutes$Journey", "<init>", "()V"⟩, "HeavyRoutes"), ("HeavyRoutes$Net", 32, ⟨"HeavyRoutes$Rater", "<init>", "()V"⟩, "HeavyRoutes"), ("HeavyRoutes$Rater", 11, ⟨"HeavyRoutes$Wide", "<init>", "()V"⟩, "HeavyRoutes"), ("HeavyRoutes$Rating", 9, ⟨"HeavyRoutes$Wide", "<init>", "()V"⟩, "HeavyRoutes"), ("HeavyRoutes$Net", 37, ⟨"HeavyRoutes$Road", "<init>", "()V"⟩, "HeavyRoutes"), ("HeavyRoutes$Net", 38, ⟨"HeavyRoutes$Bridge", "<init>", "()V"⟩, "HeavyRoutes"), ("HeavyRoutes$Finder", 17, ⟨"HeavyRoutes$Way", "<init>", "()V"⟩, "HeavyRoutes"), ("HeavyRoutes$Bridge", 34, ⟨"HeavyRoutes", "isWithin", "(JJJ)Z"⟩, "HeavyRoutes"), ("HeavyRoutes$Journey", 30, ⟨"HeavyRoutes", "isWithin", "(JJJ)Z"⟩, "HeavyRoutes")]
def q_si (μ : q_M) (a j : Nat) (v : Int32) : q_M := (fun k i => if k = a ∧ i = j then v else μ.1 k i, μ.2)
def q_sl (μ : q_M) (a j : Nat) (v : Int64) : q_M := (μ.1, fun k i => if k = a ∧ i = j then v else μ.2 k i)
def q_ix (i : Int32) (n : Nat) : Bool := decide (¬ (i < 0 ∨ n ≤ i.toNatClampNeg))
def q_zb (v : Int32) : Bool := decide (v = 0 ∨ v = 1)
def q_gd {α : Type} (b : Bool) (x : Option α) : Option α := if b = true then x else none
def q_bd {α β : Type} (x : Option (α × q_M)) (k : α → q_M → Option β) : Option β := match x with
  | none => none
  | some y => k y.1 y.2
theorem q_gd_some {α : Type} {b : Bool} {x : Option α} {y : α} (h : q_gd b x = some y) : b = true ∧ x = some y := by
  unfold q_gd at h
  by_cases hb : b = true
  · rw [if_pos hb] at h; exact ⟨hb, h⟩
  · rw [if_neg hb] at h; cases h
theorem q_bd_some {α β : Type} {x : Option (α × q_M)} {k : α → q_M → Option β} {y : β} (h : q_bd x k = some y) : ∃ r μ, x = some (r, μ) ∧ k r μ = some y := by
  cases x with
  | none => cases h
  | some z => exact ⟨z.1, z.2, rfl, h⟩
theorem q_kd_out {a : Nat} (h : 165 ≤ a) : q_kd a = 99 := by
  unfold q_kd
  repeat rw [if_neg (by omega)]
theorem q_lt {a : Nat} (h : q_kd a ≤ 16) : a < 165 := by
  rcases Nat.lt_or_ge a 165 with g | g
  · exact g
  · rw [q_kd_out g] at h; omega
theorem q_ws_get {E : q_E} {μ : q_M} {k : Nat} (h : k < 165) : (q_ws E μ)[k]? = some (E.2.2.2 k, q_cl E μ k) := by
  unfold q_ws
  rw [List.getElem?_map, List.getElem?_range h]
  rfl
theorem q_ws_len {E : q_E} {μ : q_M} : (q_ws E μ).length = 165 := by
  unfold q_ws
  rw [List.length_map, List.length_range]
theorem q_ws_set {E : q_E} {μ μ' : q_M} {a : Nat} (h : a < 165) (he : ∀ i, i ≠ a → q_cl E μ' i = q_cl E μ i) : (q_ws E μ).set a (E.2.2.2 a, q_cl E μ' a) = q_ws E μ' := by
  apply List.ext_getElem?
  intro k
  by_cases hk : k < 165
  · by_cases hka : k = a
    · subst hka
      rw [List.getElem?_set_self (by rw [q_ws_len]; exact hk), q_ws_get hk]
    · rw [List.getElem?_set_ne (Ne.symm hka), q_ws_get hk, q_ws_get hk, he k hka]
  · rw [List.getElem?_eq_none (by rw [List.length_set, q_ws_len]; omega), List.getElem?_eq_none (by rw [q_ws_len]; omega)]
theorem q_cl_congr {E : q_E} {μ μ' : q_M} {i : Nat} (h1 : μ'.1 i = μ.1 i) (h2 : μ'.2 i = μ.2 i) : q_cl E μ' i = q_cl E μ i := by
  unfold q_cl q_fl
  rw [h1, h2]
theorem q_si_row {μ : q_M} {a j i : Nat} {v : Int32} (h : i ≠ a) : (q_si μ a j v).1 i = μ.1 i := by
  funext x
  exact if_neg (fun q => h q.1)
theorem q_sl_row {μ : q_M} {a j i : Nat} {v : Int64} (h : i ≠ a) : (q_sl μ a j v).2 i = μ.2 i := by
  funext x
  exact if_neg (fun q => h q.1)
theorem q_cl_o {E : q_E} {μ : q_M} {a c : Nat} (h : q_kd a = c) (hc : c < 11) : q_cl E μ a = .inr (c, q_fl E μ a c) := by
  unfold q_cl
  rw [if_neg (by omega), if_neg (by omega), if_neg (by omega), if_neg (by omega), if_neg (by omega), if_neg (by omega), h]
theorem q_cl_i {E : q_E} {μ : q_M} {a n : Nat} (h : q_kd a = 11) (hn : q_len a = n) : q_cl E μ a = .inl (E.2.2.1 0, n, .inl (μ.1 a)) := by
  unfold q_cl
  rw [if_pos h, hn]
theorem q_cl_l {E : q_E} {μ : q_M} {a n : Nat} (h : q_kd a = 12) (hn : q_len a = n) : q_cl E μ a = .inl (E.2.2.1 1, n, .inr (.inl (μ.2 a))) := by
  unfold q_cl
  rw [if_neg (by omega), if_pos h, hn]
theorem q_cl_z {E : q_E} {μ : q_M} {a n : Nat} (h : q_kd a = 13) (hn : q_len a = n) : q_cl E μ a = .inl (E.2.2.1 2, n, .inl (μ.1 a)) := by
  unfold q_cl
  rw [if_neg (by omega), if_neg (by omega), if_pos h, hn]
theorem q_cl_r {E : q_E} {μ : q_M} {a n t : Nat} (h : q_kd a = 14 + t) (ht : t < 3) (hn : q_len a = n) : q_cl E μ a = .inl (E.2.2.1 (3 + t), n, .inr (.inr (.inr (.inr (fun i => some (E.2.2.2 (q_pt a i))))))) := by
  unfold q_cl
  rcases (show t = 0 ∨ t = 1 ∨ t = 2 by omega) with rfl | rfl | rfl
  · rw [if_neg (by omega), if_neg (by omega), if_neg (by omega), if_pos h, hn]
  · rw [if_neg (by omega), if_neg (by omega), if_neg (by omega), if_neg (by omega), if_pos h, hn]
  · rw [if_neg (by omega), if_neg (by omega), if_neg (by omega), if_neg (by omega), if_neg (by omega), if_pos h, hn]
theorem q_fl_get {E : q_E} {μ : q_M} {a c j : Nat} (hj : j < q_nf c) : (q_fl E μ a c)[j]? = some (q_sv E (q_ft c j) (μ.1 a) (μ.2 a) (q_pt a) j) := by
  unfold q_fl
  rw [List.getElem?_map, List.getElem?_range hj]
  rfl
theorem q_fl_len {E : q_E} {μ : q_M} {a c : Nat} : (q_fl E μ a c).length = q_nf c := by
  unfold q_fl
  rw [List.length_map, List.length_range]
theorem q_fl_si {E : q_E} {μ : q_M} {a c j : Nat} {v : Int32} (hj : j < q_nf c) (ht : q_ft c j = 0) : (q_fl E μ a c).set j (.int v) = q_fl E (q_si μ a j v) a c := by
  apply List.ext_getElem?
  intro k
  by_cases hk : k < q_nf c
  · by_cases hkj : k = j
    · subst hkj
      rw [List.getElem?_set_self (by rw [q_fl_len]; exact hk), q_fl_get hk, ht]
      simp [q_sv, q_si]
    · rw [List.getElem?_set_ne (Ne.symm hkj), q_fl_get hk, q_fl_get hk]
      simp [q_sv, q_si, hkj]
  · rw [List.getElem?_eq_none (by rw [List.length_set, q_fl_len]; omega), List.getElem?_eq_none (by rw [q_fl_len]; omega)]
theorem q_fl_sl {E : q_E} {μ : q_M} {a c j : Nat} {v : Int64} (hj : j < q_nf c) (ht : q_ft c j = 1) : (q_fl E μ a c).set j (.long v) = q_fl E (q_sl μ a j v) a c := by
  apply List.ext_getElem?
  intro k
  by_cases hk : k < q_nf c
  · by_cases hkj : k = j
    · subst hkj
      rw [List.getElem?_set_self (by rw [q_fl_len]; exact hk), q_fl_get hk, ht]
      simp [q_sv, q_sl]
    · rw [List.getElem?_set_ne (Ne.symm hkj), q_fl_get hk, q_fl_get hk]
      simp [q_sv, q_sl, hkj]
  · rw [List.getElem?_eq_none (by rw [List.length_set, q_fl_len]; omega), List.getElem?_eq_none (by rw [q_fl_len]; omega)]
theorem q_pt_kd : ∀ a, a < 165 → ∀ j, j < q_nf (q_kd a) → q_ft (q_kd a) j = 2 → q_kd (q_pt a j) = q_fk (q_kd a) j := by decide +kernel
theorem q_pt_len : ∀ a, a < 165 → ∀ j, j < q_nf (q_kd a) → q_ft (q_kd a) j = 2 → 11 ≤ q_fk (q_kd a) j → q_len (q_pt a j) = q_fn (q_kd a) j := by decide +kernel
theorem q_pk {a c j k : Nat} (h : q_kd a = c) (hc : c < 11) (hj : j < q_nf c) (ht : q_ft c j = 2) (hk : q_fk c j = k) : q_kd (q_pt a j) = k := by
  have := q_pt_kd a (q_lt (by omega)) j (by rw [h]; exact hj) (by rw [h]; exact ht)
  rw [this, h, hk]
theorem q_pl {a c j n : Nat} (h : q_kd a = c) (hc : c < 11) (hj : j < q_nf c) (ht : q_ft c j = 2) (hk : 11 ≤ q_fk c j) (hn : q_fn c j = n) : q_len (q_pt a j) = n := by
  have := q_pt_len a (q_lt (by omega)) j (by rw [h]; exact hj) (by rw [h]; exact ht) (by rw [h]; exact hk)
  rw [this, h, hn]
def q_Nw (U : State) : Prop := (∀ q ∈ q_nF, va_Nw (.fieldLinkNest q.1 q.2.1 q.2.2.1 q.2.2.2.1 q.2.2.2.2.1 q.2.2.2.2.2) U) ∧ ∀ q ∈ q_nM, va_Nw (.methodLinkNest q.1 q.2.1 q.2.2.1 q.2.2.2) U
def q_K (E : q_E) (U : State) : Prop := va_K (q_D E) vwCl (q_ty E) U ∧ q_Nw U
theorem q_K.warm {E : q_E} {s U : State} (hW : s.WarmedH U.vm) (h : q_K E s) : q_K E U := ⟨va_K.moved hW.alike h.1, fun q hq => va_Nw.warmF hW (h.2.1 q hq), fun q hq => va_Nw.warmM hW (h.2.2 q hq)⟩
theorem q_K.calling {E : q_E} {U : State} {g : JFrame} {mk : MethodId} {a : Array Value} (h : q_K E U) : q_K E (U.calling g mk a) := ⟨va_K.moved (u := U) (U := U.calling g mk a) (Vm.Alike.refl U.vm) h.1, fun q hq => va_Nw.same rfl (u := U) (U := U.calling g mk a) rfl (h.2.1 q hq), fun q hq => va_Nw.same rfl (u := U) (U := U.calling g mk a) rfl (h.2.2 q hq)⟩
def q_I (E : q_E) : Prop := ∀ i j, i < 165 → j < 165 → E.2.2.2 i = E.2.2.2 j → i = j
def q_A (E : q_E) : Nat → Prop := fun q => ∃ k, k < 165 ∧ q = E.2.2.2 k
def q_X (E : q_E) (A : Nat → Prop) (s : State) : Prop := q_K E s ∧ q_I E ∧ ∀ k, k < 165 → A (E.2.2.2 k)
def q_S (E : q_E) (A : Nat → Prop) (s : State) (μ : q_M) (H : Heap) (locs : List Loc) : Prop := va_P (q_D E) vwCl (q_ws E μ) H ∧ va_S A s.heap H locs
theorem q_Dd {E : q_E} {A : Nat → Prop} {s : State} {μ : q_M} (F : q_X E A s) : va_D A (q_ws E μ) := by
  have key : ∀ (k : Nat) (q : Nat × va_E), (q_ws E μ)[k]? = some q → k < 165 ∧ q.1 = E.2.2.2 k := by
    intro k q hq
    have hk : k < 165 := by
      have := (List.getElem?_eq_some_iff.mp hq).1
      rw [q_ws_len] at this
      exact this
    rw [q_ws_get hk] at hq
    cases hq
    exact ⟨hk, rfl⟩
  refine ⟨fun i j x y hi hj hxy => ?_, fun k q hq => ?_⟩
  · obtain ⟨h1, h2⟩ := key i x hi
    obtain ⟨h3, h4⟩ := key j y hj
    exact F.2.1 i j h1 h3 (by rw [← h2, ← h4, hxy])
  · obtain ⟨h1, h2⟩ := key k q hq
    rw [h2]
    exact F.2.2 k h1
def q_Pc (E : q_E) (μ : q_M) (vals : List Value) : Array Value → State → Prop := va_Pc vals (fun U => va_P (q_D E) vwCl (q_ws E μ) U.heap ∧ q_K E U)
abbrev q_Qi (E : q_E) (r : Int32) (μ : q_M) : Array Value → State → Outcome → State → Prop := va_Qi (fun x (_ : Unit) => x = r) (fun _ t => va_P (q_D E) vwCl (q_ws E μ) t.heap) (q_A E)
abbrev q_Ql (E : q_E) (r : Int64) (μ : q_M) : Array Value → State → Outcome → State → Prop := va_Ql (fun x (_ : Unit) => x = r) (fun _ t => va_P (q_D E) vwCl (q_ws E μ) t.heap) (q_A E)
abbrev q_Qv (E : q_E) (_ : Unit) (μ : q_M) : Array Value → State → Outcome → State → Prop := va_Qv (fun (_ : Unit) => True) (fun _ t => va_P (q_D E) vwCl (q_ws E μ) t.heap) (q_A E)
abbrev q_Qr (E : q_E) (r : Nat) (μ : q_M) : Array Value → State → Outcome → State → Prop := va_Qr (fun (_ : Unit) => True) (fun _ a t => a = E.2.2.2 r ∧ va_P (q_D E) vwCl (q_ws E μ) t.heap) (q_A E)
theorem q_blind {E : q_E} {μ : q_M} {vals : List Value} : FrameBlind (q_Pc E μ vals) := by
  intro a U g mk h
  obtain ⟨h1, h2, h3⟩ := h
  exact ⟨h1, h2, h3.calling⟩
section QR
variable {p : Program} {l : Launch} {e : Env} {R : Room} {s : State} {m : MethodId} {args : Array Value} {below : List Frame} {meth : Method} {c : Code} {H : Heap} {locs : List Loc} {cells slots : Nat} {Q : State → Prop}
variable {cc : ByteArray} {pc : Nat} {ls : Array Slot} {rest : List Value} {E : q_E} {A : Nat → Prop} {μ : q_M}
theorem q_met {y : MethodName} {ws ws' : List Cond} {rm : Room} {vals : List Value} {Qc : Array Value → State → Outcome → State → Prop} {maxL : Nat} {ret : Option FieldType} (hE : q_I E) (hy : plainName y.cls = true) (hw : ws = Cond.code y cc maxL ret :: ws') (hn : (lg_sl vals).length ≤ maxL)
    (body : ∀ (p : Program) (e : Env) (s : State) (m : MethodId) (below : List Frame) (meth : Method) (c : Code), p.tables.exec = Jvm.exec → c.code = cc → meth.sig.returnType = ret → c.maxLocals = maxL → s.vm.findClass y.cls = some m.cls → (∀ w ∈ ws, w.before vals.toArray s = true) → meth.locks = false → q_X E (q_A E) s → q_S E (q_A E) s μ s.heap [] → ∀ ls : Array Slot, lv_has ls maxL (lv_args 0 vals) → W p l e rm s m vals.toArray below meth c s.heap [] 0 0 (MQ below Qc vals.toArray s 0 0 (q_A E)) (F0 m 0 ls [])) :
    Met l y ws rm (q_Pc E μ vals) Qc 0 0 (q_A E) := by
  refine Met.ofW (cc := cc) (maxL := maxL) (ret := ret) hy hw ?_
  intro p e s m args below meth c s₁ B hml hv
  obtain ⟨rfl, hP, hK⟩ := hv
  have hl := lv_entry vals (n := maxL) hn
  rw [lg_entry_eq]
  exact body p e s m below meth c B.exec B.bytes B.returns hml (findClass_of_methodNamed B.named) (atoms_spec (ws := ws) B.pre) B.notSynchronized ⟨hK, hE, fun k hk => ⟨k, hk, rfl⟩⟩ ⟨hP, va_S.rf⟩ _ hl
theorem q_iret {r v : Int32} {μ' : q_M} (hx : p.tables.exec = Jvm.exec) (hb : c.code = cc) (hr : meth.sig.returnType = some .int) (S : q_S E (q_A E) s μ H locs) (h : some (v, μ) = some (r, μ')) (hlocks : meth.locks = false) (hdg : decode cc pc = .ok (.ireturn, 1)) : W p l e R s m args below meth c H locs cells slots (MQ below (q_Qi E r μ') args s cells slots (q_A E)) (F0 m pc ls [.int v]) := by
  cases h
  exact W.iret hx hb hr (fun t ht hW => ⟨⟨_, (), rfl, rfl, by show va_P _ _ _ t.heap; rw [ht]; exact S.1⟩, S.2.F ht⟩) S.2.2.2 hdg hlocks
theorem q_nz {v : Int32} (h : q_zb v = true) : narrow .boolean (.int v) = .int v := by
  rcases of_decide_eq_true h with rfl | rfl <;> rfl
theorem q_zret {r v : Int32} {μ' : q_M} (hx : p.tables.exec = Jvm.exec) (hb : c.code = cc) (hr : meth.sig.returnType = some .boolean) (S : q_S E (q_A E) s μ H locs) (hz : q_zb v = true) (h : some (v, μ) = some (r, μ')) (hlocks : meth.locks = false) (hdg : decode cc pc = .ok (.ireturn, 1)) : W p l e R s m args below meth c H locs cells slots (MQ below (q_Qi E r μ') args s cells slots (q_A E)) (F0 m pc ls [.int v]) := by
  cases h
  exact W.zret hx hb hr (q_nz hz) (fun t ht hW => ⟨⟨_, (), rfl, rfl, by show va_P _ _ _ t.heap; rw [ht]; exact S.1⟩, S.2.F ht⟩) S.2.2.2 hdg hlocks
theorem q_lret {r v : Int64} {μ' : q_M} (hx : p.tables.exec = Jvm.exec) (hb : c.code = cc) (hr : meth.sig.returnType = some .long) (S : q_S E (q_A E) s μ H locs) (h : some (v, μ) = some (r, μ')) (hlocks : meth.locks = false) (hdg : decode cc pc = .ok (.lreturn, 1)) : W p l e R s m args below meth c H locs cells slots (MQ below (q_Ql E r μ') args s cells slots (q_A E)) (F0 m pc ls [.long v]) := by
  cases h
  exact W.lret hx hb hr (fun t ht hW => ⟨⟨_, (), rfl, rfl, by show va_P _ _ _ t.heap; rw [ht]; exact S.1⟩, S.2.F ht⟩) S.2.2.2 hdg hlocks
theorem q_vret {r v : Unit} {μ' : q_M} (hx : p.tables.exec = Jvm.exec) (hb : c.code = cc) (hr : meth.sig.returnType = none) (S : q_S E (q_A E) s μ H locs) (h : some (v, μ) = some (r, μ')) (hlocks : meth.locks = false) (hdg : decode cc pc = .ok (.return_, 1)) : W p l e R s m args below meth c H locs cells slots (MQ below (q_Qv E r μ') args s cells slots (q_A E)) (F0 m pc ls []) := by
  cases h
  exact W.vret hx hb hr (fun t ht hW => ⟨⟨(), rfl, trivial, by show va_P _ _ _ t.heap; rw [ht]; exact S.1⟩, S.2.F ht⟩) S.2.2.2 hdg hlocks
theorem q_aret {r v : Nat} {μ' : q_M} {rt : FieldType} (hx : p.tables.exec = Jvm.exec) (hb : c.code = cc) (hr : meth.sig.returnType = some rt) (hrt : (∃ n, rt = .object n) ∨ ∃ t, rt = .array t) (S : q_S E (q_A E) s μ H locs) (h : some (v, μ) = some (r, μ')) (hlocks : meth.locks = false) (hdg : decode cc pc = .ok (.areturn, 1)) : W p l e R s m args below meth c H locs cells slots (MQ below (q_Qr E r μ') args s cells slots (q_A E)) (F0 m pc ls [.ref (E.2.2.2 v)]) := by
  cases h
  exact W.aret hx hb hr hrt (Or.inr ⟨_, rfl⟩) (fun t ht hW => ⟨⟨(), _, rfl, trivial, rfl, by rw [ht]; exact S.1⟩, S.2.F ht⟩) S.2.2.2 hdg hlocks
theorem q_geti {own C : String} {T : u_T} {N ci index a j : Nat} {Ts : List Cond} (hx : p.tables.exec = Jvm.exec) (hb : c.code = cc) (hts : ∀ w ∈ Ts, w.before args s = true) (hin : ∀ w ∈ u_ws C T N, w ∈ Ts) (hown : s.vm.findClass own = some m.cls) (F : q_X E A s) (S : q_S E A s μ H locs) (hk : q_kd a = ci) (hci : ci < 11) (hc : vwCl[ci]? = some (C, T, N)) (hj : j < N) (hj2 : j < q_nf ci) (ht : q_ft ci j = 0) (hlink : (Cond.fieldLink own index (T j).1 (T j).2.1 (T j).2.2.1).before args s = true) (hdg : decode cc pc = .ok (.getfield index, 3))
    (kk : W p l e R s m args below meth c H locs cells slots Q (F0 m (pc + 3) ls (.int (μ.1 a j) :: rest))) : W p l e R s m args below meth c H locs cells slots Q (F0 m pc ls (.ref (E.2.2.2 a) :: rest)) :=
  va_get (D := q_D E) hx hb hts hin hown F.1.1 S.1 a ((q_ws_get (q_lt (by omega))).trans (by rw [q_cl_o hk hci])) hc j hj hlink (fun _ h => h) ((q_fl_get hj2).trans (by rw [ht]; rfl)) hdg kk
theorem q_getl {own C : String} {T : u_T} {N ci index a j : Nat} {Ts : List Cond} (hx : p.tables.exec = Jvm.exec) (hb : c.code = cc) (hts : ∀ w ∈ Ts, w.before args s = true) (hin : ∀ w ∈ u_ws C T N, w ∈ Ts) (hown : s.vm.findClass own = some m.cls) (F : q_X E A s) (S : q_S E A s μ H locs) (hk : q_kd a = ci) (hci : ci < 11) (hc : vwCl[ci]? = some (C, T, N)) (hj : j < N) (hj2 : j < q_nf ci) (ht : q_ft ci j = 1) (hlink : (Cond.fieldLink own index (T j).1 (T j).2.1 (T j).2.2.1).before args s = true) (hdg : decode cc pc = .ok (.getfield index, 3))
    (kk : W p l e R s m args below meth c H locs cells slots Q (F0 m (pc + 3) ls (.long (μ.2 a j) :: rest))) : W p l e R s m args below meth c H locs cells slots Q (F0 m pc ls (.ref (E.2.2.2 a) :: rest)) :=
  va_get (D := q_D E) hx hb hts hin hown F.1.1 S.1 a ((q_ws_get (q_lt (by omega))).trans (by rw [q_cl_o hk hci])) hc j hj hlink (fun _ h => h) ((q_fl_get hj2).trans (by rw [ht]; rfl)) hdg kk
theorem q_getr {own C : String} {T : u_T} {N ci index a j b : Nat} {Ts : List Cond} (hx : p.tables.exec = Jvm.exec) (hb : c.code = cc) (hts : ∀ w ∈ Ts, w.before args s = true) (hin : ∀ w ∈ u_ws C T N, w ∈ Ts) (hown : s.vm.findClass own = some m.cls) (F : q_X E A s) (S : q_S E A s μ H locs) (hk : q_kd a = ci) (hci : ci < 11) (hc : vwCl[ci]? = some (C, T, N)) (hj : j < N) (hj2 : j < q_nf ci) (ht : q_ft ci j = 2) (hp : q_pt a j = b) (hlink : (Cond.fieldLink own index (T j).1 (T j).2.1 (T j).2.2.1).before args s = true) (hdg : decode cc pc = .ok (.getfield index, 3))
    (kk : W p l e R s m args below meth c H locs cells slots Q (F0 m (pc + 3) ls (.ref (E.2.2.2 b) :: rest))) : W p l e R s m args below meth c H locs cells slots Q (F0 m pc ls (.ref (E.2.2.2 a) :: rest)) := by
  subst hp
  exact va_get (D := q_D E) hx hb hts hin hown F.1.1 S.1 a ((q_ws_get (q_lt (by omega))).trans (by rw [q_cl_o hk hci])) hc j hj hlink (fun _ h => h) ((q_fl_get hj2).trans (by rw [ht]; rfl)) hdg kk
theorem q_nwF {host own ref nm ds : String} {index : Nat} (F : q_X E A s) (h : (own, index, ref, nm, ds, host) ∈ q_nF) : (Cond.fieldLinkNest own index ref nm ds host).before args s = true := va_Nw.use rfl (F.1.2.1 _ h)
theorem q_getiN {own C host : String} {T : u_T} {N ci index a j : Nat} {Ts : List Cond} (hx : p.tables.exec = Jvm.exec) (hb : c.code = cc) (hts : ∀ w ∈ Ts, w.before args s = true) (hin : ∀ w ∈ u_ws C T N, w ∈ Ts) (hown : s.vm.findClass own = some m.cls) (F : q_X E A s) (S : q_S E A s μ H locs) (hk : q_kd a = ci) (hci : ci < 11) (hc : vwCl[ci]? = some (C, T, N)) (hj : j < N) (hj2 : j < q_nf ci) (ht : q_ft ci j = 0) (hlink : (own, index, (T j).1, (T j).2.1, (T j).2.2.1, host) ∈ q_nF) (hdg : decode cc pc = .ok (.getfield index, 3))
    (kk : W p l e R s m args below meth c H locs cells slots Q (F0 m (pc + 3) ls (.int (μ.1 a j) :: rest))) : W p l e R s m args below meth c H locs cells slots Q (F0 m pc ls (.ref (E.2.2.2 a) :: rest)) :=
  va_getN (D := q_D E) hx hb hts hin hown F.1.1 S.1 a ((q_ws_get (q_lt (by omega))).trans (by rw [q_cl_o hk hci])) hc j hj (q_nwF F hlink) (fun _ h => h) ((q_fl_get hj2).trans (by rw [ht]; rfl)) hdg kk
theorem q_getlN {own C host : String} {T : u_T} {N ci index a j : Nat} {Ts : List Cond} (hx : p.tables.exec = Jvm.exec) (hb : c.code = cc) (hts : ∀ w ∈ Ts, w.before args s = true) (hin : ∀ w ∈ u_ws C T N, w ∈ Ts) (hown : s.vm.findClass own = some m.cls) (F : q_X E A s) (S : q_S E A s μ H locs) (hk : q_kd a = ci) (hci : ci < 11) (hc : vwCl[ci]? = some (C, T, N)) (hj : j < N) (hj2 : j < q_nf ci) (ht : q_ft ci j = 1) (hlink : (own, index, (T j).1, (T j).2.1, (T j).2.2.1, host) ∈ q_nF) (hdg : decode cc pc = .ok (.getfield index, 3))
    (kk : W p l e R s m args below meth c H locs cells slots Q (F0 m (pc + 3) ls (.long (μ.2 a j) :: rest))) : W p l e R s m args below meth c H locs cells slots Q (F0 m pc ls (.ref (E.2.2.2 a) :: rest)) :=
  va_getN (D := q_D E) hx hb hts hin hown F.1.1 S.1 a ((q_ws_get (q_lt (by omega))).trans (by rw [q_cl_o hk hci])) hc j hj (q_nwF F hlink) (fun _ h => h) ((q_fl_get hj2).trans (by rw [ht]; rfl)) hdg kk
theorem q_getrN {own C host : String} {T : u_T} {N ci index a j b : Nat} {Ts : List Cond} (hx : p.tables.exec = Jvm.exec) (hb : c.code = cc) (hts : ∀ w ∈ Ts, w.before args s = true) (hin : ∀ w ∈ u_ws C T N, w ∈ Ts) (hown : s.vm.findClass own = some m.cls) (F : q_X E A s) (S : q_S E A s μ H locs) (hk : q_kd a = ci) (hci : ci < 11) (hc : vwCl[ci]? = some (C, T, N)) (hj : j < N) (hj2 : j < q_nf ci) (ht : q_ft ci j = 2) (hp : q_pt a j = b) (hlink : (own, index, (T j).1, (T j).2.1, (T j).2.2.1, host) ∈ q_nF) (hdg : decode cc pc = .ok (.getfield index, 3))
    (kk : W p l e R s m args below meth c H locs cells slots Q (F0 m (pc + 3) ls (.ref (E.2.2.2 b) :: rest))) : W p l e R s m args below meth c H locs cells slots Q (F0 m pc ls (.ref (E.2.2.2 a) :: rest)) := by
  subst hp
  exact va_getN (D := q_D E) hx hb hts hin hown F.1.1 S.1 a ((q_ws_get (q_lt (by omega))).trans (by rw [q_cl_o hk hci])) hc j hj (q_nwF F hlink) (fun _ h => h) ((q_fl_get hj2).trans (by rw [ht]; rfl)) hdg kk
end QR
theorem q_upd_i {E : q_E} {μ : q_M} {a ci j : Nat} {v : Int32} (hk : q_kd a = ci) (hci : ci < 11) (hj : j < q_nf ci) (ht : q_ft ci j = 0) : (q_ws E μ).set a (E.2.2.2 a, .inr (ci, (q_fl E μ a ci).set j (.int v))) = q_ws E (q_si μ a j v) := by
  rw [q_fl_si hj ht, ← q_cl_o (E := E) (μ := q_si μ a j v) hk hci]
  exact q_ws_set (q_lt (by omega)) (fun i hi => q_cl_congr (q_si_row hi) rfl)
theorem q_upd_l {E : q_E} {μ : q_M} {a ci j : Nat} {v : Int64} (hk : q_kd a = ci) (hci : ci < 11) (hj : j < q_nf ci) (ht : q_ft ci j = 1) : (q_ws E μ).set a (E.2.2.2 a, .inr (ci, (q_fl E μ a ci).set j (.long v))) = q_ws E (q_sl μ a j v) := by
  rw [q_fl_sl hj ht, ← q_cl_o (E := E) (μ := q_sl μ a j v) hk hci]
  exact q_ws_set (q_lt (by omega)) (fun i hi => q_cl_congr rfl (q_sl_row hi))
theorem q_updA {μ : q_M} {a k : Nat} {x : Int32} : upd (μ.1 a) k x = (q_si μ a k x).1 a := by
  funext i
  by_cases h : i = k <;> simp [upd, q_si, h]
theorem q_updAL {μ : q_M} {a k : Nat} {x : Int64} : vp_updL (μ.2 a) k x = (q_sl μ a k x).2 a := by
  funext i
  by_cases h : i = k <;> simp [vp_updL, q_sl, h]
theorem q_upd_ai {E : q_E} {μ : q_M} {a n k : Nat} {x : Int32} (hk : q_kd a = 11) (hn : q_len a = n) : (q_ws E μ).set a (E.2.2.2 a, .inl (E.2.2.1 0, n, .inl (upd (μ.1 a) k x))) = q_ws E (q_si μ a k x) := by
  rw [q_updA, ← q_cl_i (E := E) (μ := q_si μ a k x) hk hn]
  exact q_ws_set (q_lt (by omega)) (fun i hi => q_cl_congr (q_si_row hi) rfl)
theorem q_upd_az {E : q_E} {μ : q_M} {a n k : Nat} {x : Int32} (hk : q_kd a = 13) (hn : q_len a = n) : (q_ws E μ).set a (E.2.2.2 a, .inl (E.2.2.1 2, n, .inl (upd (μ.1 a) k x))) = q_ws E (q_si μ a k x) := by
  rw [q_updA, ← q_cl_z (E := E) (μ := q_si μ a k x) hk hn]
  exact q_ws_set (q_lt (by omega)) (fun i hi => q_cl_congr (q_si_row hi) rfl)
theorem q_upd_al {E : q_E} {μ : q_M} {a n k : Nat} {x : Int64} (hk : q_kd a = 12) (hn : q_len a = n) : (q_ws E μ).set a (E.2.2.2 a, .inl (E.2.2.1 1, n, .inr (.inl (vp_updL (μ.2 a) k x)))) = q_ws E (q_sl μ a k x) := by
  rw [q_updAL, ← q_cl_l (E := E) (μ := q_sl μ a k x) hk hn]
  exact q_ws_set (q_lt (by omega)) (fun i hi => q_cl_congr rfl (q_sl_row hi))
theorem q_fz {v : Int32} (h : q_zb v = true) : fits .boolean (.int v) = true := by
  rcases of_decide_eq_true h with rfl | rfl <;> rfl
theorem q_in {i : Int32} {n : Nat} (h : q_ix i n = true) : vp_in i n := by
  have := of_decide_eq_true h
  exact this
theorem q_narz {v : Int32} (h : q_zb v = true) : vp_nar .boolean v = v := by
  rcases of_decide_eq_true h with rfl | rfl <;> rfl
section QP
variable {p : Program} {l : Launch} {e : Env} {R : Room} {s : State} {m : MethodId} {args : Array Value} {below : List Frame} {meth : Method} {c : Code} {H : Heap} {locs : List Loc} {cells slots : Nat} {Q : State → Prop}
variable {cc : ByteArray} {pc : Nat} {ls : Array Slot} {rest : List Value} {E : q_E} {A : Nat → Prop} {μ : q_M}
theorem q_puti {own C : String} {T : u_T} {N ci index a j : Nat} {Ts : List Cond} {v : Int32} (hx : p.tables.exec = Jvm.exec) (hb : c.code = cc) (hts : ∀ w ∈ Ts, w.before args s = true) (hin : ∀ w ∈ u_ws C T N, w ∈ Ts) (ty0 : Nat → FieldType) (hty : ∀ k, k < N → parseFieldDescriptor (T k).2.2.1 = some (ty0 k)) (hnm : ∀ a, a < N → ∀ b, b < N → a ≠ b → (T a).2.1 ≠ (T b).2.1) (hown : s.vm.findClass own = some m.cls) (F : q_X E A s) (S : q_S E A s μ H locs) (hk : q_kd a = ci) (hci : ci < 11) (hc : vwCl[ci]? = some (C, T, N)) (hj : j < N) (hj2 : j < q_nf ci) (ht : q_ft ci j = 0) (hlink : (Cond.fieldLink own index (T j).1 (T j).2.1 (T j).2.2.1).before args s = true) (hfin : (T j).2.2.2 = false) (hd : parseFieldDescriptor (T j).2.2.1 = some .int) (hdg : decode cc pc = .ok (.putfield index, 3))
    (kk : ∀ (H1 : Heap) (locs1 : List Loc) (μ1 : q_M), μ1 = q_si μ a j v → q_S E A s μ1 H1 locs1 → W p l e R s m args below meth c H1 locs1 cells slots Q (F0 m (pc + 3) ls rest)) : W p l e R s m args below meth c H locs cells slots Q (F0 m pc ls (.int v :: .ref (E.2.2.2 a) :: rest)) := by
  refine va_put (D := q_D E) (ty := .int) hx hb hts hin ty0 hty hnm hown F.1.1 S.1 (q_Dd F) S.2 a ((q_ws_get (q_lt (by omega))).trans (by rw [q_cl_o hk hci])) hc j hj hlink (fun _ h => h) hfin hd rfl rfl (by rw [q_fl_len]; exact hj2) hdg (fun H1 locs1 h1 _ h3 => kk H1 locs1 _ rfl ⟨?_, h3⟩)
  rw [← q_upd_i hk hci hj2 ht]
  exact h1
theorem q_putz {own C : String} {T : u_T} {N ci index a j : Nat} {Ts : List Cond} {v : Int32} (hx : p.tables.exec = Jvm.exec) (hb : c.code = cc) (hts : ∀ w ∈ Ts, w.before args s = true) (hin : ∀ w ∈ u_ws C T N, w ∈ Ts) (ty0 : Nat → FieldType) (hty : ∀ k, k < N → parseFieldDescriptor (T k).2.2.1 = some (ty0 k)) (hnm : ∀ a, a < N → ∀ b, b < N → a ≠ b → (T a).2.1 ≠ (T b).2.1) (hown : s.vm.findClass own = some m.cls) (F : q_X E A s) (S : q_S E A s μ H locs) (hk : q_kd a = ci) (hci : ci < 11) (hc : vwCl[ci]? = some (C, T, N)) (hj : j < N) (hj2 : j < q_nf ci) (ht : q_ft ci j = 0) (hlink : (Cond.fieldLink own index (T j).1 (T j).2.1 (T j).2.2.1).before args s = true) (hfin : (T j).2.2.2 = false) (hd : parseFieldDescriptor (T j).2.2.1 = some .boolean) (hz : q_zb v = true) (hdg : decode cc pc = .ok (.putfield index, 3))
    (kk : ∀ (H1 : Heap) (locs1 : List Loc) (μ1 : q_M), μ1 = q_si μ a j v → q_S E A s μ1 H1 locs1 → W p l e R s m args below meth c H1 locs1 cells slots Q (F0 m (pc + 3) ls rest)) : W p l e R s m args below meth c H locs cells slots Q (F0 m pc ls (.int v :: .ref (E.2.2.2 a) :: rest)) := by
  refine va_put (D := q_D E) (ty := .boolean) hx hb hts hin ty0 hty hnm hown F.1.1 S.1 (q_Dd F) S.2 a ((q_ws_get (q_lt (by omega))).trans (by rw [q_cl_o hk hci])) hc j hj hlink (fun _ h => h) hfin hd (q_nz hz) (q_fz hz) (by rw [q_fl_len]; exact hj2) hdg (fun H1 locs1 h1 _ h3 => kk H1 locs1 _ rfl ⟨?_, h3⟩)
  rw [← q_upd_i hk hci hj2 ht]
  exact h1
theorem q_putl {own C : String} {T : u_T} {N ci index a j : Nat} {Ts : List Cond} {v : Int64} (hx : p.tables.exec = Jvm.exec) (hb : c.code = cc) (hts : ∀ w ∈ Ts, w.before args s = true) (hin : ∀ w ∈ u_ws C T N, w ∈ Ts) (ty0 : Nat → FieldType) (hty : ∀ k, k < N → parseFieldDescriptor (T k).2.2.1 = some (ty0 k)) (hnm : ∀ a, a < N → ∀ b, b < N → a ≠ b → (T a).2.1 ≠ (T b).2.1) (hown : s.vm.findClass own = some m.cls) (F : q_X E A s) (S : q_S E A s μ H locs) (hk : q_kd a = ci) (hci : ci < 11) (hc : vwCl[ci]? = some (C, T, N)) (hj : j < N) (hj2 : j < q_nf ci) (ht : q_ft ci j = 1) (hlink : (Cond.fieldLink own index (T j).1 (T j).2.1 (T j).2.2.1).before args s = true) (hfin : (T j).2.2.2 = false) (hd : parseFieldDescriptor (T j).2.2.1 = some .long) (hdg : decode cc pc = .ok (.putfield index, 3))
    (kk : ∀ (H1 : Heap) (locs1 : List Loc) (μ1 : q_M), μ1 = q_sl μ a j v → q_S E A s μ1 H1 locs1 → W p l e R s m args below meth c H1 locs1 cells slots Q (F0 m (pc + 3) ls rest)) : W p l e R s m args below meth c H locs cells slots Q (F0 m pc ls (.long v :: .ref (E.2.2.2 a) :: rest)) := by
  refine va_put (D := q_D E) (ty := .long) hx hb hts hin ty0 hty hnm hown F.1.1 S.1 (q_Dd F) S.2 a ((q_ws_get (q_lt (by omega))).trans (by rw [q_cl_o hk hci])) hc j hj hlink (fun _ h => h) hfin hd rfl rfl (by rw [q_fl_len]; exact hj2) hdg (fun H1 locs1 h1 _ h3 => kk H1 locs1 _ rfl ⟨?_, h3⟩)
  rw [← q_upd_l hk hci hj2 ht]
  exact h1
theorem q_putiN {own C host : String} {T : u_T} {N ci index a j : Nat} {Ts : List Cond} {v : Int32} (hx : p.tables.exec = Jvm.exec) (hb : c.code = cc) (hts : ∀ w ∈ Ts, w.before args s = true) (hin : ∀ w ∈ u_ws C T N, w ∈ Ts) (ty0 : Nat → FieldType) (hty : ∀ k, k < N → parseFieldDescriptor (T k).2.2.1 = some (ty0 k)) (hnm : ∀ a, a < N → ∀ b, b < N → a ≠ b → (T a).2.1 ≠ (T b).2.1) (hown : s.vm.findClass own = some m.cls) (F : q_X E A s) (S : q_S E A s μ H locs) (hk : q_kd a = ci) (hci : ci < 11) (hc : vwCl[ci]? = some (C, T, N)) (hj : j < N) (hj2 : j < q_nf ci) (ht : q_ft ci j = 0) (hlink : (own, index, (T j).1, (T j).2.1, (T j).2.2.1, host) ∈ q_nF) (hfin : (T j).2.2.2 = false) (hd : parseFieldDescriptor (T j).2.2.1 = some .int) (hdg : decode cc pc = .ok (.putfield index, 3))
    (kk : ∀ (H1 : Heap) (locs1 : List Loc) (μ1 : q_M), μ1 = q_si μ a j v → q_S E A s μ1 H1 locs1 → W p l e R s m args below meth c H1 locs1 cells slots Q (F0 m (pc + 3) ls rest)) : W p l e R s m args below meth c H locs cells slots Q (F0 m pc ls (.int v :: .ref (E.2.2.2 a) :: rest)) := by
  refine va_putN (D := q_D E) (ty := .int) hx hb hts hin ty0 hty hnm hown F.1.1 S.1 (q_Dd F) S.2 a ((q_ws_get (q_lt (by omega))).trans (by rw [q_cl_o hk hci])) hc j hj (q_nwF F hlink) (fun _ h => h) hfin hd rfl rfl (by rw [q_fl_len]; exact hj2) hdg (fun H1 locs1 h1 _ h3 => kk H1 locs1 _ rfl ⟨?_, h3⟩)
  rw [← q_upd_i hk hci hj2 ht]
  exact h1
theorem q_putzN {own C host : String} {T : u_T} {N ci index a j : Nat} {Ts : List Cond} {v : Int32} (hx : p.tables.exec = Jvm.exec) (hb : c.code = cc) (hts : ∀ w ∈ Ts, w.before args s = true) (hin : ∀ w ∈ u_ws C T N, w ∈ Ts) (ty0 : Nat → FieldType) (hty : ∀ k, k < N → parseFieldDescriptor (T k).2.2.1 = some (ty0 k)) (hnm : ∀ a, a < N → ∀ b, b < N → a ≠ b → (T a).2.1 ≠ (T b).2.1) (hown : s.vm.findClass own = some m.cls) (F : q_X E A s) (S : q_S E A s μ H locs) (hk : q_kd a = ci) (hci : ci < 11) (hc : vwCl[ci]? = some (C, T, N)) (hj : j < N) (hj2 : j < q_nf ci) (ht : q_ft ci j = 0) (hlink : (own, index, (T j).1, (T j).2.1, (T j).2.2.1, host) ∈ q_nF) (hfin : (T j).2.2.2 = false) (hd : parseFieldDescriptor (T j).2.2.1 = some .boolean) (hz : q_zb v = true) (hdg : decode cc pc = .ok (.putfield index, 3))
    (kk : ∀ (H1 : Heap) (locs1 : List Loc) (μ1 : q_M), μ1 = q_si μ a j v → q_S E A s μ1 H1 locs1 → W p l e R s m args below meth c H1 locs1 cells slots Q (F0 m (pc + 3) ls rest)) : W p l e R s m args below meth c H locs cells slots Q (F0 m pc ls (.int v :: .ref (E.2.2.2 a) :: rest)) := by
  refine va_putN (D := q_D E) (ty := .boolean) hx hb hts hin ty0 hty hnm hown F.1.1 S.1 (q_Dd F) S.2 a ((q_ws_get (q_lt (by omega))).trans (by rw [q_cl_o hk hci])) hc j hj (q_nwF F hlink) (fun _ h => h) hfin hd (q_nz hz) (q_fz hz) (by rw [q_fl_len]; exact hj2) hdg (fun H1 locs1 h1 _ h3 => kk H1 locs1 _ rfl ⟨?_, h3⟩)
  rw [← q_upd_i hk hci hj2 ht]
  exact h1
theorem q_iald {a n : Nat} {i : Int32} (hx : p.tables.exec = Jvm.exec) (hb : c.code = cc) (F : q_X E A s) (S : q_S E A s μ H locs) (hk : q_kd a = 11) (hn : q_len a = n) (hi : q_ix i n = true) (hdg : decode cc pc = .ok (.iaload, 1))
    (kk : W p l e R s m args below meth c H locs cells slots Q (F0 m (pc + 1) ls (.int (μ.1 a i.toNatClampNeg) :: rest))) : W p l e R s m args below meth c H locs cells slots Q (F0 m pc ls (.int i :: .ref (E.2.2.2 a) :: rest)) :=
  va_iald (D := q_D E) (n := n) (f := μ.1 a) hx hb F.1.1 S.1 a 0 ((q_ws_get (q_lt (by omega))).trans (by rw [q_cl_i hk hn])) rfl (q_in hi) hdg kk
theorem q_zald {a n : Nat} {i : Int32} (hx : p.tables.exec = Jvm.exec) (hb : c.code = cc) (F : q_X E A s) (S : q_S E A s μ H locs) (hk : q_kd a = 13) (hn : q_len a = n) (hi : q_ix i n = true) (hdg : decode cc pc = .ok (.baload, 1))
    (kk : W p l e R s m args below meth c H locs cells slots Q (F0 m (pc + 1) ls (.int (μ.1 a i.toNatClampNeg) :: rest))) : W p l e R s m args below meth c H locs cells slots Q (F0 m pc ls (.int i :: .ref (E.2.2.2 a) :: rest)) :=
  va_zald (D := q_D E) (n := n) (f := μ.1 a) hx hb F.1.1 S.1 a 2 ((q_ws_get (q_lt (by omega))).trans (by rw [q_cl_z hk hn])) rfl (q_in hi) hdg kk
theorem q_lald {a n : Nat} {i : Int32} (hx : p.tables.exec = Jvm.exec) (hb : c.code = cc) (F : q_X E A s) (S : q_S E A s μ H locs) (hk : q_kd a = 12) (hn : q_len a = n) (hi : q_ix i n = true) (hdg : decode cc pc = .ok (.laload, 1))
    (kk : W p l e R s m args below meth c H locs cells slots Q (F0 m (pc + 1) ls (.long (μ.2 a i.toNatClampNeg) :: rest))) : W p l e R s m args below meth c H locs cells slots Q (F0 m pc ls (.int i :: .ref (E.2.2.2 a) :: rest)) :=
  va_lald (D := q_D E) (n := n) (f := μ.2 a) hx hb F.1.1 S.1 a 1 ((q_ws_get (q_lt (by omega))).trans (by rw [q_cl_l hk hn])) rfl (q_in hi) hdg kk
theorem q_rald {a n t b : Nat} {i : Int32} {C : String} (hx : p.tables.exec = Jvm.exec) (hb : c.code = cc) (F : q_X E A s) (S : q_S E A s μ H locs) (hk : q_kd a = 14 + t) (ht : t < 3) (hty : (q_ty E)[3 + t]? = some (E.2.2.1 (3 + t), .object C)) (hn : q_len a = n) (hp : q_pt a i.toNatClampNeg = b) (hi : q_ix i n = true) (hdg : decode cc pc = .ok (.aaload, 1))
    (kk : W p l e R s m args below meth c H locs cells slots Q (F0 m (pc + 1) ls (.ref (E.2.2.2 b) :: rest))) : W p l e R s m args below meth c H locs cells slots Q (F0 m pc ls (.int i :: .ref (E.2.2.2 a) :: rest)) := by
  subst hp
  exact va_aldq (D := q_D E) (n := n) (f := fun i => some (E.2.2.2 (q_pt a i))) hx hb F.1.1 S.1 a (3 + t) ((q_ws_get (q_lt (by omega))).trans (by rw [q_cl_r hk ht hn])) hty (q_in hi) hdg kk
theorem q_iast {a n : Nat} {i x : Int32} (hx : p.tables.exec = Jvm.exec) (hb : c.code = cc) (F : q_X E A s) (S : q_S E A s μ H locs) (hk : q_kd a = 11) (hn : q_len a = n) (hi : q_ix i n = true) (hdg : decode cc pc = .ok (.iastore, 1))
    (kk : ∀ (H1 : Heap) (locs1 : List Loc) (μ1 : q_M), μ1 = q_si μ a i.toNatClampNeg x → q_S E A s μ1 H1 locs1 → W p l e R s m args below meth c H1 locs1 cells slots Q (F0 m (pc + 1) ls rest)) : W p l e R s m args below meth c H locs cells slots Q (F0 m pc ls (.int x :: .int i :: .ref (E.2.2.2 a) :: rest)) := by
  refine va_iast (D := q_D E) (n := n) (f := μ.1 a) hx hb F.1.1 S.1 (q_Dd F) S.2 a 0 ((q_ws_get (q_lt (by omega))).trans (by rw [q_cl_i hk hn])) rfl (q_in hi) hdg (fun H1 locs1 h1 _ h3 => kk H1 locs1 _ rfl ⟨?_, h3⟩)
  rw [← q_upd_ai hk hn]
  exact h1
theorem q_zast {a n : Nat} {i x : Int32} (hx : p.tables.exec = Jvm.exec) (hb : c.code = cc) (F : q_X E A s) (S : q_S E A s μ H locs) (hk : q_kd a = 13) (hn : q_len a = n) (hi : q_ix i n = true) (hz : q_zb x = true) (hdg : decode cc pc = .ok (.bastore, 1))
    (kk : ∀ (H1 : Heap) (locs1 : List Loc) (μ1 : q_M), μ1 = q_si μ a i.toNatClampNeg x → q_S E A s μ1 H1 locs1 → W p l e R s m args below meth c H1 locs1 cells slots Q (F0 m (pc + 1) ls rest)) : W p l e R s m args below meth c H locs cells slots Q (F0 m pc ls (.int x :: .int i :: .ref (E.2.2.2 a) :: rest)) := by
  refine va_zast (D := q_D E) (n := n) (f := μ.1 a) hx hb F.1.1 S.1 (q_Dd F) S.2 a 2 ((q_ws_get (q_lt (by omega))).trans (by rw [q_cl_z hk hn])) rfl (q_in hi) hdg (fun H1 locs1 h1 _ h3 => kk H1 locs1 _ rfl ⟨?_, h3⟩)
  rw [← q_upd_az hk hn]
  rw [q_narz hz] at h1
  exact h1
theorem q_last {a n : Nat} {i : Int32} {x : Int64} (hx : p.tables.exec = Jvm.exec) (hb : c.code = cc) (F : q_X E A s) (S : q_S E A s μ H locs) (hk : q_kd a = 12) (hn : q_len a = n) (hi : q_ix i n = true) (hdg : decode cc pc = .ok (.lastore, 1))
    (kk : ∀ (H1 : Heap) (locs1 : List Loc) (μ1 : q_M), μ1 = q_sl μ a i.toNatClampNeg x → q_S E A s μ1 H1 locs1 → W p l e R s m args below meth c H1 locs1 cells slots Q (F0 m (pc + 1) ls rest)) : W p l e R s m args below meth c H locs cells slots Q (F0 m pc ls (.long x :: .int i :: .ref (E.2.2.2 a) :: rest)) := by
  refine va_last (D := q_D E) (n := n) (f := μ.2 a) hx hb F.1.1 S.1 (q_Dd F) S.2 a 1 ((q_ws_get (q_lt (by omega))).trans (by rw [q_cl_l hk hn])) rfl (q_in hi) hdg (fun H1 locs1 h1 _ h3 => kk H1 locs1 _ rfl ⟨?_, h3⟩)
  rw [← q_upd_al hk hn]
  exact h1
theorem q_alenL {a n : Nat} {v : Int32} (hx : p.tables.exec = Jvm.exec) (hb : c.code = cc) (F : q_X E A s) (S : q_S E A s μ H locs) (hk : q_kd a = 12) (hn : q_len a = n) (hv : Int32.ofNat n = v) (hdg : decode cc pc = .ok (.arraylength, 1))
    (kk : W p l e R s m args below meth c H locs cells slots Q (F0 m (pc + 1) ls (.int v :: rest))) : W p l e R s m args below meth c H locs cells slots Q (F0 m pc ls (.ref (E.2.2.2 a) :: rest)) :=
  va_alen (D := q_D E) hx hb F.1.1 S.1 a 1 ((q_ws_get (q_lt (by omega))).trans (by rw [q_cl_l hk hn])) rfl hv hdg kk
end QP
section QC
variable {p : Program} {l : Launch} {e : Env} {R : Room} {s : State} {m : MethodId} {args : Array Value} {below : List Frame} {meth : Method} {c : Code} {H : Heap} {locs : List Loc} {cells slots : Nat} {Q : State → Prop}
variable {cc : ByteArray} {pc : Nat} {ls : Array Slot} {rest st0 : List Value} {E : q_E} {A : Nat → Prop} {μ : q_M}
theorem q_runV {y : MethodName} {bytes : ByteArray} {maxL nL n index ci N b : Nat} {T : u_T} {ret : Option FieldType} {ws Ts : List Cond} {rm : Room} {Qc : Array Value → State → Outcome → State → Prop} {own C : String} {As : List Value} (S0 : CallFix p m c cc nL s args Ts own) (F : q_X E A s) (S : q_S E A s μ H locs) (hM : Met l y ws rm (q_Pc E μ (.ref (E.2.2.2 b) :: As)) Qc 0 0 (q_A E)) (cw : CallW R s args own C index y bytes maxL ret ws rm 0 0 n) (hk : q_kd b = ci) (hci : ci < 11) (hc : vwCl[ci]? = some (C, T, N)) (hn : As.length = n) (hsz : ls.size = nL) (hst : st0 = As.reverse ++ .ref (E.2.2.2 b) :: rest) (hW : (rest.map fun v => v.category).sum ≤ 8) (hdg : decode cc pc = .ok (.invokevirtual index, 3)) (hf : cells ≤ R.cells ∧ slots ≤ R.slots) : va_Run p l e R s m args below meth c H locs cells slots 0 0 (F0 m pc ls st0) rest (Qc (Value.ref (E.2.2.2 b) :: As).toArray) (q_A E) :=
  va_runV S0 hM cw ⟨q_blind, va_recv F.1.1 S.1 (q0 := b) (ci := ci) (q := (C, T, N)) hc ((q_ws_get (k := b) (q_lt (by omega))).trans (by rw [q_cl_o hk hci])), fun U hU hW => ⟨rfl, by rw [hU]; exact S.1, F.1.warm hW⟩⟩ rfl hn hsz hst (lv_room hW) hdg hf
theorem q_runS {y : MethodName} {bytes : ByteArray} {maxL nL n index : Nat} {ret : Option FieldType} {ws Ts : List Cond} {rm : Room} {Qc : Array Value → State → Outcome → State → Prop} {own : String} {As : List Value} (S0 : CallFix p m c cc nL s args Ts own) (F : q_X E A s) (S : q_S E A s μ H locs) (hM : Met l y ws rm (q_Pc E μ As) Qc 0 0 (q_A E)) (cw : CallB R s args own index y bytes maxL ret ws rm 0 0 n ∧ (Cond.static y).before args s = true) (hn : As.length = n) (hsz : ls.size = nL) (hst : st0 = As.reverse ++ rest) (hW : (rest.map fun v => v.category).sum ≤ 8) (hdg : decode cc pc = .ok (.invokestatic index, 3)) (hf : cells ≤ R.cells ∧ slots ≤ R.slots) : va_Run p l e R s m args below meth c H locs cells slots 0 0 (F0 m pc ls st0) rest (Qc As.toArray) (q_A E) :=
  va_runS S0 hM cw ⟨q_blind, fun U hU hW => ⟨rfl, by rw [hU]; exact S.1, F.1.warm hW⟩⟩ rfl hn hsz hst (lv_room hW) hdg hf
theorem q_nwM {host own : String} {index : Nat} {y : MethodName} (F : q_X E A s) (h : (own, index, y, host) ∈ q_nM) : va_Nw (.methodLinkNest own index y host) s := F.1.2.2 _ h
theorem q_runVN {y : MethodName} {bytes : ByteArray} {maxL nL n index ci N b : Nat} {T : u_T} {ret : Option FieldType} {ws Ts : List Cond} {rm : Room} {Qc : Array Value → State → Outcome → State → Prop} {own C host : String} {As : List Value} (S0 : CallFix p m c cc nL s args Ts own) (F : q_X E A s) (S : q_S E A s μ H locs) (hM : Met l y ws rm (q_Pc E μ (.ref (E.2.2.2 b) :: As)) Qc 0 0 (q_A E)) (cw : va_CN R s args own index y host bytes maxL ret ws rm 0 0 n ∧ (Cond.instanceMethod y).before args s = true ∧ (Cond.selects C y y).before args s = true) (hk : q_kd b = ci) (hci : ci < 11) (hc : vwCl[ci]? = some (C, T, N)) (hn : As.length = n) (hsz : ls.size = nL) (hst : st0 = As.reverse ++ .ref (E.2.2.2 b) :: rest) (hW : (rest.map fun v => v.category).sum ≤ 8) (hdg : decode cc pc = .ok (.invokevirtual index, 3)) (hf : cells ≤ R.cells ∧ slots ≤ R.slots) : va_Run p l e R s m args below meth c H locs cells slots 0 0 (F0 m pc ls st0) rest (Qc (Value.ref (E.2.2.2 b) :: As).toArray) (q_A E) :=
  va_runVN S0 hM cw ⟨q_blind, va_recv F.1.1 S.1 (q0 := b) (ci := ci) (q := (C, T, N)) hc ((q_ws_get (k := b) (q_lt (by omega))).trans (by rw [q_cl_o hk hci])), fun U hU hW => ⟨rfl, by rw [hU]; exact S.1, F.1.warm hW⟩⟩ rfl hn hsz hst (lv_room hW) hdg hf
theorem q_runSN {y : MethodName} {bytes : ByteArray} {maxL nL n index : Nat} {ret : Option FieldType} {ws Ts : List Cond} {rm : Room} {Qc : Array Value → State → Outcome → State → Prop} {own host : String} {As : List Value} (S0 : CallFix p m c cc nL s args Ts own) (F : q_X E A s) (S : q_S E A s μ H locs) (hM : Met l y ws rm (q_Pc E μ As) Qc 0 0 (q_A E)) (cw : va_CN R s args own index y host bytes maxL ret ws rm 0 0 n ∧ (Cond.static y).before args s = true ∧ True) (hn : As.length = n) (hsz : ls.size = nL) (hst : st0 = As.reverse ++ rest) (hW : (rest.map fun v => v.category).sum ≤ 8) (hdg : decode cc pc = .ok (.invokestatic index, 3)) (hf : cells ≤ R.cells ∧ slots ≤ R.slots) : va_Run p l e R s m args below meth c H locs cells slots 0 0 (F0 m pc ls st0) rest (Qc As.toArray) (q_A E) :=
  va_runSN S0 hM cw ⟨q_blind, fun U hU hW => ⟨rfl, by rw [hU]; exact S.1, F.1.warm hW⟩⟩ rfl hn hsz hst (lv_room hW) hdg hf
theorem q_Ain {q : Nat} (F : q_X E A s) (h : q_A E q) : A q := by
  obtain ⟨k, hk, rfl⟩ := h
  exact F.2.2 k hk
theorem q_ki {r : Int32} {μ2 : q_M} {a : Array Value} (F : q_X E A s) (S : q_S E A s μ H locs) (hr : va_Run p l e R s m args below meth c H locs cells slots 0 0 (F0 m pc ls st0) rest (q_Qi E r μ2 a) (q_A E)) (kk : ∀ (H1 : Heap) (locs1 : List Loc), q_S E A s μ2 H1 locs1 → W p l e R s m args below meth c H1 locs1 cells slots Q (F0 m (pc + 3) ls (.int r :: rest))) : W p l e R s m args below meth c H locs cells slots Q (F0 m pc ls st0) := by
  refine va_calli hr S.2 (fun q _ h => q_Ain F h) (fun q h => q_Ain F h) (fun r' u t H1 locs1 ht hvm hw hB hz hk hS => ?_)
  subst hw
  exact kk H1 locs1 ⟨by rw [← ht]; exact hB, hS⟩
theorem q_kl {r : Int64} {μ2 : q_M} {a : Array Value} (F : q_X E A s) (S : q_S E A s μ H locs) (hr : va_Run p l e R s m args below meth c H locs cells slots 0 0 (F0 m pc ls st0) rest (q_Ql E r μ2 a) (q_A E)) (kk : ∀ (H1 : Heap) (locs1 : List Loc), q_S E A s μ2 H1 locs1 → W p l e R s m args below meth c H1 locs1 cells slots Q (F0 m (pc + 3) ls (.long r :: rest))) : W p l e R s m args below meth c H locs cells slots Q (F0 m pc ls st0) := by
  refine va_calll hr S.2 (fun q _ h => q_Ain F h) (fun q h => q_Ain F h) (fun r' u t H1 locs1 ht hvm hw hB hz hk hS => ?_)
  subst hw
  exact kk H1 locs1 ⟨by rw [← ht]; exact hB, hS⟩
theorem q_kv {r : Unit} {μ2 : q_M} {a : Array Value} (F : q_X E A s) (S : q_S E A s μ H locs) (hr : va_Run p l e R s m args below meth c H locs cells slots 0 0 (F0 m pc ls st0) rest (q_Qv E r μ2 a) (q_A E)) (kk : ∀ (H1 : Heap) (locs1 : List Loc), q_S E A s μ2 H1 locs1 → W p l e R s m args below meth c H1 locs1 cells slots Q (F0 m (pc + 3) ls rest)) : W p l e R s m args below meth c H locs cells slots Q (F0 m pc ls st0) := by
  refine va_callv hr S.2 (fun q _ h => q_Ain F h) (fun q h => q_Ain F h) (fun u t H1 locs1 ht hvm hw hB hz hk hS => ?_)
  exact kk H1 locs1 ⟨by rw [← ht]; exact hB, hS⟩
theorem q_kr {r : Nat} {μ2 : q_M} {a : Array Value} (F : q_X E A s) (S : q_S E A s μ H locs) (hr : va_Run p l e R s m args below meth c H locs cells slots 0 0 (F0 m pc ls st0) rest (q_Qr E r μ2 a) (q_A E)) (kk : ∀ (H1 : Heap) (locs1 : List Loc), q_S E A s μ2 H1 locs1 → W p l e R s m args below meth c H1 locs1 cells slots Q (F0 m (pc + 3) ls (.ref (E.2.2.2 r) :: rest))) : W p l e R s m args below meth c H locs cells slots Q (F0 m pc ls st0) := by
  refine va_callr hr S.2 (fun q _ h => q_Ain F h) (fun q h => q_Ain F h) (fun u a t H1 locs1 ht hvm hw hB hz hk hS => ?_)
  obtain ⟨rfl, hB⟩ := hB
  exact kk H1 locs1 ⟨by rw [← ht]; exact hB, hS⟩
end QC
def q_le {α β : Type} (v : α) (k : α → β) : β := k v
theorem q_le_e {α β : Type} {v x : α} {k : α → β} {y : β} (h : q_le v k = y) (e : x = v) : k x = y := by
  subst e
  exact h
theorem q_ip {c : Prop} [Decidable c] {α : Type} {a b y : α} (hc : c) (h : (if c then a else b) = y) : a = y := by
  rw [if_pos hc] at h
  exact h
theorem q_ig {c : Prop} [Decidable c] {α : Type} {a b y : α} (hc : ¬ c) (h : (if c then a else b) = y) : b = y := by
  rw [if_neg hc] at h
  exact h
def q_fu : Nat := 100000000
def q_ri (x y : Int32) : Int32 := x - x / y * y
def q_rl (x y : Int64) : Int64 := x - x / y * y
theorem q_k0 : q_kd 0 = 9 := by decide
theorem q_k1 : q_kd 1 = 3 := by decide
theorem q_k2 : q_kd 2 = 1 := by decide
theorem q_k3 : q_kd 3 = 2 := by decide
theorem q_k4 : q_kd 4 = 4 := by decide
theorem q_k5 : q_kd 5 = 11 := by decide
theorem q_k6 : q_kd 6 = 14 := by decide
theorem q_k7 : q_kd 7 = 15 := by decide
theorem q_k8 : q_kd 8 = 16 := by decide
theorem q_k9 : q_kd 9 = 12 := by decide
theorem q_k10 : q_kd 10 = 12 := by decide
theorem q_k11 : q_kd 11 = 12 := by decide
theorem q_k12 : q_kd 12 = 12 := by decide
theorem q_k13 : q_kd 13 = 12 := by decide
theorem q_k14 : q_kd 14 = 6 := by decide
theorem q_k15 : q_kd 15 = 6 := by decide
theorem q_k16 : q_kd 16 = 6 := by decide
theorem q_k17 : q_kd 17 = 6 := by decide
theorem q_k18 : q_kd 18 = 6 := by decide
theorem q_k19 : q_kd 19 = 6 := by decide
theorem q_k20 : q_kd 20 = 6 := by decide
theorem q_k21 : q_kd 21 = 6 := by decide
theorem q_k22 : q_kd 22 = 6 := by decide
theorem q_k23 : q_kd 23 = 6 := by decide
theorem q_k24 : q_kd 24 = 6 := by decide
theorem q_k25 : q_kd 25 = 6 := by decide
theorem q_k26 : q_kd 26 = 11 := by decide
theorem q_k27 : q_kd 27 = 11 := by decide
theorem q_k28 : q_kd 28 = 11 := by decide
theorem q_k29 : q_kd 29 = 11 := by decide
theorem q_k30 : q_kd 30 = 11 := by decide
theorem q_k31 : q_kd 31 = 11 := by decide
theorem q_k32 : q_kd 32 = 11 := by decide
theorem q_k33 : q_kd 33 = 11 := by decide
theorem q_k34 : q_kd 34 = 11 := by decide
theorem q_k35 : q_kd 35 = 11 := by decide
theorem q_k36 : q_kd 36 = 11 := by decide
theorem q_k37 : q_kd 37 = 11 := by decide
theorem q_k38 : q_kd 38 = 11 := by decide
theorem q_k39 : q_kd 39 = 11 := by decide
theorem q_k40 : q_kd 40 = 11 := by decide
theorem q_k41 : q_kd 41 = 11 := by decide
theorem q_k42 : q_kd 42 = 11 := by decide
theorem q_k43 : q_kd 43 = 11 := by decide
theorem q_k44 : q_kd 44 = 11 := by decide
theorem q_k45 : q_kd 45 = 11 := by decide
theorem q_k46 : q_kd 46 = 11 := by decide
theorem q_k47 : q_kd 47 = 11 := by decide
theorem q_k48 : q_kd 48 = 11 := by decide
theorem q_k49 : q_kd 49 = 11 := by decide
theorem q_k50 : q_kd 50 = 0 := by decide
theorem q_k51 : q_kd 51 = 0 := by decide
theorem q_k52 : q_kd 52 = 0 := by decide
theorem q_k53 : q_kd 53 = 0 := by decide
theorem q_k54 : q_kd 54 = 0 := by decide
theorem q_k55 : q_kd 55 = 0 := by decide
theorem q_k56 : q_kd 56 = 12 := by decide
theorem q_k57 : q_kd 57 = 12 := by decide
theorem q_k58 : q_kd 58 = 12 := by decide
theorem q_k59 : q_kd 59 = 12 := by decide
theorem q_k60 : q_kd 60 = 12 := by decide
theorem q_k61 : q_kd 61 = 12 := by decide
theorem q_k62 : q_kd 62 = 12 := by decide
theorem q_k63 : q_kd 63 = 12 := by decide
theorem q_k64 : q_kd 64 = 12 := by decide
theorem q_k65 : q_kd 65 = 12 := by decide
theorem q_k66 : q_kd 66 = 12 := by decide
theorem q_k67 : q_kd 67 = 12 := by decide
theorem q_k68 : q_kd 68 = 12 := by decide
theorem q_k69 : q_kd 69 = 12 := by decide
theorem q_k70 : q_kd 70 = 12 := by decide
theorem q_k71 : q_kd 71 = 12 := by decide
theorem q_k72 : q_kd 72 = 12 := by decide
theorem q_k73 : q_kd 73 = 12 := by decide
theorem q_k74 : q_kd 74 = 5 := by decide
theorem q_k75 : q_kd 75 = 5 := by decide
theorem q_k76 : q_kd 76 = 5 := by decide
theorem q_k77 : q_kd 77 = 5 := by decide
theorem q_k78 : q_kd 78 = 5 := by decide
theorem q_k79 : q_kd 79 = 5 := by decide
theorem q_k80 : q_kd 80 = 5 := by decide
theorem q_k81 : q_kd 81 = 8 := by decide
theorem q_k82 : q_kd 82 = 8 := by decide
theorem q_k83 : q_kd 83 = 8 := by decide
theorem q_k84 : q_kd 84 = 8 := by decide
theorem q_k85 : q_kd 85 = 8 := by decide
theorem q_k86 : q_kd 86 = 8 := by decide
theorem q_k87 : q_kd 87 = 8 := by decide
theorem q_k88 : q_kd 88 = 8 := by decide
theorem q_k89 : q_kd 89 = 8 := by decide
theorem q_k90 : q_kd 90 = 8 := by decide
theorem q_k91 : q_kd 91 = 8 := by decide
theorem q_k92 : q_kd 92 = 8 := by decide
theorem q_k93 : q_kd 93 = 8 := by decide
theorem q_k94 : q_kd 94 = 8 := by decide
theorem q_k95 : q_kd 95 = 8 := by decide
theorem q_k96 : q_kd 96 = 8 := by decide
theorem q_k97 : q_kd 97 = 12 := by decide
theorem q_k98 : q_kd 98 = 12 := by decide
theorem q_k99 : q_kd 99 = 12 := by decide
theorem q_k100 : q_kd 100 = 12 := by decide
theorem q_k101 : q_kd 101 = 12 := by decide
theorem q_k102 : q_kd 102 = 12 := by decide
theorem q_k103 : q_kd 103 = 12 := by decide
theorem q_k104 : q_kd 104 = 12 := by decide
theorem q_k105 : q_kd 105 = 12 := by decide
theorem q_k106 : q_kd 106 = 12 := by decide
theorem q_k107 : q_kd 107 = 12 := by decide
theorem q_k108 : q_kd 108 = 12 := by decide
theorem q_k109 : q_kd 109 = 12 := by decide
theorem q_k110 : q_kd 110 = 12 := by decide
theorem q_k111 : q_kd 111 = 12 := by decide
theorem q_k112 : q_kd 112 = 12 := by decide
theorem q_k113 : q_kd 113 = 7 := by decide
theorem q_k114 : q_kd 114 = 7 := by decide
theorem q_k115 : q_kd 115 = 7 := by decide
theorem q_k116 : q_kd 116 = 7 := by decide
theorem q_k117 : q_kd 117 = 7 := by decide
theorem q_k118 : q_kd 118 = 7 := by decide
theorem q_k119 : q_kd 119 = 7 := by decide
theorem q_k120 : q_kd 120 = 7 := by decide
theorem q_k121 : q_kd 121 = 11 := by decide
theorem q_k122 : q_kd 122 = 11 := by decide
theorem q_k123 : q_kd 123 = 11 := by decide
theorem q_k124 : q_kd 124 = 11 := by decide
theorem q_k125 : q_kd 125 = 11 := by decide
theorem q_k126 : q_kd 126 = 11 := by decide
theorem q_k127 : q_kd 127 = 11 := by decide
theorem q_k128 : q_kd 128 = 11 := by decide
theorem q_k129 : q_kd 129 = 11 := by decide
theorem q_k130 : q_kd 130 = 11 := by decide
theorem q_k131 : q_kd 131 = 11 := by decide
theorem q_k132 : q_kd 132 = 11 := by decide
theorem q_k133 : q_kd 133 = 11 := by decide
theorem q_k134 : q_kd 134 = 11 := by decide
theorem q_k135 : q_kd 135 = 11 := by decide
theorem q_k136 : q_kd 136 = 11 := by decide
theorem q_k137 : q_kd 137 = 10 := by decide
theorem q_k138 : q_kd 138 = 11 := by decide
theorem q_k139 : q_kd 139 = 11 := by decide
theorem q_k140 : q_kd 140 = 11 := by decide
theorem q_k141 : q_kd 141 = 11 := by decide
theorem q_k142 : q_kd 142 = 11 := by decide
theorem q_k143 : q_kd 143 = 13 := by decide
theorem q_k144 : q_kd 144 = 11 := by decide
theorem q_k145 : q_kd 145 = 11 := by decide
theorem q_k146 : q_kd 146 = 11 := by decide
theorem q_k147 : q_kd 147 = 11 := by decide
theorem q_k148 : q_kd 148 = 13 := by decide
theorem q_k149 : q_kd 149 = 13 := by decide
theorem q_k150 : q_kd 150 = 11 := by decide
theorem q_k151 : q_kd 151 = 11 := by decide
theorem q_k152 : q_kd 152 = 11 := by decide
theorem q_k153 : q_kd 153 = 11 := by decide
theorem q_k154 : q_kd 154 = 11 := by decide
theorem q_k155 : q_kd 155 = 11 := by decide
theorem q_k156 : q_kd 156 = 11 := by decide
theorem q_k157 : q_kd 157 = 11 := by decide
theorem q_k158 : q_kd 158 = 11 := by decide
theorem q_k159 : q_kd 159 = 11 := by decide
theorem q_k160 : q_kd 160 = 13 := by decide
theorem q_k161 : q_kd 161 = 11 := by decide
theorem q_k162 : q_kd 162 = 13 := by decide
theorem q_k163 : q_kd 163 = 11 := by decide
theorem q_k164 : q_kd 164 = 11 := by decide
theorem q_n5 : q_len 5 = 50 := by decide
theorem q_n6 : q_len 6 = 12 := by decide
theorem q_n7 : q_len 7 = 6 := by decide
theorem q_n8 : q_len 8 = 5 := by decide
theorem q_n9 : q_len 9 = 5 := by decide
theorem q_n10 : q_len 10 = 5 := by decide
theorem q_n11 : q_len 11 = 6 := by decide
theorem q_n12 : q_len 12 = 6 := by decide
theorem q_n13 : q_len 13 = 6 := by decide
theorem q_n26 : q_len 26 = 3 := by decide
theorem q_n27 : q_len 27 = 3 := by decide
theorem q_n28 : q_len 28 = 3 := by decide
theorem q_n29 : q_len 29 = 3 := by decide
theorem q_n30 : q_len 30 = 3 := by decide
theorem q_n31 : q_len 31 = 3 := by decide
theorem q_n32 : q_len 32 = 3 := by decide
theorem q_n33 : q_len 33 = 3 := by decide
theorem q_n34 : q_len 34 = 3 := by decide
theorem q_n35 : q_len 35 = 3 := by decide
theorem q_n36 : q_len 36 = 3 := by decide
theorem q_n37 : q_len 37 = 3 := by decide
theorem q_n38 : q_len 38 = 3 := by decide
theorem q_n39 : q_len 39 = 3 := by decide
theorem q_n40 : q_len 40 = 3 := by decide
theorem q_n41 : q_len 41 = 3 := by decide
theorem q_n42 : q_len 42 = 3 := by decide
theorem q_n43 : q_len 43 = 3 := by decide
theorem q_n44 : q_len 44 = 3 := by decide
theorem q_n45 : q_len 45 = 3 := by decide
theorem q_n46 : q_len 46 = 3 := by decide
theorem q_n47 : q_len 47 = 3 := by decide
theorem q_n48 : q_len 48 = 3 := by decide
theorem q_n49 : q_len 49 = 3 := by decide
theorem q_n56 : q_len 56 = 6 := by decide
theorem q_n57 : q_len 57 = 6 := by decide
theorem q_n58 : q_len 58 = 6 := by decide
theorem q_n59 : q_len 59 = 6 := by decide
theorem q_n60 : q_len 60 = 6 := by decide
theorem q_n61 : q_len 61 = 6 := by decide
theorem q_n62 : q_len 62 = 6 := by decide
theorem q_n63 : q_len 63 = 6 := by decide
theorem q_n64 : q_len 64 = 6 := by decide
theorem q_n65 : q_len 65 = 6 := by decide
theorem q_n66 : q_len 66 = 6 := by decide
theorem q_n67 : q_len 67 = 6 := by decide
theorem q_n68 : q_len 68 = 6 := by decide
theorem q_n69 : q_len 69 = 6 := by decide
theorem q_n70 : q_len 70 = 6 := by decide
theorem q_n71 : q_len 71 = 6 := by decide
theorem q_n72 : q_len 72 = 6 := by decide
theorem q_n73 : q_len 73 = 6 := by decide
theorem q_n97 : q_len 97 = 4 := by decide
theorem q_n98 : q_len 98 = 4 := by decide
theorem q_n99 : q_len 99 = 4 := by decide
theorem q_n100 : q_len 100 = 4 := by decide
theorem q_n101 : q_len 101 = 4 := by decide
theorem q_n102 : q_len 102 = 4 := by decide
theorem q_n103 : q_len 103 = 4 := by decide
theorem q_n104 : q_len 104 = 4 := by decide
theorem q_n105 : q_len 105 = 4 := by decide
theorem q_n106 : q_len 106 = 4 := by decide
theorem q_n107 : q_len 107 = 4 := by decide
theorem q_n108 : q_len 108 = 4 := by decide
theorem q_n109 : q_len 109 = 4 := by decide
theorem q_n110 : q_len 110 = 4 := by decide
theorem q_n111 : q_len 111 = 4 := by decide
theorem q_n112 : q_len 112 = 4 := by decide
theorem q_n121 : q_len 121 = 6 := by decide
theorem q_n122 : q_len 122 = 6 := by decide
theorem q_n123 : q_len 123 = 6 := by decide
theorem q_n124 : q_len 124 = 6 := by decide
theorem q_n125 : q_len 125 = 6 := by decide
theorem q_n126 : q_len 126 = 6 := by decide
theorem q_n127 : q_len 127 = 6 := by decide
theorem q_n128 : q_len 128 = 6 := by decide
theorem q_n129 : q_len 129 = 6 := by decide
theorem q_n130 : q_len 130 = 6 := by decide
theorem q_n131 : q_len 131 = 6 := by decide
theorem q_n132 : q_len 132 = 6 := by decide
theorem q_n133 : q_len 133 = 6 := by decide
theorem q_n134 : q_len 134 = 6 := by decide
theorem q_n135 : q_len 135 = 6 := by decide
theorem q_n136 : q_len 136 = 6 := by decide
theorem q_n138 : q_len 138 = 12 := by decide
theorem q_n139 : q_len 139 = 12 := by decide
theorem q_n140 : q_len 140 = 12 := by decide
theorem q_n141 : q_len 141 = 12 := by decide
theorem q_n142 : q_len 142 = 12 := by decide
theorem q_n143 : q_len 143 = 12 := by decide
theorem q_n144 : q_len 144 = 12 := by decide
theorem q_n145 : q_len 145 = 12 := by decide
theorem q_n146 : q_len 146 = 36 := by decide
theorem q_n147 : q_len 147 = 36 := by decide
theorem q_n148 : q_len 148 = 144 := by decide
theorem q_n149 : q_len 149 = 6 := by decide
theorem q_n150 : q_len 150 = 6 := by decide
theorem q_n151 : q_len 151 = 36 := by decide
theorem q_n152 : q_len 152 = 36 := by decide
theorem q_n153 : q_len 153 = 36 := by decide
theorem q_n154 : q_len 154 = 5 := by decide
theorem q_n155 : q_len 155 = 5 := by decide
theorem q_n156 : q_len 156 = 60 := by decide
theorem q_n157 : q_len 157 = 5 := by decide
theorem q_n158 : q_len 158 = 50 := by decide
theorem q_n159 : q_len 159 = 12 := by decide
theorem q_n160 : q_len 160 = 7 := by decide
theorem q_n161 : q_len 161 = 12 := by decide
theorem q_n162 : q_len 162 = 12 := by decide
theorem q_n163 : q_len 163 = 13 := by decide
theorem q_n164 : q_len 164 = 13 := by decide
theorem q_p_6_9 {a : Nat} (h : q_kd a = 6) : q_pt a 9 = a + 12 := by simp [q_pt, h]
theorem q_k_6_9 {a : Nat} (h : q_kd a = 6) : q_kd (a + 12) = 11 := by rw [← q_p_6_9 h]; exact q_pk h (by decide) (by decide) rfl rfl
theorem q_n_6_9 {a : Nat} (h : q_kd a = 6) : q_len (a + 12) = 3 := by rw [← q_p_6_9 h]; exact q_pl h (by decide) (by decide) rfl (by decide) rfl
theorem q_p_6_10 {a : Nat} (h : q_kd a = 6) : q_pt a 10 = a + 24 := by simp [q_pt, h]
theorem q_k_6_10 {a : Nat} (h : q_kd a = 6) : q_kd (a + 24) = 11 := by rw [← q_p_6_10 h]; exact q_pk h (by decide) (by decide) rfl rfl
theorem q_n_6_10 {a : Nat} (h : q_kd a = 6) : q_len (a + 24) = 3 := by rw [← q_p_6_10 h]; exact q_pl h (by decide) (by decide) rfl (by decide) rfl
theorem q_p_0_2 {a : Nat} (h : q_kd a = 0) : q_pt a 2 = a + 6 := by simp [q_pt, h]
theorem q_k_0_2 {a : Nat} (h : q_kd a = 0) : q_kd (a + 6) = 12 := by rw [← q_p_0_2 h]; exact q_pk h (by decide) (by decide) rfl rfl
theorem q_n_0_2 {a : Nat} (h : q_kd a = 0) : q_len (a + 6) = 6 := by rw [← q_p_0_2 h]; exact q_pl h (by decide) (by decide) rfl (by decide) rfl
theorem q_p_0_3 {a : Nat} (h : q_kd a = 0) : q_pt a 3 = a + 12 := by simp [q_pt, h]
theorem q_k_0_3 {a : Nat} (h : q_kd a = 0) : q_kd (a + 12) = 12 := by rw [← q_p_0_3 h]; exact q_pk h (by decide) (by decide) rfl rfl
theorem q_n_0_3 {a : Nat} (h : q_kd a = 0) : q_len (a + 12) = 6 := by rw [← q_p_0_3 h]; exact q_pl h (by decide) (by decide) rfl (by decide) rfl
theorem q_p_0_4 {a : Nat} (h : q_kd a = 0) : q_pt a 4 = a + 18 := by simp [q_pt, h]
theorem q_k_0_4 {a : Nat} (h : q_kd a = 0) : q_kd (a + 18) = 12 := by rw [← q_p_0_4 h]; exact q_pk h (by decide) (by decide) rfl rfl
theorem q_n_0_4 {a : Nat} (h : q_kd a = 0) : q_len (a + 18) = 6 := by rw [← q_p_0_4 h]; exact q_pl h (by decide) (by decide) rfl (by decide) rfl
theorem q_p_0_5 {a : Nat} (h : q_kd a = 0) : q_pt a 5 = a + 24 := by simp [q_pt, h]
theorem q_k_0_5 {a : Nat} (h : q_kd a = 0) : q_kd (a + 24) = 5 := by rw [← q_p_0_5 h]; exact q_pk h (by decide) (by decide) rfl rfl
theorem q_p_5_0 {a : Nat} (h : q_kd a = 5) : q_pt a 0 = a + 7 := by simp [q_pt, h]
theorem q_k_5_0 {a : Nat} (h : q_kd a = 5) : q_kd (a + 7) = 8 := by rw [← q_p_5_0 h]; exact q_pk h (by decide) (by decide) rfl rfl
theorem q_p_5_1 {a : Nat} (h : q_kd a = 5) : q_pt a 1 = a + 14 := by simp [q_pt, h]
theorem q_k_5_1 {a : Nat} (h : q_kd a = 5) : q_kd (a + 14) = 8 := by rw [← q_p_5_1 h]; exact q_pk h (by decide) (by decide) rfl rfl
theorem q_p_8_0 {a : Nat} (h : q_kd a = 8) : q_pt a 0 = a + 16 := by simp [q_pt, h]
theorem q_k_8_0 {a : Nat} (h : q_kd a = 8) : q_kd (a + 16) = 12 := by rw [← q_p_8_0 h]; exact q_pk h (by decide) (by decide) rfl rfl
theorem q_n_8_0 {a : Nat} (h : q_kd a = 8) : q_len (a + 16) = 4 := by rw [← q_p_8_0 h]; exact q_pl h (by decide) (by decide) rfl (by decide) rfl
theorem q_p_7_0 {a : Nat} (h : q_kd a = 7) : q_pt a 0 = a + 8 := by simp [q_pt, h]
theorem q_k_7_0 {a : Nat} (h : q_kd a = 7) : q_kd (a + 8) = 11 := by rw [← q_p_7_0 h]; exact q_pk h (by decide) (by decide) rfl rfl
theorem q_n_7_0 {a : Nat} (h : q_kd a = 7) : q_len (a + 8) = 6 := by rw [← q_p_7_0 h]; exact q_pl h (by decide) (by decide) rfl (by decide) rfl
theorem q_p_7_1 {a : Nat} (h : q_kd a = 7) : q_pt a 1 = a + 16 := by simp [q_pt, h]
theorem q_k_7_1 {a : Nat} (h : q_kd a = 7) : q_kd (a + 16) = 11 := by rw [← q_p_7_1 h]; exact q_pk h (by decide) (by decide) rfl rfl
theorem q_n_7_1 {a : Nat} (h : q_kd a = 7) : q_len (a + 16) = 6 := by rw [← q_p_7_1 h]; exact q_pl h (by decide) (by decide) rfl (by decide) rfl
theorem q_pe14 (i : Nat) : q_pt 6 i = 14 + i := by simp [q_pt, q_k6]
theorem q_ee14 : ∀ i, i < 12 → q_kd (14 + i) = 6 := by decide
theorem q_e14 {i : Int32} (h : q_ix i 12 = true) : q_kd (14 + i.toNatClampNeg) = 6 := q_ee14 _ (Nat.not_le.mp (fun q => of_decide_eq_true h (Or.inr q)))
theorem q_pe15 (i : Nat) : q_pt 7 i = 50 + i := by simp [q_pt, q_k7]
theorem q_ee15 : ∀ i, i < 6 → q_kd (50 + i) = 0 := by decide
theorem q_e15 {i : Int32} (h : q_ix i 6 = true) : q_kd (50 + i.toNatClampNeg) = 0 := q_ee15 _ (Nat.not_le.mp (fun q => of_decide_eq_true h (Or.inr q)))
theorem q_pe16 (i : Nat) : q_pt 8 i = 113 + i := by simp [q_pt, q_k8]
theorem q_ee16 : ∀ i, i < 5 → q_kd (113 + i) = 7 := by decide
theorem q_e16 {i : Int32} (h : q_ix i 5 = true) : q_kd (113 + i.toNatClampNeg) = 7 := q_ee16 _ (Nat.not_le.mp (fun q => of_decide_eq_true h (Or.inr q)))
