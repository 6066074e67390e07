def y_hd (σ : y_S) : List Nat := if σ 0 6 = 0 then [] else y_fw σ ((σ 0 6).toNat - 1)
def y_WG (σ : y_S) : Prop := ∀ f : Nat, (f : Int) < σ 0 6 → y_Ls σ (y_fw σ f)
theorem y_hd_len {σ : y_S} (w : y_W σ) (wf : y_WF σ) : (y_hd σ).length ≤ 6 := by
  have w6 := w.1.2.2.2.2.2.2.1
  unfold y_hd
  by_cases c : σ 0 6 = 0
  · rw [if_pos c]; simp
  · rw [if_neg c, y_fw_len]
    have := (wf ((σ 0 6).toNat - 1) (by omega)).1
    omega
theorem y_hd_Ls {σ : y_S} (w : y_W σ) (wg : y_WG σ) : y_Ls σ (y_hd σ) := by
  have w6 := w.1.2.2.2.2.2.2.1
  unfold y_hd
  by_cases c : σ 0 6 = 0
  · rw [if_pos c]; exact fun r q => absurd q List.not_mem_nil
  · rw [if_neg c]; exact wg _ (by omega)
theorem K_handSize {σ : y_S} (w : y_W σ) (wf : y_WF σ) {μ : q_M} (h : y_RM σ μ) : f_X10_handSize μ = some (iz ((y_hd σ).length : Int), μ) := by
  have w6 := w.1.2.2.2.2.2.2.1
  unfold f_X10_handSize y_hd
  rw [m_found h, z_if (z_eq0 (by omega) (by omega))]
  by_cases c : σ 0 6 = 0
  · rw [if_pos c, if_pos c]; rfl
  · rw [if_neg c, if_neg c, z_s1, z_gd (z_ix (by omega) (by omega) (by omega)), z_cl (by omega) (by omega), m_foundSizes h, y_fw_len]
    have := (wf ((σ 0 6).toNat - 1) (by omega)).1
    rw [show (σ 0 6 - 1).toNat = (σ 0 6).toNat - 1 by omega, show ((((σ 20 ((σ 0 6).toNat - 1)).toNat : Nat)) : Int) = σ 20 ((σ 0 6).toNat - 1) by omega]
theorem y_hd_pos {σ : y_S} {k : Nat} (hk : k < (y_hd σ).length) : ¬ σ 0 6 = 0 ∧ y_hd σ = y_fw σ ((σ 0 6).toNat - 1) := by
  unfold y_hd at hk ⊢
  by_cases c : σ 0 6 = 0
  · rw [if_pos c] at hk; exact absurd hk (Nat.not_lt_zero _)
  · rw [if_neg c]; exact ⟨c, rfl⟩
theorem y_hd_cell {σ : y_S} (w : y_W σ) (wf : y_WF σ) {μ : q_M} (h : y_RM σ μ) {k : Nat} (hk : k < (y_hd σ).length) : μ.1 156 (12 * ((σ 0 6).toNat - 1) + k) = iz (((y_hd σ).getD k 0 : Nat) : Int) := by
  have w6 := w.1.2.2.2.2.2.2.1
  obtain ⟨c, e⟩ := y_hd_pos hk
  rw [e] at hk ⊢
  exact y_fw_cell wf (by omega) h hk
theorem K_hand {σ : y_S} (w : y_W σ) (wf : y_WF σ) {μ : q_M} (h : y_RM σ μ) {k : Nat} (hk : k < (y_hd σ).length) : f_X10_hand (iz (k : Int)) μ = some (iz (((y_hd σ).getD k 0 : Nat) : Int), μ) := by
  have w6 := w.1.2.2.2.2.2.2.1
  have hl := y_hd_len w wf
  obtain ⟨c, e⟩ := y_hd_pos hk
  have cl : (iz (12 * (σ 0 6 - 1) + (k : Int))).toNatClampNeg = 12 * ((σ 0 6).toNat - 1) + k := by rw [z_cl (by omega) (by omega)]; omega
  unfold f_X10_hand
  rw [m_found h, z_s1, show 12 * iz (σ 0 6 - 1) = iz (12 * (σ 0 6 - 1)) from z_mul 12 _, z_add, z_gd (z_ix (by omega) (by omega) (by omega)), cl, y_hd_cell w wf h hk]
theorem M_road2 {σ : y_S} (w : y_W σ) (wf : y_WF σ) {μ : q_M} (h : y_RM σ μ) (x : Int32) : f_X10_road2 x μ = some (if 0 ≤ x.toInt ∧ x.toInt < (y_hd σ).length then iz (((y_hd σ).getD x.toInt.toNat 0 : Nat) : Int) else -1, μ) := by
  have hl := y_hd_len w wf
  have e1 := z_m1 (a := ((y_hd σ).length : Int)) (by omega) (by omega)
  unfold f_X10_road2
  rw [K_handSize w wf h, z_bd, k_in, z_bd, Int32.toInt_toInt64, Int32.toInt_toInt64, e1, L0]
  by_cases c : 0 ≤ x.toInt ∧ x.toInt < (y_hd σ).length
  · rw [if_pos c, if_pos (show 0 ≤ x.toInt ∧ x.toInt ≤ ((y_hd σ).length : Int) - 1 by omega), if_neg (by decide)]
    have := K_hand w wf h (k := x.toInt.toNat) (by omega)
    rw [show ((x.toInt.toNat : Nat) : Int) = x.toInt by omega, z_iz] at this
    rw [this, z_bd]
  · rw [if_neg c, if_neg (show ¬ (0 ≤ x.toInt ∧ x.toInt ≤ ((y_hd σ).length : Int) - 1) by omega), if_pos rfl]
def a_begun (σ : y_S) (k : Nat) : Int := y_st σ ((y_hd σ).getD k 0) (y_en σ ((y_hd σ).take k) (σ 0 10))
theorem y_gm {p : List Nat} {k : Nat} (h : k < p.length) : p.getD k 0 ∈ p := by
  rw [List.getD_eq_getElem?_getD, List.getElem?_eq_getElem h]
  exact List.getElem_mem _
theorem y_Ls.tk {σ : y_S} {l : List Nat} (h : y_Ls σ l) (k : Nat) : y_Ls σ (l.take k) := fun r q => h r (List.mem_of_mem_take q)
theorem y_gtk {p : List Nat} {k j : Nat} (h : j < k) : (p.take k).getD j 0 = p.getD j 0 := by
  rw [List.getD_eq_getElem?_getD, List.getD_eq_getElem?_getD, List.getElem?_take, if_pos h]
theorem M_begun {σ : y_S} (w : y_W σ) (wf : y_WF σ) (wg : y_WG σ) {μ : q_M} (h : y_RM σ μ) (x : Int32) : f_X10_begun x μ = some (if 0 ≤ x.toInt ∧ x.toInt < (y_hd σ).length then iz (a_begun σ x.toInt.toNat) else -1, μ) := by
  have hl := y_hd_len w wf
  have w6 := w.1.2.2.2.2.2.2.1
  have wm := w.1.2.2.2.2.2.2.2.2.2.2.1
  have e1 := z_m1 (a := ((y_hd σ).length : Int)) (by omega) (by omega)
  unfold f_X10_begun
  rw [K_handSize w wf h, z_bd, k_in, z_bd, Int32.toInt_toInt64, Int32.toInt_toInt64, e1, L0]
  by_cases c : 0 ≤ x.toInt ∧ x.toInt < (y_hd σ).length
  · rw [if_pos c, if_pos (show 0 ≤ x.toInt ∧ x.toInt ≤ ((y_hd σ).length : Int) - 1 by omega), if_neg (by decide)]
    have hk : x.toInt.toNat < (y_hd σ).length := by omega
    have ex : x = iz ((x.toInt.toNat : Nat) : Int) := by rw [show ((x.toInt.toNat : Nat) : Int) = x.toInt by omega, z_iz]
    generalize x.toInt.toNat = k at *
    obtain ⟨c6, -⟩ := y_hd_pos hk
    have hm := y_hd_Ls w wg _ (y_gm hk)
    have lt : ((y_hd σ).take k).length = k := by rw [List.length_take]; omega
    have eb := y_en_b w ((y_hd σ).take k) (σ 0 10) ((y_hd_Ls w wg).tk k)
    have E := K_endOf w h (x1 := 156) (off := 12 * ((σ 0 6).toNat - 1)) ((y_hd σ).take k) (σ 0 10) ((y_hd_Ls w wg).tk k) (by rw [lt, show q_len 156 = 60 from rfl]; omega) (by decide) (by omega) (by omega) (fun j hj => by
      rw [lt] at hj
      rw [y_gtk hj]
      exact y_hd_cell w wf h (by omega))
    rw [lt] at E eb
    rw [ex, K_hand w wf h hk, z_bd, m_found h, m_minute h, z_s1, show 12 * iz (σ 0 6 - 1) = iz (12 * (σ 0 6 - 1)) from z_mul 12 _, show 12 * (σ 0 6 - 1) = ((12 * ((σ 0 6).toNat - 1) : Nat) : Int) by omega, E, z_bd, K_earliest h w.1.2.1.2 w.2.1 _ hm.1 _ (by omega), z_bd]
    rfl
  · rw [if_neg c, if_neg (show ¬ (0 ≤ x.toInt ∧ x.toInt ≤ ((y_hd σ).length : Int) - 1) by omega), if_pos rfl]
def y_pk (P : Nat → Bool) (V : Nat → Int) (k : Int) : List Nat → Int → Int
  | [], _ => -1
  | r :: l, n => if P r = true then (if n = k then V r else y_pk P V k l (n + 1)) else y_pk P V k l n
theorem y_pk_neg (P : Nat → Bool) (V : Nat → Int) {k : Int} (hk : k < 0) : ∀ (l : List Nat) (n : Int), 0 ≤ n → y_pk P V k l n = -1 := by
  intro l
  induction l with
  | nil => intro n _; rfl
  | cons r l ih =>
    intro n hn
    unfold y_pk
    rw [if_neg (show ¬ n = k by omega), ih n hn, ih (n + 1) (by omega), ite_self]
theorem z_ex {a : Int} (h1 : -2147483648 ≤ a) (h2 : a < 2147483648) (x : Int32) : (iz a = x) = (a = x.toInt) := by
  rw [z_e32, z_toI h1 h2]
theorem z_x0 (x : Int32) : (x = 0) = (x.toInt = 0) := z_e32 x 0
def y_bp (σ : y_S) (r : Nat) : Bool := decide (0 < y_why σ r)
theorem K_barl {σ : y_S} (w : y_W σ) (x1 x2 : Int32) : ∀ (d n r : Nat) (c : Int) (μ : q_M), r + d = (σ 0 1).toNat → d < n → y_RM σ μ → 0 ≤ c → c ≤ r → ∃ μ', L_X10_bars_16 x1 x2 (fun μ => some (-1, μ)) n (iz c) (iz (r : Int)) μ = some (iz (y_pk (y_bp σ) (fun r => if x2.toInt = 0 then (r : Int) else y_why σ r) x1.toInt (List.range' r d) c), μ') ∧ y_Sc μ μ' := by
  have w1 := w.1.2.1
  intro d
  induction d with
  | zero =>
    intro n r c μ hr hn h hc hc2
    obtain ⟨n, rfl⟩ : ∃ z, n = z + 1 := ⟨n - 1, by omega⟩
    rw [L_X10_bars_16, m_roads h, z_if (z_le32 (by omega) (by omega) (by omega) (by omega)), if_pos (by omega)]
    exact ⟨μ, rfl, y_Sc.rf⟩
  | succ d ih =>
    intro n r c μ hr hn h hc hc2
    obtain ⟨n, rfl⟩ : ∃ z, n = z + 1 := ⟨n - 1, by omega⟩
    have hr2 : (r : Int) < σ 0 1 := by omega
    have yb := y_why_b σ r
    obtain ⟨μ1, f1, s1⟩ := K_why w hr2 h
    rw [L_X10_bars_16, m_roads h, z_if (z_le32 (by omega) (by omega) (by omega) (by omega)), if_neg (by omega), f1, z_bd, z_if (z_le0 (by omega) (by omega))]
    simp only [z_le, z_a1, List.range'_succ]
    unfold y_pk
    by_cases q1 : y_why σ r ≤ 0
    · rw [if_pos q1, if_neg (by unfold y_bp; simpa using q1)]
      obtain ⟨μ', f, s⟩ := ih n (r + 1) c μ1 (by omega) (by omega) (s1.RM h) hc (by omega)
      exact ⟨μ', f, s1.tr s⟩
    · have hb : y_bp σ r = true := decide_eq_true (by omega)
      rw [if_neg q1, if_pos hb, z_if (z_ex (by omega) (by omega) x1)]
      by_cases q2 : c = x1.toInt
      · rw [if_pos q2, if_pos q2, z_if (z_x0 x2)]
        by_cases q3 : x2.toInt = 0
        · rw [if_pos q3, if_pos q3]; exact ⟨μ1, rfl, s1⟩
        · rw [if_neg q3, if_neg q3]; exact ⟨μ1, rfl, s1⟩
      · rw [if_neg q2, if_neg q2]
        obtain ⟨μ', f, s⟩ := ih n (r + 1) (c + 1) μ1 (by omega) (by omega) (s1.RM h) (by omega) (by omega)
        exact ⟨μ', f, s1.tr s⟩
def a_bars (σ : y_S) (k what : Int) : Int := if 0 ≤ what ∧ what ≤ 1 then y_pk (y_bp σ) (fun r => if what = 0 then (r : Int) else y_why σ r) k (List.range' 0 (σ 0 1).toNat) 0 else -1
theorem M_bars {σ : y_S} (w : y_W σ) {μ : q_M} (h : y_RM σ μ) (x1 x2 : Int32) : ∃ μ', f_X10_bars x1 x2 μ = some (iz (a_bars σ x1.toInt x2.toInt), μ') ∧ y_Sc μ μ' := by
  have w1 := w.1.2.1
  unfold f_X10_bars a_bars
  have e1 : (x2 < 0) = (x2.toInt < 0) := by rw [Int32.lt_iff_toInt_lt]; rfl
  have e2 : (x2 ≤ 1) = (x2.toInt ≤ 1) := by rw [Int32.le_iff_toInt_le]; rfl
  rw [z_if e1, z_if e2]
  by_cases c1 : x2.toInt < 0
  · rw [if_pos c1, if_neg (by omega)]; exact ⟨μ, rfl, y_Sc.rf⟩
  · rw [if_neg c1]
    by_cases c2 : x2.toInt ≤ 1
    · rw [if_pos c2, if_pos (by omega)]
      exact K_barl w x1 x2 (σ 0 1).toNat q_fu 0 0 μ (by omega) (by rw [z_fu]; omega) h (by omega) (by omega)
    · rw [if_neg c2, if_neg (by omega)]; exact ⟨μ, rfl, y_Sc.rf⟩
theorem y_dc {l : List Nat} {i : Nat} (h : i < l.length) : l.drop i = l.getD i 0 :: l.drop (i + 1) := by
  rw [List.getD_eq_getElem?_getD, List.getElem?_eq_getElem h]
  exact List.drop_eq_getElem_cons h
theorem K_escl {σ : y_S} (w : y_W σ) (wf : y_WF σ) (wg : y_WG σ) (x1 : Int32) : ∀ (d n i : Nat) (c : Int) (μ : q_M), i + d = (y_hd σ).length → d < n → y_RM σ μ → 0 ≤ c → c ≤ i → ∃ μ', L_X10_escort_4 x1 (fun μ => some (-1, μ)) n (iz c) (iz (i : Int)) μ = some (iz (y_pk (fun r => decide (y_wes σ r)) (fun r => (r : Int)) x1.toInt ((y_hd σ).drop i) c), μ') ∧ y_Sc μ μ' := by
  have w1 := w.1.2.1
  have hl := y_hd_len w wf
  intro d
  induction d with
  | zero =>
    intro n i c μ hi hn h hc hc2
    obtain ⟨n, rfl⟩ : ∃ z, n = z + 1 := ⟨n - 1, by omega⟩
    rw [L_X10_escort_4, K_handSize w wf h, z_bd, z_if (z_le32 (by omega) (by omega) (by omega) (by omega)), if_pos (by omega), List.drop_of_length_le (by omega)]
    exact ⟨μ, rfl, y_Sc.rf⟩
  | succ d ih =>
    intro n i c μ hi hn h hc hc2
    obtain ⟨n, rfl⟩ : ∃ z, n = z + 1 := ⟨n - 1, by omega⟩
    have hk : i < (y_hd σ).length := by omega
    have hm := y_hd_Ls w wg _ (y_gm hk)
    obtain ⟨μ1, f1, s1⟩ := K_wantsEscort w hm.1 h
    rw [L_X10_escort_4, K_handSize w wf h, z_bd, z_if (z_le32 (by omega) (by omega) (by omega) (by omega)), if_neg (by omega), K_hand w wf h hk, z_bd, f1, z_bd, z_if z_b0, K_hand w wf (s1.RM h) hk, z_bd, y_dc hk]
    simp only [z_le, z_a1]
    unfold y_pk
    by_cases q1 : y_wes σ ((y_hd σ).getD i 0)
    · rw [if_neg (fun q => q q1), if_pos (decide_eq_true q1), z_if (z_ex (by omega) (by omega) x1)]
      by_cases q2 : c = x1.toInt
      · rw [if_pos q2, if_pos q2]; exact ⟨μ1, rfl, s1⟩
      · rw [if_neg q2, if_neg q2]
        obtain ⟨μ', f, s⟩ := ih n (i + 1) (c + 1) μ1 (by omega) (by omega) (s1.RM h) (by omega) (by omega)
        exact ⟨μ', f, s1.tr s⟩
    · rw [if_pos q1, if_neg (by simpa using q1)]
      obtain ⟨μ', f, s⟩ := ih n (i + 1) c μ1 (by omega) (by omega) (s1.RM h) hc (by omega)
      exact ⟨μ', f, s1.tr s⟩
def a_escort (σ : y_S) (k : Int) : Int := y_pk (fun r => decide (y_wes σ r)) (fun r => (r : Int)) k (y_hd σ) 0
theorem M_escort {σ : y_S} (w : y_W σ) (wf : y_WF σ) (wg : y_WG σ) {μ : q_M} (h : y_RM σ μ) (x1 : Int32) : ∃ μ', f_X10_escort x1 μ = some (iz (a_escort σ x1.toInt), μ') ∧ y_Sc μ μ' := by
  have hl := y_hd_len w wf
  unfold f_X10_escort
  have := K_escl w wf wg x1 (y_hd σ).length q_fu 0 0 μ (by omega) (by rw [z_fu]; omega) h (by omega) (by omega)
  rw [List.drop_zero] at this
  exact this
theorem K_notl {σ : y_S} (w : y_W σ) (wf : y_WF σ) (wg : y_WG σ) {μ : q_M} (h : y_RM σ μ) (x1 : Int32) : ∀ (d n i : Nat) (c : Int), i + d = (y_hd σ).length → d < n → 0 ≤ c → c ≤ i → L_X10_notice_4 x1 (fun μ => some (-1, μ)) n (iz c) (iz (i : Int)) μ = some (iz (y_pk (fun r => decide (0 ≤ σ 7 r)) (σ 7) x1.toInt ((y_hd σ).drop i) c), μ) := by
  have w1 := w.1.2.1
  have w2 := w.1.2.2.1
  have hl := y_hd_len w wf
  intro d
  induction d with
  | zero =>
    intro n i c hi hn hc hc2
    obtain ⟨n, rfl⟩ : ∃ z, n = z + 1 := ⟨n - 1, by omega⟩
    rw [L_X10_notice_4, K_handSize w wf h, z_bd, z_if (z_le32 (by omega) (by omega) (by omega) (by omega)), if_pos (by omega), List.drop_of_length_le (by omega)]
    rfl
  | succ d ih =>
    intro n i c hi hn hc hc2
    obtain ⟨n, rfl⟩ : ∃ z, n = z + 1 := ⟨n - 1, by omega⟩
    have hk : i < (y_hd σ).length := by omega
    have hm := y_hd_Ls w wg _ (y_gm hk)
    have g := w.2.1 _ hm.1
    have KH := K_hand w wf h hk
    rw [L_X10_notice_4, K_handSize w wf h, z_bd, z_if (z_le32 (by omega) (by omega) (by omega) (by omega)), if_neg (by omega), KH, z_bd, y_dc hk]
    have hr := hm.1
    generalize (y_hd σ).getD i 0 = r at *
    have g1 : ∀ {α : Type} (y : Option α), q_gd (q_ix (iz (r : Int)) 12) y = y := fun y => z_gd (z_ix (by omega) (by omega) (by omega))
    have cr : (iz (r : Int)).toNatClampNeg = r := by rw [z_cl (by omega) (by omega)]; omega
    rw [g1, cr, m_bridgeOf h, z_if (z_lt0 (by omega) (by omega))]
    simp only [z_le, z_a1, KH, z_bd, g1, cr, m_bridgeOf h]
    unfold y_pk
    by_cases q1 : σ 7 r < 0
    · rw [if_pos q1, if_neg (by simp; omega)]
      exact ih n (i + 1) c (by omega) (by omega) hc (by omega)
    · rw [if_neg q1, if_pos (decide_eq_true (by omega)), z_if (z_ex (by omega) (by omega) x1)]
      by_cases q2 : c = x1.toInt
      · rw [if_pos q2, if_pos q2]
      · rw [if_neg q2, if_neg q2]
        exact ih n (i + 1) (c + 1) (by omega) (by omega) (by omega) (by omega)
def a_notice (σ : y_S) (k : Int) : Int := y_pk (fun r => decide (0 ≤ σ 7 r)) (σ 7) k (y_hd σ) 0
theorem M_notice {σ : y_S} (w : y_W σ) (wf : y_WF σ) (wg : y_WG σ) {μ : q_M} (h : y_RM σ μ) (x1 : Int32) : f_X10_notice x1 μ = some (iz (a_notice σ x1.toInt), μ) := by
  have hl := y_hd_len w wf
  unfold f_X10_notice
  have := K_notl w wf wg h x1 (y_hd σ).length q_fu 0 0 (by omega) (by rw [z_fu]; omega) (by omega) (by omega)
  rw [List.drop_zero] at this
  exact this
