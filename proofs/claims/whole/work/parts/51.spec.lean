abbrev y_S : Type := Nat → Nat → Int
def y_up (σ : y_S) (c j : Nat) (v : Int) : y_S := fun c' j' => if c' = c ∧ j' = j then v else σ c' j'
def y_sc (j : Nat) : Nat := ([0, 1, 13, 19, 22, 23, 28, 24, 25, 26, 27, 31] : List Nat).getD j 99
theorem y_sc_inj : ∀ i, i < 12 → ∀ j, j < 12 → y_sc i = y_sc j → i = j := by decide
def y_RM (σ : y_S) (μ : q_M) : Prop := (∀ j, j < 12 → μ.1 137 (y_sc j) = iz (σ 0 j)) ∧ ∀ c, 1 ≤ c → c ≤ 21 → ∀ j, μ.1 (137 + c) j = iz (σ c j)
theorem y_set0 {σ : y_S} {μ : q_M} {j k : Nat} {v : Int} {x : Int32} (h : y_RM σ μ) (hj : j < 12) (hk : y_sc j = k) (hx : x = iz v) : y_RM (y_up σ 0 j v) (q_si μ 137 k x) := by
  subst hk; subst hx
  refine ⟨fun i hi => ?_, fun c h1 h2 i => ?_⟩
  · rw [z_si1]
    by_cases e : i = j
    · subst e; simp [y_up]
    · have : ¬ y_sc i = y_sc j := fun q => e (y_sc_inj i hi j hj q)
      simp [y_up, e, this, h.1 i hi]
  · rw [z_si1, if_neg (by omega), h.2 c h1 h2 i]
    simp [y_up, show ¬ c = 0 by omega]
theorem y_setA {σ : y_S} {μ : q_M} {a c j : Nat} {v : Int} {x : Int32} (h : y_RM σ μ) (h1 : 1 ≤ c) (h2 : c ≤ 21) (ha : 137 + c = a) (hx : x = iz v) : y_RM (y_up σ c j v) (q_si μ a j x) := by
  subst ha; subst hx
  refine ⟨fun i hi => ?_, fun d h3 h4 i => ?_⟩
  · rw [z_si1, if_neg (by omega), h.1 i hi]
    simp [y_up, show ¬ 0 = c by omega]
  · rw [z_si1]
    by_cases e : d = c ∧ i = j
    · obtain ⟨rfl, rfl⟩ := e; simp [y_up]
    · rw [if_neg (by omega), h.2 d h3 h4 i]
      simp [y_up, e]
theorem y_scr {σ : y_S} {μ : q_M} {a i : Nat} {x : Int32} (h : y_RM σ μ) (ha : a = 137 → ∀ j, j < 12 → i ≠ y_sc j) (hb : a < 138 ∨ 158 < a) : y_RM σ (q_si μ a i x) := by
  refine ⟨fun j hj => ?_, fun d h3 h4 j => ?_⟩
  · rw [z_si1, if_neg (fun q => ha q.1.symm j hj q.2.symm), h.1 j hj]
  · rw [z_si1, if_neg (by omega), h.2 d h3 h4 j]
theorem y_scl {σ : y_S} {μ : q_M} {a i : Nat} {x : Int64} (h : y_RM σ μ) : y_RM σ (q_sl μ a i x) := h
def y_Fm (μ μ' : q_M) : Prop := ∀ a, a < 137 → μ'.1 a = μ.1 a ∧ μ'.2 a = μ.2 a
theorem y_Fm.rf {μ : q_M} : y_Fm μ μ := fun _ _ => ⟨rfl, rfl⟩
theorem y_Fm.tr {μ μ1 μ2 : q_M} (h : y_Fm μ μ1) (g : y_Fm μ1 μ2) : y_Fm μ μ2 := fun a ha => ⟨(g a ha).1.trans (h a ha).1, (g a ha).2.trans (h a ha).2⟩
theorem y_Fm.si {μ μ1 : q_M} {a i : Nat} {x : Int32} (h : y_Fm μ μ1) (ha : 137 ≤ a) : y_Fm μ (q_si μ1 a i x) := fun k hk => ⟨(q_si_row (by omega)).trans (h k hk).1, (h k hk).2⟩
theorem y_Fm.sl {μ μ1 : q_M} {a i : Nat} {x : Int64} (h : y_Fm μ μ1) (ha : 137 ≤ a) : y_Fm μ (q_sl μ1 a i x) := fun k hk => ⟨(h k hk).1, (q_sl_row (by omega)).trans (h k hk).2⟩
theorem m_nodes {σ : y_S} {μ : q_M} (h : y_RM σ μ) : μ.1 137 0 = iz (σ 0 0) := h.1 0 (by decide)
theorem m_roads {σ : y_S} {μ : q_M} (h : y_RM σ μ) : μ.1 137 1 = iz (σ 0 1) := h.1 1 (by decide)
theorem m_bridges {σ : y_S} {μ : q_M} (h : y_RM σ μ) : μ.1 137 13 = iz (σ 0 2) := h.1 2 (by decide)
theorem m_axles {σ : y_S} {μ : q_M} (h : y_RM σ μ) : μ.1 137 19 = iz (σ 0 3) := h.1 3 (by decide)
theorem m_height {σ : y_S} {μ : q_M} (h : y_RM σ μ) : μ.1 137 22 = iz (σ 0 4) := h.1 4 (by decide)
theorem m_width {σ : y_S} {μ : q_M} (h : y_RM σ μ) : μ.1 137 23 = iz (σ 0 5) := h.1 5 (by decide)
theorem m_found {σ : y_S} {μ : q_M} (h : y_RM σ μ) : μ.1 137 28 = iz (σ 0 6) := h.1 6 (by decide)
theorem m_isRun {σ : y_S} {μ : q_M} (h : y_RM σ μ) : μ.1 137 24 = iz (σ 0 7) := h.1 7 (by decide)
theorem m_from {σ : y_S} {μ : q_M} (h : y_RM σ μ) : μ.1 137 25 = iz (σ 0 8) := h.1 8 (by decide)
theorem m_to {σ : y_S} {μ : q_M} (h : y_RM σ μ) : μ.1 137 26 = iz (σ 0 9) := h.1 9 (by decide)
theorem m_minute {σ : y_S} {μ : q_M} (h : y_RM σ μ) : μ.1 137 27 = iz (σ 0 10) := h.1 10 (by decide)
theorem m_records {σ : y_S} {μ : q_M} (h : y_RM σ μ) : μ.1 137 31 = iz (σ 0 11) := h.1 11 (by decide)
theorem m_as {σ : y_S} {μ : q_M} (h : y_RM σ μ) (j : Nat) : μ.1 138 j = iz (σ 1 j) := h.2 1 (by decide) (by decide) j
theorem m_bs {σ : y_S} {μ : q_M} (h : y_RM σ μ) (j : Nat) : μ.1 139 j = iz (σ 2 j) := h.2 2 (by decide) (by decide) j
theorem m_minutes {σ : y_S} {μ : q_M} (h : y_RM σ μ) (j : Nat) : μ.1 140 j = iz (σ 3 j) := h.2 3 (by decide) (by decide) j
theorem m_heights {σ : y_S} {μ : q_M} (h : y_RM σ μ) (j : Nat) : μ.1 141 j = iz (σ 4 j) := h.2 4 (by decide) (by decide) j
theorem m_widths {σ : y_S} {μ : q_M} (h : y_RM σ μ) (j : Nat) : μ.1 142 j = iz (σ 5 j) := h.2 5 (by decide) (by decide) j
theorem m_opens {σ : y_S} {μ : q_M} (h : y_RM σ μ) (j : Nat) : μ.1 143 j = iz (σ 6 j) := h.2 6 (by decide) (by decide) j
theorem m_bridgeOf {σ : y_S} {μ : q_M} (h : y_RM σ μ) (j : Nat) : μ.1 144 j = iz (σ 7 j) := h.2 7 (by decide) (by decide) j
theorem m_hourCounts {σ : y_S} {μ : q_M} (h : y_RM σ μ) (j : Nat) : μ.1 145 j = iz (σ 8 j) := h.2 8 (by decide) (by decide) j
theorem m_hourFroms {σ : y_S} {μ : q_M} (h : y_RM σ μ) (j : Nat) : μ.1 146 j = iz (σ 9 j) := h.2 9 (by decide) (by decide) j
theorem m_hourTos {σ : y_S} {μ : q_M} (h : y_RM σ μ) (j : Nat) : μ.1 147 j = iz (σ 10 j) := h.2 10 (by decide) (by decide) j
theorem m_noTurn {σ : y_S} {μ : q_M} (h : y_RM σ μ) (j : Nat) : μ.1 148 j = iz (σ 11 j) := h.2 11 (by decide) (by decide) j
theorem m_isSlow {σ : y_S} {μ : q_M} (h : y_RM σ μ) (j : Nat) : μ.1 149 j = iz (σ 12 j) := h.2 12 (by decide) (by decide) j
theorem m_cornerCounts {σ : y_S} {μ : q_M} (h : y_RM σ μ) (j : Nat) : μ.1 150 j = iz (σ 13 j) := h.2 13 (by decide) (by decide) j
theorem m_places {σ : y_S} {μ : q_M} (h : y_RM σ μ) (j : Nat) : μ.1 151 j = iz (σ 14 j) := h.2 14 (by decide) (by decide) j
theorem m_aboves {σ : y_S} {μ : q_M} (h : y_RM σ μ) (j : Nat) : μ.1 152 j = iz (σ 15 j) := h.2 15 (by decide) (by decide) j
theorem m_belows {σ : y_S} {μ : q_M} (h : y_RM σ μ) (j : Nat) : μ.1 153 j = iz (σ 16 j) := h.2 16 (by decide) (by decide) j
theorem m_offsets {σ : y_S} {μ : q_M} (h : y_RM σ μ) (j : Nat) : μ.1 154 j = iz (σ 17 j) := h.2 17 (by decide) (by decide) j
theorem m_loads {σ : y_S} {μ : q_M} (h : y_RM σ μ) (j : Nat) : μ.1 155 j = iz (σ 18 j) := h.2 18 (by decide) (by decide) j
theorem m_foundRoads {σ : y_S} {μ : q_M} (h : y_RM σ μ) (j : Nat) : μ.1 156 j = iz (σ 19 j) := h.2 19 (by decide) (by decide) j
theorem m_foundSizes {σ : y_S} {μ : q_M} (h : y_RM σ μ) (j : Nat) : μ.1 157 j = iz (σ 20 j) := h.2 20 (by decide) (by decide) j
theorem m_recorded {σ : y_S} {μ : q_M} (h : y_RM σ μ) (j : Nat) : μ.1 158 j = iz (σ 21 j) := h.2 21 (by decide) (by decide) j
theorem k_in (v a b : Int64) (μ : q_M) : f_X10_in v a b μ = some (if a.toInt ≤ v.toInt ∧ v.toInt ≤ b.toInt then 1 else 0, μ) := by
  unfold f_X10_in
  simp only [z_c0, z_c1, Int64.lt_iff_toInt_lt]
  by_cases h1 : v.toInt < a.toInt
  · rw [if_pos h1, if_neg (by omega)]
  · rw [if_neg h1]
    by_cases h2 : b.toInt < v.toInt
    · rw [if_pos h2, if_neg (by omega)]
    · rw [if_neg h2, if_pos (by omega)]
theorem k_within (v a b : Int64) (μ : q_M) : f_X9_isWithin v a b μ = some (if a.toInt ≤ v.toInt ∧ v.toInt ≤ b.toInt then 1 else 0, μ) := by
  unfold f_X9_isWithin
  simp only [z_c0, z_c1, Int64.lt_iff_toInt_lt]
  by_cases h1 : v.toInt < a.toInt
  · rw [if_pos h1, if_neg (by omega)]
  · rw [if_neg h1]
    by_cases h2 : b.toInt < v.toInt
    · rw [if_pos h2, if_neg (by omega)]
    · rw [if_neg h2, if_pos (by omega)]
theorem z_b0 {P : Prop} [Decidable P] : ((if P then (1 : Int32) else 0) = 0) = ¬ P := by
  by_cases h : P <;> simp [h]
theorem z_zb {P : Prop} [Decidable P] : q_zb (if P then (1 : Int32) else 0) = true := by
  by_cases h : P <;> simp [h, q_zb]
theorem z_e32 (x y : Int32) : (x = y) = (x.toInt = y.toInt) := by rw [Int32.toInt_inj]
theorem z_e64 (x y : Int64) : (x = y) = (x.toInt = y.toInt) := by rw [Int64.toInt_inj]
theorem L0 : (0 : Int64).toInt = 0 := rfl
theorem L1 : (1 : Int64).toInt = 1 := rfl
theorem L600 : (600 : Int64).toInt = 600 := rfl
theorem L9999 : (9999 : Int64).toInt = 9999 := rfl
theorem L200 : (200 : Int64).toInt = 200 := rfl
theorem L1439 : (1439 : Int64).toInt = 1439 := rfl
theorem I0 : (0 : Int32).toInt = 0 := rfl
theorem I1 : (1 : Int32).toInt = 1 := rfl
theorem I12 : (12 : Int32).toInt = 12 := rfl
theorem I3 : (3 : Int32).toInt = 3 := rfl
theorem I6 : (6 : Int32).toInt = 6 := rfl
theorem z_s1 (a : Int) : iz a - 1 = iz (a - 1) := z_sub a 1
theorem z_a1 (a : Int) : iz a + 1 = iz (a + 1) := z_add a 1
theorem z_m1 {a : Int} (h1 : -2147483647 ≤ a) (h2 : a < 2147483648) : (iz a - 1).toInt = a - 1 := by
  rw [z_s1, z_toI (by omega) (by omega)]
theorem k_isRoad {σ : y_S} {μ : q_M} (h : y_RM σ μ) (h1 : 0 ≤ σ 0 1) (h2 : σ 0 1 ≤ 12) (x : Int32) : f_X10_isRoad x μ = some (if 0 ≤ x.toInt ∧ x.toInt < σ 0 1 then 1 else 0, μ) := by
  unfold f_X10_isRoad
  have e1 := z_m1 (a := σ 0 1) (by omega) (by omega)
  rw [m_roads h, k_in, z_bd, z_gd z_zb, Int32.toInt_toInt64, Int32.toInt_toInt64, e1, L0]
  by_cases g : 0 ≤ x.toInt ∧ x.toInt < σ 0 1
  · rw [if_pos g, if_pos (by omega)]
  · rw [if_neg g, if_neg (by omega)]
theorem k_isBridge {σ : y_S} {μ : q_M} (h : y_RM σ μ) (h1 : 0 ≤ σ 0 2) (h2 : σ 0 2 ≤ 6) (x : Int32) : f_X10_isBridge x μ = some (if 0 ≤ x.toInt ∧ x.toInt < σ 0 2 then 1 else 0, μ) := by
  unfold f_X10_isBridge
  have e1 := z_m1 (a := σ 0 2) (by omega) (by omega)
  rw [m_bridges h, k_in, z_bd, z_gd z_zb, Int32.toInt_toInt64, Int32.toInt_toInt64, e1, L0]
  by_cases g : 0 ≤ x.toInt ∧ x.toInt < σ 0 2
  · rw [if_pos g, if_pos (by omega)]
  · rw [if_neg g, if_neg (by omega)]
theorem k_forget (μ : q_M) : f_X10_forget μ = some ((), q_si μ 137 28 0) := rfl
def y_W0 (σ : y_S) : Prop := (0 ≤ σ 0 0 ∧ σ 0 0 ≤ 7) ∧ (0 ≤ σ 0 1 ∧ σ 0 1 ≤ 12) ∧ (0 ≤ σ 0 2 ∧ σ 0 2 ≤ 6) ∧ (0 ≤ σ 0 3 ∧ σ 0 3 ≤ 5) ∧ (1 ≤ σ 0 4 ∧ σ 0 4 ≤ 9999) ∧ (1 ≤ σ 0 5 ∧ σ 0 5 ≤ 9999) ∧ (0 ≤ σ 0 6 ∧ σ 0 6 ≤ 5) ∧ (0 ≤ σ 0 7 ∧ σ 0 7 ≤ 1) ∧ (0 ≤ σ 0 8 ∧ σ 0 8 < 7) ∧ (0 ≤ σ 0 9 ∧ σ 0 9 < 7) ∧ (0 ≤ σ 0 10 ∧ σ 0 10 ≤ 10000) ∧ (0 ≤ σ 0 11 ∧ σ 0 11 ≤ 50)
def y_fg (σ : y_S) : y_S := y_up σ 0 6 0
theorem y_fgR {σ : y_S} {μ : q_M} (h : y_RM σ μ) : y_RM (y_fg σ) (q_si μ 137 28 0) := y_set0 h (by decide) rfl rfl
def a_node (σ : y_S) : Int := if σ 0 0 = 7 then -1 else σ 0 0
def n_node (σ : y_S) : y_S := if σ 0 0 = 7 then σ else y_up σ 0 0 (σ 0 0 + 1)
theorem M_node {σ : y_S} {μ : q_M} (h : y_RM σ μ) (w : y_W0 σ) : ∃ μ', f_X10_node μ = some (iz (a_node σ), μ') ∧ y_RM (n_node σ) μ' ∧ y_Fm μ μ' := by
  obtain ⟨w0, -⟩ := w
  unfold f_X10_node a_node n_node
  have e : (iz (σ 0 0) = 7) = (σ 0 0 = 7) := z_eq32 (b := 7) (by omega) (by omega) (by omega) (by omega)
  simp only [m_nodes h, e]
  by_cases g : σ 0 0 = 7
  · rw [if_pos g, if_pos g, if_pos g]
    exact ⟨μ, rfl, h, y_Fm.rf⟩
  · rw [if_neg g, if_neg g, if_neg g, z_le]
    have h2 : y_RM (y_up σ 0 0 (σ 0 0 + 1)) (q_si μ 137 0 (iz (σ 0 0) + 1)) := y_set0 h (by decide) rfl (z_a1 _)
    refine ⟨_, ?_, h2, y_Fm.rf.si (by decide)⟩
    rw [m_nodes h2, z_s1]
    simp [y_up]
def p_road (σ : y_S) (a b m h w : Int) : Prop := (0 ≤ a ∧ a ≤ σ 0 0 - 1) ∧ (0 ≤ b ∧ b ≤ σ 0 0 - 1) ∧ ¬ a = b ∧ (1 ≤ m ∧ m ≤ 600) ∧ (1 ≤ h ∧ h ≤ 9999) ∧ (1 ≤ w ∧ w ≤ 9999) ∧ ¬ σ 0 1 = 12
def n_road (σ : y_S) (a b m h w : Int) : y_S := y_fg (y_up (y_up (y_up (y_up (y_up (y_up (y_up (y_up σ 1 (σ 0 1).toNat a) 2 (σ 0 1).toNat b) 3 (σ 0 1).toNat m) 4 (σ 0 1).toNat h) 5 (σ 0 1).toNat w) 6 (σ 0 1).toNat 1) 7 (σ 0 1).toNat (-2)) 0 1 (σ 0 1 + 1))
theorem M_road {σ : y_S} {μ : q_M} (h : y_RM σ μ) (w : y_W0 σ) (x1 x2 x3 x4 x5 : Int32) : (p_road σ x1.toInt x2.toInt x3.toInt x4.toInt x5.toInt → ∃ μ', f_X10_road x1 x2 x3 x4 x5 μ = some (iz (σ 0 1), μ') ∧ y_RM (n_road σ x1.toInt x2.toInt x3.toInt x4.toInt x5.toInt) μ' ∧ y_Fm μ μ') ∧ (¬ p_road σ x1.toInt x2.toInt x3.toInt x4.toInt x5.toInt → f_X10_road x1 x2 x3 x4 x5 μ = some (-1, μ)) := by
  obtain ⟨w0, w1, -⟩ := w
  have hn : (μ.1 137 0 - 1).toInt = σ 0 0 - 1 := by rw [m_nodes h]; exact z_m1 (by omega) (by omega)
  have hr : (μ.1 137 1 = 12) = (σ 0 1 = 12) := by rw [m_roads h]; exact z_eq32 (b := 12) (by omega) (by omega) (by omega) (by omega)
  have hx : (x1 = x2) = (x1.toInt = x2.toInt) := z_e32 x1 x2
  unfold f_X10_road
  simp only [k_in, z_bd, z_b0, Int32.toInt_toInt64, hn, L0, L1, L600, L9999, hx, hr, ite_not]
  constructor
  · intro hp
    obtain ⟨p1, p2, p3, p4, p5, p6, p7⟩ := hp
    rw [if_pos p1, if_pos p2, if_neg p3, if_pos p4, if_pos p5, if_pos p6, if_neg p7]
    have g : ∀ {α : Type} (x : Option α), q_gd (q_ix (iz (σ 0 1)) 12) x = x := fun x => z_gd (z_ix (by omega) (by omega) (by omega))
    have c : (iz (σ 0 1)).toNatClampNeg = (σ 0 1).toNat := z_cl (by omega) (by omega)
    simp only [z_le, z_si1, Nat.reduceEqDiff, false_and, and_false, and_true, true_and, if_true, if_false, g, c, k_forget, z_bd, m_roads h, z_a1, z_s1, Int.add_sub_cancel]
    refine ⟨_, rfl, ?_, ?_⟩
    · exact y_fgR (y_set0 (y_setA (y_setA (y_setA (y_setA (y_setA (y_setA (y_setA h (by decide) (by decide) rfl (z_iz x1).symm) (by decide) (by decide) rfl (z_iz x2).symm) (by decide) (by decide) rfl (z_iz x3).symm) (by decide) (by decide) rfl (z_iz x4).symm) (by decide) (by decide) rfl (z_iz x5).symm) (by decide) (by decide) rfl rfl) (by decide) (by decide) rfl rfl) (by decide) rfl rfl)
    · exact ((((((((y_Fm.rf.si (by decide)).si (by decide)).si (by decide)).si (by decide)).si (by decide)).si (by decide)).si (by decide)).si (by decide)).si (by decide)
  · intro hp
    by_cases p1 : 0 ≤ x1.toInt ∧ x1.toInt ≤ σ 0 0 - 1
    · rw [if_pos p1]
      by_cases p2 : 0 ≤ x2.toInt ∧ x2.toInt ≤ σ 0 0 - 1
      · rw [if_pos p2]
        by_cases p3 : x1.toInt = x2.toInt
        · rw [if_pos p3]
        · rw [if_neg p3]
          by_cases p4 : 1 ≤ x3.toInt ∧ x3.toInt ≤ 600
          · rw [if_pos p4]
            by_cases p5 : 1 ≤ x4.toInt ∧ x4.toInt ≤ 9999
            · rw [if_pos p5]
              by_cases p6 : 1 ≤ x5.toInt ∧ x5.toInt ≤ 9999
              · rw [if_pos p6]
                by_cases p7 : σ 0 1 = 12
                · rw [if_pos p7]
                · exact absurd ⟨p1, p2, p3, p4, p5, p6, p7⟩ hp
              · rw [if_neg p6]
            · rw [if_neg p5]
          · rw [if_neg p4]
      · rw [if_neg p2]
    · rw [if_neg p1]
