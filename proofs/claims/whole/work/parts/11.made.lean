theorem n_P_iff {D : va_G} {cl : List vw_C} {ws : va_W} {H : Heap} : va_P D cl ws H ↔ ∀ q ∈ ws, va_at D cl q H := by
  constructor
  · intro h q hq
    obtain ⟨i, hi⟩ := List.getElem?_of_mem hq
    exact h i q hi
  · intro h k q hk
    exact h q (List.mem_of_getElem? hk)
theorem n_P_perm {D : va_G} {cl : List vw_C} {ws ws' : va_W} {H : Heap} (hp : ws.Perm ws') (h : va_P D cl ws H) : va_P D cl ws' H := n_P_iff.mpr (fun q hq => n_P_iff.mp h q (hp.mem_iff.mpr hq))
theorem n_D_iff {A : Nat → Prop} {ws : va_W} : va_D A ws ↔ (ws.map (fun q => q.1)).Nodup ∧ ∀ q ∈ ws, A q.1 := by
  constructor
  · intro h
    refine ⟨?_, fun q hq => ?_⟩
    · unfold List.Nodup
      rw [List.pairwise_iff_getElem]
      intro i j hi hj hij he
      have hi' : i < ws.length := by simpa using hi
      have hj' : j < ws.length := by simpa using hj
      have := h.1 i j ws[i] ws[j] (List.getElem?_eq_getElem hi') (List.getElem?_eq_getElem hj') (by simpa using he)
      omega
    · obtain ⟨i, hi⟩ := List.getElem?_of_mem hq
      exact h.2 i q hi
  · intro ⟨h1, h2⟩
    refine ⟨fun i j p q hi hj hpq => ?_, fun k q hk => h2 q (List.mem_of_getElem? hk)⟩
    unfold List.Nodup at h1
    rw [List.pairwise_iff_getElem] at h1
    obtain ⟨hi', ei⟩ := List.getElem?_eq_some_iff.mp hi
    obtain ⟨hj', ej⟩ := List.getElem?_eq_some_iff.mp hj
    rcases Nat.lt_trichotomy i j with g | g | g
    · have h3 := h1 i j (by simpa using hi') (by simpa using hj') g
      rw [List.getElem_map, List.getElem_map, ei, ej] at h3
      exact absurd hpq h3
    · exact g
    · have h3 := h1 j i (by simpa using hj') (by simpa using hi') g
      rw [List.getElem_map, List.getElem_map, ei, ej] at h3
      exact absurd hpq.symm h3
theorem n_D_perm {A : Nat → Prop} {ws ws' : va_W} (hp : ws.Perm ws') (h : va_D A ws) : va_D A ws' := by
  rw [n_D_iff] at h ⊢
  exact ⟨(hp.map (fun q => q.1)).nodup_iff.mp h.1, fun q hq => h.2 q (hp.mem_iff.mpr hq)⟩
theorem n_nd : ∀ (l : List Nat), l.Nodup → va_nd l = true := by
  intro l
  induction l with
  | nil => intro _; rfl
  | cons a l ih =>
    intro h
    rw [List.nodup_cons] at h
    simp [va_nd, h.1, ih h.2]
theorem n_join {A0 : Nat → Prop} {D : va_G} {cl : List vw_C} {x W0 w1 : va_W} {H H1 : Heap} (hP : va_P D cl (x ++ W0) H) (hD : va_D A0 (x ++ W0)) (hk : ∀ q : Nat, q < H.size → ¬ va_A x H.size q → H1[q]? = H[q]?) (hF : ∀ q, va_A x H.size q → A0 q) (hP1 : va_P D cl w1 H1) (hD1 : va_D (va_A x H.size) w1) : va_P D cl (w1 ++ W0) H1 ∧ va_D A0 (w1 ++ W0) := by
  have hC : (List.range x.length).map (fun i => (x ++ W0)[i]?) = x.map some := by
    apply List.ext_getElem?
    intro k
    by_cases hk : k < x.length
    · simp [hk, List.getElem?_append_left]
    · rw [List.getElem?_eq_none (by simp; omega), List.getElem?_eq_none (by simp; omega)]
  have hR : ((List.range W0.length).map (fun i => i + x.length)).map (fun i => (x ++ W0)[i]?) = W0.map some := by
    apply List.ext_getElem?
    intro k
    by_cases hk : k < W0.length
    · simp [hk, List.getElem?_append_right]
    · rw [List.getElem?_eq_none (by simp; omega), List.getElem?_eq_none (by simp; omega)]
  have hnd : va_nd ((List.range W0.length).map (fun i => i + x.length)) = true := by
    apply n_nd
    unfold List.Nodup
    rw [List.pairwise_iff_getElem]
    intro i j hi hj hij
    simp
    omega
  obtain ⟨a, b⟩ := va_join (wr := W0) (wc := x) hP hD (List.range x.length) ((List.range W0.length).map (fun i => i + x.length)) hC hR hnd (by intro i hi; simp at hi ⊢; omega) hk hF hP1 hD1
  exact ⟨n_P_perm List.perm_append_comm a, n_D_perm List.perm_append_comm b⟩
def n_K (E : q_E) (U : State) : Prop := q_K E U ∧ va_AO "HeavyRoutes$Road" U ∧ va_AO "HeavyRoutes$Bridge" U ∧ va_AO "HeavyRoutes$Way" U
theorem n_K.warm {E : q_E} {s U : State} (hW : s.WarmedH U.vm) (h : n_K E s) : n_K E U := ⟨h.1.warm hW, h.2.1.moved hW.alike, h.2.2.1.moved hW.alike, h.2.2.2.moved hW.alike⟩
theorem n_K.calling {E : q_E} {U : State} {g : JFrame} {mk : MethodId} {a : Array Value} (h : n_K E U) : n_K E (U.calling g mk a) := ⟨h.1.calling, va_AO.moved (u := U) (U := U.calling g mk a) (Vm.Alike.refl U.vm) h.2.1, va_AO.moved (u := U) (U := U.calling g mk a) (Vm.Alike.refl U.vm) h.2.2.1, va_AO.moved (u := U) (U := U.calling g mk a) (Vm.Alike.refl U.vm) h.2.2.2⟩
def n_Pc (E : q_E) (vals : List Value) (x : va_W) (sz : Nat) : Array Value → State → Prop := va_Pc vals (fun U => U.heap.size = sz ∧ va_P (q_D E) vwCl x U.heap ∧ n_K E U ∧ va_D (fun _ => True) x)
abbrev n_Qv (E : q_E) (sh : va_W → Prop) (x : va_W) (sz : Nat) : Array Value → State → Outcome → State → Prop := va_Qv sh (fun w t => va_P (q_D E) vwCl w t.heap ∧ va_D (va_A x sz) w) (va_A x sz)
theorem n_blind {E : q_E} {vals : List Value} {x : va_W} {sz : Nat} : FrameBlind (n_Pc E vals x sz) := by
  intro a U g mk h
  obtain ⟨h1, h2, h3, h4, h5⟩ := h
  exact ⟨h1, h2, h3, h4.calling, h5⟩
theorem n_RA {U : State} {c1 c2 : ClassId} {ty : FieldType} (h1 : va_RA U c1 ty) (h2 : va_RA U c2 ty) : c1 = c2 := by
  cases ty with
  | object C =>
    obtain ⟨_, _, _, _, _, e1⟩ := h1
    obtain ⟨_, _, _, _, _, e2⟩ := h2
    exact Option.some.inj (e1.symm.trans e2)
  | _ => exact Option.some.inj (Eq.trans (Eq.symm h1) h2)
section NR
variable {p : Program} {l : Launch} {e : Env} {R : Room} {s : State} {m : MethodId} {args : Array Value} {below : List Frame} {meth : Method} {c : Code} {H : Heap} {locs : List Loc} {cells slots : Nat} {Q : State → Prop}
variable {cc : ByteArray} {pc : Nat} {ls : Array Slot} {rest st0 : List Value} {E : q_E} {A : Nat → Prop} {H0 : Heap} {ws : va_W}
theorem n_met {y : MethodName} {wd wd' : List Cond} {rm : Room} {vals : List Value} {sh : va_W → Prop} {x : va_W} {sz mc ms : Nat} {maxL : Nat} (hy : plainName y.cls = true) (hw : wd = Cond.code y cc maxL none :: wd') (hn : (lg_sl vals).length ≤ maxL)
    (body : ∀ (p : Program) (e : Env) (s : State) (m : MethodId) (below : List Frame) (meth : Method) (c : Code) (A : Nat → Prop), p.tables.exec = Jvm.exec → c.code = cc → meth.sig.returnType = none → c.maxLocals = maxL → s.vm.findClass y.cls = some m.cls → (∀ w ∈ wd, w.before vals.toArray s = true) → meth.locks = false → meth.name = y.name → n_K E s → va_P (q_D E) vwCl x s.heap → va_D A x → va_S A s.heap s.heap [] → (∀ q : Nat, s.heap.size ≤ q → A q) → va_A x sz = A → ∀ ls : Array Slot, lv_has ls maxL (lv_args 0 vals) → W p l e rm s m vals.toArray below meth c s.heap [] 0 0 (MQ below (n_Qv E sh x sz) vals.toArray s mc ms (va_A x sz)) (F0 m 0 ls [])) :
    Met l y wd rm (n_Pc E vals x sz) (n_Qv E sh x sz) mc ms (va_A x sz) := by
  refine Met.ofW (cc := cc) (maxL := maxL) (ret := none) hy hw ?_
  intro p e s m args below meth c s₁ B hml hv
  obtain ⟨rfl, hsz, hP, hK, hD0⟩ := hv
  have hl := lv_entry vals (n := maxL) hn
  rw [lg_entry_eq]
  exact body p e s m below meth c _ B.exec B.bytes B.returns hml (findClass_of_methodNamed B.named) (atoms_spec (ws := wd) B.pre) B.notSynchronized (name_of_methodNamed B.named B.method).1 hK hP hD0.self va_S.rf (fun q h => Or.inr (by rw [← hsz]; exact h)) rfl _ hl
theorem n_vret {sh : va_W → Prop} {x : va_W} {sz : Nat} {wu : va_W} (hx : p.tables.exec = Jvm.exec) (hb : c.code = cc) (hr : meth.sig.returnType = none) (hP : va_P (q_D E) vwCl wu H) (hD : va_D A wu) (hw : sh wu) (hS : va_S A s.heap H locs) (hA : va_A x sz = A) (hlocks : meth.locks = false) (hdg : decode cc pc = .ok (.return_, 1)) : W p l e R s m args below meth c H locs cells slots (MQ below (n_Qv E sh x sz) args s cells slots (va_A x sz)) (F0 m pc ls []) := by
  subst hA
  exact W.vret hx hb hr (fun t ht hW => ⟨⟨wu, rfl, hw, by rw [ht]; exact hP, hD⟩, hS.F ht⟩) hS.2.2 hdg hlocks
theorem n_free {x : va_W} (hD : va_D A (x ++ ws)) (hS : va_S A H0 H locs) (hA : ∀ q : Nat, H0.size ≤ q → A q) : ∀ q, va_A x H.size q → A q := by
  intro q h
  rcases h with ⟨k, e, h⟩ | h
  · exact (n_D_iff.mp hD).2 (q, e) (List.mem_append_left _ (List.mem_of_getElem? h))
  · exact hA q (Nat.le_trans hS.1 h)
theorem n_callI {y : MethodName} {nL mc ms b : Nat} {x : va_W} {wd Ts : List Cond} {rm : Room} {own : String} {As : List Value} {sh : va_W → Prop} (S0 : CallFix p m c cc nL s args Ts own) (hK : n_K E s) (hP : va_P (q_D E) vwCl (x ++ ws) H) (hD : va_D A (x ++ ws)) (hS : va_S A H0 H locs) (hA : ∀ q : Nat, H0.size ≤ q → A q) (hM : Met l y wd rm (n_Pc E (.ref b :: As) x H.size) (n_Qv E sh x H.size) mc ms (va_A x H.size)) (hr : PreS s H (n_Pc E (.ref b :: As) x H.size) (.ref b :: As) → va_Run p l e R s m args below meth c H locs cells slots mc ms (F0 m pc ls st0) rest (n_Qv E sh x H.size (Value.ref b :: As).toArray) (va_A x H.size))
    (kk : ∀ (w : va_W) (H1 : Heap) (locs1 : List Loc), sh w → va_P (q_D E) vwCl (w ++ ws) H1 → va_D A (w ++ ws) → va_S A H0 H1 locs1 → W p l e R s m args below meth c H1 locs1 (cells + mc) (slots + ms) Q (F0 m (pc + 3) ls rest)) : W p l e R s m args below meth c H locs cells slots Q (F0 m pc ls st0) := by
  have hF : ∀ q, va_A x H.size q → A q := n_free hD hS hA
  have hpr : PreS s H (n_Pc E (.ref b :: As) x H.size) (.ref b :: As) := ⟨n_blind, fun U hU hW => ⟨rfl, by rw [hU], by rw [hU]; exact n_P_iff.mpr (fun q hq => n_P_iff.mp hP q (List.mem_append_left _ hq)), hK.warm hW, n_D_iff.mpr ⟨(List.nodup_append.mp (by rw [← List.map_append]; exact (n_D_iff.mp hD).1)).1, fun _ _ => trivial⟩⟩⟩
  refine va_callv (hr hpr) hS (fun q _ h => hF q h) hF (fun u t H1 locs1 ht hvm hw hB hz hk hS1 => ?_)
  obtain ⟨hP1, hD1⟩ := hB
  rw [ht] at hP1
  obtain ⟨a, b⟩ := n_join hP hD hk hF hP1 hD1
  exact kk u H1 locs1 hw a b hS1
theorem n_new {own C : String} {T : u_T} {N ci index : Nat} {Ts : List Cond} {fs : List Value} (hx : p.tables.exec = Jvm.exec) (hb : c.code = cc) (hts : ∀ w ∈ Ts, w.before args s = true) (hin : ∀ w ∈ u_ws C T N, w ∈ Ts) (ty : Nat → FieldType) (hty : ∀ k, k < N → parseFieldDescriptor (T k).2.2.1 = some (ty k)) (hown : s.vm.findClass own = some m.cls) (hcl : (Cond.classLink own index C).before args s = true) (hinst : (Cond.instantiable C N).before args s = true) (hini : (Cond.initialized C).before args s = true) (hK : n_K E s) (hP : va_P (q_D E) vwCl ws H) (hD : va_D A ws) (hS : va_S A H0 H locs) (hA : ∀ q : Nat, H0.size ≤ q → A q) (hc : vwCl[ci]? = some (C, T, N)) (hfs : ∀ j, j < N → defaultValue (ty j) = vp_V fs j) (hcells : cells + 1 ≤ R.cells) (hslots : slots + N ≤ R.slots) (hdg : decode cc pc = .ok (.new index, 3))
    (kk : ∀ (q : Nat) (H1 : Heap), va_P (q_D E) vwCl ((q, .inr (ci, fs)) :: ws) H1 → va_D A ((q, .inr (ci, fs)) :: ws) → va_S A H0 H1 locs → W p l e R s m args below meth c H1 locs (cells + 1) (slots + N) Q (F0 m (pc + 3) ls (.ref q :: rest))) : W p l e R s m args below meth c H locs cells slots Q (F0 m pc ls rest) :=
  va_new hx hb hts hin ty hty hown hcl hinst hini hK.1.1 hP hD hS hA hc hfs hcells hslots hdg (fun q H1 h1 h2 h3 => kk q H1 (n_P_perm (List.perm_append_singleton _ _) h1) (n_D_perm (List.perm_append_singleton _ _) h2) h3)
theorem n_newa {atype : ArrayType} {ty : FieldType} {n : Int32} {N t0 : Nat} {cA : ClassId} {a0 : vp_A} (hx : p.tables.exec = Jvm.exec) (hb : c.code = cc) (harr : (Cond.arrayClass (newarray.typeOf atype)).before args s = true) (hty : newarray.typeOf atype = ty) (hK : n_K E s) (ht0 : (q_ty E)[t0]? = some (cA, ty)) (hP : va_P (q_D E) vwCl ws H) (hD : va_D A ws) (hS : va_S A H0 H locs) (hA : ∀ q : Nat, H0.size ≤ q → A q) (ha : ∀ cA : ClassId, vp_cell cA a0 = arrV cA N (fun _ => defaultValue ty)) (hn : ¬ n < 0) (hN : n.toNatClampNeg = N) (hbytes : N * componentBytes ty ≤ 536870912) (hcells : cells + 1 ≤ R.cells) (hslots : slots + N ≤ R.slots) (hdg : decode cc pc = .ok (.newarray atype, 2))
    (kk : ∀ (q : Nat) (H1 : Heap), va_P (q_D E) vwCl ((q, .inl (cA, a0)) :: ws) H1 → va_D A ((q, .inl (cA, a0)) :: ws) → va_S A H0 H1 locs → W p l e R s m args below meth c H1 locs (cells + 1) (slots + N) Q (F0 m (pc + 2) ls (.ref q :: rest))) : W p l e R s m args below meth c H locs cells slots Q (F0 m pc ls (.int n :: rest)) := by
  refine va_newa hx hb harr hty hK.1.1 hP hD hS hA ha hn hN hbytes hcells hslots hdg (fun q cB H1 h0 h1 h2 h3 => ?_)
  have hB := (h0.2 (q_ty E).length (cB, ty) (by simp)).2
  have hC := (hK.1.1.2 t0 (cA, ty) ht0).2
  have e := n_RA hB hC
  subst e
  exact kk q H1 (n_P_perm (List.perm_append_singleton _ _) h1) (n_D_perm (List.perm_append_singleton _ _) h2) h3
theorem n_newq {own C : String} {index N t0 : Nat} {cA : ClassId} {n : Int32} (hx : p.tables.exec = Jvm.exec) (hb : c.code = cc) (hown : s.vm.findClass own = some m.cls) (hcl : (Cond.classLink own index C).before args s = true) (hov : va_AO C s) (hK : n_K E s) (ht0 : (q_ty E)[t0]? = some (cA, .object C)) (hP : va_P (q_D E) vwCl ws H) (hD : va_D A ws) (hS : va_S A H0 H locs) (hA : ∀ q : Nat, H0.size ≤ q → A q) (hn : ¬ n < 0) (hN : n.toNatClampNeg = N) (hbytes : N * 4 ≤ 536870912) (hcells : cells + 1 ≤ R.cells) (hslots : slots + N ≤ R.slots) (hdg : decode cc pc = .ok (.anewarray index, 3))
    (kk : ∀ (q : Nat) (H1 : Heap), va_P (q_D E) vwCl ((q, .inl (cA, N, .inr (.inr (.inr (.inr (fun _ => none)))))) :: ws) H1 → va_D A ((q, .inl (cA, N, .inr (.inr (.inr (.inr (fun _ => none)))))) :: ws) → va_S A H0 H1 locs → W p l e R s m args below meth c H1 locs (cells + 1) (slots + N) Q (F0 m (pc + 3) ls (.ref q :: rest))) : W p l e R s m args below meth c H locs cells slots Q (F0 m pc ls (.int n :: rest)) := by
  refine va_newq hx hb hown hcl hov hK.1.1 hP hD hS hA hn hN hbytes hcells hslots hdg (fun q cB H1 h0 h1 h2 h3 => ?_)
  have hB := (h0.2 (q_ty E).length (cB, .object C) (by simp)).2
  have hC := (hK.1.1.2 t0 (cA, .object C) ht0).2
  have e := n_RA hB hC
  subst e
  exact kk q H1 (n_P_perm (List.perm_append_singleton _ _) h1) (n_D_perm (List.perm_append_singleton _ _) h2) h3
end NR
theorem n_mv {α : Type} (a b c : List α) : (a ++ (b ++ c)).Perm (b ++ (a ++ c)) := by
  rw [← List.append_assoc, ← List.append_assoc]
  exact List.perm_append_comm.append_right c
