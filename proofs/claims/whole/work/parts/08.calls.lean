/-! CALLS in the picture -/
theorem am_free {A : Nat → Prop} {ws : va_W} {H0 H : Heap} {locs : List Loc} (hD : va_D A ws) (hS : va_S A H0 H locs) (hA : ∀ q, H0.size ≤ q → A q) : ∀ q, va_A ws H.size q → A q := by
  intro q h
  rcases h with ⟨k, e, h⟩ | h
  · exact hD.2 k _ h
  · exact hA q (Nat.le_trans hS.1 h)
/-- the words of a call -/
def am_cb (own : String) (idx : Nat) (M' : am_M) (n : Nat) : Prop := Cond.methodLink own idx (am_y M') ∈ am_tbl ∧ Cond.initialized (am_y M').cls ∈ am_tbl ∧ Cond.code (am_y M') (am_c M') (am_nL M') (am_ret M') ∈ am_tbl ∧ am_hh M' = [] ∧ ((am_y M').cls ≠ "java/lang/invoke/MethodHandle" ∧ (am_y M').cls ≠ "java/lang/invoke/VarHandle") ∧ (parseMethodDescriptor (am_y M').desc).map (fun z => z.parameters.length) = some n ∧ am_nL M' ≤ 45
def am_cv (own : String) (idx : Nat) (M' : am_M) (n : Nat) : Prop := am_cb own idx M' n ∧ Cond.instanceMethod (am_y M') ∈ am_tbl ∧ Cond.selects (am_y M').cls (am_y M') (am_y M') ∈ am_tbl
def am_cs (own : String) (idx : Nat) (M' : am_M) (n : Nat) : Prop := am_cb own idx M' n ∧ Cond.static (am_y M') ∈ am_tbl
def am_ci (own : String) (idx : Nat) (M' : am_M) (n : Nat) : Prop := am_cb own idx M' n ∧ Cond.instanceMethod (am_y M') ∈ am_tbl ∧ (am_y M').name = "<init>" ∧ am_ret M' = none
theorem am_hws {M : am_M} {args : Array Value} {s : State} (hts : ∀ w ∈ am_tbl, w.before args s = true) (hc : am_cw M ∈ am_tbl) : ∀ w ∈ am_ws M, ∀ (a' : Array Value) (U : State), s.WarmedH U.vm → w.before a' U = true := by
  intro w hw a' U hW
  have key : ∀ w ∈ am_tbl, w.before a' U = true := fun w h => am_word hW (List.mem_filter.mp h).2 (hts w h)
  rcases List.mem_cons.mp hw with rfl | h
  · exact key _ hc
  · exact key _ h
theorem am_CallB {M M' : am_M} {R : Room} {s : State} {args : Array Value} {idx n d d' mc ms : Nat} (hts : ∀ w ∈ am_tbl, w.before args s = true) (h : am_cb (am_y M).cls idx M' n) (hd : d' + 1 ≤ d) (h1 : d ≤ R.frames) (h2 : 64 * d ≤ R.locals) :
    CallB R s args (am_y M).cls idx (am_y M') (am_c M') (am_nL M') (am_ret M') (am_ws M') (am_rm d' mc ms) mc ms n := by
  obtain ⟨w1, w2, w3, w4, w5, w6, w7⟩ := h
  have hcw : am_cw M' = Cond.code (am_y M') (am_c M') (am_nL M') (am_ret M') := by unfold am_cw; rw [w4]
  refine ⟨rfl, rfl, by show d' + 1 ≤ _; omega, by show 8 + (am_nL M' + 11) + 64 * d' ≤ _; omega, am_hws hts (by rw [hcw]; exact w3), by rw [← hcw]; exact List.mem_cons_self, hts _ w3, hts _ w2, w5, fun sig hs => ?_, hts _ w1⟩
  rw [hs] at w6
  exact (Option.some.inj w6).symm
/-- what a callee asks at its entry holds here -/
theorem am_pre {X : am_X} {A : Nat → Prop} {s : State} {H : Heap} {locs : List Loc} {ws : va_W} {As : List Value} (a2 : am_Gt X A s s.heap) (a3 : ∀ q, s.heap.size ≤ q → A q) (a10 : va_P (am_D X) am_cl ws H) (a11 : va_D A ws) (a12 : va_S A s.heap H locs) :
    FrameBlind (va_Pc As (fun U => U.heap.size = H.size ∧ va_P (am_D X) am_cl ws U.heap ∧ va_D (fun _ => True) ws ∧ am_Gt X (va_A ws H.size) U U.heap)) ∧ ∀ U : State, U.heap = H → s.WarmedH U.vm → va_Pc As (fun U => U.heap.size = H.size ∧ va_P (am_D X) am_cl ws U.heap ∧ va_D (fun _ => True) ws ∧ am_Gt X (va_A ws H.size) U U.heap) As.toArray U := by
  refine ⟨fun a U g mk q => ?_, fun U hU hW => ⟨rfl, by rw [hU], by rw [hU]; exact a10, a11.weaken (fun _ _ _ _ => trivial), ?_⟩⟩
  · obtain ⟨q0, q1, qP, qD, qG⟩ := q
    exact ⟨q0, q1, qP, qD, qG.to (U := U.calling g mk a) (State.WarmedH.refl U) (Nat.le_refl _) (fun _ _ _ => rfl) (fun _ _ h => h) (fun _ h => h)⟩
  · rw [hU]
    exact a2.to hW a12.1 a12.2.1 (fun q _ h => am_free a11 a12 a3 q h) (fun q h => am_free a11 a12 a3 q h)
section AmCalls
variable {X : am_X} {M M' : am_M} {d d' mc ms mc' ms' pc : Nat} {ls st : List Value} {ws : va_W} {QQ : am_QT} {Post Post' : am_O → va_W → Prop}
/-- behind a call that may throw, where this method catches nothing -/
theorem am_go {p : Program} {e : Env} {R : Room} {s : State} {m : MethodId} {args : Array Value} {below : List Frame} {meth : Method} {c : Code} {H : Heap} {locs : List Loc} {cells slots : Nat} {L : Array Slot} {A : Nat → Prop} {kc ks : Nat} {rest : List Value} {av : Array Value}
    (a1 : am_F M p s m args meth c) (a2 : am_Gt X A s s.heap) (a3 : ∀ q, s.heap.size ≤ q → A q) (a4 : d ≤ R.frames) (a5 : 64 * d ≤ R.locals) (a6 : cells + (mc' + mc) ≤ kc) (a7 : slots + (ms' + ms) ≤ ks) (a8 : kc ≤ R.cells) (a9 : ks ≤ R.slots) (a10 : va_P (am_D X) am_cl ws H) (a11 : va_D A ws) (a12 : va_S A s.heap H locs) (a13 : am_L L (am_nL M) ls)
    (hr : vx_Run p (am_l X) e R s m args below meth c H locs cells slots mc' ms' (F0 m pc L st) rest (am_Qc X (va_A ws H.size) Post' av) (am_XC X (va_A ws H.size) Post') (va_A ws H.size))
    (hh : am_hh M = []) (kk : ∀ v ws', Post' (.inl v) ws' → AW X M d mc ms (pc + 3) ls (v.toList ++ rest) ws' (am_E X Post)) (kx : ∀ E ws', Post' (.inr E) ws' → Post (.inr E) ws') :
    W p (am_l X) e R s m args below meth c H locs cells slots (am_E X Post p e s args below A kc ks) (F0 m pc L st) := by
  intro T hT XX
  have hfr := am_free a11 a12 a3
  rcases hr T hT XX with ⟨v, st₀, t, T', LL, h0, X', hL, e1, e2, ⟨⟨v', ws', hv, hp, hP', hD'⟩, hF⟩, st1⟩ | ⟨q, st₀, t, T', LL, E, ce, h0, X', hL, e1, e2, ⟨⟨ws', hp, hP', hD'⟩, hF⟩, hce, hcv, hcl, st1⟩
  · cases hv
    obtain ⟨k1, k2, k3⟩ := vx_keep h0 e1 a12 (fun q _ h => hfr q h) hfr hL hF
    obtain ⟨t2, b1, b2⟩ := kk v ws' hp p e R s m args below meth c T'.heap (locs ++ LL) (cells + mc') (slots + ms') L A kc ks a1 a2 a3 a4 a5 (by omega) (by omega) a8 a9 (by rw [e1]; exact hP') (hD'.weaken (fun k q h1 h2 => hfr _ (hD'.2 k q h1))) k3 a13 T' rfl X'
    exact ⟨t2, st1 t2 b1, b2⟩
  · obtain ⟨k1, k2, k3⟩ := vx_keep h0 e1 a12 (fun q _ h => hfr q h) hfr hL hF
    obtain ⟨t2, b1, b2⟩ := vx_out (Qc := am_Qc X A Post) (XC := am_XC X A Post) (free := A) (mc := kc) (ms := ks) (H := T'.heap) (pc := pc) (ls := L) (rest := rest) (by rw [a1.2.2.2.2.2.2.2.1, hh]; exact fun x hx => by cases hx) a1.2.2.2.2.2.2.1 (by rw [e1]; exact hce) hcv hcl (fun t9 ht9 _ => ⟨⟨ws', kx E ws' hp, by rw [ht9, e1]; exact hP', hD'.weaken (fun k q h1 h2 => hfr _ (hD'.2 k q h1))⟩, k3.F ht9⟩) k3.2.2 (by omega) (by omega) T' rfl X'
    exact ⟨t2, st1.trans b1, b2⟩
theorem aw_callV {idx n a ci : Nat} {As rest : List Value} {fs : List Value} {C : vw_C} (hd : decode (am_c M) pc = .ok (.invokevirtual idx, 3)) (hl : am_cv (am_y M).cls idx M' n) (hC : AMet X M' d' mc' ms' (.ref a :: As) ws Post') (hn : As.length = n) (hdd : d' + 1 ≤ d) (q0 : Nat) (hr : ws[q0]? = some (a, .inr (ci, fs))) (hcl : am_cl[ci]? = some C) (hCn : C.1 = (am_y M').cls) (hrest : (rest.map fun v => v.category).sum ≤ 8) (hh : am_hh M = [])
    (kk : ∀ v ws', Post' (.inl v) ws' → AW X M d mc ms (pc + 3) ls (v.toList ++ rest) ws' (am_E X Post)) (kx : ∀ E ws', Post' (.inr E) ws' → Post (.inr E) ws') : AW X M d (mc' + mc) (ms' + ms) pc ls (As.reverse ++ .ref a :: rest) ws (am_E X Post) := by
  intro p e R s m args below meth c H locs cells slots L A kc ks a1 a2 a3 a4 a5 a6 a7 a8 a9 a10 a11 a12 a13
  obtain ⟨hb, hi, hs⟩ := hl
  have hrec := va_recv a2.1 a10 (ci := ci) (q0 := q0) hcl hr
  rw [hCn] at hrec
  have hpre := am_pre (As := .ref a :: As) a2 a3 a10 a11 a12
  exact am_go a1 a2 a3 a4 a5 a6 a7 a8 a9 a10 a11 a12 a13 (vx_runV (C := (am_y M').cls) (As := As) (rest := rest) ⟨a1.1, a1.2.1, a1.2.2.2.1, a1.2.2.2.2.1, a1.2.2.2.2.2.1⟩ (hC H.size) ⟨am_CallB a1.2.2.2.2.2.1 hb hdd a4 a5, a1.2.2.2.2.2.1 _ hi, a1.2.2.2.2.2.1 _ hs⟩ ⟨hpre.1, hrec, hpre.2⟩ rfl hn a13.1 rfl (lv_room hrest) hd ⟨by omega, by omega⟩) hh kk kx
theorem aw_callS {idx n : Nat} {As rest : List Value} (hd : decode (am_c M) pc = .ok (.invokestatic idx, 3)) (hl : am_cs (am_y M).cls idx M' n) (hC : AMet X M' d' mc' ms' As ws Post') (hn : As.length = n) (hdd : d' + 1 ≤ d) (hrest : (rest.map fun v => v.category).sum ≤ 8) (hh : am_hh M = [])
    (kk : ∀ v ws', Post' (.inl v) ws' → AW X M d mc ms (pc + 3) ls (v.toList ++ rest) ws' (am_E X Post)) (kx : ∀ E ws', Post' (.inr E) ws' → Post (.inr E) ws') : AW X M d (mc' + mc) (ms' + ms) pc ls (As.reverse ++ rest) ws (am_E X Post) := by
  intro p e R s m args below meth c H locs cells slots L A kc ks a1 a2 a3 a4 a5 a6 a7 a8 a9 a10 a11 a12 a13
  obtain ⟨hb, hi⟩ := hl
  have hpre := am_pre (As := As) a2 a3 a10 a11 a12
  exact am_go a1 a2 a3 a4 a5 a6 a7 a8 a9 a10 a11 a12 a13 (vx_runS (As := As) (rest := rest) ⟨a1.1, a1.2.1, a1.2.2.2.1, a1.2.2.2.2.1, a1.2.2.2.2.2.1⟩ (hC H.size) ⟨am_CallB a1.2.2.2.2.2.1 hb hdd a4 a5, a1.2.2.2.2.2.1 _ hi⟩ hpre rfl hn a13.1 rfl (lv_room hrest) hd ⟨by omega, by omega⟩) hh kk kx
/-- a callee that never throws -/
theorem am_toMet {l : Launch} {y : MethodName} {wsy : List Cond} {rm : Room} {Pc : Array Value → State → Prop} {Qc : Array Value → State → Outcome → State → Prop} {XC : String → State → State → Prop} {free : Addr → Prop} (h : vx_Met l y wsy rm Pc Qc XC mc ms free) (hx : ∀ E s t, ¬ XC E s t) : Met l y wsy rm Pc Qc mc ms free := by
  intro p e h1 h2 h3 s m args below h4 h5 h6 h7
  obtain ⟨n, o, b1, b2, b3, b4⟩ := h p e h1 h2 h3 s m args below h4 h5 h6 h7
  refine ⟨n, o, b1, b2, b3, ?_⟩
  rcases b4 with b4 | ⟨q, -, E, ce, L, hE, -⟩
  · exact b4
  · exact (hx _ _ _ hE).elim
theorem aw_callI {idx n a : Nat} {As rest : List Value} (hd : decode (am_c M) pc = .ok (.invokespecial idx, 3)) (hl : am_ci (am_y M).cls idx M' n) (hC : AMet X M' d' mc' ms' (.ref a :: As) ws Post') (hn : As.length = n) (hdd : d' + 1 ≤ d) (hrest : (rest.map fun v => v.category).sum ≤ 8)
    (kk : ∀ v ws', Post' (.inl v) ws' → AW X M d mc ms (pc + 3) ls (v.toList ++ rest) ws' QQ) (kx : ∀ E ws', ¬ Post' (.inr E) ws') : AW X M d (mc' + mc) (ms' + ms) pc ls (As.reverse ++ .ref a :: rest) ws QQ := by
  intro p e R s m args below meth c H locs cells slots L A kc ks a1 a2 a3 a4 a5 a6 a7 a8 a9 a10 a11 a12 a13
  obtain ⟨hb, hi, hnm, hret⟩ := hl
  have hpre := am_pre (As := .ref a :: As) a2 a3 a10 a11 a12
  have hcb := am_CallB (M := M) (mc := mc') (ms := ms') a1.2.2.2.2.2.1 hb hdd a4 a5
  rw [hret] at hcb
  have hr := va_runI (As := As) (rest := rest) (locs := locs) (cells := cells) (slots := slots) (below := below) (meth := meth) (e := e) (g := F0 m pc L (As.reverse ++ .ref a :: rest)) ⟨a1.1, a1.2.1, a1.2.2.2.1, a1.2.2.2.2.1, a1.2.2.2.2.2.1⟩ (am_toMet (hC H.size) (fun E s t h => by obtain ⟨⟨w, h1, -⟩, -⟩ := h; exact kx E w h1)) ⟨hcb, hnm, a1.2.2.2.2.2.1 _ hi⟩ hpre rfl hn a13.1 rfl (lv_room hrest) hd ⟨by omega, by omega⟩
  intro T hT XX
  have hfr := am_free a11 a12 a3
  obtain ⟨v, st₀, t, T', LL, h0, X', hL, e1, e2, ⟨⟨v', ws', hv, hp, hP', hD'⟩, hF⟩, st1⟩ := hr T hT XX
  cases hv
  obtain ⟨k1, k2, k3⟩ := vx_keep h0 e1 a12 (fun q _ h => hfr q h) hfr hL hF
  obtain ⟨t2, b1, b2⟩ := kk v ws' hp p e R s m args below meth c T'.heap (locs ++ LL) (cells + mc') (slots + ms') L A kc ks a1 a2 a3 a4 a5 (by omega) (by omega) a8 a9 (by rw [e1]; exact hP') (hD'.weaken (fun k q h1 h2 => hfr _ (hD'.2 k q h1))) k3 a13 T' rfl X'
  exact ⟨t2, st1 t2 b1, b2⟩
/-- Object's own constructor -/
theorem aw_objInit {idx a : Nat} {rest : List Value} (hd : decode (am_c M) pc = .ok (.invokespecial idx, 3)) (h1 : Cond.methodLink (am_y M).cls idx Lib.objectInit ∈ am_tbl) (h2 : Cond.instanceMethod Lib.objectInit ∈ am_tbl) (h3 : Cond.code Lib.objectInit ⟨#[0xb1]⟩ 1 none ∈ am_tbl) (hdd : 1 ≤ d) (hrest : (rest.map fun v => v.category).sum ≤ 8)
    (k : AW X M d mc ms (pc + 3) ls rest ws QQ) : AW X M d mc ms pc ls (.ref a :: rest) ws QQ := by
  intro p e R s m args below meth c H locs cells slots L A kc ks a1 a2 a3 a4 a5 a6 a7 a8 a9 a10 a11 a12 a13
  refine W.objInit a1.1 a1.2.1 a1.2.2.2.2.1 (a1.2.2.2.2.2.1 _ h1) (a1.2.2.2.2.2.1 _ h2) (a1.2.2.2.2.2.1 _ h3) rfl (by rw [a1.2.2.2.1]; exact a13.1) rfl hd (by omega) (by have := lv_room (m := m) (pc := pc) (ls := L) (rest := .ref a :: rest) hrest; omega) ?_
  exact k p e R s m args below meth c H locs cells slots L A kc ks a1 a2 a3 a4 a5 a6 a7 a8 a9 a10 a11 a12 a13
/-- a new object of the class ci -/
theorem aw_new {idx ci : Nat} {C : String} {T : u_T} {N : Nat} {ty : Nat → FieldType} {fs : List Value} (hd : decode (am_c M) pc = .ok (.new idx, 3)) (hc : am_cl[ci]? = some (C, T, N)) (hin : ∀ w ∈ u_ws C T N, w ∈ am_tbl) (hty : ∀ k, k < N → parseFieldDescriptor (T k).2.2.1 = some (ty k)) (h1 : Cond.classLink (am_y M).cls idx C ∈ am_tbl) (h2 : Cond.instantiable C N ∈ am_tbl) (h3 : Cond.initialized C ∈ am_tbl) (hfs : ∀ j, j < N → defaultValue (ty j) = vp_V fs j)
    (k : ∀ q : Nat, AW X M d mc ms (pc + 3) ls (.ref q :: st) (ws ++ [(q, .inr (ci, fs))]) QQ) : AW X M d (1 + mc) (N + ms) pc ls st ws QQ := by
  intro p e R s m args below meth c H locs cells slots L A kc ks a1 a2 a3 a4 a5 a6 a7 a8 a9 a10 a11 a12 a13
  refine va_new a1.1 a1.2.1 a1.2.2.2.2.2.1 hin ty hty a1.2.2.2.2.1 (a1.2.2.2.2.2.1 _ h1) (a1.2.2.2.2.2.1 _ h2) (a1.2.2.2.2.2.1 _ h3) a2.1 a10 a11 a12 a3 hc hfs (by omega) (by omega) hd (fun q H1 b1 b2 b3 => ?_)
  exact k q p e R s m args below meth c H1 locs (cells + 1) (slots + N) L A kc ks a1 a2 a3 a4 a5 (by omega) (by omega) a8 a9 b1 b2 b3 a13
/-- a new int array -/
theorem aw_newi {n : Int32} {N : Nat} (hd : decode (am_c M) pc = .ok (.newarray .int, 2)) (hn : n = nI N) (hN : N ≤ 100000) (h1 : Cond.arrayClass .int ∈ am_tbl)
    (k : ∀ q : Nat, AW X M d mc ms (pc + 2) ls (.ref q :: st) (ws ++ [(q, .inl (am_I X, N, .inl (fun _ => 0)))]) QQ) : AW X M d (1 + mc) (N + ms) pc ls (.int n :: st) ws QQ := by
  intro p e R s m args below meth c H locs cells slots L A kc ks a1 a2 a3 a4 a5 a6 a7 a8 a9 a10 a11 a12 a13
  subst hn
  refine va_newa a1.1 a1.2.1 (atype := .int) (a1.2.2.2.2.2.1 _ h1) (ty := .int) rfl a2.1 a10 a11 a12 a3 (N' := N) (a0 := (N, .inl (fun _ => 0))) (fun cA => rfl) (nI_pos (by omega)) (nI_clamp (by omega)) (by show N * 4 ≤ _; omega) (by omega) (by omega) hd (fun q cA H1 hK b1 b2 b3 => ?_)
  have e1 := va_nm_int (hK.2 3 _ rfl).2
  have e2 := va_nm_int (a2.1.2 0 _ rfl).2
  have e3 : cA = am_I X := Option.some.inj (e1.symm.trans e2)
  subst e3
  exact k q p e R s m args below meth c H1 locs (cells + 1) (slots + N) L A kc ks a1 a2 a3 a4 a5 (by omega) (by omega) a8 a9 b1 b2 b3 a13
/-- a new array of longs -/
theorem aw_newl {n : Int32} {N : Nat} (hd : decode (am_c M) pc = .ok (.newarray .long, 2)) (hn : n = nI N) (hN : N ≤ 100000) (h1 : Cond.arrayClass .long ∈ am_tbl)
    (k : ∀ q : Nat, AW X M d mc ms (pc + 2) ls (.ref q :: st) (ws ++ [(q, .inl (am_J X, N, .inr (.inl (fun _ => 0))))]) QQ) : AW X M d (1 + mc) (N + ms) pc ls (.int n :: st) ws QQ := by
  intro p e R s m args below meth c H locs cells slots L A kc ks a1 a2 a3 a4 a5 a6 a7 a8 a9 a10 a11 a12 a13
  subst hn
  refine va_newa a1.1 a1.2.1 (atype := .long) (a1.2.2.2.2.2.1 _ h1) (ty := .long) rfl a2.1 a10 a11 a12 a3 (N' := N) (a0 := (N, .inr (.inl (fun _ => 0)))) (fun cA => rfl) (nI_pos (by omega)) (nI_clamp (by omega)) (by show N * 8 ≤ _; omega) (by omega) (by omega) hd (fun q cA H1 hK b1 b2 b3 => ?_)
  have e1 := va_nm_long (hK.2 3 _ rfl).2
  have e2 := va_nm_long (a2.1.2 2 _ rfl).2
  have e3 : cA = am_J X := Option.some.inj (e1.symm.trans e2)
  subst e3
  exact k q p e R s m args below meth c H1 locs (cells + 1) (slots + N) L A kc ks a1 a2 a3 a4 a5 (by omega) (by omega) a8 a9 b1 b2 b3 a13
/-- a new array of Grammars -/
theorem aw_newg {idx : Nat} {n : Int32} {N : Nat} (hd : decode (am_c M) pc = .ok (.anewarray idx, 3)) (hn : n = nI N) (hN : N ≤ 100000) (h1 : Cond.classLink (am_y M).cls idx "SegmentForms$Grammar" ∈ am_tbl)
    (k : ∀ q : Nat, AW X M d mc ms (pc + 3) ls (.ref q :: st) (ws ++ [(q, .inl (am_Gr X, N, .inr (.inr (.inr (.inr (fun _ => none))))))]) QQ) : AW X M d (1 + mc) (N + ms) pc ls (.int n :: st) ws QQ := by
  intro p e R s m args below meth c H locs cells slots L A kc ks a1 a2 a3 a4 a5 a6 a7 a8 a9 a10 a11 a12 a13
  subst hn
  refine va_newq a1.1 a1.2.1 a1.2.2.2.2.1 (a1.2.2.2.2.2.1 _ h1) a2.2.2.2.2.2.2.2.2.2.2.1 a2.1 a10 a11 a12 a3 (N' := N) (nI_pos (by omega)) (nI_clamp (by omega)) (by omega) (by omega) (by omega) hd (fun q cA H1 hK b1 b2 b3 => ?_)
  obtain ⟨kA, comp, -, -, -, e1⟩ := (hK.2 3 _ rfl).2
  obtain ⟨kA2, comp2, -, -, -, e2⟩ := (a2.1.2 1 _ rfl).2
  have e3 : cA = am_Gr X := Option.some.inj (e1.symm.trans e2)
  subst e3
  exact k q p e R s m args below meth c H1 locs (cells + 1) (slots + N) L A kc ks a1 a2 a3 a4 a5 (by omega) (by omega) a8 a9 b1 b2 b3 a13
end AmCalls
