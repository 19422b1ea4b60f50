/-! THROWING AND CATCHING in the picture. The search through a method's table, an entry that is linked at its first use: it takes the object, or the search goes on over the warmer tables. -/
section CkGo
variable {Q : Handler → Pre} {E : CtlPost} {e : Env} {d : Bool} {acts : List Action} {s : State} {f : JFrame} {a : Addr}
theorem ck_yes {x : ExceptionTableEntry} {t : List ExceptionTableEntry} {c : ClassId} {cell : Cell} (hx : covers x f.pc = true) (h0 : x.catchType ≠ 0)
    (hl : s.vm.ClassLinks e.platform f.method.cls x.catchType c) (hcell : s.heap[a]? = some cell) (hobj : ∀ k, cell.vm ≠ .statics k)
    (hk : ∃ k, s.vm.classes[cell.cls]? = some k) (hc : ∃ k, s.vm.classes[c]? = some k) (hfit : s.vm.assignable cell.cls c = true) :
    wp (findHandler.go f a (x :: t)) Q E e d acts s ↔ Q (.found x.handlerPc) d acts (s.setVm (s.vm.noted f.method.cls x.catchType (.cls c))) := by
  simp only [covers] at hx
  obtain ⟨ha, ht⟩ := (resolveClass_links e.toSetting hl).op (op := VmOp.resolveClass f.method.cls x.catchType) rfl
  have hal : s.vm.Alike (s.vm.noted f.method.cls x.catchType (.cls c)) := (Vm.Alike.refl s.vm).noted _ _ _
  obtain ⟨k1, hk1⟩ := hk
  obtain ⟨k2, hk2⟩ := hc
  obtain ⟨k1', hk1', -⟩ := hal.2.2 _ _ hk1
  obtain ⟨k2', hk2', -⟩ := hal.2.2 _ _ hk2
  have hf' : (s.vm.noted f.method.cls x.catchType (.cls c)).assignable cell.cls c = true := by rw [hal.assignable]; exact hfit
  simp [findHandler.go, hx, h0, ha, ht, hcell, hobj, hk1', hk2', hf', VmOp.dirties, VmOp.acts]
theorem ck_no {x : ExceptionTableEntry} {t : List ExceptionTableEntry} {c : ClassId} {cell : Cell} (hx : covers x f.pc = true) (h0 : x.catchType ≠ 0)
    (hl : s.vm.ClassLinks e.platform f.method.cls x.catchType c) (hcell : s.heap[a]? = some cell) (hobj : ∀ k, cell.vm ≠ .statics k)
    (hk : ∃ k, s.vm.classes[cell.cls]? = some k) (hc : ∃ k, s.vm.classes[c]? = some k) (hno : s.vm.assignable cell.cls c = false) :
    wp (findHandler.go f a (x :: t)) Q E e d acts s ↔ wp (findHandler.go f a t) Q E e d acts (s.setVm (s.vm.noted f.method.cls x.catchType (.cls c))) := by
  simp only [covers] at hx
  obtain ⟨ha, ht⟩ := (resolveClass_links e.toSetting hl).op (op := VmOp.resolveClass f.method.cls x.catchType) rfl
  have hal : s.vm.Alike (s.vm.noted f.method.cls x.catchType (.cls c)) := (Vm.Alike.refl s.vm).noted _ _ _
  obtain ⟨k1, hk1⟩ := hk
  obtain ⟨k2, hk2⟩ := hc
  obtain ⟨k1', hk1', -⟩ := hal.2.2 _ _ hk1
  obtain ⟨k2', hk2', -⟩ := hal.2.2 _ _ hk2
  have hf' : (s.vm.noted f.method.cls x.catchType (.cls c)).assignable cell.cls c = false := by rw [hal.assignable]; exact hno
  simp [findHandler.go, hx, h0, ha, ht, hcell, hobj, hk1', hk2', hf', VmOp.dirties, VmOp.acts]
end CkGo
def ck_P (pl : Platform) (s0 : State) (d : ClassId) (pc : Nat) (thrown : ClassId) (y : ExceptionTableEntry) : Prop :=
  covers y pc = false ∨ (y.catchType ≠ 0 ∧ ∃ c, s0.vm.ClassLinks pl d y.catchType c ∧ s0.vm.assignable thrown c = false)
theorem ck_walk {e : Env} {s0 : State} {f : JFrame} {a : Addr} {cell : Cell} (hobj : ∀ k, cell.vm ≠ .statics k) (hk0 : ∃ k, s0.vm.classes[cell.cls]? = some k)
    (x : ExceptionTableEntry) (rest : List ExceptionTableEntry) (hx : covers x f.pc = true) (h0 : x.catchType ≠ 0) {cx : ClassId} (hl : s0.vm.ClassLinks e.platform f.method.cls x.catchType cx) (hfit : s0.vm.assignable cell.cls cx = true) :
    ∀ (pre : List ExceptionTableEntry) (S : State), s0.WarmedH S.vm → S.heap[a]? = some cell → (∀ y ∈ pre, ck_P e.platform s0 f.method.cls f.pc cell.cls y) →
      ∃ vm', s0.WarmedH vm' ∧ ∀ (Q : Handler → Pre) (E : CtlPost) (d : Bool) (acts : List Action), wp (findHandler.go f a (pre ++ x :: rest)) Q E e d acts S ↔ Q (.found x.handlerPc) d acts (S.setVm vm') := by
  obtain ⟨k0, hk0⟩ := hk0
  intro pre
  induction pre with
  | nil =>
    intro S hW hcell _
    obtain ⟨k0', hk0', -⟩ := hW.alike.2.2 _ _ hk0
    obtain ⟨dk, _, _, kt, hd, _, _, _, _, hkt, _, hopen⟩ := hl.here
    obtain ⟨kt', hkt', -⟩ := hW.alike.2.2 _ _ hkt
    exact ⟨_, hW.noted hd hopen (State.rightAt_cls hl), fun Q E d acts => ck_yes hx h0 (hW.classLinks hl) hcell hobj ⟨k0', hk0'⟩ ⟨kt', hkt'⟩ (by rw [hW.alike.assignable]; exact hfit)⟩
  | cons y ys ih =>
    intro S hW hcell hpass
    obtain ⟨k0', hk0', -⟩ := hW.alike.2.2 _ _ hk0
    have hrest : ∀ z ∈ ys, ck_P e.platform s0 f.method.cls f.pc cell.cls z := fun z hz => hpass z (List.mem_cons_of_mem _ hz)
    by_cases hcov : covers y f.pc = true
    · rcases hpass y List.mem_cons_self with h | ⟨g0, c, gl, hno⟩
      · rw [h] at hcov; cases hcov
      · obtain ⟨dk, _, _, kt, hd, _, _, _, _, hkt, _, hopen⟩ := gl.here
        obtain ⟨kt', hkt', -⟩ := hW.alike.2.2 _ _ hkt
        obtain ⟨vm', hW', hq⟩ := ih (S.setVm (S.vm.noted f.method.cls y.catchType (.cls c))) (hW.noted hd hopen (State.rightAt_cls gl)) hcell hrest
        exact ⟨vm', hW', fun Q E d acts => (ck_no hcov g0 (hW.classLinks gl) hcell hobj ⟨k0', hk0'⟩ ⟨kt', hkt'⟩ (by rw [hW.alike.assignable]; exact hno)).trans (hq Q E d acts)⟩
    · obtain ⟨vm', hW', hq⟩ := ih S hW hcell hrest
      exact ⟨vm', hW', fun Q E d acts => (Jvm.W.findHandler_go_skip (by simpa using hcov)).trans (hq Q E d acts)⟩
/-- what is thrown over the frame g is caught by the row x of its method's table -/
theorem ck_caught {p : Program} {l : Launch} {e : Env} {R : Room} {s : State} {m : MethodId} {args : Array Value} {below : List Frame} {meth : Method} {c : Code} {T : State} {locs : List Loc} {cells slots : Nat} (X : Stand p l e R s m args below meth c T locs cells slots) (a : Addr) {g : JFrame} (hg : g.method = m) {cell : Cell} (hcell : T.heap[a]? = some cell) (hobj : cell.vm.isStatics = false)
    (hk0 : ∃ k, s.vm.classes[cell.cls]? = some k) (pre : List ExceptionTableEntry) (x : ExceptionTableEntry) (rest : List ExceptionTableEntry) (hsplit : c.exceptionTable.toList = pre ++ x :: rest)
    (hpass : ∀ y ∈ pre, ck_P e.platform s m.cls g.pc cell.cls y) (hx : covers x g.pc = true) (h0 : x.catchType ≠ 0) {cx : ClassId} (hl : s.vm.ClassLinks e.platform m.cls x.catchType cx) (hfit : s.vm.assignable cell.cls cx = true) :
    ∃ vm', Stand p l e R s m args below meth c (T.setVm vm') locs cells slots ∧
      ∀ target, Steps p.tables e below ((T.setVm vm').setTop { g with pc := x.handlerPc, stack := [.ref a] }) target → Steps p.tables e below ((T.setTop g).pushFrame (.throwing a)) target := by
  subst hg
  obtain ⟨vm', hW', hq⟩ := ck_walk (e := e) (s0 := s) (f := g) (a := a) (VmData.ne_statics_of hobj) hk0 x rest hx h0 hl hfit pre ((T.setTop g).pushFrame (.throwing a)) X.warmed hcell hpass
  have hfind : ∀ (Q : Handler → Pre) (E : CtlPost) (d : Bool) (acts : List Action), wp (findHandler g a) Q E e d acts ((T.setTop g).pushFrame (.throwing a)) ↔ Q (.found x.handlerPc) d acts (((T.setTop g).pushFrame (.throwing a)).setVm vm') := by
    intro Q E d acts
    rw [Jvm.W.findHandler_eq (s := (T.setTop g).pushFrame (.throwing a)) (meth := meth) (code := c) X.method' X.code, hsplit]
    exact hq Q E d acts
  refine ⟨vm', X.noted hW', fun target hrest => ?_⟩
  obtain ⟨hgo, hw⟩ := X.here.throwing a (g := g)
  refine Steps.head hgo hw ?_
  have hstep : ∀ r : List Frame, (stepThrowing e ((T.setTop g).pushFrame (.throwing a)) a (.java g :: r)).Is ((((T.setTop g).pushFrame (.throwing a)).setVm vm').setFrames (.java { g with pc := x.handlerPc, stack := [.ref a] } :: r)) [] := by
    intro r
    simp only [stepThrowing, searchFrame, vmDo]
    generalize hr : Sem.go _ e false [] ((T.setTop g).pushFrame (.throwing a)) = res
    obtain ⟨as, rfl, ha⟩ := Sem.eq_ok_of hr (a := Handler.found x.handlerPc) (s' := ((T.setTop g).pushFrame (.throwing a)).setVm vm') (acts' := []) (by simp [hfind _ _ _ _])
    exact ⟨rfl, ha⟩
  have hsv : ∀ (u : State) (F G : List Frame), ((u.setFrames F).setVm vm').setFrames G = (u.setVm vm').setFrames G := by
    intro u F G
    have h1 : (u.setFrames F).setVm vm' = (u.setVm vm').setFrames F := rfl
    rw [h1, State.setFrames_setFrames]
  rw [stepThread_throwing (frames_entered X.here.top _), (hstep _).1]
  obtain ⟨g₀, hg0⟩ := Option.isSome_iff_exists.mp X.here.top
  obtain ⟨r, hr⟩ := State.topJava?_eq_some.mp hg0
  have hr' : (T.setVm vm').frames = .java g₀ :: r := hr
  rw [State.setTop_of_frames _ hr'] at hrest
  rw [hr, List.tail_cons, State.pushFrame, hsv, State.setTop_of_frames _ hr, hsv]
  exact hrest

section AmThrows
variable {X : am_X} {M M' : am_M} {d d' mc ms mc' ms' pc : Nat} {ls st : List Value} {ws : va_W} {QQ : am_QT} {Post Post' : am_O → va_W → Prop}
/-- 'throw new E("text")' in a method that catches nothing -/
theorem aw_throw {ik is ic : Nat} {E text : String} {names : List String} {rest : List Value} (d0 : decode (am_c M) pc = .ok (.new ik, 3)) (d3 : decode (am_c M) (pc + 3) = .ok (.dup, 1)) (d4 : decode (am_c M) (pc + 4) = .ok (.ldc is, 2)) (d6 : decode (am_c M) (pc + 6) = .ok (.invokespecial ic, 3)) (d9 : decode (am_c M) (pc + 9) = .ok (.athrow, 1))
    (hE : Bundle.fit E = true) (hnames : ∀ n ∈ names, Bundle.fit n = true) (w1 : Cond.classLink (am_y M).cls ik E ∈ am_tbl) (w2 : Cond.initialized E ∈ am_tbl) (w3 : ∀ w ∈ vx_atS (am_y M).cls ic E names, w ∈ am_tbl) (hgood : ∀ w ∈ Cond.classLink (am_y M).cls ik E :: Cond.initialized E :: vx_atS (am_y M).cls ic E names, vx_ot w = true)
    (hs : ((am_y M).cls, is, text) ∈ am_strs) (hd : 8 ≤ d) (hn : names.length ≤ 3) (hrest : (rest.map fun v => v.category).sum ≤ 8) (hh : am_hh M = []) (hp : Post (.inr E) ws) : AW X M d (1 + mc) (6 + ms) pc ls rest ws (am_E X Post) := by
  intro p e R s m args below meth c H locs cells slots L A kc ks a1 a2 a3 a4 a5 a6 a7 a8 a9 a10 a11 a12 a13
  obtain ⟨h1, h2, h3, h4, h5, h6, h7, h8, h9, h10, h11, h12, -⟩ := a2
  obtain ⟨sa, hsa⟩ := h9 _ hs
  refine vx_throwS a1.1 a1.2.1 h12 (A := A) a1.2.2.2.2.1 hE hnames (a1.2.2.2.2.2.1 _ w1) (a1.2.2.2.2.2.1 _ w2) hsa (fun w hw => a1.2.2.2.2.2.1 _ (w3 w hw)) hgood h4 h5 a12 (by rw [a1.2.2.2.1]; exact a13.1) d0 d3 d4 d6 d9 (by rw [a1.2.2.2.2.2.2.2.1, hh]; exact fun x hx => by cases hx) (by omega) (by omega) (by omega) (by omega) a1.2.2.2.2.2.2.1 (fun t ht hz hq => ?_) a12.2.2 (by omega) (by omega)
  refine ⟨⟨ws, hp, a10.kept (fun k x hx => hq x.1 ((a10 k x hx).lt)), a11⟩, Nat.le_trans a12.1 hz, fun q hq1 hq2 => ?_⟩
  rw [hq q (Nat.lt_of_lt_of_le hq1 a12.1)]
  exact a12.2.1 q hq1 hq2
/-- the table of M catches E at pc, and goes on at a place of which K holds -/
def am_catch (M : am_M) (pc : Nat) (E : String) (K : Nat → Prop) : Prop := ∃ (pre : List ExceptionTableEntry) (x : ExceptionTableEntry) (suf : List ExceptionTableEntry) (nm : String), tableOf (am_hh M) = pre ++ x :: suf ∧
  (∀ z ∈ pre, covers z pc = false ∨ (z.catchType ≠ 0 ∧ ∃ n9 : String, Cond.classLink (am_y M).cls z.catchType n9 ∈ am_tbl ∧ (E, n9) ∈ am_ncs)) ∧ covers x pc = true ∧ x.catchType ≠ 0 ∧ Cond.classLink (am_y M).cls x.catchType nm ∈ am_tbl ∧ Cond.castable E nm ∈ am_tbl ∧ K x.handlerPc
theorem aw_callVC {idx n a ci : Nat} {As rest : List Value} {fs : List Value} {C : vw_C} (hd : decode (am_c M) pc = .ok (.invokevirtual idx, 3)) (hl : am_cv (am_y M).cls idx M' n) (hC : AMet X M' d' mc' ms' (.ref a :: As) ws Post') (hn : As.length = n) (hdd : d' + 1 ≤ d) (q0 : Nat) (hr : ws[q0]? = some (a, .inr (ci, fs))) (hcl : am_cl[ci]? = some C) (hCn : C.1 = (am_y M').cls) (hrest : (rest.map fun v => v.category).sum ≤ 8)
    (kk : ∀ v ws', Post' (.inl v) ws' → AW X M d mc ms (pc + 3) ls (v.toList ++ rest) ws' (am_E X Post)) (kx : ∀ E ws', Post' (.inr E) ws' → am_catch M pc E (fun hpc => ∀ q, AW X M d mc ms hpc ls [.ref q] ws' (am_E X Post))) : AW X M d (mc' + mc) (ms' + ms) pc ls (As.reverse ++ .ref a :: rest) ws (am_E X Post) := by
  intro p e R s m args below meth c H locs cells slots L A kc ks a1 a2 a3 a4 a5 a6 a7 a8 a9 a10 a11 a12 a13
  obtain ⟨hb, hi, hs⟩ := hl
  have hrec := va_recv a2.1 a10 (ci := ci) (q0 := q0) hcl hr
  rw [hCn] at hrec
  have hpre := am_pre (As := .ref a :: As) a2 a3 a10 a11 a12
  have hrun := vx_runV (C := (am_y M').cls) (As := As) (rest := rest) (locs := locs) (cells := cells) (slots := slots) (below := below) (meth := meth) (e := e) (g := F0 m pc L (As.reverse ++ .ref a :: rest)) ⟨a1.1, a1.2.1, a1.2.2.2.1, a1.2.2.2.2.1, a1.2.2.2.2.2.1⟩ (hC H.size) ⟨am_CallB a1.2.2.2.2.2.1 hb hdd a4 a5, a1.2.2.2.2.2.1 _ hi, a1.2.2.2.2.2.1 _ hs⟩ ⟨hpre.1, hrec, hpre.2⟩ rfl hn a13.1 rfl (lv_room hrest) hd ⟨by omega, by omega⟩
  intro T hT XX
  have hfr := am_free a11 a12 a3
  rcases hrun T hT XX with ⟨v, st₀, t, T', LL, h0, X', hL, e1, e2, ⟨⟨v', ws', hv, hp, hP', hD'⟩, hF⟩, st1⟩ | ⟨q, st₀, t, T', LL, E, ce, h0, X', hL, e1, e2, ⟨⟨ws', hp, hP', hD'⟩, hF⟩, hce, hcv, hcl9, st1⟩
  · cases hv
    obtain ⟨k1, k2, k3⟩ := vx_keep h0 e1 a12 (fun q _ h => hfr q h) hfr hL hF
    obtain ⟨t2, b1, b2⟩ := kk v ws' hp p e R s m args below meth c T'.heap (locs ++ LL) (cells + mc') (slots + ms') L A kc ks a1 a2 a3 a4 a5 (by omega) (by omega) a8 a9 (by rw [e1]; exact hP') (hD'.weaken (fun k q h1 h2 => hfr _ (hD'.2 k q h1))) k3 a13 T' rfl X'
    exact ⟨t2, st1 t2 b1, b2⟩
  · obtain ⟨k1, k2, k3⟩ := vx_keep h0 e1 a12 (fun q _ h => hfr q h) hfr hL hF
    obtain ⟨pre, x, suf, nm, hsp, hpass, hx, hx0, hlk, hcs, hK⟩ := kx E ws' hp
    have hpl : e.platform.magicAccessors = ({} : Platform).magicAccessors := by rw [X'.admits.platform]
    obtain ⟨c3, c4, hc3, hc4, hasg⟩ := Cond.castable_spec (a1.2.2.2.2.2.1 _ hcs)
    cases Option.some.inj (hc3.symm.trans hcl9)
    obtain ⟨c5, hc5, hcl5⟩ := Cond.classLink_spec a1.2.2.2.2.1 (a1.2.2.2.2.2.1 _ hlk) e.platform hpl
    cases Option.some.inj (hc4.symm.trans hc5)
    obtain ⟨vm', X2, st2⟩ := ck_caught X' q (g := F0 m pc L rest) rfl (cell := ce) (by rw [e1]; exact hce) (by rw [hcv]; rfl) (by obtain ⟨k9, h9, -⟩ := Vm.findClass_spec hcl9; exact ⟨k9, h9⟩) pre x suf (by rw [a1.2.2.2.2.2.2.2.1]; exact hsp)
      (fun z hz => by
        rcases hpass z hz with h | ⟨hz0, n9, hl1, hn1⟩
        · exact Or.inl h
        · obtain ⟨c6, hc6, hcl6⟩ := Cond.classLink_spec a1.2.2.2.2.1 (a1.2.2.2.2.2.1 _ hl1) e.platform hpl
          obtain ⟨a8, b8, g1, g2, g3⟩ := a2.2.2.2.2.2.2.2.2.2.1 _ hn1
          cases Option.some.inj (g1.symm.trans hcl9)
          cases Option.some.inj (g2.symm.trans hc6)
          exact Or.inr ⟨hz0, _, hcl6, g3⟩) hx hx0 hcl5 hasg
    obtain ⟨t2, b1, b2⟩ := hK q p e R s m args below meth c T'.heap (locs ++ LL) (cells + mc') (slots + ms') L A kc ks a1 a2 a3 a4 a5 (by omega) (by omega) a8 a9 (by rw [e1]; exact hP') (hD'.weaken (fun k q h1 h2 => hfr _ (hD'.2 k q h1))) k3 a13 (T'.setVm vm') rfl X2
    exact ⟨t2, st1.trans (st2 t2 b1), b2⟩
/-- a static call of a method with a table of its own, which never throws -/
theorem aw_callSC {idx n : Nat} {As rest : List Value} (hd : decode (am_c M) pc = .ok (.invokestatic idx, 3)) (hl : Cond.methodLink (am_y M).cls idx (am_y M') ∈ am_tbl ∧ Cond.initialized (am_y M').cls ∈ am_tbl ∧ Cond.codeWith (am_y M') (am_c M') (am_nL M') (am_ret M') (am_hh M') ∈ am_tbl ∧ am_hh M' ≠ [] ∧ ((am_y M').cls ≠ "java/lang/invoke/MethodHandle" ∧ (am_y M').cls ≠ "java/lang/invoke/VarHandle") ∧ (parseMethodDescriptor (am_y M').desc).map (fun z => z.parameters.length) = some n ∧ am_nL M' ≤ 45 ∧ Cond.static (am_y M') ∈ am_tbl) (hC : AMet X M' d' mc' ms' As ws Post') (hn : As.length = n) (hdd : d' + 1 ≤ d) (hrest : (rest.map fun v => v.category).sum ≤ 8)
    (kk : ∀ v ws', Post' (.inl v) ws' → AW X M d mc ms (pc + 3) ls (v.toList ++ rest) ws' QQ) (kx : ∀ E ws', ¬ Post' (.inr E) ws') : AW X M d (mc' + mc) (ms' + ms) pc ls (As.reverse ++ rest) ws QQ := by
  intro p e R s m args below meth c H locs cells slots L A kc ks a1 a2 a3 a4 a5 a6 a7 a8 a9 a10 a11 a12 a13
  obtain ⟨w1, w2, w3, w4, w5, w6, w7, w8⟩ := hl
  have hcw : am_cw M' = Cond.codeWith (am_y M') (am_c M') (am_nL M') (am_ret M') (am_hh M') := by
    unfold am_cw
    cases hz : am_hh M' with
    | nil => exact absurd hz w4
    | cons a t => rfl
  have hts := a1.2.2.2.2.2.1
  have hpre := am_pre (As := As) a2 a3 a10 a11 a12
  have hcs : vx_CSW R s args (am_y M).cls idx (am_y M') (am_c M') (am_nL M') (am_ret M') (am_hh M') (am_ws M') (am_rm d' mc' ms') mc' ms' n := by
    refine ⟨⟨rfl, rfl, by show d' + 1 ≤ _; omega, by show 8 + (am_nL M' + 11) + 64 * d' ≤ _; omega, am_hws hts (by rw [hcw]; exact w3), by rw [← hcw]; exact List.mem_cons_self⟩, hts _ w3, hts _ w2, w5, fun sig hs => ?_, hts _ w1, hts _ w8⟩
    rw [hs] at w6
    exact (Option.some.inj w6).symm
  have hr := vx_runSW (As := As) (rest := rest) (locs := locs) (cells := cells) (slots := slots) (below := below) (meth := meth) (e := e) (g := F0 m pc L (As.reverse ++ rest)) ⟨a1.1, a1.2.1, a1.2.2.2.1, a1.2.2.2.2.1, a1.2.2.2.2.2.1⟩ (am_toMet (hC H.size) (fun E s t h => by obtain ⟨⟨w, h1, -⟩, -⟩ := h; exact kx E w h1)) hcs hpre rfl hn a13.1 rfl (lv_room hrest) hd ⟨by omega, by omega⟩
  intro T hT XX
  have hfr := am_free a11 a12 a3
  obtain ⟨v, st₀, t, T', LL, h0, X', hL, e1, e2, ⟨⟨v', ws', hv, hp, hP', hD'⟩, hF⟩, st1⟩ := hr T hT XX
  cases hv
  obtain ⟨k1, k2, k3⟩ := vx_keep h0 e1 a12 (fun q _ h => hfr q h) hfr hL hF
  obtain ⟨t2, b1, b2⟩ := kk v ws' hp p e R s m args below meth c T'.heap (locs ++ LL) (cells + mc') (slots + ms') L A kc ks a1 a2 a3 a4 a5 (by omega) (by omega) a8 a9 (by rw [e1]; exact hP') (hD'.weaken (fun k q h1 h2 => hfr _ (hD'.2 k q h1))) k3 a13 T' rfl X'
  exact ⟨t2, st1 t2 b1, b2⟩
/-- UNTOLD.clone() and its cast to int[] -/
theorem aw_uclone {idx i2 : Nat} {rest : List Value} (hd : decode (am_c M) pc = .ok (.invokevirtual idx, 3)) (hd2 : decode (am_c M) (pc + 3) = .ok (.checkcast i2, 3)) (w1 : Cond.methodLink (am_y M).cls idx ⟨"[I", "clone", "()Ljava/lang/Object;"⟩ ∈ am_tbl) (w2 : Cond.sameMethod "[I" "java/lang/Object" "clone" "()Ljava/lang/Object;" ∈ am_tbl)
    (w3 : Cond.native ⟨"java/lang/Object", "clone", "()Ljava/lang/Object;"⟩ ∈ am_tbl) (w4 : Cond.instanceMethod ⟨"java/lang/Object", "clone", "()Ljava/lang/Object;"⟩ ∈ am_tbl) (w5 : Cond.selects "[I" ⟨"[I", "clone", "()Ljava/lang/Object;"⟩ ⟨"java/lang/Object", "clone", "()Ljava/lang/Object;"⟩ ∈ am_tbl) (w6 : Cond.castable "[I" "java/lang/Cloneable" ∈ am_tbl) (w7 : Cond.classLink (am_y M).cls i2 "[I" ∈ am_tbl)
    (hok : am_ok X = 1) (hdd : 1 ≤ d) (hrest : (rest.map fun v => v.category).sum ≤ 8) (k : ∀ q : Nat, AW X M d mc ms (pc + 6) ls (.ref q :: rest) (ws ++ [(q, .inl (am_I X, 5, .inl am_untold))]) QQ) : AW X M d (1 + mc) (5 + ms) pc ls (.ref (am_U X) :: rest) ws QQ := by
  intro p e R s m args below meth c H locs cells slots L A kc ks a1 a2 a3 a4 a5 a6 a7 a8 a9 a10 a11 a12 a13
  obtain ⟨cell, u1, ⟨-, u2⟩, u3, u4, u5, u6⟩ := am_UT.kept (U := s) a2.2.2.1 a12.2.1
  have u2 := u2 hok
  have hts := a1.2.2.2.2.2.1
  have hnm := va_nm_int (a2.1.2 0 _ rfl).2
  obtain ⟨c0, t0', f1, f2, f3⟩ := Cond.castable_spec (hts _ w6)
  cases hnm.symm.trans f1
  intro T hT XX
  obtain ⟨-, kA, hkA, comp, hkind⟩ := State.isArrayOf_alike XX.warmed.alike ((a2.1.2 0 _ rfl).1 0 (fun _ => .null))
  obtain ⟨-, kS, hkS, compS, hkindS⟩ := (a2.1.2 0 _ rfl).1 0 (fun _ => .null)
  have hsz : cell.slots.size = 5 := by rw [u5]; simp
  obtain ⟨vm', X', st1⟩ := XX.cloneArray a1.1 a1.2.2.2.2.1 (hts _ w1) (hts _ w2) (hts _ w3) (hts _ w4) (hts _ w5) (a := am_U X) (cell := cell) (by rw [hT]; exact u1) (fun k h => by rw [h] at u4; cases u4) u3 (by rw [u2]; exact hnm) f2 (by rw [u2]; exact f3)
    (fun i v hv => by
      rw [u2]
      have hk' : T.vm.classes[am_I X]? = some kA := hkA
      rw [u5] at hv
      simp only [Array.getElem?_ofFn] at hv
      split at hv
      · cases hv
        simp [State.fitsSlot, State.slotType?, hk', hkind, fits]
      · cases hv)
    (g := F0 m pc L (.ref (am_U X) :: rest)) rfl (by rw [a1.2.2.2.1]; exact a13.1) rfl (by rw [a1.2.1]; exact hd) (by omega) (by have := lv_room (m := m) (pc := pc) (ls := L) (rest := rest) hrest; show 2 * 0 + _ + 14 ≤ _; omega) (by omega) (by omega) (hloader := by rw [u2]; exact Vm.clonesLoader_of_array hkS hkindS)
  have hce : ({ cls := cell.cls, slots := cell.slots } : Cell) = vp_cell (am_I X) (5, .inl am_untold) := by rw [u2, u5]; rfl
  rw [hce, hsz] at X'
  rw [hce] at st1
  generalize hH1 : H.push (vp_cell (am_I X) (5, .inl am_untold)) = H1
  have z1 : H1.size = H.size + 1 := by rw [← hH1, Array.size_push]
  have e1 : H1[H.size]? = some (vp_cell (am_I X) (5, .inl am_untold)) := by rw [← hH1, Array.getElem?_push_size]
  have o1 : ∀ q : Nat, q < H.size → H1[q]? = H[q]? := fun q hq => by rw [← hH1, Array.getElem?_push, if_neg (Nat.ne_of_lt hq)]
  have hP1 : va_P (am_D X) am_cl (ws ++ [(H.size, .inl (am_I X, 5, .inl am_untold))]) H1 := (a10.kept (fun k x hx => o1 x.1 ((a10 k x hx).lt))).app (fun k x hx => by
    have hz : k < 1 := (List.getElem?_eq_some_iff.mp hx).1
    rw [show k = 0 by omega] at hx
    cases hx
    exact e1)
  have hD1 : va_D A (ws ++ [(H.size, .inl (am_I X, 5, .inl am_untold))]) := a11.push a10 rfl (a3 _ a12.1)
  have hS1 : va_S A s.heap H1 locs := ⟨Nat.le_trans a12.1 (by omega), fun x h1 h2 => (o1 x (Nat.lt_of_lt_of_le h1 a12.1)).trans (a12.2.1 x h1 h2), a12.2.2⟩
  have KK : W p (am_l X) e R s m args below meth c H1 locs (cells + 1) (slots + 5) (QQ p e s args below A kc ks) (F0 m (pc + 3) L (.ref H.size :: rest)) :=
    va_castA a1.1 a1.2.1 a1.2.2.2.2.1 (hts _ w7) hP1 ws.length (x := (5, .inl am_untold)) (cA := am_I X) (by simp) hnm hd2 (k H.size p e R s m args below meth c H1 locs (cells + 1) (slots + 5) L A kc ks a1 a2 a3 a4 a5 (by omega) (by omega) a8 a9 hP1 hD1 hS1 a13)
  obtain ⟨t2, b1, b2⟩ := KK _ (by rw [← hH1, ← hT]; rfl) X'
  refine ⟨t2, st1 t2 ?_, b2⟩
  rw [hT]
  exact b1
end AmThrows
