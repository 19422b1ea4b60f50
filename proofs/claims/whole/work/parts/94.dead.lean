/-! A CALL THAT NEVER COMES TO ITS END: for the start of which part 95 speaks. -/
def dd_D (p : Program) (e : Env) (below : List Frame) (s : State) : Prop := ∀ n, Within (stepsAlone p.tables e n s) below
theorem dd_steps {p : Program} {e : Env} {below : List Frame} {s t : State} (h : Steps p.tables e below s t) (ht : dd_D p e below t) : dd_D p e below s := by
  obtain ⟨n, hn, hw⟩ := h
  intro k
  by_cases hk : k < n
  · exact hw k hk
  · have e1 : k = n + (k - n) := by omega
    rw [e1, stepsAlone_add, hn]
    exact ht _
/-- one instruction, as an equation -/
theorem dd_step1 {tb : Tables} [Ours tb] {e : Env} {below : List Frame} {s S2 : State} {f : JFrame} {c : Code} (h : At s f.method c below)
    (hw : match decode c.code f.pc with
      | .ok (i, len) => wpRun (tb.exec i)
          (fun _ s₁ _ => ∀ acts, (afterInstr e len (.ok () s₁ acts)).1 = S2)
          (fun x s₁ _ => ∀ acts, (afterInstr e len (.ctl x s₁ acts)).1 = S2) e (s.setTop f)
      | .error _ => False) : (stepThread tb e (s.setTop f)).1 = S2 := by
  rcases hd : decode c.code f.pc with x | ⟨i, len⟩
  · rw [hd] at hw; exact hw.elim
  · rw [hd] at hw
    rw [stepThread_java (State.frames_setTop' f h.top) h.plain h.code hd]
    have hw := (wpRun_iff_run _ _ _ _ _).mp hw
    cases hr : (tb.exec i).run e (s.setTop f) with
    | ok a s₁ acts => rw [hr] at hw; exact hw acts
    | ctl x s₁ acts => rw [hr] at hw; cases x <;> first | exact hw acts | exact hw.elim
/-- a jump to itself is never left -/
theorem dd_loop {p : Program} {e : Env} {below : List Frame} {T : State} {m : MethodId} {c : Code} (hx : p.tables.exec = Jvm.exec) (h : At T m c below) {g : JFrame} (hg : g.method = m) (hd : decode c.code g.pc = .ok (.goto 0, 3)) : dd_D p e below (T.setTop g) := by
  subst hg
  have h1 : (stepThread p.tables e (T.setTop g)).1 = T.setTop g := by
    refine dd_step1 (c := c) h ?_
    simp [jvm, wpRun, hx, exec, h.top, hd]
  have hgo : (T.setTop g).goesOn := ⟨h.running, by rw [State.curStatus?_setTop]; exact h.runnable, by rw [State.alone_setTop]; exact h.alone⟩
  intro n
  induction n with
  | zero => exact h.within g
  | succ n ih => rw [stepsAlone_succ _ hgo, h1]; exact ih
def dd_Met (l : Launch) (y : MethodName) (S : Spec) (P : Array Value → State → Prop) : Prop :=
  ∀ (p : Program) e, l.admits e → FairCas e.choices → FairClock e.choices → ∀ s m args below,
    s.frames = .invoking m args :: below → S.appliesLoose y e.platform s = true → P args s → dd_D p e below s
theorem dd_ofW {l : Launch} {y : MethodName} {ws ws' : List Cond} {rm : Room} {Pc : Array Value → State → Prop} {cc : ByteArray} {maxL : Nat} {ret : Option FieldType}
    (hy : plainName y.cls = true) (hw : ws = Cond.code y cc maxL ret :: ws')
    (body : ∀ p e s m args below meth c s₁, BodyLoose p l y (headSpec ws rm) cc maxL ret e s m args below meth c s₁ → c.maxLocals = maxL → Pc args s →
      W p l e (headSpec ws rm).room s m args below meth c s.heap [] 0 0 (dd_D p e below) (entryFrame m args maxL)) : dd_Met l y (headSpec ws rm) Pc := by
  intro p e ha hc hk s m args below hf happ hP
  obtain ⟨hrun, hable, halone, hname, hhears, hinit, hroom, hpre⟩ := (Spec.appliesLoose_iff hf).mp happ
  obtain ⟨meth, c, hmeth, hcode, hbytes, hlocals, hret, hlocks, -, -⟩ := Cond.code_spec hname (atoms_spec (ws := ws) hpre _ (by rw [hw]; exact List.mem_cons_self))
  have hcur := State.cur_lt_of_frames hf
  have hf1 : (s.setFrames (.java (entryFrame m args maxL) :: below)).frames = .java (entryFrame m args maxL) :: below := State.frames_setFrames _ hcur
  have ht1 := State.topJava?_of_frames hf1
  have hplain : (s.setFrames (.java (entryFrame m args maxL) :: below)).plainMethod m := State.plainMethod.of_named (s := s) (plainFor_of_name hy) hname hmeth
  have hAt : At (s.setFrames (.java (entryFrame m args maxL) :: below)) m c below :=
    ⟨by rw [ht1]; rfl, ⟨[], by rw [hf1]; rfl⟩, hrun, by simpa using hable, by simpa using halone, by rw [State.code?_eq]; simp [State.setFrames, hmeth, hcode], hplain⟩
  have hstep : (stepThread p.tables e s).1 = (s.setFrames (.java (entryFrame m args maxL) :: below)).setTop (entryFrame m args maxL) := by
    have hfull : e.platform.stackFull (s.setFrames below).me (s.setFrames below).frames c.maxLocals = false := by
      obtain ⟨-, h1, -, h2⟩ := State.hasRoom_stack hroom
      rw [hf, List.length_cons] at h1
      rw [State.localsInUse_invoking hf hmeth hcode] at h2
      have hw9 := stackUse_le_stackWeight below
      rw [State.frames_setFrames _ hcur]
      exact Platform.stackFull_eq_false (by rw [State.stackLimits_setFrames]; omega) (by rw [State.stackLimits_setFrames]; omega)
    rw [stepThread_invoking hf, (doInvoke_java (s := s.setFrames below) (e := e) (meth := meth) (code := c) hmeth hcode hlocks hfull).1, State.setTop_self ht1]
    simp only [State.pushFrame, State.frames_setFrames _ hcur, State.setFrames_setFrames, hlocals, entryFrame]
  have B : BodyLoose p l y (headSpec ws rm) cc maxL ret e s m args below meth c _ := ⟨ha, hc, hk, by cases p <;> rfl, hf, hname, hhears, hinit, hroom, hpre, hmeth, hret, hlocks, hbytes, rfl, hAt⟩
  obtain ⟨t, b1, b2⟩ := body p e s m args below meth c _ B hlocals hP (s.setFrames (.java (entryFrame m args maxL) :: below)) rfl (Stand.of_body B)
  exact dd_steps (Steps.head (tb := p.tables) (e := e) ⟨hrun, hable, halone⟩ ⟨[.invoking m args], hf, by simp, by simp⟩ (hstep ▸ b1)) b2
theorem dd_call {l : Launch} {x : MethodName} {S : Spec} {P : Array Value → State → Prop} {e : Env} (hM : dd_Met l x S P) (p : Program) (ha : l.admits e) (hc : FairCas e.choices) (hk : FairClock e.choices)
    {s : State} {m : MethodId} {args : Array Value} {acts : List Action} {mid below : List Frame} (hfr : s.frames = mid ++ below) (happ : S.appliesLoose x e.platform (s.pushFrame (.invoking m args)) = true) (hP : P args (s.pushFrame (.invoking m args))) :
    dd_D p e below (doInvoke e s acts m args).1 := by
  obtain ⟨t, ht⟩ : ∃ t, s.threads[s.cur]? = some t := by
    cases h : s.threads[s.cur]? with
    | some t => exact ⟨t, rfl⟩
    | none =>
      have : (s.pushFrame (.invoking m args)).frames = [] := by
        simp [State.frames, State.pushFrame, State.setFrames, Array.getElem?_modify, h]
      simp [Spec.appliesLoose, this] at happ
  have hlt : s.cur < s.threads.size := (Array.getElem?_eq_some_iff.mp ht).1
  have hf' : (s.pushFrame (.invoking m args)).frames = .invoking m args :: s.frames := State.frames_setFrames _ hlt
  obtain ⟨hrun, hable, halone, -⟩ := (Spec.appliesLoose_iff hf').mp happ
  have hgo : (s.pushFrame (.invoking m args)).goesOn := ⟨hrun, hable, halone⟩
  have hw := hM p e ha hc hk (s.pushFrame (.invoking m args)) m args s.frames hf' happ hP
  have hstep : (stepThread p.tables e (s.pushFrame (.invoking m args))).1 = (doInvoke e s acts m args).1 := by
    rw [stepThread_invoking hf', doInvoke_state e s acts, State.pushFrame, State.setFrames_setFrames, State.setFrames_self ht]
  intro n
  have := hw (n + 1)
  rw [stepsAlone_succ _ hgo, hstep, hfr] at this
  exact this.weaken
section DdCalls
variable {p : Program} {l : Launch} {e : Env} {R : Room} {s : State} {m : MethodId} {args : Array Value} {below : List Frame} {meth : Method} {c : Code} {T : State} {locs : List Loc} {cells slots : Nat}
theorem dd_back {y : MethodName} {ws : List Cond} {rm : Room} {Pc : Array Value → State → Prop} {bytes : ByteArray} {maxL W9 len : Nat} {ret : Option FieldType} (hM : dd_Met l y (headSpec ws rm) Pc)
    (hframes : rm.frames + 1 ≤ R.frames) (hlocals : W9 + (maxL + 11) + rm.locals ≤ R.locals) (hc : cells + rm.cells ≤ R.cells) (hs : slots + rm.slots ≤ R.slots)
    (hws : ∀ w ∈ ws, ∀ (a' : Array Value) (U : State), s.WarmedH U.vm → w.before a' U = true) (hcode : Cond.code y bytes maxL ret ∈ ws) (hinit : ∀ (a' : Array Value) (U : State), s.WarmedH U.vm → (Cond.initialized y.cls).before a' U = true)
    (X : Stand p l e R s m args below meth c T locs cells slots) {g : JFrame} (hg : g.method = m) (hsize : g.locals.size = c.maxLocals) {ig : Instr} (hdg : decode c.code g.pc = .ok (ig, len)) (hW : 2 * g.monitorRoom + (g.stack.map fun v => v.category).sum ≤ W9) {mk : MethodId} (hn : T.methodNamed? y = some mk) {a : Array Value} (hP : Pc a (T.calling g mk a)) :
    ∀ acts, dd_D p e below (doInvoke e (T.setTop g) acts mk a).1 := by
  intro acts
  have h1 : (headSpec ws rm).pre.before a T = true := atoms_intro fun w hw => hws w hw _ _ X.warmed
  have h2 : (Cond.code y bytes maxL ret).before a T = true := hws _ hcode _ _ X.warmed
  have h3 : (Cond.initialized y.cls).before a T = true := hinit _ _ X.warmed
  obtain ⟨methY, cY, hmY, hcY, -, hlY, -⟩ := Cond.code_spec hn h2
  obtain ⟨kY, hkY, -⟩ := className_of_methodNamed hn
  have hinitY : kY.init = .initialized := Cond.initialized_spec (findClass_of_methodNamed hn) hkY h3
  have h : At T g.method c below := by rw [hg]; exact X.here
  have hlocals9 : W9 + (maxL + 11) + (headSpec ws rm).room.locals ≤ R.locals := hlocals
  have happ : (headSpec ws rm).appliesLoose y e.platform (T.calling g mk a) = true :=
    Spec.appliesLoose_calling (g := g) h hdg hn hkY hinitY (X.room_calling (g := g) (R' := (headSpec ws rm).room) hsize hmY hcY hframes (by rw [hlY]; omega) hc hs) h1
  obtain ⟨mid, hmid⟩ := h.above
  have hfr : (T.setTop g).frames = (.java g :: mid) ++ below := by rw [State.frames_setTop' g h.top, hmid]; rfl
  exact dd_call hM p X.admits X.cas X.clock (acts := acts) hfr happ hP
end DdCalls
