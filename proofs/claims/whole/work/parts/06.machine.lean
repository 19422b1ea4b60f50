/-! THE JUDGEMENT AW: 'the method M, at pc with locals ls, operand stack st and world ws, with frames for d calls more, and mc cells of ms slots to make, comes to an end that Post allows'. -/
/-- locals: the value .retAddr 0 stands for one of which nothing is known -/
def am_L (L : Array Slot) (n : Nat) (ls : List Value) : Prop := L.size = n ∧ lv_wf L ∧ ls.length = n ∧ (∀ v ∈ ls, v.category = 1) ∧ ∀ (i : Nat) (v : Value), ls[i]? = some v → v ≠ .retAddr 0 → L[i]? = some (.val v)
def am_lv (ls : List Value) : List (Nat × Value) := (ls.zipIdx.filter (fun q => decide (q.1 ≠ Value.retAddr 0))).map (fun q => (q.2, q.1))
theorem am_L.has {L : Array Slot} {n : Nat} {ls : List Value} (h : am_L L n ls) : lv_has L n (am_lv ls) := by
  refine ⟨h.1, h.2.1, fun q hq => ?_⟩
  obtain ⟨x, hx, rfl⟩ := List.mem_map.mp hq
  obtain ⟨hx1, hx2⟩ := List.mem_filter.mp hx
  exact h.2.2.2.2 x.2 x.1 (List.mk_mem_zipIdx_iff_getElem?.mp hx1) (by simpa using hx2)
theorem am_L.set {L L' : Array Slot} {n i : Nat} {ls : List Value} {x : Value} (h : am_L L n ls) (hc : x.category = 1) (h' : lv_has L' n ((i, x) :: (am_lv ls).filter (fun q => !(q.1 == i) && !(q.1 + 1 == i && q.2.category == 2)))) : am_L L' n (ls.set i x) := by
  refine ⟨h'.1, h'.2.1, by rw [List.length_set]; exact h.2.2.1, fun v hv => ?_, fun j v hj hne => ?_⟩
  · rcases List.mem_or_eq_of_mem_set hv with h1 | h1
    · exact h.2.2.2.1 v h1
    · rw [h1]; exact hc
  · refine h'.2.2 (j, v) ?_
    by_cases e : i = j
    · subst e
      have hlt : i < (ls.set i x).length := (List.getElem?_eq_some_iff.mp hj).1
      rw [List.length_set] at hlt
      rw [List.getElem?_set_self hlt] at hj
      cases hj
      exact List.mem_cons_self
    · rw [List.getElem?_set_ne e] at hj
      refine List.mem_cons_of_mem _ (List.mem_filter.mpr ⟨?_, ?_⟩)
      · exact List.mem_map.mpr ⟨(v, j), List.mem_filter.mpr ⟨List.mk_mem_zipIdx_iff_getElem?.mpr hj, by simpa using hne⟩, rfl⟩
      · have hv1 := h.2.2.2.1 v (List.mem_of_getElem? hj)
        have e2 : ¬ j = i := fun z => e z.symm
        simp [e2, hv1]
theorem am_L.at {L : Array Slot} {n i : Nat} {ls : List Value} {v : Value} (h : am_L L n ls) (hi : ls[i]? = some v) (hv : v ≠ .retAddr 0) : L[i]? = some (.val v) := h.2.2.2.2 i v hi hv
def am_cw (M : am_M) : Cond := match am_hh M with
  | [] => .code (am_y M) (am_c M) (am_nL M) (am_ret M)
  | hh => .codeWith (am_y M) (am_c M) (am_nL M) (am_ret M) hh
abbrev am_ws (M : am_M) : List Cond := am_cw M :: am_tbl
abbrev am_rm (d mc ms : Nat) : Room := { frames := d, cells := mc, slots := ms, locals := 64 * d }
/-- what the walk knows of its own frame -/
def am_F (M : am_M) (p : Program) (s : State) (m : MethodId) (args : Array Value) (meth : Method) (c : Code) : Prop :=
  p.tables.exec = Jvm.exec ∧ c.code = am_c M ∧ meth.sig.returnType = am_ret M ∧ c.maxLocals = am_nL M ∧ s.vm.findClass (am_y M).cls = some m.cls ∧ (∀ w ∈ am_tbl, w.before args s = true) ∧ meth.locks = false ∧ c.exceptionTable.toList = tableOf (am_hh M) ∧ meth.name = (am_y M).name
def am_Qc (X : am_X) (A : Nat → Prop) (Post : am_O → va_W → Prop) : Array Value → State → Outcome → State → Prop := fun _ st o t =>
  (∃ (v : Option Value) (ws' : va_W), o = .returned v ∧ Post (.inl v) ws' ∧ va_P (am_D X) am_cl ws' t.heap ∧ va_D A ws') ∧ va_F A st t
def am_XC (X : am_X) (A : Nat → Prop) (Post : am_O → va_W → Prop) : String → State → State → Prop := fun E st t =>
  (∃ ws' : va_W, Post (.inr E) ws' ∧ va_P (am_D X) am_cl ws' t.heap ∧ va_D A ws') ∧ va_F A st t
/-- what a walk is to come to: a state of the machine, said of the frame's own start -/
abbrev am_QT : Type := Program → Env → State → Array Value → List Frame → (Nat → Prop) → Nat → Nat → State → Prop
/-- .. an end of the method that P allows -/
def am_E (X : am_X) (P : am_O → va_W → Prop) : am_QT := fun _ _ s args below A kc ks => vx_MQ below (am_Qc X A P) (am_XC X A P) args s kc ks A
def AW (X : am_X) (M : am_M) (d mc ms pc : Nat) (ls st : List Value) (ws : va_W) (Post : am_QT) : Prop :=
  ∀ (p : Program) (e : Env) (R : Room) (s : State) (m : MethodId) (args : Array Value) (below : List Frame) (meth : Method) (c : Code) (H : Heap) (locs : List Loc) (cells slots : Nat) (L : Array Slot) (A : Nat → Prop) (kc ks : Nat),
    am_F M p s m args meth c → am_Gt X A s s.heap → (∀ q, s.heap.size ≤ q → A q) → d ≤ R.frames → 64 * d ≤ R.locals → cells + mc ≤ kc → slots + ms ≤ ks → kc ≤ R.cells → ks ≤ R.slots →
    va_P (am_D X) am_cl ws H → va_D A ws → va_S A s.heap H locs → am_L L (am_nL M) ls →
    W p (am_l X) e R s m args below meth c H locs cells slots (Post p e s args below A kc ks) (F0 m pc L st)
def AMet (X : am_X) (M : am_M) (d mc ms : Nat) (As : List Value) (ws : va_W) (Post : am_O → va_W → Prop) : Prop :=
  ∀ sz : Nat, vx_Met (am_l X) (am_y M) (am_ws M) (am_rm d mc ms) (va_Pc As (fun U => U.heap.size = sz ∧ va_P (am_D X) am_cl ws U.heap ∧ va_D (fun _ => True) ws ∧ am_Gt X (va_A ws sz) U U.heap)) (am_Qc X (va_A ws sz) Post) (am_XC X (va_A ws sz) Post) mc ms (va_A ws sz)
/-- less is asked of the end -/
theorem AW.imp {X : am_X} {M : am_M} {d mc ms pc : Nat} {ls st : List Value} {ws : va_W} {P P' : am_O → va_W → Prop} (h : AW X M d mc ms pc ls st ws (am_E X P)) (hp : ∀ o w, P o w → P' o w) : AW X M d mc ms pc ls st ws (am_E X P') := by
  intro p e R s m args below meth c H locs cells slots L A kc ks a1 a2 a3 a4 a5 a6 a7 a8 a9 a10 a11 a12 a13 T hT XX
  obtain ⟨t, b1, o, b2, b3, b4⟩ := h p e R s m args below meth c H locs cells slots L A kc ks a1 a2 a3 a4 a5 a6 a7 a8 a9 a10 a11 a12 a13 T hT XX
  refine ⟨t, b1, o, b2, b3, ?_⟩
  rcases b4 with ⟨⟨⟨v, w, c1, c2, c3⟩, c4⟩, c5⟩ | ⟨q, c1, E, ce, LL, ⟨⟨w, c2, c3⟩, c4⟩, c5⟩
  · exact Or.inl ⟨⟨⟨v, w, c1, hp _ _ c2, c3⟩, c4⟩, c5⟩
  · exact Or.inr ⟨q, c1, E, ce, LL, ⟨⟨w, hp _ _ c2, c3⟩, c4⟩, c5⟩
/-- more room is no harm -/
theorem AW.room {X : am_X} {M : am_M} {d d' mc mc' ms ms' pc : Nat} {ls st : List Value} {ws : va_W} {P : am_QT} (h : AW X M d mc ms pc ls st ws P) (h1 : d ≤ d') (h2 : mc ≤ mc') (h3 : ms ≤ ms') : AW X M d' mc' ms' pc ls st ws P := by
  intro p e R s m args below meth c H locs cells slots L A kc ks a1 a2 a3 a4 a5 a6 a7 a8 a9 a10 a11 a12 a13
  exact h p e R s m args below meth c H locs cells slots L A kc ks a1 a2 a3 (by omega) (by omega) (by omega) (by omega) a8 a9 a10 a11 a12 a13
/-- a method out of its walk -/
theorem AMet.of {X : am_X} {M : am_M} {d mc ms : Nat} {As : List Value} {ws : va_W} {Post : am_O → va_W → Prop} (hy : plainName (am_y M).cls = true) (hl : As.length ≤ am_nL M) (hc : ∀ v ∈ As, v.category = 1)
    (h : AW X M d mc ms 0 (As ++ List.replicate (am_nL M - As.length) (.retAddr 0)) [] ws (am_E X Post)) : AMet X M d mc ms As ws Post := by
  intro sz
  have hsl : ∀ As : List Value, (∀ v ∈ As, v.category = 1) → lg_sl As = As.map Slot.val := by
    intro As
    induction As with
    | nil => intro _; rfl
    | cons a t ih =>
      intro hc
      have h1 := ih (fun v hv => hc v (List.mem_cons_of_mem _ hv))
      have h2 : ¬ a.category = 2 := by rw [hc a List.mem_cons_self]; decide
      simp only [lg_sl, List.flatMap_cons, if_neg h2, List.map_cons] at h1 ⊢
      rw [h1]; rfl
  have hlen : (lg_sl As).length = As.length := by rw [hsl As hc, List.length_map]
  have body : ∀ p e s m args below meth c s₁, BodyLoose p (am_l X) (am_y M) (headSpec (am_ws M) (am_rm d mc ms)) (am_c M) (am_nL M) (am_ret M) e s m args below meth c s₁ → c.maxLocals = am_nL M → c.exceptionTable.toList = tableOf (am_hh M) →
      (va_Pc As (fun U => U.heap.size = sz ∧ va_P (am_D X) am_cl ws U.heap ∧ va_D (fun _ => True) ws ∧ am_Gt X (va_A ws sz) U U.heap)) args s →
      W p (am_l X) e (headSpec (am_ws M) (am_rm d mc ms)).room s m args below meth c s.heap [] 0 0 (vx_MQ below (am_Qc X (va_A ws sz) Post) (am_XC X (va_A ws sz) Post) args s mc ms (va_A ws sz)) (entryFrame m args (am_nL M)) := by
    intro p e s m args below meth c s₁ B hml ht hv
    obtain ⟨rfl, hsz, hP, hD0, hG⟩ := hv
    subst hsz
    have hts : ∀ w ∈ am_ws M, w.before As.toArray s = true := atoms_spec (ws := am_ws M) B.pre
    rw [lg_entry_eq]
    have hL := lv_entry As (n := am_nL M) (by rw [hlen]; exact hl)
    refine h p e _ s m As.toArray below meth c s.heap [] 0 0 _ (va_A ws s.heap.size) mc ms ⟨B.exec, B.bytes, B.returns, hml, findClass_of_methodNamed B.named, fun w hw => hts w (List.mem_cons_of_mem _ hw), B.notSynchronized, ht, (name_of_methodNamed B.named B.method).1⟩ hG (fun q hq => Or.inr hq) (Nat.le_refl _) (Nat.le_refl _) (by omega) (by omega) (Nat.le_refl _) (Nat.le_refl _) hP (hD0.self (sz := s.heap.size)) va_S.rf ?_
    refine ⟨hL.1, hL.2.1, by rw [List.length_append, List.length_replicate]; omega, fun v hv => ?_, fun i v hi hne => ?_⟩
    · rcases List.mem_append.mp hv with h1 | h1
      · exact hc v h1
      · rw [(List.mem_replicate.mp h1).2]; rfl
    · by_cases hi2 : i < As.length
      · rw [List.getElem?_append_left hi2] at hi
        rw [hsl As hc, List.getElem?_toArray, List.getElem?_append_left (by rw [List.length_map]; exact hi2), List.getElem?_map, hi]; rfl
      · rw [List.getElem?_append_right (by omega)] at hi
        have := List.mem_replicate.mp (List.mem_of_getElem? hi)
        exact absurd this.2 hne
  cases hh : am_hh M with
  | nil =>
    have hcw : am_cw M = Cond.code (am_y M) (am_c M) (am_nL M) (am_ret M) := by unfold am_cw; rw [hh]
    refine vx_ofW (cc := am_c M) (maxL := am_nL M) (ret := am_ret M) hy (by show am_cw M :: am_tbl = _; rw [hcw]) ?_
    intro p e s m args below meth c s₁ B hml ht hv
    refine body p e s m args below meth c s₁ B hml ?_ hv
    rw [hh]
    cases hz : c.exceptionTable.toList with
    | nil => rfl
    | cons a t => exact (ht a (by rw [hz]; exact List.mem_cons_self)).elim
  | cons a t =>
    have hcw : am_cw M = Cond.codeWith (am_y M) (am_c M) (am_nL M) (am_ret M) (am_hh M) := by unfold am_cw; rw [hh]
    refine vx_ofWH (cc := am_c M) (maxL := am_nL M) (ret := am_ret M) (hh := am_hh M) hy (by show am_cw M :: am_tbl = _; rw [hcw]) ?_
    intro p e s m args below meth c s₁ B hml hv
    refine body p e s m args below meth c s₁ B hml ?_ hv
    have hts : ∀ w ∈ am_ws M, w.before args s = true := atoms_spec (ws := am_ws M) B.pre
    have h9 := hts (am_cw M) List.mem_cons_self
    rw [hcw] at h9
    exact vx_table (x := am_y M) B h9
