/-! THE START OF PART 95 NEVER ENDS -/
def dd_Q : am_QT := fun p e _ _ below _ _ _ => dd_D p e below
/-- a method that never ends, over a world -/
def dd_A (X : am_X) (M : am_M) (d mc ms : Nat) (As : List Value) (ws : va_W) : Prop :=
  ∀ sz : Nat, dd_Met (am_l X) (am_y M) (headSpec (am_ws M) (am_rm d mc ms)) (va_Pc As (fun U => U.heap.size = sz ∧ va_P (am_D X) am_cl ws U.heap ∧ va_D (fun _ => True) ws ∧ am_Gt X (va_A ws sz) U U.heap))
theorem dd_A.of {X : am_X} {M : am_M} {d mc ms : Nat} {As : List Value} {ws : va_W} (hy : plainName (am_y M).cls = true) (hh : am_hh M = []) (hl : As.length ≤ am_nL M) (hc : ∀ v ∈ As, v.category = 1)
    (h : AW X M d mc ms 0 (As ++ List.replicate (am_nL M - As.length) (.retAddr 0)) [] ws dd_Q) : dd_A X M d mc ms As ws := by
  intro sz
  have hsl : ∀ As : List Value, (∀ v ∈ As, v.category = 1) → lg_sl As = As.map Slot.val := by
    intro As
    induction As with
    | nil => intro _; rfl
    | cons a t ih =>
      intro hc
      have h1 := ih (fun v hv => hc v (List.mem_cons_of_mem _ hv))
      have h2 : ¬ a.category = 2 := by rw [hc a List.mem_cons_self]; decide
      simp only [lg_sl, List.flatMap_cons, if_neg h2, List.map_cons] at h1 ⊢
      rw [h1]; rfl
  have hlen : (lg_sl As).length = As.length := by rw [hsl As hc, List.length_map]
  have hcw : am_cw M = Cond.code (am_y M) (am_c M) (am_nL M) (am_ret M) := by unfold am_cw; rw [hh]
  refine dd_ofW (cc := am_c M) (maxL := am_nL M) (ret := am_ret M) hy (by show am_cw M :: am_tbl = _; rw [hcw]) ?_
  intro p e s m args below meth c s₁ B hml hv
  obtain ⟨rfl, hsz, hP, hD0, hG⟩ := hv
  subst hsz
  have hts : ∀ w ∈ am_ws M, w.before As.toArray s = true := atoms_spec (ws := am_ws M) B.pre
  have ht : c.exceptionTable.toList = tableOf (am_hh M) := by
    obtain ⟨meth9, c9, h1, h2, -, -, -, -, h7, -⟩ := Cond.code_spec B.named (by have := hts _ List.mem_cons_self; rw [hcw] at this; exact this)
    cases Option.some.inj (h1.symm.trans B.method)
    cases Option.some.inj (h2.symm.trans (Stand.of_body B).code)
    rw [hh, Array.isEmpty_iff.mp h7]; rfl
  rw [lg_entry_eq]
  have hL := lv_entry As (n := am_nL M) (by rw [hlen]; exact hl)
  refine h p e _ s m As.toArray below meth c s.heap [] 0 0 _ (va_A ws s.heap.size) mc ms ⟨B.exec, B.bytes, B.returns, hml, findClass_of_methodNamed B.named, fun w hw => hts w (List.mem_cons_of_mem _ hw), B.notSynchronized, ht, (name_of_methodNamed B.named B.method).1⟩ hG (fun q hq => Or.inr hq) (Nat.le_refl _) (Nat.le_refl _) (by omega) (by omega) (Nat.le_refl _) (Nat.le_refl _) hP (hD0.self (sz := s.heap.size)) va_S.rf ?_
  refine ⟨hL.1, hL.2.1, by rw [List.length_append, List.length_replicate]; omega, fun v hv => ?_, fun i v hi hne => ?_⟩
  · rcases List.mem_append.mp hv with h1 | h1
    · exact hc v h1
    · rw [(List.mem_replicate.mp h1).2]; rfl
  · by_cases hi2 : i < As.length
    · rw [List.getElem?_append_left hi2] at hi
      rw [hsl As hc, List.getElem?_toArray, List.getElem?_append_left (by rw [List.length_map]; exact hi2), List.getElem?_map, hi]; rfl
    · rw [List.getElem?_append_right (by omega)] at hi
      have := List.mem_replicate.mp (List.mem_of_getElem? hi)
      exact absurd this.2 hne
section DdWalk
variable {X : am_X} {M M' : am_M} {d d' mc ms mc' ms' pc : Nat} {ls st : List Value} {ws : va_W}
theorem aw_deadI {idx n a : Nat} {As rest : List Value} (hd : decode (am_c M) pc = .ok (.invokespecial idx, 3)) (hl : am_ci (am_y M).cls idx M' n) (hC : dd_A X M' d' mc' ms' (.ref a :: As) ws) (hn : As.length = n) (hdd : d' + 1 ≤ d) (hrest : (rest.map fun v => v.category).sum ≤ 8) : AW X M d mc' ms' pc ls (As.reverse ++ .ref a :: rest) ws dd_Q := by
  intro p e R s m args below meth c H locs cells slots L A kc ks a1 a2 a3 a4 a5 a6 a7 a8 a9 a10 a11 a12 a13
  obtain ⟨hb, hi, hnm, hret⟩ := hl
  have hpre := am_pre (As := .ref a :: As) a2 a3 a10 a11 a12
  obtain ⟨-, -, hfr, hlo, hws, hcw, hcode, hini, hy, hlen, hlink⟩ := am_CallB (M := M) (mc := mc') (ms := ms') a1.2.2.2.2.2.1 hb hdd a4 a5
  rw [hret] at hcode hcw
  intro T hT XX
  have hpl : e.platform.magicAccessors = ({} : Platform).magicAccessors := by rw [XX.admits.platform]
  obtain ⟨mk, methM, cM, kP, vm₁, hnamed, hmethM, hcodeM, -, hlocalsM, -, hkP, -, hW₁, hstep₁⟩ := Steps.initColdArgs (e := e) XX.here a1.1 XX.warmed hpl a1.2.2.2.2.1 hnm hy hlink (a1.2.2.2.2.2.1 _ hi) hcode (f := F0 m pc L (As.reverse ++ .ref a :: rest)) rfl (argsL := As) (rest := rest) (fun sig h => hn.trans (hlen sig h)) rfl (by rw [a1.2.1]; exact hd)
  have X₁ := XX.noted hW₁
  have hdead := dd_back (hC H.size) (R := R) (W9 := 8) hfr hlo (by show cells + mc' ≤ _; omega) (by show slots + ms' ≤ _; omega) hws hcw (fun a' U hW => am_word hW (by rfl) hini) X₁ (g := { F0 m pc L (As.reverse ++ .ref a :: rest) with stack := rest }) rfl (by rw [a1.2.2.2.1]; exact a13.1) (by rw [a1.2.1]; exact hd) (lv_room hrest) (X₁.named hnamed) (a := (Value.ref a :: As).toArray) (hpre.1 _ _ _ _ (hpre.2 (T.setVm vm₁) hT hW₁))
  exact ⟨_, hstep₁ _ (fun acts => by rw [doInvoke_state]; exact Steps.refl _), hdead []⟩
/-- UNTOLD.clone() at that start -/
theorem aw_deadClone {idx : Nat} {rest : List Value} (hok : am_ok X = 2) (hd : decode (am_c M) pc = .ok (.invokevirtual idx, 3)) (w1 : Cond.methodLink (am_y M).cls idx ⟨"[I", "clone", "()Ljava/lang/Object;"⟩ ∈ am_tbl) (w2 : Cond.sameMethod "[I" "java/lang/Object" "clone" "()Ljava/lang/Object;" ∈ am_tbl) (w3 : Cond.native ⟨"java/lang/Object", "clone", "()Ljava/lang/Object;"⟩ ∈ am_tbl) (w4 : Cond.instanceMethod ⟨"java/lang/Object", "clone", "()Ljava/lang/Object;"⟩ ∈ am_tbl)
    (hdd : 1 ≤ d) (hrest : (rest.map fun v => v.category).sum ≤ 8) : AW X M d mc ms pc ls (.ref (am_U X) :: rest) ws dd_Q := by
  intro p e R s m args below meth c H locs cells slots L A kc ks a1 a2 a3 a4 a5 a6 a7 a8 a9 a10 a11 a12 a13
  obtain ⟨g1, g2, cell, g3, g4, g5, g6⟩ := (a2.2.2.2.2.2.2.2.2.2.2.2.2 hok).to (State.WarmedH.refl s) a12.2.1 (fun _ h => h)
  have hts := a1.2.2.2.2.2.1
  obtain ⟨r0, r, hnO, hmO, hstO, -⟩ := Cond.instanceMethod_spec (hts _ w4)
  obtain ⟨c2, r2, m2, q1, q2, q3, q4, kP, hkP, hkPi⟩ := Cond.selects_spec (g2 _ (List.mem_cons_self))
  cases g1.symm.trans q1
  cases (State.methodFound?_of_named hnO (by decide)).symm.trans q2
  have wc : (Cond.code gx_y ⟨#[0xa7, 0, 0]⟩ 1 (some (.object "java/lang/Object"))).before #[] s = true := g2 _ (List.mem_cons_of_mem _ List.mem_cons_self)
  have wi : (Cond.initialized "GapInts").before #[] s = true := g2 _ (List.mem_cons_of_mem _ (List.mem_cons_of_mem _ List.mem_cons_self))
  have wm : (Cond.instanceMethod gx_y).before #[] s = true := g2 _ (List.mem_cons_of_mem _ (List.mem_cons_of_mem _ (List.mem_cons_of_mem _ List.mem_cons_self)))
  obtain ⟨mk, methK, hnK, hmK, hstK, habK⟩ := Cond.instanceMethod_spec wm
  cases q3.symm.trans hnK
  have hG : ∀ sz : Nat, dd_Met (am_l X) gx_y (headSpec [Cond.code gx_y ⟨#[0xa7, 0, 0]⟩ 1 (some (.object "java/lang/Object"))] (am_rm 0 0 0)) (fun _ _ => True) := by
    intro _
    refine dd_ofW (cc := ⟨#[0xa7, 0, 0]⟩) (maxL := 1) (ret := some (.object "java/lang/Object")) (by decide) rfl ?_
    intro p e s m args below meth c s₁ B hml _ T hT X
    exact ⟨_, Steps.refl _, dd_loop B.exec X.here (g := entryFrame m args 1) rfl (by rw [B.bytes]; show decode ⟨#[0xa7, 0, 0]⟩ 0 = _; decide +kernel)⟩
  intro T hT XX
  have hsel : selectMethod e.platform s.vm cell.cls r0 = .method m2 := by rw [Launch.admits_selectMethod XX.admits, g4]; exact q4
  have hsig : r.sig.parameters.length = 0 := by
    obtain ⟨r9, kO, methO, hn9, hm9, hkO, N⟩ := NativeOf.of_instance (hts _ w3) (hts _ w4) (ps := []) (ret := some (.object "java/lang/Object")) (by decide +kernel)
    cases hnO.symm.trans hn9
    cases hmO.symm.trans hm9
    rw [N.sig]; rfl
  obtain ⟨vm', X', step⟩ := XX.invokevirtualUp a1.1 a1.2.2.2.2.1 (hts _ w1) (hts _ w2) (by decide) hnO hmO hstO (a := am_U X) (cell := cell) (by rw [hT]; exact g3) (fun k h => by rw [h] at g5; cases g5) hsel hmK habK hkP hkPi (g := F0 m pc L (.ref (am_U X) :: rest)) rfl (argsL := []) (rest := rest) hsig.symm rfl (by rw [a1.2.1]; exact hd)
  have hdead := dd_back (hG 0) (R := R) (W9 := 8) (by show 0 + 1 ≤ _; omega) (by show 8 + (1 + 11) + 64 * 0 ≤ _; omega) (by show cells + 0 ≤ _; omega) (by show slots + 0 ≤ _; omega) (s := s) (fun w hw a' U hW => by
      rcases List.mem_singleton.mp hw with rfl
      exact am_word hW (by rfl) wc) List.mem_cons_self (fun a' U hW => am_word hW (by rfl) wi) X' (g := { F0 m pc L (.ref (am_U X) :: rest) with stack := rest }) rfl (by rw [a1.2.2.2.1]; exact a13.1) (by rw [a1.2.1]; exact hd) (lv_room hrest) (X'.named hnK) (a := #[Value.ref (am_U X)]) trivial
  exact ⟨_, step _ (fun acts => by rw [doInvoke_state]; exact Steps.refl _), hdead []⟩
end DdWalk

/-- SignRow(): the row and its length -/
theorem am_SignRow_init {X : am_X} {a : Nat} {ws : va_W} {q0 : Nat} (hq : ws[q0]? = some (a, .inr (6, [.null, .int 0]))) (hlt : q0 < ws.length) :
    AMet X (y_SignRow_init, c_SignRow_init, 1, none, []) 1 1 1500 [.ref a] ws (fun o w => o = .inl none ∧ ∃ q : Nat, w = ((ws ++ [(q, (Sum.inl (am_I X, 1500, Sum.inl (fun _ => 0)) : va_E))]).set q0 (a, (Sum.inr (6, [.ref q, .int 0]) : va_E)))) := by
  have f9 : am_fl "SegmentForms$SignRow" 9 6 0 true (.array .int) := ⟨R_SignRow, T_SignRow, 2, ty_SignRow, rfl, by decide, by decide +kernel, by decide +kernel, ty_SignRow_ok, rfl, nm_SignRow, rfl⟩
  have f15 : am_fl "SegmentForms$SignRow" 15 6 1 false .int := ⟨R_SignRow, T_SignRow, 2, ty_SignRow, rfl, by decide, by decide +kernel, by decide +kernel, ty_SignRow_ok, rfl, nm_SignRow, rfl⟩
  refine AMet.of (by decide) (Nat.le_of_ble_eq_true rfl) (by simp [Value.category]) ?_
  refine aw_aload_n d_SignRow_init_0 rfl ?_
  refine aw_objInit d_SignRow_init_1 (by decide +kernel) (by decide +kernel) (by decide +kernel) (by decide) (by decide) ?_
  refine aw_aload_n d_SignRow_init_4 rfl ?_
  refine aw_sipush d_SignRow_init_5 rfl ?_
  refine aw_newi (mc := 0) (ms := 0) (N := 1500) d_SignRow_init_8 (by decide) (by decide) (by decide +kernel) (fun q => ?_)
  have hq1 : (ws ++ [(q, (Sum.inl (am_I X, 1500, Sum.inl (fun _ => 0)) : va_E))])[q0]? = some (a, .inr (6, [.null, .int 0])) := by rw [List.getElem?_append_left hlt]; exact hq
  refine aw_putF d_SignRow_init_10 f9 ⟨T_SignRow, 2, rfl, rfl⟩ rfl q0 hq1 rfl rfl (by decide) ?_
  refine aw_aload_n d_SignRow_init_13 rfl ?_
  refine aw_iconst d_SignRow_init_14 rfl ?_
  refine aw_putf d_SignRow_init_15 f15 q0 (fs := [.ref q, .int 0]) (by rw [List.getElem?_set_self (by rw [List.length_append]; omega)]; rfl) rfl rfl (Nat.le_of_ble_eq_true rfl) ?_
  refine aw_vret d_SignRow_init_18 rfl ⟨rfl, q, ?_⟩
  rw [List.set_set]; rfl
/-- ServiceSigns() never ends there -/
theorem dd_ServiceSigns_init {X : am_X} (hok : am_ok X = 2) {a : Nat} {ws : va_W} : dd_A X (y_ServiceSigns_init, c_ServiceSigns_init, 1, none, []) 1 0 0 [.ref a] ws := by
  refine dd_A.of (by decide) rfl (Nat.le_of_ble_eq_true rfl) (by simp [Value.category]) ?_
  refine aw_aload_n d_ServiceSigns_init_0 rfl ?_
  refine aw_objInit d_ServiceSigns_init_1 (by decide +kernel) (by decide +kernel) (by decide +kernel) (by decide) (by decide) ?_
  refine aw_aload_n d_ServiceSigns_init_4 rfl ?_
  refine aw_gets d_ServiceSigns_init_5 (by decide +kernel) ?_
  exact aw_deadClone hok d_ServiceSigns_init_8 (by decide +kernel) (by decide +kernel) (by decide +kernel) (by decide +kernel) (by decide) (Nat.le_of_ble_eq_true rfl)

abbrev dd_row (X : am_X) : am_M := (y_SignRow_init, c_SignRow_init, 1, none, [])
/-- SegmentForms() never ends there -/
theorem dd_Forms_init {X : am_X} (hok : am_ok X = 2) {a : Nat} {ws : va_W} {q0 : Nat} (hq : ws[q0]? = some (a, .inr (8, [.null, .null, .null, .null, .null, .null, .null, .null]))) : dd_A X (y_Forms_init, c_Forms_init, 2, none, []) 2 5 3005 [.ref a] ws := by
  have hlt : q0 < ws.length := (List.getElem?_eq_some_iff.mp hq).1
  have f10 : am_fl "SegmentForms" 10 8 0 true (.object "SegmentForms$SignRow") := ⟨R_Forms, T_Forms, 8, ty_Forms, rfl, by decide, by decide +kernel, by decide +kernel, ty_Forms_ok, rfl, nm_Forms, rfl⟩
  have f16 : am_fl "SegmentForms" 16 8 1 true (.object "SegmentForms$SignRow") := ⟨R_Forms, T_Forms, 8, ty_Forms, rfl, by decide, by decide +kernel, by decide +kernel, ty_Forms_ok, rfl, nm_Forms, rfl⟩
  have c9 : am_ci "SegmentForms" 9 (y_SignRow_init, c_SignRow_init, 1, none, []) 0 := ⟨⟨by decide +kernel, by decide +kernel, by decide +kernel, rfl, by decide +kernel, by decide +kernel, by decide⟩, by decide +kernel, rfl, rfl⟩
  have c21 : am_ci "SegmentForms" 21 (y_ServiceSigns_init, c_ServiceSigns_init, 1, none, []) 0 := ⟨⟨by decide +kernel, by decide +kernel, by decide +kernel, rfl, by decide +kernel, by decide +kernel, by decide⟩, by decide +kernel, rfl, rfl⟩
  refine dd_A.of (by decide) rfl (Nat.le_of_ble_eq_true rfl) (by simp [Value.category]) ?_
  refine aw_aload_n d_Forms_init_0 rfl ?_
  refine aw_objInit d_Forms_init_1 (by decide +kernel) (by decide +kernel) (by decide +kernel) (by decide) (Nat.le_of_ble_eq_true rfl) ?_
  refine aw_aload_n d_Forms_init_4 rfl ?_
  refine aw_new (ci := 6) (mc := 4) (ms := 3003) (fs := [.null, .int 0]) d_Forms_init_5 rfl (by decide +kernel) ty_SignRow_ok (by decide +kernel) (by decide +kernel) (by decide +kernel) (fun j hj => by rcases (show j = 0 ∨ j = 1 by omega) with rfl | rfl <;> rfl) (fun q1 => ?_)
  refine aw_dup d_Forms_init_8 rfl ?_
  refine aw_callI (As := []) (mc := 3) (ms := 1503) d_Forms_init_9 c9 (am_SignRow_init (q0 := ws.length) (by simp) (by simp)) rfl (by decide) (Nat.le_of_ble_eq_true rfl) (fun v w1 hw1 => ?_) (fun E w h => by cases h.1)
  obtain ⟨hv, r1, rfl⟩ := hw1
  cases hv
  refine aw_putF d_Forms_init_12 f10 ⟨T_Forms, 8, rfl, rfl⟩ rfl q0 (fs := [.null, .null, .null, .null, .null, .null, .null, .null]) (by rw [List.getElem?_set_ne (by omega), List.getElem?_append_left (by rw [List.length_append]; omega), List.getElem?_append_left hlt]; exact hq) rfl rfl (Nat.le_of_ble_eq_true rfl) ?_
  refine aw_aload_n d_Forms_init_15 rfl ?_
  refine aw_new (ci := 6) (mc := 2) (ms := 1501) (fs := [.null, .int 0]) d_Forms_init_16 rfl (by decide +kernel) ty_SignRow_ok (by decide +kernel) (by decide +kernel) (by decide +kernel) (fun j hj => by rcases (show j = 0 ∨ j = 1 by omega) with rfl | rfl <;> rfl) (fun q2 => ?_)
  refine aw_dup d_Forms_init_19 rfl ?_
  refine aw_callI (As := []) (mc := 1) (ms := 1) d_Forms_init_20 c9 (am_SignRow_init (q0 := ws.length + 2) (by simp) (by simp)) rfl (by decide) (Nat.le_of_ble_eq_true rfl) (fun v w2 hw2 => ?_) (fun E w h => by cases h.1)
  obtain ⟨hv, r2, rfl⟩ := hw2
  cases hv
  refine aw_putF d_Forms_init_23 f16 ⟨T_Forms, 8, rfl, rfl⟩ rfl q0 (fs := [.ref q1, .null, .null, .null, .null, .null, .null, .null]) (by rw [List.getElem?_set_ne (by omega), List.getElem?_append_left (by simp; omega), List.getElem?_append_left (by simp; omega), List.getElem?_set_self (by simp; omega)]; rfl) rfl rfl (Nat.le_of_ble_eq_true rfl) ?_
  refine aw_aload_n d_Forms_init_26 rfl ?_
  refine aw_new (ci := 5) (mc := 0) (ms := 0) (fs := [.null]) d_Forms_init_27 rfl (by decide +kernel) ty_ServiceSigns_ok (by decide +kernel) (by decide +kernel) (by decide +kernel) (fun j hj => by rcases (show j = 0 by omega) with rfl; rfl) (fun q3 => ?_)
  refine aw_dup d_Forms_init_30 rfl ?_
  exact aw_deadI (As := []) d_Forms_init_31 c21 (dd_ServiceSigns_init hok) rfl (by decide) (Nat.le_of_ble_eq_true rfl)
/-- the law never ends there -/
theorem dd_Law_law {X : am_X} (hok : am_ok X = 2) : dd_A X (y_Law_law, c_Law_law, 7, (some .boolean), []) 3 6 3013 [.ref (am_b X)] [] := by
  have c50 : am_ci "SegmentFormsLaw" 50 (y_Forms_init, c_Forms_init, 2, none, []) 0 := ⟨⟨by decide +kernel, by decide +kernel, by decide +kernel, rfl, by decide +kernel, by decide +kernel, by decide⟩, by decide +kernel, rfl, rfl⟩
  refine dd_A.of (by decide) rfl (Nat.le_of_ble_eq_true rfl) (by simp [Value.category]) ?_
  refine aw_new (ci := 8) (mc := 5) (ms := 3005) (fs := [.null, .null, .null, .null, .null, .null, .null, .null]) d_Law_law_0 rfl (by decide +kernel) ty_Forms_ok (by decide +kernel) (by decide +kernel) (by decide +kernel) (fun j hj => by rcases (show j = 0 ∨ j = 1 ∨ j = 2 ∨ j = 3 ∨ j = 4 ∨ j = 5 ∨ j = 6 ∨ j = 7 by omega) with rfl | rfl | rfl | rfl | rfl | rfl | rfl | rfl <;> rfl) (fun q => ?_)
  refine aw_dup d_Law_law_3 rfl ?_
  exact aw_deadI (As := []) d_Law_law_4 c50 (dd_Forms_init hok (q0 := 0) rfl) rfl (by decide) (Nat.le_of_ble_eq_true rfl)
