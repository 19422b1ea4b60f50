/-! WHAT THE STATEMENT GIVES AT THE LAW'S ENTRY, in the picture's words -/
theorem am_len {args : Array Value} {s : State} {t : Term} {z : Int32} {N : Nat} (hz : z = nI N) (hN : N < 2 ^ 31) (h : (Term.length t).eval args s none [] s = some (.int z)) : ∃ a cell, t.eval args s none [] s = some (.ref a) ∧ s.arrayAt? a = some cell ∧ cell.slots.size = N := by
  simp only [Term.eval, Option.bind_eq_bind] at h
  cases ht : t.eval args s none [] s with
  | none => simp [ht] at h
  | some x =>
    cases x <;> simp [ht] at h
    case ref a =>
      obtain ⟨cell, hcell, h⟩ := Option.bind_eq_some_iff.mp h
      by_cases hn : cell.slots.size < 2147483648
      · rw [if_pos hn] at h
        cases h
        refine ⟨a, cell, rfl, hcell, ?_⟩
        have e1 : nI cell.slots.size = nI N := hz
        have e2 := congrArg Int32.toNatClampNeg e1
        rwa [nI_clamp hn, nI_clamp hN] at e2
      · rw [if_neg hn] at h; cases h
theorem am_untold_at {args : Array Value} {s : State} (h : (Jvm.Cond.and given_1 narrow_1).before args s = true) : ∃ tU cell, (Term.static "SegmentForms$ServiceSigns" "UNTOLD" "[I").eval args s none [] s = some (.ref tU) ∧ s.heap[tU]? = some cell ∧ s.isArrayOf cell .int ∧ cell.vm ≠ .unknown ∧ cell.vm.isStatics = false ∧ cell.slots = (Array.ofFn (n := 5) fun j => Value.int (am_untold j.val)) := by
  have hs := flat_of_before _ h
  have harr : (Cond.arrayOf (.static "SegmentForms$ServiceSigns" "UNTOLD" "[I") .int).before args s = true := hs _ (by decide +kernel)
  have hlen : (Cond.eq (.length (.static "SegmentForms$ServiceSigns" "UNTOLD" "[I")) (.int 5)).before args s = true := hs _ (by decide +kernel)
  have h0 : (Cond.eq (.elem (.static "SegmentForms$ServiceSigns" "UNTOLD" "[I") (.int 0)) (.int 58)).before args s = true := hs _ (by decide +kernel)
  have h1 : (Cond.eq (.elem (.static "SegmentForms$ServiceSigns" "UNTOLD" "[I") (.int 1)) (.int 43)).before args s = true := hs _ (by decide +kernel)
  have h2 : (Cond.eq (.elem (.static "SegmentForms$ServiceSigns" "UNTOLD" "[I") (.int 2)) (.int 63)).before args s = true := hs _ (by decide +kernel)
  have h3 : (Cond.eq (.elem (.static "SegmentForms$ServiceSigns" "UNTOLD" "[I") (.int 3)) (.int 42)).before args s = true := hs _ (by decide +kernel)
  have h4 : (Cond.eq (.elem (.static "SegmentForms$ServiceSigns" "UNTOLD" "[I") (.int 4)) (.int 39)).before args s = true := hs _ (by decide +kernel)
  obtain ⟨a, cell, ht, hat, hsz⟩ := am_len (N := 5) rfl (by decide) (va_eqt hlen)
  obtain ⟨hcell, hkn, hst, -⟩ := State.arrayAt?_spec hat
  obtain ⟨hof, -⟩ := Cond.arrayOf_spec harr ht hcell
  have el : ∀ (j : Nat) (z v : Int32), z = nI j → j < 2 ^ 31 → (Term.elem (.static "SegmentForms$ServiceSigns" "UNTOLD" "[I") (.int z)).eval args s none [] s = some (.int v) → cell.slots[j]? = some (.int v) := by
    intro j z v hz hj he
    obtain ⟨a2, i, cell2, g1, g2, g3, g4, g5⟩ := Term.elem_spec he
    cases ht.symm.trans g1
    cases hat.symm.trans g3
    have e : (Term.int z).eval args s none [] s = some (.int z) := rfl
    cases g2.symm.trans e
    rw [hz, nI_clamp hj] at g5
    exact g5
  have e0 := el 0 0 58 rfl (by decide) (va_eqt h0)
  have e1 := el 1 1 43 rfl (by decide) (va_eqt h1)
  have e2 := el 2 2 63 rfl (by decide) (va_eqt h2)
  have e3 := el 3 3 42 rfl (by decide) (va_eqt h3)
  have e4 := el 4 4 39 rfl (by decide) (va_eqt h4)
  refine ⟨a, cell, ht, hcell, hof, hkn, hst, ?_⟩
  refine Array.ext_getElem? fun i => ?_
  rw [Array.getElem?_ofFn]
  by_cases hi : i < 5
  · rw [dif_pos hi]
    rcases (show i = 0 ∨ i = 1 ∨ i = 2 ∨ i = 3 ∨ i = 4 by omega) with rfl | rfl | rfl | rfl | rfl
    · exact e0
    · exact e1
    · exact e2
    · exact e3
    · exact e4
  · rw [dif_neg hi]
    exact Array.getElem?_eq_none (by omega)
/-- the start: 'k' is the flag; at 1 it must be given that UNTOLD's array is of the class "[I", at 2 what gx_E says -/
theorem am_begin {l : Launch} {args : Array Value} {s : State} {b L : Nat} {xs : Nat → Int32} (hl : l.stackTraces = false) (hts : ∀ w ∈ lw_tbl, w.before args s = true) (hgv : (Jvm.Cond.and given_1 narrow_1).before args s = true) (hX : va_X b L xs s s.heap) (hbl : b < s.heap.size) (k : Nat)
    (hk1 : k = 1 → ∀ (tU : Nat) (cell : Cell), (Term.static "SegmentForms$ServiceSigns" "UNTOLD" "[I").eval args s none [] s = some (.ref tU) → s.heap[tU]? = some cell → s.vm.findClass "[I" = some cell.cls)
    (hk2 : k = 2 → ∀ (X : am_X), (Term.static "SegmentForms$ServiceSigns" "UNTOLD" "[I").eval args s none [] s = some (.ref (am_U X)) → gx_E X (fun q => s.heap.size ≤ q) s s.heap) :
    ∃ (D : va_G) (cI cG cJ : ClassId) (tU : Nat), am_Gt (l, D, cI, cG, cJ, tU, b, L, xs, k) (fun q => s.heap.size ≤ q) s s.heap := by
  have hs := flat_of_before _ hgv
  have hA : ∀ a : Nat, a < s.heap.size → ¬ (fun q : Nat => s.heap.size ≤ q) a := fun a h => Nat.not_le.mpr h
  obtain ⟨c0, i0, k0⟩ := u_known (C := R_Check) (T := T_Check) (N := 8) (n := 8) hts (by decide +kernel) (hts (.instantiable R_Check 8) (by decide +kernel))
  obtain ⟨c1, i1, k1⟩ := u_known (C := R_Grammar) (T := T_Grammar) (N := 5) (n := 5) hts (by decide +kernel) (hts (.instantiable R_Grammar 5) (by decide +kernel))
  obtain ⟨c2, i2, k2⟩ := u_known (C := R_Layer) (T := T_Layer) (N := 2) (n := 2) hts (by decide +kernel) (hts (.instantiable R_Layer 2) (by decide +kernel))
  obtain ⟨c3, i3, k3⟩ := u_known (C := R_Message) (T := T_Message) (N := 6) (n := 6) hts (by decide +kernel) (hts (.instantiable R_Message 6) (by decide +kernel))
  obtain ⟨c4, i4, k4⟩ := u_known (C := R_Reader) (T := T_Reader) (N := 4) (n := 4) hts (by decide +kernel) (hts (.instantiable R_Reader 4) (by decide +kernel))
  obtain ⟨c5, i5, k5⟩ := u_known (C := R_ServiceSigns) (T := T_ServiceSigns) (N := 1) (n := 1) hts (by decide +kernel) (hts (.instantiable R_ServiceSigns 1) (by decide +kernel))
  obtain ⟨c6, i6, k6⟩ := u_known (C := R_SignRow) (T := T_SignRow) (N := 2) (n := 2) hts (by decide +kernel) (hts (.instantiable R_SignRow 2) (by decide +kernel))
  obtain ⟨c7, i7, k7⟩ := u_known (C := R_Writer) (T := T_Writer) (N := 3) (n := 3) hts (by decide +kernel) (hts (.instantiable R_Writer 3) (by decide +kernel))
  obtain ⟨c8, i8, k8⟩ := u_known (C := R_Forms) (T := T_Forms) (N := 8) (n := 8) hts (by decide +kernel) (hts (.instantiable R_Forms 8) (by decide +kernel))
  obtain ⟨c9, i9, k9⟩ := u_known (C := R_Model) (T := T_Model) (N := 33) (n := 33) hts (by decide +kernel) (hts (.instantiable R_Model 33) (by decide +kernel))
  obtain ⟨cI, kI, pI, hI1, hI2, hI3⟩ := Cond.arrayClass_spec (type := .int) (hts (.arrayClass .int) (by decide +kernel))
  obtain ⟨cJ, kJ, pJ, hJ1, hJ2, hJ3⟩ := Cond.arrayClass_spec (type := .long) (hts (.arrayClass .long) (by decide +kernel))
  have hAO : (Cond.arrayOver (.object "SegmentForms$Grammar")).before args s = true := hts _ (by decide +kernel)
  obtain ⟨pG, cG, kG, hG1, -, hG3, hG4, hG5⟩ := Cond.arrayOver_spec hAO
  obtain ⟨tU, cell, hU, hUc, hUa, hUk, hUs, hUv⟩ := am_untold_at hgv
  have hUlt : tU < s.heap.size := (Array.getElem?_eq_some_iff.mp hUc).1
  refine ⟨(fun j => [c0, c1, c2, c3, c4, c5, c6, c7, c8, c9].getD j 0, fun j => [i0, i1, i2, i3, i4, i5, i6, i7, i8, i9].getD j (fun _ => 0)), cI, cG, cJ, tU, ⟨?_, ?_⟩, ?_, ?_, ?_, ?_, hX, hbl, hA b hbl, ?_, ?_, va_AO.of hAO, hl, fun hk => hk2 hk _ hU⟩
  · intro j q hq
    match j, hq with
    | 0, hq => cases hq; exact k0
    | 1, hq => cases hq; exact k1
    | 2, hq => cases hq; exact k2
    | 3, hq => cases hq; exact k3
    | 4, hq => cases hq; exact k4
    | 5, hq => cases hq; exact k5
    | 6, hq => cases hq; exact k6
    | 7, hq => cases hq; exact k7
    | 8, hq => cases hq; exact k8
    | 9, hq => cases hq; exact k9
    | j + 10, hq => simp [am_cl] at hq
  · intro j q hq
    match j, hq with
    | 0, hq => cases hq; exact ⟨fun n z => ⟨fun k h => (by cases h), kI, hI2, pI, hI3⟩, hI1⟩
    | 1, hq => cases hq; exact ⟨fun n z => ⟨fun k h => (by cases h), kG, hG3, pG, hG4⟩, kG, pG, hG3, hG4, hG1, hG5⟩
    | 2, hq => cases hq; exact ⟨fun n z => ⟨fun k h => (by cases h), kJ, hJ2, pJ, hJ3⟩, hJ1⟩
    | j + 3, hq => simp [am_tys] at hq
  · exact va_Zof (hts _ (by decide +kernel)) (hts _ (by decide +kernel)) hU hA
  · refine ⟨cell, hUc, ⟨hUa, fun hk => ?_⟩, hUk, hUs, hUv, hA tU hUlt⟩
    have e1 := hk1 hk tU cell hU hUc
    have e2 := va_nm_int (s := s) (cA := cI) hI1
    exact Option.some.inj (e1.symm.trans e2)
  · exact vx_Zqof (hts _ (by decide +kernel)) (hts _ (by decide +kernel)) (hs _ (by decide +kernel)) hA
  · exact vx_Zqof (hts _ (by decide +kernel)) (hts _ (by decide +kernel)) (hs _ (by decide +kernel)) hA
  · intro q hq
    have hex : ∀ i : Nat, ∀ tx : String, (Cond.stringRef "SegmentForms" i tx).before args s = true → (Cond.exactly (.string "SegmentForms" i) "java/lang/String").before args s = true → ∃ sa, vk_R "SegmentForms" i tx sa s := by
      intro i tx g1 g2
      have g3 : ∃ sa, (Term.string "SegmentForms" i).eval args s none [] s = some (.ref sa) := by
        cases hv : (Term.string "SegmentForms" i).eval args s none [] s with
        | none => simp [Cond.before, Cond.holds, Cond.value, hv] at g2
        | some v =>
          cases v with
          | ref sa => exact ⟨sa, rfl⟩
          | _ => cases hc : s.vm.findClass "java/lang/String" <;> simp [Cond.before, Cond.holds, Cond.value, hv, hc] at g2
      obtain ⟨sa, g3⟩ := g3
      exact ⟨sa, vk_R.of g1 g3⟩
    simp only [am_strs, List.mem_cons, List.not_mem_nil, or_false] at hq
    rcases hq with rfl | rfl | rfl | rfl | rfl | rfl | rfl <;> exact hex _ _ (hts _ (by decide +kernel)) (hs _ (by decide +kernel))
  · intro q hq
    simp only [am_ncs, List.mem_cons, List.not_mem_nil, or_false] at hq
    subst hq
    exact va_Nc.of (hs (.not (.castable "java/lang/IllegalStateException" "java/lang/IllegalArgumentException")) (by decide +kernel))
