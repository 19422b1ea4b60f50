/-! THE PICTURE OF THE MACHINE: every method of the class, of the reference and of the law is walked over ONE world (the list of all cells that the law's run has made), with all locals and the operand stack as lists. The words that every method may use are those of am_tbl. -/
def am_gw : Cond → Bool
  | .arrayClass _ => true
  | w => w.onTables && w.keepsFace
def am_tbl : List Cond := lw_tbl.filter am_gw
theorem am_word {args a' : Array Value} {s U : State} (hW : s.WarmedH U.vm) {w : Cond} (hg : am_gw w = true) (h : w.before args s = true) : w.before a' U = true := by
  have key : ∀ w : Cond, (w.onTables && w.keepsFace) = true → w.before args s = true → w.before a' U = true := by
    intro w hg h
    simp only [Bool.and_eq_true] at hg
    have h1 := Cond.before_shiftedFace (State.Shifted.of_warmed hW) w hg.2 h
    rw [Cond.onTables_vm (A := args) (A' := a') (U := s) (U' := U) U.vm w hg.1, State.setVm_self] at h1
    exact h1
  cases w with
  | arrayClass ty => exact word_at hW (Or.inr ⟨ty, rfl⟩) h
  | _ => exact key _ hg h
/-- the launch, the numbers of classes and slots, the array classes of int, Grammar, long; the address of UNTOLD; the script; and whether it is given that UNTOLD's array is of the class "[I" (1) or not (0) -/
abbrev am_X : Type := Launch × va_G × ClassId × ClassId × ClassId × Nat × Nat × Nat × (Nat → Int32) × Nat
abbrev am_l (X : am_X) : Launch := X.1
abbrev am_D (X : am_X) : va_G := X.2.1
abbrev am_I (X : am_X) : ClassId := X.2.2.1
abbrev am_Gr (X : am_X) : ClassId := X.2.2.2.1
abbrev am_J (X : am_X) : ClassId := X.2.2.2.2.1
abbrev am_U (X : am_X) : Nat := X.2.2.2.2.2.1
abbrev am_b (X : am_X) : Nat := X.2.2.2.2.2.2.1
abbrev am_n (X : am_X) : Nat := X.2.2.2.2.2.2.2.1
abbrev am_xs (X : am_X) : Nat → Int32 := X.2.2.2.2.2.2.2.2.1
abbrev am_ok (X : am_X) : Nat := X.2.2.2.2.2.2.2.2.2
abbrev am_tys (X : am_X) : List (ClassId × FieldType) := [(am_I X, .int), (am_Gr X, .object "SegmentForms$Grammar"), (am_J X, .long)]
/-- a method: its name, its bytes, its locals, what it returns, its table -/
abbrev am_M : Type := MethodName × ByteArray × Nat × Option FieldType × List (Nat × Nat × Nat × Nat)
abbrev am_y (M : am_M) : MethodName := M.1
abbrev am_c (M : am_M) : ByteArray := M.2.1
abbrev am_nL (M : am_M) : Nat := M.2.2.1
abbrev am_ret (M : am_M) : Option FieldType := M.2.2.2.1
abbrev am_hh (M : am_M) : List (Nat × Nat × Nat × Nat) := M.2.2.2.2
/-- how a method ends: with a value (or none), or by throwing an object of a class -/
abbrev am_O : Type := Option Value ⊕ String
abbrev am_cl : List vw_C := [(R_Check, T_Check, 8), (R_Grammar, T_Grammar, 5), (R_Layer, T_Layer, 2), (R_Message, T_Message, 6), (R_Reader, T_Reader, 4), (R_ServiceSigns, T_ServiceSigns, 1), (R_SignRow, T_SignRow, 2), (R_Writer, T_Writer, 3), (R_Forms, T_Forms, 8), (R_Model, T_Model, 33)]
/-- the signs that UNTOLD holds -/
def am_untold : Nat → Int32 := fun k => match k with
  | 0 => 58
  | 1 => 43
  | 2 => 63
  | 3 => 42
  | _ => 39
/-- UNTOLD's cell, as old as the run -/
def am_UT (X : am_X) (A : Nat → Prop) (U : State) (H : Heap) : Prop := ∃ cell : Cell, H[am_U X]? = some cell ∧ (U.isArrayOf cell .int ∧ (am_ok X = 1 → cell.cls = am_I X)) ∧ cell.vm ≠ .unknown ∧ cell.vm.isStatics = false ∧ cell.slots = (Array.ofFn (n := 5) fun j => Value.int (am_untold j.val)) ∧ ¬ A (am_U X)
theorem am_UT.kept {X : am_X} {A : Nat → Prop} {U : State} {H H1 : Heap} (h : am_UT X A U H) (hq : ∀ a : Nat, a < H.size → ¬ A a → H1[a]? = H[a]?) : am_UT X A U H1 := by
  obtain ⟨cell, h1, h2, h3, h4, h5, h6⟩ := h
  exact ⟨cell, by rw [hq _ (Array.getElem?_eq_some_iff.mp h1).1 h6]; exact h1, h2, h3, h4, h5, h6⟩
theorem am_UT.moved {X : am_X} {A : Nat → Prop} {u U : State} {H : Heap} (hvm : u.vm.Alike U.vm) (h : am_UT X A u H) : am_UT X A U H := by
  obtain ⟨cell, h1, ⟨h2, h2'⟩, h3⟩ := h
  exact ⟨cell, h1, ⟨State.isArrayOf_alike hvm h2, h2'⟩, h3⟩
theorem am_UT.narrow {X : am_X} {A B : Nat → Prop} {U : State} {H : Heap} (h : am_UT X A U H) (hAB : ∀ q, B q → A q) : am_UT X B U H := by
  obtain ⟨cell, h1, h2, h3, h4, h5, h6⟩ := h
  exact ⟨cell, h1, h2, h3, h4, h5, fun z => h6 (hAB _ z)⟩
/-- texts of exceptions: class, entry, text -/
def am_strs : List (String × Nat × String) := [("SegmentForms", 100, "no such kind or tag"), ("SegmentForms", 105, "no such least or most"), ("SegmentForms", 116, "too many rows, or no such level here"), ("SegmentForms", 161, "no such what"), ("SegmentForms", 195, "no such place"), ("SegmentForms", 207, "no message"), ("SegmentForms", 209, "no such segment")]
/-- pairs of exceptions of which the first isn't the second -/
def am_ncs : List (String × String) := [("java/lang/IllegalStateException", "java/lang/IllegalArgumentException")]
/-- FLAG 2 of am_X: the start of part 95, where UNTOLD's array is of a class 'GapInts' (number 31) whose own 'clone' never ends -/
def gx_y : MethodName := ⟨"GapInts", "clone", "()Ljava/lang/Object;"⟩
def gx_w : List Cond := [.selects "GapInts" ⟨"java/lang/Object", "clone", "()Ljava/lang/Object;"⟩ gx_y, .code gx_y ⟨#[0xa7, 0, 0]⟩ 1 (some (.object "java/lang/Object")), .initialized "GapInts", .instanceMethod gx_y]
def gx_E (X : am_X) (A : Nat → Prop) (U : State) (H : Heap) : Prop := U.vm.findClass "GapInts" = some 31 ∧ (∀ w ∈ gx_w, w.before #[] U = true) ∧ ∃ cell : Cell, H[am_U X]? = some cell ∧ cell.cls = 31 ∧ cell.vm = .none ∧ ¬ A (am_U X)
theorem gx_E.to {X : am_X} {A B : Nat → Prop} {s U : State} {H H1 : Heap} (h : gx_E X A s H) (hW : s.WarmedH U.vm) (hq : ∀ a : Nat, a < H.size → ¬ A a → H1[a]? = H[a]?) (hAB : ∀ q, B q → A q) : gx_E X B U H1 := by
  obtain ⟨h1, h2, cell, h3, h4, h5, h6⟩ := h
  have hg : ∀ w ∈ gx_w, am_gw w = true := by decide +kernel
  exact ⟨by rw [hW.alike.findClass]; exact h1, fun w hw => am_word hW (hg w hw) (h2 w hw), cell, by rw [hq _ (Array.getElem?_eq_some_iff.mp h3).1 h6]; exact h3, h4, h5, fun z => h6 (hAB _ z)⟩
/-- what holds of the tables and of old cells, wherever the law's run stands -/
def am_Gt (X : am_X) (A : Nat → Prop) (U : State) (H : Heap) : Prop :=
  va_K (am_D X) am_cl (am_tys X) U ∧ va_Z "SegmentForms$ServiceSigns" "UNTOLD" "[I" (.ref (am_U X)) A U H ∧ am_UT X A U H ∧
  vx_Zq Bundle.tN "UNASSIGNED_STACK" Bundle.steD A U H ∧ vx_Zq Bundle.tN "SUPPRESSED_SENTINEL" Bundle.listD A U H ∧
  va_X (am_b X) (am_n X) (am_xs X) U H ∧ am_b X < H.size ∧ ¬ A (am_b X) ∧
  (∀ q ∈ am_strs, ∃ sa, vk_R q.1 q.2.1 q.2.2 sa U) ∧ (∀ q ∈ am_ncs, va_Nc q.1 q.2 U) ∧ va_AO "SegmentForms$Grammar" U ∧ (am_l X).stackTraces = false ∧ (am_ok X = 2 → gx_E X A U H)
theorem am_Gt.to {X : am_X} {A B : Nat → Prop} {s U : State} {H H1 : Heap} (h : am_Gt X A s H) (hW : s.WarmedH U.vm) (hz : H.size ≤ H1.size) (hq : ∀ a : Nat, a < H.size → ¬ A a → H1[a]? = H[a]?) (hAB : ∀ q, q < H1.size → B q → A q) (hAB' : ∀ q, B q → A q) : am_Gt X B U H1 := by
  obtain ⟨h1, h2, h3, h4, h5, h6, h7, h8, h9, h10, h11, h12, h13⟩ := h
  refine ⟨va_K.moved hW.alike h1, ((va_Z.moved hW.alike h2).kept hq).narrow hAB', ((am_UT.moved hW.alike h3).kept hq).narrow hAB', ((vx_Zq.moved hW.alike h4).kept hq).narrow hAB', ((vx_Zq.moved hW.alike h5).kept hq).narrow hAB', ?_, Nat.lt_of_lt_of_le h7 hz, fun z => h8 (hAB' _ z), ?_, fun q hq' => va_Nc.moved hW.alike (h10 q hq'), va_AO.moved hW.alike h11, h12, fun hk => (h13 hk).to hW hq hAB'⟩
  · exact (va_X.moved hW.alike h6).kept (hq _ h7 h8)
  · intro q hq'
    obtain ⟨sa, hsa⟩ := h9 q hq'
    exact ⟨sa, vk_R.warm hW hsa⟩
