section AwRows
variable {X : am_X} {M : am_M} {d mc ms pc : Nat} {ls st : List Value} {ws : va_W} {Post : am_QT} {P : am_O → va_W → Prop}
theorem aw_iconst {n : Int} {v : Int32} (hd : decode (am_c M) pc = .ok (.iconst n, 1)) (hv : Int32.ofInt n = v) (k : AW X M d mc ms (pc + 1) ls (.int v :: st) ws Post) : AW X M d mc ms pc ls st ws Post := by
  intro p e R s m args below meth c H locs cells slots L A kc ks a1 a2 a3 a4 a5 a6 a7 a8 a9 a10 a11 a12 a13
  exact lv_iconst a1.1 a1.2.1 hd hv (k p e R s m args below meth c H locs cells slots L A kc ks a1 a2 a3 a4 a5 a6 a7 a8 a9 a10 a11 a12 a13)
theorem aw_bipush {n : Int} {v : Int32} (hd : decode (am_c M) pc = .ok (.bipush n, 2)) (hv : (Int8.ofInt n).toInt32 = v) (k : AW X M d mc ms (pc + 2) ls (.int v :: st) ws Post) : AW X M d mc ms pc ls st ws Post := by
  intro p e R s m args below meth c H locs cells slots L A kc ks a1 a2 a3 a4 a5 a6 a7 a8 a9 a10 a11 a12 a13
  exact lv_bipush a1.1 a1.2.1 hd hv (k p e R s m args below meth c H locs cells slots L A kc ks a1 a2 a3 a4 a5 a6 a7 a8 a9 a10 a11 a12 a13)
theorem aw_sipush {n : Int} {v : Int32} (hd : decode (am_c M) pc = .ok (.sipush n, 3)) (hv : (Int16.ofInt n).toInt32 = v) (k : AW X M d mc ms (pc + 3) ls (.int v :: st) ws Post) : AW X M d mc ms pc ls st ws Post := by
  intro p e R s m args below meth c H locs cells slots L A kc ks a1 a2 a3 a4 a5 a6 a7 a8 a9 a10 a11 a12 a13
  exact lv_sipush a1.1 a1.2.1 hd hv (k p e R s m args below meth c H locs cells slots L A kc ks a1 a2 a3 a4 a5 a6 a7 a8 a9 a10 a11 a12 a13)
theorem aw_null  (hd : decode (am_c M) pc = .ok (.aconst_null, 1)) (k : AW X M d mc ms (pc + 1) ls (.null :: st) ws Post) : AW X M d mc ms pc ls st ws Post := by
  intro p e R s m args below meth c H locs cells slots L A kc ks a1 a2 a3 a4 a5 a6 a7 a8 a9 a10 a11 a12 a13
  exact lv_null a1.1 a1.2.1 hd (k p e R s m args below meth c H locs cells slots L A kc ks a1 a2 a3 a4 a5 a6 a7 a8 a9 a10 a11 a12 a13)
theorem aw_ldc {i : Nat} {v : Int32} (hd : decode (am_c M) pc = .ok (.ldc i, 2)) (hc : Cond.constant (am_y M).cls i v ∈ am_tbl) (k : AW X M d mc ms (pc + 2) ls (.int v :: st) ws Post) : AW X M d mc ms pc ls st ws Post := by
  intro p e R s m args below meth c H locs cells slots L A kc ks a1 a2 a3 a4 a5 a6 a7 a8 a9 a10 a11 a12 a13
  exact lv_ldc a1.1 a1.2.1 a1.2.2.2.2.1 (a1.2.2.2.2.2.1 _ hc) hd (k p e R s m args below meth c H locs cells slots L A kc ks a1 a2 a3 a4 a5 a6 a7 a8 a9 a10 a11 a12 a13)
theorem aw_iload_n {i : Fin 4} {x : Int32} (hd : decode (am_c M) pc = .ok (.iload_n i, 1)) (hl : ls[(i : Nat)]? = some (.int x)) (k : AW X M d mc ms (pc + 1) ls (.int x :: st) ws Post) : AW X M d mc ms pc ls st ws Post := by
  intro p e R s m args below meth c H locs cells slots L A kc ks a1 a2 a3 a4 a5 a6 a7 a8 a9 a10 a11 a12 a13
  exact lv_iload_n a1.1 a1.2.1 hd rfl (a13.at hl (by simp)) (k p e R s m args below meth c H locs cells slots L A kc ks a1 a2 a3 a4 a5 a6 a7 a8 a9 a10 a11 a12 a13)
theorem aw_iload {i : Nat} {x : Int32} (hd : decode (am_c M) pc = .ok (.iload i, 2)) (hl : ls[i]? = some (.int x)) (k : AW X M d mc ms (pc + 2) ls (.int x :: st) ws Post) : AW X M d mc ms pc ls st ws Post := by
  intro p e R s m args below meth c H locs cells slots L A kc ks a1 a2 a3 a4 a5 a6 a7 a8 a9 a10 a11 a12 a13
  exact lv_iload a1.1 a1.2.1 hd (a13.at hl (by simp)) (k p e R s m args below meth c H locs cells slots L A kc ks a1 a2 a3 a4 a5 a6 a7 a8 a9 a10 a11 a12 a13)
theorem aw_aload_n {i : Fin 4} {x : Nat} (hd : decode (am_c M) pc = .ok (.aload_n i, 1)) (hl : ls[(i : Nat)]? = some (.ref x)) (k : AW X M d mc ms (pc + 1) ls (.ref x :: st) ws Post) : AW X M d mc ms pc ls st ws Post := by
  intro p e R s m args below meth c H locs cells slots L A kc ks a1 a2 a3 a4 a5 a6 a7 a8 a9 a10 a11 a12 a13
  exact lv_aload_n a1.1 a1.2.1 hd rfl (a13.at hl (by simp)) (k p e R s m args below meth c H locs cells slots L A kc ks a1 a2 a3 a4 a5 a6 a7 a8 a9 a10 a11 a12 a13)
theorem aw_aload {i : Nat} {x : Nat} (hd : decode (am_c M) pc = .ok (.aload i, 2)) (hl : ls[i]? = some (.ref x)) (k : AW X M d mc ms (pc + 2) ls (.ref x :: st) ws Post) : AW X M d mc ms pc ls st ws Post := by
  intro p e R s m args below meth c H locs cells slots L A kc ks a1 a2 a3 a4 a5 a6 a7 a8 a9 a10 a11 a12 a13
  exact lv_aload a1.1 a1.2.1 hd (a13.at hl (by simp)) (k p e R s m args below meth c H locs cells slots L A kc ks a1 a2 a3 a4 a5 a6 a7 a8 a9 a10 a11 a12 a13)
theorem aw_aload_nN {i : Fin 4} (hd : decode (am_c M) pc = .ok (.aload_n i, 1)) (hl : ls[(i : Nat)]? = some (.null)) (k : AW X M d mc ms (pc + 1) ls (.null :: st) ws Post) : AW X M d mc ms pc ls st ws Post := by
  intro p e R s m args below meth c H locs cells slots L A kc ks a1 a2 a3 a4 a5 a6 a7 a8 a9 a10 a11 a12 a13
  exact lv_aload_nN a1.1 a1.2.1 hd rfl (a13.at hl (by simp)) (k p e R s m args below meth c H locs cells slots L A kc ks a1 a2 a3 a4 a5 a6 a7 a8 a9 a10 a11 a12 a13)
theorem aw_aloadN {i : Nat} (hd : decode (am_c M) pc = .ok (.aload i, 2)) (hl : ls[i]? = some (.null)) (k : AW X M d mc ms (pc + 2) ls (.null :: st) ws Post) : AW X M d mc ms pc ls st ws Post := by
  intro p e R s m args below meth c H locs cells slots L A kc ks a1 a2 a3 a4 a5 a6 a7 a8 a9 a10 a11 a12 a13
  exact lv_aloadN a1.1 a1.2.1 hd (a13.at hl (by simp)) (k p e R s m args below meth c H locs cells slots L A kc ks a1 a2 a3 a4 a5 a6 a7 a8 a9 a10 a11 a12 a13)
theorem aw_istore_n {i : Fin 4} {x : Int32} (hd : decode (am_c M) pc = .ok (.istore_n i, 1)) (hi : (i : Nat) < am_nL M) (k : AW X M d mc ms (pc + 1) (ls.set (i : Nat) (.int x)) st ws Post) : AW X M d mc ms pc ls (.int x :: st) ws Post := by
  intro p e R s m args below meth c H locs cells slots L A kc ks a1 a2 a3 a4 a5 a6 a7 a8 a9 a10 a11 a12 a13
  exact lv_istore_n a1.1 a1.2.1 hd rfl a13.has hi rfl (fun L2 h2 => k p e R s m args below meth c H locs cells slots L2 A kc ks a1 a2 a3 a4 a5 a6 a7 a8 a9 a10 a11 a12 (a13.set rfl h2))
theorem aw_istore {i : Nat} {x : Int32} (hd : decode (am_c M) pc = .ok (.istore i, 2)) (hi : i < am_nL M) (k : AW X M d mc ms (pc + 2) (ls.set i (.int x)) st ws Post) : AW X M d mc ms pc ls (.int x :: st) ws Post := by
  intro p e R s m args below meth c H locs cells slots L A kc ks a1 a2 a3 a4 a5 a6 a7 a8 a9 a10 a11 a12 a13
  exact lv_istore a1.1 a1.2.1 hd a13.has hi rfl (fun L2 h2 => k p e R s m args below meth c H locs cells slots L2 A kc ks a1 a2 a3 a4 a5 a6 a7 a8 a9 a10 a11 a12 (a13.set rfl h2))
theorem aw_astore_n {i : Fin 4} {x : Nat} (hd : decode (am_c M) pc = .ok (.astore_n i, 1)) (hi : (i : Nat) < am_nL M) (k : AW X M d mc ms (pc + 1) (ls.set (i : Nat) (.ref x)) st ws Post) : AW X M d mc ms pc ls (.ref x :: st) ws Post := by
  intro p e R s m args below meth c H locs cells slots L A kc ks a1 a2 a3 a4 a5 a6 a7 a8 a9 a10 a11 a12 a13
  exact lv_astore_n a1.1 a1.2.1 hd rfl a13.has hi rfl (fun L2 h2 => k p e R s m args below meth c H locs cells slots L2 A kc ks a1 a2 a3 a4 a5 a6 a7 a8 a9 a10 a11 a12 (a13.set rfl h2))
theorem aw_astore {i : Nat} {x : Nat} (hd : decode (am_c M) pc = .ok (.astore i, 2)) (hi : i < am_nL M) (k : AW X M d mc ms (pc + 2) (ls.set i (.ref x)) st ws Post) : AW X M d mc ms pc ls (.ref x :: st) ws Post := by
  intro p e R s m args below meth c H locs cells slots L A kc ks a1 a2 a3 a4 a5 a6 a7 a8 a9 a10 a11 a12 a13
  exact lv_astore a1.1 a1.2.1 hd a13.has hi rfl (fun L2 h2 => k p e R s m args below meth c H locs cells slots L2 A kc ks a1 a2 a3 a4 a5 a6 a7 a8 a9 a10 a11 a12 (a13.set rfl h2))
theorem aw_astore_nN {i : Fin 4} (hd : decode (am_c M) pc = .ok (.astore_n i, 1)) (hi : (i : Nat) < am_nL M) (k : AW X M d mc ms (pc + 1) (ls.set (i : Nat) (.null)) st ws Post) : AW X M d mc ms pc ls (.null :: st) ws Post := by
  intro p e R s m args below meth c H locs cells slots L A kc ks a1 a2 a3 a4 a5 a6 a7 a8 a9 a10 a11 a12 a13
  exact lv_astore_nN a1.1 a1.2.1 hd rfl a13.has hi rfl (fun L2 h2 => k p e R s m args below meth c H locs cells slots L2 A kc ks a1 a2 a3 a4 a5 a6 a7 a8 a9 a10 a11 a12 (a13.set rfl h2))
theorem aw_astoreN {i : Nat} (hd : decode (am_c M) pc = .ok (.astore i, 2)) (hi : i < am_nL M) (k : AW X M d mc ms (pc + 2) (ls.set i (.null)) st ws Post) : AW X M d mc ms pc ls (.null :: st) ws Post := by
  intro p e R s m args below meth c H locs cells slots L A kc ks a1 a2 a3 a4 a5 a6 a7 a8 a9 a10 a11 a12 a13
  exact lv_astoreN a1.1 a1.2.1 hd a13.has hi rfl (fun L2 h2 => k p e R s m args below meth c H locs cells slots L2 A kc ks a1 a2 a3 a4 a5 a6 a7 a8 a9 a10 a11 a12 (a13.set rfl h2))
theorem aw_iinc {i : Nat} {n : Int} {x v : Int32} (hd : decode (am_c M) pc = .ok (.iinc i n, 3)) (hl : ls[i]? = some (.int x)) (hv : x + Int32.ofInt n = v) (k : AW X M d mc ms (pc + 3) (ls.set i (.int v)) st ws Post) : AW X M d mc ms pc ls st ws Post := by
  intro p e R s m args below meth c H locs cells slots L A kc ks a1 a2 a3 a4 a5 a6 a7 a8 a9 a10 a11 a12 a13
  have hi : i < am_nL M := by rw [← a13.2.2.1]; exact (List.getElem?_eq_some_iff.mp hl).1
  have hm : (i, Value.int x) ∈ am_lv ls := List.mem_map.mpr ⟨(.int x, i), List.mem_filter.mpr ⟨List.mk_mem_zipIdx_iff_getElem?.mpr hl, by simp⟩, rfl⟩
  obtain ⟨q, hq⟩ := List.getElem?_of_mem hm
  exact lv_iinc a1.1 a1.2.1 hd a13.has (k := q) hq hv hi rfl (fun L2 h2 => k p e R s m args below meth c H locs cells slots L2 A kc ks a1 a2 a3 a4 a5 a6 a7 a8 a9 a10 a11 a12 (a13.set rfl h2))
theorem aw_iadd {x y : Int32} (hd : decode (am_c M) pc = .ok (.iadd, 1)) (k : AW X M d mc ms (pc + 1) ls (.int (x + y) :: st) ws Post) : AW X M d mc ms pc ls (.int y :: .int x :: st) ws Post := by
  intro p e R s m args below meth c H locs cells slots L A kc ks a1 a2 a3 a4 a5 a6 a7 a8 a9 a10 a11 a12 a13
  exact lv_iadd a1.1 a1.2.1 hd (k p e R s m args below meth c H locs cells slots L A kc ks a1 a2 a3 a4 a5 a6 a7 a8 a9 a10 a11 a12 a13)
theorem aw_isub {x y : Int32} (hd : decode (am_c M) pc = .ok (.isub, 1)) (k : AW X M d mc ms (pc + 1) ls (.int (x - y) :: st) ws Post) : AW X M d mc ms pc ls (.int y :: .int x :: st) ws Post := by
  intro p e R s m args below meth c H locs cells slots L A kc ks a1 a2 a3 a4 a5 a6 a7 a8 a9 a10 a11 a12 a13
  exact lv_isub a1.1 a1.2.1 hd (k p e R s m args below meth c H locs cells slots L A kc ks a1 a2 a3 a4 a5 a6 a7 a8 a9 a10 a11 a12 a13)
theorem aw_imul {x y : Int32} (hd : decode (am_c M) pc = .ok (.imul, 1)) (k : AW X M d mc ms (pc + 1) ls (.int (x * y) :: st) ws Post) : AW X M d mc ms pc ls (.int y :: .int x :: st) ws Post := by
  intro p e R s m args below meth c H locs cells slots L A kc ks a1 a2 a3 a4 a5 a6 a7 a8 a9 a10 a11 a12 a13
  exact lv_imul a1.1 a1.2.1 hd (k p e R s m args below meth c H locs cells slots L A kc ks a1 a2 a3 a4 a5 a6 a7 a8 a9 a10 a11 a12 a13)
theorem aw_iand {x y : Int32} (hd : decode (am_c M) pc = .ok (.iand, 1)) (k : AW X M d mc ms (pc + 1) ls (.int (x &&& y) :: st) ws Post) : AW X M d mc ms pc ls (.int y :: .int x :: st) ws Post := by
  intro p e R s m args below meth c H locs cells slots L A kc ks a1 a2 a3 a4 a5 a6 a7 a8 a9 a10 a11 a12 a13
  exact lv_iand a1.1 a1.2.1 hd (k p e R s m args below meth c H locs cells slots L A kc ks a1 a2 a3 a4 a5 a6 a7 a8 a9 a10 a11 a12 a13)
theorem aw_ishr {x y : Int32} (hd : decode (am_c M) pc = .ok (.ishr, 1)) (k : AW X M d mc ms (pc + 1) ls (.int (x >>> (y &&& 31)) :: st) ws Post) : AW X M d mc ms pc ls (.int y :: .int x :: st) ws Post := by
  intro p e R s m args below meth c H locs cells slots L A kc ks a1 a2 a3 a4 a5 a6 a7 a8 a9 a10 a11 a12 a13
  exact lv_ishr a1.1 a1.2.1 hd (k p e R s m args below meth c H locs cells slots L A kc ks a1 a2 a3 a4 a5 a6 a7 a8 a9 a10 a11 a12 a13)
theorem aw_idiv {x y : Int32} (hd : decode (am_c M) pc = .ok (.idiv, 1)) (hne : ¬ y = 0) (k : AW X M d mc ms (pc + 1) ls (.int (x / y) :: st) ws Post) : AW X M d mc ms pc ls (.int y :: .int x :: st) ws Post := by
  intro p e R s m args below meth c H locs cells slots L A kc ks a1 a2 a3 a4 a5 a6 a7 a8 a9 a10 a11 a12 a13
  exact lv_idiv a1.1 a1.2.1 hd hne (k p e R s m args below meth c H locs cells slots L A kc ks a1 a2 a3 a4 a5 a6 a7 a8 a9 a10 a11 a12 a13)
theorem aw_irem {x y : Int32} (hd : decode (am_c M) pc = .ok (.irem, 1)) (hne : ¬ y = 0) (k : AW X M d mc ms (pc + 1) ls (.int (x - x / y * y) :: st) ws Post) : AW X M d mc ms pc ls (.int y :: .int x :: st) ws Post := by
  intro p e R s m args below meth c H locs cells slots L A kc ks a1 a2 a3 a4 a5 a6 a7 a8 a9 a10 a11 a12 a13
  exact lv_irem a1.1 a1.2.1 hd hne (k p e R s m args below meth c H locs cells slots L A kc ks a1 a2 a3 a4 a5 a6 a7 a8 a9 a10 a11 a12 a13)
theorem aw_i2l {x : Int32} (hd : decode (am_c M) pc = .ok (.i2l, 1)) (k : AW X M d mc ms (pc + 1) ls (.long x.toInt64 :: st) ws Post) : AW X M d mc ms pc ls (.int x :: st) ws Post := by
  intro p e R s m args below meth c H locs cells slots L A kc ks a1 a2 a3 a4 a5 a6 a7 a8 a9 a10 a11 a12 a13
  exact lv_i2l a1.1 a1.2.1 hd rfl (k p e R s m args below meth c H locs cells slots L A kc ks a1 a2 a3 a4 a5 a6 a7 a8 a9 a10 a11 a12 a13)
theorem aw_lcmp {x y : Int64} (hd : decode (am_c M) pc = .ok (.lcmp, 1)) (k : AW X M d mc ms (pc + 1) ls (.int (lg_cmp x y) :: st) ws Post) : AW X M d mc ms pc ls (.long y :: .long x :: st) ws Post := by
  intro p e R s m args below meth c H locs cells slots L A kc ks a1 a2 a3 a4 a5 a6 a7 a8 a9 a10 a11 a12 a13
  exact W.lcmp a1.1 a1.2.1 hd (k p e R s m args below meth c H locs cells slots L A kc ks a1 a2 a3 a4 a5 a6 a7 a8 a9 a10 a11 a12 a13)
theorem aw_dup {v : Value} (hd : decode (am_c M) pc = .ok (.dup, 1)) (hv : v.category = 1) (k : AW X M d mc ms (pc + 1) ls (v :: v :: st) ws Post) : AW X M d mc ms pc ls (v :: st) ws Post := by
  intro p e R s m args below meth c H locs cells slots L A kc ks a1 a2 a3 a4 a5 a6 a7 a8 a9 a10 a11 a12 a13
  exact lv_dup a1.1 a1.2.1 hd hv (k p e R s m args below meth c H locs cells slots L A kc ks a1 a2 a3 a4 a5 a6 a7 a8 a9 a10 a11 a12 a13)
theorem aw_dup2 {v u : Value} (hd : decode (am_c M) pc = .ok (.dup2, 1)) (hv : v.category = 1) (hu : u.category = 1) (k : AW X M d mc ms (pc + 1) ls (v :: u :: v :: u :: st) ws Post) : AW X M d mc ms pc ls (v :: u :: st) ws Post := by
  intro p e R s m args below meth c H locs cells slots L A kc ks a1 a2 a3 a4 a5 a6 a7 a8 a9 a10 a11 a12 a13
  exact lv_dup2_11 a1.1 a1.2.1 hd hv hu (k p e R s m args below meth c H locs cells slots L A kc ks a1 a2 a3 a4 a5 a6 a7 a8 a9 a10 a11 a12 a13)
theorem aw_pop {v : Value} (hd : decode (am_c M) pc = .ok (.pop, 1)) (hv : v.category = 1) (k : AW X M d mc ms (pc + 1) ls st ws Post) : AW X M d mc ms pc ls (v :: st) ws Post := by
  intro p e R s m args below meth c H locs cells slots L A kc ks a1 a2 a3 a4 a5 a6 a7 a8 a9 a10 a11 a12 a13
  exact lv_pop a1.1 a1.2.1 hd hv (k p e R s m args below meth c H locs cells slots L A kc ks a1 a2 a3 a4 a5 a6 a7 a8 a9 a10 a11 a12 a13)
theorem aw_if_eq {x : Int32} {off : Int} (hd : decode (am_c M) pc = .ok (.ifCond .eq off, 3)) (tgt : Nat) (ht : (pc : Int) + off = (tgt : Int)) (kt : x = 0 → AW X M d mc ms tgt ls st ws Post) (kf : ¬ x = 0 → AW X M d mc ms (pc + 3) ls st ws Post) : AW X M d mc ms pc ls (.int x :: st) ws Post := by
  intro p e R s m args below meth c H locs cells slots L A kc ks a1 a2 a3 a4 a5 a6 a7 a8 a9 a10 a11 a12 a13
  exact lv_if_eq a1.1 a1.2.1 hd ht (fun h => kt h p e R s m args below meth c H locs cells slots L A kc ks a1 a2 a3 a4 a5 a6 a7 a8 a9 a10 a11 a12 a13) (fun h => kf h p e R s m args below meth c H locs cells slots L A kc ks a1 a2 a3 a4 a5 a6 a7 a8 a9 a10 a11 a12 a13)
theorem aw_icmp_eq {x y : Int32} {off : Int} (hd : decode (am_c M) pc = .ok (.if_icmp .eq off, 3)) (tgt : Nat) (ht : (pc : Int) + off = (tgt : Int)) (kt : x = y → AW X M d mc ms tgt ls st ws Post) (kf : ¬ x = y → AW X M d mc ms (pc + 3) ls st ws Post) : AW X M d mc ms pc ls (.int y :: .int x :: st) ws Post := by
  intro p e R s m args below meth c H locs cells slots L A kc ks a1 a2 a3 a4 a5 a6 a7 a8 a9 a10 a11 a12 a13
  exact lv_icmp_eq a1.1 a1.2.1 hd ht (fun h => kt h p e R s m args below meth c H locs cells slots L A kc ks a1 a2 a3 a4 a5 a6 a7 a8 a9 a10 a11 a12 a13) (fun h => kf h p e R s m args below meth c H locs cells slots L A kc ks a1 a2 a3 a4 a5 a6 a7 a8 a9 a10 a11 a12 a13)
theorem aw_if_ne {x : Int32} {off : Int} (hd : decode (am_c M) pc = .ok (.ifCond .ne off, 3)) (tgt : Nat) (ht : (pc : Int) + off = (tgt : Int)) (kt : ¬ x = 0 → AW X M d mc ms tgt ls st ws Post) (kf : x = 0 → AW X M d mc ms (pc + 3) ls st ws Post) : AW X M d mc ms pc ls (.int x :: st) ws Post := by
  intro p e R s m args below meth c H locs cells slots L A kc ks a1 a2 a3 a4 a5 a6 a7 a8 a9 a10 a11 a12 a13
  exact lv_if_ne a1.1 a1.2.1 hd ht (fun h => kt h p e R s m args below meth c H locs cells slots L A kc ks a1 a2 a3 a4 a5 a6 a7 a8 a9 a10 a11 a12 a13) (fun h => kf h p e R s m args below meth c H locs cells slots L A kc ks a1 a2 a3 a4 a5 a6 a7 a8 a9 a10 a11 a12 a13)
theorem aw_icmp_ne {x y : Int32} {off : Int} (hd : decode (am_c M) pc = .ok (.if_icmp .ne off, 3)) (tgt : Nat) (ht : (pc : Int) + off = (tgt : Int)) (kt : ¬ x = y → AW X M d mc ms tgt ls st ws Post) (kf : x = y → AW X M d mc ms (pc + 3) ls st ws Post) : AW X M d mc ms pc ls (.int y :: .int x :: st) ws Post := by
  intro p e R s m args below meth c H locs cells slots L A kc ks a1 a2 a3 a4 a5 a6 a7 a8 a9 a10 a11 a12 a13
  exact lv_icmp_ne a1.1 a1.2.1 hd ht (fun h => kt h p e R s m args below meth c H locs cells slots L A kc ks a1 a2 a3 a4 a5 a6 a7 a8 a9 a10 a11 a12 a13) (fun h => kf h p e R s m args below meth c H locs cells slots L A kc ks a1 a2 a3 a4 a5 a6 a7 a8 a9 a10 a11 a12 a13)
theorem aw_if_lt {x : Int32} {off : Int} (hd : decode (am_c M) pc = .ok (.ifCond .lt off, 3)) (tgt : Nat) (ht : (pc : Int) + off = (tgt : Int)) (kt : x < 0 → AW X M d mc ms tgt ls st ws Post) (kf : ¬ x < 0 → AW X M d mc ms (pc + 3) ls st ws Post) : AW X M d mc ms pc ls (.int x :: st) ws Post := by
  intro p e R s m args below meth c H locs cells slots L A kc ks a1 a2 a3 a4 a5 a6 a7 a8 a9 a10 a11 a12 a13
  exact lv_if_lt a1.1 a1.2.1 hd ht (fun h => kt h p e R s m args below meth c H locs cells slots L A kc ks a1 a2 a3 a4 a5 a6 a7 a8 a9 a10 a11 a12 a13) (fun h => kf h p e R s m args below meth c H locs cells slots L A kc ks a1 a2 a3 a4 a5 a6 a7 a8 a9 a10 a11 a12 a13)
theorem aw_icmp_lt {x y : Int32} {off : Int} (hd : decode (am_c M) pc = .ok (.if_icmp .lt off, 3)) (tgt : Nat) (ht : (pc : Int) + off = (tgt : Int)) (kt : x < y → AW X M d mc ms tgt ls st ws Post) (kf : ¬ x < y → AW X M d mc ms (pc + 3) ls st ws Post) : AW X M d mc ms pc ls (.int y :: .int x :: st) ws Post := by
  intro p e R s m args below meth c H locs cells slots L A kc ks a1 a2 a3 a4 a5 a6 a7 a8 a9 a10 a11 a12 a13
  exact lv_icmp_lt a1.1 a1.2.1 hd ht (fun h => kt h p e R s m args below meth c H locs cells slots L A kc ks a1 a2 a3 a4 a5 a6 a7 a8 a9 a10 a11 a12 a13) (fun h => kf h p e R s m args below meth c H locs cells slots L A kc ks a1 a2 a3 a4 a5 a6 a7 a8 a9 a10 a11 a12 a13)
theorem aw_if_ge {x : Int32} {off : Int} (hd : decode (am_c M) pc = .ok (.ifCond .ge off, 3)) (tgt : Nat) (ht : (pc : Int) + off = (tgt : Int)) (kt : 0 ≤ x → AW X M d mc ms tgt ls st ws Post) (kf : ¬ 0 ≤ x → AW X M d mc ms (pc + 3) ls st ws Post) : AW X M d mc ms pc ls (.int x :: st) ws Post := by
  intro p e R s m args below meth c H locs cells slots L A kc ks a1 a2 a3 a4 a5 a6 a7 a8 a9 a10 a11 a12 a13
  exact lv_if_ge a1.1 a1.2.1 hd ht (fun h => kt h p e R s m args below meth c H locs cells slots L A kc ks a1 a2 a3 a4 a5 a6 a7 a8 a9 a10 a11 a12 a13) (fun h => kf h p e R s m args below meth c H locs cells slots L A kc ks a1 a2 a3 a4 a5 a6 a7 a8 a9 a10 a11 a12 a13)
theorem aw_icmp_ge {x y : Int32} {off : Int} (hd : decode (am_c M) pc = .ok (.if_icmp .ge off, 3)) (tgt : Nat) (ht : (pc : Int) + off = (tgt : Int)) (kt : y ≤ x → AW X M d mc ms tgt ls st ws Post) (kf : ¬ y ≤ x → AW X M d mc ms (pc + 3) ls st ws Post) : AW X M d mc ms pc ls (.int y :: .int x :: st) ws Post := by
  intro p e R s m args below meth c H locs cells slots L A kc ks a1 a2 a3 a4 a5 a6 a7 a8 a9 a10 a11 a12 a13
  exact lv_icmp_ge a1.1 a1.2.1 hd ht (fun h => kt h p e R s m args below meth c H locs cells slots L A kc ks a1 a2 a3 a4 a5 a6 a7 a8 a9 a10 a11 a12 a13) (fun h => kf h p e R s m args below meth c H locs cells slots L A kc ks a1 a2 a3 a4 a5 a6 a7 a8 a9 a10 a11 a12 a13)
theorem aw_if_gt {x : Int32} {off : Int} (hd : decode (am_c M) pc = .ok (.ifCond .gt off, 3)) (tgt : Nat) (ht : (pc : Int) + off = (tgt : Int)) (kt : 0 < x → AW X M d mc ms tgt ls st ws Post) (kf : ¬ 0 < x → AW X M d mc ms (pc + 3) ls st ws Post) : AW X M d mc ms pc ls (.int x :: st) ws Post := by
  intro p e R s m args below meth c H locs cells slots L A kc ks a1 a2 a3 a4 a5 a6 a7 a8 a9 a10 a11 a12 a13
  exact lv_if_gt a1.1 a1.2.1 hd ht (fun h => kt h p e R s m args below meth c H locs cells slots L A kc ks a1 a2 a3 a4 a5 a6 a7 a8 a9 a10 a11 a12 a13) (fun h => kf h p e R s m args below meth c H locs cells slots L A kc ks a1 a2 a3 a4 a5 a6 a7 a8 a9 a10 a11 a12 a13)
theorem aw_icmp_gt {x y : Int32} {off : Int} (hd : decode (am_c M) pc = .ok (.if_icmp .gt off, 3)) (tgt : Nat) (ht : (pc : Int) + off = (tgt : Int)) (kt : y < x → AW X M d mc ms tgt ls st ws Post) (kf : ¬ y < x → AW X M d mc ms (pc + 3) ls st ws Post) : AW X M d mc ms pc ls (.int y :: .int x :: st) ws Post := by
  intro p e R s m args below meth c H locs cells slots L A kc ks a1 a2 a3 a4 a5 a6 a7 a8 a9 a10 a11 a12 a13
  exact lv_icmp_gt a1.1 a1.2.1 hd ht (fun h => kt h p e R s m args below meth c H locs cells slots L A kc ks a1 a2 a3 a4 a5 a6 a7 a8 a9 a10 a11 a12 a13) (fun h => kf h p e R s m args below meth c H locs cells slots L A kc ks a1 a2 a3 a4 a5 a6 a7 a8 a9 a10 a11 a12 a13)
theorem aw_if_le {x : Int32} {off : Int} (hd : decode (am_c M) pc = .ok (.ifCond .le off, 3)) (tgt : Nat) (ht : (pc : Int) + off = (tgt : Int)) (kt : x ≤ 0 → AW X M d mc ms tgt ls st ws Post) (kf : ¬ x ≤ 0 → AW X M d mc ms (pc + 3) ls st ws Post) : AW X M d mc ms pc ls (.int x :: st) ws Post := by
  intro p e R s m args below meth c H locs cells slots L A kc ks a1 a2 a3 a4 a5 a6 a7 a8 a9 a10 a11 a12 a13
  exact lv_if_le a1.1 a1.2.1 hd ht (fun h => kt h p e R s m args below meth c H locs cells slots L A kc ks a1 a2 a3 a4 a5 a6 a7 a8 a9 a10 a11 a12 a13) (fun h => kf h p e R s m args below meth c H locs cells slots L A kc ks a1 a2 a3 a4 a5 a6 a7 a8 a9 a10 a11 a12 a13)
theorem aw_icmp_le {x y : Int32} {off : Int} (hd : decode (am_c M) pc = .ok (.if_icmp .le off, 3)) (tgt : Nat) (ht : (pc : Int) + off = (tgt : Int)) (kt : x ≤ y → AW X M d mc ms tgt ls st ws Post) (kf : ¬ x ≤ y → AW X M d mc ms (pc + 3) ls st ws Post) : AW X M d mc ms pc ls (.int y :: .int x :: st) ws Post := by
  intro p e R s m args below meth c H locs cells slots L A kc ks a1 a2 a3 a4 a5 a6 a7 a8 a9 a10 a11 a12 a13
  exact lv_icmp_le a1.1 a1.2.1 hd ht (fun h => kt h p e R s m args below meth c H locs cells slots L A kc ks a1 a2 a3 a4 a5 a6 a7 a8 a9 a10 a11 a12 a13) (fun h => kf h p e R s m args below meth c H locs cells slots L A kc ks a1 a2 a3 a4 a5 a6 a7 a8 a9 a10 a11 a12 a13)
theorem aw_goto {off : Int} (hd : decode (am_c M) pc = .ok (.goto off, 3)) (tgt : Nat) (ht : (pc : Int) + off = (tgt : Int)) (k : AW X M d mc ms tgt ls st ws Post) : AW X M d mc ms pc ls st ws Post := by
  intro p e R s m args below meth c H locs cells slots L A kc ks a1 a2 a3 a4 a5 a6 a7 a8 a9 a10 a11 a12 a13
  exact lv_goto a1.1 a1.2.1 hd ht (k p e R s m args below meth c H locs cells slots L A kc ks a1 a2 a3 a4 a5 a6 a7 a8 a9 a10 a11 a12 a13)
theorem aw_ifnull {x : Nat} {off : Int} (hd : decode (am_c M) pc = .ok (.ifnull off, 3)) (k : AW X M d mc ms (pc + 3) ls st ws Post) : AW X M d mc ms pc ls (.ref x :: st) ws Post := by
  intro p e R s m args below meth c H locs cells slots L A kc ks a1 a2 a3 a4 a5 a6 a7 a8 a9 a10 a11 a12 a13
  exact lv_ifnull a1.1 a1.2.1 hd (k p e R s m args below meth c H locs cells slots L A kc ks a1 a2 a3 a4 a5 a6 a7 a8 a9 a10 a11 a12 a13)
theorem aw_ifnullN {off : Int} (hd : decode (am_c M) pc = .ok (.ifnull off, 3)) (tgt : Nat) (ht : (pc : Int) + off = (tgt : Int)) (k : AW X M d mc ms tgt ls st ws Post) : AW X M d mc ms pc ls (.null :: st) ws Post := by
  intro p e R s m args below meth c H locs cells slots L A kc ks a1 a2 a3 a4 a5 a6 a7 a8 a9 a10 a11 a12 a13
  exact lv_ifnullN a1.1 a1.2.1 hd ht (k p e R s m args below meth c H locs cells slots L A kc ks a1 a2 a3 a4 a5 a6 a7 a8 a9 a10 a11 a12 a13)
theorem aw_ifnonnull {x : Nat} {off : Int} (hd : decode (am_c M) pc = .ok (.ifnonnull off, 3)) (tgt : Nat) (ht : (pc : Int) + off = (tgt : Int)) (k : AW X M d mc ms tgt ls st ws Post) : AW X M d mc ms pc ls (.ref x :: st) ws Post := by
  intro p e R s m args below meth c H locs cells slots L A kc ks a1 a2 a3 a4 a5 a6 a7 a8 a9 a10 a11 a12 a13
  exact lv_ifnonnull a1.1 a1.2.1 hd ht (k p e R s m args below meth c H locs cells slots L A kc ks a1 a2 a3 a4 a5 a6 a7 a8 a9 a10 a11 a12 a13)
theorem aw_ifnonnullN {off : Int} (hd : decode (am_c M) pc = .ok (.ifnonnull off, 3)) (k : AW X M d mc ms (pc + 3) ls st ws Post) : AW X M d mc ms pc ls (.null :: st) ws Post := by
  intro p e R s m args below meth c H locs cells slots L A kc ks a1 a2 a3 a4 a5 a6 a7 a8 a9 a10 a11 a12 a13
  exact lv_ifnonnullN a1.1 a1.2.1 hd (k p e R s m args below meth c H locs cells slots L A kc ks a1 a2 a3 a4 a5 a6 a7 a8 a9 a10 a11 a12 a13)
theorem aw_tableIn {dflt lo hi : Int} {offs : Array Int} {len : Nat} {x : Int32} {off : Int} (hd : decode (am_c M) pc = .ok (.tableswitch dflt lo hi offs, len)) (tgt : Nat) (h1 : ¬ x.toInt < lo) (h2 : ¬ hi < x.toInt) (ho : offs[(x.toInt - lo).toNat]? = some off) (ht : (pc : Int) + off = (tgt : Int)) (k : AW X M d mc ms tgt ls st ws Post) : AW X M d mc ms pc ls (.int x :: st) ws Post := by
  intro p e R s m args below meth c H locs cells slots L A kc ks a1 a2 a3 a4 a5 a6 a7 a8 a9 a10 a11 a12 a13
  exact lv_tableIn a1.1 a1.2.1 hd h1 h2 ho ht (k p e R s m args below meth c H locs cells slots L A kc ks a1 a2 a3 a4 a5 a6 a7 a8 a9 a10 a11 a12 a13)
theorem aw_tableOut {dflt lo hi : Int} {offs : Array Int} {len : Nat} {x : Int32} (hd : decode (am_c M) pc = .ok (.tableswitch dflt lo hi offs, len)) (tgt : Nat) (h : x.toInt < lo ∨ hi < x.toInt) (ht : (pc : Int) + dflt = (tgt : Int)) (k : AW X M d mc ms tgt ls st ws Post) : AW X M d mc ms pc ls (.int x :: st) ws Post := by
  intro p e R s m args below meth c H locs cells slots L A kc ks a1 a2 a3 a4 a5 a6 a7 a8 a9 a10 a11 a12 a13
  exact lv_tableOut a1.1 a1.2.1 hd h ht (k p e R s m args below meth c H locs cells slots L A kc ks a1 a2 a3 a4 a5 a6 a7 a8 a9 a10 a11 a12 a13)
/-- the entry 'idx' of the class 'own' is the field k of the class ci: its name's words are among am_tbl -/
def am_fl (own : String) (idx ci k : Nat) (fin : Bool) (ty : FieldType) : Prop := ∃ (C : String) (T : u_T) (N : Nat) (ty0 : Nat → FieldType), am_cl[ci]? = some (C, T, N) ∧ k < N ∧ Cond.fieldLink own idx (T k).1 (T k).2.1 (T k).2.2.1 ∈ am_tbl ∧ (∀ w ∈ u_ws C T N, w ∈ am_tbl) ∧ (∀ j, j < N → parseFieldDescriptor (T j).2.2.1 = some (ty0 j)) ∧ ty0 k = ty ∧ (∀ a, a < N → ∀ b, b < N → a ≠ b → (T a).2.1 ≠ (T b).2.1) ∧ (T k).2.2.2 = fin
theorem aw_getf {idx ci j : Nat} {fin : Bool} {ty : FieldType} {a : Nat} {fs : List Value} {v : Value} (hd : decode (am_c M) pc = .ok (.getfield idx, 3)) (hf : am_fl (am_y M).cls idx ci j fin ty) (q0 : Nat) (hc : ws[q0]? = some (a, .inr (ci, fs))) (hv : fs[j]? = some v) (k : AW X M d mc ms (pc + 3) ls (v :: st) ws Post) : AW X M d mc ms pc ls (.ref a :: st) ws Post := by
  intro p e R s m args below meth c H locs cells slots L A kc ks a1 a2 a3 a4 a5 a6 a7 a8 a9 a10 a11 a12 a13
  obtain ⟨C, T, N, ty0, h1, h2, h3, h4, -⟩ := hf
  exact va_get a1.1 a1.2.1 a1.2.2.2.2.2.1 h4 a1.2.2.2.2.1 a2.1 a10 q0 hc h1 j h2 (a1.2.2.2.2.2.1 _ h3) (fun _ h9 => h9) hv hd (k p e R s m args below meth c H locs cells slots L A kc ks a1 a2 a3 a4 a5 a6 a7 a8 a9 a10 a11 a12 a13)
theorem aw_putf {idx ci j : Nat} {ty : FieldType} {a : Nat} {fs : List Value} {v : Value} (hd : decode (am_c M) pc = .ok (.putfield idx, 3)) (hf : am_fl (am_y M).cls idx ci j false ty) (q0 : Nat) (hc : ws[q0]? = some (a, .inr (ci, fs))) (hn : narrow ty v = v) (hfit : fits ty v = true) (hj : j < fs.length) (k : AW X M d mc ms (pc + 3) ls st (ws.set q0 (a, .inr (ci, fs.set j v))) Post) : AW X M d mc ms pc ls (v :: .ref a :: st) ws Post := by
  intro p e R s m args below meth c H locs cells slots L A kc ks a1 a2 a3 a4 a5 a6 a7 a8 a9 a10 a11 a12 a13
  obtain ⟨C, T, N, ty0, h1, h2, h3, h4, h5, h6, h7, h8⟩ := hf
  exact va_put a1.1 a1.2.1 a1.2.2.2.2.2.1 h4 ty0 h5 h7 a1.2.2.2.2.1 a2.1 a10 a11 a12 q0 hc h1 j h2 (a1.2.2.2.2.2.1 _ h3) (fun _ h9 => h9) h8 (h5 j h2) (by rw [h6]; exact hn) (by rw [h6]; exact hfit) hj hd (fun H1 locs1 b1 b2 b3 => k p e R s m args below meth c H1 locs1 cells slots L A kc ks a1 a2 a3 a4 a5 a6 a7 a8 a9 b1 b2 b3 a13)
/-- a final field in its own class' constructor -/
theorem aw_putF {idx ci j : Nat} {ty : FieldType} {a : Nat} {fs : List Value} {v : Value} (hd : decode (am_c M) pc = .ok (.putfield idx, 3)) (hf : am_fl (am_y M).cls idx ci j true ty) (hO : ∃ (T : u_T) (N : Nat), am_cl[ci]? = some ((am_y M).cls, T, N) ∧ (T j).1 = (am_y M).cls) (hi : (am_y M).name = "<init>") (q0 : Nat) (hc : ws[q0]? = some (a, .inr (ci, fs))) (hn : narrow ty v = v) (hfit : fits ty v = true) (hj : j < fs.length) (k : AW X M d mc ms (pc + 3) ls st (ws.set q0 (a, .inr (ci, fs.set j v))) Post) : AW X M d mc ms pc ls (v :: .ref a :: st) ws Post := by
  intro p e R s m args below meth c H locs cells slots L A kc ks a1 a2 a3 a4 a5 a6 a7 a8 a9 a10 a11 a12 a13
  obtain ⟨C, T, N, ty0, h1, h2, h3, h4, h5, h6, h7, h8⟩ := hf
  obtain ⟨T', N', g1, g2⟩ := hO
  cases h1.symm.trans g1
  exact va_putF a1.1 a1.2.1 a1.2.2.2.2.2.1 h4 ty0 h5 h7 a1.2.2.2.2.1 a2.1 a10 a11 a12 q0 hc h1 j h2 (a1.2.2.2.2.2.1 _ h3) (fun _ h9 => h9) h8 (a1.2.2.2.2.2.2.2.2.trans hi) g2 (h5 j h2) (by rw [h6]; exact hn) (by rw [h6]; exact hfit) hj hd (fun H1 locs1 b1 b2 b3 => k p e R s m args below meth c H1 locs1 cells slots L A kc ks a1 a2 a3 a4 a5 a6 a7 a8 a9 b1 b2 b3 a13)
theorem aw_iald {a n : Nat} {f : Nat → Int32} {i : Int32} (hd : decode (am_c M) pc = .ok (.iaload, 1)) (q0 : Nat) (hc : ws[q0]? = some (a, .inl (am_I X, n, .inl f))) (j : Nat) (hi : i = nI j) (hj : j < n) (hn : n < 2 ^ 31) (k : AW X M d mc ms (pc + 1) ls (.int (f j) :: st) ws Post) : AW X M d mc ms pc ls (.int i :: .ref a :: st) ws Post := by
  intro p e R s m args below meth c H locs cells slots L A kc ks a1 a2 a3 a4 a5 a6 a7 a8 a9 a10 a11 a12 a13
  subst hi
  refine va_iald a1.1 a1.2.1 a2.1 a10 q0 0 hc rfl (vp_in_nI hj hn) hd ?_
  rw [nI_clamp (Nat.lt_trans hj hn)]
  exact k p e R s m args below meth c H locs cells slots L A kc ks a1 a2 a3 a4 a5 a6 a7 a8 a9 a10 a11 a12 a13
theorem aw_iast {a n : Nat} {f : Nat → Int32} {i x : Int32} (hd : decode (am_c M) pc = .ok (.iastore, 1)) (q0 : Nat) (hc : ws[q0]? = some (a, .inl (am_I X, n, .inl f))) (j : Nat) (hi : i = nI j) (hj : j < n) (hn : n < 2 ^ 31) (k : AW X M d mc ms (pc + 1) ls st (ws.set q0 (a, .inl (am_I X, n, .inl (upd f j x)))) Post) : AW X M d mc ms pc ls (.int x :: .int i :: .ref a :: st) ws Post := by
  intro p e R s m args below meth c H locs cells slots L A kc ks a1 a2 a3 a4 a5 a6 a7 a8 a9 a10 a11 a12 a13
  subst hi
  refine va_iast a1.1 a1.2.1 a2.1 a10 a11 a12 q0 0 hc rfl (vp_in_nI hj hn) hd (fun H1 locs1 b1 b2 b3 => ?_)
  rw [nI_clamp (Nat.lt_trans hj hn)] at b1 b2
  exact k p e R s m args below meth c H1 locs1 cells slots L A kc ks a1 a2 a3 a4 a5 a6 a7 a8 a9 b1 b2 b3 a13
theorem aw_lald {a n : Nat} {f : Nat → Int64} {i : Int32} (hd : decode (am_c M) pc = .ok (.laload, 1)) (q0 : Nat) (hc : ws[q0]? = some (a, .inl (am_J X, n, .inr (.inl f)))) (j : Nat) (hi : i = nI j) (hj : j < n) (hn : n < 2 ^ 31) (k : AW X M d mc ms (pc + 1) ls (.long (f j) :: st) ws Post) : AW X M d mc ms pc ls (.int i :: .ref a :: st) ws Post := by
  intro p e R s m args below meth c H locs cells slots L A kc ks a1 a2 a3 a4 a5 a6 a7 a8 a9 a10 a11 a12 a13
  subst hi
  refine va_lald a1.1 a1.2.1 a2.1 a10 q0 2 hc rfl (vp_in_nI hj hn) hd ?_
  rw [nI_clamp (Nat.lt_trans hj hn)]
  exact k p e R s m args below meth c H locs cells slots L A kc ks a1 a2 a3 a4 a5 a6 a7 a8 a9 a10 a11 a12 a13
theorem aw_last {a n : Nat} {f : Nat → Int64} {i : Int32} {x : Int64} (hd : decode (am_c M) pc = .ok (.lastore, 1)) (q0 : Nat) (hc : ws[q0]? = some (a, .inl (am_J X, n, .inr (.inl f)))) (j : Nat) (hi : i = nI j) (hj : j < n) (hn : n < 2 ^ 31) (k : AW X M d mc ms (pc + 1) ls st (ws.set q0 (a, .inl (am_J X, n, .inr (.inl (vp_updL f j x))))) Post) : AW X M d mc ms pc ls (.long x :: .int i :: .ref a :: st) ws Post := by
  intro p e R s m args below meth c H locs cells slots L A kc ks a1 a2 a3 a4 a5 a6 a7 a8 a9 a10 a11 a12 a13
  subst hi
  refine va_last a1.1 a1.2.1 a2.1 a10 a11 a12 q0 2 hc rfl (vp_in_nI hj hn) hd (fun H1 locs1 b1 b2 b3 => ?_)
  rw [nI_clamp (Nat.lt_trans hj hn)] at b1 b2
  exact k p e R s m args below meth c H1 locs1 cells slots L A kc ks a1 a2 a3 a4 a5 a6 a7 a8 a9 b1 b2 b3 a13
theorem aw_alen {a n : Nat} {f : Nat → Int32} (hd : decode (am_c M) pc = .ok (.arraylength, 1)) (q0 : Nat) (hc : ws[q0]? = some (a, .inl (am_I X, n, .inl f))) (k : AW X M d mc ms (pc + 1) ls (.int (nI n) :: st) ws Post) : AW X M d mc ms pc ls (.ref a :: st) ws Post := by
  intro p e R s m args below meth c H locs cells slots L A kc ks a1 a2 a3 a4 a5 a6 a7 a8 a9 a10 a11 a12 a13
  exact va_alen a1.1 a1.2.1 a2.1 a10 q0 0 hc (ty := .int) rfl rfl hd (k p e R s m args below meth c H locs cells slots L A kc ks a1 a2 a3 a4 a5 a6 a7 a8 a9 a10 a11 a12 a13)
theorem aw_alenG {a n : Nat} {f : Nat → Option Nat} (hd : decode (am_c M) pc = .ok (.arraylength, 1)) (q0 : Nat) (hc : ws[q0]? = some (a, .inl (am_Gr X, n, .inr (.inr (.inr (.inr f)))))) (k : AW X M d mc ms (pc + 1) ls (.int (nI n) :: st) ws Post) : AW X M d mc ms pc ls (.ref a :: st) ws Post := by
  intro p e R s m args below meth c H locs cells slots L A kc ks a1 a2 a3 a4 a5 a6 a7 a8 a9 a10 a11 a12 a13
  exact va_alen a1.1 a1.2.1 a2.1 a10 q0 1 hc (ty := .object "SegmentForms$Grammar") rfl rfl hd (k p e R s m args below meth c H locs cells slots L A kc ks a1 a2 a3 a4 a5 a6 a7 a8 a9 a10 a11 a12 a13)
theorem aw_aald {a n : Nat} {f : Nat → Option Nat} {i : Int32} (hd : decode (am_c M) pc = .ok (.aaload, 1)) (q0 : Nat) (hc : ws[q0]? = some (a, .inl (am_Gr X, n, .inr (.inr (.inr (.inr f)))))) (j : Nat) (hi : i = nI j) (hj : j < n) (hn : n < 2 ^ 31) (k : AW X M d mc ms (pc + 1) ls (va_rf (f j) :: st) ws Post) : AW X M d mc ms pc ls (.int i :: .ref a :: st) ws Post := by
  intro p e R s m args below meth c H locs cells slots L A kc ks a1 a2 a3 a4 a5 a6 a7 a8 a9 a10 a11 a12 a13
  subst hi
  refine va_aldq a1.1 a1.2.1 a2.1 a10 q0 1 hc rfl (vp_in_nI hj hn) hd ?_
  rw [nI_clamp (Nat.lt_trans hj hn)]
  exact k p e R s m args below meth c H locs cells slots L A kc ks a1 a2 a3 a4 a5 a6 a7 a8 a9 a10 a11 a12 a13
theorem aw_aast {a n v ci : Nat} {f : Nat → Option Nat} {i : Int32} {fs : List Value} (hd : decode (am_c M) pc = .ok (.aastore, 1)) (q0 : Nat) (hc : ws[q0]? = some (a, .inl (am_Gr X, n, .inr (.inr (.inr (.inr f)))))) (qk : Nat) (hv : ws[qk]? = some (v, .inr (1, fs))) (j : Nat) (hi : i = nI j) (hj : j < n) (hn : n < 2 ^ 31) (k : AW X M d mc ms (pc + 1) ls st (ws.set q0 (a, .inl (am_Gr X, n, .inr (.inr (.inr (.inr (va_up f j (some v)))))))) Post) : AW X M d mc ms pc ls (.ref v :: .int i :: .ref a :: st) ws Post := by
  intro p e R s m args below meth c H locs cells slots L A kc ks a1 a2 a3 a4 a5 a6 a7 a8 a9 a10 a11 a12 a13
  subst hi
  refine va_astq a1.1 a1.2.1 a2.1 a10 a11 a12 q0 1 qk 1 (r := (R_Grammar, T_Grammar, 5)) hc rfl hv rfl (vp_in_nI hj hn) hd (fun H1 locs1 b1 b2 b3 => ?_)
  rw [nI_clamp (Nat.lt_trans hj hn)] at b1 b2
  exact k p e R s m args below meth c H1 locs1 cells slots L A kc ks a1 a2 a3 a4 a5 a6 a7 a8 a9 b1 b2 b3 a13
theorem aw_sld {i : Int32} (hd : decode (am_c M) pc = .ok (.iaload, 1)) (j : Nat) (hi : i = nI j) (hj : j < am_n X) (hn : am_n X < 2 ^ 31) (k : AW X M d mc ms (pc + 1) ls (.int (am_xs X j) :: st) ws Post) : AW X M d mc ms pc ls (.int i :: .ref (am_b X) :: st) ws Post := by
  intro p e R s m args below meth c H locs cells slots L A kc ks a1 a2 a3 a4 a5 a6 a7 a8 a9 a10 a11 a12 a13
  subst hi
  refine va_sld a1.1 a1.2.1 a2.2.2.2.2.2.1 a2.2.2.2.2.2.2.1 a2.2.2.2.2.2.2.2.1 a12 (vp_in_nI hj hn) hd ?_
  rw [nI_clamp (Nat.lt_trans hj hn)]
  exact k p e R s m args below meth c H locs cells slots L A kc ks a1 a2 a3 a4 a5 a6 a7 a8 a9 a10 a11 a12 a13
theorem aw_slen (hd : decode (am_c M) pc = .ok (.arraylength, 1)) (k : AW X M d mc ms (pc + 1) ls (.int (nI (am_n X)) :: st) ws Post) : AW X M d mc ms pc ls (.ref (am_b X) :: st) ws Post := by
  intro p e R s m args below meth c H locs cells slots L A kc ks a1 a2 a3 a4 a5 a6 a7 a8 a9 a10 a11 a12 a13
  exact va_slen a1.1 a1.2.1 a2.2.2.2.2.2.1 a2.2.2.2.2.2.2.1 a2.2.2.2.2.2.2.2.1 a12 hd (k p e R s m args below meth c H locs cells slots L A kc ks a1 a2 a3 a4 a5 a6 a7 a8 a9 a10 a11 a12 a13)
theorem am_UT.T {A : Nat → Prop} {U : State} {H : Heap} (h : am_UT X A U H) : va_T .int (am_U X) 5 (fun j => .int (am_untold j)) A U H := by
  obtain ⟨cell, h1, ⟨h2, -⟩, h3, h4, h5, h6⟩ := h
  exact ⟨cell, h1, h2, h3, by rw [h5]; simp, by rw [h5]; simp; rfl, fun j hj => by rw [h5]; simp [Array.getElem?_ofFn, hj], h6⟩
theorem aw_uld {i : Int32} (hd : decode (am_c M) pc = .ok (.iaload, 1)) (j : Nat) (hi : i = nI j) (hj : j < 5) (k : AW X M d mc ms (pc + 1) ls (.int (am_untold j) :: st) ws Post) : AW X M d mc ms pc ls (.int i :: .ref (am_U X) :: st) ws Post := by
  intro p e R s m args below meth c H locs cells slots L A kc ks a1 a2 a3 a4 a5 a6 a7 a8 a9 a10 a11 a12 a13
  subst hi
  exact va_ti a1.1 a1.2.1 (am_UT.T a2.2.2.1) a12 (vp_in_nI hj (by decide)) (by rw [nI_clamp (Nat.lt_trans hj (by decide))]) hd (k p e R s m args below meth c H locs cells slots L A kc ks a1 a2 a3 a4 a5 a6 a7 a8 a9 a10 a11 a12 a13)
theorem aw_ulen (hd : decode (am_c M) pc = .ok (.arraylength, 1)) (k : AW X M d mc ms (pc + 1) ls (.int (nI 5) :: st) ws Post) : AW X M d mc ms pc ls (.ref (am_U X) :: st) ws Post := by
  intro p e R s m args below meth c H locs cells slots L A kc ks a1 a2 a3 a4 a5 a6 a7 a8 a9 a10 a11 a12 a13
  exact va_tlen a1.1 a1.2.1 (am_UT.T a2.2.2.1) a12 rfl hd (k p e R s m args below meth c H locs cells slots L A kc ks a1 a2 a3 a4 a5 a6 a7 a8 a9 a10 a11 a12 a13)
theorem aw_gets {idx : Nat} (hd : decode (am_c M) pc = .ok (.getstatic idx, 3)) (hf : Cond.fieldLink (am_y M).cls idx "SegmentForms$ServiceSigns" "UNTOLD" "[I" ∈ am_tbl) (k : AW X M d mc ms (pc + 3) ls (.ref (am_U X) :: st) ws Post) : AW X M d mc ms pc ls st ws Post := by
  intro p e R s m args below meth c H locs cells slots L A kc ks a1 a2 a3 a4 a5 a6 a7 a8 a9 a10 a11 a12 a13
  exact va_gets a1.1 a1.2.1 a2.2.1 a12 a1.2.2.2.2.1 (a1.2.2.2.2.2.1 _ hf) (fun _ h9 => h9) hd (k p e R s m args below meth c H locs cells slots L A kc ks a1 a2 a3 a4 a5 a6 a7 a8 a9 a10 a11 a12 a13)
theorem aw_iret {v : Int32} (hd : decode (am_c M) pc = .ok (.ireturn, 1)) (hr : am_ret M = some .int) (hp : P (.inl (some (.int v))) ws) : AW X M d mc ms pc ls [.int v] ws (am_E X P) := by
  intro p e R s m args below meth c H locs cells slots L A kc ks a1 a2 a3 a4 a5 a6 a7 a8 a9 a10 a11 a12 a13
  exact vx_ret (W.widen (k := kc) (n := ks) (by omega) (by omega) (W.iret (free := A) a1.1 a1.2.1 (a1.2.2.1.trans hr) (fun t ht _ => ⟨⟨_, ws, rfl, hp, by rw [ht]; exact a10, a11⟩, a12.F ht⟩) a12.2.2 hd a1.2.2.2.2.2.2.1))
theorem aw_zret {v : Int32} (hd : decode (am_c M) pc = .ok (.ireturn, 1)) (hr : am_ret M = some .boolean) (hv : v = 0 ∨ v = 1) (hp : P (.inl (some (.int v))) ws) : AW X M d mc ms pc ls [.int v] ws (am_E X P) := by
  intro p e R s m args below meth c H locs cells slots L A kc ks a1 a2 a3 a4 a5 a6 a7 a8 a9 a10 a11 a12 a13
  exact vx_ret (W.widen (k := kc) (n := ks) (by omega) (by omega) (W.zret (free := A) a1.1 a1.2.1 (a1.2.2.1.trans hr) (by rcases hv with rfl | rfl <;> decide) (fun t ht _ => ⟨⟨_, ws, rfl, hp, by rw [ht]; exact a10, a11⟩, a12.F ht⟩) a12.2.2 hd a1.2.2.2.2.2.2.1))
theorem aw_vret (hd : decode (am_c M) pc = .ok (.return_, 1)) (hr : am_ret M = none) (hp : P (.inl none) ws) : AW X M d mc ms pc ls [] ws (am_E X P) := by
  intro p e R s m args below meth c H locs cells slots L A kc ks a1 a2 a3 a4 a5 a6 a7 a8 a9 a10 a11 a12 a13
  exact vx_ret (W.widen (k := kc) (n := ks) (by omega) (by omega) (W.vret (free := A) a1.1 a1.2.1 (a1.2.2.1.trans hr) (fun t ht _ => ⟨⟨_, ws, rfl, hp, by rw [ht]; exact a10, a11⟩, a12.F ht⟩) a12.2.2 hd a1.2.2.2.2.2.2.1))
theorem aw_aret {v : Value} {nm : String} (hd : decode (am_c M) pc = .ok (.areturn, 1)) (hr : am_ret M = some (.object nm)) (hv : v = .null ∨ ∃ a, v = .ref a) (hp : P (.inl (some v)) ws) : AW X M d mc ms pc ls [v] ws (am_E X P) := by
  intro p e R s m args below meth c H locs cells slots L A kc ks a1 a2 a3 a4 a5 a6 a7 a8 a9 a10 a11 a12 a13
  exact vx_ret (W.widen (k := kc) (n := ks) (by omega) (by omega) (W.aret (free := A) a1.1 a1.2.1 (a1.2.2.1.trans hr) (Or.inl ⟨nm, rfl⟩) hv (fun t ht _ => ⟨⟨_, ws, rfl, hp, by rw [ht]; exact a10, a11⟩, a12.F ht⟩) a12.2.2 hd a1.2.2.2.2.2.2.1))
end AwRows
