section RULES
variable {l : Launch} {G : mm_G} {Y : mm_Y} {R : Room} {Z : mm_Zt} {kc ks pc : Nat} {lv : List (Nat × Value)} {st : List Value} {M : mm_M} {sz : Nat}
theorem rw_iconst {n : Int} {v : Int32} (hd : decode Y.2.1 pc = .ok (.iconst n, 1)) (hv : Int32.ofInt n = v) (k : RW l G Y R Z kc ks (pc + 1) lv (.int v :: st) M sz) : RW l G Y R Z kc ks (pc) lv (st) M sz := by
  intro p e s m args below meth c C H locs ls cells slots hR hL hl h1 h2
  exact lv_iconst C.1 C.2.1 hd hv (k p e s m args below meth c C H locs ls cells slots hR hL hl h1 h2)
theorem rw_bipush {n : Int} {v : Int32} (hd : decode Y.2.1 pc = .ok (.bipush n, 2)) (hv : (Int8.ofInt n).toInt32 = v) (k : RW l G Y R Z kc ks (pc + 2) lv (.int v :: st) M sz) : RW l G Y R Z kc ks (pc) lv (st) M sz := by
  intro p e s m args below meth c C H locs ls cells slots hR hL hl h1 h2
  exact lv_bipush C.1 C.2.1 hd hv (k p e s m args below meth c C H locs ls cells slots hR hL hl h1 h2)
theorem rw_sipush {n : Int} {v : Int32} (hd : decode Y.2.1 pc = .ok (.sipush n, 3)) (hv : (Int16.ofInt n).toInt32 = v) (k : RW l G Y R Z kc ks (pc + 3) lv (.int v :: st) M sz) : RW l G Y R Z kc ks (pc) lv (st) M sz := by
  intro p e s m args below meth c C H locs ls cells slots hR hL hl h1 h2
  exact lv_sipush C.1 C.2.1 hd hv (k p e s m args below meth c C H locs ls cells slots hR hL hl h1 h2)
theorem rw_lconst {n : Fin 2} {v : Int64} (hd : decode Y.2.1 pc = .ok (.lconst n, 1)) (hv : Int64.ofNat (n : Nat) = v) (k : RW l G Y R Z kc ks (pc + 1) lv (.long v :: st) M sz) : RW l G Y R Z kc ks (pc) lv (st) M sz := by
  intro p e s m args below meth c C H locs ls cells slots hR hL hl h1 h2
  exact lv_lconst C.1 C.2.1 hd hv (k p e s m args below meth c C H locs ls cells slots hR hL hl h1 h2)
theorem rw_null (hd : decode Y.2.1 pc = .ok (.aconst_null, 1)) (k : RW l G Y R Z kc ks (pc + 1) lv (.null :: st) M sz) : RW l G Y R Z kc ks (pc) lv (st) M sz := by
  intro p e s m args below meth c C H locs ls cells slots hR hL hl h1 h2
  exact lv_null C.1 C.2.1 hd (k p e s m args below meth c C H locs ls cells slots hR hL hl h1 h2)
theorem rw_ldc {i : Nat} {v : Int32} (hd : decode Y.2.1 pc = .ok (.ldc i, 2)) (hw : Cond.constant Y.1 i v ∈ lwK) (k : RW l G Y R Z kc ks (pc + 2) lv (.int v :: st) M sz) : RW l G Y R Z kc ks (pc) lv (st) M sz := by
  intro p e s m args below meth c C H locs ls cells slots hR hL hl h1 h2
  exact lv_ldc C.1 C.2.1 C.2.2.2.2.2.1 (C.2.2.2.2.2.2.2.1 _ hw) hd (k p e s m args below meth c C H locs ls cells slots hR hL hl h1 h2)
theorem rw_ldc2 {i : Nat} {v : Int64} (hd : decode Y.2.1 pc = .ok (.ldc2_w i, 3)) (hw : Cond.constantLong Y.1 i v ∈ lwK) (k : RW l G Y R Z kc ks (pc + 3) lv (.long v :: st) M sz) : RW l G Y R Z kc ks (pc) lv (st) M sz := by
  intro p e s m args below meth c C H locs ls cells slots hR hL hl h1 h2
  exact lv_ldc2 C.1 C.2.1 C.2.2.2.2.2.1 (C.2.2.2.2.2.2.2.1 _ hw) hd (k p e s m args below meth c C H locs ls cells slots hR hL hl h1 h2)
theorem rw_iload_n {j : Fin 4} {x : Int32} (hd : decode Y.2.1 pc = .ok (.iload_n j, 1)) (hv : lv.lookup (j : Nat) = some (.int x)) (k : RW l G Y R Z kc ks (pc + 1) lv (.int x :: st) M sz) : RW l G Y R Z kc ks (pc) lv (st) M sz := by
  intro p e s m args below meth c C H locs ls cells slots hR hL hl h1 h2
  exact lv_iload_n C.1 C.2.1 hd rfl (hl.2.2 (_, _) (lk_mem hv)) (k p e s m args below meth c C H locs ls cells slots hR hL hl h1 h2)
theorem rw_iload {j : Nat} {x : Int32} (hd : decode Y.2.1 pc = .ok (.iload j, 2)) (hv : lv.lookup j = some (.int x)) (k : RW l G Y R Z kc ks (pc + 2) lv (.int x :: st) M sz) : RW l G Y R Z kc ks (pc) lv (st) M sz := by
  intro p e s m args below meth c C H locs ls cells slots hR hL hl h1 h2
  exact lv_iload C.1 C.2.1 hd (hl.2.2 (_, _) (lk_mem hv)) (k p e s m args below meth c C H locs ls cells slots hR hL hl h1 h2)
theorem rw_lload_n {j : Fin 4} {x : Int64} (hd : decode Y.2.1 pc = .ok (.lload_n j, 1)) (hv : lv.lookup (j : Nat) = some (.long x)) (k : RW l G Y R Z kc ks (pc + 1) lv (.long x :: st) M sz) : RW l G Y R Z kc ks (pc) lv (st) M sz := by
  intro p e s m args below meth c C H locs ls cells slots hR hL hl h1 h2
  exact lv_lload_n C.1 C.2.1 hd rfl (hl.2.2 (_, _) (lk_mem hv)) (k p e s m args below meth c C H locs ls cells slots hR hL hl h1 h2)
theorem rw_lload {j : Nat} {x : Int64} (hd : decode Y.2.1 pc = .ok (.lload j, 2)) (hv : lv.lookup j = some (.long x)) (k : RW l G Y R Z kc ks (pc + 2) lv (.long x :: st) M sz) : RW l G Y R Z kc ks (pc) lv (st) M sz := by
  intro p e s m args below meth c C H locs ls cells slots hR hL hl h1 h2
  exact lv_lload C.1 C.2.1 hd (hl.2.2 (_, _) (lk_mem hv)) (k p e s m args below meth c C H locs ls cells slots hR hL hl h1 h2)
def mm_ref (v : Value) : Prop := v = .null ∨ ∃ a, v = .ref a
theorem mm_ref_r (a : Nat) : mm_ref (.ref a) := Or.inr ⟨a, rfl⟩
theorem mm_ref_n : mm_ref .null := Or.inl rfl
theorem mm_ref_o (o : Option Nat) : mm_ref (va_rf o) := by cases o with | none => exact Or.inl rfl | some a => exact Or.inr ⟨a, rfl⟩
theorem rw_aload_n {j : Fin 4} {v : Value} (hd : decode Y.2.1 pc = .ok (.aload_n j, 1)) (hv : lv.lookup (j : Nat) = some v) (hr : mm_ref v) (k : RW l G Y R Z kc ks (pc + 1) lv (v :: st) M sz) : RW l G Y R Z kc ks (pc) lv (st) M sz := by
  intro p e s m args below meth c C H locs ls cells slots hR hL hl h1 h2
  rcases hr with rfl | ⟨a, rfl⟩
  · exact lv_aload_nN C.1 C.2.1 hd rfl (hl.2.2 (_, _) (lk_mem hv)) (k p e s m args below meth c C H locs ls cells slots hR hL hl h1 h2)
  · exact lv_aload_n C.1 C.2.1 hd rfl (hl.2.2 (_, _) (lk_mem hv)) (k p e s m args below meth c C H locs ls cells slots hR hL hl h1 h2)
theorem rw_aload {j : Nat} {v : Value} (hd : decode Y.2.1 pc = .ok (.aload j, 2)) (hv : lv.lookup j = some v) (hr : mm_ref v) (k : RW l G Y R Z kc ks (pc + 2) lv (v :: st) M sz) : RW l G Y R Z kc ks (pc) lv (st) M sz := by
  intro p e s m args below meth c C H locs ls cells slots hR hL hl h1 h2
  rcases hr with rfl | ⟨a, rfl⟩
  · exact lv_aloadN C.1 C.2.1 hd (hl.2.2 (_, _) (lk_mem hv)) (k p e s m args below meth c C H locs ls cells slots hR hL hl h1 h2)
  · exact lv_aload C.1 C.2.1 hd (hl.2.2 (_, _) (lk_mem hv)) (k p e s m args below meth c C H locs ls cells slots hR hL hl h1 h2)
def lv_s1 (lv : List (Nat × Value)) (i : Nat) (v : Value) : List (Nat × Value) := (i, v) :: lv.filter (fun q => !(q.1 == i) && !(q.1 + 1 == i && q.2.category == 2))
def lv_s2 (lv : List (Nat × Value)) (i : Nat) (v : Value) : List (Nat × Value) := (i, v) :: lv.filter (fun q => !(q.1 == i) && (!(q.1 == i + 1) && !(q.1 + 1 == i && q.2.category == 2)))
theorem rw_istore_n {j : Fin 4} {x : Int32} {lv' : List (Nat × Value)} (hd : decode Y.2.1 pc = .ok (.istore_n j, 1)) (hj : (j : Nat) < Y.2.2.1) (he : lv_s1 lv j (.int x) = lv') (k : RW l G Y R Z kc ks (pc + 1) lv' (st) M sz) : RW l G Y R Z kc ks (pc) lv (.int x :: st) M sz := by
  intro p e s m args below meth c C H locs ls cells slots hR hL hl h1 h2
  exact lv_istore_n C.1 C.2.1 hd rfl hl hj he (fun ls' hl' => k p e s m args below meth c C H locs ls' cells slots hR hL hl' h1 h2)
theorem rw_istore {j : Nat} {x : Int32} {lv' : List (Nat × Value)} (hd : decode Y.2.1 pc = .ok (.istore j, 2)) (hj : j < Y.2.2.1) (he : lv_s1 lv j (.int x) = lv') (k : RW l G Y R Z kc ks (pc + 2) lv' (st) M sz) : RW l G Y R Z kc ks (pc) lv (.int x :: st) M sz := by
  intro p e s m args below meth c C H locs ls cells slots hR hL hl h1 h2
  exact lv_istore C.1 C.2.1 hd hl hj he (fun ls' hl' => k p e s m args below meth c C H locs ls' cells slots hR hL hl' h1 h2)
theorem rw_lstore_n {j : Fin 4} {x : Int64} {lv' : List (Nat × Value)} (hd : decode Y.2.1 pc = .ok (.lstore_n j, 1)) (hj : (j : Nat) + 1 < Y.2.2.1) (he : lv_s2 lv j (.long x) = lv') (k : RW l G Y R Z kc ks (pc + 1) lv' (st) M sz) : RW l G Y R Z kc ks (pc) lv (.long x :: st) M sz := by
  intro p e s m args below meth c C H locs ls cells slots hR hL hl h1 h2
  exact lv_lstore_n C.1 C.2.1 hd rfl hl hj he (fun ls' hl' => k p e s m args below meth c C H locs ls' cells slots hR hL hl' h1 h2)
theorem rw_lstore {j : Nat} {x : Int64} {lv' : List (Nat × Value)} (hd : decode Y.2.1 pc = .ok (.lstore j, 2)) (hj : j + 1 < Y.2.2.1) (he : lv_s2 lv j (.long x) = lv') (k : RW l G Y R Z kc ks (pc + 2) lv' (st) M sz) : RW l G Y R Z kc ks (pc) lv (.long x :: st) M sz := by
  intro p e s m args below meth c C H locs ls cells slots hR hL hl h1 h2
  exact lv_lstore C.1 C.2.1 hd hl hj he (fun ls' hl' => k p e s m args below meth c C H locs ls' cells slots hR hL hl' h1 h2)
theorem rw_astore_n {j : Fin 4} {v : Value} {lv' : List (Nat × Value)} (hd : decode Y.2.1 pc = .ok (.astore_n j, 1)) (hj : (j : Nat) < Y.2.2.1) (hr : mm_ref v) (he : lv_s1 lv j v = lv') (k : RW l G Y R Z kc ks (pc + 1) lv' (st) M sz) : RW l G Y R Z kc ks (pc) lv (v :: st) M sz := by
  intro p e s m args below meth c C H locs ls cells slots hR hL hl h1 h2
  rcases hr with rfl | ⟨a, rfl⟩
  · exact lv_astore_nN C.1 C.2.1 hd rfl hl hj he (fun ls' hl' => k p e s m args below meth c C H locs ls' cells slots hR hL hl' h1 h2)
  · exact lv_astore_n C.1 C.2.1 hd rfl hl hj he (fun ls' hl' => k p e s m args below meth c C H locs ls' cells slots hR hL hl' h1 h2)
theorem rw_astore {j : Nat} {v : Value} {lv' : List (Nat × Value)} (hd : decode Y.2.1 pc = .ok (.astore j, 2)) (hj : j < Y.2.2.1) (hr : mm_ref v) (he : lv_s1 lv j v = lv') (k : RW l G Y R Z kc ks (pc + 2) lv' (st) M sz) : RW l G Y R Z kc ks (pc) lv (v :: st) M sz := by
  intro p e s m args below meth c C H locs ls cells slots hR hL hl h1 h2
  rcases hr with rfl | ⟨a, rfl⟩
  · exact lv_astoreN C.1 C.2.1 hd hl hj he (fun ls' hl' => k p e s m args below meth c C H locs ls' cells slots hR hL hl' h1 h2)
  · exact lv_astore C.1 C.2.1 hd hl hj he (fun ls' hl' => k p e s m args below meth c C H locs ls' cells slots hR hL hl' h1 h2)
theorem rw_iinc {j : Nat} {n : Int} {x v : Int32} {lv' : List (Nat × Value)} (hd : decode Y.2.1 pc = .ok (.iinc j n, 3)) (hj : j < Y.2.2.1) (hx : lv.lookup j = some (.int x)) (hv : x + Int32.ofInt n = v) (he : lv_s1 lv j (.int v) = lv') (k : RW l G Y R Z kc ks (pc + 3) lv' (st) M sz) : RW l G Y R Z kc ks (pc) lv (st) M sz := by
  intro p e s m args below meth c C H locs ls cells slots hR hL hl h1 h2
  obtain ⟨i, hi⟩ := List.getElem?_of_mem (lk_mem hx)
  exact lv_iinc C.1 C.2.1 hd hl hi hv hj he (fun ls' hl' => k p e s m args below meth c C H locs ls' cells slots hR hL hl' h1 h2)
theorem rw_dup {v : Value} (hd : decode Y.2.1 pc = .ok (.dup, 1)) (hv : v.category = 1) (k : RW l G Y R Z kc ks (pc + 1) lv (v :: v :: st) M sz) : RW l G Y R Z kc ks (pc) lv (v :: st) M sz := by
  intro p e s m args below meth c C H locs ls cells slots hR hL hl h1 h2
  exact lv_dup C.1 C.2.1 hd hv (k p e s m args below meth c C H locs ls cells slots hR hL hl h1 h2)
theorem rw_pop {v : Value} (hd : decode Y.2.1 pc = .ok (.pop, 1)) (hv : v.category = 1) (k : RW l G Y R Z kc ks (pc + 1) lv (st) M sz) : RW l G Y R Z kc ks (pc) lv (v :: st) M sz := by
  intro p e s m args below meth c C H locs ls cells slots hR hL hl h1 h2
  exact lv_pop C.1 C.2.1 hd hv (k p e s m args below meth c C H locs ls cells slots hR hL hl h1 h2)
theorem rw_dup_x1 {v w : Value} (hd : decode Y.2.1 pc = .ok (.dup_x1, 1)) (hv : v.category = 1) (hw : w.category = 1) (k : RW l G Y R Z kc ks (pc + 1) lv (v :: w :: v :: st) M sz) : RW l G Y R Z kc ks (pc) lv (v :: w :: st) M sz := by
  intro p e s m args below meth c C H locs ls cells slots hR hL hl h1 h2
  exact lv_dup_x1 C.1 C.2.1 hd hv hw (k p e s m args below meth c C H locs ls cells slots hR hL hl h1 h2)
theorem rw_dup2 {v w : Value} (hd : decode Y.2.1 pc = .ok (.dup2, 1)) (hv : v.category = 1) (hw : w.category = 1) (k : RW l G Y R Z kc ks (pc + 1) lv (v :: w :: v :: w :: st) M sz) : RW l G Y R Z kc ks (pc) lv (v :: w :: st) M sz := by
  intro p e s m args below meth c C H locs ls cells slots hR hL hl h1 h2
  exact lv_dup2_11 C.1 C.2.1 hd hv hw (k p e s m args below meth c C H locs ls cells slots hR hL hl h1 h2)
theorem rw_iadd {x y : Int32} (hd : decode Y.2.1 pc = .ok (.iadd, 1)) (k : RW l G Y R Z kc ks (pc + 1) lv (.int (x + y) :: st) M sz) : RW l G Y R Z kc ks (pc) lv (.int y :: .int x :: st) M sz := by
  intro p e s m args below meth c C H locs ls cells slots hR hL hl h1 h2
  exact lv_iadd C.1 C.2.1 hd (k p e s m args below meth c C H locs ls cells slots hR hL hl h1 h2)
theorem rw_isub {x y : Int32} (hd : decode Y.2.1 pc = .ok (.isub, 1)) (k : RW l G Y R Z kc ks (pc + 1) lv (.int (x - y) :: st) M sz) : RW l G Y R Z kc ks (pc) lv (.int y :: .int x :: st) M sz := by
  intro p e s m args below meth c C H locs ls cells slots hR hL hl h1 h2
  exact lv_isub C.1 C.2.1 hd (k p e s m args below meth c C H locs ls cells slots hR hL hl h1 h2)
theorem rw_imul {x y : Int32} (hd : decode Y.2.1 pc = .ok (.imul, 1)) (k : RW l G Y R Z kc ks (pc + 1) lv (.int (x * y) :: st) M sz) : RW l G Y R Z kc ks (pc) lv (.int y :: .int x :: st) M sz := by
  intro p e s m args below meth c C H locs ls cells slots hR hL hl h1 h2
  exact lv_imul C.1 C.2.1 hd (k p e s m args below meth c C H locs ls cells slots hR hL hl h1 h2)
theorem rw_iand {x y : Int32} (hd : decode Y.2.1 pc = .ok (.iand, 1)) (k : RW l G Y R Z kc ks (pc + 1) lv (.int (x &&& y) :: st) M sz) : RW l G Y R Z kc ks (pc) lv (.int y :: .int x :: st) M sz := by
  intro p e s m args below meth c C H locs ls cells slots hR hL hl h1 h2
  exact lv_iand C.1 C.2.1 hd (k p e s m args below meth c C H locs ls cells slots hR hL hl h1 h2)
theorem rw_ior {x y : Int32} (hd : decode Y.2.1 pc = .ok (.ior, 1)) (k : RW l G Y R Z kc ks (pc + 1) lv (.int (x ||| y) :: st) M sz) : RW l G Y R Z kc ks (pc) lv (.int y :: .int x :: st) M sz := by
  intro p e s m args below meth c C H locs ls cells slots hR hL hl h1 h2
  exact lv_ior C.1 C.2.1 hd (k p e s m args below meth c C H locs ls cells slots hR hL hl h1 h2)
theorem rw_ixor {x y : Int32} (hd : decode Y.2.1 pc = .ok (.ixor, 1)) (k : RW l G Y R Z kc ks (pc + 1) lv (.int (x ^^^ y) :: st) M sz) : RW l G Y R Z kc ks (pc) lv (.int y :: .int x :: st) M sz := by
  intro p e s m args below meth c C H locs ls cells slots hR hL hl h1 h2
  exact lv_ixor C.1 C.2.1 hd (k p e s m args below meth c C H locs ls cells slots hR hL hl h1 h2)
theorem rw_ishl {x y : Int32} (hd : decode Y.2.1 pc = .ok (.ishl, 1)) (k : RW l G Y R Z kc ks (pc + 1) lv (.int (x <<< (y &&& 31)) :: st) M sz) : RW l G Y R Z kc ks (pc) lv (.int y :: .int x :: st) M sz := by
  intro p e s m args below meth c C H locs ls cells slots hR hL hl h1 h2
  exact lv_ishl C.1 C.2.1 hd (k p e s m args below meth c C H locs ls cells slots hR hL hl h1 h2)
theorem rw_ishr {x y : Int32} (hd : decode Y.2.1 pc = .ok (.ishr, 1)) (k : RW l G Y R Z kc ks (pc + 1) lv (.int (x >>> (y &&& 31)) :: st) M sz) : RW l G Y R Z kc ks (pc) lv (.int y :: .int x :: st) M sz := by
  intro p e s m args below meth c C H locs ls cells slots hR hL hl h1 h2
  exact lv_ishr C.1 C.2.1 hd (k p e s m args below meth c C H locs ls cells slots hR hL hl h1 h2)
theorem rw_idiv {x y : Int32} (hd : decode Y.2.1 pc = .ok (.idiv, 1)) (hy : ¬ y = 0) (k : RW l G Y R Z kc ks (pc + 1) lv (.int (x / y) :: st) M sz) : RW l G Y R Z kc ks (pc) lv (.int y :: .int x :: st) M sz := by
  intro p e s m args below meth c C H locs ls cells slots hR hL hl h1 h2
  exact lv_idiv C.1 C.2.1 hd hy (k p e s m args below meth c C H locs ls cells slots hR hL hl h1 h2)
theorem rw_irem {x y : Int32} (hd : decode Y.2.1 pc = .ok (.irem, 1)) (hy : ¬ y = 0) (k : RW l G Y R Z kc ks (pc + 1) lv (.int (x - x / y * y) :: st) M sz) : RW l G Y R Z kc ks (pc) lv (.int y :: .int x :: st) M sz := by
  intro p e s m args below meth c C H locs ls cells slots hR hL hl h1 h2
  exact lv_irem C.1 C.2.1 hd hy (k p e s m args below meth c C H locs ls cells slots hR hL hl h1 h2)
theorem rw_iushr {x y v : Int32} (hd : decode Y.2.1 pc = .ok (.iushr, 1)) (hv : (x.toUInt32 >>> (y.toUInt32 &&& Int32.toUInt32 31)).toInt32 = v) (k : RW l G Y R Z kc ks (pc + 1) lv (.int v :: st) M sz) : RW l G Y R Z kc ks (pc) lv (.int y :: .int x :: st) M sz := by
  intro p e s m args below meth c C H locs ls cells slots hR hL hl h1 h2
  exact lv_iushr C.1 C.2.1 hd hv (k p e s m args below meth c C H locs ls cells slots hR hL hl h1 h2)
theorem rw_land {x y : Int64} (hd : decode Y.2.1 pc = .ok (.land, 1)) (k : RW l G Y R Z kc ks (pc + 1) lv (.long (x &&& y) :: st) M sz) : RW l G Y R Z kc ks (pc) lv (.long y :: .long x :: st) M sz := by
  intro p e s m args below meth c C H locs ls cells slots hR hL hl h1 h2
  exact lv_land C.1 C.2.1 hd (k p e s m args below meth c C H locs ls cells slots hR hL hl h1 h2)
theorem rw_lor {x y : Int64} (hd : decode Y.2.1 pc = .ok (.lor, 1)) (k : RW l G Y R Z kc ks (pc + 1) lv (.long (x ||| y) :: st) M sz) : RW l G Y R Z kc ks (pc) lv (.long y :: .long x :: st) M sz := by
  intro p e s m args below meth c C H locs ls cells slots hR hL hl h1 h2
  exact lv_lor C.1 C.2.1 hd (k p e s m args below meth c C H locs ls cells slots hR hL hl h1 h2)
theorem rw_lxor {x y : Int64} (hd : decode Y.2.1 pc = .ok (.lxor, 1)) (k : RW l G Y R Z kc ks (pc + 1) lv (.long (x ^^^ y) :: st) M sz) : RW l G Y R Z kc ks (pc) lv (.long y :: .long x :: st) M sz := by
  intro p e s m args below meth c C H locs ls cells slots hR hL hl h1 h2
  exact lv_lxor C.1 C.2.1 hd (k p e s m args below meth c C H locs ls cells slots hR hL hl h1 h2)
theorem rw_lshl {x v : Int64} {y : Int32} (hd : decode Y.2.1 pc = .ok (.lshl, 1)) (hv : x <<< (y.toInt64 &&& 63) = v) (k : RW l G Y R Z kc ks (pc + 1) lv (.long v :: st) M sz) : RW l G Y R Z kc ks (pc) lv (.int y :: .long x :: st) M sz := by
  intro p e s m args below meth c C H locs ls cells slots hR hL hl h1 h2
  exact lv_lshl C.1 C.2.1 hd hv (k p e s m args below meth c C H locs ls cells slots hR hL hl h1 h2)
theorem rw_lushr {x v : Int64} {y : Int32} (hd : decode Y.2.1 pc = .ok (.lushr, 1)) (hv : (x.toUInt64 >>> (y.toInt64.toUInt64 &&& Int64.toUInt64 63)).toInt64 = v) (k : RW l G Y R Z kc ks (pc + 1) lv (.long v :: st) M sz) : RW l G Y R Z kc ks (pc) lv (.int y :: .long x :: st) M sz := by
  intro p e s m args below meth c C H locs ls cells slots hR hL hl h1 h2
  exact lv_lushr C.1 C.2.1 hd hv (k p e s m args below meth c C H locs ls cells slots hR hL hl h1 h2)
theorem rw_i2l {x : Int32} {v : Int64} (hd : decode Y.2.1 pc = .ok (.i2l, 1)) (hv : x.toInt64 = v) (k : RW l G Y R Z kc ks (pc + 1) lv (.long v :: st) M sz) : RW l G Y R Z kc ks (pc) lv (.int x :: st) M sz := by
  intro p e s m args below meth c C H locs ls cells slots hR hL hl h1 h2
  exact lv_i2l C.1 C.2.1 hd hv (k p e s m args below meth c C H locs ls cells slots hR hL hl h1 h2)
theorem rw_lcmp {x y : Int64} (hd : decode Y.2.1 pc = .ok (.lcmp, 1)) (k : RW l G Y R Z kc ks (pc + 1) lv (.int (lg_cmp x y) :: st) M sz) : RW l G Y R Z kc ks (pc) lv (.long y :: .long x :: st) M sz := by
  intro p e s m args below meth c C H locs ls cells slots hR hL hl h1 h2
  exact W.lcmp C.1 C.2.1 hd (k p e s m args below meth c C H locs ls cells slots hR hL hl h1 h2)
theorem rw_icmp_eq {x y : Int32} {off : Int} {tgt : Nat} (hd : decode Y.2.1 pc = .ok (.if_icmp .eq off, 3)) (ht : (pc : Int) + off = (tgt : Int)) (kt : x = y → RW l G Y R Z kc ks (tgt) lv (st) M sz) (kf : ¬ x = y → RW l G Y R Z kc ks (pc + 3) lv (st) M sz) : RW l G Y R Z kc ks (pc) lv (.int y :: .int x :: st) M sz := by
  intro p e s m args below meth c C H locs ls cells slots hR hL hl h1 h2
  exact lv_icmp_eq C.1 C.2.1 hd ht (fun q => kt q p e s m args below meth c C H locs ls cells slots hR hL hl h1 h2) (fun q => kf q p e s m args below meth c C H locs ls cells slots hR hL hl h1 h2)
theorem rw_icmp_eq_t {x y : Int32} {off : Int} {tgt : Nat} (hd : decode Y.2.1 pc = .ok (.if_icmp .eq off, 3)) (ht : (pc : Int) + off = (tgt : Int)) (q : x = y) (k : RW l G Y R Z kc ks (tgt) lv (st) M sz) : RW l G Y R Z kc ks (pc) lv (.int y :: .int x :: st) M sz := rw_icmp_eq hd ht (fun _ => k) (fun n => absurd q (by first | exact n | (intro z; exact z n)))
theorem rw_icmp_eq_f {x y : Int32} {off : Int} {tgt : Nat} (hd : decode Y.2.1 pc = .ok (.if_icmp .eq off, 3)) (ht : (pc : Int) + off = (tgt : Int)) (q : ¬ x = y) (k : RW l G Y R Z kc ks (pc + 3) lv (st) M sz) : RW l G Y R Z kc ks (pc) lv (.int y :: .int x :: st) M sz := rw_icmp_eq hd ht (fun n => absurd n (by first | exact q | (intro z; exact z q))) (fun _ => k)
theorem rw_if_eq {x : Int32} {off : Int} {tgt : Nat} (hd : decode Y.2.1 pc = .ok (.ifCond .eq off, 3)) (ht : (pc : Int) + off = (tgt : Int)) (kt : x = 0 → RW l G Y R Z kc ks (tgt) lv (st) M sz) (kf : ¬ x = 0 → RW l G Y R Z kc ks (pc + 3) lv (st) M sz) : RW l G Y R Z kc ks (pc) lv (.int x :: st) M sz := by
  intro p e s m args below meth c C H locs ls cells slots hR hL hl h1 h2
  exact lv_if_eq C.1 C.2.1 hd ht (fun q => kt q p e s m args below meth c C H locs ls cells slots hR hL hl h1 h2) (fun q => kf q p e s m args below meth c C H locs ls cells slots hR hL hl h1 h2)
theorem rw_if_eq_t {x : Int32} {off : Int} {tgt : Nat} (hd : decode Y.2.1 pc = .ok (.ifCond .eq off, 3)) (ht : (pc : Int) + off = (tgt : Int)) (q : x = 0) (k : RW l G Y R Z kc ks (tgt) lv (st) M sz) : RW l G Y R Z kc ks (pc) lv (.int x :: st) M sz := rw_if_eq hd ht (fun _ => k) (fun n => absurd q (by first | exact n | (intro z; exact z n)))
theorem rw_if_eq_f {x : Int32} {off : Int} {tgt : Nat} (hd : decode Y.2.1 pc = .ok (.ifCond .eq off, 3)) (ht : (pc : Int) + off = (tgt : Int)) (q : ¬ x = 0) (k : RW l G Y R Z kc ks (pc + 3) lv (st) M sz) : RW l G Y R Z kc ks (pc) lv (.int x :: st) M sz := rw_if_eq hd ht (fun n => absurd n (by first | exact q | (intro z; exact z q))) (fun _ => k)
theorem rw_icmp_ne {x y : Int32} {off : Int} {tgt : Nat} (hd : decode Y.2.1 pc = .ok (.if_icmp .ne off, 3)) (ht : (pc : Int) + off = (tgt : Int)) (kt : ¬ x = y → RW l G Y R Z kc ks (tgt) lv (st) M sz) (kf : x = y → RW l G Y R Z kc ks (pc + 3) lv (st) M sz) : RW l G Y R Z kc ks (pc) lv (.int y :: .int x :: st) M sz := by
  intro p e s m args below meth c C H locs ls cells slots hR hL hl h1 h2
  exact lv_icmp_ne C.1 C.2.1 hd ht (fun q => kt q p e s m args below meth c C H locs ls cells slots hR hL hl h1 h2) (fun q => kf q p e s m args below meth c C H locs ls cells slots hR hL hl h1 h2)
theorem rw_icmp_ne_t {x y : Int32} {off : Int} {tgt : Nat} (hd : decode Y.2.1 pc = .ok (.if_icmp .ne off, 3)) (ht : (pc : Int) + off = (tgt : Int)) (q : ¬ x = y) (k : RW l G Y R Z kc ks (tgt) lv (st) M sz) : RW l G Y R Z kc ks (pc) lv (.int y :: .int x :: st) M sz := rw_icmp_ne hd ht (fun _ => k) (fun n => absurd q (by first | exact n | (intro z; exact z n)))
theorem rw_icmp_ne_f {x y : Int32} {off : Int} {tgt : Nat} (hd : decode Y.2.1 pc = .ok (.if_icmp .ne off, 3)) (ht : (pc : Int) + off = (tgt : Int)) (q : x = y) (k : RW l G Y R Z kc ks (pc + 3) lv (st) M sz) : RW l G Y R Z kc ks (pc) lv (.int y :: .int x :: st) M sz := rw_icmp_ne hd ht (fun n => absurd n (by first | exact q | (intro z; exact z q))) (fun _ => k)
theorem rw_if_ne {x : Int32} {off : Int} {tgt : Nat} (hd : decode Y.2.1 pc = .ok (.ifCond .ne off, 3)) (ht : (pc : Int) + off = (tgt : Int)) (kt : ¬ x = 0 → RW l G Y R Z kc ks (tgt) lv (st) M sz) (kf : x = 0 → RW l G Y R Z kc ks (pc + 3) lv (st) M sz) : RW l G Y R Z kc ks (pc) lv (.int x :: st) M sz := by
  intro p e s m args below meth c C H locs ls cells slots hR hL hl h1 h2
  exact lv_if_ne C.1 C.2.1 hd ht (fun q => kt q p e s m args below meth c C H locs ls cells slots hR hL hl h1 h2) (fun q => kf q p e s m args below meth c C H locs ls cells slots hR hL hl h1 h2)
theorem rw_if_ne_t {x : Int32} {off : Int} {tgt : Nat} (hd : decode Y.2.1 pc = .ok (.ifCond .ne off, 3)) (ht : (pc : Int) + off = (tgt : Int)) (q : ¬ x = 0) (k : RW l G Y R Z kc ks (tgt) lv (st) M sz) : RW l G Y R Z kc ks (pc) lv (.int x :: st) M sz := rw_if_ne hd ht (fun _ => k) (fun n => absurd q (by first | exact n | (intro z; exact z n)))
theorem rw_if_ne_f {x : Int32} {off : Int} {tgt : Nat} (hd : decode Y.2.1 pc = .ok (.ifCond .ne off, 3)) (ht : (pc : Int) + off = (tgt : Int)) (q : x = 0) (k : RW l G Y R Z kc ks (pc + 3) lv (st) M sz) : RW l G Y R Z kc ks (pc) lv (.int x :: st) M sz := rw_if_ne hd ht (fun n => absurd n (by first | exact q | (intro z; exact z q))) (fun _ => k)
theorem rw_icmp_lt {x y : Int32} {off : Int} {tgt : Nat} (hd : decode Y.2.1 pc = .ok (.if_icmp .lt off, 3)) (ht : (pc : Int) + off = (tgt : Int)) (kt : x < y → RW l G Y R Z kc ks (tgt) lv (st) M sz) (kf : ¬ x < y → RW l G Y R Z kc ks (pc + 3) lv (st) M sz) : RW l G Y R Z kc ks (pc) lv (.int y :: .int x :: st) M sz := by
  intro p e s m args below meth c C H locs ls cells slots hR hL hl h1 h2
  exact lv_icmp_lt C.1 C.2.1 hd ht (fun q => kt q p e s m args below meth c C H locs ls cells slots hR hL hl h1 h2) (fun q => kf q p e s m args below meth c C H locs ls cells slots hR hL hl h1 h2)
theorem rw_icmp_lt_t {x y : Int32} {off : Int} {tgt : Nat} (hd : decode Y.2.1 pc = .ok (.if_icmp .lt off, 3)) (ht : (pc : Int) + off = (tgt : Int)) (q : x < y) (k : RW l G Y R Z kc ks (tgt) lv (st) M sz) : RW l G Y R Z kc ks (pc) lv (.int y :: .int x :: st) M sz := rw_icmp_lt hd ht (fun _ => k) (fun n => absurd q (by first | exact n | (intro z; exact z n)))
theorem rw_icmp_lt_f {x y : Int32} {off : Int} {tgt : Nat} (hd : decode Y.2.1 pc = .ok (.if_icmp .lt off, 3)) (ht : (pc : Int) + off = (tgt : Int)) (q : ¬ x < y) (k : RW l G Y R Z kc ks (pc + 3) lv (st) M sz) : RW l G Y R Z kc ks (pc) lv (.int y :: .int x :: st) M sz := rw_icmp_lt hd ht (fun n => absurd n (by first | exact q | (intro z; exact z q))) (fun _ => k)
theorem rw_if_lt {x : Int32} {off : Int} {tgt : Nat} (hd : decode Y.2.1 pc = .ok (.ifCond .lt off, 3)) (ht : (pc : Int) + off = (tgt : Int)) (kt : x < 0 → RW l G Y R Z kc ks (tgt) lv (st) M sz) (kf : ¬ x < 0 → RW l G Y R Z kc ks (pc + 3) lv (st) M sz) : RW l G Y R Z kc ks (pc) lv (.int x :: st) M sz := by
  intro p e s m args below meth c C H locs ls cells slots hR hL hl h1 h2
  exact lv_if_lt C.1 C.2.1 hd ht (fun q => kt q p e s m args below meth c C H locs ls cells slots hR hL hl h1 h2) (fun q => kf q p e s m args below meth c C H locs ls cells slots hR hL hl h1 h2)
theorem rw_if_lt_t {x : Int32} {off : Int} {tgt : Nat} (hd : decode Y.2.1 pc = .ok (.ifCond .lt off, 3)) (ht : (pc : Int) + off = (tgt : Int)) (q : x < 0) (k : RW l G Y R Z kc ks (tgt) lv (st) M sz) : RW l G Y R Z kc ks (pc) lv (.int x :: st) M sz := rw_if_lt hd ht (fun _ => k) (fun n => absurd q (by first | exact n | (intro z; exact z n)))
theorem rw_if_lt_f {x : Int32} {off : Int} {tgt : Nat} (hd : decode Y.2.1 pc = .ok (.ifCond .lt off, 3)) (ht : (pc : Int) + off = (tgt : Int)) (q : ¬ x < 0) (k : RW l G Y R Z kc ks (pc + 3) lv (st) M sz) : RW l G Y R Z kc ks (pc) lv (.int x :: st) M sz := rw_if_lt hd ht (fun n => absurd n (by first | exact q | (intro z; exact z q))) (fun _ => k)
theorem rw_icmp_ge {x y : Int32} {off : Int} {tgt : Nat} (hd : decode Y.2.1 pc = .ok (.if_icmp .ge off, 3)) (ht : (pc : Int) + off = (tgt : Int)) (kt : y ≤ x → RW l G Y R Z kc ks (tgt) lv (st) M sz) (kf : ¬ y ≤ x → RW l G Y R Z kc ks (pc + 3) lv (st) M sz) : RW l G Y R Z kc ks (pc) lv (.int y :: .int x :: st) M sz := by
  intro p e s m args below meth c C H locs ls cells slots hR hL hl h1 h2
  exact lv_icmp_ge C.1 C.2.1 hd ht (fun q => kt q p e s m args below meth c C H locs ls cells slots hR hL hl h1 h2) (fun q => kf q p e s m args below meth c C H locs ls cells slots hR hL hl h1 h2)
theorem rw_icmp_ge_t {x y : Int32} {off : Int} {tgt : Nat} (hd : decode Y.2.1 pc = .ok (.if_icmp .ge off, 3)) (ht : (pc : Int) + off = (tgt : Int)) (q : y ≤ x) (k : RW l G Y R Z kc ks (tgt) lv (st) M sz) : RW l G Y R Z kc ks (pc) lv (.int y :: .int x :: st) M sz := rw_icmp_ge hd ht (fun _ => k) (fun n => absurd q (by first | exact n | (intro z; exact z n)))
theorem rw_icmp_ge_f {x y : Int32} {off : Int} {tgt : Nat} (hd : decode Y.2.1 pc = .ok (.if_icmp .ge off, 3)) (ht : (pc : Int) + off = (tgt : Int)) (q : ¬ y ≤ x) (k : RW l G Y R Z kc ks (pc + 3) lv (st) M sz) : RW l G Y R Z kc ks (pc) lv (.int y :: .int x :: st) M sz := rw_icmp_ge hd ht (fun n => absurd n (by first | exact q | (intro z; exact z q))) (fun _ => k)
theorem rw_if_ge {x : Int32} {off : Int} {tgt : Nat} (hd : decode Y.2.1 pc = .ok (.ifCond .ge off, 3)) (ht : (pc : Int) + off = (tgt : Int)) (kt : 0 ≤ x → RW l G Y R Z kc ks (tgt) lv (st) M sz) (kf : ¬ 0 ≤ x → RW l G Y R Z kc ks (pc + 3) lv (st) M sz) : RW l G Y R Z kc ks (pc) lv (.int x :: st) M sz := by
  intro p e s m args below meth c C H locs ls cells slots hR hL hl h1 h2
  exact lv_if_ge C.1 C.2.1 hd ht (fun q => kt q p e s m args below meth c C H locs ls cells slots hR hL hl h1 h2) (fun q => kf q p e s m args below meth c C H locs ls cells slots hR hL hl h1 h2)
theorem rw_if_ge_t {x : Int32} {off : Int} {tgt : Nat} (hd : decode Y.2.1 pc = .ok (.ifCond .ge off, 3)) (ht : (pc : Int) + off = (tgt : Int)) (q : 0 ≤ x) (k : RW l G Y R Z kc ks (tgt) lv (st) M sz) : RW l G Y R Z kc ks (pc) lv (.int x :: st) M sz := rw_if_ge hd ht (fun _ => k) (fun n => absurd q (by first | exact n | (intro z; exact z n)))
theorem rw_if_ge_f {x : Int32} {off : Int} {tgt : Nat} (hd : decode Y.2.1 pc = .ok (.ifCond .ge off, 3)) (ht : (pc : Int) + off = (tgt : Int)) (q : ¬ 0 ≤ x) (k : RW l G Y R Z kc ks (pc + 3) lv (st) M sz) : RW l G Y R Z kc ks (pc) lv (.int x :: st) M sz := rw_if_ge hd ht (fun n => absurd n (by first | exact q | (intro z; exact z q))) (fun _ => k)
theorem rw_icmp_gt {x y : Int32} {off : Int} {tgt : Nat} (hd : decode Y.2.1 pc = .ok (.if_icmp .gt off, 3)) (ht : (pc : Int) + off = (tgt : Int)) (kt : y < x → RW l G Y R Z kc ks (tgt) lv (st) M sz) (kf : ¬ y < x → RW l G Y R Z kc ks (pc + 3) lv (st) M sz) : RW l G Y R Z kc ks (pc) lv (.int y :: .int x :: st) M sz := by
  intro p e s m args below meth c C H locs ls cells slots hR hL hl h1 h2
  exact lv_icmp_gt C.1 C.2.1 hd ht (fun q => kt q p e s m args below meth c C H locs ls cells slots hR hL hl h1 h2) (fun q => kf q p e s m args below meth c C H locs ls cells slots hR hL hl h1 h2)
theorem rw_icmp_gt_t {x y : Int32} {off : Int} {tgt : Nat} (hd : decode Y.2.1 pc = .ok (.if_icmp .gt off, 3)) (ht : (pc : Int) + off = (tgt : Int)) (q : y < x) (k : RW l G Y R Z kc ks (tgt) lv (st) M sz) : RW l G Y R Z kc ks (pc) lv (.int y :: .int x :: st) M sz := rw_icmp_gt hd ht (fun _ => k) (fun n => absurd q (by first | exact n | (intro z; exact z n)))
theorem rw_icmp_gt_f {x y : Int32} {off : Int} {tgt : Nat} (hd : decode Y.2.1 pc = .ok (.if_icmp .gt off, 3)) (ht : (pc : Int) + off = (tgt : Int)) (q : ¬ y < x) (k : RW l G Y R Z kc ks (pc + 3) lv (st) M sz) : RW l G Y R Z kc ks (pc) lv (.int y :: .int x :: st) M sz := rw_icmp_gt hd ht (fun n => absurd n (by first | exact q | (intro z; exact z q))) (fun _ => k)
theorem rw_if_gt {x : Int32} {off : Int} {tgt : Nat} (hd : decode Y.2.1 pc = .ok (.ifCond .gt off, 3)) (ht : (pc : Int) + off = (tgt : Int)) (kt : 0 < x → RW l G Y R Z kc ks (tgt) lv (st) M sz) (kf : ¬ 0 < x → RW l G Y R Z kc ks (pc + 3) lv (st) M sz) : RW l G Y R Z kc ks (pc) lv (.int x :: st) M sz := by
  intro p e s m args below meth c C H locs ls cells slots hR hL hl h1 h2
  exact lv_if_gt C.1 C.2.1 hd ht (fun q => kt q p e s m args below meth c C H locs ls cells slots hR hL hl h1 h2) (fun q => kf q p e s m args below meth c C H locs ls cells slots hR hL hl h1 h2)
theorem rw_if_gt_t {x : Int32} {off : Int} {tgt : Nat} (hd : decode Y.2.1 pc = .ok (.ifCond .gt off, 3)) (ht : (pc : Int) + off = (tgt : Int)) (q : 0 < x) (k : RW l G Y R Z kc ks (tgt) lv (st) M sz) : RW l G Y R Z kc ks (pc) lv (.int x :: st) M sz := rw_if_gt hd ht (fun _ => k) (fun n => absurd q (by first | exact n | (intro z; exact z n)))
theorem rw_if_gt_f {x : Int32} {off : Int} {tgt : Nat} (hd : decode Y.2.1 pc = .ok (.ifCond .gt off, 3)) (ht : (pc : Int) + off = (tgt : Int)) (q : ¬ 0 < x) (k : RW l G Y R Z kc ks (pc + 3) lv (st) M sz) : RW l G Y R Z kc ks (pc) lv (.int x :: st) M sz := rw_if_gt hd ht (fun n => absurd n (by first | exact q | (intro z; exact z q))) (fun _ => k)
theorem rw_icmp_le {x y : Int32} {off : Int} {tgt : Nat} (hd : decode Y.2.1 pc = .ok (.if_icmp .le off, 3)) (ht : (pc : Int) + off = (tgt : Int)) (kt : x ≤ y → RW l G Y R Z kc ks (tgt) lv (st) M sz) (kf : ¬ x ≤ y → RW l G Y R Z kc ks (pc + 3) lv (st) M sz) : RW l G Y R Z kc ks (pc) lv (.int y :: .int x :: st) M sz := by
  intro p e s m args below meth c C H locs ls cells slots hR hL hl h1 h2
  exact lv_icmp_le C.1 C.2.1 hd ht (fun q => kt q p e s m args below meth c C H locs ls cells slots hR hL hl h1 h2) (fun q => kf q p e s m args below meth c C H locs ls cells slots hR hL hl h1 h2)
theorem rw_icmp_le_t {x y : Int32} {off : Int} {tgt : Nat} (hd : decode Y.2.1 pc = .ok (.if_icmp .le off, 3)) (ht : (pc : Int) + off = (tgt : Int)) (q : x ≤ y) (k : RW l G Y R Z kc ks (tgt) lv (st) M sz) : RW l G Y R Z kc ks (pc) lv (.int y :: .int x :: st) M sz := rw_icmp_le hd ht (fun _ => k) (fun n => absurd q (by first | exact n | (intro z; exact z n)))
theorem rw_icmp_le_f {x y : Int32} {off : Int} {tgt : Nat} (hd : decode Y.2.1 pc = .ok (.if_icmp .le off, 3)) (ht : (pc : Int) + off = (tgt : Int)) (q : ¬ x ≤ y) (k : RW l G Y R Z kc ks (pc + 3) lv (st) M sz) : RW l G Y R Z kc ks (pc) lv (.int y :: .int x :: st) M sz := rw_icmp_le hd ht (fun n => absurd n (by first | exact q | (intro z; exact z q))) (fun _ => k)
theorem rw_if_le {x : Int32} {off : Int} {tgt : Nat} (hd : decode Y.2.1 pc = .ok (.ifCond .le off, 3)) (ht : (pc : Int) + off = (tgt : Int)) (kt : x ≤ 0 → RW l G Y R Z kc ks (tgt) lv (st) M sz) (kf : ¬ x ≤ 0 → RW l G Y R Z kc ks (pc + 3) lv (st) M sz) : RW l G Y R Z kc ks (pc) lv (.int x :: st) M sz := by
  intro p e s m args below meth c C H locs ls cells slots hR hL hl h1 h2
  exact lv_if_le C.1 C.2.1 hd ht (fun q => kt q p e s m args below meth c C H locs ls cells slots hR hL hl h1 h2) (fun q => kf q p e s m args below meth c C H locs ls cells slots hR hL hl h1 h2)
theorem rw_if_le_t {x : Int32} {off : Int} {tgt : Nat} (hd : decode Y.2.1 pc = .ok (.ifCond .le off, 3)) (ht : (pc : Int) + off = (tgt : Int)) (q : x ≤ 0) (k : RW l G Y R Z kc ks (tgt) lv (st) M sz) : RW l G Y R Z kc ks (pc) lv (.int x :: st) M sz := rw_if_le hd ht (fun _ => k) (fun n => absurd q (by first | exact n | (intro z; exact z n)))
theorem rw_if_le_f {x : Int32} {off : Int} {tgt : Nat} (hd : decode Y.2.1 pc = .ok (.ifCond .le off, 3)) (ht : (pc : Int) + off = (tgt : Int)) (q : ¬ x ≤ 0) (k : RW l G Y R Z kc ks (pc + 3) lv (st) M sz) : RW l G Y R Z kc ks (pc) lv (.int x :: st) M sz := rw_if_le hd ht (fun n => absurd n (by first | exact q | (intro z; exact z q))) (fun _ => k)
theorem rw_acmp_ne {rx ry : Option Nat} {off : Int} {tgt : Nat} (hd : decode Y.2.1 pc = .ok (.if_acmp .ne off, 3)) (ht : (pc : Int) + off = (tgt : Int)) (kt : ¬ rx = ry → RW l G Y R Z kc ks (tgt) lv (st) M sz) (kf : rx = ry → RW l G Y R Z kc ks (pc + 3) lv (st) M sz) : RW l G Y R Z kc ks (pc) lv (va_rf ry :: va_rf rx :: st) M sz := by
  intro p e s m args below meth c C H locs ls cells slots hR hL hl h1 h2
  exact lv_acmp_ne C.1 C.2.1 hd ht (fun q => kt q p e s m args below meth c C H locs ls cells slots hR hL hl h1 h2) (fun q => kf q p e s m args below meth c C H locs ls cells slots hR hL hl h1 h2)
theorem rw_acmp_ne_t {a b : Nat} {off : Int} {tgt : Nat} (hd : decode Y.2.1 pc = .ok (.if_acmp .ne off, 3)) (ht : (pc : Int) + off = (tgt : Int)) (q : a ≠ b) (k : RW l G Y R Z kc ks (tgt) lv (st) M sz) : RW l G Y R Z kc ks (pc) lv (.ref b :: .ref a :: st) M sz := rw_acmp_ne (rx := some a) (ry := some b) hd ht (fun _ => k) (fun n => absurd (Option.some.inj n) q)
theorem rw_acmp_ne_f {a : Nat} {off : Int} {tgt : Nat} (hd : decode Y.2.1 pc = .ok (.if_acmp .ne off, 3)) (ht : (pc : Int) + off = (tgt : Int)) (k : RW l G Y R Z kc ks (pc + 3) lv (st) M sz) : RW l G Y R Z kc ks (pc) lv (.ref a :: .ref a :: st) M sz := rw_acmp_ne (rx := some a) (ry := some a) hd ht (fun n => absurd rfl n) (fun _ => k)
theorem rw_goto {off : Int} {tgt : Nat} (hd : decode Y.2.1 pc = .ok (.goto off, 3)) (ht : (pc : Int) + off = (tgt : Int)) (k : RW l G Y R Z kc ks (tgt) lv (st) M sz) : RW l G Y R Z kc ks (pc) lv (st) M sz := by
  intro p e s m args below meth c C H locs ls cells slots hR hL hl h1 h2
  exact lv_goto C.1 C.2.1 hd ht (k p e s m args below meth c C H locs ls cells slots hR hL hl h1 h2)
theorem rw_ifnull_f {a : Nat} {off : Int} (hd : decode Y.2.1 pc = .ok (.ifnull off, 3)) (k : RW l G Y R Z kc ks (pc + 3) lv (st) M sz) : RW l G Y R Z kc ks (pc) lv (.ref a :: st) M sz := by
  intro p e s m args below meth c C H locs ls cells slots hR hL hl h1 h2
  exact lv_ifnull C.1 C.2.1 hd (k p e s m args below meth c C H locs ls cells slots hR hL hl h1 h2)
theorem rw_ifnull_t {off : Int} {tgt : Nat} (hd : decode Y.2.1 pc = .ok (.ifnull off, 3)) (ht : (pc : Int) + off = (tgt : Int)) (k : RW l G Y R Z kc ks (tgt) lv (st) M sz) : RW l G Y R Z kc ks (pc) lv (.null :: st) M sz := by
  intro p e s m args below meth c C H locs ls cells slots hR hL hl h1 h2
  exact lv_ifnullN C.1 C.2.1 hd ht (k p e s m args below meth c C H locs ls cells slots hR hL hl h1 h2)
theorem rw_ifnonnull_t {a : Nat} {off : Int} {tgt : Nat} (hd : decode Y.2.1 pc = .ok (.ifnonnull off, 3)) (ht : (pc : Int) + off = (tgt : Int)) (k : RW l G Y R Z kc ks (tgt) lv (st) M sz) : RW l G Y R Z kc ks (pc) lv (.ref a :: st) M sz := by
  intro p e s m args below meth c C H locs ls cells slots hR hL hl h1 h2
  exact lv_ifnonnull C.1 C.2.1 hd ht (k p e s m args below meth c C H locs ls cells slots hR hL hl h1 h2)
theorem rw_ifnonnull_f {off : Int} (hd : decode Y.2.1 pc = .ok (.ifnonnull off, 3)) (k : RW l G Y R Z kc ks (pc + 3) lv (st) M sz) : RW l G Y R Z kc ks (pc) lv (.null :: st) M sz := by
  intro p e s m args below meth c C H locs ls cells slots hR hL hl h1 h2
  exact lv_ifnonnullN C.1 C.2.1 hd (k p e s m args below meth c C H locs ls cells slots hR hL hl h1 h2)
theorem rw_tabOut {dflt lo hi : Int} {offs : Array Int} {len : Nat} {x : Int32} {tgt : Nat} (hd : decode Y.2.1 pc = .ok (.tableswitch dflt lo hi offs, len)) (hx : x.toInt < lo ∨ hi < x.toInt) (ht : (pc : Int) + dflt = (tgt : Int)) (k : RW l G Y R Z kc ks (tgt) lv (st) M sz) : RW l G Y R Z kc ks (pc) lv (.int x :: st) M sz := by
  intro p e s m args below meth c C H locs ls cells slots hR hL hl h1 h2
  exact lv_tableOut C.1 C.2.1 hd hx ht (k p e s m args below meth c C H locs ls cells slots hR hL hl h1 h2)
theorem rw_tabIn {dflt lo hi : Int} {offs : Array Int} {len : Nat} {x : Int32} {off : Int} {tgt : Nat} (hd : decode Y.2.1 pc = .ok (.tableswitch dflt lo hi offs, len)) (hx : ¬ x.toInt < lo) (hx2 : ¬ hi < x.toInt) (ho : offs[(x.toInt - lo).toNat]? = some off) (ht : (pc : Int) + off = (tgt : Int)) (k : RW l G Y R Z kc ks (tgt) lv (st) M sz) : RW l G Y R Z kc ks (pc) lv (.int x :: st) M sz := by
  intro p e s m args below meth c C H locs ls cells slots hR hL hl h1 h2
  exact lv_tableIn C.1 C.2.1 hd hx hx2 ho ht (k p e s m args below meth c C H locs ls cells slots hR hL hl h1 h2)
theorem rw_topi {x : Int32} (k : ∀ y : Int32, y = x → RW l G Y R Z kc ks (pc) lv (.int y :: st) M sz) : RW l G Y R Z kc ks (pc) lv (.int x :: st) M sz := k x rfl
theorem rw_topl {x : Int64} (k : ∀ y : Int64, y = x → RW l G Y R Z kc ks (pc) lv (.long y :: st) M sz) : RW l G Y R Z kc ks (pc) lv (.long x :: st) M sz := k x rfl
theorem rw_stk {st' : List Value} (he : st = st') (k : RW l G Y R Z kc ks (pc) lv (st') M sz) : RW l G Y R Z kc ks (pc) lv (st) M sz := he ▸ k
theorem rw_lv {lv' : List (Nat × Value)} (he : ∀ q ∈ lv', lv.lookup q.1 = some q.2) (k : RW l G Y R Z kc ks (pc) lv' (st) M sz) : RW l G Y R Z kc ks (pc) lv (st) M sz := by
  intro p e s m args below meth c C H locs ls cells slots hR hL hl h1 h2
  exact k p e s m args below meth c C H locs ls cells slots hR hL ⟨hl.1, hl.2.1, fun q hq => hl.2.2 (q.1, q.2) (lk_mem (he q hq))⟩ h1 h2
theorem rw_fewer {kc' ks' : Nat} (hk : kc' ≤ kc) (hs : ks' ≤ ks) (k : RW l G Y R Z kc' ks' (pc) lv (st) M sz) : RW l G Y R Z kc ks (pc) lv (st) M sz := by
  intro p e s m args below meth c C H locs ls cells slots hR hL hl h1 h2
  exact k p e s m args below meth c C H locs ls cells slots hR hL hl (by omega) (by omega)
theorem rw_iret {v : Int32} {QQ : Option Value → mm_M → Nat → Prop} (hd : decode Y.2.1 pc = .ok (.ireturn, 1)) (hr : Y.2.2.2.1 = some .int) (hq : QQ (some (.int v)) M sz) : RW l G Y R (mm_Z G R QQ) kc ks (pc) lv ([.int v]) M sz := by
  intro p e s m args below meth c C H locs ls cells slots hR hL hl h1 h2
  refine W.widen (k := R.cells) (n := R.slots) (by omega) (by omega) ?_
  exact W.iret C.1 C.2.1 (C.2.2.1.trans hr) (fun t ht _ => ⟨_, M, sz, rfl, hq, by rw [ht]; exact hR⟩) hL hd C.2.2.2.2.1
theorem rw_lret {v : Int64} {QQ : Option Value → mm_M → Nat → Prop} (hd : decode Y.2.1 pc = .ok (.lreturn, 1)) (hr : Y.2.2.2.1 = some .long) (hq : QQ (some (.long v)) M sz) : RW l G Y R (mm_Z G R QQ) kc ks (pc) lv ([.long v]) M sz := by
  intro p e s m args below meth c C H locs ls cells slots hR hL hl h1 h2
  refine W.widen (k := R.cells) (n := R.slots) (by omega) (by omega) ?_
  exact W.lret C.1 C.2.1 (C.2.2.1.trans hr) (fun t ht _ => ⟨_, M, sz, rfl, hq, by rw [ht]; exact hR⟩) hL hd C.2.2.2.2.1
theorem rw_vret {QQ : Option Value → mm_M → Nat → Prop} (hd : decode Y.2.1 pc = .ok (.return_, 1)) (hr : Y.2.2.2.1 = none) (hq : QQ (none) M sz) : RW l G Y R (mm_Z G R QQ) kc ks (pc) lv ([]) M sz := by
  intro p e s m args below meth c C H locs ls cells slots hR hL hl h1 h2
  refine W.widen (k := R.cells) (n := R.slots) (by omega) (by omega) ?_
  exact W.vret C.1 C.2.1 (C.2.2.1.trans hr) (fun t ht _ => ⟨_, M, sz, rfl, hq, by rw [ht]; exact hR⟩) hL hd C.2.2.2.2.1
theorem rw_zret {v : Int32} {QQ : Option Value → mm_M → Nat → Prop} (hd : decode Y.2.1 pc = .ok (.ireturn, 1)) (hr : Y.2.2.2.1 = some .boolean) (hn : narrow .boolean (.int v) = .int v) (hq : QQ (some (.int v)) M sz) : RW l G Y R (mm_Z G R QQ) kc ks (pc) lv ([.int v]) M sz := by
  intro p e s m args below meth c C H locs ls cells slots hR hL hl h1 h2
  refine W.widen (k := R.cells) (n := R.slots) (by omega) (by omega) ?_
  exact W.zret C.1 C.2.1 (C.2.2.1.trans hr) hn (fun t ht _ => ⟨_, M, sz, rfl, hq, by rw [ht]; exact hR⟩) hL hd C.2.2.2.2.1
theorem rw_aret {v : Value} {cn : String} {QQ : Option Value → mm_M → Nat → Prop} (hd : decode Y.2.1 pc = .ok (.areturn, 1)) (hr : Y.2.2.2.1 = some (.object cn)) (hv : mm_ref v) (hq : QQ (some v) M sz) : RW l G Y R (mm_Z G R QQ) kc ks (pc) lv ([v]) M sz := by
  intro p e s m args below meth c C H locs ls cells slots hR hL hl h1 h2
  refine W.widen (k := R.cells) (n := R.slots) (by omega) (by omega) ?_
  exact W.aret C.1 C.2.1 (C.2.2.1.trans hr) (Or.inl ⟨_, rfl⟩) hv (fun t ht _ => ⟨_, M, sz, rfl, hq, by rw [ht]; exact hR⟩) hL hd C.2.2.2.2.1
end RULES
