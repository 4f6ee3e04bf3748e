/-! Rules of a walk that touch memory, and calls. -/
theorem mm_P1 {D : va_G} {cl : List vw_C} {q : Nat × va_E} {H : Heap} (h : va_at D cl q H) : va_P D cl [q] H := by
  intro k x hk
  match k, hk with
  | 0, hk => cases hk; exact h
/-- a field by its place in the pool of the class 'own': class ci, field k -/
def mm_F (own : String) (idx ci k : Nat) : Prop := ∃ (C : String) (T : u_T) (N : Nat), vwCl[ci]? = some (C, T, N) ∧ k < N ∧ (∀ w ∈ u_ws C T N, w ∈ lwK) ∧ Cond.fieldLink own idx (T k).1 (T k).2.1 (T k).2.2.1 ∈ lwK
/-- the same for a store: of type ty; a final one in a constructor alone -/
def mm_FP (own : String) (idx ci k : Nat) (ty : FieldType) (nm : String) : Prop := ∃ (C : String) (T : u_T) (N : Nat) (tyf : Nat → FieldType), vwCl[ci]? = some (C, T, N) ∧ k < N ∧ (∀ w ∈ u_ws C T N, w ∈ lwK) ∧ Cond.fieldLink own idx (T k).1 (T k).2.1 (T k).2.2.1 ∈ lwK ∧
  (∀ j, j < N → parseFieldDescriptor (T j).2.2.1 = some (tyf j)) ∧ (∀ a, a < N → ∀ b, b < N → a ≠ b → (T a).2.1 ≠ (T b).2.1) ∧ parseFieldDescriptor (T k).2.2.1 = some ty ∧ ((T k).2.2.2 = false ∨ ((T k).2.2.2 = true ∧ nm = "<init>" ∧ (T k).1 = own))
/-- an object of class ci of N fields, fresh: its fields -/
def mm_N (own : String) (idx ci N : Nat) (fs : List Value) : Prop := ∃ (C : String) (T : u_T) (tyf : Nat → FieldType), vwCl[ci]? = some (C, T, N) ∧ (∀ w ∈ u_ws C T N, w ∈ lwK) ∧ (∀ j, j < N → parseFieldDescriptor (T j).2.2.1 = some (tyf j)) ∧ Cond.classLink own idx C ∈ lwK ∧ Cond.instantiable C N ∈ lwK ∧ Cond.initialized C ∈ lwK ∧ (∀ j, j < N → defaultValue (tyf j) = vp_V fs j)
theorem mm_locs {G : mm_G} {locs : List Loc} {a i : Nat} (h : ∀ q ∈ locs, gh G ≤ q.base) (ha : gh G ≤ a) : ∀ q ∈ locs ++ [(⟨a, i⟩ : Loc)], gh G ≤ q.base := by
  intro q hq
  rcases List.mem_append.mp hq with h1 | h1
  · exact h q h1
  · rw [List.mem_singleton.mp h1]
    exact ha
section MEM
variable {l : Launch} {G : mm_G} {Y : mm_Y} {R : Room} {Z : mm_Zt} {kc ks pc : Nat} {lv : List (Nat × Value)} {st : List Value} {M : mm_M} {sz : Nat}
theorem rw_get {ci k idx a : Nat} {fs : List Value} {v : Value} (hd : decode Y.2.1 pc = .ok (.getfield idx, 3)) (hF : mm_F Y.1 idx ci k) (hM : M a = some (.inr (ci, fs))) (hv : fs[k]? = some v) (kk : RW l G Y R Z kc ks (pc + 3) lv (v :: st) M sz) : RW l G Y R Z kc ks pc lv (.ref a :: st) M sz := by
  intro p e s m args below meth c C H locs ls cells slots hR hL hl h1 h2
  obtain ⟨C0, T, N, hc, hk, hin, hw⟩ := hF
  obtain ⟨hx, hb, -, -, -, hown, -, hts, hK⟩ := id C
  exact va_get hx hb hts hin hown hK.1 (mm_P1 (hR.2.1 a _ hM).2) 0 rfl hc k hk (hts _ hw) (fun _ h => h) hv hd (kk p e s m args below meth c C H locs ls cells slots hR hL hl h1 h2)
theorem rw_put {ci k idx a : Nat} {ty : FieldType} {fs : List Value} {v : Value} (hd : decode Y.2.1 pc = .ok (.putfield idx, 3)) (hF : mm_FP Y.1 idx ci k ty Y.2.2.2.2) (hM : M a = some (.inr (ci, fs))) (hl0 : k < fs.length) (hn : narrow ty v = v) (hf : fits ty v = true) (kk : RW l G Y R Z kc ks (pc + 3) lv st (mup M a (.inr (ci, fs.set k v))) sz) : RW l G Y R Z kc ks pc lv (v :: .ref a :: st) M sz := by
  intro p e s m args below meth c C H locs ls cells slots hR hL hl h1 h2
  obtain ⟨C0, T, N, tyf, hc, hk, hin, hw, hty, hnm, hd2, hfin⟩ := hF
  obtain ⟨hx, hb, -, -, -, hown, hmn, hts, hK⟩ := id C
  have hap := va_apart (own := Y.1) hts hin tyf hty hnm hK.1 hc
  obtain ⟨r, h1', cell, q1, q2, q3, q4⟩ := (hR.2.1 a _ hM).2
  have hr : r = (C0, T, N) := Option.some.inj (h1'.symm.trans hc)
  subst hr
  obtain ⟨hS, hfc, kC, hkC, hkind⟩ := hK.1.1 ci _ hc
  obtain ⟨cf, kf, fi, f, hi, hsl⟩ := hS k hk
  have hlay := hts _ (hin _ (u_in_lay hk))
  have hst := (u_facts hfc hkC (u_lays hts hin hk) hi).1
  rcases hfin with hfin | ⟨hfin, hin2, hdecl⟩
  · unfold u_lay at hlay
    rw [if_neg (by rw [hfin]; decide)] at hlay
    have h6 := u_store hfc hkC hkind hlay hi hd2 hn hf
    refine W.putK hx hb (f := f) ⟨hown, hts _ hw, ⟨_, _, _, hi⟩, hst⟩ (by rw [q2]; exact h6) q1 q3 (by rw [hsl]; exact k2_hasslot (q4 k hk)) rfl rfl hd fun H' e1 e2 e3 => ?_
    rw [hsl] at e1
    exact kk p e s m args below meth c C H' _ ls cells slots (hR.set (hR.2.1 a _ hM).1 ⟨_, hc, t_OB.to (V := updV (vp_V fs) k v) ⟨_, e1, q2, q3, t_set q4 hap hk v⟩ (fun j _ => vp_updV_set hl0 v j)⟩ e2 e3) (mm_locs hL (hR.2.1 a _ hM).1) hl h1 h2
  · unfold u_lay at hlay
    rw [if_pos hfin] at hlay
    have hcf : m.cls = cf := by
      obtain ⟨_, _, c', _, _, _, -, -, hf', -, -, -, hown2, -⟩ := Cond.laysFinal_spec hlay
      have e1 : c' = cf := by have := hi.symm.trans hf'; simp at this; exact this.1.symm
      rw [hdecl] at hown2
      rw [← e1]; exact Option.some.inj (hown.symm.trans hown2)
    have h6 := u_fits hfc hkC hkind (Or.inr hlay) hi hd2 hn hf
    refine W.putFinK hx hb hown (hts _ hw) hi hst hcf (hmn.trans hin2) (by rw [q2]; exact h6) q1 q3 (by rw [hsl]; exact k2_hasslot (q4 k hk)) rfl rfl hd fun H' e1 e2 e3 => ?_
    rw [hsl] at e1
    exact kk p e s m args below meth c C H' _ ls cells slots (hR.set (hR.2.1 a _ hM).1 ⟨_, hc, t_OB.to (V := updV (vp_V fs) k v) ⟨_, e1, q2, q3, t_set q4 hap hk v⟩ (fun j _ => vp_updV_set hl0 v j)⟩ e2 e3) (mm_locs hL (hR.2.1 a _ hM).1) hl h1 h2
theorem rw_iald {a n : Nat} {f : Nat → Int32} {i : Int32} (hd : decode Y.2.1 pc = .ok (.iaload, 1)) (hM : M a = some (.inl (0, n, .inl f))) (hin : vp_in i n) (kk : RW l G Y R Z kc ks (pc + 1) lv (.int (f i.toNatClampNeg) :: st) M sz) : RW l G Y R Z kc ks pc lv (.int i :: .ref a :: st) M sz := by
  intro p e s m args below meth c C H locs ls cells slots hR hL hl h1 h2
  obtain ⟨hx, hb, -, -, -, hown, hmn, hts, hK⟩ := id C
  exact va_iald hx hb hK.1 (mm_P1 (hR.2.1 a _ hM).2) 0 0 rfl rfl hin hd (kk p e s m args below meth c C H locs ls cells slots hR hL hl h1 h2)
theorem rw_zald {a n : Nat} {f : Nat → Int32} {i : Int32} (hd : decode Y.2.1 pc = .ok (.baload, 1)) (hM : M a = some (.inl (1, n, .inl f))) (hin : vp_in i n) (kk : RW l G Y R Z kc ks (pc + 1) lv (.int (f i.toNatClampNeg) :: st) M sz) : RW l G Y R Z kc ks pc lv (.int i :: .ref a :: st) M sz := by
  intro p e s m args below meth c C H locs ls cells slots hR hL hl h1 h2
  obtain ⟨hx, hb, -, -, -, hown, hmn, hts, hK⟩ := id C
  exact va_zald hx hb hK.1 (mm_P1 (hR.2.1 a _ hM).2) 0 1 rfl rfl hin hd (kk p e s m args below meth c C H locs ls cells slots hR hL hl h1 h2)
theorem rw_lald {a n : Nat} {f : Nat → Int64} {i : Int32} (hd : decode Y.2.1 pc = .ok (.laload, 1)) (hM : M a = some (.inl (2, n, .inr (.inl f)))) (hin : vp_in i n) (kk : RW l G Y R Z kc ks (pc + 1) lv (.long (f i.toNatClampNeg) :: st) M sz) : RW l G Y R Z kc ks pc lv (.int i :: .ref a :: st) M sz := by
  intro p e s m args below meth c C H locs ls cells slots hR hL hl h1 h2
  obtain ⟨hx, hb, -, -, -, hown, hmn, hts, hK⟩ := id C
  exact va_lald hx hb hK.1 (mm_P1 (hR.2.1 a _ hM).2) 0 2 rfl rfl hin hd (kk p e s m args below meth c C H locs ls cells slots hR hL hl h1 h2)
theorem rw_aald {a n t : Nat} {cn : String} {f : Nat → Option Nat} {i : Int32} (hd : decode Y.2.1 pc = .ok (.aaload, 1)) (hM : M a = some (.inl (t, n, .inr (.inr (.inr (.inr f)))))) (ht : t < 6) (hcn : mm_ty t = .object cn) (hin : vp_in i n) (kk : RW l G Y R Z kc ks (pc + 1) lv (va_rf (f i.toNatClampNeg) :: st) M sz) : RW l G Y R Z kc ks pc lv (.int i :: .ref a :: st) M sz := by
  intro p e s m args below meth c C H locs ls cells slots hR hL hl h1 h2
  obtain ⟨hx, hb, -, -, -, hown, hmn, hts, hK⟩ := id C
  exact va_aldq hx hb hK.1 (mm_P1 (hR.2.1 a _ hM).2) 0 t rfl (hcn ▸ mm_tys_at G ht) hin hd (kk p e s m args below meth c C H locs ls cells slots hR hL hl h1 h2)
theorem rw_alen {a t : Nat} {x : vp_A} {v : Int32} (hd : decode Y.2.1 pc = .ok (.arraylength, 1)) (hM : M a = some (.inl (t, x))) (ht : t < 6) (hv : Int32.ofNat x.1 = v) (kk : RW l G Y R Z kc ks (pc + 1) lv (.int v :: st) M sz) : RW l G Y R Z kc ks pc lv (.ref a :: st) M sz := by
  intro p e s m args below meth c C H locs ls cells slots hR hL hl h1 h2
  obtain ⟨hx, hb, -, -, -, hown, hmn, hts, hK⟩ := id C
  exact va_alen hx hb hK.1 (mm_P1 (hR.2.1 a _ hM).2) 0 t rfl (mm_tys_at G ht) hv hd (kk p e s m args below meth c C H locs ls cells slots hR hL hl h1 h2)
theorem rw_sld {i : Int32} (hd : decode Y.2.1 pc = .ok (.iaload, 1)) (hin : vp_in i (gL G)) (kk : RW l G Y R Z kc ks (pc + 1) lv (.int (gx G i.toNatClampNeg) :: st) M sz) : RW l G Y R Z kc ks pc lv (.int i :: .ref (gb G) :: st) M sz := by
  intro p e s m args below meth c C H locs ls cells slots hR hL hl h1 h2
  obtain ⟨hx, hb, -, -, -, hown, hmn, hts, hK⟩ := id C
  obtain ⟨scr, q1, q2, q3, q4, q5⟩ := hK.2.2.2.2.1
  have hlt : i.toNatClampNeg < gL G := Nat.not_le.mp fun q => hin (Or.inr q)
  exact W.iald (v := .int (gx G i.toNatClampNeg)) hx hb (by rw [hR.2.2.1 _ hK.2.2.2.2.2.1]; exact q1) q2 q3 (by rw [q4]; exact hin) (q5 _ hlt) rfl rfl hd (kk p e s m args below meth c C H locs ls cells slots hR hL hl h1 h2)
theorem rw_slen {v : Int32} (hd : decode Y.2.1 pc = .ok (.arraylength, 1)) (hv : Int32.ofNat (gL G) = v) (kk : RW l G Y R Z kc ks (pc + 1) lv (.int v :: st) M sz) : RW l G Y R Z kc ks pc lv (.ref (gb G) :: st) M sz := by
  intro p e s m args below meth c C H locs ls cells slots hR hL hl h1 h2
  obtain ⟨hx, hb, -, -, -, hown, hmn, hts, hK⟩ := id C
  obtain ⟨scr, q1, q2, q3, q4, q5⟩ := hK.2.2.2.2.1
  subst hv
  exact W.alen (n := Int32.ofNat (gL G)) hx hb (by rw [hR.2.2.1 _ hK.2.2.2.2.2.1]; exact q1) q2 (by rw [q4] <;> rfl) rfl rfl hd (kk p e s m args below meth c C H locs ls cells slots hR hL hl h1 h2)
/-- a table of the switch -/
theorem rw_swld {i : Int32} {v : Value} (hd : decode Y.2.1 pc = .ok (.iaload, 1)) (hin : vp_in i 10) (hv : mm_swv i.toNatClampNeg = v) (kk : RW l G Y R Z kc ks (pc + 1) lv (v :: st) M sz) : RW l G Y R Z kc ks pc lv (.int i :: .ref (gsw G) :: st) M sz := by
  intro p e s m args below meth c C H locs ls cells slots hR hL hl h1 h2
  obtain ⟨hx, hb, -, -, -, hown, hmn, hts, hK⟩ := id C
  obtain ⟨cell, q1, q2, q3, q4, q5, q6, q7⟩ := hK.2.2.2.1
  have hlt : i.toNatClampNeg < 10 := Nat.not_le.mp fun q => hin (Or.inr q)
  exact W.iald (v := v) hx hb (by rw [hR.2.2.1 _ (Nat.not_le.mp q7)]; exact q1) q2 q3 (fun q => hin (q.elim Or.inl (fun z => Or.inr (Nat.le_trans q4 z)))) (by rw [q6 _ hlt, hv]) rfl rfl hd (kk p e s m args below meth c C H locs ls cells slots hR hL hl h1 h2)
theorem mm_gets {C0 n d ref : String} {v : Value} {idx : Nat} (hZ : ∀ s : State, mm_K G s → va_Z C0 n d v (mm_A G) s (gH G)) (hw : Cond.fieldLink Y.1 idx C0 n d ∈ lwK) (hd : decode Y.2.1 pc = .ok (.getstatic idx, 3)) (kk : RW l G Y R Z kc ks (pc + 3) lv (v :: st) M sz) : RW l G Y R Z kc ks pc lv st M sz := by
  intro p e s m args below meth c C H locs ls cells slots hR hL hl h1 h2
  obtain ⟨hx, hb, -, -, -, hown, hmn, hts, hK⟩ := id C
  obtain ⟨cf, kf, fi, f, a, cell, z1, z2, z3, z4, z5, z6, z7, z8⟩ := hZ s hK
  exact W.gets hx hb hown (hts _ hw) z1 z2 z3 z4 (by rw [hR.2.2.1 a (Nat.not_le.mp z8)]; exact z5) (fun e => by rw [e] at z6; cases z6) z7 rfl hd (kk p e s m args below meth c C H locs ls cells slots hR hL hl h1 h2)
theorem rw_kind {i idx : Nat} (hi : i < 10) (hw : Cond.fieldLink Y.1 idx "VersionGroup$Kind" (mm_kinds.getD i "") "LVersionGroup$Kind;" ∈ lwK) (hd : decode Y.2.1 pc = .ok (.getstatic idx, 3)) (kk : RW l G Y R Z kc ks (pc + 3) lv (.ref (gad G i) :: st) M sz) : RW l G Y R Z kc ks pc lv st M sz :=
  mm_gets (ref := "") (fun _ hK => (hK.2.1.1 i hi).1) hw hd kk
theorem rw_swm {idx : Nat} (hw : Cond.fieldLink Y.1 idx "VersionGroup$1" "$SwitchMap$VersionGroup$Kind" "[I" ∈ lwK) (hd : decode Y.2.1 pc = .ok (.getstatic idx, 3)) (kk : RW l G Y R Z kc ks (pc + 3) lv (.ref (gsw G) :: st) M sz) : RW l G Y R Z kc ks pc lv st M sz :=
  mm_gets (ref := "") (fun _ hK => hK.2.2.1) hw hd kk
theorem rw_iast {a n : Nat} {f : Nat → Int32} {i x : Int32} (hd : decode Y.2.1 pc = .ok (.iastore, 1)) (hM : M a = some (.inl (0, n, .inl f))) (hin : vp_in i n) (kk : RW l G Y R Z kc ks (pc + 1) lv st (mup M a (.inl (0, n, .inl (upd f i.toNatClampNeg x)))) sz) : RW l G Y R Z kc ks pc lv (.int x :: .int i :: .ref a :: st) M sz := by
  intro p e s m args below meth c C H locs ls cells slots hR hL hl h1 h2
  obtain ⟨hx, hb, -, -, -, hown, hmn, hts, hK⟩ := id C
  have ha := (hR.2.1 a _ hM)
  refine W.iast hx hb ha.2 ((hK.1.2 0 _ rfl).1 n (fun j => .int (f j))) (fun q => by cases q) (by show ¬ (i < 0 ∨ (arrV _ _ _).slots.size ≤ _); rw [arrV_size]; exact hin) rfl rfl hd fun H1 e1 z oq => ?_
  refine kk p e s m args below meth c C H1 _ ls cells slots (hR.set ha.1 ?_ z oq) (mm_locs hL ha.1) hl h1 h2
  show H1[a]? = some (vp_cell _ _)
  rw [e1]
  show some ((vp_cell _ _).setSlot _ _) = _
  rw [vp_cell_i, vp_cell_i, arrV_store]
  congr 2
  funext q
  by_cases hq : q = i.toNatClampNeg
  · subst hq
    simp [updV, upd]
  · simp [updV, upd, hq]
theorem rw_zast {a n : Nat} {f : Nat → Int32} {i x : Int32} (hd : decode Y.2.1 pc = .ok (.bastore, 1)) (hM : M a = some (.inl (1, n, .inl f))) (hin : vp_in i n) (hn : narrow .boolean (.int x) = .int x) (kk : RW l G Y R Z kc ks (pc + 1) lv st (mup M a (.inl (1, n, .inl (upd f i.toNatClampNeg x)))) sz) : RW l G Y R Z kc ks pc lv (.int x :: .int i :: .ref a :: st) M sz := by
  intro p e s m args below meth c C H locs ls cells slots hR hL hl h1 h2
  obtain ⟨hx, hb, -, -, -, hown, hmn, hts, hK⟩ := id C
  have ha := (hR.2.1 a _ hM)
  refine W.zast hx hb ha.2 ((hK.1.2 1 _ rfl).1 n (fun j => .int (f j))) (fun q => by cases q) (by show ¬ (i < 0 ∨ (arrV _ _ _).slots.size ≤ _); rw [arrV_size]; exact hin) rfl rfl hd fun H1 e1 z oq => ?_
  refine kk p e s m args below meth c C H1 _ ls cells slots (hR.set ha.1 ?_ z oq) (mm_locs hL ha.1) hl h1 h2
  show H1[a]? = some (vp_cell _ _)
  rw [e1, hn]
  show some ((vp_cell _ _).setSlot _ _) = _
  rw [vp_cell_i, vp_cell_i, arrV_store]
  congr 2
  funext q
  by_cases hq : q = i.toNatClampNeg
  · subst hq
    simp [updV, upd]
  · simp [updV, upd, hq]
theorem rw_last {a n : Nat} {f : Nat → Int64} {i : Int32} {x : Int64} (hd : decode Y.2.1 pc = .ok (.lastore, 1)) (hM : M a = some (.inl (2, n, .inr (.inl f)))) (hin : vp_in i n) (kk : RW l G Y R Z kc ks (pc + 1) lv st (mup M a (.inl (2, n, .inr (.inl (va_up f i.toNatClampNeg x))))) sz) : RW l G Y R Z kc ks pc lv (.long x :: .int i :: .ref a :: st) M sz := by
  intro p e s m args below meth c C H locs ls cells slots hR hL hl h1 h2
  obtain ⟨hx, hb, -, -, -, hown, hmn, hts, hK⟩ := id C
  have ha := (hR.2.1 a _ hM)
  refine W.last hx hb ha.2 ((hK.1.2 2 _ rfl).1 n (fun j => .long (f j))) (fun q => by cases q) (by show ¬ (i < 0 ∨ (arrV _ _ _).slots.size ≤ _); rw [arrV_size]; exact hin) rfl rfl hd fun H1 e1 z oq => ?_
  refine kk p e s m args below meth c C H1 _ ls cells slots (hR.set ha.1 ?_ z oq) (mm_locs hL ha.1) hl h1 h2
  show H1[a]? = some (vp_cell _ _)
  rw [e1]
  show some ((vp_cell _ _).setSlot _ _) = _
  rw [vp_cell_l, vp_cell_l, arrV_store]
  congr 2
  funext q
  by_cases hq : q = i.toNatClampNeg
  · subst hq
    simp [updV, va_up]
  · simp [updV, va_up, hq]
theorem rw_aast {a n t v ci : Nat} {C0 : String} {T : u_T} {N : Nat} {vs : List Value} {f : Nat → Option Nat} {i : Int32} (hd : decode Y.2.1 pc = .ok (.aastore, 1)) (hM : M a = some (.inl (t, n, .inr (.inr (.inr (.inr f)))))) (ht : t < 6) (hV : M v = some (.inr (ci, vs))) (hc : vwCl[ci]? = some (C0, T, N)) (hcn : mm_ty t = .object C0) (hin : vp_in i n) (kk : RW l G Y R Z kc ks (pc + 1) lv st (mup M a (.inl (t, n, .inr (.inr (.inr (.inr (va_up f i.toNatClampNeg (some v)))))))) sz) : RW l G Y R Z kc ks pc lv (.ref v :: .int i :: .ref a :: st) M sz := by
  intro p e s m args below meth c C H locs ls cells slots hR hL hl h1 h2
  obtain ⟨hx, hb, -, -, -, hown, hmn, hts, hK⟩ := id C
  have ha := (hR.2.1 a _ hM)
  have hlt : i.toNatClampNeg < n := Nat.not_le.mp fun q => hin (Or.inr q)
  have h0 : ¬ i < 0 := fun q => hin (Or.inl q)
  obtain ⟨r', hr', cellV, g1, g2, g3, -⟩ := (hR.2.1 v _ hV).2
  have hcls := (hK.1.1 ci _ hc).2
  have htt := (hK.1.2 t _ (mm_tys_at G ht)).2
  rw [hcn] at htt
  obtain ⟨kA, comp, k1, k2, k3, -⟩ := htt
  have hcomp : comp = (gD G).1 ci := Option.some.inj (k3.symm.trans hcls.1)
  subst hcomp
  obtain ⟨kC, hkC, -⟩ := hcls.2
  refine W.aast hx hb ha.2 (fun q h => by cases h) (fun h => by cases h) k1 k2 rfl hkC ⟨h0, by show _ < (arrV _ _ _).slots.size; rw [arrV_size]; exact hlt⟩ g1 (fun q h => by rw [g3] at h; cases h) (by rw [g2]; exact hkC) (by rw [g2]; exact va_assign hcls) rfl rfl hd fun H1 e1 z oq => ?_
  refine kk p e s m args below meth c C H1 _ ls cells slots (hR.set ha.1 ?_ z oq) (mm_locs hL ha.1) hl h1 h2
  show H1[a]? = some (vp_cell _ _)
  rw [e1]
  show some ((vp_cell _ _).setSlot _ _) = _
  rw [vp_cell_q, vp_cell_q, arrV_store]
  congr 2
  funext q
  by_cases hq : q = i.toNatClampNeg
  · subst hq
    simp [updV, va_up, va_rf]
  · simp [updV, va_up, hq]
theorem rw_aastN {a n t : Nat} {cn : String} {f : Nat → Option Nat} {i : Int32} (hd : decode Y.2.1 pc = .ok (.aastore, 1)) (hM : M a = some (.inl (t, n, .inr (.inr (.inr (.inr f)))))) (ht : t < 6) (hcn : mm_ty t = .object cn) (hin : vp_in i n) (kk : RW l G Y R Z kc ks (pc + 1) lv st (mup M a (.inl (t, n, .inr (.inr (.inr (.inr (va_up f i.toNatClampNeg none))))))) sz) : RW l G Y R Z kc ks pc lv (.null :: .int i :: .ref a :: st) M sz := by
  intro p e s m args below meth c C H locs ls cells slots hR hL hl h1 h2
  obtain ⟨hx, hb, -, -, -, hown, hmn, hts, hK⟩ := id C
  have ha := (hR.2.1 a _ hM)
  have htt := (hK.1.2 t _ (mm_tys_at G ht)).1
  rw [hcn] at htt
  refine va_WaastN (C := cn) hx hb ha.2 (htt n (fun j => va_rf (f j))) (fun h => by cases h) (by show ¬ (i < 0 ∨ (arrV _ _ _).slots.size ≤ _); rw [arrV_size]; exact hin) rfl rfl hd fun H1 e1 z oq => ?_
  refine kk p e s m args below meth c C H1 _ ls cells slots (hR.set ha.1 ?_ z oq) (mm_locs hL ha.1) hl h1 h2
  show H1[a]? = some (vp_cell _ _)
  rw [e1]
  show some ((vp_cell _ _).setSlot _ _) = _
  rw [vp_cell_q, vp_cell_q, arrV_store]
  congr 2
  funext q
  by_cases hq : q = i.toNatClampNeg
  · subst hq
    simp [updV, va_up, va_rf]
  · simp [updV, va_up, hq]
theorem rw_new {ci idx N : Nat} {fs : List Value} (hd : decode Y.2.1 pc = .ok (.new idx, 3)) (hF : mm_N Y.1 idx ci N fs) (kk : RW l G Y R Z kc ks (pc + 3) lv (.ref sz :: st) (mup M sz (.inr (ci, fs))) (sz + 1)) : RW l G Y R Z (kc + 1) (ks + N) pc lv st M sz := by
  intro p e s m args below meth c C H locs ls cells slots hR hL hl h1 h2
  obtain ⟨C0, T, tyf, hc, hin, hty, hcl, hinst, hini, hfs⟩ := hF
  obtain ⟨hx, hb, -, -, -, hown, hmn, hts, hK⟩ := id C
  have hKn := hK.1.1 ci _ hc
  refine W.newcK hx hb hown (hts _ hcl) (hts _ hinst) (hts _ hini) rfl hd (by omega) (by omega) hKn.2.1 hR.1 fun H1 kC hkC e1 z1 o1 => ?_
  exact kk p e s m args below meth c C H1 locs ls (cells + 1) (slots + N) (hR.push ⟨_, hc, (u_born tyf hts hin hKn hkC e1 hty).to hfs⟩ z1 o1) hL hl (by omega) (by omega)
theorem rw_newa {t N : Nat} {atype : ArrayType} {n : Int32} {a0 : vp_A} (hd : decode Y.2.1 pc = .ok (.newarray atype, 2)) (hty : newarray.typeOf atype = mm_ty t) (ht : t < 3) (hw : Cond.arrayClass (mm_ty t) ∈ lwK) (hn : ¬ n < 0) (hN : n.toNatClampNeg = N) (hbytes : N * componentBytes (mm_ty t) ≤ 536870912) (ha : ∀ cA : ClassId, vp_cell cA a0 = arrV cA N (fun _ => defaultValue (mm_ty t)))
    (kk : RW l G Y R Z kc ks (pc + 2) lv (.ref sz :: st) (mup M sz (.inl (t, a0))) (sz + 1)) : RW l G Y R Z (kc + 1) (ks + N) pc lv (.int n :: st) M sz := by
  intro p e s m args below meth c C H locs ls cells slots hR hL hl h1 h2
  obtain ⟨hx, hb, -, -, -, hown, hmn, hts, hK⟩ := id C
  refine va_newaK hx hb (by rw [hty]; exact hts _ hw) rfl hd rfl hn hN (by rw [hty]; exact hbytes) (by omega) (by omega) hR.1 fun H1 cA e1 z1 o1 hAr hNm => ?_
  rw [hty] at e1 hNm
  have hA : cA = gK G t := by
    have hra := (hK.1.2 t _ (mm_tys_at G (by omega))).2
    match t, ht, hra, hNm with
    | 0, _, hra, hNm => exact Option.some.inj (hNm.symm.trans hra)
    | 1, _, hra, hNm => exact Option.some.inj (hNm.symm.trans hra)
    | 2, _, hra, hNm => exact Option.some.inj (hNm.symm.trans hra)
  subst hA
  refine kk p e s m args below meth c C H1 locs ls (cells + 1) (slots + N) (hR.push ?_ z1 o1) hL hl (by omega) (by omega)
  show H1[sz]? = some (vp_cell _ _)
  rw [e1]
  exact congrArg some (ha _).symm
theorem rw_newq {t N idx : Nat} {cn : String} {n : Int32} (hd : decode Y.2.1 pc = .ok (.anewarray idx, 3)) (ht : t < 6) (hcn : mm_ty t = .object cn) (hao : ∀ s : State, mm_K G s → va_AO cn s) (hw : Cond.classLink Y.1 idx cn ∈ lwK) (hn : ¬ n < 0) (hN : n.toNatClampNeg = N) (hbytes : N * 4 ≤ 536870912)
    (kk : RW l G Y R Z kc ks (pc + 3) lv (.ref sz :: st) (mup M sz (.inl (t, N, .inr (.inr (.inr (.inr (fun _ => none))))))) (sz + 1)) : RW l G Y R Z (kc + 1) (ks + N) pc lv (.int n :: st) M sz := by
  intro p e s m args below meth c C H locs ls cells slots hR hL hl h1 h2
  obtain ⟨hx, hb, -, -, -, hown, hmn, hts, hK⟩ := id C
  subst hN
  refine W.anew hx hb hown (hts _ hw) (va_AO.use (hao s hK)) rfl hd rfl hn hbytes (by omega) (by omega) fun cA kA comp f1 f2 f3 f4 => ?_
  have hA : cA = gK G t := by
    have hra := (hK.1.2 t _ (mm_tys_at G ht)).2
    rw [hcn] at hra
    obtain ⟨-, -, -, -, -, k4⟩ := hra
    exact Option.some.inj (f1.symm.trans k4)
  subst hA
  have hs := hR.1
  subst hs
  refine kk p e s m args below meth c C _ locs ls (cells + 1) (slots + n.toNatClampNeg) (hR.push ?_ (by simp) (fun q hq => by rw [Array.getElem?_push, if_neg (Nat.ne_of_lt hq)])) hL hl (by omega) (by omega)
  show (H.push _)[H.size]? = some (vp_cell _ _)
  rw [Array.getElem?_push_size, vp_cell_q, ← arrV_new]
  rfl
/-- behind a call -/
theorem rw_run {mc ms : Nat} {rest : List Value} {Q2 : Option Value → mm_M → Nat → Prop} {a : Array Value} {p : Program} {e : Env} {s : State} {m : MethodId} {args : Array Value} {below : List Frame} {meth : Method} {c : Code} {H : Heap} {locs : List Loc} {ls : Array Slot} {cells slots : Nat}
    (C : mm_C G Y p s m args meth c) (hL : ∀ q ∈ locs, gh G ≤ q.base) (hl : lv_has ls Y.2.2.1 lv) (h1 : cells + (kc + mc) ≤ R.cells) (h2 : slots + (ks + ms) ≤ R.slots)
    (hr : va_Run p l e R s m args below meth c H locs cells slots mc ms (F0 m pc ls st) rest (mm_Q G Q2 a) (fun q => gh G ≤ q))
    (kk : ∀ (r : Option Value) (M' : mm_M) (sz' : Nat), Q2 r M' sz' → RW l G Y R Z kc ks (pc + 3) lv (r.toList ++ rest) M' sz') : W p l e R s m args below meth c H locs cells slots (Z below args s) (F0 m pc ls st) := by
  intro T hT X
  obtain ⟨v, st₀, t, T', L, h0, X', hLL, e1, e2, ⟨r, M', sz', hv, hq, hRR⟩, stp⟩ := hr T hT X
  cases hv
  obtain ⟨t2, a1, b1⟩ := kk v M' sz' hq p e s m args below meth c C T'.heap (locs ++ L) ls (cells + mc) (slots + ms) (by rw [e1]; exact hRR) (fun q hq => by
    rcases List.mem_append.mp hq with h | h
    · exact hL q h
    · exact hLL q h) hl (by omega) (by omega) T' rfl X'
  exact ⟨t2, stp t2 a1, b1⟩
theorem mm_blind {As : List Value} {M0 : mm_M} {z0 : Nat} : FrameBlind (va_Pc As (fun U => mm_K G U ∧ mm_R G M0 z0 U.heap)) := by
  intro a U g mk h
  obtain ⟨h1, h2, h3⟩ := h
  exact ⟨h1, mm_K.same (u := U) (U := U.calling g mk a) rfl h2, h3⟩
/-- what a call asks of the words, apart from the link: the callee's code is known, its class is initialized, its parameters are n -/
def mm_CW (Y2 : mm_Y) (desc : String) (n : Nat) : Prop := Cond.code (mm_y Y2 desc) Y2.2.1 Y2.2.2.1 Y2.2.2.2.1 ∈ lwK ∧ Cond.initialized Y2.1 ∈ lwK ∧ Y2.1 ≠ "java/lang/invoke/MethodHandle" ∧ Y2.1 ≠ "java/lang/invoke/VarHandle" ∧ (parseMethodDescriptor desc).map (fun d => d.parameters.length) = some n
theorem mm_CB {Y2 : mm_Y} {desc : String} {n idx : Nat} {R2 : Room} {s : State} {args : Array Value} (hts : ∀ w ∈ lwK, w.before args s = true) (hW : mm_CW Y2 desc n) (hlk : Cond.methodLink Y.1 idx (mm_y Y2 desc) ∈ lwK) (hRm : R2.frames + 1 ≤ R.frames ∧ 8 + (Y2.2.2.1 + 11) + R2.locals ≤ R.locals) :
    CallB R s args Y.1 idx (mm_y Y2 desc) Y2.2.1 Y2.2.2.1 Y2.2.2.2.1 (Cond.code (mm_y Y2 desc) Y2.2.1 Y2.2.2.1 Y2.2.2.2.1 :: lwK) R2 R2.cells R2.slots n :=
  callB_of n hts (lwK_good _ _ _ _ hW.1) rfl rfl rfl (hts _ hW.2.1) (hts _ hlk) hW.2.2 hRm
theorem rw_callV {Y2 : mm_Y} {desc : String} {idx a n ci : Nat} {C0 : String} {T : u_T} {N : Nat} {fs As rest : List Value} {R2 : Room} {Q2 : Option Value → mm_M → Nat → Prop} (hd : decode Y.2.1 pc = .ok (.invokevirtual idx, 3)) (hC : CT l G Y2 desc R2 (.ref a :: As) M sz Q2) (hW : mm_CW Y2 desc n) (hlk : Cond.methodLink Y.1 idx (mm_y Y2 desc) ∈ lwK) (hin : Cond.instanceMethod (mm_y Y2 desc) ∈ lwK) (hse : Cond.selects Y2.1 (mm_y Y2 desc) (mm_y Y2 desc) ∈ lwK)
    (hRm : R2.frames + 1 ≤ R.frames ∧ 8 + (Y2.2.2.1 + 11) + R2.locals ≤ R.locals) (hM : M a = some (.inr (ci, fs))) (hc : vwCl[ci]? = some (C0, T, N)) (hcn : C0 = Y2.1) (hn : As.length = n) (hst : st = As.reverse ++ .ref a :: rest) (hsm : (rest.map fun v => v.category).sum ≤ 8)
    (kk : ∀ (r : Option Value) (M' : mm_M) (sz' : Nat), Q2 r M' sz' → RW l G Y R Z kc ks (pc + 3) lv (r.toList ++ rest) M' sz') : RW l G Y R Z (kc + R2.cells) (ks + R2.slots) pc lv st M sz := by
  intro p e s m args below meth c C H locs ls cells slots hR hL hl h1 h2
  obtain ⟨hx, hb, -, hml, -, hown, hmn, hts, hK⟩ := id C
  refine rw_run C hL hl h1 h2 (va_runV (C := Y2.1) ⟨hx, hb, hml, hown, hts⟩ hC ⟨mm_CB hts hW hlk hRm, hts _ hin, hts _ hse⟩ ⟨mm_blind, ?_, fun U hU hWm => ⟨rfl, hK.warm hWm, by rw [hU]; exact hR⟩⟩ rfl hn hl.1 hst (lv_room hsm) hd ⟨by omega, by omega⟩) kk
  subst hcn
  exact va_recv hK.1 (mm_P1 (hR.2.1 a _ hM).2) (ci := ci) (q := (Y2.1, T, N)) (q0 := 0) hc rfl
theorem rw_callI {Y2 : mm_Y} {desc : String} {idx a n : Nat} {As rest : List Value} {R2 : Room} {Q2 : Option Value → mm_M → Nat → Prop} (hd : decode Y.2.1 pc = .ok (.invokespecial idx, 3)) (hC : CT l G Y2 desc R2 (.ref a :: As) M sz Q2) (hW : mm_CW Y2 desc n) (hlk : Cond.methodLink Y.1 idx (mm_y Y2 desc) ∈ lwK) (hin : Cond.instanceMethod (mm_y Y2 desc) ∈ lwK) (hi : Y2.2.2.2.2 = "<init>") (hret : Y2.2.2.2.1 = none)
    (hRm : R2.frames + 1 ≤ R.frames ∧ 8 + (Y2.2.2.1 + 11) + R2.locals ≤ R.locals) (hn : As.length = n) (hst : st = As.reverse ++ .ref a :: rest) (hsm : (rest.map fun v => v.category).sum ≤ 8)
    (kk : ∀ (r : Option Value) (M' : mm_M) (sz' : Nat), Q2 r M' sz' → RW l G Y R Z kc ks (pc + 3) lv (r.toList ++ rest) M' sz') : RW l G Y R Z (kc + R2.cells) (ks + R2.slots) pc lv st M sz := by
  intro p e s m args below meth c C H locs ls cells slots hR hL hl h1 h2
  obtain ⟨hx, hb, -, hml, -, hown, hmn, hts, hK⟩ := id C
  have hCB := mm_CB (Y := Y) (R := R) (R2 := R2) hts hW hlk hRm
  rw [hret] at hCB
  unfold CT at hC
  rw [hret] at hC
  exact rw_run C hL hl h1 h2 (va_runI ⟨hx, hb, hml, hown, hts⟩ hC ⟨hCB, hi, hts _ hin⟩ ⟨mm_blind, fun U hU hWm => ⟨rfl, hK.warm hWm, by rw [hU]; exact hR⟩⟩ rfl hn hl.1 hst (lv_room hsm) hd ⟨by omega, by omega⟩) kk
theorem rw_callS {Y2 : mm_Y} {desc : String} {idx n : Nat} {As rest : List Value} {R2 : Room} {Q2 : Option Value → mm_M → Nat → Prop} (hd : decode Y.2.1 pc = .ok (.invokestatic idx, 3)) (hC : CT l G Y2 desc R2 As M sz Q2) (hW : mm_CW Y2 desc n) (hlk : Cond.methodLink Y.1 idx (mm_y Y2 desc) ∈ lwK) (hs : Cond.static (mm_y Y2 desc) ∈ lwK)
    (hRm : R2.frames + 1 ≤ R.frames ∧ 8 + (Y2.2.2.1 + 11) + R2.locals ≤ R.locals) (hn : As.length = n) (hst : st = As.reverse ++ rest) (hsm : (rest.map fun v => v.category).sum ≤ 8)
    (kk : ∀ (r : Option Value) (M' : mm_M) (sz' : Nat), Q2 r M' sz' → RW l G Y R Z kc ks (pc + 3) lv (r.toList ++ rest) M' sz') : RW l G Y R Z (kc + R2.cells) (ks + R2.slots) pc lv st M sz := by
  intro p e s m args below meth c C H locs ls cells slots hR hL hl h1 h2
  obtain ⟨hx, hb, -, hml, -, hown, hmn, hts, hK⟩ := id C
  exact rw_run C hL hl h1 h2 (va_runS ⟨hx, hb, hml, hown, hts⟩ hC ⟨mm_CB hts hW hlk hRm, hts _ hs⟩ ⟨mm_blind, fun U hU hWm => ⟨rfl, hK.warm hWm, by rw [hU]; exact hR⟩⟩ rfl hn hl.1 hst (lv_room hsm) hd ⟨by omega, by omega⟩) kk
theorem rw_objInit {idx a : Nat} {rest : List Value} (hd : decode Y.2.1 pc = .ok (.invokespecial idx, 3)) (hlk : Cond.methodLink Y.1 idx objectInit ∈ lwK) (hin : Cond.instanceMethod objectInit ∈ lwK) (hco : Cond.code objectInit ⟨#[0xb1]⟩ 1 none ∈ lwK) (hfr : 1 ≤ R.frames) (hlo : (rest.map fun v => v.category).sum + 12 ≤ R.locals) (kk : RW l G Y R Z kc ks (pc + 3) lv rest M sz) : RW l G Y R Z kc ks pc lv (.ref a :: rest) M sz := by
  intro p e s m args below meth c C H locs ls cells slots hR hL hl h1 h2
  obtain ⟨hx, hb, -, hml, -, hown, hmn, hts, hK⟩ := id C
  exact W.objInit hx hb hown (hts _ hlk) (hts _ hin) (hts _ hco) rfl (hl.1.trans hml.symm) rfl hd hfr (by show 2 * 0 + _ + 12 ≤ _; omega) (kk p e s m args below meth c C H locs ls cells slots hR hL hl h1 h2)
end MEM
