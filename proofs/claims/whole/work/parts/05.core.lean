/-! The core: memory, a method's walk over it (RW), what the machine owes a walk. -/
abbrev mm_M : Type := Nat → Option va_E
def mup (M : mm_M) (a : Nat) (e : va_E) : mm_M := fun q => if q = a then some e else M q
theorem mup_self (M : mm_M) (a : Nat) (e : va_E) : mup M a e a = some e := by simp [mup]
theorem mup_ne (M : mm_M) {a q : Nat} (e : va_E) (h : q ≠ a) : mup M a e q = M q := by simp [mup, h]
theorem mup_get {M : mm_M} {a q : Nat} {e : va_E} {x : Option va_E} (h : q ≠ a) (hM : M q = x) : mup M a e q = x := by rw [mup_ne M e h]; exact hM
/-- D, the array classes by tag, the heap's size at the law's start, that heap, the addresses of the kinds, the switch's table, the script (address, length, numbers) -/
abbrev mm_G : Type := va_G × (Nat → ClassId) × Nat × Heap × (Nat → Nat) × Nat × Nat × Nat × (Nat → Int32)
abbrev gD (G : mm_G) : va_G := G.1
abbrev gK (G : mm_G) : Nat → ClassId := G.2.1
abbrev gh (G : mm_G) : Nat := G.2.2.1
abbrev gH (G : mm_G) : Heap := G.2.2.2.1
abbrev gad (G : mm_G) : Nat → Nat := G.2.2.2.2.1
abbrev gsw (G : mm_G) : Nat := G.2.2.2.2.2.1
abbrev gb (G : mm_G) : Nat := G.2.2.2.2.2.2.1
abbrev gL (G : mm_G) : Nat := G.2.2.2.2.2.2.2.1
abbrev gx (G : mm_G) : Nat → Int32 := G.2.2.2.2.2.2.2.2
def mm_cv (G : mm_G) (e : va_E) : va_E := match e with
  | .inl x => .inl (gK G x.1, x.2)
  | .inr o => .inr o
/-- the element type of an array's tag -/
def mm_ty (t : Nat) : FieldType := match t with
  | 0 => .int
  | 1 => .boolean
  | 2 => .long
  | 3 => .object "VersionGroup$Command"
  | 4 => .object "VersionGroup$Message"
  | _ => .object "VersionGroup$Node"
abbrev mm_tys (G : mm_G) : List (ClassId × FieldType) := [(gK G 0, mm_ty 0), (gK G 1, mm_ty 1), (gK G 2, mm_ty 2), (gK G 3, mm_ty 3), (gK G 4, mm_ty 4), (gK G 5, mm_ty 5)]
theorem mm_tys_at (G : mm_G) {t : Nat} (h : t < 6) : (mm_tys G)[t]? = some (gK G t, mm_ty t) := by
  match t, h with
  | 0, _ => rfl
  | 1, _ => rfl
  | 2, _ => rfl
  | 3, _ => rfl
  | 4, _ => rfl
  | 5, _ => rfl
/-- the words that a method carries: those that keep -/
def mm_keep (w : Cond) : Bool := (w.onTables && w.keeps) || (match w with | .arrayClass _ => true | _ => false)
def lwK : List Cond := lw_tbl.filter mm_keep
theorem lwK_good (y : MethodName) (b : ByteArray) (n : Nat) (r : Option FieldType) (h : Cond.code y b n r ∈ lwK) : GoodIn lwK (Cond.code y b n r :: lwK) := by
  have key : ∀ w ∈ lwK, w ∈ lwK ∧ ((w.onTables && w.keeps) = true ∨ ∃ ty, w = .arrayClass ty) := by
    intro w hw
    refine ⟨hw, ?_⟩
    have h2 := (List.mem_filter.mp hw).2
    unfold mm_keep at h2
    rw [Bool.or_eq_true] at h2
    rcases h2 with h2 | h2
    · exact Or.inl h2
    · right
      cases w <;> simp at h2
      exact ⟨_, rfl⟩
  intro w hw
  rcases List.mem_cons.mp hw with rfl | hw
  · exact key _ h
  · exact key w hw
theorem lwK_in {w : Cond} (i : Nat) (h : tables_1[i]? = some w) (hk : mm_keep w = true) : w ∈ lwK := List.mem_filter.mpr ⟨List.mem_append_right _ (List.mem_of_getElem? h), hk⟩
theorem lwK_pos {ws : List Cond} (ps : List Nat) (h : ws = ps.filterMap (fun i => tables_1[i]?)) (hk : ws.all mm_keep = true) : ∀ w ∈ ws, w ∈ lwK := by
  intro w hw
  have h1 := List.all_eq_true.mp hk w hw
  rw [h] at hw
  obtain ⟨i, -, hi⟩ := List.mem_filterMap.mp hw
  exact lwK_in i hi h1
theorem lwK_priv {w : Cond} (i : Nat) (h : (k2_sels lw_privs)[i]? = some w) (hk : mm_keep w = true) : w ∈ lwK := List.mem_filter.mpr ⟨List.mem_append_left _ (List.mem_of_getElem? h), hk⟩
/-- what the switch over the kinds holds -/
def mm_swv (i : Nat) : Value := .int ([0, 0, 1, 0, 2, 3, 4, 5, 6, 7].getD i 0)
/-- links to private constructors of other classes -/
def mm_nest (j : Nat) : Cond := match j with
  | 0 => .methodLinkNest "VersionGroup$Post" 21 ⟨"VersionGroup$Message", "<init>", "()V"⟩ "VersionGroup"
  | 1 => .methodLinkNest "VersionGroup$Message" 9 ⟨"VersionGroup$Copy", "<init>", "()V"⟩ "VersionGroup"
  | 2 => .methodLinkNest "VersionGroup$Node" 11 ⟨"VersionGroup$Memory", "<init>", "()V"⟩ "VersionGroup"
  | _ => .methodLinkNest "VersionGroup$Memory" 9 ⟨"VersionGroup$Copy", "<init>", "()V"⟩ "VersionGroup"
abbrev mm_A (G : mm_G) : Nat → Prop := fun q => gh G ≤ q
def mm_kinds : List String := ["MAP", "HEARD", "COMMAND", "ANSWER", "ASK", "REPORT", "FETCH", "ENTRIES", "WHOLE", "DROP"]
def mm_ord : List (String × String × String × List Int32) := [("java/lang/Enum", "ordinal", "I", [0, 1, 2, 3, 4, 5, 6, 7, 8, 9])]
/-- what the tables and the constants say, wherever the walk stands -/
def mm_K (G : mm_G) (U : State) : Prop :=
  va_K (gD G) vwCl (mm_tys G) U ∧
  va_En "VersionGroup$Kind" "LVersionGroup$Kind;" mm_kinds mm_ord (gad G) (mm_A G) U (gH G) ∧
  va_Z "VersionGroup$1" "$SwitchMap$VersionGroup$Kind" "[I" (.ref (gsw G)) (mm_A G) U (gH G) ∧
  va_T .int (gsw G) 10 mm_swv (mm_A G) U (gH G) ∧
  va_X (gb G) (gL G) (gx G) U (gH G) ∧ gb G < gh G ∧
  (va_AO "VersionGroup$Command" U ∧ va_AO "VersionGroup$Message" U ∧ va_AO "VersionGroup$Node" U) ∧ ∀ j, va_Nw (mm_nest j) U
theorem mm_nest_tab (j : Nat) : (mm_nest j).onTables = true := by
  match j with
  | 0 => rfl
  | 1 => rfl
  | 2 => rfl
  | _ + 3 => rfl
theorem mm_K.warm {G : mm_G} {u U : State} (hW : u.WarmedH U.vm) (h : mm_K G u) : mm_K G U := by
  have hvm := hW.alike
  obtain ⟨h1, h2, h3, h4, h5, h6, ⟨h7, h8, h9⟩, h10⟩ := h
  refine ⟨h1.moved hvm, h2.moved hvm, h3.moved hvm, h4.moved hvm, h5.moved hvm, h6, ⟨h7.moved hvm, h8.moved hvm, h9.moved hvm⟩, fun j => ?_⟩
  match j with
  | 0 => exact va_Nw.warmM hW (h10 0)
  | 1 => exact va_Nw.warmM hW (h10 1)
  | 2 => exact va_Nw.warmM hW (h10 2)
  | k + 3 => exact va_Nw.warmM hW (h10 (k + 3))
theorem mm_K.same {G : mm_G} {u U : State} (he : u.vm = U.vm) (h : mm_K G u) : mm_K G U := by
  have hvm : u.vm.Alike U.vm := he ▸ Vm.Alike.refl u.vm
  obtain ⟨h1, h2, h3, h4, h5, h6, ⟨h7, h8, h9⟩, h10⟩ := h
  exact ⟨h1.moved hvm, h2.moved hvm, h3.moved hvm, h4.moved hvm, h5.moved hvm, h6, ⟨h7.moved hvm, h8.moved hvm, h9.moved hvm⟩, fun j => va_Nw.same (mm_nest_tab j) he (h10 j)⟩
/-- the heap holds the memory -/
def mm_R (G : mm_G) (M : mm_M) (sz : Nat) (H : Heap) : Prop :=
  H.size = sz ∧ (∀ (a : Nat) (e : va_E), M a = some e → gh G ≤ a ∧ va_at (gD G) vwCl (a, mm_cv G e) H) ∧ (∀ q : Nat, q < gh G → H[q]? = (gH G)[q]?) ∧ gh G ≤ sz
theorem mm_R.set {G : mm_G} {M : mm_M} {sz a : Nat} {H H1 : Heap} {e : va_E} (h : mm_R G M sz H) (ha : gh G ≤ a) (he : va_at (gD G) vwCl (a, mm_cv G e) H1) (hz : H1.size = H.size) (oq : ∀ q : Nat, q ≠ a → H1[q]? = H[q]?) : mm_R G (mup M a e) sz H1 := by
  obtain ⟨h1, h2, h3, h4⟩ := h
  refine ⟨hz.trans h1, fun b x hb => ?_, fun q hq => ?_, h4⟩
  · by_cases hba : b = a
    · subst hba
      rw [mup_self] at hb
      cases hb
      exact ⟨ha, he⟩
    · rw [mup_ne M e hba] at hb
      exact ⟨(h2 b x hb).1, (h2 b x hb).2.kept (oq b hba)⟩
  · rw [oq q (by omega)]
    exact h3 q hq
theorem mm_R.push {G : mm_G} {M : mm_M} {sz : Nat} {H H1 : Heap} {e : va_E} (h : mm_R G M sz H) (he : va_at (gD G) vwCl (sz, mm_cv G e) H1) (hz : H1.size = sz + 1) (oq : ∀ q : Nat, q < sz → H1[q]? = H[q]?) : mm_R G (mup M sz e) (sz + 1) H1 := by
  obtain ⟨h1, h2, h3, h4⟩ := h
  refine ⟨hz, fun b x hb => ?_, fun q hq => ?_, by omega⟩
  · by_cases hba : b = sz
    · subst hba
      rw [mup_self] at hb
      cases hb
      exact ⟨h4, he⟩
    · rw [mup_ne M e hba] at hb
      have hl : b < sz := by
        have := (h2 b x hb).2.lt
        simp only at this
        omega
      exact ⟨(h2 b x hb).1, (h2 b x hb).2.kept (oq b hl)⟩
  · rw [oq q (by omega)]
    exact h3 q hq
/-- a method: its class, its code, its locals, its answer's type, its name -/
abbrev mm_Y : Type := String × ByteArray × Nat × Option FieldType × String
def mm_C (G : mm_G) (Y : mm_Y) (p : Program) (s : State) (m : MethodId) (args : Array Value) (meth : Method) (c : Code) : Prop :=
  p.tables.exec = Jvm.exec ∧ c.code = Y.2.1 ∧ meth.sig.returnType = Y.2.2.2.1 ∧ c.maxLocals = Y.2.2.1 ∧ meth.locks = false ∧ s.vm.findClass Y.1 = some m.cls ∧ meth.name = Y.2.2.2.2 ∧ (∀ w ∈ lwK, w.before args s = true) ∧ mm_K G s
abbrev mm_Zt : Type := List Frame → Array Value → State → State → Prop
/-- a walk: wherever the machine stands so, it comes to Z -/
def RW (l : Launch) (G : mm_G) (Y : mm_Y) (R : Room) (Z : mm_Zt) (kc ks pc : Nat) (lv : List (Nat × Value)) (st : List Value) (M : mm_M) (sz : Nat) : Prop :=
  ∀ (p : Program) (e : Env) (s : State) (m : MethodId) (args : Array Value) (below : List Frame) (meth : Method) (c : Code), mm_C G Y p s m args meth c →
  ∀ (H : Heap) (locs : List Loc) (ls : Array Slot) (cells slots : Nat), mm_R G M sz H → (∀ q ∈ locs, gh G ≤ q.base) → lv_has ls Y.2.2.1 lv → cells + kc ≤ R.cells → slots + ks ≤ R.slots →
  W p l e R s m args below meth c H locs cells slots (Z below args s) (F0 m pc ls st)
def mm_Q (G : mm_G) (QQ : Option Value → mm_M → Nat → Prop) : Array Value → State → Outcome → State → Prop := fun _ _ oc t => ∃ (r : Option Value) (M : mm_M) (sz : Nat), oc = .returned r ∧ QQ r M sz ∧ mm_R G M sz t.heap
/-- a method's own end -/
def mm_Z (G : mm_G) (R : Room) (QQ : Option Value → mm_M → Nat → Prop) : mm_Zt := fun below args s => MQ below (mm_Q G QQ) args s R.cells R.slots (fun q => gh G ≤ q)
abbrev mm_y (Y : mm_Y) (desc : String) : MethodName := ⟨Y.1, Y.2.2.2.2, desc⟩
/-- a method's contract at one start -/
def CT (l : Launch) (G : mm_G) (Y : mm_Y) (desc : String) (R : Room) (As : List Value) (M : mm_M) (sz : Nat) (QQ : Option Value → mm_M → Nat → Prop) : Prop :=
  Met l (mm_y Y desc) (Cond.code (mm_y Y desc) Y.2.1 Y.2.2.1 Y.2.2.2.1 :: lwK) R (va_Pc As (fun U => mm_K G U ∧ mm_R G M sz U.heap)) (mm_Q G QQ) R.cells R.slots (fun q => gh G ≤ q)
theorem CT.of {l : Launch} {G : mm_G} {Y : mm_Y} {desc : String} {R : Room} {As : List Value} {M : mm_M} {sz : Nat} {QQ : Option Value → mm_M → Nat → Prop} (hy : plainName Y.1 = true) (hn : (lg_sl As).length ≤ Y.2.2.1) (h : RW l G Y R (mm_Z G R QQ) R.cells R.slots 0 (lv_args 0 As) [] M sz) : CT l G Y desc R As M sz QQ := by
  unfold CT
  refine Met.ofW (cc := Y.2.1) (maxL := Y.2.2.1) (ret := Y.2.2.2.1) hy rfl ?_
  intro p e s m args below meth c s₁ B hml hv
  obtain ⟨rfl, hK, hR⟩ := hv
  have hts := atoms_spec (ws := Cond.code (mm_y Y desc) Y.2.1 Y.2.2.1 Y.2.2.2.1 :: lwK) B.pre
  have hown : s.vm.findClass Y.1 = some m.cls := findClass_of_methodNamed B.named
  have hnm : meth.name = Y.2.2.2.2 := (name_of_methodNamed B.named B.method).1
  have hl := lv_entry As (n := Y.2.2.1) hn
  rw [lg_entry_eq]
  exact h p e s m As.toArray below meth c ⟨B.exec, B.bytes, B.returns, hml, B.notSynchronized, hown, hnm, fun w hw => hts w (List.mem_cons_of_mem _ hw), hK⟩ s.heap [] _ 0 0 hR (fun q hq => by cases hq) hl (by simp [headSpec]) (by simp [headSpec])
theorem lk_mem {lv : List (Nat × Value)} {i : Nat} {v : Value} (h : lv.lookup i = some v) : (i, v) ∈ lv := by
  induction lv with
  | nil => simp at h
  | cons q t ih =>
    obtain ⟨j, w⟩ := q
    rw [List.lookup_cons] at h
    by_cases hj : i = j
    · subst hj
      simp at h
      subst h
      exact List.mem_cons_self
    · have : (i == j) = false := by simpa using hj
      rw [this] at h
      exact List.mem_cons_of_mem _ (ih h)
