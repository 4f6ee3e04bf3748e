/-! THE CLAIM OUT OF ONE WALK OF THE LAW'S BODY. Your part is whole_start (and what it stands on); all else here is the same for every law, but numbers. -/
def R_law : String := "VersionGroupLaw"
def lw_P (b : Addr) (xs : List Int32) (args : Array Value) (s : State) : Prop := args = #[.ref b] ∧ s.IntsAt b xs ∧ xs.length ≤ 2050 ∧ (Jvm.Cond.and given_1 narrow_1).before args s = true
def lw_Q (_ : Array Value) (s : State) (o : Outcome) (t : State) : Prop := o = .returned (some (.int 1)) ∧ Framed s o t [] 600000 7302250
def lw_Z (below : List Frame) (a : Array Value) (s : State) : State → Prop := fun t => ∃ o, t.status = .running ∧ Ended t below o ∧ lw_Q a s o t
/-- the law's own end, with 1 on the stack, nothing written that was there before, its room as the claim has it -/
theorem lw_ret {p : Program} {l : Launch} {e : Env} {s : State} {m : MethodId} {below : List Frame} {meth : Method} {c : Code} {b : Nat} (hx : p.tables.exec = Jvm.exec) (hb : c.code = code) (hr : meth.sig.returnType = ret) (hlocks : meth.locks = false) {pc : Nat} {H : Heap} {ls : Array Slot} (hdg : decode code pc = .ok (.ireturn, 1)) : W p l e room_1 s m #[Value.ref b] below meth c H [] 600000 7302250 (lw_Z below #[Value.ref b] s) (F0 m pc ls [.int 1]) := by
  intro T hT X
  obtain ⟨fs, hret, hrun, hended, hW, hframe⟩ := X.leave (v := some (.int 1)) (hlocks := hlocks) (fun h => by rw [hr] at h; cases h)
  have hmeth' : T.vm.method? m = some meth := X.method'
  refine ⟨T.setFrames fs, ?_, .returned (some (.int 1)), hrun, hended, rfl, ⟨_, rfl⟩, hW, hframe⟩
  jvm_step X.here [X.here.top, hx, hb, hdg, hmeth', hr, ret, narrow_b1]
  (try refine ⟨rfl, ?_⟩); (try refine ⟨rfl, ?_⟩)
  first | (intro acts; rw [hret _ acts rfl rfl rfl]) | rw [hret _ _ rfl rfl rfl]
  exact Steps.refl _
/-- what holds at the law's entry: the machine, the code, the tables' words (any of lw_tbl by 'hts w (by decide +kernel)'), the script of L ints xs at the cell b, what the Statement gives of the start (any of its parts by flat_of_before) -/
def lw_At (p : Program) (s : State) (m : MethodId) (meth : Method) (c : Code) (b L : Nat) (xs : Nat → Int32) : Prop :=
  p.tables.exec = Jvm.exec ∧ c.code = code ∧ meth.sig.returnType = ret ∧ c.maxLocals = 4 ∧ s.vm.findClass R_law = some m.cls ∧ (∀ w ∈ lw_tbl, w.before #[Value.ref b] s = true) ∧ va_X b L xs s s.heap ∧ b < s.heap.size ∧ meth.locks = false ∧ (Jvm.Cond.and given_1 narrow_1).before #[Value.ref b] s = true
/-! The law's start: what the machine owes there. -/
theorem lwt {w : Cond} (i : Nat) (h : tables_1[i]? = some w) : w ∈ lw_tbl := List.mem_append_right _ (List.mem_of_getElem? h)
theorem st_arr {s : State} {args : Array Value} {ty : FieldType} (h : (Cond.arrayClass ty).before args s = true) : ∃ cA : ClassId, ArrOfT s cA ty ∧ s.vm.findClass ("[" ++ ty.toString) = some cA := by
  obtain ⟨cA, kA, comp, h1, h2, h3⟩ := Cond.arrayClass_spec h
  exact ⟨cA, fun n z => ⟨fun k h => (by cases h), kA, h2, comp, h3⟩, h1⟩
theorem st_obj {s : State} {args : Array Value} {C : String} (h : (Cond.arrayOver (.object C)).before args s = true) : ∃ cA : ClassId, ArrOfT s cA (.object C) ∧ va_RA s cA (.object C) := by
  obtain ⟨comp, cA, kA, h1, -, h3, h4, h5⟩ := Cond.arrayOver_spec h
  exact ⟨cA, fun n z => ⟨fun k h => (by cases h), kA, h3, comp, h4⟩, kA, comp, h3, h4, h1, h5⟩
def st_lay (i : Nat) : Nat := [450, 429, 404, 436, 603, 618, 587, 614, 490, 616].getD i 0
theorem st_l1 : ∀ i, i < 10 → tables_1[st_lay i]? = some (Cond.laysStatic "VersionGroup$Kind" (mm_kinds.getD i "") "LVersionGroup$Kind;") := by decide +kernel
theorem st_l2 : ∀ i, i < 10 → Cond.exactly (.static "VersionGroup$Kind" (mm_kinds.getD i "") "LVersionGroup$Kind;") "VersionGroup$Kind" ∈ flatC (Jvm.Cond.and given_1 narrow_1) := by decide +kernel
theorem st_l3 : ∀ i, i < 10 → Cond.eq (.field (.static "VersionGroup$Kind" (mm_kinds.getD i "") "LVersionGroup$Kind;") "java/lang/Enum" "ordinal" "I") (.int (([0, 1, 2, 3, 4, 5, 6, 7, 8, 9] : List Int32).getD i 0)) ∈ flatC (Jvm.Cond.and given_1 narrow_1) := by decide +kernel
theorem st_l4 : ∀ i, i < 10 → ∀ j, j < 10 → i ≠ j → Cond.not (.eq (.static "VersionGroup$Kind" (mm_kinds.getD i "") "LVersionGroup$Kind;") (.static "VersionGroup$Kind" (mm_kinds.getD j "") "LVersionGroup$Kind;")) ∈ flatC (Jvm.Cond.and given_1 narrow_1) ∨ Cond.not (.eq (.static "VersionGroup$Kind" (mm_kinds.getD j "") "LVersionGroup$Kind;") (.static "VersionGroup$Kind" (mm_kinds.getD i "") "LVersionGroup$Kind;")) ∈ flatC (Jvm.Cond.and given_1 narrow_1) := by decide +kernel
theorem st_l5 : ∀ i, i < 10 → Cond.eq (.elem (.static "VersionGroup$1" "$SwitchMap$VersionGroup$Kind" "[I") (.int (Int32.ofNat i))) (.int (([0, 0, 1, 0, 2, 3, 4, 5, 6, 7] : List Int32).getD i 0)) ∈ flatC (Jvm.Cond.and given_1 narrow_1) := by decide +kernel
theorem st_l6 : Cond.arrayOf (.static "VersionGroup$1" "$SwitchMap$VersionGroup$Kind" "[I") .int ∈ flatC (Jvm.Cond.and given_1 narrow_1) ∧ Cond.eq (.length (.static "VersionGroup$1" "$SwitchMap$VersionGroup$Kind" "[I")) (.int 10) ∈ flatC (Jvm.Cond.and given_1 narrow_1) := by decide +kernel
def st_ins (c : Nat) : Nat := [375, 63, 28, 57, 50, 152, 188, 225, 251, 219, 20, 685].getD c 0
theorem st_l7 : ∀ c, c < 12 → ∀ q, vwCl[c]? = some q → tables_1[st_ins c]? = some (Cond.instantiable q.1 q.2.2) := by
  intro c hc q hq
  rcases (show c = 0 ∨ c = 1 ∨ c = 2 ∨ c = 3 ∨ c = 4 ∨ c = 5 ∨ c = 6 ∨ c = 7 ∨ c = 8 ∨ c = 9 ∨ c = 10 ∨ c = 11 by omega) with rfl | rfl | rfl | rfl | rfl | rfl | rfl | rfl | rfl | rfl | rfl | rfl <;> (cases hq; decide +kernel)
theorem st_l8 : ∀ c, c < 12 → ∀ q, vwCl[c]? = some q → ∀ w ∈ u_ws q.1 q.2.1 q.2.2, w ∈ lwK := by
  intro c hc q hq
  rcases (show c = 0 ∨ c = 1 ∨ c = 2 ∨ c = 3 ∨ c = 4 ∨ c = 5 ∨ c = 6 ∨ c = 7 ∨ c = 8 ∨ c = 9 ∨ c = 10 ∨ c = 11 by omega) with rfl | rfl | rfl | rfl | rfl | rfl | rfl | rfl | rfl | rfl | rfl | rfl <;> cases hq
  · exact in_Command
  · exact in_Copy
  · exact in_Plan
  · exact in_Message
  · exact in_Post
  · exact in_MapKeeper
  · exact in_Desk
  · exact in_Memory
  · exact in_Reports
  · exact in_Node
  · exact in_VG
  · exact in_Mod
theorem st_nest : ∀ j, ∃ i : Nat, tables_1[i]? = some (mm_nest j) := by
  intro j
  match j with
  | 0 => exact ⟨58, by decide +kernel⟩
  | 1 => exact ⟨64, by decide +kernel⟩
  | 2 => exact ⟨226, by decide +kernel⟩
  | _ + 3 => exact ⟨231, (show tables_1[231]? = some (mm_nest 3) by decide +kernel)⟩
theorem mm_start {s : State} {b L : Nat} {xs : Nat → Int32} (hts : ∀ w ∈ lw_tbl, w.before #[Value.ref b] s = true) (hX : va_X b L xs s s.heap) (hb : b < s.heap.size) (hgv : (Jvm.Cond.and given_1 narrow_1).before #[Value.ref b] s = true) : ∃ G : mm_G, gh G = s.heap.size ∧ gb G = b ∧ gL G = L ∧ gx G = xs ∧ mm_K G s ∧ mm_R G (fun _ => none) s.heap.size s.heap := by
  have hs := flat_of_before _ hgv
  have hA : ∀ a : Nat, a < s.heap.size → ¬ (fun q : Nat => s.heap.size ≤ q) a := fun a ha => Nat.not_le.mpr ha
  have hK : ∀ w ∈ lwK, w.before #[Value.ref b] s = true := fun w hw => hts w (List.mem_filter.mp hw).1
  obtain ⟨cI, aI1, aI2⟩ := st_arr (hts _ (lwt (w := Cond.arrayClass .int) 93 (by decide +kernel)))
  obtain ⟨cZ, aZ1, aZ2⟩ := st_arr (hts _ (lwt (w := Cond.arrayClass .boolean) 216 (by decide +kernel)))
  obtain ⟨cJ, aJ1, aJ2⟩ := st_arr (hts _ (lwt (w := Cond.arrayClass .long) 733 (by decide +kernel)))
  have o3 := hts _ (lwt (w := Cond.arrayOver (.object "VersionGroup$Command")) 69 (by decide +kernel))
  have o4 := hts _ (lwt (w := Cond.arrayOver (.object "VersionGroup$Message")) 56 (by decide +kernel))
  have o5 := hts _ (lwt (w := Cond.arrayOver (.object "VersionGroup$Node")) 218 (by decide +kernel))
  obtain ⟨c3, b31, b32⟩ := st_obj o3
  obtain ⟨c4, b41, b42⟩ := st_obj o4
  obtain ⟨c5, b51, b52⟩ := st_obj o5
  obtain ⟨ad, hEn⟩ := va_Enof (args := #[Value.ref b]) (s := s) (E := "VersionGroup$Kind") (d := "LVersionGroup$Kind;") (nm := mm_kinds) (F := mm_ord) (A := fun q : Nat => s.heap.size ≤ q) (fun i hi => hts _ (lwt _ (st_l1 i hi))) (hts _ (lwt (w := Cond.initialized "VersionGroup$Kind") 17 (by decide +kernel))) (fun i hi => hs _ (st_l2 i hi)) (fun q hq i hi => by
    have hq : q = ("java/lang/Enum", "ordinal", "I", [0, 1, 2, 3, 4, 5, 6, 7, 8, 9]) := by simpa [mm_ord] using hq
    subst hq
    exact hs _ (st_l3 i hi)) (fun i j hi hj hij => (st_l4 i hi j hj hij).imp (fun z => hs _ z) (fun z => hs _ z)) hA
  obtain ⟨sw, hsw, hT⟩ := va_Tof (args := #[Value.ref b]) (s := s) (tm := .static "VersionGroup$1" "$SwitchMap$VersionGroup$Kind" "[I") (ty := .int) (N := 10) (f := mm_swv) (A := fun q : Nat => s.heap.size ≤ q) (by decide) (hs _ st_l6.1) (va_eqt (hs _ st_l6.2)) (fun j hj => va_eqt (hs _ (st_l5 j hj))) hA
  have hZ := va_Zof (hts _ (lwt (w := Cond.laysStatic "VersionGroup$1" "$SwitchMap$VersionGroup$Kind" "[I") 460 (by decide +kernel))) (hts _ (lwt (w := Cond.initialized "VersionGroup$1") 18 (by decide +kernel))) hsw hA
  have hcl : ∀ c : Nat, ∃ (cC : ClassId) (iS : Nat → Nat), ∀ q, vwCl[c]? = some q → u_Kn s q.1 q.2.1 q.2.2 cC iS := by
    intro c
    by_cases hc : c < 12
    · have hl : c < vwCl.length := hc
      obtain ⟨cC, iS, h⟩ := u_known (C := vwCl[c].1) (T := vwCl[c].2.1) (N := vwCl[c].2.2) hK (st_l8 c hc _ (List.getElem?_eq_getElem hl)) (hts _ (lwt _ (st_l7 c hc _ (List.getElem?_eq_getElem hl))))
      refine ⟨cC, iS, fun q hq => ?_⟩
      rw [List.getElem?_eq_getElem hl] at hq
      cases hq
      exact h
    · refine ⟨0, fun _ => 0, fun q hq => ?_⟩
      rw [List.getElem?_eq_none (by show 12 ≤ c; omega)] at hq
      cases hq
  obtain ⟨dC, hdC⟩ := Classical.axiomOfChoice hcl
  obtain ⟨dI, hdI⟩ := Classical.axiomOfChoice hdC
  refine ⟨((dC, dI), fun t => match t with | 0 => cI | 1 => cZ | 2 => cJ | 3 => c3 | 4 => c4 | _ => c5, s.heap.size, s.heap, ad, sw, b, L, xs), rfl, rfl, rfl, rfl, ⟨⟨fun c q hq => hdI c q hq, fun k q hk => ?_⟩, hEn, hZ, hT, hX, hb, ⟨va_AO.of o3, va_AO.of o4, va_AO.of o5⟩, fun j => ?_⟩, ⟨rfl, (fun a e h => by cases h), fun q _ => rfl, Nat.le_refl _⟩⟩
  · match k, hk with
    | 0, hk => cases hk; exact ⟨aI1, aI2⟩
    | 1, hk => cases hk; exact ⟨aZ1, aZ2⟩
    | 2, hk => cases hk; exact ⟨aJ1, aJ2⟩
    | 3, hk => cases hk; exact ⟨b31, b32⟩
    | 4, hk => cases hk; exact ⟨b41, b42⟩
    | 5, hk => cases hk; exact ⟨b51, b52⟩
    | k + 6, hk => cases hk
  · obtain ⟨i, hi⟩ := st_nest j
    exact va_tabs (mm_nest_tab j) rfl (hts _ (lwt i hi))
