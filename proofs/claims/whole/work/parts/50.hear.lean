/-! Node.hear: the kind's switch, and what each kind does. -/
theorem lwK_goodIn {ws : List Cond} (h : ∀ w ∈ ws, w ∈ lwK) : GoodIn lwK ws := by
  intro w hw
  refine ⟨h w hw, ?_⟩
  have h2 := (List.mem_filter.mp (h w hw)).2
  unfold mm_keep at h2
  rw [Bool.or_eq_true] at h2
  rcases h2 with h2 | h2
  · exact Or.inl h2
  · right
    cases w <;> simp at h2
    exact ⟨_, rfl⟩
theorem iS_Enum : Cond.initialized "java/lang/Enum" ∈ lwK := by decide +kernel
theorem sM_ordinal : Cond.sameMethod "VersionGroup$Kind" "java/lang/Enum" "ordinal" "()I" ∈ lwK := by decide +kernel
section ORD
variable {l : Launch} {G : mm_G} {Y : mm_Y} {R : Room} {Z : mm_Zt} {kc ks pc : Nat} {lv : List (Nat × Value)} {st : List Value} {M : mm_M} {sz : Nat}
theorem rw_acmpK_t {i j : Nat} {off : Int} {tgt : Nat} (hi : i < 10) (hj : j < 10) (hij : i ≠ j) (hd : decode Y.2.1 pc = .ok (.if_acmp .ne off, 3)) (ht : (pc : Int) + off = (tgt : Int)) (k : RW l G Y R Z kc ks tgt lv st M sz) : RW l G Y R Z kc ks pc lv (.ref (gad G j) :: .ref (gad G i) :: st) M sz := by
  intro p e s m args below meth c C H locs ls cells slots hR hL hl h1 h2
  have hK := C.2.2.2.2.2.2.2.2
  have hne : gad G i ≠ gad G j := fun z => hij (hK.2.1.2 i j hi hj z)
  exact rw_acmp_ne_t hd ht hne k p e s m args below meth c C H locs ls cells slots hR hL hl h1 h2
theorem rw_getOrd {i idx : Nat} (hi : i < 10) (hw : Cond.fieldLink Y.1 idx "java/lang/Enum" "ordinal" "I" ∈ lwK) (hd : decode Y.2.1 pc = .ok (.getfield idx, 3)) (k : RW l G Y R Z kc ks (pc + 3) lv (.int (nI i) :: st) M sz) : RW l G Y R Z kc ks pc lv (.ref (gad G i) :: st) M sz := by
  intro p e s m args below meth c C H locs ls cells slots hR hL hl h1 h2
  obtain ⟨hx, hb, -, -, -, hown, hmn, hts, hK⟩ := id C
  obtain ⟨cf, kk, fi, f, cell, z1, z2, z3, z4, z5, z6⟩ := (hK.2.1.1 i hi).2.2 _ (List.mem_singleton.mpr rfl)
  have ev : (Value.int ((([0, 1, 2, 3, 4, 5, 6, 7, 8, 9] : List Int32)).getD i 0)) = .int (nI i) := by
    have : ∀ i, i < 10 → (Value.int ((([0, 1, 2, 3, 4, 5, 6, 7, 8, 9] : List Int32)).getD i 0)) = .int (nI i) := by decide +kernel
    exact this i hi
  exact W.getf (v := .int (nI i)) hx hb hown (hts _ hw) z1 z2 (by rw [hR.2.2.1 _ (Nat.not_le.mp z6)]; exact z3) z4 (by rw [z5]; exact congrArg some ev) rfl rfl hd (k p e s m args below meth c C H locs ls cells slots hR hL hl h1 h2)
theorem c_ordinal {i : Nat} (hi : i < 10) : CT l G Y_Enum_ordinal ds_Enum_ordinal (rm 1) [.ref (gad G i)] M sz (NuQ M sz i) := by
  refine CT.of (by decide) (Nat.le_of_ble_eq_true rfl) ?_
  refine rw_aload_n d_Enum_ordinal_0 rfl (by first | exact mm_ref_r _ | exact mm_ref_n | exact mm_ref_o _) ?_
  refine rw_getOrd hi fS_Enum_7 d_Enum_ordinal_1 ?_
  exact rw_iret d_Enum_ordinal_4 rfl ⟨rfl, rfl, rfl⟩
theorem rw_ordinal {i idx : Nat} {rest : List Value} (hi : i < 10) (hd : decode Y.2.1 pc = .ok (.invokevirtual idx, 3)) (hlk : Cond.methodLink Y.1 idx ⟨"VersionGroup$Kind", "ordinal", "()I"⟩ ∈ lwK) (hRm : 2 ≤ R.frames ∧ 55 ≤ R.locals) (hsm : (rest.map fun v => v.category).sum ≤ 8) (kk : RW l G Y R Z kc ks (pc + 3) lv (.int (nI i) :: rest) M sz) : RW l G Y R Z kc ks pc lv (.ref (gad G i) :: rest) M sz := by
  intro p e s m args below meth c C H locs ls cells slots hR hL hl h1 h2
  obtain ⟨hx, hb, -, hml, -, hown, hmn, hts, hK⟩ := id C
  have hgood : GoodIn lwK (va_wsU Y.1 idx "VersionGroup$Kind" "java/lang/Enum" ⟨"VersionGroup$Kind", "ordinal", "()I"⟩ ⟨"java/lang/Enum", "ordinal", "()I"⟩ (Cond.code (mm_y Y_Enum_ordinal ds_Enum_ordinal) Y_Enum_ordinal.2.1 Y_Enum_ordinal.2.2.1 Y_Enum_ordinal.2.2.2.1 :: lwK)) := by
    apply lwK_goodIn
    intro w hw
    unfold va_wsU at hw
    rcases List.mem_append.mp hw with q | q
    · simp only [List.mem_cons, List.not_mem_nil, or_false] at q
      rcases q with rfl | rfl | rfl | rfl | rfl
      · exact hlk
      · exact sM_ordinal
      · exact mE_Kind_ordinal
      · exact mI_Enum_ordinal
      · exact iS_Enum
    · rcases List.mem_cons.mp q with rfl | q
      · exact mW_Enum_ordinal.1
      · exact q
  have cw := va_cwU (R := R) (s := s) (args := args) (rm := rm 1) (mc := 0) (ms := 0) 0 hts hgood rfl rfl rfl rfl ⟨by decide, by decide, by decide +kernel⟩ ⟨hRm.1, by show 8 + (1 + 11) + 35 * 1 ≤ R.locals; have := hRm.2; omega⟩
  have hrun := va_runU (l := l) (e := e) (below := below) (meth := meth) (H := H) (locs := locs) (cells := cells) (slots := slots) (b := gad G i) (As := []) (rest := rest) (g := F0 m pc ls (.ref (gad G i) :: rest)) ⟨hx, hb, hml, hown, hts⟩ (c_ordinal (l := l) (G := G) (M := M) (sz := sz) hi) cw ⟨mm_blind, by
      obtain ⟨cell, y1, y2, y3, y4⟩ := (hK.2.1.1 i hi).2.1
      exact ⟨cell, by rw [hR.2.2.1 _ (Nat.not_le.mp y4)]; exact y1, y2, y3⟩, fun U hU hWm => ⟨rfl, hK.warm hWm, by rw [hU]; exact hR⟩⟩ rfl rfl hl.1 rfl (lv_room hsm) hd ⟨by omega, by omega⟩
  refine rw_run (kc := kc) (ks := ks) C hL hl h1 h2 hrun (fun r M' sz' hq => ?_)
  obtain ⟨rfl, rfl, rfl⟩ := hq
  exact kk
end ORD
