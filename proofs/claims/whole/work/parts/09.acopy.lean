/-! System.arraycopy of ints; ordinal of a kind. -/
theorem iS_System : Cond.initialized "java/lang/System" ∈ lwK := by decide +kernel
section AC
variable {l : Launch} {G : mm_G} {Y : mm_Y} {R : Room} {Z : mm_Zt} {kc ks pc : Nat} {lv : List (Nat × Value)} {st : List Value} {M : mm_M} {sz : Nat}
theorem rw_acopy {idx a0 a n0 n1 : Nat} {f g : Nat → Int32} {sp dp n : Int32} {rest : List Value} (hd : decode Y.2.1 pc = .ok (.invokestatic idx, 3)) (hlk : Cond.methodLink Y.1 idx arraycopyName ∈ lwK) (hM0 : M a0 = some (.inl (0, n0, .inl f))) (hM1 : M a = some (.inl (0, n1, .inl g)))
    (s1 : ¬ sp < 0) (s2 : ¬ dp < 0) (s3 : ¬ n < 0) (s4 : sp.toNatClampNeg + n.toNatClampNeg ≤ n0) (s5 : dp.toNatClampNeg + n.toNatClampNeg ≤ n1) (hfr : 1 ≤ R.frames) (hlo : (rest.map fun v => v.category).sum + (nativeFrameWords "java/lang/System" "arraycopy" 5 + 11) ≤ R.locals)
    (kk : RW l G Y R Z kc ks (pc + 3) lv rest (mup M a (.inl (0, n1, .inl (va_cpy f g sp.toNatClampNeg dp.toNatClampNeg n.toNatClampNeg)))) sz) : RW l G Y R Z kc ks pc lv (.int n :: .int dp :: .ref a :: .int sp :: .ref a0 :: rest) M sz := by
  intro p e s m args below meth c C H locs ls cells slots hR hL hl h1 h2
  obtain ⟨hx, hb, -, hml, -, hown, hmn, hts, hK⟩ := id C
  have nn : ∀ z : Int32, ¬ z < 0 → z.toInt = (z.toNatClampNeg : Int) := by
    intro z hz
    have hz0 : (0 : Int) ≤ z.toInt := by
      have := Int32.not_lt.mp hz
      simpa using Int32.le_iff_toInt_le.mp this
    show z.toInt = ((z.toInt.toNat : Nat) : Int)
    omega
  intro T hT X
  have hc0 : H[a0]? = some (vp_cell (gK G 0) (n0, .inl f)) := (hR.2.1 a0 _ hM0).2
  have hc1 : H[a]? = some (vp_cell (gK G 0) (n1, .inl g)) := (hR.2.1 a _ hM1).2
  obtain ⟨-, k0, hk0, cm0, hkk0⟩ := (hK.1.2 0 _ rfl).1 n0 (fun j => .int (f j))
  obtain ⟨-, k1, hk1, cm1, hkk1⟩ := (hK.1.2 0 _ rfl).1 n1 (fun j => .int (g j))
  obtain ⟨vm', X', step⟩ := X.arraycopy hx hown (hts _ hlk) (hts _ mV_System_arraycopy) (hts _ mS_System_arraycopy) (hts _ iS_System) (src := a0) (dst := a) (cs := vp_cell (gK G 0) (n0, .inl f)) (cd := vp_cell (gK G 0) (n1, .inl g)) (srcPos := sp) (destPos := dp) (n := n) (by rw [hT]; exact hc0) (by rw [hT]; exact hc1)
    (fun _ h => by cases h) (fun _ h => by cases h) (fun h => by cases h) (fun h => by cases h) hk0 hk1 hkk0 hkk1 (by simp [refKind, mm_ty]) s1 s2 s3
    (by rw [nn sp s1, nn n s3]; show ¬ _ > ((arrV (gK G 0) n0 (fun j => .int (f j))).slots.size : Int); rw [arrV_size]; omega)
    (by rw [nn dp s2, nn n s3]; show ¬ _ > ((arrV (gK G 0) n1 (fun j => .int (g j))).slots.size : Int); rw [arrV_size]; omega)
    (fun vm₁ _ i hi => by
      have e : (vp_cell (gK G 0) (n0, .inl f)).slots.getD (sp.toNatClampNeg + i) .null = .int (f (sp.toNatClampNeg + i)) := by
        show (arrV (gK G 0) n0 (fun j => .int (f j))).slots.getD _ _ = _
        rw [Array.getD_eq_getD_getElem?, arrV_read _ _ (by omega)]
        rfl
      refine ⟨?_, ?_⟩
      · rw [e]
        rfl
      · rw [e]
        exact trivial)
    (g := F0 m pc ls (.int n :: .int dp :: .ref a :: .int sp :: .ref a0 :: rest)) rfl (by rw [hml]; exact hl.1) (rest := rest) rfl (by rw [hb]; exact hd) hfr (by show 2 * 0 + _ + _ ≤ _; omega)
  have e1 : copied (vp_cell (gK G 0) (n0, .inl f)) (vp_cell (gK G 0) (n1, .inl g)) sp dp n = vp_cell (gK G 0) (n1, .inl (va_cpy f g sp.toNatClampNeg dp.toNatClampNeg n.toNatClampNeg)) := va_copied (fun z => .int z) (gK G 0) (gK G 0) f g s4
  rw [e1] at X' step
  have hll : a < H.size := (Array.getElem?_eq_some_iff.mp hc1).1
  have hheap : ((T.setVm vm').setCell a (vp_cell (gK G 0) (n1, .inl (va_cpy f g sp.toNatClampNeg dp.toNatClampNeg n.toNatClampNeg)))).heap = H.setIfInBounds a (vp_cell (gK G 0) (n1, .inl (va_cpy f g sp.toNatClampNeg dp.toNatClampNeg n.toNatClampNeg))) := by rw [← hT]; rfl
  have oq : ∀ q : Nat, q ≠ a → (H.setIfInBounds a (vp_cell (gK G 0) (n1, .inl (va_cpy f g sp.toNatClampNeg dp.toNatClampNeg n.toNatClampNeg))))[q]? = H[q]? := fun q hq => by simp [Array.getElem?_setIfInBounds, Ne.symm hq]
  obtain ⟨t, a1, b1⟩ := kk p e s m args below meth c C _ _ ls cells slots (hR.set (hR.2.1 a _ hM1).1 (e := .inl (0, n1, .inl (va_cpy f g sp.toNatClampNeg dp.toNatClampNeg n.toNatClampNeg))) (show (H.setIfInBounds a _)[a]? = some _ by simp [Array.getElem?_setIfInBounds, hll]) (by simp) oq) (fun q hq => by
      rcases List.mem_append.mp hq with h | h
      · exact hL q h
      · obtain ⟨z, -, hz⟩ := List.mem_map.mp h
        rw [← hz]
        exact (hR.2.1 a _ hM1).1) hl h1 h2 _ hheap X'
  exact ⟨t, step t a1, b1⟩
theorem rw_ldcw {i : Nat} {v : Int32} (hd : decode Y.2.1 pc = .ok (.ldc_w i, 3)) (hw : Cond.constant Y.1 i v ∈ lwK) (k : RW l G Y R Z kc ks (pc + 3) lv (.int v :: st) M sz) : RW l G Y R Z kc ks pc lv st M sz := by
  intro p e s m args below meth c C H locs ls cells slots hR hL hl h1 h2
  exact lv_ldcw C.1 C.2.1 C.2.2.2.2.2.1 (C.2.2.2.2.2.2.2.1 _ hw) hd (k p e s m args below meth c C H locs ls cells slots hR hL hl h1 h2)
/-- a private constructor of a nest mate: mm_nest j names the link -/
theorem rw_callIN {Y2 : mm_Y} {desc : String} {idx a n j : Nat} {As rest : List Value} {R2 : Room} {Q2 : Option Value → mm_M → Nat → Prop} (hd : decode Y.2.1 pc = .ok (.invokespecial idx, 3)) (hC : CT l G Y2 desc R2 (.ref a :: As) M sz Q2) (hW : mm_CW Y2 desc n) (hj : mm_nest j = .methodLinkNest Y.1 idx (mm_y Y2 desc) "VersionGroup") (hin : Cond.instanceMethod (mm_y Y2 desc) ∈ lwK) (hi : Y2.2.2.2.2 = "<init>") (hret : Y2.2.2.2.1 = none)
    (hRm : R2.frames + 1 ≤ R.frames ∧ 8 + (Y2.2.2.1 + 11) + R2.locals ≤ R.locals) (hn : As.length = n) (hst : st = As.reverse ++ .ref a :: rest) (hsm : (rest.map fun v => v.category).sum ≤ 8)
    (kk : ∀ (r : Option Value) (M' : mm_M) (sz' : Nat), Q2 r M' sz' → RW l G Y R Z kc ks (pc + 3) lv (r.toList ++ rest) M' sz') : RW l G Y R Z (kc + R2.cells) (ks + R2.slots) pc lv st M sz := by
  intro p e s m args below meth c C H locs ls cells slots hR hL hl h1 h2
  obtain ⟨hx, hb, -, hml, -, hown, hmn, hts, hK⟩ := id C
  have hCB := va_cnB (R := R) (own := Y.1) (host := "VersionGroup") (index := idx) (y := mm_y Y2 desc) (bytes := Y2.2.1) (maxL := Y2.2.2.1) (ret := Y2.2.2.2.1) (rm := R2) (mc := R2.cells) (ms := R2.slots) n hts (lwK_good _ _ _ _ hW.1) rfl rfl rfl (hj ▸ hK.2.2.2.2.2.2.2 j) (hts _ hW.2.1) hW.2.2 hRm
  rw [hret] at hCB
  unfold CT at hC
  rw [hret] at hC
  exact rw_run C hL hl h1 h2 (va_runIN ⟨hx, hb, hml, hown, hts⟩ hC ⟨hCB, hi, hts _ hin⟩ ⟨mm_blind, fun U hU hWm => ⟨rfl, hK.warm hWm, by rw [hU]; exact hR⟩⟩ rfl hn hl.1 hst (lv_room hsm) hd ⟨by omega, by omega⟩) kk
end AC
/-- as CT.of, for a method of the JDK that no entry runs instead -/
theorem CT.ofF {l : Launch} {G : mm_G} {Y : mm_Y} {desc : String} {R : Room} {As : List Value} {M : mm_M} {sz : Nat} {QQ : Option Value → mm_M → Nat → Prop} (hy : plainFor (mm_y Y desc) = true) (hn : (lg_sl As).length ≤ Y.2.2.1) (h : RW l G Y R (mm_Z G R QQ) R.cells R.slots 0 (lv_args 0 As) [] M sz) : CT l G Y desc R As M sz QQ := by
  unfold CT
  refine MetFree.of_bodySF (code := Y.2.1) (maxLocals := Y.2.2.1) (ret := Y.2.2.2.1) hy ?_ ?_
  · intro args s m h hn
    obtain ⟨meth, c, h1, h2, h3, h4, h5, h6, -, -⟩ := Cond.code_spec hn (atoms_spec (ws := Cond.code (mm_y Y desc) Y.2.1 Y.2.2.1 Y.2.2.2.1 :: lwK) h _ List.mem_cons_self)
    exact ⟨meth, c, h1, h2, h3, h4, h5, h6⟩
  · intro p e s m args below meth c s₁ B hml hv _
    have hh0 : s₁.heap = s.heap := by rw [B.state]; rfl
    obtain ⟨rfl, hK, hR⟩ := hv
    have hts := atoms_spec (ws := Cond.code (mm_y Y desc) Y.2.1 Y.2.2.1 Y.2.2.2.1 :: lwK) B.pre
    have hown : s.vm.findClass Y.1 = some m.cls := findClass_of_methodNamed B.named
    have hnm : meth.name = Y.2.2.2.2 := (name_of_methodNamed B.named B.method).1
    have hl := lv_entry As (n := Y.2.2.1) hn
    have K := h p e s m As.toArray below meth c ⟨B.exec, B.bytes, B.returns, hml, B.notSynchronized, hown, hnm, fun w hw => hts w (List.mem_cons_of_mem _ hw), hK⟩ s.heap [] _ 0 0 hR (fun q hq => by cases hq) hl (by simp) (by simp)
    rw [← lg_entry_eq m] at K
    obtain ⟨t, a1, o, b1, b2, b3⟩ := K s₁ hh0 (Stand.of_body B)
    exact ⟨t, o, a1, b1, b2, ⟨b3.1, b3.2⟩⟩
theorem cO_init : Cond.code objectInit ⟨#[0xb1]⟩ 1 none ∈ lwK := by decide +kernel
