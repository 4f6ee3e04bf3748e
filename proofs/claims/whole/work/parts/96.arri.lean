/-! Settle's invariant holds over arrivals. -/
section ISA
variable {E : pE} {e g : Nat} {nd : Nat → pN} {post : List pMsg} {rep : Nat → Nat → Nat} {c n : Nat} {m : pMsg} {x' : pN} {r : List pMsg} {y : pN}
/-- the fields of the notes and 4, 10 unchanged -/
theorem sN.keep (hN : sN E e nd) (hs : sStep E e nd (va_up nd n x')) (h4 : x' 4 = nd n 4) (h20 : ∀ k, 20 ≤ k → x' k = nd n k) : sN E e (va_up nd n x') := by
  refine hN.step hs (fun q => ?_) (fun k hk _ q hh => ?_)
  · by_cases z : eL E e = n
    · rw [z, va_up_self, h4] at q
      rw [z]
      exact q
    · rw [va_up_ne _ _ z] at q
      exact q
  · by_cases z : eL E e = n
    · rw [z, va_up_self] at hh ⊢
      rw [h20 _ (by omega)] at hh
      rw [h20 _ (by omega), h20 _ (by omega)]
      exact ⟨hh, rfl, rfl⟩
    · rw [va_up_ne _ _ z] at hh ⊢
      exact ⟨hh, rfl, rfl⟩
/-- a change that leaves 4, 5, 6, 10 -/
theorem sStep.quiet (h4 : x' 4 = nd n 4) (h5 : x' 5 = nd n 5) (h6 : x' 6 = nd n 6) (h10 : x' 10 = nd n 10) : sStep E e nd (va_up nd n x') := by
  refine sStep.one (fun q z => ?_) (fun _ z => by rw [h4]; exact z) (fun _ _ _ => ?_)
  · subst q
    rw [h4, h10]
    exact z
  · rw [h5, h6]
    exact ⟨fun _ => ⟨Nat.le_refl _, Nat.le_refl _⟩, fun _ => Nat.le_refl _, fun _ => rfl⟩
/-- the leader's own change -/
theorem sStep.leads (hl : n = eL E e) (h4 : x' 4 = nd n 4) (h10 : nd n 10 = 1 → x' 10 = 1) : sStep E e nd (va_up nd n x') := by
  refine sStep.one (fun q z => ?_) (fun _ z => by rw [h4]; exact z) (fun _ z _ => absurd hl z)
  subst q
  rw [h4]
  exact ⟨z.1, h10 z.2⟩
/-- a node that is not in e and does not come into it -/
theorem sStep.off (h4 : nd n 4 ≠ e) : sStep E e nd (va_up nd n x') := by
  refine sStep.one (fun q z => ?_) (fun _ z => absurd z h4) (fun _ _ z => absurd z h4)
  subst q
  exact absurd z.1 h4
theorem sN.off (hN : sN E e nd) (h4 : nd n 4 ≠ e) (h4' : x' 4 ≠ e ∨ ∀ k, k < eN E → x' (20 + k) = 0) : sN E e (va_up nd n x') := by
  have hs : sStep E e nd (va_up nd n x') := sStep.off h4
  intro q k hk hl hh
  by_cases z : eL E e = n
  · rw [z, va_up_self] at q hh
    rcases h4' with w | w
    · exact absurd q w
    · rw [w k hk] at hh; cases hh
  · rw [va_up_ne _ _ z] at q hh ⊢
    exact (hN q k hk hl hh).step hs hk hl
theorem hear_step (hE : eOk E) (hJ : JJ E e g nd post rep c) (hm : m ∈ post) (hs : sM E e nd m) (hto : m.2.2.1 = n) (hn : n < eN E) (hN : sN E e nd) (hc : hC E n (nd n) m x' r) : sStep E e nd (va_up nd n x') ∧ sN E e (va_up nd n x') ∧ (∀ a ∈ r, sM E e (va_up nd n x') a) ∧ x' 0 = nd n 0 := by
  have hmw := hJ.2.2 m hm
  have hme := hJ.1.2.2.2.2.2 m hm
  have hle := hJ.1.2.2.2.2.1 n
  obtain ⟨w0, w1, w2, w3, w4, w5, w6, w7, w8⟩ := hJ.2.1 n
  have hN7 := hE.2.1
  rcases hc with ⟨rfl, rfl, -⟩ | ⟨q0, rfl, rfl⟩ | ⟨qe, q2, ql, qr, qm, rfl, rfl⟩ | ⟨qe, q2, ql, qr, qm, rfl, rfl⟩ | ⟨qe, q4, rfl, rfl⟩ | ⟨qe, q5, rfl, rfl⟩ | ⟨qe, q6, rfl, rfl⟩ | ⟨qe, q7, rfl, rfl⟩ | ⟨qe, q8, rfl, rfl⟩ | ⟨qe, q9, rfl, rfl⟩
  · have hs := sStep.quiet (E := E) (e := e) (nd := nd) (n := n) (x' := nd n) rfl rfl rfl rfl
    exact ⟨hs, hN.keep hs rfl (fun _ _ => rfl), (fun a ha => by cases ha), rfl⟩
  · by_cases q : nd n 4 < m.2.2.2.1
    · have e0 : pHearMap m.2.2.2.1 (nd n) = pClear (fun j => if j = 2 ∨ j = 1 ∨ j = 3 then 1 else if j = 4 then m.2.2.2.1 else nd n j) := by rw [pHearMap, if_pos q]
      rw [e0]
      refine ⟨sStep.off (by omega), hN.off (by omega) (Or.inr (fun k hk => ?_)), (fun a ha => by cases ha), rfl⟩
      unfold pClear
      rw [if_pos (by omega)]
    · have e0 : pHearMap m.2.2.2.1 (nd n) = pu (nd n) 2 1 := by rw [pHearMap, if_neg q]
      rw [e0]
      have hs := sStep.quiet (E := E) (e := e) (nd := nd) (n := n) (x' := pu (nd n) 2 1) rfl rfl rfl rfl
      exact ⟨hs, hN.keep hs rfl (fun k hk => pu_ne _ _ (by omega)), (fun a ha => by cases ha), rfl⟩
  · have hs := sStep.quiet (E := E) (e := e) (nd := nd) (n := n) (x' := nd n) rfl rfl rfl rfl
    refine ⟨hs, hN.keep hs rfl (fun _ _ => rfl), (fun a ha => ?_), rfl⟩
    have ha : a = pAns n (nd n) m.2.2.2.2.1 := by simpa using ha
    subst ha
    exact fun _ => ⟨(fun z => by cases z), (fun z => by cases z), (fun z => by cases z), (fun z => by cases z), (fun z => by cases z), (fun z => by cases z)⟩
  · have a4 : pAppend (nd n) m.2.2.2.2.1 4 = nd n 4 := pAppend_ne _ _ (by omega) (by omega)
    have a10 : pAppend (nd n) m.2.2.2.2.1 10 = nd n 10 := pAppend_ne _ _ (by omega) (by omega)
    have a0 : pAppend (nd n) m.2.2.2.2.1 0 = nd n 0 := pAppend_ne _ _ (by omega) (by omega)
    by_cases z : nd n 4 = e
    · have hs : sStep E e nd (va_up nd n (pAppend (nd n) m.2.2.2.2.1)) := sStep.leads (by rw [← z]; exact ql.symm) a4 (fun w => by rw [a10]; exact w)
      exact ⟨hs, hN.keep hs a4 (fun k hk => pAppend_ne _ _ (by omega) (by omega)), (fun a ha => by cases ha), a0⟩
    · exact ⟨sStep.off z, hN.off z (Or.inl (by rw [a4]; exact z)), (fun a ha => by cases ha), a0⟩
  · have hs := sStep.quiet (E := E) (e := e) (nd := nd) (n := n) (x' := pu (nd n) 3 1) rfl rfl rfl rfl
    exact ⟨hs, hN.keep hs rfl (fun k hk => pu_ne _ _ (by omega)), (fun a ha => by cases ha), rfl⟩
  · have hf := hmw.1.2.2.1 (Or.inr (Or.inl q5))
    have lo : ∀ j, j < 20 → pNote (nd n) m.2.1 m.2.2.2.2.1 m.2.2.2.2.2 j = nd n j := fun j hj => pNote_ne _ _ _ _ (by omega) (by omega) (by omega)
    have hs' : sStep E e nd (va_up nd n (pNote (nd n) m.2.1 m.2.2.2.2.1 m.2.2.2.2.2)) := sStep.quiet (lo _ (by omega)) (lo _ (by omega)) (lo _ (by omega)) (lo _ (by omega))
    refine ⟨hs', ?_, (fun a ha => by cases ha), lo _ (by omega)⟩
    by_cases z : nd n 4 = e
    · intro q k hk hl hh
      by_cases zl : eL E e = n
      · rw [zl, va_up_self] at hh ⊢
        by_cases zk : k = m.2.1
        · subst zk
          obtain ⟨a1, a2, a3⟩ := (hs (by omega)).2.1 q5
          have e3 : pNote (nd n) m.2.1 m.2.2.2.2.1 m.2.2.2.2.2 (30 + m.2.1) = m.2.2.2.2.1 := by
            unfold pNote
            rw [if_neg (by omega), if_pos rfl]
          have e4 : pNote (nd n) m.2.1 m.2.2.2.2.1 m.2.2.2.2.2 (40 + m.2.1) = m.2.2.2.2.2 := by
            unfold pNote
            rw [if_neg (by omega), if_neg (by omega), if_pos rfl]
          rw [e3, e4]
          exact a3.step hs' hk hl
        · have e3 : pNote (nd n) m.2.1 m.2.2.2.2.1 m.2.2.2.2.2 (30 + k) = nd n (30 + k) := pNote_ne _ _ _ _ (by omega) (by omega) (by omega)
          have e4 : pNote (nd n) m.2.1 m.2.2.2.2.1 m.2.2.2.2.2 (40 + k) = nd n (40 + k) := pNote_ne _ _ _ _ (by omega) (by omega) (by omega)
          have e2 : pNote (nd n) m.2.1 m.2.2.2.2.1 m.2.2.2.2.2 (20 + k) = nd n (20 + k) := pNote_ne _ _ _ _ (by omega) (by omega) (by omega)
          rw [e2] at hh
          rw [e3, e4]
          have := hN (by rw [zl]; exact z) k hk hl (by rw [zl]; exact hh)
          rw [zl] at this
          exact this.step hs' hk hl
      · rw [va_up_ne _ _ zl] at q hh ⊢
        exact (hN q k hk hl hh).step hs' hk hl
    · exact hN.off z (Or.inl (by rw [lo 4 (by omega)]; exact z))
  · have hs' := sStep.quiet (E := E) (e := e) (nd := nd) (n := n) (x' := pu (nd n) 3 1) rfl rfl rfl rfl
    refine ⟨hs', hN.keep hs' rfl (fun k hk => pu_ne _ _ (by omega)), (fun a ha => ?_), rfl⟩
    have ha : a = (8, n, m.2.1, nd n 4, nd n 6, nd n 5) := by simpa using ha
    subst ha
    intro z
    have z : nd n 4 = e := z
    obtain ⟨-, -, h6, -⟩ := hs (by omega)
    exact ⟨(fun z => by cases z), (fun z => by cases z), (fun z => by cases z), (fun z => by cases z), fun _ => Or.inl (h6 q6).1, (fun z => by cases z)⟩
  · obtain ⟨d1, d2, d3⟩ := hmw.2.1 (Or.inl q7)
    have ne := fun {j : Nat} => @pFollow_ne false m.2.2.2.2.2 m.2.2.2.2.1 (nd n) j
    have f := fol_w (w := false) w1 w2 d1 d2
    have f2 := fol_ge (w := false) w1 w2 d1 d2
    by_cases z : nd n 4 = e
    · obtain ⟨r1, r2, r3⟩ := (hs (by omega)).2.2.2.1 q7
      rw [hto] at r2 r3
      have hs' : sStep E e nd (va_up nd n (pFollow false m.2.2.2.2.2 m.2.2.2.2.1 (nd n))) := sStep.one (fun q => absurd q r3) (fun _ z => by rw [ne (by omega) (by omega) (by omega) (by omega)]; exact z) (fun _ _ _ => ⟨fun _ => ⟨f.2.2.1, f2⟩, fun q => absurd r2 q, fun q => absurd r1 q⟩)
      exact ⟨hs', hN.keep hs' (ne (by omega) (by omega) (by omega) (by omega)) (fun k hk => ne (by omega) (by omega) (by omega) (by omega)), (fun a ha => by cases ha), ne (by omega) (by omega) (by omega) (by omega)⟩
    · exact ⟨sStep.off z, hN.off z (Or.inl (by rw [ne (by omega) (by omega) (by omega) (by omega)]; exact z)), (fun a ha => by cases ha), ne (by omega) (by omega) (by omega) (by omega)⟩
  · obtain ⟨d1, d2, d3⟩ := hmw.2.1 (Or.inr q8)
    have ne := fun {j : Nat} => @pFollow_ne true m.2.2.2.2.2 m.2.2.2.2.1 (nd n) j
    have f := fol_w (w := true) w1 w2 d1 d2
    have f2 := fol_ge (w := true) w1 w2 d1 d2
    by_cases z : nd n 4 = e
    · have hs' : sStep E e nd (va_up nd n (pFollow true m.2.2.2.2.2 m.2.2.2.2.1 (nd n))) := by
        rcases (hs (by omega)).2.2.2.2.1 q8 with r1 | ⟨r1, r2, r3⟩
        · rw [hto] at r1
          exact sStep.leads r1 (ne (by omega) (by omega) (by omega) (by omega)) (fun w => by rw [ne (by omega) (by omega) (by omega) (by omega)]; exact w)
        · rw [hto] at r2 r3
          exact sStep.one (fun q => absurd q r3) (fun _ z => by rw [ne (by omega) (by omega) (by omega) (by omega)]; exact z) (fun _ _ _ => ⟨fun _ => ⟨f.2.2.1, f2⟩, fun q => absurd r2 q, fun q => absurd r1 q⟩)
      exact ⟨hs', hN.keep hs' (ne (by omega) (by omega) (by omega) (by omega)) (fun k hk => ne (by omega) (by omega) (by omega) (by omega)), (fun a ha => by cases ha), ne (by omega) (by omega) (by omega) (by omega)⟩
    · exact ⟨sStep.off z, hN.off z (Or.inl (by rw [ne (by omega) (by omega) (by omega) (by omega)]; exact z)), (fun a ha => by cases ha), ne (by omega) (by omega) (by omega) (by omega)⟩
  · have ne := fun {j : Nat} => @pDrop_ne (nd n) j
    by_cases z : nd n 4 = e
    · obtain ⟨r1, r2⟩ := (hs (by omega)).2.2.2.2.2 q9
      rw [hto] at r2
      have hl : n ≠ eL E e := fun w => r2 (hE.lead w.symm (by omega))
      have hs' : sStep E e nd (va_up nd n (pDrop (nd n))) := sStep.one (fun q => absurd q hl) (fun _ z => by rw [ne (by omega) (by omega) (by omega) (by omega)]; exact z) (fun _ _ _ => ⟨fun q => absurd q r2, fun _ => Nat.zero_le _, fun q => absurd r1 q⟩)
      exact ⟨hs', hN.keep hs' (ne (by omega) (by omega) (by omega) (by omega)) (fun k hk => ne (by omega) (by omega) (by omega) (by omega)), (fun a ha => by cases ha), ne (by omega) (by omega) (by omega) (by omega)⟩
    · exact ⟨sStep.off z, hN.off z (Or.inl (by rw [ne (by omega) (by omega) (by omega) (by omega)]; exact z)), (fun a ha => by cases ha), ne (by omega) (by omega) (by omega) (by omega)⟩
theorem IS.arr {s : pSt} (hE : eOk E) (hJ : JS E s) (h : IS E e s) (hm : m ∈ s.2.1) : IS E e (pArr E s.1 s.2.1 s.2.2 m) := by
  obtain ⟨nd, post, y⟩ := s
  obtain ⟨h1, h2, h3, h4, h5⟩ := h
  obtain ⟨-, -, -, -, -, rep, c, hJ, -⟩ := hJ
  have h1 : y 0 = e := h1
  have hJ : JJ E (y 0) (y 1) nd post rep c := hJ
  have hm : m ∈ post := hm
  rw [h1] at hJ
  have hmw := hJ.2.2 m hm
  have hN7 := hE.2.1
  unfold pArr
  by_cases q1 : m.1 = 1
  · rw [if_pos q1]
    have hf := hmw.1.2.2.1 (Or.inl q1)
    refine ⟨?_, h2, fun k hk z => ?_, h4, h5⟩
    · show pu y _ _ 0 = e
      rw [pu_ne _ _ (by omega)]
      exact h1
    · have z : pu y (20 + m.2.1) (max (y (20 + m.2.1)) m.2.2.2.1) (20 + k) = e := z
      by_cases w : k = m.2.1
      · subst w
        rw [pu_self] at z
        rcases Nat.le_total (y (20 + m.2.1)) m.2.2.2.1 with v | v
        · exact (h5 m hm (by omega)).1 q1
        · exact h3 m.2.1 hk (by show y (20 + m.2.1) = e; omega)
      · rw [pu_ne _ _ (by omega)] at z
        exact h3 k hk z
  rw [if_neg q1]
  by_cases q3 : m.1 = 3
  · rw [if_pos q3]
    refine ⟨?_, h2, fun k hk z => ?_, h4, h5⟩
    · show (if _ then _ else y) 0 = e
      split
      · rw [pu_ne _ _ (by omega)]; exact h1
      · exact h1
    · have z : (if y 2 ≤ m.2.2.2.2.1 ∧ m.2.2.2.2.1 < y 1 then pu y (40 + m.2.2.2.2.1 % 8) 1 else y) (20 + k) = e := z
      refine h3 k hk ?_
      show y (20 + k) = e
      split at z
      · rw [pu_ne _ _ (by omega)] at z; exact z
      · exact z
  rw [if_neg q3]
  simp only
  split
  case isFalse => exact ⟨h1, h2, h3, h4, h5⟩
  have hn := hmw.1.2.2.2.1 q1 q3
  obtain ⟨s1, s2, s3, s4⟩ := hear_step hE hJ hm (h5 m hm) rfl hn h4 (hear_cases E m.2.2.1 (nd m.2.2.1) m)
  refine ⟨h1, fun k hk => ?_, fun k hk z => s1.2.1 k hk (h3 k hk z), s2, fun a ha => ?_⟩
  · by_cases w : k = m.2.2.1
    · subst w
      show va_up nd _ _ _ 0 = 1
      rw [va_up_self, s4]
      exact h2 _ hk
    · show va_up nd _ _ _ 0 = 1
      rw [va_up_ne _ _ w]
      exact h2 k hk
  · rcases mem_send ha with z | z
    · exact (h5 a z).step s1 (hJ.2.2 a z).1
    · exact s3 a z
end ISA
