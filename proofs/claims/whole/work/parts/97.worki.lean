/-! Settle's invariant holds over ticks. -/
section IST
variable {E : pE} {e g : Nat} {nd : Nat → pN} {post : List pMsg} {rep : Nat → Nat → Nat} {c n : Nat} {m : pMsg} {x x' : pN} {y : pN}
theorem guide_cases {a : pMsg} {k : Nat} (h : a ∈ pGuide E n x k) : (a = (4, n, k, x 4, 0, 0) ∧ x (20 + k) ≠ 1) ∨
    (a.2 = (n, k, x 4, x 6, x 5) ∧ ((a.1 = 7 ∧ ¬ x (30 + k) + 8 < x 6) ∨ a.1 = 8) ∧ x (20 + k) = 1 ∧ x 10 = 1 ∧ eK E (x 4) k ∧ (x (30 + k) < x 6 ∨ x (40 + k) < x 5)) ∨
    (a = (9, n, k, x 4, 0, 0) ∧ x (20 + k) = 1 ∧ x 10 = 1 ∧ ¬ eK E (x 4) k ∧ 0 < x (30 + k) ∧ x 11 ≤ pAgreed E x) := by
  unfold pGuide at h
  by_cases q1 : x (20 + k) ≠ 1
  · rw [if_pos q1] at h
    exact Or.inl ⟨by simpa using h, q1⟩
  rw [if_neg q1] at h
  have q1 : x (20 + k) = 1 := Classical.byContradiction q1
  by_cases q2 : x 10 = 1 ∧ eKb E (x 4) k
  · rw [if_pos q2] at h
    by_cases q3 : x (30 + k) < x 6 ∨ x (40 + k) < x 5
    · rw [if_pos q3] at h
      have h : a = (if x (30 + k) + 8 < x 6 then 8 else 7, n, k, x 4, x 6, x 5) := by simpa using h
      refine Or.inr (Or.inl ⟨by rw [h], ?_, q1, q2.1, q2.2, q3⟩)
      rw [h]
      simp only
      by_cases w : x (30 + k) + 8 < x 6
      · rw [if_pos w]; exact Or.inr rfl
      · rw [if_neg w]; exact Or.inl ⟨rfl, w⟩
    · rw [if_neg q3] at h; cases h
  rw [if_neg q2] at h
  by_cases q4 : x 10 = 1 ∧ 0 < x (30 + k) ∧ x 11 ≤ pAgreed E x
  · rw [if_pos q4] at h
    exact Or.inr (Or.inr ⟨by simpa using h, q1, q4.1, fun z => q2 ⟨q4.1, z⟩, q4.2.1, q4.2.2⟩)
  · rw [if_neg q4] at h; cases h
/-- the leader's numbers in the middle of its work -/
def pL1 (n : Nat) (x : pN) : pN := pNote x n (x 6) (x 5)
def pL2 (E : pE) (n : Nat) (x : pN) : pN := (pPrep E n (pL1 n x)).1
def pL3 (E : pE) (n : Nat) (x : pN) : pN := (pDo E n (pL2 E n x)).1
theorem lead_eq (E : pE) (n : Nat) (x : pN) : pLead E n x = (pL3 E n x, (pPrep E n (pL1 n x)).2 ++ (pDo E n (pL2 E n x)).2 ++ (List.range (eN E)).flatMap (fun m => if m = n then [] else pGuide E n (pL3 E n x) m)) := rfl
theorem pL3_ne (E : pE) (n : Nat) (x : pN) {j : Nat} (h1 : j ≠ 1) (h5 : j ≠ 5) (h10 : j ≠ 10) (h11 : j ≠ 11) (h20 : j ≠ 20 + n) (h30 : j ≠ 30 + n) (h40 : j ≠ 40 + n) : pL3 E n x j = x j := by
  unfold pL3 pL2 pL1
  rw [pDo_lo _ _ _ h5 h1, pPrep_lo _ _ _ h10 h11, pNote_ne _ _ _ _ h20 h30 h40]
theorem pPrep_10 (h : x 10 = 1) : (pPrep E n x).1 10 = 1 := by
  unfold pPrep
  rw [if_pos h]
  exact h
theorem pL3_10 (h : x 10 = 1) : pL3 E n x 10 = 1 := by
  unfold pL3 pL2
  rw [pDo_lo _ _ _ (by omega) (by omega)]
  refine pPrep_10 ?_
  unfold pL1
  rw [pNote_ne _ _ _ _ (by omega) (by omega) (by omega)]
  exact h
theorem lead_cases {a : pMsg} (h : a ∈ (pLead E n x).2) : (a = (6, n, pFar (eN E) (pL1 n x) n, x 4, 0, 0) ∧ pFar (eN E) (pL1 n x) n ≠ n ∧ x 10 ≠ 1) ∨ (∃ i, a = (3, n, 99, x 4, i, 0)) ∨ ∃ k, k < eN E ∧ k ≠ n ∧ a ∈ pGuide E n (pL3 E n x) k := by
  rw [lead_eq] at h
  have l10 : pL1 n x 10 = x 10 := pNote_ne _ _ _ _ (by omega) (by omega) (by omega)
  have l4 : pL1 n x 4 = x 4 := pNote_ne _ _ _ _ (by omega) (by omega) (by omega)
  rcases List.mem_append.mp h with h | h
  · rcases List.mem_append.mp h with h | h
    · left
      unfold pPrep at h
      by_cases q1 : pL1 n x 10 = 1
      · rw [if_pos q1] at h; cases h
      rw [if_neg q1] at h
      by_cases q2 : pSize (eN E) (pL1 n x) < eQ E
      · rw [if_pos q2] at h; cases h
      rw [if_neg q2] at h
      by_cases q3 : pFar (eN E) (pL1 n x) n = n
      · rw [if_pos q3] at h; cases h
      rw [if_neg q3, l4] at h
      exact ⟨by simpa using h, q3, by rw [← l10]; exact q1⟩
    · right; left
      unfold pDo at h
      by_cases q : pL2 E n x 10 = 1
      · rw [if_pos q] at h
        obtain ⟨i, -, rfl⟩ := List.mem_map.mp h
        have : pL2 E n x 4 = x 4 := by
          unfold pL2
          rw [pPrep_lo _ _ _ (by omega) (by omega)]
          exact l4
        exact ⟨pL2 E n x 5 + i, by unfold pAns; rw [this]⟩
      · rw [if_neg q] at h; cases h
  · obtain ⟨k, hk, hz⟩ := List.mem_flatMap.mp h
    have hk := List.mem_range.mp hk
    by_cases q : k = n
    · rw [if_pos q] at hz; cases hz
    · rw [if_neg q] at hz
      exact Or.inr (Or.inr ⟨k, hk, q, hz⟩)
theorem hd_cases {a : pMsg} (h : a ∈ pHd n x) : a = (1, n, 99, x 4, 0, 0) ∧ x 2 = 1 := by
  unfold pHd at h
  by_cases q : pFlush x 2 = 1
  · rw [if_pos q] at h
    rw [pFlush_hi x (by omega)] at h q
    exact ⟨by simpa using h, q⟩
  · rw [if_neg q] at h; cases h
theorem work_step (hE : eOk E) (hn : n < eN E) (hu : nd n 0 = 1) (hN : sN E e nd) : sStep E e nd (va_up nd n (pWork E n (nd n)).1) ∧ sN E e (va_up nd n (pWork E n (nd n)).1) ∧ (∀ a ∈ (pWork E n (nd n)).2, sM E e (va_up nd n (pWork E n (nd n)).1) a) ∧ (pWork E n (nd n)).1 0 = 1 := by
  have hN7 := hE.2.1
  rw [pWork_eq _ _ _ hu]
  have f4 : pFl (nd n) 4 = nd n 4 := pFl_hi _ (by omega)
  have f5 : pFl (nd n) 5 = nd n 5 := pFl_hi _ (by omega)
  have f6 : pFl (nd n) 6 = nd n 6 := pFl_hi _ (by omega)
  have f10 : pFl (nd n) 10 = nd n 10 := pFl_hi _ (by omega)
  have f0 : pFl (nd n) 0 = nd n 0 := pFl_hi _ (by omega)
  have hh : ∀ x', (nd n 4 = e → x' 4 = e) → ∀ a ∈ pHd n (nd n), sM E e (va_up nd n x') a := fun x' h4 a ha => by
    obtain ⟨rfl, -⟩ := hd_cases ha
    intro z
    have z : nd n 4 = e := z
    exact ⟨fun _ => by show va_up nd n x' n 4 = e; rw [va_up_self]; exact h4 z, (fun z => by cases z), (fun z => by cases z), (fun z => by cases z), (fun z => by cases z), (fun z => by cases z)⟩
  by_cases ql : eL E (pFl (nd n) 4) = n
  · rw [if_pos ql]
    dsimp only
    rw [f4] at ql
    have e4 : pu (pLead E n (pFl (nd n))).1 3 0 4 = nd n 4 := by
      rw [pu_ne _ _ (by omega), lead_eq]
      simp only
      rw [pL3_ne _ _ _ (by omega) (by omega) (by omega) (by omega) (by omega) (by omega) (by omega), f4]
    have e0 : pu (pLead E n (pFl (nd n))).1 3 0 0 = 1 := by
      rw [pu_ne _ _ (by omega), lead_eq]
      simp only
      rw [pL3_ne _ _ _ (by omega) (by omega) (by omega) (by omega) (by omega) (by omega) (by omega), f0, hu]
    have l4 : pL3 E n (pFl (nd n)) 4 = nd n 4 := by rw [pL3_ne _ _ _ (by omega) (by omega) (by omega) (by omega) (by omega) (by omega) (by omega), f4]
    by_cases z : nd n 4 = e
    · rw [z] at ql
      have hs : sStep E e nd (va_up nd n (pu (pLead E n (pFl (nd n))).1 3 0)) := by
        refine sStep.leads ql.symm e4 (fun w => ?_)
        rw [pu_ne _ _ (by omega), lead_eq]
        exact pL3_10 (by rw [f10]; exact w)
      refine ⟨hs, ?_, ?_, e0⟩
      · refine hN.step hs (fun _ => by rw [ql]; exact z) (fun k hk hkl q hw => ?_)
        rw [ql] at hkl
        rw [ql, va_up_self] at hw ⊢
        have ne : ∀ j, 20 ≤ j → j ≠ 20 + n → j ≠ 30 + n → j ≠ 40 + n → pu (pLead E n (pFl (nd n))).1 3 0 j = nd n j := fun j h0 h1 h2 h3 => by
          rw [pu_ne _ _ (by omega), lead_eq]
          simp only
          rw [pL3_ne _ _ _ (by omega) (by omega) (by omega) (by omega) h1 h2 h3, pFl_hi _ (by omega)]
        rw [ne _ (by omega) (by omega) (by omega) (by omega)] at hw
        exact ⟨hw, ne _ (by omega) (by omega) (by omega) (by omega), ne _ (by omega) (by omega) (by omega) (by omega)⟩
      · intro a ha
        rcases List.mem_append.mp ha with w | w
        · exact hh _ (fun v => by rw [e4]; exact v) a w
        · rcases lead_cases w with ⟨rfl, v, -⟩ | ⟨i, rfl⟩ | ⟨k, hk, hkn, hg⟩
          · exact fun _ => ⟨(fun z => by cases z), (fun z => by cases z), fun _ => ⟨ql.symm, by rw [ql]; exact v⟩, (fun z => by cases z), (fun z => by cases z), (fun z => by cases z)⟩
          · exact fun _ => ⟨(fun z => by cases z), (fun z => by cases z), (fun z => by cases z), (fun z => by cases z), (fun z => by cases z), (fun z => by cases z)⟩
          · have hr : pL3 E n (pFl (nd n)) 10 = 1 → sR E e (va_up nd n (pu (pLead E n (pFl (nd n))).1 3 0)) := fun v => by
              unfold sR
              rw [ql, va_up_self]
              exact ⟨by rw [e4]; exact z, by rw [pu_ne _ _ (by omega), lead_eq]; exact v⟩
            rcases guide_cases hg with ⟨rfl, -⟩ | ⟨g1, g2, g3, g4, g5, g6⟩ | ⟨rfl, g3, g4, g5, g6, g7⟩
            · exact fun _ => ⟨(fun z => by cases z), (fun z => by cases z), (fun z => by cases z), (fun z => by cases z), (fun z => by cases z), (fun z => by cases z)⟩
            · rw [l4, z] at g5
              intro _
              rw [g1]
              exact ⟨fun z => by omega, fun z => by omega, fun z => by omega, fun _ => ⟨hr g4, g5, by rw [ql]; exact hkn⟩, fun _ => Or.inr ⟨hr g4, g5, by rw [ql]; exact hkn⟩, fun z => by omega⟩
            · rw [l4, z] at g5
              exact fun _ => ⟨(fun z => by cases z), (fun z => by cases z), (fun z => by cases z), (fun z => by cases z), (fun z => by cases z), fun _ => ⟨hr g4, g5⟩⟩
    · refine ⟨sStep.off z, hN.off z (Or.inl (by rw [e4]; exact z)), ?_, e0⟩
      intro a ha
      have : a.2.2.2.1 = nd n 4 := by
        rcases List.mem_append.mp ha with w | w
        · obtain ⟨rfl, -⟩ := hd_cases w
          rfl
        · rcases lead_cases w with ⟨rfl, v, -⟩ | ⟨i, rfl⟩ | ⟨k, hk, hkn, hg⟩
          · exact f4
          · exact f4
          · rcases guide_cases hg with ⟨rfl, -⟩ | ⟨g1, -⟩ | ⟨rfl, -⟩
            · exact l4
            · rw [g1]; exact l4
            · exact l4
      exact fun v => absurd (this.symm.trans v) z
  · rw [if_neg ql]
    dsimp only
    rw [f4] at ql
    have p : ∀ j, j ≠ 3 → pu (pFl (nd n)) 3 0 j = pFl (nd n) j := fun j hj => pu_ne _ _ hj
    have hs : sStep E e nd (va_up nd n (pu (pFl (nd n)) 3 0)) := sStep.quiet (by rw [p _ (by omega), f4]) (by rw [p _ (by omega), f5]) (by rw [p _ (by omega), f6]) (by rw [p _ (by omega), f10])
    refine ⟨hs, hN.keep hs (by rw [p _ (by omega), f4]) (fun k hk => by rw [p _ (by omega), pFl_hi _ (by omega)]), fun a ha => ?_, by rw [p _ (by omega), f0, hu]⟩
    rcases List.mem_append.mp ha with w | w
    · exact hh _ (fun v => by rw [p _ (by omega), f4]; exact v) a w
    · rw [f4, f5, f6] at w
      by_cases q : pFl (nd n) 3 = 1 ∧ eL E (nd n 4) ≠ 99
      · rw [if_pos q] at w
        have w : a = (5, n, eL E (nd n 4), nd n 4, nd n 6, nd n 5) := by simpa using w
        subst w
        intro z
        have z : nd n 4 = e := z
        refine ⟨(fun z => by cases z), fun _ => ⟨?_, ?_, ?_⟩, (fun z => by cases z), (fun z => by cases z), (fun z => by cases z), (fun z => by cases z)⟩
        · show n ≠ eL E e
          rw [← z]
          exact fun v => ql v.symm
        · show eL E (nd n 4) = eL E e
          rw [z]
        · show sRel E e _ n (nd n 6) (nd n 5)
          unfold sRel
          rw [va_up_self, p _ (by omega), p _ (by omega), p _ (by omega), f4, f5, f6]
          exact ⟨z, fun _ => ⟨Nat.le_refl _, Nat.le_refl _⟩, fun _ => Nat.le_refl _, fun _ => rfl⟩
      · rw [if_neg q] at w; cases w
end IST
