/-! What a turn brings. -/
section TURNS
variable {E : pE} {e : Nat} {a : pMsg} {r : List pMsg} {s u : pSt} {n m : Nat}
theorem hit_node (hE : eOk E) (h : RG E e s) (hs : s.2.1 = a :: r) (h1 : a.1 ≠ 1) (h3 : a.1 ≠ 3) (hn : a.2.2.1 = n) {Φ : pN → Prop} (hΦ : ∀ x', nEff a (s.1 n) x' → Φ x') : Φ ((pGo E s 0 a).1 n) := by
  obtain ⟨-, hf, hg, -⟩ := h.eff hE hs h1 h3
  rw [hg]
  subst hn
  show Φ (va_up s.1 a.2.2.1 _ a.2.2.1)
  rw [va_up_self]
  exact hΦ _ hf
theorem in_proc {ep : Nat} {hd : Nat → Nat} : ∀ k, n < k → hd n < ep → ((0, 99, n, ep, 0, 0) : pMsg) ∈ pProc ep hd k := by
  intro k
  induction k with
  | zero => intro h; omega
  | succ k ih =>
    intro h1 h2
    rw [pProc, List.mem_append]
    by_cases q : n = k
    · subst q; rw [if_pos h2]; exact Or.inr (List.mem_singleton.mpr rfl)
    · exact Or.inl (ih (by omega) h2)
theorem in_reqs {ld ep td i : Nat} {ar : Nat → Nat} (hld : ld ≠ 99) : ∀ k, i < k → ar ((td + i) % 8) ≠ 1 → ((2, 99, ld, ep, td + i, 0) : pMsg) ∈ pReqs ld ep ar td k := by
  intro k
  induction k with
  | zero => intro h; omega
  | succ k ih =>
    intro h1 h2
    rw [pReqs, List.mem_append]
    by_cases q : i = k
    · subst q
      rw [if_neg h2, pReq1, if_neg hld]
      exact Or.inr (List.mem_singleton.mpr rfl)
    · exact Or.inl (ih (by omega) h2)
theorem cl_true : cl E e (fun _ => True) := fun _ _ _ _ _ _ => trivial
theorem RG.y0 (h : RG E e s) : s.2.2 0 = e := h.2.1.1
theorem RG.yle (h : RG E e s) (hn : n < 10) : s.2.2 (20 + n) ≤ e := by
  have := h.1.2.2.2.2.1 n hn
  rw [h.y0] at this
  exact this
/-- a map comes to who has not told that it has it -/
theorem A1 (hE : eOk E) (h : K0 E e u) (hn : n < eN E) : (pTurn E u).2.2 (20 + n) = e ∨ (pTurn E u).1 n 2 = 1 := by
  have hN7 := hE.2.1
  by_cases q : u.2.2 (20 + n) = e
  · exact Or.inl (h.keep (P := fun s => s.2.2 (20 + n) = e ∧ s.2.2 0 = e) hE (cl_yn hE (by omega)) ⟨q, h.1.y0⟩).1
  · right
    have := h.1.yle (n := n) (by omega)
    refine h.reach (P := fun _ => True) (Q := fun s => s.1 n 2 = 1) (a := (0, 99, n, e, 0, 0)) hE cl_true (cl_and cl_true (cl_2 hE n)) trivial ?_ (fun s r hs hp _ => ?_)
    · refine (h.1.mem hE h.2).mpr (Or.inl ?_)
      rw [h.1.y0]
      exact in_proc _ hn (by omega)
    · exact hit_node hE hs hp (by simp) (by simp) rfl (Φ := fun x => x 2 = 1) (fun x' hf => hf.2.2.2.2.2.2.2.2.2.2.2.2.1 rfl)
theorem A2 (hE : eOk E) (h : K0 E e u) (hn : n < eN E) (hy : u.2.2 (20 + n) = e ∨ u.1 n 2 = 1) : (pTurn E u).2.2 (20 + n) = e := by
  have hN7 := hE.2.1
  by_cases q : u.2.2 (20 + n) = e
  · exact (h.keep (P := fun s => s.2.2 (20 + n) = e ∧ s.2.2 0 = e) hE (cl_yn hE (by omega)) ⟨q, h.1.y0⟩).1
  · have h2 := hy.resolve_left q
    refine (h.reach (P := fun _ => True) (Q := fun s => s.2.2 (20 + n) = e ∧ s.2.2 0 = e) (a := (1, n, 99, e, 0, 0)) hE cl_true (cl_and cl_true (cl_yn hE (by omega))) trivial ?_ (fun s r hs hp _ => ?_)).1
    · refine h.sent hE hn ?_
      rw [pWork_eq _ _ _ (h.1.2.1.2.1 n hn)]
      have hin : ((1, n, 99, e, 0, 0) : pMsg) ∈ pHd n (u.1 n) := by
        unfold pHd
        rw [pFlush_hi _ (j := 2) (by omega), if_pos h2, pFlush_hi _ (j := 4) (by omega), h.1.2.2.1 n hn]
        exact List.mem_singleton.mpr rfl
      split
      · exact List.mem_append.mpr (Or.inl hin)
      · exact List.mem_append.mpr (Or.inl hin)
    · refine ⟨?_, (hs.go hE hp).y0⟩
      rcases go_cases (E := E) hp with ⟨-, q⟩ | ⟨q, -⟩ | ⟨q, -⟩ | ⟨q, -⟩
      · rw [q]
        show pu s.2.2 (20 + n) (max (s.2.2 (20 + n)) e) (20 + n) = e
        rw [pu_self]
        have := hs.yle (n := n) (by omega)
        omega
      · cases q
      · exact absurd rfl q
      · exact absurd rfl q
/-- the kinds that a tick sends -/
theorem K0.kind0 (hE : eOk E) (h : K0 E e u) (ha : a ∈ (pTick E u).2.1) (h0 : a.1 = 0) : ∃ k, k < eN E ∧ u.2.2 (20 + k) < e := by
  rcases (h.1.mem hE h.2).mp ha with z | z | ⟨n, hn, z⟩
  · obtain ⟨k, h1, h2, rfl⟩ := mem_proc _ z
    exact ⟨k, h1, by rw [← h.1.y0]; exact h2⟩
  · obtain ⟨-, k, -, -, rfl⟩ := mem_reqs _ z; cases h0
  · rcases work_cases (h.1.2.1.2.1 n hn) z with ⟨rfl, -⟩ | ⟨ql, w⟩ | ⟨q1, q2, q3, rfl⟩
    · cases h0
    · rcases lead_cases w with ⟨rfl, -⟩ | ⟨i, rfl⟩ | ⟨k, -, -, hg⟩
      · cases h0
      · cases h0
      · rcases guide_cases hg with ⟨rfl, -⟩ | ⟨-, g2, -⟩ | ⟨rfl, -⟩
        · cases h0
        · omega
        · cases h0
    · cases h0
theorem A3 (hE : eOk E) (h : K0 E e u) (hl : eL E e < eN E) (hn : n < eN E) (hy : ∀ k, k < eN E → u.2.2 (20 + k) = e) : (pTurn E u).1 n 2 ≠ 1 :=
  (h.keep (P := fun s => (∀ b ∈ s.2.1, b.1 ≠ 0) ∧ s.1 n 2 ≠ 1) hE (cl_f2 hE n) ⟨fun b hb z => by
    obtain ⟨k, h1, h2⟩ := h.kind0 hE hb z
    have := hy k h1
    omega, (tick_2 h.1 hn hl).1⟩).2
/-- the leader's numbers behind its work -/
theorem l3_ne {j : Nat} (hj : j = 4 ∨ j = 6 ∨ (20 ≤ j ∧ j ≠ 20 + eL E e ∧ j ≠ 30 + eL E e ∧ j ≠ 40 + eL E e)) : pL3 E (eL E e) (pFl (u.1 (eL E e))) j = u.1 (eL E e) j := by
  rw [pL3_ne _ _ _ (by omega) (by omega) (by omega) (by omega) (by omega) (by omega) (by omega), pFl_hi _ (by omega)]
theorem B1 (hE : eOk E) (h : K0 E e u) (hl : eL E e < eN E) (hm : m < eN E) (hml : m ≠ eL E e) : (pTurn E u).1 (eL E e) (20 + m) = 1 ∨ (pTurn E u).1 m 3 = 1 := by
  have hN7 := hE.2.1
  by_cases q : u.1 (eL E e) (20 + m) = 1
  · exact Or.inl (h.keep (P := fun s => s.1 (eL E e) (20 + m) = 1) hE (cl_h hE _ (by omega)) (by rw [tick_lne h.1 hl (by omega)]; exact q))
  · right
    refine h.reach (P := fun _ => True) (Q := fun s => s.1 m 3 = 1) (a := (4, eL E e, m, e, 0, 0)) hE cl_true (cl_and cl_true (cl_3 hE m)) trivial (h.guide hE hl hm hml ?_) (fun s r hs hp _ => ?_)
    · unfold pGuide
      rw [if_pos (by rw [l3_ne (by omega)]; exact q), l3_ne (by omega), h.1.2.2.1 _ hl]
      exact List.mem_singleton.mpr rfl
    · exact hit_node hE hs hp (by simp) (by simp) rfl (Φ := fun x => x 3 = 1) (fun x' hf => hf.2.2.2.2.2.2.2.2.2.2.2.1 rfl)
theorem B2 (hE : eOk E) (h : K0 E e u) (hl : eL E e < eN E) (hm : m < eN E) (hml : m ≠ eL E e) (hu : u.1 (eL E e) (20 + m) = 1 ∨ u.1 m 3 = 1) : (pTurn E u).1 (eL E e) (20 + m) = 1 := by
  have hN7 := hE.2.1
  by_cases q : u.1 (eL E e) (20 + m) = 1
  · exact h.keep (P := fun s => s.1 (eL E e) (20 + m) = 1) hE (cl_h hE _ (by omega)) (by rw [tick_lne h.1 hl (by omega)]; exact q)
  · refine h.reach (P := fun _ => True) (Q := fun s => s.1 (eL E e) (20 + m) = 1) (a := (5, m, eL E e, e, u.1 m 6, u.1 m 5)) hE cl_true (cl_and cl_true (cl_h hE _ (by omega))) trivial (h.rep hE hl hm hml (hu.resolve_left q)) (fun s r hs hp _ => ?_)
    exact hit_node hE hs hp (by simp) (by simp) rfl (Φ := fun x => x (20 + m) = 1) (fun x' hf => (hf.2.2.2.2.2.2.2.2.2.2.2.2.2.1 rfl (show m < 10 by omega)).1)
theorem hear_6 {x : pN} (h6 : a.1 = 6) (he : a.2.2.2.1 = x 4) : (pHear E n x a).2 = [(8, n, a.2.1, x 4, x 6, x 5)] := by
  unfold pHear
  rw [if_neg (by omega), if_neg (fun z => z he), if_neg (by omega), if_neg (by omega), if_neg (by omega), if_pos h6]
theorem hear_2 {x : pN} (h2 : a.1 = 2) (he : a.2.2.2.1 = x 4) (hl : eL E (x 4) = n) (h10 : x 10 = 1) : pHear E n x a = if pRemembers x a.2.2.2.2.1 then (x, [pAns n x a.2.2.2.2.1]) else (pAppend x a.2.2.2.2.1, []) := by
  unfold pHear
  rw [if_neg (by omega), if_neg (fun z => z he), if_pos h2, if_pos ⟨hl, h10⟩]
/-- messages stay under way, but the one that arrives -/
theorem go_rest (hE : eOk E) (h : RG E e s) (hs : s.2.1 = a :: r) {b : pMsg} (hb : b ∈ r) : b ∈ (pGo E s 0 a).2.1 := by
  refine go_elim hE h hs (fun s => b ∈ s.2.1) (fun _ _ => hb) (fun _ => hb) (fun x' t _ _ _ _ _ _ _ => ?_)
  exact List.mem_append.mpr (Or.inl hb)
theorem far_self {x : pN} {self : Nat} : ∀ k, (∀ m, m < k → x (20 + m) = 1 → x (30 + m) ≤ x (30 + self)) → pFar k x self = self := by
  intro k
  induction k with
  | zero => intro _; rfl
  | succ k ih =>
    intro h
    have := ih (fun m hm => h m (by omega))
    rw [pFar, this]
    by_cases q : x (20 + k) = 1 ∧ x (30 + self) < x (30 + k)
    · have := h k (by omega) q.1
      omega
    · rw [if_neg q]
/-- all have reported -/
def allH (E : pE) (e : Nat) (u : pSt) : Prop := ∀ m, m < eN E → m ≠ eL E e → u.1 (eL E e) (20 + m) = 1
theorem allH.turn (hE : eOk E) (h : K0 E e u) (hl : eL E e < eN E) (ha : allH E e u) : allH E e (pTurn E u) := fun m hm hml => B2 hE h hl hm hml (Or.inl (ha m hm hml))
theorem l1_all (hE : eOk E) (ha : allH E e u) : ∀ m, m < eN E → pL1 (eL E e) (pFl (u.1 (eL E e))) (20 + m) = 1 := by
  intro m hm
  have hN7 := hE.2.1
  unfold pL1
  by_cases q : m = eL E e
  · subst q
    unfold pNote
    rw [if_pos rfl]
  · rw [pNote_ne _ _ _ _ (by omega) (by omega) (by omega), pFl_hi _ (by omega)]
    exact ha m hm q
theorem l1_ne {x : pN} {l j : Nat} (h1 : j ≠ 20 + l) (h2 : j ≠ 30 + l) (h3 : j ≠ 40 + l) (hj : 10 ≤ j ∨ (j < 7 ∧ j ≠ 1 ∧ j ≠ 2)) : pL1 l (pFl x) j = x j := by
  unfold pL1
  rw [pNote_ne _ _ _ _ h1 h2 h3, pFl_hi _ hj]
theorem l1_30 {x : pN} {l : Nat} : pL1 l (pFl x) (30 + l) = x 6 := by
  unfold pL1 pNote
  rw [if_neg (by omega), if_pos rfl, pFl_hi _ (by omega)]
theorem quo (hE : eOk E) (ha : allH E e u) : ¬ pSize (eN E) (pL1 (eL E e) (pFl (u.1 (eL E e)))) < eQ E := by
  rw [size_all _ (l1_all hE ha)]
  have := hE.2.2.1
  have := hE.1
  simp only [eQ]
  omega
theorem C2 (hE : eOk E) (h : K0 E e u) (hl : eL E e < eN E) (ha : allH E e u) (hr : u.1 (eL E e) 10 = 1 ∨ ∀ m, m < eN E → m ≠ eL E e → u.1 (eL E e) (30 + m) ≤ u.1 (eL E e) 6) : (pTurn E u).1 (eL E e) 10 = 1 := by
  have hN7 := hE.2.1
  refine h.keep (P := fun s => s.1 (eL E e) 10 = 1) hE (cl_10 hE _ 1) ?_
  rw [tick_l h.1 hl, pu_ne _ _ (by omega)]
  rcases hr with q | q
  · exact pL3_10 (by rw [pFl_hi _ (by omega)]; exact q)
  · unfold pL3
    rw [pDo_lo _ _ _ (by omega) (by omega)]
    unfold pL2 pPrep
    by_cases q1 : pL1 (eL E e) (pFl (u.1 (eL E e))) 10 = 1
    · rw [if_pos q1]; exact q1
    rw [if_neg q1, if_neg (quo hE ha), if_pos ?_]
    · rfl
    · refine far_self _ (fun m hm _ => ?_)
      rw [l1_30]
      by_cases z : m = eL E e
      · subst z; rw [l1_30]; exact Nat.le_refl _
      · rw [l1_ne (by omega) (by omega) (by omega) (by omega)]
        exact q m hm z
theorem C1 (hE : eOk E) (h : K0 E e u) (hl : eL E e < eN E) (ha : allH E e u) : (pTurn E u).1 (eL E e) 10 = 1 ∨ ∀ m, m < eN E → m ≠ eL E e → (pTurn E u).1 (eL E e) (30 + m) ≤ (pTurn E u).1 (eL E e) 6 := by
  have hN7 := hE.2.1
  have hkl : eK E e (eL E e) := hE.lead rfl (by omega)
  by_cases q : pL3 E (eL E e) (pFl (u.1 (eL E e))) 10 = 1
  · left
    exact h.keep (P := fun s => s.1 (eL E e) 10 = 1) hE (cl_10 hE _ 1) (by rw [tick_l h.1 hl, pu_ne _ _ (by omega)]; exact q)
  right
  have ht := h.1.tick hE h.2
  -- it fetches
  have q1 : ¬ pL1 (eL E e) (pFl (u.1 (eL E e))) 10 = 1 := fun z => q (by
    unfold pL3 pL2
    rw [pDo_lo _ _ _ (by omega) (by omega)]
    exact pPrep_10 z)
  have q3 : ¬ pFar (eN E) (pL1 (eL E e) (pFl (u.1 (eL E e)))) (eL E e) = eL E e := fun z => q (by
    unfold pL3
    rw [pDo_lo _ _ _ (by omega) (by omega)]
    unfold pL2 pPrep
    rw [if_neg q1, if_neg (quo hE ha), if_pos z]
    rfl)
  obtain ⟨f1, f2, f3⟩ := far_max (x := pL1 (eL E e) (pFl (u.1 (eL E e)))) (self := eL E e) (eN E)
  have f3 := f3.resolve_left q3
  have hfetch : ((6, eL E e, pFar (eN E) (pL1 (eL E e) (pFl (u.1 (eL E e)))) (eL E e), e, 0, 0) : pMsg) ∈ (pTick E u).2.1 := by
    refine h.sent hE hl ?_
    rw [pWork_eq _ _ _ (h.1.2.1.2.1 _ hl), if_pos (by rw [pFl_hi _ (by omega), h.1.2.2.1 _ hl])]
    refine List.mem_append.mpr (Or.inr ?_)
    rw [lead_eq]
    refine List.mem_append.mpr (Or.inl (List.mem_append.mpr (Or.inl ?_)))
    unfold pPrep
    rw [if_neg q1, if_neg (quo hE ha), if_neg q3]
    show _ ∈ [_]
    rw [l1_ne (j := 4) (by omega) (by omega) (by omega) (by omega), h.1.2.2.1 _ hl]
    exact List.mem_singleton.mpr rfl
  generalize pFar (eN E) (pL1 (eL E e) (pFl (u.1 (eL E e)))) (eL E e) = best at *
  have hVu : pL1 (eL E e) (pFl (u.1 (eL E e))) (30 + best) = u.1 (eL E e) (30 + best) := l1_ne (by omega) (by omega) (by omega) (by omega)
  have hnR : ¬ sR E e (pTick E u).1 := fun z => q (by
    have := z.2
    rw [tick_l h.1 hl, pu_ne _ _ (by omega)] at this
    exact this)
  have hrel : ∀ m, m < eN E → m ≠ eL E e → u.1 (eL E e) (30 + m) = (pTick E u).1 m 6 := fun m hm hml => by
    have := (ht.2.1.2.2.2.1 (ht.2.2.1 _ hl) m hm hml (by rw [tick_lne h.1 hl (by omega)]; exact ha m hm hml)).2.2.2 hnR
    rw [tick_lne h.1 hl (by omega)] at this
    exact this
  -- V: the greatest end
  generalize hV : u.1 (eL E e) (30 + best) = V at *
  have hP : cl E e (fun s => s.1 (eL E e) 10 ≠ 1 ∧ (∀ m, m < eN E → m ≠ eL E e → s.1 m 6 ≤ V) ∧ V ≤ s.1 best 6) := by
    intro s a r hs hp p
    refine go_elim hE hs hp (fun s => s.1 (eL E e) 10 ≠ 1 ∧ (∀ m, m < eN E → m ≠ eL E e → s.1 m 6 ≤ V) ∧ V ≤ s.1 best 6) (fun _ _ => p) (fun _ => p) (fun x' t _ _ _ hf _ _ hst => ?_)
    have h10 : va_up s.1 a.2.2.1 x' (eL E e) 10 = s.1 (eL E e) 10 := by
      by_cases z : eL E e = a.2.2.1
      · rw [z, va_up_self, hf.2.2.2.2.2.1]
      · rw [va_up_ne _ _ z]
    have hn : ¬ sR E e (va_up s.1 a.2.2.1 x') := fun z => p.1 (by rw [← h10]; exact z.2)
    have h6 : ∀ m, m < eN E → m ≠ eL E e → va_up s.1 a.2.2.1 x' m 6 = s.1 m 6 := fun m hm hml => (hst.2.2 m hm hml (hs.2.2.1 m hm)).2.2 hn
    refine ⟨by show va_up s.1 a.2.2.1 x' (eL E e) 10 ≠ 1; rw [h10]; exact p.1, fun m hm hml => ?_, ?_⟩
    · show va_up s.1 a.2.2.1 x' m 6 ≤ V
      rw [h6 m hm hml]; exact p.2.1 m hm hml
    · show V ≤ va_up s.1 a.2.2.1 x' best 6
      rw [h6 best f3.1 q3]; exact p.2.2
  have hQ : cl E e (fun s => (s.1 (eL E e) 10 ≠ 1 ∧ (∀ m, m < eN E → m ≠ eL E e → s.1 m 6 ≤ V) ∧ V ≤ s.1 best 6) ∧ (V ≤ s.1 (eL E e) 6 ∨ ∃ b ∈ s.2.1, b.1 = 8 ∧ b.2.2.1 = eL E e ∧ V ≤ b.2.2.2.2.1)) := by
    intro s a r hs hp p
    refine ⟨hP s a r hs hp p.1, ?_⟩
    rcases p.2 with z | ⟨b, hb, b1, b2, b3⟩
    · exact Or.inl (cl_k hE hkl V 0 s a r hs hp ⟨z, Nat.zero_le _⟩).1
    · rw [hp] at hb
      rcases List.mem_cons.mp hb with z | z
      · subst z
        left
        exact hit_node hE hs hp (by omega) (by omega) b2 (Φ := fun x => V ≤ x 6) (fun x' hf => by
          have := (hf.2.2.2.2.2.2.2.2.2.2.2.2.2.2.2 (Or.inr b1)).1
          omega)
      · exact Or.inr ⟨b, go_rest hE hs hp z, b1, b2, b3⟩
  have hp0 : (pTick E u).1 (eL E e) 10 ≠ 1 ∧ (∀ m, m < eN E → m ≠ eL E e → (pTick E u).1 m 6 ≤ V) ∧ V ≤ (pTick E u).1 best 6 := by
    refine ⟨by rw [tick_l h.1 hl, pu_ne _ _ (by omega)]; exact q, fun m hm hml => ?_, ?_⟩
    · rw [← hrel m hm hml]
      have := f1 m hm (l1_all hE ha m hm)
      rw [hVu, l1_ne (by omega) (by omega) (by omega) (by omega)] at this
      exact this
    · rw [← hrel best f3.1 q3, hV]
      exact Nat.le_refl _
  have hend := h.reach (a := (6, eL E e, best, e, 0, 0)) hE hP hQ hp0 hfetch (fun s r hs hp p => by
    right
    have ha : ((6, eL E e, best, e, 0, 0) : pMsg) ∈ s.2.1 := by rw [hp]; exact List.mem_cons_self
    obtain ⟨hn, -, hg, -⟩ := hs.eff (a := (6, eL E e, best, e, 0, 0)) hE hp (by simp) (by simp)
    rw [hg, hear_6 rfl (by show e = _; rw [hs.2.2.1 _ hn])]
    exact ⟨_, List.mem_append.mpr (Or.inr (List.mem_singleton.mpr rfl)), rfl, rfl, p.2.2⟩)
  have hkeep := h.keep hE hP hp0
  have hT := h.turn hE
  have hV6 : V ≤ (pTurn E u).1 (eL E e) 6 := by
    rcases hend with z | ⟨b, hb, -⟩
    · exact z
    · rw [hT.2] at hb; cases hb
  intro m hm hml
  have hnR2 : ¬ sR E e (pTurn E u).1 := fun z => hkeep.1 z.2
  have := (hT.1.2.1.2.2.2.1 (hT.1.2.2.1 _ hl) m hm hml (ha.turn hE h hl m hm hml)).2.2.2 hnR2
  have h2 := hkeep.2.1 m hm hml
  omega
end TURNS
