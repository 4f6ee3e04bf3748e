/-! The leader is ready: copies, answers, drops, silence. -/
def K3 (E : pE) (e : Nat) (u : pSt) : Prop := K0 E e u ∧ (∀ n, n < eN E → u.2.2 (20 + n) = e) ∧ (∀ n, n < eN E → u.1 n 2 ≠ 1) ∧ allH E e u ∧ u.1 (eL E e) 10 = 1
section ENDS
variable {E : pE} {e : Nat} {u : pSt} {m : Nat}
theorem K3.turn (hE : eOk E) (hl : eL E e < eN E) (h : K3 E e u) : K3 E e (pTurn E u) :=
  ⟨h.1.turn hE, fun n hn => A2 hE h.1 hn (Or.inl (h.2.1 n hn)), fun n hn => A3 hE h.1 hl hn h.2.1, h.2.2.2.1.turn hE h.1 hl, C2 hE h.1 hl h.2.2.2.1 (Or.inl h.2.2.2.2)⟩
theorem K3.rel (hl : eL E e < eN E) (h : K3 E e u) (hm : m < eN E) (hml : m ≠ eL E e) : sRel E e u.1 m (u.1 (eL E e) (30 + m)) (u.1 (eL E e) (40 + m)) :=
  h.1.1.2.1.2.2.2.1 (h.1.1.2.2.1 _ hl) m hm hml (h.2.2.2.1 m hm hml)
theorem K3.l2 (h : K3 E e u) : pL2 E (eL E e) (pFl (u.1 (eL E e))) = pL1 (eL E e) (pFl (u.1 (eL E e))) := by
  unfold pL2 pPrep
  rw [if_pos (by rw [l1_ne (by omega) (by omega) (by omega) (by omega)]; exact h.2.2.2.2)]
theorem K3.l10 (h : K3 E e u) : pL3 E (eL E e) (pFl (u.1 (eL E e))) 10 = 1 := pL3_10 (by rw [pFl_hi _ (by omega)]; exact h.2.2.2.2)
theorem K3.l11 (h : K3 E e u) : pL3 E (eL E e) (pFl (u.1 (eL E e))) 11 = u.1 (eL E e) 11 := by
  unfold pL3
  rw [pDo_lo _ _ _ (by omega) (by omega), h.l2, l1_ne (by omega) (by omega) (by omega) (by omega)]
theorem K3.l5 (h : K3 E e u) : pL3 E (eL E e) (pFl (u.1 (eL E e))) 5 = max (u.1 (eL E e) 5) (min (pAgreed E (pL1 (eL E e) (pFl (u.1 (eL E e))))) (u.1 (eL E e) 6)) := by
  unfold pL3
  rw [h.l2]
  unfold pDo
  rw [if_pos (by rw [l1_ne (by omega) (by omega) (by omega) (by omega)]; exact h.2.2.2.2)]
  show max (pL1 (eL E e) (pFl (u.1 (eL E e))) 5) (min (pAgreed E (pL1 (eL E e) (pFl (u.1 (eL E e))))) (pL1 (eL E e) (pFl (u.1 (eL E e))) 6)) = _
  rw [l1_ne (j := 5) (by omega) (by omega) (by omega) (by omega), l1_ne (j := 6) (by omega) (by omega) (by omega) (by omega)]
/-- agreed, by the notes -/
theorem K3.agr (hE : eOk E) (hl : eL E e < eN E) (h : K3 E e u) {b : Nat} (hb : b ≤ u.1 (eL E e) 6) (hk : ∀ m, m < eN E → m ≠ eL E e → eK E e m → b ≤ u.1 (eL E e) (30 + m)) (x : pN) (hx : ∀ j, 20 ≤ j ∨ j = 4 → x j = pL1 (eL E e) (pFl (u.1 (eL E e))) j) : b ≤ pAgreed E x := by
  have hN7 := hE.2.1
  have hg : u.1 (eL E e) 6 ≤ 512 := by
    obtain ⟨y1, y2, y3, y4, y5, rep, c, hJ, -⟩ := h.1.1.1
    have := (hJ.2.1 (eL E e)).2.2.2.1
    omega
  unfold pAgreed
  rw [hx 4 (Or.inr rfl), l1_ne (j := 4) (by omega) (by omega) (by omega) (by omega), h.1.1.2.2.1 _ hl]
  refine agr_ge (by omega) _ (fun m hm hkm => ?_)
  rw [hx _ (by omega), hx _ (by omega)]
  refine ⟨l1_all hE h.2.2.2.1 m hm, ?_⟩
  by_cases q : m = eL E e
  · subst q; rw [l1_30]; exact hb
  · rw [l1_ne (by omega) (by omega) (by omega) (by omega)]
    exact hk m hm q hkm
theorem lead_k (hE : eOk E) (hl : eL E e < eN E) : eK E e (eL E e) := hE.lead rfl (by have := hE.2.1; omega)
theorem K3.low (hE : eOk E) (hl : eL E e < eN E) (h : K3 E e u) {b d : Nat} (hb : b ≤ u.1 (eL E e) 6) (hd : d ≤ pL3 E (eL E e) (pFl (u.1 (eL E e))) 5) : b ≤ (pTurn E u).1 (eL E e) 6 ∧ d ≤ (pTurn E u).1 (eL E e) 5 := by
  refine h.1.keep (P := fun s => b ≤ s.1 (eL E e) 6 ∧ d ≤ s.1 (eL E e) 5) hE (cl_k hE (lead_k hE hl) b d) ⟨?_, ?_⟩
  · rw [tick_lne h.1.1 hl (by omega)]; exact hb
  · rw [tick_l h.1.1 hl, pu_ne _ _ (by omega)]; exact hd
theorem K3.five (h : K3 E e u) : u.1 (eL E e) 5 ≤ pL3 E (eL E e) (pFl (u.1 (eL E e))) 5 := by
  rw [h.l5]; omega
theorem K3.noted (hE : eOk E) (hl : eL E e < eN E) (h : K3 E e u) (hm : m < eN E) (hml : m ≠ eL E e) (hk : eK E e m) {b d : Nat} (hb : b ≤ u.1 (eL E e) (30 + m) ∧ d ≤ u.1 (eL E e) (40 + m)) : b ≤ (pTurn E u).1 (eL E e) (30 + m) ∧ d ≤ (pTurn E u).1 (eL E e) (40 + m) := by
  have hN7 := hE.2.1
  have hr := (h.rel hl hm hml).2.1 hk
  refine (h.1.keep (P := fun s => (∀ c ∈ s.2.1, rpP m (fun x y => b ≤ x ∧ d ≤ y) c) ∧ (b ≤ s.1 (eL E e) (30 + m) ∧ d ≤ s.1 (eL E e) (40 + m))) hE (cl_note hE (eL E e) (by omega) (fun x y => b ≤ x ∧ d ≤ y)) ⟨fun c hc h5 hf => ?_, ?_⟩).2
  · obtain ⟨-, -, z, -⟩ := h.1.reps hE hc h5
    rw [z, hf]
    show b ≤ u.1 m 6 ∧ d ≤ u.1 m 5
    omega
  · rw [tick_lne h.1.1 hl (by omega), tick_lne h.1.1 hl (by omega)]; exact hb
theorem D1 (hE : eOk E) (hl : eL E e < eN E) (h : K3 E e u) (hm : m < eN E) (hml : m ≠ eL E e) (hk : eK E e m) {b d : Nat} (hb : b ≤ u.1 (eL E e) 6) (hd : d ≤ pL3 E (eL E e) (pFl (u.1 (eL E e))) 5) : (b ≤ (pTurn E u).1 m 6 ∧ d ≤ (pTurn E u).1 m 5) ∧ ((b ≤ (pTurn E u).1 (eL E e) (30 + m) ∧ d ≤ (pTurn E u).1 (eL E e) (40 + m)) ∨ (pTurn E u).1 m 3 = 1) := by
  have hN7 := hE.2.1
  have hr := (h.rel hl hm hml).2.1 hk
  generalize hX : pL3 E (eL E e) (pFl (u.1 (eL E e))) = X at *
  have x10 : X 10 = 1 := by rw [← hX]; exact h.l10
  have xn : ∀ j, (j = 4 ∨ j = 6 ∨ (20 ≤ j ∧ j ≠ 20 + eL E e ∧ j ≠ 30 + eL E e ∧ j ≠ 40 + eL E e)) → X j = u.1 (eL E e) j := fun j hj => by rw [← hX]; exact l3_ne hj
  by_cases q : X (30 + m) < X 6 ∨ X (40 + m) < X 5
  · have hin : ((if X (30 + m) + 8 < X 6 then 8 else 7, eL E e, m, e, X 6, X 5) : pMsg) ∈ (pTick E u).2.1 := by
      refine h.1.guide hE hl hm hml ?_
      rw [hX]
      unfold pGuide
      rw [if_neg (by rw [xn _ (by omega)]; exact fun z => z (h.2.2.2.1 m hm hml)), if_pos ⟨x10, by rw [xn 4 (by omega), h.1.1.2.2.1 _ hl]; exact hk⟩, if_pos q, xn 4 (by omega), h.1.1.2.2.1 _ hl]
      exact List.mem_singleton.mpr rfl
    have hQ : cl E e (fun s => (X (30 + m) ≤ s.1 m 6 ∧ 0 ≤ s.1 m 5) ∧ ((b ≤ s.1 m 6 ∧ d ≤ s.1 m 5) ∧ s.1 m 3 = 1)) := cl_and (cl_k hE hk _ _) (cl_and (cl_k hE hk _ _) (cl_3 hE m))
    have := h.1.reach (P := fun s => X (30 + m) ≤ s.1 m 6 ∧ 0 ≤ s.1 m 5) (Q := fun s => (b ≤ s.1 m 6 ∧ d ≤ s.1 m 5) ∧ s.1 m 3 = 1) hE (cl_k hE hk _ _) hQ ⟨by rw [xn _ (by omega), tick_ne h.1.1 hm hml (by omega)]; omega, Nat.zero_le _⟩ hin (fun s r hs hp p => ?_)
    · exact ⟨this.1, Or.inr this.2⟩
    · have k7 : (if X (30 + m) + 8 < X 6 then 8 else 7) = 7 ∧ ¬ X (30 + m) + 8 < X 6 ∨ (if X (30 + m) + 8 < X 6 then 8 else 7) = 8 := by
        split
        · exact Or.inr rfl
        · exact Or.inl ⟨rfl, by assumption⟩
      have x6 := xn 6 (by omega)
      refine hit_node hE hs hp (by show (if _ then _ else _) ≠ 1; omega) (by show (if _ then _ else _) ≠ 3; omega) rfl (Φ := fun x => (b ≤ x 6 ∧ d ≤ x 5) ∧ x 3 = 1) (fun x' hf => ?_)
      have f1 := hf.2.2.2.2.2.2.2.2.2.2.2.2.2.2.2 (by
        rcases k7 with z | z
        · left
          refine ⟨z.1, ?_⟩
          show ¬ s.1 m 6 + 8 < X 6
          have := p.1
          omega
        · exact Or.inr z)
      have f2 := hf.2.2.2.2.2.2.2.2.2.2.2.2.2.2.1 (by
        rcases k7 with z | z
        · exact Or.inl z.1
        · exact Or.inr z)
      have f1 : X 6 ≤ x' 6 ∧ X 5 ≤ x' 5 := f1
      exact ⟨by omega, f2⟩
  · have e1 := xn (30 + m) (by omega)
    have e2 := xn (40 + m) (by omega)
    have e6 := xn 6 (by omega)
    have hno : b ≤ u.1 (eL E e) (30 + m) ∧ d ≤ u.1 (eL E e) (40 + m) := by omega
    refine ⟨?_, Or.inl (h.noted hE hl hm hml hk hno)⟩
    refine h.1.keep (P := fun s => b ≤ s.1 m 6 ∧ d ≤ s.1 m 5) hE (cl_k hE hk b d) ?_
    rw [tick_ne h.1.1 hm hml (by omega), tick_ne h.1.1 hm hml (by omega)]
    omega
theorem D2 (hE : eOk E) (hl : eL E e < eN E) (h : K3 E e u) (hm : m < eN E) (hml : m ≠ eL E e) (hk : eK E e m) {b d : Nat} (h1 : b ≤ u.1 m 6 ∧ d ≤ u.1 m 5) (h2 : (b ≤ u.1 (eL E e) (30 + m) ∧ d ≤ u.1 (eL E e) (40 + m)) ∨ u.1 m 3 = 1) : b ≤ (pTurn E u).1 (eL E e) (30 + m) ∧ d ≤ (pTurn E u).1 (eL E e) (40 + m) := by
  have hN7 := hE.2.1
  rcases h2 with q | q
  · exact h.noted hE hl hm hml hk q
  · refine h.1.reach (P := fun s => ∀ c ∈ s.2.1, rpP m (fun x y => b ≤ x ∧ d ≤ y) c) (Q := fun s => b ≤ s.1 (eL E e) (30 + m) ∧ d ≤ s.1 (eL E e) (40 + m)) hE (cl_rp hE m _) (cl_note hE (eL E e) (by omega) (fun x y => b ≤ x ∧ d ≤ y)) (fun c hc h5 hf => ?_) (h.1.rep hE hl hm hml q) (fun s r hs hp p => ?_)
    · obtain ⟨-, -, z, -⟩ := h.1.reps hE hc h5
      rw [z, hf]
      exact h1
    · refine hit_node hE hs hp (by simp) (by simp) rfl (Φ := fun x => b ≤ x (30 + m) ∧ d ≤ x (40 + m)) (fun x' hf => ?_)
      obtain ⟨-, f2, f3⟩ := hf.2.2.2.2.2.2.2.2.2.2.2.2.2.1 rfl (show m < 10 by omega)
      have f2 : x' (30 + m) = u.1 m 6 := f2
      have f3 : x' (40 + m) = u.1 m 5 := f3
      omega
/-- what the leader has done it has by the notes -/
theorem D3 (hE : eOk E) (hl : eL E e < eN E) (h : K3 E e u) {b : Nat} (hb : b ≤ u.1 (eL E e) 6) (hk : ∀ m, m < eN E → m ≠ eL E e → eK E e m → b ≤ u.1 (eL E e) (30 + m)) : b ≤ pL3 E (eL E e) (pFl (u.1 (eL E e))) 5 := by
  have := h.agr hE hl hb hk (pL1 (eL E e) (pFl (u.1 (eL E e)))) (fun _ _ => rfl)
  rw [h.l5]
  omega
/-- told, arrived and the leader's end -/
theorem K3.com (hE : eOk E) (hl : eL E e < eN E) (h : K3 E e u) : u.2.2 2 ≤ u.1 (eL E e) 6 ∧ ∀ i, u.2.2 2 ≤ i → i < u.2.2 1 → u.2.2 (40 + i % 8) = 1 → i < u.1 (eL E e) 6 := by
  obtain ⟨y1, y2, y3, y4, y5, rep, c, hJ, h2, h3⟩ := h.1.1.1
  have h4 := h.1.1.2.2.1 _ hl
  have := hJ.1.com_le (n := eL E e) h.2.2.2.2 (by rw [h4]; exact lead_k hE hl) (by rw [h4, h.1.1.y0])
  exact ⟨by omega, fun i i1 i2 i3 => Nat.lt_of_lt_of_le (h3 i i1 i2 i3) this⟩
/-- a command more is appended -/
theorem E1 (hE : eOk E) (hl : eL E e < eN E) (h : K3 E e u) (hv : u.1 (eL E e) 6 < u.2.2 1) (h5 : u.2.2 2 ≤ u.1 (eL E e) 5) : u.1 (eL E e) 6 + 1 ≤ (pTurn E u).1 (eL E e) 6 := by
  have hN7 := hE.2.1
  have hkl := lead_k hE hl
  obtain ⟨c1, c2⟩ := h.com hE hl
  have y4 : u.2.2 1 ≤ u.2.2 2 + 8 := h.1.1.1.2.2.2.1
  generalize hvv : u.1 (eL E e) 6 = v at *
  generalize hg : u.2.2 1 = g at *
  generalize ht : u.2.2 2 = td at *
  have hin : ((2, 99, eL E e, e, v, 0) : pMsg) ∈ (pTick E u).2.1 := by
    refine (h.1.1.mem hE h.1.2).mpr (Or.inr (Or.inl ?_))
    rw [h.1.1.y0, hg, ht]
    have := in_reqs (ld := eL E e) (ep := e) (td := td) (i := v - td) (ar := fun j => u.2.2 (40 + j)) (by omega) (g - td) (by omega) (by
      rw [show td + (v - td) = v by omega]
      exact fun z => by have := c2 v (by omega) hv z; omega)
    rw [show td + (v - td) = v by omega] at this
    exact this
  have hP : cl E e (fun s => ((v ≤ s.1 (eL E e) 6 ∧ td ≤ s.1 (eL E e) 5) ∧ s.1 (eL E e) 10 = 1) ∧ (s.2.2 1 = g ∧ s.2.2 2 = td)) := cl_and (cl_and (cl_k hE hkl _ _) (cl_10 hE _ _)) (cl_gt hE _ _)
  have hQ : cl E e (fun s => (((v ≤ s.1 (eL E e) 6 ∧ td ≤ s.1 (eL E e) 5) ∧ s.1 (eL E e) 10 = 1) ∧ (s.2.2 1 = g ∧ s.2.2 2 = td)) ∧ (v + 1 ≤ s.1 (eL E e) 6 ∧ 0 ≤ s.1 (eL E e) 5)) := cl_and hP (cl_k hE hkl _ _)
  refine (h.1.reach (Q := fun s => v + 1 ≤ s.1 (eL E e) 6 ∧ 0 ≤ s.1 (eL E e) 5) hE hP hQ ⟨⟨⟨?_, ?_⟩, ?_⟩, hg, ht⟩ hin (fun s r hs hp p => ?_)).1
  · rw [tick_lne h.1.1 hl (by omega)]; omega
  · rw [tick_l h.1.1 hl, pu_ne _ _ (by omega)]
    have := h.five
    omega
  · rw [tick_l h.1.1 hl, pu_ne _ _ (by omega)]; exact h.l10
  · refine ⟨?_, Nat.zero_le _⟩
    obtain ⟨hn, hf, hgo, -, hx⟩ := hs.eff (a := (2, 99, eL E e, e, v, 0)) hE hp (by simp) (by simp)
    have h4 := hs.2.2.1 _ hl
    obtain ⟨⟨⟨p1, p2⟩, p3⟩, p4, p5⟩ := p
    rw [hgo]
    show v + 1 ≤ va_up s.1 (eL E e) (pHear E (eL E e) (s.1 (eL E e)) _).1 (eL E e) 6
    rw [va_up_self, hear_2 rfl (by show e = _; rw [h4]) (by rw [h4]) p3]
    have hx1 : s.1 (eL E e) 5 ≤ s.1 (eL E e) 6 := hx.2.1
    by_cases q : s.1 (eL E e) 6 = v
    · have hr : pRemembers (s.1 (eL E e)) v = false := by
        unfold pRemembers
        simp
        omega
      show v + 1 ≤ (if pRemembers (s.1 (eL E e)) v = true then (s.1 (eL E e), [pAns (eL E e) (s.1 (eL E e)) v]) else (pAppend (s.1 (eL E e)) v, [])).1 6
      rw [hr, if_neg (by decide)]
      show v + 1 ≤ pAppend (s.1 (eL E e)) v 6
      unfold pAppend
      rw [if_pos ⟨q.symm, by omega⟩]
      show v + 1 ≤ s.1 (eL E e) 6 + 1
      omega
    · show v + 1 ≤ (if pRemembers (s.1 (eL E e)) v = true then (s.1 (eL E e), [pAns (eL E e) (s.1 (eL E e)) v]) else (pAppend (s.1 (eL E e)) v, [])).1 6
      split
      · show v + 1 ≤ s.1 (eL E e) 6
        omega
      · have := pAppend_6 (s.1 (eL E e)) v
        show v + 1 ≤ pAppend (s.1 (eL E e)) v 6
        omega
/-- all answers come -/
theorem F1 (hE : eOk E) (hl : eL E e < eN E) (h : K3 E e u) (h5 : u.2.2 1 ≤ u.1 (eL E e) 5) {i : Nat} (i1 : u.2.2 2 ≤ i) (i2 : i < u.2.2 1) : (pTurn E u).2.2 (40 + i % 8) = 1 := by
  have hN7 := hE.2.1
  have hkl := lead_k hE hl
  have h8 := Nat.mod_lt i (show 8 > 0 by omega)
  have y4 : u.2.2 1 ≤ u.2.2 2 + 8 := h.1.1.1.2.2.2.1
  by_cases q : u.2.2 (40 + i % 8) = 1
  · exact h.1.keep (P := fun s => s.2.2 (40 + i % 8) = 1) hE (cl_ar hE h8) q
  generalize hg : u.2.2 1 = g at *
  generalize ht : u.2.2 2 = td at *
  have hin : ((2, 99, eL E e, e, i, 0) : pMsg) ∈ (pTick E u).2.1 := by
    refine (h.1.1.mem hE h.1.2).mpr (Or.inr (Or.inl ?_))
    rw [h.1.1.y0, hg, ht]
    have := in_reqs (ld := eL E e) (ep := e) (td := td) (i := i - td) (ar := fun j => u.2.2 (40 + j)) (by omega) (g - td) (by omega) (by
      rw [show td + (i - td) = i by omega]
      exact q)
    rw [show td + (i - td) = i by omega] at this
    exact this
  have hP : cl E e (fun s => ((0 ≤ s.1 (eL E e) 6 ∧ g ≤ s.1 (eL E e) 5) ∧ s.1 (eL E e) 10 = 1) ∧ (s.2.2 1 = g ∧ s.2.2 2 = td)) := cl_and (cl_and (cl_k hE hkl _ _) (cl_10 hE _ _)) (cl_gt hE _ _)
  have hQ : cl E e (fun s => (((0 ≤ s.1 (eL E e) 6 ∧ g ≤ s.1 (eL E e) 5) ∧ s.1 (eL E e) 10 = 1) ∧ (s.2.2 1 = g ∧ s.2.2 2 = td)) ∧ (s.2.2 (40 + i % 8) = 1 ∨ ∃ b ∈ s.2.1, b.1 = 3 ∧ b.2.2.2.2.1 = i)) := by
    intro s a r hs hp p
    refine ⟨hP s a r hs hp p.1, ?_⟩
    rcases p.2 with z | ⟨b, hb, b1, b2⟩
    · exact Or.inl (cl_ar hE h8 s a r hs hp z)
    · rw [hp] at hb
      rcases List.mem_cons.mp hb with z | z
      · subst z
        left
        rcases go_cases (E := E) hp with ⟨w, -⟩ | ⟨-, w⟩ | ⟨-, w, -⟩ | ⟨-, w, -⟩
        · omega
        · rw [w]
          show (if _ then _ else s.2.2) (40 + i % 8) = 1
          rw [if_pos (by rw [p.1.2.1, p.1.2.2, b2]; exact ⟨i1, i2⟩), b2, pu_self]
        · exact absurd b1 w
        · exact absurd b1 w
      · exact Or.inr ⟨b, go_rest hE hs hp z, b1, b2⟩
  have hend := h.1.reach hE hP hQ ⟨⟨⟨Nat.zero_le _, ?_⟩, ?_⟩, hg, ht⟩ hin (fun s r hs hp p => ?_)
  · rcases hend with z | ⟨b, hb, -⟩
    · exact z
    · have : (pTurn E u).2.1 = [] := (h.1.turn hE).2
      rw [this] at hb
      cases hb
  · rw [tick_l h.1.1 hl, pu_ne _ _ (by omega)]
    have := h.five
    omega
  · rw [tick_l h.1.1 hl, pu_ne _ _ (by omega)]; exact h.l10
  · right
    obtain ⟨hn, hf, hgo, -, hx⟩ := hs.eff (a := (2, 99, eL E e, e, i, 0)) hE hp (by simp) (by simp)
    have h4 := hs.2.2.1 _ hl
    obtain ⟨⟨⟨p1, p2⟩, p3⟩, p4, p5⟩ := p
    have x1 : s.1 (eL E e) 5 ≤ s.1 (eL E e) 6 := hx.2.1
    have x2 : s.1 (eL E e) 6 ≤ s.2.2 1 := hx.2.2.2.1
    rw [hgo]
    refine ⟨pAns (eL E e) (s.1 (eL E e)) i, List.mem_append.mpr (Or.inr ?_), rfl, rfl⟩
    show _ ∈ (pHear E (eL E e) (s.1 (eL E e)) _).2
    rw [hear_2 rfl (by show e = _; rw [h4]) (by rw [h4]) p3]
    have hr : pRemembers (s.1 (eL E e)) i = true := by
      unfold pRemembers
      simp
      omega
    show _ ∈ (if pRemembers (s.1 (eL E e)) i = true then (s.1 (eL E e), [pAns (eL E e) (s.1 (eL E e)) i]) else (pAppend (s.1 (eL E e)) i, [])).2
    rw [hr, if_pos rfl]
    exact List.mem_singleton.mpr rfl
/-- who keeps no copy loses its own -/
theorem G1 (hE : eOk E) (hl : eL E e < eN E) (h : K3 E e u) (hm : m < eN E) (hk : ¬ eK E e m) (hb : pL3 E (eL E e) (pFl (u.1 (eL E e))) 11 ≤ pAgreed E (pL3 E (eL E e) (pFl (u.1 (eL E e))))) : (pTurn E u).1 m 6 ≤ 0 ∧ ((pTurn E u).1 (eL E e) (30 + m) = 0 ∨ (pTurn E u).1 m 3 = 1) := by
  have hN7 := hE.2.1
  have hml : m ≠ eL E e := fun z => hk (by rw [z]; exact lead_k hE hl)
  have hr := (h.rel hl hm hml).2.2.1 hk
  by_cases q : u.1 (eL E e) (30 + m) = 0
  · refine ⟨h.1.keep (P := fun s => s.1 m 6 ≤ 0) hE (cl_z hE hm hk hl 0) (by rw [tick_ne h.1.1 hm hml (by omega)]; omega), Or.inl ?_⟩
    refine (h.1.keep (P := fun s => (∀ c ∈ s.2.1, rpP m (fun x _ => x = 0) c) ∧ s.1 (eL E e) (30 + m) = 0) hE (cl_note hE (eL E e) (by omega) (fun x _ => x = 0)) ⟨fun c hc h5 hf => ?_, ?_⟩).2
    · obtain ⟨-, -, z, -⟩ := h.1.reps hE hc h5
      rw [z, hf]
      show u.1 m 6 = 0
      omega
    · rw [tick_lne h.1.1 hl (by omega)]; exact q
  · generalize hX : pL3 E (eL E e) (pFl (u.1 (eL E e))) = X at *
    have x10 : X 10 = 1 := by rw [← hX]; exact h.l10
    have xn : ∀ j, (j = 4 ∨ j = 6 ∨ (20 ≤ j ∧ j ≠ 20 + eL E e ∧ j ≠ 30 + eL E e ∧ j ≠ 40 + eL E e)) → X j = u.1 (eL E e) j := fun j hj => by rw [← hX]; exact l3_ne hj
    have hin : ((9, eL E e, m, e, 0, 0) : pMsg) ∈ (pTick E u).2.1 := by
      refine h.1.guide hE hl hm hml ?_
      rw [hX]
      unfold pGuide
      rw [if_neg (by rw [xn _ (by omega)]; exact fun z => z (h.2.2.2.1 m hm hml)), if_neg (by rw [xn 4 (by omega), h.1.1.2.2.1 _ hl]; exact fun z => hk z.2), if_pos ⟨x10, by rw [xn _ (by omega)]; omega, hb⟩, xn 4 (by omega), h.1.1.2.2.1 _ hl]
      exact List.mem_singleton.mpr rfl
    have := h.1.reach (P := fun _ => True) (Q := fun s => s.1 m 6 ≤ 0 ∧ s.1 m 3 = 1) hE cl_true (cl_and cl_true (cl_and (cl_z hE hm hk hl 0) (cl_3 hE m))) trivial hin (fun s r hs hp _ => ?_)
    · exact ⟨this.1, Or.inr this.2⟩
    · exact hit_node hE hs hp (by simp) (by simp) rfl (Φ := fun x => x 6 ≤ 0 ∧ x 3 = 1) (fun x' hf => by
        have := hf.2.2.2.2.2.2.2.2.2.2.1 rfl
        exact ⟨by omega, this.2⟩)
theorem G2 (hE : eOk E) (hl : eL E e < eN E) (h : K3 E e u) (hm : m < eN E) (hk : ¬ eK E e m) (h6 : u.1 m 6 ≤ 0) (h3 : u.1 (eL E e) (30 + m) = 0 ∨ u.1 m 3 = 1) : (pTurn E u).1 m 6 ≤ 0 ∧ (pTurn E u).1 (eL E e) (30 + m) = 0 := by
  have hN7 := hE.2.1
  have hml : m ≠ eL E e := fun z => hk (by rw [z]; exact lead_k hE hl)
  refine ⟨h.1.keep (P := fun s => s.1 m 6 ≤ 0) hE (cl_z hE hm hk hl 0) (by rw [tick_ne h.1.1 hm hml (by omega)]; omega), ?_⟩
  have hp : ∀ c ∈ (pTick E u).2.1, rpP m (fun x _ => x = 0) c := fun c hc h5 hf => by
    obtain ⟨-, -, z, -⟩ := h.1.reps hE hc h5
    rw [z, hf]
    show u.1 m 6 = 0
    omega
  rcases h3 with q | q
  · exact (h.1.keep (P := fun s => (∀ c ∈ s.2.1, rpP m (fun x _ => x = 0) c) ∧ s.1 (eL E e) (30 + m) = 0) hE (cl_note hE (eL E e) (by omega) (fun x _ => x = 0)) ⟨hp, by rw [tick_lne h.1.1 hl (by omega)]; exact q⟩).2
  · refine h.1.reach (P := fun s => ∀ c ∈ s.2.1, rpP m (fun x _ => x = 0) c) (Q := fun s => s.1 (eL E e) (30 + m) = 0) hE (cl_rp hE m _) (cl_note hE (eL E e) (by omega) (fun x _ => x = 0)) hp (h.1.rep hE hl hm hml q) (fun s r hs hp p => ?_)
    refine hit_node hE hs hp (by simp) (by simp) rfl (Φ := fun x => x (30 + m) = 0) (fun x' hf => ?_)
    have f2 : x' (30 + m) = u.1 m 6 := (hf.2.2.2.2.2.2.2.2.2.2.2.2.2.1 rfl (show m < 10 by omega)).2.1
    omega
end ENDS
