/-! Facts that hold over arrivals and turns. -/
section FACTS
variable {E : pE} {e : Nat} {a : pMsg} {r : List pMsg} {s u : pSt}
theorem go_elim (hE : eOk E) (h : RG E e s) (hs : s.2.1 = a :: r) (C : pSt → Prop)
    (c1 : a.1 = 1 → a.2.1 < eN E → C (s.1, r, pu s.2.2 (20 + a.2.1) (max (s.2.2 (20 + a.2.1)) e))) (c3 : a.1 = 3 → C (s.1, r, if s.2.2 2 ≤ a.2.2.2.2.1 ∧ a.2.2.2.2.1 < s.2.2 1 then pu s.2.2 (40 + a.2.2.2.2.1 % 8) 1 else s.2.2))
    (cn : ∀ (x' : pN) (t : List pMsg), a.1 ≠ 1 → a.1 ≠ 3 → a.2.2.1 < eN E → nEff a (s.1 a.2.2.1) x' → hC E a.2.2.1 (s.1 a.2.2.1) a x' t → sM E e s.1 a → sStep E e s.1 (va_up s.1 a.2.2.1 x') → C (va_up s.1 a.2.2.1 x', r ++ t, s.2.2)) : C (pGo E s 0 a) := by
  have ha : a ∈ s.2.1 := by rw [hs]; exact List.mem_cons_self
  have hae := h.2.2.2.1 a ha
  by_cases q1 : a.1 = 1
  · rcases go_cases (E := E) hs with ⟨-, q⟩ | ⟨q, -⟩ | ⟨q, -⟩ | ⟨q, -⟩
    · rw [q, hae]
      obtain ⟨-, -, -, -, -, rep, c, hJ, -⟩ := h.1
      exact c1 q1 ((hJ.2.2 a ha).1.2.2.1 (Or.inl q1))
    · omega
    · exact absurd q1 q
    · exact absurd q1 q
  by_cases q3 : a.1 = 3
  · rcases go_cases (E := E) hs with ⟨q, -⟩ | ⟨-, q⟩ | ⟨-, q, -⟩ | ⟨-, q, -⟩
    · omega
    · rw [q]; exact c3 q3
    · exact absurd q3 q
    · exact absurd q3 q
  obtain ⟨hn, hf, hg, -, -⟩ := h.eff hE hs q1 q3
  rw [hg]
  have hsm := h.2.1.2.2.2.2 a ha
  obtain ⟨-, -, -, -, -, rep, c, hJ, -⟩ := h.1
  have h0 : s.2.2 0 = e := h.2.1.1
  rw [h0] at hJ
  exact cn _ _ q1 q3 hn hf (hear_cases _ _ _ _) hsm (hear_step hE hJ ha hsm rfl hn h.2.1.2.2.2.1 (hear_cases E a.2.2.1 (s.1 a.2.2.1) a)).1
/-- facts of one node -/
theorem cl_node {n : Nat} {Φ : pN → Prop} (hE : eOk E) (hΦ : ∀ (s : pSt) (a : pMsg) (r : List pMsg) (x' : pN), RG E e s → s.2.1 = a :: r → a.2.2.1 = n → nEff a (s.1 n) x' → sM E e s.1 a → Φ (s.1 n) → Φ x') : cl E e (fun s => Φ (s.1 n)) := by
  intro s a r h hs p
  refine go_elim hE h hs (fun s => Φ (s.1 n)) (fun _ _ => p) (fun _ => p) (fun x' t _ _ _ hf _ hm _ => ?_)
  show Φ (va_up s.1 a.2.2.1 x' n)
  by_cases q : n = a.2.2.1
  · subst q
    rw [va_up_self]
    exact hΦ s a r x' h hs rfl hf hm p
  · rw [va_up_ne _ _ q]
    exact p
theorem cl_and {P Q : pSt → Prop} (hP : cl E e P) (hQ : cl E e Q) : cl E e (fun s => P s ∧ Q s) := fun s a r h hs p => ⟨hP s a r h hs p.1, hQ s a r h hs p.2⟩
theorem cl_2 (hE : eOk E) (n : Nat) : cl E e (fun s => s.1 n 2 = 1) := cl_node (Φ := fun x => x 2 = 1) hE (fun _ _ _ _ _ _ _ hf _ p => hf.2.1 p)
theorem cl_3 (hE : eOk E) (n : Nat) : cl E e (fun s => s.1 n 3 = 1) := cl_node (Φ := fun x => x 3 = 1) hE (fun _ _ _ _ _ _ _ hf _ p => hf.2.2.1 p)
theorem cl_h (hE : eOk E) (n : Nat) {k : Nat} (hk : k < 10) : cl E e (fun s => s.1 n (20 + k) = 1) := cl_node (Φ := fun x => x (20 + k) = 1) hE (fun _ _ _ _ _ _ _ hf _ p => hf.2.2.2.2.2.2.2.1 k hk p)
theorem cl_10 (hE : eOk E) (n v : Nat) : cl E e (fun s => s.1 n 10 = v) := cl_node (Φ := fun x => x 10 = v) hE (fun _ _ _ _ _ _ _ hf _ p => by rw [hf.2.2.2.2.2.1]; exact p)
theorem cl_11 (hE : eOk E) (n v : Nat) : cl E e (fun s => s.1 n 11 ≤ v) := cl_node (Φ := fun x => x 11 ≤ v) hE (fun _ _ _ _ _ _ _ hf _ p => by rw [hf.2.2.2.2.2.2.1]; exact p)
/-- a keeper goes forward -/
theorem cl_k (hE : eOk E) {n : Nat} (hk : eK E e n) (b d : Nat) : cl E e (fun s => b ≤ s.1 n 6 ∧ d ≤ s.1 n 5) := by
  refine cl_node (Φ := fun x => b ≤ x 6 ∧ d ≤ x 5) hE (fun s a r x' h hs hn hf hm p => ?_)
  have ha : a ∈ s.2.1 := by rw [hs]; exact List.mem_cons_self
  have h9 : a.1 ≠ 9 := fun z => by
    have := ((hm (h.2.2.2.1 a ha)).2.2.2.2.2 z).2
    rw [hn] at this
    exact this hk
  have := hf.2.2.2.2.2.2.2.2.2.1 h9
  omega
/-- another's end does not come back -/
theorem cl_z (hE : eOk E) {n : Nat} (hn : n < eN E) (hk : ¬ eK E e n) (hl : eL E e < eN E) (b : Nat) : cl E e (fun s => s.1 n 6 ≤ b) := by
  have hN7 := hE.2.1
  have hnl : n ≠ eL E e := fun z => hk (hE.lead z.symm (by omega))
  intro s a r h hs p
  refine go_elim hE h hs (fun s => s.1 n 6 ≤ b) (fun _ _ => p) (fun _ => p) (fun x' t _ _ _ hf _ hm hst => ?_)
  show va_up s.1 a.2.2.1 x' n 6 ≤ b
  have := (hst.2.2 n hn hnl (h.2.2.1 n hn)).2.1 hk
  have p : s.1 n 6 ≤ b := p
  omega
/-- new messages are answers, and copies where one was fetched -/
theorem rep_kind {n : Nat} {x x' : pN} {t : List pMsg} {b : pMsg} (h : hC E n x a x' t) (hb : b ∈ t) : b.1 = 3 ∨ (b.1 = 8 ∧ a.1 = 6) := by
  rcases hear_rep h with z | ⟨-, z⟩ | ⟨z1, z⟩
  · rw [z] at hb; cases hb
  · rw [z] at hb
    have hb : b = (3, n, 99, x 4, a.2.2.2.2.1, 0) := by simpa using hb
    rw [hb]; exact Or.inl rfl
  · rw [z] at hb
    have hb : b = (8, n, a.2.1, x 4, x 6, x 5) := by simpa using hb
    rw [hb]; exact Or.inr ⟨rfl, z1⟩
/-- facts of the messages -/
theorem cl_post {Φ : pMsg → Prop} (hE : eOk E) (h3 : ∀ b : pMsg, b.1 = 3 → Φ b) (h8 : ∀ a b : pMsg, Φ a → a.1 = 6 → b.1 = 8 → Φ b) : cl E e (fun s => ∀ b ∈ s.2.1, Φ b) := by
  intro s a r h hs p
  have hr : ∀ b ∈ r, Φ b := fun b hb => p b (by rw [hs]; exact List.mem_cons_of_mem _ hb)
  have ha : Φ a := p a (by rw [hs]; exact List.mem_cons_self)
  refine go_elim hE h hs (fun s => ∀ b ∈ s.2.1, Φ b) (fun _ _ => hr) (fun _ => hr) (fun x' t _ _ _ _ hc _ _ => ?_)
  intro b hb
  rcases List.mem_append.mp hb with z | z
  · exact hr b z
  · rcases rep_kind hc z with w | ⟨w, w6⟩
    · exact h3 b w
    · exact h8 a b ha w6 w
/-- all reports of m say so -/
def rpP (m : Nat) (Φ : Nat → Nat → Prop) (b : pMsg) : Prop := b.1 = 5 → b.2.1 = m → Φ b.2.2.2.2.1 b.2.2.2.2.2
theorem cl_rp (hE : eOk E) (m : Nat) (Φ : Nat → Nat → Prop) : cl E e (fun s => ∀ b ∈ s.2.1, rpP m Φ b) :=
  cl_post hE (fun b h z => by omega) (fun a b _ _ h z => by omega)
/-- what is noted of m -/
theorem cl_note (hE : eOk E) (n : Nat) {m : Nat} (hm : m < 10) (Φ : Nat → Nat → Prop) : cl E e (fun s => (∀ b ∈ s.2.1, rpP m Φ b) ∧ Φ (s.1 n (30 + m)) (s.1 n (40 + m))) := by
  intro s a r h hs p
  refine ⟨cl_rp hE m Φ s a r h hs p.1, ?_⟩
  have ha := p.1 a (by rw [hs]; exact List.mem_cons_self)
  refine go_elim hE h hs (fun s => Φ (s.1 n (30 + m)) (s.1 n (40 + m))) (fun _ _ => p.2) (fun _ => p.2) (fun x' t _ _ _ hf _ _ _ => ?_)
  show Φ (va_up s.1 a.2.2.1 x' n (30 + m)) (va_up s.1 a.2.2.1 x' n (40 + m))
  by_cases q : n = a.2.2.1
  · subst q
    rw [va_up_self]
    rcases hf.2.2.2.2.2.2.2.2.1 m hm with ⟨z1, z2⟩ | ⟨z1, z2, z3, z4⟩
    · rw [z1, z2]; exact p.2
    · rw [z3, z4]; exact ha z1 z2
  · rw [va_up_ne _ _ q]; exact p.2
/-- the desk and the keeper of the maps -/
theorem cl_y (hE : eOk E) {Φ : pN → Prop} (h1 : ∀ (y : pN) (n : Nat), n < eN E → Φ y → Φ (pu y (20 + n) (max (y (20 + n)) e))) (h3 : ∀ (y : pN) (j : Nat), j < 8 → Φ y → Φ (pu y (40 + j) 1)) : cl E e (fun s => Φ s.2.2) := by
  intro s a r h hs p
  refine go_elim hE h hs (fun s => Φ s.2.2) (fun _ hn => h1 _ _ hn p) (fun _ => ?_) (fun x' t _ _ _ _ _ _ _ => p)
  show Φ (if _ then _ else s.2.2)
  split
  · exact h3 _ _ (Nat.mod_lt _ (by omega)) p
  · exact p
theorem cl_yn (hE : eOk E) {n : Nat} (hn : n < 10) : cl E e (fun s => s.2.2 (20 + n) = e ∧ s.2.2 0 = e) := by
  have hN7 := hE.2.1
  refine cl_y (Φ := fun y => y (20 + n) = e ∧ y 0 = e) hE (fun y k hk p => ?_) (fun y j hj p => ?_)
  · rw [pu_ne _ _ (show 0 ≠ 20 + k by omega)]
    refine ⟨?_, p.2⟩
    by_cases q : n = k
    · subst q
      rw [pu_self, p.1]
      omega
    · rw [pu_ne _ _ (by omega)]; exact p.1
  · rw [pu_ne _ _ (by omega), pu_ne _ _ (by omega)]; exact p
theorem cl_ar (hE : eOk E) {i : Nat} (hi : i < 8) : cl E e (fun s => s.2.2 (40 + i) = 1) := by
  have hN7 := hE.2.1
  refine cl_y (Φ := fun y => y (40 + i) = 1) hE (fun y k hk p => ?_) (fun y j hj p => ?_)
  · rw [pu_ne _ _ (by omega)]; exact p
  · by_cases q : i = j
    · subst q; rw [pu_self]
    · rw [pu_ne _ _ (by omega)]; exact p
theorem cl_gt (hE : eOk E) (v w : Nat) : cl E e (fun s => s.2.2 1 = v ∧ s.2.2 2 = w) := by
  have hN7 := hE.2.1
  refine cl_y (Φ := fun y => y 1 = v ∧ y 2 = w) hE (fun y k hk p => ?_) (fun y j hj p => ?_)
  · rw [pu_ne _ _ (by omega), pu_ne _ _ (by omega)]; exact p
  · rw [pu_ne _ _ (by omega), pu_ne _ _ (by omega)]; exact p
/-- no flag comes without its message -/
theorem cl_f2 (hE : eOk E) (n : Nat) : cl E e (fun s => (∀ b ∈ s.2.1, b.1 ≠ 0) ∧ s.1 n 2 ≠ 1) := by
  intro s a r h hs p
  refine ⟨cl_post (Φ := fun b => b.1 ≠ 0) hE (fun b h => by omega) (fun a b _ _ h => by omega) s a r h hs p.1, ?_⟩
  have ha := p.1 a (by rw [hs]; exact List.mem_cons_self)
  refine go_elim hE h hs (fun s => s.1 n 2 ≠ 1) (fun _ _ => p.2) (fun _ => p.2) (fun x' t _ _ _ hf _ _ _ => ?_)
  show va_up s.1 a.2.2.1 x' n 2 ≠ 1
  by_cases q : n = a.2.2.1
  · subst q
    rw [va_up_self]
    intro z
    rcases hf.2.2.2.1 z with w | w
    · exact p.2 w
    · exact ha w
  · rw [va_up_ne _ _ q]; exact p.2
theorem cl_f3 (hE : eOk E) (n : Nat) : cl E e (fun s => (∀ b ∈ s.2.1, b.1 = 5 ∨ b.1 = 3) ∧ s.1 n 3 ≠ 1) := by
  intro s a r h hs p
  have ha := p.1 a (by rw [hs]; exact List.mem_cons_self)
  refine ⟨cl_post (Φ := fun b => b.1 = 5 ∨ b.1 = 3) hE (fun b h => Or.inr h) (fun a b h1 h2 h => by omega) s a r h hs p.1, ?_⟩
  refine go_elim hE h hs (fun s => s.1 n 3 ≠ 1) (fun _ _ => p.2) (fun _ => p.2) (fun x' t _ _ _ hf _ _ _ => ?_)
  show va_up s.1 a.2.2.1 x' n 3 ≠ 1
  by_cases q : n = a.2.2.1
  · subst q
    rw [va_up_self]
    intro z
    rcases hf.2.2.2.2.1 z with w | w
    · exact p.2 w
    · omega
  · rw [va_up_ne _ _ q]; exact p.2
/-- the turn: a tick, then all arrives -/
def pTurn (E : pE) (u : pSt) : pSt := pBA E 1000000 (pTick E u)
def K0 (E : pE) (e : Nat) (u : pSt) : Prop := RG E e u ∧ u.2.1 = []
theorem K0.wt (hE : eOk E) (h : K0 E e u) : wt (pTick E u).2.1 ≤ 1000000 := by
  have := (wt_len (pTick E u).2.1).2
  have := (h.1.sent hE h.2).2
  omega
theorem K0.turn (hE : eOk E) (h : K0 E e u) : K0 E e (pTurn E u) :=
  ⟨(cl.keep (P := fun _ => True) hE (fun _ _ _ _ _ _ => trivial) 1000000 (h.1.tick hE h.2) trivial).1, pBA_empty _ _ (h.wt hE)⟩
theorem K0.keep {P : pSt → Prop} (hE : eOk E) (h : K0 E e u) (hP : cl E e P) (p : P (pTick E u)) : P (pTurn E u) := (hP.keep hE 1000000 (h.1.tick hE h.2) p).2
theorem K0.reach {P Q : pSt → Prop} (hE : eOk E) (h : K0 E e u) (hP : cl E e P) (hQ : cl E e (fun s => P s ∧ Q s)) (p : P (pTick E u)) (ha : a ∈ (pTick E u).2.1) (hit : ∀ (s : pSt) (r : List pMsg), RG E e s → s.2.1 = a :: r → P s → Q (pGo E s 0 a)) : Q (pTurn E u) :=
  pBA_reach hE hP hQ hit 1000000 _ (h.1.tick hE h.2) p ha (h.wt hE)
/-- the fields behind a tick -/
theorem tick_n {n : Nat} (h : RG E e u) (hn : n < eN E) (hl : n ≠ eL E e) : (pTick E u).1 n = pu (pFl (u.1 n)) 3 0 := by
  show pWn E u.1 (eN E) n = _
  unfold pWn
  rw [if_pos hn, pWork_eq _ _ _ (h.2.1.2.1 n hn), if_neg (by rw [pFl_hi _ (by omega), h.2.2.1 n hn]; exact fun z => hl z.symm)]
theorem tick_l (h : RG E e u) (hl : eL E e < eN E) : (pTick E u).1 (eL E e) = pu (pL3 E (eL E e) (pFl (u.1 (eL E e)))) 3 0 := by
  show pWn E u.1 (eN E) (eL E e) = _
  unfold pWn
  rw [if_pos hl, pWork_eq _ _ _ (h.2.1.2.1 _ hl), if_pos (by rw [pFl_hi _ (by omega), h.2.2.1 _ hl])]
  rfl
theorem tick_ne {n j : Nat} (h : RG E e u) (hn : n < eN E) (hl : n ≠ eL E e) (hj : 10 ≤ j ∨ j = 0 ∨ j = 4 ∨ j = 5 ∨ j = 6) : (pTick E u).1 n j = u.1 n j := by
  rw [tick_n h hn hl, pu_ne _ _ (by omega), pFl_hi _ (by omega)]
theorem tick_lne {j : Nat} (h : RG E e u) (hl : eL E e < eN E) (hj : j = 4 ∨ j = 6 ∨ (20 ≤ j ∧ j ≠ 20 + eL E e ∧ j ≠ 30 + eL E e ∧ j ≠ 40 + eL E e)) : (pTick E u).1 (eL E e) j = u.1 (eL E e) j := by
  rw [tick_l h hl, pu_ne _ _ (by omega), pL3_ne _ _ _ (by omega) (by omega) (by omega) (by omega) (by omega) (by omega) (by omega), pFl_hi _ (by omega)]
/-- a node's flags behind a tick -/
theorem tick_2 {n : Nat} (h : RG E e u) (hn : n < eN E) (hl : eL E e < eN E) : (pTick E u).1 n 2 ≠ 1 ∧ (pTick E u).1 n 3 ≠ 1 := by
  have f2 : pFl (u.1 n) 2 ≠ 1 := by
    unfold pFl
    split
    · rw [pu_self]; omega
    · rename_i q; exact q
  by_cases q : n = eL E e
  · subst q
    rw [tick_l h hl]
    refine ⟨?_, by rw [pu_self]; omega⟩
    rw [pu_ne _ _ (by omega), pL3_ne _ _ _ (by omega) (by omega) (by omega) (by omega) (by omega) (by omega) (by omega)]
    exact f2
  · rw [tick_n h hn q]
    exact ⟨by rw [pu_ne _ _ (by omega)]; exact f2, by rw [pu_self]; omega⟩
/-- a message of a node's work is under way -/
theorem K0.sent (hE : eOk E) (h : K0 E e u) {n : Nat} (hn : n < eN E) (ha : a ∈ (pWork E n (u.1 n)).2) : a ∈ (pTick E u).2.1 := (h.1.mem hE h.2).mpr (Or.inr (Or.inr ⟨n, hn, ha⟩))
theorem K0.guide (hE : eOk E) (h : K0 E e u) (hl : eL E e < eN E) {k : Nat} (hk : k < eN E) (hkl : k ≠ eL E e) (ha : a ∈ pGuide E (eL E e) (pL3 E (eL E e) (pFl (u.1 (eL E e)))) k) : a ∈ (pTick E u).2.1 := by
  refine h.sent hE hl ?_
  rw [pWork_eq _ _ _ (h.1.2.1.2.1 _ hl), if_pos (by rw [pFl_hi _ (by omega), h.1.2.2.1 _ hl])]
  refine List.mem_append.mpr (Or.inr ?_)
  rw [lead_eq]
  refine List.mem_append.mpr (Or.inr (List.mem_flatMap.mpr ⟨k, List.mem_range.mpr hk, ?_⟩))
  rw [if_neg hkl]
  exact ha
/-- the reports that a tick sends -/
theorem K0.reps (hE : eOk E) (h : K0 E e u) (ha : a ∈ (pTick E u).2.1) (h5 : a.1 = 5) : a.2.1 < eN E ∧ a.2.1 ≠ eL E e ∧ a = (5, a.2.1, eL E e, e, u.1 a.2.1 6, u.1 a.2.1 5) ∧ u.1 a.2.1 3 = 1 := by
  rcases (h.1.mem hE h.2).mp ha with z | z | ⟨n, hn, z⟩
  · obtain ⟨k, -, -, rfl⟩ := mem_proc _ z; cases h5
  · obtain ⟨-, k, -, -, rfl⟩ := mem_reqs _ z; cases h5
  · have h4 := h.1.2.2.1 n hn
    rcases work_cases (h.1.2.1.2.1 n hn) z with ⟨rfl, -⟩ | ⟨ql, w⟩ | ⟨q1, q2, q3, rfl⟩
    · cases h5
    · rcases lead_cases w with ⟨rfl, -⟩ | ⟨i, rfl⟩ | ⟨k, -, -, hg⟩
      · cases h5
      · cases h5
      · rcases guide_cases hg with ⟨rfl, -⟩ | ⟨-, g2, -⟩ | ⟨rfl, -⟩
        · cases h5
        · omega
        · cases h5
    · rw [h4] at q1 ⊢
      exact ⟨hn, fun w => q1 w.symm, rfl, q2⟩
/-- a report that a tick sends -/
theorem K0.rep (hE : eOk E) (h : K0 E e u) (hl : eL E e < eN E) {m : Nat} (hm : m < eN E) (hml : m ≠ eL E e) (h3 : u.1 m 3 = 1) : ((5, m, eL E e, e, u.1 m 6, u.1 m 5) : pMsg) ∈ (pTick E u).2.1 := by
  have hN7 := hE.2.1
  refine h.sent hE hm ?_
  have h4 := h.1.2.2.1 m hm
  rw [pWork_eq _ _ _ (h.1.2.1.2.1 _ hm), pFl_hi _ (j := 4) (by omega), h4, if_neg (fun z => hml z.symm)]
  refine List.mem_append.mpr (Or.inr ?_)
  rw [pFl_hi _ (j := 3) (by omega), pFl_hi _ (j := 5) (by omega), pFl_hi _ (j := 6) (by omega), if_pos ⟨h3, by omega⟩]
  exact List.mem_singleton.mpr rfl
end FACTS
