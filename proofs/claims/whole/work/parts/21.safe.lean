/-! Safety: what was done once is never lost. Ghosts: rep n e, the most that n has reported (flushed) in epoch e; c, a bound of all that was done anywhere. -/
def pNM (E : pE) (nd : Nat → pN) (rep : Nat → Nat → Nat) (e b : Nat) : Prop := ∃ n, eK E e n ∧ e < nd n 7 ∧ rep n e ≤ b
def pSafe (E : pE) (nd : Nat → pN) (rep : Nat → Nat → Nat) (e : Nat) : Prop := ∃ b, (∀ m, eK E e m → b ≤ rep m e) ∧ ∀ e', e' < e → (∃ m, eK E e' m) → pNM E nd rep e' b
/-- n was dropped in an epoch behind lo, up to hi -/
def pDr (E : pE) (nd : Nat → pN) (rep : Nat → Nat → Nat) (n lo hi : Nat) : Prop := ∃ e2, lo < e2 ∧ e2 ≤ hi ∧ ¬ eK E e2 n ∧ (∃ m, eK E e2 m) ∧ pSafe E nd rep e2
/-- n reported the end b in epoch e1 -/
def pRp (E : pE) (nd : Nat → pN) (rep : Nat → Nat → Nat) (n e1 b : Nat) : Prop := e1 ≤ nd n 7 ∧ (∀ e, e < e1 → eK E e n → rep n e ≤ b ∨ pDr E nd rep n e e1) ∧ (eK E e1 n → b ≤ rep n e1)
def pMono (nd nd' : Nat → pN) (rep rep' : Nat → Nat → Nat) : Prop := (∀ m, nd m 7 ≤ nd' m 7) ∧ (∀ m e, rep m e ≤ rep' m e) ∧ (∀ m e, e < nd m 7 → rep' m e = rep m e)
theorem pNM.mono {E : pE} {nd nd' : Nat → pN} {rep rep' : Nat → Nat → Nat} {e b b' : Nat} (h : pNM E nd rep e b) (hm : pMono nd nd' rep rep') (hb : b ≤ b') : pNM E nd' rep' e b' := by
  obtain ⟨n, h1, h2, h3⟩ := h
  exact ⟨n, h1, Nat.lt_of_lt_of_le h2 (hm.1 n), by rw [hm.2.2 n e h2]; omega⟩
theorem pSafe.mono {E : pE} {nd nd' : Nat → pN} {rep rep' : Nat → Nat → Nat} {e : Nat} (h : pSafe E nd rep e) (hm : pMono nd nd' rep rep') : pSafe E nd' rep' e := by
  obtain ⟨b, h1, h2⟩ := h
  exact ⟨b, fun m hk => Nat.le_trans (h1 m hk) (hm.2.1 m e), fun e' he hn => (h2 e' he hn).mono hm (Nat.le_refl b)⟩
theorem pDr.mono {E : pE} {nd nd' : Nat → pN} {rep rep' : Nat → Nat → Nat} {n lo hi hi' : Nat} (h : pDr E nd rep n lo hi) (hm : pMono nd nd' rep rep') (hh : hi ≤ hi') : pDr E nd' rep' n lo hi' := by
  obtain ⟨e2, h1, h2, h3, h4, h5⟩ := h
  exact ⟨e2, h1, Nat.le_trans h2 hh, h3, h4, h5.mono hm⟩
theorem pRp.mono {E : pE} {nd nd' : Nat → pN} {rep rep' : Nat → Nat → Nat} {n e1 b : Nat} (h : pRp E nd rep n e1 b) (hm : pMono nd nd' rep rep') : pRp E nd' rep' n e1 b := by
  obtain ⟨h1, h2, h3⟩ := h
  refine ⟨Nat.le_trans h1 (hm.1 n), fun e he hk => ?_, fun hk => Nat.le_trans (h3 hk) (hm.2.1 n e1)⟩
  rcases h2 e he hk with h | h
  · left
    rw [hm.2.2 n e (by omega)]
    exact h
  · exact Or.inr (h.mono hm (Nat.le_refl _))
theorem pMono.refl (nd : Nat → pN) (rep : Nat → Nat → Nat) : pMono nd nd rep rep := ⟨fun _ => Nat.le_refl _, fun _ _ => Nat.le_refl _, fun _ _ _ => rfl⟩
theorem pMono.trans {a b c : Nat → pN} {r s t : Nat → Nat → Nat} (h : pMono a b r s) (k : pMono b c s t) : pMono a c r t :=
  ⟨fun m => Nat.le_trans (h.1 m) (k.1 m), fun m e => Nat.le_trans (h.2.1 m e) (k.2.1 m e), fun m e he => by rw [k.2.2 m e (Nat.lt_of_lt_of_le he (h.1 m)), h.2.2 m e he]⟩
/-- node n, standing at x -/
def pIn (E : pE) (nd : Nat → pN) (rep : Nat → Nat → Nat) (c n : Nat) (x : pN) : Prop :=
  x 7 ≤ x 4 ∧ (∀ e, e ≤ x 4 → eK E e n → rep n e ≤ x 6 ∨ pDr E nd rep n e (x 4)) ∧ (∀ e, e ≤ x 7 → eK E e n → rep n e ≤ x 9 ∨ pDr E nd rep n e (x 7)) ∧
  (∀ m, m < eN E → x (20 + m) = 1 → pRp E nd rep m (x 4) (x (30 + m))) ∧
  (x 10 = 1 → eL E (x 4) = n ∧ x 11 ≤ x 6 ∧ ∀ e', e' < x 4 → (∃ m, eK E e' m) → pNM E nd rep e' (x 11)) ∧ x 5 ≤ c ∧ x 8 ≤ c
def pIm (E : pE) (nd : Nat → pN) (rep : Nat → Nat → Nat) (c : Nat) (m : pMsg) : Prop :=
  (m.1 = 5 → pRp E nd rep m.2.1 m.2.2.2.1 m.2.2.2.2.1) ∧ (m.1 = 9 → pSafe E nd rep m.2.2.2.1 ∧ ¬ eK E m.2.2.2.1 m.2.2.1 ∧ ∃ k, eK E m.2.2.2.1 k) ∧
  (m.1 = 7 ∨ m.1 = 8 → m.2.2.2.2.2 ≤ c) ∧ (m.1 = 3 → m.2.2.2.2.1 < c)
def pIc (E : pE) (rep : Nat → Nat → Nat) (c : Nat) : Prop := c = 0 ∨ ∃ e, (∃ m, eK E e m) ∧ ∀ m, eK E e m → c ≤ rep m e
/-- all of it; ep is the newest epoch -/
def pI (E : pE) (ep : Nat) (nd : Nat → pN) (post : List pMsg) (rep : Nat → Nat → Nat) (c : Nat) : Prop :=
  (∀ n, pIn E nd rep c n (nd n)) ∧ (∀ n e, nd n 7 < e → rep n e = 0) ∧ (∀ m ∈ post, pIm E nd rep c m) ∧ pIc E rep c ∧ (∀ n, nd n 4 ≤ ep) ∧ (∀ m ∈ post, m.2.2.2.1 ≤ ep)
theorem pIm.mono {E : pE} {nd nd' : Nat → pN} {rep rep' : Nat → Nat → Nat} {c c' : Nat} {m : pMsg} (h : pIm E nd rep c m) (hm : pMono nd nd' rep rep') (hc : c ≤ c') : pIm E nd' rep' c' m :=
  ⟨fun q => (h.1 q).mono hm, fun q => ⟨(h.2.1 q).1.mono hm, (h.2.1 q).2⟩, fun q => Nat.le_trans (h.2.2.1 q) hc, fun q => Nat.lt_of_lt_of_le (h.2.2.2 q) hc⟩
theorem pIn.mono {E : pE} {nd nd' : Nat → pN} {rep rep' : Nat → Nat → Nat} {c c' n : Nat} {x : pN} (h : pIn E nd rep c n x) (hm : pMono nd nd' rep rep') (hc : c ≤ c') (hr : ∀ e, rep' n e = rep n e) : pIn E nd' rep' c' n x := by
  obtain ⟨h1, h2, h3, h4, h5, h6, h7⟩ := h
  refine ⟨h1, fun e he hk => ?_, fun e he hk => ?_, fun m hm' hx => (h4 m hm' hx).mono hm, fun hx => ⟨(h5 hx).1, (h5 hx).2.1, fun e' he hn => ((h5 hx).2.2 e' he hn).mono hm (Nat.le_refl _)⟩, Nat.le_trans h6 hc, Nat.le_trans h7 hc⟩
  · rw [hr]
    exact (h2 e he hk).imp id (fun z => z.mono hm (Nat.le_refl _))
  · rw [hr]
    exact (h3 e he hk).imp id (fun z => z.mono hm (Nat.le_refl _))
/-- one node moves, rep may rise for it in its own flushed epoch; it may send -/
theorem pI.step {E : pE} {ep : Nat} {nd : Nat → pN} {post post' : List pMsg} {rep rep' : Nat → Nat → Nat} {c c' n : Nat} {x' : pN} (h : pI E ep nd post rep c) (hm : pMono nd (va_up nd n x') rep rep') (hc : c ≤ c') (hr : ∀ m e, m ≠ n → rep' m e = rep m e) (hz : ∀ e, x' 7 < e → rep' n e = 0)
    (hx : pIn E (va_up nd n x') rep' c' n x') (hp : ∀ m ∈ post', m ∈ post ∨ (pIm E (va_up nd n x') rep' c' m ∧ m.2.2.2.1 ≤ ep)) (hcom : pIc E rep' c') (he : x' 4 ≤ ep) : pI E ep (va_up nd n x') post' rep' c' := by
  obtain ⟨h1, h2, h3, h4, h5, h6⟩ := h
  refine ⟨fun k => ?_, fun k e hk => ?_, fun m hm' => ?_, hcom, fun k => ?_, fun m hm' => ?_⟩
  · by_cases hkn : k = n
    · subst hkn
      rw [va_up_self]
      exact hx
    · rw [va_up_ne nd x' hkn]
      exact (h1 k).mono hm hc (fun e => hr k e hkn)
  · by_cases hkn : k = n
    · subst hkn
      rw [va_up_self] at hk
      exact hz e hk
    · rw [va_up_ne nd x' hkn] at hk
      rw [hr k e hkn]
      exact h2 k e hk
  · rcases hp m hm' with h | h
    · exact (h3 m h).mono hm hc
    · exact h.1
  · by_cases hkn : k = n
    · subst hkn
      rw [va_up_self]
      exact he
    · rw [va_up_ne nd x' hkn]
      exact h5 k
  · rcases hp m hm' with h | h
    · exact h6 m h
    · exact h.2
/-- a move that changes no report, and keeps or raises the flushed epoch -/
theorem pMono.node {nd : Nat → pN} {rep : Nat → Nat → Nat} {n : Nat} {x' : pN} (h : nd n 7 ≤ x' 7) : pMono nd (va_up nd n x') rep rep := by
  refine ⟨fun m => ?_, fun _ _ => Nat.le_refl _, fun _ _ _ => rfl⟩
  by_cases hm : m = n
  · subst hm
    rw [va_up_self]
    exact h
  · rw [va_up_ne nd x' hm]
    exact Nat.le_refl _
theorem pI.quiet {E : pE} {ep : Nat} {nd : Nat → pN} {post post' : List pMsg} {rep : Nat → Nat → Nat} {c n : Nat} {x' : pN} (h : pI E ep nd post rep c) (h7 : nd n 7 ≤ x' 7)
    (hx : (pMono nd (va_up nd n x') rep rep) → pIn E (va_up nd n x') rep c n x') (hp : ∀ m ∈ post', m ∈ post ∨ (pIm E (va_up nd n x') rep c m ∧ m.2.2.2.1 ≤ ep)) (he : x' 4 ≤ ep) : pI E ep (va_up nd n x') post' rep c :=
  pI.step h (pMono.node h7) (Nat.le_refl _) (fun _ _ _ => rfl) (fun e hxe => h.2.1 n e (by omega)) (hx (pMono.node h7)) hp h.2.2.2.1 he
theorem va_up_up {α : Type} (f : Nat → α) (k : Nat) (v w : α) : va_up (va_up f k v) k w = va_up f k w := by
  funext j
  by_cases h : j = k <;> simp [va_up, h]
/-- what pIn looks at -/
theorem pIn.same {E : pE} {nd : Nat → pN} {rep : Nat → Nat → Nat} {c n : Nat} {x x' : pN} (h : pIn E nd rep c n x) (h4 : x' 4 = x 4) (h5 : x' 5 = x 5) (h6 : x' 6 = x 6) (h7 : x' 7 = x 7) (h8 : x' 8 = x 8) (h9 : x' 9 = x 9) (h10 : x' 10 = x 10) (h11 : x' 11 = x 11) (h20 : ∀ m, x' (20 + m) = x (20 + m)) (h30 : ∀ m, x' (30 + m) = x (30 + m)) : pIn E nd rep c n x' := by
  unfold pIn at h ⊢
  rw [h4, h5, h6, h7, h8, h9, h10, h11]
  refine ⟨h.1, h.2.1, h.2.2.1, fun m hm hx => ?_, h.2.2.2.2⟩
  rw [h20] at hx
  rw [h30]
  exact h.2.2.2.1 m hm hx
theorem pI.flush {E : pE} {ep : Nat} {nd : Nat → pN} {post : List pMsg} {rep : Nat → Nat → Nat} {c : Nat} (h : pI E ep nd post rep c) (n : Nat) : pI E ep (va_up nd n (pFlush (nd n))) post rep c := by
  obtain ⟨h1, h2, h3, h4, h5, h6, h7⟩ := h.1 n
  by_cases hd : nd n 1 = 1
  · have e : pFlush (nd n) = (fun j => if j = 7 then nd n 4 else if j = 8 then nd n 5 else if j = 9 then nd n 6 else if j = 1 then 0 else nd n j) := by simp [pFlush, hd]
    rw [e]
    refine h.quiet (by simpa using h1) (fun hm => ?_) (fun m hm => Or.inl hm) (by simpa using h.2.2.2.2.1 n)
    refine ⟨by simp, fun e he hk => ?_, fun e he hk => ?_, fun m hm' hx => ?_, fun hx => ?_, by simpa using h6, by simpa using h6⟩
    · exact (h2 e (by simpa using he) hk).imp (fun z => by simpa using z) (fun z => by simpa using z.mono hm (Nat.le_refl _))
    · exact (h2 e (by simpa using he) hk).imp (fun z => by simpa using z) (fun z => by simpa using z.mono hm (Nat.le_refl _))
    · have e20 : ∀ j, 10 ≤ j → (fun j => if j = 7 then nd n 4 else if j = 8 then nd n 5 else if j = 9 then nd n 6 else if j = 1 then 0 else nd n j) j = nd n j := fun j hj => by
        simp only
        rw [if_neg (by omega), if_neg (by omega), if_neg (by omega), if_neg (by omega)]
      rw [e20 (20 + m) (by omega)] at hx
      rw [e20 (30 + m) (by omega)]
      exact (h4 m hm' hx).mono hm
    · have := h5 (by simpa using hx)
      exact ⟨by simpa using this.1, by simpa using this.2.1, fun e' he hn => by simpa using (this.2.2 e' (by simpa using he) hn).mono hm (Nat.le_refl _)⟩
  · have e : pFlush (nd n) = nd n := by simp [pFlush, hd]
    rw [e]
    exact h.quiet (Nat.le_refl _) (fun hm => (h.1 n).mono hm (Nat.le_refl _) (fun _ => rfl)) (fun m hm => Or.inl hm) (h.2.2.2.2.1 n)
/-- a change of what pIn doesn't look at -/
theorem pI.same {E : pE} {ep : Nat} {nd : Nat → pN} {post post' : List pMsg} {rep : Nat → Nat → Nat} {c n : Nat} {x' : pN} (h : pI E ep nd post rep c) (h4 : x' 4 = nd n 4) (h5 : x' 5 = nd n 5) (h6 : x' 6 = nd n 6) (h7 : x' 7 = nd n 7) (h8 : x' 8 = nd n 8) (h9 : x' 9 = nd n 9) (h10 : x' 10 = nd n 10) (h11 : x' 11 = nd n 11) (h20 : ∀ m, x' (20 + m) = nd n (20 + m)) (h30 : ∀ m, x' (30 + m) = nd n (30 + m))
    (hp : ∀ m ∈ post', m ∈ post ∨ (pIm E nd rep c m ∧ m.2.2.2.1 ≤ ep)) : pI E ep (va_up nd n x') post' rep c := by
  have hm := pMono.node (nd := nd) (rep := rep) (n := n) (x' := x') (by rw [h7]; exact Nat.le_refl _)
  refine h.quiet (by rw [h7]; exact Nat.le_refl _) (fun hm => ((h.1 n).mono hm (Nat.le_refl _) (fun _ => rfl)).same h4 h5 h6 h7 h8 h9 h10 h11 h20 h30) (fun m hm' => ?_) (by rw [h4]; exact h.2.2.2.2.1 n)
  rcases hp m hm' with h | h
  · exact Or.inl h
  · exact Or.inr ⟨h.1.mono hm (Nat.le_refl _), h.2⟩
theorem pI.post {E : pE} {ep : Nat} {nd : Nat → pN} {post post' : List pMsg} {rep : Nat → Nat → Nat} {c : Nat} (h : pI E ep nd post rep c) (hp : ∀ m ∈ post', m ∈ post ∨ (pIm E nd rep c m ∧ m.2.2.2.1 ≤ ep)) : pI E ep nd post' rep c := by
  obtain ⟨h1, h2, h3, h4, h5, h6⟩ := h
  refine ⟨h1, h2, fun m hm => ?_, h4, h5, fun m hm => ?_⟩
  · rcases hp m hm with h | h
    · exact h3 m h
    · exact h.1
  · rcases hp m hm with h | h
    · exact h6 m h
    · exact h.2
/-- the end rises, within the epoch; done may rise up to c -/
theorem pI.rise {E : pE} {ep : Nat} {nd : Nat → pN} {post : List pMsg} {rep : Nat → Nat → Nat} {c n : Nat} {x' : pN} (h : pI E ep nd post rep c) (h4 : x' 4 = nd n 4) (h5 : x' 5 ≤ c) (h6 : nd n 6 ≤ x' 6) (h7 : x' 7 = nd n 7) (h8 : x' 8 = nd n 8) (h9 : x' 9 = nd n 9) (h10 : x' 10 = nd n 10) (h11 : x' 11 = nd n 11) (h20 : ∀ m, x' (20 + m) = nd n (20 + m)) (h30 : ∀ m, x' (30 + m) = nd n (30 + m)) : pI E ep (va_up nd n x') post rep c := by
  obtain ⟨g1, g2, g3, g4, g5, g6, g7⟩ := h.1 n
  refine h.quiet (by rw [h7]; exact Nat.le_refl _) (fun hm => ?_) (fun m hm => Or.inl hm) (by rw [h4]; exact h.2.2.2.2.1 n)
  unfold pIn
  rw [h4, h7, h8, h9, h10, h11]
  refine ⟨g1, fun e he hk => ?_, fun e he hk => (g3 e he hk).imp id (fun z => z.mono hm (Nat.le_refl _)), fun m hm' hx => ?_, fun hx => ⟨(g5 hx).1, Nat.le_trans (g5 hx).2.1 h6, fun e' he hn => ((g5 hx).2.2 e' he hn).mono hm (Nat.le_refl _)⟩, h5, g7⟩
  · exact (g2 e he hk).imp (fun z => Nat.le_trans z h6) (fun z => z.mono hm (Nat.le_refl _))
  · rw [h20] at hx
    rw [h30]
    exact (g4 m hm' hx).mono hm
/-- a drop of this epoch -/
theorem pI.drop {E : pE} {ep : Nat} {nd : Nat → pN} {post : List pMsg} {rep : Nat → Nat → Nat} {c n : Nat} {x' : pN} (h : pI E ep nd post rep c) (hs : pSafe E nd rep (nd n 4)) (hk : ¬ eK E (nd n 4) n) (hn : ∃ k, eK E (nd n 4) k) (hr : nd n 10 = 0) (h4 : x' 4 = nd n 4) (h5 : x' 5 = 0) (h7 : x' 7 = nd n 7) (h8 : x' 8 = nd n 8) (h9 : x' 9 = nd n 9) (h10 : x' 10 = nd n 10) (h20 : ∀ m, x' (20 + m) = nd n (20 + m)) (h30 : ∀ m, x' (30 + m) = nd n (30 + m)) : pI E ep (va_up nd n x') post rep c := by
  obtain ⟨g1, g2, g3, g4, g5, g6, g7⟩ := h.1 n
  refine h.quiet (by rw [h7]; exact Nat.le_refl _) (fun hm => ?_) (fun m hm => Or.inl hm) (by rw [h4]; exact h.2.2.2.2.1 n)
  unfold pIn
  rw [h4, h5, h7, h8, h9, h10]
  refine ⟨g1, fun e he hke => ?_, fun e he hk => (g3 e he hk).imp id (fun z => z.mono hm (Nat.le_refl _)), fun m hm' hx => ?_, (fun hx => by rw [hr] at hx; cases hx), Nat.zero_le _, g7⟩
  · by_cases hee : e = nd n 4
    · subst hee
      exact absurd hke hk
    · exact Or.inr ⟨nd n 4, by omega, Nat.le_refl _, hk, hn, hs.mono hm⟩
  · rw [h20] at hx
    rw [h30]
    exact (g4 m hm' hx).mono hm
/-- a node hears of a newer map -/
theorem pI.enter {E : pE} {ep : Nat} {nd : Nat → pN} {post : List pMsg} {rep : Nat → Nat → Nat} {c n e1 : Nat} {x' : pN} (h : pI E ep nd post rep c) (hlt : nd n 4 < e1) (hep : e1 ≤ ep) (h4 : x' 4 = e1) (h5 : x' 5 = nd n 5) (h6 : x' 6 = nd n 6) (h7 : x' 7 = nd n 7) (h8 : x' 8 = nd n 8) (h9 : x' 9 = nd n 9) (h10 : x' 10 = 0) (h20 : ∀ m, m < 10 → x' (20 + m) = 0) (hN : eN E ≤ 10) : pI E ep (va_up nd n x') post rep c := by
  obtain ⟨g1, g2, g3, g4, g5, g6, g7⟩ := h.1 n
  refine h.quiet (by rw [h7]; exact Nat.le_refl _) (fun hm => ?_) (fun m hm => Or.inl hm) (by rw [h4]; exact hep)
  unfold pIn
  rw [h4, h5, h6, h7, h8, h9, h10]
  refine ⟨by omega, fun e he hke => ?_, fun e he hk => (g3 e he hk).imp id (fun z => z.mono hm (Nat.le_refl _)), fun m hm' hx => ?_, (fun hx => by cases hx), g6, g7⟩
  · by_cases hee : e ≤ nd n 4
    · exact (g2 e hee hke).imp id (fun z => z.mono hm (by omega))
    · left
      rw [h.2.1 n e (by omega)]
      exact Nat.zero_le _
  · rw [h20 m (by omega)] at hx
    cases hx
/-- a node loses what it had not flushed -/
theorem pI.crash {E : pE} {ep : Nat} {nd : Nat → pN} {post : List pMsg} {rep : Nat → Nat → Nat} {c n : Nat} {x' : pN} (h : pI E ep nd post rep c) (h4 : x' 4 = nd n 7) (h5 : x' 5 = nd n 8) (h6 : x' 6 = nd n 9) (h7 : x' 7 = nd n 7) (h8 : x' 8 = nd n 8) (h9 : x' 9 = nd n 9) (h10 : x' 10 = 0) (h20 : ∀ m, m < 10 → x' (20 + m) = 0) (hN : eN E ≤ 10) : pI E ep (va_up nd n x') post rep c := by
  obtain ⟨g1, g2, g3, g4, g5, g6, g7⟩ := h.1 n
  have hep := h.2.2.2.2.1 n
  refine h.quiet (by rw [h7]; exact Nat.le_refl _) (fun hm => ?_) (fun m hm => Or.inl hm) (by rw [h4]; omega)
  unfold pIn
  rw [h4, h5, h6, h7, h8, h9, h10]
  refine ⟨Nat.le_refl _, fun e he hk => (g3 e he hk).imp id (fun z => z.mono hm (Nat.le_refl _)), fun e he hk => (g3 e he hk).imp id (fun z => z.mono hm (Nat.le_refl _)), fun m hm' hx => ?_, (fun hx => by cases hx), g7, g7⟩
  rw [h20 m (by omega)] at hx
  cases hx
def pRise (rep : Nat → Nat → Nat) (n e b : Nat) : Nat → Nat → Nat := fun m e' => if m = n ∧ e' = e then max (rep m e') b else rep m e'
/-- a node that has flushed reports: its end counts -/
theorem pI.report {E : pE} {ep : Nat} {nd : Nat → pN} {post : List pMsg} {rep : Nat → Nat → Nat} {c : Nat} (h : pI E ep nd post rep c) (n : Nat) (h7 : nd n 7 = nd n 4) (h9 : nd n 9 = nd n 6) : pI E ep nd post (pRise rep n (nd n 4) (nd n 6)) c ∧ pRp E nd (pRise rep n (nd n 4) (nd n 6)) n (nd n 4) (nd n 6) ∧ pMono nd nd rep (pRise rep n (nd n 4) (nd n 6)) := by
  obtain ⟨g1, g2, g3, g4, g5, g6, g7⟩ := h.1 n
  have hm : pMono nd nd rep (pRise rep n (nd n 4) (nd n 6)) := by
    refine ⟨fun _ => Nat.le_refl _, fun m e => ?_, fun m e he => ?_⟩
    · unfold pRise
      split
      · omega
      · exact Nat.le_refl _
    · unfold pRise
      rw [if_neg]
      rintro ⟨rfl, rfl⟩
      omega
  have hne : ∀ m e, m ≠ n → pRise rep n (nd n 4) (nd n 6) m e = rep m e := fun m e hmn => by
    unfold pRise
    rw [if_neg (fun z => hmn z.1)]
  have hlt : ∀ e, e ≠ nd n 4 → pRise rep n (nd n 4) (nd n 6) n e = rep n e := fun e he => by
    unfold pRise
    rw [if_neg (fun z => he z.2)]
  have heq : pRise rep n (nd n 4) (nd n 6) n (nd n 4) = max (rep n (nd n 4)) (nd n 6) := by
    unfold pRise
    rw [if_pos ⟨rfl, rfl⟩]
  have hown : eK E (nd n 4) n → rep n (nd n 4) ≤ nd n 6 := fun hk => by
    rcases g2 _ (Nat.le_refl _) hk with z | ⟨e2, z1, z2, -⟩
    · exact z
    · omega
  have hin : pIn E nd (pRise rep n (nd n 4) (nd n 6)) c n (nd n) := by
    refine ⟨g1, fun e he hk => ?_, fun e he hk => ?_, fun m hm' hx => (g4 m hm' hx).mono hm, fun hx => ⟨(g5 hx).1, (g5 hx).2.1, fun e' he hn => ((g5 hx).2.2 e' he hn).mono hm (Nat.le_refl _)⟩, g6, g7⟩
    · by_cases hee : e = nd n 4
      · subst hee
        left
        rw [heq]
        have := hown hk
        omega
      · rw [hlt e hee]
        exact (g2 e he hk).imp id (fun z => z.mono hm (Nat.le_refl _))
    · by_cases hee : e = nd n 4
      · subst hee
        left
        rw [heq]
        have := hown hk
        omega
      · rw [hlt e hee]
        exact (g3 e he hk).imp id (fun z => z.mono hm (Nat.le_refl _))
  refine ⟨⟨fun k => ?_, fun k e hk => ?_, fun m hm' => (h.2.2.1 m hm').mono hm (Nat.le_refl _), ?_, h.2.2.2.2⟩, ⟨by omega, fun e he hk => ?_, fun _ => by rw [heq]; omega⟩, hm⟩
  · by_cases hkn : k = n
    · subst hkn
      exact hin
    · exact (h.1 k).mono hm (Nat.le_refl _) (fun e => hne k e hkn)
  · by_cases hkn : k = n
    · subst hkn
      rw [hlt e (by omega)]
      exact h.2.1 k e hk
    · rw [hne k e hkn]
      exact h.2.1 k e hk
  · rcases h.2.2.2.1 with z | ⟨e, z1, z2⟩
    · exact Or.inl z
    · exact Or.inr ⟨e, z1, fun m hk => Nat.le_trans (z2 m hk) (hm.2.1 m e)⟩
  · rw [hlt e (by omega)]
    exact (g2 e (by omega) hk).imp id (fun z => z.mono hm (Nat.le_refl _))
/-- a node notes a report of its epoch -/
theorem pI.note {E : pE} {ep : Nat} {nd : Nat → pN} {post : List pMsg} {rep : Nat → Nat → Nat} {c n k b d : Nat} (h : pI E ep nd post rep c) (hk : k < 10) (hr : pRp E nd rep k (nd n 4) b) (hN : eN E ≤ 10) : pI E ep (va_up nd n (pNote (nd n) k b d)) post rep c := by
  obtain ⟨g1, g2, g3, g4, g5, g6, g7⟩ := h.1 n
  have lo : ∀ j, j < 20 → pNote (nd n) k b d j = nd n j := fun j hj => by
    unfold pNote
    rw [if_neg (by omega), if_neg (by omega), if_neg (by omega)]
  refine h.quiet (by rw [lo 7 (by omega)]; exact Nat.le_refl _) (fun hm => ?_) (fun m hm => Or.inl hm) (by rw [lo 4 (by omega)]; exact h.2.2.2.2.1 n)
  unfold pIn
  rw [lo 4 (by omega), lo 5 (by omega), lo 6 (by omega), lo 7 (by omega), lo 8 (by omega), lo 9 (by omega), lo 10 (by omega), lo 11 (by omega)]
  refine ⟨g1, fun e he hk => (g2 e he hk).imp id (fun z => z.mono hm (Nat.le_refl _)), fun e he hk => (g3 e he hk).imp id (fun z => z.mono hm (Nat.le_refl _)), fun m hm' hx => ?_, fun hx => ⟨(g5 hx).1, (g5 hx).2.1, fun e' he hn => ((g5 hx).2.2 e' he hn).mono hm (Nat.le_refl _)⟩, g6, g7⟩
  by_cases hmk : m = k
  · subst hmk
    have : pNote (nd n) m b d (30 + m) = b := by
      unfold pNote
      rw [if_neg (by omega), if_pos rfl]
    rw [this]
    exact hr.mono hm
  · have e1 : pNote (nd n) k b d (20 + m) = nd n (20 + m) := by
      unfold pNote
      rw [if_neg (by omega), if_neg (by omega), if_neg (by omega)]
    have e2 : pNote (nd n) k b d (30 + m) = nd n (30 + m) := by
      unfold pNote
      rw [if_neg (by omega), if_neg (by omega), if_neg (by omega)]
    rw [e1] at hx
    rw [e2]
    exact (g4 m hm' hx).mono hm
/-- who has heard a quorum and is as far as each of it lacks nothing of the epochs before -/
theorem pReady {E : pE} {ep : Nat} {nd : Nat → pN} {post : List pMsg} {rep : Nat → Nat → Nat} {c n b : Nat} (h : pI E ep nd post rep c) (hq : ∀ e, (∃ m, eK E e m) → ∃ m, m < eN E ∧ nd n (20 + m) = 1 ∧ eK E e m) (hle : ∀ m, m < eN E → nd n (20 + m) = 1 → nd n (30 + m) ≤ b) (hself : eK E (nd n 4) n) (hb : rep n (nd n 4) ≤ b) :
    ∀ (k e : Nat), e + k = nd n 4 → 0 < k → (∃ m, eK E e m) → pNM E nd rep e b := by
  intro k
  induction k using Nat.strongRecOn with
  | _ k ih =>
    intro e hek hk hne
    obtain ⟨m, hm, hx, hkm⟩ := hq e hne
    obtain ⟨r1, r2, r3⟩ := (h.1 n).2.2.2.1 m hm hx
    rcases r2 e (by omega) hkm with z | ⟨e2, z1, z2, z3, z4, b2, z5, z6⟩
    · exact ⟨m, hkm, by omega, Nat.le_trans z (hle m hm hx)⟩
    · have hb2 : b2 ≤ b := by
        by_cases hee : e2 = nd n 4
        · subst hee
          exact Nat.le_trans (z5 n hself) hb
        · obtain ⟨m2, w1, w2, w3⟩ := ih (nd n 4 - e2) (by omega) e2 (by omega) (by omega) z4
          exact Nat.le_trans (z5 m2 w1) w3
      obtain ⟨m3, v1, v2, v3⟩ := z6 e z1 hne
      exact ⟨m3, v1, v2, by omega⟩
theorem pI.ready {E : pE} {ep : Nat} {nd : Nat → pN} {post : List pMsg} {rep : Nat → Nat → Nat} {c n : Nat} {x' : pN} (h : pI E ep nd post rep c) (hl : eL E (nd n 4) = n) (hb : ∀ e, e < nd n 4 → (∃ m, eK E e m) → pNM E nd rep e (nd n 6)) (h4 : x' 4 = nd n 4) (h5 : x' 5 = nd n 5) (h6 : x' 6 = nd n 6) (h7 : x' 7 = nd n 7) (h8 : x' 8 = nd n 8) (h9 : x' 9 = nd n 9) (h11 : x' 11 = nd n 6) (h20 : ∀ m, x' (20 + m) = nd n (20 + m)) (h30 : ∀ m, x' (30 + m) = nd n (30 + m)) : pI E ep (va_up nd n x') post rep c := by
  obtain ⟨g1, g2, g3, g4, g5, g6, g7⟩ := h.1 n
  refine h.quiet (by rw [h7]; exact Nat.le_refl _) (fun hm => ?_) (fun m hm => Or.inl hm) (by rw [h4]; exact h.2.2.2.2.1 n)
  unfold pIn
  rw [h4, h5, h6, h7, h8, h9, h11]
  refine ⟨g1, fun e he hk => (g2 e he hk).imp id (fun z => z.mono hm (Nat.le_refl _)), fun e he hk => (g3 e he hk).imp id (fun z => z.mono hm (Nat.le_refl _)), fun m hm' hx => ?_, fun _ => ⟨hl, Nat.le_refl _, fun e' he hn => (hb e' he hn).mono hm (Nat.le_refl _)⟩, g6, g7⟩
  rw [h20] at hx
  rw [h30]
  exact (g4 m hm' hx).mono hm
/-- what the bound of the done is good for -/
theorem pI.com_le {E : pE} {ep : Nat} {nd : Nat → pN} {post : List pMsg} {rep : Nat → Nat → Nat} {c n : Nat} (h : pI E ep nd post rep c) (hr : nd n 10 = 1) (hk : eK E (nd n 4) n) (hep : nd n 4 = ep) : c ≤ nd n 6 := by
  rcases h.2.2.2.1 with z | ⟨e, ⟨m0, hm0⟩, z2⟩
  · omega
  · by_cases hc : c = 0
    · omega
    · have hpos := z2 m0 hm0
      have hle : e ≤ nd m0 7 := by
        rcases Nat.lt_or_ge (nd m0 7) e with q | q
        · rw [h.2.1 m0 e q] at hpos
          omega
        · exact q
      have h47 := (h.1 m0).1
      have hep0 := h.2.2.2.2.1 m0
      by_cases hee : e = nd n 4
      · subst hee
        rcases (h.1 n).2.1 _ (Nat.le_refl _) hk with q | ⟨e2, q1, q2, -⟩
        · exact Nat.le_trans (z2 n hk) q
        · omega
      · obtain ⟨-, b1, b2⟩ := (h.1 n).2.2.2.2.1 hr
        obtain ⟨m, v1, v2, v3⟩ := b2 e (by omega) ⟨m0, hm0⟩
        have := z2 m v1
        omega
/-- a leader does what all keepers hold -/
theorem pI.done {E : pE} {ep : Nat} {nd : Nat → pN} {post : List pMsg} {rep : Nat → Nat → Nat} {c n a : Nat} {x' : pN} (h : pI E ep nd post rep c) (hk : eK E (nd n 4) n) (ha : ∀ m, eK E (nd n 4) m → a ≤ rep m (nd n 4)) (h4 : x' 4 = nd n 4) (h5 : x' 5 ≤ max c a) (h6 : x' 6 = nd n 6) (h7 : x' 7 = nd n 7) (h8 : x' 8 = nd n 8) (h9 : x' 9 = nd n 9) (h10 : x' 10 = nd n 10) (h11 : x' 11 = nd n 11) (h20 : ∀ m, x' (20 + m) = nd n (20 + m)) (h30 : ∀ m, x' (30 + m) = nd n (30 + m)) : pI E ep (va_up nd n x') post rep (max c a) := by
  obtain ⟨g1, g2, g3, g4, g5, g6, g7⟩ := h.1 n
  have hm := pMono.node (nd := nd) (rep := rep) (n := n) (x' := x') (by rw [h7]; exact Nat.le_refl _)
  refine h.step hm (by omega) (fun _ _ _ => rfl) (fun e he => h.2.1 n e (by omega)) ?_ (fun m hm' => Or.inl hm') ?_ (by rw [h4]; exact h.2.2.2.2.1 n)
  · unfold pIn
    rw [h4, h6, h7, h8, h9, h10, h11]
    refine ⟨g1, fun e he hk => (g2 e he hk).imp id (fun z => z.mono hm (Nat.le_refl _)), fun e he hk => (g3 e he hk).imp id (fun z => z.mono hm (Nat.le_refl _)), fun m hm' hx => ?_, fun hx => ⟨(g5 hx).1, (g5 hx).2.1, fun e' he hn => ((g5 hx).2.2 e' he hn).mono hm (Nat.le_refl _)⟩, h5, by omega⟩
    rw [h20] at hx
    rw [h30]
    exact (g4 m hm' hx).mono hm
  · rcases Nat.le_total a c with q | q
    · rw [Nat.max_eq_left q]
      exact h.2.2.2.1
    · rw [Nat.max_eq_right q]
      exact Or.inr ⟨nd n 4, ⟨n, hk⟩, ha⟩
