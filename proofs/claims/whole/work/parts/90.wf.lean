/-! Well-formed states; what arrives keeps them and keeps them safe. -/
/-- the facts of a choice of keepers -/
def keepB (N C set : Nat) : Bool := (pKeep N C set == 0 || pCount N (pKeep N C set) == C) && (decide (pKeep N C set < 2 ^ N) && ((pGr N (pKeep N C set) == 99 && pKeep N C set == 0) || (decide (pGr N (pKeep N C set) < N) && (pKeep N C set).testBit (pGr N (pKeep N C set)))))
theorem keepB_ok : ∀ N, N < 7 → 3 ≤ N → ∀ C, C < 4 → 2 ≤ C → ∀ set, set < 64 → keepB N C set = true := by decide +kernel
theorem keep_ok (N : Nat) (h1 : N < 7) (h2 : 3 ≤ N) (C : Nat) (h3 : C < 4) (h4 : 2 ≤ C) (set : Nat) (h5 : set < 64) : (pKeep N C set = 0 ∨ pCount N (pKeep N C set) = C) ∧ pKeep N C set < 2 ^ N ∧ ((pGr N (pKeep N C set) = 99 ∧ pKeep N C set = 0) ∨ (pGr N (pKeep N C set) < N ∧ (pKeep N C set).testBit (pGr N (pKeep N C set)) = true)) := by
  have h := keepB_ok N h1 h2 C h3 h4 set h5
  simpa [keepB] using h
/-- what is fixed is as it should be -/
def eOk (E : pE) : Prop := 3 ≤ eN E ∧ eN E < 7 ∧ 2 ≤ eC E ∧ eC E ≤ 3 ∧ ∀ e, E.2.2 e < 64
theorem eOk.keep {E : pE} (h : eOk E) (e : Nat) : (eM E e = 0 ∨ pCount (eN E) (eM E e) = eC E) ∧ eM E e < 2 ^ eN E ∧ ((eL E e = 99 ∧ eM E e = 0) ∨ (eL E e < eN E ∧ (eM E e).testBit (eL E e) = true)) :=
  keep_ok (eN E) h.2.1 h.1 (eC E) (by have := h.2.2.2.1; omega) h.2.2.1 (E.2.2 e) (h.2.2.2.2 e)
theorem eOk.lt {E : pE} (h : eOk E) {e n : Nat} (hk : eK E e n) : n < eN E := by
  rcases Nat.lt_or_ge n (eN E) with q | q
  · exact q
  · have h2 := (h.keep e).2.1
    have h3 : eM E e < 2 ^ n := Nat.lt_of_lt_of_le h2 (Nat.pow_le_pow_right (by omega) q)
    unfold eK at hk
    rw [Nat.testBit_lt_two_pow h3] at hk
    cases hk
theorem eOk.lead {E : pE} (h : eOk E) {e n : Nat} (hl : eL E e = n) (hn : n < 99) : eK E e n := by
  rcases (h.keep e).2.2 with ⟨q, -⟩ | ⟨-, q⟩
  · omega
  · rw [hl] at q
    exact q
/-- a node's numbers -/
def nW (g : Nat) (x : pN) : Prop := (x 0 ≤ 1 ∧ x 10 ≤ 1) ∧ x 5 ≤ x 6 ∧ x 6 ≤ x 5 + 8 ∧ x 6 ≤ g ∧ x 8 ≤ x 9 ∧ x 9 ≤ x 8 + 8 ∧ x 9 ≤ g ∧ (x 1 ≠ 1 → x 7 = x 4 ∧ x 8 = x 5 ∧ x 9 = x 6) ∧ (∀ m, m < 10 → x (30 + m) ≤ 512 ∧ x (40 + m) ≤ 512)
/-- a message's numbers -/
def mW (E : pE) (g : Nat) (m : pMsg) : Prop := mOk E m ∧ (m.1 = 7 ∨ m.1 = 8 → m.2.2.2.2.2 ≤ m.2.2.2.2.1 ∧ m.2.2.2.2.1 ≤ m.2.2.2.2.2 + 8 ∧ m.2.2.2.2.1 ≤ g) ∧ (m.1 = 2 ∨ m.1 = 3 → m.2.2.2.2.1 < g)
/-- nodes and messages: well-formed and safe; c bounds what is done -/
def JJ (E : pE) (ep g : Nat) (nd : Nat → pN) (post : List pMsg) (rep : Nat → Nat → Nat) (c : Nat) : Prop := pI E ep nd post rep c ∧ (∀ n, nW g (nd n)) ∧ ∀ m ∈ post, mW E g m
def JS (E : pE) (s : pSt) : Prop := s.2.2 0 < 1000000 ∧ s.2.2 1 ≤ 512 ∧ s.2.2 2 ≤ s.2.2 1 ∧ s.2.2 1 ≤ s.2.2 2 + 8 ∧ (∀ n, n < 10 → s.2.2 (20 + n) ≤ s.2.2 0) ∧ ∃ rep c, JJ E (s.2.2 0) (s.2.2 1) s.1 s.2.1 rep c ∧ s.2.2 2 ≤ c ∧ ∀ i, s.2.2 2 ≤ i → i < s.2.2 1 → s.2.2 (40 + i % 8) = 1 → i < c
section HEARJ
variable {E : pE} {ep g : Nat} {nd : Nat → pN} {post post' : List pMsg} {rep : Nat → Nat → Nat} {c n : Nat} {x' : pN}
theorem nW_up (h : ∀ n, nW g (nd n)) (hx : nW g x') : ∀ k, nW g (va_up nd n x' k) := by
  intro k
  by_cases q : k = n
  · subst q; rw [va_up_self]; exact hx
  · rw [va_up_ne _ _ q]; exact h k
theorem JJ.sub (h : JJ E ep g nd post rep c) (hp : ∀ m ∈ post', m ∈ post) : JJ E ep g nd post' rep c :=
  ⟨h.1.post (fun m hm => Or.inl (hp m hm)), h.2.1, fun m hm => h.2.2 m (hp m hm)⟩
/-- messages may be added -/
theorem JJ.add (h : JJ E ep g nd post rep c) (hp : ∀ m ∈ post', m ∈ post ∨ (pIm E nd rep c m ∧ m.2.2.2.1 ≤ ep ∧ mW E g m)) : JJ E ep g nd post' rep c := by
  refine ⟨h.1.post (fun m hm => ?_), h.2.1, fun m hm => ?_⟩
  · rcases hp m hm with q | q
    · exact Or.inl q
    · exact Or.inr ⟨q.1, q.2.1⟩
  · rcases hp m hm with q | q
    · exact h.2.2 m q
    · exact q.2.2
theorem mem_send {p a : List pMsg} {m : pMsg} (h : m ∈ pSend p a) : m ∈ p ∨ m ∈ a := List.mem_append.mp (List.mem_of_mem_take h)
theorem JJ.send {a : List pMsg} (h : JJ E ep g nd post rep c) (hp : ∀ m ∈ a, pIm E nd rep c m ∧ m.2.2.2.1 ≤ ep ∧ mW E g m) : JJ E ep g nd (pSend post a) rep c :=
  h.add (fun m hm => (mem_send hm).imp id (fun z => hp m z))
theorem pIm_plain {m : pMsg} (h5 : m.1 ≠ 5) (h9 : m.1 ≠ 9) (h7 : m.1 ≠ 7) (h8 : m.1 ≠ 8) (h3 : m.1 ≠ 3) : pIm E nd rep c m :=
  ⟨fun q => absurd q h5, fun q => absurd q h9, fun q => by rcases q with q | q <;> contradiction, fun q => absurd q h3⟩
end HEARJ
