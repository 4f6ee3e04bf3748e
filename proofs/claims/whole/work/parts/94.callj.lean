/-! The calls keep what is well-formed and safe. -/
section CALLJ
variable {E : pE} {nd : Nat → pN} {post : List pMsg} {y : pN} {n : Nat}
theorem JS.calm {v : Nat} (h : JS E (nd, post, y)) : JS E (nd, post, pu y 3 v) := by
  obtain ⟨y1, y2, y3, y4, y5, rep, c, h, h2, h3⟩ := h
  have e : ∀ j, j ≠ 3 → pu y 3 v j = y j := fun j hj => pu_ne _ _ hj
  unfold JS
  simp only
  rw [e 0 (by omega), e 1 (by omega), e 2 (by omega)]
  refine ⟨y1, y2, y3, y4, fun n hn => ?_, rep, c, h, h2, fun i i1 i2 i3 => ?_⟩
  · rw [e _ (by omega)]
    exact y5 n hn
  · rw [e _ (by omega)] at i3
    exact h3 i i1 i2 i3
theorem JS.fail {kept : Bool} (hE : eOk E) (h : JS E (nd, post, y)) : JS E (va_up nd n (pFail kept (nd n)), post, y) := by
  obtain ⟨y1, y2, y3, y4, y5, rep, c, h, h2, h3⟩ := h
  refine ⟨y1, y2, y3, y4, y5, rep, c, ?_, h2, h3⟩
  have h : JJ E (y 0) (y 1) nd post rep c := h
  show JJ E (y 0) (y 1) _ post rep c
  unfold pFail
  cases kept with
  | true =>
    rw [if_pos rfl]
    have j1 := h.flag (n := n) (f := 0) (v := 0) (Or.inr (Or.inr ⟨rfl, by omega⟩))
    have j2 := (j1.flush n).1
    rw [va_up_self, va_up_up] at j2
    exact j2
  | false =>
    rw [if_neg (by decide)]
    obtain ⟨w0, w1, w2, w3, w4, w5, w6, w7, w8⟩ := h.2.1 n
    have hN := hE.2.1
    refine ⟨h.1.crash rfl rfl rfl rfl rfl rfl rfl (fun m hm => ?_) (by omega), nW_up h.2.1 ⟨⟨Nat.zero_le _, Nat.zero_le _⟩, w4, w5, w6, w4, w5, w6, fun _ => ⟨rfl, rfl, rfl⟩, fun m hm => ?_⟩, h.2.2⟩
    · unfold pClear
      rw [if_pos (by omega)]
    · unfold pClear
      simp only
      rw [if_neg (by omega), if_neg (by omega), if_neg (by omega), if_neg (by omega), if_neg (by omega), if_neg (by omega), if_neg (by omega), if_neg (by omega), if_neg (by omega), if_neg (by omega), if_neg (by omega), if_neg (by omega)]
      exact w8 m hm
theorem JS.up (h : JS E (nd, post, y)) : JS E (va_up nd n (pu (nd n) 0 1), post, y) := by
  obtain ⟨y1, y2, y3, y4, y5, rep, c, h, h2, h3⟩ := h
  exact ⟨y1, y2, y3, y4, y5, rep, c, h.flag (Or.inr (Or.inr ⟨rfl, Nat.le_refl _⟩)), h2, h3⟩
theorem JS.ups (h : JS E (nd, post, y)) : ∀ k, JS E (pUps nd k, post, y) := by
  intro k
  induction k with
  | zero =>
    have e : pUps nd 0 = nd := by
      funext j
      unfold pUps
      rw [if_neg (by omega)]
    rw [e]
    exact h
  | succ k ih =>
    rw [pUps_succ]
    have := ih.up (n := k)
    have e : pUps nd k k = nd k := by
      unfold pUps
      rw [if_neg (by omega)]
    rw [e] at this
    exact this
theorem JJ.later {ep ep' g c : Nat} {rep : Nat → Nat → Nat} (h : JJ E ep g nd post rep c) (he : ep ≤ ep') : JJ E ep' g nd post rep c := by
  obtain ⟨⟨h1, h2, h3, h4, h5, h6⟩, h7⟩ := h
  exact ⟨⟨h1, h2, h3, h4, fun n => Nat.le_trans (h5 n) he, fun m hm => Nat.le_trans (h6 m hm) he⟩, h7⟩
/-- a new map -/
theorem JS.renew (h : JS E (nd, post, y)) (he : y 0 + 1 < 1000000) : JS E (nd, pSend post (pProc (y 0 + 1) (fun n => y (20 + n)) (eN E)), pu y 0 (y 0 + 1)) := by
  obtain ⟨y1, y2, y3, y4, y5, rep, c, h, h2, h3⟩ := h
  have e : ∀ j, j ≠ 0 → pu y 0 (y 0 + 1) j = y j := fun j hj => pu_ne _ _ hj
  unfold JS
  simp only
  rw [pu_self, e 1 (by omega), e 2 (by omega)]
  refine ⟨he, y2, y3, y4, fun n hn => ?_, rep, c, JJ.send (h.later (Nat.le_succ _)) (fun m hm => ?_), h2, fun i i1 i2 i3 => ?_⟩
  · rw [e _ (by omega)]
    exact Nat.le_succ_of_le (y5 n hn)
  · obtain ⟨k, hk, -, rfl⟩ := mem_proc _ hm
    exact map_ok he hk
  · rw [e _ (by omega)] at i3
    exact h3 i i1 i2 i3
theorem nW.later {g : Nat} {x : pN} (h : nW g x) : nW (g + 1) x := by
  obtain ⟨w0, w1, w2, w3, w4, w5, w6, w7, w8⟩ := h
  exact ⟨w0, w1, w2, by omega, w4, w5, by omega, w7, w8⟩
theorem mW.later {g : Nat} {m : pMsg} (h : mW E g m) : mW E (g + 1) m := by
  obtain ⟨w0, w1, w2⟩ := h
  exact ⟨w0, fun z => ⟨(w1 z).1, (w1 z).2.1, Nat.le_succ_of_le (w1 z).2.2⟩, fun z => Nat.lt_succ_of_lt (w2 z)⟩
/-- a command more -/
theorem JS.give (hE : eOk E) (h : JS E (nd, post, y)) (h8 : y 1 < y 2 + 8) (h512 : y 1 < 512) : JS E (nd, pSend post (pReq1 (eL E (y 0)) (y 0) (y 1)), pGiv y (y 1)) := by
  obtain ⟨y1, y2, y3, y4, y5, rep, c, h, h2, h3⟩ := h
  have h : JJ E (y 0) (y 1) nd post rep c := h
  have y1 : y 0 < 1000000 := y1
  have e : ∀ j, j ≠ 3 → j ≠ 1 → j ≠ 40 + y 1 % 8 → pGiv y (y 1) j = y j := fun j h1 h2 h3 => by rw [pGiv, pu_ne _ _ h3, pu_ne _ _ h2, pu_ne _ _ h1]
  have e1 : pGiv y (y 1) 1 = y 1 + 1 := by rw [pGiv, pu_ne _ _ (by omega), pu_self]
  unfold JS
  simp only
  rw [e 0 (by omega) (by omega) (by omega), e1, e 2 (by omega) (by omega) (by omega)]
  have y3 : y 2 ≤ y 1 := y3
  refine ⟨y1, by omega, by omega, by omega, fun n hn => ?_, rep, c, ?_, h2, fun i i1 i2 i3 => ?_⟩
  · rw [e _ (by omega) (by omega) (by omega)]
    exact y5 n hn
  · have j1 : JJ E (y 0) (y 1 + 1) nd post rep c := ⟨h.1, fun n => (h.2.1 n).later, fun m hm => (h.2.2 m hm).later⟩
    refine j1.send (fun m hm => ?_)
    unfold pReq1 at hm
    by_cases q : eL E (y 0) = 99
    · rw [if_pos q] at hm; cases hm
    · rw [if_neg q] at hm
      have hm : m = (2, 99, eL E (y 0), y 0, y 1, 0) := by simpa using hm
      subst hm
      exact cmd_ok hE y1 (by omega) (by omega) q
  · by_cases z : i = y 1
    · subst z
      rw [pGiv, pu_self] at i3
      cases i3
    · rw [e _ (by omega) (by omega) (by omega)] at i3
      exact h3 i i1 (by simp only; omega) i3
/-- settled: all answers told -/
theorem JS.tell (h : JS E (nd, post, y)) (hd : ∀ i, y 2 ≤ i → i < y 1 → y (40 + i % 8) = 1) : JS E (nd, post, pu (pu y 2 (y 1)) 3 1) := by
  obtain ⟨y1, y2, y3, y4, y5, rep, c, h, h2, h3⟩ := h
  refine JS.calm ?_
  have y3 : y 2 ≤ y 1 := y3
  have h2 : y 2 ≤ c := h2
  have hc : y 1 ≤ c := by
    by_cases q : y 2 < y 1
    · have := h3 (y 1 - 1) (by simp only; omega) (by simp only; omega) (hd _ (by omega) (by omega))
      omega
    · omega
  have e : ∀ j, j ≠ 2 → pu y 2 (y 1) j = y j := fun j hj => pu_ne _ _ hj
  unfold JS
  simp only
  rw [e 0 (by omega), e 1 (by omega), pu_self]
  refine ⟨y1, y2, Nat.le_refl _, by omega, fun n hn => ?_, rep, c, h, hc, fun i i1 i2 i3 => by omega⟩
  rw [e _ (by omega)]
  exact y5 n hn
/-- the beginning -/
theorem JS.zero : JS E (fun _ => pN0, [], pY0) := by
  have hz : ∀ j, 8 ≤ j → pN0 j = 0 := fun j hj => by
    unfold pN0
    rw [if_neg (by omega)]
  have h5 : pN0 5 = 0 := by decide
  have h6 : pN0 6 = 0 := by decide
  have h4 : pN0 4 = 1 := by decide
  have h7 : pN0 7 = 1 := by decide
  have h1 : pN0 1 = 0 := by decide
  have h0 : pN0 0 = 1 := by decide
  have k0 : pY0 0 = 1 := by decide
  have k1 : pY0 1 = 0 := by decide
  have k2 : pY0 2 = 0 := by decide
  unfold JS
  simp only
  rw [k0, k1, k2]
  refine ⟨by omega, by omega, by omega, by omega, fun n hn => ?_, fun _ _ => 0, 0, ⟨⟨fun n => ?_, fun n e _ => rfl, (fun m hm => by cases hm), Or.inl rfl, fun n => ?_, (fun m hm => by cases hm)⟩, fun n => ?_, (fun m hm => by cases hm)⟩, by omega, fun i i1 i2 i3 => by omega⟩
  · unfold pY0
    rw [if_pos (by omega)]
    exact Nat.le_refl _
  · unfold pIn
    simp only
    rw [h5, h6, h4, h7, hz 8 (by omega), hz 9 (by omega), hz 10 (by omega)]
    refine ⟨Nat.le_refl _, fun e he hk => Or.inl (Nat.zero_le _), fun e he hk => Or.inl (Nat.zero_le _), fun m hm hx => ?_, (fun hx => by cases hx), Nat.le_refl _, Nat.le_refl _⟩
    rw [hz _ (by omega)] at hx
    cases hx
  · simp only
    rw [h4]
    exact Nat.le_refl _
  · unfold nW
    simp only
    rw [h5, h6, h4, h7, hz 8 (by omega), hz 9 (by omega), hz 10 (by omega), h0, h1]
    refine ⟨by omega, by omega, by omega, by omega, by omega, by omega, by omega, by omega, fun m hm => ?_⟩
    rw [hz _ (by omega), hz _ (by omega)]
    omega
end CALLJ
