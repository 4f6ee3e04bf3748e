/-! A message comes to a node. -/
section HEARK
variable {E : pE} {ep g : Nat} {nd : Nat → pN} {post : List pMsg} {rep : Nat → Nat → Nat} {c n : Nat} {m : pMsg}
theorem fol_w {w : Bool} {k b d e : Nat} (h1 : k ≤ e) (h2 : e ≤ k + 8) (h3 : d ≤ b) (h4 : b ≤ d + 8) : pFolD w k e d b ≤ pFolN w e b ∧ pFolN w e b ≤ pFolD w k e d b + 8 ∧ e ≤ pFolN w e b ∧ pFolN w e b ≤ max e b ∧ pFolD w k e d b ≤ max k d := by
  unfold pFolD pFolN
  by_cases q : e + 8 < b
  · rw [if_pos q, if_pos q]
    cases w
    · simp; omega
    · simp; omega
  · rw [if_neg q, if_neg q]
    omega
/-- follow that says no changed nothing -/
theorem fol_c {w : Bool} {k b d e : Nat} (h : pFolC w k e d b = false) : pFolN w e b = e ∧ pFolD w k e d b = k := by
  unfold pFolC at h
  unfold pFolD pFolN
  by_cases q : e + 8 < b
  · rw [if_pos q] at h
    subst h
    rw [if_pos q, if_pos q]
    simp
  · rw [if_neg q] at h
    rw [if_neg q, if_neg q]
    simp at h
    omega
theorem JJ.follow {w : Bool} {b d : Nat} (h : JJ E ep g nd post rep c) (h1 : d ≤ b) (h2 : b ≤ d + 8) (h3 : b ≤ g) (h4 : d ≤ c) : JJ E ep g (va_up nd n (pFollow w d b (nd n))) post rep c := by
  obtain ⟨w0, w1, w2, w3, w4, w5, w6, w7, w8⟩ := h.2.1 n
  obtain ⟨f1, f2, f3, f4, f5⟩ := fol_w (w := w) w1 w2 h1 h2
  have hc := (h.1.1 n).2.2.2.2.2.1
  refine ⟨h.1.rise rfl ?_ f3 rfl rfl rfl rfl rfl (fun m => ?_) (fun m => ?_), nW_up h.2.1 ?_, h.2.2⟩
  · show pFolD w (nd n 5) (nd n 6) d b ≤ c
    omega
  · unfold pFollow
    rw [if_neg (by omega), if_neg (by omega), if_neg (by omega), if_neg (by omega)]
  · unfold pFollow
    rw [if_neg (by omega), if_neg (by omega), if_neg (by omega), if_neg (by omega)]
  · refine ⟨w0, f1, f2, ?_, w4, w5, w6, fun z => ?_, fun m hm => ?_⟩
    · show pFolN w (nd n 6) b ≤ g
      omega
    · have z : ¬ (if pFolC w (nd n 5) (nd n 6) d b then 1 else nd n 1) = 1 := z
      have hf : pFolC w (nd n 5) (nd n 6) d b = false := by
        cases hq : pFolC w (nd n 5) (nd n 6) d b
        · rfl
        · rw [hq] at z; simp at z
      rw [hf] at z
      obtain ⟨v1, v2, v3⟩ := w7 (by simpa using z)
      obtain ⟨u1, u2⟩ := fol_c hf
      refine ⟨v1, ?_, ?_⟩
      · show nd n 8 = pFolD w (nd n 5) (nd n 6) d b
        rw [u2]; exact v2
      · show nd n 9 = pFolN w (nd n 6) b
        rw [u1]; exact v3
    · unfold pFollow
      rw [if_neg (by omega), if_neg (by omega), if_neg (by omega), if_neg (by omega), if_neg (by omega), if_neg (by omega), if_neg (by omega), if_neg (by omega)]
      exact w8 m hm
/-- flags alone -/
theorem JJ.flag {f v : Nat} (h : JJ E ep g nd post rep c) (hf : f = 2 ∨ f = 3 ∨ (f = 0 ∧ v ≤ 1)) : JJ E ep g (va_up nd n (pu (nd n) f v)) post rep c := by
  have e : ∀ j, j ≠ f → pu (nd n) f v j = nd n j := fun j hj => pu_ne _ _ hj
  refine ⟨h.1.same (e _ (by omega)) (e _ (by omega)) (e _ (by omega)) (e _ (by omega)) (e _ (by omega)) (e _ (by omega)) (e _ (by omega)) (e _ (by omega)) (fun m => e _ (by omega)) (fun m => e _ (by omega)) (fun m hm => Or.inl hm), nW_up h.2.1 ?_, h.2.2⟩
  obtain ⟨w0, w1⟩ := h.2.1 n
  unfold nW
  rw [e 10 (by omega), e 5 (by omega), e 6 (by omega), e 8 (by omega), e 9 (by omega), e 1 (by omega), e 7 (by omega), e 4 (by omega)]
  refine ⟨?_, w1.1, w1.2.1, w1.2.2.1, w1.2.2.2.1, w1.2.2.2.2.1, w1.2.2.2.2.2.1, w1.2.2.2.2.2.2.1, fun m hm => ?_⟩
  · rcases hf with rfl | rfl | ⟨rfl, hv⟩
    · exact w0
    · exact w0
    · rw [pu_self]; exact ⟨hv, w0.2⟩
  · rw [e _ (by omega), e _ (by omega)]
    exact w1.2.2.2.2.2.2.2 m hm
theorem JJ.enter {e : Nat} (hE : eOk E) (h : JJ E ep g nd post rep c) (he : e ≤ ep) : JJ E ep g (va_up nd n (pHearMap e (nd n))) post rep c := by
  by_cases q : nd n 4 < e
  · have e0 : pHearMap e (nd n) = pClear (fun j => if j = 2 ∨ j = 1 ∨ j = 3 then 1 else if j = 4 then e else nd n j) := by rw [pHearMap, if_pos q]
    rw [e0]
    refine ⟨h.1.enter q he rfl rfl rfl rfl rfl rfl rfl (fun m hm => ?_) (by have := hE.2.1; omega), nW_up h.2.1 ?_, h.2.2⟩
    · unfold pClear
      rw [if_pos (by omega)]
    · obtain ⟨w0, w1, w2, w3, w4, w5, w6, w7, w8⟩ := h.2.1 n
      refine ⟨⟨w0.1, Nat.zero_le _⟩, w1, w2, w3, w4, w5, w6, fun z => absurd rfl z, fun m hm => ?_⟩
      unfold pClear
      rw [if_neg (by omega), if_neg (by omega)]
      simp only
      rw [if_neg (by omega), if_neg (by omega), if_neg (by omega), if_neg (by omega)]
      exact w8 m hm
  · have e0 : pHearMap e (nd n) = pu (nd n) 2 1 := by rw [pHearMap, if_neg q]
    rw [e0]
    exact h.flag (Or.inl rfl)
theorem JJ.append {i : Nat} (h : JJ E ep g nd post rep c) (hi : i < g) : JJ E ep g (va_up nd n (pAppend (nd n) i)) post rep c := by
  obtain ⟨w0, w1, w2, w3, w4, w5, w6, w7, w8⟩ := h.2.1 n
  by_cases q : i = nd n 6 ∧ nd n 6 < nd n 5 + 8
  · have e0 : pAppend (nd n) i = (fun j => if j = 6 then nd n 6 + 1 else if j = 1 then 1 else nd n j) := by rw [pAppend, if_pos q]
    rw [e0]
    have e : ∀ j, j ≠ 6 → j ≠ 1 → (fun j => if j = 6 then nd n 6 + 1 else if j = 1 then 1 else nd n j) j = nd n j := fun j h1 h2 => by simp [h1, h2]
    refine ⟨h.1.rise rfl (h.1.1 n).2.2.2.2.2.1 (Nat.le_succ _) rfl rfl rfl rfl rfl (fun m => e _ (by omega) (by omega)) (fun m => e _ (by omega) (by omega)), nW_up h.2.1 ?_, h.2.2⟩
    refine ⟨w0, ?_, ?_, ?_, w4, w5, w6, fun z => absurd rfl z, fun m hm => ?_⟩
    · show nd n 5 ≤ nd n 6 + 1
      omega
    · show nd n 6 + 1 ≤ nd n 5 + 8
      omega
    · show nd n 6 + 1 ≤ g
      omega
    · rw [e _ (by omega) (by omega), e _ (by omega) (by omega)]
      exact w8 m hm
  · have e0 : pAppend (nd n) i = nd n := by rw [pAppend, if_neg q]
    rw [e0]
    have e1 : va_up nd n (nd n) = nd := by
      funext j
      by_cases z : j = n
      · subst z; rw [va_up_self]
      · rw [va_up_ne _ _ z]
    rw [e1]
    exact h
theorem va_up_id (nd : Nat → pN) (n : Nat) : va_up nd n (nd n) = nd := by
  funext j
  by_cases z : j = n
  · subst z; rw [va_up_self]
  · rw [va_up_ne _ _ z]
theorem JJ.note {k b d : Nat} (hE : eOk E) (h : JJ E ep g nd post rep c) (hk : k < eN E) (hb : b ≤ 512) (hd : d ≤ 512) (hr : pRp E nd rep k (nd n 4) b) : JJ E ep g (va_up nd n (pNote (nd n) k b d)) post rep c := by
  have hN := hE.2.1
  refine ⟨h.1.note (by omega) hr (by omega), nW_up h.2.1 ?_, h.2.2⟩
  have lo : ∀ j, j < 20 → pNote (nd n) k b d j = nd n j := fun j hj => by
    unfold pNote
    rw [if_neg (by omega), if_neg (by omega), if_neg (by omega)]
  unfold nW
  rw [lo 0 (by omega), lo 10 (by omega), lo 5 (by omega), lo 6 (by omega), lo 8 (by omega), lo 9 (by omega), lo 1 (by omega), lo 7 (by omega), lo 4 (by omega)]
  obtain ⟨w0, w1, w2, w3, w4, w5, w6, w7, w8⟩ := h.2.1 n
  refine ⟨w0, w1, w2, w3, w4, w5, w6, w7, fun m hm => ?_⟩
  have := w8 m hm
  unfold pNote
  constructor
  · rw [if_neg (by omega)]
    split
    · exact hb
    · rw [if_neg (by omega)]
      exact this.1
  · rw [if_neg (by omega), if_neg (by omega)]
    split
    · exact hd
    · exact this.2
theorem JJ.hear (hE : eOk E) (h : JJ E ep g nd post rep c) (hep : ep < 1000000) (hg : g ≤ 512) (hm : m ∈ post) (hto : m.2.2.1 = n) (h1 : m.1 ≠ 1) (h3 : m.1 ≠ 3) : JJ E ep g (va_up nd n (pHear E n (nd n) m).1) (pSend post (pHear E n (nd n) m).2) rep c := by
  have hmw := h.2.2 m hm
  have hmi := h.1.2.2.1 m hm
  have hme := h.1.2.2.2.2.2 m hm
  have hn : n < eN E := by rw [← hto]; exact hmw.1.2.2.2.1 h1 h3
  obtain ⟨w0, w1, w2, w3, w4, w5, w6, w7, w8⟩ := h.2.1 n
  have h4 := h.1.2.2.2.2.1 n
  have hc := (h.1.1 n).2.2.2.2.2.1
  have nil : ∀ x, JJ E ep g (va_up nd n x) post rep c → JJ E ep g (va_up nd n x) (pSend post []) rep c := fun x hx => hx.sub (fun m hm => (mem_send hm).elim id (fun z => by cases z))
  have same : JJ E ep g (va_up nd n (nd n)) (pSend post []) rep c := nil _ (by rw [va_up_id]; exact h)
  unfold pHear
  by_cases q0 : m.1 = 0
  · rw [if_pos q0]
    exact nil _ (h.enter hE hme)
  rw [if_neg q0]
  by_cases qe : m.2.2.2.1 ≠ nd n 4
  · rw [if_pos qe]
    exact same
  rw [if_neg qe]
  have qe : m.2.2.2.1 = nd n 4 := Classical.byContradiction qe
  by_cases q2 : m.1 = 2
  · rw [if_pos q2]
    by_cases ql : eL E (nd n 4) = n ∧ nd n 10 = 1
    · rw [if_pos ql]
      by_cases qr : pRemembers (nd n) m.2.2.2.2.1 = true
      · rw [if_pos qr]
        simp only
        rw [va_up_id]
        refine h.send (fun a ha => ?_)
        have ha : a = pAns n (nd n) m.2.2.2.2.1 := by simpa using ha
        subst ha
        unfold pRemembers at qr
        simp at qr
        refine ⟨⟨(fun z => by cases z), (fun z => by cases z), (fun z => by rcases z with z | z <;> cases z), fun _ => ?_⟩, h4, ⟨⟨?_, ?_, ?_, ?_, ?_, ?_⟩, (fun z => by rcases z with z | z <;> cases z), fun _ => by show m.2.2.2.2.1 < g; omega⟩⟩
        · show m.2.2.2.2.1 < c
          omega
        · show 3 < 10
          omega
        · show nd n 4 < 1000000
          omega
        · intro z
          rcases z with z | z | z <;> cases z
        · intro _ z
          exact absurd rfl z
        · show m.2.2.2.2.1 ≤ 512
          omega
        · show 0 ≤ 512
          omega
      · rw [if_neg qr]
        exact nil _ (h.append (hmw.2.2 (Or.inl q2)))
    · rw [if_neg ql]
      exact same
  rw [if_neg q2]
  by_cases q4 : m.1 = 4
  · rw [if_pos q4]
    exact nil _ (h.flag (Or.inr (Or.inl rfl)))
  rw [if_neg q4]
  by_cases q5 : m.1 = 5
  · rw [if_pos q5]
    have := h.note (n := n) (k := m.2.1) (b := m.2.2.2.2.1) (d := m.2.2.2.2.2) hE (hmw.1.2.2.1 (Or.inr (Or.inl q5))) hmw.1.2.2.2.2.1 hmw.1.2.2.2.2.2 (by rw [← qe]; exact hmi.1 q5)
    exact nil _ this
  rw [if_neg q5]
  by_cases q6 : m.1 = 6
  · rw [if_pos q6]
    refine JJ.send (h.flag (Or.inr (Or.inl rfl))) (fun a ha => ?_)
    have ha : a = (8, n, m.2.1, nd n 4, nd n 6, nd n 5) := by simpa using ha
    subst ha
    refine ⟨⟨(fun z => by cases z), (fun z => by cases z), fun _ => hc, (fun z => by cases z)⟩, h4, ⟨⟨?_, ?_, ?_, ?_, ?_, ?_⟩, fun _ => ⟨w1, w2, w3⟩, (fun z => by rcases z with z | z <;> cases z)⟩⟩
    · show 8 < 10
      omega
    · show nd n 4 < 1000000
      omega
    · intro z
      rcases z with z | z | z <;> cases z
    · intro _ _
      exact hmw.1.2.2.1 (Or.inr (Or.inr q6))
    · show nd n 6 ≤ 512
      omega
    · show nd n 5 ≤ 512
      omega
  rw [if_neg q6]
  by_cases q7 : m.1 = 7
  · rw [if_pos q7]
    obtain ⟨a1, a2, a3⟩ := hmw.2.1 (Or.inl q7)
    exact nil _ (h.follow a1 a2 a3 (hmi.2.2.1 (Or.inl q7)))
  rw [if_neg q7]
  by_cases q8 : m.1 = 8
  · rw [if_pos q8]
    obtain ⟨a1, a2, a3⟩ := hmw.2.1 (Or.inr q8)
    exact nil _ (h.follow a1 a2 a3 (hmi.2.2.1 (Or.inr q8)))
  rw [if_neg q8]
  by_cases q9 : m.1 = 9
  · rw [if_pos q9]
    obtain ⟨d1, d2, d3⟩ := hmi.2.1 q9
    rw [qe] at d1 d2 d3
    rw [hto] at d2
    have hr : nd n 10 ≠ 1 := fun z => d2 (hE.lead ((h.1.1 n).2.2.2.2.1 z).1 (by have := hE.2.1; omega))
    refine nil _ ?_
    have e : ∀ j, j ≠ 5 → j ≠ 6 → j ≠ 1 → j ≠ 3 → (fun j => if j = 5 ∨ j = 6 then 0 else if j = 1 ∨ j = 3 then 1 else nd n j) j = nd n j := fun j h1 h2 h3 h4 => by simp [h1, h2, h3, h4]
    refine ⟨h.1.drop d1 d2 d3 ?_ rfl rfl rfl rfl rfl rfl (fun k => e _ (by omega) (by omega) (by omega) (by omega)) (fun k => e _ (by omega) (by omega) (by omega) (by omega)), nW_up h.2.1 ?_, h.2.2⟩
    · have := w0.2; omega
    · refine ⟨w0, Nat.le_refl _, Nat.zero_le _, Nat.zero_le _, w4, w5, w6, fun z => absurd rfl z, fun k hk => ?_⟩
      exact ⟨Nat.le_trans (Nat.le_of_eq (e (30 + k) (by omega) (by omega) (by omega) (by omega))) (w8 k hk).1, Nat.le_trans (Nat.le_of_eq (e (40 + k) (by omega) (by omega) (by omega) (by omega))) (w8 k hk).2⟩
  rw [if_neg q9]
  exact same
end HEARK
