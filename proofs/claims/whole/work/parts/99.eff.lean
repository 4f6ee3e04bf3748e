/-! The regime of settle: all nodes in the new epoch. What an arrival does there. -/
/-- what a message can do to a node in its own epoch -/
def nEff (a : pMsg) (x x' : pN) : Prop := x' 4 = x 4 ∧ (x 2 = 1 → x' 2 = 1) ∧ (x 3 = 1 → x' 3 = 1) ∧ (x' 2 = 1 → x 2 = 1 ∨ a.1 = 0) ∧ (x' 3 = 1 → x 3 = 1 ∨ a.1 = 4 ∨ a.1 = 6 ∨ a.1 = 7 ∨ a.1 = 8 ∨ a.1 = 9) ∧ x' 10 = x 10 ∧ x' 11 = x 11 ∧ (∀ k, k < 10 → x (20 + k) = 1 → x' (20 + k) = 1) ∧
  (∀ k, k < 10 → (x' (30 + k) = x (30 + k) ∧ x' (40 + k) = x (40 + k)) ∨ (a.1 = 5 ∧ a.2.1 = k ∧ x' (30 + k) = a.2.2.2.2.1 ∧ x' (40 + k) = a.2.2.2.2.2)) ∧ (a.1 ≠ 9 → x 6 ≤ x' 6 ∧ x 5 ≤ x' 5) ∧ (a.1 = 9 → x' 6 = 0 ∧ x' 3 = 1) ∧ (a.1 = 4 → x' 3 = 1) ∧ (a.1 = 0 → x' 2 = 1) ∧ (a.1 = 5 → a.2.1 < 10 → x' (20 + a.2.1) = 1 ∧ x' (30 + a.2.1) = a.2.2.2.2.1 ∧ x' (40 + a.2.1) = a.2.2.2.2.2) ∧
  (a.1 = 7 ∨ a.1 = 8 → x' 3 = 1) ∧ ((a.1 = 7 ∧ ¬ x 6 + 8 < a.2.2.2.2.1) ∨ a.1 = 8 → a.2.2.2.2.1 ≤ x' 6 ∧ a.2.2.2.2.2 ≤ x' 5)
section EFF
variable {E : pE} {e g : Nat} {nd : Nat → pN} {post : List pMsg} {n : Nat} {a : pMsg} {x x' : pN} {r : List pMsg} {y : pN}
theorem nEff.same (h0 : a.1 ≠ 0) (h4 : a.1 ≠ 4) (h5 : a.1 ≠ 5) (h7 : a.1 ≠ 7) (h8 : a.1 ≠ 8) (h9 : a.1 ≠ 9) : nEff a x x :=
  ⟨rfl, id, id, Or.inl, Or.inl, rfl, rfl, fun _ _ z => z, fun _ _ => Or.inl ⟨rfl, rfl⟩, fun _ => ⟨Nat.le_refl _, Nat.le_refl _⟩, fun z => absurd z h9, fun z => absurd z h4, fun z => absurd z h0, fun z => absurd z h5, fun z => by omega, fun z => by omega⟩
theorem nEff.flag (h : (a.1 = 4 ∨ a.1 = 6)) : nEff a x (pu x 3 1) := by
  have ne : ∀ j, j ≠ 3 → pu x 3 1 j = x j := fun j hj => pu_ne _ _ hj
  refine ⟨ne _ (by omega), fun z => by rw [ne _ (by omega)]; exact z, fun _ => pu_self _ _ _, fun z => by rw [ne _ (by omega)] at z; exact Or.inl z, fun _ => by omega, ne _ (by omega), ne _ (by omega), fun k _ z => by rw [ne _ (by omega)]; exact z, fun k _ => Or.inl ⟨ne _ (by omega), ne _ (by omega)⟩, fun _ => ⟨Nat.le_of_eq (ne _ (by omega)).symm, Nat.le_of_eq (ne _ (by omega)).symm⟩, fun z => by omega, fun _ => pu_self _ _ _, fun z => by omega, fun z => by omega, fun z => by omega, fun z => by omega⟩
theorem nEff.fol {w : Bool} (hw : w = true ↔ a.1 = 8) (h : a.1 = 7 ∨ a.1 = 8) (w1 : x 5 ≤ x 6) (w2 : x 6 ≤ x 5 + 8) (d1 : a.2.2.2.2.2 ≤ a.2.2.2.2.1) (d2 : a.2.2.2.2.1 ≤ a.2.2.2.2.2 + 8) : nEff a x (pFollow w a.2.2.2.2.2 a.2.2.2.2.1 x) := by
  have ne := fun {j : Nat} => @pFollow_ne w a.2.2.2.2.2 a.2.2.2.2.1 x j
  have f := fol_w (w := w) w1 w2 d1 d2
  have f2 := fol_ge (w := w) w1 w2 d1 d2
  have e3 : pFollow w a.2.2.2.2.2 a.2.2.2.2.1 x 3 = 1 := rfl
  refine ⟨ne (by omega) (by omega) (by omega) (by omega), fun z => by rw [ne (by omega) (by omega) (by omega) (by omega)]; exact z, fun _ => e3, fun z => by rw [ne (by omega) (by omega) (by omega) (by omega)] at z; exact Or.inl z, fun _ => by omega, ne (by omega) (by omega) (by omega) (by omega), ne (by omega) (by omega) (by omega) (by omega), fun k _ z => by rw [ne (by omega) (by omega) (by omega) (by omega)]; exact z, fun k _ => Or.inl ⟨ne (by omega) (by omega) (by omega) (by omega), ne (by omega) (by omega) (by omega) (by omega)⟩, fun _ => ⟨f.2.2.1, f2⟩, fun z => by omega, fun z => by omega, fun z => by omega, fun z => by omega, fun _ => e3, fun z => ?_⟩
  show a.2.2.2.2.1 ≤ pFolN w (x 6) a.2.2.2.2.1 ∧ a.2.2.2.2.2 ≤ pFolD w (x 5) (x 6) a.2.2.2.2.2 a.2.2.2.2.1
  unfold pFolN pFolD
  by_cases q : x 6 + 8 < a.2.2.2.2.1
  · rw [if_pos q, if_pos q]
    have : w = true := hw.mpr (by omega)
    rw [this]
    simp
  · rw [if_neg q, if_neg q]
    omega
theorem nEff_of (hc : hC E n x a x' r) (he : a.2.2.2.1 = x 4) (w1 : x 5 ≤ x 6) (w2 : x 6 ≤ x 5 + 8) (d : a.1 = 7 ∨ a.1 = 8 → a.2.2.2.2.2 ≤ a.2.2.2.2.1 ∧ a.2.2.2.2.1 ≤ a.2.2.2.2.2 + 8) (hf : a.1 = 5 → a.2.1 < 10) : nEff a x x' := by
  rcases hc with ⟨rfl, rfl, q0, q⟩ | ⟨q0, rfl, rfl⟩ | ⟨qe, q2, ql, qr, qm, rfl, rfl⟩ | ⟨qe, q2, ql, qr, qm, rfl, rfl⟩ | ⟨qe, q4, rfl, rfl⟩ | ⟨qe, q5, rfl, rfl⟩ | ⟨qe, q6, rfl, rfl⟩ | ⟨qe, q7, rfl, rfl⟩ | ⟨qe, q8, rfl, rfl⟩ | ⟨qe, q9, rfl, rfl⟩
  · have := q he
    exact nEff.same (by omega) (by omega) (by omega) (by omega) (by omega) (by omega)
  · have e0 : pHearMap a.2.2.2.1 x = pu x 2 1 := by rw [pHearMap, if_neg (by omega)]
    rw [e0]
    have ne : ∀ j, j ≠ 2 → pu x 2 1 j = x j := fun j hj => pu_ne _ _ hj
    exact ⟨ne _ (by omega), fun _ => pu_self _ _ _, fun z => by rw [ne _ (by omega)]; exact z, fun _ => Or.inr q0, fun z => by rw [ne _ (by omega)] at z; exact Or.inl z, ne _ (by omega), ne _ (by omega), fun k _ z => by rw [ne _ (by omega)]; exact z, fun k _ => Or.inl ⟨ne _ (by omega), ne _ (by omega)⟩, fun _ => ⟨Nat.le_of_eq (ne _ (by omega)).symm, Nat.le_of_eq (ne _ (by omega)).symm⟩, fun z => by omega, fun z => by omega, fun _ => pu_self _ _ _, fun z => by omega, fun z => by omega, fun z => by omega⟩
  · exact nEff.same (by omega) (by omega) (by omega) (by omega) (by omega) (by omega)
  · have ne := fun {j : Nat} => @pAppend_ne x a.2.2.2.2.1 j
    exact ⟨ne (by omega) (by omega), fun z => by rw [ne (by omega) (by omega)]; exact z, fun z => by rw [ne (by omega) (by omega)]; exact z, fun z => by rw [ne (by omega) (by omega)] at z; exact Or.inl z, fun z => by rw [ne (by omega) (by omega)] at z; exact Or.inl z, ne (by omega) (by omega), ne (by omega) (by omega), fun k _ z => by rw [ne (by omega) (by omega)]; exact z, fun k _ => Or.inl ⟨ne (by omega) (by omega), ne (by omega) (by omega)⟩, fun _ => ⟨pAppend_6 _ _, Nat.le_of_eq (ne (by omega) (by omega)).symm⟩, fun z => by omega, fun z => by omega, fun z => by omega, fun z => by omega, fun z => by omega, fun z => by omega⟩
  · exact nEff.flag (Or.inl q4)
  · have hk := hf q5
    have lo : ∀ j, j < 20 → pNote x a.2.1 a.2.2.2.2.1 a.2.2.2.2.2 j = x j := fun j hj => pNote_ne _ _ _ _ (by omega) (by omega) (by omega)
    have e2 : pNote x a.2.1 a.2.2.2.2.1 a.2.2.2.2.2 (20 + a.2.1) = 1 := by
      unfold pNote
      rw [if_pos rfl]
    have e3 : pNote x a.2.1 a.2.2.2.2.1 a.2.2.2.2.2 (30 + a.2.1) = a.2.2.2.2.1 := by
      unfold pNote
      rw [if_neg (by omega), if_pos rfl]
    have e4 : pNote x a.2.1 a.2.2.2.2.1 a.2.2.2.2.2 (40 + a.2.1) = a.2.2.2.2.2 := by
      unfold pNote
      rw [if_neg (by omega), if_neg (by omega), if_pos rfl]
    refine ⟨lo _ (by omega), fun z => by rw [lo _ (by omega)]; exact z, fun z => by rw [lo _ (by omega)]; exact z, fun z => by rw [lo _ (by omega)] at z; exact Or.inl z, fun z => by rw [lo _ (by omega)] at z; exact Or.inl z, lo _ (by omega), lo _ (by omega), fun k _ z => ?_, fun k _ => ?_, fun _ => ⟨Nat.le_of_eq (lo _ (by omega)).symm, Nat.le_of_eq (lo _ (by omega)).symm⟩, fun z => by omega, fun z => by omega, fun z => by omega, fun _ _ => ⟨e2, e3, e4⟩, fun z => by omega, fun z => by omega⟩
    · by_cases q : k = a.2.1
      · subst q; exact e2
      · rw [pNote_ne _ _ _ _ (by omega) (by omega) (by omega)]; exact z
    · by_cases q : k = a.2.1
      · subst q; exact Or.inr ⟨q5, rfl, e3, e4⟩
      · exact Or.inl ⟨pNote_ne _ _ _ _ (by omega) (by omega) (by omega), pNote_ne _ _ _ _ (by omega) (by omega) (by omega)⟩
  · exact nEff.flag (Or.inr q6)
  · have := d (Or.inl q7)
    exact nEff.fol (by simp; omega) (Or.inl q7) w1 w2 this.1 this.2
  · have := d (Or.inr q8)
    exact nEff.fol (by simp; omega) (Or.inr q8) w1 w2 this.1 this.2
  · have ne := fun {j : Nat} => @pDrop_ne x j
    exact ⟨ne (by omega) (by omega) (by omega) (by omega), fun z => by rw [ne (by omega) (by omega) (by omega) (by omega)]; exact z, fun _ => rfl, fun z => by rw [ne (by omega) (by omega) (by omega) (by omega)] at z; exact Or.inl z, fun _ => by omega, ne (by omega) (by omega) (by omega) (by omega), ne (by omega) (by omega) (by omega) (by omega), fun k _ z => by rw [ne (by omega) (by omega) (by omega) (by omega)]; exact z, fun k _ => Or.inl ⟨ne (by omega) (by omega) (by omega) (by omega), ne (by omega) (by omega) (by omega) (by omega)⟩, fun z => by omega, fun _ => ⟨rfl, rfl⟩, fun z => by omega, fun z => by omega, fun z => by omega, fun z => by omega, fun z => by omega⟩
/-- replies -/
theorem hear_rep (hc : hC E n x a x' r) : r = [] ∨ (a.1 = 2 ∧ r = [(3, n, 99, x 4, a.2.2.2.2.1, 0)]) ∨ (a.1 = 6 ∧ r = [(8, n, a.2.1, x 4, x 6, x 5)]) := by
  rcases hc with ⟨rfl, rfl, q0, q⟩ | ⟨q0, rfl, rfl⟩ | ⟨qe, q2, ql, qr, qm, rfl, rfl⟩ | ⟨qe, q2, ql, qr, qm, rfl, rfl⟩ | ⟨qe, q4, rfl, rfl⟩ | ⟨qe, q5, rfl, rfl⟩ | ⟨qe, q6, rfl, rfl⟩ | ⟨qe, q7, rfl, rfl⟩ | ⟨qe, q8, rfl, rfl⟩ | ⟨qe, q9, rfl, rfl⟩
  · exact Or.inl rfl
  · exact Or.inl rfl
  · exact Or.inr (Or.inl ⟨q2, rfl⟩)
  · exact Or.inl rfl
  · exact Or.inl rfl
  · exact Or.inl rfl
  · exact Or.inr (Or.inr ⟨q6, rfl⟩)
  · exact Or.inl rfl
  · exact Or.inl rfl
  · exact Or.inl rfl
/-- an arrival, taken away: three sorts -/
theorem go_cases {s : pSt} (hs : s.2.1 = a :: r) : (a.1 = 1 ∧ pGo E s 0 a = (s.1, r, pu s.2.2 (20 + a.2.1) (max (s.2.2 (20 + a.2.1)) a.2.2.2.1))) ∨ (a.1 = 3 ∧ pGo E s 0 a = (s.1, r, if s.2.2 2 ≤ a.2.2.2.2.1 ∧ a.2.2.2.2.1 < s.2.2 1 then pu s.2.2 (40 + a.2.2.2.2.1 % 8) 1 else s.2.2)) ∨
    (a.1 ≠ 1 ∧ a.1 ≠ 3 ∧ s.1 a.2.2.1 0 = 1 ∧ pGo E s 0 a = (va_up s.1 a.2.2.1 (pHear E a.2.2.1 (s.1 a.2.2.1) a).1, (r ++ (pHear E a.2.2.1 (s.1 a.2.2.1) a).2).take 63, s.2.2)) ∨ (a.1 ≠ 1 ∧ a.1 ≠ 3 ∧ s.1 a.2.2.1 0 ≠ 1 ∧ pGo E s 0 a = (s.1, r, s.2.2)) := by
  unfold pGo pArr
  rw [hs]
  by_cases q1 : a.1 = 1
  · rw [if_pos q1]
    exact Or.inl ⟨q1, rfl⟩
  rw [if_neg q1]
  by_cases q3 : a.1 = 3
  · rw [if_pos q3]
    exact Or.inr (Or.inl ⟨q3, rfl⟩)
  rw [if_neg q3]
  by_cases q : s.1 a.2.2.1 0 = 1
  · rw [if_pos q]
    refine Or.inr (Or.inr (Or.inl ⟨q1, q3, q, ?_⟩))
    unfold pSend
    simp
  · rw [if_neg q]
    exact Or.inr (Or.inr (Or.inr ⟨q1, q3, q, rfl⟩))
/-- each message weighs one, with its reply two -/
def wt : List pMsg → Nat
  | [] => 0
  | a :: r => (if a.1 = 2 ∨ a.1 = 6 then 2 else 1) + wt r
theorem wt_app (a b : List pMsg) : wt (a ++ b) = wt a + wt b := by
  induction a with
  | nil => simp [wt]
  | cons c a ih => simp only [List.cons_append, wt, ih]; omega
theorem wt_take (k : Nat) (a : List pMsg) : wt (a.take k) ≤ wt a := by
  have := wt_app (a.take k) (a.drop k)
  rw [List.take_append_drop] at this
  omega
theorem wt_len (a : List pMsg) : a.length ≤ wt a ∧ wt a ≤ 2 * a.length := by
  induction a with
  | nil => simp [wt]
  | cons c a ih =>
    simp only [wt, List.length_cons]
    split <;> omega
theorem wt_go {s : pSt} (hs : s.2.1 = a :: r) : wt (pGo E s 0 a).2.1 + 1 ≤ wt (a :: r) := by
  rcases go_cases (E := E) hs with ⟨-, q⟩ | ⟨-, q⟩ | ⟨-, -, -, q⟩ | ⟨-, -, -, q⟩
  · rw [q]; simp only [wt]; split <;> omega
  · rw [q]; simp only [wt]; split <;> omega
  · rw [q]
    have h1 := wt_take 63 (r ++ (pHear E a.2.2.1 (s.1 a.2.2.1) a).2)
    rw [wt_app] at h1
    simp only [wt]
    rcases hear_rep (hear_cases E a.2.2.1 (s.1 a.2.2.1) a) with z | ⟨z1, z⟩ | ⟨z1, z⟩
    · rw [z] at h1 ⊢
      simp only [wt] at h1
      split <;> omega
    · rw [z] at h1 ⊢
      simp only [wt] at h1
      rw [if_pos (Or.inl z1)]
      simp at h1
      omega
    · rw [z] at h1 ⊢
      simp only [wt] at h1
      rw [if_pos (Or.inr z1)]
      simp at h1
      omega
  · rw [q]; simp only [wt]; split <;> omega
/-- in the end all have arrived -/
theorem pBA_empty : ∀ (f : Nat) (s : pSt), wt s.2.1 ≤ f → (pBA E f s).2.1 = [] := by
  intro f
  induction f with
  | zero =>
    intro s h
    have := (wt_len s.2.1).1
    exact List.length_eq_zero_iff.mp (by show s.2.1.length = 0; omega)
  | succ f ih =>
    intro s h
    obtain ⟨nd, post, y⟩ := s
    cases post with
    | nil => rfl
    | cons a r =>
      refine ih _ ?_
      have := wt_go (E := E) (s := (nd, a :: r, y)) rfl
      simp only at h
      omega
end EFF
