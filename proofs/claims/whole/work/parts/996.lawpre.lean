/-! Before the law's walk: what stays, the script's epochs. -/
section LAWPRE
variable {G : mm_G} {M M' : mm_M} {ca : Nat → Nat} {cm : Nat → pCm} {g : Nat} {E : pE} {v : Nat} {nd : Nat → pN} {post : List pMsg} {y : pN}
theorem VgP.keep2 (h : VgP G M ca cm g E v nd post y) (hq : ∀ q, v ≤ q → q < v + vgN E → M' q = M q) (hc : ∀ i, i < g → M' (ca i) = M (ca i)) : VgP G M' ca cm g E v nd post y := by
  obtain ⟨h0, ⟨f, h1, h1b⟩, ⟨s1, s2, s3, s4⟩, h3, h4, h5, h6, h7⟩ := h
  simp only [vgN] at hq
  refine ⟨(hq _ (by omega) (by omega)).trans h0, ⟨f, (hq _ (by omega) (by omega)).trans h1, h1b⟩, ⟨s1.kept (fun x y1 y2 => hq x (by omega) (by omega)), fun i hi => ⟨(s2 i hi).1, (hc i hi).trans (s2 i hi).2⟩, (hq _ (by omega) (by omega)).trans s3, s4⟩, h3.kept (fun q y1 y2 => hq q (by omega) (by omega)), h4.kept (fun q y1 y2 => hq q (by omega) (by omega)), h5, fun n hn => (h6 n hn).kept (fun q y1 y2 => hq q (by omega) (by omega)), h7⟩
/-- a node's first number: up -/
theorem hear_0 {n : Nat} {x : pN} {m : pMsg} : (pHear E n x m).1 0 = x 0 := by
  rcases hear_cases E n x m with ⟨q, -⟩ | ⟨-, q, -⟩ | ⟨-, -, -, -, -, q, -⟩ | ⟨-, -, -, -, -, q, -⟩ | ⟨-, -, q, -⟩ | ⟨-, -, q, -⟩ | ⟨-, -, q, -⟩ | ⟨-, -, q, -⟩ | ⟨-, -, q, -⟩ | ⟨-, -, q, -⟩
  · rw [q]
  · rw [q]
    unfold pHearMap
    split
    · rfl
    · exact pu_ne _ _ (by omega)
  · rw [q]
  · rw [q]; exact pAppend_ne _ _ (by omega) (by omega)
  · rw [q]; exact pu_ne _ _ (by omega)
  · rw [q]; exact pNote_ne _ _ _ _ (by omega) (by omega) (by omega)
  · rw [q]; exact pu_ne _ _ (by omega)
  · rw [q]; exact pFollow_ne _ _ _ _ (by omega) (by omega) (by omega) (by omega)
  · rw [q]; exact pFollow_ne _ _ _ _ (by omega) (by omega) (by omega) (by omega)
  · rw [q]; exact pDrop_ne _ (by omega) (by omega) (by omega) (by omega)
theorem work_0 {n : Nat} {x : pN} : (pWork E n x).1 0 = x 0 := by
  by_cases hu : x 0 = 1
  · rw [pWork_eq _ _ _ hu]
    split
    · show pu (pLead E n (pFl x)).1 3 0 0 = x 0
      rw [pu_ne _ _ (by omega), lead_eq]
      show pL3 E n (pFl x) 0 = x 0
      rw [pL3_ne _ _ _ (by omega) (by omega) (by omega) (by omega) (by omega) (by omega) (by omega), pFl_hi _ (by omega)]
    · show pu (pFl x) 3 0 0 = x 0
      rw [pu_ne _ _ (by omega), pFl_hi _ (by omega)]
  · unfold pWork
    rw [if_pos hu]
/-- what every arrival and every tick leave -/
def JX (E : pE) (ep g td : Nat) (U : Nat → Nat) (s : pSt) : Prop := JS E s ∧ s.2.2 0 = ep ∧ s.2.2 1 = g ∧ s.2.2 2 = td ∧ s.2.2 3 = 0 ∧ ∀ n, n < eN E → s.1 n 0 = U n
theorem JX.jc {ep td : Nat} {U : Nat → Nat} (hE : eOk E) : Jc E (JX E ep g td U) := by
  have hj := JS.jc hE
  have hN7 := hE.2.1
  refine ⟨fun s hs => hj.1 s hs.1, fun s i m hs hm => ?_, fun s i hs => ⟨hj.2.2.1 s i hs.1, hs.2⟩, fun s hs => ⟨hj.2.2.2 s hs.1, hs.2.1, hs.2.2.1, hs.2.2.2.1, hs.2.2.2.2.1, fun n hn => ?_⟩⟩
  · have h1 := hj.2.1 s i m hs.1 hm
    obtain ⟨hJ, e0, e1, e2, e3, e4⟩ := hs
    have hok := (hj.1 s hJ).1 m (List.mem_of_getElem? hm)
    refine ⟨h1, ?_⟩
    unfold pArr
    by_cases q1 : m.1 = 1
    · rw [if_pos q1]
      have hf := hok.2.2.1 (Or.inl q1)
      refine ⟨?_, ?_, ?_, ?_, e4⟩
      · show pu s.2.2 _ _ 0 = ep
        rw [pu_ne _ _ (by omega)]; exact e0
      · show pu s.2.2 _ _ 1 = g
        rw [pu_ne _ _ (by omega)]; exact e1
      · show pu s.2.2 _ _ 2 = td
        rw [pu_ne _ _ (by omega)]; exact e2
      · show pu s.2.2 _ _ 3 = 0
        rw [pu_ne _ _ (by omega)]; exact e3
    rw [if_neg q1]
    by_cases q3 : m.1 = 3
    · rw [if_pos q3]
      have ne : ∀ j, j < 20 → (if s.2.2 2 ≤ m.2.2.2.2.1 ∧ m.2.2.2.2.1 < s.2.2 1 then pu s.2.2 (40 + m.2.2.2.2.1 % 8) 1 else s.2.2) j = s.2.2 j := fun j hj => by
        split
        · exact pu_ne _ _ (by omega)
        · rfl
      exact ⟨(ne 0 (by omega)).trans e0, (ne 1 (by omega)).trans e1, (ne 2 (by omega)).trans e2, (ne 3 (by omega)).trans e3, e4⟩
    rw [if_neg q3]
    split
    · refine ⟨e0, e1, e2, e3, fun n hn => ?_⟩
      show va_up s.1 m.2.2.1 _ n 0 = U n
      by_cases z : n = m.2.2.1
      · subst z
        rw [va_up_self, hear_0]
        exact e4 _ hn
      · rw [va_up_ne _ _ z]
        exact e4 n hn
    · exact ⟨e0, e1, e2, e3, e4⟩
  · show pWn E s.1 (eN E) n 0 = U n
    unfold pWn
    rw [if_pos hn, work_0]
    exact hs.2.2.2.2.2 n hn
/-- the low bits of a number -/
theorem and_low (w : Int32) {m : Nat} (hm : m < 64) : w &&& nI m = nI (w.toBitVec.toNat &&& m) := by
  apply Int32.toBitVec.inj
  rw [Int32.toBitVec_and]
  apply BitVec.eq_of_toNat_eq
  have e1 : (nI m).toBitVec.toNat = m := by
    show (BitVec.ofNat 32 m).toNat = m
    rw [BitVec.toNat_ofNat]
    omega
  have hle : w.toBitVec.toNat &&& m ≤ m := Nat.and_le_right
  have e2 : (nI (w.toBitVec.toNat &&& m)).toBitVec.toNat = w.toBitVec.toNat &&& m := by
    show (BitVec.ofNat 32 (w.toBitVec.toNat &&& m)).toNat = _
    rw [BitVec.toNat_ofNat]
    omega
  rw [BitVec.toNat_and, e1, e2]
/-- the script's calls: which one, the epoch before it, the sets -/
def lop (x : Nat → Int32) (i : Nat) : Nat := (x (2 + 4 * i)).toBitVec.toNat &&& 15
def lep (x : Nat → Int32) : Nat → Nat
  | 0 => 1
  | i + 1 => lep x i + (if lop x i = 8 ∨ lop x i = 9 then 1 else 0)
def lse (N : Nat) (x : Nat → Int32) : Nat → Nat → Nat
  | 0 => fun _ => 2 ^ N - 1
  | i + 1 => if lop x i = 8 then va_up (lse N x i) (lep x i + 1) ((x (2 + 4 * i + 1)).toBitVec.toNat &&& (2 ^ N - 1)) else lse N x i
theorem lep_le (x : Nat → Int32) : ∀ i, lep x i ≤ i + 1 ∧ 1 ≤ lep x i := by
  intro i
  induction i with
  | zero => exact ⟨Nat.le_refl _, Nat.le_refl _⟩
  | succ i ih =>
    rw [lep]
    split <;> omega
theorem lse_new {N : Nat} {x : Nat → Int32} : ∀ i e, lep x i < e → lse N x i e = 2 ^ N - 1 := by
  intro i
  induction i with
  | zero => intro e _; rfl
  | succ i ih =>
    intro e he
    rw [lep] at he
    rw [lse]
    by_cases q : lop x i = 8
    · rw [if_pos (Or.inl q)] at he
      rw [if_pos q, va_up_ne _ _ (by omega)]
      exact ih e (by omega)
    · rw [if_neg q]
      exact ih e (by omega)
theorem lse_keep {N : Nat} {x : Nat → Int32} {i : Nat} : ∀ d e, e ≤ lep x i → lse N x (i + d) e = lse N x i e := by
  have hm : ∀ d, lep x i ≤ lep x (i + d) := by
    intro d
    induction d with
    | zero => exact Nat.le_refl _
    | succ d ih =>
      show lep x i ≤ lep x (i + d + 1)
      rw [lep]
      omega
  intro d
  induction d with
  | zero => intro e _; rfl
  | succ d ih =>
    intro e he
    have := hm d
    show lse N x (i + d + 1) e = _
    rw [lse]
    by_cases q : lop x (i + d) = 8
    · rw [if_pos q, va_up_ne _ _ (by omega)]
      exact ih e he
    · rw [if_neg q]
      exact ih e he
theorem lse_lt {N : Nat} {x : Nat → Int32} (hN : N < 7) : ∀ i e, lse N x i e < 64 := by
  have h64 := all_lt64 N hN
  intro i
  induction i with
  | zero => intro e; exact h64
  | succ i ih =>
    intro e
    rw [lse]
    by_cases q : lop x i = 8
    · rw [if_pos q]
      by_cases z : e = lep x i + 1
      · subst z
        rw [va_up_self]
        have : (x (2 + 4 * i + 1)).toBitVec.toNat &&& (2 ^ N - 1) ≤ 2 ^ N - 1 := Nat.and_le_right
        omega
      · rw [va_up_ne _ _ z]
        exact ih e
    · rw [if_neg q]
      exact ih e
/-- the run's own E -/
def lE (N C : Nat) (x : Nat → Int32) : pE := (N, C, lse N x 600)
theorem lE_set {N C : Nat} {x : Nat → Int32} {i : Nat} (hi : i < 600) : (lop x i = 8 → (lE N C x).2.2 (lep x i + 1) = (x (2 + 4 * i + 1)).toBitVec.toNat &&& (2 ^ N - 1)) ∧ (lop x i = 9 → (lE N C x).2.2 (lep x i + 1) = 2 ^ N - 1) := by
  have e : 600 = (i + 1) + (599 - i) := by omega
  refine ⟨fun q => ?_, fun q => ?_⟩
  · show lse N x 600 (lep x i + 1) = _
    rw [e, lse_keep _ _ (by rw [lep, if_pos (Or.inl q)]; omega), lse, if_pos q, va_up_self]
  · show lse N x 600 (lep x i + 1) = _
    rw [e, lse_keep _ _ (by rw [lep, if_pos (Or.inr q)]; omega), lse, if_neg (by omega), lse_new i _ (by omega)]
theorem lE_ok {N C : Nat} {x : Nat → Int32} (h1 : 3 ≤ N) (h2 : N ≤ 6) (h3 : 2 ≤ C) (h4 : C ≤ 3) : eOk (lE N C x) ∧ EOk (lE N C x) := by
  have ho : eOk (lE N C x) := ⟨h1, by show N < 7; omega, h3, h4, lse_lt (by omega) 600⟩
  refine ⟨ho, h1, ho.2.1, h3, h4, ?_, fun e => ?_, ho.2.2.2.2⟩
  · show lse N x 600 1 = 2 ^ N - 1
    have := lse_keep (N := N) (x := x) (i := 0) 600 1 (Nat.le_refl _)
    rw [Nat.zero_add] at this
    rw [this]
    rfl
  · have hk := (ho.keep e).2.1
    have h64 := all_lt64 N (by omega)
    have e2 : eN (lE N C x) = N := rfl
    rw [e2] at hk
    have : 0 < 2 ^ N := Nat.pow_pos (by omega)
    omega
/-- the keepers of all nodes, by rank -/
def fullB (N C : Nat) : Bool := (List.range N).all (fun n => (pKeep N C (2 ^ N - 1)).testBit n == decide (pBef n N < C)) && decide (pGr N (pKeep N C (2 ^ N - 1)) < N)
theorem fullB_ok : ∀ N, N < 7 → 3 ≤ N → ∀ C, C < 4 → 2 ≤ C → fullB N C = true := by decide +kernel
theorem full_ok (hE : eOk E) {e : Nat} (hf : E.2.2 e = 2 ^ eN E - 1) : eL E e < eN E ∧ ∀ n, n < eN E → eKb E e n = decide (pBef n (eN E) < eC E) := by
  have h := fullB_ok (eN E) hE.2.1 hE.1 (eC E) (by have := hE.2.2.2.1; omega) hE.2.2.1
  unfold fullB at h
  rw [Bool.and_eq_true, List.all_eq_true] at h
  have e1 : eM E e = pKeep (eN E) (eC E) (2 ^ eN E - 1) := by
    show pKeep (eN E) (eC E) (E.2.2 e) = _
    rw [hf]
  refine ⟨?_, fun n hn => ?_⟩
  · show pGr (eN E) (eM E e) < eN E
    rw [e1]
    exact of_decide_eq_true h.2
  · show (eM E e).testBit n = _
    rw [e1]
    exact beq_iff_eq.mp (h.1 n (List.mem_range.mpr hn))
end LAWPRE
