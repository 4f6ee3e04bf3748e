/-! Settle ends: the turns one after the other. -/
section CHAIN
variable {E : pE} {e : Nat} {a : pMsg} {u s : pSt}
theorem lead_ans {n : Nat} {x : pN} (h : a ∈ (pLead E n x).2) (h3 : a.1 = 3) : x 5 < x 6 := by
  rw [lead_eq] at h
  have e5 : pL2 E n x 5 = x 5 := by
    unfold pL2 pL1
    rw [pPrep_lo _ _ _ (by omega) (by omega), pNote_ne _ _ _ _ (by omega) (by omega) (by omega)]
  have e6 : pL2 E n x 6 = x 6 := by
    unfold pL2 pL1
    rw [pPrep_lo _ _ _ (by omega) (by omega), pNote_ne _ _ _ _ (by omega) (by omega) (by omega)]
  rcases List.mem_append.mp h with h | h
  · rcases List.mem_append.mp h with h | h
    · unfold pPrep at h
      by_cases q1 : pL1 n x 10 = 1
      · rw [if_pos q1] at h; cases h
      rw [if_neg q1] at h
      by_cases q2 : pSize (eN E) (pL1 n x) < eQ E
      · rw [if_pos q2] at h; cases h
      rw [if_neg q2] at h
      by_cases q3 : pFar (eN E) (pL1 n x) n = n
      · rw [if_pos q3] at h; cases h
      rw [if_neg q3] at h
      have h : a = (6, n, pFar (eN E) (pL1 n x) n, pL1 n x 4, 0, 0) := by simpa using h
      rw [h] at h3
      cases h3
    · unfold pDo at h
      by_cases q : pL2 E n x 10 = 1
      · rw [if_pos q] at h
        obtain ⟨i, hi, -⟩ := List.mem_map.mp h
        have hi := List.mem_range.mp hi
        rw [e5, e6] at hi
        omega
      · rw [if_neg q] at h; cases h
  · obtain ⟨k, hk, hz⟩ := List.mem_flatMap.mp h
    by_cases q : k = n
    · rw [if_pos q] at hz; cases hz
    · rw [if_neg q] at hz
      rcases guide_cases hz with ⟨rfl, -⟩ | ⟨-, g2, -⟩ | ⟨rfl, -⟩
      · cases h3
      · omega
      · cases h3
/-- who keeps no copy has none, and the leader knows -/
def Rz (E : pE) (e : Nat) (u : pSt) : Prop := ∀ m, m < eN E → ¬ eK E e m → u.1 m 6 ≤ 0 ∧ u.1 (eL E e) (30 + m) = 0
/-- the leader knows that the keepers are so far -/
def Rn (E : pE) (e b d : Nat) (u : pSt) : Prop := ∀ m, m < eN E → m ≠ eL E e → eK E e m → b ≤ u.1 (eL E e) (30 + m) ∧ d ≤ u.1 (eL E e) (40 + m)
def Ra (u : pSt) : Prop := ∀ i, u.2.2 2 ≤ i → i < u.2.2 1 → u.2.2 (40 + i % 8) = 1
theorem Rz.turn (hE : eOk E) (hl : eL E e < eN E) (h : K3 E e u) (hz : Rz E e u) : Rz E e (pTurn E u) := fun m hm hk => G2 hE hl h hm hk (hz m hm hk).1 (Or.inl (hz m hm hk).2)
theorem Rn.turn {b d : Nat} (hE : eOk E) (hl : eL E e < eN E) (h : K3 E e u) (hz : Rn E e b d u) : Rn E e b d (pTurn E u) := fun m hm hml hk => h.noted hE hl hm hml hk (hz m hm hml hk)
theorem K3.gt (hE : eOk E) (h : K3 E e u) : (pTurn E u).2.2 1 = u.2.2 1 ∧ (pTurn E u).2.2 2 = u.2.2 2 := h.1.keep (P := fun s => s.2.2 1 = u.2.2 1 ∧ s.2.2 2 = u.2.2 2) hE (cl_gt hE _ _) ⟨rfl, rfl⟩
theorem Ra.turn (hE : eOk E) (h : K3 E e u) (ha : Ra u) : Ra (pTurn E u) := fun i i1 i2 => by
  rw [(h.gt hE).1] at i2
  rw [(h.gt hE).2] at i1
  exact h.1.keep (P := fun s => s.2.2 (40 + i % 8) = 1) hE (cl_ar hE (Nat.mod_lt _ (by omega))) (ha i i1 i2)
/-- nothing is missing any more -/
def KF (E : pE) (e : Nat) (u : pSt) : Prop := K3 E e u ∧ u.2.2 1 ≤ u.1 (eL E e) 5 ∧ Ra u ∧ Rn E e (u.2.2 1) (u.2.2 1) u ∧ Rz E e u
theorem KF.turn (hE : eOk E) (hl : eL E e < eN E) (h : KF E e u) : KF E e (pTurn E u) := by
  obtain ⟨h1, h2, h3, h4, h5⟩ := h
  refine ⟨h1.turn hE hl, ?_, h3.turn hE h1, ?_, h5.turn hE hl h1⟩
  · rw [(h1.gt hE).1]
    exact (h1.low hE hl (Nat.zero_le _) (Nat.le_trans h2 h1.five)).2
  · rw [(h1.gt hE).1]
    exact h4.turn hE hl h1
theorem KF.kinds (hE : eOk E) (hl : eL E e < eN E) (h : KF E e u) (ha : a ∈ (pTick E u).2.1) : a.1 = 5 := by
  obtain ⟨h1, h2, h3, h4, h5⟩ := h
  have hN7 := hE.2.1
  rcases (h1.1.1.mem hE h1.1.2).mp ha with z | z | ⟨n, hn, z⟩
  · obtain ⟨k, k1, k2, rfl⟩ := mem_proc _ z
    have := h1.2.1 k k1
    rw [h1.1.1.y0] at k2
    omega
  · obtain ⟨-, k, k1, k2, rfl⟩ := mem_reqs _ z
    exact absurd (h3 (u.2.2 2 + k) (by omega) (by omega)) k2
  · have h4e := h1.1.1.2.2.1 n hn
    rcases work_cases (h1.1.1.2.1.2.1 n hn) z with ⟨rfl, q⟩ | ⟨ql, w⟩ | ⟨q1, q2, q3, rfl⟩
    · exact absurd q (h1.2.2.1 n hn)
    · rw [h4e] at ql
      subst ql
      obtain ⟨y1, y2, y3, y4, y5, rep, c, hJ, -⟩ := h1.1.1.1
      have x6 : u.1 (eL E e) 6 ≤ u.2.2 1 := (hJ.2.1 (eL E e)).2.2.2.1
      have x5 : u.1 (eL E e) 5 ≤ u.1 (eL E e) 6 := (hJ.2.1 (eL E e)).2.1
      rcases lead_cases w with ⟨rfl, -, v⟩ | ⟨i, rfl⟩ | ⟨k, k1, k2, hg⟩
      · rw [pFl_hi _ (by omega)] at v
        exact absurd h1.2.2.2.2 v
      · have := lead_ans w rfl
        rw [pFl_hi _ (by omega), pFl_hi _ (by omega)] at this
        omega
      · have e20 := l3_ne (E := E) (e := e) (u := u) (j := 20 + k) (by omega)
        have e30 := l3_ne (E := E) (e := e) (u := u) (j := 30 + k) (by omega)
        have e40 := l3_ne (E := E) (e := e) (u := u) (j := 40 + k) (by omega)
        have e6 := l3_ne (E := E) (e := e) (u := u) (j := 6) (by omega)
        have e4 := l3_ne (E := E) (e := e) (u := u) (j := 4) (by omega)
        have e5 := h1.l5
        rw [h4e] at e4
        rcases guide_cases hg with ⟨rfl, g1⟩ | ⟨-, -, -, -, g5, g6⟩ | ⟨rfl, -, -, g4, g5, -⟩
        · rw [e20] at g1
          exact absurd (h1.2.2.2.1 k k1 k2) g1
        · rw [e4] at g5
          rw [e30, e40, e6, e5] at g6
          have := h4 k k1 k2 g5
          omega
        · rw [e4] at g4
          rw [e30, (h5 k k1 g4).2] at g5
          omega
    · rfl
theorem KF.quiet (hE : eOk E) (hl : eL E e < eN E) (h : KF E e u) : ∀ n, n < eN E → (pTurn E u).1 n 3 ≠ 1 := fun n hn =>
  (h.1.1.keep (P := fun s => (∀ b ∈ s.2.1, b.1 = 5 ∨ b.1 = 3) ∧ s.1 n 3 ≠ 1) hE (cl_f3 hE n) ⟨fun b hb => Or.inl (h.kinds hE hl hb), (tick_2 h.1.1.1 hn hl).2⟩).2
theorem KF.done (hE : eOk E) (hl : eL E e < eN E) (h : KF E e u) (hq : ∀ n, n < eN E → u.1 n 3 ≠ 1) : pDone (pTick E u) := by
  refine ⟨?_, h.2.2.1⟩
  refine List.eq_nil_iff_forall_not_mem.mpr (fun a ha => ?_)
  obtain ⟨r1, -, -, r4⟩ := h.1.1.reps hE ha (h.kinds hE hl ha)
  exact hq _ r1 r4
/-- k turns -/
def pTn (E : pE) : Nat → pSt → pSt
  | 0, u => u
  | k + 1, u => pTurn E (pTn E k u)
theorem tn_it (s : pSt) : ∀ k, pTn E k (pBA E 1000000 s) = pBA E 1000000 (pIt E s k) := by
  intro k
  induction k with
  | zero => rfl
  | succ k ih =>
    show pTurn E (pTn E k (pBA E 1000000 s)) = _
    rw [ih]
    rfl
theorem K3.tn (hE : eOk E) (hl : eL E e < eN E) (h : K3 E e u) : ∀ k, K3 E e (pTn E k u) := by
  intro k
  induction k with
  | zero => exact h
  | succ k ih => exact ih.turn hE hl
theorem K3.tgt (hE : eOk E) (hl : eL E e < eN E) (h : K3 E e u) : ∀ k, (pTn E k u).2.2 1 = u.2.2 1 ∧ (pTn E k u).2.2 2 = u.2.2 2 := by
  intro k
  induction k with
  | zero => exact ⟨rfl, rfl⟩
  | succ k ih =>
    have := (h.tn hE hl k).gt hE
    exact ⟨this.1.trans ih.1, this.2.trans ih.2⟩
/-- the ready leader's base -/
theorem K3.base {b : Nat} (hE : eOk E) (hl : eL E e < eN E) (h : K3 E e u) (hb : u.1 (eL E e) 11 ≤ b) : (pTurn E u).1 (eL E e) 11 ≤ b :=
  h.1.keep (P := fun s => s.1 (eL E e) 11 ≤ b) hE (cl_11 hE _ b) (by rw [tick_l h.1.1 hl, pu_ne _ _ (by omega), h.l11]; exact hb)
/-- by and by all commands are appended -/
theorem K3.app (hE : eOk E) (hl : eL E e < eN E) (h : K3 E e u) (h5 : u.2.2 2 ≤ u.1 (eL E e) 5) : ∀ k, min (u.2.2 1) (u.2.2 2 + k) ≤ (pTn E k u).1 (eL E e) 6 ∧ u.2.2 2 ≤ (pTn E k u).1 (eL E e) 5 := by
  intro k
  induction k with
  | zero =>
    have := (h.com hE hl).1
    exact ⟨by show min (u.2.2 1) (u.2.2 2 + 0) ≤ u.1 (eL E e) 6; omega, h5⟩
  | succ k ih =>
    have hk := h.tn hE hl k
    obtain ⟨g1, g2⟩ := h.tgt hE hl k
    have hlow := hk.low hE hl (Nat.le_refl _) hk.five
    refine ⟨?_, Nat.le_trans ih.2 hlow.2⟩
    show min (u.2.2 1) (u.2.2 2 + (k + 1)) ≤ (pTurn E (pTn E k u)).1 (eL E e) 6
    by_cases q : (pTn E k u).1 (eL E e) 6 < u.2.2 1
    · have := E1 hE hl hk (by rw [g1]; exact q) (by rw [g2]; exact ih.2)
      omega
    · have := hlow.1
      omega
theorem pTn_add (j k : Nat) (u : pSt) : pTn E j (pTn E k u) = pTn E (j + k) u := by
  induction j with
  | zero => rw [Nat.zero_add]; rfl
  | succ j ih =>
    rw [show j + 1 + k = (j + k) + 1 by omega]
    show pTurn E (pTn E j (pTn E k u)) = pTurn E (pTn E (j + k) u)
    rw [ih]
/-- v comes behind u within b turns -/
def rch (E : pE) (b : Nat) (u v : pSt) : Prop := ∃ k, k ≤ b ∧ v = pTn E k u
theorem rch.one (u : pSt) : rch E 1 u (pTurn E u) := ⟨0 + 1, Nat.le_refl _, rfl⟩
theorem rch.trans {b c : Nat} {u v w : pSt} (h : rch E b u v) (k : rch E c v w) : rch E (b + c) u w := by
  obtain ⟨i, hi, rfl⟩ := h
  obtain ⟨j, hj, rfl⟩ := k
  exact ⟨j + i, by omega, pTn_add j i u⟩
/-- a bound of the ready leader comes to all notes -/
theorem K3.pass {b d : Nat} (hE : eOk E) (hl : eL E e < eN E) (h : K3 E e u) (hb : b ≤ u.1 (eL E e) 6) (hd : d ≤ u.1 (eL E e) 5) : ∃ v, rch E 2 u v ∧ K3 E e v ∧ Rn E e b d v ∧ b ≤ v.1 (eL E e) 6 ∧ d ≤ v.1 (eL E e) 5 ∧ v.2.2 1 = u.2.2 1 ∧ v.2.2 2 = u.2.2 2 ∧ (Rz E e u → Rz E e v) ∧ (∀ c, u.1 (eL E e) 11 ≤ c → v.1 (eL E e) 11 ≤ c) := by
  have h1 := h.turn hE hl
  have l1 := h.low hE hl hb (Nat.le_trans hd h.five)
  have l2 := h1.low hE hl l1.1 (Nat.le_trans l1.2 h1.five)
  have g1 := h.gt hE
  have g2 := h1.gt hE
  refine ⟨pTurn E (pTurn E u), (rch.one u).trans (rch.one _), h1.turn hE hl, fun m hm hml hk => ?_, l2.1, l2.2, g2.1.trans g1.1, g2.2.trans g1.2, fun z => (z.turn hE hl h).turn hE hl h1, fun c hc => h1.base hE hl (h.base hE hl hc)⟩
  obtain ⟨d1, d2⟩ := D1 hE hl h hm hml hk hb (Nat.le_trans hd h.five)
  exact D2 hE hl h1 hm hml hk d1 d2
/-- two turns and one: what the leader had it has done -/
theorem K3.does {b : Nat} (hE : eOk E) (hl : eL E e < eN E) (h : K3 E e u) (hb : b ≤ u.1 (eL E e) 6) : ∃ v, rch E 3 u v ∧ K3 E e v ∧ b ≤ v.1 (eL E e) 6 ∧ b ≤ v.1 (eL E e) 5 ∧ v.2.2 1 = u.2.2 1 ∧ v.2.2 2 = u.2.2 2 ∧ (Rz E e u → Rz E e v) ∧ (u.1 (eL E e) 11 ≤ b → ∀ m, m < eN E → ¬ eK E e m → v.1 m 6 ≤ 0 ∧ (v.1 (eL E e) (30 + m) = 0 ∨ v.1 m 3 = 1)) := by
  obtain ⟨w, r1, k2, p1, p2, -, g1, g2, zz, bb⟩ := h.pass hE hl hb (Nat.zero_le _)
  have hn := fun m hm hml hk => (p1 m hm hml hk).1
  have hd := D3 hE hl k2 p2 hn
  have l3 := k2.low hE hl p2 hd
  have g3 := k2.gt hE
  refine ⟨pTurn E w, r1.trans (rch.one w), k2.turn hE hl, l3.1, l3.2, g3.1.trans g1, g3.2.trans g2, fun z => (zz z).turn hE hl k2, fun z m hm hk => G1 hE hl k2 hm hk ?_⟩
  rw [k2.l11]
  refine Nat.le_trans (bb _ z) (k2.agr hE hl p2 hn _ (fun j hj => ?_))
  unfold pL3
  rw [pDo_lo _ _ _ (by omega) (by omega), k2.l2]
/-- from the ready leader on -/
theorem K3.ends (hE : eOk E) (hl : eL E e < eN E) (h : K3 E e u) : ∃ v, rch E 17 u v ∧ pDone (pTick E v) := by
  have hbase : u.1 (eL E e) 11 ≤ u.1 (eL E e) 6 := by
    obtain ⟨y1, y2, y3, y4, y5, rep, c, hJ, -⟩ := h.1.1.1
    exact ((hJ.1.1 (eL E e)).2.2.2.2.1 h.2.2.2.2).2.1
  have htd := (h.com hE hl).1
  have y4 : u.2.2 1 ≤ u.2.2 2 + 8 := h.1.1.1.2.2.2.1
  obtain ⟨a, ra, ka, -, a5, ga, gb, -, za⟩ := h.does hE hl (Nat.le_refl _)
  have za := za hbase
  -- eight turns: all is appended
  have hz1 : Rz E e (pTurn E a) := fun m hm hk => G2 hE hl ka hm hk (za m hm hk).1 (za m hm hk).2
  have hz : ∀ j, Rz E e (pTn E (j + 1) a) := by
    intro j
    induction j with
    | zero => exact hz1
    | succ j ih => exact ih.turn hE hl (ka.tn hE hl (j + 1))
  have a8 := (ka.app hE hl (by omega) 8).1
  have k8 := ka.tn hE hl 8
  have g8 := ka.tgt hE hl 8
  have z8 := hz 7
  have r8 : rch E 8 a (pTn E 8 a) := ⟨8, Nat.le_refl _, rfl⟩
  generalize pTn E 8 a = w at *
  have w6 : w.2.2 1 ≤ w.1 (eL E e) 6 := by omega
  -- three: all is done
  obtain ⟨x, rx, kx, x6, x5, gx1, gx2, zx, -⟩ := k8.does hE hl w6
  have zx := zx z8
  rw [← gx1] at x6 x5
  -- two: all is told and noted
  have k1 := kx.turn hE hl
  have g1 := kx.gt hE
  have r1 : Ra (pTurn E x) := fun i i1 i2 => F1 hE hl kx x5 (by rw [← g1.2]; exact i1) (by rw [← g1.1]; exact i2)
  have l1 := kx.low hE hl x6 (Nat.le_trans x5 kx.five)
  have l2 := k1.low hE hl l1.1 (Nat.le_trans l1.2 k1.five)
  have g2 := k1.gt hE
  have gg := g2.1.trans g1.1
  have f : KF E e (pTurn E (pTurn E x)) := by
    refine ⟨k1.turn hE hl, by rw [gg]; exact l2.2, r1.turn hE k1, fun m hm hml hk => ?_, (zx.turn hE hl kx).turn hE hl k1⟩
    rw [gg]
    obtain ⟨d1, d2⟩ := D1 hE hl kx hm hml hk x6 (Nat.le_trans x5 kx.five)
    exact D2 hE hl k1 hm hml hk d1 d2
  exact ⟨pTurn E (pTurn E (pTurn E x)), ((((ra.trans r8).trans rx).trans (rch.one x)).trans (rch.one _)).trans (rch.one _), (f.turn hE hl).done hE hl (f.quiet hE hl)⟩
/-- from the regime on -/
theorem K0.ends (hE : eOk E) (hl : eL E e < eN E) (h : K0 E e u) : ∃ v, rch E 21 u v ∧ pDone (pTick E v) := by
  have k1 := h.turn hE
  have k2 := k1.turn hE
  have k3 := k2.turn hE
  have hy2 : ∀ n, n < eN E → (pTurn E (pTurn E u)).2.2 (20 + n) = e := fun n hn => A2 hE k1 hn (A1 hE h hn)
  have ha2 : allH E e (pTurn E (pTurn E u)) := fun m hm hml => B2 hE k1 hl hm hml (B1 hE h hl hm hml)
  have hy3 : ∀ n, n < eN E → (pTurn E (pTurn E (pTurn E u))).2.2 (20 + n) = e := fun n hn => A2 hE k2 hn (Or.inl (hy2 n hn))
  have ha3 := ha2.turn hE k2 hl
  have k4 : K3 E e (pTurn E (pTurn E (pTurn E (pTurn E u)))) := ⟨k3.turn hE, fun n hn => A2 hE k3 hn (Or.inl (hy3 n hn)), fun n hn => A3 hE k3 hl hn hy3, ha3.turn hE k3 hl, C2 hE k3 hl ha3 (C1 hE k2 hl ha2)⟩
  obtain ⟨v, rv, hv⟩ := k4.ends hE hl
  exact ⟨v, ((((rch.one u).trans (rch.one _)).trans (rch.one _)).trans (rch.one _)).trans rv, hv⟩
/-! The beginning: the map comes to all. -/
theorem send_left {p b : List pMsg} (h : a ∈ p) (hp : p.length ≤ 64) : a ∈ pSend p b := by
  unfold pSend
  rw [List.take_append]
  refine List.mem_append.mpr (Or.inl ?_)
  rw [List.take_of_length_le hp]
  exact h
def J0 (E : pE) (e : Nat) (s : pSt) : Prop := JS E s ∧ IS E e s ∧ s.2.1.length ≤ 64
theorem J0.go {r : List pMsg} (hE : eOk E) (h : J0 E e s) (hs : s.2.1 = a :: r) : J0 E e (pGo E s 0 a) ∧ (∀ b ∈ r, b ∈ (pGo E s 0 a).2.1) ∧ ∀ n, n < eN E → s.1 n 4 = e → (pGo E s 0 a).1 n 4 = e := by
  have h0 : s.2.1[0]? = some a := by rw [hs]; rfl
  have hl := h.2.2
  rw [hs] at hl
  simp only [List.length_cons] at hl
  have ha : a ∈ s.2.1 := by rw [hs]; exact List.mem_cons_self
  have j1 := h.1.go hE h0
  have j2 := h.2.1.go hE h.1 h0
  rcases go_cases (E := E) hs with ⟨-, q⟩ | ⟨-, q⟩ | ⟨q1, q3, -, q⟩ | ⟨-, -, -, q⟩
  · refine ⟨⟨j1, j2, ?_⟩, ?_⟩
    · rw [q]; show r.length ≤ 64; omega
    · rw [q]; exact ⟨fun b hb => hb, fun n hn z => z⟩
  · refine ⟨⟨j1, j2, ?_⟩, ?_⟩
    · rw [q]; show r.length ≤ 64; omega
    · rw [q]; exact ⟨fun b hb => hb, fun n hn z => z⟩
  · refine ⟨⟨j1, j2, ?_⟩, ?_⟩
    · rw [q]; show (List.take 63 _).length ≤ 64; rw [List.length_take]; omega
    · rw [q]
      refine ⟨fun b hb => ?_, fun n hn z => ?_⟩
      · show b ∈ List.take 63 _
        rw [List.take_append]
        refine List.mem_append.mpr (Or.inl ?_)
        rw [List.take_of_length_le (by omega)]
        exact hb
      · obtain ⟨-, -, -, -, -, rep, c, hJ, -⟩ := h.1
        have h0 : s.2.2 0 = e := h.2.1.1
        rw [h0] at hJ
        exact (hear_step hE hJ ha (h.2.1.2.2.2.2 a ha) rfl ((hJ.2.2 a ha).1.2.2.2.1 q1 q3) h.2.1.2.2.2.1 (hear_cases E a.2.2.1 (s.1 a.2.2.1) a)).1.2.1 n hn z
  · refine ⟨⟨j1, j2, ?_⟩, ?_⟩
    · rw [q]; show r.length ≤ 64; omega
    · rw [q]; exact ⟨fun b hb => hb, fun n hn z => z⟩
theorem J0.all (hE : eOk E) : ∀ (f : Nat) (s : pSt), J0 E e s → J0 E e (pBA E f s) ∧ ∀ n, n < eN E → s.1 n 4 = e → (pBA E f s).1 n 4 = e := by
  intro f
  induction f with
  | zero => intro s h; exact ⟨h, fun _ _ z => z⟩
  | succ f ih =>
    intro s h
    obtain ⟨nd, post, y⟩ := s
    cases post with
    | nil => exact ⟨h, fun _ _ z => z⟩
    | cons b r =>
      obtain ⟨g1, -, g3⟩ := h.go (a := b) (r := r) hE rfl
      obtain ⟨i1, i2⟩ := ih _ g1
      exact ⟨i1, fun n hn z => i2 n hn (g3 n hn z)⟩
theorem J0.map (hE : eOk E) {n : Nat} (hn : n < eN E) : ∀ (f : Nat) (s : pSt), J0 E e s → ((0, 99, n, e, 0, 0) : pMsg) ∈ s.2.1 → wt s.2.1 ≤ f → (pBA E f s).1 n 4 = e := by
  intro f
  induction f with
  | zero =>
    intro s h ha hw
    have := (wt_len s.2.1).1
    have : s.2.1 = [] := List.length_eq_zero_iff.mp (by omega)
    rw [this] at ha
    cases ha
  | succ f ih =>
    intro s h ha hw
    obtain ⟨nd, post, y⟩ := s
    cases post with
    | nil => cases ha
    | cons b r =>
      obtain ⟨g1, g2, g3⟩ := h.go (a := b) (r := r) hE rfl
      show (pBA E f (pGo E (nd, b :: r, y) 0 b)).1 n 4 = e
      by_cases q : b = (0, 99, n, e, 0, 0)
      · subst q
        refine (J0.all hE f _ g1).2 n hn ?_
        have hup : nd n 0 = 1 := h.2.1.2.1 n hn
        rcases go_cases (E := E) (s := (nd, (0, 99, n, e, 0, 0) :: r, y)) (a := (0, 99, n, e, 0, 0)) (r := r) rfl with ⟨w, -⟩ | ⟨w, -⟩ | ⟨-, -, -, w⟩ | ⟨-, -, w, -⟩
        · cases w
        · cases w
        · rw [w]
          show va_up nd n (pHearMap e (nd n)) n 4 = e
          rw [va_up_self]
          unfold pHearMap
          obtain ⟨-, -, -, -, -, rep, c, hJ, -⟩ := h.1
          have h0 : y 0 = e := h.2.1.1
          have h4 : nd n 4 ≤ y 0 := hJ.1.2.2.2.2.1 n
          by_cases z : nd n 4 < e
          · rw [if_pos z]; rfl
          · rw [if_neg z, pu_ne _ _ (by omega)]; omega
        · exact absurd hup w
      · refine ih _ g1 (g2 _ ?_) ?_
        · rcases List.mem_cons.mp ha with z | z
          · exact absurd z.symm q
          · exact z
        · have := wt_go (E := E) (s := (nd, b :: r, y)) (a := b) (r := r) rfl
          simp only at hw
          omega
/-- settle ends -/
theorem settle_ends (hE : eOk E) (hl : eL E e < eN E) (h : J0 E e s) : ∃ k, k < 1000 ∧ pDone (pIt E s (k + 1)) := by
  have hN7 := hE.2.1
  have w0 : wt s.2.1 ≤ 1000000 := by
    have := (wt_len s.2.1).2
    have := h.2.2
    omega
  obtain ⟨j0, -⟩ := J0.all hE 1000000 s h
  have p0 : (pBA E 1000000 s).2.1 = [] := pBA_empty _ _ w0
  have j1 : J0 E e (pTick E (pBA E 1000000 s)) := ⟨j0.1.tick hE, j0.2.1.tick hE j0.1, by
    show (List.take 64 _).length ≤ 64
    rw [List.length_take]; omega⟩
  have w1 : wt (pTick E (pBA E 1000000 s)).2.1 ≤ 1000000 := by
    have := (wt_len (pTick E (pBA E 1000000 s)).2.1).2
    have := j1.2.2
    omega
  obtain ⟨j2, j3⟩ := J0.all hE 1000000 _ j1
  have p2 : (pTurn E (pBA E 1000000 s)).2.1 = [] := pBA_empty _ _ w1
  have hin : ∀ n, n < eN E → (pTurn E (pBA E 1000000 s)).1 n 4 = e := fun n hn => by
    by_cases q : (pBA E 1000000 s).2.2 (20 + n) = e
    · exact j3 n hn (j1.2.1.2.2.1 n hn q)
    · refine J0.map hE hn 1000000 _ j1 ?_ w1
      have h0 : (pBA E 1000000 s).2.2 0 = e := j0.2.1.1
      have hy : (pBA E 1000000 s).2.2 (20 + n) ≤ (pBA E 1000000 s).2.2 0 := j0.1.2.2.2.2.1 n (by omega)
      have hm := in_proc (n := n) (ep := (pBA E 1000000 s).2.2 0) (hd := fun n => (pBA E 1000000 s).2.2 (20 + n)) (eN E) hn (by show (pBA E 1000000 s).2.2 (20 + n) < _; omega)
      rw [h0] at hm
      show _ ∈ pSend (pSend (pSend (pBA E 1000000 s).2.1 _) _) _
      rw [p0]
      have hl1 := proc_len (ep := (pBA E 1000000 s).2.2 0) (hd := fun n => (pBA E 1000000 s).2.2 (20 + n)) (eN E)
      refine send_left (send_left ?_ ?_) ?_
      · unfold pSend
        rw [List.nil_append, List.take_of_length_le (by omega), h0]
        exact hm
      · show (List.take 64 _).length ≤ 64
        rw [List.length_take]; omega
      · show (List.take 64 _).length ≤ 64
        rw [List.length_take]; omega
  have hK : K0 E e (pTurn E (pBA E 1000000 s)) := ⟨⟨j2.1, j2.2.1, hin, by rw [p2]; exact (fun m hm => by cases hm), by rw [p2]; exact Nat.zero_le _⟩, p2⟩
  obtain ⟨v, rv, hv⟩ := hK.ends hE hl
  obtain ⟨k, hk, rfl⟩ := (rch.one (pBA E 1000000 s)).trans rv
  refine ⟨k, by omega, ?_⟩
  rw [tn_it] at hv
  exact hv
end CHAIN
