/-! The machine as numbers: nodes, messages, desk, keeper of maps.
A node is x : Nat → Nat: 0 up, 1 dirty, 2 owes heard, 3 owes report, 4 epoch, 5 done, 6 end (known), 7 epoch, 8 done, 9 end (flushed), 10 ready, 11 base, 20+m heard of m, 30+m end of m, 40+m done of m.
A message: kind (0 MAP, 1 HEARD, 2 COMMAND, 3 ANSWER, 4 ASK, 5 REPORT, 6 FETCH, 7 ENTRIES, 8 WHOLE, 9 DROP), from, to, epoch, x (end, or a command's number), y (done). -/
abbrev pN : Type := Nat → Nat
abbrev pMsg : Type := Nat × Nat × Nat × Nat × Nat × Nat
def pu (x : pN) (f v : Nat) : pN := fun j => if j = f then v else x j
theorem pu_self (x : pN) (f v : Nat) : pu x f v f = v := by simp [pu]
theorem pu_ne (x : pN) {f j : Nat} (v : Nat) (h : j ≠ f) : pu x f v j = x j := by simp [pu, h]
/-- the node of the greatest rank in the set: 99 is nobody -/
def pGr : Nat → Nat → Nat
  | 0, _ => 99
  | n + 1, set => if set.testBit n = true ∧ (pGr n set = 99 ∨ pGr n set * 37 % 11 < n * 37 % 11) then n else pGr n set
def pCount : Nat → Nat → Nat
  | 0, _ => 0
  | n + 1, set => pCount n set + (if set.testBit n then 1 else 0)
/-- the keepers chosen first to last -/
def pCh (N set : Nat) : Nat → Nat
  | 0 => 0
  | i + 1 => pCh N set i ||| 2 ^ pGr N (set &&& (63 - pCh N set i))
def pKeep (N c set : Nat) : Nat := if pCount N set < c then 0 else pCh N set c
/-- what is fixed: nodes, copies, the set of the nodes in of each epoch -/
abbrev pE : Type := Nat × Nat × (Nat → Nat)
abbrev eN (E : pE) : Nat := E.1
abbrev eC (E : pE) : Nat := E.2.1
/-- the keepers of epoch e -/
abbrev eM (E : pE) (e : Nat) : Nat := pKeep (eN E) (eC E) (E.2.2 e)
/-- n keeps a copy in epoch e -/
def eK (E : pE) (e n : Nat) : Prop := (eM E e).testBit n = true
abbrev eKb (E : pE) (e n : Nat) : Bool := (eM E e).testBit n
abbrev eL (E : pE) (e : Nat) : Nat := pGr (eN E) (eM E e)
abbrev eQ (E : pE) : Nat := eN E - eC E + 1
def pFlush (x : pN) : pN := if x 1 = 1 then (fun j => if j = 7 then x 4 else if j = 8 then x 5 else if j = 9 then x 6 else if j = 1 then 0 else x j) else x
def pClear (x : pN) : pN := fun j => if (20 ≤ j ∧ j < 30) ∨ j = 10 ∨ j = 11 then 0 else x j
def pFail (kept : Bool) (x : pN) : pN := if kept then pFlush (pu x 0 0) else pClear (fun j => if j = 0 then 0 else if j = 4 then x 7 else if j = 5 then x 8 else if j = 6 then x 9 else if j = 1 ∨ j = 2 ∨ j = 3 then 0 else x j)
/-- follow the other log (end b, done d): done and end behind it -/
def pFolN (whole : Bool) (n b : Nat) : Nat := if n + 8 < b then (if whole then b else n) else max n b
def pFolD (whole : Bool) (k n d b : Nat) : Nat := if n + 8 < b then (if whole then d else k) else max k (min d (max n b))
/-- does follow say that it changed something -/
def pFolC (whole : Bool) (k n d b : Nat) : Bool := if n + 8 < b then whole else decide (n < b) || decide (k < min d (max n b))
def pFollow (whole : Bool) (d b : Nat) (x : pN) : pN := fun j => if j = 5 then pFolD whole (x 5) (x 6) d b else if j = 6 then pFolN whole (x 6) b else if j = 1 then (if pFolC whole (x 5) (x 6) d b then 1 else x 1) else if j = 3 then 1 else x j
def pHearMap (e : Nat) (x : pN) : pN := if x 4 < e then pClear (fun j => if j = 2 ∨ j = 1 ∨ j = 3 then 1 else if j = 4 then e else x j) else pu x 2 1
def pRemembers (x : pN) (i : Nat) : Bool := decide (i < x 5) && decide (x 5 ≤ i + 8)
def pAppend (x : pN) (i : Nat) : pN := if i = x 6 ∧ x 6 < x 5 + 8 then (fun j => if j = 6 then x 6 + 1 else if j = 1 then 1 else x j) else x
def pAns (n : Nat) (x : pN) (i : Nat) : pMsg := (3, n, 99, x 4, i, 0)
/-- a message comes to a node that is up: the node behind it, what it sends -/
def pHear (E : pE) (n : Nat) (x : pN) (m : pMsg) : pN × List pMsg :=
  if m.1 = 0 then (pHearMap m.2.2.2.1 x, [])
  else if m.2.2.2.1 ≠ x 4 then (x, [])
  else if m.1 = 2 then (if eL E (x 4) = n ∧ x 10 = 1 then (if pRemembers x m.2.2.2.2.1 then (x, [pAns n x m.2.2.2.2.1]) else (pAppend x m.2.2.2.2.1, [])) else (x, []))
  else if m.1 = 4 then (pu x 3 1, [])
  else if m.1 = 5 then ((fun j => if j = 20 + m.2.1 then 1 else if j = 30 + m.2.1 then m.2.2.2.2.1 else if j = 40 + m.2.1 then m.2.2.2.2.2 else x j), [])
  else if m.1 = 6 then (pu x 3 1, [(8, n, m.2.1, x 4, x 6, x 5)])
  else if m.1 = 7 then (pFollow false m.2.2.2.2.2 m.2.2.2.2.1 x, [])
  else if m.1 = 8 then (pFollow true m.2.2.2.2.2 m.2.2.2.2.1 x, [])
  else if m.1 = 9 then ((fun j => if j = 5 ∨ j = 6 then 0 else if j = 1 ∨ j = 3 then 1 else x j), [])
  else (x, [])
def pNote (x : pN) (m b d : Nat) : pN := fun j => if j = 20 + m then 1 else if j = 30 + m then b else if j = 40 + m then d else x j
def pSize : Nat → pN → Nat
  | 0, _ => 0
  | m + 1, x => pSize m x + (if x (20 + m) = 1 then 1 else 0)
def pFar : Nat → pN → Nat → Nat
  | 0, _, self => self
  | m + 1, x, self => if x (20 + m) = 1 ∧ x (30 + pFar m x self) < x (30 + m) then m else pFar m x self
def pAgr (mask : Nat) : Nat → pN → Nat
  | 0, _ => 512
  | m + 1, x => if mask.testBit m then min (pAgr mask m x) (if x (20 + m) = 1 then x (30 + m) else 0) else pAgr mask m x
def pAgreed (E : pE) (x : pN) : Nat := pAgr (eM E (x 4)) (eN E) x
def pPrep (E : pE) (n : Nat) (x : pN) : pN × List pMsg :=
  if x 10 = 1 then (x, []) else if pSize (eN E) x < eQ E then (x, [])
  else if pFar (eN E) x n = n then ((fun j => if j = 10 then 1 else if j = 11 then x 6 else x j), []) else (x, [(6, n, pFar (eN E) x n, x 4, 0, 0)])
def pDo (E : pE) (n : Nat) (x : pN) : pN × List pMsg :=
  if x 10 = 1 then ((fun j => if j = 5 then max (x 5) (min (pAgreed E x) (x 6)) else if j = 1 then (if x 5 < min (pAgreed E x) (x 6) then 1 else x 1) else x j),
    (List.range (max (x 5) (min (pAgreed E x) (x 6)) - x 5)).map (fun i => pAns n x (x 5 + i))) else (x, [])
def pGuide (E : pE) (n : Nat) (x : pN) (m : Nat) : List pMsg :=
  if x (20 + m) ≠ 1 then [(4, n, m, x 4, 0, 0)]
  else if x 10 = 1 ∧ eKb E (x 4) m then (if x (30 + m) < x 6 ∨ x (40 + m) < x 5 then [(if x (30 + m) + 8 < x 6 then 8 else 7, n, m, x 4, x 6, x 5)] else [])
  else if x 10 = 1 ∧ 0 < x (30 + m) ∧ x 11 ≤ pAgreed E x then [(9, n, m, x 4, 0, 0)] else []
def pLead (E : pE) (n : Nat) (x : pN) : pN × List pMsg :=
  let x1 := pNote x n (x 6) (x 5)
  let a := pPrep E n x1
  let b := pDo E n a.1
  (b.1, a.2 ++ b.2 ++ (List.range (eN E)).flatMap (fun m => if m = n then [] else pGuide E n b.1 m))
def pWork (E : pE) (n : Nat) (x : pN) : pN × List pMsg :=
  if x 0 ≠ 1 then (x, []) else
  let x1 := pFlush x
  let h := if x1 2 = 1 then [((1, n, 99, x1 4, 0, 0) : pMsg)] else []
  let x2 := if x1 2 = 1 then pu x1 2 0 else x1
  if eL E (x2 4) = n then (pu (pLead E n x2).1 3 0, h ++ (pLead E n x2).2)
  else (pu x2 3 0, h ++ (if x2 3 = 1 ∧ eL E (x2 4) ≠ 99 then [((5, n, eL E (x2 4), x2 4, x2 6, x2 5) : pMsg)] else []))
/-- the post: 64 fit -/
def pSend (post : List pMsg) (ms : List pMsg) : List pMsg := (post ++ ms).take 64
