/-! the reader as a mathematical machine: roles of characters (the class's numbering), the reference's stack of states -/
/-- a character of a NAME -/
def pNm (c : Nat) : Bool := !(c == 46 || c == 59 || c == 47 || c == 58 || c == 60 || c == 62 || c == 91)
def pBs (c : Nat) : Bool := c == 66 || c == 67 || c == 68 || c == 70 || c == 73 || c == 74 || c == 83 || c == 90
def pRef (c : Nat) : Nat := if c = 76 then 9 else if c = 84 then 6 else if c = 91 then 19 else 0
def pName (c r : Nat) : Nat := if pNm c then r else 0
def pType (c : Nat) : Nat := if pBs c then 20 else pRef c
def pArg (c : Nat) : Nat := if c = 42 then 17 else if c = 43 then 18 else if c = 45 then 18 else pRef c
def pClose (c o : Nat) : Nat := if c = 46 then 12 else if c = 59 then 14 else o
def pSeg (c r : Nat) : Nat := if c = 60 then 15 else pClose c (pName c r)
def pTys (c : Nat) : Nat := if c = 41 then 23 else pType c
def pBnd (c : Nat) : Nat := if c = 58 then 4 else if c = 62 then 5 else pName c 2
def pFst (c : Nat) : Nat := if pRef c = 0 then pBnd c else pRef c
def pBody (k c : Nat) : Nat := if k = 1 then (if c = 40 then 22 else 0) else (if c = 76 then 9 else 0)
def pStart (k c : Nat) : Nat := if k = 2 then pRef c else if c = 60 then 1 else pBody k c
def pItem (k x d c : Nat) : Nat :=
  if 0 < d then (if c = 62 then 16 else pArg c)
  else if x = 0 then pBnd c else if x = 2 then pTys c else if x = 3 then (if c = 94 then 24 else 0)
  else if k = 0 then (if c = 76 then 9 else 0) else 0
/-- the role of the character c behind one of role l, at depth d in section x, in a signature of kind k -/
def pRole (k l d x c : Nat) : Nat :=
  if l = 0 then pStart k c
  else if l = 1 then pName c 2
  else if l = 2 then (if c = 58 then 3 else pName c 2)
  else if l = 3 then pFst c
  else if l = 4 then pRef c
  else if l = 5 then pBody k c
  else if l = 6 then pName c 7
  else if l = 7 then (if c = 59 then 8 else pName c 7)
  else if l = 9 then pName c 10
  else if l = 10 then (if c = 47 then 11 else pSeg c 10)
  else if l = 11 then pName c 10
  else if l = 12 then pName c 13
  else if l = 13 then pSeg c 13
  else if l = 15 then pArg c
  else if l = 16 then pClose c 0
  else if l = 18 then pRef c
  else if l = 19 then pType c
  else if l = 22 then pTys c
  else if l = 23 then (if c = 86 then 21 else pType c)
  else if l = 24 then (if c = 91 then 0 else pRef c)
  else pItem k x d c
def pSec (r x : Nat) : Nat := if r = 1 then 0 else if r = 5 then 1 else if r = 22 then 2 else if r = 23 then 3 else x
def pDep (r d : Nat) : Nat := if r = 15 then d + 1 else if r = 16 then d - 1 else d
/-- the reference's role -/
def pTr (r c : Nat) : Nat :=
  if r = 1 then 16 else if r = 2 then 17 else if r = 3 then 18 else if r = 4 then 19 else if r = 5 then 20 else if r = 6 then 2 else if r = 7 then 14 else if r = 8 then 15 else if r = 9 then 1 else if r = 10 then 5
  else if r = 11 then 6 else if r = 12 then 7 else if r = 13 then 5 else if r = 14 then 9 else if r = 15 then 8 else if r = 16 then 13 else if r = 17 then 10 else if r = 18 then (if c = 43 then 11 else 12)
  else if r = 19 then 3 else if r = 20 then 4 else if r = 21 then 23 else if r = 22 then 21 else if r = 23 then 22 else if r = 24 then 24 else 0
/-! the reference's machine: what it does to its stack of states: 0 nothing, 1 go a, 2 push a b, 3 pop, 4 pop behind a push (a BASE) -/
abbrev PO : Type := Nat × Nat × Nat × Nat
def gGo (a w : Nat) : PO := (w, 1, a, 0)
def gPush (a b w : Nat) : PO := (w, 2, a, b)
def gPop (w : Nat) : PO := (w, 3, 0, 0)
def g0 : PO := (0, 0, 0, 0)
def gStart (q c : Nat) : PO := if q = 1 ∧ pBs c = true then gPop 4 else if c = 76 then gGo 5 1 else if c = 84 ∧ q ≠ 3 then gGo 12 2 else if c = 91 ∧ q ≤ 2 then gGo 1 3 else g0
/-- a push of (a, b) and then the start in b -/
def gInner (a b c : Nat) : PO := if b = 1 ∧ pBs c = true then (4, 4, a, b) else if c = 76 then (1, 2, a, 5) else if c = 84 ∧ b ≠ 3 then (2, 2, a, 12) else if c = 91 ∧ b ≤ 2 then (3, 2, a, 1) else g0
def gClass (q c : Nat) : PO :=
  if pNm c then (if q = 9 then g0 else gGo (if q < 7 then 6 else 8) 5)
  else if c = 47 ∧ q = 6 then gGo 5 6
  else if c = 60 ∧ (q = 6 ∨ q = 8) then gPush 9 10 8
  else if ¬ (q = 6 ∨ q = 8) ∧ q ≠ 9 then g0
  else if c = 46 then gGo 7 7 else if c = 59 then gPop 9 else g0
def gArgs (q c : Nat) : PO := if c = 42 then gGo 11 10 else if c = 43 then gPush 11 2 11 else if c = 45 then gPush 11 2 12 else if c = 62 then (if q = 11 then gPop 13 else g0) else gInner 11 2 c
/-- at 15 behind a : the name must not be taken: asked apart -/
def gPars (q c : Nat) : PO :=
  if q = 15 then (if pNm c then (17, 5, 0, 0) else if c = 58 then gGo 16 18 else g0)
  else if 15 < q ∧ c = 62 then gPop 20
  else if 15 < q ∧ c = 58 then gPush 17 2 19
  else if q = 16 ∧ (c = 76 ∨ c = 84 ∨ c = 91) then gInner 17 2 c
  else if pNm c then gGo 15 17 else g0
def gStep (q c : Nat) : PO :=
  if q ≤ 4 then gStart q c
  else if q ≤ 9 then gClass q c
  else if q ≤ 11 then gArgs q c
  else if q ≤ 13 then (if pNm c then gGo 13 14 else if q = 13 ∧ c = 59 then gPop 15 else g0)
  else if q ≤ 17 then gPars q c
  else if q = 20 then (if c = 60 then gPush 21 14 16 else if c = 76 then gPush 22 5 1 else g0)
  else if q = 21 ∨ q = 22 then (if c = 76 then gPush 22 5 1 else g0)
  else if q = 23 then (if c = 60 then gPush 24 14 16 else if c = 40 then gGo 25 21 else g0)
  else if q = 24 then (if c = 40 then gGo 25 21 else g0)
  else if q = 25 then (if c = 41 then gGo 26 22 else gInner 25 1 c)
  else if q = 26 then (if c = 86 then gGo 27 23 else gInner 27 1 c)
  else if q = 27 then (if c = 94 then gPush 27 4 24 else g0)
  else if q = 28 then gInner 29 2 c
  else g0
/-- the top of the reference's stack, from the class's state (dp: the depth is not 0) -/
def pCtx (k x : Nat) : Nat := if x = 0 then 17 else if x = 2 then 25 else if x = 3 then 27 else if k = 0 then 22 else 29
def pTop (k l x : Nat) (dp : Bool) : Nat :=
  if l = 0 then (if k = 0 then 20 else if k = 1 then 23 else 28)
  else if l = 1 then 14 else if l = 2 then 15 else if l = 3 then 16 else if l = 4 then 2 else if l = 5 then (if k = 0 then 21 else 24)
  else if l = 6 then 12 else if l = 7 then 13 else if l = 9 then 5 else if l = 10 then 6 else if l = 11 then 5 else if l = 12 then 7 else if l = 13 then 8
  else if l = 15 then 10 else if l = 16 then 9 else if l = 18 then 2 else if l = 19 then 1 else if l = 22 then 25 else if l = 23 then 26 else if l = 24 then 4
  else if dp then 11 else pCtx k x
/-- which states the class's reader comes to -/
def pOk (k l x : Nat) (dp : Bool) : Bool :=
  decide (k < 3) && decide (l < 25) && decide (x < 4) &&
  (if k = 0 then decide (x < 2) else if k = 2 then decide (x = 1) else true) &&
  (if l = 0 then decide (x = 1) && !dp else if l = 1 || l = 2 || l = 3 || l = 4 then decide (x = 0) && !dp && decide (k < 2) else if l = 5 then decide (x = 1) && !dp && decide (k < 2)
   else if l = 22 then decide (x = 2) && !dp && decide (k = 1) else if l = 23 then decide (x = 3) && !dp && decide (k = 1) else if l = 24 then decide (x = 3) && !dp && decide (k = 1) else if l = 21 then decide (x = 3) && !dp && decide (k = 1)
   else if l = 15 || l = 17 || l = 18 then dp && (decide (k ≠ 1) || decide (x ≠ 1)) else (decide (k ≠ 1) || decide (x ≠ 1)))
def pAll : Nat → (Nat → Bool) → Bool
  | 0, _ => true
  | n + 1, f => f n && pAll n f
theorem pAll_ok : ∀ (n : Nat) (f : Nat → Bool), pAll n f = true → ∀ i, i < n → f i = true
  | 0, _, _, _, h => absurd h (Nat.not_lt_zero _)
  | n + 1, f, h, i, hi => by
    simp only [pAll, Bool.and_eq_true] at h
    rcases Nat.lt_succ_iff_lt_or_eq.mp hi with q | q
    · exact pAll_ok n f h.2 i q
    · rw [q]; exact h.1
/-- one step: the roles agree -/
def pChk (k l x c : Nat) (dp : Bool) : Bool :=
  !pOk k l x dp || (pTr (pRole k l (if dp then 1 else 0) x c) c == (gStep (pTop k l x dp) c).1)
set_option maxRecDepth 100000 in
theorem pChk_all : pAll 3 (fun k => pAll 4 (fun x => pAll 25 (fun l => pAll 127 (fun c => pChk k l x c true && pChk k l x c false)))) = true := by decide +kernel
