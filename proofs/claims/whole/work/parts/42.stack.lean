/-! the reference's stack, from the class's state -/
def sB (k x : Nat) : List Nat := if x = 0 then [if k = 0 then 21 else 24, 17] else if x = 2 then [25] else if x = 3 then [27] else if k = 0 then [22] else [29]
def sL : Nat → List Nat
  | 0 => []
  | d + 1 => sL d ++ [9, 11]
def sEnd (l : Nat) : Bool := l == 8 || l == 14 || l == 17 || l == 20 || l == 21
def skr (k l x d : Nat) (B : List Nat) : List Nat := if l = 15 then B ++ sL (d - 1) ++ [9, 10] else if sEnd l then B ++ sL d else B ++ sL d ++ [pTop k l x true]
def sFlat (l : Nat) : Bool := l == 0 || l == 5 || l == 22 || l == 23
def sPar (l : Nat) : Bool := l == 1 || l == 2 || l == 3
def sk (k l d x : Nat) : List Nat := if sFlat l then [pTop k l x false] else if sPar l then [if k = 0 then 21 else 24, pTop k l x false] else skr k l x d (sB k x)
def sAp (o : PO) (L : List Nat) : List Nat := if o.2.1 = 1 ∨ o.2.1 = 4 then L.dropLast ++ [o.2.2.1] else if o.2.1 = 2 then L.dropLast ++ [o.2.2.1, o.2.2.2] else if o.2.1 = 3 then L.dropLast else L
def sChk0 (k l x c : Nat) : Bool :=
  !pOk k l x false || pRole k l 0 x c == 0 || (sk k (pRole k l 0 x c) (pDep (pRole k l 0 x c) 0) (pSec (pRole k l 0 x c) x) == sAp (gStep (pTop k l x false) c) (sk k l 0 x) && pOk k (pRole k l 0 x c) (pSec (pRole k l 0 x c) x) (pRole k l 0 x c == 15) && (gStep (pTop k l x false) c).2.1 != 0)
def sChk1 (k l x c : Nat) : Bool :=
  !pOk k l x true || pRole k l 1 x c == 0 || (skr k (pRole k l 1 x c) x (pDep (pRole k l 1 x c) 1) [] == sAp (gStep (pTop k l x true) c) (skr k l x 1 []) && pSec (pRole k l 1 x c) x == x && (if pRole k l 1 x c = 16 then pOk k 16 x false && pOk k 16 x true else pOk k (pRole k l 1 x c) x true) && !sFlat (pRole k l 1 x c) && !sPar (pRole k l 1 x c) && !sFlat l && !sPar l && (gStep (pTop k l x true) c).2.1 != 0)
set_option maxRecDepth 100000 in
theorem sChk_all : pAll 3 (fun k => pAll 4 (fun x => pAll 25 (fun l => pAll 127 (fun c => sChk0 k l x c && sChk1 k l x c)))) = true := by decide +kernel
