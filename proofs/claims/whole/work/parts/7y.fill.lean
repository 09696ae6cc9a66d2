/-! fill: the text, and how it reads -/
def cF (k : Nat) (t : Nat → Nat) (n e : Nat) : Nat := if aC k t n = 1 then 0 else aB k t n e
def cT (k : Nat) (t : Nat → Nat) (n e : Nat) : Nat := if aC k t n = 1 then aO k t n else pE k t n e
/-- the filled text, from j on -/
def fl (k : Nat) (t : Nat → Nat) (n e : Nat) (tf : Nat → Nat) (nf : Nat) : Nat → Nat → List Nat
  | 0, _ => []
  | w + 1, j => if j < n then (if cF k t n e ≤ j ∧ j < cT k t n e then fl k t n e tf nf w (j + 1) else if dA k t n j = some e then wr tf nf ++ fl k t n e tf nf w (nE k t n 7 (j + 1) + 1) else t j :: fl k t n e tf nf w (j + 1)) else []
theorem cFT {k : Nat} {t : Nat → Nat} {n e : Nat} (hg : Gd k t n) (he : e < aC k t n) : cF k t n e < cT k t n e ∧ cT k t n e ≤ aO k t n ∧ aO k t n ≤ n := by
  have h1 := pE_in hg he
  have h2 := O_1 hg (show 0 < aC k t n by omega)
  unfold cF cT
  split <;> omega
theorem fl_cut {k : Nat} {t : Nat → Nat} {n e : Nat} {tf : Nat → Nat} {nf : Nat} (hn : cT k t n e ≤ n) : ∀ m j w, cT k t n e - j = m → cF k t n e ≤ j → j ≤ cT k t n e → fl k t n e tf nf (w + m) j = fl k t n e tf nf w (cT k t n e) := by
  intro m
  induction m with
  | zero =>
    intro j w h1 h2 h3
    obtain rfl : j = cT k t n e := by omega
    rfl
  | succ m ih =>
    intro j w h1 h2 h3
    show (if j < n then (if cF k t n e ≤ j ∧ j < cT k t n e then fl k t n e tf nf (w + m) (j + 1) else _) else []) = _
    rw [if_pos (by omega), if_pos ⟨h2, by omega⟩]
    exact ih (j + 1) w (by omega) (by omega) (by omega)
theorem fl_copy {k : Nat} {t : Nat → Nat} {n e : Nat} {tf : Nat → Nat} {nf w j : Nat} (hj : j < n) (hc : ¬ (cF k t n e ≤ j ∧ j < cT k t n e)) (hd : dA k t n j ≠ some e) : fl k t n e tf nf (w + 1) j = t j :: fl k t n e tf nf w (j + 1) := by
  show (if j < n then (if cF k t n e ≤ j ∧ j < cT k t n e then _ else if dA k t n j = some e then _ else _) else []) = _
  rw [if_pos hj, if_neg hc, if_neg hd]
theorem fl_var {k : Nat} {t : Nat → Nat} {n e : Nat} {tf : Nat → Nat} {nf w j : Nat} (hj : j < n) (hc : ¬ (cF k t n e ≤ j ∧ j < cT k t n e)) (hd : dA k t n j = some e) : fl k t n e tf nf (w + 1) j = wr tf nf ++ fl k t n e tf nf w (nE k t n 7 (j + 1) + 1) := by
  show (if j < n then (if cF k t n e ≤ j ∧ j < cT k t n e then _ else if dA k t n j = some e then _ else _) else []) = _
  rw [if_pos hj, if_neg hc, if_pos hd]
/-- the text u holds the list L from p on -/
def At (u : Nat → Nat) (p : Nat) (L : List Nat) : Prop := ∀ i, i < L.length → u (p + i) = L.getD i 0
theorem At.app {u : Nat → Nat} {p : Nat} {A B : List Nat} (h : At u p (A ++ B)) : At u p A ∧ At u (p + A.length) B := by
  refine ⟨fun i hi => ?_, fun i hi => ?_⟩
  · rw [h i (by rw [List.length_append]; omega), gD_app hi]
  · have := h (A.length + i) (by rw [List.length_append]; omega)
    rw [← Nat.add_assoc] at this
    rw [this]
    simp [List.getD_eq_getElem?_getD, List.getElem?_append_right]
theorem At.cons {u : Nat → Nat} {p c : Nat} {B : List Nat} (h : At u p (c :: B)) : u p = c ∧ At u (p + 1) B := by
  refine ⟨by have := h 0 (by simp); simpa using this, fun i hi => ?_⟩
  have := h (i + 1) (by simp; omega)
  rw [show p + 1 + i = p + (i + 1) by omega, this]
  simp
def lE (a b : Nat) : Prop := a = b ∨ (eI a = true ∧ eI b = true)
theorem pRole_lE {k a b d x c : Nat} (h : lE a b) : pRole k a d x c = pRole k b d x c := by
  rcases h with rfl | ⟨h1, h2⟩
  · rfl
  · have e : ∀ a, eI a = true → pRole k a d x c = pItem k x d c := by
      intro a ha
      rcases eI_iff.mp ha with r | r | r | r | r <;> rw [r] <;> rfl
    rw [e a h1, e b h2]
/-- the two readers stand alike: D at p, the old text at j; c: the parameter is cut -/
def FS (k : Nat) (u t : Nat → Nat) (p j c : Nat) : Prop := (aS k u p).2.1 = (aS k t j).2.1 ∧ (aS k u p).2.2 = (aS k t j).2.2 ∧ lE (aS k u p).1 (aS k t j).1 ∧ aC k u p + c = aC k t j
theorem FS_role {k : Nat} {u t : Nat → Nat} {p j c : Nat} (h : FS k u t p j c) (e : u p = t j) : aR k u p = aR k t j := by
  unfold aR
  rw [h.1, h.2.1, e, pRole_lE h.2.2.1]
theorem FS_next {k : Nat} {u t : Nat → Nat} {p j c : Nat} (h : FS k u t p j c) (e : u p = t j) : FS k u t (p + 1) (j + 1) c := by
  have hr := FS_role h e
  refine ⟨by rw [aS_succ, aS_succ, hr, h.1], by rw [aS_succ, aS_succ, hr, h.2.1], Or.inl (by rw [aS_succ, aS_succ]; exact hr), ?_⟩
  have hN : aN k u p = aN k t j := by
    unfold aN
    rw [hr]
    have : ((aS k u p).1 == 2) = ((aS k t j).1 == 2) := by
      rcases h.2.2.1 with q | ⟨q1, q2⟩
      · rw [q]
      · have a := eI_iff.mp q1
        have b := eI_iff.mp q2
        have e1 : ((aS k u p).1 == 2) = false := by simp; omega
        have e2 : ((aS k t j).1 == 2) = false := by simp; omega
        rw [e1, e2]
    rw [this]
  show (if aN k u p = true then aC k u p + 1 else aC k u p) + c = (if aN k t j = true then aC k t j + 1 else aC k t j)
  rw [hN]
  have := h.2.2.2
  split <;> omega
/-! a REFERENCE within another text reads as by itself -/
def inF (l : Nat) : Bool := l == 6 || l == 7 || l == 8 || l == 9 || l == 10 || l == 11 || l == 12 || l == 13 || l == 14 || l == 15 || l == 16 || l == 17 || l == 18 || l == 19 || l == 20
/-- a field's reader stays within these roles -/
def stV (k l x : Nat) (dp : Bool) (c r : Nat) : Bool := r == 0 || !(k == 2) || (inF r && (l == 0 || inF l) && (if l = 0 then r == pRef c else true))
theorem stV_all : pAll 3 (fun k => pAll 4 (fun x => pAll 25 (fun l => pAll 127 (fun c => stQ stV k x l c)))) = true := by decide +kernel
/-- .. and so does it in another text -/
def nst (k x l c : Nat) : Bool := !inF l || ((pRole k l 1 x c == pRole 2 l 1 1 c) && (eI l || (pRole k l 0 x c == pRole 2 l 0 1 c && pRole k l 1 x c == pRole 2 l 0 1 c)))
theorem nst_all : pAll 3 (fun k => pAll 4 (fun x => pAll 25 (fun l => pAll 127 (fun c => nst k x l c)))) = true := by decide +kernel
/-- where a variable may stand, a REFERENCE may -/
def stW (k l x : Nat) (dp : Bool) (c r : Nat) : Bool := !(c == 84 && r == 6) || ((pRole k l (if dp then 1 else 0) x 76 == 9) && (l == 24 || pRole k l (if dp then 1 else 0) x 91 == 19) && pRole k l (if dp then 1 else 0) x 84 == 6 && (!(l == 24) || pRole k l (if dp then 1 else 0) x 91 == 0))
theorem stW_all : pAll 3 (fun k => pAll 4 (fun x => pAll 25 (fun l => pAll 127 (fun c => stQ stW k x l c)))) = true := by decide +kernel
theorem role_dep {k l d x c : Nat} : pRole k l d x c = pRole k l (if 0 < d then 1 else 0) x c := by
  by_cases h : 0 < d
  · rw [if_pos h, pRole_dep h]
  · rw [if_neg h]
    obtain rfl : d = 0 := by omega
    rfl
theorem eI_21 {l : Nat} (h : eI l = true) (hF : inF l = true) : l = 14 ∨ l = 8 ∨ l = 20 ∨ l = 17 := by
  have := eI_iff.mp h
  simp only [inF, Bool.or_eq_true, beq_iff_eq] at hF
  omega
/-- reading a field's text from p on, where a variable might stand -/
theorem nest {k : Nat} {u tf : Nat → Nat} {nf p : Nat} (hf : Gd 2 tf nf) (hk : k < 3) (hx : (aS k u p).2.2 < 4) (hA : ∀ i, i < nf → u (p + i) = tf i) (h0 : aR k u p = aR 2 tf 0) :
    ∀ i, 1 ≤ i → i ≤ nf → (aS k u (p + i)).1 = (aS 2 tf i).1 ∧ (aS k u (p + i)).2.1 = (aS k u p).2.1 + (aS 2 tf i).2.1 ∧ (aS k u (p + i)).2.2 = (aS k u p).2.2 ∧ aC k u (p + i) = aC k u p ∧ inF (aS 2 tf i).1 = true := by
  have hn0 : 0 < nf := by
    rcases Nat.eq_zero_or_pos nf with q | q
    · have := end_l hf
      rw [q] at this
      simp [aS] at this
    · exact q
  have vF : ∀ i, i < nf → inF (aR 2 tf i) = true := by
    intro i hi
    have c := st_all _ stV_all hf hi
    have h0 := hf.r0 hi
    unfold stV at c
    simp only [beq_self_eq_true, Bool.not_true, Bool.or_false, Bool.or_eq_true, Bool.and_eq_true, beq_iff_eq] at c
    rcases c with c | c
    · exact absurd c h0
    · exact c.1.1
  have stp : ∀ (q : Nat) (r : Nat), aR k u q = r → inF r = true → (aS k u (q + 1)).1 = r ∧ (aS k u (q + 1)).2.1 = pDep r (aS k u q).2.1 ∧ (aS k u (q + 1)).2.2 = (aS k u q).2.2 ∧ aC k u (q + 1) = aC k u q := by
    intro q r hr hF
    have hF2 : r ≠ 1 ∧ r ≠ 2 ∧ r ≠ 5 ∧ r ≠ 22 ∧ r ≠ 23 := by
      simp only [inF, Bool.or_eq_true, beq_iff_eq] at hF
      omega
    refine ⟨by rw [aS_succ]; exact hr, by rw [aS_succ, hr], by rw [sec_next, hr, if_neg hF2.1, if_neg hF2.2.2.1, if_neg hF2.2.2.2.1, if_neg hF2.2.2.2.2], ?_⟩
    have : aN k u q = false := by simp [aN, hr, hF2.2.1]
    show (if aN k u q = true then _ else aC k u q) = _
    rw [this]; rfl
  intro i h1
  induction h1 with
  | refl =>
    intro _
    obtain ⟨a1, a2, a3, a4⟩ := stp p (aR 2 tf 0) h0 (vF 0 hn0)
    have hr := vF 0 hn0
    have n16 : aR 2 tf 0 ≠ 16 := fun z => by
      have := pRole_16 z
      simp [aS] at this
    refine ⟨by rw [aS_succ 2 tf 0]; exact a1, ?_, a3, a4, by rw [aS_succ]; exact hr⟩
    rw [a2, aS_succ 2 tf 0]
    show pDep (aR 2 tf 0) (aS k u p).2.1 = (aS k u p).2.1 + pDep (aR 2 tf 0) 0
    unfold pDep
    rw [if_neg n16, if_neg n16]
    split <;> omega
  | @step i h1 ih =>
    intro h2
    have h1' : 1 ≤ i := h1
    obtain ⟨i1, i2, i3, i4, i5⟩ := ih (by omega)
    have hin : i < nf := by omega
    have hc := (hf.2.2.1 i hin).2
    have hls := aS_lt 2 tf i
    -- the roles agree
    have hx1 : (aS 2 tf i).2.2 = 1 := by
      have hok := hf.ok (p := i) (by omega)
      simp only [pOk, Bool.and_eq_true, decide_eq_true_eq] at hok
      have := hok.1.2
      simpa using this
    have cc := pAll_ok _ _ (pAll_ok _ _ (pAll_ok _ _ (pAll_ok _ _ nst_all k hk) _ hx) _ hls.1) _ hc
    unfold nst at cc
    rw [i5] at cc
    simp only [Bool.not_true, Bool.false_or, Bool.and_eq_true, Bool.or_eq_true, beq_iff_eq] at cc
    obtain ⟨c1, c2⟩ := cc
    have hRf : aR 2 tf i = pRole 2 (aS 2 tf i).1 (if 0 < (aS 2 tf i).2.1 then 1 else 0) 1 (tf i) := by
      unfold aR
      rw [hx1, role_dep]
    have hRu : aR k u (p + i) = pRole k (aS 2 tf i).1 (if 0 < (aS k u p).2.1 + (aS 2 tf i).2.1 then 1 else 0) (aS k u p).2.2 (tf i) := by
      unfold aR
      rw [i1, i2, i3, hA i hin, role_dep]
    have hR : aR k u (p + i) = aR 2 tf i := by
      rw [hRf, hRu]
      by_cases hd : 0 < (aS 2 tf i).2.1
      · rw [if_pos hd, if_pos (by omega)]; exact c1
      · rw [if_neg hd]
        have ne : eI (aS 2 tf i).1 = false := by
          cases he : eI (aS 2 tf i).1
          · rfl
          · exact absurd ⟨rfl, by omega, he⟩ (stH_of hf hin).2.2.2
        rw [ne] at c2
        simp only [Bool.false_eq_true, false_or] at c2
        by_cases hd2 : 0 < (aS k u p).2.1 + (aS 2 tf i).2.1
        · rw [if_pos hd2]; exact c2.2
        · rw [if_neg hd2]; exact c2.1
    obtain ⟨a1, a2, a3, a4⟩ := stp (p + i) (aR 2 tf i) hR (vF i hin)
    refine ⟨by rw [aS_succ 2 tf i]; exact a1, ?_, a3.trans i3, a4.trans i4, by rw [aS_succ]; exact vF i hin⟩
    show (aS k u (p + i + 1)).2.1 = _
    rw [a2, i2, aS_succ 2 tf i]
    show pDep (aR 2 tf i) ((aS k u p).2.1 + (aS 2 tf i).2.1) = (aS k u p).2.1 + pDep (aR 2 tf i) (aS 2 tf i).2.1
    unfold pDep
    by_cases r15 : aR 2 tf i = 15
    · rw [if_pos r15, if_pos r15]; omega
    · rw [if_neg r15, if_neg r15]
      by_cases r16 : aR 2 tf i = 16
      · have := pRole_16 r16
        rw [if_pos r16, if_pos r16]; omega
      · rw [if_neg r16, if_neg r16]
