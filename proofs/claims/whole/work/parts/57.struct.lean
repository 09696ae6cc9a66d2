/-! where the parameters stand -/
/-- sections: what a step may do -/
def stX (k l x : Nat) (dp : Bool) (c r : Nat) : Bool :=
  r == 0 || ((if r = 1 then l == 0 else true) && (if r = 5 || r = 2 || r = 3 || r = 4 then x == 0 && !dp else true) && (if l = 3 || l = 4 || l = 2 || l = 1 then x == 0 else true) && (if l = 4 then r == 9 || r == 6 || r == 19 else true) && (if l = 5 then x == 1 else true) && (if l = 0 then x == 1 else true))
theorem stX_all : pAll 3 (fun k => pAll 4 (fun x => pAll 25 (fun l => pAll 127 (fun c => stQ stX k x l c)))) = true := by decide +kernel
theorem stX_of {k : Nat} {t : Nat → Nat} {n p : Nat} (hg : Gd k t n) (hp : p < n) : (aR k t p = 1 → (aS k t p).1 = 0) ∧ (aR k t p = 5 ∨ aR k t p = 2 ∨ aR k t p = 3 ∨ aR k t p = 4 → (aS k t p).2.2 = 0 ∧ (aS k t p).2.1 = 0) ∧ ((aS k t p).1 = 3 ∨ (aS k t p).1 = 4 ∨ (aS k t p).1 = 2 ∨ (aS k t p).1 = 1 → (aS k t p).2.2 = 0) ∧ ((aS k t p).1 = 4 → aR k t p = 9 ∨ aR k t p = 6 ∨ aR k t p = 19) ∧ ((aS k t p).1 = 5 → (aS k t p).2.2 = 1) := by
  have c := st_all _ stX_all hg hp
  have h0 := hg.r0 hp
  unfold stX at c
  simp only [Bool.or_eq_true, Bool.and_eq_true, beq_iff_eq, decide_eq_true_eq, Bool.not_eq_true', decide_eq_false_iff_not] at c
  rcases c with c | c
  · exact absurd c h0
  · obtain ⟨⟨⟨⟨⟨c1, c2⟩, c3⟩, c4⟩, c5⟩, c6⟩ := c
    refine ⟨fun z => by simpa [z] using c1, fun z => ?_, fun z => ?_, fun z => ?_, fun z => by simpa [z] using c5⟩
    · rw [if_pos (by omega)] at c2
      simp only [Bool.and_eq_true, beq_iff_eq, Bool.not_eq_true', decide_eq_false_iff_not] at c2
      omega
    · rw [if_pos (by omega)] at c3
      simpa using c3
    · rw [if_pos z] at c4
      simp only [Bool.or_eq_true, beq_iff_eq] at c4
      omega
theorem l_0 {k : Nat} {t : Nat → Nat} {n p : Nat} (hg : Gd k t n) (hp : p ≤ n) (h : (aS k t p).1 = 0) : p = 0 := by
  cases p with
  | zero => rfl
  | succ p => rw [aS_succ] at h; exact absurd h (hg.r0 (by omega))
theorem sec_next {k : Nat} {t : Nat → Nat} {p : Nat} : (aS k t (p + 1)).2.2 = if aR k t p = 1 then 0 else if aR k t p = 5 then 1 else if aR k t p = 22 then 2 else if aR k t p = 23 then 3 else (aS k t p).2.2 := by rw [aS_succ]; rfl
/-- the section of parameters, the body's begin -/
theorem sec_O {k : Nat} {t : Nat → Nat} {n : Nat} (hg : Gd k t n) : ∀ p, p ≤ n →
    ((aS k t p).2.2 = 0 → aO k t p = 0 ∧ 0 < p ∧ (∀ j, j < p → aR k t j ≠ 5)) ∧ ((aS k t p).2.2 ≠ 0 → (aC k t p = 0 ∧ aO k t p = 0 ∧ (∀ j, j < p → aR k t j ≠ 5)) ∨ (0 < aC k t p ∧ 1 < aO k t p ∧ aO k t p ≤ p ∧ aR k t (aO k t p - 1) = 5 ∧ (∀ j, j < p → aR k t j = 5 → j = aO k t p - 1) ∧ (∀ j, aO k t p ≤ j → j ≤ p → (aS k t j).2.2 ≠ 0)))
  | 0, _ => ⟨fun z => absurd z (show ¬ (1 : Nat) = 0 by decide), fun _ => Or.inl ⟨rfl, rfl, fun j hj => absurd hj (by omega)⟩⟩
  | p + 1, hp => by
    obtain ⟨i1, i2⟩ := sec_O hg p (by omega)
    obtain ⟨s1, s2, s3, s4, s5⟩ := stX_of hg (p := p) (by omega)
    have hC : aC k t (p + 1) = if aN k t p = true then aC k t p + 1 else aC k t p := rfl
    have hO : aO k t (p + 1) = if aR k t p = 5 then p + 1 else aO k t p := rfl
    have hx := sec_next (k := k) (t := t) (p := p)
    by_cases r1 : aR k t p = 1
    · have p0 := l_0 hg (by omega) (s1 r1)
      subst p0
      rw [r1] at hx
      refine ⟨fun _ => ⟨by rw [hO, if_neg (by omega)]; rfl, by omega, fun j hj => ?_⟩, fun z => absurd hx z⟩
      obtain rfl : j = 0 := by omega
      omega
    · rw [if_neg r1] at hx
      by_cases r5 : aR k t p = 5
      · obtain ⟨x0, d0⟩ := s2 (Or.inl r5)
        obtain ⟨j1, j2, j3⟩ := i1 x0
        rw [if_pos r5] at hx hO
        refine ⟨fun z => by omega, fun _ => Or.inr ⟨?_, by omega, by omega, by rw [hO]; exact r5, fun j hj e => ?_, fun j hj hj2 => ?_⟩⟩
        · have : 0 < aC k t p := aC_pos hg.1 n (fun j hj => (hg.2.2.1 j hj).2) p (by omega) (fun j hj => hg.r0 (by omega)) x0 (fun z => by
            have e2 : aR k t p = pName (t p) 2 := by unfold aR pRole; rw [z]; simp
            rw [e2] at r5; unfold pName at r5; split at r5 <;> omega)
          rw [hC]; split <;> omega
        · rw [hO]
          rcases Nat.lt_succ_iff_lt_or_eq.mp hj with q | q
          · exact absurd e (j3 j q)
          · omega
        · obtain rfl : j = p + 1 := by omega
          omega
      · rw [if_neg r5] at hx hO
        by_cases x0 : (aS k t p).2.2 = 0
        · obtain ⟨j1, j2, j3⟩ := i1 x0
          have n5 : ∀ j, j < p + 1 → aR k t j ≠ 5 := fun j hj => by
            rcases Nat.lt_succ_iff_lt_or_eq.mp hj with q | q
            · exact j3 j q
            · rw [q]; exact r5
          have hok := hg.ok (p := p) (by omega)
          have : aR k t p ≠ 22 ∧ aR k t p ≠ 23 := by
            have c := st_all (fun k l x dp c r => if x = 0 then r != 22 && r != 23 else true) (by decide +kernel) hg (show p < n by omega)
            simpa [x0] using c
          rw [if_neg this.1, if_neg this.2, x0] at hx
          exact ⟨fun _ => ⟨by omega, by omega, n5⟩, fun z => absurd hx z⟩
        · have hx' : (aS k t (p + 1)).2.2 ≠ 0 := by
            rw [hx]
            split
            · omega
            · split <;> omega
          have hN : aN k t p = false := by
            cases e : aN k t p
            · rfl
            · simp only [aN, Bool.and_eq_true, beq_iff_eq] at e
              exact absurd (s2 (Or.inr (Or.inl e.1))).1 x0
          rw [hN] at hC
          simp only [Bool.false_eq_true, if_false] at hC
          refine ⟨fun z => absurd z hx', fun _ => ?_⟩
          rcases i2 x0 with ⟨a1, a2, a3⟩ | ⟨a1, a2, a3, a4, a5, a6⟩
          · refine Or.inl ⟨by omega, by omega, fun j hj => ?_⟩
            rcases Nat.lt_succ_iff_lt_or_eq.mp hj with q | q
            · exact a3 j q
            · rw [q]; exact r5
          · rw [hO, hC]
            refine Or.inr ⟨a1, a2, by omega, a4, fun j hj e => ?_, fun j hj hj2 => ?_⟩
            · rcases Nat.lt_succ_iff_lt_or_eq.mp hj with q | q
              · exact a5 j q e
              · rw [q] at e; exact absurd e r5
            · rcases Nat.lt_or_ge p j with q | q
              · obtain rfl : j = p + 1 := by omega
                exact hx'
              · exact a6 j hj (by omega)
theorem end_x {k : Nat} {t : Nat → Nat} {n : Nat} (hg : Gd k t n) : (aS k t n).2.2 ≠ 0 := by
  have := hg.2.2.2.2.1.1
  omega
/-- the body's begin -/
theorem O_0 {k : Nat} {t : Nat → Nat} {n : Nat} (hg : Gd k t n) (h : aC k t n = 0) : aO k t n = 0 ∧ ∀ j, j < n → aR k t j ≠ 5 := by
  rcases (sec_O hg n (Nat.le_refl n)).2 (end_x hg) with a | a
  · exact a.2
  · omega
theorem O_1 {k : Nat} {t : Nat → Nat} {n : Nat} (hg : Gd k t n) (h : 0 < aC k t n) : 1 < aO k t n ∧ aO k t n ≤ n ∧ aR k t (aO k t n - 1) = 5 ∧ (∀ j, j < n → aR k t j = 5 → j = aO k t n - 1) ∧ (∀ j, aO k t n ≤ j → j ≤ n → (aS k t j).2.2 ≠ 0) := by
  rcases (sec_O hg n (Nat.le_refl n)).2 (end_x hg) with a | a
  · omega
  · exact a.2
/-- how the names lie -/
theorem aC_mono {k : Nat} {t : Nat → Nat} : ∀ {p q : Nat}, p ≤ q → aC k t p ≤ aC k t q := by
  intro p q h
  induction h with
  | refl => exact Nat.le_refl _
  | step _ ih => refine Nat.le_trans ih ?_; show _ ≤ (if aN k t _ = true then aC k t _ + 1 else aC k t _); split <;> omega
theorem aB_at (k : Nat) (t : Nat → Nat) : ∀ p j, j < aC k t p → aB k t p j < p ∧ aN k t (aB k t p j) = true ∧ aC k t (aB k t p j) = j
  | 0, j, h => absurd h (Nat.not_lt_zero _)
  | p + 1, j, h => by
    have hC : aC k t (p + 1) = if aN k t p = true then aC k t p + 1 else aC k t p := rfl
    have hB : aB k t (p + 1) j = if aN k t p = true ∧ j = aC k t p then p else aB k t p j := rfl
    by_cases hq : aN k t p = true ∧ j = aC k t p
    · rw [hB, if_pos hq]
      exact ⟨by omega, hq.1, hq.2.symm⟩
    · rw [hB, if_neg hq]
      have := aB_at k t p j (by
        rw [hC] at h
        split at h
        · rcases Nat.lt_succ_iff_lt_or_eq.mp h with q | q
          · exact q
          · exact absurd ⟨‹_›, q⟩ hq
        · exact h)
      exact ⟨by omega, this.2⟩
theorem aC_B {k : Nat} {t : Nat → Nat} {n j q : Nat} (hj : j < aC k t n) : j < aC k t q ↔ aB k t n j < q := by
  obtain ⟨h1, h2, h3⟩ := aB_at k t n j hj
  have h4 : aC k t (aB k t n j + 1) = j + 1 := by show (if aN k t (aB k t n j) = true then aC k t (aB k t n j) + 1 else _) = _; rw [if_pos h2, h3]
  constructor
  · intro z
    rcases Nat.lt_or_ge (aB k t n j) q with y | y
    · exact y
    · have := aC_mono (k := k) (t := t) y
      omega
  · intro z
    have := aC_mono (k := k) (t := t) (show aB k t n j + 1 ≤ q from z)
    omega
theorem aB_lt {k : Nat} {t : Nat → Nat} {n i j : Nat} (hj : j < aC k t n) (h : i < j) : aB k t n i < aB k t n j := by
  obtain ⟨h1, h2, h3⟩ := aB_at k t n j hj
  exact (aC_B (q := aB k t n j) (by omega)).mp (by omega)
theorem aB_O {k : Nat} {t : Nat → Nat} {n j : Nat} (hg : Gd k t n) (hj : j < aC k t n) : aB k t n j + 1 < aO k t n := by
  obtain ⟨h1, h2, h3⟩ := aB_at k t n j hj
  obtain ⟨o1, o2, o3, o4, o5⟩ := O_1 hg (by omega)
  have hr : aR k t (aB k t n j) = 2 := by simp only [aN, Bool.and_eq_true, beq_iff_eq] at h2; exact h2.1
  have hx := ((stX_of hg (p := aB k t n j) (by omega)).2.1 (by omega)).1
  rcases Nat.lt_or_ge (aB k t n j + 1) (aO k t n) with q | q
  · exact q
  · rcases Nat.lt_or_ge (aB k t n j) (aO k t n) with q2 | q2
    · have : aB k t n j = aO k t n - 1 := by omega
      rw [this, o3] at hr; omega
    · exact absurd hx (o5 _ q2 (by omega))
/-- where the parameter ends -/
def pE (k : Nat) (t : Nat → Nat) (n j : Nat) : Nat := if j + 1 < aC k t n then aB k t n (j + 1) else aO k t n - 1
theorem pE_in {k : Nat} {t : Nat → Nat} {n j : Nat} (hg : Gd k t n) (hj : j < aC k t n) : aB k t n j < pE k t n j ∧ pE k t n j < aO k t n ∧ aO k t n ≤ n := by
  have h1 := aB_O hg hj
  have h2 := (O_1 hg (by omega)).2.1
  unfold pE
  split
  · have := aB_lt (k := k) (t := t) (n := n) (i := j) (j := j + 1) ‹_› (by omega)
    have := aB_O hg (j := j + 1) ‹_›
    exact ⟨by omega, by omega, h2⟩
  · exact ⟨by omega, by omega, h2⟩
theorem pE_C {k : Nat} {t : Nat → Nat} {n j q : Nat} (hg : Gd k t n) (hj : j < aC k t n) (h1 : aB k t n j < q) (h2 : q ≤ pE k t n j) : aC k t q = j + 1 := by
  have a := (aC_B (q := q) hj).mpr h1
  have hpe := pE_in hg hj
  rcases Nat.lt_or_ge (aC k t q) (j + 2) with z | z
  · omega
  · exfalso
    have hm : j + 1 < aC k t n := by have := aC_mono (k := k) (t := t) (p := q) (q := n) (by omega); omega
    have := (aC_B (q := q) hm).mp (by omega)
    unfold pE at h2
    rw [if_pos hm] at h2
    omega
theorem r_parameterEnd {post : Int32 → Prop} {u : SgC} {k : Nat} {t : Nat → Nat} {n j : Nat} (hu : SgI u k t n) (hg : Gd k t n) (hj : j < aC k t n) (h : post (nI (pE k t n j))) : wp_Sg_parameterEnd post u (nI j) := by
  unfold wp_Sg_parameterEnd
  have hc := hg.2.2.2.2.2
  rw [hu.2.2.2.2.1, ofN, nI_1]
  unfold pE at h
  refine b_le (by omega) (by omega) (fun z => ?_) (fun z => ?_)
  · rw [if_neg (by omega)] at h
    have := aB_O hg hj
    rw [hu.2.2.2.2.2.2]
    obtain ⟨m, hm⟩ : ∃ m, aO k t n = m + 1 := ⟨aO k t n - 1, by omega⟩
    rw [hm] at h ⊢
    rw [nI_pred]; exact h
  · rw [if_pos (by omega)] at h
    exact r_nameStart hu hg z h
theorem r_beginsRef {post : Int32 → Prop} {r : Nat} (hr : r < 25) (h1 : r = 9 ∨ r = 6 ∨ r = 19 → post 1) (h0 : ¬ (r = 9 ∨ r = 6 ∨ r = 19) → post 0) : wp_beginsReference post (nI r) := by
  unfold wp_beginsReference w_beginsReference_18
  simp only [lit32, nIe (a := r) (by omega : r < 2 ^ 31), Nat.reducePow, Nat.reduceLT] at h0 h1 ⊢
  grind
theorem r_boundCount {post : Int32 → Prop} {u : SgC} {k : Nat} {t : Nat → Nat} {n j : Nat} (hu : SgI u k t n) (hg : Gd k t n) (hj : j < aC k t n) (h : post (nI (aBc k t n j))) : wp_Sg_boundCount post u (nI j) := by
  unfold wp_Sg_boundCount
  have hn := hg.2.1
  have hc := hg.2.2.2.2.2
  obtain ⟨e1, e2, e3⟩ := pE_in hg hj
  refine r_nameStart hu hg hj ?_
  -- behind the end nothing is counted
  have late : ∀ q, pE k t n j < q → q ≤ n → aBc k t q j = aBc k t (pE k t n j + 1) j := by
    intro q h1
    induction h1 with
    | refl => intro _; rfl
    | @step q h1 ih =>
      intro h2
      rw [← ih (by omega)]
      show (if aN k t q = true ∧ j = aC k t q then 0 else if aBg k t q = true ∧ j + 1 = aC k t q then aBc k t q j + 1 else aBc k t q j) = _
      have hq : pE k t n j < q := h1
      have a := (aC_B (q := q) hj).mpr (by omega)
      rw [if_neg (by omega), if_neg]
      rintro ⟨z1, z2⟩
      by_cases hm : j + 1 < aC k t n
      · have : pE k t n j = aB k t n (j + 1) := by unfold pE; rw [if_pos hm]
        have := (aC_B (q := q) hm).mpr (by omega)
        omega
      · have : pE k t n j = aO k t n - 1 := by unfold pE; rw [if_neg hm]
        have hx := (O_1 hg (by omega)).2.2.2.2 q (by omega) (by omega)
        have := (stX_of hg (p := q) (by omega)).2.2.1
        simp only [aBg, Bool.and_eq_true, Bool.or_eq_true, beq_iff_eq] at z1
        exact hx (this (by omega))
  have fin : aBc k t n j = aBc k t (pE k t n j + 1) j := late n (by omega) (by omega)
  rw [fin] at h
  have start : aBc k t (aB k t n j + 1) j = 0 := by
    obtain ⟨b1, b2, b3⟩ := aB_at k t n j hj
    show (if aN k t (aB k t n j) = true ∧ j = aC k t (aB k t n j) then 0 else _) = 0
    rw [if_pos ⟨b2, b3.symm⟩]
  have := lpN (n := pE k t n j) (W := fun f i => aB k t n j ≤ i → w_Sg_boundCount_8 post u f (nI j) (nI (aBc k t (i + 1) j)) (nI i)) (fun f hb => ?_) (fun f i hi ih hb => ?_) (aB k t n j) (by omega)
  · obtain ⟨f, hf⟩ := this
    have := hf (Nat.le_refl _)
    rw [start] at this
    exact ⟨f, this⟩
  · unfold w_Sg_boundCount_8 wb_Sg_boundCount_8
    refine r_parameterEnd hu hg hj ?_
    exact b_le (by omega) (by omega) (fun _ => h) (fun z => absurd z (by omega))
  · unfold w_Sg_boundCount_8 wb_Sg_boundCount_8
    refine r_parameterEnd hu hg hj ?_
    have ih := ih (by omega)
    refine b_le (by omega) (by omega) (fun z => absurd z (by omega)) (fun _ => r_roleAt hu hn (by omega) ?_)
    rw [gR_in (by omega)]
    have hr := aR_lt k t i
    have hC : aC k t (i + 1) = j + 1 := pE_C hg hj (by omega) (by omega)
    have hS : aBc k t (i + 1 + 1) j = if aBg k t (i + 1) = true then aBc k t (i + 1) j + 1 else aBc k t (i + 1) j := by
      show (if aN k t (i + 1) = true ∧ j = aC k t (i + 1) then 0 else if aBg k t (i + 1) = true ∧ j + 1 = aC k t (i + 1) then aBc k t (i + 1) j + 1 else aBc k t (i + 1) j) = _
      rw [if_neg (by omega), hC]
      simp
    rw [hS] at ih
    have hb2 : aBg k t (i + 1) = true ↔ (aR k t (i + 1) = 9 ∨ aR k t (i + 1) = 6 ∨ aR k t (i + 1) = 19) ∧ (aR k t i = 3 ∨ aR k t i = 4) := by
      simp only [aBg, aS_succ, Bool.and_eq_true, Bool.or_eq_true, beq_iff_eq]
      omega
    have yes : aBg k t (i + 1) = true → w_Sg_boundCount_61 post u (w_Sg_boundCount_8 post u f) (nI j) (nI (aBc k t (i + 1) j)) (nI i) := by
      intro z
      unfold w_Sg_boundCount_61 w_Sg_boundCount_64
      rw [nI_1, nI_1]
      rw [if_pos z] at ih
      exact ih
    have no : ¬ aBg k t (i + 1) = true → w_Sg_boundCount_64 post u (w_Sg_boundCount_8 post u f) (nI j) (nI (aBc k t (i + 1) j)) (nI i) := by
      intro z
      unfold w_Sg_boundCount_64
      rw [nI_1]
      rw [if_neg z] at ih
      exact ih
    have n47 : aR k t i = 3 → ¬ aBg k t (i + 1) = true → w_Sg_boundCount_47 post u (w_Sg_boundCount_8 post u f) (nI j) (nI (aBc k t (i + 1) j)) (nI i) (nI (aR k t i)) := by
      intro z1 z2
      unfold w_Sg_boundCount_47 w_Sg_boundCount_48
      exact b_eq' (k := 4) (by omega) (by decide) (fun e => by omega) (fun e => ⟨fun _ => no z2, fun w => absurd rfl w⟩)
    refine b_eq (k := 3) (by omega) (by decide) (fun e => ?_) (fun e => ?_)
    · rw [nI_1]
      refine r_roleAt hu hn (by omega) ?_
      rw [gR_in (by omega)]
      refine r_beginsRef (aR_lt k t (i + 1)) (fun z => ⟨fun w => absurd w (by decide), fun _ => ?_⟩) (fun z => ⟨fun _ => n47 e (fun w => z (hb2.mp w).1), fun w => absurd rfl w⟩)
      unfold w_Sg_boundCount_48
      exact b_eq' (k := 4) (by omega) (by decide) (fun e => by omega) (fun e4 => ⟨fun w => absurd w (by decide), fun _ => yes (hb2.mpr ⟨z, Or.inl e⟩)⟩)
    · unfold w_Sg_boundCount_47 w_Sg_boundCount_48
      refine b_eq' (k := 4) (by omega) (by decide) (fun e4 => yes ?_) (fun e4 => ⟨fun _ => no (fun z => ?_), fun w => absurd rfl w⟩)
      · have := (stX_of hg (p := i + 1) (by omega)).2.2.2.1 (by rw [aS_succ]; exact e4)
        exact hb2.mpr ⟨this, Or.inr e4⟩
      · have := (hb2.mp z).2
        omega
