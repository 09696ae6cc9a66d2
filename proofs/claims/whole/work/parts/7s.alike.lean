/-! alike: the ground -/
theorem aB_st {k : Nat} {t : Nat → Nat} {p n j : Nat} (h : p ≤ n) (hj : j < aC k t p) : aB k t n j = aB k t p j := by
  induction h with
  | refl => rfl
  | @step n h ih =>
    have hm := aC_mono (k := k) (t := t) (show p ≤ n from h)
    show (if aN k t n = true ∧ j = aC k t n then n else aB k t n j) = _
    rw [if_neg (fun z => by omega)]
    exact ih
/-- no two names are one -/
theorem nm_dist {k : Nat} {t : Nat → Nat} {n j : Nat} (hg : Gd k t n) (hj : j < aC k t n) : pF k t n t (aB k t n j) (aE k t n j) = some j := by
  obtain ⟨e1, e2, e3, e4⟩ := nm_end hg hj
  have hbe := (aBE k t n).1 j hj
  have hC : aC k t (aE k t n j) = j + 1 := pE_C hg hj (by omega) (by omega)
  have nb := hg.2.2.2.1 _ e1
  have ntk : ¬ aTk k t (aE k t n j) := fun z => nb (Or.inr ⟨e2, z⟩)
  have hl2 : (aS k t (aE k t n j)).1 = 2 := by
    obtain ⟨m, hm⟩ : ∃ m, aE k t n j = m + 1 := ⟨aE k t n j - 1, by omega⟩
    rw [hm, aS_succ]
    exact e3 m (by omega) (by omega)
  have bS : ∀ a, a ≤ j → aB k t (aE k t n j) a = aB k t n a := fun a ha => (aB_st (by omega) (by omega)).symm
  have eS : ∀ a, a ≤ j → aE k t (aE k t n j) a = aE k t n a := by
    intro a ha
    rcases Nat.eq_or_lt_of_le ha with q | q
    · subst q
      exact (nm_p (k := k) (t := t) (aE k t n a) a (by omega)).2.2 (by omega) hl2
    · obtain ⟨n1, n2, -⟩ := nm_p (k := k) (t := t) (aE k t n j) a (by omega)
      obtain ⟨n3, n4⟩ := n2 (Or.inl (by omega))
      obtain ⟨m1, m2, m3, m4⟩ := nm_end hg (j := a) (by omega)
      have hba := (aBE k t n).1 a (by omega)
      have hbp := (aBE k t (aE k t n j)).1 a (by omega)
      rw [bS a ha] at n1 hbp
      rcases Nat.lt_trichotomy (aE k t (aE k t n j) a) (aE k t n a) with w | w | w
      · exact absurd (m3 _ (by omega) w) n4
      · exact w
      · have := n1 _ (by omega) w
        omega
  have nos : ∀ a, a < j → ¬ pM k t n t (aB k t n j) (aE k t n j) a := by
    intro a ha z
    refine ntk ⟨a, by omega, ?_⟩
    rw [hC, Nat.add_sub_cancel]
    unfold aSm
    rw [bS a (by omega), bS j (Nat.le_refl _), eS a (by omega), eS j (Nat.le_refl _)]
    exact ⟨z.1, fun i hi => z.2 i (by have := z.1; omega)⟩
  have self : pM k t n t (aB k t n j) (aE k t n j) j := ⟨rfl, fun i _ => rfl⟩
  cases hp : pF k t n t (aB k t n j) (aE k t n j) with
  | none =>
    have := (pFr_no _ _ _).mp hp j (by omega) (by omega)
    rw [pMb_iff.mpr self] at this; cases this
  | some i =>
    obtain ⟨q1, q2⟩ := pF_lt hp
    rcases Nat.lt_trichotomy i j with w | w | w
    · exact absurd q2 (nos i w)
    · rw [w]
    · exfalso
      -- the first is found first
      have gen : ∀ (P : Nat → Bool) w j0 i, pFr P w j0 = some i → ∀ j, j0 ≤ j → j < i → P j = false := by
        intro P w
        induction w with
        | zero => intro j0 i h; simp [pFr] at h
        | succ w ih =>
          intro j0 i h j h1 h2
          unfold pFr at h
          split at h
          · cases h; omega
          · rename_i hn
            rcases Nat.eq_or_lt_of_le h1 with e | e
            · rw [← e]; simpa using hn
            · exact ih (j0 + 1) i h j (by omega) h2
      have := gen _ _ _ _ hp j (by omega) w
      rw [pMb_iff.mpr self] at this; cases this
def stN (k l x : Nat) (dp : Bool) (c r : Nat) : Bool := r == 0 || ((if r = 2 || r = 7 then pNm c else true) && (if r = 6 then c == 84 else true) && (if r = 3 then c == 58 else true) && (if r = 2 then l == 1 || l == 2 || l == 3 || l == 8 || l == 14 || l == 17 || l == 20 || l == 21 else true))
theorem stN_all : pAll 3 (fun k => pAll 4 (fun x => pAll 25 (fun l => pAll 127 (fun c => stQ stN k x l c)))) = true := by decide +kernel
theorem stN_of {k : Nat} {t : Nat → Nat} {n p : Nat} (hg : Gd k t n) (hp : p < n) : (aR k t p = 2 ∨ aR k t p = 7 → pNm (t p) = true) ∧ (aR k t p = 6 → t p = 84) ∧ (aR k t p = 3 → t p = 58) ∧ (aR k t p = 2 → (aS k t p).1 = 1 ∨ (aS k t p).1 = 2 ∨ (aS k t p).1 = 3 ∨ (aS k t p).1 = 8 ∨ (aS k t p).1 = 14 ∨ (aS k t p).1 = 17 ∨ (aS k t p).1 = 20 ∨ (aS k t p).1 = 21) := by
  have c := st_all _ stN_all hg hp
  have h0 := hg.r0 hp
  unfold stN at c
  simp only [Bool.or_eq_true, Bool.and_eq_true, beq_iff_eq] at c
  rcases c with c | ⟨⟨⟨c1, c2⟩, c3⟩, c4⟩
  · exact absurd c h0
  · refine ⟨fun z => ?_, fun z => ?_, fun z => ?_, fun z => ?_⟩
    · rw [if_pos (by simpa using z)] at c1; exact c1
    · rw [if_pos z] at c2; simpa using c2
    · rw [if_pos z] at c3; simpa using c3
    · rw [if_pos z] at c4
      simp only [Bool.or_eq_true, beq_iff_eq] at c4
      omega
theorem pNm_58' {c : Nat} (h : pNm c = true) : c ≠ 46 ∧ c ≠ 59 ∧ c ≠ 47 ∧ c ≠ 58 ∧ c ≠ 60 ∧ c ≠ 62 ∧ c ≠ 91 := by
  simp only [pNm, Bool.not_eq_true', Bool.or_eq_false_iff, beq_eq_false_iff_ne] at h
  omega
/-- characters of a name go on with a name -/
theorem nm_go {k : Nat} {t : Nat → Nat} {i m r : Nat} (hr : r = 2 ∨ r = 7 ∨ r = 10) (h1 : (aS k t (i + 1)).1 = r) : ∀ y, 1 ≤ y → y ≤ m → (∀ x, 1 ≤ x → x < m → pNm (t (i + x)) = true) → aS k t (i + y) = (r, (aS k t (i + 1)).2.1, (aS k t (i + 1)).2.2) ∧ (r ≠ 2 → aC k t (i + y) = aC k t (i + 1)) ∧ (r = 2 → aC k t (i + y) = aC k t (i + 1)) := by
  intro y h2
  induction h2 with
  | refl => intro _ _; exact ⟨by rw [← h1], fun _ => rfl, fun _ => rfl⟩
  | @step y h2 ih =>
    intro h3 h4
    have h2' : 1 ≤ y := h2
    obtain ⟨i1, i2, i3⟩ := ih (by omega) h4
    have hn := h4 y h2' (by omega)
    have hc := pNm_58' hn
    have hR : aR k t (i + y) = r := by
      unfold aR
      rw [i1]
      rcases hr with rfl | rfl | rfl
      · show (if t (i + y) = 58 then 3 else pName (t (i + y)) 2) = 2
        rw [if_neg (by omega)]; unfold pName; rw [if_pos hn]
      · show (if t (i + y) = 59 then 8 else pName (t (i + y)) 7) = 7
        rw [if_neg (by omega)]; unfold pName; rw [if_pos hn]
      · show (if t (i + y) = 47 then 11 else pSeg (t (i + y)) 10) = 10
        rw [if_neg (by omega)]; unfold pSeg pClose pName; rw [if_neg (by omega), if_neg (by omega), if_neg (by omega), if_pos hn]
    have hN : aN k t (i + y) = false := by
      unfold aN
      rw [hR, i1]
      rcases hr with rfl | rfl | rfl <;> rfl
    have hC : aC k t (i + y + 1) = aC k t (i + y) := by show (if aN k t (i + y) = true then _ else _) = _; rw [hN]; rfl
    refine ⟨?_, fun z => hC.trans (i2 z), fun z => hC.trans (i3 z)⟩
    show aS k t (i + y + 1) = _
    rw [aS_succ, hR, i1]
    rcases hr with rfl | rfl | rfl <;> rfl
/-- both stand at the same state -/
def Sy (k : Nat) (ta : Nat → Nat) (na : Nat) (tb : Nat → Nat) (nb i j : Nat) : Prop := i ≤ na ∧ j ≤ nb ∧ aS k ta i = aS k tb j ∧ aC k ta i = aC k tb j ∧ (j < nb → aR k tb j = 2 → (aS k tb j).1 ≠ 2)
/-- the next characters differ -/
def Fl (k : Nat) (ta : Nat → Nat) (na : Nat) (tb : Nat → Nat) (nb i j : Nat) : Prop := j < nb ∧ aR k tb j ≠ 2 ∧ aR k tb j ≠ 6 ∧ (i < na → ta i ≠ tb j)
def ln (k : Nat) (t : Nat → Nat) (n j : Nat) : Nat := aE k t n j - aB k t n j
/-- the name j of a stands at i -/
def nK (k : Nat) (ta : Nat → Nat) (na j i : Nat) : Prop := i + ln k ta na j ≤ na ∧ ∀ x, x < ln k ta na j → ta (aB k ta na j + x) = ta (i + x)
def nKb (k : Nat) (ta : Nat → Nat) (na j i : Nat) : Bool := decide (i + ln k ta na j ≤ na) && nmEq ta ta (aB k ta na j) i (ln k ta na j)
theorem nKb_iff {k : Nat} {ta : Nat → Nat} {na j i : Nat} : nKb k ta na j i = true ↔ nK k ta na j i := by unfold nKb nK; rw [Bool.and_eq_true, decide_eq_true_eq, nmEq_iff]
theorem Sy_role {k : Nat} {ta : Nat → Nat} {na : Nat} {tb : Nat → Nat} {nb i j : Nat} (h : Sy k ta na tb nb i j) (e : ta i = tb j) : aR k ta i = aR k tb j := by unfold aR; rw [h.2.2.1, e]
theorem Sy_next {k : Nat} {ta : Nat → Nat} {na : Nat} {tb : Nat → Nat} {nb i j : Nat} (h : Sy k ta na tb nb i j) (hi : i < na) (hj : j < nb) (e : ta i = tb j) (h2 : aR k tb j ≠ 2) : Sy k ta na tb nb (i + 1) (j + 1) := by
  have hr := Sy_role h e
  have n1 : aN k ta i = false := by simp [aN, hr, h2]
  have n2 : aN k tb j = false := by simp [aN, h2]
  refine ⟨by omega, by omega, by rw [aS_succ, aS_succ, hr, h.2.2.1], ?_, fun _ _ => by rw [aS_succ]; exact h2⟩
  show (if aN k ta i = true then _ else aC k ta i) = (if aN k tb j = true then _ else aC k tb j)
  rw [n1, n2]
  exact h.2.2.2.1
theorem nm_at {k : Nat} {t : Nat → Nat} {n j : Nat} (hg : Gd k t n) (hj : j < n) (h2 : aR k t j = 2) (hl : (aS k t j).1 ≠ 2) : aC k t j < aC k t n ∧ aB k t n (aC k t j) = j := by
  have hN : aN k t j = true := by simp [aN, h2, hl]
  have e : aC k t (j + 1) = aC k t j + 1 := by show (if aN k t j = true then _ else _) = _; rw [if_pos hN]
  have hm := aC_mono (k := k) (t := t) (show j + 1 ≤ n from hj)
  have hc : aC k t j < aC k t n := by omega
  refine ⟨hc, ?_⟩
  have b1 := aC_B (k := k) (t := t) (n := n) (q := j) hc
  have b2 := aC_B (k := k) (t := t) (n := n) (q := j + 1) hc
  omega
theorem nm_chars {k : Nat} {t : Nat → Nat} {n j : Nat} (hg : Gd k t n) (hj : j < aC k t n) : 1 ≤ ln k t n j ∧ (∀ x, x < ln k t n j → pNm (t (aB k t n j + x)) = true) ∧ aB k t n j + ln k t n j = aE k t n j := by
  have hbe := (aBE k t n).1 j hj
  obtain ⟨e1, e2, e3, e4⟩ := nm_end hg hj
  unfold ln
  refine ⟨by omega, fun x hx => ?_, by omega⟩
  exact (stN_of hg (p := aB k t n j + x) (by omega)).1 (Or.inl (e3 _ (by omega) (by omega)))
/-- behind a parameter's name -/
theorem Sy_name {k : Nat} {ta : Nat → Nat} {na : Nat} {tb : Nat → Nat} {nb i j : Nat} (ga : Gd k ta na) (gb : Gd k tb nb) (hm : aC k ta na = aC k tb nb) (h : Sy k ta na tb nb i j) (hj : j < nb) (h2 : aR k tb j = 2) (hk : nK k ta na (aC k tb j) i) : Sy k ta na tb nb (i + ln k ta na (aC k tb j)) (aE k tb nb (aC k tb j)) ∨ Fl k ta na tb nb (i + ln k ta na (aC k tb j)) (aE k tb nb (aC k tb j)) := by
  have hl := h.2.2.2.2 hj h2
  obtain ⟨hc, hB⟩ := nm_at gb hj h2 hl
  generalize hcc : aC k tb j = c at *
  obtain ⟨l1, l2, l3⟩ := nm_chars ga (j := c) (by omega)
  obtain ⟨e1, e2, e3, e4⟩ := nm_end gb hc
  have hbe := (aBE k tb nb).1 c hc
  obtain ⟨k1, k2⟩ := hk
  have nmi : ∀ x, x < ln k ta na c → pNm (ta (i + x)) = true := fun x hx => by rw [← k2 x hx]; exact l2 x hx
  have c0 : pNm (ta i) = true := nmi 0 (by omega)
  have c0' := pNm_58' c0
  have hi : i < na := by omega
  have sj := h.2.2.1
  have hok := gb.ok (p := j) (by omega)
  have hx0 := ((stX_of gb hj).2.1 (by omega))
  have hls := (stN_of gb hj).2.2.2 h2
  -- the state of b behind the name
  have hb1 : (aS k tb (j + 1)).1 = 2 := by rw [aS_succ]; exact h2
  have hbn := nm_go (k := k) (t := tb) (i := j) (m := aE k tb nb c - j) (Or.inl rfl) hb1 (aE k tb nb c - j) (by omega) (Nat.le_refl _) (fun x q1 q2 => (stN_of gb (p := j + x) (by omega)).1 (Or.inl (e3 _ (by omega) (by omega))))
  rw [show j + (aE k tb nb c - j) = aE k tb nb c by omega] at hbn
  have hNb : aN k tb j = true := by simp [aN, h2, hl]
  have hCb : aC k tb (j + 1) = c + 1 := by show (if aN k tb j = true then _ else _) = _; rw [if_pos hNb, hcc]
  by_cases q : aR k ta i = 2
  · left
    have ha1 : (aS k ta (i + 1)).1 = 2 := by rw [aS_succ]; exact q
    have han := nm_go (k := k) (t := ta) (i := i) (m := ln k ta na c) (Or.inl rfl) ha1 (ln k ta na c) l1 (Nat.le_refl _) (fun x q1 q2 => nmi x q2)
    have hNa : aN k ta i = true := by unfold aN; rw [q, sj]; simp [hl]
    have hCa : aC k ta (i + 1) = aC k ta i + 1 := by show (if aN k ta i = true then _ else _) = _; rw [if_pos hNa]
    refine ⟨k1, by omega, ?_, ?_, fun _ z => by rw [e2] at z; omega⟩
    · rw [han.1, hbn.1, aS_succ, aS_succ, q, h2, sj]
    · rw [han.2.2 rfl, hbn.2.2 rfl, hCa, hCb, h.2.2.2.1, hcc]
  · right
    -- a's name is taken for a bound
    have hsl : (aS k ta i).1 = (aS k tb j).1 ∧ (aS k ta i).2.1 = 0 ∧ (aS k ta i).2.2 = 0 := by rw [sj]; exact ⟨rfl, hx0.2, hx0.1⟩
    have hl3 : (aS k tb j).1 = 3 ∧ (ta i = 76 ∨ ta i = 84) := by
      have eR : aR k ta i = pRole k (aS k tb j).1 0 0 (ta i) := by unfold aR; rw [hsl.1, hsl.2.1, hsl.2.2]
      have pn : pName (ta i) 2 = 2 := by unfold pName; rw [if_pos c0]
      have pb : pBnd (ta i) = 2 := by unfold pBnd; rw [if_neg (by omega), if_neg (by omega), pn]
      rw [eR] at q
      rcases hls with z | z | z | z | z | z | z | z
      · rw [z] at q; exact absurd (show pRole k 1 0 0 (ta i) = 2 from pn) q
      · exact absurd z hl
      · refine ⟨z, ?_⟩
        rw [z] at q
        have e : pRole k 3 0 0 (ta i) = pFst (ta i) := rfl
        rw [e] at q
        by_cases y1 : ta i = 76
        · exact Or.inl y1
        · by_cases y2 : ta i = 84
          · exact Or.inr y2
          · have p0 : pRef (ta i) = 0 := by unfold pRef; rw [if_neg y1, if_neg y2, if_neg c0'.2.2.2.2.2.2]
            unfold pFst at q
            rw [if_pos p0] at q
            exact absurd pb q
      · rw [z] at q; exact absurd (show pRole k 8 0 0 (ta i) = 2 from pb) q
      · rw [z] at q; exact absurd (show pRole k 14 0 0 (ta i) = 2 from pb) q
      · rw [z] at q; exact absurd (show pRole k 17 0 0 (ta i) = 2 from pb) q
      · rw [z] at q; exact absurd (show pRole k 20 0 0 (ta i) = 2 from pb) q
      · rw [z] at q; exact absurd (show pRole k 21 0 0 (ta i) = 2 from pb) q
    refine ⟨e1, by omega, by omega, fun hlt z => ?_⟩
    rw [(stN_of gb e1).2.2.1 e2] at z
    -- the role of : behind such a name is none
    have h0 := ga.r0 hlt
    have eRi : aR k ta i = if ta i = 76 then 9 else 6 := by
      unfold aR
      rw [hsl.1, hl3.1]
      show pFst (ta i) = _
      rcases hl3.2 with w | w <;> rw [w] <;> rfl
    have hfin : (aS k ta (i + ln k ta na c)).1 = 9 ∨ (aS k ta (i + ln k ta na c)).1 = 10 ∨ (aS k ta (i + ln k ta na c)).1 = 6 ∨ (aS k ta (i + ln k ta na c)).1 = 7 := by
      rcases Nat.eq_or_lt_of_le l1 with w | w
      · rw [← w, aS_succ]
        show aR k ta i = 9 ∨ aR k ta i = 10 ∨ aR k ta i = 6 ∨ aR k ta i = 7
        rw [eRi]
        split <;> omega
      · have n1 := nmi 1 w
        have l9 : (aS k ta (i + 1)).1 = if ta i = 76 then 9 else 6 := by rw [aS_succ]; exact eRi
        have n1' := pNm_58' n1
        have l10 : (aS k ta (i + 1 + 1)).1 = 10 ∨ (aS k ta (i + 1 + 1)).1 = 7 := by
          rw [aS_succ]
          show aR k ta (i + 1) = 10 ∨ aR k ta (i + 1) = 7
          unfold aR
          rw [l9]
          rcases hl3.2 with y | y
          · left
            rw [if_pos y]
            show pName (ta (i + 1)) 10 = 10
            unfold pName; rw [if_pos n1]
          · right
            rw [if_neg (by omega)]
            show pName (ta (i + 1)) 7 = 7
            unfold pName; rw [if_pos n1]
        rcases l10 with y | y
        · have g := nm_go (k := k) (t := ta) (i := i + 1) (m := ln k ta na c - 1) (Or.inr (Or.inr rfl)) y (ln k ta na c - 1) (by omega) (Nat.le_refl _) (fun x q1 q2 => by rw [show i + 1 + x = i + (1 + x) by omega]; exact nmi _ (by omega))
          rw [show i + 1 + (ln k ta na c - 1) = i + ln k ta na c by omega] at g
          rw [g.1]; exact Or.inr (Or.inl rfl)
        · have g := nm_go (k := k) (t := ta) (i := i + 1) (m := ln k ta na c - 1) (Or.inr (Or.inl rfl)) y (ln k ta na c - 1) (by omega) (Nat.le_refl _) (fun x q1 q2 => by rw [show i + 1 + x = i + (1 + x) by omega]; exact nmi _ (by omega))
          rw [show i + 1 + (ln k ta na c - 1) = i + ln k ta na c by omega] at g
          rw [g.1]; exact Or.inr (Or.inr (Or.inr rfl))
    apply h0
    unfold aR
    rw [z]
    rcases hfin with y | y | y | y
    · rw [y]; rfl
    · rw [y]; rfl
    · rw [y]; rfl
    · rw [y]; rfl
/-- behind a variable's name -/
theorem Sy_var {k : Nat} {ta : Nat → Nat} {na : Nat} {tb : Nat → Nat} {nb i j c : Nat} (ga : Gd k ta na) (gb : Gd k tb nb) (h : Sy k ta na tb nb i j) (hi : i < na) (hj : j < nb) (e : ta i = tb j) (h6 : aR k tb j = 6) (hc : c < aC k ta na) (hk : nK k ta na c (i + 1)) : Sy k ta na tb nb (i + 1 + ln k ta na c) (nE k tb nb 7 (j + 1)) := by
  have s1 := Sy_next h hi hj e (by omega)
  have hr := Sy_role h e
  obtain ⟨l1, l2, l3⟩ := nm_chars ga hc
  obtain ⟨k1, k2⟩ := hk
  have nmi : ∀ x, x < ln k ta na c → pNm (ta (i + 1 + x)) = true := fun x hx => by rw [← k2 x hx]; exact l2 x hx
  obtain ⟨v1, v2, v3⟩ := var_end gb hj h6
  obtain ⟨w1, w2⟩ := var_next gb hj h6
  -- in b the name is a run of 7
  have run : ∀ m y, nb - y = m → j + 1 ≤ y → y ≤ nb → (∀ x, j + 1 ≤ x → x < y → aR k tb x = 7) → ∀ x, j + 1 ≤ x → x < nE k tb nb 7 y → aR k tb x = 7 := by
    intro m
    induction m with
    | zero =>
      intro y h1 h2 h3 h4 x q1 q2
      rw [nE_stop (fun z => by omega)] at q2
      exact h4 x q1 q2
    | succ m ih =>
      intro y h1 h2 h3 h4 x q1 q2
      by_cases ry : aR k tb y = 7
      · rw [nE_go (by omega) ry] at q2
        refine ih (y + 1) (by omega) (by omega) (by omega) (fun x2 z1 z2 => ?_) x q1 q2
        rcases Nat.lt_succ_iff_lt_or_eq.mp z2 with w | w
        · exact h4 x2 z1 w
        · rw [w]; exact ry
      · rw [nE_stop (fun _ => ry)] at q2
        exact h4 x q1 q2
  have r7 : ∀ x, j + 1 ≤ x → x < nE k tb nb 7 (j + 1) → aR k tb x = 7 := run _ (j + 1) rfl (Nat.le_refl _) (by omega) (fun x q1 q2 => by omega)
  have hb1 : (aS k tb (j + 1 + 1)).1 = 7 := by rw [aS_succ]; exact w2
  have hbn := nm_go (k := k) (t := tb) (i := j + 1) (m := nE k tb nb 7 (j + 1) - (j + 1)) (Or.inr (Or.inl rfl)) hb1 (nE k tb nb 7 (j + 1) - (j + 1)) (by omega) (Nat.le_refl _) (fun x q1 q2 => (stN_of gb (p := j + 1 + x) (by omega)).1 (Or.inr (r7 _ (by omega) (by omega))))
  rw [show j + 1 + (nE k tb nb 7 (j + 1) - (j + 1)) = nE k tb nb 7 (j + 1) by omega] at hbn
  have hl6 : (aS k ta (i + 1)).1 = 6 := by rw [aS_succ]; show aR k ta i = 6; rw [hr]; exact h6
  have ra : aR k ta (i + 1) = 7 := by
    unfold aR
    rw [hl6]
    show pName (ta (i + 1)) 7 = 7
    unfold pName
    rw [if_pos (nmi 0 (by omega))]
  have ha1 : (aS k ta (i + 1 + 1)).1 = 7 := by rw [aS_succ]; exact ra
  have han := nm_go (k := k) (t := ta) (i := i + 1) (m := ln k ta na c) (Or.inr (Or.inl rfl)) ha1 (ln k ta na c) l1 (Nat.le_refl _) (fun x q1 q2 => nmi x q2)
  have c1 : aC k ta (i + 1 + 1) = aC k ta (i + 1) := by
    have : aN k ta (i + 1) = false := by simp [aN, ra]
    show (if aN k ta (i + 1) = true then _ else _) = _; rw [this]; rfl
  have c2 : aC k tb (j + 1 + 1) = aC k tb (j + 1) := by
    have : aN k tb (j + 1) = false := by simp [aN, w2]
    show (if aN k tb (j + 1) = true then _ else _) = _; rw [this]; rfl
  refine ⟨k1, by omega, ?_, ?_, fun _ z => ?_⟩
  · rw [han.1, hbn.1, aS_succ k ta (i + 1), aS_succ k tb (j + 1), ra, w2, s1.2.2.1]
  · rw [han.2.1 (by decide), hbn.2.1 (by decide), c1, c2]
    exact s1.2.2.2.1
  · rw [hbn.1]; show (7 : Nat) ≠ 2; decide
