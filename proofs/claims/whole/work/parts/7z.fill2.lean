/-- the filled text reads like the old one, or it has a fault -/
def FR (k : Nat) (u : Nat → Nat) (nu m p : Nat) (ev : Prop) : Prop := (aC k u nu + 1 = m ∧ ¬ ev) ∨ ∃ q, p ≤ q ∧ q < nu ∧ aR k u q = 0 ∧ aC k u q ≤ m
/-- a VARIABLE THROWN that is filled with an ARRAY, from j on -/
def eV (k : Nat) (t : Nat → Nat) (n e : Nat) (tf : Nat → Nat) (j : Nat) : Prop := ∃ i, j ≤ i ∧ i < n ∧ ¬ (cF k t n e ≤ i ∧ i < cT k t n e) ∧ dA k t n i = some e ∧ (aS k t i).1 = 24 ∧ tf 0 = 91
theorem FR_up {k : Nat} {u : Nat → Nat} {nu m p p' : Nat} {ev ev' : Prop} (hp : p ≤ p') (he : ev → ev') (h : FR k u nu m p' ev') : FR k u nu m p ev := by
  rcases h with ⟨a, b⟩ | ⟨q, a, b, c⟩
  · exact Or.inl ⟨a, fun z => b (he z)⟩
  · exact Or.inr ⟨q, by omega, b, c⟩
theorem first_f {tf : Nat → Nat} {nf : Nat} (hf : Gd 2 tf nf) : 0 < nf ∧ aR 2 tf 0 = pRef (tf 0) ∧ (tf 0 = 76 ∨ tf 0 = 84 ∨ tf 0 = 91) := by
  have hn0 : 0 < nf := by
    rcases Nat.eq_zero_or_pos nf with q | q
    · have := end_l hf
      rw [q] at this
      simp [aS] at this
    · exact q
  have h0 := hf.r0 hn0
  have e : aR 2 tf 0 = pRef (tf 0) := rfl
  refine ⟨hn0, e, ?_⟩
  rw [e] at h0
  unfold pRef at h0
  by_cases a : tf 0 = 76
  · exact Or.inl a
  · by_cases b : tf 0 = 84
    · exact Or.inr (Or.inl b)
    · by_cases c : tf 0 = 91
      · exact Or.inr (Or.inr c)
      · rw [if_neg a, if_neg b, if_neg c] at h0
        exact absurd rfl h0
theorem fl_fuel {k : Nat} {t : Nat → Nat} {n e : Nat} {tf : Nat → Nat} {nf : Nat} : ∀ w w' j, n - j < w → n - j < w' → fl k t n e tf nf w j = fl k t n e tf nf w' j
  | 0, _, _, h, _ => absurd h (Nat.not_lt_zero _)
  | w + 1, 0, _, _, h => absurd h (Nat.not_lt_zero _)
  | w + 1, w' + 1, j, h1, h2 => by
    have e1 := fun x (hx : j < n) (hjx : j < x) => fl_fuel (k := k) (t := t) (n := n) (e := e) (tf := tf) (nf := nf) w w' x (by omega) (by omega)
    show (if j < n then (if cF k t n e ≤ j ∧ j < cT k t n e then fl k t n e tf nf w (j + 1) else if dA k t n j = some e then wr tf nf ++ fl k t n e tf nf w (nE k t n 7 (j + 1) + 1) else t j :: fl k t n e tf nf w (j + 1)) else []) = (if j < n then (if cF k t n e ≤ j ∧ j < cT k t n e then fl k t n e tf nf w' (j + 1) else if dA k t n j = some e then wr tf nf ++ fl k t n e tf nf w' (nE k t n 7 (j + 1) + 1) else t j :: fl k t n e tf nf w' (j + 1)) else [])
    by_cases hj : j < n
    · have hle := (nE_le (k := k) (t := t) (n := n) (r := 7) (j := j + 1) (by omega)).1
      rw [if_pos hj, if_pos hj, e1 (j + 1) hj (by omega), e1 (nE k t n 7 (j + 1) + 1) hj (by omega)]
    · rw [if_neg hj, if_neg hj]
/-- the filled text -/
def fL (k : Nat) (t : Nat → Nat) (n e : Nat) (tf : Nat → Nat) (nf j : Nat) : List Nat := fl k t n e tf nf (n + 1) j
theorem fL_end {k : Nat} {t : Nat → Nat} {n e : Nat} {tf : Nat → Nat} {nf j : Nat} (h : n ≤ j) : fL k t n e tf nf j = [] := by
  show (if j < n then _ else []) = []
  rw [if_neg (by omega)]
theorem fL_copy {k : Nat} {t : Nat → Nat} {n e : Nat} {tf : Nat → Nat} {nf j : Nat} (hj : j < n) (hc : ¬ (cF k t n e ≤ j ∧ j < cT k t n e)) (hd : dA k t n j ≠ some e) : fL k t n e tf nf j = t j :: fL k t n e tf nf (j + 1) := by
  unfold fL
  rw [fl_copy hj hc hd, fl_fuel n (n + 1) (j + 1) (by omega) (by omega)]
theorem fL_var {k : Nat} {t : Nat → Nat} {n e : Nat} {tf : Nat → Nat} {nf j : Nat} (hj : j < n) (hc : ¬ (cF k t n e ≤ j ∧ j < cT k t n e)) (hd : dA k t n j = some e) : fL k t n e tf nf j = wr tf nf ++ fL k t n e tf nf (nE k t n 7 (j + 1) + 1) := by
  have hle := (nE_le (k := k) (t := t) (n := n) (r := 7) (j := j + 1) (by omega)).1
  unfold fL
  rw [fl_var hj hc hd, fl_fuel n (n + 1) _ (by omega) (by omega)]
theorem fL_skip {k : Nat} {t : Nat → Nat} {n e : Nat} {tf : Nat → Nat} {nf j : Nat} (hj : j < n) (hc : cF k t n e ≤ j ∧ j < cT k t n e) : fL k t n e tf nf j = fL k t n e tf nf (j + 1) := by
  unfold fL
  have : fl k t n e tf nf (n + 1) j = fl k t n e tf nf n (j + 1) := by
    show (if j < n then (if cF k t n e ≤ j ∧ j < cT k t n e then fl k t n e tf nf n (j + 1) else _) else []) = _
    rw [if_pos hj, if_pos hc]
  rw [this, fl_fuel n (n + 1) _ (by omega) (by omega)]
theorem fL_cut {k : Nat} {t : Nat → Nat} {n e : Nat} {tf : Nat → Nat} {nf : Nat} (hn : cT k t n e ≤ n) : ∀ m j, cT k t n e - j = m → cF k t n e ≤ j → j ≤ cT k t n e → fL k t n e tf nf j = fL k t n e tf nf (cT k t n e) := by
  intro m
  induction m with
  | zero =>
    intro j h1 h2 h3
    obtain rfl : j = cT k t n e := by omega
    rfl
  | succ m ih =>
    intro j h1 h2 h3
    rw [fL_skip (by omega) ⟨h2, by omega⟩]
    exact ih (j + 1) (by omega) (by omega) (by omega)
/-- the name taken for a bound: a fault at the : behind it -/
theorem name_bad {k : Nat} {u : Nat → Nat} {p m : Nat} (hl : (aS k u p).1 = 3) (hc : u p = 76 ∨ u p = 84) (hm : 1 ≤ m) (hn : ∀ x, x < m → pNm (u (p + x)) = true) (h58 : u (p + m) = 58) : aR k u (p + m) = 0 ∧ aC k u (p + m) = aC k u p := by
  have eR : aR k u p = if u p = 76 then 9 else 6 := by
    unfold aR
    rw [hl]
    show pFst (u p) = _
    rcases hc with w | w <;> rw [w] <;> rfl
  have l9 : (aS k u (p + 1)).1 = if u p = 76 then 9 else 6 := by rw [aS_succ]; exact eR
  have c1 : aC k u (p + 1) = aC k u p := aC_same (by omega) (fun x a b => by
    obtain rfl : x = p := by omega
    rw [eR]; split <;> decide)
  have fin : ((aS k u (p + m)).1 = 9 ∨ (aS k u (p + m)).1 = 10 ∨ (aS k u (p + m)).1 = 6 ∨ (aS k u (p + m)).1 = 7) ∧ aC k u (p + m) = aC k u p := by
    rcases Nat.eq_or_lt_of_le hm with w | w
    · rw [← w, l9]
      refine ⟨?_, c1⟩
      split <;> omega
    · have n1 := hn 1 w
      have l10 : ((aS k u (p + 1 + 1)).1 = 10 ∨ (aS k u (p + 1 + 1)).1 = 7) ∧ aC k u (p + 1 + 1) = aC k u (p + 1) := by
        have hR : aR k u (p + 1) = 10 ∨ aR k u (p + 1) = 7 := by
          unfold aR
          rw [l9]
          rcases hc with y | y
          · left
            rw [if_pos y]
            show pName (u (p + 1)) 10 = 10
            unfold pName; rw [if_pos n1]
          · right
            rw [if_neg (by omega)]
            show pName (u (p + 1)) 7 = 7
            unfold pName; rw [if_pos n1]
        exact ⟨by rw [aS_succ]; exact hR, aC_same (by omega) (fun x a b => by
          obtain rfl : x = p + 1 := by omega
          omega)⟩
      have nn : ∀ x, 1 ≤ x → x < m - 1 → pNm (u (p + 1 + x)) = true := fun x a b => by rw [show p + 1 + x = p + (1 + x) by omega]; exact hn _ (by omega)
      rcases l10.1 with y | y
      · have g := nm_go (k := k) (t := u) (i := p + 1) (m := m - 1) (Or.inr (Or.inr rfl)) y (m - 1) (by omega) (Nat.le_refl _) nn
        rw [show p + 1 + (m - 1) = p + m by omega] at g
        exact ⟨by rw [g.1]; exact Or.inr (Or.inl rfl), by rw [g.2.1 (by decide), l10.2, c1]⟩
      · have g := nm_go (k := k) (t := u) (i := p + 1) (m := m - 1) (Or.inr (Or.inl rfl)) y (m - 1) (by omega) (Nat.le_refl _) nn
        rw [show p + 1 + (m - 1) = p + m by omega] at g
        exact ⟨by rw [g.1]; exact Or.inr (Or.inr (Or.inr rfl)), by rw [g.2.1 (by decide), l10.2, c1]⟩
  refine ⟨?_, fin.2⟩
  unfold aR
  rw [h58]
  rcases fin.1 with y | y | y | y <;> rw [y] <;> rfl
/-- a run of copied characters -/
theorem fL_run {k : Nat} {t : Nat → Nat} {n e : Nat} {tf : Nat → Nat} {nf : Nat} : ∀ m j, j + m ≤ n → cT k t n e ≤ j → (∀ x, x < m → aR k t (j + x) ≠ 6) → ∀ x, x < m → (fL k t n e tf nf j).getD x 0 = t (j + x) ∧ m ≤ (fL k t n e tf nf j).length
  | 0, _, _, _, _, x, hx => absurd hx (Nat.not_lt_zero _)
  | m + 1, j, h1, h2, h3, x, hx => by
    have dn : dA k t n j ≠ some e := by
      unfold dA
      rw [gR_in (by omega), if_neg (by have := h3 0 (by omega); rw [Nat.add_zero] at this; exact this)]
      simp
    rw [fL_copy (by omega) (by omega) dn]
    cases m with
    | zero =>
      obtain rfl : x = 0 := by omega
      exact ⟨rfl, by simp⟩
    | succ m =>
      have ih := fL_run (k := k) (t := t) (n := n) (e := e) (tf := tf) (nf := nf) (m + 1) (j + 1) (by omega) (by omega) (fun y hy => by rw [show j + 1 + y = j + (1 + y) by omega]; exact h3 _ (by omega))
      have ih0 := ih 0 (by omega)
      refine ⟨?_, by rw [List.length_cons]; omega⟩
      cases x with
      | zero => rfl
      | succ x =>
        rw [List.getD_cons_succ, (ih x (by omega)).1]
        congr 1
        omega
theorem fill_sync {k : Nat} {t u tf : Nat → Nat} {n e nf nu : Nat} (hg : Gd k t n) (hf : Gd 2 tf nf) (he : e < aC k t n) (hm1 : aC k t n ≠ 1) :
    ∀ w j p, n - j < w → j ≤ n → ¬ (cF k t n e < j ∧ j ≤ cT k t n e) → At u p (fL k t n e tf nf j) → nu = p + (fL k t n e tf nf j).length → FS k u t p j (if cT k t n e ≤ j then 1 else 0) → FR k u nu (aC k t n) p (eV k t n e tf j) := by
  have hk := hg.1
  have ecF : cF k t n e = aB k t n e := by unfold cF; rw [if_neg hm1]
  have ecT : cT k t n e = pE k t n e := by unfold cT; rw [if_neg hm1]
  obtain ⟨q1, q2, q3⟩ := cFT hg he
  have bAt := aB_at k t n e he
  have rcF : aR k t (cF k t n e) = 2 ∧ (aS k t (cF k t n e)).1 ≠ 2 := by rw [ecF]; simpa [aN] using bAt.2.1
  intro w
  induction w with
  | zero => intro j p h1; omega
  | succ w ih =>
    intro j p h1 h2 h3 h4 h5 h6
    rcases Nat.lt_or_ge j n with hj | hj
    · by_cases hcut : j = cF k t n e
      · -- the cut
        have hc0 : ¬ cT k t n e ≤ j := by omega
        rw [if_neg hc0] at h6
        rw [fL_cut (by omega) _ j rfl (by omega) (by omega)] at h4 h5
        have hctn : cT k t n e < n := by
          have h9 := pE_in hg he
          rw [ecT]; omega
        -- the role at the end of the cut
        have rT : aR k t (cT k t n e) = 2 ∧ e + 1 < aC k t n ∧ cT k t n e = aB k t n (e + 1) ∨ aR k t (cT k t n e) = 5 ∧ e + 1 = aC k t n ∧ cT k t n e = aO k t n - 1 := by
          rw [ecT]
          unfold pE
          split
          · rename_i hm
            left
            have b := (aB_at k t n (e + 1) hm).2.1
            simp only [aN, Bool.and_eq_true, beq_iff_eq] at b
            exact ⟨b.1, hm, rfl⟩
          · rename_i hm
            right
            exact ⟨(O_1 hg (by omega)).2.2.1, by omega, rfl⟩
        have dn : dA k t n (cT k t n e) ≠ some e := by
          unfold dA
          rw [gR_in hctn, if_neg (by omega)]
          simp
        have h4' := h4
        have h5' := h5
        rw [fL_copy hctn (by omega) dn] at h4 h5
        obtain ⟨hc1, hA⟩ := h4.cons
        rw [List.length_cons] at h5
        have sF := (stX_of hg (p := cF k t n e) (by omega)).2.1 (by omega)
        have sT := (stX_of hg hctn).2.1 (by omega)
        rw [hcut] at h6
        have hd : (aS k u p).2.1 = 0 := by rw [h6.1]; exact sF.2
        have hx : (aS k u p).2.2 = 0 := by rw [h6.2.1]; exact sF.1
        have hCc : aC k t (cT k t n e) = e + 1 := by rw [ecT]; exact pE_C hg he (by have := pE_in hg he; omega) (Nat.le_refl _)
        have hCf : aC k t (cF k t n e) = e := by rw [ecF]; exact bAt.2.2
        have hCu : aC k u p = e := by have := h6.2.2.2; omega
        have hlF := (stN_of hg (p := cF k t n e) (by omega)).2.2.2 rcF.1
        have hl1 : (aS k t (cF k t n e)).1 = 1 → e = 0 := by
          intro z
          rcases Nat.eq_zero_or_pos (cF k t n e) with y | y
          · rw [y] at z; simp [aS] at z
          · have hp1 : aR k t (cF k t n e - 1) = 1 := by
              obtain ⟨m, hm⟩ : ∃ m, cF k t n e = m + 1 := ⟨cF k t n e - 1, by omega⟩
              rw [hm, aS_succ] at z
              rw [hm, Nat.add_sub_cancel]
              exact z
            have := l_0 hg (by omega) ((stX_of hg (p := cF k t n e - 1) (by omega)).1 hp1)
            have hC1 : aC k t (cF k t n e) ≤ cF k t n e - 1 := by
              have e2 : aC k t (cF k t n e) = aC k t (cF k t n e - 1) := by
                refine aC_same (by omega) (fun x a b => ?_)
                obtain rfl : x = cF k t n e - 1 := by omega
                omega
              rw [e2]; exact aC_le _ _ _
            omega
        have hRu : aR k u p = pRole k (aS k t (cF k t n e)).1 0 0 (t (cT k t n e)) := by unfold aR; rw [hd, hx, hc1, pRole_lE h6.2.2.1]
        have hl2u : (aS k u p).1 ≠ 2 := by
          rcases h6.2.2.1 with z | ⟨z, -⟩
          · rw [z]; exact rcF.2
          · have := eI_iff.mp z; omega
        have hctc : ¬ cT k t n e ≤ cF k t n e := by omega
        have evF : eV k t n e tf (cF k t n e) → eV k t n e tf (cT k t n e + 1) := by
          rintro ⟨i, a1, a2, a3, a4, a5, a6⟩
          refine ⟨i, ?_, a2, a3, a4, a5, a6⟩
          rcases Nat.lt_or_ge i (cT k t n e + 1) with y | y
          · exfalso
            have : i = cT k t n e := by omega
            rw [this] at a4
            exact dn a4
          · exact y
        rw [hcut]
        rcases rT with ⟨r2, hm2, eB⟩ | ⟨r5, hm2, eB⟩
        · -- another name follows
          have nmc := (stN_of hg hctn).1 (Or.inl r2)
          have nmc' := pNm_58' nmc
          have pn : pName (t (cT k t n e)) 2 = 2 := by unfold pName; rw [if_pos nmc]
          have pb : pBnd (t (cT k t n e)) = 2 := by unfold pBnd; rw [if_neg (by omega), if_neg (by omega), pn]
          have goon : aR k u p = 2 → FR k u nu (aC k t n) p (eV k t n e tf (cF k t n e)) := by
            intro hr
            have hNu : aN k u p = true := by simp [aN, hr, hl2u]
            have hNt : aN k t (cT k t n e) = true := by rw [eB]; exact (aB_at k t n (e + 1) hm2).2.1
            refine FR_up (p' := p + 1) (by omega) evF (ih (cT k t n e + 1) (p + 1) (by omega) (by omega) (by omega) hA (by omega) ?_)
            rw [if_pos (by omega)]
            refine ⟨by rw [aS_succ, aS_succ, hr, r2, hd, sT.2], by rw [aS_succ, aS_succ, hr, r2, hx, sT.1], Or.inl (by rw [aS_succ, aS_succ]; show aR k u p = aR k t (cT k t n e); rw [hr, r2]), ?_⟩
            show (if aN k u p = true then aC k u p + 1 else _) + 1 = (if aN k t (cT k t n e) = true then aC k t (cT k t n e) + 1 else _)
            rw [if_pos hNu, if_pos hNt, hCu, hCc]
          rcases hlF with z | z | z | z | z | z | z | z
          · exact goon (by rw [hRu, z]; exact pn)
          · exact absurd z rcF.2
          · by_cases c1 : t (cT k t n e) = 76 ∨ t (cT k t n e) = 84
            · -- it is taken for a bound
              right
              obtain ⟨e1, e2, e3, e4⟩ := nm_end hg hm2
              obtain ⟨l1, l2, l3⟩ := nm_chars hg hm2
              rw [← eB] at l2 l3 e3
              have run := fL_run (tf := tf) (nf := nf) (e := e) (k := k) (t := t) (n := n) (ln k t n (e + 1) + 1) (cT k t n e) (by omega) (Nat.le_refl _) (fun x hx2 => by
                rcases Nat.lt_or_ge x (ln k t n (e + 1)) with y | y
                · rw [e3 _ (by omega) (by omega)]; decide
                · rw [show cT k t n e + x = aE k t n (e + 1) by omega, e2]; decide)
              have hlu : (aS k u p).1 = 3 := by
                rcases h6.2.2.1 with y | ⟨-, y⟩
                · rw [y]; exact z
                · rw [z] at y; exact absurd y (by decide)
              have hux : ∀ x, x < ln k t n (e + 1) + 1 → u (p + x) = t (cT k t n e + x) := fun x hx2 => by
                have := run x hx2
                rw [h4' x (by omega), this.1]
              have bad := name_bad (k := k) (u := u) (p := p) (m := ln k t n (e + 1)) hlu (by have := hux 0 (by omega); rw [Nat.add_zero, Nat.add_zero] at this; rw [this]; exact c1) l1 (fun x hx2 => by rw [hux x (by omega)]; exact l2 x hx2) (by rw [hux _ (by omega), show cT k t n e + ln k t n (e + 1) = aE k t n (e + 1) by omega]; exact (stN_of hg e1).2.2.1 e2)
              have hlen := (run 0 (by omega)).2
              exact ⟨p + ln k t n (e + 1), by omega, by omega, bad.1, by rw [bad.2, hCu]; omega⟩
            · refine goon ?_
              rw [hRu, z]
              show pFst (t (cT k t n e)) = 2
              have p0 : pRef (t (cT k t n e)) = 0 := by unfold pRef; rw [if_neg (fun y => c1 (Or.inl y)), if_neg (fun y => c1 (Or.inr y)), if_neg nmc'.2.2.2.2.2.2]
              unfold pFst
              rw [if_pos p0]
              exact pb
          · exact goon (by rw [hRu, z]; exact pb)
          · exact goon (by rw [hRu, z]; exact pb)
          · exact goon (by rw [hRu, z]; exact pb)
          · exact goon (by rw [hRu, z]; exact pb)
          · exact goon (by rw [hRu, z]; exact pb)
        · -- the > follows
          have c62 : t (cT k t n e) = 62 := by
            have c := st_all (fun k l x dp c r => if r = 5 then c == 62 else true) (by decide +kernel) hg hctn
            rw [if_pos r5] at c
            simpa using c
          have hr : aR k u p = 5 := by
            rw [hRu, c62]
            rcases hlF with z | z | z | z | z | z | z | z
            · have := hl1 z; omega
            · exact absurd z rcF.2
            · rw [z]; rfl
            · rw [z]; rfl
            · rw [z]; rfl
            · rw [z]; rfl
            · rw [z]; rfl
            · rw [z]; rfl
          refine FR_up (p' := p + 1) (by omega) evF (ih (cT k t n e + 1) (p + 1) (by omega) (by omega) (by omega) hA (by omega) ?_)
          rw [if_pos (by omega)]
          have n1 : aN k u p = false := by simp [aN, hr]
          have n2 : aN k t (cT k t n e) = false := by simp [aN, r5]
          refine ⟨by rw [aS_succ, aS_succ, hr, r5, hd, sT.2], by rw [aS_succ, aS_succ, hr, r5, hx, sT.1], Or.inl (by rw [aS_succ, aS_succ]; show aR k u p = aR k t (cT k t n e); rw [hr, r5]), ?_⟩
          show (if aN k u p = true then _ else aC k u p) + 1 = (if aN k t (cT k t n e) = true then _ else aC k t (cT k t n e))
          rw [n1, n2]
          show aC k u p + 1 = aC k t (cT k t n e)
          rw [hCu, hCc]
      · have hnc : ¬ (cF k t n e ≤ j ∧ j < cT k t n e) := by omega
        by_cases hd : dA k t n j = some e
        · -- a variable that is filled
          have r6 : aR k t j = 6 := by
            unfold dA at hd
            rw [gR_in hj] at hd
            by_cases z : aR k t j = 6
            · exact z
            · rw [if_neg z] at hd; cases hd
          have hT : TS k t n j := ⟨hj, by omega⟩
          obtain ⟨vE1, vE2, vE3⟩ := var_end hg hj r6
          obtain ⟨a1, a2, a3, a4, a5, a6⟩ := tE_sp hg hT
          have t84 := (stN_of hg hj).2.1 r6
          obtain ⟨f0, f1, f2⟩ := first_f hf
          rw [fL_var hj hnc hd] at h4 h5
          obtain ⟨hA1, hA2⟩ := h4.app
          rw [wr_len] at hA2
          rw [List.length_append, wr_len] at h5
          have hA : ∀ i, i < nf → u (p + i) = tf i := fun i hi => by rw [hA1 i (by rw [wr_len]; exact hi), wr_get hi]
          have hu0 : u p = tf 0 := by have := hA 0 f0; rw [Nat.add_zero] at this; exact this
          have hRu : aR k u p = pRole k (aS k t j).1 (if 0 < (aS k t j).2.1 then 1 else 0) (aS k t j).2.2 (tf 0) := by unfold aR; rw [h6.1, h6.2.1, hu0, pRole_lE h6.2.2.1, role_dep]
          have cc := st_all _ stW_all hg hj
          unfold stW at cc
          rw [t84, r6] at cc
          have dd : (if decide (0 < (aS k t j).2.1) = true then 1 else 0) = if 0 < (aS k t j).2.1 then 1 else 0 := by
            by_cases y : 0 < (aS k t j).2.1
            · simp [y]
            · simp [y]
          rw [dd] at cc
          simp only [beq_self_eq_true, Bool.and_self, Bool.not_true, Bool.false_or, Bool.and_eq_true, Bool.or_eq_true, beq_iff_eq, Bool.not_eq_true', beq_eq_false_iff_ne] at cc
          obtain ⟨⟨⟨k1, k2⟩, k3⟩, k4⟩ := cc
          by_cases hev : (aS k t j).1 = 24 ∧ tf 0 = 91
          · right
            refine ⟨p, Nat.le_refl _, by omega, ?_, ?_⟩
            · rw [hRu, hev.2]
              rcases k4 with y | y
              · exact absurd hev.1 y
              · exact y
            · have h7 := h6.2.2.2
              have h8 := aC_mono (k := k) (t := t) (show j ≤ n by omega)
              omega
          · have h0 : aR k u p = aR 2 tf 0 := by
              rw [hRu, f1]
              rcases f2 with y | y | y
              · rw [y]; exact k1
              · rw [y]; exact k3
              · rw [y]
                rcases k2 with z | z
                · exact absurd ⟨z, y⟩ hev
                · exact z
            have hxl := (aS_lt k u p).2.2
            obtain ⟨n1, n2, n3, n4, n5⟩ := nest hf hk hxl hA h0 nf f0 (Nat.le_refl _)
            have hend := end_l hf
            have hd0 := hf.2.2.2.2.1.2.1
            have hae := eI_iff.mp a4
            have hct2 : j < cF k t n e → nE k t n 7 (j + 1) + 1 ≤ cF k t n e := by
              intro y
              rcases Nat.lt_or_ge (nE k t n 7 (j + 1)) (cF k t n e) with z | z
              · exact z
              · exfalso
                have := (typ_roles hg hT (i := cF k t n e) (by omega) (by omega)).2.1
                exact this rcF.1
            have hS : FS k u t (p + nf) (nE k t n 7 (j + 1) + 1) (if cT k t n e ≤ j then 1 else 0) := by
              rw [← vE1]
              refine ⟨?_, ?_, Or.inr ⟨?_, by rw [aS_succ]; exact a4⟩, ?_⟩
              · rw [n2, hd0, dep_no (by omega) (by omega), a3, h6.1]; rfl
              · rw [n3, typ_sec hg hT _ (by omega) (Nat.le_refl _)]; exact h6.2.1
              · rw [n1]; exact eI_iff.mpr hend
              · rw [n4, aC_same (p := j) (q := tE k t n j + 1) (by omega) (fun x y1 y2 => (typ_roles hg hT y1 (by omega)).2.1)]
                exact h6.2.2.2
            refine FR_up (p' := p + nf) (by omega) ?_ (ih (nE k t n 7 (j + 1) + 1) (p + nf) (by omega) (by omega) (by omega) hA2 (by omega) ?_)
            · rintro ⟨i, b1, b2, b3, b4, b5, b6⟩
              refine ⟨i, ?_, b2, b3, b4, b5, b6⟩
              rcases Nat.eq_or_lt_of_le b1 with y | y
              · rw [← y] at b5; exact absurd ⟨b5, b6⟩ hev
              · rcases Nat.lt_or_ge i (nE k t n 7 (j + 1) + 1) with z | z
                · exfalso
                  have hr6 : aR k t i = 6 := by
                    unfold dA at b4
                    rw [gR_in b2] at b4
                    by_cases q : aR k t i = 6
                    · exact q
                    · rw [if_neg q] at b4; cases b4
                  rcases Nat.lt_or_ge i (nE k t n 7 (j + 1)) with q | q
                  · have := nE_run (k := k) (t := t) (n := n) (r := 7) _ (j + 1) rfl i (by omega) q
                    omega
                  · have : i = tE k t n j := by omega
                    rw [this] at hr6; omega
                · exact z
            · by_cases y : cT k t n e ≤ j
              · rw [if_pos y] at hS
                rw [if_pos (by omega)]; exact hS
              · rw [if_neg y] at hS
                rw [if_neg (by omega)]; exact hS
        · -- a character as it is
          rw [fL_copy hj hnc hd] at h4 h5
          obtain ⟨hc1, hA⟩ := h4.cons
          rw [List.length_cons] at h5
          have hS := FS_next h6 hc1
          refine FR_up (p' := p + 1) (by omega) ?_ (ih (j + 1) (p + 1) (by omega) (by omega) (by omega) hA (by omega) ?_)
          · rintro ⟨i, a1, a2, a3, a4, a5, a6⟩
            refine ⟨i, ?_, a2, a3, a4, a5, a6⟩
            rcases Nat.eq_or_lt_of_le a1 with y | y
            · rw [← y] at a4; exact absurd a4 hd
            · omega
          · by_cases y : cT k t n e ≤ j
            · rw [if_pos y] at hS
              rw [if_pos (by omega)]; exact hS
            · rw [if_neg y] at hS
              rw [if_neg (by omega)]; exact hS
    · -- the end
      left
      have e0 : fL k t n e tf nf j = [] := fL_end hj
      rw [e0] at h5
      have hjn : j = n := by omega
      subst hjn
      rw [if_pos (by omega)] at h6
      refine ⟨?_, ?_⟩
      · rw [h5]; exact h6.2.2.2
      · rintro ⟨i, a1, a2, -⟩
        omega
