/-! a parameter's name and first bound -/
theorem nm_p {k : Nat} {t : Nat → Nat} : ∀ p j, j < aC k t p → (∀ i, aB k t p j ≤ i → i < aE k t p j → aR k t i = 2) ∧ ((j + 1 < aC k t p ∨ (aS k t p).1 ≠ 2) → aE k t p j < p ∧ aR k t (aE k t p j) ≠ 2) ∧ (j + 1 = aC k t p → (aS k t p).1 = 2 → aE k t p j = p)
  | 0, j, h => absurd h (Nat.not_lt_zero _)
  | p + 1, j, h => by
    have hC : aC k t (p + 1) = if aN k t p = true then aC k t p + 1 else aC k t p := rfl
    have hB : aB k t (p + 1) j = if aN k t p = true ∧ j = aC k t p then p else aB k t p j := rfl
    have hE : aE k t (p + 1) j = if aR k t p = 2 ∧ j + 1 = aC k t (p + 1) then p + 1 else aE k t p j := rfl
    have el : (aS k t (p + 1)).1 = aR k t p := by rw [aS_succ]
    have hN : aN k t p = true ↔ aR k t p = 2 ∧ (aS k t p).1 ≠ 2 := by simp [aN]
    rw [el]
    by_cases hn : aN k t p = true
    · obtain ⟨r2, l2⟩ := hN.mp hn
      rw [if_pos hn] at hC
      by_cases hj : j = aC k t p
      · rw [hB, if_pos ⟨hn, hj⟩, hE, if_pos ⟨r2, by omega⟩]
        refine ⟨fun i h1 h2 => ?_, fun z => by omega, fun _ _ => rfl⟩
        obtain rfl : i = p := by omega
        exact r2
      · have ih := nm_p (k := k) (t := t) p j (by omega)
        rw [hB, if_neg (fun z => hj z.2), hE, if_neg (by omega)]
        have := ih.2.1 (Or.inr l2)
        exact ⟨ih.1, fun _ => ⟨by omega, this.2⟩, fun z => by omega⟩
    · rw [if_neg hn] at hC
      have ih := nm_p (k := k) (t := t) p j (by omega)
      rw [hB, if_neg (fun z => hn z.1)]
      by_cases r2 : aR k t p = 2
      · have l2 : (aS k t p).1 = 2 := by
          by_cases q : (aS k t p).1 = 2
          · exact q
          · exact absurd (hN.mpr ⟨r2, q⟩) hn
        by_cases hj : j + 1 = aC k t p
        · rw [hE, if_pos ⟨r2, by omega⟩]
          have e := ih.2.2 hj l2
          refine ⟨fun i h1 h2 => ?_, fun z => by omega, fun _ _ => rfl⟩
          rcases Nat.lt_or_ge i p with q | q
          · exact ih.1 i h1 (by omega)
          · obtain rfl : i = p := by omega
            exact r2
        · rw [hE, if_neg (by omega)]
          have := ih.2.1 (Or.inl (by omega))
          exact ⟨ih.1, fun _ => ⟨by omega, this.2⟩, fun z => by omega⟩
      · rw [hE, if_neg (fun z => r2 z.1)]
        refine ⟨ih.1, fun _ => ?_, fun _ z => absurd z r2⟩
        by_cases q : j + 1 < aC k t p ∨ (aS k t p).1 ≠ 2
        · have := ih.2.1 q
          exact ⟨by omega, this.2⟩
        · have e := ih.2.2 (by omega) (by omega)
          rw [e]
          exact ⟨by omega, r2⟩
def st2 (k l x : Nat) (dp : Bool) (c r : Nat) : Bool := r == 0 || ((if l = 2 then r == 2 || r == 3 else true) && (if l = 3 then r == 4 || r == 9 || r == 6 || r == 19 || r == 2 || r == 5 else true) && (if l = 6 || l = 7 then r == 7 || r == 8 else true) && (if r = 8 then l == 7 else true))
theorem st2_all : pAll 3 (fun k => pAll 4 (fun x => pAll 25 (fun l => pAll 127 (fun c => stQ st2 k x l c)))) = true := by decide +kernel
theorem st2_of {k : Nat} {t : Nat → Nat} {n p : Nat} (hg : Gd k t n) (hp : p < n) : ((aS k t p).1 = 2 → aR k t p = 2 ∨ aR k t p = 3) ∧ ((aS k t p).1 = 3 → aR k t p = 4 ∨ aR k t p = 9 ∨ aR k t p = 6 ∨ aR k t p = 19 ∨ aR k t p = 2 ∨ aR k t p = 5) ∧ ((aS k t p).1 = 6 ∨ (aS k t p).1 = 7 → aR k t p = 7 ∨ aR k t p = 8) := by
  have c := st_all _ st2_all hg hp
  have h0 := hg.r0 hp
  unfold st2 at c
  simp only [Bool.or_eq_true, Bool.and_eq_true, beq_iff_eq] at c
  rcases c with c | ⟨⟨⟨c1, c2⟩, c3⟩, c4⟩
  · exact absurd c h0
  · refine ⟨fun z => ?_, fun z => ?_, fun z => ?_⟩
    · rw [if_pos z] at c1; simpa using c1
    · rw [if_pos z] at c2
      simp only [Bool.or_eq_true, beq_iff_eq] at c2
      omega
    · rw [if_pos (by simpa using z)] at c3; simpa using c3
theorem end_l {k : Nat} {t : Nat → Nat} {n : Nat} (hg : Gd k t n) : (aS k t n).1 = 14 ∨ (aS k t n).1 = 8 ∨ (aS k t n).1 = 20 ∨ (aS k t n).1 = 21 ∨ (aS k t n).1 = 17 := hg.2.2.2.2.1.2.2
/-- the place behind a name: a colon -/
theorem nm_end {k : Nat} {t : Nat → Nat} {n j : Nat} (hg : Gd k t n) (hj : j < aC k t n) : aE k t n j < n ∧ aR k t (aE k t n j) = 3 ∧ (∀ i, aB k t n j ≤ i → i < aE k t n j → aR k t i = 2) ∧ aE k t n j < pE k t n j := by
  obtain ⟨h1, h2, h3⟩ := nm_p (k := k) (t := t) n j hj
  have hl := end_l hg
  obtain ⟨e1, e2⟩ := h2 (Or.inr (by omega))
  have hbe := (aBE k t n).1 j hj
  have hl2 : (aS k t (aE k t n j)).1 = 2 := by
    obtain ⟨m, hm⟩ : ∃ m, aE k t n j = m + 1 := ⟨aE k t n j - 1, by omega⟩
    rw [hm, aS_succ]
    exact h1 m (by omega) (by omega)
  have e3 : aR k t (aE k t n j) = 3 := by
    have := (st2_of hg e1).1 hl2
    omega
  refine ⟨e1, e3, h1, ?_⟩
  obtain ⟨p1, p2, p3⟩ := pE_in hg hj
  rcases Nat.lt_or_ge (aE k t n j) (pE k t n j) with q | q
  · exact q
  · exfalso
    -- the end lies within the names' section, so the next begins behind it
    unfold pE at q p1
    split at q
    · rename_i hm
      obtain ⟨b1, b2, b3⟩ := aB_at k t n (j + 1) hm
      have hr : aR k t (aB k t n (j + 1)) = 2 ∧ (aS k t (aB k t n (j + 1))).1 ≠ 2 := by simpa [aN] using b2
      have hb := aB_lt (k := k) (t := t) (n := n) (i := j) (j := j + 1) hm (by omega)
      have hne : aB k t n (j + 1) ≠ aE k t n j := fun z => by rw [z] at hr; omega
      obtain ⟨m, hm2⟩ : ∃ m, aB k t n (j + 1) = m + 1 := ⟨aB k t n (j + 1) - 1, by omega⟩
      rw [hm2, aS_succ] at hr
      exact hr.2 (h1 m (by omega) (by omega))
    · rename_i hm
      rw [if_neg hm] at p1
      obtain ⟨o1, o2, o3, o4, o5⟩ := O_1 hg (by omega)
      rcases Nat.eq_or_lt_of_le q with z | z
      · rw [← z, o3] at e3; omega
      · have := h1 (aO k t n - 1) (by omega) (by omega)
        rw [o3] at this; omega
theorem nE_name {k : Nat} {t : Nat → Nat} {n j : Nat} (hg : Gd k t n) (hj : j < aC k t n) : nE k t n 2 (aB k t n j) = aE k t n j := by
  obtain ⟨e1, e2, e3, e4⟩ := nm_end hg hj
  have hbe := (aBE k t n).1 j hj
  have : ∀ m i, aE k t n j - i = m → aB k t n j ≤ i → i ≤ aE k t n j → nE k t n 2 i = aE k t n j := by
    intro m
    induction m with
    | zero =>
      intro i h1 h2 h3
      obtain rfl : i = aE k t n j := by omega
      exact nE_stop (fun _ => by omega)
    | succ m ih =>
      intro i h1 h2 h3
      rw [nE_go (by omega) (e3 i h2 (by omega))]
      exact ih (i + 1) (by omega) (by omega) (by omega)
  exact this _ _ rfl (Nat.le_refl _) (by omega)
/-- the first bound: where the class looks -/
def fB (k : Nat) (t : Nat → Nat) (n j : Nat) : Option Nat := if gR k t n (aE k t n j + 1) = 4 then some (aE k t n j + 2) else if gR k t n (aE k t n j + 1) = 9 ∨ gR k t n (aE k t n j + 1) = 6 ∨ gR k t n (aE k t n j + 1) = 19 then some (aE k t n j + 1) else none
theorem fB_aFb {k : Nat} {t : Nat → Nat} {n j : Nat} (hg : Gd k t n) (hj : j < aC k t n) : aFb k t n j = fB k t n j := by
  obtain ⟨e1, e2, e3, e4⟩ := nm_end hg hj
  obtain ⟨p1, p2, p3⟩ := pE_in hg hj
  have hbe := (aBE k t n).1 j hj
  obtain ⟨b1, b2, b3⟩ := aB_at k t n j hj
  have stp : ∀ q, aB k t n j < q → aFb k t (q + 1) j = if aBg k t q = true ∧ j + 1 = aC k t q ∧ aFb k t q j = none then some q else aFb k t q j := by
    intro q hq
    have := (aC_B (q := q) hj).mpr hq
    show (if aN k t q = true ∧ j = aC k t q then none else if aBg k t q = true ∧ j + 1 = aC k t q ∧ aFb k t q j = none then some q else aFb k t q j) = _
    rw [if_neg (by omega)]
  -- nothing up to the colon
  have low : ∀ q, aB k t n j < q → q ≤ aE k t n j + 1 → aFb k t q j = none := by
    intro q h1
    induction h1 with
    | refl =>
      intro _
      show (if aN k t (aB k t n j) = true ∧ j = aC k t (aB k t n j) then none else _) = none
      rw [if_pos ⟨b2, b3.symm⟩]
    | @step q h1 ih =>
      intro h2
      have h1' : aB k t n j < q := h1
      rw [stp q h1', ih (by omega), if_neg]
      rintro ⟨z, -⟩
      simp only [aBg, Bool.and_eq_true, Bool.or_eq_true, beq_iff_eq] at z
      rcases Nat.lt_or_ge q (aE k t n j) with y | y
      · have := e3 q (by omega) y; omega
      · obtain rfl : q = aE k t n j := by omega
        omega
  -- behind a found bound nothing changes
  have keep : ∀ q b, aB k t n j < q → aFb k t q j = some b → ∀ q2, q ≤ q2 → aFb k t q2 j = some b := by
    intro q b h1 h2 q2 h3
    induction h3 with
    | refl => exact h2
    | @step q2 h3 ih =>
      have h3' : q ≤ q2 := h3
      rw [stp q2 (by omega), ih, if_neg]
      rintro ⟨-, -, z⟩; cases z
  have hl3 : (aS k t (aE k t n j + 1)).1 = 3 := by rw [aS_succ]; exact e2
  have hE1 : aE k t n j + 1 < n := by omega
  have hC1 : aC k t (aE k t n j + 1) = j + 1 := pE_C hg hj (by omega) (by omega)
  have h0 := low (aE k t n j + 1) (by omega) (Nat.le_refl _)
  have s1 := stp (aE k t n j + 1) (by omega)
  rw [h0] at s1
  unfold fB
  rw [gR_in hE1]
  rcases (st2_of hg hE1).2.1 hl3 with r | r | r | r | r | r
  · rw [if_pos r]
    have hb0 : aBg k t (aE k t n j + 1) = false := by simp [aBg, r]
    rw [hb0] at s1
    simp only [Bool.false_eq_true, false_and, if_false] at s1
    have hE2 : aE k t n j + 2 < n := by
      rcases Nat.lt_or_ge (aE k t n j + 2) n with q | q
      · exact q
      · have hq : n = aE k t n j + 1 + 1 := by omega
        have := end_l hg
        have e9 : (aS k t n).1 = aR k t (aE k t n j + 1) := by
          have : ∀ q, n = q + 1 → (aS k t n).1 = aR k t q := fun q z => by rw [z, aS_succ]
          exact this _ hq
        omega
    have hl4 : (aS k t (aE k t n j + 1 + 1)).1 = 4 := by rw [aS_succ]; exact r
    have hr := (stX_of hg hE2).2.2.2.1 hl4
    have hb1 : aBg k t (aE k t n j + 1 + 1) = true := by
      simp only [aBg, Bool.and_eq_true, Bool.or_eq_true, beq_iff_eq]
      exact ⟨by have : aE k t n j + 2 = aE k t n j + 1 + 1 := rfl
                rw [← this]; omega, Or.inr hl4⟩
    have hC2 : aC k t (aE k t n j + 1 + 1) = j + 1 := by
      refine pE_C hg hj (by omega) ?_
      rcases Nat.lt_or_ge (pE k t n j) (aE k t n j + 1 + 1) with q | q
      · exfalso
        have e5 : pE k t n j = aE k t n j + 1 := by omega
        unfold pE at e5
        split at e5
        · rename_i hm
          have := (aB_at k t n (j + 1) hm).2.1
          simp only [aN, Bool.and_eq_true, beq_iff_eq] at this
          rw [e5, r] at this; omega
        · have := (O_1 hg (by omega)).2.2.1
          rw [e5, r] at this; omega
      · exact q
    have s2 := stp (aE k t n j + 1 + 1) (by omega)
    rw [s1, if_pos ⟨hb1, hC2.symm, rfl⟩] at s2
    exact keep _ _ (by omega) s2 n (by omega)
  all_goals rw [if_neg (by omega)]
  · rw [if_pos (by omega)]
    rw [if_pos ⟨by simp [aBg, r, hl3], hC1.symm, rfl⟩] at s1
    exact keep _ _ (by omega) s1 n (by omega)
  · rw [if_pos (by omega)]
    rw [if_pos ⟨by simp [aBg, r, hl3], hC1.symm, rfl⟩] at s1
    exact keep _ _ (by omega) s1 n (by omega)
  · rw [if_pos (by omega)]
    rw [if_pos ⟨by simp [aBg, r, hl3], hC1.symm, rfl⟩] at s1
    exact keep _ _ (by omega) s1 n (by omega)
  · rw [if_neg (by omega)]
    -- another name begins
    have hn : aN k t (aE k t n j + 1) = true := by simp [aN, r, hl3]
    have : ∀ q, aE k t n j + 1 < q → aFb k t q j = none := by
      intro q h1
      induction h1 with
      | refl => rw [s1, if_neg]; rintro ⟨z, -⟩; simp [aBg, r] at z
      | @step q h1 ih =>
        have h1' : aE k t n j + 1 < q := h1
        rw [stp q (by omega), ih, if_neg]
        rintro ⟨-, z, -⟩
        have e5 : aC k t (aE k t n j + 1 + 1) = aC k t (aE k t n j + 1) + 1 := by show (if aN k t (aE k t n j + 1) = true then _ else _) = _; rw [if_pos hn]
        have := aC_mono (k := k) (t := t) (show aE k t n j + 1 + 1 ≤ q from h1')
        omega
    exact this n hE1
  · rw [if_neg (by omega)]
    have hO := (O_1 hg (by omega)).2.2.2.1 _ hE1 r
    have hx := (O_1 hg (by omega)).2.2.2.2
    have : ∀ q, aE k t n j + 1 < q → q ≤ n → aFb k t q j = none := by
      intro q h1
      induction h1 with
      | refl => intro _; rw [s1, if_neg]; rintro ⟨z, -⟩; simp [aBg, r] at z
      | @step q h1 ih =>
        intro h2
        have h1' : aE k t n j + 1 < q := h1
        rw [stp q (by omega), ih (by omega), if_neg]
        rintro ⟨z, -⟩
        simp only [aBg, Bool.and_eq_true, Bool.or_eq_true, beq_iff_eq] at z
        exact hx q (by omega) (by omega) ((stX_of hg (p := q) (by omega)).2.2.1 (by omega))
    exact this n hE1 (Nat.le_refl n)
theorem r_firstBound {post : Int32 → Prop} {u : SgC} {k : Nat} {t : Nat → Nat} {n j : Nat} (hu : SgI u k t n) (hg : Gd k t n) (hj : j < aC k t n) (h : post (oI (aFb k t n j))) : wp_Sg_firstBound post u (nI j) := by
  have hn := hg.2.1
  rw [fB_aFb hg hj] at h
  have hbe := (aBE k t n).1 j hj
  unfold wp_Sg_firstBound
  refine r_nameStart hu hg hj (r_nameLength hu hg hj ?_)
  rw [nI_add, show aB k t n j + (aE k t n j - aB k t n j) = aE k t n j by omega, nI_1]
  unfold fB at h
  have hr := gR_lt k t n (aE k t n j + 1)
  refine r_roleAt hu hn (by omega) (b_eq (k := 4) (by omega) (by decide) (fun e => ?_) (fun e => r_roleAt hu hn (by omega) (r_beginsReference (by omega) ?_)))
  · rw [if_pos e] at h; rw [nI_1]; exact h
  · rw [if_neg e] at h
    by_cases q : gR k t n (aE k t n j + 1) = 9 ∨ gR k t n (aE k t n j + 1) = 6 ∨ gR k t n (aE k t n j + 1) = 19
    · rw [if_pos q] at h; rw [if_pos q]; exact ⟨fun z => absurd z (by decide), fun _ => h⟩
    · rw [if_neg q] at h; rw [if_neg q]; exact ⟨fun _ => h, fun z => absurd rfl z⟩
