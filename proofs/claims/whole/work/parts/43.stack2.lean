theorem sChk_of {k l x c : Nat} (hk : k < 3) (hl : l < 25) (hx : x < 4) (hc : c < 127) : sChk0 k l x c = true ∧ sChk1 k l x c = true ∧ pChk k l x c true = true ∧ pChk k l x c false = true := by
  have h1 := pAll_ok _ _ (pAll_ok _ _ (pAll_ok _ _ (pAll_ok _ _ sChk_all k hk) x hx) l hl) c hc
  have h2 := pAll_ok _ _ (pAll_ok _ _ (pAll_ok _ _ (pAll_ok _ _ pChk_all k hk) x hx) l hl) c hc
  simp only [Bool.and_eq_true] at h1 h2
  exact ⟨h1.1, h1.2, h2.1, h2.2⟩
theorem pRole_dep {k l d x c : Nat} (hd : 0 < d) : pRole k l d x c = pRole k l 1 x c := by
  unfold pRole pItem
  rw [if_pos hd, if_pos (show 0 < 1 by decide)]
theorem sL_last (d : Nat) : sL (d + 1) = sL d ++ [9, 11] := rfl
theorem skr_up (k l x e : Nat) (B : List Nat) : skr k l x (e + 1) B = (B ++ sL e) ++ skr k l x 1 [] := by
  unfold skr
  by_cases h : l = 15
  · simp [h, sL]
  · by_cases h2 : sEnd l = true
    · simp [h, h2, sL]
    · simp [h, h2, sL]
theorem skr_next (k r x e : Nat) (B : List Nat) : skr k r x (pDep r (e + 1)) B = (B ++ sL e) ++ skr k r x (pDep r 1) [] := by
  by_cases h : r = 15
  · subst h
    simp [skr, pDep, sL]
  · by_cases h2 : r = 16
    · subst h2
      simp [skr, pDep, sL, sEnd]
    · have e1 : pDep r (e + 1) = e + 1 := by simp [pDep, h, h2]
      have e2 : pDep r 1 = 1 := by simp [pDep, h, h2]
      rw [e1, e2, skr_up]
theorem sAp_app {o : PO} {Z S : List Nat} (hS : S ≠ []) : sAp o (Z ++ S) = Z ++ sAp o S := by
  unfold sAp
  rw [List.dropLast_append_of_ne_nil hS]
  split
  · simp
  · split
    · simp
    · split <;> rfl
theorem skr_ne (k l x : Nat) : skr k l x 1 [] ≠ [] := by
  unfold skr
  split
  · simp
  · split
    · simp [sL]
    · simp
/-- a good step of the class's state is the reference's operation on the stack -/
theorem sk_step {k l d x c : Nat} (hk : k < 3) (hl : l < 25) (hx : x < 4) (hc : c < 127) (hok : pOk k l x (decide (0 < d)) = true) (hr : pRole k l d x c ≠ 0) :
    sk k (pRole k l d x c) (pDep (pRole k l d x c) d) (pSec (pRole k l d x c) x) = sAp (gStep (pTop k l x (decide (0 < d))) c) (sk k l d x) ∧ pOk k (pRole k l d x c) (pSec (pRole k l d x c) x) (decide (0 < pDep (pRole k l d x c) d)) = true ∧ (gStep (pTop k l x (decide (0 < d))) c).2.1 ≠ 0 := by
  obtain ⟨c0, c1, -, -⟩ := sChk_of hk hl hx hc
  rcases Nat.eq_zero_or_pos d with hd | hd
  · subst hd
    have e : decide (0 < 0) = false := rfl
    rw [e] at hok ⊢
    unfold sChk0 at c0
    rw [hok] at c0
    simp only [Bool.not_true, Bool.false_or, Bool.or_eq_true, beq_iff_eq, Bool.and_eq_true, bne_iff_ne] at c0
    rcases c0 with q | ⟨⟨q1, q2⟩, q3⟩
    · exact absurd q hr
    · refine ⟨q1, ?_, q3⟩
      have : decide (0 < pDep (pRole k l 0 x c) 0) = (pRole k l 0 x c == 15) := by
        unfold pDep
        by_cases h15 : pRole k l 0 x c = 15
        · simp [h15]
        · by_cases h16 : pRole k l 0 x c = 16
          · simp [h15, h16]
          · simp [h15, h16]
      rw [this]
      exact q2
  · have e : decide (0 < d) = true := by simp [hd]
    rw [e] at hok ⊢
    have er := pRole_dep (k := k) (l := l) (x := x) (c := c) hd
    rw [er] at hr ⊢
    unfold sChk1 at c1
    rw [hok] at c1
    simp only [Bool.not_true, Bool.false_or, Bool.or_eq_true, beq_iff_eq, Bool.and_eq_true, bne_iff_ne, Bool.not_eq_true'] at c1
    rcases c1 with q | ⟨⟨⟨⟨⟨⟨⟨q1, q2⟩, q3⟩, q4⟩, q5⟩, q6⟩, q7⟩, q8⟩
    · exact absurd q hr
    · obtain ⟨m, rfl⟩ : ∃ m, d = m + 1 := ⟨d - 1, by omega⟩
      refine ⟨?_, ?_, q8⟩
      · rw [q2]
        unfold sk
        rw [q4, q5, q6, q7]
        simp only [Bool.false_eq_true, if_false]
        rw [skr_next, skr_up, sAp_app (skr_ne k l x), q1]
      · rw [q2]
        by_cases h16 : pRole k l 1 x c = 16
        · rw [if_pos h16, Bool.and_eq_true] at q3
          rw [h16]
          cases hz : decide (0 < pDep 16 (m + 1))
          · exact q3.1
          · exact q3.2
        · rw [if_neg h16] at q3
          have : decide (0 < pDep (pRole k l 1 x c) (m + 1)) = true := by
            unfold pDep
            rw [if_neg h16]
            split <;> simp
          rw [this]
          exact q3
