def sChk6 (k l x : Nat) : Bool := !pOk k l x false || ((decide ((sk k l 0 x).length = 1) && (decide (pTop k l x false = 22) || decide (pTop k l x false = 27) || decide (pTop k l x false = 29))) == ((decide (x = 3) || decide (x = 1) && decide (k ≠ 1)) && (decide (l = 14) || decide (l = 8) || decide (l = 20) || decide (l = 21) || decide (l = 17))))
theorem sChk6_all : pAll 3 (fun k => pAll 4 (fun x => pAll 25 (fun l => sChk6 k l x))) = true := by decide +kernel
/-- the reference's end is the class's -/
theorem aEnd_iff {k : Nat} {t : Nat → Nat} {p T : Nat} (hk : k < 3) (hok : pOk k (aS k t p).1 (aS k t p).2.2 (decide (0 < (aS k t p).2.1)) = true) (hL : (sk k (aS k t p).1 (aS k t p).2.1 (aS k t p).2.2).length = T + 1) :
    (T = 0 ∧ (pTop k (aS k t p).1 (aS k t p).2.2 (decide (0 < (aS k t p).2.1)) = 22 ∨ pTop k (aS k t p).1 (aS k t p).2.2 (decide (0 < (aS k t p).2.1)) = 27 ∨ pTop k (aS k t p).1 (aS k t p).2.2 (decide (0 < (aS k t p).2.1)) = 29)) ↔ aEnd k t p := by
  have hs := aS_lt k t p
  rcases Nat.eq_zero_or_pos (aS k t p).2.1 with hd | hd
  · have e : decide (0 < (aS k t p).2.1) = false := by simp [hd]
    rw [e] at hok ⊢
    rw [hd] at hL
    have c := pAll_ok _ _ (pAll_ok _ _ (pAll_ok _ _ sChk6_all k hk) _ hs.2.2) _ hs.1
    unfold sChk6 at c
    rw [hok, hL] at c
    simp only [Bool.not_true, Bool.false_or, beq_iff_eq] at c
    have c' := congrArg (fun b => b = true) c
    simp only [Bool.and_eq_true, Bool.or_eq_true, decide_eq_true_eq] at c'
    have c2 := iff_of_eq c'
    unfold aEnd
    constructor
    · rintro ⟨z1, z2⟩
      have w := c2.mp ⟨by omega, by grind⟩
      exact ⟨w.1, hd, by grind⟩
    · rintro ⟨z1, z2, z3⟩
      have w := c2.mpr ⟨z1, by grind⟩
      exact ⟨by omega, by grind⟩
  · have e : decide (0 < (aS k t p).2.1) = true := by simp [hd]
    rw [e] at hok ⊢
    have c := pAll_ok _ _ (pAll_ok _ _ (pAll_ok _ _ sChk3_all k hk) _ hs.2.2) _ hs.1
    unfold sChk3 at c
    rw [hok] at c
    simp only [Bool.not_true, Bool.false_or, Bool.and_eq_true, beq_iff_eq, decide_eq_true_eq, Bool.not_eq_true'] at c
    obtain ⟨⟨⟨⟨c1, c2⟩, c3⟩, c4⟩, c5⟩ := c
    obtain ⟨m, hm⟩ : ∃ m, (aS k t p).2.1 = m + 1 := ⟨(aS k t p).2.1 - 1, by omega⟩
    rw [hm] at hL
    unfold sk at hL
    rw [c4, c5] at hL
    simp only [Bool.false_eq_true, if_false] at hL
    rw [skr_up, List.length_append] at hL
    constructor
    · rintro ⟨z1, -⟩
      omega
    · intro z
      exact absurd z.2.1 (by omega)
