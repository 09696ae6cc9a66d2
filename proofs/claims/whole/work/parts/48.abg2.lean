theorem sL_len : ∀ d, (sL d).length = 2 * d
  | 0 => rfl
  | d + 1 => by rw [sL_last, List.length_append, sL_len d]; show 2 * d + 2 = _; omega
def sChk5 (k l x : Nat) : Bool := !pOk k l x true || (decide (pTop k l x true ≠ 16) && (decide (pTop k l x true ≠ 2) || decide (l = 18)) && l != 3 && l != 4)
theorem sChk5_all : pAll 3 (fun k => pAll 4 (fun x => pAll 25 (fun l => sChk5 k l x))) = true := by decide +kernel
theorem sB_len (k x : Nat) : 1 ≤ (sB k x).length := by
  unfold sB
  split
  · simp
  · split
    · simp
    · split
      · simp
      · split <;> simp
theorem aBg_iff {k : Nat} {t : Nat → Nat} {p T rp : Nat} (hk : k < 3) (hc : t p < 127) (hok : pOk k (aS k t p).1 (aS k t p).2.2 (decide (0 < (aS k t p).2.1)) = true) (hr : aR k t p ≠ 0) (hL : (sk k (aS k t p).1 (aS k t p).2.1 (aS k t p).2.2).length = T + 1)
    (h4 : (0 < p ∧ rp = 19) ↔ (aS k t p).1 = 4) : mBg (pTr (aR k t p) (t p)) (pTop k (aS k t p).1 (aS k t p).2.2 (decide (0 < (aS k t p).2.1))) T p rp ↔ aBg k t p = true := by
  have hs := aS_lt k t p
  rcases Nat.eq_zero_or_pos (aS k t p).2.1 with hd | hd
  · have e : decide (0 < (aS k t p).2.1) = false := by simp [hd]
    rw [e] at hok ⊢
    rw [hd] at hL
    have c := pAll_ok _ _ (pAll_ok _ _ (pAll_ok _ _ (pAll_ok _ _ sChk4_all k hk) _ hs.2.2) _ hs.1) _ hc
    have er : pRole k (aS k t p).1 0 (aS k t p).2.2 (t p) = aR k t p := by unfold aR; rw [hd]
    unfold sChk4 at c
    rw [hok, er, hL] at c
    have hr' : (aR k t p == 0) = false := by simp [hr]
    rw [hr'] at c
    simp only [Bool.not_true, Bool.false_or, beq_iff_eq] at c
    unfold mBg aBg
    rw [c]
    simp only [Bool.and_eq_true, Bool.or_eq_true, decide_eq_true_eq]
    constructor
    · rintro ⟨z1, z2 | z2⟩
      · exact ⟨z1, Or.inl ⟨z2.1, by omega⟩⟩
      · exact ⟨z1, Or.inr ⟨⟨z2.1, by omega⟩, h4.mp z2.2.2⟩⟩
    · rintro ⟨z1, z2 | z2⟩
      · exact ⟨z1, Or.inl ⟨z2.1, by omega⟩⟩
      · exact ⟨z1, Or.inr ⟨z2.1.1, by omega, h4.mpr z2.2⟩⟩
  · have e : decide (0 < (aS k t p).2.1) = true := by simp [hd]
    rw [e] at hok ⊢
    have c := pAll_ok _ _ (pAll_ok _ _ (pAll_ok _ _ sChk5_all k hk) _ hs.2.2) _ hs.1
    unfold sChk5 at c
    rw [hok] at c
    simp only [Bool.not_true, Bool.false_or, Bool.and_eq_true, Bool.or_eq_true, decide_eq_true_eq, bne_iff_ne] at c
    obtain ⟨⟨⟨c1, c2⟩, c3⟩, c4⟩ := c
    have f1 : aBg k t p = false := by simp [aBg, c3, c4]
    rw [f1]
    constructor
    · rintro ⟨z1, z2 | z2⟩
      · exact absurd z2.1 c1
      · exact absurd (h4.mp z2.2.2) c4
    · intro z; cases z
