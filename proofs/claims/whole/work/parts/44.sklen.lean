/-- top and length of the stack -/
def sChk2 (k l x : Nat) : Bool := !pOk k l x false || ((sk k l 0 x).getLast? == some (pTop k l x false) && (decide (17 < pTop k l x false) || decide (2 ≤ (sk k l 0 x).length)) && decide (pTop k l x false < 30))
theorem sChk2_all : pAll 3 (fun k => pAll 4 (fun x => pAll 25 (fun l => sChk2 k l x))) = true := by decide +kernel
def sChk3 (k l x : Nat) : Bool := !pOk k l x true || ((skr k l x 1 []).getLast? == some (pTop k l x true) && decide (pTop k l x true < 30) && decide (2 ≤ (skr k l x 1 []).length) && !sFlat l && !sPar l)
theorem sChk3_all : pAll 3 (fun k => pAll 4 (fun x => pAll 25 (fun l => sChk3 k l x))) = true := by decide +kernel
theorem sk_top {k l d x : Nat} (hk : k < 3) (hl : l < 25) (hx : x < 4) (hok : pOk k l x (decide (0 < d)) = true) :
    (sk k l d x).getLast? = some (pTop k l x (decide (0 < d))) ∧ (pTop k l x (decide (0 < d)) ≤ 17 → 2 ≤ (sk k l d x).length) ∧ pTop k l x (decide (0 < d)) < 30 := by
  rcases Nat.eq_zero_or_pos d with hd | hd
  · subst hd
    have e : decide (0 < 0) = false := rfl
    rw [e] at hok ⊢
    have c := pAll_ok _ _ (pAll_ok _ _ (pAll_ok _ _ sChk2_all k hk) x hx) l hl
    unfold sChk2 at c
    rw [hok] at c
    simp only [Bool.not_true, Bool.false_or, Bool.and_eq_true, Bool.or_eq_true, beq_iff_eq, decide_eq_true_eq] at c
    exact ⟨c.1.1, fun z => by omega, c.2⟩
  · have e : decide (0 < d) = true := by simp [hd]
    rw [e] at hok ⊢
    have c := pAll_ok _ _ (pAll_ok _ _ (pAll_ok _ _ sChk3_all k hk) x hx) l hl
    unfold sChk3 at c
    rw [hok] at c
    simp only [Bool.not_true, Bool.false_or, Bool.and_eq_true, beq_iff_eq, decide_eq_true_eq, Bool.not_eq_true'] at c
    obtain ⟨⟨⟨⟨c1, c2⟩, c3⟩, c4⟩, c5⟩ := c
    obtain ⟨m, rfl⟩ : ∃ m, d = m + 1 := ⟨d - 1, by omega⟩
    unfold sk
    rw [c4, c5]
    simp only [Bool.false_eq_true, if_false]
    rw [skr_up]
    refine ⟨?_, fun _ => ?_, c2⟩
    · rw [List.getLast?_append, c1]
      rfl
    · rw [List.length_append]
      omega
theorem sAp_len (o : PO) (L : List Nat) (hL : L ≠ []) : (sAp o L).length ≤ L.length + 1 := by
  have : 0 < L.length := List.length_pos_iff.mpr hL
  unfold sAp
  split
  · rw [List.length_append, List.length_dropLast, List.length_singleton]; omega
  · split
    · rw [List.length_append, List.length_dropLast]
      show L.length - 1 + 2 ≤ L.length + 1
      omega
    · split
      · rw [List.length_dropLast]; omega
      · omega
/-- the state that the run comes to, while no fault was met, is one that the check speaks of -/
theorem aOk {k : Nat} {t : Nat → Nat} (hk : k < 3) (n : Nat) (ht : ∀ j, j < n → t j < 127) : ∀ p, p ≤ n → (∀ j, j < p → aR k t j ≠ 0) → pOk k (aS k t p).1 (aS k t p).2.2 (decide (0 < (aS k t p).2.1)) = true ∧ (sk k (aS k t p).1 (aS k t p).2.1 (aS k t p).2.2).length ≤ p + 1
  | 0, _, _ => by
    have : ∀ k, k < 3 → pOk k 0 1 false = true ∧ (sk k 0 0 1).length ≤ 1 := by decide +kernel
    exact this k hk
  | p + 1, hp, h => by
    obtain ⟨i1, i2⟩ := aOk hk n ht p (by omega) (fun j hj => h j (by omega))
    have hs := aS_lt k t p
    have hst := sk_step hk hs.1 hs.2.2 (ht p (by omega)) i1 (h p (by omega))
    have htop := sk_top hk hs.1 hs.2.2 i1
    rw [aS_succ]
    refine ⟨hst.2.1, ?_⟩
    show (sk k (aR k t p) (pDep (aR k t p) (aS k t p).2.1) (pSec (aR k t p) (aS k t p).2.2)).length ≤ p + 1 + 1
    have e : sk k (aR k t p) (pDep (aR k t p) (aS k t p).2.1) (pSec (aR k t p) (aS k t p).2.2) = _ := hst.1
    rw [e]
    refine Nat.le_trans (sAp_len _ _ (fun z => ?_)) (by omega)
    rw [z] at htop
    exact absurd htop.1 (by simp)
/-- the reference's roles are the class's, in its own numbers -/
theorem aTr {k : Nat} {t : Nat → Nat} {p : Nat} (hk : k < 3) (hc : t p < 127) (hok : pOk k (aS k t p).1 (aS k t p).2.2 (decide (0 < (aS k t p).2.1)) = true) : (gStep (pTop k (aS k t p).1 (aS k t p).2.2 (decide (0 < (aS k t p).2.1))) (t p)).1 = pTr (aR k t p) (t p) := by
  have hs := aS_lt k t p
  obtain ⟨-, -, c2, c3⟩ := sChk_of hk hs.1 hs.2.2 hc
  rcases Nat.eq_zero_or_pos (aS k t p).2.1 with hd | hd
  · have e : decide (0 < (aS k t p).2.1) = false := by simp [hd]
    rw [e] at hok ⊢
    unfold pChk at c3
    rw [hok] at c3
    simp only [Bool.not_true, Bool.false_or, beq_iff_eq, Bool.false_eq_true, if_false] at c3
    rw [← c3]
    unfold aR
    rw [hd]
  · have e : decide (0 < (aS k t p).2.1) = true := by simp [hd]
    rw [e] at hok ⊢
    unfold pChk at c2
    rw [hok] at c2
    simp only [Bool.not_true, Bool.false_or, beq_iff_eq, if_true] at c2
    rw [← c2]
    unfold aR
    rw [pRole_dep hd]
