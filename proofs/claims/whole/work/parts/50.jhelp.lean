/-- some name has begun wherever the run stands in the section of parameters -/
theorem aC_pos {k : Nat} {t : Nat → Nat} (hk : k < 3) (n : Nat) (ht : ∀ j, j < n → t j < 127) : ∀ p, p ≤ n → (∀ j, j < p → aR k t j ≠ 0) → (aS k t p).2.2 = 0 → (aS k t p).1 ≠ 1 → 0 < aC k t p
  | 0, _, _ => fun z => absurd z (show ¬ (1 : Nat) = 0 by decide)
  | p + 1, hp, h => by
    intro z1 z2
    have ih := aC_pos hk n ht p (by omega) (fun j hj => h j (by omega))
    have eC : aC k t (p + 1) = if aN k t p = true then aC k t p + 1 else aC k t p := rfl
    rw [aS_succ] at z1 z2
    dsimp only at z1 z2
    by_cases hl : (aS k t p).1 = 1
    · have e : aR k t p = pName (t p) 2 := by unfold aR pRole; rw [hl]; simp
      have hr := h p (by omega)
      have e2 : aR k t p = 2 := by rw [e] at hr ⊢; unfold pName at hr ⊢; split at hr <;> simp_all
      have : aN k t p = true := by simp [aN, e2, hl]
      rw [eC, if_pos this]; omega
    · have : (aS k t p).2.2 = 0 := by
        unfold pSec at z1
        split at z1
        · exact absurd ‹_› z2
        · split at z1
          · omega
          · split at z1
            · omega
            · split at z1 <;> omega
      have := ih this hl
      rw [eC]; split <;> omega
theorem pOk_x {k l x : Nat} {dp : Bool} (h : pOk k l x dp = true) (hl : l = 2 ∨ l = 3 ∨ l = 4) : x = 0 := by
  rcases hl with rfl | rfl | rfl <;> simp [pOk] at h <;> omega
theorem aFb_lt (k : Nat) (t : Nat → Nat) : ∀ p j b, aFb k t p j = some b → b < p
  | 0, _, _, h => by simp [aFb] at h
  | p + 1, j, b, h => by
    have ih := aFb_lt k t p j b
    unfold aFb at h
    split at h
    · cases h
    · split at h
      · cases h; omega
      · have := ih h; omega
theorem aBc_le (k : Nat) (t : Nat → Nat) : ∀ p j, aBc k t p j ≤ p
  | 0, _ => by simp [aBc]
  | p + 1, j => by
    have ih := aBc_le k t p j
    unfold aBc
    split
    · omega
    · split <;> omega
theorem oI_0 {o : Option Nat} (h : ∀ b, o = some b → b < 2 ^ 31) : 0 ≤ oI o ↔ o ≠ none := by
  cases o with
  | none => exact ⟨fun z => absurd z (by decide), fun z => absurd rfl z⟩
  | some b => exact ⟨fun _ => by simp, fun _ => nI_pos' (h b rfl)⟩
theorem pTr_17 {r c : Nat} (h : r < 25) : pTr r c = 17 ↔ r = 2 := by
  have : ∀ r, r < 25 → ∀ b : Bool, ((if r = 1 then 16 else if r = 2 then 17 else if r = 3 then 18 else if r = 4 then 19 else if r = 5 then 20 else if r = 6 then 2 else if r = 7 then 14 else if r = 8 then 15 else if r = 9 then 1 else if r = 10 then 5
  else if r = 11 then 6 else if r = 12 then 7 else if r = 13 then 5 else if r = 14 then 9 else if r = 15 then 8 else if r = 16 then 13 else if r = 17 then 10 else if r = 18 then (if b then 11 else 12)
  else if r = 19 then 3 else if r = 20 then 4 else if r = 21 then 23 else if r = 22 then 21 else if r = 23 then 22 else if r = 24 then 24 else 0) = 17 ↔ r = 2) := by decide
  have := this r h (decide (c = 43))
  simpa [pTr] using this
theorem pTr_19 {r c : Nat} (h : r < 25) : pTr r c = 19 ↔ r = 4 := by
  have : ∀ r, r < 25 → ∀ b : Bool, ((if r = 1 then 16 else if r = 2 then 17 else if r = 3 then 18 else if r = 4 then 19 else if r = 5 then 20 else if r = 6 then 2 else if r = 7 then 14 else if r = 8 then 15 else if r = 9 then 1 else if r = 10 then 5
  else if r = 11 then 6 else if r = 12 then 7 else if r = 13 then 5 else if r = 14 then 9 else if r = 15 then 8 else if r = 16 then 13 else if r = 17 then 10 else if r = 18 then (if b then 11 else 12)
  else if r = 19 then 3 else if r = 20 then 4 else if r = 21 then 23 else if r = 22 then 21 else if r = 23 then 22 else if r = 24 then 24 else 0) = 19 ↔ r = 4) := by decide
  have := this r h (decide (c = 43))
  simpa [pTr] using this
theorem pTr_0 {r c : Nat} (h : r < 25) : pTr r c = 0 ↔ r = 0 := by
  have : ∀ r, r < 25 → ∀ b : Bool, ((if r = 1 then 16 else if r = 2 then 17 else if r = 3 then 18 else if r = 4 then 19 else if r = 5 then 20 else if r = 6 then 2 else if r = 7 then 14 else if r = 8 then 15 else if r = 9 then 1 else if r = 10 then 5
  else if r = 11 then 6 else if r = 12 then 7 else if r = 13 then 5 else if r = 14 then 9 else if r = 15 then 8 else if r = 16 then 13 else if r = 17 then 10 else if r = 18 then (if b then 11 else 12)
  else if r = 19 then 3 else if r = 20 then 4 else if r = 21 then 23 else if r = 22 then 21 else if r = 23 then 22 else if r = 24 then 24 else 0) = 0 ↔ r = 0) := by decide
  have := this r h (decide (c = 43))
  simpa [pTr] using this
theorem pTr_lt (r c : Nat) : pTr r c < 25 := by
  unfold pTr
  repeat (first | exact (by decide) | apply ite_lt9)
/-- the top is 15 just where a name goes on -/
def sChk7 (k l x : Nat) (dp : Bool) : Bool := !pOk k l x dp || (decide (pTop k l x dp = 15) == decide (l = 2))
theorem sChk7_all : pAll 3 (fun k => pAll 4 (fun x => pAll 25 (fun l => sChk7 k l x true && sChk7 k l x false))) = true := by decide +kernel
theorem pTop_15 {k l x : Nat} {dp : Bool} (hk : k < 3) (hl : l < 25) (hx : x < 4) (h : pOk k l x dp = true) : pTop k l x dp = 15 ↔ l = 2 := by
  have c := pAll_ok _ _ (pAll_ok _ _ (pAll_ok _ _ sChk7_all k hk) x hx) l hl
  simp only [Bool.and_eq_true] at c
  have c' : sChk7 k l x dp = true := by cases dp; exact c.2; exact c.1
  unfold sChk7 at c'
  rw [h] at c'
  simpa [beq_iff_eq] using c'
