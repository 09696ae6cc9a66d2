/-- what the reference sees of a bound is what the class sees -/
def sChk4 (k l x c : Nat) : Bool :=
  !pOk k l x false || pRole k l 0 x c == 0 ||
  (((pRole k l 0 x c == 9 || pRole k l 0 x c == 6 || pRole k l 0 x c == 19) && (l == 3 || l == 4)) ==
   (decide (pTr (pRole k l 0 x c) c ≤ 3) && (decide (pTop k l x false = 16) && decide ((sk k l 0 x).length = 2) || decide (pTop k l x false = 2) && decide ((sk k l 0 x).length = 3) && decide (l = 4))))
set_option maxRecDepth 100000 in
theorem sChk4_all : pAll 3 (fun k => pAll 4 (fun x => pAll 25 (fun l => pAll 127 (fun c => sChk4 k l x c)))) = true := by decide +kernel
/-- the names that have begun take two characters each -/
theorem aC_half (k : Nat) (t : Nat → Nat) : ∀ p, (∀ j, j < p → aR k t j ≠ 0) → 2 * aC k t p ≤ p + (if (aS k t p).1 = 2 then 1 else 0)
  | 0, _ => by simp [aC]
  | p + 1, h => by
    have ih := aC_half k t p (fun j hj => h j (by omega))
    have eC : aC k t (p + 1) = if aN k t p = true then aC k t p + 1 else aC k t p := rfl
    rw [eC, aS_succ]
    by_cases hn : aN k t p = true
    · have hn' := hn
      simp only [aN, Bool.and_eq_true, beq_iff_eq, Bool.not_eq_true', beq_eq_false_iff_ne] at hn'
      rw [if_pos hn]
      rw [if_neg hn'.2] at ih
      show 2 * (aC k t p + 1) ≤ p + 1 + (if aR k t p = 2 then 1 else 0)
      rw [if_pos hn'.1]
      omega
    · rw [if_neg hn]
      show 2 * aC k t p ≤ p + 1 + (if aR k t p = 2 then 1 else 0)
      split at ih <;> split <;> omega
