/-! the class's reader is the mathematical one -/
theorem r_roleOf {post : Int32 → Prop} {u : RdC} {k l d x c : Nat} (hu : RdN u k l d x) (hc : c < 128) (h : post (nI (pRole k l d x c))) : wp_Rd_roleOf post u (nI c) := by
  have hu' := hu
  obtain ⟨h1, h2, h3, h4, h5, h6, h7, h8⟩ := hu
  have key : ∀ j : Nat, j < 25 → nI l = nI j → l = j := fun j hj z => (nI_eq (by omega) (by omega)).mp z
  have ne : ∀ j : Nat, ¬ nI l = nI j → ¬ l = j := fun j z e => z (by rw [e])
  unfold wp_Rd_roleOf w_Rd_roleOf_159 w_Rd_roleOf_189 w_Rd_roleOf_279
  rw [h2]
  refine ⟨fun z => ?_, fun z => ?_, fun z => ?_, fun z => ?_, fun z => ?_, fun z => ?_, fun z => ?_, fun z => ?_, fun z => ?_, fun z => ?_, fun z => ?_, fun z => ?_, fun z => ?_, fun z => ?_, fun z => ?_, fun z => ?_, fun z => ?_, fun z => ?_, fun z => ?_⟩
  · obtain rfl := key 0 (by omega) z
    exact r_atStart hu' hc h
  · obtain rfl := key 1 (by omega) z
    exact r_nameOnly hc h
  · obtain rfl := key 2 (by omega) z
    exact b_eq (k := 58) (by omega) (by decide) (fun e => by subst e; exact h) (fun e => r_nameOnly hc (by simpa [pRole, e] using h))
  · obtain rfl := key 3 (by omega) z
    exact r_behindFirstColon hc h
  · rcases z with z | z
    · obtain rfl := key 4 (by omega) z
      exact r_reference (by omega) h
    · obtain rfl := key 18 (by omega) z
      exact r_reference (by omega) h
  · obtain rfl := key 5 (by omega) z
    exact r_atBody hu' hc h
  · obtain rfl := key 6 (by omega) z
    exact r_nameOnly hc h
  · obtain rfl := key 7 (by omega) z
    exact b_eq (k := 59) (by omega) (by decide) (fun e => by subst e; exact h) (fun e => r_nameOnly hc (by simpa [pRole, e] using h))
  · rcases z with z | z
    · obtain rfl := key 9 (by omega) z
      exact r_nameOnly hc h
    · obtain rfl := key 11 (by omega) z
      exact r_nameOnly hc h
  · obtain rfl := key 10 (by omega) z
    exact b_eq (k := 47) (by omega) (by decide) (fun e => by subst e; exact h) (fun e => r_inSegment hc (by simpa [pRole, e] using h))
  · obtain rfl := key 12 (by omega) z
    exact r_nameOnly hc h
  · obtain rfl := key 13 (by omega) z
    exact r_inSegment hc h
  · obtain rfl := key 15 (by omega) z
    exact r_argument hc h
  · obtain rfl := key 16 (by omega) z
    exact r_behindArguments hc h
  · obtain rfl := key 19 (by omega) z
    exact r_typeOnly hc h
  · obtain rfl := key 22 (by omega) z
    exact r_inTypes hc h
  · obtain rfl := key 23 (by omega) z
    exact b_eq (k := 86) (by omega) (by decide) (fun e => by subst e; exact h) (fun e => r_typeOnly hc (by simpa [pRole, e] using h))
  · obtain rfl := key 24 (by omega) z
    exact b_eq (k := 91) (by omega) (by decide) (fun e => by subst e; exact h) (fun e => r_reference (by omega) (by simpa [pRole, e] using h))
  · refine r_behindItem hu' hc ?_
    obtain ⟨z0, z1, z2, z3, z4, z5, z6, z7, z9, z10, z11, z12, z13, z14, z15, z16, z17, z18, z19, z20⟩ := z
    have e : pRole k l d x c = pItem k x d c := by
      unfold pRole
      rw [if_neg (ne 0 (by first | assumption)), if_neg (ne 1 (by assumption)), if_neg (ne 2 (by assumption)), if_neg (ne 3 (by assumption)), if_neg (ne 4 (by assumption)), if_neg (ne 5 (by assumption)), if_neg (ne 6 (by assumption)), if_neg (ne 7 (by assumption)), if_neg (ne 9 (by assumption)), if_neg (ne 10 (by assumption)), if_neg (ne 11 (by assumption)), if_neg (ne 12 (by assumption)), if_neg (ne 13 (by assumption)), if_neg (ne 15 (by assumption)), if_neg (ne 16 (by assumption)), if_neg (ne 18 (by assumption)), if_neg (ne 19 (by assumption)), if_neg (ne 22 (by assumption)), if_neg (ne 23 (by assumption)), if_neg (ne 24 (by assumption))]
    rw [e] at h
    exact h
/-- the state behind p characters: the last role, the depth, the section -/
def aS (k : Nat) (t : Nat → Nat) : Nat → Nat × Nat × Nat
  | 0 => (0, 0, 1)
  | p + 1 => (pRole k (aS k t p).1 (aS k t p).2.1 (aS k t p).2.2 (t p), pDep (pRole k (aS k t p).1 (aS k t p).2.1 (aS k t p).2.2 (t p)) (aS k t p).2.1, pSec (pRole k (aS k t p).1 (aS k t p).2.1 (aS k t p).2.2 (t p)) (aS k t p).2.2)
def aR (k : Nat) (t : Nat → Nat) (p : Nat) : Nat := pRole k (aS k t p).1 (aS k t p).2.1 (aS k t p).2.2 (t p)
/-- a parameter's name begins at p -/
def aN (k : Nat) (t : Nat → Nat) (p : Nat) : Bool := aR k t p == 2 && !((aS k t p).1 == 2)
def aC (k : Nat) (t : Nat → Nat) : Nat → Nat
  | 0 => 0
  | p + 1 => if aN k t p then aC k t p + 1 else aC k t p
def aB (k : Nat) (t : Nat → Nat) : Nat → Nat → Nat
  | 0, _ => 0
  | p + 1, j => if aN k t p ∧ j = aC k t p then p else aB k t p j
def aE (k : Nat) (t : Nat → Nat) : Nat → Nat → Nat
  | 0, _ => 0
  | p + 1, j => if aR k t p = 2 ∧ j + 1 = aC k t (p + 1) then p + 1 else aE k t p j
theorem aS_succ (k : Nat) (t : Nat → Nat) (p : Nat) : aS k t (p + 1) = (aR k t p, pDep (aR k t p) (aS k t p).2.1, pSec (aR k t p) (aS k t p).2.2) := rfl
theorem pName_lt {c r n : Nat} (h : r < n) : pName c r < n := by unfold pName; split <;> omega
theorem ite_lt9 {p : Prop} [Decidable p] {a b n : Nat} (ha : a < n) (hb : b < n) : (if p then a else b) < n := by split <;> assumption
theorem ite_ne9 {p : Prop} [Decidable p] {a b n : Nat} (ha : a ≠ n) (hb : b ≠ n) : (if p then a else b) ≠ n := by split <;> assumption
theorem pRole_lt (k l d x c : Nat) : pRole k l d x c < 25 := by
  have h1 := pRef_lt c
  have h2 : ∀ r, r < 25 → pName c r < 25 := fun r h => pName_lt h
  have h3 : pType c < 25 := by unfold pType; split <;> omega
  have h4 : pArg c < 25 := by unfold pArg; grind
  have h5 : ∀ o, o < 25 → pClose c o < 25 := by intro o h; unfold pClose; grind
  have h6 : ∀ r, r < 25 → pSeg c r < 25 := by intro r h; unfold pSeg; have := h5 _ (h2 r h); grind
  have h7 : pTys c < 25 := by unfold pTys; grind
  have h8 : pBnd c < 25 := by unfold pBnd; have := h2 2 (by omega); grind
  have h9 : pFst c < 25 := by unfold pFst; grind
  have h10 : pBody k c < 25 := by unfold pBody; grind
  have h11 : pStart k c < 25 := by unfold pStart; grind
  have h12 : pItem k x d c < 25 := by unfold pItem; grind
  have a2 := h2 2 (by omega)
  have a7 := h2 7 (by omega)
  have a10 := h2 10 (by omega)
  have a13 := h2 13 (by omega)
  have b10 := h6 10 (by omega)
  have b13 := h6 13 (by omega)
  have c0 := h5 0 (by omega)
  clear h2 h5 h6
  unfold pRole
  repeat (first | assumption | exact (by decide) | apply ite_lt9)
theorem aR_lt (k : Nat) (t : Nat → Nat) (p : Nat) : aR k t p < 25 := pRole_lt _ _ _ _ _
theorem aS_lt (k : Nat) (t : Nat → Nat) : ∀ p, (aS k t p).1 < 25 ∧ (aS k t p).2.1 ≤ p ∧ (aS k t p).2.2 < 4
  | 0 => ⟨Nat.le_of_ble_eq_true rfl, Nat.le_refl 0, Nat.le_of_ble_eq_true rfl⟩
  | p + 1 => by
    have ih := aS_lt k t p
    rw [aS_succ]
    refine ⟨aR_lt k t p, ?_, ?_⟩
    · show pDep _ _ ≤ p + 1
      unfold pDep
      split
      · omega
      · split <;> omega
    · show pSec _ _ < 4
      unfold pSec
      grind
theorem aC_le (k : Nat) (t : Nat → Nat) : ∀ p, aC k t p ≤ p
  | 0 => Nat.le_refl 0
  | p + 1 => by
    have ih := aC_le k t p
    unfold aC
    split <;> omega
theorem pRole_16 {k l d x c : Nat} (h : pRole k l d x c = 16) : 0 < d := by
  have n2 : ∀ r, r ≠ 16 → pName c r ≠ 16 := by intro r hr; unfold pName; split <;> omega
  have e1 : pRef c ≠ 16 := by unfold pRef; grind
  have e2 : pType c ≠ 16 := by unfold pType; grind
  have e3 : pArg c ≠ 16 := by unfold pArg; grind
  have e4 : ∀ o, o ≠ 16 → pClose c o ≠ 16 := by intro o ho; unfold pClose; grind
  have e5 : ∀ r, r ≠ 16 → pSeg c r ≠ 16 := by intro r hr; unfold pSeg; have := e4 _ (n2 r hr); grind
  have e6 : pTys c ≠ 16 := by unfold pTys; grind
  have e7 : pBnd c ≠ 16 := by unfold pBnd; have := n2 2 (by omega); grind
  have e8 : pFst c ≠ 16 := by unfold pFst; grind
  have e9 : pBody k c ≠ 16 := by unfold pBody; grind
  have e10 : pStart k c ≠ 16 := by unfold pStart; grind
  have a2 := n2 2 (by omega)
  have a7 := n2 7 (by omega)
  have a10 := n2 10 (by omega)
  have a13 := n2 13 (by omega)
  have b10 := e5 10 (by omega)
  have b13 := e5 13 (by omega)
  have c0 := e4 0 (by omega)
  clear n2 e4 e5
  rcases Nat.eq_zero_or_pos d with z | z
  · exfalso
    have e11 : pItem k x d c ≠ 16 := by unfold pItem; grind
    have hh : pRole k l d x c ≠ 16 := by
      unfold pRole
      repeat (first | assumption | exact (by decide) | apply ite_ne9)
    exact hh h
  · exact z
