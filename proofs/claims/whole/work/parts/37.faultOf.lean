theorem pRole_3 {k l d x c : Nat} (h : pRole k l d x c = 3) : l = 2 := by
  have n2 : ∀ r, r ≠ 3 → pName c r ≠ 3 := by intro r hr; unfold pName; split <;> omega
  have e1 : pRef c ≠ 3 := by unfold pRef; grind
  have e2 : pType c ≠ 3 := by unfold pType; grind
  have e3 : pArg c ≠ 3 := by unfold pArg; grind
  have e4 : ∀ o, o ≠ 3 → pClose c o ≠ 3 := by intro o ho; unfold pClose; grind
  have e5 : ∀ r, r ≠ 3 → pSeg c r ≠ 3 := by intro r hr; unfold pSeg; have := e4 _ (n2 r hr); grind
  have e6 : pTys c ≠ 3 := by unfold pTys; grind
  have e7 : pBnd c ≠ 3 := by unfold pBnd; have := n2 2 (by omega); grind
  have e8 : pFst c ≠ 3 := by unfold pFst; grind
  have e9 : pBody k c ≠ 3 := by unfold pBody; grind
  have e10 : pStart k c ≠ 3 := by unfold pStart; grind
  have e11 : pItem k x d c ≠ 3 := by unfold pItem; grind
  have a2 := n2 2 (by omega)
  have a7 := n2 7 (by omega)
  have a10 := n2 10 (by omega)
  have a13 := n2 13 (by omega)
  have b10 := e5 10 (by omega)
  have b13 := e5 13 (by omega)
  have c0 := e4 0 (by omega)
  clear n2 e4 e5
  by_cases hl : l = 2
  · exact hl
  · exfalso
    have hh : pRole k l d x c ≠ 3 := by
      unfold pRole
      rw [if_neg hl]
      repeat (first | assumption | exact (by decide) | apply ite_ne9)
    exact hh h
/-- a fault at p -/
def aBad (k : Nat) (t : Nat → Nat) (p : Nat) : Prop := aR k t p = 0 ∨ aR k t p = 3 ∧ aTk k t p
theorem r_faultLoop {post : Int32 → RdC → Prop} {v : RowC} {k : Nat} {t : Nat → Nat} {n : Nat} (hv : TxI v t n) (hn : n ≤ 120)
    (hb : ∀ (p : Nat) (u' : RdC), p < n → (∀ j, j < p → ¬ aBad k t j) → aBad k t p → rdN u' = 120 → post (nI p) u')
    (he : (∀ j, j < n → ¬ aBad k t j) → aEnd k t n → ∀ u', RdI u' k t n → post (-1) u')
    (hf : (∀ j, j < n → ¬ aBad k t j) → ¬ aEnd k t n → ∀ u' : RdC, rdN u' = 120 → post (nI n) u') :
    ∀ (w p : Nat) (u : RdC), n - p ≤ w → p ≤ n → RdI u k t p → (∀ j, j < p → ¬ aBad k t j) → w_Rd_faultOf_27 post v (w + 1) (nI p) u := by
  have hv0 := hv
  obtain ⟨e1, e2, e3, e4⟩ := hv
  have last : ∀ (u : RdC), RdI u k t n → (∀ j, j < n → ¬ aBad k t j) → w_Rd_faultOf_90 post v u := by
    intro u hI hno
    refine r_mayEnd hI (fun q => ⟨fun z => absurd z (by decide), fun _ => he hno q u hI⟩) (fun q => ⟨fun _ => ?_, fun z => absurd rfl z⟩)
    rw [e1]
    exact hf hno q u hI.1
  intro w
  induction w with
  | zero =>
    intro p u q1 q2 hI hno
    have ep : p = n := by omega
    subst ep
    refine ⟨fun _ => last u hI hno, fun z => absurd ?_ z⟩
    rw [e1]
    exact nI_le (by omega) (by omega)
  | succ w ih =>
    intro p u q1 q2 hI hno
    rw [show w + 1 + 1 = (w + 1) + 1 from rfl]
    refine ⟨fun z => ?_, fun z => ⟨fun y => ?_, fun y => ?_⟩⟩
    · rw [e1] at z
      have := (nI_leI (by omega) (by omega)).mp z
      have ep : p = n := by omega
      subst ep
      exact last u hI hno
    · rw [hI.1] at y
      have := (nI_leI (a := 120) (by omega) (by omega)).mp y
      have ep : p = n := by omega
      subst ep
      exact last u hI hno
    · have hp : p < n := by
        rcases Nat.lt_or_ge p n with r | r
        · exact r
        · exact absurd (by rw [e1]; exact nI_le r (by omega)) z
      obtain ⟨g1, g2⟩ := e4 p hp
      have hr := aR_lt k t p
      have hs := aS_lt k t p
      rw [nI_clamp (by omega), g1]
      have go : ¬ aBad k t p → w_Rd_faultOf_77 post v (w_Rd_faultOf_27 post v (w + 1)) (nI p) (nI (aR k t p)) u := by
        intro hnb
        refine r_take hI (by omega) (fun u' hI' => ?_)
        rw [nI_1]
        refine ih (p + 1) u' (by omega) (by omega) hI' (fun j hj => ?_)
        rcases Nat.lt_succ_iff_lt_or_eq.mp hj with r | r
        · exact hno j r
        · rw [r]; exact hnb
      refine ⟨vp_in_nI (by omega) (by omega), r_roleOf hI.2.1 g2 ?_⟩
      show (nI (aR k t p) = 0 → _) ∧ (¬ nI (aR k t p) = 0 → _)
      refine b_eq' (k := 0) (by omega) (by decide) (fun e => hb p u hp hno (Or.inl e) hI.1) (fun e => b_eq (c := aR k t p) (k := 3) (by omega) (by decide) (fun e3' => ?_) (fun e3' => go (fun z => z.elim e (fun w => e3' w.1))))
      have hl2 := pRole_3 e3'
      refine r_nameIsTaken hI hv0 q2 (by omega) ((aBE k t p).2 hl2).1 (fun q => ⟨fun z => absurd z (by decide), fun _ => hb p u hp hno (Or.inr ⟨e3', q⟩) hI.1⟩) (fun q => ⟨fun _ => go (fun z => z.elim e (fun w => q w.2)), fun z => absurd rfl z⟩)
theorem r_faultOf {post : Int32 → RdC → Prop} {u : RdC} {v : RowC} {k : Nat} {t : Nat → Nat} {n : Nat} (hN : rdN u = 120) (hk : k < 3) (hv : TxI v t n) (hn : n ≤ 120)
    (hb : ∀ (p : Nat) (u' : RdC), p < n → (∀ j, j < p → ¬ aBad k t j) → aBad k t p → rdN u' = 120 → post (nI p) u')
    (he : (∀ j, j < n → ¬ aBad k t j) → aEnd k t n → ∀ u', RdI u' k t n → post (-1) u')
    (hf : (∀ j, j < n → ¬ aBad k t j) → ¬ aEnd k t n → ∀ u' : RdC, rdN u' = 120 → post (nI n) u') : wp_Rd_faultOf post u v (nI k) := by
  refine ⟨n + 1, r_faultLoop hv hn hb he hf n 0 _ (by omega) (Nat.zero_le _) ⟨hN, ⟨rfl, rfl, rfl, rfl, hk, Nat.le_of_ble_eq_true rfl, Nat.le_of_ble_eq_true rfl, Nat.le_of_ble_eq_true rfl⟩, rfl, fun j hj => absurd hj (by omega), fun j hj => absurd hj (by simp [aC])⟩ (fun j hj => absurd hj (by omega))⟩
