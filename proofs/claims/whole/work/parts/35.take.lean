theorem aC_keep {k : Nat} {t : Nat → Nat} {p : Nat} (h : aR k t p ≠ 2) : aC k t (p + 1) = aC k t p ∧ (∀ j, aB k t (p + 1) j = aB k t p j) ∧ ∀ j, aE k t (p + 1) j = aE k t p j := by
  have hn : aN k t p = false := by simp [aN, h]
  refine ⟨?_, fun j => ?_, fun j => ?_⟩
  · show (if aN k t p = true then aC k t p + 1 else aC k t p) = _
    rw [hn]; simp
  · show (if aN k t p = true ∧ j = aC k t p then p else aB k t p j) = _
    rw [hn]; simp
  · show (if aR k t p = 2 ∧ j + 1 = aC k t (p + 1) then p + 1 else aE k t p j) = _
    rw [if_neg (fun z => h z.1)]
theorem r_take {post : RdC → Prop} {u : RdC} {k : Nat} {t : Nat → Nat} {p : Nat} (hI : RdI u k t p) (hp : p < 120) (h : ∀ u', RdI u' k t (p + 1) → post u') : wp_Rd_take post u (nI (aR k t p)) (nI p) := by
  have hI0 := hI
  obtain ⟨uN, uR, uB, uE, uC, uK, uX, uD, uL⟩ := u
  obtain ⟨h0, ⟨h1, h2, h3, h4, h5, h6, h7, h8⟩, hc, hR, hN⟩ := hI
  dsimp only [rdN, rdR, rdB, rdE, rdC, rdK, rdX, rdD, rdL] at h0 h1 h2 h3 h4 hc hR hN
  subst h0
  subst hc
  have hr := aR_lt k t p
  have hs := aS_lt k t (p + 1)
  rw [aS_succ] at hs
  -- the common end
  have fin : ∀ (B E : Nat → Int32) (X D L : Int32), X = nI (pSec (aR k t p) (aS k t p).2.2) → D = nI (pDep (aR k t p) (aS k t p).2.1) → (∀ j, j < aC k t (p + 1) → B j = nI (aB k t (p + 1) j) ∧ E j = nI (aE k t (p + 1) j)) → w_Rd_take_174 post (nI (aR k t p)) (nI p) (120, uR, B, E, nI (aC k t (p + 1)), uK, X, D, L) := by
    intro B E X D L eX eD hBE
    refine ⟨vp_in_nI (N := 120) hp (by decide), h _ ⟨rfl, ⟨h1, ?_, ?_, ?_, h5, ?_, ?_, ?_⟩, rfl, ?_, hBE⟩⟩
    · rw [aS_succ]
    · rw [aS_succ]; exact eD
    · rw [aS_succ]; exact eX
    · rw [aS_succ]; exact hs.1
    · rw [aS_succ]; have := hs.2.1; omega
    · rw [aS_succ]; exact hs.2.2
    · intro j hj
      show upd uR (nI p).toNatClampNeg (nI (aR k t p)) j = _
      rw [nI_clamp (by omega)]
      by_cases hj2 : j = p
      · subst hj2
        rw [pk_us]
      · rw [pk_un hj2]
        exact hR j (by omega)
  have keep : aR k t p ≠ 2 → ∀ (X D L : Int32), X = nI (pSec (aR k t p) (aS k t p).2.2) → D = nI (pDep (aR k t p) (aS k t p).2.1) → w_Rd_take_174 post (nI (aR k t p)) (nI p) (120, uR, uB, uE, nI (aC k t p), uK, X, D, L) := by
    intro hne X D L eX eD
    obtain ⟨e1, e2, e3⟩ := aC_keep hne
    have := fin uB uE X D L eX eD (fun j hj => by rw [e2, e3]; exact hN j (by omega))
    rw [e1] at this
    exact this
  have key : ∀ j : Nat, j < 25 → nI (aR k t p) = nI j → aR k t p = j := fun j hj z => (nI_eq (by omega) (by omega)).mp z
  have ne : ∀ j : Nat, ¬ nI (aR k t p) = nI j → ¬ aR k t p = j := fun j z e => z (by rw [e])
  unfold wp_Rd_take
  dsimp only [rdN, rdR, rdB, rdE, rdC, rdK, rdX, rdD, rdL]
  refine ⟨fun z => ?_, fun z => ?_, fun z => ?_, fun z => ?_, fun z => ?_, fun z => ?_, fun z => ?_, fun z => ?_⟩
  · have e := key 1 (by omega) z
    exact keep (by omega) _ _ _ (by rw [e]; rfl) (by rw [e, h3]; rfl)
  · have e := key 2 (by omega) z
    refine r_noteName hI0 hp e (fun B E hBE => ?_)
    exact fin B E _ _ _ (by rw [e]; exact h4) (by rw [e]; exact h3) hBE
  · have e := key 5 (by omega) z
    exact keep (by omega) _ _ _ (by rw [e]; rfl) (by rw [e, h3]; rfl)
  · have e := key 15 (by omega) z
    exact keep (by omega) _ _ _ (by rw [e, h4]; rfl) (by rw [e, h3, nI_1]; rfl)
  · have e := key 16 (by omega) z
    have hd := pRole_16 e
    obtain ⟨m, hm⟩ : ∃ m, (aS k t p).2.1 = m + 1 := ⟨(aS k t p).2.1 - 1, by omega⟩
    exact keep (by omega) _ _ _ (by rw [e, h4]; rfl) (by rw [e, h3, hm, nI_pred]; rfl)
  · have e := key 22 (by omega) z
    exact keep (by omega) _ _ _ (by rw [e]; rfl) (by rw [e, h3]; rfl)
  · have e := key 23 (by omega) z
    exact keep (by omega) _ _ _ (by rw [e]; rfl) (by rw [e, h3]; rfl)
  · obtain ⟨z1, z2, z5, z15, z16, z22, z23⟩ := z
    have n1 := ne 1 z1
    have n2 := ne 2 z2
    have n5 := ne 5 z5
    have n15 := ne 15 z15
    have n16 := ne 16 z16
    have n22 := ne 22 z22
    have n23 := ne 23 z23
    exact keep n2 _ _ _ (by rw [h4]; unfold pSec; rw [if_neg n1, if_neg n5, if_neg n22, if_neg n23]) (by rw [h3]; unfold pDep; rw [if_neg n15, if_neg n16])
/-- two stretches of a text are the same -/
def nmEq (t t' : Nat → Nat) (b b' : Nat) : Nat → Bool
  | 0 => true
  | m + 1 => nmEq t t' b b' m && t (b + m) == t' (b' + m)
theorem nmEq_iff {t t' : Nat → Nat} {b b' : Nat} : ∀ {m : Nat}, nmEq t t' b b' m = true ↔ ∀ i, i < m → t (b + i) = t' (b' + i)
  | 0 => by simp [nmEq]
  | m + 1 => by
    simp only [nmEq, Bool.and_eq_true, beq_iff_eq]
    rw [nmEq_iff (m := m)]
    constructor
    · intro h i hi
      rcases Nat.lt_succ_iff_lt_or_eq.mp hi with q | q
      · exact h.1 i q
      · rw [q]; exact h.2
    · intro h
      exact ⟨fun i hi => h i (by omega), h m (by omega)⟩
/-- names lie where they have been read -/
theorem aBE (k : Nat) (t : Nat → Nat) : ∀ p, (∀ j, j < aC k t p → aB k t p j < aE k t p j ∧ aE k t p j ≤ p) ∧ ((aS k t p).1 = 2 → 0 < aC k t p ∧ aE k t p (aC k t p - 1) = p)
  | 0 => ⟨fun j hj => absurd hj (by simp [aC]), fun h => absurd h (show ¬ (0 : Nat) = 2 by decide)⟩
  | p + 1 => by
    obtain ⟨ih1, ih2⟩ := aBE k t p
    by_cases hr : aR k t p = 2
    · have eC : aC k t (p + 1) = if aN k t p = true then aC k t p + 1 else aC k t p := rfl
      have eE : ∀ j, aE k t (p + 1) j = if aR k t p = 2 ∧ j + 1 = aC k t (p + 1) then p + 1 else aE k t p j := fun _ => rfl
      have eB : ∀ j, aB k t (p + 1) j = if aN k t p = true ∧ j = aC k t p then p else aB k t p j := fun _ => rfl
      by_cases hl : (aS k t p).1 = 2
      · have hn : aN k t p = false := by simp [aN, hl]
        rw [hn] at eC
        simp only [Bool.false_eq_true, if_false] at eC
        obtain ⟨g1, g2⟩ := ih2 hl
        refine ⟨fun j hj => ?_, fun _ => ⟨by omega, ?_⟩⟩
        · rw [eE, eB, hn]
          simp only [Bool.false_eq_true, false_and, if_false]
          have q := ih1 j (by omega)
          split
          · omega
          · omega
        · rw [eE, if_pos ⟨hr, by omega⟩]
      · have hn : aN k t p = true := by simp [aN, hl, hr]
        rw [hn] at eC
        simp only [if_true] at eC
        refine ⟨fun j hj => ?_, fun _ => ⟨by omega, ?_⟩⟩
        · rw [eE, eB, hn]
          by_cases hj2 : j = aC k t p
          · rw [if_pos ⟨rfl, hj2⟩, if_pos ⟨hr, by omega⟩]
            omega
          · rw [if_neg (fun z => hj2 z.2), if_neg (fun z => hj2 (by omega))]
            have q := ih1 j (by omega)
            omega
        · rw [eE, if_pos ⟨hr, by omega⟩]
    · obtain ⟨e1, e2, e3⟩ := aC_keep hr
      refine ⟨fun j hj => ?_, fun z => absurd z ?_⟩
      · rw [e2, e3]
        have q := ih1 j (by omega)
        omega
      · rw [aS_succ]; exact hr
