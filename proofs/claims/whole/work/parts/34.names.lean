/-- what the reader holds behind p characters -/
def RdI (u : RdC) (k : Nat) (t : Nat → Nat) (p : Nat) : Prop :=
  rdN u = 120 ∧ RdN u k (aS k t p).1 (aS k t p).2.1 (aS k t p).2.2 ∧ rdC u = nI (aC k t p) ∧ (∀ j, j < p → rdR u j = nI (aR k t j)) ∧ ∀ j, j < aC k t p → rdB u j = nI (aB k t p j) ∧ rdE u j = nI (aE k t p j)
theorem r_noteName {post : RdC → Prop} {u : RdC} {k : Nat} {t : Nat → Nat} {p : Nat} (hI : RdI u k t p) (hp : p < 120) (hr : aR k t p = 2)
    (h : ∀ (B E : Nat → Int32), (∀ j, j < aC k t (p + 1) → B j = nI (aB k t (p + 1) j) ∧ E j = nI (aE k t (p + 1) j)) → post (rdN u, rdR u, B, E, nI (aC k t (p + 1)), rdK u, rdX u, rdD u, rdL u)) : wp_Rd_noteName post u (nI p) := by
  obtain ⟨uN, uR, uB, uE, uC, uK, uX, uD, uL⟩ := u
  obtain ⟨h0, ⟨h1, h2, h3, h4, h5, h6, h7, h8⟩, hc, hR, hN⟩ := hI
  dsimp only [rdN, rdR, rdB, rdE, rdC, rdK, rdX, rdD, rdL] at h0 h1 h2 h3 h4 hc hR hN h
  subst h0
  subst hc
  subst h2
  have hcp := aC_le k t p
  have hcs := aC_le k t (p + 1)
  have eC : aC k t (p + 1) = if aN k t p then aC k t p + 1 else aC k t p := rfl
  unfold wp_Rd_noteName w_Rd_noteName_40
  dsimp only [rdN, rdR, rdB, rdE, rdC, rdK, rdX, rdD, rdL]
  by_cases hl : (aS k t p).1 = 2
  · have hn : aN k t p = false := by simp [aN, hl]
    rw [hn] at eC
    simp only [Bool.false_eq_true, if_false] at eC
    have hEB : ∀ j, j < aC k t (p + 1) → aB k t (p + 1) j = aB k t p j := by
      intro j _
      show (if aN k t p = true ∧ j = aC k t p then p else aB k t p j) = _
      rw [hn]
      simp
    refine ⟨fun _ => ⟨fun q => ?_, fun q => ?_⟩, fun q => absurd (by rw [hl]; rfl) q⟩
    · have e0 : aC k t p = 0 := by
        rcases Nat.eq_zero_or_pos (aC k t p) with z | z
        · exact z
        · exact absurd q (nI_nle z (by omega))
      have := h uB uE (fun j hj => absurd hj (by omega))
      rw [eC] at this
      exact this
    · have e0 : 0 < aC k t p := by
        rcases Nat.eq_zero_or_pos (aC k t p) with z | z
        · rw [z] at q; exact absurd (by decide) q
        · exact z
      obtain ⟨m, hm⟩ : ∃ m, aC k t p = m + 1 := ⟨aC k t p - 1, by omega⟩
      rw [hm, nI_pred]
      refine ⟨vp_in_nI (by omega) (by decide), ?_⟩
      rw [nI_clamp (by omega), nI_1]
      have := h uB (upd uE m (nI (p + 1))) (fun j hj => ⟨?_, ?_⟩)
      · rw [eC, hm] at this
        exact this
      · rw [hEB j hj]
        exact (hN j (by omega)).1
      · show _ = nI (if aR k t p = 2 ∧ j + 1 = aC k t (p + 1) then p + 1 else aE k t p j)
        by_cases hj2 : j = m
        · subst hj2
          rw [pk_us, if_pos ⟨hr, by omega⟩]
        · rw [pk_un hj2, if_neg (fun z => hj2 (by omega))]
          exact (hN j (by omega)).2
  · have hn : aN k t p = true := by simp [aN, hl, hr]
    rw [hn] at eC
    simp only [if_true] at eC
    refine ⟨fun q => absurd ((nI_eq (b := 2) (by omega) (by decide)).mp q) hl, fun _ => ⟨fun q => absurd q (nI_ge (a := aC k t p) (b := 120) (by omega) (by decide)), fun _ => ⟨vp_in_nI (by omega) (by decide), ?_⟩⟩⟩
    rw [nI_clamp (by omega), nI_1]
    refine ⟨fun q => absurd q (nI_nle (by omega) (by omega)), fun _ => ?_⟩
    rw [nI_pred]
    refine ⟨vp_in_nI (by omega) (by decide), ?_⟩
    rw [nI_clamp (by omega), nI_1]
    have := h (upd uB (aC k t p) (nI p)) (upd uE (aC k t p) (nI (p + 1))) (fun j hj => ⟨?_, ?_⟩)
    · rw [eC] at this
      exact this
    · show _ = nI (if aN k t p = true ∧ j = aC k t p then p else aB k t p j)
      by_cases hj2 : j = aC k t p
      · subst hj2
        rw [pk_us, if_pos ⟨hn, rfl⟩]
      · rw [pk_un hj2, if_neg (fun z => hj2 z.2)]
        exact (hN j (by omega)).1
    · show _ = nI (if aR k t p = 2 ∧ j + 1 = aC k t (p + 1) then p + 1 else aE k t p j)
      by_cases hj2 : j = aC k t p
      · subst hj2
        rw [pk_us, if_pos ⟨hr, by omega⟩]
      · rw [pk_un hj2, if_neg (fun z => hj2 (by omega))]
        exact (hN j (by omega)).2
