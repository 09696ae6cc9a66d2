/-- behind the cut -/
theorem fill_tail {k : Nat} {t u tf : Nat → Nat} {n e nf nu : Nat} (hg : Gd k t n) (hf : Gd 2 tf nf) (he : e < aC k t n) :
    ∀ w j p, n - j < w → j ≤ n → cT k t n e < j → At u p (fL k t n e tf nf j) → nu = p + (fL k t n e tf nf j).length → FS k u t p j 1 → FR k u nu (aC k t n) p (eV k t n e tf j) := by
  have hk := hg.1
  obtain ⟨q1, q2, q3⟩ := cFT hg he
  intro w
  induction w with
  | zero => intro j p h1; omega
  | succ w ih =>
    intro j p h1 h2 h3 h4 h5 h6
    rcases Nat.lt_or_ge j n with hj | hj
    · have hnc : ¬ (cF k t n e ≤ j ∧ j < cT k t n e) := by omega
      by_cases hd : dA k t n j = some e
      · -- a variable that is filled
        have r6 : aR k t j = 6 := by
          unfold dA at hd
          rw [gR_in hj] at hd
          by_cases z : aR k t j = 6
          · exact z
          · rw [if_neg z] at hd; cases hd
        have hT : TS k t n j := ⟨hj, by omega⟩
        obtain ⟨vE1, vE2, vE3⟩ := var_end hg hj r6
        obtain ⟨a1, a2, a3, a4, a5, a6⟩ := tE_sp hg hT
        have t84 := (stN_of hg hj).2.1 r6
        obtain ⟨f0, f1, f2⟩ := first_f hf
        rw [fL_var hj hnc hd] at h4 h5
        obtain ⟨hA1, hA2⟩ := h4.app
        rw [wr_len] at hA2
        rw [List.length_append, wr_len] at h5
        have hA : ∀ i, i < nf → u (p + i) = tf i := fun i hi => by rw [hA1 i (by rw [wr_len]; exact hi), wr_get hi]
        have hu0 : u p = tf 0 := by have := hA 0 f0; rw [Nat.add_zero] at this; exact this
        have hRu : aR k u p = pRole k (aS k t j).1 (if 0 < (aS k t j).2.1 then 1 else 0) (aS k t j).2.2 (tf 0) := by unfold aR; rw [h6.1, h6.2.1, hu0, pRole_lE h6.2.2.1, role_dep]
        have cc := st_all _ stW_all hg hj
        unfold stW at cc
        rw [t84, r6] at cc
        have dd : (if decide (0 < (aS k t j).2.1) = true then 1 else 0) = if 0 < (aS k t j).2.1 then 1 else 0 := by
          by_cases y : 0 < (aS k t j).2.1
          · simp [y]
          · simp [y]
        rw [dd] at cc
        simp only [beq_self_eq_true, Bool.and_self, Bool.not_true, Bool.false_or, Bool.and_eq_true, Bool.or_eq_true, beq_iff_eq, Bool.not_eq_true', beq_eq_false_iff_ne] at cc
        obtain ⟨⟨⟨k1, k2⟩, k3⟩, k4⟩ := cc
        by_cases hev : (aS k t j).1 = 24 ∧ tf 0 = 91
        · right
          refine ⟨p, Nat.le_refl _, by omega, ?_, ?_⟩
          · rw [hRu, hev.2]
            rcases k4 with y | y
            · exact absurd hev.1 y
            · exact y
          · have h7 := h6.2.2.2
            have h8 := aC_mono (k := k) (t := t) (show j ≤ n by omega)
            omega
        · have h0 : aR k u p = aR 2 tf 0 := by
            rw [hRu, f1]
            rcases f2 with y | y | y
            · rw [y]; exact k1
            · rw [y]; exact k3
            · rw [y]
              rcases k2 with z | z
              · exact absurd ⟨z, y⟩ hev
              · exact z
          have hxl := (aS_lt k u p).2.2
          obtain ⟨n1, n2, n3, n4, n5⟩ := nest hf hk hxl hA h0 nf f0 (Nat.le_refl _)
          have hend := end_l hf
          have hd0 := hf.2.2.2.2.1.2.1
          have hae := eI_iff.mp a4
          have hS : FS k u t (p + nf) (nE k t n 7 (j + 1) + 1) 1 := by
            rw [← vE1]
            refine ⟨?_, ?_, Or.inr ⟨?_, by rw [aS_succ]; exact a4⟩, ?_⟩
            · rw [n2, hd0, dep_no (by omega) (by omega), a3, h6.1]; rfl
            · rw [n3, typ_sec hg hT _ (by omega) (Nat.le_refl _)]; exact h6.2.1
            · rw [n1]; exact eI_iff.mpr hend
            · rw [n4, aC_same (p := j) (q := tE k t n j + 1) (by omega) (fun x y1 y2 => (typ_roles hg hT y1 (by omega)).2.1)]
              exact h6.2.2.2
          refine FR_up (p' := p + nf) (by omega) ?_ (ih (nE k t n 7 (j + 1) + 1) (p + nf) (by omega) (by omega) (by omega) hA2 (by omega) ?_)
          · rintro ⟨i, b1, b2, b3, b4, b5, b6⟩
            refine ⟨i, ?_, b2, b3, b4, b5, b6⟩
            rcases Nat.eq_or_lt_of_le b1 with y | y
            · rw [← y] at b5; exact absurd ⟨b5, b6⟩ hev
            · rcases Nat.lt_or_ge i (nE k t n 7 (j + 1) + 1) with z | z
              · exfalso
                have hr6 : aR k t i = 6 := by
                  unfold dA at b4
                  rw [gR_in b2] at b4
                  by_cases q : aR k t i = 6
                  · exact q
                  · rw [if_neg q] at b4; cases b4
                rcases Nat.lt_or_ge i (nE k t n 7 (j + 1)) with q | q
                · have := nE_run (k := k) (t := t) (n := n) (r := 7) _ (j + 1) rfl i (by omega) q
                  omega
                · have : i = tE k t n j := by omega
                  rw [this] at hr6; omega
              · exact z
          · exact hS
      · -- a character as it is
        rw [fL_copy hj hnc hd] at h4 h5
        obtain ⟨hc1, hA⟩ := h4.cons
        rw [List.length_cons] at h5
        have hS := FS_next h6 hc1
        refine FR_up (p' := p + 1) (by omega) ?_ (ih (j + 1) (p + 1) (by omega) (by omega) (by omega) hA (by omega) ?_)
        · rintro ⟨i, a1, a2, a3, a4, a5, a6⟩
          refine ⟨i, ?_, a2, a3, a4, a5, a6⟩
          rcases Nat.eq_or_lt_of_le a1 with y | y
          · rw [← y] at a4; exact absurd a4 hd
          · omega
        · exact hS
    · -- the end
      left
      have e0 : fL k t n e tf nf j = [] := fL_end hj
      rw [e0] at h5
      have hjn : j = n := by omega
      subst hjn
      refine ⟨?_, ?_⟩
      · rw [h5]; exact h6.2.2.2
      · rintro ⟨i, a1, a2, -⟩
        omega
