theorem q_show {post : (MoC × IaC × IaC) → Prop} {u : MoC} {a o : IaC} {X : XA} {k : Nat} {t : Nat → Nat} {n s : Nat} (hX : XI X k t n s) (hg : Gd k t n) (hT : moT u = -1) (ha : iaN a = 130) (hu : OuI u o [])
    (h : ∀ u' a' o', MT u u' → iaN a' = 130 → OuI u' o' (shO k t n n) → post (u', a', o')) : wp_M_show post u X.1 X.2.1 X.2.2.1 X.2.2.2.1 X.2.2.2.2.2.2.2.2 a o (nI s) := by
  have hn := hg.2.1
  have hs := hX.1
  have hc20 := hg.2.2.2.2.2
  have hk := hg.1
  have loop : ∃ f, w_M_show_29 post X.1 X.2.1 X.2.2.1 X.2.2.2.1 X.2.2.2.2.2.2.2.2 f (nI s) 0 0 0 0 (nI (bd k t n 0)) 0 u a o := by
    refine lpI (n := n) (α := (Nat × MoC × IaC × IaC)) (W := fun f b => w_M_show_29 post X.1 X.2.1 X.2.2.1 X.2.2.2.1 X.2.2.2.2.2.2.2.2 f (nI s) (nI (aS k t b.1).2.1) (nI (cl k t n b.1)) (nI (pd k t b.1)) (nI (th k t b.1)) (nI (bd k t n b.1)) (nI b.1) b.2.1 b.2.2.1 b.2.2.2) (I := fun j b => b.1 = j ∧ QS u b.2.1 b.2.2.1 k t j ∧ OuI b.2.1 b.2.2.2 (shM k t n j)) (fun f b hI => ?_) (fun f j b hj hI ih => ?_) 0 (0, u, a, o) (by omega) ⟨rfl, ⟨⟨rfl, rfl, rfl, rfl, rfl⟩, by rw [hT]; rfl, ha, fun i hi => absurd hi (Nat.not_lt_zero _)⟩, hu⟩
    · obtain ⟨b1, b2, b3, b4⟩ := b
      obtain ⟨e1, e2, e3⟩ := hI
      dsimp only at e1 e2 e3 ⊢
      subst e1
      unfold w_M_show_29 wb_M_show_29
      rw [hX.2.2.2.1, nI_clamp (by omega), hX.2.2.2.2.2.2.2.2.2.2.1]
      rw [shM_end hg] at e3
      exact ⟨vp_in_nI hs (by decide), b_le (by omega) (by omega) (fun _ => h _ _ _ e2.1 e2.2.2.1 e3) (fun z => absurd z (by omega))⟩
    · obtain ⟨b1, b2, b3, b4⟩ := b
      obtain ⟨e1, e2, e3⟩ := hI
      dsimp only at e1 e2 e3 ⊢
      subst e1
      unfold w_M_show_29 wb_M_show_29
      rw [hX.2.2.2.1, nI_clamp (by omega), hX.2.2.2.2.2.2.2.2.2.2.1]
      have hd := (aS_lt k t b1).2.1
      have hml := shM_len k t n b1 (by omega)
      have hcl := cl_le k t n b1
      have hbd : bd k t n b1 ≤ 1 := by unfold bd; split <;> omega
      have next : ∀ (w0 : MoC) (w1 w2 : IaC), QS u w0 w1 k t (b1 + 1) → OuI w0 w2 (shM k t n (b1 + 1)) → w_M_show_29 post X.1 X.2.1 X.2.2.1 X.2.2.2.1 X.2.2.2.2.2.2.2.2 f (nI s) (nI (aS k t (b1 + 1)).2.1) (nI (cl k t n (b1 + 1))) (nI (pd k t (b1 + 1))) (nI (th k t (b1 + 1))) (nI (bd k t n (b1 + 1))) (nI (b1 + 1)) w0 w1 w2 := fun w0 w1 w2 q1 q2 => ih (b1 + 1, w0, w1, w2) ⟨rfl, q1, q2⟩
      have hr2 : aR k t b1 = 2 → prt k t b1 = false := fun z => by unfold prt; simp [z]
      have go : ∀ (w0 : MoC) (w2 : IaC) (L : List Nat), MQu b2 w0 → OuI w0 w2 L → (prt k t b1 = true → L = shM k t n b1 ++ eP k t b1) → (prt k t b1 = false → L = shM k t n b1) → w_M_show_88 post X.1 X.2.1 X.2.2.1 X.2.2.2.1 X.2.2.2.2.2.2.2.2 (w_M_show_29 post X.1 X.2.1 X.2.2.1 X.2.2.2.1 X.2.2.2.2.2.2.2.2 f) (nI s) (nI (aS k t b1).2.1) (nI (cl k t n b1)) (nI (pd k t b1)) (nI (th k t b1)) (nI (bd k t n b1)) (nI b1) (nI (t b1)) (nI (pTr (aR k t b1) (t b1))) w0 b3 w2 := by
        intro w0 w2 L m1 m2 m3 m4
        refine q_show88 hX hg hj (e2.mq m1) m2 (fun z => ?_) (fun z => m4 (hr2 z)) next
        cases hp : prt k t b1
        · rw [m4 hp]
          unfold eP
          rw [hp, if_neg (by decide), if_neg (fun w => z w.1), List.append_nil]
        · exact m3 hp
      refine ⟨vp_in_nI hs (by decide), b_le (by omega) (by omega) (fun z => absurd z (by omega)) (fun _ => q_at hX hn hj (hX.role hn (by omega) ?_))⟩
      rw [gR_in hj, gL_in hj]
      obtain ⟨sd1, sd2⟩ := stD_of hg hj
      refine b_eq' (k := 0) (by omega) (by decide) (fun z => b_le (a := 0) (by decide) (by omega) (fun z2 => ?_) (fun z2 => ?_)) (fun z => ?_)
      · -- neither body nor depth
        refine go _ _ _ (MQu.rf _) e3 (fun w => ?_) (fun _ => rfl)
        exfalso
        have hx := ((sd1 w).2 (by omega)).1
        have hp0 : 0 < b1 := by
          rcases Nat.eq_zero_or_pos b1 with y | y
          · subst y
            simp [prt, aS] at w
          · exact y
        have := body_x hg (by omega) hp0 hx
        unfold bd at z
        rw [if_pos this] at z
        omega
      · refine q_part (c4 := 0) hX hg hj (by omega) (by decide) e3 (by omega) (fun w u' o' m1 m2 => go _ _ _ m1 m2 (fun y => by rw [w] at y; cases y) (fun _ => rfl)) (fun w u' o' m1 m2 => go _ _ _ m1 m2 (fun _ => ?_) (fun y => by rw [w] at y; cases y))
        rw [if_pos (Or.inl z2)]
        unfold eP
        rw [w, if_pos rfl, if_neg (by omega)]
      · refine q_part hX hg hj (by omega) (by omega) e3 (by omega) (fun w u' o' m1 m2 => go _ _ _ m1 m2 (fun y => by rw [w] at y; cases y) (fun _ => rfl)) (fun w u' o' m1 m2 => go _ _ _ m1 m2 (fun _ => ?_) (fun y => by rw [w] at y; cases y))
        unfold eP
        rw [w, if_pos rfl]
        congr 2
        by_cases q : 0 < (aS k t b1).2.1 ∨ k = 1
        · rw [if_pos q, if_neg (by omega)]
        · obtain ⟨a1, a2⟩ := sd1 w
          obtain ⟨a3, a4, a5⟩ := a2 (by omega)
          have hk0 : k = 0 := by omega
          have hl14 : (aS k t b1).1 = 14 := by omega
          have hb : aO k t n ≤ b1 := by
            unfold bd at z
            split at z
            · assumption
            · omega
          obtain ⟨c1, c2⟩ := cp_cl hg hk0 b1 (by omega)
          have hcp := cp_le k t b1
          rw [if_neg q]
          rcases (by omega : cp k t b1 = 0 ∨ cp k t b1 = 1) with y | y
          · have := c1 y
            rw [if_pos ⟨hl14, by omega, hb⟩] at this
            rw [if_pos this, if_pos ⟨hk0, by omega, y⟩]
          · have := (c2 y).2 hl14 (by omega) hb
            rw [if_neg (by omega), if_neg (by omega)]
  unfold wp_M_show w_M_show_24
  have y5 := hX.2.2.2.2.2.2.2.2.2.2.2.2.2.2.1
  rw [hX.2.2.2.2.2.2.2.2.2.1, nI_clamp (by omega), y5]
  refine ⟨vp_in_nI hs (by decide), b_eq (k := 0) (by omega) (by decide) (fun e => ?_) (fun e => ?_)⟩
  · have : bd k t n 0 = 1 := by unfold bd; rw [(O_0 hg e).1]; rfl
    rw [this] at loop
    exact loop
  · have : bd k t n 0 = 0 := by unfold bd; rw [if_neg]; have := (O_1 hg (by omega)).1; omega
    rw [this] at loop
    exact loop
