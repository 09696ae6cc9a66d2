/-- one character of the reference's reader -/
theorem r_jstep {post : Int32 → JV → Prop} {u2 u4 u5 : IaC} {K0 : Int32 → Int32 → MoC → IaC → IaC → IaC → IaC → IaC → IaC → IaC → Prop} {a : JV} {w0 : MoC} {w1 w2 w3 w4 w5 w6 w7 : IaC} {k s n p : Nat} {t : Nat → Nat}
    (hk : k < 3) (hs : s < 25) (hn : n ≤ 120) (ht : ∀ j, j < n → t j < 127) (hx : MoT u2 t s n) (h4 : iaN u4 = 25) (hz : iaF u4 s = nI n) (hpn : p < n) (hno : ∀ j, j < p → ¬ aBad k t j) (hC : aC k t p ≤ 20) (hC1 : ¬ aBad k t p → aC k t (p + 1) ≤ 20)
    (hF : JF s a (w0, w1, w2, w3, w4, w5, w6, w7)) (hR : JR k t s p (w0, w1, w2, w3, w4, w5, w6, w7)) (hS : JS k t p (w0, w1, w2, w3, w4, w5, w6, w7))
    (Hb : aBad k t p → ∀ v, JF s a v → post (nI p) v)
    (Hk : ¬ aBad k t p → ∀ w0 w1 w2 w3 w4 w5 w6 w7, JF s a (w0, w1, w2, w3, w4, w5, w6, w7) → JR k t s (p + 1) (w0, w1, w2, w3, w4, w5, w6, w7) → JS k t (p + 1) (w0, w1, w2, w3, w4, w5, w6, w7) → K0 (nI s) (nI (p + 1)) w0 w1 w2 w3 w4 w5 w6 w7) :
    wb_M_judge_51 post u2 u4 u5 K0 (nI s) (nI p) w0 w1 w2 w3 w4 w5 w6 w7 := by
  obtain ⟨f0, f1, f2, f3, f4, f5, f6, f7, g1, g2, g3, g4, g5, g6⟩ := hF
  obtain ⟨r1, r2, r3⟩ := hR
  obtain ⟨T, hT, hst⟩ := hS
  dsimp only at f0 f1 f2 f3 f4 f5 f6 f7 g1 g2 g3 g4 g5 g6 r1 r2 r3 hT hst
  have hno0 : ∀ j, j < p → aR k t j ≠ 0 := fun j hj z => hno j hj (Or.inl z)
  obtain ⟨hok, hlen⟩ := aOk hk n ht p (by omega) hno0
  have hl := aS_lt k t p
  have htop := sk_top hk hl.1 hl.2.2 hok
  have hq := hst.top htop.1
  have hlT := hst.1
  have hT1 : T ≤ p := by omega
  have hc := ht p hpn
  have x1 := (hx.2 p hpn).1
  have eo : (gStep (pTop k (aS k t p).1 (aS k t p).2.2 (decide (0 < (aS k t p).2.1))) (t p)).1 = pTr (aR k t p) (t p) := aTr hk hc hok
  have h15 := pTop_15 hk hl.1 hl.2.2 hok
  have hcp : (aS k t p).1 = 2 ∨ (aS k t p).1 = 3 ∨ (aS k t p).1 = 4 → 0 < aC k t p := fun z => aC_pos hk n ht p (by omega) hno0 (pOk_x hok z) (by omega)
  unfold wb_M_judge_51
  rw [h4, nI_clamp (by omega), hz, hT, nI_clamp (by omega), hq, f7]
  refine ⟨vp_in_nI hs (by decide), fun y => absurd ((nI_leI (by omega) (by omega)).mp y) (by omega), fun _ => ⟨vp_in_nI (by omega) (by decide), r_at (by rw [hx.1]; omega) (by rw [hx.1]; omega) ?_⟩⟩
  rw [x1]
  refine r_step (k := k) (t := t) (n := n) (p := p) hT (by rw [f7]; omega) (by rw [f7]; omega) hq htop.2.2 (fun z => by have := htop.2.1 z; omega) (by omega) hs hn (by omega) hx r2 (fun z => ⟨hcp (Or.inl (h15.mp z)), hC⟩) (fun z1 z2 z3 => ?_) (fun z => ?_)
  · -- the name is taken
    refine ⟨fun y => absurd rfl y, fun _ => Hb (Or.inr ⟨?_, z3⟩) _ ⟨f0, f1, f2, f3, f4, f5, f6, f7, g1, g2, g3, g4, g5, g6⟩⟩
    unfold aR pRole
    rw [h15.mp z1, z2]
    simp
  · intro u' v' T' m1 m2 m3 m4
    rw [eo]
    have f0' : MP a.1 u' := by
      obtain ⟨a1, a2, a3, a4, a5, a6⟩ := f0
      obtain ⟨b1, b2, b3, b4, b5, b6⟩ := m1
      exact ⟨b1.trans a1, b2.trans a2, b3.trans a3, b4.trans a4, b5.trans a5, b6.trans a6⟩
    have f7' : iaN v' = 130 := m2.trans f7
    have hrl := aR_lt k t p
    have hpt := pTr_lt (aR k t p) (t p)
    refine b_eq (k := 0) (by omega) (by decide) (fun e => ?_) (fun e => ?_)
    · exact Hb (Or.inl ((pTr_0 hrl).mp e)) _ ⟨f0', f1, f2, f3, f4, f5, f6, f7', g1, g2, g3, g4, g5, g6⟩
    · have hr0 : aR k t p ≠ 0 := fun w => e ((pTr_0 hrl).mpr w)
      have hnb : ¬ aBad k t p := by
        rintro (w | ⟨w1, w2⟩)
        · exact hr0 w
        · have l2 := pRole_3 w1
          refine z ⟨h15.mpr l2, ?_, w2⟩
          unfold aR pRole at w1
          rw [l2] at w1
          simp only [Nat.reduceEqDiff, if_false, if_true] at w1
          by_cases hc58 : t p = 58
          · exact hc58
          · rw [if_neg hc58] at w1
            unfold pName at w1
            split at w1 <;> omega
      have hC1' := hC1 hnb
      have Hk' := Hk hnb
      obtain ⟨s1, s2, s3⟩ := sk_step hk hl.1 hl.2.2 hc hok (show pRole k (aS k t p).1 (aS k t p).2.1 (aS k t p).2.2 (t p) ≠ 0 from hr0)
      have hS' : ∀ (w1 w2 w3 w4 w5 w6 : IaC), JS k t (p + 1) (u', w1, w2, w3, w4, w5, w6, v') := by
        intro w1 w2 w3 w4 w5 w6
        refine ⟨T', m3, ?_⟩
        rw [aS_succ]
        have := hst.step m4 s3 (gStep_le htop.2.2 hc) (fun w => ?_)
        · rw [← s1] at this
          exact this
        · have := htop.2.1
          rcases Nat.lt_or_ge 17 (pTop k (aS k t p).1 (aS k t p).2.2 (decide (0 < (aS k t p).2.1))) with q | q
          · exfalso
            have hh : ∀ q, q < 30 → 17 < q → ∀ c, c < 127 → (gStep q c).2.1 ≠ 3 := by decide +kernel
            exact hh _ htop.2.2 q _ hc w
          · have := this q; omega
      have hrp : 0 < p → upd (iaF w1) (120 * s + p) (nI (pTr (aR k t p) (t p))) (120 * s + (p - 1)) = nI (pTr (aR k t (p - 1)) (t (p - 1))) := fun w => role_put r1 (p - 1) (by omega)
      have h19 : (0 < p ∧ pTr (aR k t (p - 1)) (t (p - 1)) = 19) ↔ (aS k t p).1 = 4 := by
        cases p with
        | zero => simp [aS]
        | succ p' => rw [aS_succ]; simp [pTr_19 (aR_lt k t p')]
      have hbg := aBg_iff (T := T) (rp := pTr (aR k t (p - 1)) (t (p - 1))) hk hc hok hr0 hlT h19
      have ix : (120 : Int32) * nI s + nI p = nI (120 * s + p) := m_ix 120 s p
      have ip : (20 : Int32) * nI s + nI (aC k t p) = nI (20 * s + aC k t p) := m_ix 20 s _
      have r2' := r2
      obtain ⟨q1, q2, q3, q4, q5⟩ := r2
      rw [f1, f2, f4, f5, f6, q4, ix, ip, nI_clamp (by omega), nI_clamp (by omega), nI_1 (aC k t p), nI_1 (20 * s + aC k t p)]
      have g1' : ∀ i, i < 120 * s → upd (iaF w1) (120 * s + p) (nI (pTr (aR k t p) (t p))) i = iaF a.2.1 i := fun i hi => by rw [pk_un (by omega)]; exact g1 i hi
      refine ⟨vp_in_nI (by omega) (by decide), vp_in_nI (by omega) (by decide), b_eq (k := 17) (by omega) (by decide) (fun e17 => ?_) (fun e17 => ?_)⟩
      · have hr2 := (pTr_17 hrl).mp e17
        have hbg0 : aBg k t p = false := by simp [aBg, hr2]
        have hmb : ¬ mBg (pTr (aR k t p) (t p)) (pTop k (aS k t p).1 (aS k t p).2.2 (decide (0 < (aS k t p).2.1))) T p (pTr (aR k t (p - 1)) (t (p - 1))) := fun w => by rw [hbg, hbg0] at w; cases w
        refine b_eq' (k := 15) (by have := htop.2.2; omega) (by decide) (fun e15 => ?_) (fun e15 => ?_)
        · have l2 := h15.mp e15
          obtain ⟨m, hm⟩ : ∃ m, aC k t p = m + 1 := ⟨aC k t p - 1, by have := hcp (Or.inl l2); omega⟩
          obtain ⟨n1, n2⟩ := MoN_more (s := s) hr2 l2 hm r2'
          have hN : aN k t p = false := by simp [aN, l2]
          unfold w_M_judge_174
          rw [hm, show 20 * s + (m + 1) = (20 * s + m) + 1 by omega, nI_pred, nI_clamp (by omega), nI_1]
          rw [f3]
          refine ⟨vp_in_nI (by omega) (by decide), ?_⟩
          rw [show (20 * s + m) + 1 = 20 * s + (m + 1) by omega]
          refine r_j186 (m := m + 1) (rp := pTr (aR k t (p - 1)) (t (p - 1))) hs (by omega) (by omega) htop.2.2 (by omega) (by omega) rfl f4 f5 hrp (pTr_lt _ _) (fun w => absurd w hmb) (fun _ => ?_) (fun w => absurd w hmb) (fun w => absurd w hmb)
          rw [f3] at n1
          refine Hk' _ _ _ _ _ _ _ _ ⟨f0', rfl, f2, rfl, f4, f5, f6, f7', g1', g2, fun i hi => ?_, g4, g5, g6⟩ ⟨role_put r1, n1, bnd_keep hN hbg0 r3 (by omega)⟩ (hS' _ _ _ _ _ _)
          show upd (iaF w3) (20 * s + m) (nI (p + 1)) i = _
          rw [pk_un (by omega)]; exact g3 i hi
        · have l2 : (aS k t p).1 ≠ 2 := fun w => e15 (h15.mpr w)
          have hN : aN k t p = true := by simp [aN, l2, hr2]
          obtain ⟨n1, n2⟩ := MoN_new (s := s) hN r2'
          unfold w_M_judge_174
          rw [nI_pred, nI_clamp (by omega), nI_1]
          rw [f3]
          refine ⟨vp_in_nI (by omega) (by decide), vp_in_nI (by omega) (by decide), vp_in_nI (by omega) (by decide), vp_in_nI (by omega) (by decide), vp_in_nI (by omega) (by decide), vp_in_nI (by omega) (by decide), ?_⟩
          rw [show 20 * s + aC k t p + 1 = 20 * s + (aC k t p + 1) by omega]
          refine r_j186 (m := aC k t p + 1) (rp := pTr (aR k t (p - 1)) (t (p - 1))) hs (by omega) (by omega) htop.2.2 (by omega) (by omega) rfl rfl rfl hrp (pTr_lt _ _) (fun w => absurd w hmb) (fun _ => ?_) (fun w => absurd w hmb) (fun w => absurd w hmb)
          rw [f2, f3, f6] at n1
          refine Hk' _ _ _ _ _ _ _ _ ⟨f0', rfl, rfl, rfl, rfl, rfl, rfl, f7', g1', fun i hi => ?_, fun i hi => ?_, fun i hi => ?_, fun i hi => ?_, fun i hi => ?_⟩ ⟨role_put r1, n1, bnd_new hN hbg0 r3 n2⟩ (hS' _ _ _ _ _ _)
          · show upd (iaF w2) _ _ i = _
            rw [pk_un (by omega)]; exact g2 i hi
          · show upd (iaF w3) _ _ i = _
            rw [pk_un (by omega)]; exact g3 i hi
          · show upd (iaF w4) _ _ i = _
            rw [pk_un (by omega)]; exact g4 i hi
          · show upd (iaF w5) _ _ i = _
            rw [pk_un (by omega)]; exact g5 i hi
          · show upd (iaF w6) _ _ i = _
            rw [pk_un (by omega)]; exact g6 i hi
      · have hr2 : aR k t p ≠ 2 := fun w => e17 ((pTr_17 hrl).mpr w)
        have hN : aN k t p = false := by simp [aN, hr2]
        obtain ⟨n1, n2⟩ := MoN_keep (s := s) hr2 r2'
        have hbc : mBg (pTr (aR k t p) (t p)) (pTop k (aS k t p).1 (aS k t p).2.2 (decide (0 < (aS k t p).2.1))) T p (pTr (aR k t (p - 1)) (t (p - 1))) → aBg k t p = true ∧ 0 < aC k t p := by
          intro w
          have w' := hbg.mp w
          refine ⟨w', hcp ?_⟩
          simp only [aBg, Bool.and_eq_true, Bool.or_eq_true, beq_iff_eq] at w'
          omega
        refine r_j186 (m := aC k t p) (rp := pTr (aR k t (p - 1)) (t (p - 1))) hs (by omega) (by omega) htop.2.2 (by omega) (by omega) rfl f4 f5 hrp (pTr_lt _ _) (fun w => (hbc w).2) (fun w => ?_) (fun w y => ?_) (fun w y => ?_)
        · have hbg0 : aBg k t p = false := by
            cases hb : aBg k t p
            · rfl
            · exact absurd (hbg.mpr hb) w
          exact Hk' _ _ _ _ _ _ _ _ ⟨f0', rfl, f2, f3, f4, f5, f6, f7', g1', g2, g3, g4, g5, g6⟩ ⟨role_put r1, n1, bnd_keep hN hbg0 r3 n2⟩ (hS' _ _ _ _ _ _)
        · obtain ⟨b1, b2⟩ := hbc w
          obtain ⟨m, hm⟩ : ∃ m, aC k t p = m + 1 := ⟨aC k t p - 1, by omega⟩
          rw [show aC k t p - 1 = m by omega] at y ⊢
          refine Hk' _ _ _ _ _ _ _ _ ⟨f0', rfl, f2, f3, f4, f5, f6, f7', g1', g2, g3, g4, fun i hi => ?_, g6⟩ ⟨role_put r1, n1, bnd_old hN b1 hm (by omega) r3 n2 y⟩ (hS' _ _ _ _ _ _)
          show upd (iaF w5) _ _ i = _
          rw [pk_un (by omega)]; exact g5 i hi
        · obtain ⟨b1, b2⟩ := hbc w
          obtain ⟨m, hm⟩ : ∃ m, aC k t p = m + 1 := ⟨aC k t p - 1, by omega⟩
          rw [show aC k t p - 1 = m by omega] at y ⊢
          refine Hk' _ _ _ _ _ _ _ _ ⟨f0', rfl, f2, f3, f4, f5, f6, f7', g1', g2, g3, fun i hi => ?_, fun i hi => ?_, g6⟩ ⟨role_put r1, n1, bnd_one hN b1 hm (by omega) r3 n2 y⟩ (hS' _ _ _ _ _ _)
          · show upd (iaF w4) _ _ i = _
            rw [pk_un (by omega)]; exact g4 i hi
          · show upd (iaF w5) _ _ i = _
            rw [pk_un (by omega)]; exact g5 i hi
