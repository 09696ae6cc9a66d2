theorem wt_next (k : Nat) (t : Nat → Nat) (p i : Nat) : wt k t (p + 1) i = if aR k t p = 19 ∧ i = (aS k t p).2.1 then wt k t p i + 1 else if (aR k t p = 8 ∨ aR k t p = 14 ∨ aR k t p = 20 ∨ aR k t p = 21) ∧ i = (aS k t p).2.1 then 0 else if aR k t p = 15 ∧ i = (aS k t p).2.1 + 1 then 0 else wt k t p i := rfl
theorem r_showLetter {post : (ShC × SkC) → Prop} {u : ShC} {v : SkC} {g : SgC} {k : Nat} {t : Nat → Nat} {n p : Nat} {w : Int32} {L : List Nat} (hg : Gd k t n) (hG : SgI g k t n) (hp : p < n) (hv : SkI v w L) (hl : L.length < 2 ^ 17)
    (s1 : shN u = 120) (s2 : shD u = nI (aS k t p).2.1) (s3 : shC u = nI (cp k t (p + 1))) (s4 : shT u = 0 ↔ th k t p = 0) (s5 : ∀ i, i ≤ (aS k t p).2.1 → shF u i = nI (wt k t p i))
    (h : ∀ u' v', ShI u' k t (p + 1) → SkI v' w (L ++ eL k t n p) → post (u', v')) : wp_Sh_showLetter post u g v (nI p) (nI (aR k t p)) := by
  have hn := hg.2.1
  have hr := aR_lt k t p
  have hl25 := (aS_lt k t p).1
  have hd := (aS_lt k t p).2.1
  have hd2 := (aS_lt k t (p + 1)).2.1
  have hwt := wt_le (k := k) (t := t) p (aS k t p).2.1
  have eT : th k t (p + 1) = if aR k t p = 24 then th k t p + 1 else th k t p := rfl
  -- nothing changes in the shower
  have keep : aR k t p ≠ 15 → aR k t p ≠ 16 → aR k t p ≠ 24 → aR k t p ≠ 19 → ¬ (aR k t p = 8 ∨ aR k t p = 14 ∨ aR k t p = 20 ∨ aR k t p = 21) → ShI u k t (p + 1) := by
    intro z1 z2 z3 z4 z5
    refine ⟨s1, by rw [dep_no z1 z2]; exact s2, s3, by rw [eT, if_neg z3]; exact s4, fun i hi => ?_⟩
    rw [dep_no z1 z2] at hi
    rw [wt_next, if_neg (fun z => z4 z.1), if_neg (fun z => z5 z.1), if_neg (fun z => z1 z.1)]
    exact s5 i hi
  have wait : (aR k t p = 8 ∨ aR k t p = 14 ∨ aR k t p = 20 ∨ aR k t p = 21) → ShI (shN u, upd (shF u) (aS k t p).2.1 0, shD u, shC u, shT u) k t (p + 1) := by
    intro z
    refine ⟨s1, by rw [dep_no (by omega) (by omega)]; exact s2, s3, by rw [eT, if_neg (by omega)]; exact s4, fun i hi => ?_⟩
    rw [dep_no (by omega) (by omega)] at hi
    show upd (shF u) (aS k t p).2.1 0 i = _
    rw [wt_next, if_neg (by omega)]
    by_cases q : i = (aS k t p).2.1
    · rw [if_pos ⟨z, q⟩, q, pk_us]; rfl
    · rw [if_neg (fun y => q y.2), if_neg (by omega), pk_un q]; exact s5 i hi
  unfold wp_Sh_showLetter
  refine r_letterAt hG hg (by omega) ?_
  rw [gL_in hp]
  have ht := (hg.2.2.1 p hp).2
  simp only [lit32, nIe (a := aR k t p) (by omega : aR k t p < 2 ^ 31), Nat.reducePow, Nat.reduceLT]
  refine ⟨fun z => ?_, fun z => ?_, fun z => ?_, fun z => ?_, fun z => ?_, fun z => ?_, fun z => ?_, fun z => ?_, fun z => ?_, fun z => ?_⟩
  · -- colons
    have hk := keep (by omega) (by omega) (by omega) (by omega) (by omega)
    unfold w_Sh_showLetter_196 wp_Sh_showColon w_Sh_showColon_46
    refine b_eq (k := 4) (by omega) (by decide) (fun e => ?_) (fun e => ?_)
    · have eE : eL k t n p = if (aS k t p).1 = 3 then [] else [38] := by unfold eL; simp [e]
      refine r_roleBefore hG hn (by omega) ?_
      rw [gP_S (by omega)]
      refine b_eq' (k := 3) (by omega) (by decide) (fun e2 => ?_) (fun e2 => ?_)
      · rw [if_pos e2] at eE
        exact h u v hk (by rw [eE, List.append_nil]; exact hv)
      · rw [if_neg e2] at eE
        exact r_pass (c := 38) hv (by omega) (fun v' hv' => h u v' hk (by rw [eE]; exact hv'))
    · have e3 : aR k t p = 3 := by omega
      have eE : eL k t n p = if gR k t n (p + 1) = 4 ∨ gR k t n (p + 1) = 9 ∨ gR k t n (p + 1) = 6 ∨ gR k t n (p + 1) = 19 then [58] else [] := by unfold eL; simp [e3]
      have hr2 := gR_lt k t n (p + 1)
      rw [nI_1]
      refine r_roleAt hG hn (by omega) (b_eq' (k := 4) (by omega) (by decide) (fun e4 => ?_) (fun e4 => r_beginsReference (by omega) ?_))
      · rw [if_pos (Or.inl e4)] at eE
        exact r_pass (c := 58) hv (by omega) (fun v' hv' => h u v' hk (by rw [eE]; exact hv'))
      · by_cases q : gR k t n (p + 1) = 9 ∨ gR k t n (p + 1) = 6 ∨ gR k t n (p + 1) = 19
        · rw [if_pos q]
          rw [if_pos (Or.inr q)] at eE
          exact ⟨fun y => absurd y (by decide), fun _ => r_pass (c := 58) hv (by omega) (fun v' hv' => h u v' hk (by rw [eE]; exact hv'))⟩
        · rw [if_neg q]
          rw [if_neg (by omega)] at eE
          exact ⟨fun _ => h u v hk (by rw [eE, List.append_nil]; exact hv), fun y => absurd rfl y⟩
  · have eE : eL k t n p = [] := by unfold eL; rcases z with e | e <;> simp [e]
    exact h u v (keep (by omega) (by omega) (by omega) (by omega) (by omega)) (by rw [eE, List.append_nil]; exact hv)
  · have eE : eL k t n p = bk (wt k t p (aS k t p).2.1) := by unfold eL; rcases z with e | e <;> simp [e]
    exact r_showWaiting s1 s2 (by omega) (s5 _ (Nat.le_refl _)) (by omega) hv (by omega) (fun v' hv' => h _ v' (wait (by omega)) (by rw [eE]; exact hv'))
  · have eE : eL k t n p = [46] := by unfold eL; rcases z with e | e <;> simp [e]
    exact r_pass (c := 46) hv (by omega) (fun v' hv' => h u v' (keep (by omega) (by omega) (by omega) (by omega) (by omega)) (by rw [eE]; exact hv'))
  · have eE : eL k t n p = [63] := by unfold eL; simp [z]
    exact r_pass (c := 63) hv (by omega) (fun v' hv' => h u v' (keep (by omega) (by omega) (by omega) (by omega) (by omega)) (by rw [eE]; exact hv'))
  · have eE : eL k t n p = [63, t p] := by unfold eL; simp [z]
    refine r_pass (c := 63) hv (by omega) (fun v1 hv1 => r_pass (c := t p) hv1 (by simp; omega) (fun v' hv' => h u v' (keep (by omega) (by omega) (by omega) (by omega) (by omega)) ?_))
    rw [eE]
    simpa using hv'
  · have eE : eL k t n p = [] := by unfold eL; simp [z]
    rw [s1, s2, nI_clamp (by omega), s5 _ (Nat.le_refl _), nI_add]
    refine ⟨vp_in_nI (by omega) (by decide), vp_in_nI (by omega) (by decide), h _ _ ⟨rfl, by rw [dep_no (by omega) (by omega)], s3, by rw [eT, if_neg (by omega)]; exact s4, fun i hi => ?_⟩ (by rw [eE, List.append_nil]; exact hv)⟩
    rw [dep_no (by omega) (by omega)] at hi
    show upd (shF u) (aS k t p).2.1 (nI (wt k t p (aS k t p).2.1 + 1)) i = _
    rw [wt_next]
    by_cases q : i = (aS k t p).2.1
    · rw [if_pos ⟨z, q⟩, q, pk_us]
    · rw [if_neg (fun y => q y.2), if_neg (fun y => q y.2), if_neg (by omega), pk_un q]; exact s5 i hi
  · have eE : eL k t n p = wL (bw (t p)) ++ bk (wt k t p (aS k t p).2.1) := by unfold eL; rcases z with e | e <;> simp [e]
    unfold w_Sh_showLetter_124
    have hb := bw_lt (t p)
    have hw7 := wL_7 _ hb.1 hb.2
    refine r_wordOf (by omega) (r_passText hv (by have := hb.1; show _ < 13; omega) (by omega) (fun v1 hv1 => r_showWaiting s1 s2 (by omega) (s5 _ (Nat.le_refl _)) (by omega) hv1 ?_ (fun v' hv' => h _ v' (wait (by omega)) ?_)))
    · rw [List.length_append]
      omega
    · rw [eE, ← List.append_assoc]; exact hv'
  · have eE : eL k t n p = [if th k t p = 0 then 94 else 44] := by unfold eL; simp [z]
    have fin : ShI (shN u, shF u, shD u, shC u, 1) k t (p + 1) := by
      refine ⟨s1, by rw [dep_no (by omega) (by omega)]; exact s2, s3, ?_, fun i hi => ?_⟩
      · rw [eT, if_pos z]
        exact ⟨fun y => absurd y (show ¬ (1 : Int32) = 0 by decide), fun y => absurd y (by omega)⟩
      · rw [dep_no (by omega) (by omega)] at hi
        rw [wt_next, if_neg (by omega), if_neg (by omega), if_neg (by omega)]
        exact s5 i hi
    refine ⟨fun y => ?_, fun y => ?_⟩
    · rw [if_pos (s4.mp y)] at eE
      exact r_pass (c := 94) hv (by omega) (fun v' hv' => h _ v' fin (by rw [eE]; exact hv'))
    · rw [if_neg (fun q => y (s4.mpr q))] at eE
      exact r_pass (c := 44) hv (by omega) (fun v' hv' => h _ v' fin (by rw [eE]; exact hv'))
  · obtain ⟨z3, z4, z6, z8, z9, z11, z12, z14, z17, z18, z19, z20, z21, z24⟩ := z
    have eE : eL k t n p = [t p] := by unfold eL; simp [z3, z4, z6, z8, z9, z11, z12, z14, z17, z18, z19, z20, z21, z24]
    unfold w_Sh_showLetter_234 wp_Sh_changeDepth w_Sh_changeDepth_43
    have last : ∀ u', ShI u' k t (p + 1) → wp_Sk_pass (fun v25 => post (u', v25)) v (nI (t p)) := fun u' hu' => r_pass (c := t p) hv (by omega) (fun v' hv' => h u' v' hu' (by rw [eE]; exact hv'))
    refine b_eq (k := 15) (by omega) (by decide) (fun e => ?_) (fun e => b_eq (k := 16) (by omega) (by decide) (fun e2 => ?_) (fun e2 => last _ (keep e e2 z24 z19 (by omega))))
    · rw [s1, s2, nI_1, ofN]
      refine b_le (by omega) (by omega) (fun y => ?_) (fun y => ⟨vp_in_nI y (by decide), ?_⟩)
      · have e1 := dep_15 e
        have e2 : p + 1 ≠ n := fun q => by
          have e3 := hg.2.2.2.2.1.2.1
          rw [← q] at e3
          omega
        omega
      · refine last _ ⟨rfl, by rw [dep_15 e], s3, by rw [eT, if_neg z24]; exact s4, fun i hi => ?_⟩
        rw [dep_15 e] at hi
        show upd (shF u) (nI ((aS k t p).2.1 + 1)).toNatClampNeg 0 i = _
        rw [nI_clamp (by omega), wt_next, if_neg (fun y => z19 y.1), if_neg (by omega)]
        by_cases q : i = (aS k t p).2.1 + 1
        · rw [if_pos ⟨e, q⟩, q, pk_us]; rfl
        · rw [if_neg (fun y => q y.2), pk_un q]; exact s5 i (by omega)
    · have hdd := dep_16 e2
      rw [s2, hdd]
      refine b_le (a := 0) (by decide) (by omega) (fun y => absurd y (by omega)) (fun _ => ?_)
      rw [nI_pred]
      refine last _ ⟨s1, rfl, s3, by rw [eT, if_neg z24]; exact s4, fun i hi => ?_⟩
      rw [wt_next, if_neg (fun y => z19 y.1), if_neg (by omega), if_neg (fun y => e y.1)]
      exact s5 i (by omega)
theorem r_show {post : (ShC × SkC) → Prop} {u : ShC} {v : SkC} {g : SgC} {k : Nat} {t : Nat → Nat} {n : Nat} {w : Int32} (hg : Gd k t n) (hG : SgI g k t n) (hu : shN u = 120) (hv : SkI v w []) (h : ∀ u' v', shN u' = 120 → SkI v' w (shO k t n n) → post (u', v')) : wp_Sh_show post u g v := by
  unfold wp_Sh_show
  have hn := hg.2.1
  rw [hu]
  refine ⟨vp_in_nI (n := 0) (by decide) (by decide), ?_⟩
  refine lpI (n := n) (α := Int32 × ShC × SkC) (W := fun f a => w_Sh_show_24 post g f a.1 a.2.1 a.2.2) (I := fun j a => a.1 = nI j ∧ ShI a.2.1 k t j ∧ SkI a.2.2 w (shO k t n j)) (fun f a hI => ?_) (fun f j a hj hI ih => ?_) 0 (0, _, v) (by omega) ⟨rfl, ⟨rfl, rfl, rfl, ⟨fun _ => rfl, fun _ => rfl⟩, fun i hi => ?_⟩, hv⟩
  · obtain ⟨a1, a2, a3⟩ := a
    obtain ⟨e1, e2, e3⟩ := hI
    dsimp only at e1 e2 e3 ⊢
    subst e1
    unfold w_Sh_show_24 wb_Sh_show_24
    rw [hG.2.1, ofN]
    exact b_le (by omega) (by omega) (fun _ => h _ _ e2.1 e3) (fun z => absurd z (by omega))
  · obtain ⟨a1, a2, a3⟩ := a
    obtain ⟨e1, e2, e3⟩ := hI
    dsimp only at e1 e2 e3 ⊢
    subst e1
    unfold w_Sh_show_24 wb_Sh_show_24
    rw [hG.2.1, ofN]
    have hl := shO_len k t n j
    have hl1 := eP_len k t j
    refine b_le (by omega) (by omega) (fun z => absurd z (by omega)) (fun _ => r_roleAt hG hn (by omega) ?_)
    rw [gR_in hj]
    refine r_part e2 hg hG hj e3 (by omega) (fun u1 v1 b1 b2 b3 b4 b5 b6 => r_showLetter hg hG hj b6 (by rw [List.length_append]; omega) b1 b2 b3 b4 b5 (fun u2 v2 c1 c2 => ?_))
    rw [nI_1]
    exact ih (nI (j + 1), u2, v2) ⟨rfl, c1, c2⟩
  · have : i = 0 := by have : i ≤ 0 := hi; omega
    subst this
    show upd (shF u) (0 : Int32).toNatClampNeg 0 0 = _
    rw [show (0 : Int32).toNatClampNeg = 0 by decide, pk_us]
    rfl
