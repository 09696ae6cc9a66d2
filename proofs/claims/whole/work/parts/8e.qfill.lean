/-! the reference fills -/
theorem fL_len {k : Nat} {t : Nat → Nat} {n e : Nat} {tf : Nat → Nat} {nf : Nat} (hg : Gd k t n) (hf : Gd 2 tf nf) : ∀ w j, (fl k t n e tf nf w j).length ≤ 40 * (n - j)
  | 0, _ => Nat.zero_le _
  | w + 1, j => by
    show (if j < n then (if cF k t n e ≤ j ∧ j < cT k t n e then fl k t n e tf nf w (j + 1) else if dA k t n j = some e then wr tf nf ++ fl k t n e tf nf w (nE k t n 7 (j + 1) + 1) else t j :: fl k t n e tf nf w (j + 1)) else []).length ≤ _
    by_cases hj : j < n
    · rw [if_pos hj]
      have i1 := fL_len (e := e) hg hf w (j + 1)
      by_cases h1 : cF k t n e ≤ j ∧ j < cT k t n e
      · rw [if_pos h1]; omega
      · rw [if_neg h1]
        by_cases h2 : dA k t n j = some e
        · rw [if_pos h2, List.length_append, wr_len]
          have i2 := fL_len (e := e) hg hf w (nE k t n 7 (j + 1) + 1)
          have r6 : aR k t j = 6 := by
            unfold dA at h2
            rw [gR_in hj] at h2
            by_cases w : aR k t j = 6
            · exact w
            · rw [if_neg w] at h2; cases h2
          have v := var_end hg hj r6
          have hnf := hf.2.1
          omega
        · rw [if_neg h2, List.length_cons]; omega
    · rw [if_neg hj]; exact Nat.zero_le _
abbrev FT : Type := MoC × IaC × IaC × IaC × IaC × IaC × IaC × IaC × IaC × IaC × IaC × IaC × IaC
def mkT (u : MoC) (X : XA) (x5 st o : IaC) : FT := (u, X.1, X.2.1, X.2.2.1, X.2.2.2.1, x5, X.2.2.2.2.1, X.2.2.2.2.2.1, X.2.2.2.2.2.2.1, X.2.2.2.2.2.2.2.1, X.2.2.2.2.2.2.2.2, st, o)
theorem q_fill {post : Int32 → FT → Prop} {u : MoC} {x5 st o : IaC} {X : XA} {k kf : Nat} {t tf : Nat → Nat} {n nf M s sf : Nat} {x : Int32} (hM : moM u = nI M) (hM2 : M ≤ 24) (hs : s < M) (hsf : sf < M) (hX : XI X k t n s) (hg : Gd k t n) (hXf : XI X kf tf nf sf) (hf : Gd kf tf nf) (hZ : XZ X) (h5 : iaN x5 = 25) (hst : iaN st = 130) (ho : iaN o = 5000)
    (H0 : (∀ e, e < aC k t n → x = nI e → kf = 2 → FOk k t n e tf nf → M = 24) → ∀ u' X' st' o', moN u' = moN u → moM u' = nI M → KS M X X' x5 x5 → iaN st' = 130 → iaN o' = 5000 → post (-100) (mkT u' X' x5 st' o'))
    (H1 : ∀ e, e < aC k t n → x = nI e → kf = 2 → FOk k t n e tf nf → M < 24 → ∀ u' X' x5' st' o', moN u' = moN u → moM u' = nI (M + 1) → KS M X X' x5 x5' → XI X' k (tD k t n e tf nf) (nD k t n e tf nf) M → iaF x5' M = iaF x5 s → iaN st' = 130 → iaN o' = 5000 → post (nI M) (mkT u' X' x5' st' o')) :
    wp_M_fill post u X.1 X.2.1 X.2.2.1 X.2.2.2.1 x5 X.2.2.2.2.1 X.2.2.2.2.2.1 X.2.2.2.2.2.2.1 X.2.2.2.2.2.2.2.1 X.2.2.2.2.2.2.2.2 st o (nI s) x (nI sf) := by
  have hn := hg.2.1
  have hnf := hf.2.1
  have hc := hg.2.2.2.2.2
  have hk := hg.1
  have hkf := hf.1
  have hX' := hX
  obtain ⟨s25, x1, x2, x3, x4, x6, x7, x8, x9, x10, y1, y2, y3, y4, y5, y6, y7⟩ := hX'
  have kff := hXf.2.2.2.2.2.2.2.2.2.2.2.1
  have szf := hXf.2.2.2.2.2.2.2.2.2.2.1
  have refuse : (∀ e, e < aC k t n → x = nI e → kf = 2 → FOk k t n e tf nf → M = 24) → post (-100) (u, X.1, X.2.1, X.2.2.1, X.2.2.2.1, x5, X.2.2.2.2.1, X.2.2.2.2.2.1, X.2.2.2.2.2.2.1, X.2.2.2.2.2.2.2.1, X.2.2.2.2.2.2.2.2, st, o) := fun z => H0 z u X st o rfl hM (KS.rf hZ h5) hst ho
  have refuse' : (∀ e, e < aC k t n → x = nI e → kf = 2 → FOk k t n e tf nf → M = 24) → ∀ w0 w12, moN w0 = moN u → moM w0 = nI M → iaN w12 = 5000 → post (-100) (w0, X.1, X.2.1, X.2.2.1, X.2.2.2.1, x5, X.2.2.2.2.1, X.2.2.2.2.2.1, X.2.2.2.2.2.2.1, X.2.2.2.2.2.2.2.1, X.2.2.2.2.2.2.2.2, st, w12) := fun z w0 w12 a b c => H0 z w0 X st w12 a b (KS.rf hZ h5) hst c
  unfold wp_M_fill
  rw [x10, nI_clamp (by omega), y5, x4, nI_clamp (by omega), kff, x6]
  refine q_noY hM hM2 hs ⟨fun z => absurd rfl z, fun _ => q_noY hM hM2 hsf ⟨fun z => absurd rfl z, fun _ => ⟨fun z => refuse (fun e he q => ?_), fun z => ⟨vp_in_nI s25 (by decide), ?_⟩⟩⟩⟩
  · rw [q] at z; exact absurd z (nI_pos (by omega))
  obtain ⟨e, he31, rfl⟩ := nI_of z
  refine b_le he31 (by omega) (fun z2 => refuse (fun e' he' q => ?_)) (fun he => ⟨vp_in_nI (by omega) (by decide), ?_⟩)
  · have := (nI_eq he31 (by omega)).mp q
    omega
  refine b_eq' (k := 2) (by omega) (by decide) (fun e2 => ⟨vp_in_nI s25 (by decide), ?_⟩) (fun e2 => refuse (fun e' he' q q2 => absurd q2 e2))
  subst e2
  obtain ⟨q1, q2, q3⟩ := cFT hg he
  have only : ∀ e', e' < aC k t n → nI e = nI e' → e' = e := fun e' he' q => ((nI_eq he31 (by omega)).mp q).symm
  have no : ¬ FOk k t n e tf nf ∨ M = 24 → (∀ e', e' < aC k t n → nI e = nI e' → 2 = 2 → FOk k t n e' tf nf → M = 24) := by
    intro w e' he' q _ r
    obtain rfl := only e' he' q
    rcases w with w | w
    · exact absurd r w
    · exact w
  have Flen : (fL k t n e tf nf 0).length ≤ 4800 := by
    have := fL_len (e := e) hg hf (n + 1) 0
    show (fl k t n e tf nf (n + 1) 0).length ≤ 4800
    omega
  -- what is done with it
  have fin : ∀ (w0 : MoC) (w12 : IaC), moN w0 = moN u → moM w0 = nI M → OuI w0 w12 (fL k t n e tf nf 0) → (((120 : Int32) < (moW w0) → post (-100) (w0, X.1, X.2.1, X.2.2.1, X.2.2.2.1, x5, X.2.2.2.2.1, X.2.2.2.2.2.1, X.2.2.2.2.2.2.1, X.2.2.2.2.2.2.2.1, X.2.2.2.2.2.2.2.2, st, w12)) ∧ (¬ (120 : Int32) < (moW w0) → ((¬ (moM w0) = (24 : Int32) → (vp_in (nI s) (iaN X.2.2.2.1) ∧ (vp_in (moM w0) (iaN X.2.2.2.1) ∧ (vp_in (moM w0) (iaN X.2.2.1) ∧ (∃ f, w_M_fill_343 post f (nI s) 0 w0 X.1 X.2.1 (iaN X.2.2.1, upd (iaF X.2.2.1) (moM w0).toNatClampNeg (moW w0)) (iaN X.2.2.2.1, upd (iaF X.2.2.2.1) (moM w0).toNatClampNeg ((iaF X.2.2.2.1) (nI s).toNatClampNeg)) x5 X.2.2.2.2.1 X.2.2.2.2.2.1 X.2.2.2.2.2.2.1 X.2.2.2.2.2.2.2.1 X.2.2.2.2.2.2.2.2 st w12))))) ∧ ((moM w0) = (24 : Int32) → post (-100) (w0, X.1, X.2.1, X.2.2.1, X.2.2.2.1, x5, X.2.2.2.2.1, X.2.2.2.2.2.1, X.2.2.2.2.2.2.1, X.2.2.2.2.2.2.2.1, X.2.2.2.2.2.2.2.2, st, w12))))) := by
    intro w0 w12 h2 h3 h4
    obtain ⟨o1, o2, o3⟩ := h4
    rw [o1, h3, x3, x4, nI_clamp (by omega), nI_clamp (by omega), y2]
    refine b_lt (a := 120) (by decide) (by omega) (fun z => refuse' (no (Or.inl (fun w => ?_))) w0 w12 h2 h3 o2) (fun z => b_eq (k := 24) (by omega) (by decide) (fun e24 => refuse' (no (Or.inr e24)) w0 w12 h2 h3 o2) (fun n24 => ⟨vp_in_nI s25 (by decide), vp_in_nI (by omega) (by decide), vp_in_nI (by omega) (by decide), ?_⟩))
    · have : (fL k t n e tf nf 0).length ≤ 120 := w.1
      omega
    have hD : nD k t n e tf nf ≤ 120 := z
    have eD : (fL k t n e tf nf 0).length = nD k t n e tf nf := rfl
    rw [eD]
    refine lpI (n := nD k t n e tf nf) (α := Nat × IaC) (W := fun f a => w_M_fill_343 post f (nI s) (nI a.1) w0 a.2 X.2.1 (25, upd (iaF X.2.2.1) M (nI (nD k t n e tf nf))) (25, upd (iaF X.2.2.2.1) M (nI k)) x5 X.2.2.2.2.1 X.2.2.2.2.2.1 X.2.2.2.2.2.2.1 X.2.2.2.2.2.2.2.1 X.2.2.2.2.2.2.2.2 st w12) (I := fun j a => a.1 = j ∧ iaN a.2 = 3000 ∧ (∀ i, i < 120 * M → iaF a.2 i = iaF X.1 i) ∧ ∀ i, i < j → iaF a.2 (120 * M + i) = nI (tD k t n e tf nf i)) (fun f a hI => ?_) (fun f j a hj hI ih => ?_) 0 (0, X.1) (by omega) ⟨rfl, x1, fun _ _ => rfl, fun i hi => absurd hi (by omega)⟩
    · obtain ⟨j, w1⟩ := a
      obtain ⟨e1, e2, e3, e4⟩ := hI
      dsimp only at e1 e2 e3 e4 ⊢
      subst e1
      unfold w_M_fill_343 wb_M_fill_343
      rw [h3, o1, eD]
      refine b_le (by omega) (by omega) (fun _ => ?_) (fun z => absurd z (by omega))
      have ht : ∀ i, i < nD k t n e tf nf → tD k t n e tf nf i < 127 := fun i hi => (tD_lt hg hf i hi).2
      have s3 : iaF ((25, upd (iaF X.2.2.1) M (nI (nD k t n e tf nf))) : IaC) M = nI (nD k t n e tf nf) := pk_us
      have s4 : iaF ((25, upd (iaF X.2.2.2.1) M (nI k)) : IaC) M = nI k := pk_us
      have l3 : ∀ i, i < M → iaF ((25, upd (iaF X.2.2.1) M (nI (nD k t n e tf nf))) : IaC) i = iaF X.2.2.1 i := fun i hi => pk_un (by omega)
      have l4 : ∀ i, i < M → iaF ((25, upd (iaF X.2.2.2.1) M (nI k)) : IaC) i = iaF X.2.2.2.1 i := fun i hi => pk_un (by omega)
      have hkeep := fun (v : JV) (hJ : JF M (w0, X.2.1, X.2.2.2.2.1, X.2.2.2.2.2.1, X.2.2.2.2.2.2.1, X.2.2.2.2.2.2.2.1, X.2.2.2.2.2.2.2.2, st) v) => KS_judge (w1 := w1) (w3 := (25, upd (iaF X.2.2.1) M (nI (nD k t n e tf nf)))) (w4 := (25, upd (iaF X.2.2.2.1) M (nI k))) hZ h5 e2 rfl rfl e3 l3 l4 hJ
      have bad : ∀ v : JV, ¬ Ok k (tD k t n e tf nf) (nD k t n e tf nf) → JF M (w0, X.2.1, X.2.2.2.2.1, X.2.2.2.2.2.1, X.2.2.2.2.2.2.1, X.2.2.2.2.2.2.2.1, X.2.2.2.2.2.2.2.2, st) v → post (-100) (v.1, w1, v.2.1, (25, upd (iaF X.2.2.1) M (nI (nD k t n e tf nf))), (25, upd (iaF X.2.2.2.1) M (nI k)), x5, v.2.2.1, v.2.2.2.1, v.2.2.2.2.1, v.2.2.2.2.2.1, v.2.2.2.2.2.2.1, v.2.2.2.2.2.2.2, w12) := by
        intro v hno hJ
        exact H0 (no (Or.inl (fun w => hno w.2))) v.1 (w1, v.2.1, (25, upd (iaF X.2.2.1) M (nI (nD k t n e tf nf))), (25, upd (iaF X.2.2.2.1) M (nI k)), v.2.2.1, v.2.2.2.1, v.2.2.2.2.1, v.2.2.2.2.2.1, v.2.2.2.2.2.2.1) v.2.2.2.2.2.2.2 w12 (hJ.1.1.trans h2) (hJ.1.2.1.trans h3) (hkeep v hJ) hJ.2.2.2.2.2.2.2.1 o2
      have hgood := fill_good (u := tD k t n e tf nf) hg hf he tD_At rfl
      refine r_judge hk (by omega) hD ht ⟨e2, fun i hi => ⟨e4 i hi, by have := ht i hi; omega⟩⟩ rfl s3 rfl s4 x2 x6 x7 x8 x9 x10 hst (fun p hp hno => hgood.2 p hp hno) (fun p v hp hno hb hJ => ⟨fun _ => bad v (fun w => w.1 p hp hb) hJ, fun z => absurd (nI_pos' (by omega)) z⟩) (fun hno hend v hJ hR => ?_) (fun hno hend v hJ => ⟨fun _ => bad v (fun w => hend w.2) hJ, fun z => absurd (nI_pos' (by omega)) z⟩)
      refine ⟨fun z => absurd z (by decide), fun _ => ?_⟩
      have hFO : FOk k t n e tf nf := ⟨hD, hno, hend⟩
      obtain ⟨G1, G2, G3⟩ := FOk_Gd hg hf he hFO
      have vM : moM v.1 = nI M := hJ.1.2.1.trans h3
      have pN : iaN v.2.2.2.2.2.2.1 = 25 := hJ.2.2.2.2.2.2.1
      have pM : iaF v.2.2.2.2.2.2.1 M = nI (aC k (tD k t n e tf nf) (nD k t n e tf nf)) := hR.2.1.2.2.2.1
      have pS : iaF v.2.2.2.2.2.2.1 s = nI (aC k t n) := (hJ.2.2.2.2.2.2.2.2.2.2.2.2.2 s hs).trans y5
      show vp_in (moM v.1) (iaN v.2.2.2.2.2.2.1) ∧ (vp_in (nI s) (iaN v.2.2.2.2.2.2.1) ∧ ((iaF v.2.2.2.2.2.2.1 (moM v.1).toNatClampNeg = iaF v.2.2.2.2.2.2.1 (nI s).toNatClampNeg - 1 → (vp_in (nI s) (iaN x5) ∧ (vp_in (moM v.1) (iaN x5) ∧ post (moM v.1 + 1 - 1) ((moN v.1, moM v.1 + 1, moT v.1, moW v.1, moG v.1, moS v.1, moI v.1), w1, v.2.1, (25, upd (iaF X.2.2.1) M (nI (nD k t n e tf nf))), (25, upd (iaF X.2.2.2.1) M (nI k)), (iaN x5, upd (iaF x5) (moM v.1).toNatClampNeg (iaF x5 (nI s).toNatClampNeg)), v.2.2.1, v.2.2.2.1, v.2.2.2.2.1, v.2.2.2.2.2.1, v.2.2.2.2.2.2.1, v.2.2.2.2.2.2.2, w12)))) ∧ (¬ iaF v.2.2.2.2.2.2.1 (moM v.1).toNatClampNeg = iaF v.2.2.2.2.2.2.1 (nI s).toNatClampNeg - 1 → _)))
      rw [vM, pN, h5, nI_clamp (by omega), nI_clamp (by omega), pM, pS, ← G2, nI_pred, nI_1, nI_pred]
      refine ⟨vp_in_nI (by omega) (by decide), vp_in_nI (by omega) (by decide), fun _ => ⟨vp_in_nI (by omega) (by decide), vp_in_nI (by omega) (by decide), ?_⟩, fun w => absurd rfl w⟩
      have kk := hkeep v hJ
      exact H1 e he rfl rfl hFO (by omega) (moN v.1, nI (M + 1), moT v.1, moW v.1, moG v.1, moS v.1, moI v.1) (w1, v.2.1, (25, upd (iaF X.2.2.1) M (nI (nD k t n e tf nf))), (25, upd (iaF X.2.2.2.1) M (nI k)), v.2.2.1, v.2.2.2.1, v.2.2.2.2.1, v.2.2.2.2.2.1, v.2.2.2.2.2.2.1) (25, upd (iaF x5) M (iaF x5 s)) v.2.2.2.2.2.2.2 w12 (hJ.1.1.trans h2) rfl ⟨kk.1, rfl, kk.2.2.1, kk.2.2.2.1, fun i hi => ⟨(kk.2.2.2.2 i hi).1, (kk.2.2.2.2 i hi).2.1, (kk.2.2.2.2 i hi).2.2.1, pk_un (by omega)⟩⟩ (XI_judge (by omega) e2 rfl rfl e4 s3 s4 hJ hR) pk_us hJ.2.2.2.2.2.2.2.1 o2
    · obtain ⟨j2, w1⟩ := a
      obtain ⟨e1, e2, e3, e4⟩ := hI
      dsimp only at e1 e2 e3 e4 ⊢
      subst e1
      unfold w_M_fill_343 wb_M_fill_343
      rw [h3, o1, eD]
      refine b_le (by omega) (by omega) (fun z => absurd z (by omega)) (fun _ => ?_)
      rw [show (120 : Int32) * nI M + nI j2 = nI (120 * M + j2) from m_ix 120 M j2, nI_clamp (by omega), nI_clamp (by omega), o2, e2, o3 j2 hj, nI_1]
      refine ⟨vp_in_nI (by omega) (by decide), vp_in_nI (by omega) (by decide), ih (j2 + 1, 3000, upd (iaF w1) (120 * M + j2) (nI ((fL k t n e tf nf 0).getD j2 0))) ⟨rfl, rfl, fun i hi => ?_, fun i hi => ?_⟩⟩
      · show upd (iaF w1) (120 * M + j2) _ i = _
        rw [pk_un (by omega)]; exact e3 i hi
      · show upd (iaF w1) (120 * M + j2) _ (120 * M + i) = _
        by_cases q : i = j2
        · rw [q, pk_us]; rfl
        · rw [pk_un (by omega)]; exact e4 i (by omega)
  -- the writing
  have go : w_M_fill_132 post (nI sf) (nI s) (nI (20 * s + e)) (nI (cF k t n e)) (nI (cT k t n e)) u X.1 X.2.1 X.2.2.1 X.2.2.2.1 x5 X.2.2.2.2.1 X.2.2.2.2.2.1 X.2.2.2.2.2.2.1 X.2.2.2.2.2.2.2.1 X.2.2.2.2.2.2.2.2 st o := by
    unfold w_M_fill_132
    have main : ∀ m j, n - j ≤ m → ∀ (w0 : MoC) (w12 : IaC) (L : List Nat), j ≤ n → moN w0 = moN u → moM w0 = nI M → OuI w0 w12 L → L ++ fL k t n e tf nf j = fL k t n e tf nf 0 → w_M_fill_142 post (m + 1) (nI sf) (nI s) (nI (20 * s + e)) (nI (cF k t n e)) (nI (cT k t n e)) (nI j) w0 X.1 X.2.1 X.2.2.1 X.2.2.2.1 x5 X.2.2.2.2.1 X.2.2.2.2.2.1 X.2.2.2.2.2.2.1 X.2.2.2.2.2.2.2.1 X.2.2.2.2.2.2.2.2 st w12 := by
      intro m
      induction m with
      | zero =>
        intro j hj w0 w12 L h1 h2 h3 h4 h6
        rw [fL_end (by omega), List.append_nil] at h6
        rw [h6] at h4
        unfold w_M_fill_142 wb_M_fill_142
        rw [x3, nI_clamp (by omega), y1]
        have F := fin w0 w12 h2 h3 h4
        rw [x3, nI_clamp (by omega)] at F
        exact ⟨vp_in_nI s25 (by decide), b_le (by omega) (by omega) (fun _ => F) (fun z => absurd z (by omega))⟩
      | succ m ih =>
        intro j hj w0 w12 L h1 h2 h3 h4 h6
        have hlen : L.length + (fL k t n e tf nf j).length = (fL k t n e tf nf 0).length := by rw [← h6, List.length_append]
        unfold w_M_fill_142 wb_M_fill_142
        rw [x3, nI_clamp (by omega), y1]
        refine ⟨vp_in_nI s25 (by decide), b_le (by omega) (by omega) (fun z => ?_) (fun hjn => ?_)⟩
        · rw [fL_end z, List.append_nil] at h6
          rw [h6] at h4
          have F := fin w0 w12 h2 h3 h4
          rw [x3, nI_clamp (by omega)] at F
          exact F
        · unfold w_M_fill_284
          rw [nI_1 j]
          have w198 : ¬ (cF k t n e ≤ j ∧ j < cT k t n e) → dA k t n j ≠ some e → w_M_fill_198 post (w_M_fill_142 post (m + 1)) (nI sf) (nI s) (nI (20 * s + e)) (nI (cF k t n e)) (nI (cT k t n e)) (nI j) w0 X.1 X.2.1 X.2.2.1 X.2.2.2.1 x5 X.2.2.2.2.1 X.2.2.2.2.2.1 X.2.2.2.2.2.2.1 X.2.2.2.2.2.2.2.1 X.2.2.2.2.2.2.2.2 st w12 := by
            intro c1 c2
            unfold w_M_fill_198 w_M_fill_284
            rw [fL_copy hjn c1 c2] at h6 hlen
            rw [List.length_cons] at hlen
            refine q_at hX hn hjn (q_put h4 (by omega) (fun u1 o1 m1 m2 => ?_))
            rw [nI_1 j]
            exact ih (j + 1) (by omega) u1 o1 (L ++ [t j]) (by omega) (m1.1.trans h2) (m1.2.1.trans h3) m2 (by rw [List.append_assoc]; exact h6)
          have w171 : ¬ (cF k t n e ≤ j ∧ j < cT k t n e) → w_M_fill_171 post (w_M_fill_142 post (m + 1)) (nI sf) (nI s) (nI (20 * s + e)) (nI (cF k t n e)) (nI (cT k t n e)) (nI j) w0 X.1 X.2.1 X.2.2.1 X.2.2.2.1 x5 X.2.2.2.2.1 X.2.2.2.2.2.1 X.2.2.2.2.2.2.1 X.2.2.2.2.2.2.2.1 X.2.2.2.2.2.2.2.2 st w12 := by
            intro c1
            unfold w_M_fill_171
            refine hX.role hn (by omega) ?_
            rw [gR_in hjn]
            have hr := aR_lt k t j
            have hp := pTr_lt (aR k t j) (gL t n j)
            have i2 := pTr_is (c := gL t n j) 2 6 hr (by decide)
            refine b_eq (k := 2) (by omega) (by decide) (fun r2 => q_param hX hg hX hg (by omega) ?_) (fun r2 => w198 c1 (by
              unfold dA
              rw [gR_in hjn, if_neg (fun w => r2 (i2.mpr w))]
              simp))
            have r6 := i2.mp r2
            rw [← dA_6 hjn r6]
            obtain ⟨vE1, vE2, vE3⟩ := var_end hg hjn r6
            by_cases hd : dA k t n j = some e
            · rw [hd]
              refine ⟨fun _ => hX.roleB hn (by omega) (fun c => ?_), fun w => absurd rfl w⟩
              have hl25 := (aS_lt k t j).1
              have hpl := pTr_lt (aS k t j).1 c
              have i24 := pTr_is (c := c) 24 24 hl25 (by decide)
              rw [fL_var hjn c1 hd] at h6 hlen
              rw [List.length_append, wr_len] at hlen
              have w241 : w_M_fill_241 post (w_M_fill_142 post (m + 1)) (nI sf) (nI s) (nI (20 * s + e)) (nI (cF k t n e)) (nI (cT k t n e)) (nI j) w0 X.1 X.2.1 X.2.2.1 X.2.2.2.1 x5 X.2.2.2.2.1 X.2.2.2.2.2.1 X.2.2.2.2.2.2.1 X.2.2.2.2.2.2.2.1 X.2.2.2.2.2.2.2.2 st w12 := by
                unfold w_M_fill_241
                refine lpI (n := nf) (α := Nat × MoC × IaC) (W := fun f a => w_M_fill_244 post (w_M_fill_142 post (m + 1)) f (nI sf) (nI s) (nI (20 * s + e)) (nI (cF k t n e)) (nI (cT k t n e)) (nI j) (nI a.1) a.2.1 X.1 X.2.1 X.2.2.1 X.2.2.2.1 x5 X.2.2.2.2.1 X.2.2.2.2.2.1 X.2.2.2.2.2.2.1 X.2.2.2.2.2.2.2.1 X.2.2.2.2.2.2.2.2 st a.2.2) (I := fun i a => a.1 = i ∧ moN a.2.1 = moN u ∧ moM a.2.1 = nI M ∧ OuI a.2.1 a.2.2 (L ++ wr tf i)) (fun f a hI => ?_) (fun f i a hi hI ih2 => ?_) 0 (0, w0, w12) (by omega) ⟨rfl, h2, h3, by simpa [wr] using h4⟩
                · obtain ⟨i, v0, v12⟩ := a
                  obtain ⟨d1, d2, d3, d4⟩ := hI
                  dsimp only at d1 d2 d3 d4 ⊢
                  subst d1
                  unfold w_M_fill_244 wb_M_fill_244 w_M_fill_284
                  rw [x3, nI_clamp (by omega), szf]
                  refine ⟨vp_in_nI (by omega) (by decide), b_le (by omega) (by omega) (fun _ => ?_) (fun z => absurd z (by omega))⟩
                  rw [nI_1 j]
                  refine q_nameEnd hX hn (by omega) ?_
                  rw [nI_1]
                  exact ih (nE k t n 7 (j + 1) + 1) (by omega) v0 v12 (L ++ wr tf i) (by omega) d2 d3 d4 (by rw [List.append_assoc]; exact h6)
                · obtain ⟨i2', v0, v12⟩ := a
                  obtain ⟨d1, d2, d3, d4⟩ := hI
                  dsimp only at d1 d2 d3 d4 ⊢
                  subst d1
                  unfold w_M_fill_244 wb_M_fill_244
                  rw [x3, nI_clamp (by omega), szf]
                  refine ⟨vp_in_nI (by omega) (by decide), b_le (by omega) (by omega) (fun z => absurd z (by omega)) (fun _ => q_at hXf hnf hi (q_put d4 (by rw [List.length_append, wr_len]; omega) (fun u1 o1 m1 m2 => ?_)))⟩
                  rw [nI_1]
                  refine ih2 (i2' + 1, u1, o1) ⟨rfl, m1.1.trans d2, m1.2.1.trans d3, ?_⟩
                  have : wr tf (i2' + 1) = wr tf i2' ++ [tf i2'] := by unfold wr; rw [List.range_succ, List.map_append]; rfl
                  rw [this, ← List.append_assoc]
                  exact m2
              refine b_eq (k := 24) (by omega) (by decide) (fun e24 => hXf.role (j := 0) hnf (by decide) ?_) (fun _ => w241)
              obtain ⟨f0, f1, f2⟩ := first_f hf
              rw [gR_in f0]
              have hr0 := aR_lt 2 tf 0
              have hp0 := pTr_lt (aR 2 tf 0) (gL tf nf 0)
              have i3 := pTr_is (c := gL tf nf 0) 3 19 hr0 (by decide)
              refine b_eq (k := 3) (by omega) (by decide) (fun e3 => ?_) (fun _ => w241)
              refine refuse' (no (Or.inl (fun w => ?_))) w0 w12 h2 h3 h4.2.1
              have r19 := i3.mp e3
              have t91 : tf 0 = 91 := by
                rw [f1] at r19
                unfold pRef at r19
                rcases f2 with y | y | y
                · rw [y] at r19; simp at r19
                · rw [y] at r19; simp at r19
                · exact y
              exact (FOk_Gd hg hf he w).2.2 ⟨j, by omega, hjn, c1, hd, i24.mp e24, t91⟩
            · have hne : ¬ oX s (dA k t n j) = nI (20 * s + e) := by
                cases hd2 : dA k t n j with
                | none =>
                  intro w
                  exact nI_pos (n := 20 * s + e) (by omega) (by rw [← w]; show (-1 : Int32) < 0; decide)
                | some c =>
                  intro w
                  have hcl := dA_lt hd2
                  have : 20 * s + c = 20 * s + e := (nI_eq (by omega) (by omega)).mp w
                  rw [show c = e by omega] at hd2; exact hd hd2
              exact ⟨fun w => absurd w hne, fun _ => w198 c1 hd⟩
          refine b_lt (by omega) (by omega) (fun y => w171 (by omega)) (fun y => b_le (by omega) (by omega) (fun y2 => w171 (by omega)) (fun y2 => ?_))
          rw [fL_skip hjn ⟨y, y2⟩] at h6
          exact ih (j + 1) (by omega) w0 w12 L (by omega) h2 h3 h4 h6
    exact ⟨_, main n 0 (by omega) (moN u, moM u, moT u, 0, moG u, moS u, moI u) o [] (by omega) rfl hM ⟨rfl, ho, fun i hi => absurd hi (Nat.not_lt_zero _)⟩ rfl⟩
  -- where the cut lies
  have ix : (20 : Int32) * nI s + nI e = nI (20 * s + e) := m_ix 20 s e
  unfold w_M_fill_77
  rw [ix, x10, nI_clamp (by omega), nI_clamp (by omega), y5, (y6 e he).1, nI_1 e, nI_1 (20 * s + e), x6]
  refine b_eq (k := 1) (by omega) (by decide) (fun e1 => ⟨vp_in_nI s25 (by decide), b_eq (k := 1) (by omega) (by decide) (fun _ => q_bodyStart hX hg ?_) (fun w => absurd e1 w)⟩) (fun e1 => ⟨vp_in_nI (by omega) (by decide), vp_in_nI s25 (by decide), b_eq (k := 1) (by omega) (by decide) (fun w => absurd w e1) (fun _ => ⟨vp_in_nI s25 (by decide), b_le (by omega) (by omega) (fun z2 => q_bodyStart hX hg ?_) (fun z2 => ⟨vp_in_nI (by omega) (by decide), ?_⟩)⟩)⟩)
  · have a1 : cF k t n e = 0 := by unfold cF; rw [if_pos e1]
    have a2 : cT k t n e = aO k t n := by unfold cT; rw [if_pos e1]
    rw [a1, a2] at go
    exact go
  · have a1 : cF k t n e = aB k t n e := by unfold cF; rw [if_neg e1]
    have a2 : cT k t n e = aO k t n - 1 := by unfold cT; rw [if_neg e1]; unfold pE; rw [if_neg (by omega)]
    rw [a1, a2] at go
    obtain ⟨q, hq⟩ : ∃ q, aO k t n = q + 1 := ⟨aO k t n - 1, by omega⟩
    rw [hq, nI_pred]
    rw [hq, Nat.add_sub_cancel] at go
    exact go
  · have a1 : cF k t n e = aB k t n e := by unfold cF; rw [if_neg e1]
    have a2 : cT k t n e = aB k t n (e + 1) := by unfold cT; rw [if_neg e1]; unfold pE; rw [if_pos z2]
    rw [a1, a2] at go
    rw [nI_clamp (by omega), show 20 * s + e + 1 = 20 * s + (e + 1) by omega, (y6 (e + 1) z2).1]
    exact go
