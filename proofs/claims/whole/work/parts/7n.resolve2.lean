theorem q_134 {post : Int32 → (MoC × IaC × ZaC) → Prop} {X : XA} {x5 : IaC} {u0 : MoC} {k : Nat} {t : Nat → Nat} {n s : Nat} {K0 : MoC → IaC → ZaC → Prop} {w0 : MoC} {w1 : IaC} {w2 : ZaC} {L : List Nat} {V : Nat → Bool} {i : Nat} {T : List Nat} (hX : XI X k t n s) (hg : Gd k t n) (hi : i < aC k t n) (hM : MG u0 w0) (hE : ME w2 s V) (hu : OuI w0 w1 L) (hl : L.length + 18 ≤ 5000) (h : RP post u0 X L T)
    (ho : V i = true ∨ aFb k t n i = none → T = OBJ) (hk : ∀ q, V i = false → aFb k t n i = some q → K0 (moN w0, moM w0, moT w0, moW w0, nI s, nI q, moI w0) w1 (500, upd (zaF w2) (20 * s + i) 1)) :
    w_M_resolve_134 post X.1 X.2.1 X.2.2.1 x5 X.2.2.2.2.1 X.2.2.2.2.2.1 X.2.2.2.2.2.2.1 X.2.2.2.2.2.2.2.2 K0 (nI s) (nI (20 * s + i)) w0 w1 w2 := by
  have hn := hg.2.1
  have hm := hg.2.2.2.2.2
  have hs25 := hX.1
  have hz := hE.2 i (by omega)
  have y7 := (hX.2.2.2.2.2.2.2.2.2.2.2.2.2.2.2.2 i hi).1
  have sz7 : iaN X.2.2.2.2.2.2.1 = 500 := hX.2.2.2.2.2.2.2.1
  have neg : ¬ nI (20 * s + i) < 0 := nI_pos (by omega)
  have ob : (V i = true ∨ aFb k t n i = none) → w_M_resolve_156 post X.1 X.2.1 X.2.2.1 x5 X.2.2.2.2.1 X.2.2.2.2.2.1 X.2.2.2.2.2.2.1 X.2.2.2.2.2.2.2.2 w0 w1 w2 := fun q => q_obj hM hE.1 hu hl (by rw [ho q] at h; exact h)
  unfold w_M_resolve_134
  rw [hE.1, sz7, nI_clamp (by omega), hz, y7, nar_bv.1]
  refine ⟨fun y => absurd y neg, fun _ => ⟨vp_in_nI (by omega) (by decide), fun y => ob (Or.inl ?_), fun y => ⟨vp_in_nI (by omega) (by decide), fun y2 => ⟨vp_in_nI (by omega) (by decide), vp_in_nI (by omega) (by decide), ?_⟩, fun y2 => ob (Or.inr ?_)⟩⟩⟩
  · cases hv : V i
    · rw [hv] at y; exact absurd rfl y
    · rfl
  · have hv : V i = false := by
      cases hv : V i
      · rfl
      · rw [hv] at y; exact absurd y (by decide)
    cases hf : aFb k t n i with
    | none => rw [hf] at y2; exact absurd y2 (by decide)
    | some q => exact hk q hv hf
  · cases hf : aFb k t n i with
    | none => rfl
    | some q =>
      rw [hf] at y2
      have := (fB_TS hg hi hf).1.1
      exact absurd (nI_pos' (by omega)) y2
/-- a signature with its scope -/
theorem q_resS {post : Int32 → (MoC × IaC × ZaC) → Prop} {u0 : MoC} {X : XA} {x5 : IaC} {k k' : Nat} {t t' : Nat → Nat} {n n' s s' : Nat} (hX : XI X k t n s) (hg : Gd k t n) (hX' : XI X k' t' n' s') (hg' : Gd k' t' n') (hk' : k' = 0) (h5 : iaN x5 = 25) (hsc : iaF x5 s = nI s') (hne : s' ≠ s) :
    ∀ (w : Nat) (V : Nat → Bool) (j : Nat) (w0 : MoC) (w1 : IaC) (w2 : ZaC) (L : List Nat), TS k t n j → cN V (aC k t n) < w → moI w0 = 0 → MG u0 w0 → moG w0 = nI s → moS w0 = nI j → OuI w0 w1 L → ME w2 s V → ME w2 s' (fun _ => false) → L.length + bnd k t n 125 V j ≤ 5000 → RP post u0 X L (chS k t n k' t' n' w V j) →
    ∀ F, 200 * w + 4300 ≤ F → w_M_resolve_0 post X.1 X.2.1 X.2.2.1 x5 X.2.2.2.2.1 X.2.2.2.2.2.1 X.2.2.2.2.2.2.1 X.2.2.2.2.2.2.2.2 F w0 w1 w2 := by
  have hn := hg.2.1
  have hm := hg.2.2.2.2.2
  have hs25 := hX.1
  have hs25' := hX'.1
  have hm' := hg'.2.2.2.2.2
  have hn' := hg'.2.1
  intro w
  induction w with
  | zero => intro V j w0 w1 w2 L hs hc; exact absurd hc (Nat.not_lt_zero _)
  | succ w ih =>
    intro V j w0 w1 w2 L hs hc hI hM hG hS hu hE hE' hl h F hF
    obtain ⟨b1, b2, b3, b4, b5⟩ := br_sp hg hs
    obtain ⟨hT, eT, hle⟩ := br_TS hg hs
    have hnam := bnd_named (c := 125) (V := V) hg hs
    have e : chS k t n k' t' n' (w + 1) V j = List.replicate (nE k t n 19 j - j) 91 ++ (if aR k t (nE k t n 19 j) ≠ 6 then nl k t n (nE k t n 19 j) else match pF k t n t (nE k t n 19 j + 1) (nE k t n 7 (nE k t n 19 j + 1)) with
      | none => chO k' t' n' 21 (fun _ => false) (pF k' t' n' t (nE k t n 19 j + 1) (nE k t n 7 (nE k t n 19 j + 1)))
      | some i => match aFb k t n i with
        | none => OBJ
        | some q => if V i = true then OBJ else chS k t n k' t' n' w (vS V i) q) := rfl
    rw [e] at h
    have h := h.sh
    have hvar := bnd_var (c := 125) (V := V) hg hs
    have hstp := fun (i q : Nat) => bnd_step (c := 125) (V := V) (i := i) (q := q) hg hs
    obtain ⟨f, hf⟩ : ∃ f, F = (f + 1) + (nE k t n 19 j - j) := ⟨F - (nE k t n 19 j - j) - 1, by omega⟩
    rw [hf]
    refine q_resBr hX hg hs (nE k t n 19 j - j) j w0 w1 L rfl (Nat.le_refl _) b1 hG hS hu (by omega) ?_
    have hf2 : 200 * w + 4300 ≤ f := by omega
    clear hf
    generalize hbb : nE k t n 19 j = b at *
    have hlen1 : (L ++ List.replicate (b - j) 91).length = L.length + (b - j) := by rw [List.length_append, List.length_replicate]
    have hrb := aR_lt k t b
    have hpt := pTr_lt (aR k t b) (gL t n b)
    have i2 := pTr_is (c := gL t n b) 2 6 hrb (by decide)
    have i3 := pTr_is (c := gL t n b) 3 19 hrb (by decide)
    intro w0' w1' c1 c2 c3 c4 c5
    show wb_M_resolve_0 post X.1 X.2.1 X.2.2.1 x5 X.2.2.2.2.1 X.2.2.2.2.2.1 X.2.2.2.2.2.2.1 X.2.2.2.2.2.2.2.2 (w_M_resolve_0 post X.1 X.2.1 X.2.2.1 x5 X.2.2.2.2.1 X.2.2.2.2.2.1 X.2.2.2.2.2.2.1 X.2.2.2.2.2.2.2.2 f) w0' w1' w2
    by_cases e6 : aR k t b = 6
    · rw [if_neg (by omega)] at h
      have hvar := hvar e6
      have hstp := fun i q => hstp i q e6
      obtain ⟨v1, v2⟩ := var_next hg b2 e6
      have e2 : pTr (gR k t n b) (gL t n b) = 2 := by rw [gR_in b2]; exact i2.mpr e6
      unfold wb_M_resolve_0 w_M_resolve_32 w_M_resolve_131
      rw [c3, c4, h5, nI_clamp (by omega), c2, hI, hsc]
      have rl := fun (P : Int32 → Prop) (hP : P (nI 2)) => hX.role (u := w0') (post := P) hn (show b < 2 ^ 20 by omega) (by rw [e2]; exact hP)
      refine rl _ (b_eq' (k := 2) (by decide) (by decide) (fun _ => rl _ (b_eq (k := 3) (by decide) (by decide) (fun z => absurd z (by decide)) (fun _ => q_param hX hg hX hg (by omega) ?_))) (fun z => absurd rfl z))
      cases hp : pF k t n t (b + 1) (nE k t n 7 (b + 1)) with
      | none =>
        rw [hp] at h
        dsimp only at h
        refine ⟨fun y => absurd y (show ¬ (0 : Int32) ≤ -1 by decide), fun _ => ⟨fun y => absurd rfl y, fun _ => ⟨vp_in_nI hs25 (by decide), q_param hX' hg' hX hg (by omega) ?_⟩⟩⟩
        cases hp2 : pF k' t' n' t (b + 1) (nE k t n 7 (b + 1)) with
        | none =>
          rw [hp2] at h
          refine ⟨fun _ => ⟨nar_b0, ⟨fun _ => q_obj (u0 := u0) (hM.tr c1) hE.1 c5 (by rw [hlen1]; omega) h, fun y => absurd (show (-1 : Int32) < 0 by decide) y⟩⟩, fun y => absurd (show (-1 : Int32) < 0 by decide) y⟩
        | some i =>
          rw [hp2] at h
          have hi := (pF_lt hp2).1
          have neg : ¬ nI (20 * s' + i) < 0 := nI_pos (by omega)
          have hps := ph_sc hg' hk'
          refine ⟨fun y => absurd y neg, fun _ => ⟨nar_b1, q_134 (u0 := u0) (w0 := (moN w0', moM w0', moT w0', moW w0', nI s, nI b, 1)) hX' hg' hi (hM.tr c1) hE' c5 (by rw [hlen1]; omega) h (fun y => ?_) (fun q y1 y2 => ?_)⟩⟩
          · unfold chO
            rcases y with y | y
            · cases y
            · simp only [y]
          · have ech : chO k' t' n' 21 (fun _ => false) (some i) = chN k' t' n' 21 (vS (fun _ => false) i) q := by unfold chO; simp only [y2, Bool.false_eq_true, if_false]
            rw [ech] at h
            obtain ⟨t1, t2, t3, t4, t5⟩ := fB_TS hg' hi y2
            have hcc := cN_set (V := fun _ => false) (j := i) rfl (aC k' t' n') hi
            have hcl := cN_le (fun _ => false) (aC k' t' n')
            have hph := ph_set (V := fun _ => false) (w := wd k' t' n') (j := i) rfl (aC k' t' n') hi
            have hbq : bnd k' t' n' 15 (vS (fun _ => false) i) q ≤ 128 := by
              have : bnd k' t' n' 15 (vS (fun _ => false) i) q ≤ (tE k' t' n' q + 1 - q) + (ph (vS (fun _ => false) i) (wd k' t' n') (aC k' t' n') + 15) := by unfold bnd; split <;> omega
              omega
            refine q_resN hX' hg' h5 21 (vS (fun _ => false) i) q (moN w0', moM w0', moT w0', moW w0', nI s', nI q, 1) w1' (500, upd (zaF w2) (20 * s' + i) 1) _ t1 (by omega) (Or.inl rfl) (hM.tr c1) rfl rfl c5 ⟨rfl, fun i2 hi2 => ?_⟩ (by rw [hlen1]; omega) h f (by omega)
            show upd (zaF w2) (20 * s' + i) 1 (20 * s' + i2) = _
            unfold vS
            by_cases e : i2 = i
            · rw [e, pk_us, if_pos rfl]; rfl
            · rw [pk_un (by omega), if_neg e]; exact hE'.2 i2 hi2
      | some i =>
        rw [hp] at h
        have hi := (pF_lt hp).1
        refine ⟨fun _ => q_134 (u0 := u0) hX hg hi (hM.tr c1) hE c5 (by rw [hlen1]; omega) h (fun y => ?_) (fun q y1 y2 => ?_), fun y => absurd (nI_pos' (by omega)) y⟩
        · rcases y with y | y
          · dsimp only
            cases hf : aFb k t n i with
            | none => rfl
            | some q => simp only [y, if_true]
          · simp only [y]
        · dsimp only at h
          rw [y2] at h
          dsimp only at h
          rw [y1] at h
          simp only [Bool.false_eq_true, if_false] at h
          obtain ⟨t1, t2, t3, t4, t5⟩ := fB_TS hg hi y2
          have hcc := cN_set y1 (aC k t n) hi
          have hst2 := hstp i q hi y1 y2
          refine ih (vS V i) q (moN w0', moM w0', moT w0', moW w0', nI s, nI q, moI w0') w1' (500, upd (zaF w2) (20 * s + i) 1) _ t1 (by omega) (c2.trans hI) (hM.tr c1) rfl rfl c5 ⟨rfl, fun i2 hi2 => ?_⟩ ⟨rfl, fun i2 hi2 => ?_⟩ (by rw [hlen1]; omega) h f hf2
          · show upd (zaF w2) (20 * s + i) 1 (20 * s + i2) = _
            unfold vS
            by_cases e : i2 = i
            · rw [e, pk_us, if_pos rfl]; rfl
            · rw [pk_un (by omega), if_neg e]; exact hE.2 i2 hi2
          · show upd (zaF w2) (20 * s + i) 1 (20 * s' + i2) = _
            rw [pk_un (by omega)]
            exact hE'.2 i2 hi2
    · rw [if_pos e6] at h
      have rb : aR k t b = 9 ∨ aR k t b = 20 ∨ aR k t b = 21 := by omega
      unfold wb_M_resolve_0
      rw [c3, c4]
      have rl := fun (P : Int32 → Prop) (hP : P (nI (pTr (aR k t b) (gL t n b)))) => hX.role (u := w0') (post := P) hn (show b < 2 ^ 20 by omega) (by rw [gR_in b2]; exact hP)
      exact rl _ (b_eq' (k := 2) (by omega) (by decide) (fun z => absurd (i2.mp z) e6) (fun _ => rl _ (b_eq (k := 3) (by omega) (by decide) (fun z => by have := i3.mp z; omega) (fun _ => h.2 k t n s b [] w0' w1' w2 hX hg hT rb rfl (hM.tr c1) c3 c4 hE.1 (by rw [List.append_nil]; exact c5)))))
