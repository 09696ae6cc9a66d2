/-- the TYPE at j, erased -/
def eT (k : Nat) (t : Nat → Nat) (n : Nat) (sc : Sc) (j : Nat) : List Nat := match sc with
  | none => chN k t n 21 (fun _ => false) j
  | some S => chS k t n S.1 S.2.1 S.2.2 21 (fun _ => false) j
def nV : Nat → Bool := fun _ => false
theorem nl_len {k : Nat} {t : Nat → Nat} {n j : Nat} : (nl k t n j).length ≤ tE k t n j + 1 - j := np_len _ _ _ _ _
theorem chN_len {k : Nat} {t : Nat → Nat} {n : Nat} (hg : Gd k t n) : ∀ (w : Nat) (V : Nat → Bool) (j : Nat), TS k t n j → (chN k t n w V j).length ≤ bnd k t n 15 V j
  | 0, _, _, _ => Nat.zero_le _
  | w + 1, V, j, hs => by
    have hnam := bnd_named (c := 15) (V := V) hg hs
    have hvar := bnd_var (c := 15) (V := V) hg hs
    have hnl := nl_len (k := k) (t := t) (n := n) (j := nE k t n 19 j)
    rw [chN_O, List.length_append, List.length_replicate]
    by_cases e6 : aR k t (nE k t n 19 j) = 6
    · rw [if_neg (by omega)]
      have hvar := hvar e6
      have ho := OBJ_len
      cases hp : pF k t n t (nE k t n 19 j + 1) (nE k t n 7 (nE k t n 19 j + 1)) with
      | none => show _ + OBJ.length ≤ _; omega
      | some i =>
        have hi := (pF_lt hp).1
        unfold chO
        dsimp only
        cases hf : aFb k t n i with
        | none => show _ + OBJ.length ≤ _; omega
        | some q =>
          dsimp only
          cases hv : V i with
          | true => show _ + OBJ.length ≤ _; omega
          | false =>
            rw [if_neg (by decide)]
            have := chN_len hg w (vS V i) q (fB_TS hg hi hf).1
            have := bnd_step (c := 15) hg hs e6 hi hv hf
            omega
    · rw [if_pos e6]; omega
theorem chS_len {k k' : Nat} {t t' : Nat → Nat} {n n' : Nat} (hg : Gd k t n) (hg' : Gd k' t' n') (hk' : k' = 0) : ∀ (w : Nat) (V : Nat → Bool) (j : Nat), TS k t n j → (chS k t n k' t' n' w V j).length ≤ bnd k t n 125 V j
  | 0, _, _, _ => Nat.zero_le _
  | w + 1, V, j, hs => by
    have hnam := bnd_named (c := 125) (V := V) hg hs
    have hvar := bnd_var (c := 125) (V := V) hg hs
    have hnl := nl_len (k := k) (t := t) (n := n) (j := nE k t n 19 j)
    have e : chS k t n k' t' n' (w + 1) V j = List.replicate (nE k t n 19 j - j) 91 ++ (if aR k t (nE k t n 19 j) ≠ 6 then nl k t n (nE k t n 19 j) else match pF k t n t (nE k t n 19 j + 1) (nE k t n 7 (nE k t n 19 j + 1)) with
      | none => chO k' t' n' 21 (fun _ => false) (pF k' t' n' t (nE k t n 19 j + 1) (nE k t n 7 (nE k t n 19 j + 1)))
      | some i => match aFb k t n i with
        | none => OBJ
        | some q => if V i = true then OBJ else chS k t n k' t' n' w (vS V i) q) := rfl
    rw [e, List.length_append, List.length_replicate]
    by_cases e6 : aR k t (nE k t n 19 j) = 6
    · rw [if_neg (by omega)]
      have hvar := hvar e6
      have ho := OBJ_len
      cases hp : pF k t n t (nE k t n 19 j + 1) (nE k t n 7 (nE k t n 19 j + 1)) with
      | none =>
        dsimp only
        cases hp2 : pF k' t' n' t (nE k t n 19 j + 1) (nE k t n 7 (nE k t n 19 j + 1)) with
        | none => show _ + OBJ.length ≤ _; omega
        | some i =>
          have hi := (pF_lt hp2).1
          unfold chO
          dsimp only
          cases hf : aFb k' t' n' i with
          | none => show _ + OBJ.length ≤ _; omega
          | some q =>
            dsimp only
            rw [if_neg (by decide)]
            obtain ⟨t1, t2, t3, t4, t5⟩ := fB_TS hg' hi hf
            have h1 := chN_len hg' 21 (vS (fun _ => false) i) q t1
            have hph := ph_set (V := fun _ => false) (w := wd k' t' n') (j := i) rfl (aC k' t' n') hi
            have hps := ph_sc hg' hk'
            have : bnd k' t' n' 15 (vS (fun _ => false) i) q ≤ (tE k' t' n' q + 1 - q) + (ph (vS (fun _ => false) i) (wd k' t' n') (aC k' t' n') + 15) := by unfold bnd; split <;> omega
            omega
      | some i =>
        have hi := (pF_lt hp).1
        dsimp only
        cases hf : aFb k t n i with
        | none => show _ + OBJ.length ≤ _; omega
        | some q =>
          dsimp only
          cases hv : V i with
          | true => show _ + OBJ.length ≤ _; omega
          | false =>
            rw [if_neg (by decide)]
            have := chS_len hg hg' hk' w (vS V i) q (fB_TS hg hi hf).1
            have := bnd_step (c := 125) hg hs e6 hi hv hf
            omega
    · rw [if_pos e6]; omega
theorem bnd_mono {k : Nat} {t : Nat → Nat} {n c c' : Nat} {V : Nat → Bool} {j : Nat} (h : c ≤ c') : bnd k t n c V j ≤ bnd k t n c' V j := by unfold bnd; split <;> omega
/-- a scope that may be -/
def ScG (sc : Sc) : Prop := match sc with
  | none => True
  | some S => Gd S.1 S.2.1 S.2.2 ∧ S.1 = 0
theorem eT_len {k : Nat} {t : Nat → Nat} {n : Nat} {sc : Sc} {j : Nat} (hg : Gd k t n) (hsc : ScG sc) (hs : TS k t n j) : (eT k t n sc j).length ≤ bnd k t n 125 nV j := by
  cases sc with
  | none => exact Nat.le_trans (chN_len hg 21 nV j hs) (bnd_mono (by decide))
  | some S => exact chS_len hg hsc.1 hsc.2 21 nV j hs
/-- the reference writes a CLASS -/
theorem q_e175 {post : (MoC × IaC × ZaC) → Prop} {X : XA} {x5 : IaC} {K1 : Int32 → Int32 → MoC → IaC → ZaC → Prop} {k : Nat} {t : Nat → Nat} {j D c : Nat} {w0 : MoC} {w1 : IaC} {w2 : ZaC} (hj : j < 1000) (hD : D ≤ (aS k t j).2.1) (hD1 : D ≤ (aS k t (j + 1)).2.1)
    (H1 : aR k t j = 14 → (aS k t j).2.1 = D → post (w0, w1, w2)) (H0 : ¬ (aR k t j = 14 ∧ (aS k t j).2.1 = D) → K1 (nI ((aS k t (j + 1)).2.1 - D)) (nI (j + 1)) w0 w1 w2) :
    w_M_erase_175 post X.1 X.2.1 X.2.2.1 x5 X.2.2.2.2.1 X.2.2.2.2.2.1 X.2.2.2.2.2.2.1 X.2.2.2.2.2.2.2.2 K1 (nI ((aS k t j).2.1 - D)) (nI j) (nI (pTr (aR k t j) c)) w0 w1 w2 := by
  have hr := aR_lt k t j
  have hd := (aS_lt k t j).2.1
  have hp := pTr_lt (aR k t j) c
  have i8 := pTr_is (c := c) 8 15 hr (by decide)
  have i13 := pTr_is (c := c) 13 16 hr (by decide)
  have i9 := pTr_is (c := c) 9 14 hr (by decide)
  unfold w_M_erase_175 w_M_erase_185 w_M_erase_195 w_M_erase_207
  rw [nI_1 j]
  refine b_eq (k := 8) (by omega) (by decide) (fun e8 => b_eq (k := 13) (by omega) (by decide) (fun e => by omega) (fun _ => b_eq (k := 9) (by omega) (by decide) (fun e => by omega) (fun _ => ?_))) (fun n8 => b_eq (k := 13) (by omega) (by decide) (fun e13 => b_eq (k := 9) (by omega) (by decide) (fun e => by omega) (fun _ => ?_)) (fun n13 => b_eq (k := 9) (by omega) (by decide) (fun e9 => ?_) (fun n9 => ?_)))
  · have r := i8.mp e8
    have F := H0 (fun z => by omega)
    rw [dep_15 r, show (aS k t j).2.1 + 1 - D = (aS k t j).2.1 - D + 1 by omega] at F
    rw [nI_1]; exact F
  · have r := i13.mp e13
    have F := H0 (fun z => by omega)
    have := dep_16 r
    rw [show (aS k t j).2.1 - D = ((aS k t (j + 1)).2.1 - D) + 1 by omega, mI1]
    exact F
  · have r := i9.mp e9
    refine b_eq (k := 0) (by omega) (by decide) (fun z => H1 r (by omega)) (fun z => ?_)
    have F := H0 (fun w => z (by omega))
    rw [dep_no (by omega) (by omega)] at F
    exact F
  · have F := H0 (fun w => n9 (i9.mpr w.1))
    rw [dep_no (fun z => n8 (i8.mpr z)) (fun z => n13 (i13.mpr z))] at F
    exact F
theorem np_mono (k : Nat) (t : Nat → Nat) (D s m : Nat) : ∀ d, (np k t D s m).length ≤ (np k t D s (m + d)).length
  | 0 => Nat.le_refl _
  | d + 1 => by
    have := np_mono k t D s m d
    show _ ≤ (np k t D s (m + d) ++ emN k t D (s + (m + d))).length
    rw [List.length_append]; omega
theorem q_named {post : (MoC × IaC × ZaC) → Prop} {u0 : MoC} {X : XA} {x5 : IaC} {k : Nat} {t : Nat → Nat} {n s b : Nat} {w0 : MoC} {w1 : IaC} {w2 : ZaC} {L : List Nat} (hX : XI X k t n s) (hg : Gd k t n) (hs : TS k t n b) (r9 : aR k t b = 9) (hM : MG u0 w0) (hG : moG w0 = nI s) (hu : OuI w0 w1 L) (hl : L.length + (nl k t n b).length ≤ 5000)
    (h : ∀ w0' w1', MG u0 w0' → OuI w0' w1' (L ++ nl k t n b) → post (w0', w1', w2)) : ∃ f, w_M_erase_86 post X.1 X.2.1 X.2.2.1 x5 X.2.2.2.2.1 X.2.2.2.2.2.1 X.2.2.2.2.2.2.1 X.2.2.2.2.2.2.2.2 f 0 (nI b) w0 w1 w2 := by
  have hn := hg.2.1
  have hs25 := hX.1
  obtain ⟨a1, a2, a3, a4, a5, a6⟩ := tE_sp hg hs
  have es : ∀ j, b ≤ j → np k t (aS k t b).2.1 b (j + 1 - b) = np k t (aS k t b).2.1 b (j - b) ++ emN k t (aS k t b).2.1 j := by
    intro j hj
    rw [show j + 1 - b = (j - b) + 1 by omega]
    show np k t (aS k t b).2.1 b (j - b) ++ emN k t (aS k t b).2.1 (b + (j - b)) = _
    rw [show b + (j - b) = j by omega]
  -- one place
  have one : ∀ (K1 : Int32 → Int32 → MoC → IaC → ZaC → Prop) (j : Nat) (v0 : MoC) (v1 : IaC), b ≤ j → j ≤ tE k t n b → MG u0 v0 → moG v0 = nI s → OuI v0 v1 (L ++ np k t (aS k t b).2.1 b (j - b)) → (j < tE k t n b → ∀ v0' v1', MG u0 v0' → moG v0' = nI s → OuI v0' v1' (L ++ np k t (aS k t b).2.1 b (j + 1 - b)) → K1 (nI ((aS k t (j + 1)).2.1 - (aS k t b).2.1)) (nI (j + 1)) v0' v1' w2) →
      wb_M_erase_86 post X.1 X.2.1 X.2.2.1 x5 X.2.2.2.2.1 X.2.2.2.2.2.1 X.2.2.2.2.2.2.1 X.2.2.2.2.2.2.2.2 K1 (nI ((aS k t j).2.1 - (aS k t b).2.1)) (nI j) v0 v1 w2 := by
    intro K1 j v0 v1 h1 h2 h3 h4 h5 h6
    have hr := aR_lt k t j
    have hd := (aS_lt k t j).2.1
    have hp := pTr_lt (aR k t j) (gL t n j)
    have q1 := a6 j h1 h2
    have hnp := np_len k t (aS k t b).2.1 b (j - b)
    have hdn : (aS k t b).2.1 ≤ (aS k t (j + 1)).2.1 := by
      rcases Nat.lt_or_ge j (tE k t n b) with y | y
      · exact a6 (j + 1) (by omega) (by omega)
      · have e : j = tE k t n b := by omega
        have := eI_iff.mp a4
        rw [← e] at this
        rw [dep_no (by omega) (by omega)]; exact q1
    have fin : ∀ v0' v1', MG u0 v0' → moG v0' = nI s → OuI v0' v1' (L ++ np k t (aS k t b).2.1 b (j + 1 - b)) → w_M_erase_175 post X.1 X.2.1 X.2.2.1 x5 X.2.2.2.2.1 X.2.2.2.2.2.1 X.2.2.2.2.2.2.1 X.2.2.2.2.2.2.2.2 K1 (nI ((aS k t j).2.1 - (aS k t b).2.1)) (nI j) (nI (pTr (aR k t j) (gL t n j))) v0' v1' w2 := by
      intro v0' v1' c1 c2 c3
      refine q_e175 (by omega) q1 hdn (fun r d => ?_) (fun z => ?_)
      · have e : j = tE k t n b := by
          rcases Nat.lt_or_ge j (tE k t n b) with y | y
          · exact absurd ⟨d, by rw [r]; decide⟩ (a5 j h1 y)
          · omega
        rw [e] at c3
        exact h v0' v1' c1 c3
      · refine h6 ?_ v0' v1' c1 c2 c3
        rcases Nat.lt_or_ge j (tE k t n b) with y | y
        · exact y
        · exfalso
          have e : j = tE k t n b := by omega
          have h14 := cls_role hg hs.1 r9 a1 (Nat.le_refl _) a3
          have := eI_iff.mp a4
          exact z (by rw [e]; exact ⟨by omega, a3⟩)
    unfold wb_M_erase_86
    rw [h4, hX.2.2.2.1, nI_clamp (by omega), hX.2.2.2.2.2.2.2.2.2.2.1]
    refine ⟨vp_in_nI hs25 (by decide), b_le (by omega) (by omega) (fun z => absurd z (by omega)) (fun _ => hX.role hn (by omega) ?_)⟩
    rw [gR_in (by omega)]
    have skip : emN k t (aS k t b).2.1 j = [] → w_M_erase_175 post X.1 X.2.1 X.2.2.1 x5 X.2.2.2.2.1 X.2.2.2.2.2.1 X.2.2.2.2.2.2.1 X.2.2.2.2.2.2.2.2 K1 (nI ((aS k t j).2.1 - (aS k t b).2.1)) (nI j) (nI (pTr (aR k t j) (gL t n j))) v0 v1 w2 := fun e => fin v0 v1 h3 h4 (by rw [es j h1, e, List.append_nil]; exact h5)
    refine b_eq (k := 0) (by omega) (by decide) (fun z => ?_) (fun z => skip (by unfold emN; rw [if_neg (by omega)]))
    have hcr := cls_role hg hs.1 r9 h1 h2 (by omega)
    have i1 := pTr_is (c := gL t n j) 1 9 hr (by decide)
    have i6 := pTr_is (c := gL t n j) 6 11 hr (by decide)
    have i7 := pTr_is (c := gL t n j) 7 12 hr (by decide)
    have i9 := pTr_is (c := gL t n j) 9 14 hr (by decide)
    have i5 : pTr (aR k t j) (gL t n j) = 5 ↔ aR k t j = 10 ∨ aR k t j = 13 := by
      rw [pTr_b]
      have : ∀ r, r < 25 → ∀ b : Bool, (pTrb r b = 5 ↔ r = 10 ∨ r = 13) := by decide
      exact this _ hr _
    have w149 : aR k t j ≠ 15 → aR k t j ≠ 16 → w_M_erase_149 post X.1 X.2.1 X.2.2.1 x5 X.2.2.2.2.1 X.2.2.2.2.2.1 X.2.2.2.2.2.2.1 X.2.2.2.2.2.2.2.2 K1 (nI ((aS k t j).2.1 - (aS k t b).2.1)) (nI j) (nI (pTr (aR k t j) (gL t n j))) v0 v1 w2 := by
      intro z1 z2
      have em : emN k t (aS k t b).2.1 j = [if aR k t j = 12 then 36 else t j] := by unfold emN; rw [if_pos ⟨by omega, z1, z2⟩]
      have pt : ∀ c, [if aR k t j = 12 then 36 else t j] = [c] → wp_M_put (fun v9 => w_M_erase_175 post X.1 X.2.1 X.2.2.1 x5 X.2.2.2.2.1 X.2.2.2.2.2.1 X.2.2.2.2.2.2.1 X.2.2.2.2.2.2.2.2 K1 (nI ((aS k t j).2.1 - (aS k t b).2.1)) (nI j) (nI (pTr (aR k t j) (gL t n j))) v9.1 v9.2 w2) v0 v1 (nI c) := by
        intro c hc
        have hmo := np_mono k t (aS k t b).2.1 b (j + 1 - b) (tE k t n b - j)
        rw [show j + 1 - b + (tE k t n b - j) = tE k t n b + 1 - b by omega, es j h1, em, List.length_append, List.length_singleton] at hmo
        have hnl : (nl k t n b).length = (np k t (aS k t b).2.1 b (tE k t n b + 1 - b)).length := rfl
        refine q_put h5 (by rw [List.length_append]; omega) (fun u1 o1 m1 m2 => fin u1 o1 (h3.tr m1.mg) (m1.2.2.2.1.trans h4) ?_)
        rw [es j h1, em, hc, ← List.append_assoc]
        exact m2
      unfold w_M_erase_149 w_M_erase_172
      refine b_eq (k := 7) (by omega) (by decide) (fun e => pt 36 (by rw [if_pos (i7.mp e)])) (fun e => ?_)
      rw [h4]
      exact q_at hX hn (by omega) (pt _ (by rw [if_neg (fun w => e (i7.mpr w))]))
    refine b_eq' (k := 1) (by omega) (by decide) (fun e => w149 (by have := i1.mp e; omega) (by have := i1.mp e; omega)) (fun n1 => b_eq' (k := 5) (by omega) (by decide) (fun e => w149 (by have := i5.mp e; omega) (by have := i5.mp e; omega)) (fun n5 => b_eq' (k := 6) (by omega) (by decide) (fun e => w149 (by have := i6.mp e; omega) (by have := i6.mp e; omega)) (fun n6 => b_eq' (k := 7) (by omega) (by decide) (fun e => w149 (by have := i7.mp e; omega) (by have := i7.mp e; omega)) (fun n7 => b_eq (k := 9) (by omega) (by decide) (fun e => w149 (by have := i9.mp e; omega) (by have := i9.mp e; omega)) (fun n9 => skip ?_)))))
    have r15 : aR k t j = 15 := by
      have w1 : aR k t j ≠ 9 := fun w => n1 (i1.mpr w)
      have w5 : ¬ (aR k t j = 10 ∨ aR k t j = 13) := fun w => n5 (i5.mpr w)
      have w6 : aR k t j ≠ 11 := fun w => n6 (i6.mpr w)
      have w7 : aR k t j ≠ 12 := fun w => n7 (i7.mpr w)
      have w9 : aR k t j ≠ 14 := fun w => n9 (i9.mpr w)
      omega
    unfold emN
    rw [if_neg (by omega)]
  have lp := lpI (n := tE k t n b) (α := Nat × MoC × IaC) (W := fun f a => w_M_erase_86 post X.1 X.2.1 X.2.2.1 x5 X.2.2.2.2.1 X.2.2.2.2.2.1 X.2.2.2.2.2.2.1 X.2.2.2.2.2.2.2.2 f (nI ((aS k t a.1).2.1 - (aS k t b).2.1)) (nI a.1) a.2.1 a.2.2 w2) (I := fun j a => a.1 = j ∧ b ≤ j ∧ MG u0 a.2.1 ∧ moG a.2.1 = nI s ∧ OuI a.2.1 a.2.2 (L ++ np k t (aS k t b).2.1 b (j - b))) (fun f a hI => ?_) (fun f j a hj hI ih => ?_) b (b, w0, w1) a1 ⟨rfl, Nat.le_refl _, hM, hG, by rw [Nat.sub_self]; simpa [np] using hu⟩
  · obtain ⟨f, hf⟩ := lp
    dsimp only at hf
    rw [Nat.sub_self] at hf
    exact ⟨f, hf⟩
  · obtain ⟨j, v0, v1⟩ := a
    obtain ⟨e1, e2, e3, e4, e5⟩ := hI
    dsimp only at e1 e2 e3 e4 e5 ⊢
    subst e1
    exact one _ _ v0 v1 e2 (Nat.le_refl _) e3 e4 e5 (fun z => absurd z (by omega))
  · obtain ⟨j, v0, v1⟩ := a
    obtain ⟨e1, e2, e3, e4, e5⟩ := hI
    dsimp only at e1 e2 e3 e4 e5 ⊢
    subst e1
    exact one _ j v0 v1 e2 (by omega) e3 e4 e5 (fun _ v0' v1' c1 c2 c3 => ih (j + 1, v0', v1') ⟨rfl, by omega, c1, c2, c3⟩)
theorem nl_one {k : Nat} {t : Nat → Nat} {n b : Nat} (hg : Gd k t n) (hs : TS k t n b) (r : aR k t b = 20 ∨ aR k t b = 21) : nl k t n b = [t b] ∧ tE k t n b = b := by
  have e : tE k t n b = b := tE_is hg hs (Nat.le_refl _) hs.1 rfl (by rcases r with r | r <;> rw [r] <;> decide) (fun i c d => absurd d (by omega))
  refine ⟨?_, e⟩
  unfold nl
  rw [e, show b + 1 - b = 1 by omega]
  show [] ++ emN k t (aS k t b).2.1 (b + 0) = _
  unfold emN
  rw [Nat.add_zero, if_pos ⟨rfl, by omega, by omega⟩, if_neg (by omega)]
  rfl
/-- the scope of slot s in the reference -/
def ScQ (X : XA) (x5 : IaC) (s : Nat) (sc : Sc) : Prop := match sc with
  | none => iaF x5 s = -1
  | some S => ∃ s', iaF x5 s = nI s' ∧ s' ≠ s ∧ XI X S.1 S.2.1 S.2.2 s'
theorem q_erase {post : (MoC × IaC × ZaC) → Prop} {u : MoC} {X : XA} {x5 : IaC} {k : Nat} {t : Nat → Nat} {n s j : Nat} {sc : Sc} {o : IaC} {m : ZaC} {L : List Nat} (hX : XI X k t n s) (hg : Gd k t n) (h5 : iaN x5 = 25) (hsc : ScQ X x5 s sc) (hsg : ScG sc) (hs : TS k t n j) (hm : zaN m = 500) (hu : OuI u o L) (hl : L.length + bnd k t n 125 nV j ≤ 5000)
    (h : ∀ w0 w1 w2, MG u w0 → zaN w2 = 500 → OuI w0 w1 (L ++ eT k t n sc j) → post (w0, w1, w2)) : wp_M_erase post u X.1 X.2.1 X.2.2.1 x5 X.2.2.2.2.1 X.2.2.2.2.2.1 X.2.2.2.2.2.2.1 X.2.2.2.2.2.2.2.2 o m (nI s) (nI j) := by
  unfold wp_M_erase
  have hn := hg.2.1
  have hs25 := hX.1
  have hc20 := hg.2.2.2.2.2
  have hel := eT_len hg hsg hs
  refine lpI (n := 500) (α := Nat × ZaC) (W := fun f a => w_M_erase_2 post X.1 X.2.1 X.2.2.1 x5 X.2.2.2.2.1 X.2.2.2.2.2.1 X.2.2.2.2.2.2.1 X.2.2.2.2.2.2.2.2 f (nI s) (nI j) (nI a.1) u o a.2) (I := fun i a => a.1 = i ∧ zaN a.2 = 500 ∧ ∀ i2, i2 < i → zaF a.2 i2 = 0) (fun f a hI => ?_) (fun f i a hi hI ih => ?_) 0 (0, m) (by omega) ⟨rfl, hm, fun i hi => absurd hi (by omega)⟩
  · obtain ⟨i, a2⟩ := a
    obtain ⟨e1, e2, e3⟩ := hI
    dsimp only at e1 e2 e3 ⊢
    subst e1
    refine b_le (a := 500) (q := 500) (by decide) (by decide) (fun _ => ?_) (fun z => absurd z (by omega))
    have hME : ∀ s2, s2 < 25 → ME a2 s2 nV := fun s2 h2 => ⟨e2, fun i hi => by rw [e3 _ (by omega)]; rfl⟩
    have hc : cN nV (aC k t n) < 21 := by have := cN_le nV (aC k t n); omega
    -- every end
    have rp : RP (fun r13 v12 => ((¬ r13 = 0 → wp_M_roleAt (fun r14 => ((r14 = (1 : Int32) → (∃ f, w_M_erase_86 post X.1 X.2.1 X.2.2.1 x5 X.2.2.2.2.1 X.2.2.2.2.2.1 X.2.2.2.2.2.2.1 X.2.2.2.2.2.2.2.2 f 0 (moS v12.1) v12.1 v12.2.1 v12.2.2)) ∧ (¬ r14 = (1 : Int32) → wp_M_at (fun r15 => wp_M_put (fun v16 => post (v16.1, v16.2, v12.2.2)) v12.1 v12.2.1 r15) v12.1 X.1 (moG v12.1) (moS v12.1)))) v12.1 X.2.1 X.2.2.1 (moG v12.1) (moS v12.1)) ∧ (r13 = 0 → post (v12.1, v12.2.1, v12.2.2)))) u X L (eT k t n sc j) := by
      refine ⟨fun w0 w1 w2 c1 c2 c3 => ⟨fun y => absurd rfl y, fun _ => h w0 w1 w2 c1 c2 c3⟩, fun k2 t2 n2 s2 b A w0 w1 w2 c1 c2 c3 c4 c5 c6 c7 c8 c9 c10 => ⟨fun _ => ?_, fun y => absurd y (by decide)⟩⟩
      have hl2 : (L ++ A).length + (nl k2 t2 n2 b).length ≤ 5000 := by
        have := congrArg List.length c5
        rw [List.length_append] at this ⊢
        omega
      show wp_M_roleAt _ w0 X.2.1 X.2.2.1 (moG w0) (moS w0)
      rw [c7, c8]
      have hr := aR_lt k2 t2 b
      have hn2 := c2.2.1
      have hb := c3.1
      have hp := pTr_lt (aR k2 t2 b) (gL t2 n2 b)
      have i1 := pTr_is (c := gL t2 n2 b) 1 9 hr (by decide)
      refine c1.role hn2 (by omega) ?_
      rw [gR_in hb]
      refine b_eq' (k := 1) (by omega) (by decide) (fun e => ?_) (fun e => ?_)
      · refine q_named c1 c2 c3 (i1.mp e) c6 c7 c10 hl2 (fun w0' w1' g1 g2 => h w0' w1' w2 g1 c9 ?_)
        rw [c5, ← List.append_assoc]
        exact g2
      · have hne9 : aR k2 t2 b ≠ 9 := fun w => e (i1.mpr w)
        obtain ⟨n1, n2'⟩ := nl_one c2 c3 (by omega)
        rw [n1] at c5
        refine q_at c1 hn2 hb (q_put c10 (by rw [n1] at hl2; simp at hl2 ⊢; omega) (fun u1 o1 m1 m2 => h u1 o1 w2 (c6.tr m1.mg) c9 ?_))
        rw [c5, ← List.append_assoc]
        exact m2
    cases sc with
    | none => exact ⟨200 * 21, q_resN hX hg h5 21 nV j (moN u, moM u, moT u, moW u, nI s, nI j, 0) o a2 L hs hc (Or.inr ⟨rfl, hsc⟩) ⟨rfl, rfl, rfl⟩ rfl rfl hu (hME s hs25) (by have := bnd_mono (k := k) (t := t) (n := n) (V := nV) (j := j) (show 15 ≤ 125 by decide); omega) rp _ (Nat.le_refl _)⟩
    | some S =>
      obtain ⟨s', d1, d2, d3⟩ := hsc
      exact ⟨200 * 21 + 4300, q_resS hX hg d3 hsg.1 hsg.2 h5 d1 d2 21 nV j (moN u, moM u, moT u, moW u, nI s, nI j, 0) o a2 L hs hc rfl ⟨rfl, rfl, rfl⟩ rfl rfl hu (hME s hs25) (hME s' d3.1) hl rp _ (Nat.le_refl _)⟩
  · obtain ⟨i2, a2⟩ := a
    obtain ⟨e1, e2, e3⟩ := hI
    dsimp only at e1 e2 e3 ⊢
    subst e1
    refine b_le (a := i2) (q := 500) (by omega) (by decide) (fun z => absurd z (by omega)) (fun _ => ?_)
    rw [e2, nI_clamp (by omega), nI_1, nar_bv.2]
    refine ⟨vp_in_nI (by omega) (by decide), ih (i2 + 1, 500, upd (zaF a2) i2 0) ⟨rfl, rfl, fun i3 hi3 => ?_⟩⟩
    show upd (zaF a2) i2 0 i3 = 0
    by_cases q : i3 = i2
    · rw [q, pk_us]
    · rw [pk_un q]; exact e3 i3 (by omega)
