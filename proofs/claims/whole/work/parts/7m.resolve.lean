/-! ERASED: the reference's chain -/
def MG (u u' : MoC) : Prop := moN u' = moN u ∧ moM u' = moM u ∧ moT u' = moT u
theorem MG.rf (u : MoC) : MG u u := ⟨rfl, rfl, rfl⟩
theorem MG.tr {u v w : MoC} (a : MG u v) (b : MG v w) : MG u w := ⟨b.1.trans a.1, b.2.1.trans a.2.1, b.2.2.trans a.2.2⟩
theorem MQu.mg {u v : MoC} (a : MQu u v) : MG u v := ⟨a.1, a.2.1, a.2.2.1⟩
/-- the marks of slot s -/
def ME (m : ZaC) (s : Nat) (V : Nat → Bool) : Prop := zaN m = 500 ∧ ∀ i, i < 20 → zaF m (20 * s + i) = if V i = true then 1 else 0
/-- every end of resolve; T is the TYPE erased -/
def RP (post : Int32 → (MoC × IaC × ZaC) → Prop) (u0 : MoC) (X : XA) (L T : List Nat) : Prop :=
  (∀ w0 w1 w2, MG u0 w0 → zaN w2 = 500 → OuI w0 w1 (L ++ T) → post 0 (w0, w1, w2)) ∧
  (∀ (k : Nat) (t : Nat → Nat) (n s b : Nat) (A : List Nat) w0 w1 w2, XI X k t n s → Gd k t n → TS k t n b → (aR k t b = 9 ∨ aR k t b = 20 ∨ aR k t b = 21) → T = A ++ nl k t n b → MG u0 w0 → moG w0 = nI s → moS w0 = nI b → zaN w2 = 500 → OuI w0 w1 (L ++ A) → post 1 (w0, w1, w2))
theorem RP.sh {post : Int32 → (MoC × IaC × ZaC) → Prop} {u0 : MoC} {X : XA} {L A T : List Nat} (h : RP post u0 X L (A ++ T)) : RP post u0 X (L ++ A) T := by
  refine ⟨fun w0 w1 w2 a b c => h.1 w0 w1 w2 a b (by rw [← List.append_assoc]; exact c), fun k t n s b A' w0 w1 w2 a1 a2 a3 a4 a5 a6 a7 a8 a9 a10 => h.2 k t n s b (A ++ A') w0 w1 w2 a1 a2 a3 a4 (by rw [a5, List.append_assoc]) a6 a7 a8 a9 (by rw [← List.append_assoc]; exact a10)⟩
theorem q_obj {post : Int32 → (MoC × IaC × ZaC) → Prop} {X : XA} {x5 : IaC} {u0 w0 : MoC} {w1 : IaC} {w2 : ZaC} {L : List Nat} (hm : MG u0 w0) (hz : zaN w2 = 500) (hu : OuI w0 w1 L) (hl : L.length + 18 ≤ 5000) (h : RP post u0 X L OBJ) : w_M_resolve_156 post X.1 X.2.1 X.2.2.1 x5 X.2.2.2.2.1 X.2.2.2.2.2.1 X.2.2.2.2.2.2.1 X.2.2.2.2.2.2.2.2 w0 w1 w2 := by
  unfold w_M_resolve_156
  refine q_word _ (128 * 128 * 128 * 128 * 128 * 128 * 128) [76, 106, 97, 118, 97, 47, 108, 97] 9 9 (by decide +kernel) (by decide +kernel) hu (by simp; omega) (fun u1 o1 a1 a2 => ?_)
  refine q_word _ (128 * 128 * 128 * 128 * 128 * 128 * 128) [110, 103, 47, 79, 98, 106, 101, 99] 9 9 (by decide +kernel) (by decide +kernel) a2 (by simp; omega) (fun u2 o2 b1 b2 => ?_)
  refine q_word _ 128 [116, 59] 3 3 (by decide +kernel) (by decide +kernel) b2 (by simp; omega) (fun u3 o3 c1 c2 => ?_)
  refine h.1 u3 o3 w2 (hm.tr ((a1.mg.tr b1.mg).tr c1.mg)) hz ?_
  have e : OBJ = [76, 106, 97, 118, 97, 47, 108, 97] ++ [110, 103, 47, 79, 98, 106, 101, 99] ++ [116, 59] := by decide
  rw [e, ← List.append_assoc, ← List.append_assoc]
  exact c2
/-- the brackets before a TYPE -/
theorem q_resBr {post : Int32 → (MoC × IaC × ZaC) → Prop} {X : XA} {x5 : IaC} {k : Nat} {t : Nat → Nat} {n s j f : Nat} {w2 : ZaC} (hX : XI X k t n s) (hg : Gd k t n) (hs : TS k t n j) :
    ∀ (m i : Nat) (w0 : MoC) (w1 : IaC) (L : List Nat), nE k t n 19 j - i = m → j ≤ i → i ≤ nE k t n 19 j → moG w0 = nI s → moS w0 = nI i → OuI w0 w1 L → L.length + m ≤ 5000 →
    (∀ w0' w1', MG w0 w0' → moI w0' = moI w0 → moG w0' = nI s → moS w0' = nI (nE k t n 19 j) → OuI w0' w1' (L ++ List.replicate m 91) → w_M_resolve_0 post X.1 X.2.1 X.2.2.1 x5 X.2.2.2.2.1 X.2.2.2.2.2.1 X.2.2.2.2.2.2.1 X.2.2.2.2.2.2.2.2 f w0' w1' w2) →
    w_M_resolve_0 post X.1 X.2.1 X.2.2.1 x5 X.2.2.2.2.1 X.2.2.2.2.2.1 X.2.2.2.2.2.2.1 X.2.2.2.2.2.2.2.2 (f + m) w0 w1 w2 := by
  have hn := hg.2.1
  obtain ⟨b1, b2, b3, b4, b5⟩ := br_sp hg hs
  intro m
  induction m with
  | zero =>
    intro i w0 w1 L h1 h2 h3 h4 h5 h6 h7 h
    obtain rfl : i = nE k t n 19 j := by omega
    exact h w0 w1 (MG.rf w0) rfl h4 h5 (by simpa using h6)
  | succ m ih =>
    intro i w0 w1 L h1 h2 h3 h4 h5 h6 h7 h
    have r := b4 i h2 (by omega)
    have e3 : pTr (gR k t n i) (gL t n i) = 3 := by rw [gR_in (by omega)]; exact (pTr_is 3 19 (aR_lt k t i) (by decide)).mpr r
    have rl := fun (P : Int32 → Prop) (hP : P (nI 3)) => hX.role (u := w0) (post := P) hn (show i < 2 ^ 20 by omega) (by rw [e3]; exact hP)
    show wb_M_resolve_0 post X.1 X.2.1 X.2.2.1 x5 X.2.2.2.2.1 X.2.2.2.2.2.1 X.2.2.2.2.2.2.1 X.2.2.2.2.2.2.2.2 (w_M_resolve_0 post X.1 X.2.1 X.2.2.1 x5 X.2.2.2.2.1 X.2.2.2.2.2.1 X.2.2.2.2.2.2.1 X.2.2.2.2.2.2.2.2 (f + m)) w0 w1 w2
    unfold wb_M_resolve_0 w_M_resolve_32
    rw [h4, h5]
    refine rl _ (b_eq' (k := 2) (by decide) (by decide) (fun z => absurd z (by decide)) (fun _ => rl _ (b_eq (k := 3) (by decide) (by decide) (fun _ => rl _ (b_eq (k := 3) (by decide) (by decide) (fun _ => q_put (c := 91) h6 (by omega) (fun u1 o1 a1 a2 => ?_)) (fun z => absurd rfl z))) (fun z => absurd rfl z))))
    obtain ⟨m1, m2, m3, m4, m5, m6⟩ := a1
    refine ih (i + 1) _ _ (L ++ [91]) (by omega) (by omega) (by omega) (m4.trans h4) ?_ ?_ (by simp; omega) (fun w0' w1' c1 c2 c3 c4 c5 => h w0' w1' ⟨c1.1.trans m1, c1.2.1.trans m2, c1.2.2.trans m3⟩ (c2.trans m6) c3 c4 ?_)
    · show moS u1 + 1 = nI (i + 1)
      rw [m5, h5, nI_1]
    · exact a2
    · rw [List.append_assoc] at c5
      exact c5
theorem nar_b0 : narrow .boolean (.int 0) = .int 0 ∧ fits .boolean (.int 0) = true := by decide
theorem nar_b1 : narrow .boolean (.int 1) = .int 1 ∧ fits .boolean (.int 1) = true := by decide
theorem nar_bv : vp_nar .boolean 1 = 1 ∧ vp_nar .boolean 0 = 0 := by decide
/-- one signature, no scope behind it -/
theorem q_resN {post : Int32 → (MoC × IaC × ZaC) → Prop} {u0 : MoC} {X : XA} {x5 : IaC} {k : Nat} {t : Nat → Nat} {n s : Nat} (hX : XI X k t n s) (hg : Gd k t n) (h5 : iaN x5 = 25) :
    ∀ (w : Nat) (V : Nat → Bool) (j : Nat) (w0 : MoC) (w1 : IaC) (w2 : ZaC) (L : List Nat), TS k t n j → cN V (aC k t n) < w → (moI w0 = 1 ∨ moI w0 = 0 ∧ iaF x5 s = -1) → MG u0 w0 → moG w0 = nI s → moS w0 = nI j → OuI w0 w1 L → ME w2 s V → L.length + bnd k t n 15 V j ≤ 5000 → RP post u0 X L (chN k t n w V j) →
    ∀ F, 200 * w ≤ F → w_M_resolve_0 post X.1 X.2.1 X.2.2.1 x5 X.2.2.2.2.1 X.2.2.2.2.2.1 X.2.2.2.2.2.2.1 X.2.2.2.2.2.2.2.2 F w0 w1 w2 := by
  have hn := hg.2.1
  have hm := hg.2.2.2.2.2
  have hs25 := hX.1
  intro w
  induction w with
  | zero => intro V j w0 w1 w2 L hs hc; exact absurd hc (Nat.not_lt_zero _)
  | succ w ih =>
    intro V j w0 w1 w2 L hs hc hI hM hG hS hu hE hl h F hF
    obtain ⟨b1, b2, b3, b4, b5⟩ := br_sp hg hs
    obtain ⟨hT, eT, hle⟩ := br_TS hg hs
    have hnam := bnd_named (c := 15) (V := V) hg hs
    rw [chN_O] at h
    have h := h.sh
    have hvar := bnd_var (c := 15) (V := V) hg hs
    have hstp := fun (i q : Nat) => bnd_step (c := 15) (V := V) (i := i) (q := q) hg hs
    -- the step behind the brackets
    obtain ⟨f, hf⟩ : ∃ f, F = (f + 1) + (nE k t n 19 j - j) := ⟨F - (nE k t n 19 j - j) - 1, by omega⟩
    rw [hf]
    refine q_resBr hX hg hs (nE k t n 19 j - j) j w0 w1 L rfl (Nat.le_refl _) b1 hG hS hu (by omega) ?_
    have hf2 : 200 * w ≤ f := by omega
    clear hf
    generalize hbb : nE k t n 19 j = b at *
    have hlen1 : (L ++ List.replicate (b - j) 91).length = L.length + (b - j) := by rw [List.length_append, List.length_replicate]
    have hrb := aR_lt k t b
    have hpt := pTr_lt (aR k t b) (gL t n b)
    have i2 := pTr_is (c := gL t n b) 2 6 hrb (by decide)
    have i3 := pTr_is (c := gL t n b) 3 19 hrb (by decide)
    by_cases e6 : aR k t b = 6
    · rw [if_neg (by omega)] at h
      have hvar := hvar e6
      have hstp := fun i q => hstp i q e6
      obtain ⟨v1, v2⟩ := var_next hg b2 e6
      have e2 : pTr (gR k t n b) (gL t n b) = 2 := by rw [gR_in b2]; exact i2.mpr e6
      -- what follows a found parameter
      have key : ∀ w0' w1', MG w0 w0' → (moI w0' = 1 ∨ moI w0' = 0 ∧ iaF x5 s = -1) → OuI w0' w1' (L ++ List.replicate (b - j) 91) → w_M_resolve_134 post X.1 X.2.1 X.2.2.1 x5 X.2.2.2.2.1 X.2.2.2.2.2.1 X.2.2.2.2.2.2.1 X.2.2.2.2.2.2.2.2 (w_M_resolve_0 post X.1 X.2.1 X.2.2.1 x5 X.2.2.2.2.1 X.2.2.2.2.2.1 X.2.2.2.2.2.2.1 X.2.2.2.2.2.2.2.2 f) (nI s) (oX s (pF k t n t (b + 1) (nE k t n 7 (b + 1)))) w0' w1' w2 := by
        cases hp : pF k t n t (b + 1) (nE k t n 7 (b + 1)) with
        | none =>
          rw [hp] at h
          exact fun w0' w1' c1 c2 c3 => ⟨fun _ => q_obj (hM.tr c1) hE.1 c3 (by rw [hlen1]; omega) h, fun y => absurd (show (-1 : Int32) < 0 by decide) y⟩
        | some i =>
          rw [hp] at h
          have hi := (pF_lt hp).1
          have hz := hE.2 i (by omega)
          have y7 := (hX.2.2.2.2.2.2.2.2.2.2.2.2.2.2.2.2 i hi).1
          have sz7 : iaN X.2.2.2.2.2.2.1 = 500 := hX.2.2.2.2.2.2.2.1
          have ob : chO k t n w V (some i) = OBJ → ∀ w0' w1', MG w0 w0' → OuI w0' w1' (L ++ List.replicate (b - j) 91) → w_M_resolve_156 post X.1 X.2.1 X.2.2.1 x5 X.2.2.2.2.1 X.2.2.2.2.2.1 X.2.2.2.2.2.2.1 X.2.2.2.2.2.2.2.2 w0' w1' w2 := fun q w0' w1' c1 c3 => q_obj (hM.tr c1) hE.1 c3 (by rw [hlen1]; omega) (by rw [q] at h; exact h)
          have neg : ¬ nI (20 * s + i) < 0 := nI_pos (by omega)
          cases hv : V i with
          | true =>
            have q : chO k t n w V (some i) = OBJ := by
              unfold chO
              cases hf : aFb k t n i with
              | none => simp only [hf]
              | some q => simp only [hf, hv, if_true]
            rw [hv] at hz
            refine fun w0' w1' c1 c2 c3 => ⟨fun y => absurd y neg, fun _ => ?_⟩
            show vp_in (nI (20 * s + i)) (zaN w2) ∧ _
            rw [hE.1]
            show vp_in (nI (20 * s + i)) 500 ∧ (¬ zaF w2 (nI (20 * s + i)).toNatClampNeg = 0 → _) ∧ (zaF w2 (nI (20 * s + i)).toNatClampNeg = 0 → _)
            rw [nI_clamp (by omega), hz]
            exact ⟨vp_in_nI (by omega) (by decide), fun _ => ob q w0' w1' c1 c3, fun y => absurd y (by decide)⟩
          | false =>
            rw [hv] at hz
            cases hf : aFb k t n i with
            | none =>
              have q : chO k t n w V (some i) = OBJ := by unfold chO; simp only [hf]
              rw [hf] at y7
              refine fun w0' w1' c1 c2 c3 => ⟨fun y => absurd y neg, fun _ => ?_⟩
              show vp_in (nI (20 * s + i)) (zaN w2) ∧ (¬ zaF w2 (nI (20 * s + i)).toNatClampNeg = 0 → _) ∧ (zaF w2 (nI (20 * s + i)).toNatClampNeg = 0 → vp_in (nI (20 * s + i)) (iaN X.2.2.2.2.2.2.1) ∧ (0 ≤ iaF X.2.2.2.2.2.2.1 (nI (20 * s + i)).toNatClampNeg → _) ∧ (¬ 0 ≤ iaF X.2.2.2.2.2.2.1 (nI (20 * s + i)).toNatClampNeg → _))
              rw [hE.1, sz7, nI_clamp (by omega), hz, y7]
              exact ⟨vp_in_nI (by omega) (by decide), fun y => absurd rfl y, fun _ => ⟨vp_in_nI (by omega) (by decide), fun y => absurd y (by decide), fun _ => ob q w0' w1' c1 c3⟩⟩
            | some q =>
              obtain ⟨t1, t2, t3, t4, t5⟩ := fB_TS hg hi hf
              have hq := t1.1
              have ech : chO k t n w V (some i) = chN k t n w (vS V i) q := by unfold chO; simp only [hf, hv, Bool.false_eq_true, if_false]
              rw [ech] at h
              rw [hf] at y7
              have hcc := cN_set hv (aC k t n) hi
              have hst2 := hstp i q hi hv hf
              refine fun w0' w1' c1 c2 c3 => ⟨fun y => absurd y neg, fun _ => ?_⟩
              show vp_in (nI (20 * s + i)) (zaN w2) ∧ (¬ zaF w2 (nI (20 * s + i)).toNatClampNeg = 0 → _) ∧ (zaF w2 (nI (20 * s + i)).toNatClampNeg = 0 → vp_in (nI (20 * s + i)) (iaN X.2.2.2.2.2.2.1) ∧ (0 ≤ iaF X.2.2.2.2.2.2.1 (nI (20 * s + i)).toNatClampNeg → vp_in (nI (20 * s + i)) (zaN w2) ∧ vp_in (nI (20 * s + i)) (iaN X.2.2.2.2.2.2.1) ∧ w_M_resolve_0 post X.1 X.2.1 X.2.2.1 x5 X.2.2.2.2.1 X.2.2.2.2.2.1 X.2.2.2.2.2.2.1 X.2.2.2.2.2.2.2.2 f (moN w0', moM w0', moT w0', moW w0', nI s, iaF X.2.2.2.2.2.2.1 (nI (20 * s + i)).toNatClampNeg, moI w0') w1' (zaN w2, upd (zaF w2) (nI (20 * s + i)).toNatClampNeg (vp_nar .boolean 1))) ∧ (¬ 0 ≤ iaF X.2.2.2.2.2.2.1 (nI (20 * s + i)).toNatClampNeg → _))
              rw [hE.1, sz7, nI_clamp (by omega), hz, y7, nar_bv.1]
              refine ⟨vp_in_nI (by omega) (by decide), fun y => absurd rfl y, fun _ => ⟨vp_in_nI (by omega) (by decide), fun _ => ⟨vp_in_nI (by omega) (by decide), vp_in_nI (by omega) (by decide), ih (vS V i) q (moN w0', moM w0', moT w0', moW w0', nI s, nI q, moI w0') w1' (500, upd (zaF w2) (20 * s + i) 1) _ t1 (by omega) c2 (hM.tr c1) rfl rfl c3 ⟨rfl, fun i2 hi2 => ?_⟩ (by rw [hlen1]; omega) h f hf2⟩, fun y => absurd (nI_pos' (by omega)) y⟩⟩
              show upd (zaF w2) (20 * s + i) 1 (20 * s + i2) = _
              unfold vS
              by_cases e : i2 = i
              · rw [e, pk_us, if_pos rfl]; rfl
              · rw [pk_un (by omega), if_neg e]; exact hE.2 i2 hi2
      intro w0' w1' c1 c2 c3 c4 c5
      rw [← c2] at hI
      show wb_M_resolve_0 post X.1 X.2.1 X.2.2.1 x5 X.2.2.2.2.1 X.2.2.2.2.2.1 X.2.2.2.2.2.2.1 X.2.2.2.2.2.2.2.2 (w_M_resolve_0 post X.1 X.2.1 X.2.2.1 x5 X.2.2.2.2.1 X.2.2.2.2.2.1 X.2.2.2.2.2.2.1 X.2.2.2.2.2.2.2.2 f) w0' w1' w2
      unfold wb_M_resolve_0 w_M_resolve_32 w_M_resolve_131
      rw [c3, c4, h5, nI_clamp (by omega)]
      have rl := fun (P : Int32 → Prop) (hP : P (nI 2)) => hX.role (u := w0') (post := P) hn (show b < 2 ^ 20 by omega) (by rw [e2]; exact hP)
      refine rl _ (b_eq' (k := 2) (by decide) (by decide) (fun _ => rl _ (b_eq (k := 3) (by decide) (by decide) (fun z => absurd z (by decide)) (fun _ => q_param hX hg hX hg (by omega) ?_))) (fun z => absurd rfl z))
      have K := key w0' w1' c1 hI c5
      cases hp : pF k t n t (b + 1) (nE k t n 7 (b + 1)) with
      | none =>
        rw [hp] at K
        refine ⟨fun y => absurd y (show ¬ (0 : Int32) ≤ -1 by decide), fun _ => ⟨fun _ => K, fun y => ⟨vp_in_nI hs25 (by decide), ?_⟩⟩⟩
        rcases hI with q | ⟨q1, q2⟩
        · rw [q] at y; exact absurd y (by decide)
        · rw [q2]
          unfold wp_M_param
          refine ⟨fun y => absurd y (by decide), fun _ => ⟨fun _ => ⟨nar_b0, ?_⟩, fun y => absurd (by decide) y⟩⟩
          exact ⟨fun _ => q_obj (u0 := u0) ⟨(hM.tr c1).1, (hM.tr c1).2.1, (hM.tr c1).2.2⟩ hE.1 c5 (by rw [hlen1]; omega) (by rw [hp] at h; exact h), fun y => absurd (by decide) y⟩
      | some i =>
        rw [hp] at K
        have hi := (pF_lt hp).1
        exact ⟨fun _ => K, fun y => absurd (nI_pos' (by omega)) y⟩
    · rw [if_pos e6] at h
      intro w0' w1' c1 c2 c3 c4 c5
      have rb : aR k t b = 9 ∨ aR k t b = 20 ∨ aR k t b = 21 := by omega
      show wb_M_resolve_0 post X.1 X.2.1 X.2.2.1 x5 X.2.2.2.2.1 X.2.2.2.2.2.1 X.2.2.2.2.2.2.1 X.2.2.2.2.2.2.2.2 (w_M_resolve_0 post X.1 X.2.1 X.2.2.1 x5 X.2.2.2.2.1 X.2.2.2.2.2.1 X.2.2.2.2.2.2.1 X.2.2.2.2.2.2.2.2 f) w0' w1' w2
      unfold wb_M_resolve_0
      rw [c3, c4]
      have rl := fun (P : Int32 → Prop) (hP : P (nI (pTr (aR k t b) (gL t n b)))) => hX.role (u := w0') (post := P) hn (show b < 2 ^ 20 by omega) (by rw [gR_in b2]; exact hP)
      exact rl _ (b_eq' (k := 2) (by omega) (by decide) (fun z => absurd (i2.mp z) e6) (fun _ => rl _ (b_eq (k := 3) (by omega) (by decide) (fun z => by have := i3.mp z; omega) (fun _ => h.2 k t n s b [] w0' w1' w2 hX hg hT rb rfl (hM.tr c1) c3 c4 hE.1 (by rw [List.append_nil]; exact c5)))))
