/-! ERASED, whole -/
theorem bnd_row {k : Nat} {t : Nat → Nat} {n j : Nat} (hg : Gd k t n) (hs : TS k t n j) (hj : aO k t n ≤ j) : bnd k t n 125 nV j ≤ 260 := by
  have hn := hg.2.1
  have a := tE_sp hg hs
  have : bnd k t n 125 nV j ≤ (tE k t n j + 1 - j) + (ph nV (wd k t n) (aC k t n) + 125) := by unfold bnd; split <;> omega
  have hp := ph_all hg
  have e : ph nV (wd k t n) (aC k t n) = ph (fun _ => false) (wd k t n) (aC k t n) := rfl
  omega
theorem r_eraseN0 {post : RowC → Prop} {u : SgC} {r : RowC} {k : Nat} {t : Nat → Nat} {n j : Nat} (hu : SgI u k t n) (hg : Gd k t n) (hs : TS k t n j) (hj : aO k t n ≤ j) (hr : rwN r = 260) (h : ∀ r', RwI r' 260 (eT k t n none j) → post r') : wp_Er_eraseN post r u (nI j) := by
  have hc : cN nV (aC k t n) < 21 := by have := cN_le nV (aC k t n); have := hg.2.2.2.2.2; omega
  have hb := bnd_row hg hs hj
  have hb2 := bnd_mono (k := k) (t := t) (n := n) (V := nV) (j := j) (show 15 ≤ 125 by decide)
  exact ⟨21, r_eraseN hu hg (by decide) 21 nV j 0 0 _ [] hs hc BM_0 (by decide) ⟨hr, rfl, by simp, fun i hi => absurd hi (Nat.not_lt_zero _)⟩ (by simp; omega) (fun r' hr' => h r' hr')⟩
theorem r_eraseS0 {post : RowC → Prop} {u u' : SgC} {r : RowC} {k k' : Nat} {t t' : Nat → Nat} {n n' j : Nat} (hu : SgI u k t n) (hg : Gd k t n) (hu' : SgI u' k' t' n') (hg' : Gd k' t' n') (hk' : k' = 0) (hs : TS k t n j) (hj : aO k t n ≤ j) (hr : rwN r = 260) (h : ∀ r', RwI r' 260 (eT k t n (some (k', t', n')) j) → post r') : wp_Er_erase post r u u' (nI j) := by
  have hc : cN nV (aC k t n) < 21 := by have := cN_le nV (aC k t n); have := hg.2.2.2.2.2; omega
  have hb := bnd_row hg hs hj
  exact ⟨21, r_eraseS hu hg hu' hg' hk' (by decide) 21 nV j 0 0 _ [] hs hc BM_0 (by decide) ⟨hr, rfl, by simp, fun i hi => absurd hi (Nat.not_lt_zero _)⟩ (by simp; omega) (fun r' hr' => h r' hr')⟩
theorem eA_len {k : Nat} {t : Nat → Nat} {n : Nat} {sc : Sc} {ins : Bool} (hg : Gd k t n) (hsc : ScG sc) : ∀ w j, Bd k t n j → (eA k t n sc ins w j).length ≤ rb k t n w j
  | 0, _, _ => Nat.zero_le _
  | w + 1, j, hb => by
    unfold eA rb
    by_cases hj : j < n
    · rw [if_pos hj, if_pos hj]
      by_cases r24 : aR k t j = 24
      · rw [if_pos (Or.inl r24)]; exact Nat.zero_le _
      · rw [if_neg r24]
        by_cases c : ins = true ∧ aR k t j = 23
        · rw [if_pos (Or.inr c)]; exact Nat.zero_le _
        · rw [if_neg (fun z => z.elim r24 c)]
          by_cases r22 : aR k t j = 22 ∨ aR k t j = 23
          · rw [if_pos r22, if_pos r22]
            have ih := eA_len (sc := sc) (ins := ins) hg hsc w (j + 1) (Bd_sign hb hj r22)
            rw [List.length_cons]; omega
          · rw [if_neg r22, if_neg r22]
            have hs : TS k t n j := by
              rcases Bd_role hg hb hj with q | q | q | q
              · omega
              · omega
              · omega
              · exact q
            have ih := eA_len (sc := sc) (ins := ins) hg hsc w _ (Bd_type hg hb hs).1
            have := eT_len hg hsc hs
            rw [List.length_append]; omega
    · rw [if_neg hj]; exact Nat.zero_le _
/-- one TYPE's erasure by the class, whatever its scope -/
def ErP (E : (RowC → Prop) → RowC → Int32 → Prop) (k : Nat) (t : Nat → Nat) (n : Nat) (sc : Sc) : Prop := ∀ (post : RowC → Prop) (r : RowC) (j : Nat), TS k t n j → aO k t n ≤ j → rwN r = 260 → (∀ r', RwI r' 260 (eT k t n sc j) → post r') → E post r (nI j)
/-- the class lets the erased body pass: the loop, over any eraser -/
theorem r_pass_loop {post : (SkC × RowC) → Prop} {u : SgC} {k : Nat} {t : Nat → Nat} {n : Nat} {sc : Sc} {E : (RowC → Prop) → RowC → Int32 → Prop} {W : Nat → Int32 → Int32 → SkC → RowC → Prop} {g : Int32} (hu : SgI u k t n) (hg : Gd k t n) (hsc : ScG sc) (hE : ErP E k t n sc) (hgw : g = -1 ∨ ∃ i, i < 2 ^ 31 ∧ g = nI i)
    (hW : ∀ f y3 y4 w0 w1, ((Int32.ofNat (sgN u) ≤ y4 → post (w0, w1)) ∧ (¬ Int32.ofNat (sgN u) ≤ y4 → wp_Sg_roleAt (fun r10 => ((¬ r10 = (24 : Int32) → ((r10 = (22 : Int32) → wp_Sg_letterAt (fun r8 => wp_Sk_pass (fun v9 => W f (y4 + 1) (y4 + 1) v9 w1) w0 r8) u y4) ∧ (¬ r10 = (22 : Int32) → ((¬ r10 = (23 : Int32) → ((¬ y4 = y3 → W f y3 (y4 + 1) w0 w1) ∧ (y4 = y3 → E (fun v11 => wp_Sk_passRow (fun v12 => wp_Sg_behindType (fun r13 => W f r13 (y4 + 1) v12 v11) u y4) w0 (rwN v11, rwF v11) (rwS v11)) w1 y4))) ∧ (r10 = (23 : Int32) → wp_Sg_letterAt (fun r8 => wp_Sk_pass (fun v9 => W f (y4 + 1) (y4 + 1) v9 w1) w0 r8) u y4))))) ∧ (r10 = (24 : Int32) → post (w0, w1)))) u y4)) → W (f + 1) y3 y4 w0 w1)
    (h : ∀ w0 w1, rwN w1 = 260 → SkI w0 g (eA k t n sc false (n + 1) (aO k t n)) → post (w0, w1)) {w0 : SkC} {w1 : RowC} (h0 : SkI w0 g []) (h1 : rwN w1 = 260) : ∃ f, W f (nI (aO k t n)) (nI (aO k t n)) w0 w1 := by
  have hn := hg.2.1
  have hmax := rb_max hg (n + 1)
  have htot := eA_len (sc := sc) (ins := false) hg hsc (n + 1) (aO k t n) (Bd_0 hg)
  generalize hT : eA k t n sc false (n + 1) (aO k t n) = T at *
  have main : ∀ m p, n - p = m → ∀ (x : Nat) (v0 : SkC) (v1 : RowC) (L : List Nat) (w : Nat), p ≤ x → p ≤ n → Bd k t n x → (∀ i, p ≤ i → i < x → aR k t i ≠ 22 ∧ aR k t i ≠ 23 ∧ aR k t i ≠ 24) → n - x < w → L ++ eA k t n sc false w x = T → SkI v0 g L → rwN v1 = 260 → W (m + 1) (nI x) (nI p) v0 v1 := by
    intro m
    induction m with
    | zero =>
      intro p hp x v0 v1 L w h2 h3 h4 h5 h6 h7 h8 h9
      refine hW 0 _ _ _ _ ?_
      rw [hu.2.1, ofN]
      refine b_le (by omega) (by omega) (fun _ => h v0 v1 h9 ?_) (fun z => absurd z (by omega))
      have hx : ¬ x < n := by omega
      cases w with
      | zero => omega
      | succ w =>
        unfold eA at h7
        rw [if_neg hx, List.append_nil] at h7
        rw [← h7]; exact h8
    | succ m ih =>
      intro p hp x v0 v1 L w h2 h3 h4 h5 h6 h7 h8 h9
      refine hW _ _ _ _ _ ?_
      have hpn : p < n := by omega
      have hxn := h4.2.1
      rw [hu.2.1, ofN]
      have hr := aR_lt k t p
      have hLl : L.length ≤ 5000 := by have := congrArg List.length h7; rw [List.length_append] at this; omega
      refine b_le (by omega) (by omega) (fun z => absurd z (by omega)) (fun _ => r_roleAt hu hn (by omega) ?_)
      rw [gR_in hpn, nI_1]
      rcases Nat.eq_or_lt_of_le h2 with e | e
      · subst e
        obtain ⟨w', rfl⟩ : ∃ w', w = w' + 1 := ⟨w - 1, by omega⟩
        unfold eA at h7
        rw [if_pos hpn] at h7
        refine b_eq (k := 24) (by omega) (by decide) (fun e24 => ?_) (fun n24 => ?_)
        · rw [if_pos (Or.inl e24), List.append_nil] at h7
          exact h v0 v1 h9 (by rw [← h7]; exact h8)
        · rw [if_neg (fun z => z.elim n24 (fun y => by cases y.1))] at h7
          have sgn : (aR k t p = 22 ∨ aR k t p = 23) → wp_Sg_letterAt (fun r8 => wp_Sk_pass (fun v9 => W (m + 1) (nI (p + 1)) (nI (p + 1)) v9 v1) v0 r8) u (nI p) := by
            intro r
            rw [if_pos r] at h7
            refine r_letterAt hu hg (by omega) ?_
            rw [gL_in hpn]
            refine r_pass h8 (by omega) (fun v' hv' => ih (p + 1) (by omega) (p + 1) v' v1 (L ++ [t p]) w' (Nat.le_refl _) (by omega) (Bd_sign h4 hpn r) (fun i a b => absurd b (by omega)) (by omega) (by rw [← h7, List.append_assoc]; rfl) hv' h9)
          refine b_eq' (k := 22) (by omega) (by decide) (fun e22 => sgn (Or.inl e22)) (fun n22 => b_eq (k := 23) (by omega) (by decide) (fun e23 => sgn (Or.inr e23)) (fun n23 => ⟨fun z => absurd rfl z, fun _ => ?_⟩))
          rw [if_neg (by omega)] at h7
          have hs : TS k t n p := by
            rcases Bd_role hg h4 hpn with q | q | q | q
            · omega
            · omega
            · omega
            · exact q
          obtain ⟨hb2, hlt⟩ := Bd_type hg h4 hs
          have hel := eT_len hg hsc hs
          have hbr := bnd_row hg hs h4.1
          refine hE _ v1 p hs h4.1 h9 (fun r' hr' => ?_)
          obtain ⟨g1, g2, g3, g4⟩ := hr'
          rw [g2]
          refine r_passRow h8 (by omega) (by omega) hgw (show (eT k t n sc p).length ≤ rwN r' by rw [g1]; exact g3) (show rwN r' < 2 ^ 20 by rw [g1]; decide) g4 (fun v' hv' => r_behindType hu hg hs ?_)
          refine ih (p + 1) (by omega) (tE k t n p + 1) v' r' (L ++ eT k t n sc p) w' (by omega) (by omega) hb2 (fun i a b => typ_roles2 hg hs (by omega) (by omega)) (by omega) (by rw [← h7, List.append_assoc]) hv' g1
      · have hq := h5 p (Nat.le_refl _) e
        refine b_eq (k := 24) (by omega) (by decide) (fun e => absurd e hq.2.2) (fun _ => b_eq' (k := 22) (by omega) (by decide) (fun e => absurd e hq.1) (fun _ => b_eq (k := 23) (by omega) (by decide) (fun e => absurd e hq.2.1) (fun _ => b_eq (by omega) (by omega) (fun e => by omega) (fun _ => ?_))))
        exact ih (p + 1) (by omega) x v0 v1 L w (by omega) (by omega) h4 (fun i a b => h5 i (by omega) b) h6 h7 h8 h9
  exact ⟨_, main _ (aO k t n) rfl (aO k t n) w0 w1 [] (n + 1) (Nat.le_refl _) (aO_le k t n) (Bd_0 hg) (fun i a b => absurd b (by omega)) (by omega) hT h0 h1⟩
theorem r_passErased0 {post : (SkC × RowC) → Prop} {u0 : FoC} {v : MaC} {u : SgC} {M : Nat} {ad : Nat → Nat} {k : Nat} {t : Nat → Nat} {n : Nat} {g : Int32} {w0 : SkC} {w1 : RowC} (hF : FoI u0 v M ad) (hP : noX (sgP u) M) (hu : SgI u k t n) (hg : Gd k t n) (hgw : g = -1 ∨ ∃ i, i < 2 ^ 31 ∧ g = nI i) (h0 : SkI w0 g []) (h1 : rwN w1 = 260)
    (h : ∀ w0 w1, rwN w1 = 260 → SkI w0 g (eA k t n none false (n + 1) (aO k t n)) → post (w0, w1)) : wp_F_seek_passErased0 post u0 u w0 w1 v := by
  unfold wp_F_seek_passErased0
  refine r_findN hF hP ⟨rfl, ?_⟩
  rw [hu.2.2.2.2.2.2]
  exact r_pass_loop (sc := none) (E := fun post r j => wp_Er_eraseN post r u j) (W := w_F_seek_passErased0_17 post u0 u v) hu hg trivial (fun post r j a b c d => r_eraseN0 hu hg a b c d) hgw (fun f y3 y4 w0 w1 z => z) h h0 h1
theorem r_passErased1 {post : (SkC × RowC) → Prop} {u0 : FoC} {v : MaC} {u u' : SgC} {M : Nat} {ad : Nat → Nat} {k k' : Nat} {t t' : Nat → Nat} {n n' s' : Nat} {g : Int32} {w0 : SkC} {w1 : RowC} (hF : FoI u0 v M ad) (hs' : s' < M) (hP : sgP u = nI s') (hu : SgI u k t n) (hg : Gd k t n) (hu' : SgI u' k' t' n') (hg' : Gd k' t' n') (hk' : k' = 0) (hgw : g = -1 ∨ ∃ i, i < 2 ^ 31 ∧ g = nI i) (h0 : SkI w0 g []) (h1 : rwN w1 = 260)
    (h : ∀ w0 w1, rwN w1 = 260 → SkI w0 g (eA k t n (some (k', t', n')) false (n + 1) (aO k t n)) → post (w0, w1)) : wp_F_seek_passErased1 post u0 u w0 w1 v u' (ad s') := by
  unfold wp_F_seek_passErased1
  rw [hP]
  refine r_findY hF hs' ⟨rfl, ?_⟩
  rw [hu.2.2.2.2.2.2]
  exact r_pass_loop (sc := some (k', t', n')) (E := fun post r j => wp_Er_erase post r u u' j) (W := w_F_seek_passErased1_17 post u0 u v u' (ad s')) hu hg ⟨hg', hk'⟩ (fun post r j a b c d => r_eraseS0 hu hg hu' hg' hk' a b c d) hgw (fun f y3 y4 w0 w1 z => z) h h0 h1
/-! the reference -/
theorem q_bodyStart {post : Int32 → Prop} {u : MoC} {X : XA} {k : Nat} {t : Nat → Nat} {n s : Nat} (hX : XI X k t n s) (hg : Gd k t n) (h : post (nI (aO k t n))) : wp_M_bodyStart post u X.2.1 X.2.2.1 X.2.2.2.2.2.2.2.2 (nI s) := by
  unfold wp_M_bodyStart
  have hn := hg.2.1
  have hs := hX.1
  have hc := hg.2.2.2.2.2
  have y5 := hX.2.2.2.2.2.2.2.2.2.2.2.2.2.2.1
  have x9 := hX.2.2.2.2.2.2.2.2.2.1
  rw [x9, nI_clamp (by omega), y5]
  refine ⟨vp_in_nI hs (by decide), b_le (a := 0) (by decide) (by omega) (fun z => ?_) (fun z => ?_)⟩
  · unfold w_M_bodyStart_28
    rw [x9, nI_clamp (by omega), y5]
    rw [(O_0 hg (by omega)).1] at h
    exact ⟨vp_in_nI hs (by decide), b_le (a := 0) (by decide) (by omega) (fun _ => h) (fun z => absurd z (by omega))⟩
  · obtain ⟨o1, o2, o3, o4, o5⟩ := O_1 hg z
    refine lpN (n := aO k t n - 1) (W := fun f j => w_M_bodyStart_11 post u X.2.1 X.2.2.1 X.2.2.2.2.2.2.2.2 f (nI s) (nI j)) (fun f => ?_) (fun f j hj ih => ?_) 0 (by omega)
    · refine hX.role hn (by omega) ?_
      rw [gR_in (by omega), show pTr (aR k t (aO k t n - 1)) (gL t n (aO k t n - 1)) = 20 from (pTr_is 20 5 (aR_lt k t _) (by decide)).mpr o3]
      refine b_eq' (k := 20) (by decide) (by decide) (fun _ => ?_) (fun z => absurd rfl z)
      unfold w_M_bodyStart_28
      rw [x9, nI_clamp (by omega), y5, nI_1, show aO k t n - 1 + 1 = aO k t n by omega]
      exact ⟨vp_in_nI hs (by decide), b_le (a := 0) (by decide) (by omega) (fun z => absurd z (by omega)) (fun _ => h)⟩
    · refine hX.role hn (by omega) ?_
      rw [gR_in (by omega)]
      have hr := aR_lt k t j
      have := pTr_lt (aR k t j) (gL t n j)
      refine b_eq' (k := 20) (by omega) (by decide) (fun e => ?_) (fun _ => ?_)
      · have := o4 j (by omega) ((pTr_is 20 5 hr (by decide)).mp e)
        omega
      · rw [nI_1]; exact ih
theorem q_eraseAll {post : (MoC × IaC × ZaC) → Prop} {u : MoC} {X : XA} {x5 : IaC} {k : Nat} {t : Nat → Nat} {n s : Nat} {sc : Sc} {o : IaC} {m : ZaC} (ins : Bool) (hX : XI X k t n s) (hg : Gd k t n) (h5 : iaN x5 = 25) (hsc : ScQ X x5 s sc) (hsg : ScG sc) (hm : zaN m = 500) (hu : OuI u o [])
    (h : ∀ w0 w1 w2, MG u w0 → zaN w2 = 500 → OuI w0 w1 (eA k t n sc ins (n + 1) (aO k t n)) → post (w0, w1, w2)) : wp_M_eraseAll post u X.1 X.2.1 X.2.2.1 x5 X.2.2.2.2.1 X.2.2.2.2.2.1 X.2.2.2.2.2.2.1 X.2.2.2.2.2.2.2.2 o m (nI s) (if ins = true then 1 else 0) := by
  unfold wp_M_eraseAll
  have hn := hg.2.1
  have hs25 := hX.1
  refine q_bodyStart hX hg ?_
  have hmax := rb_max hg (n + 1)
  generalize hT : eA k t n sc ins (n + 1) (aO k t n) = T at *
  have main : ∀ w x (v0 : MoC) (v1 : IaC) (v2 : ZaC) (L : List Nat), Bd k t n x → n - x < w → L ++ eA k t n sc ins w x = T → L.length + rb k t n w x ≤ 5000 → MG u v0 → zaN v2 = 500 → OuI v0 v1 L → w_M_eraseAll_6 post X.1 X.2.1 X.2.2.1 x5 X.2.2.2.2.1 X.2.2.2.2.2.1 X.2.2.2.2.2.2.1 X.2.2.2.2.2.2.2.2 w (nI s) (if ins = true then 1 else 0) (nI x) v0 v1 v2 := by
    intro w
    induction w with
    | zero => intro x v0 v1 v2 L h1 h2; omega
    | succ w ih =>
      intro x v0 v1 v2 L h4 h6 h7 hlb h8 h9 h10
      have hxn := h4.2.1
      unfold w_M_eraseAll_6 wb_M_eraseAll_6
      rw [hX.2.2.2.1, nI_clamp (by omega), hX.2.2.2.2.2.2.2.2.2.2.1]
      unfold eA at h7
      unfold rb at hlb
      refine ⟨vp_in_nI hs25 (by decide), b_le (by omega) (by omega) (fun z => ?_) (fun z => hX.role hn (by omega) ?_)⟩
      · rw [if_neg (by omega), List.append_nil] at h7
        exact h v0 v1 v2 h8 h9 (by rw [← h7]; exact h10)
      · rw [if_pos z] at h7 hlb
        rw [gR_in z]
        have hr := aR_lt k t x
        have hp := pTr_lt (aR k t x) (gL t n x)
        have i24 := pTr_is (c := gL t n x) 24 24 hr (by decide)
        have i22 := pTr_is (c := gL t n x) 22 23 hr (by decide)
        refine b_eq' (k := 24) (by omega) (by decide) (fun e => ?_) (fun n24' => ?_)
        · rw [if_pos (Or.inl (i24.mp e)), List.append_nil] at h7
          exact h v0 v1 v2 h8 h9 (by rw [← h7]; exact h10)
        · have n24 : aR k t x ≠ 24 := fun w => n24' (i24.mpr w)
          rw [if_neg n24] at hlb
          have go : ¬ (ins = true ∧ aR k t x = 23) → w_M_eraseAll_43 post X.1 X.2.1 X.2.2.1 x5 X.2.2.2.2.1 X.2.2.2.2.2.1 X.2.2.2.2.2.2.1 X.2.2.2.2.2.2.2.2 (w_M_eraseAll_6 post X.1 X.2.1 X.2.2.1 x5 X.2.2.2.2.1 X.2.2.2.2.2.1 X.2.2.2.2.2.2.1 X.2.2.2.2.2.2.2.2 w) (nI s) (if ins = true then 1 else 0) (nI x) (nI (pTr (aR k t x) (gL t n x))) v0 v1 v2 := by
            intro nc
            rw [if_neg (fun z => z.elim n24 nc)] at h7
            have i21 : 21 ≤ pTr (aR k t x) (gL t n x) ↔ aR k t x = 22 ∨ aR k t x = 23 ∨ aR k t x = 21 ∨ aR k t x = 24 := by
              rw [pTr_b]
              have : ∀ r, r < 25 → ∀ b : Bool, (21 ≤ pTrb r b ↔ r = 22 ∨ r = 23 ∨ r = 21 ∨ r = 24) := by decide
              exact this _ hr _
            unfold w_M_eraseAll_43
            refine b_lt (q := 21) (by omega) (by decide) (fun y => ?_) (fun y => ?_)
            · have nr : ¬ (aR k t x = 22 ∨ aR k t x = 23 ∨ aR k t x = 21 ∨ aR k t x = 24) := fun w => by have := i21.mpr w; omega
              rw [if_neg (by omega)] at h7 hlb
              have hs : TS k t n x := by
                rcases Bd_role hg h4 z with q | q | q | q
                · omega
                · omega
                · omega
                · exact q
              obtain ⟨hb2, hlt⟩ := Bd_type hg h4 hs
              have hel := eT_len hg hsg hs
              refine q_erase hX hg h5 hsc hsg hs h9 h10 (by omega) (fun w0 w1 w2 c1 c2 c3 => q_behind hX hg hs (by omega) (ih (tE k t n x + 1) w0 w1 w2 (L ++ eT k t n sc x) hb2 (by omega) (by rw [← h7, List.append_assoc]) (by rw [List.length_append]; omega) (h8.tr c1) c2 c3))
            · refine q_at hX hn z ?_
              rw [nI_1]
              have rr := i21.mp y
              by_cases r22 : aR k t x = 22 ∨ aR k t x = 23
              · rw [if_pos r22] at h7 hlb
                exact q_put h10 (by omega) (fun u1 o1 m1 m2 => ih (x + 1) u1 o1 v2 (L ++ [t x]) (Bd_sign h4 z r22) (by omega) (by rw [← h7, List.append_assoc]; rfl) (by simp; omega) (h8.tr m1.mg) h9 m2)
              · rw [if_neg r22] at h7 hlb
                have r21 : aR k t x = 21 := by omega
                have hs : TS k t n x := ⟨z, by omega⟩
                obtain ⟨hb2, hlt⟩ := Bd_type hg h4 hs
                have hel := eT_len hg hsg hs
                obtain ⟨n1, n2⟩ := nl_one hg hs (Or.inr r21)
                have e : nE k t n 19 x = x := nE_stop (fun _ => by omega)
                have et : eT k t n sc x = [t x] := by
                  cases sc with
                  | none =>
                    show chN k t n (20 + 1) nV x = _
                    rw [chN_O, e, if_pos (by omega), n1, Nat.sub_self]; rfl
                  | some S =>
                    show chS k t n S.1 S.2.1 S.2.2 (20 + 1) nV x = _
                    unfold chS
                    rw [e, if_pos (by omega), n1, Nat.sub_self]; rfl
                rw [et, n2] at h7
                rw [et] at hel
                rw [n2] at hlb hb2
                rw [List.length_singleton] at hel
                exact q_put h10 (by omega) (fun u1 o1 m1 m2 => ih (x + 1) u1 o1 v2 (L ++ [t x]) hb2 (by omega) (by rw [← h7, List.append_assoc]) (by simp; omega) (h8.tr m1.mg) h9 m2)
          cases hi : ins with
          | false =>
            rw [hi] at go
            exact ⟨fun _ => go (fun w => by cases w.1), fun y => absurd rfl y⟩
          | true =>
            rw [hi] at go h7
            refine ⟨fun y => absurd y (show ¬ (1 : Int32) = 0 by decide), fun _ => b_eq (k := 22) (by omega) (by decide) (fun e => ?_) (fun e => go (fun w => e (i22.mpr w.2)))⟩
            rw [if_pos (Or.inr ⟨rfl, i22.mp e⟩), List.append_nil] at h7
            exact h v0 v1 v2 h8 h9 (by rw [← h7]; exact h10)
  have hb0 := Bd_0 hg
  exact ⟨n + 1, main (n + 1) (aO k t n) u o m [] hb0 (by omega) hT (by simpa using hmax) (MG.rf u) hm hu⟩
