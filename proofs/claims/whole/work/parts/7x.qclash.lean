/-! clash: the reference -/
theorem its_fuel {k : Nat} {t : Nat → Nat} {n : Nat} {sc : Sc} (hg : Gd k t n) (hk : k = 1) : ∀ w w' j, Bp k t n j → n - j < w → n - j < w' → its k t n sc w j = its k t n sc w' j
  | 0, _, _, _, h, _ => absurd h (Nat.not_lt_zero _)
  | w + 1, 0, _, _, _, h => absurd h (Nat.not_lt_zero _)
  | w + 1, w' + 1, j, hb, h1, h2 => by
    have hj := Bp_lt hg hk hb
    unfold its
    by_cases r23 : aR k t j = 23
    · rw [if_pos r23, if_pos r23]
    · obtain ⟨hs, h21, hb2, hlt⟩ := Bp_next hg hk hb r23
      rw [if_neg r23, if_neg r23, its_fuel hg hk w w' _ hb2 (by omega) (by omega)]
theorem eA_true {k : Nat} {t : Nat → Nat} {n : Nat} {sc : Sc} (hg : Gd k t n) (hk : k = 1) : eA k t n sc true (n + 1) (aO k t n) = 40 :: (its k t n sc (n + 1) (aO k t n + 1)).flatten := by
  obtain ⟨o1, o2, o3⟩ := Bp_0 hg hk
  have c := st_all (fun k l x dp c r => if r = 22 then c == 40 else true) (by decide +kernel) hg o1
  rw [if_pos o2] at c
  have c40 : t (aO k t n) = 40 := by simpa using c
  unfold eA
  rw [if_pos o1, if_neg (by omega), if_pos (Or.inl o2), c40, its_flat hg hk _ _ o3, its_fuel hg hk n (n + 1) _ o3 (by omega) (by omega)]
theorem flat_lt {L : List (List Nat)} (h : ∀ e ∈ L, ∀ c ∈ e, c < 128) : ∀ c ∈ L.flatten, c < 128 := by
  intro c hc
  rw [List.mem_flatten] at hc
  obtain ⟨e, he, hc2⟩ := hc
  exact h e he c hc2
theorem its_lt {k : Nat} {t : Nat → Nat} {n : Nat} {sc : Sc} (hg : Gd k t n) (hsc : ScG sc) (hk : k = 1) : ∀ w j, Bp k t n j → ∀ e ∈ its k t n sc w j, ∀ c ∈ e, c < 128
  | 0, _, _, e, he => by simp [its] at he
  | w + 1, j, h, e, he => by
    unfold its at he
    by_cases r23 : aR k t j = 23
    · rw [if_pos r23] at he; simp at he
    · obtain ⟨hs, h21, hb, hlt⟩ := Bp_next hg hk h r23
      rw [if_neg r23, List.mem_cons] at he
      rcases he with rfl | he
      · exact eT_lt hg hsc hs
      · exact its_lt hg hsc hk w _ hb e he
theorem getD_lt {L : List Nat} (h : ∀ c ∈ L, c < 128) (i : Nat) : L.getD i 0 < 128 := by
  rw [List.getD_eq_getElem?_getD]
  cases e : L[i]? with
  | none => show 0 < 128; omega
  | some c => exact h c (List.mem_of_getElem? e)
theorem ext_getD {A B : List Nat} (e : A.length = B.length) (z : ∀ i, i < A.length → A.getD i 0 = B.getD i 0) : A = B := by
  apply List.ext_getElem e
  intro i p1 p2
  have := z i p1
  rw [List.getD_eq_getElem?_getD, List.getD_eq_getElem?_getD, List.getElem?_eq_getElem p1, List.getElem?_eq_getElem p2] at this
  exact this
theorem q_clash {post : Int32 → (MoC × IaC × IaC × ZaC) → Prop} {u : MoC} {X : XA} {x5 o p : IaC} {m : ZaC} {k k' : Nat} {t t' : Nat → Nat} {n n' a b M : Nat} {sc sc' : Sc} (hM : moM u = nI M) (hM2 : M ≤ 24) (ha : a < M) (hb : b < M) (hXa : XI X k t n a) (ga : Gd k t n) (hXb : XI X k' t' n' b) (gb : Gd k' t' n') (h5 : iaN x5 = 25) (hsc : ScQ X x5 a sc) (hsg : ScG sc) (hsc' : ScQ X x5 b sc') (hsg' : ScG sc') (hk : k = 1) (hk' : k' = 1) (ho : iaN o = 5000) (hp : iaN p = 5000) (hm : zaN m = 500)
    (h : ∀ u' o' p' m', moN u' = moN u → moM u' = moM u → iaN o' = 5000 → iaN p' = 5000 → zaN m' = 500 → post (cS k t n sc k' t' n' sc') (u', o', p', m')) :
    wp_M_clash post u X.1 X.2.1 X.2.2.1 X.2.2.2.1 x5 X.2.2.2.2.1 X.2.2.2.2.2.1 X.2.2.2.2.2.2.1 X.2.2.2.2.2.2.2.2 o p m (nI a) (nI b) := by
  have hs25 := hXa.1
  have ka := hXa.2.2.2.2.2.2.2.2.2.2.2.1
  have kb := hXb.2.2.2.2.2.2.2.2.2.2.2.1
  unfold wp_M_clash
  rw [hXa.2.2.2.2.1, nI_clamp (by omega), nI_clamp (by omega), ka, kb]
  have eA1 := eA_true (sc := sc) ga hk
  have eA2 := eA_true (sc := sc') gb hk'
  obtain ⟨o1, o2, o3⟩ := Bp_0 ga hk
  obtain ⟨p1, p2, p3⟩ := Bp_0 gb hk'
  have lA : ∀ c ∈ eA k t n sc true (n + 1) (aO k t n), c < 128 := by
    rw [eA1]
    intro c hc
    rcases List.mem_cons.mp hc with q | q
    · omega
    · exact flat_lt (its_lt ga hsg hk _ _ o3) c q
  have lB : ∀ c ∈ eA k' t' n' sc' true (n' + 1) (aO k' t' n'), c < 128 := by
    rw [eA2]
    intro c hc
    rcases List.mem_cons.mp hc with q | q
    · omega
    · exact flat_lt (its_lt gb hsg' hk' _ _ p3) c q
  have len1 := Nat.le_trans (eA_len (sc := sc) (ins := true) ga hsg (n + 1) (aO k t n) (Bd_0 ga)) (rb_max ga (n + 1))
  have len2 := Nat.le_trans (eA_len (sc := sc') (ins := true) gb hsg' (n' + 1) (aO k' t' n') (Bd_0 gb)) (rb_max gb (n' + 1))
  have key : cS k t n sc k' t' n' sc' = if eA k t n sc true (n + 1) (aO k t n) = eA k' t' n' sc' true (n' + 1) (aO k' t' n') then 1 else 0 := by
    unfold cS
    by_cases e : its k t n sc (n + 1) (aO k t n + 1) = its k' t' n' sc' (n' + 1) (aO k' t' n' + 1)
    · rw [if_pos e, if_pos (by rw [eA1, eA2, e])]
    · rw [if_neg e, if_neg]
      intro z
      rw [eA1, eA2] at z
      exact e (ET_flat (its_ET ga hsg hk _ _ o3) (its_ET gb hsg' hk' _ _ p3) (List.cons.inj z).2)
  rw [key] at h
  have hv : vp_in (nI a) 25 := vp_in_nI (by omega) (by decide)
  have hv' : vp_in (nI b) 25 := vp_in_nI (by omega) (by decide)
  have k1 : nI k = 1 := by rw [hk]; rfl
  have k2 : nI k' = 1 := by rw [hk']; rfl
  rw [k1, k2]
  -- the comparison at the end
  have cmp : ∀ (w0 : MoC) (w1 w2 : IaC) (w3 : ZaC), moN w0 = moN u → moM w0 = moM u → zaN w3 = 500 → iaN w1 = 5000 → iaN w2 = 5000 → (eA k' t' n' sc' true (n' + 1) (aO k' t' n')).length = (eA k t n sc true (n + 1) (aO k t n)).length → (∀ i, i < (eA k' t' n' sc' true (n' + 1) (aO k' t' n')).length → iaF w1 i = nI ((eA k' t' n' sc' true (n' + 1) (aO k' t' n')).getD i 0)) → (∀ i, i < (eA k t n sc true (n + 1) (aO k t n)).length → iaF w2 i = nI ((eA k t n sc true (n + 1) (aO k t n)).getD i 0)) → ∃ f, w_M_clash_108 post X.1 X.2.1 X.2.2.1 X.2.2.2.1 x5 X.2.2.2.2.1 X.2.2.2.2.2.1 X.2.2.2.2.2.2.1 X.2.2.2.2.2.2.2.2 f (nI (eA k t n sc true (n + 1) (aO k t n)).length) 0 w0 w1 w2 w3 := by
    intro w0 w1 w2 w3 c1 c2 c3 c4 c5 c6 c7 c8
    generalize eA k t n sc true (n + 1) (aO k t n) = A at *
    generalize eA k' t' n' sc' true (n' + 1) (aO k' t' n') = B at *
    have fin := h w0 w1 w2 w3 c1 c2 c4 c5 c3
    have lp := lpN (n := A.length) (W := fun f i => (∀ j, j < i → A.getD j 0 = B.getD j 0) → w_M_clash_108 post X.1 X.2.1 X.2.2.1 X.2.2.2.1 x5 X.2.2.2.2.1 X.2.2.2.2.2.1 X.2.2.2.2.2.2.1 X.2.2.2.2.2.2.2.2 f (nI A.length) (nI i) w0 w1 w2 w3) (fun f q => ?_) (fun f i hi ih q => ?_) 0 (by omega)
    · obtain ⟨f, hf⟩ := lp
      exact ⟨f, hf (fun j hj => absurd hj (by omega))⟩
    · refine b_le (by omega) (by omega) (fun _ => ?_) (fun z => absurd z (by omega))
      rw [if_pos (ext_getD c6.symm q)] at fin
      exact fin
    · unfold w_M_clash_108 wb_M_clash_108
      refine b_le (by omega) (by omega) (fun z => absurd z (by omega)) (fun _ => ?_)
      rw [c4, c5, nI_clamp (by omega), c7 i (by omega), c8 i hi, nI_1]
      have g1 := getD_lt lA i
      have g2 := getD_lt lB i
      refine ⟨vp_in_nI (by omega) (by decide), vp_in_nI (by omega) (by decide), b_eq' (by omega) (by omega) (fun e => ih (fun j hj => ?_)) (fun e => ?_)⟩
      · rcases Nat.lt_succ_iff_lt_or_eq.mp hj with w | w
        · exact q j w
        · rw [w]; exact e
      · rw [if_neg (fun z => e (by rw [z]))] at fin
        exact fin
  refine q_noY hM hM2 ha ⟨fun z => absurd rfl z, fun _ => q_noY hM hM2 hb ⟨fun z => absurd rfl z, fun _ => ⟨hv, fun z => absurd rfl z, fun _ => ⟨hv', fun _ => ?_, fun z => absurd rfl z⟩⟩⟩⟩
  have E1 := q_eraseAll (u := (moN u, moM u, moT u, 0, moG u, moS u, moI u)) (o := o) (m := m) (x5 := x5) (post := fun v8 => (∃ f, w_M_clash_58 post X.1 X.2.1 X.2.2.1 X.2.2.2.1 x5 X.2.2.2.2.1 X.2.2.2.2.2.1 X.2.2.2.2.2.2.1 X.2.2.2.2.2.2.2.2 f (nI b) (moW v8.1) 0 v8.1 v8.2.1 p v8.2.2)) true hXa ga h5 hsc hsg hm ⟨rfl, ho, fun i hi => absurd hi (Nat.not_lt_zero _)⟩ (fun w0 w1 w2 c1 c2 c3 => ?_)
  · exact E1
  · obtain ⟨d1, d2, d3⟩ := c3
    dsimp only
    rw [d1]
    -- the copy
    have lp := lpI (n := (eA k t n sc true (n + 1) (aO k t n)).length) (α := Nat × IaC) (W := fun f q => w_M_clash_58 post X.1 X.2.1 X.2.2.1 X.2.2.2.1 x5 X.2.2.2.2.1 X.2.2.2.2.2.1 X.2.2.2.2.2.2.1 X.2.2.2.2.2.2.2.2 f (nI b) (nI (eA k t n sc true (n + 1) (aO k t n)).length) (nI q.1) w0 w1 q.2 w2) (I := fun j q => q.1 = j ∧ iaN q.2 = 5000 ∧ ∀ i, i < j → iaF q.2 i = nI ((eA k t n sc true (n + 1) (aO k t n)).getD i 0)) (fun f q hI => ?_) (fun f j q hj hI ih => ?_) 0 (0, p) (by omega) ⟨rfl, hp, fun i hi => absurd hi (by omega)⟩
    · exact lp
    · obtain ⟨j, q2⟩ := q
      obtain ⟨e1, e2, e3⟩ := hI
      dsimp only at e1 e2 e3 ⊢
      subst e1
      refine b_le (by omega) (by omega) (fun _ => ?_) (fun z => absurd z (by omega))
      have E2 := q_eraseAll (u := (moN w0, moM w0, moT w0, 0, moG w0, moS w0, moI w0)) (o := w1) (m := w2) (x5 := x5) (post := fun v5 => (((moW v5.1) = nI (eA k t n sc true (n + 1) (aO k t n)).length → (∃ f, w_M_clash_108 post X.1 X.2.1 X.2.2.1 X.2.2.2.1 x5 X.2.2.2.2.1 X.2.2.2.2.2.1 X.2.2.2.2.2.2.1 X.2.2.2.2.2.2.2.2 f (nI (eA k t n sc true (n + 1) (aO k t n)).length) 0 v5.1 v5.2.1 q2 v5.2.2)) ∧ (¬ (moW v5.1) = nI (eA k t n sc true (n + 1) (aO k t n)).length → post 0 (v5.1, v5.2.1, q2, v5.2.2)))) true hXb gb h5 hsc' hsg' c2 ⟨rfl, d2, fun i hi => absurd hi (Nat.not_lt_zero _)⟩ (fun v0 v1 v2 g1 g2 g3 => ?_)
      · exact E2
      · obtain ⟨h1, h2, h3⟩ := g3
        dsimp only
        rw [h1]
        have n1 : moN v0 = moN u := g1.1.trans c1.1
        have n2 : moM v0 = moM u := g1.2.1.trans c1.2.1
        refine b_eq' (by omega) (by omega) (fun e => cmp v0 v1 q2 v2 n1 n2 g2 h2 e2 e h3 e3) (fun e => ?_)
        have fin := h v0 v1 q2 v2 n1 n2 h2 e2 g2
        rw [if_neg (fun z => e (by rw [z]))] at fin
        exact fin
    · obtain ⟨j2, q2⟩ := q
      obtain ⟨e1, e2, e3⟩ := hI
      dsimp only at e1 e2 e3 ⊢
      subst e1
      refine b_le (by omega) (by omega) (fun z => absurd z (by omega)) (fun _ => ?_)
      rw [d2, e2, nI_clamp (by omega), nI_1, d3 j2 hj]
      refine ⟨vp_in_nI (by omega) (by decide), vp_in_nI (by omega) (by decide), ih (j2 + 1, 5000, upd (iaF q2) j2 (nI ((eA k t n sc true (n + 1) (aO k t n)).getD j2 0))) ⟨rfl, rfl, fun i hi => ?_⟩⟩
      show upd (iaF q2) j2 _ i = _
      by_cases w : i = j2
      · rw [w, pk_us]
      · rw [pk_un w]; exact e3 i (by omega)
