/-! fill: the whole of how it reads; the class writes it -/
theorem fill_all {k : Nat} {t u tf : Nat → Nat} {n e nf nu : Nat} (hg : Gd k t n) (hf : Gd 2 tf nf) (he : e < aC k t n) (hA : At u 0 (fL k t n e tf nf 0)) (hnu : nu = (fL k t n e tf nf 0).length) : FR k u nu (aC k t n) 0 (eV k t n e tf 0) := by
  obtain ⟨q1, q2, q3⟩ := cFT hg he
  by_cases hm1 : aC k t n = 1
  · have ecF : cF k t n e = 0 := by unfold cF; rw [if_pos hm1]
    have ecT : cT k t n e = aO k t n := by unfold cT; rw [if_pos hm1]
    obtain ⟨o1, o2, o3, o4, o5⟩ := O_1 hg (show 0 < aC k t n by omega)
    have hlT : (aS k t (aO k t n)).1 = 5 := l_of (by omega) o3
    have hon : aO k t n < n := by
      rcases Nat.lt_or_ge (aO k t n) n with q | q
      · exact q
      · have := end_l hg
        have e1 : aO k t n = n := by omega
        rw [e1] at hlT
        omega
    rw [fL_cut (by omega) _ 0 rfl (by omega) (by omega), ecT] at hA hnu
    have hxT : (aS k t (aO k t n)).2.2 = 1 := (stX_of hg hon).2.2.2.2 hlT
    have hdT : (aS k t (aO k t n)).2.1 = 0 := by
      have h1 : aO k t n = (aO k t n - 1) + 1 := by omega
      rw [h1, dep_no (by omega) (by omega)]
      exact ((stX_of hg (p := aO k t n - 1) (by omega)).2.1 (Or.inl o3)).2
    have hk2 : k < 2 := by
      have hok := hg.ok (p := aO k t n) (by omega)
      rw [hlT] at hok
      simp [pOk] at hok
      omega
    have h0 := hg.r0 hon
    have hR : aR k t (aO k t n) = pBody k (t (aO k t n)) := by unfold aR; rw [hlT]; rfl
    have hC : aC k t (aO k t n) = 1 := by
      have h1 := pE_in hg he
      have e0 : e = 0 := by omega
      subst e0
      have h2 := aB_O hg he
      have h3 := (aC_B (q := aO k t n) he).mpr (by omega)
      have h4 := aC_mono (k := k) (t := t) (show aO k t n ≤ n by omega)
      omega
    have r2 : aR k t (aO k t n) ≠ 2 ∧ aR k t (aO k t n) ≠ 6 := by
      rw [hR]
      unfold pBody
      split
      · split <;> decide
      · split <;> decide
    have dn : dA k t n (aO k t n) ≠ some e := by
      unfold dA
      rw [gR_in hon, if_neg r2.2]
      simp
    rw [fL_copy hon (by omega) dn] at hA hnu
    obtain ⟨hc1, hA2⟩ := hA.cons
    rw [List.length_cons] at hnu
    have hRu : aR k u 0 = aR k t (aO k t n) := by
      rw [hR]
      show pStart k (u 0) = _
      unfold pStart
      rw [if_neg (by omega), hc1, if_neg]
      intro z
      rw [hR, z] at h0
      unfold pBody at h0
      simp at h0
    have nu0 : aN k u 0 = false := by simp [aN, hRu, r2.1]
    have nt0 : aN k t (aO k t n) = false := by simp [aN, r2.1]
    have hS : FS k u t (0 + 1) (aO k t n + 1) 1 := by
      refine ⟨by rw [aS_succ, aS_succ, hRu, hdT]; rfl, by rw [aS_succ, aS_succ, hRu, hxT]; rfl, Or.inl (by rw [aS_succ, aS_succ]; exact hRu), ?_⟩
      show (if aN k u 0 = true then _ else aC k u 0) + 1 = (if aN k t (aO k t n) = true then _ else aC k t (aO k t n))
      rw [nu0, nt0]
      show aC k u 0 + 1 = aC k t (aO k t n)
      rw [hC]
      rfl
    refine FR_up (p' := 0 + 1) (by omega) ?_ (fill_tail hg hf he (n + 1) (aO k t n + 1) (0 + 1) (by omega) (by omega) (by omega) hA2 (by omega) hS)
    rintro ⟨i, a1, a2, a3, a4, a5, a6⟩
    refine ⟨i, ?_, a2, a3, a4, a5, a6⟩
    rcases Nat.lt_or_ge i (aO k t n + 1) with y | y
    · exfalso
      have : i = aO k t n := by omega
      rw [this] at a4
      exact dn a4
    · exact y
  · refine fill_sync hg hf he hm1 (n + 1) 0 0 (by omega) (by omega) (by omega) hA (by omega) ?_
    rw [if_neg (by omega)]
    exact ⟨rfl, rfl, Or.inl rfl, rfl⟩
/-- what follows: a good filled text has one parameter less, and no ARRAY is thrown; and before a fault there are few names -/
theorem fill_good {k : Nat} {t u tf : Nat → Nat} {n e nf nu : Nat} (hg : Gd k t n) (hf : Gd 2 tf nf) (he : e < aC k t n) (hA : At u 0 (fL k t n e tf nf 0)) (hnu : nu = (fL k t n e tf nf 0).length) :
    ((∀ j, j < nu → ¬ aBad k u j) → aC k u nu + 1 = aC k t n ∧ ¬ eV k t n e tf 0) ∧ (∀ p, p ≤ nu → (∀ j, j < p → ¬ aBad k u j) → aC k u p ≤ 20) := by
  have hc := hg.2.2.2.2.2
  rcases fill_all hg hf he hA hnu with ⟨a, b⟩ | ⟨q, a1, a2, a3, a4⟩
  · refine ⟨fun _ => ⟨a, b⟩, fun p hp _ => ?_⟩
    have := aC_mono (k := k) (t := u) hp
    omega
  · refine ⟨fun z => absurd (Or.inl a3) (z q a2), fun p hp z => ?_⟩
    rcases Nat.lt_or_ge q p with y | y
    · exact absurd (Or.inl a3) (z q y)
    · have := aC_mono (k := k) (t := u) y
      omega
theorem fits_c : ∀ c, c < 128 → fits .char (.int (nI c)) = true := by decide +kernel
theorem r_add' {post : Int32 → RowC → Prop} {u : RowC} {N : Nat} {L : List Nat} {c : Nat} (hu : RwI u N L) (hN : N < 2 ^ 20) (hc : c < 128) (h1 : L.length < N → ∀ u', RwI u' N (L ++ [c]) → post 1 u') (h0 : N ≤ L.length → post 0 u) : wp_Rw_add post u (nI c) := by
  rcases Nat.lt_or_ge L.length N with q | q
  · exact r_add hu hN q hc (h1 q)
  · obtain ⟨a1, a2, a3, a4⟩ := hu
    unfold wp_Rw_add
    rw [a1, a2, ofN]
    exact b_lt (by omega) (by omega) (fun z => absurd z (by omega)) (fun _ => h0 q)
theorem r_addAll {post : Int32 → RowC → Prop} {u : RowC} {N : Nat} {L S : List Nat} {f : Nat → Int32} (hu : RwI u N L) (hN : N < 2 ^ 20) (hS : S.length < 2 ^ 20) (hf : ∀ i, i < S.length → f i = nI (S.getD i 0)) (hc : ∀ c ∈ S, c < 128) (h1 : L.length + S.length ≤ N → ∀ u', RwI u' N (L ++ S) → post 1 u') (h0 : N < L.length + S.length → post 0 u) : wp_Rw_addAll post u (S.length, f) := by
  obtain ⟨a1, a2, a3, a4⟩ := hu
  unfold wp_Rw_addAll
  dsimp only [caN, caF]
  rw [a1, a2, ofN, ofN, pk_sub a3, nI_add]
  have z0 : (0 : Int32).toNatClampNeg = 0 := by decide
  refine b_le (by omega) (by omega) (fun z => ?_) (fun z => h0 (by omega))
  rw [nI_clamp (by omega), nI_clamp (by omega), z0]
  refine ⟨⟨⟨by decide, nI_pos (by omega), nI_pos (by omega), by omega, by omega⟩, fun i hi => ?_⟩, h1 (by omega) _ ⟨rfl, by rw [List.length_append], by rw [List.length_append]; omega, fun i hi => ?_⟩⟩
  · rw [Nat.zero_add, hf i hi]
    exact fits_c _ (getD_lt hc i)
  · show va_cpy f (rwF u) 0 L.length S.length i = _
    rw [List.length_append] at hi
    unfold va_cpy
    by_cases q : L.length ≤ i ∧ i < L.length + S.length
    · rw [if_pos q, Nat.zero_add, hf _ (by omega)]
      simp [List.getD_eq_getElem?_getD, List.getElem?_append_right q.1]
    · rw [if_neg q, gD_app (by omega)]
      exact a4 i (by omega)
theorem wr_lt {k : Nat} {t : Nat → Nat} {n : Nat} (hg : Gd k t n) : ∀ c ∈ wr t n, c < 128 := by
  intro c hc
  unfold wr at hc
  rw [List.mem_map] at hc
  obtain ⟨i, hi, rfl⟩ := hc
  rw [List.mem_range] at hi
  have := (hg.2.2.1 i hi).2
  omega
theorem r_writeFilled {post : Int32 → RowC → Prop} {u0 : FoC} {u uf : SgC} {r : RowC} {k : Nat} {t tf : Nat → Nat} {n e nf : Nat} (hu : SgI u k t n) (hg : Gd k t n) (huf : SgI uf 2 tf nf) (hf : Gd 2 tf nf) (he : e < aC k t n) (hr : rwN r = 120)
    (H1 : (fL k t n e tf nf 0).length ≤ 120 → ∀ r', RwI r' 120 (fL k t n e tf nf 0) → post 1 r') (H0 : 120 < (fL k t n e tf nf 0).length → ∀ r', rwN r' = 120 → post 0 r') : wp_F_writeFilled post u0 u uf r (nI e) := by
  have hn := hg.2.1
  have hnf := hf.2.1
  have hc := hg.2.2.2.2.2
  obtain ⟨q1, q2, q3⟩ := cFT hg he
  have go : w_F_writeFilled_50 post u0 u uf (nI e) (nI (cF k t n e)) (nI (cT k t n e)) r := by
    unfold w_F_writeFilled_50
    have main : ∀ m p, n - p = m → ∀ (z x : Nat) (a : RowC) (L : List Nat), p ≤ n → (z ≤ p ∧ x = p ∨ z = x ∧ p < x) → x ≤ n → (∀ i, p ≤ i → i < x → True) → RwI a 120 L → L ++ fL k t n e tf nf x = fL k t n e tf nf 0 → w_F_writeFilled_66 post u0 u uf (m + 1) (nI e) (nI (cF k t n e)) (nI (cT k t n e)) (nI z) (nI p) a := by
      intro m
      induction m with
      | zero =>
        intro p hp z x a L h1 h2 h3 _ h5 h6
        unfold w_F_writeFilled_66 wb_F_writeFilled_66
        rw [hu.2.1, ofN]
        have hx : n ≤ x := by omega
        rw [fL_end hx, List.append_nil] at h6
        subst h6
        exact b_le (by omega) (by omega) (fun _ => H1 h5.2.2.1 a h5) (fun q => absurd q (by omega))
      | succ m ih =>
        intro p hp z x a L h1 h2 h3 _ h5 h6
        have hpn : p < n := by omega
        unfold w_F_writeFilled_66 wb_F_writeFilled_66 w_F_writeFilled_156
        rw [hu.2.1, ofN, nI_1 p]
        have hlen : L.length + (fL k t n e tf nf x).length = (fL k t n e tf nf 0).length := by rw [← h6, List.length_append]
        refine b_le (by omega) (by omega) (fun q => absurd q (by omega)) (fun _ => b_lt (by omega) (by omega) (fun q => ?_) (fun q => ?_))
        · exact ih (p + 1) (by omega) z x a L (by omega) (by omega) h3 (fun _ _ _ => trivial) h5 h6
        · obtain rfl : x = p := by omega
          have skip : cF k t n e ≤ x ∧ x < cT k t n e → w_F_writeFilled_66 post u0 u uf (m + 1) (nI e) (nI (cF k t n e)) (nI (cT k t n e)) (nI z) (nI (x + 1)) a := by
            intro y
            rw [fL_skip hpn y] at h6
            exact ih (x + 1) (by omega) z (x + 1) a L (by omega) (by omega) (by omega) (fun _ _ _ => trivial) h5 h6
          have w100 : ¬ (cF k t n e ≤ x ∧ x < cT k t n e) → w_F_writeFilled_100 post u0 u uf (w_F_writeFilled_66 post u0 u uf (m + 1)) (nI e) (nI (cF k t n e)) (nI (cT k t n e)) (nI z) (nI x) a := by
            intro y
            unfold w_F_writeFilled_100 w_F_writeFilled_149 w_F_writeFilled_156
            rw [nI_1 x]
            refine r_declarerAt hu hg (by omega) ?_
            by_cases hd : dA k t n x = some e
            · rw [hd]
              refine b_eq (by omega) (by omega) (fun _ => ?_) (fun q => absurd rfl q)
              have r6 : aR k t x = 6 := by
                unfold dA at hd
                rw [gR_in hpn] at hd
                by_cases w : aR k t x = 6
                · exact w
                · rw [if_neg w] at hd; cases hd
              have hT : TS k t n x := ⟨hpn, by omega⟩
              obtain ⟨vE1, vE2, vE3⟩ := var_end hg hpn r6
              rw [fL_var hpn y hd] at h6 hlen
              rw [List.length_append, wr_len] at hlen
              have hwl := wr_len tf nf
              have AA := r_addAll (post := fun r14 v13 => wp_Sg_behindType (fun r15 => ((¬ r14 = 0 → w_F_writeFilled_66 post u0 u uf (m + 1) (nI e) (nI (cF k t n e)) (nI (cT k t n e)) r15 (nI (x + 1)) v13) ∧ (r14 = 0 → post 0 v13))) u (nI x)) (S := wr tf nf) (f := sgL uf) h5 (by decide) (by rw [hwl]; omega) (fun i hi => by rw [hwl] at hi; rw [wr_get hi]; exact huf.2.2.1 i hi) (wr_lt hf) (fun q a' ha' => r_behindType hu hg hT ⟨fun _ => ?_, fun w => absurd w (by decide)⟩) (fun q => r_behindType hu hg hT ⟨fun w => absurd rfl w, fun _ => H0 (by rw [hwl] at q; omega) a h5.1⟩)
              · rw [hwl] at AA
                rw [huf.2.1]
                exact AA
              · rw [vE1]
                refine ih (x + 1) (by omega) (nE k t n 7 (x + 1) + 1) (nE k t n 7 (x + 1) + 1) a' (L ++ wr tf nf) (by omega) (by omega) (by omega) (fun _ _ _ => trivial) ha' ?_
                rw [List.append_assoc]; exact h6
            · have hne : ¬ oI (dA k t n x) = nI e := by
                cases hd2 : dA k t n x with
                | none =>
                  intro w
                  exact nI_pos (n := e) (by omega) (by rw [← w]; decide)
                | some c =>
                  intro w
                  have hcl := dA_lt hd2
                  have : c = e := (nI_eq (by omega) (by omega)).mp w
                  rw [this] at hd2; exact hd hd2
              refine ⟨fun _ => r_letterAt hu hg (by omega) ?_, fun q => absurd q hne⟩
              rw [gL_in hpn]
              have ht := (hg.2.2.1 x hpn).2
              rw [fL_copy hpn y hd] at h6 hlen
              rw [List.length_cons] at hlen
              refine r_add' h5 (by decide) (by omega) (fun q a' ha' => ⟨fun _ => ih (x + 1) (by omega) z (x + 1) a' (L ++ [t x]) (by omega) (by omega) (by omega) (fun _ _ _ => trivial) ha' (by rw [List.append_assoc]; exact h6), fun w => absurd w (by decide)⟩) (fun q => ⟨fun w => absurd rfl w, fun _ => H0 (by omega) a h5.1⟩)
          exact b_lt (by omega) (by omega) (fun y => w100 (by omega)) (fun y => b_le (by omega) (by omega) (fun y2 => w100 (by omega)) (fun y2 => skip ⟨y, y2⟩))
    exact ⟨_, main n 0 (by omega) 0 0 (rwN r, rwF r, 0) [] (by omega) (by omega) (by omega) (fun _ _ _ => trivial) ⟨hr, rfl, by simp, fun i hi => absurd hi (Nat.not_lt_zero _)⟩ rfl⟩
  unfold wp_F_writeFilled w_F_writeFilled_14 w_F_writeFilled_31
  rw [hu.2.2.2.2.1, ofN, nI_clamp (by omega), (hu.2.2.2.2.2.1 e he).1, hu.2.2.2.2.2.2]
  refine b_eq (k := 1) (by omega) (by decide) (fun e1 => ⟨fun w => absurd w (by decide), fun _ => ⟨fun w => absurd w (by decide), fun _ => ?_⟩⟩) (fun e1 => ⟨fun _ => ⟨vp_in_nI he (by omega), ⟨fun _ => r_parameterEnd hu hg he ?_, fun w => absurd rfl w⟩⟩, fun w => absurd rfl w⟩)
  · have a1 : cF k t n e = 0 := by unfold cF; rw [if_pos e1]
    have a2 : cT k t n e = aO k t n := by unfold cT; rw [if_pos e1]
    rw [a1, a2] at go
    exact go
  · have a1 : cF k t n e = aB k t n e := by unfold cF; rw [if_neg e1]
    have a2 : cT k t n e = pE k t n e := by unfold cT; rw [if_neg e1]
    rw [a1, a2] at go
    exact go
