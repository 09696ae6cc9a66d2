/-! alike: the reference -/
theorem aC_same {k : Nat} {t : Nat → Nat} {p q : Nat} (h : p ≤ q) (hr : ∀ x, p ≤ x → x < q → aR k t x ≠ 2) : aC k t q = aC k t p := by
  induction h with
  | refl => rfl
  | @step q h ih =>
    have hp : p ≤ q := h
    have hN : aN k t q = false := by simp [aN, hr q hp (by omega)]
    show (if aN k t q = true then _ else aC k t q) = _
    rw [hN]
    exact ih (fun x a b => hr x a (by omega))
theorem q_243 {post : Int32 → Prop} {u : MoC} {X : XA} {K0 : Int32 → Int32 → Int32 → Int32 → Int32 → Prop} {k : Nat} {t : Nat → Nat} {n s s2 c i : Nat} {y4 y5 : Int32} (hX : XI X k t n s) (hg : Gd k t n) (hs : s < 24) (hc : c < aC k t n) (hi : i ≤ 120)
    (H1 : nKb k t n c i = true ∨ n < i + ln k t n c → K0 (nI s) (nI s2) (nI (i + ln k t n c)) y4 y5) (H0 : nKb k t n c i = false → post 0) :
    w_M_alike_243 post u X.1 X.2.1 X.2.2.1 X.2.2.2.1 X.2.2.2.2.1 X.2.2.2.2.2.1 X.2.2.2.2.2.2.2.2 K0 (nI s) (nI s2) (nI i) y4 y5 (nI (20 * s + c)) := by
  have hn := hg.2.1
  have hm := hg.2.2.2.2.2
  have hbe := (aBE k t n).1 c hc
  obtain ⟨e1, e2, e3, e4⟩ := nm_end hg hc
  obtain ⟨-, x1, x2, x3, x4, x5', x6, x7, x8, x9, y1, y2, y3, y4', y5', y6, y7⟩ := hX
  unfold w_M_alike_243
  rw [x5', x6, nI_clamp (by omega), (y6 c hc).1, (y6 c hc).2, nI_add, pk_sub (by omega), pk_sub (by omega), nI_add, show i + aE k t n c - aB k t n c = i + ln k t n c by unfold ln; omega, show i + (aE k t n c - aB k t n c) = i + ln k t n c from rfl]
  have hln : ln k t n c ≤ 119 := by unfold ln; omega
  have hv : vp_in (nI (20 * s + c)) 500 := vp_in_nI (by omega) (by decide)
  refine ⟨hv, hv, hv, hv, r_alikeNames (by omega) (by omega) (by rw [x1]; omega) (by rw [x1]; omega) (by rw [x1]; omega) (fun z => ⟨fun _ => ⟨hv, hv, H1 ?_⟩, fun w => absurd w (by decide)⟩) (fun z => ⟨fun w => absurd rfl w, fun _ => H0 ?_⟩)⟩
  · rcases Nat.lt_or_ge n (i + ln k t n c) with q | q
    · exact Or.inr q
    · left
      rw [nKb_iff]
      refine ⟨q, fun x hx => ?_⟩
      have := z.2 x hx
      rw [y3 _ (by unfold ln at hx; omega), y3 _ (by omega)] at this
      have a1 := (hg.2.2.1 (aB k t n c + x) (by unfold ln at hx; omega)).2
      have a2 := (hg.2.2.1 (i + x) (by omega)).2
      exact (nI_eq (by omega) (by omega)).mp this
  · cases hb : nKb k t n c i
    · rfl
    · exfalso
      obtain ⟨b1, b2⟩ := nKb_iff.mp hb
      refine z ⟨by unfold ln; omega, fun x hx => ?_⟩
      have hx' : x < ln k t n c := hx
      rw [y3 _ (by unfold ln at hx'; omega), y3 _ (by omega), b2 x hx']
theorem q_alike {post : Int32 → Prop} {u : MoC} {X : XA} {k : Nat} {ta tb : Nat → Nat} {na nb a b M : Nat} (hM : moM u = nI M) (hM2 : M ≤ 24) (ha : a < M) (hb : b < M) (hXa : XI X k ta na a) (ga : Gd k ta na) (hXb : XI X k tb nb b) (gb : Gd k tb nb) (hm : aC k ta na = aC k tb nb) (h : post (bI (al k ta na tb nb (nb + 1) 0 0))) :
    wp_M_alike post u X.1 X.2.1 X.2.2.1 X.2.2.2.1 X.2.2.2.2.1 X.2.2.2.2.2.1 X.2.2.2.2.2.2.2.2 (nI a) (nI b) := by
  have hna := ga.2.1
  have hnb := gb.2.1
  have hc := gb.2.2.2.2.2
  have hk := ga.1
  have za := hXa.2.2.2.2.2.2.2.2.2.2.1
  have zb := hXb.2.2.2.2.2.2.2.2.2.2.1
  have sz := hXa.2.2.2.1
  -- one step at which the lengths differ already
  have over : ∀ f i j p, j < nb → (aR k tb j = 3 ∨ aR k tb j = 8) → na ≤ i → i < 1000 → post 0 → w_M_alike_59 post u X.1 X.2.1 X.2.2.1 X.2.2.2.1 X.2.2.2.2.1 X.2.2.2.2.2.1 X.2.2.2.2.2.2.2.2 (f + 1) (nI a) (nI b) (nI i) (nI j) (nI p) := by
    intro f i j p hj hr hi hi2 hp
    unfold w_M_alike_59 wb_M_alike_59
    rw [sz, nI_clamp (by omega), nI_clamp (by omega), za, zb]
    have hrl := aR_lt k tb j
    have hpt := pTr_lt (aR k tb j) (gL tb nb j)
    have i2 := pTr_is (c := gL tb nb j) 2 6 hrl (by decide)
    have i17 := pTr_17 (c := gL tb nb j) hrl
    refine ⟨vp_in_nI (by omega) (by decide), b_le (by omega) (by omega) (fun z => absurd z (by omega)) (fun _ => hXb.role hnb (by omega) ?_)⟩
    rw [gR_in hj]
    refine b_eq (k := 2) (by omega) (by decide) (fun e => by have := i2.mp e; omega) (fun _ => ?_)
    unfold w_M_alike_97 w_M_alike_136 w_M_alike_307
    refine b_eq (k := 2) (by omega) (by decide) (fun e => by have := i2.mp e; omega) (fun _ => b_eq' (k := 17) (by omega) (by decide) (fun e => by have := i17.mp e; omega) (fun _ => b_eq (k := 2) (by omega) (by decide) (fun e => by have := i2.mp e; omega) (fun _ => ?_)))
    rw [sz, nI_clamp (by omega), za]
    exact ⟨vp_in_nI (by omega) (by decide), b_le (by omega) (by omega) (fun _ => hp) (fun z => absurd z (by omega))⟩
  have main : ∀ w i j, i ≤ na → j ≤ nb → (Sy k ta na tb nb i j ∨ Fl k ta na tb nb i j) → nb - j < w → post (bI (al k ta na tb nb w i j)) → w_M_alike_59 post u X.1 X.2.1 X.2.2.1 X.2.2.2.1 X.2.2.2.2.1 X.2.2.2.2.2.1 X.2.2.2.2.2.2.2.2 w (nI a) (nI b) (nI i) (nI j) (nI (aC k tb j)) := by
    intro w
    induction w with
    | zero => intro i j h1 h2 h3 h4; omega
    | succ w ih =>
      intro i j hi hj h5 h6 h7
      unfold w_M_alike_59 wb_M_alike_59
      rw [sz, nI_clamp (by omega), nI_clamp (by omega), za, zb]
      have hcj := aC_le k tb j
      refine ⟨vp_in_nI (by omega) (by decide), b_le (by omega) (by omega) (fun z => ⟨vp_in_nI (by omega) (by decide), ?_⟩) (fun hjn => hXb.role hnb (by omega) ?_)⟩
      · rw [al_end z] at h7
        refine b_eq (by omega) (by omega) (fun e => ?_) (fun e => ?_)
        · rw [decide_eq_true e] at h7; exact h7
        · rw [decide_eq_false e] at h7; exact h7
      · rw [gR_in hjn]
        have hrl := aR_lt k tb j
        have hpt := pTr_lt (aR k tb j) (gL tb nb j)
        have i2 := pTr_is (c := gL tb nb j) 2 6 hrl (by decide)
        have i17 := pTr_17 (c := gL tb nb j) hrl
        -- an ordinary character
        have ord : aR k tb j ≠ 2 → (∀ (e1 : i < na), ta i = tb j → w_M_alike_59 post u X.1 X.2.1 X.2.2.1 X.2.2.2.1 X.2.2.2.2.1 X.2.2.2.2.2.1 X.2.2.2.2.2.2.2.2 w (nI a) (nI b) (nI (i + 1)) (nI (j + 1)) (nI (aC k tb j))) → (¬ (i < na ∧ ta i = tb j) → post 0) → w_M_alike_307 post u X.1 X.2.1 X.2.2.1 X.2.2.2.1 X.2.2.2.2.1 X.2.2.2.2.2.1 X.2.2.2.2.2.2.2.2 (w_M_alike_59 post u X.1 X.2.1 X.2.2.1 X.2.2.2.1 X.2.2.2.2.1 X.2.2.2.2.2.1 X.2.2.2.2.2.2.2.2 w) (nI a) (nI b) (nI i) (nI j) (nI (aC k tb j)) := by
          intro _ H1 H0
          unfold w_M_alike_307
          rw [sz, nI_clamp (by omega), za, nI_1, nI_1]
          refine ⟨vp_in_nI (by omega) (by decide), b_le (by omega) (by omega) (fun z => H0 (fun w => by omega)) (fun z => q_at hXa hna z (q_at hXb hnb hjn ?_))⟩
          have t1 := (ga.2.2.1 i z).2
          have t2 := (gb.2.2.1 j hjn).2
          exact b_eq' (by omega) (by omega) (fun e => H1 z e) (fun e => H0 (fun w => e w.2))
        have cnext : aR k tb j ≠ 2 → aC k tb (j + 1) = aC k tb j := fun q => aC_same (by omega) (fun x q1 q2 => (show x = j by omega) ▸ q)
        by_cases r6 : aR k tb j = 6
        · -- a variable
          have hS : Sy k ta na tb nb i j := by
            rcases h5 with q | q
            · exact q
            · exact absurd r6 q.2.2.1
          obtain ⟨v1, v2⟩ := var_next gb hjn r6
          obtain ⟨vE1, vE2, vE3⟩ := var_end gb hjn r6
          have t84 := (stN_of gb hjn).2.1 r6
          have hp2 : pTr (aR k tb j) (gL tb nb j) = 2 := i2.mpr r6
          have hdA := dA_6 hjn r6
          rw [hp2]
          refine b_eq (k := 2) (by decide) (by decide) (fun _ => q_param hXb gb hXb gb (by omega) ?_) (fun z => absurd rfl z)
          rw [← hdA]
          have hzl : ∀ c, dA k tb nb j = some c → c < 20 := fun c q => by have := dA_lt q; omega
          -- the end of the test of declarers
          have tail : (i < na → ta i = 84 → decide (dA k ta na i = none) = decide (dA k tb nb j = none)) → w_M_alike_136 post u X.1 X.2.1 X.2.2.1 X.2.2.2.1 X.2.2.2.2.1 X.2.2.2.2.2.1 X.2.2.2.2.2.2.2.2 (w_M_alike_59 post u X.1 X.2.1 X.2.2.1 X.2.2.2.1 X.2.2.2.2.1 X.2.2.2.2.2.1 X.2.2.2.2.2.2.2.2 w) (nI a) (nI b) (nI i) (nI j) (nI (aC k tb j)) (nI 2) (oX b (dA k tb nb j)) := by
            intro heq
            unfold w_M_alike_136
            refine b_eq' (k := 17) (by decide) (by decide) (fun z => absurd z (by decide)) (fun _ => b_eq (k := 2) (by decide) (by decide) (fun _ => oX_neg (by omega) hzl (fun ed => ?_) (fun ed => ?_)) (fun z => absurd rfl z))
            · rw [al_6n hjn r6 ed] at h7
              refine ord (by omega) (fun q1 q2 => ?_) (fun q => ?_)
              · have e0 := heq q1 (by rw [q2, t84])
                rw [ed] at e0
                have e2 : decide (dA k ta na i = none) = true := by rw [e0]; rfl
                have e1 : (ta i == 84) = true := by rw [q2, t84]; rfl
                rw [decide_eq_true q1, e1, e2] at h7
                have F := ih (i + 1) (j + 1) (by omega) (by omega) (Or.inl (Sy_next hS q1 hjn q2 (by omega))) (by omega) h7
                rw [cnext (by omega)] at F
                exact F
              · have e0 : (decide (i < na) && (ta i == 84) && decide (dA k ta na i = none) && al k ta na tb nb w (i + 1) (j + 1)) = false := by
                  cases hb : (decide (i < na) && (ta i == 84) && decide (dA k ta na i = none) && al k ta na tb nb w (i + 1) (j + 1))
                  · rfl
                  · simp only [Bool.and_eq_true, decide_eq_true_eq, beq_iff_eq] at hb
                    exact absurd ⟨hb.1.1.1, by rw [hb.1.1.2, t84]⟩ q
                rw [e0] at h7; exact h7
            · obtain ⟨c, hcc⟩ : ∃ c, dA k tb nb j = some c := by
                cases hd : dA k tb nb j with
                | none => exact absurd hd ed
                | some c => exact ⟨c, rfl⟩
              have hcl := dA_lt hcc
              rw [hcc]
              rw [al_6s hjn r6 hcc] at h7
              unfold w_M_alike_154 w_M_alike_177
              rw [sz, nI_clamp (by omega), za]
              refine b_eq (k := 17) (by decide) (by decide) (fun z => absurd z (by decide)) (fun _ => b_eq (k := 2) (by decide) (by decide) (fun _ => ⟨vp_in_nI (by omega) (by decide), b_le (by omega) (by omega) (fun z => ?_) (fun z => q_at hXa hna z ?_)⟩) (fun z => absurd rfl z))
              · rw [decide_eq_false (by omega)] at h7; exact h7
              · have t1 := (ga.2.2.1 i z).2
                refine b_eq' (k := 84) (by omega) (by decide) (fun e84 => ?_) (fun e84 => ?_)
                · rw [nI_1 j]
                  refine q_nameEnd hXb hnb (by omega) ?_
                  have e0 := heq z e84
                  rw [hcc] at e0
                  have e2 : (!decide (dA k ta na i = none)) = true := by rw [e0]; rfl
                  have e1 : (ta i == 84) = true := by rw [e84]; rfl
                  rw [decide_eq_true z, e1, e2, Bool.true_and, Bool.true_and, Bool.true_and] at h7
                  have eix : (20 : Int32) * nI a + (oX b (some c) - 20 * nI b) = nI (20 * a + c) := by
                    show (20 : Int32) * nI a + (nI (20 * b + c) - 20 * nI b) = _
                    rw [show (20 : Int32) * nI b = nI (20 * b) from pk_mul 20 b, pk_sub (by omega), show 20 * b + c - 20 * b = c by omega]
                    exact m_ix 20 a c
                  rw [nI_1 i, eix]
                  have cE : aC k tb (nE k tb nb 7 (j + 1)) = aC k tb j := aC_same (by omega) (fun x q1 q2 => by
                    rcases Nat.eq_or_lt_of_le q1 with y | y
                    · rw [← y]; omega
                    · rw [nE_run (n := nb) _ (j + 1) rfl x y q2]; decide)
                  refine q_243 hXa ga (by omega) (by omega) (by omega) (fun q => ?_) (fun q => by rw [q] at h7; exact h7)
                  rw [← cE]
                  cases hk : nKb k ta na c (i + 1) with
                  | true =>
                    rw [hk, Bool.true_and] at h7
                    have hkk := nKb_iff.mp hk
                    exact ih _ _ hkk.1 (by omega) (Or.inl (Sy_var ga gb hS z hjn (by rw [e84, t84]) r6 (by omega) hkk)) (by omega) h7
                  | false =>
                    rw [hk] at h7 q
                    have q' : na < i + 1 + ln k ta na c := by
                      rcases q with y | y
                      · cases y
                      · exact y
                    obtain ⟨w', rfl⟩ : ∃ w', w = w' + 1 := ⟨w - 1, by omega⟩
                    have hbe := (aBE k ta na).1 c (by omega)
                    have r8 : aR k tb (nE k tb nb 7 (j + 1)) = 8 := by
                      have a4 := (tE_sp gb (show TS k tb nb j from ⟨hjn, by omega⟩)).2.2.2.1
                      rw [vE1] at a4
                      have hr := (st2_of gb (p := nE k tb nb 7 (j + 1)) (by omega)).2.2 (Or.inr (l_of (r := 7) (by omega) (nE_run (n := nb) _ (j + 1) rfl _ (by omega) (by omega))))
                      have := eI_iff.mp a4
                      omega
                    exact over w' _ _ _ (by omega) (Or.inr r8) (by omega) (by unfold ln; omega) h7
                · have e1 : (ta i == 84) = false := by simp [e84]
                  rw [e1, Bool.and_false, Bool.false_and, Bool.false_and] at h7
                  exact h7
          unfold w_M_alike_97 w_M_alike_131
          refine b_eq (k := 2) (by decide) (by decide) (fun _ => ?_) (fun z => absurd rfl z)
          -- the role in a
          rcases Nat.lt_or_ge i na with hin | hin
          · refine hXa.role hna (by omega) ?_
            rw [gR_in hin]
            have hra := aR_lt k ta i
            have hpa := pTr_lt (aR k ta i) (gL ta na i)
            have j2 := pTr_is (c := gL ta na i) 2 6 hra (by decide)
            refine b_eq (k := 2) (by omega) (by decide) (fun e => ?_) (fun e => tail (fun _ q => ?_))
            · have ra6 := j2.mp e
              have hdAa := dA_6 hin ra6
              have no : decide (dA k ta na i = none) ≠ decide (dA k tb nb j = none) → post 0 := by
                intro q
                cases hd : dA k tb nb j with
                | none =>
                  rw [al_6n hjn r6 hd] at h7
                  have e2 : decide (dA k ta na i = none) = false := by
                    cases hx : decide (dA k ta na i = none)
                    · rfl
                    · rw [hx, hd] at q; exact absurd rfl q
                  rw [e2, Bool.and_false, Bool.false_and] at h7; exact h7
                | some c =>
                  rw [al_6s hjn r6 hd] at h7
                  have e2 : decide (dA k ta na i = none) = true := by
                    cases hx : decide (dA k ta na i = none)
                    · rw [hx, hd] at q; exact absurd rfl q
                    · rfl
                  rw [e2, Bool.not_true, Bool.and_false, Bool.false_and] at h7; exact h7
              refine q_own hXa ga (by omega) (fun o0 => ?_) (fun o1 => ?_)
              · rw [← hdAa] at o0
                refine oX_neg (by omega) hzl (fun ed => ⟨fun _ => tail (fun _ _ => by rw [o0, ed]), fun q => absurd rfl q⟩) (fun ed => ⟨fun q => absurd q (by decide), fun _ => no (by rw [o0]; simp [ed])⟩)
              · rw [← hdAa] at o1
                refine oX_neg (by omega) hzl (fun ed => ⟨fun q => absurd q (by decide), fun _ => no (by rw [ed]; simp [o1])⟩) (fun ed => ⟨fun _ => tail (fun _ _ => by simp [o1, ed]), fun q => absurd rfl q⟩)
            · exfalso
              exact e (j2.mpr (by rw [Sy_role hS (by rw [q, t84])]; exact r6))
          · refine hXa.role hna (by omega) ?_
            rw [gR_out hin, show pTr 0 (gL ta na i) = 0 from (pTr_0 (by decide)).mpr rfl]
            exact b_eq (k := 2) (by decide) (by decide) (fun e => absurd e (by decide)) (fun _ => tail (fun q => absurd q (by omega)))
        · have n2 : pTr (aR k tb j) (gL tb nb j) ≠ 2 := fun z => r6 (i2.mp z)
          refine b_eq (k := 2) (by omega) (by decide) (fun e => absurd e n2) (fun _ => ?_)
          unfold w_M_alike_97 w_M_alike_136
          refine b_eq (k := 2) (by omega) (by decide) (fun e => absurd e n2) (fun _ => b_eq' (k := 17) (by omega) (by decide) (fun e => ?_) (fun e => b_eq (k := 2) (by omega) (by decide) (fun e => absurd e n2) (fun _ => ?_)))
          · -- a parameter's name
            have r2 := i17.mp e
            have hS : Sy k ta na tb nb i j := by
              rcases h5 with q | q
              · exact q
              · exact absurd r2 q.2.1
            have hl := hS.2.2.2.2 hjn r2
            obtain ⟨c1, c2⟩ := nm_at gb hjn r2 hl
            have hbe := (aBE k tb nb).1 _ c1
            obtain ⟨e1, e2, e3, e4⟩ := nm_end gb c1
            rw [al_2 hjn r2] at h7
            unfold w_M_alike_154 w_M_alike_177
            have yb6 := (hXb.2.2.2.2.2.2.2.2.2.2.2.2.2.2.2.1 (aC k tb j) c1).2
            have sz6 := hXb.2.2.2.2.2.2.1
            refine b_eq (k := 17) (by omega) (by decide) (fun _ => b_eq (k := 2) (by omega) (by decide) (fun z => absurd z n2) (fun _ => ?_)) (fun z => absurd e z)
            rw [show (20 : Int32) * nI b + nI (aC k tb j) = nI (20 * b + aC k tb j) from m_ix 20 b _, nI_clamp (by omega), sz6, yb6, nI_1, show (20 : Int32) * nI a + nI (aC k tb j) = nI (20 * a + aC k tb j) from m_ix 20 a _]
            refine ⟨vp_in_nI (by omega) (by decide), q_243 hXa ga (by omega) (by omega) (by omega) (fun q => ?_) (fun q => by rw [q] at h7; exact h7)⟩
            have cE : aC k tb (aE k tb nb (aC k tb j)) = aC k tb j + 1 := pE_C gb c1 (by omega) (by omega)
            rw [← cE]
            cases hk : nKb k ta na (aC k tb j) i with
            | true =>
              rw [hk, Bool.true_and] at h7
              have hkk := nKb_iff.mp hk
              exact ih _ _ hkk.1 (by omega) (Sy_name ga gb hm hS hjn r2 hkk) (by omega) h7
            | false =>
              rw [hk] at h7 q
              have q' : na < i + ln k ta na (aC k tb j) := by
                rcases q with y | y
                · cases y
                · exact y
              obtain ⟨w', rfl⟩ : ∃ w', w = w' + 1 := ⟨w - 1, by omega⟩
              have hba := (aBE k ta na).1 (aC k tb j) (by omega)
              exact over w' _ _ _ e1 (Or.inl e2) (by omega) (by unfold ln; omega) h7
          · have r2 : aR k tb j ≠ 2 := fun q => e (i17.mpr q)
            rw [al_o hjn r2 r6] at h7
            refine ord r2 (fun q1 q2 => ?_) (fun q => ?_)
            · have hS : Sy k ta na tb nb i j := by
                rcases h5 with q | q
                · exact q
                · exact absurd q2 (q.2.2.2 q1)
              rw [decide_eq_true q1, show (ta i == tb j) = true by rw [q2]; simp, Bool.true_and, Bool.true_and] at h7
              have F := ih (i + 1) (j + 1) (by omega) (by omega) (Or.inl (Sy_next hS q1 hjn q2 r2)) (by omega) h7
              rw [cnext r2] at F
              exact F
            · have e0 : (decide (i < na) && (ta i == tb j) && al k ta na tb nb w (i + 1) (j + 1)) = false := by
                cases hb : (decide (i < na) && (ta i == tb j) && al k ta na tb nb w (i + 1) (j + 1))
                · rfl
                · simp only [Bool.and_eq_true, decide_eq_true_eq, beq_iff_eq] at hb
                  exact absurd hb.1 q
              rw [e0] at h7; exact h7
  unfold wp_M_alike
  have ka := hXa.2.2.2.2.2.2.2.2.2.2.2.1
  have kb := hXb.2.2.2.2.2.2.2.2.2.2.2.1
  have pa := hXa.2.2.2.2.2.2.2.2.2.2.2.2.2.2.1
  have pb := hXb.2.2.2.2.2.2.2.2.2.2.2.2.2.2.1
  rw [nI_clamp (by omega), nI_clamp (by omega), ka, kb, pa, pb, hm, hXa.2.2.2.2.1, hXa.2.2.2.2.2.2.2.2.2.1]
  refine q_noY hM hM2 ha ⟨fun z => absurd rfl z, fun _ => q_noY hM hM2 hb ⟨fun _ => ⟨vp_in_nI (by omega) (by decide), vp_in_nI (by omega) (by decide), fun z => absurd rfl z, fun _ => ⟨vp_in_nI (by omega) (by decide), vp_in_nI (by omega) (by decide), fun _ => ⟨nb + 1, ?_⟩, fun z => absurd rfl z⟩⟩, fun z => absurd rfl z⟩⟩
  exact main (nb + 1) 0 0 (by omega) (by omega) (Or.inl ⟨by omega, by omega, rfl, rfl, fun _ _ => by show (0 : Nat) ≠ 2; decide⟩) (by omega) h
