theorem np_lt {k : Nat} {t : Nat → Nat} {n D s : Nat} (h : ∀ j, j < n → 32 < t j ∧ t j < 127) : ∀ m, s + m ≤ n → ∀ c ∈ np k t D s m, c < 128
  | 0, _, c, hc => by simp [np] at hc
  | m + 1, hm, c, hc => by
    have hc' : c ∈ np k t D s m ++ emN k t D (s + m) := hc
    rw [List.mem_append] at hc'
    rcases hc' with q | q
    · exact np_lt h m (by omega) c q
    · unfold emN at q
      split at q
      · rw [List.mem_singleton] at q
        rw [q]
        split
        · omega
        · have := h (s + m) (by omega); omega
      · simp at q
theorem nl_lt {k : Nat} {t : Nat → Nat} {n b : Nat} (hg : Gd k t n) (hs : TS k t n b) : ∀ c ∈ nl k t n b, c < 128 := by
  have a := tE_sp hg hs
  exact np_lt hg.2.2.1 _ (by omega)
theorem OBJ_lt : ∀ c ∈ OBJ, c < 128 := by decide
theorem rep_lt {m : Nat} {L : List Nat} (h : ∀ c ∈ L, c < 128) : ∀ c ∈ List.replicate m 91 ++ L, c < 128 := by
  intro c hc
  rw [List.mem_append] at hc
  rcases hc with q | q
  · rw [List.mem_replicate] at q; omega
  · exact h c q
theorem chN_lt {k : Nat} {t : Nat → Nat} {n : Nat} (hg : Gd k t n) : ∀ (w : Nat) (V : Nat → Bool) (j : Nat), TS k t n j → ∀ c ∈ chN k t n w V j, c < 128
  | 0, _, _, _ => fun c hc => by simp [chN] at hc
  | w + 1, V, j, hs => by
    rw [chN_O]
    refine rep_lt ?_
    obtain ⟨hT, eT', hle⟩ := br_TS hg hs
    by_cases e6 : aR k t (nE k t n 19 j) = 6
    · rw [if_neg (by omega)]
      cases hp : pF k t n t (nE k t n 19 j + 1) (nE k t n 7 (nE k t n 19 j + 1)) with
      | none => exact OBJ_lt
      | some i =>
        have hi := (pF_lt hp).1
        unfold chO
        dsimp only
        cases hf : aFb k t n i with
        | none => exact OBJ_lt
        | some q =>
          dsimp only
          cases hv : V i with
          | true => exact OBJ_lt
          | false =>
            rw [if_neg (by decide)]
            exact chN_lt hg w (vS V i) q (fB_TS hg hi hf).1
    · rw [if_pos e6]
      exact nl_lt hg hT
theorem chS_lt {k k' : Nat} {t t' : Nat → Nat} {n n' : Nat} (hg : Gd k t n) (hg' : Gd k' t' n') : ∀ (w : Nat) (V : Nat → Bool) (j : Nat), TS k t n j → ∀ c ∈ chS k t n k' t' n' w V j, c < 128
  | 0, _, _, _ => fun c hc => by simp [chS] at hc
  | w + 1, V, j, hs => by
    unfold chS
    refine rep_lt ?_
    obtain ⟨hT, eT', hle⟩ := br_TS hg hs
    by_cases e6 : aR k t (nE k t n 19 j) = 6
    · rw [if_neg (by omega)]
      cases hp : pF k t n t (nE k t n 19 j + 1) (nE k t n 7 (nE k t n 19 j + 1)) with
      | none =>
        dsimp only
        cases hp2 : pF k' t' n' t (nE k t n 19 j + 1) (nE k t n 7 (nE k t n 19 j + 1)) with
        | none => exact OBJ_lt
        | some i =>
          have hi := (pF_lt hp2).1
          unfold chO
          dsimp only
          cases hf : aFb k' t' n' i with
          | none => exact OBJ_lt
          | some q =>
            dsimp only
            rw [if_neg (by decide)]
            exact chN_lt hg' 21 _ q (fB_TS hg' hi hf).1
      | some i =>
        have hi := (pF_lt hp).1
        dsimp only
        cases hf : aFb k t n i with
        | none => exact OBJ_lt
        | some q =>
          dsimp only
          cases hv : V i with
          | true => exact OBJ_lt
          | false =>
            rw [if_neg (by decide)]
            exact chS_lt hg hg' w (vS V i) q (fB_TS hg hi hf).1
    · rw [if_pos e6]
      exact nl_lt hg hT
theorem eT_lt {k : Nat} {t : Nat → Nat} {n : Nat} {sc : Sc} {j : Nat} (hg : Gd k t n) (hsc : ScG sc) (hs : TS k t n j) : ∀ c ∈ eT k t n sc j, c < 128 := by
  cases sc with
  | none => exact chN_lt hg 21 nV j hs
  | some S => exact chS_lt hg hsc.1 21 nV j hs
/-- the class's loop, over any erasers -/
theorem r_same_loop {post : Int32 → (RowC × RowC) → Prop} {u1 u2 : SgC} {k k' : Nat} {t t' : Nat → Nat} {n n' : Nat} {sc sc' : Sc} {E1 E2 : (RowC → Prop) → RowC → Int32 → Prop} {W : Nat → Int32 → Int32 → Int32 → RowC → RowC → Prop} (hu : SgI u1 k t n) (hg : Gd k t n) (hk : k = 1) (hsc : ScG sc) (hE : ErP E1 k t n sc) (hu' : SgI u2 k' t' n') (hg' : Gd k' t' n') (hk' : k' = 1) (hsc' : ScG sc') (hE' : ErP E2 k' t' n' sc')
    (hW : ∀ f y5 y6 y7 w0 w1, (((120 : Int32) ≤ y7 → post 0 (w0, w1)) ∧ (¬ (120 : Int32) ≤ y7 → wp_Sg_roleAt (fun r16 => wp_Sg_roleAt (fun r15 => (r16 = 23 → r15 = 23 → post 1 (w0, w1)) ∧ (r16 = 23 → ¬ r15 = 23 → post 0 (w0, w1)) ∧ (¬ r16 = 23 → r15 = 23 → post 0 (w0, w1)) ∧ (¬ r16 = 23 → ¬ r15 = 23 → E1 (fun v10 => E2 (fun v11 => wp_Rw_holdsSameAs (fun r12 => ((¬ r12 = 0 → wp_Sg_behindType (fun r13 => wp_Sg_behindType (fun r14 => W f r13 r14 (y7 + 1) v10 v11) u2 y6) u1 y5) ∧ (r12 = 0 → post 0 (v10, v11)))) v10 v11) w1 y6) w0 y5)) u2 y6) u1 y5)) → W (f + 1) y5 y6 y7 w0 w1)
    (h : ∀ w0 w1, rwN w0 = 260 → rwN w1 = 260 → post (if its k t n sc (n + 1) (aO k t n + 1) = its k' t' n' sc' (n' + 1) (aO k' t' n' + 1) then 1 else 0) (w0, w1)) {w0 w1 : RowC} (h0 : rwN w0 = 260) (h1 : rwN w1 = 260) : ∃ f, W f (nI (aO k t n + 1)) (nI (aO k' t' n' + 1)) 0 w0 w1 := by
  have hn := hg.2.1
  have hn' := hg'.2.1
  have hN := hn
  have main : ∀ m x y tn (a b : RowC) (v v' : Nat), n - x ≤ m → Bp k t n x → Bp k' t' n' y → tn ≤ x → n - x < v → n' - y < v' → rwN a = 260 → rwN b = 260 → (∀ a b, rwN a = 260 → rwN b = 260 → post (if its k t n sc v x = its k' t' n' sc' v' y then 1 else 0) (a, b)) → W (m + 1) (nI x) (nI y) (nI tn) a b := by
    intro m
    induction m with
    | zero =>
      intro x y tn a b v v' hm hx
      have := Bp_lt hg hk hx
      omega
    | succ m ih =>
      intro x y tn a b v v' hm hx hy htn hv hv' ha hb hp
      have hxn := Bp_lt hg hk hx
      have hyn := Bp_lt hg' hk' hy
      obtain ⟨v, rfl⟩ : ∃ q, v = q + 1 := ⟨v - 1, by omega⟩
      obtain ⟨v', rfl⟩ : ∃ q, v' = q + 1 := ⟨v' - 1, by omega⟩
      refine hW _ _ _ _ _ _ ?_
      have hr := aR_lt k t x
      have hr' := aR_lt k' t' y
      refine b_le (a := tn) (q := 120) (by omega) (by decide) (fun z => absurd z (by omega)) (fun _ => r_roleAt hu hn (by omega) (r_roleAt hu' hn' (by omega) ?_))
      rw [gR_in hxn, gR_in hyn]
      have j1 : nI (aR k t x) = 23 ↔ aR k t x = 23 := nI_eq (b := 23) (by omega) (by decide)
      have j2 : nI (aR k' t' y) = 23 ↔ aR k' t' y = 23 := nI_eq (b := 23) (by omega) (by decide)
      unfold its at hp
      refine ⟨fun z1 z2 => ?_, fun z1 z2 => ?_, fun z1 z2 => ?_, fun z1 z2 => ?_⟩
      · rw [if_pos (j1.mp z1), if_pos (j2.mp z2)] at hp
        have := hp a b ha hb
        rw [if_pos rfl] at this
        exact this
      · rw [if_pos (j1.mp z1), if_neg (fun w => z2 (j2.mpr w))] at hp
        have := hp a b ha hb
        rw [if_neg (by simp)] at this
        exact this
      · rw [if_neg (fun w => z1 (j1.mpr w)), if_pos (j2.mp z2)] at hp
        have := hp a b ha hb
        rw [if_neg (by simp)] at this
        exact this
      · have q1 : aR k t x ≠ 23 := fun w => z1 (j1.mpr w)
        have q2 : aR k' t' y ≠ 23 := fun w => z2 (j2.mpr w)
        rw [if_neg q1, if_neg q2] at hp
        obtain ⟨hs, h21, hb2, hlt⟩ := Bp_next hg hk hx q1
        obtain ⟨hs', h21', hb2', hlt'⟩ := Bp_next hg' hk' hy q2
        refine hE _ a x hs hx.1.1 ha (fun r1 hr1 => hE' _ b y hs' hy.1.1 hb (fun r2 hr2 => r_holds hr1 hr2 (fun c hc => by have := eT_lt hg hsc hs c hc; omega) (fun c hc => by have := eT_lt hg' hsc' hs' c hc; omega) (fun e => ⟨fun _ => r_behindType hu hg hs (r_behindType hu' hg' hs' ?_), fun w => absurd w (by decide)⟩) (fun e => ⟨fun w => absurd rfl w, fun _ => ?_⟩)))
        · rw [nI_1]
          refine ih _ _ (tn + 1) r1 r2 v v' (by omega) hb2 hb2' (by omega) (by omega) (by omega) hr1.1 hr2.1 (fun a b p1 p2 => ?_)
          have := hp a b p1 p2
          rw [e] at this
          simpa using this
        · have := hp r1 r2 hr1.1 hr2.1
          rw [if_neg (by simp [e])] at this
          exact this
  obtain ⟨o1, o2, o3⟩ := Bp_0 hg hk
  obtain ⟨p1, p2, p3⟩ := Bp_0 hg' hk'
  exact ⟨_, main n (aO k t n + 1) (aO k' t' n' + 1) 0 w0 w1 (n + 1) (n' + 1) (by omega) o3 p3 (by omega) (by omega) (by omega) h0 h1 h⟩
/-- the answer of clash -/
def cS (k : Nat) (t : Nat → Nat) (n : Nat) (sc : Sc) (k' : Nat) (t' : Nat → Nat) (n' : Nat) (sc' : Sc) : Int32 := if its k t n sc (n + 1) (aO k t n + 1) = its k' t' n' sc' (n' + 1) (aO k' t' n' + 1) then 1 else 0
theorem roleAt_mono {P Q : Int32 → Prop} {u : SgC} {x : Int32} (f : ∀ r, P r → Q r) (h : wp_Sg_roleAt P u x) : wp_Sg_roleAt Q u x :=
  ⟨fun a => f _ (h.1 a), fun a => ⟨fun b => f _ ((h.2 a).1 b), fun b => ⟨((h.2 a).2 b).1, f _ ((h.2 a).2 b).2⟩⟩⟩
theorem r_same00 {post : Int32 → (RowC × RowC) → Prop} {u0 : FoC} {v : MaC} {u1 u2 : SgC} {w0 w1 : RowC} {M : Nat} {ad : Nat → Nat} {k k' : Nat} {t t' : Nat → Nat} {n n' : Nat} (hF : FoI u0 v M ad) (hu : SgI u1 k t n) (hg : Gd k t n) (hk : k = 1) (hu' : SgI u2 k' t' n') (hg' : Gd k' t' n') (hk' : k' = 1) (hP : noX (sgP u1) M) (hP' : noX (sgP u2) M) (h0 : rwN w0 = 260) (h1 : rwN w1 = 260) (h : ∀ w0 w1, rwN w0 = 260 → rwN w1 = 260 → post (cS k t n none k' t' n' none) (w0, w1)) : wp_F_sameErased00 post u0 u1 u2 w0 w1 v := by
  unfold wp_F_sameErased00
  refine r_findN hF hP ⟨rfl, ?_⟩
  refine r_findN hF hP' ⟨rfl, ?_⟩
  rw [hu.2.2.2.2.2.2, hu'.2.2.2.2.2.2, nI_1, nI_1]
  refine r_same_loop (sc := none) (sc' := none) (E1 := fun post r j => wp_Er_eraseN post r u1 j) (E2 := fun post r j => wp_Er_eraseN post r u2 j) (W := w_F_sameErased00_38 post u0 u1 u2 v) hu hg hk trivial (fun post r j a b c d => r_eraseN0 hu hg a b c d) hu' hg' hk' trivial (fun post r j a b c d => r_eraseN0 hu' hg' a b c d) (fun f y5 y6 y7 w0 w1 z => ?_) h h0 h1
  refine ⟨z.1, fun q => roleAt_mono (fun r16 z2 => ⟨fun q1 => roleAt_mono (fun r15 z3 => ⟨fun q2 => ⟨fun w => absurd rfl w, fun _ => ⟨fun _ => z3.2.2.2 q1 q2, fun w => absurd rfl w⟩⟩, fun q2 => ⟨fun w => absurd rfl w, fun _ => ⟨fun w => absurd w (by decide), fun _ => ⟨fun _ => z3.2.2.1 q1 q2, fun w => absurd rfl w⟩⟩⟩⟩) z2, fun q1 => roleAt_mono (fun r15 z3 => ⟨fun q2 => ⟨fun _ => ⟨fun w => absurd w (by decide), fun _ => ⟨fun _ => z3.2.1 q1 q2, fun w => absurd rfl w⟩⟩, fun w => absurd w (by decide)⟩, fun q2 => ⟨fun _ => ⟨fun w => absurd w (by decide), fun _ => ⟨fun w => absurd w (by decide), fun _ => z3.1 q1 q2⟩⟩, fun w => absurd w (by decide)⟩⟩) z2⟩) (z.2 q)⟩
theorem r_same10 {post : Int32 → (RowC × RowC) → Prop} {u0 : FoC} {v : MaC} {u1 u2 : SgC} {w0 w1 : RowC} {M : Nat} {ad : Nat → Nat} {k k' : Nat} {t t' : Nat → Nat} {n n' : Nat} {x1 : SgC} {kx : Nat} {tx : Nat → Nat} {nx sx : Nat} (hF : FoI u0 v M ad) (hu : SgI u1 k t n) (hg : Gd k t n) (hk : k = 1) (hu' : SgI u2 k' t' n') (hg' : Gd k' t' n') (hk' : k' = 1) (hsx : sx < M) (hP : sgP u1 = nI sx) (hux : SgI x1 kx tx nx) (hgx : Gd kx tx nx) (hkx : kx = 0) (hP' : noX (sgP u2) M) (h0 : rwN w0 = 260) (h1 : rwN w1 = 260) (h : ∀ w0 w1, rwN w0 = 260 → rwN w1 = 260 → post (cS k t n (some (kx, tx, nx)) k' t' n' none) (w0, w1)) : wp_F_sameErased10 post u0 u1 u2 w0 w1 v x1 (ad sx) := by
  unfold wp_F_sameErased10
  rw [hP]
  refine r_findY hF hsx ⟨rfl, ?_⟩
  refine r_findN hF hP' ⟨rfl, ?_⟩
  rw [hu.2.2.2.2.2.2, hu'.2.2.2.2.2.2, nI_1, nI_1]
  refine r_same_loop (sc := (some (kx, tx, nx))) (sc' := none) (E1 := fun post r j => wp_Er_erase post r u1 x1 j) (E2 := fun post r j => wp_Er_eraseN post r u2 j) (W := w_F_sameErased10_38 post u0 u1 u2 v x1 (ad sx)) hu hg hk ⟨hgx, hkx⟩ (fun post r j a b c d => r_eraseS0 hu hg hux hgx hkx a b c d) hu' hg' hk' trivial (fun post r j a b c d => r_eraseN0 hu' hg' a b c d) (fun f y5 y6 y7 w0 w1 z => ?_) h h0 h1
  refine ⟨z.1, fun q => roleAt_mono (fun r16 z2 => ⟨fun q1 => roleAt_mono (fun r15 z3 => ⟨fun q2 => ⟨fun w => absurd rfl w, fun _ => ⟨fun _ => z3.2.2.2 q1 q2, fun w => absurd rfl w⟩⟩, fun q2 => ⟨fun w => absurd rfl w, fun _ => ⟨fun w => absurd w (by decide), fun _ => ⟨fun _ => z3.2.2.1 q1 q2, fun w => absurd rfl w⟩⟩⟩⟩) z2, fun q1 => roleAt_mono (fun r15 z3 => ⟨fun q2 => ⟨fun _ => ⟨fun w => absurd w (by decide), fun _ => ⟨fun _ => z3.2.1 q1 q2, fun w => absurd rfl w⟩⟩, fun w => absurd w (by decide)⟩, fun q2 => ⟨fun _ => ⟨fun w => absurd w (by decide), fun _ => ⟨fun w => absurd w (by decide), fun _ => z3.1 q1 q2⟩⟩, fun w => absurd w (by decide)⟩⟩) z2⟩) (z.2 q)⟩
theorem r_same01 {post : Int32 → (RowC × RowC) → Prop} {u0 : FoC} {v : MaC} {u1 u2 : SgC} {w0 w1 : RowC} {M : Nat} {ad : Nat → Nat} {k k' : Nat} {t t' : Nat → Nat} {n n' : Nat} {x2 : SgC} {ky : Nat} {ty : Nat → Nat} {ny sy : Nat} (hF : FoI u0 v M ad) (hu : SgI u1 k t n) (hg : Gd k t n) (hk : k = 1) (hu' : SgI u2 k' t' n') (hg' : Gd k' t' n') (hk' : k' = 1) (hP : noX (sgP u1) M) (hsy : sy < M) (hP' : sgP u2 = nI sy) (huy : SgI x2 ky ty ny) (hgy : Gd ky ty ny) (hky : ky = 0) (h0 : rwN w0 = 260) (h1 : rwN w1 = 260) (h : ∀ w0 w1, rwN w0 = 260 → rwN w1 = 260 → post (cS k t n none k' t' n' (some (ky, ty, ny))) (w0, w1)) : wp_F_sameErased01 post u0 u1 u2 w0 w1 v x2 (ad sy) := by
  unfold wp_F_sameErased01
  refine r_findN hF hP ⟨rfl, ?_⟩
  rw [hP']
  refine r_findY hF hsy ⟨rfl, ?_⟩
  rw [hu.2.2.2.2.2.2, hu'.2.2.2.2.2.2, nI_1, nI_1]
  refine r_same_loop (sc := none) (sc' := (some (ky, ty, ny))) (E1 := fun post r j => wp_Er_eraseN post r u1 j) (E2 := fun post r j => wp_Er_erase post r u2 x2 j) (W := w_F_sameErased01_38 post u0 u1 u2 v x2 (ad sy)) hu hg hk trivial (fun post r j a b c d => r_eraseN0 hu hg a b c d) hu' hg' hk' ⟨hgy, hky⟩ (fun post r j a b c d => r_eraseS0 hu' hg' huy hgy hky a b c d) (fun f y5 y6 y7 w0 w1 z => ?_) h h0 h1
  refine ⟨z.1, fun q => roleAt_mono (fun r16 z2 => ⟨fun q1 => roleAt_mono (fun r15 z3 => ⟨fun q2 => ⟨fun w => absurd rfl w, fun _ => ⟨fun _ => z3.2.2.2 q1 q2, fun w => absurd rfl w⟩⟩, fun q2 => ⟨fun w => absurd rfl w, fun _ => ⟨fun w => absurd w (by decide), fun _ => ⟨fun _ => z3.2.2.1 q1 q2, fun w => absurd rfl w⟩⟩⟩⟩) z2, fun q1 => roleAt_mono (fun r15 z3 => ⟨fun q2 => ⟨fun _ => ⟨fun w => absurd w (by decide), fun _ => ⟨fun _ => z3.2.1 q1 q2, fun w => absurd rfl w⟩⟩, fun w => absurd w (by decide)⟩, fun q2 => ⟨fun _ => ⟨fun w => absurd w (by decide), fun _ => ⟨fun w => absurd w (by decide), fun _ => z3.1 q1 q2⟩⟩, fun w => absurd w (by decide)⟩⟩) z2⟩) (z.2 q)⟩
theorem r_same11 {post : Int32 → (RowC × RowC) → Prop} {u0 : FoC} {v : MaC} {u1 u2 : SgC} {w0 w1 : RowC} {M : Nat} {ad : Nat → Nat} {k k' : Nat} {t t' : Nat → Nat} {n n' : Nat} {x1 : SgC} {kx : Nat} {tx : Nat → Nat} {nx sx : Nat} {x2 : SgC} {ky : Nat} {ty : Nat → Nat} {ny sy : Nat} (hF : FoI u0 v M ad) (hu : SgI u1 k t n) (hg : Gd k t n) (hk : k = 1) (hu' : SgI u2 k' t' n') (hg' : Gd k' t' n') (hk' : k' = 1) (hsx : sx < M) (hP : sgP u1 = nI sx) (hux : SgI x1 kx tx nx) (hgx : Gd kx tx nx) (hkx : kx = 0) (hsy : sy < M) (hP' : sgP u2 = nI sy) (huy : SgI x2 ky ty ny) (hgy : Gd ky ty ny) (hky : ky = 0) (h0 : rwN w0 = 260) (h1 : rwN w1 = 260) (h : ∀ w0 w1, rwN w0 = 260 → rwN w1 = 260 → post (cS k t n (some (kx, tx, nx)) k' t' n' (some (ky, ty, ny))) (w0, w1)) : wp_F_sameErased11 post u0 u1 u2 w0 w1 v x1 x2 (ad sx) (ad sy) := by
  unfold wp_F_sameErased11
  rw [hP]
  refine r_findY hF hsx ⟨rfl, ?_⟩
  rw [hP']
  refine r_findY hF hsy ⟨rfl, ?_⟩
  rw [hu.2.2.2.2.2.2, hu'.2.2.2.2.2.2, nI_1, nI_1]
  refine r_same_loop (sc := (some (kx, tx, nx))) (sc' := (some (ky, ty, ny))) (E1 := fun post r j => wp_Er_erase post r u1 x1 j) (E2 := fun post r j => wp_Er_erase post r u2 x2 j) (W := w_F_sameErased11_38 post u0 u1 u2 v x1 x2 (ad sx) (ad sy)) hu hg hk ⟨hgx, hkx⟩ (fun post r j a b c d => r_eraseS0 hu hg hux hgx hkx a b c d) hu' hg' hk' ⟨hgy, hky⟩ (fun post r j a b c d => r_eraseS0 hu' hg' huy hgy hky a b c d) (fun f y5 y6 y7 w0 w1 z => ?_) h h0 h1
  refine ⟨z.1, fun q => roleAt_mono (fun r16 z2 => ⟨fun q1 => roleAt_mono (fun r15 z3 => ⟨fun q2 => ⟨fun w => absurd rfl w, fun _ => ⟨fun _ => z3.2.2.2 q1 q2, fun w => absurd rfl w⟩⟩, fun q2 => ⟨fun w => absurd rfl w, fun _ => ⟨fun w => absurd w (by decide), fun _ => ⟨fun _ => z3.2.2.1 q1 q2, fun w => absurd rfl w⟩⟩⟩⟩) z2, fun q1 => roleAt_mono (fun r15 z3 => ⟨fun q2 => ⟨fun _ => ⟨fun w => absurd w (by decide), fun _ => ⟨fun _ => z3.2.1 q1 q2, fun w => absurd rfl w⟩⟩, fun w => absurd w (by decide)⟩, fun q2 => ⟨fun _ => ⟨fun w => absurd w (by decide), fun _ => ⟨fun w => absurd w (by decide), fun _ => z3.1 q1 q2⟩⟩, fun w => absurd w (by decide)⟩⟩) z2⟩) (z.2 q)⟩
