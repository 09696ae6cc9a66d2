/-! a CLASS, a BASE, V: erased -/
/-- a row of characters -/
def RwI (u : RowC) (N : Nat) (L : List Nat) : Prop := rwN u = N ∧ rwS u = nI L.length ∧ L.length ≤ N ∧ ∀ i, i < L.length → rwF u i = nI (L.getD i 0)
theorem nar_c {c : Nat} (hc : c < 128) : vp_nar .char (nI c) = nI c := by unfold vp_nar; rw [(nar_char c hc).1]
theorem r_add {post : Int32 → RowC → Prop} {u : RowC} {N : Nat} {L : List Nat} {c : Nat} (hu : RwI u N L) (hN : N < 2 ^ 20) (hl : L.length < N) (hc : c < 128) (h : ∀ u', RwI u' N (L ++ [c]) → post 1 u') : wp_Rw_add post u (nI c) := by
  obtain ⟨h1, h2, h3, h4⟩ := hu
  have len : (L ++ [c]).length = L.length + 1 := by simp
  unfold wp_Rw_add
  rw [h1, h2, ofN, nI_clamp (by omega), nar_c hc, nI_1]
  refine b_lt (by omega) (by omega) (fun z => ⟨vp_in_nI z (by omega), h _ ⟨rfl, by rw [len], by rw [len]; omega, fun i hi => ?_⟩⟩) (fun z => absurd z (by omega))
  rw [len] at hi
  show upd (rwF u) L.length (nI c) i = _
  rcases Nat.lt_succ_iff_lt_or_eq.mp hi with q | q
  · rw [pk_un (by omega), gD_app q]; exact h4 i q
  · rw [q, pk_us, gD_end]
theorem r_addText {post : RowC → Prop} {u : RowC} {N : Nat} {L : List Nat} {k : Nat} (hu : RwI u N L) (hN : N < 2 ^ 20) (hk : k < ltN) (hl : L.length + (wL k).length ≤ N) (h : ∀ u', RwI u' N (L ++ wL k) → post u') : wp_Rw_addText post u k := by
  unfold wp_Rw_addText
  have hlen := (lt_lens k hk).2
  have hwl : (wL k).length = ltL.getD k 0 := by simp [wL]
  refine lpI (n := ltL.getD k 0) (α := Int32 × RowC) (W := fun f a => w_Rw_addText_2 post f k a.1 a.2) (I := fun j a => a.1 = nI j ∧ RwI a.2 N (L ++ (wL k).take j)) (fun f a hI => ?_) (fun f j a hj hI ih => ?_) 0 (0, u) (by omega) ⟨rfl, by simpa using hu⟩
  · obtain ⟨a1, a2⟩ := a
    obtain ⟨e1, e2⟩ := hI
    dsimp only at e1 e2 ⊢
    subst e1
    refine ⟨hk, r_length hk (b_le (by omega) (by omega) (fun _ => ?_) (fun z => absurd z (by omega)))⟩
    rw [← hwl, List.take_length] at e2
    exact h _ e2
  · obtain ⟨a1, a2⟩ := a
    obtain ⟨e1, e2⟩ := hI
    dsimp only at e1 e2 ⊢
    subst e1
    refine ⟨hk, r_length hk (b_le (by omega) (by omega) (fun z => absurd z (by omega)) (fun _ => ⟨hk, r_charAt hk hj (r_add e2 hN ?_ (lt_chars k hk j hj).2.1 (fun u' hu' => ?_))⟩))⟩
    · simp [hwl]; omega
    · rw [nI_1]
      refine ih (nI (j + 1), u') ⟨rfl, ?_⟩
      rw [wL_take k j hj, ← List.append_assoc]
      exact hu'
def emN (k : Nat) (t : Nat → Nat) (D j : Nat) : List Nat := if (aS k t j).2.1 = D ∧ aR k t j ≠ 15 ∧ aR k t j ≠ 16 then [if aR k t j = 12 then 36 else t j] else []
def np (k : Nat) (t : Nat → Nat) (D s : Nat) : Nat → List Nat
  | 0 => []
  | m + 1 => np k t D s m ++ emN k t D (s + m)
/-- what is left of the CLASS, BASE or V at s -/
def nl (k : Nat) (t : Nat → Nat) (n s : Nat) : List Nat := np k t (aS k t s).2.1 s (tE k t n s + 1 - s)
theorem np_len (k : Nat) (t : Nat → Nat) (D s : Nat) : ∀ m, (np k t D s m).length ≤ m
  | 0 => Nat.le_refl 0
  | m + 1 => by
    have := np_len k t D s m
    show (np k t D s m ++ emN k t D (s + m)).length ≤ m + 1
    rw [List.length_append]
    have : (emN k t D (s + m)).length ≤ 1 := by unfold emN; split <;> simp
    omega
theorem r_eraseNamed {post : RowC → Prop} {u : SgC} {w : RowC} {k : Nat} {t : Nat → Nat} {n s N : Nat} {L : List Nat} (hu : SgI u k t n) (hg : Gd k t n) (hs : TS k t n s) (hw : RwI w N L) (hN : N < 2 ^ 20) (hl : L.length + (tE k t n s + 1 - s) ≤ N) (h : ∀ w', RwI w' N (L ++ nl k t n s) → post w') : wp_Er_eraseNamed post w u (nI s) := by
  unfold wp_Er_eraseNamed
  have hn := hg.2.1
  obtain ⟨a1, a2, a3, a4, a5, a6⟩ := tE_sp hg hs
  refine r_behindType hu hg hs ?_
  have := lpI (n := tE k t n s + 1) (α := Nat × RowC) (W := fun f a => w_Er_eraseNamed_12 post u f (nI (tE k t n s + 1)) (nI ((aS k t a.1).2.1 - (aS k t s).2.1)) (nI a.1) a.2) (I := fun j a => a.1 = j ∧ s ≤ j ∧ RwI a.2 N (L ++ np k t (aS k t s).2.1 s (j - s))) (fun f a hI => ?_) (fun f j a hj hI ih => ?_) s (s, w) (by omega) ⟨rfl, Nat.le_refl _, by rw [Nat.sub_self]; simpa [np] using hw⟩
  · obtain ⟨f, hf⟩ := this
    dsimp only at hf
    rw [Nat.sub_self] at hf
    exact ⟨f, hf⟩
  · obtain ⟨b1, b2⟩ := a
    obtain ⟨e1, e2, e3⟩ := hI
    dsimp only at e1 e2 e3 ⊢
    subst e1
    exact b_le (by omega) (by omega) (fun _ => h _ e3) (fun z => absurd z (by omega))
  · obtain ⟨b1, b2⟩ := a
    obtain ⟨e1, e2, e3⟩ := hI
    dsimp only at e1 e2 e3 ⊢
    subst e1
    have hr := aR_lt k t b1
    have hd := (aS_lt k t b1).2.1
    have q1 := a6 b1 e2 (by omega)
    have hnp := np_len k t (aS k t s).2.1 s (b1 - s)
    have es : np k t (aS k t s).2.1 s (b1 + 1 - s) = np k t (aS k t s).2.1 s (b1 - s) ++ emN k t (aS k t s).2.1 b1 := by
      rw [show b1 + 1 - s = (b1 - s) + 1 by omega]
      show np k t (aS k t s).2.1 s (b1 - s) ++ emN k t (aS k t s).2.1 (s + (b1 - s)) = _
      rw [show s + (b1 - s) = b1 by omega]
    unfold w_Er_eraseNamed_12 wb_Er_eraseNamed_12 w_Er_eraseNamed_83
    refine b_le (by omega) (by omega) (fun z => absurd z (by omega)) (fun _ => r_roleAt hu hn (by omega) ?_)
    rw [gR_in (by omega), nI_1 b1]
    refine b_eq (k := 15) (by omega) (by decide) (fun e => ?_) (fun e15 => b_eq (k := 16) (by omega) (by decide) (fun e => ?_) (fun e16 => ?_))
    · have em : emN k t (aS k t s).2.1 b1 = [] := by unfold emN; rw [if_neg (by omega)]
      have F := ih (b1 + 1, b2) ⟨rfl, by omega, by rw [es, em, List.append_nil]; exact e3⟩
      dsimp only at F
      rw [dep_15 e, show (aS k t b1).2.1 + 1 - (aS k t s).2.1 = (aS k t b1).2.1 - (aS k t s).2.1 + 1 by omega] at F
      rw [nI_1]
      exact F
    · have em : emN k t (aS k t s).2.1 b1 = [] := by unfold emN; rw [if_neg (by omega)]
      have F := ih (b1 + 1, b2) ⟨rfl, by omega, by rw [es, em, List.append_nil]; exact e3⟩
      dsimp only at F
      have hdd := dep_16 e
      have q2 : (aS k t s).2.1 ≤ (aS k t (b1 + 1)).2.1 := by
        rcases Nat.lt_or_ge b1 (tE k t n s) with y | y
        · exact a6 (b1 + 1) (by omega) (by omega)
        · have : b1 = tE k t n s := by omega
          rw [this] at e
          have := eI_iff.mp a4
          omega
      rw [show (aS k t b1).2.1 - (aS k t s).2.1 = ((aS k t (b1 + 1)).2.1 - (aS k t s).2.1) + 1 by omega, mI1]
      exact F
    · have F := fun b' (hb' : RwI b' N (L ++ np k t (aS k t s).2.1 s (b1 + 1 - s))) => ih (b1 + 1, b') ⟨rfl, by omega, hb'⟩
      dsimp only at F
      rw [dep_no e15 e16, es] at F
      have hll : (L ++ np k t (aS k t s).2.1 s (b1 - s)).length < N := by rw [List.length_append]; omega
      refine b_eq (k := 0) (by omega) (by decide) (fun z => ?_) (fun z => F _ ?_)
      · have em : emN k t (aS k t s).2.1 b1 = [if aR k t b1 = 12 then 36 else t b1] := by unfold emN; rw [if_pos ⟨by omega, e15, e16⟩]
        unfold w_Er_eraseNamed_79 w_Er_eraseNamed_83
        rw [nI_1 b1]
        refine b_eq (k := 12) (by omega) (by decide) (fun e12 => ?_) (fun e12 => r_letterAt hu hg (by omega) ?_)
        · refine r_add (c := 36) e3 hN hll (by decide) (fun w' hw' => F w' ?_)
          rw [em, if_pos e12, ← List.append_assoc]
          exact hw'
        · rw [gL_in (by omega)]
          have := (hg.2.2.1 b1 (by omega)).2
          refine r_add e3 hN hll (by omega) (fun w' hw' => F w' ?_)
          rw [em, if_neg e12, ← List.append_assoc]
          exact hw'
      · have em : emN k t (aS k t s).2.1 b1 = [] := by unfold emN; rw [if_neg (by omega)]
        rw [em, List.append_nil]
        exact e3
/-- brackets, both sides -/
theorem rep_snoc (m c : Nat) : List.replicate m c ++ [c] = List.replicate (m + 1) c := (List.replicate_succ').symm
theorem r_eraseBrackets {post : Int32 → RowC → Prop} {u : SgC} {w : RowC} {k : Nat} {t : Nat → Nat} {n s N : Nat} {L : List Nat} (hu : SgI u k t n) (hg : Gd k t n) (hs : TS k t n s) (hw : RwI w N L) (hN : N < 2 ^ 20) (hl : L.length + (nE k t n 19 s - s) ≤ N) (h : ∀ w', RwI w' N (L ++ List.replicate (nE k t n 19 s - s) 91) → post (nI (nE k t n 19 s)) w') : wp_Er_eraseBrackets post w u (nI s) := by
  unfold wp_Er_eraseBrackets
  have hn := hg.2.1
  obtain ⟨b1, b2, b3, b4, b5⟩ := br_sp hg hs
  refine lpI (n := nE k t n 19 s) (α := Nat × RowC) (W := fun f a => w_Er_eraseBrackets_2 post u f (nI a.1) a.2) (I := fun j a => a.1 = j ∧ s ≤ j ∧ RwI a.2 N (L ++ List.replicate (j - s) 91)) (fun f a hI => ?_) (fun f j a hj hI ih => ?_) s (s, w) b1 ⟨rfl, Nat.le_refl _, by rw [Nat.sub_self]; simpa using hw⟩
  · obtain ⟨c1, c2⟩ := a
    obtain ⟨e1, e2, e3⟩ := hI
    dsimp only at e1 e2 e3 ⊢
    subst e1
    unfold w_Er_eraseBrackets_2 wb_Er_eraseBrackets_2
    rw [hu.2.1, ofN]
    refine b_le (by omega) (by omega) (fun z => absurd z (by omega)) (fun _ => r_roleAt hu hn (by omega) ?_)
    rw [gR_in b2]
    exact b_eq (k := 19) (by omega) (by decide) (fun e => by omega) (fun _ => h _ e3)
  · obtain ⟨c1, c2⟩ := a
    obtain ⟨e1, e2, e3⟩ := hI
    dsimp only at e1 e2 e3 ⊢
    subst e1
    unfold w_Er_eraseBrackets_2 wb_Er_eraseBrackets_2
    rw [hu.2.1, ofN]
    have r := b4 c1 e2 hj
    refine b_le (by omega) (by omega) (fun z => absurd z (by omega)) (fun _ => r_roleAt hu hn (by omega) ?_)
    rw [gR_in (by omega)]
    refine b_eq (k := 19) (by omega) (by decide) (fun _ => r_add (c := 91) e3 hN (by rw [List.length_append, List.length_replicate]; omega) (by decide) (fun w' hw' => ?_)) (fun e => absurd r e)
    rw [nI_1]
    refine ih (c1 + 1, w') ⟨rfl, by omega, ?_⟩
    rw [show c1 + 1 - s = (c1 - s) + 1 by omega, ← rep_snoc, ← List.append_assoc]
    exact hw'
/-- the reference: the place behind a TYPE -/
theorem q_behind {post : Int32 → Prop} {u : MoC} {X : XA} {k : Nat} {t : Nat → Nat} {n i s : Nat} (hX : XI X k t n i) (hg : Gd k t n) (hs : TS k t n s) (h21 : aR k t s ≠ 21) (h : post (nI (tE k t n s + 1))) : wp_M_behind post u X.2.1 X.2.2.1 (nI i) (nI s) := by
  unfold wp_M_behind
  have hn := hg.2.1
  have hi := hX.1
  obtain ⟨b1, b2, b3, b4, b5⟩ := br_sp hg hs
  obtain ⟨hT, eT, hle⟩ := br_TS hg hs
  rw [← eT] at h
  have lp := lpN (n := nE k t n 19 s) (W := fun f j => s ≤ j → w_M_behind_2 post u X.2.1 X.2.2.1 f (nI i) (nI j)) (fun f hb => ?_) (fun f j hj ih hb => ?_) s b1
  · obtain ⟨f, hf⟩ := lp
    exact ⟨f, hf (Nat.le_refl _)⟩
  · generalize hbb : nE k t n 19 s = b at *
    have hr := aR_lt k t b
    have hpt := pTr_lt (aR k t b) (gL t n b)
    have i3 := pTr_is (c := gL t n b) 3 19 hr (by decide)
    have i4 := pTr_is (c := gL t n b) 4 20 hr (by decide)
    have i2 := pTr_is (c := gL t n b) 2 6 hr (by decide)
    have hb21 : aR k t b ≠ 21 := by
      intro z
      rcases Nat.eq_or_lt_of_le b1 with q | q
      · rw [← q] at z; exact h21 z
      · obtain ⟨m, rfl⟩ : ∃ m, b = m + 1 := ⟨b - 1, by omega⟩
        have := (stG_of hg b2).2 (by rw [aS_succ]; exact b4 m (by omega) (by omega))
        omega
    have rl := fun (P : Int32 → Prop) (hP : P (nI (pTr (aR k t b) (gL t n b)))) => hX.role (u := u) (post := P) hn (show b < 2 ^ 20 by omega) (by rw [gR_in b2]; exact hP)
    refine rl _ (b_eq (k := 3) (by omega) (by decide) (fun e => by have := i3.mp e; omega) (fun _ => rl _ (b_eq (k := 4) (by omega) (by decide) (fun e => ?_) (fun n4 => rl _ (b_eq (k := 2) (by omega) (by decide) (fun e => ?_) (fun n2 => ?_))))))
    · have r := i4.mp e
      have : tE k t n b = b := tE_is hg hT (Nat.le_refl _) b2 rfl (by rw [r]; decide) (fun i c d => absurd d (by omega))
      rw [this] at h
      rw [nI_1]; exact h
    · have r := i2.mp e
      obtain ⟨v1, v2, v3⟩ := var_end hg b2 r
      rw [v1] at h
      rw [nI_1]
      refine q_nameEnd hX hn (by omega) ?_
      rw [nI_1]; exact h
    · have r9 : aR k t b = 9 := by
        have : aR k t b ≠ 20 := fun z => n4 (i4.mpr z)
        have : aR k t b ≠ 6 := fun z => n2 (i2.mpr z)
        omega
      obtain ⟨a1, a2, a3, a4, a5, a6⟩ := tE_sp hg hT
      have lp2 := lpN (n := tE k t n b) (W := fun f j => b ≤ j → w_M_behind_59 post u X.2.1 X.2.2.1 f (nI i) (nI ((aS k t j).2.1 - (aS k t b).2.1)) (nI j)) (fun f hb => ?_) (fun f j hj ih hb => ?_) b a1
      · obtain ⟨f, hf⟩ := lp2
        have := hf (Nat.le_refl _)
        rw [Nat.sub_self] at this
        exact ⟨f, this⟩
      · unfold w_M_behind_59 wb_M_behind_59 w_M_behind_85 w_M_behind_100
        rw [hX.2.2.2.1, nI_clamp (by omega), hX.2.2.2.2.2.2.2.2.2.2.1, a3, Nat.sub_self]
        have hr2 := aR_lt k t (tE k t n b)
        have hp2 := pTr_lt (aR k t (tE k t n b)) (gL t n (tE k t n b))
        have r14 : aR k t (tE k t n b) = 14 := by
          have := cls_role hg b2 r9 a1 (Nat.le_refl _) a3
          have := eI_iff.mp a4
          omega
        have e9 : pTr (aR k t (tE k t n b)) (gL t n (tE k t n b)) = 9 := (pTr_is 9 14 hr2 (by decide)).mpr r14
        have rl2 := fun (P : Int32 → Prop) (hP : P (nI 9)) => hX.role (u := u) (post := P) hn (show tE k t n b < 2 ^ 20 by omega) (by rw [gR_in a2, e9]; exact hP)
        refine ⟨vp_in_nI (by omega) (by decide), b_le (by omega) (by omega) (fun z => absurd z (by omega)) (fun _ => rl2 _ (b_eq (k := 8) (by decide) (by decide) (fun z => absurd z (by decide)) (fun _ => rl2 _ (b_eq (k := 13) (by decide) (by decide) (fun z => absurd z (by decide)) (fun _ => rl2 _ (b_eq (k := 9) (by decide) (by decide) (fun _ => ⟨fun z => absurd rfl z, fun _ => ?_⟩) (fun z => absurd rfl z)))))))⟩
        rw [nI_1]; exact h
      · unfold w_M_behind_59 wb_M_behind_59 w_M_behind_85 w_M_behind_100 w_M_behind_122
        rw [hX.2.2.2.1, nI_clamp (by omega), hX.2.2.2.2.2.2.2.2.2.2.1, nI_1 j]
        have hr2 := aR_lt k t j
        have hp2 := pTr_lt (aR k t j) (gL t n j)
        have j8 := pTr_is (c := gL t n j) 8 15 hr2 (by decide)
        have j13 := pTr_is (c := gL t n j) 13 16 hr2 (by decide)
        have j9 := pTr_is (c := gL t n j) 9 14 hr2 (by decide)
        have ih := ih (by omega)
        have hd := (aS_lt k t j).2.1
        have q1 := a6 j hb (by omega)
        have q2 := a6 (j + 1) (by omega) (by omega)
        have rl2 := fun (P : Int32 → Prop) (hP : P (nI (pTr (aR k t j) (gL t n j)))) => hX.role (u := u) (post := P) hn (show j < 2 ^ 20 by omega) (by rw [gR_in (show j < n by omega)]; exact hP)
        refine ⟨vp_in_nI (by omega) (by decide), b_le (by omega) (by omega) (fun z => absurd z (by omega)) (fun _ => rl2 _ (b_eq (k := 8) (by omega) (by decide) (fun e8 => rl2 _ (b_eq (k := 13) (by omega) (by decide) (fun e => by omega) (fun _ => rl2 _ (b_eq (k := 9) (by omega) (by decide) (fun e => by omega) (fun _ => ?_))))) (fun n8 => rl2 _ (b_eq (k := 13) (by omega) (by decide) (fun e13 => rl2 _ (b_eq (k := 9) (by omega) (by decide) (fun e => by omega) (fun _ => ?_))) (fun n13 => rl2 _ (b_eq (k := 9) (by omega) (by decide) (fun e9 => ?_) (fun n9 => ?_)))))))⟩
        · have r := j8.mp e8
          rw [dep_15 r, show (aS k t j).2.1 + 1 - (aS k t b).2.1 = (aS k t j).2.1 - (aS k t b).2.1 + 1 by omega] at ih
          rw [nI_1]; exact ih
        · have hdd := dep_16 (j13.mp e13)
          rw [show (aS k t j).2.1 - (aS k t b).2.1 = ((aS k t (j + 1)).2.1 - (aS k t b).2.1) + 1 by omega, mI1]
          exact ih
        · have r := j9.mp e9
          rw [dep_no (by omega) (by omega)] at ih
          refine b_eq (k := 0) (by omega) (by decide) (fun z => absurd ⟨by omega, by rw [r]; decide⟩ (a5 j hb (by omega))) (fun _ => ih)
        · have n15 : aR k t j ≠ 15 := fun z => n8 (j8.mpr z)
          have n16 : aR k t j ≠ 16 := fun z => n13 (j13.mpr z)
          rw [dep_no n15 n16] at ih
          exact ih
  · have r := b4 j hb hj
    have hr := aR_lt k t j
    have hpt := pTr_lt (aR k t j) (gL t n j)
    have i3 := (pTr_is (c := gL t n j) 3 19 hr (by decide)).mpr r
    refine hX.role hn (by omega) ?_
    rw [gR_in (by omega), i3]
    refine b_eq (k := 3) (by decide) (by decide) (fun _ => ?_) (fun z => absurd rfl z)
    rw [nI_1]
    exact ih (by omega)
