/-! the reference's calls: the same answers -/
def MZ (u : MoC) (ln : IaC) (X : XA) (x5 st o p : IaC) (m : ZaC) (z : ST) : Prop :=
  moN u = nI (zN z) ∧ moM u = nI (zM z) ∧ iaN ln = 40 ∧ (∀ j, j < zN z → iaF ln j = nI (zT z j)) ∧ XZ X ∧ iaN x5 = 25 ∧ (∀ i, i < zM z → XI X (zG z i).1 (zG z i).2.1 (zG z i).2.2 i ∧ iaF x5 i = oI (zS z i)) ∧ iaN st = 130 ∧ iaN o = 5000 ∧ iaN p = 5000 ∧ zaN m = 500
section MO
variable {u : MoC} {ln : IaC} {X : XA} {x5 st o p : IaC} {m : ZaC} {z : ST} {x y v : Int32}
theorem MZ.scq (h : MZ u ln X x5 st o p m z) (hz : VS z) {i : Nat} (hi : i < zM z) : ScQ X x5 i (zC z i) := by
  unfold ScQ
  have h5 := (h.2.2.2.2.2.2.1 i hi).2
  cases hs : zS z i with
  | none => rw [zC_N hs]; rw [hs] at h5; exact h5
  | some j =>
    rw [zC_S hs]
    rw [hs] at h5
    obtain ⟨h1, h2, h3⟩ := hz.2.2.1 i j hi hs
    exact ⟨j, h5, h2, (h.2.2.2.2.2.2.1 j h1).1⟩
theorem MZ.sci (h : MZ u ln X x5 st o p m z) (hz : VS z) {i : Nat} (hi : i < zM z) : ScI X x5 i (zC z i) := by
  unfold ScI
  have h5 := (h.2.2.2.2.2.2.1 i hi).2
  cases hs : zS z i with
  | none => rw [zC_N hs]; rw [hs] at h5; exact h5
  | some j =>
    rw [zC_S hs]
    rw [hs] at h5
    obtain ⟨h1, h2, h3⟩ := hz.2.2.1 i j hi hs
    exact ⟨j, h5, (h.2.2.2.2.2.2.1 j h1).1, hz.2.1 j h1⟩
theorem mo_kind {post : Int32 → Prop} (h : MZ u ln X x5 st o p m z) (hz : VS z) (hp : post (aKi z x)) : wp_M_kind post u X.2.2.2.1 x := by
  unfold wp_M_kind
  have hM := hz.1
  rcases cs_x x (zM z) with ⟨i, hi, rfl⟩ | hx
  · rw [aKi, ix_Y hi (by omega)] at hp
    have hX := (h.2.2.2.2.2.2.1 i hi).1
    refine q_noY h.2.1 hM hi ⟨fun _ => ⟨by rw [h.2.2.2.2.1.2.2.2.1]; exact vp_in_nI (by omega) (by decide), ?_⟩, fun c => absurd rfl c⟩
    rw [nI_clamp (by omega), hX.2.2.2.2.2.2.2.2.2.2.2.1]
    exact hp
  · rw [aKi, ix_N hx] at hp
    exact q_noN h.2.1 hM hx ⟨fun c => absurd c (by decide), fun _ => hp⟩
theorem mo_parameters {post : Int32 → Prop} (h : MZ u ln X x5 st o p m z) (hz : VS z) (hp : post (aPa z x)) : wp_M_parameters post u X.2.2.2.2.2.2.2.2 x := by
  unfold wp_M_parameters
  have hM := hz.1
  rcases cs_x x (zM z) with ⟨i, hi, rfl⟩ | hx
  · rw [aPa, ix_Y hi (by omega)] at hp
    have hX := (h.2.2.2.2.2.2.1 i hi).1
    refine q_noY h.2.1 hM hi ⟨fun _ => ⟨by rw [h.2.2.2.2.1.2.2.2.2.2.2.2.2]; exact vp_in_nI (by omega) (by decide), ?_⟩, fun c => absurd rfl c⟩
    rw [nI_clamp (by omega), hX.2.2.2.2.2.2.2.2.2.2.2.2.2.2.1]
    exact hp
  · rw [aPa, ix_N hx] at hp
    exact q_noN h.2.1 hM hx ⟨fun c => absurd c (by decide), fun _ => hp⟩
theorem mo_bounds {post : Int32 → Prop} (h : MZ u ln X x5 st o p m z) (hz : VS z) (hp : post (aBo z x y)) : wp_M_bounds post u X.2.2.2.2.2.2.2.1 X.2.2.2.2.2.2.2.2 x y := by
  have hM := hz.1
  rcases cs_x x (zM z) with ⟨i, hi, rfl⟩ | hx
  · rw [aBo, ix_Y hi (by omega)] at hp
    simp only [] at hp
    have hX := (h.2.2.2.2.2.2.1 i hi).1
    have hg := hz.2.1 i hi
    have hc : zc z i ≤ 20 := hg.2.2.2.2.2
    rcases cs_x y (zc z i) with ⟨j, hj, rfl⟩ | hy
    · rw [ix_Y hj (by omega)] at hp
      exact q_bounds h.2.1 hM hi hX hg hj hp
    · rw [ix_N hy] at hp
      exact q_boundsN h.2.1 hM hi hX hg hy hp
  · rw [aBo, ix_N hx] at hp
    unfold wp_M_bounds
    exact q_noN h.2.1 hM hx ⟨fun _ => hp, fun c => absurd c (by decide)⟩
theorem mo_measure {post : Int32 → Prop} (h : MZ u ln X x5 st o p m z) (hz : VS z) (hp : post (aMe z x y)) : wp_M_measure post u X.1 X.2.1 X.2.2.1 x5 X.2.2.2.2.1 X.2.2.2.2.2.1 X.2.2.2.2.2.2.2.2 x y := by
  have hM := hz.1
  rcases cs_x x (zM z) with ⟨i, hi, rfl⟩ | hx
  · rw [aMe, ix_Y hi (by omega)] at hp
    simp only [] at hp
    have hX := (h.2.2.2.2.2.2.1 i hi).1
    have hg := hz.2.1 i hi
    rcases cs_x y 6 with ⟨w, hw, rfl⟩ | hy
    · rw [ix_Y hw (by decide)] at hp
      exact q_measure h.2.1 hM hi hX hg h.2.2.2.2.2.1 (h.sci hz hi) hw hp
    · rw [ix_N hy] at hp
      unfold wp_M_measure
      refine q_noY h.2.1 hM hi ⟨fun c => absurd rfl c, fun _ => ⟨fun _ => hp, fun c => ⟨fun d => ?_, fun _ => hp⟩⟩⟩
      obtain ⟨j, hj, e⟩ := nI_of2 (n := 5) (by decide) c d
      exact absurd e (hy j (by omega))
  · rw [aMe, ix_N hx] at hp
    unfold wp_M_measure
    exact q_noN h.2.1 hM hx ⟨fun _ => hp, fun c => absurd c (by decide)⟩
theorem mo_alike {post : Int32 → Prop} (h : MZ u ln X x5 st o p m z) (hz : VS z) (hp : post (aAl z x y)) : wp_M_alike post u X.1 X.2.1 X.2.2.1 X.2.2.2.1 X.2.2.2.2.1 X.2.2.2.2.2.1 X.2.2.2.2.2.2.2.2 x y := by
  have hM := hz.1
  rcases cs_x x (zM z) with ⟨i, hi, rfl⟩ | hx
  · rw [aAl, ix_Y hi (by omega)] at hp
    simp only [] at hp
    have hX := (h.2.2.2.2.2.2.1 i hi).1
    have hg := hz.2.1 i hi
    rcases cs_x y (zM z) with ⟨j, hj, rfl⟩ | hy
    · rw [ix_Y hj (by omega)] at hp
      simp only [] at hp
      have hX' := (h.2.2.2.2.2.2.1 j hj).1
      have hg' := hz.2.1 j hj
      have hc : zc z i ≤ 20 := hg.2.2.2.2.2
      have hc' : zc z j ≤ 20 := hg'.2.2.2.2.2
      by_cases e : (zG z i).1 = (zG z j).1 ∧ zc z i = zc z j
      · rw [if_pos e] at hp
        obtain ⟨ek, em⟩ := e
        have em : aC (zG z i).1 (zG z i).2.1 (zG z i).2.2 = aC (zG z i).1 (zG z j).2.1 (zG z j).2.2 := by
          rw [show zc z i = aC (zG z i).1 (zG z i).2.1 (zG z i).2.2 from rfl, show zc z j = aC (zG z j).1 (zG z j).2.1 (zG z j).2.2 from rfl, ← ek] at em
          exact em
        rw [← ek] at hX' hg'
        exact q_alike h.2.1 hM hi hj hX hg hX' hg' em hp
      · rw [if_neg e] at hp
        unfold wp_M_alike
        refine q_noY h.2.1 hM hi ⟨fun c => absurd rfl c, fun _ => q_noY h.2.1 hM hj ⟨fun _ => ?_, fun c => absurd rfl c⟩⟩
        have g1 := h.2.2.2.2.1.2.2.2.1
        have g2 := h.2.2.2.2.1.2.2.2.2.2.2.2.2
        rw [nI_clamp (by omega), nI_clamp (by omega), hX.2.2.2.2.2.2.2.2.2.2.2.1, hX'.2.2.2.2.2.2.2.2.2.2.2.1, hX.2.2.2.2.2.2.2.2.2.2.2.2.2.2.1, hX'.2.2.2.2.2.2.2.2.2.2.2.2.2.2.1, g1, g2]
        refine ⟨vp_in_nI (by omega) (by decide), vp_in_nI (by omega) (by decide), fun _ => hp, fun c => ⟨vp_in_nI (by omega) (by decide), vp_in_nI (by omega) (by decide), fun d => ?_, fun _ => hp⟩⟩
        refine absurd ⟨?_, ?_⟩ e
        · exact (nI_eq (by have := hg.1; omega) (by have := hg'.1; omega)).mp c
        · exact (nI_eq (by omega) (by omega)).mp d
    · rw [ix_N hy] at hp
      unfold wp_M_alike
      exact q_noY h.2.1 hM hi ⟨fun c => absurd rfl c, fun _ => q_noN h.2.1 hM hy ⟨fun c => absurd c (by decide), fun _ => hp⟩⟩
  · rw [aAl, ix_N hx] at hp
    unfold wp_M_alike
    exact q_noN h.2.1 hM hx ⟨fun _ => hp, fun c => absurd c (by decide)⟩
theorem MZ.of {u' : MoC} {st' o' p' : IaC} {m' : ZaC} (h : MZ u ln X x5 st o p m z) (h1 : moN u' = moN u) (h2 : moM u' = moM u) (h3 : iaN st' = 130) (h4 : iaN o' = 5000) (h5 : iaN p' = 5000) (h6 : zaN m' = 500) : MZ u' ln X x5 st' o' p' m' z :=
  ⟨h1.trans h.1, h2.trans h.2.1, h.2.2.1, h.2.2.2.1, h.2.2.2.2.1, h.2.2.2.2.2.1, h.2.2.2.2.2.2.1, h3, h4, h5, h6⟩
theorem mo_clash {post : Int32 → (MoC × IaC × IaC × ZaC) → Prop} (h : MZ u ln X x5 st o p m z) (hz : VS z) (hp : ∀ u' o' p' m', MZ u' ln X x5 st o' p' m' z → post (aCl z x y) (u', o', p', m')) : wp_M_clash post u X.1 X.2.1 X.2.2.1 X.2.2.2.1 x5 X.2.2.2.2.1 X.2.2.2.2.2.1 X.2.2.2.2.2.2.1 X.2.2.2.2.2.2.2.2 o p m x y := by
  have hM := hz.1
  obtain ⟨-, -, -, -, g1, g5, gi, g8, g9, g10, g11⟩ := id h
  rcases cs_x x (zM z) with ⟨i, hi, rfl⟩ | hx
  · rw [aCl, ix_Y hi (by omega)] at hp
    simp only [] at hp
    have hX := (gi i hi).1
    have hg := hz.2.1 i hi
    rcases cs_x y (zM z) with ⟨j, hj, rfl⟩ | hy
    · rw [ix_Y hj (by omega)] at hp
      simp only [] at hp
      have hX' := (gi j hj).1
      have hg' := hz.2.1 j hj
      by_cases e : (zG z i).1 = 1 ∧ (zG z j).1 = 1
      · rw [if_pos e] at hp
        exact q_clash h.2.1 hM hi hj hX hg hX' hg' g5 (h.scq hz hi) (ScG_Z hz hi) (h.scq hz hj) (ScG_Z hz hj) e.1 e.2 g9 g10 g11 (fun u' o' p' m' h1 h2 h3 h4 h6 => hp u' o' p' m' (h.of h1 h2 g8 h3 h4 h6))
      · rw [if_neg e] at hp
        unfold wp_M_clash
        refine q_noY h.2.1 hM hi ⟨fun c => absurd rfl c, fun _ => q_noY h.2.1 hM hj ⟨fun c => absurd rfl c, fun _ => ?_⟩⟩
        rw [nI_clamp (by omega), nI_clamp (by omega), hX.2.2.2.2.2.2.2.2.2.2.2.1, hX'.2.2.2.2.2.2.2.2.2.2.2.1, g1.2.2.2.1]
        refine ⟨vp_in_nI (by omega) (by decide), fun _ => hp _ _ _ _ h, fun c => ⟨vp_in_nI (by omega) (by decide), fun d => ?_, fun _ => hp _ _ _ _ h⟩⟩
        exact absurd ⟨(nI1 hg.1).mp c, (nI1 hg'.1).mp d⟩ e
    · rw [ix_N hy] at hp
      unfold wp_M_clash
      exact q_noY h.2.1 hM hi ⟨fun c => absurd rfl c, fun _ => q_noN h.2.1 hM hy ⟨fun _ => hp _ _ _ _ h, fun c => absurd c (by decide)⟩⟩
  · rw [aCl, ix_N hx] at hp
    unfold wp_M_clash
    exact q_noN h.2.1 hM hx ⟨fun _ => hp _ _ _ _ h, fun c => absurd c (by decide)⟩
theorem mo_text {post : Int32 → (MoC × IaC × IaC × ZaC) → Prop} (h : MZ u ln X x5 st o p m z) (hz : VS z) (hp : ∀ u' st' o' m', MZ u' ln X x5 st' o' p m' z → post (aTx z x y v) (u', st', o', m')) : wp_M_text post u X.1 X.2.1 X.2.2.1 X.2.2.2.1 x5 X.2.2.2.2.1 X.2.2.2.2.2.1 X.2.2.2.2.2.2.1 X.2.2.2.2.2.2.2.2 st o m x y v := by
  unfold wp_M_text
  have hM := hz.1
  obtain ⟨-, -, -, -, g1, g5, gi, g8, g9, g10, g11⟩ := id h
  have no : (noX x (zM z) ∨ noX y 3) → aTx z x y v = -1 := by
    rintro (e | e)
    · rw [aTx, ix_N e]
    · rw [aTx, ix_N e]
      cases ix (zM z) x <;> rfl
  rcases cs_x x (zM z) with ⟨i, hi, rfl⟩ | hx
  · rcases cs_x y 3 with ⟨w, hw, rfl⟩ | hy
    · rw [aTx, ix_Y hi (by omega), ix_Y hw (by decide)] at hp
      simp only [] at hp
      have hg := hz.2.1 i hi
      refine q_make h.2.1 hM hi (gi i hi).1 hg g5 (h.scq hz hi) (ScG_Z hz hi) g8 g9 g11 hw (fun u' a' o' m' h1 h2 h3 h4 h6 => ⟨fun c => absurd c (by decide), fun _ => ?_⟩)
      exact atI_out (Q := fun r => post r (u', a', o', m')) h6 (tX_len hg (ScG_Z hz hi)) (hp u' a' o' m' (h.of h1 h2 h3 h6.2.1 g10 h4))
    · rw [no (Or.inr hy)] at hp
      exact q_makeN h.2.1 hM (Or.inr hy) ⟨fun _ => hp _ _ _ _ (h.of rfl rfl g8 g9 g10 g11), fun c => absurd rfl c⟩
  · rw [no (Or.inl hx)] at hp
    exact q_makeN h.2.1 hM (Or.inl hx) ⟨fun _ => hp _ _ _ _ (h.of rfl rfl g8 g9 g10 g11), fun c => absurd rfl c⟩
theorem mo_length {post : Int32 → (MoC × IaC × IaC × ZaC) → Prop} (h : MZ u ln X x5 st o p m z) (hz : VS z) (hp : ∀ u' st' o' m', MZ u' ln X x5 st' o' p m' z → post (aLe z x y) (u', st', o', m')) : wp_M_length post u X.1 X.2.1 X.2.2.1 X.2.2.2.1 x5 X.2.2.2.2.1 X.2.2.2.2.2.1 X.2.2.2.2.2.2.1 X.2.2.2.2.2.2.2.2 st o m x y := by
  unfold wp_M_length
  have hM := hz.1
  obtain ⟨-, -, -, -, g1, g5, gi, g8, g9, g10, g11⟩ := id h
  have no : (noX x (zM z) ∨ noX y 3) → aLe z x y = -100 := by
    rintro (e | e)
    · rw [aLe, ix_N e]
    · rw [aLe, ix_N e]
      cases ix (zM z) x <;> rfl
  rcases cs_x x (zM z) with ⟨i, hi, rfl⟩ | hx
  · rcases cs_x y 3 with ⟨w, hw, rfl⟩ | hy
    · rw [aLe, ix_Y hi (by omega), ix_Y hw (by decide)] at hp
      simp only [] at hp
      have hg := hz.2.1 i hi
      refine q_make h.2.1 hM hi (gi i hi).1 hg g5 (h.scq hz hi) (ScG_Z hz hi) g8 g9 g11 hw (fun u' a' o' m' h1 h2 h3 h4 h6 => ⟨fun c => absurd c (by decide), fun _ => ?_⟩)
      rw [h6.1]
      exact hp u' a' o' m' (h.of h1 h2 h3 h6.2.1 g10 h4)
    · rw [no (Or.inr hy)] at hp
      exact q_makeN h.2.1 hM (Or.inr hy) ⟨fun _ => hp _ _ _ _ (h.of rfl rfl g8 g9 g10 g11), fun c => absurd rfl c⟩
  · rw [no (Or.inl hx)] at hp
    exact q_makeN h.2.1 hM (Or.inl hx) ⟨fun _ => hp _ _ _ _ (h.of rfl rfl g8 g9 g10 g11), fun c => absurd rfl c⟩
theorem mo_count {post : Int32 → Prop} (h : MZ u ln X x5 st o p m z) (hp : post (aCo z x)) : wp_M_count post u x := by
  unfold wp_M_count
  rw [aCo] at hp
  refine ⟨fun c => ⟨fun d => ?_, fun d => ?_⟩, fun c => ?_⟩
  · rw [if_neg c, if_neg d] at hp
    exact hp
  · rw [if_neg c, if_pos d] at hp
    rw [h.1]
    exact hp
  · rw [if_pos c] at hp
    rw [h.2.1]
    exact hp
theorem mo_clear {post : MoC → Prop} (h : MZ u ln X x5 st o p m z) (hp : ∀ u', MZ u' ln X x5 st o p m (clS z) → post u') : wp_M_clear post u := by
  unfold wp_M_clear
  obtain ⟨g0, g1, g2, g3, g4⟩ := h
  exact hp _ ⟨rfl, g1, g2, fun j hj => absurd (show j < 0 from hj) (by omega), g4⟩
theorem mo_type {post : Int32 → (MoC × IaC) → Prop} (h : MZ u ln X x5 st o p m z) (hz : VS z) (hp : ∀ u' ln', MZ u' ln' X x5 st o p m (tyS z x) → post (tyA z x) (u', ln')) : wp_M_type post u ln x := by
  unfold wp_M_type
  have hn := hz.2.2.2.1
  have h0 := h
  obtain ⟨g0, g1, g2, g3, g4⟩ := h
  refine ⟨fun c => ?_, fun c => ⟨fun d => ?_, fun d => ⟨fun e => ?_, fun e => ?_⟩⟩⟩
  · have := isT_N (z := z) (x := x) (fun g => g.1 c)
    rw [this.1, this.2] at hp
    exact hp _ _ h0
  · have := isT_N (z := z) (x := x) (fun g => g.2.1 d)
    rw [this.1, this.2] at hp
    exact hp _ _ h0
  · rw [g0] at e
    have hn2 : zN z ≠ 40 := fun g => e (by rw [g]; rfl)
    have := isT_S (z := z) (x := x) ⟨c, d, by omega⟩
    rw [this.1, this.2] at hp
    obtain ⟨k1, k2, k3⟩ := ty_nat c d
    rw [g0, g2, nI_clamp (by omega), nI_1]
    refine ⟨vp_in_nI (by omega) (by decide), hp _ _ ⟨rfl, g1, rfl, fun j hj => ?_, g4⟩⟩
    have hj : j < zN z + 1 := hj
    show upd (iaF ln) (zN z) x j = nI (if j = zN z then x.toNatClampNeg else zT z j)
    by_cases e2 : j = zN z
    · rw [if_pos e2, e2, pk_us]
      exact k1
    · rw [if_neg e2, pk_un e2]
      exact g3 j (by omega)
  · rw [g0] at e
    have hn2 : zN z = 40 := (nI_eq (by omega) (by omega)).mp (show nI (zN z) = nI 40 from e)
    have := isT_N (z := z) (x := x) (fun g => by have := g.2.2; omega)
    rw [this.1, this.2] at hp
    exact hp _ _ h0
theorem mo_scope {post : Int32 → IaC → Prop} (h : MZ u ln X x5 st o p m z) (hz : VS z) (hp : ∀ x5', MZ u ln X x5' st o p m (scS z x y) → post (scA z x y) x5') : wp_M_scope post u X.2.2.2.1 x5 x y := by
  unfold wp_M_scope
  have hM := hz.1
  obtain ⟨g0, g1, g2, g3, gX, g5, gi, g6⟩ := id h
  have put : ∀ i, i < zM z → x = nI i → isS z x y → y = oI (ix (zM z) y) → w_M_scope_38 post u X.2.2.2.1 x y x5 := by
    intro i hi e hS hy
    subst e
    rw [(isS_S hS).1, (isS_S hS).2, nI_clamp (by omega)] at hp
    unfold w_M_scope_38
    rw [g5, nI_clamp (by omega)]
    refine ⟨vp_in_nI (by omega) (by decide), vp_in_nI (by omega) (by decide), ?_⟩
    rw [(gi i hi).2]
    refine hp _ ⟨g0, g1, g2, g3, gX, rfl, fun q hq => ⟨(gi q hq).1, ?_⟩, g6⟩
    show upd (iaF x5) i y q = oI (if q = i then ix (zM z) y else zS z q)
    by_cases e : q = i
    · rw [if_pos e, e, pk_us]
      exact hy
    · rw [if_neg e, pk_un e]
      exact (gi q hq).2
  have nop : ¬ isS z x y → post (-100) x5 := by
    intro hS
    rw [(isS_N hS).1, (isS_N hS).2] at hp
    exact hp _ h
  rcases cs_x x (zM z) with ⟨i, hi, rfl⟩ | hx
  · refine q_noY g1 hM hi ⟨fun c => absurd rfl c, fun _ => ⟨fun c => put i hi rfl ⟨i, hi, rfl, Or.inl c⟩ (by rw [c, ix_N (noX_m1 (by omega))]; rfl), fun c => ?_⟩⟩
    rcases cs_x y (zM z) with ⟨j, hj, rfl⟩ | hy
    · refine q_noY g1 hM hj ⟨fun c => absurd rfl c, fun _ => ?_⟩
      rw [nI_clamp (by omega), (gi j hj).1.2.2.2.2.2.2.2.2.2.2.2.1, gX.2.2.2.1]
      have hk := (hz.2.1 j hj).1
      refine ⟨vp_in_nI (by omega) (by decide), fun d => nop ?_, fun d => ⟨fun e => put i hi rfl ⟨i, hi, rfl, Or.inr ⟨j, hj, rfl, fun g => e (by rw [g]), (nI_eq (by omega) (by omega)).mp (show nI (zG z j).1 = nI 0 from d)⟩⟩ (by rw [ix_Y hj (by omega)]; rfl), fun e => nop ?_⟩⟩
      · rintro ⟨i', hi', e, g | ⟨j', hj', g, g2, g3⟩⟩
        · exact c g
        · have h2 := (nI_eq (by omega) (by omega)).mp g
          rw [← h2] at g3
          rw [g3] at d
          exact d rfl
      · rintro ⟨i', hi', e', g | ⟨j', hj', g, g2, g3⟩⟩
        · exact c g
        · have h1 := (nI_eq (by omega) (by omega)).mp e'
          have h2 := (nI_eq (by omega) (by omega)).mp g
          have h3 := (nI_eq (by omega) (by omega)).mp e
          omega
    · refine q_noN g1 hM hy ⟨fun _ => nop ?_, fun c => absurd c (by decide)⟩
      rintro ⟨i', hi', e, g | ⟨j', hj', g, -⟩⟩
      · exact c g
      · exact hy j' hj' g
  · refine q_noN g1 hM hx ⟨fun _ => nop ?_, fun c => absurd c (by decide)⟩
    rintro ⟨i', hi', e, -⟩
    exact hx i' hi' e
theorem MZ.ks {u' : MoC} {X' : XA} {x5' st' o' p' : IaC} {m' : ZaC} {n : Nat} {g : SG} {c : Option Nat} (h : MZ u ln X x5 st o p m z) (hz : VS z) (h1 : moN u' = nI n) (h2 : moM u' = nI (zM z + 1)) (hn : n ≤ zN z) (hk : KS (zM z) X X' x5 x5') (hx : XI X' g.1 g.2.1 g.2.2 (zM z)) (hc : iaF x5' (zM z) = oI c) (h3 : iaN st' = 130) (h4 : iaN o' = 5000) (h5 : iaN p' = 5000) (h6 : zaN m' = 500) : MZ u' ln X' x5' st' o' p' m' (pS z g c n) := by
  obtain ⟨g0, g1, g2, g3, g4, g5, gi, g6⟩ := h
  refine ⟨h1, h2, g2, fun j hj => g3 j (by have : j < n := hj; omega), hk.1, hk.2.1, fun i hi => ?_, h3, h4, h5, h6⟩
  have hi : i < zM z + 1 := hi
  show XI X' (if i = zM z then g else zG z i).1 (if i = zM z then g else zG z i).2.1 (if i = zM z then g else zG z i).2.2 i ∧ iaF x5' i = oI (if i = zM z then c else zS z i)
  by_cases e : i = zM z
  · rw [if_pos e, if_pos e, e]
    exact ⟨hx, hc⟩
  · rw [if_neg e, if_neg e, (hk.2.2.2.2 i (by omega)).2.2.2]
    exact ⟨hk.xi (by omega) (gi i (by omega)).1 (hz.2.1 i (by omega)), (gi i (by omega)).2⟩
theorem MZ.ks0 {u' : MoC} {X' : XA} {st' o' p' : IaC} {m' : ZaC} (h : MZ u ln X x5 st o p m z) (hz : VS z) (h1 : moN u' = nI (zN z)) (h2 : moM u' = nI (zM z)) (hk : KS (zM z) X X' x5 x5) (h3 : iaN st' = 130) (h4 : iaN o' = 5000) (h5 : iaN p' = 5000) (h6 : zaN m' = 500) : MZ u' ln X' x5 st' o' p' m' z := by
  obtain ⟨g0, g1, g2, g3, g4, g5, gi, g6⟩ := h
  exact ⟨h1, h2, g2, g3, hk.1, g5, fun i hi => ⟨hk.xi hi (gi i hi).1 (hz.2.1 i hi), (gi i hi).2⟩, h3, h4, h5, h6⟩
theorem mo_read {post : Int32 → (MoC × IaC × IaC × IaC × IaC × IaC × IaC × IaC × IaC × IaC × IaC × IaC) → Prop} (h : MZ u ln X x5 st o p m z) (hz : VS z) (hp : ∀ u' X' x5' st', MZ u' ln X' x5' st' o p m (rdS z x) → post (rdA z x) (u', X'.1, X'.2.1, X'.2.2.1, X'.2.2.2.1, x5', X'.2.2.2.2.1, X'.2.2.2.2.2.1, X'.2.2.2.2.2.2.1, X'.2.2.2.2.2.2.2.1, X'.2.2.2.2.2.2.2.2, st')) :
    wp_M_read post u ln X.1 X.2.1 X.2.2.1 X.2.2.2.1 x5 X.2.2.2.2.1 X.2.2.2.2.2.1 X.2.2.2.2.2.2.1 X.2.2.2.2.2.2.2.1 X.2.2.2.2.2.2.2.2 st x := by
  have hM := hz.1
  obtain ⟨g0, g1, g2, g3, g4, g5, gi, g8, g9, g10, g11⟩ := id h
  rcases cs_x x 3 with ⟨k, hk, rfl⟩ | hx
  · refine q_read g1 hM g0 hz.2.2.2.1 g2 (fun j hj => ⟨g3 j hj, hz.2.2.2.2 j hj⟩) g4 g5 g8 hk (fun a u' X' st' hF h1 h2 h3 h4 => ?_) (fun ho hM' u' X' st' h1 h2 h3 h4 => ?_) (fun ho hM' u' X' x5' st' h1 h2 h3 h4 h5 h6 => ?_)
    · have hR : ¬ isR z (nI k) := by
        rintro ⟨k', hk', e, ho, -⟩
        have := (nI_eq (by omega) (by omega)).mp e
        subst this
        exact FA_no hF ho
      rw [(isR_N hR).1, (isR_N hR).2, ix_Y hk (by decide)] at hp
      have h9 := hp u' X' x5 st' (h.ks0 hz h1 h2 h3 h4 g9 g10 g11)
      simp only [aRd_eq hF] at h9
      exact h9
    · have hR : ¬ isR z (nI k) := by
        rintro ⟨k', hk', e, -, hM2⟩
        omega
      rw [(isR_N hR).1, (isR_N hR).2, ix_Y hk (by decide)] at hp
      have h9 := hp u' X' x5 st' (h.ks0 hz h1 h2 h3 h4 g9 g10 g11)
      simp only [aRd_ok ho] at h9
      exact h9
    · have hR : isR z (nI k) := ⟨k, hk, rfl, ho, hM'⟩
      rw [(isR_S hR).1, (isR_S hR).2, nI_clamp (by omega)] at hp
      exact hp u' X' x5' st' (h.ks hz (n := 0) (by rw [h1]; rfl) h2 (by omega) h3 h4 h5 h6 g9 g10 g11)
  · have hR : ¬ isR z x := fun ⟨k, hk, e, _⟩ => hx k hk e
    rw [(isR_N hR).1, (isR_N hR).2, ix_N hx] at hp
    exact q_readX hx (hp _ _ _ _ h)
theorem mo_fill {post : Int32 → FT → Prop} (h : MZ u ln X x5 st o p m z) (hz : VS z) (hp : ∀ u' X' x5' st' o', MZ u' ln X' x5' st' o' p m (flS z x y v) → post (flA z x y v) (mkT u' X' x5' st' o')) :
    wp_M_fill post u X.1 X.2.1 X.2.2.1 X.2.2.2.1 x5 X.2.2.2.2.1 X.2.2.2.2.2.1 X.2.2.2.2.2.2.1 X.2.2.2.2.2.2.2.1 X.2.2.2.2.2.2.2.2 st o x y v := by
  have hM := hz.1
  obtain ⟨g0, g1, g2, g3, g4, g5, gi, g8, g9, g10, g11⟩ := id h
  have nop : ¬ isF z x y v → post (-100) (mkT u X x5 st o) := by
    intro hS
    rw [(isF_N hS).1, (isF_N hS).2] at hp
    exact hp _ _ _ _ _ h
  rcases cs_x x (zM z) with ⟨i, hi, rfl⟩ | hx
  · rcases cs_x v (zM z) with ⟨j, hj, rfl⟩ | hv
    · have hg := hz.2.1 i hi
      have hf := hz.2.1 j hj
      have hc : zc z i ≤ 20 := hg.2.2.2.2.2
      refine q_fill g1 hM hi hj (gi i hi).1 hg (gi j hj).1 hf g4 g5 g8 g9 (fun hno u' X' st' o' h1 h2 h3 h4 h5 => ?_) (fun e he ey hk ho hM2 u' X' x5' st' o' h1 h2 h3 h4 h5 h6 h7 => ?_)
      · have hF : ¬ isF z (nI i) y (nI j) := by
          rintro ⟨i', j', e, hi', hj', e1, e2, hk, he, ey, ho, hM2⟩
          have q1 := (nI_eq (by omega) (by omega)).mp e1
          have q2 := (nI_eq (by omega) (by omega)).mp e2
          subst q1
          subst q2
          have := hno e he ey hk ho
          omega
        rw [(isF_N hF).1, (isF_N hF).2] at hp
        exact hp _ _ _ _ _ (h.ks0 hz (h1.trans g0) h2 h3 h4 h5 g10 g11)
      · subst ey
        have he' : e < zc z i := he
        have hF : isF z (nI i) (nI e) (nI j) := ⟨i, j, e, hi, hj, rfl, rfl, hk, he, rfl, ho, hM2⟩
        rw [(isF_S hF).1, (isF_S hF).2, nI_clamp (by omega), nI_clamp (by omega), nI_clamp (by omega)] at hp
        exact hp _ _ _ _ _ (h.ks (g := flG z i e j) hz (h1.trans g0) h2 (by omega) h3 h4 (h5.trans (gi i hi).2) h6 h7 g10 g11)
    · unfold wp_M_fill
      refine q_noY g1 hM hi ⟨fun c => absurd rfl c, fun _ => q_noN g1 hM hv ⟨fun _ => nop ?_, fun c => absurd c (by decide)⟩⟩
      rintro ⟨i', j', e, hi', hj', e1, e2, -⟩
      exact hv j' hj' e2
  · unfold wp_M_fill
    refine q_noN g1 hM hx ⟨fun _ => nop ?_, fun c => absurd c (by decide)⟩
    rintro ⟨i', j', e, hi', hj', e1, -⟩
    exact hx i' hi' e1
end MO
