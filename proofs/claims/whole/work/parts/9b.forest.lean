/-! the class's calls: the answers of 9a -/
/-- what the forest's bundles say of the state -/
def FQ (uF : FoC) (uL uD : RowC) (uR : RdC) (uH : ShC) (uE uO : RowC) (uM : MaC) (ad : Nat → Nat) (pu : Nat → SgC) (z : ST) : Prop :=
  FoI uF uM (zM z) ad ∧ TxI uL (zT z) (zN z) ∧ rwN uL = 40 ∧ rwN uD = 120 ∧ rdN uR = 120 ∧ shN uH = 120 ∧ rwN uE = 260 ∧ rwN uO = 260 ∧ ∀ i, i < zM z → SgI (pu i) (zG z i).1 (zG z i).2.1 (zG z i).2.2 ∧ sgP (pu i) = oI (zS z i)
section FO
variable {uF : FoC} {uL uD : RowC} {uR : RdC} {uH : ShC} {uE uO : RowC} {uM : MaC} {ad : Nat → Nat} {pu : Nat → SgC} {z : ST} {x y v : Int32} {i j q : Nat}
theorem fo_kindN {post : Int32 → Prop} (Q : FQ uF uL uD uR uH uE uO uM ad pu z) (hx : noX x (zM z)) (h : post (aKi z x)) : wp_F_kindN post uF uM x := by
  unfold wp_F_kindN
  refine r_findN Q.1 hx ⟨rfl, ?_⟩
  rw [aKi, ix_N hx] at h
  exact h
theorem fo_kind0 {post : Int32 → Prop} (Q : FQ uF uL uD uR uH uE uO uM ad pu z) (hz : VS z) (hi : i < zM z) (hx : x = nI i) (h : post (aKi z x)) : wp_F_kind0 post uF uM (pu i) x (ad i) := by
  unfold wp_F_kind0
  have hM := hz.1
  subst hx
  refine r_findY Q.1 hi ⟨rfl, ?_⟩
  rw [aKi, ix_Y hi (by omega)] at h
  rw [((Q.2.2.2.2.2.2.2.2 i hi).1).1]
  exact h
theorem fo_parametersN {post : Int32 → Prop} (Q : FQ uF uL uD uR uH uE uO uM ad pu z) (hx : noX x (zM z)) (h : post (aPa z x)) : wp_F_parametersN post uF uM x := by
  unfold wp_F_parametersN
  refine r_findN Q.1 hx ⟨rfl, ?_⟩
  rw [aPa, ix_N hx] at h
  exact h
theorem fo_parameters0 {post : Int32 → Prop} (Q : FQ uF uL uD uR uH uE uO uM ad pu z) (hz : VS z) (hi : i < zM z) (hx : x = nI i) (h : post (aPa z x)) : wp_F_parameters0 post uF uM (pu i) x (ad i) := by
  unfold wp_F_parameters0
  have hM := hz.1
  subst hx
  refine r_findY Q.1 hi ⟨rfl, ?_⟩
  rw [aPa, ix_Y hi (by omega)] at h
  rw [((Q.2.2.2.2.2.2.2.2 i hi).1).2.2.2.2.1]
  exact h
theorem fo_boundsN {post : Int32 → Prop} (Q : FQ uF uL uD uR uH uE uO uM ad pu z) (hx : noX x (zM z)) (h : post (aBo z x y)) : wp_F_boundsN post uF uM x y := by
  unfold wp_F_boundsN
  refine r_findN Q.1 hx ⟨rfl, ?_⟩
  rw [aBo, ix_N hx] at h
  exact h
theorem fo_bounds0 {post : Int32 → Prop} (Q : FQ uF uL uD uR uH uE uO uM ad pu z) (hz : VS z) (hi : i < zM z) (hx : x = nI i) (h : post (aBo z x y)) : wp_F_bounds0 post uF uM (pu i) x y (ad i) := by
  unfold wp_F_bounds0
  have hM := hz.1
  have hg := hz.2.1 i hi
  have hc := hg.2.2.2.2.2
  have hu := (Q.2.2.2.2.2.2.2.2 i hi).1
  subst hx
  rw [aBo, ix_Y hi (by omega)] at h
  refine r_findY Q.1 hi ⟨rfl, ?_⟩
  refine r_hasParameter hu hg (fun hn => ⟨fun c => absurd rfl c, fun _ => ?_⟩) (fun j hj e => ⟨fun _ => ?_, fun c => absurd c (by decide)⟩)
  · simp only [] at h
    rw [show zc z i = aC (zG z i).1 (zG z i).2.1 (zG z i).2.2 from rfl, ix_N hn] at h
    exact h
  · subst e
    refine r_boundCount hu hg hj ?_
    simp only [] at h
    rw [show zc z i = aC (zG z i).1 (zG z i).2.1 (zG z i).2.2 from rfl, ix_Y hj (by omega)] at h
    exact h
theorem fo_measureN {post : Int32 → Prop} (Q : FQ uF uL uD uR uH uE uO uM ad pu z) (hx : noX x (zM z)) (h : post (aMe z x y)) : wp_F_measureN post uF uM x y := by
  unfold wp_F_measureN
  refine r_findN Q.1 hx ⟨rfl, ?_⟩
  rw [aMe, ix_N hx] at h
  exact h
theorem c6 {y : Int32} {P : Nat → Prop} {N : Prop} (h : ∀ w, w < 6 → y = nI w → P w) (hn : noX y 6 → N) :
    (y = 0 → P 0) ∧ (y = 1 → P 1) ∧ (y = 2 → P 2) ∧ (y = 3 → P 3) ∧ (y = 4 → P 4) ∧ (y = 5 → P 5) ∧ (¬ y = 0 ∧ ¬ y = 1 ∧ ¬ y = 2 ∧ ¬ y = 3 ∧ ¬ y = 4 ∧ ¬ y = 5 → N) := by
  refine ⟨fun e => h 0 (by decide) e, fun e => h 1 (by decide) e, fun e => h 2 (by decide) e, fun e => h 3 (by decide) e, fun e => h 4 (by decide) e, fun e => h 5 (by decide) e, fun e => hn (fun i hi c => ?_)⟩
  obtain ⟨e0, e1, e2, e3, e4, e5⟩ := e
  match i, hi with
  | 0, _ => exact e0 c
  | 1, _ => exact e1 c
  | 2, _ => exact e2 c
  | 3, _ => exact e3 c
  | 4, _ => exact e4 c
  | 5, _ => exact e5 c
theorem zC_N {z : ST} {i : Nat} (h : zS z i = none) : zC z i = none := by rw [zC, h]; rfl
theorem zC_S {z : ST} {i j : Nat} (h : zS z i = some j) : zC z i = some ((zG z j).1, (zG z j).2.1, (zG z j).2.2) := by rw [zC, h]; rfl
theorem fo_measure0 {post : Int32 → Prop} (Q : FQ uF uL uD uR uH uE uO uM ad pu z) (hz : VS z) (hi : i < zM z) (hx : x = nI i) (hs : zS z i = none) (h : post (aMe z x y)) : wp_F_measure0 post uF uM (pu i) x y (ad i) := by
  unfold wp_F_measure0
  have hM := hz.1
  have hg := hz.2.1 i hi
  obtain ⟨hu, hp⟩ := Q.2.2.2.2.2.2.2.2 i hi
  subst hx
  rw [aMe, ix_Y hi (by omega)] at h
  simp only [] at h
  rw [zC_N hs] at h
  rw [hs] at hp
  refine r_findY Q.1 hi ⟨rfl, ?_⟩
  have vv : ∀ w, w < 3 → y = nI w → w_F_measure0_52 post uF uM (pu i) (ad i) y := by
    intro w hw e
    subst e
    rw [ix_Y (by omega) (by decide)] at h
    simp only [] at h
    unfold w_F_measure0_52
    refine r_vars0 Q.1 (by rw [hp]; exact noX_oN (by omega)) hu hg hw ?_
    rw [mQw, if_pos hw] at h
    exact h
  have hh : ∀ w, w < 6 → y = nI w → post (nI (mQw (zG z i).1 (zG z i).2.1 (zG z i).2.2 none w (zG z i).2.2)) := by
    intro w hw e
    subst e
    rw [ix_Y hw (by decide)] at h
    exact h
  obtain ⟨-, -, -, e3, e4, e5, e6⟩ := c6 (y := y) (P := fun w => post (nI (mQw (zG z i).1 (zG z i).2.1 (zG z i).2.2 none w (zG z i).2.2))) (N := post (-100)) hh (fun hn => by rw [ix_N hn] at h; exact h)
  refine ⟨fun c => ?_, fun c => r_classCount hu hg.2.1 (e3 c), fun c => r_argumentDepth hu hg.2.1 (e4 c), fun c => r_longestBrackets hu hg.2.1 (e5 c), e6⟩
  rcases c with c | c | c
  · exact vv 0 (by decide) c
  · exact vv 1 (by decide) c
  · exact vv 2 (by decide) c
theorem fo_measure1 {post : Int32 → Prop} (Q : FQ uF uL uD uR uH uE uO uM ad pu z) (hz : VS z) (hi : i < zM z) (hx : x = nI i) (hs : zS z i = some j) (h : post (aMe z x y)) : wp_F_measure1 post uF uM (pu i) (pu j) x y (ad i) (ad j) := by
  unfold wp_F_measure1
  have hM := hz.1
  have hg := hz.2.1 i hi
  obtain ⟨hu, hp⟩ := Q.2.2.2.2.2.2.2.2 i hi
  obtain ⟨hj, hji, hk⟩ := hz.2.2.1 i j hi hs
  have hg' := hz.2.1 j hj
  obtain ⟨hu', -⟩ := Q.2.2.2.2.2.2.2.2 j hj
  subst hx
  rw [aMe, ix_Y hi (by omega)] at h
  simp only [] at h
  rw [zC_S hs] at h
  rw [hs] at hp
  refine r_findY Q.1 hi ⟨rfl, ?_⟩
  have vv : ∀ w, w < 3 → y = nI w → w_F_measure1_52 post uF uM (pu i) (pu j) (ad i) (ad j) y := by
    intro w hw e
    subst e
    rw [ix_Y (by omega) (by decide)] at h
    simp only [] at h
    unfold w_F_measure1_52
    refine r_vars1 Q.1 hj hp hu hg hu' hg' hw ?_
    rw [mQw, if_pos hw] at h
    exact h
  have hh : ∀ w, w < 6 → y = nI w → post (nI (mQw (zG z i).1 (zG z i).2.1 (zG z i).2.2 (some ((zG z j).1, (zG z j).2.1, (zG z j).2.2)) w (zG z i).2.2)) := by
    intro w hw e
    subst e
    rw [ix_Y hw (by decide)] at h
    exact h
  obtain ⟨-, -, -, e3, e4, e5, e6⟩ := c6 (y := y) (P := fun w => post (nI (mQw (zG z i).1 (zG z i).2.1 (zG z i).2.2 (some ((zG z j).1, (zG z j).2.1, (zG z j).2.2)) w (zG z i).2.2))) (N := post (-100)) hh (fun hn => by rw [ix_N hn] at h; exact h)
  refine ⟨fun c => ?_, fun c => r_classCount hu hg.2.1 (e3 c), fun c => r_argumentDepth hu hg.2.1 (e4 c), fun c => r_longestBrackets hu hg.2.1 (e5 c), e6⟩
  rcases c with c | c | c
  · exact vv 0 (by decide) c
  · exact vv 1 (by decide) c
  · exact vv 2 (by decide) c
theorem fo_alikeN0 {post : Int32 → Prop} (Q : FQ uF uL uD uR uH uE uO uM ad pu z) (hx : noX x (zM z)) (hy : noX y (zM z)) (h : post (aAl z x y)) : wp_F_alikeN0 post uF uM x y := by
  unfold wp_F_alikeN0
  rw [aAl, ix_N hx] at h
  exact r_findN Q.1 hx ⟨rfl, r_findN Q.1 hy ⟨rfl, h⟩⟩
theorem fo_alikeN1 {post : Int32 → Prop} (Q : FQ uF uL uD uR uH uE uO uM ad pu z) (hx : noX x (zM z)) (hj : j < zM z) (hy : y = nI j) (h : post (aAl z x y)) : wp_F_alikeN1 post uF uM (pu j) x y (ad j) := by
  unfold wp_F_alikeN1
  rw [aAl, ix_N hx] at h
  subst hy
  exact r_findN Q.1 hx ⟨rfl, r_findY Q.1 hj ⟨rfl, h⟩⟩
theorem fo_alikeN2 {post : Int32 → Prop} (Q : FQ uF uL uD uR uH uE uO uM ad pu z) (hz : VS z) (hi : i < zM z) (hx : x = nI i) (hy : noX y (zM z)) (h : post (aAl z x y)) : wp_F_alikeN2 post uF uM (pu i) x y (ad i) := by
  unfold wp_F_alikeN2
  have hM := hz.1
  subst hx
  rw [aAl, ix_Y hi (by omega), ix_N hy] at h
  exact r_findY Q.1 hi ⟨rfl, r_findN Q.1 hy ⟨rfl, h⟩⟩
theorem bI_r {post : Int32 → Prop} {b : Bool} (h : post (bI b)) : (bI b = 0 → post 0) ∧ (¬ bI b = 0 → post 1) := by
  cases b
  · exact ⟨fun _ => h, fun c => absurd rfl c⟩
  · exact ⟨fun c => absurd c (by decide), fun _ => h⟩
theorem fo_alike0 {post : Int32 → Prop} (Q : FQ uF uL uD uR uH uE uO uM ad pu z) (hz : VS z) (hi : i < zM z) (hx : x = nI i) (hj : j < zM z) (hy : y = nI j) (h : post (aAl z x y)) : wp_F_alike0 post uF uM (pu i) (pu j) x y (ad i) (ad j) := by
  unfold wp_F_alike0
  have hM := hz.1
  have hg := hz.2.1 i hi
  have hg' := hz.2.1 j hj
  have hc := hg.2.2.2.2.2
  have hc' := hg'.2.2.2.2.2
  obtain ⟨hu, -⟩ := Q.2.2.2.2.2.2.2.2 i hi
  obtain ⟨hu', -⟩ := Q.2.2.2.2.2.2.2.2 j hj
  subst hx
  subst hy
  rw [aAl, ix_Y hi (by omega), ix_Y hj (by omega)] at h
  simp only [] at h
  refine r_findY Q.1 hi ⟨rfl, r_findY Q.1 hj ⟨rfl, ?_⟩⟩
  have e1 : (sgK (pu i) = sgK (pu j)) ↔ (zG z i).1 = (zG z j).1 := by
    rw [hu.1, hu'.1]
    exact nI_eq (by have := hg.1; omega) (by have := hg'.1; omega)
  have e2 : (Int32.ofNat (sgM (pu i)) = Int32.ofNat (sgM (pu j))) ↔ zc z i = zc z j := by
    rw [hu.2.2.2.2.1, hu'.2.2.2.2.1]
    exact nI_eq (by omega) (by omega)
  refine ⟨fun c => ?_, fun c => ⟨fun d => ?_, fun d => ?_⟩⟩
  · rw [if_neg (fun g => c (e1.mpr g.1))] at h
    exact ⟨fun _ => h, fun g => absurd rfl g⟩
  · rw [if_neg (fun g => d (e2.mpr g.2))] at h
    exact ⟨fun _ => h, fun g => absurd rfl g⟩
  · rw [if_pos ⟨e1.mp c, e2.mp d⟩] at h
    refine ⟨fun g => absurd g (by decide), fun _ => ?_⟩
    have ek := e1.mp c
    have em : aC (zG z i).1 (zG z i).2.1 (zG z i).2.2 = aC (zG z i).1 (zG z j).2.1 (zG z j).2.2 := by
      have := e2.mp d
      rw [show zc z i = aC (zG z i).1 (zG z i).2.1 (zG z i).2.2 from rfl, show zc z j = aC (zG z j).1 (zG z j).2.1 (zG z j).2.2 from rfl, ← ek] at this
      exact this
    rw [← ek] at hu' hg'
    exact r_becomes hu' hg' hu hg em (bI_r h)
theorem fo_clashN0 {post : Int32 → Prop} (Q : FQ uF uL uD uR uH uE uO uM ad pu z) (hx : noX x (zM z)) (hy : noX y (zM z)) (h : post (aCl z x y)) : wp_F_clashN0 post uF uM x y := by
  unfold wp_F_clashN0
  rw [aCl, ix_N hx] at h
  exact r_findN Q.1 hx ⟨rfl, r_findN Q.1 hy ⟨rfl, h⟩⟩
theorem fo_clashN1 {post : Int32 → Prop} (Q : FQ uF uL uD uR uH uE uO uM ad pu z) (hx : noX x (zM z)) (hj : j < zM z) (hy : y = nI j) (h : post (aCl z x y)) : wp_F_clashN1 post uF uM (pu j) x y (ad j) := by
  unfold wp_F_clashN1
  rw [aCl, ix_N hx] at h
  subst hy
  exact r_findN Q.1 hx ⟨rfl, r_findY Q.1 hj ⟨rfl, h⟩⟩
theorem fo_clashN2 {post : Int32 → Prop} (Q : FQ uF uL uD uR uH uE uO uM ad pu z) (hz : VS z) (hi : i < zM z) (hx : x = nI i) (hy : noX y (zM z)) (h : post (aCl z x y)) : wp_F_clashN2 post uF uM (pu i) x y (ad i) := by
  unfold wp_F_clashN2
  have hM := hz.1
  subst hx
  rw [aCl, ix_Y hi (by omega), ix_N hy] at h
  exact r_findY Q.1 hi ⟨rfl, r_findN Q.1 hy ⟨rfl, h⟩⟩
theorem cS_r {post : Int32 → (RowC × RowC) → Prop} {k : Nat} {t : Nat → Nat} {n : Nat} {sc : Sc} {k' : Nat} {t' : Nat → Nat} {n' : Nat} {sc' : Sc} {w : RowC × RowC} (h : post (cS k t n sc k' t' n' sc') w) : (cS k t n sc k' t' n' sc' = 0 → post 0 (w.1, w.2)) ∧ (¬ cS k t n sc k' t' n' sc' = 0 → post 1 (w.1, w.2)) := by
  unfold cS at h ⊢
  split at h
  · rename_i c
    rw [if_pos c]
    exact ⟨fun c => absurd c (by decide), fun _ => h⟩
  · rename_i c
    rw [if_neg c]
    exact ⟨fun _ => h, fun c => absurd rfl c⟩
theorem nI1 {k : Nat} (h : k < 3) : nI k = 1 ↔ k = 1 := nI_eq (b := 1) (by omega) (by omega)
theorem fo_clash00 {post : Int32 → (RowC × RowC) → Prop} {p r : Nat} (Q : FQ uF uL uD uR uH uE uO uM ad pu z) (hz : VS z) (hi : i < zM z) (hx : x = nI i) (hj : j < zM z) (hy : y = nI j) (hs : zS z i = none) (hs' : zS z j = none) (h : ∀ w0 w1, rwN w0 = 260 → rwN w1 = 260 → post (aCl z x y) (w0, w1)) : wp_F_clash00 post uF uE uO uM (pu i) (pu j) x y (ad i) (ad j) := by
  unfold wp_F_clash00
  have hM := hz.1
  have hg := hz.2.1 i hi
  have hg' := hz.2.1 j hj
  obtain ⟨hu, hp⟩ := Q.2.2.2.2.2.2.2.2 i hi
  obtain ⟨hu', hp'⟩ := Q.2.2.2.2.2.2.2.2 j hj
  have h6 := Q.2.2.2.2.2.2.1
  have h7 := Q.2.2.2.2.2.2.2.1
  subst hx
  subst hy
  rw [aCl, ix_Y hi (by omega), ix_Y hj (by omega)] at h
  simp only [] at h
  rw [hs] at hp
  rw [hs'] at hp'
  rw [zC_N hs, zC_N hs'] at h
  refine r_findY Q.1 hi ⟨rfl, r_findY Q.1 hj ⟨rfl, ?_⟩⟩
  rw [hu.1, hu'.1]
  refine ⟨fun c => ?_, fun c => ⟨fun d => ?_, fun d => ?_⟩⟩
  · rw [if_neg (fun g => c ((nI1 hg.1).mpr g.1))] at h
    exact h _ _ h6 h7
  · have c1 := (nI1 hg.1).mp c
    have d1 := (nI1 hg'.1).mp d
    rw [if_pos ⟨c1, d1⟩] at h
    exact r_same00 Q.1 hu hg c1 hu' hg' d1 (by rw [hp]; exact noX_oN (by omega)) (by rw [hp']; exact noX_oN (by omega)) h6 h7 (fun w0 w1 e0 e1 => cS_r (h w0 w1 e0 e1))
  · rw [if_neg (fun g => d ((nI1 hg'.1).mpr g.2))] at h
    exact h _ _ h6 h7
theorem fo_clash10 {post : Int32 → (RowC × RowC) → Prop} {p r : Nat} (Q : FQ uF uL uD uR uH uE uO uM ad pu z) (hz : VS z) (hi : i < zM z) (hx : x = nI i) (hj : j < zM z) (hy : y = nI j) (hs : zS z i = some p) (hs' : zS z j = none) (h : ∀ w0 w1, rwN w0 = 260 → rwN w1 = 260 → post (aCl z x y) (w0, w1)) : wp_F_clash10 post uF uE uO uM (pu i) (pu j) (pu p) x y (ad i) (ad j) (ad p) := by
  unfold wp_F_clash10
  have hM := hz.1
  have hg := hz.2.1 i hi
  have hg' := hz.2.1 j hj
  obtain ⟨hu, hp⟩ := Q.2.2.2.2.2.2.2.2 i hi
  obtain ⟨hu', hp'⟩ := Q.2.2.2.2.2.2.2.2 j hj
  obtain ⟨hv, -, hk⟩ := hz.2.2.1 i p hi hs
  have hgv := hz.2.1 p hv
  obtain ⟨huv, -⟩ := Q.2.2.2.2.2.2.2.2 p hv
  have h6 := Q.2.2.2.2.2.2.1
  have h7 := Q.2.2.2.2.2.2.2.1
  subst hx
  subst hy
  rw [aCl, ix_Y hi (by omega), ix_Y hj (by omega)] at h
  simp only [] at h
  rw [hs] at hp
  rw [hs'] at hp'
  rw [zC_S hs, zC_N hs'] at h
  refine r_findY Q.1 hi ⟨rfl, r_findY Q.1 hj ⟨rfl, ?_⟩⟩
  rw [hu.1, hu'.1]
  refine ⟨fun c => ?_, fun c => ⟨fun d => ?_, fun d => ?_⟩⟩
  · rw [if_neg (fun g => c ((nI1 hg.1).mpr g.1))] at h
    exact h _ _ h6 h7
  · have c1 := (nI1 hg.1).mp c
    have d1 := (nI1 hg'.1).mp d
    rw [if_pos ⟨c1, d1⟩] at h
    exact r_same10 Q.1 hu hg c1 hu' hg' d1 hv hp huv hgv hk (by rw [hp']; exact noX_oN (by omega)) h6 h7 (fun w0 w1 e0 e1 => cS_r (h w0 w1 e0 e1))
  · rw [if_neg (fun g => d ((nI1 hg'.1).mpr g.2))] at h
    exact h _ _ h6 h7
theorem fo_clash01 {post : Int32 → (RowC × RowC) → Prop} {p r : Nat} (Q : FQ uF uL uD uR uH uE uO uM ad pu z) (hz : VS z) (hi : i < zM z) (hx : x = nI i) (hj : j < zM z) (hy : y = nI j) (hs : zS z i = none) (hs' : zS z j = some r) (h : ∀ w0 w1, rwN w0 = 260 → rwN w1 = 260 → post (aCl z x y) (w0, w1)) : wp_F_clash01 post uF uE uO uM (pu i) (pu j) (pu r) x y (ad i) (ad j) (ad r) := by
  unfold wp_F_clash01
  have hM := hz.1
  have hg := hz.2.1 i hi
  have hg' := hz.2.1 j hj
  obtain ⟨hu, hp⟩ := Q.2.2.2.2.2.2.2.2 i hi
  obtain ⟨hu', hp'⟩ := Q.2.2.2.2.2.2.2.2 j hj
  obtain ⟨hv', -, hk'⟩ := hz.2.2.1 j r hj hs'
  have hgv' := hz.2.1 r hv'
  obtain ⟨huv', -⟩ := Q.2.2.2.2.2.2.2.2 r hv'
  have h6 := Q.2.2.2.2.2.2.1
  have h7 := Q.2.2.2.2.2.2.2.1
  subst hx
  subst hy
  rw [aCl, ix_Y hi (by omega), ix_Y hj (by omega)] at h
  simp only [] at h
  rw [hs] at hp
  rw [hs'] at hp'
  rw [zC_N hs, zC_S hs'] at h
  refine r_findY Q.1 hi ⟨rfl, r_findY Q.1 hj ⟨rfl, ?_⟩⟩
  rw [hu.1, hu'.1]
  refine ⟨fun c => ?_, fun c => ⟨fun d => ?_, fun d => ?_⟩⟩
  · rw [if_neg (fun g => c ((nI1 hg.1).mpr g.1))] at h
    exact h _ _ h6 h7
  · have c1 := (nI1 hg.1).mp c
    have d1 := (nI1 hg'.1).mp d
    rw [if_pos ⟨c1, d1⟩] at h
    exact r_same01 Q.1 hu hg c1 hu' hg' d1 (by rw [hp]; exact noX_oN (by omega)) hv' hp' huv' hgv' hk' h6 h7 (fun w0 w1 e0 e1 => cS_r (h w0 w1 e0 e1))
  · rw [if_neg (fun g => d ((nI1 hg'.1).mpr g.2))] at h
    exact h _ _ h6 h7
theorem fo_clash11 {post : Int32 → (RowC × RowC) → Prop} {p r : Nat} (Q : FQ uF uL uD uR uH uE uO uM ad pu z) (hz : VS z) (hi : i < zM z) (hx : x = nI i) (hj : j < zM z) (hy : y = nI j) (hs : zS z i = some p) (hs' : zS z j = some r) (h : ∀ w0 w1, rwN w0 = 260 → rwN w1 = 260 → post (aCl z x y) (w0, w1)) : wp_F_clash11 post uF uE uO uM (pu i) (pu j) (pu p) (pu r) x y (ad i) (ad j) (ad p) (ad r) := by
  unfold wp_F_clash11
  have hM := hz.1
  have hg := hz.2.1 i hi
  have hg' := hz.2.1 j hj
  obtain ⟨hu, hp⟩ := Q.2.2.2.2.2.2.2.2 i hi
  obtain ⟨hu', hp'⟩ := Q.2.2.2.2.2.2.2.2 j hj
  obtain ⟨hv, -, hk⟩ := hz.2.2.1 i p hi hs
  have hgv := hz.2.1 p hv
  obtain ⟨huv, -⟩ := Q.2.2.2.2.2.2.2.2 p hv
  obtain ⟨hv', -, hk'⟩ := hz.2.2.1 j r hj hs'
  have hgv' := hz.2.1 r hv'
  obtain ⟨huv', -⟩ := Q.2.2.2.2.2.2.2.2 r hv'
  have h6 := Q.2.2.2.2.2.2.1
  have h7 := Q.2.2.2.2.2.2.2.1
  subst hx
  subst hy
  rw [aCl, ix_Y hi (by omega), ix_Y hj (by omega)] at h
  simp only [] at h
  rw [hs] at hp
  rw [hs'] at hp'
  rw [zC_S hs, zC_S hs'] at h
  refine r_findY Q.1 hi ⟨rfl, r_findY Q.1 hj ⟨rfl, ?_⟩⟩
  rw [hu.1, hu'.1]
  refine ⟨fun c => ?_, fun c => ⟨fun d => ?_, fun d => ?_⟩⟩
  · rw [if_neg (fun g => c ((nI1 hg.1).mpr g.1))] at h
    exact h _ _ h6 h7
  · have c1 := (nI1 hg.1).mp c
    have d1 := (nI1 hg'.1).mp d
    rw [if_pos ⟨c1, d1⟩] at h
    exact r_same11 Q.1 hu hg c1 hu' hg' d1 hv hp huv hgv hk hv' hp' huv' hgv' hk' h6 h7 (fun w0 w1 e0 e1 => cS_r (h w0 w1 e0 e1))
  · rw [if_neg (fun g => d ((nI1 hg'.1).mpr g.2))] at h
    exact h _ _ h6 h7
theorem fo_textN {post : Int32 → Prop} (Q : FQ uF uL uD uR uH uE uO uM ad pu z) (hx : noX x (zM z)) (h : post (aTx z x y v)) : wp_F_textN post uF uM x y v := by
  unfold wp_F_textN
  refine r_findN Q.1 hx ⟨rfl, ?_⟩
  rw [aTx, ix_N hx] at h
  exact h
theorem fo_lengthN {post : Int32 → Prop} (Q : FQ uF uL uD uR uH uE uO uM ad pu z) (hx : noX x (zM z)) (h : post (aLe z x y)) : wp_F_lengthN post uF uM x y := by
  unfold wp_F_lengthN
  refine r_findN Q.1 hx ⟨rfl, ?_⟩
  rw [aLe, ix_N hx] at h
  exact h
theorem ScG_Z {z : ST} {i : Nat} (hz : VS z) (hi : i < zM z) : ScG (zC z i) := by
  unfold ScG zC
  cases hs : zS z i with
  | none => exact trivial
  | some j =>
    obtain ⟨h1, -, h3⟩ := hz.2.2.1 i j hi hs
    exact ⟨hz.2.1 j h1, h3⟩
theorem fo_text0 {post : Int32 → (SkC × ShC × RowC) → Prop} {uS : SkC} (Q : FQ uF uL uD uR uH uE uO uM ad pu z) (hz : VS z) (hi : i < zM z) (hx : x = nI i) (hs : zS z i = none) (h : ∀ a b c, shN b = 120 → rwN c = 260 → post (aTx z x y v) (a, b, c)) : wp_F_text0 post uF uS uH uE uM (pu i) x y v (ad i) := by
  unfold wp_F_text0
  have hM := hz.1
  have hg := hz.2.1 i hi
  have hG := ScG_Z hz hi
  obtain ⟨hu, hp⟩ := Q.2.2.2.2.2.2.2.2 i hi
  have h5 := Q.2.2.2.2.2.1
  have h6 := Q.2.2.2.2.2.2.1
  subst hx
  rw [aTx, ix_Y hi (by omega)] at h
  simp only [] at h
  rw [zC_N hs] at h hG
  rw [hs] at hp
  refine r_findY Q.1 hi ⟨rfl, ⟨fun c => ?_, fun c => ?_⟩⟩
  · obtain ⟨v', hv', rfl⟩ := nI_of (x := v) (fun g => Int32.lt_irrefl (Int32.lt_of_lt_of_le g c))
    rcases cs_x y 3 with ⟨w, hw, rfl⟩ | hn
    · rw [ix_Y hw (by decide)] at h
      exact r_seek0 Q.1 (by rw [hp]; exact noX_oN (by omega)) hu hg (Or.inr ⟨v', hv', rfl⟩) h5 h6 hw (fun a b c ha hb hc => ⟨fun g => absurd g (by decide), fun _ => by rw [atI_sk ha (Nat.lt_of_le_of_lt (tX_len hg hG) (by decide))]; exact h a b c hb hc⟩)
    · rw [ix_N hn] at h
      exact r_seekN0 hn ⟨fun _ => h _ _ _ h5 h6, fun g => absurd rfl g⟩
  · cases hw : ix 3 y with
    | none => rw [hw] at h; exact h _ _ _ h5 h6
    | some w => rw [hw] at h; simp only [atI_neg c] at h; exact h _ _ _ h5 h6
theorem fo_length0 {post : Int32 → (SkC × ShC × RowC) → Prop} {uS : SkC} (Q : FQ uF uL uD uR uH uE uO uM ad pu z) (hz : VS z) (hi : i < zM z) (hx : x = nI i) (hs : zS z i = none) (h : ∀ a b c, shN b = 120 → rwN c = 260 → post (aLe z x y) (a, b, c)) : wp_F_length0 post uF uS uH uE uM (pu i) x y (ad i) := by
  unfold wp_F_length0
  have hM := hz.1
  have hg := hz.2.1 i hi
  have hG := ScG_Z hz hi
  obtain ⟨hu, hp⟩ := Q.2.2.2.2.2.2.2.2 i hi
  have h5 := Q.2.2.2.2.2.1
  have h6 := Q.2.2.2.2.2.2.1
  subst hx
  rw [aLe, ix_Y hi (by omega)] at h
  simp only [] at h
  rw [zC_N hs] at h hG
  rw [hs] at hp
  refine r_findY Q.1 hi ⟨rfl, ?_⟩
  rcases cs_x y 3 with ⟨w, hw, rfl⟩ | hn
  · rw [ix_Y hw (by decide)] at h
    exact r_seek0 Q.1 (by rw [hp]; exact noX_oN (by omega)) hu hg (Or.inl rfl) h5 h6 hw (fun a b c ha hb hc => ⟨fun g => absurd g (by decide), fun _ => by rw [ha.2.1]; exact h a b c hb hc⟩)
  · rw [ix_N hn] at h
    exact r_seekN0 hn ⟨fun _ => h _ _ _ h5 h6, fun g => absurd rfl g⟩
theorem fo_text1 {post : Int32 → (SkC × ShC × RowC) → Prop} {uS : SkC} (Q : FQ uF uL uD uR uH uE uO uM ad pu z) (hz : VS z) (hi : i < zM z) (hx : x = nI i) (hs : zS z i = some j) (h : ∀ a b c, shN b = 120 → rwN c = 260 → post (aTx z x y v) (a, b, c)) : wp_F_text1 post uF uS uH uE uM (pu i) (pu j) x y v (ad i) (ad j) := by
  unfold wp_F_text1
  have hM := hz.1
  have hg := hz.2.1 i hi
  have hG := ScG_Z hz hi
  obtain ⟨hu, hp⟩ := Q.2.2.2.2.2.2.2.2 i hi
  have h5 := Q.2.2.2.2.2.1
  have h6 := Q.2.2.2.2.2.2.1
  obtain ⟨hj, -, hk⟩ := hz.2.2.1 i j hi hs
  have hg' := hz.2.1 j hj
  obtain ⟨hu', -⟩ := Q.2.2.2.2.2.2.2.2 j hj
  subst hx
  rw [aTx, ix_Y hi (by omega)] at h
  simp only [] at h
  rw [zC_S hs] at h hG
  rw [hs] at hp
  refine r_findY Q.1 hi ⟨rfl, ⟨fun c => ?_, fun c => ?_⟩⟩
  · obtain ⟨v', hv', rfl⟩ := nI_of (x := v) (fun g => Int32.lt_irrefl (Int32.lt_of_lt_of_le g c))
    rcases cs_x y 3 with ⟨w, hw, rfl⟩ | hn
    · rw [ix_Y hw (by decide)] at h
      exact r_seek1 Q.1 hj hp hu hg hu' hg' hk (Or.inr ⟨v', hv', rfl⟩) h5 h6 hw (fun a b c ha hb hc => ⟨fun g => absurd g (by decide), fun _ => by rw [atI_sk ha (Nat.lt_of_le_of_lt (tX_len hg hG) (by decide))]; exact h a b c hb hc⟩)
    · rw [ix_N hn] at h
      exact r_seekN1 hn ⟨fun _ => h _ _ _ h5 h6, fun g => absurd rfl g⟩
  · cases hw : ix 3 y with
    | none => rw [hw] at h; exact h _ _ _ h5 h6
    | some w => rw [hw] at h; simp only [atI_neg c] at h; exact h _ _ _ h5 h6
theorem fo_length1 {post : Int32 → (SkC × ShC × RowC) → Prop} {uS : SkC} (Q : FQ uF uL uD uR uH uE uO uM ad pu z) (hz : VS z) (hi : i < zM z) (hx : x = nI i) (hs : zS z i = some j) (h : ∀ a b c, shN b = 120 → rwN c = 260 → post (aLe z x y) (a, b, c)) : wp_F_length1 post uF uS uH uE uM (pu i) (pu j) x y (ad i) (ad j) := by
  unfold wp_F_length1
  have hM := hz.1
  have hg := hz.2.1 i hi
  have hG := ScG_Z hz hi
  obtain ⟨hu, hp⟩ := Q.2.2.2.2.2.2.2.2 i hi
  have h5 := Q.2.2.2.2.2.1
  have h6 := Q.2.2.2.2.2.2.1
  obtain ⟨hj, -, hk⟩ := hz.2.2.1 i j hi hs
  have hg' := hz.2.1 j hj
  obtain ⟨hu', -⟩ := Q.2.2.2.2.2.2.2.2 j hj
  subst hx
  rw [aLe, ix_Y hi (by omega)] at h
  simp only [] at h
  rw [zC_S hs] at h hG
  rw [hs] at hp
  refine r_findY Q.1 hi ⟨rfl, ?_⟩
  rcases cs_x y 3 with ⟨w, hw, rfl⟩ | hn
  · rw [ix_Y hw (by decide)] at h
    exact r_seek1 Q.1 hj hp hu hg hu' hg' hk (Or.inl rfl) h5 h6 hw (fun a b c ha hb hc => ⟨fun g => absurd g (by decide), fun _ => by rw [ha.2.1]; exact h a b c hb hc⟩)
  · rw [ix_N hn] at h
    exact r_seekN1 hn ⟨fun _ => h _ _ _ h5 h6, fun g => absurd rfl g⟩
end FO
