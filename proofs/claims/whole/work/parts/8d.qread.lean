/-! the reference reads -/
/-- sizes -/
def XZ (X : XA) : Prop := iaN X.1 = 3000 ∧ iaN X.2.1 = 3000 ∧ iaN X.2.2.1 = 25 ∧ iaN X.2.2.2.1 = 25 ∧ iaN X.2.2.2.2.1 = 500 ∧ iaN X.2.2.2.2.2.1 = 500 ∧ iaN X.2.2.2.2.2.2.1 = 500 ∧ iaN X.2.2.2.2.2.2.2.1 = 500 ∧ iaN X.2.2.2.2.2.2.2.2 = 25
/-- the slots below M stay -/
def KS (M : Nat) (X X' : XA) (x5 x5' : IaC) : Prop :=
  XZ X' ∧ iaN x5' = 25 ∧ (∀ i, i < 120 * M → iaF X'.1 i = iaF X.1 i ∧ iaF X'.2.1 i = iaF X.2.1 i) ∧
  (∀ i, i < 20 * M → iaF X'.2.2.2.2.1 i = iaF X.2.2.2.2.1 i ∧ iaF X'.2.2.2.2.2.1 i = iaF X.2.2.2.2.2.1 i ∧ iaF X'.2.2.2.2.2.2.1 i = iaF X.2.2.2.2.2.2.1 i ∧ iaF X'.2.2.2.2.2.2.2.1 i = iaF X.2.2.2.2.2.2.2.1 i) ∧
  (∀ i, i < M → iaF X'.2.2.1 i = iaF X.2.2.1 i ∧ iaF X'.2.2.2.1 i = iaF X.2.2.2.1 i ∧ iaF X'.2.2.2.2.2.2.2.2 i = iaF X.2.2.2.2.2.2.2.2 i ∧ iaF x5' i = iaF x5 i)
theorem KS.rf {M : Nat} {X : XA} {x5 : IaC} (h : XZ X) (h5 : iaN x5 = 25) : KS M X X x5 x5 := ⟨h, h5, fun _ _ => ⟨rfl, rfl⟩, fun _ _ => ⟨rfl, rfl, rfl, rfl⟩, fun _ _ => ⟨rfl, rfl, rfl, rfl⟩⟩
theorem KS.xi {M : Nat} {X X' : XA} {x5 x5' : IaC} (h : KS M X X' x5 x5') {s : Nat} (hs : s < M) {k : Nat} {t : Nat → Nat} {n : Nat} (hX : XI X k t n s) (hg : Gd k t n) : XI X' k t n s := by
  obtain ⟨⟨z1, z2, z3, z4, z5, z6, z7, z8, z9⟩, -, k1, k2, k3⟩ := h
  obtain ⟨h0, x1, x2, x3, x4, x5, x6, x7, x8, x9, y1, y2, y3, y4, y5, y6, y7⟩ := hX
  have hn := hg.2.1
  have hc := hg.2.2.2.2.2
  refine ⟨h0, z1, z2, z3, z4, z5, z6, z7, z8, z9, ?_, ?_, fun j hj => ?_, fun j hj => ?_, ?_, fun j hj => ?_, fun j hj => ?_⟩
  · rw [(k3 s hs).1]; exact y1
  · rw [(k3 s hs).2.1]; exact y2
  · rw [(k1 _ (by omega)).1]; exact y3 j hj
  · rw [(k1 _ (by omega)).2]; exact y4 j hj
  · rw [(k3 s hs).2.2.1]; exact y5
  · rw [(k2 _ (by omega)).1, (k2 _ (by omega)).2.1]; exact y6 j hj
  · rw [(k2 _ (by omega)).2.2.1, (k2 _ (by omega)).2.2.2]; exact y7 j hj
theorem KS.tr {M : Nat} {X X' X'' : XA} {x5 x5' x5'' : IaC} (a : KS M X X' x5 x5') (b : KS M X' X'' x5' x5'') : KS M X X'' x5 x5'' :=
  ⟨b.1, b.2.1, fun i hi => ⟨(b.2.2.1 i hi).1.trans (a.2.2.1 i hi).1, (b.2.2.1 i hi).2.trans (a.2.2.1 i hi).2⟩, fun i hi => ⟨(b.2.2.2.1 i hi).1.trans (a.2.2.2.1 i hi).1, (b.2.2.2.1 i hi).2.1.trans (a.2.2.2.1 i hi).2.1, (b.2.2.2.1 i hi).2.2.1.trans (a.2.2.2.1 i hi).2.2.1, (b.2.2.2.1 i hi).2.2.2.trans (a.2.2.2.1 i hi).2.2.2⟩, fun i hi => ⟨(b.2.2.2.2 i hi).1.trans (a.2.2.2.2 i hi).1, (b.2.2.2.2 i hi).2.1.trans (a.2.2.2.2 i hi).2.1, (b.2.2.2.2 i hi).2.2.1.trans (a.2.2.2.2 i hi).2.2.1, (b.2.2.2.2 i hi).2.2.2.trans (a.2.2.2.2 i hi).2.2.2⟩⟩
/-- the arrays behind the reader: what is kept, what slot M holds -/
theorem KS_judge {M : Nat} {X : XA} {x5 w1 w3 w4 st : IaC} {u : MoC} {v : JV} (hZ : XZ X) (h5 : iaN x5 = 25) (z1 : iaN w1 = 3000) (z3 : iaN w3 = 25) (z4 : iaN w4 = 25) (h1 : ∀ i, i < 120 * M → iaF w1 i = iaF X.1 i) (h3 : ∀ i, i < M → iaF w3 i = iaF X.2.2.1 i) (h4 : ∀ i, i < M → iaF w4 i = iaF X.2.2.2.1 i) (hJ : JF M (u, X.2.1, X.2.2.2.2.1, X.2.2.2.2.2.1, X.2.2.2.2.2.2.1, X.2.2.2.2.2.2.2.1, X.2.2.2.2.2.2.2.2, st) v) :
    KS M X (w1, v.2.1, w3, w4, v.2.2.1, v.2.2.2.1, v.2.2.2.2.1, v.2.2.2.2.2.1, v.2.2.2.2.2.2.1) x5 x5 := by
  obtain ⟨f0, f1, f2, f3, f4, f5, f6, f7, g1, g2, g3, g4, g5, g6⟩ := hJ
  exact ⟨⟨z1, f1, z3, z4, f2, f3, f4, f5, f6⟩, h5, fun i hi => ⟨h1 i hi, g1 i hi⟩, fun i hi => ⟨g2 i hi, g3 i hi, g4 i hi, g5 i hi⟩, fun i hi => ⟨h3 i hi, h4 i hi, g6 i hi, rfl⟩⟩
theorem XI_judge {M : Nat} {w1 w3 w4 : IaC} {v : JV} {k : Nat} {t : Nat → Nat} {n : Nat} {u : MoC} {a1 a2 a3 a4 a5 a6 a7 : IaC} (hM : M < 25) (z1 : iaN w1 = 3000) (z3 : iaN w3 = 25) (z4 : iaN w4 = 25) (h1 : ∀ j, j < n → iaF w1 (120 * M + j) = nI (t j)) (h3 : iaF w3 M = nI n) (h4 : iaF w4 M = nI k) (hJ : JF M (u, a1, a2, a3, a4, a5, a6, a7) v) (hR : JR k t M n v) : XI (w1, v.2.1, w3, w4, v.2.2.1, v.2.2.2.1, v.2.2.2.2.1, v.2.2.2.2.2.1, v.2.2.2.2.2.2.1) k t n M := by
  obtain ⟨f0, f1, f2, f3, f4, f5, f6, f7, g1, g2, g3, g4, g5, g6⟩ := hJ
  obtain ⟨r1, r2, r3⟩ := hR
  exact ⟨hM, z1, f1, z3, z4, f2, f3, f4, f5, f6, h3, h4, h1, r1, r2.2.2.2.1, r2.2.2.2.2, r3⟩
theorem q_read {post : Int32 → (MoC × IaC × IaC × IaC × IaC × IaC × IaC × IaC × IaC × IaC × IaC × IaC) → Prop} {u : MoC} {ln x5 st : IaC} {X : XA} {k : Nat} {t : Nat → Nat} {n M : Nat} (hM : moM u = nI M) (hM2 : M ≤ 24) (hN : moN u = nI n) (hn : n ≤ 40) (hl : iaN ln = 40) (hlt : ∀ j, j < n → iaF ln j = nI (t j) ∧ 32 < t j ∧ t j < 127) (hZ : XZ X) (h5 : iaN x5 = 25) (hst : iaN st = 130) (hk : k < 3)
    (H0 : ∀ a u' X' st', FA k t n a → moN u' = nI n → moM u' = nI M → KS M X X' x5 x5 → iaN st' = 130 → post a (u', X'.1, X'.2.1, X'.2.2.1, X'.2.2.2.1, x5, X'.2.2.2.2.1, X'.2.2.2.2.2.1, X'.2.2.2.2.2.2.1, X'.2.2.2.2.2.2.2.1, X'.2.2.2.2.2.2.2.2, st'))
    (H1 : Ok k t n → M = 24 → ∀ u' X' st', moN u' = nI n → moM u' = nI M → KS M X X' x5 x5 → iaN st' = 130 → post (-100) (u', X'.1, X'.2.1, X'.2.2.1, X'.2.2.2.1, x5, X'.2.2.2.2.1, X'.2.2.2.2.2.1, X'.2.2.2.2.2.2.1, X'.2.2.2.2.2.2.2.1, X'.2.2.2.2.2.2.2.2, st'))
    (H2 : Ok k t n → M < 24 → ∀ u' X' x5' st', moN u' = 0 → moM u' = nI (M + 1) → KS M X X' x5 x5' → XI X' k t n M → iaF x5' M = -1 → iaN st' = 130 → post (nI M) (u', X'.1, X'.2.1, X'.2.2.1, X'.2.2.2.1, x5', X'.2.2.2.2.1, X'.2.2.2.2.2.1, X'.2.2.2.2.2.2.1, X'.2.2.2.2.2.2.2.1, X'.2.2.2.2.2.2.2.2, st')) :
    wp_M_read post u ln X.1 X.2.1 X.2.2.1 X.2.2.2.1 x5 X.2.2.2.2.1 X.2.2.2.2.2.1 X.2.2.2.2.2.2.1 X.2.2.2.2.2.2.2.1 X.2.2.2.2.2.2.2.2 st (nI k) := by
  have hZ' := hZ
  obtain ⟨z1, z2, z3, z4, z6, z7, z8, z9, z10⟩ := hZ'
  unfold wp_M_read
  rw [hM, hN, z3, z4, nI_clamp (by omega)]
  refine ⟨fun z => absurd z (nI_pos (by omega)), fun _ => ⟨fun _ => ⟨vp_in_nI (by omega) (by decide), vp_in_nI (by omega) (by decide), ?_⟩, fun z => absurd (nI_le (b := 2) (by omega) (by decide)) z⟩⟩
  refine lpI (n := n) (α := Nat × IaC) (W := fun f a => w_M_read_37 post ln f (nI a.1) u a.2 X.2.1 (25, upd (iaF X.2.2.1) M (nI n)) (25, upd (iaF X.2.2.2.1) M (nI k)) x5 X.2.2.2.2.1 X.2.2.2.2.2.1 X.2.2.2.2.2.2.1 X.2.2.2.2.2.2.2.1 X.2.2.2.2.2.2.2.2 st) (I := fun j a => a.1 = j ∧ iaN a.2 = 3000 ∧ (∀ i, i < 120 * M → iaF a.2 i = iaF X.1 i) ∧ ∀ i, i < j → iaF a.2 (120 * M + i) = nI (t i)) (fun f a hI => ?_) (fun f j a hj hI ih => ?_) 0 (0, X.1) (by omega) ⟨rfl, z1, fun _ _ => rfl, fun i hi => absurd hi (by omega)⟩
  · obtain ⟨j, w1⟩ := a
    obtain ⟨e1, e2, e3, e4⟩ := hI
    dsimp only at e1 e2 e3 e4 ⊢
    subst e1
    unfold w_M_read_37 wb_M_read_37
    rw [hM, hN]
    refine b_le (by omega) (by omega) (fun _ => ?_) (fun z => absurd z (by omega))
    have ht : ∀ i, i < j → t i < 127 := fun i hi => (hlt i hi).2.2
    have s3 : iaF ((25, upd (iaF X.2.2.1) M (nI j)) : IaC) M = nI j := pk_us
    have s4 : iaF ((25, upd (iaF X.2.2.2.1) M (nI k)) : IaC) M = nI k := pk_us
    have l3 : ∀ i, i < M → iaF ((25, upd (iaF X.2.2.1) M (nI j)) : IaC) i = iaF X.2.2.1 i := fun i hi => pk_un (by omega)
    have l4 : ∀ i, i < M → iaF ((25, upd (iaF X.2.2.2.1) M (nI k)) : IaC) i = iaF X.2.2.2.1 i := fun i hi => pk_un (by omega)
    have hkeep := fun (v : JV) (hJ : JF M (u, X.2.1, X.2.2.2.2.1, X.2.2.2.2.2.1, X.2.2.2.2.2.2.1, X.2.2.2.2.2.2.2.1, X.2.2.2.2.2.2.2.2, st) v) => KS_judge (w1 := w1) (w3 := (25, upd (iaF X.2.2.1) M (nI j))) (w4 := (25, upd (iaF X.2.2.2.1) M (nI k))) hZ h5 e2 rfl rfl e3 l3 l4 hJ
    refine r_judge hk (by omega) (by omega) ht ⟨e2, fun i hi => ⟨e4 i hi, by have := ht i hi; omega⟩⟩ rfl s3 rfl s4 z2 z6 z7 z8 z9 z10 hst (fun p hp hno => ?_) (fun p v hp hno hb hJ => ?_) (fun hno hend v hJ hR => ?_) (fun hno hend v hJ => ?_)
    · have := aC_half k t p (fun i hi z => hno i hi (Or.inl z))
      split at this <;> omega
    · refine ⟨fun z => absurd z (nI_pos (by omega)), fun _ => ?_⟩
      exact H0 (-1 - nI p) v.1 _ v.2.2.2.2.2.2.2 (Or.inl ⟨p, hp, hno, hb, rfl⟩) (hJ.1.1.trans hN) (hJ.1.2.1.trans hM) (hkeep v hJ) hJ.2.2.2.2.2.2.2.1
    · refine ⟨fun _ => ?_, fun z => absurd (show (-1 : Int32) < 0 by decide) z⟩
      have vM : moM v.1 = nI M := hJ.1.2.1.trans hM
      show (¬ moM v.1 = 24 → vp_in (moM v.1) (iaN x5) ∧ post (moM v.1 + 1 - 1) ((0, moM v.1 + 1, moT v.1, moW v.1, moG v.1, moS v.1, moI v.1), w1, v.2.1, (25, upd (iaF X.2.2.1) M (nI j)), (25, upd (iaF X.2.2.2.1) M (nI k)), (iaN x5, upd (iaF x5) (moM v.1).toNatClampNeg (-1)), v.2.2.1, v.2.2.2.1, v.2.2.2.2.1, v.2.2.2.2.2.1, v.2.2.2.2.2.2.1, v.2.2.2.2.2.2.2)) ∧ (moM v.1 = 24 → post (-100) (v.1, w1, v.2.1, (25, upd (iaF X.2.2.1) M (nI j)), (25, upd (iaF X.2.2.2.1) M (nI k)), x5, v.2.2.1, v.2.2.2.1, v.2.2.2.2.1, v.2.2.2.2.2.1, v.2.2.2.2.2.2.1, v.2.2.2.2.2.2.2))
      rw [vM, h5, nI_clamp (by omega), nI_1, nI_pred]
      refine b_eq (k := 24) (by omega) (by decide) (fun e => ?_) (fun e => ⟨vp_in_nI (by omega) (by decide), ?_⟩)
      · exact H1 ⟨hno, hend⟩ e v.1 (w1, v.2.1, (25, upd (iaF X.2.2.1) M (nI j)), (25, upd (iaF X.2.2.2.1) M (nI k)), v.2.2.1, v.2.2.2.1, v.2.2.2.2.1, v.2.2.2.2.2.1, v.2.2.2.2.2.2.1) v.2.2.2.2.2.2.2 (hJ.1.1.trans hN) vM (hkeep v hJ) hJ.2.2.2.2.2.2.2.1
      · have kk := hkeep v hJ
        refine H2 ⟨hno, hend⟩ (by omega) (0, nI (M + 1), moT v.1, moW v.1, moG v.1, moS v.1, moI v.1) (w1, v.2.1, (25, upd (iaF X.2.2.1) M (nI j)), (25, upd (iaF X.2.2.2.1) M (nI k)), v.2.2.1, v.2.2.2.1, v.2.2.2.2.1, v.2.2.2.2.2.1, v.2.2.2.2.2.2.1) (25, upd (iaF x5) M (-1)) v.2.2.2.2.2.2.2 rfl rfl ⟨kk.1, rfl, kk.2.2.1, kk.2.2.2.1, fun i hi => ⟨(kk.2.2.2.2 i hi).1, (kk.2.2.2.2 i hi).2.1, (kk.2.2.2.2 i hi).2.2.1, pk_un (by omega)⟩⟩ (XI_judge (by omega) e2 rfl rfl e4 s3 s4 hJ hR) pk_us hJ.2.2.2.2.2.2.2.1
    · refine ⟨fun z => absurd z (nI_pos (by omega)), fun _ => ?_⟩
      exact H0 (-1 - nI j) v.1 _ v.2.2.2.2.2.2.2 (Or.inr ⟨hno, hend, rfl⟩) (hJ.1.1.trans hN) (hJ.1.2.1.trans hM) (hkeep v hJ) hJ.2.2.2.2.2.2.2.1
  · obtain ⟨j2, w1⟩ := a
    obtain ⟨e1, e2, e3, e4⟩ := hI
    dsimp only at e1 e2 e3 e4 ⊢
    subst e1
    unfold w_M_read_37 wb_M_read_37
    rw [hM, hN]
    refine b_le (by omega) (by omega) (fun z => absurd z (by omega)) (fun _ => ?_)
    rw [show (120 : Int32) * nI M + nI j2 = nI (120 * M + j2) from m_ix 120 M j2, nI_clamp (by omega), nI_clamp (by omega), hl, e2, (hlt j2 hj).1, nI_1]
    refine ⟨vp_in_nI (by omega) (by decide), vp_in_nI (by omega) (by decide), ih (j2 + 1, 3000, upd (iaF w1) (120 * M + j2) (nI (t j2))) ⟨rfl, rfl, fun i hi => ?_, fun i hi => ?_⟩⟩
    · show upd (iaF w1) (120 * M + j2) (nI (t j2)) i = _
      rw [pk_un (by omega)]; exact e3 i hi
    · show upd (iaF w1) (120 * M + j2) (nI (t j2)) (120 * M + i) = _
      by_cases q : i = j2
      · rw [q, pk_us]
      · rw [pk_un (by omega)]; exact e4 i (by omega)
theorem q_readX {post : Int32 → (MoC × IaC × IaC × IaC × IaC × IaC × IaC × IaC × IaC × IaC × IaC × IaC) → Prop} {u : MoC} {ln x5 st : IaC} {X : XA} {x : Int32} (hx : noX x 3) (h : post (-100) (u, X.1, X.2.1, X.2.2.1, X.2.2.2.1, x5, X.2.2.2.2.1, X.2.2.2.2.2.1, X.2.2.2.2.2.2.1, X.2.2.2.2.2.2.2.1, X.2.2.2.2.2.2.2.2, st)) :
    wp_M_read post u ln X.1 X.2.1 X.2.2.1 X.2.2.2.1 x5 X.2.2.2.2.1 X.2.2.2.2.2.1 X.2.2.2.2.2.2.1 X.2.2.2.2.2.2.2.1 X.2.2.2.2.2.2.2.2 st x := by
  unfold wp_M_read
  refine ⟨fun _ => h, fun z => ⟨fun z2 => ?_, fun _ => h⟩⟩
  exfalso
  obtain ⟨j, hj, rfl⟩ := nI_of z
  have := (nI_leI (b := 2) hj (by decide)).mp z2
  exact hx j (by omega) rfl
