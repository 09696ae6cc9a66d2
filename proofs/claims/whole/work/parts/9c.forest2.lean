/-! the class's calls that change its state -/
section FO
variable {uF : FoC} {uL uD : RowC} {uR : RdC} {uH : ShC} {uE uO : RowC} {uM : MaC} {ad : Nat → Nat} {pu : Nat → SgC} {z : ST} {x y v : Int32} {i j q : Nat}
theorem isT_S {z : ST} {x : Int32} (h : isT z x) : tyS z x = (zM z, zG z, zS z, zN z + 1, fun j => if j = zN z then x.toNatClampNeg else zT z j) ∧ tyA z x = nI (zN z + 1) := by
  unfold tyS tyA
  rw [if_pos h, if_pos h]
  exact ⟨rfl, rfl⟩
theorem isT_N {z : ST} {x : Int32} (h : ¬ isT z x) : tyS z x = z ∧ tyA z x = -100 := by
  unfold tyS tyA
  rw [if_neg h, if_neg h]
  exact ⟨rfl, rfl⟩
theorem isS_S {z : ST} {x y : Int32} (h : isS z x y) : scS z x y = (zM z, zG z, fun q => if q = x.toNatClampNeg then ix (zM z) y else zS z q, zN z, zT z) ∧ scA z x y = oI (zS z x.toNatClampNeg) := by
  unfold scS scA
  rw [if_pos h, if_pos h]
  exact ⟨rfl, rfl⟩
theorem isS_N {z : ST} {x y : Int32} (h : ¬ isS z x y) : scS z x y = z ∧ scA z x y = -100 := by
  unfold scS scA
  rw [if_neg h, if_neg h]
  exact ⟨rfl, rfl⟩
theorem isR_S {z : ST} {x : Int32} (h : isR z x) : rdS z x = pS z (x.toNatClampNeg, zT z, zN z) none 0 ∧ rdA z x = nI (zM z) := by
  unfold rdS rdA
  rw [if_pos h, if_pos h]
  exact ⟨rfl, rfl⟩
theorem isR_N {z : ST} {x : Int32} (h : ¬ isR z x) : rdS z x = z ∧ rdA z x = (match ix 3 x with
  | none => -100
  | some k => aRd k (zT z) (zN z)) := by
  unfold rdS rdA
  rw [if_neg h, if_neg h]
  exact ⟨rfl, rfl⟩
theorem isF_S {z : ST} {x y v : Int32} (h : isF z x y v) : flS z x y v = pS z (flG z x.toNatClampNeg y.toNatClampNeg v.toNatClampNeg) (zS z x.toNatClampNeg) (zN z) ∧ flA z x y v = nI (zM z) := by
  unfold flS flA
  rw [if_pos h, if_pos h]
  exact ⟨rfl, rfl⟩
theorem isF_N {z : ST} {x y v : Int32} (h : ¬ isF z x y v) : flS z x y v = z ∧ flA z x y v = -100 := by
  unfold flS flA
  rw [if_neg h, if_neg h]
  exact ⟨rfl, rfl⟩
theorem fo_count {post : Int32 → Prop} (Q : FQ uF uL uD uR uH uE uO uM ad pu z) (h : post (aCo z x)) : wp_F_count post uF uL x := by
  unfold wp_F_count
  rw [aCo] at h
  refine ⟨fun c => ⟨fun d => ?_, fun d => ?_⟩, fun c => ?_⟩
  · rw [if_neg c, if_neg d] at h
    exact h
  · rw [if_neg c, if_pos d] at h
    rw [Q.2.1.1]
    exact h
  · rw [if_pos c] at h
    rw [Q.1.1]
    exact h
theorem fo_clear {post : RowC → Prop} (Q : FQ uF uL uD uR uH uE uO uM ad pu z) (h : ∀ u, FQ uF u uD uR uH uE uO uM ad pu (clS z) → post u) : wp_F_clear post uF uL := by
  unfold wp_F_clear
  obtain ⟨q1, q2, q3, q4⟩ := Q
  exact h _ ⟨q1, ⟨rfl, by show 0 ≤ rwN uL; omega, q2.2.2.1, fun j hj => absurd (show j < 0 from hj) (by omega)⟩, q3, q4⟩
theorem ch_nar {n : Nat} (h : n < 128) : vp_nar .char (((nI n).toUInt32 % 65536).toInt32) = nI n := by
  have : ∀ m : Fin 128, vp_nar .char (((nI m.val).toUInt32 % 65536).toInt32) = nI m.val := by decide +kernel
  exact this ⟨n, h⟩
theorem fo_type {post : Int32 → RowC → Prop} (Q : FQ uF uL uD uR uH uE uO uM ad pu z) (h : ∀ u, FQ uF u uD uR uH uE uO uM ad pu (tyS z x) → post (tyA z x) u) : wp_F_type post uF uL x := by
  unfold wp_F_type wp_Rw_add
  have Q0 := Q
  obtain ⟨q1, ⟨t1, t2, t3, t4⟩, q3, q4⟩ := Q
  refine ⟨fun c => ?_, fun c => ⟨fun d => ?_, fun d => ⟨fun e => ?_, fun e => ?_⟩⟩⟩
  · have := isT_N (z := z) (x := x) (fun g => g.1 c)
    rw [this.1, this.2] at h
    exact h _ Q0
  · have := isT_N (z := z) (x := x) (fun g => g.2.1 d)
    rw [this.1, this.2] at h
    exact h _ Q0
  · rw [t1, q3] at e
    have hn : zN z < 40 := (nI_ltI (by omega) (by omega)).mp (show nI (zN z) < nI 40 from e)
    have := isT_S (z := z) (x := x) ⟨c, d, hn⟩
    rw [this.1, this.2] at h
    obtain ⟨g1, g2, g3⟩ := ty_nat c d
    rw [t1, nI_clamp (by omega), q3]
    refine ⟨vp_in_nI hn (by decide), ⟨fun _ => ?_, fun g => absurd g (by decide)⟩⟩
    rw [nI_1]
    refine h _ ⟨q1, ⟨rfl, by show zN z + 1 ≤ 40; omega, by show 40 < 1000; omega, fun j hj => ?_⟩, rfl, q4⟩
    have hj : j < zN z + 1 := hj
    show upd (rwF uL) (zN z) _ j = nI (if j = zN z then x.toNatClampNeg else zT z j) ∧ (if j = zN z then x.toNatClampNeg else zT z j) < 128
    by_cases e2 : j = zN z
    · rw [if_pos e2, e2, pk_us]
      refine ⟨?_, by omega⟩
      have h9 := ch_nar (n := x.toNatClampNeg) (by omega)
      rw [← g1] at h9
      rw [h9]
      exact g1
    · rw [if_neg e2, pk_un e2]
      exact t4 j (by omega)
  · rw [t1, q3] at e
    have hn : ¬ zN z < 40 := fun g => e (nI_lt g (by decide))
    have := isT_N (z := z) (x := x) (fun g => hn g.2.2)
    rw [this.1, this.2] at h
    exact ⟨fun g => absurd rfl g, fun _ => h _ Q0⟩
/-- the signatures' bundles, one changed -/
def puS (pu : Nat → SgC) (i : Nat) (u : SgC) : Nat → SgC := fun q => if q = i then u else pu q
theorem fo_scopeN {post : Int32 → Prop} (Q : FQ uF uL uD uR uH uE uO uM ad pu z) (hx : noX x (zM z)) (h : FQ uF uL uD uR uH uE uO uM ad pu (scS z x y) → post (scA z x y)) : wp_F_scopeN post uF uM x y := by
  unfold wp_F_scopeN
  have := isS_N (z := z) (x := x) (y := y) (fun ⟨i, hi, e, _⟩ => hx i hi e)
  rw [this.1, this.2] at h
  exact r_findN Q.1 hx ⟨rfl, h Q⟩
theorem sc_set (Q : FQ uF uL uD uR uH uE uO uM ad pu z) (hz : VS z) (hi : i < zM z) (hS : isS z (nI i) y) (hy : y = oI (ix (zM z) y)) : FQ uF uL uD uR uH uE uO uM ad (puS pu i (sgK (pu i), sgN (pu i), sgL (pu i), sgR (pu i), sgM (pu i), sgB (pu i), sgE (pu i), sgO (pu i), y)) (scS z (nI i) y) := by
  have hM := hz.1
  rw [(isS_S hS).1]
  obtain ⟨q1, q2, q3, q4, q5, q6, q7, q8, q9⟩ := Q
  refine ⟨q1, q2, q3, q4, q5, q6, q7, q8, fun q hq => ?_⟩
  have hq : q < zM z := hq
  show SgI (if q = i then (sgK (pu i), sgN (pu i), sgL (pu i), sgR (pu i), sgM (pu i), sgB (pu i), sgE (pu i), sgO (pu i), y) else pu q) _ _ _ ∧ sgP (if q = i then (sgK (pu i), sgN (pu i), sgL (pu i), sgR (pu i), sgM (pu i), sgB (pu i), sgE (pu i), sgO (pu i), y) else pu q) = oI (if q = (nI i).toNatClampNeg then ix (zM z) y else zS z q)
  rw [nI_clamp (by omega)]
  by_cases e : q = i
  · rw [if_pos e, if_pos e, e]
    exact ⟨(q9 i hi).1, hy⟩
  · rw [if_neg e, if_neg e]
    exact q9 q hq
theorem pu_same {pu : Nat → SgC} {i : Nat} : puS pu i (pu i) = pu := by
  funext q
  unfold puS
  split
  · rename_i e
    rw [e]
  · rfl
theorem fo_scope0 {post : Int32 → SgC → Prop} (Q : FQ uF uL uD uR uH uE uO uM ad pu z) (hz : VS z) (hi : i < zM z) (hx : x = nI i) (hy : noX y (zM z)) (h : ∀ u, FQ uF uL uD uR uH uE uO uM ad (puS pu i u) (scS z x y) → post (scA z x y) u) : wp_F_scope0 post uF uM (pu i) x y (ad i) := by
  unfold wp_F_scope0
  have hM := hz.1
  subst hx
  refine r_findY Q.1 hi ⟨rfl, ⟨fun c => ?_, fun c => ?_⟩⟩
  · have hS : isS z (nI i) y := ⟨i, hi, rfl, Or.inl c⟩
    unfold w_F_scope0_46
    have h9 := h _ (sc_set Q hz hi hS (by rw [ix_N hy]; exact c))
    rw [(isS_S hS).2, nI_clamp (by omega), ← (Q.2.2.2.2.2.2.2.2 i hi).2] at h9
    exact h9
  · have hS : ¬ isS z (nI i) y := by
      rintro ⟨i', hi', e, g | ⟨j, hj, g, -⟩⟩
      · exact c g
      · exact hy j hj g
    rw [(isS_N hS).1, (isS_N hS).2] at h
    exact r_findN Q.1 hy ⟨rfl, h _ (by rw [pu_same]; exact Q)⟩
theorem fo_scopeS {post : Int32 → SgC → Prop} (Q : FQ uF uL uD uR uH uE uO uM ad pu z) (hz : VS z) (hi : i < zM z) (hx : x = nI i) (hy : y = nI i) (h : ∀ u, FQ uF uL uD uR uH uE uO uM ad (puS pu i u) (scS z x y) → post (scA z x y) u) : wp_F_scopeS post uF uM (pu i) x y (ad i) := by
  unfold wp_F_scopeS
  have hM := hz.1
  subst hx
  subst hy
  have hS : ¬ isS z (nI i) (nI i) := by
    rintro ⟨i', hi', e, g | ⟨j, hj, g, g2, -⟩⟩
    · exact noX_m1 (M := 25) (by decide) i (by omega) g.symm
    · have h1 := (nI_eq (by omega) (by omega)).mp e
      have h2 := (nI_eq (by omega) (by omega)).mp g
      omega
  rw [(isS_N hS).1, (isS_N hS).2] at h
  refine r_findY Q.1 hi ⟨rfl, ⟨fun c => absurd c.symm (noX_m1 (M := 25) (by decide) i (by omega)), fun c => ?_⟩⟩
  exact r_findY Q.1 hi ⟨rfl, ⟨fun _ => h _ (by rw [pu_same]; exact Q), fun g => absurd rfl g⟩⟩
theorem fo_scope1 {post : Int32 → SgC → Prop} (Q : FQ uF uL uD uR uH uE uO uM ad pu z) (hz : VS z) (hi : i < zM z) (hx : x = nI i) (hj : j < zM z) (hy : y = nI j) (hij : j ≠ i) (h : ∀ u, FQ uF uL uD uR uH uE uO uM ad (puS pu i u) (scS z x y) → post (scA z x y) u) : wp_F_scope1 post uF uM (pu i) (pu j) x y (ad i) (ad j) := by
  unfold wp_F_scope1
  have hM := hz.1
  subst hx
  subst hy
  have hk := (Q.2.2.2.2.2.2.2.2 j hj).1.1
  refine r_findY Q.1 hi ⟨rfl, ⟨fun c => absurd c.symm (noX_m1 (M := 25) (by decide) j (by omega)), fun c => ?_⟩⟩
  refine r_findY Q.1 hj ⟨rfl, ⟨fun g => absurd ((nI_eq (by omega) (by omega)).mp g) hij, fun _ => ⟨fun g => ?_, fun g => ?_⟩⟩⟩
  · have hS : isS z (nI i) (nI j) := ⟨i, hi, rfl, Or.inr ⟨j, hj, rfl, hij, by
      rw [hk] at g
      exact (nI_eq (by have := (hz.2.1 j hj).1; omega) (by omega)).mp (show nI (zG z j).1 = nI 0 from g)⟩⟩
    unfold w_F_scope1_46
    have h9 := h _ (sc_set Q hz hi hS (by rw [ix_Y hj (by omega)]; rfl))
    rw [(isS_S hS).2, nI_clamp (by omega), ← (Q.2.2.2.2.2.2.2.2 i hi).2] at h9
    exact h9
  · have hS : ¬ isS z (nI i) (nI j) := by
      rintro ⟨i', hi', e, g2 | ⟨j', hj', g2, g3, g4⟩⟩
      · exact c g2
      · have h2 := (nI_eq (by omega) (by omega)).mp g2
        rw [← h2] at g4
        rw [hk, g4] at g
        exact g rfl
    rw [(isS_N hS).1, (isS_N hS).2] at h
    exact h _ (by rw [pu_same]; exact Q)
theorem fo_readN {post : Int32 → (RowC × RdC) → Prop} (Q : FQ uF uL uD uR uH uE uO uM ad pu z) (hz : VS z) (hR : ¬ isR z x) (h : ∀ d, FQ uF uL uD d uH uE uO uM ad pu (rdS z x) → post (rdA z x) (uL, d)) : wp_F_readN post uF uL uR x := by
  have Q0 := Q
  obtain ⟨q1, q2, q3, q4, q5, q6⟩ := Q
  rw [(isR_N hR).1, (isR_N hR).2] at h
  have hn := hz.2.2.2.1
  rcases cs_x x 3 with ⟨k, hk, rfl⟩ | hx
  · rw [ix_Y hk (by decide)] at h
    refine r_readN q1 hk q2 (by omega) q5 (fun ho => ?_) (fun a d ha hd => ?_) (fun ho d hd => ?_)
    · have := hz.1
      rcases Nat.lt_or_ge (zM z) 24 with c | c
      · exact absurd ⟨k, hk, rfl, ho, c⟩ hR
      · omega
    · have h9 := h d ⟨q1, q2, q3, q4, hd, q6⟩
      simp only [aRd_eq ha] at h9
      exact h9
    · have h9 := h d ⟨q1, q2, q3, q4, hd, q6⟩
      simp only [aRd_ok ho] at h9
      exact h9
  · rw [ix_N hx] at h
    exact r_readX hx (h _ Q0)
/-- a new signature joins the others -/
theorem FQ.push {u' : FoC} {v' : MaC} {g : SgC} {G : SG} {o : Option Nat} {n : Nat} {uL' uD' : RowC} {uR' : RdC} {q : Nat} (Q : FQ uF uL uD uR uH uE uO uM ad pu z) (hM : zM z < 24) (hK : FoK u' v' (zM z) ad q) (hL : TxI uL' (zT z) n) (hL2 : rwN uL' = 40) (hD : rwN uD' = 120) (hR : rdN uR' = 120) (hg : SgI g G.1 G.2.1 G.2.2) (ho : sgP g = oI o) :
    FQ u' uL' uD' uR' uH uE uO v' (fun i => if i = zM z then q else ad i) (puS pu (zM z) g) (pS z G o n) := by
  obtain ⟨q1, q2, q3, q4, q5, q6, q7, q8, q9⟩ := Q
  obtain ⟨k1, k2, k3, k4⟩ := hK
  refine ⟨⟨k1, by show zM z + 1 ≤ 24; omega, k2, fun i hi => ?_⟩, hL, hL2, hD, hR, q6, q7, q8, fun i hi => ?_⟩
  · have hi : i < zM z + 1 := hi
    show maF v' i = some (if i = zM z then q else ad i)
    by_cases e : i = zM z
    · rw [if_pos e, e]
      exact k4
    · rw [if_neg e]
      exact k3 i (by omega)
  · have hi : i < zM z + 1 := hi
    show SgI (if i = zM z then g else pu i) (if i = zM z then G else zG z i).1 (if i = zM z then G else zG z i).2.1 (if i = zM z then G else zG z i).2.2 ∧ sgP (if i = zM z then g else pu i) = oI (if i = zM z then o else zS z i)
    by_cases e : i = zM z
    · rw [if_pos e, if_pos e, if_pos e]
      exact ⟨hg, ho⟩
    · rw [if_neg e, if_neg e, if_neg e]
      exact q9 i (by omega)
theorem fo_readY {post : Int32 → (FoC × RowC × RdC × MaC × SgC × Nat) → Prop} (Q : FQ uF uL uD uR uH uE uO uM ad pu z) (hz : VS z) (hR : isR z x) (h : ∀ u r d v g q, FQ u r uD d uH uE uO v (fun i => if i = zM z then q else ad i) (puS pu (zM z) g) (rdS z x) → post (rdA z x) (u, r, d, v, g, q)) : wp_F_readY post uF uL uR uM x := by
  rw [(isR_S hR).1, (isR_S hR).2] at h
  obtain ⟨k, hk, rfl, ho, hM⟩ := hR
  have hn := hz.2.2.2.1
  rw [nI_clamp (by omega)] at h
  have Q0 := Q
  obtain ⟨q1, q2, q3, q4, q5, q6⟩ := Q
  refine r_readY q1 hM hk q2 (by omega) q5 ho (fun u d v g q hK hd hg hp => h u _ d v g q ?_)
  exact Q0.push hM hK ⟨rfl, Nat.zero_le _, q2.2.2.1, fun j hj => absurd hj (by omega)⟩ q3 q4 hd hg hp
theorem fo_fillN0 {post : Int32 → Prop} (Q : FQ uF uL uD uR uH uE uO uM ad pu z) (hx : noX x (zM z)) (hv : noX v (zM z)) (h : FQ uF uL uD uR uH uE uO uM ad pu (flS z x y v) → post (flA z x y v)) : wp_F_fillN0 post uF uM x y v := by
  unfold wp_F_fillN0
  have := isF_N (z := z) (x := x) (y := y) (v := v) (fun ⟨i, j, e, hi, _, g, _⟩ => hx i hi g)
  rw [this.1, this.2] at h
  exact r_findN Q.1 hx ⟨rfl, r_findN Q.1 hv ⟨rfl, h Q⟩⟩
theorem fo_fillN1 {post : Int32 → Prop} (Q : FQ uF uL uD uR uH uE uO uM ad pu z) (hx : noX x (zM z)) (hj : j < zM z) (hv : v = nI j) (h : FQ uF uL uD uR uH uE uO uM ad pu (flS z x y v) → post (flA z x y v)) : wp_F_fillN1 post uF uM (pu j) x y v (ad j) := by
  unfold wp_F_fillN1
  have := isF_N (z := z) (x := x) (y := y) (v := v) (fun ⟨i, j, e, hi, _, g, _⟩ => hx i hi g)
  rw [this.1, this.2] at h
  subst hv
  exact r_findN Q.1 hx ⟨rfl, r_findY Q.1 hj ⟨rfl, h Q⟩⟩
theorem fo_fillN2 {post : Int32 → Prop} (Q : FQ uF uL uD uR uH uE uO uM ad pu z) (hi : i < zM z) (hx : x = nI i) (hv : noX v (zM z)) (h : FQ uF uL uD uR uH uE uO uM ad pu (flS z x y v) → post (flA z x y v)) : wp_F_fillN2 post uF uM (pu i) x y v (ad i) := by
  unfold wp_F_fillN2
  have := isF_N (z := z) (x := x) (y := y) (v := v) (fun ⟨i, j, e, hi, hj, _, g, _⟩ => hv j hj g)
  rw [this.1, this.2] at h
  subst hx
  exact r_findY Q.1 hi ⟨rfl, r_findN Q.1 hv ⟨rfl, h Q⟩⟩
theorem fo_fillN {post : Int32 → (RowC × RdC) → Prop} (Q : FQ uF uL uD uR uH uE uO uM ad pu z) (hz : VS z) (hi : i < zM z) (hx : x = nI i) (hj : j < zM z) (hv : v = nI j) (hF : ¬ isF z x y v) (h : ∀ r d, FQ uF uL r d uH uE uO uM ad pu (flS z x y v) → post (flA z x y v) (r, d)) : wp_F_fillN post uF uD uR uM (pu i) (pu j) x y v (ad i) (ad j) := by
  rw [(isF_N hF).1, (isF_N hF).2] at h
  have hM := hz.1
  obtain ⟨q1, q2, q3, q4, q5, q6⟩ := Q
  obtain ⟨hu, -⟩ := q6.2.2.2 i hi
  obtain ⟨hu', -⟩ := q6.2.2.2 j hj
  subst hx
  subst hv
  refine r_fillN q1 hi hj hu (hz.2.1 i hi) hu' (hz.2.1 j hj) q4 q5 (fun e he ey hk ho => ?_) (fun r d hr hd => h r d ⟨q1, q2, q3, hr, hd, q6⟩)
  rcases Nat.lt_or_ge (zM z) 24 with c | c
  · exact absurd ⟨i, j, e, hi, hj, rfl, rfl, hk, he, ey, ho, c⟩ hF
  · omega
theorem fo_fillY {post : Int32 → (FoC × RowC × RdC × MaC × SgC × Nat) → Prop} (Q : FQ uF uL uD uR uH uE uO uM ad pu z) (hz : VS z) (hi : i < zM z) (hx : x = nI i) (hj : j < zM z) (hv : v = nI j) (hF : isF z x y v) (h : ∀ u r d w g q, FQ u uL r d uH uE uO w (fun i => if i = zM z then q else ad i) (puS pu (zM z) g) (flS z x y v) → post (flA z x y v) (u, r, d, w, g, q)) : wp_F_fillY post uF uD uR uM (pu i) (pu j) x y v (ad i) (ad j) := by
  rw [(isF_S hF).1, (isF_S hF).2] at h
  have hM := hz.1
  have Q0 := Q
  obtain ⟨q1, q2, q3, q4, q5, q6⟩ := Q
  obtain ⟨i', j', e, hi', hj', ex, ev, hk, he, rfl, ho, hM2⟩ := hF
  subst hx
  subst hv
  have h1 := (nI_eq (by omega) (by omega)).mp ex
  have h2 := (nI_eq (by omega) (by omega)).mp ev
  subst h1
  subst h2
  have hg := hz.2.1 i hi
  have hf := hz.2.1 j hj
  have hc : zc z i ≤ 20 := hg.2.2.2.2.2
  rw [nI_clamp (by omega), nI_clamp (by omega), nI_clamp (by omega)] at h
  obtain ⟨hu, hp⟩ := q6.2.2.2 i hi
  obtain ⟨hu', -⟩ := q6.2.2.2 j hj
  rw [hk] at hu' hf
  refine r_fillY q1 hM2 hi hj hu hg hu' hf he q4 q5 ho (fun u r d w g q hK hr hd hs ep => h u r d w g q ?_)
  exact Q0.push (G := flG z i e j) hM2 hK q2 q3 hr hd hs (ep.trans hp)
end FO
