/-! the class keeps a signature; read; fill -/
theorem fits_i (x : Int32) : fits .int (.int x) = true := rfl
theorem r_sigInit {post : SgC → Prop} {u0 : SigBC} {r : RowC} {d : RdC} {k : Nat} {t : Nat → Nat} {n : Nat} {x : Int32} (hr : TxI r t n) (hn : n ≤ 120) (hd : RdI d k t n) (h : ∀ v, SgI v k t n → sgP v = x → post v) : wp_Sg_init post u0 r d x := by
  obtain ⟨e1, e2, e3, e4⟩ := hr
  obtain ⟨d1, ⟨h1, -⟩, d3, d4, d5⟩ := hd
  have hc := aC_le k t n
  have z0 : (0 : Int32).toNatClampNeg = 0 := by decide
  have p0 : ¬ (0 : Int32) < 0 := by decide
  unfold wp_Sg_init
  rw [e1, d3, nI_clamp (by omega), nI_clamp (by omega), ofN, ofN, nI_clamp (by omega), nI_clamp (by omega), z0, d1]
  have nn : ¬ nI n < 0 := nI_pos (by omega)
  have nc : ¬ nI (aC k t n) < 0 := nI_pos (by omega)
  refine ⟨⟨nn, hn⟩, ⟨⟨p0, p0, nn, by omega, by omega⟩, fun i hi => by rw [Nat.zero_add, (e4 i hi).1]; exact fits_c _ (e4 i hi).2⟩, ⟨nn, hn⟩, ⟨⟨p0, p0, nn, by omega, by omega⟩, fun i hi => fits_i _⟩, ⟨nc, by omega⟩, ⟨⟨p0, p0, nc, by omega, by omega⟩, fun i hi => fits_i _⟩, ⟨nc, by omega⟩, ⟨⟨p0, p0, nc, by omega, by omega⟩, fun i hi => fits_i _⟩, ?_⟩
  have cp : ∀ (f : Nat → Int32) (m i : Nat), i < m → va_cpy f (fun _ => 0) 0 0 m i = f i := fun f m i hi => by unfold va_cpy; rw [if_pos ⟨by omega, by omega⟩]; congr 1; omega
  refine lpN (n := n) (W := fun f j => w_Sg_init_135 post r d f (nI (aO k t j)) (nI j) (rdK d, n, va_cpy (rwF r) (fun _ => 0) 0 0 n, va_cpy (rdR d) (fun _ => 0) 0 0 n, aC k t n, va_cpy (rdB d) (fun _ => 0) 0 0 (aC k t n), va_cpy (rdE d) (fun _ => 0) 0 0 (aC k t n), sigb_5 u0, x)) (fun f => ?_) (fun f j hj ih => ?_) 0 (by omega)
  · unfold w_Sg_init_135 wb_Sg_init_135
    refine b_le (a := n) (q := n) (by omega) (by omega) (fun _ => h _ ⟨h1, rfl, fun j hj => ?_, fun j hj => ?_, rfl, fun j hj => ⟨?_, ?_⟩, rfl⟩ rfl) (fun z => absurd z (by omega))
    · show va_cpy (rwF r) (fun _ => 0) 0 0 n j = _
      rw [cp _ _ _ hj, (e4 j hj).1]
    · show va_cpy (rdR d) (fun _ => 0) 0 0 n j = _
      rw [cp _ _ _ hj, d4 j hj]
    · show va_cpy (rdB d) (fun _ => 0) 0 0 (aC k t n) j = _
      rw [cp _ _ _ hj, (d5 j hj).1]
    · show va_cpy (rdE d) (fun _ => 0) 0 0 (aC k t n) j = _
      rw [cp _ _ _ hj, (d5 j hj).2]
  · unfold w_Sg_init_135 wb_Sg_init_135 w_Sg_init_162
    have hrl := aR_lt k t j
    have eO : aO k t (j + 1) = if aR k t j = 5 then j + 1 else aO k t j := rfl
    refine b_le (a := j) (q := n) (by omega) (by omega) (fun z => absurd z (by omega)) (fun _ => ⟨vp_in_nI (N := n) hj (by omega), ?_⟩)
    show (¬ va_cpy (rdR d) (fun _ => 0) 0 0 n (nI j).toNatClampNeg = 5 → _) ∧ (va_cpy (rdR d) (fun _ => 0) 0 0 n (nI j).toNatClampNeg = 5 → _)
    rw [nI_clamp (by omega), cp _ _ _ hj, d4 j hj, nI_1]
    rw [eO] at ih
    refine b_eq (k := 5) (by omega) (by decide) (fun e => ?_) (fun e => ?_)
    · rw [if_pos e] at ih; exact ih
    · rw [if_neg e] at ih; exact ih
/-- the array of made signatures behind one more -/
def FoK (u' : FoC) (v' : MaC) (M : Nat) (ad : Nat → Nat) (q : Nat) : Prop := foC u' = nI (M + 1) ∧ maN v' = 24 ∧ (∀ i, i < M → maF v' i = some (ad i)) ∧ maF v' M = some q
theorem r_keepY {post : Int32 → (FoC × MaC × SgC × Nat) → Prop} {u0 : FoC} {v : MaC} {r : RowC} {d : RdC} {M : Nat} {ad : Nat → Nat} {k : Nat} {t : Nat → Nat} {n : Nat} {x : Int32} (hF : FoI u0 v M ad) (hM : M < 24) (hr : TxI r t n) (hn : n ≤ 120) (hd : RdI d k t n) (h : ∀ u' v' g q, FoK u' v' M ad q → SgI g k t n → sgP g = x → post (nI M) (u', v', g, q)) : wp_F_keepY post u0 r v d x := by
  obtain ⟨f1, f2, f3, f4⟩ := hF
  unfold wp_F_keepY
  rw [f1]
  refine ⟨nI_lt (b := 24) hM (by decide), fun q => r_sigInit hr hn hd (fun g g1 g2 => ?_)⟩
  rw [f3, nI_1, nI_pred, nI_clamp (by omega)]
  refine ⟨vp_in_nI (by omega) (by decide), h _ _ g q ⟨rfl, rfl, fun i hi => ?_, ?_⟩ g1 g2⟩
  · show va_up (maF v) M (some q) i = _
    unfold va_up
    rw [if_neg (by omega)]
    exact f4 i hi
  · show va_up (maF v) M (some q) M = _
    unfold va_up
    rw [if_pos rfl]
theorem r_keepF {post : Int32 → Prop} {u0 : FoC} {v : MaC} {r : RowC} {M : Nat} {ad : Nat → Nat} {x : Int32} (hF : FoI u0 v M ad) (hM : M = 24) (h : post (-100)) : wp_F_keepF post u0 r x := by
  unfold wp_F_keepF
  rw [hF.1, hM]
  exact ⟨by decide, h⟩
/-- a text without a fault -/
def Ok (k : Nat) (t : Nat → Nat) (n : Nat) : Prop := (∀ j, j < n → ¬ aBad k t j) ∧ aEnd k t n
/-- what read answers to a text that has a fault -/
def FA (k : Nat) (t : Nat → Nat) (n : Nat) (a : Int32) : Prop := (∃ p, p < n ∧ (∀ j, j < p → ¬ aBad k t j) ∧ aBad k t p ∧ a = -1 - nI p) ∨ ((∀ j, j < n → ¬ aBad k t j) ∧ ¬ aEnd k t n ∧ a = -1 - nI n)
theorem FA_uniq {k : Nat} {t : Nat → Nat} {n : Nat} {a b : Int32} (ha : FA k t n a) (hb : FA k t n b) : a = b := by
  rcases ha with ⟨p, p1, p2, p3, p4⟩ | ⟨p2, p3, p4⟩
  · rcases hb with ⟨q, q1, q2, q3, q4⟩ | ⟨q2, q3, q4⟩
    · rcases Nat.lt_trichotomy p q with w | w | w
      · exact absurd p3 (q2 p w)
      · rw [p4, q4, w]
      · exact absurd q3 (p2 q w)
    · exact absurd p3 (q2 p p1)
  · rcases hb with ⟨q, q1, q2, q3, q4⟩ | ⟨q2, q3, q4⟩
    · exact absurd q3 (p2 q q1)
    · rw [p4, q4]
theorem FA_no {k : Nat} {t : Nat → Nat} {n : Nat} {a : Int32} (ha : FA k t n a) : ¬ Ok k t n := by
  rintro ⟨o1, o2⟩
  rcases ha with ⟨p, p1, p2, p3, p4⟩ | ⟨p2, p3, p4⟩
  · exact o1 p p1 p3
  · exact p3 o2
theorem r_fault {post : Int32 → RdC → Prop} {u : RdC} {v : RowC} {k : Nat} {t : Nat → Nat} {n : Nat} (hN : rdN u = 120) (hk : k < 3) (hv : TxI v t n) (hn : n ≤ 120) (H0 : ∀ p u', p < 200 → FA k t n (-1 - nI p) → rdN u' = 120 → post (nI p) u') (H1 : Ok k t n → ∀ u', RdI u' k t n → post (-1) u') : wp_Rd_faultOf post u v (nI k) := by
  refine r_faultOf hN hk hv hn (fun p u' a b c d => H0 p u' (by omega) (Or.inl ⟨p, a, b, c, rfl⟩) d) (fun a b u' c => H1 ⟨a, b⟩ u' c) (fun a b u' c => H0 n u' (by omega) (Or.inr ⟨a, b, rfl⟩) c)
theorem neg1_ne {p : Nat} (h : p < 2 ^ 31) : ¬ nI p = -1 := fun z => nI_pos h (by rw [z]; decide)
theorem r_readY {post : Int32 → (FoC × RowC × RdC × MaC × SgC × Nat) → Prop} {u0 : FoC} {r : RowC} {d : RdC} {v : MaC} {M : Nat} {ad : Nat → Nat} {k : Nat} {t : Nat → Nat} {n : Nat} (hF : FoI u0 v M ad) (hM : M < 24) (hk : k < 3) (hr : TxI r t n) (hn : n ≤ 120) (hd : rdN d = 120) (hok : Ok k t n) (h : ∀ u' d' v' g q, FoK u' v' M ad q → rdN d' = 120 → SgI g k t n → sgP g = -1 → post (nI M) (u', (rwN r, rwF r, 0), d', v', g, q)) : wp_F_readY post u0 r d v (nI k) := by
  unfold wp_F_readY
  refine ⟨nI_pos (by omega), nI_le (b := 2) (by omega) (by decide), r_fault hd hk hr hn (fun p u' _ a _ => absurd hok (FA_no a)) (fun _ d' hd' => ⟨rfl, r_keepY hF hM hr hn hd' (fun u' v' g q a b c => ⟨?_, h u' d' v' g q a hd'.1 b c⟩)⟩)⟩
  exact fun z => nI_pos (n := M) (by omega) (by rw [z]; decide)
theorem r_readN {post : Int32 → (RowC × RdC) → Prop} {u0 : FoC} {r : RowC} {d : RdC} {v : MaC} {M : Nat} {ad : Nat → Nat} {k : Nat} {t : Nat → Nat} {n : Nat} (hF : FoI u0 v M ad) (hk : k < 3) (hr : TxI r t n) (hn : n ≤ 120) (hd : rdN d = 120) (hno : Ok k t n → M = 24) (H0 : ∀ a d', FA k t n a → rdN d' = 120 → post a (r, d')) (H1 : Ok k t n → ∀ d', rdN d' = 120 → post (-100) (r, d')) : wp_F_readN post u0 r d (nI k) := by
  unfold wp_F_readN
  refine ⟨fun z => absurd z (nI_pos (by omega)), fun _ => ⟨fun _ => r_fault hd hk hr hn (fun p u' hp a b => ⟨fun z => absurd z (neg1_ne (by omega)), fun _ => H0 _ u' a b⟩) (fun a d' hd' => ⟨fun _ => r_keepF hF (hno a) ⟨fun _ => H1 a d' hd'.1, fun z => absurd rfl z⟩, fun z => absurd rfl z⟩), fun z => absurd (nI_le (b := 2) (by omega) (by decide)) z⟩⟩
theorem r_readX {post : Int32 → (RowC × RdC) → Prop} {u0 : FoC} {r : RowC} {d : RdC} {x : Int32} (hx : noX x 3) (h : post (-100) (r, d)) : wp_F_readN post u0 r d x := by
  unfold wp_F_readN
  refine ⟨fun _ => h, fun z => ⟨fun z2 => ?_, fun _ => h⟩⟩
  exfalso
  obtain ⟨j, hj, rfl⟩ := nI_of z
  have := (nI_leI (b := 2) hj (by decide)).mp z2
  exact hx j (by omega) rfl
/-- the filled text as a function -/
def tD (k : Nat) (t : Nat → Nat) (n e : Nat) (tf : Nat → Nat) (nf i : Nat) : Nat := (fL k t n e tf nf 0).getD i 0
def nD (k : Nat) (t : Nat → Nat) (n e : Nat) (tf : Nat → Nat) (nf : Nat) : Nat := (fL k t n e tf nf 0).length
theorem fl_lt {k : Nat} {t : Nat → Nat} {n e : Nat} {tf : Nat → Nat} {nf : Nat} (hg : Gd k t n) (hf : Gd 2 tf nf) : ∀ w j, ∀ c ∈ fl k t n e tf nf w j, 32 < c ∧ c < 127
  | 0, _, c, hc => by simp [fl] at hc
  | w + 1, j, c, hc => by
    have hc' : c ∈ (if j < n then (if cF k t n e ≤ j ∧ j < cT k t n e then fl k t n e tf nf w (j + 1) else if dA k t n j = some e then wr tf nf ++ fl k t n e tf nf w (nE k t n 7 (j + 1) + 1) else t j :: fl k t n e tf nf w (j + 1)) else []) := hc
    by_cases hj : j < n
    · rw [if_pos hj] at hc'
      by_cases h1 : cF k t n e ≤ j ∧ j < cT k t n e
      · rw [if_pos h1] at hc'; exact fl_lt hg hf w _ c hc'
      · rw [if_neg h1] at hc'
        by_cases h2 : dA k t n j = some e
        · rw [if_pos h2, List.mem_append] at hc'
          rcases hc' with q | q
          · unfold wr at q
            rw [List.mem_map] at q
            obtain ⟨i, hi, rfl⟩ := q
            rw [List.mem_range] at hi
            exact hf.2.2.1 i hi
          · exact fl_lt hg hf w _ c q
        · rw [if_neg h2, List.mem_cons] at hc'
          rcases hc' with q | q
          · rw [q]; exact hg.2.2.1 j hj
          · exact fl_lt hg hf w _ c q
    · rw [if_neg hj] at hc'; simp at hc'
theorem tD_lt {k : Nat} {t : Nat → Nat} {n e : Nat} {tf : Nat → Nat} {nf : Nat} (hg : Gd k t n) (hf : Gd 2 tf nf) : ∀ j, j < nD k t n e tf nf → 32 < tD k t n e tf nf j ∧ tD k t n e tf nf j < 127 := by
  intro j hj
  unfold tD
  rw [List.getD_eq_getElem?_getD, List.getElem?_eq_getElem hj]
  exact fl_lt hg hf _ _ _ (List.getElem_mem hj)
theorem tD_At {k : Nat} {t : Nat → Nat} {n e : Nat} {tf : Nat → Nat} {nf : Nat} : At (tD k t n e tf nf) 0 (fL k t n e tf nf 0) := fun i hi => by rw [Nat.zero_add]; rfl
/-- the fill that is made -/
def FOk (k : Nat) (t : Nat → Nat) (n e : Nat) (tf : Nat → Nat) (nf : Nat) : Prop := nD k t n e tf nf ≤ 120 ∧ Ok k (tD k t n e tf nf) (nD k t n e tf nf)
theorem FOk_Gd {k : Nat} {t : Nat → Nat} {n e : Nat} {tf : Nat → Nat} {nf : Nat} (hg : Gd k t n) (hf : Gd 2 tf nf) (he : e < aC k t n) (h : FOk k t n e tf nf) : Gd k (tD k t n e tf nf) (nD k t n e tf nf) ∧ aC k (tD k t n e tf nf) (nD k t n e tf nf) + 1 = aC k t n ∧ ¬ eV k t n e tf 0 := by
  have hfg := fill_good (u := tD k t n e tf nf) hg hf he tD_At rfl
  have h1 := hfg.1 h.2.1
  have hc := hg.2.2.2.2.2
  have : aC k (tD k t n e tf nf) (fL k t n e tf nf 0).length + 1 = aC k t n := h1.1
  exact ⟨⟨hg.1, h.1, tD_lt hg hf, h.2.1, h.2.2, by show aC k (tD k t n e tf nf) (fL k t n e tf nf 0).length ≤ 20; omega⟩, h1⟩
theorem rw_tx {r : RowC} {k : Nat} {t : Nat → Nat} {n e : Nat} {tf : Nat → Nat} {nf : Nat} (hg : Gd k t n) (hf : Gd 2 tf nf) (h : RwI r 120 (fL k t n e tf nf 0)) : TxI r (tD k t n e tf nf) (nD k t n e tf nf) := by
  obtain ⟨a1, a2, a3, a4⟩ := h
  refine ⟨a2, by rw [a1]; exact a3, by rw [a1]; decide, fun j hj => ⟨a4 j hj, ?_⟩⟩
  have := (tD_lt (e := e) hg hf j hj).2
  omega
theorem r_fillY {post : Int32 → (FoC × RowC × RdC × MaC × SgC × Nat) → Prop} {u0 : FoC} {r : RowC} {d : RdC} {v : MaC} {u uf : SgC} {M : Nat} {ad : Nat → Nat} {k : Nat} {t tf : Nat → Nat} {n e nf s sf : Nat} (hF : FoI u0 v M ad) (hM : M < 24) (hs : s < M) (hsf : sf < M) (hu : SgI u k t n) (hg : Gd k t n) (huf : SgI uf 2 tf nf) (hf : Gd 2 tf nf) (he : e < aC k t n) (hr : rwN r = 120) (hd : rdN d = 120) (hok : FOk k t n e tf nf)
    (h : ∀ u' r' d' v' g q, FoK u' v' M ad q → rwN r' = 120 → rdN d' = 120 → SgI g k (tD k t n e tf nf) (nD k t n e tf nf) → sgP g = sgP u → post (nI M) (u', r', d', v', g, q)) : wp_F_fillY post u0 r d v u uf (nI s) (nI e) (nI sf) (ad s) (ad sf) := by
  unfold wp_F_fillY
  have hk := hg.1
  refine r_findY hF hs ⟨rfl, r_findY hF hsf ⟨rfl, r_hasP hu hg he ⟨by decide, huf.1, r_writeFilled hu hg huf hf he hr (fun _ r' hr' => ⟨by decide, ?_⟩) (fun z _ _ => ?_)⟩⟩⟩
  · rw [hu.1]
    refine r_fault hd hk (rw_tx hg hf hr') hok.1 (fun p u' _ a _ => absurd hok.2 (FA_no a)) (fun _ d' hd' => ⟨rfl, r_keepY hF hM (rw_tx hg hf hr') hok.1 hd' (fun u' v' g q a b c => h u' r' d' v' g q a hr'.1 hd'.1 b c)⟩)
  · exact absurd hok.1 (by show ¬ (fL k t n e tf nf 0).length ≤ 120; omega)
theorem r_fillN {post : Int32 → (RowC × RdC) → Prop} {u0 : FoC} {r : RowC} {d : RdC} {v : MaC} {u uf : SgC} {M : Nat} {ad : Nat → Nat} {k kf : Nat} {t tf : Nat → Nat} {n nf s sf : Nat} {x : Int32} (hF : FoI u0 v M ad) (hs : s < M) (hsf : sf < M) (hu : SgI u k t n) (hg : Gd k t n) (huf : SgI uf kf tf nf) (hf : Gd kf tf nf) (hr : rwN r = 120) (hd : rdN d = 120) (hno : ∀ e, e < aC k t n → x = nI e → kf = 2 → FOk k t n e tf nf → M = 24)
    (h : ∀ r' d', rwN r' = 120 → rdN d' = 120 → post (-100) (r', d')) : wp_F_fillN post u0 r d v u uf (nI s) x (nI sf) (ad s) (ad sf) := by
  unfold wp_F_fillN
  have hk := hg.1
  have hkf := hf.1
  refine r_findY hF hs ⟨rfl, r_findY hF hsf ⟨rfl, r_hasParameter hu hg (fun _ => ⟨fun _ => h r d hr hd, fun z => absurd rfl z⟩) (fun e he hx => ⟨fun z => absurd z (by decide), fun _ => ?_⟩)⟩⟩
  rw [huf.1, hx]
  refine b_eq (k := 2) (by omega) (by decide) (fun e2 => ?_) (fun e2 => h r d hr hd)
  subst e2
  refine r_writeFilled hu hg huf hf he hr (fun hl r' hr' => ⟨fun _ => ?_, fun z => absurd z (by decide)⟩) (fun z r' hr' => ⟨fun w => absurd rfl w, fun _ => h r' d hr' hd⟩)
  rw [hu.1]
  refine r_fault hd hk (rw_tx hg hf hr') hl (fun p u' hp a b => ⟨fun z => absurd z (neg1_ne (by omega)), fun _ => h r' u' hr'.1 b⟩) (fun a d' hd' => ⟨fun _ => r_keepF hF (hno e he hx rfl ⟨hl, a⟩) (h r' d' hr'.1 hd'.1), fun z => absurd rfl z⟩)
