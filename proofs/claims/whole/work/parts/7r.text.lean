/-! text, length -/
def wr (t : Nat → Nat) (n : Nat) : List Nat := (List.range n).map t
theorem wr_len (t : Nat → Nat) (n : Nat) : (wr t n).length = n := by simp [wr]
theorem wr_get {t : Nat → Nat} {n i : Nat} (h : i < n) : (wr t n).getD i 0 = t i := by
  unfold wr
  rw [List.getD_eq_getElem?_getD, List.getElem?_map, List.getElem?_range h]
  rfl
/-- the three texts -/
def tX (k : Nat) (t : Nat → Nat) (n : Nat) (sc : Sc) (w : Nat) : List Nat := if w = 0 then wr t n else if w = 1 then shO k t n n else eA k t n sc false (n + 1) (aO k t n)
theorem tX_len {k : Nat} {t : Nat → Nat} {n : Nat} {sc : Sc} {w : Nat} (hg : Gd k t n) (hsc : ScG sc) : (tX k t n sc w).length ≤ 5000 := by
  have hn := hg.2.1
  unfold tX
  split
  · rw [wr_len]; omega
  · split
    · have := shO_len k t n n; omega
    · have h1 := eA_len (sc := sc) (ins := false) hg hsc (n + 1) (aO k t n) (Bd_0 hg)
      have h2 := rb_max hg (n + 1)
      omega
def atI (L : List Nat) (x : Int32) : Int32 := if x < 0 ∨ nI L.length ≤ x then -1 else nI (L.getD x.toNatClampNeg 0)
theorem atI_sk {u : SkC} {x : Int32} {L : List Nat} (h : SkI u x L) (hl : L.length < 2 ^ 31) : skF u = atI L x := by
  obtain ⟨h1, h2, h3, h4⟩ := h
  unfold atI
  by_cases c : x < 0 ∨ nI L.length ≤ x
  · rw [if_pos c]
    refine h4 (fun i hi e => ?_)
    rw [e] at c
    rcases c with c | c
    · exact nI_pos (by omega) c
    · have := (nI_leI (by omega) (by omega)).mp c; omega
  · rw [if_neg c]
    have c1 : ¬ x < 0 := fun z => c (Or.inl z)
    obtain ⟨j, hj, rfl⟩ := nI_of c1
    have hjl : j < L.length := by
      rcases Nat.lt_or_ge j L.length with q | q
      · exact q
      · exact absurd (Or.inr (nI_le q hj)) c
    rw [nI_clamp hj]
    exact h3 j hjl rfl
theorem atI_neg {L : List Nat} {x : Int32} (h : ¬ 0 ≤ x) : atI L x = -1 := by
  unfold atI
  rw [if_pos]
  left
  rw [Int32.le_iff_toInt_le] at h
  rw [Int32.lt_iff_toInt_lt]
  omega
theorem sk_start (x : Int32) : SkI (x, 0, -1) x [] := ⟨rfl, rfl, fun i hi => absurd hi (Nat.not_lt_zero _), fun _ => rfl⟩
/-- what a call may say: 0, 1, 2 or something else -/
theorem cs_w (x : Int32) : (∃ w, w < 3 ∧ x = nI w) ∨ noX x 3 := cs_x x 3
theorem r_seek0 {post : Int32 → (SkC × ShC × RowC) → Prop} {u0 : FoC} {u : SgC} {u4 : SkC} {u5 : ShC} {u6 : RowC} {v : MaC} {M : Nat} {ad : Nat → Nat} {k : Nat} {t : Nat → Nat} {n w : Nat} {g : Int32} (hF : FoI u0 v M ad) (hP : noX (sgP u) M) (hu : SgI u k t n) (hg : Gd k t n) (hgw : g = -1 ∨ ∃ i, i < 2 ^ 31 ∧ g = nI i) (hsh : shN u5 = 120) (hr : rwN u6 = 260) (hw : w < 3)
    (h : ∀ a b c, SkI a g (tX k t n none w) → shN b = 120 → rwN c = 260 → post 1 (a, b, c)) : wp_F_seek0 post u0 u u4 u5 u6 v (nI w) g := by
  have hn := hg.2.1
  unfold wp_F_seek0 wp_Sk_start
  refine ⟨fun z => ?_, fun z => ?_, fun z => ?_, fun z => ?_⟩
  · have hw0 : w = 0 := (nI_eq (b := 0) (by omega) (by decide)).mp z
    rw [hu.2.1, ofN]
    have := r_passRow (post := fun v9 => post 1 (v9, u5, u6)) (v := (n, sgL u)) (S := wr t n) (sk_start g) (by decide) (by rw [wr_len]; omega) hgw (by rw [wr_len]; exact Nat.le_refl n) (by show n < _; omega) (fun i hi => by rw [wr_len] at hi; rw [wr_get hi]; exact hu.2.2.1 i hi) (fun a ha => h a u5 u6 (by unfold tX; rw [if_pos hw0]; exact ha) hsh hr)
    rw [wr_len] at this
    exact this
  · have hw1 : w = 1 := (nI_eq (b := 1) (by omega) (by decide)).mp z
    exact r_show hg hu hsh (sk_start g) (fun b a hb ha => h a b u6 (by unfold tX; rw [if_neg (by omega), if_pos hw1]; exact ha) hb hr)
  · have hw2 : w = 2 := (nI_eq (b := 2) (by omega) (by decide)).mp z
    exact r_passErased0 hF hP hu hg hgw (sk_start g) hr (fun a c hc ha => h a u5 c (by unfold tX; rw [if_neg (by omega), if_neg (by omega)]; exact ha) hsh hc)
  · exfalso
    rcases (by omega : w = 0 ∨ w = 1 ∨ w = 2) with rfl | rfl | rfl
    · exact z.1 rfl
    · exact z.2.1 rfl
    · exact z.2.2 rfl
theorem r_seek1 {post : Int32 → (SkC × ShC × RowC) → Prop} {u0 : FoC} {u u' : SgC} {u4 : SkC} {u5 : ShC} {u6 : RowC} {v : MaC} {M : Nat} {ad : Nat → Nat} {k k' : Nat} {t t' : Nat → Nat} {n n' w s' : Nat} {g : Int32} (hF : FoI u0 v M ad) (hs' : s' < M) (hP : sgP u = nI s') (hu : SgI u k t n) (hg : Gd k t n) (hu' : SgI u' k' t' n') (hg' : Gd k' t' n') (hk' : k' = 0) (hgw : g = -1 ∨ ∃ i, i < 2 ^ 31 ∧ g = nI i) (hsh : shN u5 = 120) (hr : rwN u6 = 260) (hw : w < 3)
    (h : ∀ a b c, SkI a g (tX k t n (some (k', t', n')) w) → shN b = 120 → rwN c = 260 → post 1 (a, b, c)) : wp_F_seek1 post u0 u u4 u5 u6 v u' (nI w) g (ad s') := by
  have hn := hg.2.1
  unfold wp_F_seek1 wp_Sk_start
  refine ⟨fun z => ?_, fun z => ?_, fun z => ?_, fun z => ?_⟩
  · have hw0 : w = 0 := (nI_eq (b := 0) (by omega) (by decide)).mp z
    rw [hu.2.1, ofN]
    have := r_passRow (post := fun v9 => post 1 (v9, u5, u6)) (v := (n, sgL u)) (S := wr t n) (sk_start g) (by decide) (by rw [wr_len]; omega) hgw (by rw [wr_len]; exact Nat.le_refl n) (by show n < _; omega) (fun i hi => by rw [wr_len] at hi; rw [wr_get hi]; exact hu.2.2.1 i hi) (fun a ha => h a u5 u6 (by unfold tX; rw [if_pos hw0]; exact ha) hsh hr)
    rw [wr_len] at this
    exact this
  · have hw1 : w = 1 := (nI_eq (b := 1) (by omega) (by decide)).mp z
    exact r_show hg hu hsh (sk_start g) (fun b a hb ha => h a b u6 (by unfold tX; rw [if_neg (by omega), if_pos hw1]; exact ha) hb hr)
  · have hw2 : w = 2 := (nI_eq (b := 2) (by omega) (by decide)).mp z
    exact r_passErased1 hF hs' hP hu hg hu' hg' hk' hgw (sk_start g) hr (fun a c hc ha => h a u5 c (by unfold tX; rw [if_neg (by omega), if_neg (by omega)]; exact ha) hsh hc)
  · exfalso
    rcases (by omega : w = 0 ∨ w = 1 ∨ w = 2) with rfl | rfl | rfl
    · exact z.1 rfl
    · exact z.2.1 rfl
    · exact z.2.2 rfl
/-- a text that isn't -/
theorem r_seekN0 {post : Int32 → (SkC × ShC × RowC) → Prop} {u0 : FoC} {u : SgC} {u4 : SkC} {u5 : ShC} {u6 : RowC} {v : MaC} {x g : Int32} (hx : noX x 3) (h : post 0 ((g, 0, -1), u5, u6)) : wp_F_seek0 post u0 u u4 u5 u6 v x g :=
  ⟨fun z => absurd z (hx 0 (by decide)), fun z => absurd z (hx 1 (by decide)), fun z => absurd z (hx 2 (by decide)), fun _ => h⟩
theorem r_seekN1 {post : Int32 → (SkC × ShC × RowC) → Prop} {u0 : FoC} {u u' : SgC} {u4 : SkC} {u5 : ShC} {u6 : RowC} {v : MaC} {x g : Int32} {a : Nat} (hx : noX x 3) (h : post 0 ((g, 0, -1), u5, u6)) : wp_F_seek1 post u0 u u4 u5 u6 v u' x g a :=
  ⟨fun z => absurd z (hx 0 (by decide)), fun z => absurd z (hx 1 (by decide)), fun z => absurd z (hx 2 (by decide)), fun _ => h⟩
/-- the reference makes a text -/
theorem q_make {post : Int32 → (MoC × IaC × IaC × ZaC) → Prop} {u : MoC} {X : XA} {x5 a o : IaC} {m : ZaC} {k : Nat} {t : Nat → Nat} {n s M w : Nat} {sc : Sc} (hM : moM u = nI M) (hM2 : M ≤ 24) (hs : s < M) (hX : XI X k t n s) (hg : Gd k t n) (h5 : iaN x5 = 25) (hsc : ScQ X x5 s sc) (hsg : ScG sc) (ha : iaN a = 130) (ho : iaN o = 5000) (hm : zaN m = 500) (hw : w < 3)
    (h : ∀ u' a' o' m', moN u' = moN u → moM u' = moM u → iaN a' = 130 → zaN m' = 500 → OuI u' o' (tX k t n sc w) → post 1 (u', a', o', m')) :
    wp_M_make post u X.1 X.2.1 X.2.2.1 X.2.2.2.1 x5 X.2.2.2.2.1 X.2.2.2.2.2.1 X.2.2.2.2.2.2.1 X.2.2.2.2.2.2.2.2 a o m (nI s) (nI w) := by
  have hn := hg.2.1
  have hs25 := hX.1
  unfold wp_M_make
  have hO : OuI (moN u, moM u, (-1), 0, moG u, moS u, moI u) o [] := ⟨rfl, ho, fun i hi => absurd hi (Nat.not_lt_zero _)⟩
  refine q_noY hM hM2 hs ⟨fun z => absurd rfl z, fun _ => ⟨fun z => absurd z (nI_pos (by omega)), fun _ => ⟨fun _ => ?_, fun z => absurd (nI_le (show w ≤ 2 by omega) (by decide)) z⟩⟩⟩
  refine b_eq (k := 1) (by omega) (by decide) (fun e1 => ?_) (fun n1 => b_eq (k := 2) (by omega) (by decide) (fun e2 => ?_) (fun n2 => ?_))
  · refine q_show hX hg rfl ha hO (fun u' a' o' c1 c2 c3 => h u' a' o' m c1.1 c1.2.1 c2 hm ?_)
    unfold tX
    rw [if_neg (by omega), if_pos e1]
    exact c3
  · have := q_eraseAll (u := (moN u, moM u, (-1), 0, moG u, moS u, moI u)) (o := o) (m := m) (post := fun v9 => post 1 (v9.1, a, v9.2.1, v9.2.2)) false hX hg h5 hsc hsg hm hO (fun w0 w1 w2 c1 c2 c3 => h w0 a w1 w2 c1.1 c1.2.1 ha c2 (by unfold tX; rw [if_neg (by omega), if_neg (by omega)]; exact c3))
    exact this
  · have hw0 : w = 0 := by omega
    have et : tX k t n sc w = wr t n := by unfold tX; rw [if_pos hw0]
    rw [et] at h
    have hwl := wr_len t n
    have lp := lpI (n := n) (α := Nat × MoC × IaC) (W := fun f b => w_M_make_58 post X.1 X.2.1 X.2.2.1 X.2.2.2.1 x5 X.2.2.2.2.1 X.2.2.2.2.2.1 X.2.2.2.2.2.2.1 X.2.2.2.2.2.2.2.2 f (nI s) (nI b.1) b.2.1 a b.2.2 m) (I := fun j b => b.1 = j ∧ moN b.2.1 = moN u ∧ moM b.2.1 = moM u ∧ OuI b.2.1 b.2.2 (wr t j)) (fun f b hI => ?_) (fun f j b hj hI ih => ?_) 0 (0, (moN u, moM u, (-1), 0, moG u, moS u, moI u), o) (by omega) ⟨rfl, rfl, rfl, hO⟩
    · exact lp
    · obtain ⟨j, v0, v1⟩ := b
      obtain ⟨e1, e2, e3, e4⟩ := hI
      dsimp only at e1 e2 e3 e4 ⊢
      subst e1
      unfold w_M_make_58 wb_M_make_58
      rw [hX.2.2.2.1, nI_clamp (by omega), hX.2.2.2.2.2.2.2.2.2.2.1]
      exact ⟨vp_in_nI hs25 (by decide), b_le (by omega) (by omega) (fun _ => h v0 a v1 m e2 e3 ha hm e4) (fun z => absurd z (by omega))⟩
    · obtain ⟨j, v0, v1⟩ := b
      obtain ⟨e1, e2, e3, e4⟩ := hI
      dsimp only at e1 e2 e3 e4 ⊢
      subst e1
      unfold w_M_make_58 wb_M_make_58
      rw [hX.2.2.2.1, nI_clamp (by omega), hX.2.2.2.2.2.2.2.2.2.2.1]
      refine ⟨vp_in_nI hs25 (by decide), b_le (by omega) (by omega) (fun z => absurd z (by omega)) (fun _ => q_at hX hn hj (q_put e4 (by rw [wr_len]; omega) (fun u1 o1 m1 m2 => ?_)))⟩
      rw [nI_1]
      refine ih (j + 1, u1, o1) ⟨rfl, m1.1.trans e2, m1.2.1.trans e3, ?_⟩
      have : wr t (j + 1) = wr t j ++ [t j] := by unfold wr; rw [List.range_succ, List.map_append]; rfl
      rw [this]
      exact m2
theorem q_makeN {post : Int32 → (MoC × IaC × IaC × ZaC) → Prop} {u : MoC} {u3 u4 u5 u6 u7 u8 u9 u10 u11 a o : IaC} {m : ZaC} {M : Nat} {x y : Int32} (hM : moM u = nI M) (hM2 : M ≤ 24) (hx : noX x M ∨ noX y 3) (h : post 0 ((moN u, moM u, (-1), 0, moG u, moS u, moI u), a, o, m)) : wp_M_make post u u3 u4 u5 u6 u7 u8 u9 u10 u11 a o m x y := by
  unfold wp_M_make
  rcases cs_x x M with ⟨i, hi, rfl⟩ | hn
  · have hy : noX y 3 := by
      rcases hx with q | q
      · exact absurd rfl (q i hi)
      · exact q
    refine q_noY hM hM2 hi ⟨fun z => absurd rfl z, fun _ => ⟨fun _ => h, fun z => ⟨fun z2 => ?_, fun _ => h⟩⟩⟩
    exfalso
    obtain ⟨j, hj, rfl⟩ := nI_of z
    have := (nI_leI (b := 2) hj (by decide)).mp z2
    exact hy j (by omega) rfl
  · exact q_noN hM hM2 hn ⟨fun _ => h, fun z => absurd z (by decide)⟩
theorem atI_out {u : MoC} {o : IaC} {L : List Nat} {x : Int32} {Q : Int32 → Prop} (hu : OuI u o L) (hl : L.length ≤ 5000) (h : Q (atI L x)) : (x < 0 → Q (-1)) ∧ (¬ x < 0 → ((moW u ≤ x → Q (-1)) ∧ (¬ moW u ≤ x → (vp_in x (iaN o) ∧ Q (iaF o x.toNatClampNeg))))) := by
  obtain ⟨h1, h2, h3⟩ := hu
  unfold atI at h
  rw [h1, h2]
  refine ⟨fun z => ?_, fun z => ⟨fun z2 => ?_, fun z2 => ?_⟩⟩
  · rw [if_pos (Or.inl z)] at h; exact h
  · rw [if_pos (Or.inr z2)] at h; exact h
  · rw [if_neg (fun w => w.elim z z2)] at h
    obtain ⟨j, hj, rfl⟩ := nI_of z
    have hjl : j < L.length := by
      rcases Nat.lt_or_ge j L.length with q | q
      · exact q
      · exact absurd (nI_le q hj) z2
    rw [nI_clamp hj] at h ⊢
    rw [h3 j hjl]
    exact ⟨vp_in_nI (by omega) (by decide), h⟩
