/-! a signature: its kind k, its text t, its length n; the two sides of it -/
/-- a step's property that a finite check gives -/
def stQ (Q : Nat → Nat → Nat → Bool → Nat → Nat → Bool) (k x l c : Nat) : Bool := (!pOk k l x true || Q k l x true c (pRole k l 1 x c)) && (!pOk k l x false || Q k l x false c (pRole k l 0 x c))
/-- a good signature -/
def Gd (k : Nat) (t : Nat → Nat) (n : Nat) : Prop := k < 3 ∧ n ≤ 120 ∧ (∀ j, j < n → 32 < t j ∧ t j < 127) ∧ (∀ j, j < n → ¬ aBad k t j) ∧ aEnd k t n ∧ aC k t n ≤ 20
theorem Gd.ok {k : Nat} {t : Nat → Nat} {n : Nat} (h : Gd k t n) {p : Nat} (hp : p ≤ n) : pOk k (aS k t p).1 (aS k t p).2.2 (decide (0 < (aS k t p).2.1)) = true :=
  (aOk h.1 n (fun j hj => (h.2.2.1 j hj).2) p hp (fun j hj z => h.2.2.2.1 j (by omega) (Or.inl z))).1
theorem Gd.r0 {k : Nat} {t : Nat → Nat} {n : Nat} (h : Gd k t n) {p : Nat} (hp : p < n) : aR k t p ≠ 0 := fun z => h.2.2.2.1 p hp (Or.inl z)
theorem st_all (Q : Nat → Nat → Nat → Bool → Nat → Nat → Bool) (h : pAll 3 (fun k => pAll 4 (fun x => pAll 25 (fun l => pAll 127 (fun c => stQ Q k x l c)))) = true) {k : Nat} {t : Nat → Nat} {n p : Nat} (hg : Gd k t n) (hp : p < n) :
    Q k (aS k t p).1 (aS k t p).2.2 (decide (0 < (aS k t p).2.1)) (t p) (aR k t p) = true := by
  have hs := aS_lt k t p
  have c := pAll_ok _ _ (pAll_ok _ _ (pAll_ok _ _ (pAll_ok _ _ h k hg.1) _ hs.2.2) _ hs.1) _ (hg.2.2.1 p hp).2
  have hok := hg.ok (p := p) (by omega)
  unfold stQ at c
  rw [Bool.and_eq_true] at c
  rcases Nat.eq_zero_or_pos (aS k t p).2.1 with hd | hd
  · have e : decide (0 < (aS k t p).2.1) = false := by simp [hd]
    rw [e] at hok ⊢
    have c2 := c.2
    rw [hok] at c2
    have er : pRole k (aS k t p).1 0 (aS k t p).2.2 (t p) = aR k t p := by unfold aR; rw [hd]
    rw [er] at c2
    simpa using c2
  · have e : decide (0 < (aS k t p).2.1) = true := by simp [hd]
    rw [e] at hok ⊢
    have c1 := c.1
    rw [hok] at c1
    have er : pRole k (aS k t p).1 1 (aS k t p).2.2 (t p) = aR k t p := by unfold aR; rw [pRole_dep hd]
    rw [er] at c1
    simpa using c1
/-- the role at a place, the letter at a place -/
def gR (k : Nat) (t : Nat → Nat) (n j : Nat) : Nat := if j < n then aR k t j else 0
def gL (t : Nat → Nat) (n j : Nat) : Nat := if j < n then t j else 0
theorem gR_in {k : Nat} {t : Nat → Nat} {n j : Nat} (h : j < n) : gR k t n j = aR k t j := if_pos h
theorem gR_out {k : Nat} {t : Nat → Nat} {n j : Nat} (h : n ≤ j) : gR k t n j = 0 := if_neg (by omega)
theorem gL_in {t : Nat → Nat} {n j : Nat} (h : j < n) : gL t n j = t j := if_pos h
theorem gL_out {t : Nat → Nat} {n j : Nat} (h : n ≤ j) : gL t n j = 0 := if_neg (by omega)
theorem gR_lt (k : Nat) (t : Nat → Nat) (n j : Nat) : gR k t n j < 25 := by unfold gR; have := aR_lt k t j; split <;> omega
/-- where the body begins -/
def aO (k : Nat) (t : Nat → Nat) : Nat → Nat
  | 0 => 0
  | p + 1 => if aR k t p = 5 then p + 1 else aO k t p
/-- the class's object -/
def SgI (u : SgC) (k : Nat) (t : Nat → Nat) (n : Nat) : Prop :=
  sgK u = nI k ∧ sgN u = n ∧ (∀ j, j < n → sgL u j = nI (t j)) ∧ (∀ j, j < n → sgR u j = nI (aR k t j)) ∧ sgM u = aC k t n ∧ (∀ j, j < aC k t n → sgB u j = nI (aB k t n j) ∧ sgE u j = nI (aE k t n j)) ∧ sgO u = nI (aO k t n)
/-- the reference's slot: text, role, size, kind, pFrom, pTo, pBound, pBounds, params -/
def SlI (x1 x2 x3 x4 x6 x7 x8 x9 x10 : IaC) (k : Nat) (t : Nat → Nat) (n s : Nat) : Prop :=
  iaF x3 s = nI n ∧ iaF x4 s = nI k ∧ (∀ j, j < n → iaF x1 (120 * s + j) = nI (t j)) ∧ (∀ j, j < n → iaF x2 (120 * s + j) = nI (pTr (aR k t j) (t j))) ∧ iaF x10 s = nI (aC k t n) ∧
  (∀ j, j < aC k t n → iaF x6 (20 * s + j) = nI (aB k t n j) ∧ iaF x7 (20 * s + j) = nI (aE k t n j)) ∧ (∀ j, j < aC k t n → iaF x8 (20 * s + j) = oI (aFb k t n j) ∧ iaF x9 (20 * s + j) = nI (aBc k t n j))
/-- loops whose state is a function of the place -/
theorem lpN {W : Nat → Nat → Prop} {n : Nat} (h0 : ∀ f, W (f + 1) n) (h1 : ∀ f j, j < n → W f (j + 1) → W (f + 1) j) : ∀ j, j ≤ n → ∃ f, W f j := by
  have : ∀ m j, n - j = m → j ≤ n → W (m + 1) j := by
    intro m
    induction m with
    | zero =>
      intro j q1 q2
      obtain rfl : j = n := by omega
      exact h0 0
    | succ m ih => intro j q1 q2; exact h1 _ j (by omega) (ih (j + 1) (by omega) (by omega))
  exact fun j hj => ⟨_, this _ j rfl hj⟩
/-- .. and those whose state keeps an invariant -/
theorem lpI {α : Type} {W : Nat → α → Prop} {I : Nat → α → Prop} {n : Nat} (h0 : ∀ f a, I n a → W (f + 1) a) (h1 : ∀ f j a, j < n → I j a → (∀ a', I (j + 1) a' → W f a') → W (f + 1) a) : ∀ j a, j ≤ n → I j a → ∃ f, W f a := by
  have : ∀ m j a, n - j = m → j ≤ n → I j a → W (m + 1) a := by
    intro m
    induction m with
    | zero =>
      intro j a q1 q2 q3
      obtain rfl : j = n := by omega
      exact h0 0 a q3
    | succ m ih => intro j a q1 q2 q3; exact h1 _ j a (by omega) q3 (fun a' h' => ih (j + 1) a' (by omega) (by omega) h')
  exact fun j a hj hI => ⟨_, this _ j a rfl hj hI⟩
/-! the class's small methods -/
theorem ofN (n : Nat) : Int32.ofNat n = nI n := rfl
theorem r_roleAt {post : Int32 → Prop} {u : SgC} {k : Nat} {t : Nat → Nat} {n j : Nat} (hu : SgI u k t n) (hn : n ≤ 120) (hj : j < 2 ^ 30) (h : post (nI (gR k t n j))) : wp_Sg_roleAt post u (nI j) := by
  obtain ⟨u1, u2, u3, u4, -⟩ := hu
  unfold wp_Sg_roleAt
  rw [u2, ofN]
  refine ⟨fun z => absurd z (nI_pos (by omega)), fun _ => b_le (by omega) (by omega) (fun z => ?_) (fun z => ?_)⟩
  · rw [gR_out z] at h; exact h
  · rw [gR_in z] at h; rw [nI_clamp (by omega), u4 j z]; exact ⟨vp_in_nI z (by omega), h⟩
theorem r_roleAt_1 {post : Int32 → Prop} {u : SgC} (h : post 0) : wp_Sg_roleAt post u (-1) :=
  ⟨fun _ => h, fun z => absurd (by decide) z⟩
/-- the role before a place -/
def gP (k : Nat) (t : Nat → Nat) (n j : Nat) : Nat := if j = 0 then 0 else gR k t n (j - 1)
theorem gP_S {k : Nat} {t : Nat → Nat} {n j : Nat} (h : j ≤ n) : gP k t n j = (aS k t j).1 := by
  unfold gP
  cases j with
  | zero => rfl
  | succ j => rw [if_neg (by omega), Nat.add_sub_cancel, gR_in (by omega), aS_succ]
theorem r_roleBefore {post : Int32 → Prop} {u : SgC} {k : Nat} {t : Nat → Nat} {n j : Nat} (hu : SgI u k t n) (hn : n ≤ 120) (hj : j < 2 ^ 30) (h : post (nI (gP k t n j))) : wp_Sg_roleAt post u (nI j - 1) := by
  cases j with
  | zero => exact r_roleAt_1 h
  | succ j => rw [nI_pred]; exact r_roleAt hu hn (by omega) h
theorem gL_lt {t : Nat → Nat} {n j : Nat} (h : ∀ j, j < n → 32 < t j ∧ t j < 127) : gL t n j < 127 := by unfold gL; split; exact (h j ‹_›).2; omega
theorem r_letterAt {post : Int32 → Prop} {u : SgC} {k : Nat} {t : Nat → Nat} {n j : Nat} (hu : SgI u k t n) (hg : Gd k t n) (hj : j < 2 ^ 30) (h : post (nI (gL t n j))) : wp_Sg_letterAt post u (nI j) := by
  obtain ⟨u1, u2, u3, u4, -⟩ := hu
  have hn := hg.2.1
  unfold wp_Sg_letterAt
  rw [u2, ofN]
  refine ⟨fun z => absurd z (nI_pos (by omega)), fun _ => b_le (by omega) (by omega) (fun z => ?_) (fun z => ?_)⟩
  · rw [gL_out z] at h; exact h
  · rw [gL_in z] at h; rw [nI_clamp (by omega), u3 j z]; exact ⟨vp_in_nI z (by omega), (nar_char _ (by have := (hg.2.2.1 j z).2; omega)).1, h⟩
theorem r_hasParameter {post : Int32 → Prop} {u : SgC} {k : Nat} {t : Nat → Nat} {n : Nat} {x : Int32} (hu : SgI u k t n) (hg : Gd k t n) (H0 : (∀ j, j < aC k t n → x ≠ nI j) → post 0) (H1 : ∀ j, j < aC k t n → x = nI j → post 1) : wp_Sg_hasParameter post u x := by
  obtain ⟨u1, u2, u3, u4, u5, -⟩ := hu
  have hc := hg.2.2.2.2.2
  unfold wp_Sg_hasParameter
  rw [u5, ofN]
  refine ⟨fun z => H0 (fun j hj e => ?_), fun z => ?_⟩
  · rw [e] at z; exact nI_pos (by omega) z
  · obtain ⟨j, hj, rfl⟩ := nI_of z
    exact b_le hj (by omega) (fun z => H0 (fun i hi e => by have := (nI_eq hj (by omega)).mp e; omega)) (fun z => H1 j z rfl)
theorem r_hasP {post : Int32 → Prop} {u : SgC} {k : Nat} {t : Nat → Nat} {n j : Nat} (hu : SgI u k t n) (hg : Gd k t n) (hj : j < aC k t n) (h : post 1) : wp_Sg_hasParameter post u (nI j) :=
  r_hasParameter hu hg (fun z => absurd rfl (z j hj)) (fun _ _ _ => h)
theorem r_nameStart {post : Int32 → Prop} {u : SgC} {k : Nat} {t : Nat → Nat} {n j : Nat} (hu : SgI u k t n) (hg : Gd k t n) (hj : j < aC k t n) (h : post (nI (aB k t n j))) : wp_Sg_nameStart post u (nI j) := by
  unfold wp_Sg_nameStart
  refine r_hasP hu hg hj ⟨fun z => absurd z (by decide), fun _ => ?_⟩
  have hc := hg.2.2.2.2.2
  obtain ⟨u1, u2, u3, u4, u5, u6, -⟩ := hu
  rw [nI_clamp (by omega), (u6 j hj).1, u5]
  exact ⟨vp_in_nI hj (by omega), h⟩
theorem r_nameLength {post : Int32 → Prop} {u : SgC} {k : Nat} {t : Nat → Nat} {n j : Nat} (hu : SgI u k t n) (hg : Gd k t n) (hj : j < aC k t n) (h : post (nI (aE k t n j - aB k t n j))) : wp_Sg_nameLength post u (nI j) := by
  unfold wp_Sg_nameLength
  refine r_hasP hu hg hj ⟨fun z => absurd z (by decide), fun _ => ?_⟩
  have hc := hg.2.2.2.2.2
  obtain ⟨u1, u2, u3, u4, u5, u6, -⟩ := hu
  have := (aBE k t n).1 j hj
  rw [nI_clamp (by omega), (u6 j hj).1, (u6 j hj).2, u5, pk_sub (by omega)]
  exact ⟨vp_in_nI hj (by omega), vp_in_nI hj (by omega), h⟩
/-- the place behind a run of one role -/
def rE (k : Nat) (t : Nat → Nat) (n r : Nat) : Nat → Nat → Nat
  | 0, j => j
  | w + 1, j => if j < n ∧ aR k t j = r then rE k t n r w (j + 1) else j
/-- .. of the name that begins at a place -/
def nE (k : Nat) (t : Nat → Nat) (n r j : Nat) : Nat := rE k t n r (n - j) j
theorem rE_le (k : Nat) (t : Nat → Nat) (n r : Nat) : ∀ w j, j ≤ rE k t n r w j ∧ rE k t n r w j ≤ j + w
  | 0, j => by simp [rE]
  | w + 1, j => by
    have := rE_le k t n r w (j + 1)
    unfold rE
    split <;> omega
theorem nE_le {k : Nat} {t : Nat → Nat} {n r j : Nat} (h : j ≤ n) : j ≤ nE k t n r j ∧ nE k t n r j ≤ n := by
  have := rE_le k t n r (n - j) j
  unfold nE
  omega
theorem nE_go {k : Nat} {t : Nat → Nat} {n r j : Nat} (h : j < n) (hr : aR k t j = r) : nE k t n r j = nE k t n r (j + 1) := by
  unfold nE
  obtain ⟨w, hw⟩ : ∃ w, n - j = w + 1 := ⟨n - j - 1, by omega⟩
  rw [hw, show n - (j + 1) = w by omega]
  show (if j < n ∧ aR k t j = r then rE k t n r w (j + 1) else j) = _
  rw [if_pos ⟨h, hr⟩]
theorem nE_stop {k : Nat} {t : Nat → Nat} {n r j : Nat} (h : j < n → aR k t j ≠ r) : nE k t n r j = j := by
  unfold nE
  cases hw : n - j with
  | zero => rfl
  | succ w =>
    show (if j < n ∧ aR k t j = r then rE k t n r w (j + 1) else j) = _
    rw [if_neg (fun z => h z.1 z.2)]
theorem r_behindName {post : Int32 → Prop} {u : SgC} {k : Nat} {t : Nat → Nat} {n j : Nat} (hu : SgI u k t n) (hn : n ≤ 120) (hj : j ≤ n) (h : post (nI (nE k t n (gR k t n j) j))) : wp_Sg_behindName post u (nI j) := by
  unfold wp_Sg_behindName
  refine r_roleAt hu hn (by omega) ?_
  have u2 := hu.2.1
  have hr := gR_lt k t n j
  have := lpN (n := n) (W := fun f i => post (nI (nE k t n (gR k t n j) i)) → w_Sg_behindName_8 post u f (nI (gR k t n j)) (nI i)) (fun f hp => ?_) (fun f i hi ih hp => ?_) j hj
  · obtain ⟨f, hf⟩ := this
    exact ⟨f, hf h⟩
  · unfold w_Sg_behindName_8 wb_Sg_behindName_8
    rw [u2, ofN]
    refine b_le (by omega) (by omega) (fun _ => ?_) (fun z => absurd z (by omega))
    rw [nE_stop (fun z => absurd z (by omega))] at hp
    exact hp
  · unfold w_Sg_behindName_8 wb_Sg_behindName_8
    rw [u2, ofN]
    refine b_le (by omega) (by omega) (fun z => absurd z (by omega)) (fun _ => r_roleAt hu hn (by omega) ?_)
    rw [gR_in hi]
    have := aR_lt k t i
    refine b_eq (by omega) (by omega) (fun e => ?_) (fun e => ?_)
    · rw [nI_1]
      rw [nE_go hi e] at hp
      exact ih hp
    · rw [nE_stop (fun _ => e)] at hp
      exact hp
