/-! names: which parameter a name is -/
/-- the parameter j of (k, t, n) has the name that stands in t' from a to b -/
def pM (k : Nat) (t : Nat → Nat) (n : Nat) (t' : Nat → Nat) (a b j : Nat) : Prop := aE k t n j - aB k t n j = b - a ∧ ∀ i, i < b - a → t (aB k t n j + i) = t' (a + i)
def pMb (k : Nat) (t : Nat → Nat) (n : Nat) (t' : Nat → Nat) (a b j : Nat) : Bool := decide (aE k t n j - aB k t n j = b - a) && nmEq t t' (aB k t n j) a (b - a)
theorem pMb_iff {k : Nat} {t : Nat → Nat} {n : Nat} {t' : Nat → Nat} {a b j : Nat} : pMb k t n t' a b j = true ↔ pM k t n t' a b j := by unfold pMb pM; rw [Bool.and_eq_true, decide_eq_true_eq, nmEq_iff]
theorem pMb_f {k : Nat} {t : Nat → Nat} {n : Nat} {t' : Nat → Nat} {a b j : Nat} (h : ¬ pM k t n t' a b j) : pMb k t n t' a b j = false := by
  cases e : pMb k t n t' a b j
  · rfl
  · exact absurd (pMb_iff.mp e) h
def pFr (P : Nat → Bool) : Nat → Nat → Option Nat
  | 0, _ => none
  | w + 1, j => if P j then some j else pFr P w (j + 1)
/-- the first such parameter -/
def pF (k : Nat) (t : Nat → Nat) (n : Nat) (t' : Nat → Nat) (a b : Nat) : Option Nat := pFr (fun j => pMb k t n t' a b j) (aC k t n) 0
theorem pFr_lt (P : Nat → Bool) : ∀ w j i, pFr P w j = some i → j ≤ i ∧ i < j + w ∧ P i = true
  | 0, _, _, h => by simp [pFr] at h
  | w + 1, j, i, h => by
    unfold pFr at h
    split at h
    · cases h; exact ⟨by omega, by omega, ‹_›⟩
    · have := pFr_lt P w (j + 1) i h
      exact ⟨by omega, by omega, this.2.2⟩
theorem pFr_no (P : Nat → Bool) : ∀ w j, pFr P w j = none ↔ ∀ i, j ≤ i → i < j + w → P i = false
  | 0, _ => by simp [pFr]; omega
  | w + 1, j => by
    unfold pFr
    have ih := pFr_no P w (j + 1)
    cases hp : P j
    · simp only [Bool.false_eq_true, if_false]
      rw [ih]
      constructor
      · intro h i h1 h2
        rcases Nat.eq_or_lt_of_le h1 with e | e
        · rw [← e]; exact hp
        · exact h i (by omega) (by omega)
      · intro h i h1 h2
        exact h i (by omega) (by omega)
    · simp only [if_true]
      constructor
      · intro h; cases h
      · intro h
        have := h j (by omega) (by omega)
        rw [hp] at this; cases this
theorem pF_lt {k : Nat} {t : Nat → Nat} {n : Nat} {t' : Nat → Nat} {a b j : Nat} (h : pF k t n t' a b = some j) : j < aC k t n ∧ pM k t n t' a b j := by
  have := pFr_lt _ _ _ _ h
  exact ⟨by omega, pMb_iff.mp this.2.2⟩
/-- a loop over the parameters that looks for the first -/
theorem lpF {W : Nat → Nat → Prop} {m : Nat} {P : Nat → Bool} {Q : Option Nat → Prop} (h0 : Q none → ∀ f, W (f + 1) m) (h1 : ∀ f j, j < m → (P j = true → Q (some j)) → (P j = false → W f (j + 1)) → W (f + 1) j) (h : Q (pFr P m 0)) : ∃ f, W f 0 := by
  have : ∀ w j, j + w = m → Q (pFr P w j) → W (w + 1) j := by
    intro w
    induction w with
    | zero =>
      intro j q1 q2
      obtain rfl : j = m := by omega
      exact h0 q2 0
    | succ w ih =>
      intro j q1 q2
      unfold pFr at q2
      refine h1 _ j (by omega) (fun z => ?_) (fun z => ?_)
      · rw [if_pos z] at q2; exact q2
      · rw [z] at q2
        simp only [Bool.false_eq_true, if_false] at q2
        exact ih (j + 1) (by omega) q2
  exact ⟨_, this m 0 (by omega) h⟩
theorem r_sameLetters {post : Int32 → Prop} {u u' : SgC} {k k' : Nat} {t t' : Nat → Nat} {n n' a b m : Nat} (hu : SgI u k t n) (hg : Gd k t n) (hu' : SgI u' k' t' n') (hg' : Gd k' t' n') (ha : a + m < 2 ^ 20) (hb : b + m < 2 ^ 20)
    (H1 : (∀ i, i < m → gL t n (a + i) = gL t' n' (b + i)) → post 1) (H0 : ¬ (∀ i, i < m → gL t n (a + i) = gL t' n' (b + i)) → post 0) : wp_Sg_sameLetters post u u' (nI a) (nI b) (nI m) := by
  unfold wp_Sg_sameLetters
  have := lpN (n := m) (W := fun f i => (∀ j, j < i → gL t n (a + j) = gL t' n' (b + j)) → w_Sg_sameLetters_3 post u u' f (nI a) (nI b) (nI m) (nI i)) (fun f q => ?_) (fun f i hi ih q => ?_) 0 (by omega)
  · obtain ⟨f, hf⟩ := this
    exact ⟨f, hf (fun j hj => absurd hj (by omega))⟩
  · exact b_le (by omega) (by omega) (fun _ => H1 q) (fun z => absurd z (by omega))
  · refine b_le (by omega) (by omega) (fun z => absurd z (by omega)) (fun _ => ?_)
    rw [nI_add, nI_add]
    have w1 := gL_lt (j := a + i) hg.2.2.1
    have w2 := gL_lt (j := b + i) hg'.2.2.1
    refine r_letterAt hu hg (by omega) (r_letterAt hu' hg' (by omega) (b_eq' (by omega) (by omega) (fun e => ?_) (fun e => H0 (fun z => e (z i hi)))))
    rw [nI_1]
    refine ih (fun j hj => ?_)
    rcases Nat.lt_succ_iff_lt_or_eq.mp hj with r | r
    · exact q j r
    · rw [r]; exact e
theorem r_parameterNamed {post : Int32 → Prop} {u u' : SgC} {k k' : Nat} {t t' : Nat → Nat} {n n' a : Nat} (hu : SgI u k t n) (hg : Gd k t n) (hu' : SgI u' k' t' n') (hg' : Gd k' t' n') (ha : a ≤ n')
    (h : post (oI (pF k t n t' a (nE k' t' n' (gR k' t' n' a) a)))) : wp_Sg_parameterNamed post u u' (nI a) := by
  unfold wp_Sg_parameterNamed
  have hn := hg.2.1
  have hn' := hg'.2.1
  have hc := hg.2.2.2.2.2
  obtain ⟨e1, e2⟩ := nE_le (k := k') (t := t') (r := gR k' t' n' a) ha
  refine r_behindName hu' hn' ha ?_
  rw [pk_sub e1]
  generalize hb : nE k' t' n' (gR k' t' n' a) a = b at *
  refine lpF (Q := fun o => post (oI o)) (P := fun j => pMb k t n t' a b j) (W := fun f j => w_Sg_parameterNamed_11 post u u' f (nI a) (nI (b - a)) (nI j)) (fun q f => ?_) (fun f j hj q1 q0 => ?_) h
  · unfold w_Sg_parameterNamed_11 wb_Sg_parameterNamed_11
    rw [hu.2.2.2.2.1, ofN]
    exact b_le (by omega) (by omega) (fun _ => q) (fun z => absurd z (by omega))
  · unfold w_Sg_parameterNamed_11 wb_Sg_parameterNamed_11 w_Sg_parameterNamed_51
    rw [hu.2.2.2.2.1, ofN]
    have hbe := (aBE k t n).1 j hj
    refine b_le (by omega) (by omega) (fun z => absurd z (by omega)) (fun _ => r_nameLength hu hg hj ?_)
    have no : ¬ pM k t n t' a b j → w_Sg_parameterNamed_11 post u u' f (nI a) (nI (b - a)) (nI j + 1) := fun z => by rw [nI_1]; exact q0 (pMb_f z)
    refine b_eq (by omega) (by omega) (fun e => ⟨vp_in_nI hj (by omega), ?_⟩) (fun e => no (fun z => e z.1))
    rw [nI_clamp (by omega), (hu.2.2.2.2.2.1 j hj).1]
    have same : (∀ i, i < b - a → gL t n (aB k t n j + i) = gL t' n' (a + i)) ↔ ∀ i, i < b - a → t (aB k t n j + i) = t' (a + i) := by
      constructor
      · intro z i hi
        have := z i hi
        rw [gL_in (by omega), gL_in (by omega)] at this
        exact this
      · intro z i hi
        rw [gL_in (by omega), gL_in (by omega)]
        exact z i hi
    refine r_sameLetters hu hg hu' hg' (by omega) (by omega) (fun z => ⟨fun y => absurd y (by decide), fun _ => q1 (pMb_iff.mpr ⟨e, same.mp z⟩)⟩) (fun z => ⟨fun _ => no (fun y => z (same.mpr y.2)), fun y => absurd rfl y⟩)
/-- the own parameter that declares the variable at a place -/
def dA (k : Nat) (t : Nat → Nat) (n j : Nat) : Option Nat := if gR k t n j = 6 then pF k t n t (j + 1) (nE k t n 7 (j + 1)) else none
/-- behind the T of a variable stands its name -/
def st6 (k l x : Nat) (dp : Bool) (c r : Nat) : Bool := if l = 6 then r == 0 || r == 7 else true
theorem st6_all : pAll 3 (fun k => pAll 4 (fun x => pAll 25 (fun l => pAll 127 (fun c => stQ st6 k x l c)))) = true := by decide +kernel
theorem var_next {k : Nat} {t : Nat → Nat} {n j : Nat} (hg : Gd k t n) (hj : j < n) (h : aR k t j = 6) : j + 1 < n ∧ aR k t (j + 1) = 7 := by
  have h1 : j + 1 < n := by
    rcases Nat.lt_or_ge (j + 1) n with q | q
    · exact q
    · obtain rfl : n = j + 1 := by omega
      have := hg.2.2.2.2.1.2.2
      rw [aS_succ, h] at this
      omega
  refine ⟨h1, ?_⟩
  have := st_all _ st6_all hg h1
  unfold st6 at this
  rw [aS_succ, h] at this
  simp only [if_true, Bool.or_eq_true, beq_iff_eq] at this
  have := hg.r0 h1
  omega
theorem r_declarerAt {post : Int32 → Prop} {u : SgC} {k : Nat} {t : Nat → Nat} {n j : Nat} (hu : SgI u k t n) (hg : Gd k t n) (hj : j < 2 ^ 20) (h : post (oI (dA k t n j))) : wp_Sg_declarerAt post u (nI j) := by
  unfold wp_Sg_declarerAt
  have hn := hg.2.1
  refine r_roleAt hu hn (by omega) ?_
  have := gR_lt k t n j
  unfold dA at h
  refine b_eq (k := 6) (by omega) (by decide) (fun e => ?_) (fun e => ?_)
  · rw [if_pos e] at h
    have hjn : j < n := by
      rcases Nat.lt_or_ge j n with q | q
      · exact q
      · rw [gR_out q] at e; omega
    rw [gR_in hjn] at e
    obtain ⟨z1, z2⟩ := var_next hg hjn e
    rw [nI_1]
    refine r_parameterNamed hu hg hu hg (by omega) ?_
    rw [gR_in z1, z2]
    exact h
  · rw [if_neg e] at h; exact h
/-! the reference -/
theorem q_roleAt {post : Int32 → Prop} {u : MoC} {x2 x3 : IaC} {k : Nat} {t : Nat → Nat} {n s j : Nat} (hs : s < 25) (hn : n ≤ 120) (h2 : iaN x2 = 3000) (h3 : iaN x3 = 25) (hz : iaF x3 s = nI n) (hr : ∀ j, j < n → iaF x2 (120 * s + j) = nI (pTr (aR k t j) (t j))) (hj : j < 2 ^ 20)
    (h : post (nI (pTr (gR k t n j) (gL t n j)))) : wp_M_roleAt post u x2 x3 (nI s) (nI j) := by
  unfold wp_M_roleAt
  rw [h2, h3, nI_clamp (by omega), hz]
  refine ⟨fun z => absurd z (nI_pos (by omega)), fun _ => ⟨vp_in_nI hs (by decide), b_lt (by omega) (by omega) (fun z => ?_) (fun z => ?_)⟩⟩
  · rw [gR_in z, gL_in z] at h
    rw [show (120 : Int32) * nI s + nI j = nI (120 * s + j) from m_ix 120 s j, nI_clamp (by omega), hr j z]
    exact ⟨vp_in_nI (by omega) (by decide), h⟩
  · rw [gR_out z] at h
    exact h
/-- the whole of what the reference holds of slot s -/
abbrev XA : Type := IaC × IaC × IaC × IaC × IaC × IaC × IaC × IaC × IaC
def XI (X : XA) (k : Nat) (t : Nat → Nat) (n s : Nat) : Prop :=
  s < 25 ∧ iaN X.1 = 3000 ∧ iaN X.2.1 = 3000 ∧ iaN X.2.2.1 = 25 ∧ iaN X.2.2.2.1 = 25 ∧ iaN X.2.2.2.2.1 = 500 ∧ iaN X.2.2.2.2.2.1 = 500 ∧ iaN X.2.2.2.2.2.2.1 = 500 ∧ iaN X.2.2.2.2.2.2.2.1 = 500 ∧ iaN X.2.2.2.2.2.2.2.2 = 25 ∧
  SlI X.1 X.2.1 X.2.2.1 X.2.2.2.1 X.2.2.2.2.1 X.2.2.2.2.2.1 X.2.2.2.2.2.2.1 X.2.2.2.2.2.2.2.1 X.2.2.2.2.2.2.2.2 k t n s
theorem XI.role {post : Int32 → Prop} {u : MoC} {X : XA} {k : Nat} {t : Nat → Nat} {n s j : Nat} (h : XI X k t n s) (hn : n ≤ 120) (hj : j < 2 ^ 20) (hp : post (nI (pTr (gR k t n j) (gL t n j)))) : wp_M_roleAt post u X.2.1 X.2.2.1 (nI s) (nI j) :=
  q_roleAt h.1 hn h.2.2.1 h.2.2.2.1 h.2.2.2.2.2.2.2.2.2.2.1 h.2.2.2.2.2.2.2.2.2.2.2.2.2.1 hj hp
theorem pTr_14 {r c : Nat} (h : r < 25) : pTr r c = 14 ↔ r = 7 := by
  have : ∀ r, r < 25 → ∀ b : Bool, ((if r = 1 then 16 else if r = 2 then 17 else if r = 3 then 18 else if r = 4 then 19 else if r = 5 then 20 else if r = 6 then 2 else if r = 7 then 14 else if r = 8 then 15 else if r = 9 then 1 else if r = 10 then 5
  else if r = 11 then 6 else if r = 12 then 7 else if r = 13 then 5 else if r = 14 then 9 else if r = 15 then 8 else if r = 16 then 13 else if r = 17 then 10 else if r = 18 then (if b then 11 else 12)
  else if r = 19 then 3 else if r = 20 then 4 else if r = 21 then 23 else if r = 22 then 21 else if r = 23 then 22 else if r = 24 then 24 else 0) = 14 ↔ r = 7) := by decide
  have := this r h (decide (c = 43))
  simpa [pTr] using this
theorem q_nameEnd {post : Int32 → Prop} {u : MoC} {X : XA} {k : Nat} {t : Nat → Nat} {n s j : Nat} (hX : XI X k t n s) (hn : n ≤ 120) (hj : j ≤ n) (h : post (nI (nE k t n 7 j))) : wp_M_nameEnd post u X.2.1 X.2.2.1 (nI s) (nI j) := by
  unfold wp_M_nameEnd
  have := lpN (n := n) (W := fun f i => post (nI (nE k t n 7 i)) → w_M_nameEnd_2 post u X.2.1 X.2.2.1 f (nI s) (nI i)) (fun f hp => ?_) (fun f i hi ih hp => ?_) j hj
  · obtain ⟨f, hf⟩ := this
    exact ⟨f, hf h⟩
  · refine hX.role hn (by omega) ?_
    rw [gR_out (Nat.le_refl n), show pTr 0 (gL t n n) = 0 from (pTr_0 (by decide)).mpr rfl]
    refine b_eq (k := 14) (by decide) (by decide) (fun e => absurd e (by decide)) (fun _ => ?_)
    rw [nE_stop (fun z => absurd z (by omega))] at hp
    exact hp
  · refine hX.role hn (by omega) ?_
    rw [gR_in hi]
    have h25 := aR_lt k t i
    have := pTr_lt (aR k t i) (gL t n i)
    refine b_eq (k := 14) (by omega) (by decide) (fun e => ?_) (fun e => ?_)
    · rw [nI_1]
      rw [nE_go hi ((pTr_14 h25).mp e)] at hp
      exact ih hp
    · rw [nE_stop (fun _ z => e ((pTr_14 h25).mpr z))] at hp
      exact hp
/-- the reference's number of a parameter -/
def oX (s : Nat) (o : Option Nat) : Int32 := match o with
  | none => -1
  | some j => nI (20 * s + j)
theorem q_param {post : Int32 → Prop} {u : MoC} {X : XA} {k k' : Nat} {t t' : Nat → Nat} {n n' s s' j : Nat} (hX : XI X k t n s) (hg : Gd k t n) (hX' : XI X k' t' n' s') (hg' : Gd k' t' n') (hj : j + 1 ≤ n')
    (h : post (oX s (pF k t n t' (j + 1) (nE k' t' n' 7 (j + 1))))) : wp_M_param post u X.1 X.2.1 X.2.2.1 X.2.2.2.2.1 X.2.2.2.2.2.1 X.2.2.2.2.2.2.2.2 (nI s) (nI s') (nI j) := by
  unfold wp_M_param
  have hn := hg.2.1
  have hn' := hg'.2.1
  have hc := hg.2.2.2.2.2
  have hs := hX.1
  have hs' := hX'.1
  obtain ⟨e1, e2⟩ := nE_le (k := k') (t := t') (r := 7) hj
  refine ⟨fun _ => ?_, fun z => absurd (nI_pos' (by omega)) z⟩
  rw [nI_1]
  refine q_nameEnd hX' hn' hj ?_
  generalize hb : nE k' t' n' 7 (j + 1) = b at *
  obtain ⟨-, x1, x2, x3, x4, x5, x6, x7, x8, x9, y1, y2, y3, y4, y5, y6, y7⟩ := hX
  have z3 := hX'.2.2.2.2.2.2.2.2.2.2.2.2.1
  rw [show (20 : Int32) * nI s = nI (20 * s + 0) from pk_mul 20 s]
  refine lpF (Q := fun o => post (oX s o)) (P := fun i => pMb k t n t' (j + 1) b i) (W := fun f i => w_M_param_22 post u X.1 X.2.1 X.2.2.1 X.2.2.2.2.1 X.2.2.2.2.2.1 X.2.2.2.2.2.2.2.2 f (nI s) (nI s') (nI j) (nI b) (nI (20 * s + i))) (fun q f => ?_) (fun f i hi q1 q0 => ?_) h
  · unfold w_M_param_22 wb_M_param_22
    rw [x9, nI_clamp (by omega), y5, show (20 : Int32) * nI s + nI (aC k t n) = nI (20 * s + aC k t n) from m_ix 20 s _]
    exact ⟨vp_in_nI hs (by decide), b_le (by omega) (by omega) (fun _ => q) (fun z => absurd z (by omega))⟩
  · unfold w_M_param_22 wb_M_param_22
    have hbe := (aBE k t n).1 i hi
    rw [x9, nI_clamp (by omega), y5, show (20 : Int32) * nI s + nI (aC k t n) = nI (20 * s + aC k t n) from m_ix 20 s _, x5, x6, nI_clamp (by omega), (y6 i hi).1, (y6 i hi).2, nI_1 j, nI_1 (20 * s + i)]
    have same : mSm X.1 s (aB k t n i) (aE k t n i) s' (j + 1) b ↔ pM k t n t' (j + 1) b i := by
      unfold mSm pM
      constructor
      · intro ⟨w1, w2⟩
        refine ⟨w1, fun i2 h2 => ?_⟩
        have := w2 i2 (by omega)
        rw [y3 _ (by omega), z3 _ (by omega)] at this
        have v1 := (hg.2.2.1 (aB k t n i + i2) (by omega)).2
        have v2 := (hg'.2.2.1 (j + 1 + i2) (by omega)).2
        exact (nI_eq (by omega) (by omega)).mp this
      · intro ⟨w1, w2⟩
        refine ⟨w1, fun i2 h2 => ?_⟩
        rw [y3 _ (by omega), z3 _ (by omega), w2 i2 (by omega)]
    refine ⟨vp_in_nI hs (by decide), b_le (by omega) (by omega) (fun z => absurd z (by omega)) (fun _ => ⟨vp_in_nI (by omega) (by decide), vp_in_nI (by omega) (by decide), ?_⟩)⟩
    refine r_alikeNames (by omega) (by omega) (by rw [x1]; omega) (by rw [x1]; omega) (by rw [x1]; omega) (fun y => ⟨fun w => absurd w (by decide), fun _ => q1 (pMb_iff.mpr (same.mp y))⟩) (fun y => ⟨fun _ => q0 (pMb_f (fun w => y (same.mpr w))), fun w => absurd rfl w⟩)
