/-! what is written: the class's seeker, the reference's out -/
theorem gD_app {L S : List Nat} {i : Nat} (h : i < L.length) : (L ++ S).getD i 0 = L.getD i 0 := by simp [List.getD_eq_getElem?_getD, List.getElem?_append_left h]
theorem gD_end {L : List Nat} {c : Nat} : (L ++ [c]).getD L.length 0 = c := by simp [List.getD_eq_getElem?_getD]
/-- the seeker for the place w, when L has passed -/
def SkI (u : SkC) (w : Int32) (L : List Nat) : Prop := skW u = w ∧ skP u = nI L.length ∧ (∀ i, i < L.length → w = nI i → skF u = nI (L.getD i 0)) ∧ (noX w L.length → skF u = -1)
def KP (post : SkC → Prop) (w : Int32) (L : List Nat) : Prop := ∀ u', SkI u' w L → post u'
theorem r_pass {post : SkC → Prop} {u : SkC} {w : Int32} {L : List Nat} {c : Nat} (hu : SkI u w L) (hl : L.length < 2 ^ 20) (h : KP post w (L ++ [c])) : wp_Sk_pass post u (nI c) := by
  obtain ⟨h1, h2, h3, h4⟩ := hu
  unfold wp_Sk_pass w_Sk_pass_16
  have len : (L ++ [c]).length = L.length + 1 := by simp
  rw [h1, h2]
  refine ⟨fun z => h _ ⟨rfl, ?_, fun i hi e => ?_, fun hx => ?_⟩, fun z => h _ ⟨rfl, ?_, fun i hi e => ?_, fun hx => ?_⟩⟩
  · show nI L.length + 1 = _
    rw [len, nI_1]
  · rw [len] at hi
    have hi2 : i < L.length := by
      rcases Nat.lt_succ_iff_lt_or_eq.mp hi with q | q
      · exact q
      · rw [q] at e; exact absurd e.symm z
    rw [gD_app hi2]
    exact h3 i hi2 e
  · exact h4 (fun i hi => hx i (by rw [len]; omega))
  · show nI L.length + 1 = _
    rw [len, nI_1]
  · rw [len] at hi
    have : L.length = i := (nI_eq (by omega) (by omega)).mp (z.trans e)
    subst this
    rw [gD_end]
  · exact absurd z.symm (hx L.length (by rw [len]; omega))
/-- the literal k -/
def wL (k : Nat) : List Nat := (List.range (ltL.getD k 0)).map (lcN k)
theorem wL_take (k j : Nat) (hj : j < ltL.getD k 0) : (wL k).take (j + 1) = (wL k).take j ++ [lcN k j] := by
  have e : (wL k)[j]? = some (lcN k j) := by
    unfold wL
    rw [List.getElem?_map, List.getElem?_range hj]
    rfl
  rw [List.take_add_one, e]
  rfl
theorem r_passText {post : SkC → Prop} {u : SkC} {w : Int32} {L : List Nat} {k : Nat} (hu : SkI u w L) (hk : k < ltN) (hl : L.length < 2 ^ 19) (h : KP post w (L ++ wL k)) : wp_Sk_passText post u k := by
  unfold wp_Sk_passText
  have hlen := (lt_lens k hk).2
  have hwl : (wL k).length = ltL.getD k 0 := by simp [wL]
  refine lpI (n := ltL.getD k 0) (α := Int32 × SkC) (W := fun f a => w_Sk_passText_2 post f k a.1 a.2) (I := fun j a => a.1 = nI j ∧ SkI a.2 w (L ++ (wL k).take j)) (fun f a hI => ?_) (fun f j a hj hI ih => ?_) 0 (0, u) (by omega) ⟨rfl, by simpa using hu⟩
  · obtain ⟨a1, a2⟩ := a
    obtain ⟨e1, e2⟩ := hI
    dsimp only at e1 e2 ⊢
    subst e1
    refine ⟨hk, r_length hk (b_le (by omega) (by omega) (fun _ => ?_) (fun z => absurd z (by omega)))⟩
    rw [← hwl, List.take_length] at e2
    exact h _ e2
  · obtain ⟨a1, a2⟩ := a
    obtain ⟨e1, e2⟩ := hI
    dsimp only at e1 e2 ⊢
    subst e1
    refine ⟨hk, r_length hk (b_le (by omega) (by omega) (fun z => absurd z (by omega)) (fun _ => ⟨hk, r_charAt hk hj (r_pass e2 ?_ (fun u' hu' => ?_))⟩))⟩
    · simp [hwl]; omega
    · rw [nI_1]
      refine ih (nI (j + 1), u') ⟨rfl, ?_⟩
      rw [wL_take k j hj, ← List.append_assoc]
      exact hu'
theorem r_passRow {post : SkC → Prop} {u : SkC} {v : CaC} {w : Int32} {L : List Nat} {S : List Nat} (hu : SkI u w L) (hl : L.length < 2 ^ 20) (hs : S.length < 2 ^ 20) (hw : w = -1 ∨ ∃ i, i < 2 ^ 31 ∧ w = nI i) (hN : S.length ≤ caN v) (hN2 : caN v < 2 ^ 20) (hv : ∀ i, i < S.length → caF v i = nI (S.getD i 0)) (h : KP post w (L ++ S)) : wp_Sk_passRow post u v (nI S.length) := by
  obtain ⟨h1, h2, h3, h4⟩ := hu
  have len : (L ++ S).length = L.length + S.length := by simp
  unfold wp_Sk_passRow w_Sk_passRow_32
  have old : (∀ i, i < S.length → w ≠ nI (L.length + i)) → post (skW u, skP u + nI S.length, skF u) := by
    intro z
    refine h _ ⟨h1, ?_, fun i hi e => ?_, fun hx => h4 (fun i hi => hx i (by omega))⟩
    · show skP u + nI S.length = _
      rw [h2, nI_add, len]
    · rcases Nat.lt_or_ge i L.length with q | q
      · rw [gD_app q]; exact h3 i q e
      · exact absurd (show w = nI (L.length + (i - L.length)) by rw [e]; congr 1; omega) (z (i - L.length) (by omega))
  rw [h1, h2]
  rcases hw with rfl | ⟨i, hi, rfl⟩
  · have old' := old (fun i hi e => by
      have : nI (L.length + i) < 0 := by rw [← e]; decide
      exact nI_pos (by omega) this)
    rw [h1, h2] at old'
    have e : ((-1) : Int32) - nI L.length < 0 := by
      rw [Int32.lt_iff_toInt_lt]
      have a1 : ((-1) : Int32).toInt = -1 := by decide
      have a2 := nI_toInt (n := L.length) (by omega)
      rw [Int32.toInt_sub, a1, a2, Int.bmod_def]
      show _ < (0 : Int)
      omega
    exact ⟨fun _ => old', fun z => absurd e z⟩
  · rcases Nat.lt_or_ge i L.length with q | q
    · have old' := old (fun j hj e => by have := (nI_eq (by omega) (by omega)).mp e; omega)
      rw [h1, h2] at old'
      have e : nI i - nI L.length < 0 := by
        rw [Int32.lt_iff_toInt_lt]
        have a1 := nI_toInt (n := i) (by omega)
        have a2 := nI_toInt (n := L.length) (by omega)
        rw [Int32.toInt_sub, a1, a2, Int.bmod_def]
        show _ < (0 : Int)
        omega
      exact ⟨fun _ => old', fun z => absurd e z⟩
    · rw [pk_sub q, ofN]
      refine ⟨fun z => absurd z (nI_pos (by omega)), fun _ => b_le (by omega) (by omega) (fun z => ?_) (fun z => b_le (by omega) (by omega) (fun z2 => absurd z2 (by omega)) (fun z2 => ⟨vp_in_nI z2 (by omega), ?_⟩))⟩
      · have old' := old (fun j hj e => by have := (nI_eq (by omega) (by omega)).mp e; omega)
        rw [h1, h2] at old'
        exact old'
      · rw [nI_clamp (by omega), hv _ z]
        refine h _ ⟨rfl, ?_, fun i2 hi2 e => ?_, fun hx => absurd rfl (hx i (by omega))⟩
        · show nI L.length + nI S.length = _
          rw [nI_add, len]
        · have : i = i2 := (nI_eq (by omega) (by omega)).mp e
          subst this
          show nI (S.getD (i - L.length) 0) = _
          simp [List.getD_eq_getElem?_getD, List.getElem?_append_right q]
/-- the reference's out holds L -/
def OuI (u : MoC) (o : IaC) (L : List Nat) : Prop := moW u = nI L.length ∧ iaN o = 5000 ∧ ∀ i, i < L.length → iaF o i = nI (L.getD i 0)
def MQu (u u' : MoC) : Prop := moN u' = moN u ∧ moM u' = moM u ∧ moT u' = moT u ∧ moG u' = moG u ∧ moS u' = moS u ∧ moI u' = moI u
theorem MQu.rf (u : MoC) : MQu u u := ⟨rfl, rfl, rfl, rfl, rfl, rfl⟩
theorem MQu.tr {u v w : MoC} (a : MQu u v) (b : MQu v w) : MQu u w := ⟨b.1.trans a.1, b.2.1.trans a.2.1, b.2.2.1.trans a.2.2.1, b.2.2.2.1.trans a.2.2.2.1, b.2.2.2.2.1.trans a.2.2.2.2.1, b.2.2.2.2.2.trans a.2.2.2.2.2⟩
def OP (post : (MoC × IaC) → Prop) (u : MoC) (L : List Nat) : Prop := ∀ u' o', MQu u u' → OuI u' o' L → post (u', o')
theorem q_put {post : (MoC × IaC) → Prop} {u : MoC} {o : IaC} {L : List Nat} {c : Nat} (hu : OuI u o L) (hl : L.length < 5000) (h : OP post u (L ++ [c])) : wp_M_put post u o (nI c) := by
  obtain ⟨h1, h2, h3⟩ := hu
  have len : (L ++ [c]).length = L.length + 1 := by simp
  unfold wp_M_put
  rw [h1, h2, nI_clamp (by omega), nI_1]
  refine ⟨vp_in_nI hl (by decide), h _ _ ⟨rfl, rfl, rfl, rfl, rfl, rfl⟩ ⟨by rw [len], rfl, fun i hi => ?_⟩⟩
  rw [len] at hi
  show upd (iaF o) L.length (nI c) i = _
  rcases Nat.lt_succ_iff_lt_or_eq.mp hi with q | q
  · rw [pk_un (by omega), gD_app q]; exact h3 i q
  · rw [q, pk_us, gD_end]
/-- the reference's words -/
def wdUp (W : Int64) : Nat → Int64 → Option Int64
  | 0, _ => none
  | f + 1, sc => if sc = 0 then none else if lg_cmp (W / sc) 128 < 0 then some sc else wdUp W f (sc * 128)
def wdDn (W : Int64) : Nat → Int64 → Option (List Int32)
  | 0, _ => none
  | f + 1, sc => if lg_cmp sc 0 ≤ 0 then some [] else if sc = 0 then none else match wdDn W f (sc / 128) with
    | none => none
    | some l => some (((W / sc) - (W / sc) / (128 : Int64) * (128 : Int64)).toInt32 :: l)
theorem q_wordDn {post : (MoC × IaC) → Prop} {W : Int64} {u0 : MoC} : ∀ (g : Nat) (sc : Int64) (cs : List Nat) (u : MoC) (o : IaC) (L : List Nat), wdDn W g sc = some (cs.map nI) → MQu u0 u → OuI u o L → L.length + cs.length ≤ 5000 → OP post u0 (L ++ cs) → w_M_word_21 post g W sc u o
  | 0, _, _, _, _, _, h, _, _, _, _ => by simp [wdDn] at h
  | g + 1, sc, cs, u, o, L, h, hq, hu, hl, hp => by
    unfold wdDn at h
    unfold w_M_word_21 wb_M_word_21
    split at h
    · rename_i hc
      refine ⟨fun _ => ?_, fun z => absurd hc z⟩
      have e : cs.map nI = [] := by simpa using h.symm
      have : cs = [] := List.map_eq_nil_iff.mp e
      subst this
      rw [List.append_nil] at hp
      exact hp u o hq hu
    · rename_i hc
      split at h
      · cases h
      · rename_i h0
        refine ⟨fun z => absurd z hc, fun _ => ⟨h0, ?_⟩⟩
        split at h
        · cases h
        · rename_i l hl2
          have h' := Option.some.inj h
          cases cs with
          | nil => simp at h'
          | cons c cs =>
            rw [List.map_cons] at h'
            obtain ⟨e1, e2⟩ := List.cons.inj h'
            rw [e1]
            rw [List.length_cons] at hl
            refine q_put hu (by omega) (fun u' o' m1 m2 => ?_)
            refine q_wordDn g (sc / 128) cs u' o' (L ++ [c]) (by rw [hl2, e2]) (hq.tr m1) m2 (by simp; omega) ?_
            rw [List.append_assoc]
            exact hp
theorem q_wordUp {post : (MoC × IaC) → Prop} {W sc : Int64} {u : MoC} {o : IaC} (H : ∃ g, w_M_word_21 post g W sc u o) : ∀ (f : Nat) (s0 : Int64), wdUp W f s0 = some sc → w_M_word_2 post f W s0 u o
  | 0, _, h => by simp [wdUp] at h
  | f + 1, s0, h => by
    unfold wdUp at h
    unfold w_M_word_2 wb_M_word_2
    split at h
    · cases h
    · rename_i h0
      refine ⟨h0, fun z => ?_, fun z => ?_⟩
      · rw [if_pos z] at h
        have := Option.some.inj h
        subst this
        exact H
      · rw [if_neg z] at h
        exact q_wordUp H f _ h
theorem q_word {post : (MoC × IaC) → Prop} {u : MoC} {o : IaC} {L : List Nat} (W sc : Int64) (cs : List Nat) (f g : Nat) (hf : wdUp W f 1 = some sc) (hg : wdDn W g sc = some (cs.map nI)) (hu : OuI u o L) (hl : L.length + cs.length ≤ 5000) (h : OP post u (L ++ cs)) : wp_M_word post u o W :=
  ⟨f, q_wordUp ⟨g, q_wordDn g sc cs u o L hg (MQu.rf u) hu hl h⟩ f 1 hf⟩
theorem wL_7 : ∀ k, k < 12 → 2 < k → (wL k).length ≤ 7 := by decide
def bw (c : Nat) : Nat := if c = 66 then 3 else if c = 67 then 4 else if c = 68 then 5 else if c = 70 then 6 else if c = 73 then 7 else if c = 74 then 8 else if c = 83 then 9 else if c = 90 then 10 else 11
theorem q_baseWord {post : (MoC × IaC) → Prop} {u : MoC} {o : IaC} {L : List Nat} {c : Nat} (hb : pBs c = true) (hu : OuI u o L) (hl : L.length + 7 ≤ 5000) (h : OP post u (L ++ wL (bw c))) : wp_M_baseWord (fun r => wp_M_word post u o r) (nI c) := by
  have hc : c = 66 ∨ c = 67 ∨ c = 68 ∨ c = 70 ∨ c = 73 ∨ c = 74 ∨ c = 83 ∨ c = 90 := by simpa [pBs, or_assoc] using hb
  unfold wp_M_baseWord
  rcases hc with rfl | rfl | rfl | rfl | rfl | rfl | rfl | rfl
  · refine ⟨fun _ => q_word _ (128 * 128 * 128) (wL 3) 5 5 (by decide +kernel) (by decide +kernel) hu (by have := wL_7 3 (by decide) (by decide); omega) h, ?_, ?_, ?_, ?_, ?_, ?_, ?_⟩ <;> (intro z; first | exact absurd z (by decide) | exact absurd z.1 (by decide))
  · refine ⟨?_, fun _ => q_word _ (128 * 128 * 128) (wL 4) 5 5 (by decide +kernel) (by decide +kernel) hu (by have := wL_7 4 (by decide) (by decide); omega) h, ?_, ?_, ?_, ?_, ?_, ?_⟩ <;> (intro z; first | exact absurd z (by decide) | exact absurd z.2.1 (by decide))
  · refine ⟨?_, ?_, fun _ => q_word _ (128 * 128 * 128 * 128 * 128) (wL 5) 7 7 (by decide +kernel) (by decide +kernel) hu (by have := wL_7 5 (by decide) (by decide); omega) h, ?_, ?_, ?_, ?_, ?_⟩ <;> (intro z; first | exact absurd z (by decide) | exact absurd z.2.2.1 (by decide))
  · refine ⟨?_, ?_, ?_, fun _ => q_word _ (128 * 128 * 128 * 128) (wL 6) 6 6 (by decide +kernel) (by decide +kernel) hu (by have := wL_7 6 (by decide) (by decide); omega) h, ?_, ?_, ?_, ?_⟩ <;> (intro z; first | exact absurd z (by decide) | exact absurd z.2.2.2.1 (by decide))
  · refine ⟨?_, ?_, ?_, ?_, fun _ => q_word _ (128 * 128) (wL 7) 4 4 (by decide +kernel) (by decide +kernel) hu (by have := wL_7 7 (by decide) (by decide); omega) h, ?_, ?_, ?_⟩ <;> (intro z; first | exact absurd z (by decide) | exact absurd z.2.2.2.2.1 (by decide))
  · refine ⟨?_, ?_, ?_, ?_, ?_, fun _ => q_word _ (128 * 128 * 128) (wL 8) 5 5 (by decide +kernel) (by decide +kernel) hu (by have := wL_7 8 (by decide) (by decide); omega) h, ?_, ?_⟩ <;> (intro z; first | exact absurd z (by decide) | exact absurd z.2.2.2.2.2.1 (by decide))
  · refine ⟨?_, ?_, ?_, ?_, ?_, ?_, fun _ => q_word _ (128 * 128 * 128 * 128) (wL 9) 6 6 (by decide +kernel) (by decide +kernel) hu (by have := wL_7 9 (by decide) (by decide); omega) h, ?_⟩ <;> (intro z; first | exact absurd z (by decide) | exact absurd z.2.2.2.2.2.2 (by decide))
  · refine ⟨?_, ?_, ?_, ?_, ?_, ?_, ?_, fun _ => q_word _ (128 * 128 * 128 * 128 * 128 * 128) (wL 10) 8 8 (by decide +kernel) (by decide +kernel) hu (by have := wL_7 10 (by decide) (by decide); omega) h⟩ <;> (intro z; exact absurd z (by decide))
theorem q_void {post : (MoC × IaC) → Prop} {u : MoC} {o : IaC} {L : List Nat} (hu : OuI u o L) (hl : L.length + 7 ≤ 5000) (h : OP post u (L ++ wL 11)) : wp_M_word post u o 249296100 :=
  q_word _ (128 * 128 * 128) (wL 11) 5 5 (by decide +kernel) (by decide +kernel) hu (by have := wL_7 11 (by decide) (by decide); omega) h
theorem r_wordOf {post : Nat → Prop} {c : Nat} (hc : c < 2 ^ 31) (h : post (bw c)) : wp_Sh_wordOf post (nI c) := by
  unfold wp_Sh_wordOf
  simp only [lit32, nIe hc, Nat.reducePow, Nat.reduceLT]
  refine ⟨fun z => ?_, fun z => ?_, fun z => ?_, fun z => ?_, fun z => ?_, fun z => ?_, fun z => ?_, fun z => ?_, fun z => ?_⟩
  · subst z; exact h
  · subst z; exact h
  · subst z; exact h
  · subst z; exact h
  · subst z; exact h
  · subst z; exact h
  · subst z; exact h
  · subst z; exact h
  · obtain ⟨a1, a2, a3, a4, a5, a6, a7, a8⟩ := z
    unfold bw at h
    rw [if_neg a1, if_neg a2, if_neg a3, if_neg a4, if_neg a5, if_neg a6, if_neg a7, if_neg a8] at h
    exact h
/-- brackets -/
def bk : Nat → List Nat
  | 0 => []
  | m + 1 => bk m ++ [91, 93]
theorem bk_len : ∀ m, (bk m).length = 2 * m
  | 0 => rfl
  | m + 1 => by rw [bk, List.length_append, bk_len m]; rfl
theorem q_brackets {post : (MoC × IaC) → Prop} {u : MoC} {o : IaC} {L : List Nat} {m : Nat} (hu : OuI u o L) (hl : L.length + 2 * m ≤ 5000) (h : OP post u (L ++ bk m)) : wp_M_brackets post u o (nI m) := by
  unfold wp_M_brackets
  refine lpI (n := m) (α := Int32 × MoC × IaC) (W := fun f a => w_M_brackets_2 post f (nI m) a.1 a.2.1 a.2.2) (I := fun j a => a.1 = nI j ∧ MQu u a.2.1 ∧ OuI a.2.1 a.2.2 (L ++ bk j)) (fun f a hI => ?_) (fun f j a hj hI ih => ?_) 0 (0, u, o) (by omega) ⟨rfl, MQu.rf u, by simpa [bk] using hu⟩
  · obtain ⟨a1, a2, a3⟩ := a
    obtain ⟨e1, e2, e3⟩ := hI
    dsimp only at e1 e2 e3 ⊢
    subst e1
    exact b_le (by omega) (by omega) (fun _ => h _ _ e2 e3) (fun z => absurd z (by omega))
  · obtain ⟨a1, a2, a3⟩ := a
    obtain ⟨e1, e2, e3⟩ := hI
    dsimp only at e1 e2 e3 ⊢
    subst e1
    have l1 := bk_len j
    refine b_le (by omega) (by omega) (fun z => absurd z (by omega)) (fun _ => q_put e3 (by simp [l1]; omega) (fun u1 o1 m1 m2 => q_put m2 (by simp [l1]; omega) (fun u2 o2 n1 n2 => ?_)))
    rw [nI_1]
    refine ih (nI (j + 1), u2, o2) ⟨rfl, (e2.tr m1).tr n1, ?_⟩
    have : L ++ bk (j + 1) = L ++ bk j ++ [91] ++ [93] := by simp [bk]
    rw [this]
    exact n2
