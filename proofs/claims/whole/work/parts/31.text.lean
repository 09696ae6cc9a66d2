/-! numbers; the literals' members -/
theorem lit32 (k : Nat) : (OfNat.ofNat k : Int32) = nI (OfNat.ofNat k : Nat) := rfl
theorem nIe {a b : Nat} (ha : a < 2 ^ 31) (hb : b < 2 ^ 31) : (nI a = nI b) = (a = b) := propext (nI_eq ha hb)
theorem nIl {a b : Nat} (ha : a < 2 ^ 31) (hb : b < 2 ^ 31) : (nI a < nI b) = (a < b) := propext (nI_ltI ha hb)
theorem nIm {a b : Nat} (ha : a < 2 ^ 31) (hb : b < 2 ^ 31) : (nI a ≤ nI b) = (a ≤ b) := propext (nI_leI ha hb)
theorem nI0 : (0 : Int32) = nI 0 := rfl
/-- a literal's char -/
def lcN (k j : Nat) : Nat := ((ltB.getD k []).getD j 0).toNatClampNeg
def ltHas (k c : Nat) : Bool := (ltB.getD k []).any (fun b => b == nI c)
theorem lt_lens : ∀ k, k < ltN → ltL.getD k 0 = (ltB.getD k []).length ∧ ltL.getD k 0 < 100 := by decide +kernel
theorem lt_chars : ∀ k, k < ltN → ∀ j, j < ltL.getD k 0 → ((((((ltB.getD k []).getD j 0) &&& 255).toUInt32 % 65536).toInt32 = nI (lcN k j)) ∧ lcN k j < 128 ∧ (ltB.getD k []).getD j 0 = nI (lcN k j)) := by decide +kernel
theorem nar_char : ∀ c, c < 128 → narrow .char (.int (nI c)) = .int (nI c) ∧ (nI c).toInt8.toInt32 = nI c := by decide +kernel
theorem r_isLatin1 {post : Int32 → Prop} {k : Nat} (hk : k < ltN) (h : post 1) : wp_J_isLatin1 post k := ⟨fun q => absurd q (by decide), fun _ => ⟨hk, fun q => absurd rfl q, fun _ => h⟩⟩
theorem r_length {post : Int32 → Prop} {k : Nat} (hk : k < ltN) (h : post (nI (ltL.getD k 0))) : wp_J_length post k := by
  refine ⟨hk, hk, hk, fun q => absurd q (by decide), fun _ => ⟨hk, ?_⟩⟩
  show post (nI (ltL.getD k 0) >>> ((0 : Int32) &&& 31))
  rw [sb_shr0]
  exact h
theorem r_checkIndex {post : Unit → Prop} {x y : Int32} (h0 : ¬ x < 0) (h1 : x < y) (h : post ()) : wp_J_checkIndex post x y :=
  ⟨⟨fun q => absurd q h0, fun _ => ⟨fun _ => h, fun q => absurd h1 q⟩⟩, ⟨fun q => absurd q h0, fun _ => ⟨fun _ => h, fun q => absurd h1 q⟩⟩⟩
theorem r_charAt {post : Int32 → Prop} {k j : Nat} (hk : k < ltN) (hj : j < ltL.getD k 0) (h : post (nI (lcN k j))) : wp_J_charAt post k (nI j) := by
  obtain ⟨e1, e2, -⟩ := lt_chars k hk j hj
  have hl := (lt_lens k hk).2
  have hn := (nar_char _ e2).1
  refine ⟨hk, r_isLatin1 hk ⟨fun q => absurd q (by decide), fun _ => ⟨hk, hk, ?_⟩⟩⟩
  refine r_checkIndex (nI_pos (by omega)) (nI_lt hj (by omega)) ⟨hk, vp_in_nI hj (by omega), ?_⟩
  rw [nI_clamp (by omega), e1]
  exact ⟨hn, hn, h⟩
theorem r_ixLoop {post : Int32 → Prop} {k c : Nat} (hk : k < ltN) (H : ∀ i, i < ltL.getD k 0 → (ltB.getD k []).getD i 0 = nI c → post (nI i)) (N : (∀ i, i < ltL.getD k 0 → ¬ (ltB.getD k []).getD i 0 = nI c) → post (-1)) :
    ∀ (m j : Nat), ltL.getD k 0 - j ≤ m → j ≤ ltL.getD k 0 → (∀ i, i < j → ¬ (ltB.getD k []).getD i 0 = nI c) → w_J_indexOfChar_7 post (m + 1) k (nI (ltL.getD k 0)) (nI c) (nI j) := by
  have hl := (lt_lens k hk).2
  intro m
  induction m with
  | zero =>
    intro j h1 h2 h3
    have e : j = ltL.getD k 0 := by omega
    exact ⟨fun _ => N (fun i hi => h3 i (by omega)), fun q => absurd (nI_le (by omega) (by omega)) q⟩
  | succ m ih =>
    intro j h1 h2 h3
    refine ⟨fun q => N (fun i hi => h3 i ?_), fun q => ?_⟩
    · have := (nI_leI (by omega) (by omega)).mp q
      omega
    · have hj : j < ltL.getD k 0 := by
        rcases Nat.lt_or_ge j (ltL.getD k 0) with z | z
        · exact z
        · exact absurd (nI_le z (by omega)) q
      refine ⟨hk, vp_in_nI hj (by omega), ?_⟩
      rw [nI_clamp (by omega)]
      refine ⟨fun z => ?_, fun z => H j hj z⟩
      rw [nI_1]
      refine ih (j + 1) (by omega) (by omega) (fun i hi => ?_)
      rcases Nat.lt_succ_iff_lt_or_eq.mp hi with w | w
      · exact h3 i w
      · rw [w]; exact z
theorem r_indexOf {post : Int32 → Prop} {k c : Nat} (hk : k < ltN) (hc : c < 128) (H : ltHas k c = true → ∀ r, ¬ r < 0 → post r) (N : ltHas k c = false → ∀ r, r < 0 → post r) : wp_J_indexOf post k (nI c) := by
  have hl := lt_lens k hk
  have hp : 0 < ltL.getD k 0 := by
    have : ∀ k, k < ltN → 0 < ltL.getD k 0 := by decide +kernel
    exact this k hk
  refine ⟨hk, hk, r_isLatin1 hk ⟨fun q => absurd q (by decide), fun _ => ⟨hk, hk, r_length hk ?_⟩⟩⟩
  refine ⟨fun q => absurd q (nI_pos (by omega)), fun _ => ⟨fun q => ?_, fun _ => ⟨fun _ => ⟨hk, ?_⟩, fun q => absurd q (by decide)⟩⟩⟩
  · exact absurd q (nI_nlt (a := 255) (b := c) (by omega) (by omega))
  · have e1 : (if (0 : Int32) < 0 then (0 : Int32) else 0) = nI 0 := rfl
    have e2 : (if (Int32.ofNat (ltL.getD k 0)) < nI (ltL.getD k 0) then (Int32.ofNat (ltL.getD k 0)) else nI (ltL.getD k 0)) = nI (ltL.getD k 0) := by
      show (if nI (ltL.getD k 0) < nI (ltL.getD k 0) then nI (ltL.getD k 0) else nI (ltL.getD k 0)) = _
      exact ite_self _
    rw [e1, e2]
    refine ⟨fun _ => ⟨ltL.getD k 0 + 1, ?_⟩, fun q => absurd (nI_lt hp (by omega)) q⟩
    rw [(nar_char c hc).2]
    refine r_ixLoop hk (fun i hi z => H ?_ _ (nI_pos (by omega))) (fun z => N ?_ _ (by decide)) (ltL.getD k 0) 0 (by omega) (by omega) (fun i hi => absurd hi (by omega))
    · unfold ltHas
      rw [List.any_eq_true]
      refine ⟨_, List.getElem_mem (l := ltB.getD k []) (n := i) (by omega), ?_⟩
      rw [List.getD_eq_getElem?_getD, List.getElem?_eq_getElem (by omega)] at z
      simpa using z
    · unfold ltHas
      rw [List.any_eq_false]
      intro b hb
      obtain ⟨i, hi, rfl⟩ := List.getElem_of_mem hb
      have := z i (by omega)
      rw [List.getD_eq_getElem?_getD, List.getElem?_eq_getElem hi] at this
      simpa using this
