/-! the class's set of opened parameters -/
theorem lg0 (x : Int64) : lg_cmp x 0 = 0 ↔ x = 0 := by
  unfold lg_cmp
  by_cases h : x > 0
  · rw [if_pos h]
    refine ⟨fun z => absurd z (by decide), fun z => ?_⟩
    rw [z] at h
    exact absurd h (by decide)
  · rw [if_neg h]
    by_cases h2 : x = 0
    · rw [if_pos h2]; exact ⟨fun _ => h2, fun _ => rfl⟩
    · rw [if_neg h2]; exact ⟨fun z => absurd z (by decide), fun z => absurd z h2⟩
theorem and1 (x : BitVec 64) : x &&& 1#64 = 0#64 ↔ x.getLsbD 0 = false := by
  constructor
  · intro h
    have := congrArg (fun y => y.getLsbD 0) h
    simpa using this
  · intro h
    apply BitVec.eq_of_getLsbD_eq
    intro i hi
    rw [BitVec.getLsbD_and]
    rcases Nat.eq_zero_or_pos i with q | q
    · subst q; rw [h]; simp
    · have : (1#64).getLsbD i = false := by simp; omega
      rw [this]; simp
theorem sh_amt : ∀ j, j < 20 → (((nI j).toInt64 &&& 63).toBitVec.smod 64).toNat = j := by decide +kernel
theorem bit_get (o : Int64) {j : Nat} (hj : j < 20) : lg_cmp ((o >>> ((nI j).toInt64 &&& 63)) &&& 1) 0 = 0 ↔ o.toBitVec.getLsbD j = false := by
  rw [lg0, ← Int64.toBitVec_inj, Int64.toBitVec_and, Int64.toBitVec_shiftRight]
  have e1 : (1 : Int64).toBitVec = 1#64 := rfl
  have e0 : (0 : Int64).toBitVec = 0#64 := rfl
  rw [e1, e0, and1]
  have := sh_amt j hj
  unfold BitVec.sshiftRight'
  rw [this, BitVec.getLsbD_sshiftRight]
  simp
  omega
theorem sh_one : ∀ j, j < 20 → ((1 : Int64) <<< ((nI j).toInt64 &&& 63)).toBitVec = BitVec.twoPow 64 j := by decide +kernel
theorem bit_set (o : Int64) {i j : Nat} (hj : j < 20) (hi : i < 20) : (o ||| (1 <<< ((nI j).toInt64 &&& 63))).toBitVec.getLsbD i = (o.toBitVec.getLsbD i || decide (i = j)) := by
  rw [Int64.toBitVec_or, BitVec.getLsbD_or, sh_one j hj, BitVec.getLsbD_twoPow]
  congr 1
  by_cases h : i = j
  · subst h; simp; omega
  · have : j ≠ i := fun z => h z.symm
    simp [h, this]
def vS (V : Nat → Bool) (j : Nat) : Nat → Bool := fun i => if i = j then true else V i
def BM (o : Int64) (V : Nat → Bool) : Prop := ∀ j, j < 20 → (lg_cmp ((o >>> ((nI j).toInt64 &&& 63)) &&& 1) 0 = 0 ↔ V j = false)
theorem BM_0 : BM 0 (fun _ => false) := fun j hj => by rw [bit_get 0 hj]; simp
theorem BM_set {o : Int64} {V : Nat → Bool} {j : Nat} (h : BM o V) (hj : j < 20) : BM (o ||| (1 <<< ((nI j).toInt64 &&& 63))) (vS V j) := by
  intro i hi
  have h1 := h i hi
  rw [bit_get _ hi] at h1 ⊢
  rw [bit_set o hj hi, Bool.or_eq_false_iff]
  unfold vS
  by_cases q : i = j
  · simp [q]
  · simp [q, h1]
/-- counting what is not opened, and its width -/
def cN (V : Nat → Bool) : Nat → Nat
  | 0 => 0
  | m + 1 => cN V m + if V m = true then 0 else 1
def ph (V : Nat → Bool) (w : Nat → Nat) : Nat → Nat
  | 0 => 0
  | m + 1 => ph V w m + if V m = true then 0 else w m
theorem cN_out {V : Nat → Bool} {j : Nat} : ∀ m, m ≤ j → cN (vS V j) m = cN V m
  | 0, _ => rfl
  | m + 1, h => by
    show cN (vS V j) m + (if vS V j m = true then 0 else 1) = cN V m + (if V m = true then 0 else 1)
    rw [cN_out m (by omega)]
    unfold vS
    rw [if_neg (show ¬ m = j by omega)]
theorem cN_set {V : Nat → Bool} {j : Nat} (hv : V j = false) : ∀ m, j < m → cN (vS V j) m + 1 = cN V m
  | 0, h => absurd h (Nat.not_lt_zero _)
  | m + 1, h => by
    show cN (vS V j) m + (if vS V j m = true then 0 else 1) + 1 = cN V m + (if V m = true then 0 else 1)
    rcases Nat.lt_succ_iff_lt_or_eq.mp h with q | q
    · have ih := cN_set hv m q
      have e : vS V j m = V m := by unfold vS; rw [if_neg (by omega)]
      rw [e]; omega
    · subst q
      rw [cN_out j (Nat.le_refl _), hv]
      have e : vS V j j = true := by unfold vS; rw [if_pos rfl]
      rw [e]; simp
theorem ph_out {V : Nat → Bool} {w : Nat → Nat} {j : Nat} : ∀ m, m ≤ j → ph (vS V j) w m = ph V w m
  | 0, _ => rfl
  | m + 1, h => by
    show ph (vS V j) w m + (if vS V j m = true then 0 else w m) = ph V w m + (if V m = true then 0 else w m)
    rw [ph_out m (by omega)]
    unfold vS
    rw [if_neg (show ¬ m = j by omega)]
theorem ph_set {V : Nat → Bool} {w : Nat → Nat} {j : Nat} (hv : V j = false) : ∀ m, j < m → ph (vS V j) w m + w j = ph V w m
  | 0, h => absurd h (Nat.not_lt_zero _)
  | m + 1, h => by
    show ph (vS V j) w m + (if vS V j m = true then 0 else w m) + w j = ph V w m + (if V m = true then 0 else w m)
    rcases Nat.lt_succ_iff_lt_or_eq.mp h with q | q
    · have ih := ph_set (w := w) hv m q
      have e : vS V j m = V m := by unfold vS; rw [if_neg (by omega)]
      rw [e]; omega
    · subst q
      rw [ph_out j (Nat.le_refl _), hv]
      have e : vS V j j = true := by unfold vS; rw [if_pos rfl]
      rw [e]; simp
theorem cN_le (V : Nat → Bool) : ∀ m, cN V m ≤ m
  | 0 => Nat.le_refl 0
  | m + 1 => by have := cN_le V m; unfold cN; split <;> omega
theorem cN_pos {V : Nat → Bool} {j : Nat} (hv : V j = false) {m : Nat} (h : j < m) : 0 < cN V m := by have := cN_set hv m h; omega
