section LW
variable {p : Program} {l : Launch} {e : Env} {s : State} {m : MethodId} {below : List Frame} {meth : Method} {c : Code} {b L : Nat} {xs : Nat → Int32} {G : GX} {H : Heap} {locs : List Loc} {ce sl : Nat} {ls : Array Slot}
variable {am a : Nat → Nat}
theorem lw_end {i : Nat} {L : Nat} (hL : L ≤ 2048) (hi : i ≤ L) (c : ¬ Int32.ofNat L - 4 < nI i) : i + 4 ≤ L := by
  rcases Nat.lt_or_ge L 4 with h | h
  · exfalso
    have key : ∀ q : Fin 4, Int32.ofNat q.val - 4 < 0 := by decide +kernel
    exact c (Int32.lt_of_lt_of_le (key ⟨L, h⟩) (nI_pos' (by omega)))
  · rw [show Int32.ofNat L - 4 = nI (L - 4) from pk_sub (a := L) (b := 4) h] at c
    have : ¬ L - 4 < i := fun g => c (nI_lt g (by omega))
    omega
theorem law_loop (E : LE p s m meth c b L xs G) (hL : L ≤ 2048) : ∀ (n i : Nat), i ≤ L → L + 1 ≤ i + n → ∀ (z : ST) (H : Heap) (locs : List Loc) (ce sl : Nat) (ls : Array Slot), VS z → FI G am a H z → MI G am H z → va_S (fun q => G.2.2.1 ≤ q) s.heap H locs → ce = 35 + 5 * zM z → sl = 20370 + 487 * zM z → lv_has ls 4 [(0, .ref b), (1, .ref (a 0)), (2, .ref (am 0)), (3, .int (nI i))] → WL p l e s m below meth c b H locs ce sl 18 ls [] := by
  obtain ⟨⟨hx, hb, hr, hml, hown, hts, hX, hbl, hlocks, hgv⟩, hC, hB⟩ := id E
  have hbA : ¬ G.2.2.1 ≤ b := by rw [hB]; omega
  intro n
  induction n with
  | zero =>
    intro i h1 h2
    exact absurd h2 (by omega)
  | succ n ih =>
    intro i h1 h2 z H locs ce sl ls hz hFI hm hS hce hsl hl
    have hM9 := hz.1
    refine lv_iload_n hx hb d_law_18 rfl (lv_at hl 3 rfl) ?_
    refine lv_aload_n hx hb d_law_19 rfl (lv_at hl 0 rfl) ?_
    refine va_slen hx hb hX hbl hbA hS d_law_20 ?_
    refine lv_iconst (v := 4) hx hb d_law_21 (by decide) ?_
    refine lv_isub hx hb d_law_22 ?_
    refine lv_icmp_gt (tgt := 520) hx hb d_law_23 (by decide) (fun _ => ?_) (fun c9 => ?_)
    · refine lv_iconst (v := 1) hx hb d_law_520 (by decide) ?_
      refine va_forget (fun q hq => by have := hS.2.2 q hq; rw [hB] at this; exact this) ?_
      refine W.widen (k := 600000) (n := 7302250) (by omega) (by omega) ?_
      exact lw_ret hx hb hr hlocks d_law_521
    · have hi := lw_end hL h1 c9
      have hv0 : vp_in (nI i) L := vp_in_nI (by omega) (by omega)
      refine lv_aload_n hx hb d_law_26 rfl (lv_at hl 0 rfl) ?_
      refine lv_iload_n hx hb d_law_27 rfl (lv_at hl 3 rfl) ?_
      refine va_sld hx hb hX hbl hbA hS hv0 d_law_28 ?_
      refine lv_bipush (v := 15) hx hb d_law_29 (by decide) ?_
      refine lv_iand hx hb d_law_31 ?_
      have K : ∀ z' H' locs' ce' sl', VS z' → FI G am a H' z' → MI G am H' z' → va_S (fun q => G.2.2.1 ≤ q) s.heap H' locs' → ce' = 35 + 5 * zM z' → sl' = 20370 + 487 * zM z' → WL p l e s m below meth c b H' locs' ce' sl' 514 ls [] := by
        intro z' H' locs' ce' sl' g1 g2 g3 g4 g5 g6
        refine lv_iinc (v := nI (i + 4)) (lv' := [(3, .int (nI (i + 4))), (0, .ref b), (1, .ref (a 0)), (2, .ref (am 0))]) hx hb d_law_514 hl (k := 3) rfl (by rw [← nI_add]; rfl) (by decide) rfl (fun ls hl => ?_)
        refine lv_goto (tgt := 18) hx hb d_law_517 (by decide) ?_
        exact ih (i + 4) (by omega) (by omega) z' H' locs' ce' sl' ls g1 g2 g3 g4 g5 g6 (lv_sub hl [1, 2, 3, 0] rfl)
      generalize hw : xs (nI i).toNatClampNeg &&& 15 = w
      by_cases c0 : w = 0
      · refine lv_tabK (a := 0) (off := 72) (tgt := 104) hx hb d_law_32 c0 (by decide +kernel) (by decide) (by decide) rfl (by decide) ?_
        exact lc_type E hS hFI hm hz hce hsl hl hL hi K
      by_cases c1 : w = 1
      · refine lv_tabK (a := 1) (off := 95) (tgt := 127) hx hb d_law_32 c1 (by decide +kernel) (by decide) (by decide) rfl (by decide) ?_
        exact lc_clear E hS hFI hm hz hce hsl hl hL hi K
      by_cases c2 : w = 2
      · refine lv_tabK (a := 2) (off := 106) (tgt := 138) hx hb d_law_32 c2 (by decide +kernel) (by decide) (by decide) rfl (by decide) ?_
        exact lc_read E hS hFI hm hz hce hsl hl hL hi K
      by_cases c3 : w = 3
      · refine lv_tabK (a := 3) (off := 129) (tgt := 161) hx hb d_law_32 c3 (by decide +kernel) (by decide) (by decide) rfl (by decide) ?_
        exact lc_scope E hS hFI hm hz hce hsl hl hL hi K
      by_cases c4 : w = 4
      · refine lv_tabK (a := 4) (off := 162) (tgt := 194) hx hb d_law_32 c4 (by decide +kernel) (by decide) (by decide) rfl (by decide) ?_
        exact lc_kind E hS hFI hm hz hce hsl hl hL hi K
      by_cases c5 : w = 5
      · refine lv_tabK (a := 5) (off := 185) (tgt := 217) hx hb d_law_32 c5 (by decide +kernel) (by decide) (by decide) rfl (by decide) ?_
        exact lc_text E hS hFI hm hz hce hsl hl hL hi K
      by_cases c6 : w = 6
      · refine lv_tabK (a := 6) (off := 228) (tgt := 260) hx hb d_law_32 c6 (by decide +kernel) (by decide) (by decide) rfl (by decide) ?_
        exact lc_length E hS hFI hm hz hce hsl hl hL hi K
      by_cases c7 : w = 7
      · refine lv_tabK (a := 7) (off := 261) (tgt := 293) hx hb d_law_32 c7 (by decide +kernel) (by decide) (by decide) rfl (by decide) ?_
        exact lc_alike E hS hFI hm hz hce hsl hl hL hi K
      by_cases c8 : w = 8
      · refine lv_tabK (a := 8) (off := 294) (tgt := 326) hx hb d_law_32 c8 (by decide +kernel) (by decide) (by decide) rfl (by decide) ?_
        exact lc_clash E hS hFI hm hz hce hsl hl hL hi K
      by_cases c9 : w = 9
      · refine lv_tabK (a := 9) (off := 327) (tgt := 359) hx hb d_law_32 c9 (by decide +kernel) (by decide) (by decide) rfl (by decide) ?_
        exact lc_fill E hS hFI hm hz hce hsl hl hL hi K
      by_cases c10 : w = 10
      · refine lv_tabK (a := 10) (off := 370) (tgt := 402) hx hb d_law_32 c10 (by decide +kernel) (by decide) (by decide) rfl (by decide) ?_
        exact lc_parameters E hS hFI hm hz hce hsl hl hL hi K
      by_cases c11 : w = 11
      · refine lv_tabK (a := 11) (off := 393) (tgt := 425) hx hb d_law_32 c11 (by decide +kernel) (by decide) (by decide) rfl (by decide) ?_
        exact lc_bounds E hS hFI hm hz hce hsl hl hL hi K
      by_cases c12 : w = 12
      · refine lv_tabK (a := 12) (off := 426) (tgt := 458) hx hb d_law_32 c12 (by decide +kernel) (by decide) (by decide) rfl (by decide) ?_
        exact lc_measure E hS hFI hm hz hce hsl hl hL hi K
      by_cases c13 : w = 13
      · refine lv_tabK (a := 13) (off := 459) (tgt := 491) hx hb d_law_32 c13 (by decide +kernel) (by decide) (by decide) rfl (by decide) ?_
        exact lc_count E hS hFI hm hz hce hsl hl hL hi K
      refine lv_tableOut (tgt := 514) hx hb d_law_32 (sw_out (lo := 0) (n := 14) (fun k hk e9 => ?_)) (by decide) ?_
      · have e9 : w = nI k := Int32.toInt_inj.mp (by rw [e9, nI_toInt (by omega)]; omega)
        match k, hk with
        | 0, _ => exact c0 e9
        | 1, _ => exact c1 e9
        | 2, _ => exact c2 e9
        | 3, _ => exact c3 e9
        | 4, _ => exact c4 e9
        | 5, _ => exact c5 e9
        | 6, _ => exact c6 e9
        | 7, _ => exact c7 e9
        | 8, _ => exact c8 e9
        | 9, _ => exact c9 e9
        | 10, _ => exact c10 e9
        | 11, _ => exact c11 e9
        | 12, _ => exact c12 e9
        | 13, _ => exact c13 e9
      · exact K z H locs ce sl hz hFI hm hS hce hsl
end LW
