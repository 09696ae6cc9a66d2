section LW
variable {p : Program} {l : Launch} {e : Env} {s : State} {m : MethodId} {below : List Frame} {meth : Method} {c : Code} {b L : Nat} {xs : Nat → Int32} {G : GX} {H : Heap} {locs : List Loc} {ce sl : Nat} {ls : Array Slot}
variable {am a : Nat → Nat} {z zm : ST} {x y v : Int32}
theorem sF_kind (E : LE p s m meth c b L xs G) (hS : va_S (fun q => G.2.2.1 ≤ q) s.heap H locs) (hFI : FI G am a H z) (hm : MI G am H zm) (hz : VS z) (hl : ls.size = 4) (hf : ce + 0 ≤ room_1.cells ∧ sl + 0 ≤ room_1.slots) (kk : ∀ H1 locs1, FI G am a H1 (z) → MI G am H1 zm → va_S (fun q => G.2.2.1 ≤ q) s.heap H1 locs1 → WL p l e s m below meth c b H1 locs1 ce sl 203 ls [.int (aKi z x)]) : WL p l e s m below meth c b H locs ce sl 200 ls [.int x, .ref (a 0)] := by
  obtain ⟨uF, uL, uD, uR, uS, uH, uE, uO, uM, pa, pu, Q, hP, dj, hp⟩ := hFI
  rcases cs_x x (zM z) with ⟨i, hi, hx⟩ | hx
  · exact tF_kind0 E hS hm Q hP dj hp hl hf hz hi hx (fun f g => kk H locs f g hS)
  · exact tF_kindN E hS hm Q hP dj hp hl hf hx (fun f g => kk H locs f g hS)
theorem sF_parameters (E : LE p s m meth c b L xs G) (hS : va_S (fun q => G.2.2.1 ≤ q) s.heap H locs) (hFI : FI G am a H z) (hm : MI G am H zm) (hz : VS z) (hl : ls.size = 4) (hf : ce + 0 ≤ room_1.cells ∧ sl + 0 ≤ room_1.slots) (kk : ∀ H1 locs1, FI G am a H1 (z) → MI G am H1 zm → va_S (fun q => G.2.2.1 ≤ q) s.heap H1 locs1 → WL p l e s m below meth c b H1 locs1 ce sl 411 ls [.int (aPa z x)]) : WL p l e s m below meth c b H locs ce sl 408 ls [.int x, .ref (a 0)] := by
  obtain ⟨uF, uL, uD, uR, uS, uH, uE, uO, uM, pa, pu, Q, hP, dj, hp⟩ := hFI
  rcases cs_x x (zM z) with ⟨i, hi, hx⟩ | hx
  · exact tF_parameters0 E hS hm Q hP dj hp hl hf hz hi hx (fun f g => kk H locs f g hS)
  · exact tF_parametersN E hS hm Q hP dj hp hl hf hx (fun f g => kk H locs f g hS)
theorem sF_bounds (E : LE p s m meth c b L xs G) (hS : va_S (fun q => G.2.2.1 ≤ q) s.heap H locs) (hFI : FI G am a H z) (hm : MI G am H zm) (hz : VS z) (hl : ls.size = 4) (hf : ce + 0 ≤ room_1.cells ∧ sl + 0 ≤ room_1.slots) (kk : ∀ H1 locs1, FI G am a H1 (z) → MI G am H1 zm → va_S (fun q => G.2.2.1 ≤ q) s.heap H1 locs1 → WL p l e s m below meth c b H1 locs1 ce sl 439 ls [.int (aBo z x y)]) : WL p l e s m below meth c b H locs ce sl 436 ls [.int y, .int x, .ref (a 0)] := by
  obtain ⟨uF, uL, uD, uR, uS, uH, uE, uO, uM, pa, pu, Q, hP, dj, hp⟩ := hFI
  rcases cs_x x (zM z) with ⟨i, hi, hx⟩ | hx
  · exact tF_bounds0 E hS hm Q hP dj hp hl hf hz hi hx (fun f g => kk H locs f g hS)
  · exact tF_boundsN E hS hm Q hP dj hp hl hf hx (fun f g => kk H locs f g hS)
theorem sF_measure (E : LE p s m meth c b L xs G) (hS : va_S (fun q => G.2.2.1 ≤ q) s.heap H locs) (hFI : FI G am a H z) (hm : MI G am H zm) (hz : VS z) (hl : ls.size = 4) (hf : ce + 0 ≤ room_1.cells ∧ sl + 0 ≤ room_1.slots) (kk : ∀ H1 locs1, FI G am a H1 (z) → MI G am H1 zm → va_S (fun q => G.2.2.1 ≤ q) s.heap H1 locs1 → WL p l e s m below meth c b H1 locs1 ce sl 472 ls [.int (aMe z x y)]) : WL p l e s m below meth c b H locs ce sl 469 ls [.int y, .int x, .ref (a 0)] := by
  obtain ⟨uF, uL, uD, uR, uS, uH, uE, uO, uM, pa, pu, Q, hP, dj, hp⟩ := hFI
  rcases cs_x x (zM z) with ⟨i, hi, hx⟩ | hx
  · cases hs : zS z i with
    | none => exact tF_measure0 E hS hm Q hP dj hp hl hf hz hi hx hs (fun f g => kk H locs f g hS)
    | some j => exact tF_measure1 E hS hm Q hP dj hp hl hf hz hi hx hs (fun f g => kk H locs f g hS)
  · exact tF_measureN E hS hm Q hP dj hp hl hf hx (fun f g => kk H locs f g hS)
theorem sF_text (E : LE p s m meth c b L xs G) (hS : va_S (fun q => G.2.2.1 ≤ q) s.heap H locs) (hFI : FI G am a H z) (hm : MI G am H zm) (hz : VS z) (hl : ls.size = 4) (hf : ce + 0 ≤ room_1.cells ∧ sl + 0 ≤ room_1.slots) (kk : ∀ H1 locs1, FI G am a H1 (z) → MI G am H1 zm → va_S (fun q => G.2.2.1 ≤ q) s.heap H1 locs1 → WL p l e s m below meth c b H1 locs1 ce sl 236 ls [.int (aTx z x y v)]) : WL p l e s m below meth c b H locs ce sl 233 ls [.int v, .int y, .int x, .ref (a 0)] := by
  obtain ⟨uF, uL, uD, uR, uS, uH, uE, uO, uM, pa, pu, Q, hP, dj, hp⟩ := hFI
  rcases cs_x x (zM z) with ⟨i, hi, hx⟩ | hx
  · cases hs : zS z i with
    | none => exact tF_text0 E hS hm Q hP dj hp hl hf hz hi hx hs kk
    | some j => exact tF_text1 E hS hm Q hP dj hp hl hf hz hi hx hs kk
  · exact tF_textN E hS hm Q hP dj hp hl hf hx (fun f g => kk H locs f g hS)
theorem sF_length (E : LE p s m meth c b L xs G) (hS : va_S (fun q => G.2.2.1 ≤ q) s.heap H locs) (hFI : FI G am a H z) (hm : MI G am H zm) (hz : VS z) (hl : ls.size = 4) (hf : ce + 0 ≤ room_1.cells ∧ sl + 0 ≤ room_1.slots) (kk : ∀ H1 locs1, FI G am a H1 (z) → MI G am H1 zm → va_S (fun q => G.2.2.1 ≤ q) s.heap H1 locs1 → WL p l e s m below meth c b H1 locs1 ce sl 274 ls [.int (aLe z x y)]) : WL p l e s m below meth c b H locs ce sl 271 ls [.int y, .int x, .ref (a 0)] := by
  obtain ⟨uF, uL, uD, uR, uS, uH, uE, uO, uM, pa, pu, Q, hP, dj, hp⟩ := hFI
  rcases cs_x x (zM z) with ⟨i, hi, hx⟩ | hx
  · cases hs : zS z i with
    | none => exact tF_length0 E hS hm Q hP dj hp hl hf hz hi hx hs kk
    | some j => exact tF_length1 E hS hm Q hP dj hp hl hf hz hi hx hs kk
  · exact tF_lengthN E hS hm Q hP dj hp hl hf hx (fun f g => kk H locs f g hS)
theorem sF_alike (E : LE p s m meth c b L xs G) (hS : va_S (fun q => G.2.2.1 ≤ q) s.heap H locs) (hFI : FI G am a H z) (hm : MI G am H zm) (hz : VS z) (hl : ls.size = 4) (hf : ce + 0 ≤ room_1.cells ∧ sl + 0 ≤ room_1.slots) (kk : ∀ H1 locs1, FI G am a H1 (z) → MI G am H1 zm → va_S (fun q => G.2.2.1 ≤ q) s.heap H1 locs1 → WL p l e s m below meth c b H1 locs1 ce sl 307 ls [.int (aAl z x y)]) : WL p l e s m below meth c b H locs ce sl 304 ls [.int y, .int x, .ref (a 0)] := by
  obtain ⟨uF, uL, uD, uR, uS, uH, uE, uO, uM, pa, pu, Q, hP, dj, hp⟩ := hFI
  rcases cs_x x (zM z) with ⟨i, hi, hx⟩ | hx
  · rcases cs_x y (zM z) with ⟨j, hj, hy⟩ | hy
    · exact tF_alike0 E hS hm Q hP dj hp hl hf hz hi hx hj hy (fun f g => kk H locs f g hS)
    · exact tF_alikeN2 E hS hm Q hP dj hp hl hf hz hi hx hy (fun f g => kk H locs f g hS)
  · rcases cs_x y (zM z) with ⟨j, hj, hy⟩ | hy
    · exact tF_alikeN1 E hS hm Q hP dj hp hl hf hx hj hy (fun f g => kk H locs f g hS)
    · exact tF_alikeN0 E hS hm Q hP dj hp hl hf hx hy (fun f g => kk H locs f g hS)
theorem sF_clash (E : LE p s m meth c b L xs G) (hS : va_S (fun q => G.2.2.1 ≤ q) s.heap H locs) (hFI : FI G am a H z) (hm : MI G am H zm) (hz : VS z) (hl : ls.size = 4) (hf : ce + 0 ≤ room_1.cells ∧ sl + 0 ≤ room_1.slots) (kk : ∀ H1 locs1, FI G am a H1 (z) → MI G am H1 zm → va_S (fun q => G.2.2.1 ≤ q) s.heap H1 locs1 → WL p l e s m below meth c b H1 locs1 ce sl 340 ls [.int (aCl z x y)]) : WL p l e s m below meth c b H locs ce sl 337 ls [.int y, .int x, .ref (a 0)] := by
  obtain ⟨uF, uL, uD, uR, uS, uH, uE, uO, uM, pa, pu, Q, hP, dj, hp⟩ := hFI
  rcases cs_x x (zM z) with ⟨i, hi, hx⟩ | hx
  · rcases cs_x y (zM z) with ⟨j, hj, hy⟩ | hy
    · cases hs : zS z i with
      | none =>
        cases hs' : zS z j with
        | none => exact tF_clash00 E hS hm Q hP dj hp hl hf hz hi hx hj hy hs hs' kk
        | some r => exact tF_clash01 E hS hm Q hP dj hp hl hf hz hi hx hj hy hs hs' kk
      | some q =>
        cases hs' : zS z j with
        | none => exact tF_clash10 E hS hm Q hP dj hp hl hf hz hi hx hj hy hs hs' kk
        | some r => exact tF_clash11 E hS hm Q hP dj hp hl hf hz hi hx hj hy hs hs' kk
    · exact tF_clashN2 E hS hm Q hP dj hp hl hf hz hi hx hy (fun f g => kk H locs f g hS)
  · rcases cs_x y (zM z) with ⟨j, hj, hy⟩ | hy
    · exact tF_clashN1 E hS hm Q hP dj hp hl hf hx hj hy (fun f g => kk H locs f g hS)
    · exact tF_clashN0 E hS hm Q hP dj hp hl hf hx hy (fun f g => kk H locs f g hS)
theorem sF_count (E : LE p s m meth c b L xs G) (hS : va_S (fun q => G.2.2.1 ≤ q) s.heap H locs) (hFI : FI G am a H z) (hm : MI G am H zm) (hz : VS z) (hl : ls.size = 4) (hf : ce + 0 ≤ room_1.cells ∧ sl + 0 ≤ room_1.slots) (kk : ∀ H1 locs1, FI G am a H1 (z) → MI G am H1 zm → va_S (fun q => G.2.2.1 ≤ q) s.heap H1 locs1 → WL p l e s m below meth c b H1 locs1 ce sl 500 ls [.int (aCo z x)]) : WL p l e s m below meth c b H locs ce sl 497 ls [.int x, .ref (a 0)] := by
  obtain ⟨uF, uL, uD, uR, uS, uH, uE, uO, uM, pa, pu, Q, hP, dj, hp⟩ := hFI
  exact tF_count E hS hm Q hP dj hp hl hf (fun f g => kk H locs f g hS)
theorem sF_clear (E : LE p s m meth c b L xs G) (hS : va_S (fun q => G.2.2.1 ≤ q) s.heap H locs) (hFI : FI G am a H z) (hm : MI G am H zm) (hz : VS z) (hl : ls.size = 4) (hf : ce + 0 ≤ room_1.cells ∧ sl + 0 ≤ room_1.slots) (kk : ∀ H1 locs1, FI G am a H1 (clS z) → MI G am H1 zm → va_S (fun q => G.2.2.1 ≤ q) s.heap H1 locs1 → WL p l e s m below meth c b H1 locs1 ce sl 131 ls []) : WL p l e s m below meth c b H locs ce sl 128 ls [.ref (a 0)] := by
  obtain ⟨uF, uL, uD, uR, uS, uH, uE, uO, uM, pa, pu, Q, hP, dj, hp⟩ := hFI
  exact tF_clear E hS hm Q hP dj hp hl hf kk
theorem sF_type (E : LE p s m meth c b L xs G) (hS : va_S (fun q => G.2.2.1 ≤ q) s.heap H locs) (hFI : FI G am a H z) (hm : MI G am H zm) (hz : VS z) (hl : ls.size = 4) (hf : ce + 0 ≤ room_1.cells ∧ sl + 0 ≤ room_1.slots) (kk : ∀ H1 locs1, FI G am a H1 (tyS z x) → MI G am H1 zm → va_S (fun q => G.2.2.1 ≤ q) s.heap H1 locs1 → WL p l e s m below meth c b H1 locs1 ce sl 113 ls [.int (tyA z x)]) : WL p l e s m below meth c b H locs ce sl 110 ls [.int x, .ref (a 0)] := by
  obtain ⟨uF, uL, uD, uR, uS, uH, uE, uO, uM, pa, pu, Q, hP, dj, hp⟩ := hFI
  exact tF_type E hS hm Q hP dj hp hl hf kk
theorem sF_scope (E : LE p s m meth c b L xs G) (hS : va_S (fun q => G.2.2.1 ≤ q) s.heap H locs) (hFI : FI G am a H z) (hm : MI G am H zm) (hz : VS z) (hl : ls.size = 4) (hf : ce + 0 ≤ room_1.cells ∧ sl + 0 ≤ room_1.slots) (kk : ∀ H1 locs1, FI G am a H1 (scS z x y) → MI G am H1 zm → va_S (fun q => G.2.2.1 ≤ q) s.heap H1 locs1 → WL p l e s m below meth c b H1 locs1 ce sl 175 ls [.int (scA z x y)]) : WL p l e s m below meth c b H locs ce sl 172 ls [.int y, .int x, .ref (a 0)] := by
  obtain ⟨uF, uL, uD, uR, uS, uH, uE, uO, uM, pa, pu, Q, hP, dj, hp⟩ := hFI
  rcases cs_x x (zM z) with ⟨i, hi, hx⟩ | hx
  · rcases cs_x y (zM z) with ⟨j, hj, hy⟩ | hy
    · by_cases hij : j = i
      · exact tF_scopeS E hS hm Q hP dj hp hl hf hz hi hx (by rw [hy, hij]) kk
      · exact tF_scope1 E hS hm Q hP dj hp hl hf hz hi hx hj hy hij kk
    · exact tF_scope0 E hS hm Q hP dj hp hl hf hz hi hx hy kk
  · exact tF_scopeN E hS hm Q hP dj hp hl hf hx (fun f g => kk H locs f g hS)
theorem sF_read (E : LE p s m meth c b L xs G) (hS : va_S (fun q => G.2.2.1 ≤ q) s.heap H locs) (hFI : FI G am a H z) (hm : MI G am H zm) (hz : VS z) (hl : ls.size = 4) (hce : ce = 35 + 5 * zM z) (hsl : sl = 20370 + 487 * zM z) (kk : ∀ H1 locs1 ce1 sl1, ce1 = 35 + 5 * zM (rdS z x) → sl1 = 20370 + 487 * zM (rdS z x) → FI G am a H1 (rdS z x) → MI G am H1 zm → va_S (fun q => G.2.2.1 ≤ q) s.heap H1 locs1 → WL p l e s m below meth c b H1 locs1 ce1 sl1 147 ls [.int (rdA z x)]) : WL p l e s m below meth c b H locs ce sl 144 ls [.int x, .ref (a 0)] := by
  obtain ⟨uF, uL, uD, uR, uS, uH, uE, uO, uM, pa, pu, Q, hP, dj, hp⟩ := hFI
  have hM := hz.1
  have hf : ce + 0 ≤ room_1.cells ∧ sl + 0 ≤ room_1.slots := ⟨by show ce + 0 ≤ 600000; omega, by show sl + 0 ≤ 7302250; omega⟩
  have hf5 : ce + 5 ≤ room_1.cells ∧ sl + 487 ≤ room_1.slots := ⟨by show ce + 5 ≤ 600000; omega, by show sl + 487 ≤ 7302250; omega⟩
  by_cases hR : isR z x
  · exact tF_readY E hS hm Q hP dj hp hl hf5 hz hR (fun H1 locs1 f g w => kk H1 locs1 (ce + 5) (sl + 487) (by rw [zM_rdY hR]; omega) (by rw [zM_rdY hR]; omega) f g w)
  · exact tF_readN E hS hm Q hP dj hp hl hf hz hR (fun H1 locs1 f g w => kk H1 locs1 ce sl (by rw [zM_rdN hR]; exact hce) (by rw [zM_rdN hR]; exact hsl) f g w)
theorem sF_fill (E : LE p s m meth c b L xs G) (hS : va_S (fun q => G.2.2.1 ≤ q) s.heap H locs) (hFI : FI G am a H z) (hm : MI G am H zm) (hz : VS z) (hl : ls.size = 4) (hce : ce = 35 + 5 * zM z) (hsl : sl = 20370 + 487 * zM z) (kk : ∀ H1 locs1 ce1 sl1, ce1 = 35 + 5 * zM (flS z x y v) → sl1 = 20370 + 487 * zM (flS z x y v) → FI G am a H1 (flS z x y v) → MI G am H1 zm → va_S (fun q => G.2.2.1 ≤ q) s.heap H1 locs1 → WL p l e s m below meth c b H1 locs1 ce1 sl1 378 ls [.int (flA z x y v)]) : WL p l e s m below meth c b H locs ce sl 375 ls [.int v, .int y, .int x, .ref (a 0)] := by
  obtain ⟨uF, uL, uD, uR, uS, uH, uE, uO, uM, pa, pu, Q, hP, dj, hp⟩ := hFI
  have hM := hz.1
  have hf : ce + 0 ≤ room_1.cells ∧ sl + 0 ≤ room_1.slots := ⟨by show ce + 0 ≤ 600000; omega, by show sl + 0 ≤ 7302250; omega⟩
  have hf5 : ce + 5 ≤ room_1.cells ∧ sl + 487 ≤ room_1.slots := ⟨by show ce + 5 ≤ 600000; omega, by show sl + 487 ≤ 7302250; omega⟩
  by_cases hF : isF z x y v
  · obtain ⟨i, j, e9, hi, hj, hx, hv, h9⟩ := id hF
    exact tF_fillY E hS hm Q hP dj hp hl hf5 hz hi hx hj hv hF (fun H1 locs1 f g w => kk H1 locs1 (ce + 5) (sl + 487) (by rw [zM_flY hF]; omega) (by rw [zM_flY hF]; omega) f g w)
  · rcases cs_x x (zM z) with ⟨i, hi, hx⟩ | hx
    · rcases cs_x v (zM z) with ⟨j, hj, hv⟩ | hv
      · exact tF_fillN E hS hm Q hP dj hp hl hf hz hi hx hj hv hF (fun H1 locs1 f g w => kk H1 locs1 ce sl (by rw [zM_flN hF]; exact hce) (by rw [zM_flN hF]; exact hsl) f g w)
      · exact tF_fillN2 E hS hm Q hP dj hp hl hf hF hi hx hv (fun f g => kk H locs ce sl (by rw [zM_flN hF]; exact hce) (by rw [zM_flN hF]; exact hsl) f g hS)
    · rcases cs_x v (zM z) with ⟨j, hj, hv⟩ | hv
      · exact tF_fillN1 E hS hm Q hP dj hp hl hf hF hx hj hv (fun f g => kk H locs ce sl (by rw [zM_flN hF]; exact hce) (by rw [zM_flN hF]; exact hsl) f g hS)
      · exact tF_fillN0 E hS hm Q hP dj hp hl hf hF hx hv (fun f g => kk H locs ce sl (by rw [zM_flN hF]; exact hce) (by rw [zM_flN hF]; exact hsl) f g hS)
end LW
