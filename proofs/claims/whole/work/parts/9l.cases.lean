section LW
variable {p : Program} {l : Launch} {e : Env} {s : State} {m : MethodId} {below : List Frame} {meth : Method} {c : Code} {b L : Nat} {xs : Nat → Int32} {G : GX} {H : Heap} {locs : List Loc} {ce sl : Nat} {ls : Array Slot}
variable {am a : Nat → Nat} {z : ST} {i : Nat}
theorem lc_type (E : LE p s m meth c b L xs G) (hS : va_S (fun q => G.2.2.1 ≤ q) s.heap H locs) (hFI : FI G am a H z) (hm : MI G am H z) (hz : VS z) (hce : ce = 35 + 5 * zM z) (hsl : sl = 20370 + 487 * zM z) (hl : lv_has ls 4 [(0, .ref b), (1, .ref (a 0)), (2, .ref (am 0)), (3, .int (nI i))]) (hL : L ≤ 2048) (hi : i + 4 ≤ L) (K : ∀ z' H' locs' ce' sl', VS z' → FI G am a H' z' → MI G am H' z' → va_S (fun q => G.2.2.1 ≤ q) s.heap H' locs' → ce' = 35 + 5 * zM z' → sl' = 20370 + 487 * zM z' → WL p l e s m below meth c b H' locs' ce' sl' 514 ls []) : WL p l e s m below meth c b H locs ce sl 104 ls [] := by
  obtain ⟨⟨hx, hb, hr, hml, hown, hts, hX, hbl, hlocks, hgv⟩, hC, hB⟩ := id E
  have hbA : ¬ G.2.2.1 ≤ b := by rw [hB]; omega
  have hM9 := hz.1
  have hf : ce + 0 ≤ room_1.cells ∧ sl + 0 ≤ room_1.slots := ⟨by show ce + 0 ≤ 600000; omega, by show sl + 0 ≤ 7302250; omega⟩
  have hv1 : vp_in (nI i + 1) L := by rw [show nI i + 1 = nI (i + 1) from nI_add i 1]; exact vp_in_nI (by omega) (by omega)
  refine lv_aload_n hx hb d_law_104 rfl (lv_at hl 1 rfl) ?_
  refine lv_aload_n hx hb d_law_105 rfl (lv_at hl 0 rfl) ?_
  refine lv_iload_n hx hb d_law_106 rfl (lv_at hl 3 rfl) ?_
  refine lv_iconst (v := 1) hx hb d_law_107 (by decide) ?_
  refine lv_iadd hx hb d_law_108 ?_
  refine va_sld hx hb hX hbl hbA hS hv1 d_law_109 ?_
  refine sF_type E hS hFI hm hz hl.1 hf (fun H1 locs1 hF1 hm1 hS1 => ?_)
  refine lv_aload_n hx hb d_law_113 rfl (lv_at hl 2 rfl) ?_
  refine lv_aload_n hx hb d_law_114 rfl (lv_at hl 0 rfl) ?_
  refine lv_iload_n hx hb d_law_115 rfl (lv_at hl 3 rfl) ?_
  refine lv_iconst (v := 1) hx hb d_law_116 (by decide) ?_
  refine lv_iadd hx hb d_law_117 ?_
  refine va_sld hx hb hX hbl hbA hS1 hv1 d_law_118 ?_
  refine sM_type E hS1 hF1 hm1 hz hl.1 hf (fun H2 locs2 hF2 hm2 hS2 => ?_)
  refine lv_icmp_eq (tgt := 514) hx hb d_law_122 (by decide) (fun _ => ?_) (fun c9 => absurd rfl c9)
  exact K _ H2 locs2 ce sl (VS.ty hz _) hF2 hm2 hS2 (by rw [zM_ty]; exact hce) (by rw [zM_ty]; exact hsl)
theorem lc_clear (E : LE p s m meth c b L xs G) (hS : va_S (fun q => G.2.2.1 ≤ q) s.heap H locs) (hFI : FI G am a H z) (hm : MI G am H z) (hz : VS z) (hce : ce = 35 + 5 * zM z) (hsl : sl = 20370 + 487 * zM z) (hl : lv_has ls 4 [(0, .ref b), (1, .ref (a 0)), (2, .ref (am 0)), (3, .int (nI i))]) (hL : L ≤ 2048) (hi : i + 4 ≤ L) (K : ∀ z' H' locs' ce' sl', VS z' → FI G am a H' z' → MI G am H' z' → va_S (fun q => G.2.2.1 ≤ q) s.heap H' locs' → ce' = 35 + 5 * zM z' → sl' = 20370 + 487 * zM z' → WL p l e s m below meth c b H' locs' ce' sl' 514 ls []) : WL p l e s m below meth c b H locs ce sl 127 ls [] := by
  obtain ⟨⟨hx, hb, hr, hml, hown, hts, hX, hbl, hlocks, hgv⟩, hC, hB⟩ := id E
  have hbA : ¬ G.2.2.1 ≤ b := by rw [hB]; omega
  have hM9 := hz.1
  have hf : ce + 0 ≤ room_1.cells ∧ sl + 0 ≤ room_1.slots := ⟨by show ce + 0 ≤ 600000; omega, by show sl + 0 ≤ 7302250; omega⟩
  refine lv_aload_n hx hb d_law_127 rfl (lv_at hl 1 rfl) ?_
  refine sF_clear E hS hFI hm hz hl.1 hf (fun H1 locs1 hF1 hm1 hS1 => ?_)
  refine lv_aload_n hx hb d_law_131 rfl (lv_at hl 2 rfl) ?_
  refine sM_clear E hS1 hF1 hm1 hz hl.1 hf (fun H2 locs2 hF2 hm2 hS2 => ?_)
  refine lv_goto (tgt := 514) hx hb d_law_135 (by decide) ?_
  exact K _ H2 locs2 ce sl (hz.cl) hF2 hm2 hS2 hce hsl
theorem lc_read (E : LE p s m meth c b L xs G) (hS : va_S (fun q => G.2.2.1 ≤ q) s.heap H locs) (hFI : FI G am a H z) (hm : MI G am H z) (hz : VS z) (hce : ce = 35 + 5 * zM z) (hsl : sl = 20370 + 487 * zM z) (hl : lv_has ls 4 [(0, .ref b), (1, .ref (a 0)), (2, .ref (am 0)), (3, .int (nI i))]) (hL : L ≤ 2048) (hi : i + 4 ≤ L) (K : ∀ z' H' locs' ce' sl', VS z' → FI G am a H' z' → MI G am H' z' → va_S (fun q => G.2.2.1 ≤ q) s.heap H' locs' → ce' = 35 + 5 * zM z' → sl' = 20370 + 487 * zM z' → WL p l e s m below meth c b H' locs' ce' sl' 514 ls []) : WL p l e s m below meth c b H locs ce sl 138 ls [] := by
  obtain ⟨⟨hx, hb, hr, hml, hown, hts, hX, hbl, hlocks, hgv⟩, hC, hB⟩ := id E
  have hbA : ¬ G.2.2.1 ≤ b := by rw [hB]; omega
  have hM9 := hz.1
  have hf : ce + 0 ≤ room_1.cells ∧ sl + 0 ≤ room_1.slots := ⟨by show ce + 0 ≤ 600000; omega, by show sl + 0 ≤ 7302250; omega⟩
  have hv1 : vp_in (nI i + 1) L := by rw [show nI i + 1 = nI (i + 1) from nI_add i 1]; exact vp_in_nI (by omega) (by omega)
  refine lv_aload_n hx hb d_law_138 rfl (lv_at hl 1 rfl) ?_
  refine lv_aload_n hx hb d_law_139 rfl (lv_at hl 0 rfl) ?_
  refine lv_iload_n hx hb d_law_140 rfl (lv_at hl 3 rfl) ?_
  refine lv_iconst (v := 1) hx hb d_law_141 (by decide) ?_
  refine lv_iadd hx hb d_law_142 ?_
  refine va_sld hx hb hX hbl hbA hS hv1 d_law_143 ?_
  refine sF_read E hS hFI hm hz hl.1 hce hsl (fun H1 locs1 ce1 sl1 hce1 hsl1 hF1 hm1 hS1 => ?_)
  have hz1 : VS (rdS z (xs (nI i + 1).toNatClampNeg)) := VS.rd hz _
  have hM1 := hz1.1
  have hf1 : ce1 + 0 ≤ room_1.cells ∧ sl1 + 0 ≤ room_1.slots := ⟨by show ce1 + 0 ≤ 600000; omega, by show sl1 + 0 ≤ 7302250; omega⟩
  refine lv_aload_n hx hb d_law_147 rfl (lv_at hl 2 rfl) ?_
  refine lv_aload_n hx hb d_law_148 rfl (lv_at hl 0 rfl) ?_
  refine lv_iload_n hx hb d_law_149 rfl (lv_at hl 3 rfl) ?_
  refine lv_iconst (v := 1) hx hb d_law_150 (by decide) ?_
  refine lv_iadd hx hb d_law_151 ?_
  refine va_sld hx hb hX hbl hbA hS1 hv1 d_law_152 ?_
  refine sM_read E hS1 hF1 hm1 hz hl.1 hf1 (fun H2 locs2 hF2 hm2 hS2 => ?_)
  refine lv_icmp_eq (tgt := 514) hx hb d_law_156 (by decide) (fun _ => ?_) (fun c9 => absurd rfl c9)
  exact K _ H2 locs2 ce1 sl1 (VS.rd hz _) hF2 hm2 hS2 hce1 hsl1
theorem lc_scope (E : LE p s m meth c b L xs G) (hS : va_S (fun q => G.2.2.1 ≤ q) s.heap H locs) (hFI : FI G am a H z) (hm : MI G am H z) (hz : VS z) (hce : ce = 35 + 5 * zM z) (hsl : sl = 20370 + 487 * zM z) (hl : lv_has ls 4 [(0, .ref b), (1, .ref (a 0)), (2, .ref (am 0)), (3, .int (nI i))]) (hL : L ≤ 2048) (hi : i + 4 ≤ L) (K : ∀ z' H' locs' ce' sl', VS z' → FI G am a H' z' → MI G am H' z' → va_S (fun q => G.2.2.1 ≤ q) s.heap H' locs' → ce' = 35 + 5 * zM z' → sl' = 20370 + 487 * zM z' → WL p l e s m below meth c b H' locs' ce' sl' 514 ls []) : WL p l e s m below meth c b H locs ce sl 161 ls [] := by
  obtain ⟨⟨hx, hb, hr, hml, hown, hts, hX, hbl, hlocks, hgv⟩, hC, hB⟩ := id E
  have hbA : ¬ G.2.2.1 ≤ b := by rw [hB]; omega
  have hM9 := hz.1
  have hf : ce + 0 ≤ room_1.cells ∧ sl + 0 ≤ room_1.slots := ⟨by show ce + 0 ≤ 600000; omega, by show sl + 0 ≤ 7302250; omega⟩
  have hv1 : vp_in (nI i + 1) L := by rw [show nI i + 1 = nI (i + 1) from nI_add i 1]; exact vp_in_nI (by omega) (by omega)
  have hv2 : vp_in (nI i + 2) L := by rw [show nI i + 2 = nI (i + 2) from nI_add i 2]; exact vp_in_nI (by omega) (by omega)
  refine lv_aload_n hx hb d_law_161 rfl (lv_at hl 1 rfl) ?_
  refine lv_aload_n hx hb d_law_162 rfl (lv_at hl 0 rfl) ?_
  refine lv_iload_n hx hb d_law_163 rfl (lv_at hl 3 rfl) ?_
  refine lv_iconst (v := 1) hx hb d_law_164 (by decide) ?_
  refine lv_iadd hx hb d_law_165 ?_
  refine va_sld hx hb hX hbl hbA hS hv1 d_law_166 ?_
  refine lv_aload_n hx hb d_law_167 rfl (lv_at hl 0 rfl) ?_
  refine lv_iload_n hx hb d_law_168 rfl (lv_at hl 3 rfl) ?_
  refine lv_iconst (v := 2) hx hb d_law_169 (by decide) ?_
  refine lv_iadd hx hb d_law_170 ?_
  refine va_sld hx hb hX hbl hbA hS hv2 d_law_171 ?_
  refine sF_scope E hS hFI hm hz hl.1 hf (fun H1 locs1 hF1 hm1 hS1 => ?_)
  refine lv_aload_n hx hb d_law_175 rfl (lv_at hl 2 rfl) ?_
  refine lv_aload_n hx hb d_law_176 rfl (lv_at hl 0 rfl) ?_
  refine lv_iload_n hx hb d_law_177 rfl (lv_at hl 3 rfl) ?_
  refine lv_iconst (v := 1) hx hb d_law_178 (by decide) ?_
  refine lv_iadd hx hb d_law_179 ?_
  refine va_sld hx hb hX hbl hbA hS1 hv1 d_law_180 ?_
  refine lv_aload_n hx hb d_law_181 rfl (lv_at hl 0 rfl) ?_
  refine lv_iload_n hx hb d_law_182 rfl (lv_at hl 3 rfl) ?_
  refine lv_iconst (v := 2) hx hb d_law_183 (by decide) ?_
  refine lv_iadd hx hb d_law_184 ?_
  refine va_sld hx hb hX hbl hbA hS1 hv2 d_law_185 ?_
  refine sM_scope E hS1 hF1 hm1 hz hl.1 hf (fun H2 locs2 hF2 hm2 hS2 => ?_)
  refine lv_icmp_eq (tgt := 514) hx hb d_law_189 (by decide) (fun _ => ?_) (fun c9 => absurd rfl c9)
  exact K _ H2 locs2 ce sl (VS.sc hz _ _) hF2 hm2 hS2 (by rw [zM_sc]; exact hce) (by rw [zM_sc]; exact hsl)
theorem lc_kind (E : LE p s m meth c b L xs G) (hS : va_S (fun q => G.2.2.1 ≤ q) s.heap H locs) (hFI : FI G am a H z) (hm : MI G am H z) (hz : VS z) (hce : ce = 35 + 5 * zM z) (hsl : sl = 20370 + 487 * zM z) (hl : lv_has ls 4 [(0, .ref b), (1, .ref (a 0)), (2, .ref (am 0)), (3, .int (nI i))]) (hL : L ≤ 2048) (hi : i + 4 ≤ L) (K : ∀ z' H' locs' ce' sl', VS z' → FI G am a H' z' → MI G am H' z' → va_S (fun q => G.2.2.1 ≤ q) s.heap H' locs' → ce' = 35 + 5 * zM z' → sl' = 20370 + 487 * zM z' → WL p l e s m below meth c b H' locs' ce' sl' 514 ls []) : WL p l e s m below meth c b H locs ce sl 194 ls [] := by
  obtain ⟨⟨hx, hb, hr, hml, hown, hts, hX, hbl, hlocks, hgv⟩, hC, hB⟩ := id E
  have hbA : ¬ G.2.2.1 ≤ b := by rw [hB]; omega
  have hM9 := hz.1
  have hf : ce + 0 ≤ room_1.cells ∧ sl + 0 ≤ room_1.slots := ⟨by show ce + 0 ≤ 600000; omega, by show sl + 0 ≤ 7302250; omega⟩
  have hv1 : vp_in (nI i + 1) L := by rw [show nI i + 1 = nI (i + 1) from nI_add i 1]; exact vp_in_nI (by omega) (by omega)
  refine lv_aload_n hx hb d_law_194 rfl (lv_at hl 1 rfl) ?_
  refine lv_aload_n hx hb d_law_195 rfl (lv_at hl 0 rfl) ?_
  refine lv_iload_n hx hb d_law_196 rfl (lv_at hl 3 rfl) ?_
  refine lv_iconst (v := 1) hx hb d_law_197 (by decide) ?_
  refine lv_iadd hx hb d_law_198 ?_
  refine va_sld hx hb hX hbl hbA hS hv1 d_law_199 ?_
  refine sF_kind E hS hFI hm hz hl.1 hf (fun H1 locs1 hF1 hm1 hS1 => ?_)
  refine lv_aload_n hx hb d_law_203 rfl (lv_at hl 2 rfl) ?_
  refine lv_aload_n hx hb d_law_204 rfl (lv_at hl 0 rfl) ?_
  refine lv_iload_n hx hb d_law_205 rfl (lv_at hl 3 rfl) ?_
  refine lv_iconst (v := 1) hx hb d_law_206 (by decide) ?_
  refine lv_iadd hx hb d_law_207 ?_
  refine va_sld hx hb hX hbl hbA hS1 hv1 d_law_208 ?_
  refine sM_kind E hS1 hF1 hm1 hz hl.1 hf (fun H2 locs2 hF2 hm2 hS2 => ?_)
  refine lv_icmp_eq (tgt := 514) hx hb d_law_212 (by decide) (fun _ => ?_) (fun c9 => absurd rfl c9)
  exact K _ H2 locs2 ce sl (hz) hF2 hm2 hS2 hce hsl
theorem lc_text (E : LE p s m meth c b L xs G) (hS : va_S (fun q => G.2.2.1 ≤ q) s.heap H locs) (hFI : FI G am a H z) (hm : MI G am H z) (hz : VS z) (hce : ce = 35 + 5 * zM z) (hsl : sl = 20370 + 487 * zM z) (hl : lv_has ls 4 [(0, .ref b), (1, .ref (a 0)), (2, .ref (am 0)), (3, .int (nI i))]) (hL : L ≤ 2048) (hi : i + 4 ≤ L) (K : ∀ z' H' locs' ce' sl', VS z' → FI G am a H' z' → MI G am H' z' → va_S (fun q => G.2.2.1 ≤ q) s.heap H' locs' → ce' = 35 + 5 * zM z' → sl' = 20370 + 487 * zM z' → WL p l e s m below meth c b H' locs' ce' sl' 514 ls []) : WL p l e s m below meth c b H locs ce sl 217 ls [] := by
  obtain ⟨⟨hx, hb, hr, hml, hown, hts, hX, hbl, hlocks, hgv⟩, hC, hB⟩ := id E
  have hbA : ¬ G.2.2.1 ≤ b := by rw [hB]; omega
  have hM9 := hz.1
  have hf : ce + 0 ≤ room_1.cells ∧ sl + 0 ≤ room_1.slots := ⟨by show ce + 0 ≤ 600000; omega, by show sl + 0 ≤ 7302250; omega⟩
  have hv1 : vp_in (nI i + 1) L := by rw [show nI i + 1 = nI (i + 1) from nI_add i 1]; exact vp_in_nI (by omega) (by omega)
  have hv2 : vp_in (nI i + 2) L := by rw [show nI i + 2 = nI (i + 2) from nI_add i 2]; exact vp_in_nI (by omega) (by omega)
  have hv3 : vp_in (nI i + 3) L := by rw [show nI i + 3 = nI (i + 3) from nI_add i 3]; exact vp_in_nI (by omega) (by omega)
  refine lv_aload_n hx hb d_law_217 rfl (lv_at hl 1 rfl) ?_
  refine lv_aload_n hx hb d_law_218 rfl (lv_at hl 0 rfl) ?_
  refine lv_iload_n hx hb d_law_219 rfl (lv_at hl 3 rfl) ?_
  refine lv_iconst (v := 1) hx hb d_law_220 (by decide) ?_
  refine lv_iadd hx hb d_law_221 ?_
  refine va_sld hx hb hX hbl hbA hS hv1 d_law_222 ?_
  refine lv_aload_n hx hb d_law_223 rfl (lv_at hl 0 rfl) ?_
  refine lv_iload_n hx hb d_law_224 rfl (lv_at hl 3 rfl) ?_
  refine lv_iconst (v := 2) hx hb d_law_225 (by decide) ?_
  refine lv_iadd hx hb d_law_226 ?_
  refine va_sld hx hb hX hbl hbA hS hv2 d_law_227 ?_
  refine lv_aload_n hx hb d_law_228 rfl (lv_at hl 0 rfl) ?_
  refine lv_iload_n hx hb d_law_229 rfl (lv_at hl 3 rfl) ?_
  refine lv_iconst (v := 3) hx hb d_law_230 (by decide) ?_
  refine lv_iadd hx hb d_law_231 ?_
  refine va_sld hx hb hX hbl hbA hS hv3 d_law_232 ?_
  refine sF_text E hS hFI hm hz hl.1 hf (fun H1 locs1 hF1 hm1 hS1 => ?_)
  refine lv_aload_n hx hb d_law_236 rfl (lv_at hl 2 rfl) ?_
  refine lv_aload_n hx hb d_law_237 rfl (lv_at hl 0 rfl) ?_
  refine lv_iload_n hx hb d_law_238 rfl (lv_at hl 3 rfl) ?_
  refine lv_iconst (v := 1) hx hb d_law_239 (by decide) ?_
  refine lv_iadd hx hb d_law_240 ?_
  refine va_sld hx hb hX hbl hbA hS1 hv1 d_law_241 ?_
  refine lv_aload_n hx hb d_law_242 rfl (lv_at hl 0 rfl) ?_
  refine lv_iload_n hx hb d_law_243 rfl (lv_at hl 3 rfl) ?_
  refine lv_iconst (v := 2) hx hb d_law_244 (by decide) ?_
  refine lv_iadd hx hb d_law_245 ?_
  refine va_sld hx hb hX hbl hbA hS1 hv2 d_law_246 ?_
  refine lv_aload_n hx hb d_law_247 rfl (lv_at hl 0 rfl) ?_
  refine lv_iload_n hx hb d_law_248 rfl (lv_at hl 3 rfl) ?_
  refine lv_iconst (v := 3) hx hb d_law_249 (by decide) ?_
  refine lv_iadd hx hb d_law_250 ?_
  refine va_sld hx hb hX hbl hbA hS1 hv3 d_law_251 ?_
  refine sM_text E hS1 hF1 hm1 hz hl.1 hf (fun H2 locs2 hF2 hm2 hS2 => ?_)
  refine lv_icmp_eq (tgt := 514) hx hb d_law_255 (by decide) (fun _ => ?_) (fun c9 => absurd rfl c9)
  exact K _ H2 locs2 ce sl (hz) hF2 hm2 hS2 hce hsl
theorem lc_length (E : LE p s m meth c b L xs G) (hS : va_S (fun q => G.2.2.1 ≤ q) s.heap H locs) (hFI : FI G am a H z) (hm : MI G am H z) (hz : VS z) (hce : ce = 35 + 5 * zM z) (hsl : sl = 20370 + 487 * zM z) (hl : lv_has ls 4 [(0, .ref b), (1, .ref (a 0)), (2, .ref (am 0)), (3, .int (nI i))]) (hL : L ≤ 2048) (hi : i + 4 ≤ L) (K : ∀ z' H' locs' ce' sl', VS z' → FI G am a H' z' → MI G am H' z' → va_S (fun q => G.2.2.1 ≤ q) s.heap H' locs' → ce' = 35 + 5 * zM z' → sl' = 20370 + 487 * zM z' → WL p l e s m below meth c b H' locs' ce' sl' 514 ls []) : WL p l e s m below meth c b H locs ce sl 260 ls [] := by
  obtain ⟨⟨hx, hb, hr, hml, hown, hts, hX, hbl, hlocks, hgv⟩, hC, hB⟩ := id E
  have hbA : ¬ G.2.2.1 ≤ b := by rw [hB]; omega
  have hM9 := hz.1
  have hf : ce + 0 ≤ room_1.cells ∧ sl + 0 ≤ room_1.slots := ⟨by show ce + 0 ≤ 600000; omega, by show sl + 0 ≤ 7302250; omega⟩
  have hv1 : vp_in (nI i + 1) L := by rw [show nI i + 1 = nI (i + 1) from nI_add i 1]; exact vp_in_nI (by omega) (by omega)
  have hv2 : vp_in (nI i + 2) L := by rw [show nI i + 2 = nI (i + 2) from nI_add i 2]; exact vp_in_nI (by omega) (by omega)
  refine lv_aload_n hx hb d_law_260 rfl (lv_at hl 1 rfl) ?_
  refine lv_aload_n hx hb d_law_261 rfl (lv_at hl 0 rfl) ?_
  refine lv_iload_n hx hb d_law_262 rfl (lv_at hl 3 rfl) ?_
  refine lv_iconst (v := 1) hx hb d_law_263 (by decide) ?_
  refine lv_iadd hx hb d_law_264 ?_
  refine va_sld hx hb hX hbl hbA hS hv1 d_law_265 ?_
  refine lv_aload_n hx hb d_law_266 rfl (lv_at hl 0 rfl) ?_
  refine lv_iload_n hx hb d_law_267 rfl (lv_at hl 3 rfl) ?_
  refine lv_iconst (v := 2) hx hb d_law_268 (by decide) ?_
  refine lv_iadd hx hb d_law_269 ?_
  refine va_sld hx hb hX hbl hbA hS hv2 d_law_270 ?_
  refine sF_length E hS hFI hm hz hl.1 hf (fun H1 locs1 hF1 hm1 hS1 => ?_)
  refine lv_aload_n hx hb d_law_274 rfl (lv_at hl 2 rfl) ?_
  refine lv_aload_n hx hb d_law_275 rfl (lv_at hl 0 rfl) ?_
  refine lv_iload_n hx hb d_law_276 rfl (lv_at hl 3 rfl) ?_
  refine lv_iconst (v := 1) hx hb d_law_277 (by decide) ?_
  refine lv_iadd hx hb d_law_278 ?_
  refine va_sld hx hb hX hbl hbA hS1 hv1 d_law_279 ?_
  refine lv_aload_n hx hb d_law_280 rfl (lv_at hl 0 rfl) ?_
  refine lv_iload_n hx hb d_law_281 rfl (lv_at hl 3 rfl) ?_
  refine lv_iconst (v := 2) hx hb d_law_282 (by decide) ?_
  refine lv_iadd hx hb d_law_283 ?_
  refine va_sld hx hb hX hbl hbA hS1 hv2 d_law_284 ?_
  refine sM_length E hS1 hF1 hm1 hz hl.1 hf (fun H2 locs2 hF2 hm2 hS2 => ?_)
  refine lv_icmp_eq (tgt := 514) hx hb d_law_288 (by decide) (fun _ => ?_) (fun c9 => absurd rfl c9)
  exact K _ H2 locs2 ce sl (hz) hF2 hm2 hS2 hce hsl
theorem lc_alike (E : LE p s m meth c b L xs G) (hS : va_S (fun q => G.2.2.1 ≤ q) s.heap H locs) (hFI : FI G am a H z) (hm : MI G am H z) (hz : VS z) (hce : ce = 35 + 5 * zM z) (hsl : sl = 20370 + 487 * zM z) (hl : lv_has ls 4 [(0, .ref b), (1, .ref (a 0)), (2, .ref (am 0)), (3, .int (nI i))]) (hL : L ≤ 2048) (hi : i + 4 ≤ L) (K : ∀ z' H' locs' ce' sl', VS z' → FI G am a H' z' → MI G am H' z' → va_S (fun q => G.2.2.1 ≤ q) s.heap H' locs' → ce' = 35 + 5 * zM z' → sl' = 20370 + 487 * zM z' → WL p l e s m below meth c b H' locs' ce' sl' 514 ls []) : WL p l e s m below meth c b H locs ce sl 293 ls [] := by
  obtain ⟨⟨hx, hb, hr, hml, hown, hts, hX, hbl, hlocks, hgv⟩, hC, hB⟩ := id E
  have hbA : ¬ G.2.2.1 ≤ b := by rw [hB]; omega
  have hM9 := hz.1
  have hf : ce + 0 ≤ room_1.cells ∧ sl + 0 ≤ room_1.slots := ⟨by show ce + 0 ≤ 600000; omega, by show sl + 0 ≤ 7302250; omega⟩
  have hv1 : vp_in (nI i + 1) L := by rw [show nI i + 1 = nI (i + 1) from nI_add i 1]; exact vp_in_nI (by omega) (by omega)
  have hv2 : vp_in (nI i + 2) L := by rw [show nI i + 2 = nI (i + 2) from nI_add i 2]; exact vp_in_nI (by omega) (by omega)
  refine lv_aload_n hx hb d_law_293 rfl (lv_at hl 1 rfl) ?_
  refine lv_aload_n hx hb d_law_294 rfl (lv_at hl 0 rfl) ?_
  refine lv_iload_n hx hb d_law_295 rfl (lv_at hl 3 rfl) ?_
  refine lv_iconst (v := 1) hx hb d_law_296 (by decide) ?_
  refine lv_iadd hx hb d_law_297 ?_
  refine va_sld hx hb hX hbl hbA hS hv1 d_law_298 ?_
  refine lv_aload_n hx hb d_law_299 rfl (lv_at hl 0 rfl) ?_
  refine lv_iload_n hx hb d_law_300 rfl (lv_at hl 3 rfl) ?_
  refine lv_iconst (v := 2) hx hb d_law_301 (by decide) ?_
  refine lv_iadd hx hb d_law_302 ?_
  refine va_sld hx hb hX hbl hbA hS hv2 d_law_303 ?_
  refine sF_alike E hS hFI hm hz hl.1 hf (fun H1 locs1 hF1 hm1 hS1 => ?_)
  refine lv_aload_n hx hb d_law_307 rfl (lv_at hl 2 rfl) ?_
  refine lv_aload_n hx hb d_law_308 rfl (lv_at hl 0 rfl) ?_
  refine lv_iload_n hx hb d_law_309 rfl (lv_at hl 3 rfl) ?_
  refine lv_iconst (v := 1) hx hb d_law_310 (by decide) ?_
  refine lv_iadd hx hb d_law_311 ?_
  refine va_sld hx hb hX hbl hbA hS1 hv1 d_law_312 ?_
  refine lv_aload_n hx hb d_law_313 rfl (lv_at hl 0 rfl) ?_
  refine lv_iload_n hx hb d_law_314 rfl (lv_at hl 3 rfl) ?_
  refine lv_iconst (v := 2) hx hb d_law_315 (by decide) ?_
  refine lv_iadd hx hb d_law_316 ?_
  refine va_sld hx hb hX hbl hbA hS1 hv2 d_law_317 ?_
  refine sM_alike E hS1 hF1 hm1 hz hl.1 hf (fun H2 locs2 hF2 hm2 hS2 => ?_)
  refine lv_icmp_eq (tgt := 514) hx hb d_law_321 (by decide) (fun _ => ?_) (fun c9 => absurd rfl c9)
  exact K _ H2 locs2 ce sl (hz) hF2 hm2 hS2 hce hsl
theorem lc_clash (E : LE p s m meth c b L xs G) (hS : va_S (fun q => G.2.2.1 ≤ q) s.heap H locs) (hFI : FI G am a H z) (hm : MI G am H z) (hz : VS z) (hce : ce = 35 + 5 * zM z) (hsl : sl = 20370 + 487 * zM z) (hl : lv_has ls 4 [(0, .ref b), (1, .ref (a 0)), (2, .ref (am 0)), (3, .int (nI i))]) (hL : L ≤ 2048) (hi : i + 4 ≤ L) (K : ∀ z' H' locs' ce' sl', VS z' → FI G am a H' z' → MI G am H' z' → va_S (fun q => G.2.2.1 ≤ q) s.heap H' locs' → ce' = 35 + 5 * zM z' → sl' = 20370 + 487 * zM z' → WL p l e s m below meth c b H' locs' ce' sl' 514 ls []) : WL p l e s m below meth c b H locs ce sl 326 ls [] := by
  obtain ⟨⟨hx, hb, hr, hml, hown, hts, hX, hbl, hlocks, hgv⟩, hC, hB⟩ := id E
  have hbA : ¬ G.2.2.1 ≤ b := by rw [hB]; omega
  have hM9 := hz.1
  have hf : ce + 0 ≤ room_1.cells ∧ sl + 0 ≤ room_1.slots := ⟨by show ce + 0 ≤ 600000; omega, by show sl + 0 ≤ 7302250; omega⟩
  have hv1 : vp_in (nI i + 1) L := by rw [show nI i + 1 = nI (i + 1) from nI_add i 1]; exact vp_in_nI (by omega) (by omega)
  have hv2 : vp_in (nI i + 2) L := by rw [show nI i + 2 = nI (i + 2) from nI_add i 2]; exact vp_in_nI (by omega) (by omega)
  refine lv_aload_n hx hb d_law_326 rfl (lv_at hl 1 rfl) ?_
  refine lv_aload_n hx hb d_law_327 rfl (lv_at hl 0 rfl) ?_
  refine lv_iload_n hx hb d_law_328 rfl (lv_at hl 3 rfl) ?_
  refine lv_iconst (v := 1) hx hb d_law_329 (by decide) ?_
  refine lv_iadd hx hb d_law_330 ?_
  refine va_sld hx hb hX hbl hbA hS hv1 d_law_331 ?_
  refine lv_aload_n hx hb d_law_332 rfl (lv_at hl 0 rfl) ?_
  refine lv_iload_n hx hb d_law_333 rfl (lv_at hl 3 rfl) ?_
  refine lv_iconst (v := 2) hx hb d_law_334 (by decide) ?_
  refine lv_iadd hx hb d_law_335 ?_
  refine va_sld hx hb hX hbl hbA hS hv2 d_law_336 ?_
  refine sF_clash E hS hFI hm hz hl.1 hf (fun H1 locs1 hF1 hm1 hS1 => ?_)
  refine lv_aload_n hx hb d_law_340 rfl (lv_at hl 2 rfl) ?_
  refine lv_aload_n hx hb d_law_341 rfl (lv_at hl 0 rfl) ?_
  refine lv_iload_n hx hb d_law_342 rfl (lv_at hl 3 rfl) ?_
  refine lv_iconst (v := 1) hx hb d_law_343 (by decide) ?_
  refine lv_iadd hx hb d_law_344 ?_
  refine va_sld hx hb hX hbl hbA hS1 hv1 d_law_345 ?_
  refine lv_aload_n hx hb d_law_346 rfl (lv_at hl 0 rfl) ?_
  refine lv_iload_n hx hb d_law_347 rfl (lv_at hl 3 rfl) ?_
  refine lv_iconst (v := 2) hx hb d_law_348 (by decide) ?_
  refine lv_iadd hx hb d_law_349 ?_
  refine va_sld hx hb hX hbl hbA hS1 hv2 d_law_350 ?_
  refine sM_clash E hS1 hF1 hm1 hz hl.1 hf (fun H2 locs2 hF2 hm2 hS2 => ?_)
  refine lv_icmp_eq (tgt := 514) hx hb d_law_354 (by decide) (fun _ => ?_) (fun c9 => absurd rfl c9)
  exact K _ H2 locs2 ce sl (hz) hF2 hm2 hS2 hce hsl
theorem lc_fill (E : LE p s m meth c b L xs G) (hS : va_S (fun q => G.2.2.1 ≤ q) s.heap H locs) (hFI : FI G am a H z) (hm : MI G am H z) (hz : VS z) (hce : ce = 35 + 5 * zM z) (hsl : sl = 20370 + 487 * zM z) (hl : lv_has ls 4 [(0, .ref b), (1, .ref (a 0)), (2, .ref (am 0)), (3, .int (nI i))]) (hL : L ≤ 2048) (hi : i + 4 ≤ L) (K : ∀ z' H' locs' ce' sl', VS z' → FI G am a H' z' → MI G am H' z' → va_S (fun q => G.2.2.1 ≤ q) s.heap H' locs' → ce' = 35 + 5 * zM z' → sl' = 20370 + 487 * zM z' → WL p l e s m below meth c b H' locs' ce' sl' 514 ls []) : WL p l e s m below meth c b H locs ce sl 359 ls [] := by
  obtain ⟨⟨hx, hb, hr, hml, hown, hts, hX, hbl, hlocks, hgv⟩, hC, hB⟩ := id E
  have hbA : ¬ G.2.2.1 ≤ b := by rw [hB]; omega
  have hM9 := hz.1
  have hf : ce + 0 ≤ room_1.cells ∧ sl + 0 ≤ room_1.slots := ⟨by show ce + 0 ≤ 600000; omega, by show sl + 0 ≤ 7302250; omega⟩
  have hv1 : vp_in (nI i + 1) L := by rw [show nI i + 1 = nI (i + 1) from nI_add i 1]; exact vp_in_nI (by omega) (by omega)
  have hv2 : vp_in (nI i + 2) L := by rw [show nI i + 2 = nI (i + 2) from nI_add i 2]; exact vp_in_nI (by omega) (by omega)
  have hv3 : vp_in (nI i + 3) L := by rw [show nI i + 3 = nI (i + 3) from nI_add i 3]; exact vp_in_nI (by omega) (by omega)
  refine lv_aload_n hx hb d_law_359 rfl (lv_at hl 1 rfl) ?_
  refine lv_aload_n hx hb d_law_360 rfl (lv_at hl 0 rfl) ?_
  refine lv_iload_n hx hb d_law_361 rfl (lv_at hl 3 rfl) ?_
  refine lv_iconst (v := 1) hx hb d_law_362 (by decide) ?_
  refine lv_iadd hx hb d_law_363 ?_
  refine va_sld hx hb hX hbl hbA hS hv1 d_law_364 ?_
  refine lv_aload_n hx hb d_law_365 rfl (lv_at hl 0 rfl) ?_
  refine lv_iload_n hx hb d_law_366 rfl (lv_at hl 3 rfl) ?_
  refine lv_iconst (v := 2) hx hb d_law_367 (by decide) ?_
  refine lv_iadd hx hb d_law_368 ?_
  refine va_sld hx hb hX hbl hbA hS hv2 d_law_369 ?_
  refine lv_aload_n hx hb d_law_370 rfl (lv_at hl 0 rfl) ?_
  refine lv_iload_n hx hb d_law_371 rfl (lv_at hl 3 rfl) ?_
  refine lv_iconst (v := 3) hx hb d_law_372 (by decide) ?_
  refine lv_iadd hx hb d_law_373 ?_
  refine va_sld hx hb hX hbl hbA hS hv3 d_law_374 ?_
  refine sF_fill E hS hFI hm hz hl.1 hce hsl (fun H1 locs1 ce1 sl1 hce1 hsl1 hF1 hm1 hS1 => ?_)
  have hz1 : VS (flS z (xs (nI i + 1).toNatClampNeg) (xs (nI i + 2).toNatClampNeg) (xs (nI i + 3).toNatClampNeg)) := VS.fl hz _ _ _
  have hM1 := hz1.1
  have hf1 : ce1 + 0 ≤ room_1.cells ∧ sl1 + 0 ≤ room_1.slots := ⟨by show ce1 + 0 ≤ 600000; omega, by show sl1 + 0 ≤ 7302250; omega⟩
  refine lv_aload_n hx hb d_law_378 rfl (lv_at hl 2 rfl) ?_
  refine lv_aload_n hx hb d_law_379 rfl (lv_at hl 0 rfl) ?_
  refine lv_iload_n hx hb d_law_380 rfl (lv_at hl 3 rfl) ?_
  refine lv_iconst (v := 1) hx hb d_law_381 (by decide) ?_
  refine lv_iadd hx hb d_law_382 ?_
  refine va_sld hx hb hX hbl hbA hS1 hv1 d_law_383 ?_
  refine lv_aload_n hx hb d_law_384 rfl (lv_at hl 0 rfl) ?_
  refine lv_iload_n hx hb d_law_385 rfl (lv_at hl 3 rfl) ?_
  refine lv_iconst (v := 2) hx hb d_law_386 (by decide) ?_
  refine lv_iadd hx hb d_law_387 ?_
  refine va_sld hx hb hX hbl hbA hS1 hv2 d_law_388 ?_
  refine lv_aload_n hx hb d_law_389 rfl (lv_at hl 0 rfl) ?_
  refine lv_iload_n hx hb d_law_390 rfl (lv_at hl 3 rfl) ?_
  refine lv_iconst (v := 3) hx hb d_law_391 (by decide) ?_
  refine lv_iadd hx hb d_law_392 ?_
  refine va_sld hx hb hX hbl hbA hS1 hv3 d_law_393 ?_
  refine sM_fill E hS1 hF1 hm1 hz hl.1 hf1 (fun H2 locs2 hF2 hm2 hS2 => ?_)
  refine lv_icmp_eq (tgt := 514) hx hb d_law_397 (by decide) (fun _ => ?_) (fun c9 => absurd rfl c9)
  exact K _ H2 locs2 ce1 sl1 (VS.fl hz _ _ _) hF2 hm2 hS2 hce1 hsl1
theorem lc_parameters (E : LE p s m meth c b L xs G) (hS : va_S (fun q => G.2.2.1 ≤ q) s.heap H locs) (hFI : FI G am a H z) (hm : MI G am H z) (hz : VS z) (hce : ce = 35 + 5 * zM z) (hsl : sl = 20370 + 487 * zM z) (hl : lv_has ls 4 [(0, .ref b), (1, .ref (a 0)), (2, .ref (am 0)), (3, .int (nI i))]) (hL : L ≤ 2048) (hi : i + 4 ≤ L) (K : ∀ z' H' locs' ce' sl', VS z' → FI G am a H' z' → MI G am H' z' → va_S (fun q => G.2.2.1 ≤ q) s.heap H' locs' → ce' = 35 + 5 * zM z' → sl' = 20370 + 487 * zM z' → WL p l e s m below meth c b H' locs' ce' sl' 514 ls []) : WL p l e s m below meth c b H locs ce sl 402 ls [] := by
  obtain ⟨⟨hx, hb, hr, hml, hown, hts, hX, hbl, hlocks, hgv⟩, hC, hB⟩ := id E
  have hbA : ¬ G.2.2.1 ≤ b := by rw [hB]; omega
  have hM9 := hz.1
  have hf : ce + 0 ≤ room_1.cells ∧ sl + 0 ≤ room_1.slots := ⟨by show ce + 0 ≤ 600000; omega, by show sl + 0 ≤ 7302250; omega⟩
  have hv1 : vp_in (nI i + 1) L := by rw [show nI i + 1 = nI (i + 1) from nI_add i 1]; exact vp_in_nI (by omega) (by omega)
  refine lv_aload_n hx hb d_law_402 rfl (lv_at hl 1 rfl) ?_
  refine lv_aload_n hx hb d_law_403 rfl (lv_at hl 0 rfl) ?_
  refine lv_iload_n hx hb d_law_404 rfl (lv_at hl 3 rfl) ?_
  refine lv_iconst (v := 1) hx hb d_law_405 (by decide) ?_
  refine lv_iadd hx hb d_law_406 ?_
  refine va_sld hx hb hX hbl hbA hS hv1 d_law_407 ?_
  refine sF_parameters E hS hFI hm hz hl.1 hf (fun H1 locs1 hF1 hm1 hS1 => ?_)
  refine lv_aload_n hx hb d_law_411 rfl (lv_at hl 2 rfl) ?_
  refine lv_aload_n hx hb d_law_412 rfl (lv_at hl 0 rfl) ?_
  refine lv_iload_n hx hb d_law_413 rfl (lv_at hl 3 rfl) ?_
  refine lv_iconst (v := 1) hx hb d_law_414 (by decide) ?_
  refine lv_iadd hx hb d_law_415 ?_
  refine va_sld hx hb hX hbl hbA hS1 hv1 d_law_416 ?_
  refine sM_parameters E hS1 hF1 hm1 hz hl.1 hf (fun H2 locs2 hF2 hm2 hS2 => ?_)
  refine lv_icmp_eq (tgt := 514) hx hb d_law_420 (by decide) (fun _ => ?_) (fun c9 => absurd rfl c9)
  exact K _ H2 locs2 ce sl (hz) hF2 hm2 hS2 hce hsl
theorem lc_bounds (E : LE p s m meth c b L xs G) (hS : va_S (fun q => G.2.2.1 ≤ q) s.heap H locs) (hFI : FI G am a H z) (hm : MI G am H z) (hz : VS z) (hce : ce = 35 + 5 * zM z) (hsl : sl = 20370 + 487 * zM z) (hl : lv_has ls 4 [(0, .ref b), (1, .ref (a 0)), (2, .ref (am 0)), (3, .int (nI i))]) (hL : L ≤ 2048) (hi : i + 4 ≤ L) (K : ∀ z' H' locs' ce' sl', VS z' → FI G am a H' z' → MI G am H' z' → va_S (fun q => G.2.2.1 ≤ q) s.heap H' locs' → ce' = 35 + 5 * zM z' → sl' = 20370 + 487 * zM z' → WL p l e s m below meth c b H' locs' ce' sl' 514 ls []) : WL p l e s m below meth c b H locs ce sl 425 ls [] := by
  obtain ⟨⟨hx, hb, hr, hml, hown, hts, hX, hbl, hlocks, hgv⟩, hC, hB⟩ := id E
  have hbA : ¬ G.2.2.1 ≤ b := by rw [hB]; omega
  have hM9 := hz.1
  have hf : ce + 0 ≤ room_1.cells ∧ sl + 0 ≤ room_1.slots := ⟨by show ce + 0 ≤ 600000; omega, by show sl + 0 ≤ 7302250; omega⟩
  have hv1 : vp_in (nI i + 1) L := by rw [show nI i + 1 = nI (i + 1) from nI_add i 1]; exact vp_in_nI (by omega) (by omega)
  have hv2 : vp_in (nI i + 2) L := by rw [show nI i + 2 = nI (i + 2) from nI_add i 2]; exact vp_in_nI (by omega) (by omega)
  refine lv_aload_n hx hb d_law_425 rfl (lv_at hl 1 rfl) ?_
  refine lv_aload_n hx hb d_law_426 rfl (lv_at hl 0 rfl) ?_
  refine lv_iload_n hx hb d_law_427 rfl (lv_at hl 3 rfl) ?_
  refine lv_iconst (v := 1) hx hb d_law_428 (by decide) ?_
  refine lv_iadd hx hb d_law_429 ?_
  refine va_sld hx hb hX hbl hbA hS hv1 d_law_430 ?_
  refine lv_aload_n hx hb d_law_431 rfl (lv_at hl 0 rfl) ?_
  refine lv_iload_n hx hb d_law_432 rfl (lv_at hl 3 rfl) ?_
  refine lv_iconst (v := 2) hx hb d_law_433 (by decide) ?_
  refine lv_iadd hx hb d_law_434 ?_
  refine va_sld hx hb hX hbl hbA hS hv2 d_law_435 ?_
  refine sF_bounds E hS hFI hm hz hl.1 hf (fun H1 locs1 hF1 hm1 hS1 => ?_)
  refine lv_aload_n hx hb d_law_439 rfl (lv_at hl 2 rfl) ?_
  refine lv_aload_n hx hb d_law_440 rfl (lv_at hl 0 rfl) ?_
  refine lv_iload_n hx hb d_law_441 rfl (lv_at hl 3 rfl) ?_
  refine lv_iconst (v := 1) hx hb d_law_442 (by decide) ?_
  refine lv_iadd hx hb d_law_443 ?_
  refine va_sld hx hb hX hbl hbA hS1 hv1 d_law_444 ?_
  refine lv_aload_n hx hb d_law_445 rfl (lv_at hl 0 rfl) ?_
  refine lv_iload_n hx hb d_law_446 rfl (lv_at hl 3 rfl) ?_
  refine lv_iconst (v := 2) hx hb d_law_447 (by decide) ?_
  refine lv_iadd hx hb d_law_448 ?_
  refine va_sld hx hb hX hbl hbA hS1 hv2 d_law_449 ?_
  refine sM_bounds E hS1 hF1 hm1 hz hl.1 hf (fun H2 locs2 hF2 hm2 hS2 => ?_)
  refine lv_icmp_eq (tgt := 514) hx hb d_law_453 (by decide) (fun _ => ?_) (fun c9 => absurd rfl c9)
  exact K _ H2 locs2 ce sl (hz) hF2 hm2 hS2 hce hsl
theorem lc_measure (E : LE p s m meth c b L xs G) (hS : va_S (fun q => G.2.2.1 ≤ q) s.heap H locs) (hFI : FI G am a H z) (hm : MI G am H z) (hz : VS z) (hce : ce = 35 + 5 * zM z) (hsl : sl = 20370 + 487 * zM z) (hl : lv_has ls 4 [(0, .ref b), (1, .ref (a 0)), (2, .ref (am 0)), (3, .int (nI i))]) (hL : L ≤ 2048) (hi : i + 4 ≤ L) (K : ∀ z' H' locs' ce' sl', VS z' → FI G am a H' z' → MI G am H' z' → va_S (fun q => G.2.2.1 ≤ q) s.heap H' locs' → ce' = 35 + 5 * zM z' → sl' = 20370 + 487 * zM z' → WL p l e s m below meth c b H' locs' ce' sl' 514 ls []) : WL p l e s m below meth c b H locs ce sl 458 ls [] := by
  obtain ⟨⟨hx, hb, hr, hml, hown, hts, hX, hbl, hlocks, hgv⟩, hC, hB⟩ := id E
  have hbA : ¬ G.2.2.1 ≤ b := by rw [hB]; omega
  have hM9 := hz.1
  have hf : ce + 0 ≤ room_1.cells ∧ sl + 0 ≤ room_1.slots := ⟨by show ce + 0 ≤ 600000; omega, by show sl + 0 ≤ 7302250; omega⟩
  have hv1 : vp_in (nI i + 1) L := by rw [show nI i + 1 = nI (i + 1) from nI_add i 1]; exact vp_in_nI (by omega) (by omega)
  have hv2 : vp_in (nI i + 2) L := by rw [show nI i + 2 = nI (i + 2) from nI_add i 2]; exact vp_in_nI (by omega) (by omega)
  refine lv_aload_n hx hb d_law_458 rfl (lv_at hl 1 rfl) ?_
  refine lv_aload_n hx hb d_law_459 rfl (lv_at hl 0 rfl) ?_
  refine lv_iload_n hx hb d_law_460 rfl (lv_at hl 3 rfl) ?_
  refine lv_iconst (v := 1) hx hb d_law_461 (by decide) ?_
  refine lv_iadd hx hb d_law_462 ?_
  refine va_sld hx hb hX hbl hbA hS hv1 d_law_463 ?_
  refine lv_aload_n hx hb d_law_464 rfl (lv_at hl 0 rfl) ?_
  refine lv_iload_n hx hb d_law_465 rfl (lv_at hl 3 rfl) ?_
  refine lv_iconst (v := 2) hx hb d_law_466 (by decide) ?_
  refine lv_iadd hx hb d_law_467 ?_
  refine va_sld hx hb hX hbl hbA hS hv2 d_law_468 ?_
  refine sF_measure E hS hFI hm hz hl.1 hf (fun H1 locs1 hF1 hm1 hS1 => ?_)
  refine lv_aload_n hx hb d_law_472 rfl (lv_at hl 2 rfl) ?_
  refine lv_aload_n hx hb d_law_473 rfl (lv_at hl 0 rfl) ?_
  refine lv_iload_n hx hb d_law_474 rfl (lv_at hl 3 rfl) ?_
  refine lv_iconst (v := 1) hx hb d_law_475 (by decide) ?_
  refine lv_iadd hx hb d_law_476 ?_
  refine va_sld hx hb hX hbl hbA hS1 hv1 d_law_477 ?_
  refine lv_aload_n hx hb d_law_478 rfl (lv_at hl 0 rfl) ?_
  refine lv_iload_n hx hb d_law_479 rfl (lv_at hl 3 rfl) ?_
  refine lv_iconst (v := 2) hx hb d_law_480 (by decide) ?_
  refine lv_iadd hx hb d_law_481 ?_
  refine va_sld hx hb hX hbl hbA hS1 hv2 d_law_482 ?_
  refine sM_measure E hS1 hF1 hm1 hz hl.1 hf (fun H2 locs2 hF2 hm2 hS2 => ?_)
  refine lv_icmp_eq (tgt := 514) hx hb d_law_486 (by decide) (fun _ => ?_) (fun c9 => absurd rfl c9)
  exact K _ H2 locs2 ce sl (hz) hF2 hm2 hS2 hce hsl
theorem lc_count (E : LE p s m meth c b L xs G) (hS : va_S (fun q => G.2.2.1 ≤ q) s.heap H locs) (hFI : FI G am a H z) (hm : MI G am H z) (hz : VS z) (hce : ce = 35 + 5 * zM z) (hsl : sl = 20370 + 487 * zM z) (hl : lv_has ls 4 [(0, .ref b), (1, .ref (a 0)), (2, .ref (am 0)), (3, .int (nI i))]) (hL : L ≤ 2048) (hi : i + 4 ≤ L) (K : ∀ z' H' locs' ce' sl', VS z' → FI G am a H' z' → MI G am H' z' → va_S (fun q => G.2.2.1 ≤ q) s.heap H' locs' → ce' = 35 + 5 * zM z' → sl' = 20370 + 487 * zM z' → WL p l e s m below meth c b H' locs' ce' sl' 514 ls []) : WL p l e s m below meth c b H locs ce sl 491 ls [] := by
  obtain ⟨⟨hx, hb, hr, hml, hown, hts, hX, hbl, hlocks, hgv⟩, hC, hB⟩ := id E
  have hbA : ¬ G.2.2.1 ≤ b := by rw [hB]; omega
  have hM9 := hz.1
  have hf : ce + 0 ≤ room_1.cells ∧ sl + 0 ≤ room_1.slots := ⟨by show ce + 0 ≤ 600000; omega, by show sl + 0 ≤ 7302250; omega⟩
  have hv1 : vp_in (nI i + 1) L := by rw [show nI i + 1 = nI (i + 1) from nI_add i 1]; exact vp_in_nI (by omega) (by omega)
  refine lv_aload_n hx hb d_law_491 rfl (lv_at hl 1 rfl) ?_
  refine lv_aload_n hx hb d_law_492 rfl (lv_at hl 0 rfl) ?_
  refine lv_iload_n hx hb d_law_493 rfl (lv_at hl 3 rfl) ?_
  refine lv_iconst (v := 1) hx hb d_law_494 (by decide) ?_
  refine lv_iadd hx hb d_law_495 ?_
  refine va_sld hx hb hX hbl hbA hS hv1 d_law_496 ?_
  refine sF_count E hS hFI hm hz hl.1 hf (fun H1 locs1 hF1 hm1 hS1 => ?_)
  refine lv_aload_n hx hb d_law_500 rfl (lv_at hl 2 rfl) ?_
  refine lv_aload_n hx hb d_law_501 rfl (lv_at hl 0 rfl) ?_
  refine lv_iload_n hx hb d_law_502 rfl (lv_at hl 3 rfl) ?_
  refine lv_iconst (v := 1) hx hb d_law_503 (by decide) ?_
  refine lv_iadd hx hb d_law_504 ?_
  refine va_sld hx hb hX hbl hbA hS1 hv1 d_law_505 ?_
  refine sM_count E hS1 hF1 hm1 hz hl.1 hf (fun H2 locs2 hF2 hm2 hS2 => ?_)
  refine lv_icmp_eq (tgt := 514) hx hb d_law_509 (by decide) (fun _ => ?_) (fun c9 => absurd rfl c9)
  exact K _ H2 locs2 ce sl (hz) hF2 hm2 hS2 hce hsl
end LW
