set_option maxHeartbeats 4000000 in
set_option maxRecDepth 100000 in
theorem t_J_preN_9 {p : Program} {l : Launch} {e : Env} {s : State} {m : MethodId} {args : Array Value} {below : List Frame} {meth : Method} {c : Code} {G : GX} {post : Int32 → Prop} (E : EN p s m args meth c G R_JP cc_JP_checkIndex 3 (some .int) BG) (hR : va_P G.1 vwCl [] s.heap) : ∀ (y0 : Int32) (y1 : Int32) (ls : Array Slot), w_J_preN_9 post y0 y1 → lv_has ls 3 [(0, .int y0), (1, .int y1), (2, .null)] → W p l e rm_J_preN s m args below meth c s.heap [] 0 0 (MQ below (vp_Si post) args s 0 0 (fun _ => False)) (F0 m 9 ls []) := by
  obtain ⟨hx, hb, hr, hts, hown, hlocks, hml, hC⟩ := id E
  have hK := hC.1
  intro y0 y1  ls h hl
  unfold w_J_preN_9 at h
  refine lv_aload_nN hx hb d_JP_checkIndex_9 rfl (lv_at hl 2 rfl) ?_
  refine lv_iload_n hx hb d_JP_checkIndex_10 rfl (lv_at hl 0 rfl) ?_
  refine lv_iload_n hx hb d_JP_checkIndex_11 rfl (lv_at hl 1 rfl) ?_
  exact h.elim
set_option maxHeartbeats 4000000 in
set_option maxRecDepth 100000 in
theorem t_J_preN_in {p : Program} {l : Launch} {e : Env} {s : State} {m : MethodId} {args : Array Value} {below : List Frame} {meth : Method} {c : Code} {G : GX} {post : Int32 → Prop} {x0 : Int32} {x1 : Int32} (E : EN p s m args meth c G R_JP cc_JP_checkIndex 3 (some .int) BG) (hR : va_P G.1 vwCl [] s.heap) : ∀ (ls : Array Slot), wp_J_preN post x0 x1 → lv_has ls 3 [(0, .int x0), (1, .int x1), (2, .null)] → W p l e rm_J_preN s m args below meth c s.heap [] 0 0 (MQ below (vp_Si post) args s 0 0 (fun _ => False)) (F0 m 0 ls []) := by
  obtain ⟨hx, hb, hr, hts, hown, hlocks, hml, hC⟩ := id E
  have hK := hC.1
  intro ls h hl
  unfold wp_J_preN at h
  refine lv_iload_n hx hb d_JP_checkIndex_0 rfl (lv_at hl 0 rfl) ?_
  refine lv_if_lt (tgt := 9) hx hb d_JP_checkIndex_1 (by decide) (fun c9 => ?_) (fun c9 => ?_)
  · have h := h.1 c9
    exact t_J_preN_9 E hR  _ _ _ h (lv_sub hl [0, 1, 2] rfl)
  · have h := h.2 c9
    refine lv_iload_n hx hb d_JP_checkIndex_4 rfl (lv_at hl 0 rfl) ?_
    refine lv_iload_n hx hb d_JP_checkIndex_5 rfl (lv_at hl 1 rfl) ?_
    refine lv_icmp_lt (tgt := 16) hx hb d_JP_checkIndex_6 (by decide) (fun c9 => ?_) (fun c9 => ?_)
    · have h := h.1 c9
      refine lv_iload_n hx hb d_JP_checkIndex_16 rfl (lv_at hl 0 rfl) ?_
      exact W.iret hx hb hr (fun t ht hW => ⟨_, rfl, h, ht⟩) (fun _ z => by cases z) d_JP_checkIndex_17
    · have h := h.2 c9
      exact t_J_preN_9 E hR  _ _ _ h (lv_sub hl [0, 1, 2] rfl)
set_option maxHeartbeats 4000000 in
set_option maxRecDepth 100000 in
theorem c_J_preN (l : Launch) (G : GX) (x0 : Int32) (x1 : Int32) (post : Int32 → Prop) (h : wp_J_preN post x0 x1) : Met l y_JP_checkIndex wc_JP_checkIndex rm_J_preN (mP G [.int x0, .int x1, .null] []) (vp_Si post) 0 0 (fun _ => False) := by
  refine Met.ofW (cc := cc_JP_checkIndex) (maxL := 3) (ret := (some .int)) (by decide) rfl ?_
  intro p e s m args below meth c s₁ B hml hv
  obtain ⟨rfl, hC, hR⟩ := hv
  have E : EN p s m ([.int x0, .int x1, .null] : List Value).toArray meth c G R_JP cc_JP_checkIndex 3 (some .int) BG := ⟨B.exec, B.bytes, B.returns, fun w h => atoms_spec (ws := wc_JP_checkIndex) B.pre w (List.mem_cons_of_mem _ h), findClass_of_methodNamed B.named, B.notSynchronized, hml, hC⟩
  have hl := lv_entry ([.int x0, .int x1, .null]) (n := 3) (Nat.le_of_ble_eq_true rfl)
  rw [lg_entry_eq]
  generalize (lg_sl ([.int x0, .int x1, .null]) ++ List.replicate (3 - (lg_sl ([.int x0, .int x1, .null])).length) Slot.unset).toArray = ls at hl ⊢
  have hl : lv_has ls 3 [(0, .int x0), (1, .int x1), (2, .null)] := hl
  exact t_J_preN_in E hR _ h hl
set_option maxHeartbeats 4000000 in
set_option maxRecDepth 100000 in
theorem t_J_preR_9 {p : Program} {l : Launch} {e : Env} {s : State} {m : MethodId} {args : Array Value} {below : List Frame} {meth : Method} {c : Code} {G : GX} {a2_0 : Nat} {post : Int32 → Prop} (E : EN p s m args meth c G R_JP cc_JP_checkIndex 3 (some .int) BG) (hR : va_P G.1 vwCl [] s.heap) : ∀ (y0 : Int32) (y1 : Int32) (ls : Array Slot), w_J_preR_9 post y0 y1 → lv_has ls 3 [(0, .int y0), (1, .int y1), (2, .ref a2_0)] → W p l e rm_J_preR s m args below meth c s.heap [] 0 0 (MQ below (vp_Si post) args s 0 0 (fun _ => False)) (F0 m 9 ls []) := by
  obtain ⟨hx, hb, hr, hts, hown, hlocks, hml, hC⟩ := id E
  have hK := hC.1
  intro y0 y1  ls h hl
  unfold w_J_preR_9 at h
  refine lv_aload_n hx hb d_JP_checkIndex_9 rfl (lv_at hl 2 rfl) ?_
  refine lv_iload_n hx hb d_JP_checkIndex_10 rfl (lv_at hl 0 rfl) ?_
  refine lv_iload_n hx hb d_JP_checkIndex_11 rfl (lv_at hl 1 rfl) ?_
  exact h.elim
set_option maxHeartbeats 4000000 in
set_option maxRecDepth 100000 in
theorem t_J_preR_in {p : Program} {l : Launch} {e : Env} {s : State} {m : MethodId} {args : Array Value} {below : List Frame} {meth : Method} {c : Code} {G : GX} {a2_0 : Nat} {post : Int32 → Prop} {x0 : Int32} {x1 : Int32} (E : EN p s m args meth c G R_JP cc_JP_checkIndex 3 (some .int) BG) (hR : va_P G.1 vwCl [] s.heap) : ∀ (ls : Array Slot), wp_J_preR post x0 x1 → lv_has ls 3 [(0, .int x0), (1, .int x1), (2, .ref a2_0)] → W p l e rm_J_preR s m args below meth c s.heap [] 0 0 (MQ below (vp_Si post) args s 0 0 (fun _ => False)) (F0 m 0 ls []) := by
  obtain ⟨hx, hb, hr, hts, hown, hlocks, hml, hC⟩ := id E
  have hK := hC.1
  intro ls h hl
  unfold wp_J_preR at h
  refine lv_iload_n hx hb d_JP_checkIndex_0 rfl (lv_at hl 0 rfl) ?_
  refine lv_if_lt (tgt := 9) hx hb d_JP_checkIndex_1 (by decide) (fun c9 => ?_) (fun c9 => ?_)
  · have h := h.1 c9
    exact t_J_preR_9 E hR  _ _ _ h (lv_sub hl [0, 1, 2] rfl)
  · have h := h.2 c9
    refine lv_iload_n hx hb d_JP_checkIndex_4 rfl (lv_at hl 0 rfl) ?_
    refine lv_iload_n hx hb d_JP_checkIndex_5 rfl (lv_at hl 1 rfl) ?_
    refine lv_icmp_lt (tgt := 16) hx hb d_JP_checkIndex_6 (by decide) (fun c9 => ?_) (fun c9 => ?_)
    · have h := h.1 c9
      refine lv_iload_n hx hb d_JP_checkIndex_16 rfl (lv_at hl 0 rfl) ?_
      exact W.iret hx hb hr (fun t ht hW => ⟨_, rfl, h, ht⟩) (fun _ z => by cases z) d_JP_checkIndex_17
    · have h := h.2 c9
      exact t_J_preR_9 E hR  _ _ _ h (lv_sub hl [0, 1, 2] rfl)
set_option maxHeartbeats 4000000 in
set_option maxRecDepth 100000 in
theorem c_J_preR (l : Launch) (G : GX) (a2_0 : Nat) (x0 : Int32) (x1 : Int32) (post : Int32 → Prop) (h : wp_J_preR post x0 x1) : Met l y_JP_checkIndex wc_JP_checkIndex rm_J_preR (mP G [.int x0, .int x1, .ref a2_0] []) (vp_Si post) 0 0 (fun _ => False) := by
  refine Met.ofW (cc := cc_JP_checkIndex) (maxL := 3) (ret := (some .int)) (by decide) rfl ?_
  intro p e s m args below meth c s₁ B hml hv
  obtain ⟨rfl, hC, hR⟩ := hv
  have E : EN p s m ([.int x0, .int x1, .ref a2_0] : List Value).toArray meth c G R_JP cc_JP_checkIndex 3 (some .int) BG := ⟨B.exec, B.bytes, B.returns, fun w h => atoms_spec (ws := wc_JP_checkIndex) B.pre w (List.mem_cons_of_mem _ h), findClass_of_methodNamed B.named, B.notSynchronized, hml, hC⟩
  have hl := lv_entry ([.int x0, .int x1, .ref a2_0]) (n := 3) (Nat.le_of_ble_eq_true rfl)
  rw [lg_entry_eq]
  generalize (lg_sl ([.int x0, .int x1, .ref a2_0]) ++ List.replicate (3 - (lg_sl ([.int x0, .int x1, .ref a2_0])).length) Slot.unset).toArray = ls at hl ⊢
  have hl : lv_has ls 3 [(0, .int x0), (1, .int x1), (2, .ref a2_0)] := hl
  exact t_J_preR_in E hR _ h hl
set_option maxHeartbeats 4000000 in
set_option maxRecDepth 100000 in
theorem t_J_checkIndex_in {p : Program} {l : Launch} {e : Env} {s : State} {m : MethodId} {args : Array Value} {below : List Frame} {meth : Method} {c : Code} {G : GX} {post : Unit → Prop} {x0 : Int32} {x1 : Int32} (E : EN p s m args meth c G R_JS cc_JS_checkIndex 2 none BG) (hR : va_P G.1 vwCl [] s.heap) : ∀ (ls : Array Slot), wp_J_checkIndex post x0 x1 → lv_has ls 2 [(0, .int x0), (1, .int x1)] → W p l e rm_J_checkIndex s m args below meth c s.heap [] 0 0 (MQ below (va_Sv post) args s 0 0 (fun _ => False)) (F0 m 0 ls []) := by
  obtain ⟨hx, hb, hr, hts, hown, hlocks, hml, hC⟩ := id E
  have hK := hC.1
  intro ls h hl
  unfold wp_J_checkIndex at h
  refine lv_iload_n hx hb d_JS_checkIndex_0 rfl (lv_at hl 0 rfl) ?_
  refine lv_iload_n hx hb d_JS_checkIndex_1 rfl (lv_at hl 1 rfl) ?_
  obtain ⟨rz, hz⟩ := hC.2.2.2.2.2.2.2.2
  refine va_gets hx hb hz va_S.rf hown (hts _ b_0) (fun _ h9 => h9) d_JS_checkIndex_2 ?_
  cases rz with
  | none =>
    have h := h.1
    refine W.eq (g2 := F0 m 5 ls [.null, .int x1, .int x0]) rfl ?_
    have hRc : va_P G.1 vwCl [] s.heap := vaP_nil
    refine vp_callSi (va_runS (As := [.int x0, .int x1, .null]) (rest := []) ⟨hx, hb, hml, hown, hts⟩ (c_J_preN l G x0 x1 _ h) (va_cwS 3 hts (gwS b_2 b_3 b_4 b_1) rfl rfl rfl hd_JP_checkIndex.2 ⟨Nat.le_of_ble_eq_true rfl, Nat.le_of_ble_eq_true rfl⟩) ⟨mP_blind, fun U hU hW => ⟨rfl, hC.to0 hW hU, by rw [hU]; exact hRc⟩⟩ rfl rfl hl.1 rfl (lv_room (Nat.le_of_ble_eq_true rfl)) d_JS_checkIndex_5 ⟨Nat.le_of_ble_eq_true rfl, Nat.le_of_ble_eq_true rfl⟩).run (fun r3 h => ?_)
    refine lv_pop hx hb d_JS_checkIndex_8 rfl ?_
    exact W.vret hx hb hr (fun t ht hW => ⟨rfl, h, ht⟩) (fun _ z => by cases z) d_JS_checkIndex_9
  | some az =>
    have h := h.2
    refine W.eq (g2 := F0 m 5 ls [.ref az, .int x1, .int x0]) rfl ?_
    have hRc : va_P G.1 vwCl [] s.heap := vaP_nil
    refine vp_callSi (va_runS (As := [.int x0, .int x1, .ref az]) (rest := []) ⟨hx, hb, hml, hown, hts⟩ (c_J_preR l G az x0 x1 _ h) (va_cwS 3 hts (gwS b_2 b_3 b_4 b_1) rfl rfl rfl hd_JP_checkIndex.2 ⟨Nat.le_of_ble_eq_true rfl, Nat.le_of_ble_eq_true rfl⟩) ⟨mP_blind, fun U hU hW => ⟨rfl, hC.to0 hW hU, by rw [hU]; exact hRc⟩⟩ rfl rfl hl.1 rfl (lv_room (Nat.le_of_ble_eq_true rfl)) d_JS_checkIndex_5 ⟨Nat.le_of_ble_eq_true rfl, Nat.le_of_ble_eq_true rfl⟩).run (fun r4 h => ?_)
    refine lv_pop hx hb d_JS_checkIndex_8 rfl ?_
    exact W.vret hx hb hr (fun t ht hW => ⟨rfl, h, ht⟩) (fun _ z => by cases z) d_JS_checkIndex_9
set_option maxHeartbeats 4000000 in
set_option maxRecDepth 100000 in
theorem c_J_checkIndex (l : Launch) (G : GX) (x0 : Int32) (x1 : Int32) (post : Unit → Prop) (h : wp_J_checkIndex post x0 x1) : Met l y_JS_checkIndex wc_JS_checkIndex rm_J_checkIndex (mP G [.int x0, .int x1] []) (va_Sv post) 0 0 (fun _ => False) := by
  refine Met.ofW (cc := cc_JS_checkIndex) (maxL := 2) (ret := none) (by decide) rfl ?_
  intro p e s m args below meth c s₁ B hml hv
  obtain ⟨rfl, hC, hR⟩ := hv
  have E : EN p s m ([.int x0, .int x1] : List Value).toArray meth c G R_JS cc_JS_checkIndex 2 none BG := ⟨B.exec, B.bytes, B.returns, fun w h => atoms_spec (ws := wc_JS_checkIndex) B.pre w (List.mem_cons_of_mem _ h), findClass_of_methodNamed B.named, B.notSynchronized, hml, hC⟩
  have hl := lv_entry ([.int x0, .int x1]) (n := 2) (Nat.le_of_ble_eq_true rfl)
  rw [lg_entry_eq]
  generalize (lg_sl ([.int x0, .int x1]) ++ List.replicate (2 - (lg_sl ([.int x0, .int x1])).length) Slot.unset).toArray = ls at hl ⊢
  have hl : lv_has ls 2 [(0, .int x0), (1, .int x1)] := hl
  exact t_J_checkIndex_in E hR _ h hl
set_option maxHeartbeats 4000000 in
set_option maxRecDepth 100000 in
theorem t_J_isLatin1_in {p : Program} {l : Launch} {e : Env} {s : State} {m : MethodId} {args : Array Value} {below : List Frame} {meth : Method} {c : Code} {G : GX} {post : Int32 → Prop} {x0 : Nat} (E : EN p s m args meth c G R_JS cc_JS_isLatin1 1 (some .boolean) BG) (hR : va_P G.1 vwCl [] s.heap) : ∀ (ls : Array Slot), wp_J_isLatin1 post x0 → lv_has ls 1 [(0, .ref (G.2.2.2.1 x0))] → W p l e rm_J_isLatin1 s m args below meth c s.heap [] 0 0 (MQ below (vp_Si post) args s 0 0 (fun _ => False)) (F0 m 0 ls []) := by
  obtain ⟨hx, hb, hr, hts, hown, hlocks, hml, hC⟩ := id E
  have hK := hC.1
  intro ls h hl
  unfold wp_J_isLatin1 at h
  refine va_gets hx hb hC.2.2.2.2.2.2.1 va_S.rf hown (hts _ b_5) (fun _ h9 => h9) d_JS_isLatin1_0 ?_
  refine lv_if_eq (tgt := 17) hx hb d_JS_isLatin1_3 (by decide) (fun c9 => ?_) (fun c9 => ?_)
  · have h := h.1 c9
    refine lv_iconst (v := 0) hx hb d_JS_isLatin1_17 (by decide) ?_
    exact W.zret hx hb hr (by decide) (fun t ht hW => ⟨_, rfl, h, ht⟩) (fun _ z => by cases z) d_JS_isLatin1_18
  · have h := h.2 c9
    refine lv_aload_n hx hb d_JS_isLatin1_6 rfl (lv_at hl 0 rfl) ?_
    have hk9 := h.1
    have h := h.2
    refine vk_getf (v := .int 0) hx hb (hC.2.2.2.2.1.1 x0 hk9).2.1 va_S.rf hown (hts _ b_6) (fun _ h9 => h9) d_JS_isLatin1_7 ?_
    refine lv_if_ne (tgt := 17) hx hb d_JS_isLatin1_10 (by decide) (fun c9 => ?_) (fun c9 => ?_)
    · have h := h.1 c9
      refine lv_iconst (v := 0) hx hb d_JS_isLatin1_17 (by decide) ?_
      exact W.zret hx hb hr (by decide) (fun t ht hW => ⟨_, rfl, h, ht⟩) (fun _ z => by cases z) d_JS_isLatin1_18
    · have h := h.2 c9
      refine lv_iconst (v := 1) hx hb d_JS_isLatin1_13 (by decide) ?_
      refine lv_goto (tgt := 18) hx hb d_JS_isLatin1_14 (by decide) ?_
      exact W.zret hx hb hr (by decide) (fun t ht hW => ⟨_, rfl, h, ht⟩) (fun _ z => by cases z) d_JS_isLatin1_18
set_option maxHeartbeats 4000000 in
set_option maxRecDepth 100000 in
theorem c_J_isLatin1 (l : Launch) (G : GX) (x0 : Nat) (post : Int32 → Prop) (h : wp_J_isLatin1 post x0) : Met l y_JS_isLatin1 wc_JS_isLatin1 rm_J_isLatin1 (mP G [.ref (G.2.2.2.1 x0)] []) (vp_Si post) 0 0 (fun _ => False) := by
  refine Met.ofW (cc := cc_JS_isLatin1) (maxL := 1) (ret := (some .boolean)) (by decide) rfl ?_
  intro p e s m args below meth c s₁ B hml hv
  obtain ⟨rfl, hC, hR⟩ := hv
  have E : EN p s m ([.ref (G.2.2.2.1 x0)] : List Value).toArray meth c G R_JS cc_JS_isLatin1 1 (some .boolean) BG := ⟨B.exec, B.bytes, B.returns, fun w h => atoms_spec (ws := wc_JS_isLatin1) B.pre w (List.mem_cons_of_mem _ h), findClass_of_methodNamed B.named, B.notSynchronized, hml, hC⟩
  have hl := lv_entry ([.ref (G.2.2.2.1 x0)]) (n := 1) (Nat.le_of_ble_eq_true rfl)
  rw [lg_entry_eq]
  generalize (lg_sl ([.ref (G.2.2.2.1 x0)]) ++ List.replicate (1 - (lg_sl ([.ref (G.2.2.2.1 x0)])).length) Slot.unset).toArray = ls at hl ⊢
  have hl : lv_has ls 1 [(0, .ref (G.2.2.2.1 x0))] := hl
  exact t_J_isLatin1_in E hR _ h hl
set_option maxHeartbeats 4000000 in
set_option maxRecDepth 100000 in
theorem t_J_coder_in {p : Program} {l : Launch} {e : Env} {s : State} {m : MethodId} {args : Array Value} {below : List Frame} {meth : Method} {c : Code} {G : GX} {post : Int32 → Prop} {x0 : Nat} (E : EN p s m args meth c G R_JS cc_JS_coder 1 (some .byte) BG) (hR : va_P G.1 vwCl [] s.heap) : ∀ (ls : Array Slot), wp_J_coder post x0 → lv_has ls 1 [(0, .ref (G.2.2.2.1 x0))] → W p l e rm_J_coder s m args below meth c s.heap [] 0 0 (MQ below (vp_Si post) args s 0 0 (fun _ => False)) (F0 m 0 ls []) := by
  obtain ⟨hx, hb, hr, hts, hown, hlocks, hml, hC⟩ := id E
  have hK := hC.1
  intro ls h hl
  unfold wp_J_coder at h
  refine va_gets hx hb hC.2.2.2.2.2.2.1 va_S.rf hown (hts _ b_5) (fun _ h9 => h9) d_JS_coder_0 ?_
  refine lv_if_eq (tgt := 13) hx hb d_JS_coder_3 (by decide) (fun c9 => ?_) (fun c9 => ?_)
  · have h := h.1 c9
    refine lv_iconst (v := 1) hx hb d_JS_coder_13 (by decide) ?_
    exact W.zret hx hb hr (by decide) (fun t ht hW => ⟨_, rfl, h, ht⟩) (fun _ z => by cases z) d_JS_coder_14
  · have h := h.2 c9
    refine lv_aload_n hx hb d_JS_coder_6 rfl (lv_at hl 0 rfl) ?_
    have hk9 := h.1
    have h := h.2
    refine vk_getf (v := .int 0) hx hb (hC.2.2.2.2.1.1 x0 hk9).2.1 va_S.rf hown (hts _ b_6) (fun _ h9 => h9) d_JS_coder_7 ?_
    refine lv_goto (tgt := 14) hx hb d_JS_coder_10 (by decide) ?_
    exact W.zret hx hb hr (by decide) (fun t ht hW => ⟨_, rfl, h, ht⟩) (fun _ z => by cases z) d_JS_coder_14
set_option maxHeartbeats 4000000 in
set_option maxRecDepth 100000 in
theorem c_J_coder (l : Launch) (G : GX) (x0 : Nat) (post : Int32 → Prop) (h : wp_J_coder post x0) : Met l y_JS_coder wc_JS_coder rm_J_coder (mP G [.ref (G.2.2.2.1 x0)] []) (vp_Si post) 0 0 (fun _ => False) := by
  refine Met.ofW (cc := cc_JS_coder) (maxL := 1) (ret := (some .byte)) (by decide) rfl ?_
  intro p e s m args below meth c s₁ B hml hv
  obtain ⟨rfl, hC, hR⟩ := hv
  have E : EN p s m ([.ref (G.2.2.2.1 x0)] : List Value).toArray meth c G R_JS cc_JS_coder 1 (some .byte) BG := ⟨B.exec, B.bytes, B.returns, fun w h => atoms_spec (ws := wc_JS_coder) B.pre w (List.mem_cons_of_mem _ h), findClass_of_methodNamed B.named, B.notSynchronized, hml, hC⟩
  have hl := lv_entry ([.ref (G.2.2.2.1 x0)]) (n := 1) (Nat.le_of_ble_eq_true rfl)
  rw [lg_entry_eq]
  generalize (lg_sl ([.ref (G.2.2.2.1 x0)]) ++ List.replicate (1 - (lg_sl ([.ref (G.2.2.2.1 x0)])).length) Slot.unset).toArray = ls at hl ⊢
  have hl : lv_has ls 1 [(0, .ref (G.2.2.2.1 x0))] := hl
  exact t_J_coder_in E hR _ h hl
set_option maxHeartbeats 4000000 in
set_option maxRecDepth 100000 in
theorem t_J_length_in {p : Program} {l : Launch} {e : Env} {s : State} {m : MethodId} {args : Array Value} {below : List Frame} {meth : Method} {c : Code} {G : GX} {post : Int32 → Prop} {x0 : Nat} (E : EN p s m args meth c G R_JS cc_JS_length 1 (some .int) BG) (hR : va_P G.1 vwCl [] s.heap) : ∀ (ls : Array Slot), wp_J_length post x0 → lv_has ls 1 [(0, .ref (G.2.2.2.1 x0))] → W p l e rm_J_length s m args below meth c s.heap [] 0 0 (MQ below (vp_Si post) args s 0 0 (fun _ => False)) (F0 m 0 ls []) := by
  obtain ⟨hx, hb, hr, hts, hown, hlocks, hml, hC⟩ := id E
  have hK := hC.1
  intro ls h hl
  unfold wp_J_length at h
  refine lv_aload_n hx hb d_JS_length_0 rfl (lv_at hl 0 rfl) ?_
  have hk9 := h.1
  have h := h.2
  refine vk_getf (v := .ref (G.2.2.2.2 x0)) hx hb (hC.2.2.2.2.1.1 x0 hk9).2.2.1 va_S.rf hown (hts _ b_7) (fun _ h9 => h9) d_JS_length_1 ?_
  have hk9 := h.1
  have h := h.2
  refine va_tlen hx hb (hC.2.2.2.2.1.1 x0 hk9).2.2.2 va_S.rf (v := Int32.ofNat (ltL.getD x0 0)) rfl d_JS_length_4 ?_
  refine lv_aload_n hx hb d_JS_length_5 rfl (lv_at hl 0 rfl) ?_
  have hRc : va_P G.1 vwCl [] s.heap := vaP_nil
  have hk9 := h.1
  have h := h.2
  refine vp_callSi (va_runV (As := []) (rest := [.int (Int32.ofNat (ltL.getD x0 0))]) ⟨hx, hb, hml, hown, hts⟩ (c_J_coder l G x0 _ h) (cwV 0 hts (gwV b_9 b_10 b_11 b_12 b_8) rfl rfl rfl hd_JS_coder ⟨Nat.le_of_ble_eq_true rfl, Nat.le_of_ble_eq_true rfl⟩) ⟨mP_blind, vk_recv hC.2.2.2.2.1 hk9 va_S.rf, fun U hU hW => ⟨rfl, hC.to0 hW hU, by rw [hU]; exact hRc⟩⟩ rfl rfl hl.1 rfl (lv_room (Nat.le_of_ble_eq_true rfl)) d_JS_length_6 ⟨Nat.le_of_ble_eq_true rfl, Nat.le_of_ble_eq_true rfl⟩).run (fun r2 h => ?_)
  refine lv_ishr hx hb d_JS_length_9 ?_
  exact W.iret hx hb hr (fun t ht hW => ⟨_, rfl, h, ht⟩) (fun _ z => by cases z) d_JS_length_10
set_option maxHeartbeats 4000000 in
set_option maxRecDepth 100000 in
theorem c_J_length (l : Launch) (G : GX) (x0 : Nat) (post : Int32 → Prop) (h : wp_J_length post x0) : Met l y_JS_length wc_JS_length rm_J_length (mP G [.ref (G.2.2.2.1 x0)] []) (vp_Si post) 0 0 (fun _ => False) := by
  refine Met.ofW (cc := cc_JS_length) (maxL := 1) (ret := (some .int)) (by decide) rfl ?_
  intro p e s m args below meth c s₁ B hml hv
  obtain ⟨rfl, hC, hR⟩ := hv
  have E : EN p s m ([.ref (G.2.2.2.1 x0)] : List Value).toArray meth c G R_JS cc_JS_length 1 (some .int) BG := ⟨B.exec, B.bytes, B.returns, fun w h => atoms_spec (ws := wc_JS_length) B.pre w (List.mem_cons_of_mem _ h), findClass_of_methodNamed B.named, B.notSynchronized, hml, hC⟩
  have hl := lv_entry ([.ref (G.2.2.2.1 x0)]) (n := 1) (Nat.le_of_ble_eq_true rfl)
  rw [lg_entry_eq]
  generalize (lg_sl ([.ref (G.2.2.2.1 x0)]) ++ List.replicate (1 - (lg_sl ([.ref (G.2.2.2.1 x0)])).length) Slot.unset).toArray = ls at hl ⊢
  have hl : lv_has ls 1 [(0, .ref (G.2.2.2.1 x0))] := hl
  exact t_J_length_in E hR _ h hl
set_option maxHeartbeats 4000000 in
set_option maxRecDepth 100000 in
theorem t_J_lcharAt_in {p : Program} {l : Launch} {e : Env} {s : State} {m : MethodId} {args : Array Value} {below : List Frame} {meth : Method} {c : Code} {G : GX} {post : Int32 → Prop} {x0 : Nat} {x1 : Int32} (E : EN p s m args meth c G R_JL cc_JL_charAt 2 (some .char) BG) (hR : va_P G.1 vwCl [] s.heap) : ∀ (ls : Array Slot), wp_J_lcharAt post x0 x1 → lv_has ls 2 [(0, .ref (G.2.2.2.2 x0)), (1, .int x1)] → W p l e rm_J_lcharAt s m args below meth c s.heap [] 0 0 (MQ below (vp_Si post) args s 0 0 (fun _ => False)) (F0 m 0 ls []) := by
  obtain ⟨hx, hb, hr, hts, hown, hlocks, hml, hC⟩ := id E
  have hK := hC.1
  intro ls h hl
  unfold wp_J_lcharAt at h
  refine lv_iload_n hx hb d_JL_charAt_0 rfl (lv_at hl 1 rfl) ?_
  refine lv_aload_n hx hb d_JL_charAt_1 rfl (lv_at hl 0 rfl) ?_
  have hk9 := h.1
  have h := h.2
  refine va_tlen hx hb (hC.2.2.2.2.1.1 x0 hk9).2.2.2 va_S.rf (v := Int32.ofNat (ltL.getD x0 0)) rfl d_JL_charAt_2 ?_
  have hRc : va_P G.1 vwCl [] s.heap := vaP_nil
  refine va_csv (va_runS (As := [.int x1, .int (Int32.ofNat (ltL.getD x0 0))]) (rest := []) ⟨hx, hb, hml, hown, hts⟩ (c_J_checkIndex l G x1 (Int32.ofNat (ltL.getD x0 0)) _ h) (va_cwS 2 hts (gwS b_14 b_15 b_12 b_13) rfl rfl rfl hd_JS_checkIndex.2 ⟨Nat.le_of_ble_eq_true rfl, Nat.le_of_ble_eq_true rfl⟩) ⟨mP_blind, fun U hU hW => ⟨rfl, hC.to0 hW hU, by rw [hU]; exact hRc⟩⟩ rfl rfl hl.1 rfl (lv_room (Nat.le_of_ble_eq_true rfl)) d_JL_charAt_3 ⟨Nat.le_of_ble_eq_true rfl, Nat.le_of_ble_eq_true rfl⟩).run (fun h => ?_)
  refine lv_aload_n hx hb d_JL_charAt_6 rfl (lv_at hl 0 rfl) ?_
  refine lv_iload_n hx hb d_JL_charAt_7 rfl (lv_at hl 1 rfl) ?_
  have hk9 := h.1
  have h := h.2
  have hi9 := h.1
  have h := h.2
  refine va_tb hx hb (hC.2.2.2.2.1.1 x0 hk9).2.2.2 va_S.rf hi9 rfl d_JL_charAt_8 ?_
  refine lv_sipush (v := 255) hx hb d_JL_charAt_9 (by decide) ?_
  refine lv_iand hx hb d_JL_charAt_12 ?_
  refine lv_i2c hx hb d_JL_charAt_13 rfl ?_
  exact W.zret hx hb hr h.1 (fun t ht hW => ⟨_, rfl, h.2, ht⟩) (fun _ z => by cases z) d_JL_charAt_14
set_option maxHeartbeats 4000000 in
set_option maxRecDepth 100000 in
theorem c_J_lcharAt (l : Launch) (G : GX) (x0 : Nat) (x1 : Int32) (post : Int32 → Prop) (h : wp_J_lcharAt post x0 x1) : Met l y_JL_charAt wc_JL_charAt rm_J_lcharAt (mP G [.ref (G.2.2.2.2 x0), .int x1] []) (vp_Si post) 0 0 (fun _ => False) := by
  refine Met.ofW (cc := cc_JL_charAt) (maxL := 2) (ret := (some .char)) (by decide) rfl ?_
  intro p e s m args below meth c s₁ B hml hv
  obtain ⟨rfl, hC, hR⟩ := hv
  have E : EN p s m ([.ref (G.2.2.2.2 x0), .int x1] : List Value).toArray meth c G R_JL cc_JL_charAt 2 (some .char) BG := ⟨B.exec, B.bytes, B.returns, fun w h => atoms_spec (ws := wc_JL_charAt) B.pre w (List.mem_cons_of_mem _ h), findClass_of_methodNamed B.named, B.notSynchronized, hml, hC⟩
  have hl := lv_entry ([.ref (G.2.2.2.2 x0), .int x1]) (n := 2) (Nat.le_of_ble_eq_true rfl)
  rw [lg_entry_eq]
  generalize (lg_sl ([.ref (G.2.2.2.2 x0), .int x1]) ++ List.replicate (2 - (lg_sl ([.ref (G.2.2.2.2 x0), .int x1])).length) Slot.unset).toArray = ls at hl ⊢
  have hl : lv_has ls 2 [(0, .ref (G.2.2.2.2 x0)), (1, .int x1)] := hl
  exact t_J_lcharAt_in E hR _ h hl
set_option maxHeartbeats 4000000 in
set_option maxRecDepth 100000 in
theorem t_J_charAt_in {p : Program} {l : Launch} {e : Env} {s : State} {m : MethodId} {args : Array Value} {below : List Frame} {meth : Method} {c : Code} {G : GX} {post : Int32 → Prop} {x0 : Nat} {x1 : Int32} (E : EN p s m args meth c G R_JS cc_JS_charAt 2 (some .char) BG) (hR : va_P G.1 vwCl [] s.heap) : ∀ (ls : Array Slot), wp_J_charAt post x0 x1 → lv_has ls 2 [(0, .ref (G.2.2.2.1 x0)), (1, .int x1)] → W p l e rm_J_charAt s m args below meth c s.heap [] 0 0 (MQ below (vp_Si post) args s 0 0 (fun _ => False)) (F0 m 0 ls []) := by
  obtain ⟨hx, hb, hr, hts, hown, hlocks, hml, hC⟩ := id E
  have hK := hC.1
  intro ls h hl
  unfold wp_J_charAt at h
  refine lv_aload_n hx hb d_JS_charAt_0 rfl (lv_at hl 0 rfl) ?_
  have hRc : va_P G.1 vwCl [] s.heap := vaP_nil
  have hk9 := h.1
  have h := h.2
  refine vp_callSi (va_runV (As := []) (rest := []) ⟨hx, hb, hml, hown, hts⟩ (c_J_isLatin1 l G x0 _ h) (cwV 0 hts (gwV b_17 b_18 b_19 b_12 b_16) rfl rfl rfl hd_JS_isLatin1 ⟨Nat.le_of_ble_eq_true rfl, Nat.le_of_ble_eq_true rfl⟩) ⟨mP_blind, vk_recv hC.2.2.2.2.1 hk9 va_S.rf, fun U hU hW => ⟨rfl, hC.to0 hW hU, by rw [hU]; exact hRc⟩⟩ rfl rfl hl.1 rfl (lv_room (Nat.le_of_ble_eq_true rfl)) d_JS_charAt_1 ⟨Nat.le_of_ble_eq_true rfl, Nat.le_of_ble_eq_true rfl⟩).run (fun r3 h => ?_)
  refine lv_if_eq (tgt := 16) hx hb d_JS_charAt_4 (by decide) (fun c9 => ?_) (fun c9 => ?_)
  · have h := h.1 c9
    refine lv_aload_n hx hb d_JS_charAt_16 rfl (lv_at hl 0 rfl) ?_
    have hk9 := h.1
    have h := h.2
    refine vk_getf (v := .ref (G.2.2.2.2 x0)) hx hb (hC.2.2.2.2.1.1 x0 hk9).2.2.1 va_S.rf hown (hts _ b_7) (fun _ h9 => h9) d_JS_charAt_17 ?_
    refine lv_iload_n hx hb d_JS_charAt_20 rfl (lv_at hl 1 rfl) ?_
    exact h.elim
  · have h := h.2 c9
    refine lv_aload_n hx hb d_JS_charAt_7 rfl (lv_at hl 0 rfl) ?_
    have hk9 := h.1
    have h := h.2
    refine vk_getf (v := .ref (G.2.2.2.2 x0)) hx hb (hC.2.2.2.2.1.1 x0 hk9).2.2.1 va_S.rf hown (hts _ b_7) (fun _ h9 => h9) d_JS_charAt_8 ?_
    refine lv_iload_n hx hb d_JS_charAt_11 rfl (lv_at hl 1 rfl) ?_
    have hRc : va_P G.1 vwCl [] s.heap := vaP_nil
    refine vp_callSi (va_runS (As := [.ref (G.2.2.2.2 x0), .int x1]) (rest := []) ⟨hx, hb, hml, hown, hts⟩ (c_J_lcharAt l G x0 x1 _ h) (va_cwS 2 hts (gwS b_21 b_22 b_23 b_20) rfl rfl rfl hd_JL_charAt.2 ⟨Nat.le_of_ble_eq_true rfl, Nat.le_of_ble_eq_true rfl⟩) ⟨mP_blind, fun U hU hW => ⟨rfl, hC.to0 hW hU, by rw [hU]; exact hRc⟩⟩ rfl rfl hl.1 rfl (lv_room (Nat.le_of_ble_eq_true rfl)) d_JS_charAt_12 ⟨Nat.le_of_ble_eq_true rfl, Nat.le_of_ble_eq_true rfl⟩).run (fun r4 h => ?_)
    exact W.zret hx hb hr h.1 (fun t ht hW => ⟨_, rfl, h.2, ht⟩) (fun _ z => by cases z) d_JS_charAt_15
set_option maxHeartbeats 4000000 in
set_option maxRecDepth 100000 in
theorem c_J_charAt (l : Launch) (G : GX) (x0 : Nat) (x1 : Int32) (post : Int32 → Prop) (h : wp_J_charAt post x0 x1) : Met l y_JS_charAt wc_JS_charAt rm_J_charAt (mP G [.ref (G.2.2.2.1 x0), .int x1] []) (vp_Si post) 0 0 (fun _ => False) := by
  refine Met.ofW (cc := cc_JS_charAt) (maxL := 2) (ret := (some .char)) (by decide) rfl ?_
  intro p e s m args below meth c s₁ B hml hv
  obtain ⟨rfl, hC, hR⟩ := hv
  have E : EN p s m ([.ref (G.2.2.2.1 x0), .int x1] : List Value).toArray meth c G R_JS cc_JS_charAt 2 (some .char) BG := ⟨B.exec, B.bytes, B.returns, fun w h => atoms_spec (ws := wc_JS_charAt) B.pre w (List.mem_cons_of_mem _ h), findClass_of_methodNamed B.named, B.notSynchronized, hml, hC⟩
  have hl := lv_entry ([.ref (G.2.2.2.1 x0), .int x1]) (n := 2) (Nat.le_of_ble_eq_true rfl)
  rw [lg_entry_eq]
  generalize (lg_sl ([.ref (G.2.2.2.1 x0), .int x1]) ++ List.replicate (2 - (lg_sl ([.ref (G.2.2.2.1 x0), .int x1])).length) Slot.unset).toArray = ls at hl ⊢
  have hl : lv_has ls 2 [(0, .ref (G.2.2.2.1 x0)), (1, .int x1)] := hl
  exact t_J_charAt_in E hR _ h hl
set_option maxHeartbeats 4000000 in
set_option maxRecDepth 100000 in
theorem t_J_canEncode_in {p : Program} {l : Launch} {e : Env} {s : State} {m : MethodId} {args : Array Value} {below : List Frame} {meth : Method} {c : Code} {G : GX} {post : Int32 → Prop} {x0 : Int32} (E : EN p s m args meth c G R_JL cc_JL_canEncode 1 (some .boolean) BG) (hR : va_P G.1 vwCl [] s.heap) : ∀ (ls : Array Slot), wp_J_canEncode post x0 → lv_has ls 1 [(0, .int x0)] → W p l e rm_J_canEncode s m args below meth c s.heap [] 0 0 (MQ below (vp_Si post) args s 0 0 (fun _ => False)) (F0 m 0 ls []) := by
  obtain ⟨hx, hb, hr, hts, hown, hlocks, hml, hC⟩ := id E
  have hK := hC.1
  intro ls h hl
  unfold wp_J_canEncode at h
  refine lv_iload_n hx hb d_JL_canEncode_0 rfl (lv_at hl 0 rfl) ?_
  refine lv_if_lt (tgt := 15) hx hb d_JL_canEncode_1 (by decide) (fun c9 => ?_) (fun c9 => ?_)
  · have h := h.1 c9
    refine lv_iconst (v := 0) hx hb d_JL_canEncode_15 (by decide) ?_
    exact W.zret hx hb hr (by decide) (fun t ht hW => ⟨_, rfl, h, ht⟩) (fun _ z => by cases z) d_JL_canEncode_16
  · have h := h.2 c9
    refine lv_iload_n hx hb d_JL_canEncode_4 rfl (lv_at hl 0 rfl) ?_
    refine lv_sipush (v := 255) hx hb d_JL_canEncode_5 (by decide) ?_
    refine lv_icmp_gt (tgt := 15) hx hb d_JL_canEncode_8 (by decide) (fun c9 => ?_) (fun c9 => ?_)
    · have h := h.1 c9
      refine lv_iconst (v := 0) hx hb d_JL_canEncode_15 (by decide) ?_
      exact W.zret hx hb hr (by decide) (fun t ht hW => ⟨_, rfl, h, ht⟩) (fun _ z => by cases z) d_JL_canEncode_16
    · have h := h.2 c9
      refine lv_iconst (v := 1) hx hb d_JL_canEncode_11 (by decide) ?_
      refine lv_goto (tgt := 16) hx hb d_JL_canEncode_12 (by decide) ?_
      exact W.zret hx hb hr (by decide) (fun t ht hW => ⟨_, rfl, h, ht⟩) (fun _ z => by cases z) d_JL_canEncode_16
set_option maxHeartbeats 4000000 in
set_option maxRecDepth 100000 in
theorem c_J_canEncode (l : Launch) (G : GX) (x0 : Int32) (post : Int32 → Prop) (h : wp_J_canEncode post x0) : Met l y_JL_canEncode wc_JL_canEncode rm_J_canEncode (mP G [.int x0] []) (vp_Si post) 0 0 (fun _ => False) := by
  refine Met.ofW (cc := cc_JL_canEncode) (maxL := 1) (ret := (some .boolean)) (by decide) rfl ?_
  intro p e s m args below meth c s₁ B hml hv
  obtain ⟨rfl, hC, hR⟩ := hv
  have E : EN p s m ([.int x0] : List Value).toArray meth c G R_JL cc_JL_canEncode 1 (some .boolean) BG := ⟨B.exec, B.bytes, B.returns, fun w h => atoms_spec (ws := wc_JL_canEncode) B.pre w (List.mem_cons_of_mem _ h), findClass_of_methodNamed B.named, B.notSynchronized, hml, hC⟩
  have hl := lv_entry ([.int x0]) (n := 1) (Nat.le_of_ble_eq_true rfl)
  rw [lg_entry_eq]
  generalize (lg_sl ([.int x0]) ++ List.replicate (1 - (lg_sl ([.int x0])).length) Slot.unset).toArray = ls at hl ⊢
  have hl : lv_has ls 1 [(0, .int x0)] := hl
  exact t_J_canEncode_in E hR _ h hl
set_option maxHeartbeats 4000000 in
set_option maxRecDepth 100000 in
theorem tb_J_indexOfChar_7 {p : Program} {l : Launch} {e : Env} {s : State} {m : MethodId} {args : Array Value} {below : List Frame} {meth : Method} {c : Code} {G : GX} {post : Int32 → Prop} (E : EN p s m args meth c G R_JL cc_JL_indexOfChar 6 (some .int) BG) (hR : va_P G.1 vwCl [] s.heap) {K0 : Nat → Int32 → Int32 → Int32 → Prop} (hK0 : ∀ (y0 : Nat) (y3 : Int32) (y4 : Int32) (y5 : Int32) (ls : Array Slot), K0 y0 y3 y4 y5 → lv_has ls 6 [(0, .ref (G.2.2.2.2 y0)), (3, .int y3), (4, .int y4), (5, .int y5)] → W p l e rm_J_indexOfChar s m args below meth c s.heap [] 0 0 (MQ below (vp_Si post) args s 0 0 (fun _ => False)) (F0 m 7 ls [])) : ∀ (y0 : Nat) (y3 : Int32) (y4 : Int32) (y5 : Int32) (ls : Array Slot), wb_J_indexOfChar_7 post K0 y0 y3 y4 y5 → lv_has ls 6 [(0, .ref (G.2.2.2.2 y0)), (3, .int y3), (4, .int y4), (5, .int y5)] → W p l e rm_J_indexOfChar s m args below meth c s.heap [] 0 0 (MQ below (vp_Si post) args s 0 0 (fun _ => False)) (F0 m 7 ls []) := by
  obtain ⟨hx, hb, hr, hts, hown, hlocks, hml, hC⟩ := id E
  have hK := hC.1
  intro y0 y3 y4 y5  ls h hl
  unfold wb_J_indexOfChar_7 at h
  refine lv_iload hx hb d_JL_indexOfChar_7 (lv_at hl 3 rfl) ?_
  refine lv_iload_n hx hb d_JL_indexOfChar_9 rfl (lv_at hl 1 rfl) ?_
  refine lv_icmp_ge (tgt := 31) hx hb d_JL_indexOfChar_10 (by decide) (fun c9 => ?_) (fun c9 => ?_)
  · have h := h.1 c9
    refine lv_iconst (v := (-1)) hx hb d_JL_indexOfChar_31 (by decide) ?_
    exact W.iret hx hb hr (fun t ht hW => ⟨_, rfl, h, ht⟩) (fun _ z => by cases z) d_JL_indexOfChar_32
  · have h := h.2 c9
    refine lv_aload_n hx hb d_JL_indexOfChar_13 rfl (lv_at hl 0 rfl) ?_
    refine lv_iload hx hb d_JL_indexOfChar_14 (lv_at hl 3 rfl) ?_
    have hk9 := h.1
    have h := h.2
    have hi9 := h.1
    have h := h.2
    refine va_tb hx hb (hC.2.2.2.2.1.1 y0 hk9).2.2.2 va_S.rf hi9 rfl d_JL_indexOfChar_16 ?_
    refine lv_iload hx hb d_JL_indexOfChar_17 (lv_at hl 2 rfl) ?_
    refine lv_icmp_ne (tgt := 25) hx hb d_JL_indexOfChar_19 (by decide) (fun c9 => ?_) (fun c9 => ?_)
    · have h := h.1 c9
      refine lv_iinc (v := y5 + 1) (lv' := [(5, .int (y5 + 1)), (0, .ref (G.2.2.2.2 y0)), (3, .int y3), (4, .int y4)]) hx hb d_JL_indexOfChar_25 hl (k := 3) rfl rfl (by decide) rfl (fun ls hl => ?_)
      refine lv_goto (tgt := 7) hx hb d_JL_indexOfChar_28 (by decide) ?_
      exact hK0 _ _ _ _ _ h (lv_sub hl [1, 2, 3, 0] rfl)
    · have h := h.2 c9
      refine lv_iload hx hb d_JL_indexOfChar_22 (lv_at hl 3 rfl) ?_
      exact W.iret hx hb hr (fun t ht hW => ⟨_, rfl, h, ht⟩) (fun _ z => by cases z) d_JL_indexOfChar_24
set_option maxHeartbeats 4000000 in
set_option maxRecDepth 100000 in
theorem t_J_indexOfChar_7 {p : Program} {l : Launch} {e : Env} {s : State} {m : MethodId} {args : Array Value} {below : List Frame} {meth : Method} {c : Code} {G : GX} {post : Int32 → Prop} (E : EN p s m args meth c G R_JL cc_JL_indexOfChar 6 (some .int) BG) (hR : va_P G.1 vwCl [] s.heap) : ∀ (n : Nat) (y0 : Nat) (y3 : Int32) (y4 : Int32) (y5 : Int32) (ls : Array Slot), w_J_indexOfChar_7 post n y0 y3 y4 y5 → lv_has ls 6 [(0, .ref (G.2.2.2.2 y0)), (3, .int y3), (4, .int y4), (5, .int y5)] → W p l e rm_J_indexOfChar s m args below meth c s.heap [] 0 0 (MQ below (vp_Si post) args s 0 0 (fun _ => False)) (F0 m 7 ls []) := by
  intro n
  induction n with
  | zero => intro y0 y3 y4 y5  ls h; exact h.elim
  | succ n ih =>
    intro y0 y3 y4 y5  ls h hl
    exact tb_J_indexOfChar_7 E hR  ih _ _ _ _ _ h hl
set_option maxHeartbeats 4000000 in
set_option maxRecDepth 100000 in
theorem t_J_indexOfChar_in {p : Program} {l : Launch} {e : Env} {s : State} {m : MethodId} {args : Array Value} {below : List Frame} {meth : Method} {c : Code} {G : GX} {post : Int32 → Prop} {x0 : Nat} {x1 : Int32} {x2 : Int32} {x3 : Int32} (E : EN p s m args meth c G R_JL cc_JL_indexOfChar 6 (some .int) BG) (hR : va_P G.1 vwCl [] s.heap) : ∀ (ls : Array Slot), wp_J_indexOfChar post x0 x1 x2 x3 → lv_has ls 6 [(0, .ref (G.2.2.2.2 x0)), (1, .int x1), (2, .int x2), (3, .int x3)] → W p l e rm_J_indexOfChar s m args below meth c s.heap [] 0 0 (MQ below (vp_Si post) args s 0 0 (fun _ => False)) (F0 m 0 ls []) := by
  obtain ⟨hx, hb, hr, hts, hown, hlocks, hml, hC⟩ := id E
  have hK := hC.1
  intro ls h hl
  unfold wp_J_indexOfChar at h
  refine lv_iload_n hx hb d_JL_indexOfChar_0 rfl (lv_at hl 1 rfl) ?_
  refine lv_i2b hx hb d_JL_indexOfChar_1 rfl ?_
  refine lv_istore (lv' := [(4, .int x1.toInt8.toInt32), (0, .ref (G.2.2.2.2 x0)), (1, .int x1), (2, .int x2), (3, .int x3)]) hx hb d_JL_indexOfChar_2 hl (by decide) rfl (fun ls hl => ?_)
  refine lv_iload_n hx hb d_JL_indexOfChar_4 rfl (lv_at hl 3 rfl) ?_
  refine lv_istore (lv' := [(5, .int x2), (4, .int x1.toInt8.toInt32), (0, .ref (G.2.2.2.2 x0)), (1, .int x1), (2, .int x2), (3, .int x3)]) hx hb d_JL_indexOfChar_5 hl (by decide) rfl (fun ls hl => ?_)
  obtain ⟨n, h⟩ := h
  exact t_J_indexOfChar_7 E hR  n _ _ _ _ _ h (lv_sub hl [2, 5, 1, 0] rfl)
set_option maxHeartbeats 4000000 in
set_option maxRecDepth 100000 in
theorem c_J_indexOfChar (l : Launch) (G : GX) (x0 : Nat) (x1 : Int32) (x2 : Int32) (x3 : Int32) (post : Int32 → Prop) (h : wp_J_indexOfChar post x0 x1 x2 x3) : Met l y_JL_indexOfChar wc_JL_indexOfChar rm_J_indexOfChar (mP G [.ref (G.2.2.2.2 x0), .int x1, .int x2, .int x3] []) (vp_Si post) 0 0 (fun _ => False) := by
  refine Met.ofW (cc := cc_JL_indexOfChar) (maxL := 6) (ret := (some .int)) (by decide) rfl ?_
  intro p e s m args below meth c s₁ B hml hv
  obtain ⟨rfl, hC, hR⟩ := hv
  have E : EN p s m ([.ref (G.2.2.2.2 x0), .int x1, .int x2, .int x3] : List Value).toArray meth c G R_JL cc_JL_indexOfChar 6 (some .int) BG := ⟨B.exec, B.bytes, B.returns, fun w h => atoms_spec (ws := wc_JL_indexOfChar) B.pre w (List.mem_cons_of_mem _ h), findClass_of_methodNamed B.named, B.notSynchronized, hml, hC⟩
  have hl := lv_entry ([.ref (G.2.2.2.2 x0), .int x1, .int x2, .int x3]) (n := 6) (Nat.le_of_ble_eq_true rfl)
  rw [lg_entry_eq]
  generalize (lg_sl ([.ref (G.2.2.2.2 x0), .int x1, .int x2, .int x3]) ++ List.replicate (6 - (lg_sl ([.ref (G.2.2.2.2 x0), .int x1, .int x2, .int x3])).length) Slot.unset).toArray = ls at hl ⊢
  have hl : lv_has ls 6 [(0, .ref (G.2.2.2.2 x0)), (1, .int x1), (2, .int x2), (3, .int x3)] := hl
  exact t_J_indexOfChar_in E hR _ h hl
set_option maxHeartbeats 4000000 in
set_option maxRecDepth 100000 in
theorem t_J_lindexOf_in {p : Program} {l : Launch} {e : Env} {s : State} {m : MethodId} {args : Array Value} {below : List Frame} {meth : Method} {c : Code} {G : GX} {post : Int32 → Prop} {x0 : Nat} {x1 : Int32} {x2 : Int32} {x3 : Int32} (E : EN p s m args meth c G R_JL cc_JL_indexOf 4 (some .int) BG) (hR : va_P G.1 vwCl [] s.heap) : ∀ (ls : Array Slot), wp_J_lindexOf post x0 x1 x2 x3 → lv_has ls 4 [(0, .ref (G.2.2.2.2 x0)), (1, .int x1), (2, .int x2), (3, .int x3)] → W p l e rm_J_lindexOf s m args below meth c s.heap [] 0 0 (MQ below (vp_Si post) args s 0 0 (fun _ => False)) (F0 m 0 ls []) := by
  obtain ⟨hx, hb, hr, hts, hown, hlocks, hml, hC⟩ := id E
  have hK := hC.1
  intro ls h hl
  unfold wp_J_lindexOf at h
  refine lv_iload_n hx hb d_JL_indexOf_0 rfl (lv_at hl 1 rfl) ?_
  have hRc : va_P G.1 vwCl [] s.heap := vaP_nil
  refine vp_callSi (va_runS (As := [.int x1]) (rest := []) ⟨hx, hb, hml, hown, hts⟩ (c_J_canEncode l G x1 _ h) (va_cwS 1 hts (gwS b_25 b_26 b_23 b_24) rfl rfl rfl hd_JL_canEncode.2 ⟨Nat.le_of_ble_eq_true rfl, Nat.le_of_ble_eq_true rfl⟩) ⟨mP_blind, fun U hU hW => ⟨rfl, hC.to0 hW hU, by rw [hU]; exact hRc⟩⟩ rfl rfl hl.1 rfl (lv_room (Nat.le_of_ble_eq_true rfl)) d_JL_indexOf_1 ⟨Nat.le_of_ble_eq_true rfl, Nat.le_of_ble_eq_true rfl⟩).run (fun r3 h => ?_)
  refine lv_if_ne (tgt := 9) hx hb d_JL_indexOf_4 (by decide) (fun c9 => ?_) (fun c9 => ?_)
  · have h := h.1 c9
    refine lv_iload_n hx hb d_JL_indexOf_9 rfl (lv_at hl 2 rfl) ?_
    refine lv_iconst (v := 0) hx hb d_JL_indexOf_10 (by decide) ?_
    refine va_mmax hx hb (hml.trans hl.1.symm) hown (hts _ b_27) (hts _ b_28) (hts _ b_29) (hts _ b_30) (by decide) (by decide) (Nat.zero_le _) (Nat.zero_le _) d_JL_indexOf_11 ?_
    refine lv_istore_n (lv' := [(2, .int (if x2 < 0 then 0 else x2)), (0, .ref (G.2.2.2.2 x0)), (1, .int x1), (3, .int x3)]) hx hb d_JL_indexOf_14 rfl hl (by decide) rfl (fun ls hl => ?_)
    refine lv_iload_n hx hb d_JL_indexOf_15 rfl (lv_at hl 3 rfl) ?_
    refine lv_aload_n hx hb d_JL_indexOf_16 rfl (lv_at hl 1 rfl) ?_
    have hk9 := h.1
    have h := h.2
    refine va_tlen hx hb (hC.2.2.2.2.1.1 x0 hk9).2.2.2 va_S.rf (v := Int32.ofNat (ltL.getD x0 0)) rfl d_JL_indexOf_17 ?_
    refine va_mmin hx hb (hml.trans hl.1.symm) hown (hts _ b_31) (hts _ b_32) (hts _ b_29) (hts _ b_33) (by decide) (by decide) (Nat.zero_le _) (Nat.zero_le _) d_JL_indexOf_18 ?_
    refine lv_istore_n (lv' := [(3, .int (if (Int32.ofNat (ltL.getD x0 0)) < x3 then (Int32.ofNat (ltL.getD x0 0)) else x3)), (2, .int (if x2 < 0 then 0 else x2)), (0, .ref (G.2.2.2.2 x0)), (1, .int x1)]) hx hb d_JL_indexOf_21 rfl hl (by decide) rfl (fun ls hl => ?_)
    refine lv_iload_n hx hb d_JL_indexOf_22 rfl (lv_at hl 1 rfl) ?_
    refine lv_iload_n hx hb d_JL_indexOf_23 rfl (lv_at hl 0 rfl) ?_
    refine lv_icmp_lt (tgt := 29) hx hb d_JL_indexOf_24 (by decide) (fun c9 => ?_) (fun c9 => ?_)
    · have h := h.1 c9
      refine lv_aload_n hx hb d_JL_indexOf_29 rfl (lv_at hl 2 rfl) ?_
      refine lv_iload_n hx hb d_JL_indexOf_30 rfl (lv_at hl 3 rfl) ?_
      refine lv_iload_n hx hb d_JL_indexOf_31 rfl (lv_at hl 1 rfl) ?_
      refine lv_iload_n hx hb d_JL_indexOf_32 rfl (lv_at hl 0 rfl) ?_
      have hRc : va_P G.1 vwCl [] s.heap := vaP_nil
      refine vp_callSi (va_runS (As := [.ref (G.2.2.2.2 x0), .int x1, .int (if x2 < 0 then 0 else x2), .int (if (Int32.ofNat (ltL.getD x0 0)) < x3 then (Int32.ofNat (ltL.getD x0 0)) else x3)]) (rest := []) ⟨hx, hb, hml, hown, hts⟩ (c_J_indexOfChar l G x0 x1 (if x2 < 0 then 0 else x2) (if (Int32.ofNat (ltL.getD x0 0)) < x3 then (Int32.ofNat (ltL.getD x0 0)) else x3) _ h) (va_cwS 4 hts (gwS b_35 b_36 b_23 b_34) rfl rfl rfl hd_JL_indexOfChar.2 ⟨Nat.le_of_ble_eq_true rfl, Nat.le_of_ble_eq_true rfl⟩) ⟨mP_blind, fun U hU hW => ⟨rfl, hC.to0 hW hU, by rw [hU]; exact hRc⟩⟩ rfl rfl hl.1 rfl (lv_room (Nat.le_of_ble_eq_true rfl)) d_JL_indexOf_33 ⟨Nat.le_of_ble_eq_true rfl, Nat.le_of_ble_eq_true rfl⟩).run (fun r4 h => ?_)
      exact W.iret hx hb hr (fun t ht hW => ⟨_, rfl, h, ht⟩) (fun _ z => by cases z) d_JL_indexOf_36
    · have h := h.2 c9
      refine lv_iconst (v := (-1)) hx hb d_JL_indexOf_27 (by decide) ?_
      exact W.iret hx hb hr (fun t ht hW => ⟨_, rfl, h, ht⟩) (fun _ z => by cases z) d_JL_indexOf_28
  · have h := h.2 c9
    refine lv_iconst (v := (-1)) hx hb d_JL_indexOf_7 (by decide) ?_
    exact W.iret hx hb hr (fun t ht hW => ⟨_, rfl, h, ht⟩) (fun _ z => by cases z) d_JL_indexOf_8
set_option maxHeartbeats 4000000 in
set_option maxRecDepth 100000 in
theorem c_J_lindexOf (l : Launch) (G : GX) (x0 : Nat) (x1 : Int32) (x2 : Int32) (x3 : Int32) (post : Int32 → Prop) (h : wp_J_lindexOf post x0 x1 x2 x3) : Met l y_JL_indexOf wc_JL_indexOf rm_J_lindexOf (mP G [.ref (G.2.2.2.2 x0), .int x1, .int x2, .int x3] []) (vp_Si post) 0 0 (fun _ => False) := by
  refine Met.ofW (cc := cc_JL_indexOf) (maxL := 4) (ret := (some .int)) (by decide) rfl ?_
  intro p e s m args below meth c s₁ B hml hv
  obtain ⟨rfl, hC, hR⟩ := hv
  have E : EN p s m ([.ref (G.2.2.2.2 x0), .int x1, .int x2, .int x3] : List Value).toArray meth c G R_JL cc_JL_indexOf 4 (some .int) BG := ⟨B.exec, B.bytes, B.returns, fun w h => atoms_spec (ws := wc_JL_indexOf) B.pre w (List.mem_cons_of_mem _ h), findClass_of_methodNamed B.named, B.notSynchronized, hml, hC⟩
  have hl := lv_entry ([.ref (G.2.2.2.2 x0), .int x1, .int x2, .int x3]) (n := 4) (Nat.le_of_ble_eq_true rfl)
  rw [lg_entry_eq]
  generalize (lg_sl ([.ref (G.2.2.2.2 x0), .int x1, .int x2, .int x3]) ++ List.replicate (4 - (lg_sl ([.ref (G.2.2.2.2 x0), .int x1, .int x2, .int x3])).length) Slot.unset).toArray = ls at hl ⊢
  have hl : lv_has ls 4 [(0, .ref (G.2.2.2.2 x0)), (1, .int x1), (2, .int x2), (3, .int x3)] := hl
  exact t_J_lindexOf_in E hR _ h hl
set_option maxHeartbeats 4000000 in
set_option maxRecDepth 100000 in
theorem t_J_indexOf2_in {p : Program} {l : Launch} {e : Env} {s : State} {m : MethodId} {args : Array Value} {below : List Frame} {meth : Method} {c : Code} {G : GX} {post : Int32 → Prop} {x0 : Nat} {x1 : Int32} {x2 : Int32} (E : EN p s m args meth c G R_JS cc_JS_indexOf2 3 (some .int) BG) (hR : va_P G.1 vwCl [] s.heap) : ∀ (ls : Array Slot), wp_J_indexOf2 post x0 x1 x2 → lv_has ls 3 [(0, .ref (G.2.2.2.1 x0)), (1, .int x1), (2, .int x2)] → W p l e rm_J_indexOf2 s m args below meth c s.heap [] 0 0 (MQ below (vp_Si post) args s 0 0 (fun _ => False)) (F0 m 0 ls []) := by
  obtain ⟨hx, hb, hr, hts, hown, hlocks, hml, hC⟩ := id E
  have hK := hC.1
  intro ls h hl
  unfold wp_J_indexOf2 at h
  refine lv_aload_n hx hb d_JS_indexOf2_0 rfl (lv_at hl 0 rfl) ?_
  have hRc : va_P G.1 vwCl [] s.heap := vaP_nil
  have hk9 := h.1
  have h := h.2
  refine vp_callSi (va_runV (As := []) (rest := []) ⟨hx, hb, hml, hown, hts⟩ (c_J_isLatin1 l G x0 _ h) (cwV 0 hts (gwV b_17 b_18 b_19 b_12 b_16) rfl rfl rfl hd_JS_isLatin1 ⟨Nat.le_of_ble_eq_true rfl, Nat.le_of_ble_eq_true rfl⟩) ⟨mP_blind, vk_recv hC.2.2.2.2.1 hk9 va_S.rf, fun U hU hW => ⟨rfl, hC.to0 hW hU, by rw [hU]; exact hRc⟩⟩ rfl rfl hl.1 rfl (lv_room (Nat.le_of_ble_eq_true rfl)) d_JS_indexOf2_1 ⟨Nat.le_of_ble_eq_true rfl, Nat.le_of_ble_eq_true rfl⟩).run (fun r5 h => ?_)
  refine lv_if_eq (tgt := 23) hx hb d_JS_indexOf2_4 (by decide) (fun c9 => ?_) (fun c9 => ?_)
  · have h := h.1 c9
    refine lv_aload_n hx hb d_JS_indexOf2_23 rfl (lv_at hl 0 rfl) ?_
    have hk9 := h.1
    have h := h.2
    refine vk_getf (v := .ref (G.2.2.2.2 x0)) hx hb (hC.2.2.2.2.1.1 x0 hk9).2.2.1 va_S.rf hown (hts _ b_7) (fun _ h9 => h9) d_JS_indexOf2_24 ?_
    refine lv_iload_n hx hb d_JS_indexOf2_27 rfl (lv_at hl 1 rfl) ?_
    refine lv_iload_n hx hb d_JS_indexOf2_28 rfl (lv_at hl 2 rfl) ?_
    refine lv_aload_n hx hb d_JS_indexOf2_29 rfl (lv_at hl 0 rfl) ?_
    have hRc : va_P G.1 vwCl [] s.heap := vaP_nil
    have hk9 := h.1
    have h := h.2
    refine vp_callSi (va_runV (As := []) (rest := [.int x2, .int x1, .ref (G.2.2.2.2 x0)]) ⟨hx, hb, hml, hown, hts⟩ (c_J_length l G x0 _ h) (cwV 0 hts (gwV b_38 b_39 b_40 b_12 b_37) rfl rfl rfl hd_JS_length ⟨Nat.le_of_ble_eq_true rfl, Nat.le_of_ble_eq_true rfl⟩) ⟨mP_blind, vk_recv hC.2.2.2.2.1 hk9 va_S.rf, fun U hU hW => ⟨rfl, hC.to0 hW hU, by rw [hU]; exact hRc⟩⟩ rfl rfl hl.1 rfl (lv_room (Nat.le_of_ble_eq_true rfl)) d_JS_indexOf2_30 ⟨Nat.le_of_ble_eq_true rfl, Nat.le_of_ble_eq_true rfl⟩).run (fun r6 h => ?_)
    exact h.elim
  · have h := h.2 c9
    refine lv_aload_n hx hb d_JS_indexOf2_7 rfl (lv_at hl 0 rfl) ?_
    have hk9 := h.1
    have h := h.2
    refine vk_getf (v := .ref (G.2.2.2.2 x0)) hx hb (hC.2.2.2.2.1.1 x0 hk9).2.2.1 va_S.rf hown (hts _ b_7) (fun _ h9 => h9) d_JS_indexOf2_8 ?_
    refine lv_iload_n hx hb d_JS_indexOf2_11 rfl (lv_at hl 1 rfl) ?_
    refine lv_iload_n hx hb d_JS_indexOf2_12 rfl (lv_at hl 2 rfl) ?_
    refine lv_aload_n hx hb d_JS_indexOf2_13 rfl (lv_at hl 0 rfl) ?_
    have hRc : va_P G.1 vwCl [] s.heap := vaP_nil
    have hk9 := h.1
    have h := h.2
    refine vp_callSi (va_runV (As := []) (rest := [.int x2, .int x1, .ref (G.2.2.2.2 x0)]) ⟨hx, hb, hml, hown, hts⟩ (c_J_length l G x0 _ h) (cwV 0 hts (gwV b_38 b_39 b_40 b_12 b_37) rfl rfl rfl hd_JS_length ⟨Nat.le_of_ble_eq_true rfl, Nat.le_of_ble_eq_true rfl⟩) ⟨mP_blind, vk_recv hC.2.2.2.2.1 hk9 va_S.rf, fun U hU hW => ⟨rfl, hC.to0 hW hU, by rw [hU]; exact hRc⟩⟩ rfl rfl hl.1 rfl (lv_room (Nat.le_of_ble_eq_true rfl)) d_JS_indexOf2_14 ⟨Nat.le_of_ble_eq_true rfl, Nat.le_of_ble_eq_true rfl⟩).run (fun r7 h => ?_)
    have hRc : va_P G.1 vwCl [] s.heap := vaP_nil
    refine vp_callSi (va_runS (As := [.ref (G.2.2.2.2 x0), .int x1, .int x2, .int r7]) (rest := []) ⟨hx, hb, hml, hown, hts⟩ (c_J_lindexOf l G x0 x1 x2 r7 _ h) (va_cwS 4 hts (gwS b_42 b_43 b_23 b_41) rfl rfl rfl hd_JL_indexOf.2 ⟨Nat.le_of_ble_eq_true rfl, Nat.le_of_ble_eq_true rfl⟩) ⟨mP_blind, fun U hU hW => ⟨rfl, hC.to0 hW hU, by rw [hU]; exact hRc⟩⟩ rfl rfl hl.1 rfl (lv_room (Nat.le_of_ble_eq_true rfl)) d_JS_indexOf2_17 ⟨Nat.le_of_ble_eq_true rfl, Nat.le_of_ble_eq_true rfl⟩).run (fun r8 h => ?_)
    refine lv_goto (tgt := 36) hx hb d_JS_indexOf2_20 (by decide) ?_
    exact W.iret hx hb hr (fun t ht hW => ⟨_, rfl, h, ht⟩) (fun _ z => by cases z) d_JS_indexOf2_36
set_option maxHeartbeats 4000000 in
set_option maxRecDepth 100000 in
theorem c_J_indexOf2 (l : Launch) (G : GX) (x0 : Nat) (x1 : Int32) (x2 : Int32) (post : Int32 → Prop) (h : wp_J_indexOf2 post x0 x1 x2) : Met l y_JS_indexOf2 wc_JS_indexOf2 rm_J_indexOf2 (mP G [.ref (G.2.2.2.1 x0), .int x1, .int x2] []) (vp_Si post) 0 0 (fun _ => False) := by
  refine Met.ofW (cc := cc_JS_indexOf2) (maxL := 3) (ret := (some .int)) (by decide) rfl ?_
  intro p e s m args below meth c s₁ B hml hv
  obtain ⟨rfl, hC, hR⟩ := hv
  have E : EN p s m ([.ref (G.2.2.2.1 x0), .int x1, .int x2] : List Value).toArray meth c G R_JS cc_JS_indexOf2 3 (some .int) BG := ⟨B.exec, B.bytes, B.returns, fun w h => atoms_spec (ws := wc_JS_indexOf2) B.pre w (List.mem_cons_of_mem _ h), findClass_of_methodNamed B.named, B.notSynchronized, hml, hC⟩
  have hl := lv_entry ([.ref (G.2.2.2.1 x0), .int x1, .int x2]) (n := 3) (Nat.le_of_ble_eq_true rfl)
  rw [lg_entry_eq]
  generalize (lg_sl ([.ref (G.2.2.2.1 x0), .int x1, .int x2]) ++ List.replicate (3 - (lg_sl ([.ref (G.2.2.2.1 x0), .int x1, .int x2])).length) Slot.unset).toArray = ls at hl ⊢
  have hl : lv_has ls 3 [(0, .ref (G.2.2.2.1 x0)), (1, .int x1), (2, .int x2)] := hl
  exact t_J_indexOf2_in E hR _ h hl
set_option maxHeartbeats 4000000 in
set_option maxRecDepth 100000 in
theorem t_J_indexOf_in {p : Program} {l : Launch} {e : Env} {s : State} {m : MethodId} {args : Array Value} {below : List Frame} {meth : Method} {c : Code} {G : GX} {post : Int32 → Prop} {x0 : Nat} {x1 : Int32} (E : EN p s m args meth c G R_JS cc_JS_indexOf 2 (some .int) BG) (hR : va_P G.1 vwCl [] s.heap) : ∀ (ls : Array Slot), wp_J_indexOf post x0 x1 → lv_has ls 2 [(0, .ref (G.2.2.2.1 x0)), (1, .int x1)] → W p l e rm_J_indexOf s m args below meth c s.heap [] 0 0 (MQ below (vp_Si post) args s 0 0 (fun _ => False)) (F0 m 0 ls []) := by
  obtain ⟨hx, hb, hr, hts, hown, hlocks, hml, hC⟩ := id E
  have hK := hC.1
  intro ls h hl
  unfold wp_J_indexOf at h
  refine lv_aload_n hx hb d_JS_indexOf_0 rfl (lv_at hl 0 rfl) ?_
  refine lv_iload_n hx hb d_JS_indexOf_1 rfl (lv_at hl 1 rfl) ?_
  refine lv_iconst (v := 0) hx hb d_JS_indexOf_2 (by decide) ?_
  have hRc : va_P G.1 vwCl [] s.heap := vaP_nil
  have hk9 := h.1
  have h := h.2
  refine vp_callSi (va_runV (As := [.int x1, .int 0]) (rest := []) ⟨hx, hb, hml, hown, hts⟩ (c_J_indexOf2 l G x0 x1 0 _ h) (cwV 2 hts (gwV b_45 b_46 b_47 b_12 b_44) rfl rfl rfl hd_JS_indexOf2 ⟨Nat.le_of_ble_eq_true rfl, Nat.le_of_ble_eq_true rfl⟩) ⟨mP_blind, vk_recv hC.2.2.2.2.1 hk9 va_S.rf, fun U hU hW => ⟨rfl, hC.to0 hW hU, by rw [hU]; exact hRc⟩⟩ rfl rfl hl.1 rfl (lv_room (Nat.le_of_ble_eq_true rfl)) d_JS_indexOf_3 ⟨Nat.le_of_ble_eq_true rfl, Nat.le_of_ble_eq_true rfl⟩).run (fun r2 h => ?_)
  exact W.iret hx hb hr (fun t ht hW => ⟨_, rfl, h, ht⟩) (fun _ z => by cases z) d_JS_indexOf_6
set_option maxHeartbeats 4000000 in
set_option maxRecDepth 100000 in
theorem c_J_indexOf (l : Launch) (G : GX) (x0 : Nat) (x1 : Int32) (post : Int32 → Prop) (h : wp_J_indexOf post x0 x1) : Met l y_JS_indexOf wc_JS_indexOf rm_J_indexOf (mP G [.ref (G.2.2.2.1 x0), .int x1] []) (vp_Si post) 0 0 (fun _ => False) := by
  refine Met.ofW (cc := cc_JS_indexOf) (maxL := 2) (ret := (some .int)) (by decide) rfl ?_
  intro p e s m args below meth c s₁ B hml hv
  obtain ⟨rfl, hC, hR⟩ := hv
  have E : EN p s m ([.ref (G.2.2.2.1 x0), .int x1] : List Value).toArray meth c G R_JS cc_JS_indexOf 2 (some .int) BG := ⟨B.exec, B.bytes, B.returns, fun w h => atoms_spec (ws := wc_JS_indexOf) B.pre w (List.mem_cons_of_mem _ h), findClass_of_methodNamed B.named, B.notSynchronized, hml, hC⟩
  have hl := lv_entry ([.ref (G.2.2.2.1 x0), .int x1]) (n := 2) (Nat.le_of_ble_eq_true rfl)
  rw [lg_entry_eq]
  generalize (lg_sl ([.ref (G.2.2.2.1 x0), .int x1]) ++ List.replicate (2 - (lg_sl ([.ref (G.2.2.2.1 x0), .int x1])).length) Slot.unset).toArray = ls at hl ⊢
  have hl : lv_has ls 2 [(0, .ref (G.2.2.2.1 x0)), (1, .int x1)] := hl
  exact t_J_indexOf_in E hR _ h hl
