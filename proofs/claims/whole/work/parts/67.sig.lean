set_option maxHeartbeats 4000000 in
set_option maxRecDepth 100000 in
theorem t_Sg_roleAt_in {p : Program} {l : Launch} {e : Env} {s : State} {m : MethodId} {args : Array Value} {below : List Frame} {meth : Method} {c : Code} {G : GX} {a0_0 a0_1 a0_2 a0_3 a0_4 : Nat} {u0 : SgC} {post : Int32 → Prop} {x1 : Int32} (E : EN p s m args meth c G R_Sg cc_Sg_roleAt 2 (some .int) BG) (hR : va_P G.1 vwCl [(a0_0, .inr (5, [.int (sgK u0), .ref a0_1, .ref a0_2, .ref a0_3, .ref a0_4, .int (sgO u0), .int (sgP u0)])), (a0_1, .inl (G.2.1 0, sgN u0, .inl (sgL u0))), (a0_2, .inl (G.2.1 1, sgN u0, .inl (sgR u0))), (a0_3, .inl (G.2.1 1, sgM u0, .inl (sgB u0))), (a0_4, .inl (G.2.1 1, sgM u0, .inl (sgE u0)))] s.heap) : ∀ (ls : Array Slot), wp_Sg_roleAt post u0 x1 → lv_has ls 2 [(0, .ref a0_0), (1, .int x1)] → W p l e rm_Sg_roleAt s m args below meth c s.heap [] 0 0 (MQ below (vp_Si post) args s 0 0 (fun _ => False)) (F0 m 0 ls []) := by
  obtain ⟨hx, hb, hr, hts, hown, hlocks, hml, hC⟩ := id E
  have hK := hC.1
  intro ls h hl
  unfold wp_Sg_roleAt at h
  refine lv_iload_n hx hb d_Sg_roleAt_0 rfl (lv_at hl 1 rfl) ?_
  refine lv_if_lt (tgt := 22) hx hb d_Sg_roleAt_1 (by decide) (fun c9 => ?_) (fun c9 => ?_)
  · have h := h.1 c9
    refine lv_iconst (v := 0) hx hb d_Sg_roleAt_22 (by decide) ?_
    exact W.iret hx hb hr (fun t ht hW => ⟨_, rfl, h, ht⟩) (fun _ z => by cases z) d_Sg_roleAt_23
  · have h := h.2 c9
    refine lv_iload_n hx hb d_Sg_roleAt_4 rfl (lv_at hl 1 rfl) ?_
    refine lv_aload_n hx hb d_Sg_roleAt_5 rfl (lv_at hl 0 rfl) ?_
    refine va_get (D := G.1) (ci := 5) (v := .ref a0_2) (C := R_Sg) (T := T_Sg) (N := 7) hx hb hts i_Sg hown hK hR 0 rfl rfl 2 (by decide) (hts _ b_166) (fun _ h9 => h9) rfl d_Sg_roleAt_6 ?_
    refine va_alen hx hb hK hR 2 1 rfl rfl (v := Int32.ofNat (sgN u0)) rfl d_Sg_roleAt_9 ?_
    refine lv_icmp_ge (tgt := 22) hx hb d_Sg_roleAt_10 (by decide) (fun c9 => ?_) (fun c9 => ?_)
    · have h := h.1 c9
      refine lv_iconst (v := 0) hx hb d_Sg_roleAt_22 (by decide) ?_
      exact W.iret hx hb hr (fun t ht hW => ⟨_, rfl, h, ht⟩) (fun _ z => by cases z) d_Sg_roleAt_23
    · have h := h.2 c9
      refine lv_aload_n hx hb d_Sg_roleAt_13 rfl (lv_at hl 0 rfl) ?_
      refine va_get (D := G.1) (ci := 5) (v := .ref a0_2) (C := R_Sg) (T := T_Sg) (N := 7) hx hb hts i_Sg hown hK hR 0 rfl rfl 2 (by decide) (hts _ b_166) (fun _ h9 => h9) rfl d_Sg_roleAt_14 ?_
      refine lv_iload_n hx hb d_Sg_roleAt_17 rfl (lv_at hl 1 rfl) ?_
      have hi9 := h.1
      have h := h.2
      refine va_iald hx hb hK hR 2 1 rfl rfl hi9 d_Sg_roleAt_18 ?_
      refine lv_goto (tgt := 23) hx hb d_Sg_roleAt_19 (by decide) ?_
      exact W.iret hx hb hr (fun t ht hW => ⟨_, rfl, h, ht⟩) (fun _ z => by cases z) d_Sg_roleAt_23
set_option maxHeartbeats 4000000 in
set_option maxRecDepth 100000 in
theorem c_Sg_roleAt (l : Launch) (G : GX) (a0_0 a0_1 a0_2 a0_3 a0_4 : Nat) (u0 : SgC) (x1 : Int32) (post : Int32 → Prop) (h : wp_Sg_roleAt post u0 x1) : Met l y_Sg_roleAt wc_Sg_roleAt rm_Sg_roleAt (mP G [.ref a0_0, .int x1] [(a0_0, .inr (5, [.int (sgK u0), .ref a0_1, .ref a0_2, .ref a0_3, .ref a0_4, .int (sgO u0), .int (sgP u0)])), (a0_1, .inl (G.2.1 0, sgN u0, .inl (sgL u0))), (a0_2, .inl (G.2.1 1, sgN u0, .inl (sgR u0))), (a0_3, .inl (G.2.1 1, sgM u0, .inl (sgB u0))), (a0_4, .inl (G.2.1 1, sgM u0, .inl (sgE u0)))]) (vp_Si post) 0 0 (fun _ => False) := by
  refine Met.ofW (cc := cc_Sg_roleAt) (maxL := 2) (ret := (some .int)) (by decide) rfl ?_
  intro p e s m args below meth c s₁ B hml hv
  obtain ⟨rfl, hC, hR⟩ := hv
  have E : EN p s m ([.ref a0_0, .int x1] : List Value).toArray meth c G R_Sg cc_Sg_roleAt 2 (some .int) BG := ⟨B.exec, B.bytes, B.returns, fun w h => atoms_spec (ws := wc_Sg_roleAt) B.pre w (List.mem_cons_of_mem _ h), findClass_of_methodNamed B.named, B.notSynchronized, hml, hC⟩
  have hl := lv_entry ([.ref a0_0, .int x1]) (n := 2) (Nat.le_of_ble_eq_true rfl)
  rw [lg_entry_eq]
  generalize (lg_sl ([.ref a0_0, .int x1]) ++ List.replicate (2 - (lg_sl ([.ref a0_0, .int x1])).length) Slot.unset).toArray = ls at hl ⊢
  have hl : lv_has ls 2 [(0, .ref a0_0), (1, .int x1)] := hl
  exact t_Sg_roleAt_in E hR _ h hl
set_option maxHeartbeats 4000000 in
set_option maxRecDepth 100000 in
theorem t_Sg_letterAt_in {p : Program} {l : Launch} {e : Env} {s : State} {m : MethodId} {args : Array Value} {below : List Frame} {meth : Method} {c : Code} {G : GX} {a0_0 a0_1 a0_2 a0_3 a0_4 : Nat} {u0 : SgC} {post : Int32 → Prop} {x1 : Int32} (E : EN p s m args meth c G R_Sg cc_Sg_letterAt 2 (some .char) BG) (hR : va_P G.1 vwCl [(a0_0, .inr (5, [.int (sgK u0), .ref a0_1, .ref a0_2, .ref a0_3, .ref a0_4, .int (sgO u0), .int (sgP u0)])), (a0_1, .inl (G.2.1 0, sgN u0, .inl (sgL u0))), (a0_2, .inl (G.2.1 1, sgN u0, .inl (sgR u0))), (a0_3, .inl (G.2.1 1, sgM u0, .inl (sgB u0))), (a0_4, .inl (G.2.1 1, sgM u0, .inl (sgE u0)))] s.heap) : ∀ (ls : Array Slot), wp_Sg_letterAt post u0 x1 → lv_has ls 2 [(0, .ref a0_0), (1, .int x1)] → W p l e rm_Sg_letterAt s m args below meth c s.heap [] 0 0 (MQ below (vp_Si post) args s 0 0 (fun _ => False)) (F0 m 0 ls []) := by
  obtain ⟨hx, hb, hr, hts, hown, hlocks, hml, hC⟩ := id E
  have hK := hC.1
  intro ls h hl
  unfold wp_Sg_letterAt at h
  refine lv_iload_n hx hb d_Sg_letterAt_0 rfl (lv_at hl 1 rfl) ?_
  refine lv_if_lt (tgt := 22) hx hb d_Sg_letterAt_1 (by decide) (fun c9 => ?_) (fun c9 => ?_)
  · have h := h.1 c9
    refine lv_iconst (v := 0) hx hb d_Sg_letterAt_22 (by decide) ?_
    exact W.zret hx hb hr (by decide) (fun t ht hW => ⟨_, rfl, h, ht⟩) (fun _ z => by cases z) d_Sg_letterAt_23
  · have h := h.2 c9
    refine lv_iload_n hx hb d_Sg_letterAt_4 rfl (lv_at hl 1 rfl) ?_
    refine lv_aload_n hx hb d_Sg_letterAt_5 rfl (lv_at hl 0 rfl) ?_
    refine va_get (D := G.1) (ci := 5) (v := .ref a0_1) (C := R_Sg) (T := T_Sg) (N := 7) hx hb hts i_Sg hown hK hR 0 rfl rfl 1 (by decide) (hts _ b_167) (fun _ h9 => h9) rfl d_Sg_letterAt_6 ?_
    refine va_alen hx hb hK hR 1 0 rfl rfl (v := Int32.ofNat (sgN u0)) rfl d_Sg_letterAt_9 ?_
    refine lv_icmp_ge (tgt := 22) hx hb d_Sg_letterAt_10 (by decide) (fun c9 => ?_) (fun c9 => ?_)
    · have h := h.1 c9
      refine lv_iconst (v := 0) hx hb d_Sg_letterAt_22 (by decide) ?_
      exact W.zret hx hb hr (by decide) (fun t ht hW => ⟨_, rfl, h, ht⟩) (fun _ z => by cases z) d_Sg_letterAt_23
    · have h := h.2 c9
      refine lv_aload_n hx hb d_Sg_letterAt_13 rfl (lv_at hl 0 rfl) ?_
      refine va_get (D := G.1) (ci := 5) (v := .ref a0_1) (C := R_Sg) (T := T_Sg) (N := 7) hx hb hts i_Sg hown hK hR 0 rfl rfl 1 (by decide) (hts _ b_167) (fun _ h9 => h9) rfl d_Sg_letterAt_14 ?_
      refine lv_iload_n hx hb d_Sg_letterAt_17 rfl (lv_at hl 1 rfl) ?_
      have hi9 := h.1
      have h := h.2
      refine va_cald hx hb hK hR 1 0 rfl rfl hi9 d_Sg_letterAt_18 ?_
      refine lv_goto (tgt := 23) hx hb d_Sg_letterAt_19 (by decide) ?_
      exact W.zret hx hb hr h.1 (fun t ht hW => ⟨_, rfl, h.2, ht⟩) (fun _ z => by cases z) d_Sg_letterAt_23
set_option maxHeartbeats 4000000 in
set_option maxRecDepth 100000 in
theorem c_Sg_letterAt (l : Launch) (G : GX) (a0_0 a0_1 a0_2 a0_3 a0_4 : Nat) (u0 : SgC) (x1 : Int32) (post : Int32 → Prop) (h : wp_Sg_letterAt post u0 x1) : Met l y_Sg_letterAt wc_Sg_letterAt rm_Sg_letterAt (mP G [.ref a0_0, .int x1] [(a0_0, .inr (5, [.int (sgK u0), .ref a0_1, .ref a0_2, .ref a0_3, .ref a0_4, .int (sgO u0), .int (sgP u0)])), (a0_1, .inl (G.2.1 0, sgN u0, .inl (sgL u0))), (a0_2, .inl (G.2.1 1, sgN u0, .inl (sgR u0))), (a0_3, .inl (G.2.1 1, sgM u0, .inl (sgB u0))), (a0_4, .inl (G.2.1 1, sgM u0, .inl (sgE u0)))]) (vp_Si post) 0 0 (fun _ => False) := by
  refine Met.ofW (cc := cc_Sg_letterAt) (maxL := 2) (ret := (some .char)) (by decide) rfl ?_
  intro p e s m args below meth c s₁ B hml hv
  obtain ⟨rfl, hC, hR⟩ := hv
  have E : EN p s m ([.ref a0_0, .int x1] : List Value).toArray meth c G R_Sg cc_Sg_letterAt 2 (some .char) BG := ⟨B.exec, B.bytes, B.returns, fun w h => atoms_spec (ws := wc_Sg_letterAt) B.pre w (List.mem_cons_of_mem _ h), findClass_of_methodNamed B.named, B.notSynchronized, hml, hC⟩
  have hl := lv_entry ([.ref a0_0, .int x1]) (n := 2) (Nat.le_of_ble_eq_true rfl)
  rw [lg_entry_eq]
  generalize (lg_sl ([.ref a0_0, .int x1]) ++ List.replicate (2 - (lg_sl ([.ref a0_0, .int x1])).length) Slot.unset).toArray = ls at hl ⊢
  have hl : lv_has ls 2 [(0, .ref a0_0), (1, .int x1)] := hl
  exact t_Sg_letterAt_in E hR _ h hl
set_option maxHeartbeats 4000000 in
set_option maxRecDepth 100000 in
theorem t_Sg_hasParameter_in {p : Program} {l : Launch} {e : Env} {s : State} {m : MethodId} {args : Array Value} {below : List Frame} {meth : Method} {c : Code} {G : GX} {a0_0 a0_1 a0_2 a0_3 a0_4 : Nat} {u0 : SgC} {post : Int32 → Prop} {x1 : Int32} (E : EN p s m args meth c G R_Sg cc_Sg_hasParameter 2 (some .boolean) BG) (hR : va_P G.1 vwCl [(a0_0, .inr (5, [.int (sgK u0), .ref a0_1, .ref a0_2, .ref a0_3, .ref a0_4, .int (sgO u0), .int (sgP u0)])), (a0_1, .inl (G.2.1 0, sgN u0, .inl (sgL u0))), (a0_2, .inl (G.2.1 1, sgN u0, .inl (sgR u0))), (a0_3, .inl (G.2.1 1, sgM u0, .inl (sgB u0))), (a0_4, .inl (G.2.1 1, sgM u0, .inl (sgE u0)))] s.heap) : ∀ (ls : Array Slot), wp_Sg_hasParameter post u0 x1 → lv_has ls 2 [(0, .ref a0_0), (1, .int x1)] → W p l e rm_Sg_hasParameter s m args below meth c s.heap [] 0 0 (MQ below (vp_Si post) args s 0 0 (fun _ => False)) (F0 m 0 ls []) := by
  obtain ⟨hx, hb, hr, hts, hown, hlocks, hml, hC⟩ := id E
  have hK := hC.1
  intro ls h hl
  unfold wp_Sg_hasParameter at h
  refine lv_iload_n hx hb d_Sg_hasParameter_0 rfl (lv_at hl 1 rfl) ?_
  refine lv_if_lt (tgt := 17) hx hb d_Sg_hasParameter_1 (by decide) (fun c9 => ?_) (fun c9 => ?_)
  · have h := h.1 c9
    refine lv_iconst (v := 0) hx hb d_Sg_hasParameter_17 (by decide) ?_
    exact W.zret hx hb hr (by decide) (fun t ht hW => ⟨_, rfl, h, ht⟩) (fun _ z => by cases z) d_Sg_hasParameter_18
  · have h := h.2 c9
    refine lv_iload_n hx hb d_Sg_hasParameter_4 rfl (lv_at hl 1 rfl) ?_
    refine lv_aload_n hx hb d_Sg_hasParameter_5 rfl (lv_at hl 0 rfl) ?_
    refine va_get (D := G.1) (ci := 5) (v := .ref a0_3) (C := R_Sg) (T := T_Sg) (N := 7) hx hb hts i_Sg hown hK hR 0 rfl rfl 3 (by decide) (hts _ b_168) (fun _ h9 => h9) rfl d_Sg_hasParameter_6 ?_
    refine va_alen hx hb hK hR 3 1 rfl rfl (v := Int32.ofNat (sgM u0)) rfl d_Sg_hasParameter_9 ?_
    refine lv_icmp_ge (tgt := 17) hx hb d_Sg_hasParameter_10 (by decide) (fun c9 => ?_) (fun c9 => ?_)
    · have h := h.1 c9
      refine lv_iconst (v := 0) hx hb d_Sg_hasParameter_17 (by decide) ?_
      exact W.zret hx hb hr (by decide) (fun t ht hW => ⟨_, rfl, h, ht⟩) (fun _ z => by cases z) d_Sg_hasParameter_18
    · have h := h.2 c9
      refine lv_iconst (v := 1) hx hb d_Sg_hasParameter_13 (by decide) ?_
      refine lv_goto (tgt := 18) hx hb d_Sg_hasParameter_14 (by decide) ?_
      exact W.zret hx hb hr (by decide) (fun t ht hW => ⟨_, rfl, h, ht⟩) (fun _ z => by cases z) d_Sg_hasParameter_18
set_option maxHeartbeats 4000000 in
set_option maxRecDepth 100000 in
theorem c_Sg_hasParameter (l : Launch) (G : GX) (a0_0 a0_1 a0_2 a0_3 a0_4 : Nat) (u0 : SgC) (x1 : Int32) (post : Int32 → Prop) (h : wp_Sg_hasParameter post u0 x1) : Met l y_Sg_hasParameter wc_Sg_hasParameter rm_Sg_hasParameter (mP G [.ref a0_0, .int x1] [(a0_0, .inr (5, [.int (sgK u0), .ref a0_1, .ref a0_2, .ref a0_3, .ref a0_4, .int (sgO u0), .int (sgP u0)])), (a0_1, .inl (G.2.1 0, sgN u0, .inl (sgL u0))), (a0_2, .inl (G.2.1 1, sgN u0, .inl (sgR u0))), (a0_3, .inl (G.2.1 1, sgM u0, .inl (sgB u0))), (a0_4, .inl (G.2.1 1, sgM u0, .inl (sgE u0)))]) (vp_Si post) 0 0 (fun _ => False) := by
  refine Met.ofW (cc := cc_Sg_hasParameter) (maxL := 2) (ret := (some .boolean)) (by decide) rfl ?_
  intro p e s m args below meth c s₁ B hml hv
  obtain ⟨rfl, hC, hR⟩ := hv
  have E : EN p s m ([.ref a0_0, .int x1] : List Value).toArray meth c G R_Sg cc_Sg_hasParameter 2 (some .boolean) BG := ⟨B.exec, B.bytes, B.returns, fun w h => atoms_spec (ws := wc_Sg_hasParameter) B.pre w (List.mem_cons_of_mem _ h), findClass_of_methodNamed B.named, B.notSynchronized, hml, hC⟩
  have hl := lv_entry ([.ref a0_0, .int x1]) (n := 2) (Nat.le_of_ble_eq_true rfl)
  rw [lg_entry_eq]
  generalize (lg_sl ([.ref a0_0, .int x1]) ++ List.replicate (2 - (lg_sl ([.ref a0_0, .int x1])).length) Slot.unset).toArray = ls at hl ⊢
  have hl : lv_has ls 2 [(0, .ref a0_0), (1, .int x1)] := hl
  exact t_Sg_hasParameter_in E hR _ h hl
set_option maxHeartbeats 4000000 in
set_option maxRecDepth 100000 in
theorem t_Sg_nameStart_in {p : Program} {l : Launch} {e : Env} {s : State} {m : MethodId} {args : Array Value} {below : List Frame} {meth : Method} {c : Code} {G : GX} {a0_0 a0_1 a0_2 a0_3 a0_4 : Nat} {u0 : SgC} {post : Int32 → Prop} {x1 : Int32} (E : EN p s m args meth c G R_Sg cc_Sg_nameStart 2 (some .int) BG) (hR : va_P G.1 vwCl [(a0_0, .inr (5, [.int (sgK u0), .ref a0_1, .ref a0_2, .ref a0_3, .ref a0_4, .int (sgO u0), .int (sgP u0)])), (a0_1, .inl (G.2.1 0, sgN u0, .inl (sgL u0))), (a0_2, .inl (G.2.1 1, sgN u0, .inl (sgR u0))), (a0_3, .inl (G.2.1 1, sgM u0, .inl (sgB u0))), (a0_4, .inl (G.2.1 1, sgM u0, .inl (sgE u0)))] s.heap) : ∀ (ls : Array Slot), wp_Sg_nameStart post u0 x1 → lv_has ls 2 [(0, .ref a0_0), (1, .int x1)] → W p l e rm_Sg_nameStart s m args below meth c s.heap [] 0 0 (MQ below (vp_Si post) args s 0 0 (fun _ => False)) (F0 m 0 ls []) := by
  obtain ⟨hx, hb, hr, hts, hown, hlocks, hml, hC⟩ := id E
  have hK := hC.1
  intro ls h hl
  unfold wp_Sg_nameStart at h
  refine lv_aload_n hx hb d_Sg_nameStart_0 rfl (lv_at hl 0 rfl) ?_
  refine lv_iload_n hx hb d_Sg_nameStart_1 rfl (lv_at hl 1 rfl) ?_
  have hRc : va_P G.1 vwCl [(a0_0, .inr (5, [.int (sgK u0), .ref a0_1, .ref a0_2, .ref a0_3, .ref a0_4, .int (sgO u0), .int (sgP u0)])), (a0_1, .inl (G.2.1 0, sgN u0, .inl (sgL u0))), (a0_2, .inl (G.2.1 1, sgN u0, .inl (sgR u0))), (a0_3, .inl (G.2.1 1, sgM u0, .inl (sgB u0))), (a0_4, .inl (G.2.1 1, sgM u0, .inl (sgE u0)))] s.heap := (hR.sub (ws' := [(a0_0, .inr (5, [.int (sgK u0), .ref a0_1, .ref a0_2, .ref a0_3, .ref a0_4, .int (sgO u0), .int (sgP u0)])), (a0_1, .inl (G.2.1 0, sgN u0, .inl (sgL u0))), (a0_2, .inl (G.2.1 1, sgN u0, .inl (sgR u0))), (a0_3, .inl (G.2.1 1, sgM u0, .inl (sgB u0))), (a0_4, .inl (G.2.1 1, sgM u0, .inl (sgE u0)))]) [0, 1, 2, 3, 4] rfl)
  refine vp_callSi (va_runV (As := [.int x1]) (rest := []) ⟨hx, hb, hml, hown, hts⟩ (c_Sg_hasParameter l G a0_0 a0_1 a0_2 a0_3 a0_4 u0 x1 _ h) (cwV 1 hts (gwV b_170 b_171 b_172 b_173 b_169) rfl rfl rfl hd_Sg_hasParameter ⟨Nat.le_of_ble_eq_true rfl, Nat.le_of_ble_eq_true rfl⟩) ⟨mP_blind, va_recv hK hRc (ci := 5) (q0 := 0) rfl rfl, fun U hU hW => ⟨rfl, hC.to0 hW hU, by rw [hU]; exact hRc⟩⟩ rfl rfl hl.1 rfl (lv_room (Nat.le_of_ble_eq_true rfl)) d_Sg_nameStart_2 ⟨Nat.le_of_ble_eq_true rfl, Nat.le_of_ble_eq_true rfl⟩).run (fun r2 h => ?_)
  refine lv_if_eq (tgt := 17) hx hb d_Sg_nameStart_5 (by decide) (fun c9 => ?_) (fun c9 => ?_)
  · have h := h.1 c9
    refine lv_aload_n hx hb d_Sg_nameStart_17 rfl (lv_at hl 0 rfl) ?_
    refine va_get (D := G.1) (ci := 5) (v := .ref a0_1) (C := R_Sg) (T := T_Sg) (N := 7) hx hb hts i_Sg hown hK hR 0 rfl rfl 1 (by decide) (hts _ b_167) (fun _ h9 => h9) rfl d_Sg_nameStart_18 ?_
    refine va_alen hx hb hK hR 1 0 rfl rfl (v := Int32.ofNat (sgN u0)) rfl d_Sg_nameStart_21 ?_
    exact W.iret hx hb hr (fun t ht hW => ⟨_, rfl, h, ht⟩) (fun _ z => by cases z) d_Sg_nameStart_22
  · have h := h.2 c9
    refine lv_aload_n hx hb d_Sg_nameStart_8 rfl (lv_at hl 0 rfl) ?_
    refine va_get (D := G.1) (ci := 5) (v := .ref a0_3) (C := R_Sg) (T := T_Sg) (N := 7) hx hb hts i_Sg hown hK hR 0 rfl rfl 3 (by decide) (hts _ b_168) (fun _ h9 => h9) rfl d_Sg_nameStart_9 ?_
    refine lv_iload_n hx hb d_Sg_nameStart_12 rfl (lv_at hl 1 rfl) ?_
    have hi9 := h.1
    have h := h.2
    refine va_iald hx hb hK hR 3 1 rfl rfl hi9 d_Sg_nameStart_13 ?_
    refine lv_goto (tgt := 22) hx hb d_Sg_nameStart_14 (by decide) ?_
    exact W.iret hx hb hr (fun t ht hW => ⟨_, rfl, h, ht⟩) (fun _ z => by cases z) d_Sg_nameStart_22
set_option maxHeartbeats 4000000 in
set_option maxRecDepth 100000 in
theorem c_Sg_nameStart (l : Launch) (G : GX) (a0_0 a0_1 a0_2 a0_3 a0_4 : Nat) (u0 : SgC) (x1 : Int32) (post : Int32 → Prop) (h : wp_Sg_nameStart post u0 x1) : Met l y_Sg_nameStart wc_Sg_nameStart rm_Sg_nameStart (mP G [.ref a0_0, .int x1] [(a0_0, .inr (5, [.int (sgK u0), .ref a0_1, .ref a0_2, .ref a0_3, .ref a0_4, .int (sgO u0), .int (sgP u0)])), (a0_1, .inl (G.2.1 0, sgN u0, .inl (sgL u0))), (a0_2, .inl (G.2.1 1, sgN u0, .inl (sgR u0))), (a0_3, .inl (G.2.1 1, sgM u0, .inl (sgB u0))), (a0_4, .inl (G.2.1 1, sgM u0, .inl (sgE u0)))]) (vp_Si post) 0 0 (fun _ => False) := by
  refine Met.ofW (cc := cc_Sg_nameStart) (maxL := 2) (ret := (some .int)) (by decide) rfl ?_
  intro p e s m args below meth c s₁ B hml hv
  obtain ⟨rfl, hC, hR⟩ := hv
  have E : EN p s m ([.ref a0_0, .int x1] : List Value).toArray meth c G R_Sg cc_Sg_nameStart 2 (some .int) BG := ⟨B.exec, B.bytes, B.returns, fun w h => atoms_spec (ws := wc_Sg_nameStart) B.pre w (List.mem_cons_of_mem _ h), findClass_of_methodNamed B.named, B.notSynchronized, hml, hC⟩
  have hl := lv_entry ([.ref a0_0, .int x1]) (n := 2) (Nat.le_of_ble_eq_true rfl)
  rw [lg_entry_eq]
  generalize (lg_sl ([.ref a0_0, .int x1]) ++ List.replicate (2 - (lg_sl ([.ref a0_0, .int x1])).length) Slot.unset).toArray = ls at hl ⊢
  have hl : lv_has ls 2 [(0, .ref a0_0), (1, .int x1)] := hl
  exact t_Sg_nameStart_in E hR _ h hl
set_option maxHeartbeats 4000000 in
set_option maxRecDepth 100000 in
theorem t_Sg_nameLength_in {p : Program} {l : Launch} {e : Env} {s : State} {m : MethodId} {args : Array Value} {below : List Frame} {meth : Method} {c : Code} {G : GX} {a0_0 a0_1 a0_2 a0_3 a0_4 : Nat} {u0 : SgC} {post : Int32 → Prop} {x1 : Int32} (E : EN p s m args meth c G R_Sg cc_Sg_nameLength 2 (some .int) BG) (hR : va_P G.1 vwCl [(a0_0, .inr (5, [.int (sgK u0), .ref a0_1, .ref a0_2, .ref a0_3, .ref a0_4, .int (sgO u0), .int (sgP u0)])), (a0_1, .inl (G.2.1 0, sgN u0, .inl (sgL u0))), (a0_2, .inl (G.2.1 1, sgN u0, .inl (sgR u0))), (a0_3, .inl (G.2.1 1, sgM u0, .inl (sgB u0))), (a0_4, .inl (G.2.1 1, sgM u0, .inl (sgE u0)))] s.heap) : ∀ (ls : Array Slot), wp_Sg_nameLength post u0 x1 → lv_has ls 2 [(0, .ref a0_0), (1, .int x1)] → W p l e rm_Sg_nameLength s m args below meth c s.heap [] 0 0 (MQ below (vp_Si post) args s 0 0 (fun _ => False)) (F0 m 0 ls []) := by
  obtain ⟨hx, hb, hr, hts, hown, hlocks, hml, hC⟩ := id E
  have hK := hC.1
  intro ls h hl
  unfold wp_Sg_nameLength at h
  refine lv_aload_n hx hb d_Sg_nameLength_0 rfl (lv_at hl 0 rfl) ?_
  refine lv_iload_n hx hb d_Sg_nameLength_1 rfl (lv_at hl 1 rfl) ?_
  have hRc : va_P G.1 vwCl [(a0_0, .inr (5, [.int (sgK u0), .ref a0_1, .ref a0_2, .ref a0_3, .ref a0_4, .int (sgO u0), .int (sgP u0)])), (a0_1, .inl (G.2.1 0, sgN u0, .inl (sgL u0))), (a0_2, .inl (G.2.1 1, sgN u0, .inl (sgR u0))), (a0_3, .inl (G.2.1 1, sgM u0, .inl (sgB u0))), (a0_4, .inl (G.2.1 1, sgM u0, .inl (sgE u0)))] s.heap := (hR.sub (ws' := [(a0_0, .inr (5, [.int (sgK u0), .ref a0_1, .ref a0_2, .ref a0_3, .ref a0_4, .int (sgO u0), .int (sgP u0)])), (a0_1, .inl (G.2.1 0, sgN u0, .inl (sgL u0))), (a0_2, .inl (G.2.1 1, sgN u0, .inl (sgR u0))), (a0_3, .inl (G.2.1 1, sgM u0, .inl (sgB u0))), (a0_4, .inl (G.2.1 1, sgM u0, .inl (sgE u0)))]) [0, 1, 2, 3, 4] rfl)
  refine vp_callSi (va_runV (As := [.int x1]) (rest := []) ⟨hx, hb, hml, hown, hts⟩ (c_Sg_hasParameter l G a0_0 a0_1 a0_2 a0_3 a0_4 u0 x1 _ h) (cwV 1 hts (gwV b_170 b_171 b_172 b_173 b_169) rfl rfl rfl hd_Sg_hasParameter ⟨Nat.le_of_ble_eq_true rfl, Nat.le_of_ble_eq_true rfl⟩) ⟨mP_blind, va_recv hK hRc (ci := 5) (q0 := 0) rfl rfl, fun U hU hW => ⟨rfl, hC.to0 hW hU, by rw [hU]; exact hRc⟩⟩ rfl rfl hl.1 rfl (lv_room (Nat.le_of_ble_eq_true rfl)) d_Sg_nameLength_2 ⟨Nat.le_of_ble_eq_true rfl, Nat.le_of_ble_eq_true rfl⟩).run (fun r2 h => ?_)
  refine lv_if_eq (tgt := 24) hx hb d_Sg_nameLength_5 (by decide) (fun c9 => ?_) (fun c9 => ?_)
  · have h := h.1 c9
    refine lv_iconst (v := 0) hx hb d_Sg_nameLength_24 (by decide) ?_
    exact W.iret hx hb hr (fun t ht hW => ⟨_, rfl, h, ht⟩) (fun _ z => by cases z) d_Sg_nameLength_25
  · have h := h.2 c9
    refine lv_aload_n hx hb d_Sg_nameLength_8 rfl (lv_at hl 0 rfl) ?_
    refine va_get (D := G.1) (ci := 5) (v := .ref a0_4) (C := R_Sg) (T := T_Sg) (N := 7) hx hb hts i_Sg hown hK hR 0 rfl rfl 4 (by decide) (hts _ b_174) (fun _ h9 => h9) rfl d_Sg_nameLength_9 ?_
    refine lv_iload_n hx hb d_Sg_nameLength_12 rfl (lv_at hl 1 rfl) ?_
    have hi9 := h.1
    have h := h.2
    refine va_iald hx hb hK hR 4 1 rfl rfl hi9 d_Sg_nameLength_13 ?_
    refine lv_aload_n hx hb d_Sg_nameLength_14 rfl (lv_at hl 0 rfl) ?_
    refine va_get (D := G.1) (ci := 5) (v := .ref a0_3) (C := R_Sg) (T := T_Sg) (N := 7) hx hb hts i_Sg hown hK hR 0 rfl rfl 3 (by decide) (hts _ b_168) (fun _ h9 => h9) rfl d_Sg_nameLength_15 ?_
    refine lv_iload_n hx hb d_Sg_nameLength_18 rfl (lv_at hl 1 rfl) ?_
    have hi9 := h.1
    have h := h.2
    refine va_iald hx hb hK hR 3 1 rfl rfl hi9 d_Sg_nameLength_19 ?_
    refine lv_isub hx hb d_Sg_nameLength_20 ?_
    refine lv_goto (tgt := 25) hx hb d_Sg_nameLength_21 (by decide) ?_
    exact W.iret hx hb hr (fun t ht hW => ⟨_, rfl, h, ht⟩) (fun _ z => by cases z) d_Sg_nameLength_25
set_option maxHeartbeats 4000000 in
set_option maxRecDepth 100000 in
theorem c_Sg_nameLength (l : Launch) (G : GX) (a0_0 a0_1 a0_2 a0_3 a0_4 : Nat) (u0 : SgC) (x1 : Int32) (post : Int32 → Prop) (h : wp_Sg_nameLength post u0 x1) : Met l y_Sg_nameLength wc_Sg_nameLength rm_Sg_nameLength (mP G [.ref a0_0, .int x1] [(a0_0, .inr (5, [.int (sgK u0), .ref a0_1, .ref a0_2, .ref a0_3, .ref a0_4, .int (sgO u0), .int (sgP u0)])), (a0_1, .inl (G.2.1 0, sgN u0, .inl (sgL u0))), (a0_2, .inl (G.2.1 1, sgN u0, .inl (sgR u0))), (a0_3, .inl (G.2.1 1, sgM u0, .inl (sgB u0))), (a0_4, .inl (G.2.1 1, sgM u0, .inl (sgE u0)))]) (vp_Si post) 0 0 (fun _ => False) := by
  refine Met.ofW (cc := cc_Sg_nameLength) (maxL := 2) (ret := (some .int)) (by decide) rfl ?_
  intro p e s m args below meth c s₁ B hml hv
  obtain ⟨rfl, hC, hR⟩ := hv
  have E : EN p s m ([.ref a0_0, .int x1] : List Value).toArray meth c G R_Sg cc_Sg_nameLength 2 (some .int) BG := ⟨B.exec, B.bytes, B.returns, fun w h => atoms_spec (ws := wc_Sg_nameLength) B.pre w (List.mem_cons_of_mem _ h), findClass_of_methodNamed B.named, B.notSynchronized, hml, hC⟩
  have hl := lv_entry ([.ref a0_0, .int x1]) (n := 2) (Nat.le_of_ble_eq_true rfl)
  rw [lg_entry_eq]
  generalize (lg_sl ([.ref a0_0, .int x1]) ++ List.replicate (2 - (lg_sl ([.ref a0_0, .int x1])).length) Slot.unset).toArray = ls at hl ⊢
  have hl : lv_has ls 2 [(0, .ref a0_0), (1, .int x1)] := hl
  exact t_Sg_nameLength_in E hR _ h hl
set_option maxHeartbeats 4000000 in
set_option maxRecDepth 100000 in
theorem tb_Sg_behindName_8 {p : Program} {l : Launch} {e : Env} {s : State} {m : MethodId} {args : Array Value} {below : List Frame} {meth : Method} {c : Code} {G : GX} {a0_0 a0_1 a0_2 a0_3 a0_4 : Nat} {u0 : SgC} {post : Int32 → Prop} (E : EN p s m args meth c G R_Sg cc_Sg_behindName 4 (some .int) BG) (hR : va_P G.1 vwCl [(a0_0, .inr (5, [.int (sgK u0), .ref a0_1, .ref a0_2, .ref a0_3, .ref a0_4, .int (sgO u0), .int (sgP u0)])), (a0_1, .inl (G.2.1 0, sgN u0, .inl (sgL u0))), (a0_2, .inl (G.2.1 1, sgN u0, .inl (sgR u0))), (a0_3, .inl (G.2.1 1, sgM u0, .inl (sgB u0))), (a0_4, .inl (G.2.1 1, sgM u0, .inl (sgE u0)))] s.heap) {K0 : Int32 → Int32 → Prop} (hK0 : ∀ (y2 : Int32) (y3 : Int32) (ls : Array Slot), K0 y2 y3 → lv_has ls 4 [(0, .ref a0_0), (2, .int y2), (3, .int y3)] → W p l e rm_Sg_behindName s m args below meth c s.heap [] 0 0 (MQ below (vp_Si post) args s 0 0 (fun _ => False)) (F0 m 8 ls [])) : ∀ (y2 : Int32) (y3 : Int32) (ls : Array Slot), wb_Sg_behindName_8 post u0 K0 y2 y3 → lv_has ls 4 [(0, .ref a0_0), (2, .int y2), (3, .int y3)] → W p l e rm_Sg_behindName s m args below meth c s.heap [] 0 0 (MQ below (vp_Si post) args s 0 0 (fun _ => False)) (F0 m 8 ls []) := by
  obtain ⟨hx, hb, hr, hts, hown, hlocks, hml, hC⟩ := id E
  have hK := hC.1
  intro y2 y3  ls h hl
  unfold wb_Sg_behindName_8 at h
  refine lv_iload_n hx hb d_Sg_behindName_8 rfl (lv_at hl 2 rfl) ?_
  refine lv_aload_n hx hb d_Sg_behindName_9 rfl (lv_at hl 0 rfl) ?_
  refine va_get (D := G.1) (ci := 5) (v := .ref a0_2) (C := R_Sg) (T := T_Sg) (N := 7) hx hb hts i_Sg hown hK hR 0 rfl rfl 2 (by decide) (hts _ b_166) (fun _ h9 => h9) rfl d_Sg_behindName_10 ?_
  refine va_alen hx hb hK hR 2 1 rfl rfl (v := Int32.ofNat (sgN u0)) rfl d_Sg_behindName_13 ?_
  refine lv_icmp_ge (tgt := 32) hx hb d_Sg_behindName_14 (by decide) (fun c9 => ?_) (fun c9 => ?_)
  · have h := h.1 c9
    refine lv_iload_n hx hb d_Sg_behindName_32 rfl (lv_at hl 2 rfl) ?_
    exact W.iret hx hb hr (fun t ht hW => ⟨_, rfl, h, ht⟩) (fun _ z => by cases z) d_Sg_behindName_33
  · have h := h.2 c9
    refine lv_aload_n hx hb d_Sg_behindName_17 rfl (lv_at hl 0 rfl) ?_
    refine lv_iload_n hx hb d_Sg_behindName_18 rfl (lv_at hl 2 rfl) ?_
    have hRc : va_P G.1 vwCl [(a0_0, .inr (5, [.int (sgK u0), .ref a0_1, .ref a0_2, .ref a0_3, .ref a0_4, .int (sgO u0), .int (sgP u0)])), (a0_1, .inl (G.2.1 0, sgN u0, .inl (sgL u0))), (a0_2, .inl (G.2.1 1, sgN u0, .inl (sgR u0))), (a0_3, .inl (G.2.1 1, sgM u0, .inl (sgB u0))), (a0_4, .inl (G.2.1 1, sgM u0, .inl (sgE u0)))] s.heap := (hR.sub (ws' := [(a0_0, .inr (5, [.int (sgK u0), .ref a0_1, .ref a0_2, .ref a0_3, .ref a0_4, .int (sgO u0), .int (sgP u0)])), (a0_1, .inl (G.2.1 0, sgN u0, .inl (sgL u0))), (a0_2, .inl (G.2.1 1, sgN u0, .inl (sgR u0))), (a0_3, .inl (G.2.1 1, sgM u0, .inl (sgB u0))), (a0_4, .inl (G.2.1 1, sgM u0, .inl (sgE u0)))]) [0, 1, 2, 3, 4] rfl)
    refine vp_callSi (va_runV (As := [.int y3]) (rest := []) ⟨hx, hb, hml, hown, hts⟩ (c_Sg_roleAt l G a0_0 a0_1 a0_2 a0_3 a0_4 u0 y3 _ h) (cwV 1 hts (gwV b_176 b_177 b_178 b_173 b_175) rfl rfl rfl hd_Sg_roleAt ⟨Nat.le_of_ble_eq_true rfl, Nat.le_of_ble_eq_true rfl⟩) ⟨mP_blind, va_recv hK hRc (ci := 5) (q0 := 0) rfl rfl, fun U hU hW => ⟨rfl, hC.to0 hW hU, by rw [hU]; exact hRc⟩⟩ rfl rfl hl.1 rfl (lv_room (Nat.le_of_ble_eq_true rfl)) d_Sg_behindName_19 ⟨Nat.le_of_ble_eq_true rfl, Nat.le_of_ble_eq_true rfl⟩).run (fun r3 h => ?_)
    refine lv_iload_n hx hb d_Sg_behindName_22 rfl (lv_at hl 1 rfl) ?_
    refine lv_icmp_ne (tgt := 32) hx hb d_Sg_behindName_23 (by decide) (fun c9 => ?_) (fun c9 => ?_)
    · have h := h.1 c9
      refine lv_iload_n hx hb d_Sg_behindName_32 rfl (lv_at hl 2 rfl) ?_
      exact W.iret hx hb hr (fun t ht hW => ⟨_, rfl, h, ht⟩) (fun _ z => by cases z) d_Sg_behindName_33
    · have h := h.2 c9
      refine lv_iinc (v := y3 + 1) (lv' := [(3, .int (y3 + 1)), (0, .ref a0_0), (2, .int y2)]) hx hb d_Sg_behindName_26 hl (k := 2) rfl rfl (by decide) rfl (fun ls hl => ?_)
      refine lv_goto (tgt := 8) hx hb d_Sg_behindName_29 (by decide) ?_
      exact hK0 _ _ _ h (lv_sub hl [1, 2, 0] rfl)
set_option maxHeartbeats 4000000 in
set_option maxRecDepth 100000 in
theorem t_Sg_behindName_8 {p : Program} {l : Launch} {e : Env} {s : State} {m : MethodId} {args : Array Value} {below : List Frame} {meth : Method} {c : Code} {G : GX} {a0_0 a0_1 a0_2 a0_3 a0_4 : Nat} {u0 : SgC} {post : Int32 → Prop} (E : EN p s m args meth c G R_Sg cc_Sg_behindName 4 (some .int) BG) (hR : va_P G.1 vwCl [(a0_0, .inr (5, [.int (sgK u0), .ref a0_1, .ref a0_2, .ref a0_3, .ref a0_4, .int (sgO u0), .int (sgP u0)])), (a0_1, .inl (G.2.1 0, sgN u0, .inl (sgL u0))), (a0_2, .inl (G.2.1 1, sgN u0, .inl (sgR u0))), (a0_3, .inl (G.2.1 1, sgM u0, .inl (sgB u0))), (a0_4, .inl (G.2.1 1, sgM u0, .inl (sgE u0)))] s.heap) : ∀ (n : Nat) (y2 : Int32) (y3 : Int32) (ls : Array Slot), w_Sg_behindName_8 post u0 n y2 y3 → lv_has ls 4 [(0, .ref a0_0), (2, .int y2), (3, .int y3)] → W p l e rm_Sg_behindName s m args below meth c s.heap [] 0 0 (MQ below (vp_Si post) args s 0 0 (fun _ => False)) (F0 m 8 ls []) := by
  intro n
  induction n with
  | zero => intro y2 y3  ls h; exact h.elim
  | succ n ih =>
    intro y2 y3  ls h hl
    exact tb_Sg_behindName_8 E hR  ih _ _ _ h hl
set_option maxHeartbeats 4000000 in
set_option maxRecDepth 100000 in
theorem t_Sg_behindName_in {p : Program} {l : Launch} {e : Env} {s : State} {m : MethodId} {args : Array Value} {below : List Frame} {meth : Method} {c : Code} {G : GX} {a0_0 a0_1 a0_2 a0_3 a0_4 : Nat} {u0 : SgC} {post : Int32 → Prop} {x1 : Int32} (E : EN p s m args meth c G R_Sg cc_Sg_behindName 4 (some .int) BG) (hR : va_P G.1 vwCl [(a0_0, .inr (5, [.int (sgK u0), .ref a0_1, .ref a0_2, .ref a0_3, .ref a0_4, .int (sgO u0), .int (sgP u0)])), (a0_1, .inl (G.2.1 0, sgN u0, .inl (sgL u0))), (a0_2, .inl (G.2.1 1, sgN u0, .inl (sgR u0))), (a0_3, .inl (G.2.1 1, sgM u0, .inl (sgB u0))), (a0_4, .inl (G.2.1 1, sgM u0, .inl (sgE u0)))] s.heap) : ∀ (ls : Array Slot), wp_Sg_behindName post u0 x1 → lv_has ls 4 [(0, .ref a0_0), (1, .int x1)] → W p l e rm_Sg_behindName s m args below meth c s.heap [] 0 0 (MQ below (vp_Si post) args s 0 0 (fun _ => False)) (F0 m 0 ls []) := by
  obtain ⟨hx, hb, hr, hts, hown, hlocks, hml, hC⟩ := id E
  have hK := hC.1
  intro ls h hl
  unfold wp_Sg_behindName at h
  refine lv_aload_n hx hb d_Sg_behindName_0 rfl (lv_at hl 0 rfl) ?_
  refine lv_iload_n hx hb d_Sg_behindName_1 rfl (lv_at hl 1 rfl) ?_
  have hRc : va_P G.1 vwCl [(a0_0, .inr (5, [.int (sgK u0), .ref a0_1, .ref a0_2, .ref a0_3, .ref a0_4, .int (sgO u0), .int (sgP u0)])), (a0_1, .inl (G.2.1 0, sgN u0, .inl (sgL u0))), (a0_2, .inl (G.2.1 1, sgN u0, .inl (sgR u0))), (a0_3, .inl (G.2.1 1, sgM u0, .inl (sgB u0))), (a0_4, .inl (G.2.1 1, sgM u0, .inl (sgE u0)))] s.heap := (hR.sub (ws' := [(a0_0, .inr (5, [.int (sgK u0), .ref a0_1, .ref a0_2, .ref a0_3, .ref a0_4, .int (sgO u0), .int (sgP u0)])), (a0_1, .inl (G.2.1 0, sgN u0, .inl (sgL u0))), (a0_2, .inl (G.2.1 1, sgN u0, .inl (sgR u0))), (a0_3, .inl (G.2.1 1, sgM u0, .inl (sgB u0))), (a0_4, .inl (G.2.1 1, sgM u0, .inl (sgE u0)))]) [0, 1, 2, 3, 4] rfl)
  refine vp_callSi (va_runV (As := [.int x1]) (rest := []) ⟨hx, hb, hml, hown, hts⟩ (c_Sg_roleAt l G a0_0 a0_1 a0_2 a0_3 a0_4 u0 x1 _ h) (cwV 1 hts (gwV b_176 b_177 b_178 b_173 b_175) rfl rfl rfl hd_Sg_roleAt ⟨Nat.le_of_ble_eq_true rfl, Nat.le_of_ble_eq_true rfl⟩) ⟨mP_blind, va_recv hK hRc (ci := 5) (q0 := 0) rfl rfl, fun U hU hW => ⟨rfl, hC.to0 hW hU, by rw [hU]; exact hRc⟩⟩ rfl rfl hl.1 rfl (lv_room (Nat.le_of_ble_eq_true rfl)) d_Sg_behindName_2 ⟨Nat.le_of_ble_eq_true rfl, Nat.le_of_ble_eq_true rfl⟩).run (fun r4 h => ?_)
  refine lv_istore_n (lv' := [(2, .int r4), (0, .ref a0_0), (1, .int x1)]) hx hb d_Sg_behindName_5 rfl hl (by decide) rfl (fun ls hl => ?_)
  refine lv_iload_n hx hb d_Sg_behindName_6 rfl (lv_at hl 2 rfl) ?_
  refine lv_istore_n (lv' := [(3, .int x1), (2, .int r4), (0, .ref a0_0), (1, .int x1)]) hx hb d_Sg_behindName_7 rfl hl (by decide) rfl (fun ls hl => ?_)
  obtain ⟨n, h⟩ := h
  exact t_Sg_behindName_8 E hR  n _ _ _ h (lv_sub hl [2, 1, 0] rfl)
set_option maxHeartbeats 4000000 in
set_option maxRecDepth 100000 in
theorem c_Sg_behindName (l : Launch) (G : GX) (a0_0 a0_1 a0_2 a0_3 a0_4 : Nat) (u0 : SgC) (x1 : Int32) (post : Int32 → Prop) (h : wp_Sg_behindName post u0 x1) : Met l y_Sg_behindName wc_Sg_behindName rm_Sg_behindName (mP G [.ref a0_0, .int x1] [(a0_0, .inr (5, [.int (sgK u0), .ref a0_1, .ref a0_2, .ref a0_3, .ref a0_4, .int (sgO u0), .int (sgP u0)])), (a0_1, .inl (G.2.1 0, sgN u0, .inl (sgL u0))), (a0_2, .inl (G.2.1 1, sgN u0, .inl (sgR u0))), (a0_3, .inl (G.2.1 1, sgM u0, .inl (sgB u0))), (a0_4, .inl (G.2.1 1, sgM u0, .inl (sgE u0)))]) (vp_Si post) 0 0 (fun _ => False) := by
  refine Met.ofW (cc := cc_Sg_behindName) (maxL := 4) (ret := (some .int)) (by decide) rfl ?_
  intro p e s m args below meth c s₁ B hml hv
  obtain ⟨rfl, hC, hR⟩ := hv
  have E : EN p s m ([.ref a0_0, .int x1] : List Value).toArray meth c G R_Sg cc_Sg_behindName 4 (some .int) BG := ⟨B.exec, B.bytes, B.returns, fun w h => atoms_spec (ws := wc_Sg_behindName) B.pre w (List.mem_cons_of_mem _ h), findClass_of_methodNamed B.named, B.notSynchronized, hml, hC⟩
  have hl := lv_entry ([.ref a0_0, .int x1]) (n := 4) (Nat.le_of_ble_eq_true rfl)
  rw [lg_entry_eq]
  generalize (lg_sl ([.ref a0_0, .int x1]) ++ List.replicate (4 - (lg_sl ([.ref a0_0, .int x1])).length) Slot.unset).toArray = ls at hl ⊢
  have hl : lv_has ls 4 [(0, .ref a0_0), (1, .int x1)] := hl
  exact t_Sg_behindName_in E hR _ h hl
set_option maxHeartbeats 4000000 in
set_option maxRecDepth 100000 in
theorem t_Sg_parameterEnd_in {p : Program} {l : Launch} {e : Env} {s : State} {m : MethodId} {args : Array Value} {below : List Frame} {meth : Method} {c : Code} {G : GX} {a0_0 a0_1 a0_2 a0_3 a0_4 : Nat} {u0 : SgC} {post : Int32 → Prop} {x1 : Int32} (E : EN p s m args meth c G R_Sg cc_Sg_parameterEnd 2 (some .int) BG) (hR : va_P G.1 vwCl [(a0_0, .inr (5, [.int (sgK u0), .ref a0_1, .ref a0_2, .ref a0_3, .ref a0_4, .int (sgO u0), .int (sgP u0)])), (a0_1, .inl (G.2.1 0, sgN u0, .inl (sgL u0))), (a0_2, .inl (G.2.1 1, sgN u0, .inl (sgR u0))), (a0_3, .inl (G.2.1 1, sgM u0, .inl (sgB u0))), (a0_4, .inl (G.2.1 1, sgM u0, .inl (sgE u0)))] s.heap) : ∀ (ls : Array Slot), wp_Sg_parameterEnd post u0 x1 → lv_has ls 2 [(0, .ref a0_0), (1, .int x1)] → W p l e rm_Sg_parameterEnd s m args below meth c s.heap [] 0 0 (MQ below (vp_Si post) args s 0 0 (fun _ => False)) (F0 m 0 ls []) := by
  obtain ⟨hx, hb, hr, hts, hown, hlocks, hml, hC⟩ := id E
  have hK := hC.1
  intro ls h hl
  unfold wp_Sg_parameterEnd at h
  refine lv_iload_n hx hb d_Sg_parameterEnd_0 rfl (lv_at hl 1 rfl) ?_
  refine lv_iconst (v := 1) hx hb d_Sg_parameterEnd_1 (by decide) ?_
  refine lv_iadd hx hb d_Sg_parameterEnd_2 ?_
  refine lv_aload_n hx hb d_Sg_parameterEnd_3 rfl (lv_at hl 0 rfl) ?_
  refine va_get (D := G.1) (ci := 5) (v := .ref a0_3) (C := R_Sg) (T := T_Sg) (N := 7) hx hb hts i_Sg hown hK hR 0 rfl rfl 3 (by decide) (hts _ b_168) (fun _ h9 => h9) rfl d_Sg_parameterEnd_4 ?_
  refine va_alen hx hb hK hR 3 1 rfl rfl (v := Int32.ofNat (sgM u0)) rfl d_Sg_parameterEnd_7 ?_
  refine lv_icmp_ge (tgt := 21) hx hb d_Sg_parameterEnd_8 (by decide) (fun c9 => ?_) (fun c9 => ?_)
  · have h := h.1 c9
    refine lv_aload_n hx hb d_Sg_parameterEnd_21 rfl (lv_at hl 0 rfl) ?_
    refine va_get (D := G.1) (ci := 5) (v := .int (sgO u0)) (C := R_Sg) (T := T_Sg) (N := 7) hx hb hts i_Sg hown hK hR 0 rfl rfl 5 (by decide) (hts _ b_179) (fun _ h9 => h9) rfl d_Sg_parameterEnd_22 ?_
    refine lv_iconst (v := 1) hx hb d_Sg_parameterEnd_25 (by decide) ?_
    refine lv_isub hx hb d_Sg_parameterEnd_26 ?_
    exact W.iret hx hb hr (fun t ht hW => ⟨_, rfl, h, ht⟩) (fun _ z => by cases z) d_Sg_parameterEnd_27
  · have h := h.2 c9
    refine lv_aload_n hx hb d_Sg_parameterEnd_11 rfl (lv_at hl 0 rfl) ?_
    refine lv_iload_n hx hb d_Sg_parameterEnd_12 rfl (lv_at hl 1 rfl) ?_
    refine lv_iconst (v := 1) hx hb d_Sg_parameterEnd_13 (by decide) ?_
    refine lv_iadd hx hb d_Sg_parameterEnd_14 ?_
    have hRc : va_P G.1 vwCl [(a0_0, .inr (5, [.int (sgK u0), .ref a0_1, .ref a0_2, .ref a0_3, .ref a0_4, .int (sgO u0), .int (sgP u0)])), (a0_1, .inl (G.2.1 0, sgN u0, .inl (sgL u0))), (a0_2, .inl (G.2.1 1, sgN u0, .inl (sgR u0))), (a0_3, .inl (G.2.1 1, sgM u0, .inl (sgB u0))), (a0_4, .inl (G.2.1 1, sgM u0, .inl (sgE u0)))] s.heap := (hR.sub (ws' := [(a0_0, .inr (5, [.int (sgK u0), .ref a0_1, .ref a0_2, .ref a0_3, .ref a0_4, .int (sgO u0), .int (sgP u0)])), (a0_1, .inl (G.2.1 0, sgN u0, .inl (sgL u0))), (a0_2, .inl (G.2.1 1, sgN u0, .inl (sgR u0))), (a0_3, .inl (G.2.1 1, sgM u0, .inl (sgB u0))), (a0_4, .inl (G.2.1 1, sgM u0, .inl (sgE u0)))]) [0, 1, 2, 3, 4] rfl)
    refine vp_callSi (va_runV (As := [.int (x1 + 1)]) (rest := []) ⟨hx, hb, hml, hown, hts⟩ (c_Sg_nameStart l G a0_0 a0_1 a0_2 a0_3 a0_4 u0 (x1 + 1) _ h) (cwV 1 hts (gwV b_181 b_182 b_183 b_173 b_180) rfl rfl rfl hd_Sg_nameStart ⟨Nat.le_of_ble_eq_true rfl, Nat.le_of_ble_eq_true rfl⟩) ⟨mP_blind, va_recv hK hRc (ci := 5) (q0 := 0) rfl rfl, fun U hU hW => ⟨rfl, hC.to0 hW hU, by rw [hU]; exact hRc⟩⟩ rfl rfl hl.1 rfl (lv_room (Nat.le_of_ble_eq_true rfl)) d_Sg_parameterEnd_15 ⟨Nat.le_of_ble_eq_true rfl, Nat.le_of_ble_eq_true rfl⟩).run (fun r2 h => ?_)
    refine lv_goto (tgt := 27) hx hb d_Sg_parameterEnd_18 (by decide) ?_
    exact W.iret hx hb hr (fun t ht hW => ⟨_, rfl, h, ht⟩) (fun _ z => by cases z) d_Sg_parameterEnd_27
set_option maxHeartbeats 4000000 in
set_option maxRecDepth 100000 in
theorem c_Sg_parameterEnd (l : Launch) (G : GX) (a0_0 a0_1 a0_2 a0_3 a0_4 : Nat) (u0 : SgC) (x1 : Int32) (post : Int32 → Prop) (h : wp_Sg_parameterEnd post u0 x1) : Met l y_Sg_parameterEnd wc_Sg_parameterEnd rm_Sg_parameterEnd (mP G [.ref a0_0, .int x1] [(a0_0, .inr (5, [.int (sgK u0), .ref a0_1, .ref a0_2, .ref a0_3, .ref a0_4, .int (sgO u0), .int (sgP u0)])), (a0_1, .inl (G.2.1 0, sgN u0, .inl (sgL u0))), (a0_2, .inl (G.2.1 1, sgN u0, .inl (sgR u0))), (a0_3, .inl (G.2.1 1, sgM u0, .inl (sgB u0))), (a0_4, .inl (G.2.1 1, sgM u0, .inl (sgE u0)))]) (vp_Si post) 0 0 (fun _ => False) := by
  refine Met.ofW (cc := cc_Sg_parameterEnd) (maxL := 2) (ret := (some .int)) (by decide) rfl ?_
  intro p e s m args below meth c s₁ B hml hv
  obtain ⟨rfl, hC, hR⟩ := hv
  have E : EN p s m ([.ref a0_0, .int x1] : List Value).toArray meth c G R_Sg cc_Sg_parameterEnd 2 (some .int) BG := ⟨B.exec, B.bytes, B.returns, fun w h => atoms_spec (ws := wc_Sg_parameterEnd) B.pre w (List.mem_cons_of_mem _ h), findClass_of_methodNamed B.named, B.notSynchronized, hml, hC⟩
  have hl := lv_entry ([.ref a0_0, .int x1]) (n := 2) (Nat.le_of_ble_eq_true rfl)
  rw [lg_entry_eq]
  generalize (lg_sl ([.ref a0_0, .int x1]) ++ List.replicate (2 - (lg_sl ([.ref a0_0, .int x1])).length) Slot.unset).toArray = ls at hl ⊢
  have hl : lv_has ls 2 [(0, .ref a0_0), (1, .int x1)] := hl
  exact t_Sg_parameterEnd_in E hR _ h hl
set_option maxHeartbeats 4000000 in
set_option maxRecDepth 100000 in
theorem t_Sg_boundCount_64 {p : Program} {l : Launch} {e : Env} {s : State} {m : MethodId} {args : Array Value} {below : List Frame} {meth : Method} {c : Code} {G : GX} {a0_0 a0_1 a0_2 a0_3 a0_4 : Nat} {u0 : SgC} {post : Int32 → Prop} (E : EN p s m args meth c G R_Sg cc_Sg_boundCount 6 (some .int) BG) (hR : va_P G.1 vwCl [(a0_0, .inr (5, [.int (sgK u0), .ref a0_1, .ref a0_2, .ref a0_3, .ref a0_4, .int (sgO u0), .int (sgP u0)])), (a0_1, .inl (G.2.1 0, sgN u0, .inl (sgL u0))), (a0_2, .inl (G.2.1 1, sgN u0, .inl (sgR u0))), (a0_3, .inl (G.2.1 1, sgM u0, .inl (sgB u0))), (a0_4, .inl (G.2.1 1, sgM u0, .inl (sgE u0)))] s.heap) {K0 : Int32 → Int32 → Int32 → Prop} (hK0 : ∀ (y1 : Int32) (y2 : Int32) (y3 : Int32) (ls : Array Slot), K0 y1 y2 y3 → lv_has ls 6 [(0, .ref a0_0), (1, .int y1), (2, .int y2), (3, .int y3)] → W p l e rm_Sg_boundCount s m args below meth c s.heap [] 0 0 (MQ below (vp_Si post) args s 0 0 (fun _ => False)) (F0 m 8 ls [])) : ∀ (y1 : Int32) (y2 : Int32) (y3 : Int32) (ls : Array Slot), w_Sg_boundCount_64 post u0 K0 y1 y2 y3 → lv_has ls 6 [(0, .ref a0_0), (1, .int y1), (2, .int y2), (3, .int y3)] → W p l e rm_Sg_boundCount s m args below meth c s.heap [] 0 0 (MQ below (vp_Si post) args s 0 0 (fun _ => False)) (F0 m 64 ls []) := by
  obtain ⟨hx, hb, hr, hts, hown, hlocks, hml, hC⟩ := id E
  have hK := hC.1
  intro y1 y2 y3  ls h hl
  unfold w_Sg_boundCount_64 at h
  refine lv_iinc (v := y3 + 1) (lv' := [(3, .int (y3 + 1)), (0, .ref a0_0), (1, .int y1), (2, .int y2)]) hx hb d_Sg_boundCount_64 hl (k := 3) rfl rfl (by decide) rfl (fun ls hl => ?_)
  refine lv_goto (tgt := 8) hx hb d_Sg_boundCount_67 (by decide) ?_
  exact hK0 _ _ _ _ h (lv_sub hl [1, 2, 3, 0] rfl)
set_option maxHeartbeats 4000000 in
set_option maxRecDepth 100000 in
theorem t_Sg_boundCount_61 {p : Program} {l : Launch} {e : Env} {s : State} {m : MethodId} {args : Array Value} {below : List Frame} {meth : Method} {c : Code} {G : GX} {a0_0 a0_1 a0_2 a0_3 a0_4 : Nat} {u0 : SgC} {post : Int32 → Prop} (E : EN p s m args meth c G R_Sg cc_Sg_boundCount 6 (some .int) BG) (hR : va_P G.1 vwCl [(a0_0, .inr (5, [.int (sgK u0), .ref a0_1, .ref a0_2, .ref a0_3, .ref a0_4, .int (sgO u0), .int (sgP u0)])), (a0_1, .inl (G.2.1 0, sgN u0, .inl (sgL u0))), (a0_2, .inl (G.2.1 1, sgN u0, .inl (sgR u0))), (a0_3, .inl (G.2.1 1, sgM u0, .inl (sgB u0))), (a0_4, .inl (G.2.1 1, sgM u0, .inl (sgE u0)))] s.heap) {K0 : Int32 → Int32 → Int32 → Prop} (hK0 : ∀ (y1 : Int32) (y2 : Int32) (y3 : Int32) (ls : Array Slot), K0 y1 y2 y3 → lv_has ls 6 [(0, .ref a0_0), (1, .int y1), (2, .int y2), (3, .int y3)] → W p l e rm_Sg_boundCount s m args below meth c s.heap [] 0 0 (MQ below (vp_Si post) args s 0 0 (fun _ => False)) (F0 m 8 ls [])) : ∀ (y1 : Int32) (y2 : Int32) (y3 : Int32) (ls : Array Slot), w_Sg_boundCount_61 post u0 K0 y1 y2 y3 → lv_has ls 6 [(0, .ref a0_0), (1, .int y1), (2, .int y2), (3, .int y3)] → W p l e rm_Sg_boundCount s m args below meth c s.heap [] 0 0 (MQ below (vp_Si post) args s 0 0 (fun _ => False)) (F0 m 61 ls []) := by
  obtain ⟨hx, hb, hr, hts, hown, hlocks, hml, hC⟩ := id E
  have hK := hC.1
  intro y1 y2 y3  ls h hl
  unfold w_Sg_boundCount_61 at h
  refine lv_iinc (v := y2 + 1) (lv' := [(2, .int (y2 + 1)), (0, .ref a0_0), (1, .int y1), (3, .int y3)]) hx hb d_Sg_boundCount_61 hl (k := 2) rfl rfl (by decide) rfl (fun ls hl => ?_)
  exact t_Sg_boundCount_64 E hR hK0 _ _ _ _ h (lv_sub hl [1, 2, 0, 3] rfl)
set_option maxHeartbeats 4000000 in
set_option maxRecDepth 100000 in
theorem t_Sg_boundCount_48 {p : Program} {l : Launch} {e : Env} {s : State} {m : MethodId} {args : Array Value} {below : List Frame} {meth : Method} {c : Code} {G : GX} {a0_0 a0_1 a0_2 a0_3 a0_4 : Nat} {u0 : SgC} {post : Int32 → Prop} (E : EN p s m args meth c G R_Sg cc_Sg_boundCount 6 (some .int) BG) (hR : va_P G.1 vwCl [(a0_0, .inr (5, [.int (sgK u0), .ref a0_1, .ref a0_2, .ref a0_3, .ref a0_4, .int (sgO u0), .int (sgP u0)])), (a0_1, .inl (G.2.1 0, sgN u0, .inl (sgL u0))), (a0_2, .inl (G.2.1 1, sgN u0, .inl (sgR u0))), (a0_3, .inl (G.2.1 1, sgM u0, .inl (sgB u0))), (a0_4, .inl (G.2.1 1, sgM u0, .inl (sgE u0)))] s.heap) {K0 : Int32 → Int32 → Int32 → Prop} (hK0 : ∀ (y1 : Int32) (y2 : Int32) (y3 : Int32) (ls : Array Slot), K0 y1 y2 y3 → lv_has ls 6 [(0, .ref a0_0), (1, .int y1), (2, .int y2), (3, .int y3)] → W p l e rm_Sg_boundCount s m args below meth c s.heap [] 0 0 (MQ below (vp_Si post) args s 0 0 (fun _ => False)) (F0 m 8 ls [])) : ∀ (y1 : Int32) (y2 : Int32) (y3 : Int32) (y4 : Int32) (z0 : Int32) (ls : Array Slot), w_Sg_boundCount_48 post u0 K0 y1 y2 y3 y4 z0 → lv_has ls 6 [(0, .ref a0_0), (1, .int y1), (2, .int y2), (3, .int y3), (4, .int y4)] → W p l e rm_Sg_boundCount s m args below meth c s.heap [] 0 0 (MQ below (vp_Si post) args s 0 0 (fun _ => False)) (F0 m 48 ls [.int z0]) := by
  obtain ⟨hx, hb, hr, hts, hown, hlocks, hml, hC⟩ := id E
  have hK := hC.1
  intro y1 y2 y3 y4 z0  ls h hl
  unfold w_Sg_boundCount_48 at h
  refine lv_istore (lv' := [(5, .int z0), (0, .ref a0_0), (1, .int y1), (2, .int y2), (3, .int y3), (4, .int y4)]) hx hb d_Sg_boundCount_48 hl (by decide) rfl (fun ls hl => ?_)
  refine lv_iload hx hb d_Sg_boundCount_50 (lv_at hl 5 rfl) ?_
  refine lv_iconst (v := 4) hx hb d_Sg_boundCount_52 (by decide) ?_
  refine lv_icmp_eq (tgt := 61) hx hb d_Sg_boundCount_53 (by decide) (fun c9 => ?_) (fun c9 => ?_)
  · have h := h.1 c9
    exact t_Sg_boundCount_61 E hR hK0 _ _ _ _ h (lv_sub hl [1, 2, 3, 4] rfl)
  · have h := h.2 c9
    refine lv_iload hx hb d_Sg_boundCount_56 (lv_at hl 0 rfl) ?_
    refine lv_if_eq (tgt := 64) hx hb d_Sg_boundCount_58 (by decide) (fun c9 => ?_) (fun c9 => ?_)
    · have h := h.1 c9
      exact t_Sg_boundCount_64 E hR hK0 _ _ _ _ h (lv_sub hl [1, 2, 3, 4] rfl)
    · have h := h.2 c9
      exact t_Sg_boundCount_61 E hR hK0 _ _ _ _ h (lv_sub hl [1, 2, 3, 4] rfl)
set_option maxHeartbeats 4000000 in
set_option maxRecDepth 100000 in
theorem t_Sg_boundCount_47 {p : Program} {l : Launch} {e : Env} {s : State} {m : MethodId} {args : Array Value} {below : List Frame} {meth : Method} {c : Code} {G : GX} {a0_0 a0_1 a0_2 a0_3 a0_4 : Nat} {u0 : SgC} {post : Int32 → Prop} (E : EN p s m args meth c G R_Sg cc_Sg_boundCount 6 (some .int) BG) (hR : va_P G.1 vwCl [(a0_0, .inr (5, [.int (sgK u0), .ref a0_1, .ref a0_2, .ref a0_3, .ref a0_4, .int (sgO u0), .int (sgP u0)])), (a0_1, .inl (G.2.1 0, sgN u0, .inl (sgL u0))), (a0_2, .inl (G.2.1 1, sgN u0, .inl (sgR u0))), (a0_3, .inl (G.2.1 1, sgM u0, .inl (sgB u0))), (a0_4, .inl (G.2.1 1, sgM u0, .inl (sgE u0)))] s.heap) {K0 : Int32 → Int32 → Int32 → Prop} (hK0 : ∀ (y1 : Int32) (y2 : Int32) (y3 : Int32) (ls : Array Slot), K0 y1 y2 y3 → lv_has ls 6 [(0, .ref a0_0), (1, .int y1), (2, .int y2), (3, .int y3)] → W p l e rm_Sg_boundCount s m args below meth c s.heap [] 0 0 (MQ below (vp_Si post) args s 0 0 (fun _ => False)) (F0 m 8 ls [])) : ∀ (y1 : Int32) (y2 : Int32) (y3 : Int32) (y4 : Int32) (ls : Array Slot), w_Sg_boundCount_47 post u0 K0 y1 y2 y3 y4 → lv_has ls 6 [(0, .ref a0_0), (1, .int y1), (2, .int y2), (3, .int y3), (4, .int y4)] → W p l e rm_Sg_boundCount s m args below meth c s.heap [] 0 0 (MQ below (vp_Si post) args s 0 0 (fun _ => False)) (F0 m 47 ls []) := by
  obtain ⟨hx, hb, hr, hts, hown, hlocks, hml, hC⟩ := id E
  have hK := hC.1
  intro y1 y2 y3 y4  ls h hl
  unfold w_Sg_boundCount_47 at h
  refine lv_iconst (v := 0) hx hb d_Sg_boundCount_47 (by decide) ?_
  exact t_Sg_boundCount_48 E hR hK0 _ _ _ _ _ _ h (lv_sub hl [0, 1, 2, 3, 4] rfl)
set_option maxHeartbeats 4000000 in
set_option maxRecDepth 100000 in
theorem tb_Sg_boundCount_8 {p : Program} {l : Launch} {e : Env} {s : State} {m : MethodId} {args : Array Value} {below : List Frame} {meth : Method} {c : Code} {G : GX} {a0_0 a0_1 a0_2 a0_3 a0_4 : Nat} {u0 : SgC} {post : Int32 → Prop} (E : EN p s m args meth c G R_Sg cc_Sg_boundCount 6 (some .int) BG) (hR : va_P G.1 vwCl [(a0_0, .inr (5, [.int (sgK u0), .ref a0_1, .ref a0_2, .ref a0_3, .ref a0_4, .int (sgO u0), .int (sgP u0)])), (a0_1, .inl (G.2.1 0, sgN u0, .inl (sgL u0))), (a0_2, .inl (G.2.1 1, sgN u0, .inl (sgR u0))), (a0_3, .inl (G.2.1 1, sgM u0, .inl (sgB u0))), (a0_4, .inl (G.2.1 1, sgM u0, .inl (sgE u0)))] s.heap) {K0 : Int32 → Int32 → Int32 → Prop} (hK0 : ∀ (y1 : Int32) (y2 : Int32) (y3 : Int32) (ls : Array Slot), K0 y1 y2 y3 → lv_has ls 6 [(0, .ref a0_0), (1, .int y1), (2, .int y2), (3, .int y3)] → W p l e rm_Sg_boundCount s m args below meth c s.heap [] 0 0 (MQ below (vp_Si post) args s 0 0 (fun _ => False)) (F0 m 8 ls [])) : ∀ (y1 : Int32) (y2 : Int32) (y3 : Int32) (ls : Array Slot), wb_Sg_boundCount_8 post u0 K0 y1 y2 y3 → lv_has ls 6 [(0, .ref a0_0), (1, .int y1), (2, .int y2), (3, .int y3)] → W p l e rm_Sg_boundCount s m args below meth c s.heap [] 0 0 (MQ below (vp_Si post) args s 0 0 (fun _ => False)) (F0 m 8 ls []) := by
  obtain ⟨hx, hb, hr, hts, hown, hlocks, hml, hC⟩ := id E
  have hK := hC.1
  intro y1 y2 y3  ls h hl
  unfold wb_Sg_boundCount_8 at h
  refine lv_iload_n hx hb d_Sg_boundCount_8 rfl (lv_at hl 3 rfl) ?_
  refine lv_aload_n hx hb d_Sg_boundCount_9 rfl (lv_at hl 0 rfl) ?_
  refine lv_iload_n hx hb d_Sg_boundCount_10 rfl (lv_at hl 1 rfl) ?_
  have hRc : va_P G.1 vwCl [(a0_0, .inr (5, [.int (sgK u0), .ref a0_1, .ref a0_2, .ref a0_3, .ref a0_4, .int (sgO u0), .int (sgP u0)])), (a0_1, .inl (G.2.1 0, sgN u0, .inl (sgL u0))), (a0_2, .inl (G.2.1 1, sgN u0, .inl (sgR u0))), (a0_3, .inl (G.2.1 1, sgM u0, .inl (sgB u0))), (a0_4, .inl (G.2.1 1, sgM u0, .inl (sgE u0)))] s.heap := (hR.sub (ws' := [(a0_0, .inr (5, [.int (sgK u0), .ref a0_1, .ref a0_2, .ref a0_3, .ref a0_4, .int (sgO u0), .int (sgP u0)])), (a0_1, .inl (G.2.1 0, sgN u0, .inl (sgL u0))), (a0_2, .inl (G.2.1 1, sgN u0, .inl (sgR u0))), (a0_3, .inl (G.2.1 1, sgM u0, .inl (sgB u0))), (a0_4, .inl (G.2.1 1, sgM u0, .inl (sgE u0)))]) [0, 1, 2, 3, 4] rfl)
  refine vp_callSi (va_runV (As := [.int y1]) (rest := [.int y3]) ⟨hx, hb, hml, hown, hts⟩ (c_Sg_parameterEnd l G a0_0 a0_1 a0_2 a0_3 a0_4 u0 y1 _ h) (cwV 1 hts (gwV b_185 b_186 b_187 b_173 b_184) rfl rfl rfl hd_Sg_parameterEnd ⟨Nat.le_of_ble_eq_true rfl, Nat.le_of_ble_eq_true rfl⟩) ⟨mP_blind, va_recv hK hRc (ci := 5) (q0 := 0) rfl rfl, fun U hU hW => ⟨rfl, hC.to0 hW hU, by rw [hU]; exact hRc⟩⟩ rfl rfl hl.1 rfl (lv_room (Nat.le_of_ble_eq_true rfl)) d_Sg_boundCount_11 ⟨Nat.le_of_ble_eq_true rfl, Nat.le_of_ble_eq_true rfl⟩).run (fun r6 h => ?_)
  refine lv_icmp_ge (tgt := 70) hx hb d_Sg_boundCount_14 (by decide) (fun c9 => ?_) (fun c9 => ?_)
  · have h := h.1 c9
    refine lv_iload_n hx hb d_Sg_boundCount_70 rfl (lv_at hl 2 rfl) ?_
    exact W.iret hx hb hr (fun t ht hW => ⟨_, rfl, h, ht⟩) (fun _ z => by cases z) d_Sg_boundCount_71
  · have h := h.2 c9
    refine lv_aload_n hx hb d_Sg_boundCount_17 rfl (lv_at hl 0 rfl) ?_
    refine lv_iload_n hx hb d_Sg_boundCount_18 rfl (lv_at hl 3 rfl) ?_
    have hRc : va_P G.1 vwCl [(a0_0, .inr (5, [.int (sgK u0), .ref a0_1, .ref a0_2, .ref a0_3, .ref a0_4, .int (sgO u0), .int (sgP u0)])), (a0_1, .inl (G.2.1 0, sgN u0, .inl (sgL u0))), (a0_2, .inl (G.2.1 1, sgN u0, .inl (sgR u0))), (a0_3, .inl (G.2.1 1, sgM u0, .inl (sgB u0))), (a0_4, .inl (G.2.1 1, sgM u0, .inl (sgE u0)))] s.heap := (hR.sub (ws' := [(a0_0, .inr (5, [.int (sgK u0), .ref a0_1, .ref a0_2, .ref a0_3, .ref a0_4, .int (sgO u0), .int (sgP u0)])), (a0_1, .inl (G.2.1 0, sgN u0, .inl (sgL u0))), (a0_2, .inl (G.2.1 1, sgN u0, .inl (sgR u0))), (a0_3, .inl (G.2.1 1, sgM u0, .inl (sgB u0))), (a0_4, .inl (G.2.1 1, sgM u0, .inl (sgE u0)))]) [0, 1, 2, 3, 4] rfl)
    refine vp_callSi (va_runV (As := [.int y3]) (rest := []) ⟨hx, hb, hml, hown, hts⟩ (c_Sg_roleAt l G a0_0 a0_1 a0_2 a0_3 a0_4 u0 y3 _ h) (cwV 1 hts (gwV b_176 b_177 b_178 b_173 b_175) rfl rfl rfl hd_Sg_roleAt ⟨Nat.le_of_ble_eq_true rfl, Nat.le_of_ble_eq_true rfl⟩) ⟨mP_blind, va_recv hK hRc (ci := 5) (q0 := 0) rfl rfl, fun U hU hW => ⟨rfl, hC.to0 hW hU, by rw [hU]; exact hRc⟩⟩ rfl rfl hl.1 rfl (lv_room (Nat.le_of_ble_eq_true rfl)) d_Sg_boundCount_19 ⟨Nat.le_of_ble_eq_true rfl, Nat.le_of_ble_eq_true rfl⟩).run (fun r7 h => ?_)
    refine lv_istore (lv' := [(4, .int r7), (0, .ref a0_0), (1, .int y1), (2, .int y2), (3, .int y3)]) hx hb d_Sg_boundCount_22 hl (by decide) rfl (fun ls hl => ?_)
    refine lv_iload hx hb d_Sg_boundCount_24 (lv_at hl 0 rfl) ?_
    refine lv_iconst (v := 3) hx hb d_Sg_boundCount_26 (by decide) ?_
    refine lv_icmp_ne (tgt := 47) hx hb d_Sg_boundCount_27 (by decide) (fun c9 => ?_) (fun c9 => ?_)
    · have h := h.1 c9
      exact t_Sg_boundCount_47 E hR hK0 _ _ _ _ _ h (lv_sub hl [1, 2, 3, 4, 0] rfl)
    · have h := h.2 c9
      refine lv_aload_n hx hb d_Sg_boundCount_30 rfl (lv_at hl 1 rfl) ?_
      refine lv_iload_n hx hb d_Sg_boundCount_31 rfl (lv_at hl 4 rfl) ?_
      refine lv_iconst (v := 1) hx hb d_Sg_boundCount_32 (by decide) ?_
      refine lv_iadd hx hb d_Sg_boundCount_33 ?_
      have hRc : va_P G.1 vwCl [(a0_0, .inr (5, [.int (sgK u0), .ref a0_1, .ref a0_2, .ref a0_3, .ref a0_4, .int (sgO u0), .int (sgP u0)])), (a0_1, .inl (G.2.1 0, sgN u0, .inl (sgL u0))), (a0_2, .inl (G.2.1 1, sgN u0, .inl (sgR u0))), (a0_3, .inl (G.2.1 1, sgM u0, .inl (sgB u0))), (a0_4, .inl (G.2.1 1, sgM u0, .inl (sgE u0)))] s.heap := (hR.sub (ws' := [(a0_0, .inr (5, [.int (sgK u0), .ref a0_1, .ref a0_2, .ref a0_3, .ref a0_4, .int (sgO u0), .int (sgP u0)])), (a0_1, .inl (G.2.1 0, sgN u0, .inl (sgL u0))), (a0_2, .inl (G.2.1 1, sgN u0, .inl (sgR u0))), (a0_3, .inl (G.2.1 1, sgM u0, .inl (sgB u0))), (a0_4, .inl (G.2.1 1, sgM u0, .inl (sgE u0)))]) [0, 1, 2, 3, 4] rfl)
      refine vp_callSi (va_runV (As := [.int (y3 + 1)]) (rest := []) ⟨hx, hb, hml, hown, hts⟩ (c_Sg_roleAt l G a0_0 a0_1 a0_2 a0_3 a0_4 u0 (y3 + 1) _ h) (cwV 1 hts (gwV b_176 b_177 b_178 b_173 b_175) rfl rfl rfl hd_Sg_roleAt ⟨Nat.le_of_ble_eq_true rfl, Nat.le_of_ble_eq_true rfl⟩) ⟨mP_blind, va_recv hK hRc (ci := 5) (q0 := 0) rfl rfl, fun U hU hW => ⟨rfl, hC.to0 hW hU, by rw [hU]; exact hRc⟩⟩ rfl rfl hl.1 rfl (lv_room (Nat.le_of_ble_eq_true rfl)) d_Sg_boundCount_34 ⟨Nat.le_of_ble_eq_true rfl, Nat.le_of_ble_eq_true rfl⟩).run (fun r8 h => ?_)
      have hRc : va_P G.1 vwCl [] s.heap := vaP_nil
      refine vp_callSi (va_runSN (As := [.int r8]) (rest := []) ⟨hx, hb, hml, hown, hts⟩ (c_beginsReference l G r8 _ h) ⟨va_cnB 1 hts (gwC b_48) rfl rfl rfl (nm9_6 hC) (hts _ b_51) hd_Fo_beginsReference.2 ⟨Nat.le_of_ble_eq_true rfl, Nat.le_of_ble_eq_true rfl⟩, hts _ b_50, trivial⟩ ⟨mP_blind, fun U hU hW => ⟨rfl, hC.to0 hW hU, by rw [hU]; exact hRc⟩⟩ rfl rfl hl.1 rfl (lv_room (Nat.le_of_ble_eq_true rfl)) d_Sg_boundCount_37 ⟨Nat.le_of_ble_eq_true rfl, Nat.le_of_ble_eq_true rfl⟩).run (fun r9 h => ?_)
      refine lv_if_eq (tgt := 47) hx hb d_Sg_boundCount_40 (by decide) (fun c9 => ?_) (fun c9 => ?_)
      · have h := h.1 c9
        exact t_Sg_boundCount_47 E hR hK0 _ _ _ _ _ h (lv_sub hl [1, 2, 3, 4, 0] rfl)
      · have h := h.2 c9
        refine lv_iconst (v := 1) hx hb d_Sg_boundCount_43 (by decide) ?_
        refine lv_goto (tgt := 48) hx hb d_Sg_boundCount_44 (by decide) ?_
        exact t_Sg_boundCount_48 E hR hK0 _ _ _ _ _ _ h (lv_sub hl [1, 2, 3, 4, 0] rfl)
set_option maxHeartbeats 4000000 in
set_option maxRecDepth 100000 in
theorem t_Sg_boundCount_8 {p : Program} {l : Launch} {e : Env} {s : State} {m : MethodId} {args : Array Value} {below : List Frame} {meth : Method} {c : Code} {G : GX} {a0_0 a0_1 a0_2 a0_3 a0_4 : Nat} {u0 : SgC} {post : Int32 → Prop} (E : EN p s m args meth c G R_Sg cc_Sg_boundCount 6 (some .int) BG) (hR : va_P G.1 vwCl [(a0_0, .inr (5, [.int (sgK u0), .ref a0_1, .ref a0_2, .ref a0_3, .ref a0_4, .int (sgO u0), .int (sgP u0)])), (a0_1, .inl (G.2.1 0, sgN u0, .inl (sgL u0))), (a0_2, .inl (G.2.1 1, sgN u0, .inl (sgR u0))), (a0_3, .inl (G.2.1 1, sgM u0, .inl (sgB u0))), (a0_4, .inl (G.2.1 1, sgM u0, .inl (sgE u0)))] s.heap) : ∀ (n : Nat) (y1 : Int32) (y2 : Int32) (y3 : Int32) (ls : Array Slot), w_Sg_boundCount_8 post u0 n y1 y2 y3 → lv_has ls 6 [(0, .ref a0_0), (1, .int y1), (2, .int y2), (3, .int y3)] → W p l e rm_Sg_boundCount s m args below meth c s.heap [] 0 0 (MQ below (vp_Si post) args s 0 0 (fun _ => False)) (F0 m 8 ls []) := by
  intro n
  induction n with
  | zero => intro y1 y2 y3  ls h; exact h.elim
  | succ n ih =>
    intro y1 y2 y3  ls h hl
    exact tb_Sg_boundCount_8 E hR  ih _ _ _ _ h hl
set_option maxHeartbeats 4000000 in
set_option maxRecDepth 100000 in
theorem t_Sg_boundCount_in {p : Program} {l : Launch} {e : Env} {s : State} {m : MethodId} {args : Array Value} {below : List Frame} {meth : Method} {c : Code} {G : GX} {a0_0 a0_1 a0_2 a0_3 a0_4 : Nat} {u0 : SgC} {post : Int32 → Prop} {x1 : Int32} (E : EN p s m args meth c G R_Sg cc_Sg_boundCount 6 (some .int) BG) (hR : va_P G.1 vwCl [(a0_0, .inr (5, [.int (sgK u0), .ref a0_1, .ref a0_2, .ref a0_3, .ref a0_4, .int (sgO u0), .int (sgP u0)])), (a0_1, .inl (G.2.1 0, sgN u0, .inl (sgL u0))), (a0_2, .inl (G.2.1 1, sgN u0, .inl (sgR u0))), (a0_3, .inl (G.2.1 1, sgM u0, .inl (sgB u0))), (a0_4, .inl (G.2.1 1, sgM u0, .inl (sgE u0)))] s.heap) : ∀ (ls : Array Slot), wp_Sg_boundCount post u0 x1 → lv_has ls 6 [(0, .ref a0_0), (1, .int x1)] → W p l e rm_Sg_boundCount s m args below meth c s.heap [] 0 0 (MQ below (vp_Si post) args s 0 0 (fun _ => False)) (F0 m 0 ls []) := by
  obtain ⟨hx, hb, hr, hts, hown, hlocks, hml, hC⟩ := id E
  have hK := hC.1
  intro ls h hl
  unfold wp_Sg_boundCount at h
  refine lv_iconst (v := 0) hx hb d_Sg_boundCount_0 (by decide) ?_
  refine lv_istore_n (lv' := [(2, .int 0), (0, .ref a0_0), (1, .int x1)]) hx hb d_Sg_boundCount_1 rfl hl (by decide) rfl (fun ls hl => ?_)
  refine lv_aload_n hx hb d_Sg_boundCount_2 rfl (lv_at hl 1 rfl) ?_
  refine lv_iload_n hx hb d_Sg_boundCount_3 rfl (lv_at hl 2 rfl) ?_
  have hRc : va_P G.1 vwCl [(a0_0, .inr (5, [.int (sgK u0), .ref a0_1, .ref a0_2, .ref a0_3, .ref a0_4, .int (sgO u0), .int (sgP u0)])), (a0_1, .inl (G.2.1 0, sgN u0, .inl (sgL u0))), (a0_2, .inl (G.2.1 1, sgN u0, .inl (sgR u0))), (a0_3, .inl (G.2.1 1, sgM u0, .inl (sgB u0))), (a0_4, .inl (G.2.1 1, sgM u0, .inl (sgE u0)))] s.heap := (hR.sub (ws' := [(a0_0, .inr (5, [.int (sgK u0), .ref a0_1, .ref a0_2, .ref a0_3, .ref a0_4, .int (sgO u0), .int (sgP u0)])), (a0_1, .inl (G.2.1 0, sgN u0, .inl (sgL u0))), (a0_2, .inl (G.2.1 1, sgN u0, .inl (sgR u0))), (a0_3, .inl (G.2.1 1, sgM u0, .inl (sgB u0))), (a0_4, .inl (G.2.1 1, sgM u0, .inl (sgE u0)))]) [0, 1, 2, 3, 4] rfl)
  refine vp_callSi (va_runV (As := [.int x1]) (rest := []) ⟨hx, hb, hml, hown, hts⟩ (c_Sg_nameStart l G a0_0 a0_1 a0_2 a0_3 a0_4 u0 x1 _ h) (cwV 1 hts (gwV b_181 b_182 b_183 b_173 b_180) rfl rfl rfl hd_Sg_nameStart ⟨Nat.le_of_ble_eq_true rfl, Nat.le_of_ble_eq_true rfl⟩) ⟨mP_blind, va_recv hK hRc (ci := 5) (q0 := 0) rfl rfl, fun U hU hW => ⟨rfl, hC.to0 hW hU, by rw [hU]; exact hRc⟩⟩ rfl rfl hl.1 rfl (lv_room (Nat.le_of_ble_eq_true rfl)) d_Sg_boundCount_4 ⟨Nat.le_of_ble_eq_true rfl, Nat.le_of_ble_eq_true rfl⟩).run (fun r10 h => ?_)
  refine lv_istore_n (lv' := [(3, .int r10), (2, .int 0), (0, .ref a0_0), (1, .int x1)]) hx hb d_Sg_boundCount_7 rfl hl (by decide) rfl (fun ls hl => ?_)
  obtain ⟨n, h⟩ := h
  exact t_Sg_boundCount_8 E hR  n _ _ _ _ h (lv_sub hl [2, 3, 1, 0] rfl)
set_option maxHeartbeats 4000000 in
set_option maxRecDepth 100000 in
theorem c_Sg_boundCount (l : Launch) (G : GX) (a0_0 a0_1 a0_2 a0_3 a0_4 : Nat) (u0 : SgC) (x1 : Int32) (post : Int32 → Prop) (h : wp_Sg_boundCount post u0 x1) : Met l y_Sg_boundCount wc_Sg_boundCount rm_Sg_boundCount (mP G [.ref a0_0, .int x1] [(a0_0, .inr (5, [.int (sgK u0), .ref a0_1, .ref a0_2, .ref a0_3, .ref a0_4, .int (sgO u0), .int (sgP u0)])), (a0_1, .inl (G.2.1 0, sgN u0, .inl (sgL u0))), (a0_2, .inl (G.2.1 1, sgN u0, .inl (sgR u0))), (a0_3, .inl (G.2.1 1, sgM u0, .inl (sgB u0))), (a0_4, .inl (G.2.1 1, sgM u0, .inl (sgE u0)))]) (vp_Si post) 0 0 (fun _ => False) := by
  refine Met.ofW (cc := cc_Sg_boundCount) (maxL := 6) (ret := (some .int)) (by decide) rfl ?_
  intro p e s m args below meth c s₁ B hml hv
  obtain ⟨rfl, hC, hR⟩ := hv
  have E : EN p s m ([.ref a0_0, .int x1] : List Value).toArray meth c G R_Sg cc_Sg_boundCount 6 (some .int) BG := ⟨B.exec, B.bytes, B.returns, fun w h => atoms_spec (ws := wc_Sg_boundCount) B.pre w (List.mem_cons_of_mem _ h), findClass_of_methodNamed B.named, B.notSynchronized, hml, hC⟩
  have hl := lv_entry ([.ref a0_0, .int x1]) (n := 6) (Nat.le_of_ble_eq_true rfl)
  rw [lg_entry_eq]
  generalize (lg_sl ([.ref a0_0, .int x1]) ++ List.replicate (6 - (lg_sl ([.ref a0_0, .int x1])).length) Slot.unset).toArray = ls at hl ⊢
  have hl : lv_has ls 6 [(0, .ref a0_0), (1, .int x1)] := hl
  exact t_Sg_boundCount_in E hR _ h hl
set_option maxHeartbeats 4000000 in
set_option maxRecDepth 100000 in
theorem t_Sg_firstBound_in {p : Program} {l : Launch} {e : Env} {s : State} {m : MethodId} {args : Array Value} {below : List Frame} {meth : Method} {c : Code} {G : GX} {a0_0 a0_1 a0_2 a0_3 a0_4 : Nat} {u0 : SgC} {post : Int32 → Prop} {x1 : Int32} (E : EN p s m args meth c G R_Sg cc_Sg_firstBound 3 (some .int) BG) (hR : va_P G.1 vwCl [(a0_0, .inr (5, [.int (sgK u0), .ref a0_1, .ref a0_2, .ref a0_3, .ref a0_4, .int (sgO u0), .int (sgP u0)])), (a0_1, .inl (G.2.1 0, sgN u0, .inl (sgL u0))), (a0_2, .inl (G.2.1 1, sgN u0, .inl (sgR u0))), (a0_3, .inl (G.2.1 1, sgM u0, .inl (sgB u0))), (a0_4, .inl (G.2.1 1, sgM u0, .inl (sgE u0)))] s.heap) : ∀ (ls : Array Slot), wp_Sg_firstBound post u0 x1 → lv_has ls 3 [(0, .ref a0_0), (1, .int x1)] → W p l e rm_Sg_firstBound s m args below meth c s.heap [] 0 0 (MQ below (vp_Si post) args s 0 0 (fun _ => False)) (F0 m 0 ls []) := by
  obtain ⟨hx, hb, hr, hts, hown, hlocks, hml, hC⟩ := id E
  have hK := hC.1
  intro ls h hl
  unfold wp_Sg_firstBound at h
  refine lv_aload_n hx hb d_Sg_firstBound_0 rfl (lv_at hl 0 rfl) ?_
  refine lv_iload_n hx hb d_Sg_firstBound_1 rfl (lv_at hl 1 rfl) ?_
  have hRc : va_P G.1 vwCl [(a0_0, .inr (5, [.int (sgK u0), .ref a0_1, .ref a0_2, .ref a0_3, .ref a0_4, .int (sgO u0), .int (sgP u0)])), (a0_1, .inl (G.2.1 0, sgN u0, .inl (sgL u0))), (a0_2, .inl (G.2.1 1, sgN u0, .inl (sgR u0))), (a0_3, .inl (G.2.1 1, sgM u0, .inl (sgB u0))), (a0_4, .inl (G.2.1 1, sgM u0, .inl (sgE u0)))] s.heap := (hR.sub (ws' := [(a0_0, .inr (5, [.int (sgK u0), .ref a0_1, .ref a0_2, .ref a0_3, .ref a0_4, .int (sgO u0), .int (sgP u0)])), (a0_1, .inl (G.2.1 0, sgN u0, .inl (sgL u0))), (a0_2, .inl (G.2.1 1, sgN u0, .inl (sgR u0))), (a0_3, .inl (G.2.1 1, sgM u0, .inl (sgB u0))), (a0_4, .inl (G.2.1 1, sgM u0, .inl (sgE u0)))]) [0, 1, 2, 3, 4] rfl)
  refine vp_callSi (va_runV (As := [.int x1]) (rest := []) ⟨hx, hb, hml, hown, hts⟩ (c_Sg_nameStart l G a0_0 a0_1 a0_2 a0_3 a0_4 u0 x1 _ h) (cwV 1 hts (gwV b_181 b_182 b_183 b_173 b_180) rfl rfl rfl hd_Sg_nameStart ⟨Nat.le_of_ble_eq_true rfl, Nat.le_of_ble_eq_true rfl⟩) ⟨mP_blind, va_recv hK hRc (ci := 5) (q0 := 0) rfl rfl, fun U hU hW => ⟨rfl, hC.to0 hW hU, by rw [hU]; exact hRc⟩⟩ rfl rfl hl.1 rfl (lv_room (Nat.le_of_ble_eq_true rfl)) d_Sg_firstBound_2 ⟨Nat.le_of_ble_eq_true rfl, Nat.le_of_ble_eq_true rfl⟩).run (fun r6 h => ?_)
  refine lv_aload_n hx hb d_Sg_firstBound_5 rfl (lv_at hl 0 rfl) ?_
  refine lv_iload_n hx hb d_Sg_firstBound_6 rfl (lv_at hl 1 rfl) ?_
  have hRc : va_P G.1 vwCl [(a0_0, .inr (5, [.int (sgK u0), .ref a0_1, .ref a0_2, .ref a0_3, .ref a0_4, .int (sgO u0), .int (sgP u0)])), (a0_1, .inl (G.2.1 0, sgN u0, .inl (sgL u0))), (a0_2, .inl (G.2.1 1, sgN u0, .inl (sgR u0))), (a0_3, .inl (G.2.1 1, sgM u0, .inl (sgB u0))), (a0_4, .inl (G.2.1 1, sgM u0, .inl (sgE u0)))] s.heap := (hR.sub (ws' := [(a0_0, .inr (5, [.int (sgK u0), .ref a0_1, .ref a0_2, .ref a0_3, .ref a0_4, .int (sgO u0), .int (sgP u0)])), (a0_1, .inl (G.2.1 0, sgN u0, .inl (sgL u0))), (a0_2, .inl (G.2.1 1, sgN u0, .inl (sgR u0))), (a0_3, .inl (G.2.1 1, sgM u0, .inl (sgB u0))), (a0_4, .inl (G.2.1 1, sgM u0, .inl (sgE u0)))]) [0, 1, 2, 3, 4] rfl)
  refine vp_callSi (va_runV (As := [.int x1]) (rest := [.int r6]) ⟨hx, hb, hml, hown, hts⟩ (c_Sg_nameLength l G a0_0 a0_1 a0_2 a0_3 a0_4 u0 x1 _ h) (cwV 1 hts (gwV b_189 b_190 b_191 b_173 b_188) rfl rfl rfl hd_Sg_nameLength ⟨Nat.le_of_ble_eq_true rfl, Nat.le_of_ble_eq_true rfl⟩) ⟨mP_blind, va_recv hK hRc (ci := 5) (q0 := 0) rfl rfl, fun U hU hW => ⟨rfl, hC.to0 hW hU, by rw [hU]; exact hRc⟩⟩ rfl rfl hl.1 rfl (lv_room (Nat.le_of_ble_eq_true rfl)) d_Sg_firstBound_7 ⟨Nat.le_of_ble_eq_true rfl, Nat.le_of_ble_eq_true rfl⟩).run (fun r7 h => ?_)
  refine lv_iadd hx hb d_Sg_firstBound_10 ?_
  refine lv_iconst (v := 1) hx hb d_Sg_firstBound_11 (by decide) ?_
  refine lv_iadd hx hb d_Sg_firstBound_12 ?_
  refine lv_istore_n (lv' := [(2, .int ((r6 + r7) + 1)), (0, .ref a0_0), (1, .int x1)]) hx hb d_Sg_firstBound_13 rfl hl (by decide) rfl (fun ls hl => ?_)
  refine lv_aload_n hx hb d_Sg_firstBound_14 rfl (lv_at hl 1 rfl) ?_
  refine lv_iload_n hx hb d_Sg_firstBound_15 rfl (lv_at hl 0 rfl) ?_
  have hRc : va_P G.1 vwCl [(a0_0, .inr (5, [.int (sgK u0), .ref a0_1, .ref a0_2, .ref a0_3, .ref a0_4, .int (sgO u0), .int (sgP u0)])), (a0_1, .inl (G.2.1 0, sgN u0, .inl (sgL u0))), (a0_2, .inl (G.2.1 1, sgN u0, .inl (sgR u0))), (a0_3, .inl (G.2.1 1, sgM u0, .inl (sgB u0))), (a0_4, .inl (G.2.1 1, sgM u0, .inl (sgE u0)))] s.heap := (hR.sub (ws' := [(a0_0, .inr (5, [.int (sgK u0), .ref a0_1, .ref a0_2, .ref a0_3, .ref a0_4, .int (sgO u0), .int (sgP u0)])), (a0_1, .inl (G.2.1 0, sgN u0, .inl (sgL u0))), (a0_2, .inl (G.2.1 1, sgN u0, .inl (sgR u0))), (a0_3, .inl (G.2.1 1, sgM u0, .inl (sgB u0))), (a0_4, .inl (G.2.1 1, sgM u0, .inl (sgE u0)))]) [0, 1, 2, 3, 4] rfl)
  refine vp_callSi (va_runV (As := [.int ((r6 + r7) + 1)]) (rest := []) ⟨hx, hb, hml, hown, hts⟩ (c_Sg_roleAt l G a0_0 a0_1 a0_2 a0_3 a0_4 u0 ((r6 + r7) + 1) _ h) (cwV 1 hts (gwV b_176 b_177 b_178 b_173 b_175) rfl rfl rfl hd_Sg_roleAt ⟨Nat.le_of_ble_eq_true rfl, Nat.le_of_ble_eq_true rfl⟩) ⟨mP_blind, va_recv hK hRc (ci := 5) (q0 := 0) rfl rfl, fun U hU hW => ⟨rfl, hC.to0 hW hU, by rw [hU]; exact hRc⟩⟩ rfl rfl hl.1 rfl (lv_room (Nat.le_of_ble_eq_true rfl)) d_Sg_firstBound_16 ⟨Nat.le_of_ble_eq_true rfl, Nat.le_of_ble_eq_true rfl⟩).run (fun r8 h => ?_)
  refine lv_iconst (v := 4) hx hb d_Sg_firstBound_19 (by decide) ?_
  refine lv_icmp_ne (tgt := 27) hx hb d_Sg_firstBound_20 (by decide) (fun c9 => ?_) (fun c9 => ?_)
  · have h := h.1 c9
    refine lv_aload_n hx hb d_Sg_firstBound_27 rfl (lv_at hl 1 rfl) ?_
    refine lv_iload_n hx hb d_Sg_firstBound_28 rfl (lv_at hl 0 rfl) ?_
    have hRc : va_P G.1 vwCl [(a0_0, .inr (5, [.int (sgK u0), .ref a0_1, .ref a0_2, .ref a0_3, .ref a0_4, .int (sgO u0), .int (sgP u0)])), (a0_1, .inl (G.2.1 0, sgN u0, .inl (sgL u0))), (a0_2, .inl (G.2.1 1, sgN u0, .inl (sgR u0))), (a0_3, .inl (G.2.1 1, sgM u0, .inl (sgB u0))), (a0_4, .inl (G.2.1 1, sgM u0, .inl (sgE u0)))] s.heap := (hR.sub (ws' := [(a0_0, .inr (5, [.int (sgK u0), .ref a0_1, .ref a0_2, .ref a0_3, .ref a0_4, .int (sgO u0), .int (sgP u0)])), (a0_1, .inl (G.2.1 0, sgN u0, .inl (sgL u0))), (a0_2, .inl (G.2.1 1, sgN u0, .inl (sgR u0))), (a0_3, .inl (G.2.1 1, sgM u0, .inl (sgB u0))), (a0_4, .inl (G.2.1 1, sgM u0, .inl (sgE u0)))]) [0, 1, 2, 3, 4] rfl)
    refine vp_callSi (va_runV (As := [.int ((r6 + r7) + 1)]) (rest := []) ⟨hx, hb, hml, hown, hts⟩ (c_Sg_roleAt l G a0_0 a0_1 a0_2 a0_3 a0_4 u0 ((r6 + r7) + 1) _ h) (cwV 1 hts (gwV b_176 b_177 b_178 b_173 b_175) rfl rfl rfl hd_Sg_roleAt ⟨Nat.le_of_ble_eq_true rfl, Nat.le_of_ble_eq_true rfl⟩) ⟨mP_blind, va_recv hK hRc (ci := 5) (q0 := 0) rfl rfl, fun U hU hW => ⟨rfl, hC.to0 hW hU, by rw [hU]; exact hRc⟩⟩ rfl rfl hl.1 rfl (lv_room (Nat.le_of_ble_eq_true rfl)) d_Sg_firstBound_29 ⟨Nat.le_of_ble_eq_true rfl, Nat.le_of_ble_eq_true rfl⟩).run (fun r9 h => ?_)
    have hRc : va_P G.1 vwCl [] s.heap := vaP_nil
    refine vp_callSi (va_runSN (As := [.int r9]) (rest := []) ⟨hx, hb, hml, hown, hts⟩ (c_beginsReference l G r9 _ h) ⟨va_cnB 1 hts (gwC b_48) rfl rfl rfl (nm9_6 hC) (hts _ b_51) hd_Fo_beginsReference.2 ⟨Nat.le_of_ble_eq_true rfl, Nat.le_of_ble_eq_true rfl⟩, hts _ b_50, trivial⟩ ⟨mP_blind, fun U hU hW => ⟨rfl, hC.to0 hW hU, by rw [hU]; exact hRc⟩⟩ rfl rfl hl.1 rfl (lv_room (Nat.le_of_ble_eq_true rfl)) d_Sg_firstBound_32 ⟨Nat.le_of_ble_eq_true rfl, Nat.le_of_ble_eq_true rfl⟩).run (fun r10 h => ?_)
    refine lv_if_eq (tgt := 42) hx hb d_Sg_firstBound_35 (by decide) (fun c9 => ?_) (fun c9 => ?_)
    · have h := h.1 c9
      refine lv_iconst (v := (-1)) hx hb d_Sg_firstBound_42 (by decide) ?_
      exact W.iret hx hb hr (fun t ht hW => ⟨_, rfl, h, ht⟩) (fun _ z => by cases z) d_Sg_firstBound_43
    · have h := h.2 c9
      refine lv_iload_n hx hb d_Sg_firstBound_38 rfl (lv_at hl 0 rfl) ?_
      refine lv_goto (tgt := 43) hx hb d_Sg_firstBound_39 (by decide) ?_
      exact W.iret hx hb hr (fun t ht hW => ⟨_, rfl, h, ht⟩) (fun _ z => by cases z) d_Sg_firstBound_43
  · have h := h.2 c9
    refine lv_iload_n hx hb d_Sg_firstBound_23 rfl (lv_at hl 0 rfl) ?_
    refine lv_iconst (v := 1) hx hb d_Sg_firstBound_24 (by decide) ?_
    refine lv_iadd hx hb d_Sg_firstBound_25 ?_
    exact W.iret hx hb hr (fun t ht hW => ⟨_, rfl, h, ht⟩) (fun _ z => by cases z) d_Sg_firstBound_26
set_option maxHeartbeats 4000000 in
set_option maxRecDepth 100000 in
theorem c_Sg_firstBound (l : Launch) (G : GX) (a0_0 a0_1 a0_2 a0_3 a0_4 : Nat) (u0 : SgC) (x1 : Int32) (post : Int32 → Prop) (h : wp_Sg_firstBound post u0 x1) : Met l y_Sg_firstBound wc_Sg_firstBound rm_Sg_firstBound (mP G [.ref a0_0, .int x1] [(a0_0, .inr (5, [.int (sgK u0), .ref a0_1, .ref a0_2, .ref a0_3, .ref a0_4, .int (sgO u0), .int (sgP u0)])), (a0_1, .inl (G.2.1 0, sgN u0, .inl (sgL u0))), (a0_2, .inl (G.2.1 1, sgN u0, .inl (sgR u0))), (a0_3, .inl (G.2.1 1, sgM u0, .inl (sgB u0))), (a0_4, .inl (G.2.1 1, sgM u0, .inl (sgE u0)))]) (vp_Si post) 0 0 (fun _ => False) := by
  refine Met.ofW (cc := cc_Sg_firstBound) (maxL := 3) (ret := (some .int)) (by decide) rfl ?_
  intro p e s m args below meth c s₁ B hml hv
  obtain ⟨rfl, hC, hR⟩ := hv
  have E : EN p s m ([.ref a0_0, .int x1] : List Value).toArray meth c G R_Sg cc_Sg_firstBound 3 (some .int) BG := ⟨B.exec, B.bytes, B.returns, fun w h => atoms_spec (ws := wc_Sg_firstBound) B.pre w (List.mem_cons_of_mem _ h), findClass_of_methodNamed B.named, B.notSynchronized, hml, hC⟩
  have hl := lv_entry ([.ref a0_0, .int x1]) (n := 3) (Nat.le_of_ble_eq_true rfl)
  rw [lg_entry_eq]
  generalize (lg_sl ([.ref a0_0, .int x1]) ++ List.replicate (3 - (lg_sl ([.ref a0_0, .int x1])).length) Slot.unset).toArray = ls at hl ⊢
  have hl : lv_has ls 3 [(0, .ref a0_0), (1, .int x1)] := hl
  exact t_Sg_firstBound_in E hR _ h hl
set_option maxHeartbeats 4000000 in
set_option maxRecDepth 100000 in
theorem tb_Sg_sameLetters_3 {p : Program} {l : Launch} {e : Env} {s : State} {m : MethodId} {args : Array Value} {below : List Frame} {meth : Method} {c : Code} {G : GX} {a0_0 a0_1 a0_2 a0_3 a0_4 a2_0 a2_1 a2_2 a2_3 a2_4 : Nat} {u0 : SgC} {u2 : SgC} {post : Int32 → Prop} (E : EN p s m args meth c G R_Sg cc_Sg_sameLetters 6 (some .boolean) BG) (hR : va_P G.1 vwCl [(a0_0, .inr (5, [.int (sgK u0), .ref a0_1, .ref a0_2, .ref a0_3, .ref a0_4, .int (sgO u0), .int (sgP u0)])), (a0_1, .inl (G.2.1 0, sgN u0, .inl (sgL u0))), (a0_2, .inl (G.2.1 1, sgN u0, .inl (sgR u0))), (a0_3, .inl (G.2.1 1, sgM u0, .inl (sgB u0))), (a0_4, .inl (G.2.1 1, sgM u0, .inl (sgE u0))), (a2_0, .inr (5, [.int (sgK u2), .ref a2_1, .ref a2_2, .ref a2_3, .ref a2_4, .int (sgO u2), .int (sgP u2)])), (a2_1, .inl (G.2.1 0, sgN u2, .inl (sgL u2))), (a2_2, .inl (G.2.1 1, sgN u2, .inl (sgR u2))), (a2_3, .inl (G.2.1 1, sgM u2, .inl (sgB u2))), (a2_4, .inl (G.2.1 1, sgM u2, .inl (sgE u2)))] s.heap) {K0 : Int32 → Int32 → Int32 → Int32 → Prop} (hK0 : ∀ (y1 : Int32) (y3 : Int32) (y4 : Int32) (y5 : Int32) (ls : Array Slot), K0 y1 y3 y4 y5 → lv_has ls 6 [(0, .ref a0_0), (1, .int y1), (2, .ref a2_0), (3, .int y3), (4, .int y4), (5, .int y5)] → W p l e rm_Sg_sameLetters s m args below meth c s.heap [] 0 0 (MQ below (vp_Si post) args s 0 0 (fun _ => False)) (F0 m 3 ls [])) : ∀ (y1 : Int32) (y3 : Int32) (y4 : Int32) (y5 : Int32) (ls : Array Slot), wb_Sg_sameLetters_3 post u0 u2 K0 y1 y3 y4 y5 → lv_has ls 6 [(0, .ref a0_0), (1, .int y1), (2, .ref a2_0), (3, .int y3), (4, .int y4), (5, .int y5)] → W p l e rm_Sg_sameLetters s m args below meth c s.heap [] 0 0 (MQ below (vp_Si post) args s 0 0 (fun _ => False)) (F0 m 3 ls []) := by
  obtain ⟨hx, hb, hr, hts, hown, hlocks, hml, hC⟩ := id E
  have hK := hC.1
  intro y1 y3 y4 y5  ls h hl
  unfold wb_Sg_sameLetters_3 at h
  refine lv_iload hx hb d_Sg_sameLetters_3 (lv_at hl 5 rfl) ?_
  refine lv_iload hx hb d_Sg_sameLetters_5 (lv_at hl 4 rfl) ?_
  refine lv_icmp_ge (tgt := 37) hx hb d_Sg_sameLetters_7 (by decide) (fun c9 => ?_) (fun c9 => ?_)
  · have h := h.1 c9
    refine lv_iconst (v := 1) hx hb d_Sg_sameLetters_37 (by decide) ?_
    exact W.zret hx hb hr (by decide) (fun t ht hW => ⟨_, rfl, h, ht⟩) (fun _ z => by cases z) d_Sg_sameLetters_38
  · have h := h.2 c9
    refine lv_aload_n hx hb d_Sg_sameLetters_10 rfl (lv_at hl 0 rfl) ?_
    refine lv_iload_n hx hb d_Sg_sameLetters_11 rfl (lv_at hl 1 rfl) ?_
    refine lv_iload hx hb d_Sg_sameLetters_12 (lv_at hl 5 rfl) ?_
    refine lv_iadd hx hb d_Sg_sameLetters_14 ?_
    have hRc : va_P G.1 vwCl [(a0_0, .inr (5, [.int (sgK u0), .ref a0_1, .ref a0_2, .ref a0_3, .ref a0_4, .int (sgO u0), .int (sgP u0)])), (a0_1, .inl (G.2.1 0, sgN u0, .inl (sgL u0))), (a0_2, .inl (G.2.1 1, sgN u0, .inl (sgR u0))), (a0_3, .inl (G.2.1 1, sgM u0, .inl (sgB u0))), (a0_4, .inl (G.2.1 1, sgM u0, .inl (sgE u0)))] s.heap := (hR.sub (ws' := [(a0_0, .inr (5, [.int (sgK u0), .ref a0_1, .ref a0_2, .ref a0_3, .ref a0_4, .int (sgO u0), .int (sgP u0)])), (a0_1, .inl (G.2.1 0, sgN u0, .inl (sgL u0))), (a0_2, .inl (G.2.1 1, sgN u0, .inl (sgR u0))), (a0_3, .inl (G.2.1 1, sgM u0, .inl (sgB u0))), (a0_4, .inl (G.2.1 1, sgM u0, .inl (sgE u0)))]) [0, 1, 2, 3, 4] rfl)
    refine vp_callSi (va_runV (As := [.int (y1 + y5)]) (rest := []) ⟨hx, hb, hml, hown, hts⟩ (c_Sg_letterAt l G a0_0 a0_1 a0_2 a0_3 a0_4 u0 (y1 + y5) _ h) (cwV 1 hts (gwV b_193 b_194 b_195 b_173 b_192) rfl rfl rfl hd_Sg_letterAt ⟨Nat.le_of_ble_eq_true rfl, Nat.le_of_ble_eq_true rfl⟩) ⟨mP_blind, va_recv hK hRc (ci := 5) (q0 := 0) rfl rfl, fun U hU hW => ⟨rfl, hC.to0 hW hU, by rw [hU]; exact hRc⟩⟩ rfl rfl hl.1 rfl (lv_room (Nat.le_of_ble_eq_true rfl)) d_Sg_sameLetters_15 ⟨Nat.le_of_ble_eq_true rfl, Nat.le_of_ble_eq_true rfl⟩).run (fun r3 h => ?_)
    refine lv_aload_n hx hb d_Sg_sameLetters_18 rfl (lv_at hl 2 rfl) ?_
    refine lv_iload_n hx hb d_Sg_sameLetters_19 rfl (lv_at hl 3 rfl) ?_
    refine lv_iload hx hb d_Sg_sameLetters_20 (lv_at hl 5 rfl) ?_
    refine lv_iadd hx hb d_Sg_sameLetters_22 ?_
    have hRc : va_P G.1 vwCl [(a2_0, .inr (5, [.int (sgK u2), .ref a2_1, .ref a2_2, .ref a2_3, .ref a2_4, .int (sgO u2), .int (sgP u2)])), (a2_1, .inl (G.2.1 0, sgN u2, .inl (sgL u2))), (a2_2, .inl (G.2.1 1, sgN u2, .inl (sgR u2))), (a2_3, .inl (G.2.1 1, sgM u2, .inl (sgB u2))), (a2_4, .inl (G.2.1 1, sgM u2, .inl (sgE u2)))] s.heap := (hR.sub (ws' := [(a2_0, .inr (5, [.int (sgK u2), .ref a2_1, .ref a2_2, .ref a2_3, .ref a2_4, .int (sgO u2), .int (sgP u2)])), (a2_1, .inl (G.2.1 0, sgN u2, .inl (sgL u2))), (a2_2, .inl (G.2.1 1, sgN u2, .inl (sgR u2))), (a2_3, .inl (G.2.1 1, sgM u2, .inl (sgB u2))), (a2_4, .inl (G.2.1 1, sgM u2, .inl (sgE u2)))]) [5, 6, 7, 8, 9] rfl)
    refine vp_callSi (va_runV (As := [.int (y3 + y5)]) (rest := [.int r3]) ⟨hx, hb, hml, hown, hts⟩ (c_Sg_letterAt l G a2_0 a2_1 a2_2 a2_3 a2_4 u2 (y3 + y5) _ h) (cwV 1 hts (gwV b_193 b_194 b_195 b_173 b_192) rfl rfl rfl hd_Sg_letterAt ⟨Nat.le_of_ble_eq_true rfl, Nat.le_of_ble_eq_true rfl⟩) ⟨mP_blind, va_recv hK hRc (ci := 5) (q0 := 0) rfl rfl, fun U hU hW => ⟨rfl, hC.to0 hW hU, by rw [hU]; exact hRc⟩⟩ rfl rfl hl.1 rfl (lv_room (Nat.le_of_ble_eq_true rfl)) d_Sg_sameLetters_23 ⟨Nat.le_of_ble_eq_true rfl, Nat.le_of_ble_eq_true rfl⟩).run (fun r4 h => ?_)
    refine lv_icmp_eq (tgt := 31) hx hb d_Sg_sameLetters_26 (by decide) (fun c9 => ?_) (fun c9 => ?_)
    · have h := h.1 c9
      refine lv_iinc (v := y5 + 1) (lv' := [(5, .int (y5 + 1)), (0, .ref a0_0), (1, .int y1), (2, .ref a2_0), (3, .int y3), (4, .int y4)]) hx hb d_Sg_sameLetters_31 hl (k := 5) rfl rfl (by decide) rfl (fun ls hl => ?_)
      refine lv_goto (tgt := 3) hx hb d_Sg_sameLetters_34 (by decide) ?_
      exact hK0 _ _ _ _ _ h (lv_sub hl [1, 2, 3, 4, 5, 0] rfl)
    · have h := h.2 c9
      refine lv_iconst (v := 0) hx hb d_Sg_sameLetters_29 (by decide) ?_
      exact W.zret hx hb hr (by decide) (fun t ht hW => ⟨_, rfl, h, ht⟩) (fun _ z => by cases z) d_Sg_sameLetters_30
set_option maxHeartbeats 4000000 in
set_option maxRecDepth 100000 in
theorem t_Sg_sameLetters_3 {p : Program} {l : Launch} {e : Env} {s : State} {m : MethodId} {args : Array Value} {below : List Frame} {meth : Method} {c : Code} {G : GX} {a0_0 a0_1 a0_2 a0_3 a0_4 a2_0 a2_1 a2_2 a2_3 a2_4 : Nat} {u0 : SgC} {u2 : SgC} {post : Int32 → Prop} (E : EN p s m args meth c G R_Sg cc_Sg_sameLetters 6 (some .boolean) BG) (hR : va_P G.1 vwCl [(a0_0, .inr (5, [.int (sgK u0), .ref a0_1, .ref a0_2, .ref a0_3, .ref a0_4, .int (sgO u0), .int (sgP u0)])), (a0_1, .inl (G.2.1 0, sgN u0, .inl (sgL u0))), (a0_2, .inl (G.2.1 1, sgN u0, .inl (sgR u0))), (a0_3, .inl (G.2.1 1, sgM u0, .inl (sgB u0))), (a0_4, .inl (G.2.1 1, sgM u0, .inl (sgE u0))), (a2_0, .inr (5, [.int (sgK u2), .ref a2_1, .ref a2_2, .ref a2_3, .ref a2_4, .int (sgO u2), .int (sgP u2)])), (a2_1, .inl (G.2.1 0, sgN u2, .inl (sgL u2))), (a2_2, .inl (G.2.1 1, sgN u2, .inl (sgR u2))), (a2_3, .inl (G.2.1 1, sgM u2, .inl (sgB u2))), (a2_4, .inl (G.2.1 1, sgM u2, .inl (sgE u2)))] s.heap) : ∀ (n : Nat) (y1 : Int32) (y3 : Int32) (y4 : Int32) (y5 : Int32) (ls : Array Slot), w_Sg_sameLetters_3 post u0 u2 n y1 y3 y4 y5 → lv_has ls 6 [(0, .ref a0_0), (1, .int y1), (2, .ref a2_0), (3, .int y3), (4, .int y4), (5, .int y5)] → W p l e rm_Sg_sameLetters s m args below meth c s.heap [] 0 0 (MQ below (vp_Si post) args s 0 0 (fun _ => False)) (F0 m 3 ls []) := by
  intro n
  induction n with
  | zero => intro y1 y3 y4 y5  ls h; exact h.elim
  | succ n ih =>
    intro y1 y3 y4 y5  ls h hl
    exact tb_Sg_sameLetters_3 E hR  ih _ _ _ _ _ h hl
set_option maxHeartbeats 4000000 in
set_option maxRecDepth 100000 in
theorem t_Sg_sameLetters_in {p : Program} {l : Launch} {e : Env} {s : State} {m : MethodId} {args : Array Value} {below : List Frame} {meth : Method} {c : Code} {G : GX} {a0_0 a0_1 a0_2 a0_3 a0_4 a2_0 a2_1 a2_2 a2_3 a2_4 : Nat} {u0 : SgC} {u2 : SgC} {post : Int32 → Prop} {x1 : Int32} {x3 : Int32} {x4 : Int32} (E : EN p s m args meth c G R_Sg cc_Sg_sameLetters 6 (some .boolean) BG) (hR : va_P G.1 vwCl [(a0_0, .inr (5, [.int (sgK u0), .ref a0_1, .ref a0_2, .ref a0_3, .ref a0_4, .int (sgO u0), .int (sgP u0)])), (a0_1, .inl (G.2.1 0, sgN u0, .inl (sgL u0))), (a0_2, .inl (G.2.1 1, sgN u0, .inl (sgR u0))), (a0_3, .inl (G.2.1 1, sgM u0, .inl (sgB u0))), (a0_4, .inl (G.2.1 1, sgM u0, .inl (sgE u0))), (a2_0, .inr (5, [.int (sgK u2), .ref a2_1, .ref a2_2, .ref a2_3, .ref a2_4, .int (sgO u2), .int (sgP u2)])), (a2_1, .inl (G.2.1 0, sgN u2, .inl (sgL u2))), (a2_2, .inl (G.2.1 1, sgN u2, .inl (sgR u2))), (a2_3, .inl (G.2.1 1, sgM u2, .inl (sgB u2))), (a2_4, .inl (G.2.1 1, sgM u2, .inl (sgE u2)))] s.heap) : ∀ (ls : Array Slot), wp_Sg_sameLetters post u0 u2 x1 x3 x4 → lv_has ls 6 [(0, .ref a0_0), (1, .int x1), (2, .ref a2_0), (3, .int x3), (4, .int x4)] → W p l e rm_Sg_sameLetters s m args below meth c s.heap [] 0 0 (MQ below (vp_Si post) args s 0 0 (fun _ => False)) (F0 m 0 ls []) := by
  obtain ⟨hx, hb, hr, hts, hown, hlocks, hml, hC⟩ := id E
  have hK := hC.1
  intro ls h hl
  unfold wp_Sg_sameLetters at h
  refine lv_iconst (v := 0) hx hb d_Sg_sameLetters_0 (by decide) ?_
  refine lv_istore (lv' := [(5, .int 0), (0, .ref a0_0), (1, .int x1), (2, .ref a2_0), (3, .int x3), (4, .int x4)]) hx hb d_Sg_sameLetters_1 hl (by decide) rfl (fun ls hl => ?_)
  obtain ⟨n, h⟩ := h
  exact t_Sg_sameLetters_3 E hR  n _ _ _ _ _ h (lv_sub hl [1, 2, 3, 4, 5, 0] rfl)
set_option maxHeartbeats 4000000 in
set_option maxRecDepth 100000 in
theorem c_Sg_sameLetters (l : Launch) (G : GX) (a0_0 a0_1 a0_2 a0_3 a0_4 a2_0 a2_1 a2_2 a2_3 a2_4 : Nat) (u0 : SgC) (u2 : SgC) (x1 : Int32) (x3 : Int32) (x4 : Int32) (post : Int32 → Prop) (h : wp_Sg_sameLetters post u0 u2 x1 x3 x4) : Met l y_Sg_sameLetters wc_Sg_sameLetters rm_Sg_sameLetters (mP G [.ref a0_0, .int x1, .ref a2_0, .int x3, .int x4] [(a0_0, .inr (5, [.int (sgK u0), .ref a0_1, .ref a0_2, .ref a0_3, .ref a0_4, .int (sgO u0), .int (sgP u0)])), (a0_1, .inl (G.2.1 0, sgN u0, .inl (sgL u0))), (a0_2, .inl (G.2.1 1, sgN u0, .inl (sgR u0))), (a0_3, .inl (G.2.1 1, sgM u0, .inl (sgB u0))), (a0_4, .inl (G.2.1 1, sgM u0, .inl (sgE u0))), (a2_0, .inr (5, [.int (sgK u2), .ref a2_1, .ref a2_2, .ref a2_3, .ref a2_4, .int (sgO u2), .int (sgP u2)])), (a2_1, .inl (G.2.1 0, sgN u2, .inl (sgL u2))), (a2_2, .inl (G.2.1 1, sgN u2, .inl (sgR u2))), (a2_3, .inl (G.2.1 1, sgM u2, .inl (sgB u2))), (a2_4, .inl (G.2.1 1, sgM u2, .inl (sgE u2)))]) (vp_Si post) 0 0 (fun _ => False) := by
  refine Met.ofW (cc := cc_Sg_sameLetters) (maxL := 6) (ret := (some .boolean)) (by decide) rfl ?_
  intro p e s m args below meth c s₁ B hml hv
  obtain ⟨rfl, hC, hR⟩ := hv
  have E : EN p s m ([.ref a0_0, .int x1, .ref a2_0, .int x3, .int x4] : List Value).toArray meth c G R_Sg cc_Sg_sameLetters 6 (some .boolean) BG := ⟨B.exec, B.bytes, B.returns, fun w h => atoms_spec (ws := wc_Sg_sameLetters) B.pre w (List.mem_cons_of_mem _ h), findClass_of_methodNamed B.named, B.notSynchronized, hml, hC⟩
  have hl := lv_entry ([.ref a0_0, .int x1, .ref a2_0, .int x3, .int x4]) (n := 6) (Nat.le_of_ble_eq_true rfl)
  rw [lg_entry_eq]
  generalize (lg_sl ([.ref a0_0, .int x1, .ref a2_0, .int x3, .int x4]) ++ List.replicate (6 - (lg_sl ([.ref a0_0, .int x1, .ref a2_0, .int x3, .int x4])).length) Slot.unset).toArray = ls at hl ⊢
  have hl : lv_has ls 6 [(0, .ref a0_0), (1, .int x1), (2, .ref a2_0), (3, .int x3), (4, .int x4)] := hl
  exact t_Sg_sameLetters_in E hR _ h hl
set_option maxHeartbeats 4000000 in
set_option maxRecDepth 100000 in
theorem t_Sg_parameterNamed_51 {p : Program} {l : Launch} {e : Env} {s : State} {m : MethodId} {args : Array Value} {below : List Frame} {meth : Method} {c : Code} {G : GX} {a0_0 a0_1 a0_2 a0_3 a0_4 a1_0 a1_1 a1_2 a1_3 a1_4 : Nat} {u0 : SgC} {u1 : SgC} {post : Int32 → Prop} (E : EN p s m args meth c G R_Sg cc_Sg_parameterNamed 5 (some .int) BG) (hR : va_P G.1 vwCl [(a0_0, .inr (5, [.int (sgK u0), .ref a0_1, .ref a0_2, .ref a0_3, .ref a0_4, .int (sgO u0), .int (sgP u0)])), (a0_1, .inl (G.2.1 0, sgN u0, .inl (sgL u0))), (a0_2, .inl (G.2.1 1, sgN u0, .inl (sgR u0))), (a0_3, .inl (G.2.1 1, sgM u0, .inl (sgB u0))), (a0_4, .inl (G.2.1 1, sgM u0, .inl (sgE u0))), (a1_0, .inr (5, [.int (sgK u1), .ref a1_1, .ref a1_2, .ref a1_3, .ref a1_4, .int (sgO u1), .int (sgP u1)])), (a1_1, .inl (G.2.1 0, sgN u1, .inl (sgL u1))), (a1_2, .inl (G.2.1 1, sgN u1, .inl (sgR u1))), (a1_3, .inl (G.2.1 1, sgM u1, .inl (sgB u1))), (a1_4, .inl (G.2.1 1, sgM u1, .inl (sgE u1)))] s.heap) {K0 : Int32 → Int32 → Int32 → Prop} (hK0 : ∀ (y2 : Int32) (y3 : Int32) (y4 : Int32) (ls : Array Slot), K0 y2 y3 y4 → lv_has ls 5 [(0, .ref a0_0), (1, .ref a1_0), (2, .int y2), (3, .int y3), (4, .int y4)] → W p l e rm_Sg_parameterNamed s m args below meth c s.heap [] 0 0 (MQ below (vp_Si post) args s 0 0 (fun _ => False)) (F0 m 11 ls [])) : ∀ (y2 : Int32) (y3 : Int32) (y4 : Int32) (ls : Array Slot), w_Sg_parameterNamed_51 post u0 u1 K0 y2 y3 y4 → lv_has ls 5 [(0, .ref a0_0), (1, .ref a1_0), (2, .int y2), (3, .int y3), (4, .int y4)] → W p l e rm_Sg_parameterNamed s m args below meth c s.heap [] 0 0 (MQ below (vp_Si post) args s 0 0 (fun _ => False)) (F0 m 51 ls []) := by
  obtain ⟨hx, hb, hr, hts, hown, hlocks, hml, hC⟩ := id E
  have hK := hC.1
  intro y2 y3 y4  ls h hl
  unfold w_Sg_parameterNamed_51 at h
  refine lv_iinc (v := y4 + 1) (lv' := [(4, .int (y4 + 1)), (0, .ref a0_0), (1, .ref a1_0), (2, .int y2), (3, .int y3)]) hx hb d_Sg_parameterNamed_51 hl (k := 4) rfl rfl (by decide) rfl (fun ls hl => ?_)
  refine lv_goto (tgt := 11) hx hb d_Sg_parameterNamed_54 (by decide) ?_
  exact hK0 _ _ _ _ h (lv_sub hl [1, 2, 3, 4, 0] rfl)
set_option maxHeartbeats 4000000 in
set_option maxRecDepth 100000 in
theorem tb_Sg_parameterNamed_11 {p : Program} {l : Launch} {e : Env} {s : State} {m : MethodId} {args : Array Value} {below : List Frame} {meth : Method} {c : Code} {G : GX} {a0_0 a0_1 a0_2 a0_3 a0_4 a1_0 a1_1 a1_2 a1_3 a1_4 : Nat} {u0 : SgC} {u1 : SgC} {post : Int32 → Prop} (E : EN p s m args meth c G R_Sg cc_Sg_parameterNamed 5 (some .int) BG) (hR : va_P G.1 vwCl [(a0_0, .inr (5, [.int (sgK u0), .ref a0_1, .ref a0_2, .ref a0_3, .ref a0_4, .int (sgO u0), .int (sgP u0)])), (a0_1, .inl (G.2.1 0, sgN u0, .inl (sgL u0))), (a0_2, .inl (G.2.1 1, sgN u0, .inl (sgR u0))), (a0_3, .inl (G.2.1 1, sgM u0, .inl (sgB u0))), (a0_4, .inl (G.2.1 1, sgM u0, .inl (sgE u0))), (a1_0, .inr (5, [.int (sgK u1), .ref a1_1, .ref a1_2, .ref a1_3, .ref a1_4, .int (sgO u1), .int (sgP u1)])), (a1_1, .inl (G.2.1 0, sgN u1, .inl (sgL u1))), (a1_2, .inl (G.2.1 1, sgN u1, .inl (sgR u1))), (a1_3, .inl (G.2.1 1, sgM u1, .inl (sgB u1))), (a1_4, .inl (G.2.1 1, sgM u1, .inl (sgE u1)))] s.heap) {K0 : Int32 → Int32 → Int32 → Prop} (hK0 : ∀ (y2 : Int32) (y3 : Int32) (y4 : Int32) (ls : Array Slot), K0 y2 y3 y4 → lv_has ls 5 [(0, .ref a0_0), (1, .ref a1_0), (2, .int y2), (3, .int y3), (4, .int y4)] → W p l e rm_Sg_parameterNamed s m args below meth c s.heap [] 0 0 (MQ below (vp_Si post) args s 0 0 (fun _ => False)) (F0 m 11 ls [])) : ∀ (y2 : Int32) (y3 : Int32) (y4 : Int32) (ls : Array Slot), wb_Sg_parameterNamed_11 post u0 u1 K0 y2 y3 y4 → lv_has ls 5 [(0, .ref a0_0), (1, .ref a1_0), (2, .int y2), (3, .int y3), (4, .int y4)] → W p l e rm_Sg_parameterNamed s m args below meth c s.heap [] 0 0 (MQ below (vp_Si post) args s 0 0 (fun _ => False)) (F0 m 11 ls []) := by
  obtain ⟨hx, hb, hr, hts, hown, hlocks, hml, hC⟩ := id E
  have hK := hC.1
  intro y2 y3 y4  ls h hl
  unfold wb_Sg_parameterNamed_11 at h
  refine lv_iload hx hb d_Sg_parameterNamed_11 (lv_at hl 4 rfl) ?_
  refine lv_aload_n hx hb d_Sg_parameterNamed_13 rfl (lv_at hl 0 rfl) ?_
  refine va_get (D := G.1) (ci := 5) (v := .ref a0_3) (C := R_Sg) (T := T_Sg) (N := 7) hx hb hts i_Sg hown hK hR 0 rfl rfl 3 (by decide) (hts _ b_168) (fun _ h9 => h9) rfl d_Sg_parameterNamed_14 ?_
  refine va_alen hx hb hK hR 3 1 rfl rfl (v := Int32.ofNat (sgM u0)) rfl d_Sg_parameterNamed_17 ?_
  refine lv_icmp_ge (tgt := 57) hx hb d_Sg_parameterNamed_18 (by decide) (fun c9 => ?_) (fun c9 => ?_)
  · have h := h.1 c9
    refine lv_iconst (v := (-1)) hx hb d_Sg_parameterNamed_57 (by decide) ?_
    exact W.iret hx hb hr (fun t ht hW => ⟨_, rfl, h, ht⟩) (fun _ z => by cases z) d_Sg_parameterNamed_58
  · have h := h.2 c9
    refine lv_aload_n hx hb d_Sg_parameterNamed_21 rfl (lv_at hl 0 rfl) ?_
    refine lv_iload hx hb d_Sg_parameterNamed_22 (lv_at hl 4 rfl) ?_
    have hRc : va_P G.1 vwCl [(a0_0, .inr (5, [.int (sgK u0), .ref a0_1, .ref a0_2, .ref a0_3, .ref a0_4, .int (sgO u0), .int (sgP u0)])), (a0_1, .inl (G.2.1 0, sgN u0, .inl (sgL u0))), (a0_2, .inl (G.2.1 1, sgN u0, .inl (sgR u0))), (a0_3, .inl (G.2.1 1, sgM u0, .inl (sgB u0))), (a0_4, .inl (G.2.1 1, sgM u0, .inl (sgE u0)))] s.heap := (hR.sub (ws' := [(a0_0, .inr (5, [.int (sgK u0), .ref a0_1, .ref a0_2, .ref a0_3, .ref a0_4, .int (sgO u0), .int (sgP u0)])), (a0_1, .inl (G.2.1 0, sgN u0, .inl (sgL u0))), (a0_2, .inl (G.2.1 1, sgN u0, .inl (sgR u0))), (a0_3, .inl (G.2.1 1, sgM u0, .inl (sgB u0))), (a0_4, .inl (G.2.1 1, sgM u0, .inl (sgE u0)))]) [0, 1, 2, 3, 4] rfl)
    refine vp_callSi (va_runV (As := [.int y4]) (rest := []) ⟨hx, hb, hml, hown, hts⟩ (c_Sg_nameLength l G a0_0 a0_1 a0_2 a0_3 a0_4 u0 y4 _ h) (cwV 1 hts (gwV b_189 b_190 b_191 b_173 b_188) rfl rfl rfl hd_Sg_nameLength ⟨Nat.le_of_ble_eq_true rfl, Nat.le_of_ble_eq_true rfl⟩) ⟨mP_blind, va_recv hK hRc (ci := 5) (q0 := 0) rfl rfl, fun U hU hW => ⟨rfl, hC.to0 hW hU, by rw [hU]; exact hRc⟩⟩ rfl rfl hl.1 rfl (lv_room (Nat.le_of_ble_eq_true rfl)) d_Sg_parameterNamed_24 ⟨Nat.le_of_ble_eq_true rfl, Nat.le_of_ble_eq_true rfl⟩).run (fun r4 h => ?_)
    refine lv_iload_n hx hb d_Sg_parameterNamed_27 rfl (lv_at hl 3 rfl) ?_
    refine lv_icmp_ne (tgt := 51) hx hb d_Sg_parameterNamed_28 (by decide) (fun c9 => ?_) (fun c9 => ?_)
    · have h := h.1 c9
      exact t_Sg_parameterNamed_51 E hR hK0 _ _ _ _ h (lv_sub hl [0, 1, 2, 3, 4] rfl)
    · have h := h.2 c9
      refine lv_aload_n hx hb d_Sg_parameterNamed_31 rfl (lv_at hl 0 rfl) ?_
      refine lv_aload_n hx hb d_Sg_parameterNamed_32 rfl (lv_at hl 0 rfl) ?_
      refine va_get (D := G.1) (ci := 5) (v := .ref a0_3) (C := R_Sg) (T := T_Sg) (N := 7) hx hb hts i_Sg hown hK hR 0 rfl rfl 3 (by decide) (hts _ b_168) (fun _ h9 => h9) rfl d_Sg_parameterNamed_33 ?_
      refine lv_iload hx hb d_Sg_parameterNamed_36 (lv_at hl 4 rfl) ?_
      have hi9 := h.1
      have h := h.2
      refine va_iald hx hb hK hR 3 1 rfl rfl hi9 d_Sg_parameterNamed_38 ?_
      refine lv_aload_n hx hb d_Sg_parameterNamed_39 rfl (lv_at hl 1 rfl) ?_
      refine lv_iload_n hx hb d_Sg_parameterNamed_40 rfl (lv_at hl 2 rfl) ?_
      refine lv_iload_n hx hb d_Sg_parameterNamed_41 rfl (lv_at hl 3 rfl) ?_
      have hRc : va_P G.1 vwCl [(a0_0, .inr (5, [.int (sgK u0), .ref a0_1, .ref a0_2, .ref a0_3, .ref a0_4, .int (sgO u0), .int (sgP u0)])), (a0_1, .inl (G.2.1 0, sgN u0, .inl (sgL u0))), (a0_2, .inl (G.2.1 1, sgN u0, .inl (sgR u0))), (a0_3, .inl (G.2.1 1, sgM u0, .inl (sgB u0))), (a0_4, .inl (G.2.1 1, sgM u0, .inl (sgE u0))), (a1_0, .inr (5, [.int (sgK u1), .ref a1_1, .ref a1_2, .ref a1_3, .ref a1_4, .int (sgO u1), .int (sgP u1)])), (a1_1, .inl (G.2.1 0, sgN u1, .inl (sgL u1))), (a1_2, .inl (G.2.1 1, sgN u1, .inl (sgR u1))), (a1_3, .inl (G.2.1 1, sgM u1, .inl (sgB u1))), (a1_4, .inl (G.2.1 1, sgM u1, .inl (sgE u1)))] s.heap := (hR.sub (ws' := [(a0_0, .inr (5, [.int (sgK u0), .ref a0_1, .ref a0_2, .ref a0_3, .ref a0_4, .int (sgO u0), .int (sgP u0)])), (a0_1, .inl (G.2.1 0, sgN u0, .inl (sgL u0))), (a0_2, .inl (G.2.1 1, sgN u0, .inl (sgR u0))), (a0_3, .inl (G.2.1 1, sgM u0, .inl (sgB u0))), (a0_4, .inl (G.2.1 1, sgM u0, .inl (sgE u0))), (a1_0, .inr (5, [.int (sgK u1), .ref a1_1, .ref a1_2, .ref a1_3, .ref a1_4, .int (sgO u1), .int (sgP u1)])), (a1_1, .inl (G.2.1 0, sgN u1, .inl (sgL u1))), (a1_2, .inl (G.2.1 1, sgN u1, .inl (sgR u1))), (a1_3, .inl (G.2.1 1, sgM u1, .inl (sgB u1))), (a1_4, .inl (G.2.1 1, sgM u1, .inl (sgE u1)))]) [0, 1, 2, 3, 4, 5, 6, 7, 8, 9] rfl)
      refine vp_callSi (va_runV (As := [.int ((sgB u0) y4.toNatClampNeg), .ref a1_0, .int y2, .int y3]) (rest := []) ⟨hx, hb, hml, hown, hts⟩ (c_Sg_sameLetters l G a0_0 a0_1 a0_2 a0_3 a0_4 a1_0 a1_1 a1_2 a1_3 a1_4 u0 u1 ((sgB u0) y4.toNatClampNeg) y2 y3 _ h) (cwV 4 hts (gwV b_201 b_202 b_203 b_173 b_200) rfl rfl rfl hd_Sg_sameLetters ⟨Nat.le_of_ble_eq_true rfl, Nat.le_of_ble_eq_true rfl⟩) ⟨mP_blind, va_recv hK hRc (ci := 5) (q0 := 0) rfl rfl, fun U hU hW => ⟨rfl, hC.to0 hW hU, by rw [hU]; exact hRc⟩⟩ rfl rfl hl.1 rfl (lv_room (Nat.le_of_ble_eq_true rfl)) d_Sg_parameterNamed_42 ⟨Nat.le_of_ble_eq_true rfl, Nat.le_of_ble_eq_true rfl⟩).run (fun r5 h => ?_)
      refine lv_if_eq (tgt := 51) hx hb d_Sg_parameterNamed_45 (by decide) (fun c9 => ?_) (fun c9 => ?_)
      · have h := h.1 c9
        exact t_Sg_parameterNamed_51 E hR hK0 _ _ _ _ h (lv_sub hl [0, 1, 2, 3, 4] rfl)
      · have h := h.2 c9
        refine lv_iload hx hb d_Sg_parameterNamed_48 (lv_at hl 4 rfl) ?_
        exact W.iret hx hb hr (fun t ht hW => ⟨_, rfl, h, ht⟩) (fun _ z => by cases z) d_Sg_parameterNamed_50
set_option maxHeartbeats 4000000 in
set_option maxRecDepth 100000 in
theorem t_Sg_parameterNamed_11 {p : Program} {l : Launch} {e : Env} {s : State} {m : MethodId} {args : Array Value} {below : List Frame} {meth : Method} {c : Code} {G : GX} {a0_0 a0_1 a0_2 a0_3 a0_4 a1_0 a1_1 a1_2 a1_3 a1_4 : Nat} {u0 : SgC} {u1 : SgC} {post : Int32 → Prop} (E : EN p s m args meth c G R_Sg cc_Sg_parameterNamed 5 (some .int) BG) (hR : va_P G.1 vwCl [(a0_0, .inr (5, [.int (sgK u0), .ref a0_1, .ref a0_2, .ref a0_3, .ref a0_4, .int (sgO u0), .int (sgP u0)])), (a0_1, .inl (G.2.1 0, sgN u0, .inl (sgL u0))), (a0_2, .inl (G.2.1 1, sgN u0, .inl (sgR u0))), (a0_3, .inl (G.2.1 1, sgM u0, .inl (sgB u0))), (a0_4, .inl (G.2.1 1, sgM u0, .inl (sgE u0))), (a1_0, .inr (5, [.int (sgK u1), .ref a1_1, .ref a1_2, .ref a1_3, .ref a1_4, .int (sgO u1), .int (sgP u1)])), (a1_1, .inl (G.2.1 0, sgN u1, .inl (sgL u1))), (a1_2, .inl (G.2.1 1, sgN u1, .inl (sgR u1))), (a1_3, .inl (G.2.1 1, sgM u1, .inl (sgB u1))), (a1_4, .inl (G.2.1 1, sgM u1, .inl (sgE u1)))] s.heap) : ∀ (n : Nat) (y2 : Int32) (y3 : Int32) (y4 : Int32) (ls : Array Slot), w_Sg_parameterNamed_11 post u0 u1 n y2 y3 y4 → lv_has ls 5 [(0, .ref a0_0), (1, .ref a1_0), (2, .int y2), (3, .int y3), (4, .int y4)] → W p l e rm_Sg_parameterNamed s m args below meth c s.heap [] 0 0 (MQ below (vp_Si post) args s 0 0 (fun _ => False)) (F0 m 11 ls []) := by
  intro n
  induction n with
  | zero => intro y2 y3 y4  ls h; exact h.elim
  | succ n ih =>
    intro y2 y3 y4  ls h hl
    exact tb_Sg_parameterNamed_11 E hR  ih _ _ _ _ h hl
set_option maxHeartbeats 4000000 in
set_option maxRecDepth 100000 in
theorem t_Sg_parameterNamed_in {p : Program} {l : Launch} {e : Env} {s : State} {m : MethodId} {args : Array Value} {below : List Frame} {meth : Method} {c : Code} {G : GX} {a0_0 a0_1 a0_2 a0_3 a0_4 a1_0 a1_1 a1_2 a1_3 a1_4 : Nat} {u0 : SgC} {u1 : SgC} {post : Int32 → Prop} {x2 : Int32} (E : EN p s m args meth c G R_Sg cc_Sg_parameterNamed 5 (some .int) BG) (hR : va_P G.1 vwCl [(a0_0, .inr (5, [.int (sgK u0), .ref a0_1, .ref a0_2, .ref a0_3, .ref a0_4, .int (sgO u0), .int (sgP u0)])), (a0_1, .inl (G.2.1 0, sgN u0, .inl (sgL u0))), (a0_2, .inl (G.2.1 1, sgN u0, .inl (sgR u0))), (a0_3, .inl (G.2.1 1, sgM u0, .inl (sgB u0))), (a0_4, .inl (G.2.1 1, sgM u0, .inl (sgE u0))), (a1_0, .inr (5, [.int (sgK u1), .ref a1_1, .ref a1_2, .ref a1_3, .ref a1_4, .int (sgO u1), .int (sgP u1)])), (a1_1, .inl (G.2.1 0, sgN u1, .inl (sgL u1))), (a1_2, .inl (G.2.1 1, sgN u1, .inl (sgR u1))), (a1_3, .inl (G.2.1 1, sgM u1, .inl (sgB u1))), (a1_4, .inl (G.2.1 1, sgM u1, .inl (sgE u1)))] s.heap) : ∀ (ls : Array Slot), wp_Sg_parameterNamed post u0 u1 x2 → lv_has ls 5 [(0, .ref a0_0), (1, .ref a1_0), (2, .int x2)] → W p l e rm_Sg_parameterNamed s m args below meth c s.heap [] 0 0 (MQ below (vp_Si post) args s 0 0 (fun _ => False)) (F0 m 0 ls []) := by
  obtain ⟨hx, hb, hr, hts, hown, hlocks, hml, hC⟩ := id E
  have hK := hC.1
  intro ls h hl
  unfold wp_Sg_parameterNamed at h
  refine lv_aload_n hx hb d_Sg_parameterNamed_0 rfl (lv_at hl 1 rfl) ?_
  refine lv_iload_n hx hb d_Sg_parameterNamed_1 rfl (lv_at hl 2 rfl) ?_
  have hRc : va_P G.1 vwCl [(a1_0, .inr (5, [.int (sgK u1), .ref a1_1, .ref a1_2, .ref a1_3, .ref a1_4, .int (sgO u1), .int (sgP u1)])), (a1_1, .inl (G.2.1 0, sgN u1, .inl (sgL u1))), (a1_2, .inl (G.2.1 1, sgN u1, .inl (sgR u1))), (a1_3, .inl (G.2.1 1, sgM u1, .inl (sgB u1))), (a1_4, .inl (G.2.1 1, sgM u1, .inl (sgE u1)))] s.heap := (hR.sub (ws' := [(a1_0, .inr (5, [.int (sgK u1), .ref a1_1, .ref a1_2, .ref a1_3, .ref a1_4, .int (sgO u1), .int (sgP u1)])), (a1_1, .inl (G.2.1 0, sgN u1, .inl (sgL u1))), (a1_2, .inl (G.2.1 1, sgN u1, .inl (sgR u1))), (a1_3, .inl (G.2.1 1, sgM u1, .inl (sgB u1))), (a1_4, .inl (G.2.1 1, sgM u1, .inl (sgE u1)))]) [5, 6, 7, 8, 9] rfl)
  refine vp_callSi (va_runV (As := [.int x2]) (rest := []) ⟨hx, hb, hml, hown, hts⟩ (c_Sg_behindName l G a1_0 a1_1 a1_2 a1_3 a1_4 u1 x2 _ h) (cwV 1 hts (gwV b_197 b_198 b_199 b_173 b_196) rfl rfl rfl hd_Sg_behindName ⟨Nat.le_of_ble_eq_true rfl, Nat.le_of_ble_eq_true rfl⟩) ⟨mP_blind, va_recv hK hRc (ci := 5) (q0 := 0) rfl rfl, fun U hU hW => ⟨rfl, hC.to0 hW hU, by rw [hU]; exact hRc⟩⟩ rfl rfl hl.1 rfl (lv_room (Nat.le_of_ble_eq_true rfl)) d_Sg_parameterNamed_2 ⟨Nat.le_of_ble_eq_true rfl, Nat.le_of_ble_eq_true rfl⟩).run (fun r6 h => ?_)
  refine lv_iload_n hx hb d_Sg_parameterNamed_5 rfl (lv_at hl 2 rfl) ?_
  refine lv_isub hx hb d_Sg_parameterNamed_6 ?_
  refine lv_istore_n (lv' := [(3, .int (r6 - x2)), (0, .ref a0_0), (1, .ref a1_0), (2, .int x2)]) hx hb d_Sg_parameterNamed_7 rfl hl (by decide) rfl (fun ls hl => ?_)
  refine lv_iconst (v := 0) hx hb d_Sg_parameterNamed_8 (by decide) ?_
  refine lv_istore (lv' := [(4, .int 0), (3, .int (r6 - x2)), (0, .ref a0_0), (1, .ref a1_0), (2, .int x2)]) hx hb d_Sg_parameterNamed_9 hl (by decide) rfl (fun ls hl => ?_)
  obtain ⟨n, h⟩ := h
  exact t_Sg_parameterNamed_11 E hR  n _ _ _ _ h (lv_sub hl [2, 3, 4, 1, 0] rfl)
set_option maxHeartbeats 4000000 in
set_option maxRecDepth 100000 in
theorem c_Sg_parameterNamed (l : Launch) (G : GX) (a0_0 a0_1 a0_2 a0_3 a0_4 a1_0 a1_1 a1_2 a1_3 a1_4 : Nat) (u0 : SgC) (u1 : SgC) (x2 : Int32) (post : Int32 → Prop) (h : wp_Sg_parameterNamed post u0 u1 x2) : Met l y_Sg_parameterNamed wc_Sg_parameterNamed rm_Sg_parameterNamed (mP G [.ref a0_0, .ref a1_0, .int x2] [(a0_0, .inr (5, [.int (sgK u0), .ref a0_1, .ref a0_2, .ref a0_3, .ref a0_4, .int (sgO u0), .int (sgP u0)])), (a0_1, .inl (G.2.1 0, sgN u0, .inl (sgL u0))), (a0_2, .inl (G.2.1 1, sgN u0, .inl (sgR u0))), (a0_3, .inl (G.2.1 1, sgM u0, .inl (sgB u0))), (a0_4, .inl (G.2.1 1, sgM u0, .inl (sgE u0))), (a1_0, .inr (5, [.int (sgK u1), .ref a1_1, .ref a1_2, .ref a1_3, .ref a1_4, .int (sgO u1), .int (sgP u1)])), (a1_1, .inl (G.2.1 0, sgN u1, .inl (sgL u1))), (a1_2, .inl (G.2.1 1, sgN u1, .inl (sgR u1))), (a1_3, .inl (G.2.1 1, sgM u1, .inl (sgB u1))), (a1_4, .inl (G.2.1 1, sgM u1, .inl (sgE u1)))]) (vp_Si post) 0 0 (fun _ => False) := by
  refine Met.ofW (cc := cc_Sg_parameterNamed) (maxL := 5) (ret := (some .int)) (by decide) rfl ?_
  intro p e s m args below meth c s₁ B hml hv
  obtain ⟨rfl, hC, hR⟩ := hv
  have E : EN p s m ([.ref a0_0, .ref a1_0, .int x2] : List Value).toArray meth c G R_Sg cc_Sg_parameterNamed 5 (some .int) BG := ⟨B.exec, B.bytes, B.returns, fun w h => atoms_spec (ws := wc_Sg_parameterNamed) B.pre w (List.mem_cons_of_mem _ h), findClass_of_methodNamed B.named, B.notSynchronized, hml, hC⟩
  have hl := lv_entry ([.ref a0_0, .ref a1_0, .int x2]) (n := 5) (Nat.le_of_ble_eq_true rfl)
  rw [lg_entry_eq]
  generalize (lg_sl ([.ref a0_0, .ref a1_0, .int x2]) ++ List.replicate (5 - (lg_sl ([.ref a0_0, .ref a1_0, .int x2])).length) Slot.unset).toArray = ls at hl ⊢
  have hl : lv_has ls 5 [(0, .ref a0_0), (1, .ref a1_0), (2, .int x2)] := hl
  exact t_Sg_parameterNamed_in E hR _ h hl
set_option maxHeartbeats 4000000 in
set_option maxRecDepth 100000 in
theorem t_Sg_repeatsName_in {p : Program} {l : Launch} {e : Env} {s : State} {m : MethodId} {args : Array Value} {below : List Frame} {meth : Method} {c : Code} {G : GX} {a0_0 a0_1 a0_2 a0_3 a0_4 : Nat} {u0 : SgC} {post : Int32 → Prop} {x1 : Int32} {x2 : Int32} (E : EN p s m args meth c G R_Sg cc_Sg_repeatsName 3 (some .boolean) BG) (hR : va_P G.1 vwCl [(a0_0, .inr (5, [.int (sgK u0), .ref a0_1, .ref a0_2, .ref a0_3, .ref a0_4, .int (sgO u0), .int (sgP u0)])), (a0_1, .inl (G.2.1 0, sgN u0, .inl (sgL u0))), (a0_2, .inl (G.2.1 1, sgN u0, .inl (sgR u0))), (a0_3, .inl (G.2.1 1, sgM u0, .inl (sgB u0))), (a0_4, .inl (G.2.1 1, sgM u0, .inl (sgE u0)))] s.heap) : ∀ (ls : Array Slot), wp_Sg_repeatsName post u0 x1 x2 → lv_has ls 3 [(0, .ref a0_0), (1, .int x1), (2, .int x2)] → W p l e rm_Sg_repeatsName s m args below meth c s.heap [] 0 0 (MQ below (vp_Si post) args s 0 0 (fun _ => False)) (F0 m 0 ls []) := by
  obtain ⟨hx, hb, hr, hts, hown, hlocks, hml, hC⟩ := id E
  have hK := hC.1
  intro ls h hl
  unfold wp_Sg_repeatsName at h
  refine lv_aload_n hx hb d_Sg_repeatsName_0 rfl (lv_at hl 0 rfl) ?_
  refine lv_aload_n hx hb d_Sg_repeatsName_1 rfl (lv_at hl 0 rfl) ?_
  refine lv_iload_n hx hb d_Sg_repeatsName_2 rfl (lv_at hl 1 rfl) ?_
  have hRc : va_P G.1 vwCl [(a0_0, .inr (5, [.int (sgK u0), .ref a0_1, .ref a0_2, .ref a0_3, .ref a0_4, .int (sgO u0), .int (sgP u0)])), (a0_1, .inl (G.2.1 0, sgN u0, .inl (sgL u0))), (a0_2, .inl (G.2.1 1, sgN u0, .inl (sgR u0))), (a0_3, .inl (G.2.1 1, sgM u0, .inl (sgB u0))), (a0_4, .inl (G.2.1 1, sgM u0, .inl (sgE u0)))] s.heap := (hR.sub (ws' := [(a0_0, .inr (5, [.int (sgK u0), .ref a0_1, .ref a0_2, .ref a0_3, .ref a0_4, .int (sgO u0), .int (sgP u0)])), (a0_1, .inl (G.2.1 0, sgN u0, .inl (sgL u0))), (a0_2, .inl (G.2.1 1, sgN u0, .inl (sgR u0))), (a0_3, .inl (G.2.1 1, sgM u0, .inl (sgB u0))), (a0_4, .inl (G.2.1 1, sgM u0, .inl (sgE u0)))]) [0, 1, 2, 3, 4] rfl)
  refine vp_callSi (va_runV (As := [.int x1]) (rest := [.ref a0_0]) ⟨hx, hb, hml, hown, hts⟩ (c_Sg_nameStart l G a0_0 a0_1 a0_2 a0_3 a0_4 u0 x1 _ h) (cwV 1 hts (gwV b_181 b_182 b_183 b_173 b_180) rfl rfl rfl hd_Sg_nameStart ⟨Nat.le_of_ble_eq_true rfl, Nat.le_of_ble_eq_true rfl⟩) ⟨mP_blind, va_recv hK hRc (ci := 5) (q0 := 0) rfl rfl, fun U hU hW => ⟨rfl, hC.to0 hW hU, by rw [hU]; exact hRc⟩⟩ rfl rfl hl.1 rfl (lv_room (Nat.le_of_ble_eq_true rfl)) d_Sg_repeatsName_3 ⟨Nat.le_of_ble_eq_true rfl, Nat.le_of_ble_eq_true rfl⟩).run (fun r4 h => ?_)
  refine lv_aload_n hx hb d_Sg_repeatsName_6 rfl (lv_at hl 0 rfl) ?_
  refine lv_iload_n hx hb d_Sg_repeatsName_7 rfl (lv_at hl 2 rfl) ?_
  refine lv_aload_n hx hb d_Sg_repeatsName_8 rfl (lv_at hl 0 rfl) ?_
  refine lv_iload_n hx hb d_Sg_repeatsName_9 rfl (lv_at hl 1 rfl) ?_
  have hRc : va_P G.1 vwCl [(a0_0, .inr (5, [.int (sgK u0), .ref a0_1, .ref a0_2, .ref a0_3, .ref a0_4, .int (sgO u0), .int (sgP u0)])), (a0_1, .inl (G.2.1 0, sgN u0, .inl (sgL u0))), (a0_2, .inl (G.2.1 1, sgN u0, .inl (sgR u0))), (a0_3, .inl (G.2.1 1, sgM u0, .inl (sgB u0))), (a0_4, .inl (G.2.1 1, sgM u0, .inl (sgE u0)))] s.heap := (hR.sub (ws' := [(a0_0, .inr (5, [.int (sgK u0), .ref a0_1, .ref a0_2, .ref a0_3, .ref a0_4, .int (sgO u0), .int (sgP u0)])), (a0_1, .inl (G.2.1 0, sgN u0, .inl (sgL u0))), (a0_2, .inl (G.2.1 1, sgN u0, .inl (sgR u0))), (a0_3, .inl (G.2.1 1, sgM u0, .inl (sgB u0))), (a0_4, .inl (G.2.1 1, sgM u0, .inl (sgE u0)))]) [0, 1, 2, 3, 4] rfl)
  refine vp_callSi (va_runV (As := [.int x1]) (rest := [.int x2, .ref a0_0, .int r4, .ref a0_0]) ⟨hx, hb, hml, hown, hts⟩ (c_Sg_nameLength l G a0_0 a0_1 a0_2 a0_3 a0_4 u0 x1 _ h) (cwV 1 hts (gwV b_189 b_190 b_191 b_173 b_188) rfl rfl rfl hd_Sg_nameLength ⟨Nat.le_of_ble_eq_true rfl, Nat.le_of_ble_eq_true rfl⟩) ⟨mP_blind, va_recv hK hRc (ci := 5) (q0 := 0) rfl rfl, fun U hU hW => ⟨rfl, hC.to0 hW hU, by rw [hU]; exact hRc⟩⟩ rfl rfl hl.1 rfl (lv_room (Nat.le_of_ble_eq_true rfl)) d_Sg_repeatsName_10 ⟨Nat.le_of_ble_eq_true rfl, Nat.le_of_ble_eq_true rfl⟩).run (fun r5 h => ?_)
  have hRc : va_P G.1 vwCl [(a0_0, .inr (5, [.int (sgK u0), .ref a0_1, .ref a0_2, .ref a0_3, .ref a0_4, .int (sgO u0), .int (sgP u0)])), (a0_1, .inl (G.2.1 0, sgN u0, .inl (sgL u0))), (a0_2, .inl (G.2.1 1, sgN u0, .inl (sgR u0))), (a0_3, .inl (G.2.1 1, sgM u0, .inl (sgB u0))), (a0_4, .inl (G.2.1 1, sgM u0, .inl (sgE u0))), (a0_0, .inr (5, [.int (sgK u0), .ref a0_1, .ref a0_2, .ref a0_3, .ref a0_4, .int (sgO u0), .int (sgP u0)])), (a0_1, .inl (G.2.1 0, sgN u0, .inl (sgL u0))), (a0_2, .inl (G.2.1 1, sgN u0, .inl (sgR u0))), (a0_3, .inl (G.2.1 1, sgM u0, .inl (sgB u0))), (a0_4, .inl (G.2.1 1, sgM u0, .inl (sgE u0)))] s.heap := (hR.sub (ws' := [(a0_0, .inr (5, [.int (sgK u0), .ref a0_1, .ref a0_2, .ref a0_3, .ref a0_4, .int (sgO u0), .int (sgP u0)])), (a0_1, .inl (G.2.1 0, sgN u0, .inl (sgL u0))), (a0_2, .inl (G.2.1 1, sgN u0, .inl (sgR u0))), (a0_3, .inl (G.2.1 1, sgM u0, .inl (sgB u0))), (a0_4, .inl (G.2.1 1, sgM u0, .inl (sgE u0))), (a0_0, .inr (5, [.int (sgK u0), .ref a0_1, .ref a0_2, .ref a0_3, .ref a0_4, .int (sgO u0), .int (sgP u0)])), (a0_1, .inl (G.2.1 0, sgN u0, .inl (sgL u0))), (a0_2, .inl (G.2.1 1, sgN u0, .inl (sgR u0))), (a0_3, .inl (G.2.1 1, sgM u0, .inl (sgB u0))), (a0_4, .inl (G.2.1 1, sgM u0, .inl (sgE u0)))]) [0, 1, 2, 3, 4, 0, 1, 2, 3, 4] rfl)
  refine vp_callSi (va_runV (As := [.int r4, .ref a0_0, .int x2, .int r5]) (rest := []) ⟨hx, hb, hml, hown, hts⟩ (c_Sg_sameLetters l G a0_0 a0_1 a0_2 a0_3 a0_4 a0_0 a0_1 a0_2 a0_3 a0_4 u0 u0 r4 x2 r5 _ h) (cwV 4 hts (gwV b_201 b_202 b_203 b_173 b_200) rfl rfl rfl hd_Sg_sameLetters ⟨Nat.le_of_ble_eq_true rfl, Nat.le_of_ble_eq_true rfl⟩) ⟨mP_blind, va_recv hK hRc (ci := 5) (q0 := 0) rfl rfl, fun U hU hW => ⟨rfl, hC.to0 hW hU, by rw [hU]; exact hRc⟩⟩ rfl rfl hl.1 rfl (lv_room (Nat.le_of_ble_eq_true rfl)) d_Sg_repeatsName_13 ⟨Nat.le_of_ble_eq_true rfl, Nat.le_of_ble_eq_true rfl⟩).run (fun r6 h => ?_)
  exact W.zret hx hb hr h.1 (fun t ht hW => ⟨_, rfl, h.2, ht⟩) (fun _ z => by cases z) d_Sg_repeatsName_16
set_option maxHeartbeats 4000000 in
set_option maxRecDepth 100000 in
theorem c_Sg_repeatsName (l : Launch) (G : GX) (a0_0 a0_1 a0_2 a0_3 a0_4 : Nat) (u0 : SgC) (x1 : Int32) (x2 : Int32) (post : Int32 → Prop) (h : wp_Sg_repeatsName post u0 x1 x2) : Met l y_Sg_repeatsName wc_Sg_repeatsName rm_Sg_repeatsName (mP G [.ref a0_0, .int x1, .int x2] [(a0_0, .inr (5, [.int (sgK u0), .ref a0_1, .ref a0_2, .ref a0_3, .ref a0_4, .int (sgO u0), .int (sgP u0)])), (a0_1, .inl (G.2.1 0, sgN u0, .inl (sgL u0))), (a0_2, .inl (G.2.1 1, sgN u0, .inl (sgR u0))), (a0_3, .inl (G.2.1 1, sgM u0, .inl (sgB u0))), (a0_4, .inl (G.2.1 1, sgM u0, .inl (sgE u0)))]) (vp_Si post) 0 0 (fun _ => False) := by
  refine Met.ofW (cc := cc_Sg_repeatsName) (maxL := 3) (ret := (some .boolean)) (by decide) rfl ?_
  intro p e s m args below meth c s₁ B hml hv
  obtain ⟨rfl, hC, hR⟩ := hv
  have E : EN p s m ([.ref a0_0, .int x1, .int x2] : List Value).toArray meth c G R_Sg cc_Sg_repeatsName 3 (some .boolean) BG := ⟨B.exec, B.bytes, B.returns, fun w h => atoms_spec (ws := wc_Sg_repeatsName) B.pre w (List.mem_cons_of_mem _ h), findClass_of_methodNamed B.named, B.notSynchronized, hml, hC⟩
  have hl := lv_entry ([.ref a0_0, .int x1, .int x2]) (n := 3) (Nat.le_of_ble_eq_true rfl)
  rw [lg_entry_eq]
  generalize (lg_sl ([.ref a0_0, .int x1, .int x2]) ++ List.replicate (3 - (lg_sl ([.ref a0_0, .int x1, .int x2])).length) Slot.unset).toArray = ls at hl ⊢
  have hl : lv_has ls 3 [(0, .ref a0_0), (1, .int x1), (2, .int x2)] := hl
  exact t_Sg_repeatsName_in E hR _ h hl
set_option maxHeartbeats 4000000 in
set_option maxRecDepth 100000 in
theorem t_Sg_declarerAt_in {p : Program} {l : Launch} {e : Env} {s : State} {m : MethodId} {args : Array Value} {below : List Frame} {meth : Method} {c : Code} {G : GX} {a0_0 a0_1 a0_2 a0_3 a0_4 : Nat} {u0 : SgC} {post : Int32 → Prop} {x1 : Int32} (E : EN p s m args meth c G R_Sg cc_Sg_declarerAt 2 (some .int) BG) (hR : va_P G.1 vwCl [(a0_0, .inr (5, [.int (sgK u0), .ref a0_1, .ref a0_2, .ref a0_3, .ref a0_4, .int (sgO u0), .int (sgP u0)])), (a0_1, .inl (G.2.1 0, sgN u0, .inl (sgL u0))), (a0_2, .inl (G.2.1 1, sgN u0, .inl (sgR u0))), (a0_3, .inl (G.2.1 1, sgM u0, .inl (sgB u0))), (a0_4, .inl (G.2.1 1, sgM u0, .inl (sgE u0)))] s.heap) : ∀ (ls : Array Slot), wp_Sg_declarerAt post u0 x1 → lv_has ls 2 [(0, .ref a0_0), (1, .int x1)] → W p l e rm_Sg_declarerAt s m args below meth c s.heap [] 0 0 (MQ below (vp_Si post) args s 0 0 (fun _ => False)) (F0 m 0 ls []) := by
  obtain ⟨hx, hb, hr, hts, hown, hlocks, hml, hC⟩ := id E
  have hK := hC.1
  intro ls h hl
  unfold wp_Sg_declarerAt at h
  refine lv_aload_n hx hb d_Sg_declarerAt_0 rfl (lv_at hl 0 rfl) ?_
  refine lv_iload_n hx hb d_Sg_declarerAt_1 rfl (lv_at hl 1 rfl) ?_
  have hRc : va_P G.1 vwCl [(a0_0, .inr (5, [.int (sgK u0), .ref a0_1, .ref a0_2, .ref a0_3, .ref a0_4, .int (sgO u0), .int (sgP u0)])), (a0_1, .inl (G.2.1 0, sgN u0, .inl (sgL u0))), (a0_2, .inl (G.2.1 1, sgN u0, .inl (sgR u0))), (a0_3, .inl (G.2.1 1, sgM u0, .inl (sgB u0))), (a0_4, .inl (G.2.1 1, sgM u0, .inl (sgE u0)))] s.heap := (hR.sub (ws' := [(a0_0, .inr (5, [.int (sgK u0), .ref a0_1, .ref a0_2, .ref a0_3, .ref a0_4, .int (sgO u0), .int (sgP u0)])), (a0_1, .inl (G.2.1 0, sgN u0, .inl (sgL u0))), (a0_2, .inl (G.2.1 1, sgN u0, .inl (sgR u0))), (a0_3, .inl (G.2.1 1, sgM u0, .inl (sgB u0))), (a0_4, .inl (G.2.1 1, sgM u0, .inl (sgE u0)))]) [0, 1, 2, 3, 4] rfl)
  refine vp_callSi (va_runV (As := [.int x1]) (rest := []) ⟨hx, hb, hml, hown, hts⟩ (c_Sg_roleAt l G a0_0 a0_1 a0_2 a0_3 a0_4 u0 x1 _ h) (cwV 1 hts (gwV b_176 b_177 b_178 b_173 b_175) rfl rfl rfl hd_Sg_roleAt ⟨Nat.le_of_ble_eq_true rfl, Nat.le_of_ble_eq_true rfl⟩) ⟨mP_blind, va_recv hK hRc (ci := 5) (q0 := 0) rfl rfl, fun U hU hW => ⟨rfl, hC.to0 hW hU, by rw [hU]; exact hRc⟩⟩ rfl rfl hl.1 rfl (lv_room (Nat.le_of_ble_eq_true rfl)) d_Sg_declarerAt_2 ⟨Nat.le_of_ble_eq_true rfl, Nat.le_of_ble_eq_true rfl⟩).run (fun r3 h => ?_)
  refine lv_bipush (v := 6) hx hb d_Sg_declarerAt_5 (by decide) ?_
  refine lv_icmp_ne (tgt := 21) hx hb d_Sg_declarerAt_7 (by decide) (fun c9 => ?_) (fun c9 => ?_)
  · have h := h.1 c9
    refine lv_iconst (v := (-1)) hx hb d_Sg_declarerAt_21 (by decide) ?_
    exact W.iret hx hb hr (fun t ht hW => ⟨_, rfl, h, ht⟩) (fun _ z => by cases z) d_Sg_declarerAt_22
  · have h := h.2 c9
    refine lv_aload_n hx hb d_Sg_declarerAt_10 rfl (lv_at hl 0 rfl) ?_
    refine lv_aload_n hx hb d_Sg_declarerAt_11 rfl (lv_at hl 0 rfl) ?_
    refine lv_iload_n hx hb d_Sg_declarerAt_12 rfl (lv_at hl 1 rfl) ?_
    refine lv_iconst (v := 1) hx hb d_Sg_declarerAt_13 (by decide) ?_
    refine lv_iadd hx hb d_Sg_declarerAt_14 ?_
    have hRc : va_P G.1 vwCl [(a0_0, .inr (5, [.int (sgK u0), .ref a0_1, .ref a0_2, .ref a0_3, .ref a0_4, .int (sgO u0), .int (sgP u0)])), (a0_1, .inl (G.2.1 0, sgN u0, .inl (sgL u0))), (a0_2, .inl (G.2.1 1, sgN u0, .inl (sgR u0))), (a0_3, .inl (G.2.1 1, sgM u0, .inl (sgB u0))), (a0_4, .inl (G.2.1 1, sgM u0, .inl (sgE u0))), (a0_0, .inr (5, [.int (sgK u0), .ref a0_1, .ref a0_2, .ref a0_3, .ref a0_4, .int (sgO u0), .int (sgP u0)])), (a0_1, .inl (G.2.1 0, sgN u0, .inl (sgL u0))), (a0_2, .inl (G.2.1 1, sgN u0, .inl (sgR u0))), (a0_3, .inl (G.2.1 1, sgM u0, .inl (sgB u0))), (a0_4, .inl (G.2.1 1, sgM u0, .inl (sgE u0)))] s.heap := (hR.sub (ws' := [(a0_0, .inr (5, [.int (sgK u0), .ref a0_1, .ref a0_2, .ref a0_3, .ref a0_4, .int (sgO u0), .int (sgP u0)])), (a0_1, .inl (G.2.1 0, sgN u0, .inl (sgL u0))), (a0_2, .inl (G.2.1 1, sgN u0, .inl (sgR u0))), (a0_3, .inl (G.2.1 1, sgM u0, .inl (sgB u0))), (a0_4, .inl (G.2.1 1, sgM u0, .inl (sgE u0))), (a0_0, .inr (5, [.int (sgK u0), .ref a0_1, .ref a0_2, .ref a0_3, .ref a0_4, .int (sgO u0), .int (sgP u0)])), (a0_1, .inl (G.2.1 0, sgN u0, .inl (sgL u0))), (a0_2, .inl (G.2.1 1, sgN u0, .inl (sgR u0))), (a0_3, .inl (G.2.1 1, sgM u0, .inl (sgB u0))), (a0_4, .inl (G.2.1 1, sgM u0, .inl (sgE u0)))]) [0, 1, 2, 3, 4, 0, 1, 2, 3, 4] rfl)
    refine vp_callSi (va_runV (As := [.ref a0_0, .int (x1 + 1)]) (rest := []) ⟨hx, hb, hml, hown, hts⟩ (c_Sg_parameterNamed l G a0_0 a0_1 a0_2 a0_3 a0_4 a0_0 a0_1 a0_2 a0_3 a0_4 u0 u0 (x1 + 1) _ h) (cwV 2 hts (gwV b_205 b_206 b_207 b_173 b_204) rfl rfl rfl hd_Sg_parameterNamed ⟨Nat.le_of_ble_eq_true rfl, Nat.le_of_ble_eq_true rfl⟩) ⟨mP_blind, va_recv hK hRc (ci := 5) (q0 := 0) rfl rfl, fun U hU hW => ⟨rfl, hC.to0 hW hU, by rw [hU]; exact hRc⟩⟩ rfl rfl hl.1 rfl (lv_room (Nat.le_of_ble_eq_true rfl)) d_Sg_declarerAt_15 ⟨Nat.le_of_ble_eq_true rfl, Nat.le_of_ble_eq_true rfl⟩).run (fun r4 h => ?_)
    refine lv_goto (tgt := 22) hx hb d_Sg_declarerAt_18 (by decide) ?_
    exact W.iret hx hb hr (fun t ht hW => ⟨_, rfl, h, ht⟩) (fun _ z => by cases z) d_Sg_declarerAt_22
set_option maxHeartbeats 4000000 in
set_option maxRecDepth 100000 in
theorem c_Sg_declarerAt (l : Launch) (G : GX) (a0_0 a0_1 a0_2 a0_3 a0_4 : Nat) (u0 : SgC) (x1 : Int32) (post : Int32 → Prop) (h : wp_Sg_declarerAt post u0 x1) : Met l y_Sg_declarerAt wc_Sg_declarerAt rm_Sg_declarerAt (mP G [.ref a0_0, .int x1] [(a0_0, .inr (5, [.int (sgK u0), .ref a0_1, .ref a0_2, .ref a0_3, .ref a0_4, .int (sgO u0), .int (sgP u0)])), (a0_1, .inl (G.2.1 0, sgN u0, .inl (sgL u0))), (a0_2, .inl (G.2.1 1, sgN u0, .inl (sgR u0))), (a0_3, .inl (G.2.1 1, sgM u0, .inl (sgB u0))), (a0_4, .inl (G.2.1 1, sgM u0, .inl (sgE u0)))]) (vp_Si post) 0 0 (fun _ => False) := by
  refine Met.ofW (cc := cc_Sg_declarerAt) (maxL := 2) (ret := (some .int)) (by decide) rfl ?_
  intro p e s m args below meth c s₁ B hml hv
  obtain ⟨rfl, hC, hR⟩ := hv
  have E : EN p s m ([.ref a0_0, .int x1] : List Value).toArray meth c G R_Sg cc_Sg_declarerAt 2 (some .int) BG := ⟨B.exec, B.bytes, B.returns, fun w h => atoms_spec (ws := wc_Sg_declarerAt) B.pre w (List.mem_cons_of_mem _ h), findClass_of_methodNamed B.named, B.notSynchronized, hml, hC⟩
  have hl := lv_entry ([.ref a0_0, .int x1]) (n := 2) (Nat.le_of_ble_eq_true rfl)
  rw [lg_entry_eq]
  generalize (lg_sl ([.ref a0_0, .int x1]) ++ List.replicate (2 - (lg_sl ([.ref a0_0, .int x1])).length) Slot.unset).toArray = ls at hl ⊢
  have hl : lv_has ls 2 [(0, .ref a0_0), (1, .int x1)] := hl
  exact t_Sg_declarerAt_in E hR _ h hl
set_option maxHeartbeats 4000000 in
set_option maxRecDepth 100000 in
theorem t_Sg_ownNameAt_22 {p : Program} {l : Launch} {e : Env} {s : State} {m : MethodId} {args : Array Value} {below : List Frame} {meth : Method} {c : Code} {G : GX} {a0_0 a0_1 a0_2 a0_3 a0_4 : Nat} {u0 : SgC} {post : Int32 → Prop} (E : EN p s m args meth c G R_Sg cc_Sg_ownNameAt 4 (some .int) BG) (hR : va_P G.1 vwCl [(a0_0, .inr (5, [.int (sgK u0), .ref a0_1, .ref a0_2, .ref a0_3, .ref a0_4, .int (sgO u0), .int (sgP u0)])), (a0_1, .inl (G.2.1 0, sgN u0, .inl (sgL u0))), (a0_2, .inl (G.2.1 1, sgN u0, .inl (sgR u0))), (a0_3, .inl (G.2.1 1, sgM u0, .inl (sgB u0))), (a0_4, .inl (G.2.1 1, sgM u0, .inl (sgE u0)))] s.heap) : ∀ (y1 : Int32) (y2 : Int32) (z0 : Int32) (ls : Array Slot), w_Sg_ownNameAt_22 post u0 y1 y2 z0 → lv_has ls 4 [(0, .ref a0_0), (1, .int y1), (2, .int y2)] → W p l e rm_Sg_ownNameAt s m args below meth c s.heap [] 0 0 (MQ below (vp_Si post) args s 0 0 (fun _ => False)) (F0 m 22 ls [.int z0]) := by
  obtain ⟨hx, hb, hr, hts, hown, hlocks, hml, hC⟩ := id E
  have hK := hC.1
  intro y1 y2 z0  ls h hl
  unfold w_Sg_ownNameAt_22 at h
  refine lv_istore_n (lv' := [(3, .int z0), (0, .ref a0_0), (1, .int y1), (2, .int y2)]) hx hb d_Sg_ownNameAt_22 rfl hl (by decide) rfl (fun ls hl => ?_)
  refine lv_iload_n hx hb d_Sg_ownNameAt_23 rfl (lv_at hl 0 rfl) ?_
  refine lv_if_eq (tgt := 47) hx hb d_Sg_ownNameAt_24 (by decide) (fun c9 => ?_) (fun c9 => ?_)
  · have h := h.1 c9
    refine lv_iconst (v := (-1)) hx hb d_Sg_ownNameAt_47 (by decide) ?_
    exact W.iret hx hb hr (fun t ht hW => ⟨_, rfl, h, ht⟩) (fun _ z => by cases z) d_Sg_ownNameAt_48
  · have h := h.2 c9
    refine lv_aload_n hx hb d_Sg_ownNameAt_27 rfl (lv_at hl 1 rfl) ?_
    refine lv_iload_n hx hb d_Sg_ownNameAt_28 rfl (lv_at hl 2 rfl) ?_
    refine lv_iconst (v := 1) hx hb d_Sg_ownNameAt_29 (by decide) ?_
    refine lv_isub hx hb d_Sg_ownNameAt_30 ?_
    have hRc : va_P G.1 vwCl [(a0_0, .inr (5, [.int (sgK u0), .ref a0_1, .ref a0_2, .ref a0_3, .ref a0_4, .int (sgO u0), .int (sgP u0)])), (a0_1, .inl (G.2.1 0, sgN u0, .inl (sgL u0))), (a0_2, .inl (G.2.1 1, sgN u0, .inl (sgR u0))), (a0_3, .inl (G.2.1 1, sgM u0, .inl (sgB u0))), (a0_4, .inl (G.2.1 1, sgM u0, .inl (sgE u0)))] s.heap := (hR.sub (ws' := [(a0_0, .inr (5, [.int (sgK u0), .ref a0_1, .ref a0_2, .ref a0_3, .ref a0_4, .int (sgO u0), .int (sgP u0)])), (a0_1, .inl (G.2.1 0, sgN u0, .inl (sgL u0))), (a0_2, .inl (G.2.1 1, sgN u0, .inl (sgR u0))), (a0_3, .inl (G.2.1 1, sgM u0, .inl (sgB u0))), (a0_4, .inl (G.2.1 1, sgM u0, .inl (sgE u0)))]) [0, 1, 2, 3, 4] rfl)
    refine vp_callSi (va_runV (As := [.int (y1 - 1)]) (rest := []) ⟨hx, hb, hml, hown, hts⟩ (c_Sg_roleAt l G a0_0 a0_1 a0_2 a0_3 a0_4 u0 (y1 - 1) _ h) (cwV 1 hts (gwV b_176 b_177 b_178 b_173 b_175) rfl rfl rfl hd_Sg_roleAt ⟨Nat.le_of_ble_eq_true rfl, Nat.le_of_ble_eq_true rfl⟩) ⟨mP_blind, va_recv hK hRc (ci := 5) (q0 := 0) rfl rfl, fun U hU hW => ⟨rfl, hC.to0 hW hU, by rw [hU]; exact hRc⟩⟩ rfl rfl hl.1 rfl (lv_room (Nat.le_of_ble_eq_true rfl)) d_Sg_ownNameAt_31 ⟨Nat.le_of_ble_eq_true rfl, Nat.le_of_ble_eq_true rfl⟩).run (fun r4 h => ?_)
    refine lv_iload_n hx hb d_Sg_ownNameAt_34 rfl (lv_at hl 3 rfl) ?_
    refine lv_icmp_eq (tgt := 47) hx hb d_Sg_ownNameAt_35 (by decide) (fun c9 => ?_) (fun c9 => ?_)
    · have h := h.1 c9
      refine lv_iconst (v := (-1)) hx hb d_Sg_ownNameAt_47 (by decide) ?_
      exact W.iret hx hb hr (fun t ht hW => ⟨_, rfl, h, ht⟩) (fun _ z => by cases z) d_Sg_ownNameAt_48
    · have h := h.2 c9
      refine lv_aload_n hx hb d_Sg_ownNameAt_38 rfl (lv_at hl 1 rfl) ?_
      refine lv_aload_n hx hb d_Sg_ownNameAt_39 rfl (lv_at hl 1 rfl) ?_
      refine lv_iload_n hx hb d_Sg_ownNameAt_40 rfl (lv_at hl 2 rfl) ?_
      have hRc : va_P G.1 vwCl [(a0_0, .inr (5, [.int (sgK u0), .ref a0_1, .ref a0_2, .ref a0_3, .ref a0_4, .int (sgO u0), .int (sgP u0)])), (a0_1, .inl (G.2.1 0, sgN u0, .inl (sgL u0))), (a0_2, .inl (G.2.1 1, sgN u0, .inl (sgR u0))), (a0_3, .inl (G.2.1 1, sgM u0, .inl (sgB u0))), (a0_4, .inl (G.2.1 1, sgM u0, .inl (sgE u0))), (a0_0, .inr (5, [.int (sgK u0), .ref a0_1, .ref a0_2, .ref a0_3, .ref a0_4, .int (sgO u0), .int (sgP u0)])), (a0_1, .inl (G.2.1 0, sgN u0, .inl (sgL u0))), (a0_2, .inl (G.2.1 1, sgN u0, .inl (sgR u0))), (a0_3, .inl (G.2.1 1, sgM u0, .inl (sgB u0))), (a0_4, .inl (G.2.1 1, sgM u0, .inl (sgE u0)))] s.heap := (hR.sub (ws' := [(a0_0, .inr (5, [.int (sgK u0), .ref a0_1, .ref a0_2, .ref a0_3, .ref a0_4, .int (sgO u0), .int (sgP u0)])), (a0_1, .inl (G.2.1 0, sgN u0, .inl (sgL u0))), (a0_2, .inl (G.2.1 1, sgN u0, .inl (sgR u0))), (a0_3, .inl (G.2.1 1, sgM u0, .inl (sgB u0))), (a0_4, .inl (G.2.1 1, sgM u0, .inl (sgE u0))), (a0_0, .inr (5, [.int (sgK u0), .ref a0_1, .ref a0_2, .ref a0_3, .ref a0_4, .int (sgO u0), .int (sgP u0)])), (a0_1, .inl (G.2.1 0, sgN u0, .inl (sgL u0))), (a0_2, .inl (G.2.1 1, sgN u0, .inl (sgR u0))), (a0_3, .inl (G.2.1 1, sgM u0, .inl (sgB u0))), (a0_4, .inl (G.2.1 1, sgM u0, .inl (sgE u0)))]) [0, 1, 2, 3, 4, 0, 1, 2, 3, 4] rfl)
      refine vp_callSi (va_runV (As := [.ref a0_0, .int y1]) (rest := []) ⟨hx, hb, hml, hown, hts⟩ (c_Sg_parameterNamed l G a0_0 a0_1 a0_2 a0_3 a0_4 a0_0 a0_1 a0_2 a0_3 a0_4 u0 u0 y1 _ h) (cwV 2 hts (gwV b_205 b_206 b_207 b_173 b_204) rfl rfl rfl hd_Sg_parameterNamed ⟨Nat.le_of_ble_eq_true rfl, Nat.le_of_ble_eq_true rfl⟩) ⟨mP_blind, va_recv hK hRc (ci := 5) (q0 := 0) rfl rfl, fun U hU hW => ⟨rfl, hC.to0 hW hU, by rw [hU]; exact hRc⟩⟩ rfl rfl hl.1 rfl (lv_room (Nat.le_of_ble_eq_true rfl)) d_Sg_ownNameAt_41 ⟨Nat.le_of_ble_eq_true rfl, Nat.le_of_ble_eq_true rfl⟩).run (fun r5 h => ?_)
      refine lv_goto (tgt := 48) hx hb d_Sg_ownNameAt_44 (by decide) ?_
      exact W.iret hx hb hr (fun t ht hW => ⟨_, rfl, h, ht⟩) (fun _ z => by cases z) d_Sg_ownNameAt_48
set_option maxHeartbeats 4000000 in
set_option maxRecDepth 100000 in
theorem t_Sg_ownNameAt_17 {p : Program} {l : Launch} {e : Env} {s : State} {m : MethodId} {args : Array Value} {below : List Frame} {meth : Method} {c : Code} {G : GX} {a0_0 a0_1 a0_2 a0_3 a0_4 : Nat} {u0 : SgC} {post : Int32 → Prop} (E : EN p s m args meth c G R_Sg cc_Sg_ownNameAt 4 (some .int) BG) (hR : va_P G.1 vwCl [(a0_0, .inr (5, [.int (sgK u0), .ref a0_1, .ref a0_2, .ref a0_3, .ref a0_4, .int (sgO u0), .int (sgP u0)])), (a0_1, .inl (G.2.1 0, sgN u0, .inl (sgL u0))), (a0_2, .inl (G.2.1 1, sgN u0, .inl (sgR u0))), (a0_3, .inl (G.2.1 1, sgM u0, .inl (sgB u0))), (a0_4, .inl (G.2.1 1, sgM u0, .inl (sgE u0)))] s.heap) : ∀ (y1 : Int32) (y2 : Int32) (ls : Array Slot), w_Sg_ownNameAt_17 post u0 y1 y2 → lv_has ls 4 [(0, .ref a0_0), (1, .int y1), (2, .int y2)] → W p l e rm_Sg_ownNameAt s m args below meth c s.heap [] 0 0 (MQ below (vp_Si post) args s 0 0 (fun _ => False)) (F0 m 17 ls []) := by
  obtain ⟨hx, hb, hr, hts, hown, hlocks, hml, hC⟩ := id E
  have hK := hC.1
  intro y1 y2  ls h hl
  unfold w_Sg_ownNameAt_17 at h
  refine lv_iconst (v := 1) hx hb d_Sg_ownNameAt_17 (by decide) ?_
  refine lv_goto (tgt := 22) hx hb d_Sg_ownNameAt_18 (by decide) ?_
  exact t_Sg_ownNameAt_22 E hR  _ _ _ _ h (lv_sub hl [0, 1, 2] rfl)
set_option maxHeartbeats 4000000 in
set_option maxRecDepth 100000 in
theorem t_Sg_ownNameAt_in {p : Program} {l : Launch} {e : Env} {s : State} {m : MethodId} {args : Array Value} {below : List Frame} {meth : Method} {c : Code} {G : GX} {a0_0 a0_1 a0_2 a0_3 a0_4 : Nat} {u0 : SgC} {post : Int32 → Prop} {x1 : Int32} (E : EN p s m args meth c G R_Sg cc_Sg_ownNameAt 4 (some .int) BG) (hR : va_P G.1 vwCl [(a0_0, .inr (5, [.int (sgK u0), .ref a0_1, .ref a0_2, .ref a0_3, .ref a0_4, .int (sgO u0), .int (sgP u0)])), (a0_1, .inl (G.2.1 0, sgN u0, .inl (sgL u0))), (a0_2, .inl (G.2.1 1, sgN u0, .inl (sgR u0))), (a0_3, .inl (G.2.1 1, sgM u0, .inl (sgB u0))), (a0_4, .inl (G.2.1 1, sgM u0, .inl (sgE u0)))] s.heap) : ∀ (ls : Array Slot), wp_Sg_ownNameAt post u0 x1 → lv_has ls 4 [(0, .ref a0_0), (1, .int x1)] → W p l e rm_Sg_ownNameAt s m args below meth c s.heap [] 0 0 (MQ below (vp_Si post) args s 0 0 (fun _ => False)) (F0 m 0 ls []) := by
  obtain ⟨hx, hb, hr, hts, hown, hlocks, hml, hC⟩ := id E
  have hK := hC.1
  intro ls h hl
  unfold wp_Sg_ownNameAt at h
  refine lv_aload_n hx hb d_Sg_ownNameAt_0 rfl (lv_at hl 0 rfl) ?_
  refine lv_iload_n hx hb d_Sg_ownNameAt_1 rfl (lv_at hl 1 rfl) ?_
  have hRc : va_P G.1 vwCl [(a0_0, .inr (5, [.int (sgK u0), .ref a0_1, .ref a0_2, .ref a0_3, .ref a0_4, .int (sgO u0), .int (sgP u0)])), (a0_1, .inl (G.2.1 0, sgN u0, .inl (sgL u0))), (a0_2, .inl (G.2.1 1, sgN u0, .inl (sgR u0))), (a0_3, .inl (G.2.1 1, sgM u0, .inl (sgB u0))), (a0_4, .inl (G.2.1 1, sgM u0, .inl (sgE u0)))] s.heap := (hR.sub (ws' := [(a0_0, .inr (5, [.int (sgK u0), .ref a0_1, .ref a0_2, .ref a0_3, .ref a0_4, .int (sgO u0), .int (sgP u0)])), (a0_1, .inl (G.2.1 0, sgN u0, .inl (sgL u0))), (a0_2, .inl (G.2.1 1, sgN u0, .inl (sgR u0))), (a0_3, .inl (G.2.1 1, sgM u0, .inl (sgB u0))), (a0_4, .inl (G.2.1 1, sgM u0, .inl (sgE u0)))]) [0, 1, 2, 3, 4] rfl)
  refine vp_callSi (va_runV (As := [.int x1]) (rest := []) ⟨hx, hb, hml, hown, hts⟩ (c_Sg_roleAt l G a0_0 a0_1 a0_2 a0_3 a0_4 u0 x1 _ h) (cwV 1 hts (gwV b_176 b_177 b_178 b_173 b_175) rfl rfl rfl hd_Sg_roleAt ⟨Nat.le_of_ble_eq_true rfl, Nat.le_of_ble_eq_true rfl⟩) ⟨mP_blind, va_recv hK hRc (ci := 5) (q0 := 0) rfl rfl, fun U hU hW => ⟨rfl, hC.to0 hW hU, by rw [hU]; exact hRc⟩⟩ rfl rfl hl.1 rfl (lv_room (Nat.le_of_ble_eq_true rfl)) d_Sg_ownNameAt_2 ⟨Nat.le_of_ble_eq_true rfl, Nat.le_of_ble_eq_true rfl⟩).run (fun r6 h => ?_)
  refine lv_istore_n (lv' := [(2, .int r6), (0, .ref a0_0), (1, .int x1)]) hx hb d_Sg_ownNameAt_5 rfl hl (by decide) rfl (fun ls hl => ?_)
  refine lv_iload_n hx hb d_Sg_ownNameAt_6 rfl (lv_at hl 0 rfl) ?_
  refine lv_iconst (v := 2) hx hb d_Sg_ownNameAt_7 (by decide) ?_
  refine lv_icmp_eq (tgt := 17) hx hb d_Sg_ownNameAt_8 (by decide) (fun c9 => ?_) (fun c9 => ?_)
  · have h := h.1 c9
    exact t_Sg_ownNameAt_17 E hR  _ _ _ h (lv_sub hl [1, 2, 0] rfl)
  · have h := h.2 c9
    refine lv_iload_n hx hb d_Sg_ownNameAt_11 rfl (lv_at hl 0 rfl) ?_
    refine lv_bipush (v := 7) hx hb d_Sg_ownNameAt_12 (by decide) ?_
    refine lv_icmp_ne (tgt := 21) hx hb d_Sg_ownNameAt_14 (by decide) (fun c9 => ?_) (fun c9 => ?_)
    · have h := h.1 c9
      refine lv_iconst (v := 0) hx hb d_Sg_ownNameAt_21 (by decide) ?_
      exact t_Sg_ownNameAt_22 E hR  _ _ _ _ h (lv_sub hl [1, 2, 0] rfl)
    · have h := h.2 c9
      exact t_Sg_ownNameAt_17 E hR  _ _ _ h (lv_sub hl [1, 2, 0] rfl)
set_option maxHeartbeats 4000000 in
set_option maxRecDepth 100000 in
theorem c_Sg_ownNameAt (l : Launch) (G : GX) (a0_0 a0_1 a0_2 a0_3 a0_4 : Nat) (u0 : SgC) (x1 : Int32) (post : Int32 → Prop) (h : wp_Sg_ownNameAt post u0 x1) : Met l y_Sg_ownNameAt wc_Sg_ownNameAt rm_Sg_ownNameAt (mP G [.ref a0_0, .int x1] [(a0_0, .inr (5, [.int (sgK u0), .ref a0_1, .ref a0_2, .ref a0_3, .ref a0_4, .int (sgO u0), .int (sgP u0)])), (a0_1, .inl (G.2.1 0, sgN u0, .inl (sgL u0))), (a0_2, .inl (G.2.1 1, sgN u0, .inl (sgR u0))), (a0_3, .inl (G.2.1 1, sgM u0, .inl (sgB u0))), (a0_4, .inl (G.2.1 1, sgM u0, .inl (sgE u0)))]) (vp_Si post) 0 0 (fun _ => False) := by
  refine Met.ofW (cc := cc_Sg_ownNameAt) (maxL := 4) (ret := (some .int)) (by decide) rfl ?_
  intro p e s m args below meth c s₁ B hml hv
  obtain ⟨rfl, hC, hR⟩ := hv
  have E : EN p s m ([.ref a0_0, .int x1] : List Value).toArray meth c G R_Sg cc_Sg_ownNameAt 4 (some .int) BG := ⟨B.exec, B.bytes, B.returns, fun w h => atoms_spec (ws := wc_Sg_ownNameAt) B.pre w (List.mem_cons_of_mem _ h), findClass_of_methodNamed B.named, B.notSynchronized, hml, hC⟩
  have hl := lv_entry ([.ref a0_0, .int x1]) (n := 4) (Nat.le_of_ble_eq_true rfl)
  rw [lg_entry_eq]
  generalize (lg_sl ([.ref a0_0, .int x1]) ++ List.replicate (4 - (lg_sl ([.ref a0_0, .int x1])).length) Slot.unset).toArray = ls at hl ⊢
  have hl : lv_has ls 4 [(0, .ref a0_0), (1, .int x1)] := hl
  exact t_Sg_ownNameAt_in E hR _ h hl
set_option maxHeartbeats 4000000 in
set_option maxRecDepth 100000 in
theorem t_Sg_behindType_62 {p : Program} {l : Launch} {e : Env} {s : State} {m : MethodId} {args : Array Value} {below : List Frame} {meth : Method} {c : Code} {G : GX} {a0_0 a0_1 a0_2 a0_3 a0_4 : Nat} {u0 : SgC} {post : Int32 → Prop} (E : EN p s m args meth c G R_Sg cc_Sg_behindType 5 (some .int) BG) (hR : va_P G.1 vwCl [(a0_0, .inr (5, [.int (sgK u0), .ref a0_1, .ref a0_2, .ref a0_3, .ref a0_4, .int (sgO u0), .int (sgP u0)])), (a0_1, .inl (G.2.1 0, sgN u0, .inl (sgL u0))), (a0_2, .inl (G.2.1 1, sgN u0, .inl (sgR u0))), (a0_3, .inl (G.2.1 1, sgM u0, .inl (sgB u0))), (a0_4, .inl (G.2.1 1, sgM u0, .inl (sgE u0)))] s.heap) {K0 : Int32 → Int32 → Prop} (hK0 : ∀ (y2 : Int32) (y3 : Int32) (ls : Array Slot), K0 y2 y3 → lv_has ls 5 [(0, .ref a0_0), (2, .int y2), (3, .int y3)] → W p l e rm_Sg_behindType s m args below meth c s.heap [] 0 0 (MQ below (vp_Si post) args s 0 0 (fun _ => False)) (F0 m 4 ls [])) : ∀ (y2 : Int32) (y3 : Int32) (ls : Array Slot), w_Sg_behindType_62 post u0 K0 y2 y3 → lv_has ls 5 [(0, .ref a0_0), (2, .int y2), (3, .int y3)] → W p l e rm_Sg_behindType s m args below meth c s.heap [] 0 0 (MQ below (vp_Si post) args s 0 0 (fun _ => False)) (F0 m 62 ls []) := by
  obtain ⟨hx, hb, hr, hts, hown, hlocks, hml, hC⟩ := id E
  have hK := hC.1
  intro y2 y3  ls h hl
  unfold w_Sg_behindType_62 at h
  refine lv_iinc (v := y3 + 1) (lv' := [(3, .int (y3 + 1)), (0, .ref a0_0), (2, .int y2)]) hx hb d_Sg_behindType_62 hl (k := 2) rfl rfl (by decide) rfl (fun ls hl => ?_)
  refine lv_goto (tgt := 4) hx hb d_Sg_behindType_65 (by decide) ?_
  exact hK0 _ _ _ h (lv_sub hl [1, 2, 0] rfl)
set_option maxHeartbeats 4000000 in
set_option maxRecDepth 100000 in
theorem tb_Sg_behindType_4 {p : Program} {l : Launch} {e : Env} {s : State} {m : MethodId} {args : Array Value} {below : List Frame} {meth : Method} {c : Code} {G : GX} {a0_0 a0_1 a0_2 a0_3 a0_4 : Nat} {u0 : SgC} {post : Int32 → Prop} (E : EN p s m args meth c G R_Sg cc_Sg_behindType 5 (some .int) BG) (hR : va_P G.1 vwCl [(a0_0, .inr (5, [.int (sgK u0), .ref a0_1, .ref a0_2, .ref a0_3, .ref a0_4, .int (sgO u0), .int (sgP u0)])), (a0_1, .inl (G.2.1 0, sgN u0, .inl (sgL u0))), (a0_2, .inl (G.2.1 1, sgN u0, .inl (sgR u0))), (a0_3, .inl (G.2.1 1, sgM u0, .inl (sgB u0))), (a0_4, .inl (G.2.1 1, sgM u0, .inl (sgE u0)))] s.heap) {K0 : Int32 → Int32 → Prop} (hK0 : ∀ (y2 : Int32) (y3 : Int32) (ls : Array Slot), K0 y2 y3 → lv_has ls 5 [(0, .ref a0_0), (2, .int y2), (3, .int y3)] → W p l e rm_Sg_behindType s m args below meth c s.heap [] 0 0 (MQ below (vp_Si post) args s 0 0 (fun _ => False)) (F0 m 4 ls [])) : ∀ (y2 : Int32) (y3 : Int32) (ls : Array Slot), wb_Sg_behindType_4 post u0 K0 y2 y3 → lv_has ls 5 [(0, .ref a0_0), (2, .int y2), (3, .int y3)] → W p l e rm_Sg_behindType s m args below meth c s.heap [] 0 0 (MQ below (vp_Si post) args s 0 0 (fun _ => False)) (F0 m 4 ls []) := by
  obtain ⟨hx, hb, hr, hts, hown, hlocks, hml, hC⟩ := id E
  have hK := hC.1
  intro y2 y3  ls h hl
  unfold wb_Sg_behindType_4 at h
  refine lv_iload_n hx hb d_Sg_behindType_4 rfl (lv_at hl 2 rfl) ?_
  refine lv_aload_n hx hb d_Sg_behindType_5 rfl (lv_at hl 0 rfl) ?_
  refine va_get (D := G.1) (ci := 5) (v := .ref a0_2) (C := R_Sg) (T := T_Sg) (N := 7) hx hb hts i_Sg hown hK hR 0 rfl rfl 2 (by decide) (hts _ b_166) (fun _ h9 => h9) rfl d_Sg_behindType_6 ?_
  refine va_alen hx hb hK hR 2 1 rfl rfl (v := Int32.ofNat (sgN u0)) rfl d_Sg_behindType_9 ?_
  refine lv_icmp_ge (tgt := 68) hx hb d_Sg_behindType_10 (by decide) (fun c9 => ?_) (fun c9 => ?_)
  · have h := h.1 c9
    refine lv_aload_n hx hb d_Sg_behindType_68 rfl (lv_at hl 0 rfl) ?_
    refine va_get (D := G.1) (ci := 5) (v := .ref a0_2) (C := R_Sg) (T := T_Sg) (N := 7) hx hb hts i_Sg hown hK hR 0 rfl rfl 2 (by decide) (hts _ b_166) (fun _ h9 => h9) rfl d_Sg_behindType_69 ?_
    refine va_alen hx hb hK hR 2 1 rfl rfl (v := Int32.ofNat (sgN u0)) rfl d_Sg_behindType_72 ?_
    exact W.iret hx hb hr (fun t ht hW => ⟨_, rfl, h, ht⟩) (fun _ z => by cases z) d_Sg_behindType_73
  · have h := h.2 c9
    refine lv_aload_n hx hb d_Sg_behindType_13 rfl (lv_at hl 0 rfl) ?_
    refine lv_iload_n hx hb d_Sg_behindType_14 rfl (lv_at hl 2 rfl) ?_
    have hRc : va_P G.1 vwCl [(a0_0, .inr (5, [.int (sgK u0), .ref a0_1, .ref a0_2, .ref a0_3, .ref a0_4, .int (sgO u0), .int (sgP u0)])), (a0_1, .inl (G.2.1 0, sgN u0, .inl (sgL u0))), (a0_2, .inl (G.2.1 1, sgN u0, .inl (sgR u0))), (a0_3, .inl (G.2.1 1, sgM u0, .inl (sgB u0))), (a0_4, .inl (G.2.1 1, sgM u0, .inl (sgE u0)))] s.heap := (hR.sub (ws' := [(a0_0, .inr (5, [.int (sgK u0), .ref a0_1, .ref a0_2, .ref a0_3, .ref a0_4, .int (sgO u0), .int (sgP u0)])), (a0_1, .inl (G.2.1 0, sgN u0, .inl (sgL u0))), (a0_2, .inl (G.2.1 1, sgN u0, .inl (sgR u0))), (a0_3, .inl (G.2.1 1, sgM u0, .inl (sgB u0))), (a0_4, .inl (G.2.1 1, sgM u0, .inl (sgE u0)))]) [0, 1, 2, 3, 4] rfl)
    refine vp_callSi (va_runV (As := [.int y3]) (rest := []) ⟨hx, hb, hml, hown, hts⟩ (c_Sg_roleAt l G a0_0 a0_1 a0_2 a0_3 a0_4 u0 y3 _ h) (cwV 1 hts (gwV b_176 b_177 b_178 b_173 b_175) rfl rfl rfl hd_Sg_roleAt ⟨Nat.le_of_ble_eq_true rfl, Nat.le_of_ble_eq_true rfl⟩) ⟨mP_blind, va_recv hK hRc (ci := 5) (q0 := 0) rfl rfl, fun U hU hW => ⟨rfl, hC.to0 hW hU, by rw [hU]; exact hRc⟩⟩ rfl rfl hl.1 rfl (lv_room (Nat.le_of_ble_eq_true rfl)) d_Sg_behindType_15 ⟨Nat.le_of_ble_eq_true rfl, Nat.le_of_ble_eq_true rfl⟩).run (fun r3 h => ?_)
    refine lv_istore (lv' := [(4, .int r3), (0, .ref a0_0), (2, .int y2), (3, .int y3)]) hx hb d_Sg_behindType_18 hl (by decide) rfl (fun ls hl => ?_)
    refine lv_iload hx hb d_Sg_behindType_20 (lv_at hl 0 rfl) ?_
    refine lv_bipush (v := 15) hx hb d_Sg_behindType_22 (by decide) ?_
    refine lv_icmp_ne (tgt := 33) hx hb d_Sg_behindType_24 (by decide) (fun c9 => ?_) (fun c9 => ?_)
    · have h := h.1 c9
      refine lv_iload hx hb d_Sg_behindType_33 (lv_at hl 0 rfl) ?_
      refine lv_bipush (v := 16) hx hb d_Sg_behindType_35 (by decide) ?_
      refine lv_icmp_ne (tgt := 46) hx hb d_Sg_behindType_37 (by decide) (fun c9 => ?_) (fun c9 => ?_)
      · have h := h.1 c9
        refine lv_iload_n hx hb d_Sg_behindType_46 rfl (lv_at hl 2 rfl) ?_
        refine lv_if_ne (tgt := 62) hx hb d_Sg_behindType_47 (by decide) (fun c9 => ?_) (fun c9 => ?_)
        · have h := h.1 c9
          exact t_Sg_behindType_62 E hR hK0 _ _ _ h (lv_sub hl [1, 2, 3] rfl)
        · have h := h.2 c9
          refine lv_iload hx hb d_Sg_behindType_50 (lv_at hl 0 rfl) ?_
          have hRc : va_P G.1 vwCl [] s.heap := vaP_nil
          refine vp_callSi (va_runSN (As := [.int r3]) (rest := []) ⟨hx, hb, hml, hown, hts⟩ (c_endsItem l G r3 _ h) ⟨va_cnB 1 hts (gwC b_141) rfl rfl rfl (nm9_5 hC) (hts _ b_51) hd_Fo_endsItem.2 ⟨Nat.le_of_ble_eq_true rfl, Nat.le_of_ble_eq_true rfl⟩, hts _ b_142, trivial⟩ ⟨mP_blind, fun U hU hW => ⟨rfl, hC.to0 hW hU, by rw [hU]; exact hRc⟩⟩ rfl rfl hl.1 rfl (lv_room (Nat.le_of_ble_eq_true rfl)) d_Sg_behindType_52 ⟨Nat.le_of_ble_eq_true rfl, Nat.le_of_ble_eq_true rfl⟩).run (fun r4 h => ?_)
          refine lv_if_eq (tgt := 62) hx hb d_Sg_behindType_55 (by decide) (fun c9 => ?_) (fun c9 => ?_)
          · have h := h.1 c9
            exact t_Sg_behindType_62 E hR hK0 _ _ _ h (lv_sub hl [1, 2, 3] rfl)
          · have h := h.2 c9
            refine lv_iload_n hx hb d_Sg_behindType_58 rfl (lv_at hl 3 rfl) ?_
            refine lv_iconst (v := 1) hx hb d_Sg_behindType_59 (by decide) ?_
            refine lv_iadd hx hb d_Sg_behindType_60 ?_
            exact W.iret hx hb hr (fun t ht hW => ⟨_, rfl, h, ht⟩) (fun _ z => by cases z) d_Sg_behindType_61
      · have h := h.2 c9
        refine lv_iinc (v := y2 + (-1)) (lv' := [(2, .int (y2 + (-1))), (4, .int r3), (0, .ref a0_0), (3, .int y3)]) hx hb d_Sg_behindType_40 hl (k := 2) rfl rfl (by decide) rfl (fun ls hl => ?_)
        refine lv_goto (tgt := 62) hx hb d_Sg_behindType_43 (by decide) ?_
        exact t_Sg_behindType_62 E hR hK0 _ _ _ h (lv_sub hl [2, 0, 3] rfl)
    · have h := h.2 c9
      refine lv_iinc (v := y2 + 1) (lv' := [(2, .int (y2 + 1)), (4, .int r3), (0, .ref a0_0), (3, .int y3)]) hx hb d_Sg_behindType_27 hl (k := 2) rfl rfl (by decide) rfl (fun ls hl => ?_)
      refine lv_goto (tgt := 62) hx hb d_Sg_behindType_30 (by decide) ?_
      exact t_Sg_behindType_62 E hR hK0 _ _ _ h (lv_sub hl [2, 0, 3] rfl)
set_option maxHeartbeats 4000000 in
set_option maxRecDepth 100000 in
theorem t_Sg_behindType_4 {p : Program} {l : Launch} {e : Env} {s : State} {m : MethodId} {args : Array Value} {below : List Frame} {meth : Method} {c : Code} {G : GX} {a0_0 a0_1 a0_2 a0_3 a0_4 : Nat} {u0 : SgC} {post : Int32 → Prop} (E : EN p s m args meth c G R_Sg cc_Sg_behindType 5 (some .int) BG) (hR : va_P G.1 vwCl [(a0_0, .inr (5, [.int (sgK u0), .ref a0_1, .ref a0_2, .ref a0_3, .ref a0_4, .int (sgO u0), .int (sgP u0)])), (a0_1, .inl (G.2.1 0, sgN u0, .inl (sgL u0))), (a0_2, .inl (G.2.1 1, sgN u0, .inl (sgR u0))), (a0_3, .inl (G.2.1 1, sgM u0, .inl (sgB u0))), (a0_4, .inl (G.2.1 1, sgM u0, .inl (sgE u0)))] s.heap) : ∀ (n : Nat) (y2 : Int32) (y3 : Int32) (ls : Array Slot), w_Sg_behindType_4 post u0 n y2 y3 → lv_has ls 5 [(0, .ref a0_0), (2, .int y2), (3, .int y3)] → W p l e rm_Sg_behindType s m args below meth c s.heap [] 0 0 (MQ below (vp_Si post) args s 0 0 (fun _ => False)) (F0 m 4 ls []) := by
  intro n
  induction n with
  | zero => intro y2 y3  ls h; exact h.elim
  | succ n ih =>
    intro y2 y3  ls h hl
    exact tb_Sg_behindType_4 E hR  ih _ _ _ h hl
set_option maxHeartbeats 4000000 in
set_option maxRecDepth 100000 in
theorem t_Sg_behindType_in {p : Program} {l : Launch} {e : Env} {s : State} {m : MethodId} {args : Array Value} {below : List Frame} {meth : Method} {c : Code} {G : GX} {a0_0 a0_1 a0_2 a0_3 a0_4 : Nat} {u0 : SgC} {post : Int32 → Prop} {x1 : Int32} (E : EN p s m args meth c G R_Sg cc_Sg_behindType 5 (some .int) BG) (hR : va_P G.1 vwCl [(a0_0, .inr (5, [.int (sgK u0), .ref a0_1, .ref a0_2, .ref a0_3, .ref a0_4, .int (sgO u0), .int (sgP u0)])), (a0_1, .inl (G.2.1 0, sgN u0, .inl (sgL u0))), (a0_2, .inl (G.2.1 1, sgN u0, .inl (sgR u0))), (a0_3, .inl (G.2.1 1, sgM u0, .inl (sgB u0))), (a0_4, .inl (G.2.1 1, sgM u0, .inl (sgE u0)))] s.heap) : ∀ (ls : Array Slot), wp_Sg_behindType post u0 x1 → lv_has ls 5 [(0, .ref a0_0), (1, .int x1)] → W p l e rm_Sg_behindType s m args below meth c s.heap [] 0 0 (MQ below (vp_Si post) args s 0 0 (fun _ => False)) (F0 m 0 ls []) := by
  obtain ⟨hx, hb, hr, hts, hown, hlocks, hml, hC⟩ := id E
  have hK := hC.1
  intro ls h hl
  unfold wp_Sg_behindType at h
  refine lv_iconst (v := 0) hx hb d_Sg_behindType_0 (by decide) ?_
  refine lv_istore_n (lv' := [(2, .int 0), (0, .ref a0_0), (1, .int x1)]) hx hb d_Sg_behindType_1 rfl hl (by decide) rfl (fun ls hl => ?_)
  refine lv_iload_n hx hb d_Sg_behindType_2 rfl (lv_at hl 2 rfl) ?_
  refine lv_istore_n (lv' := [(3, .int x1), (2, .int 0), (0, .ref a0_0), (1, .int x1)]) hx hb d_Sg_behindType_3 rfl hl (by decide) rfl (fun ls hl => ?_)
  obtain ⟨n, h⟩ := h
  exact t_Sg_behindType_4 E hR  n _ _ _ h (lv_sub hl [2, 1, 0] rfl)
set_option maxHeartbeats 4000000 in
set_option maxRecDepth 100000 in
theorem c_Sg_behindType (l : Launch) (G : GX) (a0_0 a0_1 a0_2 a0_3 a0_4 : Nat) (u0 : SgC) (x1 : Int32) (post : Int32 → Prop) (h : wp_Sg_behindType post u0 x1) : Met l y_Sg_behindType wc_Sg_behindType rm_Sg_behindType (mP G [.ref a0_0, .int x1] [(a0_0, .inr (5, [.int (sgK u0), .ref a0_1, .ref a0_2, .ref a0_3, .ref a0_4, .int (sgO u0), .int (sgP u0)])), (a0_1, .inl (G.2.1 0, sgN u0, .inl (sgL u0))), (a0_2, .inl (G.2.1 1, sgN u0, .inl (sgR u0))), (a0_3, .inl (G.2.1 1, sgM u0, .inl (sgB u0))), (a0_4, .inl (G.2.1 1, sgM u0, .inl (sgE u0)))]) (vp_Si post) 0 0 (fun _ => False) := by
  refine Met.ofW (cc := cc_Sg_behindType) (maxL := 5) (ret := (some .int)) (by decide) rfl ?_
  intro p e s m args below meth c s₁ B hml hv
  obtain ⟨rfl, hC, hR⟩ := hv
  have E : EN p s m ([.ref a0_0, .int x1] : List Value).toArray meth c G R_Sg cc_Sg_behindType 5 (some .int) BG := ⟨B.exec, B.bytes, B.returns, fun w h => atoms_spec (ws := wc_Sg_behindType) B.pre w (List.mem_cons_of_mem _ h), findClass_of_methodNamed B.named, B.notSynchronized, hml, hC⟩
  have hl := lv_entry ([.ref a0_0, .int x1]) (n := 5) (Nat.le_of_ble_eq_true rfl)
  rw [lg_entry_eq]
  generalize (lg_sl ([.ref a0_0, .int x1]) ++ List.replicate (5 - (lg_sl ([.ref a0_0, .int x1])).length) Slot.unset).toArray = ls at hl ⊢
  have hl : lv_has ls 5 [(0, .ref a0_0), (1, .int x1)] := hl
  exact t_Sg_behindType_in E hR _ h hl
set_option maxHeartbeats 4000000 in
set_option maxRecDepth 100000 in
theorem t_Sg_classCount_26 {p : Program} {l : Launch} {e : Env} {s : State} {m : MethodId} {args : Array Value} {below : List Frame} {meth : Method} {c : Code} {G : GX} {a0_0 a0_1 a0_2 a0_3 a0_4 : Nat} {u0 : SgC} {post : Int32 → Prop} (E : EN p s m args meth c G R_Sg cc_Sg_classCount 3 (some .int) BG) (hR : va_P G.1 vwCl [(a0_0, .inr (5, [.int (sgK u0), .ref a0_1, .ref a0_2, .ref a0_3, .ref a0_4, .int (sgO u0), .int (sgP u0)])), (a0_1, .inl (G.2.1 0, sgN u0, .inl (sgL u0))), (a0_2, .inl (G.2.1 1, sgN u0, .inl (sgR u0))), (a0_3, .inl (G.2.1 1, sgM u0, .inl (sgB u0))), (a0_4, .inl (G.2.1 1, sgM u0, .inl (sgE u0)))] s.heap) {K0 : Int32 → Int32 → Prop} (hK0 : ∀ (y1 : Int32) (y2 : Int32) (ls : Array Slot), K0 y1 y2 → lv_has ls 3 [(0, .ref a0_0), (1, .int y1), (2, .int y2)] → W p l e rm_Sg_classCount s m args below meth c s.heap [] 0 0 (MQ below (vp_Si post) args s 0 0 (fun _ => False)) (F0 m 4 ls [])) : ∀ (y1 : Int32) (y2 : Int32) (ls : Array Slot), w_Sg_classCount_26 post u0 K0 y1 y2 → lv_has ls 3 [(0, .ref a0_0), (1, .int y1), (2, .int y2)] → W p l e rm_Sg_classCount s m args below meth c s.heap [] 0 0 (MQ below (vp_Si post) args s 0 0 (fun _ => False)) (F0 m 26 ls []) := by
  obtain ⟨hx, hb, hr, hts, hown, hlocks, hml, hC⟩ := id E
  have hK := hC.1
  intro y1 y2  ls h hl
  unfold w_Sg_classCount_26 at h
  refine lv_iinc (v := y2 + 1) (lv' := [(2, .int (y2 + 1)), (0, .ref a0_0), (1, .int y1)]) hx hb d_Sg_classCount_26 hl (k := 2) rfl rfl (by decide) rfl (fun ls hl => ?_)
  refine lv_goto (tgt := 4) hx hb d_Sg_classCount_29 (by decide) ?_
  exact hK0 _ _ _ h (lv_sub hl [1, 2, 0] rfl)
set_option maxHeartbeats 4000000 in
set_option maxRecDepth 100000 in
theorem tb_Sg_classCount_4 {p : Program} {l : Launch} {e : Env} {s : State} {m : MethodId} {args : Array Value} {below : List Frame} {meth : Method} {c : Code} {G : GX} {a0_0 a0_1 a0_2 a0_3 a0_4 : Nat} {u0 : SgC} {post : Int32 → Prop} (E : EN p s m args meth c G R_Sg cc_Sg_classCount 3 (some .int) BG) (hR : va_P G.1 vwCl [(a0_0, .inr (5, [.int (sgK u0), .ref a0_1, .ref a0_2, .ref a0_3, .ref a0_4, .int (sgO u0), .int (sgP u0)])), (a0_1, .inl (G.2.1 0, sgN u0, .inl (sgL u0))), (a0_2, .inl (G.2.1 1, sgN u0, .inl (sgR u0))), (a0_3, .inl (G.2.1 1, sgM u0, .inl (sgB u0))), (a0_4, .inl (G.2.1 1, sgM u0, .inl (sgE u0)))] s.heap) {K0 : Int32 → Int32 → Prop} (hK0 : ∀ (y1 : Int32) (y2 : Int32) (ls : Array Slot), K0 y1 y2 → lv_has ls 3 [(0, .ref a0_0), (1, .int y1), (2, .int y2)] → W p l e rm_Sg_classCount s m args below meth c s.heap [] 0 0 (MQ below (vp_Si post) args s 0 0 (fun _ => False)) (F0 m 4 ls [])) : ∀ (y1 : Int32) (y2 : Int32) (ls : Array Slot), wb_Sg_classCount_4 post u0 K0 y1 y2 → lv_has ls 3 [(0, .ref a0_0), (1, .int y1), (2, .int y2)] → W p l e rm_Sg_classCount s m args below meth c s.heap [] 0 0 (MQ below (vp_Si post) args s 0 0 (fun _ => False)) (F0 m 4 ls []) := by
  obtain ⟨hx, hb, hr, hts, hown, hlocks, hml, hC⟩ := id E
  have hK := hC.1
  intro y1 y2  ls h hl
  unfold wb_Sg_classCount_4 at h
  refine lv_iload_n hx hb d_Sg_classCount_4 rfl (lv_at hl 2 rfl) ?_
  refine lv_aload_n hx hb d_Sg_classCount_5 rfl (lv_at hl 0 rfl) ?_
  refine va_get (D := G.1) (ci := 5) (v := .ref a0_2) (C := R_Sg) (T := T_Sg) (N := 7) hx hb hts i_Sg hown hK hR 0 rfl rfl 2 (by decide) (hts _ b_166) (fun _ h9 => h9) rfl d_Sg_classCount_6 ?_
  refine va_alen hx hb hK hR 2 1 rfl rfl (v := Int32.ofNat (sgN u0)) rfl d_Sg_classCount_9 ?_
  refine lv_icmp_ge (tgt := 32) hx hb d_Sg_classCount_10 (by decide) (fun c9 => ?_) (fun c9 => ?_)
  · have h := h.1 c9
    refine lv_iload_n hx hb d_Sg_classCount_32 rfl (lv_at hl 1 rfl) ?_
    exact W.iret hx hb hr (fun t ht hW => ⟨_, rfl, h, ht⟩) (fun _ z => by cases z) d_Sg_classCount_33
  · have h := h.2 c9
    refine lv_aload_n hx hb d_Sg_classCount_13 rfl (lv_at hl 0 rfl) ?_
    refine lv_iload_n hx hb d_Sg_classCount_14 rfl (lv_at hl 2 rfl) ?_
    have hRc : va_P G.1 vwCl [(a0_0, .inr (5, [.int (sgK u0), .ref a0_1, .ref a0_2, .ref a0_3, .ref a0_4, .int (sgO u0), .int (sgP u0)])), (a0_1, .inl (G.2.1 0, sgN u0, .inl (sgL u0))), (a0_2, .inl (G.2.1 1, sgN u0, .inl (sgR u0))), (a0_3, .inl (G.2.1 1, sgM u0, .inl (sgB u0))), (a0_4, .inl (G.2.1 1, sgM u0, .inl (sgE u0)))] s.heap := (hR.sub (ws' := [(a0_0, .inr (5, [.int (sgK u0), .ref a0_1, .ref a0_2, .ref a0_3, .ref a0_4, .int (sgO u0), .int (sgP u0)])), (a0_1, .inl (G.2.1 0, sgN u0, .inl (sgL u0))), (a0_2, .inl (G.2.1 1, sgN u0, .inl (sgR u0))), (a0_3, .inl (G.2.1 1, sgM u0, .inl (sgB u0))), (a0_4, .inl (G.2.1 1, sgM u0, .inl (sgE u0)))]) [0, 1, 2, 3, 4] rfl)
    refine vp_callSi (va_runV (As := [.int y2]) (rest := []) ⟨hx, hb, hml, hown, hts⟩ (c_Sg_roleAt l G a0_0 a0_1 a0_2 a0_3 a0_4 u0 y2 _ h) (cwV 1 hts (gwV b_176 b_177 b_178 b_173 b_175) rfl rfl rfl hd_Sg_roleAt ⟨Nat.le_of_ble_eq_true rfl, Nat.le_of_ble_eq_true rfl⟩) ⟨mP_blind, va_recv hK hRc (ci := 5) (q0 := 0) rfl rfl, fun U hU hW => ⟨rfl, hC.to0 hW hU, by rw [hU]; exact hRc⟩⟩ rfl rfl hl.1 rfl (lv_room (Nat.le_of_ble_eq_true rfl)) d_Sg_classCount_15 ⟨Nat.le_of_ble_eq_true rfl, Nat.le_of_ble_eq_true rfl⟩).run (fun r2 h => ?_)
    refine lv_bipush (v := 9) hx hb d_Sg_classCount_18 (by decide) ?_
    refine lv_icmp_ne (tgt := 26) hx hb d_Sg_classCount_20 (by decide) (fun c9 => ?_) (fun c9 => ?_)
    · have h := h.1 c9
      exact t_Sg_classCount_26 E hR hK0 _ _ _ h (lv_sub hl [0, 1, 2] rfl)
    · have h := h.2 c9
      refine lv_iinc (v := y1 + 1) (lv' := [(1, .int (y1 + 1)), (0, .ref a0_0), (2, .int y2)]) hx hb d_Sg_classCount_23 hl (k := 1) rfl rfl (by decide) rfl (fun ls hl => ?_)
      exact t_Sg_classCount_26 E hR hK0 _ _ _ h (lv_sub hl [1, 0, 2] rfl)
set_option maxHeartbeats 4000000 in
set_option maxRecDepth 100000 in
theorem t_Sg_classCount_4 {p : Program} {l : Launch} {e : Env} {s : State} {m : MethodId} {args : Array Value} {below : List Frame} {meth : Method} {c : Code} {G : GX} {a0_0 a0_1 a0_2 a0_3 a0_4 : Nat} {u0 : SgC} {post : Int32 → Prop} (E : EN p s m args meth c G R_Sg cc_Sg_classCount 3 (some .int) BG) (hR : va_P G.1 vwCl [(a0_0, .inr (5, [.int (sgK u0), .ref a0_1, .ref a0_2, .ref a0_3, .ref a0_4, .int (sgO u0), .int (sgP u0)])), (a0_1, .inl (G.2.1 0, sgN u0, .inl (sgL u0))), (a0_2, .inl (G.2.1 1, sgN u0, .inl (sgR u0))), (a0_3, .inl (G.2.1 1, sgM u0, .inl (sgB u0))), (a0_4, .inl (G.2.1 1, sgM u0, .inl (sgE u0)))] s.heap) : ∀ (n : Nat) (y1 : Int32) (y2 : Int32) (ls : Array Slot), w_Sg_classCount_4 post u0 n y1 y2 → lv_has ls 3 [(0, .ref a0_0), (1, .int y1), (2, .int y2)] → W p l e rm_Sg_classCount s m args below meth c s.heap [] 0 0 (MQ below (vp_Si post) args s 0 0 (fun _ => False)) (F0 m 4 ls []) := by
  intro n
  induction n with
  | zero => intro y1 y2  ls h; exact h.elim
  | succ n ih =>
    intro y1 y2  ls h hl
    exact tb_Sg_classCount_4 E hR  ih _ _ _ h hl
set_option maxHeartbeats 4000000 in
set_option maxRecDepth 100000 in
theorem t_Sg_classCount_in {p : Program} {l : Launch} {e : Env} {s : State} {m : MethodId} {args : Array Value} {below : List Frame} {meth : Method} {c : Code} {G : GX} {a0_0 a0_1 a0_2 a0_3 a0_4 : Nat} {u0 : SgC} {post : Int32 → Prop}  (E : EN p s m args meth c G R_Sg cc_Sg_classCount 3 (some .int) BG) (hR : va_P G.1 vwCl [(a0_0, .inr (5, [.int (sgK u0), .ref a0_1, .ref a0_2, .ref a0_3, .ref a0_4, .int (sgO u0), .int (sgP u0)])), (a0_1, .inl (G.2.1 0, sgN u0, .inl (sgL u0))), (a0_2, .inl (G.2.1 1, sgN u0, .inl (sgR u0))), (a0_3, .inl (G.2.1 1, sgM u0, .inl (sgB u0))), (a0_4, .inl (G.2.1 1, sgM u0, .inl (sgE u0)))] s.heap) : ∀ (ls : Array Slot), wp_Sg_classCount post u0 → lv_has ls 3 [(0, .ref a0_0)] → W p l e rm_Sg_classCount s m args below meth c s.heap [] 0 0 (MQ below (vp_Si post) args s 0 0 (fun _ => False)) (F0 m 0 ls []) := by
  obtain ⟨hx, hb, hr, hts, hown, hlocks, hml, hC⟩ := id E
  have hK := hC.1
  intro ls h hl
  unfold wp_Sg_classCount at h
  refine lv_iconst (v := 0) hx hb d_Sg_classCount_0 (by decide) ?_
  refine lv_istore_n (lv' := [(1, .int 0), (0, .ref a0_0)]) hx hb d_Sg_classCount_1 rfl hl (by decide) rfl (fun ls hl => ?_)
  refine lv_iconst (v := 0) hx hb d_Sg_classCount_2 (by decide) ?_
  refine lv_istore_n (lv' := [(2, .int 0), (1, .int 0), (0, .ref a0_0)]) hx hb d_Sg_classCount_3 rfl hl (by decide) rfl (fun ls hl => ?_)
  obtain ⟨n, h⟩ := h
  exact t_Sg_classCount_4 E hR  n _ _ _ h (lv_sub hl [2, 1, 0] rfl)
set_option maxHeartbeats 4000000 in
set_option maxRecDepth 100000 in
theorem c_Sg_classCount (l : Launch) (G : GX) (a0_0 a0_1 a0_2 a0_3 a0_4 : Nat) (u0 : SgC) (post : Int32 → Prop) (h : wp_Sg_classCount post u0) : Met l y_Sg_classCount wc_Sg_classCount rm_Sg_classCount (mP G [.ref a0_0] [(a0_0, .inr (5, [.int (sgK u0), .ref a0_1, .ref a0_2, .ref a0_3, .ref a0_4, .int (sgO u0), .int (sgP u0)])), (a0_1, .inl (G.2.1 0, sgN u0, .inl (sgL u0))), (a0_2, .inl (G.2.1 1, sgN u0, .inl (sgR u0))), (a0_3, .inl (G.2.1 1, sgM u0, .inl (sgB u0))), (a0_4, .inl (G.2.1 1, sgM u0, .inl (sgE u0)))]) (vp_Si post) 0 0 (fun _ => False) := by
  refine Met.ofW (cc := cc_Sg_classCount) (maxL := 3) (ret := (some .int)) (by decide) rfl ?_
  intro p e s m args below meth c s₁ B hml hv
  obtain ⟨rfl, hC, hR⟩ := hv
  have E : EN p s m ([.ref a0_0] : List Value).toArray meth c G R_Sg cc_Sg_classCount 3 (some .int) BG := ⟨B.exec, B.bytes, B.returns, fun w h => atoms_spec (ws := wc_Sg_classCount) B.pre w (List.mem_cons_of_mem _ h), findClass_of_methodNamed B.named, B.notSynchronized, hml, hC⟩
  have hl := lv_entry ([.ref a0_0]) (n := 3) (Nat.le_of_ble_eq_true rfl)
  rw [lg_entry_eq]
  generalize (lg_sl ([.ref a0_0]) ++ List.replicate (3 - (lg_sl ([.ref a0_0])).length) Slot.unset).toArray = ls at hl ⊢
  have hl : lv_has ls 3 [(0, .ref a0_0)] := hl
  exact t_Sg_classCount_in E hR _ h hl
set_option maxHeartbeats 4000000 in
set_option maxRecDepth 100000 in
theorem t_Sg_argumentDepth_45 {p : Program} {l : Launch} {e : Env} {s : State} {m : MethodId} {args : Array Value} {below : List Frame} {meth : Method} {c : Code} {G : GX} {a0_0 a0_1 a0_2 a0_3 a0_4 : Nat} {u0 : SgC} {post : Int32 → Prop} (E : EN p s m args meth c G R_Sg cc_Sg_argumentDepth 5 (some .int) BG) (hR : va_P G.1 vwCl [(a0_0, .inr (5, [.int (sgK u0), .ref a0_1, .ref a0_2, .ref a0_3, .ref a0_4, .int (sgO u0), .int (sgP u0)])), (a0_1, .inl (G.2.1 0, sgN u0, .inl (sgL u0))), (a0_2, .inl (G.2.1 1, sgN u0, .inl (sgR u0))), (a0_3, .inl (G.2.1 1, sgM u0, .inl (sgB u0))), (a0_4, .inl (G.2.1 1, sgM u0, .inl (sgE u0)))] s.heap) {K0 : Int32 → Int32 → Int32 → Prop} (hK0 : ∀ (y1 : Int32) (y2 : Int32) (y3 : Int32) (ls : Array Slot), K0 y1 y2 y3 → lv_has ls 5 [(0, .ref a0_0), (1, .int y1), (2, .int y2), (3, .int y3)] → W p l e rm_Sg_argumentDepth s m args below meth c s.heap [] 0 0 (MQ below (vp_Si post) args s 0 0 (fun _ => False)) (F0 m 6 ls [])) : ∀ (y1 : Int32) (y2 : Int32) (y3 : Int32) (ls : Array Slot), w_Sg_argumentDepth_45 post u0 K0 y1 y2 y3 → lv_has ls 5 [(0, .ref a0_0), (1, .int y1), (2, .int y2), (3, .int y3)] → W p l e rm_Sg_argumentDepth s m args below meth c s.heap [] 0 0 (MQ below (vp_Si post) args s 0 0 (fun _ => False)) (F0 m 45 ls []) := by
  obtain ⟨hx, hb, hr, hts, hown, hlocks, hml, hC⟩ := id E
  have hK := hC.1
  intro y1 y2 y3  ls h hl
  unfold w_Sg_argumentDepth_45 at h
  refine lv_iload_n hx hb d_Sg_argumentDepth_45 rfl (lv_at hl 2 rfl) ?_
  refine lv_iload_n hx hb d_Sg_argumentDepth_46 rfl (lv_at hl 1 rfl) ?_
  refine va_mmax hx hb (hml.trans hl.1.symm) hown (hts _ b_208) (hts _ b_28) (hts _ b_29) (hts _ b_30) (by decide) (by decide) (Nat.zero_le _) (Nat.zero_le _) d_Sg_argumentDepth_47 ?_
  refine lv_istore_n (lv' := [(2, .int (if y2 < y1 then y1 else y2)), (0, .ref a0_0), (1, .int y1), (3, .int y3)]) hx hb d_Sg_argumentDepth_50 rfl hl (by decide) rfl (fun ls hl => ?_)
  refine lv_iinc (v := y3 + 1) (lv' := [(3, .int (y3 + 1)), (2, .int (if y2 < y1 then y1 else y2)), (0, .ref a0_0), (1, .int y1)]) hx hb d_Sg_argumentDepth_51 hl (k := 3) rfl rfl (by decide) rfl (fun ls hl => ?_)
  refine lv_goto (tgt := 6) hx hb d_Sg_argumentDepth_54 (by decide) ?_
  exact hK0 _ _ _ _ h (lv_sub hl [2, 3, 1, 0] rfl)
set_option maxHeartbeats 4000000 in
set_option maxRecDepth 100000 in
theorem tb_Sg_argumentDepth_6 {p : Program} {l : Launch} {e : Env} {s : State} {m : MethodId} {args : Array Value} {below : List Frame} {meth : Method} {c : Code} {G : GX} {a0_0 a0_1 a0_2 a0_3 a0_4 : Nat} {u0 : SgC} {post : Int32 → Prop} (E : EN p s m args meth c G R_Sg cc_Sg_argumentDepth 5 (some .int) BG) (hR : va_P G.1 vwCl [(a0_0, .inr (5, [.int (sgK u0), .ref a0_1, .ref a0_2, .ref a0_3, .ref a0_4, .int (sgO u0), .int (sgP u0)])), (a0_1, .inl (G.2.1 0, sgN u0, .inl (sgL u0))), (a0_2, .inl (G.2.1 1, sgN u0, .inl (sgR u0))), (a0_3, .inl (G.2.1 1, sgM u0, .inl (sgB u0))), (a0_4, .inl (G.2.1 1, sgM u0, .inl (sgE u0)))] s.heap) {K0 : Int32 → Int32 → Int32 → Prop} (hK0 : ∀ (y1 : Int32) (y2 : Int32) (y3 : Int32) (ls : Array Slot), K0 y1 y2 y3 → lv_has ls 5 [(0, .ref a0_0), (1, .int y1), (2, .int y2), (3, .int y3)] → W p l e rm_Sg_argumentDepth s m args below meth c s.heap [] 0 0 (MQ below (vp_Si post) args s 0 0 (fun _ => False)) (F0 m 6 ls [])) : ∀ (y1 : Int32) (y2 : Int32) (y3 : Int32) (ls : Array Slot), wb_Sg_argumentDepth_6 post u0 K0 y1 y2 y3 → lv_has ls 5 [(0, .ref a0_0), (1, .int y1), (2, .int y2), (3, .int y3)] → W p l e rm_Sg_argumentDepth s m args below meth c s.heap [] 0 0 (MQ below (vp_Si post) args s 0 0 (fun _ => False)) (F0 m 6 ls []) := by
  obtain ⟨hx, hb, hr, hts, hown, hlocks, hml, hC⟩ := id E
  have hK := hC.1
  intro y1 y2 y3  ls h hl
  unfold wb_Sg_argumentDepth_6 at h
  refine lv_iload_n hx hb d_Sg_argumentDepth_6 rfl (lv_at hl 3 rfl) ?_
  refine lv_aload_n hx hb d_Sg_argumentDepth_7 rfl (lv_at hl 0 rfl) ?_
  refine va_get (D := G.1) (ci := 5) (v := .ref a0_2) (C := R_Sg) (T := T_Sg) (N := 7) hx hb hts i_Sg hown hK hR 0 rfl rfl 2 (by decide) (hts _ b_166) (fun _ h9 => h9) rfl d_Sg_argumentDepth_8 ?_
  refine va_alen hx hb hK hR 2 1 rfl rfl (v := Int32.ofNat (sgN u0)) rfl d_Sg_argumentDepth_11 ?_
  refine lv_icmp_ge (tgt := 57) hx hb d_Sg_argumentDepth_12 (by decide) (fun c9 => ?_) (fun c9 => ?_)
  · have h := h.1 c9
    refine lv_iload_n hx hb d_Sg_argumentDepth_57 rfl (lv_at hl 2 rfl) ?_
    exact W.iret hx hb hr (fun t ht hW => ⟨_, rfl, h, ht⟩) (fun _ z => by cases z) d_Sg_argumentDepth_58
  · have h := h.2 c9
    refine lv_aload_n hx hb d_Sg_argumentDepth_15 rfl (lv_at hl 0 rfl) ?_
    refine lv_iload_n hx hb d_Sg_argumentDepth_16 rfl (lv_at hl 3 rfl) ?_
    have hRc : va_P G.1 vwCl [(a0_0, .inr (5, [.int (sgK u0), .ref a0_1, .ref a0_2, .ref a0_3, .ref a0_4, .int (sgO u0), .int (sgP u0)])), (a0_1, .inl (G.2.1 0, sgN u0, .inl (sgL u0))), (a0_2, .inl (G.2.1 1, sgN u0, .inl (sgR u0))), (a0_3, .inl (G.2.1 1, sgM u0, .inl (sgB u0))), (a0_4, .inl (G.2.1 1, sgM u0, .inl (sgE u0)))] s.heap := (hR.sub (ws' := [(a0_0, .inr (5, [.int (sgK u0), .ref a0_1, .ref a0_2, .ref a0_3, .ref a0_4, .int (sgO u0), .int (sgP u0)])), (a0_1, .inl (G.2.1 0, sgN u0, .inl (sgL u0))), (a0_2, .inl (G.2.1 1, sgN u0, .inl (sgR u0))), (a0_3, .inl (G.2.1 1, sgM u0, .inl (sgB u0))), (a0_4, .inl (G.2.1 1, sgM u0, .inl (sgE u0)))]) [0, 1, 2, 3, 4] rfl)
    refine vp_callSi (va_runV (As := [.int y3]) (rest := []) ⟨hx, hb, hml, hown, hts⟩ (c_Sg_roleAt l G a0_0 a0_1 a0_2 a0_3 a0_4 u0 y3 _ h) (cwV 1 hts (gwV b_176 b_177 b_178 b_173 b_175) rfl rfl rfl hd_Sg_roleAt ⟨Nat.le_of_ble_eq_true rfl, Nat.le_of_ble_eq_true rfl⟩) ⟨mP_blind, va_recv hK hRc (ci := 5) (q0 := 0) rfl rfl, fun U hU hW => ⟨rfl, hC.to0 hW hU, by rw [hU]; exact hRc⟩⟩ rfl rfl hl.1 rfl (lv_room (Nat.le_of_ble_eq_true rfl)) d_Sg_argumentDepth_17 ⟨Nat.le_of_ble_eq_true rfl, Nat.le_of_ble_eq_true rfl⟩).run (fun r2 h => ?_)
    refine lv_istore (lv' := [(4, .int r2), (0, .ref a0_0), (1, .int y1), (2, .int y2), (3, .int y3)]) hx hb d_Sg_argumentDepth_20 hl (by decide) rfl (fun ls hl => ?_)
    refine lv_iload hx hb d_Sg_argumentDepth_22 (lv_at hl 0 rfl) ?_
    refine lv_bipush (v := 15) hx hb d_Sg_argumentDepth_24 (by decide) ?_
    refine lv_icmp_ne (tgt := 35) hx hb d_Sg_argumentDepth_26 (by decide) (fun c9 => ?_) (fun c9 => ?_)
    · have h := h.1 c9
      refine lv_iload hx hb d_Sg_argumentDepth_35 (lv_at hl 0 rfl) ?_
      refine lv_bipush (v := 16) hx hb d_Sg_argumentDepth_37 (by decide) ?_
      refine lv_icmp_ne (tgt := 45) hx hb d_Sg_argumentDepth_39 (by decide) (fun c9 => ?_) (fun c9 => ?_)
      · have h := h.1 c9
        exact t_Sg_argumentDepth_45 E hR hK0 _ _ _ _ h (lv_sub hl [1, 2, 3, 4] rfl)
      · have h := h.2 c9
        refine lv_iinc (v := y1 + (-1)) (lv' := [(1, .int (y1 + (-1))), (4, .int r2), (0, .ref a0_0), (2, .int y2), (3, .int y3)]) hx hb d_Sg_argumentDepth_42 hl (k := 2) rfl rfl (by decide) rfl (fun ls hl => ?_)
        exact t_Sg_argumentDepth_45 E hR hK0 _ _ _ _ h (lv_sub hl [2, 0, 3, 4] rfl)
    · have h := h.2 c9
      refine lv_iinc (v := y1 + 1) (lv' := [(1, .int (y1 + 1)), (4, .int r2), (0, .ref a0_0), (2, .int y2), (3, .int y3)]) hx hb d_Sg_argumentDepth_29 hl (k := 2) rfl rfl (by decide) rfl (fun ls hl => ?_)
      refine lv_goto (tgt := 45) hx hb d_Sg_argumentDepth_32 (by decide) ?_
      exact t_Sg_argumentDepth_45 E hR hK0 _ _ _ _ h (lv_sub hl [2, 0, 3, 4] rfl)
set_option maxHeartbeats 4000000 in
set_option maxRecDepth 100000 in
theorem t_Sg_argumentDepth_6 {p : Program} {l : Launch} {e : Env} {s : State} {m : MethodId} {args : Array Value} {below : List Frame} {meth : Method} {c : Code} {G : GX} {a0_0 a0_1 a0_2 a0_3 a0_4 : Nat} {u0 : SgC} {post : Int32 → Prop} (E : EN p s m args meth c G R_Sg cc_Sg_argumentDepth 5 (some .int) BG) (hR : va_P G.1 vwCl [(a0_0, .inr (5, [.int (sgK u0), .ref a0_1, .ref a0_2, .ref a0_3, .ref a0_4, .int (sgO u0), .int (sgP u0)])), (a0_1, .inl (G.2.1 0, sgN u0, .inl (sgL u0))), (a0_2, .inl (G.2.1 1, sgN u0, .inl (sgR u0))), (a0_3, .inl (G.2.1 1, sgM u0, .inl (sgB u0))), (a0_4, .inl (G.2.1 1, sgM u0, .inl (sgE u0)))] s.heap) : ∀ (n : Nat) (y1 : Int32) (y2 : Int32) (y3 : Int32) (ls : Array Slot), w_Sg_argumentDepth_6 post u0 n y1 y2 y3 → lv_has ls 5 [(0, .ref a0_0), (1, .int y1), (2, .int y2), (3, .int y3)] → W p l e rm_Sg_argumentDepth s m args below meth c s.heap [] 0 0 (MQ below (vp_Si post) args s 0 0 (fun _ => False)) (F0 m 6 ls []) := by
  intro n
  induction n with
  | zero => intro y1 y2 y3  ls h; exact h.elim
  | succ n ih =>
    intro y1 y2 y3  ls h hl
    exact tb_Sg_argumentDepth_6 E hR  ih _ _ _ _ h hl
set_option maxHeartbeats 4000000 in
set_option maxRecDepth 100000 in
theorem t_Sg_argumentDepth_in {p : Program} {l : Launch} {e : Env} {s : State} {m : MethodId} {args : Array Value} {below : List Frame} {meth : Method} {c : Code} {G : GX} {a0_0 a0_1 a0_2 a0_3 a0_4 : Nat} {u0 : SgC} {post : Int32 → Prop}  (E : EN p s m args meth c G R_Sg cc_Sg_argumentDepth 5 (some .int) BG) (hR : va_P G.1 vwCl [(a0_0, .inr (5, [.int (sgK u0), .ref a0_1, .ref a0_2, .ref a0_3, .ref a0_4, .int (sgO u0), .int (sgP u0)])), (a0_1, .inl (G.2.1 0, sgN u0, .inl (sgL u0))), (a0_2, .inl (G.2.1 1, sgN u0, .inl (sgR u0))), (a0_3, .inl (G.2.1 1, sgM u0, .inl (sgB u0))), (a0_4, .inl (G.2.1 1, sgM u0, .inl (sgE u0)))] s.heap) : ∀ (ls : Array Slot), wp_Sg_argumentDepth post u0 → lv_has ls 5 [(0, .ref a0_0)] → W p l e rm_Sg_argumentDepth s m args below meth c s.heap [] 0 0 (MQ below (vp_Si post) args s 0 0 (fun _ => False)) (F0 m 0 ls []) := by
  obtain ⟨hx, hb, hr, hts, hown, hlocks, hml, hC⟩ := id E
  have hK := hC.1
  intro ls h hl
  unfold wp_Sg_argumentDepth at h
  refine lv_iconst (v := 0) hx hb d_Sg_argumentDepth_0 (by decide) ?_
  refine lv_istore_n (lv' := [(1, .int 0), (0, .ref a0_0)]) hx hb d_Sg_argumentDepth_1 rfl hl (by decide) rfl (fun ls hl => ?_)
  refine lv_iconst (v := 0) hx hb d_Sg_argumentDepth_2 (by decide) ?_
  refine lv_istore_n (lv' := [(2, .int 0), (1, .int 0), (0, .ref a0_0)]) hx hb d_Sg_argumentDepth_3 rfl hl (by decide) rfl (fun ls hl => ?_)
  refine lv_iconst (v := 0) hx hb d_Sg_argumentDepth_4 (by decide) ?_
  refine lv_istore_n (lv' := [(3, .int 0), (2, .int 0), (1, .int 0), (0, .ref a0_0)]) hx hb d_Sg_argumentDepth_5 rfl hl (by decide) rfl (fun ls hl => ?_)
  obtain ⟨n, h⟩ := h
  exact t_Sg_argumentDepth_6 E hR  n _ _ _ _ h (lv_sub hl [3, 2, 1, 0] rfl)
set_option maxHeartbeats 4000000 in
set_option maxRecDepth 100000 in
theorem c_Sg_argumentDepth (l : Launch) (G : GX) (a0_0 a0_1 a0_2 a0_3 a0_4 : Nat) (u0 : SgC) (post : Int32 → Prop) (h : wp_Sg_argumentDepth post u0) : Met l y_Sg_argumentDepth wc_Sg_argumentDepth rm_Sg_argumentDepth (mP G [.ref a0_0] [(a0_0, .inr (5, [.int (sgK u0), .ref a0_1, .ref a0_2, .ref a0_3, .ref a0_4, .int (sgO u0), .int (sgP u0)])), (a0_1, .inl (G.2.1 0, sgN u0, .inl (sgL u0))), (a0_2, .inl (G.2.1 1, sgN u0, .inl (sgR u0))), (a0_3, .inl (G.2.1 1, sgM u0, .inl (sgB u0))), (a0_4, .inl (G.2.1 1, sgM u0, .inl (sgE u0)))]) (vp_Si post) 0 0 (fun _ => False) := by
  refine Met.ofW (cc := cc_Sg_argumentDepth) (maxL := 5) (ret := (some .int)) (by decide) rfl ?_
  intro p e s m args below meth c s₁ B hml hv
  obtain ⟨rfl, hC, hR⟩ := hv
  have E : EN p s m ([.ref a0_0] : List Value).toArray meth c G R_Sg cc_Sg_argumentDepth 5 (some .int) BG := ⟨B.exec, B.bytes, B.returns, fun w h => atoms_spec (ws := wc_Sg_argumentDepth) B.pre w (List.mem_cons_of_mem _ h), findClass_of_methodNamed B.named, B.notSynchronized, hml, hC⟩
  have hl := lv_entry ([.ref a0_0]) (n := 5) (Nat.le_of_ble_eq_true rfl)
  rw [lg_entry_eq]
  generalize (lg_sl ([.ref a0_0]) ++ List.replicate (5 - (lg_sl ([.ref a0_0])).length) Slot.unset).toArray = ls at hl ⊢
  have hl : lv_has ls 5 [(0, .ref a0_0)] := hl
  exact t_Sg_argumentDepth_in E hR _ h hl
set_option maxHeartbeats 4000000 in
set_option maxRecDepth 100000 in
theorem t_Sg_longestBrackets_32 {p : Program} {l : Launch} {e : Env} {s : State} {m : MethodId} {args : Array Value} {below : List Frame} {meth : Method} {c : Code} {G : GX} {a0_0 a0_1 a0_2 a0_3 a0_4 : Nat} {u0 : SgC} {post : Int32 → Prop} (E : EN p s m args meth c G R_Sg cc_Sg_longestBrackets 4 (some .int) BG) (hR : va_P G.1 vwCl [(a0_0, .inr (5, [.int (sgK u0), .ref a0_1, .ref a0_2, .ref a0_3, .ref a0_4, .int (sgO u0), .int (sgP u0)])), (a0_1, .inl (G.2.1 0, sgN u0, .inl (sgL u0))), (a0_2, .inl (G.2.1 1, sgN u0, .inl (sgR u0))), (a0_3, .inl (G.2.1 1, sgM u0, .inl (sgB u0))), (a0_4, .inl (G.2.1 1, sgM u0, .inl (sgE u0)))] s.heap) {K0 : Int32 → Int32 → Int32 → Prop} (hK0 : ∀ (y1 : Int32) (y2 : Int32) (y3 : Int32) (ls : Array Slot), K0 y1 y2 y3 → lv_has ls 4 [(0, .ref a0_0), (1, .int y1), (2, .int y2), (3, .int y3)] → W p l e rm_Sg_longestBrackets s m args below meth c s.heap [] 0 0 (MQ below (vp_Si post) args s 0 0 (fun _ => False)) (F0 m 6 ls [])) : ∀ (y2 : Int32) (y3 : Int32) (z0 : Int32) (ls : Array Slot), w_Sg_longestBrackets_32 post u0 K0 y2 y3 z0 → lv_has ls 4 [(0, .ref a0_0), (2, .int y2), (3, .int y3)] → W p l e rm_Sg_longestBrackets s m args below meth c s.heap [] 0 0 (MQ below (vp_Si post) args s 0 0 (fun _ => False)) (F0 m 32 ls [.int z0]) := by
  obtain ⟨hx, hb, hr, hts, hown, hlocks, hml, hC⟩ := id E
  have hK := hC.1
  intro y2 y3 z0  ls h hl
  unfold w_Sg_longestBrackets_32 at h
  refine lv_istore_n (lv' := [(1, .int z0), (0, .ref a0_0), (2, .int y2), (3, .int y3)]) hx hb d_Sg_longestBrackets_32 rfl hl (by decide) rfl (fun ls hl => ?_)
  refine lv_iload_n hx hb d_Sg_longestBrackets_33 rfl (lv_at hl 2 rfl) ?_
  refine lv_iload_n hx hb d_Sg_longestBrackets_34 rfl (lv_at hl 0 rfl) ?_
  refine va_mmax hx hb (hml.trans hl.1.symm) hown (hts _ b_208) (hts _ b_28) (hts _ b_29) (hts _ b_30) (by decide) (by decide) (Nat.zero_le _) (Nat.zero_le _) d_Sg_longestBrackets_35 ?_
  refine lv_istore_n (lv' := [(2, .int (if y2 < z0 then z0 else y2)), (1, .int z0), (0, .ref a0_0), (3, .int y3)]) hx hb d_Sg_longestBrackets_38 rfl hl (by decide) rfl (fun ls hl => ?_)
  refine lv_iinc (v := y3 + 1) (lv' := [(3, .int (y3 + 1)), (2, .int (if y2 < z0 then z0 else y2)), (1, .int z0), (0, .ref a0_0)]) hx hb d_Sg_longestBrackets_39 hl (k := 3) rfl rfl (by decide) rfl (fun ls hl => ?_)
  refine lv_goto (tgt := 6) hx hb d_Sg_longestBrackets_42 (by decide) ?_
  exact hK0 _ _ _ _ h (lv_sub hl [3, 2, 1, 0] rfl)
set_option maxHeartbeats 4000000 in
set_option maxRecDepth 100000 in
theorem tb_Sg_longestBrackets_6 {p : Program} {l : Launch} {e : Env} {s : State} {m : MethodId} {args : Array Value} {below : List Frame} {meth : Method} {c : Code} {G : GX} {a0_0 a0_1 a0_2 a0_3 a0_4 : Nat} {u0 : SgC} {post : Int32 → Prop} (E : EN p s m args meth c G R_Sg cc_Sg_longestBrackets 4 (some .int) BG) (hR : va_P G.1 vwCl [(a0_0, .inr (5, [.int (sgK u0), .ref a0_1, .ref a0_2, .ref a0_3, .ref a0_4, .int (sgO u0), .int (sgP u0)])), (a0_1, .inl (G.2.1 0, sgN u0, .inl (sgL u0))), (a0_2, .inl (G.2.1 1, sgN u0, .inl (sgR u0))), (a0_3, .inl (G.2.1 1, sgM u0, .inl (sgB u0))), (a0_4, .inl (G.2.1 1, sgM u0, .inl (sgE u0)))] s.heap) {K0 : Int32 → Int32 → Int32 → Prop} (hK0 : ∀ (y1 : Int32) (y2 : Int32) (y3 : Int32) (ls : Array Slot), K0 y1 y2 y3 → lv_has ls 4 [(0, .ref a0_0), (1, .int y1), (2, .int y2), (3, .int y3)] → W p l e rm_Sg_longestBrackets s m args below meth c s.heap [] 0 0 (MQ below (vp_Si post) args s 0 0 (fun _ => False)) (F0 m 6 ls [])) : ∀ (y1 : Int32) (y2 : Int32) (y3 : Int32) (ls : Array Slot), wb_Sg_longestBrackets_6 post u0 K0 y1 y2 y3 → lv_has ls 4 [(0, .ref a0_0), (1, .int y1), (2, .int y2), (3, .int y3)] → W p l e rm_Sg_longestBrackets s m args below meth c s.heap [] 0 0 (MQ below (vp_Si post) args s 0 0 (fun _ => False)) (F0 m 6 ls []) := by
  obtain ⟨hx, hb, hr, hts, hown, hlocks, hml, hC⟩ := id E
  have hK := hC.1
  intro y1 y2 y3  ls h hl
  unfold wb_Sg_longestBrackets_6 at h
  refine lv_iload_n hx hb d_Sg_longestBrackets_6 rfl (lv_at hl 3 rfl) ?_
  refine lv_aload_n hx hb d_Sg_longestBrackets_7 rfl (lv_at hl 0 rfl) ?_
  refine va_get (D := G.1) (ci := 5) (v := .ref a0_2) (C := R_Sg) (T := T_Sg) (N := 7) hx hb hts i_Sg hown hK hR 0 rfl rfl 2 (by decide) (hts _ b_166) (fun _ h9 => h9) rfl d_Sg_longestBrackets_8 ?_
  refine va_alen hx hb hK hR 2 1 rfl rfl (v := Int32.ofNat (sgN u0)) rfl d_Sg_longestBrackets_11 ?_
  refine lv_icmp_ge (tgt := 45) hx hb d_Sg_longestBrackets_12 (by decide) (fun c9 => ?_) (fun c9 => ?_)
  · have h := h.1 c9
    refine lv_iload_n hx hb d_Sg_longestBrackets_45 rfl (lv_at hl 2 rfl) ?_
    exact W.iret hx hb hr (fun t ht hW => ⟨_, rfl, h, ht⟩) (fun _ z => by cases z) d_Sg_longestBrackets_46
  · have h := h.2 c9
    refine lv_aload_n hx hb d_Sg_longestBrackets_15 rfl (lv_at hl 0 rfl) ?_
    refine lv_iload_n hx hb d_Sg_longestBrackets_16 rfl (lv_at hl 3 rfl) ?_
    have hRc : va_P G.1 vwCl [(a0_0, .inr (5, [.int (sgK u0), .ref a0_1, .ref a0_2, .ref a0_3, .ref a0_4, .int (sgO u0), .int (sgP u0)])), (a0_1, .inl (G.2.1 0, sgN u0, .inl (sgL u0))), (a0_2, .inl (G.2.1 1, sgN u0, .inl (sgR u0))), (a0_3, .inl (G.2.1 1, sgM u0, .inl (sgB u0))), (a0_4, .inl (G.2.1 1, sgM u0, .inl (sgE u0)))] s.heap := (hR.sub (ws' := [(a0_0, .inr (5, [.int (sgK u0), .ref a0_1, .ref a0_2, .ref a0_3, .ref a0_4, .int (sgO u0), .int (sgP u0)])), (a0_1, .inl (G.2.1 0, sgN u0, .inl (sgL u0))), (a0_2, .inl (G.2.1 1, sgN u0, .inl (sgR u0))), (a0_3, .inl (G.2.1 1, sgM u0, .inl (sgB u0))), (a0_4, .inl (G.2.1 1, sgM u0, .inl (sgE u0)))]) [0, 1, 2, 3, 4] rfl)
    refine vp_callSi (va_runV (As := [.int y3]) (rest := []) ⟨hx, hb, hml, hown, hts⟩ (c_Sg_roleAt l G a0_0 a0_1 a0_2 a0_3 a0_4 u0 y3 _ h) (cwV 1 hts (gwV b_176 b_177 b_178 b_173 b_175) rfl rfl rfl hd_Sg_roleAt ⟨Nat.le_of_ble_eq_true rfl, Nat.le_of_ble_eq_true rfl⟩) ⟨mP_blind, va_recv hK hRc (ci := 5) (q0 := 0) rfl rfl, fun U hU hW => ⟨rfl, hC.to0 hW hU, by rw [hU]; exact hRc⟩⟩ rfl rfl hl.1 rfl (lv_room (Nat.le_of_ble_eq_true rfl)) d_Sg_longestBrackets_17 ⟨Nat.le_of_ble_eq_true rfl, Nat.le_of_ble_eq_true rfl⟩).run (fun r2 h => ?_)
    refine lv_bipush (v := 19) hx hb d_Sg_longestBrackets_20 (by decide) ?_
    refine lv_icmp_ne (tgt := 31) hx hb d_Sg_longestBrackets_22 (by decide) (fun c9 => ?_) (fun c9 => ?_)
    · have h := h.1 c9
      refine lv_iconst (v := 0) hx hb d_Sg_longestBrackets_31 (by decide) ?_
      exact t_Sg_longestBrackets_32 E hR hK0 _ _ _ _ h (lv_sub hl [0, 2, 3] rfl)
    · have h := h.2 c9
      refine lv_iload_n hx hb d_Sg_longestBrackets_25 rfl (lv_at hl 1 rfl) ?_
      refine lv_iconst (v := 1) hx hb d_Sg_longestBrackets_26 (by decide) ?_
      refine lv_iadd hx hb d_Sg_longestBrackets_27 ?_
      refine lv_goto (tgt := 32) hx hb d_Sg_longestBrackets_28 (by decide) ?_
      exact t_Sg_longestBrackets_32 E hR hK0 _ _ _ _ h (lv_sub hl [0, 2, 3] rfl)
set_option maxHeartbeats 4000000 in
set_option maxRecDepth 100000 in
theorem t_Sg_longestBrackets_6 {p : Program} {l : Launch} {e : Env} {s : State} {m : MethodId} {args : Array Value} {below : List Frame} {meth : Method} {c : Code} {G : GX} {a0_0 a0_1 a0_2 a0_3 a0_4 : Nat} {u0 : SgC} {post : Int32 → Prop} (E : EN p s m args meth c G R_Sg cc_Sg_longestBrackets 4 (some .int) BG) (hR : va_P G.1 vwCl [(a0_0, .inr (5, [.int (sgK u0), .ref a0_1, .ref a0_2, .ref a0_3, .ref a0_4, .int (sgO u0), .int (sgP u0)])), (a0_1, .inl (G.2.1 0, sgN u0, .inl (sgL u0))), (a0_2, .inl (G.2.1 1, sgN u0, .inl (sgR u0))), (a0_3, .inl (G.2.1 1, sgM u0, .inl (sgB u0))), (a0_4, .inl (G.2.1 1, sgM u0, .inl (sgE u0)))] s.heap) : ∀ (n : Nat) (y1 : Int32) (y2 : Int32) (y3 : Int32) (ls : Array Slot), w_Sg_longestBrackets_6 post u0 n y1 y2 y3 → lv_has ls 4 [(0, .ref a0_0), (1, .int y1), (2, .int y2), (3, .int y3)] → W p l e rm_Sg_longestBrackets s m args below meth c s.heap [] 0 0 (MQ below (vp_Si post) args s 0 0 (fun _ => False)) (F0 m 6 ls []) := by
  intro n
  induction n with
  | zero => intro y1 y2 y3  ls h; exact h.elim
  | succ n ih =>
    intro y1 y2 y3  ls h hl
    exact tb_Sg_longestBrackets_6 E hR  ih _ _ _ _ h hl
set_option maxHeartbeats 4000000 in
set_option maxRecDepth 100000 in
theorem t_Sg_longestBrackets_in {p : Program} {l : Launch} {e : Env} {s : State} {m : MethodId} {args : Array Value} {below : List Frame} {meth : Method} {c : Code} {G : GX} {a0_0 a0_1 a0_2 a0_3 a0_4 : Nat} {u0 : SgC} {post : Int32 → Prop}  (E : EN p s m args meth c G R_Sg cc_Sg_longestBrackets 4 (some .int) BG) (hR : va_P G.1 vwCl [(a0_0, .inr (5, [.int (sgK u0), .ref a0_1, .ref a0_2, .ref a0_3, .ref a0_4, .int (sgO u0), .int (sgP u0)])), (a0_1, .inl (G.2.1 0, sgN u0, .inl (sgL u0))), (a0_2, .inl (G.2.1 1, sgN u0, .inl (sgR u0))), (a0_3, .inl (G.2.1 1, sgM u0, .inl (sgB u0))), (a0_4, .inl (G.2.1 1, sgM u0, .inl (sgE u0)))] s.heap) : ∀ (ls : Array Slot), wp_Sg_longestBrackets post u0 → lv_has ls 4 [(0, .ref a0_0)] → W p l e rm_Sg_longestBrackets s m args below meth c s.heap [] 0 0 (MQ below (vp_Si post) args s 0 0 (fun _ => False)) (F0 m 0 ls []) := by
  obtain ⟨hx, hb, hr, hts, hown, hlocks, hml, hC⟩ := id E
  have hK := hC.1
  intro ls h hl
  unfold wp_Sg_longestBrackets at h
  refine lv_iconst (v := 0) hx hb d_Sg_longestBrackets_0 (by decide) ?_
  refine lv_istore_n (lv' := [(1, .int 0), (0, .ref a0_0)]) hx hb d_Sg_longestBrackets_1 rfl hl (by decide) rfl (fun ls hl => ?_)
  refine lv_iconst (v := 0) hx hb d_Sg_longestBrackets_2 (by decide) ?_
  refine lv_istore_n (lv' := [(2, .int 0), (1, .int 0), (0, .ref a0_0)]) hx hb d_Sg_longestBrackets_3 rfl hl (by decide) rfl (fun ls hl => ?_)
  refine lv_iconst (v := 0) hx hb d_Sg_longestBrackets_4 (by decide) ?_
  refine lv_istore_n (lv' := [(3, .int 0), (2, .int 0), (1, .int 0), (0, .ref a0_0)]) hx hb d_Sg_longestBrackets_5 rfl hl (by decide) rfl (fun ls hl => ?_)
  obtain ⟨n, h⟩ := h
  exact t_Sg_longestBrackets_6 E hR  n _ _ _ _ h (lv_sub hl [3, 2, 1, 0] rfl)
set_option maxHeartbeats 4000000 in
set_option maxRecDepth 100000 in
theorem c_Sg_longestBrackets (l : Launch) (G : GX) (a0_0 a0_1 a0_2 a0_3 a0_4 : Nat) (u0 : SgC) (post : Int32 → Prop) (h : wp_Sg_longestBrackets post u0) : Met l y_Sg_longestBrackets wc_Sg_longestBrackets rm_Sg_longestBrackets (mP G [.ref a0_0] [(a0_0, .inr (5, [.int (sgK u0), .ref a0_1, .ref a0_2, .ref a0_3, .ref a0_4, .int (sgO u0), .int (sgP u0)])), (a0_1, .inl (G.2.1 0, sgN u0, .inl (sgL u0))), (a0_2, .inl (G.2.1 1, sgN u0, .inl (sgR u0))), (a0_3, .inl (G.2.1 1, sgM u0, .inl (sgB u0))), (a0_4, .inl (G.2.1 1, sgM u0, .inl (sgE u0)))]) (vp_Si post) 0 0 (fun _ => False) := by
  refine Met.ofW (cc := cc_Sg_longestBrackets) (maxL := 4) (ret := (some .int)) (by decide) rfl ?_
  intro p e s m args below meth c s₁ B hml hv
  obtain ⟨rfl, hC, hR⟩ := hv
  have E : EN p s m ([.ref a0_0] : List Value).toArray meth c G R_Sg cc_Sg_longestBrackets 4 (some .int) BG := ⟨B.exec, B.bytes, B.returns, fun w h => atoms_spec (ws := wc_Sg_longestBrackets) B.pre w (List.mem_cons_of_mem _ h), findClass_of_methodNamed B.named, B.notSynchronized, hml, hC⟩
  have hl := lv_entry ([.ref a0_0]) (n := 4) (Nat.le_of_ble_eq_true rfl)
  rw [lg_entry_eq]
  generalize (lg_sl ([.ref a0_0]) ++ List.replicate (4 - (lg_sl ([.ref a0_0])).length) Slot.unset).toArray = ls at hl ⊢
  have hl : lv_has ls 4 [(0, .ref a0_0)] := hl
  exact t_Sg_longestBrackets_in E hR _ h hl
set_option maxHeartbeats 4000000 in
set_option maxRecDepth 100000 in
theorem t_Sg_init_162 {p : Program} {l : Launch} {e : Env} {s : State} {m : MethodId} {args : Array Value} {below : List Frame} {meth : Method} {c : Code} {G : GX} {a0_0 a1_0 a1_1 a2_0 a2_1 a2_2 a2_3 : Nat} {u1 : RowC} {u2 : RdC} {post : SgC → Prop} {A : Nat → Prop} (E : EN p s m args meth c G R_Sg cc_Sg_init 6 none BG) (hR : va_P G.1 vwCl [(a1_0, .inr (2, [.ref a1_1, .int (rwS u1)])), (a1_1, .inl (G.2.1 0, rwN u1, .inl (rwF u1))), (a2_0, .inr (1, [.ref a2_1, .ref a2_2, .ref a2_3, .int (rdC u2), .int (rdK u2), .int (rdX u2), .int (rdD u2), .int (rdL u2)])), (a2_1, .inl (G.2.1 1, rdN u2, .inl (rdR u2))), (a2_2, .inl (G.2.1 1, rdN u2, .inl (rdB u2))), (a2_3, .inl (G.2.1 1, rdN u2, .inl (rdE u2)))] s.heap) (hA : ∀ q : Nat, s.heap.size ≤ q → A q) (hAB : ∀ q : Nat, A q → G.2.2.1 ≤ q) (hRn : ∀ (j : Nat) (q : Nat × va_E), ([(a1_0, .inr (2, [.ref a1_1, .int (rwS u1)])), (a1_1, .inl (G.2.1 0, rwN u1, .inl (rwF u1))), (a2_0, .inr (1, [.ref a2_1, .ref a2_2, .ref a2_3, .int (rdC u2), .int (rdK u2), .int (rdX u2), .int (rdD u2), .int (rdL u2)])), (a2_1, .inl (G.2.1 1, rdN u2, .inl (rdR u2))), (a2_2, .inl (G.2.1 1, rdN u2, .inl (rdB u2))), (a2_3, .inl (G.2.1 1, rdN u2, .inl (rdE u2)))] : va_W)[j]? = some q → ¬ A q.1) (hin : meth.name = "<init>") {K0 : Int32 → Int32 → SgC → Prop} (hK0 : ∀ (y4 : Int32) (y5 : Int32) (w0 : SgC) (q17 : Nat) (q45 : Nat) (q73 : Nat) (q101 : Nat) (H : Heap) (locs : List Loc) (ls : Array Slot), K0 y4 y5 w0 → va_P G.1 vwCl [(a0_0, .inr (5, [.int (sgK w0), .ref q17, .ref q45, .ref q73, .ref q101, .int (sgO w0), .int (sgP w0)])), (q17, .inl (G.2.1 0, sgN w0, .inl (sgL w0))), (q45, .inl (G.2.1 1, sgN w0, .inl (sgR w0))), (q73, .inl (G.2.1 1, sgM w0, .inl (sgB w0))), (q101, .inl (G.2.1 1, sgM w0, .inl (sgE w0)))] H → va_D A [(a0_0, .inr (5, [.int (sgK w0), .ref q17, .ref q45, .ref q73, .ref q101, .int (sgO w0), .int (sgP w0)])), (q17, .inl (G.2.1 0, sgN w0, .inl (sgL w0))), (q45, .inl (G.2.1 1, sgN w0, .inl (sgR w0))), (q73, .inl (G.2.1 1, sgM w0, .inl (sgB w0))), (q101, .inl (G.2.1 1, sgM w0, .inl (sgE w0)))] → va_S A s.heap H locs → lv_has ls 6 [(0, .ref a0_0), (4, .int y4), (5, .int y5)] → W p l e rm_Sg_init s m args below meth c H locs 4 480 (MQ below (va_Qv post (fun (u : SgC) (t : State) => ∃ (q17 q45 q73 q101 : Nat), va_P G.1 vwCl [(a0_0, .inr (5, [.int (sgK u), .ref q17, .ref q45, .ref q73, .ref q101, .int (sgO u), .int (sgP u)])), (q17, .inl (G.2.1 0, sgN u, .inl (sgL u))), (q45, .inl (G.2.1 1, sgN u, .inl (sgR u))), (q73, .inl (G.2.1 1, sgM u, .inl (sgB u))), (q101, .inl (G.2.1 1, sgM u, .inl (sgE u)))] t.heap ∧ va_D A [(a0_0, .inr (5, [.int (sgK u), .ref q17, .ref q45, .ref q73, .ref q101, .int (sgO u), .int (sgP u)])), (q17, .inl (G.2.1 0, sgN u, .inl (sgL u))), (q45, .inl (G.2.1 1, sgN u, .inl (sgR u))), (q73, .inl (G.2.1 1, sgM u, .inl (sgB u))), (q101, .inl (G.2.1 1, sgM u, .inl (sgE u)))]) A) args s 4 480 A) (F0 m 135 ls [])) : ∀ (y4 : Int32) (y5 : Int32) (w0 : SgC) (q17 : Nat) (q45 : Nat) (q73 : Nat) (q101 : Nat) (H : Heap) (locs : List Loc) (ls : Array Slot), w_Sg_init_162 post u1 u2 K0 y4 y5 w0 → va_P G.1 vwCl [(a0_0, .inr (5, [.int (sgK w0), .ref q17, .ref q45, .ref q73, .ref q101, .int (sgO w0), .int (sgP w0)])), (q17, .inl (G.2.1 0, sgN w0, .inl (sgL w0))), (q45, .inl (G.2.1 1, sgN w0, .inl (sgR w0))), (q73, .inl (G.2.1 1, sgM w0, .inl (sgB w0))), (q101, .inl (G.2.1 1, sgM w0, .inl (sgE w0)))] H → va_D A [(a0_0, .inr (5, [.int (sgK w0), .ref q17, .ref q45, .ref q73, .ref q101, .int (sgO w0), .int (sgP w0)])), (q17, .inl (G.2.1 0, sgN w0, .inl (sgL w0))), (q45, .inl (G.2.1 1, sgN w0, .inl (sgR w0))), (q73, .inl (G.2.1 1, sgM w0, .inl (sgB w0))), (q101, .inl (G.2.1 1, sgM w0, .inl (sgE w0)))] → va_S A s.heap H locs → lv_has ls 6 [(0, .ref a0_0), (4, .int y4), (5, .int y5)] → W p l e rm_Sg_init s m args below meth c H locs 4 480 (MQ below (va_Qv post (fun (u : SgC) (t : State) => ∃ (q17 q45 q73 q101 : Nat), va_P G.1 vwCl [(a0_0, .inr (5, [.int (sgK u), .ref q17, .ref q45, .ref q73, .ref q101, .int (sgO u), .int (sgP u)])), (q17, .inl (G.2.1 0, sgN u, .inl (sgL u))), (q45, .inl (G.2.1 1, sgN u, .inl (sgR u))), (q73, .inl (G.2.1 1, sgM u, .inl (sgB u))), (q101, .inl (G.2.1 1, sgM u, .inl (sgE u)))] t.heap ∧ va_D A [(a0_0, .inr (5, [.int (sgK u), .ref q17, .ref q45, .ref q73, .ref q101, .int (sgO u), .int (sgP u)])), (q17, .inl (G.2.1 0, sgN u, .inl (sgL u))), (q45, .inl (G.2.1 1, sgN u, .inl (sgR u))), (q73, .inl (G.2.1 1, sgM u, .inl (sgB u))), (q101, .inl (G.2.1 1, sgM u, .inl (sgE u)))]) A) args s 4 480 A) (F0 m 162 ls []) := by
  obtain ⟨hx, hb, hr, hts, hown, hlocks, hml, hC⟩ := id E
  have hK := hC.1
  intro y4 y5 w0 q17 q45 q73 q101 H locs ls h hP hD hS hl
  unfold w_Sg_init_162 at h
  refine lv_iinc (v := y5 + 1) (lv' := [(5, .int (y5 + 1)), (0, .ref a0_0), (4, .int y4)]) hx hb d_Sg_init_162 hl (k := 2) rfl rfl (by decide) rfl (fun ls hl => ?_)
  refine lv_goto (tgt := 135) hx hb d_Sg_init_165 (by decide) ?_
  exact hK0 _ _ _ _ _ _ _ _ _ _ h hP hD hS (lv_sub hl [1, 2, 0] rfl)
set_option maxHeartbeats 4000000 in
set_option maxRecDepth 100000 in
theorem tb_Sg_init_135 {p : Program} {l : Launch} {e : Env} {s : State} {m : MethodId} {args : Array Value} {below : List Frame} {meth : Method} {c : Code} {G : GX} {a0_0 a1_0 a1_1 a2_0 a2_1 a2_2 a2_3 : Nat} {u1 : RowC} {u2 : RdC} {post : SgC → Prop} {A : Nat → Prop} (E : EN p s m args meth c G R_Sg cc_Sg_init 6 none BG) (hR : va_P G.1 vwCl [(a1_0, .inr (2, [.ref a1_1, .int (rwS u1)])), (a1_1, .inl (G.2.1 0, rwN u1, .inl (rwF u1))), (a2_0, .inr (1, [.ref a2_1, .ref a2_2, .ref a2_3, .int (rdC u2), .int (rdK u2), .int (rdX u2), .int (rdD u2), .int (rdL u2)])), (a2_1, .inl (G.2.1 1, rdN u2, .inl (rdR u2))), (a2_2, .inl (G.2.1 1, rdN u2, .inl (rdB u2))), (a2_3, .inl (G.2.1 1, rdN u2, .inl (rdE u2)))] s.heap) (hA : ∀ q : Nat, s.heap.size ≤ q → A q) (hAB : ∀ q : Nat, A q → G.2.2.1 ≤ q) (hRn : ∀ (j : Nat) (q : Nat × va_E), ([(a1_0, .inr (2, [.ref a1_1, .int (rwS u1)])), (a1_1, .inl (G.2.1 0, rwN u1, .inl (rwF u1))), (a2_0, .inr (1, [.ref a2_1, .ref a2_2, .ref a2_3, .int (rdC u2), .int (rdK u2), .int (rdX u2), .int (rdD u2), .int (rdL u2)])), (a2_1, .inl (G.2.1 1, rdN u2, .inl (rdR u2))), (a2_2, .inl (G.2.1 1, rdN u2, .inl (rdB u2))), (a2_3, .inl (G.2.1 1, rdN u2, .inl (rdE u2)))] : va_W)[j]? = some q → ¬ A q.1) (hin : meth.name = "<init>") {K0 : Int32 → Int32 → SgC → Prop} (hK0 : ∀ (y4 : Int32) (y5 : Int32) (w0 : SgC) (q17 : Nat) (q45 : Nat) (q73 : Nat) (q101 : Nat) (H : Heap) (locs : List Loc) (ls : Array Slot), K0 y4 y5 w0 → va_P G.1 vwCl [(a0_0, .inr (5, [.int (sgK w0), .ref q17, .ref q45, .ref q73, .ref q101, .int (sgO w0), .int (sgP w0)])), (q17, .inl (G.2.1 0, sgN w0, .inl (sgL w0))), (q45, .inl (G.2.1 1, sgN w0, .inl (sgR w0))), (q73, .inl (G.2.1 1, sgM w0, .inl (sgB w0))), (q101, .inl (G.2.1 1, sgM w0, .inl (sgE w0)))] H → va_D A [(a0_0, .inr (5, [.int (sgK w0), .ref q17, .ref q45, .ref q73, .ref q101, .int (sgO w0), .int (sgP w0)])), (q17, .inl (G.2.1 0, sgN w0, .inl (sgL w0))), (q45, .inl (G.2.1 1, sgN w0, .inl (sgR w0))), (q73, .inl (G.2.1 1, sgM w0, .inl (sgB w0))), (q101, .inl (G.2.1 1, sgM w0, .inl (sgE w0)))] → va_S A s.heap H locs → lv_has ls 6 [(0, .ref a0_0), (4, .int y4), (5, .int y5)] → W p l e rm_Sg_init s m args below meth c H locs 4 480 (MQ below (va_Qv post (fun (u : SgC) (t : State) => ∃ (q17 q45 q73 q101 : Nat), va_P G.1 vwCl [(a0_0, .inr (5, [.int (sgK u), .ref q17, .ref q45, .ref q73, .ref q101, .int (sgO u), .int (sgP u)])), (q17, .inl (G.2.1 0, sgN u, .inl (sgL u))), (q45, .inl (G.2.1 1, sgN u, .inl (sgR u))), (q73, .inl (G.2.1 1, sgM u, .inl (sgB u))), (q101, .inl (G.2.1 1, sgM u, .inl (sgE u)))] t.heap ∧ va_D A [(a0_0, .inr (5, [.int (sgK u), .ref q17, .ref q45, .ref q73, .ref q101, .int (sgO u), .int (sgP u)])), (q17, .inl (G.2.1 0, sgN u, .inl (sgL u))), (q45, .inl (G.2.1 1, sgN u, .inl (sgR u))), (q73, .inl (G.2.1 1, sgM u, .inl (sgB u))), (q101, .inl (G.2.1 1, sgM u, .inl (sgE u)))]) A) args s 4 480 A) (F0 m 135 ls [])) : ∀ (y4 : Int32) (y5 : Int32) (w0 : SgC) (q17 : Nat) (q45 : Nat) (q73 : Nat) (q101 : Nat) (H : Heap) (locs : List Loc) (ls : Array Slot), wb_Sg_init_135 post u1 u2 K0 y4 y5 w0 → va_P G.1 vwCl [(a0_0, .inr (5, [.int (sgK w0), .ref q17, .ref q45, .ref q73, .ref q101, .int (sgO w0), .int (sgP w0)])), (q17, .inl (G.2.1 0, sgN w0, .inl (sgL w0))), (q45, .inl (G.2.1 1, sgN w0, .inl (sgR w0))), (q73, .inl (G.2.1 1, sgM w0, .inl (sgB w0))), (q101, .inl (G.2.1 1, sgM w0, .inl (sgE w0)))] H → va_D A [(a0_0, .inr (5, [.int (sgK w0), .ref q17, .ref q45, .ref q73, .ref q101, .int (sgO w0), .int (sgP w0)])), (q17, .inl (G.2.1 0, sgN w0, .inl (sgL w0))), (q45, .inl (G.2.1 1, sgN w0, .inl (sgR w0))), (q73, .inl (G.2.1 1, sgM w0, .inl (sgB w0))), (q101, .inl (G.2.1 1, sgM w0, .inl (sgE w0)))] → va_S A s.heap H locs → lv_has ls 6 [(0, .ref a0_0), (4, .int y4), (5, .int y5)] → W p l e rm_Sg_init s m args below meth c H locs 4 480 (MQ below (va_Qv post (fun (u : SgC) (t : State) => ∃ (q17 q45 q73 q101 : Nat), va_P G.1 vwCl [(a0_0, .inr (5, [.int (sgK u), .ref q17, .ref q45, .ref q73, .ref q101, .int (sgO u), .int (sgP u)])), (q17, .inl (G.2.1 0, sgN u, .inl (sgL u))), (q45, .inl (G.2.1 1, sgN u, .inl (sgR u))), (q73, .inl (G.2.1 1, sgM u, .inl (sgB u))), (q101, .inl (G.2.1 1, sgM u, .inl (sgE u)))] t.heap ∧ va_D A [(a0_0, .inr (5, [.int (sgK u), .ref q17, .ref q45, .ref q73, .ref q101, .int (sgO u), .int (sgP u)])), (q17, .inl (G.2.1 0, sgN u, .inl (sgL u))), (q45, .inl (G.2.1 1, sgN u, .inl (sgR u))), (q73, .inl (G.2.1 1, sgM u, .inl (sgB u))), (q101, .inl (G.2.1 1, sgM u, .inl (sgE u)))]) A) args s 4 480 A) (F0 m 135 ls []) := by
  obtain ⟨hx, hb, hr, hts, hown, hlocks, hml, hC⟩ := id E
  have hK := hC.1
  intro y4 y5 w0 q17 q45 q73 q101 H locs ls h hP hD hS hl
  unfold wb_Sg_init_135 at h
  refine lv_iload hx hb d_Sg_init_135 (lv_at hl 2 rfl) ?_
  refine lv_aload_n hx hb d_Sg_init_137 rfl (lv_at hl 0 rfl) ?_
  refine va_get (D := G.1) (ci := 5) (v := .ref q45) (C := R_Sg) (T := T_Sg) (N := 7) hx hb hts i_Sg hown hK hP 0 rfl rfl 2 (by decide) (hts _ b_166) (fun _ h9 => h9) rfl d_Sg_init_138 ?_
  refine va_alen hx hb hK hP 2 1 rfl rfl (v := Int32.ofNat (sgN w0)) rfl d_Sg_init_141 ?_
  refine lv_icmp_ge (tgt := 168) hx hb d_Sg_init_142 (by decide) (fun c9 => ?_) (fun c9 => ?_)
  · have h := h.1 c9
    refine lv_aload_n hx hb d_Sg_init_168 rfl (lv_at hl 0 rfl) ?_
    refine lv_iload hx hb d_Sg_init_169 (lv_at hl 1 rfl) ?_
    refine va_putF (D := G.1) (ci := 5) (v := .int y4) (ty := .int) (C := R_Sg) (T := T_Sg) (N := 7) hx hb hts i_Sg ty_Sg tyok_Sg nm_Sg hown hK hP hD hS 0 rfl rfl 5 (by decide) (hts _ b_179) (fun _ h9 => h9) rfl hin rfl (by decide +kernel) rfl rfl (Nat.le_of_ble_eq_true rfl) d_Sg_init_171 (fun H locs hP hD hS => ?_)
    have hP : va_P G.1 vwCl [(a0_0, .inr (5, [.int (sgK w0), .ref q17, .ref q45, .ref q73, .ref q101, .int y4, .int (sgP w0)])), (q17, .inl (G.2.1 0, sgN w0, .inl (sgL w0))), (q45, .inl (G.2.1 1, sgN w0, .inl (sgR w0))), (q73, .inl (G.2.1 1, sgM w0, .inl (sgB w0))), (q101, .inl (G.2.1 1, sgM w0, .inl (sgE w0)))] H := hP
    have hD : va_D A [(a0_0, .inr (5, [.int (sgK w0), .ref q17, .ref q45, .ref q73, .ref q101, .int y4, .int (sgP w0)])), (q17, .inl (G.2.1 0, sgN w0, .inl (sgL w0))), (q45, .inl (G.2.1 1, sgN w0, .inl (sgR w0))), (q73, .inl (G.2.1 1, sgM w0, .inl (sgB w0))), (q101, .inl (G.2.1 1, sgM w0, .inl (sgE w0)))] := hD
    refine W.widen (k := 4) (n := 480) (by decide) (by decide) ?_
    exact W.vret hx hb hr (fun t ht hW => ⟨⟨_, rfl, h, q17, q45, q73, q101, vaP_at ht hP, hD⟩, hS.F ht⟩) hS.2.2 d_Sg_init_174
  · have h := h.2 c9
    refine lv_aload_n hx hb d_Sg_init_145 rfl (lv_at hl 0 rfl) ?_
    refine va_get (D := G.1) (ci := 5) (v := .ref q45) (C := R_Sg) (T := T_Sg) (N := 7) hx hb hts i_Sg hown hK hP 0 rfl rfl 2 (by decide) (hts _ b_166) (fun _ h9 => h9) rfl d_Sg_init_146 ?_
    refine lv_iload hx hb d_Sg_init_149 (lv_at hl 2 rfl) ?_
    have hi9 := h.1
    have h := h.2
    refine va_iald hx hb hK hP 2 1 rfl rfl hi9 d_Sg_init_151 ?_
    refine lv_iconst (v := 5) hx hb d_Sg_init_152 (by decide) ?_
    refine lv_icmp_ne (tgt := 162) hx hb d_Sg_init_153 (by decide) (fun c9 => ?_) (fun c9 => ?_)
    · have h := h.1 c9
      exact t_Sg_init_162 E hR hA hAB hRn hin hK0 _ _ _ _ _ _ _ _ _ _ h hP hD hS (lv_sub hl [0, 1, 2] rfl)
    · have h := h.2 c9
      refine lv_iload hx hb d_Sg_init_156 (lv_at hl 2 rfl) ?_
      refine lv_iconst (v := 1) hx hb d_Sg_init_158 (by decide) ?_
      refine lv_iadd hx hb d_Sg_init_159 ?_
      refine lv_istore (lv' := [(4, .int (y5 + 1)), (0, .ref a0_0), (5, .int y5)]) hx hb d_Sg_init_160 hl (by decide) rfl (fun ls hl => ?_)
      exact t_Sg_init_162 E hR hA hAB hRn hin hK0 _ _ _ _ _ _ _ _ _ _ h hP hD hS (lv_sub hl [1, 0, 2] rfl)
set_option maxHeartbeats 4000000 in
set_option maxRecDepth 100000 in
theorem t_Sg_init_135 {p : Program} {l : Launch} {e : Env} {s : State} {m : MethodId} {args : Array Value} {below : List Frame} {meth : Method} {c : Code} {G : GX} {a0_0 a1_0 a1_1 a2_0 a2_1 a2_2 a2_3 : Nat} {u1 : RowC} {u2 : RdC} {post : SgC → Prop} {A : Nat → Prop} (E : EN p s m args meth c G R_Sg cc_Sg_init 6 none BG) (hR : va_P G.1 vwCl [(a1_0, .inr (2, [.ref a1_1, .int (rwS u1)])), (a1_1, .inl (G.2.1 0, rwN u1, .inl (rwF u1))), (a2_0, .inr (1, [.ref a2_1, .ref a2_2, .ref a2_3, .int (rdC u2), .int (rdK u2), .int (rdX u2), .int (rdD u2), .int (rdL u2)])), (a2_1, .inl (G.2.1 1, rdN u2, .inl (rdR u2))), (a2_2, .inl (G.2.1 1, rdN u2, .inl (rdB u2))), (a2_3, .inl (G.2.1 1, rdN u2, .inl (rdE u2)))] s.heap) (hA : ∀ q : Nat, s.heap.size ≤ q → A q) (hAB : ∀ q : Nat, A q → G.2.2.1 ≤ q) (hRn : ∀ (j : Nat) (q : Nat × va_E), ([(a1_0, .inr (2, [.ref a1_1, .int (rwS u1)])), (a1_1, .inl (G.2.1 0, rwN u1, .inl (rwF u1))), (a2_0, .inr (1, [.ref a2_1, .ref a2_2, .ref a2_3, .int (rdC u2), .int (rdK u2), .int (rdX u2), .int (rdD u2), .int (rdL u2)])), (a2_1, .inl (G.2.1 1, rdN u2, .inl (rdR u2))), (a2_2, .inl (G.2.1 1, rdN u2, .inl (rdB u2))), (a2_3, .inl (G.2.1 1, rdN u2, .inl (rdE u2)))] : va_W)[j]? = some q → ¬ A q.1) (hin : meth.name = "<init>") : ∀ (n : Nat) (y4 : Int32) (y5 : Int32) (w0 : SgC) (q17 : Nat) (q45 : Nat) (q73 : Nat) (q101 : Nat) (H : Heap) (locs : List Loc) (ls : Array Slot), w_Sg_init_135 post u1 u2 n y4 y5 w0 → va_P G.1 vwCl [(a0_0, .inr (5, [.int (sgK w0), .ref q17, .ref q45, .ref q73, .ref q101, .int (sgO w0), .int (sgP w0)])), (q17, .inl (G.2.1 0, sgN w0, .inl (sgL w0))), (q45, .inl (G.2.1 1, sgN w0, .inl (sgR w0))), (q73, .inl (G.2.1 1, sgM w0, .inl (sgB w0))), (q101, .inl (G.2.1 1, sgM w0, .inl (sgE w0)))] H → va_D A [(a0_0, .inr (5, [.int (sgK w0), .ref q17, .ref q45, .ref q73, .ref q101, .int (sgO w0), .int (sgP w0)])), (q17, .inl (G.2.1 0, sgN w0, .inl (sgL w0))), (q45, .inl (G.2.1 1, sgN w0, .inl (sgR w0))), (q73, .inl (G.2.1 1, sgM w0, .inl (sgB w0))), (q101, .inl (G.2.1 1, sgM w0, .inl (sgE w0)))] → va_S A s.heap H locs → lv_has ls 6 [(0, .ref a0_0), (4, .int y4), (5, .int y5)] → W p l e rm_Sg_init s m args below meth c H locs 4 480 (MQ below (va_Qv post (fun (u : SgC) (t : State) => ∃ (q17 q45 q73 q101 : Nat), va_P G.1 vwCl [(a0_0, .inr (5, [.int (sgK u), .ref q17, .ref q45, .ref q73, .ref q101, .int (sgO u), .int (sgP u)])), (q17, .inl (G.2.1 0, sgN u, .inl (sgL u))), (q45, .inl (G.2.1 1, sgN u, .inl (sgR u))), (q73, .inl (G.2.1 1, sgM u, .inl (sgB u))), (q101, .inl (G.2.1 1, sgM u, .inl (sgE u)))] t.heap ∧ va_D A [(a0_0, .inr (5, [.int (sgK u), .ref q17, .ref q45, .ref q73, .ref q101, .int (sgO u), .int (sgP u)])), (q17, .inl (G.2.1 0, sgN u, .inl (sgL u))), (q45, .inl (G.2.1 1, sgN u, .inl (sgR u))), (q73, .inl (G.2.1 1, sgM u, .inl (sgB u))), (q101, .inl (G.2.1 1, sgM u, .inl (sgE u)))]) A) args s 4 480 A) (F0 m 135 ls []) := by
  intro n
  induction n with
  | zero => intro y4 y5 w0 q17 q45 q73 q101 H locs ls h; exact h.elim
  | succ n ih =>
    intro y4 y5 w0 q17 q45 q73 q101 H locs ls h hP hD hS hl
    exact tb_Sg_init_135 E hR hA hAB hRn hin  ih _ _ _ _ _ _ _ _ _ _ h hP hD hS hl
set_option maxHeartbeats 4000000 in
set_option maxRecDepth 100000 in
theorem t_Sg_init_in {p : Program} {l : Launch} {e : Env} {s : State} {m : MethodId} {args : Array Value} {below : List Frame} {meth : Method} {c : Code} {G : GX} {a0_0 a1_0 a1_1 a2_0 a2_1 a2_2 a2_3 : Nat} {u1 : RowC} {u2 : RdC} {post : SgC → Prop} {A : Nat → Prop} {u0 : SigBC} {x3 : Int32} (E : EN p s m args meth c G R_Sg cc_Sg_init 6 none BG) (hR : va_P G.1 vwCl [(a1_0, .inr (2, [.ref a1_1, .int (rwS u1)])), (a1_1, .inl (G.2.1 0, rwN u1, .inl (rwF u1))), (a2_0, .inr (1, [.ref a2_1, .ref a2_2, .ref a2_3, .int (rdC u2), .int (rdK u2), .int (rdX u2), .int (rdD u2), .int (rdL u2)])), (a2_1, .inl (G.2.1 1, rdN u2, .inl (rdR u2))), (a2_2, .inl (G.2.1 1, rdN u2, .inl (rdB u2))), (a2_3, .inl (G.2.1 1, rdN u2, .inl (rdE u2)))] s.heap) (hA : ∀ q : Nat, s.heap.size ≤ q → A q) (hAB : ∀ q : Nat, A q → G.2.2.1 ≤ q) (hRn : ∀ (j : Nat) (q : Nat × va_E), ([(a1_0, .inr (2, [.ref a1_1, .int (rwS u1)])), (a1_1, .inl (G.2.1 0, rwN u1, .inl (rwF u1))), (a2_0, .inr (1, [.ref a2_1, .ref a2_2, .ref a2_3, .int (rdC u2), .int (rdK u2), .int (rdX u2), .int (rdD u2), .int (rdL u2)])), (a2_1, .inl (G.2.1 1, rdN u2, .inl (rdR u2))), (a2_2, .inl (G.2.1 1, rdN u2, .inl (rdB u2))), (a2_3, .inl (G.2.1 1, rdN u2, .inl (rdE u2)))] : va_W)[j]? = some q → ¬ A q.1) (hin : meth.name = "<init>") : ∀ (H : Heap) (locs : List Loc) (ls : Array Slot), wp_Sg_init post u0 u1 u2 x3 → va_P G.1 vwCl [(a0_0, .inr (5, [.int (sigb_0 u0), .null, .null, .null, .null, .int (sigb_5 u0), .int (sigb_6 u0)]))] H → va_D A [(a0_0, .inr (5, [.int (sigb_0 u0), .null, .null, .null, .null, .int (sigb_5 u0), .int (sigb_6 u0)]))] → va_S A s.heap H locs → lv_has ls 6 [(0, .ref a0_0), (1, .ref a1_0), (2, .ref a2_0), (3, .int x3)] → W p l e rm_Sg_init s m args below meth c H locs 0 0 (MQ below (va_Qv post (fun (u : SgC) (t : State) => ∃ (q17 q45 q73 q101 : Nat), va_P G.1 vwCl [(a0_0, .inr (5, [.int (sgK u), .ref q17, .ref q45, .ref q73, .ref q101, .int (sgO u), .int (sgP u)])), (q17, .inl (G.2.1 0, sgN u, .inl (sgL u))), (q45, .inl (G.2.1 1, sgN u, .inl (sgR u))), (q73, .inl (G.2.1 1, sgM u, .inl (sgB u))), (q101, .inl (G.2.1 1, sgM u, .inl (sgE u)))] t.heap ∧ va_D A [(a0_0, .inr (5, [.int (sgK u), .ref q17, .ref q45, .ref q73, .ref q101, .int (sgO u), .int (sgP u)])), (q17, .inl (G.2.1 0, sgN u, .inl (sgL u))), (q45, .inl (G.2.1 1, sgN u, .inl (sgR u))), (q73, .inl (G.2.1 1, sgM u, .inl (sgB u))), (q101, .inl (G.2.1 1, sgM u, .inl (sgE u)))]) A) args s 4 480 A) (F0 m 0 ls []) := by
  obtain ⟨hx, hb, hr, hts, hown, hlocks, hml, hC⟩ := id E
  have hK := hC.1
  intro H locs ls h hP hD hS hl
  unfold wp_Sg_init at h
  refine lv_aload_n hx hb d_Sg_init_0 rfl (lv_at hl 0 rfl) ?_
  refine W.objInit hx hb hown (hts _ b_209) (hts _ b_69) (hts _ b_70) rfl (by rw [hml]; exact hl.1) rfl d_Sg_init_1 (Nat.le_of_ble_eq_true rfl) (Nat.le_of_ble_eq_true rfl) ?_
  refine W.eq (g2 := F0 m 4 ls []) rfl ?_
  refine lv_aload_n hx hb d_Sg_init_4 rfl (lv_at hl 0 rfl) ?_
  refine lv_aload_n hx hb d_Sg_init_5 rfl (lv_at hl 2 rfl) ?_
  refine va_getN (D := G.1) (ci := 1) (v := .int (rdK u2)) (C := R_Rd) (T := T_Rd) (N := 8) hx hb hts i_Rd hown hK (ro_now hR hRn hS) 2 rfl rfl 4 (by decide) (nf_11 hC) (fun _ h9 => h9) rfl d_Sg_init_6 ?_
  refine va_putF (D := G.1) (ci := 5) (v := .int (rdK u2)) (ty := .int) (C := R_Sg) (T := T_Sg) (N := 7) hx hb hts i_Sg ty_Sg tyok_Sg nm_Sg hown hK hP hD hS 0 rfl rfl 0 (by decide) (hts _ b_210) (fun _ h9 => h9) rfl hin rfl (by decide +kernel) rfl rfl (Nat.le_of_ble_eq_true rfl) d_Sg_init_9 (fun H locs hP hD hS => ?_)
  have hP : va_P G.1 vwCl [(a0_0, .inr (5, [.int (rdK u2), .null, .null, .null, .null, .int (sigb_5 u0), .int (sigb_6 u0)]))] H := hP
  have hD : va_D A [(a0_0, .inr (5, [.int (rdK u2), .null, .null, .null, .null, .int (sigb_5 u0), .int (sigb_6 u0)]))] := hD
  refine lv_aload_n hx hb d_Sg_init_12 rfl (lv_at hl 0 rfl) ?_
  refine lv_aload_n hx hb d_Sg_init_13 rfl (lv_at hl 1 rfl) ?_
  refine va_getN (D := G.1) (ci := 2) (v := .int (rwS u1)) (C := R_Rw) (T := T_Rw) (N := 2) hx hb hts i_Rw hown hK (ro_now hR hRn hS) 0 rfl rfl 1 (by decide) (nf_3 hC) (fun _ h9 => h9) rfl d_Sg_init_14 ?_
  have hn9 := h.1
  have h := h.2
  refine va_newa (atype := .char) (ty := .char) (a0 := ((rwS u1).toNatClampNeg, .inl (fun _ => 0))) (N' := (rwS u1).toNatClampNeg) hx hb (hts _ b_71) rfl hK hP hD hS hA (fun _ => rfl) hn9.1 rfl (Nat.le_trans (Nat.mul_le_mul_right _ hn9.2) (by decide)) (by decide) (Nat.le_trans (Nat.add_le_add_left hn9.2 _) (by decide)) d_Sg_init_17 (fun q17 cA9 H hK9 hP hD hS => ?_)
  obtain rfl : cA9 = G.2.1 0 := ka_one hK9 0 4 rfl rfl rfl
  have hP : va_P G.1 vwCl [(a0_0, .inr (5, [.int (rdK u2), .null, .null, .null, .null, .int (sigb_5 u0), .int (sigb_6 u0)])), (q17, .inl (G.2.1 0, (rwS u1).toNatClampNeg, .inl (fun _ => 0)))] H := hP
  have hD : va_D A [(a0_0, .inr (5, [.int (rdK u2), .null, .null, .null, .null, .int (sigb_5 u0), .int (sigb_6 u0)])), (q17, .inl (G.2.1 0, (rwS u1).toNatClampNeg, .inl (fun _ => 0)))] := hD
  refine W.widen (k := 1) (n := 120) (by decide) (Nat.add_le_add_left hn9.2 _) ?_
  refine va_putF (D := G.1) (ci := 5) (v := .ref q17) (ty := (.array .char)) (C := R_Sg) (T := T_Sg) (N := 7) hx hb hts i_Sg ty_Sg tyok_Sg nm_Sg hown hK hP hD hS 0 rfl rfl 1 (by decide) (hts _ b_167) (fun _ h9 => h9) rfl hin rfl (by decide +kernel) rfl rfl (Nat.le_of_ble_eq_true rfl) d_Sg_init_19 (fun H locs hP hD hS => ?_)
  have hP : va_P G.1 vwCl [(a0_0, .inr (5, [.int (rdK u2), .ref q17, .null, .null, .null, .int (sigb_5 u0), .int (sigb_6 u0)])), (q17, .inl (G.2.1 0, (rwS u1).toNatClampNeg, .inl (fun _ => 0)))] H := hP
  have hD : va_D A [(a0_0, .inr (5, [.int (rdK u2), .ref q17, .null, .null, .null, .int (sigb_5 u0), .int (sigb_6 u0)])), (q17, .inl (G.2.1 0, (rwS u1).toNatClampNeg, .inl (fun _ => 0)))] := hD
  refine lv_aload_n hx hb d_Sg_init_22 rfl (lv_at hl 1 rfl) ?_
  refine va_getN (D := G.1) (ci := 2) (v := .ref a1_1) (C := R_Rw) (T := T_Rw) (N := 2) hx hb hts i_Rw hown hK (ro_now hR hRn hS) 0 rfl rfl 0 (by decide) (nf_0 hC) (fun _ h9 => h9) rfl d_Sg_init_23 ?_
  refine lv_iconst (v := 0) hx hb d_Sg_init_26 (by decide) ?_
  refine lv_aload_n hx hb d_Sg_init_27 rfl (lv_at hl 0 rfl) ?_
  refine va_get (D := G.1) (ci := 5) (v := .ref q17) (C := R_Sg) (T := T_Sg) (N := 7) hx hb hts i_Sg hown hK hP 0 rfl rfl 1 (by decide) (hts _ b_167) (fun _ h9 => h9) rfl d_Sg_init_28 ?_
  refine lv_iconst (v := 0) hx hb d_Sg_init_31 (by decide) ?_
  refine lv_aload_n hx hb d_Sg_init_32 rfl (lv_at hl 0 rfl) ?_
  refine va_get (D := G.1) (ci := 5) (v := .ref q17) (C := R_Sg) (T := T_Sg) (N := 7) hx hb hts i_Sg hown hK hP 0 rfl rfl 1 (by decide) (hts _ b_167) (fun _ h9 => h9) rfl d_Sg_init_33 ?_
  refine va_alen hx hb hK hP 1 0 rfl rfl (v := Int32.ofNat ((rwS u1).toNatClampNeg)) rfl d_Sg_init_36 ?_
  have hc9 := h.1
  have h := h.2
  refine ro_copy hx hb (hml.trans hl.1.symm) hown (hts _ b_211) (hts _ b_65) (hts _ b_66) (hts _ b_67) hK hP hD hS ((ro_now hR hRn hS) 1 _ rfl) 1 0 0 rfl rfl rfl rfl hc9.1.1 hc9.1.2.1 hc9.1.2.2.1 hc9.1.2.2.2.1 hc9.1.2.2.2.2 hc9.2 (Nat.le_of_ble_eq_true rfl) (Nat.le_of_ble_eq_true rfl) d_Sg_init_37 (fun H locs hP hD hS => ?_)
  have hP : va_P G.1 vwCl [(a0_0, .inr (5, [.int (rdK u2), .ref q17, .null, .null, .null, .int (sigb_5 u0), .int (sigb_6 u0)])), (q17, .inl (G.2.1 0, (rwS u1).toNatClampNeg, .inl (va_cpy (rwF u1) (fun _ => 0) (0 : Int32).toNatClampNeg (0 : Int32).toNatClampNeg (Int32.ofNat ((rwS u1).toNatClampNeg)).toNatClampNeg)))] H := hP
  have hD : va_D A [(a0_0, .inr (5, [.int (rdK u2), .ref q17, .null, .null, .null, .int (sigb_5 u0), .int (sigb_6 u0)])), (q17, .inl (G.2.1 0, (rwS u1).toNatClampNeg, .inl (va_cpy (rwF u1) (fun _ => 0) (0 : Int32).toNatClampNeg (0 : Int32).toNatClampNeg (Int32.ofNat ((rwS u1).toNatClampNeg)).toNatClampNeg)))] := hD
  refine lv_aload_n hx hb d_Sg_init_40 rfl (lv_at hl 0 rfl) ?_
  refine lv_aload_n hx hb d_Sg_init_41 rfl (lv_at hl 1 rfl) ?_
  refine va_getN (D := G.1) (ci := 2) (v := .int (rwS u1)) (C := R_Rw) (T := T_Rw) (N := 2) hx hb hts i_Rw hown hK (ro_now hR hRn hS) 0 rfl rfl 1 (by decide) (nf_3 hC) (fun _ h9 => h9) rfl d_Sg_init_42 ?_
  have hn9 := h.1
  have h := h.2
  refine va_newa (atype := .int) (ty := .int) (a0 := ((rwS u1).toNatClampNeg, .inl (fun _ => 0))) (N' := (rwS u1).toNatClampNeg) hx hb (hts _ b_165) rfl hK hP hD hS hA (fun _ => rfl) hn9.1 rfl (Nat.le_trans (Nat.mul_le_mul_right _ hn9.2) (by decide)) (by decide) (Nat.le_trans (Nat.add_le_add_left hn9.2 _) (by decide)) d_Sg_init_45 (fun q45 cA9 H hK9 hP hD hS => ?_)
  obtain rfl : cA9 = G.2.1 1 := ka_one hK9 1 4 rfl rfl rfl
  have hP : va_P G.1 vwCl [(a0_0, .inr (5, [.int (rdK u2), .ref q17, .null, .null, .null, .int (sigb_5 u0), .int (sigb_6 u0)])), (q17, .inl (G.2.1 0, (rwS u1).toNatClampNeg, .inl (va_cpy (rwF u1) (fun _ => 0) (0 : Int32).toNatClampNeg (0 : Int32).toNatClampNeg (Int32.ofNat ((rwS u1).toNatClampNeg)).toNatClampNeg))), (q45, .inl (G.2.1 1, (rwS u1).toNatClampNeg, .inl (fun _ => 0)))] H := hP
  have hD : va_D A [(a0_0, .inr (5, [.int (rdK u2), .ref q17, .null, .null, .null, .int (sigb_5 u0), .int (sigb_6 u0)])), (q17, .inl (G.2.1 0, (rwS u1).toNatClampNeg, .inl (va_cpy (rwF u1) (fun _ => 0) (0 : Int32).toNatClampNeg (0 : Int32).toNatClampNeg (Int32.ofNat ((rwS u1).toNatClampNeg)).toNatClampNeg))), (q45, .inl (G.2.1 1, (rwS u1).toNatClampNeg, .inl (fun _ => 0)))] := hD
  refine W.widen (k := 2) (n := 240) (by decide) (Nat.add_le_add_left hn9.2 _) ?_
  refine va_putF (D := G.1) (ci := 5) (v := .ref q45) (ty := (.array .int)) (C := R_Sg) (T := T_Sg) (N := 7) hx hb hts i_Sg ty_Sg tyok_Sg nm_Sg hown hK hP hD hS 0 rfl rfl 2 (by decide) (hts _ b_166) (fun _ h9 => h9) rfl hin rfl (by decide +kernel) rfl rfl (Nat.le_of_ble_eq_true rfl) d_Sg_init_47 (fun H locs hP hD hS => ?_)
  have hP : va_P G.1 vwCl [(a0_0, .inr (5, [.int (rdK u2), .ref q17, .ref q45, .null, .null, .int (sigb_5 u0), .int (sigb_6 u0)])), (q17, .inl (G.2.1 0, (rwS u1).toNatClampNeg, .inl (va_cpy (rwF u1) (fun _ => 0) (0 : Int32).toNatClampNeg (0 : Int32).toNatClampNeg (Int32.ofNat ((rwS u1).toNatClampNeg)).toNatClampNeg))), (q45, .inl (G.2.1 1, (rwS u1).toNatClampNeg, .inl (fun _ => 0)))] H := hP
  have hD : va_D A [(a0_0, .inr (5, [.int (rdK u2), .ref q17, .ref q45, .null, .null, .int (sigb_5 u0), .int (sigb_6 u0)])), (q17, .inl (G.2.1 0, (rwS u1).toNatClampNeg, .inl (va_cpy (rwF u1) (fun _ => 0) (0 : Int32).toNatClampNeg (0 : Int32).toNatClampNeg (Int32.ofNat ((rwS u1).toNatClampNeg)).toNatClampNeg))), (q45, .inl (G.2.1 1, (rwS u1).toNatClampNeg, .inl (fun _ => 0)))] := hD
  refine lv_aload_n hx hb d_Sg_init_50 rfl (lv_at hl 2 rfl) ?_
  refine va_getN (D := G.1) (ci := 1) (v := .ref a2_1) (C := R_Rd) (T := T_Rd) (N := 8) hx hb hts i_Rd hown hK (ro_now hR hRn hS) 2 rfl rfl 0 (by decide) (nf_7 hC) (fun _ h9 => h9) rfl d_Sg_init_51 ?_
  refine lv_iconst (v := 0) hx hb d_Sg_init_54 (by decide) ?_
  refine lv_aload_n hx hb d_Sg_init_55 rfl (lv_at hl 0 rfl) ?_
  refine va_get (D := G.1) (ci := 5) (v := .ref q45) (C := R_Sg) (T := T_Sg) (N := 7) hx hb hts i_Sg hown hK hP 0 rfl rfl 2 (by decide) (hts _ b_166) (fun _ h9 => h9) rfl d_Sg_init_56 ?_
  refine lv_iconst (v := 0) hx hb d_Sg_init_59 (by decide) ?_
  refine lv_aload_n hx hb d_Sg_init_60 rfl (lv_at hl 0 rfl) ?_
  refine va_get (D := G.1) (ci := 5) (v := .ref q45) (C := R_Sg) (T := T_Sg) (N := 7) hx hb hts i_Sg hown hK hP 0 rfl rfl 2 (by decide) (hts _ b_166) (fun _ h9 => h9) rfl d_Sg_init_61 ?_
  refine va_alen hx hb hK hP 2 1 rfl rfl (v := Int32.ofNat ((rwS u1).toNatClampNeg)) rfl d_Sg_init_64 ?_
  have hc9 := h.1
  have h := h.2
  refine ro_copy hx hb (hml.trans hl.1.symm) hown (hts _ b_211) (hts _ b_65) (hts _ b_66) (hts _ b_67) hK hP hD hS ((ro_now hR hRn hS) 3 _ rfl) 2 1 1 rfl rfl rfl rfl hc9.1.1 hc9.1.2.1 hc9.1.2.2.1 hc9.1.2.2.2.1 hc9.1.2.2.2.2 hc9.2 (Nat.le_of_ble_eq_true rfl) (Nat.le_of_ble_eq_true rfl) d_Sg_init_65 (fun H locs hP hD hS => ?_)
  have hP : va_P G.1 vwCl [(a0_0, .inr (5, [.int (rdK u2), .ref q17, .ref q45, .null, .null, .int (sigb_5 u0), .int (sigb_6 u0)])), (q17, .inl (G.2.1 0, (rwS u1).toNatClampNeg, .inl (va_cpy (rwF u1) (fun _ => 0) (0 : Int32).toNatClampNeg (0 : Int32).toNatClampNeg (Int32.ofNat ((rwS u1).toNatClampNeg)).toNatClampNeg))), (q45, .inl (G.2.1 1, (rwS u1).toNatClampNeg, .inl (va_cpy (rdR u2) (fun _ => 0) (0 : Int32).toNatClampNeg (0 : Int32).toNatClampNeg (Int32.ofNat ((rwS u1).toNatClampNeg)).toNatClampNeg)))] H := hP
  have hD : va_D A [(a0_0, .inr (5, [.int (rdK u2), .ref q17, .ref q45, .null, .null, .int (sigb_5 u0), .int (sigb_6 u0)])), (q17, .inl (G.2.1 0, (rwS u1).toNatClampNeg, .inl (va_cpy (rwF u1) (fun _ => 0) (0 : Int32).toNatClampNeg (0 : Int32).toNatClampNeg (Int32.ofNat ((rwS u1).toNatClampNeg)).toNatClampNeg))), (q45, .inl (G.2.1 1, (rwS u1).toNatClampNeg, .inl (va_cpy (rdR u2) (fun _ => 0) (0 : Int32).toNatClampNeg (0 : Int32).toNatClampNeg (Int32.ofNat ((rwS u1).toNatClampNeg)).toNatClampNeg)))] := hD
  refine lv_aload_n hx hb d_Sg_init_68 rfl (lv_at hl 0 rfl) ?_
  refine lv_aload_n hx hb d_Sg_init_69 rfl (lv_at hl 2 rfl) ?_
  refine va_getN (D := G.1) (ci := 1) (v := .int (rdC u2)) (C := R_Rd) (T := T_Rd) (N := 8) hx hb hts i_Rd hown hK (ro_now hR hRn hS) 2 rfl rfl 3 (by decide) (nf_10 hC) (fun _ h9 => h9) rfl d_Sg_init_70 ?_
  have hn9 := h.1
  have h := h.2
  refine va_newa (atype := .int) (ty := .int) (a0 := ((rdC u2).toNatClampNeg, .inl (fun _ => 0))) (N' := (rdC u2).toNatClampNeg) hx hb (hts _ b_165) rfl hK hP hD hS hA (fun _ => rfl) hn9.1 rfl (Nat.le_trans (Nat.mul_le_mul_right _ hn9.2) (by decide)) (by decide) (Nat.le_trans (Nat.add_le_add_left hn9.2 _) (by decide)) d_Sg_init_73 (fun q73 cA9 H hK9 hP hD hS => ?_)
  obtain rfl : cA9 = G.2.1 1 := ka_one hK9 1 4 rfl rfl rfl
  have hP : va_P G.1 vwCl [(a0_0, .inr (5, [.int (rdK u2), .ref q17, .ref q45, .null, .null, .int (sigb_5 u0), .int (sigb_6 u0)])), (q17, .inl (G.2.1 0, (rwS u1).toNatClampNeg, .inl (va_cpy (rwF u1) (fun _ => 0) (0 : Int32).toNatClampNeg (0 : Int32).toNatClampNeg (Int32.ofNat ((rwS u1).toNatClampNeg)).toNatClampNeg))), (q45, .inl (G.2.1 1, (rwS u1).toNatClampNeg, .inl (va_cpy (rdR u2) (fun _ => 0) (0 : Int32).toNatClampNeg (0 : Int32).toNatClampNeg (Int32.ofNat ((rwS u1).toNatClampNeg)).toNatClampNeg))), (q73, .inl (G.2.1 1, (rdC u2).toNatClampNeg, .inl (fun _ => 0)))] H := hP
  have hD : va_D A [(a0_0, .inr (5, [.int (rdK u2), .ref q17, .ref q45, .null, .null, .int (sigb_5 u0), .int (sigb_6 u0)])), (q17, .inl (G.2.1 0, (rwS u1).toNatClampNeg, .inl (va_cpy (rwF u1) (fun _ => 0) (0 : Int32).toNatClampNeg (0 : Int32).toNatClampNeg (Int32.ofNat ((rwS u1).toNatClampNeg)).toNatClampNeg))), (q45, .inl (G.2.1 1, (rwS u1).toNatClampNeg, .inl (va_cpy (rdR u2) (fun _ => 0) (0 : Int32).toNatClampNeg (0 : Int32).toNatClampNeg (Int32.ofNat ((rwS u1).toNatClampNeg)).toNatClampNeg))), (q73, .inl (G.2.1 1, (rdC u2).toNatClampNeg, .inl (fun _ => 0)))] := hD
  refine W.widen (k := 3) (n := 360) (by decide) (Nat.add_le_add_left hn9.2 _) ?_
  refine va_putF (D := G.1) (ci := 5) (v := .ref q73) (ty := (.array .int)) (C := R_Sg) (T := T_Sg) (N := 7) hx hb hts i_Sg ty_Sg tyok_Sg nm_Sg hown hK hP hD hS 0 rfl rfl 3 (by decide) (hts _ b_168) (fun _ h9 => h9) rfl hin rfl (by decide +kernel) rfl rfl (Nat.le_of_ble_eq_true rfl) d_Sg_init_75 (fun H locs hP hD hS => ?_)
  have hP : va_P G.1 vwCl [(a0_0, .inr (5, [.int (rdK u2), .ref q17, .ref q45, .ref q73, .null, .int (sigb_5 u0), .int (sigb_6 u0)])), (q17, .inl (G.2.1 0, (rwS u1).toNatClampNeg, .inl (va_cpy (rwF u1) (fun _ => 0) (0 : Int32).toNatClampNeg (0 : Int32).toNatClampNeg (Int32.ofNat ((rwS u1).toNatClampNeg)).toNatClampNeg))), (q45, .inl (G.2.1 1, (rwS u1).toNatClampNeg, .inl (va_cpy (rdR u2) (fun _ => 0) (0 : Int32).toNatClampNeg (0 : Int32).toNatClampNeg (Int32.ofNat ((rwS u1).toNatClampNeg)).toNatClampNeg))), (q73, .inl (G.2.1 1, (rdC u2).toNatClampNeg, .inl (fun _ => 0)))] H := hP
  have hD : va_D A [(a0_0, .inr (5, [.int (rdK u2), .ref q17, .ref q45, .ref q73, .null, .int (sigb_5 u0), .int (sigb_6 u0)])), (q17, .inl (G.2.1 0, (rwS u1).toNatClampNeg, .inl (va_cpy (rwF u1) (fun _ => 0) (0 : Int32).toNatClampNeg (0 : Int32).toNatClampNeg (Int32.ofNat ((rwS u1).toNatClampNeg)).toNatClampNeg))), (q45, .inl (G.2.1 1, (rwS u1).toNatClampNeg, .inl (va_cpy (rdR u2) (fun _ => 0) (0 : Int32).toNatClampNeg (0 : Int32).toNatClampNeg (Int32.ofNat ((rwS u1).toNatClampNeg)).toNatClampNeg))), (q73, .inl (G.2.1 1, (rdC u2).toNatClampNeg, .inl (fun _ => 0)))] := hD
  refine lv_aload_n hx hb d_Sg_init_78 rfl (lv_at hl 2 rfl) ?_
  refine va_getN (D := G.1) (ci := 1) (v := .ref a2_2) (C := R_Rd) (T := T_Rd) (N := 8) hx hb hts i_Rd hown hK (ro_now hR hRn hS) 2 rfl rfl 1 (by decide) (nf_8 hC) (fun _ h9 => h9) rfl d_Sg_init_79 ?_
  refine lv_iconst (v := 0) hx hb d_Sg_init_82 (by decide) ?_
  refine lv_aload_n hx hb d_Sg_init_83 rfl (lv_at hl 0 rfl) ?_
  refine va_get (D := G.1) (ci := 5) (v := .ref q73) (C := R_Sg) (T := T_Sg) (N := 7) hx hb hts i_Sg hown hK hP 0 rfl rfl 3 (by decide) (hts _ b_168) (fun _ h9 => h9) rfl d_Sg_init_84 ?_
  refine lv_iconst (v := 0) hx hb d_Sg_init_87 (by decide) ?_
  refine lv_aload_n hx hb d_Sg_init_88 rfl (lv_at hl 0 rfl) ?_
  refine va_get (D := G.1) (ci := 5) (v := .ref q73) (C := R_Sg) (T := T_Sg) (N := 7) hx hb hts i_Sg hown hK hP 0 rfl rfl 3 (by decide) (hts _ b_168) (fun _ h9 => h9) rfl d_Sg_init_89 ?_
  refine va_alen hx hb hK hP 3 1 rfl rfl (v := Int32.ofNat ((rdC u2).toNatClampNeg)) rfl d_Sg_init_92 ?_
  have hc9 := h.1
  have h := h.2
  refine ro_copy hx hb (hml.trans hl.1.symm) hown (hts _ b_211) (hts _ b_65) (hts _ b_66) (hts _ b_67) hK hP hD hS ((ro_now hR hRn hS) 4 _ rfl) 3 1 1 rfl rfl rfl rfl hc9.1.1 hc9.1.2.1 hc9.1.2.2.1 hc9.1.2.2.2.1 hc9.1.2.2.2.2 hc9.2 (Nat.le_of_ble_eq_true rfl) (Nat.le_of_ble_eq_true rfl) d_Sg_init_93 (fun H locs hP hD hS => ?_)
  have hP : va_P G.1 vwCl [(a0_0, .inr (5, [.int (rdK u2), .ref q17, .ref q45, .ref q73, .null, .int (sigb_5 u0), .int (sigb_6 u0)])), (q17, .inl (G.2.1 0, (rwS u1).toNatClampNeg, .inl (va_cpy (rwF u1) (fun _ => 0) (0 : Int32).toNatClampNeg (0 : Int32).toNatClampNeg (Int32.ofNat ((rwS u1).toNatClampNeg)).toNatClampNeg))), (q45, .inl (G.2.1 1, (rwS u1).toNatClampNeg, .inl (va_cpy (rdR u2) (fun _ => 0) (0 : Int32).toNatClampNeg (0 : Int32).toNatClampNeg (Int32.ofNat ((rwS u1).toNatClampNeg)).toNatClampNeg))), (q73, .inl (G.2.1 1, (rdC u2).toNatClampNeg, .inl (va_cpy (rdB u2) (fun _ => 0) (0 : Int32).toNatClampNeg (0 : Int32).toNatClampNeg (Int32.ofNat ((rdC u2).toNatClampNeg)).toNatClampNeg)))] H := hP
  have hD : va_D A [(a0_0, .inr (5, [.int (rdK u2), .ref q17, .ref q45, .ref q73, .null, .int (sigb_5 u0), .int (sigb_6 u0)])), (q17, .inl (G.2.1 0, (rwS u1).toNatClampNeg, .inl (va_cpy (rwF u1) (fun _ => 0) (0 : Int32).toNatClampNeg (0 : Int32).toNatClampNeg (Int32.ofNat ((rwS u1).toNatClampNeg)).toNatClampNeg))), (q45, .inl (G.2.1 1, (rwS u1).toNatClampNeg, .inl (va_cpy (rdR u2) (fun _ => 0) (0 : Int32).toNatClampNeg (0 : Int32).toNatClampNeg (Int32.ofNat ((rwS u1).toNatClampNeg)).toNatClampNeg))), (q73, .inl (G.2.1 1, (rdC u2).toNatClampNeg, .inl (va_cpy (rdB u2) (fun _ => 0) (0 : Int32).toNatClampNeg (0 : Int32).toNatClampNeg (Int32.ofNat ((rdC u2).toNatClampNeg)).toNatClampNeg)))] := hD
  refine lv_aload_n hx hb d_Sg_init_96 rfl (lv_at hl 0 rfl) ?_
  refine lv_aload_n hx hb d_Sg_init_97 rfl (lv_at hl 2 rfl) ?_
  refine va_getN (D := G.1) (ci := 1) (v := .int (rdC u2)) (C := R_Rd) (T := T_Rd) (N := 8) hx hb hts i_Rd hown hK (ro_now hR hRn hS) 2 rfl rfl 3 (by decide) (nf_10 hC) (fun _ h9 => h9) rfl d_Sg_init_98 ?_
  have hn9 := h.1
  have h := h.2
  refine va_newa (atype := .int) (ty := .int) (a0 := ((rdC u2).toNatClampNeg, .inl (fun _ => 0))) (N' := (rdC u2).toNatClampNeg) hx hb (hts _ b_165) rfl hK hP hD hS hA (fun _ => rfl) hn9.1 rfl (Nat.le_trans (Nat.mul_le_mul_right _ hn9.2) (by decide)) (by decide) (Nat.le_trans (Nat.add_le_add_left hn9.2 _) (by decide)) d_Sg_init_101 (fun q101 cA9 H hK9 hP hD hS => ?_)
  obtain rfl : cA9 = G.2.1 1 := ka_one hK9 1 4 rfl rfl rfl
  have hP : va_P G.1 vwCl [(a0_0, .inr (5, [.int (rdK u2), .ref q17, .ref q45, .ref q73, .null, .int (sigb_5 u0), .int (sigb_6 u0)])), (q17, .inl (G.2.1 0, (rwS u1).toNatClampNeg, .inl (va_cpy (rwF u1) (fun _ => 0) (0 : Int32).toNatClampNeg (0 : Int32).toNatClampNeg (Int32.ofNat ((rwS u1).toNatClampNeg)).toNatClampNeg))), (q45, .inl (G.2.1 1, (rwS u1).toNatClampNeg, .inl (va_cpy (rdR u2) (fun _ => 0) (0 : Int32).toNatClampNeg (0 : Int32).toNatClampNeg (Int32.ofNat ((rwS u1).toNatClampNeg)).toNatClampNeg))), (q73, .inl (G.2.1 1, (rdC u2).toNatClampNeg, .inl (va_cpy (rdB u2) (fun _ => 0) (0 : Int32).toNatClampNeg (0 : Int32).toNatClampNeg (Int32.ofNat ((rdC u2).toNatClampNeg)).toNatClampNeg))), (q101, .inl (G.2.1 1, (rdC u2).toNatClampNeg, .inl (fun _ => 0)))] H := hP
  have hD : va_D A [(a0_0, .inr (5, [.int (rdK u2), .ref q17, .ref q45, .ref q73, .null, .int (sigb_5 u0), .int (sigb_6 u0)])), (q17, .inl (G.2.1 0, (rwS u1).toNatClampNeg, .inl (va_cpy (rwF u1) (fun _ => 0) (0 : Int32).toNatClampNeg (0 : Int32).toNatClampNeg (Int32.ofNat ((rwS u1).toNatClampNeg)).toNatClampNeg))), (q45, .inl (G.2.1 1, (rwS u1).toNatClampNeg, .inl (va_cpy (rdR u2) (fun _ => 0) (0 : Int32).toNatClampNeg (0 : Int32).toNatClampNeg (Int32.ofNat ((rwS u1).toNatClampNeg)).toNatClampNeg))), (q73, .inl (G.2.1 1, (rdC u2).toNatClampNeg, .inl (va_cpy (rdB u2) (fun _ => 0) (0 : Int32).toNatClampNeg (0 : Int32).toNatClampNeg (Int32.ofNat ((rdC u2).toNatClampNeg)).toNatClampNeg))), (q101, .inl (G.2.1 1, (rdC u2).toNatClampNeg, .inl (fun _ => 0)))] := hD
  refine W.widen (k := 4) (n := 480) (by decide) (Nat.add_le_add_left hn9.2 _) ?_
  refine va_putF (D := G.1) (ci := 5) (v := .ref q101) (ty := (.array .int)) (C := R_Sg) (T := T_Sg) (N := 7) hx hb hts i_Sg ty_Sg tyok_Sg nm_Sg hown hK hP hD hS 0 rfl rfl 4 (by decide) (hts _ b_174) (fun _ h9 => h9) rfl hin rfl (by decide +kernel) rfl rfl (Nat.le_of_ble_eq_true rfl) d_Sg_init_103 (fun H locs hP hD hS => ?_)
  have hP : va_P G.1 vwCl [(a0_0, .inr (5, [.int (rdK u2), .ref q17, .ref q45, .ref q73, .ref q101, .int (sigb_5 u0), .int (sigb_6 u0)])), (q17, .inl (G.2.1 0, (rwS u1).toNatClampNeg, .inl (va_cpy (rwF u1) (fun _ => 0) (0 : Int32).toNatClampNeg (0 : Int32).toNatClampNeg (Int32.ofNat ((rwS u1).toNatClampNeg)).toNatClampNeg))), (q45, .inl (G.2.1 1, (rwS u1).toNatClampNeg, .inl (va_cpy (rdR u2) (fun _ => 0) (0 : Int32).toNatClampNeg (0 : Int32).toNatClampNeg (Int32.ofNat ((rwS u1).toNatClampNeg)).toNatClampNeg))), (q73, .inl (G.2.1 1, (rdC u2).toNatClampNeg, .inl (va_cpy (rdB u2) (fun _ => 0) (0 : Int32).toNatClampNeg (0 : Int32).toNatClampNeg (Int32.ofNat ((rdC u2).toNatClampNeg)).toNatClampNeg))), (q101, .inl (G.2.1 1, (rdC u2).toNatClampNeg, .inl (fun _ => 0)))] H := hP
  have hD : va_D A [(a0_0, .inr (5, [.int (rdK u2), .ref q17, .ref q45, .ref q73, .ref q101, .int (sigb_5 u0), .int (sigb_6 u0)])), (q17, .inl (G.2.1 0, (rwS u1).toNatClampNeg, .inl (va_cpy (rwF u1) (fun _ => 0) (0 : Int32).toNatClampNeg (0 : Int32).toNatClampNeg (Int32.ofNat ((rwS u1).toNatClampNeg)).toNatClampNeg))), (q45, .inl (G.2.1 1, (rwS u1).toNatClampNeg, .inl (va_cpy (rdR u2) (fun _ => 0) (0 : Int32).toNatClampNeg (0 : Int32).toNatClampNeg (Int32.ofNat ((rwS u1).toNatClampNeg)).toNatClampNeg))), (q73, .inl (G.2.1 1, (rdC u2).toNatClampNeg, .inl (va_cpy (rdB u2) (fun _ => 0) (0 : Int32).toNatClampNeg (0 : Int32).toNatClampNeg (Int32.ofNat ((rdC u2).toNatClampNeg)).toNatClampNeg))), (q101, .inl (G.2.1 1, (rdC u2).toNatClampNeg, .inl (fun _ => 0)))] := hD
  refine lv_aload_n hx hb d_Sg_init_106 rfl (lv_at hl 2 rfl) ?_
  refine va_getN (D := G.1) (ci := 1) (v := .ref a2_3) (C := R_Rd) (T := T_Rd) (N := 8) hx hb hts i_Rd hown hK (ro_now hR hRn hS) 2 rfl rfl 2 (by decide) (nf_9 hC) (fun _ h9 => h9) rfl d_Sg_init_107 ?_
  refine lv_iconst (v := 0) hx hb d_Sg_init_110 (by decide) ?_
  refine lv_aload_n hx hb d_Sg_init_111 rfl (lv_at hl 0 rfl) ?_
  refine va_get (D := G.1) (ci := 5) (v := .ref q101) (C := R_Sg) (T := T_Sg) (N := 7) hx hb hts i_Sg hown hK hP 0 rfl rfl 4 (by decide) (hts _ b_174) (fun _ h9 => h9) rfl d_Sg_init_112 ?_
  refine lv_iconst (v := 0) hx hb d_Sg_init_115 (by decide) ?_
  refine lv_aload_n hx hb d_Sg_init_116 rfl (lv_at hl 0 rfl) ?_
  refine va_get (D := G.1) (ci := 5) (v := .ref q101) (C := R_Sg) (T := T_Sg) (N := 7) hx hb hts i_Sg hown hK hP 0 rfl rfl 4 (by decide) (hts _ b_174) (fun _ h9 => h9) rfl d_Sg_init_117 ?_
  refine va_alen hx hb hK hP 4 1 rfl rfl (v := Int32.ofNat ((rdC u2).toNatClampNeg)) rfl d_Sg_init_120 ?_
  have hc9 := h.1
  have h := h.2
  refine ro_copy hx hb (hml.trans hl.1.symm) hown (hts _ b_211) (hts _ b_65) (hts _ b_66) (hts _ b_67) hK hP hD hS ((ro_now hR hRn hS) 5 _ rfl) 4 1 1 rfl rfl rfl rfl hc9.1.1 hc9.1.2.1 hc9.1.2.2.1 hc9.1.2.2.2.1 hc9.1.2.2.2.2 hc9.2 (Nat.le_of_ble_eq_true rfl) (Nat.le_of_ble_eq_true rfl) d_Sg_init_121 (fun H locs hP hD hS => ?_)
  have hP : va_P G.1 vwCl [(a0_0, .inr (5, [.int (rdK u2), .ref q17, .ref q45, .ref q73, .ref q101, .int (sigb_5 u0), .int (sigb_6 u0)])), (q17, .inl (G.2.1 0, (rwS u1).toNatClampNeg, .inl (va_cpy (rwF u1) (fun _ => 0) (0 : Int32).toNatClampNeg (0 : Int32).toNatClampNeg (Int32.ofNat ((rwS u1).toNatClampNeg)).toNatClampNeg))), (q45, .inl (G.2.1 1, (rwS u1).toNatClampNeg, .inl (va_cpy (rdR u2) (fun _ => 0) (0 : Int32).toNatClampNeg (0 : Int32).toNatClampNeg (Int32.ofNat ((rwS u1).toNatClampNeg)).toNatClampNeg))), (q73, .inl (G.2.1 1, (rdC u2).toNatClampNeg, .inl (va_cpy (rdB u2) (fun _ => 0) (0 : Int32).toNatClampNeg (0 : Int32).toNatClampNeg (Int32.ofNat ((rdC u2).toNatClampNeg)).toNatClampNeg))), (q101, .inl (G.2.1 1, (rdC u2).toNatClampNeg, .inl (va_cpy (rdE u2) (fun _ => 0) (0 : Int32).toNatClampNeg (0 : Int32).toNatClampNeg (Int32.ofNat ((rdC u2).toNatClampNeg)).toNatClampNeg)))] H := hP
  have hD : va_D A [(a0_0, .inr (5, [.int (rdK u2), .ref q17, .ref q45, .ref q73, .ref q101, .int (sigb_5 u0), .int (sigb_6 u0)])), (q17, .inl (G.2.1 0, (rwS u1).toNatClampNeg, .inl (va_cpy (rwF u1) (fun _ => 0) (0 : Int32).toNatClampNeg (0 : Int32).toNatClampNeg (Int32.ofNat ((rwS u1).toNatClampNeg)).toNatClampNeg))), (q45, .inl (G.2.1 1, (rwS u1).toNatClampNeg, .inl (va_cpy (rdR u2) (fun _ => 0) (0 : Int32).toNatClampNeg (0 : Int32).toNatClampNeg (Int32.ofNat ((rwS u1).toNatClampNeg)).toNatClampNeg))), (q73, .inl (G.2.1 1, (rdC u2).toNatClampNeg, .inl (va_cpy (rdB u2) (fun _ => 0) (0 : Int32).toNatClampNeg (0 : Int32).toNatClampNeg (Int32.ofNat ((rdC u2).toNatClampNeg)).toNatClampNeg))), (q101, .inl (G.2.1 1, (rdC u2).toNatClampNeg, .inl (va_cpy (rdE u2) (fun _ => 0) (0 : Int32).toNatClampNeg (0 : Int32).toNatClampNeg (Int32.ofNat ((rdC u2).toNatClampNeg)).toNatClampNeg)))] := hD
  refine lv_aload_n hx hb d_Sg_init_124 rfl (lv_at hl 0 rfl) ?_
  refine lv_iload_n hx hb d_Sg_init_125 rfl (lv_at hl 3 rfl) ?_
  refine va_put (D := G.1) (ci := 5) (v := .int x3) (ty := .int) (C := R_Sg) (T := T_Sg) (N := 7) hx hb hts i_Sg ty_Sg tyok_Sg nm_Sg hown hK hP hD hS 0 rfl rfl 6 (by decide) (hts _ b_212) (fun _ h9 => h9) rfl (by decide +kernel) rfl rfl (Nat.le_of_ble_eq_true rfl) d_Sg_init_126 (fun H locs hP hD hS => ?_)
  have hP : va_P G.1 vwCl [(a0_0, .inr (5, [.int (rdK u2), .ref q17, .ref q45, .ref q73, .ref q101, .int (sigb_5 u0), .int x3])), (q17, .inl (G.2.1 0, (rwS u1).toNatClampNeg, .inl (va_cpy (rwF u1) (fun _ => 0) (0 : Int32).toNatClampNeg (0 : Int32).toNatClampNeg (Int32.ofNat ((rwS u1).toNatClampNeg)).toNatClampNeg))), (q45, .inl (G.2.1 1, (rwS u1).toNatClampNeg, .inl (va_cpy (rdR u2) (fun _ => 0) (0 : Int32).toNatClampNeg (0 : Int32).toNatClampNeg (Int32.ofNat ((rwS u1).toNatClampNeg)).toNatClampNeg))), (q73, .inl (G.2.1 1, (rdC u2).toNatClampNeg, .inl (va_cpy (rdB u2) (fun _ => 0) (0 : Int32).toNatClampNeg (0 : Int32).toNatClampNeg (Int32.ofNat ((rdC u2).toNatClampNeg)).toNatClampNeg))), (q101, .inl (G.2.1 1, (rdC u2).toNatClampNeg, .inl (va_cpy (rdE u2) (fun _ => 0) (0 : Int32).toNatClampNeg (0 : Int32).toNatClampNeg (Int32.ofNat ((rdC u2).toNatClampNeg)).toNatClampNeg)))] H := hP
  have hD : va_D A [(a0_0, .inr (5, [.int (rdK u2), .ref q17, .ref q45, .ref q73, .ref q101, .int (sigb_5 u0), .int x3])), (q17, .inl (G.2.1 0, (rwS u1).toNatClampNeg, .inl (va_cpy (rwF u1) (fun _ => 0) (0 : Int32).toNatClampNeg (0 : Int32).toNatClampNeg (Int32.ofNat ((rwS u1).toNatClampNeg)).toNatClampNeg))), (q45, .inl (G.2.1 1, (rwS u1).toNatClampNeg, .inl (va_cpy (rdR u2) (fun _ => 0) (0 : Int32).toNatClampNeg (0 : Int32).toNatClampNeg (Int32.ofNat ((rwS u1).toNatClampNeg)).toNatClampNeg))), (q73, .inl (G.2.1 1, (rdC u2).toNatClampNeg, .inl (va_cpy (rdB u2) (fun _ => 0) (0 : Int32).toNatClampNeg (0 : Int32).toNatClampNeg (Int32.ofNat ((rdC u2).toNatClampNeg)).toNatClampNeg))), (q101, .inl (G.2.1 1, (rdC u2).toNatClampNeg, .inl (va_cpy (rdE u2) (fun _ => 0) (0 : Int32).toNatClampNeg (0 : Int32).toNatClampNeg (Int32.ofNat ((rdC u2).toNatClampNeg)).toNatClampNeg)))] := hD
  refine lv_iconst (v := 0) hx hb d_Sg_init_129 (by decide) ?_
  refine lv_istore (lv' := [(4, .int 0), (0, .ref a0_0), (1, .ref a1_0), (2, .ref a2_0), (3, .int x3)]) hx hb d_Sg_init_130 hl (by decide) rfl (fun ls hl => ?_)
  refine lv_iconst (v := 0) hx hb d_Sg_init_132 (by decide) ?_
  refine lv_istore (lv' := [(5, .int 0), (4, .int 0), (0, .ref a0_0), (1, .ref a1_0), (2, .ref a2_0), (3, .int x3)]) hx hb d_Sg_init_133 hl (by decide) rfl (fun ls hl => ?_)
  obtain ⟨n, h⟩ := h
  exact t_Sg_init_135 E hR hA hAB hRn hin  n _ _ _ _ _ _ _ _ _ _ h hP hD hS (lv_sub hl [2, 1, 0] rfl)
set_option maxHeartbeats 4000000 in
set_option maxRecDepth 100000 in
theorem c_Sg_init (l : Launch) (G : GX) (a0_0 a1_0 a1_1 a2_0 a2_1 a2_2 a2_3 : Nat) (u0 : SigBC) (u1 : RowC) (u2 : RdC) (x3 : Int32) (sz : Nat) (post : SgC → Prop) (h : wp_Sg_init post u0 u1 u2 x3) : Met l y_Sg_init wc_Sg_init rm_Sg_init (mW G [.ref a0_0, .ref a1_0, .ref a2_0, .int x3] sz [(a0_0, .inr (5, [.int (sigb_0 u0), .null, .null, .null, .null, .int (sigb_5 u0), .int (sigb_6 u0)]))] [(a1_0, .inr (2, [.ref a1_1, .int (rwS u1)])), (a1_1, .inl (G.2.1 0, rwN u1, .inl (rwF u1))), (a2_0, .inr (1, [.ref a2_1, .ref a2_2, .ref a2_3, .int (rdC u2), .int (rdK u2), .int (rdX u2), .int (rdD u2), .int (rdL u2)])), (a2_1, .inl (G.2.1 1, rdN u2, .inl (rdR u2))), (a2_2, .inl (G.2.1 1, rdN u2, .inl (rdB u2))), (a2_3, .inl (G.2.1 1, rdN u2, .inl (rdE u2)))]) (va_Qv post (fun (u : SgC) (t : State) => ∃ (q17 q45 q73 q101 : Nat), va_P G.1 vwCl [(a0_0, .inr (5, [.int (sgK u), .ref q17, .ref q45, .ref q73, .ref q101, .int (sgO u), .int (sgP u)])), (q17, .inl (G.2.1 0, sgN u, .inl (sgL u))), (q45, .inl (G.2.1 1, sgN u, .inl (sgR u))), (q73, .inl (G.2.1 1, sgM u, .inl (sgB u))), (q101, .inl (G.2.1 1, sgM u, .inl (sgE u)))] t.heap ∧ va_D (va_A [(a0_0, .inr (5, [.int (sigb_0 u0), .null, .null, .null, .null, .int (sigb_5 u0), .int (sigb_6 u0)]))] sz) [(a0_0, .inr (5, [.int (sgK u), .ref q17, .ref q45, .ref q73, .ref q101, .int (sgO u), .int (sgP u)])), (q17, .inl (G.2.1 0, sgN u, .inl (sgL u))), (q45, .inl (G.2.1 1, sgN u, .inl (sgR u))), (q73, .inl (G.2.1 1, sgM u, .inl (sgB u))), (q101, .inl (G.2.1 1, sgM u, .inl (sgE u)))]) (va_A [(a0_0, .inr (5, [.int (sigb_0 u0), .null, .null, .null, .null, .int (sigb_5 u0), .int (sigb_6 u0)]))] sz)) 4 480 (va_A [(a0_0, .inr (5, [.int (sigb_0 u0), .null, .null, .null, .null, .int (sigb_5 u0), .int (sigb_6 u0)]))] sz) := by
  refine Met.ofW (cc := cc_Sg_init) (maxL := 6) (ret := none) (by decide) rfl ?_
  intro p e s m args below meth c s₁ B hml hv
  obtain ⟨rfl, hC, hsz, hP, hD0, hR, hap⟩ := hv
  have E : EN p s m ([.ref a0_0, .ref a1_0, .ref a2_0, .int x3] : List Value).toArray meth c G R_Sg cc_Sg_init 6 none BG := ⟨B.exec, B.bytes, B.returns, fun w h => atoms_spec (ws := wc_Sg_init) B.pre w (List.mem_cons_of_mem _ h), findClass_of_methodNamed B.named, B.notSynchronized, hml, hC⟩
  have hin : meth.name = "<init>" := (name_of_methodNamed B.named B.method).1
  subst hsz
  have hD := hD0.self (sz := s.heap.size)
  have hRn := mw_notA hR hap
  have hAB := mw_AB hD0 hC
  have hA : ∀ q : Nat, s.heap.size ≤ q → va_A [(a0_0, .inr (5, [.int (sigb_0 u0), .null, .null, .null, .null, .int (sigb_5 u0), .int (sigb_6 u0)]))] s.heap.size q := fun q z => Or.inr z
  generalize va_A [(a0_0, .inr (5, [.int (sigb_0 u0), .null, .null, .null, .null, .int (sigb_5 u0), .int (sigb_6 u0)]))] s.heap.size = A at hD hRn hAB hA ⊢
  have hl := lv_entry ([.ref a0_0, .ref a1_0, .ref a2_0, .int x3]) (n := 6) (Nat.le_of_ble_eq_true rfl)
  rw [lg_entry_eq]
  generalize (lg_sl ([.ref a0_0, .ref a1_0, .ref a2_0, .int x3]) ++ List.replicate (6 - (lg_sl ([.ref a0_0, .ref a1_0, .ref a2_0, .int x3])).length) Slot.unset).toArray = ls at hl ⊢
  have hl : lv_has ls 6 [(0, .ref a0_0), (1, .ref a1_0), (2, .ref a2_0), (3, .int x3)] := hl
  exact t_Sg_init_in E hR hA hAB hRn hin _ _ _ h hP hD va_S.rf hl
set_option maxHeartbeats 4000000 in
set_option maxRecDepth 100000 in
theorem t_becomes_130 {p : Program} {l : Launch} {e : Env} {s : State} {m : MethodId} {args : Array Value} {below : List Frame} {meth : Method} {c : Code} {G : GX} {a0_0 a0_1 a0_2 a0_3 a0_4 a1_0 a1_1 a1_2 a1_3 a1_4 : Nat} {u0 : SgC} {u1 : SgC} {post : Int32 → Prop} (E : EN p s m args meth c G R_Fo cc_Fo_becomes 8 (some .boolean) BG) (hR : va_P G.1 vwCl [(a0_0, .inr (5, [.int (sgK u0), .ref a0_1, .ref a0_2, .ref a0_3, .ref a0_4, .int (sgO u0), .int (sgP u0)])), (a0_1, .inl (G.2.1 0, sgN u0, .inl (sgL u0))), (a0_2, .inl (G.2.1 1, sgN u0, .inl (sgR u0))), (a0_3, .inl (G.2.1 1, sgM u0, .inl (sgB u0))), (a0_4, .inl (G.2.1 1, sgM u0, .inl (sgE u0))), (a1_0, .inr (5, [.int (sgK u1), .ref a1_1, .ref a1_2, .ref a1_3, .ref a1_4, .int (sgO u1), .int (sgP u1)])), (a1_1, .inl (G.2.1 0, sgN u1, .inl (sgL u1))), (a1_2, .inl (G.2.1 1, sgN u1, .inl (sgR u1))), (a1_3, .inl (G.2.1 1, sgM u1, .inl (sgB u1))), (a1_4, .inl (G.2.1 1, sgM u1, .inl (sgE u1)))] s.heap) {K0 : Int32 → Int32 → Int32 → Prop} (hK0 : ∀ (y2 : Int32) (y3 : Int32) (y4 : Int32) (ls : Array Slot), K0 y2 y3 y4 → lv_has ls 8 [(0, .ref a0_0), (1, .ref a1_0), (2, .int y2), (3, .int y3), (4, .int y4)] → W p l e rm_becomes s m args below meth c s.heap [] 0 0 (MQ below (vp_Si post) args s 0 0 (fun _ => False)) (F0 m 7 ls [])) : ∀ (y2 : Int32) (y3 : Int32) (y4 : Int32) (ls : Array Slot), w_becomes_130 post u0 u1 K0 y2 y3 y4 → lv_has ls 8 [(0, .ref a0_0), (1, .ref a1_0), (2, .int y2), (3, .int y3), (4, .int y4)] → W p l e rm_becomes s m args below meth c s.heap [] 0 0 (MQ below (vp_Si post) args s 0 0 (fun _ => False)) (F0 m 130 ls []) := by
  obtain ⟨hx, hb, hr, hts, hown, hlocks, hml, hC⟩ := id E
  have hK := hC.1
  intro y2 y3 y4  ls h hl
  unfold w_becomes_130 at h
  refine lv_iinc (v := y4 + 1) (lv' := [(4, .int (y4 + 1)), (0, .ref a0_0), (1, .ref a1_0), (2, .int y2), (3, .int y3)]) hx hb d_Fo_becomes_130 hl (k := 4) rfl rfl (by decide) rfl (fun ls hl => ?_)
  refine lv_goto (tgt := 7) hx hb d_Fo_becomes_133 (by decide) ?_
  exact hK0 _ _ _ _ h (lv_sub hl [1, 2, 3, 4, 0] rfl)
set_option maxHeartbeats 4000000 in
set_option maxRecDepth 100000 in
theorem t_becomes_102 {p : Program} {l : Launch} {e : Env} {s : State} {m : MethodId} {args : Array Value} {below : List Frame} {meth : Method} {c : Code} {G : GX} {a0_0 a0_1 a0_2 a0_3 a0_4 a1_0 a1_1 a1_2 a1_3 a1_4 : Nat} {u0 : SgC} {u1 : SgC} {post : Int32 → Prop} (E : EN p s m args meth c G R_Fo cc_Fo_becomes 8 (some .boolean) BG) (hR : va_P G.1 vwCl [(a0_0, .inr (5, [.int (sgK u0), .ref a0_1, .ref a0_2, .ref a0_3, .ref a0_4, .int (sgO u0), .int (sgP u0)])), (a0_1, .inl (G.2.1 0, sgN u0, .inl (sgL u0))), (a0_2, .inl (G.2.1 1, sgN u0, .inl (sgR u0))), (a0_3, .inl (G.2.1 1, sgM u0, .inl (sgB u0))), (a0_4, .inl (G.2.1 1, sgM u0, .inl (sgE u0))), (a1_0, .inr (5, [.int (sgK u1), .ref a1_1, .ref a1_2, .ref a1_3, .ref a1_4, .int (sgO u1), .int (sgP u1)])), (a1_1, .inl (G.2.1 0, sgN u1, .inl (sgL u1))), (a1_2, .inl (G.2.1 1, sgN u1, .inl (sgR u1))), (a1_3, .inl (G.2.1 1, sgM u1, .inl (sgB u1))), (a1_4, .inl (G.2.1 1, sgM u1, .inl (sgE u1)))] s.heap) {K0 : Int32 → Int32 → Int32 → Prop} (hK0 : ∀ (y2 : Int32) (y3 : Int32) (y4 : Int32) (ls : Array Slot), K0 y2 y3 y4 → lv_has ls 8 [(0, .ref a0_0), (1, .ref a1_0), (2, .int y2), (3, .int y3), (4, .int y4)] → W p l e rm_becomes s m args below meth c s.heap [] 0 0 (MQ below (vp_Si post) args s 0 0 (fun _ => False)) (F0 m 7 ls [])) : ∀ (y2 : Int32) (y3 : Int32) (y4 : Int32) (y6 : Int32) (z0 : Int32) (ls : Array Slot), w_becomes_102 post u0 u1 K0 y2 y3 y4 y6 z0 → lv_has ls 8 [(0, .ref a0_0), (1, .ref a1_0), (2, .int y2), (3, .int y3), (4, .int y4), (6, .int y6)] → W p l e rm_becomes s m args below meth c s.heap [] 0 0 (MQ below (vp_Si post) args s 0 0 (fun _ => False)) (F0 m 102 ls [.int z0]) := by
  obtain ⟨hx, hb, hr, hts, hown, hlocks, hml, hC⟩ := id E
  have hK := hC.1
  intro y2 y3 y4 y6 z0  ls h hl
  unfold w_becomes_102 at h
  refine lv_istore (lv' := [(7, .int z0), (0, .ref a0_0), (1, .ref a1_0), (2, .int y2), (3, .int y3), (4, .int y4), (6, .int y6)]) hx hb d_Fo_becomes_102 hl (by decide) rfl (fun ls hl => ?_)
  refine lv_aload_n hx hb d_Fo_becomes_104 rfl (lv_at hl 1 rfl) ?_
  refine lv_iload hx hb d_Fo_becomes_105 (lv_at hl 5 rfl) ?_
  have hRc : va_P G.1 vwCl [(a0_0, .inr (5, [.int (sgK u0), .ref a0_1, .ref a0_2, .ref a0_3, .ref a0_4, .int (sgO u0), .int (sgP u0)])), (a0_1, .inl (G.2.1 0, sgN u0, .inl (sgL u0))), (a0_2, .inl (G.2.1 1, sgN u0, .inl (sgR u0))), (a0_3, .inl (G.2.1 1, sgM u0, .inl (sgB u0))), (a0_4, .inl (G.2.1 1, sgM u0, .inl (sgE u0)))] s.heap := (hR.sub (ws' := [(a0_0, .inr (5, [.int (sgK u0), .ref a0_1, .ref a0_2, .ref a0_3, .ref a0_4, .int (sgO u0), .int (sgP u0)])), (a0_1, .inl (G.2.1 0, sgN u0, .inl (sgL u0))), (a0_2, .inl (G.2.1 1, sgN u0, .inl (sgR u0))), (a0_3, .inl (G.2.1 1, sgM u0, .inl (sgB u0))), (a0_4, .inl (G.2.1 1, sgM u0, .inl (sgE u0)))]) [0, 1, 2, 3, 4] rfl)
  refine vp_callSi (va_runV (As := [.int y4]) (rest := []) ⟨hx, hb, hml, hown, hts⟩ (c_Sg_letterAt l G a0_0 a0_1 a0_2 a0_3 a0_4 u0 y4 _ h) (cwV 1 hts (gwV b_227 b_194 b_195 b_173 b_192) rfl rfl rfl hd_Sg_letterAt ⟨Nat.le_of_ble_eq_true rfl, Nat.le_of_ble_eq_true rfl⟩) ⟨mP_blind, va_recv hK hRc (ci := 5) (q0 := 0) rfl rfl, fun U hU hW => ⟨rfl, hC.to0 hW hU, by rw [hU]; exact hRc⟩⟩ rfl rfl hl.1 rfl (lv_room (Nat.le_of_ble_eq_true rfl)) d_Fo_becomes_107 ⟨Nat.le_of_ble_eq_true rfl, Nat.le_of_ble_eq_true rfl⟩).run (fun r9 h => ?_)
  refine lv_aload_n hx hb d_Fo_becomes_110 rfl (lv_at hl 2 rfl) ?_
  refine lv_iload_n hx hb d_Fo_becomes_111 rfl (lv_at hl 3 rfl) ?_
  have hRc : va_P G.1 vwCl [(a1_0, .inr (5, [.int (sgK u1), .ref a1_1, .ref a1_2, .ref a1_3, .ref a1_4, .int (sgO u1), .int (sgP u1)])), (a1_1, .inl (G.2.1 0, sgN u1, .inl (sgL u1))), (a1_2, .inl (G.2.1 1, sgN u1, .inl (sgR u1))), (a1_3, .inl (G.2.1 1, sgM u1, .inl (sgB u1))), (a1_4, .inl (G.2.1 1, sgM u1, .inl (sgE u1)))] s.heap := (hR.sub (ws' := [(a1_0, .inr (5, [.int (sgK u1), .ref a1_1, .ref a1_2, .ref a1_3, .ref a1_4, .int (sgO u1), .int (sgP u1)])), (a1_1, .inl (G.2.1 0, sgN u1, .inl (sgL u1))), (a1_2, .inl (G.2.1 1, sgN u1, .inl (sgR u1))), (a1_3, .inl (G.2.1 1, sgM u1, .inl (sgB u1))), (a1_4, .inl (G.2.1 1, sgM u1, .inl (sgE u1)))]) [5, 6, 7, 8, 9] rfl)
  refine vp_callSi (va_runV (As := [.int y2]) (rest := [.int r9]) ⟨hx, hb, hml, hown, hts⟩ (c_Sg_letterAt l G a1_0 a1_1 a1_2 a1_3 a1_4 u1 y2 _ h) (cwV 1 hts (gwV b_227 b_194 b_195 b_173 b_192) rfl rfl rfl hd_Sg_letterAt ⟨Nat.le_of_ble_eq_true rfl, Nat.le_of_ble_eq_true rfl⟩) ⟨mP_blind, va_recv hK hRc (ci := 5) (q0 := 0) rfl rfl, fun U hU hW => ⟨rfl, hC.to0 hW hU, by rw [hU]; exact hRc⟩⟩ rfl rfl hl.1 rfl (lv_room (Nat.le_of_ble_eq_true rfl)) d_Fo_becomes_112 ⟨Nat.le_of_ble_eq_true rfl, Nat.le_of_ble_eq_true rfl⟩).run (fun r10 h => ?_)
  refine lv_icmp_ne (tgt := 125) hx hb d_Fo_becomes_115 (by decide) (fun c9 => ?_) (fun c9 => ?_)
  · have h := h.1 c9
    refine lv_iconst (v := 0) hx hb d_Fo_becomes_125 (by decide) ?_
    exact W.zret hx hb hr (by decide) (fun t ht hW => ⟨_, rfl, h, ht⟩) (fun _ z => by cases z) d_Fo_becomes_126
  · have h := h.2 c9
    refine lv_iload hx hb d_Fo_becomes_118 (lv_at hl 6 rfl) ?_
    refine lv_iload hx hb d_Fo_becomes_120 (lv_at hl 0 rfl) ?_
    refine lv_icmp_eq (tgt := 127) hx hb d_Fo_becomes_122 (by decide) (fun c9 => ?_) (fun c9 => ?_)
    · have h := h.1 c9
      refine lv_iinc (v := y2 + 1) (lv' := [(2, .int (y2 + 1)), (7, .int z0), (0, .ref a0_0), (1, .ref a1_0), (3, .int y3), (4, .int y4), (6, .int y6)]) hx hb d_Fo_becomes_127 hl (k := 3) rfl rfl (by decide) rfl (fun ls hl => ?_)
      exact t_becomes_130 E hR hK0 _ _ _ _ h (lv_sub hl [2, 3, 0, 4, 5] rfl)
    · have h := h.2 c9
      refine lv_iconst (v := 0) hx hb d_Fo_becomes_125 (by decide) ?_
      exact W.zret hx hb hr (by decide) (fun t ht hW => ⟨_, rfl, h, ht⟩) (fun _ z => by cases z) d_Fo_becomes_126
set_option maxHeartbeats 4000000 in
set_option maxRecDepth 100000 in
theorem t_becomes_86 {p : Program} {l : Launch} {e : Env} {s : State} {m : MethodId} {args : Array Value} {below : List Frame} {meth : Method} {c : Code} {G : GX} {a0_0 a0_1 a0_2 a0_3 a0_4 a1_0 a1_1 a1_2 a1_3 a1_4 : Nat} {u0 : SgC} {u1 : SgC} {post : Int32 → Prop} (E : EN p s m args meth c G R_Fo cc_Fo_becomes 8 (some .boolean) BG) (hR : va_P G.1 vwCl [(a0_0, .inr (5, [.int (sgK u0), .ref a0_1, .ref a0_2, .ref a0_3, .ref a0_4, .int (sgO u0), .int (sgP u0)])), (a0_1, .inl (G.2.1 0, sgN u0, .inl (sgL u0))), (a0_2, .inl (G.2.1 1, sgN u0, .inl (sgR u0))), (a0_3, .inl (G.2.1 1, sgM u0, .inl (sgB u0))), (a0_4, .inl (G.2.1 1, sgM u0, .inl (sgE u0))), (a1_0, .inr (5, [.int (sgK u1), .ref a1_1, .ref a1_2, .ref a1_3, .ref a1_4, .int (sgO u1), .int (sgP u1)])), (a1_1, .inl (G.2.1 0, sgN u1, .inl (sgL u1))), (a1_2, .inl (G.2.1 1, sgN u1, .inl (sgR u1))), (a1_3, .inl (G.2.1 1, sgM u1, .inl (sgB u1))), (a1_4, .inl (G.2.1 1, sgM u1, .inl (sgE u1)))] s.heap) {K0 : Int32 → Int32 → Int32 → Prop} (hK0 : ∀ (y2 : Int32) (y3 : Int32) (y4 : Int32) (ls : Array Slot), K0 y2 y3 y4 → lv_has ls 8 [(0, .ref a0_0), (1, .ref a1_0), (2, .int y2), (3, .int y3), (4, .int y4)] → W p l e rm_becomes s m args below meth c s.heap [] 0 0 (MQ below (vp_Si post) args s 0 0 (fun _ => False)) (F0 m 7 ls [])) : ∀ (y2 : Int32) (y3 : Int32) (y4 : Int32) (z0 : Int32) (ls : Array Slot), w_becomes_86 post u0 u1 K0 y2 y3 y4 z0 → lv_has ls 8 [(0, .ref a0_0), (1, .ref a1_0), (2, .int y2), (3, .int y3), (4, .int y4)] → W p l e rm_becomes s m args below meth c s.heap [] 0 0 (MQ below (vp_Si post) args s 0 0 (fun _ => False)) (F0 m 86 ls [.int z0]) := by
  obtain ⟨hx, hb, hr, hts, hown, hlocks, hml, hC⟩ := id E
  have hK := hC.1
  intro y2 y3 y4 z0  ls h hl
  unfold w_becomes_86 at h
  refine lv_istore (lv' := [(6, .int z0), (0, .ref a0_0), (1, .ref a1_0), (2, .int y2), (3, .int y3), (4, .int y4)]) hx hb d_Fo_becomes_86 hl (by decide) rfl (fun ls hl => ?_)
  refine lv_aload_n hx hb d_Fo_becomes_88 rfl (lv_at hl 2 rfl) ?_
  refine lv_iload_n hx hb d_Fo_becomes_89 rfl (lv_at hl 3 rfl) ?_
  have hRc : va_P G.1 vwCl [(a1_0, .inr (5, [.int (sgK u1), .ref a1_1, .ref a1_2, .ref a1_3, .ref a1_4, .int (sgO u1), .int (sgP u1)])), (a1_1, .inl (G.2.1 0, sgN u1, .inl (sgL u1))), (a1_2, .inl (G.2.1 1, sgN u1, .inl (sgR u1))), (a1_3, .inl (G.2.1 1, sgM u1, .inl (sgB u1))), (a1_4, .inl (G.2.1 1, sgM u1, .inl (sgE u1)))] s.heap := (hR.sub (ws' := [(a1_0, .inr (5, [.int (sgK u1), .ref a1_1, .ref a1_2, .ref a1_3, .ref a1_4, .int (sgO u1), .int (sgP u1)])), (a1_1, .inl (G.2.1 0, sgN u1, .inl (sgL u1))), (a1_2, .inl (G.2.1 1, sgN u1, .inl (sgR u1))), (a1_3, .inl (G.2.1 1, sgM u1, .inl (sgB u1))), (a1_4, .inl (G.2.1 1, sgM u1, .inl (sgE u1)))]) [5, 6, 7, 8, 9] rfl)
  refine vp_callSi (va_runV (As := [.int y2]) (rest := []) ⟨hx, hb, hml, hown, hts⟩ (c_Sg_declarerAt l G a1_0 a1_1 a1_2 a1_3 a1_4 u1 y2 _ h) (cwV 1 hts (gwV b_218 b_219 b_220 b_173 b_217) rfl rfl rfl hd_Sg_declarerAt ⟨Nat.le_of_ble_eq_true rfl, Nat.le_of_ble_eq_true rfl⟩) ⟨mP_blind, va_recv hK hRc (ci := 5) (q0 := 0) rfl rfl, fun U hU hW => ⟨rfl, hC.to0 hW hU, by rw [hU]; exact hRc⟩⟩ rfl rfl hl.1 rfl (lv_room (Nat.le_of_ble_eq_true rfl)) d_Fo_becomes_90 ⟨Nat.le_of_ble_eq_true rfl, Nat.le_of_ble_eq_true rfl⟩).run (fun r11 h => ?_)
  refine lv_iconst (v := (-1)) hx hb d_Fo_becomes_93 (by decide) ?_
  refine lv_icmp_eq (tgt := 101) hx hb d_Fo_becomes_94 (by decide) (fun c9 => ?_) (fun c9 => ?_)
  · have h := h.1 c9
    refine lv_iconst (v := 0) hx hb d_Fo_becomes_101 (by decide) ?_
    exact t_becomes_102 E hR hK0 _ _ _ _ _ _ h (lv_sub hl [1, 2, 3, 4, 5, 0] rfl)
  · have h := h.2 c9
    refine lv_iconst (v := 1) hx hb d_Fo_becomes_97 (by decide) ?_
    refine lv_goto (tgt := 102) hx hb d_Fo_becomes_98 (by decide) ?_
    exact t_becomes_102 E hR hK0 _ _ _ _ _ _ h (lv_sub hl [1, 2, 3, 4, 5, 0] rfl)
set_option maxHeartbeats 4000000 in
set_option maxRecDepth 100000 in
theorem tb_becomes_7 {p : Program} {l : Launch} {e : Env} {s : State} {m : MethodId} {args : Array Value} {below : List Frame} {meth : Method} {c : Code} {G : GX} {a0_0 a0_1 a0_2 a0_3 a0_4 a1_0 a1_1 a1_2 a1_3 a1_4 : Nat} {u0 : SgC} {u1 : SgC} {post : Int32 → Prop} (E : EN p s m args meth c G R_Fo cc_Fo_becomes 8 (some .boolean) BG) (hR : va_P G.1 vwCl [(a0_0, .inr (5, [.int (sgK u0), .ref a0_1, .ref a0_2, .ref a0_3, .ref a0_4, .int (sgO u0), .int (sgP u0)])), (a0_1, .inl (G.2.1 0, sgN u0, .inl (sgL u0))), (a0_2, .inl (G.2.1 1, sgN u0, .inl (sgR u0))), (a0_3, .inl (G.2.1 1, sgM u0, .inl (sgB u0))), (a0_4, .inl (G.2.1 1, sgM u0, .inl (sgE u0))), (a1_0, .inr (5, [.int (sgK u1), .ref a1_1, .ref a1_2, .ref a1_3, .ref a1_4, .int (sgO u1), .int (sgP u1)])), (a1_1, .inl (G.2.1 0, sgN u1, .inl (sgL u1))), (a1_2, .inl (G.2.1 1, sgN u1, .inl (sgR u1))), (a1_3, .inl (G.2.1 1, sgM u1, .inl (sgB u1))), (a1_4, .inl (G.2.1 1, sgM u1, .inl (sgE u1)))] s.heap) {K0 : Int32 → Int32 → Int32 → Prop} (hK0 : ∀ (y2 : Int32) (y3 : Int32) (y4 : Int32) (ls : Array Slot), K0 y2 y3 y4 → lv_has ls 8 [(0, .ref a0_0), (1, .ref a1_0), (2, .int y2), (3, .int y3), (4, .int y4)] → W p l e rm_becomes s m args below meth c s.heap [] 0 0 (MQ below (vp_Si post) args s 0 0 (fun _ => False)) (F0 m 7 ls [])) : ∀ (y2 : Int32) (y3 : Int32) (y4 : Int32) (ls : Array Slot), wb_becomes_7 post u0 u1 K0 y2 y3 y4 → lv_has ls 8 [(0, .ref a0_0), (1, .ref a1_0), (2, .int y2), (3, .int y3), (4, .int y4)] → W p l e rm_becomes s m args below meth c s.heap [] 0 0 (MQ below (vp_Si post) args s 0 0 (fun _ => False)) (F0 m 7 ls []) := by
  obtain ⟨hx, hb, hr, hts, hown, hlocks, hml, hC⟩ := id E
  have hK := hC.1
  intro y2 y3 y4  ls h hl
  unfold wb_becomes_7 at h
  refine lv_iload hx hb d_Fo_becomes_7 (lv_at hl 4 rfl) ?_
  refine lv_aload_n hx hb d_Fo_becomes_9 rfl (lv_at hl 0 rfl) ?_
  refine va_getN (D := G.1) (ci := 5) (v := .ref a0_1) (C := R_Sg) (T := T_Sg) (N := 7) hx hb hts i_Sg hown hK hR 0 rfl rfl 1 (by decide) (nf_19 hC) (fun _ h9 => h9) rfl d_Fo_becomes_10 ?_
  refine va_alen hx hb hK hR 1 0 rfl rfl (v := Int32.ofNat (sgN u0)) rfl d_Fo_becomes_13 ?_
  refine lv_icmp_ge (tgt := 136) hx hb d_Fo_becomes_14 (by decide) (fun c9 => ?_) (fun c9 => ?_)
  · have h := h.1 c9
    refine lv_iload_n hx hb d_Fo_becomes_136 rfl (lv_at hl 2 rfl) ?_
    refine lv_aload_n hx hb d_Fo_becomes_137 rfl (lv_at hl 1 rfl) ?_
    refine va_getN (D := G.1) (ci := 5) (v := .ref a1_1) (C := R_Sg) (T := T_Sg) (N := 7) hx hb hts i_Sg hown hK hR 5 rfl rfl 1 (by decide) (nf_19 hC) (fun _ h9 => h9) rfl d_Fo_becomes_138 ?_
    refine va_alen hx hb hK hR 6 0 rfl rfl (v := Int32.ofNat (sgN u1)) rfl d_Fo_becomes_141 ?_
    refine lv_icmp_ne (tgt := 149) hx hb d_Fo_becomes_142 (by decide) (fun c9 => ?_) (fun c9 => ?_)
    · have h := h.1 c9
      refine lv_iconst (v := 0) hx hb d_Fo_becomes_149 (by decide) ?_
      exact W.zret hx hb hr (by decide) (fun t ht hW => ⟨_, rfl, h, ht⟩) (fun _ z => by cases z) d_Fo_becomes_150
    · have h := h.2 c9
      refine lv_iconst (v := 1) hx hb d_Fo_becomes_145 (by decide) ?_
      refine lv_goto (tgt := 150) hx hb d_Fo_becomes_146 (by decide) ?_
      exact W.zret hx hb hr (by decide) (fun t ht hW => ⟨_, rfl, h, ht⟩) (fun _ z => by cases z) d_Fo_becomes_150
  · have h := h.2 c9
    refine lv_iload hx hb d_Fo_becomes_17 (lv_at hl 4 rfl) ?_
    refine lv_iload_n hx hb d_Fo_becomes_19 rfl (lv_at hl 3 rfl) ?_
    refine lv_icmp_ge (tgt := 26) hx hb d_Fo_becomes_20 (by decide) (fun c9 => ?_) (fun c9 => ?_)
    · have h := h.1 c9
      refine lv_aload_n hx hb d_Fo_becomes_26 rfl (lv_at hl 0 rfl) ?_
      refine lv_iload hx hb d_Fo_becomes_27 (lv_at hl 4 rfl) ?_
      have hRc : va_P G.1 vwCl [(a0_0, .inr (5, [.int (sgK u0), .ref a0_1, .ref a0_2, .ref a0_3, .ref a0_4, .int (sgO u0), .int (sgP u0)])), (a0_1, .inl (G.2.1 0, sgN u0, .inl (sgL u0))), (a0_2, .inl (G.2.1 1, sgN u0, .inl (sgR u0))), (a0_3, .inl (G.2.1 1, sgM u0, .inl (sgB u0))), (a0_4, .inl (G.2.1 1, sgM u0, .inl (sgE u0)))] s.heap := (hR.sub (ws' := [(a0_0, .inr (5, [.int (sgK u0), .ref a0_1, .ref a0_2, .ref a0_3, .ref a0_4, .int (sgO u0), .int (sgP u0)])), (a0_1, .inl (G.2.1 0, sgN u0, .inl (sgL u0))), (a0_2, .inl (G.2.1 1, sgN u0, .inl (sgR u0))), (a0_3, .inl (G.2.1 1, sgM u0, .inl (sgB u0))), (a0_4, .inl (G.2.1 1, sgM u0, .inl (sgE u0)))]) [0, 1, 2, 3, 4] rfl)
      refine vp_callSi (va_runV (As := [.int y4]) (rest := []) ⟨hx, hb, hml, hown, hts⟩ (c_Sg_ownNameAt l G a0_0 a0_1 a0_2 a0_3 a0_4 u0 y4 _ h) (cwV 1 hts (gwV b_214 b_215 b_216 b_173 b_213) rfl rfl rfl hd_Sg_ownNameAt ⟨Nat.le_of_ble_eq_true rfl, Nat.le_of_ble_eq_true rfl⟩) ⟨mP_blind, va_recv hK hRc (ci := 5) (q0 := 0) rfl rfl, fun U hU hW => ⟨rfl, hC.to0 hW hU, by rw [hU]; exact hRc⟩⟩ rfl rfl hl.1 rfl (lv_room (Nat.le_of_ble_eq_true rfl)) d_Fo_becomes_29 ⟨Nat.le_of_ble_eq_true rfl, Nat.le_of_ble_eq_true rfl⟩).run (fun r12 h => ?_)
      refine lv_istore (lv' := [(5, .int r12), (0, .ref a0_0), (1, .ref a1_0), (2, .int y2), (3, .int y3), (4, .int y4)]) hx hb d_Fo_becomes_32 hl (by decide) rfl (fun ls hl => ?_)
      refine lv_iload hx hb d_Fo_becomes_34 (lv_at hl 0 rfl) ?_
      refine lv_iconst (v := (-1)) hx hb d_Fo_becomes_36 (by decide) ?_
      refine lv_icmp_eq (tgt := 71) hx hb d_Fo_becomes_37 (by decide) (fun c9 => ?_) (fun c9 => ?_)
      · have h := h.1 c9
        refine lv_aload_n hx hb d_Fo_becomes_71 rfl (lv_at hl 1 rfl) ?_
        refine lv_iload hx hb d_Fo_becomes_72 (lv_at hl 5 rfl) ?_
        have hRc : va_P G.1 vwCl [(a0_0, .inr (5, [.int (sgK u0), .ref a0_1, .ref a0_2, .ref a0_3, .ref a0_4, .int (sgO u0), .int (sgP u0)])), (a0_1, .inl (G.2.1 0, sgN u0, .inl (sgL u0))), (a0_2, .inl (G.2.1 1, sgN u0, .inl (sgR u0))), (a0_3, .inl (G.2.1 1, sgM u0, .inl (sgB u0))), (a0_4, .inl (G.2.1 1, sgM u0, .inl (sgE u0)))] s.heap := (hR.sub (ws' := [(a0_0, .inr (5, [.int (sgK u0), .ref a0_1, .ref a0_2, .ref a0_3, .ref a0_4, .int (sgO u0), .int (sgP u0)])), (a0_1, .inl (G.2.1 0, sgN u0, .inl (sgL u0))), (a0_2, .inl (G.2.1 1, sgN u0, .inl (sgR u0))), (a0_3, .inl (G.2.1 1, sgM u0, .inl (sgB u0))), (a0_4, .inl (G.2.1 1, sgM u0, .inl (sgE u0)))]) [0, 1, 2, 3, 4] rfl)
        refine vp_callSi (va_runV (As := [.int y4]) (rest := []) ⟨hx, hb, hml, hown, hts⟩ (c_Sg_declarerAt l G a0_0 a0_1 a0_2 a0_3 a0_4 u0 y4 _ h) (cwV 1 hts (gwV b_218 b_219 b_220 b_173 b_217) rfl rfl rfl hd_Sg_declarerAt ⟨Nat.le_of_ble_eq_true rfl, Nat.le_of_ble_eq_true rfl⟩) ⟨mP_blind, va_recv hK hRc (ci := 5) (q0 := 0) rfl rfl, fun U hU hW => ⟨rfl, hC.to0 hW hU, by rw [hU]; exact hRc⟩⟩ rfl rfl hl.1 rfl (lv_room (Nat.le_of_ble_eq_true rfl)) d_Fo_becomes_74 ⟨Nat.le_of_ble_eq_true rfl, Nat.le_of_ble_eq_true rfl⟩).run (fun r13 h => ?_)
        refine lv_iconst (v := (-1)) hx hb d_Fo_becomes_77 (by decide) ?_
        refine lv_icmp_eq (tgt := 85) hx hb d_Fo_becomes_78 (by decide) (fun c9 => ?_) (fun c9 => ?_)
        · have h := h.1 c9
          refine lv_iconst (v := 0) hx hb d_Fo_becomes_85 (by decide) ?_
          exact t_becomes_86 E hR hK0 _ _ _ _ _ h (lv_sub hl [1, 2, 3, 4, 5] rfl)
        · have h := h.2 c9
          refine lv_iconst (v := 1) hx hb d_Fo_becomes_81 (by decide) ?_
          refine lv_goto (tgt := 86) hx hb d_Fo_becomes_82 (by decide) ?_
          exact t_becomes_86 E hR hK0 _ _ _ _ _ h (lv_sub hl [1, 2, 3, 4, 5] rfl)
      · have h := h.2 c9
        refine lv_aload_n hx hb d_Fo_becomes_40 rfl (lv_at hl 2 rfl) ?_
        refine lv_iload hx hb d_Fo_becomes_41 (lv_at hl 0 rfl) ?_
        refine lv_iload_n hx hb d_Fo_becomes_43 rfl (lv_at hl 3 rfl) ?_
        have hRc : va_P G.1 vwCl [(a1_0, .inr (5, [.int (sgK u1), .ref a1_1, .ref a1_2, .ref a1_3, .ref a1_4, .int (sgO u1), .int (sgP u1)])), (a1_1, .inl (G.2.1 0, sgN u1, .inl (sgL u1))), (a1_2, .inl (G.2.1 1, sgN u1, .inl (sgR u1))), (a1_3, .inl (G.2.1 1, sgM u1, .inl (sgB u1))), (a1_4, .inl (G.2.1 1, sgM u1, .inl (sgE u1)))] s.heap := (hR.sub (ws' := [(a1_0, .inr (5, [.int (sgK u1), .ref a1_1, .ref a1_2, .ref a1_3, .ref a1_4, .int (sgO u1), .int (sgP u1)])), (a1_1, .inl (G.2.1 0, sgN u1, .inl (sgL u1))), (a1_2, .inl (G.2.1 1, sgN u1, .inl (sgR u1))), (a1_3, .inl (G.2.1 1, sgM u1, .inl (sgB u1))), (a1_4, .inl (G.2.1 1, sgM u1, .inl (sgE u1)))]) [5, 6, 7, 8, 9] rfl)
        refine vp_callSi (va_runV (As := [.int r12, .int y2]) (rest := []) ⟨hx, hb, hml, hown, hts⟩ (c_Sg_repeatsName l G a1_0 a1_1 a1_2 a1_3 a1_4 u1 r12 y2 _ h) (cwV 2 hts (gwV b_222 b_223 b_224 b_173 b_221) rfl rfl rfl hd_Sg_repeatsName ⟨Nat.le_of_ble_eq_true rfl, Nat.le_of_ble_eq_true rfl⟩) ⟨mP_blind, va_recv hK hRc (ci := 5) (q0 := 0) rfl rfl, fun U hU hW => ⟨rfl, hC.to0 hW hU, by rw [hU]; exact hRc⟩⟩ rfl rfl hl.1 rfl (lv_room (Nat.le_of_ble_eq_true rfl)) d_Fo_becomes_44 ⟨Nat.le_of_ble_eq_true rfl, Nat.le_of_ble_eq_true rfl⟩).run (fun r14 h => ?_)
        refine lv_if_ne (tgt := 52) hx hb d_Fo_becomes_47 (by decide) (fun c9 => ?_) (fun c9 => ?_)
        · have h := h.1 c9
          refine lv_iload_n hx hb d_Fo_becomes_52 rfl (lv_at hl 3 rfl) ?_
          refine lv_aload_n hx hb d_Fo_becomes_53 rfl (lv_at hl 2 rfl) ?_
          refine lv_iload hx hb d_Fo_becomes_54 (lv_at hl 0 rfl) ?_
          have hRc : va_P G.1 vwCl [(a1_0, .inr (5, [.int (sgK u1), .ref a1_1, .ref a1_2, .ref a1_3, .ref a1_4, .int (sgO u1), .int (sgP u1)])), (a1_1, .inl (G.2.1 0, sgN u1, .inl (sgL u1))), (a1_2, .inl (G.2.1 1, sgN u1, .inl (sgR u1))), (a1_3, .inl (G.2.1 1, sgM u1, .inl (sgB u1))), (a1_4, .inl (G.2.1 1, sgM u1, .inl (sgE u1)))] s.heap := (hR.sub (ws' := [(a1_0, .inr (5, [.int (sgK u1), .ref a1_1, .ref a1_2, .ref a1_3, .ref a1_4, .int (sgO u1), .int (sgP u1)])), (a1_1, .inl (G.2.1 0, sgN u1, .inl (sgL u1))), (a1_2, .inl (G.2.1 1, sgN u1, .inl (sgR u1))), (a1_3, .inl (G.2.1 1, sgM u1, .inl (sgB u1))), (a1_4, .inl (G.2.1 1, sgM u1, .inl (sgE u1)))]) [5, 6, 7, 8, 9] rfl)
          refine vp_callSi (va_runV (As := [.int r12]) (rest := [.int y2]) ⟨hx, hb, hml, hown, hts⟩ (c_Sg_nameLength l G a1_0 a1_1 a1_2 a1_3 a1_4 u1 r12 _ h) (cwV 1 hts (gwV b_225 b_190 b_191 b_173 b_188) rfl rfl rfl hd_Sg_nameLength ⟨Nat.le_of_ble_eq_true rfl, Nat.le_of_ble_eq_true rfl⟩) ⟨mP_blind, va_recv hK hRc (ci := 5) (q0 := 0) rfl rfl, fun U hU hW => ⟨rfl, hC.to0 hW hU, by rw [hU]; exact hRc⟩⟩ rfl rfl hl.1 rfl (lv_room (Nat.le_of_ble_eq_true rfl)) d_Fo_becomes_56 ⟨Nat.le_of_ble_eq_true rfl, Nat.le_of_ble_eq_true rfl⟩).run (fun r15 h => ?_)
          refine lv_iadd hx hb d_Fo_becomes_59 ?_
          refine lv_istore_n (lv' := [(2, .int (y2 + r15)), (5, .int r12), (0, .ref a0_0), (1, .ref a1_0), (3, .int y3), (4, .int y4)]) hx hb d_Fo_becomes_60 rfl hl (by decide) rfl (fun ls hl => ?_)
          refine lv_aload_n hx hb d_Fo_becomes_61 rfl (lv_at hl 2 rfl) ?_
          refine lv_iload hx hb d_Fo_becomes_62 (lv_at hl 5 rfl) ?_
          have hRc : va_P G.1 vwCl [(a0_0, .inr (5, [.int (sgK u0), .ref a0_1, .ref a0_2, .ref a0_3, .ref a0_4, .int (sgO u0), .int (sgP u0)])), (a0_1, .inl (G.2.1 0, sgN u0, .inl (sgL u0))), (a0_2, .inl (G.2.1 1, sgN u0, .inl (sgR u0))), (a0_3, .inl (G.2.1 1, sgM u0, .inl (sgB u0))), (a0_4, .inl (G.2.1 1, sgM u0, .inl (sgE u0)))] s.heap := (hR.sub (ws' := [(a0_0, .inr (5, [.int (sgK u0), .ref a0_1, .ref a0_2, .ref a0_3, .ref a0_4, .int (sgO u0), .int (sgP u0)])), (a0_1, .inl (G.2.1 0, sgN u0, .inl (sgL u0))), (a0_2, .inl (G.2.1 1, sgN u0, .inl (sgR u0))), (a0_3, .inl (G.2.1 1, sgM u0, .inl (sgB u0))), (a0_4, .inl (G.2.1 1, sgM u0, .inl (sgE u0)))]) [0, 1, 2, 3, 4] rfl)
          refine vp_callSi (va_runV (As := [.int y4]) (rest := []) ⟨hx, hb, hml, hown, hts⟩ (c_Sg_behindName l G a0_0 a0_1 a0_2 a0_3 a0_4 u0 y4 _ h) (cwV 1 hts (gwV b_226 b_198 b_199 b_173 b_196) rfl rfl rfl hd_Sg_behindName ⟨Nat.le_of_ble_eq_true rfl, Nat.le_of_ble_eq_true rfl⟩) ⟨mP_blind, va_recv hK hRc (ci := 5) (q0 := 0) rfl rfl, fun U hU hW => ⟨rfl, hC.to0 hW hU, by rw [hU]; exact hRc⟩⟩ rfl rfl hl.1 rfl (lv_room (Nat.le_of_ble_eq_true rfl)) d_Fo_becomes_64 ⟨Nat.le_of_ble_eq_true rfl, Nat.le_of_ble_eq_true rfl⟩).run (fun r16 h => ?_)
          refine lv_istore_n (lv' := [(3, .int r16), (2, .int (y2 + r15)), (5, .int r12), (0, .ref a0_0), (1, .ref a1_0), (4, .int y4)]) hx hb d_Fo_becomes_67 rfl hl (by decide) rfl (fun ls hl => ?_)
          refine lv_goto (tgt := 130) hx hb d_Fo_becomes_68 (by decide) ?_
          exact t_becomes_130 E hR hK0 _ _ _ _ h (lv_sub hl [3, 4, 1, 0, 5] rfl)
        · have h := h.2 c9
          refine lv_iconst (v := 0) hx hb d_Fo_becomes_50 (by decide) ?_
          exact W.zret hx hb hr (by decide) (fun t ht hW => ⟨_, rfl, h, ht⟩) (fun _ z => by cases z) d_Fo_becomes_51
    · have h := h.2 c9
      refine lv_goto (tgt := 130) hx hb d_Fo_becomes_23 (by decide) ?_
      exact t_becomes_130 E hR hK0 _ _ _ _ h (lv_sub hl [0, 1, 2, 3, 4] rfl)
set_option maxHeartbeats 4000000 in
set_option maxRecDepth 100000 in
theorem t_becomes_7 {p : Program} {l : Launch} {e : Env} {s : State} {m : MethodId} {args : Array Value} {below : List Frame} {meth : Method} {c : Code} {G : GX} {a0_0 a0_1 a0_2 a0_3 a0_4 a1_0 a1_1 a1_2 a1_3 a1_4 : Nat} {u0 : SgC} {u1 : SgC} {post : Int32 → Prop} (E : EN p s m args meth c G R_Fo cc_Fo_becomes 8 (some .boolean) BG) (hR : va_P G.1 vwCl [(a0_0, .inr (5, [.int (sgK u0), .ref a0_1, .ref a0_2, .ref a0_3, .ref a0_4, .int (sgO u0), .int (sgP u0)])), (a0_1, .inl (G.2.1 0, sgN u0, .inl (sgL u0))), (a0_2, .inl (G.2.1 1, sgN u0, .inl (sgR u0))), (a0_3, .inl (G.2.1 1, sgM u0, .inl (sgB u0))), (a0_4, .inl (G.2.1 1, sgM u0, .inl (sgE u0))), (a1_0, .inr (5, [.int (sgK u1), .ref a1_1, .ref a1_2, .ref a1_3, .ref a1_4, .int (sgO u1), .int (sgP u1)])), (a1_1, .inl (G.2.1 0, sgN u1, .inl (sgL u1))), (a1_2, .inl (G.2.1 1, sgN u1, .inl (sgR u1))), (a1_3, .inl (G.2.1 1, sgM u1, .inl (sgB u1))), (a1_4, .inl (G.2.1 1, sgM u1, .inl (sgE u1)))] s.heap) : ∀ (n : Nat) (y2 : Int32) (y3 : Int32) (y4 : Int32) (ls : Array Slot), w_becomes_7 post u0 u1 n y2 y3 y4 → lv_has ls 8 [(0, .ref a0_0), (1, .ref a1_0), (2, .int y2), (3, .int y3), (4, .int y4)] → W p l e rm_becomes s m args below meth c s.heap [] 0 0 (MQ below (vp_Si post) args s 0 0 (fun _ => False)) (F0 m 7 ls []) := by
  intro n
  induction n with
  | zero => intro y2 y3 y4  ls h; exact h.elim
  | succ n ih =>
    intro y2 y3 y4  ls h hl
    exact tb_becomes_7 E hR  ih _ _ _ _ h hl
set_option maxHeartbeats 4000000 in
set_option maxRecDepth 100000 in
theorem t_becomes_in {p : Program} {l : Launch} {e : Env} {s : State} {m : MethodId} {args : Array Value} {below : List Frame} {meth : Method} {c : Code} {G : GX} {a0_0 a0_1 a0_2 a0_3 a0_4 a1_0 a1_1 a1_2 a1_3 a1_4 : Nat} {u0 : SgC} {u1 : SgC} {post : Int32 → Prop}  (E : EN p s m args meth c G R_Fo cc_Fo_becomes 8 (some .boolean) BG) (hR : va_P G.1 vwCl [(a0_0, .inr (5, [.int (sgK u0), .ref a0_1, .ref a0_2, .ref a0_3, .ref a0_4, .int (sgO u0), .int (sgP u0)])), (a0_1, .inl (G.2.1 0, sgN u0, .inl (sgL u0))), (a0_2, .inl (G.2.1 1, sgN u0, .inl (sgR u0))), (a0_3, .inl (G.2.1 1, sgM u0, .inl (sgB u0))), (a0_4, .inl (G.2.1 1, sgM u0, .inl (sgE u0))), (a1_0, .inr (5, [.int (sgK u1), .ref a1_1, .ref a1_2, .ref a1_3, .ref a1_4, .int (sgO u1), .int (sgP u1)])), (a1_1, .inl (G.2.1 0, sgN u1, .inl (sgL u1))), (a1_2, .inl (G.2.1 1, sgN u1, .inl (sgR u1))), (a1_3, .inl (G.2.1 1, sgM u1, .inl (sgB u1))), (a1_4, .inl (G.2.1 1, sgM u1, .inl (sgE u1)))] s.heap) : ∀ (ls : Array Slot), wp_becomes post u0 u1 → lv_has ls 8 [(0, .ref a0_0), (1, .ref a1_0)] → W p l e rm_becomes s m args below meth c s.heap [] 0 0 (MQ below (vp_Si post) args s 0 0 (fun _ => False)) (F0 m 0 ls []) := by
  obtain ⟨hx, hb, hr, hts, hown, hlocks, hml, hC⟩ := id E
  have hK := hC.1
  intro ls h hl
  unfold wp_becomes at h
  refine lv_iconst (v := 0) hx hb d_Fo_becomes_0 (by decide) ?_
  refine lv_istore_n (lv' := [(2, .int 0), (0, .ref a0_0), (1, .ref a1_0)]) hx hb d_Fo_becomes_1 rfl hl (by decide) rfl (fun ls hl => ?_)
  refine lv_iconst (v := 0) hx hb d_Fo_becomes_2 (by decide) ?_
  refine lv_istore_n (lv' := [(3, .int 0), (2, .int 0), (0, .ref a0_0), (1, .ref a1_0)]) hx hb d_Fo_becomes_3 rfl hl (by decide) rfl (fun ls hl => ?_)
  refine lv_iconst (v := 0) hx hb d_Fo_becomes_4 (by decide) ?_
  refine lv_istore (lv' := [(4, .int 0), (3, .int 0), (2, .int 0), (0, .ref a0_0), (1, .ref a1_0)]) hx hb d_Fo_becomes_5 hl (by decide) rfl (fun ls hl => ?_)
  obtain ⟨n, h⟩ := h
  exact t_becomes_7 E hR  n _ _ _ _ h (lv_sub hl [3, 4, 2, 1, 0] rfl)
set_option maxHeartbeats 4000000 in
set_option maxRecDepth 100000 in
theorem c_becomes (l : Launch) (G : GX) (a0_0 a0_1 a0_2 a0_3 a0_4 a1_0 a1_1 a1_2 a1_3 a1_4 : Nat) (u0 : SgC) (u1 : SgC) (post : Int32 → Prop) (h : wp_becomes post u0 u1) : Met l y_Fo_becomes wc_Fo_becomes rm_becomes (mP G [.ref a0_0, .ref a1_0] [(a0_0, .inr (5, [.int (sgK u0), .ref a0_1, .ref a0_2, .ref a0_3, .ref a0_4, .int (sgO u0), .int (sgP u0)])), (a0_1, .inl (G.2.1 0, sgN u0, .inl (sgL u0))), (a0_2, .inl (G.2.1 1, sgN u0, .inl (sgR u0))), (a0_3, .inl (G.2.1 1, sgM u0, .inl (sgB u0))), (a0_4, .inl (G.2.1 1, sgM u0, .inl (sgE u0))), (a1_0, .inr (5, [.int (sgK u1), .ref a1_1, .ref a1_2, .ref a1_3, .ref a1_4, .int (sgO u1), .int (sgP u1)])), (a1_1, .inl (G.2.1 0, sgN u1, .inl (sgL u1))), (a1_2, .inl (G.2.1 1, sgN u1, .inl (sgR u1))), (a1_3, .inl (G.2.1 1, sgM u1, .inl (sgB u1))), (a1_4, .inl (G.2.1 1, sgM u1, .inl (sgE u1)))]) (vp_Si post) 0 0 (fun _ => False) := by
  refine Met.ofW (cc := cc_Fo_becomes) (maxL := 8) (ret := (some .boolean)) (by decide) rfl ?_
  intro p e s m args below meth c s₁ B hml hv
  obtain ⟨rfl, hC, hR⟩ := hv
  have E : EN p s m ([.ref a0_0, .ref a1_0] : List Value).toArray meth c G R_Fo cc_Fo_becomes 8 (some .boolean) BG := ⟨B.exec, B.bytes, B.returns, fun w h => atoms_spec (ws := wc_Fo_becomes) B.pre w (List.mem_cons_of_mem _ h), findClass_of_methodNamed B.named, B.notSynchronized, hml, hC⟩
  have hl := lv_entry ([.ref a0_0, .ref a1_0]) (n := 8) (Nat.le_of_ble_eq_true rfl)
  rw [lg_entry_eq]
  generalize (lg_sl ([.ref a0_0, .ref a1_0]) ++ List.replicate (8 - (lg_sl ([.ref a0_0, .ref a1_0])).length) Slot.unset).toArray = ls at hl ⊢
  have hl : lv_has ls 8 [(0, .ref a0_0), (1, .ref a1_0)] := hl
  exact t_becomes_in E hR _ h hl
