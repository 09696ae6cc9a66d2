set_option maxHeartbeats 4000000 in
set_option maxRecDepth 100000 in
theorem tb_Rd_sameName_38 {p : Program} {l : Launch} {e : Env} {s : State} {m : MethodId} {args : Array Value} {below : List Frame} {meth : Method} {c : Code} {G : GX} {a0_0 a0_1 a0_2 a0_3 a1_0 a1_1 : Nat} {u0 : RdC} {u1 : RowC} {post : Int32 → Prop} (E : EN p s m args meth c G R_Rd cc_Rd_sameName 6 (some .boolean) BG) (hR : va_P G.1 vwCl [(a0_0, .inr (1, [.ref a0_1, .ref a0_2, .ref a0_3, .int (rdC u0), .int (rdK u0), .int (rdX u0), .int (rdD u0), .int (rdL u0)])), (a0_1, .inl (G.2.1 1, rdN u0, .inl (rdR u0))), (a0_2, .inl (G.2.1 1, rdN u0, .inl (rdB u0))), (a0_3, .inl (G.2.1 1, rdN u0, .inl (rdE u0))), (a1_0, .inr (2, [.ref a1_1, .int (rwS u1)])), (a1_1, .inl (G.2.1 0, rwN u1, .inl (rwF u1)))] s.heap) {K0 : Int32 → Int32 → Int32 → Int32 → Prop} (hK0 : ∀ (y2 : Int32) (y3 : Int32) (y4 : Int32) (y5 : Int32) (ls : Array Slot), K0 y2 y3 y4 y5 → lv_has ls 6 [(0, .ref a0_0), (1, .ref a1_0), (2, .int y2), (3, .int y3), (4, .int y4), (5, .int y5)] → W p l e rm_Rd_sameName s m args below meth c s.heap [] 0 0 (MQ below (vp_Si post) args s 0 0 (fun _ => False)) (F0 m 38 ls [])) : ∀ (y2 : Int32) (y3 : Int32) (y4 : Int32) (y5 : Int32) (ls : Array Slot), wb_Rd_sameName_38 post u0 u1 K0 y2 y3 y4 y5 → lv_has ls 6 [(0, .ref a0_0), (1, .ref a1_0), (2, .int y2), (3, .int y3), (4, .int y4), (5, .int y5)] → W p l e rm_Rd_sameName s m args below meth c s.heap [] 0 0 (MQ below (vp_Si post) args s 0 0 (fun _ => False)) (F0 m 38 ls []) := by
  obtain ⟨hx, hb, hr, hts, hown, hlocks, hml, hC⟩ := id E
  have hK := hC.1
  intro y2 y3 y4 y5  ls h hl
  unfold wb_Rd_sameName_38 at h
  refine lv_iload hx hb d_Rd_sameName_38 (lv_at hl 5 rfl) ?_
  refine lv_iload hx hb d_Rd_sameName_40 (lv_at hl 4 rfl) ?_
  refine lv_icmp_ge (tgt := 84) hx hb d_Rd_sameName_42 (by decide) (fun c9 => ?_) (fun c9 => ?_)
  · have h := h.1 c9
    refine lv_iconst (v := 1) hx hb d_Rd_sameName_84 (by decide) ?_
    exact W.zret hx hb hr (by decide) (fun t ht hW => ⟨_, rfl, h, ht⟩) (fun _ z => by cases z) d_Rd_sameName_85
  · have h := h.2 c9
    refine lv_aload_n hx hb d_Rd_sameName_45 rfl (lv_at hl 1 rfl) ?_
    refine va_getN (D := G.1) (ci := 2) (v := .ref a1_1) (C := R_Rw) (T := T_Rw) (N := 2) hx hb hts i_Rw hown hK hR 4 rfl rfl 0 (by decide) (nf_1 hC) (fun _ h9 => h9) rfl d_Rd_sameName_46 ?_
    refine lv_aload_n hx hb d_Rd_sameName_49 rfl (lv_at hl 0 rfl) ?_
    refine va_get (D := G.1) (ci := 1) (v := .ref a0_2) (C := R_Rd) (T := T_Rd) (N := 8) hx hb hts i_Rd hown hK hR 0 rfl rfl 1 (by decide) (hts _ b_135) (fun _ h9 => h9) rfl d_Rd_sameName_50 ?_
    refine lv_iload_n hx hb d_Rd_sameName_53 rfl (lv_at hl 2 rfl) ?_
    have hi9 := h.1
    have h := h.2
    refine va_iald hx hb hK hR 2 1 rfl rfl hi9 d_Rd_sameName_54 ?_
    refine lv_iload hx hb d_Rd_sameName_55 (lv_at hl 5 rfl) ?_
    refine lv_iadd hx hb d_Rd_sameName_57 ?_
    have hi9 := h.1
    have h := h.2
    refine va_cald hx hb hK hR 5 0 rfl rfl hi9 d_Rd_sameName_58 ?_
    refine lv_aload_n hx hb d_Rd_sameName_59 rfl (lv_at hl 1 rfl) ?_
    refine va_getN (D := G.1) (ci := 2) (v := .ref a1_1) (C := R_Rw) (T := T_Rw) (N := 2) hx hb hts i_Rw hown hK hR 4 rfl rfl 0 (by decide) (nf_1 hC) (fun _ h9 => h9) rfl d_Rd_sameName_60 ?_
    refine lv_aload_n hx hb d_Rd_sameName_63 rfl (lv_at hl 0 rfl) ?_
    refine va_get (D := G.1) (ci := 1) (v := .ref a0_2) (C := R_Rd) (T := T_Rd) (N := 8) hx hb hts i_Rd hown hK hR 0 rfl rfl 1 (by decide) (hts _ b_135) (fun _ h9 => h9) rfl d_Rd_sameName_64 ?_
    refine lv_iload_n hx hb d_Rd_sameName_67 rfl (lv_at hl 3 rfl) ?_
    have hi9 := h.1
    have h := h.2
    refine va_iald hx hb hK hR 2 1 rfl rfl hi9 d_Rd_sameName_68 ?_
    refine lv_iload hx hb d_Rd_sameName_69 (lv_at hl 5 rfl) ?_
    refine lv_iadd hx hb d_Rd_sameName_71 ?_
    have hi9 := h.1
    have h := h.2
    refine va_cald hx hb hK hR 5 0 rfl rfl hi9 d_Rd_sameName_72 ?_
    refine lv_icmp_eq (tgt := 78) hx hb d_Rd_sameName_73 (by decide) (fun c9 => ?_) (fun c9 => ?_)
    · have h := h.1 c9
      refine lv_iinc (v := y5 + 1) (lv' := [(5, .int (y5 + 1)), (0, .ref a0_0), (1, .ref a1_0), (2, .int y2), (3, .int y3), (4, .int y4)]) hx hb d_Rd_sameName_78 hl (k := 5) rfl rfl (by decide) rfl (fun ls hl => ?_)
      refine lv_goto (tgt := 38) hx hb d_Rd_sameName_81 (by decide) ?_
      exact hK0 _ _ _ _ _ h (lv_sub hl [1, 2, 3, 4, 5, 0] rfl)
    · have h := h.2 c9
      refine lv_iconst (v := 0) hx hb d_Rd_sameName_76 (by decide) ?_
      exact W.zret hx hb hr (by decide) (fun t ht hW => ⟨_, rfl, h, ht⟩) (fun _ z => by cases z) d_Rd_sameName_77
set_option maxHeartbeats 4000000 in
set_option maxRecDepth 100000 in
theorem t_Rd_sameName_38 {p : Program} {l : Launch} {e : Env} {s : State} {m : MethodId} {args : Array Value} {below : List Frame} {meth : Method} {c : Code} {G : GX} {a0_0 a0_1 a0_2 a0_3 a1_0 a1_1 : Nat} {u0 : RdC} {u1 : RowC} {post : Int32 → Prop} (E : EN p s m args meth c G R_Rd cc_Rd_sameName 6 (some .boolean) BG) (hR : va_P G.1 vwCl [(a0_0, .inr (1, [.ref a0_1, .ref a0_2, .ref a0_3, .int (rdC u0), .int (rdK u0), .int (rdX u0), .int (rdD u0), .int (rdL u0)])), (a0_1, .inl (G.2.1 1, rdN u0, .inl (rdR u0))), (a0_2, .inl (G.2.1 1, rdN u0, .inl (rdB u0))), (a0_3, .inl (G.2.1 1, rdN u0, .inl (rdE u0))), (a1_0, .inr (2, [.ref a1_1, .int (rwS u1)])), (a1_1, .inl (G.2.1 0, rwN u1, .inl (rwF u1)))] s.heap) : ∀ (n : Nat) (y2 : Int32) (y3 : Int32) (y4 : Int32) (y5 : Int32) (ls : Array Slot), w_Rd_sameName_38 post u0 u1 n y2 y3 y4 y5 → lv_has ls 6 [(0, .ref a0_0), (1, .ref a1_0), (2, .int y2), (3, .int y3), (4, .int y4), (5, .int y5)] → W p l e rm_Rd_sameName s m args below meth c s.heap [] 0 0 (MQ below (vp_Si post) args s 0 0 (fun _ => False)) (F0 m 38 ls []) := by
  intro n
  induction n with
  | zero => intro y2 y3 y4 y5  ls h; exact h.elim
  | succ n ih =>
    intro y2 y3 y4 y5  ls h hl
    exact tb_Rd_sameName_38 E hR  ih _ _ _ _ _ h hl
set_option maxHeartbeats 4000000 in
set_option maxRecDepth 100000 in
theorem t_Rd_sameName_in {p : Program} {l : Launch} {e : Env} {s : State} {m : MethodId} {args : Array Value} {below : List Frame} {meth : Method} {c : Code} {G : GX} {a0_0 a0_1 a0_2 a0_3 a1_0 a1_1 : Nat} {u0 : RdC} {u1 : RowC} {post : Int32 → Prop} {x2 : Int32} {x3 : Int32} (E : EN p s m args meth c G R_Rd cc_Rd_sameName 6 (some .boolean) BG) (hR : va_P G.1 vwCl [(a0_0, .inr (1, [.ref a0_1, .ref a0_2, .ref a0_3, .int (rdC u0), .int (rdK u0), .int (rdX u0), .int (rdD u0), .int (rdL u0)])), (a0_1, .inl (G.2.1 1, rdN u0, .inl (rdR u0))), (a0_2, .inl (G.2.1 1, rdN u0, .inl (rdB u0))), (a0_3, .inl (G.2.1 1, rdN u0, .inl (rdE u0))), (a1_0, .inr (2, [.ref a1_1, .int (rwS u1)])), (a1_1, .inl (G.2.1 0, rwN u1, .inl (rwF u1)))] s.heap) : ∀ (ls : Array Slot), wp_Rd_sameName post u0 u1 x2 x3 → lv_has ls 6 [(0, .ref a0_0), (1, .ref a1_0), (2, .int x2), (3, .int x3)] → W p l e rm_Rd_sameName s m args below meth c s.heap [] 0 0 (MQ below (vp_Si post) args s 0 0 (fun _ => False)) (F0 m 0 ls []) := by
  obtain ⟨hx, hb, hr, hts, hown, hlocks, hml, hC⟩ := id E
  have hK := hC.1
  intro ls h hl
  unfold wp_Rd_sameName at h
  refine lv_aload_n hx hb d_Rd_sameName_0 rfl (lv_at hl 0 rfl) ?_
  refine va_get (D := G.1) (ci := 1) (v := .ref a0_3) (C := R_Rd) (T := T_Rd) (N := 8) hx hb hts i_Rd hown hK hR 0 rfl rfl 2 (by decide) (hts _ b_134) (fun _ h9 => h9) rfl d_Rd_sameName_1 ?_
  refine lv_iload_n hx hb d_Rd_sameName_4 rfl (lv_at hl 2 rfl) ?_
  have hi9 := h.1
  have h := h.2
  refine va_iald hx hb hK hR 3 1 rfl rfl hi9 d_Rd_sameName_5 ?_
  refine lv_aload_n hx hb d_Rd_sameName_6 rfl (lv_at hl 0 rfl) ?_
  refine va_get (D := G.1) (ci := 1) (v := .ref a0_2) (C := R_Rd) (T := T_Rd) (N := 8) hx hb hts i_Rd hown hK hR 0 rfl rfl 1 (by decide) (hts _ b_135) (fun _ h9 => h9) rfl d_Rd_sameName_7 ?_
  refine lv_iload_n hx hb d_Rd_sameName_10 rfl (lv_at hl 2 rfl) ?_
  have hi9 := h.1
  have h := h.2
  refine va_iald hx hb hK hR 2 1 rfl rfl hi9 d_Rd_sameName_11 ?_
  refine lv_isub hx hb d_Rd_sameName_12 ?_
  refine lv_istore (lv' := [(4, .int (((rdE u0) x2.toNatClampNeg) - ((rdB u0) x2.toNatClampNeg))), (0, .ref a0_0), (1, .ref a1_0), (2, .int x2), (3, .int x3)]) hx hb d_Rd_sameName_13 hl (by decide) rfl (fun ls hl => ?_)
  refine lv_iload hx hb d_Rd_sameName_15 (lv_at hl 0 rfl) ?_
  refine lv_aload_n hx hb d_Rd_sameName_17 rfl (lv_at hl 1 rfl) ?_
  refine va_get (D := G.1) (ci := 1) (v := .ref a0_3) (C := R_Rd) (T := T_Rd) (N := 8) hx hb hts i_Rd hown hK hR 0 rfl rfl 2 (by decide) (hts _ b_134) (fun _ h9 => h9) rfl d_Rd_sameName_18 ?_
  refine lv_iload_n hx hb d_Rd_sameName_21 rfl (lv_at hl 4 rfl) ?_
  have hi9 := h.1
  have h := h.2
  refine va_iald hx hb hK hR 3 1 rfl rfl hi9 d_Rd_sameName_22 ?_
  refine lv_aload_n hx hb d_Rd_sameName_23 rfl (lv_at hl 1 rfl) ?_
  refine va_get (D := G.1) (ci := 1) (v := .ref a0_2) (C := R_Rd) (T := T_Rd) (N := 8) hx hb hts i_Rd hown hK hR 0 rfl rfl 1 (by decide) (hts _ b_135) (fun _ h9 => h9) rfl d_Rd_sameName_24 ?_
  refine lv_iload_n hx hb d_Rd_sameName_27 rfl (lv_at hl 4 rfl) ?_
  have hi9 := h.1
  have h := h.2
  refine va_iald hx hb hK hR 2 1 rfl rfl hi9 d_Rd_sameName_28 ?_
  refine lv_isub hx hb d_Rd_sameName_29 ?_
  refine lv_icmp_eq (tgt := 35) hx hb d_Rd_sameName_30 (by decide) (fun c9 => ?_) (fun c9 => ?_)
  · have h := h.1 c9
    refine lv_iconst (v := 0) hx hb d_Rd_sameName_35 (by decide) ?_
    refine lv_istore (lv' := [(5, .int 0), (4, .int (((rdE u0) x2.toNatClampNeg) - ((rdB u0) x2.toNatClampNeg))), (0, .ref a0_0), (1, .ref a1_0), (2, .int x2), (3, .int x3)]) hx hb d_Rd_sameName_36 hl (by decide) rfl (fun ls hl => ?_)
    obtain ⟨n, h⟩ := h
    exact t_Rd_sameName_38 E hR  n _ _ _ _ _ h (lv_sub hl [2, 3, 4, 5, 1, 0] rfl)
  · have h := h.2 c9
    refine lv_iconst (v := 0) hx hb d_Rd_sameName_33 (by decide) ?_
    exact W.zret hx hb hr (by decide) (fun t ht hW => ⟨_, rfl, h, ht⟩) (fun _ z => by cases z) d_Rd_sameName_34
set_option maxHeartbeats 4000000 in
set_option maxRecDepth 100000 in
theorem c_Rd_sameName (l : Launch) (G : GX) (a0_0 a0_1 a0_2 a0_3 a1_0 a1_1 : Nat) (u0 : RdC) (u1 : RowC) (x2 : Int32) (x3 : Int32) (post : Int32 → Prop) (h : wp_Rd_sameName post u0 u1 x2 x3) : Met l y_Rd_sameName wc_Rd_sameName rm_Rd_sameName (mP G [.ref a0_0, .ref a1_0, .int x2, .int x3] [(a0_0, .inr (1, [.ref a0_1, .ref a0_2, .ref a0_3, .int (rdC u0), .int (rdK u0), .int (rdX u0), .int (rdD u0), .int (rdL u0)])), (a0_1, .inl (G.2.1 1, rdN u0, .inl (rdR u0))), (a0_2, .inl (G.2.1 1, rdN u0, .inl (rdB u0))), (a0_3, .inl (G.2.1 1, rdN u0, .inl (rdE u0))), (a1_0, .inr (2, [.ref a1_1, .int (rwS u1)])), (a1_1, .inl (G.2.1 0, rwN u1, .inl (rwF u1)))]) (vp_Si post) 0 0 (fun _ => False) := by
  refine Met.ofW (cc := cc_Rd_sameName) (maxL := 6) (ret := (some .boolean)) (by decide) rfl ?_
  intro p e s m args below meth c s₁ B hml hv
  obtain ⟨rfl, hC, hR⟩ := hv
  have E : EN p s m ([.ref a0_0, .ref a1_0, .int x2, .int x3] : List Value).toArray meth c G R_Rd cc_Rd_sameName 6 (some .boolean) BG := ⟨B.exec, B.bytes, B.returns, fun w h => atoms_spec (ws := wc_Rd_sameName) B.pre w (List.mem_cons_of_mem _ h), findClass_of_methodNamed B.named, B.notSynchronized, hml, hC⟩
  have hl := lv_entry ([.ref a0_0, .ref a1_0, .int x2, .int x3]) (n := 6) (Nat.le_of_ble_eq_true rfl)
  rw [lg_entry_eq]
  generalize (lg_sl ([.ref a0_0, .ref a1_0, .int x2, .int x3]) ++ List.replicate (6 - (lg_sl ([.ref a0_0, .ref a1_0, .int x2, .int x3])).length) Slot.unset).toArray = ls at hl ⊢
  have hl : lv_has ls 6 [(0, .ref a0_0), (1, .ref a1_0), (2, .int x2), (3, .int x3)] := hl
  exact t_Rd_sameName_in E hR _ h hl
set_option maxHeartbeats 4000000 in
set_option maxRecDepth 100000 in
theorem tb_Rd_nameIsTaken_2 {p : Program} {l : Launch} {e : Env} {s : State} {m : MethodId} {args : Array Value} {below : List Frame} {meth : Method} {c : Code} {G : GX} {a0_0 a0_1 a0_2 a0_3 a1_0 a1_1 : Nat} {u0 : RdC} {u1 : RowC} {post : Int32 → Prop} (E : EN p s m args meth c G R_Rd cc_Rd_nameIsTaken 3 (some .boolean) BG) (hR : va_P G.1 vwCl [(a0_0, .inr (1, [.ref a0_1, .ref a0_2, .ref a0_3, .int (rdC u0), .int (rdK u0), .int (rdX u0), .int (rdD u0), .int (rdL u0)])), (a0_1, .inl (G.2.1 1, rdN u0, .inl (rdR u0))), (a0_2, .inl (G.2.1 1, rdN u0, .inl (rdB u0))), (a0_3, .inl (G.2.1 1, rdN u0, .inl (rdE u0))), (a1_0, .inr (2, [.ref a1_1, .int (rwS u1)])), (a1_1, .inl (G.2.1 0, rwN u1, .inl (rwF u1)))] s.heap) {K0 : Int32 → Prop} (hK0 : ∀ (y2 : Int32) (ls : Array Slot), K0 y2 → lv_has ls 3 [(0, .ref a0_0), (1, .ref a1_0), (2, .int y2)] → W p l e rm_Rd_nameIsTaken s m args below meth c s.heap [] 0 0 (MQ below (vp_Si post) args s 0 0 (fun _ => False)) (F0 m 2 ls [])) : ∀ (y2 : Int32) (ls : Array Slot), wb_Rd_nameIsTaken_2 post u0 u1 K0 y2 → lv_has ls 3 [(0, .ref a0_0), (1, .ref a1_0), (2, .int y2)] → W p l e rm_Rd_nameIsTaken s m args below meth c s.heap [] 0 0 (MQ below (vp_Si post) args s 0 0 (fun _ => False)) (F0 m 2 ls []) := by
  obtain ⟨hx, hb, hr, hts, hown, hlocks, hml, hC⟩ := id E
  have hK := hC.1
  intro y2  ls h hl
  unfold wb_Rd_nameIsTaken_2 at h
  refine lv_iload_n hx hb d_Rd_nameIsTaken_2 rfl (lv_at hl 2 rfl) ?_
  refine lv_aload_n hx hb d_Rd_nameIsTaken_3 rfl (lv_at hl 0 rfl) ?_
  refine va_get (D := G.1) (ci := 1) (v := .int (rdC u0)) (C := R_Rd) (T := T_Rd) (N := 8) hx hb hts i_Rd hown hK hR 0 rfl rfl 3 (by decide) (hts _ b_136) (fun _ h9 => h9) rfl d_Rd_nameIsTaken_4 ?_
  refine lv_iconst (v := 1) hx hb d_Rd_nameIsTaken_7 (by decide) ?_
  refine lv_isub hx hb d_Rd_nameIsTaken_8 ?_
  refine lv_icmp_ge (tgt := 35) hx hb d_Rd_nameIsTaken_9 (by decide) (fun c9 => ?_) (fun c9 => ?_)
  · have h := h.1 c9
    refine lv_iconst (v := 0) hx hb d_Rd_nameIsTaken_35 (by decide) ?_
    exact W.zret hx hb hr (by decide) (fun t ht hW => ⟨_, rfl, h, ht⟩) (fun _ z => by cases z) d_Rd_nameIsTaken_36
  · have h := h.2 c9
    refine lv_aload_n hx hb d_Rd_nameIsTaken_12 rfl (lv_at hl 0 rfl) ?_
    refine lv_aload_n hx hb d_Rd_nameIsTaken_13 rfl (lv_at hl 1 rfl) ?_
    refine lv_iload_n hx hb d_Rd_nameIsTaken_14 rfl (lv_at hl 2 rfl) ?_
    refine lv_aload_n hx hb d_Rd_nameIsTaken_15 rfl (lv_at hl 0 rfl) ?_
    refine va_get (D := G.1) (ci := 1) (v := .int (rdC u0)) (C := R_Rd) (T := T_Rd) (N := 8) hx hb hts i_Rd hown hK hR 0 rfl rfl 3 (by decide) (hts _ b_136) (fun _ h9 => h9) rfl d_Rd_nameIsTaken_16 ?_
    refine lv_iconst (v := 1) hx hb d_Rd_nameIsTaken_19 (by decide) ?_
    refine lv_isub hx hb d_Rd_nameIsTaken_20 ?_
    have hRc : va_P G.1 vwCl [(a0_0, .inr (1, [.ref a0_1, .ref a0_2, .ref a0_3, .int (rdC u0), .int (rdK u0), .int (rdX u0), .int (rdD u0), .int (rdL u0)])), (a0_1, .inl (G.2.1 1, rdN u0, .inl (rdR u0))), (a0_2, .inl (G.2.1 1, rdN u0, .inl (rdB u0))), (a0_3, .inl (G.2.1 1, rdN u0, .inl (rdE u0))), (a1_0, .inr (2, [.ref a1_1, .int (rwS u1)])), (a1_1, .inl (G.2.1 0, rwN u1, .inl (rwF u1)))] s.heap := (hR.sub (ws' := [(a0_0, .inr (1, [.ref a0_1, .ref a0_2, .ref a0_3, .int (rdC u0), .int (rdK u0), .int (rdX u0), .int (rdD u0), .int (rdL u0)])), (a0_1, .inl (G.2.1 1, rdN u0, .inl (rdR u0))), (a0_2, .inl (G.2.1 1, rdN u0, .inl (rdB u0))), (a0_3, .inl (G.2.1 1, rdN u0, .inl (rdE u0))), (a1_0, .inr (2, [.ref a1_1, .int (rwS u1)])), (a1_1, .inl (G.2.1 0, rwN u1, .inl (rwF u1)))]) [0, 1, 2, 3, 4, 5] rfl)
    refine vp_callSi (va_runV (As := [.ref a1_0, .int y2, .int ((rdC u0) - 1)]) (rest := []) ⟨hx, hb, hml, hown, hts⟩ (c_Rd_sameName l G a0_0 a0_1 a0_2 a0_3 a1_0 a1_1 u0 u1 y2 ((rdC u0) - 1) _ h) (cwV 3 hts (gwV b_138 b_139 b_140 b_90 b_137) rfl rfl rfl hd_Rd_sameName ⟨Nat.le_of_ble_eq_true rfl, Nat.le_of_ble_eq_true rfl⟩) ⟨mP_blind, va_recv hK hRc (ci := 1) (q0 := 0) rfl rfl, fun U hU hW => ⟨rfl, hC.to0 hW hU, by rw [hU]; exact hRc⟩⟩ rfl rfl hl.1 rfl (lv_room (Nat.le_of_ble_eq_true rfl)) d_Rd_nameIsTaken_21 ⟨Nat.le_of_ble_eq_true rfl, Nat.le_of_ble_eq_true rfl⟩).run (fun r2 h => ?_)
    refine lv_if_eq (tgt := 29) hx hb d_Rd_nameIsTaken_24 (by decide) (fun c9 => ?_) (fun c9 => ?_)
    · have h := h.1 c9
      refine lv_iinc (v := y2 + 1) (lv' := [(2, .int (y2 + 1)), (0, .ref a0_0), (1, .ref a1_0)]) hx hb d_Rd_nameIsTaken_29 hl (k := 2) rfl rfl (by decide) rfl (fun ls hl => ?_)
      refine lv_goto (tgt := 2) hx hb d_Rd_nameIsTaken_32 (by decide) ?_
      exact hK0 _ _ h (lv_sub hl [1, 2, 0] rfl)
    · have h := h.2 c9
      refine lv_iconst (v := 1) hx hb d_Rd_nameIsTaken_27 (by decide) ?_
      exact W.zret hx hb hr (by decide) (fun t ht hW => ⟨_, rfl, h, ht⟩) (fun _ z => by cases z) d_Rd_nameIsTaken_28
set_option maxHeartbeats 4000000 in
set_option maxRecDepth 100000 in
theorem t_Rd_nameIsTaken_2 {p : Program} {l : Launch} {e : Env} {s : State} {m : MethodId} {args : Array Value} {below : List Frame} {meth : Method} {c : Code} {G : GX} {a0_0 a0_1 a0_2 a0_3 a1_0 a1_1 : Nat} {u0 : RdC} {u1 : RowC} {post : Int32 → Prop} (E : EN p s m args meth c G R_Rd cc_Rd_nameIsTaken 3 (some .boolean) BG) (hR : va_P G.1 vwCl [(a0_0, .inr (1, [.ref a0_1, .ref a0_2, .ref a0_3, .int (rdC u0), .int (rdK u0), .int (rdX u0), .int (rdD u0), .int (rdL u0)])), (a0_1, .inl (G.2.1 1, rdN u0, .inl (rdR u0))), (a0_2, .inl (G.2.1 1, rdN u0, .inl (rdB u0))), (a0_3, .inl (G.2.1 1, rdN u0, .inl (rdE u0))), (a1_0, .inr (2, [.ref a1_1, .int (rwS u1)])), (a1_1, .inl (G.2.1 0, rwN u1, .inl (rwF u1)))] s.heap) : ∀ (n : Nat) (y2 : Int32) (ls : Array Slot), w_Rd_nameIsTaken_2 post u0 u1 n y2 → lv_has ls 3 [(0, .ref a0_0), (1, .ref a1_0), (2, .int y2)] → W p l e rm_Rd_nameIsTaken s m args below meth c s.heap [] 0 0 (MQ below (vp_Si post) args s 0 0 (fun _ => False)) (F0 m 2 ls []) := by
  intro n
  induction n with
  | zero => intro y2  ls h; exact h.elim
  | succ n ih =>
    intro y2  ls h hl
    exact tb_Rd_nameIsTaken_2 E hR  ih _ _ h hl
set_option maxHeartbeats 4000000 in
set_option maxRecDepth 100000 in
theorem t_Rd_nameIsTaken_in {p : Program} {l : Launch} {e : Env} {s : State} {m : MethodId} {args : Array Value} {below : List Frame} {meth : Method} {c : Code} {G : GX} {a0_0 a0_1 a0_2 a0_3 a1_0 a1_1 : Nat} {u0 : RdC} {u1 : RowC} {post : Int32 → Prop}  (E : EN p s m args meth c G R_Rd cc_Rd_nameIsTaken 3 (some .boolean) BG) (hR : va_P G.1 vwCl [(a0_0, .inr (1, [.ref a0_1, .ref a0_2, .ref a0_3, .int (rdC u0), .int (rdK u0), .int (rdX u0), .int (rdD u0), .int (rdL u0)])), (a0_1, .inl (G.2.1 1, rdN u0, .inl (rdR u0))), (a0_2, .inl (G.2.1 1, rdN u0, .inl (rdB u0))), (a0_3, .inl (G.2.1 1, rdN u0, .inl (rdE u0))), (a1_0, .inr (2, [.ref a1_1, .int (rwS u1)])), (a1_1, .inl (G.2.1 0, rwN u1, .inl (rwF u1)))] s.heap) : ∀ (ls : Array Slot), wp_Rd_nameIsTaken post u0 u1 → lv_has ls 3 [(0, .ref a0_0), (1, .ref a1_0)] → W p l e rm_Rd_nameIsTaken s m args below meth c s.heap [] 0 0 (MQ below (vp_Si post) args s 0 0 (fun _ => False)) (F0 m 0 ls []) := by
  obtain ⟨hx, hb, hr, hts, hown, hlocks, hml, hC⟩ := id E
  have hK := hC.1
  intro ls h hl
  unfold wp_Rd_nameIsTaken at h
  refine lv_iconst (v := 0) hx hb d_Rd_nameIsTaken_0 (by decide) ?_
  refine lv_istore_n (lv' := [(2, .int 0), (0, .ref a0_0), (1, .ref a1_0)]) hx hb d_Rd_nameIsTaken_1 rfl hl (by decide) rfl (fun ls hl => ?_)
  obtain ⟨n, h⟩ := h
  exact t_Rd_nameIsTaken_2 E hR  n _ _ h (lv_sub hl [1, 2, 0] rfl)
set_option maxHeartbeats 4000000 in
set_option maxRecDepth 100000 in
theorem c_Rd_nameIsTaken (l : Launch) (G : GX) (a0_0 a0_1 a0_2 a0_3 a1_0 a1_1 : Nat) (u0 : RdC) (u1 : RowC) (post : Int32 → Prop) (h : wp_Rd_nameIsTaken post u0 u1) : Met l y_Rd_nameIsTaken wc_Rd_nameIsTaken rm_Rd_nameIsTaken (mP G [.ref a0_0, .ref a1_0] [(a0_0, .inr (1, [.ref a0_1, .ref a0_2, .ref a0_3, .int (rdC u0), .int (rdK u0), .int (rdX u0), .int (rdD u0), .int (rdL u0)])), (a0_1, .inl (G.2.1 1, rdN u0, .inl (rdR u0))), (a0_2, .inl (G.2.1 1, rdN u0, .inl (rdB u0))), (a0_3, .inl (G.2.1 1, rdN u0, .inl (rdE u0))), (a1_0, .inr (2, [.ref a1_1, .int (rwS u1)])), (a1_1, .inl (G.2.1 0, rwN u1, .inl (rwF u1)))]) (vp_Si post) 0 0 (fun _ => False) := by
  refine Met.ofW (cc := cc_Rd_nameIsTaken) (maxL := 3) (ret := (some .boolean)) (by decide) rfl ?_
  intro p e s m args below meth c s₁ B hml hv
  obtain ⟨rfl, hC, hR⟩ := hv
  have E : EN p s m ([.ref a0_0, .ref a1_0] : List Value).toArray meth c G R_Rd cc_Rd_nameIsTaken 3 (some .boolean) BG := ⟨B.exec, B.bytes, B.returns, fun w h => atoms_spec (ws := wc_Rd_nameIsTaken) B.pre w (List.mem_cons_of_mem _ h), findClass_of_methodNamed B.named, B.notSynchronized, hml, hC⟩
  have hl := lv_entry ([.ref a0_0, .ref a1_0]) (n := 3) (Nat.le_of_ble_eq_true rfl)
  rw [lg_entry_eq]
  generalize (lg_sl ([.ref a0_0, .ref a1_0]) ++ List.replicate (3 - (lg_sl ([.ref a0_0, .ref a1_0])).length) Slot.unset).toArray = ls at hl ⊢
  have hl : lv_has ls 3 [(0, .ref a0_0), (1, .ref a1_0)] := hl
  exact t_Rd_nameIsTaken_in E hR _ h hl
set_option maxHeartbeats 4000000 in
set_option maxRecDepth 100000 in
theorem t_Rd_mayEnd_29 {p : Program} {l : Launch} {e : Env} {s : State} {m : MethodId} {args : Array Value} {below : List Frame} {meth : Method} {c : Code} {G : GX} {a0_0 a0_1 a0_2 a0_3 : Nat} {u0 : RdC} {post : Int32 → Prop} (E : EN p s m args meth c G R_Rd cc_Rd_mayEnd 2 (some .boolean) BG) (hR : va_P G.1 vwCl [(a0_0, .inr (1, [.ref a0_1, .ref a0_2, .ref a0_3, .int (rdC u0), .int (rdK u0), .int (rdX u0), .int (rdD u0), .int (rdL u0)])), (a0_1, .inl (G.2.1 1, rdN u0, .inl (rdR u0))), (a0_2, .inl (G.2.1 1, rdN u0, .inl (rdB u0))), (a0_3, .inl (G.2.1 1, rdN u0, .inl (rdE u0)))] s.heap) : ∀ (z0 : Int32) (ls : Array Slot), w_Rd_mayEnd_29 post u0 z0 → lv_has ls 2 [(0, .ref a0_0)] → W p l e rm_Rd_mayEnd s m args below meth c s.heap [] 0 0 (MQ below (vp_Si post) args s 0 0 (fun _ => False)) (F0 m 29 ls [.int z0]) := by
  obtain ⟨hx, hb, hr, hts, hown, hlocks, hml, hC⟩ := id E
  have hK := hC.1
  intro z0  ls h hl
  unfold w_Rd_mayEnd_29 at h
  refine lv_istore_n (lv' := [(1, .int z0), (0, .ref a0_0)]) hx hb d_Rd_mayEnd_29 rfl hl (by decide) rfl (fun ls hl => ?_)
  refine lv_iload_n hx hb d_Rd_mayEnd_30 rfl (lv_at hl 0 rfl) ?_
  refine lv_if_eq (tgt := 55) hx hb d_Rd_mayEnd_31 (by decide) (fun c9 => ?_) (fun c9 => ?_)
  · have h := h.1 c9
    refine lv_iconst (v := 0) hx hb d_Rd_mayEnd_55 (by decide) ?_
    exact W.zret hx hb hr (by decide) (fun t ht hW => ⟨_, rfl, h, ht⟩) (fun _ z => by cases z) d_Rd_mayEnd_56
  · have h := h.2 c9
    refine lv_aload_n hx hb d_Rd_mayEnd_34 rfl (lv_at hl 1 rfl) ?_
    refine va_get (D := G.1) (ci := 1) (v := .int (rdD u0)) (C := R_Rd) (T := T_Rd) (N := 8) hx hb hts i_Rd hown hK hR 0 rfl rfl 6 (by decide) (hts _ b_103) (fun _ h9 => h9) rfl d_Rd_mayEnd_35 ?_
    refine lv_if_ne (tgt := 55) hx hb d_Rd_mayEnd_38 (by decide) (fun c9 => ?_) (fun c9 => ?_)
    · have h := h.1 c9
      refine lv_iconst (v := 0) hx hb d_Rd_mayEnd_55 (by decide) ?_
      exact W.zret hx hb hr (by decide) (fun t ht hW => ⟨_, rfl, h, ht⟩) (fun _ z => by cases z) d_Rd_mayEnd_56
    · have h := h.2 c9
      refine lv_aload_n hx hb d_Rd_mayEnd_41 rfl (lv_at hl 1 rfl) ?_
      refine va_get (D := G.1) (ci := 1) (v := .int (rdL u0)) (C := R_Rd) (T := T_Rd) (N := 8) hx hb hts i_Rd hown hK hR 0 rfl rfl 7 (by decide) (hts _ b_116) (fun _ h9 => h9) rfl d_Rd_mayEnd_42 ?_
      have hRc : va_P G.1 vwCl [] s.heap := vaP_nil
      refine vp_callSi (va_runSN (As := [.int (rdL u0)]) (rest := []) ⟨hx, hb, hml, hown, hts⟩ (c_endsItem l G (rdL u0) _ h) ⟨va_cnB 1 hts (gwC b_141) rfl rfl rfl (nm9_1 hC) (hts _ b_51) hd_Fo_endsItem.2 ⟨Nat.le_of_ble_eq_true rfl, Nat.le_of_ble_eq_true rfl⟩, hts _ b_142, trivial⟩ ⟨mP_blind, fun U hU hW => ⟨rfl, hC.to0 hW hU, by rw [hU]; exact hRc⟩⟩ rfl rfl hl.1 rfl (lv_room (Nat.le_of_ble_eq_true rfl)) d_Rd_mayEnd_45 ⟨Nat.le_of_ble_eq_true rfl, Nat.le_of_ble_eq_true rfl⟩).run (fun r2 h => ?_)
      refine lv_if_eq (tgt := 55) hx hb d_Rd_mayEnd_48 (by decide) (fun c9 => ?_) (fun c9 => ?_)
      · have h := h.1 c9
        refine lv_iconst (v := 0) hx hb d_Rd_mayEnd_55 (by decide) ?_
        exact W.zret hx hb hr (by decide) (fun t ht hW => ⟨_, rfl, h, ht⟩) (fun _ z => by cases z) d_Rd_mayEnd_56
      · have h := h.2 c9
        refine lv_iconst (v := 1) hx hb d_Rd_mayEnd_51 (by decide) ?_
        refine lv_goto (tgt := 56) hx hb d_Rd_mayEnd_52 (by decide) ?_
        exact W.zret hx hb hr (by decide) (fun t ht hW => ⟨_, rfl, h, ht⟩) (fun _ z => by cases z) d_Rd_mayEnd_56
set_option maxHeartbeats 4000000 in
set_option maxRecDepth 100000 in
theorem t_Rd_mayEnd_24 {p : Program} {l : Launch} {e : Env} {s : State} {m : MethodId} {args : Array Value} {below : List Frame} {meth : Method} {c : Code} {G : GX} {a0_0 a0_1 a0_2 a0_3 : Nat} {u0 : RdC} {post : Int32 → Prop} (E : EN p s m args meth c G R_Rd cc_Rd_mayEnd 2 (some .boolean) BG) (hR : va_P G.1 vwCl [(a0_0, .inr (1, [.ref a0_1, .ref a0_2, .ref a0_3, .int (rdC u0), .int (rdK u0), .int (rdX u0), .int (rdD u0), .int (rdL u0)])), (a0_1, .inl (G.2.1 1, rdN u0, .inl (rdR u0))), (a0_2, .inl (G.2.1 1, rdN u0, .inl (rdB u0))), (a0_3, .inl (G.2.1 1, rdN u0, .inl (rdE u0)))] s.heap) : ∀ (ls : Array Slot), w_Rd_mayEnd_24 post u0 → lv_has ls 2 [(0, .ref a0_0)] → W p l e rm_Rd_mayEnd s m args below meth c s.heap [] 0 0 (MQ below (vp_Si post) args s 0 0 (fun _ => False)) (F0 m 24 ls []) := by
  obtain ⟨hx, hb, hr, hts, hown, hlocks, hml, hC⟩ := id E
  have hK := hC.1
  intro   ls h hl
  unfold w_Rd_mayEnd_24 at h
  refine lv_iconst (v := 1) hx hb d_Rd_mayEnd_24 (by decide) ?_
  refine lv_goto (tgt := 29) hx hb d_Rd_mayEnd_25 (by decide) ?_
  exact t_Rd_mayEnd_29 E hR  _ _ h (lv_sub hl [0] rfl)
set_option maxHeartbeats 4000000 in
set_option maxRecDepth 100000 in
theorem t_Rd_mayEnd_28 {p : Program} {l : Launch} {e : Env} {s : State} {m : MethodId} {args : Array Value} {below : List Frame} {meth : Method} {c : Code} {G : GX} {a0_0 a0_1 a0_2 a0_3 : Nat} {u0 : RdC} {post : Int32 → Prop} (E : EN p s m args meth c G R_Rd cc_Rd_mayEnd 2 (some .boolean) BG) (hR : va_P G.1 vwCl [(a0_0, .inr (1, [.ref a0_1, .ref a0_2, .ref a0_3, .int (rdC u0), .int (rdK u0), .int (rdX u0), .int (rdD u0), .int (rdL u0)])), (a0_1, .inl (G.2.1 1, rdN u0, .inl (rdR u0))), (a0_2, .inl (G.2.1 1, rdN u0, .inl (rdB u0))), (a0_3, .inl (G.2.1 1, rdN u0, .inl (rdE u0)))] s.heap) : ∀ (ls : Array Slot), w_Rd_mayEnd_28 post u0 → lv_has ls 2 [(0, .ref a0_0)] → W p l e rm_Rd_mayEnd s m args below meth c s.heap [] 0 0 (MQ below (vp_Si post) args s 0 0 (fun _ => False)) (F0 m 28 ls []) := by
  obtain ⟨hx, hb, hr, hts, hown, hlocks, hml, hC⟩ := id E
  have hK := hC.1
  intro   ls h hl
  unfold w_Rd_mayEnd_28 at h
  refine lv_iconst (v := 0) hx hb d_Rd_mayEnd_28 (by decide) ?_
  exact t_Rd_mayEnd_29 E hR  _ _ h (lv_sub hl [0] rfl)
set_option maxHeartbeats 4000000 in
set_option maxRecDepth 100000 in
theorem t_Rd_mayEnd_in {p : Program} {l : Launch} {e : Env} {s : State} {m : MethodId} {args : Array Value} {below : List Frame} {meth : Method} {c : Code} {G : GX} {a0_0 a0_1 a0_2 a0_3 : Nat} {u0 : RdC} {post : Int32 → Prop}  (E : EN p s m args meth c G R_Rd cc_Rd_mayEnd 2 (some .boolean) BG) (hR : va_P G.1 vwCl [(a0_0, .inr (1, [.ref a0_1, .ref a0_2, .ref a0_3, .int (rdC u0), .int (rdK u0), .int (rdX u0), .int (rdD u0), .int (rdL u0)])), (a0_1, .inl (G.2.1 1, rdN u0, .inl (rdR u0))), (a0_2, .inl (G.2.1 1, rdN u0, .inl (rdB u0))), (a0_3, .inl (G.2.1 1, rdN u0, .inl (rdE u0)))] s.heap) : ∀ (ls : Array Slot), wp_Rd_mayEnd post u0 → lv_has ls 2 [(0, .ref a0_0)] → W p l e rm_Rd_mayEnd s m args below meth c s.heap [] 0 0 (MQ below (vp_Si post) args s 0 0 (fun _ => False)) (F0 m 0 ls []) := by
  obtain ⟨hx, hb, hr, hts, hown, hlocks, hml, hC⟩ := id E
  have hK := hC.1
  intro ls h hl
  unfold wp_Rd_mayEnd at h
  refine lv_aload_n hx hb d_Rd_mayEnd_0 rfl (lv_at hl 0 rfl) ?_
  refine va_get (D := G.1) (ci := 1) (v := .int (rdX u0)) (C := R_Rd) (T := T_Rd) (N := 8) hx hb hts i_Rd hown hK hR 0 rfl rfl 5 (by decide) (hts _ b_104) (fun _ h9 => h9) rfl d_Rd_mayEnd_1 ?_
  refine lv_iconst (v := 3) hx hb d_Rd_mayEnd_4 (by decide) ?_
  refine lv_icmp_eq (tgt := 24) hx hb d_Rd_mayEnd_5 (by decide) (fun c9 => ?_) (fun c9 => ?_)
  · have h := h.1 c9
    exact t_Rd_mayEnd_24 E hR  _ h (lv_sub hl [0] rfl)
  · have h := h.2 c9
    refine lv_aload_n hx hb d_Rd_mayEnd_8 rfl (lv_at hl 0 rfl) ?_
    refine va_get (D := G.1) (ci := 1) (v := .int (rdX u0)) (C := R_Rd) (T := T_Rd) (N := 8) hx hb hts i_Rd hown hK hR 0 rfl rfl 5 (by decide) (hts _ b_104) (fun _ h9 => h9) rfl d_Rd_mayEnd_9 ?_
    refine lv_iconst (v := 1) hx hb d_Rd_mayEnd_12 (by decide) ?_
    refine lv_icmp_ne (tgt := 28) hx hb d_Rd_mayEnd_13 (by decide) (fun c9 => ?_) (fun c9 => ?_)
    · have h := h.1 c9
      exact t_Rd_mayEnd_28 E hR  _ h (lv_sub hl [0] rfl)
    · have h := h.2 c9
      refine lv_aload_n hx hb d_Rd_mayEnd_16 rfl (lv_at hl 0 rfl) ?_
      refine va_get (D := G.1) (ci := 1) (v := .int (rdK u0)) (C := R_Rd) (T := T_Rd) (N := 8) hx hb hts i_Rd hown hK hR 0 rfl rfl 4 (by decide) (hts _ b_111) (fun _ h9 => h9) rfl d_Rd_mayEnd_17 ?_
      refine lv_iconst (v := 1) hx hb d_Rd_mayEnd_20 (by decide) ?_
      refine lv_icmp_eq (tgt := 28) hx hb d_Rd_mayEnd_21 (by decide) (fun c9 => ?_) (fun c9 => ?_)
      · have h := h.1 c9
        exact t_Rd_mayEnd_28 E hR  _ h (lv_sub hl [0] rfl)
      · have h := h.2 c9
        exact t_Rd_mayEnd_24 E hR  _ h (lv_sub hl [0] rfl)
set_option maxHeartbeats 4000000 in
set_option maxRecDepth 100000 in
theorem c_Rd_mayEnd (l : Launch) (G : GX) (a0_0 a0_1 a0_2 a0_3 : Nat) (u0 : RdC) (post : Int32 → Prop) (h : wp_Rd_mayEnd post u0) : Met l y_Rd_mayEnd wc_Rd_mayEnd rm_Rd_mayEnd (mP G [.ref a0_0] [(a0_0, .inr (1, [.ref a0_1, .ref a0_2, .ref a0_3, .int (rdC u0), .int (rdK u0), .int (rdX u0), .int (rdD u0), .int (rdL u0)])), (a0_1, .inl (G.2.1 1, rdN u0, .inl (rdR u0))), (a0_2, .inl (G.2.1 1, rdN u0, .inl (rdB u0))), (a0_3, .inl (G.2.1 1, rdN u0, .inl (rdE u0)))]) (vp_Si post) 0 0 (fun _ => False) := by
  refine Met.ofW (cc := cc_Rd_mayEnd) (maxL := 2) (ret := (some .boolean)) (by decide) rfl ?_
  intro p e s m args below meth c s₁ B hml hv
  obtain ⟨rfl, hC, hR⟩ := hv
  have E : EN p s m ([.ref a0_0] : List Value).toArray meth c G R_Rd cc_Rd_mayEnd 2 (some .boolean) BG := ⟨B.exec, B.bytes, B.returns, fun w h => atoms_spec (ws := wc_Rd_mayEnd) B.pre w (List.mem_cons_of_mem _ h), findClass_of_methodNamed B.named, B.notSynchronized, hml, hC⟩
  have hl := lv_entry ([.ref a0_0]) (n := 2) (Nat.le_of_ble_eq_true rfl)
  rw [lg_entry_eq]
  generalize (lg_sl ([.ref a0_0]) ++ List.replicate (2 - (lg_sl ([.ref a0_0])).length) Slot.unset).toArray = ls at hl ⊢
  have hl : lv_has ls 2 [(0, .ref a0_0)] := hl
  exact t_Rd_mayEnd_in E hR _ h hl
set_option maxHeartbeats 4000000 in
set_option maxRecDepth 100000 in
theorem t_Rd_noteName_40 {p : Program} {l : Launch} {e : Env} {s : State} {m : MethodId} {args : Array Value} {below : List Frame} {meth : Method} {c : Code} {G : GX} {a0_0 a0_1 a0_2 a0_3 : Nat} {post : RdC → Prop} {A : Nat → Prop} (E : EN p s m args meth c G R_Rd cc_Rd_noteName 2 none BG) (hR : va_P G.1 vwCl [] s.heap) (hA : ∀ q : Nat, s.heap.size ≤ q → A q) (hAB : ∀ q : Nat, A q → G.2.2.1 ≤ q) (hRn : ∀ (j : Nat) (q : Nat × va_E), ([] : va_W)[j]? = some q → ¬ A q.1) : ∀ (y1 : Int32) (w0 : RdC) (H : Heap) (locs : List Loc) (ls : Array Slot), w_Rd_noteName_40 post y1 w0 → va_P G.1 vwCl [(a0_0, .inr (1, [.ref a0_1, .ref a0_2, .ref a0_3, .int (rdC w0), .int (rdK w0), .int (rdX w0), .int (rdD w0), .int (rdL w0)])), (a0_1, .inl (G.2.1 1, rdN w0, .inl (rdR w0))), (a0_2, .inl (G.2.1 1, rdN w0, .inl (rdB w0))), (a0_3, .inl (G.2.1 1, rdN w0, .inl (rdE w0)))] H → va_D A [(a0_0, .inr (1, [.ref a0_1, .ref a0_2, .ref a0_3, .int (rdC w0), .int (rdK w0), .int (rdX w0), .int (rdD w0), .int (rdL w0)])), (a0_1, .inl (G.2.1 1, rdN w0, .inl (rdR w0))), (a0_2, .inl (G.2.1 1, rdN w0, .inl (rdB w0))), (a0_3, .inl (G.2.1 1, rdN w0, .inl (rdE w0)))] → va_S A s.heap H locs → lv_has ls 2 [(0, .ref a0_0), (1, .int y1)] → W p l e rm_Rd_noteName s m args below meth c H locs 0 0 (MQ below (va_Qv post (fun (u : RdC) (t : State) => va_P G.1 vwCl [(a0_0, .inr (1, [.ref a0_1, .ref a0_2, .ref a0_3, .int (rdC u), .int (rdK u), .int (rdX u), .int (rdD u), .int (rdL u)])), (a0_1, .inl (G.2.1 1, rdN u, .inl (rdR u))), (a0_2, .inl (G.2.1 1, rdN u, .inl (rdB u))), (a0_3, .inl (G.2.1 1, rdN u, .inl (rdE u)))] t.heap) A) args s 0 0 A) (F0 m 40 ls []) := by
  obtain ⟨hx, hb, hr, hts, hown, hlocks, hml, hC⟩ := id E
  have hK := hC.1
  intro y1 w0  H locs ls h hP hD hS hl
  unfold w_Rd_noteName_40 at h
  refine lv_aload_n hx hb d_Rd_noteName_40 rfl (lv_at hl 0 rfl) ?_
  refine va_get (D := G.1) (ci := 1) (v := .int (rdC w0)) (C := R_Rd) (T := T_Rd) (N := 8) hx hb hts i_Rd hown hK hP 0 rfl rfl 3 (by decide) (hts _ b_136) (fun _ h9 => h9) rfl d_Rd_noteName_41 ?_
  refine lv_if_le (tgt := 61) hx hb d_Rd_noteName_44 (by decide) (fun c9 => ?_) (fun c9 => ?_)
  · have h := h.1 c9
    exact W.vret hx hb hr (fun t ht hW => ⟨⟨_, rfl, h, vaP_at ht hP⟩, hS.F ht⟩) hS.2.2 d_Rd_noteName_61
  · have h := h.2 c9
    refine lv_aload_n hx hb d_Rd_noteName_47 rfl (lv_at hl 0 rfl) ?_
    refine va_get (D := G.1) (ci := 1) (v := .ref a0_3) (C := R_Rd) (T := T_Rd) (N := 8) hx hb hts i_Rd hown hK hP 0 rfl rfl 2 (by decide) (hts _ b_134) (fun _ h9 => h9) rfl d_Rd_noteName_48 ?_
    refine lv_aload_n hx hb d_Rd_noteName_51 rfl (lv_at hl 0 rfl) ?_
    refine va_get (D := G.1) (ci := 1) (v := .int (rdC w0)) (C := R_Rd) (T := T_Rd) (N := 8) hx hb hts i_Rd hown hK hP 0 rfl rfl 3 (by decide) (hts _ b_136) (fun _ h9 => h9) rfl d_Rd_noteName_52 ?_
    refine lv_iconst (v := 1) hx hb d_Rd_noteName_55 (by decide) ?_
    refine lv_isub hx hb d_Rd_noteName_56 ?_
    refine lv_iload_n hx hb d_Rd_noteName_57 rfl (lv_at hl 1 rfl) ?_
    refine lv_iconst (v := 1) hx hb d_Rd_noteName_58 (by decide) ?_
    refine lv_iadd hx hb d_Rd_noteName_59 ?_
    have hi9 := h.1
    have h := h.2
    refine va_iast hx hb hK hP hD hS 3 1 rfl rfl hi9 d_Rd_noteName_60 (fun H locs hP hD hS => ?_)
    have hP : va_P G.1 vwCl [(a0_0, .inr (1, [.ref a0_1, .ref a0_2, .ref a0_3, .int (rdC w0), .int (rdK w0), .int (rdX w0), .int (rdD w0), .int (rdL w0)])), (a0_1, .inl (G.2.1 1, rdN w0, .inl (rdR w0))), (a0_2, .inl (G.2.1 1, rdN w0, .inl (rdB w0))), (a0_3, .inl (G.2.1 1, rdN w0, .inl (upd (rdE w0) ((rdC w0) - 1).toNatClampNeg (y1 + 1))))] H := hP
    have hD : va_D A [(a0_0, .inr (1, [.ref a0_1, .ref a0_2, .ref a0_3, .int (rdC w0), .int (rdK w0), .int (rdX w0), .int (rdD w0), .int (rdL w0)])), (a0_1, .inl (G.2.1 1, rdN w0, .inl (rdR w0))), (a0_2, .inl (G.2.1 1, rdN w0, .inl (rdB w0))), (a0_3, .inl (G.2.1 1, rdN w0, .inl (upd (rdE w0) ((rdC w0) - 1).toNatClampNeg (y1 + 1))))] := hD
    exact W.vret hx hb hr (fun t ht hW => ⟨⟨_, rfl, h, vaP_at ht hP⟩, hS.F ht⟩) hS.2.2 d_Rd_noteName_61
set_option maxHeartbeats 4000000 in
set_option maxRecDepth 100000 in
theorem t_Rd_noteName_in {p : Program} {l : Launch} {e : Env} {s : State} {m : MethodId} {args : Array Value} {below : List Frame} {meth : Method} {c : Code} {G : GX} {a0_0 a0_1 a0_2 a0_3 : Nat} {post : RdC → Prop} {A : Nat → Prop} {u0 : RdC} {x1 : Int32} (E : EN p s m args meth c G R_Rd cc_Rd_noteName 2 none BG) (hR : va_P G.1 vwCl [] s.heap) (hA : ∀ q : Nat, s.heap.size ≤ q → A q) (hAB : ∀ q : Nat, A q → G.2.2.1 ≤ q) (hRn : ∀ (j : Nat) (q : Nat × va_E), ([] : va_W)[j]? = some q → ¬ A q.1) : ∀ (H : Heap) (locs : List Loc) (ls : Array Slot), wp_Rd_noteName post u0 x1 → va_P G.1 vwCl [(a0_0, .inr (1, [.ref a0_1, .ref a0_2, .ref a0_3, .int (rdC u0), .int (rdK u0), .int (rdX u0), .int (rdD u0), .int (rdL u0)])), (a0_1, .inl (G.2.1 1, rdN u0, .inl (rdR u0))), (a0_2, .inl (G.2.1 1, rdN u0, .inl (rdB u0))), (a0_3, .inl (G.2.1 1, rdN u0, .inl (rdE u0)))] H → va_D A [(a0_0, .inr (1, [.ref a0_1, .ref a0_2, .ref a0_3, .int (rdC u0), .int (rdK u0), .int (rdX u0), .int (rdD u0), .int (rdL u0)])), (a0_1, .inl (G.2.1 1, rdN u0, .inl (rdR u0))), (a0_2, .inl (G.2.1 1, rdN u0, .inl (rdB u0))), (a0_3, .inl (G.2.1 1, rdN u0, .inl (rdE u0)))] → va_S A s.heap H locs → lv_has ls 2 [(0, .ref a0_0), (1, .int x1)] → W p l e rm_Rd_noteName s m args below meth c H locs 0 0 (MQ below (va_Qv post (fun (u : RdC) (t : State) => va_P G.1 vwCl [(a0_0, .inr (1, [.ref a0_1, .ref a0_2, .ref a0_3, .int (rdC u), .int (rdK u), .int (rdX u), .int (rdD u), .int (rdL u)])), (a0_1, .inl (G.2.1 1, rdN u, .inl (rdR u))), (a0_2, .inl (G.2.1 1, rdN u, .inl (rdB u))), (a0_3, .inl (G.2.1 1, rdN u, .inl (rdE u)))] t.heap) A) args s 0 0 A) (F0 m 0 ls []) := by
  obtain ⟨hx, hb, hr, hts, hown, hlocks, hml, hC⟩ := id E
  have hK := hC.1
  intro H locs ls h hP hD hS hl
  unfold wp_Rd_noteName at h
  refine lv_aload_n hx hb d_Rd_noteName_0 rfl (lv_at hl 0 rfl) ?_
  refine va_get (D := G.1) (ci := 1) (v := .int (rdL u0)) (C := R_Rd) (T := T_Rd) (N := 8) hx hb hts i_Rd hown hK hP 0 rfl rfl 7 (by decide) (hts _ b_116) (fun _ h9 => h9) rfl d_Rd_noteName_1 ?_
  refine lv_iconst (v := 2) hx hb d_Rd_noteName_4 (by decide) ?_
  refine lv_icmp_eq (tgt := 40) hx hb d_Rd_noteName_5 (by decide) (fun c9 => ?_) (fun c9 => ?_)
  · have h := h.1 c9
    exact t_Rd_noteName_40 E hR hA hAB hRn  _ _ _ _ _ h hP hD hS (lv_sub hl [0, 1] rfl)
  · have h := h.2 c9
    refine lv_aload_n hx hb d_Rd_noteName_8 rfl (lv_at hl 0 rfl) ?_
    refine va_get (D := G.1) (ci := 1) (v := .int (rdC u0)) (C := R_Rd) (T := T_Rd) (N := 8) hx hb hts i_Rd hown hK hP 0 rfl rfl 3 (by decide) (hts _ b_136) (fun _ h9 => h9) rfl d_Rd_noteName_9 ?_
    refine lv_aload_n hx hb d_Rd_noteName_12 rfl (lv_at hl 0 rfl) ?_
    refine va_get (D := G.1) (ci := 1) (v := .ref a0_2) (C := R_Rd) (T := T_Rd) (N := 8) hx hb hts i_Rd hown hK hP 0 rfl rfl 1 (by decide) (hts _ b_135) (fun _ h9 => h9) rfl d_Rd_noteName_13 ?_
    refine va_alen hx hb hK hP 2 1 rfl rfl (v := Int32.ofNat (rdN u0)) rfl d_Rd_noteName_16 ?_
    refine lv_icmp_ge (tgt := 40) hx hb d_Rd_noteName_17 (by decide) (fun c9 => ?_) (fun c9 => ?_)
    · have h := h.1 c9
      exact t_Rd_noteName_40 E hR hA hAB hRn  _ _ _ _ _ h hP hD hS (lv_sub hl [0, 1] rfl)
    · have h := h.2 c9
      refine lv_aload_n hx hb d_Rd_noteName_20 rfl (lv_at hl 0 rfl) ?_
      refine va_get (D := G.1) (ci := 1) (v := .ref a0_2) (C := R_Rd) (T := T_Rd) (N := 8) hx hb hts i_Rd hown hK hP 0 rfl rfl 1 (by decide) (hts _ b_135) (fun _ h9 => h9) rfl d_Rd_noteName_21 ?_
      refine lv_aload_n hx hb d_Rd_noteName_24 rfl (lv_at hl 0 rfl) ?_
      refine va_get (D := G.1) (ci := 1) (v := .int (rdC u0)) (C := R_Rd) (T := T_Rd) (N := 8) hx hb hts i_Rd hown hK hP 0 rfl rfl 3 (by decide) (hts _ b_136) (fun _ h9 => h9) rfl d_Rd_noteName_25 ?_
      refine lv_iload_n hx hb d_Rd_noteName_28 rfl (lv_at hl 1 rfl) ?_
      have hi9 := h.1
      have h := h.2
      refine va_iast hx hb hK hP hD hS 2 1 rfl rfl hi9 d_Rd_noteName_29 (fun H locs hP hD hS => ?_)
      have hP : va_P G.1 vwCl [(a0_0, .inr (1, [.ref a0_1, .ref a0_2, .ref a0_3, .int (rdC u0), .int (rdK u0), .int (rdX u0), .int (rdD u0), .int (rdL u0)])), (a0_1, .inl (G.2.1 1, rdN u0, .inl (rdR u0))), (a0_2, .inl (G.2.1 1, rdN u0, .inl (upd (rdB u0) (rdC u0).toNatClampNeg x1))), (a0_3, .inl (G.2.1 1, rdN u0, .inl (rdE u0)))] H := hP
      have hD : va_D A [(a0_0, .inr (1, [.ref a0_1, .ref a0_2, .ref a0_3, .int (rdC u0), .int (rdK u0), .int (rdX u0), .int (rdD u0), .int (rdL u0)])), (a0_1, .inl (G.2.1 1, rdN u0, .inl (rdR u0))), (a0_2, .inl (G.2.1 1, rdN u0, .inl (upd (rdB u0) (rdC u0).toNatClampNeg x1))), (a0_3, .inl (G.2.1 1, rdN u0, .inl (rdE u0)))] := hD
      refine lv_aload_n hx hb d_Rd_noteName_30 rfl (lv_at hl 0 rfl) ?_
      refine lv_dup hx hb d_Rd_noteName_31 rfl ?_
      refine va_get (D := G.1) (ci := 1) (v := .int (rdC u0)) (C := R_Rd) (T := T_Rd) (N := 8) hx hb hts i_Rd hown hK hP 0 rfl rfl 3 (by decide) (hts _ b_136) (fun _ h9 => h9) rfl d_Rd_noteName_32 ?_
      refine lv_iconst (v := 1) hx hb d_Rd_noteName_35 (by decide) ?_
      refine lv_iadd hx hb d_Rd_noteName_36 ?_
      refine va_put (D := G.1) (ci := 1) (v := .int ((rdC u0) + 1)) (ty := .int) (C := R_Rd) (T := T_Rd) (N := 8) hx hb hts i_Rd ty_Rd tyok_Rd nm_Rd hown hK hP hD hS 0 rfl rfl 3 (by decide) (hts _ b_136) (fun _ h9 => h9) rfl (by decide +kernel) rfl rfl (Nat.le_of_ble_eq_true rfl) d_Rd_noteName_37 (fun H locs hP hD hS => ?_)
      have hP : va_P G.1 vwCl [(a0_0, .inr (1, [.ref a0_1, .ref a0_2, .ref a0_3, .int ((rdC u0) + 1), .int (rdK u0), .int (rdX u0), .int (rdD u0), .int (rdL u0)])), (a0_1, .inl (G.2.1 1, rdN u0, .inl (rdR u0))), (a0_2, .inl (G.2.1 1, rdN u0, .inl (upd (rdB u0) (rdC u0).toNatClampNeg x1))), (a0_3, .inl (G.2.1 1, rdN u0, .inl (rdE u0)))] H := hP
      have hD : va_D A [(a0_0, .inr (1, [.ref a0_1, .ref a0_2, .ref a0_3, .int ((rdC u0) + 1), .int (rdK u0), .int (rdX u0), .int (rdD u0), .int (rdL u0)])), (a0_1, .inl (G.2.1 1, rdN u0, .inl (rdR u0))), (a0_2, .inl (G.2.1 1, rdN u0, .inl (upd (rdB u0) (rdC u0).toNatClampNeg x1))), (a0_3, .inl (G.2.1 1, rdN u0, .inl (rdE u0)))] := hD
      exact t_Rd_noteName_40 E hR hA hAB hRn  _ _ _ _ _ h hP hD hS (lv_sub hl [0, 1] rfl)
set_option maxHeartbeats 4000000 in
set_option maxRecDepth 100000 in
theorem c_Rd_noteName (l : Launch) (G : GX) (a0_0 a0_1 a0_2 a0_3 : Nat) (u0 : RdC) (x1 : Int32) (sz : Nat) (post : RdC → Prop) (h : wp_Rd_noteName post u0 x1) : Met l y_Rd_noteName wc_Rd_noteName rm_Rd_noteName (mW G [.ref a0_0, .int x1] sz [(a0_0, .inr (1, [.ref a0_1, .ref a0_2, .ref a0_3, .int (rdC u0), .int (rdK u0), .int (rdX u0), .int (rdD u0), .int (rdL u0)])), (a0_1, .inl (G.2.1 1, rdN u0, .inl (rdR u0))), (a0_2, .inl (G.2.1 1, rdN u0, .inl (rdB u0))), (a0_3, .inl (G.2.1 1, rdN u0, .inl (rdE u0)))] []) (va_Qv post (fun (u : RdC) (t : State) => va_P G.1 vwCl [(a0_0, .inr (1, [.ref a0_1, .ref a0_2, .ref a0_3, .int (rdC u), .int (rdK u), .int (rdX u), .int (rdD u), .int (rdL u)])), (a0_1, .inl (G.2.1 1, rdN u, .inl (rdR u))), (a0_2, .inl (G.2.1 1, rdN u, .inl (rdB u))), (a0_3, .inl (G.2.1 1, rdN u, .inl (rdE u)))] t.heap) (va_A [(a0_0, .inr (1, [.ref a0_1, .ref a0_2, .ref a0_3, .int (rdC u0), .int (rdK u0), .int (rdX u0), .int (rdD u0), .int (rdL u0)])), (a0_1, .inl (G.2.1 1, rdN u0, .inl (rdR u0))), (a0_2, .inl (G.2.1 1, rdN u0, .inl (rdB u0))), (a0_3, .inl (G.2.1 1, rdN u0, .inl (rdE u0)))] sz)) 0 0 (va_A [(a0_0, .inr (1, [.ref a0_1, .ref a0_2, .ref a0_3, .int (rdC u0), .int (rdK u0), .int (rdX u0), .int (rdD u0), .int (rdL u0)])), (a0_1, .inl (G.2.1 1, rdN u0, .inl (rdR u0))), (a0_2, .inl (G.2.1 1, rdN u0, .inl (rdB u0))), (a0_3, .inl (G.2.1 1, rdN u0, .inl (rdE u0)))] sz) := by
  refine Met.ofW (cc := cc_Rd_noteName) (maxL := 2) (ret := none) (by decide) rfl ?_
  intro p e s m args below meth c s₁ B hml hv
  obtain ⟨rfl, hC, hsz, hP, hD0, hR, hap⟩ := hv
  have E : EN p s m ([.ref a0_0, .int x1] : List Value).toArray meth c G R_Rd cc_Rd_noteName 2 none BG := ⟨B.exec, B.bytes, B.returns, fun w h => atoms_spec (ws := wc_Rd_noteName) B.pre w (List.mem_cons_of_mem _ h), findClass_of_methodNamed B.named, B.notSynchronized, hml, hC⟩
  subst hsz
  have hD := hD0.self (sz := s.heap.size)
  have hRn := mw_notA hR hap
  have hAB := mw_AB hD0 hC
  have hA : ∀ q : Nat, s.heap.size ≤ q → va_A [(a0_0, .inr (1, [.ref a0_1, .ref a0_2, .ref a0_3, .int (rdC u0), .int (rdK u0), .int (rdX u0), .int (rdD u0), .int (rdL u0)])), (a0_1, .inl (G.2.1 1, rdN u0, .inl (rdR u0))), (a0_2, .inl (G.2.1 1, rdN u0, .inl (rdB u0))), (a0_3, .inl (G.2.1 1, rdN u0, .inl (rdE u0)))] s.heap.size q := fun q z => Or.inr z
  generalize va_A [(a0_0, .inr (1, [.ref a0_1, .ref a0_2, .ref a0_3, .int (rdC u0), .int (rdK u0), .int (rdX u0), .int (rdD u0), .int (rdL u0)])), (a0_1, .inl (G.2.1 1, rdN u0, .inl (rdR u0))), (a0_2, .inl (G.2.1 1, rdN u0, .inl (rdB u0))), (a0_3, .inl (G.2.1 1, rdN u0, .inl (rdE u0)))] s.heap.size = A at hD hRn hAB hA ⊢
  have hl := lv_entry ([.ref a0_0, .int x1]) (n := 2) (Nat.le_of_ble_eq_true rfl)
  rw [lg_entry_eq]
  generalize (lg_sl ([.ref a0_0, .int x1]) ++ List.replicate (2 - (lg_sl ([.ref a0_0, .int x1])).length) Slot.unset).toArray = ls at hl ⊢
  have hl : lv_has ls 2 [(0, .ref a0_0), (1, .int x1)] := hl
  exact t_Rd_noteName_in E hR hA hAB hRn _ _ _ h hP hD va_S.rf hl
set_option maxHeartbeats 4000000 in
set_option maxRecDepth 100000 in
theorem t_Rd_take_174 {p : Program} {l : Launch} {e : Env} {s : State} {m : MethodId} {args : Array Value} {below : List Frame} {meth : Method} {c : Code} {G : GX} {a0_0 a0_1 a0_2 a0_3 : Nat} {post : RdC → Prop} {A : Nat → Prop} (E : EN p s m args meth c G R_Rd cc_Rd_take 3 none BG) (hR : va_P G.1 vwCl [] s.heap) (hA : ∀ q : Nat, s.heap.size ≤ q → A q) (hAB : ∀ q : Nat, A q → G.2.2.1 ≤ q) (hRn : ∀ (j : Nat) (q : Nat × va_E), ([] : va_W)[j]? = some q → ¬ A q.1) : ∀ (y1 : Int32) (y2 : Int32) (w0 : RdC) (H : Heap) (locs : List Loc) (ls : Array Slot), w_Rd_take_174 post y1 y2 w0 → va_P G.1 vwCl [(a0_0, .inr (1, [.ref a0_1, .ref a0_2, .ref a0_3, .int (rdC w0), .int (rdK w0), .int (rdX w0), .int (rdD w0), .int (rdL w0)])), (a0_1, .inl (G.2.1 1, rdN w0, .inl (rdR w0))), (a0_2, .inl (G.2.1 1, rdN w0, .inl (rdB w0))), (a0_3, .inl (G.2.1 1, rdN w0, .inl (rdE w0)))] H → va_D A [(a0_0, .inr (1, [.ref a0_1, .ref a0_2, .ref a0_3, .int (rdC w0), .int (rdK w0), .int (rdX w0), .int (rdD w0), .int (rdL w0)])), (a0_1, .inl (G.2.1 1, rdN w0, .inl (rdR w0))), (a0_2, .inl (G.2.1 1, rdN w0, .inl (rdB w0))), (a0_3, .inl (G.2.1 1, rdN w0, .inl (rdE w0)))] → va_S A s.heap H locs → lv_has ls 3 [(0, .ref a0_0), (1, .int y1), (2, .int y2)] → W p l e rm_Rd_take s m args below meth c H locs 0 0 (MQ below (va_Qv post (fun (u : RdC) (t : State) => va_P G.1 vwCl [(a0_0, .inr (1, [.ref a0_1, .ref a0_2, .ref a0_3, .int (rdC u), .int (rdK u), .int (rdX u), .int (rdD u), .int (rdL u)])), (a0_1, .inl (G.2.1 1, rdN u, .inl (rdR u))), (a0_2, .inl (G.2.1 1, rdN u, .inl (rdB u))), (a0_3, .inl (G.2.1 1, rdN u, .inl (rdE u)))] t.heap) A) args s 0 0 A) (F0 m 174 ls []) := by
  obtain ⟨hx, hb, hr, hts, hown, hlocks, hml, hC⟩ := id E
  have hK := hC.1
  intro y1 y2 w0  H locs ls h hP hD hS hl
  unfold w_Rd_take_174 at h
  refine lv_aload_n hx hb d_Rd_take_174 rfl (lv_at hl 0 rfl) ?_
  refine va_get (D := G.1) (ci := 1) (v := .ref a0_1) (C := R_Rd) (T := T_Rd) (N := 8) hx hb hts i_Rd hown hK hP 0 rfl rfl 0 (by decide) (hts _ b_147) (fun _ h9 => h9) rfl d_Rd_take_175 ?_
  refine lv_iload_n hx hb d_Rd_take_178 rfl (lv_at hl 2 rfl) ?_
  refine lv_iload_n hx hb d_Rd_take_179 rfl (lv_at hl 1 rfl) ?_
  have hi9 := h.1
  have h := h.2
  refine va_iast hx hb hK hP hD hS 1 1 rfl rfl hi9 d_Rd_take_180 (fun H locs hP hD hS => ?_)
  have hP : va_P G.1 vwCl [(a0_0, .inr (1, [.ref a0_1, .ref a0_2, .ref a0_3, .int (rdC w0), .int (rdK w0), .int (rdX w0), .int (rdD w0), .int (rdL w0)])), (a0_1, .inl (G.2.1 1, rdN w0, .inl (upd (rdR w0) y2.toNatClampNeg y1))), (a0_2, .inl (G.2.1 1, rdN w0, .inl (rdB w0))), (a0_3, .inl (G.2.1 1, rdN w0, .inl (rdE w0)))] H := hP
  have hD : va_D A [(a0_0, .inr (1, [.ref a0_1, .ref a0_2, .ref a0_3, .int (rdC w0), .int (rdK w0), .int (rdX w0), .int (rdD w0), .int (rdL w0)])), (a0_1, .inl (G.2.1 1, rdN w0, .inl (upd (rdR w0) y2.toNatClampNeg y1))), (a0_2, .inl (G.2.1 1, rdN w0, .inl (rdB w0))), (a0_3, .inl (G.2.1 1, rdN w0, .inl (rdE w0)))] := hD
  refine lv_aload_n hx hb d_Rd_take_181 rfl (lv_at hl 0 rfl) ?_
  refine lv_iload_n hx hb d_Rd_take_182 rfl (lv_at hl 1 rfl) ?_
  refine va_put (D := G.1) (ci := 1) (v := .int y1) (ty := .int) (C := R_Rd) (T := T_Rd) (N := 8) hx hb hts i_Rd ty_Rd tyok_Rd nm_Rd hown hK hP hD hS 0 rfl rfl 7 (by decide) (hts _ b_116) (fun _ h9 => h9) rfl (by decide +kernel) rfl rfl (Nat.le_of_ble_eq_true rfl) d_Rd_take_183 (fun H locs hP hD hS => ?_)
  have hP : va_P G.1 vwCl [(a0_0, .inr (1, [.ref a0_1, .ref a0_2, .ref a0_3, .int (rdC w0), .int (rdK w0), .int (rdX w0), .int (rdD w0), .int y1])), (a0_1, .inl (G.2.1 1, rdN w0, .inl (upd (rdR w0) y2.toNatClampNeg y1))), (a0_2, .inl (G.2.1 1, rdN w0, .inl (rdB w0))), (a0_3, .inl (G.2.1 1, rdN w0, .inl (rdE w0)))] H := hP
  have hD : va_D A [(a0_0, .inr (1, [.ref a0_1, .ref a0_2, .ref a0_3, .int (rdC w0), .int (rdK w0), .int (rdX w0), .int (rdD w0), .int y1])), (a0_1, .inl (G.2.1 1, rdN w0, .inl (upd (rdR w0) y2.toNatClampNeg y1))), (a0_2, .inl (G.2.1 1, rdN w0, .inl (rdB w0))), (a0_3, .inl (G.2.1 1, rdN w0, .inl (rdE w0)))] := hD
  exact W.vret hx hb hr (fun t ht hW => ⟨⟨_, rfl, h, vaP_at ht hP⟩, hS.F ht⟩) hS.2.2 d_Rd_take_186
set_option maxHeartbeats 4000000 in
set_option maxRecDepth 100000 in
theorem t_Rd_take_in {p : Program} {l : Launch} {e : Env} {s : State} {m : MethodId} {args : Array Value} {below : List Frame} {meth : Method} {c : Code} {G : GX} {a0_0 a0_1 a0_2 a0_3 : Nat} {post : RdC → Prop} {A : Nat → Prop} {u0 : RdC} {x1 : Int32} {x2 : Int32} (E : EN p s m args meth c G R_Rd cc_Rd_take 3 none BG) (hR : va_P G.1 vwCl [] s.heap) (hA : ∀ q : Nat, s.heap.size ≤ q → A q) (hAB : ∀ q : Nat, A q → G.2.2.1 ≤ q) (hRn : ∀ (j : Nat) (q : Nat × va_E), ([] : va_W)[j]? = some q → ¬ A q.1) : ∀ (H : Heap) (locs : List Loc) (ls : Array Slot), wp_Rd_take post u0 x1 x2 → va_P G.1 vwCl [(a0_0, .inr (1, [.ref a0_1, .ref a0_2, .ref a0_3, .int (rdC u0), .int (rdK u0), .int (rdX u0), .int (rdD u0), .int (rdL u0)])), (a0_1, .inl (G.2.1 1, rdN u0, .inl (rdR u0))), (a0_2, .inl (G.2.1 1, rdN u0, .inl (rdB u0))), (a0_3, .inl (G.2.1 1, rdN u0, .inl (rdE u0)))] H → va_D A [(a0_0, .inr (1, [.ref a0_1, .ref a0_2, .ref a0_3, .int (rdC u0), .int (rdK u0), .int (rdX u0), .int (rdD u0), .int (rdL u0)])), (a0_1, .inl (G.2.1 1, rdN u0, .inl (rdR u0))), (a0_2, .inl (G.2.1 1, rdN u0, .inl (rdB u0))), (a0_3, .inl (G.2.1 1, rdN u0, .inl (rdE u0)))] → va_S A s.heap H locs → lv_has ls 3 [(0, .ref a0_0), (1, .int x1), (2, .int x2)] → W p l e rm_Rd_take s m args below meth c H locs 0 0 (MQ below (va_Qv post (fun (u : RdC) (t : State) => va_P G.1 vwCl [(a0_0, .inr (1, [.ref a0_1, .ref a0_2, .ref a0_3, .int (rdC u), .int (rdK u), .int (rdX u), .int (rdD u), .int (rdL u)])), (a0_1, .inl (G.2.1 1, rdN u, .inl (rdR u))), (a0_2, .inl (G.2.1 1, rdN u, .inl (rdB u))), (a0_3, .inl (G.2.1 1, rdN u, .inl (rdE u)))] t.heap) A) args s 0 0 A) (F0 m 0 ls []) := by
  obtain ⟨hx, hb, hr, hts, hown, hlocks, hml, hC⟩ := id E
  have hK := hC.1
  intro H locs ls h hP hD hS hl
  unfold wp_Rd_take at h
  refine lv_iload_n hx hb d_Rd_take_0 rfl (lv_at hl 1 rfl) ?_
  have hsw := h
  by_cases c1001 : x1 = 1
  · have h := hsw
    have h := h.1 (c1001)
    refine lv_tabK (a := 1) (off := 107) (tgt := 108) hx hb d_Rd_take_1 c1001 t32_1 (by decide) (by decide) rfl (by decide) ?_
    refine lv_aload_n hx hb d_Rd_take_108 rfl (lv_at hl 0 rfl) ?_
    refine lv_iconst (v := 0) hx hb d_Rd_take_109 (by decide) ?_
    refine va_put (D := G.1) (ci := 1) (v := .int 0) (ty := .int) (C := R_Rd) (T := T_Rd) (N := 8) hx hb hts i_Rd ty_Rd tyok_Rd nm_Rd hown hK hP hD hS 0 rfl rfl 5 (by decide) (hts _ b_104) (fun _ h9 => h9) rfl (by decide +kernel) rfl rfl (Nat.le_of_ble_eq_true rfl) d_Rd_take_110 (fun H locs hP hD hS => ?_)
    have hP : va_P G.1 vwCl [(a0_0, .inr (1, [.ref a0_1, .ref a0_2, .ref a0_3, .int (rdC u0), .int (rdK u0), .int 0, .int (rdD u0), .int (rdL u0)])), (a0_1, .inl (G.2.1 1, rdN u0, .inl (rdR u0))), (a0_2, .inl (G.2.1 1, rdN u0, .inl (rdB u0))), (a0_3, .inl (G.2.1 1, rdN u0, .inl (rdE u0)))] H := hP
    have hD : va_D A [(a0_0, .inr (1, [.ref a0_1, .ref a0_2, .ref a0_3, .int (rdC u0), .int (rdK u0), .int 0, .int (rdD u0), .int (rdL u0)])), (a0_1, .inl (G.2.1 1, rdN u0, .inl (rdR u0))), (a0_2, .inl (G.2.1 1, rdN u0, .inl (rdB u0))), (a0_3, .inl (G.2.1 1, rdN u0, .inl (rdE u0)))] := hD
    refine lv_goto (tgt := 174) hx hb d_Rd_take_113 (by decide) ?_
    exact t_Rd_take_174 E hR hA hAB hRn  _ _ _ _ _ _ h hP hD hS (lv_sub hl [0, 1, 2] rfl)
  by_cases c1002 : x1 = 2
  · have h := hsw
    have h := h.2.1 (c1002)
    refine lv_tabK (a := 2) (off := 165) (tgt := 166) hx hb d_Rd_take_1 c1002 t32_2 (by decide) (by decide) rfl (by decide) ?_
    refine lv_aload_n hx hb d_Rd_take_166 rfl (lv_at hl 0 rfl) ?_
    refine lv_iload_n hx hb d_Rd_take_167 rfl (lv_at hl 2 rfl) ?_
    have hRc : va_P G.1 vwCl [] H := vaP_nil
    have hPc := hP.sub (ws' := [(a0_0, .inr (1, [.ref a0_1, .ref a0_2, .ref a0_3, .int (rdC u0), .int (rdK u0), .int (rdX u0), .int (rdD u0), .int (rdL u0)])), (a0_1, .inl (G.2.1 1, rdN u0, .inl (rdR u0))), (a0_2, .inl (G.2.1 1, rdN u0, .inl (rdB u0))), (a0_3, .inl (G.2.1 1, rdN u0, .inl (rdE u0)))]) [0, 1, 2, 3] rfl
    have hDc := hD.sub (ws' := [(a0_0, .inr (1, [.ref a0_1, .ref a0_2, .ref a0_3, .int (rdC u0), .int (rdK u0), .int (rdX u0), .int (rdD u0), .int (rdL u0)])), (a0_1, .inl (G.2.1 1, rdN u0, .inl (rdR u0))), (a0_2, .inl (G.2.1 1, rdN u0, .inl (rdB u0))), (a0_3, .inl (G.2.1 1, rdN u0, .inl (rdE u0)))]) [0, 1, 2, 3] (by decide) rfl
    have hFc := va_free (wc := [(a0_0, .inr (1, [.ref a0_1, .ref a0_2, .ref a0_3, .int (rdC u0), .int (rdK u0), .int (rdX u0), .int (rdD u0), .int (rdL u0)])), (a0_1, .inl (G.2.1 1, rdN u0, .inl (rdR u0))), (a0_2, .inl (G.2.1 1, rdN u0, .inl (rdB u0))), (a0_3, .inl (G.2.1 1, rdN u0, .inl (rdE u0)))]) hD hS hA [0, 1, 2, 3] rfl
    have hQc : mw_ap [(a0_0, .inr (1, [.ref a0_1, .ref a0_2, .ref a0_3, .int (rdC u0), .int (rdK u0), .int (rdX u0), .int (rdD u0), .int (rdL u0)])), (a0_1, .inl (G.2.1 1, rdN u0, .inl (rdR u0))), (a0_2, .inl (G.2.1 1, rdN u0, .inl (rdB u0))), (a0_3, .inl (G.2.1 1, rdN u0, .inl (rdE u0)))] [] := mw_ap_nil
    refine va_callv (va_runV (As := [.int x2]) (rest := []) ⟨hx, hb, hml, hown, hts⟩ (c_Rd_noteName l G a0_0 a0_1 a0_2 a0_3 u0 x2 H.size _ h) (cwV 1 hts (gwV b_144 b_145 b_146 b_90 b_143) rfl rfl rfl hd_Rd_noteName ⟨Nat.le_of_ble_eq_true rfl, Nat.le_of_ble_eq_true rfl⟩) ⟨mW_blind, va_recv hK hPc (ci := 1) (q0 := 0) rfl rfl, fun U hU hW => ⟨rfl, hC.to hW hU hS hAB, by rw [hU], by rw [hU]; exact hPc, hDc.weaken (fun _ _ _ => hAB _), by rw [hU]; exact hRc, hQc⟩⟩ rfl rfl hl.1 rfl (lv_room (Nat.le_of_ble_eq_true rfl)) d_Rd_take_168 ⟨Nat.le_of_ble_eq_true rfl, Nat.le_of_ble_eq_true rfl⟩) hS (fun q _ h => hFc q h) hFc (fun v4 t H1 locs ht hvm h hB hz1 hk1 hS => ?_)
    rw [ht] at hB
    have hj9 := mw_join (wr := []) (w1 := [(a0_0, .inr (1, [.ref a0_1, .ref a0_2, .ref a0_3, .int (rdC v4), .int (rdK v4), .int (rdX v4), .int (rdD v4), .int (rdL v4)])), (a0_1, .inl (G.2.1 1, rdN v4, .inl (rdR v4))), (a0_2, .inl (G.2.1 1, rdN v4, .inl (rdB v4))), (a0_3, .inl (G.2.1 1, rdN v4, .inl (rdE v4)))]) hP hD [0, 1, 2, 3] [] rfl rfl (by decide) (by decide) (by decide) hk1 hFc hB rfl
    have hP : va_P G.1 vwCl [(a0_0, .inr (1, [.ref a0_1, .ref a0_2, .ref a0_3, .int (rdC v4), .int (rdK v4), .int (rdX v4), .int (rdD v4), .int (rdL v4)])), (a0_1, .inl (G.2.1 1, rdN v4, .inl (rdR v4))), (a0_2, .inl (G.2.1 1, rdN v4, .inl (rdB v4))), (a0_3, .inl (G.2.1 1, rdN v4, .inl (rdE v4)))] H1 := hj9.1
    have hD : va_D A [(a0_0, .inr (1, [.ref a0_1, .ref a0_2, .ref a0_3, .int (rdC v4), .int (rdK v4), .int (rdX v4), .int (rdD v4), .int (rdL v4)])), (a0_1, .inl (G.2.1 1, rdN v4, .inl (rdR v4))), (a0_2, .inl (G.2.1 1, rdN v4, .inl (rdB v4))), (a0_3, .inl (G.2.1 1, rdN v4, .inl (rdE v4)))] := hj9.2
    generalize H1 = H at hP hS ⊢
    refine lv_goto (tgt := 174) hx hb d_Rd_take_171 (by decide) ?_
    exact t_Rd_take_174 E hR hA hAB hRn  _ _ _ _ _ _ h hP hD hS (lv_sub hl [0, 1, 2] rfl)
  by_cases c1003 : x1 = 3
  · have h := hsw
    have h := h.2.2.2.2.2.2.2 ⟨(fun z => absurd (c1003.symm.trans z) (by decide)), (fun z => absurd (c1003.symm.trans z) (by decide)), (fun z => absurd (c1003.symm.trans z) (by decide)), (fun z => absurd (c1003.symm.trans z) (by decide)), (fun z => absurd (c1003.symm.trans z) (by decide)), (fun z => absurd (c1003.symm.trans z) (by decide)), (fun z => absurd (c1003.symm.trans z) (by decide))⟩
    refine lv_tabK (a := 3) (off := 173) (tgt := 174) hx hb d_Rd_take_1 c1003 t32_3 (by decide) (by decide) rfl (by decide) ?_
    exact t_Rd_take_174 E hR hA hAB hRn  _ _ _ _ _ _ h hP hD hS (lv_sub hl [0, 1, 2] rfl)
  by_cases c1004 : x1 = 4
  · have h := hsw
    have h := h.2.2.2.2.2.2.2 ⟨(fun z => absurd (c1004.symm.trans z) (by decide)), (fun z => absurd (c1004.symm.trans z) (by decide)), (fun z => absurd (c1004.symm.trans z) (by decide)), (fun z => absurd (c1004.symm.trans z) (by decide)), (fun z => absurd (c1004.symm.trans z) (by decide)), (fun z => absurd (c1004.symm.trans z) (by decide)), (fun z => absurd (c1004.symm.trans z) (by decide))⟩
    refine lv_tabK (a := 4) (off := 173) (tgt := 174) hx hb d_Rd_take_1 c1004 t32_4 (by decide) (by decide) rfl (by decide) ?_
    exact t_Rd_take_174 E hR hA hAB hRn  _ _ _ _ _ _ h hP hD hS (lv_sub hl [0, 1, 2] rfl)
  by_cases c1005 : x1 = 5
  · have h := hsw
    have h := h.2.2.1 (c1005)
    refine lv_tabK (a := 5) (off := 115) (tgt := 116) hx hb d_Rd_take_1 c1005 t32_5 (by decide) (by decide) rfl (by decide) ?_
    refine lv_aload_n hx hb d_Rd_take_116 rfl (lv_at hl 0 rfl) ?_
    refine lv_iconst (v := 1) hx hb d_Rd_take_117 (by decide) ?_
    refine va_put (D := G.1) (ci := 1) (v := .int 1) (ty := .int) (C := R_Rd) (T := T_Rd) (N := 8) hx hb hts i_Rd ty_Rd tyok_Rd nm_Rd hown hK hP hD hS 0 rfl rfl 5 (by decide) (hts _ b_104) (fun _ h9 => h9) rfl (by decide +kernel) rfl rfl (Nat.le_of_ble_eq_true rfl) d_Rd_take_118 (fun H locs hP hD hS => ?_)
    have hP : va_P G.1 vwCl [(a0_0, .inr (1, [.ref a0_1, .ref a0_2, .ref a0_3, .int (rdC u0), .int (rdK u0), .int 1, .int (rdD u0), .int (rdL u0)])), (a0_1, .inl (G.2.1 1, rdN u0, .inl (rdR u0))), (a0_2, .inl (G.2.1 1, rdN u0, .inl (rdB u0))), (a0_3, .inl (G.2.1 1, rdN u0, .inl (rdE u0)))] H := hP
    have hD : va_D A [(a0_0, .inr (1, [.ref a0_1, .ref a0_2, .ref a0_3, .int (rdC u0), .int (rdK u0), .int 1, .int (rdD u0), .int (rdL u0)])), (a0_1, .inl (G.2.1 1, rdN u0, .inl (rdR u0))), (a0_2, .inl (G.2.1 1, rdN u0, .inl (rdB u0))), (a0_3, .inl (G.2.1 1, rdN u0, .inl (rdE u0)))] := hD
    refine lv_goto (tgt := 174) hx hb d_Rd_take_121 (by decide) ?_
    exact t_Rd_take_174 E hR hA hAB hRn  _ _ _ _ _ _ h hP hD hS (lv_sub hl [0, 1, 2] rfl)
  by_cases c1006 : x1 = 6
  · have h := hsw
    have h := h.2.2.2.2.2.2.2 ⟨(fun z => absurd (c1006.symm.trans z) (by decide)), (fun z => absurd (c1006.symm.trans z) (by decide)), (fun z => absurd (c1006.symm.trans z) (by decide)), (fun z => absurd (c1006.symm.trans z) (by decide)), (fun z => absurd (c1006.symm.trans z) (by decide)), (fun z => absurd (c1006.symm.trans z) (by decide)), (fun z => absurd (c1006.symm.trans z) (by decide))⟩
    refine lv_tabK (a := 6) (off := 173) (tgt := 174) hx hb d_Rd_take_1 c1006 t32_6 (by decide) (by decide) rfl (by decide) ?_
    exact t_Rd_take_174 E hR hA hAB hRn  _ _ _ _ _ _ h hP hD hS (lv_sub hl [0, 1, 2] rfl)
  by_cases c1007 : x1 = 7
  · have h := hsw
    have h := h.2.2.2.2.2.2.2 ⟨(fun z => absurd (c1007.symm.trans z) (by decide)), (fun z => absurd (c1007.symm.trans z) (by decide)), (fun z => absurd (c1007.symm.trans z) (by decide)), (fun z => absurd (c1007.symm.trans z) (by decide)), (fun z => absurd (c1007.symm.trans z) (by decide)), (fun z => absurd (c1007.symm.trans z) (by decide)), (fun z => absurd (c1007.symm.trans z) (by decide))⟩
    refine lv_tabK (a := 7) (off := 173) (tgt := 174) hx hb d_Rd_take_1 c1007 t32_7 (by decide) (by decide) rfl (by decide) ?_
    exact t_Rd_take_174 E hR hA hAB hRn  _ _ _ _ _ _ h hP hD hS (lv_sub hl [0, 1, 2] rfl)
  by_cases c1008 : x1 = 8
  · have h := hsw
    have h := h.2.2.2.2.2.2.2 ⟨(fun z => absurd (c1008.symm.trans z) (by decide)), (fun z => absurd (c1008.symm.trans z) (by decide)), (fun z => absurd (c1008.symm.trans z) (by decide)), (fun z => absurd (c1008.symm.trans z) (by decide)), (fun z => absurd (c1008.symm.trans z) (by decide)), (fun z => absurd (c1008.symm.trans z) (by decide)), (fun z => absurd (c1008.symm.trans z) (by decide))⟩
    refine lv_tabK (a := 8) (off := 173) (tgt := 174) hx hb d_Rd_take_1 c1008 t32_8 (by decide) (by decide) rfl (by decide) ?_
    exact t_Rd_take_174 E hR hA hAB hRn  _ _ _ _ _ _ h hP hD hS (lv_sub hl [0, 1, 2] rfl)
  by_cases c1009 : x1 = 9
  · have h := hsw
    have h := h.2.2.2.2.2.2.2 ⟨(fun z => absurd (c1009.symm.trans z) (by decide)), (fun z => absurd (c1009.symm.trans z) (by decide)), (fun z => absurd (c1009.symm.trans z) (by decide)), (fun z => absurd (c1009.symm.trans z) (by decide)), (fun z => absurd (c1009.symm.trans z) (by decide)), (fun z => absurd (c1009.symm.trans z) (by decide)), (fun z => absurd (c1009.symm.trans z) (by decide))⟩
    refine lv_tabK (a := 9) (off := 173) (tgt := 174) hx hb d_Rd_take_1 c1009 t32_9 (by decide) (by decide) rfl (by decide) ?_
    exact t_Rd_take_174 E hR hA hAB hRn  _ _ _ _ _ _ h hP hD hS (lv_sub hl [0, 1, 2] rfl)
  by_cases c1010 : x1 = 10
  · have h := hsw
    have h := h.2.2.2.2.2.2.2 ⟨(fun z => absurd (c1010.symm.trans z) (by decide)), (fun z => absurd (c1010.symm.trans z) (by decide)), (fun z => absurd (c1010.symm.trans z) (by decide)), (fun z => absurd (c1010.symm.trans z) (by decide)), (fun z => absurd (c1010.symm.trans z) (by decide)), (fun z => absurd (c1010.symm.trans z) (by decide)), (fun z => absurd (c1010.symm.trans z) (by decide))⟩
    refine lv_tabK (a := 10) (off := 173) (tgt := 174) hx hb d_Rd_take_1 c1010 t32_10 (by decide) (by decide) rfl (by decide) ?_
    exact t_Rd_take_174 E hR hA hAB hRn  _ _ _ _ _ _ h hP hD hS (lv_sub hl [0, 1, 2] rfl)
  by_cases c1011 : x1 = 11
  · have h := hsw
    have h := h.2.2.2.2.2.2.2 ⟨(fun z => absurd (c1011.symm.trans z) (by decide)), (fun z => absurd (c1011.symm.trans z) (by decide)), (fun z => absurd (c1011.symm.trans z) (by decide)), (fun z => absurd (c1011.symm.trans z) (by decide)), (fun z => absurd (c1011.symm.trans z) (by decide)), (fun z => absurd (c1011.symm.trans z) (by decide)), (fun z => absurd (c1011.symm.trans z) (by decide))⟩
    refine lv_tabK (a := 11) (off := 173) (tgt := 174) hx hb d_Rd_take_1 c1011 t32_11 (by decide) (by decide) rfl (by decide) ?_
    exact t_Rd_take_174 E hR hA hAB hRn  _ _ _ _ _ _ h hP hD hS (lv_sub hl [0, 1, 2] rfl)
  by_cases c1012 : x1 = 12
  · have h := hsw
    have h := h.2.2.2.2.2.2.2 ⟨(fun z => absurd (c1012.symm.trans z) (by decide)), (fun z => absurd (c1012.symm.trans z) (by decide)), (fun z => absurd (c1012.symm.trans z) (by decide)), (fun z => absurd (c1012.symm.trans z) (by decide)), (fun z => absurd (c1012.symm.trans z) (by decide)), (fun z => absurd (c1012.symm.trans z) (by decide)), (fun z => absurd (c1012.symm.trans z) (by decide))⟩
    refine lv_tabK (a := 12) (off := 173) (tgt := 174) hx hb d_Rd_take_1 c1012 t32_12 (by decide) (by decide) rfl (by decide) ?_
    exact t_Rd_take_174 E hR hA hAB hRn  _ _ _ _ _ _ h hP hD hS (lv_sub hl [0, 1, 2] rfl)
  by_cases c1013 : x1 = 13
  · have h := hsw
    have h := h.2.2.2.2.2.2.2 ⟨(fun z => absurd (c1013.symm.trans z) (by decide)), (fun z => absurd (c1013.symm.trans z) (by decide)), (fun z => absurd (c1013.symm.trans z) (by decide)), (fun z => absurd (c1013.symm.trans z) (by decide)), (fun z => absurd (c1013.symm.trans z) (by decide)), (fun z => absurd (c1013.symm.trans z) (by decide)), (fun z => absurd (c1013.symm.trans z) (by decide))⟩
    refine lv_tabK (a := 13) (off := 173) (tgt := 174) hx hb d_Rd_take_1 c1013 t32_13 (by decide) (by decide) rfl (by decide) ?_
    exact t_Rd_take_174 E hR hA hAB hRn  _ _ _ _ _ _ h hP hD hS (lv_sub hl [0, 1, 2] rfl)
  by_cases c1014 : x1 = 14
  · have h := hsw
    have h := h.2.2.2.2.2.2.2 ⟨(fun z => absurd (c1014.symm.trans z) (by decide)), (fun z => absurd (c1014.symm.trans z) (by decide)), (fun z => absurd (c1014.symm.trans z) (by decide)), (fun z => absurd (c1014.symm.trans z) (by decide)), (fun z => absurd (c1014.symm.trans z) (by decide)), (fun z => absurd (c1014.symm.trans z) (by decide)), (fun z => absurd (c1014.symm.trans z) (by decide))⟩
    refine lv_tabK (a := 14) (off := 173) (tgt := 174) hx hb d_Rd_take_1 c1014 t32_14 (by decide) (by decide) rfl (by decide) ?_
    exact t_Rd_take_174 E hR hA hAB hRn  _ _ _ _ _ _ h hP hD hS (lv_sub hl [0, 1, 2] rfl)
  by_cases c1015 : x1 = 15
  · have h := hsw
    have h := h.2.2.2.1 (c1015)
    refine lv_tabK (a := 15) (off := 139) (tgt := 140) hx hb d_Rd_take_1 c1015 t32_15 (by decide) (by decide) rfl (by decide) ?_
    refine lv_aload_n hx hb d_Rd_take_140 rfl (lv_at hl 0 rfl) ?_
    refine lv_dup hx hb d_Rd_take_141 rfl ?_
    refine va_get (D := G.1) (ci := 1) (v := .int (rdD u0)) (C := R_Rd) (T := T_Rd) (N := 8) hx hb hts i_Rd hown hK hP 0 rfl rfl 6 (by decide) (hts _ b_103) (fun _ h9 => h9) rfl d_Rd_take_142 ?_
    refine lv_iconst (v := 1) hx hb d_Rd_take_145 (by decide) ?_
    refine lv_iadd hx hb d_Rd_take_146 ?_
    refine va_put (D := G.1) (ci := 1) (v := .int ((rdD u0) + 1)) (ty := .int) (C := R_Rd) (T := T_Rd) (N := 8) hx hb hts i_Rd ty_Rd tyok_Rd nm_Rd hown hK hP hD hS 0 rfl rfl 6 (by decide) (hts _ b_103) (fun _ h9 => h9) rfl (by decide +kernel) rfl rfl (Nat.le_of_ble_eq_true rfl) d_Rd_take_147 (fun H locs hP hD hS => ?_)
    have hP : va_P G.1 vwCl [(a0_0, .inr (1, [.ref a0_1, .ref a0_2, .ref a0_3, .int (rdC u0), .int (rdK u0), .int (rdX u0), .int ((rdD u0) + 1), .int (rdL u0)])), (a0_1, .inl (G.2.1 1, rdN u0, .inl (rdR u0))), (a0_2, .inl (G.2.1 1, rdN u0, .inl (rdB u0))), (a0_3, .inl (G.2.1 1, rdN u0, .inl (rdE u0)))] H := hP
    have hD : va_D A [(a0_0, .inr (1, [.ref a0_1, .ref a0_2, .ref a0_3, .int (rdC u0), .int (rdK u0), .int (rdX u0), .int ((rdD u0) + 1), .int (rdL u0)])), (a0_1, .inl (G.2.1 1, rdN u0, .inl (rdR u0))), (a0_2, .inl (G.2.1 1, rdN u0, .inl (rdB u0))), (a0_3, .inl (G.2.1 1, rdN u0, .inl (rdE u0)))] := hD
    refine lv_goto (tgt := 174) hx hb d_Rd_take_150 (by decide) ?_
    exact t_Rd_take_174 E hR hA hAB hRn  _ _ _ _ _ _ h hP hD hS (lv_sub hl [0, 1, 2] rfl)
  by_cases c1016 : x1 = 16
  · have h := hsw
    have h := h.2.2.2.2.1 (c1016)
    refine lv_tabK (a := 16) (off := 152) (tgt := 153) hx hb d_Rd_take_1 c1016 t32_16 (by decide) (by decide) rfl (by decide) ?_
    refine lv_aload_n hx hb d_Rd_take_153 rfl (lv_at hl 0 rfl) ?_
    refine lv_dup hx hb d_Rd_take_154 rfl ?_
    refine va_get (D := G.1) (ci := 1) (v := .int (rdD u0)) (C := R_Rd) (T := T_Rd) (N := 8) hx hb hts i_Rd hown hK hP 0 rfl rfl 6 (by decide) (hts _ b_103) (fun _ h9 => h9) rfl d_Rd_take_155 ?_
    refine lv_iconst (v := 1) hx hb d_Rd_take_158 (by decide) ?_
    refine lv_isub hx hb d_Rd_take_159 ?_
    refine va_put (D := G.1) (ci := 1) (v := .int ((rdD u0) - 1)) (ty := .int) (C := R_Rd) (T := T_Rd) (N := 8) hx hb hts i_Rd ty_Rd tyok_Rd nm_Rd hown hK hP hD hS 0 rfl rfl 6 (by decide) (hts _ b_103) (fun _ h9 => h9) rfl (by decide +kernel) rfl rfl (Nat.le_of_ble_eq_true rfl) d_Rd_take_160 (fun H locs hP hD hS => ?_)
    have hP : va_P G.1 vwCl [(a0_0, .inr (1, [.ref a0_1, .ref a0_2, .ref a0_3, .int (rdC u0), .int (rdK u0), .int (rdX u0), .int ((rdD u0) - 1), .int (rdL u0)])), (a0_1, .inl (G.2.1 1, rdN u0, .inl (rdR u0))), (a0_2, .inl (G.2.1 1, rdN u0, .inl (rdB u0))), (a0_3, .inl (G.2.1 1, rdN u0, .inl (rdE u0)))] H := hP
    have hD : va_D A [(a0_0, .inr (1, [.ref a0_1, .ref a0_2, .ref a0_3, .int (rdC u0), .int (rdK u0), .int (rdX u0), .int ((rdD u0) - 1), .int (rdL u0)])), (a0_1, .inl (G.2.1 1, rdN u0, .inl (rdR u0))), (a0_2, .inl (G.2.1 1, rdN u0, .inl (rdB u0))), (a0_3, .inl (G.2.1 1, rdN u0, .inl (rdE u0)))] := hD
    refine lv_goto (tgt := 174) hx hb d_Rd_take_163 (by decide) ?_
    exact t_Rd_take_174 E hR hA hAB hRn  _ _ _ _ _ _ h hP hD hS (lv_sub hl [0, 1, 2] rfl)
  by_cases c1017 : x1 = 17
  · have h := hsw
    have h := h.2.2.2.2.2.2.2 ⟨(fun z => absurd (c1017.symm.trans z) (by decide)), (fun z => absurd (c1017.symm.trans z) (by decide)), (fun z => absurd (c1017.symm.trans z) (by decide)), (fun z => absurd (c1017.symm.trans z) (by decide)), (fun z => absurd (c1017.symm.trans z) (by decide)), (fun z => absurd (c1017.symm.trans z) (by decide)), (fun z => absurd (c1017.symm.trans z) (by decide))⟩
    refine lv_tabK (a := 17) (off := 173) (tgt := 174) hx hb d_Rd_take_1 c1017 t32_17 (by decide) (by decide) rfl (by decide) ?_
    exact t_Rd_take_174 E hR hA hAB hRn  _ _ _ _ _ _ h hP hD hS (lv_sub hl [0, 1, 2] rfl)
  by_cases c1018 : x1 = 18
  · have h := hsw
    have h := h.2.2.2.2.2.2.2 ⟨(fun z => absurd (c1018.symm.trans z) (by decide)), (fun z => absurd (c1018.symm.trans z) (by decide)), (fun z => absurd (c1018.symm.trans z) (by decide)), (fun z => absurd (c1018.symm.trans z) (by decide)), (fun z => absurd (c1018.symm.trans z) (by decide)), (fun z => absurd (c1018.symm.trans z) (by decide)), (fun z => absurd (c1018.symm.trans z) (by decide))⟩
    refine lv_tabK (a := 18) (off := 173) (tgt := 174) hx hb d_Rd_take_1 c1018 t32_18 (by decide) (by decide) rfl (by decide) ?_
    exact t_Rd_take_174 E hR hA hAB hRn  _ _ _ _ _ _ h hP hD hS (lv_sub hl [0, 1, 2] rfl)
  by_cases c1019 : x1 = 19
  · have h := hsw
    have h := h.2.2.2.2.2.2.2 ⟨(fun z => absurd (c1019.symm.trans z) (by decide)), (fun z => absurd (c1019.symm.trans z) (by decide)), (fun z => absurd (c1019.symm.trans z) (by decide)), (fun z => absurd (c1019.symm.trans z) (by decide)), (fun z => absurd (c1019.symm.trans z) (by decide)), (fun z => absurd (c1019.symm.trans z) (by decide)), (fun z => absurd (c1019.symm.trans z) (by decide))⟩
    refine lv_tabK (a := 19) (off := 173) (tgt := 174) hx hb d_Rd_take_1 c1019 t32_19 (by decide) (by decide) rfl (by decide) ?_
    exact t_Rd_take_174 E hR hA hAB hRn  _ _ _ _ _ _ h hP hD hS (lv_sub hl [0, 1, 2] rfl)
  by_cases c1020 : x1 = 20
  · have h := hsw
    have h := h.2.2.2.2.2.2.2 ⟨(fun z => absurd (c1020.symm.trans z) (by decide)), (fun z => absurd (c1020.symm.trans z) (by decide)), (fun z => absurd (c1020.symm.trans z) (by decide)), (fun z => absurd (c1020.symm.trans z) (by decide)), (fun z => absurd (c1020.symm.trans z) (by decide)), (fun z => absurd (c1020.symm.trans z) (by decide)), (fun z => absurd (c1020.symm.trans z) (by decide))⟩
    refine lv_tabK (a := 20) (off := 173) (tgt := 174) hx hb d_Rd_take_1 c1020 t32_20 (by decide) (by decide) rfl (by decide) ?_
    exact t_Rd_take_174 E hR hA hAB hRn  _ _ _ _ _ _ h hP hD hS (lv_sub hl [0, 1, 2] rfl)
  by_cases c1021 : x1 = 21
  · have h := hsw
    have h := h.2.2.2.2.2.2.2 ⟨(fun z => absurd (c1021.symm.trans z) (by decide)), (fun z => absurd (c1021.symm.trans z) (by decide)), (fun z => absurd (c1021.symm.trans z) (by decide)), (fun z => absurd (c1021.symm.trans z) (by decide)), (fun z => absurd (c1021.symm.trans z) (by decide)), (fun z => absurd (c1021.symm.trans z) (by decide)), (fun z => absurd (c1021.symm.trans z) (by decide))⟩
    refine lv_tabK (a := 21) (off := 173) (tgt := 174) hx hb d_Rd_take_1 c1021 t32_21 (by decide) (by decide) rfl (by decide) ?_
    exact t_Rd_take_174 E hR hA hAB hRn  _ _ _ _ _ _ h hP hD hS (lv_sub hl [0, 1, 2] rfl)
  by_cases c1022 : x1 = 22
  · have h := hsw
    have h := h.2.2.2.2.2.1 (c1022)
    refine lv_tabK (a := 22) (off := 123) (tgt := 124) hx hb d_Rd_take_1 c1022 t32_22 (by decide) (by decide) rfl (by decide) ?_
    refine lv_aload_n hx hb d_Rd_take_124 rfl (lv_at hl 0 rfl) ?_
    refine lv_iconst (v := 2) hx hb d_Rd_take_125 (by decide) ?_
    refine va_put (D := G.1) (ci := 1) (v := .int 2) (ty := .int) (C := R_Rd) (T := T_Rd) (N := 8) hx hb hts i_Rd ty_Rd tyok_Rd nm_Rd hown hK hP hD hS 0 rfl rfl 5 (by decide) (hts _ b_104) (fun _ h9 => h9) rfl (by decide +kernel) rfl rfl (Nat.le_of_ble_eq_true rfl) d_Rd_take_126 (fun H locs hP hD hS => ?_)
    have hP : va_P G.1 vwCl [(a0_0, .inr (1, [.ref a0_1, .ref a0_2, .ref a0_3, .int (rdC u0), .int (rdK u0), .int 2, .int (rdD u0), .int (rdL u0)])), (a0_1, .inl (G.2.1 1, rdN u0, .inl (rdR u0))), (a0_2, .inl (G.2.1 1, rdN u0, .inl (rdB u0))), (a0_3, .inl (G.2.1 1, rdN u0, .inl (rdE u0)))] H := hP
    have hD : va_D A [(a0_0, .inr (1, [.ref a0_1, .ref a0_2, .ref a0_3, .int (rdC u0), .int (rdK u0), .int 2, .int (rdD u0), .int (rdL u0)])), (a0_1, .inl (G.2.1 1, rdN u0, .inl (rdR u0))), (a0_2, .inl (G.2.1 1, rdN u0, .inl (rdB u0))), (a0_3, .inl (G.2.1 1, rdN u0, .inl (rdE u0)))] := hD
    refine lv_goto (tgt := 174) hx hb d_Rd_take_129 (by decide) ?_
    exact t_Rd_take_174 E hR hA hAB hRn  _ _ _ _ _ _ h hP hD hS (lv_sub hl [0, 1, 2] rfl)
  by_cases c1023 : x1 = 23
  · have h := hsw
    have h := h.2.2.2.2.2.2.1 (c1023)
    refine lv_tabK (a := 23) (off := 131) (tgt := 132) hx hb d_Rd_take_1 c1023 t32_23 (by decide) (by decide) rfl (by decide) ?_
    refine lv_aload_n hx hb d_Rd_take_132 rfl (lv_at hl 0 rfl) ?_
    refine lv_iconst (v := 3) hx hb d_Rd_take_133 (by decide) ?_
    refine va_put (D := G.1) (ci := 1) (v := .int 3) (ty := .int) (C := R_Rd) (T := T_Rd) (N := 8) hx hb hts i_Rd ty_Rd tyok_Rd nm_Rd hown hK hP hD hS 0 rfl rfl 5 (by decide) (hts _ b_104) (fun _ h9 => h9) rfl (by decide +kernel) rfl rfl (Nat.le_of_ble_eq_true rfl) d_Rd_take_134 (fun H locs hP hD hS => ?_)
    have hP : va_P G.1 vwCl [(a0_0, .inr (1, [.ref a0_1, .ref a0_2, .ref a0_3, .int (rdC u0), .int (rdK u0), .int 3, .int (rdD u0), .int (rdL u0)])), (a0_1, .inl (G.2.1 1, rdN u0, .inl (rdR u0))), (a0_2, .inl (G.2.1 1, rdN u0, .inl (rdB u0))), (a0_3, .inl (G.2.1 1, rdN u0, .inl (rdE u0)))] H := hP
    have hD : va_D A [(a0_0, .inr (1, [.ref a0_1, .ref a0_2, .ref a0_3, .int (rdC u0), .int (rdK u0), .int 3, .int (rdD u0), .int (rdL u0)])), (a0_1, .inl (G.2.1 1, rdN u0, .inl (rdR u0))), (a0_2, .inl (G.2.1 1, rdN u0, .inl (rdB u0))), (a0_3, .inl (G.2.1 1, rdN u0, .inl (rdE u0)))] := hD
    refine lv_goto (tgt := 174) hx hb d_Rd_take_137 (by decide) ?_
    exact t_Rd_take_174 E hR hA hAB hRn  _ _ _ _ _ _ h hP hD hS (lv_sub hl [0, 1, 2] rfl)
  have h := hsw.2.2.2.2.2.2.2 ⟨c1001, c1002, c1005, c1015, c1016, c1022, c1023⟩
  refine lv_tableOut (tgt := 174) hx hb d_Rd_take_1 (sw_out (lo := 1) (n := 23) (lt_s (lt_s (lt_s (lt_s (lt_s (lt_s (lt_s (lt_s (lt_s (lt_s (lt_s (lt_s (lt_s (lt_s (lt_s (lt_s (lt_s (lt_s (lt_s (lt_s (lt_s (lt_s (lt_s lt_0 (lv_neT c1001 t32_1)) (lv_neT c1002 t32_2)) (lv_neT c1003 t32_3)) (lv_neT c1004 t32_4)) (lv_neT c1005 t32_5)) (lv_neT c1006 t32_6)) (lv_neT c1007 t32_7)) (lv_neT c1008 t32_8)) (lv_neT c1009 t32_9)) (lv_neT c1010 t32_10)) (lv_neT c1011 t32_11)) (lv_neT c1012 t32_12)) (lv_neT c1013 t32_13)) (lv_neT c1014 t32_14)) (lv_neT c1015 t32_15)) (lv_neT c1016 t32_16)) (lv_neT c1017 t32_17)) (lv_neT c1018 t32_18)) (lv_neT c1019 t32_19)) (lv_neT c1020 t32_20)) (lv_neT c1021 t32_21)) (lv_neT c1022 t32_22)) (lv_neT c1023 t32_23))) (by decide) ?_
  exact t_Rd_take_174 E hR hA hAB hRn  _ _ _ _ _ _ h hP hD hS (lv_sub hl [0, 1, 2] rfl)
set_option maxHeartbeats 4000000 in
set_option maxRecDepth 100000 in
theorem c_Rd_take (l : Launch) (G : GX) (a0_0 a0_1 a0_2 a0_3 : Nat) (u0 : RdC) (x1 : Int32) (x2 : Int32) (sz : Nat) (post : RdC → Prop) (h : wp_Rd_take post u0 x1 x2) : Met l y_Rd_take wc_Rd_take rm_Rd_take (mW G [.ref a0_0, .int x1, .int x2] sz [(a0_0, .inr (1, [.ref a0_1, .ref a0_2, .ref a0_3, .int (rdC u0), .int (rdK u0), .int (rdX u0), .int (rdD u0), .int (rdL u0)])), (a0_1, .inl (G.2.1 1, rdN u0, .inl (rdR u0))), (a0_2, .inl (G.2.1 1, rdN u0, .inl (rdB u0))), (a0_3, .inl (G.2.1 1, rdN u0, .inl (rdE u0)))] []) (va_Qv post (fun (u : RdC) (t : State) => va_P G.1 vwCl [(a0_0, .inr (1, [.ref a0_1, .ref a0_2, .ref a0_3, .int (rdC u), .int (rdK u), .int (rdX u), .int (rdD u), .int (rdL u)])), (a0_1, .inl (G.2.1 1, rdN u, .inl (rdR u))), (a0_2, .inl (G.2.1 1, rdN u, .inl (rdB u))), (a0_3, .inl (G.2.1 1, rdN u, .inl (rdE u)))] t.heap) (va_A [(a0_0, .inr (1, [.ref a0_1, .ref a0_2, .ref a0_3, .int (rdC u0), .int (rdK u0), .int (rdX u0), .int (rdD u0), .int (rdL u0)])), (a0_1, .inl (G.2.1 1, rdN u0, .inl (rdR u0))), (a0_2, .inl (G.2.1 1, rdN u0, .inl (rdB u0))), (a0_3, .inl (G.2.1 1, rdN u0, .inl (rdE u0)))] sz)) 0 0 (va_A [(a0_0, .inr (1, [.ref a0_1, .ref a0_2, .ref a0_3, .int (rdC u0), .int (rdK u0), .int (rdX u0), .int (rdD u0), .int (rdL u0)])), (a0_1, .inl (G.2.1 1, rdN u0, .inl (rdR u0))), (a0_2, .inl (G.2.1 1, rdN u0, .inl (rdB u0))), (a0_3, .inl (G.2.1 1, rdN u0, .inl (rdE u0)))] sz) := by
  refine Met.ofW (cc := cc_Rd_take) (maxL := 3) (ret := none) (by decide) rfl ?_
  intro p e s m args below meth c s₁ B hml hv
  obtain ⟨rfl, hC, hsz, hP, hD0, hR, hap⟩ := hv
  have E : EN p s m ([.ref a0_0, .int x1, .int x2] : List Value).toArray meth c G R_Rd cc_Rd_take 3 none BG := ⟨B.exec, B.bytes, B.returns, fun w h => atoms_spec (ws := wc_Rd_take) B.pre w (List.mem_cons_of_mem _ h), findClass_of_methodNamed B.named, B.notSynchronized, hml, hC⟩
  subst hsz
  have hD := hD0.self (sz := s.heap.size)
  have hRn := mw_notA hR hap
  have hAB := mw_AB hD0 hC
  have hA : ∀ q : Nat, s.heap.size ≤ q → va_A [(a0_0, .inr (1, [.ref a0_1, .ref a0_2, .ref a0_3, .int (rdC u0), .int (rdK u0), .int (rdX u0), .int (rdD u0), .int (rdL u0)])), (a0_1, .inl (G.2.1 1, rdN u0, .inl (rdR u0))), (a0_2, .inl (G.2.1 1, rdN u0, .inl (rdB u0))), (a0_3, .inl (G.2.1 1, rdN u0, .inl (rdE u0)))] s.heap.size q := fun q z => Or.inr z
  generalize va_A [(a0_0, .inr (1, [.ref a0_1, .ref a0_2, .ref a0_3, .int (rdC u0), .int (rdK u0), .int (rdX u0), .int (rdD u0), .int (rdL u0)])), (a0_1, .inl (G.2.1 1, rdN u0, .inl (rdR u0))), (a0_2, .inl (G.2.1 1, rdN u0, .inl (rdB u0))), (a0_3, .inl (G.2.1 1, rdN u0, .inl (rdE u0)))] s.heap.size = A at hD hRn hAB hA ⊢
  have hl := lv_entry ([.ref a0_0, .int x1, .int x2]) (n := 3) (Nat.le_of_ble_eq_true rfl)
  rw [lg_entry_eq]
  generalize (lg_sl ([.ref a0_0, .int x1, .int x2]) ++ List.replicate (3 - (lg_sl ([.ref a0_0, .int x1, .int x2])).length) Slot.unset).toArray = ls at hl ⊢
  have hl : lv_has ls 3 [(0, .ref a0_0), (1, .int x1), (2, .int x2)] := hl
  exact t_Rd_take_in E hR hA hAB hRn _ _ _ h hP hD va_S.rf hl
set_option maxHeartbeats 4000000 in
set_option maxRecDepth 100000 in
theorem t_Rd_faultOf_90 {p : Program} {l : Launch} {e : Env} {s : State} {m : MethodId} {args : Array Value} {below : List Frame} {meth : Method} {c : Code} {G : GX} {a0_0 a0_1 a0_2 a0_3 a1_0 a1_1 : Nat} {u1 : RowC} {post : Int32 → RdC → Prop} {A : Nat → Prop} (E : EN p s m args meth c G R_Rd cc_Rd_faultOf 5 (some .int) BG) (hR : va_P G.1 vwCl [(a1_0, .inr (2, [.ref a1_1, .int (rwS u1)])), (a1_1, .inl (G.2.1 0, rwN u1, .inl (rwF u1)))] s.heap) (hA : ∀ q : Nat, s.heap.size ≤ q → A q) (hAB : ∀ q : Nat, A q → G.2.2.1 ≤ q) (hRn : ∀ (j : Nat) (q : Nat × va_E), ([(a1_0, .inr (2, [.ref a1_1, .int (rwS u1)])), (a1_1, .inl (G.2.1 0, rwN u1, .inl (rwF u1)))] : va_W)[j]? = some q → ¬ A q.1) : ∀ (w0 : RdC) (H : Heap) (locs : List Loc) (ls : Array Slot), w_Rd_faultOf_90 post u1 w0 → va_P G.1 vwCl [(a0_0, .inr (1, [.ref a0_1, .ref a0_2, .ref a0_3, .int (rdC w0), .int (rdK w0), .int (rdX w0), .int (rdD w0), .int (rdL w0)])), (a0_1, .inl (G.2.1 1, rdN w0, .inl (rdR w0))), (a0_2, .inl (G.2.1 1, rdN w0, .inl (rdB w0))), (a0_3, .inl (G.2.1 1, rdN w0, .inl (rdE w0)))] H → va_D A [(a0_0, .inr (1, [.ref a0_1, .ref a0_2, .ref a0_3, .int (rdC w0), .int (rdK w0), .int (rdX w0), .int (rdD w0), .int (rdL w0)])), (a0_1, .inl (G.2.1 1, rdN w0, .inl (rdR w0))), (a0_2, .inl (G.2.1 1, rdN w0, .inl (rdB w0))), (a0_3, .inl (G.2.1 1, rdN w0, .inl (rdE w0)))] → va_S A s.heap H locs → lv_has ls 5 [(0, .ref a0_0), (1, .ref a1_0)] → W p l e rm_Rd_faultOf s m args below meth c H locs 0 0 (MQ below (va_Qi post (fun (u : RdC) (t : State) => va_P G.1 vwCl [(a0_0, .inr (1, [.ref a0_1, .ref a0_2, .ref a0_3, .int (rdC u), .int (rdK u), .int (rdX u), .int (rdD u), .int (rdL u)])), (a0_1, .inl (G.2.1 1, rdN u, .inl (rdR u))), (a0_2, .inl (G.2.1 1, rdN u, .inl (rdB u))), (a0_3, .inl (G.2.1 1, rdN u, .inl (rdE u)))] t.heap) A) args s 0 0 A) (F0 m 90 ls []) := by
  obtain ⟨hx, hb, hr, hts, hown, hlocks, hml, hC⟩ := id E
  have hK := hC.1
  intro w0  H locs ls h hP hD hS hl
  unfold w_Rd_faultOf_90 at h
  refine lv_aload_n hx hb d_Rd_faultOf_90 rfl (lv_at hl 0 rfl) ?_
  have hRc : va_P G.1 vwCl [(a0_0, .inr (1, [.ref a0_1, .ref a0_2, .ref a0_3, .int (rdC w0), .int (rdK w0), .int (rdX w0), .int (rdD w0), .int (rdL w0)])), (a0_1, .inl (G.2.1 1, rdN w0, .inl (rdR w0))), (a0_2, .inl (G.2.1 1, rdN w0, .inl (rdB w0))), (a0_3, .inl (G.2.1 1, rdN w0, .inl (rdE w0)))] H := (hP.sub (ws' := [(a0_0, .inr (1, [.ref a0_1, .ref a0_2, .ref a0_3, .int (rdC w0), .int (rdK w0), .int (rdX w0), .int (rdD w0), .int (rdL w0)])), (a0_1, .inl (G.2.1 1, rdN w0, .inl (rdR w0))), (a0_2, .inl (G.2.1 1, rdN w0, .inl (rdB w0))), (a0_3, .inl (G.2.1 1, rdN w0, .inl (rdE w0)))]) [0, 1, 2, 3] rfl)
  refine vp_callSi (va_runV (As := []) (rest := []) ⟨hx, hb, hml, hown, hts⟩ (c_Rd_mayEnd l G a0_0 a0_1 a0_2 a0_3 w0 _ h) (cwV 0 hts (gwV b_157 b_158 b_159 b_90 b_156) rfl rfl rfl hd_Rd_mayEnd ⟨Nat.le_of_ble_eq_true rfl, Nat.le_of_ble_eq_true rfl⟩) ⟨mP_blind, va_recv hK hRc (ci := 1) (q0 := 0) rfl rfl, fun U hU hW => ⟨rfl, hC.to hW hU hS hAB, by rw [hU]; exact hRc⟩⟩ rfl rfl hl.1 rfl (lv_room (Nat.le_of_ble_eq_true rfl)) d_Rd_faultOf_91 ⟨Nat.le_of_ble_eq_true rfl, Nat.le_of_ble_eq_true rfl⟩).run (fun r5 h => ?_)
  refine lv_if_eq (tgt := 101) hx hb d_Rd_faultOf_94 (by decide) (fun c9 => ?_) (fun c9 => ?_)
  · have h := h.1 c9
    refine lv_aload_n hx hb d_Rd_faultOf_101 rfl (lv_at hl 1 rfl) ?_
    refine va_getN (D := G.1) (ci := 2) (v := .int (rwS u1)) (C := R_Rw) (T := T_Rw) (N := 2) hx hb hts i_Rw hown hK (ro_now hR hRn hS) 0 rfl rfl 1 (by decide) (nf_5 hC) (fun _ h9 => h9) rfl d_Rd_faultOf_102 ?_
    exact W.iret hx hb hr (fun t ht hW => ⟨⟨_, _, rfl, h, vaP_at ht hP⟩, hS.F ht⟩) hS.2.2 d_Rd_faultOf_105
  · have h := h.2 c9
    refine lv_iconst (v := (-1)) hx hb d_Rd_faultOf_97 (by decide) ?_
    refine lv_goto (tgt := 105) hx hb d_Rd_faultOf_98 (by decide) ?_
    exact W.iret hx hb hr (fun t ht hW => ⟨⟨_, _, rfl, h, vaP_at ht hP⟩, hS.F ht⟩) hS.2.2 d_Rd_faultOf_105
set_option maxHeartbeats 4000000 in
set_option maxRecDepth 100000 in
theorem t_Rd_faultOf_77 {p : Program} {l : Launch} {e : Env} {s : State} {m : MethodId} {args : Array Value} {below : List Frame} {meth : Method} {c : Code} {G : GX} {a0_0 a0_1 a0_2 a0_3 a1_0 a1_1 : Nat} {u1 : RowC} {post : Int32 → RdC → Prop} {A : Nat → Prop} (E : EN p s m args meth c G R_Rd cc_Rd_faultOf 5 (some .int) BG) (hR : va_P G.1 vwCl [(a1_0, .inr (2, [.ref a1_1, .int (rwS u1)])), (a1_1, .inl (G.2.1 0, rwN u1, .inl (rwF u1)))] s.heap) (hA : ∀ q : Nat, s.heap.size ≤ q → A q) (hAB : ∀ q : Nat, A q → G.2.2.1 ≤ q) (hRn : ∀ (j : Nat) (q : Nat × va_E), ([(a1_0, .inr (2, [.ref a1_1, .int (rwS u1)])), (a1_1, .inl (G.2.1 0, rwN u1, .inl (rwF u1)))] : va_W)[j]? = some q → ¬ A q.1) {K0 : Int32 → RdC → Prop} (hK0 : ∀ (y3 : Int32) (w0 : RdC) (H : Heap) (locs : List Loc) (ls : Array Slot), K0 y3 w0 → va_P G.1 vwCl [(a0_0, .inr (1, [.ref a0_1, .ref a0_2, .ref a0_3, .int (rdC w0), .int (rdK w0), .int (rdX w0), .int (rdD w0), .int (rdL w0)])), (a0_1, .inl (G.2.1 1, rdN w0, .inl (rdR w0))), (a0_2, .inl (G.2.1 1, rdN w0, .inl (rdB w0))), (a0_3, .inl (G.2.1 1, rdN w0, .inl (rdE w0)))] H → va_D A [(a0_0, .inr (1, [.ref a0_1, .ref a0_2, .ref a0_3, .int (rdC w0), .int (rdK w0), .int (rdX w0), .int (rdD w0), .int (rdL w0)])), (a0_1, .inl (G.2.1 1, rdN w0, .inl (rdR w0))), (a0_2, .inl (G.2.1 1, rdN w0, .inl (rdB w0))), (a0_3, .inl (G.2.1 1, rdN w0, .inl (rdE w0)))] → va_S A s.heap H locs → lv_has ls 5 [(0, .ref a0_0), (1, .ref a1_0), (3, .int y3)] → W p l e rm_Rd_faultOf s m args below meth c H locs 0 0 (MQ below (va_Qi post (fun (u : RdC) (t : State) => va_P G.1 vwCl [(a0_0, .inr (1, [.ref a0_1, .ref a0_2, .ref a0_3, .int (rdC u), .int (rdK u), .int (rdX u), .int (rdD u), .int (rdL u)])), (a0_1, .inl (G.2.1 1, rdN u, .inl (rdR u))), (a0_2, .inl (G.2.1 1, rdN u, .inl (rdB u))), (a0_3, .inl (G.2.1 1, rdN u, .inl (rdE u)))] t.heap) A) args s 0 0 A) (F0 m 27 ls [])) : ∀ (y3 : Int32) (y4 : Int32) (w0 : RdC) (H : Heap) (locs : List Loc) (ls : Array Slot), w_Rd_faultOf_77 post u1 K0 y3 y4 w0 → va_P G.1 vwCl [(a0_0, .inr (1, [.ref a0_1, .ref a0_2, .ref a0_3, .int (rdC w0), .int (rdK w0), .int (rdX w0), .int (rdD w0), .int (rdL w0)])), (a0_1, .inl (G.2.1 1, rdN w0, .inl (rdR w0))), (a0_2, .inl (G.2.1 1, rdN w0, .inl (rdB w0))), (a0_3, .inl (G.2.1 1, rdN w0, .inl (rdE w0)))] H → va_D A [(a0_0, .inr (1, [.ref a0_1, .ref a0_2, .ref a0_3, .int (rdC w0), .int (rdK w0), .int (rdX w0), .int (rdD w0), .int (rdL w0)])), (a0_1, .inl (G.2.1 1, rdN w0, .inl (rdR w0))), (a0_2, .inl (G.2.1 1, rdN w0, .inl (rdB w0))), (a0_3, .inl (G.2.1 1, rdN w0, .inl (rdE w0)))] → va_S A s.heap H locs → lv_has ls 5 [(0, .ref a0_0), (1, .ref a1_0), (3, .int y3), (4, .int y4)] → W p l e rm_Rd_faultOf s m args below meth c H locs 0 0 (MQ below (va_Qi post (fun (u : RdC) (t : State) => va_P G.1 vwCl [(a0_0, .inr (1, [.ref a0_1, .ref a0_2, .ref a0_3, .int (rdC u), .int (rdK u), .int (rdX u), .int (rdD u), .int (rdL u)])), (a0_1, .inl (G.2.1 1, rdN u, .inl (rdR u))), (a0_2, .inl (G.2.1 1, rdN u, .inl (rdB u))), (a0_3, .inl (G.2.1 1, rdN u, .inl (rdE u)))] t.heap) A) args s 0 0 A) (F0 m 77 ls []) := by
  obtain ⟨hx, hb, hr, hts, hown, hlocks, hml, hC⟩ := id E
  have hK := hC.1
  intro y3 y4 w0  H locs ls h hP hD hS hl
  unfold w_Rd_faultOf_77 at h
  refine lv_aload_n hx hb d_Rd_faultOf_77 rfl (lv_at hl 0 rfl) ?_
  refine lv_iload hx hb d_Rd_faultOf_78 (lv_at hl 3 rfl) ?_
  refine lv_iload_n hx hb d_Rd_faultOf_80 rfl (lv_at hl 2 rfl) ?_
  have hRc : va_P G.1 vwCl [] H := vaP_nil
  have hPc := hP.sub (ws' := [(a0_0, .inr (1, [.ref a0_1, .ref a0_2, .ref a0_3, .int (rdC w0), .int (rdK w0), .int (rdX w0), .int (rdD w0), .int (rdL w0)])), (a0_1, .inl (G.2.1 1, rdN w0, .inl (rdR w0))), (a0_2, .inl (G.2.1 1, rdN w0, .inl (rdB w0))), (a0_3, .inl (G.2.1 1, rdN w0, .inl (rdE w0)))]) [0, 1, 2, 3] rfl
  have hDc := hD.sub (ws' := [(a0_0, .inr (1, [.ref a0_1, .ref a0_2, .ref a0_3, .int (rdC w0), .int (rdK w0), .int (rdX w0), .int (rdD w0), .int (rdL w0)])), (a0_1, .inl (G.2.1 1, rdN w0, .inl (rdR w0))), (a0_2, .inl (G.2.1 1, rdN w0, .inl (rdB w0))), (a0_3, .inl (G.2.1 1, rdN w0, .inl (rdE w0)))]) [0, 1, 2, 3] (by decide) rfl
  have hFc := va_free (wc := [(a0_0, .inr (1, [.ref a0_1, .ref a0_2, .ref a0_3, .int (rdC w0), .int (rdK w0), .int (rdX w0), .int (rdD w0), .int (rdL w0)])), (a0_1, .inl (G.2.1 1, rdN w0, .inl (rdR w0))), (a0_2, .inl (G.2.1 1, rdN w0, .inl (rdB w0))), (a0_3, .inl (G.2.1 1, rdN w0, .inl (rdE w0)))]) hD hS hA [0, 1, 2, 3] rfl
  have hQc : mw_ap [(a0_0, .inr (1, [.ref a0_1, .ref a0_2, .ref a0_3, .int (rdC w0), .int (rdK w0), .int (rdX w0), .int (rdD w0), .int (rdL w0)])), (a0_1, .inl (G.2.1 1, rdN w0, .inl (rdR w0))), (a0_2, .inl (G.2.1 1, rdN w0, .inl (rdB w0))), (a0_3, .inl (G.2.1 1, rdN w0, .inl (rdE w0)))] [] := mw_ap_nil
  refine va_callv (va_runV (As := [.int y4, .int y3]) (rest := []) ⟨hx, hb, hml, hown, hts⟩ (c_Rd_take l G a0_0 a0_1 a0_2 a0_3 w0 y4 y3 H.size _ h) (cwV 2 hts (gwV b_161 b_162 b_163 b_90 b_160) rfl rfl rfl hd_Rd_take ⟨Nat.le_of_ble_eq_true rfl, Nat.le_of_ble_eq_true rfl⟩) ⟨mW_blind, va_recv hK hPc (ci := 1) (q0 := 0) rfl rfl, fun U hU hW => ⟨rfl, hC.to hW hU hS hAB, by rw [hU], by rw [hU]; exact hPc, hDc.weaken (fun _ _ _ => hAB _), by rw [hU]; exact hRc, hQc⟩⟩ rfl rfl hl.1 rfl (lv_room (Nat.le_of_ble_eq_true rfl)) d_Rd_faultOf_81 ⟨Nat.le_of_ble_eq_true rfl, Nat.le_of_ble_eq_true rfl⟩) hS (fun q _ h => hFc q h) hFc (fun v6 t H1 locs ht hvm h hB hz1 hk1 hS => ?_)
  rw [ht] at hB
  have hj9 := mw_join (wr := []) (w1 := [(a0_0, .inr (1, [.ref a0_1, .ref a0_2, .ref a0_3, .int (rdC v6), .int (rdK v6), .int (rdX v6), .int (rdD v6), .int (rdL v6)])), (a0_1, .inl (G.2.1 1, rdN v6, .inl (rdR v6))), (a0_2, .inl (G.2.1 1, rdN v6, .inl (rdB v6))), (a0_3, .inl (G.2.1 1, rdN v6, .inl (rdE v6)))]) hP hD [0, 1, 2, 3] [] rfl rfl (by decide) (by decide) (by decide) hk1 hFc hB rfl
  have hP : va_P G.1 vwCl [(a0_0, .inr (1, [.ref a0_1, .ref a0_2, .ref a0_3, .int (rdC v6), .int (rdK v6), .int (rdX v6), .int (rdD v6), .int (rdL v6)])), (a0_1, .inl (G.2.1 1, rdN v6, .inl (rdR v6))), (a0_2, .inl (G.2.1 1, rdN v6, .inl (rdB v6))), (a0_3, .inl (G.2.1 1, rdN v6, .inl (rdE v6)))] H1 := hj9.1
  have hD : va_D A [(a0_0, .inr (1, [.ref a0_1, .ref a0_2, .ref a0_3, .int (rdC v6), .int (rdK v6), .int (rdX v6), .int (rdD v6), .int (rdL v6)])), (a0_1, .inl (G.2.1 1, rdN v6, .inl (rdR v6))), (a0_2, .inl (G.2.1 1, rdN v6, .inl (rdB v6))), (a0_3, .inl (G.2.1 1, rdN v6, .inl (rdE v6)))] := hj9.2
  generalize H1 = H at hP hS ⊢
  refine lv_iinc (v := y3 + 1) (lv' := [(3, .int (y3 + 1)), (0, .ref a0_0), (1, .ref a1_0), (4, .int y4)]) hx hb d_Rd_faultOf_84 hl (k := 2) rfl rfl (by decide) rfl (fun ls hl => ?_)
  refine lv_goto (tgt := 27) hx hb d_Rd_faultOf_87 (by decide) ?_
  exact hK0 _ _ _ _ _ h hP hD hS (lv_sub hl [1, 2, 0] rfl)
set_option maxHeartbeats 4000000 in
set_option maxRecDepth 100000 in
theorem tb_Rd_faultOf_27 {p : Program} {l : Launch} {e : Env} {s : State} {m : MethodId} {args : Array Value} {below : List Frame} {meth : Method} {c : Code} {G : GX} {a0_0 a0_1 a0_2 a0_3 a1_0 a1_1 : Nat} {u1 : RowC} {post : Int32 → RdC → Prop} {A : Nat → Prop} (E : EN p s m args meth c G R_Rd cc_Rd_faultOf 5 (some .int) BG) (hR : va_P G.1 vwCl [(a1_0, .inr (2, [.ref a1_1, .int (rwS u1)])), (a1_1, .inl (G.2.1 0, rwN u1, .inl (rwF u1)))] s.heap) (hA : ∀ q : Nat, s.heap.size ≤ q → A q) (hAB : ∀ q : Nat, A q → G.2.2.1 ≤ q) (hRn : ∀ (j : Nat) (q : Nat × va_E), ([(a1_0, .inr (2, [.ref a1_1, .int (rwS u1)])), (a1_1, .inl (G.2.1 0, rwN u1, .inl (rwF u1)))] : va_W)[j]? = some q → ¬ A q.1) {K0 : Int32 → RdC → Prop} (hK0 : ∀ (y3 : Int32) (w0 : RdC) (H : Heap) (locs : List Loc) (ls : Array Slot), K0 y3 w0 → va_P G.1 vwCl [(a0_0, .inr (1, [.ref a0_1, .ref a0_2, .ref a0_3, .int (rdC w0), .int (rdK w0), .int (rdX w0), .int (rdD w0), .int (rdL w0)])), (a0_1, .inl (G.2.1 1, rdN w0, .inl (rdR w0))), (a0_2, .inl (G.2.1 1, rdN w0, .inl (rdB w0))), (a0_3, .inl (G.2.1 1, rdN w0, .inl (rdE w0)))] H → va_D A [(a0_0, .inr (1, [.ref a0_1, .ref a0_2, .ref a0_3, .int (rdC w0), .int (rdK w0), .int (rdX w0), .int (rdD w0), .int (rdL w0)])), (a0_1, .inl (G.2.1 1, rdN w0, .inl (rdR w0))), (a0_2, .inl (G.2.1 1, rdN w0, .inl (rdB w0))), (a0_3, .inl (G.2.1 1, rdN w0, .inl (rdE w0)))] → va_S A s.heap H locs → lv_has ls 5 [(0, .ref a0_0), (1, .ref a1_0), (3, .int y3)] → W p l e rm_Rd_faultOf s m args below meth c H locs 0 0 (MQ below (va_Qi post (fun (u : RdC) (t : State) => va_P G.1 vwCl [(a0_0, .inr (1, [.ref a0_1, .ref a0_2, .ref a0_3, .int (rdC u), .int (rdK u), .int (rdX u), .int (rdD u), .int (rdL u)])), (a0_1, .inl (G.2.1 1, rdN u, .inl (rdR u))), (a0_2, .inl (G.2.1 1, rdN u, .inl (rdB u))), (a0_3, .inl (G.2.1 1, rdN u, .inl (rdE u)))] t.heap) A) args s 0 0 A) (F0 m 27 ls [])) : ∀ (y3 : Int32) (w0 : RdC) (H : Heap) (locs : List Loc) (ls : Array Slot), wb_Rd_faultOf_27 post u1 K0 y3 w0 → va_P G.1 vwCl [(a0_0, .inr (1, [.ref a0_1, .ref a0_2, .ref a0_3, .int (rdC w0), .int (rdK w0), .int (rdX w0), .int (rdD w0), .int (rdL w0)])), (a0_1, .inl (G.2.1 1, rdN w0, .inl (rdR w0))), (a0_2, .inl (G.2.1 1, rdN w0, .inl (rdB w0))), (a0_3, .inl (G.2.1 1, rdN w0, .inl (rdE w0)))] H → va_D A [(a0_0, .inr (1, [.ref a0_1, .ref a0_2, .ref a0_3, .int (rdC w0), .int (rdK w0), .int (rdX w0), .int (rdD w0), .int (rdL w0)])), (a0_1, .inl (G.2.1 1, rdN w0, .inl (rdR w0))), (a0_2, .inl (G.2.1 1, rdN w0, .inl (rdB w0))), (a0_3, .inl (G.2.1 1, rdN w0, .inl (rdE w0)))] → va_S A s.heap H locs → lv_has ls 5 [(0, .ref a0_0), (1, .ref a1_0), (3, .int y3)] → W p l e rm_Rd_faultOf s m args below meth c H locs 0 0 (MQ below (va_Qi post (fun (u : RdC) (t : State) => va_P G.1 vwCl [(a0_0, .inr (1, [.ref a0_1, .ref a0_2, .ref a0_3, .int (rdC u), .int (rdK u), .int (rdX u), .int (rdD u), .int (rdL u)])), (a0_1, .inl (G.2.1 1, rdN u, .inl (rdR u))), (a0_2, .inl (G.2.1 1, rdN u, .inl (rdB u))), (a0_3, .inl (G.2.1 1, rdN u, .inl (rdE u)))] t.heap) A) args s 0 0 A) (F0 m 27 ls []) := by
  obtain ⟨hx, hb, hr, hts, hown, hlocks, hml, hC⟩ := id E
  have hK := hC.1
  intro y3 w0  H locs ls h hP hD hS hl
  unfold wb_Rd_faultOf_27 at h
  refine lv_iload_n hx hb d_Rd_faultOf_27 rfl (lv_at hl 2 rfl) ?_
  refine lv_aload_n hx hb d_Rd_faultOf_28 rfl (lv_at hl 1 rfl) ?_
  refine va_getN (D := G.1) (ci := 2) (v := .int (rwS u1)) (C := R_Rw) (T := T_Rw) (N := 2) hx hb hts i_Rw hown hK (ro_now hR hRn hS) 0 rfl rfl 1 (by decide) (nf_5 hC) (fun _ h9 => h9) rfl d_Rd_faultOf_29 ?_
  refine lv_icmp_ge (tgt := 90) hx hb d_Rd_faultOf_32 (by decide) (fun c9 => ?_) (fun c9 => ?_)
  · have h := h.1 c9
    exact t_Rd_faultOf_90 E hR hA hAB hRn  _ _ _ _ h hP hD hS (lv_sub hl [0, 1] rfl)
  · have h := h.2 c9
    refine lv_iload_n hx hb d_Rd_faultOf_35 rfl (lv_at hl 2 rfl) ?_
    refine lv_aload_n hx hb d_Rd_faultOf_36 rfl (lv_at hl 0 rfl) ?_
    refine va_get (D := G.1) (ci := 1) (v := .ref a0_1) (C := R_Rd) (T := T_Rd) (N := 8) hx hb hts i_Rd hown hK hP 0 rfl rfl 0 (by decide) (hts _ b_147) (fun _ h9 => h9) rfl d_Rd_faultOf_37 ?_
    refine va_alen hx hb hK hP 1 1 rfl rfl (v := Int32.ofNat (rdN w0)) rfl d_Rd_faultOf_40 ?_
    refine lv_icmp_ge (tgt := 90) hx hb d_Rd_faultOf_41 (by decide) (fun c9 => ?_) (fun c9 => ?_)
    · have h := h.1 c9
      exact t_Rd_faultOf_90 E hR hA hAB hRn  _ _ _ _ h hP hD hS (lv_sub hl [0, 1] rfl)
    · have h := h.2 c9
      refine lv_aload_n hx hb d_Rd_faultOf_44 rfl (lv_at hl 0 rfl) ?_
      refine lv_aload_n hx hb d_Rd_faultOf_45 rfl (lv_at hl 1 rfl) ?_
      refine va_getN (D := G.1) (ci := 2) (v := .ref a1_1) (C := R_Rw) (T := T_Rw) (N := 2) hx hb hts i_Rw hown hK (ro_now hR hRn hS) 0 rfl rfl 0 (by decide) (nf_1 hC) (fun _ h9 => h9) rfl d_Rd_faultOf_46 ?_
      refine lv_iload_n hx hb d_Rd_faultOf_49 rfl (lv_at hl 2 rfl) ?_
      have hi9 := h.1
      have h := h.2
      refine va_cald hx hb hK (ro_now hR hRn hS) 1 0 rfl rfl hi9 d_Rd_faultOf_50 ?_
      have hRc : va_P G.1 vwCl [(a0_0, .inr (1, [.ref a0_1, .ref a0_2, .ref a0_3, .int (rdC w0), .int (rdK w0), .int (rdX w0), .int (rdD w0), .int (rdL w0)])), (a0_1, .inl (G.2.1 1, rdN w0, .inl (rdR w0))), (a0_2, .inl (G.2.1 1, rdN w0, .inl (rdB w0))), (a0_3, .inl (G.2.1 1, rdN w0, .inl (rdE w0)))] H := (hP.sub (ws' := [(a0_0, .inr (1, [.ref a0_1, .ref a0_2, .ref a0_3, .int (rdC w0), .int (rdK w0), .int (rdX w0), .int (rdD w0), .int (rdL w0)])), (a0_1, .inl (G.2.1 1, rdN w0, .inl (rdR w0))), (a0_2, .inl (G.2.1 1, rdN w0, .inl (rdB w0))), (a0_3, .inl (G.2.1 1, rdN w0, .inl (rdE w0)))]) [0, 1, 2, 3] rfl)
      refine vp_callSi (va_runV (As := [.int ((rwF u1) y3.toNatClampNeg)]) (rest := []) ⟨hx, hb, hml, hown, hts⟩ (c_Rd_roleOf l G a0_0 a0_1 a0_2 a0_3 w0 ((rwF u1) y3.toNatClampNeg) _ h) (cwV 1 hts (gwV b_149 b_150 b_151 b_90 b_148) rfl rfl rfl hd_Rd_roleOf ⟨Nat.le_of_ble_eq_true rfl, Nat.le_of_ble_eq_true rfl⟩) ⟨mP_blind, va_recv hK hRc (ci := 1) (q0 := 0) rfl rfl, fun U hU hW => ⟨rfl, hC.to hW hU hS hAB, by rw [hU]; exact hRc⟩⟩ rfl rfl hl.1 rfl (lv_room (Nat.le_of_ble_eq_true rfl)) d_Rd_faultOf_51 ⟨Nat.le_of_ble_eq_true rfl, Nat.le_of_ble_eq_true rfl⟩).run (fun r7 h => ?_)
      refine lv_istore (lv' := [(4, .int r7), (0, .ref a0_0), (1, .ref a1_0), (3, .int y3)]) hx hb d_Rd_faultOf_54 hl (by decide) rfl (fun ls hl => ?_)
      refine lv_iload hx hb d_Rd_faultOf_56 (lv_at hl 0 rfl) ?_
      refine lv_if_eq (tgt := 75) hx hb d_Rd_faultOf_58 (by decide) (fun c9 => ?_) (fun c9 => ?_)
      · have h := h.1 c9
        refine lv_iload_n hx hb d_Rd_faultOf_75 rfl (lv_at hl 3 rfl) ?_
        exact W.iret hx hb hr (fun t ht hW => ⟨⟨_, _, rfl, h, vaP_at ht hP⟩, hS.F ht⟩) hS.2.2 d_Rd_faultOf_76
      · have h := h.2 c9
        refine lv_iload hx hb d_Rd_faultOf_61 (lv_at hl 0 rfl) ?_
        refine lv_iconst (v := 3) hx hb d_Rd_faultOf_63 (by decide) ?_
        refine lv_icmp_ne (tgt := 77) hx hb d_Rd_faultOf_64 (by decide) (fun c9 => ?_) (fun c9 => ?_)
        · have h := h.1 c9
          exact t_Rd_faultOf_77 E hR hA hAB hRn hK0 _ _ _ _ _ _ h hP hD hS (lv_sub hl [1, 2, 3, 0] rfl)
        · have h := h.2 c9
          refine lv_aload_n hx hb d_Rd_faultOf_67 rfl (lv_at hl 1 rfl) ?_
          refine lv_aload_n hx hb d_Rd_faultOf_68 rfl (lv_at hl 2 rfl) ?_
          have hRc : va_P G.1 vwCl [(a0_0, .inr (1, [.ref a0_1, .ref a0_2, .ref a0_3, .int (rdC w0), .int (rdK w0), .int (rdX w0), .int (rdD w0), .int (rdL w0)])), (a0_1, .inl (G.2.1 1, rdN w0, .inl (rdR w0))), (a0_2, .inl (G.2.1 1, rdN w0, .inl (rdB w0))), (a0_3, .inl (G.2.1 1, rdN w0, .inl (rdE w0))), (a1_0, .inr (2, [.ref a1_1, .int (rwS u1)])), (a1_1, .inl (G.2.1 0, rwN u1, .inl (rwF u1)))] H := ((hP.sub (ws' := [(a0_0, .inr (1, [.ref a0_1, .ref a0_2, .ref a0_3, .int (rdC w0), .int (rdK w0), .int (rdX w0), .int (rdD w0), .int (rdL w0)])), (a0_1, .inl (G.2.1 1, rdN w0, .inl (rdR w0))), (a0_2, .inl (G.2.1 1, rdN w0, .inl (rdB w0))), (a0_3, .inl (G.2.1 1, rdN w0, .inl (rdE w0)))]) [0, 1, 2, 3] rfl).app ((ro_now hR hRn hS).sub (ws' := [(a1_0, .inr (2, [.ref a1_1, .int (rwS u1)])), (a1_1, .inl (G.2.1 0, rwN u1, .inl (rwF u1)))]) [0, 1] rfl))
          refine vp_callSi (va_runV (As := [.ref a1_0]) (rest := []) ⟨hx, hb, hml, hown, hts⟩ (c_Rd_nameIsTaken l G a0_0 a0_1 a0_2 a0_3 a1_0 a1_1 w0 u1 _ h) (cwV 1 hts (gwV b_153 b_154 b_155 b_90 b_152) rfl rfl rfl hd_Rd_nameIsTaken ⟨Nat.le_of_ble_eq_true rfl, Nat.le_of_ble_eq_true rfl⟩) ⟨mP_blind, va_recv hK hRc (ci := 1) (q0 := 0) rfl rfl, fun U hU hW => ⟨rfl, hC.to hW hU hS hAB, by rw [hU]; exact hRc⟩⟩ rfl rfl hl.1 rfl (lv_room (Nat.le_of_ble_eq_true rfl)) d_Rd_faultOf_69 ⟨Nat.le_of_ble_eq_true rfl, Nat.le_of_ble_eq_true rfl⟩).run (fun r8 h => ?_)
          refine lv_if_eq (tgt := 77) hx hb d_Rd_faultOf_72 (by decide) (fun c9 => ?_) (fun c9 => ?_)
          · have h := h.1 c9
            exact t_Rd_faultOf_77 E hR hA hAB hRn hK0 _ _ _ _ _ _ h hP hD hS (lv_sub hl [1, 2, 3, 0] rfl)
          · have h := h.2 c9
            refine lv_iload_n hx hb d_Rd_faultOf_75 rfl (lv_at hl 3 rfl) ?_
            exact W.iret hx hb hr (fun t ht hW => ⟨⟨_, _, rfl, h, vaP_at ht hP⟩, hS.F ht⟩) hS.2.2 d_Rd_faultOf_76
set_option maxHeartbeats 4000000 in
set_option maxRecDepth 100000 in
theorem t_Rd_faultOf_27 {p : Program} {l : Launch} {e : Env} {s : State} {m : MethodId} {args : Array Value} {below : List Frame} {meth : Method} {c : Code} {G : GX} {a0_0 a0_1 a0_2 a0_3 a1_0 a1_1 : Nat} {u1 : RowC} {post : Int32 → RdC → Prop} {A : Nat → Prop} (E : EN p s m args meth c G R_Rd cc_Rd_faultOf 5 (some .int) BG) (hR : va_P G.1 vwCl [(a1_0, .inr (2, [.ref a1_1, .int (rwS u1)])), (a1_1, .inl (G.2.1 0, rwN u1, .inl (rwF u1)))] s.heap) (hA : ∀ q : Nat, s.heap.size ≤ q → A q) (hAB : ∀ q : Nat, A q → G.2.2.1 ≤ q) (hRn : ∀ (j : Nat) (q : Nat × va_E), ([(a1_0, .inr (2, [.ref a1_1, .int (rwS u1)])), (a1_1, .inl (G.2.1 0, rwN u1, .inl (rwF u1)))] : va_W)[j]? = some q → ¬ A q.1) : ∀ (n : Nat) (y3 : Int32) (w0 : RdC) (H : Heap) (locs : List Loc) (ls : Array Slot), w_Rd_faultOf_27 post u1 n y3 w0 → va_P G.1 vwCl [(a0_0, .inr (1, [.ref a0_1, .ref a0_2, .ref a0_3, .int (rdC w0), .int (rdK w0), .int (rdX w0), .int (rdD w0), .int (rdL w0)])), (a0_1, .inl (G.2.1 1, rdN w0, .inl (rdR w0))), (a0_2, .inl (G.2.1 1, rdN w0, .inl (rdB w0))), (a0_3, .inl (G.2.1 1, rdN w0, .inl (rdE w0)))] H → va_D A [(a0_0, .inr (1, [.ref a0_1, .ref a0_2, .ref a0_3, .int (rdC w0), .int (rdK w0), .int (rdX w0), .int (rdD w0), .int (rdL w0)])), (a0_1, .inl (G.2.1 1, rdN w0, .inl (rdR w0))), (a0_2, .inl (G.2.1 1, rdN w0, .inl (rdB w0))), (a0_3, .inl (G.2.1 1, rdN w0, .inl (rdE w0)))] → va_S A s.heap H locs → lv_has ls 5 [(0, .ref a0_0), (1, .ref a1_0), (3, .int y3)] → W p l e rm_Rd_faultOf s m args below meth c H locs 0 0 (MQ below (va_Qi post (fun (u : RdC) (t : State) => va_P G.1 vwCl [(a0_0, .inr (1, [.ref a0_1, .ref a0_2, .ref a0_3, .int (rdC u), .int (rdK u), .int (rdX u), .int (rdD u), .int (rdL u)])), (a0_1, .inl (G.2.1 1, rdN u, .inl (rdR u))), (a0_2, .inl (G.2.1 1, rdN u, .inl (rdB u))), (a0_3, .inl (G.2.1 1, rdN u, .inl (rdE u)))] t.heap) A) args s 0 0 A) (F0 m 27 ls []) := by
  intro n
  induction n with
  | zero => intro y3 w0  H locs ls h; exact h.elim
  | succ n ih =>
    intro y3 w0  H locs ls h hP hD hS hl
    exact tb_Rd_faultOf_27 E hR hA hAB hRn  ih _ _ _ _ _ h hP hD hS hl
set_option maxHeartbeats 4000000 in
set_option maxRecDepth 100000 in
theorem t_Rd_faultOf_in {p : Program} {l : Launch} {e : Env} {s : State} {m : MethodId} {args : Array Value} {below : List Frame} {meth : Method} {c : Code} {G : GX} {a0_0 a0_1 a0_2 a0_3 a1_0 a1_1 : Nat} {u1 : RowC} {post : Int32 → RdC → Prop} {A : Nat → Prop} {u0 : RdC} {x2 : Int32} (E : EN p s m args meth c G R_Rd cc_Rd_faultOf 5 (some .int) BG) (hR : va_P G.1 vwCl [(a1_0, .inr (2, [.ref a1_1, .int (rwS u1)])), (a1_1, .inl (G.2.1 0, rwN u1, .inl (rwF u1)))] s.heap) (hA : ∀ q : Nat, s.heap.size ≤ q → A q) (hAB : ∀ q : Nat, A q → G.2.2.1 ≤ q) (hRn : ∀ (j : Nat) (q : Nat × va_E), ([(a1_0, .inr (2, [.ref a1_1, .int (rwS u1)])), (a1_1, .inl (G.2.1 0, rwN u1, .inl (rwF u1)))] : va_W)[j]? = some q → ¬ A q.1) : ∀ (H : Heap) (locs : List Loc) (ls : Array Slot), wp_Rd_faultOf post u0 u1 x2 → va_P G.1 vwCl [(a0_0, .inr (1, [.ref a0_1, .ref a0_2, .ref a0_3, .int (rdC u0), .int (rdK u0), .int (rdX u0), .int (rdD u0), .int (rdL u0)])), (a0_1, .inl (G.2.1 1, rdN u0, .inl (rdR u0))), (a0_2, .inl (G.2.1 1, rdN u0, .inl (rdB u0))), (a0_3, .inl (G.2.1 1, rdN u0, .inl (rdE u0)))] H → va_D A [(a0_0, .inr (1, [.ref a0_1, .ref a0_2, .ref a0_3, .int (rdC u0), .int (rdK u0), .int (rdX u0), .int (rdD u0), .int (rdL u0)])), (a0_1, .inl (G.2.1 1, rdN u0, .inl (rdR u0))), (a0_2, .inl (G.2.1 1, rdN u0, .inl (rdB u0))), (a0_3, .inl (G.2.1 1, rdN u0, .inl (rdE u0)))] → va_S A s.heap H locs → lv_has ls 5 [(0, .ref a0_0), (1, .ref a1_0), (2, .int x2)] → W p l e rm_Rd_faultOf s m args below meth c H locs 0 0 (MQ below (va_Qi post (fun (u : RdC) (t : State) => va_P G.1 vwCl [(a0_0, .inr (1, [.ref a0_1, .ref a0_2, .ref a0_3, .int (rdC u), .int (rdK u), .int (rdX u), .int (rdD u), .int (rdL u)])), (a0_1, .inl (G.2.1 1, rdN u, .inl (rdR u))), (a0_2, .inl (G.2.1 1, rdN u, .inl (rdB u))), (a0_3, .inl (G.2.1 1, rdN u, .inl (rdE u)))] t.heap) A) args s 0 0 A) (F0 m 0 ls []) := by
  obtain ⟨hx, hb, hr, hts, hown, hlocks, hml, hC⟩ := id E
  have hK := hC.1
  intro H locs ls h hP hD hS hl
  unfold wp_Rd_faultOf at h
  refine lv_aload_n hx hb d_Rd_faultOf_0 rfl (lv_at hl 0 rfl) ?_
  refine lv_iload_n hx hb d_Rd_faultOf_1 rfl (lv_at hl 2 rfl) ?_
  refine va_put (D := G.1) (ci := 1) (v := .int x2) (ty := .int) (C := R_Rd) (T := T_Rd) (N := 8) hx hb hts i_Rd ty_Rd tyok_Rd nm_Rd hown hK hP hD hS 0 rfl rfl 4 (by decide) (hts _ b_111) (fun _ h9 => h9) rfl (by decide +kernel) rfl rfl (Nat.le_of_ble_eq_true rfl) d_Rd_faultOf_2 (fun H locs hP hD hS => ?_)
  have hP : va_P G.1 vwCl [(a0_0, .inr (1, [.ref a0_1, .ref a0_2, .ref a0_3, .int (rdC u0), .int x2, .int (rdX u0), .int (rdD u0), .int (rdL u0)])), (a0_1, .inl (G.2.1 1, rdN u0, .inl (rdR u0))), (a0_2, .inl (G.2.1 1, rdN u0, .inl (rdB u0))), (a0_3, .inl (G.2.1 1, rdN u0, .inl (rdE u0)))] H := hP
  have hD : va_D A [(a0_0, .inr (1, [.ref a0_1, .ref a0_2, .ref a0_3, .int (rdC u0), .int x2, .int (rdX u0), .int (rdD u0), .int (rdL u0)])), (a0_1, .inl (G.2.1 1, rdN u0, .inl (rdR u0))), (a0_2, .inl (G.2.1 1, rdN u0, .inl (rdB u0))), (a0_3, .inl (G.2.1 1, rdN u0, .inl (rdE u0)))] := hD
  refine lv_aload_n hx hb d_Rd_faultOf_5 rfl (lv_at hl 0 rfl) ?_
  refine lv_iconst (v := 0) hx hb d_Rd_faultOf_6 (by decide) ?_
  refine va_put (D := G.1) (ci := 1) (v := .int 0) (ty := .int) (C := R_Rd) (T := T_Rd) (N := 8) hx hb hts i_Rd ty_Rd tyok_Rd nm_Rd hown hK hP hD hS 0 rfl rfl 3 (by decide) (hts _ b_136) (fun _ h9 => h9) rfl (by decide +kernel) rfl rfl (Nat.le_of_ble_eq_true rfl) d_Rd_faultOf_7 (fun H locs hP hD hS => ?_)
  have hP : va_P G.1 vwCl [(a0_0, .inr (1, [.ref a0_1, .ref a0_2, .ref a0_3, .int 0, .int x2, .int (rdX u0), .int (rdD u0), .int (rdL u0)])), (a0_1, .inl (G.2.1 1, rdN u0, .inl (rdR u0))), (a0_2, .inl (G.2.1 1, rdN u0, .inl (rdB u0))), (a0_3, .inl (G.2.1 1, rdN u0, .inl (rdE u0)))] H := hP
  have hD : va_D A [(a0_0, .inr (1, [.ref a0_1, .ref a0_2, .ref a0_3, .int 0, .int x2, .int (rdX u0), .int (rdD u0), .int (rdL u0)])), (a0_1, .inl (G.2.1 1, rdN u0, .inl (rdR u0))), (a0_2, .inl (G.2.1 1, rdN u0, .inl (rdB u0))), (a0_3, .inl (G.2.1 1, rdN u0, .inl (rdE u0)))] := hD
  refine lv_aload_n hx hb d_Rd_faultOf_10 rfl (lv_at hl 0 rfl) ?_
  refine lv_iconst (v := 1) hx hb d_Rd_faultOf_11 (by decide) ?_
  refine va_put (D := G.1) (ci := 1) (v := .int 1) (ty := .int) (C := R_Rd) (T := T_Rd) (N := 8) hx hb hts i_Rd ty_Rd tyok_Rd nm_Rd hown hK hP hD hS 0 rfl rfl 5 (by decide) (hts _ b_104) (fun _ h9 => h9) rfl (by decide +kernel) rfl rfl (Nat.le_of_ble_eq_true rfl) d_Rd_faultOf_12 (fun H locs hP hD hS => ?_)
  have hP : va_P G.1 vwCl [(a0_0, .inr (1, [.ref a0_1, .ref a0_2, .ref a0_3, .int 0, .int x2, .int 1, .int (rdD u0), .int (rdL u0)])), (a0_1, .inl (G.2.1 1, rdN u0, .inl (rdR u0))), (a0_2, .inl (G.2.1 1, rdN u0, .inl (rdB u0))), (a0_3, .inl (G.2.1 1, rdN u0, .inl (rdE u0)))] H := hP
  have hD : va_D A [(a0_0, .inr (1, [.ref a0_1, .ref a0_2, .ref a0_3, .int 0, .int x2, .int 1, .int (rdD u0), .int (rdL u0)])), (a0_1, .inl (G.2.1 1, rdN u0, .inl (rdR u0))), (a0_2, .inl (G.2.1 1, rdN u0, .inl (rdB u0))), (a0_3, .inl (G.2.1 1, rdN u0, .inl (rdE u0)))] := hD
  refine lv_aload_n hx hb d_Rd_faultOf_15 rfl (lv_at hl 0 rfl) ?_
  refine lv_iconst (v := 0) hx hb d_Rd_faultOf_16 (by decide) ?_
  refine va_put (D := G.1) (ci := 1) (v := .int 0) (ty := .int) (C := R_Rd) (T := T_Rd) (N := 8) hx hb hts i_Rd ty_Rd tyok_Rd nm_Rd hown hK hP hD hS 0 rfl rfl 6 (by decide) (hts _ b_103) (fun _ h9 => h9) rfl (by decide +kernel) rfl rfl (Nat.le_of_ble_eq_true rfl) d_Rd_faultOf_17 (fun H locs hP hD hS => ?_)
  have hP : va_P G.1 vwCl [(a0_0, .inr (1, [.ref a0_1, .ref a0_2, .ref a0_3, .int 0, .int x2, .int 1, .int 0, .int (rdL u0)])), (a0_1, .inl (G.2.1 1, rdN u0, .inl (rdR u0))), (a0_2, .inl (G.2.1 1, rdN u0, .inl (rdB u0))), (a0_3, .inl (G.2.1 1, rdN u0, .inl (rdE u0)))] H := hP
  have hD : va_D A [(a0_0, .inr (1, [.ref a0_1, .ref a0_2, .ref a0_3, .int 0, .int x2, .int 1, .int 0, .int (rdL u0)])), (a0_1, .inl (G.2.1 1, rdN u0, .inl (rdR u0))), (a0_2, .inl (G.2.1 1, rdN u0, .inl (rdB u0))), (a0_3, .inl (G.2.1 1, rdN u0, .inl (rdE u0)))] := hD
  refine lv_aload_n hx hb d_Rd_faultOf_20 rfl (lv_at hl 0 rfl) ?_
  refine lv_iconst (v := 0) hx hb d_Rd_faultOf_21 (by decide) ?_
  refine va_put (D := G.1) (ci := 1) (v := .int 0) (ty := .int) (C := R_Rd) (T := T_Rd) (N := 8) hx hb hts i_Rd ty_Rd tyok_Rd nm_Rd hown hK hP hD hS 0 rfl rfl 7 (by decide) (hts _ b_116) (fun _ h9 => h9) rfl (by decide +kernel) rfl rfl (Nat.le_of_ble_eq_true rfl) d_Rd_faultOf_22 (fun H locs hP hD hS => ?_)
  have hP : va_P G.1 vwCl [(a0_0, .inr (1, [.ref a0_1, .ref a0_2, .ref a0_3, .int 0, .int x2, .int 1, .int 0, .int 0])), (a0_1, .inl (G.2.1 1, rdN u0, .inl (rdR u0))), (a0_2, .inl (G.2.1 1, rdN u0, .inl (rdB u0))), (a0_3, .inl (G.2.1 1, rdN u0, .inl (rdE u0)))] H := hP
  have hD : va_D A [(a0_0, .inr (1, [.ref a0_1, .ref a0_2, .ref a0_3, .int 0, .int x2, .int 1, .int 0, .int 0])), (a0_1, .inl (G.2.1 1, rdN u0, .inl (rdR u0))), (a0_2, .inl (G.2.1 1, rdN u0, .inl (rdB u0))), (a0_3, .inl (G.2.1 1, rdN u0, .inl (rdE u0)))] := hD
  refine lv_iconst (v := 0) hx hb d_Rd_faultOf_25 (by decide) ?_
  refine lv_istore_n (lv' := [(3, .int 0), (0, .ref a0_0), (1, .ref a1_0), (2, .int x2)]) hx hb d_Rd_faultOf_26 rfl hl (by decide) rfl (fun ls hl => ?_)
  obtain ⟨n, h⟩ := h
  exact t_Rd_faultOf_27 E hR hA hAB hRn  n _ _ _ _ _ h hP hD hS (lv_sub hl [1, 2, 0] rfl)
set_option maxHeartbeats 4000000 in
set_option maxRecDepth 100000 in
theorem c_Rd_faultOf (l : Launch) (G : GX) (a0_0 a0_1 a0_2 a0_3 a1_0 a1_1 : Nat) (u0 : RdC) (u1 : RowC) (x2 : Int32) (sz : Nat) (post : Int32 → RdC → Prop) (h : wp_Rd_faultOf post u0 u1 x2) : Met l y_Rd_faultOf wc_Rd_faultOf rm_Rd_faultOf (mW G [.ref a0_0, .ref a1_0, .int x2] sz [(a0_0, .inr (1, [.ref a0_1, .ref a0_2, .ref a0_3, .int (rdC u0), .int (rdK u0), .int (rdX u0), .int (rdD u0), .int (rdL u0)])), (a0_1, .inl (G.2.1 1, rdN u0, .inl (rdR u0))), (a0_2, .inl (G.2.1 1, rdN u0, .inl (rdB u0))), (a0_3, .inl (G.2.1 1, rdN u0, .inl (rdE u0)))] [(a1_0, .inr (2, [.ref a1_1, .int (rwS u1)])), (a1_1, .inl (G.2.1 0, rwN u1, .inl (rwF u1)))]) (va_Qi post (fun (u : RdC) (t : State) => va_P G.1 vwCl [(a0_0, .inr (1, [.ref a0_1, .ref a0_2, .ref a0_3, .int (rdC u), .int (rdK u), .int (rdX u), .int (rdD u), .int (rdL u)])), (a0_1, .inl (G.2.1 1, rdN u, .inl (rdR u))), (a0_2, .inl (G.2.1 1, rdN u, .inl (rdB u))), (a0_3, .inl (G.2.1 1, rdN u, .inl (rdE u)))] t.heap) (va_A [(a0_0, .inr (1, [.ref a0_1, .ref a0_2, .ref a0_3, .int (rdC u0), .int (rdK u0), .int (rdX u0), .int (rdD u0), .int (rdL u0)])), (a0_1, .inl (G.2.1 1, rdN u0, .inl (rdR u0))), (a0_2, .inl (G.2.1 1, rdN u0, .inl (rdB u0))), (a0_3, .inl (G.2.1 1, rdN u0, .inl (rdE u0)))] sz)) 0 0 (va_A [(a0_0, .inr (1, [.ref a0_1, .ref a0_2, .ref a0_3, .int (rdC u0), .int (rdK u0), .int (rdX u0), .int (rdD u0), .int (rdL u0)])), (a0_1, .inl (G.2.1 1, rdN u0, .inl (rdR u0))), (a0_2, .inl (G.2.1 1, rdN u0, .inl (rdB u0))), (a0_3, .inl (G.2.1 1, rdN u0, .inl (rdE u0)))] sz) := by
  refine Met.ofW (cc := cc_Rd_faultOf) (maxL := 5) (ret := (some .int)) (by decide) rfl ?_
  intro p e s m args below meth c s₁ B hml hv
  obtain ⟨rfl, hC, hsz, hP, hD0, hR, hap⟩ := hv
  have E : EN p s m ([.ref a0_0, .ref a1_0, .int x2] : List Value).toArray meth c G R_Rd cc_Rd_faultOf 5 (some .int) BG := ⟨B.exec, B.bytes, B.returns, fun w h => atoms_spec (ws := wc_Rd_faultOf) B.pre w (List.mem_cons_of_mem _ h), findClass_of_methodNamed B.named, B.notSynchronized, hml, hC⟩
  subst hsz
  have hD := hD0.self (sz := s.heap.size)
  have hRn := mw_notA hR hap
  have hAB := mw_AB hD0 hC
  have hA : ∀ q : Nat, s.heap.size ≤ q → va_A [(a0_0, .inr (1, [.ref a0_1, .ref a0_2, .ref a0_3, .int (rdC u0), .int (rdK u0), .int (rdX u0), .int (rdD u0), .int (rdL u0)])), (a0_1, .inl (G.2.1 1, rdN u0, .inl (rdR u0))), (a0_2, .inl (G.2.1 1, rdN u0, .inl (rdB u0))), (a0_3, .inl (G.2.1 1, rdN u0, .inl (rdE u0)))] s.heap.size q := fun q z => Or.inr z
  generalize va_A [(a0_0, .inr (1, [.ref a0_1, .ref a0_2, .ref a0_3, .int (rdC u0), .int (rdK u0), .int (rdX u0), .int (rdD u0), .int (rdL u0)])), (a0_1, .inl (G.2.1 1, rdN u0, .inl (rdR u0))), (a0_2, .inl (G.2.1 1, rdN u0, .inl (rdB u0))), (a0_3, .inl (G.2.1 1, rdN u0, .inl (rdE u0)))] s.heap.size = A at hD hRn hAB hA ⊢
  have hl := lv_entry ([.ref a0_0, .ref a1_0, .int x2]) (n := 5) (Nat.le_of_ble_eq_true rfl)
  rw [lg_entry_eq]
  generalize (lg_sl ([.ref a0_0, .ref a1_0, .int x2]) ++ List.replicate (5 - (lg_sl ([.ref a0_0, .ref a1_0, .int x2])).length) Slot.unset).toArray = ls at hl ⊢
  have hl : lv_has ls 5 [(0, .ref a0_0), (1, .ref a1_0), (2, .int x2)] := hl
  exact t_Rd_faultOf_in E hR hA hAB hRn _ _ _ h hP hD va_S.rf hl
set_option maxHeartbeats 4000000 in
set_option maxRecDepth 100000 in
theorem t_Rd_init_in {p : Program} {l : Launch} {e : Env} {s : State} {m : MethodId} {args : Array Value} {below : List Frame} {meth : Method} {c : Code} {G : GX} {a0_0 : Nat} {post : RdC → Prop} {A : Nat → Prop} {u0 : ReadBC} (E : EN p s m args meth c G R_Rd cc_Rd_init 1 none BG) (hR : va_P G.1 vwCl [] s.heap) (hA : ∀ q : Nat, s.heap.size ≤ q → A q) (hAB : ∀ q : Nat, A q → G.2.2.1 ≤ q) (hRn : ∀ (j : Nat) (q : Nat × va_E), ([] : va_W)[j]? = some q → ¬ A q.1) (hin : meth.name = "<init>") : ∀ (H : Heap) (locs : List Loc) (ls : Array Slot), wp_Rd_init post u0 → va_P G.1 vwCl [(a0_0, .inr (1, [.null, .null, .null, .int (readb_3 u0), .int (readb_4 u0), .int (readb_5 u0), .int (readb_6 u0), .int (readb_7 u0)]))] H → va_D A [(a0_0, .inr (1, [.null, .null, .null, .int (readb_3 u0), .int (readb_4 u0), .int (readb_5 u0), .int (readb_6 u0), .int (readb_7 u0)]))] → va_S A s.heap H locs → lv_has ls 1 [(0, .ref a0_0)] → W p l e rm_Rd_init s m args below meth c H locs 0 0 (MQ below (va_Qv post (fun (u : RdC) (t : State) => ∃ (q7 q15 q23 : Nat), va_P G.1 vwCl [(a0_0, .inr (1, [.ref q7, .ref q15, .ref q23, .int (rdC u), .int (rdK u), .int (rdX u), .int (rdD u), .int (rdL u)])), (q7, .inl (G.2.1 1, rdN u, .inl (rdR u))), (q15, .inl (G.2.1 1, rdN u, .inl (rdB u))), (q23, .inl (G.2.1 1, rdN u, .inl (rdE u)))] t.heap ∧ va_D A [(a0_0, .inr (1, [.ref q7, .ref q15, .ref q23, .int (rdC u), .int (rdK u), .int (rdX u), .int (rdD u), .int (rdL u)])), (q7, .inl (G.2.1 1, rdN u, .inl (rdR u))), (q15, .inl (G.2.1 1, rdN u, .inl (rdB u))), (q23, .inl (G.2.1 1, rdN u, .inl (rdE u)))]) A) args s 3 360 A) (F0 m 0 ls []) := by
  obtain ⟨hx, hb, hr, hts, hown, hlocks, hml, hC⟩ := id E
  have hK := hC.1
  intro H locs ls h hP hD hS hl
  unfold wp_Rd_init at h
  refine lv_aload_n hx hb d_Rd_init_0 rfl (lv_at hl 0 rfl) ?_
  refine W.objInit hx hb hown (hts _ b_164) (hts _ b_69) (hts _ b_70) rfl (by rw [hml]; exact hl.1) rfl d_Rd_init_1 (Nat.le_of_ble_eq_true rfl) (Nat.le_of_ble_eq_true rfl) ?_
  refine W.eq (g2 := F0 m 4 ls []) rfl ?_
  refine lv_aload_n hx hb d_Rd_init_4 rfl (lv_at hl 0 rfl) ?_
  refine lv_bipush (v := 120) hx hb d_Rd_init_5 (by decide) ?_
  refine va_newa (atype := .int) (ty := .int) (a0 := (120, .inl (fun _ => 0))) (N' := 120) hx hb (hts _ b_165) rfl hK hP hD hS hA (fun _ => rfl) (by decide) (by decide) (by decide) (by decide) (by decide) d_Rd_init_7 (fun q7 cA9 H hK9 hP hD hS => ?_)
  obtain rfl : cA9 = G.2.1 1 := ka_one hK9 1 4 rfl rfl rfl
  have hP : va_P G.1 vwCl [(a0_0, .inr (1, [.null, .null, .null, .int (readb_3 u0), .int (readb_4 u0), .int (readb_5 u0), .int (readb_6 u0), .int (readb_7 u0)])), (q7, .inl (G.2.1 1, 120, .inl (fun _ => 0)))] H := hP
  have hD : va_D A [(a0_0, .inr (1, [.null, .null, .null, .int (readb_3 u0), .int (readb_4 u0), .int (readb_5 u0), .int (readb_6 u0), .int (readb_7 u0)])), (q7, .inl (G.2.1 1, 120, .inl (fun _ => 0)))] := hD
  refine W.widen (k := 1) (n := 120) (by decide) (by decide) ?_
  refine va_putF (D := G.1) (ci := 1) (v := .ref q7) (ty := (.array .int)) (C := R_Rd) (T := T_Rd) (N := 8) hx hb hts i_Rd ty_Rd tyok_Rd nm_Rd hown hK hP hD hS 0 rfl rfl 0 (by decide) (hts _ b_147) (fun _ h9 => h9) rfl hin rfl (by decide +kernel) rfl rfl (Nat.le_of_ble_eq_true rfl) d_Rd_init_9 (fun H locs hP hD hS => ?_)
  have hP : va_P G.1 vwCl [(a0_0, .inr (1, [.ref q7, .null, .null, .int (readb_3 u0), .int (readb_4 u0), .int (readb_5 u0), .int (readb_6 u0), .int (readb_7 u0)])), (q7, .inl (G.2.1 1, 120, .inl (fun _ => 0)))] H := hP
  have hD : va_D A [(a0_0, .inr (1, [.ref q7, .null, .null, .int (readb_3 u0), .int (readb_4 u0), .int (readb_5 u0), .int (readb_6 u0), .int (readb_7 u0)])), (q7, .inl (G.2.1 1, 120, .inl (fun _ => 0)))] := hD
  refine lv_aload_n hx hb d_Rd_init_12 rfl (lv_at hl 0 rfl) ?_
  refine lv_bipush (v := 120) hx hb d_Rd_init_13 (by decide) ?_
  refine va_newa (atype := .int) (ty := .int) (a0 := (120, .inl (fun _ => 0))) (N' := 120) hx hb (hts _ b_165) rfl hK hP hD hS hA (fun _ => rfl) (by decide) (by decide) (by decide) (by decide) (by decide) d_Rd_init_15 (fun q15 cA9 H hK9 hP hD hS => ?_)
  obtain rfl : cA9 = G.2.1 1 := ka_one hK9 1 4 rfl rfl rfl
  have hP : va_P G.1 vwCl [(a0_0, .inr (1, [.ref q7, .null, .null, .int (readb_3 u0), .int (readb_4 u0), .int (readb_5 u0), .int (readb_6 u0), .int (readb_7 u0)])), (q7, .inl (G.2.1 1, 120, .inl (fun _ => 0))), (q15, .inl (G.2.1 1, 120, .inl (fun _ => 0)))] H := hP
  have hD : va_D A [(a0_0, .inr (1, [.ref q7, .null, .null, .int (readb_3 u0), .int (readb_4 u0), .int (readb_5 u0), .int (readb_6 u0), .int (readb_7 u0)])), (q7, .inl (G.2.1 1, 120, .inl (fun _ => 0))), (q15, .inl (G.2.1 1, 120, .inl (fun _ => 0)))] := hD
  refine W.widen (k := 2) (n := 240) (by decide) (by decide) ?_
  refine va_putF (D := G.1) (ci := 1) (v := .ref q15) (ty := (.array .int)) (C := R_Rd) (T := T_Rd) (N := 8) hx hb hts i_Rd ty_Rd tyok_Rd nm_Rd hown hK hP hD hS 0 rfl rfl 1 (by decide) (hts _ b_135) (fun _ h9 => h9) rfl hin rfl (by decide +kernel) rfl rfl (Nat.le_of_ble_eq_true rfl) d_Rd_init_17 (fun H locs hP hD hS => ?_)
  have hP : va_P G.1 vwCl [(a0_0, .inr (1, [.ref q7, .ref q15, .null, .int (readb_3 u0), .int (readb_4 u0), .int (readb_5 u0), .int (readb_6 u0), .int (readb_7 u0)])), (q7, .inl (G.2.1 1, 120, .inl (fun _ => 0))), (q15, .inl (G.2.1 1, 120, .inl (fun _ => 0)))] H := hP
  have hD : va_D A [(a0_0, .inr (1, [.ref q7, .ref q15, .null, .int (readb_3 u0), .int (readb_4 u0), .int (readb_5 u0), .int (readb_6 u0), .int (readb_7 u0)])), (q7, .inl (G.2.1 1, 120, .inl (fun _ => 0))), (q15, .inl (G.2.1 1, 120, .inl (fun _ => 0)))] := hD
  refine lv_aload_n hx hb d_Rd_init_20 rfl (lv_at hl 0 rfl) ?_
  refine lv_bipush (v := 120) hx hb d_Rd_init_21 (by decide) ?_
  refine va_newa (atype := .int) (ty := .int) (a0 := (120, .inl (fun _ => 0))) (N' := 120) hx hb (hts _ b_165) rfl hK hP hD hS hA (fun _ => rfl) (by decide) (by decide) (by decide) (by decide) (by decide) d_Rd_init_23 (fun q23 cA9 H hK9 hP hD hS => ?_)
  obtain rfl : cA9 = G.2.1 1 := ka_one hK9 1 4 rfl rfl rfl
  have hP : va_P G.1 vwCl [(a0_0, .inr (1, [.ref q7, .ref q15, .null, .int (readb_3 u0), .int (readb_4 u0), .int (readb_5 u0), .int (readb_6 u0), .int (readb_7 u0)])), (q7, .inl (G.2.1 1, 120, .inl (fun _ => 0))), (q15, .inl (G.2.1 1, 120, .inl (fun _ => 0))), (q23, .inl (G.2.1 1, 120, .inl (fun _ => 0)))] H := hP
  have hD : va_D A [(a0_0, .inr (1, [.ref q7, .ref q15, .null, .int (readb_3 u0), .int (readb_4 u0), .int (readb_5 u0), .int (readb_6 u0), .int (readb_7 u0)])), (q7, .inl (G.2.1 1, 120, .inl (fun _ => 0))), (q15, .inl (G.2.1 1, 120, .inl (fun _ => 0))), (q23, .inl (G.2.1 1, 120, .inl (fun _ => 0)))] := hD
  refine W.widen (k := 3) (n := 360) (by decide) (by decide) ?_
  refine va_putF (D := G.1) (ci := 1) (v := .ref q23) (ty := (.array .int)) (C := R_Rd) (T := T_Rd) (N := 8) hx hb hts i_Rd ty_Rd tyok_Rd nm_Rd hown hK hP hD hS 0 rfl rfl 2 (by decide) (hts _ b_134) (fun _ h9 => h9) rfl hin rfl (by decide +kernel) rfl rfl (Nat.le_of_ble_eq_true rfl) d_Rd_init_25 (fun H locs hP hD hS => ?_)
  have hP : va_P G.1 vwCl [(a0_0, .inr (1, [.ref q7, .ref q15, .ref q23, .int (readb_3 u0), .int (readb_4 u0), .int (readb_5 u0), .int (readb_6 u0), .int (readb_7 u0)])), (q7, .inl (G.2.1 1, 120, .inl (fun _ => 0))), (q15, .inl (G.2.1 1, 120, .inl (fun _ => 0))), (q23, .inl (G.2.1 1, 120, .inl (fun _ => 0)))] H := hP
  have hD : va_D A [(a0_0, .inr (1, [.ref q7, .ref q15, .ref q23, .int (readb_3 u0), .int (readb_4 u0), .int (readb_5 u0), .int (readb_6 u0), .int (readb_7 u0)])), (q7, .inl (G.2.1 1, 120, .inl (fun _ => 0))), (q15, .inl (G.2.1 1, 120, .inl (fun _ => 0))), (q23, .inl (G.2.1 1, 120, .inl (fun _ => 0)))] := hD
  refine W.widen (k := 3) (n := 360) (by decide) (by decide) ?_
  exact W.vret hx hb hr (fun t ht hW => ⟨⟨_, rfl, h, q7, q15, q23, vaP_at ht hP, hD⟩, hS.F ht⟩) hS.2.2 d_Rd_init_28
set_option maxHeartbeats 4000000 in
set_option maxRecDepth 100000 in
theorem c_Rd_init (l : Launch) (G : GX) (a0_0 : Nat) (u0 : ReadBC) (sz : Nat) (post : RdC → Prop) (h : wp_Rd_init post u0) : Met l y_Rd_init wc_Rd_init rm_Rd_init (mW G [.ref a0_0] sz [(a0_0, .inr (1, [.null, .null, .null, .int (readb_3 u0), .int (readb_4 u0), .int (readb_5 u0), .int (readb_6 u0), .int (readb_7 u0)]))] []) (va_Qv post (fun (u : RdC) (t : State) => ∃ (q7 q15 q23 : Nat), va_P G.1 vwCl [(a0_0, .inr (1, [.ref q7, .ref q15, .ref q23, .int (rdC u), .int (rdK u), .int (rdX u), .int (rdD u), .int (rdL u)])), (q7, .inl (G.2.1 1, rdN u, .inl (rdR u))), (q15, .inl (G.2.1 1, rdN u, .inl (rdB u))), (q23, .inl (G.2.1 1, rdN u, .inl (rdE u)))] t.heap ∧ va_D (va_A [(a0_0, .inr (1, [.null, .null, .null, .int (readb_3 u0), .int (readb_4 u0), .int (readb_5 u0), .int (readb_6 u0), .int (readb_7 u0)]))] sz) [(a0_0, .inr (1, [.ref q7, .ref q15, .ref q23, .int (rdC u), .int (rdK u), .int (rdX u), .int (rdD u), .int (rdL u)])), (q7, .inl (G.2.1 1, rdN u, .inl (rdR u))), (q15, .inl (G.2.1 1, rdN u, .inl (rdB u))), (q23, .inl (G.2.1 1, rdN u, .inl (rdE u)))]) (va_A [(a0_0, .inr (1, [.null, .null, .null, .int (readb_3 u0), .int (readb_4 u0), .int (readb_5 u0), .int (readb_6 u0), .int (readb_7 u0)]))] sz)) 3 360 (va_A [(a0_0, .inr (1, [.null, .null, .null, .int (readb_3 u0), .int (readb_4 u0), .int (readb_5 u0), .int (readb_6 u0), .int (readb_7 u0)]))] sz) := by
  refine Met.ofW (cc := cc_Rd_init) (maxL := 1) (ret := none) (by decide) rfl ?_
  intro p e s m args below meth c s₁ B hml hv
  obtain ⟨rfl, hC, hsz, hP, hD0, hR, hap⟩ := hv
  have E : EN p s m ([.ref a0_0] : List Value).toArray meth c G R_Rd cc_Rd_init 1 none BG := ⟨B.exec, B.bytes, B.returns, fun w h => atoms_spec (ws := wc_Rd_init) B.pre w (List.mem_cons_of_mem _ h), findClass_of_methodNamed B.named, B.notSynchronized, hml, hC⟩
  have hin : meth.name = "<init>" := (name_of_methodNamed B.named B.method).1
  subst hsz
  have hD := hD0.self (sz := s.heap.size)
  have hRn := mw_notA hR hap
  have hAB := mw_AB hD0 hC
  have hA : ∀ q : Nat, s.heap.size ≤ q → va_A [(a0_0, .inr (1, [.null, .null, .null, .int (readb_3 u0), .int (readb_4 u0), .int (readb_5 u0), .int (readb_6 u0), .int (readb_7 u0)]))] s.heap.size q := fun q z => Or.inr z
  generalize va_A [(a0_0, .inr (1, [.null, .null, .null, .int (readb_3 u0), .int (readb_4 u0), .int (readb_5 u0), .int (readb_6 u0), .int (readb_7 u0)]))] s.heap.size = A at hD hRn hAB hA ⊢
  have hl := lv_entry ([.ref a0_0]) (n := 1) (Nat.le_of_ble_eq_true rfl)
  rw [lg_entry_eq]
  generalize (lg_sl ([.ref a0_0]) ++ List.replicate (1 - (lg_sl ([.ref a0_0])).length) Slot.unset).toArray = ls at hl ⊢
  have hl : lv_has ls 1 [(0, .ref a0_0)] := hl
  exact t_Rd_init_in E hR hA hAB hRn hin _ _ _ h hP hD va_S.rf hl
