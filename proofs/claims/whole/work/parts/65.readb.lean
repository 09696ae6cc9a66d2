set_option maxHeartbeats 4000000 in
set_option maxRecDepth 100000 in
theorem t_Rd_roleOf_159 {p : Program} {l : Launch} {e : Env} {s : State} {m : MethodId} {args : Array Value} {below : List Frame} {meth : Method} {c : Code} {G : GX} {a0_0 a0_1 a0_2 a0_3 : Nat} {u0 : RdC} {post : Int32 → Prop} (E : EN p s m args meth c G R_Rd cc_Rd_roleOf 2 (some .int) BG) (hR : va_P G.1 vwCl [(a0_0, .inr (1, [.ref a0_1, .ref a0_2, .ref a0_3, .int (rdC u0), .int (rdK u0), .int (rdX u0), .int (rdD u0), .int (rdL u0)])), (a0_1, .inl (G.2.1 1, rdN u0, .inl (rdR u0))), (a0_2, .inl (G.2.1 1, rdN u0, .inl (rdB u0))), (a0_3, .inl (G.2.1 1, rdN u0, .inl (rdE u0)))] s.heap) : ∀ (y1 : Int32) (ls : Array Slot), w_Rd_roleOf_159 post u0 y1 → lv_has ls 2 [(1, .int y1)] → W p l e rm_Rd_roleOf s m args below meth c s.heap [] 0 0 (MQ below (vp_Si post) args s 0 0 (fun _ => False)) (F0 m 159 ls []) := by
  obtain ⟨hx, hb, hr, hts, hown, hlocks, hml, hC⟩ := id E
  have hK := hC.1
  intro y1  ls h hl
  unfold w_Rd_roleOf_159 at h
  refine lv_iload_n hx hb d_Rd_roleOf_159 rfl (lv_at hl 0 rfl) ?_
  have hRc : va_P G.1 vwCl [] s.heap := vaP_nil
  refine vp_callSi (va_runS (As := [.int y1]) (rest := []) ⟨hx, hb, hml, hown, hts⟩ (c_Rd_reference l G y1 _ h) (va_cwS 1 hts (gwS b_88 b_89 b_90 b_87) rfl rfl rfl hd_Rd_reference.2 ⟨Nat.le_of_ble_eq_true rfl, Nat.le_of_ble_eq_true rfl⟩) ⟨mP_blind, fun U hU hW => ⟨rfl, hC.to0 hW hU, by rw [hU]; exact hRc⟩⟩ rfl rfl hl.1 rfl (lv_room (Nat.le_of_ble_eq_true rfl)) d_Rd_roleOf_160 ⟨Nat.le_of_ble_eq_true rfl, Nat.le_of_ble_eq_true rfl⟩).run (fun r36 h => ?_)
  exact W.iret hx hb hr (fun t ht hW => ⟨_, rfl, h, ht⟩) (fun _ z => by cases z) d_Rd_roleOf_163
set_option maxHeartbeats 4000000 in
set_option maxRecDepth 100000 in
theorem t_Rd_roleOf_189 {p : Program} {l : Launch} {e : Env} {s : State} {m : MethodId} {args : Array Value} {below : List Frame} {meth : Method} {c : Code} {G : GX} {a0_0 a0_1 a0_2 a0_3 : Nat} {u0 : RdC} {post : Int32 → Prop} (E : EN p s m args meth c G R_Rd cc_Rd_roleOf 2 (some .int) BG) (hR : va_P G.1 vwCl [(a0_0, .inr (1, [.ref a0_1, .ref a0_2, .ref a0_3, .int (rdC u0), .int (rdK u0), .int (rdX u0), .int (rdD u0), .int (rdL u0)])), (a0_1, .inl (G.2.1 1, rdN u0, .inl (rdR u0))), (a0_2, .inl (G.2.1 1, rdN u0, .inl (rdB u0))), (a0_3, .inl (G.2.1 1, rdN u0, .inl (rdE u0)))] s.heap) : ∀ (y1 : Int32) (ls : Array Slot), w_Rd_roleOf_189 post u0 y1 → lv_has ls 2 [(1, .int y1)] → W p l e rm_Rd_roleOf s m args below meth c s.heap [] 0 0 (MQ below (vp_Si post) args s 0 0 (fun _ => False)) (F0 m 189 ls []) := by
  obtain ⟨hx, hb, hr, hts, hown, hlocks, hml, hC⟩ := id E
  have hK := hC.1
  intro y1  ls h hl
  unfold w_Rd_roleOf_189 at h
  refine lv_iload_n hx hb d_Rd_roleOf_189 rfl (lv_at hl 0 rfl) ?_
  refine lv_bipush (v := 10) hx hb d_Rd_roleOf_190 (by decide) ?_
  have hRc : va_P G.1 vwCl [] s.heap := vaP_nil
  refine vp_callSi (va_runS (As := [.int y1, .int 10]) (rest := []) ⟨hx, hb, hml, hown, hts⟩ (c_Rd_nameOnly l G y1 10 _ h) (va_cwS 2 hts (gwS b_95 b_96 b_90 b_94) rfl rfl rfl hd_Rd_nameOnly.2 ⟨Nat.le_of_ble_eq_true rfl, Nat.le_of_ble_eq_true rfl⟩) ⟨mP_blind, fun U hU hW => ⟨rfl, hC.to0 hW hU, by rw [hU]; exact hRc⟩⟩ rfl rfl hl.1 rfl (lv_room (Nat.le_of_ble_eq_true rfl)) d_Rd_roleOf_192 ⟨Nat.le_of_ble_eq_true rfl, Nat.le_of_ble_eq_true rfl⟩).run (fun r37 h => ?_)
  exact W.iret hx hb hr (fun t ht hW => ⟨_, rfl, h, ht⟩) (fun _ z => by cases z) d_Rd_roleOf_195
set_option maxHeartbeats 4000000 in
set_option maxRecDepth 100000 in
theorem t_Rd_roleOf_279 {p : Program} {l : Launch} {e : Env} {s : State} {m : MethodId} {args : Array Value} {below : List Frame} {meth : Method} {c : Code} {G : GX} {a0_0 a0_1 a0_2 a0_3 : Nat} {u0 : RdC} {post : Int32 → Prop} (E : EN p s m args meth c G R_Rd cc_Rd_roleOf 2 (some .int) BG) (hR : va_P G.1 vwCl [(a0_0, .inr (1, [.ref a0_1, .ref a0_2, .ref a0_3, .int (rdC u0), .int (rdK u0), .int (rdX u0), .int (rdD u0), .int (rdL u0)])), (a0_1, .inl (G.2.1 1, rdN u0, .inl (rdR u0))), (a0_2, .inl (G.2.1 1, rdN u0, .inl (rdB u0))), (a0_3, .inl (G.2.1 1, rdN u0, .inl (rdE u0)))] s.heap) : ∀ (y1 : Int32) (ls : Array Slot), w_Rd_roleOf_279 post u0 y1 → lv_has ls 2 [(0, .ref a0_0), (1, .int y1)] → W p l e rm_Rd_roleOf s m args below meth c s.heap [] 0 0 (MQ below (vp_Si post) args s 0 0 (fun _ => False)) (F0 m 279 ls []) := by
  obtain ⟨hx, hb, hr, hts, hown, hlocks, hml, hC⟩ := id E
  have hK := hC.1
  intro y1  ls h hl
  unfold w_Rd_roleOf_279 at h
  refine lv_aload_n hx hb d_Rd_roleOf_279 rfl (lv_at hl 0 rfl) ?_
  refine lv_iload_n hx hb d_Rd_roleOf_280 rfl (lv_at hl 1 rfl) ?_
  have hRc : va_P G.1 vwCl [(a0_0, .inr (1, [.ref a0_1, .ref a0_2, .ref a0_3, .int (rdC u0), .int (rdK u0), .int (rdX u0), .int (rdD u0), .int (rdL u0)])), (a0_1, .inl (G.2.1 1, rdN u0, .inl (rdR u0))), (a0_2, .inl (G.2.1 1, rdN u0, .inl (rdB u0))), (a0_3, .inl (G.2.1 1, rdN u0, .inl (rdE u0)))] s.heap := (hR.sub (ws' := [(a0_0, .inr (1, [.ref a0_1, .ref a0_2, .ref a0_3, .int (rdC u0), .int (rdK u0), .int (rdX u0), .int (rdD u0), .int (rdL u0)])), (a0_1, .inl (G.2.1 1, rdN u0, .inl (rdR u0))), (a0_2, .inl (G.2.1 1, rdN u0, .inl (rdB u0))), (a0_3, .inl (G.2.1 1, rdN u0, .inl (rdE u0)))]) [0, 1, 2, 3] rfl)
  refine vp_callSi (va_runV (As := [.int y1]) (rest := []) ⟨hx, hb, hml, hown, hts⟩ (c_Rd_behindItem l G a0_0 a0_1 a0_2 a0_3 u0 y1 _ h) (cwV 1 hts (gwV b_131 b_132 b_133 b_90 b_130) rfl rfl rfl hd_Rd_behindItem ⟨Nat.le_of_ble_eq_true rfl, Nat.le_of_ble_eq_true rfl⟩) ⟨mP_blind, va_recv hK hRc (ci := 1) (q0 := 0) rfl rfl, fun U hU hW => ⟨rfl, hC.to0 hW hU, by rw [hU]; exact hRc⟩⟩ rfl rfl hl.1 rfl (lv_room (Nat.le_of_ble_eq_true rfl)) d_Rd_roleOf_281 ⟨Nat.le_of_ble_eq_true rfl, Nat.le_of_ble_eq_true rfl⟩).run (fun r38 h => ?_)
  exact W.iret hx hb hr (fun t ht hW => ⟨_, rfl, h, ht⟩) (fun _ z => by cases z) d_Rd_roleOf_284
set_option maxHeartbeats 4000000 in
set_option maxRecDepth 100000 in
theorem t_Rd_roleOf_in {p : Program} {l : Launch} {e : Env} {s : State} {m : MethodId} {args : Array Value} {below : List Frame} {meth : Method} {c : Code} {G : GX} {a0_0 a0_1 a0_2 a0_3 : Nat} {u0 : RdC} {post : Int32 → Prop} {x1 : Int32} (E : EN p s m args meth c G R_Rd cc_Rd_roleOf 2 (some .int) BG) (hR : va_P G.1 vwCl [(a0_0, .inr (1, [.ref a0_1, .ref a0_2, .ref a0_3, .int (rdC u0), .int (rdK u0), .int (rdX u0), .int (rdD u0), .int (rdL u0)])), (a0_1, .inl (G.2.1 1, rdN u0, .inl (rdR u0))), (a0_2, .inl (G.2.1 1, rdN u0, .inl (rdB u0))), (a0_3, .inl (G.2.1 1, rdN u0, .inl (rdE u0)))] s.heap) : ∀ (ls : Array Slot), wp_Rd_roleOf post u0 x1 → lv_has ls 2 [(0, .ref a0_0), (1, .int x1)] → W p l e rm_Rd_roleOf s m args below meth c s.heap [] 0 0 (MQ below (vp_Si post) args s 0 0 (fun _ => False)) (F0 m 0 ls []) := by
  obtain ⟨hx, hb, hr, hts, hown, hlocks, hml, hC⟩ := id E
  have hK := hC.1
  intro ls h hl
  unfold wp_Rd_roleOf at h
  refine lv_aload_n hx hb d_Rd_roleOf_0 rfl (lv_at hl 0 rfl) ?_
  refine va_get (D := G.1) (ci := 1) (v := .int (rdL u0)) (C := R_Rd) (T := T_Rd) (N := 8) hx hb hts i_Rd hown hK hR 0 rfl rfl 7 (by decide) (hts _ b_116) (fun _ h9 => h9) rfl d_Rd_roleOf_1 ?_
  have hsw := h
  by_cases c1000 : (rdL u0) = 0
  · have h := hsw
    have h := h.1 (c1000)
    refine lv_tabK (a := 0) (off := 116) (tgt := 120) hx hb d_Rd_roleOf_4 c1000 t32_0 (by decide) (by decide) rfl (by decide) ?_
    refine lv_aload_n hx hb d_Rd_roleOf_120 rfl (lv_at hl 0 rfl) ?_
    refine lv_iload_n hx hb d_Rd_roleOf_121 rfl (lv_at hl 1 rfl) ?_
    have hRc : va_P G.1 vwCl [(a0_0, .inr (1, [.ref a0_1, .ref a0_2, .ref a0_3, .int (rdC u0), .int (rdK u0), .int (rdX u0), .int (rdD u0), .int (rdL u0)])), (a0_1, .inl (G.2.1 1, rdN u0, .inl (rdR u0))), (a0_2, .inl (G.2.1 1, rdN u0, .inl (rdB u0))), (a0_3, .inl (G.2.1 1, rdN u0, .inl (rdE u0)))] s.heap := (hR.sub (ws' := [(a0_0, .inr (1, [.ref a0_1, .ref a0_2, .ref a0_3, .int (rdC u0), .int (rdK u0), .int (rdX u0), .int (rdD u0), .int (rdL u0)])), (a0_1, .inl (G.2.1 1, rdN u0, .inl (rdR u0))), (a0_2, .inl (G.2.1 1, rdN u0, .inl (rdB u0))), (a0_3, .inl (G.2.1 1, rdN u0, .inl (rdE u0)))]) [0, 1, 2, 3] rfl)
    refine vp_callSi (va_runV (As := [.int x1]) (rest := []) ⟨hx, hb, hml, hown, hts⟩ (c_Rd_atStart l G a0_0 a0_1 a0_2 a0_3 u0 x1 _ h) (cwV 1 hts (gwV b_118 b_119 b_120 b_90 b_117) rfl rfl rfl hd_Rd_atStart ⟨Nat.le_of_ble_eq_true rfl, Nat.le_of_ble_eq_true rfl⟩) ⟨mP_blind, va_recv hK hRc (ci := 1) (q0 := 0) rfl rfl, fun U hU hW => ⟨rfl, hC.to0 hW hU, by rw [hU]; exact hRc⟩⟩ rfl rfl hl.1 rfl (lv_room (Nat.le_of_ble_eq_true rfl)) d_Rd_roleOf_122 ⟨Nat.le_of_ble_eq_true rfl, Nat.le_of_ble_eq_true rfl⟩).run (fun r55 h => ?_)
    exact W.iret hx hb hr (fun t ht hW => ⟨_, rfl, h, ht⟩) (fun _ z => by cases z) d_Rd_roleOf_125
  by_cases c1001 : (rdL u0) = 1
  · have h := hsw
    have h := h.2.1 (c1001)
    refine lv_tabK (a := 1) (off := 122) (tgt := 126) hx hb d_Rd_roleOf_4 c1001 t32_1 (by decide) (by decide) rfl (by decide) ?_
    refine lv_iload_n hx hb d_Rd_roleOf_126 rfl (lv_at hl 1 rfl) ?_
    refine lv_iconst (v := 2) hx hb d_Rd_roleOf_127 (by decide) ?_
    have hRc : va_P G.1 vwCl [] s.heap := vaP_nil
    refine vp_callSi (va_runS (As := [.int x1, .int 2]) (rest := []) ⟨hx, hb, hml, hown, hts⟩ (c_Rd_nameOnly l G x1 2 _ h) (va_cwS 2 hts (gwS b_95 b_96 b_90 b_94) rfl rfl rfl hd_Rd_nameOnly.2 ⟨Nat.le_of_ble_eq_true rfl, Nat.le_of_ble_eq_true rfl⟩) ⟨mP_blind, fun U hU hW => ⟨rfl, hC.to0 hW hU, by rw [hU]; exact hRc⟩⟩ rfl rfl hl.1 rfl (lv_room (Nat.le_of_ble_eq_true rfl)) d_Rd_roleOf_128 ⟨Nat.le_of_ble_eq_true rfl, Nat.le_of_ble_eq_true rfl⟩).run (fun r56 h => ?_)
    exact W.iret hx hb hr (fun t ht hW => ⟨_, rfl, h, ht⟩) (fun _ z => by cases z) d_Rd_roleOf_131
  by_cases c1002 : (rdL u0) = 2
  · have h := hsw
    have h := h.2.2.1 (c1002)
    refine lv_tabK (a := 2) (off := 128) (tgt := 132) hx hb d_Rd_roleOf_4 c1002 t32_2 (by decide) (by decide) rfl (by decide) ?_
    refine lv_iload_n hx hb d_Rd_roleOf_132 rfl (lv_at hl 1 rfl) ?_
    refine lv_bipush (v := 58) hx hb d_Rd_roleOf_133 (by decide) ?_
    refine lv_icmp_ne (tgt := 142) hx hb d_Rd_roleOf_135 (by decide) (fun c9 => ?_) (fun c9 => ?_)
    · have h := h.1 c9
      refine lv_iload_n hx hb d_Rd_roleOf_142 rfl (lv_at hl 1 rfl) ?_
      refine lv_iconst (v := 2) hx hb d_Rd_roleOf_143 (by decide) ?_
      have hRc : va_P G.1 vwCl [] s.heap := vaP_nil
      refine vp_callSi (va_runS (As := [.int x1, .int 2]) (rest := []) ⟨hx, hb, hml, hown, hts⟩ (c_Rd_nameOnly l G x1 2 _ h) (va_cwS 2 hts (gwS b_95 b_96 b_90 b_94) rfl rfl rfl hd_Rd_nameOnly.2 ⟨Nat.le_of_ble_eq_true rfl, Nat.le_of_ble_eq_true rfl⟩) ⟨mP_blind, fun U hU hW => ⟨rfl, hC.to0 hW hU, by rw [hU]; exact hRc⟩⟩ rfl rfl hl.1 rfl (lv_room (Nat.le_of_ble_eq_true rfl)) d_Rd_roleOf_144 ⟨Nat.le_of_ble_eq_true rfl, Nat.le_of_ble_eq_true rfl⟩).run (fun r57 h => ?_)
      exact W.iret hx hb hr (fun t ht hW => ⟨_, rfl, h, ht⟩) (fun _ z => by cases z) d_Rd_roleOf_147
    · have h := h.2 c9
      refine lv_iconst (v := 3) hx hb d_Rd_roleOf_138 (by decide) ?_
      refine lv_goto (tgt := 147) hx hb d_Rd_roleOf_139 (by decide) ?_
      exact W.iret hx hb hr (fun t ht hW => ⟨_, rfl, h, ht⟩) (fun _ z => by cases z) d_Rd_roleOf_147
  by_cases c1003 : (rdL u0) = 3
  · have h := hsw
    have h := h.2.2.2.1 (c1003)
    refine lv_tabK (a := 3) (off := 144) (tgt := 148) hx hb d_Rd_roleOf_4 c1003 t32_3 (by decide) (by decide) rfl (by decide) ?_
    refine lv_iload_n hx hb d_Rd_roleOf_148 rfl (lv_at hl 1 rfl) ?_
    have hRc : va_P G.1 vwCl [] s.heap := vaP_nil
    refine vp_callSi (va_runS (As := [.int x1]) (rest := []) ⟨hx, hb, hml, hown, hts⟩ (c_Rd_behindFirstColon l G x1 _ h) (va_cwS 1 hts (gwS b_122 b_123 b_90 b_121) rfl rfl rfl hd_Rd_behindFirstColon.2 ⟨Nat.le_of_ble_eq_true rfl, Nat.le_of_ble_eq_true rfl⟩) ⟨mP_blind, fun U hU hW => ⟨rfl, hC.to0 hW hU, by rw [hU]; exact hRc⟩⟩ rfl rfl hl.1 rfl (lv_room (Nat.le_of_ble_eq_true rfl)) d_Rd_roleOf_149 ⟨Nat.le_of_ble_eq_true rfl, Nat.le_of_ble_eq_true rfl⟩).run (fun r58 h => ?_)
    exact W.iret hx hb hr (fun t ht hW => ⟨_, rfl, h, ht⟩) (fun _ z => by cases z) d_Rd_roleOf_152
  by_cases c1004 : (rdL u0) = 4
  · have h := hsw
    have h := h.2.2.2.2.1 (Or.inl c1004)
    refine lv_tabK (a := 4) (off := 155) (tgt := 159) hx hb d_Rd_roleOf_4 c1004 t32_4 (by decide) (by decide) rfl (by decide) ?_
    exact t_Rd_roleOf_159 E hR  _ _ h (lv_sub hl [1] rfl)
  by_cases c1005 : (rdL u0) = 5
  · have h := hsw
    have h := h.2.2.2.2.2.1 (c1005)
    refine lv_tabK (a := 5) (off := 149) (tgt := 153) hx hb d_Rd_roleOf_4 c1005 t32_5 (by decide) (by decide) rfl (by decide) ?_
    refine lv_aload_n hx hb d_Rd_roleOf_153 rfl (lv_at hl 0 rfl) ?_
    refine lv_iload_n hx hb d_Rd_roleOf_154 rfl (lv_at hl 1 rfl) ?_
    have hRc : va_P G.1 vwCl [(a0_0, .inr (1, [.ref a0_1, .ref a0_2, .ref a0_3, .int (rdC u0), .int (rdK u0), .int (rdX u0), .int (rdD u0), .int (rdL u0)])), (a0_1, .inl (G.2.1 1, rdN u0, .inl (rdR u0))), (a0_2, .inl (G.2.1 1, rdN u0, .inl (rdB u0))), (a0_3, .inl (G.2.1 1, rdN u0, .inl (rdE u0)))] s.heap := (hR.sub (ws' := [(a0_0, .inr (1, [.ref a0_1, .ref a0_2, .ref a0_3, .int (rdC u0), .int (rdK u0), .int (rdX u0), .int (rdD u0), .int (rdL u0)])), (a0_1, .inl (G.2.1 1, rdN u0, .inl (rdR u0))), (a0_2, .inl (G.2.1 1, rdN u0, .inl (rdB u0))), (a0_3, .inl (G.2.1 1, rdN u0, .inl (rdE u0)))]) [0, 1, 2, 3] rfl)
    refine vp_callSi (va_runV (As := [.int x1]) (rest := []) ⟨hx, hb, hml, hown, hts⟩ (c_Rd_atBody l G a0_0 a0_1 a0_2 a0_3 u0 x1 _ h) (cwV 1 hts (gwV b_113 b_114 b_115 b_90 b_112) rfl rfl rfl hd_Rd_atBody ⟨Nat.le_of_ble_eq_true rfl, Nat.le_of_ble_eq_true rfl⟩) ⟨mP_blind, va_recv hK hRc (ci := 1) (q0 := 0) rfl rfl, fun U hU hW => ⟨rfl, hC.to0 hW hU, by rw [hU]; exact hRc⟩⟩ rfl rfl hl.1 rfl (lv_room (Nat.le_of_ble_eq_true rfl)) d_Rd_roleOf_155 ⟨Nat.le_of_ble_eq_true rfl, Nat.le_of_ble_eq_true rfl⟩).run (fun r59 h => ?_)
    exact W.iret hx hb hr (fun t ht hW => ⟨_, rfl, h, ht⟩) (fun _ z => by cases z) d_Rd_roleOf_158
  by_cases c1006 : (rdL u0) = 6
  · have h := hsw
    have h := h.2.2.2.2.2.2.1 (c1006)
    refine lv_tabK (a := 6) (off := 160) (tgt := 164) hx hb d_Rd_roleOf_4 c1006 t32_6 (by decide) (by decide) rfl (by decide) ?_
    refine lv_iload_n hx hb d_Rd_roleOf_164 rfl (lv_at hl 1 rfl) ?_
    refine lv_bipush (v := 7) hx hb d_Rd_roleOf_165 (by decide) ?_
    have hRc : va_P G.1 vwCl [] s.heap := vaP_nil
    refine vp_callSi (va_runS (As := [.int x1, .int 7]) (rest := []) ⟨hx, hb, hml, hown, hts⟩ (c_Rd_nameOnly l G x1 7 _ h) (va_cwS 2 hts (gwS b_95 b_96 b_90 b_94) rfl rfl rfl hd_Rd_nameOnly.2 ⟨Nat.le_of_ble_eq_true rfl, Nat.le_of_ble_eq_true rfl⟩) ⟨mP_blind, fun U hU hW => ⟨rfl, hC.to0 hW hU, by rw [hU]; exact hRc⟩⟩ rfl rfl hl.1 rfl (lv_room (Nat.le_of_ble_eq_true rfl)) d_Rd_roleOf_167 ⟨Nat.le_of_ble_eq_true rfl, Nat.le_of_ble_eq_true rfl⟩).run (fun r60 h => ?_)
    exact W.iret hx hb hr (fun t ht hW => ⟨_, rfl, h, ht⟩) (fun _ z => by cases z) d_Rd_roleOf_170
  by_cases c1007 : (rdL u0) = 7
  · have h := hsw
    have h := h.2.2.2.2.2.2.2.1 (c1007)
    refine lv_tabK (a := 7) (off := 167) (tgt := 171) hx hb d_Rd_roleOf_4 c1007 t32_7 (by decide) (by decide) rfl (by decide) ?_
    refine lv_iload_n hx hb d_Rd_roleOf_171 rfl (lv_at hl 1 rfl) ?_
    refine lv_bipush (v := 59) hx hb d_Rd_roleOf_172 (by decide) ?_
    refine lv_icmp_ne (tgt := 182) hx hb d_Rd_roleOf_174 (by decide) (fun c9 => ?_) (fun c9 => ?_)
    · have h := h.1 c9
      refine lv_iload_n hx hb d_Rd_roleOf_182 rfl (lv_at hl 1 rfl) ?_
      refine lv_bipush (v := 7) hx hb d_Rd_roleOf_183 (by decide) ?_
      have hRc : va_P G.1 vwCl [] s.heap := vaP_nil
      refine vp_callSi (va_runS (As := [.int x1, .int 7]) (rest := []) ⟨hx, hb, hml, hown, hts⟩ (c_Rd_nameOnly l G x1 7 _ h) (va_cwS 2 hts (gwS b_95 b_96 b_90 b_94) rfl rfl rfl hd_Rd_nameOnly.2 ⟨Nat.le_of_ble_eq_true rfl, Nat.le_of_ble_eq_true rfl⟩) ⟨mP_blind, fun U hU hW => ⟨rfl, hC.to0 hW hU, by rw [hU]; exact hRc⟩⟩ rfl rfl hl.1 rfl (lv_room (Nat.le_of_ble_eq_true rfl)) d_Rd_roleOf_185 ⟨Nat.le_of_ble_eq_true rfl, Nat.le_of_ble_eq_true rfl⟩).run (fun r61 h => ?_)
      exact W.iret hx hb hr (fun t ht hW => ⟨_, rfl, h, ht⟩) (fun _ z => by cases z) d_Rd_roleOf_188
    · have h := h.2 c9
      refine lv_bipush (v := 8) hx hb d_Rd_roleOf_177 (by decide) ?_
      refine lv_goto (tgt := 188) hx hb d_Rd_roleOf_179 (by decide) ?_
      exact W.iret hx hb hr (fun t ht hW => ⟨_, rfl, h, ht⟩) (fun _ z => by cases z) d_Rd_roleOf_188
  by_cases c1008 : (rdL u0) = 8
  · have h := hsw
    have h := h.2.2.2.2.2.2.2.2.2.2.2.2.2.2.2.2.2.2 ⟨(fun z => absurd (c1008.symm.trans z) (by decide)), (fun z => absurd (c1008.symm.trans z) (by decide)), (fun z => absurd (c1008.symm.trans z) (by decide)), (fun z => absurd (c1008.symm.trans z) (by decide)), (fun z => absurd (c1008.symm.trans z) (by decide)), (fun z => absurd (c1008.symm.trans z) (by decide)), (fun z => absurd (c1008.symm.trans z) (by decide)), (fun z => absurd (c1008.symm.trans z) (by decide)), (fun z => absurd (c1008.symm.trans z) (by decide)), (fun z => absurd (c1008.symm.trans z) (by decide)), (fun z => absurd (c1008.symm.trans z) (by decide)), (fun z => absurd (c1008.symm.trans z) (by decide)), (fun z => absurd (c1008.symm.trans z) (by decide)), (fun z => absurd (c1008.symm.trans z) (by decide)), (fun z => absurd (c1008.symm.trans z) (by decide)), (fun z => absurd (c1008.symm.trans z) (by decide)), (fun z => absurd (c1008.symm.trans z) (by decide)), (fun z => absurd (c1008.symm.trans z) (by decide)), (fun z => absurd (c1008.symm.trans z) (by decide)), (fun z => absurd (c1008.symm.trans z) (by decide))⟩
    refine lv_tabK (a := 8) (off := 275) (tgt := 279) hx hb d_Rd_roleOf_4 c1008 t32_8 (by decide) (by decide) rfl (by decide) ?_
    exact t_Rd_roleOf_279 E hR  _ _ h (lv_sub hl [0, 1] rfl)
  by_cases c1009 : (rdL u0) = 9
  · have h := hsw
    have h := h.2.2.2.2.2.2.2.2.1 (Or.inl c1009)
    refine lv_tabK (a := 9) (off := 185) (tgt := 189) hx hb d_Rd_roleOf_4 c1009 t32_9 (by decide) (by decide) rfl (by decide) ?_
    exact t_Rd_roleOf_189 E hR  _ _ h (lv_sub hl [1] rfl)
  by_cases c1010 : (rdL u0) = 10
  · have h := hsw
    have h := h.2.2.2.2.2.2.2.2.2.1 (c1010)
    refine lv_tabK (a := 10) (off := 192) (tgt := 196) hx hb d_Rd_roleOf_4 c1010 t32_10 (by decide) (by decide) rfl (by decide) ?_
    refine lv_iload_n hx hb d_Rd_roleOf_196 rfl (lv_at hl 1 rfl) ?_
    refine lv_bipush (v := 47) hx hb d_Rd_roleOf_197 (by decide) ?_
    refine lv_icmp_ne (tgt := 207) hx hb d_Rd_roleOf_199 (by decide) (fun c9 => ?_) (fun c9 => ?_)
    · have h := h.1 c9
      refine lv_iload_n hx hb d_Rd_roleOf_207 rfl (lv_at hl 1 rfl) ?_
      refine lv_bipush (v := 10) hx hb d_Rd_roleOf_208 (by decide) ?_
      have hRc : va_P G.1 vwCl [] s.heap := vaP_nil
      refine vp_callSi (va_runS (As := [.int x1, .int 10]) (rest := []) ⟨hx, hb, hml, hown, hts⟩ (c_Rd_inSegment l G x1 10 _ h) (va_cwS 2 hts (gwS b_125 b_126 b_90 b_124) rfl rfl rfl hd_Rd_inSegment.2 ⟨Nat.le_of_ble_eq_true rfl, Nat.le_of_ble_eq_true rfl⟩) ⟨mP_blind, fun U hU hW => ⟨rfl, hC.to0 hW hU, by rw [hU]; exact hRc⟩⟩ rfl rfl hl.1 rfl (lv_room (Nat.le_of_ble_eq_true rfl)) d_Rd_roleOf_210 ⟨Nat.le_of_ble_eq_true rfl, Nat.le_of_ble_eq_true rfl⟩).run (fun r62 h => ?_)
      exact W.iret hx hb hr (fun t ht hW => ⟨_, rfl, h, ht⟩) (fun _ z => by cases z) d_Rd_roleOf_213
    · have h := h.2 c9
      refine lv_bipush (v := 11) hx hb d_Rd_roleOf_202 (by decide) ?_
      refine lv_goto (tgt := 213) hx hb d_Rd_roleOf_204 (by decide) ?_
      exact W.iret hx hb hr (fun t ht hW => ⟨_, rfl, h, ht⟩) (fun _ z => by cases z) d_Rd_roleOf_213
  by_cases c1011 : (rdL u0) = 11
  · have h := hsw
    have h := h.2.2.2.2.2.2.2.2.1 (Or.inr (c1011))
    refine lv_tabK (a := 11) (off := 185) (tgt := 189) hx hb d_Rd_roleOf_4 c1011 t32_11 (by decide) (by decide) rfl (by decide) ?_
    exact t_Rd_roleOf_189 E hR  _ _ h (lv_sub hl [1] rfl)
  by_cases c1012 : (rdL u0) = 12
  · have h := hsw
    have h := h.2.2.2.2.2.2.2.2.2.2.1 (c1012)
    refine lv_tabK (a := 12) (off := 210) (tgt := 214) hx hb d_Rd_roleOf_4 c1012 t32_12 (by decide) (by decide) rfl (by decide) ?_
    refine lv_iload_n hx hb d_Rd_roleOf_214 rfl (lv_at hl 1 rfl) ?_
    refine lv_bipush (v := 13) hx hb d_Rd_roleOf_215 (by decide) ?_
    have hRc : va_P G.1 vwCl [] s.heap := vaP_nil
    refine vp_callSi (va_runS (As := [.int x1, .int 13]) (rest := []) ⟨hx, hb, hml, hown, hts⟩ (c_Rd_nameOnly l G x1 13 _ h) (va_cwS 2 hts (gwS b_95 b_96 b_90 b_94) rfl rfl rfl hd_Rd_nameOnly.2 ⟨Nat.le_of_ble_eq_true rfl, Nat.le_of_ble_eq_true rfl⟩) ⟨mP_blind, fun U hU hW => ⟨rfl, hC.to0 hW hU, by rw [hU]; exact hRc⟩⟩ rfl rfl hl.1 rfl (lv_room (Nat.le_of_ble_eq_true rfl)) d_Rd_roleOf_217 ⟨Nat.le_of_ble_eq_true rfl, Nat.le_of_ble_eq_true rfl⟩).run (fun r63 h => ?_)
    exact W.iret hx hb hr (fun t ht hW => ⟨_, rfl, h, ht⟩) (fun _ z => by cases z) d_Rd_roleOf_220
  by_cases c1013 : (rdL u0) = 13
  · have h := hsw
    have h := h.2.2.2.2.2.2.2.2.2.2.2.1 (c1013)
    refine lv_tabK (a := 13) (off := 217) (tgt := 221) hx hb d_Rd_roleOf_4 c1013 t32_13 (by decide) (by decide) rfl (by decide) ?_
    refine lv_iload_n hx hb d_Rd_roleOf_221 rfl (lv_at hl 1 rfl) ?_
    refine lv_bipush (v := 13) hx hb d_Rd_roleOf_222 (by decide) ?_
    have hRc : va_P G.1 vwCl [] s.heap := vaP_nil
    refine vp_callSi (va_runS (As := [.int x1, .int 13]) (rest := []) ⟨hx, hb, hml, hown, hts⟩ (c_Rd_inSegment l G x1 13 _ h) (va_cwS 2 hts (gwS b_125 b_126 b_90 b_124) rfl rfl rfl hd_Rd_inSegment.2 ⟨Nat.le_of_ble_eq_true rfl, Nat.le_of_ble_eq_true rfl⟩) ⟨mP_blind, fun U hU hW => ⟨rfl, hC.to0 hW hU, by rw [hU]; exact hRc⟩⟩ rfl rfl hl.1 rfl (lv_room (Nat.le_of_ble_eq_true rfl)) d_Rd_roleOf_224 ⟨Nat.le_of_ble_eq_true rfl, Nat.le_of_ble_eq_true rfl⟩).run (fun r64 h => ?_)
    exact W.iret hx hb hr (fun t ht hW => ⟨_, rfl, h, ht⟩) (fun _ z => by cases z) d_Rd_roleOf_227
  by_cases c1014 : (rdL u0) = 14
  · have h := hsw
    have h := h.2.2.2.2.2.2.2.2.2.2.2.2.2.2.2.2.2.2 ⟨(fun z => absurd (c1014.symm.trans z) (by decide)), (fun z => absurd (c1014.symm.trans z) (by decide)), (fun z => absurd (c1014.symm.trans z) (by decide)), (fun z => absurd (c1014.symm.trans z) (by decide)), (fun z => absurd (c1014.symm.trans z) (by decide)), (fun z => absurd (c1014.symm.trans z) (by decide)), (fun z => absurd (c1014.symm.trans z) (by decide)), (fun z => absurd (c1014.symm.trans z) (by decide)), (fun z => absurd (c1014.symm.trans z) (by decide)), (fun z => absurd (c1014.symm.trans z) (by decide)), (fun z => absurd (c1014.symm.trans z) (by decide)), (fun z => absurd (c1014.symm.trans z) (by decide)), (fun z => absurd (c1014.symm.trans z) (by decide)), (fun z => absurd (c1014.symm.trans z) (by decide)), (fun z => absurd (c1014.symm.trans z) (by decide)), (fun z => absurd (c1014.symm.trans z) (by decide)), (fun z => absurd (c1014.symm.trans z) (by decide)), (fun z => absurd (c1014.symm.trans z) (by decide)), (fun z => absurd (c1014.symm.trans z) (by decide)), (fun z => absurd (c1014.symm.trans z) (by decide))⟩
    refine lv_tabK (a := 14) (off := 275) (tgt := 279) hx hb d_Rd_roleOf_4 c1014 t32_14 (by decide) (by decide) rfl (by decide) ?_
    exact t_Rd_roleOf_279 E hR  _ _ h (lv_sub hl [0, 1] rfl)
  by_cases c1015 : (rdL u0) = 15
  · have h := hsw
    have h := h.2.2.2.2.2.2.2.2.2.2.2.2.1 (c1015)
    refine lv_tabK (a := 15) (off := 224) (tgt := 228) hx hb d_Rd_roleOf_4 c1015 t32_15 (by decide) (by decide) rfl (by decide) ?_
    refine lv_iload_n hx hb d_Rd_roleOf_228 rfl (lv_at hl 1 rfl) ?_
    have hRc : va_P G.1 vwCl [] s.heap := vaP_nil
    refine vp_callSi (va_runS (As := [.int x1]) (rest := []) ⟨hx, hb, hml, hown, hts⟩ (c_Rd_argument l G x1 _ h) (va_cwS 1 hts (gwS b_109 b_110 b_90 b_108) rfl rfl rfl hd_Rd_argument.2 ⟨Nat.le_of_ble_eq_true rfl, Nat.le_of_ble_eq_true rfl⟩) ⟨mP_blind, fun U hU hW => ⟨rfl, hC.to0 hW hU, by rw [hU]; exact hRc⟩⟩ rfl rfl hl.1 rfl (lv_room (Nat.le_of_ble_eq_true rfl)) d_Rd_roleOf_229 ⟨Nat.le_of_ble_eq_true rfl, Nat.le_of_ble_eq_true rfl⟩).run (fun r65 h => ?_)
    exact W.iret hx hb hr (fun t ht hW => ⟨_, rfl, h, ht⟩) (fun _ z => by cases z) d_Rd_roleOf_232
  by_cases c1016 : (rdL u0) = 16
  · have h := hsw
    have h := h.2.2.2.2.2.2.2.2.2.2.2.2.2.1 (c1016)
    refine lv_tabK (a := 16) (off := 229) (tgt := 233) hx hb d_Rd_roleOf_4 c1016 t32_16 (by decide) (by decide) rfl (by decide) ?_
    refine lv_iload_n hx hb d_Rd_roleOf_233 rfl (lv_at hl 1 rfl) ?_
    have hRc : va_P G.1 vwCl [] s.heap := vaP_nil
    refine vp_callSi (va_runS (As := [.int x1]) (rest := []) ⟨hx, hb, hml, hown, hts⟩ (c_Rd_behindArguments l G x1 _ h) (va_cwS 1 hts (gwS b_128 b_129 b_90 b_127) rfl rfl rfl hd_Rd_behindArguments.2 ⟨Nat.le_of_ble_eq_true rfl, Nat.le_of_ble_eq_true rfl⟩) ⟨mP_blind, fun U hU hW => ⟨rfl, hC.to0 hW hU, by rw [hU]; exact hRc⟩⟩ rfl rfl hl.1 rfl (lv_room (Nat.le_of_ble_eq_true rfl)) d_Rd_roleOf_234 ⟨Nat.le_of_ble_eq_true rfl, Nat.le_of_ble_eq_true rfl⟩).run (fun r66 h => ?_)
    exact W.iret hx hb hr (fun t ht hW => ⟨_, rfl, h, ht⟩) (fun _ z => by cases z) d_Rd_roleOf_237
  by_cases c1017 : (rdL u0) = 17
  · have h := hsw
    have h := h.2.2.2.2.2.2.2.2.2.2.2.2.2.2.2.2.2.2 ⟨(fun z => absurd (c1017.symm.trans z) (by decide)), (fun z => absurd (c1017.symm.trans z) (by decide)), (fun z => absurd (c1017.symm.trans z) (by decide)), (fun z => absurd (c1017.symm.trans z) (by decide)), (fun z => absurd (c1017.symm.trans z) (by decide)), (fun z => absurd (c1017.symm.trans z) (by decide)), (fun z => absurd (c1017.symm.trans z) (by decide)), (fun z => absurd (c1017.symm.trans z) (by decide)), (fun z => absurd (c1017.symm.trans z) (by decide)), (fun z => absurd (c1017.symm.trans z) (by decide)), (fun z => absurd (c1017.symm.trans z) (by decide)), (fun z => absurd (c1017.symm.trans z) (by decide)), (fun z => absurd (c1017.symm.trans z) (by decide)), (fun z => absurd (c1017.symm.trans z) (by decide)), (fun z => absurd (c1017.symm.trans z) (by decide)), (fun z => absurd (c1017.symm.trans z) (by decide)), (fun z => absurd (c1017.symm.trans z) (by decide)), (fun z => absurd (c1017.symm.trans z) (by decide)), (fun z => absurd (c1017.symm.trans z) (by decide)), (fun z => absurd (c1017.symm.trans z) (by decide))⟩
    refine lv_tabK (a := 17) (off := 275) (tgt := 279) hx hb d_Rd_roleOf_4 c1017 t32_17 (by decide) (by decide) rfl (by decide) ?_
    exact t_Rd_roleOf_279 E hR  _ _ h (lv_sub hl [0, 1] rfl)
  by_cases c1018 : (rdL u0) = 18
  · have h := hsw
    have h := h.2.2.2.2.1 (Or.inr (c1018))
    refine lv_tabK (a := 18) (off := 155) (tgt := 159) hx hb d_Rd_roleOf_4 c1018 t32_18 (by decide) (by decide) rfl (by decide) ?_
    exact t_Rd_roleOf_159 E hR  _ _ h (lv_sub hl [1] rfl)
  by_cases c1019 : (rdL u0) = 19
  · have h := hsw
    have h := h.2.2.2.2.2.2.2.2.2.2.2.2.2.2.1 (c1019)
    refine lv_tabK (a := 19) (off := 234) (tgt := 238) hx hb d_Rd_roleOf_4 c1019 t32_19 (by decide) (by decide) rfl (by decide) ?_
    refine lv_iload_n hx hb d_Rd_roleOf_238 rfl (lv_at hl 1 rfl) ?_
    have hRc : va_P G.1 vwCl [] s.heap := vaP_nil
    refine vp_callSi (va_runS (As := [.int x1]) (rest := []) ⟨hx, hb, hml, hown, hts⟩ (c_Rd_typeOnly l G x1 _ h) (va_cwS 1 hts (gwS b_98 b_99 b_90 b_97) rfl rfl rfl hd_Rd_typeOnly.2 ⟨Nat.le_of_ble_eq_true rfl, Nat.le_of_ble_eq_true rfl⟩) ⟨mP_blind, fun U hU hW => ⟨rfl, hC.to0 hW hU, by rw [hU]; exact hRc⟩⟩ rfl rfl hl.1 rfl (lv_room (Nat.le_of_ble_eq_true rfl)) d_Rd_roleOf_239 ⟨Nat.le_of_ble_eq_true rfl, Nat.le_of_ble_eq_true rfl⟩).run (fun r67 h => ?_)
    exact W.iret hx hb hr (fun t ht hW => ⟨_, rfl, h, ht⟩) (fun _ z => by cases z) d_Rd_roleOf_242
  by_cases c1020 : (rdL u0) = 20
  · have h := hsw
    have h := h.2.2.2.2.2.2.2.2.2.2.2.2.2.2.2.2.2.2 ⟨(fun z => absurd (c1020.symm.trans z) (by decide)), (fun z => absurd (c1020.symm.trans z) (by decide)), (fun z => absurd (c1020.symm.trans z) (by decide)), (fun z => absurd (c1020.symm.trans z) (by decide)), (fun z => absurd (c1020.symm.trans z) (by decide)), (fun z => absurd (c1020.symm.trans z) (by decide)), (fun z => absurd (c1020.symm.trans z) (by decide)), (fun z => absurd (c1020.symm.trans z) (by decide)), (fun z => absurd (c1020.symm.trans z) (by decide)), (fun z => absurd (c1020.symm.trans z) (by decide)), (fun z => absurd (c1020.symm.trans z) (by decide)), (fun z => absurd (c1020.symm.trans z) (by decide)), (fun z => absurd (c1020.symm.trans z) (by decide)), (fun z => absurd (c1020.symm.trans z) (by decide)), (fun z => absurd (c1020.symm.trans z) (by decide)), (fun z => absurd (c1020.symm.trans z) (by decide)), (fun z => absurd (c1020.symm.trans z) (by decide)), (fun z => absurd (c1020.symm.trans z) (by decide)), (fun z => absurd (c1020.symm.trans z) (by decide)), (fun z => absurd (c1020.symm.trans z) (by decide))⟩
    refine lv_tabK (a := 20) (off := 275) (tgt := 279) hx hb d_Rd_roleOf_4 c1020 t32_20 (by decide) (by decide) rfl (by decide) ?_
    exact t_Rd_roleOf_279 E hR  _ _ h (lv_sub hl [0, 1] rfl)
  by_cases c1021 : (rdL u0) = 21
  · have h := hsw
    have h := h.2.2.2.2.2.2.2.2.2.2.2.2.2.2.2.2.2.2 ⟨(fun z => absurd (c1021.symm.trans z) (by decide)), (fun z => absurd (c1021.symm.trans z) (by decide)), (fun z => absurd (c1021.symm.trans z) (by decide)), (fun z => absurd (c1021.symm.trans z) (by decide)), (fun z => absurd (c1021.symm.trans z) (by decide)), (fun z => absurd (c1021.symm.trans z) (by decide)), (fun z => absurd (c1021.symm.trans z) (by decide)), (fun z => absurd (c1021.symm.trans z) (by decide)), (fun z => absurd (c1021.symm.trans z) (by decide)), (fun z => absurd (c1021.symm.trans z) (by decide)), (fun z => absurd (c1021.symm.trans z) (by decide)), (fun z => absurd (c1021.symm.trans z) (by decide)), (fun z => absurd (c1021.symm.trans z) (by decide)), (fun z => absurd (c1021.symm.trans z) (by decide)), (fun z => absurd (c1021.symm.trans z) (by decide)), (fun z => absurd (c1021.symm.trans z) (by decide)), (fun z => absurd (c1021.symm.trans z) (by decide)), (fun z => absurd (c1021.symm.trans z) (by decide)), (fun z => absurd (c1021.symm.trans z) (by decide)), (fun z => absurd (c1021.symm.trans z) (by decide))⟩
    refine lv_tabK (a := 21) (off := 275) (tgt := 279) hx hb d_Rd_roleOf_4 c1021 t32_21 (by decide) (by decide) rfl (by decide) ?_
    exact t_Rd_roleOf_279 E hR  _ _ h (lv_sub hl [0, 1] rfl)
  by_cases c1022 : (rdL u0) = 22
  · have h := hsw
    have h := h.2.2.2.2.2.2.2.2.2.2.2.2.2.2.2.1 (c1022)
    refine lv_tabK (a := 22) (off := 239) (tgt := 243) hx hb d_Rd_roleOf_4 c1022 t32_22 (by decide) (by decide) rfl (by decide) ?_
    refine lv_iload_n hx hb d_Rd_roleOf_243 rfl (lv_at hl 1 rfl) ?_
    have hRc : va_P G.1 vwCl [] s.heap := vaP_nil
    refine vp_callSi (va_runS (As := [.int x1]) (rest := []) ⟨hx, hb, hml, hown, hts⟩ (c_Rd_inTypes l G x1 _ h) (va_cwS 1 hts (gwS b_106 b_107 b_90 b_105) rfl rfl rfl hd_Rd_inTypes.2 ⟨Nat.le_of_ble_eq_true rfl, Nat.le_of_ble_eq_true rfl⟩) ⟨mP_blind, fun U hU hW => ⟨rfl, hC.to0 hW hU, by rw [hU]; exact hRc⟩⟩ rfl rfl hl.1 rfl (lv_room (Nat.le_of_ble_eq_true rfl)) d_Rd_roleOf_244 ⟨Nat.le_of_ble_eq_true rfl, Nat.le_of_ble_eq_true rfl⟩).run (fun r68 h => ?_)
    exact W.iret hx hb hr (fun t ht hW => ⟨_, rfl, h, ht⟩) (fun _ z => by cases z) d_Rd_roleOf_247
  by_cases c1023 : (rdL u0) = 23
  · have h := hsw
    have h := h.2.2.2.2.2.2.2.2.2.2.2.2.2.2.2.2.1 (c1023)
    refine lv_tabK (a := 23) (off := 244) (tgt := 248) hx hb d_Rd_roleOf_4 c1023 t32_23 (by decide) (by decide) rfl (by decide) ?_
    refine lv_iload_n hx hb d_Rd_roleOf_248 rfl (lv_at hl 1 rfl) ?_
    refine lv_bipush (v := 86) hx hb d_Rd_roleOf_249 (by decide) ?_
    refine lv_icmp_ne (tgt := 259) hx hb d_Rd_roleOf_251 (by decide) (fun c9 => ?_) (fun c9 => ?_)
    · have h := h.1 c9
      refine lv_iload_n hx hb d_Rd_roleOf_259 rfl (lv_at hl 1 rfl) ?_
      have hRc : va_P G.1 vwCl [] s.heap := vaP_nil
      refine vp_callSi (va_runS (As := [.int x1]) (rest := []) ⟨hx, hb, hml, hown, hts⟩ (c_Rd_typeOnly l G x1 _ h) (va_cwS 1 hts (gwS b_98 b_99 b_90 b_97) rfl rfl rfl hd_Rd_typeOnly.2 ⟨Nat.le_of_ble_eq_true rfl, Nat.le_of_ble_eq_true rfl⟩) ⟨mP_blind, fun U hU hW => ⟨rfl, hC.to0 hW hU, by rw [hU]; exact hRc⟩⟩ rfl rfl hl.1 rfl (lv_room (Nat.le_of_ble_eq_true rfl)) d_Rd_roleOf_260 ⟨Nat.le_of_ble_eq_true rfl, Nat.le_of_ble_eq_true rfl⟩).run (fun r69 h => ?_)
      exact W.iret hx hb hr (fun t ht hW => ⟨_, rfl, h, ht⟩) (fun _ z => by cases z) d_Rd_roleOf_263
    · have h := h.2 c9
      refine lv_bipush (v := 21) hx hb d_Rd_roleOf_254 (by decide) ?_
      refine lv_goto (tgt := 263) hx hb d_Rd_roleOf_256 (by decide) ?_
      exact W.iret hx hb hr (fun t ht hW => ⟨_, rfl, h, ht⟩) (fun _ z => by cases z) d_Rd_roleOf_263
  by_cases c1024 : (rdL u0) = 24
  · have h := hsw
    have h := h.2.2.2.2.2.2.2.2.2.2.2.2.2.2.2.2.2.1 (c1024)
    refine lv_tabK (a := 24) (off := 260) (tgt := 264) hx hb d_Rd_roleOf_4 c1024 t32_24 (by decide) (by decide) rfl (by decide) ?_
    refine lv_iload_n hx hb d_Rd_roleOf_264 rfl (lv_at hl 1 rfl) ?_
    refine lv_bipush (v := 91) hx hb d_Rd_roleOf_265 (by decide) ?_
    refine lv_icmp_ne (tgt := 274) hx hb d_Rd_roleOf_267 (by decide) (fun c9 => ?_) (fun c9 => ?_)
    · have h := h.1 c9
      refine lv_iload_n hx hb d_Rd_roleOf_274 rfl (lv_at hl 1 rfl) ?_
      have hRc : va_P G.1 vwCl [] s.heap := vaP_nil
      refine vp_callSi (va_runS (As := [.int x1]) (rest := []) ⟨hx, hb, hml, hown, hts⟩ (c_Rd_reference l G x1 _ h) (va_cwS 1 hts (gwS b_88 b_89 b_90 b_87) rfl rfl rfl hd_Rd_reference.2 ⟨Nat.le_of_ble_eq_true rfl, Nat.le_of_ble_eq_true rfl⟩) ⟨mP_blind, fun U hU hW => ⟨rfl, hC.to0 hW hU, by rw [hU]; exact hRc⟩⟩ rfl rfl hl.1 rfl (lv_room (Nat.le_of_ble_eq_true rfl)) d_Rd_roleOf_275 ⟨Nat.le_of_ble_eq_true rfl, Nat.le_of_ble_eq_true rfl⟩).run (fun r70 h => ?_)
      exact W.iret hx hb hr (fun t ht hW => ⟨_, rfl, h, ht⟩) (fun _ z => by cases z) d_Rd_roleOf_278
    · have h := h.2 c9
      refine lv_iconst (v := 0) hx hb d_Rd_roleOf_270 (by decide) ?_
      refine lv_goto (tgt := 278) hx hb d_Rd_roleOf_271 (by decide) ?_
      exact W.iret hx hb hr (fun t ht hW => ⟨_, rfl, h, ht⟩) (fun _ z => by cases z) d_Rd_roleOf_278
  have h := hsw.2.2.2.2.2.2.2.2.2.2.2.2.2.2.2.2.2.2 ⟨c1000, c1001, c1002, c1003, c1004, c1005, c1006, c1007, c1009, c1010, c1011, c1012, c1013, c1015, c1016, c1018, c1019, c1022, c1023, c1024⟩
  refine lv_tableOut (tgt := 279) hx hb d_Rd_roleOf_4 (sw_out (lo := 0) (n := 25) (lt_s (lt_s (lt_s (lt_s (lt_s (lt_s (lt_s (lt_s (lt_s (lt_s (lt_s (lt_s (lt_s (lt_s (lt_s (lt_s (lt_s (lt_s (lt_s (lt_s (lt_s (lt_s (lt_s (lt_s (lt_s lt_0 (lv_neT c1000 t32_0)) (lv_neT c1001 t32_1)) (lv_neT c1002 t32_2)) (lv_neT c1003 t32_3)) (lv_neT c1004 t32_4)) (lv_neT c1005 t32_5)) (lv_neT c1006 t32_6)) (lv_neT c1007 t32_7)) (lv_neT c1008 t32_8)) (lv_neT c1009 t32_9)) (lv_neT c1010 t32_10)) (lv_neT c1011 t32_11)) (lv_neT c1012 t32_12)) (lv_neT c1013 t32_13)) (lv_neT c1014 t32_14)) (lv_neT c1015 t32_15)) (lv_neT c1016 t32_16)) (lv_neT c1017 t32_17)) (lv_neT c1018 t32_18)) (lv_neT c1019 t32_19)) (lv_neT c1020 t32_20)) (lv_neT c1021 t32_21)) (lv_neT c1022 t32_22)) (lv_neT c1023 t32_23)) (lv_neT c1024 t32_24))) (by decide) ?_
  exact t_Rd_roleOf_279 E hR  _ _ h (lv_sub hl [0, 1] rfl)
set_option maxHeartbeats 4000000 in
set_option maxRecDepth 100000 in
theorem c_Rd_roleOf (l : Launch) (G : GX) (a0_0 a0_1 a0_2 a0_3 : Nat) (u0 : RdC) (x1 : Int32) (post : Int32 → Prop) (h : wp_Rd_roleOf post u0 x1) : Met l y_Rd_roleOf wc_Rd_roleOf rm_Rd_roleOf (mP G [.ref a0_0, .int x1] [(a0_0, .inr (1, [.ref a0_1, .ref a0_2, .ref a0_3, .int (rdC u0), .int (rdK u0), .int (rdX u0), .int (rdD u0), .int (rdL u0)])), (a0_1, .inl (G.2.1 1, rdN u0, .inl (rdR u0))), (a0_2, .inl (G.2.1 1, rdN u0, .inl (rdB u0))), (a0_3, .inl (G.2.1 1, rdN u0, .inl (rdE u0)))]) (vp_Si post) 0 0 (fun _ => False) := by
  refine Met.ofW (cc := cc_Rd_roleOf) (maxL := 2) (ret := (some .int)) (by decide) rfl ?_
  intro p e s m args below meth c s₁ B hml hv
  obtain ⟨rfl, hC, hR⟩ := hv
  have E : EN p s m ([.ref a0_0, .int x1] : List Value).toArray meth c G R_Rd cc_Rd_roleOf 2 (some .int) BG := ⟨B.exec, B.bytes, B.returns, fun w h => atoms_spec (ws := wc_Rd_roleOf) B.pre w (List.mem_cons_of_mem _ h), findClass_of_methodNamed B.named, B.notSynchronized, hml, hC⟩
  have hl := lv_entry ([.ref a0_0, .int x1]) (n := 2) (Nat.le_of_ble_eq_true rfl)
  rw [lg_entry_eq]
  generalize (lg_sl ([.ref a0_0, .int x1]) ++ List.replicate (2 - (lg_sl ([.ref a0_0, .int x1])).length) Slot.unset).toArray = ls at hl ⊢
  have hl : lv_has ls 2 [(0, .ref a0_0), (1, .int x1)] := hl
  exact t_Rd_roleOf_in E hR _ h hl
