/-! the law's start -/
def pu0 : Nat → SgC := fun _ => (0, 0, fun _ => 0, fun _ => 0, 0, fun _ => 0, fun _ => 0, 0, 0)
theorem Ads.inj {ws : va_W} {n : Nat} {a : Nat → Nat} {A : Nat → Prop} (h : Ads ws n a) (hD : va_D A ws) : (∀ i j, i < n → j < n → a i = a j → i = j) ∧ ∀ i, i < n → A (a i) := by
  have cell : ∀ k, k < n → ∃ e, ws[k]? = some (a k, e) := by
    intro k hk
    have h1 : ((List.range n).map a)[k]? = some (a k) := by
      rw [List.getElem?_map, List.getElem?_eq_getElem (by simpa using hk), List.getElem_range]
      rfl
    rw [← h, List.getElem?_map] at h1
    cases h2 : ws[k]? with
    | none => rw [h2] at h1; cases h1
    | some q =>
      rw [h2] at h1
      refine ⟨q.2, ?_⟩
      rw [← Option.some.inj h1]
  refine ⟨fun i j hi hj e => ?_, fun i hi => ?_⟩
  · obtain ⟨x, hx⟩ := cell i hi
    obtain ⟨y, hy⟩ := cell j hj
    exact hD.1 i j _ _ hx hy e
  · obtain ⟨x, hx⟩ := cell i hi
    exact hD.2 i _ hx
theorem whole_start {p : Program} {e : Env} {s : State} {m : MethodId} {below : List Frame} {meth : Method} {c : Code} (l : Launch) {b L : Nat} {xs : Nat → Int32} (hL : L ≤ 2048) (C0 : lw_At p s m meth c b L xs) : W p l e room_1 s m #[Value.ref b] below meth c s.heap [] 0 0 (lw_Z below #[Value.ref b] s) (entryFrame m ([Value.ref b] : List Value).toArray 4) := by
  obtain ⟨G, E⟩ := gr_of C0
  obtain ⟨⟨hx, hb, hr, hml, hown, hts, hX, hbl, hlocks, hgv⟩, hC, hB⟩ := id E
  have hK := hC.1
  have hS : va_S (fun q => G.2.2.1 ≤ q) s.heap s.heap [] := va_S.rf
  have hA : ∀ q : Nat, s.heap.size ≤ q → (fun q : Nat => G.2.2.1 ≤ q) q := fun q h => by show G.2.2.1 ≤ q; rw [hB]; exact h
  have hP : va_P G.1 vwCl [] s.heap := vaP_nil
  have hD : va_D (fun q : Nat => G.2.2.1 ≤ q) [] := ⟨fun i j p q h => by simp at h, fun k q h => by simp at h⟩
  have hl := lv_entry ([.ref b]) (n := 4) (Nat.le_of_ble_eq_true rfl)
  rw [lg_entry_eq]
  generalize (lg_sl ([.ref b]) ++ List.replicate (4 - (lg_sl ([.ref b])).length) Slot.unset).toArray = ls at hl ⊢
  have hl : lv_has ls 4 [(0, .ref b)] := hl
  refine va_new (ci := 6) (fs := [.null, .null, .null, .null, .null, .null, .null, .null, .int 0]) (C := R_Fo) (T := T_Fo) (N := 9) hx hb E.bg i_Fo ty_Fo tyok_Fo hown (E.bg _ b_756) (E.bg _ b_757) (E.bg _ b_51) hK hP hD hS hA rfl (fun j hj => by match j, hj with | 0, _ => rfl | 1, _ => rfl | 2, _ => rfl | 3, _ => rfl | 4, _ => rfl | 5, _ => rfl | 6, _ => rfl | 7, _ => rfl | 8, _ => rfl) (Nat.le_of_ble_eq_true rfl) (Nat.le_of_ble_eq_true rfl) d_law_0 (fun qF H hP hD hS => ?_)
  have hP : va_P G.1 vwCl [(qF, .inr (6, [.null, .null, .null, .null, .null, .null, .null, .null, .int 0]))] H := hP
  have hD : va_D (fun q : Nat => G.2.2.1 ≤ q) [(qF, .inr (6, [.null, .null, .null, .null, .null, .null, .null, .null, .int 0]))] := hD
  refine W.widen (k := 1) (n := 9) (by omega) (by omega) ?_
  refine lv_dup hx hb d_law_3 rfl ?_
  have hFc := va_free (wc := [(qF, .inr (6, [.null, .null, .null, .null, .null, .null, .null, .null, .int 0]))]) hD hS hA [0] rfl
  refine va_callv (va_runI (As := []) (rest := [.ref qF]) ⟨hx, hb, hml, hown, hts⟩ (c_F_init l G qF 0 H.size (fun u => FQ u.1 u.2.1 u.2.2.1 u.2.2.2.1 u.2.2.2.2.2.1 u.2.2.2.2.2.2.1 u.2.2.2.2.2.2.2.1 u.2.2.2.2.2.2.2.2 (fun _ => 0) pu0 z0) (fo_init (fun _ _ _ _ _ _ _ _ _ Q => Q))) (cwI 0 E.bg (gwC b_640) rfl rfl rfl (E.bg _ b_51) (E.bg _ b_638) (E.bg _ b_639) rfl hd_Fo_init.2 ⟨Nat.le_of_ble_eq_true rfl, Nat.le_of_ble_eq_true rfl⟩) ⟨mW_blind, fun U hU hW => ⟨rfl, hC.to hW hU hS (fun _ h => h), by rw [hU], by rw [hU]; exact hP, hD, vaP_nil, mw_ap_nil⟩⟩ rfl rfl hl.1 rfl (lv_room (Nat.le_of_ble_eq_true rfl)) d_law_4 ⟨Nat.le_of_ble_eq_true rfl, Nat.le_of_ble_eq_true rfl⟩) hS (fun q _ h => hFc q h) hFc (fun u t H1 locs ht hvm Q hB1 hz1 hk1 hS => ?_)
  obtain ⟨q5, q18, q31, q42, q53, q64, q75, q88, q11_0, q24_0, q35_0, q35_1, q35_2, q57_0, q68_0, q68_1, q79_0, q79_1, hP1, hD1⟩ := hB1
  rw [ht] at hP1
  obtain ⟨a, ha⟩ : ∃ f : Nat → Nat, f = (fun k => match k with | 0 => qF | 1 => q5 | 2 => q11_0 | 3 => q18 | 4 => q24_0 | 5 => q31 | 6 => q35_0 | 7 => q35_1 | 8 => q35_2 | 9 => q42 | 10 => q53 | 11 => q57_0 | 12 => q64 | 13 => q68_0 | 14 => q68_1 | 15 => q75 | 16 => q79_0 | 17 => q79_1 | _ => q88) := ⟨_, rfl⟩
  have ha0 : a 0 = qF := by rw [ha]; rfl
  have hP : va_P G.1 vwCl (fcs G a u.1 u.2.1 u.2.2.1 u.2.2.2.1 u.2.2.2.2.1 u.2.2.2.2.2.1 u.2.2.2.2.2.2.1 u.2.2.2.2.2.2.2.1 u.2.2.2.2.2.2.2.2) H1 := by rw [ha]; exact hP1
  have hD : va_D (fun q : Nat => G.2.2.1 ≤ q) (fcs G a u.1 u.2.1 u.2.2.1 u.2.2.2.1 u.2.2.2.2.1 u.2.2.2.2.2.1 u.2.2.2.2.2.2.1 u.2.2.2.2.2.2.2.1 u.2.2.2.2.2.2.2.2) := by rw [ha]; exact hD1.weaken (fun _ _ _ h => hFc _ h)
  rw [← ha0]
  clear hP1 hD1 hFc hk1 ht hz1
  refine W.widen (k := 19) (n := 1578) (by omega) (by omega) ?_
  refine lv_astore_n (lv' := [(1, .ref (a 0)), (0, .ref b)]) hx hb d_law_7 rfl hl (by decide) rfl (fun ls hl => ?_)
  refine va_new (ci := 7) (fs := [.null, .int 0, .null, .null, .null, .null, .null, .null, .null, .null, .null, .null, .int 0, .null, .int 0, .null, .int 0, .null, .null, .int 0, .int 0, .int 0]) (C := R_Mo) (T := T_Mo) (N := 22) hx hb E.bg i_Mo ty_Mo tyok_Mo hown (E.bg _ b_758) (E.bg _ b_759) (E.bg _ b_427) hK hP hD hS hA rfl (fun j hj => by match j, hj with | 0, _ => rfl | 1, _ => rfl | 2, _ => rfl | 3, _ => rfl | 4, _ => rfl | 5, _ => rfl | 6, _ => rfl | 7, _ => rfl | 8, _ => rfl | 9, _ => rfl | 10, _ => rfl | 11, _ => rfl | 12, _ => rfl | 13, _ => rfl | 14, _ => rfl | 15, _ => rfl | 16, _ => rfl | 17, _ => rfl | 18, _ => rfl | 19, _ => rfl | 20, _ => rfl | 21, _ => rfl | q_ + 22, h_ => exact absurd h_ (by omega)) (Nat.le_of_ble_eq_true rfl) (Nat.le_of_ble_eq_true rfl) d_law_8 (fun qM H hP hD hS => ?_)
  refine W.widen (k := 20) (n := 1600) (by omega) (by omega) ?_
  refine lv_dup hx hb d_law_11 rfl ?_
  have hPc := hP.sub (ws' := [(qM, .inr (7, [.null, .int 0, .null, .null, .null, .null, .null, .null, .null, .null, .null, .null, .int 0, .null, .int 0, .null, .int 0, .null, .null, .int 0, .int 0, .int 0]))]) [19] rfl
  have hDc := hD.sub (ws' := [(qM, .inr (7, [.null, .int 0, .null, .null, .null, .null, .null, .null, .null, .null, .null, .null, .int 0, .null, .int 0, .null, .int 0, .null, .null, .int 0, .int 0, .int 0]))]) [19] (by decide) rfl
  have hFc := va_free (wc := [(qM, .inr (7, [.null, .int 0, .null, .null, .null, .null, .null, .null, .null, .null, .null, .null, .int 0, .null, .int 0, .null, .int 0, .null, .null, .int 0, .int 0, .int 0]))]) hD hS hA [19] rfl
  refine va_callv (va_runI (As := []) (rest := [.ref qM]) ⟨hx, hb, hml, hown, hts⟩ (c_M_init l G qM (0, 0, 0, 0, 0, 0, 0) H.size (fun w => MZ w.1 w.2.1 (w.2.2.1, w.2.2.2.1, w.2.2.2.2.1, w.2.2.2.2.2.1, w.2.2.2.2.2.2.2.1, w.2.2.2.2.2.2.2.2.1, w.2.2.2.2.2.2.2.2.2.1, w.2.2.2.2.2.2.2.2.2.2.1, w.2.2.2.2.2.2.2.2.2.2.2.1) w.2.2.2.2.2.2.1 w.2.2.2.2.2.2.2.2.2.2.2.2.1 w.2.2.2.2.2.2.2.2.2.2.2.2.2.1 w.2.2.2.2.2.2.2.2.2.2.2.2.2.2.1 w.2.2.2.2.2.2.2.2.2.2.2.2.2.2.2 z0) (mo_init (fun _ _ _ _ _ _ _ _ Q => Q))) (cwI 0 E.bg (gwC b_643) rfl rfl rfl (E.bg _ b_427) (E.bg _ b_641) (E.bg _ b_642) rfl hd_Mo_init.2 ⟨Nat.le_of_ble_eq_true rfl, Nat.le_of_ble_eq_true rfl⟩) ⟨mW_blind, fun U hU hW => ⟨rfl, hC.to hW hU hS (fun _ h => h), by rw [hU], by rw [hU]; exact hPc, hDc, vaP_nil, mw_ap_nil⟩⟩ rfl rfl hl.1 rfl (lv_room (Nat.le_of_ble_eq_true rfl)) d_law_12 ⟨Nat.le_of_ble_eq_true rfl, Nat.le_of_ble_eq_true rfl⟩) hS (fun q _ h => hFc q h) hFc (fun w t H1 locs ht hvm QM hB1 hz1 hk1 hS => ?_)
  obtain ⟨q7, q16, q25, q33, q41, q49, q58, q67, q76, q85, q93, q102, q111, q120, q129, hP1, hD1⟩ := hB1
  rw [ht] at hP1
  obtain ⟨am, ham⟩ : ∃ f : Nat → Nat, f = (fun k => match k with | 0 => qM | 1 => q7 | 2 => q16 | 3 => q25 | 4 => q33 | 5 => q41 | 6 => q49 | 7 => q58 | 8 => q67 | 9 => q76 | 10 => q85 | 11 => q93 | 12 => q102 | 13 => q111 | 14 => q120 | _ => q129) := ⟨_, rfl⟩
  have ham0 : am 0 = qM := by rw [ham]; rfl
  have hP1 : va_P G.1 vwCl (mcs G am w.1 w.2.1 (w.2.2.1, w.2.2.2.1, w.2.2.2.2.1, w.2.2.2.2.2.1, w.2.2.2.2.2.2.2.1, w.2.2.2.2.2.2.2.2.1, w.2.2.2.2.2.2.2.2.2.1, w.2.2.2.2.2.2.2.2.2.2.1, w.2.2.2.2.2.2.2.2.2.2.2.1) w.2.2.2.2.2.2.1 w.2.2.2.2.2.2.2.2.2.2.2.2.1 w.2.2.2.2.2.2.2.2.2.2.2.2.2.1 w.2.2.2.2.2.2.2.2.2.2.2.2.2.2.1 w.2.2.2.2.2.2.2.2.2.2.2.2.2.2.2) H1 := by rw [ham]; exact hP1
  have hD1 : va_D (va_A [(qM, .inr (7, [.null, .int 0, .null, .null, .null, .null, .null, .null, .null, .null, .null, .null, .int 0, .null, .int 0, .null, .int 0, .null, .null, .int 0, .int 0, .int 0]))] H.size) (mcs G am w.1 w.2.1 (w.2.2.1, w.2.2.2.1, w.2.2.2.2.1, w.2.2.2.2.2.1, w.2.2.2.2.2.2.2.1, w.2.2.2.2.2.2.2.2.1, w.2.2.2.2.2.2.2.2.2.1, w.2.2.2.2.2.2.2.2.2.2.1, w.2.2.2.2.2.2.2.2.2.2.2.1) w.2.2.2.2.2.2.1 w.2.2.2.2.2.2.2.2.2.2.2.2.1 w.2.2.2.2.2.2.2.2.2.2.2.2.2.1 w.2.2.2.2.2.2.2.2.2.2.2.2.2.2.1 w.2.2.2.2.2.2.2.2.2.2.2.2.2.2.2) := by rw [ham]; exact hD1
  have hj := va_join (wr := fcs G a u.1 u.2.1 u.2.2.1 u.2.2.2.1 u.2.2.2.2.1 u.2.2.2.2.2.1 u.2.2.2.2.2.2.1 u.2.2.2.2.2.2.2.1 u.2.2.2.2.2.2.2.2) (w1 := mcs G am w.1 w.2.1 (w.2.2.1, w.2.2.2.1, w.2.2.2.2.1, w.2.2.2.2.2.1, w.2.2.2.2.2.2.2.1, w.2.2.2.2.2.2.2.2.1, w.2.2.2.2.2.2.2.2.2.1, w.2.2.2.2.2.2.2.2.2.2.1, w.2.2.2.2.2.2.2.2.2.2.2.1) w.2.2.2.2.2.2.1 w.2.2.2.2.2.2.2.2.2.2.2.2.1 w.2.2.2.2.2.2.2.2.2.2.2.2.2.1 w.2.2.2.2.2.2.2.2.2.2.2.2.2.2.1 w.2.2.2.2.2.2.2.2.2.2.2.2.2.2.2) hP hD [19] [0, 1, 2, 3, 4, 5, 6, 7, 8, 9, 10, 11, 12, 13, 14, 15, 16, 17, 18] rfl rfl (by decide) (by decide) hk1 hFc hP1 hD1
  have hin := Ads.inj (ws := fcs G a u.1 u.2.1 u.2.2.1 u.2.2.2.1 u.2.2.2.2.1 u.2.2.2.2.2.1 u.2.2.2.2.2.2.1 u.2.2.2.2.2.2.2.1 u.2.2.2.2.2.2.2.2 ++ mcs G am w.1 w.2.1 (w.2.2.1, w.2.2.2.1, w.2.2.2.2.1, w.2.2.2.2.2.1, w.2.2.2.2.2.2.2.1, w.2.2.2.2.2.2.2.2.1, w.2.2.2.2.2.2.2.2.2.1, w.2.2.2.2.2.2.2.2.2.2.1, w.2.2.2.2.2.2.2.2.2.2.2.1) w.2.2.2.2.2.2.1 w.2.2.2.2.2.2.2.2.2.2.2.2.1 w.2.2.2.2.2.2.2.2.2.2.2.2.2.1 w.2.2.2.2.2.2.2.2.2.2.2.2.2.2.1 w.2.2.2.2.2.2.2.2.2.2.2.2.2.2.2) (n := 35) (a := fun k => if k < 19 then a k else am (k - 19)) rfl hj.2
  have fa : ∀ k, k < 19 → (if k < 19 then a k else am (k - 19)) = a k := fun k hk => if_pos hk
  have fm : ∀ k, k < 16 → (if 19 + k < 19 then a (19 + k) else am (19 + k - 19)) = am k := fun k hk => by rw [if_neg (by omega), Nat.add_sub_cancel_left]
  have hMI : MI G am H1 z0 := ⟨⟨fun i j hi hj9 e9 => by have := hin.1 (19 + i) (19 + j) (by omega) (by omega) ((fm i hi).trans (e9.trans (fm j hj9).symm)); omega, fun i hi => by have := hin.2 (19 + i) (by omega); rw [fm i hi] at this; exact this⟩, _, _, _, _, _, _, _, _, QM, hP1⟩
  have hFI : FI G am a H1 z0 := ⟨_, _, _, _, _, _, _, _, _, fun _ _ => 0, pu0, Q, vaP_l hj.1, ⟨fun i j hi hj9 e9 => hin.1 i j (by omega) (by omega) ((fa i hi).trans (e9.trans (fa j hj9).symm)), fun i hi => ⟨by have := hin.2 i (by omega); rw [fa i hi] at this; exact this, fun k hk e9 => by have := hin.1 i (19 + k) (by omega) (by omega) ((fa i hi).trans (e9.trans (fm k hk).symm)); omega⟩, fun i hi => absurd (show i < 0 from hi) (by omega), fun i j hi => absurd (show i < 0 from hi) (by omega)⟩, fun i hi => absurd (show i < 0 from hi) (by omega)⟩
  rw [← ham0]
  refine W.widen (k := 35) (n := 20370) (by omega) (by omega) ?_
  refine lv_astore_n (lv' := [(2, .ref (am 0)), (1, .ref (a 0)), (0, .ref b)]) hx hb d_law_15 rfl hl (by decide) rfl (fun ls hl => ?_)
  refine lv_iconst (v := 0) hx hb d_law_16 (by decide) ?_
  refine lv_istore_n (lv' := [(3, .int 0), (2, .ref (am 0)), (1, .ref (a 0)), (0, .ref b)]) hx hb d_law_17 rfl hl (by decide) rfl (fun ls hl => ?_)
  exact law_loop E hL (L + 1) 0 (Nat.zero_le _) (by omega) z0 H1 _ 35 20370 ls VS_z0 hFI hMI hS rfl rfl (lv_sub hl [3, 2, 1, 0] rfl)
