-- ===== end of PART A; then your names; then what follows =====
/-! THE CLAIM OUT OF ONE WALK OF THE LAW'S BODY. Your part is whole_start (and what it stands on); all else here is the same for every law, but numbers. -/
def R_law : String := "SignatureForestLaw"
def lw_P (b : Addr) (xs : List Int32) (args : Array Value) (s : State) : Prop := args = #[.ref b] ∧ s.IntsAt b xs ∧ xs.length ≤ 2048 ∧ (Jvm.Cond.and given_1 narrow_1).before args s = true
def lw_Q (_ : Array Value) (s : State) (o : Outcome) (t : State) : Prop := o = .returned (some (.int 1)) ∧ Framed s o t [] 600000 7302250
def lw_Z (below : List Frame) (a : Array Value) (s : State) : State → Prop := fun t => ∃ o, t.status = .running ∧ Ended t below o ∧ lw_Q a s o t
/-- the law's own end, with 1 on the stack, nothing written that was there before, its room as the claim has it -/
theorem lw_ret {p : Program} {l : Launch} {e : Env} {s : State} {m : MethodId} {below : List Frame} {meth : Method} {c : Code} {b : Nat} (hx : p.tables.exec = Jvm.exec) (hb : c.code = code) (hr : meth.sig.returnType = ret) (hlocks : meth.locks = false) {pc : Nat} {H : Heap} {ls : Array Slot} (hdg : decode code pc = .ok (.ireturn, 1)) : W p l e room_1 s m #[Value.ref b] below meth c H [] 600000 7302250 (lw_Z below #[Value.ref b] s) (F0 m pc ls [.int 1]) := by
  intro T hT X
  obtain ⟨fs, hret, hrun, hended, hW, hframe⟩ := X.leave (v := some (.int 1)) (hlocks := hlocks) (fun h => by rw [hr] at h; cases h)
  have hmeth' : T.vm.method? m = some meth := X.method'
  refine ⟨T.setFrames fs, ?_, .returned (some (.int 1)), hrun, hended, rfl, ⟨_, rfl⟩, hW, hframe⟩
  jvm_step X.here [X.here.top, hx, hb, hdg, hmeth', hr, ret, narrow_b1]
  (try refine ⟨rfl, ?_⟩); (try refine ⟨rfl, ?_⟩)
  first | (intro acts; rw [hret _ acts rfl rfl rfl]) | rw [hret _ _ rfl rfl rfl]
  exact Steps.refl _
/-- what holds at the law's entry: the machine, the code, the tables' words (any of lw_tbl by 'hts w (by decide +kernel)'), the script of L ints xs at the cell b, what the Statement gives of the start (any of its parts by flat_of_before) -/
def lw_At (p : Program) (s : State) (m : MethodId) (meth : Method) (c : Code) (b L : Nat) (xs : Nat → Int32) : Prop :=
  p.tables.exec = Jvm.exec ∧ c.code = code ∧ meth.sig.returnType = ret ∧ c.maxLocals = 4 ∧ s.vm.findClass R_law = some m.cls ∧ (∀ w ∈ lw_tbl, w.before #[Value.ref b] s = true) ∧ va_X b L xs s s.heap ∧ b < s.heap.size ∧ meth.locks = false ∧ (Jvm.Cond.and given_1 narrow_1).before #[Value.ref b] s = true
/-! the law's world: the forest's cells, the signatures', the reference's -/
abbrev WL (p : Program) (l : Launch) (e : Env) (s : State) (m : MethodId) (below : List Frame) (meth : Method) (c : Code) (b : Nat) (H : Heap) (locs : List Loc) (ce sl pc : Nat) (ls : Array Slot) (st : List Value) : Prop :=
  W p l e room_1 s m #[Value.ref b] below meth c H locs ce sl (lw_Z below #[Value.ref b] s) (F0 m pc ls st)
def LE (p : Program) (s : State) (m : MethodId) (meth : Method) (c : Code) (b L : Nat) (xs : Nat → Int32) (G : GX) : Prop := lw_At p s m meth c b L xs ∧ CX G s ∧ G.2.2.1 = s.heap.size
def fcs (G : GX) (a : Nat → Nat) (uF : FoC) (uL uD : RowC) (uR : RdC) (uS : SkC) (uH : ShC) (uE uO : RowC) (uM : MaC) : va_W :=
  [(a 0, .inr (6, [.ref (a 1), .ref (a 3), .ref (a 5), .ref (a 9), .ref (a 10), .ref (a 12), .ref (a 15), .ref (a 18), .int (foC uF)])),
   (a 1, .inr (2, [.ref (a 2), .int (rwS uL)])), (a 2, .inl (G.2.1 0, rwN uL, .inl (rwF uL))),
   (a 3, .inr (2, [.ref (a 4), .int (rwS uD)])), (a 4, .inl (G.2.1 0, rwN uD, .inl (rwF uD))),
   (a 5, .inr (1, [.ref (a 6), .ref (a 7), .ref (a 8), .int (rdC uR), .int (rdK uR), .int (rdX uR), .int (rdD uR), .int (rdL uR)])), (a 6, .inl (G.2.1 1, rdN uR, .inl (rdR uR))), (a 7, .inl (G.2.1 1, rdN uR, .inl (rdB uR))), (a 8, .inl (G.2.1 1, rdN uR, .inl (rdE uR))),
   (a 9, .inr (3, [.int (skW uS), .int (skP uS), .int (skF uS)])),
   (a 10, .inr (4, [.ref (a 11), .int (shD uH), .int (shC uH), .int (shT uH)])), (a 11, .inl (G.2.1 1, shN uH, .inl (shF uH))),
   (a 12, .inr (0, [.ref (a 13)])), (a 13, .inr (2, [.ref (a 14), .int (rwS uE)])), (a 14, .inl (G.2.1 0, rwN uE, .inl (rwF uE))),
   (a 15, .inr (0, [.ref (a 16)])), (a 16, .inr (2, [.ref (a 17), .int (rwS uO)])), (a 17, .inl (G.2.1 0, rwN uO, .inl (rwF uO))),
   (a 18, .inl (G.2.1 2, maN uM, .inr (.inr (.inr (.inr (maF uM))))))]
def scs (G : GX) (a : Nat → Nat) (u : SgC) : va_W :=
  [(a 0, .inr (5, [.int (sgK u), .ref (a 1), .ref (a 2), .ref (a 3), .ref (a 4), .int (sgO u), .int (sgP u)])), (a 1, .inl (G.2.1 0, sgN u, .inl (sgL u))), (a 2, .inl (G.2.1 1, sgN u, .inl (sgR u))), (a 3, .inl (G.2.1 1, sgM u, .inl (sgB u))), (a 4, .inl (G.2.1 1, sgM u, .inl (sgE u)))]
def mcs (G : GX) (a : Nat → Nat) (u : MoC) (ln : IaC) (X : XA) (x5 st o p : IaC) (m : ZaC) : va_W :=
  [(a 0, .inr (7, [.ref (a 1), .int (moN u), .ref (a 2), .ref (a 3), .ref (a 4), .ref (a 5), .ref (a 6), .ref (a 7), .ref (a 8), .ref (a 9), .ref (a 10), .ref (a 11), .int (moM u), .ref (a 12), .int (moT u), .ref (a 13), .int (moW u), .ref (a 14), .ref (a 15), .int (moG u), .int (moS u), .int (moI u)])),
   (a 1, .inl (G.2.1 1, iaN ln, .inl (iaF ln))), (a 2, .inl (G.2.1 1, iaN X.1, .inl (iaF X.1))), (a 3, .inl (G.2.1 1, iaN X.2.1, .inl (iaF X.2.1))), (a 4, .inl (G.2.1 1, iaN X.2.2.1, .inl (iaF X.2.2.1))), (a 5, .inl (G.2.1 1, iaN X.2.2.2.1, .inl (iaF X.2.2.2.1))), (a 6, .inl (G.2.1 1, iaN x5, .inl (iaF x5))),
   (a 7, .inl (G.2.1 1, iaN X.2.2.2.2.1, .inl (iaF X.2.2.2.2.1))), (a 8, .inl (G.2.1 1, iaN X.2.2.2.2.2.1, .inl (iaF X.2.2.2.2.2.1))), (a 9, .inl (G.2.1 1, iaN X.2.2.2.2.2.2.1, .inl (iaF X.2.2.2.2.2.2.1))), (a 10, .inl (G.2.1 1, iaN X.2.2.2.2.2.2.2.1, .inl (iaF X.2.2.2.2.2.2.2.1))), (a 11, .inl (G.2.1 1, iaN X.2.2.2.2.2.2.2.2, .inl (iaF X.2.2.2.2.2.2.2.2))),
   (a 12, .inl (G.2.1 1, iaN st, .inl (iaF st))), (a 13, .inl (G.2.1 1, iaN o, .inl (iaF o))), (a 14, .inl (G.2.1 1, iaN p, .inl (iaF p))), (a 15, .inl (G.2.1 3, zaN m, .inl (zaF m)))]
def fA (G : GX) (am : Nat → Nat) (q : Nat) : Prop := G.2.2.1 ≤ q ∧ ∀ k, k < 16 → q ≠ am k
/-- the addresses are apart -/
def Dj (G : GX) (am a : Nat → Nat) (pa : Nat → Nat → Nat) (M : Nat) : Prop :=
  (∀ i j, i < 19 → j < 19 → a i = a j → i = j) ∧ (∀ i, i < 19 → fA G am (a i)) ∧
  (∀ i, i < M → (∀ j k, j < 5 → k < 5 → pa i j = pa i k → j = k) ∧ (∀ j, j < 5 → fA G am (pa i j)) ∧ ∀ k j, k < 19 → j < 5 → a k ≠ pa i j) ∧
  ∀ i j, i < M → j < M → i ≠ j → ∀ k r, k < 5 → r < 5 → pa i k ≠ pa j r
/-- ws has its cells at a 0 .. a (n-1) -/
def Ads (ws : va_W) (n : Nat) (a : Nat → Nat) : Prop := ws.map (fun q => q.1) = (List.range n).map a
theorem Ads.at {ws : va_W} {n : Nat} {a : Nat → Nat} (h : Ads ws n a) {k : Nat} {q : Nat × va_E} (hk : ws[k]? = some q) : k < n ∧ q.1 = a k := by
  have h1 : (ws.map (fun q => q.1))[k]? = some q.1 := by rw [List.getElem?_map, hk]; rfl
  rw [h, List.getElem?_map] at h1
  cases h2 : (List.range n)[k]? with
  | none => rw [h2] at h1; cases h1
  | some i =>
    rw [h2] at h1
    have h3 := List.getElem?_eq_some_iff.mp h2
    obtain ⟨h4, h5⟩ := h3
    have h6 : k < n := by simpa using h4
    rw [List.getElem_range] at h5
    subst h5
    exact ⟨h6, (Option.some.inj h1).symm⟩
theorem Ads.D {ws : va_W} {n : Nat} {a : Nat → Nat} {A : Nat → Prop} (h : Ads ws n a) (hi : ∀ i j, i < n → j < n → a i = a j → i = j) (hA : ∀ i, i < n → A (a i)) : va_D A ws := by
  refine ⟨fun i j p q hp hq e => ?_, fun k q hk => ?_⟩
  · obtain ⟨h1, h2⟩ := h.at hp
    obtain ⟨h3, h4⟩ := h.at hq
    exact hi i j h1 h3 (by rw [← h2, ← h4]; exact e)
  · obtain ⟨h1, h2⟩ := h.at hk
    rw [h2]
    exact hA k h1
theorem Ads.ap {ws vs : va_W} {n m : Nat} {a b : Nat → Nat} (h : Ads ws n a) (g : Ads vs m b) (hd : ∀ i j, i < n → j < m → a i ≠ b j) : mw_ap ws vs := by
  intro i j p q hp hq e
  obtain ⟨h1, h2⟩ := h.at hp
  obtain ⟨h3, h4⟩ := g.at hq
  exact hd i j h1 h3 (by rw [← h2, ← h4]; exact e)
theorem ads_f {G : GX} {a : Nat → Nat} {uF : FoC} {uL uD : RowC} {uR : RdC} {uS : SkC} {uH : ShC} {uE uO : RowC} {uM : MaC} : Ads (fcs G a uF uL uD uR uS uH uE uO uM) 19 a := rfl
theorem ads_s {G : GX} {a : Nat → Nat} {u : SgC} : Ads (scs G a u) 5 a := rfl
theorem ads_m {G : GX} {a : Nat → Nat} {u : MoC} {ln : IaC} {X : XA} {x5 st o p : IaC} {m : ZaC} : Ads (mcs G a u ln X x5 st o p m) 16 a := rfl
theorem mw_ap.sub {ws vs wc : va_W} (h : mw_ap ws vs) (is : List Nat) (hs : is.map (fun i => ws[i]?) = wc.map some) : mw_ap wc vs := by
  intro i j p q hp hq e
  obtain ⟨k, -, h2⟩ := mw_at hs hp
  exact h k j p q h2 hq e
/-- a part of such cells -/
def Sb (wc : va_W) (n : Nat) (a : Nat → Nat) : Prop := ∀ (k : Nat) (q : Nat × va_E), wc[k]? = some q → ∃ i, i < n ∧ q.1 = a i
theorem Ads.sb {ws wc : va_W} {n : Nat} {a : Nat → Nat} (h : Ads ws n a) (is : List Nat) (hs : is.map (fun i => ws[i]?) = wc.map some) : Sb wc n a := by
  intro k q hk
  obtain ⟨i, -, h2⟩ := mw_at hs hk
  exact ⟨i, h.at h2⟩
/-- what stays when cells of wc alone may have changed -/
theorem kpW {D : va_G} {cl : List vw_C} {ws wc : va_W} {n m : Nat} {a b : Nat → Nat} {H H1 : Heap} (h : va_P D cl ws H) (ha : Ads ws n a) (hw : Sb wc m b) (hd : ∀ i j, i < n → j < m → a i ≠ b j) (hk : ∀ q : Nat, q < H.size → ¬ va_A wc H.size q → H1[q]? = H[q]?) : va_P D cl ws H1 := by
  refine h.kept (fun k q hq => ?_)
  have hl := (h k q hq).lt
  refine hk q.1 hl (fun z => ?_)
  rcases z with ⟨j, e, hj⟩ | z
  · obtain ⟨i, h1, h2⟩ := hw j _ hj
    obtain ⟨h3, h4⟩ := ha.at hq
    exact hd k i h3 h1 (by rw [← h4]; exact h2)
  · omega
def MI (G : GX) (am : Nat → Nat) (H : Heap) (z : ST) : Prop := ((∀ i j, i < 16 → j < 16 → am i = am j → i = j) ∧ ∀ i, i < 16 → G.2.2.1 ≤ am i) ∧ ∃ u ln X x5 st o p m, MZ u ln X x5 st o p m z ∧ va_P G.1 vwCl (mcs G am u ln X x5 st o p m) H
def FI (G : GX) (am a : Nat → Nat) (H : Heap) (z : ST) : Prop := ∃ uF uL uD uR uS uH uE uO uM, ∃ (pa : Nat → Nat → Nat) (pu : Nat → SgC), FQ uF uL uD uR uH uE uO uM (fun i => pa i 0) pu z ∧ va_P G.1 vwCl (fcs G a uF uL uD uR uS uH uE uO uM) H ∧ Dj G am a pa (zM z) ∧ ∀ i, i < zM z → va_P G.1 vwCl (scs G (pa i) (pu i)) H
theorem MI.kp {G : GX} {am : Nat → Nat} {H H1 : Heap} {z : ST} {wc : va_W} {n : Nat} {b : Nat → Nat} (h : MI G am H z) (hw : Sb wc n b) (hd : ∀ i, i < n → fA G am (b i)) (hk : ∀ q : Nat, q < H.size → ¬ va_A wc H.size q → H1[q]? = H[q]?) : MI G am H1 z := by
  obtain ⟨h0, u, ln, X, x5, st, o, p, m, h1, h2⟩ := h
  exact ⟨h0, u, ln, X, x5, st, o, p, m, h1, kpW h2 ads_m hw (fun i j hi hj e => (hd j hj).2 i hi e.symm) hk⟩
theorem FI.kp {G : GX} {am a : Nat → Nat} {H H1 : Heap} {z : ST} {wc : va_W} (h : FI G am a H z) (hw : Sb wc 16 am) (hk : ∀ q : Nat, q < H.size → ¬ va_A wc H.size q → H1[q]? = H[q]?) : FI G am a H1 z := by
  obtain ⟨uF, uL, uD, uR, uS, uH, uE, uO, uM, pa, pu, h1, h2, h3, h4⟩ := h
  exact ⟨uF, uL, uD, uR, uS, uH, uE, uO, uM, pa, pu, h1, kpW h2 ads_f hw (fun i j hi hj e => (h3.2.1 i hi).2 j hj e) hk, h3, fun i hi => kpW (h4 i hi) ads_s hw (fun k j hk hj e => ((h3.2.2.1 i hi).2.1 k hk).2 j hj e) hk⟩
theorem pool_kp {G : GX} {am a : Nat → Nat} {pa : Nat → Nat → Nat} {M : Nat} {H H1 : Heap} {wc : va_W} {pu : Nat → SgC} (h3 : Dj G am a pa M) (h4 : ∀ i, i < M → va_P G.1 vwCl (scs G (pa i) (pu i)) H) (hw : Sb wc 19 a) (hk : ∀ q : Nat, q < H.size → ¬ va_A wc H.size q → H1[q]? = H[q]?) : ∀ i, i < M → va_P G.1 vwCl (scs G (pa i) (pu i)) H1 :=
  fun i hi => kpW (h4 i hi) ads_s hw (fun k j hk hj e => (h3.2.2.1 i hi).2.2 j k hj hk e.symm) hk
theorem vaP_l {D : va_G} {cl : List vw_C} {w v : va_W} {H : Heap} (h : va_P D cl (w ++ v) H) : va_P D cl w H := fun k q hk => h k q (by rw [List.getElem?_append_left (List.getElem?_eq_some_iff.mp hk).1]; exact hk)
theorem vaP_r {D : va_G} {cl : List vw_C} {w v : va_W} {H : Heap} (h : va_P D cl (w ++ v) H) : va_P D cl v H := fun k q hk => h (w.length + k) q (by rw [List.getElem?_append_right (by omega), Nat.add_sub_cancel_left]; exact hk)
/-- new cells are new -/
theorem new_ge {wc w0 ns : va_W} {sz : Nat} (h : va_D (va_A wc sz) (w0 ++ ns)) (hs : w0.map (fun q => q.1) = wc.map (fun q => q.1)) {j : Nat} {q : Nat × va_E} (hj : ns[j]? = some q) : sz ≤ q.1 := by
  have hj' : (w0 ++ ns)[w0.length + j]? = some q := by rw [List.getElem?_append_right (by omega), Nat.add_sub_cancel_left]; exact hj
  rcases h.2 _ q hj' with ⟨k, e, hk⟩ | z
  · have h1 : (wc.map (fun q => q.1))[k]? = some q.1 := by rw [List.getElem?_map, hk]; rfl
    rw [← hs, List.getElem?_map] at h1
    cases h2 : w0[k]? with
    | none => rw [h2] at h1; cases h1
    | some p =>
      rw [h2] at h1
      have hl := (List.getElem?_eq_some_iff.mp h2).1
      have h3 : (w0 ++ ns)[k]? = some p := by rw [List.getElem?_append_left hl]; exact h2
      have h4 := h.1 k (w0.length + j) p q h3 hj' (Option.some.inj h1)
      omega
  · exact z
/-- the addresses with a new signature's -/
def paN (pa : Nat → Nat → Nat) (M : Nat) (nq : Nat → Nat) : Nat → Nat → Nat := fun i => if i = M then nq else pa i
theorem Dj.push {G : GX} {am a nq : Nat → Nat} {pa : Nat → Nat → Nat} {M sz : Nat} {wc w0 : va_W} {u : SgC} (h : Dj G am a pa M) (hB : G.2.2.1 ≤ sz) (hm : ∀ k, k < 16 → am k < sz) (hf : ∀ k, k < 19 → a k < sz) (hp : ∀ i k, i < M → k < 5 → pa i k < sz) (hD : va_D (va_A wc sz) (w0 ++ scs G nq u)) (hs : w0.map (fun q => q.1) = wc.map (fun q => q.1)) : Dj G am a (paN pa M nq) (M + 1) := by
  have ge : ∀ j, j < 5 → sz ≤ nq j := by
    intro j hj
    match j, hj with
    | 0, _ => exact new_ge hD hs (j := 0) rfl
    | 1, _ => exact new_ge hD hs (j := 1) rfl
    | 2, _ => exact new_ge hD hs (j := 2) rfl
    | 3, _ => exact new_ge hD hs (j := 3) rfl
    | 4, _ => exact new_ge hD hs (j := 4) rfl
  have cell : ∀ j, j < 5 → ∃ e, (w0 ++ scs G nq u)[w0.length + j]? = some (nq j, e) := by
    intro j hj
    rw [List.getElem?_append_right (by omega), Nat.add_sub_cancel_left]
    match j, hj with
    | 0, _ => exact ⟨_, rfl⟩
    | 1, _ => exact ⟨_, rfl⟩
    | 2, _ => exact ⟨_, rfl⟩
    | 3, _ => exact ⟨_, rfl⟩
    | 4, _ => exact ⟨_, rfl⟩
  obtain ⟨d1, d2, d3, d4⟩ := h
  refine ⟨d1, d2, fun i hi => ?_, fun i j hi hj hij k r hk hr => ?_⟩
  · unfold paN
    by_cases e : i = M
    · rw [if_pos e]
      refine ⟨fun j k hj hk e2 => ?_, fun j hj => ⟨Nat.le_trans hB (ge j hj), fun k hk e2 => ?_⟩, fun k j hk hj e2 => ?_⟩
      · obtain ⟨x, hx⟩ := cell j hj
        obtain ⟨y, hy⟩ := cell k hk
        have := hD.1 _ _ _ _ hx hy e2
        omega
      · have := ge j hj
        have := hm k hk
        omega
      · have := ge j hj
        have := hf k hk
        omega
    · rw [if_neg e]
      exact d3 i (by omega)
  · unfold paN
    by_cases e : i = M
    · rw [if_pos e, if_neg (by omega)]
      intro e2
      have := ge k hk
      have := hp j r (by omega) hr
      omega
    · rw [if_neg e]
      by_cases e2 : j = M
      · rw [if_pos e2]
        intro e3
        have := ge r hr
        have := hp i k (by omega) hk
        omega
      · rw [if_neg e2]
        exact d4 i j (by omega) (by omega) hij k r hk hr
theorem Ads.lt {D : va_G} {cl : List vw_C} {ws : va_W} {n : Nat} {a : Nat → Nat} {H : Heap} (h : Ads ws n a) (hP : va_P D cl ws H) {k : Nat} (hk : k < n) : a k < H.size := by
  have h1 : ((List.range n).map a)[k]? = some (a k) := by
    rw [List.getElem?_map, List.getElem?_eq_getElem (by simpa using hk), List.getElem_range]
    rfl
  rw [← h, List.getElem?_map] at h1
  cases h2 : ws[k]? with
  | none => rw [h2] at h1; cases h1
  | some q =>
    rw [h2] at h1
    rw [← Option.some.inj h1]
    exact (hP k q h2).lt
section CALLS
variable {p : Program} {l : Launch} {e : Env} {s : State} {m : MethodId} {below : List Frame} {meth : Method} {c : Code} {b L : Nat} {xs : Nat → Int32} {G : GX} {H : Heap} {locs : List Loc} {ce sl pc : Nat} {ls : Array Slot}
variable {C : String} {y : MethodName} {bytes : ByteArray} {maxL n idx a mc ms : Nat} {rt : Option FieldType} {ws : List Cond} {rm : Room} {As rest : List Value} {rw_ ro : va_W}
theorem lP {post : Int32 → Prop} (E : LE p s m meth c b L xs G) (hM : Met l y ws rm (mP G (.ref a :: As) ro) (vp_Si post) 0 0 (fun _ => False)) (cw : CallW room_1 s #[Value.ref b] R_law C idx y bytes maxL rt ws rm 0 0 n) (hrec : ∃ cell : Cell, H[a]? = some cell ∧ cell.vm.isStatics = false ∧ s.vm.findClass C = some cell.cls) (hR : va_P G.1 vwCl ro H) (hS : va_S (fun q => G.2.2.1 ≤ q) s.heap H locs)
    (hn : As.length = n) (hl : ls.size = 4) (hw : (rest.map fun v => v.category).sum ≤ 8) (hdg : decode code pc = .ok (.invokevirtual idx, 3)) (hf : ce + 0 ≤ room_1.cells ∧ sl + 0 ≤ room_1.slots) (kk : ∀ r, post r → WL p l e s m below meth c b H locs ce sl (pc + 3) ls (.int r :: rest)) : WL p l e s m below meth c b H locs ce sl pc ls (As.reverse ++ .ref a :: rest) := by
  obtain ⟨⟨hx, hb, hr, hml, hown, hts, hX, hbl, hlocks, hgv⟩, hC, hB⟩ := E
  exact vp_callSi (va_runV (As := As) (rest := rest) ⟨hx, hb, hml, hown, hts⟩ hM cw ⟨mP_blind, hrec, fun U hU hW => ⟨rfl, hC.to hW hU hS (fun _ h => h), by rw [hU]; exact hR⟩⟩ rfl hn hl rfl (lv_room hw) hdg hf).run (fun r h => kk r h)
theorem lM {S : Type} {post : Int32 → S → Prop} {Bq : S → State → Prop} (E : LE p s m meth c b L xs G) (hM : Met l y ws rm (mW G (.ref a :: As) H.size rw_ ro) (va_Qi post Bq (va_A rw_ H.size)) mc ms (va_A rw_ H.size)) (cw : CallW room_1 s #[Value.ref b] R_law C idx y bytes maxL rt ws rm mc ms n) (hrec : ∃ cell : Cell, H[a]? = some cell ∧ cell.vm.isStatics = false ∧ s.vm.findClass C = some cell.cls) (hP : va_P G.1 vwCl rw_ H) (hD : va_D (fun q => G.2.2.1 ≤ q) rw_) (hR : va_P G.1 vwCl ro H) (hQ : mw_ap rw_ ro) (hS : va_S (fun q => G.2.2.1 ≤ q) s.heap H locs)
    (hn : As.length = n) (hl : ls.size = 4) (hw : (rest.map fun v => v.category).sum ≤ 8) (hdg : decode code pc = .ok (.invokevirtual idx, 3)) (hf : ce + mc ≤ room_1.cells ∧ sl + ms ≤ room_1.slots)
    (kk : ∀ (r : Int32) (u : S) (t : State) (H1 : Heap) (locs1 : List Loc), t.heap = H1 → post r u → Bq u t → H.size ≤ H1.size → (∀ q : Nat, q < H.size → ¬ va_A rw_ H.size q → H1[q]? = H[q]?) → va_S (fun q => G.2.2.1 ≤ q) s.heap H1 locs1 → WL p l e s m below meth c b H1 locs1 (ce + mc) (sl + ms) (pc + 3) ls (.int r :: rest)) : WL p l e s m below meth c b H locs ce sl pc ls (As.reverse ++ .ref a :: rest) := by
  obtain ⟨⟨hx, hb, hr, hml, hown, hts, hX, hbl, hlocks, hgv⟩, hC, hB⟩ := E
  have hAB : ∀ q : Nat, va_A rw_ H.size q → G.2.2.1 ≤ q := by
    rintro q (⟨k, e, hk⟩ | h)
    · exact hD.2 k _ hk
    · exact Nat.le_trans (Nat.le_trans hC.2.2.2.1 hS.1) h
  exact va_calli (va_runV (As := As) (rest := rest) ⟨hx, hb, hml, hown, hts⟩ hM cw ⟨mW_blind, hrec, fun U hU hW => ⟨rfl, hC.to hW hU hS (fun _ h => h), by rw [hU], by rw [hU]; exact hP, hD, by rw [hU]; exact hR, hQ⟩⟩ rfl hn hl rfl (lv_room hw) hdg hf) hS (fun q _ h => hAB q h) hAB (fun r u t H1 locs1 ht hvm h hB2 hz1 hk1 hS1 => kk r u t H1 locs1 ht h hB2 hz1 hk1 hS1)
theorem lV {S : Type} {post : S → Prop} {Bq : S → State → Prop} (E : LE p s m meth c b L xs G) (hM : Met l y ws rm (mW G (.ref a :: As) H.size rw_ ro) (va_Qv post Bq (va_A rw_ H.size)) mc ms (va_A rw_ H.size)) (cw : CallW room_1 s #[Value.ref b] R_law C idx y bytes maxL rt ws rm mc ms n) (hrec : ∃ cell : Cell, H[a]? = some cell ∧ cell.vm.isStatics = false ∧ s.vm.findClass C = some cell.cls) (hP : va_P G.1 vwCl rw_ H) (hD : va_D (fun q => G.2.2.1 ≤ q) rw_) (hR : va_P G.1 vwCl ro H) (hQ : mw_ap rw_ ro) (hS : va_S (fun q => G.2.2.1 ≤ q) s.heap H locs)
    (hn : As.length = n) (hl : ls.size = 4) (hw : (rest.map fun v => v.category).sum ≤ 8) (hdg : decode code pc = .ok (.invokevirtual idx, 3)) (hf : ce + mc ≤ room_1.cells ∧ sl + ms ≤ room_1.slots)
    (kk : ∀ (u : S) (t : State) (H1 : Heap) (locs1 : List Loc), t.heap = H1 → post u → Bq u t → H.size ≤ H1.size → (∀ q : Nat, q < H.size → ¬ va_A rw_ H.size q → H1[q]? = H[q]?) → va_S (fun q => G.2.2.1 ≤ q) s.heap H1 locs1 → WL p l e s m below meth c b H1 locs1 (ce + mc) (sl + ms) (pc + 3) ls rest) : WL p l e s m below meth c b H locs ce sl pc ls (As.reverse ++ .ref a :: rest) := by
  obtain ⟨⟨hx, hb, hr, hml, hown, hts, hX, hbl, hlocks, hgv⟩, hC, hB⟩ := E
  have hAB : ∀ q : Nat, va_A rw_ H.size q → G.2.2.1 ≤ q := by
    rintro q (⟨k, e, hk⟩ | h)
    · exact hD.2 k _ hk
    · exact Nat.le_trans (Nat.le_trans hC.2.2.2.1 hS.1) h
  exact va_callv (va_runV (As := As) (rest := rest) ⟨hx, hb, hml, hown, hts⟩ hM cw ⟨mW_blind, hrec, fun U hU hW => ⟨rfl, hC.to hW hU hS (fun _ h => h), by rw [hU], by rw [hU]; exact hP, hD, by rw [hU]; exact hR, hQ⟩⟩ rfl hn hl rfl (lv_room hw) hdg hf) hS (fun q _ h => hAB q h) hAB (fun u t H1 locs1 ht hvm h hB2 hz1 hk1 hS1 => kk u t H1 locs1 ht h hB2 hz1 hk1 hS1)
end CALLS
