/-! THE CLAIM OUT OF ONE WALK OF THE LAW'S BODY. Your part is whole_start (and what it stands on); all else here is the same for every law, but numbers. -/
def R_law : String := "KingPricesLaw"
def lw_P (b : Addr) (xs : List Int32) (args : Array Value) (s : State) : Prop := args = #[.ref b] ∧ s.IntsAt b xs ∧ xs.length ≤ 256 ∧ (Jvm.Cond.and given_1 narrow_1).before args s = true
def lw_Q (_ : Array Value) (s : State) (o : Outcome) (t : State) : Prop := o = .returned (some (.int 1)) ∧ Framed s o t [] 600000 7302250
def lw_Z (below : List Frame) (a : Array Value) (s : State) : State → Prop := fun t => ∃ o, t.status = .running ∧ Ended t below o ∧ lw_Q a s o t
/-- the law's own end, with 1 on the stack, nothing written that was there before, its room as the claim has it -/
theorem lw_ret {p : Program} {l : Launch} {e : Env} {s : State} {m : MethodId} {below : List Frame} {meth : Method} {c : Code} {b : Nat} (hx : p.tables.exec = Jvm.exec) (hb : c.code = code) (hr : meth.sig.returnType = ret) (hlocks : meth.locks = false) {pc : Nat} {H : Heap} {ls : Array Slot} (hdg : decode code pc = .ok (.ireturn, 1)) : W p l e room_1 s m #[Value.ref b] below meth c H [] 600000 7302250 (lw_Z below #[Value.ref b] s) (F0 m pc ls [.int 1]) := by
  intro T hT X
  obtain ⟨fs, hret, hrun, hended, hW, hframe⟩ := X.leave (v := some (.int 1)) (hlocks := hlocks) (fun h => by rw [hr] at h; cases h)
  have hmeth' : T.vm.method? m = some meth := X.method'
  refine ⟨T.setFrames fs, ?_, .returned (some (.int 1)), hrun, hended, rfl, ⟨_, rfl⟩, hW, hframe⟩
  jvm_step X.here [X.here.top, hx, hb, hdg, hmeth', hr, ret, narrow_b1]
  (try refine ⟨rfl, ?_⟩); (try refine ⟨rfl, ?_⟩)
  first | (intro acts; rw [hret _ acts rfl rfl rfl]) | rw [hret _ _ rfl rfl rfl]
  exact Steps.refl _
/-- what holds at the law's entry: the machine, the code, the tables' words (any of lw_tbl by 'hts w (by decide +kernel)'), the script of L ints xs at the cell b, what the Statement gives of the start (any of its parts by flat_of_before) -/
def lw_At (p : Program) (s : State) (m : MethodId) (meth : Method) (c : Code) (b L : Nat) (xs : Nat → Int32) : Prop :=
  p.tables.exec = Jvm.exec ∧ c.code = code ∧ meth.sig.returnType = ret ∧ c.maxLocals = 4 ∧ s.vm.findClass R_law = some m.cls ∧ (∀ w ∈ lw_tbl, w.before #[Value.ref b] s = true) ∧ va_X b L xs s s.heap ∧ b < s.heap.size ∧ meth.locks = false ∧ (Jvm.Cond.and given_1 narrow_1).before #[Value.ref b] s = true
/-- where the makings end -/
def zGl (X : zS) : zG := fun p l e R s m args below meth c Qf ad tA D A base =>
  ∀ (H : Heap) (locs : List Loc) (ls : Array Slot), va_P D vwCl (zw ad tA (wd X)) H → va_D A (zw ad tA (wd X)) → va_S A s.heap H locs → lv_has ls 4 (zl ad [(0, .ref 1002), (1, .ref 0), (2, .ref 31), (3, .int 0)]) → W p l e R s m args below meth c H locs 44 2699 Qf (F0 m 18 ls [])
theorem za_sub {d mc ms : Nat} {y : MethodName} {cc : ByteArray} {nL : Nat} {G : zG} {pc : Nat} {L : List (Nat × Value)} {st : List Value} {h : List va_E} {n k : Nat} (L' : List (Nat × Value)) (hs : zsub L' L) (kk : zVA d mc ms y cc nL G pc L' st h n k) : zVA d mc ms y cc nL G pc L st h n k := by
  intro p l e R s m args below meth c Qf ad tA D A base hH hG H locs ls hP hD hS hl hz hn
  refine kk hH hG H locs ls hP hD hS ⟨hl.1, hl.2.1, fun q hq => hl.2.2 q ?_⟩ hz hn
  obtain ⟨q0, h1, h2⟩ := List.mem_map.mp hq
  exact List.mem_map.mpr ⟨q0, zsub_mem hs q0 h1, h2⟩
theorem law_make {E F B T1 X : zS} (hE : f_X0_empty Z0 17 = some E) (hF : f_X0_empty Z0 24 = some F) (hB : f_X2_begin (zmix E F) 3 17 = some B) (h1 : f_X6_plain (zmix2 B) = some T1) (h2 : f_X6_takeDraft T1 = some X) :
    zVA (20 + 1) 44 2699 x cL_law 4 (zGl X) 0 [(0, .ref 1002)] [] [] 0 0 := by
  refine za_new (ci := 5) (r := 0) (fs := zz5) (ty := tyX5) (h2 := [.inr (5, zz5)]) dL_law_0 rfl zinX5 tyX5_ok zn_L_7 zz5_ok (fun _ => rfl) (by decide) (by decide) rfl (by decide) rfl ?_
  refine za_dup dL_law_3 rfl ?_
  refine za_init (h2 := wk B) (mc2 := 30) (ms2 := 1367) (n2 := 31) (k2 := 1377) dL_law_4 (Or.inl zk_L_9) zm_X5_init rfl (i_X5 18 (by decide) hE hF hB) rfl (Nat.le_of_ble_eq_true rfl) (by decide) (by decide) rfl rfl ?_
  refine za_astore_n dL_law_7 rfl (by decide) ?_
  refine za_new (ci := 6) (r := 31) (fs := zz6) (ty := tyX6) (h2 := wk B ++ [.inr (6, zz6)]) dL_law_8 rfl zinX6 tyX6_ok zn_L_10 zz6_ok (fun _ => rfl) (by decide) (by decide) rfl (by decide) rfl ?_
  refine za_dup dL_law_11 rfl ?_
  refine za_init (h2 := wd X) (mc2 := 12) (ms2 := 1299) (n2 := 44) (k2 := 2699) dL_law_12 (Or.inl zk_L_12) zm_X6_init rfl (i_X6 19 (g := wk B) rfl (zmix2_w B) h1 h2) rfl (Nat.le_of_ble_eq_true rfl) (by decide) (by decide) rfl rfl ?_
  refine za_astore_n dL_law_15 rfl (by decide) ?_
  refine za_iconst (v := 0) dL_law_16 rfl ?_
  refine za_istore_n dL_law_17 rfl (by decide) ?_
  refine za_sub [(0, .ref 1002), (1, .ref 0), (2, .ref 31), (3, .int 0)] ⟨rfl, rfl, rfl, rfl, trivial⟩ ?_
  intro p l e R s m args below meth c Qf ad tA D A base hH hG H locs ls hP hD hS hl hz hn
  exact hG H locs ls hP hD hS hl
/-- where things lie -/
def zad (base t0 t1 b : Nat) : Nat → Nat := fun k => if k < 1000 then base + k else if k = 1000 then t0 else if k = 1001 then t1 else b
set_option maxHeartbeats 4000000 in
/-- the law's walk, from its entry -/
theorem whole_start {p : Program} {e : Env} {s : State} {m : MethodId} {below : List Frame} {meth : Method} {c : Code} (l : Launch) {b L : Nat} {xs : Nat → Int32} (hL : L ≤ 256) (C0 : lw_At p s m meth c b L xs) : W p l e room_1 s m #[Value.ref b] below meth c s.heap [] 0 0 (lw_Z below #[Value.ref b] s) (entryFrame m ([Value.ref b] : List Value).toArray 4) := by
  obtain ⟨hx, hb, hr, hml, hown, hts, hX, hbl, hlocks, hgv⟩ := id C0
  obtain ⟨D, tA, hK⟩ := st_K hts
  obtain ⟨t0, z0, q0⟩ := st_zka hts hgv
  obtain ⟨t1, z1, q1⟩ := st_zkt hts hgv
  obtain ⟨E, F, B, T1, X, hE, hF, hB, h1, h2, hI⟩ := init_ok
  obtain ⟨S', hlaw⟩ := law_ok (xs := xs) hL (L + 1) 0 X hI (Nat.zero_le _) (by omega)
  have hzt : ∀ w ∈ zt, w.before #[Value.ref b] s = true := fun w hw => hts w (List.mem_filter.mp hw).1
  have hA : ∀ q : Nat, s.heap.size ≤ q → (fun q : Nat => s.heap.size ≤ q) q := fun _ h => h
  have hSt : zSt (zad s.heap.size t0 t1 b) (fun q : Nat => s.heap.size ≤ q) s s.heap := ⟨⟨⟨z0, q0⟩, ⟨z1, q1⟩⟩, st_N hts⟩
  have had : ∀ k : Nat, k < 1000 → zad s.heap.size t0 t1 b k = s.heap.size + k := fun k hk => if_pos hk
  have hS : va_S (fun q : Nat => s.heap.size ≤ q) s.heap s.heap [] := va_S.rf
  have hP : va_P D vwCl (zw (zad s.heap.size t0 t1 b) tA []) s.heap := fun k q h => by cases h
  have hD : va_D (fun q : Nat => s.heap.size ≤ q) (zw (zad s.heap.size t0 t1 b) tA []) := ⟨(fun i j p q h => by cases h), (fun k q h => by cases h)⟩
  have hl := lv_entry [Value.ref b] (n := 4) (Nat.le_of_ble_eq_true rfl)
  rw [lg_entry_eq]
  generalize (lg_sl [Value.ref b] ++ List.replicate (4 - (lg_sl [Value.ref b]).length) Slot.unset).toArray = ls at hl ⊢
  refine law_make hE hF hB h1 h2 (l := l) (ad := zad s.heap.size t0 t1 b) (tA := tA) (D := D) (A := fun q : Nat => s.heap.size ≤ q) (base := s.heap.size) ⟨hx, hb, hml, hown, hzt, hK, hSt, st_AO hts, hA, ⟨Nat.le_of_ble_eq_true rfl, Nat.le_of_ble_eq_true rfl, Nat.le_of_ble_eq_true rfl, Nat.le_of_ble_eq_true rfl⟩, fun h => absurd h (by decide), had⟩ ?_ s.heap [] ls hP hD hS hl (Nat.le_refl _) rfl
  intro H1 locs1 ls1 hP1 hD1 hS1 hl1
  refine v_law_18 (len := L) (xs := xs) 20 (by decide) (L + 1) X 0 1 S' hlaw (l := l) (ad := zad s.heap.size t0 t1 b) (tA := tA) (D := D) (A := fun q : Nat => s.heap.size ≤ q) ⟨hx, hb, hml, hown, hzt, hK, hSt, ⟨hX, hbl, Nat.not_le.mpr hbl⟩, hA, ⟨Nat.le_of_ble_eq_true rfl, Nat.le_of_ble_eq_true rfl, Nat.le_of_ble_eq_true rfl, Nat.le_of_ble_eq_true rfl⟩, ?_⟩ H1 locs1 ls1 hP1 hD1 hS1 hl1
  intro v h' H' locs' pc' ls' i hQ hrt hdc hP' hD' hS'
  obtain ⟨rfl, rfl⟩ := hQ
  rcases hrt with ⟨rfl, -⟩ | ⟨-, hv, -⟩ | ⟨-, y, hv, -⟩
  · exact va_forget (fun q hq => hS'.2.2 q hq) (W.widen (k := 600000) (n := 7302250) (by decide) (by decide) (lw_ret hx hb hr hlocks hdc))
  · cases hv
  · cases hv
set_option maxHeartbeats 4000000 in
theorem lw_walk (l : Launch) (b : Addr) (xs : List Int32) : MetFree l x (headSpec (Jvm.Cond.code x code maxLocals ret :: tables_1) room_1) (lw_P b xs) (fun _ _ _ _ _ => True) lw_Q := by
  refine MetFree.of_bodyS (code := code) (maxLocals := maxLocals) (ret := ret) (by decide) ?_ ?_
  · intro args s m h hn
    obtain ⟨meth, c, h1, h2, h3, h4, h5, h6, -, -⟩ := Cond.code_spec hn (atoms_spec (ws := Jvm.Cond.code x code maxLocals ret :: tables_1) h _ List.mem_cons_self)
    exact ⟨meth, c, h1, h2, h3, h4, h5, h6⟩
  · intro p e s m args below meth c s₁ B hml0 hP _
    obtain ⟨rfl, hx, hbd, hgv⟩ := hP
    obtain ⟨scr, harrAt, hlist, hof, hsmall⟩ := hx
    obtain ⟨hcb, hkn, -, -⟩ := State.arrayAt?_spec harrAt
    have hown : s.vm.findClass R_law = some m.cls := findClass_of_methodNamed B.named
    have hts0 : ∀ c ∈ (Jvm.Cond.code x code maxLocals ret :: tables_1), c.before #[Value.ref b] s = true := atoms_spec (ws := Jvm.Cond.code x code maxLocals ret :: tables_1) B.pre
    have hts : ∀ w ∈ lw_tbl, w.before #[Value.ref b] s = true := k2_hts_sels lw_privs (fun w hw => hts0 w (List.mem_cons_of_mem _ hw)) lw_privs_ok
    have hml : c.maxLocals = 4 := B.maxLocals_eq (hts0 _ List.mem_cons_self)
    have X₀ : Stand p l e room_1 s m #[Value.ref b] below meth c s₁ [] 0 0 := Stand.of_body B
    have hh0 : s₁.heap = s.heap := by rw [B.state]; rfl
    have hsz : scr.slots.size = xs.length := by rw [← Array.length_toList, hlist, List.length_map]
    have hval : ∀ j : Nat, j < xs.length → scr.slots[j]? = some (.int (xs.getD j 0)) := fun j hj => by
      rw [← Array.getElem?_toList, hlist]
      simp [hj]
    have hbl : b < s.heap.size := (Array.getElem?_eq_some_iff.mp hcb).1
    have hX : va_X b xs.length (fun j => xs.getD j 0) s s.heap := ⟨scr, hcb, hof, hkn, hsz, hval⟩
    have K : W p l e room_1 s m #[Value.ref b] below meth c s₁.heap [] 0 0 (lw_Z below #[Value.ref b] s) (entryFrame m ([Value.ref b] : List Value).toArray 4) := by
      rw [hh0]
      exact whole_start l hbd ⟨B.exec, B.bytes, B.returns, hml, hown, hts, hX, hbl, B.notSynchronized, hgv⟩
    obtain ⟨t, a1, o, b1, b2, b3⟩ := K s₁ rfl X₀
    exact ⟨t, o, a1, b1, b2, b3⟩
theorem lw_pre_spec {args : Array Value} {s : State} (h : (Jvm.Cond.and given_1 narrow_1).before args s = true) (hr : rest_1_c.before args s = true) : ∃ (b : Addr) (xs : List Int32), lw_P b xs args s := by
  have hs := flat_of_before _ h
  have hq := flat_of_before _ hr
  have hc : (Cond.count 1).before args s = true := hs _ (by decide +kernel)
  have harr : (Cond.arrayOf (.arg 0) .int).before args s = true := hs _ (by decide +kernel)
  have hle : (Cond.le (.length (.arg 0)) (.int 256)).before args s = true := hs _ (by decide +kernel)
  have hlen : (Cond.isInt (.length (.arg 0))).before args s = true := hq _ (by decide +kernel)
  have hall : (Cond.all (.arg 0) (.isInt (.elem (.arg 0) (.index 0)))).before args s = true := hq _ (by decide +kernel)
  obtain ⟨b, xs, hb, hx⟩ := State.ints_of_pre rfl harr hlen hall
  have hsm : xs.length < 2 ^ 31 := hx.choose_spec.2.2.2
  have hev : (Term.length (.arg 0)).eval args s none [] s = some (.int xs.length.toInt32) := hx.length_eval hb
  have hv := Cond.le_ints hev (show (Term.int 256).eval args s none [] s = some (.int 256) from rfl)
  have hd : xs.length.toInt32 ≤ 256 := by
    simpa [Cond.before, Cond.holds, hv] using hle
  have hN : xs.length ≤ 256 := (Int32.ofNat_le_ofNat hsm (by decide)).mp (show Int32.ofNat xs.length ≤ Int32.ofNat 256 from hd)
  exact ⟨b, xs, Cond.one_arg hc (show args[0]? = some (.ref b) from hb), hx, hN, h⟩
theorem lw_comes (l : Launch) : Comes l x (Jvm.Cond.code x code maxLocals ret :: tables_1) room_1 (fun tb e args s => Calls_1 tb e args s ∧ rest_1 tb e args s ∧ Pre_1 tb e args s)
    (fun _ _ args s o t => lw_Q args s o t) := by
  intro p e ha hc hk s m args below hf hfit hheap happ hpre
  obtain ⟨b, xs, hP⟩ := lw_pre_spec hpre.2.2 hpre.2.1
  obtain ⟨k, o, h1, h2, h3, hQ⟩ := lw_walk l b xs p e ha hc hk s m args below hf ((Spec.applies_iff_loose hf).mp happ).1 hP trivial
  exact ⟨k, o, h1, h2, h3, hQ⟩
theorem lw_frame {s t : State} {o : Outcome} {args : Array Value} (h : Framed s o t [] 600000 7302250) :
    Framed s o t (fieldLocs frame_1_writes args s ++ arrayLocs frame_1_arrays args s ++ staticLocs frame_1_statics s) 600000 7302250 := h
theorem lw_limb (L : Cond) (hL : ∀ (args : Array Value) (s t : State), L.after args s (.returned (some (.int 1))) t = true) :
    ArmFor flags0 classFile x code maxLocals ret World_1 tables_1 room_1 Calls_1 rest_1 Pre_1
      (fun tb e a s o t => postC L tb e a s o t ∧ Framed s o t (fieldLocs frame_1_writes a s ++ arrayLocs frame_1_arrays a s ++ staticLocs frame_1_statics s) 600000 7302250) := by
  intro l _ _ _ p e ha hc hk s m args below hf hfit hheap happ hpre
  obtain ⟨k, o, h1, h2, h3, rfl, hF⟩ := lw_comes l p e ha hc hk s m args below hf hfit hheap happ hpre
  exact ⟨k, _, h1, h2, h3, hL args s _, lw_frame hF⟩
theorem i_vc : Claimed_1_1 ∧ Claimed_1_2 := ⟨lw_limb limb_1_1 (fun args s t => by simp [limb_1_1, Cond.after, Cond.holds, Cond.value]), lw_limb limb_1_2 (fun args s t => Cond.after_iff.mpr (by
  first | (rw [show limb_1_2 = Cond.eq .result (.int 1) from rfl, Cond.eq_ints (x := 1) (y := 1) rfl rfl]; simp; done) | (simp [limb_1_2, Cond.value, Term.eval]; done)))⟩
