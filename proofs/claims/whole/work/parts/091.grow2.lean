/-! growing worlds: fields, calls -/
theorem za_low {ad tA : Nat → Nat} {D : va_G} {H : Heap} {h : List va_E} {base : Nat} (hP : va_P D vwCl (zw ad tA h) H) (had : ∀ k : Nat, k < 1000 → ad k = base + k) (h0 : 0 < h.length) (h1 : h.length ≤ 1000) : base + h.length ≤ H.size := by
  have hg : h[h.length - 1]? = some (h[h.length - 1]'(by omega)) := List.getElem?_eq_getElem _
  have := (hP _ _ (zw_get (ad := ad) (tA := tA) hg)).lt
  have e := had (h.length - 1) (by omega)
  have : ad (h.length - 1) < H.size := this
  omega
section ZA
variable {d mc ms : Nat} {y : MethodName} {cc : ByteArray} {nL : Nat} {G : zG} {pc : Nat} {L : List (Nat × Value)} {st : List Value} {h : List va_E} {n k : Nat}
theorem za_get {index ci N j r : Nat} {C : String} {T : u_T} {fs : List Value} {v : Value} (hf : zFd y.cls index ci C T N j) (hr : h[r]? = some (.inr (ci, fs))) (hv : fs[j]? = some v) (hd : decode cc pc = .ok (.getfield index, 3))
    (kk : zVA d mc ms y cc nL G (pc + 3) L (v :: st) h n k) : zVA d mc ms y cc nL G pc L (.ref r :: st) h n k := by
  intro p l e R s m args below meth c Qf ad tA D A base hH hG H locs ls hP hD hS hl hz hn
  obtain ⟨hx, hb, hml, hown, hts, hK, hSt, hAO, hA, hR, hni, had⟩ := id hH
  obtain ⟨hc, hk, hin, hs, hlk⟩ := hf
  rcases hlk with hlk | ⟨host, hlk⟩
  · exact va_get hx hb hts hin hown hK hP r (zw_get hr) hc j hk (hts _ hlk) (fun x q => by rw [← hs]; exact q) (by rw [List.getElem?_map, hv]; rfl) hd (kk hH hG H locs ls hP hD hS hl hz hn)
  · exact va_getN hx hb hts hin hown hK hP r (zw_get hr) hc j hk (va_Nw.use rfl (hSt.2 _ hlk rfl)) (fun x q => by rw [← hs]; exact q) (by rw [List.getElem?_map, hv]; rfl) hd (kk hH hG H locs ls hP hD hS hl hz hn)
theorem za_go {ad tA : Nat → Nat} {D : va_G} {h2 : List va_E} {base r : Nat} {e : va_E} {H1 : Heap} (he : h.set r e = h2) (hr : ∃ e0, h[r]? = some e0) (had : ∀ k : Nat, k < 1000 → ad k = base + k) (hlen : h.length ≤ 1000) (hP1 : va_P D vwCl (zw ad tA h2) H1) : base + h2.length ≤ H1.size := by
  obtain ⟨e0, hr⟩ := hr
  have h1 : h2.length = h.length := by rw [← he, List.length_set]
  have h2' : r < h.length := (List.getElem?_eq_some_iff.mp hr).1
  exact za_low hP1 had (by omega) (by omega)
theorem za_put {index ci N j r : Nat} {C : String} {T : u_T} {fs : List Value} {v : Value} {ty : FieldType} {h2 : List va_E} (hf : zFp y.cls index ci C T N j ty) (hr : h[r]? = some (.inr (ci, fs))) (hn2 : ∀ ad, narrow ty (zv ad v) = zv ad v ∧ fits ty (zv ad v) = true) (hk : j < fs.length) (he : h.set r (.inr (ci, fs.set j v)) = h2) (hlen : h.length ≤ 1000) (hd : decode cc pc = .ok (.putfield index, 3))
    (kk : zVA d mc ms y cc nL G (pc + 3) L st h2 n k) : zVA d mc ms y cc nL G pc L (v :: .ref r :: st) h n k := by
  intro p l e R s m args below meth c Qf ad tA D A base hH hG H locs ls hP hD hS hl hz hn
  obtain ⟨hx, hb, hml, hown, hts, hK, hSt, hAO, hA, hR, hni, had⟩ := id hH
  obtain ⟨⟨hc, hkN, hin, hs, hlk⟩, hfin, hty, ⟨ty0, hty0⟩, hnm⟩ := hf
  have hl2 : h2.length = h.length := by rw [← he, List.length_set]
  have hzw : (zw ad tA h).set r (ad r, .inr (ci, (fs.map (zv ad)).set j (zv ad v))) = zw ad tA h2 := by
    rw [← he, zw_set]
    show _ = (zw ad tA h).set r (ad r, .inr (ci, (fs.set j v).map (zv ad)))
    rw [List.map_set]
  rcases hlk with hlk | ⟨host, hlk⟩
  · refine va_put hx hb hts hin ty0 hty0 hnm hown hK hP hD hS r (zw_get hr) hc j hkN (hts _ hlk) (fun x q => by rw [← hs]; exact q) hfin hty (hn2 ad).1 (hn2 ad).2 (by rw [List.length_map]; exact hk) hd (fun H1 locs1 hP1 hD1 hS1 => ?_)
    rw [hzw] at hP1 hD1
    exact kk hH hG H1 locs1 ls hP1 hD1 hS1 hl (za_go he ⟨_, hr⟩ had hlen hP1) (by omega)
  · refine va_putN hx hb hts hin ty0 hty0 hnm hown hK hP hD hS r (zw_get hr) hc j hkN (va_Nw.use rfl (hSt.2 _ hlk rfl)) (fun x q => by rw [← hs]; exact q) hfin hty (hn2 ad).1 (hn2 ad).2 (by rw [List.length_map]; exact hk) hd (fun H1 locs1 hP1 hD1 hS1 => ?_)
    rw [hzw] at hP1 hD1
    exact kk hH hG H1 locs1 ls hP1 hD1 hS1 hl (za_go he ⟨_, hr⟩ had hlen hP1) (by omega)
/-- a final field's link -/
def zFf (own : String) (index ci : Nat) (C : String) (T : u_T) (N k : Nat) (ty : FieldType) : Prop :=
  (vwCl[ci]? = some (C, T, N) ∧ k < N ∧ (∀ w ∈ u_ws C T N, w ∈ zt) ∧ (T k).1 = C ∧ Cond.fieldLink own index C (T k).2.1 (T k).2.2.1 ∈ zt) ∧ C = own ∧ (T k).2.2.2 = true ∧ parseFieldDescriptor (T k).2.2.1 = some ty ∧ (∃ ty0 : Nat → FieldType, ∀ k, k < N → parseFieldDescriptor (T k).2.2.1 = some (ty0 k)) ∧ (∀ a, a < N → ∀ b, b < N → a ≠ b → (T a).2.1 ≠ (T b).2.1)
theorem za_putF {index ci N j r : Nat} {C : String} {T : u_T} {fs : List Value} {v : Value} {ty : FieldType} {h2 : List va_E} (hf : zFf y.cls index ci C T N j ty) (hy : y.name = "<init>") (hr : h[r]? = some (.inr (ci, fs))) (hn2 : ∀ ad, narrow ty (zv ad v) = zv ad v ∧ fits ty (zv ad v) = true) (hk : j < fs.length) (he : h.set r (.inr (ci, fs.set j v)) = h2) (hlen : h.length ≤ 1000) (hd : decode cc pc = .ok (.putfield index, 3))
    (kk : zVA d mc ms y cc nL G (pc + 3) L st h2 n k) : zVA d mc ms y cc nL G pc L (v :: .ref r :: st) h n k := by
  intro p l e R s m args below meth c Qf ad tA D A base hH hG H locs ls hP hD hS hl hz hn
  obtain ⟨hx, hb, hml, hown, hts, hK, hSt, hAO, hA, hR, hni, had⟩ := id hH
  obtain ⟨⟨hc, hkN, hin, hs, hlk⟩, hC, hfin, hty, ⟨ty0, hty0⟩, hnm⟩ := hf
  have hl2 : h2.length = h.length := by rw [← he, List.length_set]
  have hzw : (zw ad tA h).set r (ad r, .inr (ci, (fs.map (zv ad)).set j (zv ad v))) = zw ad tA h2 := by
    rw [← he, zw_set]
    show _ = (zw ad tA h).set r (ad r, .inr (ci, (fs.set j v).map (zv ad)))
    rw [List.map_set]
  refine va_putF hx hb hts hin ty0 hty0 hnm hown hK hP hD hS r (zw_get hr) hc j hkN (hts _ hlk) (fun x q => by rw [← hs]; exact q) hfin (hni hy) (hs.trans hC) hty (hn2 ad).1 (hn2 ad).2 (by rw [List.length_map]; exact hk) hd (fun H1 locs1 hP1 hD1 hS1 => ?_)
  rw [hzw] at hP1 hD1
  exact kk hH hG H1 locs1 ls hP1 hD1 hS1 hl (za_go he ⟨_, hr⟩ had hlen hP1) (by omega)
theorem vp_q_congr {cA : ClassId} {N : Nat} {f g : Nat → Option Nat} (hfg : ∀ j, j < N → f j = g j) : vp_cell cA (N, .inr (.inr (.inr (.inr f)))) = vp_cell cA (N, .inr (.inr (.inr (.inr g)))) := by
  rw [vp_cell_q, vp_cell_q]
  unfold arrV
  congr 1
  congr 1
  funext j
  exact congrArg va_rf (hfg j.val j.isLt)
theorem za_astq {N r q : Nat} {i : Int32} {vs : List Value} {f g : Nat → Option Nat} {h2 : List va_E} (ha : h[r]? = some (.inl (3, N, .inr (.inr (.inr (.inr f)))))) (hv : h[q]? = some (.inr (2, vs))) (hi : zin i N) (hg : ∀ j, j < N → va_up f i.toNatClampNeg (some q) j = g j) (he : h.set r (.inl (3, N, .inr (.inr (.inr (.inr g))))) = h2) (hlen : h.length ≤ 1000) (hd : decode cc pc = .ok (.aastore, 1))
    (kk : zVA d mc ms y cc nL G (pc + 1) L st h2 n k) : zVA d mc ms y cc nL G pc L (.ref q :: .int i :: .ref r :: st) h n k := by
  intro p l e R s m args below meth c Qf ad tA D A base hH hG H locs ls hP hD hS hl hz hn
  obtain ⟨hx, hb, hml, hown, hts, hK, hSt, hAO, hA, hR, hni, had⟩ := id hH
  have hl2 : h2.length = h.length := by rw [← he, List.length_set]
  have hzw : zw ad tA h2 = (zw ad tA h).set r (ad r, .inl (tA 3, N, .inr (.inr (.inr (.inr (fun j => (g j).map ad)))))) := by
    rw [← he, zw_set]; rfl
  refine va_astq (r := (RX2, TX2, 2)) hx hb hK hP hD hS r 3 q 2 (zw_get ha) rfl (zw_get hv) rfl (vp_in_iff.mpr hi) hd (fun H1 locs1 hP1 hD1 hS1 => ?_)
  have hr : r < (zw ad tA h).length := (List.getElem?_eq_some_iff.mp (zw_get (ad := ad) (tA := tA) ha)).1
  have hP2 : va_P D vwCl (zw ad tA h2) H1 := by
    intro j x hx
    rw [hzw] at hx
    by_cases hj : r = j
    · subst hj
      rw [List.getElem?_set_self hr] at hx
      cases hx
      have h1 := hP1 r _ (List.getElem?_set_self hr)
      have h1 : H1[ad r]? = some (vp_cell _ _) := h1
      show H1[ad r]? = some (vp_cell _ _)
      rw [h1]
      congr 1
      refine vp_q_congr (fun j hj => ?_)
      rw [← hg j hj]
      unfold va_up
      by_cases hq : j = i.toNatClampNeg
      · rw [if_pos hq, if_pos hq]; rfl
      · rw [if_neg hq, if_neg hq]
    · rw [List.getElem?_set_ne hj] at hx
      exact hP1 j x (by rw [List.getElem?_set_ne hj]; exact hx)
  have hD2 : va_D A (zw ad tA h2) := by
    rw [hzw]
    exact hD.set (zw_get ha)
  exact kk hH hG H1 locs1 ls hP2 hD2 hS1 hl (za_go he ⟨_, ha⟩ had hlen hP2) (by omega)
theorem za_callB {p : Program} {R : Room} {s : State} {args : Array Value} {y2 : MethodName} {cc2 : ByteArray} {nL2 mc2 ms2 : Nat} {own : String} {index : Nat} (hts : ∀ w ∈ zt, w.before args s = true) (hM : zMd y2 cc2 nL2 none 0) (hl : Cond.methodLink own index y2 ∈ zt) (hR : d + 1 ≤ R.frames ∧ 60 * (d + 1) ≤ R.locals) :
    CallB R s args own index y2 cc2 nL2 none (Cond.code y2 cc2 nL2 none :: zt) (zroomA d mc2 ms2) mc2 ms2 0 :=
  callB_of 0 hts (zgood hM.2.1) rfl rfl rfl (hts _ hM.1) (hts _ hl) ⟨hM.2.2.1.1, hM.2.2.1.2, hM.2.2.2.1⟩ ⟨hR.1, by have := hM.2.2.2.2; show 8 + (nL2 + 11) + 60 * d ≤ R.locals; omega⟩
theorem za_callN {p : Program} {R : Room} {s : State} {args : Array Value} {y2 : MethodName} {cc2 : ByteArray} {nL2 mc2 ms2 : Nat} {own host : String} {index : Nat} (hts : ∀ w ∈ zt, w.before args s = true) (hM : zMd y2 cc2 nL2 none 0) (hNs : zNs s) (hl : Cond.methodLinkNest own index y2 host ∈ lw_tbl) (hR : d + 1 ≤ R.frames ∧ 60 * (d + 1) ≤ R.locals) :
    va_CN R s args own index y2 host cc2 nL2 none (Cond.code y2 cc2 nL2 none :: zt) (zroomA d mc2 ms2) mc2 ms2 0 :=
  va_cnB 0 hts (zgood hM.2.1) rfl rfl rfl (hNs _ hl rfl) (hts _ hM.1) ⟨hM.2.2.1.1, hM.2.2.1.2, hM.2.2.2.1⟩ ⟨hR.1, by have := hM.2.2.2.2; show 8 + (nL2 + 11) + 60 * d ≤ R.locals; omega⟩
/-- a constructor called -/
theorem za_init {y2 : MethodName} {cc2 : ByteArray} {nL2 index r mc2 ms2 n2 k2 : Nat} {h2 : List va_E} (hd : decode cc pc = .ok (.invokespecial index, 3)) (hlk : Cond.methodLink y.cls index y2 ∈ zt ∨ ∃ host, Cond.methodLinkNest y.cls index y2 host ∈ lw_tbl) (hM : zMd y2 cc2 nL2 none 0 ∧ Cond.instanceMethod y2 ∈ zt) (hy2 : y2.name = "<init>") (hC : zI d mc2 ms2 y2 cc2 nL2 r h h2) (hlen : h2.length = h.length + mc2) (hsm : (st.map Value.category).sum ≤ 8) (hc : n + mc2 ≤ mc) (hs : k + ms2 ≤ ms) (en : n + mc2 = n2) (ek : k + ms2 = k2)
    (kk : zVA (d + 1) mc ms y cc nL G (pc + 3) L st h2 n2 k2) : zVA (d + 1) mc ms y cc nL G pc L (.ref r :: st) h n k := by
  subst en; subst ek
  intro p l e R s m args below meth c Qf ad tA D A base hH hG H locs ls hP hD hS hl hz hn
  obtain ⟨hx, hb, hml, hown, hts, hK, hSt, hAO, hA, hR, hni, had⟩ := id hH
  refine za_at hz hn (fun hsz => ?_)
  have hpre : ∀ U : State, U.heap = H → s.WarmedH U.vm → va_Pc [.ref (ad r)] (fun U => zPre ad tA D h H.size U ∧ va_AO "KingPrices$Story" U) #[.ref (ad r)] U := fun U hU hW =>
    ⟨rfl, (zpre (av := [.ref r]) hP hD hS hA hK hSt U hU hW).2, va_AO.moved hW.alike hAO⟩
  have hbl : FrameBlind (va_Pc [.ref (ad r)] (fun U => zPre ad tA D h H.size U ∧ va_AO "KingPrices$Story" U)) := by
    intro a U g mk q
    obtain ⟨q0, ⟨q1, qP, qK, qD, qS⟩, qA⟩ := q
    exact ⟨q0, ⟨q1, qP, va_K.moved (u := U) (U := U.calling g mk a) (Vm.Alike.refl U.vm) qK, qD, zSt.same (u := U) (U := U.calling g mk a) rfl qS⟩, va_AO.moved (u := U) (U := U.calling g mk a) (Vm.Alike.refl U.vm) qA⟩
  have hroom : 2 * (F0 m pc ls ((Value.ref r :: st).map (zv ad))).monitorRoom + ((st.map (zv ad)).map fun v => v.category).sum ≤ 8 := lv_room (by rw [zcat]; exact hsm)
  have run : va_Run p l e R s m args below meth c H locs n k mc2 ms2 (F0 m pc ls ((Value.ref r :: st).map (zv ad))) (st.map (zv ad))
      ((fun (_ : Array Value) (st : State) (o : Outcome) (t : State) => (o = .returned none ∧ va_P D vwCl (zw ad tA h2) t.heap ∧ va_D (va_A (zw ad tA h) H.size) (zw ad tA h2) ∧ base + h2.length ≤ t.heap.size) ∧ va_F (va_A (zw ad tA h) H.size) st t) #[.ref (ad r)]) (va_A (zw ad tA h) H.size) := by
    rcases hlk with hlk | ⟨host, hlk⟩
    · exact va_runI (As := []) (b := ad r) ⟨hx, hb, hml, hown, hts⟩ (hC l ad tA D H.size base had hsz) ⟨za_callB (p := p) hts hM.1 hlk ⟨hR.1, hR.2.1⟩, hy2, hts _ hM.2⟩ ⟨hbl, hpre⟩ rfl rfl hl.1 rfl hroom hd ⟨by omega, by omega⟩
    · exact va_runIN (As := []) (b := ad r) ⟨hx, hb, hml, hown, hts⟩ (hC l ad tA D H.size base had hsz) ⟨za_callN (p := p) hts hM.1 hSt.2 hlk ⟨hR.1, hR.2.1⟩, hy2, hts _ hM.2⟩ ⟨hbl, hpre⟩ rfl rfl hl.1 rfl hroom hd ⟨by omega, by omega⟩
  intro T hT X
  obtain ⟨v, st₀, t, T', L', h0, X', hL, e1, e2, ⟨⟨hv, hP1, hD1, hz1⟩, hzz, hk⟩, goes⟩ := run T hT X
  cases hv
  rw [h0] at hzz hk
  have hAin := zAin hD hS hA
  have hS1 : va_S A s.heap T'.heap (locs ++ L') := ⟨Nat.le_trans hS.1 (by rw [e1]; exact hzz), fun q h1 h2 => by
      rw [e1, hk q (Nat.lt_of_lt_of_le h1 hS.1) (fun z => h2 (hAin q z))]; exact hS.2.1 q h1 h2, fun q hq => by
      rcases List.mem_append.mp hq with h | h
      · exact hS.2.2 q h
      · exact hAin _ (hL q h)⟩
  obtain ⟨t2, a1, b1⟩ := kk hH hG T'.heap (locs ++ L') ls (by rw [e1]; exact hP1) (hD1.weaken (fun k q _ hq => hAin _ hq)) hS1 hl (by rw [e1]; exact hz1) (by omega) T' rfl X'
  exact ⟨t2, goes t2 a1, b1⟩
/-- a method called that makes nothing -/
theorem za_call {y2 : MethodName} {cc2 : ByteArray} {nL2 index r ci N na : Nat} {As stk fs : List Value} {h2 : List va_E} {T : u_T} (hd : decode cc pc = .ok (.invokevirtual index, 3)) (hl0 : Cond.methodLink y.cls index y2 ∈ zt) (hM : zMv y2 cc2 nL2 none na) (hC : zC d y2 cc2 nL2 none (.ref r :: As) h (zq none h2)) (hr : h[r]? = some (.inr (ci, fs))) (hcl : vwCl[ci]? = some (y2.cls, T, N)) (hna : As.length = na) (hs : stk = As.reverse ++ .ref r :: st) (hsm : (st.map Value.category).sum ≤ 8) (hlen : h2.length = h.length) (h0 : 0 < h.length) (h1 : h.length ≤ 1000)
    (hc : n ≤ mc) (hk : k ≤ ms) (kk : zVA (d + 1) mc ms y cc nL G (pc + 3) L st h2 n k) : zVA (d + 1) mc ms y cc nL G pc L stk h n k := by
  intro p l e R s m args below meth c Qf ad tA D A base hH hG H locs ls hP hD hS hl hz hn
  obtain ⟨hx, hb, hml, hown, hts, hK, hSt, hAO, hA, hR, hni, had⟩ := id hH
  have run := va_runV (p := p) (l := l) (e := e) (R := R) (below := below) (meth := meth) (locs := locs) (cells := n) (slots := k) (g := F0 m pc ls (stk.map (zv ad))) (rest := st.map (zv ad)) (As := As.map (zv ad)) (b := ad r) ⟨hx, hb, hml, hown, hts⟩ (hC l ad tA D H.size) (C := y2.cls) ⟨zCallB hts hM.1 hl0 ⟨hR.1, hR.2.1⟩, hts _ hM.2.1, hts _ hM.2.2⟩ ⟨zblind, va_recv (q := (y2.cls, T, N)) hK hP hcl (zw_get hr), zpre hP hD hS hA hK hSt⟩ rfl (by rw [List.length_map]; exact hna) hl.1 (by rw [hs]; simp [zv]) (lv_room (by rw [zcat]; exact hsm)) hd ⟨by omega, by omega⟩
  intro T hT X
  obtain ⟨v, st₀, t, T', L', h0', X', hL, e1, e2, ⟨⟨rv, h', hv, ⟨hq1, hq2⟩, hP1, hD1⟩, hzz, hk⟩, goes⟩ := run T hT X
  subst hq1; subst hq2
  cases hv
  rw [h0'] at hzz hk
  have hAin := zAin hD hS hA
  have hS1 : va_S A s.heap T'.heap (locs ++ L') := ⟨Nat.le_trans hS.1 (by rw [e1]; exact hzz), fun q h1 h2 => by
      rw [e1, hk q (Nat.lt_of_lt_of_le h1 hS.1) (fun z => h2 (hAin q z))]; exact hS.2.1 q h1 h2, fun q hq => by
      rcases List.mem_append.mp hq with h | h
      · exact hS.2.2 q h
      · exact hAin _ (hL q h)⟩
  rw [← e1] at hP1
  obtain ⟨t2, a1, b1⟩ := kk hH hG T'.heap (locs ++ L') ls hP1 (hD1.weaken (fun k q _ hq => hAin _ hq)) hS1 hl (za_low hP1 had (by omega) (by omega)) (by omega) T' rfl X'
  exact ⟨t2, goes t2 a1, b1⟩
end ZA
