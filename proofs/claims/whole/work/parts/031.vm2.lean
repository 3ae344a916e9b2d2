theorem zgood_all : zt.all goodWord = true := List.all_eq_true.mpr (fun w hw => (List.mem_filter.mp hw).2)
theorem zgood {y : MethodName} {cc : ByteArray} {nL : Nat} {ret : Option FieldType} (h : Cond.code y cc nL ret ∈ zt) : GoodIn zt (Cond.code y cc nL ret :: zt) := by
  intro w hw
  rcases List.mem_cons.mp hw with e | hw
  · subst e
    exact ⟨h, good_of_word (List.all_eq_true.mp zgood_all _ h)⟩
  · exact ⟨hw, good_of_word (List.all_eq_true.mp zgood_all _ hw)⟩
theorem zmemN {w : Cond} (i : Nat) (h : lw_tbl[i]? = some w) : w ∈ lw_tbl := List.mem_of_getElem? h
theorem zmem {w : Cond} (i : Nat) (h : lw_tbl[i]? = some w) (hg : goodWord w = true) : w ∈ zt := List.mem_filter.mpr ⟨List.mem_of_getElem? h, hg⟩
/-- a field's link -/
def zFd (own : String) (index ci : Nat) (C : String) (T : u_T) (N k : Nat) : Prop :=
  vwCl[ci]? = some (C, T, N) ∧ k < N ∧ (∀ w ∈ u_ws C T N, w ∈ zt) ∧ (T k).1 = C ∧ (Cond.fieldLink own index C (T k).2.1 (T k).2.2.1 ∈ zt ∨ ∃ host, Cond.fieldLinkNest own index C (T k).2.1 (T k).2.2.1 host ∈ lw_tbl)
def zFp (own : String) (index ci : Nat) (C : String) (T : u_T) (N k : Nat) (ty : FieldType) : Prop :=
  zFd own index ci C T N k ∧ (T k).2.2.2 = false ∧ parseFieldDescriptor (T k).2.2.1 = some ty ∧ (∃ ty0 : Nat → FieldType, ∀ k, k < N → parseFieldDescriptor (T k).2.2.1 = some (ty0 k)) ∧ (∀ a, a < N → ∀ b, b < N → a ≠ b → (T a).2.1 ≠ (T b).2.1)
abbrev zin (i : Int32) (n : Nat) : Prop := 0 ≤ i.toInt ∧ i.toInt < (n : Int)
/-- a method that may be called: its words -/
def zMd (y : MethodName) (cc : ByteArray) (nL : Nat) (ret : Option FieldType) (n : Nat) : Prop :=
  Cond.initialized y.cls ∈ zt ∧ Cond.code y cc nL ret ∈ zt ∧ (y.cls ≠ "java/lang/invoke/MethodHandle" ∧ y.cls ≠ "java/lang/invoke/VarHandle") ∧ (parseMethodDescriptor y.desc).map (fun d => d.parameters.length) = some n ∧ nL ≤ 41
def zMv (y : MethodName) (cc : ByteArray) (nL : Nat) (ret : Option FieldType) (n : Nat) : Prop := zMd y cc nL ret n ∧ Cond.instanceMethod y ∈ zt ∧ Cond.selects y.cls y y ∈ zt
def zMs (y : MethodName) (cc : ByteArray) (nL : Nat) (ret : Option FieldType) (n : Nat) : Prop := zMd y cc nL ret n ∧ Cond.static y ∈ zt
section ZB
variable {p : Program} {l : Launch} {e : Env} {R : Room} {s : State} {m : MethodId} {args : Array Value} {below : List Frame} {meth : Method} {c : Code} {H : Heap} {locs : List Loc} {cells slots : Nat} {Qf : State → Prop} {ad tA : Nat → Nat} {D : va_G} {A : Nat → Prop} {h : List va_E}
theorem zCallB {d : Nat} {y2 : MethodName} {cc2 : ByteArray} {nL2 : Nat} {ret2 : Option FieldType} {n : Nat} {own : String} {index : Nat} (hts : ∀ w ∈ zt, w.before args s = true) (hM : zMd y2 cc2 nL2 ret2 n) (hl : Cond.methodLink own index y2 ∈ zt) (hR : d + 1 ≤ R.frames ∧ 60 * (d + 1) ≤ R.locals) :
    CallB R s args own index y2 cc2 nL2 ret2 (Cond.code y2 cc2 nL2 ret2 :: zt) (zroom d) 0 0 n :=
  callB_of n hts (zgood hM.2.1) rfl rfl rfl (hts _ hM.1) (hts _ hl) ⟨hM.2.2.1.1, hM.2.2.1.2, hM.2.2.2.1⟩ ⟨hR.1, by have := hM.2.2.2.2; show 8 + (nL2 + 11) + 60 * d ≤ R.locals; omega⟩
theorem zCallN {d : Nat} {y2 : MethodName} {cc2 : ByteArray} {nL2 : Nat} {ret2 : Option FieldType} {n : Nat} {own host : String} {index : Nat} (hts : ∀ w ∈ zt, w.before args s = true) (hM : zMd y2 cc2 nL2 ret2 n) (hNs : zNs s) (hl : Cond.methodLinkNest own index y2 host ∈ lw_tbl) (hR : d + 1 ≤ R.frames ∧ 60 * (d + 1) ≤ R.locals) :
    va_CN R s args own index y2 host cc2 nL2 ret2 (Cond.code y2 cc2 nL2 ret2 :: zt) (zroom d) 0 0 n :=
  va_cnB n hts (zgood hM.2.1) rfl rfl rfl (hNs _ hl rfl) (hts _ hM.1) ⟨hM.2.2.1.1, hM.2.2.1.2, hM.2.2.2.1⟩ ⟨hR.1, by have := hM.2.2.2.2; show 8 + (nL2 + 11) + 60 * d ≤ R.locals; omega⟩
theorem zblind {av : List Value} {sz : Nat} : FrameBlind (va_Pc (av.map (zv ad)) (zPre ad tA D h sz)) := by
  intro a U g mk q
  obtain ⟨q0, q1, qP, qK, qD, qS⟩ := q
  exact ⟨q0, q1, qP, va_K.moved (u := U) (U := U.calling g mk a) (Vm.Alike.refl U.vm) qK, qD, zSt.same (u := U) (U := U.calling g mk a) rfl qS⟩
theorem zAin (hD : va_D A (zw ad tA h)) (hS : va_S A s.heap H locs) (hA : ∀ q : Nat, s.heap.size ≤ q → A q) : ∀ q, va_A (zw ad tA h) H.size q → A q := by
  intro q hq
  rcases hq with ⟨k, e, hk⟩ | hq
  · exact hD.2 k _ hk
  · exact hA q (Nat.le_trans hS.1 hq)
theorem zpre {av : List Value} (hP : va_P D vwCl (zw ad tA h) H) (hD : va_D A (zw ad tA h)) (hS : va_S A s.heap H locs) (hA : ∀ q : Nat, s.heap.size ≤ q → A q) (hK : va_K D vwCl (ztys tA) s) (hSt : zSt ad A s s.heap) :
    ∀ U : State, U.heap = H → s.WarmedH U.vm → va_Pc (av.map (zv ad)) (zPre ad tA D h H.size) (av.map (zv ad)).toArray U := by
  intro U hU hW
  refine ⟨rfl, by rw [hU], by rw [hU]; exact hP, va_K.moved hW.alike hK, hD.weaken (fun _ _ _ _ => trivial), ?_⟩
  rw [hU]
  exact ((zSt.warm hW hSt).kept (H1 := H) (fun a h1 h2 => hS.2.1 a h1 h2)).narrow (zAin hD hS hA)
/-- behind a call -/
theorem zback {sc : Option (Nat × (Nat → Int32))} {d : Nat} {y : MethodName} {cc : ByteArray} {nL : Nat} {ret : Option FieldType} {pc : Nat} {L : List (Nat × Value)} {st stk : List Value} {h2 : List va_E} {rv : Option Value} {Q : Option Value → List va_E → Prop} {ls : Array Slot} {av : Array Value}
    (hH : zH sc d y cc nL ret Q p l e R s m args below meth c cells slots Qf ad tA D A) (hP : va_P D vwCl (zw ad tA h) H) (hD : va_D A (zw ad tA h)) (hS : va_S A s.heap H locs) (hl : lv_has ls nL (zl ad L))
    (hr : va_Run p l e R s m args below meth c H locs cells slots 0 0 (F0 m pc ls stk) (st.map (zv ad)) (zPost ad tA D h H.size (zq rv h2) av) (va_A (zw ad tA h) H.size))
    (kk : zV sc d y cc nL ret (pc + 3) L (rv.toList ++ st) h2 Q) : W p l e R s m args below meth c H locs cells slots Qf (F0 m pc ls stk) := by
  intro T hT X
  obtain ⟨v, st₀, t, T', L', h0, X', hL, e1, e2, ⟨⟨r, h', hv, ⟨hq1, hq2⟩, hP1, hD1⟩, hz, hk⟩, goes⟩ := hr T hT X
  subst hq1; subst hq2
  have hv : v = r.map (zv ad) := by cases hv; rfl
  subst hv
  rw [h0] at hz hk
  have hAin := zAin hD hS hH.2.2.2.2.2.2.2.2.1
  have hS1 : va_S A s.heap T'.heap (locs ++ L') := ⟨Nat.le_trans hS.1 (by rw [e1]; exact hz), fun q h1 h2 => by
      rw [e1, hk q (Nat.lt_of_lt_of_le h1 hS.1) (fun z => h2 (hAin q z))]; exact hS.2.1 q h1 h2, fun q hq => by
      rcases List.mem_append.mp hq with h | h
      · exact hS.2.2 q h
      · exact hAin _ (hL q h)⟩
  obtain ⟨t2, a1, b1⟩ := kk hH T'.heap (locs ++ L') ls (by rw [e1]; exact hP1) (hD1.weaken (fun k q _ hq => hAin _ hq)) hS1 hl T' rfl X'
  have hst : (r.toList ++ st).map (zv ad) = (r.map (zv ad)).toList ++ st.map (zv ad) := by cases r <;> rfl
  rw [hst] at a1
  exact ⟨t2, goes t2 a1, b1⟩
end ZB
section ZV
variable {sc : Option (Nat × (Nat → Int32))} {d : Nat} {y : MethodName} {cc : ByteArray} {nL : Nat} {ret : Option FieldType} {pc : Nat} {L : List (Nat × Value)} {st : List Value} {h : List va_E} {Q : Option Value → List va_E → Prop}
theorem zv_callV {y2 : MethodName} {cc2 : ByteArray} {nL2 n index r ci N : Nat} {ret2 : Option FieldType} {As stk fs : List Value} {rv : Option Value} {h2 : List va_E} {T : u_T}
    (hd : decode cc pc = .ok (.invokevirtual index, 3)) (hl : Cond.methodLink y.cls index y2 ∈ zt) (hM : zMv y2 cc2 nL2 ret2 n) (hC : zC d y2 cc2 nL2 ret2 (.ref r :: As) h (zq rv h2)) (hr : h[r]? = some (.inr (ci, fs))) (hcl : vwCl[ci]? = some (y2.cls, T, N)) (hn : As.length = n) (hs : stk = As.reverse ++ .ref r :: st) (hsm : (st.map Value.category).sum ≤ 8)
    (kk : zV sc (d + 1) y cc nL ret (pc + 3) L (rv.toList ++ st) h2 Q) : zV sc (d + 1) y cc nL ret pc L stk h Q := by
  intro p l e R s m args below meth c cells slots Qf ad tA D A hH H locs ls hP hD hS hl'
  obtain ⟨hx, hb, hml, hown, hts, hK, hSt, hSc, hA, hR, -⟩ := id hH
  refine zback hH hP hD hS hl' (av := ((Value.ref r :: As).map (zv ad)).toArray) ?_ kk
  exact va_runV (As := As.map (zv ad)) (b := ad r) ⟨hx, hb, hml, hown, hts⟩ (hC l ad tA D H.size) (C := y2.cls) ⟨zCallB hts hM.1 hl ⟨hR.1, hR.2.1⟩, hts _ hM.2.1, hts _ hM.2.2⟩ ⟨zblind, va_recv (q := (y2.cls, T, N)) hK hP hcl (zw_get hr), zpre hP hD hS hA hK hSt⟩ rfl (by rw [List.length_map]; exact hn) hl'.1 (by rw [hs]; simp [zv]) (lv_room (by
      have e1 : ((st.map (zv ad)).map fun v => v.category) = st.map Value.category := by rw [List.map_map]; exact List.map_congr_left (fun v _ => zv_cat ad v)
      rw [e1]; exact hsm)) hd ⟨hR.2.2.1, hR.2.2.2⟩
theorem zv_callS {y2 : MethodName} {cc2 : ByteArray} {nL2 n index : Nat} {ret2 : Option FieldType} {As stk : List Value} {rv : Option Value} {h2 : List va_E}
    (hd : decode cc pc = .ok (.invokestatic index, 3)) (hl : Cond.methodLink y.cls index y2 ∈ zt) (hM : zMs y2 cc2 nL2 ret2 n) (hC : zC d y2 cc2 nL2 ret2 As h (zq rv h2)) (hn : As.length = n) (hs : stk = As.reverse ++ st) (hsm : (st.map Value.category).sum ≤ 8)
    (kk : zV sc (d + 1) y cc nL ret (pc + 3) L (rv.toList ++ st) h2 Q) : zV sc (d + 1) y cc nL ret pc L stk h Q := by
  intro p l e R s m args below meth c cells slots Qf ad tA D A hH H locs ls hP hD hS hl'
  obtain ⟨hx, hb, hml, hown, hts, hK, hSt, hSc, hA, hR, -⟩ := id hH
  refine zback hH hP hD hS hl' (av := (As.map (zv ad)).toArray) ?_ kk
  exact va_runS (As := As.map (zv ad)) ⟨hx, hb, hml, hown, hts⟩ (hC l ad tA D H.size) ⟨zCallB hts hM.1 hl ⟨hR.1, hR.2.1⟩, hts _ hM.2⟩ ⟨zblind, zpre hP hD hS hA hK hSt⟩ rfl (by rw [List.length_map]; exact hn) hl'.1 (by rw [hs]; simp [zv]) (lv_room (by
      have e1 : ((st.map (zv ad)).map fun v => v.category) = st.map Value.category := by rw [List.map_map]; exact List.map_congr_left (fun v _ => zv_cat ad v)
      rw [e1]; exact hsm)) hd ⟨hR.2.2.1, hR.2.2.2⟩
theorem zv_callSN {y2 : MethodName} {cc2 : ByteArray} {nL2 n index : Nat} {ret2 : Option FieldType} {As stk : List Value} {rv : Option Value} {h2 : List va_E} {host : String}
    (hd : decode cc pc = .ok (.invokestatic index, 3)) (hl : Cond.methodLinkNest y.cls index y2 host ∈ lw_tbl) (hM : zMs y2 cc2 nL2 ret2 n) (hC : zC d y2 cc2 nL2 ret2 As h (zq rv h2)) (hn : As.length = n) (hs : stk = As.reverse ++ st) (hsm : (st.map Value.category).sum ≤ 8)
    (kk : zV sc (d + 1) y cc nL ret (pc + 3) L (rv.toList ++ st) h2 Q) : zV sc (d + 1) y cc nL ret pc L stk h Q := by
  intro p l e R s m args below meth c cells slots Qf ad tA D A hH H locs ls hP hD hS hl'
  obtain ⟨hx, hb, hml, hown, hts, hK, hSt, hSc, hA, hR, -⟩ := id hH
  refine zback hH hP hD hS hl' (av := (As.map (zv ad)).toArray) ?_ kk
  exact va_runSN (As := As.map (zv ad)) ⟨hx, hb, hml, hown, hts⟩ (hC l ad tA D H.size) ⟨zCallN hts hM.1 hSt.2 hl ⟨hR.1, hR.2.1⟩, hts _ hM.2, trivial⟩ ⟨zblind, zpre hP hD hS hA hK hSt⟩ rfl (by rw [List.length_map]; exact hn) hl'.1 (by rw [hs]; simp [zv]) (lv_room (by
      have e1 : ((st.map (zv ad)).map fun v => v.category) = st.map Value.category := by rw [List.map_map]; exact List.map_congr_left (fun v _ => zv_cat ad v)
      rw [e1]; exact hsm)) hd ⟨hR.2.2.1, hR.2.2.2⟩
theorem zv_get {index ci N k r : Nat} {C : String} {T : u_T} {fs : List Value} {v : Value} (hf : zFd y.cls index ci C T N k) (hr : h[r]? = some (.inr (ci, fs))) (hv : fs[k]? = some v) (hd : decode cc pc = .ok (.getfield index, 3))
    (kk : zV sc d y cc nL ret (pc + 3) L (v :: st) h Q) : zV sc d y cc nL ret pc L (.ref r :: st) h Q := by
  intro p l e R s m args below meth c cells slots Qf ad tA D A hH H locs ls hP hD hS hl
  obtain ⟨hx, hb, hml, hown, hts, hK, hSt, hSc, hA, hR, -⟩ := id hH
  obtain ⟨hc, hk, hin, hs, hlk⟩ := hf
  rcases hlk with hlk | ⟨host, hlk⟩
  · exact va_get hx hb hts hin hown hK hP r (zw_get hr) hc k hk (hts _ hlk) (fun x q => by rw [← hs]; exact q) (by rw [List.getElem?_map, hv]; rfl) hd (kk hH H locs ls hP hD hS hl)
  · exact va_getN hx hb hts hin hown hK hP r (zw_get hr) hc k hk (va_Nw.use rfl (hSt.2 _ hlk rfl)) (fun x q => by rw [← hs]; exact q) (by rw [List.getElem?_map, hv]; rfl) hd (kk hH H locs ls hP hD hS hl)
theorem zv_put {index ci N k r : Nat} {C : String} {T : u_T} {fs : List Value} {v : Value} {ty : FieldType} {h2 : List va_E} (hf : zFp y.cls index ci C T N k ty) (hr : h[r]? = some (.inr (ci, fs))) (hn : narrow ty v = v) (hn2 : ∀ ad, narrow ty (zv ad v) = zv ad v ∧ fits ty (zv ad v) = true) (hk : k < fs.length) (he : h.set r (.inr (ci, fs.set k v)) = h2) (hd : decode cc pc = .ok (.putfield index, 3))
    (kk : zV sc d y cc nL ret (pc + 3) L st h2 Q) : zV sc d y cc nL ret pc L (v :: .ref r :: st) h Q := by
  intro p l e R s m args below meth c cells slots Qf ad tA D A hH H locs ls hP hD hS hl
  obtain ⟨hx, hb, hml, hown, hts, hK, hSt, hSc, hA, hR, -⟩ := id hH
  obtain ⟨⟨hc, hkN, hin, hs, hlk⟩, hfin, hty, ⟨ty0, hty0⟩, hnm⟩ := hf
  have hz : (zw ad tA h).set r (ad r, .inr (ci, (fs.map (zv ad)).set k (zv ad v))) = zw ad tA h2 := by
    rw [← he, zw_set]
    show _ = (zw ad tA h).set r (ad r, .inr (ci, (fs.set k v).map (zv ad)))
    rw [List.map_set]
  rcases hlk with hlk | ⟨host, hlk⟩
  · exact va_put hx hb hts hin ty0 hty0 hnm hown hK hP hD hS r (zw_get hr) hc k hkN (hts _ hlk) (fun x q => by rw [← hs]; exact q) hfin hty (hn2 ad).1 (hn2 ad).2 (by rw [List.length_map]; exact hk) hd (fun H1 locs1 hP1 hD1 hS1 => kk hH H1 locs1 ls (by rw [← hz]; exact hP1) (by rw [← hz]; exact hD1) hS1 hl)
  · exact va_putN hx hb hts hin ty0 hty0 hnm hown hK hP hD hS r (zw_get hr) hc k hkN (va_Nw.use rfl (hSt.2 _ hlk rfl)) (fun x q => by rw [← hs]; exact q) hfin hty (hn2 ad).1 (hn2 ad).2 (by rw [List.length_map]; exact hk) hd (fun H1 locs1 hP1 hD1 hS1 => kk hH H1 locs1 ls (by rw [← hz]; exact hP1) (by rw [← hz]; exact hD1) hS1 hl)
theorem zv_iald {r n : Nat} {f : Nat → Int32} {i : Int32} (hi : zin i n) (ha : h[r]? = some (.inl (0, n, .inl f))) (hd : decode cc pc = .ok (.iaload, 1)) (kk : zV sc d y cc nL ret (pc + 1) L (.int (f i.toNatClampNeg) :: st) h Q) : zV sc d y cc nL ret pc L (.int i :: .ref r :: st) h Q := by
  intro p l e R s m args below meth c cells slots Qf ad tA D A hH H locs ls hP hD hS hl
  obtain ⟨hx, hb, hml, hown, hts, hK, hSt, hSc, hA, hR, -⟩ := id hH
  exact va_iald hx hb hK hP r 0 (zw_get ha) rfl (vp_in_iff.mpr hi) hd (kk hH H locs ls hP hD hS hl)
theorem zv_bald {r n : Nat} {f : Nat → Int32} {i : Int32} (hi : zin i n) (ha : h[r]? = some (.inl (1, n, .inl f))) (hd : decode cc pc = .ok (.baload, 1)) (kk : zV sc d y cc nL ret (pc + 1) L (.int (f i.toNatClampNeg) :: st) h Q) : zV sc d y cc nL ret pc L (.int i :: .ref r :: st) h Q := by
  intro p l e R s m args below meth c cells slots Qf ad tA D A hH H locs ls hP hD hS hl
  obtain ⟨hx, hb, hml, hown, hts, hK, hSt, hSc, hA, hR, -⟩ := id hH
  exact va_bald hx hb hK hP r 1 (zw_get ha) rfl (vp_in_iff.mpr hi) hd (kk hH H locs ls hP hD hS hl)
theorem zv_zald {r n : Nat} {f : Nat → Int32} {i : Int32} (hi : zin i n) (ha : h[r]? = some (.inl (2, n, .inl f))) (hd : decode cc pc = .ok (.baload, 1)) (kk : zV sc d y cc nL ret (pc + 1) L (.int (f i.toNatClampNeg) :: st) h Q) : zV sc d y cc nL ret pc L (.int i :: .ref r :: st) h Q := by
  intro p l e R s m args below meth c cells slots Qf ad tA D A hH H locs ls hP hD hS hl
  obtain ⟨hx, hb, hml, hown, hts, hK, hSt, hSc, hA, hR, -⟩ := id hH
  exact va_zald hx hb hK hP r 2 (zw_get ha) rfl (vp_in_iff.mpr hi) hd (kk hH H locs ls hP hD hS hl)
theorem zv_aald {r n q : Nat} {f : Nat → Option Nat} {i : Int32} (hi : zin i n) (ha : h[r]? = some (.inl (3, n, .inr (.inr (.inr (.inr f)))))) (hq : f i.toNatClampNeg = some q) (hd : decode cc pc = .ok (.aaload, 1)) (kk : zV sc d y cc nL ret (pc + 1) L (.ref q :: st) h Q) : zV sc d y cc nL ret pc L (.int i :: .ref r :: st) h Q := by
  intro p l e R s m args below meth c cells slots Qf ad tA D A hH H locs ls hP hD hS hl
  obtain ⟨hx, hb, hml, hown, hts, hK, hSt, hSc, hA, hR, -⟩ := id hH
  refine va_aldq hx hb hK hP r 3 (zw_get ha) rfl (vp_in_iff.mpr hi) hd ?_
  have h1 := kk hH H locs ls hP hD hS hl
  show W _ _ _ _ _ _ _ _ _ _ _ _ _ _ _ (F0 m (pc + 1) ls (va_rf ((f i.toNatClampNeg).map ad) :: _))
  rw [hq]
  exact h1

theorem zv_iast {r n : Nat} {f : Nat → Int32} {i x : Int32} {h2 : List va_E} (hi : zin i n) (ha : h[r]? = some (.inl (0, n, .inl f))) (he : h.set r (.inl (0, n, .inl (upd f i.toNatClampNeg x))) = h2) (hd : decode cc pc = .ok (.iastore, 1)) (kk : zV sc d y cc nL ret (pc + 1) L st h2 Q) : zV sc d y cc nL ret pc L (.int x :: .int i :: .ref r :: st) h Q := by
  intro p l e R s m args below meth c cells slots Qf ad tA D A hH H locs ls hP hD hS hl
  obtain ⟨hx, hb, hml, hown, hts, hK, hSt, hSc, hA, hR, -⟩ := id hH
  have hz : (zw ad tA h).set r (ad r, .inl (tA 0, n, .inl (upd f i.toNatClampNeg x))) = zw ad tA h2 := by rw [← he, zw_set]; rfl
  exact va_iast hx hb hK hP hD hS r 0 (zw_get ha) rfl (vp_in_iff.mpr hi) hd (fun H1 locs1 hP1 hD1 hS1 => kk hH H1 locs1 ls (by rw [← hz]; exact hP1) (by rw [← hz]; exact hD1) hS1 hl)
theorem zv_bast {r n : Nat} {f : Nat → Int32} {i x : Int32} {h2 : List va_E} (hi : zin i n) (ha : h[r]? = some (.inl (1, n, .inl f))) (he : h.set r (.inl (1, n, .inl (upd f i.toNatClampNeg (vp_nar .byte x)))) = h2) (hd : decode cc pc = .ok (.bastore, 1)) (kk : zV sc d y cc nL ret (pc + 1) L st h2 Q) : zV sc d y cc nL ret pc L (.int x :: .int i :: .ref r :: st) h Q := by
  intro p l e R s m args below meth c cells slots Qf ad tA D A hH H locs ls hP hD hS hl
  obtain ⟨hx, hb, hml, hown, hts, hK, hSt, hSc, hA, hR, -⟩ := id hH
  have hz : (zw ad tA h).set r (ad r, .inl (tA 1, n, .inl (upd f i.toNatClampNeg (vp_nar .byte x)))) = zw ad tA h2 := by rw [← he, zw_set]; rfl
  exact va_bast hx hb hK hP hD hS r 1 (zw_get ha) rfl (vp_in_iff.mpr hi) hd (fun H1 locs1 hP1 hD1 hS1 => kk hH H1 locs1 ls (by rw [← hz]; exact hP1) (by rw [← hz]; exact hD1) hS1 hl)
theorem zv_zast {r n : Nat} {f : Nat → Int32} {i x : Int32} {h2 : List va_E} (hi : zin i n) (ha : h[r]? = some (.inl (2, n, .inl f))) (he : h.set r (.inl (2, n, .inl (upd f i.toNatClampNeg (vp_nar .boolean x)))) = h2) (hd : decode cc pc = .ok (.bastore, 1)) (kk : zV sc d y cc nL ret (pc + 1) L st h2 Q) : zV sc d y cc nL ret pc L (.int x :: .int i :: .ref r :: st) h Q := by
  intro p l e R s m args below meth c cells slots Qf ad tA D A hH H locs ls hP hD hS hl
  obtain ⟨hx, hb, hml, hown, hts, hK, hSt, hSc, hA, hR, -⟩ := id hH
  have hz : (zw ad tA h).set r (ad r, .inl (tA 2, n, .inl (upd f i.toNatClampNeg (vp_nar .boolean x)))) = zw ad tA h2 := by rw [← he, zw_set]; rfl
  exact va_zast hx hb hK hP hD hS r 2 (zw_get ha) rfl (vp_in_iff.mpr hi) hd (fun H1 locs1 hP1 hD1 hS1 => kk hH H1 locs1 ls (by rw [← hz]; exact hP1) (by rw [← hz]; exact hD1) hS1 hl)
theorem zv_alen {r t n : Nat} {f : Nat → Int32} {v : Int32} (ht : t < 3) (hv : Int32.ofNat n = v) (ha : h[r]? = some (.inl (t, n, .inl f))) (hd : decode cc pc = .ok (.arraylength, 1)) (kk : zV sc d y cc nL ret (pc + 1) L (.int v :: st) h Q) : zV sc d y cc nL ret pc L (.ref r :: st) h Q := by
  intro p l e R s m args below meth c cells slots Qf ad tA D A hH H locs ls hP hD hS hl
  obtain ⟨hx, hb, hml, hown, hts, hK, hSt, hSc, hA, hR, -⟩ := id hH
  have h3 : ∃ ty, (ztys tA)[t]? = some (tA t, ty) := by
    match t, ht with
    | 0, _ => exact ⟨_, rfl⟩
    | 1, _ => exact ⟨_, rfl⟩
    | 2, _ => exact ⟨_, rfl⟩
  obtain ⟨ty, hty⟩ := h3
  exact va_alen hx hb hK hP r t (zw_get ha) hty hv hd (kk hH H locs ls hP hD hS hl)
theorem zv_slen {n : Nat} {xs : Nat → Int32} (hd : decode cc pc = .ok (.arraylength, 1)) (kk : zV (some (n, xs)) d y cc nL ret (pc + 1) L (.int (Int32.ofNat n) :: st) h Q) : zV (some (n, xs)) d y cc nL ret pc L (.ref 1002 :: st) h Q := by
  intro p l e R s m args below meth c cells slots Qf ad tA D A hH H locs ls hP hD hS hl
  obtain ⟨hx, hb, hml, hown, hts, hK, hSt, hSc, hA, hR, -⟩ := id hH
  exact va_slen hx hb hSc.1 hSc.2.1 hSc.2.2 hS hd (kk hH H locs ls hP hD hS hl)
theorem zv_sld {n : Nat} {xs : Nat → Int32} {i : Int32} (hi : zin i n) (hd : decode cc pc = .ok (.iaload, 1)) (kk : zV (some (n, xs)) d y cc nL ret (pc + 1) L (.int (xs i.toNatClampNeg) :: st) h Q) : zV (some (n, xs)) d y cc nL ret pc L (.int i :: .ref 1002 :: st) h Q := by
  intro p l e R s m args below meth c cells slots Qf ad tA D A hH H locs ls hP hD hS hl
  obtain ⟨hx, hb, hml, hown, hts, hK, hSt, hSc, hA, hR, -⟩ := id hH
  exact va_sld hx hb hSc.1 hSc.2.1 hSc.2.2 hS (vp_in_iff.mpr hi) hd (kk hH H locs ls hP hD hS hl)
theorem zv_kald {i : Int32} (hi : zin i 6) (hd : decode cc pc = .ok (.iaload, 1)) (kk : zV sc d y cc nL ret (pc + 1) L (.int (zka i.toNatClampNeg) :: st) h Q) : zV sc d y cc nL ret pc L (.int i :: .ref 1000 :: st) h Q := by
  intro p l e R s m args below meth c cells slots Qf ad tA D A hH H locs ls hP hD hS hl
  obtain ⟨hx, hb, hml, hown, hts, hK, hSt, hSc, hA, hR, -⟩ := id hH
  exact va_ti hx hb hSt.1.1.2 hS (vp_in_iff.mpr hi) rfl hd (kk hH H locs ls hP hD hS hl)
theorem zv_ktld {i : Int32} (hi : zin i 6) (hd : decode cc pc = .ok (.iaload, 1)) (kk : zV sc d y cc nL ret (pc + 1) L (.int (zkt i.toNatClampNeg) :: st) h Q) : zV sc d y cc nL ret pc L (.int i :: .ref 1001 :: st) h Q := by
  intro p l e R s m args below meth c cells slots Qf ad tA D A hH H locs ls hP hD hS hl
  obtain ⟨hx, hb, hml, hown, hts, hK, hSt, hSc, hA, hR, -⟩ := id hH
  exact va_ti hx hb hSt.1.2.2 hS (vp_in_iff.mpr hi) rfl hd (kk hH H locs ls hP hD hS hl)
theorem zv_gka {index : Nat} (hw : Cond.fieldLink y.cls index "KingPrices" "KIND_ABOVE" "[I" ∈ zt) (hd : decode cc pc = .ok (.getstatic index, 3)) (kk : zV sc d y cc nL ret (pc + 3) L (.ref 1000 :: st) h Q) : zV sc d y cc nL ret pc L st h Q := by
  intro p l e R s m args below meth c cells slots Qf ad tA D A hH H locs ls hP hD hS hl
  obtain ⟨hx, hb, hml, hown, hts, hK, hSt, hSc, hA, hR, -⟩ := id hH
  exact va_gets hx hb hSt.1.1.1 hS hown (hts _ hw) (fun _ q => q) hd (kk hH H locs ls hP hD hS hl)
theorem zv_gkt {index : Nat} (hw : Cond.fieldLink y.cls index "KingPrices" "KIND_TRACE" "[I" ∈ zt) (hd : decode cc pc = .ok (.getstatic index, 3)) (kk : zV sc d y cc nL ret (pc + 3) L (.ref 1001 :: st) h Q) : zV sc d y cc nL ret pc L st h Q := by
  intro p l e R s m args below meth c cells slots Qf ad tA D A hH H locs ls hP hD hS hl
  obtain ⟨hx, hb, hml, hown, hts, hK, hSt, hSc, hA, hR, -⟩ := id hH
  exact va_gets hx hb hSt.1.2.1 hS hown (hts _ hw) (fun _ q => q) hd (kk hH H locs ls hP hD hS hl)
/-- System.arraycopy of ints; the lists of conditions as the class can meet them -/
def zcpy (n0 n1 : Nat) (sp dp n : Int32) : Prop := 0 ≤ sp.toInt ∧ 0 ≤ dp.toInt ∧ 0 ≤ n.toInt ∧ sp.toInt + n.toInt ≤ n0 ∧ dp.toInt + n.toInt ≤ n1
theorem zv_copy {index r0 r1 n0 n1 : Nat} {f g : Nat → Int32} {sp dp n : Int32} {h2 : List va_E} (hc : zcpy n0 n1 sp dp n) (hw : Cond.methodLink y.cls index arraycopyName ∈ zt ∧ Cond.native arraycopyName ∈ zt ∧ Cond.static arraycopyName ∈ zt ∧ Cond.initialized "java/lang/System" ∈ zt)
    (ha0 : h[r0]? = some (.inl (0, n0, .inl f))) (ha1 : h[r1]? = some (.inl (0, n1, .inl g))) (he : h.set r1 (.inl (0, n1, .inl (va_cpy f g sp.toNatClampNeg dp.toNatClampNeg n.toNatClampNeg))) = h2) (hsm : (st.map Value.category).sum ≤ 8) (hd : decode cc pc = .ok (.invokestatic index, 3))
    (kk : zV sc (d + 1) y cc nL ret (pc + 3) L st h2 Q) : zV sc (d + 1) y cc nL ret pc L (.int n :: .int dp :: .ref r1 :: .int sp :: .ref r0 :: st) h Q := by
  intro p l e R s m args below meth c cells slots Qf ad tA D A hH H locs ls hP hD hS hl
  obtain ⟨hx, hb, hml, hown, hts, hK, hSt, hSc, hA, hR, -⟩ := id hH
  have hz : (zw ad tA h).set r1 (ad r1, .inl (tA 0, n1, .inl (va_cpy f g sp.toNatClampNeg dp.toNatClampNeg n.toNatClampNeg))) = zw ad tA h2 := by rw [← he, zw_set]; rfl
  obtain ⟨c1, c2, c3, c4, c5⟩ := hc
  have q1 : (sp.toNatClampNeg : Int) = sp.toInt := by show ((sp.toInt).toNat : Int) = _; omega
  have q2 : (dp.toNatClampNeg : Int) = dp.toInt := by show ((dp.toInt).toNat : Int) = _; omega
  have q3 : (n.toNatClampNeg : Int) = n.toInt := by show ((n.toInt).toNat : Int) = _; omega
  have z0 : (0 : Int32).toInt = 0 := rfl
  have e1 : ((st.map (zv ad)).map fun v => v.category) = st.map Value.category := by rw [List.map_map]; exact List.map_congr_left (fun v _ => zv_cat ad v)
  exact va_copyi (ty := .int) hx hb (by rw [hml]; exact hl.1.symm) hown (hts _ hw.1) (hts _ hw.2.1) (hts _ hw.2.2.1) (hts _ hw.2.2.2) hK hP hD hS r0 r1 0 0 (zw_get ha0) (zw_get ha1) rfl rfl rfl
    (fun q => by have := Int32.lt_iff_toInt_lt.mp q; omega) (fun q => by have := Int32.lt_iff_toInt_lt.mp q; omega) (fun q => by have := Int32.lt_iff_toInt_lt.mp q; omega) (by omega) (by omega) (fun _ _ => rfl) (by omega) (by
      rw [e1]
      have hwords : nativeFrameWords "java/lang/System" "arraycopy" 5 + 11 ≤ 52 := by decide +kernel
      have := hR.2.1
      omega) hd (fun H1 locs1 hP1 hD1 hS1 => kk hH H1 locs1 ls (by rw [← hz]; exact hP1) (by rw [← hz]; exact hD1) hS1 hl)

theorem zv_max {index : Nat} {x z : Int32} (hw : Cond.methodLink y.cls index Lib.Math.max.name ∈ zt ∧ Cond.static Lib.Math.max.name ∈ zt ∧ Cond.initialized "java/lang/Math" ∈ zt ∧ Cond.code Lib.Math.max.name Lib.Math.max.code 2 (some .int) ∈ zt) (hsm : (st.map Value.category).sum ≤ 8) (hd : decode cc pc = .ok (.invokestatic index, 3))
    (kk : zV sc (d + 1) y cc nL ret (pc + 3) L (.int (if x < z then z else x) :: st) h Q) : zV sc (d + 1) y cc nL ret pc L (.int z :: .int x :: st) h Q := by
  intro p l e R s m args below meth c cells slots Qf ad tA D A hH H locs ls hP hD hS hl
  obtain ⟨hx, hb, hml, hown, hts, hK, hSt, hSc, hA, hR, -⟩ := id hH
  have e1 : ((st.map (zv ad)).map fun v => v.category) = st.map Value.category := by rw [List.map_map]; exact List.map_congr_left (fun v _ => zv_cat ad v)
  exact va_mmax hx hb (by rw [hml]; exact hl.1.symm) hown (hts _ hw.1) (hts _ hw.2.1) (hts _ hw.2.2.1) (hts _ hw.2.2.2) (by omega) (by rw [e1]; have := hR.2.1; omega) hR.2.2.1 hR.2.2.2 hd (kk hH H locs ls hP hD hS hl)
theorem zv_min {index : Nat} {x z : Int32} (hw : Cond.methodLink y.cls index Lib.Math.min.name ∈ zt ∧ Cond.static Lib.Math.min.name ∈ zt ∧ Cond.initialized "java/lang/Math" ∈ zt ∧ Cond.code Lib.Math.min.name Lib.Math.min.code 2 (some .int) ∈ zt) (hsm : (st.map Value.category).sum ≤ 8) (hd : decode cc pc = .ok (.invokestatic index, 3))
    (kk : zV sc (d + 1) y cc nL ret (pc + 3) L (.int (if z < x then z else x) :: st) h Q) : zV sc (d + 1) y cc nL ret pc L (.int z :: .int x :: st) h Q := by
  intro p l e R s m args below meth c cells slots Qf ad tA D A hH H locs ls hP hD hS hl
  obtain ⟨hx, hb, hml, hown, hts, hK, hSt, hSc, hA, hR, -⟩ := id hH
  have e1 : ((st.map (zv ad)).map fun v => v.category) = st.map Value.category := by rw [List.map_map]; exact List.map_congr_left (fun v _ => zv_cat ad v)
  exact va_mmin hx hb (by rw [hml]; exact hl.1.symm) hown (hts _ hw.1) (hts _ hw.2.1) (hts _ hw.2.2.1) (hts _ hw.2.2.2) (by omega) (by rw [e1]; have := hR.2.1; omega) hR.2.2.1 hR.2.2.2 hd (kk hH H locs ls hP hD hS hl)
end ZV
