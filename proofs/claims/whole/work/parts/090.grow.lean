/-! WORLDS THAT GROW: constructors; the cells lie one behind another from 'base' on -/
def zroomA (d mc ms : Nat) : Room := { frames := d, cells := mc, slots := ms, locals := 60 * d }
def zHA (d mc ms : Nat) (y : MethodName) (cc : ByteArray) (nL : Nat) (p : Program) (R : Room) (s : State) (m : MethodId) (args : Array Value) (meth : Method) (c : Code) (ad tA : Nat → Nat) (D : va_G) (A : Nat → Prop) (base : Nat) : Prop :=
  p.tables.exec = Jvm.exec ∧ c.code = cc ∧ c.maxLocals = nL ∧ s.vm.findClass y.cls = some m.cls ∧ (∀ w ∈ zt, w.before args s = true) ∧
  va_K D vwCl (ztys tA) s ∧ zSt ad A s s.heap ∧ va_AO "KingPrices$Story" s ∧ (∀ q : Nat, s.heap.size ≤ q → A q) ∧ (d ≤ R.frames ∧ 60 * d ≤ R.locals ∧ mc ≤ R.cells ∧ ms ≤ R.slots) ∧ (y.name = "<init>" → meth.name = "<init>") ∧ (∀ k : Nat, k < 1000 → ad k = base + k)
abbrev zG : Type := Program → Launch → Env → Room → State → MethodId → Array Value → List Frame → Method → Code → (State → Prop) → (Nat → Nat) → (Nat → Nat) → va_G → (Nat → Prop) → Nat → Prop
def zVA (d mc ms : Nat) (y : MethodName) (cc : ByteArray) (nL : Nat) (G : zG) (pc : Nat) (L : List (Nat × Value)) (st : List Value) (h : List va_E) (n k : Nat) : Prop :=
  ∀ ⦃p : Program⦄ ⦃l : Launch⦄ ⦃e : Env⦄ ⦃R : Room⦄ ⦃s : State⦄ ⦃m : MethodId⦄ ⦃args : Array Value⦄ ⦃below : List Frame⦄ ⦃meth : Method⦄ ⦃c : Code⦄ ⦃Qf : State → Prop⦄ ⦃ad tA : Nat → Nat⦄ ⦃D : va_G⦄ ⦃A : Nat → Prop⦄ ⦃base : Nat⦄,
    zHA d mc ms y cc nL p R s m args meth c ad tA D A base → G p l e R s m args below meth c Qf ad tA D A base →
    ∀ (H : Heap) (locs : List Loc) (ls : Array Slot), va_P D vwCl (zw ad tA h) H → va_D A (zw ad tA h) → va_S A s.heap H locs → lv_has ls nL (zl ad L) → base + h.length ≤ H.size → s.heap.size + n = base + h.length →
      W p l e R s m args below meth c H locs n k Qf (F0 m pc ls (st.map (zv ad)))
/-- a constructor's end -/
def zGe (mc ms : Nat) (cc : ByteArray) (h' : List va_E) : zG := fun p l e R s m args below meth c Qf ad tA D A base =>
  ∀ (H' : Heap) (locs' : List Loc) (pc' : Nat) (ls' : Array Slot), decode cc pc' = .ok (.return_, 1) → va_P D vwCl (zw ad tA h') H' → va_D A (zw ad tA h') → va_S A s.heap H' locs' → base + h'.length ≤ H'.size → W p l e R s m args below meth c H' locs' mc ms Qf (F0 m pc' ls' [])
/-- a constructor's contract -/
def zI (d mc ms : Nat) (y : MethodName) (cc : ByteArray) (nL r : Nat) (h h' : List va_E) : Prop :=
  ∀ (l : Launch) (ad tA : Nat → Nat) (D : va_G) (sz base : Nat), (∀ k : Nat, k < 1000 → ad k = base + k) → sz = base + h.length →
    Met l y (Cond.code y cc nL none :: zt) (zroomA d mc ms) (va_Pc [.ref (ad r)] (fun U => zPre ad tA D h sz U ∧ va_AO "KingPrices$Story" U))
      (fun _ st o t => (o = .returned none ∧ va_P D vwCl (zw ad tA h') t.heap ∧ va_D (va_A (zw ad tA h) sz) (zw ad tA h') ∧ base + h'.length ≤ t.heap.size) ∧ va_F (va_A (zw ad tA h) sz) st t) mc ms (va_A (zw ad tA h) sz)
theorem zw_app {ad tA : Nat → Nat} {h : List va_E} {e : va_E} : zw ad tA (h ++ [e]) = zw ad tA h ++ [(ad h.length, zc ad tA e)] := by
  unfold zw
  rw [List.mapIdx_append]
  simp
theorem zI_intro {d mc ms : Nat} {y : MethodName} {cc : ByteArray} {nL r : Nat} {h h' : List va_E} (hy : plainName y.cls = true) (hn : 1 ≤ nL) (hini : y.name = "<init>")
    (hV : zVA d mc ms y cc nL (zGe mc ms cc h') 0 [(0, .ref r)] [] h 0 0) : zI d mc ms y cc nL r h h' := by
  intro l ad tA D sz base had hsz0
  refine Met.ofW (cc := cc) (maxL := nL) (ret := none) hy rfl ?_
  intro p e s m args below meth c s₁ B hml hv
  obtain ⟨rfl, ⟨hsz, hP, hK, hD0, hSt⟩, hAO⟩ := hv
  have hx := B.exec
  have hb := B.bytes
  have hr := B.returns
  have hts := atoms_spec (ws := Cond.code y cc nL none :: zt) B.pre
  have hown : s.vm.findClass y.cls = some m.cls := findClass_of_methodNamed B.named
  have hname : meth.name = y.name := (name_of_methodNamed B.named B.method).1
  have hlocks := B.notSynchronized
  subst hsz
  have hD := hD0.self (sz := s.heap.size)
  have hS : va_S (va_A (zw ad tA h) s.heap.size) s.heap s.heap [] := va_S.rf
  have hl := lv_entry [Value.ref (ad r)] (n := nL) hn
  rw [lg_entry_eq]
  generalize (lg_sl [Value.ref (ad r)] ++ List.replicate (nL - (lg_sl [Value.ref (ad r)]).length) Slot.unset).toArray = ls at hl ⊢
  refine hV (ad := ad) (tA := tA) (D := D) (A := va_A (zw ad tA h) s.heap.size) (base := base) ⟨hx, hb, hml, hown, fun w hw => hts w (List.mem_cons_of_mem _ hw), hK, hSt, hAO, fun q h => Or.inr h, ⟨Nat.le_refl _, Nat.le_refl _, Nat.le_refl _, Nat.le_refl _⟩, fun _ => hname.trans hini, had⟩ ?_ s.heap [] ls hP hD hS hl (by omega) (by omega)
  intro H' locs' pc' ls' hdc hP' hD' hS' hz'
  exact W.vret hx hb hr (fun t ht hW => ⟨⟨rfl, by rw [ht]; exact hP', hD', by rw [ht]; exact hz'⟩, hS'.F ht⟩) hS'.2.2 hdc
section ZA
variable {d mc ms : Nat} {y : MethodName} {cc : ByteArray} {nL : Nat} {G : zG} {pc : Nat} {L : List (Nat × Value)} {st : List Value} {h : List va_E} {n k : Nat}
theorem za_ret {h' : List va_E} (he : h = h') (hd : decode cc pc = .ok (.return_, 1)) : zVA d mc ms y cc nL (zGe mc ms cc h') pc L [] h mc ms := by
  subst he
  intro p l e R s m args below meth c Qf ad tA D A base hH hG H locs ls hP hD hS hl hz hn
  exact hG H locs pc ls hd hP hD hS hz
theorem za_iconst {x : Int} {v : Int32} (hd : decode cc pc = .ok (.iconst x, 1)) (hv : Int32.ofInt x = v) (kk : zVA d mc ms y cc nL G (pc + 1) L (.int v :: st) h n k) : zVA d mc ms y cc nL G pc L st h n k := by
  intro p l e R s m args below meth c Qf ad tA D A base hH hG H locs ls hP hD hS hl hz hn
  exact lv_iconst hH.1 hH.2.1 hd hv (kk hH hG H locs ls hP hD hS hl hz hn)
theorem za_bipush {x : Int} {v : Int32} (hd : decode cc pc = .ok (.bipush x, 2)) (hv : (Int8.ofInt x).toInt32 = v) (kk : zVA d mc ms y cc nL G (pc + 2) L (.int v :: st) h n k) : zVA d mc ms y cc nL G pc L st h n k := by
  intro p l e R s m args below meth c Qf ad tA D A base hH hG H locs ls hP hD hS hl hz hn
  exact lv_bipush hH.1 hH.2.1 hd hv (kk hH hG H locs ls hP hD hS hl hz hn)
theorem za_sipush {x : Int} {v : Int32} (hd : decode cc pc = .ok (.sipush x, 3)) (hv : (Int16.ofInt x).toInt32 = v) (kk : zVA d mc ms y cc nL G (pc + 3) L (.int v :: st) h n k) : zVA d mc ms y cc nL G pc L st h n k := by
  intro p l e R s m args below meth c Qf ad tA D A base hH hG H locs ls hP hD hS hl hz hn
  exact lv_sipush hH.1 hH.2.1 hd hv (kk hH hG H locs ls hP hD hS hl hz hn)
theorem za_aload_n {k0 : Fin 4} {i x : Nat} (hd : decode cc pc = .ok (.aload_n k0, 1)) (hi : (k0 : Nat) = i) (hx : zlk i L = some (.ref x)) (kk : zVA d mc ms y cc nL G (pc + 1) L (.ref x :: st) h n k) : zVA d mc ms y cc nL G pc L st h n k := by
  intro p l e R s m args below meth c Qf ad tA D A base hH hG H locs ls hP hD hS hl hz hn
  exact lv_aload_n hH.1 hH.2.1 hd hi (zl_at hl hx) (kk hH hG H locs ls hP hD hS hl hz hn)
theorem za_istore_n {k0 : Fin 4} {i : Nat} {x : Int32} (hd : decode cc pc = .ok (.istore_n k0, 1)) (hi : (k0 : Nat) = i) (hi2 : i < nL) (kk : zVA d mc ms y cc nL G (pc + 1) (zst i (.int x) L) st h n k) : zVA d mc ms y cc nL G pc L (.int x :: st) h n k := by
  intro p l e R s m args below meth c Qf ad tA D A base hH hG H locs ls hP hD hS hl hz hn
  exact lv_istore_n hH.1 hH.2.1 hd hi hl hi2 rfl (fun ls' hl' => kk hH hG H locs ls' hP hD hS (zl_st hl') hz hn)
theorem za_astore_n {k0 : Fin 4} {i x : Nat} (hd : decode cc pc = .ok (.astore_n k0, 1)) (hi : (k0 : Nat) = i) (hi2 : i < nL) (kk : zVA d mc ms y cc nL G (pc + 1) (zst i (.ref x) L) st h n k) : zVA d mc ms y cc nL G pc L (.ref x :: st) h n k := by
  intro p l e R s m args below meth c Qf ad tA D A base hH hG H locs ls hP hD hS hl hz hn
  exact lv_astore_n hH.1 hH.2.1 hd hi hl hi2 rfl (fun ls' hl' => kk hH hG H locs ls' hP hD hS (zl_st hl') hz hn)
theorem za_dup {va : Value} (hd : decode cc pc = .ok (.dup, 1)) (hc : va.category = 1) (kk : zVA d mc ms y cc nL G (pc + 1) L (va :: va :: st) h n k) : zVA d mc ms y cc nL G pc L (va :: st) h n k := by
  intro p l e R s m args below meth c Qf ad tA D A base hH hG H locs ls hP hD hS hl hz hn
  exact lv_dup hH.1 hH.2.1 hd ((zv_cat ad va).trans hc) (kk hH hG H locs ls hP hD hS hl hz hn)
theorem zcat (ad : Nat → Nat) (st : List Value) : ((st.map (zv ad)).map fun v => v.category) = st.map Value.category := by
  rw [List.map_map]; exact List.map_congr_left (fun v _ => zv_cat ad v)
theorem za_obj {idx r : Nat} (hw : Cond.methodLink y.cls idx objectInit ∈ zt ∧ Cond.instanceMethod objectInit ∈ zt ∧ Cond.code objectInit ⟨#[0xb1]⟩ 1 none ∈ zt) (hsm : (st.map Value.category).sum ≤ 8) (hd : decode cc pc = .ok (.invokespecial idx, 3)) (kk : zVA (d + 1) mc ms y cc nL G (pc + 3) L st h n k) : zVA (d + 1) mc ms y cc nL G pc L (.ref r :: st) h n k := by
  intro p l e R s m args below meth c Qf ad tA D A base hH hG H locs ls hP hD hS hl hz hn
  obtain ⟨hx, hb, hml, hown, hts, hK, hSt, hAO, hA, hR, hni, had⟩ := id hH
  refine W.objInit hx hb hown (hts _ hw.1) (hts _ hw.2.1) (hts _ hw.2.2) rfl (by rw [hml]; exact hl.1) (rest := st.map (zv ad)) rfl hd (by omega) ?_ (kk hH hG H locs ls hP hD hS hl hz hn)
  have h1 := lv_room (m := m) (pc := pc) (ls := ls) (rest := (Value.ref r :: st).map (zv ad)) (st := st.map (zv ad)) (by rw [zcat]; exact hsm)
  omega
theorem za_size {p : Program} {l : Launch} {e : Env} {R : Room} {s T : State} {m : MethodId} {args : Array Value} {below : List Frame} {meth : Method} {c : Code} {H : Heap} {locs : List Loc} {base : Nat} (hT : T.heap = H) (X : Stand p l e R s m args below meth c T locs n k) (hz : base + h.length ≤ H.size) (hn : s.heap.size + n = base + h.length) : H.size = base + h.length := by
  have := X.heapSize
  rw [hT] at this
  omega
theorem za_at {p : Program} {l : Launch} {e : Env} {R : Room} {s : State} {m : MethodId} {args : Array Value} {below : List Frame} {meth : Method} {c : Code} {H : Heap} {locs : List Loc} {base : Nat} {Qf : State → Prop} {g : JFrame} (hz : base + h.length ≤ H.size) (hn : s.heap.size + n = base + h.length) (kk : H.size = base + h.length → W p l e R s m args below meth c H locs n k Qf g) : W p l e R s m args below meth c H locs n k Qf g :=
  fun T hT X => kk (za_size hT X hz hn) T hT X
theorem za_push {s : State} {H H1 : Heap} {locs : List Loc} {ad tA : Nat → Nat} {D : va_G} {A : Nat → Prop} {e : va_E} {h2 : List va_E} (hP : va_P D vwCl (zw ad tA h) H) (hD : va_D A (zw ad tA h)) (hS : va_S A s.heap H locs) (hA : ∀ q : Nat, s.heap.size ≤ q → A q) (ha : ad h.length = H.size)
    (z1 : H1.size = H.size + 1) (o1 : ∀ q : Nat, q < H.size → H1[q]? = H[q]?) (e1 : va_at D vwCl (H.size, zc ad tA e) H1) (he : h ++ [e] = h2) : va_P D vwCl (zw ad tA h2) H1 ∧ va_D A (zw ad tA h2) ∧ va_S A s.heap H1 locs := by
  subst he
  rw [zw_app, ha]
  have hk : ∀ (q : Nat) (x : Nat × va_E), (zw ad tA h)[q]? = some x → H1[x.1]? = H[x.1]? := fun q x hx => o1 x.1 ((hP q x hx).lt)
  refine ⟨(hP.kept hk).app (fun q x hx => ?_), hD.push hP rfl (hA _ hS.1), ⟨Nat.le_trans hS.1 (by omega), fun x h1 h2 => (o1 x (Nat.lt_of_lt_of_le h1 hS.1)).trans (hS.2.1 x h1 h2), hS.2.2⟩⟩
  have hz : q < 1 := (List.getElem?_eq_some_iff.mp hx).1
  rw [show q = 0 by omega] at hx
  cases hx
  exact e1
theorem za_newa {atype : ArrayType} {ty : FieldType} {t N r : Nat} {v : Int32} {h2 : List va_E} (hd : decode cc pc = .ok (.newarray atype, 2)) (hw : Cond.arrayClass (newarray.typeOf atype) ∈ zt) (hty : newarray.typeOf atype = ty) (htt : ∀ tA : Nat → Nat, (ztys tA)[t]? = some (tA t, ty)) (hra : ∀ (U : State) (cA : ClassId), va_RA U cA ty → U.vm.findClass ("[" ++ ty.toString) = some cA) (ht : t < 3) (hdf : defaultValue ty = .int 0)
    (hv0 : ¬ v < 0) (hv : v.toNatClampNeg = N) (hby : N * componentBytes ty ≤ 536870912) (hc : n + 1 ≤ mc) (hs : k + N ≤ ms) (hr : h.length = r) (hr2 : r < 1000) (he : h ++ [.inl (t, N, .inl (fun _ => 0))] = h2)
    (kk : zVA d mc ms y cc nL G (pc + 2) L (.ref r :: st) h2 (n + 1) (k + N)) : zVA d mc ms y cc nL G pc L (.int v :: st) h n k := by
  intro p l e R s m args below meth c Qf ad tA D A base hH hG H locs ls hP hD hS hl hz hn
  obtain ⟨hx, hb, hml, hown, hts, hK, hSt, hAO, hA, hR, hni, had⟩ := id hH
  refine za_at hz hn (fun hsz => ?_)
  have ha : ad h.length = H.size := by rw [had _ (by omega)]; exact hsz.symm
  have hlen : h2.length = h.length + 1 := by rw [← he]; simp
  refine va_newaK hx hb (hts _ hw) rfl hd rfl hv0 hv (by rw [hty]; exact hby) (by omega) (by omega) rfl fun H1 cA e1 z1 o1 hAr hNm => ?_
  have hcA : cA = tA t := by
    have h1 := hra s _ (hK.2 t _ (htt tA)).2
    rw [hty] at hNm
    exact Option.some.inj (hNm.symm.trans h1)
  subst hcA
  obtain ⟨q1, q2, q3⟩ := za_push (s := s) hP hD hS hA ha z1 o1 (e := .inl (t, N, .inl (fun _ => 0))) (by
    show H1[H.size]? = some (vp_cell _ _)
    rw [e1, hty, hdf]
    rfl) he
  have := kk hH hG H1 locs ls q1 q2 q3 hl (by omega) (by omega)
  rw [show (Value.ref r :: st).map (zv ad) = .ref H.size :: st.map (zv ad) by rw [← ha, hr]; rfl] at this
  exact this
theorem za_new {index ci N r : Nat} {C : String} {T : u_T} {fs : List Value} {ty : Nat → FieldType} {h2 : List va_E} (hd : decode cc pc = .ok (.new index, 3)) (hcl : vwCl[ci]? = some (C, T, N)) (hin : ∀ w ∈ u_ws C T N, w ∈ zt) (hty : ∀ k, k < N → parseFieldDescriptor (T k).2.2.1 = some (ty k)) (hw : Cond.classLink y.cls index C ∈ zt ∧ Cond.instantiable C N ∈ zt ∧ Cond.initialized C ∈ zt)
    (hfs : ∀ j, j < N → defaultValue (ty j) = vp_V fs j) (hfz : ∀ ad : Nat → Nat, fs.map (zv ad) = fs) (hc : n + 1 ≤ mc) (hs : k + N ≤ ms) (hr : h.length = r) (hr2 : r < 1000) (he : h ++ [.inr (ci, fs)] = h2)
    (kk : zVA d mc ms y cc nL G (pc + 3) L (.ref r :: st) h2 (n + 1) (k + N)) : zVA d mc ms y cc nL G pc L st h n k := by
  intro p l e R s m args below meth c Qf ad tA D A base hH hG H locs ls hP hD hS hl hz hn
  obtain ⟨hx, hb, hml, hown, hts, hK, hSt, hAO, hA, hR, hni, had⟩ := id hH
  refine za_at hz hn (fun hsz => ?_)
  have ha : ad h.length = H.size := by rw [had _ (by omega)]; exact hsz.symm
  have hlen : h2.length = h.length + 1 := by rw [← he]; simp
  have hKn := hK.1 ci _ hcl
  refine W.newcK hx hb hown (hts _ hw.1) (hts _ hw.2.1) (hts _ hw.2.2) rfl hd (by omega) (by omega) hKn.2.1 rfl fun H1 kC hkC e1 z1 o1 => ?_
  obtain ⟨q1, q2, q3⟩ := za_push (s := s) hP hD hS hA ha z1 o1 (e := .inr (ci, fs)) (by
    show va_at D vwCl (H.size, .inr (ci, fs.map (zv ad))) H1
    rw [hfz ad]
    exact ⟨_, hcl, (u_born ty hts hin hKn hkC e1 hty).to hfs⟩) he
  have := kk hH hG H1 locs ls q1 q2 q3 hl (by omega) (by omega)
  rw [show (Value.ref r :: st).map (zv ad) = .ref H.size :: st.map (zv ad) by rw [← ha, hr]; rfl] at this
  exact this
theorem za_newq {index N r : Nat} {v : Int32} {h2 : List va_E} (hd : decode cc pc = .ok (.anewarray index, 3)) (hw : Cond.classLink y.cls index "KingPrices$Story" ∈ zt)
    (hv0 : ¬ v < 0) (hv : v.toNatClampNeg = N) (hby : N * 4 ≤ 536870912) (hc : n + 1 ≤ mc) (hs : k + N ≤ ms) (hr : h.length = r) (hr2 : r < 1000) (he : h ++ [.inl (3, N, .inr (.inr (.inr (.inr (fun _ => none)))))] = h2)
    (kk : zVA d mc ms y cc nL G (pc + 3) L (.ref r :: st) h2 (n + 1) (k + N)) : zVA d mc ms y cc nL G pc L (.int v :: st) h n k := by
  intro p l e R s m args below meth c Qf ad tA D A base hH hG H locs ls hP hD hS hl hz hn
  obtain ⟨hx, hb, hml, hown, hts, hK, hSt, hAO, hA, hR, hni, had⟩ := id hH
  refine za_at hz hn (fun hsz => ?_)
  have ha : ad h.length = H.size := by rw [had _ (by omega)]; exact hsz.symm
  have hlen : h2.length = h.length + 1 := by rw [← he]; simp
  subst hv
  refine W.anew hx hb hown (hts _ hw) (va_AO.use hAO) rfl hd rfl hv0 hby (by omega) (by omega) fun cA kA comp f1 f2 f3 f4 => ?_
  have hcA : cA = tA 3 := by
    obtain ⟨-, -, -, -, -, h1⟩ := (hK.2 3 _ rfl).2
    exact Option.some.inj (f1.symm.trans h1)
  subst hcA
  generalize hH1 : H.push ({ cls := tA 3, slots := Array.replicate v.toNatClampNeg .null, vm := .none } : Cell) = H1
  have z1 : H1.size = H.size + 1 := by rw [← hH1, Array.size_push]
  have e1 : H1[H.size]? = some (arrV (tA 3) v.toNatClampNeg (fun _ => .null)) := by rw [← hH1, Array.getElem?_push_size, ← arrV_new]
  have o1 : ∀ q : Nat, q < H.size → H1[q]? = H[q]? := fun q hq => by rw [← hH1, Array.getElem?_push, if_neg (Nat.ne_of_lt hq)]
  obtain ⟨q1, q2, q3⟩ := za_push (s := s) hP hD hS hA ha z1 o1 (e := .inl (3, v.toNatClampNeg, .inr (.inr (.inr (.inr (fun _ => none)))))) (by
    show H1[H.size]? = some (vp_cell _ _)
    rw [e1]
    rfl) he
  have := kk hH hG H1 locs ls q1 q2 q3 hl (by omega) (by omega)
  rw [show (Value.ref r :: st).map (zv ad) = .ref H.size :: st.map (zv ad) by rw [← ha, hr]; rfl] at this
  exact this
end ZA
