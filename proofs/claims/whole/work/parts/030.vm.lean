/-! AN ABSTRACT MACHINE OVER THE KIT'S ROWS: worlds are lists of cells that are named by their places; 'ad' says where they lie -/
def zt : List Cond := lw_tbl.filter goodWord
def zv (ad : Nat → Nat) : Value → Value
  | .ref k => .ref (ad k)
  | v => v
def zc (ad tA : Nat → Nat) : va_E → va_E
  | .inl (t, n, .inr (.inr (.inr (.inr f)))) => .inl (tA t, n, .inr (.inr (.inr (.inr (fun j => (f j).map ad)))))
  | .inl (t, x) => .inl (tA t, x)
  | .inr (ci, fs) => .inr (ci, fs.map (zv ad))
def zw (ad tA : Nat → Nat) (h : List va_E) : va_W := h.mapIdx (fun k e => (ad k, zc ad tA e))
theorem zw_get {ad tA : Nat → Nat} {h : List va_E} {k : Nat} {e : va_E} (hk : h[k]? = some e) : (zw ad tA h)[k]? = some (ad k, zc ad tA e) := by
  unfold zw
  rw [List.getElem?_mapIdx, hk]
  rfl
theorem zw_set {ad tA : Nat → Nat} {h : List va_E} {k : Nat} {e : va_E} : zw ad tA (h.set k e) = (zw ad tA h).set k (ad k, zc ad tA e) := by
  unfold zw
  apply List.ext_getElem?
  intro i
  rw [List.getElem?_mapIdx]
  by_cases hi : k = i
  · subst hi
    by_cases hl : k < h.length
    · rw [List.getElem?_set_self hl, List.getElem?_set_self (by simpa using hl)]
      rfl
    · rw [List.getElem?_eq_none (by simpa using hl), List.getElem?_eq_none (by simpa using hl)]
      rfl
  · rw [List.getElem?_set_ne hi, List.getElem?_set_ne hi, List.getElem?_mapIdx]
def zl (ad : Nat → Nat) (L : List (Nat × Value)) : List (Nat × Value) := L.map (fun q => (q.1, zv ad q.2))
def zlk (i : Nat) : List (Nat × Value) → Option Value
  | [] => none
  | q :: L => cond (Nat.beq q.1 i) (some q.2) (zlk i L)
def zdrop (i : Nat) : List (Nat × Value) → List (Nat × Value)
  | [] => []
  | q :: L => cond (Nat.beq q.1 i) (zdrop i L) (cond (Nat.beq q.2.category 2) (zdrop i L) (q :: zdrop i L))
def zst (i : Nat) (v : Value) (L : List (Nat × Value)) : List (Nat × Value) := (i, v) :: zdrop i L
theorem zlk_mem {i : Nat} {v : Value} : ∀ {L : List (Nat × Value)}, zlk i L = some v → (i, v) ∈ L
  | [], h => by simp [zlk] at h
  | q :: L, h => by
    unfold zlk at h
    cases hb : Nat.beq q.1 i with
    | true =>
      rw [hb] at h
      have h1 : q.1 = i := Nat.eq_of_beq_eq_true hb
      have h2 : q.2 = v := Option.some.inj h
      rw [← h1, ← h2]
      exact List.mem_cons_self
    | false =>
      rw [hb] at h
      exact List.mem_cons_of_mem _ (zlk_mem h)
theorem zdrop_mem {i : Nat} {q : Nat × Value} : ∀ {L : List (Nat × Value)}, q ∈ zdrop i L → q ∈ L ∧ q.1 ≠ i ∧ q.2.category ≠ 2
  | [], h => by simp [zdrop] at h
  | q0 :: L, h => by
    unfold zdrop at h
    cases hb : Nat.beq q0.1 i with
    | true =>
      rw [hb] at h
      have h1 := zdrop_mem (L := L) h
      exact ⟨List.mem_cons_of_mem _ h1.1, h1.2⟩
    | false =>
      rw [hb] at h
      cases hc : Nat.beq q0.2.category 2 with
      | true =>
        rw [hc] at h
        have h1 := zdrop_mem (L := L) h
        exact ⟨List.mem_cons_of_mem _ h1.1, h1.2⟩
      | false =>
        rw [hc] at h
        rcases List.mem_cons.mp h with e | h2
        · subst e
          exact ⟨List.mem_cons_self, Nat.ne_of_beq_eq_false hb, Nat.ne_of_beq_eq_false hc⟩
        · have h1 := zdrop_mem (L := L) h2
          exact ⟨List.mem_cons_of_mem _ h1.1, h1.2⟩
theorem zv_cat (ad : Nat → Nat) (v : Value) : (zv ad v).category = v.category := by cases v <;> rfl
theorem zl_at {ad : Nat → Nat} {ls : Array Slot} {nL i : Nat} {L : List (Nat × Value)} {v : Value} (hl : lv_has ls nL (zl ad L)) (h : zlk i L = some v) : ls[i]? = some (.val (zv ad v)) :=
  hl.2.2 (i, zv ad v) (List.mem_map.mpr ⟨(i, v), zlk_mem h, rfl⟩)
theorem zl_st {ad : Nat → Nat} {ls' : Array Slot} {nL i : Nat} {L : List (Nat × Value)} {v : Value} (hl : lv_has ls' nL ((i, zv ad v) :: (zl ad L).filter (fun q => !(q.1 == i) && !(q.1 + 1 == i && q.2.category == 2)))) : lv_has ls' nL (zl ad (zst i v L)) := by
  refine ⟨hl.1, hl.2.1, fun q hq => hl.2.2 q ?_⟩
  obtain ⟨q0, h1, h2⟩ := List.mem_map.mp hq
  subst h2
  rcases List.mem_cons.mp h1 with e | h3
  · subst e
    exact List.mem_cons_self
  · obtain ⟨a1, a2, a3⟩ := zdrop_mem h3
    refine List.mem_cons_of_mem _ (List.mem_filter.mpr ⟨List.mem_map.mpr ⟨q0, a1, rfl⟩, ?_⟩)
    simp [a2, a3, zv_cat]
def zsub : List (Nat × Value) → List (Nat × Value) → Prop
  | [], _ => True
  | q :: L', L => zlk q.1 L = some q.2 ∧ zsub L' L
theorem zsub_mem : ∀ {L' L : List (Nat × Value)}, zsub L' L → ∀ q ∈ L', q ∈ L
  | [], _, _, q, h => by cases h
  | q0 :: L', L, hs, q, h => by
    rcases List.mem_cons.mp h with e | h
    · subst e
      exact zlk_mem hs.1
    · exact zsub_mem hs.2 q h
/-- the kinds of arrays: 0 int, 1 byte, 2 boolean, 3 Story -/
def ztys (tA : Nat → Nat) : List (ClassId × FieldType) := [(tA 0, .int), (tA 1, .byte), (tA 2, .boolean), (tA 3, .object "KingPrices$Story")]
def zka (j : Nat) : Int32 := [0, 0, 0, 1, 2, 0].getD j 0
def zkt (j : Nat) : Int32 := [1, 10, 100, 1000, 10000, 100000].getD j 0
def zSt0 (ad : Nat → Nat) (A : Nat → Prop) (U : State) (H : Heap) : Prop :=
  (va_Z "KingPrices" "KIND_ABOVE" "[I" (.ref (ad 1000)) A U H ∧ va_T .int (ad 1000) 6 (fun j => .int (zka j)) A U H) ∧
  (va_Z "KingPrices" "KIND_TRACE" "[I" (.ref (ad 1001)) A U H ∧ va_T .int (ad 1001) 6 (fun j => .int (zkt j)) A U H)
theorem zSt0.moved {ad : Nat → Nat} {A : Nat → Prop} {u U : State} {H : Heap} (hvm : u.vm.Alike U.vm) (h : zSt0 ad A u H) : zSt0 ad A U H :=
  ⟨⟨h.1.1.moved hvm, h.1.2.moved hvm⟩, ⟨h.2.1.moved hvm, h.2.2.moved hvm⟩⟩
def zisN : Cond → Bool
  | .fieldLinkNest _ _ _ _ _ _ => true
  | .methodLinkNest _ _ _ _ => true
  | _ => false
def zNs (U : State) : Prop := ∀ w ∈ lw_tbl, zisN w = true → va_Nw w U
theorem zNs.same {u U : State} (h : u.vm = U.vm) (hN : zNs u) : zNs U := by
  intro w hw hi
  have h1 := hN w hw hi
  cases w <;> first | (exact va_Nw.same rfl h h1) | (cases hi)
theorem zNs.warm {s U : State} (hW : s.WarmedH U.vm) (hN : zNs s) : zNs U := by
  intro w hw hi
  have h1 := hN w hw hi
  cases w <;> first | (exact va_Nw.warmF hW h1) | (exact va_Nw.warmM hW h1) | (cases hi)
def zSt (ad : Nat → Nat) (A : Nat → Prop) (U : State) (H : Heap) : Prop := zSt0 ad A U H ∧ zNs U
theorem zSt.same {ad : Nat → Nat} {A : Nat → Prop} {u U : State} {H : Heap} (hvm : u.vm = U.vm) (h : zSt ad A u H) : zSt ad A U H := ⟨h.1.moved (by rw [hvm]; exact Vm.Alike.refl _), h.2.same hvm⟩
theorem zSt.warm {ad : Nat → Nat} {A : Nat → Prop} {s U : State} {H : Heap} (hW : s.WarmedH U.vm) (h : zSt ad A s H) : zSt ad A U H := ⟨h.1.moved hW.alike, h.2.warm hW⟩
theorem zSt.kept {ad : Nat → Nat} {A : Nat → Prop} {U : State} {H H1 : Heap} (h : zSt ad A U H) (hq : ∀ a : Nat, a < H.size → ¬ A a → H1[a]? = H[a]?) : zSt ad A U H1 :=
  ⟨⟨⟨h.1.1.1.kept hq, h.1.1.2.kept hq⟩, ⟨h.1.2.1.kept hq, h.1.2.2.kept hq⟩⟩, h.2⟩
theorem zSt.narrow {ad : Nat → Nat} {A B : Nat → Prop} {U : State} {H : Heap} (h : zSt ad A U H) (hAB : ∀ q, B q → A q) : zSt ad B U H :=
  ⟨⟨⟨h.1.1.1.narrow hAB, h.1.1.2.narrow hAB⟩, ⟨h.1.2.1.narrow hAB, h.1.2.2.narrow hAB⟩⟩, h.2⟩
/-- the law's script, where there is one -/
def zSc (ad : Nat → Nat) (A : Nat → Prop) (sc : Option (Nat × (Nat → Int32))) (s : State) : Prop := match sc with
  | none => True
  | some (n, xs) => va_X (ad 1002) n xs s s.heap ∧ ad 1002 < s.heap.size ∧ ¬ A (ad 1002)
def zroom (d : Nat) : Room := { frames := d, cells := 0, slots := 0, locals := 60 * d }
def zrt (ret : Option FieldType) (v : Option Value) (i : Instr) : Prop :=
  (i = .ireturn ∧ ∃ (x : Int32) (ty : FieldType), v = some (.int x) ∧ ret = some ty ∧ narrow ty (.int x) = .int x) ∨ (i = .return_ ∧ v = none ∧ ret = none) ∨ (i = .lreturn ∧ ∃ x : Int64, v = some (.long x) ∧ ret = some .long)
def zH (sc : Option (Nat × (Nat → Int32))) (d : Nat) (y : MethodName) (cc : ByteArray) (nL : Nat) (ret : Option FieldType) (Q : Option Value → List va_E → Prop)
    (p : Program) (l : Launch) (e : Env) (R : Room) (s : State) (m : MethodId) (args : Array Value) (below : List Frame) (meth : Method) (c : Code) (cells slots : Nat) (Qf : State → Prop) (ad tA : Nat → Nat) (D : va_G) (A : Nat → Prop) : Prop :=
  p.tables.exec = Jvm.exec ∧ c.code = cc ∧ c.maxLocals = nL ∧ s.vm.findClass y.cls = some m.cls ∧ (∀ w ∈ zt, w.before args s = true) ∧
  va_K D vwCl (ztys tA) s ∧ zSt ad A s s.heap ∧ zSc ad A sc s ∧ (∀ q : Nat, s.heap.size ≤ q → A q) ∧ (d ≤ R.frames ∧ 60 * d ≤ R.locals ∧ cells ≤ R.cells ∧ slots ≤ R.slots) ∧
  (∀ (v : Option Value) (h' : List va_E) (H' : Heap) (locs' : List Loc) (pc' : Nat) (ls' : Array Slot) (i : Instr), Q v h' → zrt ret v i → decode cc pc' = .ok (i, 1) → va_P D vwCl (zw ad tA h') H' → va_D A (zw ad tA h') → va_S A s.heap H' locs' →
    W p l e R s m args below meth c H' locs' cells slots Qf (F0 m pc' ls' ((v.map (zv ad)).toList)))
/-- from pc on, with these locals, this stack and this world, the method comes to its end with Q of its answer and its world -/
def zV (sc : Option (Nat × (Nat → Int32))) (d : Nat) (y : MethodName) (cc : ByteArray) (nL : Nat) (ret : Option FieldType) (pc : Nat) (L : List (Nat × Value)) (st : List Value) (h : List va_E) (Q : Option Value → List va_E → Prop) : Prop :=
  ∀ ⦃p : Program⦄ ⦃l : Launch⦄ ⦃e : Env⦄ ⦃R : Room⦄ ⦃s : State⦄ ⦃m : MethodId⦄ ⦃args : Array Value⦄ ⦃below : List Frame⦄ ⦃meth : Method⦄ ⦃c : Code⦄ ⦃cells slots : Nat⦄ ⦃Qf : State → Prop⦄ ⦃ad tA : Nat → Nat⦄ ⦃D : va_G⦄ ⦃A : Nat → Prop⦄,
    zH sc d y cc nL ret Q p l e R s m args below meth c cells slots Qf ad tA D A →
    ∀ (H : Heap) (locs : List Loc) (ls : Array Slot), va_P D vwCl (zw ad tA h) H → va_D A (zw ad tA h) → va_S A s.heap H locs → lv_has ls nL (zl ad L) →
      W p l e R s m args below meth c H locs cells slots Qf (F0 m pc ls (st.map (zv ad)))
def zPre (ad tA : Nat → Nat) (D : va_G) (h : List va_E) (sz : Nat) (U : State) : Prop :=
  U.heap.size = sz ∧ va_P D vwCl (zw ad tA h) U.heap ∧ va_K D vwCl (ztys tA) U ∧ va_D (fun _ => True) (zw ad tA h) ∧ zSt ad (va_A (zw ad tA h) sz) U U.heap
def zPost (ad tA : Nat → Nat) (D : va_G) (h : List va_E) (sz : Nat) (Q : Option Value → List va_E → Prop) : Array Value → State → Outcome → State → Prop := fun _ st o t =>
  (∃ (r : Option Value) (h' : List va_E), o = .returned (r.map (zv ad)) ∧ Q r h' ∧ va_P D vwCl (zw ad tA h') t.heap ∧ va_D (va_A (zw ad tA h) sz) (zw ad tA h')) ∧ va_F (va_A (zw ad tA h) sz) st t
/-- a method's contract -/
def zC (d : Nat) (y : MethodName) (cc : ByteArray) (nL : Nat) (ret : Option FieldType) (av : List Value) (h : List va_E) (Q : Option Value → List va_E → Prop) : Prop :=
  ∀ (l : Launch) (ad tA : Nat → Nat) (D : va_G) (sz : Nat), Met l y (Cond.code y cc nL ret :: zt) (zroom d) (va_Pc (av.map (zv ad)) (zPre ad tA D h sz)) (zPost ad tA D h sz Q) 0 0 (va_A (zw ad tA h) sz)
def zq (rv : Option Value) (h' : List va_E) : Option Value → List va_E → Prop := fun v k => v = rv ∧ k = h'
theorem zl_args (ad : Nat → Nat) : ∀ (av : List Value) (i : Nat), lv_args i (av.map (zv ad)) = zl ad (lv_args i av)
  | [], _ => rfl
  | v :: av, i => by
    simp only [List.map_cons, lv_args, zl, zv_cat]
    rw [zl_args ad av]
    rfl
theorem zC_intro {d : Nat} {y : MethodName} {cc : ByteArray} {nL : Nat} {ret : Option FieldType} {av : List Value} {h : List va_E} {Q : Option Value → List va_E → Prop} {L : List (Nat × Value)}
    (hy : plainName y.cls = true) (hL : lv_args 0 av = L) (hn : (av.map Value.category).sum ≤ nL) (hV : zV none d y cc nL ret 0 L [] h Q) : zC d y cc nL ret av h Q := by
  intro l ad tA D sz
  refine Met.ofW (cc := cc) (maxL := nL) (ret := ret) hy rfl ?_
  intro p e s m args below meth c s₁ B hml hv
  obtain ⟨rfl, hsz, hP, hK, hD0, hSt⟩ := hv
  have hx := B.exec
  have hb := B.bytes
  have hr := B.returns
  have hts := atoms_spec (ws := Cond.code y cc nL ret :: zt) B.pre
  have hown : s.vm.findClass y.cls = some m.cls := findClass_of_methodNamed B.named
  have hlocks := B.notSynchronized
  subst hsz
  have hD := hD0.self (sz := s.heap.size)
  have hS : va_S (va_A (zw ad tA h) s.heap.size) s.heap s.heap [] := va_S.rf
  have hlen : (lg_sl (av.map (zv ad))).length ≤ nL := by
    have key : ∀ l : List Value, (lg_sl (l.map (zv ad))).length = (l.map Value.category).sum := by
      intro l
      induction l with
      | nil => rfl
      | cons v l ih =>
        have h1 : (lg_sl ((v :: l).map (zv ad))).length = (lg_sl [zv ad v]).length + (lg_sl (l.map (zv ad))).length := by
          simp [lg_sl]
        rw [h1, ih]
        have h2 : (lg_sl [zv ad v]).length = v.category := by cases v <;> rfl
        rw [h2]
        simp
    rw [key]; exact hn
  have hl := lv_entry (av.map (zv ad)) (n := nL) hlen
  rw [zl_args, hL] at hl
  rw [lg_entry_eq]
  generalize (lg_sl (av.map (zv ad)) ++ List.replicate (nL - (lg_sl (av.map (zv ad))).length) Slot.unset).toArray = ls at hl ⊢
  refine hV ⟨hx, hb, hml, hown, fun w hw => hts w (List.mem_cons_of_mem _ hw), hK, hSt, trivial, fun q h => Or.inr h, ⟨Nat.le_refl _, Nat.le_refl _, Nat.zero_le _, Nat.zero_le _⟩, ?_⟩ s.heap [] ls hP hD hS hl
  intro v h' H' locs' pc' ls' i hQ hrt hdc hP' hD' hS'
  rcases hrt with ⟨rfl, x, ty, rfl, hret, hn⟩ | ⟨rfl, rfl, hret⟩ | ⟨rfl, x, rfl, hret⟩
  · exact W.zret (ty := ty) hx hb (hr.trans hret) hn (fun t ht hW => ⟨⟨some (.int x), h', rfl, hQ, by rw [ht]; exact hP', hD'⟩, hS'.F ht⟩) hS'.2.2 hdc
  · exact W.vret hx hb (hr.trans hret) (fun t ht hW => ⟨⟨none, h', rfl, hQ, by rw [ht]; exact hP', hD'⟩, hS'.F ht⟩) hS'.2.2 hdc
  · exact W.lret hx hb (hr.trans hret) (fun t ht hW => ⟨⟨some (.long x), h', rfl, hQ, by rw [ht]; exact hP', hD'⟩, hS'.F ht⟩) hS'.2.2 hdc
section ZV
variable {sc : Option (Nat × (Nat → Int32))} {d : Nat} {y : MethodName} {cc : ByteArray} {nL : Nat} {ret : Option FieldType} {pc : Nat} {L : List (Nat × Value)} {st : List Value} {h : List va_E} {Q : Option Value → List va_E → Prop}
theorem zV_sub (L' : List (Nat × Value)) (hs : zsub L' L) (k : zV sc d y cc nL ret pc L' st h Q) : zV sc d y cc nL ret pc L st h Q := by
  intro p l e R s m args below meth c cells slots Qf ad tA D A hH H locs ls hP hD hS hl
  refine k hH H locs ls hP hD hS ⟨hl.1, hl.2.1, fun q hq => hl.2.2 q ?_⟩
  obtain ⟨q0, h1, h2⟩ := List.mem_map.mp hq
  exact List.mem_map.mpr ⟨q0, zsub_mem hs q0 h1, h2⟩
theorem zV_eq {h2 : List va_E} (he : h = h2) (k : zV sc d y cc nL ret pc L st h2 Q) : zV sc d y cc nL ret pc L st h Q := he ▸ k

theorem zv_iconst {n : Int} {v : Int32} (hd : decode cc pc = .ok (.iconst n, 1)) (hv : Int32.ofInt n = v) (k : zV sc d y cc nL ret (pc + 1) L (.int v :: st) h Q) : zV sc d y cc nL ret pc L (st) h Q := by
  intro p l e R s m args below meth c cells slots Qf ad tA D A hH H locs ls hP hD hS hl
  exact lv_iconst hH.1 hH.2.1 hd hv (k hH H locs ls hP hD hS hl)
theorem zv_bipush {n : Int} {v : Int32} (hd : decode cc pc = .ok (.bipush n, 2)) (hv : (Int8.ofInt n).toInt32 = v) (k : zV sc d y cc nL ret (pc + 2) L (.int v :: st) h Q) : zV sc d y cc nL ret pc L (st) h Q := by
  intro p l e R s m args below meth c cells slots Qf ad tA D A hH H locs ls hP hD hS hl
  exact lv_bipush hH.1 hH.2.1 hd hv (k hH H locs ls hP hD hS hl)
theorem zv_sipush {n : Int} {v : Int32} (hd : decode cc pc = .ok (.sipush n, 3)) (hv : (Int16.ofInt n).toInt32 = v) (k : zV sc d y cc nL ret (pc + 3) L (.int v :: st) h Q) : zV sc d y cc nL ret pc L (st) h Q := by
  intro p l e R s m args below meth c cells slots Qf ad tA D A hH H locs ls hP hD hS hl
  exact lv_sipush hH.1 hH.2.1 hd hv (k hH H locs ls hP hD hS hl)
theorem zv_lconst {n : Fin 2} {v : Int64} (hd : decode cc pc = .ok (.lconst n, 1)) (hv : Int64.ofNat (n : Nat) = v) (k : zV sc d y cc nL ret (pc + 1) L (.long v :: st) h Q) : zV sc d y cc nL ret pc L (st) h Q := by
  intro p l e R s m args below meth c cells slots Qf ad tA D A hH H locs ls hP hD hS hl
  exact lv_lconst hH.1 hH.2.1 hd hv (k hH H locs ls hP hD hS hl)
theorem zv_ldc {own : String} {index : Nat} {v : Int32} (ho : y.cls = own) (hw : Cond.constant own index v ∈ zt) (hd : decode cc pc = .ok (.ldc index, 2)) (k : zV sc d y cc nL ret (pc + 2) L (.int v :: st) h Q) : zV sc d y cc nL ret pc L (st) h Q := by
  intro p l e R s m args below meth c cells slots Qf ad tA D A hH H locs ls hP hD hS hl
  exact lv_ldc hH.1 hH.2.1 (own := own) (by rw [← ho]; exact hH.2.2.2.1) (hH.2.2.2.2.1 _ hw) hd (k hH H locs ls hP hD hS hl)
theorem zv_ldcw {own : String} {index : Nat} {v : Int32} (ho : y.cls = own) (hw : Cond.constant own index v ∈ zt) (hd : decode cc pc = .ok (.ldc_w index, 3)) (k : zV sc d y cc nL ret (pc + 3) L (.int v :: st) h Q) : zV sc d y cc nL ret pc L (st) h Q := by
  intro p l e R s m args below meth c cells slots Qf ad tA D A hH H locs ls hP hD hS hl
  exact lv_ldcw hH.1 hH.2.1 (own := own) (by rw [← ho]; exact hH.2.2.2.1) (hH.2.2.2.2.1 _ hw) hd (k hH H locs ls hP hD hS hl)
theorem zv_ldc2 {own : String} {index : Nat} {v : Int64} (ho : y.cls = own) (hw : Cond.constantLong own index v ∈ zt) (hd : decode cc pc = .ok (.ldc2_w index, 3)) (k : zV sc d y cc nL ret (pc + 3) L (.long v :: st) h Q) : zV sc d y cc nL ret pc L (st) h Q := by
  intro p l e R s m args below meth c cells slots Qf ad tA D A hH H locs ls hP hD hS hl
  exact lv_ldc2 hH.1 hH.2.1 (own := own) (by rw [← ho]; exact hH.2.2.2.1) (hH.2.2.2.2.1 _ hw) hd (k hH H locs ls hP hD hS hl)
theorem zv_iload_n {k0 : Fin 4} {i : Nat} {x : Int32} (hd : decode cc pc = .ok (.iload_n k0, 1)) (hi : (k0 : Nat) = i) (hx : zlk i L = some (.int x)) (k : zV sc d y cc nL ret (pc + 1) L (.int x :: st) h Q) : zV sc d y cc nL ret pc L (st) h Q := by
  intro p l e R s m args below meth c cells slots Qf ad tA D A hH H locs ls hP hD hS hl
  exact lv_iload_n hH.1 hH.2.1 hd hi (zl_at hl hx) (k hH H locs ls hP hD hS hl)
theorem zv_iload {i : Nat} {x : Int32} (hd : decode cc pc = .ok (.iload i, 2)) (hx : zlk i L = some (.int x)) (k : zV sc d y cc nL ret (pc + 2) L (.int x :: st) h Q) : zV sc d y cc nL ret pc L (st) h Q := by
  intro p l e R s m args below meth c cells slots Qf ad tA D A hH H locs ls hP hD hS hl
  exact lv_iload hH.1 hH.2.1 hd (zl_at hl hx) (k hH H locs ls hP hD hS hl)
theorem zv_aload_n {k0 : Fin 4} {i x : Nat} (hd : decode cc pc = .ok (.aload_n k0, 1)) (hi : (k0 : Nat) = i) (hx : zlk i L = some (.ref x)) (k : zV sc d y cc nL ret (pc + 1) L (.ref x :: st) h Q) : zV sc d y cc nL ret pc L (st) h Q := by
  intro p l e R s m args below meth c cells slots Qf ad tA D A hH H locs ls hP hD hS hl
  exact lv_aload_n hH.1 hH.2.1 hd hi (zl_at hl hx) (k hH H locs ls hP hD hS hl)
theorem zv_aload {i x : Nat} (hd : decode cc pc = .ok (.aload i, 2)) (hx : zlk i L = some (.ref x)) (k : zV sc d y cc nL ret (pc + 2) L (.ref x :: st) h Q) : zV sc d y cc nL ret pc L (st) h Q := by
  intro p l e R s m args below meth c cells slots Qf ad tA D A hH H locs ls hP hD hS hl
  exact lv_aload hH.1 hH.2.1 hd (zl_at hl hx) (k hH H locs ls hP hD hS hl)
theorem zv_istore_n {k0 : Fin 4} {i : Nat} {x : Int32} (hd : decode cc pc = .ok (.istore_n k0, 1)) (hi : (k0 : Nat) = i) (hn : i < nL) (k : zV sc d y cc nL ret (pc + 1) (zst i (.int x) L) (st) h Q) : zV sc d y cc nL ret pc L (.int x :: st) h Q := by
  intro p l e R s m args below meth c cells slots Qf ad tA D A hH H locs ls hP hD hS hl
  exact lv_istore_n hH.1 hH.2.1 hd hi hl hn rfl (fun ls' hl' => k hH H locs ls' hP hD hS (zl_st hl'))
theorem zv_istore {i : Nat} {x : Int32} (hd : decode cc pc = .ok (.istore i, 2)) (hn : i < nL) (k : zV sc d y cc nL ret (pc + 2) (zst i (.int x) L) (st) h Q) : zV sc d y cc nL ret pc L (.int x :: st) h Q := by
  intro p l e R s m args below meth c cells slots Qf ad tA D A hH H locs ls hP hD hS hl
  exact lv_istore hH.1 hH.2.1 hd hl hn rfl (fun ls' hl' => k hH H locs ls' hP hD hS (zl_st hl'))
theorem zv_astore_n {k0 : Fin 4} {i x : Nat} (hd : decode cc pc = .ok (.astore_n k0, 1)) (hi : (k0 : Nat) = i) (hn : i < nL) (k : zV sc d y cc nL ret (pc + 1) (zst i (.ref x) L) (st) h Q) : zV sc d y cc nL ret pc L (.ref x :: st) h Q := by
  intro p l e R s m args below meth c cells slots Qf ad tA D A hH H locs ls hP hD hS hl
  exact lv_astore_n hH.1 hH.2.1 hd hi hl hn rfl (fun ls' hl' => k hH H locs ls' hP hD hS (zl_st hl'))
theorem zv_iinc {i : Nat} {n : Int} {x v : Int32} (hd : decode cc pc = .ok (.iinc i n, 3)) (hx : zlk i L = some (.int x)) (hv : Int32.ofInt n = v) (hn : i < nL) (k : zV sc d y cc nL ret (pc + 3) (zst i (.int (x + v)) L) st h Q) : zV sc d y cc nL ret pc L st h Q := by
  intro p l e R s m args below meth c cells slots Qf ad tA D A hH H locs ls hP hD hS hl
  obtain ⟨j, hj⟩ := List.getElem?_of_mem (List.mem_map.mpr ⟨(i, .int x), zlk_mem hx, rfl⟩ : (i, zv ad (.int x)) ∈ zl ad L)
  exact lv_iinc (k := j) (v := x + v) hH.1 hH.2.1 hd hl hj (by rw [hv]) hn rfl (fun ls' hl' => k hH H locs ls' hP hD hS (zl_st hl'))
theorem zv_iadd {x z : Int32} (hd : decode cc pc = .ok (.iadd, 1)) (k : zV sc d y cc nL ret (pc + 1) L (.int (x + z) :: st) h Q) : zV sc d y cc nL ret pc L (.int z :: .int x :: st) h Q := by
  intro p l e R s m args below meth c cells slots Qf ad tA D A hH H locs ls hP hD hS hl
  exact lv_iadd hH.1 hH.2.1 hd (k hH H locs ls hP hD hS hl)
theorem zv_isub {x z : Int32} (hd : decode cc pc = .ok (.isub, 1)) (k : zV sc d y cc nL ret (pc + 1) L (.int (x - z) :: st) h Q) : zV sc d y cc nL ret pc L (.int z :: .int x :: st) h Q := by
  intro p l e R s m args below meth c cells slots Qf ad tA D A hH H locs ls hP hD hS hl
  exact lv_isub hH.1 hH.2.1 hd (k hH H locs ls hP hD hS hl)
theorem zv_imul {x z : Int32} (hd : decode cc pc = .ok (.imul, 1)) (k : zV sc d y cc nL ret (pc + 1) L (.int (x * z) :: st) h Q) : zV sc d y cc nL ret pc L (.int z :: .int x :: st) h Q := by
  intro p l e R s m args below meth c cells slots Qf ad tA D A hH H locs ls hP hD hS hl
  exact lv_imul hH.1 hH.2.1 hd (k hH H locs ls hP hD hS hl)
theorem zv_iand {x z : Int32} (hd : decode cc pc = .ok (.iand, 1)) (k : zV sc d y cc nL ret (pc + 1) L (.int (x &&& z) :: st) h Q) : zV sc d y cc nL ret pc L (.int z :: .int x :: st) h Q := by
  intro p l e R s m args below meth c cells slots Qf ad tA D A hH H locs ls hP hD hS hl
  exact lv_iand hH.1 hH.2.1 hd (k hH H locs ls hP hD hS hl)
theorem zv_ior {x z : Int32} (hd : decode cc pc = .ok (.ior, 1)) (k : zV sc d y cc nL ret (pc + 1) L (.int (x ||| z) :: st) h Q) : zV sc d y cc nL ret pc L (.int z :: .int x :: st) h Q := by
  intro p l e R s m args below meth c cells slots Qf ad tA D A hH H locs ls hP hD hS hl
  exact lv_ior hH.1 hH.2.1 hd (k hH H locs ls hP hD hS hl)
theorem zv_ixor {x z : Int32} (hd : decode cc pc = .ok (.ixor, 1)) (k : zV sc d y cc nL ret (pc + 1) L (.int (x ^^^ z) :: st) h Q) : zV sc d y cc nL ret pc L (.int z :: .int x :: st) h Q := by
  intro p l e R s m args below meth c cells slots Qf ad tA D A hH H locs ls hP hD hS hl
  exact lv_ixor hH.1 hH.2.1 hd (k hH H locs ls hP hD hS hl)
theorem zv_ishl {x z : Int32} (hd : decode cc pc = .ok (.ishl, 1)) (k : zV sc d y cc nL ret (pc + 1) L (.int (x <<< (z &&& 31)) :: st) h Q) : zV sc d y cc nL ret pc L (.int z :: .int x :: st) h Q := by
  intro p l e R s m args below meth c cells slots Qf ad tA D A hH H locs ls hP hD hS hl
  exact lv_ishl hH.1 hH.2.1 hd (k hH H locs ls hP hD hS hl)
theorem zv_ishr {x z : Int32} (hd : decode cc pc = .ok (.ishr, 1)) (k : zV sc d y cc nL ret (pc + 1) L (.int (x >>> (z &&& 31)) :: st) h Q) : zV sc d y cc nL ret pc L (.int z :: .int x :: st) h Q := by
  intro p l e R s m args below meth c cells slots Qf ad tA D A hH H locs ls hP hD hS hl
  exact lv_ishr hH.1 hH.2.1 hd (k hH H locs ls hP hD hS hl)
theorem zv_iushr {x z : Int32} (hd : decode cc pc = .ok (.iushr, 1)) (k : zV sc d y cc nL ret (pc + 1) L (.int ((x.toUInt32 >>> (z.toUInt32 &&& Int32.toUInt32 31)).toInt32) :: st) h Q) : zV sc d y cc nL ret pc L (.int z :: .int x :: st) h Q := by
  intro p l e R s m args below meth c cells slots Qf ad tA D A hH H locs ls hP hD hS hl
  exact lv_iushr hH.1 hH.2.1 hd rfl (k hH H locs ls hP hD hS hl)
theorem zv_idiv {x z : Int32} (hz : ¬ z = 0) (hd : decode cc pc = .ok (.idiv, 1)) (k : zV sc d y cc nL ret (pc + 1) L (.int (x / z) :: st) h Q) : zV sc d y cc nL ret pc L (.int z :: .int x :: st) h Q := by
  intro p l e R s m args below meth c cells slots Qf ad tA D A hH H locs ls hP hD hS hl
  exact lv_idiv hH.1 hH.2.1 hd hz (k hH H locs ls hP hD hS hl)
theorem zv_irem {x z : Int32} (hz : ¬ z = 0) (hd : decode cc pc = .ok (.irem, 1)) (k : zV sc d y cc nL ret (pc + 1) L (.int (x - x / z * z) :: st) h Q) : zV sc d y cc nL ret pc L (.int z :: .int x :: st) h Q := by
  intro p l e R s m args below meth c cells slots Qf ad tA D A hH H locs ls hP hD hS hl
  exact lv_irem hH.1 hH.2.1 hd hz (k hH H locs ls hP hD hS hl)
theorem zv_ineg {x : Int32} (hd : decode cc pc = .ok (.ineg, 1)) (k : zV sc d y cc nL ret (pc + 1) L (.int (-x) :: st) h Q) : zV sc d y cc nL ret pc L (.int x :: st) h Q := by
  intro p l e R s m args below meth c cells slots Qf ad tA D A hH H locs ls hP hD hS hl
  exact lv_ineg hH.1 hH.2.1 hd (k hH H locs ls hP hD hS hl)
theorem zv_i2b {x : Int32} (hd : decode cc pc = .ok (.i2b, 1)) (k : zV sc d y cc nL ret (pc + 1) L (.int x.toInt8.toInt32 :: st) h Q) : zV sc d y cc nL ret pc L (.int x :: st) h Q := by
  intro p l e R s m args below meth c cells slots Qf ad tA D A hH H locs ls hP hD hS hl
  exact lv_i2b hH.1 hH.2.1 hd rfl (k hH H locs ls hP hD hS hl)
theorem zv_i2l {x : Int32} (hd : decode cc pc = .ok (.i2l, 1)) (k : zV sc d y cc nL ret (pc + 1) L (.long x.toInt64 :: st) h Q) : zV sc d y cc nL ret pc L (.int x :: st) h Q := by
  intro p l e R s m args below meth c cells slots Qf ad tA D A hH H locs ls hP hD hS hl
  exact lv_i2l hH.1 hH.2.1 hd rfl (k hH H locs ls hP hD hS hl)
theorem zv_ladd {x z : Int64} (hd : decode cc pc = .ok (.ladd, 1)) (k : zV sc d y cc nL ret (pc + 1) L (.long (x + z) :: st) h Q) : zV sc d y cc nL ret pc L (.long z :: .long x :: st) h Q := by
  intro p l e R s m args below meth c cells slots Qf ad tA D A hH H locs ls hP hD hS hl
  exact lv_ladd hH.1 hH.2.1 hd (k hH H locs ls hP hD hS hl)
theorem zv_lcmp {x z : Int64} (hd : decode cc pc = .ok (.lcmp, 1)) (k : zV sc d y cc nL ret (pc + 1) L (.int (lg_cmp x z) :: st) h Q) : zV sc d y cc nL ret pc L (.long z :: .long x :: st) h Q := by
  intro p l e R s m args below meth c cells slots Qf ad tA D A hH H locs ls hP hD hS hl
  exact W.lcmp hH.1 hH.2.1 hd (k hH H locs ls hP hD hS hl)
theorem zv_dup {va : Value} (hd : decode cc pc = .ok (.dup, 1)) (hc : va.category = 1) (k : zV sc d y cc nL ret (pc + 1) L (va :: va :: st) h Q) : zV sc d y cc nL ret pc L (va :: st) h Q := by
  intro p l e R s m args below meth c cells slots Qf ad tA D A hH H locs ls hP hD hS hl
  exact lv_dup hH.1 hH.2.1 hd ((zv_cat ad va).trans hc) (k hH H locs ls hP hD hS hl)
theorem zv_pop {va : Value} (hd : decode cc pc = .ok (.pop, 1)) (hc : va.category = 1) (k : zV sc d y cc nL ret (pc + 1) L (st) h Q) : zV sc d y cc nL ret pc L (va :: st) h Q := by
  intro p l e R s m args below meth c cells slots Qf ad tA D A hH H locs ls hP hD hS hl
  exact lv_pop hH.1 hH.2.1 hd ((zv_cat ad va).trans hc) (k hH H locs ls hP hD hS hl)
theorem zv_dup2 {va vb : Value} (hd : decode cc pc = .ok (.dup2, 1)) (hc : va.category = 1) (hc2 : vb.category = 1) (k : zV sc d y cc nL ret (pc + 1) L (va :: vb :: va :: vb :: st) h Q) : zV sc d y cc nL ret pc L (va :: vb :: st) h Q := by
  intro p l e R s m args below meth c cells slots Qf ad tA D A hH H locs ls hP hD hS hl
  exact lv_dup2_11 hH.1 hH.2.1 hd ((zv_cat ad va).trans hc) ((zv_cat ad vb).trans hc2) (k hH H locs ls hP hD hS hl)
theorem zv_icmp_eq {x z : Int32} {off : Int} {tgt : Nat} (hd : decode cc pc = .ok (.if_icmp .eq off, 3)) (ht : (pc : Int) + off = (tgt : Int)) (kt : x = z → zV sc d y cc nL ret tgt L st h Q) (kf : ¬ x = z → zV sc d y cc nL ret (pc + 3) L st h Q) : zV sc d y cc nL ret pc L (.int z :: .int x :: st) h Q := by
  intro p l e R s m args below meth c cells slots Qf ad tA D A hH H locs ls hP hD hS hl
  exact lv_icmp_eq hH.1 hH.2.1 hd ht (fun q => kt q hH H locs ls hP hD hS hl) (fun q => kf q hH H locs ls hP hD hS hl)
theorem zv_icmp_ne {x z : Int32} {off : Int} {tgt : Nat} (hd : decode cc pc = .ok (.if_icmp .ne off, 3)) (ht : (pc : Int) + off = (tgt : Int)) (kt : ¬ x = z → zV sc d y cc nL ret tgt L st h Q) (kf : x = z → zV sc d y cc nL ret (pc + 3) L st h Q) : zV sc d y cc nL ret pc L (.int z :: .int x :: st) h Q := by
  intro p l e R s m args below meth c cells slots Qf ad tA D A hH H locs ls hP hD hS hl
  exact lv_icmp_ne hH.1 hH.2.1 hd ht (fun q => kt q hH H locs ls hP hD hS hl) (fun q => kf q hH H locs ls hP hD hS hl)
theorem zv_icmp_lt {x z : Int32} {off : Int} {tgt : Nat} (hd : decode cc pc = .ok (.if_icmp .lt off, 3)) (ht : (pc : Int) + off = (tgt : Int)) (kt : x < z → zV sc d y cc nL ret tgt L st h Q) (kf : ¬ x < z → zV sc d y cc nL ret (pc + 3) L st h Q) : zV sc d y cc nL ret pc L (.int z :: .int x :: st) h Q := by
  intro p l e R s m args below meth c cells slots Qf ad tA D A hH H locs ls hP hD hS hl
  exact lv_icmp_lt hH.1 hH.2.1 hd ht (fun q => kt q hH H locs ls hP hD hS hl) (fun q => kf q hH H locs ls hP hD hS hl)
theorem zv_icmp_ge {x z : Int32} {off : Int} {tgt : Nat} (hd : decode cc pc = .ok (.if_icmp .ge off, 3)) (ht : (pc : Int) + off = (tgt : Int)) (kt : z ≤ x → zV sc d y cc nL ret tgt L st h Q) (kf : ¬ z ≤ x → zV sc d y cc nL ret (pc + 3) L st h Q) : zV sc d y cc nL ret pc L (.int z :: .int x :: st) h Q := by
  intro p l e R s m args below meth c cells slots Qf ad tA D A hH H locs ls hP hD hS hl
  exact lv_icmp_ge hH.1 hH.2.1 hd ht (fun q => kt q hH H locs ls hP hD hS hl) (fun q => kf q hH H locs ls hP hD hS hl)
theorem zv_icmp_gt {x z : Int32} {off : Int} {tgt : Nat} (hd : decode cc pc = .ok (.if_icmp .gt off, 3)) (ht : (pc : Int) + off = (tgt : Int)) (kt : z < x → zV sc d y cc nL ret tgt L st h Q) (kf : ¬ z < x → zV sc d y cc nL ret (pc + 3) L st h Q) : zV sc d y cc nL ret pc L (.int z :: .int x :: st) h Q := by
  intro p l e R s m args below meth c cells slots Qf ad tA D A hH H locs ls hP hD hS hl
  exact lv_icmp_gt hH.1 hH.2.1 hd ht (fun q => kt q hH H locs ls hP hD hS hl) (fun q => kf q hH H locs ls hP hD hS hl)
theorem zv_icmp_le {x z : Int32} {off : Int} {tgt : Nat} (hd : decode cc pc = .ok (.if_icmp .le off, 3)) (ht : (pc : Int) + off = (tgt : Int)) (kt : x ≤ z → zV sc d y cc nL ret tgt L st h Q) (kf : ¬ x ≤ z → zV sc d y cc nL ret (pc + 3) L st h Q) : zV sc d y cc nL ret pc L (.int z :: .int x :: st) h Q := by
  intro p l e R s m args below meth c cells slots Qf ad tA D A hH H locs ls hP hD hS hl
  exact lv_icmp_le hH.1 hH.2.1 hd ht (fun q => kt q hH H locs ls hP hD hS hl) (fun q => kf q hH H locs ls hP hD hS hl)
theorem zv_if_eq {x : Int32} {off : Int} {tgt : Nat} (hd : decode cc pc = .ok (.ifCond .eq off, 3)) (ht : (pc : Int) + off = (tgt : Int)) (kt : x = 0 → zV sc d y cc nL ret tgt L st h Q) (kf : ¬ x = 0 → zV sc d y cc nL ret (pc + 3) L st h Q) : zV sc d y cc nL ret pc L (.int x :: st) h Q := by
  intro p l e R s m args below meth c cells slots Qf ad tA D A hH H locs ls hP hD hS hl
  exact lv_if_eq hH.1 hH.2.1 hd ht (fun q => kt q hH H locs ls hP hD hS hl) (fun q => kf q hH H locs ls hP hD hS hl)
theorem zv_if_ne {x : Int32} {off : Int} {tgt : Nat} (hd : decode cc pc = .ok (.ifCond .ne off, 3)) (ht : (pc : Int) + off = (tgt : Int)) (kt : ¬ x = 0 → zV sc d y cc nL ret tgt L st h Q) (kf : x = 0 → zV sc d y cc nL ret (pc + 3) L st h Q) : zV sc d y cc nL ret pc L (.int x :: st) h Q := by
  intro p l e R s m args below meth c cells slots Qf ad tA D A hH H locs ls hP hD hS hl
  exact lv_if_ne hH.1 hH.2.1 hd ht (fun q => kt q hH H locs ls hP hD hS hl) (fun q => kf q hH H locs ls hP hD hS hl)
theorem zv_if_lt {x : Int32} {off : Int} {tgt : Nat} (hd : decode cc pc = .ok (.ifCond .lt off, 3)) (ht : (pc : Int) + off = (tgt : Int)) (kt : x < 0 → zV sc d y cc nL ret tgt L st h Q) (kf : ¬ x < 0 → zV sc d y cc nL ret (pc + 3) L st h Q) : zV sc d y cc nL ret pc L (.int x :: st) h Q := by
  intro p l e R s m args below meth c cells slots Qf ad tA D A hH H locs ls hP hD hS hl
  exact lv_if_lt hH.1 hH.2.1 hd ht (fun q => kt q hH H locs ls hP hD hS hl) (fun q => kf q hH H locs ls hP hD hS hl)
theorem zv_if_ge {x : Int32} {off : Int} {tgt : Nat} (hd : decode cc pc = .ok (.ifCond .ge off, 3)) (ht : (pc : Int) + off = (tgt : Int)) (kt : 0 ≤ x → zV sc d y cc nL ret tgt L st h Q) (kf : ¬ 0 ≤ x → zV sc d y cc nL ret (pc + 3) L st h Q) : zV sc d y cc nL ret pc L (.int x :: st) h Q := by
  intro p l e R s m args below meth c cells slots Qf ad tA D A hH H locs ls hP hD hS hl
  exact lv_if_ge hH.1 hH.2.1 hd ht (fun q => kt q hH H locs ls hP hD hS hl) (fun q => kf q hH H locs ls hP hD hS hl)
theorem zv_if_gt {x : Int32} {off : Int} {tgt : Nat} (hd : decode cc pc = .ok (.ifCond .gt off, 3)) (ht : (pc : Int) + off = (tgt : Int)) (kt : 0 < x → zV sc d y cc nL ret tgt L st h Q) (kf : ¬ 0 < x → zV sc d y cc nL ret (pc + 3) L st h Q) : zV sc d y cc nL ret pc L (.int x :: st) h Q := by
  intro p l e R s m args below meth c cells slots Qf ad tA D A hH H locs ls hP hD hS hl
  exact lv_if_gt hH.1 hH.2.1 hd ht (fun q => kt q hH H locs ls hP hD hS hl) (fun q => kf q hH H locs ls hP hD hS hl)
theorem zv_if_le {x : Int32} {off : Int} {tgt : Nat} (hd : decode cc pc = .ok (.ifCond .le off, 3)) (ht : (pc : Int) + off = (tgt : Int)) (kt : x ≤ 0 → zV sc d y cc nL ret tgt L st h Q) (kf : ¬ x ≤ 0 → zV sc d y cc nL ret (pc + 3) L st h Q) : zV sc d y cc nL ret pc L (.int x :: st) h Q := by
  intro p l e R s m args below meth c cells slots Qf ad tA D A hH H locs ls hP hD hS hl
  exact lv_if_le hH.1 hH.2.1 hd ht (fun q => kt q hH H locs ls hP hD hS hl) (fun q => kf q hH H locs ls hP hD hS hl)
theorem zv_goto {off : Int} {tgt : Nat} (hd : decode cc pc = .ok (.goto off, 3)) (ht : (pc : Int) + off = (tgt : Int)) (k : zV sc d y cc nL ret tgt L st h Q) : zV sc d y cc nL ret pc L st h Q := by
  intro p l e R s m args below meth c cells slots Qf ad tA D A hH H locs ls hP hD hS hl
  exact lv_goto hH.1 hH.2.1 hd ht (k hH H locs ls hP hD hS hl)
theorem zv_tableIn {dflt lo hi : Int} {offs : Array Int} {len : Nat} {x v : Int32} {off : Int} {tgt : Nat} (hd : decode cc pc = .ok (.tableswitch dflt lo hi offs, len)) (hx : x = v) (h1 : ¬ v.toInt < lo) (h2 : ¬ hi < v.toInt) (ho : offs[(v.toInt - lo).toNat]? = some off) (ht : (pc : Int) + off = (tgt : Int)) (k : zV sc d y cc nL ret tgt L st h Q) : zV sc d y cc nL ret pc L (.int x :: st) h Q := by
  subst hx
  intro p l e R s m args below meth c cells slots Qf ad tA D A hH H locs ls hP hD hS hl
  exact lv_tableIn hH.1 hH.2.1 hd h1 h2 ho ht (k hH H locs ls hP hD hS hl)
theorem zv_tableOut {dflt lo hi : Int} {offs : Array Int} {len : Nat} {x : Int32} {tgt : Nat} (hd : decode cc pc = .ok (.tableswitch dflt lo hi offs, len)) (h0 : x.toInt < lo ∨ hi < x.toInt) (ht : (pc : Int) + dflt = (tgt : Int)) (k : zV sc d y cc nL ret tgt L st h Q) : zV sc d y cc nL ret pc L (.int x :: st) h Q := by
  intro p l e R s m args below meth c cells slots Qf ad tA D A hH H locs ls hP hD hS hl
  exact lv_tableOut hH.1 hH.2.1 hd h0 ht (k hH H locs ls hP hD hS hl)
theorem zv_lookup {dflt : Int} {ps : Array (Int × Int)} {len : Nat} {x : Int32} {off : Int} {tgt : Nat} (hd : decode cc pc = .ok (.lookupswitch dflt ps, len)) (hp : (ps.toList.zip (ps.toList.drop 1)).all (fun (a, next) => a.1 < next.1) = true) (ho : Op.lookupswitch.offset ps.toList dflt x.toInt = off) (ht : (pc : Int) + off = (tgt : Int)) (k : zV sc d y cc nL ret tgt L st h Q) : zV sc d y cc nL ret pc L (.int x :: st) h Q := by
  intro p l e R s m args below meth c cells slots Qf ad tA D A hH H locs ls hP hD hS hl
  exact lv_lookup hH.1 hH.2.1 hd hp ho ht (k hH H locs ls hP hD hS hl)
theorem zv_iret {x : Int32} {ty : FieldType} (hd : decode cc pc = .ok (.ireturn, 1)) (hr : ret = some ty) (hn : narrow ty (.int x) = .int x) (hq : Q (some (.int x)) h) : zV sc d y cc nL ret pc L [.int x] h Q := by
  intro p l e R s m args below meth c cells slots Qf ad tA D A hH H locs ls hP hD hS hl
  exact hH.2.2.2.2.2.2.2.2.2.2 (some (.int x)) h H locs pc ls .ireturn hq (Or.inl ⟨rfl, x, ty, rfl, hr, hn⟩) hd hP hD hS
theorem zv_vret (hd : decode cc pc = .ok (.return_, 1)) (hr : ret = none) (hq : Q none h) : zV sc d y cc nL ret pc L [] h Q := by
  intro p l e R s m args below meth c cells slots Qf ad tA D A hH H locs ls hP hD hS hl
  exact hH.2.2.2.2.2.2.2.2.2.2 none h H locs pc ls .return_ hq (Or.inr (Or.inl ⟨rfl, rfl, hr⟩)) hd hP hD hS
theorem zv_lret {x : Int64} (hd : decode cc pc = .ok (.lreturn, 1)) (hr : ret = some .long) (hq : Q (some (.long x)) h) : zV sc d y cc nL ret pc L [.long x] h Q := by
  intro p l e R s m args below meth c cells slots Qf ad tA D A hH H locs ls hP hD hS hl
  exact hH.2.2.2.2.2.2.2.2.2.2 (some (.long x)) h H locs pc ls .lreturn hq (Or.inr (Or.inr ⟨rfl, x, rfl, hr⟩)) hd hP hD hS
end ZV
