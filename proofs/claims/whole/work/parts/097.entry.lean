/-! what holds at the law's entry -/
theorem st_AO {args : Array Value} {s : State} (hts : ∀ w ∈ lw_tbl, w.before args s = true) : va_AO "KingPrices$Story" s := va_AO.of (hts _ (zmemN 109 (by decide +kernel)))
theorem st_arr {args : Array Value} {s : State} {ty : FieldType} (h : (Cond.arrayClass ty).before args s = true) : ∃ cA : ClassId, ArrOfT s cA ty ∧ s.vm.findClass ("[" ++ ty.toString) = some cA := by
  obtain ⟨c, k, comp, h1, h2, h3⟩ := Cond.arrayClass_spec h
  exact ⟨c, fun n z => ⟨(fun k h => by cases h), k, h2, comp, h3⟩, h1⟩
set_option maxRecDepth 100000 in
set_option maxHeartbeats 4000000 in
theorem st_K {args : Array Value} {s : State} (hts : ∀ w ∈ lw_tbl, w.before args s = true) : ∃ (D : va_G) (tA : Nat → Nat), va_K D vwCl (ztys tA) s := by
  obtain ⟨c0, s0, k0⟩ := u_known (C := RX0) (T := TX0) (N := 12) (n := 12) hts inX0 (hts _ (zmemN 155 (by decide +kernel)))
  obtain ⟨c1, s1, k1⟩ := u_known (C := RX1) (T := TX1) (N := 2) (n := 2) hts inX1 (hts _ (zmemN 141 (by decide +kernel)))
  obtain ⟨c2, s2, k2⟩ := u_known (C := RX2) (T := TX2) (N := 2) (n := 2) hts inX2 (hts _ (zmemN 96 (by decide +kernel)))
  obtain ⟨c3, s3, k3⟩ := u_known (C := RX3) (T := TX3) (N := 6) (n := 6) hts inX3 (hts _ (zmemN 66 (by decide +kernel)))
  obtain ⟨c4, s4, k4⟩ := u_known (C := RX4) (T := TX4) (N := 7) (n := 7) hts inX4 (hts _ (zmemN 111 (by decide +kernel)))
  obtain ⟨c5, s5, k5⟩ := u_known (C := RX5) (T := TX5) (N := 10) (n := 10) hts inX5 (hts _ (zmemN 58 (by decide +kernel)))
  obtain ⟨c6, s6, k6⟩ := u_known (C := RX6) (T := TX6) (N := 23) (n := 23) hts inX6 (hts _ (zmemN 613 (by decide +kernel)))
  obtain ⟨a0, g0, f0⟩ := st_arr (ty := .int) (hts _ (zmemN 94 (by decide +kernel)))
  obtain ⟨a1, g1, f1⟩ := st_arr (ty := .byte) (hts _ (zmemN 696 (by decide +kernel)))
  obtain ⟨a2, g2, f2⟩ := st_arr (ty := .boolean) (hts _ (zmemN 697 (by decide +kernel)))
  obtain ⟨comp, a3, kA, h1, h2, h3, h4, h5⟩ := Cond.arrayOver_spec (st_AO hts)
  refine ⟨(fun c => [c0, c1, c2, c3, c4, c5, c6].getD c 0, fun c => [s0, s1, s2, s3, s4, s5, s6].getD c (fun _ => 0)), fun t => [a0, a1, a2, a3].getD t 0, ?_, ?_⟩
  · intro k q hq
    match k, hq with
    | 0, hq => cases hq; exact k0
    | 1, hq => cases hq; exact k1
    | 2, hq => cases hq; exact k2
    | 3, hq => cases hq; exact k3
    | 4, hq => cases hq; exact k4
    | 5, hq => cases hq; exact k5
    | 6, hq => cases hq; exact k6
    | k + 7, hq => cases hq
  · intro k q hq
    match k, hq with
    | 0, hq => cases hq; exact ⟨g0, f0⟩
    | 1, hq => cases hq; exact ⟨g1, f1⟩
    | 2, hq => cases hq; exact ⟨g2, f2⟩
    | 3, hq => cases hq; exact ⟨fun n z => ⟨(fun k h => by cases h), kA, h3, comp, h4⟩, kA, comp, h3, h4, h1, h5⟩
    | k + 4, hq => cases hq
theorem st_N {args : Array Value} {s : State} (hts : ∀ w ∈ lw_tbl, w.before args s = true) : zNs s := by
  intro w hw hi
  have h1 := hts w hw
  cases w <;> first | (exact va_Nw.of rfl h1) | (cases hi)
set_option maxRecDepth 100000 in
set_option maxHeartbeats 4000000 in
theorem st_zkt {args : Array Value} {s : State} (hts : ∀ w ∈ lw_tbl, w.before args s = true) (hg : (Jvm.Cond.and given_1 narrow_1).before args s = true) : ∃ t : Nat, va_Z "KingPrices" "KIND_TRACE" "[I" (.ref t) (fun q => s.heap.size ≤ q) s s.heap ∧ va_T .int t 6 (fun j => .int (zkt j)) (fun q => s.heap.size ≤ q) s s.heap := by
  have hs := flat_of_before _ hg
  have hA : ∀ a : Nat, a < s.heap.size → ¬ (fun q : Nat => s.heap.size ≤ q) a := fun a h1 h2 => Nat.not_le.mpr h1 h2
  obtain ⟨t, h1, h2⟩ := va_Tof (tm := .static "KingPrices" "KIND_TRACE" "[I") (ty := .int) (N := 6) (f := fun j => .int (zkt j)) (A := fun q => s.heap.size ≤ q) (by decide) (hs _ (by decide +kernel)) (va_eqt (hs (.eq (.length (.static "KingPrices" "KIND_TRACE" "[I")) (.int 6)) (by decide +kernel))) (by
    intro j hj
    rcases (show j = 0 ∨ j = 1 ∨ j = 2 ∨ j = 3 ∨ j = 4 ∨ j = 5 by omega) with rfl | rfl | rfl | rfl | rfl | rfl
    · exact va_eqt (hs (.eq (.elem (.static "KingPrices" "KIND_TRACE" "[I") (.int 0)) (.int 1)) (by decide +kernel))
    · exact va_eqt (hs (.eq (.elem (.static "KingPrices" "KIND_TRACE" "[I") (.int 1)) (.int 10)) (by decide +kernel))
    · exact va_eqt (hs (.eq (.elem (.static "KingPrices" "KIND_TRACE" "[I") (.int 2)) (.int 100)) (by decide +kernel))
    · exact va_eqt (hs (.eq (.elem (.static "KingPrices" "KIND_TRACE" "[I") (.int 3)) (.int 1000)) (by decide +kernel))
    · exact va_eqt (hs (.eq (.elem (.static "KingPrices" "KIND_TRACE" "[I") (.int 4)) (.int 10000)) (by decide +kernel))
    · exact va_eqt (hs (.eq (.elem (.static "KingPrices" "KIND_TRACE" "[I") (.int 5)) (.int 100000)) (by decide +kernel))
    ) hA
  exact ⟨t, va_Zof (hts _ (zmemN 589 (by decide +kernel))) (hts _ (zmemN 46 (by decide +kernel))) h1 hA, h2⟩
set_option maxRecDepth 100000 in
set_option maxHeartbeats 4000000 in
theorem st_zka {args : Array Value} {s : State} (hts : ∀ w ∈ lw_tbl, w.before args s = true) (hg : (Jvm.Cond.and given_1 narrow_1).before args s = true) : ∃ t : Nat, va_Z "KingPrices" "KIND_ABOVE" "[I" (.ref t) (fun q => s.heap.size ≤ q) s s.heap ∧ va_T .int t 6 (fun j => .int (zka j)) (fun q => s.heap.size ≤ q) s s.heap := by
  have hs := flat_of_before _ hg
  have hA : ∀ a : Nat, a < s.heap.size → ¬ (fun q : Nat => s.heap.size ≤ q) a := fun a h1 h2 => Nat.not_le.mpr h1 h2
  obtain ⟨t, h1, h2⟩ := va_Tof (tm := .static "KingPrices" "KIND_ABOVE" "[I") (ty := .int) (N := 6) (f := fun j => .int (zka j)) (A := fun q => s.heap.size ≤ q) (by decide) (hs _ (by decide +kernel)) (va_eqt (hs (.eq (.length (.static "KingPrices" "KIND_ABOVE" "[I")) (.int 6)) (by decide +kernel))) (by
    intro j hj
    rcases (show j = 0 ∨ j = 1 ∨ j = 2 ∨ j = 3 ∨ j = 4 ∨ j = 5 by omega) with rfl | rfl | rfl | rfl | rfl | rfl
    · exact va_eqt (hs (.eq (.elem (.static "KingPrices" "KIND_ABOVE" "[I") (.int 0)) (.int 0)) (by decide +kernel))
    · exact va_eqt (hs (.eq (.elem (.static "KingPrices" "KIND_ABOVE" "[I") (.int 1)) (.int 0)) (by decide +kernel))
    · exact va_eqt (hs (.eq (.elem (.static "KingPrices" "KIND_ABOVE" "[I") (.int 2)) (.int 0)) (by decide +kernel))
    · exact va_eqt (hs (.eq (.elem (.static "KingPrices" "KIND_ABOVE" "[I") (.int 3)) (.int 1)) (by decide +kernel))
    · exact va_eqt (hs (.eq (.elem (.static "KingPrices" "KIND_ABOVE" "[I") (.int 4)) (.int 2)) (by decide +kernel))
    · exact va_eqt (hs (.eq (.elem (.static "KingPrices" "KIND_ABOVE" "[I") (.int 5)) (.int 0)) (by decide +kernel))
    ) hA
  exact ⟨t, va_Zof (hts _ (zmemN 591 (by decide +kernel))) (hts _ (zmemN 46 (by decide +kernel))) h1 hA, h2⟩
