/-! the constructors' words -/
theorem zoi : Cond.instanceMethod objectInit ∈ zt ∧ Cond.code objectInit ⟨#[0xb1]⟩ 1 none ∈ zt := ⟨zmem 63 (by decide +kernel) rfl, zmem 64 (by decide +kernel) rfl⟩
theorem zac_int : Cond.arrayClass (newarray.typeOf .int) ∈ zt := zmem 94 (by decide +kernel) rfl
theorem zac_byte : Cond.arrayClass (newarray.typeOf .byte) ∈ zt := zmem 696 (by decide +kernel) rfl
theorem zac_boolean : Cond.arrayClass (newarray.typeOf .boolean) ∈ zt := zmem 697 (by decide +kernel) rfl
theorem zn_L_7 : Cond.classLink RL 7 RX5 ∈ zt ∧ Cond.instantiable RX5 10 ∈ zt ∧ Cond.initialized RX5 ∈ zt := ⟨zmem 57 (by decide +kernel) rfl, zmem 58 (by decide +kernel) rfl, zmem 46 (by decide +kernel) rfl⟩
theorem zn_X5_7 : Cond.classLink RX5 7 RX3 ∈ zt ∧ Cond.instantiable RX3 6 ∈ zt ∧ Cond.initialized RX3 ∈ zt := ⟨zmem 65 (by decide +kernel) rfl, zmem 66 (by decide +kernel) rfl, zmem 47 (by decide +kernel) rfl⟩
theorem zff_X3_9 : zFf RX3 9 3 RX3 TX3 6 0 (.array (.int)) := ⟨⟨rfl, by decide, zinX3, rfl, zmem 71 (by decide +kernel) rfl⟩, rfl, rfl, by decide +kernel, ⟨tyX3, tyX3_ok⟩, nmX3⟩
theorem zn_X5_16 : Cond.classLink RX5 16 RX2 ∈ zt ∧ Cond.instantiable RX2 2 ∈ zt ∧ Cond.initialized RX2 ∈ zt := ⟨zmem 95 (by decide +kernel) rfl, zmem 96 (by decide +kernel) rfl, zmem 48 (by decide +kernel) rfl⟩
theorem zff_X2_9 : zFf RX2 9 2 RX2 TX2 2 0 (.array (.int)) := ⟨⟨rfl, by decide, zinX2, rfl, zmem 101 (by decide +kernel) rfl⟩, rfl, rfl, by decide +kernel, ⟨tyX2, tyX2_ok⟩, nmX2⟩
theorem zn_X5_31 : Cond.classLink RX5 31 RX4 ∈ zt ∧ Cond.instantiable RX4 7 ∈ zt ∧ Cond.initialized RX4 ∈ zt := ⟨zmem 110 (by decide +kernel) rfl, zmem 111 (by decide +kernel) rfl, zmem 49 (by decide +kernel) rfl⟩
theorem zff_X4_9 : zFf RX4 9 4 RX4 TX4 7 0 (.array (.int)) := ⟨⟨rfl, by decide, zinX4, rfl, zmem 116 (by decide +kernel) rfl⟩, rfl, rfl, by decide +kernel, ⟨tyX4, tyX4_ok⟩, nmX4⟩
theorem zff_X4_15 : zFf RX4 15 4 RX4 TX4 7 1 (.array (.int)) := ⟨⟨rfl, by decide, zinX4, rfl, zmem 117 (by decide +kernel) rfl⟩, rfl, rfl, by decide +kernel, ⟨tyX4, tyX4_ok⟩, nmX4⟩
theorem zff_X4_18 : zFf RX4 18 4 RX4 TX4 7 2 (.array (.int)) := ⟨⟨rfl, by decide, zinX4, rfl, zmem 118 (by decide +kernel) rfl⟩, rfl, rfl, by decide +kernel, ⟨tyX4, tyX4_ok⟩, nmX4⟩
theorem zn_X5_38 : Cond.classLink RX5 38 RX1 ∈ zt ∧ Cond.instantiable RX1 2 ∈ zt ∧ Cond.initialized RX1 ∈ zt := ⟨zmem 140 (by decide +kernel) rfl, zmem 141 (by decide +kernel) rfl, zmem 50 (by decide +kernel) rfl⟩
theorem zff_X1_9 : zFf RX1 9 1 RX1 TX1 2 0 (.array (.int)) := ⟨⟨rfl, by decide, zinX1, rfl, zmem 146 (by decide +kernel) rfl⟩, rfl, rfl, by decide +kernel, ⟨tyX1, tyX1_ok⟩, nmX1⟩
theorem zn_X5_45 : Cond.classLink RX5 45 RX0 ∈ zt ∧ Cond.instantiable RX0 12 ∈ zt ∧ Cond.initialized RX0 ∈ zt := ⟨zmem 154 (by decide +kernel) rfl, zmem 155 (by decide +kernel) rfl, zmem 51 (by decide +kernel) rfl⟩
theorem zff_X0_9 : zFf RX0 9 0 RX0 TX0 12 0 (.array (.int)) := ⟨⟨rfl, by decide, zinX0, rfl, zmem 167 (by decide +kernel) rfl⟩, rfl, rfl, by decide +kernel, ⟨tyX0, tyX0_ok⟩, nmX0⟩
theorem zff_X0_15 : zFf RX0 15 0 RX0 TX0 12 1 (.array (.int)) := ⟨⟨rfl, by decide, zinX0, rfl, zmem 168 (by decide +kernel) rfl⟩, rfl, rfl, by decide +kernel, ⟨tyX0, tyX0_ok⟩, nmX0⟩
theorem zff_X0_18 : zFf RX0 18 0 RX0 TX0 12 2 (.array (.int)) := ⟨⟨rfl, by decide, zinX0, rfl, zmem 169 (by decide +kernel) rfl⟩, rfl, rfl, by decide +kernel, ⟨tyX0, tyX0_ok⟩, nmX0⟩
theorem zff_X0_21 : zFf RX0 21 0 RX0 TX0 12 3 (.array (.int)) := ⟨⟨rfl, by decide, zinX0, rfl, zmem 170 (by decide +kernel) rfl⟩, rfl, rfl, by decide +kernel, ⟨tyX0, tyX0_ok⟩, nmX0⟩
theorem zff_X0_24 : zFf RX0 24 0 RX0 TX0 12 4 (.array (.int)) := ⟨⟨rfl, by decide, zinX0, rfl, zmem 171 (by decide +kernel) rfl⟩, rfl, rfl, by decide +kernel, ⟨tyX0, tyX0_ok⟩, nmX0⟩
theorem zff_X0_27 : zFf RX0 27 0 RX0 TX0 12 5 (.array (.int)) := ⟨⟨rfl, by decide, zinX0, rfl, zmem 172 (by decide +kernel) rfl⟩, rfl, rfl, by decide +kernel, ⟨tyX0, tyX0_ok⟩, nmX0⟩
theorem zff_X5_10 : zFf RX5 10 5 RX5 TX5 10 0 (.object "KingPrices$Text") := ⟨⟨rfl, by decide, zinX5, rfl, zmem 230 (by decide +kernel) rfl⟩, rfl, rfl, by decide +kernel, ⟨tyX5, tyX5_ok⟩, nmX5⟩
theorem zff_X5_19 : zFf RX5 19 5 RX5 TX5 10 1 (.object "KingPrices$Story") := ⟨⟨rfl, by decide, zinX5, rfl, zmem 231 (by decide +kernel) rfl⟩, rfl, rfl, by decide +kernel, ⟨tyX5, tyX5_ok⟩, nmX5⟩
theorem zff_X5_23 : zFf RX5 23 5 RX5 TX5 10 2 (.array (.object "KingPrices$Story")) := ⟨⟨rfl, by decide, zinX5, rfl, zmem 232 (by decide +kernel) rfl⟩, rfl, rfl, by decide +kernel, ⟨tyX5, tyX5_ok⟩, nmX5⟩
theorem zff_X5_27 : zFf RX5 27 5 RX5 TX5 10 3 (.array (.int)) := ⟨⟨rfl, by decide, zinX5, rfl, zmem 233 (by decide +kernel) rfl⟩, rfl, rfl, by decide +kernel, ⟨tyX5, tyX5_ok⟩, nmX5⟩
theorem zff_X5_34 : zFf RX5 34 5 RX5 TX5 10 4 (.object "KingPrices$TourSearch") := ⟨⟨rfl, by decide, zinX5, rfl, zmem 234 (by decide +kernel) rfl⟩, rfl, rfl, by decide +kernel, ⟨tyX5, tyX5_ok⟩, nmX5⟩
theorem zff_X5_41 : zFf RX5 41 5 RX5 TX5 10 5 (.object "KingPrices$RingSearch") := ⟨⟨rfl, by decide, zinX5, rfl, zmem 235 (by decide +kernel) rfl⟩, rfl, rfl, by decide +kernel, ⟨tyX5, tyX5_ok⟩, nmX5⟩
theorem zn_L_10 : Cond.classLink RL 10 RX6 ∈ zt ∧ Cond.instantiable RX6 23 ∈ zt ∧ Cond.initialized RX6 ∈ zt := ⟨zmem 612 (by decide +kernel) rfl, zmem 613 (by decide +kernel) rfl, zmem 53 (by decide +kernel) rfl⟩
theorem zff_X6_7 : zFf RX6 7 6 RX6 TX6 23 1 (.array (.byte)) := ⟨⟨rfl, by decide, zinX6, rfl, zmem 627 (by decide +kernel) rfl⟩, rfl, rfl, by decide +kernel, ⟨tyX6, tyX6_ok⟩, nmX6⟩
theorem zff_X6_13 : zFf RX6 13 6 RX6 TX6 23 3 (.array (.int)) := ⟨⟨rfl, by decide, zinX6, rfl, zmem 629 (by decide +kernel) rfl⟩, rfl, rfl, by decide +kernel, ⟨tyX6, tyX6_ok⟩, nmX6⟩
theorem zff_X6_17 : zFf RX6 17 6 RX6 TX6 23 4 (.array (.int)) := ⟨⟨rfl, by decide, zinX6, rfl, zmem 630 (by decide +kernel) rfl⟩, rfl, rfl, by decide +kernel, ⟨tyX6, tyX6_ok⟩, nmX6⟩
theorem zff_X6_20 : zFf RX6 20 6 RX6 TX6 23 5 (.array (.int)) := ⟨⟨rfl, by decide, zinX6, rfl, zmem 631 (by decide +kernel) rfl⟩, rfl, rfl, by decide +kernel, ⟨tyX6, tyX6_ok⟩, nmX6⟩
theorem zff_X6_23 : zFf RX6 23 6 RX6 TX6 23 6 (.array (.int)) := ⟨⟨rfl, by decide, zinX6, rfl, zmem 632 (by decide +kernel) rfl⟩, rfl, rfl, by decide +kernel, ⟨tyX6, tyX6_ok⟩, nmX6⟩
theorem zff_X6_26 : zFf RX6 26 6 RX6 TX6 23 7 (.array (.int)) := ⟨⟨rfl, by decide, zinX6, rfl, zmem 633 (by decide +kernel) rfl⟩, rfl, rfl, by decide +kernel, ⟨tyX6, tyX6_ok⟩, nmX6⟩
theorem zff_X6_29 : zFf RX6 29 6 RX6 TX6 23 8 (.array (.int)) := ⟨⟨rfl, by decide, zinX6, rfl, zmem 634 (by decide +kernel) rfl⟩, rfl, rfl, by decide +kernel, ⟨tyX6, tyX6_ok⟩, nmX6⟩
theorem zff_X6_32 : zFf RX6 32 6 RX6 TX6 23 9 (.array (.int)) := ⟨⟨rfl, by decide, zinX6, rfl, zmem 635 (by decide +kernel) rfl⟩, rfl, rfl, by decide +kernel, ⟨tyX6, tyX6_ok⟩, nmX6⟩
theorem zff_X6_35 : zFf RX6 35 6 RX6 TX6 23 10 (.array (.int)) := ⟨⟨rfl, by decide, zinX6, rfl, zmem 636 (by decide +kernel) rfl⟩, rfl, rfl, by decide +kernel, ⟨tyX6, tyX6_ok⟩, nmX6⟩
theorem zff_X6_38 : zFf RX6 38 6 RX6 TX6 23 17 (.array (.int)) := ⟨⟨rfl, by decide, zinX6, rfl, zmem 643 (by decide +kernel) rfl⟩, rfl, rfl, by decide +kernel, ⟨tyX6, tyX6_ok⟩, nmX6⟩
theorem zff_X6_41 : zFf RX6 41 6 RX6 TX6 23 18 (.array (.boolean)) := ⟨⟨rfl, by decide, zinX6, rfl, zmem 644 (by decide +kernel) rfl⟩, rfl, rfl, by decide +kernel, ⟨tyX6, tyX6_ok⟩, nmX6⟩
theorem zff_X6_45 : zFf RX6 45 6 RX6 TX6 23 19 (.array (.int)) := ⟨⟨rfl, by decide, zinX6, rfl, zmem 645 (by decide +kernel) rfl⟩, rfl, rfl, by decide +kernel, ⟨tyX6, tyX6_ok⟩, nmX6⟩
def zz0 : List Value := [.null, .null, .null, .null, .null, .null, .int 0, .int 0, .int 0, .int 0, .int 0, .int 0]
theorem zz0_ok : ∀ j, j < 12 → defaultValue (tyX0 j) = vp_V zz0 j := by
  intro j hj
  rcases (show j = 0 ∨ j = 1 ∨ j = 2 ∨ j = 3 ∨ j = 4 ∨ j = 5 ∨ j = 6 ∨ j = 7 ∨ j = 8 ∨ j = 9 ∨ j = 10 ∨ j = 11 by omega) with rfl | rfl | rfl | rfl | rfl | rfl | rfl | rfl | rfl | rfl | rfl | rfl <;> rfl
def zz1 : List Value := [.null, .int 0]
theorem zz1_ok : ∀ j, j < 2 → defaultValue (tyX1 j) = vp_V zz1 j := by
  intro j hj
  rcases (show j = 0 ∨ j = 1 by omega) with rfl | rfl <;> rfl
def zz2 : List Value := [.null, .int 0]
theorem zz2_ok : ∀ j, j < 2 → defaultValue (tyX2 j) = vp_V zz2 j := by
  intro j hj
  rcases (show j = 0 ∨ j = 1 by omega) with rfl | rfl <;> rfl
def zz3 : List Value := [.null, .int 0, .int 0, .int 0, .int 0, .int 0]
theorem zz3_ok : ∀ j, j < 6 → defaultValue (tyX3 j) = vp_V zz3 j := by
  intro j hj
  rcases (show j = 0 ∨ j = 1 ∨ j = 2 ∨ j = 3 ∨ j = 4 ∨ j = 5 by omega) with rfl | rfl | rfl | rfl | rfl | rfl <;> rfl
def zz4 : List Value := [.null, .null, .null, .int 0, .int 0, .int 0, .int 0]
theorem zz4_ok : ∀ j, j < 7 → defaultValue (tyX4 j) = vp_V zz4 j := by
  intro j hj
  rcases (show j = 0 ∨ j = 1 ∨ j = 2 ∨ j = 3 ∨ j = 4 ∨ j = 5 ∨ j = 6 by omega) with rfl | rfl | rfl | rfl | rfl | rfl | rfl <;> rfl
def zz5 : List Value := [.null, .null, .null, .null, .null, .null, .null, .null, .int 0, .long 0]
theorem zz5_ok : ∀ j, j < 10 → defaultValue (tyX5 j) = vp_V zz5 j := by
  intro j hj
  rcases (show j = 0 ∨ j = 1 ∨ j = 2 ∨ j = 3 ∨ j = 4 ∨ j = 5 ∨ j = 6 ∨ j = 7 ∨ j = 8 ∨ j = 9 by omega) with rfl | rfl | rfl | rfl | rfl | rfl | rfl | rfl | rfl | rfl <;> rfl
def zz6 : List Value := [.long 0, .null, .int 0, .null, .null, .null, .null, .null, .null, .null, .null, .int 0, .int 0, .int 0, .int 0, .int 0, .int 0, .null, .null, .null, .int 0, .int 0, .int 0]
theorem zz6_ok : ∀ j, j < 23 → defaultValue (tyX6 j) = vp_V zz6 j := by
  intro j hj
  rcases (show j = 0 ∨ j = 1 ∨ j = 2 ∨ j = 3 ∨ j = 4 ∨ j = 5 ∨ j = 6 ∨ j = 7 ∨ j = 8 ∨ j = 9 ∨ j = 10 ∨ j = 11 ∨ j = 12 ∨ j = 13 ∨ j = 14 ∨ j = 15 ∨ j = 16 ∨ j = 17 ∨ j = 18 ∨ j = 19 ∨ j = 20 ∨ j = 21 ∨ j = 22 by omega) with rfl | rfl | rfl | rfl | rfl | rfl | rfl | rfl | rfl | rfl | rfl | rfl | rfl | rfl | rfl | rfl | rfl | rfl | rfl | rfl | rfl | rfl | rfl <;> rfl
section ZG
variable {g suf : List va_E} {a b : va_E} {r : Nat}
theorem zg_get (hg : g.length = r) : (g ++ a :: suf)[r]? = some a := by subst hg; simp
theorem zg_set (hg : g.length = r) : (g ++ a :: suf).set r b = g ++ b :: suf := by subst hg; simp
theorem zg_geti (hg : g.length = r) (i : Nat) : (g ++ suf)[r + i]? = suf[i]? := by
  rw [List.getElem?_append_right (by omega)]
  congr 1
  omega
theorem zg_seti (hg : g.length = r) (i : Nat) : (g ++ suf).set (r + i) b = g ++ suf.set i b := by subst hg; simp [List.set_append]
theorem zg_len (hg : g.length = r) : (g ++ suf).length = r + suf.length := by subst hg; simp
theorem zg_push : (g ++ suf) ++ [b] = g ++ (suf ++ [b]) := List.append_assoc _ _ _
end ZG
/-- nothing said yet -/
def Z0 : zS := (fun _ _ => 0, fun _ => 0, false, true)
def zL7 (S : zS) (r : Nat) : List va_E := [.inr (0, zlf S r), .inl (0, 6, .inl (S.1 (r + 1))), .inl (0, 6, .inl (S.1 (r + 2))), .inl (0, 6, .inl (S.1 (r + 3))), .inl (0, 36, .inl (S.1 (r + 4))), .inl (0, 36, .inl (S.1 (r + 5))), .inl (0, 3, .inl (S.1 (r + 6)))]
theorem zLg_17 {g : List va_E} (hg : g.length = 17) : zLand (fun S => g ++ zL7 S 17) 17 := zLand_of (fun S => (zg_geti hg 0).trans rfl) (fun S x => (zg_seti hg 0).trans rfl) (fun S x => (zg_seti hg 0).trans rfl) (fun S x => (zg_seti hg 0).trans rfl) (fun S x => (zg_seti hg 0).trans rfl) (fun S x => (zg_seti hg 0).trans rfl) (fun S x => (zg_seti hg 0).trans rfl) (fun S => (zg_geti hg 1).trans rfl) (fun S => (zg_geti hg 2).trans rfl) (fun S => (zg_geti hg 3).trans rfl) (fun S => (zg_geti hg 4).trans rfl) (fun S => (zg_geti hg 5).trans rfl) (fun S => (zg_geti hg 6).trans rfl) (fun S x => (zg_seti hg 1).trans rfl) (fun S x => (zg_seti hg 2).trans rfl) (fun S x => (zg_seti hg 3).trans rfl) (fun S x => (zg_seti hg 4).trans rfl) (fun S x => (zg_seti hg 5).trans rfl) (fun S x => (zg_seti hg 6).trans rfl)
theorem zLg_24 {g : List va_E} (hg : g.length = 24) : zLand (fun S => g ++ zL7 S 24) 24 := zLand_of (fun S => (zg_geti hg 0).trans rfl) (fun S x => (zg_seti hg 0).trans rfl) (fun S x => (zg_seti hg 0).trans rfl) (fun S x => (zg_seti hg 0).trans rfl) (fun S x => (zg_seti hg 0).trans rfl) (fun S x => (zg_seti hg 0).trans rfl) (fun S x => (zg_seti hg 0).trans rfl) (fun S => (zg_geti hg 1).trans rfl) (fun S => (zg_geti hg 2).trans rfl) (fun S => (zg_geti hg 3).trans rfl) (fun S => (zg_geti hg 4).trans rfl) (fun S => (zg_geti hg 5).trans rfl) (fun S => (zg_geti hg 6).trans rfl) (fun S x => (zg_seti hg 1).trans rfl) (fun S x => (zg_seti hg 2).trans rfl) (fun S x => (zg_seti hg 3).trans rfl) (fun S x => (zg_seti hg 4).trans rfl) (fun S x => (zg_seti hg 5).trans rfl) (fun S x => (zg_seti hg 6).trans rfl)
