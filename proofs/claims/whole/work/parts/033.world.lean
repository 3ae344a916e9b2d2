/-! the state: numbers by cell and place, longs, which lands are told and drafted -/
abbrev zS : Type := (Nat → Nat → Int32) × (Nat → Int64) × Bool × Bool
def lr (b : Bool) : Nat := cond b 24 17
def zr (S : zS) (k : Nat) (g : Nat → Int32) : zS := (fun c => cond (Nat.beq c k) g (S.1 c), S.2)
def zu (S : zS) (k j : Nat) (x : Int32) : zS := (fun c => cond (Nat.beq c k) (fun i => cond (Nat.beq i j) x (S.1 c i)) (S.1 c), S.2)
def zT (S : zS) (k : Nat) (x : Int64) : zS := (S.1, fun c => cond (Nat.beq c k) x (S.2.1 c), S.2.2)
def zbt (S : zS) (b : Bool) : zS := (S.1, S.2.1, b, S.2.2.2)
def zbd (S : zS) (b : Bool) : zS := (S.1, S.2.1, S.2.2.1, b)
theorem zbind {α β : Type} {o : Option α} {g : α → Option β} {v : β} (h : o.bind g = some v) : ∃ x, o = some x ∧ g x = some v := by
  cases o with
  | none => cases h
  | some x => exact ⟨x, rfl, h⟩
def zb2 {α β γ : Type} (o : Option (α × β)) (g : α → β → Option γ) : Option γ := o.bind (fun p => g p.1 p.2)
theorem zbind2 {α β γ : Type} {o : Option (α × β)} {g : α → β → Option γ} {v : γ} (h : zb2 o g = some v) : ∃ x y, o = some (x, y) ∧ g x y = some v := by
  cases o with
  | none => cases h
  | some x => exact ⟨x.1, x.2, rfl, h⟩
theorem zifb {α : Type} {p : Prop} [Decidable p] {x : Option α} {v : α} (h : (if p then x else none) = some v) : p ∧ x = some v := by
  by_cases hp : p
  · rw [if_pos hp] at h; exact ⟨hp, h⟩
  · rw [if_neg hp] at h; cases h
theorem zifn {α : Type} {p : Prop} [Decidable p] {x : Option α} {v : α} (h : (if p then none else x) = some v) : ¬ p ∧ x = some v := by
  by_cases hp : p
  · rw [if_pos hp] at h; cases h
  · rw [if_neg hp] at h; exact ⟨hp, h⟩
def zN : Nat := 100000
theorem zret1 {e v : Int32} {h : List va_E} (hf : some e = some v) : zq (some (.int v)) h (some (.int e)) h := by
  rw [Option.some.inj hf]; exact ⟨rfl, rfl⟩
theorem zretl {e v : Int64} {h : List va_E} (hf : some e = some v) : zq (some (.long v)) h (some (.long e)) h := by
  rw [Option.some.inj hf]; exact ⟨rfl, rfl⟩
theorem zret0 (W : zS → List va_E) {S S' : zS} (hf : some S = some S') : zq none (W S') none (W S) := by
  rw [Option.some.inj hf]; exact ⟨rfl, rfl⟩
theorem zret2 (W : zS → List va_E) {e v : Int32} {S S' : zS} (hf : some (e, S) = some (v, S')) : zq (some (.int v)) (W S') (some (.int e)) (W S) := by
  have h1 := Option.some.inj hf
  have h2 : e = v := congrArg Prod.fst h1
  have h3 : S = S' := congrArg Prod.snd h1
  rw [h2, h3]; exact ⟨rfl, rfl⟩
abbrev zbl (v : Int32) : Prop := v = 0 ∨ v = 1
theorem zbl_n {v : Int32} (h : zbl v) : narrow .boolean (.int v) = .int v := by
  rcases h with h | h <;> rw [h] <;> rfl
def wl (S : zS) : List va_E := [.inr (0, [.ref 1, .ref 2, .ref 3, .ref 4, .ref 5, .ref 6, .int (S.1 0 6), .int (S.1 0 7), .int (S.1 0 8), .int (S.1 0 9), .int (S.1 0 10), .int (S.1 0 11)]), .inl (0, 6, .inl (S.1 1)), .inl (0, 6, .inl (S.1 2)), .inl (0, 6, .inl (S.1 3)), .inl (0, 36, .inl (S.1 4)), .inl (0, 36, .inl (S.1 5)), .inl (0, 3, .inl (S.1 6))]
def wk (S : zS) : List va_E := [.inr (5, [.ref 1, .ref 3, .ref 5, .ref 10, .ref 11, .ref 15, .ref (lr S.2.2.1), .ref (lr S.2.2.2), .int (S.1 0 8), .long (S.2.1 0)]),
  .inr (3, [.ref 2, .int (S.1 1 1), .int (S.1 1 2), .int (S.1 1 3), .int (S.1 1 4), .int (S.1 1 5)]),
  .inl (0, 180, .inl (S.1 2)),
  .inr (2, [.ref 4, .int (S.1 3 1)]),
  .inl (0, 308, .inl (S.1 4)),
  .inl (3, 2, .inr (.inr (.inr (.inr (fun j => some (cond (Nat.beq j 0) 6 8)))))),
  .inr (2, [.ref 7, .int (S.1 6 1)]),
  .inl (0, 308, .inl (S.1 7)),
  .inr (2, [.ref 9, .int (S.1 8 1)]),
  .inl (0, 308, .inl (S.1 9)),
  .inl (0, 6, .inl (S.1 10)),
  .inr (4, [.ref 12, .ref 13, .ref 14, .int (S.1 11 3), .int (S.1 11 4), .int (S.1 11 5), .int (S.1 11 6)]),
  .inl (0, 6, .inl (S.1 12)),
  .inl (0, 6, .inl (S.1 13)),
  .inl (0, 6, .inl (S.1 14)),
  .inr (1, [.ref 16, .int (S.1 15 1)]),
  .inl (0, 6, .inl (S.1 16)),
  .inr (0, [.ref 18, .ref 19, .ref 20, .ref 21, .ref 22, .ref 23, .int (S.1 17 6), .int (S.1 17 7), .int (S.1 17 8), .int (S.1 17 9), .int (S.1 17 10), .int (S.1 17 11)]),
  .inl (0, 6, .inl (S.1 18)),
  .inl (0, 6, .inl (S.1 19)),
  .inl (0, 6, .inl (S.1 20)),
  .inl (0, 36, .inl (S.1 21)),
  .inl (0, 36, .inl (S.1 22)),
  .inl (0, 3, .inl (S.1 23)),
  .inr (0, [.ref 25, .ref 26, .ref 27, .ref 28, .ref 29, .ref 30, .int (S.1 24 6), .int (S.1 24 7), .int (S.1 24 8), .int (S.1 24 9), .int (S.1 24 10), .int (S.1 24 11)]),
  .inl (0, 6, .inl (S.1 25)),
  .inl (0, 6, .inl (S.1 26)),
  .inl (0, 6, .inl (S.1 27)),
  .inl (0, 36, .inl (S.1 28)),
  .inl (0, 36, .inl (S.1 29)),
  .inl (0, 3, .inl (S.1 30))]
def wd (S : zS) : List va_E := [.inr (5, [.ref 1, .ref 3, .ref 5, .ref 10, .ref 11, .ref 15, .ref (lr S.2.2.1), .ref (lr S.2.2.2), .int (S.1 0 8), .long (S.2.1 0)]),
  .inr (3, [.ref 2, .int (S.1 1 1), .int (S.1 1 2), .int (S.1 1 3), .int (S.1 1 4), .int (S.1 1 5)]),
  .inl (0, 180, .inl (S.1 2)),
  .inr (2, [.ref 4, .int (S.1 3 1)]),
  .inl (0, 308, .inl (S.1 4)),
  .inl (3, 2, .inr (.inr (.inr (.inr (fun j => some (cond (Nat.beq j 0) 6 8)))))),
  .inr (2, [.ref 7, .int (S.1 6 1)]),
  .inl (0, 308, .inl (S.1 7)),
  .inr (2, [.ref 9, .int (S.1 8 1)]),
  .inl (0, 308, .inl (S.1 9)),
  .inl (0, 6, .inl (S.1 10)),
  .inr (4, [.ref 12, .ref 13, .ref 14, .int (S.1 11 3), .int (S.1 11 4), .int (S.1 11 5), .int (S.1 11 6)]),
  .inl (0, 6, .inl (S.1 12)),
  .inl (0, 6, .inl (S.1 13)),
  .inl (0, 6, .inl (S.1 14)),
  .inr (1, [.ref 16, .int (S.1 15 1)]),
  .inl (0, 6, .inl (S.1 16)),
  .inr (0, [.ref 18, .ref 19, .ref 20, .ref 21, .ref 22, .ref 23, .int (S.1 17 6), .int (S.1 17 7), .int (S.1 17 8), .int (S.1 17 9), .int (S.1 17 10), .int (S.1 17 11)]),
  .inl (0, 6, .inl (S.1 18)),
  .inl (0, 6, .inl (S.1 19)),
  .inl (0, 6, .inl (S.1 20)),
  .inl (0, 36, .inl (S.1 21)),
  .inl (0, 36, .inl (S.1 22)),
  .inl (0, 3, .inl (S.1 23)),
  .inr (0, [.ref 25, .ref 26, .ref 27, .ref 28, .ref 29, .ref 30, .int (S.1 24 6), .int (S.1 24 7), .int (S.1 24 8), .int (S.1 24 9), .int (S.1 24 10), .int (S.1 24 11)]),
  .inl (0, 6, .inl (S.1 25)),
  .inl (0, 6, .inl (S.1 26)),
  .inl (0, 6, .inl (S.1 27)),
  .inl (0, 36, .inl (S.1 28)),
  .inl (0, 36, .inl (S.1 29)),
  .inl (0, 3, .inl (S.1 30)),
  .inr (6, [.long (S.2.1 1), .ref 32, .int (S.1 31 2), .ref 33, .ref 34, .ref 35, .ref 36, .ref 37, .ref 38, .ref 39, .ref 40, .int (S.1 31 11), .int (S.1 31 12), .int (S.1 31 13), .int (S.1 31 14), .int (S.1 31 15), .int (S.1 31 16), .ref 41, .ref 42, .ref 43, .int (S.1 31 20), .int (S.1 31 21), .int (S.1 31 22)]),
  .inl (1, 180, .inl (S.1 32)),
  .inl (0, 2, .inl (S.1 33)),
  .inl (0, 6, .inl (S.1 34)),
  .inl (0, 12, .inl (S.1 35)),
  .inl (0, 12, .inl (S.1 36)),
  .inl (0, 2, .inl (S.1 37)),
  .inl (0, 72, .inl (S.1 38)),
  .inl (0, 72, .inl (S.1 39)),
  .inl (0, 6, .inl (S.1 40)),
  .inl (0, 927, .inl (S.1 41)),
  .inl (2, 2, .inl (S.1 42)),
  .inl (0, 6, .inl (S.1 43))]

theorem wo_0 (S : zS) : (wd S)[0]? = some (.inr (5, [.ref 1, .ref 3, .ref 5, .ref 10, .ref 11, .ref 15, .ref (lr S.2.2.1), .ref (lr S.2.2.2), .int (S.1 0 8), .long (S.2.1 0)])) := rfl
theorem wp_0_6 (S : zS) (b : Bool) : (wd S).set 0 (.inr (5, ([.ref 1, .ref 3, .ref 5, .ref 10, .ref 11, .ref 15, .ref (lr S.2.2.1), .ref (lr S.2.2.2), .int (S.1 0 8), .long (S.2.1 0)] : List Value).set 6 (.ref (lr b)))) = wd (zbt S b) := rfl
theorem wp_0_7 (S : zS) (b : Bool) : (wd S).set 0 (.inr (5, ([.ref 1, .ref 3, .ref 5, .ref 10, .ref 11, .ref 15, .ref (lr S.2.2.1), .ref (lr S.2.2.2), .int (S.1 0 8), .long (S.2.1 0)] : List Value).set 7 (.ref (lr b)))) = wd (zbd S b) := rfl
theorem wp_0_8 (S : zS) (x : Int32) : (wd S).set 0 (.inr (5, ([.ref 1, .ref 3, .ref 5, .ref 10, .ref 11, .ref 15, .ref (lr S.2.2.1), .ref (lr S.2.2.2), .int (S.1 0 8), .long (S.2.1 0)] : List Value).set 8 (.int x))) = wd (zu S 0 8 x) := rfl
theorem wp_0_9 (S : zS) (x : Int64) : (wd S).set 0 (.inr (5, ([.ref 1, .ref 3, .ref 5, .ref 10, .ref 11, .ref 15, .ref (lr S.2.2.1), .ref (lr S.2.2.2), .int (S.1 0 8), .long (S.2.1 0)] : List Value).set 9 (.long x))) = wd (zT S 0 x) := rfl
theorem wo_1 (S : zS) : (wd S)[1]? = some (.inr (3, [.ref 2, .int (S.1 1 1), .int (S.1 1 2), .int (S.1 1 3), .int (S.1 1 4), .int (S.1 1 5)])) := rfl
theorem wp_1_1 (S : zS) (x : Int32) : (wd S).set 1 (.inr (3, ([.ref 2, .int (S.1 1 1), .int (S.1 1 2), .int (S.1 1 3), .int (S.1 1 4), .int (S.1 1 5)] : List Value).set 1 (.int x))) = wd (zu S 1 1 x) := rfl
theorem wp_1_2 (S : zS) (x : Int32) : (wd S).set 1 (.inr (3, ([.ref 2, .int (S.1 1 1), .int (S.1 1 2), .int (S.1 1 3), .int (S.1 1 4), .int (S.1 1 5)] : List Value).set 2 (.int x))) = wd (zu S 1 2 x) := rfl
theorem wp_1_3 (S : zS) (x : Int32) : (wd S).set 1 (.inr (3, ([.ref 2, .int (S.1 1 1), .int (S.1 1 2), .int (S.1 1 3), .int (S.1 1 4), .int (S.1 1 5)] : List Value).set 3 (.int x))) = wd (zu S 1 3 x) := rfl
theorem wp_1_4 (S : zS) (x : Int32) : (wd S).set 1 (.inr (3, ([.ref 2, .int (S.1 1 1), .int (S.1 1 2), .int (S.1 1 3), .int (S.1 1 4), .int (S.1 1 5)] : List Value).set 4 (.int x))) = wd (zu S 1 4 x) := rfl
theorem wp_1_5 (S : zS) (x : Int32) : (wd S).set 1 (.inr (3, ([.ref 2, .int (S.1 1 1), .int (S.1 1 2), .int (S.1 1 3), .int (S.1 1 4), .int (S.1 1 5)] : List Value).set 5 (.int x))) = wd (zu S 1 5 x) := rfl
theorem wo_2 (S : zS) : (wd S)[2]? = some (.inl (0, 180, .inl (S.1 2))) := rfl
theorem ws_2 (S : zS) (g : Nat → Int32) : (wd S).set 2 (.inl (0, 180, .inl g)) = wd (zr S 2 g) := rfl
theorem wo_3 (S : zS) : (wd S)[3]? = some (.inr (2, [.ref 4, .int (S.1 3 1)])) := rfl
theorem wp_3_1 (S : zS) (x : Int32) : (wd S).set 3 (.inr (2, ([.ref 4, .int (S.1 3 1)] : List Value).set 1 (.int x))) = wd (zu S 3 1 x) := rfl
theorem wo_4 (S : zS) : (wd S)[4]? = some (.inl (0, 308, .inl (S.1 4))) := rfl
theorem ws_4 (S : zS) (g : Nat → Int32) : (wd S).set 4 (.inl (0, 308, .inl g)) = wd (zr S 4 g) := rfl
theorem wo_5 (S : zS) : (wd S)[5]? = some (.inl (3, 2, .inr (.inr (.inr (.inr (fun j => some (cond (Nat.beq j 0) 6 8))))))) := rfl
theorem wo_6 (S : zS) : (wd S)[6]? = some (.inr (2, [.ref 7, .int (S.1 6 1)])) := rfl
theorem wp_6_1 (S : zS) (x : Int32) : (wd S).set 6 (.inr (2, ([.ref 7, .int (S.1 6 1)] : List Value).set 1 (.int x))) = wd (zu S 6 1 x) := rfl
theorem wo_7 (S : zS) : (wd S)[7]? = some (.inl (0, 308, .inl (S.1 7))) := rfl
theorem ws_7 (S : zS) (g : Nat → Int32) : (wd S).set 7 (.inl (0, 308, .inl g)) = wd (zr S 7 g) := rfl
theorem wo_8 (S : zS) : (wd S)[8]? = some (.inr (2, [.ref 9, .int (S.1 8 1)])) := rfl
theorem wp_8_1 (S : zS) (x : Int32) : (wd S).set 8 (.inr (2, ([.ref 9, .int (S.1 8 1)] : List Value).set 1 (.int x))) = wd (zu S 8 1 x) := rfl
theorem wo_9 (S : zS) : (wd S)[9]? = some (.inl (0, 308, .inl (S.1 9))) := rfl
theorem ws_9 (S : zS) (g : Nat → Int32) : (wd S).set 9 (.inl (0, 308, .inl g)) = wd (zr S 9 g) := rfl
theorem wo_10 (S : zS) : (wd S)[10]? = some (.inl (0, 6, .inl (S.1 10))) := rfl
theorem ws_10 (S : zS) (g : Nat → Int32) : (wd S).set 10 (.inl (0, 6, .inl g)) = wd (zr S 10 g) := rfl
theorem wo_11 (S : zS) : (wd S)[11]? = some (.inr (4, [.ref 12, .ref 13, .ref 14, .int (S.1 11 3), .int (S.1 11 4), .int (S.1 11 5), .int (S.1 11 6)])) := rfl
theorem wp_11_3 (S : zS) (x : Int32) : (wd S).set 11 (.inr (4, ([.ref 12, .ref 13, .ref 14, .int (S.1 11 3), .int (S.1 11 4), .int (S.1 11 5), .int (S.1 11 6)] : List Value).set 3 (.int x))) = wd (zu S 11 3 x) := rfl
theorem wp_11_4 (S : zS) (x : Int32) : (wd S).set 11 (.inr (4, ([.ref 12, .ref 13, .ref 14, .int (S.1 11 3), .int (S.1 11 4), .int (S.1 11 5), .int (S.1 11 6)] : List Value).set 4 (.int x))) = wd (zu S 11 4 x) := rfl
theorem wp_11_5 (S : zS) (x : Int32) : (wd S).set 11 (.inr (4, ([.ref 12, .ref 13, .ref 14, .int (S.1 11 3), .int (S.1 11 4), .int (S.1 11 5), .int (S.1 11 6)] : List Value).set 5 (.int x))) = wd (zu S 11 5 x) := rfl
theorem wp_11_6 (S : zS) (x : Int32) : (wd S).set 11 (.inr (4, ([.ref 12, .ref 13, .ref 14, .int (S.1 11 3), .int (S.1 11 4), .int (S.1 11 5), .int (S.1 11 6)] : List Value).set 6 (.int x))) = wd (zu S 11 6 x) := rfl
theorem wo_12 (S : zS) : (wd S)[12]? = some (.inl (0, 6, .inl (S.1 12))) := rfl
theorem ws_12 (S : zS) (g : Nat → Int32) : (wd S).set 12 (.inl (0, 6, .inl g)) = wd (zr S 12 g) := rfl
theorem wo_13 (S : zS) : (wd S)[13]? = some (.inl (0, 6, .inl (S.1 13))) := rfl
theorem ws_13 (S : zS) (g : Nat → Int32) : (wd S).set 13 (.inl (0, 6, .inl g)) = wd (zr S 13 g) := rfl
theorem wo_14 (S : zS) : (wd S)[14]? = some (.inl (0, 6, .inl (S.1 14))) := rfl
theorem ws_14 (S : zS) (g : Nat → Int32) : (wd S).set 14 (.inl (0, 6, .inl g)) = wd (zr S 14 g) := rfl
theorem wo_15 (S : zS) : (wd S)[15]? = some (.inr (1, [.ref 16, .int (S.1 15 1)])) := rfl
theorem wp_15_1 (S : zS) (x : Int32) : (wd S).set 15 (.inr (1, ([.ref 16, .int (S.1 15 1)] : List Value).set 1 (.int x))) = wd (zu S 15 1 x) := rfl
theorem wo_16 (S : zS) : (wd S)[16]? = some (.inl (0, 6, .inl (S.1 16))) := rfl
theorem ws_16 (S : zS) (g : Nat → Int32) : (wd S).set 16 (.inl (0, 6, .inl g)) = wd (zr S 16 g) := rfl
theorem wo_17 (S : zS) : (wd S)[17]? = some (.inr (0, [.ref 18, .ref 19, .ref 20, .ref 21, .ref 22, .ref 23, .int (S.1 17 6), .int (S.1 17 7), .int (S.1 17 8), .int (S.1 17 9), .int (S.1 17 10), .int (S.1 17 11)])) := rfl
theorem wo_18 (S : zS) : (wd S)[18]? = some (.inl (0, 6, .inl (S.1 18))) := rfl
theorem ws_18 (S : zS) (g : Nat → Int32) : (wd S).set 18 (.inl (0, 6, .inl g)) = wd (zr S 18 g) := rfl
theorem wo_19 (S : zS) : (wd S)[19]? = some (.inl (0, 6, .inl (S.1 19))) := rfl
theorem ws_19 (S : zS) (g : Nat → Int32) : (wd S).set 19 (.inl (0, 6, .inl g)) = wd (zr S 19 g) := rfl
theorem wo_20 (S : zS) : (wd S)[20]? = some (.inl (0, 6, .inl (S.1 20))) := rfl
theorem ws_20 (S : zS) (g : Nat → Int32) : (wd S).set 20 (.inl (0, 6, .inl g)) = wd (zr S 20 g) := rfl
theorem wo_21 (S : zS) : (wd S)[21]? = some (.inl (0, 36, .inl (S.1 21))) := rfl
theorem ws_21 (S : zS) (g : Nat → Int32) : (wd S).set 21 (.inl (0, 36, .inl g)) = wd (zr S 21 g) := rfl
theorem wo_22 (S : zS) : (wd S)[22]? = some (.inl (0, 36, .inl (S.1 22))) := rfl
theorem ws_22 (S : zS) (g : Nat → Int32) : (wd S).set 22 (.inl (0, 36, .inl g)) = wd (zr S 22 g) := rfl
theorem wo_23 (S : zS) : (wd S)[23]? = some (.inl (0, 3, .inl (S.1 23))) := rfl
theorem ws_23 (S : zS) (g : Nat → Int32) : (wd S).set 23 (.inl (0, 3, .inl g)) = wd (zr S 23 g) := rfl
theorem wo_24 (S : zS) : (wd S)[24]? = some (.inr (0, [.ref 25, .ref 26, .ref 27, .ref 28, .ref 29, .ref 30, .int (S.1 24 6), .int (S.1 24 7), .int (S.1 24 8), .int (S.1 24 9), .int (S.1 24 10), .int (S.1 24 11)])) := rfl
theorem wo_25 (S : zS) : (wd S)[25]? = some (.inl (0, 6, .inl (S.1 25))) := rfl
theorem ws_25 (S : zS) (g : Nat → Int32) : (wd S).set 25 (.inl (0, 6, .inl g)) = wd (zr S 25 g) := rfl
theorem wo_26 (S : zS) : (wd S)[26]? = some (.inl (0, 6, .inl (S.1 26))) := rfl
theorem ws_26 (S : zS) (g : Nat → Int32) : (wd S).set 26 (.inl (0, 6, .inl g)) = wd (zr S 26 g) := rfl
theorem wo_27 (S : zS) : (wd S)[27]? = some (.inl (0, 6, .inl (S.1 27))) := rfl
theorem ws_27 (S : zS) (g : Nat → Int32) : (wd S).set 27 (.inl (0, 6, .inl g)) = wd (zr S 27 g) := rfl
theorem wo_28 (S : zS) : (wd S)[28]? = some (.inl (0, 36, .inl (S.1 28))) := rfl
theorem ws_28 (S : zS) (g : Nat → Int32) : (wd S).set 28 (.inl (0, 36, .inl g)) = wd (zr S 28 g) := rfl
theorem wo_29 (S : zS) : (wd S)[29]? = some (.inl (0, 36, .inl (S.1 29))) := rfl
theorem ws_29 (S : zS) (g : Nat → Int32) : (wd S).set 29 (.inl (0, 36, .inl g)) = wd (zr S 29 g) := rfl
theorem wo_30 (S : zS) : (wd S)[30]? = some (.inl (0, 3, .inl (S.1 30))) := rfl
theorem ws_30 (S : zS) (g : Nat → Int32) : (wd S).set 30 (.inl (0, 3, .inl g)) = wd (zr S 30 g) := rfl
theorem wo_31 (S : zS) : (wd S)[31]? = some (.inr (6, [.long (S.2.1 1), .ref 32, .int (S.1 31 2), .ref 33, .ref 34, .ref 35, .ref 36, .ref 37, .ref 38, .ref 39, .ref 40, .int (S.1 31 11), .int (S.1 31 12), .int (S.1 31 13), .int (S.1 31 14), .int (S.1 31 15), .int (S.1 31 16), .ref 41, .ref 42, .ref 43, .int (S.1 31 20), .int (S.1 31 21), .int (S.1 31 22)])) := rfl
theorem wp_31_0 (S : zS) (x : Int64) : (wd S).set 31 (.inr (6, ([.long (S.2.1 1), .ref 32, .int (S.1 31 2), .ref 33, .ref 34, .ref 35, .ref 36, .ref 37, .ref 38, .ref 39, .ref 40, .int (S.1 31 11), .int (S.1 31 12), .int (S.1 31 13), .int (S.1 31 14), .int (S.1 31 15), .int (S.1 31 16), .ref 41, .ref 42, .ref 43, .int (S.1 31 20), .int (S.1 31 21), .int (S.1 31 22)] : List Value).set 0 (.long x))) = wd (zT S 1 x) := rfl
theorem wp_31_2 (S : zS) (x : Int32) : (wd S).set 31 (.inr (6, ([.long (S.2.1 1), .ref 32, .int (S.1 31 2), .ref 33, .ref 34, .ref 35, .ref 36, .ref 37, .ref 38, .ref 39, .ref 40, .int (S.1 31 11), .int (S.1 31 12), .int (S.1 31 13), .int (S.1 31 14), .int (S.1 31 15), .int (S.1 31 16), .ref 41, .ref 42, .ref 43, .int (S.1 31 20), .int (S.1 31 21), .int (S.1 31 22)] : List Value).set 2 (.int x))) = wd (zu S 31 2 x) := rfl
theorem wp_31_11 (S : zS) (x : Int32) : (wd S).set 31 (.inr (6, ([.long (S.2.1 1), .ref 32, .int (S.1 31 2), .ref 33, .ref 34, .ref 35, .ref 36, .ref 37, .ref 38, .ref 39, .ref 40, .int (S.1 31 11), .int (S.1 31 12), .int (S.1 31 13), .int (S.1 31 14), .int (S.1 31 15), .int (S.1 31 16), .ref 41, .ref 42, .ref 43, .int (S.1 31 20), .int (S.1 31 21), .int (S.1 31 22)] : List Value).set 11 (.int x))) = wd (zu S 31 11 x) := rfl
theorem wp_31_12 (S : zS) (x : Int32) : (wd S).set 31 (.inr (6, ([.long (S.2.1 1), .ref 32, .int (S.1 31 2), .ref 33, .ref 34, .ref 35, .ref 36, .ref 37, .ref 38, .ref 39, .ref 40, .int (S.1 31 11), .int (S.1 31 12), .int (S.1 31 13), .int (S.1 31 14), .int (S.1 31 15), .int (S.1 31 16), .ref 41, .ref 42, .ref 43, .int (S.1 31 20), .int (S.1 31 21), .int (S.1 31 22)] : List Value).set 12 (.int x))) = wd (zu S 31 12 x) := rfl
theorem wp_31_13 (S : zS) (x : Int32) : (wd S).set 31 (.inr (6, ([.long (S.2.1 1), .ref 32, .int (S.1 31 2), .ref 33, .ref 34, .ref 35, .ref 36, .ref 37, .ref 38, .ref 39, .ref 40, .int (S.1 31 11), .int (S.1 31 12), .int (S.1 31 13), .int (S.1 31 14), .int (S.1 31 15), .int (S.1 31 16), .ref 41, .ref 42, .ref 43, .int (S.1 31 20), .int (S.1 31 21), .int (S.1 31 22)] : List Value).set 13 (.int x))) = wd (zu S 31 13 x) := rfl
theorem wp_31_14 (S : zS) (x : Int32) : (wd S).set 31 (.inr (6, ([.long (S.2.1 1), .ref 32, .int (S.1 31 2), .ref 33, .ref 34, .ref 35, .ref 36, .ref 37, .ref 38, .ref 39, .ref 40, .int (S.1 31 11), .int (S.1 31 12), .int (S.1 31 13), .int (S.1 31 14), .int (S.1 31 15), .int (S.1 31 16), .ref 41, .ref 42, .ref 43, .int (S.1 31 20), .int (S.1 31 21), .int (S.1 31 22)] : List Value).set 14 (.int x))) = wd (zu S 31 14 x) := rfl
theorem wp_31_15 (S : zS) (x : Int32) : (wd S).set 31 (.inr (6, ([.long (S.2.1 1), .ref 32, .int (S.1 31 2), .ref 33, .ref 34, .ref 35, .ref 36, .ref 37, .ref 38, .ref 39, .ref 40, .int (S.1 31 11), .int (S.1 31 12), .int (S.1 31 13), .int (S.1 31 14), .int (S.1 31 15), .int (S.1 31 16), .ref 41, .ref 42, .ref 43, .int (S.1 31 20), .int (S.1 31 21), .int (S.1 31 22)] : List Value).set 15 (.int x))) = wd (zu S 31 15 x) := rfl
theorem wp_31_16 (S : zS) (x : Int32) : (wd S).set 31 (.inr (6, ([.long (S.2.1 1), .ref 32, .int (S.1 31 2), .ref 33, .ref 34, .ref 35, .ref 36, .ref 37, .ref 38, .ref 39, .ref 40, .int (S.1 31 11), .int (S.1 31 12), .int (S.1 31 13), .int (S.1 31 14), .int (S.1 31 15), .int (S.1 31 16), .ref 41, .ref 42, .ref 43, .int (S.1 31 20), .int (S.1 31 21), .int (S.1 31 22)] : List Value).set 16 (.int x))) = wd (zu S 31 16 x) := rfl
theorem wp_31_20 (S : zS) (x : Int32) : (wd S).set 31 (.inr (6, ([.long (S.2.1 1), .ref 32, .int (S.1 31 2), .ref 33, .ref 34, .ref 35, .ref 36, .ref 37, .ref 38, .ref 39, .ref 40, .int (S.1 31 11), .int (S.1 31 12), .int (S.1 31 13), .int (S.1 31 14), .int (S.1 31 15), .int (S.1 31 16), .ref 41, .ref 42, .ref 43, .int (S.1 31 20), .int (S.1 31 21), .int (S.1 31 22)] : List Value).set 20 (.int x))) = wd (zu S 31 20 x) := rfl
theorem wp_31_21 (S : zS) (x : Int32) : (wd S).set 31 (.inr (6, ([.long (S.2.1 1), .ref 32, .int (S.1 31 2), .ref 33, .ref 34, .ref 35, .ref 36, .ref 37, .ref 38, .ref 39, .ref 40, .int (S.1 31 11), .int (S.1 31 12), .int (S.1 31 13), .int (S.1 31 14), .int (S.1 31 15), .int (S.1 31 16), .ref 41, .ref 42, .ref 43, .int (S.1 31 20), .int (S.1 31 21), .int (S.1 31 22)] : List Value).set 21 (.int x))) = wd (zu S 31 21 x) := rfl
theorem wp_31_22 (S : zS) (x : Int32) : (wd S).set 31 (.inr (6, ([.long (S.2.1 1), .ref 32, .int (S.1 31 2), .ref 33, .ref 34, .ref 35, .ref 36, .ref 37, .ref 38, .ref 39, .ref 40, .int (S.1 31 11), .int (S.1 31 12), .int (S.1 31 13), .int (S.1 31 14), .int (S.1 31 15), .int (S.1 31 16), .ref 41, .ref 42, .ref 43, .int (S.1 31 20), .int (S.1 31 21), .int (S.1 31 22)] : List Value).set 22 (.int x))) = wd (zu S 31 22 x) := rfl
theorem wo_32 (S : zS) : (wd S)[32]? = some (.inl (1, 180, .inl (S.1 32))) := rfl
theorem ws_32 (S : zS) (g : Nat → Int32) : (wd S).set 32 (.inl (1, 180, .inl g)) = wd (zr S 32 g) := rfl
theorem wo_33 (S : zS) : (wd S)[33]? = some (.inl (0, 2, .inl (S.1 33))) := rfl
theorem ws_33 (S : zS) (g : Nat → Int32) : (wd S).set 33 (.inl (0, 2, .inl g)) = wd (zr S 33 g) := rfl
theorem wo_34 (S : zS) : (wd S)[34]? = some (.inl (0, 6, .inl (S.1 34))) := rfl
theorem ws_34 (S : zS) (g : Nat → Int32) : (wd S).set 34 (.inl (0, 6, .inl g)) = wd (zr S 34 g) := rfl
theorem wo_35 (S : zS) : (wd S)[35]? = some (.inl (0, 12, .inl (S.1 35))) := rfl
theorem ws_35 (S : zS) (g : Nat → Int32) : (wd S).set 35 (.inl (0, 12, .inl g)) = wd (zr S 35 g) := rfl
theorem wo_36 (S : zS) : (wd S)[36]? = some (.inl (0, 12, .inl (S.1 36))) := rfl
theorem ws_36 (S : zS) (g : Nat → Int32) : (wd S).set 36 (.inl (0, 12, .inl g)) = wd (zr S 36 g) := rfl
theorem wo_37 (S : zS) : (wd S)[37]? = some (.inl (0, 2, .inl (S.1 37))) := rfl
theorem ws_37 (S : zS) (g : Nat → Int32) : (wd S).set 37 (.inl (0, 2, .inl g)) = wd (zr S 37 g) := rfl
theorem wo_38 (S : zS) : (wd S)[38]? = some (.inl (0, 72, .inl (S.1 38))) := rfl
theorem ws_38 (S : zS) (g : Nat → Int32) : (wd S).set 38 (.inl (0, 72, .inl g)) = wd (zr S 38 g) := rfl
theorem wo_39 (S : zS) : (wd S)[39]? = some (.inl (0, 72, .inl (S.1 39))) := rfl
theorem ws_39 (S : zS) (g : Nat → Int32) : (wd S).set 39 (.inl (0, 72, .inl g)) = wd (zr S 39 g) := rfl
theorem wo_40 (S : zS) : (wd S)[40]? = some (.inl (0, 6, .inl (S.1 40))) := rfl
theorem ws_40 (S : zS) (g : Nat → Int32) : (wd S).set 40 (.inl (0, 6, .inl g)) = wd (zr S 40 g) := rfl
theorem wo_41 (S : zS) : (wd S)[41]? = some (.inl (0, 927, .inl (S.1 41))) := rfl
theorem ws_41 (S : zS) (g : Nat → Int32) : (wd S).set 41 (.inl (0, 927, .inl g)) = wd (zr S 41 g) := rfl
theorem wo_42 (S : zS) : (wd S)[42]? = some (.inl (2, 2, .inl (S.1 42))) := rfl
theorem ws_42 (S : zS) (g : Nat → Int32) : (wd S).set 42 (.inl (2, 2, .inl g)) = wd (zr S 42 g) := rfl
theorem wo_43 (S : zS) : (wd S)[43]? = some (.inl (0, 6, .inl (S.1 43))) := rfl
theorem ws_43 (S : zS) (g : Nat → Int32) : (wd S).set 43 (.inl (0, 6, .inl g)) = wd (zr S 43 g) := rfl
/-- a Land in a world -/
def zlf (S : zS) (r : Nat) : List Value := [.ref (r + 1), .ref (r + 2), .ref (r + 3), .ref (r + 4), .ref (r + 5), .ref (r + 6), .int (S.1 r 6), .int (S.1 r 7), .int (S.1 r 8), .int (S.1 r 9), .int (S.1 r 10), .int (S.1 r 11)]
def zll (k : Nat) : Nat := [0, 6, 6, 6, 36, 36, 3].getD k 0
def zLand (W : zS → List va_E) (r : Nat) : Prop :=
  (∀ S, (W S)[r]? = some (.inr (0, zlf S r))) ∧ (∀ S k x, 6 ≤ k → k < 12 → (W S).set r (.inr (0, (zlf S r).set k (.int x))) = W (zu S r k x)) ∧
  (∀ S k, 1 ≤ k → k ≤ 6 → (W S)[r + k]? = some (.inl (0, zll k, .inl (S.1 (r + k))))) ∧ (∀ S k g, 1 ≤ k → k ≤ 6 → (W S).set (r + k) (.inl (0, zll k, .inl g)) = W (zr S (r + k) g))
theorem zLand.a1 {W : zS → List va_E} {r : Nat} (h : zLand W r) (S : zS) : (W S)[r + 1]? = some (.inl (0, 6, .inl (S.1 (r + 1)))) := h.2.2.1 S 1 (by decide) (by decide)
theorem zLand.s1 {W : zS → List va_E} {r : Nat} (h : zLand W r) (S : zS) (g : Nat → Int32) : (W S).set (r + 1) (.inl (0, 6, .inl g)) = W (zr S (r + 1) g) := h.2.2.2 S 1 g (by decide) (by decide)
theorem zLand.a2 {W : zS → List va_E} {r : Nat} (h : zLand W r) (S : zS) : (W S)[r + 2]? = some (.inl (0, 6, .inl (S.1 (r + 2)))) := h.2.2.1 S 2 (by decide) (by decide)
theorem zLand.s2 {W : zS → List va_E} {r : Nat} (h : zLand W r) (S : zS) (g : Nat → Int32) : (W S).set (r + 2) (.inl (0, 6, .inl g)) = W (zr S (r + 2) g) := h.2.2.2 S 2 g (by decide) (by decide)
theorem zLand.a3 {W : zS → List va_E} {r : Nat} (h : zLand W r) (S : zS) : (W S)[r + 3]? = some (.inl (0, 6, .inl (S.1 (r + 3)))) := h.2.2.1 S 3 (by decide) (by decide)
theorem zLand.s3 {W : zS → List va_E} {r : Nat} (h : zLand W r) (S : zS) (g : Nat → Int32) : (W S).set (r + 3) (.inl (0, 6, .inl g)) = W (zr S (r + 3) g) := h.2.2.2 S 3 g (by decide) (by decide)
theorem zLand.a4 {W : zS → List va_E} {r : Nat} (h : zLand W r) (S : zS) : (W S)[r + 4]? = some (.inl (0, 36, .inl (S.1 (r + 4)))) := h.2.2.1 S 4 (by decide) (by decide)
theorem zLand.s4 {W : zS → List va_E} {r : Nat} (h : zLand W r) (S : zS) (g : Nat → Int32) : (W S).set (r + 4) (.inl (0, 36, .inl g)) = W (zr S (r + 4) g) := h.2.2.2 S 4 g (by decide) (by decide)
theorem zLand.a5 {W : zS → List va_E} {r : Nat} (h : zLand W r) (S : zS) : (W S)[r + 5]? = some (.inl (0, 36, .inl (S.1 (r + 5)))) := h.2.2.1 S 5 (by decide) (by decide)
theorem zLand.s5 {W : zS → List va_E} {r : Nat} (h : zLand W r) (S : zS) (g : Nat → Int32) : (W S).set (r + 5) (.inl (0, 36, .inl g)) = W (zr S (r + 5) g) := h.2.2.2 S 5 g (by decide) (by decide)
theorem zLand.a6 {W : zS → List va_E} {r : Nat} (h : zLand W r) (S : zS) : (W S)[r + 6]? = some (.inl (0, 3, .inl (S.1 (r + 6)))) := h.2.2.1 S 6 (by decide) (by decide)
theorem zLand.s6 {W : zS → List va_E} {r : Nat} (h : zLand W r) (S : zS) (g : Nat → Int32) : (W S).set (r + 6) (.inl (0, 3, .inl g)) = W (zr S (r + 6) g) := h.2.2.2 S 6 g (by decide) (by decide)
theorem zLand.p6 {W : zS → List va_E} {r : Nat} (h : zLand W r) (S : zS) (x : Int32) : (W S).set r (.inr (0, (zlf S r).set 6 (.int x))) = W (zu S r 6 x) := h.2.1 S 6 x (by decide) (by decide)
theorem zLand.p7 {W : zS → List va_E} {r : Nat} (h : zLand W r) (S : zS) (x : Int32) : (W S).set r (.inr (0, (zlf S r).set 7 (.int x))) = W (zu S r 7 x) := h.2.1 S 7 x (by decide) (by decide)
theorem zLand.p8 {W : zS → List va_E} {r : Nat} (h : zLand W r) (S : zS) (x : Int32) : (W S).set r (.inr (0, (zlf S r).set 8 (.int x))) = W (zu S r 8 x) := h.2.1 S 8 x (by decide) (by decide)
theorem zLand.p9 {W : zS → List va_E} {r : Nat} (h : zLand W r) (S : zS) (x : Int32) : (W S).set r (.inr (0, (zlf S r).set 9 (.int x))) = W (zu S r 9 x) := h.2.1 S 9 x (by decide) (by decide)
theorem zLand.p10 {W : zS → List va_E} {r : Nat} (h : zLand W r) (S : zS) (x : Int32) : (W S).set r (.inr (0, (zlf S r).set 10 (.int x))) = W (zu S r 10 x) := h.2.1 S 10 x (by decide) (by decide)
theorem zLand.p11 {W : zS → List va_E} {r : Nat} (h : zLand W r) (S : zS) (x : Int32) : (W S).set r (.inr (0, (zlf S r).set 11 (.int x))) = W (zu S r 11 x) := h.2.1 S 11 x (by decide) (by decide)
theorem zLand_of {W : zS → List va_E} {r : Nat} (h0 : ∀ S, (W S)[r]? = some (.inr (0, zlf S r))) (p6 : ∀ S x, (W S).set r (.inr (0, (zlf S r).set 6 (.int x))) = W (zu S r 6 x)) (p7 : ∀ S x, (W S).set r (.inr (0, (zlf S r).set 7 (.int x))) = W (zu S r 7 x)) (p8 : ∀ S x, (W S).set r (.inr (0, (zlf S r).set 8 (.int x))) = W (zu S r 8 x)) (p9 : ∀ S x, (W S).set r (.inr (0, (zlf S r).set 9 (.int x))) = W (zu S r 9 x)) (p10 : ∀ S x, (W S).set r (.inr (0, (zlf S r).set 10 (.int x))) = W (zu S r 10 x)) (p11 : ∀ S x, (W S).set r (.inr (0, (zlf S r).set 11 (.int x))) = W (zu S r 11 x))
    (a1 : ∀ S, (W S)[r + 1]? = some (.inl (0, 6, .inl (S.1 (r + 1))))) (a2 : ∀ S, (W S)[r + 2]? = some (.inl (0, 6, .inl (S.1 (r + 2))))) (a3 : ∀ S, (W S)[r + 3]? = some (.inl (0, 6, .inl (S.1 (r + 3))))) (a4 : ∀ S, (W S)[r + 4]? = some (.inl (0, 36, .inl (S.1 (r + 4))))) (a5 : ∀ S, (W S)[r + 5]? = some (.inl (0, 36, .inl (S.1 (r + 5))))) (a6 : ∀ S, (W S)[r + 6]? = some (.inl (0, 3, .inl (S.1 (r + 6)))))
    (s1 : ∀ S g, (W S).set (r + 1) (.inl (0, 6, .inl g)) = W (zr S (r + 1) g)) (s2 : ∀ S g, (W S).set (r + 2) (.inl (0, 6, .inl g)) = W (zr S (r + 2) g)) (s3 : ∀ S g, (W S).set (r + 3) (.inl (0, 6, .inl g)) = W (zr S (r + 3) g)) (s4 : ∀ S g, (W S).set (r + 4) (.inl (0, 36, .inl g)) = W (zr S (r + 4) g)) (s5 : ∀ S g, (W S).set (r + 5) (.inl (0, 36, .inl g)) = W (zr S (r + 5) g)) (s6 : ∀ S g, (W S).set (r + 6) (.inl (0, 3, .inl g)) = W (zr S (r + 6) g)) : zLand W r := by
  refine ⟨h0, ?_, ?_, ?_⟩
  · intro S k x h1 h2
    rcases (show k = 6 ∨ k = 7 ∨ k = 8 ∨ k = 9 ∨ k = 10 ∨ k = 11 by omega) with rfl | rfl | rfl | rfl | rfl | rfl
    · exact p6 S x
    · exact p7 S x
    · exact p8 S x
    · exact p9 S x
    · exact p10 S x
    · exact p11 S x
  · intro S k h1 h2
    rcases (show k = 1 ∨ k = 2 ∨ k = 3 ∨ k = 4 ∨ k = 5 ∨ k = 6 by omega) with rfl | rfl | rfl | rfl | rfl | rfl
    · exact a1 S
    · exact a2 S
    · exact a3 S
    · exact a4 S
    · exact a5 S
    · exact a6 S
  · intro S k g h1 h2
    rcases (show k = 1 ∨ k = 2 ∨ k = 3 ∨ k = 4 ∨ k = 5 ∨ k = 6 by omega) with rfl | rfl | rfl | rfl | rfl | rfl
    · exact s1 S g
    · exact s2 S g
    · exact s3 S g
    · exact s4 S g
    · exact s5 S g
    · exact s6 S g
theorem zLwl : zLand wl 0 := zLand_of (fun _ => rfl) (fun _ _ => rfl) (fun _ _ => rfl) (fun _ _ => rfl) (fun _ _ => rfl) (fun _ _ => rfl) (fun _ _ => rfl) (fun _ => rfl) (fun _ => rfl) (fun _ => rfl) (fun _ => rfl) (fun _ => rfl) (fun _ => rfl) (fun _ _ => rfl) (fun _ _ => rfl) (fun _ _ => rfl) (fun _ _ => rfl) (fun _ _ => rfl) (fun _ _ => rfl)
theorem zLwk : zLand wk 17 := zLand_of (fun _ => rfl) (fun _ _ => rfl) (fun _ _ => rfl) (fun _ _ => rfl) (fun _ _ => rfl) (fun _ _ => rfl) (fun _ _ => rfl) (fun _ => rfl) (fun _ => rfl) (fun _ => rfl) (fun _ => rfl) (fun _ => rfl) (fun _ => rfl) (fun _ _ => rfl) (fun _ _ => rfl) (fun _ _ => rfl) (fun _ _ => rfl) (fun _ _ => rfl) (fun _ _ => rfl)
theorem zLwd17 : zLand wd 17 := zLand_of (fun _ => rfl) (fun _ _ => rfl) (fun _ _ => rfl) (fun _ _ => rfl) (fun _ _ => rfl) (fun _ _ => rfl) (fun _ _ => rfl) (fun _ => rfl) (fun _ => rfl) (fun _ => rfl) (fun _ => rfl) (fun _ => rfl) (fun _ => rfl) (fun _ _ => rfl) (fun _ _ => rfl) (fun _ _ => rfl) (fun _ _ => rfl) (fun _ _ => rfl) (fun _ _ => rfl)
theorem zLwd24 : zLand wd 24 := zLand_of (fun _ => rfl) (fun _ _ => rfl) (fun _ _ => rfl) (fun _ _ => rfl) (fun _ _ => rfl) (fun _ _ => rfl) (fun _ _ => rfl) (fun _ => rfl) (fun _ => rfl) (fun _ => rfl) (fun _ => rfl) (fun _ => rfl) (fun _ => rfl) (fun _ _ => rfl) (fun _ _ => rfl) (fun _ _ => rfl) (fun _ _ => rfl) (fun _ _ => rfl) (fun _ _ => rfl)
theorem zLwd (b : Bool) : zLand wd (lr b) := by
  cases b
  · exact zLwd17
  · exact zLwd24
/-- a Story in a world -/
def zStory (W : zS → List va_E) (r : Nat) : Prop :=
  (∀ S : zS, (W S)[r]? = some (.inr (2, [.ref (r + 1), .int (S.1 r 1)]))) ∧ (∀ (S : zS) (x : Int32), (W S).set r (.inr (2, ([.ref (r + 1), .int (S.1 r 1)] : List Value).set 1 (.int x))) = W (zu S r 1 x)) ∧
  (∀ S : zS, (W S)[r + 1]? = some (.inl (0, 308, .inl (S.1 (r + 1))))) ∧ (∀ (S : zS) (g : Nat → Int32), (W S).set (r + 1) (.inl (0, 308, .inl g)) = W (zr S (r + 1) g))
theorem zTwk_3 : zStory wk 3 := ⟨fun _ => rfl, fun _ _ => rfl, fun _ => rfl, fun _ _ => rfl⟩
theorem zTwd_3 : zStory wd 3 := ⟨fun _ => rfl, fun _ _ => rfl, fun _ => rfl, fun _ _ => rfl⟩
theorem zTwd_6 : zStory wd 6 := ⟨fun _ => rfl, fun _ _ => rfl, fun _ => rfl, fun _ _ => rfl⟩
theorem zTwd_8 : zStory wd 8 := ⟨fun _ => rfl, fun _ _ => rfl, fun _ => rfl, fun _ _ => rfl⟩
section ZV
variable {sc : Option (Nat × (Nat → Int32))} {d : Nat} {y : MethodName} {cc : ByteArray} {nL : Nat} {ret : Option FieldType} {pc : Nat} {L : List (Nat × Value)} {st : List Value} {h : List va_E} {Q : Option Value → List va_E → Prop}
theorem zv_ialdK {r n k : Nat} {f : Nat → Int32} {i : Int32} (hk : i.toNatClampNeg = k) (hi : zin i n) (ha : h[r]? = some (.inl (0, n, .inl f))) (hd : decode cc pc = .ok (.iaload, 1)) (kk : zV sc d y cc nL ret (pc + 1) L (.int (f k) :: st) h Q) : zV sc d y cc nL ret pc L (.int i :: .ref r :: st) h Q := by
  subst hk
  exact zv_iald hi ha hd kk
theorem zv_iastK {r n k : Nat} {f : Nat → Int32} {i x : Int32} {h2 : List va_E} (hk : i.toNatClampNeg = k) (hi : zin i n) (ha : h[r]? = some (.inl (0, n, .inl f))) (he : h.set r (.inl (0, n, .inl (upd f k x))) = h2) (hd : decode cc pc = .ok (.iastore, 1)) (kk : zV sc d y cc nL ret (pc + 1) L st h2 Q) : zV sc d y cc nL ret pc L (.int x :: .int i :: .ref r :: st) h Q := by
  subst hk
  exact zv_iast hi ha he hd kk
theorem zv_zastK {r n k : Nat} {f : Nat → Int32} {i x x' : Int32} {h2 : List va_E} (hk : i.toNatClampNeg = k) (hx : vp_nar .boolean x = x') (hi : zin i n) (ha : h[r]? = some (.inl (2, n, .inl f))) (he : h.set r (.inl (2, n, .inl (upd f k x'))) = h2) (hd : decode cc pc = .ok (.bastore, 1)) (kk : zV sc d y cc nL ret (pc + 1) L st h2 Q) : zV sc d y cc nL ret pc L (.int x :: .int i :: .ref r :: st) h Q := by
  subst hk; subst hx
  exact zv_zast hi ha he hd kk
theorem zv_zastV {r n : Nat} {f : Nat → Int32} {i x x' : Int32} {h2 : List va_E} (hx : vp_nar .boolean x = x') (hi : zin i n) (ha : h[r]? = some (.inl (2, n, .inl f))) (he : h.set r (.inl (2, n, .inl (upd f i.toNatClampNeg x'))) = h2) (hd : decode cc pc = .ok (.bastore, 1)) (kk : zV sc d y cc nL ret (pc + 1) L st h2 Q) : zV sc d y cc nL ret pc L (.int x :: .int i :: .ref r :: st) h Q := by
  subst hx
  exact zv_zast hi ha he hd kk
theorem zv_copyK {index r0 r1 n0 n1 k0 k1 k2 : Nat} {f g : Nat → Int32} {sp dp n : Int32} {h2 : List va_E} (e0 : sp.toNatClampNeg = k0) (e1 : dp.toNatClampNeg = k1) (e2 : n.toNatClampNeg = k2) (hc : zcpy n0 n1 sp dp n) (hw : Cond.methodLink y.cls index arraycopyName ∈ zt ∧ Cond.native arraycopyName ∈ zt ∧ Cond.static arraycopyName ∈ zt ∧ Cond.initialized "java/lang/System" ∈ zt)
    (ha0 : h[r0]? = some (.inl (0, n0, .inl f))) (ha1 : h[r1]? = some (.inl (0, n1, .inl g))) (he : h.set r1 (.inl (0, n1, .inl (va_cpy f g k0 k1 k2))) = h2) (hsm : (st.map Value.category).sum ≤ 8) (hd : decode cc pc = .ok (.invokestatic index, 3))
    (kk : zV sc (d + 1) y cc nL ret (pc + 3) L st h2 Q) : zV sc (d + 1) y cc nL ret pc L (.int n :: .int dp :: .ref r1 :: .int sp :: .ref r0 :: st) h Q := by
  subst e0; subst e1; subst e2
  exact zv_copy hc hw ha0 ha1 he hsm hd kk
theorem zim1 {i : Int32} (h : zin i 2) (h0 : ¬ i = 0) : i.toNatClampNeg = 1 := by
  have h1 : ¬ i.toInt = 0 := fun q => h0 (Int32.toInt_inj.mp q)
  show i.toInt.toNat = 1
  have := h.1; have := h.2
  omega
end ZV
