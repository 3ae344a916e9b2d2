/-! pure facts -/
theorem zr_s (S : zS) (k : Nat) (g : Nat → Int32) : (zr S k g).1 k = g := by
  show cond (Nat.beq k k) g (S.1 k) = g
  rw [Nat.beq_refl]; rfl
theorem zbq {c k : Nat} (h : c ≠ k) : Nat.beq c k = false := by
  cases hb : Nat.beq c k with
  | false => rfl
  | true => exact absurd (Nat.eq_of_beq_eq_true hb) h
theorem zr_n {S : zS} {k : Nat} {g : Nat → Int32} {c : Nat} (h : c ≠ k) : (zr S k g).1 c = S.1 c := by
  show cond (Nat.beq c k) g (S.1 c) = S.1 c
  rw [zbq h]; rfl
theorem zu_s (S : zS) (k j : Nat) (x : Int32) : (zu S k j x).1 k = upd (S.1 k) j x := by
  show cond (Nat.beq k k) (fun i => cond (Nat.beq i j) x (S.1 k i)) (S.1 k) = _
  rw [Nat.beq_refl]
  refine funext fun i => ?_
  show cond (Nat.beq i j) x (S.1 k i) = upd (S.1 k) j x i
  unfold upd
  by_cases hi : i = j
  · subst hi; rw [if_pos rfl, Nat.beq_refl]; rfl
  · rw [if_neg hi, zbq hi]; rfl
theorem zu_n {S : zS} {k j : Nat} {x : Int32} {c : Nat} (h : c ≠ k) : (zu S k j x).1 c = S.1 c := by
  show cond (Nat.beq c k) (fun i => cond (Nat.beq i j) x (S.1 c i)) (S.1 c) = S.1 c
  rw [zbq h]; rfl
theorem zS_ext {S S' : zS} (h1 : ∀ c, S.1 c = S'.1 c) (h2 : S.2 = S'.2) : S = S' := Prod.ext (funext h1) h2
theorem zu_zr (S : zS) (k j : Nat) (x : Int32) : zu S k j x = zr S k (upd (S.1 k) j x) := by
  refine zS_ext (fun c => ?_) rfl
  by_cases hc : c = k
  · subst hc; rw [zu_s, zr_s]
  · rw [zu_n hc, zr_n hc]
theorem zr_zr (S : zS) (k : Nat) (g g' : Nat → Int32) : zr (zr S k g) k g' = zr S k g' := by
  refine zS_ext (fun c => ?_) rfl
  by_cases hc : c = k
  · subst hc; rw [zr_s, zr_s]
  · rw [zr_n hc, zr_n hc, zr_n hc]
theorem zr_eta (S : zS) (k : Nat) : zr S k (S.1 k) = S := by
  refine zS_ext (fun c => ?_) rfl
  by_cases hc : c = k
  · subst hc; rw [zr_s]
  · rw [zr_n hc]
theorem zr_comm (S : zS) {k k' : Nat} (h : k ≠ k') (g g' : Nat → Int32) : zr (zr S k g) k' g' = zr (zr S k' g') k g := by
  refine zS_ext (fun c => ?_) rfl
  by_cases hc : c = k
  · subst hc; rw [zr_n h, zr_s, zr_s]
  · by_cases hd : c = k'
    · subst hd; rw [zr_s, zr_n hc, zr_s]
    · rw [zr_n hd, zr_n hc, zr_n hc, zr_n hd]
theorem zN_big : 60000 ≤ zN := by decide
theorem L_0 : (0 : Int32) = nI 0 := rfl
theorem L_1 : (1 : Int32) = nI 1 := rfl
theorem L_2 : (2 : Int32) = nI 2 := rfl
theorem L_3 : (3 : Int32) = nI 3 := rfl
theorem L_4 : (4 : Int32) = nI 4 := rfl
theorem L_5 : (5 : Int32) = nI 5 := rfl
theorem L_6 : (6 : Int32) = nI 6 := rfl
theorem L_7 : (7 : Int32) = nI 7 := rfl
theorem L_8 : (8 : Int32) = nI 8 := rfl
theorem L_9 : (9 : Int32) = nI 9 := rfl
theorem L_10 : (10 : Int32) = nI 10 := rfl
theorem L_11 : (11 : Int32) = nI 11 := rfl
theorem L_12 : (12 : Int32) = nI 12 := rfl
theorem L_13 : (13 : Int32) = nI 13 := rfl
theorem L_14 : (14 : Int32) = nI 14 := rfl
theorem L_15 : (15 : Int32) = nI 15 := rfl
theorem L_16 : (16 : Int32) = nI 16 := rfl
theorem L_17 : (17 : Int32) = nI 17 := rfl
theorem L_18 : (18 : Int32) = nI 18 := rfl
theorem L_19 : (19 : Int32) = nI 19 := rfl
theorem L_20 : (20 : Int32) = nI 20 := rfl
theorem L_21 : (21 : Int32) = nI 21 := rfl
theorem L_22 : (22 : Int32) = nI 22 := rfl
theorem L_23 : (23 : Int32) = nI 23 := rfl
theorem L_24 : (24 : Int32) = nI 24 := rfl
theorem L_25 : (25 : Int32) = nI 25 := rfl
theorem L_26 : (26 : Int32) = nI 26 := rfl
theorem L_27 : (27 : Int32) = nI 27 := rfl
theorem L_28 : (28 : Int32) = nI 28 := rfl
theorem L_29 : (29 : Int32) = nI 29 := rfl
theorem L_30 : (30 : Int32) = nI 30 := rfl
theorem L_31 : (31 : Int32) = nI 31 := rfl
theorem L_32 : (32 : Int32) = nI 32 := rfl
theorem L_33 : (33 : Int32) = nI 33 := rfl
theorem L_34 : (34 : Int32) = nI 34 := rfl
theorem L_35 : (35 : Int32) = nI 35 := rfl
theorem L_36 : (36 : Int32) = nI 36 := rfl
theorem L_37 : (37 : Int32) = nI 37 := rfl
theorem L_38 : (38 : Int32) = nI 38 := rfl
theorem L_39 : (39 : Int32) = nI 39 := rfl
theorem L_40 : (40 : Int32) = nI 40 := rfl
theorem L_41 : (41 : Int32) = nI 41 := rfl
theorem L_42 : (42 : Int32) = nI 42 := rfl
theorem L_43 : (43 : Int32) = nI 43 := rfl
theorem L_44 : (44 : Int32) = nI 44 := rfl
theorem L_45 : (45 : Int32) = nI 45 := rfl
theorem L_46 : (46 : Int32) = nI 46 := rfl
theorem L_47 : (47 : Int32) = nI 47 := rfl
theorem L_48 : (48 : Int32) = nI 48 := rfl
theorem L_49 : (49 : Int32) = nI 49 := rfl
theorem L_50 : (50 : Int32) = nI 50 := rfl
theorem L_51 : (51 : Int32) = nI 51 := rfl
theorem L_52 : (52 : Int32) = nI 52 := rfl
theorem L_53 : (53 : Int32) = nI 53 := rfl
theorem L_54 : (54 : Int32) = nI 54 := rfl
theorem L_55 : (55 : Int32) = nI 55 := rfl
theorem L_56 : (56 : Int32) = nI 56 := rfl
theorem L_57 : (57 : Int32) = nI 57 := rfl
theorem L_58 : (58 : Int32) = nI 58 := rfl
theorem L_59 : (59 : Int32) = nI 59 := rfl
theorem L_60 : (60 : Int32) = nI 60 := rfl
theorem L_61 : (61 : Int32) = nI 61 := rfl
theorem L_62 : (62 : Int32) = nI 62 := rfl
theorem L_63 : (63 : Int32) = nI 63 := rfl
theorem L_64 : (64 : Int32) = nI 64 := rfl
theorem L_72 : (72 : Int32) = nI 72 := rfl
theorem L_97 : (97 : Int32) = nI 97 := rfl
theorem L_98 : (98 : Int32) = nI 98 := rfl
theorem L_99 : (99 : Int32) = nI 99 := rfl
theorem L_100 : (100 : Int32) = nI 100 := rfl
theorem L_109 : (109 : Int32) = nI 109 := rfl
theorem L_114 : (114 : Int32) = nI 114 := rfl
theorem L_118 : (118 : Int32) = nI 118 := rfl
theorem L_119 : (119 : Int32) = nI 119 := rfl
theorem L_122 : (122 : Int32) = nI 122 := rfl
theorem L_180 : (180 : Int32) = nI 180 := rfl
theorem L_252 : (252 : Int32) = nI 252 := rfl
theorem L_255 : (255 : Int32) = nI 255 := rfl
theorem L_308 : (308 : Int32) = nI 308 := rfl
theorem L_309 : (309 : Int32) = nI 309 := rfl
theorem L_360 : (360 : Int32) = nI 360 := rfl
theorem L_927 : (927 : Int32) = nI 927 := rfl
theorem L_999 : (999 : Int32) = nI 999 := rfl
theorem L_1000 : (1000 : Int32) = nI 1000 := rfl
theorem L_9999 : (9999 : Int32) = nI 9999 := rfl
/-- numbers: nI of small naturals, by their toInt -/
theorem nI_i {n : Nat} (h : n < 2147483648) : (nI n).toInt = (n : Int) := nI_toInt h
theorem i_lt {a b : Int32} : a < b ↔ a.toInt < b.toInt := Int32.lt_iff_toInt_lt
theorem i_le {a b : Int32} : a ≤ b ↔ a.toInt ≤ b.toInt := Int32.le_iff_toInt_le
theorem i_eq {a b : Int32} : a = b ↔ a.toInt = b.toInt := Int32.toInt_inj.symm
theorem i_add {a b : Int32} (h1 : -2147483648 ≤ a.toInt + b.toInt) (h2 : a.toInt + b.toInt < 2147483648) : (a + b).toInt = a.toInt + b.toInt := by
  rw [Int32.toInt_add]
  exact Int.bmod_eq_of_le (by omega) (by omega)
theorem i_sub {a b : Int32} (h1 : -2147483648 ≤ a.toInt - b.toInt) (h2 : a.toInt - b.toInt < 2147483648) : (a - b).toInt = a.toInt - b.toInt := by
  rw [Int32.toInt_sub]
  exact Int.bmod_eq_of_le (by omega) (by omega)
theorem i_mul {a b : Int32} (h1 : -2147483648 ≤ a.toInt * b.toInt) (h2 : a.toInt * b.toInt < 2147483648) : (a * b).toInt = a.toInt * b.toInt := by
  rw [Int32.toInt_mul]
  exact Int.bmod_eq_of_le (by omega) (by omega)
theorem zin_nI {k n : Nat} (h : k < n) (hn : n < 2147483648) : zin (nI k) n := by
  unfold zin
  rw [nI_i (by omega)]
  omega
theorem zin_of {i : Int32} {n : Nat} (h : zin i n) : ∃ k : Nat, k < n ∧ i = nI k := by
  refine ⟨i.toInt.toNat, by have := h.1; have := h.2; omega, ?_⟩
  have hm : i.toInt < 2147483648 := by have := Int32.toInt_lt i; omega
  have hk := h.1
  rw [i_eq, nI_i (by omega)]
  omega
theorem ofI {i : Int32} (n : Nat) (h0 : 0 ≤ i.toInt) (h1 : i.toInt ≤ n) : ∃ k : Nat, k ≤ n ∧ i = nI k := by
  refine ⟨i.toInt.toNat, by omega, ?_⟩
  have hm : i.toInt < 2147483648 := by have := Int32.toInt_lt i; omega
  rw [i_eq, nI_i (by omega)]
  omega
theorem cl {n : Nat} (h : n < 2147483648) : (nI n).toNatClampNeg = n := nI_clamp h
/-- filling a row -/
theorem fill_loop (q len : Nat) (a1 : Int32) (hlen : len < 1000) : ∀ (m n i : Nat) (S : zS), i + m = len → m < n →
    f_J7_fill_53178_5 q len n S a1 (nI i) (nI len) = some (zr S q (fun j => if i ≤ j ∧ j < len then a1 else S.1 q j)) := by
  intro m
  induction m with
  | zero =>
    intro n i S h1 h2
    obtain ⟨n, rfl⟩ : ∃ e, n = e + 1 := ⟨n - 1, by omega⟩
    rw [f_J7_fill_53178_5, if_pos ((nI_leI (by omega) (by omega)).mpr (by omega))]
    have : (fun j => if i ≤ j ∧ j < len then a1 else S.1 q j) = S.1 q := funext fun j => if_neg (by omega)
    rw [this, zr_eta]
  | succ m ih =>
    intro n i S h1 h2
    obtain ⟨n, rfl⟩ : ∃ e, n = e + 1 := ⟨n - 1, by omega⟩
    rw [f_J7_fill_53178_5, if_neg (fun h => by have := (nI_leI (by omega) (by omega)).mp h; omega), if_pos (zin_nI (by omega) (by omega)), L_1, nI_add, ih n (i + 1) _ (by omega) (by omega), zr_zr, zr_s, cl (by omega)]
    congr 2
    funext j
    unfold upd
    by_cases hj : j = i
    · subst hj
      rw [if_neg (by omega), if_pos rfl, if_pos (by omega)]
    · by_cases h3 : i + 1 ≤ j ∧ j < len
      · rw [if_pos h3, if_pos (by omega)]
      · rw [if_neg h3, if_neg hj, if_neg (by omega)]
theorem fill_eq (S : zS) (q len : Nat) (a1 : Int32) (hlen : len < 1000) : f_J7_fill_53178 S q len a1 = some (zr S q (fun j => if j < len then a1 else S.1 q j)) := by
  unfold f_J7_fill_53178
  have := fill_loop q len a1 hlen len zN 0 S (by omega) (by have := zN_big; omega)
  rw [show (0 : Int32) = nI 0 from rfl, this]
  congr 2
  funext j
  by_cases h : j < len
  · rw [if_pos h, if_pos ⟨Nat.zero_le _, h⟩]
  · rw [if_neg h, if_neg (fun q => h q.2)]
