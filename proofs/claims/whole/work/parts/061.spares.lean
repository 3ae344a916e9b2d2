section SPARES
variable {S : zS} {nv : Nat}
theorem bit_all : ∀ b, b < 64 → ∀ v, v < 6 → (nI b >>> (nI v &&& 31)) &&& 1 = nI (b / 2 ^ v % 2) := by decide +kernel
theorem shl_all : ∀ n, n ≤ 6 → (1 : Int32) <<< (nI n &&& 31) = nI (2 ^ n) := by decide +kernel
def cnt (b : Nat) : Nat := b % 2 + b / 2 % 2 + b / 4 % 2 + b / 8 % 2 + b / 16 % 2 + b / 32 % 2
theorem bc_eq : ∀ b, b < 64 → f_J6_bitCount_0f7a4 (nI b) = some (nI (cnt b)) := by decide +kernel
theorem many_eq {b : Nat} (hb : b < 64) : f_X6_manyOf (nI b) = some (nI (cnt b)) := by
  obtain ⟨n, hn⟩ : ∃ n, zN = n + 7 := ⟨zN - 7, by have := zN_big; omega⟩
  unfold f_X6_manyOf
  rw [hn]
  have st : ∀ (n a i : Nat), i < 6 → f_X6_manyOf_4 (n + 1) (nI b) (nI a) (nI i) = f_X6_manyOf_4 n (nI b) (nI (a + b / 2 ^ i % 2)) (nI (i + 1)) := by
    intro n a i hi
    rw [f_X6_manyOf_4, L_6, if_neg (fun q => by have := (nI_leI (by omega) (by omega)).mp q; omega), bit_all b hb i hi, nI_add, nI_1]
  rw [show (0 : Int32) = nI 0 from rfl, st (n + 6) 0 0 (by omega), st (n + 5) _ 1 (by omega), st (n + 4) _ 2 (by omega), st (n + 3) _ 3 (by omega), st (n + 2) _ 4 (by omega), st (n + 1) _ 5 (by omega), f_X6_manyOf_4, L_6, if_pos ((nI_leI (by omega) (by omega)).mpr (by omega))]
  congr 2
  unfold cnt
  omega
/-- the sum of what the villages in a set can spare -/
def tog (sp : Nat → Nat) (b : Nat) : Nat → Nat
  | 0 => 0
  | n + 1 => tog sp b n + (b / 2 ^ n % 2) * sp n
theorem tog_le {sp : Nat → Nat} {b : Nat} : ∀ {n : Nat}, (∀ v, v < n → sp v ≤ 60) → tog sp b n ≤ 60 * n
  | 0, _ => by show 0 ≤ _; omega
  | n + 1, h => by
    have h1 := tog_le (sp := sp) (b := b) (n := n) (fun v hv => h v (by omega))
    have h2 := h n (by omega)
    have h3 : b / 2 ^ n % 2 < 2 := Nat.mod_lt _ (by omega)
    show tog sp b n + (b / 2 ^ n % 2) * sp n ≤ _
    rcases (show b / 2 ^ n % 2 = 0 ∨ b / 2 ^ n % 2 = 1 by omega) with e | e <;> rw [e] <;> omega
/-- the class's spares, filled -/
def spF (nv : Nat) (S : zS) : Nat → Int32 := fun j => if j < 6 then (if j < nv then nI (spN S j) else 0) else S.1 10 j
theorem Inv10 (hI : InvN nv S) (g : Nat → Int32) : InvN nv (zr S 10 g) := by
  obtain ⟨M, T, bt, bd⟩ := S
  cases bt <;> exact hI
theorem fill2 (hI : InvN nv S) : ∀ (m i n : Nat) (g : Nat → Int32), i + m = 6 → m < n → f_X5_fillSpares_2 n (zr S 10 g) (nI i) = some (zr S 10 (fun j => if i ≤ j ∧ j < 6 then (if j < nv then nI (spN S j) else 0) else g j)) := by
  have hn6 := (inv_nv hI).1
  intro m
  induction m with
  | zero =>
    intro i n g h1 h2
    obtain ⟨n, rfl⟩ : ∃ e, n = e + 1 := ⟨n - 1, by omega⟩
    rw [f_X5_fillSpares_2, L_6, if_pos ((nI_leI (by omega) (by omega)).mpr (by omega))]
    congr 2
    funext j
    rw [if_neg (by omega)]
  | succ m ih =>
    intro i n g h1 h2
    obtain ⟨n, rfl⟩ : ∃ e, n = e + 1 := ⟨n - 1, by omega⟩
    have hL := (inv_nv (Inv10 hI g)).2.1
    rw [f_X5_fillSpares_2, L_6, if_neg (fun q => by have := (nI_leI (by omega) (by omega)).mp q; omega), hL]
    unfold f_X5_fillSpares_34
    by_cases hc : nv ≤ i
    · rw [if_pos ((nI_leI (by omega) (by omega)).mpr hc), if_pos (zin_nI (by omega) (by omega)), cl (by omega), zr_zr, zr_s, nI_1, ih (i + 1) n _ (by omega) (by omega)]
      congr 2
      funext j
      unfold upd
      (repeat' split) <;> first | with_reducible rfl | omega
    · rw [if_neg (fun q => hc ((nI_leI (by omega) (by omega)).mp q)), spareC (Inv10 hI g) (show i < nv by omega), Option.bind_some, if_pos (zin_nI (by omega) (by omega)), cl (by omega), zr_zr, zr_s, nI_1, ih (i + 1) n _ (by omega) (by omega)]
      congr 2
      funext j
      unfold upd
      (repeat' split) <;> first | with_reducible rfl | omega | exact congrArg (fun z => nI (spN S z)) (show i = j by omega)
theorem fill_spares (hI : InvN nv S) : f_X5_fillSpares S = some (zr S 10 (spF nv S)) := by
  unfold f_X5_fillSpares
  have h := fill2 hI 6 0 zN (S.1 10) (by omega) (by have := zN_big; omega)
  rw [zr_eta] at h
  rw [L_0, h]
  congr 2
  funext j
  unfold spF
  by_cases hj : j < 6
  · rw [if_pos hj, if_pos ⟨Nat.zero_le _, hj⟩]
  · rw [if_neg hj, if_neg (fun q => hj q.2)]
theorem togC (hI : InvN nv S) {b : Nat} (hb : b < 2 ^ nv) : f_X5_spareTogether (zr S 10 (spF nv S)) (nI b) = some (nI (tog (spN S) b nv)) := by
  have hn6 := (inv_nv hI).1
  have hb64 : b < 64 := Nat.lt_of_lt_of_le hb (Nat.pow_le_pow_right (by omega) hn6 : 2 ^ nv ≤ 2 ^ 6)
  have key : ∀ (m i n : Nat), i + m = 6 → m < n → f_X5_spareTogether_4 n (zr S 10 (spF nv S)) (nI b) (nI (tog (spN S) b (min i nv))) (nI i) = some (nI (tog (spN S) b nv)) := by
    intro m
    induction m with
    | zero =>
      intro i n h1 h2
      obtain ⟨n, rfl⟩ : ∃ e, n = e + 1 := ⟨n - 1, by omega⟩
      rw [f_X5_spareTogether_4, L_6, if_pos ((nI_leI (by omega) (by omega)).mpr (by omega)), show min i nv = nv by omega]
    | succ m ih =>
      intro i n h1 h2
      obtain ⟨n, rfl⟩ : ∃ e, n = e + 1 := ⟨n - 1, by omega⟩
      rw [f_X5_spareTogether_4, L_6, if_neg (fun q => by have := (nI_leI (by omega) (by omega)).mp q; omega), bit_all b hb64 i (by omega)]
      unfold f_X5_spareTogether_27
      have h3 : b / 2 ^ i % 2 < 2 := Nat.mod_lt _ (by omega)
      have hbig : nv ≤ i → b / 2 ^ i % 2 = 0 := fun h => by
        have : b < 2 ^ i := Nat.lt_of_lt_of_le hb (Nat.pow_le_pow_right (by omega) h)
        rw [Nat.div_eq_of_lt this]
      rcases (show b / 2 ^ i % 2 = 0 ∨ b / 2 ^ i % 2 = 1 by omega) with e | e
      · rw [e, if_pos (show nI 0 = 0 from rfl), nI_1]
        have : tog (spN S) b (min i nv) = tog (spN S) b (min (i + 1) nv) := by
          by_cases h : nv ≤ i
          · rw [show min i nv = min (i + 1) nv by omega]
          · rw [show min i nv = i by omega, show min (i + 1) nv = i + 1 by omega]
            show _ = tog (spN S) b i + (b / 2 ^ i % 2) * spN S i
            rw [e]; omega
        rw [this]
        exact ih (i + 1) n (by omega) (by omega)
      · rw [e, if_neg (show ¬ nI 1 = 0 by decide), if_pos (zin_nI (by omega) (by omega)), cl (by omega), zr_s]
        have hi : i < nv := by
          rcases Nat.lt_or_ge i nv with q | q
          · exact q
          · have := hbig q; omega
        have e2 : spF nv S i = nI (spN S i) := by unfold spF; rw [if_pos (by omega), if_pos hi]
        rw [e2, nI_add, nI_1]
        have : tog (spN S) b (min i nv) + spN S i = tog (spN S) b (min (i + 1) nv) := by
          rw [show min i nv = i by omega, show min (i + 1) nv = i + 1 by omega]
          show _ = tog (spN S) b i + (b / 2 ^ i % 2) * spN S i
          rw [e]; omega
        rw [this]
        exact ih (i + 1) n (by omega) (by omega)
  have h := key 6 0 zN (by omega) (by have := zN_big; omega)
  rw [show min 0 nv = 0 by omega] at h
  exact h
theorem togR (hI : InvN nv S) {b : Nat} (hb : b < 2 ^ nv) : f_X6_spareOf S (nI b) = some (nI (tog (spN S) b nv)) := by
  obtain ⟨hn6, hL, h33⟩ := inv_nv hI
  have hb64 : b < 64 := Nat.lt_of_lt_of_le hb (Nat.pow_le_pow_right (by omega) hn6 : 2 ^ nv ≤ 2 ^ 6)
  have key : ∀ (m i n : Nat), i + m = nv → m < n → f_X6_spareOf_4 n S (nI b) (nI (tog (spN S) b i)) (nI i) = some (nI (tog (spN S) b nv)) := by
    intro m
    induction m with
    | zero =>
      intro i n h1 h2
      obtain ⟨n, rfl⟩ : ∃ e, n = e + 1 := ⟨n - 1, by omega⟩
      rw [f_X6_spareOf_4, h33, if_pos ((nI_leI (by omega) (by omega)).mpr (by omega)), show i = nv by omega]
    | succ m ih =>
      intro i n h1 h2
      obtain ⟨n, rfl⟩ : ∃ e, n = e + 1 := ⟨n - 1, by omega⟩
      rw [f_X6_spareOf_4, h33, if_neg (fun q => by have := (nI_leI (by omega) (by omega)).mp q; omega), bit_all b hb64 i (by omega)]
      unfold f_X6_spareOf_35
      have h3 : b / 2 ^ i % 2 < 2 := Nat.mod_lt _ (by omega)
      rcases (show b / 2 ^ i % 2 = 0 ∨ b / 2 ^ i % 2 = 1 by omega) with e | e
      · rw [e, if_neg (show ¬ nI 0 = 1 by decide), L_0, nI_add, nI_1]
        have : tog (spN S) b i + 0 = tog (spN S) b (i + 1) := by
          show _ = tog (spN S) b i + (b / 2 ^ i % 2) * spN S i
          rw [e]; omega
        rw [this]
        exact ih (i + 1) n (by omega) (by omega)
      · rw [e, if_pos (show nI 1 = 1 from rfl), spareR hI (by omega), Option.bind_some, nI_add, nI_1]
        have : tog (spN S) b i + spN S i = tog (spN S) b (i + 1) := by
          show _ = tog (spN S) b i + (b / 2 ^ i % 2) * spN S i
          rw [e]; omega
        rw [this]
        exact ih (i + 1) n (by omega) (by omega)
  exact key nv 0 zN (by omega) (by have := zN_big; omega)
/-- the fewest, of as few the least: both walk alike; and what the answer is -/
def fw (sp : Nat → Nat) (nv : Nat) (n : Int32) : Nat → Nat → Option Nat → Option Nat
  | 0, _, best => best
  | m + 1, i, best => fw sp nv n m (i + 1) (match best with
    | none => if nI (tog sp i nv) < n then none else some i
    | some b => if cnt b ≤ cnt i then some b else if nI (tog sp i nv) < n then some b else some i)
def enc (o : Option Nat) : Int32 := match o with
  | none => -9
  | some b => nI b
theorem cnt_le (b : Nat) : cnt b ≤ 6 := by unfold cnt; omega
theorem fewC (hI : InvN nv S) (n0 : Int32) : ∀ (m i n : Nat) (best : Option Nat), i + m = 2 ^ nv → m < n → (∀ b, best = some b → b < 64) → f_X5_fewestWith_5 n (zr S 10 (spF nv S)) n0 (enc best) (nI i) = some (enc (fw (spN S) nv n0 m i best)) := by
  obtain ⟨hn6, hL, h33⟩ := inv_nv hI
  have hL10 := (inv_nv (Inv10 hI (spF nv S))).2.1
  have hp : 2 ^ nv ≤ 2 ^ 6 := Nat.pow_le_pow_right (by omega) hn6
  intro m
  induction m with
  | zero =>
    intro i n best h1 h2 h3
    obtain ⟨n, rfl⟩ : ∃ e, n = e + 1 := ⟨n - 1, by omega⟩
    rw [f_X5_fewestWith_5, hL10, shl_all nv hn6, if_pos ((nI_leI (by omega) (by omega)).mpr (by omega))]
    rfl
  | succ m ih =>
    intro i n best h1 h2 h3
    obtain ⟨n, rfl⟩ : ∃ e, n = e + 1 := ⟨n - 1, by omega⟩
    rw [f_X5_fewestWith_5, hL10, shl_all nv hn6, if_neg (fun q => by have := (nI_leI (by omega) (by omega)).mp q; omega)]
    unfold f_X5_fewestWith_35 f_X5_fewestWith_42 f_X5_fewestWith_58
    rw [togC hI (show i < 2 ^ nv by omega), Option.bind_some, nI_1]
    cases best with
    | none =>
      rw [if_pos rfl, if_neg one_ne]
      show _ = some (enc (fw (spN S) nv n0 m (i + 1) (if nI (tog (spN S) i nv) < n0 then none else some i)))
      by_cases hc : nI (tog (spN S) i nv) < n0
      · rw [if_pos hc, if_pos hc]
        exact ih (i + 1) n none (by omega) (by omega) (fun b hb => by cases hb)
      · rw [if_neg hc, if_neg hc]
        exact ih (i + 1) n (some i) (by omega) (by omega) (fun b hb => by cases hb; omega)
    | some b =>
      have hb := h3 b rfl
      have c1 := cnt_le b
      have c2 := cnt_le i
      show (if nI b = -9 then _ else _) = some (enc (fw (spN S) nv n0 m (i + 1) (if cnt b ≤ cnt i then some b else if nI (tog (spN S) i nv) < n0 then some b else some i)))
      rw [if_neg (nI_ne_m9 (by omega)), bc_eq i (by omega), Option.bind_some, show f_J6_bitCount_0f7a4 (enc (some b)) = some (nI (cnt b)) from bc_eq b hb, Option.bind_some]
      by_cases hcc : cnt b ≤ cnt i
      · rw [if_pos ((nI_leI (by omega) (by omega)).mpr hcc), if_pos hcc, if_pos rfl]
        exact ih (i + 1) n (some b) (by omega) (by omega) h3
      · rw [if_neg (fun q => hcc ((nI_leI (by omega) (by omega)).mp q)), if_neg hcc, if_neg one_ne]
        by_cases hc : nI (tog (spN S) i nv) < n0
        · rw [if_pos hc, if_pos hc]
          exact ih (i + 1) n (some b) (by omega) (by omega) h3
        · rw [if_neg hc, if_neg hc]
          exact ih (i + 1) n (some i) (by omega) (by omega) (fun b hb => by cases hb; omega)
theorem fewR (hI : InvN nv S) (n0 : Int32) : ∀ (m i n : Nat) (best : Option Nat), i + m = 2 ^ nv → m < n → (∀ b, best = some b → b < 64) → f_X6_from_18 n S n0 (enc best) (nI i) = some (enc (fw (spN S) nv n0 m i best)) := by
  obtain ⟨hn6, hL, h33⟩ := inv_nv hI
  have hp : 2 ^ nv ≤ 2 ^ 6 := Nat.pow_le_pow_right (by omega) hn6
  intro m
  induction m with
  | zero =>
    intro i n best h1 h2 h3
    obtain ⟨n, rfl⟩ : ∃ e, n = e + 1 := ⟨n - 1, by omega⟩
    rw [f_X6_from_18, h33, shl_all nv hn6, if_pos ((nI_leI (by omega) (by omega)).mpr (by omega))]
    rfl
  | succ m ih =>
    intro i n best h1 h2 h3
    obtain ⟨n, rfl⟩ : ∃ e, n = e + 1 := ⟨n - 1, by omega⟩
    rw [f_X6_from_18, h33, shl_all nv hn6, if_neg (fun q => by have := (nI_leI (by omega) (by omega)).mp q; omega)]
    unfold f_X6_from_47 f_X6_from_54 f_X6_from_72 f_X6_from_74
    rw [togR hI (show i < 2 ^ nv by omega), Option.bind_some, nI_1]
    cases best with
    | none =>
      rw [if_pos rfl, if_neg one_ne]
      show _ = some (enc (fw (spN S) nv n0 m (i + 1) (if nI (tog (spN S) i nv) < n0 then none else some i)))
      by_cases hc : nI (tog (spN S) i nv) < n0
      · rw [if_pos hc, if_pos hc]
        exact ih (i + 1) n none (by omega) (by omega) (fun b hb => by cases hb)
      · rw [if_neg hc, if_neg hc]
        exact ih (i + 1) n (some i) (by omega) (by omega) (fun b hb => by cases hb; omega)
    | some b =>
      have hb := h3 b rfl
      have c1 := cnt_le b
      have c2 := cnt_le i
      show (if nI b = -9 then _ else _) = some (enc (fw (spN S) nv n0 m (i + 1) (if cnt b ≤ cnt i then some b else if nI (tog (spN S) i nv) < n0 then some b else some i)))
      rw [if_neg (nI_ne_m9 (by omega)), many_eq (b := i) (by omega), Option.bind_some, show f_X6_manyOf (enc (some b)) = some (nI (cnt b)) from many_eq hb, Option.bind_some]
      by_cases hcc : cnt b ≤ cnt i
      · rw [if_pos ((nI_leI (by omega) (by omega)).mpr hcc), if_pos hcc, if_pos rfl]
        exact ih (i + 1) n (some b) (by omega) (by omega) h3
      · rw [if_neg (fun q => hcc ((nI_leI (by omega) (by omega)).mp q)), if_neg hcc, if_neg one_ne]
        by_cases hc : nI (tog (spN S) i nv) < n0
        · rw [if_pos hc, if_pos hc]
          exact ih (i + 1) n (some b) (by omega) (by omega) h3
        · rw [if_neg hc, if_neg hc]
          exact ih (i + 1) n (some i) (by omega) (by omega) (fun b hb => by cases hb; omega)
theorem few_eq (hI : InvN nv S) (n0 : Int32) : f_X5_fewestWith (zr S 10 (spF nv S)) n0 = some (enc (fw (spN S) nv n0 (2 ^ nv) 0 none)) := by
  have hp : 2 ^ nv ≤ 2 ^ 6 := Nat.pow_le_pow_right (by omega) (inv_nv hI).1
  exact fewC hI n0 (2 ^ nv) 0 zN none (by omega) (by have := zN_big; omega) (fun b hb => by cases hb)
def OK3 (nv : Nat) (A : Option (Int32 × zS)) (B : zS → Option Int32) : Prop := ∃ x S1, A = some (x, S1) ∧ B S1 = some x ∧ InvN nv S1
theorem from_ok (hI : InvN nv S) (n : Int32) : OK3 nv (f_X5_from S n) (fun S => f_X6_from S n) := by
  have hp : 2 ^ nv ≤ 2 ^ 6 := Nat.pow_le_pow_right (by omega) (inv_nv hI).1
  unfold f_X5_from
  rcases isw n 0 360 with h0 | ⟨h1, hr⟩
  · rw [h0, Option.bind_some, if_pos rfl]
    refine ⟨_, S, rfl, ?_, hI⟩
    show f_X6_from S n = _
    unfold f_X6_from
    rw [in_isw, h0, Option.bind_some, if_pos rfl]
  · rw [h1, Option.bind_some, if_neg one_ne, fill_spares hI, Option.bind_some, few_eq hI, Option.bind_some]
    refine ⟨_, _, rfl, ?_, Inv10 hI _⟩
    show f_X6_from (zr S 10 (spF nv S)) n = _
    unfold f_X6_from
    rw [in_isw, h1, Option.bind_some, if_neg one_ne]
    exact fewR (Inv10 hI _) n (2 ^ nv) 0 zN none (by omega) (by have := zN_big; omega) (fun b hb => by cases hb)
/-- the odds -/
def chN (x b : Nat) : Nat → Nat
  | 0 => 1
  | n + 1 => chN x b n * (if b / 2 ^ n % 2 = 0 then x else 10 - x)
theorem chN_le {x b : Nat} (hx : x ≤ 10) : ∀ n, chN x b n ≤ 10 ^ n
  | 0 => Nat.le_refl _
  | n + 1 => by
    have h := chN_le (b := b) hx n
    show chN x b n * _ ≤ 10 ^ n * 10
    exact Nat.mul_le_mul h (by split <;> omega)
theorem chanceC (hI : InvN nv S) {b x : Nat} (hb : b < 64) (hx : x ≤ 10) : f_X5_chanceOf S (nI b) (nI x) = some (nI (chN x b nv)) := by
  obtain ⟨hn6, hL, h33⟩ := inv_nv hI
  have key : ∀ (m i n : Nat), i + m = nv → m < n → f_X5_chanceOf_5 n S (nI b) (nI x) (nI (chN x b i)) (nI i) = some (nI (chN x b nv)) := by
    intro m
    induction m with
    | zero =>
      intro i n h1 h2
      obtain ⟨n, rfl⟩ : ∃ e, n = e + 1 := ⟨n - 1, by omega⟩
      rw [f_X5_chanceOf_5, hL, if_pos ((nI_leI (by omega) (by omega)).mpr (by omega)), show i = nv by omega]
    | succ m ih =>
      intro i n h1 h2
      obtain ⟨n, rfl⟩ : ∃ e, n = e + 1 := ⟨n - 1, by omega⟩
      rw [f_X5_chanceOf_5, hL, if_neg (fun q => by have := (nI_leI (by omega) (by omega)).mp q; omega), bit_all b hb i (by omega)]
      unfold f_X5_chanceOf_37
      have h3 : b / 2 ^ i % 2 < 2 := Nat.mod_lt _ (by omega)
      rcases (show b / 2 ^ i % 2 = 0 ∨ b / 2 ^ i % 2 = 1 by omega) with e | e
      · rw [e, if_pos (show nI 0 = 0 from rfl), pk_mul, nI_1]
        have : chN x b i * x = chN x b (i + 1) := by show _ = chN x b i * _; rw [if_pos e]
        rw [this]
        exact ih (i + 1) n (by omega) (by omega)
      · rw [e, if_neg (show ¬ nI 1 = 0 by decide), L_10, pk_sub hx, pk_mul, nI_1]
        have : chN x b i * (10 - x) = chN x b (i + 1) := by show _ = chN x b i * _; rw [if_neg (by omega)]
        rw [this]
        exact ih (i + 1) n (by omega) (by omega)
  exact key nv 0 zN (by omega) (by have := zN_big; omega)
theorem chanceR (hI : InvN nv S) {b x : Nat} (hb : b < 64) (hx : x ≤ 10) (k68 : zS → Int32 → Int32 → Int32 → Int32 → Int32 → Int32 → Option Int32) (a2 a3 a4 a5 : Int32) (w : Nat) (hw : w = 0 ∨ w = 1) : f_X6_odds_98 k68 S (nI x) a2 a3 a4 a5 (nI b) (nI w) = k68 S (nI x) a2 a3 (a4 + nI (w * chN x b nv)) a5 (nI (b + 1)) := by
  obtain ⟨hn6, hL, h33⟩ := inv_nv hI
  have key : ∀ (m i n : Nat), i + m = nv → m < n → f_X6_odds_101 k68 n S (nI x) a2 a3 a4 a5 (nI b) (nI (w * chN x b i)) (nI i) = k68 S (nI x) a2 a3 (a4 + nI (w * chN x b nv)) a5 (nI (b + 1)) := by
    intro m
    induction m with
    | zero =>
      intro i n h1 h2
      obtain ⟨n, rfl⟩ : ∃ e, n = e + 1 := ⟨n - 1, by omega⟩
      rw [f_X6_odds_101, h33, if_pos ((nI_leI (by omega) (by omega)).mpr (by omega)), nI_1, show i = nv by omega]
    | succ m ih =>
      intro i n h1 h2
      obtain ⟨n, rfl⟩ : ∃ e, n = e + 1 := ⟨n - 1, by omega⟩
      rw [f_X6_odds_101, h33, if_neg (fun q => by have := (nI_leI (by omega) (by omega)).mp q; omega), bit_all b hb i (by omega)]
      unfold f_X6_odds_136
      have h3 : b / 2 ^ i % 2 < 2 := Nat.mod_lt _ (by omega)
      rcases (show b / 2 ^ i % 2 = 0 ∨ b / 2 ^ i % 2 = 1 by omega) with e | e
      · rw [e, if_neg (show ¬ nI 0 = 1 by decide), pk_mul, nI_1]
        have : w * chN x b i * x = w * chN x b (i + 1) := by show _ = w * (chN x b i * _); rw [if_pos e, Nat.mul_assoc]
        rw [this]
        exact ih (i + 1) n (by omega) (by omega)
      · rw [e, if_pos (show nI 1 = 1 from rfl), L_10, pk_sub hx, pk_mul, nI_1]
        have : w * chN x b i * (10 - x) = w * chN x b (i + 1) := by show _ = w * (chN x b i * _); rw [if_neg (by omega), Nat.mul_assoc]
        rw [this]
        exact ih (i + 1) n (by omega) (by omega)
  unfold f_X6_odds_98
  have h := key nv 0 zN (by omega) (by have := zN_big; omega)
  rw [show w * chN x b 0 = w from Nat.mul_one w] at h
  exact h
theorem ten_le (hn6 : nv ≤ 6) : 10 ^ nv ≤ 1000000 := Nat.pow_le_pow_right (n := 10) (by omega) hn6
theorem odds73 (hI : InvN nv S) {x : Nat} (hx : x ≤ 10) (n0 w : Int32) : ∀ (m i n n' u : Nat), i + m = 2 ^ nv → m < n → m < n' → u ≤ i * 1000000 →
    ∃ r, f_X5_odds_73 n (zr S 10 (spF nv S)) (nI x) n0 w (nI u) (nI (10 ^ nv)) (nI i) = some (r, zr S 10 (spF nv S)) ∧ f_X6_odds_68 n' (zr S 10 (spF nv S)) (nI x) n0 w (nI u) (nI (10 ^ nv)) (nI i) = some r := by
  obtain ⟨hn6, hL, h33⟩ := inv_nv hI
  have hI10 := Inv10 hI (spF nv S)
  have hL10 := (inv_nv hI10).2.1
  have h3310 := (inv_nv hI10).2.2
  have hp : 2 ^ nv ≤ 2 ^ 6 := Nat.pow_le_pow_right (by omega) hn6
  have ht := ten_le (nv := nv) hn6
  have ht1 : 1 ≤ 10 ^ nv := Nat.one_le_pow _ _ (by omega)
  intro m
  induction m with
  | zero =>
    intro i n n' u h1 h2 h3 h4
    obtain ⟨n, rfl⟩ : ∃ e, n = e + 1 := ⟨n - 1, by omega⟩
    obtain ⟨n', rfl⟩ : ∃ e, n' = e + 1 := ⟨n' - 1, by omega⟩
    rw [f_X5_odds_73, f_X6_odds_68, hL10, h3310, shl_all nv hn6, if_pos ((nI_leI (by omega) (by omega)).mpr (by omega)), if_pos ((nI_leI (by omega) (by omega)).mpr (by omega))]
    obtain ⟨r, e1, e2⟩ := part_ok (u := u) (d := 10 ^ nv) (by omega) ht1 (by omega) w
    rw [e1, e2]
    exact ⟨r, rfl, rfl⟩
  | succ m ih =>
    intro i n n' u h1 h2 h3 h4
    obtain ⟨n, rfl⟩ : ∃ e, n = e + 1 := ⟨n - 1, by omega⟩
    obtain ⟨n', rfl⟩ : ∃ e, n' = e + 1 := ⟨n' - 1, by omega⟩
    have hc : ¬ nI (2 ^ nv) ≤ nI i := fun q => by have := (nI_leI (by omega) (by omega)).mp q; omega
    rw [f_X5_odds_73, f_X6_odds_68, hL10, h3310, shl_all nv hn6, if_neg hc, if_neg hc, togC hI (show i < 2 ^ nv by omega), togR hI10 (show i < 2 ^ nv by omega), Option.bind_some, Option.bind_some]
    have hsp : spN (zr S 10 (spF nv S)) = spN S := rfl
    rw [hsp]
    unfold f_X5_odds_109
    have hch := chN_le (b := i) hx nv
    by_cases hlt : nI (tog (spN S) i nv) < n0
    · rw [if_pos hlt, if_pos hlt, nI_1, L_0, chanceR hI10 (show i < 64 by omega) hx _ _ _ _ _ 0 (Or.inl rfl), nI_add, Nat.zero_mul, Nat.add_zero]
      exact ih (i + 1) n n' u (by omega) (by omega) (by omega) (Nat.le_trans h4 (Nat.mul_le_mul_right _ (Nat.le_succ i)))
    · rw [if_neg hlt, if_neg hlt, chanceC hI10 (show i < 64 by omega) hx, Option.bind_some, nI_1, L_1, chanceR hI10 (show i < 64 by omega) hx _ _ _ _ _ 1 (Or.inr rfl), nI_add, nI_add, Nat.one_mul]
      exact ih (i + 1) n n' _ (by omega) (by omega) (by omega) (by omega)
theorem odds45 (hI : InvN nv S) {x : Nat} (hx : x ≤ 10) (n0 w : Int32) : ∀ (m i n n' : Nat), i + m = nv → m < n → m < n' →
    ∃ r, f_X5_odds_45 n (zr S 10 (spF nv S)) (nI x) n0 w (nI 0) (nI (10 ^ i)) (nI i) = some (r, zr S 10 (spF nv S)) ∧ f_X6_odds_41 n' (zr S 10 (spF nv S)) (nI x) n0 w (nI 0) (nI (10 ^ i)) (nI i) = some r := by
  obtain ⟨hn6, hL, h33⟩ := inv_nv hI
  have hI10 := Inv10 hI (spF nv S)
  have hL10 := (inv_nv hI10).2.1
  have h3310 := (inv_nv hI10).2.2
  have hp : 2 ^ nv ≤ 2 ^ 6 := Nat.pow_le_pow_right (by omega) hn6
  intro m
  induction m with
  | zero =>
    intro i n n' h1 h2 h3
    obtain ⟨n, rfl⟩ : ∃ e, n = e + 1 := ⟨n - 1, by omega⟩
    obtain ⟨n', rfl⟩ : ∃ e, n' = e + 1 := ⟨n' - 1, by omega⟩
    rw [f_X5_odds_45, f_X6_odds_41, hL10, h3310, if_pos ((nI_leI (by omega) (by omega)).mpr (by omega)), if_pos ((nI_leI (by omega) (by omega)).mpr (by omega)), show i = nv by omega]
    exact odds73 hI hx n0 w (2 ^ nv) 0 zN zN 0 (by omega) (by have := zN_big; omega) (by have := zN_big; omega) (by omega)
  | succ m ih =>
    intro i n n' h1 h2 h3
    obtain ⟨n, rfl⟩ : ∃ e, n = e + 1 := ⟨n - 1, by omega⟩
    obtain ⟨n', rfl⟩ : ∃ e, n' = e + 1 := ⟨n' - 1, by omega⟩
    have hc : ¬ nI nv ≤ nI i := fun q => by have := (nI_leI (by omega) (by omega)).mp q; omega
    rw [f_X5_odds_45, f_X6_odds_41, hL10, h3310, if_neg hc, if_neg hc, L_10, pk_mul, nI_1, ← Nat.pow_succ]
    exact ih (i + 1) n n' (by omega) (by omega) (by omega)
theorem odds_ok (hI : InvN nv S) (x n w : Int32) : OK3 nv (f_X5_odds S x n w) (fun S => f_X6_odds S x n w) := by
  unfold f_X5_odds
  rcases isw x 0 10 with h0 | ⟨h1, hr⟩
  · rw [h0, Option.bind_some, if_pos rfl]
    refine ⟨_, S, rfl, ?_, hI⟩
    show f_X6_odds S _ _ _ = _
    unfold f_X6_odds
    rw [in_isw, h0, Option.bind_some, if_pos rfl]
  · rw [h1, Option.bind_some, if_neg one_ne]
    rcases isw n 0 360 with h0 | ⟨h2, hr2⟩
    · rw [h0, Option.bind_some, if_pos rfl]
      refine ⟨_, S, rfl, ?_, hI⟩
      show f_X6_odds S _ _ _ = _
      unfold f_X6_odds
      rw [in_isw, h1, Option.bind_some, if_neg one_ne, in_isw, h0, Option.bind_some, if_pos rfl]
    · rw [h2, Option.bind_some, if_neg one_ne]
      rcases isw w 0 1 with h0 | ⟨h3, hr3⟩
      · rw [h0, Option.bind_some, if_pos rfl]
        refine ⟨_, S, rfl, ?_, hI⟩
        show f_X6_odds S _ _ _ = _
        unfold f_X6_odds
        rw [in_isw, h1, Option.bind_some, if_neg one_ne, in_isw, h2, Option.bind_some, if_neg one_ne, in_isw, h0, Option.bind_some, if_pos rfl]
      · rw [h3, Option.bind_some, if_neg one_ne, fill_spares hI, Option.bind_some]
        obtain ⟨q, hq0, hq10, rfl⟩ := rng hr L_0 L_10 (by omega) (by omega)
        obtain ⟨r, e1, e2⟩ := odds45 hI hq10 n w nv 0 zN zN (by omega) (by have := zN_big; have := (inv_nv hI).1; omega) (by have := zN_big; have := (inv_nv hI).1; omega)
        refine ⟨r, _, e1, ?_, Inv10 hI _⟩
        show f_X6_odds (zr S 10 (spF nv S)) _ _ _ = _
        unfold f_X6_odds
        rw [in_isw, h1, Option.bind_some, if_neg one_ne, in_isw, h2, Option.bind_some, if_neg one_ne, in_isw, h3, Option.bind_some, if_neg one_ne]
        exact e2
end SPARES
