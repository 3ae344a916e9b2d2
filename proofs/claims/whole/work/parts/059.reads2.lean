section READS
variable {S : zS} {nv : Nat}
theorem sum_ge {a3 nv : Nat} (h : nv ≤ 6) (h3 : a3 ≤ nv) : (nI nv ≤ nI a3) ↔ nv ≤ a3 := nI_leI (by omega) (by omega)
/-- the village loops of 'now' -/
theorem now5 (hI : InvN nv S) : ∀ (m i n n' : Nat) (a : Int32), i + m = nv → m < n → m < n' → f_X5_allTallies_4 n S a (nI i) = f_X6_now_67 n' S a (nI i) ∧ ∃ x, f_X6_now_67 n' S a (nI i) = some x := by
  obtain ⟨hn6, hL, h33⟩ := inv_nv hI
  intro m
  induction m with
  | zero =>
    intro i n n' a h1 h2 h3
    obtain ⟨n, rfl⟩ : ∃ e, n = e + 1 := ⟨n - 1, by omega⟩
    obtain ⟨n', rfl⟩ : ∃ e, n' = e + 1 := ⟨n' - 1, by omega⟩
    rw [f_X5_allTallies_4, f_X6_now_67, hL, h33, if_pos ((sum_ge hn6 (by omega)).mpr (by omega)), if_pos ((sum_ge hn6 (by omega)).mpr (by omega))]
    exact ⟨rfl, _, rfl⟩
  | succ m ih =>
    intro i n n' a h1 h2 h3
    obtain ⟨n, rfl⟩ : ∃ e, n = e + 1 := ⟨n - 1, by omega⟩
    obtain ⟨n', rfl⟩ : ∃ e, n' = e + 1 := ⟨n' - 1, by omega⟩
    have hc : ¬ nI nv ≤ nI i := fun q => by have := (sum_ge hn6 (by omega)).mp q; omega
    rw [f_X5_allTallies_4, f_X6_now_67, hL, h33, if_neg hc, if_neg hc, L_16, nI_add, get_eq S 3 (by omega), Option.bind_some, if_pos (zin_nI (by omega) (by omega)), cl (by omega), nI_1, show S.1 (3 + 1) (16 + i) = S.1 41 (16 + i) from inv_e41 hI _ (by omega)]
    exact ih (i + 1) n n' _ (by omega) (by omega) (by omega)
theorem now6 (hI : InvN nv S) : ∀ (m i n n' : Nat) (a : Int32), i + m = nv → m < n → m < n' → f_X5_allSpare_4 n S a (nI i) = f_X6_now_99 n' S a (nI i) ∧ ∃ x, f_X6_now_99 n' S a (nI i) = some x := by
  obtain ⟨hn6, hL, h33⟩ := inv_nv hI
  intro m
  induction m with
  | zero =>
    intro i n n' a h1 h2 h3
    obtain ⟨n, rfl⟩ : ∃ e, n = e + 1 := ⟨n - 1, by omega⟩
    obtain ⟨n', rfl⟩ : ∃ e, n' = e + 1 := ⟨n' - 1, by omega⟩
    rw [f_X5_allSpare_4, f_X6_now_99, hL, h33, if_pos ((sum_ge hn6 (by omega)).mpr (by omega)), if_pos ((sum_ge hn6 (by omega)).mpr (by omega))]
    exact ⟨rfl, _, rfl⟩
  | succ m ih =>
    intro i n n' a h1 h2 h3
    obtain ⟨n, rfl⟩ : ∃ e, n = e + 1 := ⟨n - 1, by omega⟩
    obtain ⟨n', rfl⟩ : ∃ e, n' = e + 1 := ⟨n' - 1, by omega⟩
    have hc : ¬ nI nv ≤ nI i := fun q => by have := (sum_ge hn6 (by omega)).mp q; omega
    rw [f_X5_allSpare_4, f_X6_now_99, hL, h33, if_neg hc, if_neg hc, spareC hI (by omega), spareR hI (by omega), Option.bind_some, Option.bind_some, nI_1]
    exact ih (i + 1) n n' _ (by omega) (by omega) (by omega)
theorem now_ok (hI : InvN nv S) (w : Int32) : OK1 (f_X5_now S w) (f_X6_now S w) := by
  obtain ⟨hn6, hL, h33⟩ := inv_nv hI
  obtain ⟨m, hm1, hm9, hLm, hlm⟩ := inv_mouths hI
  have hz := zN_big
  have hget : ∀ o : Nat, o < 28 → f_X2_get S 3 (nI o) = some (S.1 41 o) := fun o ho => by
    rw [get_eq S 3 (by omega)]; exact congrArg some (inv_e41 hI _ (by omega))
  unfold f_X5_now f_X6_now
  by_cases h : w = 0
  · subst h
    rw [if_pos rfl, if_pos rfl, L_0, hget 0 (by omega), if_pos (by decide)]; exact ⟨_, rfl, rfl⟩
  rw [if_neg h, if_neg h]
  by_cases h : w = 1
  · subst h
    rw [if_pos rfl, if_pos rfl, L_1, hget 1 (by omega), if_pos (by decide)]; exact ⟨_, rfl, rfl⟩
  rw [if_neg h, if_neg h]
  by_cases h : w = 2
  · subst h
    rw [if_pos rfl, if_pos rfl, L_2, hget 2 (by omega), if_pos (by decide)]; exact ⟨_, rfl, rfl⟩
  rw [if_neg h, if_neg h]
  by_cases h : w = 3
  · subst h
    rw [if_pos rfl, if_pos rfl, L_3, hget 3 (by omega), if_pos (by decide)]; exact ⟨_, rfl, rfl⟩
  rw [if_neg h, if_neg h]
  by_cases h : w = 4
  · rw [if_pos h, if_pos h, hLm, hlm, L_1, L_2, if_pos ((nI_leI (by omega) (by omega)).mpr hm1), hget 2 (by omega), Option.bind_some, if_neg (nI_ne0 (n := m) (by omega) (by omega))]
    exact ⟨_, rfl, rfl⟩
  rw [if_neg h, if_neg h]
  by_cases h : w = 5
  · rw [if_pos h, if_pos h]
    unfold f_X5_allTallies
    obtain ⟨e1, x, e2⟩ := now5 hI nv 0 zN zN 0 (by omega) (by omega) (by omega)
    rw [show (0 : Int32) = nI 0 from rfl] at *
    rw [e1, e2]
    exact ⟨x, rfl, rfl⟩
  rw [if_neg h, if_neg h]
  by_cases h : w = 6
  · rw [if_pos h, if_pos h]
    unfold f_X5_allSpare
    obtain ⟨e1, x, e2⟩ := now6 hI nv 0 zN zN 0 (by omega) (by omega) (by omega)
    rw [show (0 : Int32) = nI 0 from rfl] at *
    rw [e1, e2]
    exact ⟨x, rfl, rfl⟩
  rw [if_neg h, if_neg h]
  exact ⟨_, rfl, rfl⟩
theorem net15 (hI : InvN nv S) {v : Nat} (hv : v < nv) : ∀ (m i n n' : Nat) (a : Int32), i + m = nv → m < n → m < n' → f_X5_net_18 n S (nI v) a (nI i) = f_X6_net_15 n' S (nI v) a (nI i) ∧ ∃ x, f_X6_net_15 n' S (nI v) a (nI i) = some x := by
  obtain ⟨hn6, hL, h33⟩ := inv_nv hI
  obtain ⟨O, hO, hw⟩ := inv_debt hI
  intro m
  induction m with
  | zero =>
    intro i n n' a h1 h2 h3
    obtain ⟨n, rfl⟩ : ∃ e, n = e + 1 := ⟨n - 1, by omega⟩
    obtain ⟨n', rfl⟩ : ∃ e, n' = e + 1 := ⟨n' - 1, by omega⟩
    rw [f_X5_net_18, f_X6_net_15, hL, h33, if_pos ((sum_ge hn6 (by omega)).mpr (by omega)), if_pos ((sum_ge hn6 (by omega)).mpr (by omega))]
    exact ⟨rfl, _, rfl⟩
  | succ m ih =>
    intro i n n' a h1 h2 h3
    obtain ⟨n, rfl⟩ : ∃ e, n = e + 1 := ⟨n - 1, by omega⟩
    obtain ⟨n', rfl⟩ : ∃ e, n' = e + 1 := ⟨n' - 1, by omega⟩
    have hc : ¬ nI nv ≤ nI i := fun q => by have := (sum_ge hn6 (by omega)).mp q; omega
    rw [f_X5_net_18, f_X6_net_15, hL, h33, if_neg hc, if_neg hc, debt_eq S _ hL hn6 (show i < nv by omega) hv, Option.bind_some, debt_eq S _ hL hn6 hv (show i < nv by omega), Option.bind_some, L_6, pk_mul, pk_mul, nI_add, nI_add, if_pos (zin_nI (by omega) (by omega)), if_pos (zin_nI (by omega) (by omega)), cl (by omega), cl (by omega), nI_1, hw i v (by omega) (by omega), hw v i (by omega) (by omega), (hO i v (by omega) (by omega)).2, (hO v i (by omega) (by omega)).2]
    exact ih (i + 1) n n' _ (by omega) (by omega) (by omega)
theorem net_ok (hI : InvN nv S) (v : Int32) : OK1 (f_X5_net S v) (f_X6_net S v) := by
  obtain ⟨hn6, hL, h33⟩ := inv_nv hI
  have hz := zN_big
  unfold f_X5_net f_X6_net
  rcases vill v nv with ⟨k, hk, rfl⟩ | hv
  · rw [knows_in S _ hL hn6 hk, isv_in S h33 hn6 hk, Option.bind_some, Option.bind_some, if_neg one_ne, if_neg one_ne]
    obtain ⟨e1, x, e2⟩ := net15 hI hk nv 0 zN zN 0 (by omega) (by omega) (by omega)
    exact ⟨x, e1.trans e2, e2⟩
  · rw [knows_out S _ hL hn6 hv, isv_out S h33 hn6 hv, Option.bind_some, Option.bind_some, if_pos rfl, if_pos rfl]; exact ⟨_, rfl, rfl⟩
theorem had31 (hI : InvN nv S) (t w : Int32) (hw : w = 0 ∨ w = 1) : ∀ (m i n n' : Nat) (a b c : Int32), i + m = 61 → m < n → m < n' → a = (if w = 0 then b else c) → (b = -9 → c = -9) → (c = -9 → b = -9) → f_X5_had_27 n S t w a (nI i) = f_X6_had_31 n' S t w b c (nI i) ∧ ∃ x, f_X6_had_31 n' S t w b c (nI i) = some x := by
  obtain ⟨w', hw10, hLw, hlw⟩ := hI.2.2.2.1.2.2.2.2.2.1
  intro m
  induction m with
  | zero =>
    intro i n n' a b c h1 h2 h3 h4 h5 h6
    obtain ⟨n, rfl⟩ : ∃ e, n = e + 1 := ⟨n - 1, by omega⟩
    obtain ⟨n', rfl⟩ : ∃ e, n' = e + 1 := ⟨n' - 1, by omega⟩
    rw [f_X5_had_27, f_X6_had_31, L_60, if_pos ((nI_ltI (by omega) (by omega)).mpr (by omega)), if_pos ((nI_ltI (by omega) (by omega)).mpr (by omega)), h4]
    rcases hw with rfl | rfl
    · exact ⟨rfl, _, rfl⟩
    · exact ⟨rfl, _, rfl⟩
  | succ m ih =>
    intro i n n' a b c h1 h2 h3 h4 h5 h6
    obtain ⟨n, rfl⟩ : ∃ e, n = e + 1 := ⟨n - 1, by omega⟩
    obtain ⟨n', rfl⟩ : ∃ e, n' = e + 1 := ⟨n' - 1, by omega⟩
    have hc : ¬ nI 60 < nI i := fun q => by have := (nI_ltI (by omega) (by omega)).mp q; omega
    have hi9 : ¬ nI i = -9 := nI_ne_m9 (by omega)
    rw [f_X5_had_27, f_X6_had_31, L_60, if_neg hc, if_neg hc]
    unfold f_X0_writtenFor f_X5_had_58 f_X5_had_61 f_X6_had_67 f_X6_had_71
    rw [Option.bind_some, hLw, hlw, nI_1]
    by_cases ht : nI w' * nI i / 10 = t
    · rw [if_pos ht, if_pos ht]
      rcases hw with rfl | rfl
      · rw [if_neg (by decide)]
        by_cases hb : b = -9
        · rw [if_pos (by rw [h4]; exact hb), if_pos hb]
          exact ih (i + 1) n n' _ _ _ (by omega) (by omega) (by omega) rfl (fun q => q) (fun q => q)
        · rw [if_neg (by rw [h4]; exact hb), if_neg hb]
          exact ih (i + 1) n n' _ _ _ (by omega) (by omega) (by omega) h4 (fun q => absurd q hb) (fun q => absurd q hi9)
      · rw [if_pos rfl]
        by_cases hb : b = -9
        · rw [if_pos hb]
          exact ih (i + 1) n n' _ _ _ (by omega) (by omega) (by omega) rfl (fun q => q) (fun q => q)
        · rw [if_neg hb]
          exact ih (i + 1) n n' _ _ _ (by omega) (by omega) (by omega) rfl (fun q => absurd q hb) (fun q => absurd q hi9)
    · rw [if_neg ht, if_neg ht]
      exact ih (i + 1) n n' _ _ _ (by omega) (by omega) (by omega) h4 h5 h6
theorem had_ok (hI : InvN nv S) (t w : Int32) : OK1 (f_X5_had S t w) (f_X6_had S t w) := by
  have hz := zN_big
  unfold f_X5_had f_X6_had
  rw [in_isw, in_isw]
  rcases isw t 0 60 with h0 | ⟨h1, hr⟩
  · rw [h0]; exact ⟨_, rfl, rfl⟩
  · rw [h1, Option.bind_some, Option.bind_some, if_neg one_ne, if_neg one_ne]
    rcases isw w 0 1 with h0 | ⟨h1, hr⟩
    · rw [h0]; exact ⟨_, rfl, rfl⟩
    · rw [h1, Option.bind_some, Option.bind_some, if_neg one_ne, if_neg one_ne]
      obtain ⟨q, hq0, hq1, rfl⟩ := rng hr L_0 L_1 (by omega) (by omega)
      obtain ⟨e1, x, e2⟩ := had31 hI t (nI q) (by rcases (show q = 0 ∨ q = 1 by omega) with rfl | rfl; exact Or.inl rfl; exact Or.inr rfl) 60 1 zN zN (-9) (-9) (-9) (by omega) (by omega) (by omega) (by split <;> rfl) (fun q => q) (fun q => q)
      exact ⟨x, e1.trans e2, e2⟩
/-- kinds -/
theorem zT_zT (S : zS) (k : Nat) (x y : Int64) : zT (zT S k x) k y = zT S k y := by
  refine Prod.ext rfl (Prod.ext (funext fun c => ?_) rfl)
  show cond (Nat.beq c k) y (cond (Nat.beq c k) x (S.2.1 c)) = cond (Nat.beq c k) y (S.2.1 c)
  cases Nat.beq c k <;> rfl
theorem ask_e (g : zS → Int32 → Int32 → Int32 → Option (Int32 × zS)) (S : zS) {k d : Nat} (v : Int32) (hk : k < 6) (hd : d ≤ 5) : f_X5_askKind_e g S (nI k) v (nI d) = (if nI k = 0 then ((f_X2_get (zT S 0 ((S.2.1 0) + (zkt k).toInt64)) 3 (4 + v)).bind (fun x24 => some (x24, (zT S 0 ((S.2.1 0) + (zkt k).toInt64))))) else (zb2 (g (zT S 0 ((S.2.1 0) + (zkt k).toInt64)) (zka k) v (nI (d + 1))) (fun x9 S10 => (if nI k = 1 then ((f_X2_get S10 3 (10 + v)).bind (fun x13 => some ((x9 + x13), S10))) else (if nI k = 2 then ((f_X0_needOf S10 (lr S10.2.2.1) v).bind (fun x16 => some ((x9 - x16), S10))) else (if nI k = 3 then some ((x9 * 2), S10) else (if nI k = 4 then ((f_X2_get S10 3 (22 + v)).bind (fun x20 => some ((x9 + x20), S10))) else ((f_X2_get S10 3 (16 + v)).bind (fun x22 => some ((x9 + x22), S10)))))))))) := by
  unfold f_X5_askKind_e f_X5_isWithin
  rw [if_neg (nI_pos (by omega)), if_neg (fun q => by have := (nI_ltI (a := 5) (by omega) (by omega)).mp q; omega), Option.bind_some, if_neg one_ne, if_pos (show nI d ≤ 5 from (nI_leI (b := 5) (by omega) (by omega)).mpr hd), if_pos (zin_nI hk (by omega)), if_pos (zin_nI hk (by omega)), cl (by omega), nI_1]
theorem ask0 (S : zS) {v : Nat} (hv : v < 6) (n d : Nat) (hd : d ≤ 5) : f_X5_askKind (n + 1) S (nI 0) (nI v) (nI d) = some (S.1 4 (4 + v), zT S 0 (S.2.1 0 + 1)) := by
  show f_X5_askKind_e _ S _ _ _ = _
  rw [ask_e _ S _ (by omega) hd, if_pos (show nI 0 = 0 from rfl), L_4, nI_add, get_eq _ 3 (by omega), Option.bind_some]
  rfl
theorem ask_up (S : zS) {k v : Nat} (hk : k < 6) (h0 : k ≠ 0) (n d : Nat) (hd : d ≤ 4) {x : Int32} {t : Int64} (ih : f_X5_askKind n (zT S 0 (S.2.1 0 + (zkt k).toInt64)) (zka k) (nI v) (nI (d + 1)) = some (x, zT S 0 t)) : f_X5_askKind (n + 1) S (nI k) (nI v) (nI d) = (if nI k = 1 then ((f_X2_get (zT S 0 t) 3 (10 + nI v)).bind (fun x13 => some ((x + x13), zT S 0 t))) else (if nI k = 2 then ((f_X0_needOf (zT S 0 t) (lr (zT S 0 t).2.2.1) (nI v)).bind (fun x16 => some ((x - x16), zT S 0 t))) else (if nI k = 3 then some ((x * 2), zT S 0 t) else (if nI k = 4 then ((f_X2_get (zT S 0 t) 3 (22 + nI v)).bind (fun x20 => some ((x + x20), zT S 0 t))) else ((f_X2_get (zT S 0 t) 3 (16 + nI v)).bind (fun x22 => some ((x + x22), zT S 0 t))))))) := by
  show f_X5_askKind_e _ S _ _ _ = _
  rw [ask_e _ S _ hk (by omega), if_neg (nI_ne0 (by omega) (by omega)), ih]
  rfl
theorem t_add (a b c : Int64) (x : Int64) (h : a + b = c) : x + a + b = x + c := by rw [Int64.add_assoc, h]
theorem ask1 (S : zS) {v : Nat} (hv : v < 6) (n d : Nat) (hd : d ≤ 4) : f_X5_askKind (n + 2) S (nI 1) (nI v) (nI d) = some (S.1 4 (4 + v) + S.1 4 (10 + v), zT S 0 (S.2.1 0 + 11)) := by
  have h := ask0 (zT S 0 (S.2.1 0 + (zkt 1).toInt64)) hv n (d + 1) (by omega)
  rw [zT_zT, show (zT S 0 (S.2.1 0 + (zkt 1).toInt64)).2.1 0 + 1 = S.2.1 0 + 11 from t_add 10 1 11 _ (by decide)] at h
  rw [ask_up S (by omega) (by omega) (n + 1) d hd h, if_pos (show nI 1 = 1 from rfl), L_10, nI_add, get_eq _ 3 (by omega), Option.bind_some]
  rfl
theorem ask2 (S : zS) {v nv : Nat} (hL : S.1 (lr S.2.2.1) 6 = nI nv) (hn6 : nv ≤ 6) (hv : v < nv) (n d : Nat) (hd : d ≤ 4) : f_X5_askKind (n + 2) S (nI 2) (nI v) (nI d) = some (S.1 4 (4 + v) - S.1 (lr S.2.2.1 + 2) v, zT S 0 (S.2.1 0 + 101)) := by
  have h := ask0 (zT S 0 (S.2.1 0 + (zkt 2).toInt64)) (show v < 6 by omega) n (d + 1) (by omega)
  rw [zT_zT, show (zT S 0 (S.2.1 0 + (zkt 2).toInt64)).2.1 0 + 1 = S.2.1 0 + 101 from t_add 100 1 101 _ (by decide)] at h
  rw [ask_up S (by omega) (by omega) (n + 1) d hd h, if_neg (show ¬ nI 2 = 1 by decide), if_pos (show nI 2 = 2 from rfl), need_eq (zT S 0 _) _ (show (zT S 0 (S.2.1 0 + 101)).1 (lr (zT S 0 (S.2.1 0 + 101)).2.2.1) 6 = nI nv from hL) hn6 hv, Option.bind_some]
  rfl
theorem ask5 (S : zS) {v : Nat} (hv : v < 6) (n d : Nat) (hd : d ≤ 4) : f_X5_askKind (n + 2) S (nI 5) (nI v) (nI d) = some (S.1 4 (4 + v) + S.1 4 (16 + v), zT S 0 (S.2.1 0 + 100001)) := by
  have h := ask0 (zT S 0 (S.2.1 0 + (zkt 5).toInt64)) hv n (d + 1) (by omega)
  rw [zT_zT, show (zT S 0 (S.2.1 0 + (zkt 5).toInt64)).2.1 0 + 1 = S.2.1 0 + 100001 from t_add 100000 1 100001 _ (by decide)] at h
  rw [ask_up S (by omega) (by omega) (n + 1) d hd h, if_neg (show ¬ nI 5 = 1 by decide), if_neg (show ¬ nI 5 = 2 by decide), if_neg (show ¬ nI 5 = 3 by decide), if_neg (show ¬ nI 5 = 4 by decide), L_16, nI_add, get_eq _ 3 (by omega), Option.bind_some]
  rfl
theorem ask3 (S : zS) {v : Nat} (hv : v < 6) (n d : Nat) (hd : d ≤ 3) : f_X5_askKind (n + 3) S (nI 3) (nI v) (nI d) = some ((S.1 4 (4 + v) + S.1 4 (10 + v)) * 2, zT S 0 (S.2.1 0 + 1011)) := by
  have h := ask1 (zT S 0 (S.2.1 0 + (zkt 3).toInt64)) hv n (d + 1) (by omega)
  rw [zT_zT, show (zT S 0 (S.2.1 0 + (zkt 3).toInt64)).2.1 0 + 11 = S.2.1 0 + 1011 from t_add 1000 11 1011 _ (by decide)] at h
  rw [ask_up S (by omega) (by omega) (n + 2) d (by omega) h, if_neg (show ¬ nI 3 = 1 by decide), if_neg (show ¬ nI 3 = 2 by decide), if_pos (show nI 3 = 3 from rfl)]
  rfl
theorem ask4 (S : zS) {v nv : Nat} (hL : S.1 (lr S.2.2.1) 6 = nI nv) (hn6 : nv ≤ 6) (hv : v < nv) (n d : Nat) (hd : d ≤ 3) : f_X5_askKind (n + 3) S (nI 4) (nI v) (nI d) = some ((S.1 4 (4 + v) - S.1 (lr S.2.2.1 + 2) v) + S.1 4 (22 + v), zT S 0 (S.2.1 0 + 10101)) := by
  have h := ask2 (zT S 0 (S.2.1 0 + (zkt 4).toInt64)) (nv := nv) hL hn6 hv n (d + 1) (by omega)
  rw [zT_zT, show (zT S 0 (S.2.1 0 + (zkt 4).toInt64)).2.1 0 + 101 = S.2.1 0 + 10101 from t_add 10000 101 10101 _ (by decide)] at h
  rw [ask_up S (by omega) (by omega) (n + 2) d (by omega) h, if_neg (show ¬ nI 4 = 1 by decide), if_neg (show ¬ nI 4 = 2 by decide), if_neg (show ¬ nI 4 = 3 by decide), if_pos (show nI 4 = 4 from rfl), L_22, nI_add, get_eq _ 3 (by omega), Option.bind_some]
  rfl
theorem Inv_T (hI : InvN nv S) (a b : Int64) (h : a = b) : InvN nv (zT (zT S 0 a) 1 b) := ⟨hI.1, h, hI.2.2⟩
theorem mark_ok (hI : InvN nv S) (kd v : Int32) : OK2 nv (f_X5_mark S kd v) (fun S => f_X6_mark S kd v) := by
  obtain ⟨hn6, hL, h33⟩ := inv_nv hI
  unfold f_X5_mark
  rcases isw kd 0 5 with h0 | ⟨h1, hr⟩
  · rw [h0, Option.bind_some, if_pos rfl]
    refine ⟨_, S, S, rfl, ?_, hI⟩
    show f_X6_mark S _ _ = _
    unfold f_X6_mark
    rw [in_isw, h0, Option.bind_some, if_pos rfl]
  · rw [h1, Option.bind_some, if_neg one_ne]
    obtain ⟨q, hq0, hq5, rfl⟩ := rng hr L_0 L_5 (by omega) (by omega)
    rcases vill v nv with ⟨k, hk, rfl⟩ | hv
    · rw [knows_in S _ hL hn6 hk, Option.bind_some, if_neg one_ne, L_0]
      have e4 : S.1 4 (4 + k) = S.1 41 (4 + k) := inv_e41 hI _ (by omega)
      have e10 : S.1 4 (10 + k) = S.1 41 (10 + k) := inv_e41 hI _ (by omega)
      have e16 : S.1 4 (16 + k) = S.1 41 (16 + k) := inv_e41 hI _ (by omega)
      have e22 : S.1 4 (22 + k) = S.1 41 (22 + k) := inv_e41 hI _ (by omega)
      obtain ⟨s, h, x, hsum, hx, hs, hh, hxx, hLx⟩ := inv_hens hI hk
      have eR : ∀ S1 : zS, S1.1 = S.1 → f_X6_mark S1 (nI q) (nI k) = (if nI q = 0 then some (S1.1 41 (4 + k), zT S1 1 (S1.2.1 1 + 1)) else if nI q = 1 then some (S1.1 41 (4 + k) + S1.1 41 (10 + k), zT S1 1 (S1.2.1 1 + 11)) else if nI q = 2 then some (S1.1 41 (4 + k) - S1.1 35 k, zT S1 1 (S1.2.1 1 + 101)) else if nI q = 3 then some (2 * (S1.1 41 (4 + k) + S1.1 41 (10 + k)), zT S1 1 (S1.2.1 1 + 1011)) else if nI q = 4 then some (S1.1 41 (4 + k) - S1.1 35 k + S1.1 41 (22 + k), zT S1 1 (S1.2.1 1 + 10101)) else some (S1.1 41 (4 + k) + S1.1 41 (16 + k), zT S1 1 (S1.2.1 1 + 100001))) := by
        intro S1 hS1
        unfold f_X6_mark
        rw [in_isw, h1, Option.bind_some, if_neg one_ne, isv_in S1 (nv := nv) (by rw [hS1]; exact h33) hn6 hk, Option.bind_some, if_neg one_ne, L_4, L_10, L_16, L_22, nI_add, nI_add, nI_add, nI_add]
        simp only [if_pos (zin_nI (show 4 + k < 927 by omega) (by omega)), if_pos (zin_nI (show 10 + k < 927 by omega) (by omega)), if_pos (zin_nI (show 16 + k < 927 by omega) (by omega)), if_pos (zin_nI (show 22 + k < 927 by omega) (by omega)), if_pos (zin_nI (show k < 12 by omega) (by omega))]
        rw [cl (by omega), cl (by omega), cl (by omega), cl (by omega), cl (by omega)]
        rfl
      have fin : ∀ (a : Int64) (X Y : Int32), f_X5_askKind 10 S (nI q) (nI k) (nI 0) = some (X, zT S 0 (S.2.1 0 + a)) → f_X6_mark (zT S 0 (S.2.1 0 + a)) (nI q) (nI k) = some (Y, zT (zT S 0 (S.2.1 0 + a)) 1 ((zT S 0 (S.2.1 0 + a)).2.1 1 + a)) → Y = X → OK2 nv (zb2 (f_X5_askKind 10 S (nI q) (nI k) (nI 0)) (fun x8 S9 => some (x8, S9))) (fun S => f_X6_mark S (nI q) (nI k)) := by
        intro a X Y f1 f2 f3
        rw [f1]
        exact OK2.mk (zb2_some _ _ _) f2 f3 (Inv_T hI _ _ (by show S.2.1 0 + a = S.2.1 1 + a; rw [hI.2.1]))
      rcases (show q = 0 ∨ q = 1 ∨ q = 2 ∨ q = 3 ∨ q = 4 ∨ q = 5 by omega) with rfl | rfl | rfl | rfl | rfl | rfl
      · exact fin 1 _ _ (ask0 S (by omega) 9 0 (by omega)) ((eR (zT S 0 (S.2.1 0 + 1)) rfl).trans (if_pos rfl)) e4.symm
      · exact fin 11 _ _ (ask1 S (by omega) 8 0 (by omega)) ((eR (zT S 0 (S.2.1 0 + 11)) rfl).trans ((if_neg (by decide)).trans (if_pos rfl))) (by rw [e4, e10]; first | done | rfl)
      · exact fin 101 _ _ (ask2 S hL hn6 hk 8 0 (by omega)) ((eR (zT S 0 (S.2.1 0 + 101)) rfl).trans ((if_neg (by decide)).trans ((if_neg (by decide)).trans (if_pos rfl)))) (by rw [e4, hLx]; show S.1 41 (4 + k) - S.1 35 k = _; rw [hxx])
      · exact fin 1011 _ _ (ask3 S (by omega) 7 0 (by omega)) ((eR (zT S 0 (S.2.1 0 + 1011)) rfl).trans ((if_neg (by decide)).trans ((if_neg (by decide)).trans ((if_neg (by decide)).trans (if_pos rfl))))) (by rw [e4, e10, Int32.mul_comm]; first | done | rfl)
      · exact fin 10101 _ _ (ask4 S hL hn6 hk 7 0 (by omega)) ((eR (zT S 0 (S.2.1 0 + 10101)) rfl).trans ((if_neg (by decide)).trans ((if_neg (by decide)).trans ((if_neg (by decide)).trans ((if_neg (by decide)).trans (if_pos rfl)))))) (by rw [e4, e22, hLx]; show S.1 41 (4 + k) - S.1 35 k + S.1 41 (22 + k) = _; rw [hxx])
      · exact fin 100001 _ _ (ask5 S (by omega) 8 0 (by omega)) ((eR (zT S 0 (S.2.1 0 + 100001)) rfl).trans ((if_neg (by decide)).trans ((if_neg (by decide)).trans ((if_neg (by decide)).trans ((if_neg (by decide)).trans (if_neg (by decide))))))) (by rw [e4, e16]; first | done | rfl)
    · rw [knows_out S _ hL hn6 hv, Option.bind_some, if_pos rfl]
      refine ⟨_, S, S, rfl, ?_, hI⟩
      show f_X6_mark S _ _ = _
      unfold f_X6_mark
      rw [in_isw, h1, Option.bind_some, if_neg one_ne, isv_out S h33 hn6 hv, Option.bind_some, if_pos rfl]
end READS
