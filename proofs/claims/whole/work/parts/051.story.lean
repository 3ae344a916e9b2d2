/-! stories: the class's row (latest first) and the reference's (oldest first) -/
theorem get_eq (S : zS) (r : Nat) {j : Nat} (h : j < 28) : f_X2_get S r (nI j) = some (S.1 (r + 1) j) := by
  unfold f_X2_get
  rw [if_neg (nI_pos (by omega)), L_28, if_neg (fun q => by have := (nI_leI (by omega) (by omega)).mp q; omega), if_pos (zin_nI (by omega) (by omega)), cl (by omega)]
theorem put_eq (S : zS) (r : Nat) {j : Nat} (h : j < 28) (x : Int32) : f_X2_put S r (nI j) x = some (zr S (r + 1) (upd (S.1 (r + 1)) j x)) := by
  unfold f_X2_put
  rw [if_neg (nI_pos (by omega)), L_28, if_neg (fun q => by have := (nI_leI (by omega) (by omega)).mp q; omega), if_pos (zin_nI (by omega) (by omega)), cl (by omega)]
theorem add_eq (S : zS) (r : Nat) {j : Nat} (h : j < 28) (x : Int32) : f_X2_add S r (nI j) x = some (zr S (r + 1) (upd (S.1 (r + 1)) j (S.1 (r + 1) j + x))) := by
  unfold f_X2_add
  rw [get_eq S r h, Option.bind_some, put_eq S r h, Option.bind_some]
/-- the class's story: its row and how many are known -/
def cS (S : zS) (f : Nat → Int32) (k : Int32) : zS := zu (zr S 4 f) 3 1 k
theorem cS_4 (S : zS) (f : Nat → Int32) (k : Int32) : (cS S f k).1 4 = f := rfl
theorem cS_31 (S : zS) (f : Nat → Int32) (k : Int32) : (cS S f k).1 3 1 = k := rfl
theorem cS_eta (S : zS) : cS S (S.1 4) (S.1 3 1) = S := by
  unfold cS
  rw [zr_eta, zu_zr]
  have : upd (S.1 3) 1 (S.1 3 1) = S.1 3 := by
    funext j; unfold upd
    by_cases h : j = 1
    · rw [if_pos h, h]
    · rw [if_neg h]
  rw [this, zr_eta]
theorem cS_zr (S : zS) (f g : Nat → Int32) (k : Int32) : zr (cS S f k) 4 g = cS S g k := by
  unfold cS
  rw [zu_zr, zr_comm _ (by decide), zr_zr, zu_zr]
  rfl
theorem cS_cS (S : zS) (f g : Nat → Int32) (k k' : Int32) : cS (cS S f k) g k' = cS S g k' := by
  show zu (zr (cS S f k) 4 g) 3 1 k' = _
  rw [cS_zr]
  unfold cS
  rw [zu_zr, zu_zr, zr_zr, zu_zr]
  congr 1
  funext j
  rw [zr_s]
  unfold upd
  by_cases h : j = 1
  · rw [if_pos h, if_pos h]
  · rw [if_neg h, if_neg h, if_neg h]
theorem cS_get (S : zS) (f : Nat → Int32) (k : Int32) {j : Nat} (h : j < 28) : f_X2_get (cS S f k) 3 (nI j) = some (f j) := get_eq _ 3 h
theorem cS_put (S : zS) (f : Nat → Int32) (k : Int32) {j : Nat} (h : j < 28) (x : Int32) : f_X2_put (cS S f k) 3 (nI j) x = some (cS S (upd f j x) k) := by
  rw [put_eq _ 3 h]
  exact congrArg some (cS_zr S f _ k)
theorem cS_add (S : zS) (f : Nat → Int32) (k : Int32) {j : Nat} (h : j < 28) (x : Int32) : f_X2_add (cS S f k) 3 (nI j) x = some (cS S (upd f j (f j + x)) k) := by
  rw [add_eq _ 3 h]
  exact congrArg some (cS_zr S f _ k)
def remC (f : Nat → Int32) : Nat → Int32 := va_cpy f f 0 28 280
def unC (f : Nat → Int32) : Nat → Int32 := va_cpy f f 28 0 280
theorem rem_eq (S : zS) (f : Nat → Int32) {k : Nat} (hk : k ≤ 10) : f_X2_remember (cS S f (nI k)) 3 = some (cS S (remC f) (nI (min 10 (k + 1)))) := by
  unfold f_X2_remember
  have e1 : zr (cS S f (nI k)) (3 + 1) (va_cpy ((cS S f (nI k)).1 (3 + 1)) ((cS S f (nI k)).1 (3 + 1)) 0 28 280) = cS S (remC f) (nI k) := cS_zr S f _ (nI k)
  rw [e1]
  have e2 : ∀ x, zu (cS S (remC f) (nI k)) 3 1 x = cS S (remC f) x := fun x => by
    have := cS_cS S (remC f) (remC f) (nI k) x
    rw [← this]
    show zu (cS S (remC f) (nI k)) 3 1 x = zu (zr (cS S (remC f) (nI k)) 4 ((cS S (remC f) (nI k)).1 4)) 3 1 x
    rw [zr_eta]
  rw [e2]
  congr 2
  show (if nI k + 1 < 10 then nI k + 1 else 10) = _
  rw [nI_1, L_10]
  by_cases h : k + 1 < 10
  · rw [if_pos ((nI_ltI (by omega) (by omega)).mpr h)]; congr 1; omega
  · rw [if_neg (fun q => h ((nI_ltI (by omega) (by omega)).mp q))]; congr 1; omega
theorem goBack_eq (S : zS) (f : Nat → Int32) {k : Nat} (hk : k ≤ 10) : f_X2_goBack (cS S f (nI k)) 3 = some (if k = 0 then (0, cS S f (nI k)) else (1, cS S (unC f) (nI (k - 1)))) := by
  unfold f_X2_goBack
  rw [cS_31, L_1]
  by_cases h : k = 0
  · subst h
    rw [if_neg (by decide), if_pos rfl, L_0]
  · rw [if_pos ((nI_leI (by omega) (by omega)).mpr (by omega)), if_neg h]
    have e1 : zr (cS S f (nI k)) (3 + 1) (va_cpy ((cS S f (nI k)).1 (3 + 1)) ((cS S f (nI k)).1 (3 + 1)) 28 0 280) = cS S (unC f) (nI k) := cS_zr S f _ (nI k)
    rw [e1]
    have e2 : ∀ x, zu (cS S (unC f) (nI k)) 3 1 x = cS S (unC f) x := fun x => by
      have := cS_cS S (unC f) (unC f) (nI k) x
      rw [← this]
      show zu (cS S (unC f) (nI k)) 3 1 x = zu (zr (cS S (unC f) (nI k)) 4 ((cS S (unC f) (nI k)).1 4)) 3 1 x
      rw [zr_eta]
    rw [e2, cS_31, pk_sub (by omega)]
/-- the reference's row, with k known -/
def zRel (f g : Nat → Int32) (k : Nat) : Prop := k ≤ 10 ∧ g 28 = nI k ∧ (∀ j, j < 28 → f j = g j) ∧ ∀ i j, i < k → j < 28 → f (28 * (i + 1) + j) = g (29 + 28 * (k - 1 - i) + j)
theorem zRel_mod {f g f' g' : Nat → Int32} {k : Nat} (h : zRel f g k) (h1 : ∀ j, j < 28 → f' j = g' j) (h2 : ∀ j, 28 ≤ j → f' j = f j) (h3 : ∀ j, 28 ≤ j → j < 309 → g' j = g j) : zRel f' g' k := by
  obtain ⟨a, b, c, d⟩ := h
  refine ⟨a, by rw [h3 28 (by omega) (by omega)]; exact b, h1, fun i j hi hj => ?_⟩
  rw [h2 _ (by omega), h3 _ (by omega) (by omega)]
  exact d i j hi hj
def knowR (k : Nat) (g : Nat → Int32) : Nat → Int32 := fun j =>
  if k = 10 then (if j = 28 then nI 10 else if 29 ≤ j ∧ j < 281 then g (j + 28) else if 281 ≤ j ∧ j < 309 then g (j - 281) else g j)
  else (if j = 28 then nI (k + 1) else if 29 + 28 * k ≤ j ∧ j < 57 + 28 * k then g (j - (29 + 28 * k)) else g j)
theorem zRel_know {f g : Nat → Int32} {k : Nat} (h : zRel f g k) : zRel (remC f) (knowR k g) (min 10 (k + 1)) := by
  obtain ⟨a, b, c, d⟩ := h
  by_cases hk : k = 10
  · subst hk
    refine ⟨by omega, ?_, fun j hj => ?_, fun i j hi hj => ?_⟩
    · unfold knowR; rw [if_pos rfl, if_pos rfl]; rfl
    · unfold knowR remC
      rw [pk_cpy_out (Or.inl (by omega)), if_pos rfl, if_neg (by omega), if_neg (by omega), if_neg (by omega)]
      exact c j hj
    · have hi' : i < 10 := by omega
      unfold knowR remC
      rw [pk_cpy_in (by omega) (by omega), if_pos rfl, if_neg (by omega)]
      cases i with
      | zero =>
        rw [if_neg (by omega), if_pos (by omega), show 0 + (28 * (0 + 1) + j - 28) = j by omega, show 29 + 28 * (min 10 (10 + 1) - 1 - 0) + j - 281 = j by omega]
        exact c j hj
      | succ i =>
        rw [if_pos (by omega), show 0 + (28 * (i + 1 + 1) + j - 28) = 28 * (i + 1) + j by omega, show 29 + 28 * (min 10 (10 + 1) - 1 - (i + 1)) + j + 28 = 29 + 28 * (10 - 1 - i) + j by omega]
        exact d i j (by omega) hj
  · refine ⟨by omega, ?_, fun j hj => ?_, fun i j hi hj => ?_⟩
    · unfold knowR; rw [if_neg hk, if_pos rfl]; congr 1; omega
    · unfold knowR remC
      rw [pk_cpy_out (Or.inl (by omega)), if_neg hk, if_neg (by omega), if_neg (by omega)]
      exact c j hj
    · unfold knowR remC
      rw [pk_cpy_in (by omega) (by omega), if_neg hk, if_neg (by omega)]
      cases i with
      | zero =>
        rw [if_pos (by omega), show 0 + (28 * (0 + 1) + j - 28) = j by omega, show 29 + 28 * (min 10 (k + 1) - 1 - 0) + j - (29 + 28 * k) = j by omega]
        exact c j hj
      | succ i =>
        rw [if_neg (by omega), show 0 + (28 * (i + 1 + 1) + j - 28) = 28 * (i + 1) + j by omega, show 29 + 28 * (min 10 (k + 1) - 1 - (i + 1)) + j = 29 + 28 * (k - 1 - i) + j by omega]
        exact d i j (by omega) hj
theorem knowR_now {k : Nat} {g : Nat → Int32} {j : Nat} (hj : j < 28) : knowR k g j = g j := by
  unfold knowR
  by_cases hk : k = 10
  · rw [if_pos hk, if_neg (by omega), if_neg (by omega), if_neg (by omega)]
  · rw [if_neg hk, if_neg (by omega), if_neg (by omega)]
theorem knowR_far {k : Nat} {g : Nat → Int32} {j : Nat} (hk : k ≤ 10) (hj : 309 ≤ j) : knowR k g j = g j := by
  unfold knowR
  by_cases hk : k = 10
  · rw [if_pos hk, if_neg (by omega), if_neg (by omega), if_neg (by omega)]
  · rw [if_neg hk, if_neg (by omega), if_neg (by omega)]
theorem know58 (k : Nat) (hk : k ≤ 9) : ∀ (m n i : Nat) (S : zS), i + m = 28 → m < n → S.1 41 28 = nI k →
    f_X6_know_58 n S (nI i) = some (zr S 41 (fun j => if j = 28 then nI (k + 1) else if 29 + 28 * k + i ≤ j ∧ j < 57 + 28 * k then S.1 41 (j - (29 + 28 * k)) else S.1 41 j)) := by
  intro m
  induction m with
  | zero =>
    intro n i S h1 h2 h3
    obtain ⟨n, rfl⟩ : ∃ e, n = e + 1 := ⟨n - 1, by omega⟩
    rw [f_X6_know_58, L_28, if_pos ((nI_leI (by omega) (by omega)).mpr (by omega)), h3, nI_1]
    congr 2
    funext j
    unfold upd
    by_cases hj : j = 28
    · rw [if_pos hj, if_pos hj]
    · rw [if_neg hj, if_neg hj, if_neg (by omega)]
  | succ m ih =>
    intro n i S h1 h2 h3
    obtain ⟨n, rfl⟩ : ∃ e, n = e + 1 := ⟨n - 1, by omega⟩
    have e : (29 : Int32) + 28 * (S.1 41 28) + nI i = nI (29 + 28 * k + i) := by rw [h3, L_29, L_28, pk_mul, nI_add, nI_add]
    rw [f_X6_know_58, L_28, if_neg (fun q => by have := (nI_leI (by omega) (by omega)).mp q; omega), if_pos (zin_nI (by omega) (by omega)), ← L_28, e, if_pos (zin_nI (by omega) (by omega)), nI_1, cl (by omega), cl (by omega)]
    rw [ih n (i + 1) _ (by omega) (by omega) (by rw [zr_s]; unfold upd; rw [if_neg (by omega)]; exact h3), zr_zr, zr_s]
    congr 2
    funext j
    unfold upd
    (repeat' split) <;> first | with_reducible rfl | omega | exact congrArg (S.1 41) (by omega)
theorem know14 : ∀ (m n i : Nat) (S : zS), i + m = 252 → m < n → S.1 41 28 = nI 10 →
    f_X6_know_14 n S (nI i) = f_X6_know_56 (zr S 41 (fun j => if j = 28 then nI 9 else if 29 + i ≤ j ∧ j < 281 then S.1 41 (j + 28) else S.1 41 j)) := by
  intro m
  induction m with
  | zero =>
    intro n i S h1 h2 h3
    obtain ⟨n, rfl⟩ : ∃ e, n = e + 1 := ⟨n - 1, by omega⟩
    rw [f_X6_know_14, L_252, if_pos ((nI_leI (by omega) (by omega)).mpr (by omega)), h3, L_1, pk_sub (by omega)]
    congr 2
    funext j
    unfold upd
    by_cases hj : j = 28
    · rw [if_pos hj, if_pos hj]
    · rw [if_neg hj, if_neg hj, if_neg (by omega)]
  | succ m ih =>
    intro n i S h1 h2 h3
    obtain ⟨n, rfl⟩ : ∃ e, n = e + 1 := ⟨n - 1, by omega⟩
    rw [f_X6_know_14, L_252, if_neg (fun q => by have := (nI_leI (by omega) (by omega)).mp q; omega), L_57, L_29, nI_add, nI_add, if_pos (zin_nI (by omega) (by omega)), if_pos (zin_nI (by omega) (by omega)), nI_1, cl (by omega), cl (by omega)]
    rw [ih n (i + 1) _ (by omega) (by omega) (by rw [zr_s]; unfold upd; rw [if_neg (by omega)]; exact h3), zr_zr, zr_s]
    congr 2
    funext j
    unfold upd
    (repeat' split) <;> first | with_reducible rfl | omega | exact congrArg (S.1 41) (by omega)
theorem know_eq (S : zS) {k : Nat} (hk : k ≤ 10) (h : S.1 41 28 = nI k) : f_X6_know S = some (zr S 41 (knowR k (S.1 41))) := by
  unfold f_X6_know
  rw [h, L_10]
  by_cases h10 : k = 10
  · subst h10
    rw [if_pos rfl, show (0 : Int32) = nI 0 from rfl, know14 252 zN 0 S (by omega) (by have := zN_big; omega) h]
    unfold f_X6_know_56
    rw [show (0 : Int32) = nI 0 from rfl, know58 9 (by omega) 28 zN 0 _ (by omega) (by have := zN_big; omega) (by rw [zr_s]; rfl), zr_zr, zr_s]
    congr 2
    funext j
    unfold knowR
    rw [if_pos rfl]
    (repeat' split) <;> first | with_reducible rfl | omega | exact congrArg (S.1 41) (by omega)
  · rw [if_neg (fun q => h10 ((nI_eq (by omega) (by omega)).mp q))]
    unfold f_X6_know_56
    rw [show (0 : Int32) = nI 0 from rfl, know58 k (by omega) 28 zN 0 S (by omega) (by have := zN_big; omega) h]
    congr 2
    funext j
    unfold knowR
    rw [if_neg h10]
    by_cases hj : j = 28
    · rw [if_pos hj, if_pos hj]
    · rw [if_neg hj, if_neg hj]
      rfl
