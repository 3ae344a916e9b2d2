def passF (g : Nat → Int32) (day b hg m t : Nat) : Nat → Int32 := fun j => if j = 1 then nI (day + t) else if j = 2 then nI (b - t * m) else if j = 3 then nI (min 9999 (hg + (t * m - b))) else g j
theorem pass38 (k2 : zS → Int32 → Int32 → Option zS) (S : zS) (a1 a2 : Int32) {b e hg m day : Nat} (h2 : S.1 41 2 = nI b) (h3 : S.1 41 3 = nI hg) (h1 : S.1 41 1 = nI day) (h0 : S.1 40 0 = nI m) (he : e ≤ b) (hem : e ≤ m) (hb : b ≤ 999) (hhg : hg ≤ 9999) (hm : m ≤ 9) (hd : day ≤ 2000) :
    f_X6_pass_38 k2 S a1 a2 (nI e) = k2 (zr S 41 (fun j => if j = 1 then nI (day + 1) else if j = 2 then nI (b - e) else if j = 3 then nI (min 9999 (hg + (m - e))) else S.1 41 j)) a1 (a2 + 1) := by
  unfold f_X6_pass_38 f_X6_pass_95
  have u3 : ∀ x : Int32, upd (S.1 41) 2 x 3 = S.1 41 3 := fun x => rfl
  simp only [zr_zr, zr_s, zr_n (show (40 : Nat) ≠ 41 by decide)]
  rw [h2, h0, pk_sub he, pk_sub hem]
  have e3 : upd (S.1 41) 2 (nI (b - e)) 3 = nI hg := h3
  have e1 : ∀ x, upd (upd (S.1 41) 2 (nI (b - e))) 3 x 3 = x := fun x => rfl
  rw [e3, nI_add, e1, L_9999]
  by_cases hc : hg + (m - e) ≤ 9999
  · rw [if_pos ((nI_leI (by omega) (by omega)).mpr hc)]
    congr 2
    funext j
    have e1 : upd (upd (upd (S.1 41) 2 (nI (b - e))) 3 (nI (hg + (m - e)))) 3 (nI (hg + (m - e))) 1 = nI day := h1
    rw [e1, nI_1]
    unfold upd
    (repeat' split) <;> first | with_reducible rfl | omega | exact congrArg nI (by omega)
  · rw [if_neg (fun q => hc ((nI_leI (by omega) (by omega)).mp q))]
    congr 2
    funext j
    have e1 : upd (upd (upd (S.1 41) 2 (nI (b - e))) 3 (nI (hg + (m - e)))) 3 (nI 9999) 1 = nI day := h1
    rw [e1, nI_1]
    unfold upd
    (repeat' split) <;> first | with_reducible rfl | omega | exact congrArg nI (by omega)
theorem pass2 (m : Nat) (hm1 : 1 ≤ m) (hm : m ≤ 9) : ∀ (t n i dd day b hg : Nat) (S : zS), i + t = dd → t < n → dd ≤ 2000 → S.1 40 0 = nI m → S.1 41 1 = nI day → S.1 41 2 = nI b → S.1 41 3 = nI hg → day + t ≤ 2000 → b ≤ 999 → hg ≤ 9999 →
    f_X6_pass_2 n S (nI dd) (nI i) = some (zr S 41 (passF (S.1 41) day b hg m t)) := by
  intro t
  induction t with
  | zero =>
    intro n i dd day b hg S h1 h2 h3 h4 h5 h6 h7 h8 h9 h10
    obtain ⟨n, rfl⟩ : ∃ e, n = e + 1 := ⟨n - 1, by omega⟩
    rw [f_X6_pass_2, if_pos ((nI_leI (by omega) (by omega)).mpr (by omega))]
    have : passF (S.1 41) day b hg m 0 = S.1 41 := by
      funext j
      unfold passF
      (repeat' split)
      · next h => rw [h]; exact h5.symm
      · next h => rw [h, h6]; congr 1; omega
      · next h => rw [h, h7]; congr 1; omega
      · rfl
    rw [this, zr_eta]
  | succ t ih =>
    intro n i dd day b hg S h1 h2 h3 h4 h5 h6 h7 h8 h9 h10
    obtain ⟨n, rfl⟩ : ∃ e, n = e + 1 := ⟨n - 1, by omega⟩
    rw [f_X6_pass_2, if_neg (fun q => by have := (nI_leI (by omega) (by omega)).mp q; omega)]
    have key : ∀ e : Nat, e ≤ b → e ≤ m → (e = b ∨ e = m) → f_X6_pass_38 (f_X6_pass_2 n) S (nI dd) (nI i) (nI e) = some (zr S 41 (passF (S.1 41) day b hg m (t + 1))) := by
      intro e he1 he2 he3
      rw [pass38 _ S _ _ h6 h7 h5 h4 he1 he2 h9 h10 hm (by omega), nI_1]
      rw [ih n (i + 1) dd (day + 1) (b - e) (min 9999 (hg + (m - e))) _ (by omega) (by omega) h3 (by rw [zr_n (by decide)]; exact h4) (by rw [zr_s]; rfl) (by rw [zr_s]; rfl) (by rw [zr_s]; rfl) (by omega) (by omega) (by omega), zr_zr, zr_s]
      have hmul : (t + 1) * m = t * m + m := Nat.succ_mul t m
      have hge : e = b ∨ e = m := he3
      congr 2
      funext j
      unfold passF
      rw [hmul]
      dsimp only
      (repeat' split) <;> first | with_reducible rfl | omega | exact congrArg nI (by omega)
    rw [h4, h6]
    by_cases hc : m ≤ b
    · rw [if_pos ((nI_leI (by omega) (by omega)).mpr hc)]
      exact key m hc (Nat.le_refl _) (Or.inr rfl)
    · rw [if_neg (fun q => hc ((nI_leI (by omega) (by omega)).mp q))]
      exact key b (Nat.le_refl _) (by omega) (Or.inl rfl)
theorem pass_eq (S : zS) {m day b hg dd : Nat} (hm1 : 1 ≤ m) (hm : m ≤ 9) (h0 : S.1 40 0 = nI m) (h1 : S.1 41 1 = nI day) (h2 : S.1 41 2 = nI b) (h3 : S.1 41 3 = nI hg) (hd : day + dd ≤ 999) (hb : b ≤ 999) (hhg : hg ≤ 9999) :
    f_X6_pass S (nI dd) = some (zr S 41 (passF (S.1 41) day b hg m dd)) := by
  unfold f_X6_pass
  rw [L_0, pass2 m hm1 hm dd zN 0 dd day b hg S (by omega) (by have := zN_big; omega) (by omega) h0 h1 h2 h3 (by omega) hb hhg]
theorem ldp_eq (S : zS) (f : Nat → Int32) (k : Int32) {m day b hg dd : Nat} (hm : m ≤ 9) (h1 : f 1 = nI day) (h2 : f 2 = nI b) (h3 : f 3 = nI hg) (hd : day + dd ≤ 999) (hb : b ≤ 999) (hhg : hg ≤ 9999) :
    f_X2_letDaysPass (cS S f k) 3 (nI dd) (nI m) = some (cS S (passF f day b hg m dd) k) := by
  unfold f_X2_letDaysPass
  have hdm : dd * m ≤ 999 * 9 := Nat.mul_le_mul (by omega) hm
  rw [L_2, L_1, L_3, cS_get S f k (by omega), Option.bind_some, cS_add S f k (by omega), Option.bind_some, h2, pk_mul]
  have emin : (if nI b < nI (dd * m) then nI b else nI (dd * m)) = nI (min b (dd * m)) := by
    by_cases hc : b < dd * m
    · rw [if_pos ((nI_ltI (by omega) (by omega)).mpr hc)]; congr 1; omega
    · rw [if_neg (fun q => hc ((nI_ltI (by omega) (by omega)).mp q))]; congr 1; omega
  rw [emin, cS_add S _ k (by omega), Option.bind_some, cS_get S _ k (by omega), Option.bind_some]
  have e2 : upd f 1 (f 1 + nI dd) 2 = nI b := h2
  have e3 : upd (upd f 1 (f 1 + nI dd)) 2 (upd f 1 (f 1 + nI dd) 2 + -nI (min b (dd * m))) 3 = nI hg := h3
  rw [e3, nI_add, pk_sub (by omega), L_9999]
  have ecap : (if nI (hg + dd * m - min b (dd * m)) < nI 9999 then nI (hg + dd * m - min b (dd * m)) else nI 9999) = nI (min 9999 (hg + (dd * m - b))) := by
    by_cases hc : hg + dd * m - min b (dd * m) < 9999
    · rw [if_pos ((nI_ltI (by omega) (by omega)).mpr hc)]; congr 1; omega
    · rw [if_neg (fun q => hc ((nI_ltI (by omega) (by omega)).mp q))]; congr 1; omega
  rw [ecap, cS_put S _ k (by omega), Option.bind_some]
  congr 2
  funext j
  rw [h1, nI_add]
  have e2' : upd f 1 (nI (day + dd)) 2 = nI b := h2
  rw [e2']
  have e4 : nI b + -nI (min b (dd * m)) = nI (b - dd * m) := by
    rw [← Int32.sub_eq_add_neg, pk_sub (by omega)]; congr 1; omega
  rw [e4]
  unfold upd passF
  (repeat' split) <;> first | with_reducible rfl | omega
theorem passF_at {f g : Nat → Int32} {day b hg m t j : Nat} (h : f j = g j) : passF f day b hg m t j = passF g day b hg m t j := by
  unfold passF; rw [h]
theorem passF_far {g : Nat → Int32} {day b hg m t j : Nat} (h : 4 ≤ j) : passF g day b hg m t j = g j := by
  unfold passF; rw [if_neg (by omega), if_neg (by omega), if_neg (by omega)]
/-- undoing -/
def undoR (k : Nat) (g : Nat → Int32) : Nat → Int32 := fun j => if j < 28 then g (29 + 28 * (k - 1) + j) else if j = 28 then nI (k - 1) else g j
theorem undo26 (k : Nat) (hk : k ≤ 9) : ∀ (m n i : Nat) (S : zS), i + m = 28 → m < n → S.1 41 28 = nI k →
    f_X6_undo_26 n S (nI i) = some (nI k, zr S 41 (fun j => if i ≤ j ∧ j < 28 then S.1 41 (29 + 28 * k + j) else S.1 41 j)) := by
  intro m
  induction m with
  | zero =>
    intro n i S h1 h2 h3
    obtain ⟨n, rfl⟩ : ∃ e, n = e + 1 := ⟨n - 1, by omega⟩
    rw [f_X6_undo_26, L_28, if_pos ((nI_leI (by omega) (by omega)).mpr (by omega)), h3]
    have : (fun j => if i ≤ j ∧ j < 28 then S.1 41 (29 + 28 * k + j) else S.1 41 j) = S.1 41 := funext fun j => if_neg (by omega)
    rw [this, zr_eta]
  | succ m ih =>
    intro n i S h1 h2 h3
    obtain ⟨n, rfl⟩ : ∃ e, n = e + 1 := ⟨n - 1, by omega⟩
    have e : (29 : Int32) + 28 * (S.1 41 28) + nI i = nI (29 + 28 * k + i) := by rw [h3, L_29, L_28, pk_mul, nI_add, nI_add]
    rw [f_X6_undo_26, e, L_28, if_neg (fun q => by have := (nI_leI (by omega) (by omega)).mp q; omega), if_pos (zin_nI (by omega) (by omega)), if_pos (zin_nI (by omega) (by omega)), nI_1, cl (by omega), cl (by omega)]
    rw [ih n (i + 1) _ (by omega) (by omega) (by rw [zr_s]; unfold upd; rw [if_neg (by omega)]; exact h3), zr_zr, zr_s]
    congr 3
    funext j
    unfold upd
    (repeat' split) <;> first | with_reducible rfl | omega | exact congrArg (S.1 41) (by omega)
theorem undo_eq (S : zS) {k : Nat} (hk : k ≤ 10) (h0 : k ≠ 0) (h : S.1 41 28 = nI k) : f_X6_undo S = some (nI (k - 1), zr S 41 (undoR k (S.1 41))) := by
  unfold f_X6_undo
  rw [h, if_neg (nI_ne0 (by omega) (by omega)), L_1, pk_sub (by omega), L_0, undo26 (k - 1) (by omega) 28 zN 0 _ (by omega) (by have := zN_big; omega) (by rw [zr_s]; rfl), zr_zr, zr_s]
  congr 3
  funext j
  unfold upd undoR
  (repeat' split) <;> first | with_reducible rfl | omega
theorem zRel_undo {f g : Nat → Int32} {k : Nat} (h : zRel f g k) (h0 : k ≠ 0) : zRel (unC f) (undoR k g) (k - 1) := by
  obtain ⟨a, b, c, d⟩ := h
  refine ⟨by omega, ?_, fun j hj => ?_, fun i j hi hj => ?_⟩
  · unfold undoR; rw [if_neg (by omega), if_pos rfl]
  · unfold undoR unC
    rw [pk_cpy_in (by omega) (by omega), if_pos hj]
    have := d 0 j (by omega) hj
    rw [show 28 + (j - 0) = 28 * (0 + 1) + j by omega, this]; rfl
  · unfold undoR unC
    rw [pk_cpy_in (by omega) (by omega), if_neg (by omega), if_neg (by omega)]
    have := d (i + 1) j (by omega) hj
    rw [show 28 + (28 * (i + 1) + j - 0) = 28 * (i + 1 + 1) + j by omega, this]
    congr 1
    omega
/-- images -/
theorem keep13 (im : Nat) (him : im < 2) : ∀ (m n i : Nat) (S : zS), i + m = 309 → m < n →
    f_X6_keep_13 n S (nI im) (nI i) = some (if 0 < m ∧ False then 0 else S.1 41 1, zr (zr S 41 (fun j => if 309 * (1 + im) + i ≤ j ∧ j < 309 * (1 + im) + 309 then S.1 41 (j - 309 * (1 + im)) else S.1 41 j)) 42 (upd (S.1 42) im 1)) := by
  intro m
  induction m with
  | zero =>
    intro n i S h1 h2
    obtain ⟨n, rfl⟩ : ∃ e, n = e + 1 := ⟨n - 1, by omega⟩
    rw [f_X6_keep_13, L_309, if_pos ((nI_leI (by omega) (by omega)).mpr (by omega)), if_pos (zin_nI (by omega) (by omega)), cl (by omega)]
    have : (fun j => if 309 * (1 + im) + i ≤ j ∧ j < 309 * (1 + im) + 309 then S.1 41 (j - 309 * (1 + im)) else S.1 41 j) = S.1 41 := funext fun j => if_neg (by omega)
    rw [this, zr_eta, if_neg (by omega)]
    rfl
  | succ m ih =>
    intro n i S h1 h2
    obtain ⟨n, rfl⟩ : ∃ e, n = e + 1 := ⟨n - 1, by omega⟩
    have e : (309 : Int32) * (1 + nI im) + nI i = nI (309 * (1 + im) + i) := by rw [L_309, L_1, nI_add, pk_mul, nI_add]
    rw [f_X6_keep_13, e, L_309, if_neg (fun q => by have := (nI_leI (by omega) (by omega)).mp q; omega), if_pos (zin_nI (by omega) (by omega)), if_pos (zin_nI (by omega) (by omega)), nI_1, cl (by omega), cl (by omega)]
    rw [ih n (i + 1) _ (by omega) (by omega), zr_zr, zr_s, zr_n (show (42 : Nat) ≠ 41 by decide), if_neg (fun q => q.2), if_neg (fun q => q.2)]
    have e1 : upd (S.1 41) (309 * (1 + im) + i) (S.1 41 i) 1 = S.1 41 1 := by unfold upd; rw [if_neg (by omega)]
    rw [e1]
    congr 4
    funext j
    unfold upd
    (repeat' split) <;> first | with_reducible rfl | omega | exact congrArg (S.1 41) (by omega)
theorem back25 (im : Nat) (him : im < 2) : ∀ (m n i : Nat) (S : zS), i + m = 309 → m < n →
    f_X6_back_25 n S (nI im) (nI i) = some (if i ≤ 1 then S.1 41 (309 * (1 + im) + 1) else S.1 41 1, zr S 41 (fun j => if i ≤ j ∧ j < 309 then S.1 41 (309 * (1 + im) + j) else S.1 41 j)) := by
  intro m
  induction m with
  | zero =>
    intro n i S h1 h2
    obtain ⟨n, rfl⟩ : ∃ e, n = e + 1 := ⟨n - 1, by omega⟩
    rw [f_X6_back_25, L_309, if_pos ((nI_leI (by omega) (by omega)).mpr (by omega)), if_neg (by omega)]
    have : (fun j => if i ≤ j ∧ j < 309 then S.1 41 (309 * (1 + im) + j) else S.1 41 j) = S.1 41 := funext fun j => if_neg (by omega)
    rw [this, zr_eta]
  | succ m ih =>
    intro n i S h1 h2
    obtain ⟨n, rfl⟩ : ∃ e, n = e + 1 := ⟨n - 1, by omega⟩
    have e : (309 : Int32) * (1 + nI im) + nI i = nI (309 * (1 + im) + i) := by rw [L_309, L_1, nI_add, pk_mul, nI_add]
    rw [f_X6_back_25, e, L_309, if_neg (fun q => by have := (nI_leI (by omega) (by omega)).mp q; omega), if_pos (zin_nI (by omega) (by omega)), if_pos (zin_nI (by omega) (by omega)), nI_1, cl (by omega), cl (by omega)]
    rw [ih n (i + 1) _ (by omega) (by omega), zr_zr, zr_s]
    congr 2
    · unfold upd
      (repeat' split) <;> first | with_reducible rfl | omega | exact congrArg (S.1 41) (by omega)
    · congr 1
      funext j
      unfold upd
      (repeat' split) <;> first | with_reducible rfl | omega | exact congrArg (S.1 41) (by omega)
