/-! tours: the reference -/
section TOURR
variable {S : zS} {nv c B m goal n : Nat} {D : Nat → Nat → Nat}
theorem tsm_le {sp x : Nat → Nat} : ∀ i, (∀ j, j < i → sp (x j) ≤ 60) → tsm sp x i ≤ 60 * i
  | 0, _ => by show 0 ≤ _; omega
  | i + 1, h => by
    have h1 := tsm_le (sp := sp) (x := x) i (fun j hj => h j (by omega))
    have h2 := h i (by omega)
    show tsm sp x i + sp (x i) ≤ _
    omega
theorem daysR (hI : InvN nv S) (hm9 : m ≤ 9) (hlm : S.1 40 0 = nI m) (hD : ∀ a b, a < 6 → b < 6 → D a b ≤ 1000 ∧ S.1 38 (6 * a + b) = nI (D a b)) (hc : 0 < nv → c < nv ∧ S.1 41 0 = nI c) (hB : B ≤ 999) (hBB : S.1 41 2 = nI B) (hgoal : goal ≤ 600) (hnn : n ≤ nv) {x : Nat → Nat} (hx : ∀ i, i < n → S.1 43 i = nI (x i)) (hx6 : ∀ i, i < n → x i < 6) :
    (Feas nv D (spN S) c B m goal n x ∧ f_X6_daysOf S (nI n) (nI goal) = some (nI (tds D c x n))) ∨ (¬ Feas nv D (spN S) c B m goal n x ∧ f_X6_daysOf S (nI n) (nI goal) = some (-9)) := by
  obtain ⟨hn6, hL, h33⟩ := inv_nv hI
  have key : ∀ (t i fl G : Nat) (P : Int32), i + t = n → t < fl → isSet G i x → (0 < nv → P = nI (tpl c x i)) → (∀ j, j < i → x j < nv) → (∀ j k, j < k → k < i → x j ≠ x k) → (∀ j, j < i → D (tpl c x j) (x j) < 1000 ∧ m * tds D c x (j + 1) ≤ B + tsm (spN S) x j) → m * tds D c x i ≤ B + tsm (spN S) x i → tds D c x i ≤ 1000 * i →
      (Feas nv D (spN S) c B m goal n x ∧ f_X6_daysOf_32 fl S (nI n) (nI goal) (nI G) P (nI (B + tsm (spN S) x i - m * tds D c x i)) (nI (B + tsm (spN S) x i)) (nI (tds D c x i)) (nI i) = some (nI (tds D c x n))) ∨ (¬ Feas nv D (spN S) c B m goal n x ∧ f_X6_daysOf_32 fl S (nI n) (nI goal) (nI G) P (nI (B + tsm (spN S) x i - m * tds D c x i)) (nI (B + tsm (spN S) x i)) (nI (tds D c x i)) (nI i) = some (-9)) := by
    intro t
    induction t with
    | zero =>
      intro i fl G P h1 h2 hG hP p1 p2 p3 p4 p5
      obtain ⟨fl, rfl⟩ : ∃ e, fl = e + 1 := ⟨fl - 1, by omega⟩
      have : i = n := by omega
      subst this
      have hs := tsm_le (sp := spN S) (x := x) i (fun j hj => spN_le hI (p1 j hj))
      rw [f_X6_daysOf_32, if_pos ((nI_leI (by omega) (by omega)).mpr (by omega))]
      by_cases hg : goal ≤ B + tsm (spN S) x i
      · rw [if_pos ((nI_leI (by omega) (by omega)).mpr hg)]
        exact Or.inl ⟨⟨p1, p2, p3, hg⟩, rfl⟩
      · rw [if_neg (fun z => hg ((nI_leI (by omega) (by omega)).mp z))]
        exact Or.inr ⟨fun hF => hg hF.2.2.2, rfl⟩
    | succ t ih =>
      intro i fl G P h1 h2 hG hP p1 p2 p3 p4 p5
      obtain ⟨fl, rfl⟩ : ∃ e, fl = e + 1 := ⟨fl - 1, by omega⟩
      have hs := tsm_le (sp := spN S) (x := x) i (fun j hj => spN_le hI (p1 j hj))
      have hxi := hx6 i (by omega)
      have hnv : 0 < nv := by omega
      obtain ⟨hcn, hct⟩ := hc hnv
      have hpl : tpl c x i < 6 := by
        unfold tpl
        by_cases h0 : i = 0
        · rw [if_pos h0]; omega
        · rw [if_neg h0]; have := p1 (i - 1) (by omega); omega
      have hDb := hD (tpl c x i) (x i) hpl hxi
      rw [f_X6_daysOf_32, if_neg (fun z => by have := (nI_leI (by omega) (by omega)).mp z; omega), if_pos (zin_nI (by omega) (by omega)), cl (by omega), hx i (by omega), h33]
      by_cases c1 : nv ≤ x i
      · rw [if_pos ((nI_leI (by omega) (by omega)).mpr c1)]
        exact Or.inr ⟨fun hF => by have := hF.1 i (by omega); omega, rfl⟩
      rw [if_neg (fun z => c1 ((nI_leI (by omega) (by omega)).mp z)), bit_all G hG.1 (x i) hxi]
      have hb2 : G / 2 ^ x i % 2 < 2 := Nat.mod_lt _ (by omega)
      rcases (show G / 2 ^ x i % 2 = 1 ∨ G / 2 ^ x i % 2 = 0 by omega) with hb | hb
      · rw [hb, if_pos (show nI 1 = 1 from rfl)]
        obtain ⟨j, hj, hje⟩ := (hG.2 (x i) hxi).mp hb
        exact Or.inr ⟨fun hF => hF.2.1 j i hj (by omega) hje, rfl⟩
      rw [hb, if_neg (show ¬ nI 0 = 1 by decide), hP hnv, L_6, pk_mul, nI_add, if_pos (zin_nI (by omega) (by omega)), cl (by omega), hDb.2, L_1000]
      by_cases c2 : 1000 ≤ D (tpl c x i) (x i)
      · rw [if_pos ((nI_leI (by omega) (by omega)).mpr c2)]
        exact Or.inr ⟨fun hF => by have := (hF.2.2.1 i (by omega)).1; omega, rfl⟩
      rw [if_neg (fun z => c2 ((nI_leI (by omega) (by omega)).mp z)), hlm, pk_mul]
      have hmD : m * D (tpl c x i) (x i) ≤ 9 * 1000 := Nat.mul_le_mul hm9 hDb.1
      have htd : tds D c x (i + 1) = tds D c x i + D (tpl c x i) (x i) := rfl
      have hts : tsm (spN S) x (i + 1) = tsm (spN S) x i + spN S (x i) := rfl
      have hmt : m * tds D c x (i + 1) = m * tds D c x i + m * D (tpl c x i) (x i) := by rw [htd, Nat.mul_add]
      by_cases c3 : m * D (tpl c x i) (x i) ≤ B + tsm (spN S) x i - m * tds D c x i
      · rw [if_pos ((nI_leI (by omega) (by omega)).mpr c3), spareR hI (by omega), Option.bind_some, Option.bind_some, or_all G hG.1 (x i) hxi, nI_add, nI_add, nI_1]
        have eb : nI (B + tsm (spN S) x i - m * tds D c x i) + (nI (spN S (x i)) - nI (m * D (tpl c x i) (x i))) = nI (B + tsm (spN S) x (i + 1) - m * tds D c x (i + 1)) := by
          rw [Int32.sub_eq_add_neg, ← Int32.add_assoc, nI_add, ← Int32.sub_eq_add_neg, pk_sub (by omega)]
          congr 1
          rw [hts, hmt]
          omega
        rw [eb, show B + tsm (spN S) x i + spN S (x i) = B + tsm (spN S) x (i + 1) by rw [hts]; omega, ← htd]
        refine ih (i + 1) fl (G ||| 2 ^ x i) (nI (x i)) (by omega) (by omega) (isSet_add hG hxi rfl) (fun _ => ?_) (fun j hj => ?_) (fun j k hjk hk he => ?_) (fun j hj => ?_) (by rw [hts, hmt]; omega) (by rw [htd]; omega)
        · unfold tpl; rw [if_neg (by omega)]; rfl
        · by_cases hji : j = i
          · subst hji; omega
          · exact p1 j (by omega)
        · by_cases hki : k = i
          · subst hki
            have := (hG.2 (x k) hxi).mpr ⟨j, hjk, he⟩
            omega
          · exact p2 j k hjk (by omega) he
        · by_cases hji : j = i
          · subst hji; exact ⟨by omega, by rw [hmt]; omega⟩
          · exact p3 j (by omega)
      · rw [if_neg (fun z => c3 ((nI_leI (by omega) (by omega)).mp z))]
        exact Or.inr ⟨fun hF => by have := (hF.2.2.1 i (by omega)).2; omega, rfl⟩
  have h := key n 0 zN 0 (S.1 41 0) (by omega) (by have := zN_big; omega) (isSet_0 x) (fun h => by rw [(hc h).2]; rfl) (fun j hj => by omega) (fun j k hj hk => by omega) (fun j hj => by omega) (by show m * 0 ≤ _; omega) (by show 0 ≤ _; omega)
  unfold f_X6_daysOf
  rw [hBB]
  have e1 : B + tsm (spN S) x 0 - m * tds D c x 0 = B := by show B + 0 - m * 0 = B; omega
  have e2 : B + tsm (spN S) x 0 = B := by show B + 0 = B; omega
  rw [e1, e2] at h
  exact h
/-- the reference's state while it looks -/
def fS (S : zS) (g : Nat → Int32) (A b l : Int32) : zS := zu (zu (zu (zr S 43 g) 31 22 A) 31 21 b) 31 20 l
theorem fS_row (S : zS) (g g' : Nat → Int32) (A b l : Int32) : zr (fS S g A b l) 43 g' = fS S g' A b l := by
  unfold fS
  simp only [zu_zr, zr_zr, zr_s]
  rw [zr_comm _ (by decide), zr_zr]
  rfl
theorem upd_comm (f : Nat → Int32) {i j : Nat} (h : i ≠ j) (a b : Int32) : upd (upd f i a) j b = upd (upd f j b) i a := by
  funext k; unfold upd
  (repeat' split) <;> first | rfl | omega
theorem fS_rec (S : zS) (g : Nat → Int32) (A b l A' b' l' : Int32) : zu (zu (zu (fS S g A b l) 31 22 A') 31 21 b') 31 20 l' = fS S g A' b' l' := by
  unfold fS
  simp only [zu_zr, zr_zr, zr_s]
  congr 1
  funext k
  unfold upd
  (repeat' split) <;> first | rfl | omega
theorem Inv_fS (hI : InvN nv S) (g : Nat → Int32) (A b l : Int32) : InvN nv (fS S g A b l) := by
  obtain ⟨M, T, bt, bd⟩ := S
  cases bt <;> exact hI
theorem Upd_congr {R R' : (Nat → Nat) → Prop} {β β' : Option (Nat → Nat)} (h : Upd D c n R β β') (he : ∀ z, R z ↔ R' z) : Upd D c n R' β β' := by
  rcases h with ⟨a, b⟩ | ⟨z, a, b, d, e⟩
  · exact Or.inl ⟨a, fun z hz => b z ((he z).mpr hz)⟩
  · exact Or.inr ⟨z, a, (he z).mp b, d, fun w hw => e w ((he w).mpr hw)⟩
theorem tour32 (hI : InvN nv S) (hm9 : m ≤ 9) (hlm : S.1 40 0 = nI m) (hD : ∀ a b, a < 6 → b < 6 → D a b ≤ 1000 ∧ S.1 38 (6 * a + b) = nI (D a b)) (hc : 0 < nv → c < nv ∧ S.1 41 0 = nI c) (hB : B ≤ 999) (hBB : S.1 41 2 = nI B) (hgoal : goal ≤ 600) (hnn : n ≤ nv) (k10 : zS → Int32 → Int32 → Int32 → Option zS) :
    ∀ (t cc fl : Nat) (g : Nat → Int32) (β : Option Nat) (bd ld : Int32), cc + t = 6 ^ n → t < fl → (∀ b, β = some b → b < 6 ^ n ∧ bd = nI (tds D c (dig n b) n) ∧ ld = nI n ∧ tds D c (dig n b) n < 100000) → Upd D c n (fun z => Feas nv D (spN S) c B m goal n z ∧ code6 n z < cc) none (β.map (dig n)) →
      ∃ (g' : Nat → Int32) (β' : Option Nat) (bd' ld' : Int32), f_X6_findTour_32 k10 fl (fS S g (enc β) bd ld) (nI goal) (nI (6 ^ n)) (nI n) (nI cc) = k10 (fS S g' (enc β') bd' ld') (nI goal) (nI (6 ^ (n + 1))) (nI (n + 1)) ∧ (∀ b, β' = some b → b < 6 ^ n ∧ bd' = nI (tds D c (dig n b) n) ∧ ld' = nI n ∧ tds D c (dig n b) n < 100000) ∧ Upd D c n (Feas nv D (spN S) c B m goal n) none (β'.map (dig n)) := by
  have hn6 := (inv_nv hI).1
  have hp := six_pow (n := n) (by omega)
  have hF6 : ∀ y, Feas nv D (spN S) c B m goal n y → ∀ i, i < n → y i < 6 := fun y hy i hi => by have := hy.1 i hi; omega
  intro t
  induction t with
  | zero =>
    intro cc fl g β bd ld h1 h2 h3 h4
    obtain ⟨fl, rfl⟩ : ∃ e, fl = e + 1 := ⟨fl - 1, by omega⟩
    refine ⟨g, β, bd, ld, ?_, h3, Upd_congr h4 (fun z => ⟨fun q => q.1, fun q => ⟨q, ?_⟩⟩)⟩
    · rw [f_X6_findTour_32, if_pos ((nI_leI (by omega) (by omega)).mpr (by omega)), L_6, pk_mul, ← Nat.pow_succ, nI_1]
    · have := code6_lt (n := n) (hF6 z q)
      omega
  | succ t iht =>
    intro cc fl g β bd ld h1 h2 h3 h4
    obtain ⟨fl, rfl⟩ : ∃ e, fl = e + 1 := ⟨fl - 1, by omega⟩
    rw [f_X6_findTour_32, if_neg (fun z => by have := (nI_leI (by omega) (by omega)).mp z; omega), takeRow_eq (fS S g (enc β) bd ld) (by omega) (by omega), Option.bind_some, fS_row]
    generalize hg2 : (fun j => if j < n then nI (dig n cc j) else (fS S g (enc β) bd ld).1 43 j) = g2
    have hrow : ∀ i, i < n → (fS S g2 (enc β) bd ld).1 43 i = nI (dig n cc i) := fun i hi => by show g2 i = _; rw [← hg2]; exact if_pos hi
    have hmine : ∀ z, Feas nv D (spN S) c B m goal n z → code6 n z = cc → ∀ i, i < n → dig n cc i = z i := fun z hz he i hi => by rw [← he]; exact dig_code n (hF6 z hz) i hi
    have hlex : ∀ x y, (Feas nv D (spN S) c B m goal n x ∧ code6 n x < cc) → (Feas nv D (spN S) c B m goal n y ∧ code6 n y = cc) → lexlt n x y := fun x y hx hy => by
      rcases lex_tri x y n with q | q | q
      · have := code6_congr (n := n) q; omega
      · exact q
      · have := code6_lex (hF6 y hy.1) q; omega
    have hsplit : ∀ z, (Feas nv D (spN S) c B m goal n z ∧ code6 n z < cc + 1) → (Feas nv D (spN S) c B m goal n z ∧ code6 n z < cc) ∨ (Feas nv D (spN S) c B m goal n z ∧ code6 n z = cc) := fun z hz => by
      rcases (show code6 n z < cc ∨ code6 n z = cc by have := hz.2; omega) with q | q
      · exact Or.inl ⟨hz.1, q⟩
      · exact Or.inr ⟨hz.1, q⟩
    have join : ∀ β1 : Option (Nat → Nat), Upd D c n (fun z => Feas nv D (spN S) c B m goal n z ∧ code6 n z = cc) (β.map (dig n)) β1 → Upd D c n (fun z => Feas nv D (spN S) c B m goal n z ∧ code6 n z < cc + 1) none β1 := fun β1 h => Upd_comp h4 h hlex hsplit (fun z hz => ⟨hz.1, by have := hz.2; omega⟩) (fun z hz => ⟨hz.1, by have := hz.2; omega⟩)
    unfold f_X6_findTour_78 f_X6_findTour_95
    rw [nI_1]
    rcases daysR (S := fS S g2 (enc β) bd ld) (n := n) (Inv_fS hI g2 _ _ _) hm9 hlm hD hc hB hBB hgoal hnn hrow (fun i _ => dig_lt n cc i) with ⟨hF, hR⟩ | ⟨hF, hR⟩
    · have hF : Feas nv D (spN S) c B m goal n (dig n cc) := hF
      have hself : Feas nv D (spN S) c B m goal n (dig n cc) ∧ code6 n (dig n cc) = cc := ⟨hF, code_dig n cc (by omega)⟩
      have htb : tds D c (dig n cc) n < 100000 := by
        have key : ∀ i, i ≤ n → tds D c (dig n cc) i ≤ 1000 * i := by
          intro i
          induction i with
          | zero => intro _; exact Nat.le_refl _
          | succ i ih =>
            intro hi
            have h1 := ih (by omega)
            have h2 := (hF.2.2.1 i (by omega)).1
            show tds D c (dig n cc) i + _ ≤ _
            omega
        have := key n (Nat.le_refl _)
        omega
      have hsame : ∀ w, Feas nv D (spN S) c B m goal n w ∧ code6 n w = cc → tds D c (dig n cc) n = tds D c w n ∧ ¬ lexlt n w (dig n cc) := fun w hw => by
        have he := hmine w hw.1 hw.2
        refine ⟨tds_congr he n (Nat.le_refl _), ?_⟩
        rintro ⟨i, hi, -, hlt⟩
        rw [he i hi] at hlt
        omega
      have take : ∀ bd ld, (∀ y, β.map (dig n) = some y → tds D c (dig n cc) n < tds D c y n) →
          ∃ (g' : Nat → Int32) (β' : Option Nat) (bd' ld' : Int32), f_X6_findTour_32 k10 fl (zu (zu (zu (fS S g2 (enc β) bd ld) 31 22 (nI cc)) 31 21 (nI (tds D c (dig n cc) n))) 31 20 (nI n)) (nI goal) (nI (6 ^ n)) (nI n) (nI (cc + 1)) = k10 (fS S g' (enc β') bd' ld') (nI goal) (nI (6 ^ (n + 1))) (nI (n + 1)) ∧ (∀ b, β' = some b → b < 6 ^ n ∧ bd' = nI (tds D c (dig n b) n) ∧ ld' = nI n ∧ tds D c (dig n b) n < 100000) ∧ Upd D c n (Feas nv D (spN S) c B m goal n) none (β'.map (dig n)) := by
        intro bd ld hbet
        rw [fS_rec]
        refine iht (cc + 1) fl g2 (some cc) _ _ (by omega) (by omega) (fun b hb => by cases hb; exact ⟨by omega, rfl, rfl, htb⟩) (join _ (Or.inr ⟨dig n cc, rfl, hself, hbet, fun w hw => ?_⟩))
        obtain ⟨e1, e2⟩ := hsame w hw
        exact ⟨by omega, fun _ => e2⟩
      rw [hR, Option.bind_some, if_neg (nI_ne_m9 (by omega))]
      cases β with
      | none =>
        rw [if_pos (show (fS S g2 (enc none) bd ld).1 31 22 = -9 from rfl)]
        exact take bd ld (fun y hy => by cases hy)
      | some b =>
        obtain ⟨k1, k2, k3, k4⟩ := h3 b rfl
        rw [if_neg (show ¬ (fS S g2 (enc (some b)) bd ld).1 31 22 = -9 from nI_ne_m9 (by omega)), show (fS S g2 (enc (some b)) bd ld).1 31 21 = nI (tds D c (dig n b) n) from k2]
        by_cases hle : tds D c (dig n b) n ≤ tds D c (dig n cc) n
        · rw [if_pos ((nI_leI (by omega) (by omega)).mpr hle)]
          refine iht (cc + 1) fl g2 (some b) bd ld (by omega) (by omega) h3 (join _ (Or.inl ⟨rfl, fun z hz => ⟨dig n b, rfl, ?_⟩⟩))
          rw [← (hsame z hz).1]; exact hle
        · rw [if_neg (fun z => hle ((nI_leI (by omega) (by omega)).mp z))]
          exact take bd ld (fun y hy => by cases hy; omega)
    · have hF : ¬ Feas nv D (spN S) c B m goal n (dig n cc) := hF
      rw [hR, Option.bind_some, if_pos rfl]
      refine iht (cc + 1) fl g2 β bd ld (by omega) (by omega) h3 (join _ (Upd_none (fun z hz => hF (Feas_congr (fun i hi => (hmine z hz.1 hz.2 i hi).symm) hz.1))))
theorem tour10 (hI : InvN nv S) (hm9 : m ≤ 9) (hlm : S.1 40 0 = nI m) (hD : ∀ a b, a < 6 → b < 6 → D a b ≤ 1000 ∧ S.1 38 (6 * a + b) = nI (D a b)) (hc : 0 < nv → c < nv ∧ S.1 41 0 = nI c) (hB : B ≤ 999) (hBB : S.1 41 2 = nI B) (hgoal : goal ≤ 600) :
    ∀ (t n fl : Nat) (g : Nat → Int32) (bd ld : Int32), n + t = 7 → t < fl → (∀ n', n' < n → ∀ y, ¬ Feas nv D (spN S) c B m goal n' y) →
      ∃ (g' : Nat → Int32), (∃ n1 b, n1 ≤ nv ∧ b < 6 ^ n1 ∧ tds D c (dig n1 b) n1 < 100000 ∧ f_X6_findTour_10 fl (fS S g (-9) bd ld) (nI goal) (nI (6 ^ n)) (nI n) = some (fS S g' (nI b) (nI (tds D c (dig n1 b) n1)) (nI n1)) ∧ Upd D c n1 (Feas nv D (spN S) c B m goal n1) none (some (dig n1 b)) ∧ ∀ n', n' < n1 → ∀ y, ¬ Feas nv D (spN S) c B m goal n' y) ∨
        (∃ bd' ld', f_X6_findTour_10 fl (fS S g (-9) bd ld) (nI goal) (nI (6 ^ n)) (nI n) = some (fS S g' (-9) bd' ld') ∧ ∀ n', n' ≤ nv → ∀ y, ¬ Feas nv D (spN S) c B m goal n' y) := by
  obtain ⟨hn6, hL, h33⟩ := inv_nv hI
  intro t
  induction t with
  | zero =>
    intro n fl g bd ld h1 h2 hno
    obtain ⟨fl, rfl⟩ : ∃ e, fl = e + 1 := ⟨fl - 1, by omega⟩
    refine ⟨g, Or.inr ⟨bd, ld, ?_, fun n' h => hno n' (by omega)⟩⟩
    rw [f_X6_findTour_10, show (fS S g (-9) bd ld).1 33 0 = nI nv from h33, if_pos ((nI_ltI (by omega) (by omega)).mpr (by omega))]
  | succ t iht =>
    intro n fl g bd ld h1 h2 hno
    obtain ⟨fl, rfl⟩ : ∃ e, fl = e + 1 := ⟨fl - 1, by omega⟩
    rw [f_X6_findTour_10, show (fS S g (-9) bd ld).1 33 0 = nI nv from h33]
    by_cases hlt : nv < n
    · rw [if_pos ((nI_ltI (by omega) (by omega)).mpr hlt)]
      exact ⟨g, Or.inr ⟨bd, ld, rfl, fun n' h => hno n' (by omega)⟩⟩
    · rw [if_neg (fun z => hlt ((nI_ltI (by omega) (by omega)).mp z)), if_pos (show (fS S g (-9) bd ld).1 31 22 = -9 from rfl)]
      have hp := six_pow (n := n) (by omega)
      obtain ⟨g', β', bd', ld', e1, e2, e3⟩ := tour32 (n := n) hI hm9 hlm hD hc hB hBB hgoal (by omega) (f_X6_findTour_10 fl) (6 ^ n) 0 zN g none bd ld (by omega) (by have := zN_big; omega) (fun b hb => by cases hb) (Upd_none (fun z hz => absurd hz.2 (by omega)))
      rw [show f_X6_findTour_32 (f_X6_findTour_10 fl) zN (fS S g (-9) bd ld) (nI goal) (nI (6 ^ n)) (nI n) 0 = _ from e1]
      obtain ⟨fl, rfl⟩ : ∃ e, fl = e + 1 := ⟨fl - 1, by omega⟩
      cases β' with
      | none =>
        have hnone : ∀ y, ¬ Feas nv D (spN S) c B m goal n y := fun y hy => by
          rcases e3 with ⟨-, h⟩ | ⟨z, h, -⟩
          · obtain ⟨w, hw, -⟩ := h y hy; cases hw
          · cases h
        obtain ⟨g2, h⟩ := iht (n + 1) (fl + 1) g' bd' ld' (by omega) (by omega) (fun n' hn' y hy => by
          by_cases he : n' = n
          · subst he; exact hnone y hy
          · exact hno n' (by omega) y hy)
        exact ⟨g2, h⟩
      | some b =>
        obtain ⟨k1, k2, k3, k4⟩ := e2 b rfl
        refine ⟨g', Or.inl ⟨n, b, by omega, k1, k4, ?_, e3, hno⟩⟩
        rw [k2, k3, f_X6_findTour_10, show (fS S g' (enc (some b)) (nI (tds D c (dig n b) n)) (nI n)).1 33 0 = nI nv from h33]
        by_cases hlt2 : nv < n + 1
        · rw [if_pos ((nI_ltI (by omega) (by omega)).mpr hlt2)]; rfl
        · rw [if_neg (fun z => hlt2 ((nI_ltI (by omega) (by omega)).mp z)), if_neg (show ¬ (fS S g' (enc (some b)) (nI (tds D c (dig n b) n)) (nI n)).1 31 22 = -9 from nI_ne_m9 (by omega))]; rfl
end TOURR
