section RING
variable {S : zS} {nv n q : Nat} {O : Nat → Nat → Nat}
theorem upd_upd (f : Nat → Int32) (k : Nat) (a b : Int32) : upd (upd f k a) k b = upd f k b := by
  funext j; unfold upd; split <;> rfl
theorem rs_len (S : zS) (a b : Int32) (g : Nat → Int32) : zu (zr (zu S 15 1 a) 16 g) 15 1 b = zr (zu S 15 1 b) 16 g := by
  rw [zu_zr, zr_n (by decide), zu_s, upd_upd, zr_comm _ (by decide), zu_zr S 15 1 a, zr_zr, zu_zr S 15 1 b]
theorem zu_eta (S : zS) (k i : Nat) : zu S k i (S.1 k i) = S := by
  rw [zu_zr, show upd (S.1 k) i (S.1 k i) = S.1 k from funext (fun j => by unfold upd; split <;> simp_all), zr_eta]
/-- the class's search over the lengths -/
theorem ringFind (hq : 17 ≤ q) (h6 : S.1 q 6 = nI nv) (hn6 : nv ≤ 6) (hO : ∀ a b, a < 6 → b < 6 → S.1 (q + 5) (6 * a + b) = nI (O a b)) (hO9 : ∀ a b, a < 6 → b < 6 → O a b ≤ 999) :
    ∀ (t n fl : Nat) (L0 : Int32) (g : Nat → Int32), n + t = 8 → t < fl → 2 ≤ n → (∀ n', 2 ≤ n' → n' < n → ∀ y, ¬ ringV nv O n' y) →
      ∃ (g' : Nat → Int32) (L : Int32), (∃ n1, 2 ≤ n1 ∧ n1 ≤ nv ∧ L = nI n1 ∧ f_X1_find_2 q fl (zr (zu S 15 1 L0) 16 g) (nI n) = some (1, zr (zu S 15 1 L) 16 g') ∧ (∀ n', 2 ≤ n' → n' < n1 → ∀ y, ¬ ringV nv O n' y) ∧ ∃ x : Nat → Nat, (∀ i, i < n1 → g' i = nI (x i)) ∧ ringV nv O n1 x ∧ ∀ y, ringV nv O n1 y → ¬ lexlt n1 y x) ∨
        (f_X1_find_2 q fl (zr (zu S 15 1 L0) 16 g) (nI n) = some (0, zr (zu S 15 1 L) 16 g') ∧ ∀ n', 2 ≤ n' → n' ≤ nv → ∀ y, ¬ ringV nv O n' y) := by
  intro t
  induction t with
  | zero =>
    intro n fl L0 g hn hfl h2 hno
    obtain ⟨fl, rfl⟩ : ∃ e, fl = e + 1 := ⟨fl - 1, by omega⟩
    refine ⟨g, L0, Or.inr ⟨?_, fun n' h1 h3 => hno n' h1 (by omega)⟩⟩
    rw [f_X1_find_2, zr_n (show q ≠ 16 by omega), zu_n (show q ≠ 15 by omega), h6, if_pos ((nI_ltI (by omega) (by omega)).mpr (by omega))]
  | succ t iht =>
    intro n fl L0 g hn hfl h2 hno
    obtain ⟨fl, rfl⟩ : ∃ e, fl = e + 1 := ⟨fl - 1, by omega⟩
    rw [f_X1_find_2, zr_n (show q ≠ 16 by omega), zu_n (show q ≠ 15 by omega), h6]
    by_cases hlt : nv < n
    · refine ⟨g, L0, Or.inr ⟨?_, fun n' h1 h3 => hno n' h1 (by omega)⟩⟩
      rw [if_pos ((nI_ltI (by omega) (by omega)).mpr hlt)]
    · rw [if_neg (fun z => hlt ((nI_ltI (by omega) (by omega)).mp z)), rs_len]
      obtain ⟨g', ⟨hR, x, hx1, hx2, hx3⟩ | ⟨hR, hnone⟩⟩ := ringFirst (S := zu S 15 1 (nI n)) (n := n) (O := O) hq (by rw [zu_n (by omega)]; exact h6) hn6 rfl h2 (by omega) (fun a b ha hb => by rw [zu_n (by omega)]; exact hO a b ha hb) hO9 (f_X1_find_2 q fl) nv 0 zN g (by omega) (by have := zN_big; omega) (fun y _ => Nat.zero_le _)
      · exact ⟨g', nI n, Or.inl ⟨n, h2, by omega, rfl, hR, hno, x, hx1, hx2, hx3⟩⟩
      · obtain ⟨g2, L, h⟩ := iht (n + 1) fl (nI n) g' (by omega) (by omega) (by omega) (fun n' h1 h3 y hy => by
          by_cases he : n' = n
          · subst he; exact hnone y hy
          · exact hno n' h1 (by omega) y hy)
        refine ⟨g2, L, ?_⟩
        rcases h with ⟨n1, a1, a2, a3, a4, a5⟩ | ⟨a1, a2⟩
        · exact Or.inl ⟨n1, a1, a2, a3, hR.trans a4, a5⟩
        · exact Or.inr ⟨hR.trans a1, a2⟩
def minUp (O : Nat → Nat → Nat) (n : Nat) (x : Nat → Nat) : Nat → Nat
  | 0 => 999
  | i + 1 => min (minUp O n x i) (O (x i) (x (nx n i)))
theorem minUp_le (O : Nat → Nat → Nat) (n : Nat) (x : Nat → Nat) : ∀ i, minUp O n x i ≤ 999
  | 0 => Nat.le_refl _
  | i + 1 => by
    have := minUp_le O n x i
    show min _ _ ≤ _
    omega
theorem nx_lt {n i : Nat} (h : i < n) : nx n i < n := by unfold nx; split <;> omega
theorem ringAt (S : zS) (L : Nat) (g : Nat → Int32) (hL : L ≤ 6) {i : Nat} (hi : i < L) : f_X1_at (zr (zu S 15 1 (nI L)) 16 g) (nI i) = some (g i) := by
  unfold f_X1_at
  rw [if_neg (nI_pos (by omega)), show (zr (zu S 15 1 (nI L)) 16 g).1 15 1 = nI L from rfl, if_neg (fun z => by have := (nI_leI (by omega) (by omega)).mp z; omega), L_6, if_neg (fun z => by have := (nI_leI (by omega) (by omega)).mp z; omega), if_pos (zin_nI (by omega) (by omega)), cl (by omega), zr_s]
theorem ringLeast (hq : 17 ≤ q) (h6 : S.1 q 6 = nI nv) (hn6 : nv ≤ 6) (hO : ∀ a b, a < 6 → b < 6 → S.1 (q + 5) (6 * a + b) = nI (O a b)) (hO9 : ∀ a b, a < 6 → b < 6 → O a b ≤ 999) (hn2 : 2 ≤ n) (hnn : n ≤ nv) {g : Nat → Int32} {x : Nat → Nat} (hg : ∀ i, i < n → g i = nI (x i)) (hx : ∀ i, i < n → x i < nv) :
    f_X1_leastDebt (zr (zu S 15 1 (nI n)) 16 g) q = some (nI (minUp O n x n)) := by
  have key : ∀ (m i fl : Nat), i + m = n → m < fl → f_X1_leastDebt_6 q fl (zr (zu S 15 1 (nI n)) 16 g) (nI (minUp O n x i)) (nI i) = some (nI (minUp O n x n)) := by
    intro m
    induction m with
    | zero =>
      intro i fl h1 h2
      obtain ⟨fl, rfl⟩ : ∃ e, fl = e + 1 := ⟨fl - 1, by omega⟩
      rw [f_X1_leastDebt_6, show (zr (zu S 15 1 (nI n)) 16 g).1 15 1 = nI n from rfl, if_pos ((nI_leI (by omega) (by omega)).mpr (by omega)), show i = n by omega]
    | succ m ih =>
      intro i fl h1 h2
      obtain ⟨fl, rfl⟩ : ∃ e, fl = e + 1 := ⟨fl - 1, by omega⟩
      have h33 : f_X1_leastDebt_33 (f_X1_leastDebt_6 q fl) q (zr (zu S 15 1 (nI n)) 16 g) (nI (minUp O n x i)) (nI i) (nI (nx n i)) = f_X1_leastDebt_6 q fl (zr (zu S 15 1 (nI n)) 16 g) (nI (minUp O n x (i + 1))) (nI (i + 1)) := by
        unfold f_X1_leastDebt_33
        have hnx := nx_lt (n := n) (i := i) (by omega)
        rw [ringAt S n g (by omega) (show i < n by omega), Option.bind_some, ringAt S n g (by omega) hnx, Option.bind_some, hg i (by omega), hg _ hnx, ring_debt (S := zu S 15 1 (nI n)) hq (by rw [zu_n (by omega)]; exact h6) hn6 (O := O) (fun a b ha hb => by rw [zu_n (by omega)]; exact hO a b ha hb) g (hx i (by omega)) (hx _ hnx), Option.bind_some, nI_1]
        have hm := minUp_le O n x i
        have ho := hO9 (x i) (x (nx n i)) (by have := hx i (by omega); omega) (by have := hx _ hnx; omega)
        have : (if nI (O (x i) (x (nx n i))) < nI (minUp O n x i) then nI (O (x i) (x (nx n i))) else nI (minUp O n x i)) = nI (minUp O n x (i + 1)) := by
          show _ = nI (min (minUp O n x i) (O (x i) (x (nx n i))))
          by_cases hc : O (x i) (x (nx n i)) < minUp O n x i
          · rw [if_pos ((nI_ltI (by omega) (by omega)).mpr hc)]; congr 1; omega
          · rw [if_neg (fun z => hc ((nI_ltI (by omega) (by omega)).mp z))]; congr 1; omega
        rw [this]
      rw [f_X1_leastDebt_6, show (zr (zu S 15 1 (nI n)) 16 g).1 15 1 = nI n from rfl, if_neg (fun z => by have := (nI_leI (by omega) (by omega)).mp z; omega), nI_1]
      by_cases hl : i + 1 < n
      · rw [if_neg (fun z => by have := (nI_leI (by omega) (by omega)).mp z; omega), show i + 1 = nx n i by unfold nx; rw [if_pos hl], h33]
        exact ih (i + 1) fl (by omega) (by omega)
      · rw [if_pos ((nI_leI (by omega) (by omega)).mpr (by omega)), show (0 : Int32) = nI (nx n i) by unfold nx; rw [if_neg hl]; rfl, h33]
        exact ih (i + 1) fl (by omega) (by omega)
  exact key n 0 zN (by omega) (by have := zN_big; omega)
/-- the reference's rows -/
theorem leastR (h33 : S.1 33 0 = nI nv) (hn6 : nv ≤ 6) (hO : ∀ a b, a < 6 → b < 6 → O a b ≤ 999 ∧ S.1 39 (6 * a + b) = nI (O a b)) (hn2 : 2 ≤ n) (hnn : n ≤ nv) {x : Nat → Nat} (hx : ∀ i, i < n → S.1 43 i = nI (x i)) (hx6 : ∀ i, i < n → x i < 6) :
    (ringV nv O n x ∧ f_X6_leastOf S (nI n) = some (nI (minUp O n x n))) ∨ (¬ ringV nv O n x ∧ f_X6_leastOf S (nI n) = some (-9)) := by
  have key : ∀ (m i fl G : Nat), i + m = n → m < fl → isSet G i x → (∀ j, j < i → x j < nv) → (∀ j, j < i → x 0 ≤ x j) → (∀ j k, j < k → k < i → x j ≠ x k) → (∀ j, j < i → O (x j) (x (nx n j)) ≠ 0) →
      (ringV nv O n x ∧ f_X6_leastOf_8 fl S (nI n) (nI G) (if i = 0 then -9 else nI (minUp O n x i)) (nI i) = some (nI (minUp O n x n))) ∨ (¬ ringV nv O n x ∧ f_X6_leastOf_8 fl S (nI n) (nI G) (if i = 0 then -9 else nI (minUp O n x i)) (nI i) = some (-9)) := by
    intro m
    induction m with
    | zero =>
      intro i fl G h1 h2 hG p1 p2 p3 p4
      obtain ⟨fl, rfl⟩ : ∃ e, fl = e + 1 := ⟨fl - 1, by omega⟩
      have : i = n := by omega
      subst this
      refine Or.inl ⟨⟨p1, p2, p3, p4⟩, ?_⟩
      rw [f_X6_leastOf_8, if_pos ((nI_leI (by omega) (by omega)).mpr (by omega)), if_neg (by omega)]
    | succ m ih =>
      intro i fl G h1 h2 hG p1 p2 p3 p4
      obtain ⟨fl, rfl⟩ : ∃ e, fl = e + 1 := ⟨fl - 1, by omega⟩
      have hnx := nx_lt (n := n) (i := i) (by omega)
      have e46 : f_X6_leastOf_8 (fl + 1) S (nI n) (nI G) (if i = 0 then -9 else nI (minUp O n x i)) (nI i) = f_X6_leastOf_46 (f_X6_leastOf_8 fl) S (nI n) (nI G) (if i = 0 then -9 else nI (minUp O n x i)) (nI i) (nI (x i)) (nI (x (nx n i))) := by
        rw [f_X6_leastOf_8, if_neg (fun z => by have := (nI_leI (by omega) (by omega)).mp z; omega), if_pos (zin_nI (by omega) (by omega)), nI_1, cl (by omega), hx i (by omega)]
        by_cases hl : i + 1 < n
        · rw [if_neg (fun z => by have := (nI_leI (by omega) (by omega)).mp z; omega), if_pos (zin_nI (by omega) (by omega)), cl (by omega), hx _ hl, show nx n i = i + 1 by unfold nx; rw [if_pos hl]]
        · rw [if_pos ((nI_leI (by omega) (by omega)).mpr (by omega)), hx 0 (by omega), show nx n i = 0 by unfold nx; rw [if_neg hl]]
      rw [e46]
      unfold f_X6_leastOf_46
      have hxi := hx6 i (by omega)
      have hxn := hx6 _ hnx
      rw [h33]
      by_cases c1 : nv ≤ x i
      · rw [if_pos ((nI_leI (by omega) (by omega)).mpr c1)]
        exact Or.inr ⟨fun hV => by have := hV.1 i (by omega); omega, rfl⟩
      rw [if_neg (fun z => c1 ((nI_leI (by omega) (by omega)).mp z))]
      by_cases c2 : nv ≤ x (nx n i)
      · rw [if_pos ((nI_leI (by omega) (by omega)).mpr c2)]
        exact Or.inr ⟨fun hV => by have := hV.1 _ hnx; omega, rfl⟩
      rw [if_neg (fun z => c2 ((nI_leI (by omega) (by omega)).mp z)), hx 0 (by omega)]
      have hx0 := hx6 0 (by omega)
      by_cases c3 : x i < x 0
      · rw [if_pos ((nI_ltI (by omega) (by omega)).mpr c3)]
        exact Or.inr ⟨fun hV => by have := hV.2.1 i (by omega); omega, rfl⟩
      rw [if_neg (fun z => c3 ((nI_ltI (by omega) (by omega)).mp z)), bit_all G hG.1 (x i) hxi]
      have hb2 : G / 2 ^ x i % 2 < 2 := Nat.mod_lt _ (by omega)
      rcases (show G / 2 ^ x i % 2 = 1 ∨ G / 2 ^ x i % 2 = 0 by omega) with hb | hb
      · rw [hb, if_pos (show nI 1 = 1 from rfl)]
        obtain ⟨j, hj, hje⟩ := (hG.2 (x i) hxi).mp hb
        exact Or.inr ⟨fun hV => hV.2.2.1 j i hj (by omega) hje, rfl⟩
      rw [hb, if_neg (show ¬ nI 0 = 1 by decide), L_6, pk_mul, nI_add, if_pos (zin_nI (by omega) (by omega)), cl (by omega), (hO (x i) (x (nx n i)) hxi hxn).2]
      have ho := (hO (x i) (x (nx n i)) hxi hxn).1
      by_cases c4 : O (x i) (x (nx n i)) = 0
      · rw [c4, if_pos (show nI 0 = 0 from rfl)]
        exact Or.inr ⟨fun hV => hV.2.2.2 i (by omega) c4, rfl⟩
      rw [if_neg (nI_ne0 (by omega) (by omega)), or_all G hG.1 (x i) hxi]
      have fin := ih (i + 1) fl (G ||| 2 ^ x i) (by omega) (by omega) (isSet_add hG hxi rfl) (fun j hj => by
          by_cases hji : j = i
          · subst hji; omega
          · exact p1 j (by omega)) (fun j hj => by
          by_cases hji : j = i
          · subst hji; omega
          · exact p2 j (by omega)) (fun j k hjk hk he => by
          by_cases hki : k = i
          · subst hki
            have := (hG.2 (x k) hxi).mpr ⟨j, hjk, he⟩
            omega
          · exact p3 j k hjk (by omega) he) (fun j hj => by
          by_cases hji : j = i
          · subst hji; exact c4
          · exact p4 j (by omega))
      rw [if_neg (show ¬ i + 1 = 0 by omega)] at fin
      have e138 : f_X6_leastOf_138 (f_X6_leastOf_8 fl) S (nI n) (nI (G ||| 2 ^ x i)) (nI i) (nI (x i)) (nI (x (nx n i))) = f_X6_leastOf_8 fl S (nI n) (nI (G ||| 2 ^ x i)) (nI (O (x i) (x (nx n i)))) (nI (i + 1)) := by
        unfold f_X6_leastOf_138 f_X6_leastOf_156
        rw [L_6, pk_mul, nI_add, if_pos (zin_nI (by omega) (by omega)), cl (by omega), (hO (x i) (x (nx n i)) hxi hxn).2, nI_1]
      have e156 : ∀ a, f_X6_leastOf_156 (f_X6_leastOf_8 fl) S (nI n) (nI (G ||| 2 ^ x i)) a (nI i) = f_X6_leastOf_8 fl S (nI n) (nI (G ||| 2 ^ x i)) a (nI (i + 1)) := fun a => by
        unfold f_X6_leastOf_156; rw [nI_1]
      have hmu : minUp O n x (i + 1) = min (minUp O n x i) (O (x i) (x (nx n i))) := rfl
      have hml := minUp_le O n x i
      by_cases hi0 : i = 0
      · rw [if_pos hi0, if_pos rfl, e138]
        have : minUp O n x (i + 1) = O (x i) (x (nx n i)) := by
          rw [hmu, hi0]
          show min 999 _ = _
          rw [hi0] at ho
          omega
        rw [this] at fin
        exact fin
      · rw [if_neg hi0, if_neg (nI_ne_m9 (by omega)), if_pos (zin_nI (by omega) (by omega))]
        by_cases hc : minUp O n x i ≤ O (x i) (x (nx n i))
        · rw [if_pos ((nI_leI (by omega) (by omega)).mpr hc), e156]
          have : minUp O n x (i + 1) = minUp O n x i := by rw [hmu]; omega
          rw [this] at fin
          exact fin
        · rw [if_neg (fun z => hc ((nI_leI (by omega) (by omega)).mp z)), e138]
          have : minUp O n x (i + 1) = O (x i) (x (nx n i)) := by rw [hmu]; omega
          rw [this] at fin
          exact fin
  have h := key n 0 zN 0 (by omega) (by have := zN_big; omega) (isSet_0 x) (fun j hj => by omega) (fun j hj => by omega) (fun j k hj hk => by omega) (fun j hj => by omega)
  rw [if_pos rfl] at h
  exact h
theorem ringV_congr {x y : Nat → Nat} (hn : 0 < n) (h : ∀ i, i < n → x i = y i) (hV : ringV nv O n x) : ringV nv O n y := by
  obtain ⟨a, b, c, d⟩ := hV
  refine ⟨fun i hi => by rw [← h i hi]; exact a i hi, fun i hi => by rw [← h i hi, ← h 0 hn]; exact b i hi, fun i j hij hj => by rw [← h i (by omega), ← h j hj]; exact c i j hij hj, fun i hi => by rw [← h i hi, ← h _ (nx_lt hi)]; exact d i hi⟩
theorem minUp_congr {x y : Nat → Nat} (h : ∀ i, i < n → x i = y i) : ∀ i, i ≤ n → minUp O n x i = minUp O n y i
  | 0, _ => rfl
  | i + 1, hi => by
    show min (minUp O n x i) _ = min (minUp O n y i) _
    rw [minUp_congr h i (by omega), h i (by omega), h _ (nx_lt (by omega))]
def ringAns (n : Nat) (O : Nat → Nat → Nat) (x : Nat → Nat) (a : Int32) : Int32 := if a = -1 then nI n else if a = -2 then nI (minUp O n x n) else if nI n ≤ a then -9 else nI (x a.toNatClampNeg)
/-- the reference over the codes of one length -/
theorem ring30 (h33 : S.1 33 0 = nI nv) (hn6 : nv ≤ 6) (hO : ∀ a b, a < 6 → b < 6 → O a b ≤ 999 ∧ S.1 39 (6 * a + b) = nI (O a b)) (hn2 : 2 ≤ n) (hnn : n ≤ nv) (a : Int32) (ha : a = -1 ∨ a = -2 ∨ ∃ j, j ≤ 5 ∧ a = nI j) (k17 : zS → Int32 → Int32 → Int32 → Option (Int32 × zS)) :
    ∀ (t c fl : Nat) (g : Nat → Int32), c + t = 6 ^ n → t < fl → (∀ y, ringV nv O n y → c ≤ code6 n y) →
      ∃ g' : Nat → Int32, (∃ x : Nat → Nat, ringV nv O n x ∧ (∀ y, ringV nv O n y → ¬ lexlt n y x) ∧ f_X6_ring_30 k17 fl (zr S 43 g) a (nI (6 ^ n)) (nI n) (nI c) = some (ringAns n O x a, zr S 43 g')) ∨
        (f_X6_ring_30 k17 fl (zr S 43 g) a (nI (6 ^ n)) (nI n) (nI c) = k17 (zr S 43 g') a (nI (6 ^ (n + 1))) (nI (n + 1)) ∧ ∀ y, ¬ ringV nv O n y) := by
  have hp := six_pow (n := n) (by omega)
  have hV6 : ∀ y, ringV nv O n y → ∀ i, i < n → y i < 6 := fun y hy i hi => by have := hy.1 i hi; omega
  intro t
  induction t with
  | zero =>
    intro c fl g hc hfl hinv
    obtain ⟨fl, rfl⟩ : ∃ e, fl = e + 1 := ⟨fl - 1, by omega⟩
    refine ⟨g, Or.inr ⟨?_, fun y hy => ?_⟩⟩
    · rw [f_X6_ring_30, if_pos ((nI_leI (by omega) (by omega)).mpr (by omega)), L_6, pk_mul, ← Nat.pow_succ, nI_1]
    · have := hinv y hy
      have := code6_lt (n := n) (hV6 y hy)
      omega
  | succ t iht =>
    intro c fl g hc hfl hinv
    obtain ⟨fl, rfl⟩ : ∃ e, fl = e + 1 := ⟨fl - 1, by omega⟩
    rw [f_X6_ring_30, if_neg (fun z => by have := (nI_leI (by omega) (by omega)).mp z; omega), takeRow_eq (zr S 43 g) (by omega) (by omega), Option.bind_some, zr_zr, zr_s]
    generalize hg2 : (fun j => if j < n then nI (dig n c j) else g j) = g2
    have hrow : ∀ i, i < n → (zr S 43 g2).1 43 i = nI (dig n c i) := fun i hi => by rw [zr_s, ← hg2]; exact if_pos hi
    rcases leastR (S := zr S 43 g2) (nv := nv) (O := O) h33 hn6 hO hn2 hnn hrow (fun i _ => dig_lt n c i) with ⟨hV, hR⟩ | ⟨hV, hR⟩
    · rw [hR, Option.bind_some, if_neg (nI_ne_m9 (by have := minUp_le O n (dig n c) n; omega))]
      refine ⟨g2, Or.inl ⟨dig n c, hV, fun y hy hlex => ?_, ?_⟩⟩
      · have h1 := code6_lex (hV6 y hy) hlex
        rw [code_dig n c (by omega)] at h1
        have := hinv y hy
        omega
      · unfold ringAns
        rcases ha with rfl | rfl | ⟨j, hj, rfl⟩
        · rw [if_pos rfl, if_pos rfl]
        · rw [if_neg (by decide), if_pos rfl, if_neg (by decide), if_pos rfl]
        · have n1 : ¬ nI j = -1 := fun z => by have := congrArg Int32.toInt z; rw [nI_i (by omega), show (-1 : Int32).toInt = -1 by decide] at this; omega
          have n2 : ¬ nI j = -2 := fun z => by have := congrArg Int32.toInt z; rw [nI_i (by omega), show (-2 : Int32).toInt = -2 by decide] at this; omega
          rw [if_neg n1, if_neg n2, if_neg n1, if_neg n2]
          by_cases hnj : n ≤ j
          · rw [if_pos ((nI_leI (by omega) (by omega)).mpr hnj), if_pos ((nI_leI (by omega) (by omega)).mpr hnj)]
          · rw [if_neg (fun z => hnj ((nI_leI (by omega) (by omega)).mp z)), if_neg (fun z => hnj ((nI_leI (by omega) (by omega)).mp z)), if_pos (zin_nI (by omega) (by omega)), cl (by omega), hrow j (by omega)]
    · rw [hR, Option.bind_some, if_pos rfl, nI_1]
      refine iht (c + 1) fl g2 (by omega) (by omega) (fun y hy => ?_)
      have h1 := hinv y hy
      have h2 : code6 n y ≠ c := fun he => hV (ringV_congr (by omega) (fun i hi => by rw [← he]; exact (dig_code n (hV6 y hy) i hi).symm) hy)
      omega
theorem ring17 (h33 : S.1 33 0 = nI nv) (hn6 : nv ≤ 6) (hO : ∀ a b, a < 6 → b < 6 → O a b ≤ 999 ∧ S.1 39 (6 * a + b) = nI (O a b)) (a : Int32) (ha : a = -1 ∨ a = -2 ∨ ∃ j, j ≤ 5 ∧ a = nI j) :
    ∀ (t n fl : Nat) (g : Nat → Int32), n + t = 8 → t < fl → 2 ≤ n → (∀ n', 2 ≤ n' → n' < n → ∀ y, ¬ ringV nv O n' y) →
      ∃ g' : Nat → Int32, (∃ n1, 2 ≤ n1 ∧ n1 ≤ nv ∧ (∀ n', 2 ≤ n' → n' < n1 → ∀ y, ¬ ringV nv O n' y) ∧ ∃ x : Nat → Nat, ringV nv O n1 x ∧ (∀ y, ringV nv O n1 y → ¬ lexlt n1 y x) ∧ f_X6_ring_17 fl (zr S 43 g) a (nI (6 ^ n)) (nI n) = some (ringAns n1 O x a, zr S 43 g')) ∨
        (f_X6_ring_17 fl (zr S 43 g) a (nI (6 ^ n)) (nI n) = some (-9, zr S 43 g') ∧ ∀ n', 2 ≤ n' → n' ≤ nv → ∀ y, ¬ ringV nv O n' y) := by
  intro t
  induction t with
  | zero =>
    intro n fl g hn hfl h2 hno
    obtain ⟨fl, rfl⟩ : ∃ e, fl = e + 1 := ⟨fl - 1, by omega⟩
    refine ⟨g, Or.inr ⟨?_, fun n' h1 h3 => hno n' h1 (by omega)⟩⟩
    rw [f_X6_ring_17, show (zr S 43 g).1 33 0 = nI nv from h33, if_pos ((nI_ltI (by omega) (by omega)).mpr (by omega))]
  | succ t iht =>
    intro n fl g hn hfl h2 hno
    obtain ⟨fl, rfl⟩ : ∃ e, fl = e + 1 := ⟨fl - 1, by omega⟩
    rw [f_X6_ring_17, show (zr S 43 g).1 33 0 = nI nv from h33]
    by_cases hlt : nv < n
    · refine ⟨g, Or.inr ⟨?_, fun n' h1 h3 => hno n' h1 (by omega)⟩⟩
      rw [if_pos ((nI_ltI (by omega) (by omega)).mpr hlt)]
    · rw [if_neg (fun z => hlt ((nI_ltI (by omega) (by omega)).mp z))]
      have hp := six_pow (n := n) (by omega)
      obtain ⟨g', ⟨x, hx1, hx2, hR⟩ | ⟨hR, hnone⟩⟩ := ring30 (O := O) h33 hn6 hO h2 (by omega) a ha (f_X6_ring_17 fl) (6 ^ n) 0 zN g (by omega) (by have := zN_big; omega) (fun y _ => Nat.zero_le _)
      · exact ⟨g', Or.inl ⟨n, h2, by omega, hno, x, hx1, hx2, hR⟩⟩
      · obtain ⟨g2, h⟩ := iht (n + 1) fl g' (by omega) (by omega) (by omega) (fun n' h1 h3 y hy => by
          by_cases he : n' = n
          · subst he; exact hnone y hy
          · exact hno n' h1 (by omega) y hy)
        refine ⟨g2, ?_⟩
        rcases h with ⟨n1, a1, a2, a3, x, a4, a5, a6⟩ | ⟨a1, a2⟩
        · exact Or.inl ⟨n1, a1, a2, a3, x, a4, a5, hR.trans a6⟩
        · exact Or.inr ⟨hR.trans a1, a2⟩
theorem Inv_ring (hI : InvN nv S) (L : Int32) (g g' : Nat → Int32) : InvN nv (zr (zr (zu S 15 1 L) 16 g) 43 g') := by
  obtain ⟨M, T, bt, bd⟩ := S
  cases bt <;> exact hI
theorem ring_ok (hI : InvN nv S) (a : Int32) : OK2 nv (f_X5_ring S a) (fun S => f_X6_ring S a) := by
  obtain ⟨hn6, hL, h33⟩ := inv_nv hI
  obtain ⟨O, hO, hw⟩ := inv_debt hI
  have hlr : 17 ≤ lr S.2.2.1 := by cases S.2.2.1 <;> decide
  unfold f_X5_ring
  rcases isw a (-2) 5 with h0 | ⟨h1, hr⟩
  · rw [h0, Option.bind_some, if_pos rfl]
    refine ⟨_, S, S, rfl, ?_, hI⟩
    show f_X6_ring S _ = _
    unfold f_X6_ring
    rw [in_isw, h0, Option.bind_some, if_pos rfl]
  · rw [h1, Option.bind_some, if_neg one_ne]
    have ha : a = -1 ∨ a = -2 ∨ ∃ j, j ≤ 5 ∧ a = nI j := by
      have q1 := i_le.mp hr.1
      have q2 := i_le.mp hr.2
      rw [show (-2 : Int32).toInt = -2 by decide] at q1
      rw [show (5 : Int32).toInt = 5 by decide] at q2
      rcases (show a.toInt = -1 ∨ a.toInt = -2 ∨ 0 ≤ a.toInt by omega) with q | q | q
      · exact Or.inl (i_eq.mpr (q.trans (by decide)))
      · exact Or.inr (Or.inl (i_eq.mpr (q.trans (by decide))))
      · obtain ⟨j, hj, e⟩ := ofI 5 q (by omega)
        exact Or.inr (Or.inr ⟨j, hj, e⟩)
    have hfind : f_X1_find S (lr S.2.2.1) = f_X1_find_2 (lr S.2.2.1) zN (zr (zu S 15 1 (S.1 15 1)) 16 (S.1 16)) (nI 2) := by
      unfold f_X1_find
      rw [zu_eta, zr_eta]
      rfl
    obtain ⟨g', L, h⟩ := ringFind (S := S) (O := O) hlr hL hn6 hw (fun a b ha hb => (hO a b ha hb).1) 6 2 zN (S.1 15 1) (S.1 16) (by omega) (by have := zN_big; omega) (by omega) (fun n' q1 q2 => by omega)
    have href : ∀ S1 : zS, f_X6_ring S1 a = f_X6_ring_17 zN (zr S1 43 (S1.1 43)) a (nI (6 ^ 2)) (nI 2) := by
      intro S1
      unfold f_X6_ring
      rw [in_isw, h1, Option.bind_some, if_neg one_ne, zr_eta]
      rfl
    obtain ⟨g2, h2⟩ := ring17 (S := zr (zu S 15 1 L) 16 g') (O := O) h33 hn6 hO a ha 6 2 zN (S.1 43) (by omega) (by have := zN_big; omega) (by omega) (fun n' q1 q2 => by omega)
    rw [hfind]
    rcases h with ⟨n1, b1, b2, b3, b4, b5, x, b6, b7, b8⟩ | ⟨b1, b2⟩
    · rw [b4, zb2_some, if_neg one_ne]
      rcases h2 with ⟨n2, c1, c2, c3, y, c4, c5, c6⟩ | ⟨c1, c2⟩
      · have hn12 : n1 = n2 := by
          rcases Nat.lt_trichotomy n1 n2 with q | q | q
          · exact absurd b7 (c3 n1 b1 q x)
          · exact q
          · exact absurd c4 (b5 n2 c1 q y)
        subst hn12
        have hxy : ∀ i, i < n1 → x i = y i := by
          rcases lex_tri x y n1 with q | q | q
          · exact q
          · exact absurd q (c5 x b7)
          · exact absurd q (b8 y c4)
        have hX : ∀ i, i < n1 → x i < nv := b7.1
        have hSl : (zr (zu S 15 1 L) 16 g').2.2.1 = S.2.2.1 := rfl
        refine OK2.mk (x := ringAns n1 O x a) (S1 := zr (zu S 15 1 L) 16 g') ?_ ((href _).trans c6) ?_ (Inv_ring hI L g' g2)
        · rw [hSl, b3]
          unfold ringAns
          rcases ha with rfl | rfl | ⟨j, hj, rfl⟩
          · rw [if_neg (by decide), if_pos rfl, if_pos rfl]; rfl
          · rw [if_pos rfl, ringLeast (O := O) hlr hL hn6 hw (fun a b ha hb => (hO a b ha hb).1) b1 b2 b6 hX, Option.bind_some, if_neg (by decide), if_pos rfl]
          · have n1' : ¬ nI j = -1 := fun z => by have := congrArg Int32.toInt z; rw [nI_i (by omega), show (-1 : Int32).toInt = -1 by decide] at this; omega
            have n2' : ¬ nI j = -2 := fun z => by have := congrArg Int32.toInt z; rw [nI_i (by omega), show (-2 : Int32).toInt = -2 by decide] at this; omega
            rw [if_neg n2', if_neg n1', if_neg n1', if_neg n2']
            by_cases hnj : n1 ≤ j
            · rw [if_pos ((nI_leI (by omega) (by omega)).mpr hnj)]
              unfold f_X1_at
              rw [if_neg (nI_pos (by omega)), show (zr (zu S 15 1 (nI n1)) 16 g').1 15 1 = nI n1 from rfl, if_pos ((nI_leI (by omega) (by omega)).mpr hnj), Option.bind_some]
            · rw [if_neg (fun z => hnj ((nI_leI (by omega) (by omega)).mp z)), ringAt S n1 g' (by omega) (show j < n1 by omega), Option.bind_some, b6 j (by omega), cl (by omega)]
        · unfold ringAns
          rw [minUp_congr hxy n1 (Nat.le_refl _)]
          rcases ha with rfl | rfl | ⟨j, hj, rfl⟩
          · rw [if_pos rfl, if_pos rfl]
          · rw [if_neg (by decide), if_pos rfl, if_neg (by decide), if_pos rfl]
          · by_cases hnj : n1 ≤ j
            · simp only [if_pos ((nI_leI (a := n1) (b := j) (by omega) (by omega)).mpr hnj)]
            · rw [cl (by omega), hxy j (by omega)]
      · exact absurd b7 (c2 n1 b1 b2 x)
    · rw [b1, zb2_some, if_pos rfl]
      rcases h2 with ⟨n2, c1, c2, c3, y, c4, c5, c6⟩ | ⟨c1, c2⟩
      · exact absurd c4 (b2 n2 c1 c2 y)
      · exact OK2.mk rfl ((href _).trans c1) rfl (Inv_ring hI L g' g2)
end RING
