/-! tours: the class -/
section TOURC
variable {S : zS} {nv c B m goal n gs q : Nat} {D : Nat → Nat → Nat} {sp : Nat → Nat}
/-- the class's state while it looks -/
def tS (S : zS) (r b : Nat → Int32) (e : Int32) : zS := zu (zr (zr S 13 r) 14 b) 11 6 e
theorem tS_n {S : zS} {r b : Nat → Int32} {e : Int32} {k : Nat} (h1 : k ≠ 11) (h2 : k ≠ 13) (h3 : k ≠ 14) : (tS S r b e).1 k = S.1 k := by
  unfold tS
  rw [zu_n h1, zr_n h3, zr_n h2]
theorem tS_row (S : zS) (r r' b : Nat → Int32) (e : Int32) : zr (tS S r b e) 13 r' = tS S r' b e := by
  unfold tS
  rw [zu_zr, zu_zr, zr_comm (zr (zr S 13 r) 14 b) (show (11 : Nat) ≠ 13 by decide), zr_comm (zr S 13 r) (show (14 : Nat) ≠ 13 by decide), zr_zr]
  rfl
theorem tS_best (S : zS) (r b b' : Nat → Int32) (e e' : Int32) : zu (zr (tS S r b e) 14 b') 11 6 e' = tS S r b' e' := by
  unfold tS
  rw [zu_zr, zu_zr, zu_zr, zr_comm (zr (zr S 13 r) 14 b) (show (11 : Nat) ≠ 14 by decide), zr_zr, zr_zr]
  congr 1
  funext j
  show upd (upd (S.1 11) 6 e) 6 e' j = upd (S.1 11) 6 e' j
  unfold upd
  split <;> rfl
def bE (D : Nat → Nat → Nat) (c n : Nat) (β : Option (Nat → Nat)) (b : Nat → Int32) (e : Int32) : Prop :=
  (β = none ∧ e = -9) ∨ ∃ y, β = some y ∧ e = nI (tds D c y n) ∧ tds D c y n < 100000 ∧ ∀ i, i < n → b i = nI (y i)
def tR (nv : Nat) (D : Nat → Nat → Nat) (sp : Nat → Nat) (c B m goal n k : Nat) (p z : Nat → Nat) : Prop := Feas nv D sp c B m goal n z ∧ (∀ i, i < n → 0 < sp (z i)) ∧ ∀ i, i < k → z i = p i
theorem tsm_up {x : Nat → Nat} {k : Nat} : ∀ j, (∀ i, i < k + j → sp (x i) ≤ gs) → tsm sp x (k + j) ≤ tsm sp x k + j * gs
  | 0, _ => by rw [Nat.zero_mul]; exact Nat.le_refl _
  | j + 1, h => by
    have h1 := tsm_up (x := x) (k := k) j (fun i hi => h i (by omega))
    have h2 := h (k + j) (by omega)
    show tsm sp x (k + j) + sp (x (k + j)) ≤ _
    rw [Nat.add_mul]
    omega
theorem worth (hq : 17 ≤ q) (h8 : S.1 q 8 = nI m) (hn6 : nv ≤ 6) (h12 : ∀ v, v < nv → S.1 12 v = nI (sp v)) (hsp : ∀ v, v < nv → sp v ≤ 60) {r b : Nat → Int32} {e : Int32} {v d : Nat} (hv : v < nv) (hd : m * d < 100000) (a t : Nat) (ha : a < 100000) (htd : t + d < 100000) {β : Option (Nat → Nat)} (hE : bE D c n β b e) :
    f_X4_isWorthGoing (tS S r b e) q (nI v) (nI d) (nI a) (nI t) = some 1 ∧ (∀ y, β = some y → t + d < tds D c y n) ∧ 0 < sp v ∧ m * d ≤ a ∨
    f_X4_isWorthGoing (tS S r b e) q (nI v) (nI d) (nI a) (nI t) = some 0 ∧ ((∃ y, β = some y ∧ tds D c y n ≤ t + d) ∨ sp v = 0 ∨ a < m * d) := by
  have hs := hsp v hv
  have h20 : f_X4_isWorthGoing_20 q (tS S r b e) (nI v) (nI d) (nI a) = some 1 ∧ 0 < sp v ∧ m * d ≤ a ∨ f_X4_isWorthGoing_20 q (tS S r b e) (nI v) (nI d) (nI a) = some 0 ∧ (sp v = 0 ∨ a < m * d) := by
    unfold f_X4_isWorthGoing_20 f_X4_isWorthGoing_27
    rw [if_neg one_ne, if_neg (nI_pos (by omega)), L_6, if_neg (fun z => by have := (nI_leI (by omega) (by omega)).mp z; omega), if_pos (zin_nI (by omega) (by omega)), cl (by omega), tS_n (by decide) (by decide) (by decide), h12 v hv, tS_n (by omega) (by omega) (by omega), h8, pk_mul]
    by_cases h1 : sp v = 0
    · rw [if_pos ((nI_le0 (by omega)).mpr h1)]
      exact Or.inr ⟨rfl, Or.inl h1⟩
    · rw [if_neg (fun z => h1 ((nI_le0 (by omega)).mp z))]
      by_cases h2 : a < m * d
      · rw [if_pos ((nI_ltI (by omega) (by omega)).mpr h2)]
        exact Or.inr ⟨rfl, Or.inr h2⟩
      · rw [if_neg (fun z => h2 ((nI_ltI (by omega) (by omega)).mp z))]
        exact Or.inl ⟨rfl, by omega, by omega⟩
  unfold f_X4_isWorthGoing
  have he : (tS S r b e).1 11 6 = e := by unfold tS; rw [zu_s, upd_s]
  rw [he]
  rcases hE with ⟨rfl, rfl⟩ | ⟨y, rfl, rfl, hy, -⟩
  · rw [if_pos rfl]
    rcases h20 with ⟨w1, w2, w3⟩ | ⟨w1, w2⟩
    · exact Or.inl ⟨w1, fun y hy => (nomatch hy), w2, w3⟩
    · exact Or.inr ⟨w1, Or.inr w2⟩
  · rw [if_neg (nI_ne_m9 (by omega)), nI_add]
    by_cases hle : tds D c y n ≤ t + d
    · rw [if_pos ((nI_leI (by omega) (by omega)).mpr hle)]
      unfold f_X4_isWorthGoing_27
      rw [if_pos rfl]
      exact Or.inr ⟨rfl, Or.inl ⟨y, rfl, hle⟩⟩
    · rw [if_neg (fun z => hle ((nI_leI (by omega) (by omega)).mp z))]
      rcases h20 with ⟨w1, w2, w3⟩ | ⟨w1, w2⟩
      · exact Or.inl ⟨w1, fun y' hy' => by cases hy'; omega, w2, w3⟩
      · exact Or.inr ⟨w1, Or.inr w2⟩
theorem tourGo (hq : 17 ≤ q) (h6 : S.1 q 6 = nI nv) (h8 : S.1 q 8 = nI m) (hn6 : nv ≤ 6) (h3 : S.1 11 3 = nI n) (h4 : S.1 11 4 = nI goal) (h5 : S.1 11 5 = nI gs) (h12 : ∀ v, v < nv → S.1 12 v = nI (sp v)) (hsp : ∀ v, v < nv → sp v ≤ gs) (hgs : gs ≤ 60) (hDD : ∀ a b, a < 6 → b < 6 → D a b ≤ 1000 ∧ S.1 (q + 4) (6 * a + b) = nI (D a b)) (hc : 0 < nv → c < nv) (hB : B ≤ 999) (hgoal : goal ≤ 600) (hm9 : m ≤ 9) (hnn : n ≤ nv) :
    ∀ (t k fl G : Nat) (r b : Nat → Int32) (e P : Int32) (β : Option (Nat → Nat)) (p : Nat → Nat), k + t = n → t < fl → (∀ i, i < k → r i = nI (p i)) → isSet G k p → (0 < nv → P = nI (tpl c p k)) → (∀ i, i < k → p i < nv ∧ 0 < sp (p i)) → (∀ i j, i < j → j < k → p i ≠ p j) → (∀ i, i < k → D (tpl c p i) (p i) < 1000 ∧ m * tds D c p (i + 1) ≤ B + tsm sp p i) → m * tds D c p k ≤ B + tsm sp p k → tds D c p k ≤ 1000 * k → bE D c n β b e → (∀ y, β = some y → tds D c p k < tds D c y n) →
      ∃ (r' b' : Nat → Int32) (e' : Int32) (β' : Option (Nat → Nat)), f_X4_goOn fl (tS S r b e) q (nI k) (nI G) P (nI (B + tsm sp p k - m * tds D c p k)) (nI (tds D c p k)) = some (tS S r' b' e') ∧ (∀ i, i < k → r' i = nI (p i)) ∧ bE D c n β' b' e' ∧ Upd D c n (tR nv D sp c B m goal n k p) β β' := by
  have e3 : ∀ r b e, (tS S r b e).1 11 3 = nI n := fun r b e => by unfold tS; rw [zu_s, upd_n (by decide)]; exact h3
  have e4 : ∀ r b e, (tS S r b e).1 11 4 = nI goal := fun r b e => by unfold tS; rw [zu_s, upd_n (by decide)]; exact h4
  have e5 : ∀ r b e, (tS S r b e).1 11 5 = nI gs := fun r b e => by unfold tS; rw [zu_s, upd_n (by decide)]; exact h5
  have eq : ∀ r b e j, (tS S r b e).1 q j = S.1 q j := fun r b e j => by rw [tS_n (by omega) (by omega) (by omega)]
  have hsp6 : ∀ v, v < nv → sp v ≤ 60 := fun v hv => by have := hsp v hv; omega
  intro t
  induction t with
  | zero =>
    intro k fl G r b e P β p hk hfl hr hG hP p1 p2 p3 p4 p5 hE hbet
    obtain ⟨fl, rfl⟩ : ∃ e, fl = e + 1 := ⟨fl - 1, by omega⟩
    have hkn : k = n := by omega
    subst hkn
    have hs := tsm_le (sp := sp) (x := p) k (fun j hj => hsp6 _ (p1 j hj).1)
    show ∃ r' b' e' β', f_X4_goOn_e (f_X4_goOn fl) (tS S r b e) q (nI k) (nI G) P _ _ = _ ∧ _
    unfold f_X4_goOn_e f_X4_goOn_51
    rw [e3, e4, e5, eq, h8, pk_mul, pk_sub (Nat.le_refl _), Nat.sub_self, pk_mul, Nat.zero_mul, nI_add, nI_add, show B + tsm sp p k - m * tds D c p k + m * tds D c p k + 0 = B + tsm sp p k by omega]
    by_cases hg : goal ≤ B + tsm sp p k
    · rw [if_pos ((nI_leI (by omega) (by omega)).mpr hg), if_pos ((nI_leI (by omega) (by omega)).mpr (Nat.le_refl _)), tS_best]
      refine ⟨r, _, _, some p, rfl, hr, Or.inr ⟨p, rfl, rfl, by omega, fun i hi => ?_⟩, Or.inr ⟨p, rfl, ⟨⟨fun i hi => (p1 i hi).1, p2, p3, hg⟩, fun i hi => (p1 i hi).2, fun _ _ => rfl⟩, hbet, fun w hw => ⟨?_, fun _ => ?_⟩⟩⟩
      · show va_cpy ((tS S r b e).1 13) ((tS S r b e).1 14) 0 0 6 i = _
        unfold va_cpy
        rw [if_pos ⟨Nat.zero_le _, by omega⟩, show 0 + (i - 0) = i by omega, show (tS S r b e).1 13 = r from by unfold tS; rw [zu_n (by decide), zr_n (by decide), zr_s]]
        exact hr i hi
      · rw [tds_congr (fun i hi => hw.2.2 i hi) k (Nat.le_refl _)]; exact Nat.le_refl _
      · rintro ⟨i, hi, -, hlt⟩
        have := hw.2.2 i hi
        omega
    · rw [if_neg (fun z => hg ((nI_leI (by omega) (by omega)).mp z))]
      refine ⟨r, b, e, β, rfl, hr, hE, Upd_none (fun z hz => hg ?_)⟩
      have := hz.1.2.2.2
      rw [tsm_congr (fun i hi => hz.2.2 i hi) k (Nat.le_refl _)] at this
      exact this
  | succ t ih =>
    intro k fl G r b e P β p hk hfl hr hG hP p1 p2 p3 p4 p5 hE hbet
    obtain ⟨fl, rfl⟩ : ∃ e, fl = e + 1 := ⟨fl - 1, by omega⟩
    have hnv : 0 < nv := by omega
    have hcn := hc hnv
    have hP := hP hnv
    have hs := tsm_le (sp := sp) (x := p) k (fun j hj => hsp6 _ (p1 j hj).1)
    have hpl : tpl c p k < nv := by
      unfold tpl
      by_cases h0 : k = 0
      · rw [if_pos h0]; omega
      · rw [if_neg h0]; exact (p1 (k - 1) (by omega)).1
    have hgm : (n - k) * gs ≤ 6 * 60 := Nat.mul_le_mul (by omega) hgs
    have loop : ∀ (t w fl2 : Nat) (r b : Nat → Int32) (e : Int32) (β1 : Option (Nat → Nat)), w + t = nv → t < fl2 → (∀ i, i < k → r i = nI (p i)) → bE D c n β1 b e → Upd D c n (fun z => tR nv D sp c B m goal n k p z ∧ z k < w) β β1 →
        ∃ (r' b' : Nat → Int32) (e' : Int32) (β' : Option (Nat → Nat)), f_X4_goOn_79 (f_X4_goOn fl) q fl2 (tS S r b e) (nI k) (nI G) (nI (tpl c p k)) (nI (B + tsm sp p k - m * tds D c p k)) (nI (tds D c p k)) (nI w) = some (tS S r' b' e') ∧ (∀ i, i < k → r' i = nI (p i)) ∧ bE D c n β' b' e' ∧ Upd D c n (tR nv D sp c B m goal n k p) β β' := by
      intro t
      induction t with
      | zero =>
        intro w fl2 r b e β1 hw hf2 hr hE hU
        obtain ⟨fl2, rfl⟩ : ∃ e, fl2 = e + 1 := ⟨fl2 - 1, by omega⟩
        rw [f_X4_goOn_79, eq, h6, if_pos ((nI_leI (by omega) (by omega)).mpr (by omega))]
        refine ⟨r, b, e, β1, rfl, hr, hE, Upd_congr hU (fun z => ⟨fun h => h.1, fun h => ⟨h, ?_⟩⟩)⟩
        have := h.1.1 k (by omega)
        omega
      | succ t iht =>
        intro w fl2 r b e β1 hw hf2 hr hE hU
        obtain ⟨fl2, rfl⟩ : ∃ e, fl2 = e + 1 := ⟨fl2 - 1, by omega⟩
        have next : ∀ (r2 b2 : Nat → Int32) (e2 : Int32) (β2 : Option (Nat → Nat)), (∀ i, i < k → r2 i = nI (p i)) → bE D c n β2 b2 e2 → Upd D c n (fun z => tR nv D sp c B m goal n k p z ∧ z k = w) β1 β2 →
            ∃ (r' b' : Nat → Int32) (e' : Int32) (β' : Option (Nat → Nat)), f_X4_goOn_191 (f_X4_goOn fl) (f_X4_goOn_79 (f_X4_goOn fl) q fl2) q (tS S r2 b2 e2) (nI k) (nI G) (nI (tpl c p k)) (nI (B + tsm sp p k - m * tds D c p k)) (nI (tds D c p k)) (nI w) = some (tS S r' b' e') ∧ (∀ i, i < k → r' i = nI (p i)) ∧ bE D c n β' b' e' ∧ Upd D c n (tR nv D sp c B m goal n k p) β β' := by
          intro r2 b2 e2 β2 hr2 hE2 hU2
          unfold f_X4_goOn_191
          rw [nI_1]
          refine iht (w + 1) fl2 r2 b2 e2 β2 (by omega) (by omega) hr2 hE2 (Upd_comp hU hU2 (fun x y hx hy => ⟨k, by omega, fun i hi => ?_, ?_⟩) (fun z hz => ?_) (fun z hz => ⟨hz.1, ?_⟩) (fun z hz => ⟨hz.1, ?_⟩))
          · rw [hx.1.2.2 i hi, hy.1.2.2 i hi]
          · have := hx.2; have := hy.2; omega
          · rcases (show z k < w ∨ z k = w by have := hz.2; omega) with q | q
            · exact Or.inl ⟨hz.1, q⟩
            · exact Or.inr ⟨hz.1, q⟩
          · have := hz.2; omega
          · have := hz.2; omega
        have hDb := hDD (tpl c p k) w (by omega) (by omega)
        have htp : ∀ z, tR nv D sp c B m goal n k p z → tpl c z k = tpl c p k := fun z hz => tpl_congr (fun i hi => hz.2.2 i hi) (Nat.le_refl _)
        have hts : ∀ z, tR nv D sp c B m goal n k p z → tsm sp z k = tsm sp p k := fun z hz => tsm_congr (fun i hi => hz.2.2 i hi) k (Nat.le_refl _)
        have htd : ∀ z, tR nv D sp c B m goal n k p z → z k = w → tds D c z (k + 1) = tds D c p k + D (tpl c p k) w := fun z hz hzk => by
          show tds D c z k + D (tpl c z k) (z k) = _
          rw [htp z hz, hzk, tds_congr (fun i hi => hz.2.2 i hi) k (Nat.le_refl _)]
        rw [f_X4_goOn_79, eq, h6, if_neg (fun z => by have := (nI_leI (by omega) (by omega)).mp z; omega), L_6, if_neg (fun z => by have := (nI_leI (by omega) (by omega)).mp z; omega), days_eq (tS S r b e) q (by rw [eq]; exact h6) hn6 hpl (show w < nv by omega), Option.bind_some, tS_n (by omega) (by omega) (by omega), hDb.2, L_1000]
        by_cases hfar : D (tpl c p k) w < 1000
        · rw [if_pos ((nI_ltI (by omega) (by omega)).mpr hfar), if_neg (nI_ne_m9 (by omega)), bit_all G hG.1 w (by omega)]
          have hb2 : G / 2 ^ w % 2 < 2 := Nat.mod_lt _ (by omega)
          rcases (show G / 2 ^ w % 2 = 0 ∨ G / 2 ^ w % 2 = 1 by omega) with hb | hb
          · rw [hb, if_pos (show nI 0 = 0 from rfl)]
            have hmD : m * D (tpl c p k) w ≤ 9 * 1000 := Nat.mul_le_mul hm9 hDb.1
            rcases worth (D := D) (c := c) (n := n) (r := r) hq h8 hn6 h12 hsp6 (show w < nv by omega) (show m * D (tpl c p k) w < 100000 by omega) (B + tsm sp p k - m * tds D c p k) (tds D c p k) (by omega) (by omega) hE with ⟨hW, w1, w2, w3⟩ | ⟨hW, hbad⟩
            · have hnew : ∀ i, i < k → p i ≠ w := fun i hi he => by
                have := (hG.2 w (by omega)).mpr ⟨i, hi, he⟩
                omega
              generalize hp' : (fun i => if i = k then w else p i) = p'
              have hPP : ∀ i, i < k → p' i = p i := fun i hi => by rw [← hp']; exact if_neg (by omega)
              have hPk : p' k = w := by rw [← hp']; exact if_pos rfl
              have a1 : tpl c p' k = tpl c p k := tpl_congr hPP (Nat.le_refl _)
              have a2 : tsm sp p' k = tsm sp p k := tsm_congr hPP k (Nat.le_refl _)
              have a3 : tds D c p' k = tds D c p k := tds_congr hPP k (Nat.le_refl _)
              have a4 : tds D c p' (k + 1) = tds D c p k + D (tpl c p k) w := by
                show tds D c p' k + D (tpl c p' k) (p' k) = _
                rw [a1, a3, hPk]
              have a5 : tsm sp p' (k + 1) = tsm sp p k + sp w := by
                show tsm sp p' k + sp (p' k) = _
                rw [a2, hPk]
              have a6 : m * tds D c p' (k + 1) = m * tds D c p k + m * D (tpl c p k) w := by rw [a4, Nat.mul_add]
              have hsw := hsp6 w (by omega)
              rw [hW, Option.bind_some, if_neg one_ne, if_pos (zin_nI (by omega) (by omega)), if_pos (zin_nI (by omega) (by omega)), cl (by omega), cl (by omega), tS_row, nI_1, or_all G hG.1 w (by omega), eq, h8, pk_mul, tS_n (k := 12) (by decide) (by decide) (by decide), h12 w (by omega), pk_sub w3, nI_add, nI_add, ← a4, show B + tsm sp p k - m * tds D c p k - m * D (tpl c p k) w + sp w = B + tsm sp p' (k + 1) - m * tds D c p' (k + 1) by rw [a5, a6]; omega, show (tS S r b e).1 13 = r from by unfold tS; rw [zu_n (by decide), zr_n (by decide), zr_s]]
              obtain ⟨r', b', e', β', q1, q2, q3, q4⟩ := ih (k + 1) fl (G ||| 2 ^ w) (upd r k (nI w)) b e (nI w) β1 p' (by omega) (by omega) (fun i hi => by
                  by_cases hik : i = k
                  · subst hik; rw [upd_s, hPk]
                  · rw [upd_n hik, hr i (by omega), hPP i (by omega)]) (isSet_add (isSet_congr hG hPP) (by omega) hPk) (fun _ => by
                  unfold tpl; rw [if_neg (by omega), Nat.add_sub_cancel, hPk]) (fun i hi => by
                  by_cases hik : i = k
                  · rw [hik, hPk]; exact ⟨by omega, w2⟩
                  · rw [hPP i (by omega)]; exact p1 i (by omega)) (fun i j hij hj => by
                  rw [hPP i (by omega)]
                  by_cases hjk : j = k
                  · rw [hjk, hPk]; exact hnew i (by omega)
                  · rw [hPP j (by omega)]; exact p2 i j hij (by omega)) (fun i hi => by
                  by_cases hik : i = k
                  · rw [hik, a1, hPk, a2, a6]; exact ⟨hfar, by omega⟩
                  · rw [tpl_congr hPP (by omega), hPP i (by omega), tds_congr hPP (i + 1) (by omega), tsm_congr hPP i (by omega)]; exact p3 i (by omega)) (by rw [a5, a6]; omega) (by rw [a4]; omega) hE (fun y hy => by rw [a4]; exact w1 y hy)
              rw [q1, Option.bind_some]
              refine next r' b' e' β' (fun i hi => (q2 i (by omega)).trans (by rw [hPP i hi])) q3 (Upd_congr q4 (fun z => ⟨fun h => ⟨⟨h.1, h.2.1, fun i hi => (h.2.2 i (by omega)).trans (hPP i hi)⟩, (h.2.2 k (by omega)).trans hPk⟩, fun h => ⟨h.1.1, h.1.2.1, fun i hi => ?_⟩⟩))
              by_cases hik : i = k
              · rw [hik, hPk]; exact h.2
              · rw [hPP i (by omega)]; exact h.1.2.2 i (by omega)
            · rw [hW, Option.bind_some, if_pos rfl]
              refine next r b e β1 hr hE ?_
              rcases hbad with ⟨y, hy, hle⟩ | hz | hlt
              · refine Or.inl ⟨rfl, fun z hz => ⟨y, hy, ?_⟩⟩
                have h1 := htd z hz.1 hz.2
                have h2 := tds_mono (D := D) (c := c) z (show k + 1 ≤ n by omega)
                omega
              · refine Upd_none (fun z hzz => ?_)
                have := hzz.1.2.1 k (by omega)
                rw [hzz.2] at this
                omega
              · refine Upd_none (fun z hzz => ?_)
                have := (hzz.1.1.2.2.1 k (by omega)).2
                rw [htd z hzz.1 hzz.2, hts z hzz.1, Nat.mul_add] at this
                omega
          · rw [hb, if_neg (show ¬ nI 1 = 0 by decide)]
            refine next r b e β1 hr hE (Upd_none (fun z hz => ?_))
            obtain ⟨i, hi, hpi⟩ := (hG.2 w (by omega)).mp hb
            exact hz.1.1.2.1 i k hi (by omega) (by rw [hz.1.2.2 i hi, hpi, hz.2])
        · rw [if_neg (fun z => hfar ((nI_ltI (by omega) (by omega)).mp z)), if_pos rfl]
          refine next r b e β1 hr hE (Upd_none (fun z hz => hfar ?_))
          have := (hz.1.1.2.2.1 k (by omega)).1
          rw [htp z hz.1, hz.2] at this
          exact this
    show ∃ r' b' e' β', f_X4_goOn_e (f_X4_goOn fl) (tS S r b e) q (nI k) (nI G) P _ _ = _ ∧ _
    unfold f_X4_goOn_e
    rw [hP, e3, e4, e5, eq, h8, pk_mul, pk_sub (show k ≤ n by omega), pk_mul, nI_add, nI_add, show B + tsm sp p k - m * tds D c p k + m * tds D c p k + (n - k) * gs = B + tsm sp p k + (n - k) * gs by omega]
    by_cases hg : goal ≤ B + tsm sp p k + (n - k) * gs
    · rw [if_pos ((nI_leI (by omega) (by omega)).mpr hg), if_neg (fun z => by have := (nI_leI (by omega) (by omega)).mp z; omega), L_6, if_pos ((nI_ltI (by omega) (by omega)).mpr (by omega))]
      exact loop nv 0 zN r b e β (by omega) (by have := zN_big; omega) hr hE (Upd_none (fun z hz => by have := hz.2; omega))
    · rw [if_neg (fun z => hg ((nI_leI (by omega) (by omega)).mp z))]
      refine ⟨r, b, e, β, rfl, hr, hE, Upd_none (fun z hz => hg ?_)⟩
      have h1 := hz.1.2.2.2
      have h2 := tsm_up (sp := sp) (gs := gs) (x := z) (k := k) (n - k) (fun i hi => hsp _ (hz.1.1 i (by omega)))
      rw [show k + (n - k) = n by omega, tsm_congr (fun i hi => hz.2.2 i hi) k (Nat.le_refl _)] at h2
      omega
end TOURC
