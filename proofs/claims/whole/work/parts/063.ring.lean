/-! rings of tallies -/
def nx (n i : Nat) : Nat := if i + 1 < n then i + 1 else 0
def ringV (nv : Nat) (O : Nat → Nat → Nat) (n : Nat) (x : Nat → Nat) : Prop := (∀ i, i < n → x i < nv) ∧ (∀ i, i < n → x 0 ≤ x i) ∧ (∀ i j, i < j → j < n → x i ≠ x j) ∧ (∀ i, i < n → O (x i) (x (nx n i)) ≠ 0)
def ringOut (S : zS) (nv : Nat) (O : Nat → Nat → Nat) (n k : Nat) (p : Nat → Nat) (R : Option (Int32 × zS)) : Prop := ∃ g' : Nat → Int32,
  (R = some (1, zr S 16 g') ∧ ∃ x : Nat → Nat, (∀ i, i < k → x i = p i) ∧ (∀ i, i < n → g' i = nI (x i)) ∧ ringV nv O n x ∧ ∀ y, ringV nv O n y → (∀ i, i < k → y i = p i) → ¬ lexlt n y x) ∨
  (R = some (0, zr S 16 g') ∧ (∀ i, i < k → g' i = nI (p i)) ∧ ∀ y, ringV nv O n y → ¬ ∀ i, i < k → y i = p i)
section RING
variable {S : zS} {nv n q : Nat} {O : Nat → Nat → Nat}
theorem ring_debt (hq : 17 ≤ q) (h6 : S.1 q 6 = nI nv) (hn6 : nv ≤ 6) (hO : ∀ a b, a < 6 → b < 6 → S.1 (q + 5) (6 * a + b) = nI (O a b)) (g : Nat → Int32) {a b : Nat} (ha : a < nv) (hb : b < nv) : f_X0_debt (zr S 16 g) q (nI a) (nI b) = some (nI (O a b)) := by
  rw [debt_eq (zr S 16 g) q (nv := nv) (by rw [zr_n (by omega)]; exact h6) hn6 ha hb, zr_n (by omega), hO a b (by omega) (by omega)]
theorem nI_le0 {a : Nat} (h : a < 2147483648) : nI a ≤ 0 ↔ a = 0 := by
  have := nI_leI (a := a) (b := 0) h (by omega)
  exact this.trans (by omega)
theorem ringGo (hq : 17 ≤ q) (h6 : S.1 q 6 = nI nv) (hn6 : nv ≤ 6) (h15 : S.1 15 1 = nI n) (hn2 : 2 ≤ n) (hnn : n ≤ nv) (hO : ∀ a b, a < 6 → b < 6 → S.1 (q + 5) (6 * a + b) = nI (O a b)) (hO9 : ∀ a b, a < 6 → b < 6 → O a b ≤ 999) :
    ∀ (m k fuel G : Nat) (g : Nat → Int32) (p : Nat → Nat), k + m = n → 1 ≤ k → m < fuel → (∀ i, i < k → g i = nI (p i)) → (∀ i, i < k → p i < nv) → (∀ i, i < k → p 0 ≤ p i) → (∀ i j, i < j → j < k → p i ≠ p j) → (∀ i, i + 1 < k → O (p i) (p (i + 1)) ≠ 0) → isSet G k p →
      ringOut S nv O n k p (f_X1_goOn fuel (zr S 16 g) q (nI k) (nI G)) := by
  intro m
  induction m with
  | zero =>
    intro k fuel G g p hk h1 hf hg hp1 hp2 hp3 hp4 hG
    obtain ⟨fuel, rfl⟩ : ∃ e, fuel = e + 1 := ⟨fuel - 1, by omega⟩
    have hkn : k = n := by omega
    subst hkn
    have e : f_X1_goOn (fuel + 1) (zr S 16 g) q (nI k) (nI G) = some (if O (p (k - 1)) (p 0) = 0 then 0 else 1, zr S 16 g) := by
      show f_X1_goOn_e (f_X1_goOn fuel) (zr S 16 g) q (nI k) (nI G) = _
      unfold f_X1_goOn_e f_X1_goOn_51
      rw [L_1, if_neg (fun z => by have := (nI_ltI (by omega) (by omega)).mp z; omega), show (zr S 16 g).1 15 1 = nI k from h15, if_neg (fun z => by have := (nI_ltI (by omega) (by omega)).mp z; omega), L_6, if_pos ((nI_leI (by omega) (by omega)).mpr (by omega)), pk_sub (by omega), if_pos (zin_nI (by omega) (by omega)), if_pos rfl, cl (by omega), zr_s, hg (k - 1) (by omega), hg 0 (by omega), ring_debt hq h6 hn6 hO g (hp1 _ (by omega)) (hp1 _ (by omega)), Option.bind_some]
      have := hO9 (p (k - 1)) (p 0) (by have := hp1 (k - 1) (by omega); omega) (by have := hp1 0 (by omega); omega)
      by_cases hz : O (p (k - 1)) (p 0) = 0
      · rw [if_pos ((nI_le0 (by omega)).mpr hz), if_pos hz]
      · rw [if_neg (fun z => hz ((nI_le0 (by omega)).mp z)), if_neg hz]
    rw [e]
    refine ⟨g, ?_⟩
    by_cases hz : O (p (k - 1)) (p 0) = 0
    · rw [if_pos hz]
      refine Or.inr ⟨rfl, hg, fun y hy hyp => ?_⟩
      have := hy.2.2.2 (k - 1) (by omega)
      rw [show nx k (k - 1) = 0 by unfold nx; rw [if_neg (by omega)], hyp _ (by omega), hyp 0 (by omega)] at this
      exact this hz
    · rw [if_neg hz]
      refine Or.inl ⟨rfl, p, fun _ _ => rfl, hg, ⟨hp1, hp2, hp3, fun i hi => ?_⟩, fun y hy hyp => ?_⟩
      · unfold nx
        by_cases hl : i + 1 < k
        · rw [if_pos hl]; exact hp4 i hl
        · rw [if_neg hl, show i = k - 1 by omega]; exact hz
      · rintro ⟨i, hi, -, hlt⟩
        rw [hyp i hi] at hlt
        omega
  | succ m ih =>
    intro k fuel G g p hk h1 hf hg hp1 hp2 hp3 hp4 hG
    obtain ⟨fuel, rfl⟩ : ∃ e, fuel = e + 1 := ⟨fuel - 1, by omega⟩
    have hp0 := hp1 0 (by omega)
    have loop : ∀ (t w fl : Nat) (g : Nat → Int32), w + t = nv → t < fl → p 0 < w → (∀ i, i < k → g i = nI (p i)) → (∀ y, ringV nv O n y → (∀ i, i < k → y i = p i) → w ≤ y k) → ringOut S nv O n k p (f_X1_goOn_82 (f_X1_goOn fuel) q fl (zr S 16 g) (nI k) (nI G) (nI (p (k - 1))) (nI w)) := by
      intro t
      induction t with
      | zero =>
        intro w fl g hw hfl hw0 hg hinv
        obtain ⟨fl, rfl⟩ : ∃ e, fl = e + 1 := ⟨fl - 1, by omega⟩
        rw [f_X1_goOn_82, show (zr S 16 g).1 q 6 = nI nv by rw [zr_n (by omega)]; exact h6, if_pos ((nI_leI (by omega) (by omega)).mpr (by omega))]
        refine ⟨g, Or.inr ⟨rfl, hg, fun y hy hyp => ?_⟩⟩
        have := hinv y hy hyp
        have := hy.1 k (by omega)
        omega
      | succ t iht =>
        intro w fl g hw hfl hw0 hg hinv
        obtain ⟨fl, rfl⟩ : ∃ e, fl = e + 1 := ⟨fl - 1, by omega⟩
        have next : ∀ g2 : Nat → Int32, (∀ i, i < k → g2 i = nI (p i)) → (∀ y, ringV nv O n y → (∀ i, i < k → y i = p i) → y k ≠ w) → ringOut S nv O n k p (f_X1_goOn_138 (f_X1_goOn fuel) (f_X1_goOn_82 (f_X1_goOn fuel) q fl) q (zr S 16 g2) (nI k) (nI G) (nI (p (k - 1))) (nI w)) := by
          intro g2 hg2 hne
          unfold f_X1_goOn_138
          rw [nI_1]
          refine iht (w + 1) fl g2 (by omega) (by omega) (by omega) hg2 (fun y hy hyp => ?_)
          have := hinv y hy hyp
          have := hne y hy hyp
          omega
        have hb2 : G / 2 ^ w % 2 < 2 := Nat.mod_lt _ (by omega)
        rw [f_X1_goOn_82, show (zr S 16 g).1 q 6 = nI nv by rw [zr_n (by omega)]; exact h6, if_neg (fun z => by have := (nI_leI (by omega) (by omega)).mp z; omega), bit_all G hG.1 w (by omega)]
        rcases (show G / 2 ^ w % 2 = 0 ∨ G / 2 ^ w % 2 = 1 by omega) with hb | hb
        · rw [hb, if_pos (show nI 0 = 0 from rfl), ring_debt hq h6 hn6 hO g (hp1 (k - 1) (by omega)) (show w < nv by omega), Option.bind_some]
          have hO1 := hO9 (p (k - 1)) w (by have := hp1 (k - 1) (by omega); omega) (by omega)
          by_cases hz : O (p (k - 1)) w = 0
          · rw [if_pos ((nI_le0 (by omega)).mpr hz)]
            refine next g hg (fun y hy hyp hyk => ?_)
            have := hy.2.2.2 (k - 1) (by omega)
            rw [show nx n (k - 1) = k by unfold nx; rw [if_pos (by omega)]; omega, hyp _ (by omega), hyk] at this
            exact this hz
          · rw [if_neg (fun z => hz ((nI_le0 (by omega)).mp z)), if_pos (zin_nI (by omega) (by omega)), cl (by omega), zr_zr, zr_s, nI_1, or_all G hG.1 w (by omega)]
            have hnew : ∀ i, i < k → p i ≠ w := fun i hi he => by
              have := (hG.2 w (by omega)).mpr ⟨i, hi, he⟩
              omega
            have hP : ∀ i, i < k → (fun i => if i = k then w else p i) i = p i := fun i hi => if_neg (by omega)
            have hPk : (fun i => if i = k then w else p i) k = w := if_pos rfl
            have h0k : (if 0 = k then w else p 0) = p 0 := if_neg (by omega)
            have res := ih (k + 1) fuel (G ||| 2 ^ w) (upd g k (nI w)) (fun i => if i = k then w else p i) (by omega) (by omega) (by omega) (fun i hi => by
                by_cases hik : i = k
                · subst hik; rw [upd_s]; exact congrArg nI hPk.symm
                · rw [upd_n hik, hg i (by omega)]; exact congrArg nI (hP i (by omega)).symm) (fun i hi => by
                by_cases hik : i = k
                · rw [hik]; show (if k = k then w else p k) < nv; rw [if_pos rfl]; omega
                · show (if i = k then w else p i) < nv; rw [if_neg hik]; exact hp1 i (by omega)) (fun i hi => by
                show (if 0 = k then w else p 0) ≤ (if i = k then w else p i)
                rw [h0k]
                by_cases hik : i = k
                · rw [if_pos hik]; omega
                · rw [if_neg hik]; exact hp2 i (by omega)) (fun i j hij hj => by
                show (if i = k then w else p i) ≠ (if j = k then w else p j)
                rw [if_neg (show ¬ i = k by omega)]
                by_cases hjk : j = k
                · rw [if_pos hjk]; exact hnew i (by omega)
                · rw [if_neg hjk]; exact hp3 i j hij (by omega)) (fun i hi => by
                show O (if i = k then w else p i) (if i + 1 = k then w else p (i + 1)) ≠ 0
                rw [if_neg (show ¬ i = k by omega)]
                by_cases hik : i + 1 = k
                · rw [if_pos hik, show i = k - 1 by omega]; exact hz
                · rw [if_neg hik]; exact hp4 i (by omega)) (isSet_add (isSet_congr hG hP) (by omega) hPk)
            have hpre : ∀ y : Nat → Nat, (∀ i, i < k → y i = p i) → y k = w → ∀ i, i < k + 1 → y i = (fun i => if i = k then w else p i) i := fun y hy hyk i hi => by
              show y i = (if i = k then w else p i)
              by_cases hik : i = k
              · rw [if_pos hik, hik]; exact hyk
              · rw [if_neg hik]; exact hy i (by omega)
            obtain ⟨g', ⟨hR, x, hx1, hx2, hx3, hx4⟩ | ⟨hR, hg', hno⟩⟩ := res
            · rw [hR, zb2_some, if_neg one_ne]
              refine ⟨g', Or.inl ⟨rfl, x, fun i hi => (hx1 i (by omega)).trans (hP i hi), hx2, hx3, fun y hy hyp => ?_⟩⟩
              rintro ⟨i, hi, hpr, hlt⟩
              have hxk : x k = w := (hx1 k (by omega)).trans hPk
              rcases Nat.lt_trichotomy i k with hik | hik | hik
              · rw [hyp i hik, hx1 i (by omega)] at hlt
                have := hP i hik
                dsimp only at this hlt
                omega
              · subst hik
                have := hinv y hy hyp
                omega
              · exact hx4 y hy (hpre y hyp ((hpr k hik).trans hxk)) ⟨i, hi, hpr, hlt⟩
            · rw [hR, zb2_some, if_pos rfl]
              refine next g' (fun i hi => (hg' i (by omega)).trans (congrArg nI (hP i hi))) (fun y hy hyp hyk => ?_)
              exact hno y hy (hpre y hyp hyk)
        · rw [hb, if_neg (show ¬ nI 1 = 0 by decide)]
          refine next g hg (fun y hy hyp hyk => ?_)
          obtain ⟨i, hi, hpi⟩ := (hG.2 w (by omega)).mp hb
          exact hy.2.2.1 i k hi (by omega) (by rw [hyp i hi, hpi, hyk])
    show ringOut S nv O n k p (f_X1_goOn_e (f_X1_goOn fuel) (zr S 16 g) q (nI k) (nI G))
    unfold f_X1_goOn_e
    rw [L_1, if_neg (fun z => by have := (nI_ltI (by omega) (by omega)).mp z; omega), show (zr S 16 g).1 15 1 = nI n from h15, if_neg (fun z => by have := (nI_ltI (by omega) (by omega)).mp z; omega), L_6, if_pos ((nI_leI (by omega) (by omega)).mpr (by omega)), pk_sub (by omega), if_pos (zin_nI (by omega) (by omega)), if_neg (fun z => by have := (nI_eq (by omega) (by omega)).mp z; omega), if_neg (fun z => by have := (nI_eq (by omega) (by omega)).mp z; omega), cl (by omega), zr_s, hg (k - 1) (by omega), hg 0 (by omega), nI_add]
    refine loop (nv - (p 0 + 1)) (p 0 + 1) zN g (by omega) (by have := zN_big; omega) (by omega) hg (fun y hy hyp => ?_)
    have h2 := hy.2.1 k (by omega)
    have h3 := hy.2.2.1 0 k (by omega) (by omega)
    rw [hyp 0 (by omega)] at h2 h3
    omega
theorem ringFirst (hq : 17 ≤ q) (h6 : S.1 q 6 = nI nv) (hn6 : nv ≤ 6) (h15 : S.1 15 1 = nI n) (hn2 : 2 ≤ n) (hnn : n ≤ nv) (hO : ∀ a b, a < 6 → b < 6 → S.1 (q + 5) (6 * a + b) = nI (O a b)) (hO9 : ∀ a b, a < 6 → b < 6 → O a b ≤ 999) (k2 : zS → Int32 → Option (Int32 × zS)) :
    ∀ (t w fl : Nat) (g : Nat → Int32), w + t = nv → t < fl → (∀ y, ringV nv O n y → w ≤ y 0) →
      ∃ g' : Nat → Int32, (f_X1_find_17 k2 q fl (zr S 16 g) (nI n) (nI w) = some (1, zr S 16 g') ∧ ∃ x : Nat → Nat, (∀ i, i < n → g' i = nI (x i)) ∧ ringV nv O n x ∧ ∀ y, ringV nv O n y → ¬ lexlt n y x) ∨
        (f_X1_find_17 k2 q fl (zr S 16 g) (nI n) (nI w) = k2 (zr S 16 g') (nI (n + 1)) ∧ ∀ y, ¬ ringV nv O n y) := by
  intro t
  induction t with
  | zero =>
    intro w fl g hw hfl hinv
    obtain ⟨fl, rfl⟩ : ∃ e, fl = e + 1 := ⟨fl - 1, by omega⟩
    refine ⟨g, Or.inr ⟨?_, fun y hy => ?_⟩⟩
    · rw [f_X1_find_17, show (zr S 16 g).1 q 6 = nI nv by rw [zr_n (by omega)]; exact h6, if_pos ((nI_leI (by omega) (by omega)).mpr (by omega)), nI_1]
    · have := hinv y hy
      have := hy.1 0 (by omega)
      omega
  | succ t iht =>
    intro w fl g hw hfl hinv
    obtain ⟨fl, rfl⟩ : ∃ e, fl = e + 1 := ⟨fl - 1, by omega⟩
    rw [f_X1_find_17, show (zr S 16 g).1 q 6 = nI nv by rw [zr_n (by omega)]; exact h6, if_neg (fun z => by have := (nI_leI (by omega) (by omega)).mp z; omega), zr_zr, zr_s, shl_all w (by omega), nI_1]
    have res := ringGo hq h6 hn6 h15 hn2 hnn hO hO9 (n - 1) 1 10 (2 ^ w) (upd g 0 (nI w)) (fun _ => w) (by omega) (by omega) (by omega) (fun i hi => by rw [show i = 0 by omega, upd_s]) (fun i hi => by show w < nv; omega) (fun i hi => Nat.le_refl _) (fun i j hij hj => by omega) (fun i hi => by omega) ⟨pow_lt w (by omega), fun v hv => by
      rw [pow_bit w (by omega) v hv]
      constructor
      · intro h; exact ⟨0, by omega, h.symm⟩
      · rintro ⟨i, _, h⟩; exact h.symm⟩
    rw [← L_1] at res
    obtain ⟨g', ⟨hR, x, hx1, hx2, hx3, hx4⟩ | ⟨hR, hg', hno⟩⟩ := res
    · rw [hR, zb2_some, if_neg one_ne]
      refine ⟨g', Or.inl ⟨rfl, x, hx2, hx3, fun y hy hlex => ?_⟩⟩
      obtain ⟨i, hi, hpr, hlt⟩ := id hlex
      have hx0 : x 0 = w := hx1 0 (by omega)
      have hy0 := hinv y hy
      by_cases hi0 : i = 0
      · subst hi0; omega
      · exact hx4 y hy (fun j hj => by rw [show j = 0 by omega]; exact (hpr 0 (by omega)).trans hx0) hlex
    · rw [hR, zb2_some, if_pos rfl]
      refine iht (w + 1) fl g' (by omega) (by omega) (fun y hy => ?_)
      have h0 := hinv y hy
      have h1 : y 0 ≠ w := fun h => hno y hy (fun i hi => by rw [show i = 0 by omega]; exact h)
      omega
end RING
