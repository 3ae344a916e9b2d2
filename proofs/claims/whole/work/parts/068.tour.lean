/-! tours: both alike -/
section TOUR2
variable {S : zS} {nv c B m goal n gs q : Nat} {D : Nat → Nat → Nat} {sp : Nat → Nat}
theorem zu_zu_comm (S : zS) (k : Nat) {i j : Nat} (h : i ≠ j) (a b : Int32) : zu (zu S k i a) k j b = zu (zu S k j b) k i a := by
  simp only [zu_zr, zr_zr, zr_s]
  rw [upd_comm _ h]
theorem tS_eta (S : zS) (e : Int32) : tS S (S.1 13) (S.1 14) e = zu S 11 6 e := by
  unfold tS
  rw [zr_eta, zr_eta]
theorem tS_len (S : zS) (r b : Nat → Int32) (e x y : Int32) : zu (tS (zu S 11 3 x) r b e) 11 3 y = tS (zu S 11 3 y) r b e := by
  refine zS_ext (fun k => ?_) rfl
  unfold tS
  by_cases h1 : k = 11
  · subst h1
    funext j
    simp only [zu_s, zr_n (show (11 : Nat) ≠ 13 by decide), zr_n (show (11 : Nat) ≠ 14 by decide)]
    unfold upd
    (repeat' split) <;> first | rfl | omega
  · rw [zu_n h1, zu_n h1, zu_n h1]
    by_cases h2 : k = 14
    · subst h2; rw [zr_s, zr_s]
    · rw [zr_n h2, zr_n h2]
      by_cases h3 : k = 13
      · subst h3; rw [zr_s, zr_s]
      · rw [zr_n h3, zr_n h3, zu_n h1, zu_n h1]
def tG (nv : Nat) (D : Nat → Nat → Nat) (sp : Nat → Nat) (c B m goal n : Nat) (y : Nat → Nat) : Prop := Feas nv D sp c B m goal n y ∧ ∀ i, i < n → 0 < sp (y i)
theorem tourFind (hq : 17 ≤ q) (h6 : S.1 q 6 = nI nv) (h8 : S.1 q 8 = nI m) (hn6 : nv ≤ 6) (h4 : S.1 11 4 = nI goal) (h5 : S.1 11 5 = nI gs) (h12 : ∀ v, v < nv → S.1 12 v = nI (sp v)) (hsp : ∀ v, v < nv → sp v ≤ gs) (hgs : gs ≤ 60) (hDD : ∀ a b, a < 6 → b < 6 → D a b ≤ 1000 ∧ S.1 (q + 4) (6 * a + b) = nI (D a b)) (hc : 0 < nv → c < nv) (hB : B ≤ 999) (hgoal : goal ≤ 600) (hm9 : m ≤ 9) {P : Int32} (hP : 0 < nv → P = nI c) :
    ∀ (t n fl : Nat) (L0 : Int32) (r b : Nat → Int32), n + t = 7 → t < fl → (∀ n', n' < n → ∀ y, ¬ tG nv D sp c B m goal n' y) →
      ∃ (r' b' : Nat → Int32), (∃ n1 y, n1 ≤ nv ∧ f_X4_find_79 q fl (tS (zu S 11 3 L0) r b (-9)) P (nI B) (nI n) = some (1, tS (zu S 11 3 (nI n1)) r' b' (nI (tds D c y n1))) ∧ (∀ i, i < n1 → b' i = nI (y i)) ∧ Upd D c n1 (tG nv D sp c B m goal n1) none (some y) ∧ ∀ n', n' < n1 → ∀ y, ¬ tG nv D sp c B m goal n' y) ∨
        (∃ L, f_X4_find_79 q fl (tS (zu S 11 3 L0) r b (-9)) P (nI B) (nI n) = some (0, tS (zu S 11 3 L) r' b' (-9)) ∧ ∀ n', n' ≤ nv → ∀ y, ¬ tG nv D sp c B m goal n' y) := by
  have eq : ∀ (x : Int32) r b e, (tS (zu S 11 3 x) r b e).1 q 6 = nI nv := fun x r b e => by rw [tS_n (by omega) (by omega) (by omega), zu_n (by omega)]; exact h6
  intro t
  induction t with
  | zero =>
    intro n fl L0 r b h1 h2 hno
    obtain ⟨fl, rfl⟩ : ∃ e, fl = e + 1 := ⟨fl - 1, by omega⟩
    refine ⟨r, b, Or.inr ⟨L0, ?_, fun n' h => hno n' (by omega)⟩⟩
    rw [f_X4_find_79, eq, if_pos ((nI_ltI (by omega) (by omega)).mpr (by omega))]
  | succ t iht =>
    intro n fl L0 r b h1 h2 hno
    obtain ⟨fl, rfl⟩ : ∃ e, fl = e + 1 := ⟨fl - 1, by omega⟩
    rw [f_X4_find_79, eq]
    by_cases hlt : nv < n
    · refine ⟨r, b, Or.inr ⟨L0, ?_, fun n' h => hno n' (by omega)⟩⟩
      rw [if_pos ((nI_ltI (by omega) (by omega)).mpr hlt)]
    · rw [if_neg (fun z => hlt ((nI_ltI (by omega) (by omega)).mp z)), tS_len]
      obtain ⟨r', b', e', β', q1, q2, q3, q4⟩ := tourGo (S := zu S 11 3 (nI n)) (n := n) (nv := nv) (D := D) (sp := sp) (c := c) (B := B) (m := m) (goal := goal) (gs := gs) hq (by rw [zu_n (by omega)]; exact h6) (by rw [zu_n (by omega)]; exact h8) hn6 (by rw [zu_s, upd_s]) (by rw [zu_s, upd_n (by decide)]; exact h4) (by rw [zu_s, upd_n (by decide)]; exact h5) (fun v hv => by rw [zu_n (by decide)]; exact h12 v hv) hsp hgs (fun a b ha hb => by rw [zu_n (by omega)]; exact hDD a b ha hb) hc hB hgoal hm9 (by omega) n 0 10 0 r b (-9) P none (fun _ => 0) (by omega) (by omega) (fun i hi => by omega) (isSet_0 _) (fun h => by rw [hP h]; rfl) (fun i hi => by omega) (fun i j hij hj => by omega) (fun i hi => by omega) (by show m * 0 ≤ _; omega) (Nat.le_refl _) (Or.inl ⟨rfl, rfl⟩) (fun y hy => (nomatch hy))
      have hRR : ∀ z, tR nv D sp c B m goal n 0 (fun _ => 0) z ↔ tG nv D sp c B m goal n z := fun z => ⟨fun h => ⟨h.1, h.2.1⟩, fun h => ⟨h.1, h.2, fun i hi => by omega⟩⟩
      have q4 := Upd_congr q4 hRR
      have ez : nI (B + tsm sp (fun _ => 0) 0 - m * tds D c (fun _ => 0) 0) = nI B := by show nI (B + 0 - m * 0) = nI B; congr 1
      rw [ez] at q1
      have q1 : f_X4_goOn 10 (tS (zu S 11 3 (nI n)) r b (-9)) q (0 : Int32) (0 : Int32) P (nI B) (0 : Int32) = some (tS (zu S 11 3 (nI n)) r' b' e') := q1
      have e6 : (tS (zu S 11 3 (nI n)) r' b' e').1 11 6 = e' := by unfold tS; rw [zu_s, upd_s]
      rw [q1, Option.bind_some, e6]
      rcases q3 with ⟨rfl, rfl⟩ | ⟨y, rfl, rfl, hy, hby⟩
      · rw [if_pos rfl, nI_1]
        have hnone : ∀ y, ¬ tG nv D sp c B m goal n y := fun y hy => by
          rcases q4 with ⟨-, h⟩ | ⟨z, h, -⟩
          · obtain ⟨w, hw, -⟩ := h y hy; cases hw
          · cases h
        exact iht (n + 1) fl (nI n) r' b' (by omega) (by omega) (fun n' hn' y hy => by
          by_cases he : n' = n
          · subst he; exact hnone y hy
          · exact hno n' (by omega) y hy)
      · rw [if_neg (nI_ne_m9 (by omega))]
        exact ⟨r', b', Or.inl ⟨n, y, by omega, rfl, hby, q4, hno⟩⟩
theorem tourFill (s : Nat → Nat) (hs : ∀ j, j < 6 → s j ≤ 60 ∧ S.1 10 j = nI (s j)) (a3 a4 a5 a6 : Int32) :
    ∀ (t i fl gs : Nat) (g : Nat → Int32), i + t = 6 → t < fl → gs ≤ 60 → (∀ j, j < i → g j = nI (s j) ∧ s j ≤ gs) →
      ∃ (gs' : Nat) (g' : Nat → Int32) (L : Int32), f_X4_find_8 q fl (zu (zr S 12 g) 11 5 (nI gs)) a3 a4 a5 a6 (nI i) = f_X4_find_79 q zN (zu (zu (zu (zu (zr S 12 g') 11 5 (nI gs')) 11 4 a6) 11 6 (-9 : Int32)) 11 3 L) a4 a5 a3 ∧ gs' ≤ 60 ∧ ∀ j, j < 6 → g' j = nI (s j) ∧ s j ≤ gs' := by
  intro t
  induction t with
  | zero =>
    intro i fl gs g h1 h2 h3 h4
    obtain ⟨fl, rfl⟩ : ∃ e, fl = e + 1 := ⟨fl - 1, by omega⟩
    refine ⟨gs, g, (zu (zu (zu (zr S 12 g) 11 5 (nI gs)) 11 4 a6) 11 6 (-9 : Int32)).1 11 3, ?_, h3, fun j hj => h4 j (by omega)⟩
    rw [zu_eta (zu (zu (zu (zr S 12 g) 11 5 (nI gs)) 11 4 a6) 11 6 (-9 : Int32)) 11 3, f_X4_find_8, L_6, if_pos ((nI_leI (by omega) (by omega)).mpr (by omega))]
  | succ t iht =>
    intro i fl gs g h1 h2 h3 h4
    obtain ⟨fl, rfl⟩ : ∃ e, fl = e + 1 := ⟨fl - 1, by omega⟩
    have hs1 := hs i (by omega)
    have e10 : (zu (zr S 12 g) 11 5 (nI gs)).1 10 i = nI (s i) := by rw [zu_n (by decide), zr_n (by decide)]; exact hs1.2
    have e12 : (zu (zr S 12 g) 11 5 (nI gs)).1 12 = g := by rw [zu_n (by decide), zr_s]
    have est : ∀ x, zu (zr (zu (zr S 12 g) 11 5 (nI gs)) 12 (upd g i (nI (s i)))) 11 5 x = zu (zr S 12 (upd g i (nI (s i)))) 11 5 x := fun x => by
      simp only [zu_zr]
      rw [zr_comm (zr S 12 g) (show (11 : Nat) ≠ 12 by decide), zr_zr, zr_zr, zr_s]
      congr 1
      funext j
      show upd (upd (S.1 11) 5 (nI gs)) 5 x j = upd (S.1 11) 5 x j
      unfold upd
      split <;> rfl
    rw [f_X4_find_8, L_6, if_neg (fun z => by have := (nI_leI (by omega) (by omega)).mp z; omega), if_neg (fun z => by have := (nI_leI (by omega) (by omega)).mp z; omega), if_pos (zin_nI (by omega) (by omega)), if_pos (zin_nI (by omega) (by omega))]
    unfold f_X4_find_40
    rw [if_pos (zin_nI (by omega) (by omega)), cl (by omega), e10, e12, zr_s, upd_s, est, nI_1, zr_n (show (11 : Nat) ≠ 12 by decide), zu_s, upd_s]
    have hmax : (if nI gs < nI (s i) then nI (s i) else nI gs) = nI (max gs (s i)) := by
      by_cases h : gs < s i
      · rw [if_pos ((nI_ltI (by omega) (by omega)).mpr h)]; congr 1; omega
      · rw [if_neg (fun z => h ((nI_ltI (by omega) (by omega)).mp z))]; congr 1; omega
    rw [hmax]
    refine iht (i + 1) fl (max gs (s i)) (upd g i (nI (s i))) (by omega) (by omega) (by omega) (fun j hj => ?_)
    by_cases hji : j = i
    · subst hji; rw [upd_s]; exact ⟨rfl, by omega⟩
    · rw [upd_n hji]; have := h4 j (by omega); exact ⟨this.1, by omega⟩
theorem noFeas (hD : zFar D) (hn6 : nv ≤ 6) (hc : 0 < nv → c < nv) {N : Nat} (h : ∀ n', n' < N → ∀ y, ¬ tG nv D sp c B m goal n' y) : ∀ n', n' < N → ∀ y, ¬ Feas nv D sp c B m goal n' y := by
  intro n'
  induction n' with
  | zero => intro hn y hy; exact h 0 hn y ⟨hy, fun i hi => by omega⟩
  | succ n' ih =>
    intro hn y hy
    by_cases hall : ∀ i, i < n' + 1 → 0 < sp (y i)
    · exact h (n' + 1) hn y ⟨hy, hall⟩
    · obtain ⟨j, hj⟩ := Classical.not_forall.mp hall
      have hj1 : j < n' + 1 := Classical.byContradiction fun z => hj (fun q => absurd q z)
      have hj2 : sp (y j) = 0 := by
        rcases Nat.eq_zero_or_pos (sp (y j)) with q | q
        · exact q
        · exact absurd (fun _ => q) hj
      exact ih (by omega) _ (Feas_cut hD hn6 hc hy hj1 hj2)
theorem Feas_all (hD : zFar D) (hn6 : nv ≤ 6) (hc : 0 < nv → c < nv) (h : ∀ n', n' < n → ∀ y, ¬ Feas nv D sp c B m goal n' y) {y : Nat → Nat} (hy : Feas nv D sp c B m goal n y) : tG nv D sp c B m goal n y := by
  refine ⟨hy, fun i hi => ?_⟩
  rcases Nat.eq_zero_or_pos (sp (y i)) with q | q
  · obtain ⟨n, rfl⟩ : ∃ e, n = e + 1 := ⟨n - 1, by omega⟩
    exact absurd (Feas_cut hD hn6 hc hy hi q) (h n (by omega) _)
  · exact q
theorem need_lt {t g B : Nat} (ht : t < 100000) (hg : g < 100000) (hB : B < 100000) : nI t < nI g - nI B ↔ t + B < g := by
  rw [i_lt, i_sub (by rw [nI_i (by omega), nI_i (by omega)]; omega) (by rw [nI_i (by omega), nI_i (by omega)]; omega), nI_i (by omega), nI_i (by omega), nI_i (by omega)]
  omega
theorem Inv_tS (hI : InvN nv S) (g : Nat → Int32) (A b l : Int32) (r1 r2 : Nat → Int32) (e : Int32) : InvN nv (tS (zu (zu (zu (zr S 12 g) 11 5 A) 11 4 b) 11 3 l) r1 r2 e) := by
  obtain ⟨M, T, bt, bd⟩ := S
  cases bt <;> exact hI
theorem fS_start (S : zS) : zu S 31 22 (-9) = fS S (S.1 43) (-9) (S.1 31 21) (S.1 31 20) := by
  unfold fS
  rw [zr_eta]
  refine zS_ext (fun k => ?_) rfl
  by_cases h1 : k = 31
  · subst h1
    funext j
    simp only [zu_s]
    unfold upd
    (repeat' split) <;> first | rfl | omega | (subst_vars; rfl)
  · rw [zu_n h1, zu_n h1, zu_n h1, zu_n h1]
end TOUR2
