section LANDOK
variable {S T S' T' X : zS} {nv nd n r : Nat} {W : Nat → Nat → Nat}
theorem nI0 : (0 : Int32) = nI 0 := rfl
theorem Inv_new (hDR : DR r nd S' T') (hW : zWay nd W) (x1 : X.2.2.2 = !X.2.2.1) (x2 : lr X.2.2.1 = r) (x3 : X.2.1 0 = X.2.1 1)
    (c0 : ∀ j, X.1 r j = S'.1 r j) (c2 : ∀ j, X.1 (r + 2) j = S'.1 (r + 2) j) (c3 : ∀ j, X.1 (r + 3) j = S'.1 (r + 3) j) (c5 : ∀ j, X.1 (r + 5) j = S'.1 (r + 5) j) (c4 : ∀ a b, a < 6 → b < 6 → X.1 (r + 4) (6 * a + b) = nI (fwn W 6 a b)) (c11 : X.1 1 1 = 0) (c31 : X.1 3 1 = 0) (c08 : X.1 0 8 = 0)
    (cm : ∀ j, j < 28 → X.1 4 j = (if j = 0 then (if nd = 0 then -9 else 0) else if j = 2 then S'.1 r 10 else if 4 ≤ j ∧ j < 4 + nd then S'.1 (r + 1) (j - 4) else 0))
    (r33 : X.1 33 0 = nI nd) (r37 : X.1 37 0 = T'.1 37 1) (r40 : ∀ j, j < 3 → X.1 40 j = T'.1 40 (3 + j)) (r35 : ∀ v, v < 6 → X.1 35 v = T'.1 35 (6 + v) ∧ X.1 36 v = T'.1 36 (6 + v)) (r39 : ∀ v, v < 36 → X.1 39 v = T'.1 39 (36 + v)) (r38 : ∀ a b, a < 6 → b < 6 → X.1 38 (6 * a + b) = nI (fwn W 6 a b)) (r420 : X.1 42 0 = 0) (r421 : X.1 42 1 = 0) (r28 : X.1 41 28 = 0) (r312 : X.1 31 2 = 0)
    (rm : ∀ j, j < 28 → X.1 41 j = (if j = 0 then (if nd = 0 then -9 else 0) else if j = 2 then T'.1 40 5 else if 4 ≤ j ∧ j < 4 + nd then T'.1 34 (j - 4) else 0)) : InvN nd X := by
  obtain ⟨hn, ⟨d6, d33, dv⟩, ⟨rd, -, hrd, e7, e37⟩, ⟨m, hm1, hm9, e8, e3⟩, ⟨w, -, hw, e9, e4⟩, ⟨b, -, hb, e10, e5⟩, -, -, ⟨O, hO⟩⟩ := hDR
  have mom : zMom nd (X.1 41) := by
    refine ⟨?_, ⟨0, by omega, ?_⟩, ⟨b, by omega, ?_⟩, ⟨0, by omega, ?_⟩, fun v hv => ?_⟩
    · rw [rm 0 (by omega), if_pos rfl]
      by_cases hz : nd = 0
      · rw [if_pos hz]; exact Or.inr ⟨hz, rfl⟩
      · rw [if_neg hz]; exact Or.inl ⟨0, by omega, rfl⟩
    · rw [rm 1 (by omega), if_neg (by omega), if_neg (by omega), if_neg (by omega)]; rfl
    · rw [rm 2 (by omega), if_neg (by omega), if_pos rfl]; exact e5
    · rw [rm 3 (by omega), if_neg (by omega), if_neg (by omega), if_neg (by omega)]; rfl
    · have h10 : X.1 41 (10 + v) = 0 := by rw [rm (10 + v) (by omega), if_neg (by omega), if_neg (by omega), if_neg (by omega)]
      rw [h10, rm (4 + v) (by omega), if_neg (by omega), if_neg (by omega)]
      by_cases hvn : v < nd
      · obtain ⟨x, hx, -, h34⟩ := (dv v hvn).1
        rw [if_pos (by omega), show 4 + v - 4 = v by omega]
        exact ⟨x, 0, by omega, h34, rfl⟩
      · rw [if_neg (by omega)]; exact ⟨0, 0, by omega, rfl, rfl⟩
  unfold InvN
  rw [x2]
  refine ⟨x1, x3, ⟨0, by omega, c11, r312, fun j hj => by omega⟩, ⟨hn, ?_, r33, ?_, ⟨m, hm1, hm9, ?_, ?_⟩, ⟨w, hw, ?_, ?_⟩, fun v hv => ?_, fun v hv => ?_, fun k hk => ?_, fun k hk => ?_, ⟨fwn W 6, fw_far hW, r38⟩, ⟨O, fun a b ha hb => ⟨(hO a b ha hb).1, ?_⟩⟩⟩, ⟨0, c31, ⟨by omega, r28, fun j hj => ?_, fun i j hi => by omega⟩, mom, fun i hi => by omega⟩, false, false, c08, r420, r421, (fun h => by cases h), (fun h => by cases h)⟩
  · rw [c0]; exact d6
  · rw [c0, r37, e7, e37]
  · rw [c0]; exact e8
  · rw [r40 0 (by omega)]; exact e3
  · rw [c0]; exact e9
  · rw [r40 1 (by omega)]; exact e4
  · obtain ⟨x, hx, h1, h2⟩ := (dv v hv).2.1
    rw [c2, (r35 v (by omega)).1, h1, h2]; exact ⟨rfl, x, hx, rfl⟩
  · obtain ⟨x, hx, h1, h2⟩ := (dv v hv).2.2
    rw [c3, (r35 v (by omega)).2, h1, h2]
    refine ⟨rfl, ?_⟩
    rcases (show x = 0 ∨ x = 1 by omega) with q | q
    · subst q; exact Or.inl rfl
    · subst q; exact Or.inr rfl
  · have := c4 (k / 6) (k % 6) (by omega) (by omega)
    have h2 := r38 (k / 6) (k % 6) (by omega) (by omega)
    rw [show 6 * (k / 6) + k % 6 = k by omega] at this h2
    rw [this, h2]
  · have := (hO (k / 6) (k % 6) (by omega) (by omega)).2
    rw [show 6 * (k / 6) + k % 6 = k by omega] at this
    rw [c5, r39 k hk, this.1, this.2]
  · rw [r39 _ (by omega)]; exact (hO a b ha hb).2.2
  · rw [cm j hj, rm j hj, e10, e5]
    by_cases h0 : j = 0
    · rw [if_pos h0, if_pos h0]
    · rw [if_neg h0, if_neg h0]
      by_cases h2 : j = 2
      · rw [if_pos h2, if_pos h2]
      · rw [if_neg h2, if_neg h2]
        by_cases h4 : 4 ≤ j ∧ j < 4 + nd
        · obtain ⟨x, hx, q1, q2⟩ := (dv (j - 4) (by omega)).1
          rw [if_pos h4, if_pos h4, q1, q2]
        · rw [if_neg h4, if_neg h4]
end LANDOK
