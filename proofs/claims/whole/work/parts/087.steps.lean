/-! the law: every step alike -/
section LAW
variable {S : zS} {len : Nat} {xs : Nat → Int32} {k18 : zS → Int32 → Option (Int32 × zS)} {a3 : Int32}
def Step (k18 : zS → Int32 → Option (Int32 × zS)) (a3 : Int32) (R : Option (Int32 × zS)) : Prop := ∃ S', R = k18 S' (a3 + 4) ∧ Inv S'
theorem s_type (hI : Inv S) (h1 : zin (a3 + (1 : Int32)) len) : Step k18 a3 (f_law_160 k18 len xs S a3) := by
  obtain ⟨nv, hI⟩ := hI
  obtain ⟨x, S1, S2, e1, e2, hI2⟩ := type_ok hI (xs ((a3 + (1 : Int32))).toNatClampNeg)
  unfold f_law_160 f_law_905
  rw [if_pos h1, e1, zb2_some]
  refine ⟨S2, ?_, ⟨nv, hI2⟩⟩
  rw [if_pos h1, show f_X6_type S1 (xs ((a3 + (1 : Int32))).toNatClampNeg) = some (x, S2) from e2, zb2_some, if_pos rfl]
theorem s_clear (hI : Inv S)  : Step k18 a3 (f_law_183 k18 len xs S a3) := by
  obtain ⟨nv, hI⟩ := hI
  obtain ⟨x, S1, S2, e1, e2, hI2⟩ := clear_ok hI 
  unfold f_law_183 f_law_905
  rw [e1, zb2_some]
  refine ⟨S2, ?_, ⟨nv, hI2⟩⟩
  rw [show f_X6_clear S1  = some (x, S2) from e2, zb2_some, if_pos rfl]
theorem s_land (hI : Inv S)  : Step k18 a3 (f_law_196 k18 len xs S a3) := by
  obtain ⟨nv, hI⟩ := hI
  obtain ⟨x, S1, S2, e1, e2, hI2⟩ := land_ok hI 
  unfold f_law_196 f_law_905
  rw [e1, zb2_some]
  refine ⟨S2, ?_, hI2⟩
  rw [show f_X6_land S1  = some (x, S2) from e2, zb2_some, if_pos rfl]
theorem s_goes (hI : Inv S) (h1 : zin (a3 + (1 : Int32)) len) : Step k18 a3 (f_law_308 k18 len xs S a3) := by
  obtain ⟨nv, hI⟩ := hI
  obtain ⟨x, S1, S2, e1, e2, hI2⟩ := goes_ok hI (xs ((a3 + (1 : Int32))).toNatClampNeg)
  unfold f_law_308 f_law_905
  rw [if_pos h1, e1, zb2_some]
  refine ⟨S2, ?_, ⟨nv, hI2⟩⟩
  rw [if_pos h1, show f_X6_goes S1 (xs ((a3 + (1 : Int32))).toNatClampNeg) = some (x, S2) from e2, zb2_some, if_pos rfl]
theorem s_stays (hI : Inv S)  : Step k18 a3 (f_law_331 k18 len xs S a3) := by
  obtain ⟨nv, hI⟩ := hI
  obtain ⟨x, S1, S2, e1, e2, hI2⟩ := stays_ok hI 
  unfold f_law_331 f_law_905
  rw [e1, zb2_some]
  refine ⟨S2, ?_, ⟨nv, hI2⟩⟩
  rw [show f_X6_stays S1  = some (x, S2) from e2, zb2_some, if_pos rfl]
theorem s_takes (hI : Inv S) (h1 : zin (a3 + (1 : Int32)) len) : Step k18 a3 (f_law_344 k18 len xs S a3) := by
  obtain ⟨nv, hI⟩ := hI
  obtain ⟨x, S1, S2, e1, e2, hI2⟩ := takes_ok hI (xs ((a3 + (1 : Int32))).toNatClampNeg)
  unfold f_law_344 f_law_905
  rw [if_pos h1, e1, zb2_some]
  refine ⟨S2, ?_, ⟨nv, hI2⟩⟩
  rw [if_pos h1, show f_X6_takes S1 (xs ((a3 + (1 : Int32))).toNatClampNeg) = some (x, S2) from e2, zb2_some, if_pos rfl]
theorem s_hides (hI : Inv S) (h1 : zin (a3 + (1 : Int32)) len) (h2 : zin (a3 + (2 : Int32)) len) : Step k18 a3 (f_law_367 k18 len xs S a3) := by
  obtain ⟨nv, hI⟩ := hI
  obtain ⟨x, S1, S2, e1, e2, hI2⟩ := hides_ok hI (xs ((a3 + (1 : Int32))).toNatClampNeg) (xs ((a3 + (2 : Int32))).toNatClampNeg)
  unfold f_law_367 f_law_905
  rw [if_pos h1, if_pos h2, e1, zb2_some]
  refine ⟨S2, ?_, ⟨nv, hI2⟩⟩
  rw [if_pos h1, if_pos h2, show f_X6_hides S1 (xs ((a3 + (1 : Int32))).toNatClampNeg) (xs ((a3 + (2 : Int32))).toNatClampNeg) = some (x, S2) from e2, zb2_some, if_pos rfl]
theorem s_shows (hI : Inv S) (h1 : zin (a3 + (1 : Int32)) len) (h2 : zin (a3 + (2 : Int32)) len) : Step k18 a3 (f_law_400 k18 len xs S a3) := by
  obtain ⟨nv, hI⟩ := hI
  obtain ⟨x, S1, S2, e1, e2, hI2⟩ := shows_ok hI (xs ((a3 + (1 : Int32))).toNatClampNeg) (xs ((a3 + (2 : Int32))).toNatClampNeg)
  unfold f_law_400 f_law_905
  rw [if_pos h1, if_pos h2, e1, zb2_some]
  refine ⟨S2, ?_, ⟨nv, hI2⟩⟩
  rw [if_pos h1, if_pos h2, show f_X6_shows S1 (xs ((a3 + (1 : Int32))).toNatClampNeg) (xs ((a3 + (2 : Int32))).toNatClampNeg) = some (x, S2) from e2, zb2_some, if_pos rfl]
theorem s_pays (hI : Inv S) (h1 : zin (a3 + (1 : Int32)) len) : Step k18 a3 (f_law_433 k18 len xs S a3) := by
  obtain ⟨nv, hI⟩ := hI
  obtain ⟨x, S1, S2, e1, e2, hI2⟩ := pays_ok hI (xs ((a3 + (1 : Int32))).toNatClampNeg)
  unfold f_law_433 f_law_905
  rw [if_pos h1, e1, zb2_some]
  refine ⟨S2, ?_, ⟨nv, hI2⟩⟩
  rw [if_pos h1, show f_X6_pays S1 (xs ((a3 + (1 : Int32))).toNatClampNeg) = some (x, S2) from e2, zb2_some, if_pos rfl]
theorem s_sells (hI : Inv S) (h1 : zin (a3 + (1 : Int32)) len) (h2 : zin (a3 + (2 : Int32)) len) : Step k18 a3 (f_law_456 k18 len xs S a3) := by
  obtain ⟨nv, hI⟩ := hI
  obtain ⟨x, S1, S2, e1, e2, hI2⟩ := sells_ok hI (xs ((a3 + (1 : Int32))).toNatClampNeg) (xs ((a3 + (2 : Int32))).toNatClampNeg)
  unfold f_law_456 f_law_905
  rw [if_pos h1, if_pos h2, e1, zb2_some]
  refine ⟨S2, ?_, ⟨nv, hI2⟩⟩
  rw [if_pos h1, if_pos h2, show f_X6_sells S1 (xs ((a3 + (1 : Int32))).toNatClampNeg) (xs ((a3 + (2 : Int32))).toNatClampNeg) = some (x, S2) from e2, zb2_some, if_pos rfl]
theorem s_undo (hI : Inv S)  : Step k18 a3 (f_law_489 k18 len xs S a3) := by
  obtain ⟨nv, hI⟩ := hI
  obtain ⟨x, S1, S2, e1, e2, hI2⟩ := undo_ok hI 
  unfold f_law_489 f_law_905
  rw [e1, zb2_some]
  refine ⟨S2, ?_, ⟨nv, hI2⟩⟩
  rw [show f_X6_undo S1  = some (x, S2) from e2, zb2_some, if_pos rfl]
theorem s_tour (hI : Inv S) (h1 : zin (a3 + (1 : Int32)) len) (h2 : zin (a3 + (2 : Int32)) len) : Step k18 a3 (f_law_525 k18 len xs S a3) := by
  obtain ⟨nv, hI⟩ := hI
  obtain ⟨x, S1, S2, e1, e2, hI2⟩ := tour_ok hI (xs ((a3 + (1 : Int32))).toNatClampNeg) (xs ((a3 + (2 : Int32))).toNatClampNeg)
  unfold f_law_525 f_law_905
  rw [if_pos h1, if_pos h2, e1, zb2_some]
  refine ⟨S2, ?_, ⟨nv, hI2⟩⟩
  rw [if_pos h1, if_pos h2, show f_X6_tour S1 (xs ((a3 + (1 : Int32))).toNatClampNeg) (xs ((a3 + (2 : Int32))).toNatClampNeg) = some (x, S2) from e2, zb2_some, if_pos rfl]
theorem s_ring (hI : Inv S) (h1 : zin (a3 + (1 : Int32)) len) : Step k18 a3 (f_law_743 k18 len xs S a3) := by
  obtain ⟨nv, hI⟩ := hI
  obtain ⟨x, S1, S2, e1, e2, hI2⟩ := ring_ok hI (xs ((a3 + (1 : Int32))).toNatClampNeg)
  unfold f_law_743 f_law_905
  rw [if_pos h1, e1, zb2_some]
  refine ⟨S2, ?_, ⟨nv, hI2⟩⟩
  rw [if_pos h1, show f_X6_ring S1 (xs ((a3 + (1 : Int32))).toNatClampNeg) = some (x, S2) from e2, zb2_some, if_pos rfl]
theorem s_mark (hI : Inv S) (h1 : zin (a3 + (1 : Int32)) len) (h2 : zin (a3 + (2 : Int32)) len) : Step k18 a3 (f_law_789 k18 len xs S a3) := by
  obtain ⟨nv, hI⟩ := hI
  obtain ⟨x, S1, S2, e1, e2, hI2⟩ := mark_ok hI (xs ((a3 + (1 : Int32))).toNatClampNeg) (xs ((a3 + (2 : Int32))).toNatClampNeg)
  unfold f_law_789 f_law_905
  rw [if_pos h1, if_pos h2, e1, zb2_some]
  refine ⟨S2, ?_, ⟨nv, hI2⟩⟩
  rw [if_pos h1, if_pos h2, show f_X6_mark S1 (xs ((a3 + (1 : Int32))).toNatClampNeg) (xs ((a3 + (2 : Int32))).toNatClampNeg) = some (x, S2) from e2, zb2_some, if_pos rfl]
theorem s_keep (hI : Inv S) (h1 : zin (a3 + (1 : Int32)) len) : Step k18 a3 (f_law_822 k18 len xs S a3) := by
  obtain ⟨nv, hI⟩ := hI
  obtain ⟨x, S1, S2, e1, e2, hI2⟩ := keep_ok hI (xs ((a3 + (1 : Int32))).toNatClampNeg)
  unfold f_law_822 f_law_905
  rw [if_pos h1, e1, zb2_some]
  refine ⟨S2, ?_, ⟨nv, hI2⟩⟩
  rw [if_pos h1, show f_X6_keep S1 (xs ((a3 + (1 : Int32))).toNatClampNeg) = some (x, S2) from e2, zb2_some, if_pos rfl]
theorem s_back (hI : Inv S) (h1 : zin (a3 + (1 : Int32)) len) : Step k18 a3 (f_law_845 k18 len xs S a3) := by
  obtain ⟨nv, hI⟩ := hI
  obtain ⟨x, S1, S2, e1, e2, hI2⟩ := back_ok hI (xs ((a3 + (1 : Int32))).toNatClampNeg)
  unfold f_law_845 f_law_905
  rw [if_pos h1, e1, zb2_some]
  refine ⟨S2, ?_, ⟨nv, hI2⟩⟩
  rw [if_pos h1, show f_X6_back S1 (xs ((a3 + (1 : Int32))).toNatClampNeg) = some (x, S2) from e2, zb2_some, if_pos rfl]
theorem s_village (hI : Inv S) (h1 : zin (a3 + (1 : Int32)) len) (h2 : zin (a3 + (2 : Int32)) len) : Step k18 a3 (f_law_209 k18 len xs S a3) := by
  obtain ⟨nv, hI⟩ := hI
  obtain ⟨x, e1, e2⟩ := village_ok hI (xs ((a3 + (1 : Int32))).toNatClampNeg) (xs ((a3 + (2 : Int32))).toNatClampNeg)
  unfold f_law_209 f_law_905
  refine ⟨S, ?_, nv, hI⟩
  rw [if_pos h1, if_pos h2, e1, Option.bind_some, if_pos h1, if_pos h2, e2, Option.bind_some, if_pos rfl]
theorem s_far (hI : Inv S) (h1 : zin (a3 + (1 : Int32)) len) (h2 : zin (a3 + (2 : Int32)) len) : Step k18 a3 (f_law_242 k18 len xs S a3) := by
  obtain ⟨nv, hI⟩ := hI
  obtain ⟨x, e1, e2⟩ := far_ok hI (xs ((a3 + (1 : Int32))).toNatClampNeg) (xs ((a3 + (2 : Int32))).toNatClampNeg)
  unfold f_law_242 f_law_905
  refine ⟨S, ?_, nv, hI⟩
  rw [if_pos h1, if_pos h2, e1, Option.bind_some, if_pos h1, if_pos h2, e2, Option.bind_some, if_pos rfl]
theorem s_owes (hI : Inv S) (h1 : zin (a3 + (1 : Int32)) len) (h2 : zin (a3 + (2 : Int32)) len) : Step k18 a3 (f_law_275 k18 len xs S a3) := by
  obtain ⟨nv, hI⟩ := hI
  obtain ⟨x, e1, e2⟩ := owes_ok hI (xs ((a3 + (1 : Int32))).toNatClampNeg) (xs ((a3 + (2 : Int32))).toNatClampNeg)
  unfold f_law_275 f_law_905
  refine ⟨S, ?_, nv, hI⟩
  rw [if_pos h1, if_pos h2, e1, Option.bind_some, if_pos h1, if_pos h2, e2, Option.bind_some, if_pos rfl]
theorem s_now (hI : Inv S) (h1 : zin (a3 + (1 : Int32)) len) : Step k18 a3 (f_law_502 k18 len xs S a3) := by
  obtain ⟨nv, hI⟩ := hI
  obtain ⟨x, e1, e2⟩ := now_ok hI (xs ((a3 + (1 : Int32))).toNatClampNeg)
  unfold f_law_502 f_law_905
  refine ⟨S, ?_, nv, hI⟩
  rw [if_pos h1, e1, Option.bind_some, if_pos h1, e2, Option.bind_some, if_pos rfl]
theorem s_had (hI : Inv S) (h1 : zin (a3 + (1 : Int32)) len) (h2 : zin (a3 + (2 : Int32)) len) : Step k18 a3 (f_law_581 k18 len xs S a3) := by
  obtain ⟨nv, hI⟩ := hI
  obtain ⟨x, e1, e2⟩ := had_ok hI (xs ((a3 + (1 : Int32))).toNatClampNeg) (xs ((a3 + (2 : Int32))).toNatClampNeg)
  unfold f_law_581 f_law_905
  refine ⟨S, ?_, nv, hI⟩
  rw [if_pos h1, if_pos h2, e1, Option.bind_some, if_pos h1, if_pos h2, e2, Option.bind_some, if_pos rfl]
theorem s_rests (hI : Inv S) (h1 : zin (a3 + (1 : Int32)) len) (h2 : zin (a3 + (2 : Int32)) len) (h3 : zin (a3 + (3 : Int32)) len) : Step k18 a3 (f_law_657 k18 len xs S a3) := by
  obtain ⟨nv, hI⟩ := hI
  obtain ⟨x, e1, e2⟩ := rests_ok (xs ((a3 + (1 : Int32))).toNatClampNeg) (xs ((a3 + (2 : Int32))).toNatClampNeg) (xs ((a3 + (3 : Int32))).toNatClampNeg)
  unfold f_law_657 f_law_905
  refine ⟨S, ?_, nv, hI⟩
  rw [if_pos h1, if_pos h2, if_pos h3, e1, Option.bind_some, if_pos h1, if_pos h2, if_pos h3, e2, Option.bind_some, if_pos rfl]
theorem s_mixed (hI : Inv S) (h1 : zin (a3 + (1 : Int32)) len) (h2 : zin (a3 + (2 : Int32)) len) (h3 : zin (a3 + (3 : Int32)) len) : Step k18 a3 (f_law_700 k18 len xs S a3) := by
  obtain ⟨nv, hI⟩ := hI
  obtain ⟨x, e1, e2⟩ := mixed_ok (xs ((a3 + (1 : Int32))).toNatClampNeg) (xs ((a3 + (2 : Int32))).toNatClampNeg) (xs ((a3 + (3 : Int32))).toNatClampNeg)
  unfold f_law_700 f_law_905
  refine ⟨S, ?_, nv, hI⟩
  rw [if_pos h1, if_pos h2, if_pos h3, e1, Option.bind_some, if_pos h1, if_pos h2, if_pos h3, e2, Option.bind_some, if_pos rfl]
theorem s_net (hI : Inv S) (h1 : zin (a3 + (1 : Int32)) len) : Step k18 a3 (f_law_766 k18 len xs S a3) := by
  obtain ⟨nv, hI⟩ := hI
  obtain ⟨x, e1, e2⟩ := net_ok hI (xs ((a3 + (1 : Int32))).toNatClampNeg)
  unfold f_law_766 f_law_905
  refine ⟨S, ?_, nv, hI⟩
  rw [if_pos h1, e1, Option.bind_some, if_pos h1, e2, Option.bind_some, if_pos rfl]
theorem s_count (hI : Inv S) (h1 : zin (a3 + (1 : Int32)) len) : Step k18 a3 (f_law_868 k18 len xs S a3) := by
  obtain ⟨nv, hI⟩ := hI
  obtain ⟨x, e1, e2⟩ := count_ok hI (xs ((a3 + (1 : Int32))).toNatClampNeg)
  unfold f_law_868 f_law_905
  refine ⟨S, ?_, nv, hI⟩
  rw [if_pos h1, e1, Option.bind_some, if_pos h1, e2, Option.bind_some, if_pos rfl]
theorem s_from (hI : Inv S) (h1 : zin (a3 + (1 : Int32)) len) : Step k18 a3 (f_law_558 k18 len xs S a3) := by
  obtain ⟨nv, hI⟩ := hI
  obtain ⟨x, S1, e1, e2, hI2⟩ := from_ok hI (xs ((a3 + (1 : Int32))).toNatClampNeg)
  unfold f_law_558 f_law_905
  rw [if_pos h1, e1, zb2_some]
  refine ⟨S1, ?_, nv, hI2⟩
  rw [if_pos h1, show f_X6_from S1 (xs ((a3 + (1 : Int32))).toNatClampNeg) = some x from e2, Option.bind_some, if_pos rfl]
theorem s_odds (hI : Inv S) (h1 : zin (a3 + (1 : Int32)) len) (h2 : zin (a3 + (2 : Int32)) len) (h3 : zin (a3 + (3 : Int32)) len) : Step k18 a3 (f_law_614 k18 len xs S a3) := by
  obtain ⟨nv, hI⟩ := hI
  obtain ⟨x, S1, e1, e2, hI2⟩ := odds_ok hI (xs ((a3 + (1 : Int32))).toNatClampNeg) (xs ((a3 + (2 : Int32))).toNatClampNeg) (xs ((a3 + (3 : Int32))).toNatClampNeg)
  unfold f_law_614 f_law_905
  rw [if_pos h1, if_pos h2, if_pos h3, e1, zb2_some]
  refine ⟨S1, ?_, nv, hI2⟩
  rw [if_pos h1, if_pos h2, if_pos h3, show f_X6_odds S1 (xs ((a3 + (1 : Int32))).toNatClampNeg) (xs ((a3 + (2 : Int32))).toNatClampNeg) (xs ((a3 + (3 : Int32))).toNatClampNeg) = some x from e2, Option.bind_some, if_pos rfl]
end LAW
