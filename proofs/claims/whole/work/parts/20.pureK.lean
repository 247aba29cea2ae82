theorem cl0 : (0 : Int32).toNatClampNeg = 0 := by decide
theorem cl1 : (1 : Int32).toNatClampNeg = 1 := by decide
theorem cl2 : (2 : Int32).toNatClampNeg = 2 := by decide
theorem in03 : vp_in 0 3 := by unfold vp_in; decide
theorem in13 : vp_in 1 3 := by unfold vp_in; decide
theorem in23 : vp_in 2 3 := by unfold vp_in; decide
theorem nar01 {v : Int32} (h : v = 0 ∨ v = 1) : narrow .boolean (.int v) = .int v := by
  rcases h with rfl | rfl <;> rfl
theorem car01 (op a b : Int32) : carF op a b = 0 ∨ carF op a b = 1 := by
  unfold carF
  repeat' split
  all_goals first | exact Or.inl rfl | exact Or.inr rfl
theorem vin3 {x : Int32} (h1 : ¬ x < 0) (h2 : ¬ 2 < x) : vp_in x 3 := by
  rw [vp_in_iff]
  rw [fa_lt] at h1 h2
  have e0 : (0 : Int32).toInt = 0 := rfl
  have e2 : (2 : Int32).toInt = 2 := rfl
  omega
theorem pu_J9_floorMod_7cf53 (x0 : Int32) (x1 : Int32) (hp : pr_J9_floorMod_7cf53 x0 x1) : wp_J9_floorMod_7cf53 (fun r u => r = fn_J9_floorMod_7cf53 x0 x1 ∧ u = ()) () x0 x1 := by
  obtain ⟨a, d, rfl, h0, h1, -, -⟩ := hp
  unfold wp_J9_floorMod_7cf53
  refine ⟨nI_ne0 h0 (by omega), fun x ex => ⟨fun c => ?_, fun c => ⟨fun c2 => ?_, fun c2 => ?_⟩⟩⟩
  · subst ex; exact ⟨by unfold fn_J9_floorMod_7cf53; rw [if_pos c], rfl⟩
  · subst ex; exact ⟨by unfold fn_J9_floorMod_7cf53; rw [if_neg c, if_pos c2], rfl⟩
  · subst ex; exact ⟨by unfold fn_J9_floorMod_7cf53; rw [if_neg c, if_neg c2], rfl⟩
theorem pu_X0_isRange (x0 : Int32) (x1 : Int32) (x2 : Int32) : wp_X0_isRange (fun r u => r = fn_X0_isRange x0 x1 x2 ∧ u = ()) () x0 x1 x2 := by
  unfold wp_X0_isRange fn_X0_isRange
  refine ⟨fun c => ?_, fun c => ⟨fun c2 => ?_, fun c2 => ⟨fun c3 => ?_, fun c3 => ⟨fun c4 => ?_, fun c4 => ⟨vin3 c c2, fun c5 => ?_, fun c5 => ?_⟩⟩⟩⟩⟩
  all_goals refine ⟨?_, rfl⟩
  all_goals repeat' split
  all_goals first | rfl | contradiction
theorem pu_X0_isRule (x0 : Int32) (x1 : Int32) : wp_X0_isRule (fun r u => r = fn_X0_isRule x0 x1 ∧ u = ()) () x0 x1 := by
  unfold wp_X0_isRule fn_X0_isRule
  refine ⟨fun c => ?_, fun c => ⟨fun c2 => ?_, fun c2 => ⟨vin3 c c2, fun c3 => ?_, fun c3 => ⟨vin3 c c2, fun c4 => ?_, fun c4 => ?_⟩⟩⟩⟩
  all_goals refine ⟨?_, rfl⟩
  all_goals repeat' split
  all_goals first | rfl | contradiction
theorem pu_X0_exchanged (x0 : Int32) : wp_X0_exchanged (fun r u => r = fn_X0_exchanged x0 ∧ u = ()) () x0 := by
  unfold wp_X0_exchanged fn_X0_exchanged excF
  rintro _ rfl _ rfl
  refine ⟨fun c => ?_, fun c => ⟨fun c2 => ?_, fun c2 => ⟨fun c3 => ?_, fun c3 => ?_⟩⟩⟩
  · exact ⟨by rw [if_pos c], rfl⟩
  · exact ⟨by rw [if_neg c, if_pos c2], rfl⟩
  · exact ⟨by rw [if_neg c, if_neg c2, if_pos c3], rfl⟩
  · exact ⟨by rw [if_neg c, if_neg c2, if_neg c3], rfl⟩
theorem pu_X1_isSheet (x0 : Int32) : wp_X1_isSheet (fun r u => r = fn_X1_isSheet x0 ∧ u = ()) () x0 := by
  unfold wp_X1_isSheet fn_X1_isSheet
  refine ⟨fun c => ⟨by rw [if_pos c], rfl⟩, fun c => ⟨fun c2 => ⟨by rw [if_neg c, if_pos c2], rfl⟩, fun c2 => ⟨by rw [if_neg c, if_neg c2], rfl⟩⟩⟩
theorem cmp_lt0 (x y : Int64) : lg_cmp x y < 0 ↔ x < y := by
  unfold lg_cmp
  by_cases h1 : x > y
  · rw [if_pos h1]
    have : ¬ x < y := by rw [fa_lt64] at *; have := h1; rw [gt_iff_lt, fa_lt64] at this; omega
    simp [this]
  · rw [if_neg h1]
    by_cases h2 : x = y
    · subst h2; simp
    · rw [if_neg h2]
      have : x < y := by
        rw [gt_iff_lt, fa_lt64] at h1
        rw [fa_eq64] at h2
        rw [fa_lt64]; omega
      simp [this]
theorem cmp_gt0 (x y : Int64) : 0 < lg_cmp x y ↔ y < x := by
  unfold lg_cmp
  by_cases h1 : x > y
  · rw [if_pos h1]; simp [gt_iff_lt.mp h1]
  · rw [if_neg h1]
    have h3 : ¬ y < x := h1
    by_cases h2 : x = y
    · subst h2; simp
    · rw [if_neg h2]; simp [h3]
theorem pu_X2_in (x0 : Int64) (x2 : Int64) (x4 : Int64) : wp_X2_in (fun r u => r = fn_X2_in x0 x2 x4 ∧ u = ()) () x0 x2 x4 := by
  unfold wp_X2_in fn_X2_in
  rw [cmp_lt0, cmp_gt0]
  exact ⟨fun c => ⟨by rw [if_pos c], rfl⟩, fun c => ⟨fun c2 => ⟨by rw [if_neg c, if_pos c2], rfl⟩, fun c2 => ⟨by rw [if_neg c, if_neg c2], rfl⟩⟩⟩
theorem pu_X2_answerOf (x0 : Int32) (x1 : Int32) (x2 : Int32) : wp_X2_answerOf (fun r u => r = fn_X2_answerOf x0 x1 x2 ∧ u = ()) () x0 x1 x2 := by
  unfold wp_X2_answerOf fn_X2_answerOf ansF
  refine ⟨fun c => ⟨fun c2 => ⟨fun c3 => ⟨fun c4 => ?_, fun c4 => ⟨c4, fun c5 => ?_, fun c5 => ⟨c4, ?_⟩⟩⟩, fun c3 => ?_⟩, fun c2 => ⟨fun c3 => ?_, fun c3 => ?_⟩⟩, fun c => ?_⟩
  all_goals refine ⟨?_, rfl⟩
  all_goals repeat' split
  all_goals first | rfl | contradiction
theorem pu_X2_carries (x0 : Int32) (x1 : Int32) (x2 : Int32) : wp_X2_carries (fun r u => r = fn_X2_carries x0 x1 x2 ∧ u = ()) () x0 x1 x2 := by
  unfold wp_X2_carries fn_X2_carries carF
  refine ⟨fun c => ⟨fun c2 => ?_, fun c2 => ⟨fun c3 => ?_, fun c3 => ?_⟩⟩, fun c => ⟨fun c2 => ?_, fun c2 => ?_⟩⟩
  · exact ⟨by rw [if_neg c, if_neg c2], rfl⟩
  · exact ⟨by rw [if_neg c, if_pos c2, if_pos c3], rfl⟩
  · exact ⟨by rw [if_neg c, if_pos c2, if_neg c3], rfl⟩
  · exact ⟨by rw [if_pos c, if_pos c2], rfl⟩
  · exact ⟨by rw [if_pos c, if_neg c2], rfl⟩
theorem in0 {v lo' hi' : Int32} {lo hi : Int64} (e1 : lo = lo'.toInt64) (e2 : hi = hi'.toInt64) : fn_X2_in v.toInt64 lo hi = 0 ↔ (v < lo' ∨ hi' < v) := by
  subst e1; subst e2
  unfold fn_X2_in
  simp only [fa_wide_lt]
  by_cases h1 : v < lo'
  · simp [h1]
  · by_cases h2 : hi' < v
    · simp [h2]
    · rw [if_neg h1, if_neg h2]
      constructor
      · intro h; exact absurd h (by decide)
      · rintro (h | h)
        · exact absurd h h1
        · exact absurd h h2
theorem pu_X2_slipOf (x0 : Int32) (x1 : Int32) (x2 : Int32) (x3 : Int32) : wp_X2_slipOf (fun r u => r = fn_X2_slipOf x0 x1 x2 x3 ∧ u = ()) () x0 x1 x2 x3 := by
  unfold wp_X2_slipOf
  rintro x ex
  have ex : x = ansF x0 x1 x2 := ex
  have hin := in0 (v := x) (lo := 10) (hi := 99) (lo' := 10) (hi' := 99) (by decide) (by decide)
  have ec : fn_X2_carries x0 x1 x2 = carF x0 x1 x2 := rfl
  rw [ec, hin]
  unfold fn_X2_slipOf othF
  rw [← ex]
  refine ⟨fun c => ⟨fun c1 => ?_, fun c1 => ⟨fun c2 => ⟨fun c3 => ?_, fun c3 => ?_⟩, fun c2 => ?_⟩⟩, fun c => ⟨fun c1 => ⟨fun c2 => ⟨fun c3 => ?_, fun c3 => ?_⟩, fun c2 => ?_⟩, fun c1 => ⟨fun c2 => ?_, fun c2 => ⟨fun c3 => ⟨fun c4 => ?_, fun c4 => ?_⟩, fun c3 => ⟨fun c4 => ?_, fun c4 => ⟨fun c5 => ?_, fun c5 => ?_⟩⟩⟩⟩⟩⟩
  all_goals refine ⟨?_, rfl⟩
  all_goals repeat' split
  all_goals first | rfl | contradiction | (rcases c4 with c4 | c4 <;> contradiction) | (exact absurd (Or.inl (by assumption)) c4) | (exact absurd (Or.inr (by assumption)) c4)
theorem pu_X2_noNumber (x0 : Int32) : wp_X2_noNumber (fun r u => r = fn_X2_noNumber x0 ∧ u = ()) () x0 := by
  unfold wp_X2_noNumber fn_X2_noNumber
  rw [in0 (v := x0) (lo := 0) (hi := 9999) (lo' := 0) (hi' := 9999) (by decide) (by decide)]
  refine ⟨fun c => ?_, fun c => ?_⟩
  all_goals refine ⟨?_, rfl⟩
  all_goals repeat' split
  all_goals first | rfl | contradiction | (rcases c with c | c <;> contradiction) | (exact absurd (Or.inl (by assumption)) c) | (exact absurd (Or.inr (by assumption)) c)
theorem pu_X0_size (g : (Nat → Nat)) (σ : KS) : wp_X0_size g (fun r u => r = fn_X0_size σ ∧ u = σ) σ := ⟨rfl, rfl⟩
theorem pu_X0_linesTaken (g : (Nat → Nat)) (σ : KS) : wp_X0_linesTaken g (fun r u => r = fn_X0_linesTaken σ ∧ u = σ) σ := ⟨in13, by rw [cl1]; rfl, rfl⟩
theorem pu_X0_result (g : (Nat → Nat)) (σ : KS) (x1 : Int32) (x2 : Int32) : wp_X0_result g (fun r u => r = fn_X0_result σ x1 x2 ∧ u = σ) σ x1 x2 := by
  unfold wp_X0_result fn_X0_result ansF
  refine ⟨fun c => ?_, fun c => ⟨fun c2 => ⟨fun c3 => ?_, fun c3 => ?_⟩, fun c2 => ⟨fun c3 => ?_, fun c3 => ⟨fun c4 => ?_, fun c4 => ⟨c4, fun c5 => ?_, fun c5 => ⟨c4, ?_⟩⟩⟩⟩⟩⟩
  all_goals refine ⟨?_, rfl⟩
  all_goals repeat' split
  all_goals first | rfl | contradiction
theorem pu_X0_carries (g : (Nat → Nat)) (σ : KS) (x1 : Int32) (x2 : Int32) : wp_X0_carries g (fun r u => r = fn_X0_carries σ x1 x2 ∧ u = σ) σ x1 x2 := by
  unfold wp_X0_carries fn_X0_carries carF
  refine ⟨fun c => ⟨fun c2 => ?_, fun c2 => ?_⟩, fun c => ⟨fun c2 => ⟨fun c3 => ?_, fun c3 => ?_⟩, fun c2 => ?_⟩⟩
  all_goals refine ⟨?_, rfl⟩
  all_goals repeat' split
  all_goals first | rfl | contradiction
theorem pu_X0_otherOperation (g : (Nat → Nat)) (σ : KS) (x1 : Int32) (x2 : Int32) : wp_X0_otherOperation g (fun r u => r = fn_X0_otherOperation σ x1 x2 ∧ u = σ) σ x1 x2 := by
  unfold wp_X0_otherOperation fn_X0_otherOperation othF
  refine ⟨fun c => ?_, fun c => ⟨fun c2 => ⟨fun c3 => ?_, fun c3 => ?_⟩, fun c2 => ?_⟩⟩
  all_goals refine ⟨?_, rfl⟩
  all_goals repeat' split
  all_goals first | rfl | contradiction
theorem pu_X0_withoutCarrying (g : (Nat → Nat)) (σ : KS) (x1 : Int32) (x2 : Int32) : wp_X0_withoutCarrying g (fun r u => r = fn_X0_withoutCarrying σ x1 x2 ∧ u = σ) σ x1 x2 := by
  unfold wp_X0_withoutCarrying fn_X0_withoutCarrying wocF absF
  refine ⟨fun c => ⟨by rw [if_neg c], rfl⟩, fun c => ⟨by rw [if_pos c], rfl⟩⟩
theorem pu_X0_slipped (g : (Nat → Nat)) (σ : KS) (x1 : Int32) (x2 : Int32) (x3 : Int32) : wp_X0_slipped g (fun r u => r = fn_X0_slipped σ x1 x2 x3 ∧ u = σ) σ x1 x2 x3 := by
  unfold wp_X0_slipped fn_X0_slipped slpF
  rintro x ex
  have ex : x = ansF (ks_op σ) x1 x2 := ex
  have ec : fn_X0_carries σ x1 x2 = carF (ks_op σ) x1 x2 := rfl
  have eo : fn_X0_otherOperation σ x1 x2 = othF (ks_op σ) x1 x2 := rfl
  have ew : fn_X0_withoutCarrying σ x1 x2 = wocF (ks_op σ) x1 x2 := rfl
  have ee : fn_X0_exchanged x = excF x := rfl
  rw [ec, eo, ew, ee, ← ex]
  refine ⟨fun c => ?_, fun c => ⟨fun c2 => ⟨fun c3 => ?_, fun c3 => ?_⟩, fun c2 => ⟨fun c3 => ?_, fun c3 => ⟨fun c4 => ⟨fun c5 => ?_, fun c5 => ?_⟩, fun c4 => ?_⟩⟩⟩⟩
  all_goals refine ⟨?_, rfl⟩
  all_goals repeat' split
  all_goals first | rfl | contradiction
theorem pu_X0_isLawful (g : (Nat → Nat)) (σ : KS) (x1 : Int32) (x2 : Int32) : wp_X0_isLawful g (fun r u => r = fn_X0_isLawful σ x1 x2 ∧ u = σ) σ x1 x2 := by
  unfold wp_X0_isLawful fn_X0_isLawful lwF
  rintro x ex
  have ex : x = ansF (ks_op σ) x1 x2 := ex
  have ec : fn_X0_carries σ x1 x2 = carF (ks_op σ) x1 x2 := rfl
  have eo : fn_X0_otherOperation σ x1 x2 = othF (ks_op σ) x1 x2 := rfl
  rw [ec, eo, ← ex, cl2, cl0]
  refine ⟨in23, fun c => ?_, fun c => ⟨in23, fun c2 => ⟨in03, fun c3 => ⟨fun c4 => ?_, fun c4 => ?_⟩, fun c3 => ⟨fun c4 => ⟨nar01 (car01 _ _ _), ?_⟩, fun c4 => ⟨fun c5 => ⟨fun c6 => ?_, fun c6 => ?_⟩, fun c5 => ?_⟩⟩⟩, fun c2 => ?_⟩⟩
  all_goals refine ⟨?_, rfl⟩
  all_goals repeat' split
  all_goals first | rfl | contradiction
theorem pu_X0_addPlace (g : (Nat → Nat)) (σ : KS) : wp_X0_addPlace g (po_X0_addPlace g σ) σ := by
  refine ⟨?_, rfl⟩
  show ks_pl σ + 1 - 1 = ks_pl σ
  rw [fa_eq]
  simp
theorem pu_X0_dropPlaces (g : (Nat → Nat)) (σ : KS) : wp_X0_dropPlaces g (po_X0_dropPlaces g σ) σ := rfl
theorem pu_X0_hasEnoughForTwo (g : (Nat → Nat)) (σ : KS) : wp_X0_hasEnoughForTwo g (fun r u => r = fn_X0_hasEnoughForTwo σ ∧ u = σ) σ := by
  unfold wp_X0_hasEnoughForTwo fn_X0_hasEnoughForTwo
  exact ⟨fun c => ⟨by rw [if_pos c], rfl⟩, fun c => ⟨by rw [if_neg c], rfl⟩⟩
theorem pu_X0_variantFor (g : (Nat → Nat)) (σ : KS) (x1 : Int32) (x2 : Int32) : wp_X0_variantFor g (fun r u => r = fn_X0_variantFor σ x1 x2 ∧ u = σ) σ x1 x2 := by
  unfold wp_X0_variantFor fn_X0_variantFor
  refine ⟨fun c => ⟨by rw [if_pos c], rfl⟩, fun c => ⟨in23, ?_, by rw [if_neg c, cl2], rfl⟩⟩
  intro e
  rw [e] at c
  exact c (by decide)
