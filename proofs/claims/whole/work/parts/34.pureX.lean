/-! sheets -/
theorem lack_pos {C : CS} : 0 < lackN C ↔ ∃ p, p < c_np C ∧ NV (cq C (c_pn C p)) = 0 := by
  unfold lackN
  rw [fb_ct_pos]
  simp only [decide_eq_true_eq]
/-- a place of the plan, as the class holds it -/
theorem pl_ok {C : CS} {σ : XS} (hR : RX C σ) {p : Nat} (hp : p < c_np C) : (nI p).toNatClampNeg = p ∧ xs_pk σ p = nI (c_pn C p) ∧ (nI (c_pn C p)).toNatClampNeg = c_pn C p ∧ c_pn C p < c_nk C ∧ vp_in (nI p) 40 ∧ vp_in (nI (c_pn C p)) 8 ∧ xs_tu σ p = nI (ahd C (c_pn C p) p) := by
  have h4 := hR.1.2.2.2.1
  have h8 := hR.1.1
  have h5 := hR.1.2.2.2.2.1 p hp
  have h6 := hR.2.2.2.2.2.1 p hp
  exact ⟨nI_cl (by omega), h6.1, nI_cl (by omega), h5, vp_in_nI (by omega) (by decide), vp_in_nI (by omega) (by decide), h6.2⟩
theorem size_of {C : CS} {σ : XS} (hR : RX C σ) {k : Nat} (hk : k < c_nk C) : fn_X0_size (xs_ki σ k) = nI (NV (cq C k)) := (hR.2.2.2.1 k hk).1
theorem pu_X1_lacksVariants (g : CS) (σ : XS) (hp : pr_X1_lacksVariants g σ) : wp_X1_lacksVariants g (fun r u => r = fn_X1_lacksVariants g σ ∧ u = σ) σ := by
  have hR : RX g σ := hp
  have h4 := hR.1.2.2.2.1
  unfold wp_X1_lacksVariants
  refine lp_rule (fun t => t.1 = σ ∧ ∃ p : Nat, t.2 = nI p ∧ p ≤ c_np g ∧ ∀ i, i < p → NV (cq g (c_pn g i)) ≠ 0) (fun t => 100 - t.2.toNatClampNeg) ?_ ⟨rfl, 0, rfl, Nat.zero_le _, fun i hi => absurd hi (Nat.not_lt_zero i)⟩
  rintro K ⟨s, y⟩ ⟨h1, p, h2, hp1, hp2⟩ ih
  dsimp only at h1 h2 ih ⊢
  subst h1 h2
  unfold wp_X1_lacksVariants_2 fn_X1_lacksVariants
  rw [hR.2.2.2.2.1, nI_leI (by omega) (by omega)]
  refine ⟨fun c => ⟨?_, rfl⟩, fun c => ?_⟩
  · rw [if_neg]
    rw [lack_pos]
    rintro ⟨i, hi, h0⟩
    exact hp2 i (by omega) h0
  · obtain ⟨a1, a2, a3, a4, a5, a6, a7⟩ := pl_ok hR (show p < c_np g by omega)
    have hN := nv_le (cq g (c_pn g p))
    rw [a1, a2, a3, size_of hR a4]
    refine ⟨a5, a6, fun d => ?_, fun d => ⟨?_, rfl⟩⟩
    · rintro y rfl
      refine ih _ ⟨rfl, p + 1, nI_1 p, by omega, fun i hi => ?_⟩ ?_
      · by_cases hip : i = p
        · subst hip
          intro h0
          rw [h0] at d
          exact d rfl
        · exact hp2 i (by omega)
      · dsimp only
        rw [nI_1, nI_cl (by omega), nI_cl (by omega)]
        omega
    · rw [if_pos]
      rw [lack_pos]
      refine ⟨p, by omega, ?_⟩
      rcases Nat.eq_zero_or_pos (NV (cq g (c_pn g p))) with h | h
      · exact h
      · exact absurd d (nI_ne0 h (by omega))
theorem iss0 (z : Int32) : fn_X1_isSheet z = 0 ↔ (z < 0 ∨ 9999 < z) := by
  unfold fn_X1_isSheet
  by_cases h1 : z < 0
  · rw [if_pos h1]; exact ⟨fun _ => Or.inl h1, fun _ => rfl⟩
  rw [if_neg h1]
  by_cases h2 : 9999 < z
  · rw [if_pos h2]; exact ⟨fun _ => Or.inr h2, fun _ => rfl⟩
  rw [if_neg h2]
  exact ⟨fun q => absurd q (by decide), fun q => (q.elim (fun q => absurd q h1) (fun q => absurd q h2))⟩
theorem isla {C : CS} {σ : XS} : fn_X1_lacksVariants C σ = 0 ↔ ¬ 0 < lackN C := by
  unfold fn_X1_lacksVariants
  by_cases h : 0 < lackN C
  · rw [if_pos h]; exact ⟨fun q => absurd q (by decide), fun q => absurd h q⟩
  · rw [if_neg h]; exact ⟨fun _ => h, fun _ => rfl⟩
theorem pu_X1_sheetRefusal (g : CS) (σ : XS) (x1 : Int32) (hp : pr_X1_sheetRefusal g σ x1) : wp_X1_sheetRefusal g (fun r u => r = fn_X1_sheetRefusal g σ x1 ∧ u = σ) σ x1 := by
  have hR : RX g σ := hp
  unfold wp_X1_sheetRefusal fn_X1_sheetRefusal
  rw [iss0, isla]
  refine ⟨fun c => ⟨hR, fun d => ⟨by rw [if_neg c, if_neg d], rfl⟩, fun d => ⟨by rw [if_neg c, if_pos (Classical.not_not.mp d)], rfl⟩⟩, fun c => ⟨by rw [if_pos c], rfl⟩⟩
theorem pu_X1_placeRefusal (g : CS) (σ : XS) (x1 : Int32) (x2 : Int32) (hp : pr_X1_placeRefusal g σ x1 x2) : wp_X1_placeRefusal g (fun r u => r = fn_X1_placeRefusal g σ x1 x2 ∧ u = σ) σ x1 x2 := by
  have hR : RX g σ := hp
  unfold wp_X1_placeRefusal fn_X1_placeRefusal
  rw [isp hR]
  exact ⟨fun c => ⟨by rw [if_pos c], rfl⟩, fun c => ⟨hR, by rw [if_neg c]; rfl, rfl⟩⟩
theorem ahd_le (C : CS) (k p : Nat) : ahd C k p ≤ p := fb_ct_le _ p
theorem no_lack {C : CS} (h : lackN C = 0) {p : Nat} (hp : p < c_np C) : 0 < NV (cq C (c_pn C p)) := by
  rcases Nat.eq_zero_or_pos (NV (cq C (c_pn C p))) with h1 | h1
  · have := lack_pos.mpr ⟨p, hp, h1⟩
    omega
  · exact h1
/-- what a kind gives a place of a sheet -/
theorem vfor {C : CS} {σ : XS} (hR : RX C σ) (hl : lackN C = 0) {z p : Nat} (hz : z < 10000) (hp : p < c_np C) : fn_X0_variantFor (xs_ki σ (c_pn C p)) (nI z) (nI (ahd C (c_pn C p) p)) = nI (vrN C z p) ∧ vrN C z p < NV (cq C (c_pn C p)) := by
  obtain ⟨a1, a2, a3, a4, a5, a6, a7⟩ := pl_ok hR hp
  have h4 := hR.1.2.2.2.1
  obtain ⟨⟨k0, k1, k2, k3, k4, k5, k6, k7, k8, k9, k10⟩, hq, hc⟩ := krr hR a4
  have hN := nv_le (cq C (c_pn C p))
  have hpos := no_lack hl hp
  have b1 := ahd_le C (c_pn C p) (c_np C)
  have b2 := ahd_le C (c_pn C p) p
  have b3 : c_q C (c_pn C p) 9 ≤ 9999 := by
    have := hq.2.2.2.2.2.2.2.2.2.2.1
    rw [cq_ne (by decide)] at this
    exact this
  have b4 : z * ahd C (c_pn C p) (c_np C) ≤ 9999 * 40 := Nat.mul_le_mul (by omega) (by omega)
  refine ⟨?_, Nat.mod_lt _ hpos⟩
  unfold fn_X0_variantFor
  rw [hc.1, if_neg (nI_nle hpos (by omega)), k10, cq_10, k9, cq_ne (by decide), pk_mul, nI_add, nI_add]
  exact pk_rem (by omega) hpos (by omega)
theorem pu_X1_variantOn (g : CS) (σ : XS) (x1 : Int32) (x2 : Int32) (hp : pr_X1_variantOn g σ x1 x2) : wp_X1_variantOn g (fun r u => r = fn_X1_variantOn g σ x1 x2 ∧ u = σ) σ x1 x2 := by
  obtain ⟨hR, h1, h2, hl⟩ := hp
  obtain ⟨p, rfl, hp, hpc, -⟩ := out_ex h1
  obtain ⟨z, rfl, hz, hzc, -⟩ := out_ex h2
  obtain ⟨a1, a2, a3, a4, a5, a6, a7⟩ := pl_ok hR hp
  unfold wp_X1_variantOn fn_X1_variantOn
  rw [a1, a2, a3, a7, hzc]
  exact ⟨a5, a6, a5, (vfor hR hl hz hp).1, rfl⟩
theorem pu_X1_answerOn (g : CS) (σ : XS) (x1 : Int32) (x2 : Int32) (hp : pr_X1_answerOn g σ x1 x2) : wp_X1_answerOn g (fun r u => r = fn_X1_answerOn g σ x1 x2 ∧ u = σ) σ x1 x2 := by
  obtain ⟨hR, h1, h2, hl⟩ := id hp
  obtain ⟨p, rfl, hp1, hpc, -⟩ := out_ex h1
  obtain ⟨z, rfl, hz, hzc, -⟩ := out_ex h2
  obtain ⟨a1, a2, a3, a4, a5, a6, a7⟩ := pl_ok hR hp1
  have hv := (vfor hR hl hz hp1).2
  have hN := nv_le (cq g (c_pn g p))
  have hk := krr hR a4
  unfold wp_X1_answerOn fn_X1_answerOn fn_X1_variantOn
  rw [a1, a2, a3, hzc]
  refine ⟨a5, a6, hp, ⟨hk, _, rfl, hv⟩, fun x4 e4 => ⟨?_, rfl⟩⟩
  have e4 : x4 = nI (kth (cq g (c_pn g p)) (vrN g z p)) := by
    rw [e4]
    unfold fn_X0_pairAt
    rw [nI_cl (by omega)]
  subst e4
  obtain ⟨pa, pb⟩ := pair_ab (kth_ok hv).1
  rw [pb, pa]
  unfold fn_X0_result ansA ansV
  rw [hk.1.1]
theorem pu_X1_sheet (g : CS) (σ : XS) (x1 : Int32) (x2 : Int32) (hp : pr_X1_sheet g σ x1 x2) : wp_X1_sheet g (fun r u => r = fn_X1_sheet g σ x1 x2 ∧ u = σ) σ x1 x2 := by
  have hR : RX g σ := hp
  unfold wp_X1_sheet fn_X1_sheet sp_sheet
  refine ⟨hR, fun x3 e3 => ?_⟩
  unfold fn_X1_placeRefusal at e3
  by_cases h1 : outN x2 (c_np g)
  · rw [if_pos h1] at e3 ⊢
    subst e3
    exact ⟨fun _ => ⟨rfl, rfl⟩, fun q => absurd q (by decide)⟩
  rw [if_neg h1] at e3 ⊢
  by_cases h2 : x1 < 0 ∨ 9999 < x1
  · rw [if_pos h2] at e3 ⊢
    subst e3
    exact ⟨fun _ => ⟨rfl, rfl⟩, fun q => absurd q (by decide)⟩
  rw [if_neg h2] at e3 ⊢
  by_cases h3 : 0 < lackN g
  · rw [if_pos h3] at e3 ⊢
    subst e3
    exact ⟨fun _ => ⟨rfl, rfl⟩, fun q => absurd q (by decide)⟩
  rw [if_neg h3] at e3 ⊢
  subst e3
  obtain ⟨z, rfl, -, hz, hzc⟩ := rng (lo := 0) (hi := 9999) (by decide) (by decide) (fun q => h2 (Or.inl q)) (fun q => h2 (Or.inr q))
  exact ⟨fun q => absurd rfl q, fun _ => ⟨⟨hR, h1, vp_in_nI (by omega) (by decide), by omega⟩, rfl, rfl⟩⟩
theorem pu_X1_answer (g : CS) (σ : XS) (x1 : Int32) (x2 : Int32) (hp : pr_X1_answer g σ x1 x2) : wp_X1_answer g (fun r u => r = fn_X1_answer g σ x1 x2 ∧ u = σ) σ x1 x2 := by
  have hR : RX g σ := hp
  unfold wp_X1_answer fn_X1_answer sp_answer
  refine ⟨hR, fun x3 e3 => ?_⟩
  unfold fn_X1_placeRefusal at e3
  by_cases h1 : outN x2 (c_np g)
  · rw [if_pos h1] at e3 ⊢
    subst e3
    exact ⟨fun _ => ⟨rfl, rfl⟩, fun q => absurd q (by decide)⟩
  rw [if_neg h1] at e3 ⊢
  by_cases h2 : x1 < 0 ∨ 9999 < x1
  · rw [if_pos h2] at e3 ⊢
    subst e3
    exact ⟨fun _ => ⟨rfl, rfl⟩, fun q => absurd q (by decide)⟩
  rw [if_neg h2] at e3 ⊢
  by_cases h3 : 0 < lackN g
  · rw [if_pos h3] at e3 ⊢
    subst e3
    exact ⟨fun _ => ⟨rfl, rfl⟩, fun q => absurd q (by decide)⟩
  rw [if_neg h3] at e3 ⊢
  subst e3
  obtain ⟨z, rfl, -, hz, hzc⟩ := rng (lo := 0) (hi := 9999) (by decide) (by decide) (fun q => h2 (Or.inl q)) (fun q => h2 (Or.inr q))
  exact ⟨fun q => absurd rfl q, fun _ => ⟨⟨hR, h1, vp_in_nI (by omega) (by decide), by omega⟩, rfl, rfl⟩⟩
theorem pu_X1_code (g : CS) (σ : XS) (x1 : Int32) (hp : pr_X1_code g σ x1) : wp_X1_code g (fun r u => r = fn_X1_code g σ x1 ∧ u = σ) σ x1 := by
  have hR : RX g σ := hp
  have h4 := hR.1.2.2.2.1
  unfold wp_X1_code fn_X1_code sp_code
  refine ⟨hR, fun x2 e2 => ?_⟩
  unfold fn_X1_sheetRefusal at e2
  by_cases h2 : x1 < 0 ∨ 9999 < x1
  · rw [if_pos h2] at e2 ⊢
    subst e2
    exact ⟨fun q => absurd q (by decide), fun _ => ⟨rfl, rfl⟩⟩
  rw [if_neg h2] at e2 ⊢
  by_cases h3 : 0 < lackN g
  · rw [if_pos h3] at e2 ⊢
    subst e2
    exact ⟨fun q => absurd q (by decide), fun _ => ⟨rfl, rfl⟩⟩
  rw [if_neg h3] at e2 ⊢
  subst e2
  obtain ⟨z, rfl, -, hz, hzc⟩ := rng (lo := 0) (hi := 9999) (by decide) (by decide) (fun q => h2 (Or.inl q)) (fun q => h2 (Or.inr q))
  rw [hzc]
  refine ⟨fun _ => ?_, fun q => absurd rfl q⟩
  refine lp_rule (fun t => t.1 = σ ∧ t.2.1 = nI z ∧ ∃ p : Nat, t.2.2.2 = nI p ∧ p ≤ c_np g ∧ t.2.2.1 = cdS g z p) (fun t => 100 - t.2.2.2.toNatClampNeg) ?_ ⟨rfl, rfl, 0, rfl, Nat.zero_le _, rfl⟩
  rintro K ⟨s, y1, y3, y4⟩ ⟨h5, h6, p, h7, hp1, h8⟩ ih
  dsimp only at h5 h6 h7 h8 ih ⊢
  subst h5 h6 h7 h8
  unfold wp_X1_code_17
  rw [hR.2.2.2.2.1, nI_leI (by omega) (by omega)]
  refine ⟨fun c => ⟨by rw [show p = c_np g by omega], rfl⟩, fun c => ⟨⟨hR, vp_in_nI (by omega) (by omega), vp_in_nI (by omega) (by decide), by omega⟩, ?_⟩⟩
  rintro y rfl w rfl
  refine ih _ ⟨rfl, rfl, p + 1, nI_1 p, by omega, ?_⟩ ?_
  · dsimp only
    unfold fn_X1_answerOn
    rw [hzc, nI_cl (by omega)]
    rfl
  · dsimp only
    rw [nI_1, nI_cl (by omega), nI_cl (by omega)]
    omega
