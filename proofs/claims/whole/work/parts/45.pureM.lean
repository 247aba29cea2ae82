/-! the model: pages, sheets, answers, codes -/
theorem mpl {C : CS} {τ : MS} (hR : RM C τ) {p : Nat} (hp : p < c_np C) : (nI p).toNatClampNeg = p ∧ ms_pn τ p = nI (c_pn C p) ∧ (nI (c_pn C p)).toNatClampNeg = c_pn C p ∧ c_pn C p < c_nk C ∧ vp_in (nI p) 40 ∧ vp_in (nI (c_pn C p)) 8 ∧ ¬ outN (nI (c_pn C p)) (c_nk C) := by
  have h4 := hR.1.2.2.2.1
  have h8 := hR.1.1
  have h5 := hR.1.2.2.2.2.1 p hp
  exact ⟨nI_cl (by omega), hR.2.2.2.2.2.2.2.1 p hp, nI_cl (by omega), h5, vp_in_nI (by omega) (by decide), vp_in_nI (by omega) (by decide), vp_in_nI h5 (by omega)⟩
theorem m_pc {C : CS} {τ : MS} (hR : RM C τ) : ms_pc τ = nI (c_np C) := hR.2.2.2.2.2.2.1
theorem m_ta {C : CS} {τ : MS} (hR : RM C τ) {k : Nat} (hk : k < c_nk C) : ms_ta τ k = nI (c_q C k 8) := by
  have h := (mk_of hR hk).2.2.2.2.2.2.2.2.1
  rw [cq_ne (by decide)] at h
  exact h
theorem pu_X2_where (g : CS) (σ : MS) (x1 : Int32) (hp : pr_X2_where g σ x1) : wp_X2_where g (fun r u => r = fn_X2_where g σ x1 ∧ u = σ) σ x1 := by
  obtain ⟨hR, h1⟩ := hp
  obtain ⟨p, rfl, hp, hpc, -⟩ := out_ex h1
  have h4 := hR.1.2.2.2.1
  have h7 := hR.1.2.2.2.2.2.2.1
  unfold wp_X2_where fn_X2_where
  rw [hpc]
  refine lp_rule (fun t => t.1 = σ ∧ t.2.1 = nI p ∧ ∃ j : Nat, t.2.2.2.2 = nI j ∧ j ≤ p + 1 ∧ t.2.2.1 = nI (whS g j).1 ∧ t.2.2.2.1 = nI (whS g j).2) (fun t => 100 - t.2.2.2.2.toNatClampNeg) ?_ ⟨rfl, rfl, 0, rfl, Nat.zero_le _, rfl, rfl⟩
  rintro K ⟨s, y1, y2, y3, y4⟩ ⟨e0, e1, j, e4, hj, e2, e3⟩ ih
  dsimp only at e0 e1 e2 e3 e4 ih ⊢
  subst e0 e1 e2 e3 e4
  unfold wp_X2_where_7
  obtain ⟨w1, w2⟩ := whS_le hR.1 j (by omega)
  rw [nI_ltI (by omega) (by omega)]
  refine ⟨fun c => ?_, fun c => ?_⟩
  · obtain ⟨a1, a2, a3, a4, a5, a6, a7⟩ := mpl hR hp
    have hjp : j = p + 1 := by omega
    subst hjp
    have hle : c_q g (c_pn g p) 8 ≤ (whS g (p + 1)).2 := by
      unfold whS
      split
      · exact Nat.le_refl _
      · exact Nat.le_add_left _ _
    rw [a1, a2, a3, m_ta hR a4]
    refine ⟨a5, a6, ?_, rfl⟩
    unfold whN
    rw [show (100 : Int32) = nI 100 from rfl, pk_mul, nI_add, pk_sub (by omega), Nat.add_sub_assoc hle]
  · obtain ⟨a1, a2, a3, a4, a5, a6, a7⟩ := mpl hR (show j < c_np g by omega)
    obtain ⟨t1, t2⟩ := tk_ok hR.1 (show j < c_np g by omega)
    rw [a1, a2, a3, m_ta hR a4, nI_add, hR.2.2.2.2.2.2.2.2.1, nI_leI (by omega) (by omega)]
    have mu : 100 - (nI (j + 1)).toNatClampNeg < 100 - (nI j).toNatClampNeg := by
      rw [nI_cl (by omega), nI_cl (by omega)]
      omega
    refine ⟨a5, a6, fun d => ⟨a5, a6, ?_⟩, fun d => ?_⟩
    · rintro y rfl z rfl
      refine ih _ ⟨rfl, rfl, j + 1, nI_1 j, by omega, ?_, ?_⟩ (by dsimp only; rw [nI_1]; exact mu)
      · dsimp only
        conv => rhs; unfold whS
        rw [if_neg (by omega)]
      · dsimp only
        conv => rhs; unfold whS
        rw [if_neg (by omega)]
    · rintro x rfl
      refine ⟨a5, a6, ?_⟩
      rintro y rfl z rfl
      refine ih _ ⟨rfl, rfl, j + 1, nI_1 j, by omega, ?_, ?_⟩ (by dsimp only; rw [nI_1]; exact mu)
      · dsimp only
        rw [nI_1]
        conv => rhs; unfold whS
        rw [if_pos (by omega)]
      · dsimp only
        conv => rhs; unfold whS
        rw [if_pos (by omega), show (0 : Int32) = nI 0 from rfl, nI_add, Nat.zero_add]
theorem pu_X2_pages (g : CS) (σ : MS) (hp : pr_X2_pages g σ) : wp_X2_pages g (po_X2_pages g σ) σ := by
  have hR : RM g (ms_s_th σ 0) := hp
  have h4 := hR.1.2.2.2.1
  unfold wp_X2_pages po_X2_pages sp_pages
  rw [m_pc hR]
  refine ⟨fun c => ?_, fun c => ?_⟩
  · have hpos : 0 < c_np g := by
      rcases Nat.eq_zero_or_pos (c_np g) with h | h
      · rw [h] at c; exact absurd rfl c
      · exact h
    have e1 : nI (c_np g) - 1 = nI (c_np g - 1) := pk_sub (a := c_np g) (b := 1) (by omega)
    have hw := whN_le hR.1 (show c_np g - 1 < c_np g by omega)
    rw [e1, if_neg (by omega)]
    unfold fn_X2_where
    rw [nI_cl (by omega), (pair_ab hw).1, nI_1]
    exact ⟨⟨hR, vp_in_nI (by omega) (by omega)⟩, rfl, hR⟩
  · have h0 : c_np g = 0 := by
      rcases Nat.eq_zero_or_pos (c_np g) with h | h
      · exact h
      · exact absurd c (nI_ne0 h (by omega))
    rw [if_pos h0]
    exact ⟨rfl, hR⟩
theorem pu_X2_page (g : CS) (σ : MS) (x1 : Int32) (x2 : Int32) (hp : pr_X2_page g σ x1 x2) : wp_X2_page g (po_X2_page g σ x1 x2) σ x1 x2 := by
  have hR : RM g (ms_s_th σ 0) := hp
  unfold wp_X2_page po_X2_page sp_page
  rw [mop hR]
  refine ⟨fun c => ?_, fun c => ⟨by rw [if_pos (Classical.not_not.mp c)], hR⟩⟩
  have hw := pair_ab (whN_le hR.1 (out_lt c))
  rw [if_neg c]
  unfold fn_X2_where
  refine ⟨fun d => ⟨⟨hR, c⟩, ?_, hR⟩, fun d => ⟨⟨hR, c⟩, ?_, hR⟩⟩
  · rw [if_pos d, hw.1]
  · rw [if_neg d, hw.2]
theorem pu_X2_ahead (g : CS) (σ : MS) (x1 : Int32) (x2 : Int32) (hp : pr_X2_ahead g σ x1 x2) : wp_X2_ahead g (fun r u => r = fn_X2_ahead g σ x1 x2 ∧ u = σ) σ x1 x2 := by
  obtain ⟨hR, k, p, rfl, rfl, hk, hp⟩ := hp
  have h4 := hR.1.2.2.2.1
  have h8 := hR.1.1
  unfold wp_X2_ahead fn_X2_ahead
  rw [nI_cl hk, nI_cl (by omega)]
  refine lp_rule (fun t => t.1 = σ ∧ t.2.1 = nI k ∧ t.2.2.1 = nI p ∧ ∃ j : Nat, t.2.2.2.2 = nI j ∧ j ≤ p ∧ t.2.2.2.1 = nI (ahd g k j)) (fun t => 100 - t.2.2.2.2.toNatClampNeg) ?_ ⟨rfl, rfl, rfl, 0, rfl, Nat.zero_le _, rfl⟩
  rintro K ⟨s, y1, y2, y3, y4⟩ ⟨e0, e1, e2, j, e4, hj, e3⟩ ih
  dsimp only at e0 e1 e2 e3 e4 ih ⊢
  subst e0 e1 e2 e3 e4
  unfold wp_X2_ahead_5
  rw [nI_leI (by omega) (by omega)]
  refine ⟨fun c => ⟨by rw [show j = p by omega], rfl⟩, fun c => ?_⟩
  obtain ⟨a1, a2, a3, a4, a5, a6, a7⟩ := mpl hR (show j < c_np g by omega)
  have mu : 100 - (nI (j + 1)).toNatClampNeg < 100 - (nI j).toNatClampNeg := by
    rw [nI_cl (by omega), nI_cl (by omega)]
    omega
  rw [a1, a2, nI_eq (by omega) hk]
  refine ⟨a5, fun d => ?_, fun d => ?_⟩
  · rintro y rfl z rfl
    refine ih _ ⟨rfl, rfl, rfl, j + 1, nI_1 j, by omega, ?_⟩ (by dsimp only; rw [nI_1]; exact mu)
    dsimp only
    rw [ahd_succ, if_neg d, show (0 : Int32) = nI 0 from rfl, nI_add]
  · rintro y rfl z rfl
    refine ih _ ⟨rfl, rfl, rfl, j + 1, nI_1 j, by omega, ?_⟩ (by dsimp only; rw [nI_1]; exact mu)
    dsimp only
    rw [ahd_succ, if_pos d, nI_1]
theorem pu_X2_noSheet (g : CS) (σ : MS) (hp : pr_X2_noSheet g σ) : wp_X2_noSheet g (po_X2_noSheet g σ) σ := by
  have hR : RM g σ := hp
  have h4 := hR.1.2.2.2.1
  unfold wp_X2_noSheet
  refine lp_rule (fun t => RM g t.1 ∧ mono σ t.1 ∧ ∃ j : Nat, t.2.2 = nI j ∧ j ≤ c_np g ∧ ((t.2.1 = 0 ∧ ∀ i, i < j → NV (cq g (c_pn g i)) ≠ 0 ∧ told t.1 (c_pn g i)) ∨ (t.2.1 = 1 ∧ 0 < lackN g))) (fun t => 100 - t.2.2.toNatClampNeg) ?_ ⟨hR, fun _ h => h, 0, rfl, Nat.zero_le _, Or.inl ⟨rfl, fun i hi => absurd hi (Nat.not_lt_zero i)⟩⟩
  rintro K ⟨s, y1, y2⟩ ⟨hRs, hm, j, e2, hj, hor⟩ ih
  dsimp only at hRs hm e2 hor ih ⊢
  subst e2
  unfold wp_X2_noSheet_4 po_X2_noSheet
  rw [m_pc hRs, nI_leI (by omega) (by omega)]
  refine ⟨fun c => ?_, fun c => ?_⟩
  · rcases hor with ⟨rfl, h⟩ | ⟨rfl, h⟩
    · have hl : ¬ 0 < lackN g := by
        rw [lack_pos]
        rintro ⟨i, hi, h0⟩
        exact (h i (by omega)).1 h0
      refine ⟨nar01 (Or.inl rfl), by rw [if_neg hl], hRs, fun _ i hi => (h i (by omega)).2, hm⟩
    · refine ⟨nar01 (Or.inr rfl), by rw [if_pos h], hRs, fun q => by omega, hm⟩
  · have mu : 100 - (nI (j + 1)).toNatClampNeg < 100 - (nI j).toNatClampNeg := by
      rw [nI_cl (by omega), nI_cl (by omega)]
      omega
    refine ⟨fun d => ?_, fun d => ?_⟩
    · rintro y rfl
      refine ih _ ⟨hRs, hm, j + 1, nI_1 j, by omega, Or.inr ⟨rfl, ?_⟩⟩ (by dsimp only; rw [nI_1]; exact mu)
      exact (hor.resolve_left (fun q => d q.1)).2
    · obtain ⟨a1, a2, a3, a4, a5, a6, a7⟩ := mpl hRs (show j < c_np g by omega)
      have hall := (hor.resolve_right (fun q => absurd (d.symm.trans q.1) (by decide))).2
      rw [a1, a2]
      refine ⟨a5, ⟨hRs, a7⟩, fun r u hu => ?_⟩
      obtain ⟨hr, hRu, ht, hmu⟩ := hu
      rw [a3] at hr ht
      have hN := nv_le (cq g (c_pn g j))
      have hm2 : mono σ u := fun i hi => hmu i (hm i hi)
      refine ⟨fun c2 => ?_, fun c2 => ?_⟩
      · rintro y rfl
        refine ih _ ⟨hRu, hm2, j + 1, nI_1 j, by omega, Or.inl ⟨rfl, fun i hi => ?_⟩⟩ (by dsimp only; rw [nI_1]; exact mu)
        by_cases hij : i = j
        · subst hij
          refine ⟨fun h0 => ?_, ht⟩
          rw [h0] at hr
          exact c2 hr
        · obtain ⟨b1, b2⟩ := hall i (by omega)
          exact ⟨b1, hmu _ b2⟩
      · rintro y rfl
        refine ih _ ⟨hRu, hm2, j + 1, nI_1 j, by omega, Or.inr ⟨rfl, ?_⟩⟩ (by dsimp only; rw [nI_1]; exact mu)
        rw [lack_pos]
        refine ⟨j, by omega, ?_⟩
        rcases Nat.eq_zero_or_pos (NV (cq g (c_pn g j))) with h | h
        · exact h
        · rw [hr] at c2
          exact absurd c2 (nI_ne0 h (by omega))
theorem pu_X2_variantAt (g : CS) (σ : MS) (x1 : Int32) (x2 : Int32) (hp : pr_X2_variantAt g σ x1 x2) : wp_X2_variantAt g (po_X2_variantAt g σ x1 x2) σ x1 x2 := by
  obtain ⟨hR, h1, h2, hl⟩ := hp
  obtain ⟨p, rfl, hp, hpc, -⟩ := out_ex h1
  obtain ⟨z, rfl, hz, hzc, -⟩ := out_ex h2
  have h4 := hR.1.2.2.2.1
  have h8 := hR.1.1
  obtain ⟨a1, a2, a3, a4, a5, a6, a7⟩ := mpl hR hp
  unfold wp_X2_variantAt po_X2_variantAt
  rw [hpc, hzc, a2]
  refine ⟨a5, fun x3 e3 => ?_⟩
  subst e3
  rw [a3, m_pc hR]
  have hpos := no_lack hl hp
  have hN := nv_le (cq g (c_pn g p))
  have hb : ms_be σ (c_pn g p) = nI (c_q g (c_pn g p) 9) := by
    have h := (mk_of hR a4).2.2.2.2.2.2.2.2.2
    rw [cq_ne (by decide)] at h
    exact h
  have b1 := ahd_le g (c_pn g p) (c_np g)
  have b2 := ahd_le g (c_pn g p) p
  have b3 : c_q g (c_pn g p) 9 ≤ 9999 := by
    have := (hR.1.2.1 (c_pn g p) (by omega)).2.2.2.2.2.2.2.2.2.2.1
    rw [cq_ne (by decide)] at this
    exact this
  have b4 : z * ahd g (c_pn g p) (c_np g) ≤ 9999 * 40 := Nat.mul_le_mul (by omega) (by omega)
  refine ⟨⟨hR, c_pn g p, c_np g, rfl, rfl, by omega, Nat.le_refl _⟩, ⟨hR, c_pn g p, p, rfl, rfl, by omega, by omega⟩, a6, ⟨hR, a7⟩, fun r u hu => ?_⟩
  obtain ⟨hr, hRu, ht, hmu⟩ := hu
  rw [a3] at hr ht
  subst hr
  refine ⟨nI_ne0 hpos (by omega), ?_, hRu, ht, hmu⟩
  unfold fn_X2_ahead
  rw [a3, a1, nI_cl (by omega), hb, pk_mul, nI_add, nI_add]
  exact pk_rem (by omega) hpos (by omega)
theorem vr_lt {C : CS} (hl : lackN C = 0) {z p : Nat} (hp : p < c_np C) : vrN C z p < NV (cq C (c_pn C p)) := Nat.mod_lt _ (no_lack hl hp)
theorem nn0 (z : Int32) : fn_X2_noNumber z = 0 ↔ ¬ (z < 0 ∨ 9999 < z) := by
  unfold fn_X2_noNumber
  by_cases h1 : z < 0
  · rw [if_pos h1]; exact ⟨fun q => absurd q (by decide), fun q => absurd (Or.inl h1) q⟩
  rw [if_neg h1]
  by_cases h2 : 9999 < z
  · rw [if_pos h2]; exact ⟨fun q => absurd q (by decide), fun q => absurd (Or.inr h2) q⟩
  rw [if_neg h2]
  exact ⟨fun _ q => q.elim h1 h2, fun _ => rfl⟩
theorem vin_z {z : Int32} (h : ¬ (z < 0 ∨ 9999 < z)) : vp_in z 10000 := by
  obtain ⟨n, rfl, -, hn, -⟩ := rng (lo := 0) (hi := 9999) (by decide) (by decide) (fun q => h (Or.inl q)) (fun q => h (Or.inr q))
  exact vp_in_nI (by omega) (by decide)
theorem pu_X2_sheet (g : CS) (σ : MS) (x1 : Int32) (x2 : Int32) (hp : pr_X2_sheet g σ x1 x2) : wp_X2_sheet g (po_X2_sheet g σ x1 x2) σ x1 x2 := by
  have hR : RM g (ms_s_th σ 0) := hp
  unfold wp_X2_sheet po_X2_sheet sp_sheet
  rw [mop hR, nn0]
  refine ⟨fun c => ?_, fun c => ⟨by rw [if_pos (Classical.not_not.mp c)], hR⟩⟩
  rw [if_neg c]
  refine ⟨fun d => ?_, fun d => ⟨by rw [if_pos (Classical.not_not.mp d)], hR⟩⟩
  rw [if_neg d]
  refine ⟨hR, fun r u hu => ?_⟩
  obtain ⟨hr, hRu, -, -⟩ := hu
  subst hr
  by_cases hl : 0 < lackN g
  · rw [if_pos hl, if_pos hl]
    exact ⟨fun q => absurd q (by decide), fun _ => ⟨rfl, hRu⟩⟩
  · rw [if_neg hl, if_neg hl]
    exact ⟨fun _ => ⟨⟨hRu, c, vin_z d, by omega⟩, fun r2 u2 h2 => ⟨h2.1, h2.2.1⟩⟩, fun q => absurd rfl q⟩
theorem pu_X2_answerAt (g : CS) (σ : MS) (x1 : Int32) (x2 : Int32) (hp : pr_X2_answerAt g σ x1 x2) : wp_X2_answerAt g (po_X2_answerAt g σ x1 x2) σ x1 x2 := by
  have hS : shOk g σ x1 x2 := hp
  obtain ⟨hR, h1, h2, hl⟩ := hp
  obtain ⟨p, rfl, hp, hpc, -⟩ := out_ex h1
  obtain ⟨z, rfl, hz, hzc, -⟩ := out_ex h2
  obtain ⟨a1, a2, a3, a4, a5, a6, a7⟩ := mpl hR hp
  unfold wp_X2_answerAt po_X2_answerAt
  rw [hpc, hzc, a2]
  refine ⟨a5, hS, fun r u hu => ?_⟩
  obtain ⟨hr, hRu, ht, hmu⟩ := hu
  rw [hpc, hzc] at hr
  rw [hpc] at ht
  subst hr
  have hv := vr_lt hl (z := z) hp
  have hN := nv_le (cq g (c_pn g p))
  have hvc : (nI (vrN g z p)).toNatClampNeg = vrN g z p := nI_cl (by omega)
  refine ⟨⟨hRu, ?_, by rw [a3]; exact ht⟩, ?_, hRu, hmu⟩
  · rintro (h | h)
    · exact a7 h
    · rw [a3] at h
      exact (vp_in_nI hv (by omega)) h
  · unfold fn_X2_rightAt ansA ansV
    show ansF (nI (c_q g (nI (c_pn g p)).toNatClampNeg 0)) (nI (kth (cq g (nI (c_pn g p)).toNatClampNeg) (nI (vrN g z p)).toNatClampNeg / 100)) (nI (kth (cq g (nI (c_pn g p)).toNatClampNeg) (nI (vrN g z p)).toNatClampNeg % 100)) = _
    rw [a3, hvc, cq_ne (by decide)]
theorem pu_X2_answer (g : CS) (σ : MS) (x1 : Int32) (x2 : Int32) (hp : pr_X2_answer g σ x1 x2) : wp_X2_answer g (po_X2_answer g σ x1 x2) σ x1 x2 := by
  have hR : RM g (ms_s_th σ 0) := hp
  unfold wp_X2_answer po_X2_answer sp_answer
  rw [mop hR, nn0]
  refine ⟨fun c => ?_, fun c => ⟨by rw [if_pos (Classical.not_not.mp c)], hR⟩⟩
  rw [if_neg c]
  refine ⟨fun d => ?_, fun d => ⟨by rw [if_pos (Classical.not_not.mp d)], hR⟩⟩
  rw [if_neg d]
  refine ⟨hR, fun r u hu => ?_⟩
  obtain ⟨hr, hRu, -, -⟩ := hu
  subst hr
  by_cases hl : 0 < lackN g
  · rw [if_pos hl, if_pos hl]
    exact ⟨fun q => absurd q (by decide), fun _ => ⟨rfl, hRu⟩⟩
  · rw [if_neg hl, if_neg hl]
    exact ⟨fun _ => ⟨⟨hRu, c, vin_z d, by omega⟩, fun r2 u2 h2 => ⟨h2.1, h2.2.1⟩⟩, fun q => absurd rfl q⟩
theorem pu_X2_code (g : CS) (σ : MS) (x1 : Int32) (hp : pr_X2_code g σ x1) : wp_X2_code g (po_X2_code g σ x1) σ x1 := by
  have hR : RM g (ms_s_th σ 0) := hp
  have h4 := hR.1.2.2.2.1
  unfold wp_X2_code
  rw [nn0]
  have hsp : po_X2_code g σ x1 = fun r u => r = sp_code g x1 ∧ RM g u := rfl
  rw [hsp]
  unfold sp_code
  refine ⟨fun d => ?_, fun d => ⟨by rw [if_pos (Classical.not_not.mp d)], hR⟩⟩
  rw [if_neg d]
  refine ⟨hR, fun r u hu => ?_⟩
  obtain ⟨hr, hRu, -, -⟩ := hu
  subst hr
  by_cases hl : 0 < lackN g
  · rw [if_pos hl, if_pos hl]
    exact ⟨fun q => absurd q (by decide), fun _ => ⟨rfl, hRu⟩⟩
  · rw [if_neg hl, if_neg hl]
    refine ⟨fun _ => ?_, fun q => absurd rfl q⟩
    refine lp_rule (fun t => RM g t.1 ∧ t.2.1 = x1 ∧ ∃ p : Nat, t.2.2.2 = nI p ∧ p ≤ c_np g ∧ t.2.2.1 = cdS g x1.toNatClampNeg p) (fun t => 100 - t.2.2.2.toNatClampNeg) ?_ ⟨hRu, rfl, 0, rfl, Nat.zero_le _, rfl⟩
    rintro K ⟨s, y1, y2, y3⟩ ⟨hRs, e1, p, e3, hp1, e2⟩ ih
    dsimp only at hRs e1 e2 e3 ih ⊢
    subst e1 e2 e3
    unfold wp_X2_code_29
    rw [m_pc hRs, nI_leI (by omega) (by omega)]
    refine ⟨fun c => ⟨by rw [show p = c_np g by omega], hRs⟩, fun c => ⟨⟨hRs, vp_in_nI (by omega) (by omega), vin_z d, by omega⟩, fun r2 u2 hu2 => ?_⟩⟩
    obtain ⟨hr2, hRu2, -⟩ := hu2
    rintro y rfl w rfl
    refine ih _ ⟨hRu2, rfl, p + 1, nI_1 p, by omega, ?_⟩ ?_
    · dsimp only
      rw [hr2, nI_cl (by omega)]
      rfl
    · dsimp only
      rw [nI_1, nI_cl (by omega), nI_cl (by omega)]
      omega
