/-! the model: apart, unlike, shared -/
def badA (C : CS) (d k : Nat) : Prop := 0 < ahd C k (c_np C) ∧ ¬ (ahd C k (c_np C) ≤ d * ahd C k (c_np C) % NV (cq C k) ∧ ahd C k (c_np C) ≤ NV (cq C k) - d * ahd C k (c_np C) % NV (cq C k))
theorem ap_iff {C : CS} {d : Nat} : apN C d = true ↔ ∀ k, k < c_nk C → ¬ badA C d k := by
  unfold apN badA
  rw [decide_eq_true_iff, fb_ct_zero]
  simp only [decide_eq_false_iff_not]
theorem ahd_ex {C : CS} {k p : Nat} (h : 0 < ahd C k p) : ∃ i, i < p ∧ c_pn C i = k := by
  unfold ahd at h
  rw [fb_ct_pos] at h
  obtain ⟨i, h1, h2⟩ := h
  exact ⟨i, h1, of_decide_eq_true h2⟩
theorem pu_X2_isApart (g : CS) (σ : MS) (x1 : Int32) (x2 : Int32) (hp : pr_X2_isApart g σ x1 x2) : wp_X2_isApart g (po_X2_isApart g σ x1 x2) σ x1 x2 := by
  obtain ⟨hR, hl, z, d, rfl, rfl, hd, hz⟩ := hp
  have h8 := hR.1.1
  have h4 := hR.1.2.2.2.1
  have hzc : (nI z).toNatClampNeg = z := nI_cl (by omega)
  have hyc : (nI (z + d)).toNatClampNeg = z + d := nI_cl (by omega)
  have hpo : po_X2_isApart g σ (nI z) (nI (z + d)) = fun r u => r = (if apN g d = true then 1 else 0) ∧ RM g u := by
    unfold po_X2_isApart
    rw [hzc, hyc, show z + d - z = d by omega]
  rw [hpo]
  unfold wp_X2_isApart
  refine lp_rule (fun t => RM g t.1 ∧ t.2.1 = nI z ∧ t.2.2.1 = nI (z + d) ∧ ∃ j : Nat, t.2.2.2.2 = nI j ∧ j ≤ c_nk g ∧ ((t.2.2.2.1 = 1 ∧ ∀ k, k < j → ¬ badA g d k) ∨ (t.2.2.2.1 = 0 ∧ ¬ apN g d = true))) (fun t => 100 - t.2.2.2.2.toNatClampNeg) ?_ ⟨hR, rfl, rfl, 0, rfl, Nat.zero_le _, Or.inl ⟨rfl, fun k hk => absurd hk (Nat.not_lt_zero k)⟩⟩
  rintro K ⟨s, y1, y2, y3, y4⟩ ⟨hRs, e1, e2, j, e4, hj, hor⟩ ih
  dsimp only at hRs e1 e2 e4 hor ih ⊢
  subst e1 e2 e4
  unfold wp_X2_isApart_5
  rw [hRs.2.1, nI_leI (by omega) (by omega)]
  have mu : 100 - (nI (j + 1)).toNatClampNeg < 100 - (nI j).toNatClampNeg := by
    rw [nI_cl (by omega), nI_cl (by omega)]
    omega
  refine ⟨fun c => ?_, fun c => ⟨fun c0 => ?_, fun c0 => ?_⟩⟩
  · rcases hor with ⟨rfl, h⟩ | ⟨rfl, h⟩
    · refine ⟨nar01 (Or.inr rfl), ?_, hRs⟩
      rw [if_pos (ap_iff.mpr (fun k hk => h k (by omega)))]
    · exact ⟨nar01 (Or.inl rfl), by rw [if_neg h], hRs⟩
  · rcases hor with ⟨rfl, h⟩ | ⟨rfl, h⟩
    · exact absurd c0 (by decide)
    · exact ⟨nar01 (Or.inl rfl), by rw [if_neg h], hRs⟩
  · obtain ⟨h3, hall⟩ := hor.resolve_right (fun q => c0 q.1)
    have hjn : j < c_nk g := by omega
    have hjc : (nI j).toNatClampNeg = j := nI_cl (by omega)
    have ha := ahd_le g j (c_np g)
    have hfa : fn_X2_ahead g s (nI j) (nI (c_np g)) = nI (ahd g j (c_np g)) := by
      unfold fn_X2_ahead
      rw [hjc, nI_cl (by omega)]
    rw [m_pc hRs, hfa]
    refine ⟨⟨hRs, j, c_np g, rfl, rfl, by omega, Nat.le_refl _⟩, fun x5 e5 => ?_⟩
    subst e5
    have hle : nI (ahd g j (c_np g)) ≤ 0 ↔ ahd g j (c_np g) ≤ 0 := nI_leI (b := 0) (by omega) (by decide)
    rw [hle]
    refine ⟨fun c1 => ?_, fun c1 => ⟨⟨hRs, vp_in_nI hjn (by omega)⟩, fun r u hu => ?_⟩⟩
    · rintro y rfl
      refine ih _ ⟨hRs, rfl, rfl, j + 1, nI_1 j, by omega, Or.inl ⟨h3, fun k hk => ?_⟩⟩ (by dsimp only; rw [nI_1]; exact mu)
      by_cases h : k = j
      · subst h
        intro hb
        have := hb.1
        omega
      · exact hall k (by omega)
    · obtain ⟨hr, hRu, -, -⟩ := hu
      rw [hjc] at hr
      subst hr
      obtain ⟨i, hi, hik⟩ := ahd_ex (show 0 < ahd g j (c_np g) by omega)
      have hNpos : 0 < NV (cq g j) := hik ▸ no_lack hl hi
      have hN := nv_le (cq g j)
      have hd1 : nI (z + d) - nI z = nI d := by
        rw [pk_sub (by omega), show z + d - z = d by omega]
      have hda : d * ahd g j (c_np g) ≤ 9999 * 40 := Nat.mul_le_mul (by omega) (by omega)
      have hrem : nI (d * ahd g j (c_np g)) - nI (d * ahd g j (c_np g)) / nI (NV (cq g j)) * nI (NV (cq g j)) = nI (d * ahd g j (c_np g) % NV (cq g j)) := pk_rem (by omega) hNpos (by omega)
      have hml : d * ahd g j (c_np g) % NV (cq g j) < NV (cq g j) := Nat.mod_lt _ hNpos
      refine ⟨nI_ne0 hNpos (by omega), fun x7 e7 => ?_⟩
      rw [hd1, pk_mul, hrem] at e7
      subst e7
      rw [nI_ltI (by omega) (by omega), pk_sub (by omega), nI_ltI (by omega) (by omega)]
      have isbad : badA g d j → ¬ apN g d = true := fun hb q => ap_iff.mp q j hjn hb
      refine ⟨fun c2 => ?_, fun c2 => ⟨fun c3 => ?_, fun c3 => ?_⟩⟩
      · rintro y rfl
        refine ih _ ⟨hRu, rfl, rfl, j + 1, nI_1 j, by omega, Or.inr ⟨rfl, isbad ⟨by omega, fun q => ?_⟩⟩⟩ (by dsimp only; rw [nI_1]; exact mu)
        have := q.1
        omega
      · rintro y rfl
        refine ih _ ⟨hRu, rfl, rfl, j + 1, nI_1 j, by omega, Or.inr ⟨rfl, isbad ⟨by omega, fun q => ?_⟩⟩⟩ (by dsimp only; rw [nI_1]; exact mu)
        have := q.2
        omega
      · rintro y rfl
        refine ih _ ⟨hRu, rfl, rfl, j + 1, nI_1 j, by omega, Or.inl ⟨rfl, fun k hk => ?_⟩⟩ (by dsimp only; rw [nI_1]; exact mu)
        by_cases h : k = j
        · subst h
          rintro ⟨-, hb⟩
          exact hb ⟨by omega, by omega⟩
        · exact hall k (by omega)
theorem en_ap {C : CS} : (enN C = true → apN C 1 = true) ∧ (∀ d, apN C d = true → enN C = true) := by
  have hen : enN C = true ↔ ∀ k, k < c_nk C → ¬ NV (cq C k) < 2 * ahd C k (c_np C) := by
    unfold enN
    rw [decide_eq_true_iff, fb_ct_zero]
    simp only [decide_eq_false_iff_not]
  rw [hen]
  constructor
  · intro h
    rw [ap_iff]
    rintro k hk ⟨h1, h2⟩
    have h3 := h k hk
    rw [Nat.one_mul, Nat.mod_eq_of_lt (by omega)] at h2
    exact h2 ⟨Nat.le_refl _, by omega⟩
  · intro d hd k hk hlt
    rw [ap_iff] at hd
    refine hd k hk ⟨by omega, ?_⟩
    rintro ⟨h1, h2⟩
    omega
theorem pu_X2_apart (g : CS) (σ : MS) (x1 : Int32) (hp : pr_X2_apart g σ x1) : wp_X2_apart g (po_X2_apart g σ x1) σ x1 := by
  have hR : RM g (ms_s_th σ 0) := hp
  have hpo : po_X2_apart g σ x1 = fun r u => r = sp_apart g x1 ∧ RM g u := rfl
  rw [hpo]
  unfold wp_X2_apart sp_apart
  rw [nn0]
  refine ⟨fun c => ?_, fun c => ⟨by rw [if_pos (Classical.not_not.mp c)], hR⟩⟩
  rw [if_neg c]
  refine ⟨hR, fun r u hu => ?_⟩
  obtain ⟨hr, hRu, -, -⟩ := hu
  subst hr
  by_cases hl : 0 < lackN g
  · rw [if_pos hl, if_pos hl]
    exact ⟨fun q => absurd q (by decide), fun _ => ⟨rfl, hRu⟩⟩
  rw [if_neg hl, if_neg hl]
  refine ⟨fun _ => ?_, fun q => absurd rfl q⟩
  obtain ⟨z, rfl, -, hz, hzc⟩ := rng (lo := 0) (hi := 9999) (by decide) (by decide) (fun q => c (Or.inl q)) (fun q => c (Or.inr q))
  rintro x2 rfl
  rw [nI_1]
  have hlt : nI z < 9999 ↔ z < 9999 := nI_ltI (b := 9999) (by omega) (by decide)
  refine lp_rule (fun t => RM g t.1 ∧ t.2.1 = nI z ∧ ∃ y : Nat, t.2.2 = nI y ∧ z < y ∧ y ≤ 10000 ∧ (z + 1 < y → ¬ enN g = true)) (fun t => 20000 - t.2.2.toNatClampNeg) ?_ ⟨hRu, rfl, z + 1, rfl, by omega, by omega, fun q => by omega⟩
  rintro K ⟨s, y1, y2⟩ ⟨hRs, e1, y, e2, hzy, hy, hne⟩ ih
  dsimp only at hRs e1 e2 ih ⊢
  subst e1 e2
  unfold wp_X2_apart_29
  have h10 : (10000 : Int32) ≤ nI y ↔ 10000 ≤ y := nI_leI (a := 10000) (by decide) (by omega)
  rw [h10]
  refine ⟨fun d => ⟨?_, hRs⟩, fun d => ⟨⟨hRs, by omega, z, y - z, rfl, by rw [show z + (y - z) = y by omega], by omega, by omega⟩, fun r2 u2 hu2 => ?_⟩⟩
  · rw [if_neg]
    rintro ⟨q1, q2⟩
    have q2 := hlt.mp q2
    exact hne (by omega) q1
  · obtain ⟨hr2, hRu2⟩ := hu2
    rw [hzc, nI_cl (by omega)] at hr2
    subst hr2
    by_cases hap : apN g (y - z) = true
    · rw [if_pos hap]
      refine ⟨fun q => absurd q (by decide), fun _ => ⟨?_, hRu2⟩⟩
      have he := en_ap.2 _ hap
      have hy1 : y = z + 1 := by
        by_cases h : z + 1 < y
        · exact absurd he (hne h)
        · omega
      rw [if_pos ⟨he, hlt.mpr (by omega)⟩, hy1]
    · rw [if_neg hap]
      refine ⟨fun _ => ?_, fun q => absurd rfl q⟩
      rintro w rfl
      refine ih _ ⟨hRu2, rfl, y + 1, nI_1 y, by omega, by omega, fun _ he => ?_⟩ ?_
      · by_cases h : z + 1 < y
        · exact hne h he
        · have hy1 : y - z = 1 := by omega
          rw [hy1] at hap
          exact hap (en_ap.1 he)
      · dsimp only
        rw [nI_1, nI_cl (by omega), nI_cl (by omega)]
        omega
theorem min_2 (n : Nat) (h : 1 ≤ n) : (n = 1 ∧ min n 2 = 1) ∨ (2 ≤ n ∧ min n 2 = 2) := by omega
theorem pu_X2_unlike (g : CS) (σ : MS) (hp : pr_X2_unlike g σ) : wp_X2_unlike g (po_X2_unlike g σ) σ := by
  have hR : RM g (ms_s_th σ 0) := hp
  have hpo : po_X2_unlike g σ = fun r u => r = sp_unlike g ∧ RM g u := rfl
  rw [hpo]
  have q1 := hR.1.2.2.2.2.2.2.2.1
  have q2 := hR.1.2.2.2.2.2.2.2.2.1
  have q3 := hR.1.2.2.2.2.2.2.2.2.2.1
  have q4 := hR.1.2.2.2.2.2.2.2.2.2.2.1
  unfold wp_X2_unlike sp_unlike
  refine ⟨hR, fun u hu => ?_⟩
  obtain ⟨hRu, hsit, -⟩ := hu
  have hin : ∀ r c, r < 8 → c < 8 → ms_nu u (8 * r + c) = if c < c_co g ∧ r < c_ro g then nI (seN (c_co g) r c) else -9 := by
    intro r c h1 h2
    rw [hsit r c h1 h2]
    have hiff : (c < c_co g ∧ r * c_co g + c < c_ro g * c_co g) ↔ (c < c_co g ∧ r < c_ro g) := by
      refine and_congr_right (fun hc => ?_)
      constructor
      · intro h
        by_cases hr : r < c_ro g
        · exact hr
        · have := Nat.mul_le_mul_right (c_co g) (show c_ro g ≤ r by omega)
          omega
      · intro h
        have := Nat.mul_le_mul_right (c_co g) (show r + 1 ≤ c_ro g by omega)
        rw [Nat.add_mul] at this
        omega
    by_cases h : c < c_co g ∧ r < c_ro g
    · rw [if_pos h, if_pos (hiff.mpr h)]
    · rw [if_neg h, if_neg (fun q => h (hiff.mp q))]
  have hup : ∀ r c, c < c_co g → r < c_ro g → seN (c_co g) r c + 1 ≤ min (c_ro g) 2 * min (c_co g) 2 := by
    intro r c h1 h2
    unfold seN
    rcases min_2 _ q1 with ⟨a1, a2⟩ | ⟨a1, a2⟩ <;> rcases min_2 _ q3 with ⟨b1, b2⟩ | ⟨b1, b2⟩ <;> rw [a2, b2] <;> omega
  refine lp_rule (fun t => t.1 = u ∧ ∃ m j : Nat, t.2.1 = nI m ∧ t.2.2 = nI j ∧ j ≤ 64 ∧ m + 1 ≤ min (c_ro g) 2 * min (c_co g) 2 ∧ ∀ r c, r < 8 → c < 8 → 8 * r + c < j → c < c_co g → r < c_ro g → seN (c_co g) r c ≤ m) (fun t => 100 - t.2.2.toNatClampNeg) ?_ ⟨rfl, 0, 0, rfl, rfl, by decide, by rcases min_2 _ q1 with ⟨a1, a2⟩ | ⟨a1, a2⟩ <;> rcases min_2 _ q3 with ⟨b1, b2⟩ | ⟨b1, b2⟩ <;> rw [a2, b2] <;> omega, fun r c _ _ h => absurd h (Nat.not_lt_zero _)⟩
  rintro K ⟨s, y1, y2⟩ ⟨e0, m, j, e1, e2, hj, hm, hall⟩ ih
  dsimp only at e0 e1 e2 ih ⊢
  subst e0 e1 e2
  unfold wp_X2_unlike_13
  have h64 : (64 : Int32) ≤ nI j ↔ 64 ≤ j := nI_leI (a := 64) (by decide) (by omega)
  have hm4 : min (c_ro g) 2 * min (c_co g) 2 ≤ 2 * 2 := Nat.mul_le_mul (Nat.min_le_right _ _) (Nat.min_le_right _ _)
  rw [h64]
  refine ⟨fun c => ⟨?_, hRu⟩, fun c => ⟨vp_in_nI (by omega) (by decide), ?_⟩⟩
  · rw [nI_1]
    congr 1
    have h := hall (min (c_ro g) 2 - 1) (min (c_co g) 2 - 1) (by omega) (by omega) (by omega) (by omega) (by omega)
    unfold seN at h
    rcases min_2 _ q1 with ⟨a1, a2⟩ | ⟨a1, a2⟩ <;> rcases min_2 _ q3 with ⟨b1, b2⟩ | ⟨b1, b2⟩ <;> rw [a2, b2] at hm h ⊢ <;> omega
  · have mu : 100 - (nI (j + 1)).toNatClampNeg < 100 - (nI j).toNatClampNeg := by
      rw [nI_cl (by omega), nI_cl (by omega)]
      omega
    have hnu := hin (j / 8) (j % 8) (by omega) (by omega)
    rw [show 8 * (j / 8) + j % 8 = j by omega] at hnu
    rw [nI_cl (by omega), hnu]
    have hs := seN_le (c_co g) (j / 8) (j % 8)
    by_cases hc : j % 8 < c_co g ∧ j / 8 < c_ro g
    · rw [if_pos hc, nI_leI (by omega) (by omega)]
      have hu2 := hup (j / 8) (j % 8) hc.1 hc.2
      refine ⟨fun d => ?_, fun d => ⟨vp_in_nI (by omega) (by decide), ?_⟩⟩
      · rintro y rfl
        refine ih _ ⟨rfl, m, j + 1, rfl, nI_1 j, by omega, hm, fun r c h1 h2 h3 h4 h5 => ?_⟩ (by dsimp only; rw [nI_1]; exact mu)
        by_cases h : 8 * r + c = j
        · rw [show r = j / 8 by omega, show c = j % 8 by omega]; exact d
        · exact hall r c h1 h2 (by omega) h4 h5
      · rintro y rfl w rfl
        refine ih _ ⟨rfl, seN (c_co g) (j / 8) (j % 8), j + 1, rfl, nI_1 j, by omega, hu2, fun r c h1 h2 h3 h4 h5 => ?_⟩ (by dsimp only; rw [nI_1]; exact mu)
        by_cases h : 8 * r + c = j
        · rw [show r = j / 8 by omega, show c = j % 8 by omega]; exact Nat.le_refl _
        · have := hall r c h1 h2 (by omega) h4 h5
          omega
    · rw [if_neg hc]
      have h9 : (-9 : Int32) ≤ nI m := by
        rw [fa_le, nI_toInt (by omega)]
        have : (-9 : Int32).toInt = -9 := rfl
        omega
      refine ⟨fun d => ?_, fun d => absurd h9 d⟩
      rintro y rfl
      refine ih _ ⟨rfl, m, j + 1, rfl, nI_1 j, by omega, hm, fun r c h1 h2 h3 h4 h5 => ?_⟩ (by dsimp only; rw [nI_1]; exact mu)
      by_cases h : 8 * r + c = j
      · exfalso
        exact hc ⟨by omega, by omega⟩
      · exact hall r c h1 h2 (by omega) h4 h5
