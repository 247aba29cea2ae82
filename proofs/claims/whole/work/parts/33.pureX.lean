theorem isl0 (w v : Int32) : fn_X0_isRule w v = 0 ↔ badL w v := by
  unfold fn_X0_isRule badL
  by_cases h1 : w < 0
  · rw [if_pos h1]
    refine ⟨fun _ => ?_, fun _ => rfl⟩
    rintro (⟨rfl, -⟩ | ⟨rfl, -⟩ | ⟨rfl, -⟩) <;> exact absurd h1 (by decide)
  rw [if_neg h1]
  by_cases h2 : 2 < w
  · rw [if_pos h2]
    refine ⟨fun _ => ?_, fun _ => rfl⟩
    rintro (⟨rfl, -⟩ | ⟨rfl, -⟩ | ⟨rfl, -⟩) <;> exact absurd h2 (by decide)
  rw [if_neg h2]
  obtain ⟨n, rfl, -, hn, hc⟩ := rng (lo := 0) (hi := 2) (by decide) (by decide) h1 h2
  rw [hc]
  have key : ∀ (a b : Int32) (P : Prop), (P ↔ a ≤ v ∧ v ≤ b) → ((if v < a then (0 : Int32) else if b < v then 0 else 1) = 0 ↔ ¬ P) := by
    intro a b P hP
    rw [hP]
    by_cases h3 : v < a
    · rw [if_pos h3]
      refine ⟨fun _ q => ?_, fun _ => rfl⟩
      rw [fa_lt] at h3
      rw [fa_le, fa_le] at q
      omega
    · rw [if_neg h3]
      by_cases h4 : b < v
      · rw [if_pos h4]
        refine ⟨fun _ q => ?_, fun _ => rfl⟩
        rw [fa_lt] at h4
        rw [fa_le, fa_le] at q
        omega
      · rw [if_neg h4]
        refine ⟨fun q => absurd q (by decide), fun q => absurd ⟨fa_of_nlt h3, fa_of_nlt h4⟩ q⟩
  rcases (show n = 0 ∨ n = 1 ∨ n = 2 by omega) with rfl | rfl | rfl
  · refine key 0 3 _ ⟨?_, fun h => Or.inl ⟨rfl, h⟩⟩
    rintro (⟨-, h⟩ | ⟨h, -⟩ | ⟨h, -⟩)
    · exact h
    · exact absurd h (by decide)
    · exact absurd h (by decide)
  · refine key 1 9 _ ⟨?_, fun h => Or.inr (Or.inl ⟨rfl, h⟩)⟩
    rintro (⟨h, -⟩ | ⟨-, h⟩ | ⟨h, -⟩)
    · exact absurd h (by decide)
    · exact h
    · exact absurd h (by decide)
  · refine key 0 9999 _ ⟨?_, fun h => Or.inr (Or.inr ⟨rfl, h⟩)⟩
    rintro (⟨h, -⟩ | ⟨h, -⟩ | ⟨-, h⟩)
    · exact absurd h (by decide)
    · exact absurd h (by decide)
    · exact h
theorem good_rule {w v : Int32} (h : ¬ badL w v) : ∃ w' v' : Nat, w = nI w' ∧ v = nI v' ∧ w' < 3 ∧ (w' = 0 → v' < 4) ∧ (w' = 1 → 1 ≤ v' ∧ v' ≤ 9) ∧ (w' = 2 → v' ≤ 9999) ∧ w.toNatClampNeg = w' ∧ v.toNatClampNeg = v' := by
  have h : (w = 0 ∧ 0 ≤ v ∧ v ≤ 3) ∨ (w = 1 ∧ 1 ≤ v ∧ v ≤ 9) ∨ (w = 2 ∧ 0 ≤ v ∧ v ≤ 9999) := Classical.not_not.mp h
  have nl : ∀ {a b : Int32}, a ≤ b → ¬ b < a := fun {a b} h1 h2 => by
    rw [fa_le] at h1
    rw [fa_lt] at h2
    omega
  rcases h with ⟨rfl, a, b⟩ | ⟨rfl, a, b⟩ | ⟨rfl, a, b⟩
  · obtain ⟨n, rfl, -, hn, hc⟩ := rng (lo := 0) (hi := 3) (by decide) (by decide) (nl a) (nl b)
    exact ⟨0, n, rfl, rfl, by decide, fun _ => by omega, fun q => by omega, fun q => by omega, rfl, hc⟩
  · obtain ⟨n, rfl, h1, hn, hc⟩ := rng (lo := 1) (hi := 9) (by decide) (by decide) (nl a) (nl b)
    exact ⟨1, n, rfl, rfl, by decide, fun q => by omega, fun _ => ⟨h1, hn⟩, fun q => by omega, rfl, hc⟩
  · obtain ⟨n, rfl, -, hn, hc⟩ := rng (lo := 0) (hi := 9999) (by decide) (by decide) (nl a) (nl b)
    exact ⟨2, n, rfl, rfl, by decide, fun q => by omega, fun q => by omega, fun _ => hn, rfl, hc⟩
theorem pu_X1_rule (g : CS) (σ : XS) (x1 : Int32) (x2 : Int32) (x3 : Int32) (hp : pr_X1_rule g σ x1 x2 x3) : wp_X1_rule g (po_X1_rule g σ x1 x2 x3) σ x1 x2 x3 := by
  have hR : RX g σ := hp
  unfold wp_X1_rule po_X1_rule sp_rule st_rule
  rw [isk hR, isl0]
  refine ⟨fun c => ⟨fun d => ?_, fun d => ?_⟩, fun c => ?_⟩
  · obtain ⟨w, v, rfl, rfl, hw, a0, a1, a2, hwc, hvc⟩ := good_rule d
    have hk := out_lt c
    have h8 := hR.1.1
    refine ⟨vin_le c h8, ⟨krr hR hk, w, v, rfl, rfl, hw, a0, a1, a2⟩, fun r u hu => ?_⟩
    obtain ⟨hr, hu⟩ := hu
    rw [hwc, hvc] at hu
    rw [hwc] at hr
    rw [if_neg c, if_neg d, if_neg c, if_neg d, hwc]
    have hq := fun j => cq_rule (C := g) (x := x1) (w := nI w) (v := nI v) (by omega) (k := j)
    rw [hwc, hvc] at hq
    refine ⟨?_, ?_⟩
    · rw [hr, cq_ne (by omega)]
    · refine rx_put (q' := qup (cq g x1.toNatClampNeg) (7 + w) v) hR hk rfl rfl (fun j => ?_) (fun j hj => ?_) hu
      · rw [hq j]
        by_cases h : j = x1.toNatClampNeg
        · rw [if_pos h, if_pos h, h]
        · rw [if_neg h, if_neg h]
      · show (if j = x1.toNatClampNeg then _ else c_q g j) = c_q g j
        rw [if_neg (by omega)]
  · rw [if_neg c, if_pos d, if_neg c, if_pos d]
    exact ⟨rfl, hR⟩
  · rw [if_pos c, if_pos c]
    exact ⟨rfl, hR⟩
theorem pu_X1_kind (g : CS) (σ : XS) (x1 : Int32) (hp : pr_X1_kind g σ x1) : wp_X1_kind g (po_X1_kind g σ x1) σ x1 := by
  have hR : RX g σ := hp
  obtain ⟨⟨k1, k2, k3, k4, k5, k6, k7, k8, k9, k10, k11, k12, k13⟩, r1, r2, r3, r4, r5, r6, r7, r8, r9, r10, r11, r12⟩ := id hR
  have e8 : xs_kc σ = 8 ↔ c_nk g = 8 := by
    rw [r1]
    exact nI_eq (a := c_nk g) (b := 8) (by omega) (by decide)
  unfold wp_X1_kind po_X1_kind sp_kind st_kind
  refine ⟨fun c => ⟨by rw [if_pos (Or.inl c)], by rw [if_pos (Or.inl c)]; exact hR⟩, fun c => ⟨fun d => ⟨fun h => ?_, fun h => ?_⟩, fun d => ?_⟩⟩
  · have hn : ¬ (x1 < 0 ∨ 3 < x1) := by
      rintro (q | q)
      · exact c q
      · rw [fa_lt] at q
        rw [fa_le] at d
        omega
    have hnk : ¬ c_nk g = 8 := fun q => h (e8.mpr q)
    have hcl : (xs_kc σ).toNatClampNeg = c_nk g := by rw [r1]; exact nI_cl (by omega)
    obtain ⟨o, rfl, -, ho, hc⟩ := rng (lo := 0) (hi := 3) (by decide) (by decide) (fun q => hn (Or.inl q)) (fun q => hn (Or.inr q))
    rw [hcl]
    refine ⟨by rw [r1]; exact vp_in_nI (by omega) (by decide), ⟨r2 _ (by omega), k2 _ (by omega), o, rfl, by omega⟩, fun u hu => ?_⟩
    have hu : KRR (qup (cq g (c_nk g)) 0 (nI o).toNatClampNeg) u := hu
    rw [if_neg hn, if_neg hn, if_neg hnk, if_neg hnk]
    refine ⟨?_, ?_⟩
    · show xs_kc σ + 1 - 1 = nI (c_nk g)
      rw [r1, nI_1, nI_pred]
    · have hq := fun j => cq_kind (C := g) (op := nI o) (k := j)
      refine ⟨⟨show c_nk g + 1 ≤ 8 by omega, fun j hj => ?_, fun j hj => ?_, k4, fun p hp => Nat.lt_succ_of_lt (k5 p hp), k6, k7, k8, k9, k10, k11, k12, k13.1, fun i hi => k13.2 i (Nat.le_of_succ_le hi)⟩, ?_, fun j hj => ?_, fun j hj => ?_, r4, r5, r6, r7, r8, r9, r10, r11, r12⟩
      · rw [hq j]
        by_cases hj2 : j = c_nk g
        · rw [if_pos hj2, hj2]; exact hu.2.1
        · rw [if_neg hj2]; exact k2 j hj
      · have hj : c_nk g + 1 ≤ j := hj
        show (if j = c_nk g then _ else c_q g j) = q00
        rw [if_neg (by omega)]
        exact k3 j (by omega)
      · show xs_kc σ + 1 = nI (c_nk g + 1)
        rw [r1, nI_1]
      · rw [hq j]
        show KR0 _ (va_up (xs_ki σ) (c_nk g) u j)
        by_cases hj2 : j = c_nk g
        · subst hj2
          rw [if_pos rfl, va_up_self]
          exact hu.1
        · rw [if_neg hj2, va_up_ne _ _ hj2]
          exact r2 j hj
      · have hj : j < c_nk g + 1 := hj
        rw [hq j]
        show KRc _ (va_up (xs_ki σ) (c_nk g) u j)
        by_cases hj2 : j = c_nk g
        · subst hj2
          rw [if_pos rfl, va_up_self]
          exact hu.2.2
        · rw [if_neg hj2, va_up_ne _ _ hj2]
          exact r3 j (by omega)
  · have hn : ¬ (x1 < 0 ∨ 3 < x1) := by
      rintro (q | q)
      · exact c q
      · rw [fa_lt] at q
        rw [fa_le] at d
        omega
    rw [if_neg hn, if_neg hn, if_pos (e8.mp h), if_pos (e8.mp h)]
    exact ⟨rfl, hR⟩
  · rw [if_pos (Or.inr (fa_of_nle d)), if_pos (Or.inr (fa_of_nle d))]
    exact ⟨rfl, hR⟩
