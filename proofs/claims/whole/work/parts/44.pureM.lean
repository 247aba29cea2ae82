/-! the model: variants, find, slips -/
theorem not_out_of {k m : Int32} {n : Nat} (hn : n < 2 ^ 30) (hm : m = nI n) : ¬ fn_X2_in k.toInt64 0 ((m - 1).toInt64) = 0 ↔ ¬ outN k n := by rw [in_out hn hm]
theorem pu_X2_noVariant (g : CS) (σ : MS) (x1 : Int32) (x2 : Int32) (hp : pr_X2_noVariant g σ x1 x2) : wp_X2_noVariant g (po_X2_noVariant g σ x1 x2) σ x1 x2 := by
  have hR : RM g σ := hp
  unfold wp_X2_noVariant po_X2_noVariant
  rw [mok hR]
  refine ⟨fun c => ⟨hR, Or.inl ⟨Or.inl (Classical.not_not.mp c), rfl⟩⟩, fun c => ⟨⟨hR, c⟩, fun r u hu => ?_⟩⟩
  obtain ⟨hr, hRu, ht, -⟩ := hu
  have hN := nv_le (cq g x1.toNatClampNeg)
  rw [in_out (by omega) hr]
  refine ⟨fun d => ⟨hRu, Or.inr ⟨?_, rfl, ht⟩⟩, fun d => ⟨hRu, Or.inl ⟨Or.inr d, rfl⟩⟩⟩
  rintro (h | h)
  · exact c h
  · exact d h
theorem pu_X2_variants (g : CS) (σ : MS) (x1 : Int32) (hp : pr_X2_variants g σ x1) : wp_X2_variants g (po_X2_variants g σ x1) σ x1 := by
  have hR : RM g (ms_s_th σ 0) := hp
  unfold wp_X2_variants po_X2_variants sp_variants
  rw [mok hR]
  refine ⟨fun c => ⟨⟨hR, c⟩, fun r u hu => ?_⟩, fun c => ⟨by rw [if_pos (Classical.not_not.mp c)], hR⟩⟩
  obtain ⟨hr, hRu, ht, -⟩ := hu
  rw [if_neg c]
  exact ⟨hr, hRu⟩
/-- a variant of a kind that is told -/
theorem at_ok {C : CS} {τ : MS} {k i : Int32} (h : atV C τ k i) : vp_in k 8 ∧ pr_X2_pairOf C τ k i ∧ ms_op τ k.toNatClampNeg = op_k C k ∧ fn_X2_pairOf τ k i / 100 = va_a C k i ∧ fn_X2_pairOf τ k i - fn_X2_pairOf τ k i / 100 * 100 = va_b C k i ∧ kth (cq C k.toNatClampNeg) i.toNatClampNeg < 10000 ∧ c_q C k.toNatClampNeg 0 < 4 := by
  obtain ⟨hR, hv, ht⟩ := h
  have hk : ¬ outN k (c_nk C) := fun q => hv (Or.inl q)
  have hi : ¬ outN i (NV (cq C k.toNatClampNeg)) := fun q => hv (Or.inr q)
  have h8 := hR.1.1
  have hkl := out_lt hk
  have hil := out_lt hi
  have hko := kth_ok hil
  have hN := nv_le (cq C k.toNatClampNeg)
  have e : fn_X2_pairOf τ k i = nI (kth (cq C k.toNatClampNeg) i.toNatClampNeg) := (hR.2.2.2.2.1 _ hkl ht).2 _ hil
  obtain ⟨pa, pb⟩ := pair_ab hko.1
  have ho := (hR.1.2.1 _ (show k.toNatClampNeg < 8 by omega)).1
  rw [cq_ne (by decide)] at ho
  have hop := (mk_of hR hkl).1
  rw [cq_ne (by decide)] at hop
  refine ⟨vin_le hk h8, ⟨vin_le hk h8, vin_le hi hN⟩, hop, ?_, ?_, hko.1, ho⟩
  · rw [e]; exact pa
  · rw [e]; exact pb
theorem pu_X2_variant (g : CS) (σ : MS) (x1 : Int32) (x2 : Int32) (x3 : Int32) (hp : pr_X2_variant g σ x1 x2 x3) : wp_X2_variant g (po_X2_variant g σ x1 x2 x3) σ x1 x2 x3 := by
  have hR : RM g (ms_s_th σ 0) := hp
  unfold wp_X2_variant po_X2_variant sp_variant
  refine ⟨hR, fun r u hu => ?_⟩
  obtain ⟨hRu, ⟨hv, rfl⟩ | ⟨hv, rfl, ht⟩⟩ := hu
  · refine ⟨fun q => absurd q (by decide), fun _ => ⟨by rw [if_pos hv], hRu⟩⟩
  · obtain ⟨a1, a2, a3, a4, a5, a6, a7⟩ := at_ok ⟨hRu, hv, ht⟩
    refine ⟨fun _ => ⟨a2, fun x4 e4 => ⟨a2, fun x5 e5 => ?_⟩⟩, fun q => absurd rfl q⟩
    rw [a4] at e4
    rw [a5] at e5
    subst e4 e5
    rw [if_neg hv, a3]
    refine ⟨fun c => ⟨by rw [if_pos c], hRu⟩, fun c => ⟨fun c2 => ⟨by rw [if_neg c, if_pos c2], hRu⟩, fun c2 => ⟨fun c3 => ⟨a1, by rw [if_neg c, if_neg c2, if_pos c3]; rfl, hRu⟩, fun c3 => ⟨fun c4 => ⟨a1, fun d => ⟨?_, hRu⟩, fun d => ⟨?_, hRu⟩⟩, fun c4 => ⟨by rw [if_neg c, if_neg c2, if_neg c3, if_neg c4], hRu⟩⟩⟩⟩⟩
    · rw [if_neg c, if_neg c2, if_neg c3, if_pos c4]
      exact d.symm
    · rw [if_neg c, if_neg c2, if_neg c3, if_pos c4]
      rcases car01 (op_k g x1) (va_a g x1 x2) (va_b g x1 x2) with h | h
      · exact absurd h d
      · exact h.symm
theorem pu_X2_slipAt (g : CS) (σ : MS) (x1 : Int32) (x2 : Int32) (x3 : Int32) (hp : pr_X2_slipAt g σ x1 x2 x3) : wp_X2_slipAt g (fun r u => r = fn_X2_slipAt g σ x1 x2 x3 ∧ u = σ) σ x1 x2 x3 := by
  obtain ⟨a1, a2, a3, a4, a5, a6, a7⟩ := at_ok hp
  unfold wp_X2_slipAt fn_X2_slipAt
  rw [a5, a4, a3]
  exact ⟨a1, a2, a2, slip_eq a7 (by omega) (by omega) x3, rfl⟩
theorem pu_X2_rightAt (g : CS) (σ : MS) (x1 : Int32) (x2 : Int32) (hp : pr_X2_rightAt g σ x1 x2) : wp_X2_rightAt g (fun r u => r = fn_X2_rightAt g σ x1 x2 ∧ u = σ) σ x1 x2 := by
  obtain ⟨a1, a2, a3, a4, a5, a6, a7⟩ := at_ok hp
  unfold wp_X2_rightAt fn_X2_rightAt
  rw [a5, a4, a3]
  exact ⟨a1, a2, a2, rfl, rfl⟩
theorem pu_X2_slip (g : CS) (σ : MS) (x1 : Int32) (x2 : Int32) (x3 : Int32) (hp : pr_X2_slip g σ x1 x2 x3) : wp_X2_slip g (po_X2_slip g σ x1 x2 x3) σ x1 x2 x3 := by
  have hR : RM g (ms_s_th σ 0) := hp
  unfold wp_X2_slip po_X2_slip sp_slip
  refine ⟨hR, fun r u hu => ?_⟩
  obtain ⟨hRu, ⟨hv, rfl⟩ | ⟨hv, rfl, ht⟩⟩ := hu
  · refine ⟨fun q => absurd q (by decide), fun _ => ⟨by rw [if_pos hv], hRu⟩⟩
  · rw [in0 (v := x3) (lo' := 1) (hi' := 5) (by decide) (by decide), if_neg hv]
    refine ⟨fun _ => ⟨fun c => ⟨by rw [if_pos c], hRu⟩, fun c => ⟨⟨hRu, hv, ht⟩, by rw [if_neg c]; rfl, hRu⟩⟩, fun q => absurd rfl q⟩
theorem pu_X2_tellsOf (g : CS) (σ : MS) (x1 : Int32) (x2 : Int32) (x3 : Int32) (hp : pr_X2_tellsOf g σ x1 x2 x3) : wp_X2_tellsOf g (fun r u => r = fn_X2_tellsOf g σ x1 x2 x3 ∧ u = σ) σ x1 x2 x3 := by
  have hA : atV g σ x1 x2 := hp
  unfold wp_X2_tellsOf fn_X2_tellsOf
  refine ⟨hA, fun c => ?_, fun c => ⟨?_, rfl⟩⟩
  · replace c : ¬ x3 = ansF (op_k g x1) (va_a g x1 x2) (va_b g x1 x2) := c
    have htl : tlF (op_k g x1) (va_a g x1 x2) (va_b g x1 x2) x3 = if x3 < 0 then -9 else if slpF (op_k g x1) (va_a g x1 x2) (va_b g x1 x2) 1 = x3 then 1 else if slpF (op_k g x1) (va_a g x1 x2) (va_b g x1 x2) 2 = x3 then 2 else if slpF (op_k g x1) (va_a g x1 x2) (va_b g x1 x2) 3 = x3 then 3 else if slpF (op_k g x1) (va_a g x1 x2) (va_b g x1 x2) 4 = x3 then 4 else if slpF (op_k g x1) (va_a g x1 x2) (va_b g x1 x2) 5 = x3 then 5 else -9 := by
      unfold tlF
      rw [if_neg c]
    rw [htl]
    have hfn : ∀ s, fn_X2_slipAt g σ x1 x2 s = slpF (op_k g x1) (va_a g x1 x2) (va_b g x1 x2) s := fun _ => rfl
    by_cases hneg : x3 < 0
    · rw [if_pos hneg]
      refine lp_rule (fun t => t.1 = σ ∧ t.2.1 = x1 ∧ t.2.2.1 = x2 ∧ t.2.2.2.1 = x3 ∧ ∃ s : Nat, t.2.2.2.2 = nI s ∧ s ≤ 6) (fun t => 100 - t.2.2.2.2.toNatClampNeg) ?_ ⟨rfl, rfl, rfl, rfl, 1, rfl, by decide⟩
      rintro K ⟨s, y1, y2, y3, y4⟩ ⟨e0, e1, e2, e3, i, e4, hi⟩ ih
      dsimp only at e0 e1 e2 e3 e4 ih ⊢
      subst e0 e1 e2 e3 e4
      unfold wp_X2_tellsOf_15
      have h6 : (6 : Int32) ≤ nI i ↔ 6 ≤ i := nI_leI (a := 6) (by decide) (by omega)
      rw [h6]
      refine ⟨fun _ => ⟨rfl, rfl⟩, fun c6 => ⟨fun _ => ?_, fun q => absurd hneg q⟩⟩
      rintro y rfl
      refine ih _ ⟨rfl, rfl, rfl, rfl, i + 1, nI_1 i, by omega⟩ ?_
      dsimp only
      rw [nI_1, nI_cl (by omega), nI_cl (by omega)]
      omega
    · rw [if_neg hneg]
      have step : ∀ (n : Nat), 1 ≤ n → n ≤ 5 → ∀ (R : Int32) (F : Int32), (F = if slpF (op_k g x1) (va_a g x1 x2) (va_b g x1 x2) (nI n) = x3 then nI n else R) → ∀ m, lpX (fun K (a : MS × Int32 × Int32 × Int32 × Int32) => wp_X2_tellsOf_15 g K (fun r u => r = R ∧ u = σ) a.1 a.2.1 a.2.2.1 a.2.2.2.1 a.2.2.2.2) m (σ, x1, x2, x3, nI (n + 1)) → lpX (fun K (a : MS × Int32 × Int32 × Int32 × Int32) => wp_X2_tellsOf_15 g K (fun r u => r = F ∧ u = σ) a.1 a.2.1 a.2.2.1 a.2.2.2.1 a.2.2.2.2) (m + 1) (σ, x1, x2, x3, nI n) := by
        intro n h1 h5 R F hF m hm
        apply lpX_s
        dsimp only
        unfold wp_X2_tellsOf_15
        have h6 : (6 : Int32) ≤ nI n ↔ 6 ≤ n := nI_leI (a := 6) (by decide) (by omega)
        rw [h6, hfn]
        refine ⟨fun q => absurd q (by omega), fun _ => ⟨fun q => absurd q hneg, fun _ => ⟨hA, fun d => ?_, fun d => ⟨?_, rfl⟩⟩⟩⟩
        · rintro y rfl
          rw [if_neg d] at hF
          subst hF
          rw [nI_1]
          exact hm
        · rw [hF, if_pos d]
      refine ⟨6, ?_⟩
      refine step 1 (by decide) (by decide) _ _ rfl _ ?_
      refine step 2 (by decide) (by decide) _ _ rfl _ ?_
      refine step 3 (by decide) (by decide) _ _ rfl _ ?_
      refine step 4 (by decide) (by decide) _ _ rfl _ ?_
      refine step 5 (by decide) (by decide) _ _ rfl _ ?_
      apply lpX_s
      dsimp only
      unfold wp_X2_tellsOf_15
      exact ⟨fun _ => ⟨rfl, rfl⟩, fun q => absurd (by decide) q⟩
  · replace c : x3 = ansF (op_k g x1) (va_a g x1 x2) (va_b g x1 x2) := c
    unfold tlF
    rw [if_pos c]
theorem pu_X2_tells (g : CS) (σ : MS) (x1 : Int32) (x2 : Int32) (x3 : Int32) (hp : pr_X2_tells g σ x1 x2 x3) : wp_X2_tells g (po_X2_tells g σ x1 x2 x3) σ x1 x2 x3 := by
  have hR : RM g (ms_s_th σ 0) := hp
  unfold wp_X2_tells po_X2_tells sp_tells
  refine ⟨hR, fun r u hu => ?_⟩
  obtain ⟨hRu, ⟨hv, rfl⟩ | ⟨hv, rfl, ht⟩⟩ := hu
  · refine ⟨fun q => absurd q (by decide), fun _ => ⟨by rw [if_pos hv], hRu⟩⟩
  · refine ⟨fun _ => ⟨⟨hRu, hv, ht⟩, by rw [if_neg hv]; rfl, hRu⟩, fun q => absurd rfl q⟩
theorem pu_X2_find (g : CS) (σ : MS) (x1 : Int32) (x2 : Int32) (x3 : Int32) (hp : pr_X2_find g σ x1 x2 x3) : wp_X2_find g (po_X2_find g σ x1 x2 x3) σ x1 x2 x3 := by
  have hR : RM g (ms_s_th σ 0) := hp
  unfold wp_X2_find
  rw [mok hR]
  refine ⟨fun c => ?_, fun c => ?_⟩
  · have hsp : sp_find g x1 x2 x3 = fndV (cq g x1.toNatClampNeg) x2 x3 := by unfold sp_find; rw [if_neg c]
    obtain ⟨q, eq⟩ : ∃ q, q = cq g x1.toNatClampNeg := ⟨_, rfl⟩
    rw [← eq] at hsp
    have hN := nv_le q
    refine lp_rule (fun t => RM g t.1 ∧ t.2.1 = x1 ∧ t.2.2.1 = x2 ∧ t.2.2.2.1 = x3 ∧ ∃ i : Nat, t.2.2.2.2 = nI i ∧ i ≤ NV q ∧ ∀ j, j < i → ¬ (nI (kth q j / 100) = x2 ∧ nI (kth q j % 100) = x3)) (fun t => 20000 - t.2.2.2.2.toNatClampNeg) ?_ ⟨hR, rfl, rfl, rfl, 0, rfl, Nat.zero_le _, fun j hj => absurd hj (Nat.not_lt_zero j)⟩
    rintro K ⟨s, y1, y2, y3, y4⟩ ⟨e0, e1, e2, e3, i, e4, hi, hj⟩ ih
    dsimp only at e0 e1 e2 e3 e4 ih ⊢
    subst e1 e2 e3 e4
    unfold wp_X2_find_18 po_X2_find
    refine ⟨⟨e0, c⟩, fun r u hu => ?_⟩
    obtain ⟨hr, hRu, ht, -⟩ := hu
    rw [← eq] at hr
    subst hr
    rw [nI_leI (by omega) (by omega), hsp]
    refine ⟨fun d => ⟨?_, hRu⟩, fun d => ?_⟩
    · have hiN : i = NV q := by omega
      unfold fndV
      by_cases hb : y2 < 0 ∨ 99 < y2 ∨ y3 < 0 ∨ 99 < y3
      · rw [if_pos hb]
      · rw [if_neg hb]
        obtain ⟨a, rfl, -, ha, hac⟩ := rng (lo := 0) (hi := 99) (by decide) (by decide) (fun h => hb (Or.inl h)) (fun h => hb (Or.inr (Or.inl h)))
        obtain ⟨b, rfl, -, hb2, hbc⟩ := rng (lo := 0) (hi := 99) (by decide) (by decide) (fun h => hb (Or.inr (Or.inr (Or.inl h)))) (fun h => hb (Or.inr (Or.inr (Or.inr h))))
        rw [hac, hbc]
        by_cases hv : PV q (100 * a + b) = true
        · exfalso
          have hlt : fb_ct (PV q) (100 * a + b) < NV q := by
            have h1 := fb_ct_succ (PV q) (100 * a + b)
            rw [hv] at h1
            have h2 := ct_mono q (show 100 * a + b + 1 ≤ 10000 by omega)
            unfold NV
            simp only [if_true] at h1
            omega
          refine hj (fb_ct (PV q) (100 * a + b)) (by omega) ?_
          rw [kth_eq (by omega) hv rfl, show (100 * a + b) / 100 = a by omega, show (100 * a + b) % 100 = b by omega]
          exact ⟨rfl, rfl⟩
        · rw [if_neg hv]
    · have hiN : i < NV q := by omega
      have hic : (nI i).toNatClampNeg = i := nI_cl (by omega)
      have hA : atV g u y1 (nI i) := ⟨hRu, by
        rintro (h | h)
        · exact c h
        · rw [← eq] at h
          rcases h with h | h
          · exact absurd h (nI_pos (by omega))
          · omega, ht⟩
      obtain ⟨a1, a2, a3, a4, a5, a6, a7⟩ := at_ok hA
      have ea : va_a g y1 (nI i) = nI (kth q i / 100) := by
        show nI (kth (cq g y1.toNatClampNeg) (nI i).toNatClampNeg / 100) = _
        rw [hic, ← eq]
      have eb : va_b g y1 (nI i) = nI (kth q i % 100) := by
        show nI (kth (cq g y1.toNatClampNeg) (nI i).toNatClampNeg % 100) = _
        rw [hic, ← eq]
      rw [a5, a4, ea, eb]
      rw [hic, ← eq] at a6
      have next : ¬ (nI (kth q i / 100) = y2 ∧ nI (kth q i % 100) = y3) → ∀ z : Int32, z = nI i + 1 → K (u, y1, y2, y3, z) := by
        rintro hn z rfl
        refine ih _ ⟨hRu, rfl, rfl, rfl, i + 1, nI_1 i, by omega, fun j hj2 => ?_⟩ ?_
        · by_cases h : j = i
          · subst h; exact hn
          · exact hj j (by omega)
        · dsimp only
          rw [nI_1, nI_cl (by omega), nI_cl (by omega)]
          omega
      refine ⟨a2, fun d1 => next (fun q => d1 q.1), fun d1 => ⟨a2, fun d2 => next (fun q => d2 q.2), fun d2 => ⟨?_, hRu⟩⟩⟩
      subst d1 d2
      obtain ⟨-, hpv, hct⟩ := kth_ok hiN
      unfold fndV
      rw [nI_cl (by omega), nI_cl (by omega), show 100 * (kth q i / 100) + kth q i % 100 = kth q i by omega, if_pos hpv, hct, if_neg]
      rintro (h | h | h | h)
      · exact absurd h (nI_pos (by omega))
      · rw [show (99 : Int32) = nI 99 from rfl, nI_ltI (by omega) (by omega)] at h; omega
      · exact absurd h (nI_pos (by omega))
      · rw [show (99 : Int32) = nI 99 from rfl, nI_ltI (by omega) (by omega)] at h; omega
  · unfold po_X2_find sp_find
    rw [if_pos (Classical.not_not.mp c)]
    exact ⟨rfl, hR⟩
