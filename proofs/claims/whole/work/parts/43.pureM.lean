/-! the model: tell, and what asks it -/
theorem sh_val {n : Nat} (h : n < 10000) : vp_nar .short ((nI n).toInt16.toInt32) = nI n := by
  rw [pk_vs]
  exact fb_short (by rw [nI_toInt (by omega)]; omega) (by rw [nI_toInt (by omega)]; omega)
theorem nb1 : vp_nar .boolean 1 = 1 := rfl
theorem nb0 : vp_nar .boolean 0 = 0 := rfl
/-- the pairs of a kind that isn't told may be anything -/
theorem rm_pa {C : CS} {τ : MS} {k : Nat} {f : Nat → Int32} (hR : RM C τ) (h0 : ¬ told τ k) (hf : ∀ i, (i < 10000 * k ∨ 10000 * (k + 1) ≤ i) → f i = ms_pa τ i) : RM C (ms_s_pa τ f) := by
  obtain ⟨hC, m1, m2, m3, m4, m5, m6, m7, m8, m9, m10, m11, m12, m13, m14⟩ := hR
  refine ⟨hC, m1, m2, m3, fun j hj ht => ?_, m5, m6, m7, m8, m9, m10, m11, m12, m13, m14⟩
  have ht : told τ j := ht
  have hjk : j ≠ k := fun q => h0 (q ▸ ht)
  obtain ⟨a1, a2⟩ := m4 j hj ht
  refine ⟨a1, fun i hi => ?_⟩
  have hN := nv_le (cq C j)
  show f (10000 * j + i) = _
  rw [hf _ (by omega)]
  exact a2 i hi
theorem pu_X2_tell (g : CS) (σ : MS) (x1 : Int32) (hp : pr_X2_tell g σ x1) : wp_X2_tell g (po_X2_tell g σ x1) σ x1 := by
  obtain ⟨hR, hko⟩ := hp
  obtain ⟨k, rfl, hk, hkc, -⟩ := out_ex hko
  have h8 := hR.1.1
  obtain ⟨hC, m1, m2, m3, m4, m5, m6, m7, m8, m9, m10, m11, m12, m13, m14⟩ := id hR
  obtain ⟨p0, p1, p2, p3, p4, p5, p6, p7, p8, p9⟩ := mk_of hR hk
  obtain ⟨q0, q1, q2, q3, q4, q5, q6, q7, -⟩ := hR.1.2.1 k (by omega)
  have v8 : vp_in (nI k) 8 := vp_in_nI (by omega) (by decide)
  have i0 : (3 : Int32) * nI k = nI (3 * k) := by rw [show (3 : Int32) = nI 3 from rfl, pk_mul]
  have i1 : (3 : Int32) * nI k + 1 = nI (3 * k + 1) := i3
  have c0 : ((3 : Int32) * nI k).toNatClampNeg = 3 * k := by rw [i0]; exact nI_cl (by omega)
  have c1 : ((3 : Int32) * nI k + 1).toNatClampNeg = 3 * k + 1 := by rw [i1]; exact nI_cl (by omega)
  have v0 : vp_in ((3 : Int32) * nI k) 24 := by rw [i0]; exact vp_in_nI (by omega) (by decide)
  have v1 : vp_in ((3 : Int32) * nI k + 1) 24 := by rw [i1]; exact vp_in_nI (by omega) (by decide)
  unfold wp_X2_tell
  rw [hkc, c0]
  refine ⟨v8, fun c => ?_, fun c => ?_⟩
  · have ht : told σ k := (m3 k (by omega)).resolve_left c
    refine ⟨v8, ?_⟩
    unfold po_X2_tell
    rw [hkc]
    exact ⟨(m4 k hk ht).1, hR, ht, fun _ h => h⟩
  · have hnt : ¬ told σ k := by
      intro h
      have h : ms_is σ k = 1 := h
      rw [c] at h
      exact absurd h (by decide)
    refine ⟨v0, fun x3 e3 => ?_⟩
    rw [p1] at e3
    subst e3
    obtain ⟨q, eq⟩ : ∃ q, q = cq g k := ⟨_, rfl⟩
    rw [← eq] at p1 p2 p3 p4 q1 q2 q3 q4
    rw [← eq]
    refine lp_rule (fun t => t.2.1 = nI k ∧ ∃ a : Nat, t.2.2.2 = nI a ∧ q 1 ≤ a ∧ a ≤ q 2 + 1 ∧ t.2.2.1 = nI (fb_ct (PV q) (100 * a)) ∧ ∃ f : Nat → Int32, t.1 = ms_s_pa σ f ∧ (∀ j, j < fb_ct (PV q) (100 * a) → f (10000 * k + j) = nI (kth q j)) ∧ ∀ i, (i < 10000 * k ∨ 10000 * (k + 1) ≤ i) → f i = ms_pa σ i) (fun t => 200 - t.2.2.2.toNatClampNeg) ?_ ⟨rfl, q 1, rfl, Nat.le_refl _, by omega, by rw [ct_first]; rfl, ms_pa σ, rfl, fun j hj => by rw [ct_first] at hj; exact absurd hj (Nat.not_lt_zero j), fun _ _ => rfl⟩
    rintro K ⟨s, y1, y2, y3⟩ ⟨e1, a, e3, ha1, ha2, e2, f, e0, hf1, hf2⟩ ih
    dsimp only at e1 e2 e3 e0 ih ⊢
    subst e1 e2 e3 e0
    unfold wp_X2_tell_20
    have hto : ms_to (ms_s_pa σ f) ((3 : Int32) * nI k).toNatClampNeg = nI (q 2) := by rw [c0]; exact p2
    rw [hto, nI_ltI (by omega) (by omega), hkc]
    refine ⟨v0, fun c2 => ⟨v8, v8, v8, ?_⟩, fun c2 => ⟨v1, fun x4 e4 => ?_⟩⟩
    · have ha : a = q 2 + 1 := by omega
      have hN : fb_ct (PV q) (100 * a) = NV q := by rw [ha]; exact (ct_last q q2).symm
      rw [hN] at hf1 ⊢
      rw [nb1]
      unfold po_X2_tell
      rw [hkc, ← eq]
      refine ⟨?_, ⟨hC, m1, m2, fun j hj => ?_, fun j hj ht => ?_, fun j hj hj2 => ?_, m6, m7, m8, m9, m10, m11, m12, m13, m14⟩, ?_, fun j hj => ?_⟩
      · show upd (ms_ma σ) k (nI (NV q)) k = _
        rw [pk_us]
      · show upd (ms_is σ) k 1 j = 0 ∨ upd (ms_is σ) k 1 j = 1
        by_cases h : j = k
        · subst h; rw [pk_us]; exact Or.inr rfl
        · rw [pk_un h]; exact m3 j hj
      · by_cases h : j = k
        · subst h
          rw [← eq]
          refine ⟨?_, fun i hi => hf1 i hi⟩
          show upd (ms_ma σ) j (nI (NV q)) j = _
          rw [pk_us]
        · have ht : upd (ms_is σ) k 1 j = 1 := ht
          rw [pk_un h] at ht
          obtain ⟨a1, a2⟩ := m4 j hj ht
          have hNj := nv_le (cq g j)
          refine ⟨?_, fun i hi => ?_⟩
          · show upd (ms_ma σ) k (nI (NV q)) j = _
            rw [pk_un h]; exact a1
          · show f (10000 * j + i) = _
            rw [hf2 _ (by omega)]; exact a2 i hi
      · obtain ⟨b1, b2, b3, b4, b5, b6⟩ := m5 j hj hj2
        refine ⟨b1, b2, b3, b4, b5, ?_⟩
        show upd (ms_is σ) k 1 j = 0
        rw [pk_un (by omega)]; exact b6
      · show upd (ms_is σ) k 1 k = 1
        rw [pk_us]
      · show upd (ms_is σ) k 1 j = 1
        by_cases h : j = k
        · subst h; rw [pk_us]
        · rw [pk_un h]; exact hj
    · have e4 : x4 = nI (q 3) := by rw [e4, c1]; exact p3
      subst e4
      refine lp_rule (fun t => t.2.1 = nI k ∧ t.2.2.2.1 = nI a ∧ ∃ b : Nat, t.2.2.2.2 = nI b ∧ q 3 ≤ b ∧ b ≤ q 4 + 1 ∧ t.2.2.1 = nI (fb_ct (PV q) (100 * a + b)) ∧ ∃ f : Nat → Int32, t.1 = ms_s_pa σ f ∧ (∀ j, j < fb_ct (PV q) (100 * a + b) → f (10000 * k + j) = nI (kth q j)) ∧ ∀ i, (i < 10000 * k ∨ 10000 * (k + 1) ≤ i) → f i = ms_pa σ i) (fun t => 200 - t.2.2.2.2.toNatClampNeg) ?_ ⟨rfl, rfl, q 3, rfl, Nat.le_refl _, by omega, by rw [ct_lo q (Nat.le_refl _) (by omega)], f, rfl, fun j hj => by rw [ct_lo q (Nat.le_refl _) (by omega)] at hj; exact hf1 j hj, hf2⟩
      rintro K2 ⟨s, y1, y2, y3, y4⟩ ⟨e1, e3, b, e4, hb1, hb2, e2, f2, e0, hg1, hg2⟩ ih2
      dsimp only at e1 e2 e3 e4 e0 ih2 ⊢
      subst e1 e2 e3 e4 e0
      unfold wp_X2_tell_44
      have hto1 : ms_to (ms_s_pa σ f2) ((3 : Int32) * nI k + 1).toNatClampNeg = nI (q 4) := by rw [c1]; exact p4
      rw [hto1, nI_ltI (by omega) (by omega)]
      refine ⟨v1, fun c3 => ?_, fun c3 => ?_⟩
      · rintro y rfl
        have hb : b = q 4 + 1 := by omega
        have hct : fb_ct (PV q) (100 * a + b) = fb_ct (PV q) (100 * (a + 1)) := by rw [hb]; exact (ct_hi q q4).symm
        rw [hct] at hg1 ⊢
        refine ih _ ⟨rfl, a + 1, nI_1 a, by omega, by omega, rfl, f2, rfl, hg1, hg2⟩ ?_
        dsimp only
        rw [nI_1, nI_cl (by omega), nI_cl (by omega)]
        omega
      · have hRf : RM g (ms_s_pa σ f2) := rm_pa hR hnt hg2
        have hin := pv_in q ha1 (show a ≤ q 2 by omega) hb1 (show b ≤ q 4 by omega) (by omega)
        have hh : fn_X2_holds (ms_s_pa σ f2) (nI k) (nI a) (nI b) = lwF (nI (q 0)) (nI (q 7)) (nI (q 5)) (nI (q 6)) (nI a) (nI b) := by
          unfold fn_X2_holds
          rw [hkc, eq]
          show lwF (ms_op σ k) (ms_la σ k) (ms_fr σ (3 * k + 2)) (ms_to σ (3 * k + 2)) _ _ = _
          rw [p0, p7, p5, p6]
        have hs := fb_ct_succ (PV q) (100 * a + b)
        have hcl := ct_le_n q (100 * a + b)
        rw [hh]
        refine ⟨⟨hRf, hko, a, b, rfl, rfl, by omega, by omega⟩, fun d => ?_, fun d => ?_⟩
        · rintro y rfl
          have hv : PV q (100 * a + b) = false := by
            cases hv : PV q (100 * a + b) with
            | false => rfl
            | true => exact absurd d (hin.mp hv)
          have hs' : fb_ct (PV q) (100 * a + (b + 1)) = fb_ct (PV q) (100 * a + b) := by
            rw [show 100 * a + (b + 1) = 100 * a + b + 1 by omega, hs, hv]; rfl
          refine ih2 _ ⟨rfl, rfl, b + 1, nI_1 b, by omega, by omega, by rw [hs'], f2, rfl, by rw [hs']; exact hg1, hg2⟩ ?_
          dsimp only
          rw [nI_1, nI_cl (by omega), nI_cl (by omega)]
          omega
        · have hv : PV q (100 * a + b) = true := hin.mpr d
          have hs' : fb_ct (PV q) (100 * a + (b + 1)) = fb_ct (PV q) (100 * a + b) + 1 := by
            rw [show 100 * a + (b + 1) = 100 * a + b + 1 by omega, hs, hv]; rfl
          have hix : (10000 : Int32) * nI k + nI (fb_ct (PV q) (100 * a + b)) = nI (10000 * k + fb_ct (PV q) (100 * a + b)) := by
            rw [show (10000 : Int32) = nI 10000 from rfl, pk_mul, nI_add]
          have hcv : (100 : Int32) * nI a + nI b = nI (100 * a + b) := by
            rw [show (100 : Int32) = nI 100 from rfl, pk_mul, nI_add]
          have hctb : fb_ct (PV q) (100 * a + b) < 10000 := by omega
          rw [hix, hcv, sh_val (by omega), nI_cl (by omega)]
          refine ⟨vp_in_nI (by omega) (by decide), ?_⟩
          rintro y rfl z rfl
          refine ih2 _ ⟨rfl, rfl, b + 1, nI_1 b, by omega, by omega, by rw [hs']; exact nI_1 _, upd f2 (10000 * k + fb_ct (PV q) (100 * a + b)) (nI (100 * a + b)), rfl, fun j hj => ?_, fun i hi => ?_⟩ ?_
          · rw [hs'] at hj
            by_cases h : j = fb_ct (PV q) (100 * a + b)
            · subst h
              rw [pk_us, kth_eq (by omega) hv rfl]
            · rw [pk_un (by omega)]
              exact hg1 j (by omega)
          · rw [pk_un (by omega)]
            exact hg2 i hi
          · dsimp only
            rw [nI_1, nI_cl (by omega), nI_cl (by omega)]
            omega
