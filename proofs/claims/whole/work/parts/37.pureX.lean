/-! seats, marks, apart -/
theorem sm_zero (n : Nat) : fb_sm (fun _ => 0) n = 0 := by rw [fb_sm_const, Nat.mul_zero]
theorem pu_X1_seats (g : CS) (σ : XS) (x1 : Int32) (x2 : Int32) (hp : pr_X1_seats g σ x1 x2) : wp_X1_seats g (po_X1_seats g σ x1 x2) σ x1 x2 := by
  have hR : RX g σ := hp
  obtain ⟨⟨k1, k2, k3, k4, k5, k6, k7, k8, k9, k10, k11, k12, k13⟩, r1, r2, r3, r4, r5, r6, r7, r8, r9, r10, r11, r12⟩ := id hR
  have bad : badS x1 x2 → po_X1_seats g σ x1 x2 (-2) σ := fun h => by
    unfold po_X1_seats sp_seats st_seats
    rw [if_pos h, if_pos h]
    exact ⟨rfl, hR⟩
  unfold wp_X1_seats
  refine ⟨fun c => bad (Or.inl c), fun c => ⟨fun d => bad (Or.inr (Or.inl d)), fun d => ⟨fun d2 => bad (Or.inr (Or.inr (Or.inl d2))), fun d2 => ⟨fun d3 x3 e3 => ?_, fun d3 => bad (Or.inr (Or.inr (Or.inr (fa_of_nle d3))))⟩⟩⟩⟩
  have d3' : ¬ 8 < x2 := by
    intro q
    rw [fa_lt] at q
    rw [fa_le] at d3
    omega
  have hn : ¬ badS x1 x2 := by
    rintro (q | q | q | q)
    · exact c q
    · exact d q
    · exact d2 q
    · exact d3' q
  obtain ⟨a, rfl, ha1, ha2, hac⟩ := rng (lo := 1) (hi := 8) (by decide) (by decide) c d
  obtain ⟨b, rfl, hb1, hb2, hbc⟩ := rng (lo := 1) (hi := 8) (by decide) (by decide) d2 d3'
  have e3 : x3 = nI (c_ro g * c_co g) := by rw [e3, r7, r8, pk_mul]
  subst e3
  refine lp_rule (fun t => t.2.1 = nI (c_ro g * c_co g) ∧ ∃ j : Nat, t.2.2 = nI j ∧ j ≤ 512 ∧ ∃ f : Nat → Int32, t.1 = xs_s_mi (xs_s_cc (xs_s_rc σ (nI a)) (nI b)) f ∧ ∀ i, i < j → f i = 0) (fun t => 1000 - t.2.2.toNatClampNeg) ?_ ⟨rfl, 0, rfl, Nat.zero_le _, xs_mi σ, rfl, fun i hi => absurd hi (Nat.not_lt_zero i)⟩
  rintro K ⟨s, y1, y2⟩ ⟨e1, j, e2, hj, f, e4, hf⟩ ih
  dsimp only at e1 e2 e4 ih ⊢
  subst e1 e2 e4
  unfold wp_X1_seats_48
  have h512 : (512 : Int32) ≤ nI j ↔ 512 ≤ j := nI_leI (a := 512) (b := j) (by decide) (by omega)
  rw [h512]
  refine ⟨fun c2 => ?_, fun c2 => ⟨vp_in_nI (by omega) (by decide), ?_⟩⟩
  · unfold po_X1_seats sp_seats st_seats
    rw [if_neg hn, if_neg hn]
    refine ⟨rfl, ?_⟩
    unfold nx_seats
    rw [hac, hbc]
    refine ⟨⟨k1, k2, k3, k4, k5, k6, k7, ha1, ha2, hb1, hb2, k12, by rw [show c_mi _ = fun _ => 0 from rfl, sm_zero]; exact Nat.zero_le _, fun _ _ => rfl⟩, r1, r2, r3, r4, r5, r6, rfl, rfl, r9, fun i hi => ?_, r11, r12⟩
    exact hf i (by omega)
  · rintro y rfl
    have hjc : (nI j).toNatClampNeg = j := nI_cl (by omega)
    refine ih _ ⟨rfl, j + 1, nI_1 j, by omega, upd f (nI j).toNatClampNeg 0, rfl, fun i hi => ?_⟩ ?_
    · rw [hjc]
      by_cases h : i = j
      · subst h
        exact pk_us
      · rw [pk_un h]
        exact hf i (by omega)
    · dsimp only
      rw [nI_1, nI_cl (by omega), nI_cl (by omega)]
      omega
theorem mfrom {C : CS} (hC : COk C) {σ : XS} {x : Int32} (h : ¬ noSd C x) : fn_X1_missesFrom σ x = nI (sti x) ∧ sti x + 8 ≤ 512 := by
  obtain ⟨r, c, rfl, h1, h2, h3, h4, h5, h6, h7⟩ := seat_ex hC h
  have e1 : nI (10 * r + c) / 10 = nI r := by
    rw [show (10 : Int32) = nI 10 from rfl, pk_div (by omega) (by decide) (by decide)]
    congr 1
    omega
  have e2 : irm (nI (10 * r + c)) 10 = nI c := by
    have := pk_rem (a := 10 * r + c) (d := 10) (by omega) (by decide) (by decide)
    rw [show (10 * r + c) % 10 = c by omega] at this
    exact this
  refine ⟨?_, ?_⟩
  · unfold fn_X1_missesFrom sti
    rw [e1, e2, h5, h6, show (8 : Int32) = nI 8 from rfl, pk_mul, nI_add, pk_mul]
    congr 1
    omega
  · unfold sti
    rw [h5, h6]
    omega
theorem pu_X1_missesAt (g : CS) (σ : XS) (x1 : Int32) (hp : pr_X1_missesAt g σ x1) : wp_X1_missesAt g (fun r u => r = fn_X1_missesAt g σ x1 ∧ u = σ) σ x1 := by
  obtain ⟨hR, hs⟩ := hp
  obtain ⟨m1, m2⟩ := mfrom hR.1 (σ := σ) hs
  unfold wp_X1_missesAt fn_X1_missesAt
  rintro x2 e2
  rw [m1] at e2
  subst e2
  refine lp_rule (fun t => t.1 = σ ∧ t.2.1 = nI (sti x1) ∧ ∃ j : Nat, t.2.2.2 = nI j ∧ j ≤ 8 ∧ t.2.2.1 = nI (fb_sm (fun k => c_mi g (sti x1 + k)) j)) (fun t => 100 - t.2.2.2.toNatClampNeg) ?_ ⟨rfl, rfl, 0, rfl, by decide, rfl⟩
  rintro K ⟨s, y2, y3, y4⟩ ⟨e1, e2, j, e4, hj, e3⟩ ih
  dsimp only at e1 e2 e3 e4 ih ⊢
  subst e1 e2 e3 e4
  unfold wp_X1_missesAt_11
  have h8 : (8 : Int32) ≤ nI j ↔ 8 ≤ j := nI_leI (a := 8) (b := j) (by decide) (by omega)
  rw [h8, nI_add]
  refine ⟨fun c => ⟨by rw [show j = 8 by omega]; rfl, rfl⟩, fun c => ⟨vp_in_nI (by omega) (by decide), ?_⟩⟩
  rintro y rfl z rfl
  refine ih _ ⟨rfl, rfl, j + 1, nI_1 j, by omega, ?_⟩ ?_
  · dsimp only
    rw [nI_cl (by omega), hR.2.2.2.2.2.2.2.2.2.2.1 _ (by omega), nI_add, fb_sm_succ]
  · dsimp only
    rw [nI_1, nI_cl (by omega), nI_cl (by omega)]
    omega
theorem pu_X1_missed (g : CS) (σ : XS) (x1 : Int32) (x2 : Int32) (hp : pr_X1_missed g σ x1 x2) : wp_X1_missed g (fun r u => r = fn_X1_missed g σ x1 x2 ∧ u = σ) σ x1 x2 := by
  have hR : RX g σ := hp
  unfold wp_X1_missed wp_X1_missed_24 fn_X1_missed sp_missed
  rw [isse hR, isk hR]
  refine ⟨fun c => ⟨by rw [if_pos c], rfl⟩, fun c => ?_⟩
  obtain ⟨m1, m2⟩ := mfrom hR.1 (σ := σ) c
  rw [if_neg c]
  refine ⟨fun d => ⟨fun q => absurd d q, fun _ => ⟨⟨hR, c⟩, by rw [if_pos d]; rfl, rfl⟩⟩, fun d => ⟨fun d2 => ⟨fun _ => ?_, fun q => absurd q d⟩, fun d2 => ⟨by rw [if_neg d, if_pos d2], rfl⟩⟩⟩
  obtain ⟨k, rfl, hk, hkc, -⟩ := out_ex d2
  have h8 := hR.1.1
  rw [m1, nI_add, if_neg d, if_neg d2, hkc]
  refine ⟨vp_in_nI (by omega) (by decide), ?_, rfl⟩
  rw [nI_cl (by omega)]
  exact hR.2.2.2.2.2.2.2.2.2.2.1 _ (by omega)
theorem pu_X1_all (g : CS) (σ : XS) (x1 : Int32) (hp : pr_X1_all g σ x1) : wp_X1_all g (fun r u => r = fn_X1_all g σ x1 ∧ u = σ) σ x1 := by
  have hR : RX g σ := hp
  have h8 := hR.1.1
  unfold wp_X1_all fn_X1_all sp_all
  rw [isk hR]
  refine ⟨fun c => ?_, fun c => ⟨by rw [if_pos c], rfl⟩⟩
  obtain ⟨k, rfl, hk, hkc, -⟩ := out_ex c
  rw [if_neg c, hkc]
  refine lp_rule (fun t => t.1 = σ ∧ ∃ j : Nat, t.2.2 = nI (8 * j + k) ∧ j ≤ 64 ∧ t.2.1 = nI (fb_sm (fun s => c_mi g (8 * s + k)) j)) (fun t => 1000 - t.2.2.toNatClampNeg) ?_ ⟨rfl, 0, by simp, by decide, rfl⟩
  rintro K ⟨s, y2, y3⟩ ⟨e1, j, e3, hj, e2⟩ ih
  dsimp only at e1 e2 e3 ih ⊢
  subst e1 e2 e3
  unfold wp_X1_all_14
  have h512 : (512 : Int32) ≤ nI (8 * j + k) ↔ 512 ≤ 8 * j + k := nI_leI (a := 512) (by decide) (by omega)
  rw [h512]
  refine ⟨fun c2 => ⟨by rw [show j = 64 by omega], rfl⟩, fun c2 => ⟨vp_in_nI (by omega) (by decide), ?_⟩⟩
  rintro y rfl z rfl
  have e8 : nI (8 * j + k) + 8 = nI (8 * (j + 1) + k) := by
    rw [show (8 : Int32) = nI 8 from rfl, nI_add]
    congr 1
    omega
  refine ih _ ⟨rfl, j + 1, e8, by omega, ?_⟩ ?_
  · dsimp only
    rw [nI_cl (by omega), hR.2.2.2.2.2.2.2.2.2.2.1 _ (by omega), nI_add, fb_sm_succ]
  · dsimp only
    rw [e8, nI_cl (by omega), nI_cl (by omega)]
    omega
/-- one miss more -/
theorem sm_qup {f : Nat → Nat} {i n : Nat} (h : i < n) : fb_sm (qup f i (f i + 1)) n = fb_sm f n + 1 := by
  have h1 := fb_sm_upd f (f i + 1) (n := n) h
  have h2 : (fun k => if k = i then f i + 1 else f k) = qup f i (f i + 1) := rfl
  rw [h2] at h1
  omega
theorem pu_X1_mark (g : CS) (σ : XS) (x1 : Int32) (x2 : Int32) (x3 : Int32) (hp : pr_X1_mark g σ x1 x2 x3) : wp_X1_mark g (po_X1_mark g σ x1 x2 x3) σ x1 x2 x3 := by
  have hR : RX g σ := hp
  obtain ⟨⟨k1, k2, k3, k4, k5, k6, k7, k8, k9, k10, k11, k12, k13⟩, r1, r2, r3, r4, r5, r6, r7, r8, r9, r10, r11, r12⟩ := id hR
  unfold wp_X1_mark po_X1_mark sp_mark st_mark
  rw [isse hR, isp hR, isla]
  refine ⟨fun c => ⟨by rw [if_pos (Or.inl c)], by rw [if_pos (Or.inl c)]; exact hR⟩, fun c => ⟨fun d => ⟨hR, fun d2 => ?_, fun d2 => ?_⟩, fun d => ⟨by rw [if_pos (Or.inr d)], by rw [if_pos (Or.inr d)]; exact hR⟩⟩⟩
  · have hn : ¬ (noSd g x1 ∨ outN x2 (c_np g)) := fun q => q.elim c d
    rw [if_neg hn, if_neg hn, if_neg d2, if_neg d2]
    obtain ⟨p, rfl, hp1, hpc, -⟩ := out_ex d
    obtain ⟨s1, s2⟩ := shAt hR c
    obtain ⟨a1, a2, a3, a4, a5, a6, a7⟩ := pl_ok hR hp1
    have hl : lackN g = 0 := by omega
    obtain ⟨v1, v2⟩ := vfor hR hl s2 hp1
    have hN := nv_le (cq g (c_pn g p))
    have hsc : (nI (shS g x1)).toNatClampNeg = shS g x1 := nI_cl (by omega)
    rw [hpc, s1]
    refine ⟨a5, fun x4 e4 => ?_⟩
    rw [a2] at e4
    subst e4
    rw [a3]
    have hvo : fn_X1_variantOn g σ (nI (shS g x1)) (nI p) = nI (vrN g (shS g x1) p) := by
      unfold fn_X1_variantOn
      rw [hsc, hpc]
    rw [hvo]
    refine ⟨a6, ⟨hR, d, vp_in_nI (by omega) (by decide), hl⟩, ⟨krr hR a4, _, rfl, v2⟩, fun x5 e5 => ?_⟩
    have e5 : x5 = mk_t g x1 (nI p) x3 := by
      rw [e5]
      unfold fn_X0_slipBehind mk_t
      rw [nI_cl (by omega), hpc, cq_ne (by decide)]
    have hmk : mk_t g x1 (nI p) x3 = tlF (nI (c_q g (c_pn g p) 0)) (nI (kth (cq g (c_pn g p)) (vrN g (shS g x1) p) / 100)) (nI (kth (cq g (c_pn g p)) (vrN g (shS g x1) p) % 100)) x3 := by
      unfold mk_t
      rw [hpc]
    rw [hmk] at e5 ⊢
    subst e5
    generalize tlF (nI (c_q g (c_pn g p) 0)) (nI (kth (cq g (c_pn g p)) (vrN g (shS g x1) p) / 100)) (nI (kth (cq g (c_pn g p)) (vrN g (shS g x1) p) % 100)) x3 = v
    obtain ⟨m1, m2⟩ := mfrom hR.1 (σ := xs_s_wm σ (xs_wm σ + 1)) c
    rw [m1, nI_add]
    have hi : (nI (sti x1 + c_pn g p)).toNatClampNeg = sti x1 + c_pn g p := nI_cl (by omega)
    rw [hi]
    refine ⟨fun h0 => ⟨vp_in_nI (by omega) (by decide), vp_in_nI (by omega) (by decide), rfl, ?_⟩, fun h0 => ⟨rfl, ?_⟩⟩
    · rw [if_neg h0]
      refine ⟨⟨k1, k2, k3, k4, k5, k6, k7, k8, k9, k10, k11, k12, ?_, fun i hi3 => ?_⟩, r1, r2, r3, r4, r5, r6, r7, r8, r9, fun i hi2 => ?_, r11, ?_⟩
      · show fb_sm (qup (c_mi g) (sti x1 + c_pn g p) (c_mi g (sti x1 + c_pn g p) + 1)) 512 ≤ c_wr g + 1
        rw [sm_qup (by omega)]
        have := k13.1
        omega
      · have hi3 : c_nk g ≤ i % 8 := hi3
        show qup (c_mi g) (sti x1 + c_pn g p) (c_mi g (sti x1 + c_pn g p) + 1) i = 0
        have hs8 : sti x1 % 8 = 0 := by unfold sti; omega
        rw [qup_n (by intro q; rw [q] at hi3; omega)]
        exact k13.2 i hi3
      · show upd (xs_mi σ) (sti x1 + c_pn g p) (xs_mi σ (sti x1 + c_pn g p) + 1) i = nI (qup (c_mi g) (sti x1 + c_pn g p) (c_mi g (sti x1 + c_pn g p) + 1) i)
        by_cases h : i = sti x1 + c_pn g p
        · subst h
          rw [pk_us, qup_s, r10 _ (by omega), nI_1]
        · rw [pk_un h, qup_n h]
          exact r10 i hi2
      · show xs_wm σ + 1 = nI (c_wr g + 1)
        rw [r12, nI_1]
    · rw [if_pos h0]
      refine ⟨⟨k1, k2, k3, k4, k5, k6, k7, k8, k9, k10, k11, k12, k13⟩, r1, r2, r3, r4, r5, r6, r7, r8, r9, r10, ?_, r12⟩
      show xs_rm σ + 1 = nI (c_ri g + 1)
      rw [r11, nI_1]
  · have hn : ¬ (noSd g x1 ∨ outN x2 (c_np g)) := fun q => q.elim c d
    have h3 := Classical.not_not.mp d2
    rw [if_neg hn, if_neg hn, if_pos h3, if_pos h3]
    exact ⟨rfl, hR⟩
theorem pu_X1_apart (g : CS) (σ : XS) (x1 : Int32) (hp : pr_X1_apart g σ x1) : wp_X1_apart g (fun r u => r = fn_X1_apart g σ x1 ∧ u = σ) σ x1 := by
  have hR : RX g σ := hp
  have h8 := hR.1.1
  have h4 := hR.1.2.2.2.1
  unfold wp_X1_apart fn_X1_apart sp_apart
  refine ⟨hR, fun x2 e2 => ?_⟩
  unfold fn_X1_sheetRefusal at e2
  by_cases h2 : x1 < 0 ∨ 9999 < x1
  · rw [if_pos h2] at e2 ⊢
    subst e2
    exact ⟨fun q => absurd q (by decide), fun _ => ⟨rfl, rfl⟩⟩
  rw [if_neg h2] at e2 ⊢
  by_cases h3 : 0 < lackN g
  · rw [if_pos h3] at e2 ⊢
    subst e2
    exact ⟨fun q => absurd q (by decide), fun _ => ⟨rfl, rfl⟩⟩
  rw [if_neg h3] at e2 ⊢
  subst e2
  have hen : enN g = true ↔ ∀ k, k < c_nk g → ¬ NV (cq g k) < 2 * ahd g k (c_np g) := by
    unfold enN
    rw [decide_eq_true_iff, fb_ct_zero]
    simp only [decide_eq_false_iff_not]
  refine ⟨fun _ => ?_, fun q => absurd rfl q⟩
  refine lp_rule (fun t => t.1 = σ ∧ t.2.1 = x1 ∧ ∃ j : Nat, t.2.2 = nI j ∧ j ≤ c_nk g ∧ ∀ k, k < j → ¬ NV (cq g k) < 2 * ahd g k (c_np g)) (fun t => 100 - t.2.2.toNatClampNeg) ?_ ⟨rfl, rfl, 0, rfl, Nat.zero_le _, fun k hk => absurd hk (Nat.not_lt_zero k)⟩
  rintro K ⟨s, y1, y3⟩ ⟨e1, e2, j, e3, hj, hf⟩ ih
  dsimp only at e1 e2 e3 ih ⊢
  subst e1 e2 e3
  unfold wp_X1_apart_14
  rw [hR.2.1, nI_leI (by omega) (by omega)]
  refine ⟨fun c => ?_, fun c => ⟨vp_in_nI (by omega) (by decide), ?_⟩⟩
  · have hj2 : j = c_nk g := by omega
    subst hj2
    have he : enN g = true := hen.mpr hf
    refine ⟨fun d => ⟨?_, rfl⟩, fun d => ⟨?_, rfl⟩⟩
    · rw [if_neg]
      rintro ⟨-, q⟩
      rw [fa_lt] at q
      rw [fa_le] at d
      omega
    · rw [if_pos ⟨he, fa_of_nle d⟩]
  · have hjc : (nI j).toNatClampNeg = j := nI_cl (by omega)
    have hkr := krr hR (show j < c_nk g by omega)
    have hN := nv_le (cq g j)
    have ha := ahd_le g j (c_np g)
    have he : fn_X0_hasEnoughForTwo (xs_ki s j) = 0 ↔ NV (cq g j) < 2 * ahd g j (c_np g) := by
      unfold fn_X0_hasEnoughForTwo
      have e2 : (2 : Int32) * ks_pl (xs_ki s j) = nI (2 * ahd g j (c_np g)) := by
        rw [hkr.1.2.2.2.2.2.2.2.2.2.2, cq_10, show (2 : Int32) = nI 2 from rfl, pk_mul]
      rw [hkr.2.2.1, e2]
      have e3 := nI_ltI (a := NV (cq g j)) (b := 2 * ahd g j (c_np g)) (by omega) (by omega)
      by_cases h : NV (cq g j) < 2 * ahd g j (c_np g)
      · rw [if_pos (e3.mpr h)]; exact ⟨fun _ => h, fun _ => rfl⟩
      · rw [if_neg (fun q => h (e3.mp q))]; exact ⟨fun q => absurd q (by decide), fun q => absurd q h⟩
    rw [hjc, he]
    refine ⟨fun d => ?_, fun d => ⟨?_, rfl⟩⟩
    · rintro y rfl
      refine ih _ ⟨rfl, rfl, j + 1, nI_1 j, by omega, fun k hk => ?_⟩ ?_
      · by_cases h : k = j
        · subst h; exact d
        · exact hf k (by omega)
      · dsimp only
        rw [nI_1, nI_cl (by omega), nI_cl (by omega)]
        omega
    · rw [if_neg]
      rintro ⟨q, -⟩
      exact hen.mp q j (by omega) d
