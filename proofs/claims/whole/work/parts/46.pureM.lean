/-! the model: seats, misses, marks, apart, unlike -/
theorem m_ix {C : CS} (hC : COk C) {x : Int32} (h : ¬ noSd C x) : (8 : Int32) * (x / 10) + (x - x / 10 * 10) = nI (8 * (x.toNatClampNeg / 10) + x.toNatClampNeg % 10) ∧ (8 : Int32) * ((8 : Int32) * (x / 10) + (x - x / 10 * 10)) = nI (sti x) ∧ sti x + 8 ≤ 512 ∧ x.toNatClampNeg / 10 < c_ro C ∧ x.toNatClampNeg % 10 < c_co C ∧ x.toNatClampNeg / 10 < 8 ∧ x.toNatClampNeg % 10 < 8 := by
  obtain ⟨r, c, rfl, h1, h2, h3, h4, h5, h6, h7⟩ := seat_ex hC h
  have e1 : nI (10 * r + c) / 10 = nI r := by
    rw [show (10 : Int32) = nI 10 from rfl, pk_div (by omega) (by decide) (by decide)]
    congr 1
    omega
  have e2 : nI (10 * r + c) - nI (10 * r + c) / 10 * 10 = nI c := by
    have := pk_rem (a := 10 * r + c) (d := 10) (by omega) (by decide) (by decide)
    rw [show (10 * r + c) % 10 = c by omega] at this
    exact this
  rw [e2, e1, h5, h6, show (8 : Int32) = nI 8 from rfl, pk_mul, nI_add, pk_mul]
  refine ⟨rfl, ?_, ?_, h1, h2, h3, h4⟩
  · unfold sti
    rw [h5, h6]
  · unfold sti
    rw [h5, h6]
    omega
theorem cq_seats {C : CS} {a b : Int32} {k : Nat} : cq (nx_seats C a b) k = cq C k := rfl
theorem ok_seats {C : CS} (hC : COk C) {a b : Nat} (ha1 : 1 ≤ a) (ha2 : a ≤ 8) (hb1 : 1 ≤ b) (hb2 : b ≤ 8) (hac : (nI a).toNatClampNeg = a) (hbc : (nI b).toNatClampNeg = b) : COk (nx_seats C (nI a) (nI b)) := by
  obtain ⟨k1, k2, k3, k4, k5, k6, k7, k8, k9, k10, k11, k12, k13⟩ := hC
  unfold nx_seats
  rw [hac, hbc]
  exact ⟨k1, k2, k3, k4, k5, k6, k7, ha1, ha2, hb1, hb2, k12, by rw [show c_mi _ = fun _ => 0 from rfl, sm_zero]; exact Nat.zero_le _, fun _ _ => rfl⟩
theorem mk_same {q : Nat → Nat} {k : Nat} {τ τ' : MS} (h : MK q k τ) (e1 : ms_op τ' = ms_op τ) (e2 : ms_fr τ' = ms_fr τ) (e3 : ms_to τ' = ms_to τ) (e4 : ms_la τ' = ms_la τ) (e5 : ms_ta τ' = ms_ta τ) (e6 : ms_be τ' = ms_be τ) : MK q k τ' := by
  unfold MK at h ⊢
  rw [e1, e2, e3, e4, e5, e6]
  exact h
theorem mkc_same {q : Nat → Nat} {k : Nat} {τ τ' : MS} (h : MKc q k τ) (e1 : ms_ma τ' = ms_ma τ) (e2 : ms_pa τ' = ms_pa τ) : MKc q k τ' := by
  unfold MKc at h ⊢
  rw [e1, e2]
  exact h
theorem mk0_same {k : Nat} {τ τ' : MS} (h : MK0 k τ) (e1 : ms_fr τ' = ms_fr τ) (e2 : ms_la τ' = ms_la τ) (e3 : ms_be τ' = ms_be τ) (e4 : ms_is τ' = ms_is τ) : MK0 k τ' := by
  unfold MK0 at h ⊢
  rw [e1, e2, e3, e4]
  exact h
theorem pu_X2_seats (g : CS) (σ : MS) (x1 : Int32) (x2 : Int32) (hp : pr_X2_seats g σ x1 x2) : wp_X2_seats g (po_X2_seats g σ x1 x2) σ x1 x2 := by
  have hR : RM g (ms_s_th σ 0) := hp
  have hpo : po_X2_seats g σ x1 x2 = fun r u => r = sp_seats g x1 x2 ∧ RM (st_seats g x1 x2) u := rfl
  rw [hpo]
  unfold wp_X2_seats
  generalize ms_s_th σ 0 = T at hR ⊢
  have bad : badS x1 x2 → (-2 : Int32) = sp_seats g x1 x2 ∧ RM (st_seats g x1 x2) T := fun h => by
    unfold sp_seats st_seats
    rw [if_pos h, if_pos h]
    exact ⟨rfl, hR⟩
  rw [in0 (v := x1) (lo' := 1) (hi' := 8) (by decide) (by decide), in0 (v := x2) (lo' := 1) (hi' := 8) (by decide) (by decide)]
  refine ⟨fun c => bad (c.elim Or.inl (fun q => Or.inr (Or.inl q))), fun c => ⟨fun d x3 e3 => ?_, fun d => bad (Or.inr (Or.inr d))⟩⟩
  have hn : ¬ badS x1 x2 := by
    rintro (q | q | q | q)
    · exact c (Or.inl q)
    · exact c (Or.inr q)
    · exact d (Or.inl q)
    · exact d (Or.inr q)
  obtain ⟨a, rfl, ha1, ha2, hac⟩ := rng (lo := 1) (hi := 8) (by decide) (by decide) (fun q => c (Or.inl q)) (fun q => c (Or.inr q))
  obtain ⟨b, rfl, hb1, hb2, hbc⟩ := rng (lo := 1) (hi := 8) (by decide) (by decide) (fun q => d (Or.inl q)) (fun q => d (Or.inr q))
  obtain ⟨hC, m1, m2, m3, m4, m5, m6, m7, m8, m9, m10, m11, m12, m13, m14⟩ := id hR
  replace e3 : x3 = nI (c_ro g * c_co g) := by rw [e3, m9, m10, pk_mul]
  subst e3
  obtain ⟨B, hB⟩ : ∃ B, B = ms_s_co (ms_s_ro T (nI a)) (nI b) := ⟨_, rfl⟩
  rw [← hB]
  have hRB : ∀ f : Nat → Int32, (∀ i, i < 512 → f i = 0) → RM (nx_seats g (nI a) (nI b)) (ms_s_mi B f) := by
    intro f hf
    have b1 : ms_ki B = ms_ki T := by rw [hB]
    have b2 : ms_op B = ms_op T := by rw [hB]
    have b3 : ms_fr B = ms_fr T := by rw [hB]
    have b4 : ms_to B = ms_to T := by rw [hB]
    have b5 : ms_la B = ms_la T := by rw [hB]
    have b6 : ms_ta B = ms_ta T := by rw [hB]
    have b7 : ms_be B = ms_be T := by rw [hB]
    have b8 : ms_is B = ms_is T := by rw [hB]
    have b9 : ms_ma B = ms_ma T := by rw [hB]
    have b10 : ms_pa B = ms_pa T := by rw [hB]
    have b11 : ms_pc B = ms_pc T := by rw [hB]
    have b12 : ms_pn B = ms_pn T := by rw [hB]
    have b13 : ms_li B = ms_li T := by rw [hB]
    have b14 : ms_ro B = nI a := by rw [hB]
    have b15 : ms_co B = nI b := by rw [hB]
    have b16 : ms_ba B = ms_ba T := by rw [hB]
    have b17 : ms_ri B = ms_ri T := by rw [hB]
    have b18 : ms_wr B = ms_wr T := by rw [hB]
    refine ⟨ok_seats hC ha1 ha2 hb1 hb2 hac hbc, b1.trans m1, fun k hk => ?_, fun k hk => ?_, fun k hk ht => ?_, fun k hk hk2 => ?_, b11.trans m6, fun p hp => ?_, b13.trans m8, ?_, ?_, b16.trans m11, hf, b17.trans m13, b18.trans m14⟩
    · rw [cq_seats]; exact mk_same (m2 k hk) b2 b3 b4 b5 b6 b7
    · show ms_is B k = 0 ∨ ms_is B k = 1
      rw [b8]; exact m3 k hk
    · replace ht : ms_is B k = 1 := ht
      rw [b8] at ht
      rw [cq_seats]; exact mkc_same (m4 k hk ht) b9 b10
    · exact mk0_same (m5 k hk hk2) b3 b5 b7 b8
    · show ms_pn B p = _
      rw [b12]; exact m7 p hp
    · show ms_ro B = nI (nI a).toNatClampNeg
      rw [hac]; exact b14
    · show ms_co B = nI (nI b).toNatClampNeg
      rw [hbc]; exact b15
  refine lp_rule (fun t => t.2.1 = nI (c_ro g * c_co g) ∧ ∃ j : Nat, t.2.2 = nI j ∧ j ≤ 512 ∧ ∃ f : Nat → Int32, t.1 = ms_s_mi B f ∧ ∀ i, i < j → f i = 0) (fun t => 1000 - t.2.2.toNatClampNeg) ?_ ⟨rfl, 0, rfl, Nat.zero_le _, ms_mi B, rfl, fun i hi => absurd hi (Nat.not_lt_zero i)⟩
  rintro K ⟨s, y1, y2⟩ ⟨e1, j, e2, hj, f, e4, hf⟩ ih
  dsimp only at e1 e2 e4 ih ⊢
  subst e1 e2 e4
  unfold wp_X2_seats_55
  have h512 : (512 : Int32) ≤ nI j ↔ 512 ≤ j := nI_leI (a := 512) (b := j) (by decide) (by omega)
  rw [h512]
  refine ⟨fun c2 => ?_, fun c2 => ⟨vp_in_nI (by omega) (by decide), ?_⟩⟩
  · unfold sp_seats st_seats
    rw [if_neg hn, if_neg hn]
    exact ⟨rfl, hRB f (fun i hi => hf i (by omega))⟩
  · rintro y rfl
    have hjc : (nI j).toNatClampNeg = j := nI_cl (by omega)
    refine ih _ ⟨rfl, j + 1, nI_1 j, by omega, upd f (nI j).toNatClampNeg 0, rfl, fun i hi => ?_⟩ ?_
    · rw [hjc]
      by_cases h : i = j
      · subst h
        exact pk_us
      · rw [pk_un h]
        exact hf i (by omega)
    · dsimp only
      rw [nI_1, nI_cl (by omega), nI_cl (by omega)]
      omega
theorem pu_X2_missedOf (g : CS) (σ : MS) (x1 : Int32) (x2 : Int32) (hp : pr_X2_missedOf g σ x1 x2) : wp_X2_missedOf g (fun r u => r = fn_X2_missedOf g σ x1 x2 ∧ u = σ) σ x1 x2 := by
  obtain ⟨hR, hs, hk⟩ := hp
  obtain ⟨i1, i2, i3, -, -, -, -⟩ := m_ix hR.1 hs
  unfold wp_X2_missedOf fn_X2_missedOf
  have hmi := hR.2.2.2.2.2.2.2.2.2.2.2.2.1
  refine lp_rule (fun t => t.1 = σ ∧ t.2.1 = x1 ∧ t.2.2.1 = x2 ∧ ∃ j : Nat, t.2.2.2.2 = nI j ∧ j ≤ 8 ∧ t.2.2.2.1 = if x2 = -9 then nI (fb_sm (fun k => c_mi g (sti x1 + k)) j) else if x2.toNatClampNeg < j then nI (c_mi g (sti x1 + x2.toNatClampNeg)) else 0) (fun t => 100 - t.2.2.2.2.toNatClampNeg) ?_ ⟨rfl, rfl, rfl, 0, rfl, by decide, by dsimp only; split <;> rfl⟩
  rintro K ⟨s, y1, y2, y3, y4⟩ ⟨e0, e1, e2, j, e4, hj, e3⟩ ih
  dsimp only at e0 e1 e2 e3 e4 ih ⊢
  subst e0 e1 e2 e4
  unfold wp_X2_missedOf_5 wp_X2_missedOf_25
  have h8 : (8 : Int32) ≤ nI j ↔ 8 ≤ j := nI_leI (a := 8) (b := j) (by decide) (by omega)
  rw [h8, i2, nI_add]
  have mu : 100 - (nI (j + 1)).toNatClampNeg < 100 - (nI j).toNatClampNeg := by
    rw [nI_cl (by omega), nI_cl (by omega)]
    omega
  have hjc : (nI (sti y1 + j)).toNatClampNeg = sti y1 + j := nI_cl (by omega)
  refine ⟨fun c => ⟨?_, rfl⟩, fun c => ⟨fun d => ⟨vp_in_nI (by omega) (by decide), ?_⟩, fun d => ⟨fun d2 => ?_, fun d2 => ⟨vp_in_nI (by omega) (by decide), ?_⟩⟩⟩⟩
  · have hj8 : j = 8 := by omega
    subst hj8
    rw [e3]
    by_cases h : y2 = -9
    · rw [if_pos h, if_pos h]; rfl
    · rw [if_neg h, if_neg h]
      rcases hk with hk | ⟨k, rfl, hk⟩
      · exact absurd hk h
      · rw [nI_cl (by omega), if_pos hk]
  · rintro y rfl z rfl
    refine ih _ ⟨rfl, rfl, rfl, j + 1, nI_1 j, by omega, ?_⟩ (by dsimp only; rw [nI_1]; exact mu)
    dsimp only
    rw [if_pos d] at e3 ⊢
    rw [e3, hjc, hmi _ (by omega), nI_add, fb_sm_succ]
  · rintro y rfl z rfl
    refine ih _ ⟨rfl, rfl, rfl, j + 1, nI_1 j, by omega, ?_⟩ (by dsimp only; rw [nI_1]; exact mu)
    dsimp only
    rw [if_neg d] at e3 ⊢
    rcases hk with hk | ⟨k, rfl, hk⟩
    · exact absurd hk d
    · rw [nI_eq (by omega) (by omega)] at d2
      rw [nI_cl (by omega)] at e3 ⊢
      rw [e3, Int32.add_zero]
      by_cases h : k < j
      · rw [if_pos h, if_pos (by omega)]
      · rw [if_neg h, if_neg (by omega)]
  · rintro y rfl z rfl
    refine ih _ ⟨rfl, rfl, rfl, j + 1, nI_1 j, by omega, ?_⟩ (by dsimp only; rw [nI_1]; exact mu)
    dsimp only
    rw [if_neg d] at e3 ⊢
    subst d2
    have hj2 : (nI j).toNatClampNeg = j := nI_cl (by omega)
    rw [hj2] at e3 ⊢
    rw [if_neg (by omega)] at e3
    rw [if_pos (by omega), e3, hjc, hmi _ (by omega), Int32.zero_add]
theorem pu_X2_missed (g : CS) (σ : MS) (x1 : Int32) (x2 : Int32) (hp : pr_X2_missed g σ x1 x2) : wp_X2_missed g (po_X2_missed g σ x1 x2) σ x1 x2 := by
  have hR : RM g (ms_s_th σ 0) := hp
  have h8 := hR.1.1
  unfold wp_X2_missed wp_X2_missed_31 po_X2_missed sp_missed
  rw [mos hR, mok hR]
  refine ⟨fun c => ⟨by rw [if_pos (Classical.not_not.mp c)], hR⟩, fun c => ?_⟩
  rw [if_neg c]
  unfold fn_X2_missedOf
  refine ⟨fun d => ⟨⟨hR, c, Or.inl d⟩, by rw [if_pos d, if_pos d], hR⟩, fun d => ⟨fun d2 => ?_, fun d2 => ⟨by rw [if_neg d, if_pos (Classical.not_not.mp d2)], hR⟩⟩⟩
  obtain ⟨k, rfl, hk, hkc, -⟩ := out_ex d2
  exact ⟨⟨hR, c, Or.inr ⟨k, rfl, by omega⟩⟩, by rw [if_neg d, if_neg d, if_neg d2], hR⟩
theorem pu_X2_all (g : CS) (σ : MS) (x1 : Int32) (hp : pr_X2_all g σ x1) : wp_X2_all g (po_X2_all g σ x1) σ x1 := by
  have hR : RM g (ms_s_th σ 0) := hp
  have h8 := hR.1.1
  have hmi := hR.2.2.2.2.2.2.2.2.2.2.2.2.1
  unfold wp_X2_all
  rw [mok hR]
  have hpo : po_X2_all g σ x1 = fun r u => r = sp_all g x1 ∧ RM g u := rfl
  rw [hpo]
  unfold sp_all
  refine ⟨fun c => ?_, fun c => ⟨by rw [if_pos (Classical.not_not.mp c)], hR⟩⟩
  obtain ⟨k, rfl, hk, hkc, -⟩ := out_ex c
  rw [if_neg c, hkc]
  refine lp_rule (fun t => t.1 = ms_s_th σ 0 ∧ t.2.1 = nI k ∧ ∃ j : Nat, t.2.2.2 = nI j ∧ j ≤ 64 ∧ t.2.2.1 = nI (fb_sm (fun s => c_mi g (8 * s + k)) j)) (fun t => 1000 - t.2.2.2.toNatClampNeg) ?_ ⟨rfl, rfl, 0, rfl, by decide, rfl⟩
  rintro K ⟨s, y1, y2, y3⟩ ⟨e0, e1, j, e3, hj, e2⟩ ih
  dsimp only at e0 e1 e2 e3 ih ⊢
  subst e0 e1 e2 e3
  unfold wp_X2_all_19
  have h64 : (64 : Int32) ≤ nI j ↔ 64 ≤ j := nI_leI (a := 64) (by decide) (by omega)
  have hix : (8 : Int32) * nI j + nI k = nI (8 * j + k) := by rw [show (8 : Int32) = nI 8 from rfl, pk_mul, nI_add]
  rw [h64, hix]
  refine ⟨fun c2 => ⟨by rw [show j = 64 by omega], hR⟩, fun c2 => ⟨vp_in_nI (by omega) (by decide), ?_⟩⟩
  rintro y rfl z rfl
  refine ih _ ⟨rfl, rfl, j + 1, nI_1 j, by omega, ?_⟩ ?_
  · dsimp only
    rw [nI_cl (by omega), hmi _ (by omega), nI_add, fb_sm_succ]
  · dsimp only
    rw [nI_1, nI_cl (by omega), nI_cl (by omega)]
    omega
theorem seN_le (co r c : Nat) : seN co r c ≤ 3 := by
  unfold seN
  have h1 : r % 2 ≤ 1 := by omega
  have h2 : min co 2 ≤ 2 := Nat.min_le_right _ _
  have h3 : r % 2 * min co 2 ≤ 1 * 2 := Nat.mul_le_mul h1 h2
  omega
theorem shS_lt {C : CS} (hC : COk C) (s : Int32) : shS C s < 10000 := by
  have h := hC.2.2.2.2.2.2.2.2.2.2.2.1
  have h2 := seN_le (c_co C) (s.toNatClampNeg / 10) (s.toNatClampNeg % 10)
  unfold shS
  omega
theorem pu_X2_sheetOf (g : CS) (σ : MS) (x1 : Int32) (hp : pr_X2_sheetOf g σ x1) : wp_X2_sheetOf g (po_X2_sheetOf g σ x1) σ x1 := by
  obtain ⟨hR, hs⟩ := hp
  obtain ⟨i1, i2, i3, i4, i5, i6, i7⟩ := m_ix hR.1 hs
  unfold wp_X2_sheetOf po_X2_sheetOf
  rw [i1]
  refine ⟨hR, fun u hu => ?_⟩
  obtain ⟨hRu, hsit, hm⟩ := hu
  refine ⟨vp_in_nI (by omega) (by decide), ?_, hRu, hm⟩
  rw [nI_cl (by omega), hsit _ _ i6 i7, if_pos, hRu.2.2.2.2.2.2.2.2.2.2.2.1, nI_add]
  refine ⟨i5, ?_⟩
  have h := Nat.mul_le_mul_right (c_co g) (show x1.toNatClampNeg / 10 + 1 ≤ c_ro g by omega)
  rw [Nat.add_mul] at h
  omega
theorem pu_X2_seat (g : CS) (σ : MS) (x1 : Int32) (hp : pr_X2_seat g σ x1) : wp_X2_seat g (po_X2_seat g σ x1) σ x1 := by
  have hR : RM g (ms_s_th σ 0) := hp
  unfold wp_X2_seat po_X2_seat sp_seat
  rw [mos hR]
  refine ⟨fun c => ⟨⟨hR, c⟩, fun r u hu => ?_⟩, fun c => ⟨by rw [if_pos (Classical.not_not.mp c)], hR⟩⟩
  rw [if_neg c]
  exact ⟨hu.1, hu.2.1⟩
theorem pu_X2_mark (g : CS) (σ : MS) (x1 : Int32) (x2 : Int32) (x3 : Int32) (hp : pr_X2_mark g σ x1 x2 x3) : wp_X2_mark g (po_X2_mark g σ x1 x2 x3) σ x1 x2 x3 := by
  have hR : RM g (ms_s_th σ 0) := hp
  unfold wp_X2_mark po_X2_mark sp_mark st_mark
  rw [mos hR, mop hR]
  refine ⟨fun c => ⟨by rw [if_pos (Or.inl (Classical.not_not.mp c))], by rw [if_pos (Or.inl (Classical.not_not.mp c))]; exact hR⟩, fun c => ⟨fun d => ?_, fun d => ⟨by rw [if_pos (Or.inr (Classical.not_not.mp d))], by rw [if_pos (Or.inr (Classical.not_not.mp d))]; exact hR⟩⟩⟩
  have hn : ¬ (noSd g x1 ∨ outN x2 (c_np g)) := fun q => q.elim c d
  rw [if_neg hn, if_neg hn]
  refine ⟨hR, fun r u hu => ?_⟩
  obtain ⟨hr, hRu, -, -⟩ := hu
  subst hr
  by_cases hl : 0 < lackN g
  · rw [if_pos hl, if_pos hl, if_pos hl]
    exact ⟨fun q => absurd q (by decide), fun _ => ⟨rfl, hRu⟩⟩
  rw [if_neg hl, if_neg hl, if_neg hl]
  have hl0 : lackN g = 0 := by omega
  obtain ⟨p, rfl, hp1, hpc, -⟩ := out_ex d
  obtain ⟨a1, a2, a3, a4, a5, a6, a7⟩ := mpl hRu hp1
  refine ⟨fun _ => ⟨a5, ⟨hRu, c⟩, fun r2 u2 hu2 => ?_⟩, fun q => absurd rfl q⟩
  obtain ⟨hr2, hRu2, -⟩ := hu2
  subst hr2
  have hsl := shS_lt hR.1 x1
  have hsc : (nI (shS g x1)).toNatClampNeg = shS g x1 := nI_cl (by omega)
  refine ⟨⟨hRu2, d, vp_in_nI hsl (by decide), hl0⟩, fun r3 u3 hu3 => ?_⟩
  obtain ⟨hr3, hRu3, ht3, -⟩ := hu3
  rw [hsc, hpc] at hr3
  rw [hpc] at ht3
  subst hr3
  have hv := vr_lt hl0 (z := shS g x1) hp1
  have hN := nv_le (cq g (c_pn g p))
  have hvc : (nI (vrN g (shS g x1) p)).toNatClampNeg = vrN g (shS g x1) p := nI_cl (by omega)
  rw [hpc, a2]
  refine ⟨⟨hRu3, ?_, by rw [a3]; exact ht3⟩, fun x4 e4 => ?_⟩
  · rintro (h | h)
    · exact a7 h
    · rw [a3] at h
      exact (vp_in_nI hv (by omega)) h
  have hmk : mk_t g x1 (nI p) x3 = tlF (nI (c_q g (c_pn g p) 0)) (nI (kth (cq g (c_pn g p)) (vrN g (shS g x1) p) / 100)) (nI (kth (cq g (c_pn g p)) (vrN g (shS g x1) p) % 100)) x3 := by
    unfold mk_t
    rw [hpc]
  have e4 : x4 = tlF (nI (c_q g (c_pn g p) 0)) (nI (kth (cq g (c_pn g p)) (vrN g (shS g x1) p) / 100)) (nI (kth (cq g (c_pn g p)) (vrN g (shS g x1) p) % 100)) x3 := by
    rw [e4]
    show tlF (nI (c_q g (nI (c_pn g p)).toNatClampNeg 0)) (nI (kth (cq g (nI (c_pn g p)).toNatClampNeg) (nI (vrN g (shS g x1) p)).toNatClampNeg / 100)) (nI (kth (cq g (nI (c_pn g p)).toNatClampNeg) (nI (vrN g (shS g x1) p)).toNatClampNeg % 100)) x3 = _
    rw [a3, hvc]
  rw [hmk]
  subst e4
  generalize tlF (nI (c_q g (c_pn g p) 0)) (nI (kth (cq g (c_pn g p)) (vrN g (shS g x1) p) / 100)) (nI (kth (cq g (c_pn g p)) (vrN g (shS g x1) p) % 100)) x3 = v
  obtain ⟨⟨k1, k2, k3, k4, k5, k6, k7, k8, k9, k10, k11, k12, k13⟩, m1, m2, m3, m4, m5, m6, m7, m8, m9, m10, m11, m12, m13, m14⟩ := id hRu3
  obtain ⟨i1, i2, i3, i4, i5, i6, i7⟩ := m_ix hR.1 c
  have hpn : ms_pn (ms_s_wr u3 (ms_wr u3 + 1)) p = nI (c_pn g p) := m7 p hp1
  rw [i2, hpn, nI_add]
  have hi : (nI (sti x1 + c_pn g p)).toNatClampNeg = sti x1 + c_pn g p := nI_cl (by omega)
  rw [hi]
  refine ⟨fun h0 => ⟨a5, vp_in_nI (by omega) (by decide), vp_in_nI (by omega) (by decide), rfl, ?_⟩, fun h0 => ⟨rfl, ?_⟩⟩
  · rw [if_neg h0]
    refine ⟨⟨k1, k2, k3, k4, k5, k6, k7, k8, k9, k10, k11, k12, ?_, fun i hi3 => ?_⟩, m1, m2, m3, m4, m5, m6, m7, m8, m9, m10, m11, fun i hi2 => ?_, m13, ?_⟩
    · show fb_sm (qup (c_mi g) (sti x1 + c_pn g p) (c_mi g (sti x1 + c_pn g p) + 1)) 512 ≤ c_wr g + 1
      rw [sm_qup (by omega)]
      have := k13.1
      omega
    · have hi3 : c_nk g ≤ i % 8 := hi3
      show qup (c_mi g) (sti x1 + c_pn g p) (c_mi g (sti x1 + c_pn g p) + 1) i = 0
      have hs8 : sti x1 % 8 = 0 := by unfold sti; omega
      rw [qup_n (by intro q; rw [q] at hi3; omega)]
      exact k13.2 i hi3
    · show upd (ms_mi u3) (sti x1 + c_pn g p) (ms_mi u3 (sti x1 + c_pn g p) + 1) i = nI (qup (c_mi g) (sti x1 + c_pn g p) (c_mi g (sti x1 + c_pn g p) + 1) i)
      by_cases h : i = sti x1 + c_pn g p
      · subst h
        rw [pk_us, qup_s, m12 _ (by omega), nI_1]
      · rw [pk_un h, qup_n h]
        exact m12 i hi2
    · show ms_wr u3 + 1 = nI (c_wr g + 1)
      rw [m14, nI_1]
  · rw [if_pos h0]
    refine ⟨⟨k1, k2, k3, k4, k5, k6, k7, k8, k9, k10, k11, k12, k13⟩, m1, m2, m3, m4, m5, m6, m7, m8, m9, m10, m11, m12, ?_, m14⟩
    show ms_ri u3 + 1 = nI (c_ri g + 1)
    rw [m13, nI_1]
