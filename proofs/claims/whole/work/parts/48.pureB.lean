/-! the model: kind, range, rule, plan -/
/-- a kind's numbers are put anew: all else of RM stays -/
theorem rm_put {C C2 : CS} {τ τ' : MS} {k : Nat} {q' : Nat → Nat} (hR : RM C τ) (hk : k < c_nk C) (h1 : C2.1 = C.1) (h3 : C2.2.2 = C.2.2) (hq : ∀ j, cq C2 j = if j = k then q' else cq C j) (hq0 : ∀ j, c_nk C ≤ j → c_q C2 j = c_q C j) (hQ : QOk q') (hK : MK q' k τ') (hO : ∀ j, j ≠ k → MK (cq C j) j τ → MK (cq C j) j τ') (hZ : ∀ j, j ≠ k → MK0 j τ → MK0 j τ') (hi : ∀ j, j ≠ k → ms_is τ' j = ms_is τ j) (hik : ms_is τ' k = 0 ∨ (ms_is τ' k = ms_is τ k ∧ PV q' = PV (cq C k)))
    (e1 : ms_ki τ' = ms_ki τ) (e2 : ms_ma τ' = ms_ma τ) (e3 : ms_pa τ' = ms_pa τ) (e4 : ms_pc τ' = ms_pc τ) (e5 : ms_pn τ' = ms_pn τ) (e6 : ms_li τ' = ms_li τ) (e7 : ms_ro τ' = ms_ro τ) (e8 : ms_co τ' = ms_co τ) (e9 : ms_ba τ' = ms_ba τ) (e10 : ms_mi τ' = ms_mi τ) (e11 : ms_ri τ' = ms_ri τ) (e12 : ms_wr τ' = ms_wr τ) : RM C2 τ' := by
  obtain ⟨⟨k1, k2, k3, k4, k5, k6, k7, k8, k9, k10, k11, k12, k13⟩, m1, m2, m3, m4, m5, m6, m7, m8, m9, m10, m11, m12, m13, m14⟩ := hR
  obtain ⟨s2, kk2, p2⟩ := C2
  obtain ⟨s1, kk1, p1⟩ := C
  dsimp only at h1 h3
  subst h1 h3
  refine ⟨⟨k1, fun j hj => ?_, fun j hj => ?_, k4, k5, k6, k7, k8, k9, k10, k11, k12, k13⟩, e1.trans m1, fun j hj => ?_, fun j hj => ?_, fun j hj ht => ?_, fun j hj hj2 => hZ j (fun q => absurd hk (by rw [← q]; exact Nat.not_lt.mpr hj)) (m5 j hj hj2), e4.trans m6, fun p hp => (congrFun e5 p).trans (m7 p hp), e6.trans m8, e7.trans m9, e8.trans m10, e9.trans m11, fun i hi => (congrFun e10 i).trans (m12 i hi), e11.trans m13, e12.trans m14⟩
  · rw [hq j]
    by_cases h : j = k
    · rw [if_pos h]; exact hQ
    · rw [if_neg h]; exact k2 j hj
  · rw [hq0 j hj]; exact k3 j hj
  · rw [hq j]
    by_cases h : j = k
    · subst h
      rw [if_pos rfl]; exact hK
    · rw [if_neg h]; exact hO j h (m2 j hj)
  · by_cases h : j = k
    · subst h
      rcases hik with h | ⟨h, -⟩
      · exact Or.inl h
      · rw [h]; exact m3 j hj
    · rw [hi j h]; exact m3 j hj
  · rw [hq j]
    have ht : ms_is τ' j = 1 := ht
    by_cases h : j = k
    · subst h
      rw [if_pos rfl]
      rcases hik with h | ⟨h, hp⟩
      · rw [h] at ht
        exact absurd ht (by decide)
      · rw [h] at ht
        have hm := m4 j hj ht
        unfold MKc NV kth at hm ⊢
        rw [e2, e3, hp]
        exact hm
    · rw [if_neg h]
      rw [hi j h] at ht
      exact mkc_same (m4 j hj ht) e2 e3
theorem i3c {k w : Nat} (hk : k < 8) (hw : w < 3) : ((3 : Int32) * nI k + nI w).toNatClampNeg = 3 * k + w ∧ vp_in ((3 : Int32) * nI k + nI w) 24 := by
  rw [i3]
  exact ⟨nI_cl (by omega), vp_in_nI (by omega) (by decide)⟩
theorem qok_range {q : Nat → Nat} {w f t : Nat} (hQ : QOk q) (hw : w < 3) (hft : f ≤ t) (ht : t ≤ (if w = 2 then 9999 else 99)) : QOk (qup (qup q (1 + 2 * w) f) (2 + 2 * w) t) := by
  obtain ⟨q0, q1, q2, q3, q4, q5, q6, q7, q8, q9, q10, q11⟩ := hQ
  rcases (show w = 0 ∨ w = 1 ∨ w = 2 by omega) with rfl | rfl | rfl
  · exact ⟨q0, hft, ht, q3, q4, q5, q6, q7, q8, q9, q10, q11⟩
  · exact ⟨q0, q1, q2, hft, ht, q5, q6, q7, q8, q9, q10, q11⟩
  · exact ⟨q0, q1, q2, q3, q4, hft, ht, q7, q8, q9, q10, q11⟩
theorem mk_range {q : Nat → Nat} {k w f t : Nat} {τ τ' : MS} (hw : w < 3) (h : MK q k τ) (e1 : ms_op τ' = ms_op τ) (e2 : ms_fr τ' = upd (ms_fr τ) (3 * k + w) (nI f)) (e3 : ms_to τ' = upd (ms_to τ) (3 * k + w) (nI t)) (e4 : ms_la τ' = ms_la τ) (e5 : ms_ta τ' = ms_ta τ) (e6 : ms_be τ' = ms_be τ) : MK (qup (qup q (1 + 2 * w) f) (2 + 2 * w) t) k τ' := by
  obtain ⟨p0, p1, p2, p3, p4, p5, p6, p7, p8, p9⟩ := h
  unfold MK
  rw [e1, e2, e3, e4, e5, e6]
  rcases (show w = 0 ∨ w = 1 ∨ w = 2 by omega) with rfl | rfl | rfl
  · exact ⟨p0, pk_us, pk_us, (pk_un (by omega)).trans p3, (pk_un (by omega)).trans p4, (pk_un (by omega)).trans p5, (pk_un (by omega)).trans p6, p7, p8, p9⟩
  · exact ⟨p0, (pk_un (by omega)).trans p1, (pk_un (by omega)).trans p2, pk_us, pk_us, (pk_un (by omega)).trans p5, (pk_un (by omega)).trans p6, p7, p8, p9⟩
  · exact ⟨p0, (pk_un (by omega)).trans p1, (pk_un (by omega)).trans p2, (pk_un (by omega)).trans p3, (pk_un (by omega)).trans p4, pk_us, pk_us, p7, p8, p9⟩
theorem nrg {v a b : Int32} : ¬ (v < a ∨ b < v) ↔ (a ≤ v ∧ v ≤ b) := by
  rw [fa_lt, fa_lt, fa_le, fa_le]
  omega
theorem pu_X2_range (g : CS) (σ : MS) (x1 : Int32) (x2 : Int32) (x3 : Int32) (x4 : Int32) (hp : pr_X2_range g σ x1 x2 x3 x4) : wp_X2_range g (po_X2_range g σ x1 x2 x3 x4) σ x1 x2 x3 x4 := by
  have hR : RM g (ms_s_th σ 0) := hp
  have hpo : po_X2_range g σ x1 x2 x3 x4 = fun r u => r = sp_range g x1 x2 x3 x4 ∧ RM (st_range g x1 x2 x3 x4) u := rfl
  rw [hpo]
  unfold wp_X2_range
  generalize ms_s_th σ 0 = T at hR ⊢
  rw [mok hR, in0 (v := x2) (lo' := 0) (hi' := 2) (by decide) (by decide), in0 (v := x3) (lo' := 0) (hi' := x4) (by decide) rfl]
  have s1 : outN x1 (c_nk g) → (-1 : Int32) = sp_range g x1 x2 x3 x4 ∧ RM (st_range g x1 x2 x3 x4) T := fun h => by
    unfold sp_range st_range
    rw [if_pos h, if_pos h]
    exact ⟨rfl, hR⟩
  have s2 : ¬ outN x1 (c_nk g) → badR x2 x3 x4 → (-2 : Int32) = sp_range g x1 x2 x3 x4 ∧ RM (st_range g x1 x2 x3 x4) T := fun h h2 => by
    unfold sp_range st_range
    rw [if_neg h, if_neg h, if_pos h2, if_pos h2]
    exact ⟨rfl, hR⟩
  have go : ¬ outN x1 (c_nk g) → ¬ (x2 < 0 ∨ 2 < x2) → ¬ (x3 < 0 ∨ x4 < x3) → ∀ b : Int32, b = (if x2 = 2 then 9999 else 99) → wp_X2_range_54 g (fun r u => r = sp_range g x1 x2 x3 x4 ∧ RM (st_range g x1 x2 x3 x4) u) T x1 x2 x3 x4 b x4 := by
    intro ho h2 h3 b hb
    unfold wp_X2_range_54
    refine ⟨fun c => ?_, fun c => s2 ho (Or.inr (Or.inr (Or.inr (Or.inr (by rw [← hb]; exact fa_of_nle c)))))⟩
    have hn : ¬ badR x2 x3 x4 := by
      rintro (q | q | q | q | q)
      · exact h2 (Or.inl q)
      · exact h2 (Or.inr q)
      · exact h3 (Or.inl q)
      · exact h3 (Or.inr q)
      · rw [← hb, fa_lt] at q
        rw [fa_le] at c
        omega
    obtain ⟨w, f, t, rfl, rfl, rfl, hw, hft, ht, hwc, hfc, htc⟩ := good_range hn
    obtain ⟨k, rfl, hk, hkc, -⟩ := out_ex ho
    have h8 := hR.1.1
    obtain ⟨ic, iv⟩ := i3c (show k < 8 by omega) hw
    rw [ic, hkc, nb0]
    have hq := fun j => cq_range (C := g) (x := nI k) (w := nI w) (f := nI f) (t := nI t) (by rw [hwc]; exact hw) (k := j)
    rw [hkc, hwc, hfc, htc] at hq
    have hput : RM (nx_range g (nI k) (nI w) (nI f) (nI t)) (ms_s_is (ms_s_to (ms_s_fr T (upd (ms_fr T) (3 * k + w) (nI f))) (upd (ms_to T) (3 * k + w) (nI t))) (upd (ms_is T) k 0)) := by
      refine rm_put (k := k) (q' := qup (qup (cq g k) (1 + 2 * w) f) (2 + 2 * w) t) hR hk rfl rfl (fun j => ?_) (fun j hj => ?_) (qok_range (hR.1.2.1 k (by omega)) hw hft ht) (mk_range hw (mk_of hR hk) rfl rfl rfl rfl rfl rfl) (fun j hj hm => ?_) (fun j hj hm => ?_) (fun j hj => pk_un hj) (Or.inl pk_us) rfl rfl rfl rfl rfl rfl rfl rfl rfl rfl rfl rfl
      · rw [hq j]
        by_cases h : j = k
        · rw [if_pos h, if_pos h, h]
        · rw [if_neg h, if_neg h]
      · show (if j = (nI k).toNatClampNeg then _ else c_q g j) = c_q g j
        rw [hkc, if_neg (by omega)]
      · obtain ⟨p0, p1, p2, p3, p4, p5, p6, p7, p8, p9⟩ := hm
        exact ⟨p0, (pk_un (by omega)).trans p1, (pk_un (by omega)).trans p2, (pk_un (by omega)).trans p3, (pk_un (by omega)).trans p4, (pk_un (by omega)).trans p5, (pk_un (by omega)).trans p6, p7, p8, p9⟩
      · obtain ⟨p1, p2, p3, p4, p5, p6⟩ := hm
        exact ⟨(pk_un (by omega)).trans p1, (pk_un (by omega)).trans p2, (pk_un (by omega)).trans p3, p4, p5, (pk_un hj).trans p6⟩
    refine ⟨iv, iv, vp_in_nI (by omega) (by decide), ⟨hput, ho⟩, fun r u hu => ?_⟩
    obtain ⟨hr, hRu, -, -⟩ := hu
    unfold sp_range st_range
    rw [if_neg ho, if_neg ho, if_neg hn, if_neg hn]
    exact ⟨hr, hRu⟩
  refine ⟨fun c => ⟨fun d => s2 c (d.elim Or.inl (fun q => Or.inr (Or.inl q))), fun d => ⟨fun e => s2 c (e.elim (fun q => Or.inr (Or.inr (Or.inl q))) (fun q => Or.inr (Or.inr (Or.inr (Or.inl q))))), fun e => ⟨fun h => go c d e _ (by rw [if_neg h]), fun h => go c d e _ (by rw [if_pos h])⟩⟩⟩, fun c => s1 (Classical.not_not.mp c)⟩
theorem qok_rule {q : Nat → Nat} {w v : Nat} (hQ : QOk q) (hw : w < 3) (a0 : w = 0 → v < 4) (a1 : w = 1 → 1 ≤ v ∧ v ≤ 9) (a2 : w = 2 → v ≤ 9999) : QOk (qup q (7 + w) v) := by
  obtain ⟨q0, q1, q2, q3, q4, q5, q6, q7, q8, q9, q10, q11⟩ := hQ
  rcases (show w = 0 ∨ w = 1 ∨ w = 2 by omega) with rfl | rfl | rfl
  · exact ⟨q0, q1, q2, q3, q4, q5, q6, a0 rfl, q8, q9, q10, q11⟩
  · exact ⟨q0, q1, q2, q3, q4, q5, q6, q7, (a1 rfl).1, (a1 rfl).2, q10, q11⟩
  · exact ⟨q0, q1, q2, q3, q4, q5, q6, q7, q8, q9, a2 rfl, q11⟩
theorem pu_X2_rule (g : CS) (σ : MS) (x1 : Int32) (x2 : Int32) (x3 : Int32) (hp : pr_X2_rule g σ x1 x2 x3) : wp_X2_rule g (po_X2_rule g σ x1 x2 x3) σ x1 x2 x3 := by
  have hR : RM g (ms_s_th σ 0) := hp
  have hpo : po_X2_rule g σ x1 x2 x3 = fun r u => r = sp_rule g x1 x2 x3 ∧ RM (st_rule g x1 x2 x3) u := rfl
  rw [hpo]
  unfold wp_X2_rule
  generalize ms_s_th σ 0 = T at hR ⊢
  rw [mok hR, in0 (v := x3) (lo' := 0) (hi' := 3) (by decide) (by decide)]
  have s1 : outN x1 (c_nk g) → (-1 : Int32) = sp_rule g x1 x2 x3 ∧ RM (st_rule g x1 x2 x3) T := fun h => by
    unfold sp_rule st_rule
    rw [if_pos h, if_pos h]
    exact ⟨rfl, hR⟩
  obtain ⟨P, hP⟩ : ∃ P : Int32 → MS → Prop, P = fun r u => r = sp_rule g x1 x2 x3 ∧ RM (st_rule g x1 x2 x3) u := ⟨_, rfl⟩
  rw [← hP]
  refine ⟨fun c => ?_, fun c => by rw [hP]; exact s1 (Classical.not_not.mp c)⟩
  have h69 : badL x2 x3 → wp_X2_rule_69 g P T x1 x2 x3 := fun h => by
    unfold wp_X2_rule_69 wp_X2_rule_70
    refine ⟨fun q => absurd rfl q, fun _ => ?_⟩
    rw [hP]
    show (-2 : Int32) = sp_rule g x1 x2 x3 ∧ RM (st_rule g x1 x2 x3) T
    unfold sp_rule st_rule
    rw [if_neg c, if_neg c, if_pos h, if_pos h]
    exact ⟨rfl, hR⟩
  have h65 : ¬ badL x2 x3 → wp_X2_rule_65 g P T x1 x2 x3 := fun hn => by
    have hsp : sp_rule g x1 x2 x3 = nI (c_q g x1.toNatClampNeg (7 + x2.toNatClampNeg)) := by
      unfold sp_rule; rw [if_neg c, if_neg hn]
    have hst : st_rule g x1 x2 x3 = nx_rule g x1 x2 x3 := by
      unfold st_rule; rw [if_neg c, if_neg hn]
    obtain ⟨w, v, rfl, rfl, hw, a0, a1, a2, hwc, hvc⟩ := good_rule hn
    obtain ⟨k, rfl, hk, hkc, -⟩ := out_ex c
    have h8 := hR.1.1
    have v8 : vp_in (nI k) 8 := vp_in_nI (by omega) (by decide)
    have hq := fun j => cq_rule (C := g) (x := nI k) (w := nI w) (v := nI v) (by rw [hwc]; exact hw) (k := j)
    rw [hkc, hwc, hvc] at hq
    rw [hkc, hwc] at hsp
    obtain ⟨p0, p1, p2, p3, p4, p5, p6, p7, p8, p9⟩ := mk_of hR hk
    have hq1 : ∀ j, cq (nx_rule g (nI k) (nI w) (nI v)) j = if j = k then qup (cq g k) (7 + w) v else cq g j := fun j => by
      rw [hq j]
      by_cases h : j = k
      · rw [if_pos h, if_pos h, h]
      · rw [if_neg h, if_neg h]
    have hq2 : ∀ j, c_nk g ≤ j → c_q (nx_rule g (nI k) (nI w) (nI v)) j = c_q g j := fun j hj => by
      show (if j = (nI k).toNatClampNeg then _ else c_q g j) = c_q g j
      rw [hkc, if_neg (by omega)]
    have hQ := qok_rule (hR.1.2.1 k (by omega)) hw a0 a1 a2
    unfold wp_X2_rule_65 wp_X2_rule_70 wp_X2_rule_113
    rw [hkc, nb0, hP, hsp, hst]
    have n1 : ¬ (nI 1 : Int32) = 0 := by decide
    have n2 : ¬ (nI 2 : Int32) = 0 := by decide
    have n3 : ¬ (nI 2 : Int32) = 1 := by decide
    rcases (show w = 0 ∨ w = 1 ∨ w = 2 by omega) with rfl | rfl | rfl
    · refine ⟨fun _ => ⟨fun d => absurd rfl d, fun _ => ⟨v8, fun d => absurd rfl d, fun _ => ⟨v8, v8, p7, ?_⟩⟩⟩, fun q => absurd q (by decide)⟩
      refine rm_put (k := k) (q' := qup (cq g k) (7 + 0) v) hR hk rfl rfl hq1 hq2 hQ ⟨p0, p1, p2, p3, p4, p5, p6, pk_us, p8, p9⟩ (fun j hj hm => ?_) (fun j hj hm => ?_) (fun j hj => pk_un hj) (Or.inl pk_us) rfl rfl rfl rfl rfl rfl rfl rfl rfl rfl rfl rfl
      · obtain ⟨p0, p1, p2, p3, p4, p5, p6, p7, p8, p9⟩ := hm
        exact ⟨p0, p1, p2, p3, p4, p5, p6, (pk_un hj).trans p7, p8, p9⟩
      · obtain ⟨p1, p2, p3, p4, p5, p6⟩ := hm
        exact ⟨p1, p2, p3, (pk_un hj).trans p4, p5, (pk_un hj).trans p6⟩
    · refine ⟨fun _ => ⟨fun _ => ⟨fun d => absurd rfl d, fun _ => ⟨v8, fun _ => ⟨fun d => absurd rfl d, fun _ => ⟨v8, p8, ?_⟩⟩, fun q => absurd q n1⟩⟩, fun q => absurd q n1⟩, fun q => absurd q (by decide)⟩
      refine rm_put (k := k) (q' := qup (cq g k) (7 + 1) v) hR hk rfl rfl hq1 hq2 hQ ⟨p0, p1, p2, p3, p4, p5, p6, p7, pk_us, p9⟩ (fun j hj hm => ?_) (fun j hj hm => hm) (fun j hj => rfl) (Or.inr ⟨rfl, pv_cong (fun i hi => qup_n (by omega))⟩) rfl rfl rfl rfl rfl rfl rfl rfl rfl rfl rfl rfl
      obtain ⟨p0, p1, p2, p3, p4, p5, p6, p7, p8, p9⟩ := hm
      exact ⟨p0, p1, p2, p3, p4, p5, p6, p7, (pk_un hj).trans p8, p9⟩
    · refine ⟨fun _ => ⟨fun _ => ⟨fun _ => ⟨v8, fun _ => ⟨fun _ => ⟨v8, p9, ?_⟩, fun q => absurd q n3⟩, fun q => absurd q n2⟩, fun q => absurd q n3⟩, fun q => absurd q n2⟩, fun q => absurd q (by decide)⟩
      refine rm_put (k := k) (q' := qup (cq g k) (7 + 2) v) hR hk rfl rfl hq1 hq2 hQ ⟨p0, p1, p2, p3, p4, p5, p6, p7, p8, pk_us⟩ (fun j hj hm => ?_) (fun j hj hm => ?_) (fun j hj => rfl) (Or.inr ⟨rfl, pv_cong (fun i hi => qup_n (by omega))⟩) rfl rfl rfl rfl rfl rfl rfl rfl rfl rfl rfl rfl
      · obtain ⟨p0, p1, p2, p3, p4, p5, p6, p7, p8, p9⟩ := hm
        exact ⟨p0, p1, p2, p3, p4, p5, p6, p7, p8, (pk_un hj).trans p9⟩
      · obtain ⟨p1, p2, p3, p4, p5, p6⟩ := hm
        exact ⟨p1, p2, p3, p4, (pk_un hj).trans p5, p6⟩
  have nb : (x2 = 0 → x3 < 0 ∨ 3 < x3) → (x2 = 1 → x3 < 1 ∨ 9 < x3) → (x2 = 2 → x3 < 0 ∨ 9999 < x3) → badL x2 x3 := fun a0 a1 a2 => by
    rintro (⟨q, h⟩ | ⟨q, h⟩ | ⟨q, h⟩)
    · exact nrg.mpr h (a0 q)
    · exact nrg.mpr h (a1 q)
    · exact nrg.mpr h (a2 q)
  have h48 : (x2 = 0 → x3 < 0 ∨ 3 < x3) → (x2 = 1 → x3 < 1 ∨ 9 < x3) → wp_X2_rule_48 g P T x1 x2 x3 := fun a0 a1 => by
    unfold wp_X2_rule_48
    rw [in0 (v := x3) (lo' := 0) (hi' := 9999) (by decide) (by decide)]
    exact ⟨fun d => h69 (nb a0 a1 (fun q => absurd q d)), fun d => ⟨fun e => h69 (nb a0 a1 (fun _ => e)), fun e => h65 (not_not_intro (Or.inr (Or.inr ⟨d, nrg.mp e⟩)))⟩⟩
  have h31 : (x2 = 0 → x3 < 0 ∨ 3 < x3) → wp_X2_rule_31 g P T x1 x2 x3 := fun a0 => by
    unfold wp_X2_rule_31
    rw [in0 (v := x3) (lo' := 1) (hi' := 9) (by decide) (by decide)]
    exact ⟨fun d => h48 a0 (fun q => absurd q d), fun d => ⟨fun e => h65 (not_not_intro (Or.inr (Or.inl ⟨d, nrg.mp e⟩))), fun e => h48 a0 (fun _ => e)⟩⟩
  exact ⟨fun d => h31 (fun q => absurd q d), fun d => ⟨fun e => h65 (not_not_intro (Or.inl ⟨d, nrg.mp e⟩)), fun e => h31 (fun _ => e)⟩⟩
theorem pu_X2_kind (g : CS) (σ : MS) (x1 : Int32) (hp : pr_X2_kind g σ x1) : wp_X2_kind g (po_X2_kind g σ x1) σ x1 := by
  have hR : RM g (ms_s_th σ 0) := hp
  have hpo : po_X2_kind g σ x1 = fun r u => r = sp_kind g x1 ∧ RM (st_kind g x1) u := rfl
  rw [hpo]
  unfold wp_X2_kind
  generalize ms_s_th σ 0 = T at hR ⊢
  obtain ⟨⟨k1, k2, k3, k4, k5, k6, k7, k8, k9, k10, k11, k12, k13⟩, m1, m2, m3, m4, m5, m6, m7, m8, m9, m10, m11, m12, m13, m14⟩ := id hR
  rw [in0 (v := x1) (lo' := 0) (hi' := 3) (by decide) (by decide)]
  have e8 : ms_ki T = 8 ↔ c_nk g = 8 := by
    rw [m1]
    exact nI_eq (a := c_nk g) (b := 8) (by omega) (by decide)
  refine ⟨fun c => ⟨fun d => ?_, fun d => ?_⟩, fun c => ?_⟩
  · show vp_in (ms_ki T) 8 ∧ vp_in (3 * ms_ki T) 24 ∧ vp_in (3 * ms_ki T + 1) 24 ∧ vp_in (3 * ms_ki T + 2) 24 ∧ vp_in (ms_ki T) 8 ∧ (ms_ki T + 1 - 1 = sp_kind g x1 ∧ RM (st_kind g x1) (ms_s_ki (ms_s_ta (ms_s_to (ms_s_op T (upd (ms_op T) (ms_ki T).toNatClampNeg x1)) (upd (upd (upd (ms_to T) (3 * ms_ki T).toNatClampNeg 9) (3 * ms_ki T + 1).toNatClampNeg 9) (3 * ms_ki T + 2).toNatClampNeg 9999)) (upd (ms_ta T) (ms_ki T).toNatClampNeg 1)) (ms_ki T + 1)))
    have hnk : ¬ c_nk g = 8 := fun q => d (e8.mpr q)
    obtain ⟨o, rfl, -, ho, hoc⟩ := rng (lo := 0) (hi := 3) (by decide) (by decide) (fun q => c (Or.inl q)) (fun q => c (Or.inr q))
    obtain ⟨n, hn⟩ : ∃ n, n = c_nk g := ⟨_, rfl⟩
    have hn8 : n < 8 := by omega
    rw [m1, ← hn]
    have i0 : (3 : Int32) * nI n = nI (3 * n) := by rw [show (3 : Int32) = nI 3 from rfl, pk_mul]
    have ic := fun w (hw : w < 3) => i3c (k := n) (w := w) hn8 hw
    have c1 : ((3 : Int32) * nI n + 1).toNatClampNeg = 3 * n + 1 := (ic 1 (by decide)).1
    have c2 : ((3 : Int32) * nI n + 2).toNatClampNeg = 3 * n + 2 := (ic 2 (by decide)).1
    have c0 : ((3 : Int32) * nI n).toNatClampNeg = 3 * n := by rw [i0]; exact nI_cl (by omega)
    have v8 : vp_in (nI n) 8 := vp_in_nI hn8 (by decide)
    rw [c0, c1, c2, nI_cl (show n < 2 ^ 31 by omega)]
    refine ⟨v8, by rw [i0]; exact vp_in_nI (by omega) (by decide), (ic 1 (by decide)).2, (ic 2 (by decide)).2, v8, ?_⟩
    unfold sp_kind st_kind
    rw [if_neg c, if_neg c, if_neg hnk, if_neg hnk]
    have hq := fun j => cq_kind (C := g) (op := nI o) (k := j)
    rw [hoc, ← hn] at hq
    have hq0 : c_q g n = q00 := k3 n (by omega)
    have hQ0 := k2 n hn8
    obtain ⟨z0, z1, z2, z3, z4, z5⟩ := m5 n (by omega) hn8
    refine ⟨by rw [nI_1, nI_pred, hn], ⟨show c_nk g + 1 ≤ 8 by omega, fun j hj => ?_, fun j hj => ?_, k4, fun p hp => Nat.lt_succ_of_lt (k5 p hp), k6, k7, k8, k9, k10, k11, k12, k13.1, fun i hi => k13.2 i (Nat.le_of_succ_le hi)⟩, ?_, fun j hj => ?_, m3, fun j hj ht => ?_, fun j hj hj2 => ?_, m6, m7, m8, m9, m10, m11, m12, m13, m14⟩
    · rw [hq j]
      by_cases h : j = n
      · rw [if_pos h, h]
        obtain ⟨q0, q1, q2, q3, q4, q5, q6, q7, q8, q9, q10, q11⟩ := hQ0
        exact ⟨show o < 4 by omega, q1, q2, q3, q4, q5, q6, q7, q8, q9, q10, q11⟩
      · rw [if_neg h]; exact k2 j hj
    · have hj : c_nk g + 1 ≤ j := hj
      show (if j = c_nk g then _ else c_q g j) = q00
      rw [if_neg (by omega)]
      exact k3 j (by omega)
    · show nI n + 1 = nI (c_nk g + 1)
      rw [nI_1, hn]
    · have hj : j < c_nk g + 1 := hj
      rw [hq j]
      by_cases h : j = n
      · subst h
        rw [if_pos rfl]
        have hqe : ∀ i, i ≠ 10 → i ≠ 0 → qup (cq g j) 0 o i = q00 i := fun i h1 h2 => by rw [qup_n h2, cq_ne h1, hq0]
        refine ⟨pk_us, ?_, ?_, ?_, ?_, ?_, ?_, ?_, ?_, ?_⟩
        · rw [hqe 1 (by decide) (by decide)]; exact z0
        · rw [hqe 2 (by decide) (by decide)]; exact (pk_un (by omega)).trans ((pk_un (by omega)).trans pk_us)
        · rw [hqe 3 (by decide) (by decide)]; exact z1
        · rw [hqe 4 (by decide) (by decide)]; exact (pk_un (by omega)).trans pk_us
        · rw [hqe 5 (by decide) (by decide)]; exact z2
        · rw [hqe 6 (by decide) (by decide)]; exact pk_us
        · rw [hqe 7 (by decide) (by decide)]; exact z3
        · rw [hqe 8 (by decide) (by decide)]; exact pk_us
        · rw [hqe 9 (by decide) (by decide)]; exact z4
      · rw [if_neg h]
        obtain ⟨p0, p1, p2, p3, p4, p5, p6, p7, p8, p9⟩ := m2 j (by omega)
        have hto : ∀ i, i < 3 * n ∨ 3 * n + 2 < i → upd (upd (upd (ms_to T) (3 * n) 9) (3 * n + 1) 9) (3 * n + 2) 9999 i = ms_to T i := fun i hi => by
          rw [pk_un (by omega), pk_un (by omega), pk_un (by omega)]
        exact ⟨(pk_un h).trans p0, p1, (hto _ (by omega)).trans p2, p3, (hto _ (by omega)).trans p4, p5, (hto _ (by omega)).trans p6, p7, (pk_un h).trans p8, p9⟩
    · have hj : j < c_nk g + 1 := hj
      have ht1 : ms_is T j = 1 := ht
      have h : j ≠ n := by
        intro q
        rw [q, z5] at ht1
        exact absurd ht1 (by decide)
      rw [hq j, if_neg h]
      exact m4 j (by omega) ht1
    · have hj : c_nk g + 1 ≤ j := hj
      exact m5 j (by omega) hj2
  · show (-4 : Int32) = sp_kind g x1 ∧ RM (st_kind g x1) T
    unfold sp_kind st_kind
    rw [if_neg c, if_neg c, if_pos (e8.mp d), if_pos (e8.mp d)]
    exact ⟨rfl, hR⟩
  · show (-2 : Int32) = sp_kind g x1 ∧ RM (st_kind g x1) T
    unfold sp_kind st_kind
    rw [if_pos c, if_pos c]
    exact ⟨rfl, hR⟩
theorem rm_pn {C : CS} {τ : MS} {f : Nat → Nat} (h : ∀ p, p < c_np C → f p = c_pn C p) (hR : RM C τ) : RM (C.1, C.2.1, f, C.2.2.2) τ := by
  obtain ⟨⟨k1, k2, k3, k4, k5, k6, k7, k8, k9, k10, k11, k12, k13⟩, m1, m2, m3, m4, m5, m6, m7, m8, m9, m10, m11, m12, m13, m14⟩ := hR
  refine ⟨⟨k1, fun j hj => by rw [cq_pn h]; exact k2 j hj, k3, k4, fun p hp => ?_, k6, k7, k8, k9, k10, k11, k12, k13⟩, m1, fun j hj => by rw [cq_pn h]; exact m2 j hj, m3, fun j hj ht => by rw [cq_pn h]; exact m4 j hj ht, m5, m6, fun p hp => ?_, m8, m9, m10, m11, m12, m13, m14⟩
  · show f p < c_nk C
    rw [h p hp]; exact k5 p hp
  · show ms_pn τ p = nI (f p)
    rw [h p hp]; exact m7 p hp
theorem rm_add {C : CS} {τ : MS} {k : Nat} (hR : RM C τ) (hk : k < c_nk C) (hn : c_np C < 40) (hpn : c_pn C (c_np C) = k) : RM (sup C 1 (c_np C + 1)) (ms_s_pc (ms_s_pn τ (upd (ms_pn τ) (c_np C) (nI k))) (ms_pc τ + 1)) := by
  obtain ⟨⟨k1, k2, k3, k4, k5, k6, k7, k8, k9, k10, k11, k12, k13⟩, m1, m2, m3, m4, m5, m6, m7, m8, m9, m10, m11, m12, m13, m14⟩ := hR
  refine ⟨⟨k1, fun j hj => ?_, k3, show c_np C + 1 ≤ 40 by omega, fun p hp => ?_, k6, k7, k8, k9, k10, k11, k12, k13⟩, m1, fun j hj => ?_, m3, fun j hj ht => ?_, m5, ?_, fun p hp => ?_, m8, m9, m10, m11, m12, m13, m14⟩
  · rw [cq_sup]
    obtain ⟨q0, q1, q2, q3, q4, q5, q6, q7, q8, q9, q10, q11⟩ := k2 j hj
    have := ahd_le C j (c_np C + 1)
    exact ⟨q0, q1, q2, q3, q4, q5, q6, q7, q8, q9, q10, show ahd C j (c_np C + 1) ≤ 40 by omega⟩
  · have hp : p < c_np C + 1 := hp
    show c_pn C p < c_nk C
    by_cases h : p = c_np C
    · rw [h, hpn]; exact hk
    · exact k5 p (by omega)
  · rw [cq_sup]
    exact m2 j hj
  · rw [cq_sup]
    have h := m4 j hj ht
    have e : PV (qup (cq C j) 10 (ahd C j (c_np C + 1))) = PV (cq C j) := pv_cong (fun i hi => qup_n (by omega))
    unfold MKc NV kth at h ⊢
    rw [e]
    exact h
  · show ms_pc τ + 1 = nI (c_np C + 1)
    rw [m6, nI_1]
  · have hp : p < c_np C + 1 := hp
    show upd (ms_pn τ) (c_np C) (nI k) p = nI (c_pn C p)
    by_cases h : p = c_np C
    · subst h
      rw [pk_us, hpn]
    · rw [pk_un h]; exact m7 p (by omega)
theorem pu_X2_plan (g : CS) (σ : MS) (x1 : Int32) (x2 : Int32) (hp : pr_X2_plan g σ x1 x2) : wp_X2_plan g (po_X2_plan g σ x1 x2) σ x1 x2 := by
  have hR : RM g (ms_s_th σ 0) := hp
  have h4 := hR.1.2.2.2.1
  have h8 := hR.1.1
  have hpo : po_X2_plan g σ x1 x2 = fun r u => r = sp_plan g x1 x2 ∧ RM (st_plan g x1 x2) u := rfl
  rw [hpo]
  unfold wp_X2_plan
  generalize ms_s_th σ 0 = T at hR ⊢
  rw [mok hR, in0 (v := x2) (lo' := 1) (hi' := 40) (by decide) (by decide)]
  have bad : ∀ {y : Int32}, sp_plan g x1 x2 = y → st_plan g x1 x2 = g → y = sp_plan g x1 x2 ∧ RM (st_plan g x1 x2) T := fun {y} e1 e2 => by
    rw [e1, e2]
    exact ⟨rfl, hR⟩
  refine ⟨fun c => ⟨fun d => ?_, fun d => bad (by unfold sp_plan; rw [if_neg c, if_pos d]) (by unfold st_plan; rw [if_neg c, if_pos d])⟩, fun c => bad (by unfold sp_plan; rw [if_pos (Classical.not_not.mp c)]) (by unfold st_plan; rw [if_pos (Classical.not_not.mp c)])⟩
  obtain ⟨n, rfl, hn1, hn2, hnc⟩ := rng (lo := 1) (hi := 40) (by decide) (by decide) (fun q => d (Or.inl q)) (fun q => d (Or.inr q))
  have h40 : ms_pc T + nI n ≤ 40 ↔ c_np g + n ≤ 40 := by
    rw [m_pc hR, nI_add]
    exact nI_leI (b := 40) (by omega) (by decide)
  rw [h40]
  refine ⟨fun d3 => ?_, fun d3 => bad (by unfold sp_plan; rw [if_neg c, if_neg d, hnc, if_pos (by omega)]) (by unfold st_plan; rw [if_neg c, if_neg d, hnc, if_pos (by omega)])⟩
  obtain ⟨k, rfl, hk, hkc, -⟩ := out_ex c
  have hsp : sp_plan g (nI k) (nI n) = nI (c_np g + n) := by
    unfold sp_plan; rw [if_neg c, if_neg d, hnc, if_neg (by omega)]
  have hst : st_plan g (nI k) (nI n) = nxp g k n := by
    unfold st_plan; rw [if_neg c, if_neg d, hnc, if_neg (by omega)]
    unfold nx_plan nxp
    rw [hkc, hnc]
  rw [hsp, hst]
  refine lp_rule (fun t => t.2.1 = nI k ∧ t.2.2.1 = nI n ∧ ∃ i : Nat, t.2.2.2 = nI i ∧ i ≤ n ∧ RM (nxp g k i) t.1) (fun t => 100 - t.2.2.2.toNatClampNeg) ?_ ⟨rfl, rfl, 0, rfl, Nat.zero_le _, by rw [nxp_0]; exact rm_pn (fun p hp => if_neg (by omega)) hR⟩
  rintro K ⟨s, y1, y2, y3⟩ ⟨e1, e2, i, e3, hi, hRi⟩ ih
  dsimp only at e1 e2 e3 hRi ih ⊢
  subst e1 e2 e3
  have hcn : c_np (nxp g k i) = c_np g + i := by
    show qup g.1 1 (c_np g + i) 1 = _
    rw [qup_s]
  have hpc : ms_pc s = nI (c_np g + i) := by rw [m_pc hRi, hcn]
  unfold wp_X2_plan_46
  rw [nI_leI (by omega) (by omega)]
  refine ⟨fun c2 => ?_, fun c2 => ?_⟩
  · have hin : i = n := by omega
    subst hin
    exact ⟨hpc, hRi⟩
  · have hpcl : (ms_pc s).toNatClampNeg = c_np (nxp g k i) := by rw [hpc, hcn]; exact nI_cl (by omega)
    refine ⟨by rw [hpc]; exact vp_in_nI (by omega) (by decide), fun y ey => ?_⟩
    subst ey
    refine ih _ ⟨rfl, rfl, i + 1, nI_1 i, by omega, ?_⟩ ?_
    · rw [nxp_s, hpcl]
      exact rm_add hRi hk (by rw [hcn]; omega) (by rw [hcn]; show (if c_np g ≤ c_np g + i then k else _) = k; rw [if_pos (by omega)])
    · dsimp only
      rw [nI_1, nI_cl (by omega), nI_cl (by omega)]
      omega
