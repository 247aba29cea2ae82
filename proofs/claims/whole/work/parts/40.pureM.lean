/-! the model: what stands -/
theorem rm_th {C : CS} {τ : MS} (v : Int32) (h : RM C τ) : RM C (ms_s_th τ v) := h
theorem in_out {k m : Int32} {n : Nat} (hn : n < 2 ^ 30) (hm : m = nI n) : fn_X2_in k.toInt64 0 ((m - 1).toInt64) = 0 ↔ outN k n := by
  subst hm
  rw [in0 (v := k) (lo' := 0) (hi' := nI n - 1) (by decide) rfl]
  have e1 : (nI n - 1).toInt = (n : Int) - 1 := pk_sub_toInt (a := n) (b := 1) (by omega) (by decide)
  constructor
  · rintro (h | h)
    · exact Or.inl h
    · by_cases h0 : k < 0
      · exact Or.inl h0
      · right
        obtain ⟨j, hj, rfl⟩ := nI_of h0
        rw [fa_lt, e1, nI_toInt hj] at h
        rw [nI_cl hj]
        omega
  · rintro (h | h)
    · exact Or.inl h
    · by_cases h0 : k < 0
      · exact Or.inl h0
      · right
        obtain ⟨j, hj, rfl⟩ := nI_of h0
        rw [nI_cl hj] at h
        rw [fa_lt, e1, nI_toInt hj]
        omega
theorem mok {C : CS} {τ : MS} (hR : RM C τ) (k : Int32) : fn_X2_noKind τ k = 0 ↔ ¬ outN k (c_nk C) := by
  unfold fn_X2_noKind
  have e := in_out (k := k) (by have := hR.1.1; omega) hR.2.1
  by_cases h : outN k (c_nk C)
  · rw [if_pos (e.mpr h)]; exact ⟨fun q => absurd q (by decide), fun q => absurd h q⟩
  · rw [if_neg (fun q => h (e.mp q))]; exact ⟨fun _ => h, fun _ => rfl⟩
theorem mop {C : CS} {τ : MS} (hR : RM C τ) (k : Int32) : fn_X2_noPlace τ k = 0 ↔ ¬ outN k (c_np C) := by
  unfold fn_X2_noPlace
  have e := in_out (k := k) (by have := hR.1.2.2.2.1; omega) hR.2.2.2.2.2.2.1
  by_cases h : outN k (c_np C)
  · rw [if_pos (e.mpr h)]; exact ⟨fun q => absurd q (by decide), fun q => absurd h q⟩
  · rw [if_neg (fun q => h (e.mp q))]; exact ⟨fun _ => h, fun _ => rfl⟩
theorem pu_X2_noKind (g : CS) (σ : MS) (x1 : Int32) : wp_X2_noKind g (fun r u => r = fn_X2_noKind σ x1 ∧ u = σ) σ x1 := by
  unfold wp_X2_noKind fn_X2_noKind
  exact ⟨fun c => ⟨by rw [if_neg c], rfl⟩, fun c => ⟨by rw [if_pos c], rfl⟩⟩
theorem pu_X2_noPlace (g : CS) (σ : MS) (x1 : Int32) : wp_X2_noPlace g (fun r u => r = fn_X2_noPlace σ x1 ∧ u = σ) σ x1 := by
  unfold wp_X2_noPlace fn_X2_noPlace
  exact ⟨fun c => ⟨by rw [if_neg c], rfl⟩, fun c => ⟨by rw [if_pos c], rfl⟩⟩
theorem pu_X2_noSeat (g : CS) (σ : MS) (x1 : Int32) : wp_X2_noSeat g (fun r u => r = fn_X2_noSeat σ x1 ∧ u = σ) σ x1 := by
  unfold wp_X2_noSeat fn_X2_noSeat
  exact ⟨fun c => ⟨by rw [if_pos c], rfl⟩, fun c => ⟨fun c2 => ⟨by rw [if_neg c, if_pos c2], rfl⟩, fun c2 => ⟨fun c3 => ⟨by rw [if_neg c, if_neg c2, if_pos c3], rfl⟩, fun c3 => ⟨by rw [if_neg c, if_neg c2, if_neg c3], rfl⟩⟩⟩⟩
theorem mos {C : CS} {τ : MS} (hR : RM C τ) (x : Int32) : fn_X2_noSeat τ x = 0 ↔ ¬ noSd C x := by
  obtain ⟨⟨k1, k2, k3, k4, k5, k6, k7, k8, k9, k10, k11, k12, k13⟩, m1, m2, m3, m4, m5, m6, m7, m8, m9, m10, m11, m12, m13, m14⟩ := id hR
  unfold fn_X2_noSeat noSd
  rw [m9, m10]
  by_cases h : x < 0
  · rw [if_pos h]
    exact ⟨fun q => absurd q (by decide), fun q => absurd (Or.inl h) q⟩
  · rw [if_neg h]
    obtain ⟨n, hn, rfl⟩ := nI_of h
    have e1 : nI n / 10 = nI (n / 10) := pk_div hn (by decide) (by decide)
    have e2 : irm (nI n) 10 = nI (n % 10) := pk_rem hn (by decide) (by decide)
    rw [e1, e2, nI_cl hn]
    have a1 : nI (c_ro C) ≤ nI (n / 10) ↔ c_ro C ≤ n / 10 := nI_leI (by omega) (by omega)
    have a2 : nI (n % 10) < nI (c_co C) ↔ n % 10 < c_co C := nI_ltI (by omega) (by omega)
    by_cases h1 : c_ro C ≤ n / 10
    · rw [if_pos (a1.mpr h1)]
      exact ⟨fun q => absurd q (by decide), fun q => absurd (Or.inr (Or.inl h1)) q⟩
    · rw [if_neg (fun q => h1 (a1.mp q))]
      by_cases h2 : n % 10 < c_co C
      · rw [if_pos (a2.mpr h2)]
        refine ⟨fun _ => ?_, fun _ => rfl⟩
        rintro (q | q | q)
        · exact h q
        · exact h1 q
        · omega
      · rw [if_neg (fun q => h2 (a2.mp q))]
        exact ⟨fun q => absurd q (by decide), fun q => absurd (Or.inr (Or.inr (by omega))) q⟩
theorem pu_X2_pairOf (g : CS) (σ : MS) (x1 : Int32) (x2 : Int32) (hp : pr_X2_pairOf g σ x1 x2) : wp_X2_pairOf g (fun r u => r = fn_X2_pairOf σ x1 x2 ∧ u = σ) σ x1 x2 := by
  obtain ⟨h1, h2⟩ := hp
  obtain ⟨k, rfl, hk, hkc, -⟩ := out_ex h1
  obtain ⟨i, rfl, hi, hic, -⟩ := out_ex h2
  unfold wp_X2_pairOf fn_X2_pairOf
  rw [hkc, hic, show (10000 : Int32) = nI 10000 from rfl, pk_mul, nI_add, nI_cl (by omega)]
  exact ⟨vp_in_nI (by omega) (by decide), rfl, rfl⟩
theorem pu_X2_total (g : CS) (σ : MS) (x1 : Int32) (hp : pr_X2_total g σ x1) : wp_X2_total g (po_X2_total g σ x1) σ x1 := by
  have hR : RM g σ := hp
  obtain ⟨hC, m1, m2, m3, m4, m5, m6, m7, m8, m9, m10, m11, m12, m13, m14⟩ := show RM g (ms_s_th σ 0) from hR
  unfold wp_X2_total po_X2_total sp_total
  rw [m1, m6, m9, m10, m13, m14, pk_mul]
  refine ⟨fun c => ⟨fun c2 => ⟨fun c3 => ⟨fun c4 => ⟨fun c5 => ?_, fun c5 => ?_⟩, fun c4 => ?_⟩, fun c3 => ?_⟩, fun c2 => ?_⟩, fun c => ?_⟩
  all_goals refine ⟨?_, hR⟩
  all_goals repeat' split
  all_goals first | rfl | contradiction
theorem pu_X2_lines (g : CS) (σ : MS) (x1 : Int32) (hp : pr_X2_lines g σ x1) : wp_X2_lines g (po_X2_lines g σ x1) σ x1 := by
  have hR : RM g σ := hp
  unfold wp_X2_lines po_X2_lines sp_lines st_lines
  rw [in0 (v := x1) (lo' := 9) (hi' := 99) (by decide) (by decide)]
  refine ⟨fun c x2 e2 => ?_, fun c => ⟨by rw [if_pos c], by rw [if_pos c]; exact hR⟩⟩
  rw [if_neg c, if_neg c]
  obtain ⟨n, rfl, h1, h2, hc⟩ := rng (lo := 9) (hi := 99) (by decide) (by decide) (fun q => c (Or.inl q)) (fun q => c (Or.inr q))
  obtain ⟨⟨k1, k2, k3, k4, k5, k6, k7, k8, k9, k10, k11, k12, k13⟩, m1, m2, m3, m4, m5, m6, m7, m8, m9, m10, m11, m12, m13, m14⟩ := hR
  rw [hc, e2]
  exact ⟨m8, ⟨k1, k2, k3, k4, k5, h1, h2, k8, k9, k10, k11, k12, k13⟩, m1, m2, m3, m4, m5, m6, m7, rfl, m9, m10, m11, m12, m13, m14⟩
theorem pu_X2_base (g : CS) (σ : MS) (x1 : Int32) (hp : pr_X2_base g σ x1) : wp_X2_base g (po_X2_base g σ x1) σ x1 := by
  have hR : RM g σ := hp
  unfold wp_X2_base po_X2_base sp_base st_base
  rw [in0 (v := x1) (lo' := 0) (hi' := 9000) (by decide) (by decide)]
  refine ⟨fun c x2 e2 => ?_, fun c => ⟨by rw [if_pos c], by rw [if_pos c]; exact hR⟩⟩
  rw [if_neg c, if_neg c]
  obtain ⟨n, rfl, h1, h2, hc⟩ := rng (lo := 0) (hi := 9000) (by decide) (by decide) (fun q => c (Or.inl q)) (fun q => c (Or.inr q))
  obtain ⟨⟨k1, k2, k3, k4, k5, k6, k7, k8, k9, k10, k11, k12, k13⟩, m1, m2, m3, m4, m5, m6, m7, m8, m9, m10, m11, m12, m13, m14⟩ := hR
  rw [hc, e2]
  exact ⟨m11, ⟨k1, k2, k3, k4, k5, k6, k7, k8, k9, k10, k11, h2, k13⟩, m1, m2, m3, m4, m5, m6, m7, m8, m9, m10, rfl, m12, m13, m14⟩
theorem pu_X2_placed (g : CS) (σ : MS) (x1 : Int32) (hp : pr_X2_placed g σ x1) : wp_X2_placed g (po_X2_placed g σ x1) σ x1 := by
  have hR : RM g σ := hp
  unfold wp_X2_placed po_X2_placed sp_placed
  rw [mop (rm_th 0 hR)]
  refine ⟨fun c => ⟨vin_le c hR.1.2.2.2.1, ?_, hR⟩, fun c => ⟨by rw [if_pos (Classical.not_not.mp c)], hR⟩⟩
  rw [if_neg c]
  exact hR.2.2.2.2.2.2.2.1 _ (out_lt c)
theorem pu_X2_clear (g : CS) (σ : MS) (hp : pr_X2_clear g σ) : wp_X2_clear g (po_X2_clear g σ) σ := by
  have hR : RM g σ := hp
  obtain ⟨⟨k1, k2, k3, k4, k5, k6, k7, k8, k9, k10, k11, k12, k13⟩, m1, m2, m3, m4, m5, m6, m7, m8, m9, m10, m11, m12, m13, m14⟩ := id hR
  unfold wp_X2_clear po_X2_clear sp_clear
  rintro x1 rfl
  have hq : ∀ k, cq (nx_clear g) k = qup (cq g k) 10 (ahd g k 0) := fun k => cq_sup
  refine ⟨m6, ⟨k1, fun k hk => ?_, k3, Nat.zero_le _, fun p hp => absurd hp (Nat.not_lt_zero p), k6, k7, k8, k9, k10, k11, k12, k13⟩, m1, fun k hk => ?_, m3, fun k hk ht => ?_, m5, rfl, fun p hp => absurd hp (Nat.not_lt_zero p), m8, m9, m10, m11, m12, m13, m14⟩
  · rw [hq, ahd_0]
    obtain ⟨q0, q1, q2, q3, q4, q5, q6, q7, q8, q9, q10, q11⟩ := k2 k hk
    unfold QOk
    simp only [qup_s, qup_n (show (0 : Nat) ≠ 10 by decide), qup_n (show (1 : Nat) ≠ 10 by decide), qup_n (show (2 : Nat) ≠ 10 by decide), qup_n (show (3 : Nat) ≠ 10 by decide), qup_n (show (4 : Nat) ≠ 10 by decide), qup_n (show (5 : Nat) ≠ 10 by decide), qup_n (show (6 : Nat) ≠ 10 by decide), qup_n (show (7 : Nat) ≠ 10 by decide), qup_n (show (8 : Nat) ≠ 10 by decide), qup_n (show (9 : Nat) ≠ 10 by decide)]
    exact ⟨q0, q1, q2, q3, q4, q5, q6, q7, q8, q9, q10, Nat.zero_le _⟩
  · rw [hq, ahd_0]
    exact m2 k hk
  · rw [hq, ahd_0]
    have h := m4 k hk ht
    have e : PV (qup (cq g k) 10 0) = PV (cq g k) := pv_cong (fun i hi => qup_n (by omega))
    unfold MKc NV kth at h ⊢
    rw [e]
    exact h
