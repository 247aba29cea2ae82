/-! plan, clear, seats, marks -/
def nxp (C : CS) (k i : Nat) : CS := (qup C.1 1 (c_np C + i), C.2.1, fun p => if c_np C ≤ p then k else c_pn C p, C.2.2.2)
theorem qup_id {q : Nat → Nat} {i : Nat} : qup q i (q i) = q := by
  funext j
  unfold qup
  split
  · rename_i h; rw [h]
  · rfl
theorem qup_qup {q : Nat → Nat} {i v w : Nat} : qup (qup q i v) i w = qup q i w := by
  funext j
  unfold qup
  split <;> rfl
theorem cq_pn {C : CS} {f : Nat → Nat} (h : ∀ p, p < c_np C → f p = c_pn C p) (k : Nat) : cq (C.1, C.2.1, f, C.2.2.2) k = cq C k := by
  funext i
  by_cases hi : i = 10
  · subst hi
    rw [cq_10, cq_10]
    show fb_ct (fun i => decide (f i = k)) (c_np C) = fb_ct (fun i => decide (c_pn C i = k)) (c_np C)
    exact fb_ct_cong (fun p hp => by rw [h p hp])
  · rw [cq_ne hi, cq_ne hi]
theorem rx_pn {C : CS} {σ : XS} {f : Nat → Nat} (h : ∀ p, p < c_np C → f p = c_pn C p) (hR : RX C σ) : RX (C.1, C.2.1, f, C.2.2.2) σ := by
  obtain ⟨⟨k1, k2, k3, k4, k5, k6, k7, k8, k9, k10, k11, k12, k13⟩, r1, r2, r3, r4, r5, r6, r7, r8, r9, r10, r11, r12⟩ := hR
  refine ⟨⟨k1, fun j hj => by rw [cq_pn h]; exact k2 j hj, k3, k4, fun p hp => ?_, k6, k7, k8, k9, k10, k11, k12, k13⟩, r1, fun j hj => by rw [cq_pn h]; exact r2 j hj, fun j hj => by rw [cq_pn h]; exact r3 j hj, r4, fun p hp => ?_, r6, r7, r8, r9, r10, r11, r12⟩
  · show f p < c_nk C
    rw [h p hp]; exact k5 p hp
  · show xs_pk σ p = nI (f p) ∧ xs_tu σ p = nI (fb_ct (fun i => decide (f i = f p)) p)
    rw [h p hp]
    have := r5 p hp
    refine ⟨this.1, this.2.trans ?_⟩
    congr 1
    have hp : p < c_np C := hp
    exact fb_ct_cong (fun i hi => by rw [h i (by omega)])
theorem nxp_0 {C : CS} {k : Nat} : nxp C k 0 = (C.1, C.2.1, fun p => if c_np C ≤ p then k else c_pn C p, C.2.2.2) := by
  unfold nxp
  rw [Nat.add_zero, qup_id]
theorem nxp_s {C : CS} {k i : Nat} : nxp C k (i + 1) = sup (nxp C k i) 1 (c_np (nxp C k i) + 1) := by
  unfold nxp sup
  show _ = (qup (qup C.1 1 (c_np C + i)) 1 (qup C.1 1 (c_np C + i) 1 + 1), _)
  rw [qup_qup, qup_s, Nat.add_assoc]
theorem pu_X1_plan (g : CS) (σ : XS) (x1 : Int32) (x2 : Int32) (hp : pr_X1_plan g σ x1 x2) : wp_X1_plan g (po_X1_plan g σ x1 x2) σ x1 x2 := by
  have hR : RX g σ := hp
  have h4 := hR.1.2.2.2.1
  have h8 := hR.1.1
  unfold wp_X1_plan
  rw [isk hR]
  have bad : ∀ {y : Int32} {c : Prop}, sp_plan g x1 x2 = y → st_plan g x1 x2 = g → po_X1_plan g σ x1 x2 y σ := fun {y c} e1 e2 => by
    unfold po_X1_plan
    rw [e1, e2]
    exact ⟨rfl, hR⟩
  refine ⟨fun c => ⟨fun d => ?_, fun d => ⟨fun d2 => ?_, fun d2 => ?_⟩⟩, fun c => ?_⟩
  · refine bad (c := True) ?_ ?_
    · unfold sp_plan; rw [if_neg c, if_pos (Or.inl d)]
    · unfold st_plan; rw [if_neg c, if_pos (Or.inl d)]
  · have hn : ¬ (x2 < 1 ∨ 40 < x2) := by
      rintro (q | q)
      · exact d q
      · rw [fa_lt] at q
        rw [fa_le] at d2
        omega
    obtain ⟨n, rfl, hn1, hn2, hnc⟩ := rng (lo := 1) (hi := 40) (by decide) (by decide) (fun q => hn (Or.inl q)) (fun q => hn (Or.inr q))
    have e40 : (40 : Int32) - xs_pc σ = nI (40 - c_np g) := by
      rw [hR.2.2.2.2.1]
      exact pk_sub (a := 40) (b := c_np g) (by omega)
    rw [e40, nI_leI (by omega) (by omega)]
    refine ⟨fun d3 => ?_, fun d3 => ?_⟩
    · obtain ⟨k, rfl, hk, hkc, -⟩ := out_ex c
      have hsp : sp_plan g (nI k) (nI n) = nI (c_np g + n) := by
        unfold sp_plan; rw [if_neg c, if_neg hn, hnc, if_neg (by omega)]
      have hst : st_plan g (nI k) (nI n) = nxp g k n := by
        unfold st_plan; rw [if_neg c, if_neg hn, hnc, if_neg (by omega)]
        unfold nx_plan nxp
        rw [hkc, hnc]
      refine lp_rule (fun t => t.2.1 = nI k ∧ t.2.2.1 = nI n ∧ ∃ i : Nat, t.2.2.2 = nI i ∧ i ≤ n ∧ RX (nxp g k i) t.1) (fun t => 100 - t.2.2.2.toNatClampNeg) ?_ ⟨rfl, rfl, 0, rfl, Nat.zero_le _, by rw [nxp_0]; exact rx_pn (fun p hp => if_neg (by omega)) hR⟩
      rintro K ⟨s, y1, y2, y3⟩ ⟨e1, e2, i, e3, hi, hRi⟩ ih
      dsimp only at e1 e2 e3 hRi ih ⊢
      subst e1 e2 e3
      have hpc : xs_pc s = nI (c_np g + i) := by
        have := hRi.2.2.2.2.1
        rw [this]
        show nI (qup g.1 1 (c_np g + i) 1) = _
        rw [qup_s]
      unfold wp_X1_plan_40
      rw [nI_leI (by omega) (by omega)]
      refine ⟨fun c2 => ?_, fun c2 => ?_⟩
      · have hin : i = n := by omega
        subst hin
        unfold po_X1_plan
        rw [hsp, hst]
        exact ⟨hpc, hRi⟩
      · have hpcl : (xs_pc s).toNatClampNeg = c_np g + i := by rw [hpc]; exact nI_cl (by omega)
        refine ⟨by rw [hpc]; exact vp_in_nI (by omega) (by decide), vp_in_nI (by omega) (by decide), fun r u hu => ?_⟩
        obtain ⟨hr, hu⟩ := hu
        refine ⟨by show vp_in (xs_pc s) 40; rw [hpc]; exact vp_in_nI (by omega) (by decide), fun y ey => ?_⟩
        subst ey
        refine ih _ ⟨rfl, rfl, i + 1, nI_1 i, by omega, ?_⟩ ?_
        · rw [nxp_s]
          have hcn : c_np (nxp g k i) = c_np g + i := by
            show qup g.1 1 (c_np g + i) 1 = _
            rw [qup_s]
          refine rx_add (k := k) hRi hk (by rw [hcn]; omega) ?_ ?_
          · rw [hcn]
            show (if c_np g ≤ c_np g + i then k else _) = k
            rw [if_pos (by omega)]
          · rw [hr, hu, hcn]
            dsimp only
            rw [hkc]
            show xs_s_pc (xs_s_tu (xs_sk (xs_s_pk s (upd (xs_pk s) (xs_pc s).toNatClampNeg (nI k))) k (ks_s_pl (xs_ki s k) (ks_pl (xs_ki s k) + 1))) (upd (xs_tu s) (xs_pc s).toNatClampNeg (ks_pl (xs_ki s k)))) (xs_pc s + 1) = _
            rw [hpcl]
        · dsimp only
          rw [nI_1, nI_cl (by omega), nI_cl (by omega)]
          omega
    · refine bad (c := True) ?_ ?_
      · unfold sp_plan; rw [if_neg c, if_neg hn, hnc, if_pos (by omega)]
      · unfold st_plan; rw [if_neg c, if_neg hn, hnc, if_pos (by omega)]
  · have hb : x2 < 1 ∨ 40 < x2 := Or.inr (fa_of_nle d2)
    refine bad (c := True) ?_ ?_
    · unfold sp_plan; rw [if_neg c, if_pos hb]
    · unfold st_plan; rw [if_neg c, if_pos hb]
  · refine bad (c := True) ?_ ?_
    · unfold sp_plan; rw [if_pos c]
    · unfold st_plan; rw [if_pos c]
theorem ahd_0 (C : CS) (k : Nat) : ahd C k 0 = 0 := rfl
theorem ahd_none {C : CS} (hC : COk C) {k : Nat} (hk : c_nk C ≤ k) : ahd C k (c_np C) = 0 := by
  unfold ahd
  rw [fb_ct_zero]
  intro p hp
  have := hC.2.2.2.2.1 p hp
  rw [decide_eq_false_iff_not]
  omega
theorem pu_X1_clear (g : CS) (σ : XS) (hp : pr_X1_clear g σ) : wp_X1_clear g (po_X1_clear g σ) σ := by
  have hR : RX g σ := hp
  obtain ⟨⟨k1, k2, k3, k4, k5, k6, k7, k8, k9, k10, k11, k12, k13⟩, r1, r2, r3, r4, r5, r6, r7, r8, r9, r10, r11, r12⟩ := id hR
  unfold wp_X1_clear
  rintro x1 rfl
  refine lp_rule (fun t => t.2.1 = xs_pc σ ∧ ∃ j : Nat, t.2.2 = nI j ∧ j ≤ c_nk g ∧ ∃ f : Nat → KS, t.1 = xs_s_ki (xs_s_pc σ 0) f ∧ (∀ k, k < j → f k = ks_s_pl (xs_ki σ k) 0) ∧ (∀ k, j ≤ k → f k = xs_ki σ k)) (fun t => 100 - t.2.2.toNatClampNeg) ?_ ⟨rfl, 0, rfl, Nat.zero_le _, xs_ki σ, rfl, fun k hk => absurd hk (Nat.not_lt_zero k), fun _ _ => rfl⟩
  rintro K ⟨s, y1, y2⟩ ⟨e1, j, e2, hj, f, e3, hf1, hf2⟩ ih
  dsimp only at e1 e2 e3 ih ⊢
  subst e1 e2 e3
  unfold wp_X1_clear_12
  have hkc : xs_kc (xs_s_ki (xs_s_pc σ 0) f) = nI (c_nk g) := r1
  rw [hkc, nI_leI (by omega) (by omega)]
  refine ⟨fun c => ?_, fun c => ⟨vp_in_nI (by omega) (by decide), fun u hu => ?_⟩⟩
  · have hjn : j = c_nk g := by omega
    subst hjn
    refine ⟨r4, ⟨k1, fun k hk => ?_, k3, Nat.zero_le _, fun p hp => absurd hp (Nat.not_lt_zero p), k6, k7, k8, k9, k10, k11, k12, k13⟩, r1, fun k hk => ?_, fun k hk => ?_, rfl, fun p hp => absurd hp (Nat.not_lt_zero p), r6, r7, r8, r9, r10, r11, r12⟩
    · show QOk (cq (sup g 1 0) k)
      rw [cq_sup, ahd_0]
      obtain ⟨q0, q1, q2, q3, q4, q5, q6, q7, q8, q9, q10, q11⟩ := k2 k hk
      unfold QOk
      simp only [qup_s, qup_n (show (0 : Nat) ≠ 10 by decide), qup_n (show (1 : Nat) ≠ 10 by decide), qup_n (show (2 : Nat) ≠ 10 by decide), qup_n (show (3 : Nat) ≠ 10 by decide), qup_n (show (4 : Nat) ≠ 10 by decide), qup_n (show (5 : Nat) ≠ 10 by decide), qup_n (show (6 : Nat) ≠ 10 by decide), qup_n (show (7 : Nat) ≠ 10 by decide), qup_n (show (8 : Nat) ≠ 10 by decide), qup_n (show (9 : Nat) ≠ 10 by decide)]
      exact ⟨q0, q1, q2, q3, q4, q5, q6, q7, q8, q9, q10, Nat.zero_le _⟩
    · show KR0 (cq (sup g 1 0) k) (f k)
      rw [cq_sup, ahd_0]
      obtain ⟨q0, q1, q2, q3, q4, q5, q6, q7, q8, q9, q10⟩ := r2 k hk
      have go : ∀ κ : KS, ks_op κ = ks_op (xs_ki σ k) → ks_le κ = ks_le (xs_ki σ k) → ks_mo κ = ks_mo (xs_ki σ k) → ks_ru κ = ks_ru (xs_ki σ k) → ks_pl κ = nI 0 → KR0 (qup (cq g k) 10 0) κ := by
        intro κ e1 e2 e3 e4 e5
        unfold KR0
        rw [e1, e2, e3, e4, e5]
        simp only [qup_s, qup_n (show (0 : Nat) ≠ 10 by decide), qup_n (show (1 : Nat) ≠ 10 by decide), qup_n (show (2 : Nat) ≠ 10 by decide), qup_n (show (3 : Nat) ≠ 10 by decide), qup_n (show (4 : Nat) ≠ 10 by decide), qup_n (show (5 : Nat) ≠ 10 by decide), qup_n (show (6 : Nat) ≠ 10 by decide), qup_n (show (7 : Nat) ≠ 10 by decide), qup_n (show (8 : Nat) ≠ 10 by decide), qup_n (show (9 : Nat) ≠ 10 by decide)]
        exact ⟨q0, q1, q2, q3, q4, q5, q6, q7, q8, q9, trivial⟩
      by_cases hkn : k < c_nk g
      · rw [hf1 k hkn]
        exact go _ rfl rfl rfl rfl rfl
      · rw [hf2 k (by omega)]
        refine go _ rfl rfl rfl rfl ?_
        rw [cq_10, ahd_none hR.1 (by omega)] at q10
        exact q10
    · have hk : k < c_nk g := hk
      show KRc (cq (sup g 1 0) k) (f k)
      rw [cq_sup, hf1 k hk]
      exact krc_cong (fun i hi => qup_n (by omega)) rfl rfl (r3 k hk)
  · have hjc : (nI j).toNatClampNeg = j := nI_cl (by omega)
    rintro y rfl
    have hu : u = ks_s_pl (f (nI j).toNatClampNeg) 0 := hu
    refine ih _ ⟨rfl, j + 1, nI_1 j, by omega, va_up f (nI j).toNatClampNeg u, rfl, fun k hk => ?_, fun k hk => ?_⟩ ?_
    · rw [hjc]
      by_cases h : k = j
      · subst h
        rw [va_up_self, hu, hjc, hf2 k (Nat.le_refl _)]
      · rw [va_up_ne _ _ h]
        exact hf1 k (by omega)
    · rw [hjc, va_up_ne _ _ (by omega)]
      exact hf2 k (by omega)
    · dsimp only
      rw [nI_1, nI_cl (by omega), nI_cl (by omega)]
      omega
