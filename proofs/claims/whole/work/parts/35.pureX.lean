/-! pages, the plan -/
theorem tk_ok {C : CS} (hC : COk C) {p : Nat} (hp : p < c_np C) : 1 ≤ c_q C (c_pn C p) 8 ∧ c_q C (c_pn C p) 8 ≤ 9 := by
  obtain ⟨k1, k2, k3, k4, k5, -⟩ := hC
  have h := k2 (c_pn C p) (by have := k5 p hp; omega)
  have h1 := h.2.2.2.2.2.2.2.2.1
  have h2 := h.2.2.2.2.2.2.2.2.2.1
  rw [cq_ne (by decide)] at h1 h2
  exact ⟨h1, h2⟩
theorem whS_le {C : CS} (hC : COk C) : ∀ p, p ≤ c_np C → (whS C p).1 ≤ p ∧ (whS C p).2 ≤ 99 := by
  intro p
  induction p with
  | zero => intro _; exact ⟨Nat.le_refl _, Nat.zero_le _⟩
  | succ p ih =>
    intro hp
    obtain ⟨i1, i2⟩ := ih (by omega)
    obtain ⟨t1, t2⟩ := tk_ok hC (show p < c_np C by omega)
    have hli := hC.2.2.2.2.2.2.1
    unfold whS
    split
    · exact ⟨by show (whS C p).1 + 1 ≤ p + 1; omega, by show c_q C (c_pn C p) 8 ≤ 99; omega⟩
    · exact ⟨by show (whS C p).1 ≤ p + 1; omega, by show (whS C p).2 + c_q C (c_pn C p) 8 ≤ 99; omega⟩
theorem lt_of {C : CS} {σ : XS} (hR : RX C σ) {k : Nat} (hk : k < 8) : fn_X0_linesTaken (xs_ki σ k) = nI (c_q C k 8) := by
  have h := (hR.2.2.1 k hk).2.2.2.2.2.2.2.2.1
  rw [cq_ne (by decide)] at h
  exact h
theorem pu_X1_pageAndLine (g : CS) (σ : XS) (x1 : Int32) (hp : pr_X1_pageAndLine g σ x1) : wp_X1_pageAndLine g (fun r u => r = fn_X1_pageAndLine g σ x1 ∧ u = σ) σ x1 := by
  obtain ⟨hR, h1⟩ := hp
  obtain ⟨q, rfl, hq, hqc, -⟩ := out_ex h1
  have h4 := hR.1.2.2.2.1
  have h8 := hR.1.1
  unfold wp_X1_pageAndLine fn_X1_pageAndLine
  rw [hqc]
  refine lp_rule (fun t => t.1 = σ ∧ t.2.1 = nI q ∧ ∃ p : Nat, t.2.2.2.2.2 = nI p ∧ p ≤ q + 1 ∧ t.2.2.1 = nI (whS g p).1 ∧ t.2.2.2.2.1 = nI (whS g p).2 ∧ t.2.2.2.1 = nI ((whS g p).2 - (if p = 0 then 0 else c_q g (c_pn g (p - 1)) 8))) (fun t => 100 - t.2.2.2.2.2.toNatClampNeg) ?_ ⟨rfl, rfl, 0, rfl, Nat.zero_le _, rfl, rfl, rfl⟩
  rintro K ⟨s, y1, y2, y3, y4, y5⟩ ⟨h5, h6, p, h7, hp1, e2, e4, e3⟩ ih
  dsimp only at h5 h6 h7 e2 e3 e4 ih ⊢
  subst h5 h6 h7 e2 e3 e4
  unfold wp_X1_pageAndLine_10
  rw [nI_ltI (by omega) (by omega)]
  refine ⟨fun c => ⟨?_, rfl⟩, fun c => ?_⟩
  · have e : p = q + 1 := by omega
    subst e
    rw [if_neg (by omega), show q + 1 - 1 = q by omega, show (100 : Int32) = nI 100 from rfl, pk_mul, nI_add]
    unfold whN
    congr 1
    omega
  · have hpn : p < c_np g := by omega
    obtain ⟨a1, a2, a3, a4, a5, a6, a7⟩ := pl_ok hR hpn
    obtain ⟨t1, t2⟩ := tk_ok hR.1 hpn
    obtain ⟨w1, w2⟩ := whS_le hR.1 p (by omega)
    have hli := hR.2.2.2.2.2.2.1
    have hl99 := hR.1.2.2.2.2.2.2.1
    rw [a1, a2, a3, lt_of hR (by omega)]
    refine ⟨a5, a6, fun x6 e6 => ?_⟩
    subst e6
    rw [hli, nI_add, nI_leI (by omega) (by omega)]
    refine ⟨fun d => ?_, fun d => ?_⟩
    · rintro y rfl z rfl
      have hs : whS g (p + 1) = ((whS g p).1, (whS g p).2 + c_q g (c_pn g p) 8) := by
        show (if _ then _ else _) = _
        rw [if_neg (by omega)]
      refine ih _ ⟨rfl, rfl, p + 1, nI_1 p, by omega, ?_, ?_, ?_⟩ ?_
      · dsimp only; rw [hs]
      · dsimp only; rw [hs]
      · dsimp only
        rw [hs, if_neg (by omega), show p + 1 - 1 = p by omega]
        congr 1
        dsimp only
        omega
      · dsimp only
        rw [nI_1, nI_cl (by omega), nI_cl (by omega)]
        omega
    · rintro w rfl y rfl z rfl
      have hs : whS g (p + 1) = ((whS g p).1 + 1, c_q g (c_pn g p) 8) := by
        show (if _ then _ else _) = _
        rw [if_pos (by omega)]
      refine ih _ ⟨rfl, rfl, p + 1, nI_1 p, by omega, ?_, ?_, ?_⟩ ?_
      · dsimp only; rw [hs, nI_1]
      · dsimp only
        rw [hs, show (0 : Int32) = nI 0 from rfl, nI_add]
        congr 1
        dsimp only
        omega
      · dsimp only
        rw [hs, if_neg (by omega), show p + 1 - 1 = p by omega]
        dsimp only
        rw [Nat.sub_self]
        rfl
      · dsimp only
        rw [nI_1, nI_cl (by omega), nI_cl (by omega)]
        omega
theorem whN_le {C : CS} (hC : COk C) {p : Nat} (hp : p < c_np C) : whN C p < 10000 := by
  obtain ⟨w1, w2⟩ := whS_le hC (p + 1) (by omega)
  have h4 := hC.2.2.2.1
  unfold whN
  omega
theorem pu_X1_pages (g : CS) (σ : XS) (hp : pr_X1_pages g σ) : wp_X1_pages g (fun r u => r = fn_X1_pages g σ ∧ u = σ) σ := by
  have hR : RX g σ := hp
  have h4 := hR.1.2.2.2.1
  have e0 : nI (c_np g) = 0 ↔ c_np g = 0 := nI_eq (a := c_np g) (b := 0) (by omega) (by decide)
  unfold wp_X1_pages fn_X1_pages sp_pages
  rw [hR.2.2.2.2.1, e0]
  refine ⟨fun c => ?_, fun c => ⟨by rw [if_pos c], rfl⟩⟩
  have e1 : nI (c_np g) - 1 = nI (c_np g - 1) := pk_sub (a := c_np g) (b := 1) (by omega)
  rw [e1, if_neg c]
  refine ⟨⟨hR, vp_in_nI (by omega) (by omega)⟩, ?_, rfl⟩
  have hw := whN_le hR.1 (show c_np g - 1 < c_np g by omega)
  unfold fn_X1_pageAndLine
  rw [nI_cl (by omega), (pair_ab hw).1, nI_1]
theorem pu_X1_page (g : CS) (σ : XS) (x1 : Int32) (x2 : Int32) (hp : pr_X1_page g σ x1 x2) : wp_X1_page g (fun r u => r = fn_X1_page g σ x1 x2 ∧ u = σ) σ x1 x2 := by
  have hR : RX g σ := hp
  unfold wp_X1_page fn_X1_page sp_page
  rw [isp hR]
  refine ⟨fun c => ⟨⟨hR, c⟩, fun x3 e3 => ?_⟩, fun c => ⟨by rw [if_pos c], rfl⟩⟩
  have hw := whN_le hR.1 (out_lt c)
  have e3 : x3 = nI (whN g x1.toNatClampNeg) := e3
  subst e3
  rw [if_neg c]
  exact ⟨fun d => ⟨by rw [if_pos d]; exact (pair_ab hw).1, rfl⟩, fun d => ⟨by rw [if_neg d]; exact (pair_ab hw).2, rfl⟩⟩
theorem pv_cong {q q' : Nat → Nat} (h : ∀ i, i ≤ 7 → q' i = q i) : PV q' = PV q := by
  funext n
  unfold PV
  rw [h 0 (by decide), h 1 (by decide), h 2 (by decide), h 3 (by decide), h 4 (by decide), h 5 (by decide), h 6 (by decide), h 7 (by decide)]
theorem krc_cong {q q' : Nat → Nat} {κ κ' : KS} (h : ∀ i, i ≤ 7 → q' i = q i) (h1 : ks_co κ' = ks_co κ) (h2 : ks_be κ' = ks_be κ) (hc : KRc q κ) : KRc q' κ' := by
  unfold KRc NV
  rw [pv_cong h, h 1 (by decide), h 2 (by decide), h1, h2]
  exact hc
theorem ahd_succ (C : CS) (k p : Nat) : ahd C k (p + 1) = ahd C k p + (if c_pn C p = k then 1 else 0) := by
  unfold ahd
  rw [fb_ct_succ]
  by_cases h : c_pn C p = k
  · simp [h]
  · simp [h]
theorem cq_sup {C : CS} {v k : Nat} : cq (sup C 1 v) k = qup (cq C k) 10 (ahd C k v) := by
  funext i
  by_cases hi : i = 10
  · subst hi
    rw [qup_s, cq_10]
    rfl
  · rw [qup_n hi, cq_ne hi, cq_ne hi]
    rfl
/-- one place more -/
theorem rx_add {C : CS} {σ σ' : XS} {k : Nat} (hR : RX C σ) (hk : k < c_nk C) (hn : c_np C < 40) (hpn : c_pn C (c_np C) = k)
    (hs : σ' = xs_s_pc (xs_s_tu (xs_sk (xs_s_pk σ (upd (xs_pk σ) (c_np C) (nI k))) k (ks_s_pl (xs_ki σ k) (ks_pl (xs_ki σ k) + 1))) (upd (xs_tu σ) (c_np C) (ks_pl (xs_ki σ k)))) (xs_pc σ + 1)) : RX (sup C 1 (c_np C + 1)) σ' := by
  subst hs
  obtain ⟨⟨k1, k2, k3, k4, k5, k6, k7, k8, k9, k10, k11, k12, k13⟩, r1, r2, r3, r4, r5, r6, r7, r8, r9, r10, r11, r12⟩ := hR
  have hpl : ks_pl (xs_ki σ k) = nI (ahd C k (c_np C)) := by
    have := (r2 k (by omega)).2.2.2.2.2.2.2.2.2.2
    rw [cq_10] at this
    exact this
  refine ⟨⟨k1, fun j hj => ?_, k3, show c_np C + 1 ≤ 40 by omega, fun p hp => ?_, k6, k7, k8, k9, k10, k11, k12, k13⟩, r1, fun j hj => ?_, fun j hj => ?_, ?_, fun p hp => ?_, r6, r7, r8, r9, r10, r11, r12⟩
  · rw [cq_sup]
    obtain ⟨q0, q1, q2, q3, q4, q5, q6, q7, q8, q9, q10, q11⟩ := k2 j hj
    have := ahd_le C j (c_np C + 1)
    unfold QOk
    simp only [qup_s, qup_n (show (0 : Nat) ≠ 10 by decide), qup_n (show (1 : Nat) ≠ 10 by decide), qup_n (show (2 : Nat) ≠ 10 by decide), qup_n (show (3 : Nat) ≠ 10 by decide), qup_n (show (4 : Nat) ≠ 10 by decide), qup_n (show (5 : Nat) ≠ 10 by decide), qup_n (show (6 : Nat) ≠ 10 by decide), qup_n (show (7 : Nat) ≠ 10 by decide), qup_n (show (8 : Nat) ≠ 10 by decide), qup_n (show (9 : Nat) ≠ 10 by decide)]
    exact ⟨q0, q1, q2, q3, q4, q5, q6, q7, q8, q9, q10, by omega⟩
  · have hp : p < c_np C + 1 := hp
    show c_pn C p < c_nk C
    by_cases h : p = c_np C
    · rw [h, hpn]; exact hk
    · exact k5 p (by omega)
  · rw [cq_sup]
    show KR0 _ (va_up (xs_ki σ) k _ j)
    obtain ⟨q0, q1, q2, q3, q4, q5, q6, q7, q8, q9, q10⟩ := r2 j hj
    have go : ∀ κ : KS, ks_op κ = ks_op (xs_ki σ j) → ks_le κ = ks_le (xs_ki σ j) → ks_mo κ = ks_mo (xs_ki σ j) → ks_ru κ = ks_ru (xs_ki σ j) → ks_pl κ = nI (ahd C j (c_np C + 1)) → KR0 (qup (cq C j) 10 (ahd C j (c_np C + 1))) κ := by
      intro κ e1 e2 e3 e4 e5
      unfold KR0
      rw [e1, e2, e3, e4, e5]
      simp only [qup_s, qup_n (show (0 : Nat) ≠ 10 by decide), qup_n (show (1 : Nat) ≠ 10 by decide), qup_n (show (2 : Nat) ≠ 10 by decide), qup_n (show (3 : Nat) ≠ 10 by decide), qup_n (show (4 : Nat) ≠ 10 by decide), qup_n (show (5 : Nat) ≠ 10 by decide), qup_n (show (6 : Nat) ≠ 10 by decide), qup_n (show (7 : Nat) ≠ 10 by decide), qup_n (show (8 : Nat) ≠ 10 by decide), qup_n (show (9 : Nat) ≠ 10 by decide)]
      exact ⟨q0, q1, q2, q3, q4, q5, q6, q7, q8, q9, trivial⟩
    rw [cq_10] at q10
    by_cases h : j = k
    · subst h
      rw [va_up_self]
      refine go _ rfl rfl rfl rfl ?_
      show ks_pl (xs_ki σ j) + 1 = _
      rw [q10, nI_1, ahd_succ, if_pos hpn]
    · rw [va_up_ne _ _ h]
      refine go _ rfl rfl rfl rfl ?_
      rw [q10, ahd_succ, if_neg (by omega), Nat.add_zero]
  · rw [cq_sup]
    show KRc _ (va_up (xs_ki σ) k _ j)
    by_cases h : j = k
    · subst h
      rw [va_up_self]
      exact krc_cong (fun i hi => qup_n (by omega)) rfl rfl (r3 j hj)
    · rw [va_up_ne _ _ h]
      exact krc_cong (fun i hi => qup_n (by omega)) rfl rfl (r3 j hj)
  · show xs_pc σ + 1 = nI (c_np C + 1)
    rw [r4, nI_1]
  · have hp : p < c_np C + 1 := hp
    show upd (xs_pk σ) (c_np C) (nI k) p = nI (c_pn C p) ∧ upd (xs_tu σ) (c_np C) (ks_pl (xs_ki σ k)) p = nI (ahd C (c_pn C p) p)
    by_cases h : p = c_np C
    · subst h
      rw [pk_us, pk_us, hpn, hpl]
      exact ⟨rfl, rfl⟩
    · rw [pk_un h, pk_un h]
      exact r5 p (by omega)
