/-! counting variants -/
theorem ct_flat {p : Nat → Bool} {m n : Nat} (h : m ≤ n) (hf : ∀ k, m ≤ k → k < n → p k = false) : fb_ct p n = fb_ct p m := by
  have h1 := fb_ct_split p m (n - m)
  rw [show m + (n - m) = n by omega] at h1
  rw [h1]
  have h2 : fb_ct (fun k => p (m + k)) (n - m) = 0 := fb_ct_zero.mpr (fun k hk => hf (m + k) (by omega) (by omega))
  omega
theorem pv_split (q : Nat → Nat) {a b : Nat} (hb : b < 100) : PV q (100 * a + b) = decide (q 1 ≤ a ∧ a ≤ q 2 ∧ q 3 ≤ b ∧ b ≤ q 4 ∧ lwF (nI (q 0)) (nI (q 7)) (nI (q 5)) (nI (q 6)) (nI a) (nI b) = 1) := by
  unfold PV
  rw [show (100 * a + b) / 100 = a by omega, show (100 * a + b) % 100 = b by omega]
theorem pv_out (q : Nat → Nat) {n : Nat} (h : n / 100 < q 1 ∨ q 2 < n / 100 ∨ n % 100 < q 3 ∨ q 4 < n % 100) : PV q n = false := by
  unfold PV
  rw [decide_eq_false_iff_not]
  rintro ⟨h1, h2, h3, h4, -⟩
  omega
theorem lw01 (op law fr tr a b : Int32) : lwF op law fr tr a b = 0 ∨ lwF op law fr tr a b = 1 := by
  unfold lwF
  repeat' split
  all_goals first | exact Or.inl rfl | exact Or.inr rfl | exact car01 _ _ _
theorem pv_in (q : Nat → Nat) {a b : Nat} (h1 : q 1 ≤ a) (h2 : a ≤ q 2) (h3 : q 3 ≤ b) (h4 : b ≤ q 4) (hb : b < 100) : PV q (100 * a + b) = true ↔ ¬ lwF (nI (q 0)) (nI (q 7)) (nI (q 5)) (nI (q 6)) (nI a) (nI b) = 0 := by
  rw [pv_split q hb, decide_eq_true_iff]
  constructor
  · rintro ⟨-, -, -, -, h⟩ h0
    rw [h0] at h
    exact absurd h (by decide)
  · intro h
    refine ⟨h1, h2, h3, h4, ?_⟩
    rcases lw01 (nI (q 0)) (nI (q 7)) (nI (q 5)) (nI (q 6)) (nI a) (nI b) with h5 | h5
    · exact absurd h5 h
    · exact h5
/-- the first of a row, the end of it -/
theorem ct_lo (q : Nat → Nat) {a e : Nat} (he : e ≤ q 3) (h : q 3 ≤ 99) : fb_ct (PV q) (100 * a + e) = fb_ct (PV q) (100 * a) :=
  ct_flat (by omega) (fun k h1 h2 => pv_out q (Or.inr (Or.inr (Or.inl (by omega)))))
theorem ct_hi (q : Nat → Nat) {a : Nat} (h : q 4 ≤ 99) : fb_ct (PV q) (100 * (a + 1)) = fb_ct (PV q) (100 * a + (q 4 + 1)) :=
  ct_flat (by omega) (fun k h1 h2 => pv_out q (Or.inr (Or.inr (Or.inr (by omega)))))
theorem ct_first (q : Nat → Nat) : fb_ct (PV q) (100 * q 1) = 0 :=
  fb_ct_zero.mpr (fun k h => pv_out q (Or.inl (by omega)))
theorem ct_last (q : Nat → Nat) (h : q 2 ≤ 99) : NV q = fb_ct (PV q) (100 * (q 2 + 1)) :=
  ct_flat (by omega) (fun k h1 h2 => pv_out q (Or.inr (Or.inl (by omega))))
theorem ct_le_n (q : Nat → Nat) (n : Nat) : fb_ct (PV q) n ≤ n := fb_ct_le _ n
theorem ct_mono (q : Nat → Nat) {m n : Nat} (h : m ≤ n) : fb_ct (PV q) m ≤ fb_ct (PV q) n := fb_ct_mono _ h
theorem kth_ok {q : Nat → Nat} {i : Nat} (h : i < NV q) : kth q i < 10000 ∧ PV q (kth q i) = true ∧ fb_ct (PV q) (kth q i) = i := by
  obtain ⟨n, h1, h2, h3⟩ := fb_ct_kth (p := PV q) (k := i) (n := 10000) h
  have hlt : fa_first (fun n => PV q n && decide (fb_ct (PV q) n = i)) 10000 < 10000 := by
    rcases Nat.lt_or_ge (fa_first (fun n => PV q n && decide (fb_ct (PV q) n = i)) 10000) 10000 with h | h
    · exact h
    · have := fa_first_no (fun n => PV q n && decide (fb_ct (PV q) n = i)) 10000 n (by omega)
      simp [h2, h3] at this
  have hy := fa_first_yes (fun n => PV q n && decide (fb_ct (PV q) n = i)) 10000 hlt
  simp only [Bool.and_eq_true, decide_eq_true_eq] at hy
  exact ⟨hlt, hy.1, hy.2⟩
theorem kth_eq {q : Nat → Nat} {i n : Nat} (hn : n < 10000) (h1 : PV q n = true) (h2 : fb_ct (PV q) n = i) : kth q i = n := by
  have hi : i < NV q := by
    have h3 := fb_ct_succ (PV q) n
    rw [h1] at h3
    have h4 := ct_mono q (show n + 1 ≤ 10000 by omega)
    unfold NV
    simp at h3
    omega
  obtain ⟨-, k2, k3⟩ := kth_ok hi
  exact fb_ct_kth_one k2 h1 (by rw [k3, h2])
theorem kth_in {q : Nat → Nat} {i : Nat} (h : i < NV q) : q 1 ≤ kth q i / 100 ∧ kth q i / 100 ≤ q 2 ∧ q 3 ≤ kth q i % 100 ∧ kth q i % 100 ≤ q 4 := by
  have h1 := (kth_ok h).2.1
  unfold PV at h1
  rw [decide_eq_true_iff] at h1
  exact ⟨h1.1, h1.2.1, h1.2.2.1, h1.2.2.2.1⟩
theorem nv_le (q : Nat → Nat) : NV q ≤ 10000 := fb_ct_le _ _
theorem nI_cl {n : Nat} (h : n < 2 ^ 31) : (nI n).toNatClampNeg = n := nI_clamp h
theorem lw_of {q : Nat → Nat} {σ : KS} (hk : KR0 q σ) (a b : Int32) : fn_X0_isLawful σ a b = lwF (nI (q 0)) (nI (q 7)) (nI (q 5)) (nI (q 6)) a b := by
  obtain ⟨h0, -, -, -, -, h5, h6, h7, -⟩ := hk
  unfold fn_X0_isLawful
  rw [h0, h5, h6, h7]
theorem pu_X0_countBelow (g : (Nat → Nat)) (σ : KS) (x1 : Int32) (x2 : Int32) (hp : pr_X0_countBelow g σ x1 x2) : wp_X0_countBelow g (fun r u => r = fn_X0_countBelow g σ x1 x2 ∧ u = σ) σ x1 x2 := by
  obtain ⟨hk, hq, ⟨a, rfl, ha1, ha2⟩, ⟨e, rfl, he⟩⟩ := hp
  obtain ⟨-, -, q2, q3, q4, -⟩ := id hq
  have hfn : fn_X0_countBelow g σ (nI a) (nI e) = nI (fb_ct (PV g) (100 * a + e) - fb_ct (PV g) (100 * a)) := by
    unfold fn_X0_countBelow
    rw [nI_cl (by omega), nI_cl (by omega)]
  unfold wp_X0_countBelow
  refine ⟨in13, fun x4 e4 => ?_⟩
  rw [cl1, hk.2.2.2.1] at e4
  subst e4
  refine lp_rule (fun t => t.1 = σ ∧ t.2.1 = nI a ∧ t.2.2.1 = nI e ∧ ∃ b : Nat, t.2.2.2.2 = nI b ∧ g 3 ≤ b ∧ (b ≤ e ∨ b = g 3) ∧ t.2.2.2.1 = nI (fb_ct (PV g) (100 * a + b) - fb_ct (PV g) (100 * a))) (fun t => 200 - t.2.2.2.2.toNatClampNeg) ?_ ⟨rfl, rfl, rfl, g 3, rfl, Nat.le_refl _, Or.inr rfl, by rw [ct_lo g (Nat.le_refl _) (by omega), Nat.sub_self]; rfl⟩
  rintro K ⟨s, y1, y2, y3, y4⟩ ⟨h1, h2, h3, b, h4, hb1, hb2, h5⟩ ih
  dsimp only at h1 h2 h3 h4 h5 ih ⊢
  subst h1 h2 h3 h4 h5
  have hb : b ≤ 101 := by omega
  unfold wp_X0_countBelow_10
  refine ⟨fun c => ?_, fun c => ?_⟩
  · rw [nI_leI (by omega) (by omega)] at c
    refine ⟨?_, rfl⟩
    rw [hfn]
    rcases hb2 with h | h
    · rw [show b = e by omega]
    · rw [ct_lo g (show b ≤ g 3 by omega) (by omega), ct_lo g (show e ≤ g 3 by omega) (by omega)]
  · rw [nI_leI (by omega) (by omega)] at c
    have hbe : b < e := by omega
    have hin := pv_in g ha1 ha2 hb1 (show b ≤ g 4 by omega) (by omega)
    have hs := fb_ct_succ (PV g) (100 * a + b)
    have hm := ct_mono g (show 100 * a ≤ 100 * a + b by omega)
    rw [lw_of hk]
    refine ⟨fun c2 => ?_, fun c2 => ?_⟩
    · rintro y rfl
      refine ih _ ⟨rfl, rfl, rfl, b + 1, nI_1 b, by omega, by omega, ?_⟩ ?_
      · have hp : PV g (100 * a + b) = false := by
          cases hv : PV g (100 * a + b) with
          | false => rfl
          | true => exact absurd c2 (hin.mp hv)
        rw [hp] at hs
        rw [show 100 * a + (b + 1) = 100 * a + b + 1 by omega, hs]
        rfl
      · dsimp only
        rw [nI_1, nI_cl (by omega), nI_cl (by omega)]
        omega
    · rintro y rfl z rfl
      refine ih _ ⟨rfl, rfl, rfl, b + 1, nI_1 b, by omega, by omega, ?_⟩ ?_
      · have hp : PV g (100 * a + b) = true := hin.mpr c2
        have hs2 : fb_ct (PV g) (100 * a + b + 1) = fb_ct (PV g) (100 * a + b) + 1 := by rw [hs, hp]; rfl
        have h6 : fb_ct (PV g) (100 * a + (b + 1)) - fb_ct (PV g) (100 * a) = fb_ct (PV g) (100 * a + b) - fb_ct (PV g) (100 * a) + 1 := by
          rw [show 100 * a + (b + 1) = 100 * a + b + 1 by omega, hs2]
          omega
        dsimp only
        rw [h6, ← nI_1]
      · dsimp only
        rw [nI_1, nI_cl (by omega), nI_cl (by omega)]
        omega
theorem kr0_be {q : Nat → Nat} {σ : KS} {f : Nat → Int32} {v : Int32} (h : KR0 q σ) : KR0 q (ks_s_co (ks_s_be σ f) v) := h
theorem pu_X0_countAnew (g : (Nat → Nat)) (σ : KS) (hp : pr_X0_countAnew g σ) : wp_X0_countAnew g (po_X0_countAnew g σ) σ := by
  obtain ⟨hk, hq⟩ := hp
  obtain ⟨q0, q1, q2, q3, q4, -⟩ := id hq
  unfold wp_X0_countAnew
  refine ⟨in03, fun x1 e1 => ?_⟩
  have e1 : x1 = nI (g 1) := by rw [e1, cl0]; exact hk.2.1
  subst e1
  refine lp_rule (fun t => KR0 g t.1 ∧ ∃ a : Nat, t.2 = nI a ∧ g 1 ≤ a ∧ a ≤ g 2 + 1 ∧ ks_co t.1 = nI (fb_ct (PV g) (100 * a)) ∧ ∀ j, g 1 ≤ j → j < a → ks_be t.1 j = nI (fb_ct (PV g) (100 * j))) (fun t => 200 - t.2.toNatClampNeg) ?_ ⟨hk, g 1, rfl, Nat.le_refl _, by omega, by rw [ct_first]; rfl, fun j h1 h2 => by omega⟩
  rintro K ⟨s, y1⟩ ⟨h1, a, h2, ha1, ha2, h3, h4⟩ ih
  dsimp only at h1 h2 h3 h4 ih ⊢
  subst h2
  have hmo : ks_mo s (0 : Int32).toNatClampNeg = nI (g 2) := by rw [cl0]; exact h1.2.2.1
  have hmo1 : ks_mo s (1 : Int32).toNatClampNeg = nI (g 4) := by rw [cl1]; exact h1.2.2.2.2.1
  unfold wp_X0_countAnew_12
  refine ⟨in03, fun c => ?_, fun c => ?_⟩
  · rw [hmo, nI_ltI (by omega) (by omega)] at c
    have ha : a = g 2 + 1 := by omega
    subst ha
    exact ⟨h1, hq, by rw [h3, ct_last g q2], fun j h5 h6 => h4 j h5 (by omega)⟩
  · rw [hmo, nI_ltI (by omega) (by omega)] at c
    have hcl : (nI a).toNatClampNeg = a := nI_cl (by omega)
    have e5 : ks_mo (ks_s_be s (upd (ks_be s) (nI a).toNatClampNeg (ks_co s))) (1 : Int32).toNatClampNeg + 1 = nI (g 4 + 1) := by
      show ks_mo s (1 : Int32).toNatClampNeg + 1 = nI (g 4 + 1)
      rw [hmo1, nI_1]
    refine ⟨vp_in_nI (by omega) (by omega), in13, ?_, fun y ey => ?_⟩
    · rw [e5]
      exact ⟨h1, hq, ⟨a, rfl, ha1, by omega⟩, ⟨g 4 + 1, rfl, Nat.le_refl _⟩⟩
    · subst ey
      refine ih _ ⟨h1, a + 1, nI_1 a, by omega, by omega, ?_, fun j h5 h6 => ?_⟩ ?_
      · show ks_co s + fn_X0_countBelow g _ (nI a) _ = _
        rw [e5, h3]
        unfold fn_X0_countBelow
        rw [hcl, nI_cl (by omega), nI_add, ct_hi g (by omega)]
        have := ct_mono g (show 100 * a ≤ 100 * a + (g 4 + 1) by omega)
        congr 1
        omega
      · show upd (ks_be s) (nI a).toNatClampNeg (ks_co s) j = _
        rw [hcl]
        by_cases hj : j = a
        · subst hj
          rw [pk_us, h3]
        · rw [pk_un hj]
          exact h4 j h5 (by omega)
      · dsimp only
        rw [nI_1, nI_cl (by omega), nI_cl (by omega)]
        omega
theorem qup_s {q : Nat → Nat} {i v : Nat} : qup q i v i = v := by unfold qup; rw [if_pos rfl]
theorem qup_n {q : Nat → Nat} {i v j : Nat} (h : j ≠ i) : qup q i v j = q j := by unfold qup; rw [if_neg h]
theorem pu_X0_open (g : (Nat → Nat)) (σ : KS) (x1 : Int32) (hp : pr_X0_open g σ x1) : wp_X0_open g (po_X0_open g σ x1) σ x1 := by
  obtain ⟨hk, hq, o, rfl, ho⟩ := hp
  have hcl : (nI o).toNatClampNeg = o := nI_cl (by omega)
  unfold wp_X0_open
  rw [hcl]
  refine ⟨⟨?_, ?_⟩, fun u hu => ?_⟩
  · obtain ⟨k0, k1, k2, k3, k4, k5, k6, k7, k8, k9, k10⟩ := hk
    exact ⟨by rw [qup_s], by rw [qup_n (by decide)]; exact k1, by rw [qup_n (by decide)]; exact k2, by rw [qup_n (by decide)]; exact k3, by rw [qup_n (by decide)]; exact k4, by rw [qup_n (by decide)]; exact k5, by rw [qup_n (by decide)]; exact k6, by rw [qup_n (by decide)]; exact k7, by rw [qup_n (by decide)]; exact k8, by rw [qup_n (by decide)]; exact k9, by rw [qup_n (by decide)]; exact k10⟩
  · obtain ⟨k0, k1, k2, k3, k4, k5, k6, k7, k8, k9, k10, k11⟩ := hq
    unfold QOk
    simp only [qup_s, qup_n (show (1 : Nat) ≠ 0 by decide), qup_n (show (2 : Nat) ≠ 0 by decide), qup_n (show (3 : Nat) ≠ 0 by decide), qup_n (show (4 : Nat) ≠ 0 by decide), qup_n (show (5 : Nat) ≠ 0 by decide), qup_n (show (6 : Nat) ≠ 0 by decide), qup_n (show (7 : Nat) ≠ 0 by decide), qup_n (show (8 : Nat) ≠ 0 by decide), qup_n (show (9 : Nat) ≠ 0 by decide), qup_n (show (10 : Nat) ≠ 0 by decide)]
    exact ⟨ho, k1, k2, k3, k4, k5, k6, k7, k8, k9, k10, k11⟩
  · show KRR (qup g 0 (nI o).toNatClampNeg) u
    rw [hcl]
    exact hu
theorem pu_X0_setRange (g : (Nat → Nat)) (σ : KS) (x1 : Int32) (x2 : Int32) (x3 : Int32) (hp : pr_X0_setRange g σ x1 x2 x3) : wp_X0_setRange g (po_X0_setRange g σ x1 x2 x3) σ x1 x2 x3 := by
  obtain ⟨hk, hq, w, f, t, rfl, rfl, rfl, hw, hft, ht⟩ := hp
  have ht2 : t ≤ 9999 := by split at ht <;> omega
  have c1 : (nI w).toNatClampNeg = w := nI_cl (by omega)
  have c2 : (nI f).toNatClampNeg = f := nI_cl (by omega)
  have c3 : (nI t).toNatClampNeg = t := nI_cl (by omega)
  unfold wp_X0_setRange po_X0_setRange
  rw [c1, c2, c3]
  refine ⟨vp_in_nI (by omega) (by omega), vp_in_nI (by omega) (by omega), ⟨?_, ?_⟩, fun u hu => hu⟩
  · obtain ⟨k0, k1, k2, k3, k4, k5, k6, k7, k8, k9, k10⟩ := hk
    rcases (show w = 0 ∨ w = 1 ∨ w = 2 by omega) with rfl | rfl | rfl
    all_goals
      unfold KR0
      simp only [qup, upd, ks_op, ks_le, ks_mo, ks_ru, ks_pl]
      simp
      first | exact ⟨k0, k3, k4, k5, k6, k7, k8, k9, k10⟩ | exact ⟨k0, k1, k2, k5, k6, k7, k8, k9, k10⟩ | exact ⟨k0, k1, k2, k3, k4, k7, k8, k9, k10⟩
  · obtain ⟨k0, k1, k2, k3, k4, k5, k6, k7, k8, k9, k10, k11⟩ := hq
    rcases (show w = 0 ∨ w = 1 ∨ w = 2 by omega) with rfl | rfl | rfl
    all_goals
      unfold QOk
      simp only [qup]
      simp
      simp at ht
      omega
theorem pu_X0_setRule (g : (Nat → Nat)) (σ : KS) (x1 : Int32) (x2 : Int32) (hp : pr_X0_setRule g σ x1 x2) : wp_X0_setRule g (po_X0_setRule g σ x1 x2) σ x1 x2 := by
  obtain ⟨⟨hk, hq, hc⟩, w, v, rfl, rfl, hw, hv0, hv1, hv2⟩ := hp
  have hv : v ≤ 9999 := by rcases (show w = 0 ∨ w = 1 ∨ w = 2 by omega) with rfl | rfl | rfl <;> simp at hv0 hv1 hv2 <;> omega
  have c1 : (nI w).toNatClampNeg = w := nI_cl (by omega)
  have c2 : (nI v).toNatClampNeg = v := nI_cl (by omega)
  unfold wp_X0_setRule po_X0_setRule
  rw [c1, c2]
  have hr : ks_ru σ w = nI (g (7 + w)) := by
    obtain ⟨k0, k1, k2, k3, k4, k5, k6, k7, k8, k9, k10⟩ := hk
    rcases (show w = 0 ∨ w = 1 ∨ w = 2 by omega) with rfl | rfl | rfl
    · exact k7
    · exact k8
    · exact k9
  have hk2 : KR0 (qup g (7 + w) v) (ks_s_ru σ (upd (ks_ru σ) w (nI v))) := by
    obtain ⟨k0, k1, k2, k3, k4, k5, k6, k7, k8, k9, k10⟩ := hk
    rcases (show w = 0 ∨ w = 1 ∨ w = 2 by omega) with rfl | rfl | rfl
    all_goals
      unfold KR0
      simp only [qup, upd, ks_op, ks_le, ks_mo, ks_ru, ks_pl]
      simp
      first | exact ⟨k0, k1, k2, k3, k4, k5, k6, k8, k9, k10⟩ | exact ⟨k0, k1, k2, k3, k4, k5, k6, k7, k9, k10⟩ | exact ⟨k0, k1, k2, k3, k4, k5, k6, k7, k8, k10⟩
  have hq2 : QOk (qup g (7 + w) v) := by
    obtain ⟨k0, k1, k2, k3, k4, k5, k6, k7, k8, k9, k10, k11⟩ := hq
    rcases (show w = 0 ∨ w = 1 ∨ w = 2 by omega) with rfl | rfl | rfl
    all_goals
      unfold QOk
      simp only [qup]
      simp at hv0 hv1 hv2 ⊢
      omega
  have hpv : (w ≠ 0 ∨ v = g 7) → PV (qup g (7 + w) v) = PV g := by
    intro h
    have e : ∀ j, j ≤ 7 → qup g (7 + w) v j = g j := by
      intro j hj
      unfold qup
      split
      · rename_i h1
        rcases h with h | h
        · omega
        · rw [show j = 7 by omega, h]
      · rfl
    funext n
    unfold PV
    rw [e 0 (by decide), e 1 (by decide), e 2 (by decide), e 3 (by decide), e 4 (by decide), e 5 (by decide), e 6 (by decide), e 7 (by decide)]
  have hc2 : (w ≠ 0 ∨ v = g 7) → KRc (qup g (7 + w) v) (ks_s_ru σ (upd (ks_ru σ) w (nI v))) := by
    intro h
    unfold KRc NV
    rw [hpv h, qup_n (by omega), qup_n (by omega)]
    exact hc
  refine ⟨vp_in_nI (by omega) (by omega), fun x3 e3 => ⟨vp_in_nI (by omega) (by omega), fun c => ?_, fun c => ⟨fun c4 => ?_, fun c4 => ⟨⟨hk2, hq2⟩, fun u hu => ⟨by rw [e3, hr], hu⟩⟩⟩⟩⟩
  · refine ⟨by rw [e3, hr], hk2, hq2, hc2 (Or.inl ?_)⟩
    intro h
    exact c (by rw [h]; rfl)
  · refine ⟨by rw [e3, hr], hk2, hq2, hc2 ?_⟩
    by_cases h : w = 0
    · right
      rw [e3, hr, nI_eq (by omega) (by have := hq.2.2.2.2.2.2.2.1; subst h; simp; omega)] at c4
      rw [c4, h]
    · exact Or.inl h
theorem pu_X0_pairAt (g : (Nat → Nat)) (σ : KS) (x1 : Int32) (hp : pr_X0_pairAt g σ x1) : wp_X0_pairAt g (fun r u => r = fn_X0_pairAt g σ x1 ∧ u = σ) σ x1 := by
  obtain ⟨⟨hk, hq, hc⟩, i, rfl, hi⟩ := hp
  obtain ⟨q0, q1, q2, q3, q4, -⟩ := id hq
  have hN := nv_le g
  have hfn : fn_X0_pairAt g σ (nI i) = nI (kth g i) := by unfold fn_X0_pairAt; rw [nI_cl (by omega)]
  have hmo0 : ks_mo σ (0 : Int32).toNatClampNeg = nI (g 2) := by rw [cl0]; exact hk.2.2.1
  have hmo1 : ks_mo σ (1 : Int32).toNatClampNeg = nI (g 4) := by rw [cl1]; exact hk.2.2.2.2.1
  have hle0 : ks_le σ (0 : Int32).toNatClampNeg = nI (g 1) := by rw [cl0]; exact hk.2.1
  have hle1 : ks_le σ (1 : Int32).toNatClampNeg = nI (g 3) := by rw [cl1]; exact hk.2.2.2.1
  have loop2 : ∀ a, g 1 ≤ a → a ≤ g 2 → fb_ct (PV g) (100 * a) ≤ i → i < fb_ct (PV g) (100 * (a + 1)) → LPX (fun K t => wp_X0_pairAt_52 g K (fun r u => r = fn_X0_pairAt g σ (nI i) ∧ u = σ) t.1 t.2.1 t.2.2.1 t.2.2.2) (σ, nI a, nI i - nI (fb_ct (PV g) (100 * a)), nI (g 3)) := by
    intro a ha1 ha2 hlo hhi
    refine lp_rule (fun t => t.1 = σ ∧ t.2.1 = nI a ∧ ∃ b : Nat, t.2.2.2 = nI b ∧ g 3 ≤ b ∧ b ≤ g 4 ∧ fb_ct (PV g) (100 * a + b) ≤ i ∧ t.2.2.1 = nI (i - fb_ct (PV g) (100 * a + b))) (fun t => 200 - t.2.2.2.toNatClampNeg) ?_ ⟨rfl, rfl, g 3, rfl, Nat.le_refl _, q3, by rw [ct_lo g (Nat.le_refl _) (by omega)]; exact hlo, by rw [ct_lo g (Nat.le_refl _) (by omega)]; exact pk_sub hlo⟩
    rintro K ⟨s, y2, y3, y4⟩ ⟨h1, h2, b, h4, hb1, hb2, hle, h3⟩ ih
    dsimp only at h1 h2 h3 h4 ih ⊢
    subst h1 h2 h3 h4
    have hin := pv_in g ha1 ha2 hb1 hb2 (by omega)
    have hs := fb_ct_succ (PV g) (100 * a + b)
    have fin : PV g (100 * a + b) = true → fb_ct (PV g) (100 * a + b) = i → (nI a * 100 + nI b = fn_X0_pairAt g s (nI i) ∧ s = s) := by
      intro p1 p2
      refine ⟨?_, rfl⟩
      rw [hfn, kth_eq (by omega) p1 p2, show (100 : Int32) = nI 100 from rfl, pk_mul, nI_add]
      congr 1
      omega
    unfold wp_X0_pairAt_52
    refine ⟨in13, fun c => ?_, fun c => ?_⟩
    · rw [hmo1, nI_leI (by omega) (by omega)] at c
      have hb : b = g 4 := by omega
      rw [ct_hi g q4, show 100 * a + (g 4 + 1) = 100 * a + b + 1 by omega, hs] at hhi
      cases hv : PV g (100 * a + b) with
      | false => rw [hv] at hhi; simp at hhi; omega
      | true => rw [hv] at hhi; simp at hhi; exact fin hv (by omega)
    · rw [hmo1, nI_leI (by omega) (by omega)] at c
      rw [lw_of hk]
      refine ⟨fun c2 => ?_, fun c2 => ⟨fun c3 => ?_, fun c3 => ?_⟩⟩
      · rintro y rfl
        have hv : PV g (100 * a + b) = false := by
          cases hv : PV g (100 * a + b) with
          | false => rfl
          | true => exact absurd c2 (hin.mp hv)
        have hs' : fb_ct (PV g) (100 * a + (b + 1)) = fb_ct (PV g) (100 * a + b) := by
          rw [show 100 * a + (b + 1) = 100 * a + b + 1 by omega, hs, hv]; rfl
        refine ih _ ⟨rfl, rfl, b + 1, nI_1 b, by omega, by omega, by rw [hs']; exact hle, by rw [hs']⟩ ?_
        dsimp only
        rw [nI_1, nI_cl (by omega), nI_cl (by omega)]
        omega
      · rintro y rfl z rfl
        have hv : PV g (100 * a + b) = true := hin.mpr c2
        have hs' : fb_ct (PV g) (100 * a + (b + 1)) = fb_ct (PV g) (100 * a + b) + 1 := by
          rw [show 100 * a + (b + 1) = 100 * a + b + 1 by omega, hs, hv]; rfl
        have hpos : 0 < i - fb_ct (PV g) (100 * a + b) := by
          rcases Nat.eq_zero_or_pos (i - fb_ct (PV g) (100 * a + b)) with h | h
          · rw [h] at c3; exact absurd rfl c3
          · exact h
        refine ih _ ⟨rfl, rfl, b + 1, nI_1 b, by omega, by omega, by rw [hs']; omega, ?_⟩ ?_
        · dsimp only
          rw [hs', sb_m1 hpos]
          congr 1
        · dsimp only
          rw [nI_1, nI_cl (by omega), nI_cl (by omega)]
          omega
      · have hv : PV g (100 * a + b) = true := hin.mpr c2
        refine fin hv ?_
        have h0 : i - fb_ct (PV g) (100 * a + b) = 0 := by
          rcases Nat.eq_zero_or_pos (i - fb_ct (PV g) (100 * a + b)) with h | h
          · exact h
          · exact absurd c3 (nI_ne0 h (by omega))
        omega
  unfold wp_X0_pairAt
  refine ⟨in03, fun x2 e2 => ?_⟩
  rw [hle0] at e2
  subst e2
  refine lp_rule (fun t => t.1 = σ ∧ t.2.1 = nI i ∧ ∃ a : Nat, t.2.2 = nI a ∧ g 1 ≤ a ∧ a ≤ g 2 ∧ fb_ct (PV g) (100 * a) ≤ i) (fun t => 200 - t.2.2.toNatClampNeg) ?_ ⟨rfl, rfl, g 1, rfl, Nat.le_refl _, q1, by rw [ct_first]; omega⟩
  rintro K ⟨s, y1, y2⟩ ⟨h1, h2, a, h3, ha1, ha2, hlo⟩ ih
  dsimp only at h1 h2 h3 ih ⊢
  subst h1 h2 h3
  have hcl : (nI a).toNatClampNeg = a := nI_cl (by omega)
  have hbe : ks_be s (nI a).toNatClampNeg = nI (fb_ct (PV g) (100 * a)) := by rw [hcl]; exact hc.2 a ha1 ha2
  unfold wp_X0_pairAt_7
  refine ⟨in03, fun c => ?_, fun c => ?_⟩
  · rw [hmo0, nI_leI (by omega) (by omega)] at c
    refine ⟨vp_in_nI (by omega) (by omega), fun x3 e3 => ⟨in13, fun x4 e4 => ?_⟩⟩
    rw [hbe] at e3
    rw [hle1] at e4
    subst e3 e4
    refine loop2 a ha1 ha2 hlo ?_
    have h5 := ct_last g q2
    rw [show g 2 = a by omega] at h5
    omega
  · rw [hmo0, nI_leI (by omega) (by omega)] at c
    have hcl2 : (nI a + 1).toNatClampNeg = a + 1 := by rw [nI_1]; exact nI_cl (by omega)
    have hbe2 : ks_be s (nI a + 1).toNatClampNeg = nI (fb_ct (PV g) (100 * (a + 1))) := by rw [hcl2]; exact hc.2 (a + 1) (by omega) (by omega)
    have hle2 := ct_le_n g (100 * (a + 1))
    refine ⟨by rw [nI_1]; exact vp_in_nI (by omega) (by omega), fun c2 => ?_, fun c2 => ?_⟩
    · rw [hbe2, nI_ltI (by omega) (by omega)] at c2
      refine ⟨vp_in_nI (by omega) (by omega), fun x3 e3 => ⟨in13, fun x4 e4 => ?_⟩⟩
      rw [hbe] at e3
      rw [hle1] at e4
      subst e3 e4
      exact loop2 a ha1 ha2 hlo c2
    · rw [hbe2, nI_ltI (by omega) (by omega)] at c2
      rintro y rfl
      refine ih _ ⟨rfl, rfl, a + 1, nI_1 a, by omega, by omega, by omega⟩ ?_
      dsimp only
      rw [nI_1, nI_cl (by omega), nI_cl (by omega)]
      omega
theorem fnd_out {g : Nat → Nat} (hq : QOk g) {x y : Int32} (h : x < nI (g 1) ∨ nI (g 2) < x ∨ y < nI (g 3) ∨ nI (g 4) < y) : fndV g x y = -9 := by
  obtain ⟨q0, q1, q2, q3, q4, -⟩ := hq
  unfold fndV
  by_cases h0 : x < 0 ∨ 99 < x ∨ y < 0 ∨ 99 < y
  · rw [if_pos h0]
  · rw [if_neg h0]
    have e0 : (0 : Int32).toInt = 0 := rfl
    have e99 : (99 : Int32).toInt = 99 := rfl
    have hx : ∃ a : Nat, a ≤ 99 ∧ x = nI a := by
      refine nI_of2 (M := 99) rfl (fun q => h0 (Or.inl q)) ?_
      exact fa_of_nlt (fun q => h0 (Or.inr (Or.inl q)))
    have hy : ∃ a : Nat, a ≤ 99 ∧ y = nI a := by
      refine nI_of2 (M := 99) rfl (fun q => h0 (Or.inr (Or.inr (Or.inl q)))) ?_
      exact fa_of_nlt (fun q => h0 (Or.inr (Or.inr (Or.inr q))))
    obtain ⟨a, ha, rfl⟩ := hx
    obtain ⟨b, hb, rfl⟩ := hy
    rw [nI_cl (by omega), nI_cl (by omega)]
    rw [nI_ltI (by omega) (by omega), nI_ltI (by omega) (by omega), nI_ltI (by omega) (by omega), nI_ltI (by omega) (by omega)] at h
    rw [pv_out g (by omega)]
    simp
theorem pu_X0_numberOf (g : (Nat → Nat)) (σ : KS) (x1 : Int32) (x2 : Int32) (hp : pr_X0_numberOf g σ x1 x2) : wp_X0_numberOf g (fun r u => r = fn_X0_numberOf g σ x1 x2 ∧ u = σ) σ x1 x2 := by
  obtain ⟨hk, hq, hc⟩ := hp
  obtain ⟨q0, q1, q2, q3, q4, -⟩ := id hq
  have hmo0 : ks_mo σ (0 : Int32).toNatClampNeg = nI (g 2) := by rw [cl0]; exact hk.2.2.1
  have hmo1 : ks_mo σ (1 : Int32).toNatClampNeg = nI (g 4) := by rw [cl1]; exact hk.2.2.2.2.1
  have hle0 : ks_le σ (0 : Int32).toNatClampNeg = nI (g 1) := by rw [cl0]; exact hk.2.1
  have hle1 : ks_le σ (1 : Int32).toNatClampNeg = nI (g 3) := by rw [cl1]; exact hk.2.2.2.1
  have out : (x1 < nI (g 1) ∨ nI (g 2) < x1 ∨ x2 < nI (g 3) ∨ nI (g 4) < x2) → wp_X0_numberOf_44 g (fun r u => r = fn_X0_numberOf g σ x1 x2 ∧ u = σ) σ x1 x2 := by
    intro h
    unfold wp_X0_numberOf_44 wp_X0_numberOf_45
    exact ⟨fun _ => ⟨(fnd_out hq h).symm, rfl⟩, fun c => absurd rfl c⟩
  unfold wp_X0_numberOf
  rw [hmo0, hmo1, hle0, hle1]
  refine ⟨in03, fun c => out (Or.inl c), fun c => ⟨in03, fun c2 => out (Or.inr (Or.inl c2)), fun c2 => ⟨in13, fun c3 => out (Or.inr (Or.inr (Or.inl c3))), fun c3 => ⟨in13, fun c4 => out (Or.inr (Or.inr (Or.inr c4))), fun c4 => ?_⟩⟩⟩⟩
  have hx : ∃ a : Nat, a < 2 ^ 31 ∧ x1 = nI a := nI_of (fun q => c (by
    rw [fa_lt] at q ⊢
    rw [nI_toInt (by omega)]
    have e0 : (0 : Int32).toInt = 0 := rfl
    omega))
  have hy : ∃ a : Nat, a < 2 ^ 31 ∧ x2 = nI a := nI_of (fun q => c3 (by
    rw [fa_lt] at q ⊢
    rw [nI_toInt (by omega)]
    have e0 : (0 : Int32).toInt = 0 := rfl
    omega))
  obtain ⟨a, ha, rfl⟩ := hx
  obtain ⟨b, hb, rfl⟩ := hy
  rw [nI_ltI (by omega) (by omega)] at c c2 c3 c4
  have hfn : fn_X0_numberOf g σ (nI a) (nI b) = if PV g (100 * a + b) = true then nI (fb_ct (PV g) (100 * a + b)) else -9 := by
    unfold fn_X0_numberOf fndV
    rw [if_neg, nI_cl (by omega), nI_cl (by omega)]
    rintro (h | h | h | h)
    · exact nI_pos (by omega) h
    · exact nI_nlt (show a ≤ 99 by omega) (by omega) h
    · exact nI_pos (by omega) h
    · exact nI_nlt (show b ≤ 99 by omega) (by omega) h
  have hin := pv_in g (show g 1 ≤ a by omega) (show a ≤ g 2 by omega) (show g 3 ≤ b by omega) (show b ≤ g 4 by omega) (by omega)
  unfold wp_X0_numberOf_45
  rw [lw_of hk]
  refine ⟨fun c5 => absurd c5 (by decide), fun _ => ⟨fun c5 => ?_, fun c5 => ⟨vp_in_nI (by omega) (by omega), ?_, ?_, rfl⟩⟩⟩
  · refine ⟨?_, rfl⟩
    rw [hfn, if_neg (fun q => hin.mp q c5)]
  · exact ⟨hk, hq, ⟨a, rfl, by omega, by omega⟩, ⟨b, rfl, by omega⟩⟩
  · have hm := ct_mono g (show 100 * a ≤ 100 * a + b by omega)
    rw [hfn, if_pos (hin.mpr c5), nI_cl (by omega), hc.2 a (by omega) (by omega)]
    unfold fn_X0_countBelow
    rw [nI_cl (by omega), nI_cl (by omega), nI_add]
    congr 1
    omega
theorem lpX_s {α : Type} {F : (α → Prop) → α → Prop} {n : Nat} {a : α} (h : F (lpX F n) a) : lpX F (n + 1) a := h
theorem pu_X0_slipBehind (g : (Nat → Nat)) (σ : KS) (x1 : Int32) (x2 : Int32) (hp : pr_X0_slipBehind g σ x1 x2) : wp_X0_slipBehind g (fun r u => r = fn_X0_slipBehind g σ x1 x2 ∧ u = σ) σ x1 x2 := by
  obtain ⟨hR, i, rfl, hi⟩ := hp
  obtain ⟨hk, hq, hc⟩ := id hR
  have hN := nv_le g
  obtain ⟨hn, -, -⟩ := kth_ok hi
  unfold wp_X0_slipBehind
  refine ⟨⟨hR, i, rfl, hi⟩, fun x3 e3 x4 e4 x5 e5 => ?_⟩
  have e3 : x3 = nI (kth g i) := by rw [e3]; unfold fn_X0_pairAt; rw [nI_cl (by omega)]
  subst e3
  have e4 : x4 = nI (kth g i / 100) := by rw [e4]; exact pk_div (by omega) (by decide) (by decide)
  have e5 : x5 = nI (kth g i % 100) := by rw [e5]; exact pk_rem (by omega) (by decide) (by decide)
  subst e4 e5
  have hfn : fn_X0_slipBehind g σ (nI i) x2 = tlF (ks_op σ) (nI (kth g i / 100)) (nI (kth g i % 100)) x2 := by
    unfold fn_X0_slipBehind
    rw [nI_cl (by omega), hk.1]
  rw [hfn]
  generalize nI (kth g i / 100) = a
  generalize nI (kth g i % 100) = b
  have er : fn_X0_result σ a b = ansF (ks_op σ) a b := rfl
  rw [er]
  unfold tlF
  refine ⟨fun c => ⟨fun c2 => ?_, fun c2 => ?_⟩, fun c => ?_⟩
  · have c2' : ¬ x2 < 0 := by
      intro q
      rw [fa_lt] at q
      rw [fa_le] at c2
      omega
    rw [if_neg c, if_neg c2']
    have step : ∀ (n : Nat) (k k1 : Int32) (Post : Int32 → KS → Prop), ¬ 5 < k → k1 = k + 1 → (¬ slpF (ks_op σ) a b k = x2 → lpX (fun K t => wp_X0_slipBehind_42 g K Post t.1 t.2.1 t.2.2.1 t.2.2.2.1 t.2.2.2.2) n (σ, x2, a, b, k1)) → (slpF (ks_op σ) a b k = x2 → Post k σ) → lpX (fun K t => wp_X0_slipBehind_42 g K Post t.1 t.2.1 t.2.2.1 t.2.2.2.1 t.2.2.2.2) (n + 1) (σ, x2, a, b, k) := by
      intro n k k1 Post h5 ek h1 h2
      subst ek
      exact And.intro (fun c3 => absurd c3 h5) (fun _ => And.intro (fun d y ey => by rw [ey]; exact h1 d) h2)
    refine ⟨7, ?_⟩
    refine step 6 1 2 _ (by decide) (by decide) (fun d1 => step 5 2 3 _ (by decide) (by decide) (fun d2 => step 4 3 4 _ (by decide) (by decide) (fun d3 => step 3 4 5 _ (by decide) (by decide) (fun d4 => step 2 5 6 _ (by decide) (by decide) (fun d5 => ?_) (fun d5 => ?_)) (fun d4 => ?_)) (fun d3 => ?_)) (fun d2 => ?_)) (fun d1 => ?_)
    · exact And.intro (fun _ => ⟨by rw [if_neg d1, if_neg d2, if_neg d3, if_neg d4, if_neg d5], rfl⟩) (fun c3 => absurd (show (5 : Int32) < 6 by decide) c3)
    · exact ⟨by rw [if_neg d1, if_neg d2, if_neg d3, if_neg d4, if_pos d5], rfl⟩
    · exact ⟨by rw [if_neg d1, if_neg d2, if_neg d3, if_pos d4], rfl⟩
    · exact ⟨by rw [if_neg d1, if_neg d2, if_pos d3], rfl⟩
    · exact ⟨by rw [if_neg d1, if_pos d2], rfl⟩
    · exact ⟨by rw [if_pos d1], rfl⟩
  · have c2' : x2 < 0 := by
      rw [fa_lt]
      rw [fa_le] at c2
      omega
    exact ⟨by rw [if_neg c, if_pos c2'], rfl⟩
  · exact ⟨by rw [if_pos c], rfl⟩
