/-! kind, range, rule -/
theorem cq_10 {C : CS} {k : Nat} : cq C k 10 = ahd C k (c_np C) := by unfold cq; rw [if_pos rfl]
theorem cq_kind {C : CS} {op : Int32} {k : Nat} : cq (nx_kind C op) k = if k = c_nk C then qup (cq C k) 0 op.toNatClampNeg else cq C k := by
  funext i
  by_cases h : k = c_nk C
  · rw [if_pos h]
    by_cases hi : i = 10
    · subst hi
      rw [qup_n (by decide), cq_10, cq_10]
      rfl
    · rw [cq_ne hi]
      show (if k = c_nk C then qup (c_q C k) 0 op.toNatClampNeg else c_q C k) i = _
      rw [if_pos h]
      unfold qup
      rw [cq_ne hi]
  · rw [if_neg h]
    by_cases hi : i = 10
    · subst hi
      rw [cq_10, cq_10]
      rfl
    · rw [cq_ne hi, cq_ne hi]
      show (if k = c_nk C then qup (c_q C k) 0 op.toNatClampNeg else c_q C k) i = _
      rw [if_neg h]
theorem cq_range {C : CS} {x w f t : Int32} (hw : w.toNatClampNeg < 3) {k : Nat} : cq (nx_range C x w f t) k = if k = x.toNatClampNeg then qup (qup (cq C k) (1 + 2 * w.toNatClampNeg) f.toNatClampNeg) (2 + 2 * w.toNatClampNeg) t.toNatClampNeg else cq C k := by
  funext i
  by_cases h : k = x.toNatClampNeg
  · rw [if_pos h]
    by_cases hi : i = 10
    · subst hi
      rw [qup_n (by omega), qup_n (by omega), cq_10, cq_10]
      rfl
    · rw [cq_ne hi]
      show (if k = x.toNatClampNeg then qup (qup (c_q C k) (1 + 2 * w.toNatClampNeg) f.toNatClampNeg) (2 + 2 * w.toNatClampNeg) t.toNatClampNeg else c_q C k) i = _
      rw [if_pos h]
      unfold qup
      rw [cq_ne hi]
  · rw [if_neg h]
    by_cases hi : i = 10
    · subst hi
      rw [cq_10, cq_10]
      rfl
    · rw [cq_ne hi, cq_ne hi]
      show (if k = x.toNatClampNeg then qup (qup (c_q C k) (1 + 2 * w.toNatClampNeg) f.toNatClampNeg) (2 + 2 * w.toNatClampNeg) t.toNatClampNeg else c_q C k) i = _
      rw [if_neg h]
theorem cq_rule {C : CS} {x w v : Int32} (hw : w.toNatClampNeg < 3) {k : Nat} : cq (nx_rule C x w v) k = if k = x.toNatClampNeg then qup (cq C k) (7 + w.toNatClampNeg) v.toNatClampNeg else cq C k := by
  funext i
  by_cases h : k = x.toNatClampNeg
  · rw [if_pos h]
    by_cases hi : i = 10
    · subst hi
      rw [qup_n (by omega), cq_10, cq_10]
      rfl
    · rw [cq_ne hi]
      show (if k = x.toNatClampNeg then qup (c_q C k) (7 + w.toNatClampNeg) v.toNatClampNeg else c_q C k) i = _
      rw [if_pos h]
      unfold qup
      rw [cq_ne hi]
  · rw [if_neg h]
    by_cases hi : i = 10
    · subst hi
      rw [cq_10, cq_10]
      rfl
    · rw [cq_ne hi, cq_ne hi]
      show (if k = x.toNatClampNeg then qup (c_q C k) (7 + w.toNatClampNeg) v.toNatClampNeg else c_q C k) i = _
      rw [if_neg h]
theorem isr0 (w f t : Int32) : fn_X0_isRange w f t = 0 ↔ badR w f t := by
  unfold fn_X0_isRange badR
  by_cases h1 : w < 0
  · rw [if_pos h1]; exact ⟨fun _ => Or.inl h1, fun _ => rfl⟩
  rw [if_neg h1]
  by_cases h2 : 2 < w
  · rw [if_pos h2]; exact ⟨fun _ => Or.inr (Or.inl h2), fun _ => rfl⟩
  rw [if_neg h2]
  by_cases h3 : f < 0
  · rw [if_pos h3]; exact ⟨fun _ => Or.inr (Or.inr (Or.inl h3)), fun _ => rfl⟩
  rw [if_neg h3]
  by_cases h4 : t < f
  · rw [if_pos h4]; exact ⟨fun _ => Or.inr (Or.inr (Or.inr (Or.inl h4))), fun _ => rfl⟩
  rw [if_neg h4]
  have e : sx_v0 w.toNatClampNeg = if w = 2 then 9999 else 99 := by
    obtain ⟨n, rfl, -, hn, hc⟩ := rng (lo := 0) (hi := 2) (by decide) (by decide) h1 h2
    rw [hc]
    rcases (show n = 0 ∨ n = 1 ∨ n = 2 by omega) with rfl | rfl | rfl <;> decide
  rw [e]
  by_cases h5 : (if w = 2 then (9999 : Int32) else 99) < t
  · rw [if_pos h5]; exact ⟨fun _ => Or.inr (Or.inr (Or.inr (Or.inr h5))), fun _ => rfl⟩
  rw [if_neg h5]
  constructor
  · intro q; exact absurd q (by decide)
  · rintro (q | q | q | q | q)
    · exact absurd q h1
    · exact absurd q h2
    · exact absurd q h3
    · exact absurd q h4
    · exact absurd q h5
/-- the numbers of a range that is good -/
theorem good_range {w f t : Int32} (h : ¬ badR w f t) : ∃ w' f' t' : Nat, w = nI w' ∧ f = nI f' ∧ t = nI t' ∧ w' < 3 ∧ f' ≤ t' ∧ t' ≤ (if w' = 2 then 9999 else 99) ∧ w.toNatClampNeg = w' ∧ f.toNatClampNeg = f' ∧ t.toNatClampNeg = t' := by
  have h1 : ¬ w < 0 := fun q => h (Or.inl q)
  have h2 : ¬ 2 < w := fun q => h (Or.inr (Or.inl q))
  have h3 : ¬ f < 0 := fun q => h (Or.inr (Or.inr (Or.inl q)))
  have h4 : ¬ t < f := fun q => h (Or.inr (Or.inr (Or.inr (Or.inl q))))
  have h5 : ¬ (if w = 2 then (9999 : Int32) else 99) < t := fun q => h (Or.inr (Or.inr (Or.inr (Or.inr q))))
  obtain ⟨w', rfl, -, hw, hwc⟩ := rng (lo := 0) (hi := 2) (by decide) (by decide) h1 h2
  obtain ⟨f', hf, rfl⟩ := nI_of h3
  have ht0 : ¬ t < 0 := by
    intro q
    apply h4
    rw [fa_lt] at q ⊢
    rw [nI_toInt hf]
    have e0 : (0 : Int32).toInt = 0 := rfl
    omega
  obtain ⟨t', ht, rfl⟩ := nI_of ht0
  rw [nI_ltI ht hf] at h4
  refine ⟨w', f', t', rfl, rfl, rfl, by omega, by omega, ?_, hwc, nI_cl hf, nI_cl ht⟩
  rcases (show w' = 0 ∨ w' = 1 ∨ w' = 2 by omega) with rfl | rfl | rfl
  · rw [if_neg (by decide)] at h5
    have : ¬ 99 < t' := fun q => h5 ((nI_ltI (a := 99) (b := t') (by decide) ht).mpr q)
    simp
    omega
  · rw [if_neg (by decide)] at h5
    have : ¬ 99 < t' := fun q => h5 ((nI_ltI (a := 99) (b := t') (by decide) ht).mpr q)
    simp
    omega
  · rw [if_pos (show nI 2 = 2 from rfl)] at h5
    have : ¬ 9999 < t' := fun q => h5 ((nI_ltI (a := 9999) (b := t') (by decide) ht).mpr q)
    simp
    omega
/-- a kind's state is put back with new numbers: all else of RX stays -/
theorem rx_put {C C2 : CS} {σ : XS} {k : Nat} {u : KS} {q' : Nat → Nat} (hR : RX C σ) (hk : k < c_nk C) (h1 : C2.1 = C.1) (h3 : C2.2.2 = C.2.2) (hq : ∀ j, cq C2 j = if j = k then q' else cq C j) (hq0 : ∀ j, c_nk C ≤ j → c_q C2 j = c_q C j) (hu : KRR q' u) : RX C2 (xs_sk σ k u) := by
  obtain ⟨⟨k1, k2, k3, k4, k5, k6, k7, k8, k9, k10, k11, k12, k13⟩, r1, r2, r3, r4, r5, r6, r7, r8, r9, r10, r11, r12⟩ := hR
  obtain ⟨s2, kk2, p2⟩ := C2
  obtain ⟨s1, kk1, p1⟩ := C
  dsimp only at h1 h3
  subst h1 h3
  refine ⟨⟨k1, fun j hj => ?_, fun j hj => ?_, k4, k5, k6, k7, k8, k9, k10, k11, k12, k13⟩, r1, fun j hj => ?_, fun j hj => ?_, r4, r5, r6, r7, r8, r9, r10, r11, r12⟩
  · rw [hq j]
    by_cases h : j = k
    · rw [if_pos h]; exact hu.2.1
    · rw [if_neg h]; exact k2 j hj
  · rw [hq0 j hj]; exact k3 j hj
  · rw [hq j]
    by_cases h : j = k
    · subst h
      rw [if_pos rfl, show xs_ki (xs_sk σ j u) j = u from va_up_self _ _ _]
      exact hu.1
    · rw [if_neg h, show xs_ki (xs_sk σ k u) j = xs_ki σ j from va_up_ne _ _ h]
      exact r2 j hj
  · rw [hq j]
    by_cases h : j = k
    · subst h
      rw [if_pos rfl, show xs_ki (xs_sk σ j u) j = u from va_up_self _ _ _]
      exact hu.2.2
    · rw [if_neg h, show xs_ki (xs_sk σ k u) j = xs_ki σ j from va_up_ne _ _ h]
      exact r3 j hj
theorem pu_X1_range (g : CS) (σ : XS) (x1 : Int32) (x2 : Int32) (x3 : Int32) (x4 : Int32) (hp : pr_X1_range g σ x1 x2 x3 x4) : wp_X1_range g (po_X1_range g σ x1 x2 x3 x4) σ x1 x2 x3 x4 := by
  have hR : RX g σ := hp
  unfold wp_X1_range po_X1_range sp_range st_range
  rw [isk hR, isr0]
  refine ⟨fun c => ⟨fun d => ?_, fun d => ?_⟩, fun c => ?_⟩
  · obtain ⟨w, f, t, rfl, rfl, rfl, hw, hft, ht, hwc, hfc, htc⟩ := good_range d
    have hk := out_lt c
    have h8 := hR.1.1
    refine ⟨vin_le c h8, ⟨(krr hR hk).1, (krr hR hk).2.1, w, f, t, rfl, rfl, rfl, hw, hft, ht⟩, fun u hu => ⟨vin_le c h8, ?_⟩⟩
    have hu : KRR _ u := hu
    rw [hwc, hfc, htc] at hu
    rw [if_neg c, if_neg d, if_neg c, if_neg d]
    have hq := fun j => cq_range (C := g) (x := x1) (w := nI w) (f := nI f) (t := nI t) (by omega) (k := j)
    rw [hwc, hfc, htc] at hq
    refine ⟨?_, ?_⟩
    · rw [show xs_ki (xs_sk σ x1.toNatClampNeg u) x1.toNatClampNeg = u from va_up_self _ _ _, hq, if_pos rfl]
      exact hu.2.2.1
    · refine rx_put (q' := qup (qup (cq g x1.toNatClampNeg) (1 + 2 * w) f) (2 + 2 * w) t) hR hk rfl rfl (fun j => ?_) (fun j hj => ?_) hu
      · rw [hq j]
        by_cases h : j = x1.toNatClampNeg
        · rw [if_pos h, if_pos h, h]
        · rw [if_neg h, if_neg h]
      · show (if j = x1.toNatClampNeg then _ else c_q g j) = c_q g j
        rw [if_neg (by omega)]
  · rw [if_neg c, if_pos d, if_neg c, if_pos d]
    exact ⟨rfl, hR⟩
  · rw [if_pos c, if_pos c]
    exact ⟨rfl, hR⟩
