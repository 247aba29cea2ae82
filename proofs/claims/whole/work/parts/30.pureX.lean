/-! the class over its kinds -/
theorem le_cl {x : Int32} {n : Nat} (hn : n < 2 ^ 31) (hx : ¬ x < 0) : nI n ≤ x ↔ n ≤ x.toNatClampNeg := by
  obtain ⟨j, hj, rfl⟩ := nI_of hx
  rw [nI_leI hn hj, nI_cl hj]
theorem chk {x : Int32} {n : Nat} (hn : n < 2 ^ 31) : (if x < 0 then (0 : Int32) else if nI n ≤ x then 0 else 1) = 0 ↔ outN x n := by
  by_cases h : x < 0
  · rw [if_pos h]
    exact ⟨fun _ => Or.inl h, fun _ => rfl⟩
  · rw [if_neg h]
    by_cases h2 : nI n ≤ x
    · rw [if_pos h2]
      exact ⟨fun _ => Or.inr ((le_cl hn h).mp h2), fun _ => rfl⟩
    · rw [if_neg h2]
      exact ⟨fun q => absurd q (by decide), fun q => absurd ((le_cl hn h).mpr (q.resolve_left h)) h2⟩
theorem isk {C : CS} {σ : XS} (hR : RX C σ) (x : Int32) : fn_X1_isKind σ x = 0 ↔ outN x (c_nk C) := by
  unfold fn_X1_isKind
  rw [hR.2.1]
  exact chk (by have := hR.1.1; omega)
theorem isp {C : CS} {σ : XS} (hR : RX C σ) (x : Int32) : fn_X1_isPlace σ x = 0 ↔ outN x (c_np C) := by
  unfold fn_X1_isPlace
  rw [hR.2.2.2.2.1]
  exact chk (by have := hR.1.2.2.2.1; omega)
theorem vin_le {x : Int32} {n m : Nat} (h : ¬ outN x n) (hm : n ≤ m) : vp_in x m := by
  rintro (q | q)
  · exact h (Or.inl q)
  · exact h (Or.inr (by omega))
theorem out_ex {x : Int32} {n : Nat} (h : ¬ outN x n) : ∃ j : Nat, x = nI j ∧ j < n ∧ x.toNatClampNeg = j ∧ j < 2 ^ 31 := by
  obtain ⟨j, hj, rfl⟩ := nI_of (fun q => h (Or.inl q))
  have hc := nI_cl hj
  refine ⟨j, rfl, ?_, hc, hj⟩
  rcases Nat.lt_or_ge j n with q | q
  · exact q
  · exact absurd (Or.inr (by rw [hc]; exact q)) h
theorem krr {C : CS} {σ : XS} (hR : RX C σ) {k : Nat} (hk : k < c_nk C) : KRR (cq C k) (xs_ki σ k) := by
  have h8 := hR.1.1
  exact ⟨hR.2.2.1 k (by omega), hR.1.2.1 k (by omega), hR.2.2.2.1 k hk⟩
theorem out_lt {x : Int32} {n : Nat} (h : ¬ outN x n) : x.toNatClampNeg < n := by
  obtain ⟨j, -, h1, h2, -⟩ := out_ex h
  omega
theorem cq_ne {C : CS} {k i : Nat} (h : i ≠ 10) : cq C k i = c_q C k i := by unfold cq; rw [if_neg h]
theorem isv {C : CS} {σ : XS} (x1 x2 : Int32) : fn_X1_isVariant C σ x1 x2 = 0 ↔ noV C x1 x2 := by
  unfold fn_X1_isVariant
  by_cases h : noV C x1 x2
  · rw [if_pos h]
    exact ⟨fun _ => h, fun _ => rfl⟩
  · rw [if_neg h]
    exact ⟨fun q => absurd q (by decide), fun q => absurd q h⟩
theorem pu_X1_isKind (g : CS) (σ : XS) (x1 : Int32) : wp_X1_isKind g (fun r u => r = fn_X1_isKind σ x1 ∧ u = σ) σ x1 := by
  unfold wp_X1_isKind fn_X1_isKind
  exact ⟨fun c => ⟨by rw [if_pos c], rfl⟩, fun c => ⟨fun c2 => ⟨by rw [if_neg c, if_pos c2], rfl⟩, fun c2 => ⟨by rw [if_neg c, if_neg c2], rfl⟩⟩⟩
theorem pu_X1_isPlace (g : CS) (σ : XS) (x1 : Int32) : wp_X1_isPlace g (fun r u => r = fn_X1_isPlace σ x1 ∧ u = σ) σ x1 := by
  unfold wp_X1_isPlace fn_X1_isPlace
  exact ⟨fun c => ⟨by rw [if_pos c], rfl⟩, fun c => ⟨fun c2 => ⟨by rw [if_neg c, if_pos c2], rfl⟩, fun c2 => ⟨by rw [if_neg c, if_neg c2], rfl⟩⟩⟩
theorem pu_X1_isSeat (g : CS) (σ : XS) (x1 : Int32) : wp_X1_isSeat g (fun r u => r = fn_X1_isSeat σ x1 ∧ u = σ) σ x1 := by
  unfold wp_X1_isSeat fn_X1_isSeat
  exact ⟨fun c => ⟨by rw [if_pos c], rfl⟩, fun c => ⟨fun c2 => ⟨by rw [if_neg c, if_pos c2], rfl⟩, fun c2 => ⟨fun c3 => ⟨by rw [if_neg c, if_neg c2, if_pos c3], rfl⟩, fun c3 => ⟨by rw [if_neg c, if_neg c2, if_neg c3], rfl⟩⟩⟩⟩
theorem pu_X1_sheetAt (g : CS) (σ : XS) (x1 : Int32) : wp_X1_sheetAt g (fun r u => r = fn_X1_sheetAt σ x1 ∧ u = σ) σ x1 := by
  unfold wp_X1_sheetAt
  rintro _ rfl _ rfl
  exact ⟨rfl, rfl⟩
theorem pu_X1_missesFrom (g : CS) (σ : XS) (x1 : Int32) : wp_X1_missesFrom g (fun r u => r = fn_X1_missesFrom σ x1 ∧ u = σ) σ x1 := ⟨rfl, rfl⟩
theorem pu_X1_isVariant (g : CS) (σ : XS) (x1 : Int32) (x2 : Int32) (hp : pr_X1_isVariant g σ x1 x2) : wp_X1_isVariant g (fun r u => r = fn_X1_isVariant g σ x1 x2 ∧ u = σ) σ x1 x2 := by
  have hR : RX g σ := hp
  have h8 := hR.1.1
  unfold wp_X1_isVariant
  rw [isk hR]
  refine ⟨fun c => ⟨?_, rfl⟩, fun c => ⟨fun c2 => ⟨?_, rfl⟩, fun c2 => ⟨vin_le c h8, fun c3 => ⟨?_, rfl⟩, fun c3 => ⟨?_, rfl⟩⟩⟩⟩
  · unfold fn_X1_isVariant
    rw [if_pos (Or.inl c)]
  · unfold fn_X1_isVariant
    rw [if_pos (Or.inr (Or.inl c2))]
  all_goals
    have hsz : fn_X0_size (xs_ki σ x1.toNatClampNeg) = nI (NV (cq g x1.toNatClampNeg)) := (hR.2.2.2.1 _ (out_lt c)).1
    rw [hsz, le_cl (by have := nv_le (cq g x1.toNatClampNeg); omega) c2] at c3
    unfold fn_X1_isVariant
  · rw [if_pos (Or.inr (Or.inr c3))]
  · rw [if_neg]
    rintro (h | h | h)
    · exact c h
    · exact c2 h
    · exact c3 h
theorem pu_X1_variants (g : CS) (σ : XS) (x1 : Int32) (hp : pr_X1_variants g σ x1) : wp_X1_variants g (fun r u => r = fn_X1_variants g σ x1 ∧ u = σ) σ x1 := by
  have hR : RX g σ := hp
  have h8 := hR.1.1
  unfold wp_X1_variants fn_X1_variants sp_variants
  rw [isk hR]
  refine ⟨fun c => ⟨by rw [if_pos c], rfl⟩, fun c => ⟨vin_le c h8, ?_, rfl⟩⟩
  rw [if_neg c]
  exact (hR.2.2.2.1 _ (out_lt c)).1
theorem pair_ab {n : Nat} (h : n < 10000) : nI n / 100 = nI (n / 100) ∧ nI n - nI n / 100 * 100 = nI (n % 100) := ⟨pk_div (by omega) (by decide) (by decide), pk_rem (by omega) (by decide) (by decide)⟩
/-- of a variant that there is: what pairAt wants and gives -/
theorem var_ok {C : CS} {σ : XS} (hR : RX C σ) {x1 x2 : Int32} (h : ¬ noV C x1 x2) : x1.toNatClampNeg < c_nk C ∧ pr_X0_pairAt (cq C x1.toNatClampNeg) (xs_ki σ x1.toNatClampNeg) x2 ∧ kth (cq C x1.toNatClampNeg) x2.toNatClampNeg < 10000 ∧ fn_X0_pairAt (cq C x1.toNatClampNeg) (xs_ki σ x1.toNatClampNeg) x2 = nI (kth (cq C x1.toNatClampNeg) x2.toNatClampNeg) ∧ vp_in x1 8 ∧ ks_op (xs_ki σ x1.toNatClampNeg) = op_k C x1 := by
  have h1 : ¬ outN x1 (c_nk C) := fun q => h (Or.inl q)
  have h2 : ¬ outN x2 (NV (cq C x1.toNatClampNeg)) := fun q => h (Or.inr q)
  have hk := out_lt h1
  obtain ⟨i, e, hi, hc, -⟩ := out_ex h2
  have hkr := krr hR hk
  refine ⟨hk, ⟨hkr, i, e, hi⟩, ?_, rfl, vin_le h1 hR.1.1, ?_⟩
  · rw [hc]
    exact (kth_ok hi).1
  · rw [hkr.1.1, cq_ne (by decide)]
theorem pu_X1_variant (g : CS) (σ : XS) (x1 : Int32) (x2 : Int32) (x3 : Int32) (hp : pr_X1_variant g σ x1 x2 x3) : wp_X1_variant g (fun r u => r = fn_X1_variant g σ x1 x2 x3 ∧ u = σ) σ x1 x2 x3 := by
  have hR : RX g σ := hp
  unfold wp_X1_variant fn_X1_variant sp_variant
  rw [isv]
  refine ⟨hR, fun c => ?_, fun c => ⟨by rw [if_pos c], rfl⟩⟩
  obtain ⟨hk, hpr, hn, hfn, hv8, hop⟩ := var_ok hR c
  obtain ⟨pa, pb⟩ := pair_ab hn
  refine ⟨hv8, hpr, fun x4 e4 x5 e5 x6 e6 => ?_⟩
  rw [hfn] at e4
  subst e4
  rw [pa] at e5
  rw [pb] at e6
  subst e5 e6
  have er : fn_X0_result (xs_ki σ x1.toNatClampNeg) (va_a g x1 x2) (va_b g x1 x2) = ansF (op_k g x1) (va_a g x1 x2) (va_b g x1 x2) := by unfold fn_X0_result; rw [hop]
  have ec : fn_X0_carries (xs_ki σ x1.toNatClampNeg) (va_a g x1 x2) (va_b g x1 x2) = carF (op_k g x1) (va_a g x1 x2) (va_b g x1 x2) := by unfold fn_X0_carries; rw [hop]
  rw [if_neg c]
  refine ⟨fun d => ⟨by rw [if_pos d], rfl⟩, fun d => ⟨fun d2 => ⟨by rw [if_neg d, if_pos d2], rfl⟩, fun d2 => ⟨fun d3 => ⟨hv8, by rw [if_neg d, if_neg d2, if_pos d3]; exact er, rfl⟩, fun d3 => ⟨fun d4 => ⟨hv8, fun d5 => ⟨?_, rfl⟩, fun d5 => ⟨?_, rfl⟩⟩, fun d4 => ⟨by rw [if_neg d, if_neg d2, if_neg d3, if_neg d4], rfl⟩⟩⟩⟩⟩
  · rw [if_neg d, if_neg d2, if_neg d3, if_pos d4]
    exact (ec ▸ d5).symm
  · rw [if_neg d, if_neg d2, if_neg d3, if_pos d4]
    rcases car01 (op_k g x1) (va_a g x1 x2) (va_b g x1 x2) with h | h
    · exact absurd (ec.trans h) d5
    · exact h.symm
theorem pu_X1_find (g : CS) (σ : XS) (x1 : Int32) (x2 : Int32) (x3 : Int32) (hp : pr_X1_find g σ x1 x2 x3) : wp_X1_find g (fun r u => r = fn_X1_find g σ x1 x2 x3 ∧ u = σ) σ x1 x2 x3 := by
  have hR : RX g σ := hp
  unfold wp_X1_find fn_X1_find sp_find
  rw [isk hR]
  exact ⟨fun c => ⟨by rw [if_pos c], rfl⟩, fun c => ⟨vin_le c hR.1.1, krr hR (out_lt c), by rw [if_neg c]; rfl, rfl⟩⟩
theorem pu_X1_slip (g : CS) (σ : XS) (x1 : Int32) (x2 : Int32) (x3 : Int32) (hp : pr_X1_slip g σ x1 x2 x3) : wp_X1_slip g (fun r u => r = fn_X1_slip g σ x1 x2 x3 ∧ u = σ) σ x1 x2 x3 := by
  have hR : RX g σ := hp
  unfold wp_X1_slip fn_X1_slip sp_slip
  rw [isv]
  refine ⟨hR, fun c => ?_, fun c => ⟨by rw [if_pos c], rfl⟩⟩
  obtain ⟨hk, hpr, hn, hfn, hv8, hop⟩ := var_ok hR c
  obtain ⟨pa, pb⟩ := pair_ab hn
  rw [if_neg c]
  refine ⟨fun d => ⟨by rw [if_pos (Or.inl d)], rfl⟩, fun d => ⟨fun d2 => ⟨hv8, hpr, fun x4 e4 => ⟨hv8, ?_, rfl⟩⟩, fun d2 => ⟨?_, rfl⟩⟩⟩
  · rw [hfn] at e4
    subst e4
    rw [pb, pa, if_neg]
    · unfold fn_X0_slipped
      rw [hop]
    · rintro (h | h)
      · exact d h
      · rw [fa_lt] at h
        rw [fa_le] at d2
        omega
  · rw [if_pos (Or.inr (fa_of_nle d2))]
theorem pu_X1_tells (g : CS) (σ : XS) (x1 : Int32) (x2 : Int32) (x3 : Int32) (hp : pr_X1_tells g σ x1 x2 x3) : wp_X1_tells g (fun r u => r = fn_X1_tells g σ x1 x2 x3 ∧ u = σ) σ x1 x2 x3 := by
  have hR : RX g σ := hp
  unfold wp_X1_tells fn_X1_tells sp_tells
  rw [isv]
  refine ⟨hR, fun c => ⟨by rw [if_pos c], rfl⟩, fun c => ?_⟩
  obtain ⟨hk, hpr, hn, hfn, hv8, hop⟩ := var_ok hR c
  refine ⟨hv8, hpr, ?_, rfl⟩
  rw [if_neg c]
  unfold fn_X0_slipBehind
  rw [cq_ne (by decide)]
theorem pu_X1_placed (g : CS) (σ : XS) (x1 : Int32) (hp : pr_X1_placed g σ x1) : wp_X1_placed g (fun r u => r = fn_X1_placed g σ x1 ∧ u = σ) σ x1 := by
  have hR : RX g σ := hp
  unfold wp_X1_placed fn_X1_placed sp_placed
  rw [isp hR]
  exact ⟨fun c => ⟨by rw [if_pos c], rfl⟩, fun c => ⟨vin_le c hR.1.2.2.2.1, by rw [if_neg c]; exact (hR.2.2.2.2.2.1 _ (out_lt c)).1, rfl⟩⟩
