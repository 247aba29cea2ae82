/-! the class: calls that write -/
theorem rng {x : Int32} {lo hi : Nat} (hhi : hi < 2 ^ 30) (hlo : lo ≤ hi) (h1 : ¬ x < nI lo) (h2 : ¬ nI hi < x) : ∃ n : Nat, x = nI n ∧ lo ≤ n ∧ n ≤ hi ∧ x.toNatClampNeg = n := by
  have h0 : ¬ x < 0 := by
    intro q
    apply h1
    rw [fa_lt] at q ⊢
    rw [nI_toInt (by omega)]
    have e0 : (0 : Int32).toInt = 0 := rfl
    omega
  obtain ⟨n, hn, rfl⟩ := nI_of h0
  rw [nI_ltI hn (by omega)] at h1
  rw [nI_ltI (by omega) hn] at h2
  exact ⟨n, rfl, by omega, by omega, nI_cl hn⟩
theorem pu_X1_lines (g : CS) (σ : XS) (x1 : Int32) (hp : pr_X1_lines g σ x1) : wp_X1_lines g (po_X1_lines g σ x1) σ x1 := by
  have hR : RX g σ := hp
  unfold wp_X1_lines po_X1_lines sp_lines st_lines
  refine ⟨fun c => ⟨by rw [if_pos (Or.inl c)], by rw [if_pos (Or.inl c)]; exact hR⟩, fun c => ⟨fun d x2 e2 => ?_, fun d => ?_⟩⟩
  · have hn : ¬ (x1 < 9 ∨ 99 < x1) := by
      rintro (h | h)
      · exact c h
      · rw [fa_lt] at h
        rw [fa_le] at d
        omega
    rw [if_neg hn, if_neg hn]
    obtain ⟨n, rfl, h1, h2, hc⟩ := rng (lo := 9) (hi := 99) (by decide) (by decide) (fun q => hn (Or.inl q)) (fun q => hn (Or.inr q))
    obtain ⟨⟨k1, k2, k3, k4, k5, k6, k7, k8, k9, k10, k11, k12, k13⟩, r1, r2, r3, r4, r5, r6, r7, r8, r9, r10, r11, r12⟩ := hR
    rw [hc, e2]
    exact ⟨r6, ⟨k1, k2, k3, k4, k5, h1, h2, k8, k9, k10, k11, k12, k13⟩, r1, r2, r3, r4, r5, rfl, r7, r8, r9, r10, r11, r12⟩
  · rw [if_pos (Or.inr (fa_of_nle d)), if_pos (Or.inr (fa_of_nle d))]
    exact ⟨rfl, hR⟩
theorem pu_X1_base (g : CS) (σ : XS) (x1 : Int32) (hp : pr_X1_base g σ x1) : wp_X1_base g (po_X1_base g σ x1) σ x1 := by
  have hR : RX g σ := hp
  unfold wp_X1_base po_X1_base sp_base st_base
  refine ⟨fun c => ⟨by rw [if_pos (Or.inl c)], by rw [if_pos (Or.inl c)]; exact hR⟩, fun c => ⟨fun d x2 e2 => ?_, fun d => ?_⟩⟩
  · have hn : ¬ (x1 < 0 ∨ 9000 < x1) := by
      rintro (h | h)
      · exact c h
      · rw [fa_lt] at h
        rw [fa_le] at d
        omega
    rw [if_neg hn, if_neg hn]
    obtain ⟨n, rfl, h1, h2, hc⟩ := rng (lo := 0) (hi := 9000) (by decide) (by decide) (fun q => hn (Or.inl q)) (fun q => hn (Or.inr q))
    obtain ⟨⟨k1, k2, k3, k4, k5, k6, k7, k8, k9, k10, k11, k12, k13⟩, r1, r2, r3, r4, r5, r6, r7, r8, r9, r10, r11, r12⟩ := hR
    rw [hc, e2]
    exact ⟨r9, ⟨k1, k2, k3, k4, k5, k6, k7, k8, k9, k10, k11, h2, k13⟩, r1, r2, r3, r4, r5, r6, r7, r8, rfl, r10, r11, r12⟩
  · rw [if_pos (Or.inr (fa_of_nle d)), if_pos (Or.inr (fa_of_nle d))]
    exact ⟨rfl, hR⟩
theorem pu_X1_total (g : CS) (σ : XS) (x1 : Int32) (hp : pr_X1_total g σ x1) : wp_X1_total g (fun r u => r = fn_X1_total g σ x1 ∧ u = σ) σ x1 := by
  have hR : RX g σ := hp
  obtain ⟨hC, r1, r2, r3, r4, r5, r6, r7, r8, r9, r10, r11, r12⟩ := id hR
  unfold wp_X1_total fn_X1_total sp_total
  rw [r1, r4, r7, r8, r11, r12, pk_mul]
  refine ⟨fun c => ?_, fun c => ⟨fun c2 => ?_, fun c2 => ⟨fun c3 => ?_, fun c3 => ⟨fun c4 => ?_, fun c4 => ⟨fun c5 => ?_, fun c5 => ?_⟩⟩⟩⟩⟩
  all_goals refine ⟨?_, rfl⟩
  all_goals repeat' split
  all_goals first | rfl | contradiction
theorem min2 {n : Nat} (hn : n < 2 ^ 31) : (if 2 < nI n then (2 : Int32) else nI n) = nI (min n 2) := by
  have e : (2 < nI n) ↔ 2 < n := nI_ltI (a := 2) (b := n) (by decide) hn
  by_cases h : 2 < n
  · rw [if_pos (e.mpr h), Nat.min_eq_right (by omega)]
    rfl
  · rw [if_neg (fun q => h (e.mp q)), Nat.min_eq_left (by omega)]
theorem pu_X1_unlike (g : CS) (σ : XS) (hp : pr_X1_unlike g σ) : wp_X1_unlike g (fun r u => r = fn_X1_unlike g σ ∧ u = σ) σ := by
  have hR : RX g σ := hp
  obtain ⟨⟨k1, k2, k3, k4, k5, k6, k7, k8, k9, k10, k11, k12, k13⟩, r1, r2, r3, r4, r5, r6, r7, r8, r9, r10, r11, r12⟩ := id hR
  unfold wp_X1_unlike fn_X1_unlike sp_unlike
  rw [r7, r8, min2 (by omega), min2 (by omega), pk_mul]
  exact ⟨rfl, rfl⟩
/-- of a seat -/
theorem isse {C : CS} {σ : XS} (hR : RX C σ) (x : Int32) : fn_X1_isSeat σ x = 0 ↔ noSd C x := by
  obtain ⟨⟨k1, k2, k3, k4, k5, k6, k7, k8, k9, k10, k11, k12, k13⟩, r1, r2, r3, r4, r5, r6, r7, r8, r9, r10, r11, r12⟩ := id hR
  unfold fn_X1_isSeat
  rw [r7, r8]
  by_cases h : x < 0
  · rw [if_pos h]
    exact ⟨fun _ => Or.inl h, fun _ => rfl⟩
  · rw [if_neg h]
    obtain ⟨n, hn, rfl⟩ := nI_of h
    have e1 : nI n / 10 = nI (n / 10) := pk_div hn (by decide) (by decide)
    have e2 : irm (nI n) 10 = nI (n % 10) := pk_rem hn (by decide) (by decide)
    unfold noSd
    rw [e1, e2, nI_cl hn]
    have a1 : nI (c_ro C) ≤ nI (n / 10) ↔ c_ro C ≤ n / 10 := nI_leI (by omega) (by omega)
    have a2 : nI (c_co C) ≤ nI (n % 10) ↔ c_co C ≤ n % 10 := nI_leI (by omega) (by omega)
    by_cases h1 : c_ro C ≤ n / 10
    · rw [if_pos (a1.mpr h1)]
      exact ⟨fun _ => Or.inr (Or.inl h1), fun _ => rfl⟩
    · rw [if_neg (fun q => h1 (a1.mp q))]
      by_cases h2 : c_co C ≤ n % 10
      · rw [if_pos (a2.mpr h2)]
        exact ⟨fun _ => Or.inr (Or.inr h2), fun _ => rfl⟩
      · rw [if_neg (fun q => h2 (a2.mp q))]
        constructor
        · intro q
          exact absurd q (by decide)
        · rintro (q | q | q)
          · exact absurd q h
          · exact absurd q h1
          · exact absurd q h2
/-- a seat that there is -/
theorem seat_ex {C : CS} (hC : COk C) {x : Int32} (h : ¬ noSd C x) : ∃ r c : Nat, x = nI (10 * r + c) ∧ r < c_ro C ∧ c < c_co C ∧ r < 8 ∧ c < 8 ∧ x.toNatClampNeg / 10 = r ∧ x.toNatClampNeg % 10 = c ∧ x.toNatClampNeg = 10 * r + c := by
  obtain ⟨k1, k2, k3, k4, k5, k6, k7, k8, k9, k10, k11, k12, k13⟩ := hC
  obtain ⟨n, hn, rfl⟩ := nI_of (fun q => h (Or.inl q))
  have hc := nI_cl hn
  refine ⟨n / 10, n % 10, by congr 1; omega, ?_, ?_, ?_, ?_, by rw [hc], by rw [hc], by rw [hc]; omega⟩
  all_goals
    unfold noSd at h
    rw [hc] at h
    omega
theorem shAt {C : CS} {σ : XS} (hR : RX C σ) {x : Int32} (h : ¬ noSd C x) : fn_X1_sheetAt σ x = nI (shS C x) ∧ shS C x < 10000 := by
  obtain ⟨⟨k1, k2, k3, k4, k5, k6, k7, k8, k9, k10, k11, k12, k13⟩, r1, r2, r3, r4, r5, r6, r7, r8, r9, r10, r11, r12⟩ := id hR
  obtain ⟨r, c, rfl, h1, h2, h3, h4, h5, h6, h7⟩ := seat_ex hR.1 h
  have hm : min (c_co C) 2 ≤ 2 := Nat.min_le_right _ _
  have hr2 : r % 2 * min (c_co C) 2 ≤ 2 := by
    rcases (show r % 2 = 0 ∨ r % 2 = 1 by omega) with e | e <;> rw [e] <;> omega
  refine ⟨?_, ?_⟩
  · unfold fn_X1_sheetAt shS seN
    have e1 : nI (10 * r + c) / 10 = nI r := by
      rw [show (10 : Int32) = nI 10 from rfl, pk_div (by omega) (by decide) (by decide)]
      congr 1
      omega
    have e2 : irm (nI (10 * r + c)) 10 = nI c := by
      have := pk_rem (a := 10 * r + c) (d := 10) (by omega) (by decide) (by decide)
      rw [show (10 * r + c) % 10 = c by omega] at this
      exact this
    have e3 : irm (nI r) 2 = nI (r % 2) := pk_rem (by omega) (by decide) (by decide)
    have e4 : irm (nI c) 2 = nI (c % 2) := pk_rem (by omega) (by decide) (by decide)
    rw [e1, e2, e3, e4, r9, r8, min2 (by omega), pk_mul, nI_add, nI_add, h5, h6]
    congr 1
    omega
  · unfold shS seN
    rw [h5, h6]
    omega
theorem pu_X1_seat (g : CS) (σ : XS) (x1 : Int32) (hp : pr_X1_seat g σ x1) : wp_X1_seat g (fun r u => r = fn_X1_seat g σ x1 ∧ u = σ) σ x1 := by
  have hR : RX g σ := hp
  unfold wp_X1_seat fn_X1_seat sp_seat
  rw [isse hR]
  exact ⟨fun c => ⟨by rw [if_pos c], rfl⟩, fun c => ⟨by rw [if_neg c]; exact (shAt hR c).1, rfl⟩⟩
