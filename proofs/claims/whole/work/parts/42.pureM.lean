/-! the model: holds, tell -/
theorem mk_of {C : CS} {τ : MS} (hR : RM C τ) {k : Nat} (hk : k < c_nk C) : MK (cq C k) k τ := hR.2.2.1 k hk
theorem i3 {k i : Nat} : (3 : Int32) * nI k + nI i = nI (3 * k + i) := by rw [show (3 : Int32) = nI 3 from rfl, pk_mul, nI_add]
theorem pu_X2_holds (g : CS) (σ : MS) (x1 : Int32) (x2 : Int32) (x3 : Int32) (hp : pr_X2_holds g σ x1 x2 x3) : wp_X2_holds g (fun r u => r = fn_X2_holds σ x1 x2 x3 ∧ u = σ) σ x1 x2 x3 := by
  obtain ⟨hR, hko, a, b, rfl, rfl, ha, hb⟩ := hp
  obtain ⟨k, rfl, hk, hkc, -⟩ := out_ex hko
  have h8 := hR.1.1
  obtain ⟨p0, p1, p2, p3, p4, p5, p6, p7, p8, p9⟩ := mk_of hR hk
  obtain ⟨q0, -, -, -, -, q5, q6, q7, -⟩ := hR.1.2.1 k (by omega)
  have i2 : (3 : Int32) * nI k + 2 = nI (3 * k + 2) := i3
  have c2 : ((3 : Int32) * nI k + 2).toNatClampNeg = 3 * k + 2 := by rw [i2]; exact nI_cl (by omega)
  have v2 : vp_in ((3 : Int32) * nI k + 2) 24 := by rw [i2]; exact vp_in_nI (by omega) (by decide)
  have v8 : vp_in (nI k) 8 := vp_in_nI (by omega) (by decide)
  have hfn : fn_X2_holds σ (nI k) (nI a) (nI b) = lwF (nI (cq g k 0)) (nI (cq g k 7)) (nI (cq g k 5)) (nI (cq g k 6)) (nI a) (nI b) := by
    unfold fn_X2_holds
    rw [hkc, p0, p7, p5, p6]
  unfold wp_X2_holds
  rw [hfn, c2, hkc, p0, p5, p6, p7]
  generalize cq g k 0 = o at *
  generalize cq g k 7 = l at *
  generalize cq g k 5 = f at *
  generalize cq g k 6 = t at *
  refine ⟨v8, fun x4 e4 x5 e5 => ?_⟩
  subst e4
  replace e5 : x5 = ansF (nI o) (nI a) (nI b) := e5
  rcases ans_nat q0 ha hb with e | ⟨n, hn, e⟩
  · rw [e] at e5
    refine ⟨fun _ => ⟨?_, rfl⟩, fun q => absurd e5 q⟩
    unfold lwF
    rw [e, if_pos]
    rw [fa_lt, nI_toInt (by omega)]
    have : (-9 : Int32).toInt = -9 := rfl
    omega
  · rw [e] at e5
    subst e5
    refine ⟨fun q => absurd q.symm (m9_ne (by omega)), fun _ => ⟨v2, v2, ?_⟩⟩
    rw [in0 (v := nI n) (lo' := nI f) (hi' := nI t) rfl rfl]
    refine ⟨fun hin => ?_, fun hin => ⟨?_, rfl⟩⟩
    · have h1 : ¬ nI n < nI f := fun q => hin (Or.inl q)
      have h2 : nI n ≤ nI t := fa_of_nlt (fun q => hin (Or.inr q))
      have hlw : lwF (nI o) (nI l) (nI f) (nI t) (nI a) (nI b) = if nI l = 1 then (if carF (nI o) (nI a) (nI b) = 0 then 1 else 0) else if nI l = 2 then carF (nI o) (nI a) (nI b) else if nI l = 3 then (if othF (nI o) (nI a) (nI b) = nI n then 0 else 1) else 1 := by
        unfold lwF
        rw [e, if_neg h1, if_pos h2]
      have sl1 : ∀ s, fn_X2_slipOf (nI o) (nI a) (nI b) s = slpF (nI o) (nI a) (nI b) s := slip_eq q0 ha hb
      obtain ⟨n2, n3, n4, n5⟩ := slip_ne q0 ha hb hn e
      have fin111 : ∀ s0 : Int32, (s0 = 0 ∨ s0 = 1) → (¬ nI l = 3 → s0 = lwF (nI o) (nI l) (nI f) (nI t) (nI a) (nI b)) → wp_X2_holds_111 g (fun r u => r = lwF (nI o) (nI l) (nI f) (nI t) (nI a) (nI b) ∧ u = σ) σ (nI k) (nI a) (nI b) (nI o) (nI n) s0 := by
        intro s0 hs0 hs1
        unfold wp_X2_holds_111
        rw [hkc, p7]
        refine ⟨v8, fun c => ⟨nar01 hs0, hs1 c, rfl⟩, fun c => ?_⟩
        have hl3 : lwF (nI o) (nI l) (nI f) (nI t) (nI a) (nI b) = if othF (nI o) (nI a) (nI b) = nI n then 0 else 1 := by
          rw [hlw, c]; rfl
        rw [hl3]
        refine lp_rule (fun t => t.1 = σ ∧ t.2.1 = nI a ∧ t.2.2.1 = nI b ∧ t.2.2.2.1 = nI o ∧ t.2.2.2.2.1 = nI n ∧ ∃ s : Nat, t.2.2.2.2.2.2 = nI s ∧ 1 ≤ s ∧ s ≤ 6 ∧ t.2.2.2.2.2.1 = if s = 1 then 1 else if othF (nI o) (nI a) (nI b) = nI n then 0 else 1) (fun t => 100 - t.2.2.2.2.2.2.toNatClampNeg) ?_ ⟨rfl, rfl, rfl, rfl, rfl, 1, rfl, by decide, by decide, rfl⟩
        rintro K ⟨s, y2, y3, y4, y5, y6, y7⟩ ⟨e1, e2, e3, e4, e5, i, e7, hi1, hi6, e6⟩ ih
        dsimp only at e1 e2 e3 e4 e5 e6 e7 ih ⊢
        subst e1 e2 e3 e4 e5 e7
        unfold wp_X2_holds_129
        have h6 : (6 : Int32) ≤ nI i ↔ 6 ≤ i := nI_leI (a := 6) (by decide) (by omega)
        have mu : (nI i + 1) = nI (i + 1) := nI_1 i
        rw [h6]
        refine ⟨fun c6 => ?_, fun c6 => ⟨fun d => ?_, fun d => ⟨fun d2 => ?_, fun d2 => ?_⟩⟩⟩
        · rw [if_neg (by omega)] at e6
          subst e6
          refine ⟨nar01 ?_, rfl, rfl⟩
          split
          · exact Or.inl rfl
          · exact Or.inr rfl
        · rintro y rfl
          refine ih _ ⟨rfl, rfl, rfl, rfl, rfl, i + 1, mu, by omega, by omega, ?_⟩ (by dsimp only; rw [mu, nI_cl (by omega), nI_cl (by omega)]; omega)
          dsimp only
          rw [if_neg (by omega)]
          by_cases hi : i = 1
          · rw [if_pos hi] at e6
            rw [e6] at d
            exact absurd d (by decide)
          · rw [if_neg hi] at e6
            rw [← e6, d]
        · rintro y rfl
          refine ih _ ⟨rfl, rfl, rfl, rfl, rfl, i + 1, mu, by omega, by omega, ?_⟩ (by dsimp only; rw [mu, nI_cl (by omega), nI_cl (by omega)]; omega)
          dsimp only
          rw [if_neg (by omega)]
          rw [sl1] at d2
          rcases (show i = 1 ∨ i = 2 ∨ i = 3 ∨ i = 4 ∨ i = 5 by omega) with rfl | rfl | rfl | rfl | rfl
          · have : slpF (nI o) (nI a) (nI b) (nI 1) = othF (nI o) (nI a) (nI b) := by unfold slpF; rw [if_pos (by decide)]
            rw [this] at d2
            rw [if_pos d2]
          · exact absurd d2 n2
          · exact absurd d2 n3
          · exact absurd d2 n4
          · exact absurd d2 n5
        · rintro y rfl
          refine ih _ ⟨rfl, rfl, rfl, rfl, rfl, i + 1, mu, by omega, by omega, ?_⟩ (by dsimp only; rw [mu, nI_cl (by omega), nI_cl (by omega)]; omega)
          dsimp only
          rw [if_neg (by omega)]
          rw [sl1] at d2
          by_cases hi : i = 1
          · subst hi
            have : slpF (nI o) (nI a) (nI b) (nI 1) = othF (nI o) (nI a) (nI b) := by unfold slpF; rw [if_pos (by decide)]
            rw [this] at d2
            rw [if_neg d2]
          · rw [if_neg hi] at e6
            by_cases ho : othF (nI o) (nI a) (nI b) = nI n
            · rw [if_pos ho] at e6
              exact absurd e6 d
            · rw [if_neg ho]
      have f106 : (¬ nI l = 3 → (1 : Int32) = lwF (nI o) (nI l) (nI f) (nI t) (nI a) (nI b)) → wp_X2_holds_106 g (fun r u => r = lwF (nI o) (nI l) (nI f) (nI t) (nI a) (nI b) ∧ u = σ) σ (nI k) (nI a) (nI b) (nI o) (nI n) := fun h => by
        unfold wp_X2_holds_106
        exact fin111 1 (Or.inr rfl) h
      have f110 : (¬ nI l = 3 → (0 : Int32) = lwF (nI o) (nI l) (nI f) (nI t) (nI a) (nI b)) → wp_X2_holds_110 g (fun r u => r = lwF (nI o) (nI l) (nI f) (nI t) (nI a) (nI b) ∧ u = σ) σ (nI k) (nI a) (nI b) (nI o) (nI n) := fun h => by
        unfold wp_X2_holds_110
        exact fin111 0 (Or.inl rfl) h
      have ec : fn_X2_carries (nI o) (nI a) (nI b) = carF (nI o) (nI a) (nI b) := rfl
      rcases (show l = 0 ∨ l = 1 ∨ l = 2 ∨ l = 3 by omega) with rfl | rfl | rfl | rfl
      · refine ⟨v8, fun _ => f106 (fun _ => ?_), fun q => absurd rfl q⟩
        rw [hlw]; rfl
      · refine ⟨v8, fun q => absurd q (by decide), fun _ => ⟨v8, fun q => absurd rfl q, fun _ => ⟨fun d => f106 (fun _ => ?_), fun d => ?_⟩⟩⟩
        · rw [ec] at d
          rw [hlw, if_pos (show nI 1 = 1 from rfl), if_pos d]
        · rw [ec] at d
          unfold wp_X2_holds_86
          rw [hkc, p7]
          refine ⟨v8, fun _ => f110 (fun _ => ?_), fun q => absurd q (by decide)⟩
          rw [hlw, if_pos (show nI 1 = 1 from rfl), if_neg d]
      · refine ⟨v8, fun q => absurd q (by decide), fun _ => ⟨v8, fun _ => ?_, fun q => absurd q (by decide)⟩⟩
        unfold wp_X2_holds_86
        rw [hkc, p7]
        refine ⟨v8, fun q => absurd rfl q, fun _ => ⟨fun d => f110 (fun _ => ?_), fun d => f106 (fun _ => ?_)⟩⟩
        · rw [ec] at d
          rw [hlw, if_neg (by decide), if_pos (show nI 2 = 2 from rfl), d]
        · rw [ec] at d
          rw [hlw, if_neg (by decide), if_pos (show nI 2 = 2 from rfl)]
          rcases car01 (nI o) (nI a) (nI b) with h | h
          · exact absurd h d
          · exact h.symm
      · refine ⟨v8, fun q => absurd q (by decide), fun _ => ⟨v8, fun _ => ?_, fun q => absurd q (by decide)⟩⟩
        unfold wp_X2_holds_86
        rw [hkc, p7]
        refine ⟨v8, fun _ => f110 (fun q => absurd rfl q), fun q => absurd q (by decide)⟩
    · unfold lwF
      rw [e]
      by_cases h1 : nI n < nI f
      · rw [if_pos h1]
      · rw [if_neg h1, if_neg]
        intro q
        rcases hin with h | h
        · exact h1 h
        · rw [fa_lt] at h
          rw [fa_le] at q
          omega
