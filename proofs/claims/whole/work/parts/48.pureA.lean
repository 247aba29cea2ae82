/-! the review: what is shared out -/
def rvP (f : Nat → Nat) (all n k x : Nat) : Bool := decide (n * f k % all < n * f x % all) || (decide (n * f x % all = n * f k % all) && decide (x < k))
def rvD (f : Nat → Nat) (all n x : Nat) : Nat := n * f x / all
theorem rv_eq (f : Nat → Nat) (all n k : Nat) : rvN f all n k = n * f k / all + (if 0 < n * f k % all ∧ fb_ct (rvP f all n k) 8 + fb_sm (rvD f all n) 8 < n then 1 else 0) := rfl
theorem sm_mul (n : Nat) (f : Nat → Nat) : ∀ m, fb_sm (fun x => n * f x) m = n * fb_sm f m
  | 0 => rfl
  | m + 1 => by rw [fb_sm_succ, fb_sm_succ, sm_mul n f m, Nat.mul_add]
theorem rv_up (f : Nat → Nat) {all : Nat} (n : Nat) (h : 0 < all) : ∀ m, fb_sm (fun x => n * f x) m ≤ all * (fb_sm (rvD f all n) m + fb_ct (fun x => decide (0 < n * f x % all)) m)
  | 0 => Nat.zero_le _
  | m + 1 => by
    have ih := rv_up f n h m
    have hd := Nat.div_add_mod (n * f m) all
    have hl := Nat.mod_lt (n * f m) h
    rw [fb_sm_succ, fb_sm_succ, fb_ct_succ]
    have e1 : rvD f all n m = n * f m / all := rfl
    rw [e1]
    by_cases hp : 0 < n * f m % all
    · rw [if_pos (decide_eq_true hp)]
      have e : all * (fb_sm (rvD f all n) m + n * f m / all + (fb_ct (fun x => decide (0 < n * f x % all)) m + 1)) = all * (fb_sm (rvD f all n) m + fb_ct (fun x => decide (0 < n * f x % all)) m) + all * (n * f m / all) + all := by
        simp only [Nat.mul_add, Nat.mul_one]
        omega
      omega
    · rw [if_neg (fun q => hp (of_decide_eq_true q))]
      have e : all * (fb_sm (rvD f all n) m + n * f m / all + (fb_ct (fun x => decide (0 < n * f x % all)) m + 0)) = all * (fb_sm (rvD f all n) m + fb_ct (fun x => decide (0 < n * f x % all)) m) + all * (n * f m / all) := by
        simp only [Nat.mul_add, Nat.mul_zero]
        omega
      omega
theorem rv_dn (f : Nat → Nat) (all n : Nat) : ∀ m, all * fb_sm (rvD f all n) m ≤ fb_sm (fun x => n * f x) m
  | 0 => Nat.le_refl _
  | m + 1 => by
    have ih := rv_dn f all n m
    have hd : all * rvD f all n m ≤ n * f m := Nat.mul_div_le _ _
    rw [fb_sm_succ, fb_sm_succ, Nat.mul_add]
    omega
theorem rv_le {f : Nat → Nat} {all : Nat} (n : Nat) (h : 0 < all) (ha : all = fb_sm f 8) {j : Nat} (hj : j ≤ 8) : fb_sm (rvD f all n) j ≤ n := by
  have h1 := rv_dn f all n j
  rw [sm_mul] at h1
  have h2 := fb_sm_mono f j (8 - j)
  rw [show j + (8 - j) = 8 by omega, ← ha] at h2
  have h3 := Nat.mul_le_mul_left n h2
  rw [Nat.mul_comm n all] at h3
  exact Nat.le_of_mul_le_mul_left (Nat.le_trans h1 h3) h
/-- a kind without a rest gets none of what is over -/
theorem rv_0 {f : Nat → Nat} {all : Nat} (n k : Nat) (h : 0 < all) (ha : all = fb_sm f 8) (h0 : n * f k % all = 0) : n ≤ fb_ct (rvP f all n k) 8 + fb_sm (rvD f all n) 8 := by
  have h1 := rv_up f n h 8
  rw [sm_mul, ← ha, Nat.mul_comm n all] at h1
  have h2 := Nat.le_of_mul_le_mul_left h1 h
  have h3 : fb_ct (fun x => decide (0 < n * f x % all)) 8 ≤ fb_ct (rvP f all n k) 8 := fb_ct_sub (fun x _ hx => by
    unfold rvP
    rw [h0, of_decide_eq_true hx |> decide_eq_true, Bool.true_or])
  omega
theorem rv_val {f : Nat → Nat} {all : Nat} (n k : Nat) (h : 0 < all) (ha : all = fb_sm f 8) : rvN f all n k = if fb_ct (rvP f all n k) 8 < n - fb_sm (rvD f all n) 8 then n * f k / all + 1 else n * f k / all := by
  rw [rv_eq]
  by_cases hc : fb_ct (rvP f all n k) 8 < n - fb_sm (rvD f all n) 8
  · have h1 : 0 < n * f k % all := by
      apply Nat.pos_of_ne_zero
      intro h0
      have := rv_0 n k h ha h0
      omega
    rw [if_pos hc, if_pos ⟨h1, by omega⟩]
  · rw [if_neg hc, if_neg (fun q => by omega), Nat.add_zero]
theorem rvP_t {f : Nat → Nat} {all n k x : Nat} (h : n * f k % all < n * f x % all ∨ (n * f x % all = n * f k % all ∧ x < k)) : fb_ct (rvP f all n k) (x + 1) = fb_ct (rvP f all n k) x + 1 := by
  have : rvP f all n k x = true := by
    unfold rvP
    rcases h with h | ⟨h1, h2⟩
    · rw [decide_eq_true h, Bool.true_or]
    · rw [decide_eq_true h1, decide_eq_true h2, Bool.true_and, Bool.or_true]
  rw [fb_ct_succ, this, if_pos rfl]
theorem rvP_f {f : Nat → Nat} {all n k x : Nat} (h : ¬ (n * f k % all < n * f x % all ∨ (n * f x % all = n * f k % all ∧ x < k))) : fb_ct (rvP f all n k) (x + 1) = fb_ct (rvP f all n k) x := by
  have : ¬ rvP f all n k x = true := by
    unfold rvP
    intro q
    rcases Bool.or_eq_true _ _ ▸ q with q | q
    · exact h (Or.inl (of_decide_eq_true q))
    · rw [Bool.and_eq_true] at q
      exact h (Or.inr ⟨of_decide_eq_true q.1, of_decide_eq_true q.2⟩)
  rw [fb_ct_succ, if_neg this, Nat.add_zero]
theorem mi_le {C : CS} (hC : COk C) (hw : c_wr C ≤ 512) {s : Nat} (hs : s + 8 ≤ 512) : miA C s ≤ 512 ∧ ∀ x, x < 8 → c_mi C (s + x) ≤ miA C s := by
  have h := hC.2.2.2.2.2.2.2.2.2.2.2.2.1
  have h1 := fb_sm_split (c_mi C) s 8
  have h2 := fb_sm_mono (c_mi C) (s + 8) (512 - (s + 8))
  rw [show s + 8 + (512 - (s + 8)) = 512 by omega] at h2
  unfold miA
  refine ⟨by omega, fun x hx => ?_⟩
  have h3 := fb_sm_part (fun k => c_mi C (s + k)) hx
  omega
theorem pu_X1_reviewPlaces (g : CS) (σ : XS) (x1 : Int32) (x2 : Int32) (x3 : Int32) (hp : pr_X1_reviewPlaces g σ x1 x2 x3) : wp_X1_reviewPlaces g (fun r u => r = fn_X1_reviewPlaces g σ x1 x2 x3 ∧ u = σ) σ x1 x2 x3 := by
  obtain ⟨hR, hw, hs, hk, hn⟩ := hp
  obtain ⟨n, rfl, hn1, hn2, hnc⟩ := rng (lo := 1) (hi := 60) (by decide) (by decide) (fun q => hn (Or.inl q)) (fun q => hn (Or.inr q))
  obtain ⟨k, rfl, hk1, hkc, -⟩ := out_ex hk
  have h8 := hR.1.1
  obtain ⟨hm, hm8⟩ := mfrom hR.1 (σ := σ) hs
  have hfn : fn_X1_reviewPlaces g σ x1 (nI n) (nI k) = if miA g (sti x1) = 0 then -3 else nI (rvN (fun x => c_mi g (sti x1 + x)) (miA g (sti x1)) n k) := by
    unfold fn_X1_reviewPlaces
    rw [hnc, hkc]
  have hmi0 : ∀ x, x < 8 → xs_mi σ (sti x1 + x) = nI (c_mi g (sti x1 + x)) := fun x hx => hR.2.2.2.2.2.2.2.2.2.2.1 _ (by omega)
  obtain ⟨hal, hfl⟩ := mi_le hR.1 hw hm8
  rw [hfn]
  unfold wp_X1_reviewPlaces
  rintro x4 rfl
  rw [hm]
  refine ⟨⟨hR, hs⟩, ?_⟩
  rintro x5 rfl
  have hfa : fn_X1_missesAt g σ x1 = nI (miA g (sti x1)) := rfl
  rw [hfa]
  have ha : miA g (sti x1) = fb_sm (fun x => c_mi g (sti x1 + x)) 8 := rfl
  generalize hs' : sti x1 = s at *
  generalize miA g s = all at *
  generalize hf' : (fun x => c_mi g (s + x)) = f at *
  have hmi : ∀ x, x < 8 → xs_mi σ (s + x) = nI (f x) := fun x hx => by rw [← hf']; exact hmi0 x hx
  have hfl2 : ∀ x, x < 8 → f x ≤ all := fun x hx => by rw [← hf']; exact hfl x hx
  have hnf : ∀ x, x < 8 → n * f x ≤ 60 * 512 := fun x hx => Nat.mul_le_mul hn2 (Nat.le_trans (hfl2 x hx) hal)
  have hix : ∀ x, x < 8 → vp_in (nI s + nI x) 512 ∧ nI n * xs_mi σ (nI s + nI x).toNatClampNeg = nI (n * f x) := fun x hx => by
    rw [nI_add, nI_cl (by omega), hmi x hx, pk_mul]
    exact ⟨vp_in_nI (by omega) (by decide), rfl⟩
  refine ⟨fun h0 => ?_, fun h0 => ?_⟩
  · have hpos : 0 < all := by
      apply Nat.pos_of_ne_zero
      rintro rfl
      exact h0 rfl
    rw [if_neg (by omega)]
    refine ⟨(hix k (by omega)).1, h0, ?_⟩
    rw [(hix k (by omega)).2, pk_rem (by have := hnf k (by omega); omega) hpos (by omega)]
    rintro x6 rfl
    refine lp_rule (fun t => t.1 = σ ∧ t.2.1 = nI n ∧ t.2.2.1 = nI k ∧ t.2.2.2.1 = nI s ∧ t.2.2.2.2.1 = nI all ∧ t.2.2.2.2.2.1 = nI (n * f k % all) ∧ ∃ j : Nat, t.2.2.2.2.2.2.2.2 = nI j ∧ j ≤ 8 ∧ t.2.2.2.2.2.2.1 = nI (n - fb_sm (rvD f all n) j) ∧ t.2.2.2.2.2.2.2.1 = nI (fb_ct (rvP f all n k) j)) (fun t => 100 - t.2.2.2.2.2.2.2.2.toNatClampNeg) ?_ ⟨rfl, rfl, rfl, rfl, rfl, rfl, 0, rfl, by decide, rfl, rfl⟩
    rintro K ⟨u, y2, y3, y4, y5, y6, y7, y8, y9⟩ ⟨e0, e2, e3, e4, e5, e6, j, e9, hj, e7, e8⟩ ih
    dsimp only at e0 e2 e3 e4 e5 e6 e7 e8 e9 ih ⊢
    subst e0 e2 e3 e4 e5 e6 e7 e8 e9
    unfold wp_X1_reviewPlaces_47
    have h8j : (8 : Int32) ≤ nI j ↔ 8 ≤ j := nI_leI (a := 8) (by decide) (by omega)
    have hct := fb_ct_le (rvP f all n k) j
    rw [h8j]
    refine ⟨fun c => ?_, fun c => ?_⟩
    · have hj8 : j = 8 := by omega
      subst hj8
      refine ⟨(hix k (by omega)).1, h0, ?_⟩
      rw [(hix k (by omega)).2, pk_div (by have := hnf k (by omega); omega) hpos (by omega)]
      rintro y rfl
      rw [nI_leI (by omega) (by omega), rv_val n k hpos ha]
      refine ⟨fun d => ⟨?_, rfl⟩, fun d => ⟨?_, rfl⟩⟩
      · rw [if_neg (by omega)]
      · rw [if_pos (by omega), nI_1]
    · refine ⟨(hix j (by omega)).1, ?_⟩
      rw [(hix j (by omega)).2]
      rintro y rfl
      rw [pk_rem (a := n * f j) (by have := hnf j (by omega); omega) hpos (by omega), pk_div (a := n * f j) (by have := hnf j (by omega); omega) hpos (by omega)]
      refine ⟨h0, ?_⟩
      have hle := rv_le n hpos ha (show j + 1 ≤ 8 by omega)
      rw [fb_sm_succ] at hle
      have hov : nI (n - fb_sm (rvD f all n) j) - nI (n * f j / all) = nI (n - fb_sm (rvD f all n) (j + 1)) := by
        have e1 : rvD f all n j = n * f j / all := rfl
        rw [pk_sub (by omega), fb_sm_succ, e1]
        congr 1
        omega
      rw [hov]
      rintro z rfl
      have hr1 := Nat.mod_lt (n * f k) hpos
      have hr2 := Nat.mod_lt (n * f j) hpos
      have mu : 100 - (nI j + 1).toNatClampNeg < 100 - (nI j).toNatClampNeg := by
        rw [nI_1, nI_cl (by omega), nI_cl (by omega)]
        omega
      rw [nI_ltI (by omega) (by omega), nI_eq (by omega) (by omega), nI_leI (by omega) (by omega)]
      refine ⟨h0, fun d => ?_, fun d => ⟨h0, fun d2 => ?_, fun d2 => ⟨fun d3 => ?_, fun d3 => ?_⟩⟩⟩
      · rintro a rfl b rfl
        exact ih _ ⟨rfl, rfl, rfl, rfl, rfl, rfl, j + 1, nI_1 j, by omega, rfl, by dsimp only; rw [rvP_t (Or.inl d), nI_1]⟩ mu
      · rintro b rfl
        exact ih _ ⟨rfl, rfl, rfl, rfl, rfl, rfl, j + 1, nI_1 j, by omega, rfl, by dsimp only; rw [rvP_f (fun q => q.elim d (fun q => d2 q.1))]⟩ mu
      · rintro b rfl
        exact ih _ ⟨rfl, rfl, rfl, rfl, rfl, rfl, j + 1, nI_1 j, by omega, rfl, by dsimp only; rw [rvP_f (fun q => q.elim d (fun q => by omega))]⟩ mu
      · rintro a rfl b rfl
        exact ih _ ⟨rfl, rfl, rfl, rfl, rfl, rfl, j + 1, nI_1 j, by omega, rfl, by dsimp only; rw [rvP_t (Or.inr ⟨d2, by omega⟩), nI_1]⟩ mu
  · have hz : all = 0 := by
      have := (nI_eq (a := all) (b := 0) (by omega) (by decide)).mp h0
      exact this
    rw [if_pos hz]
    exact ⟨rfl, rfl⟩
theorem pu_X1_review (g : CS) (σ : XS) (x1 : Int32) (x2 : Int32) (x3 : Int32) (hp : pr_X1_review g σ x1 x2 x3) : wp_X1_review g (fun r u => r = fn_X1_review g σ x1 x2 x3 ∧ u = σ) σ x1 x2 x3 := by
  obtain ⟨hR, hw⟩ := hp
  unfold wp_X1_review fn_X1_review sp_review
  rw [isse hR, isk hR]
  refine ⟨fun c => ⟨by rw [if_pos (Or.inl c)], rfl⟩, fun c => ⟨fun d => ⟨fun e => ⟨by rw [if_neg (fun q => q.elim c d), if_pos (Or.inl e)], rfl⟩, fun e => ⟨fun e2 => ?_, fun e2 => ⟨by rw [if_neg (fun q => q.elim c d), if_pos (Or.inr (fa_of_nle e2))], rfl⟩⟩⟩, fun d => ⟨by rw [if_pos (Or.inr d)], rfl⟩⟩⟩
  have hn : ¬ (x2 < 1 ∨ 60 < x2) := by
    rintro (q | q)
    · exact e q
    · rw [fa_lt] at q
      rw [fa_le] at e2
      omega
  refine ⟨⟨hR, hw, c, d, hn⟩, ?_, rfl⟩
  rw [if_neg (fun q => q.elim c d), if_neg hn]
  rfl
theorem sm_flat {f : Nat → Nat} {m n : Nat} (h : m ≤ n) (hf : ∀ k, m ≤ k → k < n → f k = 0) : fb_sm f n = fb_sm f m := by
  obtain ⟨d, rfl⟩ : ∃ d, n = m + d := ⟨n - m, by omega⟩
  rw [fb_sm_split]
  have : fb_sm (fun k => f (m + k)) d = fb_sm (fun _ => 0) d := fb_sm_cong (fun k hk => hf _ (by omega) (by omega))
  rw [this, sm_zero, Nat.add_zero]
theorem pu_X2_review (g : CS) (σ : MS) (x1 : Int32) (x2 : Int32) (x3 : Int32) (hp : pr_X2_review g σ x1 x2 x3) : wp_X2_review g (po_X2_review g σ x1 x2 x3) σ x1 x2 x3 := by
  obtain ⟨hR0, hw⟩ := hp
  have hR : RM g (ms_s_th σ 0) := hR0
  have hpo : po_X2_review g σ x1 x2 x3 = fun r u => r = sp_review g x1 x2 x3 ∧ RM g u := rfl
  rw [hpo]
  unfold wp_X2_review
  generalize ms_s_th σ 0 = T at hR ⊢
  rw [mos hR, mok hR, in0 (v := x2) (lo' := 1) (hi' := 60) (by decide) (by decide)]
  have s1 : (noSd g x1 ∨ outN x3 (c_nk g)) → sp_review g x1 x2 x3 = -1 := fun h => by unfold sp_review; rw [if_pos h]
  refine ⟨fun c => ⟨(s1 (Or.inl (Classical.not_not.mp c))).symm, hR⟩, fun c => ⟨fun d => ⟨fun e => ?_, fun e => ⟨?_, hR⟩⟩, fun d => ⟨(s1 (Or.inr (Classical.not_not.mp d))).symm, hR⟩⟩⟩
  · have hcd : ¬ (noSd g x1 ∨ outN x3 (c_nk g)) := fun q => q.elim c d
    obtain ⟨n, rfl, hn1, hn2, hnc⟩ := rng (lo := 1) (hi := 60) (by decide) (by decide) (fun q => e (Or.inl q)) (fun q => e (Or.inr q))
    obtain ⟨k, rfl, hk1, hkc, -⟩ := out_ex d
    have h8 := hR.1.1
    obtain ⟨i1, i2, i3, -, -, -, -⟩ := m_ix hR.1 c
    obtain ⟨hal, hfl⟩ := mi_le hR.1 hw i3
    have hsp : sp_review g x1 (nI n) (nI k) = if miA g (sti x1) = 0 then -3 else nI (rvN (fun x => c_mi g (sti x1 + x)) (miA g (sti x1)) n k) := by
      unfold sp_review
      rw [if_neg hcd, if_neg e, hnc, hkc]
    have hzero : ∀ x, c_nk g ≤ x → x < 8 → c_mi g (sti x1 + x) = 0 := fun x h1 h2 => hR.1.2.2.2.2.2.2.2.2.2.2.2.2.2 _ (by have : sti x1 % 8 = 0 := by unfold sti; omega
                                                                                                                          rw [show (sti x1 + x) % 8 = x by omega]; exact h1)
    have hf9 : fn_X2_missedOf g T x1 (-9) = nI (miA g (sti x1)) := by unfold fn_X2_missedOf; rw [if_pos rfl]
    have hfx : ∀ x, x < 8 → fn_X2_missedOf g T x1 (nI x) = nI (c_mi g (sti x1 + x)) := fun x hx => by
      unfold fn_X2_missedOf
      rw [if_neg (fun q => m9_ne (n := x) (by omega) q.symm), nI_cl (by omega)]
    have hpx : ∀ x, x < 8 → pr_X2_missedOf g T x1 (nI x) := fun x hx => ⟨hR, c, Or.inr ⟨x, rfl, hx⟩⟩
    rw [hsp]
    refine ⟨⟨hR, c, Or.inl rfl⟩, ?_⟩
    rw [hf9]
    rintro x4 rfl
    have ha : miA g (sti x1) = fb_sm (fun x => c_mi g (sti x1 + x)) 8 := rfl
    generalize miA g (sti x1) = all at *
    generalize hf' : (fun x => c_mi g (sti x1 + x)) = f at *
    have hzf : ∀ x, c_nk g ≤ x → x < 8 → f x = 0 := fun x h1 h2 => by rw [← hf']; exact hzero x h1 h2
    have hfl2 : ∀ x, x < 8 → f x ≤ all := fun x hx => by rw [← hf']; exact hfl x hx
    have hnf : ∀ x, x < 8 → n * f x ≤ 60 * 512 := fun x hx => Nat.mul_le_mul hn2 (Nat.le_trans (hfl2 x hx) hal)
    have hix : ∀ x, x < 8 → nI n * fn_X2_missedOf g T x1 (nI x) = nI (n * f x) := fun x hx => by
      rw [hfx x hx, ← hf', pk_mul]
    refine ⟨fun h0 => ?_, fun h0 => ?_⟩
    · have hpos : 0 < all := by
        apply Nat.pos_of_ne_zero
        rintro rfl
        exact h0 rfl
      rw [if_neg (by omega)]
      refine ⟨hpx k (by omega), h0, ?_⟩
      rw [hix k (by omega), pk_rem (by have := hnf k (by omega); omega) hpos (by omega)]
      rintro x7 rfl
      refine lp_rule (fun t => t.1 = T ∧ t.2.1 = x1 ∧ t.2.2.1 = nI n ∧ t.2.2.2.1 = nI k ∧ t.2.2.2.2.1 = nI all ∧ t.2.2.2.2.2.2.2.1 = nI (n * f k % all) ∧ ∃ j : Nat, t.2.2.2.2.2.2.2.2 = nI j ∧ j ≤ c_nk g ∧ t.2.2.2.2.2.1 = nI (n - fb_sm (rvD f all n) j) ∧ t.2.2.2.2.2.2.1 = nI (fb_ct (rvP f all n k) j)) (fun t => 100 - t.2.2.2.2.2.2.2.2.toNatClampNeg) ?_ ⟨rfl, rfl, rfl, rfl, rfl, rfl, 0, rfl, Nat.zero_le _, rfl, rfl⟩
      rintro K ⟨u, y1, y2, y3, y4, y5, y6, y7, y8⟩ ⟨e0, e1, e2, e3, e4, e7, j, e8, hj, e5, e6⟩ ih
      dsimp only at e0 e1 e2 e3 e4 e5 e6 e7 e8 ih ⊢
      subst e0 e1 e2 e3 e4 e5 e6 e7 e8
      unfold wp_X2_review_77
      have hct := fb_ct_le (rvP f all n k) j
      have hr1 := Nat.mod_lt (n * f k) hpos
      rw [hR.2.1, nI_leI (by omega) (by omega)]
      refine ⟨fun c2 => ?_, fun c2 => ?_⟩
      · have hjn : j = c_nk g := by omega
        subst hjn
        have hS : fb_sm (rvD f all n) 8 = fb_sm (rvD f all n) (c_nk g) := sm_flat h8 (fun x h1 h2 => by unfold rvD; rw [hzf x h1 h2, Nat.mul_zero, Nat.zero_div])
        have hA : fb_ct (rvP f all n k) 8 = fb_ct (rvP f all n k) (c_nk g) := ct_flat h8 (fun x h1 h2 => by
          unfold rvP
          rw [hzf x h1 h2, Nat.mul_zero, Nat.zero_mod, decide_eq_false (Nat.not_lt_zero _), decide_eq_false (show ¬ x < k by omega), Bool.and_false, Bool.or_false])
        refine ⟨hpx k (by omega), h0, ?_⟩
        rw [hix k (by omega), pk_div (by have := hnf k (by omega); omega) hpos (by omega)]
        have hz : nI (n * f k % all) ≤ 0 ↔ n * f k % all ≤ 0 := nI_leI (b := 0) (by omega) (by decide)
        rw [hz, nI_leI (by omega) (by omega), rv_eq, hS, hA, Int32.add_zero]
        refine ⟨fun d2 => ⟨?_, hR⟩, fun d2 => ⟨fun d3 => ⟨?_, hR⟩, fun d3 => ⟨?_, hR⟩⟩⟩
        · rw [if_neg (fun q => by omega), Nat.add_zero]
        · rw [if_neg (fun q => by omega), Nat.add_zero]
        · rw [if_pos ⟨by omega, by omega⟩, nI_1]
      · refine ⟨hpx j (by omega), h0, ?_⟩
        rw [hix j (by omega), pk_rem (a := n * f j) (by have := hnf j (by omega); omega) hpos (by omega), pk_div (a := n * f j) (by have := hnf j (by omega); omega) hpos (by omega)]
        rintro y rfl
        refine ⟨hpx j (by omega), h0, ?_⟩
        have hle := rv_le n hpos ha (show j + 1 ≤ 8 by omega)
        rw [fb_sm_succ] at hle
        have hov : nI (n - fb_sm (rvD f all n) j) - nI (n * f j / all) = nI (n - fb_sm (rvD f all n) (j + 1)) := by
          have e1 : rvD f all n j = n * f j / all := rfl
          rw [pk_sub (by omega), fb_sm_succ, e1]
          congr 1
          omega
        rw [hov]
        rintro z rfl
        have hr2 := Nat.mod_lt (n * f j) hpos
        have mu : 100 - (nI j + 1).toNatClampNeg < 100 - (nI j).toNatClampNeg := by
          rw [nI_1, nI_cl (by omega), nI_cl (by omega)]
          omega
        rw [nI_ltI (by omega) (by omega), nI_eq (by omega) (by omega), nI_leI (by omega) (by omega), Int32.add_zero]
        refine ⟨fun d => ?_, fun d => ⟨fun d2 => ?_, fun d2 => ⟨fun d3 => ?_, fun d3 => ?_⟩⟩⟩
        · rintro a rfl b rfl
          exact ih _ ⟨rfl, rfl, rfl, rfl, rfl, rfl, j + 1, nI_1 j, by omega, rfl, by dsimp only; rw [rvP_t (Or.inl d), nI_1]⟩ mu
        · rintro a rfl b rfl
          exact ih _ ⟨rfl, rfl, rfl, rfl, rfl, rfl, j + 1, nI_1 j, by omega, rfl, by dsimp only; rw [rvP_f (fun q => q.elim d (fun q => d2 q.1))]⟩ mu
        · rintro a rfl b rfl
          exact ih _ ⟨rfl, rfl, rfl, rfl, rfl, rfl, j + 1, nI_1 j, by omega, rfl, by dsimp only; rw [rvP_f (fun q => q.elim d (fun q => by omega))]⟩ mu
        · rintro a rfl b rfl
          exact ih _ ⟨rfl, rfl, rfl, rfl, rfl, rfl, j + 1, nI_1 j, by omega, rfl, by dsimp only; rw [rvP_t (Or.inr ⟨d2, by omega⟩), nI_1]⟩ mu
    · have hz : all = 0 := (nI_eq (a := all) (b := 0) (by omega) (by decide)).mp h0
      rw [if_pos hz]
      exact ⟨rfl, hR⟩
  · unfold sp_review
    rw [if_neg (fun q => q.elim c d), if_pos e]
