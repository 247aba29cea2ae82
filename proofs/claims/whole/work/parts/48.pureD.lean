/-! what two sheets share -/
theorem xor_pos {a d : Nat} (ha : a < 2 ^ 30) (hd : d < 2 ^ 30) : 0 ≤ nI a ^^^ nI d := by
  rw [fb_xorI]
  have := Nat.xor_lt_two_pow ha hd
  exact nI_pos' (by omega)
theorem xor_neg {a d : Nat} (h0 : 0 < a) (ha : a < 2 ^ 30) (hd : d < 2 ^ 30) : ¬ 0 ≤ (0 - nI a) ^^^ nI d := by
  have e1 : (0 - nI a).toInt = -(a : Int) := by
    have := pk_sub_toInt (a := 0) (b := a) (by decide) ha
    rw [show (nI 0 : Int32) = 0 from rfl] at this
    omega
  have e2 : (nI d).toInt = (d : Int) := nI_toInt (by omega)
  have m1 : (0 - nI a).toBitVec.msb = true := by
    rw [BitVec.msb_eq_toInt]
    exact decide_eq_true (show (0 - nI a).toInt < 0 by omega)
  have m2 : (nI d).toBitVec.msb = false := by
    rw [BitVec.msb_eq_toInt]
    exact decide_eq_false (show ¬ (nI d).toInt < 0 by omega)
  have m3 : ((0 - nI a) ^^^ nI d).toBitVec.msb = true := by
    rw [Int32.toBitVec_xor, BitVec.msb_xor, m1, m2]
    rfl
  rw [BitVec.msb_eq_toInt] at m3
  have m4 : ((0 - nI a) ^^^ nI d).toInt < 0 := of_decide_eq_true m3
  rw [fa_le]
  have : (0 : Int32).toInt = 0 := rfl
  omega
theorem irm_neg {a d : Nat} (ha : a < 2 ^ 30) (h0 : 0 < d) (hd : d < 2 ^ 30) : irm (0 - nI a) (nI d) = 0 - nI (a % d) := by
  have hm := Nat.mod_lt a h0
  have hdm := Nat.div_add_mod a d
  have e1 : (0 - nI a).toInt = -(a : Int) := by
    have := pk_sub_toInt (a := 0) (b := a) (by decide) ha
    rw [show (nI 0 : Int32) = 0 from rfl] at this
    omega
  have e2 : (nI d).toInt = (d : Int) := nI_toInt (by omega)
  have hq : a / d ≤ a := Nat.div_le_self a d
  have hqd : d * (a / d) ≤ a := Nat.mul_div_le a d
  have e3 : ((0 - nI a) / nI d).toInt = -((a / d : Nat) : Int) := by
    rw [Int32.toInt_div, e1, e2, Int.neg_tdiv, ← Int.ofNat_tdiv]
    clear hqd hdm hm
    generalize a / d = q at hq ⊢
    exact fb_bmod (by omega) (by omega)
  have hcm : ((a / d : Nat) : Int) * (d : Int) = ((d * (a / d) : Nat) : Int) := by rw [Int.natCast_mul, Int.mul_comm]
  have e4 : ((0 - nI a) / nI d * nI d).toInt = -((d * (a / d) : Nat) : Int) := by
    rw [fb_mulI, e3, e2, Int.neg_mul, hcm]
    · rw [e3, e2, Int.neg_mul, hcm]; omega
    · rw [e3, e2, Int.neg_mul, hcm]; omega
  have e5 : (0 - nI (a % d)).toInt = -((a % d : Nat) : Int) := by
    have := pk_sub_toInt (a := 0) (b := a % d) (by decide) (by omega)
    rw [show (nI 0 : Int32) = 0 from rfl] at this
    omega
  rw [fa_eq, e5]
  show ((0 - nI a) - (0 - nI a) / nI d * nI d).toInt = _
  rw [fb_subI, e1, e4]
  · omega
  · rw [e1, e4]; omega
  · rw [e1, e4]; omega
/-- the place in the ring, of what stands a ahead or behind -/
theorem fm_val {x : Int32} {δ : Int} {N : Nat} (h0 : 0 < N) (hN : N < 2 ^ 30) (a : Nat) (ha : a < 2 ^ 30) (hx : (x = nI a ∧ δ = a) ∨ (x = 0 - nI a ∧ δ = -(a : Int))) : ∃ e : Nat, e < N ∧ δ % (N : Int) = (e : Int) ∧ fn_J9_floorMod_7cf53 x (nI N) = nI e := by
  have hm := Nat.mod_lt a h0
  rcases hx with ⟨rfl, rfl⟩ | ⟨rfl, rfl⟩
  · refine ⟨a % N, hm, (Int.natCast_emod a N).symm, ?_⟩
    unfold fn_J9_floorMod_7cf53
    rw [if_pos (xor_pos ha hN)]
    exact pk_rem (by omega) h0 (by omega)
  · by_cases ha0 : a = 0
    · subst ha0
      refine ⟨0, h0, ?_, ?_⟩
      · rw [show (-((0 : Nat) : Int)) = 0 from rfl, Int.zero_emod]; rfl
      · rw [show (0 : Int32) - nI 0 = nI 0 from rfl]
        unfold fn_J9_floorMod_7cf53
        rw [if_pos (xor_pos (by decide) hN)]
        have := pk_rem (a := 0) (d := N) (by decide) h0 (by omega)
        rw [Nat.zero_mod] at this
        exact this
    · have hdm := Nat.div_add_mod a N
      have hv : fn_J9_floorMod_7cf53 (0 - nI a) (nI N) = if (0 - nI (a % N) : Int32) = 0 then 0 - nI (a % N) else 0 - nI (a % N) + nI N := by
        unfold fn_J9_floorMod_7cf53
        rw [if_neg (xor_neg (by omega) ha hN), irm_neg ha h0 hN]
      have hcast : ((N : Int)) * ((a / N : Nat) : Int) + ((a % N : Nat) : Int) = (a : Int) := by
        rw [← Int.natCast_mul, ← Int.natCast_add, hdm]
      by_cases hz : a % N = 0
      · refine ⟨0, h0, ?_, ?_⟩
        · rw [hz] at hcast
          have : (-(a : Int)) = (N : Int) * (-((a / N : Nat) : Int)) := by
            rw [Int.mul_neg]
            have : ((0 : Nat) : Int) = 0 := rfl
            omega
          rw [this, Int.mul_emod_right]
          rfl
        · rw [hv, hz]
          rfl
      · refine ⟨N - a % N, by omega, ?_, ?_⟩
        · have : (-(a : Int)) = ((N - a % N : Nat) : Int) + (N : Int) * (-((a / N : Nat) : Int) - 1) := by
            rw [Int.mul_sub, Int.mul_neg, Int.mul_one, Int.natCast_sub (by omega)]
            omega
          rw [this, Int.add_mul_emod_self_left]
          exact Int.emod_eq_of_lt (by omega) (by omega)
        · rw [hv, if_neg]
          · rw [← pk_sub (by omega)]
            rw [Int32.sub_eq_add_neg, Int32.zero_add, Int32.add_comm, ← Int32.sub_eq_add_neg]
          · rw [fa_eq]
            have := pk_sub_toInt (a := 0) (b := a % N) (by decide) (by omega)
            rw [show (nI 0 : Int32) = 0 from rfl] at this
            rw [this]
            have : (0 : Int32).toInt = 0 := rfl
            omega
theorem com_t {N m : Nat} {d : Int} {e : Nat} (he : (d * m) % (N : Int) = (e : Int)) (t : Nat) : (((d * m) % (N : Int) + (t : Int)) % (N : Int) < (m : Int)) ↔ (e + t) % N < m := by
  rw [he, ← Int.natCast_add, ← Int.natCast_emod]
  exact Int.ofNat_lt
theorem com_eq {N m : Nat} {d : Int} {e : Nat} (he : (d * m) % (N : Int) = (e : Int)) : comN N m d = fb_ct (fun t => decide ((e + t) % N < m)) m := by
  unfold comN
  exact fb_ct_cong (fun t _ => decide_eq_decide.mpr (com_t he t))
theorem dif_x {z y : Nat} (m : Nat) (hz : z ≤ 9999) (hy : y ≤ 9999) (hm : m ≤ 40) : ∃ a : Nat, a < 2 ^ 30 ∧ (((nI z - nI y) * nI m = nI a ∧ ((z : Int) - (y : Int)) * m = a) ∨ ((nI z - nI y) * nI m = 0 - nI a ∧ ((z : Int) - (y : Int)) * m = -(a : Int))) := by
  by_cases h : y ≤ z
  · have hb : (z - y) * m ≤ 9999 * 40 := Nat.mul_le_mul (by omega) hm
    refine ⟨(z - y) * m, by omega, Or.inl ⟨by rw [pk_sub h, pk_mul], ?_⟩⟩
    rw [Int.natCast_mul, Int.natCast_sub h]
  · have hb : (y - z) * m ≤ 9999 * 40 := Nat.mul_le_mul (by omega) hm
    refine ⟨(y - z) * m, by omega, Or.inr ⟨?_, ?_⟩⟩
    · have e : nI z - nI y = 0 - nI (y - z) := by
        rw [fa_eq, pk_sub_toInt (by omega) (by omega)]
        have := pk_sub_toInt (a := 0) (b := y - z) (by decide) (by omega)
        rw [show (nI 0 : Int32) = 0 from rfl] at this
        rw [this]
        omega
      rw [e, ← pk_mul, Int32.zero_sub, Int32.zero_sub, Int32.neg_mul]
    · rw [Int.natCast_mul, Int.natCast_sub (by omega), ← Int.neg_mul, Int.neg_sub]
theorem pu_X0_placesInCommon (g : (Nat → Nat)) (σ : KS) (x1 : Int32) (x2 : Int32) (hp : pr_X0_placesInCommon g σ x1 x2) : wp_X0_placesInCommon g (fun r u => r = fn_X0_placesInCommon g σ x1 x2 ∧ u = σ) σ x1 x2 := by
  obtain ⟨⟨hK0, hQ, hKc⟩, z, y, rfl, rfl, hz, hy⟩ := hp
  have hco : ks_co σ = nI (NV g) := hKc.1
  have hpl : ks_pl σ = nI (g 10) := hK0.2.2.2.2.2.2.2.2.2.2
  have hm : g 10 ≤ 40 := hQ.2.2.2.2.2.2.2.2.2.2.2
  have hN := nv_le g
  have hfn : fn_X0_placesInCommon g σ (nI z) (nI y) = if NV g = 0 then 0 else nI (comN (NV g) (g 10) ((z : Int) - (y : Int))) := by
    unfold fn_X0_placesInCommon
    rw [nI_cl (by omega), nI_cl (by omega)]
  rw [hfn]
  unfold wp_X0_placesInCommon
  have h1 : (1 : Int32) ≤ nI (NV g) ↔ 1 ≤ NV g := nI_leI (a := 1) (by decide) (by omega)
  rw [hco, hpl, h1]
  refine ⟨fun c => ?_, fun c => ⟨by rw [if_pos (by omega)], rfl⟩⟩
  rw [if_neg (by omega)]
  obtain ⟨a, ha, hx⟩ := dif_x (z := z) (y := y) (g 10) hz hy hm
  obtain ⟨e, he1, he2, he3⟩ := fm_val (N := NV g) (by omega) (by omega) a ha hx
  refine ⟨⟨a, NV g, rfl, by omega, by omega, ha, hx.imp And.left And.left⟩, ?_⟩
  rw [he3, com_eq he2]
  rintro x3 rfl
  refine lp_rule (fun t => t.1 = σ ∧ t.2.1 = nI e ∧ ∃ j : Nat, t.2.2.2 = nI j ∧ j ≤ g 10 ∧ t.2.2.1 = nI (fb_ct (fun t => decide ((e + t) % NV g < g 10)) j)) (fun t => 100 - t.2.2.2.toNatClampNeg) ?_ ⟨rfl, rfl, 0, rfl, Nat.zero_le _, rfl⟩
  rintro K ⟨s, y3, y4, y5⟩ ⟨e0, e3, j, e5, hj, e4⟩ ih
  dsimp only at e0 e3 e4 e5 ih ⊢
  subst e0 e3 e4 e5
  unfold wp_X0_placesInCommon_32
  have hml := Nat.mod_lt (e + j) (show 0 < NV g by omega)
  rw [hco, hpl, nI_add, pk_rem (by omega) (by omega) (by omega), nI_leI (by omega) (by omega), nI_leI (by omega) (by omega)]
  have mu : 100 - (nI j + 1).toNatClampNeg < 100 - (nI j).toNatClampNeg := by
    rw [nI_1, nI_cl (by omega), nI_cl (by omega)]
    omega
  refine ⟨fun c2 => ⟨by rw [show g 10 = j by omega], rfl⟩, fun c2 => ⟨nI_ne0 (by omega) (by omega), fun d => ?_, fun d => ?_⟩⟩
  · rintro y rfl
    refine ih _ ⟨rfl, rfl, j + 1, nI_1 j, by omega, ?_⟩ mu
    dsimp only
    rw [fb_ct_succ, if_neg (fun q => by have := of_decide_eq_true q; omega), Nat.add_zero]
  · rintro y rfl w rfl
    refine ih _ ⟨rfl, rfl, j + 1, nI_1 j, by omega, ?_⟩ mu
    dsimp only
    rw [fb_ct_succ, if_pos (decide_eq_true (show (e + j) % NV g < g 10 by omega)), nI_1]
/-- a count by parts -/
theorem sm_ind (v : Nat) {i n : Nat} (h : i < n) : fb_sm (fun k => if k = i then v else 0) n = v := by
  have := fb_sm_upd (fun _ => 0) v h
  rw [sm_zero] at this
  omega
theorem ct_parts (f : Nat → Nat) (Q : Nat → Bool) (nk : Nat) : ∀ n, (∀ p, p < n → f p < nk) → fb_ct Q n = fb_sm (fun k => fb_ct (fun p => decide (f p = k) && Q p) n) nk
  | 0, _ => (sm_zero nk).symm
  | n + 1, h => by
    have ih := ct_parts f Q nk n (fun p hp => h p (by omega))
    have e1 : fb_sm (fun k => fb_ct (fun p => decide (f p = k) && Q p) (n + 1)) nk = fb_sm (fun k => fb_ct (fun p => decide (f p = k) && Q p) n + (if k = f n then (if Q n = true then 1 else 0) else 0)) nk := fb_sm_cong (fun k _ => by
      rw [fb_ct_succ]
      congr 1
      by_cases hk : k = f n
      · subst hk
        rw [if_pos rfl, decide_eq_true rfl, Bool.true_and]
      · rw [if_neg hk, decide_eq_false (fun q => hk q.symm), Bool.false_and]
        rfl)
    rw [e1, fb_sm_add, sm_ind _ (h n (by omega)), ← ih, fb_ct_succ]
/-- the places of a kind are its turns, one by one -/
theorem ct_turns (C : CS) (k : Nat) (H : Nat → Bool) : ∀ n, fb_ct (fun p => decide (c_pn C p = k) && H (ahd C k p)) n = fb_ct H (ahd C k n)
  | 0 => rfl
  | n + 1 => by
    rw [fb_ct_succ, ct_turns C k H n, ahd_succ]
    by_cases h : c_pn C n = k
    · rw [if_pos h, decide_eq_true h, Bool.true_and, fb_ct_succ]
    · rw [if_neg h, decide_eq_false h, Bool.false_and]
      rfl
theorem tn_ex {C : CS} {k s n : Nat} (h : s < ahd C k n) : ∃ r, r < n ∧ c_pn C r = k ∧ ahd C k r = s := by
  obtain ⟨r, h1, h2, h3⟩ := fb_ct_kth (p := fun i => decide (c_pn C i = k)) h
  exact ⟨r, h1, of_decide_eq_true h2, h3⟩
theorem tn_lt {C : CS} {k r n : Nat} (hr : r < n) (hk : c_pn C r = k) : ahd C k r < ahd C k n := by
  have h1 := ahd_succ C k r
  rw [if_pos hk] at h1
  have h2 : ahd C k (r + 1) ≤ ahd C k n := fb_ct_mono _ (by omega)
  omega
/-- a variant of sheet z that sheet y has too -/
theorem ring_eq {N m z y b t s : Nat} : (y * m + s + b) % N = (z * m + t + b) % N ↔ ((s : Int) % (N : Int)) = ((((z : Int) - (y : Int)) * m) % (N : Int) + (t : Int)) % (N : Int) := by
  rw [← Int.ofNat_inj, Int.natCast_emod, Int.natCast_emod, Int.natCast_add, Int.natCast_add, Int.natCast_add, Int.natCast_add, Int.emod_add_cancel_right, Int.emod_add_emod, Int.natCast_mul, Int.natCast_mul]
  have e1 : (y : Int) * m + s = s + (y : Int) * m := Int.add_comm _ _
  have e2 : (z : Int) * m + t = (((z : Int) - (y : Int)) * m + t) + (y : Int) * m := by
    rw [Int.sub_mul]
    omega
  rw [e1, e2, Int.emod_add_cancel_right]
theorem sh_p {C : CS} {z y k p : Nat} (hp : p < c_np C) (hk : c_pn C p = k) (hN : 0 < NV (cq C k)) : decide (0 < fb_ct (fun r => decide (c_pn C r = c_pn C p) && decide (vrN C y r = vrN C z p)) (c_np C)) = decide (((((z : Int) - (y : Int)) * (ahd C k (c_np C) : Int)) % (NV (cq C k) : Int) + (ahd C k p : Int)) % (NV (cq C k) : Int) < (ahd C k (c_np C) : Int)) := by
  apply decide_eq_decide.mpr
  rw [fb_ct_pos]
  have hv : ∀ r, c_pn C r = k → (vrN C y r = vrN C z p ↔ ((ahd C k r : Int) % (NV (cq C k) : Int)) = ((((z : Int) - (y : Int)) * (ahd C k (c_np C) : Int)) % (NV (cq C k) : Int) + (ahd C k p : Int)) % (NV (cq C k) : Int)) := fun r hr => by
    unfold vrN
    rw [hr, hk]
    exact ring_eq
  generalize hE : ((((z : Int) - (y : Int)) * (ahd C k (c_np C) : Int)) % (NV (cq C k) : Int) + (ahd C k p : Int)) % (NV (cq C k) : Int) = E at hv ⊢
  have hE0 : 0 ≤ E := by rw [← hE]; exact Int.emod_nonneg _ (by omega)
  have hE1 : E < (NV (cq C k) : Int) := by rw [← hE]; exact Int.emod_lt_of_pos _ (by omega)
  constructor
  · rintro ⟨r, hr, h⟩
    rw [Bool.and_eq_true] at h
    have hrk : c_pn C r = k := (of_decide_eq_true h.1).trans hk
    have h2 := (hv r hrk).mp (of_decide_eq_true h.2)
    have h3 := tn_lt hr hrk
    rw [← h2, ← Int.natCast_emod]
    have := Nat.mod_le (ahd C k r) (NV (cq C k))
    omega
  · intro h
    obtain ⟨s, hs⟩ := Int.eq_ofNat_of_zero_le hE0
    subst hs
    obtain ⟨r, h1, h2, h3⟩ := tn_ex (C := C) (k := k) (s := s) (n := c_np C) (by omega)
    refine ⟨r, h1, ?_⟩
    rw [Bool.and_eq_true]
    refine ⟨decide_eq_true (h2.trans hk.symm), decide_eq_true ((hv r h2).mpr ?_)⟩
    rw [h3]
    exact Int.emod_eq_of_lt hE0 hE1
theorem sh_sum {C : CS} (hC : COk C) (hl : lackN C = 0) (z y : Nat) : shN C z y = fb_sm (fun k => if NV (cq C k) = 0 then 0 else comN (NV (cq C k)) (cq C k 10) ((z : Int) - (y : Int))) (c_nk C) := by
  unfold shN
  rw [ct_parts (c_pn C) _ (c_nk C) (c_np C) hC.2.2.2.2.1]
  refine fb_sm_cong (fun k hk => ?_)
  by_cases h0 : NV (cq C k) = 0
  · rw [if_pos h0, fb_ct_zero]
    intro p hp
    have : c_pn C p ≠ k := by
      rintro rfl
      have := no_lack hl hp
      omega
    rw [decide_eq_false this, Bool.false_and]
  · rw [if_neg h0, cq_10]
    unfold comN
    rw [← ct_turns]
    refine fb_ct_cong (fun p hp => ?_)
    by_cases hpk : c_pn C p = k
    · rw [sh_p hp hpk (by omega)]
    · rw [decide_eq_false hpk, Bool.false_and, Bool.false_and]
theorem com_le (N m : Nat) (d : Int) : comN N m d ≤ m := fb_ct_le _ _
theorem pu_X1_shared (g : CS) (σ : XS) (x1 : Int32) (x2 : Int32) (hp : pr_X1_shared g σ x1 x2) : wp_X1_shared g (fun r u => r = fn_X1_shared g σ x1 x2 ∧ u = σ) σ x1 x2 := by
  have hR : RX g σ := hp
  have h8 := hR.1.1
  have hb : (x1 < 0 ∨ 9999 < x1) ∨ (x2 < 0 ∨ 9999 < x2) → fn_X1_shared g σ x1 x2 = -2 := fun h => by
    show sp_shared g x1 x2 = -2
    unfold sp_shared
    rw [if_pos (h.elim (fun q => q.elim Or.inl (fun q => Or.inr (Or.inl q))) (fun q => q.elim (fun q => Or.inr (Or.inr (Or.inl q))) (fun q => Or.inr (Or.inr (Or.inr q)))))]
  unfold wp_X1_shared
  rw [iss0, iss0, isla]
  refine ⟨fun c => ⟨(hb (Or.inl c)).symm, rfl⟩, fun c => ⟨fun d => ?_, fun d => ⟨(hb (Or.inr d)).symm, rfl⟩⟩⟩
  have hn : ¬ (x1 < 0 ∨ 9999 < x1 ∨ x2 < 0 ∨ 9999 < x2) := by
    rintro (q | q | q | q)
    · exact c (Or.inl q)
    · exact c (Or.inr q)
    · exact d (Or.inl q)
    · exact d (Or.inr q)
  obtain ⟨z, rfl, -, hz, hzc⟩ := rng (lo := 0) (hi := 9999) (by decide) (by decide) (fun q => c (Or.inl q)) (fun q => c (Or.inr q))
  obtain ⟨y, rfl, -, hy, hyc⟩ := rng (lo := 0) (hi := 9999) (by decide) (by decide) (fun q => d (Or.inl q)) (fun q => d (Or.inr q))
  have hfn : fn_X1_shared g σ (nI z) (nI y) = if 0 < lackN g then -3 else nI (shN g z y) := by
    show sp_shared g (nI z) (nI y) = _
    unfold sp_shared
    rw [if_neg hn, hzc, hyc]
  rw [hfn]
  refine ⟨hR, fun e => ?_, fun e => ⟨by rw [if_pos (Classical.not_not.mp e)], rfl⟩⟩
  rw [if_neg e, sh_sum hR.1 (by omega) z y]
  obtain ⟨F, hF⟩ : ∃ F : Nat → Nat, F = fun k => if NV (cq g k) = 0 then 0 else comN (NV (cq g k)) (cq g k 10) ((z : Int) - (y : Int)) := ⟨_, rfl⟩
  rw [← hF]
  refine lp_rule (fun t => t.1 = σ ∧ t.2.1 = nI z ∧ t.2.2.1 = nI y ∧ ∃ j : Nat, t.2.2.2.2 = nI j ∧ j ≤ c_nk g ∧ t.2.2.2.1 = nI (fb_sm F j)) (fun t => 100 - t.2.2.2.2.toNatClampNeg) ?_ ⟨rfl, rfl, rfl, 0, rfl, Nat.zero_le _, rfl⟩
  rintro K ⟨s, y1, y2, y3, y4⟩ ⟨e0, e1, e2, j, e4, hj, e3⟩ ih
  dsimp only at e0 e1 e2 e3 e4 ih ⊢
  subst e0 e1 e2 e3 e4
  unfold wp_X1_shared_32
  rw [hR.2.1, nI_leI (by omega) (by omega), nI_cl (show j < 2 ^ 31 by omega)]
  refine ⟨fun c2 => ⟨by rw [show c_nk g = j by omega], rfl⟩, fun c2 => ⟨vp_in_nI (by omega) (by decide), ⟨krr hR (by omega), z, y, rfl, rfl, hz, hy⟩, ?_⟩⟩
  have hv : fn_X0_placesInCommon (cq g j) (xs_ki s j) (nI z) (nI y) = nI (F j) := by
    unfold fn_X0_placesInCommon
    rw [hF, hzc, hyc]
    dsimp only
    split <;> rfl
  rw [hv, nI_add]
  rintro a rfl b rfl
  refine ih _ ⟨rfl, rfl, rfl, j + 1, nI_1 j, by omega, rfl⟩ ?_
  dsimp only
  rw [nI_1, nI_cl (by omega), nI_cl (by omega)]
  omega
theorem pu_X2_shared (g : CS) (σ : MS) (x1 : Int32) (x2 : Int32) (hp : pr_X2_shared g σ x1 x2) : wp_X2_shared g (po_X2_shared g σ x1 x2) σ x1 x2 := by
  have hR : RM g (ms_s_th σ 0) := hp
  have hpo : po_X2_shared g σ x1 x2 = fun r u => r = sp_shared g x1 x2 ∧ RM g u := rfl
  rw [hpo]
  have h4 := hR.1.2.2.2.1
  unfold wp_X2_shared
  generalize ms_s_th σ 0 = T at hR ⊢
  have hb : (x1 < 0 ∨ 9999 < x1) ∨ (x2 < 0 ∨ 9999 < x2) → (-2 : Int32) = sp_shared g x1 x2 := fun h => by
    unfold sp_shared
    rw [if_pos (h.elim (fun q => q.elim Or.inl (fun q => Or.inr (Or.inl q))) (fun q => q.elim (fun q => Or.inr (Or.inr (Or.inl q))) (fun q => Or.inr (Or.inr (Or.inr q)))))]
  rw [nn0, nn0]
  refine ⟨fun c => ⟨hb (Or.inl (Classical.not_not.mp c)), hR⟩, fun c => ⟨fun d => ⟨hR, fun r u hu => ?_⟩, fun d => ⟨hb (Or.inr (Classical.not_not.mp d)), hR⟩⟩⟩
  obtain ⟨hr, hRu, -, -⟩ := hu
  subst hr
  have hn : ¬ (x1 < 0 ∨ 9999 < x1 ∨ x2 < 0 ∨ 9999 < x2) := by
    rintro (q | q | q | q)
    · exact c (Or.inl q)
    · exact c (Or.inr q)
    · exact d (Or.inl q)
    · exact d (Or.inr q)
  have vz := vin_z c
  have vy := vin_z d
  obtain ⟨z, rfl, -, hz, hzc⟩ := rng (lo := 0) (hi := 9999) (by decide) (by decide) (fun q => c (Or.inl q)) (fun q => c (Or.inr q))
  obtain ⟨y, rfl, -, hy, hyc⟩ := rng (lo := 0) (hi := 9999) (by decide) (by decide) (fun q => d (Or.inl q)) (fun q => d (Or.inr q))
  have hsp : sp_shared g (nI z) (nI y) = if 0 < lackN g then -3 else nI (shN g z y) := by
    unfold sp_shared
    rw [if_neg hn, hzc, hyc]
  rw [hsp]
  by_cases hl : 0 < lackN g
  · rw [if_pos hl, if_pos hl]
    exact ⟨fun q => absurd q (by decide), fun _ => ⟨rfl, hRu⟩⟩
  rw [if_neg hl, if_neg hl]
  have hl0 : lackN g = 0 := by omega
  refine ⟨fun _ => ?_, fun q => absurd rfl q⟩
  obtain ⟨Q, hQ⟩ : ∃ Q : Nat → Nat → Bool, Q = fun p r => decide (c_pn g r = c_pn g p) && decide (vrN g y r = vrN g z p) := ⟨_, rfl⟩
  have hsh : shN g z y = fb_ct (fun p => decide (0 < fb_ct (Q p) (c_np g))) (c_np g) := by
    rw [hQ]
    rfl
  rw [hsh]
  refine lp_rule (fun t => RM g t.1 ∧ t.2.1 = nI z ∧ t.2.2.1 = nI y ∧ ∃ p : Nat, t.2.2.2.2 = nI p ∧ p ≤ c_np g ∧ t.2.2.2.1 = nI (fb_ct (fun p => decide (0 < fb_ct (Q p) (c_np g))) p)) (fun t => 100 - t.2.2.2.2.toNatClampNeg) ?_ ⟨hRu, rfl, rfl, 0, rfl, Nat.zero_le _, rfl⟩
  rintro K ⟨s, y1, y2, y3, y4⟩ ⟨hRs, e1, e2, p, e4, hp1, e3⟩ ih
  dsimp only at hRs e1 e2 e3 e4 ih ⊢
  subst e1 e2 e3 e4
  unfold wp_X2_shared_37
  rw [m_pc hRs, nI_leI (by omega) (by omega)]
  refine ⟨fun c2 => ⟨by rw [show c_np g = p by omega], hRs⟩, fun c2 => ?_⟩
  have hpn : p < c_np g := by omega
  have mu : 100 - (nI p + 1).toNatClampNeg < 100 - (nI p).toNatClampNeg := by
    rw [nI_1, nI_cl (by omega), nI_cl (by omega)]
    omega
  refine lp_rule (fun t => RM g t.1 ∧ t.2.1 = nI z ∧ t.2.2.1 = nI y ∧ t.2.2.2.1 = nI (fb_ct (fun p => decide (0 < fb_ct (Q p) (c_np g))) p) ∧ t.2.2.2.2.1 = nI p ∧ ∃ r : Nat, t.2.2.2.2.2.2 = nI r ∧ r ≤ c_np g ∧ t.2.2.2.2.2.1 = flg (Q p) r) (fun t => 100 - t.2.2.2.2.2.2.toNatClampNeg) ?_ ⟨hRs, rfl, rfl, rfl, rfl, 0, rfl, Nat.zero_le _, rfl⟩
  rintro K2 ⟨s2, w1, w2, w3, w4, w5, w6⟩ ⟨hR2, e1, e2, e3, e4, r, e6, hr, e5⟩ ih2
  dsimp only at hR2 e1 e2 e3 e4 e5 e6 ih2 ⊢
  subst e1 e2 e3 e4 e5 e6
  unfold wp_X2_shared_52
  have out : (c_np g ≤ r ∨ ¬ flg (Q p) r = 0) → wp_X2_shared_113 g K (fun r u => r = nI (fb_ct (fun p => decide (0 < fb_ct (Q p) (c_np g))) (c_np g)) ∧ RM g u) s2 (nI z) (nI y) (nI (fb_ct (fun p => decide (0 < fb_ct (Q p) (c_np g))) p)) (nI p) (flg (Q p) r) := fun ho => by
    unfold wp_X2_shared_113
    have hmo : fb_ct (Q p) r ≤ fb_ct (Q p) (c_np g) := fb_ct_mono _ hr
    refine ⟨fun h => ?_, fun h => ?_⟩
    · have hr2 : r = c_np g := by
        rcases ho with ho | ho
        · omega
        · exact absurd h ho
      have hz0 : ¬ 0 < fb_ct (Q p) (c_np g) := fun q => by
        unfold flg at h
        rw [hr2, if_pos q] at h
        exact absurd h (by decide)
      rintro a rfl b rfl
      refine ih _ ⟨hR2, rfl, rfl, p + 1, nI_1 p, by omega, ?_⟩ mu
      dsimp only
      rw [fb_ct_succ, if_neg (fun q => hz0 (of_decide_eq_true q)), Nat.add_zero, Int32.add_zero]
    · have hz0 : 0 < fb_ct (Q p) (c_np g) := by
        unfold flg at h
        by_cases q : 0 < fb_ct (Q p) r
        · omega
        · rw [if_neg q] at h
          exact absurd rfl h
      rintro a rfl b rfl
      refine ih _ ⟨hR2, rfl, rfl, p + 1, nI_1 p, by omega, ?_⟩ mu
      dsimp only
      rw [fb_ct_succ, if_pos (decide_eq_true hz0), nI_1]
  rw [m_pc hR2, nI_leI (by omega) (by omega)]
  refine ⟨fun c3 => out (Or.inl c3), fun c3 => ⟨fun d3 => out (Or.inr d3), fun d3 => ?_⟩⟩
  have hrn : r < c_np g := by omega
  obtain ⟨a1, a2, a3, a4, a5, -, -⟩ := mpl hR2 hrn
  obtain ⟨b1, b2, b3, b4, b5, -, -⟩ := mpl hR2 hpn
  have h8 := hR.1.1
  have mu2 : 100 - (nI r + 1).toNatClampNeg < 100 - (nI r).toNatClampNeg := by
    rw [nI_1, nI_cl (by omega), nI_cl (by omega)]
    omega
  rw [a1, b1, a2, b2, nI_eq (by omega) (by omega)]
  have hq : Q p r = (decide (c_pn g r = c_pn g p) && decide (vrN g y r = vrN g z p)) := by rw [hQ]
  refine ⟨a5, b5, fun f => ?_, fun f => ⟨⟨hR2, vp_in_nI hrn (by omega), vy, hl0⟩, fun r8 u9 hu9 => ?_⟩⟩
  · rintro a rfl
    refine ih2 _ ⟨hR2, rfl, rfl, rfl, rfl, r + 1, nI_1 r, by omega, ?_⟩ mu2
    dsimp only
    rw [flg_no d3, hq, decide_eq_false f, Bool.false_and]
    rfl
  · obtain ⟨hr8, hR9, -, -⟩ := hu9
    rw [hyc, a1] at hr8
    subst hr8
    refine ⟨⟨hR9, vp_in_nI hpn (by omega), vz, hl0⟩, fun r11 u12 hu12 => ?_⟩
    obtain ⟨hr11, hR12, -, -⟩ := hu12
    rw [hzc, b1] at hr11
    subst hr11
    have v1 := vr_lt hl0 (z := y) hrn
    have v2 := vr_lt hl0 (z := z) hpn
    have n1 := nv_le (cq g (c_pn g r))
    have n2 := nv_le (cq g (c_pn g p))
    rw [nI_eq (by omega) (by omega)]
    refine ⟨fun f2 => ?_, fun f2 => ?_⟩
    · rintro a rfl
      refine ih2 _ ⟨hR12, rfl, rfl, rfl, rfl, r + 1, nI_1 r, by omega, ?_⟩ mu2
      dsimp only
      rw [flg_no d3, hq, decide_eq_false f2, Bool.and_false]
      rfl
    · rintro a rfl
      refine ih2 _ ⟨hR12, rfl, rfl, rfl, rfl, r + 1, nI_1 r, by omega, ?_⟩ mu2
      dsimp only
      rw [flg_no d3, hq, decide_eq_true f, decide_eq_true f2]
      rfl
