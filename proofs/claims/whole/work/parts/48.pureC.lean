/-! the model: who sits near, and what number each gets -/
def flg (B : Nat → Bool) (j : Nat) : Int32 := if 0 < fb_ct B j then 1 else 0
theorem flg01 (B : Nat → Bool) (j : Nat) : flg B j = 0 ∨ flg B j = 1 := by
  unfold flg
  split
  · exact Or.inr rfl
  · exact Or.inl rfl
theorem flg_yes {B : Nat → Bool} {j : Nat} (h : ¬ flg B j = 0) : flg B (j + 1) = 1 := by
  unfold flg at h ⊢
  rw [fb_ct_succ]
  by_cases hp : 0 < fb_ct B j
  · rw [if_pos (by omega)]
  · rw [if_neg hp] at h
    exact absurd rfl h
theorem flg_no {B : Nat → Bool} {j : Nat} (h : flg B j = 0) : flg B (j + 1) = if B j = true then 1 else 0 := by
  unfold flg at h ⊢
  rw [fb_ct_succ]
  by_cases hp : 0 < fb_ct B j
  · rw [if_pos hp] at h
    exact absurd h (by decide)
  · have h0 : fb_ct B j = 0 := by omega
    rw [h0]
    by_cases hb : B j = true
    · rw [if_pos hb, if_pos hb, if_pos (by decide)]
    · rw [if_neg hb, if_neg hb, if_neg (by decide)]
theorem m1_toInt {m : Nat} (h : m < 2 ^ 20) : (nI m - 1).toInt = (m : Int) - 1 := pk_sub_toInt (a := m) (b := 1) (by omega) (by decide)
theorem m1_lt {a m : Nat} (ha : a < 2 ^ 20) (hm : m < 2 ^ 20) : nI a + 1 < nI m - 1 ↔ a + 2 < m := by
  rw [fa_lt, m1_toInt hm, nI_1, nI_toInt (by omega)]
  omega
theorem m1_eq {a m : Nat} (ha : a < 2 ^ 20) (hm : m < 2 ^ 20) : nI m - 1 = nI a ↔ m = a + 1 := by
  rw [fa_eq, m1_toInt hm, nI_toInt (by omega)]
  omega
theorem m1_s (m : Nat) : nI m - 1 + 1 = nI (m + 1) - 1 := by
  rw [Int32.sub_add_cancel, nI_pred]
theorem m1_out {m n : Nat} (hm : m < 2 ^ 20) : outN (nI m - 1) n ↔ ¬ (1 ≤ m ∧ m ≤ n) := by
  cases m with
  | zero => exact ⟨fun _ q => absurd q.1 (by decide), fun _ => Or.inl (by decide)⟩
  | succ j =>
    rw [nI_pred]
    unfold outN
    rw [nI_cl (by omega)]
    constructor
    · rintro (q | q)
      · exact absurd q (nI_pos (by omega))
      · omega
    · intro q
      exact Or.inr (by omega)
theorem pu_X2_isNear (g : CS) (σ : MS) (x1 : Int32) (x2 : Int32) (x3 : Int32) (hp : pr_X2_isNear g σ x1 x2 x3) : wp_X2_isNear g (fun r u => r = fn_X2_isNear g σ x1 x2 x3 ∧ u = σ) σ x1 x2 x3 := by
  obtain ⟨hR, r, c, rfl, rfl, hr, hc⟩ := hp
  have q2 := hR.1.2.2.2.2.2.2.2.2.1
  have q4 := hR.1.2.2.2.2.2.2.2.2.2.2.1
  have hro : ms_ro σ = nI (c_ro g) := hR.2.2.2.2.2.2.2.2.2.1
  have hco : ms_co σ = nI (c_co g) := hR.2.2.2.2.2.2.2.2.2.2.1
  have hfn : fn_X2_isNear g σ (nI r) (nI c) x3 = flg (neB g σ r c x3) 9 := by
    unfold fn_X2_isNear flg
    rw [nI_cl (by omega), nI_cl (by omega)]
  rw [hfn]
  obtain ⟨B, hB⟩ : ∃ B, B = neB g σ r c x3 := ⟨_, rfl⟩
  rw [← hB]
  unfold wp_X2_isNear
  rintro x5 rfl
  refine lp_rule (fun t => t.1 = σ ∧ t.2.1 = nI r ∧ t.2.2.1 = nI c ∧ t.2.2.2.1 = x3 ∧ ∃ a : Nat, t.2.2.2.2.2 = nI (r + a) - 1 ∧ a ≤ 3 ∧ t.2.2.2.2.1 = flg B (3 * a)) (fun t => 100 - (t.2.2.2.2.2 + 1).toNatClampNeg) ?_ ⟨rfl, rfl, rfl, rfl, 0, rfl, by decide, rfl⟩
  rintro K8 ⟨s, y1, y2, y3, y4, y5⟩ ⟨e0, e1, e2, e3, a, e5, ha, e4⟩ ih8
  dsimp only at e0 e1 e2 e3 e4 e5 ih8 ⊢
  subst e0 e1 e2 e3 e4 e5
  unfold wp_X2_isNear_8
  rw [m1_lt (by omega) (by omega)]
  refine ⟨fun d => ?_, fun d => ?_⟩
  · have ha3 : a = 3 := by omega
    subst ha3
    exact ⟨nar01 (flg01 B _), rfl, rfl⟩
  rintro x6 rfl
  refine lp_rule (fun t => t.1 = s ∧ t.2.1 = nI r ∧ t.2.2.1 = nI c ∧ t.2.2.2.1 = y3 ∧ t.2.2.2.2.2.1 = nI (r + a) - 1 ∧ ∃ b : Nat, t.2.2.2.2.2.2 = nI (c + b) - 1 ∧ b ≤ 3 ∧ t.2.2.2.2.1 = flg B (3 * a + b)) (fun t => 100 - (t.2.2.2.2.2.2 + 1).toNatClampNeg) ?_ ⟨rfl, rfl, rfl, rfl, rfl, 0, rfl, by decide, rfl⟩
  rintro K ⟨s2, z1, z2, z3, z4, z5, z6⟩ ⟨e0, e1, e2, e3, e5, b, e6, hb, e4⟩ ih
  dsimp only at e0 e1 e2 e3 e4 e5 e6 ih ⊢
  subst e0 e1 e2 e3 e4 e5 e6
  unfold wp_X2_isNear_21
  rw [m1_lt (by omega) (by omega)]
  refine ⟨fun d2 => ?_, fun d2 => ?_⟩
  · have hb3 : b = 3 := by omega
    subst hb3
    rintro y rfl
    refine ih8 _ ⟨rfl, rfl, rfl, rfl, a + 1, ?_, by omega, rfl⟩ ?_
    · dsimp only
      rw [m1_s, Nat.add_assoc]
    · dsimp only
      rw [Int32.sub_add_cancel, nI_1, nI_cl (by omega), nI_cl (by omega)]
      omega
  have hK : ∀ w, w = flg B (3 * a + b + 1) → ∀ y, y = nI (c + b) - 1 + 1 → K (s2, nI r, nI c, z3, w, nI (r + a) - 1, y) := by
    rintro w hw y rfl
    refine ih _ ⟨rfl, rfl, rfl, rfl, rfl, b + 1, ?_, by omega, hw⟩ ?_
    · dsimp only
      rw [m1_s, Nat.add_assoc]
    · dsimp only
      rw [Int32.sub_add_cancel, nI_1, nI_cl (by omega), nI_cl (by omega)]
      omega
  have hdiv : (3 * a + b) / 3 = a := by omega
  have hmod : (3 * a + b) % 3 = b := by omega
  have hBv : B (3 * a + b) = decide (1 ≤ r + a ∧ r + a ≤ c_ro g ∧ 1 ≤ c + b ∧ c + b ≤ c_co g ∧ 3 * a + b ≠ 4 ∧ ms_nu s2 (8 * (r + a - 1) + (c + b - 1)) = z3) := by
    rw [hB]
    unfold neB
    rw [hdiv, hmod]
  have h79 : B (3 * a + b) = false → wp_X2_isNear_79 g K8 K (fun r u => r = flg B 9 ∧ u = s2) s2 (nI r) (nI c) z3 (flg B (3 * a + b)) (nI (r + a) - 1) (nI (c + b) - 1) := fun hf => by
    unfold wp_X2_isNear_79 wp_X2_isNear_80
    refine ⟨fun h => hK 1 (flg_yes h).symm, fun h => ⟨fun _ => hK 0 ?_, fun q => absurd rfl q⟩⟩
    rw [flg_no h, hf]
    rfl
  have h75 : 1 ≤ r + a ∧ r + a ≤ c_ro g ∧ 1 ≤ c + b ∧ c + b ≤ c_co g ∧ 3 * a + b ≠ 4 → wp_X2_isNear_75 g K8 K (fun r u => r = flg B 9 ∧ u = s2) s2 (nI r) (nI c) z3 (flg B (3 * a + b)) (nI (r + a) - 1) (nI (c + b) - 1) := fun hin => by
    obtain ⟨n1, n2, n3, n4, n5⟩ := hin
    have hix : (8 : Int32) * (nI (r + a) - 1) + (nI (c + b) - 1) = nI (8 * (r + a - 1) + (c + b - 1)) := by
      rw [show r + a = (r + a - 1) + 1 by omega, show c + b = (c + b - 1) + 1 by omega, nI_pred, nI_pred, show (8 : Int32) = nI 8 from rfl, pk_mul, nI_add]
      rfl
    unfold wp_X2_isNear_75 wp_X2_isNear_80
    rw [hix, nI_cl (by omega)]
    refine ⟨fun h => hK 1 (flg_yes h).symm, fun h => ⟨fun q => absurd q (by decide), fun _ => ⟨vp_in_nI (by omega) (by decide), fun hv => hK 0 ?_, fun hv => hK 1 ?_⟩⟩⟩
    · rw [flg_no h, hBv, decide_eq_false (fun q => hv q.2.2.2.2.2)]
      rfl
    · rw [flg_no h, hBv, decide_eq_true ⟨n1, n2, n3, n4, n5, hv⟩]
      rfl
  rw [in_out (by omega) hro, in_out (by omega) hco, m1_out (by omega), m1_out (by omega), m1_eq (by omega) (by omega), m1_eq (by omega) (by omega)]
  refine ⟨fun f1 => h79 ?_, fun f1 => ⟨fun f2 => h79 ?_, fun f2 => ⟨fun f3 => h75 ?_, fun f3 => ⟨fun f4 => h79 ?_, fun f4 => h75 ?_⟩⟩⟩⟩
  · rw [hBv]
    exact decide_eq_false (fun q => f1 ⟨q.1, q.2.1⟩)
  · rw [hBv]
    exact decide_eq_false (fun q => f2 ⟨q.2.2.1, q.2.2.2.1⟩)
  · have f1 := Classical.not_not.mp f1
    have f2 := Classical.not_not.mp f2
    exact ⟨f1.1, f1.2, f2.1, f2.2, by omega⟩
  · rw [hBv]
    exact decide_eq_false (fun q => q.2.2.2.2.1 (by omega))
  · have f1 := Classical.not_not.mp f1
    have f2 := Classical.not_not.mp f2
    exact ⟨f1.1, f1.2, f2.1, f2.2, by omega⟩
theorem st_lt {co y x r c : Nat} (hx : x < co) (hc : c < co) : y * co + x < r * co + c ↔ (y < r ∨ (y = r ∧ x < c)) := by
  constructor
  · intro h
    rcases Nat.lt_trichotomy y r with h1 | h1 | h1
    · exact Or.inl h1
    · subst h1
      exact Or.inr ⟨rfl, by omega⟩
    · have := Nat.mul_le_mul_right co (show r + 1 ≤ y by omega)
      rw [Nat.add_mul] at this
      omega
  · rintro (h | ⟨rfl, h⟩)
    · have := Nat.mul_le_mul_right co (show y + 1 ≤ r by omega)
      rw [Nat.add_mul] at this
      omega
    · omega
theorem st_lt1 {co y x r c : Nat} (hx : x < co) (hc : c < co) : y * co + x < r * co + (c + 1) ↔ (y < r ∨ (y = r ∧ x < c) ∨ (y = r ∧ x = c)) := by
  constructor
  · intro h
    rcases Nat.lt_trichotomy y r with h1 | h1 | h1
    · exact Or.inl h1
    · subst h1
      by_cases hx2 : x < c
      · exact Or.inr (Or.inl ⟨rfl, hx2⟩)
      · exact Or.inr (Or.inr ⟨rfl, by omega⟩)
    · have := Nat.mul_le_mul_right co (show r + 1 ≤ y by omega)
      rw [Nat.add_mul] at this
      omega
  · rintro (h | ⟨rfl, h⟩ | ⟨rfl, h⟩)
    · have := Nat.mul_le_mul_right co (show y + 1 ≤ r by omega)
      rw [Nat.add_mul] at this
      omega
    · omega
    · omega
theorem seN_v {co : Nat} (h : 1 ≤ co) (y x : Nat) : (co = 1 ∧ seN co y x = y % 2 + x % 2) ∨ (2 ≤ co ∧ seN co y x = 2 * (y % 2) + x % 2) := by
  unfold seN
  rcases min_2 co h with ⟨a, b⟩ | ⟨a, b⟩
  · rw [b]
    exact Or.inl ⟨a, by omega⟩
  · rw [b]
    exact Or.inr ⟨a, by omega⟩
/-- each lesser number stands near -/
theorem ne_some {C : CS} {τ : MS} {r c n : Nat} (hco : 1 ≤ c_co C) (hco8 : c_co C ≤ 8) (hro8 : c_ro C ≤ 8) (hr : r < c_ro C) (hc : c < c_co C) (hs : sitN C τ (r * c_co C + c)) (hn : n < seN (c_co C) r c) : 0 < fb_ct (neB C τ r c (nI n)) 9 := by
  have key : ∀ y x, x < c_co C → (y < r ∨ (y = r ∧ x < c)) → ms_nu τ (8 * y + x) = nI (seN (c_co C) y x) := fun y x h1 h2 => by
    rw [hs y x (by omega) (by omega), if_pos ⟨h1, (st_lt h1 hc).mpr h2⟩]
  rw [fb_ct_pos]
  have tri : ∀ t y x, t < 9 → r + t / 3 = y + 1 → c + t % 3 = x + 1 → x < c_co C → (y < r ∨ (y = r ∧ x < c)) → seN (c_co C) y x = n → ∃ k, k < 9 ∧ neB C τ r c (nI n) k = true := by
    intro t y x ht hy hx h1 h2 hv
    refine ⟨t, ht, ?_⟩
    unfold neB
    refine decide_eq_true ⟨by omega, by omega, by omega, by omega, ?_, ?_⟩
    · rintro rfl
      omega
    · rw [hy, hx, Nat.add_sub_cancel, Nat.add_sub_cancel, key y x h1 h2, hv]
  have v := seN_v hco
  rcases v r c with ⟨a1, a2⟩ | ⟨a1, a2⟩
  · have w := v (r - 1) 0
    exact tri 1 (r - 1) 0 (by decide) (by omega) (by omega) (by omega) (by omega) (by omega)
  · by_cases h2 : n = 2 * (r % 2)
    · have w := v r (c - 1)
      exact tri 3 r (c - 1) (by decide) (by omega) (by omega) (by omega) (by omega) (by omega)
    · by_cases h3 : n = c % 2
      · have w := v (r - 1) c
        exact tri 1 (r - 1) c (by decide) (by omega) (by omega) (by omega) (by omega) (by omega)
      · by_cases h4 : c = 0
        · have w := v (r - 1) (c + 1)
          exact tri 2 (r - 1) (c + 1) (by decide) (by omega) (by omega) (by omega) (by omega) (by omega)
        · have w := v (r - 1) (c - 1)
          exact tri 0 (r - 1) (c - 1) (by decide) (by omega) (by omega) (by omega) (by omega) (by omega)
/-- its own number stands not near -/
theorem ne_none {C : CS} {τ : MS} {r c : Nat} (hco : 1 ≤ c_co C) (hco8 : c_co C ≤ 8) (hro8 : c_ro C ≤ 8) (hr : r < c_ro C) (hc : c < c_co C) (hs : sitN C τ (r * c_co C + c)) : ¬ 0 < fb_ct (neB C τ r c (nI (seN (c_co C) r c))) 9 := by
  rw [fb_ct_pos]
  rintro ⟨t, ht, hb⟩
  unfold neB at hb
  obtain ⟨h1, h2, h3, h4, h5, h6⟩ := of_decide_eq_true hb
  obtain ⟨y, hy⟩ : ∃ y, r + t / 3 = y + 1 := ⟨r + t / 3 - 1, by omega⟩
  obtain ⟨x, hx⟩ : ∃ x, c + t % 3 = x + 1 := ⟨c + t % 3 - 1, by omega⟩
  rw [hy, hx, Nat.add_sub_cancel, Nat.add_sub_cancel, hs y x (by omega) (by omega)] at h6
  have hxc : x < c_co C := by omega
  have l1 := seN_le (c_co C) r c
  have l2 := seN_le (c_co C) y x
  by_cases hst : x < c_co C ∧ y * c_co C + x < r * c_co C + c
  · rw [if_pos hst, nI_eq (by omega) (by omega)] at h6
    have hst2 := (st_lt hxc hc).mp hst.2
    have v := seN_v hco
    have v1 := v r c
    have v2 := v y x
    omega
  · rw [if_neg hst] at h6
    exact m9_ne (by omega) h6
theorem rm_nu {C : CS} {τ : MS} (f : Nat → Int32) (h : RM C τ) : RM C (ms_s_nu τ f) := h
theorem mono_nu {σ τ : MS} (f : Nat → Int32) (h : mono σ τ) : mono σ (ms_s_nu τ f) := h
theorem sit_put {C : CS} {τ : MS} {r c : Nat} (hr : r < 8) (hc : c < c_co C) (hco8 : c_co C ≤ 8) (hs : sitN C τ (r * c_co C + c)) : sitN C (ms_s_nu τ (upd (ms_nu τ) (8 * r + c) (nI (seN (c_co C) r c)))) (r * c_co C + (c + 1)) := by
  intro y x h1 h2
  show upd (ms_nu τ) (8 * r + c) (nI (seN (c_co C) r c)) (8 * y + x) = _
  by_cases hx : x < c_co C
  · by_cases hyx : y = r ∧ x = c
    · obtain ⟨rfl, rfl⟩ := hyx
      rw [pk_us, if_pos ⟨hx, by omega⟩]
    · rw [pk_un (by omega), hs y x h1 h2]
      have hiff : (x < c_co C ∧ y * c_co C + x < r * c_co C + c) ↔ (x < c_co C ∧ y * c_co C + x < r * c_co C + (c + 1)) := by
        rw [st_lt hx hc, st_lt1 hx hc]
        omega
      by_cases hst : x < c_co C ∧ y * c_co C + x < r * c_co C + c
      · rw [if_pos hst, if_pos (hiff.mp hst)]
      · rw [if_neg hst, if_neg (fun q => hst (hiff.mpr q))]
  · rw [pk_un (by omega), hs y x h1 h2, if_neg (fun q => hx q.1), if_neg (fun q => hx q.1)]
theorem sit_44 {g : CS} {P : Int32 → MS → Prop} {K24 : (MS × Int32) → Prop} {K34 : (MS × Int32 × Int32) → Prop} {s : MS} {r c : Nat} (hR : RM g s) (hr : r < c_ro g) (hc : c < c_co g) (hs : sitN g s (r * c_co g + c)) (hK : ∀ f, sitN g (ms_s_nu s f) (r * c_co g + (c + 1)) → K34 (ms_s_nu s f, nI r, nI (c + 1))) : LPX (fun K a => wp_X2_sit_44 g K24 K34 K P a.1 a.2.1 a.2.2.1 a.2.2.2) (s, nI r, nI c, 0) := by
  have q2 := hR.1.2.2.2.2.2.2.2.2.1
  have q3 := hR.1.2.2.2.2.2.2.2.2.2.1
  have q4 := hR.1.2.2.2.2.2.2.2.2.2.2.1
  have hl := seN_le (c_co g) r c
  refine lp_rule (fun t => t.1 = s ∧ t.2.1 = nI r ∧ t.2.2.1 = nI c ∧ ∃ n : Nat, t.2.2.2 = nI n ∧ n ≤ seN (c_co g) r c) (fun t => 100 - t.2.2.2.toNatClampNeg) ?_ ⟨rfl, rfl, rfl, 0, rfl, Nat.zero_le _⟩
  rintro K44 ⟨s3, y1, y2, y3⟩ ⟨e0, e1, e2, n, e3, hn⟩ ih44
  dsimp only at e0 e1 e2 e3 ih44 ⊢
  subst e0 e1 e2 e3
  unfold wp_X2_sit_44
  have hfn : fn_X2_isNear g s3 (nI r) (nI c) (nI n) = if 0 < fb_ct (neB g s3 r c (nI n)) 9 then 1 else 0 := by
    unfold fn_X2_isNear
    rw [nI_cl (by omega), nI_cl (by omega)]
  have hix : (8 : Int32) * nI r + nI c = nI (8 * r + c) := by rw [show (8 : Int32) = nI 8 from rfl, pk_mul, nI_add]
  rw [hfn, hix, nI_cl (show 8 * r + c < 2 ^ 31 by omega), nI_1, nI_1]
  refine ⟨⟨hR, r, c, rfl, rfl, hr, hc⟩, fun f => ⟨vp_in_nI (by omega) (by decide), ?_⟩, fun f => ?_⟩
  · have hnv : n = seN (c_co g) r c := by
      by_cases h : n < seN (c_co g) r c
      · rw [if_pos (ne_some q3 q4 q2 hr hc hs h)] at f
        exact absurd f (by decide)
      · omega
    rintro y rfl
    rw [hnv]
    exact hK _ (sit_put (by omega) hc q4 hs)
  · have hlt : n < seN (c_co g) r c := by
      by_cases h : n = seN (c_co g) r c
      · rw [h, if_neg (ne_none q3 q4 q2 hr hc hs)] at f
        exact absurd rfl f
      · omega
    rintro y rfl
    refine ih44 _ ⟨rfl, rfl, rfl, n + 1, rfl, by omega⟩ ?_
    dsimp only
    rw [nI_cl (by omega), nI_cl (by omega)]
    omega
theorem sit_34 {g : CS} {σ : MS} {P : Int32 → MS → Prop} {K24 : (MS × Int32) → Prop} {s : MS} {r : Nat} (hR : RM g s) (hm : mono σ s) (hr : r < c_ro g) (hs : sitN g s (r * c_co g)) (hK : ∀ u, RM g u → mono σ u → sitN g u ((r + 1) * c_co g) → K24 (u, nI (r + 1))) : LPX (fun K a => wp_X2_sit_34 g K24 K P a.1 a.2.1 a.2.2) (s, nI r, 0) := by
  have q2 := hR.1.2.2.2.2.2.2.2.2.1
  have q4 := hR.1.2.2.2.2.2.2.2.2.2.2.1
  refine lp_rule (fun t => RM g t.1 ∧ mono σ t.1 ∧ t.2.1 = nI r ∧ ∃ c : Nat, t.2.2 = nI c ∧ c ≤ c_co g ∧ sitN g t.1 (r * c_co g + c)) (fun t => 100 - t.2.2.toNatClampNeg) ?_ ⟨hR, hm, rfl, 0, rfl, Nat.zero_le _, hs⟩
  rintro K34 ⟨s2, y1, y2⟩ ⟨hR2, hm2, e1, c, e2, hc, hs2⟩ ih34
  dsimp only at hR2 hm2 e1 e2 hs2 ih34 ⊢
  subst e1 e2
  unfold wp_X2_sit_34
  have hco : ms_co s2 = nI (c_co g) := hR2.2.2.2.2.2.2.2.2.2.2.1
  rw [hco, nI_leI (by omega) (by omega), nI_1]
  refine ⟨fun d => ?_, fun d => ?_⟩
  · rintro y rfl
    refine hK s2 hR2 hm2 ?_
    rw [Nat.add_mul, Nat.one_mul]
    rw [show c = c_co g by omega] at hs2
    exact hs2
  · refine sit_44 hR2 hr (by omega) hs2 (fun f hf => ?_)
    refine ih34 _ ⟨rm_nu f hR2, mono_nu f hm2, rfl, c + 1, rfl, by omega, hf⟩ ?_
    dsimp only
    rw [nI_cl (by omega), nI_cl (by omega)]
    omega
theorem sit_24 {g : CS} {σ : MS} {P : Int32 → MS → Prop} {s : MS} (hR : RM g s) (hm : mono σ s) (hs : sitN g s (0 * c_co g)) (hP : ∀ u, RM g u → mono σ u → sitN g u (c_ro g * c_co g) → P 0 u) : LPX (fun K a => wp_X2_sit_24 g K P a.1 a.2) (s, 0) := by
  have q2 := hR.1.2.2.2.2.2.2.2.2.1
  refine lp_rule (fun t => RM g t.1 ∧ mono σ t.1 ∧ ∃ r : Nat, t.2 = nI r ∧ r ≤ c_ro g ∧ sitN g t.1 (r * c_co g)) (fun t => 100 - t.2.toNatClampNeg) ?_ ⟨hR, hm, 0, rfl, Nat.zero_le _, hs⟩
  rintro K24 ⟨s1, y1⟩ ⟨hR1, hm1, r, e1, hr, hs1⟩ ih24
  dsimp only at hR1 hm1 e1 hs1 ih24 ⊢
  subst e1
  unfold wp_X2_sit_24
  have hro : ms_ro s1 = nI (c_ro g) := hR1.2.2.2.2.2.2.2.2.2.1
  rw [hro, nI_leI (by omega) (by omega)]
  refine ⟨fun c1 => hP s1 hR1 hm1 (by rw [show c_ro g = r by omega]; exact hs1), fun c1 => ?_⟩
  refine sit_34 hR1 hm1 (by omega) hs1 (fun u hu hmu hsu => ?_)
  refine ih24 _ ⟨hu, hmu, r + 1, rfl, by omega, hsu⟩ ?_
  dsimp only
  rw [nI_cl (by omega), nI_cl (by omega)]
  omega
theorem pu_X2_sit (g : CS) (σ : MS) (hp : pr_X2_sit g σ) : wp_X2_sit g (po_X2_sit g σ) σ := by
  have hR : RM g σ := hp
  have hpo : po_X2_sit g σ = fun r u => RM g u ∧ sitN g u (c_ro g * c_co g) ∧ mono σ u := rfl
  rw [hpo]
  unfold wp_X2_sit
  refine lp_rule (fun t => RM g t.1 ∧ mono σ t.1 ∧ ∃ j : Nat, t.2 = nI j ∧ j ≤ 64 ∧ ∀ i, i < j → ms_nu t.1 i = -9) (fun t => 100 - t.2.toNatClampNeg) ?_ ⟨hR, fun _ h => h, 0, rfl, Nat.zero_le _, fun i hi => absurd hi (Nat.not_lt_zero i)⟩
  rintro K ⟨s, y1⟩ ⟨hRs, hms, j, e1, hj, hall⟩ ih
  dsimp only at hRs hms e1 hall ih ⊢
  subst e1
  unfold wp_X2_sit_2
  have h64 : (64 : Int32) ≤ nI j ↔ 64 ≤ j := nI_leI (a := 64) (by decide) (by omega)
  have hjc : (nI j).toNatClampNeg = j := nI_cl (by omega)
  rw [h64, hjc, nI_1]
  refine ⟨fun c => ?_, fun c => ⟨vp_in_nI (by omega) (by decide), ?_⟩⟩
  · refine sit_24 hRs hms (fun r c h1 h2 => ?_) (fun u hu hm hs => ⟨hu, hs, hm⟩)
    rw [hall _ (by omega), if_neg (fun q => by have := q.2; omega)]
  · rintro y rfl
    refine ih _ ⟨rm_nu _ hRs, mono_nu _ hms, j + 1, rfl, by omega, fun i hi => ?_⟩ ?_
    · show upd (ms_nu s) j (-9) i = -9
      by_cases h : i = j
      · subst h
        exact pk_us
      · rw [pk_un h]
        exact hall i (by omega)
    · dsimp only
      rw [nI_cl (by omega), nI_cl (by omega)]
      omega
