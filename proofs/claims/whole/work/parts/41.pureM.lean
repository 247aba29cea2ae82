/-! slips: the two ways to tell them agree on numbers 0 .. 99 -/
theorem ans_nat {o a b : Nat} (ho : o < 4) (ha : a ≤ 99) (hb : b ≤ 99) : ansF (nI o) (nI a) (nI b) = -9 ∨ ∃ n : Nat, n ≤ 9801 ∧ ansF (nI o) (nI a) (nI b) = nI n := by
  unfold ansF
  rcases (show o = 0 ∨ o = 1 ∨ o = 2 ∨ o = 3 by omega) with rfl | rfl | rfl | rfl
  · right
    exact ⟨a + b, by omega, by rw [if_pos (by decide), nI_add]⟩
  · rw [if_neg (by decide), if_pos (by decide)]
    by_cases h : nI a < nI b
    · left; rw [if_pos h]
    · right
      rw [nI_ltI (by omega) (by omega)] at h
      refine ⟨a - b, by omega, ?_⟩
      rw [if_neg (fun q => h ((nI_ltI (by omega) (by omega)).mp q)), pk_sub (by omega)]
  · right
    refine ⟨a * b, Nat.mul_le_mul ha hb, ?_⟩
    rw [if_neg (by decide), if_neg (by decide), if_pos (by decide), pk_mul]
  · rw [if_neg (by decide), if_neg (by decide), if_neg (by decide)]
    by_cases h : nI b = 0
    · left; rw [if_pos h]
    · rw [if_neg h]
      by_cases h2 : irm (nI a) (nI b) = 0
      · right
        have hb0 : 0 < b := by
          rcases Nat.eq_zero_or_pos b with q | q
          · rw [q] at h; exact absurd rfl h
          · exact q
        refine ⟨a / b, Nat.le_trans (Nat.div_le_self a b) (by omega), ?_⟩
        rw [if_pos h2, pk_div (by omega) hb0 (by omega)]
      · left; rw [if_neg h2]
theorem m9_ne {n : Nat} (h : n < 2 ^ 31) : (-9 : Int32) ≠ nI n := by
  intro q
  rw [fa_eq, nI_toInt h] at q
  have e : (-9 : Int32).toInt = -9 := rfl
  omega
theorem exc_eq {n : Nat} (hn : n ≤ 9801) : excF (nI n) = if nI n < 10 then -9 else if 99 < nI n then -9 else if nI n / 10 = irm (nI n) 10 then -9 else 10 * irm (nI n) 10 + nI n / 10 := by
  have e1 : nI n / 10 = nI (n / 10) := pk_div (by omega) (by decide) (by decide)
  have e2 : irm (nI n) 10 = nI (n % 10) := pk_rem (by omega) (by decide) (by decide)
  unfold excF
  rw [e1, e2]
  have a1 : nI (n / 10) < 1 ↔ n / 10 < 1 := nI_ltI (b := 1) (by omega) (by decide)
  have a2 : (9 : Int32) < nI (n / 10) ↔ 9 < n / 10 := nI_ltI (a := 9) (by decide) (by omega)
  have b1 : nI n < 10 ↔ n < 10 := nI_ltI (b := 10) (by omega) (by decide)
  have b2 : (99 : Int32) < nI n ↔ 99 < n := nI_ltI (a := 99) (by decide) (by omega)
  by_cases h1 : n < 10
  · rw [if_pos (a1.mpr (by omega)), if_pos (b1.mpr h1)]
  rw [if_neg (fun q => h1 (by have := a1.mp q; omega)), if_neg (fun q => h1 (b1.mp q))]
  by_cases h2 : 99 < n
  · rw [if_pos (a2.mpr (by omega)), if_pos (b2.mpr h2)]
  rw [if_neg (fun q => h2 (by have := a2.mp q; omega)), if_neg (fun q => h2 (b2.mp q))]
  by_cases h3 : nI (n / 10) = nI (n % 10)
  · rw [if_pos h3, if_pos h3]
  · rw [if_neg h3, if_neg h3, Int32.mul_comm]
theorem exc_m9 : excF (-9) = -9 := by decide
/-- with a carry: which operation it is, and the ones -/
theorem car_ne {o a b : Nat} (ho : o < 4) (ha : a ≤ 99) (hb : b ≤ 99) (h : ¬ carF (nI o) (nI a) (nI b) = 0) : o = 0 ∨ (o = 1 ∧ a % 10 < b % 10) := by
  have e1 : irm (nI a) 10 = nI (a % 10) := pk_rem (by omega) (by decide) (by decide)
  have e2 : irm (nI b) 10 = nI (b % 10) := pk_rem (by omega) (by decide) (by decide)
  unfold carF at h
  rcases (show o = 0 ∨ o = 1 ∨ o = 2 ∨ o = 3 by omega) with rfl | rfl | rfl | rfl
  · exact Or.inl rfl
  · right
    refine ⟨rfl, ?_⟩
    rw [if_neg (by decide), if_pos (by decide), e1, e2] at h
    by_cases h2 : nI (b % 10) ≤ nI (a % 10)
    · rw [if_pos h2] at h; exact absurd rfl h
    · rw [nI_leI (by omega) (by omega)] at h2
      omega
  · rw [if_neg (by decide), if_neg (by decide)] at h; exact absurd rfl h
  · rw [if_neg (by decide), if_neg (by decide)] at h; exact absurd rfl h
theorem woc_1 {a b : Nat} (ha : a ≤ 99) (hb : b ≤ 99) (h : a % 10 < b % 10) : wocF (nI 1) (nI a) (nI b) = (nI (a / 10) - nI (b / 10)) * 10 + nI (b % 10 - a % 10) := by
  have e1 : irm (nI a) 10 = nI (a % 10) := pk_rem (by omega) (by decide) (by decide)
  have e2 : irm (nI b) 10 = nI (b % 10) := pk_rem (by omega) (by decide) (by decide)
  have e3 : nI a / 10 = nI (a / 10) := pk_div (by omega) (by decide) (by decide)
  have e4 : nI b / 10 = nI (b / 10) := pk_div (by omega) (by decide) (by decide)
  unfold wocF absF
  rw [if_neg (by decide), e1, e2, e3, e4]
  have hneg := pk_sneg (a := a % 10) (b := b % 10) (by omega) h
  rw [if_neg]
  · congr 1
    rw [← pk_sub (by omega)]
    simp
  · intro q
    rw [fa_le] at q
    rw [fa_lt] at hneg
    omega
theorem slip_eq {o a b : Nat} (ho : o < 4) (ha : a ≤ 99) (hb : b ≤ 99) (s : Int32) : fn_X2_slipOf (nI o) (nI a) (nI b) s = slpF (nI o) (nI a) (nI b) s := by
  unfold fn_X2_slipOf slpF
  by_cases h1 : s = 1
  · rw [if_pos h1, if_pos h1]
  rw [if_neg h1, if_neg h1]
  by_cases h2 : s = 2
  · rw [if_pos h2, if_pos h2]
    by_cases hc : carF (nI o) (nI a) (nI b) = 0
    · rw [if_pos hc, if_pos hc]
    · rw [if_neg hc, if_neg hc]
      rcases car_ne ho ha hb hc with rfl | ⟨rfl, hlt⟩
      · rw [if_pos (by decide)]
        unfold ansF wocF
        rw [if_pos (by decide), if_pos (by decide)]
      · rw [if_neg (by decide), woc_1 ha hb hlt]
        have e1 : irm (nI a) 10 = nI (a % 10) := pk_rem (by omega) (by decide) (by decide)
        have e2 : irm (nI b) 10 = nI (b % 10) := pk_rem (by omega) (by decide) (by decide)
        have e3 : nI a / 10 = nI (a / 10) := pk_div (by omega) (by decide) (by decide)
        have e4 : nI b / 10 = nI (b / 10) := pk_div (by omega) (by decide) (by decide)
        rw [e1, e2, e3, e4, ← pk_sub (show a % 10 ≤ b % 10 by omega), Int32.mul_comm]
        simp only [Int32.sub_eq_add_neg, Int32.add_assoc]
  rw [if_neg h2, if_neg h2]
  by_cases h3 : s = 3
  · rw [if_pos h3, if_pos h3]
  rw [if_neg h3, if_neg h3]
  by_cases h4 : s = 4
  · rw [if_pos h4, if_pos h4]
  rw [if_neg h4, if_neg h4]
  rcases ans_nat ho ha hb with e | ⟨n, hn, e⟩
  · rw [e]; decide
  · rw [e]; exact (exc_eq hn).symm
/-- slips 2 to 5 never tell the right answer -/
theorem slip_ne {o a b n : Nat} (ho : o < 4) (ha : a ≤ 99) (hb : b ≤ 99) (hn : n ≤ 9801) (e : ansF (nI o) (nI a) (nI b) = nI n) : slpF (nI o) (nI a) (nI b) 2 ≠ nI n ∧ slpF (nI o) (nI a) (nI b) 3 ≠ nI n ∧ slpF (nI o) (nI a) (nI b) 4 ≠ nI n ∧ slpF (nI o) (nI a) (nI b) 5 ≠ nI n := by
  have m9 := m9_ne (n := n) (by omega)
  refine ⟨?_, ?_, ?_, ?_⟩
  · unfold slpF
    rw [if_neg (by decide), if_pos (by decide)]
    by_cases hc : carF (nI o) (nI a) (nI b) = 0
    · rw [if_pos hc]; exact m9
    · rw [if_neg hc]
      rcases car_ne ho ha hb hc with rfl | ⟨rfl, hlt⟩
      · unfold ansF at e
        rw [if_pos (by decide), nI_add] at e
        unfold wocF
        rw [if_pos (by decide), nI_add, e]
        intro q
        have h2 : (nI n - 10).toInt = (n : Int) - 10 := pk_sub_toInt (a := n) (b := 10) (by omega) (by decide)
        rw [fa_eq, h2, nI_toInt (by omega)] at q
        omega
      · rw [woc_1 ha hb hlt]
        unfold ansF at e
        rw [if_neg (by decide), if_pos (by decide)] at e
        by_cases hab : nI a < nI b
        · rw [if_pos hab] at e; exact absurd e m9
        · rw [if_neg hab] at e
          rw [nI_ltI (by omega) (by omega)] at hab
          rw [pk_sub (by omega), nI_eq (by omega) (by omega)] at e
          have hd : b / 10 ≤ a / 10 := by omega
          rw [pk_sub hd, show (10 : Int32) = nI 10 from rfl, pk_mul, nI_add]
          intro q
          rw [nI_eq (by omega) (by omega)] at q
          omega
  · unfold slpF
    rw [if_neg (by decide), if_neg (by decide), if_pos (by decide), e, nI_1]
    intro q
    rw [nI_eq (by omega) (by omega)] at q
    omega
  · unfold slpF
    rw [if_neg (by decide), if_neg (by decide), if_neg (by decide), if_pos (by decide), e]
    by_cases h : nI n ≤ 0
    · rw [if_pos h]; exact m9
    · rw [if_neg h]
      have hn0 : 0 < n := by
        rcases Nat.eq_zero_or_pos n with q | q
        · rw [q] at h; exact absurd (by decide) h
        · exact q
      have e1 : nI n - 1 = nI (n - 1) := pk_sub (a := n) (b := 1) (by omega)
      rw [e1]
      intro q
      rw [nI_eq (by omega) (by omega)] at q
      omega
  · unfold slpF
    rw [if_neg (by decide), if_neg (by decide), if_neg (by decide), if_neg (by decide), e]
    have e1 : nI n / 10 = nI (n / 10) := pk_div (by omega) (by decide) (by decide)
    have e2 : irm (nI n) 10 = nI (n % 10) := pk_rem (by omega) (by decide) (by decide)
    unfold excF
    rw [e1, e2]
    repeat' split
    · exact m9
    · exact m9
    · exact m9
    · rename_i h1 h2 h3
      rw [show (10 : Int32) = nI 10 from rfl, pk_mul, nI_add]
      rw [nI_eq (by omega) (by omega)] at h3
      intro q
      rw [nI_eq (by omega) (by omega)] at q
      omega
