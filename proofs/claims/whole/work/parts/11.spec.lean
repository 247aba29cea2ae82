/-! the core state: scalars (0 kinds, 1 places, 2 lines, 3 rows, 4 columns, 5 base, 6 right, 7 wrong), the kinds' numbers, the plan, what was missed -/
abbrev CS : Type := (Nat → Nat) × (Nat → Nat → Nat) × (Nat → Nat) × (Nat → Nat)
abbrev c_nk (C : CS) : Nat := C.1 0
abbrev c_np (C : CS) : Nat := C.1 1
abbrev c_li (C : CS) : Nat := C.1 2
abbrev c_ro (C : CS) : Nat := C.1 3
abbrev c_co (C : CS) : Nat := C.1 4
abbrev c_ba (C : CS) : Nat := C.1 5
abbrev c_ri (C : CS) : Nat := C.1 6
abbrev c_wr (C : CS) : Nat := C.1 7
abbrev c_q (C : CS) : Nat → Nat → Nat := C.2.1
abbrev c_pn (C : CS) : Nat → Nat := C.2.2.1
abbrev c_mi (C : CS) : Nat → Nat := C.2.2.2
/-- a number of its function changed -/
def qup (q : Nat → Nat) (i v : Nat) : Nat → Nat := fun j => if j = i then v else q j
/-- how many of the first p places are of kind k -/
def ahd (C : CS) (k p : Nat) : Nat := fb_ct (fun i => decide (c_pn C i = k)) p
/-- a kind's numbers: 0 operation, 1 2 a, 3 4 b, 5 6 answers, 7 law, 8 lines, 9 begin, 10 places -/
def cq (C : CS) (j : Nat) : Nat → Nat := fun i => if i = 10 then ahd C j (c_np C) else c_q C j i
abbrev outN (k : Int32) (n : Nat) : Prop := k < 0 ∨ n ≤ k.toNatClampNeg
abbrev irm (x y : Int32) : Int32 := x - x / y * y
/-! sums: the answer, the carry, the slips -/
def ansF (op a b : Int32) : Int32 := if op = 0 then a + b else if op = 1 then (if a < b then -9 else a - b) else if op = 2 then a * b else if b = 0 then -9 else if irm a b = 0 then a / b else -9
def carF (op a b : Int32) : Int32 := if op = 0 then (if irm a 10 + irm b 10 < 10 then 0 else 1) else if op = 1 then (if irm b 10 ≤ irm a 10 then 0 else 1) else 0
def othF (op a b : Int32) : Int32 := if op = 1 then a + b else if op = 2 then a + b else if a < b then -9 else a - b
def absF (x : Int32) : Int32 := if 0 ≤ x then x else 0 - x
def wocF (op a b : Int32) : Int32 := if op = 0 then a + b - 10 else (a / 10 - b / 10) * 10 + absF (irm a 10 - irm b 10)
def excF (r : Int32) : Int32 := if r / 10 < 1 then -9 else if 9 < r / 10 then -9 else if r / 10 = irm r 10 then -9 else irm r 10 * 10 + r / 10
def slpF (op a b s : Int32) : Int32 := if s = 1 then othF op a b else if s = 2 then (if carF op a b = 0 then -9 else wocF op a b) else if s = 3 then ansF op a b + 1 else if s = 4 then (if ansF op a b ≤ 0 then -9 else ansF op a b - 1) else excF (ansF op a b)
def lwF (op law fr tr a b : Int32) : Int32 := if ansF op a b < fr then 0 else if ansF op a b ≤ tr then (if law = 1 then (if carF op a b = 0 then 1 else 0) else if law = 2 then carF op a b else if law = 3 then (if othF op a b = ansF op a b then 0 else 1) else 1) else 0
def tlF (op a b v : Int32) : Int32 := if v = ansF op a b then 0 else if v < 0 then -9 else if slpF op a b 1 = v then 1 else if slpF op a b 2 = v then 2 else if slpF op a b 3 = v then 3 else if slpF op a b 4 = v then 4 else if slpF op a b 5 = v then 5 else -9
/-! variants: n is 100 a + b -/
def PV (q : Nat → Nat) (n : Nat) : Bool := decide (q 1 ≤ n / 100 ∧ n / 100 ≤ q 2 ∧ q 3 ≤ n % 100 ∧ n % 100 ≤ q 4 ∧ lwF (nI (q 0)) (nI (q 7)) (nI (q 5)) (nI (q 6)) (nI (n / 100)) (nI (n % 100)) = 1)
def NV (q : Nat → Nat) : Nat := fb_ct (PV q) 10000
def kth (q : Nat → Nat) (i : Nat) : Nat := fa_first (fun n => PV q n && decide (fb_ct (PV q) n = i)) 10000
def ansV (q : Nat → Nat) (i : Nat) : Int32 := ansF (nI (q 0)) (nI (kth q i / 100)) (nI (kth q i % 100))
def fndV (q : Nat → Nat) (a b : Int32) : Int32 := if a < 0 ∨ 99 < a ∨ b < 0 ∨ 99 < b then -9 else if PV q (100 * a.toNatClampNeg + b.toNatClampNeg) = true then nI (fb_ct (PV q) (100 * a.toNatClampNeg + b.toNatClampNeg)) else -9
/-! what a Kind holds -/
def QOk (q : Nat → Nat) : Prop := q 0 < 4 ∧ q 1 ≤ q 2 ∧ q 2 ≤ 99 ∧ q 3 ≤ q 4 ∧ q 4 ≤ 99 ∧ q 5 ≤ q 6 ∧ q 6 ≤ 9999 ∧ q 7 < 4 ∧ 1 ≤ q 8 ∧ q 8 ≤ 9 ∧ q 9 ≤ 9999 ∧ q 10 ≤ 40
def KR0 (q : Nat → Nat) (κ : KS) : Prop := ks_op κ = nI (q 0) ∧ ks_le κ 0 = nI (q 1) ∧ ks_mo κ 0 = nI (q 2) ∧ ks_le κ 1 = nI (q 3) ∧ ks_mo κ 1 = nI (q 4) ∧ ks_le κ 2 = nI (q 5) ∧ ks_mo κ 2 = nI (q 6) ∧ ks_ru κ 0 = nI (q 7) ∧ ks_ru κ 1 = nI (q 8) ∧ ks_ru κ 2 = nI (q 9) ∧ ks_pl κ = nI (q 10)
def KRc (q : Nat → Nat) (κ : KS) : Prop := ks_co κ = nI (NV q) ∧ ∀ a, q 1 ≤ a → a ≤ q 2 → ks_be κ a = nI (fb_ct (PV q) (100 * a))
def KRR (q : Nat → Nat) (κ : KS) : Prop := KR0 q κ ∧ QOk q ∧ KRc q κ
/-! the static ones -/
def fn_X2_in (v lo hi : Int64) : Int32 := if v < lo then 0 else if hi < v then 0 else 1
def fn_X2_answerOf (op a b : Int32) : Int32 := ansF op a b
def fn_X2_carries (op a b : Int32) : Int32 := carF op a b
def fn_X2_slipOf (op a b s : Int32) : Int32 := if s = 1 then othF op a b else if s = 2 then (if carF op a b = 0 then -9 else if op = 0 then ansF op a b - 10 else 10 * (a / 10 - b / 10) + irm b 10 - irm a 10) else if s = 3 then ansF op a b + 1 else if s = 4 then (if ansF op a b ≤ 0 then -9 else ansF op a b - 1) else if ansF op a b < 10 then -9 else if 99 < ansF op a b then -9 else if ansF op a b / 10 = irm (ansF op a b) 10 then -9 else 10 * irm (ansF op a b) 10 + ansF op a b / 10
def fn_X2_noNumber (z : Int32) : Int32 := if z < 0 then 1 else if 9999 < z then 1 else 0
def fn_X1_isSheet (z : Int32) : Int32 := if z < 0 then 0 else if 9999 < z then 0 else 1
def fn_X0_exchanged (r : Int32) : Int32 := excF r
def fn_X0_isRange (w f t : Int32) : Int32 := if w < 0 then 0 else if 2 < w then 0 else if f < 0 then 0 else if t < f then 0 else if sx_v0 w.toNatClampNeg < t then 0 else 1
def fn_X0_isRule (w v : Int32) : Int32 := if w < 0 then 0 else if 2 < w then 0 else if v < sx_v1 w.toNatClampNeg then 0 else if sx_v2 w.toNatClampNeg < v then 0 else 1
def pr_J9_floorMod_7cf53 (x y : Int32) : Prop := ∃ a d : Nat, y = nI d ∧ 0 < d ∧ d < 2 ^ 30 ∧ a < 2 ^ 30 ∧ (x = nI a ∨ x = 0 - nI a)
def fn_J9_floorMod_7cf53 (x y : Int32) : Int32 := if 0 ≤ (x ^^^ y) then irm x y else if irm x y = 0 then irm x y else irm x y + y
/-! Kind -/
def fn_X0_size (κ : KS) : Int32 := ks_co κ
def fn_X0_linesTaken (κ : KS) : Int32 := ks_ru κ 1
def fn_X0_result (κ : KS) (a b : Int32) : Int32 := ansF (ks_op κ) a b
def fn_X0_carries (κ : KS) (a b : Int32) : Int32 := carF (ks_op κ) a b
def fn_X0_otherOperation (κ : KS) (a b : Int32) : Int32 := othF (ks_op κ) a b
def fn_X0_withoutCarrying (κ : KS) (a b : Int32) : Int32 := wocF (ks_op κ) a b
def fn_X0_slipped (κ : KS) (a b s : Int32) : Int32 := slpF (ks_op κ) a b s
def fn_X0_isLawful (κ : KS) (a b : Int32) : Int32 := lwF (ks_op κ) (ks_ru κ 0) (ks_le κ 2) (ks_mo κ 2) a b
def fn_X0_hasEnoughForTwo (κ : KS) : Int32 := if ks_co κ < 2 * ks_pl κ then 0 else 1
def fn_X0_variantFor (κ : KS) (z t : Int32) : Int32 := if ks_co κ ≤ 0 then -9 else irm (z * ks_pl κ + t + ks_ru κ 2) (ks_co κ)
def pr_X0_countBelow (q : Nat → Nat) (κ : KS) (a e : Int32) : Prop := KR0 q κ ∧ QOk q ∧ (∃ a' : Nat, a = nI a' ∧ q 1 ≤ a' ∧ a' ≤ q 2) ∧ ∃ e' : Nat, e = nI e' ∧ e' ≤ q 4 + 1
def fn_X0_countBelow (q : Nat → Nat) (κ : KS) (a e : Int32) : Int32 := nI (fb_ct (PV q) (100 * a.toNatClampNeg + e.toNatClampNeg) - fb_ct (PV q) (100 * a.toNatClampNeg))
def pr_X0_countAnew (q : Nat → Nat) (κ : KS) : Prop := KR0 q κ ∧ QOk q
def po_X0_countAnew (q : Nat → Nat) (κ : KS) (r : Int32) (u : KS) : Prop := KRR q u
def pr_X0_open (q : Nat → Nat) (κ : KS) (op : Int32) : Prop := KR0 q κ ∧ QOk q ∧ ∃ o : Nat, op = nI o ∧ o < 4
def po_X0_open (q : Nat → Nat) (κ : KS) (op : Int32) (r : Int32) (u : KS) : Prop := KRR (qup q 0 op.toNatClampNeg) u
def pr_X0_setRange (q : Nat → Nat) (κ : KS) (w f t : Int32) : Prop := KR0 q κ ∧ QOk q ∧ ∃ w' f' t' : Nat, w = nI w' ∧ f = nI f' ∧ t = nI t' ∧ w' < 3 ∧ f' ≤ t' ∧ t' ≤ (if w' = 2 then 9999 else 99)
def po_X0_setRange (q : Nat → Nat) (κ : KS) (w f t : Int32) (r : Int32) (u : KS) : Prop := KRR (qup (qup q (1 + 2 * w.toNatClampNeg) f.toNatClampNeg) (2 + 2 * w.toNatClampNeg) t.toNatClampNeg) u
def pr_X0_setRule (q : Nat → Nat) (κ : KS) (w v : Int32) : Prop := KRR q κ ∧ ∃ w' v' : Nat, w = nI w' ∧ v = nI v' ∧ w' < 3 ∧ (w' = 0 → v' < 4) ∧ (w' = 1 → 1 ≤ v' ∧ v' ≤ 9) ∧ (w' = 2 → v' ≤ 9999)
def po_X0_setRule (q : Nat → Nat) (κ : KS) (w v : Int32) (r : Int32) (u : KS) : Prop := r = nI (q (7 + w.toNatClampNeg)) ∧ KRR (qup q (7 + w.toNatClampNeg) v.toNatClampNeg) u
def pr_X0_pairAt (q : Nat → Nat) (κ : KS) (i : Int32) : Prop := KRR q κ ∧ ∃ i' : Nat, i = nI i' ∧ i' < NV q
def fn_X0_pairAt (q : Nat → Nat) (κ : KS) (i : Int32) : Int32 := nI (kth q i.toNatClampNeg)
def pr_X0_numberOf (q : Nat → Nat) (κ : KS) (a b : Int32) : Prop := KRR q κ
def fn_X0_numberOf (q : Nat → Nat) (κ : KS) (a b : Int32) : Int32 := fndV q a b
def pr_X0_slipBehind (q : Nat → Nat) (κ : KS) (i v : Int32) : Prop := KRR q κ ∧ ∃ i' : Nat, i = nI i' ∧ i' < NV q
def fn_X0_slipBehind (q : Nat → Nat) (κ : KS) (i v : Int32) : Int32 := tlF (nI (q 0)) (nI (kth q i.toNatClampNeg / 100)) (nI (kth q i.toNatClampNeg % 100)) v
def po_X0_addPlace (q : Nat → Nat) (κ : KS) (r : Int32) (u : KS) : Prop := r = ks_pl κ ∧ u = ks_s_pl κ (ks_pl κ + 1)
def po_X0_dropPlaces (q : Nat → Nat) (κ : KS) (r : Int32) (u : KS) : Prop := u = ks_s_pl κ 0
/-- places of sheet z whose variant sheet y has too, z - y being d -/
def comN (N m : Nat) (d : Int) : Nat := fb_ct (fun t => decide (((d * m) % N + t) % N < m)) m
def pr_X0_placesInCommon (q : Nat → Nat) (κ : KS) (z y : Int32) : Prop := KRR q κ ∧ ∃ z' y' : Nat, z = nI z' ∧ y = nI y' ∧ z' ≤ 9999 ∧ y' ≤ 9999
def fn_X0_placesInCommon (q : Nat → Nat) (κ : KS) (z y : Int32) : Int32 := if NV q = 0 then 0 else nI (comN (NV q) (q 10) ((z.toNatClampNeg : Int) - (y.toNatClampNeg : Int)))
/-! what a call does to the core -/
def nx_range (C : CS) (k w f t : Int32) : CS := (C.1, fun j => if j = k.toNatClampNeg then qup (qup (c_q C j) (1 + 2 * w.toNatClampNeg) f.toNatClampNeg) (2 + 2 * w.toNatClampNeg) t.toNatClampNeg else c_q C j, C.2.2)
def q00 : Nat → Nat := fun i => if i = 2 then 9 else if i = 4 then 9 else if i = 6 then 9999 else if i = 8 then 1 else 0
def sup (C : CS) (i v : Nat) : CS := (qup C.1 i v, C.2)
def nx_kind (C : CS) (op : Int32) : CS := (qup C.1 0 (c_nk C + 1), fun j => if j = c_nk C then qup (c_q C j) 0 op.toNatClampNeg else c_q C j, C.2.2)
def nx_rule (C : CS) (k w v : Int32) : CS := (C.1, fun j => if j = k.toNatClampNeg then qup (c_q C j) (7 + w.toNatClampNeg) v.toNatClampNeg else c_q C j, C.2.2)
def nx_plan (C : CS) (k n : Int32) : CS := (qup C.1 1 (c_np C + n.toNatClampNeg), C.2.1, fun p => if c_np C ≤ p then k.toNatClampNeg else c_pn C p, C.2.2.2)
def nx_clear (C : CS) : CS := sup C 1 0
def nx_seats (C : CS) (r c : Int32) : CS := (qup (qup C.1 3 r.toNatClampNeg) 4 c.toNatClampNeg, C.2.1, C.2.2.1, fun _ => 0)
/-! the core is one that calls can make -/
def COk (C : CS) : Prop := c_nk C ≤ 8 ∧ (∀ k, k < 8 → QOk (cq C k)) ∧ (∀ k, c_nk C ≤ k → c_q C k = q00) ∧ c_np C ≤ 40 ∧ (∀ p, p < c_np C → c_pn C p < c_nk C) ∧ 9 ≤ c_li C ∧ c_li C ≤ 99 ∧ 1 ≤ c_ro C ∧ c_ro C ≤ 8 ∧ 1 ≤ c_co C ∧ c_co C ≤ 8 ∧ c_ba C ≤ 9000 ∧ fb_sm (c_mi C) 512 ≤ c_wr C ∧ ∀ i, c_nk C ≤ i % 8 → c_mi C i = 0
def RX (C : CS) (σ : XS) : Prop := COk C ∧ xs_kc σ = nI (c_nk C) ∧ (∀ k, k < 8 → KR0 (cq C k) (xs_ki σ k)) ∧ (∀ k, k < c_nk C → KRc (cq C k) (xs_ki σ k)) ∧ xs_pc σ = nI (c_np C) ∧ (∀ p, p < c_np C → xs_pk σ p = nI (c_pn C p) ∧ xs_tu σ p = nI (ahd C (c_pn C p) p)) ∧ xs_li σ = nI (c_li C) ∧ xs_rc σ = nI (c_ro C) ∧ xs_cc σ = nI (c_co C) ∧ xs_bn σ = nI (c_ba C) ∧ (∀ i, i < 512 → xs_mi σ i = nI (c_mi C i)) ∧ xs_rm σ = nI (c_ri C) ∧ xs_wm σ = nI (c_wr C)
/-- what the model's rows of a kind hold -/
def MK (q : Nat → Nat) (k : Nat) (τ : MS) : Prop := ms_op τ k = nI (q 0) ∧ ms_fr τ (3 * k) = nI (q 1) ∧ ms_to τ (3 * k) = nI (q 2) ∧ ms_fr τ (3 * k + 1) = nI (q 3) ∧ ms_to τ (3 * k + 1) = nI (q 4) ∧ ms_fr τ (3 * k + 2) = nI (q 5) ∧ ms_to τ (3 * k + 2) = nI (q 6) ∧ ms_la τ k = nI (q 7) ∧ ms_ta τ k = nI (q 8) ∧ ms_be τ k = nI (q 9)
def told (τ : MS) (k : Nat) : Prop := ms_is τ k = 1
def MKc (q : Nat → Nat) (k : Nat) (τ : MS) : Prop := ms_ma τ k = nI (NV q) ∧ ∀ i, i < NV q → ms_pa τ (10000 * k + i) = nI (kth q i)
/-- unopened kinds: takes 0, the ends 0 (kind() writes them) -/
def MK0 (k : Nat) (τ : MS) : Prop := ms_fr τ (3 * k) = 0 ∧ ms_fr τ (3 * k + 1) = 0 ∧ ms_fr τ (3 * k + 2) = 0 ∧ ms_la τ k = 0 ∧ ms_be τ k = 0 ∧ ms_is τ k = 0
def RM (C : CS) (τ : MS) : Prop := COk C ∧ ms_ki τ = nI (c_nk C) ∧ (∀ k, k < c_nk C → MK (cq C k) k τ) ∧ (∀ k, k < 8 → ms_is τ k = 0 ∨ ms_is τ k = 1) ∧ (∀ k, k < c_nk C → told τ k → MKc (cq C k) k τ) ∧ (∀ k, c_nk C ≤ k → k < 8 → MK0 k τ) ∧ ms_pc τ = nI (c_np C) ∧ (∀ p, p < c_np C → ms_pn τ p = nI (c_pn C p)) ∧ ms_li τ = nI (c_li C) ∧ ms_ro τ = nI (c_ro C) ∧ ms_co τ = nI (c_co C) ∧ ms_ba τ = nI (c_ba C) ∧ (∀ i, i < 512 → ms_mi τ i = nI (c_mi C i)) ∧ ms_ri τ = nI (c_ri C) ∧ ms_wr τ = nI (c_wr C)
/-! the answers -/
def lackN (C : CS) : Nat := fb_ct (fun p => decide (NV (cq C (c_pn C p)) = 0)) (c_np C)
def vrN (C : CS) (z p : Nat) : Nat := (z * ahd C (c_pn C p) (c_np C) + ahd C (c_pn C p) p + c_q C (c_pn C p) 9) % NV (cq C (c_pn C p))
def ansA (C : CS) (z p : Nat) : Int32 := ansV (cq C (c_pn C p)) (vrN C z p)
def whS (C : CS) : Nat → Nat × Nat
  | 0 => (0, 0)
  | p + 1 => if c_li C < (whS C p).2 + c_q C (c_pn C p) 8 then ((whS C p).1 + 1, c_q C (c_pn C p) 8) else ((whS C p).1, (whS C p).2 + c_q C (c_pn C p) 8)
def whN (C : CS) (p : Nat) : Nat := 100 * (whS C (p + 1)).1 + ((whS C (p + 1)).2 - c_q C (c_pn C p) 8)
def cdS (C : CS) (z : Nat) : Nat → Int32
  | 0 => 0
  | p + 1 => cdS C z p + ansA C z p * (nI p + 1)
def shN (C : CS) (z y : Nat) : Nat := fb_ct (fun p => decide (0 < fb_ct (fun r => decide (c_pn C r = c_pn C p) && decide (vrN C y r = vrN C z p)) (c_np C))) (c_np C)
/-- enough of each kind for two sheets -/
def enN (C : CS) : Bool := decide (fb_ct (fun k => decide (NV (cq C k) < 2 * ahd C k (c_np C))) (c_nk C) = 0)
def seN (co r c : Nat) : Nat := r % 2 * min co 2 + c % 2
def noS (C : CS) (s : Int32) : Prop := s < 0 ∨ c_ro C ≤ s.toNatClampNeg / 10 ∨ c_co C ≤ s.toNatClampNeg % 10
abbrev sti (s : Int32) : Nat := 8 * (8 * (s.toNatClampNeg / 10) + s.toNatClampNeg % 10)
abbrev noSd (C : CS) (s : Int32) : Prop := s < 0 ∨ c_ro C ≤ s.toNatClampNeg / 10 ∨ c_co C ≤ s.toNatClampNeg % 10
def miA (C : CS) (s : Nat) : Nat := fb_sm (fun k => c_mi C (s + k)) 8
/-- places of a review of n that go to kind k -/
def rvN (f : Nat → Nat) (all n k : Nat) : Nat := n * f k / all + (if 0 < n * f k % all ∧ fb_ct (fun x => decide (n * f k % all < n * f x % all) || (decide (n * f x % all = n * f k % all) && decide (x < k))) 8 + fb_sm (fun x => n * f x / all) 8 < n then 1 else 0)
def sp_kind (C : CS) (op : Int32) : Int32 := if op < 0 ∨ 3 < op then -2 else if c_nk C = 8 then -4 else nI (c_nk C)
def st_kind (C : CS) (op : Int32) : CS := if op < 0 ∨ 3 < op then C else if c_nk C = 8 then C else nx_kind C op
abbrev badR (w f t : Int32) : Prop := w < 0 ∨ 2 < w ∨ f < 0 ∨ t < f ∨ (if w = 2 then 9999 else 99) < t
def sp_range (C : CS) (k w f t : Int32) : Int32 := if outN k (c_nk C) then -1 else if badR w f t then -2 else nI (NV (cq (nx_range C k w f t) k.toNatClampNeg))
def st_range (C : CS) (k w f t : Int32) : CS := if outN k (c_nk C) then C else if badR w f t then C else nx_range C k w f t
abbrev badL (w v : Int32) : Prop := ¬ ((w = 0 ∧ 0 ≤ v ∧ v ≤ 3) ∨ (w = 1 ∧ 1 ≤ v ∧ v ≤ 9) ∨ (w = 2 ∧ 0 ≤ v ∧ v ≤ 9999))
def sp_rule (C : CS) (k w v : Int32) : Int32 := if outN k (c_nk C) then -1 else if badL w v then -2 else nI (c_q C k.toNatClampNeg (7 + w.toNatClampNeg))
def st_rule (C : CS) (k w v : Int32) : CS := if outN k (c_nk C) then C else if badL w v then C else nx_rule C k w v
def sp_variants (C : CS) (k : Int32) : Int32 := if outN k (c_nk C) then -1 else nI (NV (cq C k.toNatClampNeg))
abbrev noV (C : CS) (k i : Int32) : Prop := outN k (c_nk C) ∨ outN i (NV (cq C k.toNatClampNeg))
abbrev va_a (C : CS) (k i : Int32) : Int32 := nI (kth (cq C k.toNatClampNeg) i.toNatClampNeg / 100)
abbrev va_b (C : CS) (k i : Int32) : Int32 := nI (kth (cq C k.toNatClampNeg) i.toNatClampNeg % 100)
abbrev op_k (C : CS) (k : Int32) : Int32 := nI (c_q C k.toNatClampNeg 0)
def sp_variant (C : CS) (k i w : Int32) : Int32 := if noV C k i then -1 else if w = 0 then va_a C k i else if w = 1 then va_b C k i else if w = 2 then ansF (op_k C k) (va_a C k i) (va_b C k i) else if w = 3 then carF (op_k C k) (va_a C k i) (va_b C k i) else -2
def sp_find (C : CS) (k a b : Int32) : Int32 := if outN k (c_nk C) then -1 else fndV (cq C k.toNatClampNeg) a b
def sp_slip (C : CS) (k i s : Int32) : Int32 := if noV C k i then -1 else if s < 1 ∨ 5 < s then -2 else slpF (op_k C k) (va_a C k i) (va_b C k i) s
def sp_tells (C : CS) (k i v : Int32) : Int32 := if noV C k i then -1 else tlF (op_k C k) (va_a C k i) (va_b C k i) v
def sp_plan (C : CS) (k n : Int32) : Int32 := if outN k (c_nk C) then -1 else if n < 1 ∨ 40 < n then -2 else if 40 < c_np C + n.toNatClampNeg then -4 else nI (c_np C + n.toNatClampNeg)
def st_plan (C : CS) (k n : Int32) : CS := if outN k (c_nk C) then C else if n < 1 ∨ 40 < n then C else if 40 < c_np C + n.toNatClampNeg then C else nx_plan C k n
def sp_clear (C : CS) : Int32 := nI (c_np C)
def sp_placed (C : CS) (p : Int32) : Int32 := if outN p (c_np C) then -1 else nI (c_pn C p.toNatClampNeg)
def sp_lines (C : CS) (n : Int32) : Int32 := if n < 9 ∨ 99 < n then -2 else nI (c_li C)
def st_lines (C : CS) (n : Int32) : CS := if n < 9 ∨ 99 < n then C else sup C 2 n.toNatClampNeg
def sp_pages (C : CS) : Int32 := if c_np C = 0 then 0 else nI (whN C (c_np C - 1) / 100 + 1)
def sp_page (C : CS) (p ln : Int32) : Int32 := if outN p (c_np C) then -1 else if ln = 0 then nI (whN C p.toNatClampNeg / 100) else nI (whN C p.toNatClampNeg % 100)
def sp_sheet (C : CS) (z p : Int32) : Int32 := if outN p (c_np C) then -1 else if z < 0 ∨ 9999 < z then -2 else if 0 < lackN C then -3 else nI (vrN C z.toNatClampNeg p.toNatClampNeg)
def sp_answer (C : CS) (z p : Int32) : Int32 := if outN p (c_np C) then -1 else if z < 0 ∨ 9999 < z then -2 else if 0 < lackN C then -3 else ansA C z.toNatClampNeg p.toNatClampNeg
def sp_code (C : CS) (z : Int32) : Int32 := if z < 0 ∨ 9999 < z then -2 else if 0 < lackN C then -3 else irm (cdS C z.toNatClampNeg (c_np C)) 97
def sp_shared (C : CS) (z y : Int32) : Int32 := if z < 0 ∨ 9999 < z ∨ y < 0 ∨ 9999 < y then -2 else if 0 < lackN C then -3 else nI (shN C z.toNatClampNeg y.toNatClampNeg)
def sp_apart (C : CS) (z : Int32) : Int32 := if z < 0 ∨ 9999 < z then -2 else if 0 < lackN C then -3 else if enN C = true ∧ z < 9999 then z + 1 else -9
abbrev badS (r c : Int32) : Prop := r < 1 ∨ 8 < r ∨ c < 1 ∨ 8 < c
def sp_seats (C : CS) (r c : Int32) : Int32 := if badS r c then -2 else nI (c_ro C * c_co C)
def st_seats (C : CS) (r c : Int32) : CS := if badS r c then C else nx_seats C r c
def sp_base (C : CS) (n : Int32) : Int32 := if n < 0 ∨ 9000 < n then -2 else nI (c_ba C)
def st_base (C : CS) (n : Int32) : CS := if n < 0 ∨ 9000 < n then C else sup C 5 n.toNatClampNeg
abbrev shS (C : CS) (s : Int32) : Nat := c_ba C + seN (c_co C) (s.toNatClampNeg / 10) (s.toNatClampNeg % 10)
def sp_seat (C : CS) (s : Int32) : Int32 := if noSd C s then -1 else nI (shS C s)
def sp_unlike (C : CS) : Int32 := nI (min (c_ro C) 2 * min (c_co C) 2)
abbrev mk_t (C : CS) (s p v : Int32) : Int32 := tlF (nI (c_q C (c_pn C p.toNatClampNeg) 0)) (nI (kth (cq C (c_pn C p.toNatClampNeg)) (vrN C (shS C s) p.toNatClampNeg) / 100)) (nI (kth (cq C (c_pn C p.toNatClampNeg)) (vrN C (shS C s) p.toNatClampNeg) % 100)) v
def sp_mark (C : CS) (s p v : Int32) : Int32 := if noSd C s ∨ outN p (c_np C) then -1 else if 0 < lackN C then -3 else mk_t C s p v
def st_mark (C : CS) (s p v : Int32) : CS := if noSd C s ∨ outN p (c_np C) then C else if 0 < lackN C then C else if mk_t C s p v = 0 then sup C 6 (c_ri C + 1) else (qup C.1 7 (c_wr C + 1), C.2.1, C.2.2.1, qup (c_mi C) (sti s + c_pn C p.toNatClampNeg) (c_mi C (sti s + c_pn C p.toNatClampNeg) + 1))
def sp_missed (C : CS) (s k : Int32) : Int32 := if noSd C s then -1 else if k = -9 then nI (miA C (sti s)) else if outN k (c_nk C) then -1 else nI (c_mi C (sti s + k.toNatClampNeg))
def sp_review (C : CS) (s n k : Int32) : Int32 := if noSd C s ∨ outN k (c_nk C) then -1 else if n < 1 ∨ 60 < n then -2 else if miA C (sti s) = 0 then -3 else nI (rvN (fun x => c_mi C (sti s + x)) (miA C (sti s)) n.toNatClampNeg k.toNatClampNeg)
def sp_all (C : CS) (k : Int32) : Int32 := if outN k (c_nk C) then -1 else nI (fb_sm (fun s => c_mi C (8 * s + k.toNatClampNeg)) 64)
def sp_total (C : CS) (w : Int32) : Int32 := if w = 0 then nI (c_nk C) else if w = 1 then nI (c_np C) else if w = 2 then nI (c_ro C * c_co C) else if w = 3 then nI (c_ri C) else if w = 4 then nI (c_wr C) else -2
def pr_X1_kind (C : CS) (σ : XS) (op : Int32) : Prop := RX C σ
def po_X1_kind (C : CS) (σ : XS) (op : Int32) (r : Int32) (u : XS) : Prop := r = sp_kind C op ∧ RX (st_kind C op) u
def pr_X2_kind (C : CS) (σ : MS) (op : Int32) : Prop := RM C σ
def po_X2_kind (C : CS) (σ : MS) (op : Int32) (r : Int32) (u : MS) : Prop := r = sp_kind C op ∧ RM (st_kind C op) u
def pr_X1_range (C : CS) (σ : XS) (k : Int32) (w : Int32) (f : Int32) (t : Int32) : Prop := RX C σ
def po_X1_range (C : CS) (σ : XS) (k : Int32) (w : Int32) (f : Int32) (t : Int32) (r : Int32) (u : XS) : Prop := r = sp_range C k w f t ∧ RX (st_range C k w f t) u
def pr_X2_range (C : CS) (σ : MS) (k : Int32) (w : Int32) (f : Int32) (t : Int32) : Prop := RM C σ
def po_X2_range (C : CS) (σ : MS) (k : Int32) (w : Int32) (f : Int32) (t : Int32) (r : Int32) (u : MS) : Prop := r = sp_range C k w f t ∧ RM (st_range C k w f t) u
def pr_X1_rule (C : CS) (σ : XS) (k : Int32) (w : Int32) (v : Int32) : Prop := RX C σ
def po_X1_rule (C : CS) (σ : XS) (k : Int32) (w : Int32) (v : Int32) (r : Int32) (u : XS) : Prop := r = sp_rule C k w v ∧ RX (st_rule C k w v) u
def pr_X2_rule (C : CS) (σ : MS) (k : Int32) (w : Int32) (v : Int32) : Prop := RM C σ
def po_X2_rule (C : CS) (σ : MS) (k : Int32) (w : Int32) (v : Int32) (r : Int32) (u : MS) : Prop := r = sp_rule C k w v ∧ RM (st_rule C k w v) u
def pr_X1_variants (C : CS) (σ : XS) (k : Int32) : Prop := RX C σ
def fn_X1_variants (C : CS) (σ : XS) (k : Int32) : Int32 := sp_variants C k
def pr_X2_variants (C : CS) (σ : MS) (k : Int32) : Prop := RM C σ
def po_X2_variants (C : CS) (σ : MS) (k : Int32) (r : Int32) (u : MS) : Prop := r = sp_variants C k ∧ RM C u
def pr_X1_variant (C : CS) (σ : XS) (k : Int32) (i : Int32) (w : Int32) : Prop := RX C σ
def fn_X1_variant (C : CS) (σ : XS) (k : Int32) (i : Int32) (w : Int32) : Int32 := sp_variant C k i w
def pr_X2_variant (C : CS) (σ : MS) (k : Int32) (i : Int32) (w : Int32) : Prop := RM C σ
def po_X2_variant (C : CS) (σ : MS) (k : Int32) (i : Int32) (w : Int32) (r : Int32) (u : MS) : Prop := r = sp_variant C k i w ∧ RM C u
def pr_X1_find (C : CS) (σ : XS) (k : Int32) (a : Int32) (b : Int32) : Prop := RX C σ
def fn_X1_find (C : CS) (σ : XS) (k : Int32) (a : Int32) (b : Int32) : Int32 := sp_find C k a b
def pr_X2_find (C : CS) (σ : MS) (k : Int32) (a : Int32) (b : Int32) : Prop := RM C σ
def po_X2_find (C : CS) (σ : MS) (k : Int32) (a : Int32) (b : Int32) (r : Int32) (u : MS) : Prop := r = sp_find C k a b ∧ RM C u
def pr_X1_slip (C : CS) (σ : XS) (k : Int32) (i : Int32) (s : Int32) : Prop := RX C σ
def fn_X1_slip (C : CS) (σ : XS) (k : Int32) (i : Int32) (s : Int32) : Int32 := sp_slip C k i s
def pr_X2_slip (C : CS) (σ : MS) (k : Int32) (i : Int32) (s : Int32) : Prop := RM C σ
def po_X2_slip (C : CS) (σ : MS) (k : Int32) (i : Int32) (s : Int32) (r : Int32) (u : MS) : Prop := r = sp_slip C k i s ∧ RM C u
def pr_X1_tells (C : CS) (σ : XS) (k : Int32) (i : Int32) (v : Int32) : Prop := RX C σ
def fn_X1_tells (C : CS) (σ : XS) (k : Int32) (i : Int32) (v : Int32) : Int32 := sp_tells C k i v
def pr_X2_tells (C : CS) (σ : MS) (k : Int32) (i : Int32) (v : Int32) : Prop := RM C σ
def po_X2_tells (C : CS) (σ : MS) (k : Int32) (i : Int32) (v : Int32) (r : Int32) (u : MS) : Prop := r = sp_tells C k i v ∧ RM C u
def pr_X1_plan (C : CS) (σ : XS) (k : Int32) (n : Int32) : Prop := RX C σ
def po_X1_plan (C : CS) (σ : XS) (k : Int32) (n : Int32) (r : Int32) (u : XS) : Prop := r = sp_plan C k n ∧ RX (st_plan C k n) u
def pr_X2_plan (C : CS) (σ : MS) (k : Int32) (n : Int32) : Prop := RM C σ
def po_X2_plan (C : CS) (σ : MS) (k : Int32) (n : Int32) (r : Int32) (u : MS) : Prop := r = sp_plan C k n ∧ RM (st_plan C k n) u
def pr_X1_clear (C : CS) (σ : XS) : Prop := RX C σ
def po_X1_clear (C : CS) (σ : XS) (r : Int32) (u : XS) : Prop := r = sp_clear C ∧ RX (nx_clear C) u
def pr_X2_clear (C : CS) (σ : MS) : Prop := RM C σ
def po_X2_clear (C : CS) (σ : MS) (r : Int32) (u : MS) : Prop := r = sp_clear C ∧ RM (nx_clear C) u
def pr_X1_placed (C : CS) (σ : XS) (p : Int32) : Prop := RX C σ
def fn_X1_placed (C : CS) (σ : XS) (p : Int32) : Int32 := sp_placed C p
def pr_X2_placed (C : CS) (σ : MS) (p : Int32) : Prop := RM C σ
def po_X2_placed (C : CS) (σ : MS) (p : Int32) (r : Int32) (u : MS) : Prop := r = sp_placed C p ∧ RM C u
def pr_X1_lines (C : CS) (σ : XS) (n : Int32) : Prop := RX C σ
def po_X1_lines (C : CS) (σ : XS) (n : Int32) (r : Int32) (u : XS) : Prop := r = sp_lines C n ∧ RX (st_lines C n) u
def pr_X2_lines (C : CS) (σ : MS) (n : Int32) : Prop := RM C σ
def po_X2_lines (C : CS) (σ : MS) (n : Int32) (r : Int32) (u : MS) : Prop := r = sp_lines C n ∧ RM (st_lines C n) u
def pr_X1_pages (C : CS) (σ : XS) : Prop := RX C σ
def fn_X1_pages (C : CS) (σ : XS) : Int32 := sp_pages C
def pr_X2_pages (C : CS) (σ : MS) : Prop := RM C σ
def po_X2_pages (C : CS) (σ : MS) (r : Int32) (u : MS) : Prop := r = sp_pages C ∧ RM C u
def pr_X1_page (C : CS) (σ : XS) (p : Int32) (ln : Int32) : Prop := RX C σ
def fn_X1_page (C : CS) (σ : XS) (p : Int32) (ln : Int32) : Int32 := sp_page C p ln
def pr_X2_page (C : CS) (σ : MS) (p : Int32) (ln : Int32) : Prop := RM C σ
def po_X2_page (C : CS) (σ : MS) (p : Int32) (ln : Int32) (r : Int32) (u : MS) : Prop := r = sp_page C p ln ∧ RM C u
def pr_X1_sheet (C : CS) (σ : XS) (z : Int32) (p : Int32) : Prop := RX C σ
def fn_X1_sheet (C : CS) (σ : XS) (z : Int32) (p : Int32) : Int32 := sp_sheet C z p
def pr_X2_sheet (C : CS) (σ : MS) (z : Int32) (p : Int32) : Prop := RM C σ
def po_X2_sheet (C : CS) (σ : MS) (z : Int32) (p : Int32) (r : Int32) (u : MS) : Prop := r = sp_sheet C z p ∧ RM C u
def pr_X1_answer (C : CS) (σ : XS) (z : Int32) (p : Int32) : Prop := RX C σ
def fn_X1_answer (C : CS) (σ : XS) (z : Int32) (p : Int32) : Int32 := sp_answer C z p
def pr_X2_answer (C : CS) (σ : MS) (z : Int32) (p : Int32) : Prop := RM C σ
def po_X2_answer (C : CS) (σ : MS) (z : Int32) (p : Int32) (r : Int32) (u : MS) : Prop := r = sp_answer C z p ∧ RM C u
def pr_X1_code (C : CS) (σ : XS) (z : Int32) : Prop := RX C σ
def fn_X1_code (C : CS) (σ : XS) (z : Int32) : Int32 := sp_code C z
def pr_X2_code (C : CS) (σ : MS) (z : Int32) : Prop := RM C σ
def po_X2_code (C : CS) (σ : MS) (z : Int32) (r : Int32) (u : MS) : Prop := r = sp_code C z ∧ RM C u
def pr_X1_shared (C : CS) (σ : XS) (z : Int32) (y : Int32) : Prop := RX C σ
def fn_X1_shared (C : CS) (σ : XS) (z : Int32) (y : Int32) : Int32 := sp_shared C z y
def pr_X2_shared (C : CS) (σ : MS) (z : Int32) (y : Int32) : Prop := RM C σ
def po_X2_shared (C : CS) (σ : MS) (z : Int32) (y : Int32) (r : Int32) (u : MS) : Prop := r = sp_shared C z y ∧ RM C u
def pr_X1_apart (C : CS) (σ : XS) (z : Int32) : Prop := RX C σ
def fn_X1_apart (C : CS) (σ : XS) (z : Int32) : Int32 := sp_apart C z
def pr_X2_apart (C : CS) (σ : MS) (z : Int32) : Prop := RM C σ
def po_X2_apart (C : CS) (σ : MS) (z : Int32) (r : Int32) (u : MS) : Prop := r = sp_apart C z ∧ RM C u
def pr_X1_seats (C : CS) (σ : XS) (r1 : Int32) (c1 : Int32) : Prop := RX C σ
def po_X1_seats (C : CS) (σ : XS) (r1 : Int32) (c1 : Int32) (r : Int32) (u : XS) : Prop := r = sp_seats C r1 c1 ∧ RX (st_seats C r1 c1) u
def pr_X2_seats (C : CS) (σ : MS) (r1 : Int32) (c1 : Int32) : Prop := RM C σ
def po_X2_seats (C : CS) (σ : MS) (r1 : Int32) (c1 : Int32) (r : Int32) (u : MS) : Prop := r = sp_seats C r1 c1 ∧ RM (st_seats C r1 c1) u
def pr_X1_base (C : CS) (σ : XS) (n : Int32) : Prop := RX C σ
def po_X1_base (C : CS) (σ : XS) (n : Int32) (r : Int32) (u : XS) : Prop := r = sp_base C n ∧ RX (st_base C n) u
def pr_X2_base (C : CS) (σ : MS) (n : Int32) : Prop := RM C σ
def po_X2_base (C : CS) (σ : MS) (n : Int32) (r : Int32) (u : MS) : Prop := r = sp_base C n ∧ RM (st_base C n) u
def pr_X1_seat (C : CS) (σ : XS) (s : Int32) : Prop := RX C σ
def fn_X1_seat (C : CS) (σ : XS) (s : Int32) : Int32 := sp_seat C s
def pr_X2_seat (C : CS) (σ : MS) (s : Int32) : Prop := RM C σ
def po_X2_seat (C : CS) (σ : MS) (s : Int32) (r : Int32) (u : MS) : Prop := r = sp_seat C s ∧ RM C u
def pr_X2_unlike (C : CS) (σ : MS) : Prop := RM C σ
def po_X2_unlike (C : CS) (σ : MS) (r : Int32) (u : MS) : Prop := r = sp_unlike C ∧ RM C u
def pr_X1_mark (C : CS) (σ : XS) (s : Int32) (p : Int32) (v : Int32) : Prop := RX C σ
def po_X1_mark (C : CS) (σ : XS) (s : Int32) (p : Int32) (v : Int32) (r : Int32) (u : XS) : Prop := r = sp_mark C s p v ∧ RX (st_mark C s p v) u
def pr_X2_mark (C : CS) (σ : MS) (s : Int32) (p : Int32) (v : Int32) : Prop := RM C σ
def po_X2_mark (C : CS) (σ : MS) (s : Int32) (p : Int32) (v : Int32) (r : Int32) (u : MS) : Prop := r = sp_mark C s p v ∧ RM (st_mark C s p v) u
def pr_X1_missed (C : CS) (σ : XS) (s : Int32) (k : Int32) : Prop := RX C σ
def fn_X1_missed (C : CS) (σ : XS) (s : Int32) (k : Int32) : Int32 := sp_missed C s k
def pr_X2_missed (C : CS) (σ : MS) (s : Int32) (k : Int32) : Prop := RM C σ
def po_X2_missed (C : CS) (σ : MS) (s : Int32) (k : Int32) (r : Int32) (u : MS) : Prop := r = sp_missed C s k ∧ RM C u
def pr_X1_review (C : CS) (σ : XS) (s : Int32) (n : Int32) (k : Int32) : Prop := RX C σ ∧ c_wr C ≤ 512
def fn_X1_review (C : CS) (σ : XS) (s : Int32) (n : Int32) (k : Int32) : Int32 := sp_review C s n k
def pr_X2_review (C : CS) (σ : MS) (s : Int32) (n : Int32) (k : Int32) : Prop := RM C σ ∧ c_wr C ≤ 512
def po_X2_review (C : CS) (σ : MS) (s : Int32) (n : Int32) (k : Int32) (r : Int32) (u : MS) : Prop := r = sp_review C s n k ∧ RM C u
def pr_X1_all (C : CS) (σ : XS) (k : Int32) : Prop := RX C σ
def fn_X1_all (C : CS) (σ : XS) (k : Int32) : Int32 := sp_all C k
def pr_X2_all (C : CS) (σ : MS) (k : Int32) : Prop := RM C σ
def po_X2_all (C : CS) (σ : MS) (k : Int32) (r : Int32) (u : MS) : Prop := r = sp_all C k ∧ RM C u
def pr_X1_total (C : CS) (σ : XS) (w : Int32) : Prop := RX C σ
def fn_X1_total (C : CS) (σ : XS) (w : Int32) : Int32 := sp_total C w
def pr_X2_total (C : CS) (σ : MS) (w : Int32) : Prop := RM C σ
def po_X2_total (C : CS) (σ : MS) (w : Int32) (r : Int32) (u : MS) : Prop := r = sp_total C w ∧ RM C u
def pr_X1_unlike (C : CS) (σ : XS) : Prop := RX C σ
def fn_X1_unlike (C : CS) (σ : XS) : Int32 := sp_unlike C
/-! the class's own helpers -/
def fn_X1_isKind (σ : XS) (k : Int32) : Int32 := if k < 0 then 0 else if xs_kc σ ≤ k then 0 else 1
def fn_X1_isPlace (σ : XS) (p : Int32) : Int32 := if p < 0 then 0 else if xs_pc σ ≤ p then 0 else 1
def fn_X1_isSeat (σ : XS) (s : Int32) : Int32 := if s < 0 then 0 else if xs_rc σ ≤ s / 10 then 0 else if xs_cc σ ≤ irm s 10 then 0 else 1
def fn_X1_sheetAt (σ : XS) (s : Int32) : Int32 := xs_bn σ + irm (s / 10) 2 * (if 2 < xs_cc σ then 2 else xs_cc σ) + irm (irm s 10) 2
def fn_X1_missesFrom (σ : XS) (s : Int32) : Int32 := (s / 10 * 8 + irm s 10) * 8
def pr_X1_isVariant (C : CS) (σ : XS) (k i : Int32) : Prop := RX C σ
def fn_X1_isVariant (C : CS) (σ : XS) (k i : Int32) : Int32 := if noV C k i then 0 else 1
def pr_X1_pageAndLine (C : CS) (σ : XS) (p : Int32) : Prop := RX C σ ∧ vp_in p (c_np C)
def fn_X1_pageAndLine (C : CS) (σ : XS) (p : Int32) : Int32 := nI (whN C p.toNatClampNeg)
def pr_X1_lacksVariants (C : CS) (σ : XS) : Prop := RX C σ
def fn_X1_lacksVariants (C : CS) (σ : XS) : Int32 := if 0 < lackN C then 1 else 0
def pr_X1_sheetRefusal (C : CS) (σ : XS) (z : Int32) : Prop := RX C σ
def fn_X1_sheetRefusal (C : CS) (σ : XS) (z : Int32) : Int32 := if z < 0 ∨ 9999 < z then -2 else if 0 < lackN C then -3 else 0
def pr_X1_placeRefusal (C : CS) (σ : XS) (z p : Int32) : Prop := RX C σ
def fn_X1_placeRefusal (C : CS) (σ : XS) (z p : Int32) : Int32 := if outN p (c_np C) then -1 else if z < 0 ∨ 9999 < z then -2 else if 0 < lackN C then -3 else 0
def pr_X1_variantOn (C : CS) (σ : XS) (z p : Int32) : Prop := RX C σ ∧ vp_in p (c_np C) ∧ vp_in z 10000 ∧ lackN C = 0
def fn_X1_variantOn (C : CS) (σ : XS) (z p : Int32) : Int32 := nI (vrN C z.toNatClampNeg p.toNatClampNeg)
def pr_X1_answerOn (C : CS) (σ : XS) (z p : Int32) : Prop := RX C σ ∧ vp_in p (c_np C) ∧ vp_in z 10000 ∧ lackN C = 0
def fn_X1_answerOn (C : CS) (σ : XS) (z p : Int32) : Int32 := ansA C z.toNatClampNeg p.toNatClampNeg
def pr_X1_missesAt (C : CS) (σ : XS) (s : Int32) : Prop := RX C σ ∧ ¬ noSd C s
def fn_X1_missesAt (C : CS) (σ : XS) (s : Int32) : Int32 := nI (miA C (sti s))
def pr_X1_reviewPlaces (C : CS) (σ : XS) (s n k : Int32) : Prop := RX C σ ∧ c_wr C ≤ 512 ∧ ¬ noSd C s ∧ ¬ outN k (c_nk C) ∧ ¬ (n < 1 ∨ 60 < n)
def fn_X1_reviewPlaces (C : CS) (σ : XS) (s n k : Int32) : Int32 := if miA C (sti s) = 0 then -3 else nI (rvN (fun x => c_mi C (sti s + x)) (miA C (sti s)) n.toNatClampNeg k.toNatClampNeg)
/-! the model's own helpers -/
def fn_X2_noKind (τ : MS) (k : Int32) : Int32 := if fn_X2_in k.toInt64 0 ((ms_ki τ - 1).toInt64) = 0 then 1 else 0
def fn_X2_noPlace (τ : MS) (p : Int32) : Int32 := if fn_X2_in p.toInt64 0 ((ms_pc τ - 1).toInt64) = 0 then 1 else 0
def fn_X2_noSeat (τ : MS) (s : Int32) : Int32 := if s < 0 then 1 else if ms_ro τ ≤ s / 10 then 1 else if irm s 10 < ms_co τ then 0 else 1
def pr_X2_holds (C : CS) (τ : MS) (k a b : Int32) : Prop := RM C τ ∧ ¬ outN k (c_nk C) ∧ ∃ a' b' : Nat, a = nI a' ∧ b = nI b' ∧ a' ≤ 99 ∧ b' ≤ 99
def fn_X2_holds (τ : MS) (k a b : Int32) : Int32 := lwF (ms_op τ k.toNatClampNeg) (ms_la τ k.toNatClampNeg) (ms_fr τ (3 * k.toNatClampNeg + 2)) (ms_to τ (3 * k.toNatClampNeg + 2)) a b
def pr_X2_pairOf (C : CS) (τ : MS) (k i : Int32) : Prop := vp_in k 8 ∧ vp_in i 10000
def fn_X2_pairOf (τ : MS) (k i : Int32) : Int32 := ms_pa τ (10000 * k.toNatClampNeg + i.toNatClampNeg)
def mono (τ u : MS) : Prop := ∀ j, told τ j → told u j
def pr_X2_tell (C : CS) (τ : MS) (k : Int32) : Prop := RM C τ ∧ ¬ outN k (c_nk C)
def po_X2_tell (C : CS) (τ : MS) (k : Int32) (r : Int32) (u : MS) : Prop := r = nI (NV (cq C k.toNatClampNeg)) ∧ RM C u ∧ told u k.toNatClampNeg ∧ mono τ u
def pr_X2_noVariant (C : CS) (τ : MS) (k i : Int32) : Prop := RM C τ
def po_X2_noVariant (C : CS) (τ : MS) (k i : Int32) (r : Int32) (u : MS) : Prop := RM C u ∧ ((noV C k i ∧ r = 1) ∨ (¬ noV C k i ∧ r = 0 ∧ told u k.toNatClampNeg))
def atV (C : CS) (τ : MS) (k i : Int32) : Prop := RM C τ ∧ ¬ noV C k i ∧ told τ k.toNatClampNeg
def pr_X2_slipAt (C : CS) (τ : MS) (k i s : Int32) : Prop := atV C τ k i
def fn_X2_slipAt (C : CS) (τ : MS) (k i s : Int32) : Int32 := slpF (op_k C k) (va_a C k i) (va_b C k i) s
def pr_X2_rightAt (C : CS) (τ : MS) (k i : Int32) : Prop := atV C τ k i
def fn_X2_rightAt (C : CS) (τ : MS) (k i : Int32) : Int32 := ansF (op_k C k) (va_a C k i) (va_b C k i)
def pr_X2_tellsOf (C : CS) (τ : MS) (k i v : Int32) : Prop := atV C τ k i
def fn_X2_tellsOf (C : CS) (τ : MS) (k i v : Int32) : Int32 := tlF (op_k C k) (va_a C k i) (va_b C k i) v
def pr_X2_where (C : CS) (τ : MS) (p : Int32) : Prop := RM C τ ∧ vp_in p (c_np C)
def fn_X2_where (C : CS) (τ : MS) (p : Int32) : Int32 := nI (whN C p.toNatClampNeg)
def pr_X2_ahead (C : CS) (τ : MS) (k p : Int32) : Prop := RM C τ ∧ ∃ k' p' : Nat, k = nI k' ∧ p = nI p' ∧ k' < 2 ^ 31 ∧ p' ≤ c_np C
def fn_X2_ahead (C : CS) (τ : MS) (k p : Int32) : Int32 := nI (ahd C k.toNatClampNeg p.toNatClampNeg)
def pr_X2_missedOf (C : CS) (τ : MS) (s k : Int32) : Prop := RM C τ ∧ ¬ noSd C s ∧ (k = -9 ∨ ∃ k' : Nat, k = nI k' ∧ k' < 8)
def fn_X2_missedOf (C : CS) (τ : MS) (s k : Int32) : Int32 := if k = -9 then nI (miA C (sti s)) else nI (c_mi C (sti s + k.toNatClampNeg))
def pr_X2_noSheet (C : CS) (τ : MS) : Prop := RM C τ
def po_X2_noSheet (C : CS) (τ : MS) (r : Int32) (u : MS) : Prop := r = (if 0 < lackN C then 1 else 0) ∧ RM C u ∧ (lackN C = 0 → ∀ p, p < c_np C → told u (c_pn C p)) ∧ mono τ u
def shOk (C : CS) (τ : MS) (z p : Int32) : Prop := RM C τ ∧ vp_in p (c_np C) ∧ vp_in z 10000 ∧ lackN C = 0
def pr_X2_variantAt (C : CS) (τ : MS) (z p : Int32) : Prop := shOk C τ z p
def po_X2_variantAt (C : CS) (τ : MS) (z p : Int32) (r : Int32) (u : MS) : Prop := r = nI (vrN C z.toNatClampNeg p.toNatClampNeg) ∧ RM C u ∧ told u (c_pn C p.toNatClampNeg) ∧ mono τ u
def pr_X2_answerAt (C : CS) (τ : MS) (z p : Int32) : Prop := shOk C τ z p
def po_X2_answerAt (C : CS) (τ : MS) (z p : Int32) (r : Int32) (u : MS) : Prop := r = ansA C z.toNatClampNeg p.toNatClampNeg ∧ RM C u ∧ mono τ u
/-- sheets that are d apart share nothing -/
def apN (C : CS) (d : Nat) : Bool := decide (fb_ct (fun k => decide (0 < ahd C k (c_np C) ∧ ¬ (ahd C k (c_np C) ≤ d * ahd C k (c_np C) % NV (cq C k) ∧ ahd C k (c_np C) ≤ NV (cq C k) - d * ahd C k (c_np C) % NV (cq C k)))) (c_nk C) = 0)
def pr_X2_isApart (C : CS) (τ : MS) (z y : Int32) : Prop := RM C τ ∧ lackN C = 0 ∧ ∃ z' d : Nat, z = nI z' ∧ y = nI (z' + d) ∧ 0 < d ∧ z' + d ≤ 9999
def po_X2_isApart (C : CS) (τ : MS) (z y : Int32) (r : Int32) (u : MS) : Prop := r = (if apN C (y.toNatClampNeg - z.toNatClampNeg) = true then 1 else 0) ∧ RM C u
/-- which numbers stand: those of the first n seats, row by row -/
def sitN (C : CS) (τ : MS) (n : Nat) : Prop := ∀ r c, r < 8 → c < 8 → ms_nu τ (8 * r + c) = if c < c_co C ∧ r * c_co C + c < n then nI (seN (c_co C) r c) else -9
/-- one of the eight around, that stands, has the number v -/
def neB (C : CS) (τ : MS) (r c : Nat) (v : Int32) (t : Nat) : Bool := decide (1 ≤ r + t / 3 ∧ r + t / 3 ≤ c_ro C ∧ 1 ≤ c + t % 3 ∧ c + t % 3 ≤ c_co C ∧ t ≠ 4 ∧ ms_nu τ (8 * (r + t / 3 - 1) + (c + t % 3 - 1)) = v)
def pr_X2_isNear (C : CS) (τ : MS) (r c v : Int32) : Prop := RM C τ ∧ ∃ r' c' : Nat, r = nI r' ∧ c = nI c' ∧ r' < c_ro C ∧ c' < c_co C
def fn_X2_isNear (C : CS) (τ : MS) (r c v : Int32) : Int32 := if 0 < fb_ct (neB C τ r.toNatClampNeg c.toNatClampNeg v) 9 then 1 else 0
def pr_X2_sit (C : CS) (τ : MS) : Prop := RM C τ
def po_X2_sit (C : CS) (τ : MS) (r : Int32) (u : MS) : Prop := RM C u ∧ sitN C u (c_ro C * c_co C) ∧ mono τ u
def pr_X2_sheetOf (C : CS) (τ : MS) (s : Int32) : Prop := RM C τ ∧ ¬ noSd C s
def po_X2_sheetOf (C : CS) (τ : MS) (s : Int32) (r : Int32) (u : MS) : Prop := r = nI (shS C s) ∧ RM C u ∧ mono τ u

