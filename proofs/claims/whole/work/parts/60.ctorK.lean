/-- what a constructor may change: its object, and new cells -/
def AI (h0 sz : Nat) : Nat → Prop := fun q => q = h0 ∨ sz ≤ q
def CIPre (D : va_G) (cc : Nat → ClassId) (ws : va_W) (h0 sz : Nat) : Array Value → State → Prop := va_Pc [.ref h0] (fun U => U.heap.size = sz ∧ va_P D vwCl ws U.heap ∧ va_K D vwCl (TY cc) U ∧ va_AO RX0 U)
theorem one_ix {x : Nat × va_E} {i j : Nat} {p q : Nat × va_E} (hi : [x][i]? = some p) (hj : [x][j]? = some q) : i = j := by
  have h1 := (List.getElem?_eq_some_iff.mp hi).1
  have h2 := (List.getElem?_eq_some_iff.mp hj).1
  simp at h1 h2
  omega
theorem one_ad {h0 : Nat} {y : va_E} {k : Nat} {q : Nat × va_E} (hk : [(h0, y)][k]? = some q) : q.1 = h0 := by
  have h1 := (List.getElem?_eq_some_iff.mp hk).1
  have h2 : k = 0 := by simp at h1; omega
  subst h2
  cases hk
  rfl
theorem ca_int {D : va_G} {cc : Nat → ClassId} {cA : ClassId} {s : State} (h : va_K D vwCl (TY cc ++ [(cA, .int)]) s) : cA = cc 0 := by
  have h1 : s.vm.findClass _ = some (cc 0) := (h.2 0 (cc 0, .int) rfl).2
  have h2 : s.vm.findClass _ = some cA := (h.2 4 (cA, .int) rfl).2
  exact Option.some.inj (h2.symm.trans h1)
theorem ca_boo {D : va_G} {cc : Nat → ClassId} {cA : ClassId} {s : State} (h : va_K D vwCl (TY cc ++ [(cA, .boolean)]) s) : cA = cc 2 := by
  have h1 : s.vm.findClass _ = some (cc 2) := (h.2 2 (cc 2, .boolean) rfl).2
  have h2 : s.vm.findClass _ = some cA := (h.2 4 (cA, .boolean) rfl).2
  exact Option.some.inj (h2.symm.trans h1)
theorem ca_sho {D : va_G} {cc : Nat → ClassId} {cA : ClassId} {s : State} (h : va_K D vwCl (TY cc ++ [(cA, .short)]) s) : cA = cc 3 := by
  have h1 : s.vm.findClass _ = some (cc 3) := (h.2 3 (cc 3, .short) rfl).2
  have h2 : s.vm.findClass _ = some cA := (h.2 4 (cA, .short) rfl).2
  exact Option.some.inj (h2.symm.trans h1)
theorem ca_obj {D : va_G} {cc : Nat → ClassId} {cA : ClassId} {s : State} (h : va_K D vwCl (TY cc ++ [(cA, .object RX0)]) s) : cA = cc 1 := by
  obtain ⟨_, _, _, _, _, h1⟩ := (h.2 1 (cc 1, .object RX0) rfl).2
  obtain ⟨_, _, _, _, _, h2⟩ := (h.2 4 (cA, .object RX0) rfl).2
  exact Option.some.inj (h2.symm.trans h1)
def ad5 (h0 q1 q2 q3 q4 : Nat) : Nat → Nat := fun i => match i with
  | 0 => h0
  | 1 => q1
  | 2 => q2
  | 3 => q3
  | _ => q4
def ad13 (h0 q1 q2 q3 q4 q5 q6 q7 q8 q9 q10 q11 q12 : Nat) : Nat → Nat := fun i => match i with
  | 0 => h0
  | 1 => q1
  | 2 => q2
  | 3 => q3
  | 4 => q4
  | 5 => q5
  | 6 => q6
  | 7 => q7
  | 8 => q8
  | 9 => q9
  | 10 => q10
  | 11 => q11
  | _ => q12
theorem da_of {A : Nat → Prop} {ws : va_W} {n : Nat} {ad : Nat → Nat} (hm : ws.map Prod.fst = (List.range n).map ad) (hD : va_D A ws) : DA n ad A := by
  have key : ∀ k, k < n → ∃ q, ws[k]? = some q ∧ q.1 = ad k := by
    intro k hk
    have h1 : (ws.map Prod.fst)[k]? = some (ad k) := by rw [hm, List.getElem?_map, List.getElem?_range hk]; rfl
    rw [List.getElem?_map] at h1
    cases hq : ws[k]? with
    | none => rw [hq] at h1; cases h1
    | some q => rw [hq] at h1; exact ⟨q, rfl, Option.some.inj h1⟩
  refine ⟨fun i j hi hj hij => ?_, fun i hi => ?_⟩
  · obtain ⟨p, h1, h2⟩ := key i hi
    obtain ⟨q, h3, h4⟩ := key j hj
    exact hD.1 i j p q h1 h3 (by rw [h2, h4, hij])
  · obtain ⟨p, h1, h2⟩ := key i hi
    rw [← h2]
    exact hD.2 i p h1

def kap0 : KS := (0, (upd (upd (upd (fun _ => 0) (0 : Int32).toNatClampNeg 0) (1 : Int32).toNatClampNeg 0) (2 : Int32).toNatClampNeg 0), (upd (upd (upd (fun _ => 0) (0 : Int32).toNatClampNeg 9) (1 : Int32).toNatClampNeg 9) (2 : Int32).toNatClampNeg 9999), (upd (upd (upd (fun _ => 0) (0 : Int32).toNatClampNeg 0) (1 : Int32).toNatClampNeg 1) (2 : Int32).toNatClampNeg 0), (fun _ => 0), 0, 0)
set_option maxHeartbeats 4000000 in
set_option maxRecDepth 100000 in
theorem ci_X0_init (l : Launch) (D : va_G) (cc : Nat → ClassId) (h0 sz : Nat) : Met l yX0_init wsX0_init { frames := 1, cells := 4, slots := 109, locals := 12 } (CIPre D cc [(h0, .inr (0, [.int 0, .null, .null, .null, .null, .int 0, .int 0]))] h0 sz) (va_Qv (fun a : Nat → Nat => a 0 = h0 ∧ DA 5 a (AI h0 sz)) (fun a t => va_P D vwCl (KW cc a kap0) t.heap) (AI h0 sz)) 4 109 (AI h0 sz) := by
  refine Met.ofW (cc := cX0_init) (maxL := 1) (ret := none) (by decide +kernel) rfl ?_
  intro p e s m args below meth c s₁ B hml hv
  obtain ⟨rfl, hsz, hP, hK, hAO⟩ := hv
  have hx := B.exec
  have hb := B.bytes
  have hr := B.returns
  have hts := atoms_spec (ws := wsX0_init) B.pre
  have hown : s.vm.findClass RX0 = some m.cls := findClass_of_methodNamed B.named
  have hlocks := B.notSynchronized
  have hin2 : meth.name = "<init>" := (name_of_methodNamed B.named B.method).1
  have hin : ∀ w ∈ u_ws RX0 TX0 7, w ∈ wsX0_init := fun w h => List.mem_cons_of_mem _ (List.mem_append_right _ h)
  subst hsz
  have hD : va_D (AI h0 s.heap.size) [(h0, .inr (0, [.int 0, .null, .null, .null, .null, .int 0, .int 0]))] := ⟨fun i j p q hi hj _ => one_ix hi hj, fun k q hk => Or.inl (one_ad hk)⟩
  generalize hAe : (AI h0 s.heap.size) = A at hD ⊢
  have hA : ∀ q : Nat, s.heap.size ≤ q → A q := fun q h => by rw [← hAe]; exact Or.inr h
  have hS : va_S A s.heap s.heap [] := va_S.rf
  have hl := lv_entry ([.ref h0]) (n := 1) (Nat.le_of_ble_eq_true rfl)
  rw [lg_entry_eq]
  generalize (lg_sl ([.ref h0]) ++ List.replicate (1 - (lg_sl ([.ref h0])).length) Slot.unset).toArray = ls at hl ⊢
  have hl : lv_has ls 1 [(0, .ref h0)] := hl
  show W p l e { frames := 1, cells := 4, slots := 109, locals := 12 } s m _ below meth c s.heap [] 0 0 _ _
  have hP : va_P D vwCl [(h0, .inr (0, [.int 0, .null, .null, .null, .null, .int 0, .int 0]))] s.heap := hP
  refine lv_aload_n hx hb dX0_init_0 rfl (lv_at hl 0 rfl) ?_
  refine W.objInit hx hb hown (hts (.methodLink RX0 3 objectInit) (List.mem_of_getElem? (i := 1) rfl)) (hts (.instanceMethod objectInit) (List.mem_of_getElem? (i := 2) rfl)) (hts (.code objectInit ⟨#[0xb1]⟩ 1 none) (List.mem_of_getElem? (i := 3) rfl)) rfl (by rw [hml]; exact hl.1) rfl dX0_init_1 (Nat.le_of_ble_eq_true rfl) (Nat.le_of_ble_eq_true rfl) ?_
  refine W.eq (g2 := F0 m 4 ls []) rfl ?_
  refine lv_aload_n hx hb dX0_init_4 rfl (lv_at hl 0 rfl) ?_
  refine lv_iconst (v := 0) hx hb dX0_init_5 (by decide) ?_
  refine va_put (D := D) (ci := 0) (v := .int 0) (ty := .int) (C := RX0) (T := TX0) (N := 7) hx hb hts hin tyX0 tyX0_ok nmX0 hown hK hP hD hS 0 rfl rfl 0 (by decide) (hts (.fieldLink RX0 11 "ClassSheets$Kind" "operation" "I") (List.mem_of_getElem? (i := 4) rfl)) (fun _ h9 => h9) rfl (by decide +kernel) rfl rfl (Nat.le_of_ble_eq_true rfl) dX0_init_6 (fun H locs hP hD hS => ?_)
  have hP : va_P D vwCl [(h0, .inr (0, [.int 0, .null, .null, .null, .null, .int 0, .int 0]))] H := hP
  have hD : va_D A [(h0, .inr (0, [.int 0, .null, .null, .null, .null, .int 0, .int 0]))] := hD
  refine lv_aload_n hx hb dX0_init_9 rfl (lv_at hl 0 rfl) ?_
  refine lv_iconst (v := 3) hx hb dX0_init_10 (by decide) ?_
  refine va_newa (atype := .int) (D := D) (cl := vwCl) (tys := TY cc) (ws := [(h0, .inr (0, [.int 0, .null, .null, .null, .null, .int 0, .int 0]))]) (A := A) hx hb (hts (.arrayClass .int) (List.mem_of_getElem? (i := 5) rfl)) (ty := .int) rfl hK hP hD hS hA (a0 := (3, .inl (fun _ => 0))) (fun _ => rfl) (n := 3) (nI_pos (n := 3) (by decide)) (nI_clamp (n := 3) (by decide)) (by decide) (Nat.le_of_ble_eq_true rfl) (Nat.le_of_ble_eq_true rfl) dX0_init_11 (fun q1 cA H hK1 hP hD hS => ?_)
  obtain rfl := ca_int hK1
  have hP : va_P D vwCl [(h0, .inr (0, [.int 0, .null, .null, .null, .null, .int 0, .int 0])), (q1, .inl (cc 0, 3, .inl (fun _ => 0)))] H := hP
  have hD : va_D A [(h0, .inr (0, [.int 0, .null, .null, .null, .null, .int 0, .int 0])), (q1, .inl (cc 0, 3, .inl (fun _ => 0)))] := hD
  refine W.widen (k := 1) (n := 3) (Nat.le_of_ble_eq_true rfl) (Nat.le_of_ble_eq_true rfl) ?_
  refine lv_dup hx hb dX0_init_13 rfl ?_
  refine lv_iconst (v := 0) hx hb dX0_init_14 (by decide) ?_
  refine lv_iconst (v := 0) hx hb dX0_init_15 (by decide) ?_
  refine va_iast (D := D) (f := (fun _ => 0)) (i := 0) (x := 0) hx hb hK hP hD hS 1 0 rfl rfl (by unfold vp_in; decide) dX0_init_16 (fun H locs hP hD hS => ?_)
  have hP : va_P D vwCl [(h0, .inr (0, [.int 0, .null, .null, .null, .null, .int 0, .int 0])), (q1, .inl (cc 0, 3, .inl (upd (fun _ => 0) (0 : Int32).toNatClampNeg 0)))] H := hP
  have hD : va_D A [(h0, .inr (0, [.int 0, .null, .null, .null, .null, .int 0, .int 0])), (q1, .inl (cc 0, 3, .inl (upd (fun _ => 0) (0 : Int32).toNatClampNeg 0)))] := hD
  refine lv_dup hx hb dX0_init_17 rfl ?_
  refine lv_iconst (v := 1) hx hb dX0_init_18 (by decide) ?_
  refine lv_iconst (v := 0) hx hb dX0_init_19 (by decide) ?_
  refine va_iast (D := D) (f := (upd (fun _ => 0) (0 : Int32).toNatClampNeg 0)) (i := 1) (x := 0) hx hb hK hP hD hS 1 0 rfl rfl (by unfold vp_in; decide) dX0_init_20 (fun H locs hP hD hS => ?_)
  have hP : va_P D vwCl [(h0, .inr (0, [.int 0, .null, .null, .null, .null, .int 0, .int 0])), (q1, .inl (cc 0, 3, .inl (upd (upd (fun _ => 0) (0 : Int32).toNatClampNeg 0) (1 : Int32).toNatClampNeg 0)))] H := hP
  have hD : va_D A [(h0, .inr (0, [.int 0, .null, .null, .null, .null, .int 0, .int 0])), (q1, .inl (cc 0, 3, .inl (upd (upd (fun _ => 0) (0 : Int32).toNatClampNeg 0) (1 : Int32).toNatClampNeg 0)))] := hD
  refine lv_dup hx hb dX0_init_21 rfl ?_
  refine lv_iconst (v := 2) hx hb dX0_init_22 (by decide) ?_
  refine lv_iconst (v := 0) hx hb dX0_init_23 (by decide) ?_
  refine va_iast (D := D) (f := (upd (upd (fun _ => 0) (0 : Int32).toNatClampNeg 0) (1 : Int32).toNatClampNeg 0)) (i := 2) (x := 0) hx hb hK hP hD hS 1 0 rfl rfl (by unfold vp_in; decide) dX0_init_24 (fun H locs hP hD hS => ?_)
  have hP : va_P D vwCl [(h0, .inr (0, [.int 0, .null, .null, .null, .null, .int 0, .int 0])), (q1, .inl (cc 0, 3, .inl (upd (upd (upd (fun _ => 0) (0 : Int32).toNatClampNeg 0) (1 : Int32).toNatClampNeg 0) (2 : Int32).toNatClampNeg 0)))] H := hP
  have hD : va_D A [(h0, .inr (0, [.int 0, .null, .null, .null, .null, .int 0, .int 0])), (q1, .inl (cc 0, 3, .inl (upd (upd (upd (fun _ => 0) (0 : Int32).toNatClampNeg 0) (1 : Int32).toNatClampNeg 0) (2 : Int32).toNatClampNeg 0)))] := hD
  refine va_putF (D := D) (ci := 0) (v := .ref q1) (ty := (.array .int)) (C := RX0) (T := TX0) (N := 7) hx hb hts hin tyX0 tyX0_ok nmX0 hown hK hP hD hS 0 rfl rfl 1 (by decide) (hts (.fieldLink RX0 15 "ClassSheets$Kind" "least" "[I") (List.mem_of_getElem? (i := 6) rfl)) (fun _ h9 => h9) rfl hin2 rfl (by decide +kernel) rfl rfl (Nat.le_of_ble_eq_true rfl) dX0_init_25 (fun H locs hP hD hS => ?_)
  have hP : va_P D vwCl [(h0, .inr (0, [.int 0, .ref q1, .null, .null, .null, .int 0, .int 0])), (q1, .inl (cc 0, 3, .inl (upd (upd (upd (fun _ => 0) (0 : Int32).toNatClampNeg 0) (1 : Int32).toNatClampNeg 0) (2 : Int32).toNatClampNeg 0)))] H := hP
  have hD : va_D A [(h0, .inr (0, [.int 0, .ref q1, .null, .null, .null, .int 0, .int 0])), (q1, .inl (cc 0, 3, .inl (upd (upd (upd (fun _ => 0) (0 : Int32).toNatClampNeg 0) (1 : Int32).toNatClampNeg 0) (2 : Int32).toNatClampNeg 0)))] := hD
  refine lv_aload_n hx hb dX0_init_28 rfl (lv_at hl 0 rfl) ?_
  refine lv_iconst (v := 3) hx hb dX0_init_29 (by decide) ?_
  refine va_newa (atype := .int) (D := D) (cl := vwCl) (tys := TY cc) (ws := [(h0, .inr (0, [.int 0, .ref q1, .null, .null, .null, .int 0, .int 0])), (q1, .inl (cc 0, 3, .inl (upd (upd (upd (fun _ => 0) (0 : Int32).toNatClampNeg 0) (1 : Int32).toNatClampNeg 0) (2 : Int32).toNatClampNeg 0)))]) (A := A) hx hb (hts (.arrayClass .int) (List.mem_of_getElem? (i := 5) rfl)) (ty := .int) rfl hK hP hD hS hA (a0 := (3, .inl (fun _ => 0))) (fun _ => rfl) (n := 3) (nI_pos (n := 3) (by decide)) (nI_clamp (n := 3) (by decide)) (by decide) (Nat.le_of_ble_eq_true rfl) (Nat.le_of_ble_eq_true rfl) dX0_init_30 (fun q2 cA H hK1 hP hD hS => ?_)
  obtain rfl := ca_int hK1
  have hP : va_P D vwCl [(h0, .inr (0, [.int 0, .ref q1, .null, .null, .null, .int 0, .int 0])), (q1, .inl (cc 0, 3, .inl (upd (upd (upd (fun _ => 0) (0 : Int32).toNatClampNeg 0) (1 : Int32).toNatClampNeg 0) (2 : Int32).toNatClampNeg 0))), (q2, .inl (cc 0, 3, .inl (fun _ => 0)))] H := hP
  have hD : va_D A [(h0, .inr (0, [.int 0, .ref q1, .null, .null, .null, .int 0, .int 0])), (q1, .inl (cc 0, 3, .inl (upd (upd (upd (fun _ => 0) (0 : Int32).toNatClampNeg 0) (1 : Int32).toNatClampNeg 0) (2 : Int32).toNatClampNeg 0))), (q2, .inl (cc 0, 3, .inl (fun _ => 0)))] := hD
  refine W.widen (k := 2) (n := 6) (Nat.le_of_ble_eq_true rfl) (Nat.le_of_ble_eq_true rfl) ?_
  refine lv_dup hx hb dX0_init_32 rfl ?_
  refine lv_iconst (v := 0) hx hb dX0_init_33 (by decide) ?_
  refine lv_bipush (v := 9) hx hb dX0_init_34 (by decide) ?_
  refine va_iast (D := D) (f := (fun _ => 0)) (i := 0) (x := 9) hx hb hK hP hD hS 2 0 rfl rfl (by unfold vp_in; decide) dX0_init_36 (fun H locs hP hD hS => ?_)
  have hP : va_P D vwCl [(h0, .inr (0, [.int 0, .ref q1, .null, .null, .null, .int 0, .int 0])), (q1, .inl (cc 0, 3, .inl (upd (upd (upd (fun _ => 0) (0 : Int32).toNatClampNeg 0) (1 : Int32).toNatClampNeg 0) (2 : Int32).toNatClampNeg 0))), (q2, .inl (cc 0, 3, .inl (upd (fun _ => 0) (0 : Int32).toNatClampNeg 9)))] H := hP
  have hD : va_D A [(h0, .inr (0, [.int 0, .ref q1, .null, .null, .null, .int 0, .int 0])), (q1, .inl (cc 0, 3, .inl (upd (upd (upd (fun _ => 0) (0 : Int32).toNatClampNeg 0) (1 : Int32).toNatClampNeg 0) (2 : Int32).toNatClampNeg 0))), (q2, .inl (cc 0, 3, .inl (upd (fun _ => 0) (0 : Int32).toNatClampNeg 9)))] := hD
  refine lv_dup hx hb dX0_init_37 rfl ?_
  refine lv_iconst (v := 1) hx hb dX0_init_38 (by decide) ?_
  refine lv_bipush (v := 9) hx hb dX0_init_39 (by decide) ?_
  refine va_iast (D := D) (f := (upd (fun _ => 0) (0 : Int32).toNatClampNeg 9)) (i := 1) (x := 9) hx hb hK hP hD hS 2 0 rfl rfl (by unfold vp_in; decide) dX0_init_41 (fun H locs hP hD hS => ?_)
  have hP : va_P D vwCl [(h0, .inr (0, [.int 0, .ref q1, .null, .null, .null, .int 0, .int 0])), (q1, .inl (cc 0, 3, .inl (upd (upd (upd (fun _ => 0) (0 : Int32).toNatClampNeg 0) (1 : Int32).toNatClampNeg 0) (2 : Int32).toNatClampNeg 0))), (q2, .inl (cc 0, 3, .inl (upd (upd (fun _ => 0) (0 : Int32).toNatClampNeg 9) (1 : Int32).toNatClampNeg 9)))] H := hP
  have hD : va_D A [(h0, .inr (0, [.int 0, .ref q1, .null, .null, .null, .int 0, .int 0])), (q1, .inl (cc 0, 3, .inl (upd (upd (upd (fun _ => 0) (0 : Int32).toNatClampNeg 0) (1 : Int32).toNatClampNeg 0) (2 : Int32).toNatClampNeg 0))), (q2, .inl (cc 0, 3, .inl (upd (upd (fun _ => 0) (0 : Int32).toNatClampNeg 9) (1 : Int32).toNatClampNeg 9)))] := hD
  refine lv_dup hx hb dX0_init_42 rfl ?_
  refine lv_iconst (v := 2) hx hb dX0_init_43 (by decide) ?_
  refine lv_sipush (v := 9999) hx hb dX0_init_44 (by decide) ?_
  refine va_iast (D := D) (f := (upd (upd (fun _ => 0) (0 : Int32).toNatClampNeg 9) (1 : Int32).toNatClampNeg 9)) (i := 2) (x := 9999) hx hb hK hP hD hS 2 0 rfl rfl (by unfold vp_in; decide) dX0_init_47 (fun H locs hP hD hS => ?_)
  have hP : va_P D vwCl [(h0, .inr (0, [.int 0, .ref q1, .null, .null, .null, .int 0, .int 0])), (q1, .inl (cc 0, 3, .inl (upd (upd (upd (fun _ => 0) (0 : Int32).toNatClampNeg 0) (1 : Int32).toNatClampNeg 0) (2 : Int32).toNatClampNeg 0))), (q2, .inl (cc 0, 3, .inl (upd (upd (upd (fun _ => 0) (0 : Int32).toNatClampNeg 9) (1 : Int32).toNatClampNeg 9) (2 : Int32).toNatClampNeg 9999)))] H := hP
  have hD : va_D A [(h0, .inr (0, [.int 0, .ref q1, .null, .null, .null, .int 0, .int 0])), (q1, .inl (cc 0, 3, .inl (upd (upd (upd (fun _ => 0) (0 : Int32).toNatClampNeg 0) (1 : Int32).toNatClampNeg 0) (2 : Int32).toNatClampNeg 0))), (q2, .inl (cc 0, 3, .inl (upd (upd (upd (fun _ => 0) (0 : Int32).toNatClampNeg 9) (1 : Int32).toNatClampNeg 9) (2 : Int32).toNatClampNeg 9999)))] := hD
  refine va_putF (D := D) (ci := 0) (v := .ref q2) (ty := (.array .int)) (C := RX0) (T := TX0) (N := 7) hx hb hts hin tyX0 tyX0_ok nmX0 hown hK hP hD hS 0 rfl rfl 2 (by decide) (hts (.fieldLink RX0 19 "ClassSheets$Kind" "most" "[I") (List.mem_of_getElem? (i := 7) rfl)) (fun _ h9 => h9) rfl hin2 rfl (by decide +kernel) rfl rfl (Nat.le_of_ble_eq_true rfl) dX0_init_48 (fun H locs hP hD hS => ?_)
  have hP : va_P D vwCl [(h0, .inr (0, [.int 0, .ref q1, .ref q2, .null, .null, .int 0, .int 0])), (q1, .inl (cc 0, 3, .inl (upd (upd (upd (fun _ => 0) (0 : Int32).toNatClampNeg 0) (1 : Int32).toNatClampNeg 0) (2 : Int32).toNatClampNeg 0))), (q2, .inl (cc 0, 3, .inl (upd (upd (upd (fun _ => 0) (0 : Int32).toNatClampNeg 9) (1 : Int32).toNatClampNeg 9) (2 : Int32).toNatClampNeg 9999)))] H := hP
  have hD : va_D A [(h0, .inr (0, [.int 0, .ref q1, .ref q2, .null, .null, .int 0, .int 0])), (q1, .inl (cc 0, 3, .inl (upd (upd (upd (fun _ => 0) (0 : Int32).toNatClampNeg 0) (1 : Int32).toNatClampNeg 0) (2 : Int32).toNatClampNeg 0))), (q2, .inl (cc 0, 3, .inl (upd (upd (upd (fun _ => 0) (0 : Int32).toNatClampNeg 9) (1 : Int32).toNatClampNeg 9) (2 : Int32).toNatClampNeg 9999)))] := hD
  refine lv_aload_n hx hb dX0_init_51 rfl (lv_at hl 0 rfl) ?_
  refine lv_iconst (v := 3) hx hb dX0_init_52 (by decide) ?_
  refine va_newa (atype := .int) (D := D) (cl := vwCl) (tys := TY cc) (ws := [(h0, .inr (0, [.int 0, .ref q1, .ref q2, .null, .null, .int 0, .int 0])), (q1, .inl (cc 0, 3, .inl (upd (upd (upd (fun _ => 0) (0 : Int32).toNatClampNeg 0) (1 : Int32).toNatClampNeg 0) (2 : Int32).toNatClampNeg 0))), (q2, .inl (cc 0, 3, .inl (upd (upd (upd (fun _ => 0) (0 : Int32).toNatClampNeg 9) (1 : Int32).toNatClampNeg 9) (2 : Int32).toNatClampNeg 9999)))]) (A := A) hx hb (hts (.arrayClass .int) (List.mem_of_getElem? (i := 5) rfl)) (ty := .int) rfl hK hP hD hS hA (a0 := (3, .inl (fun _ => 0))) (fun _ => rfl) (n := 3) (nI_pos (n := 3) (by decide)) (nI_clamp (n := 3) (by decide)) (by decide) (Nat.le_of_ble_eq_true rfl) (Nat.le_of_ble_eq_true rfl) dX0_init_53 (fun q3 cA H hK1 hP hD hS => ?_)
  obtain rfl := ca_int hK1
  have hP : va_P D vwCl [(h0, .inr (0, [.int 0, .ref q1, .ref q2, .null, .null, .int 0, .int 0])), (q1, .inl (cc 0, 3, .inl (upd (upd (upd (fun _ => 0) (0 : Int32).toNatClampNeg 0) (1 : Int32).toNatClampNeg 0) (2 : Int32).toNatClampNeg 0))), (q2, .inl (cc 0, 3, .inl (upd (upd (upd (fun _ => 0) (0 : Int32).toNatClampNeg 9) (1 : Int32).toNatClampNeg 9) (2 : Int32).toNatClampNeg 9999))), (q3, .inl (cc 0, 3, .inl (fun _ => 0)))] H := hP
  have hD : va_D A [(h0, .inr (0, [.int 0, .ref q1, .ref q2, .null, .null, .int 0, .int 0])), (q1, .inl (cc 0, 3, .inl (upd (upd (upd (fun _ => 0) (0 : Int32).toNatClampNeg 0) (1 : Int32).toNatClampNeg 0) (2 : Int32).toNatClampNeg 0))), (q2, .inl (cc 0, 3, .inl (upd (upd (upd (fun _ => 0) (0 : Int32).toNatClampNeg 9) (1 : Int32).toNatClampNeg 9) (2 : Int32).toNatClampNeg 9999))), (q3, .inl (cc 0, 3, .inl (fun _ => 0)))] := hD
  refine W.widen (k := 3) (n := 9) (Nat.le_of_ble_eq_true rfl) (Nat.le_of_ble_eq_true rfl) ?_
  refine lv_dup hx hb dX0_init_55 rfl ?_
  refine lv_iconst (v := 0) hx hb dX0_init_56 (by decide) ?_
  refine lv_iconst (v := 0) hx hb dX0_init_57 (by decide) ?_
  refine va_iast (D := D) (f := (fun _ => 0)) (i := 0) (x := 0) hx hb hK hP hD hS 3 0 rfl rfl (by unfold vp_in; decide) dX0_init_58 (fun H locs hP hD hS => ?_)
  have hP : va_P D vwCl [(h0, .inr (0, [.int 0, .ref q1, .ref q2, .null, .null, .int 0, .int 0])), (q1, .inl (cc 0, 3, .inl (upd (upd (upd (fun _ => 0) (0 : Int32).toNatClampNeg 0) (1 : Int32).toNatClampNeg 0) (2 : Int32).toNatClampNeg 0))), (q2, .inl (cc 0, 3, .inl (upd (upd (upd (fun _ => 0) (0 : Int32).toNatClampNeg 9) (1 : Int32).toNatClampNeg 9) (2 : Int32).toNatClampNeg 9999))), (q3, .inl (cc 0, 3, .inl (upd (fun _ => 0) (0 : Int32).toNatClampNeg 0)))] H := hP
  have hD : va_D A [(h0, .inr (0, [.int 0, .ref q1, .ref q2, .null, .null, .int 0, .int 0])), (q1, .inl (cc 0, 3, .inl (upd (upd (upd (fun _ => 0) (0 : Int32).toNatClampNeg 0) (1 : Int32).toNatClampNeg 0) (2 : Int32).toNatClampNeg 0))), (q2, .inl (cc 0, 3, .inl (upd (upd (upd (fun _ => 0) (0 : Int32).toNatClampNeg 9) (1 : Int32).toNatClampNeg 9) (2 : Int32).toNatClampNeg 9999))), (q3, .inl (cc 0, 3, .inl (upd (fun _ => 0) (0 : Int32).toNatClampNeg 0)))] := hD
  refine lv_dup hx hb dX0_init_59 rfl ?_
  refine lv_iconst (v := 1) hx hb dX0_init_60 (by decide) ?_
  refine lv_iconst (v := 1) hx hb dX0_init_61 (by decide) ?_
  refine va_iast (D := D) (f := (upd (fun _ => 0) (0 : Int32).toNatClampNeg 0)) (i := 1) (x := 1) hx hb hK hP hD hS 3 0 rfl rfl (by unfold vp_in; decide) dX0_init_62 (fun H locs hP hD hS => ?_)
  have hP : va_P D vwCl [(h0, .inr (0, [.int 0, .ref q1, .ref q2, .null, .null, .int 0, .int 0])), (q1, .inl (cc 0, 3, .inl (upd (upd (upd (fun _ => 0) (0 : Int32).toNatClampNeg 0) (1 : Int32).toNatClampNeg 0) (2 : Int32).toNatClampNeg 0))), (q2, .inl (cc 0, 3, .inl (upd (upd (upd (fun _ => 0) (0 : Int32).toNatClampNeg 9) (1 : Int32).toNatClampNeg 9) (2 : Int32).toNatClampNeg 9999))), (q3, .inl (cc 0, 3, .inl (upd (upd (fun _ => 0) (0 : Int32).toNatClampNeg 0) (1 : Int32).toNatClampNeg 1)))] H := hP
  have hD : va_D A [(h0, .inr (0, [.int 0, .ref q1, .ref q2, .null, .null, .int 0, .int 0])), (q1, .inl (cc 0, 3, .inl (upd (upd (upd (fun _ => 0) (0 : Int32).toNatClampNeg 0) (1 : Int32).toNatClampNeg 0) (2 : Int32).toNatClampNeg 0))), (q2, .inl (cc 0, 3, .inl (upd (upd (upd (fun _ => 0) (0 : Int32).toNatClampNeg 9) (1 : Int32).toNatClampNeg 9) (2 : Int32).toNatClampNeg 9999))), (q3, .inl (cc 0, 3, .inl (upd (upd (fun _ => 0) (0 : Int32).toNatClampNeg 0) (1 : Int32).toNatClampNeg 1)))] := hD
  refine lv_dup hx hb dX0_init_63 rfl ?_
  refine lv_iconst (v := 2) hx hb dX0_init_64 (by decide) ?_
  refine lv_iconst (v := 0) hx hb dX0_init_65 (by decide) ?_
  refine va_iast (D := D) (f := (upd (upd (fun _ => 0) (0 : Int32).toNatClampNeg 0) (1 : Int32).toNatClampNeg 1)) (i := 2) (x := 0) hx hb hK hP hD hS 3 0 rfl rfl (by unfold vp_in; decide) dX0_init_66 (fun H locs hP hD hS => ?_)
  have hP : va_P D vwCl [(h0, .inr (0, [.int 0, .ref q1, .ref q2, .null, .null, .int 0, .int 0])), (q1, .inl (cc 0, 3, .inl (upd (upd (upd (fun _ => 0) (0 : Int32).toNatClampNeg 0) (1 : Int32).toNatClampNeg 0) (2 : Int32).toNatClampNeg 0))), (q2, .inl (cc 0, 3, .inl (upd (upd (upd (fun _ => 0) (0 : Int32).toNatClampNeg 9) (1 : Int32).toNatClampNeg 9) (2 : Int32).toNatClampNeg 9999))), (q3, .inl (cc 0, 3, .inl (upd (upd (upd (fun _ => 0) (0 : Int32).toNatClampNeg 0) (1 : Int32).toNatClampNeg 1) (2 : Int32).toNatClampNeg 0)))] H := hP
  have hD : va_D A [(h0, .inr (0, [.int 0, .ref q1, .ref q2, .null, .null, .int 0, .int 0])), (q1, .inl (cc 0, 3, .inl (upd (upd (upd (fun _ => 0) (0 : Int32).toNatClampNeg 0) (1 : Int32).toNatClampNeg 0) (2 : Int32).toNatClampNeg 0))), (q2, .inl (cc 0, 3, .inl (upd (upd (upd (fun _ => 0) (0 : Int32).toNatClampNeg 9) (1 : Int32).toNatClampNeg 9) (2 : Int32).toNatClampNeg 9999))), (q3, .inl (cc 0, 3, .inl (upd (upd (upd (fun _ => 0) (0 : Int32).toNatClampNeg 0) (1 : Int32).toNatClampNeg 1) (2 : Int32).toNatClampNeg 0)))] := hD
  refine va_putF (D := D) (ci := 0) (v := .ref q3) (ty := (.array .int)) (C := RX0) (T := TX0) (N := 7) hx hb hts hin tyX0 tyX0_ok nmX0 hown hK hP hD hS 0 rfl rfl 3 (by decide) (hts (.fieldLink RX0 22 "ClassSheets$Kind" "rules" "[I") (List.mem_of_getElem? (i := 8) rfl)) (fun _ h9 => h9) rfl hin2 rfl (by decide +kernel) rfl rfl (Nat.le_of_ble_eq_true rfl) dX0_init_67 (fun H locs hP hD hS => ?_)
  have hP : va_P D vwCl [(h0, .inr (0, [.int 0, .ref q1, .ref q2, .ref q3, .null, .int 0, .int 0])), (q1, .inl (cc 0, 3, .inl (upd (upd (upd (fun _ => 0) (0 : Int32).toNatClampNeg 0) (1 : Int32).toNatClampNeg 0) (2 : Int32).toNatClampNeg 0))), (q2, .inl (cc 0, 3, .inl (upd (upd (upd (fun _ => 0) (0 : Int32).toNatClampNeg 9) (1 : Int32).toNatClampNeg 9) (2 : Int32).toNatClampNeg 9999))), (q3, .inl (cc 0, 3, .inl (upd (upd (upd (fun _ => 0) (0 : Int32).toNatClampNeg 0) (1 : Int32).toNatClampNeg 1) (2 : Int32).toNatClampNeg 0)))] H := hP
  have hD : va_D A [(h0, .inr (0, [.int 0, .ref q1, .ref q2, .ref q3, .null, .int 0, .int 0])), (q1, .inl (cc 0, 3, .inl (upd (upd (upd (fun _ => 0) (0 : Int32).toNatClampNeg 0) (1 : Int32).toNatClampNeg 0) (2 : Int32).toNatClampNeg 0))), (q2, .inl (cc 0, 3, .inl (upd (upd (upd (fun _ => 0) (0 : Int32).toNatClampNeg 9) (1 : Int32).toNatClampNeg 9) (2 : Int32).toNatClampNeg 9999))), (q3, .inl (cc 0, 3, .inl (upd (upd (upd (fun _ => 0) (0 : Int32).toNatClampNeg 0) (1 : Int32).toNatClampNeg 1) (2 : Int32).toNatClampNeg 0)))] := hD
  refine lv_aload_n hx hb dX0_init_70 rfl (lv_at hl 0 rfl) ?_
  refine lv_bipush (v := 100) hx hb dX0_init_71 (by decide) ?_
  refine va_newa (atype := .int) (D := D) (cl := vwCl) (tys := TY cc) (ws := [(h0, .inr (0, [.int 0, .ref q1, .ref q2, .ref q3, .null, .int 0, .int 0])), (q1, .inl (cc 0, 3, .inl (upd (upd (upd (fun _ => 0) (0 : Int32).toNatClampNeg 0) (1 : Int32).toNatClampNeg 0) (2 : Int32).toNatClampNeg 0))), (q2, .inl (cc 0, 3, .inl (upd (upd (upd (fun _ => 0) (0 : Int32).toNatClampNeg 9) (1 : Int32).toNatClampNeg 9) (2 : Int32).toNatClampNeg 9999))), (q3, .inl (cc 0, 3, .inl (upd (upd (upd (fun _ => 0) (0 : Int32).toNatClampNeg 0) (1 : Int32).toNatClampNeg 1) (2 : Int32).toNatClampNeg 0)))]) (A := A) hx hb (hts (.arrayClass .int) (List.mem_of_getElem? (i := 5) rfl)) (ty := .int) rfl hK hP hD hS hA (a0 := (100, .inl (fun _ => 0))) (fun _ => rfl) (n := 100) (nI_pos (n := 100) (by decide)) (nI_clamp (n := 100) (by decide)) (by decide) (Nat.le_of_ble_eq_true rfl) (Nat.le_of_ble_eq_true rfl) dX0_init_73 (fun q4 cA H hK1 hP hD hS => ?_)
  obtain rfl := ca_int hK1
  have hP : va_P D vwCl [(h0, .inr (0, [.int 0, .ref q1, .ref q2, .ref q3, .null, .int 0, .int 0])), (q1, .inl (cc 0, 3, .inl (upd (upd (upd (fun _ => 0) (0 : Int32).toNatClampNeg 0) (1 : Int32).toNatClampNeg 0) (2 : Int32).toNatClampNeg 0))), (q2, .inl (cc 0, 3, .inl (upd (upd (upd (fun _ => 0) (0 : Int32).toNatClampNeg 9) (1 : Int32).toNatClampNeg 9) (2 : Int32).toNatClampNeg 9999))), (q3, .inl (cc 0, 3, .inl (upd (upd (upd (fun _ => 0) (0 : Int32).toNatClampNeg 0) (1 : Int32).toNatClampNeg 1) (2 : Int32).toNatClampNeg 0))), (q4, .inl (cc 0, 100, .inl (fun _ => 0)))] H := hP
  have hD : va_D A [(h0, .inr (0, [.int 0, .ref q1, .ref q2, .ref q3, .null, .int 0, .int 0])), (q1, .inl (cc 0, 3, .inl (upd (upd (upd (fun _ => 0) (0 : Int32).toNatClampNeg 0) (1 : Int32).toNatClampNeg 0) (2 : Int32).toNatClampNeg 0))), (q2, .inl (cc 0, 3, .inl (upd (upd (upd (fun _ => 0) (0 : Int32).toNatClampNeg 9) (1 : Int32).toNatClampNeg 9) (2 : Int32).toNatClampNeg 9999))), (q3, .inl (cc 0, 3, .inl (upd (upd (upd (fun _ => 0) (0 : Int32).toNatClampNeg 0) (1 : Int32).toNatClampNeg 1) (2 : Int32).toNatClampNeg 0))), (q4, .inl (cc 0, 100, .inl (fun _ => 0)))] := hD
  refine W.widen (k := 4) (n := 109) (Nat.le_of_ble_eq_true rfl) (Nat.le_of_ble_eq_true rfl) ?_
  refine va_putF (D := D) (ci := 0) (v := .ref q4) (ty := (.array .int)) (C := RX0) (T := TX0) (N := 7) hx hb hts hin tyX0 tyX0_ok nmX0 hown hK hP hD hS 0 rfl rfl 4 (by decide) (hts (.fieldLink RX0 25 "ClassSheets$Kind" "before" "[I") (List.mem_of_getElem? (i := 9) rfl)) (fun _ h9 => h9) rfl hin2 rfl (by decide +kernel) rfl rfl (Nat.le_of_ble_eq_true rfl) dX0_init_75 (fun H locs hP hD hS => ?_)
  have hP : va_P D vwCl [(h0, .inr (0, [.int 0, .ref q1, .ref q2, .ref q3, .ref q4, .int 0, .int 0])), (q1, .inl (cc 0, 3, .inl (upd (upd (upd (fun _ => 0) (0 : Int32).toNatClampNeg 0) (1 : Int32).toNatClampNeg 0) (2 : Int32).toNatClampNeg 0))), (q2, .inl (cc 0, 3, .inl (upd (upd (upd (fun _ => 0) (0 : Int32).toNatClampNeg 9) (1 : Int32).toNatClampNeg 9) (2 : Int32).toNatClampNeg 9999))), (q3, .inl (cc 0, 3, .inl (upd (upd (upd (fun _ => 0) (0 : Int32).toNatClampNeg 0) (1 : Int32).toNatClampNeg 1) (2 : Int32).toNatClampNeg 0))), (q4, .inl (cc 0, 100, .inl (fun _ => 0)))] H := hP
  have hD : va_D A [(h0, .inr (0, [.int 0, .ref q1, .ref q2, .ref q3, .ref q4, .int 0, .int 0])), (q1, .inl (cc 0, 3, .inl (upd (upd (upd (fun _ => 0) (0 : Int32).toNatClampNeg 0) (1 : Int32).toNatClampNeg 0) (2 : Int32).toNatClampNeg 0))), (q2, .inl (cc 0, 3, .inl (upd (upd (upd (fun _ => 0) (0 : Int32).toNatClampNeg 9) (1 : Int32).toNatClampNeg 9) (2 : Int32).toNatClampNeg 9999))), (q3, .inl (cc 0, 3, .inl (upd (upd (upd (fun _ => 0) (0 : Int32).toNatClampNeg 0) (1 : Int32).toNatClampNeg 1) (2 : Int32).toNatClampNeg 0))), (q4, .inl (cc 0, 100, .inl (fun _ => 0)))] := hD
  refine lv_aload_n hx hb dX0_init_78 rfl (lv_at hl 0 rfl) ?_
  refine lv_iconst (v := 0) hx hb dX0_init_79 (by decide) ?_
  refine va_put (D := D) (ci := 0) (v := .int 0) (ty := .int) (C := RX0) (T := TX0) (N := 7) hx hb hts hin tyX0 tyX0_ok nmX0 hown hK hP hD hS 0 rfl rfl 5 (by decide) (hts (.fieldLink RX0 28 "ClassSheets$Kind" "count" "I") (List.mem_of_getElem? (i := 10) rfl)) (fun _ h9 => h9) rfl (by decide +kernel) rfl rfl (Nat.le_of_ble_eq_true rfl) dX0_init_80 (fun H locs hP hD hS => ?_)
  have hP : va_P D vwCl [(h0, .inr (0, [.int 0, .ref q1, .ref q2, .ref q3, .ref q4, .int 0, .int 0])), (q1, .inl (cc 0, 3, .inl (upd (upd (upd (fun _ => 0) (0 : Int32).toNatClampNeg 0) (1 : Int32).toNatClampNeg 0) (2 : Int32).toNatClampNeg 0))), (q2, .inl (cc 0, 3, .inl (upd (upd (upd (fun _ => 0) (0 : Int32).toNatClampNeg 9) (1 : Int32).toNatClampNeg 9) (2 : Int32).toNatClampNeg 9999))), (q3, .inl (cc 0, 3, .inl (upd (upd (upd (fun _ => 0) (0 : Int32).toNatClampNeg 0) (1 : Int32).toNatClampNeg 1) (2 : Int32).toNatClampNeg 0))), (q4, .inl (cc 0, 100, .inl (fun _ => 0)))] H := hP
  have hD : va_D A [(h0, .inr (0, [.int 0, .ref q1, .ref q2, .ref q3, .ref q4, .int 0, .int 0])), (q1, .inl (cc 0, 3, .inl (upd (upd (upd (fun _ => 0) (0 : Int32).toNatClampNeg 0) (1 : Int32).toNatClampNeg 0) (2 : Int32).toNatClampNeg 0))), (q2, .inl (cc 0, 3, .inl (upd (upd (upd (fun _ => 0) (0 : Int32).toNatClampNeg 9) (1 : Int32).toNatClampNeg 9) (2 : Int32).toNatClampNeg 9999))), (q3, .inl (cc 0, 3, .inl (upd (upd (upd (fun _ => 0) (0 : Int32).toNatClampNeg 0) (1 : Int32).toNatClampNeg 1) (2 : Int32).toNatClampNeg 0))), (q4, .inl (cc 0, 100, .inl (fun _ => 0)))] := hD
  refine lv_aload_n hx hb dX0_init_83 rfl (lv_at hl 0 rfl) ?_
  refine lv_iconst (v := 0) hx hb dX0_init_84 (by decide) ?_
  refine va_put (D := D) (ci := 0) (v := .int 0) (ty := .int) (C := RX0) (T := TX0) (N := 7) hx hb hts hin tyX0 tyX0_ok nmX0 hown hK hP hD hS 0 rfl rfl 6 (by decide) (hts (.fieldLink RX0 31 "ClassSheets$Kind" "places" "I") (List.mem_of_getElem? (i := 11) rfl)) (fun _ h9 => h9) rfl (by decide +kernel) rfl rfl (Nat.le_of_ble_eq_true rfl) dX0_init_85 (fun H locs hP hD hS => ?_)
  have hP : va_P D vwCl [(h0, .inr (0, [.int 0, .ref q1, .ref q2, .ref q3, .ref q4, .int 0, .int 0])), (q1, .inl (cc 0, 3, .inl (upd (upd (upd (fun _ => 0) (0 : Int32).toNatClampNeg 0) (1 : Int32).toNatClampNeg 0) (2 : Int32).toNatClampNeg 0))), (q2, .inl (cc 0, 3, .inl (upd (upd (upd (fun _ => 0) (0 : Int32).toNatClampNeg 9) (1 : Int32).toNatClampNeg 9) (2 : Int32).toNatClampNeg 9999))), (q3, .inl (cc 0, 3, .inl (upd (upd (upd (fun _ => 0) (0 : Int32).toNatClampNeg 0) (1 : Int32).toNatClampNeg 1) (2 : Int32).toNatClampNeg 0))), (q4, .inl (cc 0, 100, .inl (fun _ => 0)))] H := hP
  have hD : va_D A [(h0, .inr (0, [.int 0, .ref q1, .ref q2, .ref q3, .ref q4, .int 0, .int 0])), (q1, .inl (cc 0, 3, .inl (upd (upd (upd (fun _ => 0) (0 : Int32).toNatClampNeg 0) (1 : Int32).toNatClampNeg 0) (2 : Int32).toNatClampNeg 0))), (q2, .inl (cc 0, 3, .inl (upd (upd (upd (fun _ => 0) (0 : Int32).toNatClampNeg 9) (1 : Int32).toNatClampNeg 9) (2 : Int32).toNatClampNeg 9999))), (q3, .inl (cc 0, 3, .inl (upd (upd (upd (fun _ => 0) (0 : Int32).toNatClampNeg 0) (1 : Int32).toNatClampNeg 1) (2 : Int32).toNatClampNeg 0))), (q4, .inl (cc 0, 100, .inl (fun _ => 0)))] := hD
  have hda : DA 5 (ad5 h0 q1 q2 q3 q4) A := da_of rfl hD
  have hP9 : va_P D vwCl (KW cc (ad5 h0 q1 q2 q3 q4) kap0) H := hP
  exact W.vret hx hb hr (fun t ht hW => ⟨⟨ad5 h0 q1 q2 q3 q4, rfl, ⟨rfl, hda⟩, by show va_P D vwCl _ t.heap; rw [ht]; exact hP9⟩, hS.F ht⟩) hS.2.2 dX0_init_88
