theorem arr_known {args : Array Value} {s : State} {ty : FieldType} (hty : ∀ C, ty ≠ .object C) (h : (Cond.arrayClass ty).before args s = true) : ∃ cA : ClassId, ArrOfT s cA ty ∧ va_RA s cA ty := by
  obtain ⟨cA, kA, comp, h1, h2, h3⟩ := Cond.arrayClass_spec h
  refine ⟨cA, fun n z => ⟨fun k h => (by cases h), kA, h2, comp, h3⟩, ?_⟩
  cases ty with
  | object C => exact absurd rfl (hty C)
  | _ => exact h1
theorem arr_knownO {args : Array Value} {s : State} {C : String} (h : (Cond.arrayOver (.object C)).before args s = true) : ∃ cA : ClassId, ArrOfT s cA (.object C) ∧ va_RA s cA (.object C) := by
  obtain ⟨comp, cA, kA, h1, h2, h3, h4, h5⟩ := Cond.arrayOver_spec h
  exact ⟨cA, fun n z => ⟨fun k h => (by cases h), kA, h3, comp, h4⟩, kA, comp, h3, h4, h1, h5⟩
theorem sx_start {b : Nat} {s : State} {A : Nat → Prop} (hts : ∀ w ∈ lw_tbl, w.before #[Value.ref b] s = true) (hgv : (Jvm.Cond.and given_1 narrow_1).before #[Value.ref b] s = true) (hA : ∀ a : Nat, a < s.heap.size → ¬ A a) : SX A s s.heap := by
  have hs := flat_of_before _ hgv
  have one : ∀ (n : String) (f : Nat → Value) (v0 v1 v2 : Int32), (Cond.laysStatic RX0 n "[I").before #[Value.ref b] s = true → (Cond.initialized RX0).before #[Value.ref b] s = true → (Cond.arrayOf (.static RX0 n "[I") .int).before #[Value.ref b] s = true → (Cond.eq (.length (.static RX0 n "[I")) (.int 3)).before #[Value.ref b] s = true → (Cond.eq (.elem (.static RX0 n "[I") (.int 0)) (.int v0)).before #[Value.ref b] s = true → (Cond.eq (.elem (.static RX0 n "[I") (.int 1)) (.int v1)).before #[Value.ref b] s = true → (Cond.eq (.elem (.static RX0 n "[I") (.int 2)) (.int v2)).before #[Value.ref b] s = true → f 0 = .int v0 → f 1 = .int v1 → f 2 = .int v2 → ∃ t : Nat, va_Z RX0 n "[I" (.ref t) A s s.heap ∧ va_T .int t 3 f A s s.heap := by
    intro n f v0 v1 v2 h1 h2 h3 h4 h5 h6 h7 f0 f1 f2
    obtain ⟨t, ht, hT⟩ := va_Tof (N := 3) (f := f) (A := A) (by decide) h3 (va_eqt h4) (fun j hj => by
      rcases (show j = 0 ∨ j = 1 ∨ j = 2 by omega) with rfl | rfl | rfl
      · rw [f0]; exact va_eqt h5
      · rw [f1]; exact va_eqt h6
      · rw [f2]; exact va_eqt h7) hA
    exact ⟨t, va_Zref h1 h2 ht hA, hT⟩
  refine ⟨one "RANGE_MOST" sx_f0 99 99 9999 (hts _ (List.mem_of_getElem? (i := 163) rfl)) (hts _ (List.mem_of_getElem? (i := 41) rfl)) (hs _ (by decide +kernel)) (hs _ (by decide +kernel)) (hs _ (by decide +kernel)) (hs _ (by decide +kernel)) (hs _ (by decide +kernel)) rfl rfl rfl, one "RULE_LEAST" sx_f1 0 1 0 (hts _ (List.mem_of_getElem? (i := 180) rfl)) (hts _ (List.mem_of_getElem? (i := 41) rfl)) (hs _ (by decide +kernel)) (hs _ (by decide +kernel)) (hs _ (by decide +kernel)) (hs _ (by decide +kernel)) (hs _ (by decide +kernel)) rfl rfl rfl, one "RULE_MOST" sx_f2 3 9 9999 (hts _ (List.mem_of_getElem? (i := 182) rfl)) (hts _ (List.mem_of_getElem? (i := 41) rfl)) (hs _ (by decide +kernel)) (hs _ (by decide +kernel)) (hs _ (by decide +kernel)) (hs _ (by decide +kernel)) (hs _ (by decide +kernel)) rfl rfl rfl⟩
theorem da_join {ad am : Nat → Nat} {A : Nat → Prop} (h1 : DA 45 ad A) (h2 : DA 13 am A) (hne : ∀ i k, i < 45 → k < 13 → ad i ≠ am k) : DA 58 (adm ad am) A := by
  refine ⟨fun i k hi hk he => ?_, fun i hi => ?_⟩
  · rcases Nat.lt_or_ge i 45 with a | a
    · rcases Nat.lt_or_ge k 45 with b | b
      · rw [adm_x a, adm_x b] at he
        exact h1.1 i k a b he
      · rw [adm_x a, show k = 45 + (k - 45) by omega, adm_m] at he
        exact absurd he (hne i _ a (by omega))
    · rcases Nat.lt_or_ge k 45 with b | b
      · rw [adm_x b, show i = 45 + (i - 45) by omega, adm_m] at he
        exact absurd he.symm (hne k _ b (by omega))
      · rw [show i = 45 + (i - 45) by omega, show k = 45 + (k - 45) by omega, adm_m, adm_m] at he
        have := h2.1 _ _ (by omega) (by omega) he
        omega
  · rcases Nat.lt_or_ge i 45 with a | a
    · rw [adm_x a]
      exact h1.2 i a
    · rw [show i = 45 + (i - 45) by omega, adm_m]
      exact h2.2 _ (by omega)
set_option maxHeartbeats 4000000 in
set_option maxRecDepth 100000 in
theorem whole_start {p : Program} {e : Env} {s : State} {m : MethodId} {below : List Frame} {meth : Method} {c : Code} (l : Launch) {b L : Nat} {xs : Nat → Int32} (hL : L ≤ 2560) (C0 : lw_At p s m meth c b L xs) : W p l e room_1 s m #[Value.ref b] below meth c s.heap [] 0 0 (lw_Z below #[Value.ref b] s) (entryFrame m ([Value.ref b] : List Value).toArray 4) := by
  obtain ⟨hx, hb, hr, hml, hown, hts0, hX, hbl, hlocks, hgv⟩ := id C0
  have hts : ∀ w ∈ wsL_law, w.before #[Value.ref b] s = true := fun w h => hts0 w (wsL_law_in w h)
  have hA : ∀ q : Nat, s.heap.size ≤ q → (fun q : Nat => s.heap.size ≤ q) q := fun _ h => h
  obtain ⟨c0, iS0, hKn0⟩ := u_known (C := RX0) (T := TX0) (N := 7) (n := 7) hts inlX0 (hts (.instantiable RX0 7) (List.mem_of_getElem? (i := 26) rfl))
  obtain ⟨c1, iS1, hKn1⟩ := u_known (C := RX1) (T := TX1) (N := 12) (n := 12) hts inlX1 (hts (.instantiable RX1 12) (List.mem_of_getElem? (i := 1) rfl))
  obtain ⟨c2, iS2, hKn2⟩ := u_known (C := RX2) (T := TX2) (N := 21) (n := 21) hts inlX2 (hts (.instantiable RX2 21) (List.mem_of_getElem? (i := 4) rfl))
  obtain ⟨D, hKc⟩ : ∃ D : va_G, ∀ (k : Nat) (q : vw_C), vwCl[k]? = some q → u_Kn s q.1 q.2.1 q.2.2 (D.1 k) (D.2 k) := by
    refine ⟨(fun k => if k = 0 then c0 else if k = 1 then c1 else c2, fun k => if k = 0 then iS0 else if k = 1 then iS1 else iS2), ?_⟩
    intro k q hq
    match k, hq with
    | 0, hq => cases hq; exact hKn0
    | 1, hq => cases hq; exact hKn1
    | 2, hq => cases hq; exact hKn2
    | k + 3, hq => simp [vwCl] at hq
  obtain ⟨d0, g0⟩ := arr_known (fun C h => by cases h) (hts (.arrayClass .int) (List.mem_of_getElem? (i := 15) rfl))
  have hAO : va_AO RX0 s := va_AO.of (hts0 (.arrayOver (.object RX0)) (List.mem_of_getElem? (i := 53) rfl))
  obtain ⟨d1, g1⟩ := arr_knownO (hts0 (.arrayOver (.object RX0)) (List.mem_of_getElem? (i := 53) rfl))
  obtain ⟨d2, g2⟩ := arr_known (fun C h => by cases h) (hts (.arrayClass .boolean) (List.mem_of_getElem? (i := 49) rfl))
  obtain ⟨d3, g3⟩ := arr_known (fun C h => by cases h) (hts (.arrayClass .short) (List.mem_of_getElem? (i := 53) rfl))
  obtain ⟨cc, hK⟩ : ∃ cc : Nat → ClassId, va_K D vwCl (TY cc) s := by
    refine ⟨fun k => if k = 0 then d0 else if k = 1 then d1 else if k = 2 then d2 else d3, hKc, ?_⟩
    intro k q hq
    match k, hq with
    | 0, hq => cases hq; exact g0
    | 1, hq => cases hq; exact g1
    | 2, hq => cases hq; exact g2
    | 3, hq => cases hq; exact g3
    | k + 4, hq => simp [TY] at hq
  have hSX : SX (fun q => s.heap.size ≤ q) s s.heap := sx_start hts0 hgv (fun a ha => Nat.not_le.mpr ha)
  have hS : va_S (fun q : Nat => s.heap.size ≤ q) s.heap s.heap [] := va_S.rf
  have hP : va_P D vwCl [] s.heap := fun k q h => by simp at h
  have hD : va_D (fun q : Nat => s.heap.size ≤ q) [] := ⟨fun i j p q h => by simp at h, fun k q h => by simp at h⟩
  have hl := lv_entry ([.ref b]) (n := 4) (Nat.le_of_ble_eq_true rfl)
  rw [lg_entry_eq]
  generalize (lg_sl ([.ref b]) ++ List.replicate (4 - (lg_sl ([.ref b])).length) Slot.unset).toArray = ls at hl ⊢
  have hl : lv_has ls 4 [(0, .ref b)] := hl
  have blind : ∀ (ws : va_W) (h0 sz : Nat), FrameBlind (CIPre D cc ws h0 sz) := fun ws h0 sz a U g mk z => ⟨z.1, z.2.1, z.2.2.1, va_K.moved (u := U) (U := U.calling g mk a) (Vm.Alike.refl U.vm) z.2.2.2.1, va_AO.moved (u := U) (U := U.calling g mk a) (Vm.Alike.refl U.vm) z.2.2.2.2⟩
  refine va_new (ci := 1) (fs := [.null, .int 0, .null, .null, .int 0, .int 0, .int 0, .int 0, .int 0, .null, .int 0, .int 0]) (C := RX1) (T := TX1) (N := 12) hx hb hts inlX1 tyX1 tyX1_ok hown (hts (.classLink RL 7 RX1) (List.mem_of_getElem? (i := 0) rfl)) (hts (.instantiable RX1 12) (List.mem_of_getElem? (i := 1) rfl)) (hts (.initialized RX1) (List.mem_of_getElem? (i := 2) rfl)) hK hP hD hS hA rfl (fun j hj => by rcases (show j = 0 ∨ j = 1 ∨ j = 2 ∨ j = 3 ∨ j = 4 ∨ j = 5 ∨ j = 6 ∨ j = 7 ∨ j = 8 ∨ j = 9 ∨ j = 10 ∨ j = 11 by omega) with rfl | rfl | rfl | rfl | rfl | rfl | rfl | rfl | rfl | rfl | rfl | rfl <;> rfl) (Nat.le_of_ble_eq_true rfl) (Nat.le_of_ble_eq_true rfl) dL_law_0 (fun q0 H hP hD hS => ?_)
  refine lv_dup hx hb dL_law_3 rfl ?_
  have hq0 : s.heap.size ≤ q0 := hD.2 0 _ rfl
  have hF : ∀ x : Nat, (x = q0 ∨ H.size ≤ x) → s.heap.size ≤ x := by
    rintro x (rfl | h)
    · exact hq0
    · exact Nat.le_trans hS.1 h
  refine va_callv (va_runI (As := []) (rest := [.ref q0]) ⟨hx, hb, hml, hown, hts⟩ (ci_X1_init l D cc q0 H.size) (cwI 0 hts gL_law_X1_init rfl rfl rfl (hts (.initialized RX1) (List.mem_of_getElem? (i := 2) rfl)) (hts (.methodLink RL 9 yX1_init) (List.mem_of_getElem? (i := 6) rfl)) (hts (.instanceMethod yX1_init) (List.mem_of_getElem? (i := 7) rfl)) rfl (by decide +kernel) ⟨Nat.le_of_ble_eq_true rfl, Nat.le_of_ble_eq_true rfl⟩) ⟨blind _ _ _, fun U hU hW => ⟨rfl, by rw [hU], by rw [hU]; exact hP, va_K.moved hW.alike hK, va_AO.moved hW.alike hAO⟩⟩ rfl rfl hl.1 rfl (lv_room (by simp [Value.category])) dL_law_4 ⟨Nat.le_of_ble_eq_true rfl, Nat.le_of_ble_eq_true rfl⟩) hS (fun x _ h => hF x h) hF (fun ad t H1 locs ht hvm hw hB hz1 hk1 hS => ?_)
  obtain ⟨hu0, hdx0⟩ := hw
  have hdx : DA 45 ad (fun q => s.heap.size ≤ q) := ⟨hdx0.1, fun i hi => hF _ (hdx0.2 i hi)⟩
  subst hu0
  have hP1 : va_P D vwCl (XW cc ad sig0) H1 := by rw [← ht]; exact hB
  refine lv_astore_n (lv' := [(1, .ref (ad 0)), (0, .ref b)]) hx hb dL_law_7 rfl hl (by decide) rfl (fun ls hl => ?_)
  refine va_new (ci := 2) (fs := [.int 0, .int 0, .null, .null, .null, .null, .null, .null, .null, .null, .null, .int 0, .null, .int 0, .int 0, .int 0, .int 0, .null, .null, .int 0, .int 0]) (C := RX2) (T := TX2) (N := 21) hx hb hts inlX2 tyX2 tyX2_ok hown (hts (.classLink RL 10 RX2) (List.mem_of_getElem? (i := 3) rfl)) (hts (.instantiable RX2 21) (List.mem_of_getElem? (i := 4) rfl)) (hts (.initialized RX2) (List.mem_of_getElem? (i := 5) rfl)) hK hP1 (xD hdx) hS hA rfl (fun j hj => by rcases (show j = 0 ∨ j = 1 ∨ j = 2 ∨ j = 3 ∨ j = 4 ∨ j = 5 ∨ j = 6 ∨ j = 7 ∨ j = 8 ∨ j = 9 ∨ j = 10 ∨ j = 11 ∨ j = 12 ∨ j = 13 ∨ j = 14 ∨ j = 15 ∨ j = 16 ∨ j = 17 ∨ j = 18 ∨ j = 19 ∨ j = 20 by omega) with rfl | rfl | rfl | rfl | rfl | rfl | rfl | rfl | rfl | rfl | rfl | rfl | rfl | rfl | rfl | rfl | rfl | rfl | rfl | rfl | rfl <;> rfl) (Nat.le_of_ble_eq_true rfl) (Nat.le_of_ble_eq_true rfl) dL_law_8 (fun q2 H2 hP2 hD2 hS2 => ?_)
  refine lv_dup hx hb dL_law_11 rfl ?_
  have hPm := vaP_mem.mp hP2
  have hPx : ∀ x ∈ XW cc ad sig0, va_at D vwCl x H2 := fun x hx => hPm x (List.mem_append_left _ hx)
  have hPq : va_P D vwCl [(q2, .inr (2, [.int 0, .int 0, .null, .null, .null, .null, .null, .null, .null, .null, .null, .int 0, .null, .int 0, .int 0, .int 0, .int 0, .null, .null, .int 0, .int 0]))] H2 := vaP_mem.mpr (fun x hx => hPm x (List.mem_append_right _ hx))
  have hxl : (XW cc ad sig0).length = 45 := rfl
  have hq2 : s.heap.size ≤ q2 := hD2.2 45 _ (by rw [List.getElem?_append_right (by rw [hxl]; exact Nat.le_refl _), hxl]; rfl)
  have hxm : (XW cc ad sig0).map Prod.fst = (List.range 45).map ad := rfl
  have hne : ∀ i, i < 45 → ad i ≠ q2 ∧ ad i < H2.size := by
    intro i hi
    have h1 : ((XW cc ad sig0).map Prod.fst)[i]? = some (ad i) := by rw [hxm, List.getElem?_map, List.getElem?_range hi]; rfl
    rw [List.getElem?_map] at h1
    cases hx2 : (XW cc ad sig0)[i]? with
    | none => rw [hx2] at h1; cases h1
    | some x =>
      rw [hx2] at h1
      have e1 : x.1 = ad i := Option.some.inj h1
      have hl1 := (hPx x (List.mem_of_getElem? hx2)).lt
      refine ⟨fun e2 => ?_, by rw [← e1]; exact hl1⟩
      have k1 : (XW cc ad sig0 ++ [(q2, (.inr (2, [.int 0, .int 0, .null, .null, .null, .null, .null, .null, .null, .null, .null, .int 0, .null, .int 0, .int 0, .int 0, .int 0, .null, .null, .int 0, .int 0]) : va_E))])[i]? = some x := by rw [List.getElem?_append_left (by rw [hxl]; exact hi)]; exact hx2
      have k2 : (XW cc ad sig0 ++ [(q2, (.inr (2, [.int 0, .int 0, .null, .null, .null, .null, .null, .null, .null, .null, .null, .int 0, .null, .int 0, .int 0, .int 0, .int 0, .null, .null, .int 0, .int 0]) : va_E))])[45]? = some (q2, .inr (2, [.int 0, .int 0, .null, .null, .null, .null, .null, .null, .null, .null, .null, .int 0, .null, .int 0, .int 0, .int 0, .int 0, .null, .null, .int 0, .int 0])) := by rw [List.getElem?_append_right (by rw [hxl]; exact Nat.le_refl _), hxl]; rfl
      have := hD2.1 i 45 _ _ k1 k2 (by rw [e1, e2])
      omega
  have hF2 : ∀ x : Nat, (x = q2 ∨ H2.size ≤ x) → s.heap.size ≤ x := by
    rintro x (rfl | h)
    · exact hq2
    · exact Nat.le_trans hS2.1 h
  refine va_callv (va_runI (As := []) (rest := [.ref q2]) ⟨hx, hb, hml, hown, hts⟩ (ci_X2_init l D cc q2 H2.size) (cwI 0 hts gL_law_X2_init rfl rfl rfl (hts (.initialized RX2) (List.mem_of_getElem? (i := 5) rfl)) (hts (.methodLink RL 12 yX2_init) (List.mem_of_getElem? (i := 39) rfl)) (hts (.instanceMethod yX2_init) (List.mem_of_getElem? (i := 40) rfl)) rfl (by decide +kernel) ⟨Nat.le_of_ble_eq_true rfl, Nat.le_of_ble_eq_true rfl⟩) ⟨blind _ _ _, fun U hU hW => ⟨rfl, by rw [hU], by rw [hU]; exact hPq, va_K.moved hW.alike hK, va_AO.moved hW.alike hAO⟩⟩ rfl rfl hl.1 rfl (lv_room (by simp [Value.category])) dL_law_12 ⟨Nat.le_of_ble_eq_true rfl, Nat.le_of_ble_eq_true rfl⟩) hS2 (fun x _ h => hF2 x h) hF2 (fun am t2 H3 locs ht2 hvm2 hw2 hB2 hz2 hk2 hS3 => ?_)
  obtain ⟨hu2, hdm⟩ := hw2
  have hmix : ∀ i k, i < 45 → k < 13 → ad i ≠ am k := by
    intro i k hi hk he
    obtain ⟨n1, n2⟩ := hne i hi
    rcases hdm.2 k hk with h | h
    · exact n1 (by rw [he, h])
    · omega
  have hdm2 : DA 13 am (fun q => s.heap.size ≤ q) := ⟨hdm.1, fun i hi => hF2 _ (hdm.2 i hi)⟩
  have hP3 : va_P D vwCl (LWd cc ad am (sig0, tau0)) H3 := by
    rw [vaP_mem]
    intro x hxm
    rcases List.mem_append.mp hxm with h | h
    · have h1 := hPx x h
      refine h1.kept (hk2 x.1 h1.lt ?_)
      obtain ⟨i, hi, e1⟩ := xw_ad h
      rintro (h2 | h2)
      · exact (hne i hi).1 (by rw [← e1, h2])
      · have := h1.lt
        omega
    · have hB3 := vaP_mem.mp hB2 x h
      rw [ht2] at hB3
      exact hB3
  subst hu2
  refine lv_astore_n (lv' := [(2, .ref (am 0)), (1, .ref (ad 0)), (0, .ref b)]) hx hb dL_law_15 rfl hl (by decide) rfl (fun ls hl => ?_)
  refine lv_iconst (v := 0) hx hb dL_law_16 (by decide) ?_
  refine lv_istore_n (lv' := [(3, .int 0), (2, .ref (am 0)), (1, .ref (ad 0)), (0, .ref b)]) hx hb dL_law_17 rfl hl (by decide) rfl (fun ls hl => ?_)
  refine W.widen (k := 100) (n := 100000) (by decide) (by decide) ?_
  exact law_loop ⟨hx, hb, hr, hml, hown, hts, hX, hbl, hlocks, hK, hSX⟩ (da_join hdx hdm2 hmix) hL (L + 1) 0 (by omega) (by omega) C00 sig0 tau0 rx_0 rm_0 (Nat.zero_le _) H3 _ ls hP3 hS3 (lv_sub hl [3, 2, 1, 0] rfl)
