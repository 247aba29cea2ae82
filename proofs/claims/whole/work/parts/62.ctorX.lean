def sig0 : XS := (fun _ => kap0, 0, fun _ => 0, fun _ => 0, 0, 20, 1, 1, 0, fun _ => 0, 0, 0)
def XBJ (cc : Nat → ClassId) (a : Nat → Nat) (f : Nat → Option Nat) : va_W := [(a 0, .inr (1, [.ref (a 1), .int 0, .ref (a 2), .ref (a 3), .int 0, .int 20, .int 1, .int 1, .int 0, .ref (a 4), .int 0, .int 0])), (a 1, .inl (cc 1, 8, .inr (.inr (.inr (.inr f))))), (a 2, .inl (cc 0, 40, .inl (fun _ => 0))), (a 3, .inl (cc 0, 40, .inl (fun _ => 0))), (a 4, .inl (cc 0, 512, .inl (fun _ => 0)))]
def XJ (cc : Nat → ClassId) (a : Nat → Nat) (f : Nat → Option Nat) (k : Nat) : va_W := XBJ cc a f ++ (List.range k).flatMap (fun j => KW cc (ka a j) kap0)
theorem xj_mem {cc : Nat → ClassId} {a : Nat → Nat} {f : Nat → Option Nat} {k : Nat} {q : Nat × va_E} : q ∈ XJ cc a f k ↔ q ∈ XBJ cc a f ∨ ∃ j, j < k ∧ q ∈ KW cc (ka a j) kap0 := by
  unfold XJ
  rw [List.mem_append, List.mem_flatMap]
  simp only [List.mem_range]
theorem xj_map {cc : Nat → ClassId} {a : Nat → Nat} {f : Nat → Option Nat} : ∀ k, (XJ cc a f k).map Prod.fst = (List.range (5 + 5 * k)).map a := by
  intro k
  induction k with
  | zero => rfl
  | succ k ih =>
    have e1 : XJ cc a f (k + 1) = XJ cc a f k ++ KW cc (ka a k) kap0 := by
      unfold XJ
      rw [List.range_succ, List.flatMap_append, List.append_assoc]
      simp
    rw [e1, List.map_append, ih, show 5 + 5 * (k + 1) = 5 + 5 * k + 1 + 1 + 1 + 1 + 1 by omega, List.range_succ, List.range_succ, List.range_succ, List.range_succ, List.range_succ]
    simp only [List.map_append, List.append_assoc]
    rfl
theorem xjD {A : Nat → Prop} {cc : Nat → ClassId} {a : Nat → Nat} {f : Nat → Option Nat} {k : Nat} (hd : DA (5 + 5 * k) a A) : va_D A (XJ cc a f k) := vaD_of (xj_map k) hd
theorem kw_congr {cc : Nat → ClassId} {a b : Nat → Nat} {s : KS} (h : ∀ i, i < 5 → a i = b i) : KW cc a s = KW cc b s := by
  unfold KW
  rw [h 0 (by decide), h 1 (by decide), h 2 (by decide), h 3 (by decide), h 4 (by decide)]
theorem xbj_congr {cc : Nat → ClassId} {a b : Nat → Nat} {f : Nat → Option Nat} (h : ∀ i, i < 5 → a i = b i) : XBJ cc a f = XBJ cc b f := by
  unfold XBJ
  rw [h 0 (by decide), h 1 (by decide), h 2 (by decide), h 3 (by decide), h 4 (by decide)]
theorem xbj_ad {cc : Nat → ClassId} {a : Nat → Nat} {f : Nat → Option Nat} {q : Nat × va_E} (h : q ∈ XBJ cc a f) : ∃ i, i < 5 ∧ q.1 = a i := by
  unfold XBJ at h
  simp only [List.mem_cons, List.not_mem_nil, or_false] at h
  rcases h with rfl | rfl | rfl | rfl | rfl
  · exact ⟨0, by decide, rfl⟩
  · exact ⟨1, by decide, rfl⟩
  · exact ⟨2, by decide, rfl⟩
  · exact ⟨3, by decide, rfl⟩
  · exact ⟨4, by decide, rfl⟩
theorem xj_ad {cc : Nat → ClassId} {a : Nat → Nat} {f : Nat → Option Nat} {k : Nat} {q : Nat × va_E} (h : q ∈ XJ cc a f k) : ∃ i, i < 5 + 5 * k ∧ q.1 = a i := by
  rcases xj_mem.mp h with h | ⟨j, hj, h⟩
  · obtain ⟨i, hi, e⟩ := xbj_ad h
    exact ⟨i, by omega, e⟩
  · obtain ⟨i, hi, e⟩ := kw_ad h
    exact ⟨5 + 5 * j + i, by omega, e⟩
theorem arrV_congr {cI : ClassId} {N : Nat} {f g : Nat → Value} (h : ∀ j, j < N → f j = g j) : arrV cI N f = arrV cI N g := by
  unfold arrV
  have e : (fun j : Fin N => f j.val) = (fun j : Fin N => g j.val) := funext (fun j => h j.val j.isLt)
  rw [e]
theorem xj_end {D : va_G} {cc : Nat → ClassId} {a : Nat → Nat} {f : Nat → Option Nat} {H : Heap} (hf : ∀ i, f i = if i < 8 then some (ka a i 0) else none) (hP : va_P D vwCl (XJ cc a f 8) H) : va_P D vwCl (XW cc a sig0) H := by
  rw [vaP_mem] at hP ⊢
  intro q hq
  rcases xw_mem.mp hq with h | ⟨j, hj, h⟩
  · unfold XB at h
    simp only [List.mem_cons, List.not_mem_nil, or_false] at h
    have hb : ∀ x ∈ XBJ cc a f, va_at D vwCl x H := fun x hx => hP x (xj_mem.mpr (Or.inl hx))
    rcases h with rfl | rfl | rfl | rfl | rfl
    · exact hb _ (by unfold XBJ; exact List.mem_of_getElem? (i := 0) rfl)
    · have h1 : H[a 1]? = some (vp_cell (cc 1) (8, .inr (.inr (.inr (.inr f))))) := hb (a 1, .inl (cc 1, 8, .inr (.inr (.inr (.inr f))))) (by unfold XBJ; exact List.mem_of_getElem? (i := 1) rfl)
      show H[a 1]? = some (vp_cell (cc 1) (8, .inr (.inr (.inr (.inr (fun j => some (ka a j 0)))))))
      rw [h1, vp_cell_q, vp_cell_q, arrV_congr (g := fun j => va_rf (some (ka a j 0)))]
      intro j hj
      rw [hf j, if_pos hj]
    · exact hb _ (by unfold XBJ; exact List.mem_of_getElem? (i := 2) rfl)
    · exact hb _ (by unfold XBJ; exact List.mem_of_getElem? (i := 3) rfl)
    · exact hb _ (by unfold XBJ; exact List.mem_of_getElem? (i := 4) rfl)
  · exact hP q (xj_mem.mpr (Or.inr ⟨j, hj, h⟩))
def XCx (p : Program) (s : State) (m : MethodId) (args : Array Value) (meth : Method) (c : Code) (D : va_G) (cc : Nat → ClassId) (A : Nat → Prop) : Prop :=
  p.tables.exec = Jvm.exec ∧ c.code = cX1_init ∧ c.maxLocals = 2 ∧ meth.sig.returnType = none ∧ s.vm.findClass RX1 = some m.cls ∧ (∀ w ∈ wsX1_init, w.before args s = true) ∧ meth.locks = false ∧ va_K D vwCl (TY cc) s ∧ (∀ q, s.heap.size ≤ q → A q) ∧ va_AO RX0 s
set_option maxHeartbeats 4000000 in
set_option maxRecDepth 100000 in
theorem xi_loop {p : Program} {l : Launch} {e : Env} {s : State} {m : MethodId} {args : Array Value} {below : List Frame} {meth : Method} {c : Code} {D : va_G} {cc : Nat → ClassId} {h0 : Nat} {A : Nat → Prop} (C0 : XCx p s m args meth c D cc A) :
    ∀ (n j : Nat), j + n = 8 → ∀ (a : Nat → Nat), a 0 = h0 → DA (5 + 5 * j) a A → ∀ (f : Nat → Option Nat), (∀ i, f i = if i < j then some (ka a i 0) else none) → ∀ (H : Heap) (locs : List Loc) (ls : Array Slot), va_P D vwCl (XJ cc a f j) H → va_S A s.heap H locs → lv_has ls 2 [(0, .ref (a 0)), (1, .int (nI j))] → W p l e { frames := 2, cells := 44, slots := 1528, locals := 32 } s m args below meth c H locs (4 + 5 * j) (600 + 116 * j) (MQ below (va_Qv (fun a : Nat → Nat => a 0 = h0 ∧ DA 45 a A) (fun a t => va_P D vwCl (XW cc a sig0) t.heap) A) args s 44 1528 A) (F0 m 81 ls []) := by
  obtain ⟨hx, hb, hml, hr, hown, hts, hlocks, hK, hA, hAO⟩ := C0
  intro n
  induction n with
  | zero =>
    intro j hj a ha hd f hf H locs ls hP hS hl
    obtain rfl : j = 8 := by omega
    refine lv_iload_n hx hb dX1_init_81 rfl (lv_at hl 1 rfl) ?_
    refine lv_bipush (v := 8) hx hb dX1_init_82 (by decide) ?_
    refine lv_icmp_ge (tgt := 106) hx hb dX1_init_84 (by decide) (fun c0 => ?_) (fun c0 => ?_)
    · have hP9 := xj_end hf hP
      exact W.vret hx hb hr (fun t ht hW => ⟨⟨a, rfl, ⟨ha, hd⟩, by show va_P D vwCl _ t.heap; rw [ht]; exact hP9⟩, hS.F ht⟩) hS.2.2 dX1_init_106
    · exact absurd (by decide) c0
  | succ n ih =>
    intro j hj a ha hd f hf H locs ls hP hS hl
    have hj8 : j < 8 := by omega
    refine lv_iload_n hx hb dX1_init_81 rfl (lv_at hl 1 rfl) ?_
    refine lv_bipush (v := 8) hx hb dX1_init_82 (by decide) ?_
    refine lv_icmp_ge (tgt := 106) hx hb dX1_init_84 (by decide) (fun c0 => ?_) (fun c0 => ?_)
    · exact absurd c0 (nI_ge (a := j) (b := 8) hj8 (by decide))
    refine lv_aload_n hx hb dX1_init_87 rfl (lv_at hl 0 rfl) ?_
    refine va_get (D := D) (ci := 1) (v := .ref (a 1)) (C := RX1) (T := TX1) (N := 12) hx hb hts (fun w h => List.mem_cons_of_mem _ (List.mem_append_left _ (List.mem_append_right _ h))) hown hK hP 0 rfl rfl 0 (by decide) (hts (.fieldLink RX1 11 "ClassSheets" "kinds" "[LClassSheets$Kind;") (List.mem_of_getElem? (i := 5) rfl)) (fun _ h9 => h9) rfl dX1_init_88 ?_
    refine lv_iload_n hx hb dX1_init_91 rfl (lv_at hl 1 rfl) ?_
    refine va_new (ci := 0) (fs := [.int 0, .null, .null, .null, .null, .int 0, .int 0]) (C := RX0) (T := TX0) (N := 7) hx hb hts (fun w h => List.mem_cons_of_mem _ (List.mem_append_right _ h)) tyX0 tyX0_ok hown (hts (.classLink RX1 9 RX0) (List.mem_of_getElem? (i := 4) rfl)) (hts (.instantiable RX0 7) (List.mem_of_getElem? (i := 18) rfl)) (hts (.initialized RX0) (List.mem_of_getElem? (i := 19) rfl)) hK hP (xjD hd) hS hA rfl (fun j hj => by rcases (show j = 0 ∨ j = 1 ∨ j = 2 ∨ j = 3 ∨ j = 4 ∨ j = 5 ∨ j = 6 by omega) with rfl | rfl | rfl | rfl | rfl | rfl | rfl <;> rfl) (by show 4 + 5 * j + 1 ≤ 44; omega) (by show 600 + 116 * j + 7 ≤ 1528; omega) dX1_init_92 (fun q H hP hD hS => ?_)
    refine lv_dup hx hb dX1_init_95 rfl ?_
    have hPm := vaP_mem.mp hP
    have hPq : va_P D vwCl [(q, .inr (0, [.int 0, .null, .null, .null, .null, .int 0, .int 0]))] H := vaP_mem.mpr (fun x hx => hPm x (List.mem_append_right _ hx))
    have hPx : ∀ x ∈ XJ cc a f j, va_at D vwCl x H := fun x hx => hPm x (List.mem_append_left _ hx)
    have hqA : A q := by
      obtain ⟨k, hk⟩ := List.getElem?_of_mem (List.mem_append_right (XJ cc a f j) (List.mem_singleton.mpr (rfl : (q, (.inr (0, [.int 0, .null, .null, .null, .null, .int 0, .int 0]) : va_E)) = _)))
      exact hD.2 k _ hk
    have hF : ∀ x : Nat, (x = q ∨ H.size ≤ x) → A x := by
      rintro x (rfl | h)
      · exact hqA
      · exact hA x (Nat.le_trans hS.1 h)
    have hne : ∀ i, i < 5 + 5 * j → a i ≠ q ∧ a i < H.size := by
      intro i hi
      have hmap := xj_map (cc := cc) (a := a) (f := f) j
      have h1 : ((XJ cc a f j).map Prod.fst)[i]? = some (a i) := by rw [hmap, List.getElem?_map, List.getElem?_range hi]; rfl
      rw [List.getElem?_map] at h1
      cases hx2 : (XJ cc a f j)[i]? with
      | none => rw [hx2] at h1; cases h1
      | some x =>
        rw [hx2] at h1
        have e1 : x.1 = a i := Option.some.inj h1
        have hxm := List.mem_of_getElem? hx2
        have hl1 := (hPx x hxm).lt
        have hlen : i < (XJ cc a f j).length := (List.getElem?_eq_some_iff.mp hx2).1
        refine ⟨fun e2 => ?_, by rw [← e1]; exact hl1⟩
        have g1 : (XJ cc a f j ++ [(q, (.inr (0, [.int 0, .null, .null, .null, .null, .int 0, .int 0]) : va_E))])[i]? = some x := by rw [List.getElem?_append_left hlen]; exact hx2
        have g2 : (XJ cc a f j ++ [(q, (.inr (0, [.int 0, .null, .null, .null, .null, .int 0, .int 0]) : va_E))])[(XJ cc a f j).length]? = some (q, .inr (0, [.int 0, .null, .null, .null, .null, .int 0, .int 0])) := by rw [List.getElem?_append_right (Nat.le_refl _), Nat.sub_self]; rfl
        have := hD.1 i _ _ _ g1 g2 (by rw [e1, e2])
        omega
    refine va_callv (va_runI (As := []) (rest := [.ref q, .int (nI j), .ref (a 1)]) ⟨hx, hb, hml, hown, hts⟩ (ci_X0_init l D cc q H.size) (cwI 0 hts gX1_init_X0_init rfl rfl rfl (hts (.initialized RX0) (List.mem_of_getElem? (i := 19) rfl)) (hts (.methodLink RX1 50 yX0_init) (List.mem_of_getElem? (i := 20) rfl)) (hts (.instanceMethod yX0_init) (List.mem_of_getElem? (i := 21) rfl)) rfl (by decide +kernel) ⟨Nat.le_of_ble_eq_true rfl, Nat.le_of_ble_eq_true rfl⟩) ⟨fun a U g mk z => ⟨z.1, z.2.1, z.2.2.1, va_K.moved (u := U) (U := U.calling g mk a) (Vm.Alike.refl U.vm) z.2.2.2.1, va_AO.moved (u := U) (U := U.calling g mk a) (Vm.Alike.refl U.vm) z.2.2.2.2⟩, fun U hU hW => ⟨rfl, by rw [hU], by rw [hU]; exact hPq, va_K.moved hW.alike hK, va_AO.moved hW.alike hAO⟩⟩ rfl rfl hl.1 rfl (lv_room (by simp [Value.category])) dX1_init_96 ⟨by show 4 + 5 * j + 1 + 4 ≤ 44; omega, by show 600 + 116 * j + 7 + 109 ≤ 1528; omega⟩) hS (fun x _ h => hF x h) hF (fun u t H1 locs ht hvm hw hB hz1 hk1 hS => ?_)
    obtain ⟨hu0, hdu⟩ := hw
    obtain ⟨a2, ea2⟩ : ∃ a2 : Nat → Nat, a2 = fun i => if i < 5 + 5 * j then a i else u (i - (5 + 5 * j)) := ⟨_, rfl⟩
    have e_lo : ∀ i, i < 5 + 5 * j → a2 i = a i := fun i hi => by rw [ea2]; exact if_pos hi
    have e_hi : ∀ i, a2 (5 + 5 * j + i) = u i := fun i => by
      rw [ea2]
      show (if 5 + 5 * j + i < 5 + 5 * j then a (5 + 5 * j + i) else u (5 + 5 * j + i - (5 + 5 * j))) = u i
      rw [if_neg (by omega), show 5 + 5 * j + i - (5 + 5 * j) = i by omega]
    have hkj : KW cc (ka a2 j) kap0 = KW cc u kap0 := kw_congr (fun i _ => e_hi i)
    have hP2 : va_P D vwCl (XJ cc a2 f (j + 1)) H1 := by
      rw [vaP_mem]
      have keep : ∀ x ∈ XJ cc a f j, va_at D vwCl x H1 := by
        intro x hxm
        have h1 := hPx x hxm
        refine h1.kept (hk1 x.1 h1.lt ?_)
        obtain ⟨i, hi, e1⟩ := xj_ad hxm
        rintro (h2 | h2)
        · exact (hne i hi).1 (by rw [← e1, h2])
        · have := h1.lt
          omega
      intro x hxm
      rcases xj_mem.mp hxm with h | ⟨k, hk, h⟩
      · rw [xbj_congr (b := a) (fun i hi => e_lo i (by omega))] at h
        exact keep x (xj_mem.mpr (Or.inl h))
      · by_cases hkj2 : k = j
        · subst hkj2
          rw [hkj] at h
          have hB2 := vaP_mem.mp hB x h
          rw [ht] at hB2
          exact hB2
        · rw [kw_congr (a := ka a2 k) (b := ka a k) (fun i hi => e_lo _ (by omega))] at h
          exact keep x (xj_mem.mpr (Or.inr ⟨k, by omega, h⟩))
    have hd2 : DA (5 + 5 * (j + 1)) a2 A := by
      have mix : ∀ i k, i < 5 + 5 * j → k < 5 → a i ≠ u k := by
        intro i k hi hk he
        obtain ⟨n1, n2⟩ := hne i hi
        rcases hdu.2 k hk with h | h
        · exact n1 (by rw [he, h])
        · omega
      refine ⟨fun i k hi hk he => ?_, fun i hi => ?_⟩
      · rcases Nat.lt_or_ge i (5 + 5 * j) with h1 | h1
        · rcases Nat.lt_or_ge k (5 + 5 * j) with h2 | h2
          · rw [e_lo i h1, e_lo k h2] at he
            exact hd.1 i k h1 h2 he
          · rw [e_lo i h1, show k = 5 + 5 * j + (k - (5 + 5 * j)) by omega, e_hi] at he
            exact absurd he (mix i _ h1 (by omega))
        · rcases Nat.lt_or_ge k (5 + 5 * j) with h2 | h2
          · rw [e_lo k h2, show i = 5 + 5 * j + (i - (5 + 5 * j)) by omega, e_hi] at he
            exact absurd he.symm (mix k _ h2 (by omega))
          · rw [show i = 5 + 5 * j + (i - (5 + 5 * j)) by omega, show k = 5 + 5 * j + (k - (5 + 5 * j)) by omega, e_hi, e_hi] at he
            have := hdu.1 _ _ (by omega) (by omega) he
            omega
      · rcases Nat.lt_or_ge i (5 + 5 * j) with h1 | h1
        · rw [e_lo i h1]
          exact hd.2 i h1
        · rw [show i = 5 + 5 * j + (i - (5 + 5 * j)) by omega, e_hi]
          exact hF _ (hdu.2 _ (by omega))
    have hq2 : ka a2 j 0 = q := (e_hi 0).trans hu0
    obtain ⟨qk, hqk⟩ : ∃ qk : Nat, (XJ cc a2 f (j + 1))[qk]? = some (q, .inr (0, [.int (ks_op kap0), .ref (ka a2 j 1), .ref (ka a2 j 2), .ref (ka a2 j 3), .ref (ka a2 j 4), .int (ks_co kap0), .int (ks_pl kap0)])) := by
      refine List.getElem?_of_mem (xj_mem.mpr (Or.inr ⟨j, by omega, ?_⟩))
      rw [← hq2]
      unfold KW
      exact List.mem_of_getElem? (i := 0) rfl
    rw [← e_lo 1 (by omega)]
    have hcl : (nI j).toNatClampNeg = j := nI_clamp (by omega)
    refine va_astq (D := D) (r := (RX0, TX0, 7)) (n := 8) (v := q) (f := f) hx hb hK hP2 (xjD hd2) hS 1 1 qk 0 rfl rfl hqk rfl (vp_in_nI hj8 (by decide)) dX1_init_99 (fun H locs hP _ hS => ?_)
    have hP : va_P D vwCl (XJ cc a2 (va_up f (nI j).toNatClampNeg (some q)) (j + 1)) H := hP
    refine lv_iinc (v := nI (j + 1)) (lv' := [(1, .int (nI (j + 1))), (0, .ref (a 0))]) hx hb dX1_init_100 hl (k := 1) rfl (nI_1 j) (by decide) rfl (fun ls hl => ?_)
    refine lv_goto (tgt := 81) hx hb dX1_init_103 (by decide) ?_
    refine W.widen (k := 4 + 5 * (j + 1)) (n := 600 + 116 * (j + 1)) (by omega) (by omega) ?_
    refine ih (j + 1) (by omega) a2 (by rw [e_lo 0 (by omega)]; exact ha) hd2 _ (fun i => ?_) H locs ls hP hS (by rw [e_lo 0 (by omega)]; exact lv_sub hl [1, 0] rfl)
    rw [hcl]
    by_cases hij : i = j
    · subst hij
      rw [va_up_self, if_pos (by omega), hq2]
    · rw [va_up_ne _ _ hij, hf i]
      by_cases h1 : i < j
      · rw [if_pos h1, if_pos (by omega)]
        have : ka a2 i 0 = ka a i 0 := e_lo _ (by omega)
        rw [this]
      · rw [if_neg h1, if_neg (by omega)]

set_option maxHeartbeats 4000000 in
set_option maxRecDepth 100000 in
theorem ci_X1_init (l : Launch) (D : va_G) (cc : Nat → ClassId) (h0 sz : Nat) : Met l yX1_init wsX1_init { frames := 2, cells := 44, slots := 1528, locals := 32 } (CIPre D cc [(h0, .inr (1, [.null, .int 0, .null, .null, .int 0, .int 0, .int 0, .int 0, .int 0, .null, .int 0, .int 0]))] h0 sz) (va_Qv (fun a : Nat → Nat => a 0 = h0 ∧ DA 45 a (AI h0 sz)) (fun a t => va_P D vwCl (XW cc a sig0) t.heap) (AI h0 sz)) 44 1528 (AI h0 sz) := by
  refine Met.ofW (cc := cX1_init) (maxL := 2) (ret := none) (by decide +kernel) rfl ?_
  intro p e s m args below meth c s₁ B hml hv
  obtain ⟨rfl, hsz, hP, hK, hAO⟩ := hv
  have hx := B.exec
  have hb := B.bytes
  have hr := B.returns
  have hts := atoms_spec (ws := wsX1_init) B.pre
  have hown : s.vm.findClass RX1 = some m.cls := findClass_of_methodNamed B.named
  have hlocks := B.notSynchronized
  have hin2 : meth.name = "<init>" := (name_of_methodNamed B.named B.method).1
  have hin : ∀ w ∈ u_ws RX1 TX1 12, w ∈ wsX1_init := fun w h => List.mem_cons_of_mem _ (List.mem_append_left _ (List.mem_append_right _ h))
  subst hsz
  have hD : va_D (AI h0 s.heap.size) [(h0, .inr (1, [.null, .int 0, .null, .null, .int 0, .int 0, .int 0, .int 0, .int 0, .null, .int 0, .int 0]))] := ⟨fun i j p q hi hj _ => one_ix hi hj, fun k q hk => Or.inl (one_ad hk)⟩
  generalize hAe : (AI h0 s.heap.size) = A at hD ⊢
  have hA : ∀ q : Nat, s.heap.size ≤ q → A q := fun q h => by rw [← hAe]; exact Or.inr h
  have hS : va_S A s.heap s.heap [] := va_S.rf
  have hl := lv_entry ([.ref h0]) (n := 2) (Nat.le_of_ble_eq_true rfl)
  rw [lg_entry_eq]
  generalize (lg_sl ([.ref h0]) ++ List.replicate (2 - (lg_sl ([.ref h0])).length) Slot.unset).toArray = ls at hl ⊢
  have hl : lv_has ls 2 [(0, .ref h0)] := hl
  show W p l e { frames := 2, cells := 44, slots := 1528, locals := 32 } s m _ below meth c s.heap [] 0 0 _ _
  have hP : va_P D vwCl [(h0, .inr (1, [.null, .int 0, .null, .null, .int 0, .int 0, .int 0, .int 0, .int 0, .null, .int 0, .int 0]))] s.heap := hP
  refine lv_aload_n hx hb dX1_init_0 rfl (lv_at hl 0 rfl) ?_
  refine W.objInit hx hb hown (hts (.methodLink RX1 1 objectInit) (List.mem_of_getElem? (i := 1) rfl)) (hts (.instanceMethod objectInit) (List.mem_of_getElem? (i := 2) rfl)) (hts (.code objectInit ⟨#[0xb1]⟩ 1 none) (List.mem_of_getElem? (i := 3) rfl)) rfl (by rw [hml]; exact hl.1) rfl dX1_init_1 (Nat.le_of_ble_eq_true rfl) (Nat.le_of_ble_eq_true rfl) ?_
  refine W.eq (g2 := F0 m 4 ls []) rfl ?_
  refine lv_aload_n hx hb dX1_init_4 rfl (lv_at hl 0 rfl) ?_
  refine lv_bipush (v := 8) hx hb dX1_init_5 (by decide) ?_
  refine va_newq (D := D) (cl := vwCl) (tys := TY cc) (ws := [(h0, .inr (1, [.null, .int 0, .null, .null, .int 0, .int 0, .int 0, .int 0, .int 0, .null, .int 0, .int 0]))]) (A := A) (C := RX0) hx hb hown (hts (.classLink RX1 9 RX0) (List.mem_of_getElem? (i := 4) rfl)) hAO hK hP hD hS hA (n := 8) (N' := 8) (by decide) (by decide) (by decide) (Nat.le_of_ble_eq_true rfl) (Nat.le_of_ble_eq_true rfl) dX1_init_7 (fun q1 cA H hK1 hP hD hS => ?_)
  obtain rfl := ca_obj hK1
  have hP : va_P D vwCl [(h0, .inr (1, [.null, .int 0, .null, .null, .int 0, .int 0, .int 0, .int 0, .int 0, .null, .int 0, .int 0])), (q1, .inl (cc 1, 8, .inr (.inr (.inr (.inr (fun _ => none))))))] H := hP
  have hD : va_D A [(h0, .inr (1, [.null, .int 0, .null, .null, .int 0, .int 0, .int 0, .int 0, .int 0, .null, .int 0, .int 0])), (q1, .inl (cc 1, 8, .inr (.inr (.inr (.inr (fun _ => none))))))] := hD
  refine W.widen (k := 1) (n := 8) (Nat.le_of_ble_eq_true rfl) (Nat.le_of_ble_eq_true rfl) ?_
  refine va_putF (D := D) (ci := 1) (v := .ref q1) (ty := (.array (.object "ClassSheets$Kind"))) (C := RX1) (T := TX1) (N := 12) hx hb hts hin tyX1 tyX1_ok nmX1 hown hK hP hD hS 0 rfl rfl 0 (by decide) (hts (.fieldLink RX1 11 "ClassSheets" "kinds" "[LClassSheets$Kind;") (List.mem_of_getElem? (i := 5) rfl)) (fun _ h9 => h9) rfl hin2 rfl (by decide +kernel) rfl rfl (Nat.le_of_ble_eq_true rfl) dX1_init_10 (fun H locs hP hD hS => ?_)
  have hP : va_P D vwCl [(h0, .inr (1, [.ref q1, .int 0, .null, .null, .int 0, .int 0, .int 0, .int 0, .int 0, .null, .int 0, .int 0])), (q1, .inl (cc 1, 8, .inr (.inr (.inr (.inr (fun _ => none))))))] H := hP
  have hD : va_D A [(h0, .inr (1, [.ref q1, .int 0, .null, .null, .int 0, .int 0, .int 0, .int 0, .int 0, .null, .int 0, .int 0])), (q1, .inl (cc 1, 8, .inr (.inr (.inr (.inr (fun _ => none))))))] := hD
  refine lv_aload_n hx hb dX1_init_13 rfl (lv_at hl 0 rfl) ?_
  refine lv_iconst (v := 0) hx hb dX1_init_14 (by decide) ?_
  refine va_put (D := D) (ci := 1) (v := .int 0) (ty := .int) (C := RX1) (T := TX1) (N := 12) hx hb hts hin tyX1 tyX1_ok nmX1 hown hK hP hD hS 0 rfl rfl 1 (by decide) (hts (.fieldLink RX1 15 "ClassSheets" "kindCount" "I") (List.mem_of_getElem? (i := 6) rfl)) (fun _ h9 => h9) rfl (by decide +kernel) rfl rfl (Nat.le_of_ble_eq_true rfl) dX1_init_15 (fun H locs hP hD hS => ?_)
  have hP : va_P D vwCl [(h0, .inr (1, [.ref q1, .int 0, .null, .null, .int 0, .int 0, .int 0, .int 0, .int 0, .null, .int 0, .int 0])), (q1, .inl (cc 1, 8, .inr (.inr (.inr (.inr (fun _ => none))))))] H := hP
  have hD : va_D A [(h0, .inr (1, [.ref q1, .int 0, .null, .null, .int 0, .int 0, .int 0, .int 0, .int 0, .null, .int 0, .int 0])), (q1, .inl (cc 1, 8, .inr (.inr (.inr (.inr (fun _ => none))))))] := hD
  refine lv_aload_n hx hb dX1_init_18 rfl (lv_at hl 0 rfl) ?_
  refine lv_bipush (v := 40) hx hb dX1_init_19 (by decide) ?_
  refine va_newa (atype := .int) (D := D) (cl := vwCl) (tys := TY cc) (ws := [(h0, .inr (1, [.ref q1, .int 0, .null, .null, .int 0, .int 0, .int 0, .int 0, .int 0, .null, .int 0, .int 0])), (q1, .inl (cc 1, 8, .inr (.inr (.inr (.inr (fun _ => none))))))]) (A := A) hx hb (hts (.arrayClass .int) (List.mem_of_getElem? (i := 7) rfl)) (ty := .int) rfl hK hP hD hS hA (a0 := (40, .inl (fun _ => 0))) (fun _ => rfl) (n := 40) (nI_pos (n := 40) (by decide)) (nI_clamp (n := 40) (by decide)) (by decide) (Nat.le_of_ble_eq_true rfl) (Nat.le_of_ble_eq_true rfl) dX1_init_21 (fun q2 cA H hK1 hP hD hS => ?_)
  obtain rfl := ca_int hK1
  have hP : va_P D vwCl [(h0, .inr (1, [.ref q1, .int 0, .null, .null, .int 0, .int 0, .int 0, .int 0, .int 0, .null, .int 0, .int 0])), (q1, .inl (cc 1, 8, .inr (.inr (.inr (.inr (fun _ => none)))))), (q2, .inl (cc 0, 40, .inl (fun _ => 0)))] H := hP
  have hD : va_D A [(h0, .inr (1, [.ref q1, .int 0, .null, .null, .int 0, .int 0, .int 0, .int 0, .int 0, .null, .int 0, .int 0])), (q1, .inl (cc 1, 8, .inr (.inr (.inr (.inr (fun _ => none)))))), (q2, .inl (cc 0, 40, .inl (fun _ => 0)))] := hD
  refine W.widen (k := 2) (n := 48) (Nat.le_of_ble_eq_true rfl) (Nat.le_of_ble_eq_true rfl) ?_
  refine va_putF (D := D) (ci := 1) (v := .ref q2) (ty := (.array .int)) (C := RX1) (T := TX1) (N := 12) hx hb hts hin tyX1 tyX1_ok nmX1 hown hK hP hD hS 0 rfl rfl 2 (by decide) (hts (.fieldLink RX1 19 "ClassSheets" "plannedKinds" "[I") (List.mem_of_getElem? (i := 8) rfl)) (fun _ h9 => h9) rfl hin2 rfl (by decide +kernel) rfl rfl (Nat.le_of_ble_eq_true rfl) dX1_init_23 (fun H locs hP hD hS => ?_)
  have hP : va_P D vwCl [(h0, .inr (1, [.ref q1, .int 0, .ref q2, .null, .int 0, .int 0, .int 0, .int 0, .int 0, .null, .int 0, .int 0])), (q1, .inl (cc 1, 8, .inr (.inr (.inr (.inr (fun _ => none)))))), (q2, .inl (cc 0, 40, .inl (fun _ => 0)))] H := hP
  have hD : va_D A [(h0, .inr (1, [.ref q1, .int 0, .ref q2, .null, .int 0, .int 0, .int 0, .int 0, .int 0, .null, .int 0, .int 0])), (q1, .inl (cc 1, 8, .inr (.inr (.inr (.inr (fun _ => none)))))), (q2, .inl (cc 0, 40, .inl (fun _ => 0)))] := hD
  refine lv_aload_n hx hb dX1_init_26 rfl (lv_at hl 0 rfl) ?_
  refine lv_bipush (v := 40) hx hb dX1_init_27 (by decide) ?_
  refine va_newa (atype := .int) (D := D) (cl := vwCl) (tys := TY cc) (ws := [(h0, .inr (1, [.ref q1, .int 0, .ref q2, .null, .int 0, .int 0, .int 0, .int 0, .int 0, .null, .int 0, .int 0])), (q1, .inl (cc 1, 8, .inr (.inr (.inr (.inr (fun _ => none)))))), (q2, .inl (cc 0, 40, .inl (fun _ => 0)))]) (A := A) hx hb (hts (.arrayClass .int) (List.mem_of_getElem? (i := 7) rfl)) (ty := .int) rfl hK hP hD hS hA (a0 := (40, .inl (fun _ => 0))) (fun _ => rfl) (n := 40) (nI_pos (n := 40) (by decide)) (nI_clamp (n := 40) (by decide)) (by decide) (Nat.le_of_ble_eq_true rfl) (Nat.le_of_ble_eq_true rfl) dX1_init_29 (fun q3 cA H hK1 hP hD hS => ?_)
  obtain rfl := ca_int hK1
  have hP : va_P D vwCl [(h0, .inr (1, [.ref q1, .int 0, .ref q2, .null, .int 0, .int 0, .int 0, .int 0, .int 0, .null, .int 0, .int 0])), (q1, .inl (cc 1, 8, .inr (.inr (.inr (.inr (fun _ => none)))))), (q2, .inl (cc 0, 40, .inl (fun _ => 0))), (q3, .inl (cc 0, 40, .inl (fun _ => 0)))] H := hP
  have hD : va_D A [(h0, .inr (1, [.ref q1, .int 0, .ref q2, .null, .int 0, .int 0, .int 0, .int 0, .int 0, .null, .int 0, .int 0])), (q1, .inl (cc 1, 8, .inr (.inr (.inr (.inr (fun _ => none)))))), (q2, .inl (cc 0, 40, .inl (fun _ => 0))), (q3, .inl (cc 0, 40, .inl (fun _ => 0)))] := hD
  refine W.widen (k := 3) (n := 88) (Nat.le_of_ble_eq_true rfl) (Nat.le_of_ble_eq_true rfl) ?_
  refine va_putF (D := D) (ci := 1) (v := .ref q3) (ty := (.array .int)) (C := RX1) (T := TX1) (N := 12) hx hb hts hin tyX1 tyX1_ok nmX1 hown hK hP hD hS 0 rfl rfl 3 (by decide) (hts (.fieldLink RX1 23 "ClassSheets" "turns" "[I") (List.mem_of_getElem? (i := 9) rfl)) (fun _ h9 => h9) rfl hin2 rfl (by decide +kernel) rfl rfl (Nat.le_of_ble_eq_true rfl) dX1_init_31 (fun H locs hP hD hS => ?_)
  have hP : va_P D vwCl [(h0, .inr (1, [.ref q1, .int 0, .ref q2, .ref q3, .int 0, .int 0, .int 0, .int 0, .int 0, .null, .int 0, .int 0])), (q1, .inl (cc 1, 8, .inr (.inr (.inr (.inr (fun _ => none)))))), (q2, .inl (cc 0, 40, .inl (fun _ => 0))), (q3, .inl (cc 0, 40, .inl (fun _ => 0)))] H := hP
  have hD : va_D A [(h0, .inr (1, [.ref q1, .int 0, .ref q2, .ref q3, .int 0, .int 0, .int 0, .int 0, .int 0, .null, .int 0, .int 0])), (q1, .inl (cc 1, 8, .inr (.inr (.inr (.inr (fun _ => none)))))), (q2, .inl (cc 0, 40, .inl (fun _ => 0))), (q3, .inl (cc 0, 40, .inl (fun _ => 0)))] := hD
  refine lv_aload_n hx hb dX1_init_34 rfl (lv_at hl 0 rfl) ?_
  refine lv_iconst (v := 0) hx hb dX1_init_35 (by decide) ?_
  refine va_put (D := D) (ci := 1) (v := .int 0) (ty := .int) (C := RX1) (T := TX1) (N := 12) hx hb hts hin tyX1 tyX1_ok nmX1 hown hK hP hD hS 0 rfl rfl 4 (by decide) (hts (.fieldLink RX1 26 "ClassSheets" "placeCount" "I") (List.mem_of_getElem? (i := 10) rfl)) (fun _ h9 => h9) rfl (by decide +kernel) rfl rfl (Nat.le_of_ble_eq_true rfl) dX1_init_36 (fun H locs hP hD hS => ?_)
  have hP : va_P D vwCl [(h0, .inr (1, [.ref q1, .int 0, .ref q2, .ref q3, .int 0, .int 0, .int 0, .int 0, .int 0, .null, .int 0, .int 0])), (q1, .inl (cc 1, 8, .inr (.inr (.inr (.inr (fun _ => none)))))), (q2, .inl (cc 0, 40, .inl (fun _ => 0))), (q3, .inl (cc 0, 40, .inl (fun _ => 0)))] H := hP
  have hD : va_D A [(h0, .inr (1, [.ref q1, .int 0, .ref q2, .ref q3, .int 0, .int 0, .int 0, .int 0, .int 0, .null, .int 0, .int 0])), (q1, .inl (cc 1, 8, .inr (.inr (.inr (.inr (fun _ => none)))))), (q2, .inl (cc 0, 40, .inl (fun _ => 0))), (q3, .inl (cc 0, 40, .inl (fun _ => 0)))] := hD
  refine lv_aload_n hx hb dX1_init_39 rfl (lv_at hl 0 rfl) ?_
  refine lv_bipush (v := 20) hx hb dX1_init_40 (by decide) ?_
  refine va_put (D := D) (ci := 1) (v := .int 20) (ty := .int) (C := RX1) (T := TX1) (N := 12) hx hb hts hin tyX1 tyX1_ok nmX1 hown hK hP hD hS 0 rfl rfl 5 (by decide) (hts (.fieldLink RX1 29 "ClassSheets" "pageLines" "I") (List.mem_of_getElem? (i := 11) rfl)) (fun _ h9 => h9) rfl (by decide +kernel) rfl rfl (Nat.le_of_ble_eq_true rfl) dX1_init_42 (fun H locs hP hD hS => ?_)
  have hP : va_P D vwCl [(h0, .inr (1, [.ref q1, .int 0, .ref q2, .ref q3, .int 0, .int 20, .int 0, .int 0, .int 0, .null, .int 0, .int 0])), (q1, .inl (cc 1, 8, .inr (.inr (.inr (.inr (fun _ => none)))))), (q2, .inl (cc 0, 40, .inl (fun _ => 0))), (q3, .inl (cc 0, 40, .inl (fun _ => 0)))] H := hP
  have hD : va_D A [(h0, .inr (1, [.ref q1, .int 0, .ref q2, .ref q3, .int 0, .int 20, .int 0, .int 0, .int 0, .null, .int 0, .int 0])), (q1, .inl (cc 1, 8, .inr (.inr (.inr (.inr (fun _ => none)))))), (q2, .inl (cc 0, 40, .inl (fun _ => 0))), (q3, .inl (cc 0, 40, .inl (fun _ => 0)))] := hD
  refine lv_aload_n hx hb dX1_init_45 rfl (lv_at hl 0 rfl) ?_
  refine lv_iconst (v := 1) hx hb dX1_init_46 (by decide) ?_
  refine va_put (D := D) (ci := 1) (v := .int 1) (ty := .int) (C := RX1) (T := TX1) (N := 12) hx hb hts hin tyX1 tyX1_ok nmX1 hown hK hP hD hS 0 rfl rfl 6 (by decide) (hts (.fieldLink RX1 32 "ClassSheets" "rowCount" "I") (List.mem_of_getElem? (i := 12) rfl)) (fun _ h9 => h9) rfl (by decide +kernel) rfl rfl (Nat.le_of_ble_eq_true rfl) dX1_init_47 (fun H locs hP hD hS => ?_)
  have hP : va_P D vwCl [(h0, .inr (1, [.ref q1, .int 0, .ref q2, .ref q3, .int 0, .int 20, .int 1, .int 0, .int 0, .null, .int 0, .int 0])), (q1, .inl (cc 1, 8, .inr (.inr (.inr (.inr (fun _ => none)))))), (q2, .inl (cc 0, 40, .inl (fun _ => 0))), (q3, .inl (cc 0, 40, .inl (fun _ => 0)))] H := hP
  have hD : va_D A [(h0, .inr (1, [.ref q1, .int 0, .ref q2, .ref q3, .int 0, .int 20, .int 1, .int 0, .int 0, .null, .int 0, .int 0])), (q1, .inl (cc 1, 8, .inr (.inr (.inr (.inr (fun _ => none)))))), (q2, .inl (cc 0, 40, .inl (fun _ => 0))), (q3, .inl (cc 0, 40, .inl (fun _ => 0)))] := hD
  refine lv_aload_n hx hb dX1_init_50 rfl (lv_at hl 0 rfl) ?_
  refine lv_iconst (v := 1) hx hb dX1_init_51 (by decide) ?_
  refine va_put (D := D) (ci := 1) (v := .int 1) (ty := .int) (C := RX1) (T := TX1) (N := 12) hx hb hts hin tyX1 tyX1_ok nmX1 hown hK hP hD hS 0 rfl rfl 7 (by decide) (hts (.fieldLink RX1 35 "ClassSheets" "columnCount" "I") (List.mem_of_getElem? (i := 13) rfl)) (fun _ h9 => h9) rfl (by decide +kernel) rfl rfl (Nat.le_of_ble_eq_true rfl) dX1_init_52 (fun H locs hP hD hS => ?_)
  have hP : va_P D vwCl [(h0, .inr (1, [.ref q1, .int 0, .ref q2, .ref q3, .int 0, .int 20, .int 1, .int 1, .int 0, .null, .int 0, .int 0])), (q1, .inl (cc 1, 8, .inr (.inr (.inr (.inr (fun _ => none)))))), (q2, .inl (cc 0, 40, .inl (fun _ => 0))), (q3, .inl (cc 0, 40, .inl (fun _ => 0)))] H := hP
  have hD : va_D A [(h0, .inr (1, [.ref q1, .int 0, .ref q2, .ref q3, .int 0, .int 20, .int 1, .int 1, .int 0, .null, .int 0, .int 0])), (q1, .inl (cc 1, 8, .inr (.inr (.inr (.inr (fun _ => none)))))), (q2, .inl (cc 0, 40, .inl (fun _ => 0))), (q3, .inl (cc 0, 40, .inl (fun _ => 0)))] := hD
  refine lv_aload_n hx hb dX1_init_55 rfl (lv_at hl 0 rfl) ?_
  refine lv_iconst (v := 0) hx hb dX1_init_56 (by decide) ?_
  refine va_put (D := D) (ci := 1) (v := .int 0) (ty := .int) (C := RX1) (T := TX1) (N := 12) hx hb hts hin tyX1 tyX1_ok nmX1 hown hK hP hD hS 0 rfl rfl 8 (by decide) (hts (.fieldLink RX1 38 "ClassSheets" "baseNumber" "I") (List.mem_of_getElem? (i := 14) rfl)) (fun _ h9 => h9) rfl (by decide +kernel) rfl rfl (Nat.le_of_ble_eq_true rfl) dX1_init_57 (fun H locs hP hD hS => ?_)
  have hP : va_P D vwCl [(h0, .inr (1, [.ref q1, .int 0, .ref q2, .ref q3, .int 0, .int 20, .int 1, .int 1, .int 0, .null, .int 0, .int 0])), (q1, .inl (cc 1, 8, .inr (.inr (.inr (.inr (fun _ => none)))))), (q2, .inl (cc 0, 40, .inl (fun _ => 0))), (q3, .inl (cc 0, 40, .inl (fun _ => 0)))] H := hP
  have hD : va_D A [(h0, .inr (1, [.ref q1, .int 0, .ref q2, .ref q3, .int 0, .int 20, .int 1, .int 1, .int 0, .null, .int 0, .int 0])), (q1, .inl (cc 1, 8, .inr (.inr (.inr (.inr (fun _ => none)))))), (q2, .inl (cc 0, 40, .inl (fun _ => 0))), (q3, .inl (cc 0, 40, .inl (fun _ => 0)))] := hD
  refine lv_aload_n hx hb dX1_init_60 rfl (lv_at hl 0 rfl) ?_
  refine lv_sipush (v := 512) hx hb dX1_init_61 (by decide) ?_
  refine va_newa (atype := .int) (D := D) (cl := vwCl) (tys := TY cc) (ws := [(h0, .inr (1, [.ref q1, .int 0, .ref q2, .ref q3, .int 0, .int 20, .int 1, .int 1, .int 0, .null, .int 0, .int 0])), (q1, .inl (cc 1, 8, .inr (.inr (.inr (.inr (fun _ => none)))))), (q2, .inl (cc 0, 40, .inl (fun _ => 0))), (q3, .inl (cc 0, 40, .inl (fun _ => 0)))]) (A := A) hx hb (hts (.arrayClass .int) (List.mem_of_getElem? (i := 7) rfl)) (ty := .int) rfl hK hP hD hS hA (a0 := (512, .inl (fun _ => 0))) (fun _ => rfl) (n := 512) (nI_pos (n := 512) (by decide)) (nI_clamp (n := 512) (by decide)) (by decide) (Nat.le_of_ble_eq_true rfl) (Nat.le_of_ble_eq_true rfl) dX1_init_64 (fun q4 cA H hK1 hP hD hS => ?_)
  obtain rfl := ca_int hK1
  have hP : va_P D vwCl [(h0, .inr (1, [.ref q1, .int 0, .ref q2, .ref q3, .int 0, .int 20, .int 1, .int 1, .int 0, .null, .int 0, .int 0])), (q1, .inl (cc 1, 8, .inr (.inr (.inr (.inr (fun _ => none)))))), (q2, .inl (cc 0, 40, .inl (fun _ => 0))), (q3, .inl (cc 0, 40, .inl (fun _ => 0))), (q4, .inl (cc 0, 512, .inl (fun _ => 0)))] H := hP
  have hD : va_D A [(h0, .inr (1, [.ref q1, .int 0, .ref q2, .ref q3, .int 0, .int 20, .int 1, .int 1, .int 0, .null, .int 0, .int 0])), (q1, .inl (cc 1, 8, .inr (.inr (.inr (.inr (fun _ => none)))))), (q2, .inl (cc 0, 40, .inl (fun _ => 0))), (q3, .inl (cc 0, 40, .inl (fun _ => 0))), (q4, .inl (cc 0, 512, .inl (fun _ => 0)))] := hD
  refine W.widen (k := 4) (n := 600) (Nat.le_of_ble_eq_true rfl) (Nat.le_of_ble_eq_true rfl) ?_
  refine va_putF (D := D) (ci := 1) (v := .ref q4) (ty := (.array .int)) (C := RX1) (T := TX1) (N := 12) hx hb hts hin tyX1 tyX1_ok nmX1 hown hK hP hD hS 0 rfl rfl 9 (by decide) (hts (.fieldLink RX1 41 "ClassSheets" "misses" "[I") (List.mem_of_getElem? (i := 15) rfl)) (fun _ h9 => h9) rfl hin2 rfl (by decide +kernel) rfl rfl (Nat.le_of_ble_eq_true rfl) dX1_init_66 (fun H locs hP hD hS => ?_)
  have hP : va_P D vwCl [(h0, .inr (1, [.ref q1, .int 0, .ref q2, .ref q3, .int 0, .int 20, .int 1, .int 1, .int 0, .ref q4, .int 0, .int 0])), (q1, .inl (cc 1, 8, .inr (.inr (.inr (.inr (fun _ => none)))))), (q2, .inl (cc 0, 40, .inl (fun _ => 0))), (q3, .inl (cc 0, 40, .inl (fun _ => 0))), (q4, .inl (cc 0, 512, .inl (fun _ => 0)))] H := hP
  have hD : va_D A [(h0, .inr (1, [.ref q1, .int 0, .ref q2, .ref q3, .int 0, .int 20, .int 1, .int 1, .int 0, .ref q4, .int 0, .int 0])), (q1, .inl (cc 1, 8, .inr (.inr (.inr (.inr (fun _ => none)))))), (q2, .inl (cc 0, 40, .inl (fun _ => 0))), (q3, .inl (cc 0, 40, .inl (fun _ => 0))), (q4, .inl (cc 0, 512, .inl (fun _ => 0)))] := hD
  refine lv_aload_n hx hb dX1_init_69 rfl (lv_at hl 0 rfl) ?_
  refine lv_iconst (v := 0) hx hb dX1_init_70 (by decide) ?_
  refine va_put (D := D) (ci := 1) (v := .int 0) (ty := .int) (C := RX1) (T := TX1) (N := 12) hx hb hts hin tyX1 tyX1_ok nmX1 hown hK hP hD hS 0 rfl rfl 10 (by decide) (hts (.fieldLink RX1 44 "ClassSheets" "rightMarks" "I") (List.mem_of_getElem? (i := 16) rfl)) (fun _ h9 => h9) rfl (by decide +kernel) rfl rfl (Nat.le_of_ble_eq_true rfl) dX1_init_71 (fun H locs hP hD hS => ?_)
  have hP : va_P D vwCl [(h0, .inr (1, [.ref q1, .int 0, .ref q2, .ref q3, .int 0, .int 20, .int 1, .int 1, .int 0, .ref q4, .int 0, .int 0])), (q1, .inl (cc 1, 8, .inr (.inr (.inr (.inr (fun _ => none)))))), (q2, .inl (cc 0, 40, .inl (fun _ => 0))), (q3, .inl (cc 0, 40, .inl (fun _ => 0))), (q4, .inl (cc 0, 512, .inl (fun _ => 0)))] H := hP
  have hD : va_D A [(h0, .inr (1, [.ref q1, .int 0, .ref q2, .ref q3, .int 0, .int 20, .int 1, .int 1, .int 0, .ref q4, .int 0, .int 0])), (q1, .inl (cc 1, 8, .inr (.inr (.inr (.inr (fun _ => none)))))), (q2, .inl (cc 0, 40, .inl (fun _ => 0))), (q3, .inl (cc 0, 40, .inl (fun _ => 0))), (q4, .inl (cc 0, 512, .inl (fun _ => 0)))] := hD
  refine lv_aload_n hx hb dX1_init_74 rfl (lv_at hl 0 rfl) ?_
  refine lv_iconst (v := 0) hx hb dX1_init_75 (by decide) ?_
  refine va_put (D := D) (ci := 1) (v := .int 0) (ty := .int) (C := RX1) (T := TX1) (N := 12) hx hb hts hin tyX1 tyX1_ok nmX1 hown hK hP hD hS 0 rfl rfl 11 (by decide) (hts (.fieldLink RX1 47 "ClassSheets" "wrongMarks" "I") (List.mem_of_getElem? (i := 17) rfl)) (fun _ h9 => h9) rfl (by decide +kernel) rfl rfl (Nat.le_of_ble_eq_true rfl) dX1_init_76 (fun H locs hP hD hS => ?_)
  have hP : va_P D vwCl [(h0, .inr (1, [.ref q1, .int 0, .ref q2, .ref q3, .int 0, .int 20, .int 1, .int 1, .int 0, .ref q4, .int 0, .int 0])), (q1, .inl (cc 1, 8, .inr (.inr (.inr (.inr (fun _ => none)))))), (q2, .inl (cc 0, 40, .inl (fun _ => 0))), (q3, .inl (cc 0, 40, .inl (fun _ => 0))), (q4, .inl (cc 0, 512, .inl (fun _ => 0)))] H := hP
  have hD : va_D A [(h0, .inr (1, [.ref q1, .int 0, .ref q2, .ref q3, .int 0, .int 20, .int 1, .int 1, .int 0, .ref q4, .int 0, .int 0])), (q1, .inl (cc 1, 8, .inr (.inr (.inr (.inr (fun _ => none)))))), (q2, .inl (cc 0, 40, .inl (fun _ => 0))), (q3, .inl (cc 0, 40, .inl (fun _ => 0))), (q4, .inl (cc 0, 512, .inl (fun _ => 0)))] := hD
  refine lv_iconst (v := 0) hx hb dX1_init_79 (by decide) ?_
  refine lv_istore_n (lv' := [(1, .int 0), (0, .ref h0)]) hx hb dX1_init_80 rfl hl (by decide) rfl (fun ls hl => ?_)
  subst hAe
  have hda : DA 5 (ad5 h0 q1 q2 q3 q4) (AI h0 s.heap.size) := da_of rfl hD
  exact xi_loop (l := l) ⟨hx, hb, hml, hr, hown, hts, hlocks, hK, hA, hAO⟩ 8 0 (by decide) (ad5 h0 q1 q2 q3 q4) rfl hda (fun _ => none) (fun i => by rw [if_neg (Nat.not_lt_zero i)]) H locs ls hP hS (lv_sub hl [1, 0] rfl)
