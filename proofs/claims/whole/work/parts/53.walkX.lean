theorem hin_X1_lacksVariants : ∀ w ∈ u_ws RX1 TX1 12, w ∈ wsX1_lacksVariants := fun w h => List.mem_cons_of_mem _ (List.mem_append_left _ (List.mem_append_right _ h))
set_option maxHeartbeats 4000000 in
set_option maxRecDepth 100000 in
theorem wk_X1_lacksVariants_2 {p : Program} {l : Launch} {e : Env} {s : State} {m : MethodId} {args : Array Value} {below : List Frame} {meth : Method} {c : Code} {D : va_G} {cc : Nat → ClassId} {ad : Nat → Nat} {A : Nat → Prop} {Post : Int32 → XS → Prop} {g : CS} (C0 : Cx p s m args meth c cX1_lacksVariants 2 (some .boolean) RX1 wsX1_lacksVariants D cc A) (hd : DA 45 ad A) {K2 : (XS × Int32) → Prop} (hK2 : ∀ a, K2 a → At_ p l e { frames := 1, cells := 0, slots := 0, locals := 20 } s m args below meth c (Qi_ below D (XW cc ad) A args s Post) D A (XW cc ad (a.1)) 2 2 [(0, .ref (ad 0)), (1, .int (a.2))] []) (σ : XS) (x1 : Int32) (h : wp_X1_lacksVariants_2 g K2 Post σ x1) : At_ p l e { frames := 1, cells := 0, slots := 0, locals := 20 } s m args below meth c (Qi_ below D (XW cc ad) A args s Post) D A (XW cc ad σ) 2 2 [(0, .ref (ad 0)), (1, .int x1)] [] := by
  obtain ⟨hx, hb, hml, hr, hown, hts, hlocks, hK, hA, hX⟩ := id C0
  have hin := hin_X1_lacksVariants
  intro H locs ls hP hS hl
  unfold wp_X1_lacksVariants_2 at h
  refine lv_iload_n hx hb dX1_lacksVariants_2 rfl (lv_at hl 1 rfl) ?_
  refine lv_aload_n hx hb dX1_lacksVariants_3 rfl (lv_at hl 0 rfl) ?_
  refine va_get (D := D) (ci := 1) (v := .int (xs_pc σ)) (C := RX1) (T := TX1) (N := 12) hx hb hts hin hown hK hP 0 rfl rfl 4 (by decide) (hts (.fieldLink RX1 26 "ClassSheets" "placeCount" "I") (List.mem_of_getElem? (i := 1) rfl)) (fun _ h9 => h9) rfl dX1_lacksVariants_4 ?_
  refine lv_icmp_ge (tgt := 35) hx hb dX1_lacksVariants_7 (by decide) (fun c1 => ?_) (fun c1 => ?_)
  · have h := h.1 c1
    refine lv_iconst (v := 0) hx hb dX1_lacksVariants_35 (by decide) ?_
    exact ret_z (Wd := XW cc ad) (u := σ) C0 rfl h hP hS dX1_lacksVariants_36
  · have h := h.2 c1
    refine lv_aload_n hx hb dX1_lacksVariants_10 rfl (lv_at hl 0 rfl) ?_
    refine va_get (D := D) (ci := 1) (v := .ref (ad 1)) (C := RX1) (T := TX1) (N := 12) hx hb hts hin hown hK hP 0 rfl rfl 0 (by decide) (hts (.fieldLink RX1 11 "ClassSheets" "kinds" "[LClassSheets$Kind;") (List.mem_of_getElem? (i := 2) rfl)) (fun _ h9 => h9) rfl dX1_lacksVariants_11 ?_
    refine lv_aload_n hx hb dX1_lacksVariants_14 rfl (lv_at hl 0 rfl) ?_
    refine va_get (D := D) (ci := 1) (v := .ref (ad 2)) (C := RX1) (T := TX1) (N := 12) hx hb hts hin hown hK hP 0 rfl rfl 2 (by decide) (hts (.fieldLink RX1 19 "ClassSheets" "plannedKinds" "[I") (List.mem_of_getElem? (i := 3) rfl)) (fun _ h9 => h9) rfl dX1_lacksVariants_15 ?_
    refine lv_iload_n hx hb dX1_lacksVariants_18 rfl (lv_at hl 1 rfl) ?_
    obtain ⟨gi2, h⟩ := h
    refine va_iald (D := D) (f := xs_pk σ) hx hb hK hP 2 0 rfl rfl gi2 dX1_lacksVariants_19 ?_
    obtain ⟨gk3, h⟩ := h
    refine ld_kind C0 hP gk3 dX1_lacksVariants_20 ?_
    refine call_v (Wd := XW cc ad) (σ := σ) C0 hd (lens_k (vin_lt gk3)) (As := []) (rest := []) (ct_X0_size l D cc (ka ad ((xs_pk σ x1.toNatClampNeg).toNatClampNeg)) (da_ka hd (vin_lt gk3)) (cq g ((xs_pk σ x1.toNatClampNeg).toNatClampNeg)) (xs_ki σ ((xs_pk σ x1.toNatClampNeg).toNatClampNeg))) (cwV 0 hts gX1_lacksVariants_X0_size rfl rfl rfl (by decide +kernel) ⟨Nat.le_of_ble_eq_true rfl, Nat.le_of_ble_eq_true rfl⟩) (va_recv hK ((lens_k (D := D) (cc := cc) (ad := ad) (σ := σ) (vin_lt gk3)).1 H hP) (ci := 0) (q0 := 0) rfl rfl) hP hS rfl hl.1 rfl (by simp [Value.category]) dX1_lacksVariants_21 (fun r4 u hp H locs hP hS => ?_)
    obtain ⟨hp1, hp2⟩ := hp
    subst hp1
    have hp2 := hp2.symm
    subst hp2
    rw [xs_self] at hP
    have hP : va_P D vwCl (XW cc ad σ) H := hP
    refine lv_if_ne (tgt := 29) hx hb dX1_lacksVariants_24 (by decide) (fun c5 => ?_) (fun c5 => ?_)
    · have h := h.1 c5
      obtain ⟨x1_6, ex1_6⟩ : ∃ y : Int32, y = x1 + 1 := ⟨_, rfl⟩
      have h := h x1_6 ex1_6
      refine lv_iinc (v := x1_6) (lv' := [(1, .int x1_6), (0, .ref (ad 0))]) hx hb dX1_lacksVariants_29 hl (k := 1) rfl (by rw [ex1_6]; rfl) (by decide) rfl (fun ls hl => ?_)
      refine lv_goto (tgt := 2) hx hb dX1_lacksVariants_32 (by decide) ?_
      exact hK2 (σ, x1_6) h H locs ls hP hS (lv_sub hl [1, 0] rfl)
    · have h := h.2 c5
      refine lv_iconst (v := 1) hx hb dX1_lacksVariants_27 (by decide) ?_
      exact ret_z (Wd := XW cc ad) (u := σ) C0 rfl h hP hS dX1_lacksVariants_28
set_option maxHeartbeats 4000000 in
set_option maxRecDepth 100000 in
theorem wk_X1_lacksVariants_0 {p : Program} {l : Launch} {e : Env} {s : State} {m : MethodId} {args : Array Value} {below : List Frame} {meth : Method} {c : Code} {D : va_G} {cc : Nat → ClassId} {ad : Nat → Nat} {A : Nat → Prop} {Post : Int32 → XS → Prop} {g : CS} (C0 : Cx p s m args meth c cX1_lacksVariants 2 (some .boolean) RX1 wsX1_lacksVariants D cc A) (hd : DA 45 ad A) (σ : XS) (h : wp_X1_lacksVariants g Post σ) : At_ p l e { frames := 1, cells := 0, slots := 0, locals := 20 } s m args below meth c (Qi_ below D (XW cc ad) A args s Post) D A (XW cc ad σ) 2 0 [(0, .ref (ad 0))] [] := by
  obtain ⟨hx, hb, hml, hr, hown, hts, hlocks, hK, hA, hX⟩ := id C0
  have hin := hin_X1_lacksVariants
  intro H locs ls hP hS hl
  unfold wp_X1_lacksVariants at h
  refine lv_iconst (v := 0) hx hb dX1_lacksVariants_0 (by decide) ?_
  refine lv_istore_n (lv' := [(1, .int 0), (0, .ref (ad 0))]) hx hb dX1_lacksVariants_1 rfl hl (by decide) rfl (fun ls hl => ?_)
  exact lp_at (Wt := fun a => At_ p l e { frames := 1, cells := 0, slots := 0, locals := 20 } s m args below meth c (Qi_ below D (XW cc ad) A args s Post) D A (XW cc ad (a.1)) 2 2 [(0, .ref (ad 0)), (1, .int (a.2))] []) (fun K hK a h => wk_X1_lacksVariants_2 C0 hd hK a.1 a.2 h) h H locs ls hP hS (lv_sub hl [1, 0] rfl)
theorem ct_X1_lacksVariants (l : Launch) (D : va_G) (cc : Nat → ClassId) (ad : Nat → Nat) (hd : DA 45 ad (fun _ => True)) (g : CS) (σ : XS) (hp : pr_X1_lacksVariants g σ) : Ctr l yX1_lacksVariants wsX1_lacksVariants { frames := 1, cells := 0, slots := 0, locals := 20 } D cc (XW cc ad) 45 ad σ [.ref (ad 0)] (fun r u => r = fn_X1_lacksVariants g σ ∧ u = σ) :=
  ctr_i (rt := (some .boolean)) (by decide +kernel) rfl hd (Nat.le_of_ble_eq_true rfl) (fun p e s m below meth c A C0 hd => wk_X1_lacksVariants_0 C0 hd σ (pu_X1_lacksVariants g σ hp))
theorem hin_X1_sheetRefusal : ∀ w ∈ u_ws RX1 TX1 12, w ∈ wsX1_sheetRefusal := fun w h => List.mem_cons_of_mem _ (List.mem_append_left _ (List.mem_append_right _ h))
set_option maxHeartbeats 4000000 in
set_option maxRecDepth 100000 in
theorem wk_X1_sheetRefusal_0 {p : Program} {l : Launch} {e : Env} {s : State} {m : MethodId} {args : Array Value} {below : List Frame} {meth : Method} {c : Code} {D : va_G} {cc : Nat → ClassId} {ad : Nat → Nat} {A : Nat → Prop} {Post : Int32 → XS → Prop} {g : CS} (C0 : Cx p s m args meth c cX1_sheetRefusal 2 (some .int) RX1 wsX1_sheetRefusal D cc A) (hd : DA 45 ad A) (σ : XS) (x1 : Int32) (h : wp_X1_sheetRefusal g Post σ x1) : At_ p l e { frames := 2, cells := 0, slots := 0, locals := 41 } s m args below meth c (Qi_ below D (XW cc ad) A args s Post) D A (XW cc ad σ) 2 0 [(0, .ref (ad 0)), (1, .int x1)] [] := by
  obtain ⟨hx, hb, hml, hr, hown, hts, hlocks, hK, hA, hX⟩ := id C0
  have hin := hin_X1_sheetRefusal
  intro H locs ls hP hS hl
  unfold wp_X1_sheetRefusal at h
  refine lv_iload_n hx hb dX1_sheetRefusal_0 rfl (lv_at hl 1 rfl) ?_
  refine call_s (Wd := XW cc ad) (σ := σ) C0 hd (lens_un (adc := ad)) (As := [.int x1]) (rest := []) (ct_X1_isSheet l D cc ad da0 x1) (va_cwS 1 hts gX1_sheetRefusal_X1_isSheet rfl rfl rfl (by decide +kernel) ⟨Nat.le_of_ble_eq_true rfl, Nat.le_of_ble_eq_true rfl⟩) hP hS rfl hl.1 rfl (by simp [Value.category]) dX1_sheetRefusal_1 (fun r1 u hp H locs hP hS => ?_)
  obtain ⟨hp1, hp2⟩ := hp
  subst hp1
  have hP : va_P D vwCl (XW cc ad σ) H := hP
  refine lv_if_ne (tgt := 10) hx hb dX1_sheetRefusal_4 (by decide) (fun c2 => ?_) (fun c2 => ?_)
  · have h := h.1 c2
    refine lv_aload_n hx hb dX1_sheetRefusal_10 rfl (lv_at hl 0 rfl) ?_
    obtain ⟨gp3, h⟩ := h
    refine call_v (Wd := XW cc ad) (σ := σ) C0 hd lens_id (As := []) (rest := []) (ct_X1_lacksVariants l D cc ad ⟨hd.1, fun _ _ => trivial⟩ g σ gp3) (cwV 0 hts gX1_sheetRefusal_X1_lacksVariants rfl rfl rfl (by decide +kernel) ⟨Nat.le_of_ble_eq_true rfl, Nat.le_of_ble_eq_true rfl⟩) (va_recv hK hP (ci := 1) (q0 := 0) rfl rfl) hP hS rfl hl.1 rfl (by simp [Value.category]) dX1_sheetRefusal_11 (fun r4 u hp H locs hP hS => ?_)
    obtain ⟨hp1, hp2⟩ := hp
    subst hp1
    have hp2 := hp2.symm
    subst hp2
    have hP : va_P D vwCl (XW cc ad σ) H := hP
    refine lv_if_eq (tgt := 22) hx hb dX1_sheetRefusal_14 (by decide) (fun c5 => ?_) (fun c5 => ?_)
    · have h := h.1 c5
      refine lv_iconst (v := 0) hx hb dX1_sheetRefusal_22 (by decide) ?_
      exact ret_i (Wd := XW cc ad) (u := σ) C0 h hP hS dX1_sheetRefusal_23
    · have h := h.2 c5
      refine lv_bipush (v := (-3)) hx hb dX1_sheetRefusal_17 (by decide) ?_
      refine lv_goto (tgt := 23) hx hb dX1_sheetRefusal_19 (by decide) ?_
      exact ret_i (Wd := XW cc ad) (u := σ) C0 h hP hS dX1_sheetRefusal_23
  · have h := h.2 c2
    refine lv_bipush (v := (-2)) hx hb dX1_sheetRefusal_7 (by decide) ?_
    exact ret_i (Wd := XW cc ad) (u := σ) C0 h hP hS dX1_sheetRefusal_9
theorem ct_X1_sheetRefusal (l : Launch) (D : va_G) (cc : Nat → ClassId) (ad : Nat → Nat) (hd : DA 45 ad (fun _ => True)) (g : CS) (σ : XS) (x1 : Int32) (hp : pr_X1_sheetRefusal g σ x1) : Ctr l yX1_sheetRefusal wsX1_sheetRefusal { frames := 2, cells := 0, slots := 0, locals := 41 } D cc (XW cc ad) 45 ad σ [.ref (ad 0), .int x1] (fun r u => r = fn_X1_sheetRefusal g σ x1 ∧ u = σ) :=
  ctr_i (rt := (some .int)) (by decide +kernel) rfl hd (Nat.le_of_ble_eq_true rfl) (fun p e s m below meth c A C0 hd => wk_X1_sheetRefusal_0 C0 hd σ x1 (pu_X1_sheetRefusal g σ x1 hp))
theorem hin_X1_placeRefusal : ∀ w ∈ u_ws RX1 TX1 12, w ∈ wsX1_placeRefusal := fun w h => List.mem_cons_of_mem _ (List.mem_append_left _ (List.mem_append_right _ h))
set_option maxHeartbeats 4000000 in
set_option maxRecDepth 100000 in
theorem wk_X1_placeRefusal_0 {p : Program} {l : Launch} {e : Env} {s : State} {m : MethodId} {args : Array Value} {below : List Frame} {meth : Method} {c : Code} {D : va_G} {cc : Nat → ClassId} {ad : Nat → Nat} {A : Nat → Prop} {Post : Int32 → XS → Prop} {g : CS} (C0 : Cx p s m args meth c cX1_placeRefusal 3 (some .int) RX1 wsX1_placeRefusal D cc A) (hd : DA 45 ad A) (σ : XS) (x1 : Int32) (x2 : Int32) (h : wp_X1_placeRefusal g Post σ x1 x2) : At_ p l e { frames := 3, cells := 0, slots := 0, locals := 62 } s m args below meth c (Qi_ below D (XW cc ad) A args s Post) D A (XW cc ad σ) 3 0 [(0, .ref (ad 0)), (1, .int x1), (2, .int x2)] [] := by
  obtain ⟨hx, hb, hml, hr, hown, hts, hlocks, hK, hA, hX⟩ := id C0
  have hin := hin_X1_placeRefusal
  intro H locs ls hP hS hl
  unfold wp_X1_placeRefusal at h
  refine lv_aload_n hx hb dX1_placeRefusal_0 rfl (lv_at hl 0 rfl) ?_
  refine lv_iload_n hx hb dX1_placeRefusal_1 rfl (lv_at hl 2 rfl) ?_
  refine call_v (Wd := XW cc ad) (σ := σ) C0 hd lens_id (As := [.int x2]) (rest := []) (ct_X1_isPlace l D cc ad ⟨hd.1, fun _ _ => trivial⟩ g σ x2) (cwV 1 hts gX1_placeRefusal_X1_isPlace rfl rfl rfl (by decide +kernel) ⟨Nat.le_of_ble_eq_true rfl, Nat.le_of_ble_eq_true rfl⟩) (va_recv hK hP (ci := 1) (q0 := 0) rfl rfl) hP hS rfl hl.1 rfl (by simp [Value.category]) dX1_placeRefusal_2 (fun r1 u hp H locs hP hS => ?_)
  obtain ⟨hp1, hp2⟩ := hp
  subst hp1
  have hp2 := hp2.symm
  subst hp2
  have hP : va_P D vwCl (XW cc ad σ) H := hP
  refine lv_if_eq (tgt := 16) hx hb dX1_placeRefusal_5 (by decide) (fun c2 => ?_) (fun c2 => ?_)
  · have h := h.1 c2
    refine lv_iconst (v := (-1)) hx hb dX1_placeRefusal_16 (by decide) ?_
    exact ret_i (Wd := XW cc ad) (u := σ) C0 h hP hS dX1_placeRefusal_17
  · have h := h.2 c2
    refine lv_aload_n hx hb dX1_placeRefusal_8 rfl (lv_at hl 0 rfl) ?_
    refine lv_iload_n hx hb dX1_placeRefusal_9 rfl (lv_at hl 1 rfl) ?_
    obtain ⟨gp3, h⟩ := h
    refine call_v (Wd := XW cc ad) (σ := σ) C0 hd lens_id (As := [.int x1]) (rest := []) (ct_X1_sheetRefusal l D cc ad ⟨hd.1, fun _ _ => trivial⟩ g σ x1 gp3) (cwV 1 hts gX1_placeRefusal_X1_sheetRefusal rfl rfl rfl (by decide +kernel) ⟨Nat.le_of_ble_eq_true rfl, Nat.le_of_ble_eq_true rfl⟩) (va_recv hK hP (ci := 1) (q0 := 0) rfl rfl) hP hS rfl hl.1 rfl (by simp [Value.category]) dX1_placeRefusal_10 (fun r4 u hp H locs hP hS => ?_)
    obtain ⟨hp1, hp2⟩ := hp
    subst hp1
    have hp2 := hp2.symm
    subst hp2
    have hP : va_P D vwCl (XW cc ad σ) H := hP
    refine lv_goto (tgt := 17) hx hb dX1_placeRefusal_13 (by decide) ?_
    exact ret_i (Wd := XW cc ad) (u := σ) C0 h hP hS dX1_placeRefusal_17
theorem ct_X1_placeRefusal (l : Launch) (D : va_G) (cc : Nat → ClassId) (ad : Nat → Nat) (hd : DA 45 ad (fun _ => True)) (g : CS) (σ : XS) (x1 : Int32) (x2 : Int32) (hp : pr_X1_placeRefusal g σ x1 x2) : Ctr l yX1_placeRefusal wsX1_placeRefusal { frames := 3, cells := 0, slots := 0, locals := 62 } D cc (XW cc ad) 45 ad σ [.ref (ad 0), .int x1, .int x2] (fun r u => r = fn_X1_placeRefusal g σ x1 x2 ∧ u = σ) :=
  ctr_i (rt := (some .int)) (by decide +kernel) rfl hd (Nat.le_of_ble_eq_true rfl) (fun p e s m below meth c A C0 hd => wk_X1_placeRefusal_0 C0 hd σ x1 x2 (pu_X1_placeRefusal g σ x1 x2 hp))
theorem hin_X1_variantOn : ∀ w ∈ u_ws RX1 TX1 12, w ∈ wsX1_variantOn := fun w h => List.mem_cons_of_mem _ (List.mem_append_left _ (List.mem_append_right _ h))
set_option maxHeartbeats 4000000 in
set_option maxRecDepth 100000 in
theorem wk_X1_variantOn_0 {p : Program} {l : Launch} {e : Env} {s : State} {m : MethodId} {args : Array Value} {below : List Frame} {meth : Method} {c : Code} {D : va_G} {cc : Nat → ClassId} {ad : Nat → Nat} {A : Nat → Prop} {Post : Int32 → XS → Prop} {g : CS} (C0 : Cx p s m args meth c cX1_variantOn 3 (some .int) RX1 wsX1_variantOn D cc A) (hd : DA 45 ad A) (σ : XS) (x1 : Int32) (x2 : Int32) (h : wp_X1_variantOn g Post σ x1 x2) : At_ p l e { frames := 1, cells := 0, slots := 0, locals := 22 } s m args below meth c (Qi_ below D (XW cc ad) A args s Post) D A (XW cc ad σ) 3 0 [(0, .ref (ad 0)), (1, .int x1), (2, .int x2)] [] := by
  obtain ⟨hx, hb, hml, hr, hown, hts, hlocks, hK, hA, hX⟩ := id C0
  have hin := hin_X1_variantOn
  intro H locs ls hP hS hl
  unfold wp_X1_variantOn at h
  refine lv_aload_n hx hb dX1_variantOn_0 rfl (lv_at hl 0 rfl) ?_
  refine va_get (D := D) (ci := 1) (v := .ref (ad 1)) (C := RX1) (T := TX1) (N := 12) hx hb hts hin hown hK hP 0 rfl rfl 0 (by decide) (hts (.fieldLink RX1 11 "ClassSheets" "kinds" "[LClassSheets$Kind;") (List.mem_of_getElem? (i := 1) rfl)) (fun _ h9 => h9) rfl dX1_variantOn_1 ?_
  refine lv_aload_n hx hb dX1_variantOn_4 rfl (lv_at hl 0 rfl) ?_
  refine va_get (D := D) (ci := 1) (v := .ref (ad 2)) (C := RX1) (T := TX1) (N := 12) hx hb hts hin hown hK hP 0 rfl rfl 2 (by decide) (hts (.fieldLink RX1 19 "ClassSheets" "plannedKinds" "[I") (List.mem_of_getElem? (i := 2) rfl)) (fun _ h9 => h9) rfl dX1_variantOn_5 ?_
  refine lv_iload_n hx hb dX1_variantOn_8 rfl (lv_at hl 2 rfl) ?_
  obtain ⟨gi1, h⟩ := h
  refine va_iald (D := D) (f := xs_pk σ) hx hb hK hP 2 0 rfl rfl gi1 dX1_variantOn_9 ?_
  obtain ⟨gk2, h⟩ := h
  refine ld_kind C0 hP gk2 dX1_variantOn_10 ?_
  refine lv_iload_n hx hb dX1_variantOn_11 rfl (lv_at hl 1 rfl) ?_
  refine lv_aload_n hx hb dX1_variantOn_12 rfl (lv_at hl 0 rfl) ?_
  refine va_get (D := D) (ci := 1) (v := .ref (ad 3)) (C := RX1) (T := TX1) (N := 12) hx hb hts hin hown hK hP 0 rfl rfl 3 (by decide) (hts (.fieldLink RX1 23 "ClassSheets" "turns" "[I") (List.mem_of_getElem? (i := 3) rfl)) (fun _ h9 => h9) rfl dX1_variantOn_13 ?_
  refine lv_iload_n hx hb dX1_variantOn_16 rfl (lv_at hl 2 rfl) ?_
  obtain ⟨gi3, h⟩ := h
  refine va_iald (D := D) (f := xs_tu σ) hx hb hK hP 3 0 rfl rfl gi3 dX1_variantOn_17 ?_
  refine call_v (Wd := XW cc ad) (σ := σ) C0 hd (lens_k (vin_lt gk2)) (As := [.int x1, .int (xs_tu σ x2.toNatClampNeg)]) (rest := []) (ct_X0_variantFor l D cc (ka ad ((xs_pk σ x2.toNatClampNeg).toNatClampNeg)) (da_ka hd (vin_lt gk2)) (cq g ((xs_pk σ x2.toNatClampNeg).toNatClampNeg)) (xs_ki σ ((xs_pk σ x2.toNatClampNeg).toNatClampNeg)) x1 (xs_tu σ x2.toNatClampNeg)) (cwV 2 hts gX1_variantOn_X0_variantFor rfl rfl rfl (by decide +kernel) ⟨Nat.le_of_ble_eq_true rfl, Nat.le_of_ble_eq_true rfl⟩) (va_recv hK ((lens_k (D := D) (cc := cc) (ad := ad) (σ := σ) (vin_lt gk2)).1 H hP) (ci := 0) (q0 := 0) rfl rfl) hP hS rfl hl.1 rfl (by simp [Value.category]) dX1_variantOn_18 (fun r4 u hp H locs hP hS => ?_)
  obtain ⟨hp1, hp2⟩ := hp
  subst hp1
  have hp2 := hp2.symm
  subst hp2
  rw [xs_self] at hP
  have hP : va_P D vwCl (XW cc ad σ) H := hP
  exact ret_i (Wd := XW cc ad) (u := σ) C0 h hP hS dX1_variantOn_21
theorem ct_X1_variantOn (l : Launch) (D : va_G) (cc : Nat → ClassId) (ad : Nat → Nat) (hd : DA 45 ad (fun _ => True)) (g : CS) (σ : XS) (x1 : Int32) (x2 : Int32) (hp : pr_X1_variantOn g σ x1 x2) : Ctr l yX1_variantOn wsX1_variantOn { frames := 1, cells := 0, slots := 0, locals := 22 } D cc (XW cc ad) 45 ad σ [.ref (ad 0), .int x1, .int x2] (fun r u => r = fn_X1_variantOn g σ x1 x2 ∧ u = σ) :=
  ctr_i (rt := (some .int)) (by decide +kernel) rfl hd (Nat.le_of_ble_eq_true rfl) (fun p e s m below meth c A C0 hd => wk_X1_variantOn_0 C0 hd σ x1 x2 (pu_X1_variantOn g σ x1 x2 hp))
theorem hin_X1_answerOn : ∀ w ∈ u_ws RX1 TX1 12, w ∈ wsX1_answerOn := fun w h => List.mem_cons_of_mem _ (List.mem_append_left _ (List.mem_append_right _ h))
set_option maxHeartbeats 4000000 in
set_option maxRecDepth 100000 in
theorem wk_X1_answerOn_0 {p : Program} {l : Launch} {e : Env} {s : State} {m : MethodId} {args : Array Value} {below : List Frame} {meth : Method} {c : Code} {D : va_G} {cc : Nat → ClassId} {ad : Nat → Nat} {A : Nat → Prop} {Post : Int32 → XS → Prop} {g : CS} (C0 : Cx p s m args meth c cX1_answerOn 5 (some .int) RX1 wsX1_answerOn D cc A) (hd : DA 45 ad A) (σ : XS) (x1 : Int32) (x2 : Int32) (h : wp_X1_answerOn g Post σ x1 x2) : At_ p l e { frames := 3, cells := 0, slots := 0, locals := 69 } s m args below meth c (Qi_ below D (XW cc ad) A args s Post) D A (XW cc ad σ) 5 0 [(0, .ref (ad 0)), (1, .int x1), (2, .int x2)] [] := by
  obtain ⟨hx, hb, hml, hr, hown, hts, hlocks, hK, hA, hX⟩ := id C0
  have hin := hin_X1_answerOn
  intro H locs ls hP hS hl
  unfold wp_X1_answerOn at h
  refine lv_aload_n hx hb dX1_answerOn_0 rfl (lv_at hl 0 rfl) ?_
  refine va_get (D := D) (ci := 1) (v := .ref (ad 1)) (C := RX1) (T := TX1) (N := 12) hx hb hts hin hown hK hP 0 rfl rfl 0 (by decide) (hts (.fieldLink RX1 11 "ClassSheets" "kinds" "[LClassSheets$Kind;") (List.mem_of_getElem? (i := 1) rfl)) (fun _ h9 => h9) rfl dX1_answerOn_1 ?_
  refine lv_aload_n hx hb dX1_answerOn_4 rfl (lv_at hl 0 rfl) ?_
  refine va_get (D := D) (ci := 1) (v := .ref (ad 2)) (C := RX1) (T := TX1) (N := 12) hx hb hts hin hown hK hP 0 rfl rfl 2 (by decide) (hts (.fieldLink RX1 19 "ClassSheets" "plannedKinds" "[I") (List.mem_of_getElem? (i := 2) rfl)) (fun _ h9 => h9) rfl dX1_answerOn_5 ?_
  refine lv_iload_n hx hb dX1_answerOn_8 rfl (lv_at hl 2 rfl) ?_
  obtain ⟨gi1, h⟩ := h
  refine va_iald (D := D) (f := xs_pk σ) hx hb hK hP 2 0 rfl rfl gi1 dX1_answerOn_9 ?_
  obtain ⟨gk2, h⟩ := h
  refine ld_kind C0 hP gk2 dX1_answerOn_10 ?_
  refine lv_astore_n (lv' := [(3, .ref (ka ad ((xs_pk σ x2.toNatClampNeg).toNatClampNeg) 0)), (0, .ref (ad 0)), (1, .int x1), (2, .int x2)]) hx hb dX1_answerOn_11 rfl hl (by decide) rfl (fun ls hl => ?_)
  refine lv_aload_n hx hb dX1_answerOn_12 rfl (lv_at hl 0 rfl) ?_
  refine lv_aload_n hx hb dX1_answerOn_13 rfl (lv_at hl 1 rfl) ?_
  refine lv_iload_n hx hb dX1_answerOn_14 rfl (lv_at hl 2 rfl) ?_
  refine lv_iload_n hx hb dX1_answerOn_15 rfl (lv_at hl 3 rfl) ?_
  obtain ⟨gp3, h⟩ := h
  refine call_v (Wd := XW cc ad) (σ := σ) C0 hd lens_id (As := [.int x1, .int x2]) (rest := [.ref (ka ad ((xs_pk σ x2.toNatClampNeg).toNatClampNeg) 0)]) (ct_X1_variantOn l D cc ad ⟨hd.1, fun _ _ => trivial⟩ g σ x1 x2 gp3) (cwV 2 hts gX1_answerOn_X1_variantOn rfl rfl rfl (by decide +kernel) ⟨Nat.le_of_ble_eq_true rfl, Nat.le_of_ble_eq_true rfl⟩) (va_recv hK hP (ci := 1) (q0 := 0) rfl rfl) hP hS rfl hl.1 rfl (by simp [Value.category]) dX1_answerOn_16 (fun r4 u hp H locs hP hS => ?_)
  obtain ⟨hp1, hp2⟩ := hp
  subst hp1
  have hp2 := hp2.symm
  subst hp2
  have hP : va_P D vwCl (XW cc ad σ) H := hP
  obtain ⟨gp5, h⟩ := h
  refine call_v (Wd := XW cc ad) (σ := σ) C0 hd (lens_k (vin_lt gk2)) (As := [.int (fn_X1_variantOn g σ x1 x2)]) (rest := []) (ct_X0_pairAt l D cc (ka ad ((xs_pk σ x2.toNatClampNeg).toNatClampNeg)) (da_ka hd (vin_lt gk2)) (cq g ((xs_pk σ x2.toNatClampNeg).toNatClampNeg)) (xs_ki σ ((xs_pk σ x2.toNatClampNeg).toNatClampNeg)) (fn_X1_variantOn g σ x1 x2) gp5) (cwV 1 hts gX1_answerOn_X0_pairAt rfl rfl rfl (by decide +kernel) ⟨Nat.le_of_ble_eq_true rfl, Nat.le_of_ble_eq_true rfl⟩) (va_recv hK ((lens_k (D := D) (cc := cc) (ad := ad) (σ := σ) (vin_lt gk2)).1 H hP) (ci := 0) (q0 := 0) rfl rfl) hP hS rfl hl.1 rfl (by simp [Value.category]) dX1_answerOn_19 (fun r6 u hp H locs hP hS => ?_)
  obtain ⟨hp1, hp2⟩ := hp
  subst hp1
  have hp2 := hp2.symm
  subst hp2
  rw [xs_self] at hP
  have hP : va_P D vwCl (XW cc ad σ) H := hP
  refine lv_topi (fun x4_7 ex4_7 => ?_)
  have h := h x4_7 ex4_7
  refine lv_istore (lv' := [(4, .int x4_7), (3, .ref (ka ad ((xs_pk σ x2.toNatClampNeg).toNatClampNeg) 0)), (0, .ref (ad 0)), (1, .int x1), (2, .int x2)]) hx hb dX1_answerOn_22 hl (by decide) rfl (fun ls hl => ?_)
  refine lv_aload_n hx hb dX1_answerOn_24 rfl (lv_at hl 1 rfl) ?_
  refine lv_iload hx hb dX1_answerOn_25 (lv_at hl 0 rfl) ?_
  refine lv_bipush (v := 100) hx hb dX1_answerOn_27 (by decide) ?_
  refine lv_idiv hx hb dX1_answerOn_29 (by decide) ?_
  refine lv_iload hx hb dX1_answerOn_30 (lv_at hl 0 rfl) ?_
  refine lv_bipush (v := 100) hx hb dX1_answerOn_32 (by decide) ?_
  refine lv_irem hx hb dX1_answerOn_34 (by decide) ?_
  refine call_v (Wd := XW cc ad) (σ := σ) C0 hd (lens_k (vin_lt gk2)) (As := [.int (x4_7 / 100), .int (x4_7 - x4_7 / 100 * 100)]) (rest := []) (ct_X0_result l D cc (ka ad ((xs_pk σ x2.toNatClampNeg).toNatClampNeg)) (da_ka hd (vin_lt gk2)) (cq g ((xs_pk σ x2.toNatClampNeg).toNatClampNeg)) (xs_ki σ ((xs_pk σ x2.toNatClampNeg).toNatClampNeg)) (x4_7 / 100) (x4_7 - x4_7 / 100 * 100)) (cwV 2 hts gX1_answerOn_X0_result rfl rfl rfl (by decide +kernel) ⟨Nat.le_of_ble_eq_true rfl, Nat.le_of_ble_eq_true rfl⟩) (va_recv hK ((lens_k (D := D) (cc := cc) (ad := ad) (σ := σ) (vin_lt gk2)).1 H hP) (ci := 0) (q0 := 0) rfl rfl) hP hS rfl hl.1 rfl (by simp [Value.category]) dX1_answerOn_35 (fun r8 u hp H locs hP hS => ?_)
  obtain ⟨hp1, hp2⟩ := hp
  subst hp1
  have hp2 := hp2.symm
  subst hp2
  rw [xs_self] at hP
  have hP : va_P D vwCl (XW cc ad σ) H := hP
  exact ret_i (Wd := XW cc ad) (u := σ) C0 h hP hS dX1_answerOn_38
theorem ct_X1_answerOn (l : Launch) (D : va_G) (cc : Nat → ClassId) (ad : Nat → Nat) (hd : DA 45 ad (fun _ => True)) (g : CS) (σ : XS) (x1 : Int32) (x2 : Int32) (hp : pr_X1_answerOn g σ x1 x2) : Ctr l yX1_answerOn wsX1_answerOn { frames := 3, cells := 0, slots := 0, locals := 69 } D cc (XW cc ad) 45 ad σ [.ref (ad 0), .int x1, .int x2] (fun r u => r = fn_X1_answerOn g σ x1 x2 ∧ u = σ) :=
  ctr_i (rt := (some .int)) (by decide +kernel) rfl hd (Nat.le_of_ble_eq_true rfl) (fun p e s m below meth c A C0 hd => wk_X1_answerOn_0 C0 hd σ x1 x2 (pu_X1_answerOn g σ x1 x2 hp))
theorem hin_X1_sheet : ∀ w ∈ u_ws RX1 TX1 12, w ∈ wsX1_sheet := fun w h => List.mem_cons_of_mem _ (List.mem_append_left _ (List.mem_append_right _ h))
set_option maxHeartbeats 4000000 in
set_option maxRecDepth 100000 in
theorem wk_X1_sheet_0 {p : Program} {l : Launch} {e : Env} {s : State} {m : MethodId} {args : Array Value} {below : List Frame} {meth : Method} {c : Code} {D : va_G} {cc : Nat → ClassId} {ad : Nat → Nat} {A : Nat → Prop} {Post : Int32 → XS → Prop} {g : CS} (C0 : Cx p s m args meth c cX1_sheet 4 (some .int) RX1 wsX1_sheet D cc A) (hd : DA 45 ad A) (σ : XS) (x1 : Int32) (x2 : Int32) (h : wp_X1_sheet g Post σ x1 x2) : At_ p l e { frames := 4, cells := 0, slots := 0, locals := 84 } s m args below meth c (Qi_ below D (XW cc ad) A args s Post) D A (XW cc ad σ) 4 0 [(0, .ref (ad 0)), (1, .int x1), (2, .int x2)] [] := by
  obtain ⟨hx, hb, hml, hr, hown, hts, hlocks, hK, hA, hX⟩ := id C0
  have hin := hin_X1_sheet
  intro H locs ls hP hS hl
  unfold wp_X1_sheet at h
  refine lv_aload_n hx hb dX1_sheet_0 rfl (lv_at hl 0 rfl) ?_
  refine lv_iload_n hx hb dX1_sheet_1 rfl (lv_at hl 1 rfl) ?_
  refine lv_iload_n hx hb dX1_sheet_2 rfl (lv_at hl 2 rfl) ?_
  obtain ⟨gp1, h⟩ := h
  refine call_v (Wd := XW cc ad) (σ := σ) C0 hd lens_id (As := [.int x1, .int x2]) (rest := []) (ct_X1_placeRefusal l D cc ad ⟨hd.1, fun _ _ => trivial⟩ g σ x1 x2 gp1) (cwV 2 hts gX1_sheet_X1_placeRefusal rfl rfl rfl (by decide +kernel) ⟨Nat.le_of_ble_eq_true rfl, Nat.le_of_ble_eq_true rfl⟩) (va_recv hK hP (ci := 1) (q0 := 0) rfl rfl) hP hS rfl hl.1 rfl (by simp [Value.category]) dX1_sheet_3 (fun r2 u hp H locs hP hS => ?_)
  obtain ⟨hp1, hp2⟩ := hp
  subst hp1
  have hp2 := hp2.symm
  subst hp2
  have hP : va_P D vwCl (XW cc ad σ) H := hP
  refine lv_topi (fun x3_3 ex3_3 => ?_)
  have h := h x3_3 ex3_3
  refine lv_istore_n (lv' := [(3, .int x3_3), (0, .ref (ad 0)), (1, .int x1), (2, .int x2)]) hx hb dX1_sheet_6 rfl hl (by decide) rfl (fun ls hl => ?_)
  refine lv_iload_n hx hb dX1_sheet_7 rfl (lv_at hl 0 rfl) ?_
  refine lv_if_ne (tgt := 20) hx hb dX1_sheet_8 (by decide) (fun c4 => ?_) (fun c4 => ?_)
  · have h := h.1 c4
    refine lv_iload_n hx hb dX1_sheet_20 rfl (lv_at hl 0 rfl) ?_
    exact ret_i (Wd := XW cc ad) (u := σ) C0 h hP hS dX1_sheet_21
  · have h := h.2 c4
    refine lv_aload_n hx hb dX1_sheet_11 rfl (lv_at hl 1 rfl) ?_
    refine lv_iload_n hx hb dX1_sheet_12 rfl (lv_at hl 2 rfl) ?_
    refine lv_iload_n hx hb dX1_sheet_13 rfl (lv_at hl 3 rfl) ?_
    obtain ⟨gp5, h⟩ := h
    refine call_v (Wd := XW cc ad) (σ := σ) C0 hd lens_id (As := [.int x1, .int x2]) (rest := []) (ct_X1_variantOn l D cc ad ⟨hd.1, fun _ _ => trivial⟩ g σ x1 x2 gp5) (cwV 2 hts gX1_sheet_X1_variantOn rfl rfl rfl (by decide +kernel) ⟨Nat.le_of_ble_eq_true rfl, Nat.le_of_ble_eq_true rfl⟩) (va_recv hK hP (ci := 1) (q0 := 0) rfl rfl) hP hS rfl hl.1 rfl (by simp [Value.category]) dX1_sheet_14 (fun r6 u hp H locs hP hS => ?_)
    obtain ⟨hp1, hp2⟩ := hp
    subst hp1
    have hp2 := hp2.symm
    subst hp2
    have hP : va_P D vwCl (XW cc ad σ) H := hP
    refine lv_goto (tgt := 21) hx hb dX1_sheet_17 (by decide) ?_
    exact ret_i (Wd := XW cc ad) (u := σ) C0 h hP hS dX1_sheet_21
theorem ct_X1_sheet (l : Launch) (D : va_G) (cc : Nat → ClassId) (ad : Nat → Nat) (hd : DA 45 ad (fun _ => True)) (g : CS) (σ : XS) (x1 : Int32) (x2 : Int32) (hp : pr_X1_sheet g σ x1 x2) : Ctr l yX1_sheet wsX1_sheet { frames := 4, cells := 0, slots := 0, locals := 84 } D cc (XW cc ad) 45 ad σ [.ref (ad 0), .int x1, .int x2] (fun r u => r = fn_X1_sheet g σ x1 x2 ∧ u = σ) :=
  ctr_i (rt := (some .int)) (by decide +kernel) rfl hd (Nat.le_of_ble_eq_true rfl) (fun p e s m below meth c A C0 hd => wk_X1_sheet_0 C0 hd σ x1 x2 (pu_X1_sheet g σ x1 x2 hp))
theorem hin_X1_answer : ∀ w ∈ u_ws RX1 TX1 12, w ∈ wsX1_answer := fun w h => List.mem_cons_of_mem _ (List.mem_append_left _ (List.mem_append_right _ h))
set_option maxHeartbeats 4000000 in
set_option maxRecDepth 100000 in
theorem wk_X1_answer_0 {p : Program} {l : Launch} {e : Env} {s : State} {m : MethodId} {args : Array Value} {below : List Frame} {meth : Method} {c : Code} {D : va_G} {cc : Nat → ClassId} {ad : Nat → Nat} {A : Nat → Prop} {Post : Int32 → XS → Prop} {g : CS} (C0 : Cx p s m args meth c cX1_answer 4 (some .int) RX1 wsX1_answer D cc A) (hd : DA 45 ad A) (σ : XS) (x1 : Int32) (x2 : Int32) (h : wp_X1_answer g Post σ x1 x2) : At_ p l e { frames := 4, cells := 0, slots := 0, locals := 93 } s m args below meth c (Qi_ below D (XW cc ad) A args s Post) D A (XW cc ad σ) 4 0 [(0, .ref (ad 0)), (1, .int x1), (2, .int x2)] [] := by
  obtain ⟨hx, hb, hml, hr, hown, hts, hlocks, hK, hA, hX⟩ := id C0
  have hin := hin_X1_answer
  intro H locs ls hP hS hl
  unfold wp_X1_answer at h
  refine lv_aload_n hx hb dX1_answer_0 rfl (lv_at hl 0 rfl) ?_
  refine lv_iload_n hx hb dX1_answer_1 rfl (lv_at hl 1 rfl) ?_
  refine lv_iload_n hx hb dX1_answer_2 rfl (lv_at hl 2 rfl) ?_
  obtain ⟨gp1, h⟩ := h
  refine call_v (Wd := XW cc ad) (σ := σ) C0 hd lens_id (As := [.int x1, .int x2]) (rest := []) (ct_X1_placeRefusal l D cc ad ⟨hd.1, fun _ _ => trivial⟩ g σ x1 x2 gp1) (cwV 2 hts gX1_answer_X1_placeRefusal rfl rfl rfl (by decide +kernel) ⟨Nat.le_of_ble_eq_true rfl, Nat.le_of_ble_eq_true rfl⟩) (va_recv hK hP (ci := 1) (q0 := 0) rfl rfl) hP hS rfl hl.1 rfl (by simp [Value.category]) dX1_answer_3 (fun r2 u hp H locs hP hS => ?_)
  obtain ⟨hp1, hp2⟩ := hp
  subst hp1
  have hp2 := hp2.symm
  subst hp2
  have hP : va_P D vwCl (XW cc ad σ) H := hP
  refine lv_topi (fun x3_3 ex3_3 => ?_)
  have h := h x3_3 ex3_3
  refine lv_istore_n (lv' := [(3, .int x3_3), (0, .ref (ad 0)), (1, .int x1), (2, .int x2)]) hx hb dX1_answer_6 rfl hl (by decide) rfl (fun ls hl => ?_)
  refine lv_iload_n hx hb dX1_answer_7 rfl (lv_at hl 0 rfl) ?_
  refine lv_if_ne (tgt := 20) hx hb dX1_answer_8 (by decide) (fun c4 => ?_) (fun c4 => ?_)
  · have h := h.1 c4
    refine lv_iload_n hx hb dX1_answer_20 rfl (lv_at hl 0 rfl) ?_
    exact ret_i (Wd := XW cc ad) (u := σ) C0 h hP hS dX1_answer_21
  · have h := h.2 c4
    refine lv_aload_n hx hb dX1_answer_11 rfl (lv_at hl 1 rfl) ?_
    refine lv_iload_n hx hb dX1_answer_12 rfl (lv_at hl 2 rfl) ?_
    refine lv_iload_n hx hb dX1_answer_13 rfl (lv_at hl 3 rfl) ?_
    obtain ⟨gp5, h⟩ := h
    refine call_v (Wd := XW cc ad) (σ := σ) C0 hd lens_id (As := [.int x1, .int x2]) (rest := []) (ct_X1_answerOn l D cc ad ⟨hd.1, fun _ _ => trivial⟩ g σ x1 x2 gp5) (cwV 2 hts gX1_answer_X1_answerOn rfl rfl rfl (by decide +kernel) ⟨Nat.le_of_ble_eq_true rfl, Nat.le_of_ble_eq_true rfl⟩) (va_recv hK hP (ci := 1) (q0 := 0) rfl rfl) hP hS rfl hl.1 rfl (by simp [Value.category]) dX1_answer_14 (fun r6 u hp H locs hP hS => ?_)
    obtain ⟨hp1, hp2⟩ := hp
    subst hp1
    have hp2 := hp2.symm
    subst hp2
    have hP : va_P D vwCl (XW cc ad σ) H := hP
    refine lv_goto (tgt := 21) hx hb dX1_answer_17 (by decide) ?_
    exact ret_i (Wd := XW cc ad) (u := σ) C0 h hP hS dX1_answer_21
theorem ct_X1_answer (l : Launch) (D : va_G) (cc : Nat → ClassId) (ad : Nat → Nat) (hd : DA 45 ad (fun _ => True)) (g : CS) (σ : XS) (x1 : Int32) (x2 : Int32) (hp : pr_X1_answer g σ x1 x2) : Ctr l yX1_answer wsX1_answer { frames := 4, cells := 0, slots := 0, locals := 93 } D cc (XW cc ad) 45 ad σ [.ref (ad 0), .int x1, .int x2] (fun r u => r = fn_X1_answer g σ x1 x2 ∧ u = σ) :=
  ctr_i (rt := (some .int)) (by decide +kernel) rfl hd (Nat.le_of_ble_eq_true rfl) (fun p e s m below meth c A C0 hd => wk_X1_answer_0 C0 hd σ x1 x2 (pu_X1_answer g σ x1 x2 hp))
theorem hin_X1_code : ∀ w ∈ u_ws RX1 TX1 12, w ∈ wsX1_code := fun w h => List.mem_cons_of_mem _ (List.mem_append_left _ (List.mem_append_right _ h))
set_option maxHeartbeats 4000000 in
set_option maxRecDepth 100000 in
theorem wk_X1_code_17 {p : Program} {l : Launch} {e : Env} {s : State} {m : MethodId} {args : Array Value} {below : List Frame} {meth : Method} {c : Code} {D : va_G} {cc : Nat → ClassId} {ad : Nat → Nat} {A : Nat → Prop} {Post : Int32 → XS → Prop} {g : CS} (C0 : Cx p s m args meth c cX1_code 5 (some .int) RX1 wsX1_code D cc A) (hd : DA 45 ad A) {K17 : (XS × Int32 × Int32 × Int32) → Prop} (hK17 : ∀ a, K17 a → At_ p l e { frames := 4, cells := 0, slots := 0, locals := 93 } s m args below meth c (Qi_ below D (XW cc ad) A args s Post) D A (XW cc ad (a.1)) 5 17 [(0, .ref (ad 0)), (1, .int (a.2.1)), (3, .int (a.2.2.1)), (4, .int (a.2.2.2))] []) (σ : XS) (x1 : Int32) (x3 : Int32) (x4 : Int32) (h : wp_X1_code_17 g K17 Post σ x1 x3 x4) : At_ p l e { frames := 4, cells := 0, slots := 0, locals := 93 } s m args below meth c (Qi_ below D (XW cc ad) A args s Post) D A (XW cc ad σ) 5 17 [(0, .ref (ad 0)), (1, .int x1), (3, .int x3), (4, .int x4)] [] := by
  obtain ⟨hx, hb, hml, hr, hown, hts, hlocks, hK, hA, hX⟩ := id C0
  have hin := hin_X1_code
  intro H locs ls hP hS hl
  unfold wp_X1_code_17 at h
  refine lv_iload hx hb dX1_code_17 (lv_at hl 3 rfl) ?_
  refine lv_aload_n hx hb dX1_code_19 rfl (lv_at hl 0 rfl) ?_
  refine va_get (D := D) (ci := 1) (v := .int (xs_pc σ)) (C := RX1) (T := TX1) (N := 12) hx hb hts hin hown hK hP 0 rfl rfl 4 (by decide) (hts (.fieldLink RX1 26 "ClassSheets" "placeCount" "I") (List.mem_of_getElem? (i := 1) rfl)) (fun _ h9 => h9) rfl dX1_code_20 ?_
  refine lv_icmp_ge (tgt := 47) hx hb dX1_code_23 (by decide) (fun c1 => ?_) (fun c1 => ?_)
  · have h := h.1 c1
    refine lv_iload_n hx hb dX1_code_47 rfl (lv_at hl 2 rfl) ?_
    refine lv_bipush (v := 97) hx hb dX1_code_48 (by decide) ?_
    refine lv_irem hx hb dX1_code_50 (by decide) ?_
    exact ret_i (Wd := XW cc ad) (u := σ) C0 h hP hS dX1_code_51
  · have h := h.2 c1
    refine lv_iload_n hx hb dX1_code_26 rfl (lv_at hl 2 rfl) ?_
    refine lv_aload_n hx hb dX1_code_27 rfl (lv_at hl 0 rfl) ?_
    refine lv_iload_n hx hb dX1_code_28 rfl (lv_at hl 1 rfl) ?_
    refine lv_iload hx hb dX1_code_29 (lv_at hl 3 rfl) ?_
    obtain ⟨gp2, h⟩ := h
    refine call_v (Wd := XW cc ad) (σ := σ) C0 hd lens_id (As := [.int x1, .int x4]) (rest := [.int x3]) (ct_X1_answerOn l D cc ad ⟨hd.1, fun _ _ => trivial⟩ g σ x1 x4 gp2) (cwV 2 hts gX1_code_X1_answerOn rfl rfl rfl (by decide +kernel) ⟨Nat.le_of_ble_eq_true rfl, Nat.le_of_ble_eq_true rfl⟩) (va_recv hK hP (ci := 1) (q0 := 0) rfl rfl) hP hS rfl hl.1 rfl (by simp [Value.category]) dX1_code_31 (fun r3 u hp H locs hP hS => ?_)
    obtain ⟨hp1, hp2⟩ := hp
    subst hp1
    have hp2 := hp2.symm
    subst hp2
    have hP : va_P D vwCl (XW cc ad σ) H := hP
    refine lv_iload hx hb dX1_code_34 (lv_at hl 3 rfl) ?_
    refine lv_iconst (v := 1) hx hb dX1_code_36 (by decide) ?_
    refine lv_iadd hx hb dX1_code_37 ?_
    refine lv_imul hx hb dX1_code_38 ?_
    refine lv_iadd hx hb dX1_code_39 ?_
    refine lv_topi (fun x3_4 ex3_4 => ?_)
    have h := h x3_4 ex3_4
    refine lv_istore_n (lv' := [(3, .int x3_4), (0, .ref (ad 0)), (1, .int x1), (4, .int x4)]) hx hb dX1_code_40 rfl hl (by decide) rfl (fun ls hl => ?_)
    obtain ⟨x4_5, ex4_5⟩ : ∃ y : Int32, y = x4 + 1 := ⟨_, rfl⟩
    have h := h x4_5 ex4_5
    refine lv_iinc (v := x4_5) (lv' := [(4, .int x4_5), (3, .int x3_4), (0, .ref (ad 0)), (1, .int x1)]) hx hb dX1_code_41 hl (k := 3) rfl (by rw [ex4_5]; rfl) (by decide) rfl (fun ls hl => ?_)
    refine lv_goto (tgt := 17) hx hb dX1_code_44 (by decide) ?_
    exact hK17 (σ, x1, x3_4, x4_5) h H locs ls hP hS (lv_sub hl [2, 3, 1, 0] rfl)
set_option maxHeartbeats 4000000 in
set_option maxRecDepth 100000 in
theorem wk_X1_code_0 {p : Program} {l : Launch} {e : Env} {s : State} {m : MethodId} {args : Array Value} {below : List Frame} {meth : Method} {c : Code} {D : va_G} {cc : Nat → ClassId} {ad : Nat → Nat} {A : Nat → Prop} {Post : Int32 → XS → Prop} {g : CS} (C0 : Cx p s m args meth c cX1_code 5 (some .int) RX1 wsX1_code D cc A) (hd : DA 45 ad A) (σ : XS) (x1 : Int32) (h : wp_X1_code g Post σ x1) : At_ p l e { frames := 4, cells := 0, slots := 0, locals := 93 } s m args below meth c (Qi_ below D (XW cc ad) A args s Post) D A (XW cc ad σ) 5 0 [(0, .ref (ad 0)), (1, .int x1)] [] := by
  obtain ⟨hx, hb, hml, hr, hown, hts, hlocks, hK, hA, hX⟩ := id C0
  have hin := hin_X1_code
  intro H locs ls hP hS hl
  unfold wp_X1_code at h
  refine lv_aload_n hx hb dX1_code_0 rfl (lv_at hl 0 rfl) ?_
  refine lv_iload_n hx hb dX1_code_1 rfl (lv_at hl 1 rfl) ?_
  obtain ⟨gp1, h⟩ := h
  refine call_v (Wd := XW cc ad) (σ := σ) C0 hd lens_id (As := [.int x1]) (rest := []) (ct_X1_sheetRefusal l D cc ad ⟨hd.1, fun _ _ => trivial⟩ g σ x1 gp1) (cwV 1 hts gX1_code_X1_sheetRefusal rfl rfl rfl (by decide +kernel) ⟨Nat.le_of_ble_eq_true rfl, Nat.le_of_ble_eq_true rfl⟩) (va_recv hK hP (ci := 1) (q0 := 0) rfl rfl) hP hS rfl hl.1 rfl (by simp [Value.category]) dX1_code_2 (fun r2 u hp H locs hP hS => ?_)
  obtain ⟨hp1, hp2⟩ := hp
  subst hp1
  have hp2 := hp2.symm
  subst hp2
  have hP : va_P D vwCl (XW cc ad σ) H := hP
  refine lv_topi (fun x2_3 ex2_3 => ?_)
  have h := h x2_3 ex2_3
  refine lv_istore_n (lv' := [(2, .int x2_3), (0, .ref (ad 0)), (1, .int x1)]) hx hb dX1_code_5 rfl hl (by decide) rfl (fun ls hl => ?_)
  refine lv_iload_n hx hb dX1_code_6 rfl (lv_at hl 0 rfl) ?_
  refine lv_if_eq (tgt := 12) hx hb dX1_code_7 (by decide) (fun c4 => ?_) (fun c4 => ?_)
  · have h := h.1 c4
    refine lv_iconst (v := 0) hx hb dX1_code_12 (by decide) ?_
    refine lv_istore_n (lv' := [(3, .int 0), (2, .int x2_3), (0, .ref (ad 0)), (1, .int x1)]) hx hb dX1_code_13 rfl hl (by decide) rfl (fun ls hl => ?_)
    refine lv_iconst (v := 0) hx hb dX1_code_14 (by decide) ?_
    refine lv_istore (lv' := [(4, .int 0), (3, .int 0), (2, .int x2_3), (0, .ref (ad 0)), (1, .int x1)]) hx hb dX1_code_15 hl (by decide) rfl (fun ls hl => ?_)
    exact lp_at (Wt := fun a => At_ p l e { frames := 4, cells := 0, slots := 0, locals := 93 } s m args below meth c (Qi_ below D (XW cc ad) A args s Post) D A (XW cc ad (a.1)) 5 17 [(0, .ref (ad 0)), (1, .int (a.2.1)), (3, .int (a.2.2.1)), (4, .int (a.2.2.2))] []) (fun K hK a h => wk_X1_code_17 C0 hd hK a.1 a.2.1 a.2.2.1 a.2.2.2 h) h H locs ls hP hS (lv_sub hl [3, 4, 1, 0] rfl)
  · have h := h.2 c4
    refine lv_iload_n hx hb dX1_code_10 rfl (lv_at hl 0 rfl) ?_
    exact ret_i (Wd := XW cc ad) (u := σ) C0 h hP hS dX1_code_11
theorem ct_X1_code (l : Launch) (D : va_G) (cc : Nat → ClassId) (ad : Nat → Nat) (hd : DA 45 ad (fun _ => True)) (g : CS) (σ : XS) (x1 : Int32) (hp : pr_X1_code g σ x1) : Ctr l yX1_code wsX1_code { frames := 4, cells := 0, slots := 0, locals := 93 } D cc (XW cc ad) 45 ad σ [.ref (ad 0), .int x1] (fun r u => r = fn_X1_code g σ x1 ∧ u = σ) :=
  ctr_i (rt := (some .int)) (by decide +kernel) rfl hd (Nat.le_of_ble_eq_true rfl) (fun p e s m below meth c A C0 hd => wk_X1_code_0 C0 hd σ x1 (pu_X1_code g σ x1 hp))
theorem hin_X1_shared : ∀ w ∈ u_ws RX1 TX1 12, w ∈ wsX1_shared := fun w h => List.mem_cons_of_mem _ (List.mem_append_left _ (List.mem_append_right _ h))
set_option maxHeartbeats 4000000 in
set_option maxRecDepth 100000 in
theorem wk_X1_shared_32 {p : Program} {l : Launch} {e : Env} {s : State} {m : MethodId} {args : Array Value} {below : List Frame} {meth : Method} {c : Code} {D : va_G} {cc : Nat → ClassId} {ad : Nat → Nat} {A : Nat → Prop} {Post : Int32 → XS → Prop} {g : CS} (C0 : Cx p s m args meth c cX1_shared 5 (some .int) RX1 wsX1_shared D cc A) (hd : DA 45 ad A) {K32 : (XS × Int32 × Int32 × Int32 × Int32) → Prop} (hK32 : ∀ a, K32 a → At_ p l e { frames := 2, cells := 0, slots := 0, locals := 47 } s m args below meth c (Qi_ below D (XW cc ad) A args s Post) D A (XW cc ad (a.1)) 5 32 [(0, .ref (ad 0)), (1, .int (a.2.1)), (2, .int (a.2.2.1)), (3, .int (a.2.2.2.1)), (4, .int (a.2.2.2.2))] []) (σ : XS) (x1 : Int32) (x2 : Int32) (x3 : Int32) (x4 : Int32) (h : wp_X1_shared_32 g K32 Post σ x1 x2 x3 x4) : At_ p l e { frames := 2, cells := 0, slots := 0, locals := 47 } s m args below meth c (Qi_ below D (XW cc ad) A args s Post) D A (XW cc ad σ) 5 32 [(0, .ref (ad 0)), (1, .int x1), (2, .int x2), (3, .int x3), (4, .int x4)] [] := by
  obtain ⟨hx, hb, hml, hr, hown, hts, hlocks, hK, hA, hX⟩ := id C0
  have hin := hin_X1_shared
  intro H locs ls hP hS hl
  unfold wp_X1_shared_32 at h
  refine lv_iload hx hb dX1_shared_32 (lv_at hl 4 rfl) ?_
  refine lv_aload_n hx hb dX1_shared_34 rfl (lv_at hl 0 rfl) ?_
  refine va_get (D := D) (ci := 1) (v := .int (xs_kc σ)) (C := RX1) (T := TX1) (N := 12) hx hb hts hin hown hK hP 0 rfl rfl 1 (by decide) (hts (.fieldLink RX1 15 "ClassSheets" "kindCount" "I") (List.mem_of_getElem? (i := 1) rfl)) (fun _ h9 => h9) rfl dX1_shared_35 ?_
  refine lv_icmp_ge (tgt := 62) hx hb dX1_shared_38 (by decide) (fun c1 => ?_) (fun c1 => ?_)
  · have h := h.1 c1
    refine lv_iload_n hx hb dX1_shared_62 rfl (lv_at hl 3 rfl) ?_
    exact ret_i (Wd := XW cc ad) (u := σ) C0 h hP hS dX1_shared_63
  · have h := h.2 c1
    refine lv_iload_n hx hb dX1_shared_41 rfl (lv_at hl 3 rfl) ?_
    refine lv_aload_n hx hb dX1_shared_42 rfl (lv_at hl 0 rfl) ?_
    refine va_get (D := D) (ci := 1) (v := .ref (ad 1)) (C := RX1) (T := TX1) (N := 12) hx hb hts hin hown hK hP 0 rfl rfl 0 (by decide) (hts (.fieldLink RX1 11 "ClassSheets" "kinds" "[LClassSheets$Kind;") (List.mem_of_getElem? (i := 2) rfl)) (fun _ h9 => h9) rfl dX1_shared_43 ?_
    refine lv_iload hx hb dX1_shared_46 (lv_at hl 4 rfl) ?_
    obtain ⟨gk2, h⟩ := h
    refine ld_kind C0 hP gk2 dX1_shared_48 ?_
    refine lv_iload_n hx hb dX1_shared_49 rfl (lv_at hl 1 rfl) ?_
    refine lv_iload_n hx hb dX1_shared_50 rfl (lv_at hl 2 rfl) ?_
    obtain ⟨gp3, h⟩ := h
    refine call_v (Wd := XW cc ad) (σ := σ) C0 hd (lens_k (vin_lt gk2)) (As := [.int x1, .int x2]) (rest := [.int x3]) (ct_X0_placesInCommon l D cc (ka ad (x4.toNatClampNeg)) (da_ka hd (vin_lt gk2)) (cq g (x4.toNatClampNeg)) (xs_ki σ (x4.toNatClampNeg)) x1 x2 gp3) (cwV 2 hts gX1_shared_X0_placesInCommon rfl rfl rfl (by decide +kernel) ⟨Nat.le_of_ble_eq_true rfl, Nat.le_of_ble_eq_true rfl⟩) (va_recv hK ((lens_k (D := D) (cc := cc) (ad := ad) (σ := σ) (vin_lt gk2)).1 H hP) (ci := 0) (q0 := 0) rfl rfl) hP hS rfl hl.1 rfl (by simp [Value.category]) dX1_shared_51 (fun r4 u hp H locs hP hS => ?_)
    obtain ⟨hp1, hp2⟩ := hp
    subst hp1
    have hp2 := hp2.symm
    subst hp2
    rw [xs_self] at hP
    have hP : va_P D vwCl (XW cc ad σ) H := hP
    refine lv_iadd hx hb dX1_shared_54 ?_
    refine lv_topi (fun x3_5 ex3_5 => ?_)
    have h := h x3_5 ex3_5
    refine lv_istore_n (lv' := [(3, .int x3_5), (0, .ref (ad 0)), (1, .int x1), (2, .int x2), (4, .int x4)]) hx hb dX1_shared_55 rfl hl (by decide) rfl (fun ls hl => ?_)
    obtain ⟨x4_6, ex4_6⟩ : ∃ y : Int32, y = x4 + 1 := ⟨_, rfl⟩
    have h := h x4_6 ex4_6
    refine lv_iinc (v := x4_6) (lv' := [(4, .int x4_6), (3, .int x3_5), (0, .ref (ad 0)), (1, .int x1), (2, .int x2)]) hx hb dX1_shared_56 hl (k := 4) rfl (by rw [ex4_6]; rfl) (by decide) rfl (fun ls hl => ?_)
    refine lv_goto (tgt := 32) hx hb dX1_shared_59 (by decide) ?_
    exact hK32 (σ, x1, x2, x3_5, x4_6) h H locs ls hP hS (lv_sub hl [2, 3, 4, 1, 0] rfl)
set_option maxHeartbeats 4000000 in
set_option maxRecDepth 100000 in
theorem wk_X1_shared_0 {p : Program} {l : Launch} {e : Env} {s : State} {m : MethodId} {args : Array Value} {below : List Frame} {meth : Method} {c : Code} {D : va_G} {cc : Nat → ClassId} {ad : Nat → Nat} {A : Nat → Prop} {Post : Int32 → XS → Prop} {g : CS} (C0 : Cx p s m args meth c cX1_shared 5 (some .int) RX1 wsX1_shared D cc A) (hd : DA 45 ad A) (σ : XS) (x1 : Int32) (x2 : Int32) (h : wp_X1_shared g Post σ x1 x2) : At_ p l e { frames := 2, cells := 0, slots := 0, locals := 47 } s m args below meth c (Qi_ below D (XW cc ad) A args s Post) D A (XW cc ad σ) 5 0 [(0, .ref (ad 0)), (1, .int x1), (2, .int x2)] [] := by
  obtain ⟨hx, hb, hml, hr, hown, hts, hlocks, hK, hA, hX⟩ := id C0
  have hin := hin_X1_shared
  intro H locs ls hP hS hl
  unfold wp_X1_shared at h
  refine lv_iload_n hx hb dX1_shared_0 rfl (lv_at hl 1 rfl) ?_
  refine call_s (Wd := XW cc ad) (σ := σ) C0 hd (lens_un (adc := ad)) (As := [.int x1]) (rest := []) (ct_X1_isSheet l D cc ad da0 x1) (va_cwS 1 hts gX1_shared_X1_isSheet rfl rfl rfl (by decide +kernel) ⟨Nat.le_of_ble_eq_true rfl, Nat.le_of_ble_eq_true rfl⟩) hP hS rfl hl.1 rfl (by simp [Value.category]) dX1_shared_1 (fun r1 u hp H locs hP hS => ?_)
  obtain ⟨hp1, hp2⟩ := hp
  subst hp1
  have hP : va_P D vwCl (XW cc ad σ) H := hP
  refine lv_if_eq (tgt := 14) hx hb dX1_shared_4 (by decide) (fun c2 => ?_) (fun c2 => ?_)
  · have h := h.1 c2
    refine lv_bipush (v := (-2)) hx hb dX1_shared_14 (by decide) ?_
    exact ret_i (Wd := XW cc ad) (u := σ) C0 h hP hS dX1_shared_16
  · have h := h.2 c2
    refine lv_iload_n hx hb dX1_shared_7 rfl (lv_at hl 2 rfl) ?_
    refine call_s (Wd := XW cc ad) (σ := σ) C0 hd (lens_un (adc := ad)) (As := [.int x2]) (rest := []) (ct_X1_isSheet l D cc ad da0 x2) (va_cwS 1 hts gX1_shared_X1_isSheet rfl rfl rfl (by decide +kernel) ⟨Nat.le_of_ble_eq_true rfl, Nat.le_of_ble_eq_true rfl⟩) hP hS rfl hl.1 rfl (by simp [Value.category]) dX1_shared_8 (fun r3 u hp H locs hP hS => ?_)
    obtain ⟨hp1, hp2⟩ := hp
    subst hp1
    have hP : va_P D vwCl (XW cc ad σ) H := hP
    refine lv_if_ne (tgt := 17) hx hb dX1_shared_11 (by decide) (fun c4 => ?_) (fun c4 => ?_)
    · have h := h.1 c4
      refine lv_aload_n hx hb dX1_shared_17 rfl (lv_at hl 0 rfl) ?_
      obtain ⟨gp5, h⟩ := h
      refine call_v (Wd := XW cc ad) (σ := σ) C0 hd lens_id (As := []) (rest := []) (ct_X1_lacksVariants l D cc ad ⟨hd.1, fun _ _ => trivial⟩ g σ gp5) (cwV 0 hts gX1_shared_X1_lacksVariants rfl rfl rfl (by decide +kernel) ⟨Nat.le_of_ble_eq_true rfl, Nat.le_of_ble_eq_true rfl⟩) (va_recv hK hP (ci := 1) (q0 := 0) rfl rfl) hP hS rfl hl.1 rfl (by simp [Value.category]) dX1_shared_18 (fun r6 u hp H locs hP hS => ?_)
      obtain ⟨hp1, hp2⟩ := hp
      subst hp1
      have hp2 := hp2.symm
      subst hp2
      have hP : va_P D vwCl (XW cc ad σ) H := hP
      refine lv_if_eq (tgt := 27) hx hb dX1_shared_21 (by decide) (fun c7 => ?_) (fun c7 => ?_)
      · have h := h.1 c7
        refine lv_iconst (v := 0) hx hb dX1_shared_27 (by decide) ?_
        refine lv_istore_n (lv' := [(3, .int 0), (0, .ref (ad 0)), (1, .int x1), (2, .int x2)]) hx hb dX1_shared_28 rfl hl (by decide) rfl (fun ls hl => ?_)
        refine lv_iconst (v := 0) hx hb dX1_shared_29 (by decide) ?_
        refine lv_istore (lv' := [(4, .int 0), (3, .int 0), (0, .ref (ad 0)), (1, .int x1), (2, .int x2)]) hx hb dX1_shared_30 hl (by decide) rfl (fun ls hl => ?_)
        exact lp_at (Wt := fun a => At_ p l e { frames := 2, cells := 0, slots := 0, locals := 47 } s m args below meth c (Qi_ below D (XW cc ad) A args s Post) D A (XW cc ad (a.1)) 5 32 [(0, .ref (ad 0)), (1, .int (a.2.1)), (2, .int (a.2.2.1)), (3, .int (a.2.2.2.1)), (4, .int (a.2.2.2.2))] []) (fun K hK a h => wk_X1_shared_32 C0 hd hK a.1 a.2.1 a.2.2.1 a.2.2.2.1 a.2.2.2.2 h) h H locs ls hP hS (lv_sub hl [2, 3, 4, 1, 0] rfl)
      · have h := h.2 c7
        refine lv_bipush (v := (-3)) hx hb dX1_shared_24 (by decide) ?_
        exact ret_i (Wd := XW cc ad) (u := σ) C0 h hP hS dX1_shared_26
    · have h := h.2 c4
      refine lv_bipush (v := (-2)) hx hb dX1_shared_14 (by decide) ?_
      exact ret_i (Wd := XW cc ad) (u := σ) C0 h hP hS dX1_shared_16
theorem ct_X1_shared (l : Launch) (D : va_G) (cc : Nat → ClassId) (ad : Nat → Nat) (hd : DA 45 ad (fun _ => True)) (g : CS) (σ : XS) (x1 : Int32) (x2 : Int32) (hp : pr_X1_shared g σ x1 x2) : Ctr l yX1_shared wsX1_shared { frames := 2, cells := 0, slots := 0, locals := 47 } D cc (XW cc ad) 45 ad σ [.ref (ad 0), .int x1, .int x2] (fun r u => r = fn_X1_shared g σ x1 x2 ∧ u = σ) :=
  ctr_i (rt := (some .int)) (by decide +kernel) rfl hd (Nat.le_of_ble_eq_true rfl) (fun p e s m below meth c A C0 hd => wk_X1_shared_0 C0 hd σ x1 x2 (pu_X1_shared g σ x1 x2 hp))
theorem hin_X1_apart : ∀ w ∈ u_ws RX1 TX1 12, w ∈ wsX1_apart := fun w h => List.mem_cons_of_mem _ (List.mem_append_left _ (List.mem_append_right _ h))
set_option maxHeartbeats 4000000 in
set_option maxRecDepth 100000 in
theorem wk_X1_apart_14 {p : Program} {l : Launch} {e : Env} {s : State} {m : MethodId} {args : Array Value} {below : List Frame} {meth : Method} {c : Code} {D : va_G} {cc : Nat → ClassId} {ad : Nat → Nat} {A : Nat → Prop} {Post : Int32 → XS → Prop} {g : CS} (C0 : Cx p s m args meth c cX1_apart 4 (some .int) RX1 wsX1_apart D cc A) (hd : DA 45 ad A) {K14 : (XS × Int32 × Int32) → Prop} (hK14 : ∀ a, K14 a → At_ p l e { frames := 3, cells := 0, slots := 0, locals := 62 } s m args below meth c (Qi_ below D (XW cc ad) A args s Post) D A (XW cc ad (a.1)) 4 14 [(0, .ref (ad 0)), (1, .int (a.2.1)), (3, .int (a.2.2))] []) (σ : XS) (x1 : Int32) (x3 : Int32) (h : wp_X1_apart_14 g K14 Post σ x1 x3) : At_ p l e { frames := 3, cells := 0, slots := 0, locals := 62 } s m args below meth c (Qi_ below D (XW cc ad) A args s Post) D A (XW cc ad σ) 4 14 [(0, .ref (ad 0)), (1, .int x1), (3, .int x3)] [] := by
  obtain ⟨hx, hb, hml, hr, hown, hts, hlocks, hK, hA, hX⟩ := id C0
  have hin := hin_X1_apart
  intro H locs ls hP hS hl
  unfold wp_X1_apart_14 at h
  refine lv_iload_n hx hb dX1_apart_14 rfl (lv_at hl 2 rfl) ?_
  refine lv_aload_n hx hb dX1_apart_15 rfl (lv_at hl 0 rfl) ?_
  refine va_get (D := D) (ci := 1) (v := .int (xs_kc σ)) (C := RX1) (T := TX1) (N := 12) hx hb hts hin hown hK hP 0 rfl rfl 1 (by decide) (hts (.fieldLink RX1 15 "ClassSheets" "kindCount" "I") (List.mem_of_getElem? (i := 1) rfl)) (fun _ h9 => h9) rfl dX1_apart_16 ?_
  refine lv_icmp_ge (tgt := 43) hx hb dX1_apart_19 (by decide) (fun c1 => ?_) (fun c1 => ?_)
  · have h := h.1 c1
    refine lv_iload_n hx hb dX1_apart_43 rfl (lv_at hl 1 rfl) ?_
    refine lv_sipush (v := 9999) hx hb dX1_apart_44 (by decide) ?_
    refine lv_icmp_ge (tgt := 56) hx hb dX1_apart_47 (by decide) (fun c2 => ?_) (fun c2 => ?_)
    · have h := h.1 c2
      refine lv_bipush (v := (-9)) hx hb dX1_apart_56 (by decide) ?_
      exact ret_i (Wd := XW cc ad) (u := σ) C0 h hP hS dX1_apart_58
    · have h := h.2 c2
      refine lv_iload_n hx hb dX1_apart_50 rfl (lv_at hl 1 rfl) ?_
      refine lv_iconst (v := 1) hx hb dX1_apart_51 (by decide) ?_
      refine lv_iadd hx hb dX1_apart_52 ?_
      refine lv_goto (tgt := 58) hx hb dX1_apart_53 (by decide) ?_
      exact ret_i (Wd := XW cc ad) (u := σ) C0 h hP hS dX1_apart_58
  · have h := h.2 c1
    refine lv_aload_n hx hb dX1_apart_22 rfl (lv_at hl 0 rfl) ?_
    refine va_get (D := D) (ci := 1) (v := .ref (ad 1)) (C := RX1) (T := TX1) (N := 12) hx hb hts hin hown hK hP 0 rfl rfl 0 (by decide) (hts (.fieldLink RX1 11 "ClassSheets" "kinds" "[LClassSheets$Kind;") (List.mem_of_getElem? (i := 2) rfl)) (fun _ h9 => h9) rfl dX1_apart_23 ?_
    refine lv_iload_n hx hb dX1_apart_26 rfl (lv_at hl 2 rfl) ?_
    obtain ⟨gk3, h⟩ := h
    refine ld_kind C0 hP gk3 dX1_apart_27 ?_
    refine call_v (Wd := XW cc ad) (σ := σ) C0 hd (lens_k (vin_lt gk3)) (As := []) (rest := []) (ct_X0_hasEnoughForTwo l D cc (ka ad (x3.toNatClampNeg)) (da_ka hd (vin_lt gk3)) (cq g (x3.toNatClampNeg)) (xs_ki σ (x3.toNatClampNeg))) (cwV 0 hts gX1_apart_X0_hasEnoughForTwo rfl rfl rfl (by decide +kernel) ⟨Nat.le_of_ble_eq_true rfl, Nat.le_of_ble_eq_true rfl⟩) (va_recv hK ((lens_k (D := D) (cc := cc) (ad := ad) (σ := σ) (vin_lt gk3)).1 H hP) (ci := 0) (q0 := 0) rfl rfl) hP hS rfl hl.1 rfl (by simp [Value.category]) dX1_apart_28 (fun r4 u hp H locs hP hS => ?_)
    obtain ⟨hp1, hp2⟩ := hp
    subst hp1
    have hp2 := hp2.symm
    subst hp2
    rw [xs_self] at hP
    have hP : va_P D vwCl (XW cc ad σ) H := hP
    refine lv_if_ne (tgt := 37) hx hb dX1_apart_31 (by decide) (fun c5 => ?_) (fun c5 => ?_)
    · have h := h.1 c5
      obtain ⟨x3_6, ex3_6⟩ : ∃ y : Int32, y = x3 + 1 := ⟨_, rfl⟩
      have h := h x3_6 ex3_6
      refine lv_iinc (v := x3_6) (lv' := [(3, .int x3_6), (0, .ref (ad 0)), (1, .int x1)]) hx hb dX1_apart_37 hl (k := 2) rfl (by rw [ex3_6]; rfl) (by decide) rfl (fun ls hl => ?_)
      refine lv_goto (tgt := 14) hx hb dX1_apart_40 (by decide) ?_
      exact hK14 (σ, x1, x3_6) h H locs ls hP hS (lv_sub hl [1, 2, 0] rfl)
    · have h := h.2 c5
      refine lv_bipush (v := (-9)) hx hb dX1_apart_34 (by decide) ?_
      exact ret_i (Wd := XW cc ad) (u := σ) C0 h hP hS dX1_apart_36
set_option maxHeartbeats 4000000 in
set_option maxRecDepth 100000 in
theorem wk_X1_apart_0 {p : Program} {l : Launch} {e : Env} {s : State} {m : MethodId} {args : Array Value} {below : List Frame} {meth : Method} {c : Code} {D : va_G} {cc : Nat → ClassId} {ad : Nat → Nat} {A : Nat → Prop} {Post : Int32 → XS → Prop} {g : CS} (C0 : Cx p s m args meth c cX1_apart 4 (some .int) RX1 wsX1_apart D cc A) (hd : DA 45 ad A) (σ : XS) (x1 : Int32) (h : wp_X1_apart g Post σ x1) : At_ p l e { frames := 3, cells := 0, slots := 0, locals := 62 } s m args below meth c (Qi_ below D (XW cc ad) A args s Post) D A (XW cc ad σ) 4 0 [(0, .ref (ad 0)), (1, .int x1)] [] := by
  obtain ⟨hx, hb, hml, hr, hown, hts, hlocks, hK, hA, hX⟩ := id C0
  have hin := hin_X1_apart
  intro H locs ls hP hS hl
  unfold wp_X1_apart at h
  refine lv_aload_n hx hb dX1_apart_0 rfl (lv_at hl 0 rfl) ?_
  refine lv_iload_n hx hb dX1_apart_1 rfl (lv_at hl 1 rfl) ?_
  obtain ⟨gp1, h⟩ := h
  refine call_v (Wd := XW cc ad) (σ := σ) C0 hd lens_id (As := [.int x1]) (rest := []) (ct_X1_sheetRefusal l D cc ad ⟨hd.1, fun _ _ => trivial⟩ g σ x1 gp1) (cwV 1 hts gX1_apart_X1_sheetRefusal rfl rfl rfl (by decide +kernel) ⟨Nat.le_of_ble_eq_true rfl, Nat.le_of_ble_eq_true rfl⟩) (va_recv hK hP (ci := 1) (q0 := 0) rfl rfl) hP hS rfl hl.1 rfl (by simp [Value.category]) dX1_apart_2 (fun r2 u hp H locs hP hS => ?_)
  obtain ⟨hp1, hp2⟩ := hp
  subst hp1
  have hp2 := hp2.symm
  subst hp2
  have hP : va_P D vwCl (XW cc ad σ) H := hP
  refine lv_topi (fun x2_3 ex2_3 => ?_)
  have h := h x2_3 ex2_3
  refine lv_istore_n (lv' := [(2, .int x2_3), (0, .ref (ad 0)), (1, .int x1)]) hx hb dX1_apart_5 rfl hl (by decide) rfl (fun ls hl => ?_)
  refine lv_iload_n hx hb dX1_apart_6 rfl (lv_at hl 0 rfl) ?_
  refine lv_if_eq (tgt := 12) hx hb dX1_apart_7 (by decide) (fun c4 => ?_) (fun c4 => ?_)
  · have h := h.1 c4
    refine lv_iconst (v := 0) hx hb dX1_apart_12 (by decide) ?_
    refine lv_istore_n (lv' := [(3, .int 0), (2, .int x2_3), (0, .ref (ad 0)), (1, .int x1)]) hx hb dX1_apart_13 rfl hl (by decide) rfl (fun ls hl => ?_)
    exact lp_at (Wt := fun a => At_ p l e { frames := 3, cells := 0, slots := 0, locals := 62 } s m args below meth c (Qi_ below D (XW cc ad) A args s Post) D A (XW cc ad (a.1)) 4 14 [(0, .ref (ad 0)), (1, .int (a.2.1)), (3, .int (a.2.2))] []) (fun K hK a h => wk_X1_apart_14 C0 hd hK a.1 a.2.1 a.2.2 h) h H locs ls hP hS (lv_sub hl [2, 3, 0] rfl)
  · have h := h.2 c4
    refine lv_iload_n hx hb dX1_apart_10 rfl (lv_at hl 0 rfl) ?_
    exact ret_i (Wd := XW cc ad) (u := σ) C0 h hP hS dX1_apart_11
theorem ct_X1_apart (l : Launch) (D : va_G) (cc : Nat → ClassId) (ad : Nat → Nat) (hd : DA 45 ad (fun _ => True)) (g : CS) (σ : XS) (x1 : Int32) (hp : pr_X1_apart g σ x1) : Ctr l yX1_apart wsX1_apart { frames := 3, cells := 0, slots := 0, locals := 62 } D cc (XW cc ad) 45 ad σ [.ref (ad 0), .int x1] (fun r u => r = fn_X1_apart g σ x1 ∧ u = σ) :=
  ctr_i (rt := (some .int)) (by decide +kernel) rfl hd (Nat.le_of_ble_eq_true rfl) (fun p e s m below meth c A C0 hd => wk_X1_apart_0 C0 hd σ x1 (pu_X1_apart g σ x1 hp))
theorem hin_X1_seats : ∀ w ∈ u_ws RX1 TX1 12, w ∈ wsX1_seats := fun w h => List.mem_cons_of_mem _ (List.mem_append_right _ h)
set_option maxHeartbeats 4000000 in
set_option maxRecDepth 100000 in
theorem wk_X1_seats_48 {p : Program} {l : Launch} {e : Env} {s : State} {m : MethodId} {args : Array Value} {below : List Frame} {meth : Method} {c : Code} {D : va_G} {cc : Nat → ClassId} {ad : Nat → Nat} {A : Nat → Prop} {Post : Int32 → XS → Prop} {g : CS} (C0 : Cx p s m args meth c cX1_seats 5 (some .int) RX1 wsX1_seats D cc A) (hd : DA 45 ad A) {K48 : (XS × Int32 × Int32) → Prop} (hK48 : ∀ a, K48 a → At_ p l e { frames := 0, cells := 0, slots := 0, locals := 0 } s m args below meth c (Qi_ below D (XW cc ad) A args s Post) D A (XW cc ad (a.1)) 5 48 [(0, .ref (ad 0)), (3, .int (a.2.1)), (4, .int (a.2.2))] []) (σ : XS) (x3 : Int32) (x4 : Int32) (h : wp_X1_seats_48 g K48 Post σ x3 x4) : At_ p l e { frames := 0, cells := 0, slots := 0, locals := 0 } s m args below meth c (Qi_ below D (XW cc ad) A args s Post) D A (XW cc ad σ) 5 48 [(0, .ref (ad 0)), (3, .int x3), (4, .int x4)] [] := by
  obtain ⟨hx, hb, hml, hr, hown, hts, hlocks, hK, hA, hX⟩ := id C0
  have hin := hin_X1_seats
  intro H locs ls hP hS hl
  unfold wp_X1_seats_48 at h
  refine lv_iload hx hb dX1_seats_48 (lv_at hl 2 rfl) ?_
  refine lv_aload_n hx hb dX1_seats_50 rfl (lv_at hl 0 rfl) ?_
  refine va_get (D := D) (ci := 1) (v := .ref (ad 4)) (C := RX1) (T := TX1) (N := 12) hx hb hts hin hown hK hP 0 rfl rfl 9 (by decide) (hts (.fieldLink RX1 41 "ClassSheets" "misses" "[I") (List.mem_of_getElem? (i := 3) rfl)) (fun _ h9 => h9) rfl dX1_seats_51 ?_
  refine va_alen (D := D) (v := 512) hx hb hK hP 4 0 rfl rfl rfl dX1_seats_54 ?_
  refine lv_icmp_ge (tgt := 72) hx hb dX1_seats_55 (by decide) (fun c1 => ?_) (fun c1 => ?_)
  · have h := h.1 c1
    refine lv_iload_n hx hb dX1_seats_72 rfl (lv_at hl 1 rfl) ?_
    exact ret_i (Wd := XW cc ad) (u := σ) C0 h hP hS dX1_seats_73
  · have h := h.2 c1
    refine lv_aload_n hx hb dX1_seats_58 rfl (lv_at hl 0 rfl) ?_
    refine va_get (D := D) (ci := 1) (v := .ref (ad 4)) (C := RX1) (T := TX1) (N := 12) hx hb hts hin hown hK hP 0 rfl rfl 9 (by decide) (hts (.fieldLink RX1 41 "ClassSheets" "misses" "[I") (List.mem_of_getElem? (i := 3) rfl)) (fun _ h9 => h9) rfl dX1_seats_59 ?_
    refine lv_iload hx hb dX1_seats_62 (lv_at hl 2 rfl) ?_
    refine lv_iconst (v := 0) hx hb dX1_seats_64 (by decide) ?_
    obtain ⟨gi2, h⟩ := h
    refine va_iast (D := D) (f := xs_mi σ) (x := 0) hx hb hK hP (xD hd) hS 4 0 rfl rfl gi2 dX1_seats_65 (fun H locs hP _ hS => ?_)
    have hP : va_P D vwCl (XW cc ad (xs_s_mi σ (upd (xs_mi σ) x4.toNatClampNeg 0))) H := hP
    obtain ⟨x4_3, ex4_3⟩ : ∃ y : Int32, y = x4 + 1 := ⟨_, rfl⟩
    have h := h x4_3 ex4_3
    refine lv_iinc (v := x4_3) (lv' := [(4, .int x4_3), (0, .ref (ad 0)), (3, .int x3)]) hx hb dX1_seats_66 hl (k := 2) rfl (by rw [ex4_3]; rfl) (by decide) rfl (fun ls hl => ?_)
    refine lv_goto (tgt := 48) hx hb dX1_seats_69 (by decide) ?_
    exact hK48 ((xs_s_mi σ (upd (xs_mi σ) x4.toNatClampNeg 0)), x3, x4_3) h H locs ls hP hS (lv_sub hl [1, 2, 0] rfl)
set_option maxHeartbeats 4000000 in
set_option maxRecDepth 100000 in
theorem wk_X1_seats_0 {p : Program} {l : Launch} {e : Env} {s : State} {m : MethodId} {args : Array Value} {below : List Frame} {meth : Method} {c : Code} {D : va_G} {cc : Nat → ClassId} {ad : Nat → Nat} {A : Nat → Prop} {Post : Int32 → XS → Prop} {g : CS} (C0 : Cx p s m args meth c cX1_seats 5 (some .int) RX1 wsX1_seats D cc A) (hd : DA 45 ad A) (σ : XS) (x1 : Int32) (x2 : Int32) (h : wp_X1_seats g Post σ x1 x2) : At_ p l e { frames := 0, cells := 0, slots := 0, locals := 0 } s m args below meth c (Qi_ below D (XW cc ad) A args s Post) D A (XW cc ad σ) 5 0 [(0, .ref (ad 0)), (1, .int x1), (2, .int x2)] [] := by
  obtain ⟨hx, hb, hml, hr, hown, hts, hlocks, hK, hA, hX⟩ := id C0
  have hin := hin_X1_seats
  intro H locs ls hP hS hl
  unfold wp_X1_seats at h
  refine lv_iload_n hx hb dX1_seats_0 rfl (lv_at hl 1 rfl) ?_
  refine lv_iconst (v := 1) hx hb dX1_seats_1 (by decide) ?_
  refine lv_icmp_lt (tgt := 22) hx hb dX1_seats_2 (by decide) (fun c1 => ?_) (fun c1 => ?_)
  · have h := h.1 c1
    refine lv_bipush (v := (-2)) hx hb dX1_seats_22 (by decide) ?_
    exact ret_i (Wd := XW cc ad) (u := σ) C0 h hP hS dX1_seats_24
  · have h := h.2 c1
    refine lv_iload_n hx hb dX1_seats_5 rfl (lv_at hl 1 rfl) ?_
    refine lv_bipush (v := 8) hx hb dX1_seats_6 (by decide) ?_
    refine lv_icmp_gt (tgt := 22) hx hb dX1_seats_8 (by decide) (fun c2 => ?_) (fun c2 => ?_)
    · have h := h.1 c2
      refine lv_bipush (v := (-2)) hx hb dX1_seats_22 (by decide) ?_
      exact ret_i (Wd := XW cc ad) (u := σ) C0 h hP hS dX1_seats_24
    · have h := h.2 c2
      refine lv_iload_n hx hb dX1_seats_11 rfl (lv_at hl 2 rfl) ?_
      refine lv_iconst (v := 1) hx hb dX1_seats_12 (by decide) ?_
      refine lv_icmp_lt (tgt := 22) hx hb dX1_seats_13 (by decide) (fun c3 => ?_) (fun c3 => ?_)
      · have h := h.1 c3
        refine lv_bipush (v := (-2)) hx hb dX1_seats_22 (by decide) ?_
        exact ret_i (Wd := XW cc ad) (u := σ) C0 h hP hS dX1_seats_24
      · have h := h.2 c3
        refine lv_iload_n hx hb dX1_seats_16 rfl (lv_at hl 2 rfl) ?_
        refine lv_bipush (v := 8) hx hb dX1_seats_17 (by decide) ?_
        refine lv_icmp_le (tgt := 25) hx hb dX1_seats_19 (by decide) (fun c4 => ?_) (fun c4 => ?_)
        · have h := h.1 c4
          refine lv_aload_n hx hb dX1_seats_25 rfl (lv_at hl 0 rfl) ?_
          refine va_get (D := D) (ci := 1) (v := .int (xs_rc σ)) (C := RX1) (T := TX1) (N := 12) hx hb hts hin hown hK hP 0 rfl rfl 6 (by decide) (hts (.fieldLink RX1 32 "ClassSheets" "rowCount" "I") (List.mem_of_getElem? (i := 1) rfl)) (fun _ h9 => h9) rfl dX1_seats_26 ?_
          refine lv_aload_n hx hb dX1_seats_29 rfl (lv_at hl 0 rfl) ?_
          refine va_get (D := D) (ci := 1) (v := .int (xs_cc σ)) (C := RX1) (T := TX1) (N := 12) hx hb hts hin hown hK hP 0 rfl rfl 7 (by decide) (hts (.fieldLink RX1 35 "ClassSheets" "columnCount" "I") (List.mem_of_getElem? (i := 2) rfl)) (fun _ h9 => h9) rfl dX1_seats_30 ?_
          refine lv_imul hx hb dX1_seats_33 ?_
          refine lv_topi (fun x3_5 ex3_5 => ?_)
          have h := h x3_5 ex3_5
          refine lv_istore_n (lv' := [(3, .int x3_5), (0, .ref (ad 0)), (1, .int x1), (2, .int x2)]) hx hb dX1_seats_34 rfl hl (by decide) rfl (fun ls hl => ?_)
          refine lv_aload_n hx hb dX1_seats_35 rfl (lv_at hl 1 rfl) ?_
          refine lv_iload_n hx hb dX1_seats_36 rfl (lv_at hl 2 rfl) ?_
          refine va_put (D := D) (ci := 1) (v := .int x1) (ty := .int) (C := RX1) (T := TX1) (N := 12) hx hb hts hin tyX1 tyX1_ok nmX1 hown hK hP (xD hd) hS 0 rfl rfl 6 (by decide) (hts (.fieldLink RX1 32 "ClassSheets" "rowCount" "I") (List.mem_of_getElem? (i := 1) rfl)) (fun _ h9 => h9) rfl (by decide +kernel) rfl rfl (Nat.le_of_ble_eq_true rfl) dX1_seats_37 (fun H locs hP _ hS => ?_)
          have hP : va_P D vwCl (XW cc ad (xs_s_rc σ x1)) H := hP
          refine lv_aload_n hx hb dX1_seats_40 rfl (lv_at hl 1 rfl) ?_
          refine lv_iload_n hx hb dX1_seats_41 rfl (lv_at hl 3 rfl) ?_
          refine va_put (D := D) (ci := 1) (v := .int x2) (ty := .int) (C := RX1) (T := TX1) (N := 12) hx hb hts hin tyX1 tyX1_ok nmX1 hown hK hP (xD hd) hS 0 rfl rfl 7 (by decide) (hts (.fieldLink RX1 35 "ClassSheets" "columnCount" "I") (List.mem_of_getElem? (i := 2) rfl)) (fun _ h9 => h9) rfl (by decide +kernel) rfl rfl (Nat.le_of_ble_eq_true rfl) dX1_seats_42 (fun H locs hP _ hS => ?_)
          have hP : va_P D vwCl (XW cc ad (xs_s_cc (xs_s_rc σ x1) x2)) H := hP
          refine lv_iconst (v := 0) hx hb dX1_seats_45 (by decide) ?_
          refine lv_istore (lv' := [(4, .int 0), (3, .int x3_5), (0, .ref (ad 0)), (1, .int x1), (2, .int x2)]) hx hb dX1_seats_46 hl (by decide) rfl (fun ls hl => ?_)
          exact lp_at (Wt := fun a => At_ p l e { frames := 0, cells := 0, slots := 0, locals := 0 } s m args below meth c (Qi_ below D (XW cc ad) A args s Post) D A (XW cc ad (a.1)) 5 48 [(0, .ref (ad 0)), (3, .int (a.2.1)), (4, .int (a.2.2))] []) (fun K hK a h => wk_X1_seats_48 C0 hd hK a.1 a.2.1 a.2.2 h) h H locs ls hP hS (lv_sub hl [2, 1, 0] rfl)
        · have h := h.2 c4
          refine lv_bipush (v := (-2)) hx hb dX1_seats_22 (by decide) ?_
          exact ret_i (Wd := XW cc ad) (u := σ) C0 h hP hS dX1_seats_24
theorem ct_X1_seats (l : Launch) (D : va_G) (cc : Nat → ClassId) (ad : Nat → Nat) (hd : DA 45 ad (fun _ => True)) (g : CS) (σ : XS) (x1 : Int32) (x2 : Int32) (hp : pr_X1_seats g σ x1 x2) : Ctr l yX1_seats wsX1_seats { frames := 0, cells := 0, slots := 0, locals := 0 } D cc (XW cc ad) 45 ad σ [.ref (ad 0), .int x1, .int x2] (po_X1_seats g σ x1 x2) :=
  ctr_i (rt := (some .int)) (by decide +kernel) rfl hd (Nat.le_of_ble_eq_true rfl) (fun p e s m below meth c A C0 hd => wk_X1_seats_0 C0 hd σ x1 x2 (pu_X1_seats g σ x1 x2 hp))
theorem hin_X1_base : ∀ w ∈ u_ws RX1 TX1 12, w ∈ wsX1_base := fun w h => List.mem_cons_of_mem _ (List.mem_append_right _ h)
set_option maxHeartbeats 4000000 in
set_option maxRecDepth 100000 in
theorem wk_X1_base_0 {p : Program} {l : Launch} {e : Env} {s : State} {m : MethodId} {args : Array Value} {below : List Frame} {meth : Method} {c : Code} {D : va_G} {cc : Nat → ClassId} {ad : Nat → Nat} {A : Nat → Prop} {Post : Int32 → XS → Prop} {g : CS} (C0 : Cx p s m args meth c cX1_base 3 (some .int) RX1 wsX1_base D cc A) (hd : DA 45 ad A) (σ : XS) (x1 : Int32) (h : wp_X1_base g Post σ x1) : At_ p l e { frames := 0, cells := 0, slots := 0, locals := 0 } s m args below meth c (Qi_ below D (XW cc ad) A args s Post) D A (XW cc ad σ) 3 0 [(0, .ref (ad 0)), (1, .int x1)] [] := by
  obtain ⟨hx, hb, hml, hr, hown, hts, hlocks, hK, hA, hX⟩ := id C0
  have hin := hin_X1_base
  intro H locs ls hP hS hl
  unfold wp_X1_base at h
  refine lv_iload_n hx hb dX1_base_0 rfl (lv_at hl 1 rfl) ?_
  refine lv_if_lt (tgt := 11) hx hb dX1_base_1 (by decide) (fun c1 => ?_) (fun c1 => ?_)
  · have h := h.1 c1
    refine lv_bipush (v := (-2)) hx hb dX1_base_11 (by decide) ?_
    exact ret_i (Wd := XW cc ad) (u := σ) C0 h hP hS dX1_base_13
  · have h := h.2 c1
    refine lv_iload_n hx hb dX1_base_4 rfl (lv_at hl 1 rfl) ?_
    refine lv_sipush (v := 9000) hx hb dX1_base_5 (by decide) ?_
    refine lv_icmp_le (tgt := 14) hx hb dX1_base_8 (by decide) (fun c2 => ?_) (fun c2 => ?_)
    · have h := h.1 c2
      refine lv_aload_n hx hb dX1_base_14 rfl (lv_at hl 0 rfl) ?_
      refine va_get (D := D) (ci := 1) (v := .int (xs_bn σ)) (C := RX1) (T := TX1) (N := 12) hx hb hts hin hown hK hP 0 rfl rfl 8 (by decide) (hts (.fieldLink RX1 38 "ClassSheets" "baseNumber" "I") (List.mem_of_getElem? (i := 1) rfl)) (fun _ h9 => h9) rfl dX1_base_15 ?_
      refine lv_topi (fun x2_3 ex2_3 => ?_)
      have h := h x2_3 ex2_3
      refine lv_istore_n (lv' := [(2, .int x2_3), (0, .ref (ad 0)), (1, .int x1)]) hx hb dX1_base_18 rfl hl (by decide) rfl (fun ls hl => ?_)
      refine lv_aload_n hx hb dX1_base_19 rfl (lv_at hl 1 rfl) ?_
      refine lv_iload_n hx hb dX1_base_20 rfl (lv_at hl 2 rfl) ?_
      refine va_put (D := D) (ci := 1) (v := .int x1) (ty := .int) (C := RX1) (T := TX1) (N := 12) hx hb hts hin tyX1 tyX1_ok nmX1 hown hK hP (xD hd) hS 0 rfl rfl 8 (by decide) (hts (.fieldLink RX1 38 "ClassSheets" "baseNumber" "I") (List.mem_of_getElem? (i := 1) rfl)) (fun _ h9 => h9) rfl (by decide +kernel) rfl rfl (Nat.le_of_ble_eq_true rfl) dX1_base_21 (fun H locs hP _ hS => ?_)
      have hP : va_P D vwCl (XW cc ad (xs_s_bn σ x1)) H := hP
      refine lv_iload_n hx hb dX1_base_24 rfl (lv_at hl 0 rfl) ?_
      exact ret_i (Wd := XW cc ad) (u := (xs_s_bn σ x1)) C0 h hP hS dX1_base_25
    · have h := h.2 c2
      refine lv_bipush (v := (-2)) hx hb dX1_base_11 (by decide) ?_
      exact ret_i (Wd := XW cc ad) (u := σ) C0 h hP hS dX1_base_13
theorem ct_X1_base (l : Launch) (D : va_G) (cc : Nat → ClassId) (ad : Nat → Nat) (hd : DA 45 ad (fun _ => True)) (g : CS) (σ : XS) (x1 : Int32) (hp : pr_X1_base g σ x1) : Ctr l yX1_base wsX1_base { frames := 0, cells := 0, slots := 0, locals := 0 } D cc (XW cc ad) 45 ad σ [.ref (ad 0), .int x1] (po_X1_base g σ x1) :=
  ctr_i (rt := (some .int)) (by decide +kernel) rfl hd (Nat.le_of_ble_eq_true rfl) (fun p e s m below meth c A C0 hd => wk_X1_base_0 C0 hd σ x1 (pu_X1_base g σ x1 hp))
theorem hin_X1_isSeat : ∀ w ∈ u_ws RX1 TX1 12, w ∈ wsX1_isSeat := fun w h => List.mem_cons_of_mem _ (List.mem_append_right _ h)
set_option maxHeartbeats 4000000 in
set_option maxRecDepth 100000 in
theorem wk_X1_isSeat_0 {p : Program} {l : Launch} {e : Env} {s : State} {m : MethodId} {args : Array Value} {below : List Frame} {meth : Method} {c : Code} {D : va_G} {cc : Nat → ClassId} {ad : Nat → Nat} {A : Nat → Prop} {Post : Int32 → XS → Prop} {g : CS} (C0 : Cx p s m args meth c cX1_isSeat 2 (some .boolean) RX1 wsX1_isSeat D cc A) (hd : DA 45 ad A) (σ : XS) (x1 : Int32) (h : wp_X1_isSeat g Post σ x1) : At_ p l e { frames := 0, cells := 0, slots := 0, locals := 0 } s m args below meth c (Qi_ below D (XW cc ad) A args s Post) D A (XW cc ad σ) 2 0 [(0, .ref (ad 0)), (1, .int x1)] [] := by
  obtain ⟨hx, hb, hml, hr, hown, hts, hlocks, hK, hA, hX⟩ := id C0
  have hin := hin_X1_isSeat
  intro H locs ls hP hS hl
  unfold wp_X1_isSeat at h
  refine lv_iload_n hx hb dX1_isSeat_0 rfl (lv_at hl 1 rfl) ?_
  refine lv_if_lt (tgt := 30) hx hb dX1_isSeat_1 (by decide) (fun c1 => ?_) (fun c1 => ?_)
  · have h := h.1 c1
    refine lv_iconst (v := 0) hx hb dX1_isSeat_30 (by decide) ?_
    exact ret_z (Wd := XW cc ad) (u := σ) C0 rfl h hP hS dX1_isSeat_31
  · have h := h.2 c1
    refine lv_iload_n hx hb dX1_isSeat_4 rfl (lv_at hl 1 rfl) ?_
    refine lv_bipush (v := 10) hx hb dX1_isSeat_5 (by decide) ?_
    refine lv_idiv hx hb dX1_isSeat_7 (by decide) ?_
    refine lv_aload_n hx hb dX1_isSeat_8 rfl (lv_at hl 0 rfl) ?_
    refine va_get (D := D) (ci := 1) (v := .int (xs_rc σ)) (C := RX1) (T := TX1) (N := 12) hx hb hts hin hown hK hP 0 rfl rfl 6 (by decide) (hts (.fieldLink RX1 32 "ClassSheets" "rowCount" "I") (List.mem_of_getElem? (i := 1) rfl)) (fun _ h9 => h9) rfl dX1_isSeat_9 ?_
    refine lv_icmp_ge (tgt := 30) hx hb dX1_isSeat_12 (by decide) (fun c2 => ?_) (fun c2 => ?_)
    · have h := h.1 c2
      refine lv_iconst (v := 0) hx hb dX1_isSeat_30 (by decide) ?_
      exact ret_z (Wd := XW cc ad) (u := σ) C0 rfl h hP hS dX1_isSeat_31
    · have h := h.2 c2
      refine lv_iload_n hx hb dX1_isSeat_15 rfl (lv_at hl 1 rfl) ?_
      refine lv_bipush (v := 10) hx hb dX1_isSeat_16 (by decide) ?_
      refine lv_irem hx hb dX1_isSeat_18 (by decide) ?_
      refine lv_aload_n hx hb dX1_isSeat_19 rfl (lv_at hl 0 rfl) ?_
      refine va_get (D := D) (ci := 1) (v := .int (xs_cc σ)) (C := RX1) (T := TX1) (N := 12) hx hb hts hin hown hK hP 0 rfl rfl 7 (by decide) (hts (.fieldLink RX1 35 "ClassSheets" "columnCount" "I") (List.mem_of_getElem? (i := 2) rfl)) (fun _ h9 => h9) rfl dX1_isSeat_20 ?_
      refine lv_icmp_ge (tgt := 30) hx hb dX1_isSeat_23 (by decide) (fun c3 => ?_) (fun c3 => ?_)
      · have h := h.1 c3
        refine lv_iconst (v := 0) hx hb dX1_isSeat_30 (by decide) ?_
        exact ret_z (Wd := XW cc ad) (u := σ) C0 rfl h hP hS dX1_isSeat_31
      · have h := h.2 c3
        refine lv_iconst (v := 1) hx hb dX1_isSeat_26 (by decide) ?_
        refine lv_goto (tgt := 31) hx hb dX1_isSeat_27 (by decide) ?_
        exact ret_z (Wd := XW cc ad) (u := σ) C0 rfl h hP hS dX1_isSeat_31
theorem ct_X1_isSeat (l : Launch) (D : va_G) (cc : Nat → ClassId) (ad : Nat → Nat) (hd : DA 45 ad (fun _ => True)) (g : CS) (σ : XS) (x1 : Int32) : Ctr l yX1_isSeat wsX1_isSeat { frames := 0, cells := 0, slots := 0, locals := 0 } D cc (XW cc ad) 45 ad σ [.ref (ad 0), .int x1] (fun r u => r = fn_X1_isSeat σ x1 ∧ u = σ) :=
  ctr_i (rt := (some .boolean)) (by decide +kernel) rfl hd (Nat.le_of_ble_eq_true rfl) (fun p e s m below meth c A C0 hd => wk_X1_isSeat_0 C0 hd σ x1 (pu_X1_isSeat g σ x1))
theorem hin_X1_sheetAt : ∀ w ∈ u_ws RX1 TX1 12, w ∈ wsX1_sheetAt := fun w h => List.mem_cons_of_mem _ (List.mem_append_right _ h)
set_option maxHeartbeats 4000000 in
set_option maxRecDepth 100000 in
theorem wk_X1_sheetAt_0 {p : Program} {l : Launch} {e : Env} {s : State} {m : MethodId} {args : Array Value} {below : List Frame} {meth : Method} {c : Code} {D : va_G} {cc : Nat → ClassId} {ad : Nat → Nat} {A : Nat → Prop} {Post : Int32 → XS → Prop} {g : CS} (C0 : Cx p s m args meth c cX1_sheetAt 4 (some .int) RX1 wsX1_sheetAt D cc A) (hd : DA 45 ad A) (σ : XS) (x1 : Int32) (h : wp_X1_sheetAt g Post σ x1) : At_ p l e { frames := 1, cells := 0, slots := 0, locals := 21 } s m args below meth c (Qi_ below D (XW cc ad) A args s Post) D A (XW cc ad σ) 4 0 [(0, .ref (ad 0)), (1, .int x1)] [] := by
  obtain ⟨hx, hb, hml, hr, hown, hts, hlocks, hK, hA, hX⟩ := id C0
  have hin := hin_X1_sheetAt
  intro H locs ls hP hS hl
  unfold wp_X1_sheetAt at h
  refine lv_iload_n hx hb dX1_sheetAt_0 rfl (lv_at hl 1 rfl) ?_
  refine lv_bipush (v := 10) hx hb dX1_sheetAt_1 (by decide) ?_
  refine lv_idiv hx hb dX1_sheetAt_3 (by decide) ?_
  refine lv_iconst (v := 2) hx hb dX1_sheetAt_4 (by decide) ?_
  refine lv_irem hx hb dX1_sheetAt_5 (by decide) ?_
  refine lv_topi (fun x2_1 ex2_1 => ?_)
  have h := h x2_1 ex2_1
  refine lv_istore_n (lv' := [(2, .int x2_1), (0, .ref (ad 0)), (1, .int x1)]) hx hb dX1_sheetAt_6 rfl hl (by decide) rfl (fun ls hl => ?_)
  refine lv_iload_n hx hb dX1_sheetAt_7 rfl (lv_at hl 2 rfl) ?_
  refine lv_bipush (v := 10) hx hb dX1_sheetAt_8 (by decide) ?_
  refine lv_irem hx hb dX1_sheetAt_10 (by decide) ?_
  refine lv_iconst (v := 2) hx hb dX1_sheetAt_11 (by decide) ?_
  refine lv_irem hx hb dX1_sheetAt_12 (by decide) ?_
  refine lv_topi (fun x3_2 ex3_2 => ?_)
  have h := h x3_2 ex3_2
  refine lv_istore_n (lv' := [(3, .int x3_2), (2, .int x2_1), (0, .ref (ad 0)), (1, .int x1)]) hx hb dX1_sheetAt_13 rfl hl (by decide) rfl (fun ls hl => ?_)
  refine lv_aload_n hx hb dX1_sheetAt_14 rfl (lv_at hl 2 rfl) ?_
  refine va_get (D := D) (ci := 1) (v := .int (xs_bn σ)) (C := RX1) (T := TX1) (N := 12) hx hb hts hin hown hK hP 0 rfl rfl 8 (by decide) (hts (.fieldLink RX1 38 "ClassSheets" "baseNumber" "I") (List.mem_of_getElem? (i := 1) rfl)) (fun _ h9 => h9) rfl dX1_sheetAt_15 ?_
  refine lv_iload_n hx hb dX1_sheetAt_18 rfl (lv_at hl 1 rfl) ?_
  refine lv_aload_n hx hb dX1_sheetAt_19 rfl (lv_at hl 2 rfl) ?_
  refine va_get (D := D) (ci := 1) (v := .int (xs_cc σ)) (C := RX1) (T := TX1) (N := 12) hx hb hts hin hown hK hP 0 rfl rfl 7 (by decide) (hts (.fieldLink RX1 35 "ClassSheets" "columnCount" "I") (List.mem_of_getElem? (i := 2) rfl)) (fun _ h9 => h9) rfl dX1_sheetAt_20 ?_
  refine lv_iconst (v := 2) hx hb dX1_sheetAt_23 (by decide) ?_
  refine va_mmin hx hb (hml.trans hl.1.symm) hown (hts (.methodLink RX1 151 Lib.Math.min.name) (List.mem_of_getElem? (i := 3) rfl)) (hts (.static Lib.Math.min.name) (List.mem_of_getElem? (i := 4) rfl)) (hts (.initialized "java/lang/Math") (List.mem_of_getElem? (i := 5) rfl)) (hts (.code Lib.Math.min.name Lib.Math.min.code 2 (some .int)) (List.mem_of_getElem? (i := 6) rfl)) (by decide) (by simp [Value.category]) (Nat.zero_le _) (Nat.zero_le _) dX1_sheetAt_24 ?_
  refine lv_imul hx hb dX1_sheetAt_27 ?_
  refine lv_iadd hx hb dX1_sheetAt_28 ?_
  refine lv_iload_n hx hb dX1_sheetAt_29 rfl (lv_at hl 0 rfl) ?_
  refine lv_iadd hx hb dX1_sheetAt_30 ?_
  exact ret_i (Wd := XW cc ad) (u := σ) C0 h hP hS dX1_sheetAt_31
theorem ct_X1_sheetAt (l : Launch) (D : va_G) (cc : Nat → ClassId) (ad : Nat → Nat) (hd : DA 45 ad (fun _ => True)) (g : CS) (σ : XS) (x1 : Int32) : Ctr l yX1_sheetAt wsX1_sheetAt { frames := 1, cells := 0, slots := 0, locals := 21 } D cc (XW cc ad) 45 ad σ [.ref (ad 0), .int x1] (fun r u => r = fn_X1_sheetAt σ x1 ∧ u = σ) :=
  ctr_i (rt := (some .int)) (by decide +kernel) rfl hd (Nat.le_of_ble_eq_true rfl) (fun p e s m below meth c A C0 hd => wk_X1_sheetAt_0 C0 hd σ x1 (pu_X1_sheetAt g σ x1))
theorem hin_X1_seat : ∀ w ∈ u_ws RX1 TX1 12, w ∈ wsX1_seat := fun w h => List.mem_cons_of_mem _ (List.mem_append_right _ h)
set_option maxHeartbeats 4000000 in
set_option maxRecDepth 100000 in
theorem wk_X1_seat_0 {p : Program} {l : Launch} {e : Env} {s : State} {m : MethodId} {args : Array Value} {below : List Frame} {meth : Method} {c : Code} {D : va_G} {cc : Nat → ClassId} {ad : Nat → Nat} {A : Nat → Prop} {Post : Int32 → XS → Prop} {g : CS} (C0 : Cx p s m args meth c cX1_seat 2 (some .int) RX1 wsX1_seat D cc A) (hd : DA 45 ad A) (σ : XS) (x1 : Int32) (h : wp_X1_seat g Post σ x1) : At_ p l e { frames := 2, cells := 0, slots := 0, locals := 44 } s m args below meth c (Qi_ below D (XW cc ad) A args s Post) D A (XW cc ad σ) 2 0 [(0, .ref (ad 0)), (1, .int x1)] [] := by
  obtain ⟨hx, hb, hml, hr, hown, hts, hlocks, hK, hA, hX⟩ := id C0
  have hin := hin_X1_seat
  intro H locs ls hP hS hl
  unfold wp_X1_seat at h
  refine lv_aload_n hx hb dX1_seat_0 rfl (lv_at hl 0 rfl) ?_
  refine lv_iload_n hx hb dX1_seat_1 rfl (lv_at hl 1 rfl) ?_
  refine call_v (Wd := XW cc ad) (σ := σ) C0 hd lens_id (As := [.int x1]) (rest := []) (ct_X1_isSeat l D cc ad ⟨hd.1, fun _ _ => trivial⟩ g σ x1) (cwV 1 hts gX1_seat_X1_isSeat rfl rfl rfl (by decide +kernel) ⟨Nat.le_of_ble_eq_true rfl, Nat.le_of_ble_eq_true rfl⟩) (va_recv hK hP (ci := 1) (q0 := 0) rfl rfl) hP hS rfl hl.1 rfl (by simp [Value.category]) dX1_seat_2 (fun r1 u hp H locs hP hS => ?_)
  obtain ⟨hp1, hp2⟩ := hp
  subst hp1
  have hp2 := hp2.symm
  subst hp2
  have hP : va_P D vwCl (XW cc ad σ) H := hP
  refine lv_if_eq (tgt := 16) hx hb dX1_seat_5 (by decide) (fun c2 => ?_) (fun c2 => ?_)
  · have h := h.1 c2
    refine lv_iconst (v := (-1)) hx hb dX1_seat_16 (by decide) ?_
    exact ret_i (Wd := XW cc ad) (u := σ) C0 h hP hS dX1_seat_17
  · have h := h.2 c2
    refine lv_aload_n hx hb dX1_seat_8 rfl (lv_at hl 0 rfl) ?_
    refine lv_iload_n hx hb dX1_seat_9 rfl (lv_at hl 1 rfl) ?_
    refine call_v (Wd := XW cc ad) (σ := σ) C0 hd lens_id (As := [.int x1]) (rest := []) (ct_X1_sheetAt l D cc ad ⟨hd.1, fun _ _ => trivial⟩ g σ x1) (cwV 1 hts gX1_seat_X1_sheetAt rfl rfl rfl (by decide +kernel) ⟨Nat.le_of_ble_eq_true rfl, Nat.le_of_ble_eq_true rfl⟩) (va_recv hK hP (ci := 1) (q0 := 0) rfl rfl) hP hS rfl hl.1 rfl (by simp [Value.category]) dX1_seat_10 (fun r3 u hp H locs hP hS => ?_)
    obtain ⟨hp1, hp2⟩ := hp
    subst hp1
    have hp2 := hp2.symm
    subst hp2
    have hP : va_P D vwCl (XW cc ad σ) H := hP
    refine lv_goto (tgt := 17) hx hb dX1_seat_13 (by decide) ?_
    exact ret_i (Wd := XW cc ad) (u := σ) C0 h hP hS dX1_seat_17
theorem ct_X1_seat (l : Launch) (D : va_G) (cc : Nat → ClassId) (ad : Nat → Nat) (hd : DA 45 ad (fun _ => True)) (g : CS) (σ : XS) (x1 : Int32) (hp : pr_X1_seat g σ x1) : Ctr l yX1_seat wsX1_seat { frames := 2, cells := 0, slots := 0, locals := 44 } D cc (XW cc ad) 45 ad σ [.ref (ad 0), .int x1] (fun r u => r = fn_X1_seat g σ x1 ∧ u = σ) :=
  ctr_i (rt := (some .int)) (by decide +kernel) rfl hd (Nat.le_of_ble_eq_true rfl) (fun p e s m below meth c A C0 hd => wk_X1_seat_0 C0 hd σ x1 (pu_X1_seat g σ x1 hp))
theorem hin_X1_unlike : ∀ w ∈ u_ws RX1 TX1 12, w ∈ wsX1_unlike := fun w h => List.mem_cons_of_mem _ (List.mem_append_right _ h)
set_option maxHeartbeats 4000000 in
set_option maxRecDepth 100000 in
theorem wk_X1_unlike_0 {p : Program} {l : Launch} {e : Env} {s : State} {m : MethodId} {args : Array Value} {below : List Frame} {meth : Method} {c : Code} {D : va_G} {cc : Nat → ClassId} {ad : Nat → Nat} {A : Nat → Prop} {Post : Int32 → XS → Prop} {g : CS} (C0 : Cx p s m args meth c cX1_unlike 1 (some .int) RX1 wsX1_unlike D cc A) (hd : DA 45 ad A) (σ : XS) (h : wp_X1_unlike g Post σ) : At_ p l e { frames := 1, cells := 0, slots := 0, locals := 21 } s m args below meth c (Qi_ below D (XW cc ad) A args s Post) D A (XW cc ad σ) 1 0 [(0, .ref (ad 0))] [] := by
  obtain ⟨hx, hb, hml, hr, hown, hts, hlocks, hK, hA, hX⟩ := id C0
  have hin := hin_X1_unlike
  intro H locs ls hP hS hl
  unfold wp_X1_unlike at h
  refine lv_aload_n hx hb dX1_unlike_0 rfl (lv_at hl 0 rfl) ?_
  refine va_get (D := D) (ci := 1) (v := .int (xs_rc σ)) (C := RX1) (T := TX1) (N := 12) hx hb hts hin hown hK hP 0 rfl rfl 6 (by decide) (hts (.fieldLink RX1 32 "ClassSheets" "rowCount" "I") (List.mem_of_getElem? (i := 1) rfl)) (fun _ h9 => h9) rfl dX1_unlike_1 ?_
  refine lv_iconst (v := 2) hx hb dX1_unlike_4 (by decide) ?_
  refine va_mmin hx hb (hml.trans hl.1.symm) hown (hts (.methodLink RX1 151 Lib.Math.min.name) (List.mem_of_getElem? (i := 2) rfl)) (hts (.static Lib.Math.min.name) (List.mem_of_getElem? (i := 3) rfl)) (hts (.initialized "java/lang/Math") (List.mem_of_getElem? (i := 4) rfl)) (hts (.code Lib.Math.min.name Lib.Math.min.code 2 (some .int)) (List.mem_of_getElem? (i := 5) rfl)) (by decide) (by simp [Value.category]) (Nat.zero_le _) (Nat.zero_le _) dX1_unlike_5 ?_
  refine lv_aload_n hx hb dX1_unlike_8 rfl (lv_at hl 0 rfl) ?_
  refine va_get (D := D) (ci := 1) (v := .int (xs_cc σ)) (C := RX1) (T := TX1) (N := 12) hx hb hts hin hown hK hP 0 rfl rfl 7 (by decide) (hts (.fieldLink RX1 35 "ClassSheets" "columnCount" "I") (List.mem_of_getElem? (i := 6) rfl)) (fun _ h9 => h9) rfl dX1_unlike_9 ?_
  refine lv_iconst (v := 2) hx hb dX1_unlike_12 (by decide) ?_
  refine va_mmin hx hb (hml.trans hl.1.symm) hown (hts (.methodLink RX1 151 Lib.Math.min.name) (List.mem_of_getElem? (i := 2) rfl)) (hts (.static Lib.Math.min.name) (List.mem_of_getElem? (i := 3) rfl)) (hts (.initialized "java/lang/Math") (List.mem_of_getElem? (i := 4) rfl)) (hts (.code Lib.Math.min.name Lib.Math.min.code 2 (some .int)) (List.mem_of_getElem? (i := 5) rfl)) (by decide) (by simp [Value.category]) (Nat.zero_le _) (Nat.zero_le _) dX1_unlike_13 ?_
  refine lv_imul hx hb dX1_unlike_16 ?_
  exact ret_i (Wd := XW cc ad) (u := σ) C0 h hP hS dX1_unlike_17
theorem ct_X1_unlike (l : Launch) (D : va_G) (cc : Nat → ClassId) (ad : Nat → Nat) (hd : DA 45 ad (fun _ => True)) (g : CS) (σ : XS) (hp : pr_X1_unlike g σ) : Ctr l yX1_unlike wsX1_unlike { frames := 1, cells := 0, slots := 0, locals := 21 } D cc (XW cc ad) 45 ad σ [.ref (ad 0)] (fun r u => r = fn_X1_unlike g σ ∧ u = σ) :=
  ctr_i (rt := (some .int)) (by decide +kernel) rfl hd (Nat.le_of_ble_eq_true rfl) (fun p e s m below meth c A C0 hd => wk_X1_unlike_0 C0 hd σ (pu_X1_unlike g σ hp))
set_option maxHeartbeats 4000000 in
set_option maxRecDepth 100000 in
theorem wk_X1_missesFrom_0 {p : Program} {l : Launch} {e : Env} {s : State} {m : MethodId} {args : Array Value} {below : List Frame} {meth : Method} {c : Code} {D : va_G} {cc : Nat → ClassId} {ad : Nat → Nat} {A : Nat → Prop} {Post : Int32 → XS → Prop} {g : CS} (C0 : Cx p s m args meth c cX1_missesFrom 2 (some .int) RX1 wsX1_missesFrom D cc A) (hd : DA 45 ad A) (σ : XS) (x1 : Int32) (h : wp_X1_missesFrom g Post σ x1) : At_ p l e { frames := 0, cells := 0, slots := 0, locals := 0 } s m args below meth c (Qi_ below D (XW cc ad) A args s Post) D A (XW cc ad σ) 2 0 [(0, .ref (ad 0)), (1, .int x1)] [] := by
  obtain ⟨hx, hb, hml, hr, hown, hts, hlocks, hK, hA, hX⟩ := id C0
  intro H locs ls hP hS hl
  unfold wp_X1_missesFrom at h
  refine lv_iload_n hx hb dX1_missesFrom_0 rfl (lv_at hl 1 rfl) ?_
  refine lv_bipush (v := 10) hx hb dX1_missesFrom_1 (by decide) ?_
  refine lv_idiv hx hb dX1_missesFrom_3 (by decide) ?_
  refine lv_bipush (v := 8) hx hb dX1_missesFrom_4 (by decide) ?_
  refine lv_imul hx hb dX1_missesFrom_6 ?_
  refine lv_iload_n hx hb dX1_missesFrom_7 rfl (lv_at hl 1 rfl) ?_
  refine lv_bipush (v := 10) hx hb dX1_missesFrom_8 (by decide) ?_
  refine lv_irem hx hb dX1_missesFrom_10 (by decide) ?_
  refine lv_iadd hx hb dX1_missesFrom_11 ?_
  refine lv_bipush (v := 8) hx hb dX1_missesFrom_12 (by decide) ?_
  refine lv_imul hx hb dX1_missesFrom_14 ?_
  exact ret_i (Wd := XW cc ad) (u := σ) C0 h hP hS dX1_missesFrom_15
theorem ct_X1_missesFrom (l : Launch) (D : va_G) (cc : Nat → ClassId) (ad : Nat → Nat) (hd : DA 45 ad (fun _ => True)) (g : CS) (σ : XS) (x1 : Int32) : Ctr l yX1_missesFrom wsX1_missesFrom { frames := 0, cells := 0, slots := 0, locals := 0 } D cc (XW cc ad) 45 ad σ [.ref (ad 0), .int x1] (fun r u => r = fn_X1_missesFrom σ x1 ∧ u = σ) :=
  ctr_i (rt := (some .int)) (by decide +kernel) rfl hd (Nat.le_of_ble_eq_true rfl) (fun p e s m below meth c A C0 hd => wk_X1_missesFrom_0 C0 hd σ x1 (pu_X1_missesFrom g σ x1))
theorem hin_X1_mark : ∀ w ∈ u_ws RX1 TX1 12, w ∈ wsX1_mark := fun w h => List.mem_cons_of_mem _ (List.mem_append_left _ (List.mem_append_right _ h))
set_option maxHeartbeats 4000000 in
set_option maxRecDepth 100000 in
theorem wk_X1_mark_0 {p : Program} {l : Launch} {e : Env} {s : State} {m : MethodId} {args : Array Value} {below : List Frame} {meth : Method} {c : Code} {D : va_G} {cc : Nat → ClassId} {ad : Nat → Nat} {A : Nat → Prop} {Post : Int32 → XS → Prop} {g : CS} (C0 : Cx p s m args meth c cX1_mark 6 (some .int) RX1 wsX1_mark D cc A) (hd : DA 45 ad A) (σ : XS) (x1 : Int32) (x2 : Int32) (x3 : Int32) (h : wp_X1_mark g Post σ x1 x2 x3) : At_ p l e { frames := 4, cells := 0, slots := 0, locals := 95 } s m args below meth c (Qi_ below D (XW cc ad) A args s Post) D A (XW cc ad σ) 6 0 [(0, .ref (ad 0)), (1, .int x1), (2, .int x2), (3, .int x3)] [] := by
  obtain ⟨hx, hb, hml, hr, hown, hts, hlocks, hK, hA, hX⟩ := id C0
  have hin := hin_X1_mark
  intro H locs ls hP hS hl
  unfold wp_X1_mark at h
  refine lv_aload_n hx hb dX1_mark_0 rfl (lv_at hl 0 rfl) ?_
  refine lv_iload_n hx hb dX1_mark_1 rfl (lv_at hl 1 rfl) ?_
  refine call_v (Wd := XW cc ad) (σ := σ) C0 hd lens_id (As := [.int x1]) (rest := []) (ct_X1_isSeat l D cc ad ⟨hd.1, fun _ _ => trivial⟩ g σ x1) (cwV 1 hts gX1_mark_X1_isSeat rfl rfl rfl (by decide +kernel) ⟨Nat.le_of_ble_eq_true rfl, Nat.le_of_ble_eq_true rfl⟩) (va_recv hK hP (ci := 1) (q0 := 0) rfl rfl) hP hS rfl hl.1 rfl (by simp [Value.category]) dX1_mark_2 (fun r1 u hp H locs hP hS => ?_)
  obtain ⟨hp1, hp2⟩ := hp
  subst hp1
  have hp2 := hp2.symm
  subst hp2
  have hP : va_P D vwCl (XW cc ad σ) H := hP
  refine lv_if_eq (tgt := 16) hx hb dX1_mark_5 (by decide) (fun c2 => ?_) (fun c2 => ?_)
  · have h := h.1 c2
    refine lv_iconst (v := (-1)) hx hb dX1_mark_16 (by decide) ?_
    exact ret_i (Wd := XW cc ad) (u := σ) C0 h hP hS dX1_mark_17
  · have h := h.2 c2
    refine lv_aload_n hx hb dX1_mark_8 rfl (lv_at hl 0 rfl) ?_
    refine lv_iload_n hx hb dX1_mark_9 rfl (lv_at hl 2 rfl) ?_
    refine call_v (Wd := XW cc ad) (σ := σ) C0 hd lens_id (As := [.int x2]) (rest := []) (ct_X1_isPlace l D cc ad ⟨hd.1, fun _ _ => trivial⟩ g σ x2) (cwV 1 hts gX1_mark_X1_isPlace rfl rfl rfl (by decide +kernel) ⟨Nat.le_of_ble_eq_true rfl, Nat.le_of_ble_eq_true rfl⟩) (va_recv hK hP (ci := 1) (q0 := 0) rfl rfl) hP hS rfl hl.1 rfl (by simp [Value.category]) dX1_mark_10 (fun r3 u hp H locs hP hS => ?_)
    obtain ⟨hp1, hp2⟩ := hp
    subst hp1
    have hp2 := hp2.symm
    subst hp2
    have hP : va_P D vwCl (XW cc ad σ) H := hP
    refine lv_if_ne (tgt := 18) hx hb dX1_mark_13 (by decide) (fun c4 => ?_) (fun c4 => ?_)
    · have h := h.1 c4
      refine lv_aload_n hx hb dX1_mark_18 rfl (lv_at hl 0 rfl) ?_
      obtain ⟨gp5, h⟩ := h
      refine call_v (Wd := XW cc ad) (σ := σ) C0 hd lens_id (As := []) (rest := []) (ct_X1_lacksVariants l D cc ad ⟨hd.1, fun _ _ => trivial⟩ g σ gp5) (cwV 0 hts gX1_mark_X1_lacksVariants rfl rfl rfl (by decide +kernel) ⟨Nat.le_of_ble_eq_true rfl, Nat.le_of_ble_eq_true rfl⟩) (va_recv hK hP (ci := 1) (q0 := 0) rfl rfl) hP hS rfl hl.1 rfl (by simp [Value.category]) dX1_mark_19 (fun r6 u hp H locs hP hS => ?_)
      obtain ⟨hp1, hp2⟩ := hp
      subst hp1
      have hp2 := hp2.symm
      subst hp2
      have hP : va_P D vwCl (XW cc ad σ) H := hP
      refine lv_if_eq (tgt := 28) hx hb dX1_mark_22 (by decide) (fun c7 => ?_) (fun c7 => ?_)
      · have h := h.1 c7
        refine lv_aload_n hx hb dX1_mark_28 rfl (lv_at hl 0 rfl) ?_
        refine va_get (D := D) (ci := 1) (v := .ref (ad 2)) (C := RX1) (T := TX1) (N := 12) hx hb hts hin hown hK hP 0 rfl rfl 2 (by decide) (hts (.fieldLink RX1 19 "ClassSheets" "plannedKinds" "[I") (List.mem_of_getElem? (i := 1) rfl)) (fun _ h9 => h9) rfl dX1_mark_29 ?_
        refine lv_iload_n hx hb dX1_mark_32 rfl (lv_at hl 2 rfl) ?_
        obtain ⟨gi8, h⟩ := h
        refine va_iald (D := D) (f := xs_pk σ) hx hb hK hP 2 0 rfl rfl gi8 dX1_mark_33 ?_
        refine lv_topi (fun x4_9 ex4_9 => ?_)
        have h := h x4_9 ex4_9
        refine lv_istore (lv' := [(4, .int x4_9), (0, .ref (ad 0)), (1, .int x1), (2, .int x2), (3, .int x3)]) hx hb dX1_mark_34 hl (by decide) rfl (fun ls hl => ?_)
        refine lv_aload_n hx hb dX1_mark_36 rfl (lv_at hl 1 rfl) ?_
        refine va_get (D := D) (ci := 1) (v := .ref (ad 1)) (C := RX1) (T := TX1) (N := 12) hx hb hts hin hown hK hP 0 rfl rfl 0 (by decide) (hts (.fieldLink RX1 11 "ClassSheets" "kinds" "[LClassSheets$Kind;") (List.mem_of_getElem? (i := 2) rfl)) (fun _ h9 => h9) rfl dX1_mark_37 ?_
        refine lv_iload hx hb dX1_mark_40 (lv_at hl 0 rfl) ?_
        obtain ⟨gk10, h⟩ := h
        refine ld_kind C0 hP gk10 dX1_mark_42 ?_
        refine lv_aload_n hx hb dX1_mark_43 rfl (lv_at hl 1 rfl) ?_
        refine lv_aload_n hx hb dX1_mark_44 rfl (lv_at hl 1 rfl) ?_
        refine lv_iload_n hx hb dX1_mark_45 rfl (lv_at hl 2 rfl) ?_
        refine call_v (Wd := XW cc ad) (σ := σ) C0 hd lens_id (As := [.int x1]) (rest := [.ref (ad 0), .ref (ka ad (x4_9.toNatClampNeg) 0)]) (ct_X1_sheetAt l D cc ad ⟨hd.1, fun _ _ => trivial⟩ g σ x1) (cwV 1 hts gX1_mark_X1_sheetAt rfl rfl rfl (by decide +kernel) ⟨Nat.le_of_ble_eq_true rfl, Nat.le_of_ble_eq_true rfl⟩) (va_recv hK hP (ci := 1) (q0 := 0) rfl rfl) hP hS rfl hl.1 rfl (by simp [Value.category]) dX1_mark_46 (fun r11 u hp H locs hP hS => ?_)
        obtain ⟨hp1, hp2⟩ := hp
        subst hp1
        have hp2 := hp2.symm
        subst hp2
        have hP : va_P D vwCl (XW cc ad σ) H := hP
        refine lv_iload_n hx hb dX1_mark_49 rfl (lv_at hl 3 rfl) ?_
        obtain ⟨gp12, h⟩ := h
        refine call_v (Wd := XW cc ad) (σ := σ) C0 hd lens_id (As := [.int (fn_X1_sheetAt σ x1), .int x2]) (rest := [.ref (ka ad (x4_9.toNatClampNeg) 0)]) (ct_X1_variantOn l D cc ad ⟨hd.1, fun _ _ => trivial⟩ g σ (fn_X1_sheetAt σ x1) x2 gp12) (cwV 2 hts gX1_mark_X1_variantOn rfl rfl rfl (by decide +kernel) ⟨Nat.le_of_ble_eq_true rfl, Nat.le_of_ble_eq_true rfl⟩) (va_recv hK hP (ci := 1) (q0 := 0) rfl rfl) hP hS rfl hl.1 rfl (by simp [Value.category]) dX1_mark_50 (fun r13 u hp H locs hP hS => ?_)
        obtain ⟨hp1, hp2⟩ := hp
        subst hp1
        have hp2 := hp2.symm
        subst hp2
        have hP : va_P D vwCl (XW cc ad σ) H := hP
        refine lv_iload_n hx hb dX1_mark_53 rfl (lv_at hl 4 rfl) ?_
        obtain ⟨gp14, h⟩ := h
        refine call_v (Wd := XW cc ad) (σ := σ) C0 hd (lens_k (vin_lt gk10)) (As := [.int (fn_X1_variantOn g σ (fn_X1_sheetAt σ x1) x2), .int x3]) (rest := []) (ct_X0_slipBehind l D cc (ka ad (x4_9.toNatClampNeg)) (da_ka hd (vin_lt gk10)) (cq g (x4_9.toNatClampNeg)) (xs_ki σ (x4_9.toNatClampNeg)) (fn_X1_variantOn g σ (fn_X1_sheetAt σ x1) x2) x3 gp14) (cwV 2 hts gX1_mark_X0_slipBehind rfl rfl rfl (by decide +kernel) ⟨Nat.le_of_ble_eq_true rfl, Nat.le_of_ble_eq_true rfl⟩) (va_recv hK ((lens_k (D := D) (cc := cc) (ad := ad) (σ := σ) (vin_lt gk10)).1 H hP) (ci := 0) (q0 := 0) rfl rfl) hP hS rfl hl.1 rfl (by simp [Value.category]) dX1_mark_54 (fun r15 u hp H locs hP hS => ?_)
        obtain ⟨hp1, hp2⟩ := hp
        subst hp1
        have hp2 := hp2.symm
        subst hp2
        rw [xs_self] at hP
        have hP : va_P D vwCl (XW cc ad σ) H := hP
        refine lv_topi (fun x5_16 ex5_16 => ?_)
        have h := h x5_16 ex5_16
        refine lv_istore (lv' := [(5, .int x5_16), (4, .int x4_9), (0, .ref (ad 0)), (1, .int x1), (2, .int x2), (3, .int x3)]) hx hb dX1_mark_57 hl (by decide) rfl (fun ls hl => ?_)
        refine lv_iload hx hb dX1_mark_59 (lv_at hl 0 rfl) ?_
        refine lv_if_ne (tgt := 77) hx hb dX1_mark_61 (by decide) (fun c17 => ?_) (fun c17 => ?_)
        · have h := h.1 c17
          refine lv_aload_n hx hb dX1_mark_77 rfl (lv_at hl 2 rfl) ?_
          refine lv_dup hx hb dX1_mark_78 rfl ?_
          refine va_get (D := D) (ci := 1) (v := .int (xs_wm σ)) (C := RX1) (T := TX1) (N := 12) hx hb hts hin hown hK hP 0 rfl rfl 11 (by decide) (hts (.fieldLink RX1 47 "ClassSheets" "wrongMarks" "I") (List.mem_of_getElem? (i := 4) rfl)) (fun _ h9 => h9) rfl dX1_mark_79 ?_
          refine lv_iconst (v := 1) hx hb dX1_mark_82 (by decide) ?_
          refine lv_iadd hx hb dX1_mark_83 ?_
          refine va_put (D := D) (ci := 1) (v := .int ((xs_wm σ) + 1)) (ty := .int) (C := RX1) (T := TX1) (N := 12) hx hb hts hin tyX1 tyX1_ok nmX1 hown hK hP (xD hd) hS 0 rfl rfl 11 (by decide) (hts (.fieldLink RX1 47 "ClassSheets" "wrongMarks" "I") (List.mem_of_getElem? (i := 4) rfl)) (fun _ h9 => h9) rfl (by decide +kernel) rfl rfl (Nat.le_of_ble_eq_true rfl) dX1_mark_84 (fun H locs hP _ hS => ?_)
          have hP : va_P D vwCl (XW cc ad (xs_s_wm σ ((xs_wm σ) + 1))) H := hP
          refine lv_aload_n hx hb dX1_mark_87 rfl (lv_at hl 2 rfl) ?_
          refine va_get (D := D) (ci := 1) (v := .ref (ad 4)) (C := RX1) (T := TX1) (N := 12) hx hb hts hin hown hK hP 0 rfl rfl 9 (by decide) (hts (.fieldLink RX1 41 "ClassSheets" "misses" "[I") (List.mem_of_getElem? (i := 5) rfl)) (fun _ h9 => h9) rfl dX1_mark_88 ?_
          refine lv_aload_n hx hb dX1_mark_91 rfl (lv_at hl 2 rfl) ?_
          refine lv_iload_n hx hb dX1_mark_92 rfl (lv_at hl 3 rfl) ?_
          refine call_v (Wd := XW cc ad) (σ := (xs_s_wm σ ((xs_wm σ) + 1))) C0 hd lens_id (As := [.int x1]) (rest := [.ref (ad 4)]) (ct_X1_missesFrom l D cc ad ⟨hd.1, fun _ _ => trivial⟩ g (xs_s_wm σ ((xs_wm σ) + 1)) x1) (cwV 1 hts gX1_mark_X1_missesFrom rfl rfl rfl (by decide +kernel) ⟨Nat.le_of_ble_eq_true rfl, Nat.le_of_ble_eq_true rfl⟩) (va_recv hK hP (ci := 1) (q0 := 0) rfl rfl) hP hS rfl hl.1 rfl (by simp [Value.category]) dX1_mark_93 (fun r18 u hp H locs hP hS => ?_)
          obtain ⟨hp1, hp2⟩ := hp
          subst hp1
          have hp2 := hp2.symm
          subst hp2
          have hP : va_P D vwCl (XW cc ad (xs_s_wm σ ((xs_wm σ) + 1))) H := hP
          refine lv_iload hx hb dX1_mark_96 (lv_at hl 1 rfl) ?_
          refine lv_iadd hx hb dX1_mark_98 ?_
          refine lv_dup2_11 hx hb dX1_mark_99 rfl rfl ?_
          obtain ⟨gi19, h⟩ := h
          refine va_iald (D := D) (f := xs_mi (xs_s_wm σ ((xs_wm σ) + 1))) hx hb hK hP 4 0 rfl rfl gi19 dX1_mark_100 ?_
          refine lv_iconst (v := 1) hx hb dX1_mark_101 (by decide) ?_
          refine lv_iadd hx hb dX1_mark_102 ?_
          obtain ⟨gi20, h⟩ := h
          refine va_iast (D := D) (f := xs_mi (xs_s_wm σ ((xs_wm σ) + 1))) (x := ((xs_mi (xs_s_wm σ ((xs_wm σ) + 1)) ((fn_X1_missesFrom (xs_s_wm σ ((xs_wm σ) + 1)) x1) + x4_9).toNatClampNeg) + 1)) hx hb hK hP (xD hd) hS 4 0 rfl rfl gi20 dX1_mark_103 (fun H locs hP _ hS => ?_)
          have hP : va_P D vwCl (XW cc ad (xs_s_mi (xs_s_wm σ ((xs_wm σ) + 1)) (upd (xs_mi (xs_s_wm σ ((xs_wm σ) + 1))) ((fn_X1_missesFrom (xs_s_wm σ ((xs_wm σ) + 1)) x1) + x4_9).toNatClampNeg ((xs_mi (xs_s_wm σ ((xs_wm σ) + 1)) ((fn_X1_missesFrom (xs_s_wm σ ((xs_wm σ) + 1)) x1) + x4_9).toNatClampNeg) + 1)))) H := hP
          refine lv_iload hx hb dX1_mark_104 (lv_at hl 0 rfl) ?_
          exact ret_i (Wd := XW cc ad) (u := (xs_s_mi (xs_s_wm σ ((xs_wm σ) + 1)) (upd (xs_mi (xs_s_wm σ ((xs_wm σ) + 1))) ((fn_X1_missesFrom (xs_s_wm σ ((xs_wm σ) + 1)) x1) + x4_9).toNatClampNeg ((xs_mi (xs_s_wm σ ((xs_wm σ) + 1)) ((fn_X1_missesFrom (xs_s_wm σ ((xs_wm σ) + 1)) x1) + x4_9).toNatClampNeg) + 1)))) C0 h hP hS dX1_mark_106
        · have h := h.2 c17
          refine lv_aload_n hx hb dX1_mark_64 rfl (lv_at hl 2 rfl) ?_
          refine lv_dup hx hb dX1_mark_65 rfl ?_
          refine va_get (D := D) (ci := 1) (v := .int (xs_rm σ)) (C := RX1) (T := TX1) (N := 12) hx hb hts hin hown hK hP 0 rfl rfl 10 (by decide) (hts (.fieldLink RX1 44 "ClassSheets" "rightMarks" "I") (List.mem_of_getElem? (i := 3) rfl)) (fun _ h9 => h9) rfl dX1_mark_66 ?_
          refine lv_iconst (v := 1) hx hb dX1_mark_69 (by decide) ?_
          refine lv_iadd hx hb dX1_mark_70 ?_
          refine va_put (D := D) (ci := 1) (v := .int ((xs_rm σ) + 1)) (ty := .int) (C := RX1) (T := TX1) (N := 12) hx hb hts hin tyX1 tyX1_ok nmX1 hown hK hP (xD hd) hS 0 rfl rfl 10 (by decide) (hts (.fieldLink RX1 44 "ClassSheets" "rightMarks" "I") (List.mem_of_getElem? (i := 3) rfl)) (fun _ h9 => h9) rfl (by decide +kernel) rfl rfl (Nat.le_of_ble_eq_true rfl) dX1_mark_71 (fun H locs hP _ hS => ?_)
          have hP : va_P D vwCl (XW cc ad (xs_s_rm σ ((xs_rm σ) + 1))) H := hP
          refine lv_goto (tgt := 104) hx hb dX1_mark_74 (by decide) ?_
          refine lv_iload hx hb dX1_mark_104 (lv_at hl 0 rfl) ?_
          exact ret_i (Wd := XW cc ad) (u := (xs_s_rm σ ((xs_rm σ) + 1))) C0 h hP hS dX1_mark_106
      · have h := h.2 c7
        refine lv_bipush (v := (-3)) hx hb dX1_mark_25 (by decide) ?_
        exact ret_i (Wd := XW cc ad) (u := σ) C0 h hP hS dX1_mark_27
    · have h := h.2 c4
      refine lv_iconst (v := (-1)) hx hb dX1_mark_16 (by decide) ?_
      exact ret_i (Wd := XW cc ad) (u := σ) C0 h hP hS dX1_mark_17
theorem ct_X1_mark (l : Launch) (D : va_G) (cc : Nat → ClassId) (ad : Nat → Nat) (hd : DA 45 ad (fun _ => True)) (g : CS) (σ : XS) (x1 : Int32) (x2 : Int32) (x3 : Int32) (hp : pr_X1_mark g σ x1 x2 x3) : Ctr l yX1_mark wsX1_mark { frames := 4, cells := 0, slots := 0, locals := 95 } D cc (XW cc ad) 45 ad σ [.ref (ad 0), .int x1, .int x2, .int x3] (po_X1_mark g σ x1 x2 x3) :=
  ctr_i (rt := (some .int)) (by decide +kernel) rfl hd (Nat.le_of_ble_eq_true rfl) (fun p e s m below meth c A C0 hd => wk_X1_mark_0 C0 hd σ x1 x2 x3 (pu_X1_mark g σ x1 x2 x3 hp))
theorem hin_X1_missesAt : ∀ w ∈ u_ws RX1 TX1 12, w ∈ wsX1_missesAt := fun w h => List.mem_cons_of_mem _ (List.mem_append_right _ h)
set_option maxHeartbeats 4000000 in
set_option maxRecDepth 100000 in
theorem wk_X1_missesAt_11 {p : Program} {l : Launch} {e : Env} {s : State} {m : MethodId} {args : Array Value} {below : List Frame} {meth : Method} {c : Code} {D : va_G} {cc : Nat → ClassId} {ad : Nat → Nat} {A : Nat → Prop} {Post : Int32 → XS → Prop} {g : CS} (C0 : Cx p s m args meth c cX1_missesAt 5 (some .int) RX1 wsX1_missesAt D cc A) (hd : DA 45 ad A) {K11 : (XS × Int32 × Int32 × Int32) → Prop} (hK11 : ∀ a, K11 a → At_ p l e { frames := 1, cells := 0, slots := 0, locals := 21 } s m args below meth c (Qi_ below D (XW cc ad) A args s Post) D A (XW cc ad (a.1)) 5 11 [(0, .ref (ad 0)), (2, .int (a.2.1)), (3, .int (a.2.2.1)), (4, .int (a.2.2.2))] []) (σ : XS) (x2 : Int32) (x3 : Int32) (x4 : Int32) (h : wp_X1_missesAt_11 g K11 Post σ x2 x3 x4) : At_ p l e { frames := 1, cells := 0, slots := 0, locals := 21 } s m args below meth c (Qi_ below D (XW cc ad) A args s Post) D A (XW cc ad σ) 5 11 [(0, .ref (ad 0)), (2, .int x2), (3, .int x3), (4, .int x4)] [] := by
  obtain ⟨hx, hb, hml, hr, hown, hts, hlocks, hK, hA, hX⟩ := id C0
  have hin := hin_X1_missesAt
  intro H locs ls hP hS hl
  unfold wp_X1_missesAt_11 at h
  refine lv_iload hx hb dX1_missesAt_11 (lv_at hl 3 rfl) ?_
  refine lv_bipush (v := 8) hx hb dX1_missesAt_13 (by decide) ?_
  refine lv_icmp_ge (tgt := 36) hx hb dX1_missesAt_15 (by decide) (fun c1 => ?_) (fun c1 => ?_)
  · have h := h.1 c1
    refine lv_iload_n hx hb dX1_missesAt_36 rfl (lv_at hl 2 rfl) ?_
    exact ret_i (Wd := XW cc ad) (u := σ) C0 h hP hS dX1_missesAt_37
  · have h := h.2 c1
    refine lv_iload_n hx hb dX1_missesAt_18 rfl (lv_at hl 2 rfl) ?_
    refine lv_aload_n hx hb dX1_missesAt_19 rfl (lv_at hl 0 rfl) ?_
    refine va_get (D := D) (ci := 1) (v := .ref (ad 4)) (C := RX1) (T := TX1) (N := 12) hx hb hts hin hown hK hP 0 rfl rfl 9 (by decide) (hts (.fieldLink RX1 41 "ClassSheets" "misses" "[I") (List.mem_of_getElem? (i := 1) rfl)) (fun _ h9 => h9) rfl dX1_missesAt_20 ?_
    refine lv_iload_n hx hb dX1_missesAt_23 rfl (lv_at hl 1 rfl) ?_
    refine lv_iload hx hb dX1_missesAt_24 (lv_at hl 3 rfl) ?_
    refine lv_iadd hx hb dX1_missesAt_26 ?_
    obtain ⟨gi2, h⟩ := h
    refine va_iald (D := D) (f := xs_mi σ) hx hb hK hP 4 0 rfl rfl gi2 dX1_missesAt_27 ?_
    refine lv_iadd hx hb dX1_missesAt_28 ?_
    refine lv_topi (fun x3_3 ex3_3 => ?_)
    have h := h x3_3 ex3_3
    refine lv_istore_n (lv' := [(3, .int x3_3), (0, .ref (ad 0)), (2, .int x2), (4, .int x4)]) hx hb dX1_missesAt_29 rfl hl (by decide) rfl (fun ls hl => ?_)
    obtain ⟨x4_4, ex4_4⟩ : ∃ y : Int32, y = x4 + 1 := ⟨_, rfl⟩
    have h := h x4_4 ex4_4
    refine lv_iinc (v := x4_4) (lv' := [(4, .int x4_4), (3, .int x3_3), (0, .ref (ad 0)), (2, .int x2)]) hx hb dX1_missesAt_30 hl (k := 3) rfl (by rw [ex4_4]; rfl) (by decide) rfl (fun ls hl => ?_)
    refine lv_goto (tgt := 11) hx hb dX1_missesAt_33 (by decide) ?_
    exact hK11 (σ, x2, x3_3, x4_4) h H locs ls hP hS (lv_sub hl [2, 3, 1, 0] rfl)
set_option maxHeartbeats 4000000 in
set_option maxRecDepth 100000 in
theorem wk_X1_missesAt_0 {p : Program} {l : Launch} {e : Env} {s : State} {m : MethodId} {args : Array Value} {below : List Frame} {meth : Method} {c : Code} {D : va_G} {cc : Nat → ClassId} {ad : Nat → Nat} {A : Nat → Prop} {Post : Int32 → XS → Prop} {g : CS} (C0 : Cx p s m args meth c cX1_missesAt 5 (some .int) RX1 wsX1_missesAt D cc A) (hd : DA 45 ad A) (σ : XS) (x1 : Int32) (h : wp_X1_missesAt g Post σ x1) : At_ p l e { frames := 1, cells := 0, slots := 0, locals := 21 } s m args below meth c (Qi_ below D (XW cc ad) A args s Post) D A (XW cc ad σ) 5 0 [(0, .ref (ad 0)), (1, .int x1)] [] := by
  obtain ⟨hx, hb, hml, hr, hown, hts, hlocks, hK, hA, hX⟩ := id C0
  have hin := hin_X1_missesAt
  intro H locs ls hP hS hl
  unfold wp_X1_missesAt at h
  refine lv_aload_n hx hb dX1_missesAt_0 rfl (lv_at hl 0 rfl) ?_
  refine lv_iload_n hx hb dX1_missesAt_1 rfl (lv_at hl 1 rfl) ?_
  refine call_v (Wd := XW cc ad) (σ := σ) C0 hd lens_id (As := [.int x1]) (rest := []) (ct_X1_missesFrom l D cc ad ⟨hd.1, fun _ _ => trivial⟩ g σ x1) (cwV 1 hts gX1_missesAt_X1_missesFrom rfl rfl rfl (by decide +kernel) ⟨Nat.le_of_ble_eq_true rfl, Nat.le_of_ble_eq_true rfl⟩) (va_recv hK hP (ci := 1) (q0 := 0) rfl rfl) hP hS rfl hl.1 rfl (by simp [Value.category]) dX1_missesAt_2 (fun r1 u hp H locs hP hS => ?_)
  obtain ⟨hp1, hp2⟩ := hp
  subst hp1
  have hp2 := hp2.symm
  subst hp2
  have hP : va_P D vwCl (XW cc ad σ) H := hP
  refine lv_topi (fun x2_2 ex2_2 => ?_)
  have h := h x2_2 ex2_2
  refine lv_istore_n (lv' := [(2, .int x2_2), (0, .ref (ad 0)), (1, .int x1)]) hx hb dX1_missesAt_5 rfl hl (by decide) rfl (fun ls hl => ?_)
  refine lv_iconst (v := 0) hx hb dX1_missesAt_6 (by decide) ?_
  refine lv_istore_n (lv' := [(3, .int 0), (2, .int x2_2), (0, .ref (ad 0)), (1, .int x1)]) hx hb dX1_missesAt_7 rfl hl (by decide) rfl (fun ls hl => ?_)
  refine lv_iconst (v := 0) hx hb dX1_missesAt_8 (by decide) ?_
  refine lv_istore (lv' := [(4, .int 0), (3, .int 0), (2, .int x2_2), (0, .ref (ad 0)), (1, .int x1)]) hx hb dX1_missesAt_9 hl (by decide) rfl (fun ls hl => ?_)
  exact lp_at (Wt := fun a => At_ p l e { frames := 1, cells := 0, slots := 0, locals := 21 } s m args below meth c (Qi_ below D (XW cc ad) A args s Post) D A (XW cc ad (a.1)) 5 11 [(0, .ref (ad 0)), (2, .int (a.2.1)), (3, .int (a.2.2.1)), (4, .int (a.2.2.2))] []) (fun K hK a h => wk_X1_missesAt_11 C0 hd hK a.1 a.2.1 a.2.2.1 a.2.2.2 h) h H locs ls hP hS (lv_sub hl [3, 2, 1, 0] rfl)
theorem ct_X1_missesAt (l : Launch) (D : va_G) (cc : Nat → ClassId) (ad : Nat → Nat) (hd : DA 45 ad (fun _ => True)) (g : CS) (σ : XS) (x1 : Int32) (hp : pr_X1_missesAt g σ x1) : Ctr l yX1_missesAt wsX1_missesAt { frames := 1, cells := 0, slots := 0, locals := 21 } D cc (XW cc ad) 45 ad σ [.ref (ad 0), .int x1] (fun r u => r = fn_X1_missesAt g σ x1 ∧ u = σ) :=
  ctr_i (rt := (some .int)) (by decide +kernel) rfl hd (Nat.le_of_ble_eq_true rfl) (fun p e s m below meth c A C0 hd => wk_X1_missesAt_0 C0 hd σ x1 (pu_X1_missesAt g σ x1 hp))
theorem hin_X1_missed : ∀ w ∈ u_ws RX1 TX1 12, w ∈ wsX1_missed := fun w h => List.mem_cons_of_mem _ (List.mem_append_right _ h)
set_option maxHeartbeats 4000000 in
set_option maxRecDepth 100000 in
theorem wk_X1_missed_24 {p : Program} {l : Launch} {e : Env} {s : State} {m : MethodId} {args : Array Value} {below : List Frame} {meth : Method} {c : Code} {D : va_G} {cc : Nat → ClassId} {ad : Nat → Nat} {A : Nat → Prop} {Post : Int32 → XS → Prop} {g : CS} (C0 : Cx p s m args meth c cX1_missed 3 (some .int) RX1 wsX1_missed D cc A) (hd : DA 45 ad A) (σ : XS) (x1 : Int32) (x2 : Int32) (h : wp_X1_missed_24 g Post σ x1 x2) : At_ p l e { frames := 2, cells := 0, slots := 0, locals := 45 } s m args below meth c (Qi_ below D (XW cc ad) A args s Post) D A (XW cc ad σ) 3 24 [(0, .ref (ad 0)), (1, .int x1), (2, .int x2)] [] := by
  obtain ⟨hx, hb, hml, hr, hown, hts, hlocks, hK, hA, hX⟩ := id C0
  have hin := hin_X1_missed
  intro H locs ls hP hS hl
  unfold wp_X1_missed_24 at h
  refine lv_iload_n hx hb dX1_missed_24 rfl (lv_at hl 2 rfl) ?_
  refine lv_bipush (v := (-9)) hx hb dX1_missed_25 (by decide) ?_
  refine lv_icmp_ne (tgt := 38) hx hb dX1_missed_27 (by decide) (fun c1 => ?_) (fun c1 => ?_)
  · have h := h.1 c1
    refine lv_aload_n hx hb dX1_missed_38 rfl (lv_at hl 0 rfl) ?_
    refine va_get (D := D) (ci := 1) (v := .ref (ad 4)) (C := RX1) (T := TX1) (N := 12) hx hb hts hin hown hK hP 0 rfl rfl 9 (by decide) (hts (.fieldLink RX1 41 "ClassSheets" "misses" "[I") (List.mem_of_getElem? (i := 1) rfl)) (fun _ h9 => h9) rfl dX1_missed_39 ?_
    refine lv_aload_n hx hb dX1_missed_42 rfl (lv_at hl 0 rfl) ?_
    refine lv_iload_n hx hb dX1_missed_43 rfl (lv_at hl 1 rfl) ?_
    refine call_v (Wd := XW cc ad) (σ := σ) C0 hd lens_id (As := [.int x1]) (rest := [.ref (ad 4)]) (ct_X1_missesFrom l D cc ad ⟨hd.1, fun _ _ => trivial⟩ g σ x1) (cwV 1 hts gX1_missed_X1_missesFrom rfl rfl rfl (by decide +kernel) ⟨Nat.le_of_ble_eq_true rfl, Nat.le_of_ble_eq_true rfl⟩) (va_recv hK hP (ci := 1) (q0 := 0) rfl rfl) hP hS rfl hl.1 rfl (by simp [Value.category]) dX1_missed_44 (fun r2 u hp H locs hP hS => ?_)
    obtain ⟨hp1, hp2⟩ := hp
    subst hp1
    have hp2 := hp2.symm
    subst hp2
    have hP : va_P D vwCl (XW cc ad σ) H := hP
    refine lv_iload_n hx hb dX1_missed_47 rfl (lv_at hl 2 rfl) ?_
    refine lv_iadd hx hb dX1_missed_48 ?_
    obtain ⟨gi3, h⟩ := h
    refine va_iald (D := D) (f := xs_mi σ) hx hb hK hP 4 0 rfl rfl gi3 dX1_missed_49 ?_
    exact ret_i (Wd := XW cc ad) (u := σ) C0 h hP hS dX1_missed_50
  · have h := h.2 c1
    refine lv_aload_n hx hb dX1_missed_30 rfl (lv_at hl 0 rfl) ?_
    refine lv_iload_n hx hb dX1_missed_31 rfl (lv_at hl 1 rfl) ?_
    obtain ⟨gp4, h⟩ := h
    refine call_v (Wd := XW cc ad) (σ := σ) C0 hd lens_id (As := [.int x1]) (rest := []) (ct_X1_missesAt l D cc ad ⟨hd.1, fun _ _ => trivial⟩ g σ x1 gp4) (cwV 1 hts gX1_missed_X1_missesAt rfl rfl rfl (by decide +kernel) ⟨Nat.le_of_ble_eq_true rfl, Nat.le_of_ble_eq_true rfl⟩) (va_recv hK hP (ci := 1) (q0 := 0) rfl rfl) hP hS rfl hl.1 rfl (by simp [Value.category]) dX1_missed_32 (fun r5 u hp H locs hP hS => ?_)
    obtain ⟨hp1, hp2⟩ := hp
    subst hp1
    have hp2 := hp2.symm
    subst hp2
    have hP : va_P D vwCl (XW cc ad σ) H := hP
    refine lv_goto (tgt := 50) hx hb dX1_missed_35 (by decide) ?_
    exact ret_i (Wd := XW cc ad) (u := σ) C0 h hP hS dX1_missed_50
set_option maxHeartbeats 4000000 in
set_option maxRecDepth 100000 in
theorem wk_X1_missed_0 {p : Program} {l : Launch} {e : Env} {s : State} {m : MethodId} {args : Array Value} {below : List Frame} {meth : Method} {c : Code} {D : va_G} {cc : Nat → ClassId} {ad : Nat → Nat} {A : Nat → Prop} {Post : Int32 → XS → Prop} {g : CS} (C0 : Cx p s m args meth c cX1_missed 3 (some .int) RX1 wsX1_missed D cc A) (hd : DA 45 ad A) (σ : XS) (x1 : Int32) (x2 : Int32) (h : wp_X1_missed g Post σ x1 x2) : At_ p l e { frames := 2, cells := 0, slots := 0, locals := 45 } s m args below meth c (Qi_ below D (XW cc ad) A args s Post) D A (XW cc ad σ) 3 0 [(0, .ref (ad 0)), (1, .int x1), (2, .int x2)] [] := by
  obtain ⟨hx, hb, hml, hr, hown, hts, hlocks, hK, hA, hX⟩ := id C0
  have hin := hin_X1_missed
  intro H locs ls hP hS hl
  unfold wp_X1_missed at h
  refine lv_aload_n hx hb dX1_missed_0 rfl (lv_at hl 0 rfl) ?_
  refine lv_iload_n hx hb dX1_missed_1 rfl (lv_at hl 1 rfl) ?_
  refine call_v (Wd := XW cc ad) (σ := σ) C0 hd lens_id (As := [.int x1]) (rest := []) (ct_X1_isSeat l D cc ad ⟨hd.1, fun _ _ => trivial⟩ g σ x1) (cwV 1 hts gX1_missed_X1_isSeat rfl rfl rfl (by decide +kernel) ⟨Nat.le_of_ble_eq_true rfl, Nat.le_of_ble_eq_true rfl⟩) (va_recv hK hP (ci := 1) (q0 := 0) rfl rfl) hP hS rfl hl.1 rfl (by simp [Value.category]) dX1_missed_2 (fun r1 u hp H locs hP hS => ?_)
  obtain ⟨hp1, hp2⟩ := hp
  subst hp1
  have hp2 := hp2.symm
  subst hp2
  have hP : va_P D vwCl (XW cc ad σ) H := hP
  refine lv_if_eq (tgt := 22) hx hb dX1_missed_5 (by decide) (fun c2 => ?_) (fun c2 => ?_)
  · have h := h.1 c2
    refine lv_iconst (v := (-1)) hx hb dX1_missed_22 (by decide) ?_
    exact ret_i (Wd := XW cc ad) (u := σ) C0 h hP hS dX1_missed_23
  · have h := h.2 c2
    refine lv_iload_n hx hb dX1_missed_8 rfl (lv_at hl 2 rfl) ?_
    refine lv_bipush (v := (-9)) hx hb dX1_missed_9 (by decide) ?_
    refine lv_icmp_eq (tgt := 24) hx hb dX1_missed_11 (by decide) (fun c3 => ?_) (fun c3 => ?_)
    · have h := h.1 c3
      exact wk_X1_missed_24 C0 hd σ x1 x2 h H locs ls hP hS (lv_sub hl [0, 1, 2] rfl)
    · have h := h.2 c3
      refine lv_aload_n hx hb dX1_missed_14 rfl (lv_at hl 0 rfl) ?_
      refine lv_iload_n hx hb dX1_missed_15 rfl (lv_at hl 2 rfl) ?_
      refine call_v (Wd := XW cc ad) (σ := σ) C0 hd lens_id (As := [.int x2]) (rest := []) (ct_X1_isKind l D cc ad ⟨hd.1, fun _ _ => trivial⟩ g σ x2) (cwV 1 hts gX1_missed_X1_isKind rfl rfl rfl (by decide +kernel) ⟨Nat.le_of_ble_eq_true rfl, Nat.le_of_ble_eq_true rfl⟩) (va_recv hK hP (ci := 1) (q0 := 0) rfl rfl) hP hS rfl hl.1 rfl (by simp [Value.category]) dX1_missed_16 (fun r4 u hp H locs hP hS => ?_)
      obtain ⟨hp1, hp2⟩ := hp
      subst hp1
      have hp2 := hp2.symm
      subst hp2
      have hP : va_P D vwCl (XW cc ad σ) H := hP
      refine lv_if_ne (tgt := 24) hx hb dX1_missed_19 (by decide) (fun c5 => ?_) (fun c5 => ?_)
      · have h := h.1 c5
        exact wk_X1_missed_24 C0 hd σ x1 x2 h H locs ls hP hS (lv_sub hl [0, 1, 2] rfl)
      · have h := h.2 c5
        refine lv_iconst (v := (-1)) hx hb dX1_missed_22 (by decide) ?_
        exact ret_i (Wd := XW cc ad) (u := σ) C0 h hP hS dX1_missed_23
theorem ct_X1_missed (l : Launch) (D : va_G) (cc : Nat → ClassId) (ad : Nat → Nat) (hd : DA 45 ad (fun _ => True)) (g : CS) (σ : XS) (x1 : Int32) (x2 : Int32) (hp : pr_X1_missed g σ x1 x2) : Ctr l yX1_missed wsX1_missed { frames := 2, cells := 0, slots := 0, locals := 45 } D cc (XW cc ad) 45 ad σ [.ref (ad 0), .int x1, .int x2] (fun r u => r = fn_X1_missed g σ x1 x2 ∧ u = σ) :=
  ctr_i (rt := (some .int)) (by decide +kernel) rfl hd (Nat.le_of_ble_eq_true rfl) (fun p e s m below meth c A C0 hd => wk_X1_missed_0 C0 hd σ x1 x2 (pu_X1_missed g σ x1 x2 hp))
theorem hin_X1_reviewPlaces : ∀ w ∈ u_ws RX1 TX1 12, w ∈ wsX1_reviewPlaces := fun w h => List.mem_cons_of_mem _ (List.mem_append_right _ h)
set_option maxHeartbeats 4000000 in
set_option maxRecDepth 100000 in
theorem wk_X1_reviewPlaces_47 {p : Program} {l : Launch} {e : Env} {s : State} {m : MethodId} {args : Array Value} {below : List Frame} {meth : Method} {c : Code} {D : va_G} {cc : Nat → ClassId} {ad : Nat → Nat} {A : Nat → Prop} {Post : Int32 → XS → Prop} {g : CS} (C0 : Cx p s m args meth c cX1_reviewPlaces 11 (some .int) RX1 wsX1_reviewPlaces D cc A) (hd : DA 45 ad A) {K47 : (XS × Int32 × Int32 × Int32 × Int32 × Int32 × Int32 × Int32 × Int32) → Prop} (hK47 : ∀ a, K47 a → At_ p l e { frames := 2, cells := 0, slots := 0, locals := 45 } s m args below meth c (Qi_ below D (XW cc ad) A args s Post) D A (XW cc ad (a.1)) 11 47 [(0, .ref (ad 0)), (2, .int (a.2.1)), (3, .int (a.2.2.1)), (4, .int (a.2.2.2.1)), (5, .int (a.2.2.2.2.1)), (6, .int (a.2.2.2.2.2.1)), (7, .int (a.2.2.2.2.2.2.1)), (8, .int (a.2.2.2.2.2.2.2.1)), (9, .int (a.2.2.2.2.2.2.2.2))] []) (σ : XS) (x2 : Int32) (x3 : Int32) (x4 : Int32) (x5 : Int32) (x6 : Int32) (x7 : Int32) (x8 : Int32) (x9 : Int32) (h : wp_X1_reviewPlaces_47 g K47 Post σ x2 x3 x4 x5 x6 x7 x8 x9) : At_ p l e { frames := 2, cells := 0, slots := 0, locals := 45 } s m args below meth c (Qi_ below D (XW cc ad) A args s Post) D A (XW cc ad σ) 11 47 [(0, .ref (ad 0)), (2, .int x2), (3, .int x3), (4, .int x4), (5, .int x5), (6, .int x6), (7, .int x7), (8, .int x8), (9, .int x9)] [] := by
  obtain ⟨hx, hb, hml, hr, hown, hts, hlocks, hK, hA, hX⟩ := id C0
  have hin := hin_X1_reviewPlaces
  intro H locs ls hP hS hl
  unfold wp_X1_reviewPlaces_47 at h
  refine lv_iload hx hb dX1_reviewPlaces_47 (lv_at hl 8 rfl) ?_
  refine lv_bipush (v := 8) hx hb dX1_reviewPlaces_49 (by decide) ?_
  refine lv_icmp_ge (tgt := 113) hx hb dX1_reviewPlaces_51 (by decide) (fun c1 => ?_) (fun c1 => ?_)
  · have h := h.1 c1
    refine lv_iload_n hx hb dX1_reviewPlaces_113 rfl (lv_at hl 1 rfl) ?_
    refine lv_aload_n hx hb dX1_reviewPlaces_114 rfl (lv_at hl 0 rfl) ?_
    refine va_get (D := D) (ci := 1) (v := .ref (ad 4)) (C := RX1) (T := TX1) (N := 12) hx hb hts hin hown hK hP 0 rfl rfl 9 (by decide) (hts (.fieldLink RX1 41 "ClassSheets" "misses" "[I") (List.mem_of_getElem? (i := 1) rfl)) (fun _ h9 => h9) rfl dX1_reviewPlaces_115 ?_
    refine lv_iload hx hb dX1_reviewPlaces_118 (lv_at hl 3 rfl) ?_
    refine lv_iload_n hx hb dX1_reviewPlaces_120 rfl (lv_at hl 2 rfl) ?_
    refine lv_iadd hx hb dX1_reviewPlaces_121 ?_
    obtain ⟨gi2, h⟩ := h
    refine va_iald (D := D) (f := xs_mi σ) hx hb hK hP 4 0 rfl rfl gi2 dX1_reviewPlaces_122 ?_
    refine lv_imul hx hb dX1_reviewPlaces_123 ?_
    refine lv_iload hx hb dX1_reviewPlaces_124 (lv_at hl 4 rfl) ?_
    obtain ⟨gd3, h⟩ := h
    refine lv_idiv hx hb dX1_reviewPlaces_126 gd3 ?_
    refine lv_topi (fun x9_4 ex9_4 => ?_)
    have h := h x9_4 ex9_4
    refine lv_istore (lv' := [(9, .int x9_4), (0, .ref (ad 0)), (2, .int x2), (3, .int x3), (4, .int x4), (5, .int x5), (6, .int x6), (7, .int x7), (8, .int x8)]) hx hb dX1_reviewPlaces_127 hl (by decide) rfl (fun ls hl => ?_)
    refine lv_iload hx hb dX1_reviewPlaces_129 (lv_at hl 8 rfl) ?_
    refine lv_iload hx hb dX1_reviewPlaces_131 (lv_at hl 7 rfl) ?_
    refine lv_icmp_ge (tgt := 143) hx hb dX1_reviewPlaces_133 (by decide) (fun c5 => ?_) (fun c5 => ?_)
    · have h := h.1 c5
      refine lv_iload hx hb dX1_reviewPlaces_143 (lv_at hl 0 rfl) ?_
      exact ret_i (Wd := XW cc ad) (u := σ) C0 h hP hS dX1_reviewPlaces_145
    · have h := h.2 c5
      refine lv_iload hx hb dX1_reviewPlaces_136 (lv_at hl 0 rfl) ?_
      refine lv_iconst (v := 1) hx hb dX1_reviewPlaces_138 (by decide) ?_
      refine lv_iadd hx hb dX1_reviewPlaces_139 ?_
      refine lv_goto (tgt := 145) hx hb dX1_reviewPlaces_140 (by decide) ?_
      exact ret_i (Wd := XW cc ad) (u := σ) C0 h hP hS dX1_reviewPlaces_145
  · have h := h.2 c1
    refine lv_iload_n hx hb dX1_reviewPlaces_54 rfl (lv_at hl 1 rfl) ?_
    refine lv_aload_n hx hb dX1_reviewPlaces_55 rfl (lv_at hl 0 rfl) ?_
    refine va_get (D := D) (ci := 1) (v := .ref (ad 4)) (C := RX1) (T := TX1) (N := 12) hx hb hts hin hown hK hP 0 rfl rfl 9 (by decide) (hts (.fieldLink RX1 41 "ClassSheets" "misses" "[I") (List.mem_of_getElem? (i := 1) rfl)) (fun _ h9 => h9) rfl dX1_reviewPlaces_56 ?_
    refine lv_iload hx hb dX1_reviewPlaces_59 (lv_at hl 3 rfl) ?_
    refine lv_iload hx hb dX1_reviewPlaces_61 (lv_at hl 8 rfl) ?_
    refine lv_iadd hx hb dX1_reviewPlaces_63 ?_
    obtain ⟨gi6, h⟩ := h
    refine va_iald (D := D) (f := xs_mi σ) hx hb hK hP 4 0 rfl rfl gi6 dX1_reviewPlaces_64 ?_
    refine lv_imul hx hb dX1_reviewPlaces_65 ?_
    refine lv_topi (fun x10_7 ex10_7 => ?_)
    have h := h x10_7 ex10_7
    refine lv_istore (lv' := [(10, .int x10_7), (0, .ref (ad 0)), (2, .int x2), (3, .int x3), (4, .int x4), (5, .int x5), (6, .int x6), (7, .int x7), (8, .int x8), (9, .int x9)]) hx hb dX1_reviewPlaces_66 hl (by decide) rfl (fun ls hl => ?_)
    refine lv_iload hx hb dX1_reviewPlaces_68 (lv_at hl 7 rfl) ?_
    refine lv_iload hx hb dX1_reviewPlaces_70 (lv_at hl 0 rfl) ?_
    refine lv_iload hx hb dX1_reviewPlaces_72 (lv_at hl 5 rfl) ?_
    obtain ⟨gd8, h⟩ := h
    refine lv_idiv hx hb dX1_reviewPlaces_74 gd8 ?_
    refine lv_isub hx hb dX1_reviewPlaces_75 ?_
    refine lv_topi (fun x7_9 ex7_9 => ?_)
    have h := h x7_9 ex7_9
    refine lv_istore (lv' := [(7, .int x7_9), (10, .int x10_7), (0, .ref (ad 0)), (2, .int x2), (3, .int x3), (4, .int x4), (5, .int x5), (6, .int x6), (8, .int x8), (9, .int x9)]) hx hb dX1_reviewPlaces_76 hl (by decide) rfl (fun ls hl => ?_)
    refine lv_iload hx hb dX1_reviewPlaces_78 (lv_at hl 1 rfl) ?_
    refine lv_iload hx hb dX1_reviewPlaces_80 (lv_at hl 6 rfl) ?_
    obtain ⟨gd10, h⟩ := h
    refine lv_irem hx hb dX1_reviewPlaces_82 gd10 ?_
    refine lv_iload hx hb dX1_reviewPlaces_83 (lv_at hl 7 rfl) ?_
    refine lv_icmp_gt (tgt := 104) hx hb dX1_reviewPlaces_85 (by decide) (fun c11 => ?_) (fun c11 => ?_)
    · have h := h.1 c11
      obtain ⟨x8_12, ex8_12⟩ : ∃ y : Int32, y = x8 + 1 := ⟨_, rfl⟩
      have h := h x8_12 ex8_12
      refine lv_iinc (v := x8_12) (lv' := [(8, .int x8_12), (7, .int x7_9), (10, .int x10_7), (0, .ref (ad 0)), (2, .int x2), (3, .int x3), (4, .int x4), (5, .int x5), (6, .int x6), (9, .int x9)]) hx hb dX1_reviewPlaces_104 hl (k := 8) rfl (by rw [ex8_12]; rfl) (by decide) rfl (fun ls hl => ?_)
      obtain ⟨x9_13, ex9_13⟩ : ∃ y : Int32, y = x9 + 1 := ⟨_, rfl⟩
      have h := h x9_13 ex9_13
      refine lv_iinc (v := x9_13) (lv' := [(9, .int x9_13), (8, .int x8_12), (7, .int x7_9), (10, .int x10_7), (0, .ref (ad 0)), (2, .int x2), (3, .int x3), (4, .int x4), (5, .int x5), (6, .int x6)]) hx hb dX1_reviewPlaces_107 hl (k := 9) rfl (by rw [ex9_13]; rfl) (by decide) rfl (fun ls hl => ?_)
      refine lv_goto (tgt := 47) hx hb dX1_reviewPlaces_110 (by decide) ?_
      exact hK47 (σ, x2, x3, x4, x5, x6, x7_9, x8_12, x9_13) h H locs ls hP hS (lv_sub hl [4, 5, 6, 7, 8, 9, 2, 1, 0] rfl)
    · have h := h.2 c11
      refine lv_iload hx hb dX1_reviewPlaces_88 (lv_at hl 1 rfl) ?_
      refine lv_iload hx hb dX1_reviewPlaces_90 (lv_at hl 6 rfl) ?_
      obtain ⟨gd14, h⟩ := h
      refine lv_irem hx hb dX1_reviewPlaces_92 gd14 ?_
      refine lv_iload hx hb dX1_reviewPlaces_93 (lv_at hl 7 rfl) ?_
      refine lv_icmp_ne (tgt := 107) hx hb dX1_reviewPlaces_95 (by decide) (fun c15 => ?_) (fun c15 => ?_)
      · have h := h.1 c15
        obtain ⟨x9_16, ex9_16⟩ : ∃ y : Int32, y = x9 + 1 := ⟨_, rfl⟩
        have h := h x9_16 ex9_16
        refine lv_iinc (v := x9_16) (lv' := [(9, .int x9_16), (7, .int x7_9), (10, .int x10_7), (0, .ref (ad 0)), (2, .int x2), (3, .int x3), (4, .int x4), (5, .int x5), (6, .int x6), (8, .int x8)]) hx hb dX1_reviewPlaces_107 hl (k := 9) rfl (by rw [ex9_16]; rfl) (by decide) rfl (fun ls hl => ?_)
        refine lv_goto (tgt := 47) hx hb dX1_reviewPlaces_110 (by decide) ?_
        exact hK47 (σ, x2, x3, x4, x5, x6, x7_9, x8, x9_16) h H locs ls hP hS (lv_sub hl [3, 4, 5, 6, 7, 8, 1, 9, 0] rfl)
      · have h := h.2 c15
        refine lv_iload hx hb dX1_reviewPlaces_98 (lv_at hl 9 rfl) ?_
        refine lv_iload_n hx hb dX1_reviewPlaces_100 rfl (lv_at hl 4 rfl) ?_
        refine lv_icmp_ge (tgt := 107) hx hb dX1_reviewPlaces_101 (by decide) (fun c17 => ?_) (fun c17 => ?_)
        · have h := h.1 c17
          obtain ⟨x9_18, ex9_18⟩ : ∃ y : Int32, y = x9 + 1 := ⟨_, rfl⟩
          have h := h x9_18 ex9_18
          refine lv_iinc (v := x9_18) (lv' := [(9, .int x9_18), (7, .int x7_9), (10, .int x10_7), (0, .ref (ad 0)), (2, .int x2), (3, .int x3), (4, .int x4), (5, .int x5), (6, .int x6), (8, .int x8)]) hx hb dX1_reviewPlaces_107 hl (k := 9) rfl (by rw [ex9_18]; rfl) (by decide) rfl (fun ls hl => ?_)
          refine lv_goto (tgt := 47) hx hb dX1_reviewPlaces_110 (by decide) ?_
          exact hK47 (σ, x2, x3, x4, x5, x6, x7_9, x8, x9_18) h H locs ls hP hS (lv_sub hl [3, 4, 5, 6, 7, 8, 1, 9, 0] rfl)
        · have h := h.2 c17
          obtain ⟨x8_19, ex8_19⟩ : ∃ y : Int32, y = x8 + 1 := ⟨_, rfl⟩
          have h := h x8_19 ex8_19
          refine lv_iinc (v := x8_19) (lv' := [(8, .int x8_19), (7, .int x7_9), (10, .int x10_7), (0, .ref (ad 0)), (2, .int x2), (3, .int x3), (4, .int x4), (5, .int x5), (6, .int x6), (9, .int x9)]) hx hb dX1_reviewPlaces_104 hl (k := 8) rfl (by rw [ex8_19]; rfl) (by decide) rfl (fun ls hl => ?_)
          obtain ⟨x9_20, ex9_20⟩ : ∃ y : Int32, y = x9 + 1 := ⟨_, rfl⟩
          have h := h x9_20 ex9_20
          refine lv_iinc (v := x9_20) (lv' := [(9, .int x9_20), (8, .int x8_19), (7, .int x7_9), (10, .int x10_7), (0, .ref (ad 0)), (2, .int x2), (3, .int x3), (4, .int x4), (5, .int x5), (6, .int x6)]) hx hb dX1_reviewPlaces_107 hl (k := 9) rfl (by rw [ex9_20]; rfl) (by decide) rfl (fun ls hl => ?_)
          refine lv_goto (tgt := 47) hx hb dX1_reviewPlaces_110 (by decide) ?_
          exact hK47 (σ, x2, x3, x4, x5, x6, x7_9, x8_19, x9_20) h H locs ls hP hS (lv_sub hl [4, 5, 6, 7, 8, 9, 2, 1, 0] rfl)
set_option maxHeartbeats 4000000 in
set_option maxRecDepth 100000 in
theorem wk_X1_reviewPlaces_0 {p : Program} {l : Launch} {e : Env} {s : State} {m : MethodId} {args : Array Value} {below : List Frame} {meth : Method} {c : Code} {D : va_G} {cc : Nat → ClassId} {ad : Nat → Nat} {A : Nat → Prop} {Post : Int32 → XS → Prop} {g : CS} (C0 : Cx p s m args meth c cX1_reviewPlaces 11 (some .int) RX1 wsX1_reviewPlaces D cc A) (hd : DA 45 ad A) (σ : XS) (x1 : Int32) (x2 : Int32) (x3 : Int32) (h : wp_X1_reviewPlaces g Post σ x1 x2 x3) : At_ p l e { frames := 2, cells := 0, slots := 0, locals := 45 } s m args below meth c (Qi_ below D (XW cc ad) A args s Post) D A (XW cc ad σ) 11 0 [(0, .ref (ad 0)), (1, .int x1), (2, .int x2), (3, .int x3)] [] := by
  obtain ⟨hx, hb, hml, hr, hown, hts, hlocks, hK, hA, hX⟩ := id C0
  have hin := hin_X1_reviewPlaces
  intro H locs ls hP hS hl
  unfold wp_X1_reviewPlaces at h
  refine lv_aload_n hx hb dX1_reviewPlaces_0 rfl (lv_at hl 0 rfl) ?_
  refine lv_iload_n hx hb dX1_reviewPlaces_1 rfl (lv_at hl 1 rfl) ?_
  refine call_v (Wd := XW cc ad) (σ := σ) C0 hd lens_id (As := [.int x1]) (rest := []) (ct_X1_missesFrom l D cc ad ⟨hd.1, fun _ _ => trivial⟩ g σ x1) (cwV 1 hts gX1_reviewPlaces_X1_missesFrom rfl rfl rfl (by decide +kernel) ⟨Nat.le_of_ble_eq_true rfl, Nat.le_of_ble_eq_true rfl⟩) (va_recv hK hP (ci := 1) (q0 := 0) rfl rfl) hP hS rfl hl.1 rfl (by simp [Value.category]) dX1_reviewPlaces_2 (fun r1 u hp H locs hP hS => ?_)
  obtain ⟨hp1, hp2⟩ := hp
  subst hp1
  have hp2 := hp2.symm
  subst hp2
  have hP : va_P D vwCl (XW cc ad σ) H := hP
  refine lv_topi (fun x4_2 ex4_2 => ?_)
  have h := h x4_2 ex4_2
  refine lv_istore (lv' := [(4, .int x4_2), (0, .ref (ad 0)), (1, .int x1), (2, .int x2), (3, .int x3)]) hx hb dX1_reviewPlaces_5 hl (by decide) rfl (fun ls hl => ?_)
  refine lv_aload_n hx hb dX1_reviewPlaces_7 rfl (lv_at hl 1 rfl) ?_
  refine lv_iload_n hx hb dX1_reviewPlaces_8 rfl (lv_at hl 2 rfl) ?_
  obtain ⟨gp3, h⟩ := h
  refine call_v (Wd := XW cc ad) (σ := σ) C0 hd lens_id (As := [.int x1]) (rest := []) (ct_X1_missesAt l D cc ad ⟨hd.1, fun _ _ => trivial⟩ g σ x1 gp3) (cwV 1 hts gX1_reviewPlaces_X1_missesAt rfl rfl rfl (by decide +kernel) ⟨Nat.le_of_ble_eq_true rfl, Nat.le_of_ble_eq_true rfl⟩) (va_recv hK hP (ci := 1) (q0 := 0) rfl rfl) hP hS rfl hl.1 rfl (by simp [Value.category]) dX1_reviewPlaces_9 (fun r4 u hp H locs hP hS => ?_)
  obtain ⟨hp1, hp2⟩ := hp
  subst hp1
  have hp2 := hp2.symm
  subst hp2
  have hP : va_P D vwCl (XW cc ad σ) H := hP
  refine lv_topi (fun x5_5 ex5_5 => ?_)
  have h := h x5_5 ex5_5
  refine lv_istore (lv' := [(5, .int x5_5), (4, .int x4_2), (0, .ref (ad 0)), (1, .int x1), (2, .int x2), (3, .int x3)]) hx hb dX1_reviewPlaces_12 hl (by decide) rfl (fun ls hl => ?_)
  refine lv_iload hx hb dX1_reviewPlaces_14 (lv_at hl 0 rfl) ?_
  refine lv_if_ne (tgt := 22) hx hb dX1_reviewPlaces_16 (by decide) (fun c6 => ?_) (fun c6 => ?_)
  · have h := h.1 c6
    refine lv_iload_n hx hb dX1_reviewPlaces_22 rfl (lv_at hl 4 rfl) ?_
    refine lv_aload_n hx hb dX1_reviewPlaces_23 rfl (lv_at hl 2 rfl) ?_
    refine va_get (D := D) (ci := 1) (v := .ref (ad 4)) (C := RX1) (T := TX1) (N := 12) hx hb hts hin hown hK hP 0 rfl rfl 9 (by decide) (hts (.fieldLink RX1 41 "ClassSheets" "misses" "[I") (List.mem_of_getElem? (i := 1) rfl)) (fun _ h9 => h9) rfl dX1_reviewPlaces_24 ?_
    refine lv_iload hx hb dX1_reviewPlaces_27 (lv_at hl 1 rfl) ?_
    refine lv_iload_n hx hb dX1_reviewPlaces_29 rfl (lv_at hl 5 rfl) ?_
    refine lv_iadd hx hb dX1_reviewPlaces_30 ?_
    obtain ⟨gi7, h⟩ := h
    refine va_iald (D := D) (f := xs_mi σ) hx hb hK hP 4 0 rfl rfl gi7 dX1_reviewPlaces_31 ?_
    refine lv_imul hx hb dX1_reviewPlaces_32 ?_
    refine lv_iload hx hb dX1_reviewPlaces_33 (lv_at hl 0 rfl) ?_
    obtain ⟨gd8, h⟩ := h
    refine lv_irem hx hb dX1_reviewPlaces_35 gd8 ?_
    refine lv_topi (fun x6_9 ex6_9 => ?_)
    have h := h x6_9 ex6_9
    refine lv_istore (lv' := [(6, .int x6_9), (5, .int x5_5), (4, .int x4_2), (0, .ref (ad 0)), (1, .int x1), (2, .int x2), (3, .int x3)]) hx hb dX1_reviewPlaces_36 hl (by decide) rfl (fun ls hl => ?_)
    refine lv_iload_n hx hb dX1_reviewPlaces_38 rfl (lv_at hl 5 rfl) ?_
    refine lv_istore (lv' := [(7, .int x2), (6, .int x6_9), (5, .int x5_5), (4, .int x4_2), (0, .ref (ad 0)), (1, .int x1), (2, .int x2), (3, .int x3)]) hx hb dX1_reviewPlaces_39 hl (by decide) rfl (fun ls hl => ?_)
    refine lv_iconst (v := 0) hx hb dX1_reviewPlaces_41 (by decide) ?_
    refine lv_istore (lv' := [(8, .int 0), (7, .int x2), (6, .int x6_9), (5, .int x5_5), (4, .int x4_2), (0, .ref (ad 0)), (1, .int x1), (2, .int x2), (3, .int x3)]) hx hb dX1_reviewPlaces_42 hl (by decide) rfl (fun ls hl => ?_)
    refine lv_iconst (v := 0) hx hb dX1_reviewPlaces_44 (by decide) ?_
    refine lv_istore (lv' := [(9, .int 0), (8, .int 0), (7, .int x2), (6, .int x6_9), (5, .int x5_5), (4, .int x4_2), (0, .ref (ad 0)), (1, .int x1), (2, .int x2), (3, .int x3)]) hx hb dX1_reviewPlaces_45 hl (by decide) rfl (fun ls hl => ?_)
    exact lp_at (Wt := fun a => At_ p l e { frames := 2, cells := 0, slots := 0, locals := 45 } s m args below meth c (Qi_ below D (XW cc ad) A args s Post) D A (XW cc ad (a.1)) 11 47 [(0, .ref (ad 0)), (2, .int (a.2.1)), (3, .int (a.2.2.1)), (4, .int (a.2.2.2.1)), (5, .int (a.2.2.2.2.1)), (6, .int (a.2.2.2.2.2.1)), (7, .int (a.2.2.2.2.2.2.1)), (8, .int (a.2.2.2.2.2.2.2.1)), (9, .int (a.2.2.2.2.2.2.2.2))] []) (fun K hK a h => wk_X1_reviewPlaces_47 C0 hd hK a.1 a.2.1 a.2.2.1 a.2.2.2.1 a.2.2.2.2.1 a.2.2.2.2.2.1 a.2.2.2.2.2.2.1 a.2.2.2.2.2.2.2.1 a.2.2.2.2.2.2.2.2 h) h H locs ls hP hS (lv_sub hl [6, 8, 9, 5, 4, 3, 2, 1, 0] rfl)
  · have h := h.2 c6
    refine lv_bipush (v := (-3)) hx hb dX1_reviewPlaces_19 (by decide) ?_
    exact ret_i (Wd := XW cc ad) (u := σ) C0 h hP hS dX1_reviewPlaces_21
theorem ct_X1_reviewPlaces (l : Launch) (D : va_G) (cc : Nat → ClassId) (ad : Nat → Nat) (hd : DA 45 ad (fun _ => True)) (g : CS) (σ : XS) (x1 : Int32) (x2 : Int32) (x3 : Int32) (hp : pr_X1_reviewPlaces g σ x1 x2 x3) : Ctr l yX1_reviewPlaces wsX1_reviewPlaces { frames := 2, cells := 0, slots := 0, locals := 45 } D cc (XW cc ad) 45 ad σ [.ref (ad 0), .int x1, .int x2, .int x3] (fun r u => r = fn_X1_reviewPlaces g σ x1 x2 x3 ∧ u = σ) :=
  ctr_i (rt := (some .int)) (by decide +kernel) rfl hd (Nat.le_of_ble_eq_true rfl) (fun p e s m below meth c A C0 hd => wk_X1_reviewPlaces_0 C0 hd σ x1 x2 x3 (pu_X1_reviewPlaces g σ x1 x2 x3 hp))
theorem hin_X1_review : ∀ w ∈ u_ws RX1 TX1 12, w ∈ wsX1_review := fun w h => List.mem_cons_of_mem _ (List.mem_append_right _ h)
set_option maxHeartbeats 4000000 in
set_option maxRecDepth 100000 in
theorem wk_X1_review_0 {p : Program} {l : Launch} {e : Env} {s : State} {m : MethodId} {args : Array Value} {below : List Frame} {meth : Method} {c : Code} {D : va_G} {cc : Nat → ClassId} {ad : Nat → Nat} {A : Nat → Prop} {Post : Int32 → XS → Prop} {g : CS} (C0 : Cx p s m args meth c cX1_review 4 (some .int) RX1 wsX1_review D cc A) (hd : DA 45 ad A) (σ : XS) (x1 : Int32) (x2 : Int32) (x3 : Int32) (h : wp_X1_review g Post σ x1 x2 x3) : At_ p l e { frames := 3, cells := 0, slots := 0, locals := 75 } s m args below meth c (Qi_ below D (XW cc ad) A args s Post) D A (XW cc ad σ) 4 0 [(0, .ref (ad 0)), (1, .int x1), (2, .int x2), (3, .int x3)] [] := by
  obtain ⟨hx, hb, hml, hr, hown, hts, hlocks, hK, hA, hX⟩ := id C0
  have hin := hin_X1_review
  intro H locs ls hP hS hl
  unfold wp_X1_review at h
  refine lv_aload_n hx hb dX1_review_0 rfl (lv_at hl 0 rfl) ?_
  refine lv_iload_n hx hb dX1_review_1 rfl (lv_at hl 1 rfl) ?_
  refine call_v (Wd := XW cc ad) (σ := σ) C0 hd lens_id (As := [.int x1]) (rest := []) (ct_X1_isSeat l D cc ad ⟨hd.1, fun _ _ => trivial⟩ g σ x1) (cwV 1 hts gX1_review_X1_isSeat rfl rfl rfl (by decide +kernel) ⟨Nat.le_of_ble_eq_true rfl, Nat.le_of_ble_eq_true rfl⟩) (va_recv hK hP (ci := 1) (q0 := 0) rfl rfl) hP hS rfl hl.1 rfl (by simp [Value.category]) dX1_review_2 (fun r1 u hp H locs hP hS => ?_)
  obtain ⟨hp1, hp2⟩ := hp
  subst hp1
  have hp2 := hp2.symm
  subst hp2
  have hP : va_P D vwCl (XW cc ad σ) H := hP
  refine lv_if_eq (tgt := 16) hx hb dX1_review_5 (by decide) (fun c2 => ?_) (fun c2 => ?_)
  · have h := h.1 c2
    refine lv_iconst (v := (-1)) hx hb dX1_review_16 (by decide) ?_
    exact ret_i (Wd := XW cc ad) (u := σ) C0 h hP hS dX1_review_17
  · have h := h.2 c2
    refine lv_aload_n hx hb dX1_review_8 rfl (lv_at hl 0 rfl) ?_
    refine lv_iload_n hx hb dX1_review_9 rfl (lv_at hl 3 rfl) ?_
    refine call_v (Wd := XW cc ad) (σ := σ) C0 hd lens_id (As := [.int x3]) (rest := []) (ct_X1_isKind l D cc ad ⟨hd.1, fun _ _ => trivial⟩ g σ x3) (cwV 1 hts gX1_review_X1_isKind rfl rfl rfl (by decide +kernel) ⟨Nat.le_of_ble_eq_true rfl, Nat.le_of_ble_eq_true rfl⟩) (va_recv hK hP (ci := 1) (q0 := 0) rfl rfl) hP hS rfl hl.1 rfl (by simp [Value.category]) dX1_review_10 (fun r3 u hp H locs hP hS => ?_)
    obtain ⟨hp1, hp2⟩ := hp
    subst hp1
    have hp2 := hp2.symm
    subst hp2
    have hP : va_P D vwCl (XW cc ad σ) H := hP
    refine lv_if_ne (tgt := 18) hx hb dX1_review_13 (by decide) (fun c4 => ?_) (fun c4 => ?_)
    · have h := h.1 c4
      refine lv_iload_n hx hb dX1_review_18 rfl (lv_at hl 2 rfl) ?_
      refine lv_iconst (v := 1) hx hb dX1_review_19 (by decide) ?_
      refine lv_icmp_lt (tgt := 29) hx hb dX1_review_20 (by decide) (fun c5 => ?_) (fun c5 => ?_)
      · have h := h.1 c5
        refine lv_bipush (v := (-2)) hx hb dX1_review_29 (by decide) ?_
        exact ret_i (Wd := XW cc ad) (u := σ) C0 h hP hS dX1_review_31
      · have h := h.2 c5
        refine lv_iload_n hx hb dX1_review_23 rfl (lv_at hl 2 rfl) ?_
        refine lv_bipush (v := 60) hx hb dX1_review_24 (by decide) ?_
        refine lv_icmp_le (tgt := 32) hx hb dX1_review_26 (by decide) (fun c6 => ?_) (fun c6 => ?_)
        · have h := h.1 c6
          refine lv_aload_n hx hb dX1_review_32 rfl (lv_at hl 0 rfl) ?_
          refine lv_iload_n hx hb dX1_review_33 rfl (lv_at hl 1 rfl) ?_
          refine lv_iload_n hx hb dX1_review_34 rfl (lv_at hl 2 rfl) ?_
          refine lv_iload_n hx hb dX1_review_35 rfl (lv_at hl 3 rfl) ?_
          obtain ⟨gp7, h⟩ := h
          refine call_v (Wd := XW cc ad) (σ := σ) C0 hd lens_id (As := [.int x1, .int x2, .int x3]) (rest := []) (ct_X1_reviewPlaces l D cc ad ⟨hd.1, fun _ _ => trivial⟩ g σ x1 x2 x3 gp7) (cwV 3 hts gX1_review_X1_reviewPlaces rfl rfl rfl (by decide +kernel) ⟨Nat.le_of_ble_eq_true rfl, Nat.le_of_ble_eq_true rfl⟩) (va_recv hK hP (ci := 1) (q0 := 0) rfl rfl) hP hS rfl hl.1 rfl (by simp [Value.category]) dX1_review_36 (fun r8 u hp H locs hP hS => ?_)
          obtain ⟨hp1, hp2⟩ := hp
          subst hp1
          have hp2 := hp2.symm
          subst hp2
          have hP : va_P D vwCl (XW cc ad σ) H := hP
          exact ret_i (Wd := XW cc ad) (u := σ) C0 h hP hS dX1_review_39
        · have h := h.2 c6
          refine lv_bipush (v := (-2)) hx hb dX1_review_29 (by decide) ?_
          exact ret_i (Wd := XW cc ad) (u := σ) C0 h hP hS dX1_review_31
    · have h := h.2 c4
      refine lv_iconst (v := (-1)) hx hb dX1_review_16 (by decide) ?_
      exact ret_i (Wd := XW cc ad) (u := σ) C0 h hP hS dX1_review_17
theorem ct_X1_review (l : Launch) (D : va_G) (cc : Nat → ClassId) (ad : Nat → Nat) (hd : DA 45 ad (fun _ => True)) (g : CS) (σ : XS) (x1 : Int32) (x2 : Int32) (x3 : Int32) (hp : pr_X1_review g σ x1 x2 x3) : Ctr l yX1_review wsX1_review { frames := 3, cells := 0, slots := 0, locals := 75 } D cc (XW cc ad) 45 ad σ [.ref (ad 0), .int x1, .int x2, .int x3] (fun r u => r = fn_X1_review g σ x1 x2 x3 ∧ u = σ) :=
  ctr_i (rt := (some .int)) (by decide +kernel) rfl hd (Nat.le_of_ble_eq_true rfl) (fun p e s m below meth c A C0 hd => wk_X1_review_0 C0 hd σ x1 x2 x3 (pu_X1_review g σ x1 x2 x3 hp))
theorem hin_X1_all : ∀ w ∈ u_ws RX1 TX1 12, w ∈ wsX1_all := fun w h => List.mem_cons_of_mem _ (List.mem_append_right _ h)
set_option maxHeartbeats 4000000 in
set_option maxRecDepth 100000 in
theorem wk_X1_all_14 {p : Program} {l : Launch} {e : Env} {s : State} {m : MethodId} {args : Array Value} {below : List Frame} {meth : Method} {c : Code} {D : va_G} {cc : Nat → ClassId} {ad : Nat → Nat} {A : Nat → Prop} {Post : Int32 → XS → Prop} {g : CS} (C0 : Cx p s m args meth c cX1_all 4 (some .int) RX1 wsX1_all D cc A) (hd : DA 45 ad A) {K14 : (XS × Int32 × Int32) → Prop} (hK14 : ∀ a, K14 a → At_ p l e { frames := 1, cells := 0, slots := 0, locals := 21 } s m args below meth c (Qi_ below D (XW cc ad) A args s Post) D A (XW cc ad (a.1)) 4 14 [(0, .ref (ad 0)), (2, .int (a.2.1)), (3, .int (a.2.2))] []) (σ : XS) (x2 : Int32) (x3 : Int32) (h : wp_X1_all_14 g K14 Post σ x2 x3) : At_ p l e { frames := 1, cells := 0, slots := 0, locals := 21 } s m args below meth c (Qi_ below D (XW cc ad) A args s Post) D A (XW cc ad σ) 4 14 [(0, .ref (ad 0)), (2, .int x2), (3, .int x3)] [] := by
  obtain ⟨hx, hb, hml, hr, hown, hts, hlocks, hK, hA, hX⟩ := id C0
  have hin := hin_X1_all
  intro H locs ls hP hS hl
  unfold wp_X1_all_14 at h
  refine lv_iload_n hx hb dX1_all_14 rfl (lv_at hl 2 rfl) ?_
  refine lv_aload_n hx hb dX1_all_15 rfl (lv_at hl 0 rfl) ?_
  refine va_get (D := D) (ci := 1) (v := .ref (ad 4)) (C := RX1) (T := TX1) (N := 12) hx hb hts hin hown hK hP 0 rfl rfl 9 (by decide) (hts (.fieldLink RX1 41 "ClassSheets" "misses" "[I") (List.mem_of_getElem? (i := 1) rfl)) (fun _ h9 => h9) rfl dX1_all_16 ?_
  refine va_alen (D := D) (v := 512) hx hb hK hP 4 0 rfl rfl rfl dX1_all_19 ?_
  refine lv_icmp_ge (tgt := 38) hx hb dX1_all_20 (by decide) (fun c1 => ?_) (fun c1 => ?_)
  · have h := h.1 c1
    refine lv_iload_n hx hb dX1_all_38 rfl (lv_at hl 1 rfl) ?_
    exact ret_i (Wd := XW cc ad) (u := σ) C0 h hP hS dX1_all_39
  · have h := h.2 c1
    refine lv_iload_n hx hb dX1_all_23 rfl (lv_at hl 1 rfl) ?_
    refine lv_aload_n hx hb dX1_all_24 rfl (lv_at hl 0 rfl) ?_
    refine va_get (D := D) (ci := 1) (v := .ref (ad 4)) (C := RX1) (T := TX1) (N := 12) hx hb hts hin hown hK hP 0 rfl rfl 9 (by decide) (hts (.fieldLink RX1 41 "ClassSheets" "misses" "[I") (List.mem_of_getElem? (i := 1) rfl)) (fun _ h9 => h9) rfl dX1_all_25 ?_
    refine lv_iload_n hx hb dX1_all_28 rfl (lv_at hl 2 rfl) ?_
    obtain ⟨gi2, h⟩ := h
    refine va_iald (D := D) (f := xs_mi σ) hx hb hK hP 4 0 rfl rfl gi2 dX1_all_29 ?_
    refine lv_iadd hx hb dX1_all_30 ?_
    refine lv_topi (fun x2_3 ex2_3 => ?_)
    have h := h x2_3 ex2_3
    refine lv_istore_n (lv' := [(2, .int x2_3), (0, .ref (ad 0)), (3, .int x3)]) hx hb dX1_all_31 rfl hl (by decide) rfl (fun ls hl => ?_)
    obtain ⟨x3_4, ex3_4⟩ : ∃ y : Int32, y = x3 + 8 := ⟨_, rfl⟩
    have h := h x3_4 ex3_4
    refine lv_iinc (v := x3_4) (lv' := [(3, .int x3_4), (2, .int x2_3), (0, .ref (ad 0))]) hx hb dX1_all_32 hl (k := 2) rfl (by rw [ex3_4]; rfl) (by decide) rfl (fun ls hl => ?_)
    refine lv_goto (tgt := 14) hx hb dX1_all_35 (by decide) ?_
    exact hK14 (σ, x2_3, x3_4) h H locs ls hP hS (lv_sub hl [2, 1, 0] rfl)
set_option maxHeartbeats 4000000 in
set_option maxRecDepth 100000 in
theorem wk_X1_all_0 {p : Program} {l : Launch} {e : Env} {s : State} {m : MethodId} {args : Array Value} {below : List Frame} {meth : Method} {c : Code} {D : va_G} {cc : Nat → ClassId} {ad : Nat → Nat} {A : Nat → Prop} {Post : Int32 → XS → Prop} {g : CS} (C0 : Cx p s m args meth c cX1_all 4 (some .int) RX1 wsX1_all D cc A) (hd : DA 45 ad A) (σ : XS) (x1 : Int32) (h : wp_X1_all g Post σ x1) : At_ p l e { frames := 1, cells := 0, slots := 0, locals := 21 } s m args below meth c (Qi_ below D (XW cc ad) A args s Post) D A (XW cc ad σ) 4 0 [(0, .ref (ad 0)), (1, .int x1)] [] := by
  obtain ⟨hx, hb, hml, hr, hown, hts, hlocks, hK, hA, hX⟩ := id C0
  have hin := hin_X1_all
  intro H locs ls hP hS hl
  unfold wp_X1_all at h
  refine lv_aload_n hx hb dX1_all_0 rfl (lv_at hl 0 rfl) ?_
  refine lv_iload_n hx hb dX1_all_1 rfl (lv_at hl 1 rfl) ?_
  refine call_v (Wd := XW cc ad) (σ := σ) C0 hd lens_id (As := [.int x1]) (rest := []) (ct_X1_isKind l D cc ad ⟨hd.1, fun _ _ => trivial⟩ g σ x1) (cwV 1 hts gX1_all_X1_isKind rfl rfl rfl (by decide +kernel) ⟨Nat.le_of_ble_eq_true rfl, Nat.le_of_ble_eq_true rfl⟩) (va_recv hK hP (ci := 1) (q0 := 0) rfl rfl) hP hS rfl hl.1 rfl (by simp [Value.category]) dX1_all_2 (fun r1 u hp H locs hP hS => ?_)
  obtain ⟨hp1, hp2⟩ := hp
  subst hp1
  have hp2 := hp2.symm
  subst hp2
  have hP : va_P D vwCl (XW cc ad σ) H := hP
  refine lv_if_ne (tgt := 10) hx hb dX1_all_5 (by decide) (fun c2 => ?_) (fun c2 => ?_)
  · have h := h.1 c2
    refine lv_iconst (v := 0) hx hb dX1_all_10 (by decide) ?_
    refine lv_istore_n (lv' := [(2, .int 0), (0, .ref (ad 0)), (1, .int x1)]) hx hb dX1_all_11 rfl hl (by decide) rfl (fun ls hl => ?_)
    refine lv_iload_n hx hb dX1_all_12 rfl (lv_at hl 2 rfl) ?_
    refine lv_istore_n (lv' := [(3, .int x1), (2, .int 0), (0, .ref (ad 0)), (1, .int x1)]) hx hb dX1_all_13 rfl hl (by decide) rfl (fun ls hl => ?_)
    exact lp_at (Wt := fun a => At_ p l e { frames := 1, cells := 0, slots := 0, locals := 21 } s m args below meth c (Qi_ below D (XW cc ad) A args s Post) D A (XW cc ad (a.1)) 4 14 [(0, .ref (ad 0)), (2, .int (a.2.1)), (3, .int (a.2.2))] []) (fun K hK a h => wk_X1_all_14 C0 hd hK a.1 a.2.1 a.2.2 h) h H locs ls hP hS (lv_sub hl [2, 1, 0] rfl)
  · have h := h.2 c2
    refine lv_iconst (v := (-1)) hx hb dX1_all_8 (by decide) ?_
    exact ret_i (Wd := XW cc ad) (u := σ) C0 h hP hS dX1_all_9
theorem ct_X1_all (l : Launch) (D : va_G) (cc : Nat → ClassId) (ad : Nat → Nat) (hd : DA 45 ad (fun _ => True)) (g : CS) (σ : XS) (x1 : Int32) (hp : pr_X1_all g σ x1) : Ctr l yX1_all wsX1_all { frames := 1, cells := 0, slots := 0, locals := 21 } D cc (XW cc ad) 45 ad σ [.ref (ad 0), .int x1] (fun r u => r = fn_X1_all g σ x1 ∧ u = σ) :=
  ctr_i (rt := (some .int)) (by decide +kernel) rfl hd (Nat.le_of_ble_eq_true rfl) (fun p e s m below meth c A C0 hd => wk_X1_all_0 C0 hd σ x1 (pu_X1_all g σ x1 hp))
theorem hin_X1_total : ∀ w ∈ u_ws RX1 TX1 12, w ∈ wsX1_total := fun w h => List.mem_cons_of_mem _ (List.mem_append_right _ h)
set_option maxHeartbeats 4000000 in
set_option maxRecDepth 100000 in
theorem wk_X1_total_0 {p : Program} {l : Launch} {e : Env} {s : State} {m : MethodId} {args : Array Value} {below : List Frame} {meth : Method} {c : Code} {D : va_G} {cc : Nat → ClassId} {ad : Nat → Nat} {A : Nat → Prop} {Post : Int32 → XS → Prop} {g : CS} (C0 : Cx p s m args meth c cX1_total 2 (some .int) RX1 wsX1_total D cc A) (hd : DA 45 ad A) (σ : XS) (x1 : Int32) (h : wp_X1_total g Post σ x1) : At_ p l e { frames := 0, cells := 0, slots := 0, locals := 0 } s m args below meth c (Qi_ below D (XW cc ad) A args s Post) D A (XW cc ad σ) 2 0 [(0, .ref (ad 0)), (1, .int x1)] [] := by
  obtain ⟨hx, hb, hml, hr, hown, hts, hlocks, hK, hA, hX⟩ := id C0
  have hin := hin_X1_total
  intro H locs ls hP hS hl
  unfold wp_X1_total at h
  refine lv_iload_n hx hb dX1_total_0 rfl (lv_at hl 1 rfl) ?_
  rcases Classical.em (x1 = 0) with c1 | c1
  · have h := h.1 c1
    refine lv_tableIn (off := 35) (tgt := 36) hx hb dX1_total_1 (by rw [c1]; decide) (by rw [c1]; decide) (by rw [c1]; decide) (by decide) ?_
    refine lv_aload_n hx hb dX1_total_36 rfl (lv_at hl 0 rfl) ?_
    refine va_get (D := D) (ci := 1) (v := .int (xs_kc σ)) (C := RX1) (T := TX1) (N := 12) hx hb hts hin hown hK hP 0 rfl rfl 1 (by decide) (hts (.fieldLink RX1 15 "ClassSheets" "kindCount" "I") (List.mem_of_getElem? (i := 1) rfl)) (fun _ h9 => h9) rfl dX1_total_37 ?_
    exact ret_i (Wd := XW cc ad) (u := σ) C0 h hP hS dX1_total_40
  · have h := h.2 c1
    rcases Classical.em (x1 = 1) with c2 | c2
    · have h := h.1 c2
      refine lv_tableIn (off := 40) (tgt := 41) hx hb dX1_total_1 (by rw [c2]; decide) (by rw [c2]; decide) (by rw [c2]; decide) (by decide) ?_
      refine lv_aload_n hx hb dX1_total_41 rfl (lv_at hl 0 rfl) ?_
      refine va_get (D := D) (ci := 1) (v := .int (xs_pc σ)) (C := RX1) (T := TX1) (N := 12) hx hb hts hin hown hK hP 0 rfl rfl 4 (by decide) (hts (.fieldLink RX1 26 "ClassSheets" "placeCount" "I") (List.mem_of_getElem? (i := 2) rfl)) (fun _ h9 => h9) rfl dX1_total_42 ?_
      exact ret_i (Wd := XW cc ad) (u := σ) C0 h hP hS dX1_total_45
    · have h := h.2 c2
      rcases Classical.em (x1 = 2) with c3 | c3
      · have h := h.1 c3
        refine lv_tableIn (off := 45) (tgt := 46) hx hb dX1_total_1 (by rw [c3]; decide) (by rw [c3]; decide) (by rw [c3]; decide) (by decide) ?_
        refine lv_aload_n hx hb dX1_total_46 rfl (lv_at hl 0 rfl) ?_
        refine va_get (D := D) (ci := 1) (v := .int (xs_rc σ)) (C := RX1) (T := TX1) (N := 12) hx hb hts hin hown hK hP 0 rfl rfl 6 (by decide) (hts (.fieldLink RX1 32 "ClassSheets" "rowCount" "I") (List.mem_of_getElem? (i := 3) rfl)) (fun _ h9 => h9) rfl dX1_total_47 ?_
        refine lv_aload_n hx hb dX1_total_50 rfl (lv_at hl 0 rfl) ?_
        refine va_get (D := D) (ci := 1) (v := .int (xs_cc σ)) (C := RX1) (T := TX1) (N := 12) hx hb hts hin hown hK hP 0 rfl rfl 7 (by decide) (hts (.fieldLink RX1 35 "ClassSheets" "columnCount" "I") (List.mem_of_getElem? (i := 4) rfl)) (fun _ h9 => h9) rfl dX1_total_51 ?_
        refine lv_imul hx hb dX1_total_54 ?_
        exact ret_i (Wd := XW cc ad) (u := σ) C0 h hP hS dX1_total_55
      · have h := h.2 c3
        rcases Classical.em (x1 = 3) with c4 | c4
        · have h := h.1 c4
          refine lv_tableIn (off := 55) (tgt := 56) hx hb dX1_total_1 (by rw [c4]; decide) (by rw [c4]; decide) (by rw [c4]; decide) (by decide) ?_
          refine lv_aload_n hx hb dX1_total_56 rfl (lv_at hl 0 rfl) ?_
          refine va_get (D := D) (ci := 1) (v := .int (xs_rm σ)) (C := RX1) (T := TX1) (N := 12) hx hb hts hin hown hK hP 0 rfl rfl 10 (by decide) (hts (.fieldLink RX1 44 "ClassSheets" "rightMarks" "I") (List.mem_of_getElem? (i := 5) rfl)) (fun _ h9 => h9) rfl dX1_total_57 ?_
          exact ret_i (Wd := XW cc ad) (u := σ) C0 h hP hS dX1_total_60
        · have h := h.2 c4
          rcases Classical.em (x1 = 4) with c5 | c5
          · have h := h.1 c5
            refine lv_tableIn (off := 60) (tgt := 61) hx hb dX1_total_1 (by rw [c5]; decide) (by rw [c5]; decide) (by rw [c5]; decide) (by decide) ?_
            refine lv_aload_n hx hb dX1_total_61 rfl (lv_at hl 0 rfl) ?_
            refine va_get (D := D) (ci := 1) (v := .int (xs_wm σ)) (C := RX1) (T := TX1) (N := 12) hx hb hts hin hown hK hP 0 rfl rfl 11 (by decide) (hts (.fieldLink RX1 47 "ClassSheets" "wrongMarks" "I") (List.mem_of_getElem? (i := 6) rfl)) (fun _ h9 => h9) rfl dX1_total_62 ?_
            exact ret_i (Wd := XW cc ad) (u := σ) C0 h hP hS dX1_total_65
          · have h := h.2 c5
            refine lv_tableOut (tgt := 66) hx hb dX1_total_1 (by have qc1 := lv_neT (a := 0) c1 (by decide); have qc2 := lv_neT (a := 1) c2 (by decide); have qc3 := lv_neT (a := 2) c3 (by decide); have qc4 := lv_neT (a := 3) c4 (by decide); have qc5 := lv_neT (a := 4) c5 (by decide); omega) (by decide) ?_
            refine lv_bipush (v := (-2)) hx hb dX1_total_66 (by decide) ?_
            exact ret_i (Wd := XW cc ad) (u := σ) C0 h hP hS dX1_total_68
theorem ct_X1_total (l : Launch) (D : va_G) (cc : Nat → ClassId) (ad : Nat → Nat) (hd : DA 45 ad (fun _ => True)) (g : CS) (σ : XS) (x1 : Int32) (hp : pr_X1_total g σ x1) : Ctr l yX1_total wsX1_total { frames := 0, cells := 0, slots := 0, locals := 0 } D cc (XW cc ad) 45 ad σ [.ref (ad 0), .int x1] (fun r u => r = fn_X1_total g σ x1 ∧ u = σ) :=
  ctr_i (rt := (some .int)) (by decide +kernel) rfl hd (Nat.le_of_ble_eq_true rfl) (fun p e s m below meth c A C0 hd => wk_X1_total_0 C0 hd σ x1 (pu_X1_total g σ x1 hp))
