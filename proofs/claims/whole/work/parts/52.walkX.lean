theorem hin_X1_isKind : ∀ w ∈ u_ws RX1 TX1 12, w ∈ wsX1_isKind := fun w h => List.mem_cons_of_mem _ (List.mem_append_right _ h)
set_option maxHeartbeats 4000000 in
set_option maxRecDepth 100000 in
theorem wk_X1_isKind_0 {p : Program} {l : Launch} {e : Env} {s : State} {m : MethodId} {args : Array Value} {below : List Frame} {meth : Method} {c : Code} {D : va_G} {cc : Nat → ClassId} {ad : Nat → Nat} {A : Nat → Prop} {Post : Int32 → XS → Prop} {g : CS} (C0 : Cx p s m args meth c cX1_isKind 2 (some .boolean) RX1 wsX1_isKind D cc A) (hd : DA 45 ad A) (σ : XS) (x1 : Int32) (h : wp_X1_isKind g Post σ x1) : At_ p l e { frames := 0, cells := 0, slots := 0, locals := 0 } s m args below meth c (Qi_ below D (XW cc ad) A args s Post) D A (XW cc ad σ) 2 0 [(0, .ref (ad 0)), (1, .int x1)] [] := by
  obtain ⟨hx, hb, hml, hr, hown, hts, hlocks, hK, hA, hX⟩ := id C0
  have hin := hin_X1_isKind
  intro H locs ls hP hS hl
  unfold wp_X1_isKind at h
  refine lv_iload_n hx hb dX1_isKind_0 rfl (lv_at hl 1 rfl) ?_
  refine lv_if_lt (tgt := 16) hx hb dX1_isKind_1 (by decide) (fun c1 => ?_) (fun c1 => ?_)
  · have h := h.1 c1
    refine lv_iconst (v := 0) hx hb dX1_isKind_16 (by decide) ?_
    exact ret_z (Wd := XW cc ad) (u := σ) C0 rfl h hP hS dX1_isKind_17
  · have h := h.2 c1
    refine lv_iload_n hx hb dX1_isKind_4 rfl (lv_at hl 1 rfl) ?_
    refine lv_aload_n hx hb dX1_isKind_5 rfl (lv_at hl 0 rfl) ?_
    refine va_get (D := D) (ci := 1) (v := .int (xs_kc σ)) (C := RX1) (T := TX1) (N := 12) hx hb hts hin hown hK hP 0 rfl rfl 1 (by decide) (hts (.fieldLink RX1 15 "ClassSheets" "kindCount" "I") (List.mem_of_getElem? (i := 1) rfl)) (fun _ h9 => h9) rfl dX1_isKind_6 ?_
    refine lv_icmp_ge (tgt := 16) hx hb dX1_isKind_9 (by decide) (fun c2 => ?_) (fun c2 => ?_)
    · have h := h.1 c2
      refine lv_iconst (v := 0) hx hb dX1_isKind_16 (by decide) ?_
      exact ret_z (Wd := XW cc ad) (u := σ) C0 rfl h hP hS dX1_isKind_17
    · have h := h.2 c2
      refine lv_iconst (v := 1) hx hb dX1_isKind_12 (by decide) ?_
      refine lv_goto (tgt := 17) hx hb dX1_isKind_13 (by decide) ?_
      exact ret_z (Wd := XW cc ad) (u := σ) C0 rfl h hP hS dX1_isKind_17
theorem ct_X1_isKind (l : Launch) (D : va_G) (cc : Nat → ClassId) (ad : Nat → Nat) (hd : DA 45 ad (fun _ => True)) (g : CS) (σ : XS) (x1 : Int32) : Ctr l yX1_isKind wsX1_isKind { frames := 0, cells := 0, slots := 0, locals := 0 } D cc (XW cc ad) 45 ad σ [.ref (ad 0), .int x1] (fun r u => r = fn_X1_isKind σ x1 ∧ u = σ) :=
  ctr_i (rt := (some .boolean)) (by decide +kernel) rfl hd (Nat.le_of_ble_eq_true rfl) (fun p e s m below meth c A C0 hd => wk_X1_isKind_0 C0 hd σ x1 (pu_X1_isKind g σ x1))
theorem hin_X1_isVariant : ∀ w ∈ u_ws RX1 TX1 12, w ∈ wsX1_isVariant := fun w h => List.mem_cons_of_mem _ (List.mem_append_left _ (List.mem_append_right _ h))
set_option maxHeartbeats 4000000 in
set_option maxRecDepth 100000 in
theorem wk_X1_isVariant_0 {p : Program} {l : Launch} {e : Env} {s : State} {m : MethodId} {args : Array Value} {below : List Frame} {meth : Method} {c : Code} {D : va_G} {cc : Nat → ClassId} {ad : Nat → Nat} {A : Nat → Prop} {Post : Int32 → XS → Prop} {g : CS} (C0 : Cx p s m args meth c cX1_isVariant 3 (some .boolean) RX1 wsX1_isVariant D cc A) (hd : DA 45 ad A) (σ : XS) (x1 : Int32) (x2 : Int32) (h : wp_X1_isVariant g Post σ x1 x2) : At_ p l e { frames := 1, cells := 0, slots := 0, locals := 21 } s m args below meth c (Qi_ below D (XW cc ad) A args s Post) D A (XW cc ad σ) 3 0 [(0, .ref (ad 0)), (1, .int x1), (2, .int x2)] [] := by
  obtain ⟨hx, hb, hml, hr, hown, hts, hlocks, hK, hA, hX⟩ := id C0
  have hin := hin_X1_isVariant
  intro H locs ls hP hS hl
  unfold wp_X1_isVariant at h
  refine lv_aload_n hx hb dX1_isVariant_0 rfl (lv_at hl 0 rfl) ?_
  refine lv_iload_n hx hb dX1_isVariant_1 rfl (lv_at hl 1 rfl) ?_
  refine call_v (Wd := XW cc ad) (σ := σ) C0 hd lens_id (As := [.int x1]) (rest := []) (ct_X1_isKind l D cc ad ⟨hd.1, fun _ _ => trivial⟩ g σ x1) (cwV 1 hts gX1_isVariant_X1_isKind rfl rfl rfl (by decide +kernel) ⟨Nat.le_of_ble_eq_true rfl, Nat.le_of_ble_eq_true rfl⟩) (va_recv hK hP (ci := 1) (q0 := 0) rfl rfl) hP hS rfl hl.1 rfl (by simp [Value.category]) dX1_isVariant_2 (fun r1 u hp H locs hP hS => ?_)
  obtain ⟨hp1, hp2⟩ := hp
  subst hp1
  have hp2 := hp2.symm
  subst hp2
  have hP : va_P D vwCl (XW cc ad σ) H := hP
  refine lv_if_eq (tgt := 29) hx hb dX1_isVariant_5 (by decide) (fun c2 => ?_) (fun c2 => ?_)
  · have h := h.1 c2
    refine lv_iconst (v := 0) hx hb dX1_isVariant_29 (by decide) ?_
    exact ret_z (Wd := XW cc ad) (u := σ) C0 rfl h hP hS dX1_isVariant_30
  · have h := h.2 c2
    refine lv_iload_n hx hb dX1_isVariant_8 rfl (lv_at hl 2 rfl) ?_
    refine lv_if_lt (tgt := 29) hx hb dX1_isVariant_9 (by decide) (fun c3 => ?_) (fun c3 => ?_)
    · have h := h.1 c3
      refine lv_iconst (v := 0) hx hb dX1_isVariant_29 (by decide) ?_
      exact ret_z (Wd := XW cc ad) (u := σ) C0 rfl h hP hS dX1_isVariant_30
    · have h := h.2 c3
      refine lv_iload_n hx hb dX1_isVariant_12 rfl (lv_at hl 2 rfl) ?_
      refine lv_aload_n hx hb dX1_isVariant_13 rfl (lv_at hl 0 rfl) ?_
      refine va_get (D := D) (ci := 1) (v := .ref (ad 1)) (C := RX1) (T := TX1) (N := 12) hx hb hts hin hown hK hP 0 rfl rfl 0 (by decide) (hts (.fieldLink RX1 11 "ClassSheets" "kinds" "[LClassSheets$Kind;") (List.mem_of_getElem? (i := 1) rfl)) (fun _ h9 => h9) rfl dX1_isVariant_14 ?_
      refine lv_iload_n hx hb dX1_isVariant_17 rfl (lv_at hl 1 rfl) ?_
      obtain ⟨gk4, h⟩ := h
      refine ld_kind C0 hP gk4 dX1_isVariant_18 ?_
      refine call_v (Wd := XW cc ad) (σ := σ) C0 hd (lens_k (vin_lt gk4)) (As := []) (rest := [.int x2]) (ct_X0_size l D cc (ka ad (x1.toNatClampNeg)) (da_ka hd (vin_lt gk4)) (cq g (x1.toNatClampNeg)) (xs_ki σ (x1.toNatClampNeg))) (cwV 0 hts gX1_isVariant_X0_size rfl rfl rfl (by decide +kernel) ⟨Nat.le_of_ble_eq_true rfl, Nat.le_of_ble_eq_true rfl⟩) (va_recv hK ((lens_k (D := D) (cc := cc) (ad := ad) (σ := σ) (vin_lt gk4)).1 H hP) (ci := 0) (q0 := 0) rfl rfl) hP hS rfl hl.1 rfl (by simp [Value.category]) dX1_isVariant_19 (fun r5 u hp H locs hP hS => ?_)
      obtain ⟨hp1, hp2⟩ := hp
      subst hp1
      have hp2 := hp2.symm
      subst hp2
      rw [xs_self] at hP
      have hP : va_P D vwCl (XW cc ad σ) H := hP
      refine lv_icmp_ge (tgt := 29) hx hb dX1_isVariant_22 (by decide) (fun c6 => ?_) (fun c6 => ?_)
      · have h := h.1 c6
        refine lv_iconst (v := 0) hx hb dX1_isVariant_29 (by decide) ?_
        exact ret_z (Wd := XW cc ad) (u := σ) C0 rfl h hP hS dX1_isVariant_30
      · have h := h.2 c6
        refine lv_iconst (v := 1) hx hb dX1_isVariant_25 (by decide) ?_
        refine lv_goto (tgt := 30) hx hb dX1_isVariant_26 (by decide) ?_
        exact ret_z (Wd := XW cc ad) (u := σ) C0 rfl h hP hS dX1_isVariant_30
theorem ct_X1_isVariant (l : Launch) (D : va_G) (cc : Nat → ClassId) (ad : Nat → Nat) (hd : DA 45 ad (fun _ => True)) (g : CS) (σ : XS) (x1 : Int32) (x2 : Int32) (hp : pr_X1_isVariant g σ x1 x2) : Ctr l yX1_isVariant wsX1_isVariant { frames := 1, cells := 0, slots := 0, locals := 21 } D cc (XW cc ad) 45 ad σ [.ref (ad 0), .int x1, .int x2] (fun r u => r = fn_X1_isVariant g σ x1 x2 ∧ u = σ) :=
  ctr_i (rt := (some .boolean)) (by decide +kernel) rfl hd (Nat.le_of_ble_eq_true rfl) (fun p e s m below meth c A C0 hd => wk_X1_isVariant_0 C0 hd σ x1 x2 (pu_X1_isVariant g σ x1 x2 hp))
theorem hin_X1_kind : ∀ w ∈ u_ws RX1 TX1 12, w ∈ wsX1_kind := fun w h => List.mem_cons_of_mem _ (List.mem_append_left _ (List.mem_append_right _ h))
set_option maxHeartbeats 4000000 in
set_option maxRecDepth 100000 in
theorem wk_X1_kind_0 {p : Program} {l : Launch} {e : Env} {s : State} {m : MethodId} {args : Array Value} {below : List Frame} {meth : Method} {c : Code} {D : va_G} {cc : Nat → ClassId} {ad : Nat → Nat} {A : Nat → Prop} {Post : Int32 → XS → Prop} {g : CS} (C0 : Cx p s m args meth c cX1_kind 2 (some .int) RX1 wsX1_kind D cc A) (hd : DA 45 ad A) (σ : XS) (x1 : Int32) (h : wp_X1_kind g Post σ x1) : At_ p l e { frames := 5, cells := 0, slots := 0, locals := 111 } s m args below meth c (Qi_ below D (XW cc ad) A args s Post) D A (XW cc ad σ) 2 0 [(0, .ref (ad 0)), (1, .int x1)] [] := by
  obtain ⟨hx, hb, hml, hr, hown, hts, hlocks, hK, hA, hX⟩ := id C0
  have hin := hin_X1_kind
  intro H locs ls hP hS hl
  unfold wp_X1_kind at h
  refine lv_iload_n hx hb dX1_kind_0 rfl (lv_at hl 1 rfl) ?_
  refine lv_if_lt (tgt := 9) hx hb dX1_kind_1 (by decide) (fun c1 => ?_) (fun c1 => ?_)
  · have h := h.1 c1
    refine lv_bipush (v := (-2)) hx hb dX1_kind_9 (by decide) ?_
    exact ret_i (Wd := XW cc ad) (u := σ) C0 h hP hS dX1_kind_11
  · have h := h.2 c1
    refine lv_iload_n hx hb dX1_kind_4 rfl (lv_at hl 1 rfl) ?_
    refine lv_iconst (v := 3) hx hb dX1_kind_5 (by decide) ?_
    refine lv_icmp_le (tgt := 12) hx hb dX1_kind_6 (by decide) (fun c2 => ?_) (fun c2 => ?_)
    · have h := h.1 c2
      refine lv_aload_n hx hb dX1_kind_12 rfl (lv_at hl 0 rfl) ?_
      refine va_get (D := D) (ci := 1) (v := .int (xs_kc σ)) (C := RX1) (T := TX1) (N := 12) hx hb hts hin hown hK hP 0 rfl rfl 1 (by decide) (hts (.fieldLink RX1 15 "ClassSheets" "kindCount" "I") (List.mem_of_getElem? (i := 1) rfl)) (fun _ h9 => h9) rfl dX1_kind_13 ?_
      refine lv_bipush (v := 8) hx hb dX1_kind_16 (by decide) ?_
      refine lv_icmp_ne (tgt := 24) hx hb dX1_kind_18 (by decide) (fun c3 => ?_) (fun c3 => ?_)
      · have h := h.1 c3
        refine lv_aload_n hx hb dX1_kind_24 rfl (lv_at hl 0 rfl) ?_
        refine va_get (D := D) (ci := 1) (v := .ref (ad 1)) (C := RX1) (T := TX1) (N := 12) hx hb hts hin hown hK hP 0 rfl rfl 0 (by decide) (hts (.fieldLink RX1 11 "ClassSheets" "kinds" "[LClassSheets$Kind;") (List.mem_of_getElem? (i := 2) rfl)) (fun _ h9 => h9) rfl dX1_kind_25 ?_
        refine lv_aload_n hx hb dX1_kind_28 rfl (lv_at hl 0 rfl) ?_
        refine va_get (D := D) (ci := 1) (v := .int (xs_kc σ)) (C := RX1) (T := TX1) (N := 12) hx hb hts hin hown hK hP 0 rfl rfl 1 (by decide) (hts (.fieldLink RX1 15 "ClassSheets" "kindCount" "I") (List.mem_of_getElem? (i := 1) rfl)) (fun _ h9 => h9) rfl dX1_kind_29 ?_
        obtain ⟨gk4, h⟩ := h
        refine ld_kind C0 hP gk4 dX1_kind_32 ?_
        refine lv_iload_n hx hb dX1_kind_33 rfl (lv_at hl 1 rfl) ?_
        obtain ⟨gp5, h⟩ := h
        refine call_vv (Wd := XW cc ad) (σ := σ) C0 hd (lens_k (vin_lt gk4)) (As := [.int x1]) (rest := []) (ct_X0_open l D cc (ka ad ((xs_kc σ).toNatClampNeg)) (da_ka hd (vin_lt gk4)) (cq g ((xs_kc σ).toNatClampNeg)) (xs_ki σ ((xs_kc σ).toNatClampNeg)) x1 gp5) (cwV 1 hts gX1_kind_X0_open rfl rfl rfl (by decide +kernel) ⟨Nat.le_of_ble_eq_true rfl, Nat.le_of_ble_eq_true rfl⟩) (va_recv hK ((lens_k (D := D) (cc := cc) (ad := ad) (σ := σ) (vin_lt gk4)).1 H hP) (ci := 0) (q0 := 0) rfl rfl) hP hS rfl hl.1 rfl (by simp [Value.category]) dX1_kind_34 (fun u7 hp H locs hP hS => ?_)
        have h := h u7 hp
        have hP : va_P D vwCl (XW cc ad (xs_sk σ ((xs_kc σ).toNatClampNeg) u7)) H := hP
        refine lv_aload_n hx hb dX1_kind_37 rfl (lv_at hl 0 rfl) ?_
        refine lv_dup hx hb dX1_kind_38 rfl ?_
        refine va_get (D := D) (ci := 1) (v := .int (xs_kc (xs_sk σ ((xs_kc σ).toNatClampNeg) u7))) (C := RX1) (T := TX1) (N := 12) hx hb hts hin hown hK hP 0 rfl rfl 1 (by decide) (hts (.fieldLink RX1 15 "ClassSheets" "kindCount" "I") (List.mem_of_getElem? (i := 1) rfl)) (fun _ h9 => h9) rfl dX1_kind_39 ?_
        refine lv_iconst (v := 1) hx hb dX1_kind_42 (by decide) ?_
        refine lv_iadd hx hb dX1_kind_43 ?_
        refine va_put (D := D) (ci := 1) (v := .int ((xs_kc (xs_sk σ ((xs_kc σ).toNatClampNeg) u7)) + 1)) (ty := .int) (C := RX1) (T := TX1) (N := 12) hx hb hts hin tyX1 tyX1_ok nmX1 hown hK hP (xD hd) hS 0 rfl rfl 1 (by decide) (hts (.fieldLink RX1 15 "ClassSheets" "kindCount" "I") (List.mem_of_getElem? (i := 1) rfl)) (fun _ h9 => h9) rfl (by decide +kernel) rfl rfl (Nat.le_of_ble_eq_true rfl) dX1_kind_44 (fun H locs hP _ hS => ?_)
        have hP : va_P D vwCl (XW cc ad (xs_s_kc (xs_sk σ ((xs_kc σ).toNatClampNeg) u7) ((xs_kc (xs_sk σ ((xs_kc σ).toNatClampNeg) u7)) + 1))) H := hP
        refine lv_aload_n hx hb dX1_kind_47 rfl (lv_at hl 0 rfl) ?_
        refine va_get (D := D) (ci := 1) (v := .int (xs_kc (xs_s_kc (xs_sk σ ((xs_kc σ).toNatClampNeg) u7) ((xs_kc (xs_sk σ ((xs_kc σ).toNatClampNeg) u7)) + 1)))) (C := RX1) (T := TX1) (N := 12) hx hb hts hin hown hK hP 0 rfl rfl 1 (by decide) (hts (.fieldLink RX1 15 "ClassSheets" "kindCount" "I") (List.mem_of_getElem? (i := 1) rfl)) (fun _ h9 => h9) rfl dX1_kind_48 ?_
        refine lv_iconst (v := 1) hx hb dX1_kind_51 (by decide) ?_
        refine lv_isub hx hb dX1_kind_52 ?_
        exact ret_i (Wd := XW cc ad) (u := (xs_s_kc (xs_sk σ ((xs_kc σ).toNatClampNeg) u7) ((xs_kc (xs_sk σ ((xs_kc σ).toNatClampNeg) u7)) + 1))) C0 h hP hS dX1_kind_53
      · have h := h.2 c3
        refine lv_bipush (v := (-4)) hx hb dX1_kind_21 (by decide) ?_
        exact ret_i (Wd := XW cc ad) (u := σ) C0 h hP hS dX1_kind_23
    · have h := h.2 c2
      refine lv_bipush (v := (-2)) hx hb dX1_kind_9 (by decide) ?_
      exact ret_i (Wd := XW cc ad) (u := σ) C0 h hP hS dX1_kind_11
theorem ct_X1_kind (l : Launch) (D : va_G) (cc : Nat → ClassId) (ad : Nat → Nat) (hd : DA 45 ad (fun _ => True)) (g : CS) (σ : XS) (x1 : Int32) (hp : pr_X1_kind g σ x1) : Ctr l yX1_kind wsX1_kind { frames := 5, cells := 0, slots := 0, locals := 111 } D cc (XW cc ad) 45 ad σ [.ref (ad 0), .int x1] (po_X1_kind g σ x1) :=
  ctr_i (rt := (some .int)) (by decide +kernel) rfl hd (Nat.le_of_ble_eq_true rfl) (fun p e s m below meth c A C0 hd => wk_X1_kind_0 C0 hd σ x1 (pu_X1_kind g σ x1 hp))
theorem hin_X1_range : ∀ w ∈ u_ws RX1 TX1 12, w ∈ wsX1_range := fun w h => List.mem_cons_of_mem _ (List.mem_append_left _ (List.mem_append_right _ h))
set_option maxHeartbeats 4000000 in
set_option maxRecDepth 100000 in
theorem wk_X1_range_0 {p : Program} {l : Launch} {e : Env} {s : State} {m : MethodId} {args : Array Value} {below : List Frame} {meth : Method} {c : Code} {D : va_G} {cc : Nat → ClassId} {ad : Nat → Nat} {A : Nat → Prop} {Post : Int32 → XS → Prop} {g : CS} (C0 : Cx p s m args meth c cX1_range 5 (some .int) RX1 wsX1_range D cc A) (hd : DA 45 ad A) (σ : XS) (x1 : Int32) (x2 : Int32) (x3 : Int32) (x4 : Int32) (h : wp_X1_range g Post σ x1 x2 x3 x4) : At_ p l e { frames := 5, cells := 0, slots := 0, locals := 113 } s m args below meth c (Qi_ below D (XW cc ad) A args s Post) D A (XW cc ad σ) 5 0 [(0, .ref (ad 0)), (1, .int x1), (2, .int x2), (3, .int x3), (4, .int x4)] [] := by
  obtain ⟨hx, hb, hml, hr, hown, hts, hlocks, hK, hA, hX⟩ := id C0
  have hin := hin_X1_range
  intro H locs ls hP hS hl
  unfold wp_X1_range at h
  refine lv_aload_n hx hb dX1_range_0 rfl (lv_at hl 0 rfl) ?_
  refine lv_iload_n hx hb dX1_range_1 rfl (lv_at hl 1 rfl) ?_
  refine call_v (Wd := XW cc ad) (σ := σ) C0 hd lens_id (As := [.int x1]) (rest := []) (ct_X1_isKind l D cc ad ⟨hd.1, fun _ _ => trivial⟩ g σ x1) (cwV 1 hts gX1_range_X1_isKind rfl rfl rfl (by decide +kernel) ⟨Nat.le_of_ble_eq_true rfl, Nat.le_of_ble_eq_true rfl⟩) (va_recv hK hP (ci := 1) (q0 := 0) rfl rfl) hP hS rfl hl.1 rfl (by simp [Value.category]) dX1_range_2 (fun r1 u hp H locs hP hS => ?_)
  obtain ⟨hp1, hp2⟩ := hp
  subst hp1
  have hp2 := hp2.symm
  subst hp2
  have hP : va_P D vwCl (XW cc ad σ) H := hP
  refine lv_if_ne (tgt := 10) hx hb dX1_range_5 (by decide) (fun c2 => ?_) (fun c2 => ?_)
  · have h := h.1 c2
    refine lv_iload_n hx hb dX1_range_10 rfl (lv_at hl 2 rfl) ?_
    refine lv_iload_n hx hb dX1_range_11 rfl (lv_at hl 3 rfl) ?_
    refine lv_iload hx hb dX1_range_12 (lv_at hl 4 rfl) ?_
    refine call_s (Wd := XW cc ad) (σ := σ) C0 hd (lens_un (adc := ad)) (As := [.int x2, .int x3, .int x4]) (rest := []) (ct_X0_isRange l D cc ad da0 x2 x3 x4) (va_cwS 3 hts gX1_range_X0_isRange rfl rfl rfl (by decide +kernel) ⟨Nat.le_of_ble_eq_true rfl, Nat.le_of_ble_eq_true rfl⟩) hP hS rfl hl.1 rfl (by simp [Value.category]) dX1_range_14 (fun r3 u hp H locs hP hS => ?_)
    obtain ⟨hp1, hp2⟩ := hp
    subst hp1
    have hP : va_P D vwCl (XW cc ad σ) H := hP
    refine lv_if_ne (tgt := 23) hx hb dX1_range_17 (by decide) (fun c4 => ?_) (fun c4 => ?_)
    · have h := h.1 c4
      refine lv_aload_n hx hb dX1_range_23 rfl (lv_at hl 0 rfl) ?_
      refine va_get (D := D) (ci := 1) (v := .ref (ad 1)) (C := RX1) (T := TX1) (N := 12) hx hb hts hin hown hK hP 0 rfl rfl 0 (by decide) (hts (.fieldLink RX1 11 "ClassSheets" "kinds" "[LClassSheets$Kind;") (List.mem_of_getElem? (i := 1) rfl)) (fun _ h9 => h9) rfl dX1_range_24 ?_
      refine lv_iload_n hx hb dX1_range_27 rfl (lv_at hl 1 rfl) ?_
      obtain ⟨gk5, h⟩ := h
      refine ld_kind C0 hP gk5 dX1_range_28 ?_
      refine lv_iload_n hx hb dX1_range_29 rfl (lv_at hl 2 rfl) ?_
      refine lv_iload_n hx hb dX1_range_30 rfl (lv_at hl 3 rfl) ?_
      refine lv_iload hx hb dX1_range_31 (lv_at hl 4 rfl) ?_
      obtain ⟨gp6, h⟩ := h
      refine call_vv (Wd := XW cc ad) (σ := σ) C0 hd (lens_k (vin_lt gk5)) (As := [.int x2, .int x3, .int x4]) (rest := []) (ct_X0_setRange l D cc (ka ad (x1.toNatClampNeg)) (da_ka hd (vin_lt gk5)) (cq g (x1.toNatClampNeg)) (xs_ki σ (x1.toNatClampNeg)) x2 x3 x4 gp6) (cwV 3 hts gX1_range_X0_setRange rfl rfl rfl (by decide +kernel) ⟨Nat.le_of_ble_eq_true rfl, Nat.le_of_ble_eq_true rfl⟩) (va_recv hK ((lens_k (D := D) (cc := cc) (ad := ad) (σ := σ) (vin_lt gk5)).1 H hP) (ci := 0) (q0 := 0) rfl rfl) hP hS rfl hl.1 rfl (by simp [Value.category]) dX1_range_33 (fun u8 hp H locs hP hS => ?_)
      have h := h u8 hp
      have hP : va_P D vwCl (XW cc ad (xs_sk σ (x1.toNatClampNeg) u8)) H := hP
      refine lv_aload_n hx hb dX1_range_36 rfl (lv_at hl 0 rfl) ?_
      refine va_get (D := D) (ci := 1) (v := .ref (ad 1)) (C := RX1) (T := TX1) (N := 12) hx hb hts hin hown hK hP 0 rfl rfl 0 (by decide) (hts (.fieldLink RX1 11 "ClassSheets" "kinds" "[LClassSheets$Kind;") (List.mem_of_getElem? (i := 1) rfl)) (fun _ h9 => h9) rfl dX1_range_37 ?_
      refine lv_iload_n hx hb dX1_range_40 rfl (lv_at hl 1 rfl) ?_
      obtain ⟨gk9, h⟩ := h
      refine ld_kind C0 hP gk9 dX1_range_41 ?_
      refine call_v (Wd := XW cc ad) (σ := (xs_sk σ (x1.toNatClampNeg) u8)) C0 hd (lens_k (vin_lt gk9)) (As := []) (rest := []) (ct_X0_size l D cc (ka ad (x1.toNatClampNeg)) (da_ka hd (vin_lt gk9)) (cq g (x1.toNatClampNeg)) (xs_ki (xs_sk σ (x1.toNatClampNeg) u8) (x1.toNatClampNeg))) (cwV 0 hts gX1_range_X0_size rfl rfl rfl (by decide +kernel) ⟨Nat.le_of_ble_eq_true rfl, Nat.le_of_ble_eq_true rfl⟩) (va_recv hK ((lens_k (D := D) (cc := cc) (ad := ad) (σ := (xs_sk σ (x1.toNatClampNeg) u8)) (vin_lt gk9)).1 H hP) (ci := 0) (q0 := 0) rfl rfl) hP hS rfl hl.1 rfl (by simp [Value.category]) dX1_range_42 (fun r10 u hp H locs hP hS => ?_)
      obtain ⟨hp1, hp2⟩ := hp
      subst hp1
      have hp2 := hp2.symm
      subst hp2
      rw [xs_self] at hP
      have hP : va_P D vwCl (XW cc ad (xs_sk σ (x1.toNatClampNeg) u8)) H := hP
      exact ret_i (Wd := XW cc ad) (u := (xs_sk σ (x1.toNatClampNeg) u8)) C0 h hP hS dX1_range_45
    · have h := h.2 c4
      refine lv_bipush (v := (-2)) hx hb dX1_range_20 (by decide) ?_
      exact ret_i (Wd := XW cc ad) (u := σ) C0 h hP hS dX1_range_22
  · have h := h.2 c2
    refine lv_iconst (v := (-1)) hx hb dX1_range_8 (by decide) ?_
    exact ret_i (Wd := XW cc ad) (u := σ) C0 h hP hS dX1_range_9
theorem ct_X1_range (l : Launch) (D : va_G) (cc : Nat → ClassId) (ad : Nat → Nat) (hd : DA 45 ad (fun _ => True)) (g : CS) (σ : XS) (x1 : Int32) (x2 : Int32) (x3 : Int32) (x4 : Int32) (hp : pr_X1_range g σ x1 x2 x3 x4) : Ctr l yX1_range wsX1_range { frames := 5, cells := 0, slots := 0, locals := 113 } D cc (XW cc ad) 45 ad σ [.ref (ad 0), .int x1, .int x2, .int x3, .int x4] (po_X1_range g σ x1 x2 x3 x4) :=
  ctr_i (rt := (some .int)) (by decide +kernel) rfl hd (Nat.le_of_ble_eq_true rfl) (fun p e s m below meth c A C0 hd => wk_X1_range_0 C0 hd σ x1 x2 x3 x4 (pu_X1_range g σ x1 x2 x3 x4 hp))
theorem hin_X1_rule : ∀ w ∈ u_ws RX1 TX1 12, w ∈ wsX1_rule := fun w h => List.mem_cons_of_mem _ (List.mem_append_left _ (List.mem_append_right _ h))
set_option maxHeartbeats 4000000 in
set_option maxRecDepth 100000 in
theorem wk_X1_rule_0 {p : Program} {l : Launch} {e : Env} {s : State} {m : MethodId} {args : Array Value} {below : List Frame} {meth : Method} {c : Code} {D : va_G} {cc : Nat → ClassId} {ad : Nat → Nat} {A : Nat → Prop} {Post : Int32 → XS → Prop} {g : CS} (C0 : Cx p s m args meth c cX1_rule 4 (some .int) RX1 wsX1_rule D cc A) (hd : DA 45 ad A) (σ : XS) (x1 : Int32) (x2 : Int32) (x3 : Int32) (h : wp_X1_rule g Post σ x1 x2 x3) : At_ p l e { frames := 5, cells := 0, slots := 0, locals := 113 } s m args below meth c (Qi_ below D (XW cc ad) A args s Post) D A (XW cc ad σ) 4 0 [(0, .ref (ad 0)), (1, .int x1), (2, .int x2), (3, .int x3)] [] := by
  obtain ⟨hx, hb, hml, hr, hown, hts, hlocks, hK, hA, hX⟩ := id C0
  have hin := hin_X1_rule
  intro H locs ls hP hS hl
  unfold wp_X1_rule at h
  refine lv_aload_n hx hb dX1_rule_0 rfl (lv_at hl 0 rfl) ?_
  refine lv_iload_n hx hb dX1_rule_1 rfl (lv_at hl 1 rfl) ?_
  refine call_v (Wd := XW cc ad) (σ := σ) C0 hd lens_id (As := [.int x1]) (rest := []) (ct_X1_isKind l D cc ad ⟨hd.1, fun _ _ => trivial⟩ g σ x1) (cwV 1 hts gX1_rule_X1_isKind rfl rfl rfl (by decide +kernel) ⟨Nat.le_of_ble_eq_true rfl, Nat.le_of_ble_eq_true rfl⟩) (va_recv hK hP (ci := 1) (q0 := 0) rfl rfl) hP hS rfl hl.1 rfl (by simp [Value.category]) dX1_rule_2 (fun r1 u hp H locs hP hS => ?_)
  obtain ⟨hp1, hp2⟩ := hp
  subst hp1
  have hp2 := hp2.symm
  subst hp2
  have hP : va_P D vwCl (XW cc ad σ) H := hP
  refine lv_if_ne (tgt := 10) hx hb dX1_rule_5 (by decide) (fun c2 => ?_) (fun c2 => ?_)
  · have h := h.1 c2
    refine lv_iload_n hx hb dX1_rule_10 rfl (lv_at hl 2 rfl) ?_
    refine lv_iload_n hx hb dX1_rule_11 rfl (lv_at hl 3 rfl) ?_
    refine call_s (Wd := XW cc ad) (σ := σ) C0 hd (lens_un (adc := ad)) (As := [.int x2, .int x3]) (rest := []) (ct_X0_isRule l D cc ad da0 x2 x3) (va_cwS 2 hts gX1_rule_X0_isRule rfl rfl rfl (by decide +kernel) ⟨Nat.le_of_ble_eq_true rfl, Nat.le_of_ble_eq_true rfl⟩) hP hS rfl hl.1 rfl (by simp [Value.category]) dX1_rule_12 (fun r3 u hp H locs hP hS => ?_)
    obtain ⟨hp1, hp2⟩ := hp
    subst hp1
    have hP : va_P D vwCl (XW cc ad σ) H := hP
    refine lv_if_ne (tgt := 21) hx hb dX1_rule_15 (by decide) (fun c4 => ?_) (fun c4 => ?_)
    · have h := h.1 c4
      refine lv_aload_n hx hb dX1_rule_21 rfl (lv_at hl 0 rfl) ?_
      refine va_get (D := D) (ci := 1) (v := .ref (ad 1)) (C := RX1) (T := TX1) (N := 12) hx hb hts hin hown hK hP 0 rfl rfl 0 (by decide) (hts (.fieldLink RX1 11 "ClassSheets" "kinds" "[LClassSheets$Kind;") (List.mem_of_getElem? (i := 1) rfl)) (fun _ h9 => h9) rfl dX1_rule_22 ?_
      refine lv_iload_n hx hb dX1_rule_25 rfl (lv_at hl 1 rfl) ?_
      obtain ⟨gk5, h⟩ := h
      refine ld_kind C0 hP gk5 dX1_rule_26 ?_
      refine lv_iload_n hx hb dX1_rule_27 rfl (lv_at hl 2 rfl) ?_
      refine lv_iload_n hx hb dX1_rule_28 rfl (lv_at hl 3 rfl) ?_
      obtain ⟨gp6, h⟩ := h
      refine call_v (Wd := XW cc ad) (σ := σ) C0 hd (lens_k (vin_lt gk5)) (As := [.int x2, .int x3]) (rest := []) (ct_X0_setRule l D cc (ka ad (x1.toNatClampNeg)) (da_ka hd (vin_lt gk5)) (cq g (x1.toNatClampNeg)) (xs_ki σ (x1.toNatClampNeg)) x2 x3 gp6) (cwV 2 hts gX1_rule_X0_setRule rfl rfl rfl (by decide +kernel) ⟨Nat.le_of_ble_eq_true rfl, Nat.le_of_ble_eq_true rfl⟩) (va_recv hK ((lens_k (D := D) (cc := cc) (ad := ad) (σ := σ) (vin_lt gk5)).1 H hP) (ci := 0) (q0 := 0) rfl rfl) hP hS rfl hl.1 rfl (by simp [Value.category]) dX1_rule_29 (fun r7 u8 hp H locs hP hS => ?_)
      have h := h r7 u8 hp
      have hP : va_P D vwCl (XW cc ad (xs_sk σ (x1.toNatClampNeg) u8)) H := hP
      exact ret_i (Wd := XW cc ad) (u := (xs_sk σ (x1.toNatClampNeg) u8)) C0 h hP hS dX1_rule_32
    · have h := h.2 c4
      refine lv_bipush (v := (-2)) hx hb dX1_rule_18 (by decide) ?_
      exact ret_i (Wd := XW cc ad) (u := σ) C0 h hP hS dX1_rule_20
  · have h := h.2 c2
    refine lv_iconst (v := (-1)) hx hb dX1_rule_8 (by decide) ?_
    exact ret_i (Wd := XW cc ad) (u := σ) C0 h hP hS dX1_rule_9
theorem ct_X1_rule (l : Launch) (D : va_G) (cc : Nat → ClassId) (ad : Nat → Nat) (hd : DA 45 ad (fun _ => True)) (g : CS) (σ : XS) (x1 : Int32) (x2 : Int32) (x3 : Int32) (hp : pr_X1_rule g σ x1 x2 x3) : Ctr l yX1_rule wsX1_rule { frames := 5, cells := 0, slots := 0, locals := 113 } D cc (XW cc ad) 45 ad σ [.ref (ad 0), .int x1, .int x2, .int x3] (po_X1_rule g σ x1 x2 x3) :=
  ctr_i (rt := (some .int)) (by decide +kernel) rfl hd (Nat.le_of_ble_eq_true rfl) (fun p e s m below meth c A C0 hd => wk_X1_rule_0 C0 hd σ x1 x2 x3 (pu_X1_rule g σ x1 x2 x3 hp))
theorem hin_X1_variants : ∀ w ∈ u_ws RX1 TX1 12, w ∈ wsX1_variants := fun w h => List.mem_cons_of_mem _ (List.mem_append_left _ (List.mem_append_right _ h))
set_option maxHeartbeats 4000000 in
set_option maxRecDepth 100000 in
theorem wk_X1_variants_0 {p : Program} {l : Launch} {e : Env} {s : State} {m : MethodId} {args : Array Value} {below : List Frame} {meth : Method} {c : Code} {D : va_G} {cc : Nat → ClassId} {ad : Nat → Nat} {A : Nat → Prop} {Post : Int32 → XS → Prop} {g : CS} (C0 : Cx p s m args meth c cX1_variants 2 (some .int) RX1 wsX1_variants D cc A) (hd : DA 45 ad A) (σ : XS) (x1 : Int32) (h : wp_X1_variants g Post σ x1) : At_ p l e { frames := 1, cells := 0, slots := 0, locals := 21 } s m args below meth c (Qi_ below D (XW cc ad) A args s Post) D A (XW cc ad σ) 2 0 [(0, .ref (ad 0)), (1, .int x1)] [] := by
  obtain ⟨hx, hb, hml, hr, hown, hts, hlocks, hK, hA, hX⟩ := id C0
  have hin := hin_X1_variants
  intro H locs ls hP hS hl
  unfold wp_X1_variants at h
  refine lv_aload_n hx hb dX1_variants_0 rfl (lv_at hl 0 rfl) ?_
  refine lv_iload_n hx hb dX1_variants_1 rfl (lv_at hl 1 rfl) ?_
  refine call_v (Wd := XW cc ad) (σ := σ) C0 hd lens_id (As := [.int x1]) (rest := []) (ct_X1_isKind l D cc ad ⟨hd.1, fun _ _ => trivial⟩ g σ x1) (cwV 1 hts gX1_variants_X1_isKind rfl rfl rfl (by decide +kernel) ⟨Nat.le_of_ble_eq_true rfl, Nat.le_of_ble_eq_true rfl⟩) (va_recv hK hP (ci := 1) (q0 := 0) rfl rfl) hP hS rfl hl.1 rfl (by simp [Value.category]) dX1_variants_2 (fun r1 u hp H locs hP hS => ?_)
  obtain ⟨hp1, hp2⟩ := hp
  subst hp1
  have hp2 := hp2.symm
  subst hp2
  have hP : va_P D vwCl (XW cc ad σ) H := hP
  refine lv_if_eq (tgt := 20) hx hb dX1_variants_5 (by decide) (fun c2 => ?_) (fun c2 => ?_)
  · have h := h.1 c2
    refine lv_iconst (v := (-1)) hx hb dX1_variants_20 (by decide) ?_
    exact ret_i (Wd := XW cc ad) (u := σ) C0 h hP hS dX1_variants_21
  · have h := h.2 c2
    refine lv_aload_n hx hb dX1_variants_8 rfl (lv_at hl 0 rfl) ?_
    refine va_get (D := D) (ci := 1) (v := .ref (ad 1)) (C := RX1) (T := TX1) (N := 12) hx hb hts hin hown hK hP 0 rfl rfl 0 (by decide) (hts (.fieldLink RX1 11 "ClassSheets" "kinds" "[LClassSheets$Kind;") (List.mem_of_getElem? (i := 1) rfl)) (fun _ h9 => h9) rfl dX1_variants_9 ?_
    refine lv_iload_n hx hb dX1_variants_12 rfl (lv_at hl 1 rfl) ?_
    obtain ⟨gk3, h⟩ := h
    refine ld_kind C0 hP gk3 dX1_variants_13 ?_
    refine call_v (Wd := XW cc ad) (σ := σ) C0 hd (lens_k (vin_lt gk3)) (As := []) (rest := []) (ct_X0_size l D cc (ka ad (x1.toNatClampNeg)) (da_ka hd (vin_lt gk3)) (cq g (x1.toNatClampNeg)) (xs_ki σ (x1.toNatClampNeg))) (cwV 0 hts gX1_variants_X0_size rfl rfl rfl (by decide +kernel) ⟨Nat.le_of_ble_eq_true rfl, Nat.le_of_ble_eq_true rfl⟩) (va_recv hK ((lens_k (D := D) (cc := cc) (ad := ad) (σ := σ) (vin_lt gk3)).1 H hP) (ci := 0) (q0 := 0) rfl rfl) hP hS rfl hl.1 rfl (by simp [Value.category]) dX1_variants_14 (fun r4 u hp H locs hP hS => ?_)
    obtain ⟨hp1, hp2⟩ := hp
    subst hp1
    have hp2 := hp2.symm
    subst hp2
    rw [xs_self] at hP
    have hP : va_P D vwCl (XW cc ad σ) H := hP
    refine lv_goto (tgt := 21) hx hb dX1_variants_17 (by decide) ?_
    exact ret_i (Wd := XW cc ad) (u := σ) C0 h hP hS dX1_variants_21
theorem ct_X1_variants (l : Launch) (D : va_G) (cc : Nat → ClassId) (ad : Nat → Nat) (hd : DA 45 ad (fun _ => True)) (g : CS) (σ : XS) (x1 : Int32) (hp : pr_X1_variants g σ x1) : Ctr l yX1_variants wsX1_variants { frames := 1, cells := 0, slots := 0, locals := 21 } D cc (XW cc ad) 45 ad σ [.ref (ad 0), .int x1] (fun r u => r = fn_X1_variants g σ x1 ∧ u = σ) :=
  ctr_i (rt := (some .int)) (by decide +kernel) rfl hd (Nat.le_of_ble_eq_true rfl) (fun p e s m below meth c A C0 hd => wk_X1_variants_0 C0 hd σ x1 (pu_X1_variants g σ x1 hp))
theorem hin_X1_variant : ∀ w ∈ u_ws RX1 TX1 12, w ∈ wsX1_variant := fun w h => List.mem_cons_of_mem _ (List.mem_append_left _ (List.mem_append_right _ h))
set_option maxHeartbeats 4000000 in
set_option maxRecDepth 100000 in
theorem wk_X1_variant_0 {p : Program} {l : Launch} {e : Env} {s : State} {m : MethodId} {args : Array Value} {below : List Frame} {meth : Method} {c : Code} {D : va_G} {cc : Nat → ClassId} {ad : Nat → Nat} {A : Nat → Prop} {Post : Int32 → XS → Prop} {g : CS} (C0 : Cx p s m args meth c cX1_variant 7 (some .int) RX1 wsX1_variant D cc A) (hd : DA 45 ad A) (σ : XS) (x1 : Int32) (x2 : Int32) (x3 : Int32) (h : wp_X1_variant g Post σ x1 x2 x3) : At_ p l e { frames := 3, cells := 0, slots := 0, locals := 69 } s m args below meth c (Qi_ below D (XW cc ad) A args s Post) D A (XW cc ad σ) 7 0 [(0, .ref (ad 0)), (1, .int x1), (2, .int x2), (3, .int x3)] [] := by
  obtain ⟨hx, hb, hml, hr, hown, hts, hlocks, hK, hA, hX⟩ := id C0
  have hin := hin_X1_variant
  intro H locs ls hP hS hl
  unfold wp_X1_variant at h
  refine lv_aload_n hx hb dX1_variant_0 rfl (lv_at hl 0 rfl) ?_
  refine lv_iload_n hx hb dX1_variant_1 rfl (lv_at hl 1 rfl) ?_
  refine lv_iload_n hx hb dX1_variant_2 rfl (lv_at hl 2 rfl) ?_
  obtain ⟨gp1, h⟩ := h
  refine call_v (Wd := XW cc ad) (σ := σ) C0 hd lens_id (As := [.int x1, .int x2]) (rest := []) (ct_X1_isVariant l D cc ad ⟨hd.1, fun _ _ => trivial⟩ g σ x1 x2 gp1) (cwV 2 hts gX1_variant_X1_isVariant rfl rfl rfl (by decide +kernel) ⟨Nat.le_of_ble_eq_true rfl, Nat.le_of_ble_eq_true rfl⟩) (va_recv hK hP (ci := 1) (q0 := 0) rfl rfl) hP hS rfl hl.1 rfl (by simp [Value.category]) dX1_variant_3 (fun r2 u hp H locs hP hS => ?_)
  obtain ⟨hp1, hp2⟩ := hp
  subst hp1
  have hp2 := hp2.symm
  subst hp2
  have hP : va_P D vwCl (XW cc ad σ) H := hP
  refine lv_if_ne (tgt := 11) hx hb dX1_variant_6 (by decide) (fun c3 => ?_) (fun c3 => ?_)
  · have h := h.1 c3
    refine lv_aload_n hx hb dX1_variant_11 rfl (lv_at hl 0 rfl) ?_
    refine va_get (D := D) (ci := 1) (v := .ref (ad 1)) (C := RX1) (T := TX1) (N := 12) hx hb hts hin hown hK hP 0 rfl rfl 0 (by decide) (hts (.fieldLink RX1 11 "ClassSheets" "kinds" "[LClassSheets$Kind;") (List.mem_of_getElem? (i := 1) rfl)) (fun _ h9 => h9) rfl dX1_variant_12 ?_
    refine lv_iload_n hx hb dX1_variant_15 rfl (lv_at hl 1 rfl) ?_
    obtain ⟨gk4, h⟩ := h
    refine ld_kind C0 hP gk4 dX1_variant_16 ?_
    refine lv_iload_n hx hb dX1_variant_17 rfl (lv_at hl 2 rfl) ?_
    obtain ⟨gp5, h⟩ := h
    refine call_v (Wd := XW cc ad) (σ := σ) C0 hd (lens_k (vin_lt gk4)) (As := [.int x2]) (rest := []) (ct_X0_pairAt l D cc (ka ad (x1.toNatClampNeg)) (da_ka hd (vin_lt gk4)) (cq g (x1.toNatClampNeg)) (xs_ki σ (x1.toNatClampNeg)) x2 gp5) (cwV 1 hts gX1_variant_X0_pairAt rfl rfl rfl (by decide +kernel) ⟨Nat.le_of_ble_eq_true rfl, Nat.le_of_ble_eq_true rfl⟩) (va_recv hK ((lens_k (D := D) (cc := cc) (ad := ad) (σ := σ) (vin_lt gk4)).1 H hP) (ci := 0) (q0 := 0) rfl rfl) hP hS rfl hl.1 rfl (by simp [Value.category]) dX1_variant_18 (fun r6 u hp H locs hP hS => ?_)
    obtain ⟨hp1, hp2⟩ := hp
    subst hp1
    have hp2 := hp2.symm
    subst hp2
    rw [xs_self] at hP
    have hP : va_P D vwCl (XW cc ad σ) H := hP
    refine lv_topi (fun x4_7 ex4_7 => ?_)
    have h := h x4_7 ex4_7
    refine lv_istore (lv' := [(4, .int x4_7), (0, .ref (ad 0)), (1, .int x1), (2, .int x2), (3, .int x3)]) hx hb dX1_variant_21 hl (by decide) rfl (fun ls hl => ?_)
    refine lv_iload hx hb dX1_variant_23 (lv_at hl 0 rfl) ?_
    refine lv_bipush (v := 100) hx hb dX1_variant_25 (by decide) ?_
    refine lv_idiv hx hb dX1_variant_27 (by decide) ?_
    refine lv_topi (fun x5_8 ex5_8 => ?_)
    have h := h x5_8 ex5_8
    refine lv_istore (lv' := [(5, .int x5_8), (4, .int x4_7), (0, .ref (ad 0)), (1, .int x1), (2, .int x2), (3, .int x3)]) hx hb dX1_variant_28 hl (by decide) rfl (fun ls hl => ?_)
    refine lv_iload hx hb dX1_variant_30 (lv_at hl 1 rfl) ?_
    refine lv_bipush (v := 100) hx hb dX1_variant_32 (by decide) ?_
    refine lv_irem hx hb dX1_variant_34 (by decide) ?_
    refine lv_topi (fun x6_9 ex6_9 => ?_)
    have h := h x6_9 ex6_9
    refine lv_istore (lv' := [(6, .int x6_9), (5, .int x5_8), (4, .int x4_7), (0, .ref (ad 0)), (1, .int x1), (2, .int x2), (3, .int x3)]) hx hb dX1_variant_35 hl (by decide) rfl (fun ls hl => ?_)
    refine lv_iload_n hx hb dX1_variant_37 rfl (lv_at hl 6 rfl) ?_
    rcases Classical.em (x3 = 0) with c10 | c10
    · have h := h.1 c10
      refine lv_tableIn (off := 30) (tgt := 68) hx hb dX1_variant_38 (by rw [c10]; decide) (by rw [c10]; decide) (by rw [c10]; decide) (by decide) ?_
      refine lv_iload hx hb dX1_variant_68 (lv_at hl 1 rfl) ?_
      exact ret_i (Wd := XW cc ad) (u := σ) C0 h hP hS dX1_variant_70
    · have h := h.2 c10
      rcases Classical.em (x3 = 1) with c11 | c11
      · have h := h.1 c11
        refine lv_tableIn (off := 33) (tgt := 71) hx hb dX1_variant_38 (by rw [c11]; decide) (by rw [c11]; decide) (by rw [c11]; decide) (by decide) ?_
        refine lv_iload hx hb dX1_variant_71 (lv_at hl 0 rfl) ?_
        exact ret_i (Wd := XW cc ad) (u := σ) C0 h hP hS dX1_variant_73
      · have h := h.2 c11
        rcases Classical.em (x3 = 2) with c12 | c12
        · have h := h.1 c12
          refine lv_tableIn (off := 36) (tgt := 74) hx hb dX1_variant_38 (by rw [c12]; decide) (by rw [c12]; decide) (by rw [c12]; decide) (by decide) ?_
          refine lv_aload_n hx hb dX1_variant_74 rfl (lv_at hl 3 rfl) ?_
          refine va_get (D := D) (ci := 1) (v := .ref (ad 1)) (C := RX1) (T := TX1) (N := 12) hx hb hts hin hown hK hP 0 rfl rfl 0 (by decide) (hts (.fieldLink RX1 11 "ClassSheets" "kinds" "[LClassSheets$Kind;") (List.mem_of_getElem? (i := 1) rfl)) (fun _ h9 => h9) rfl dX1_variant_75 ?_
          refine lv_iload_n hx hb dX1_variant_78 rfl (lv_at hl 4 rfl) ?_
          obtain ⟨gk13, h⟩ := h
          refine ld_kind C0 hP gk13 dX1_variant_79 ?_
          refine lv_iload hx hb dX1_variant_80 (lv_at hl 1 rfl) ?_
          refine lv_iload hx hb dX1_variant_82 (lv_at hl 0 rfl) ?_
          refine call_v (Wd := XW cc ad) (σ := σ) C0 hd (lens_k (vin_lt gk13)) (As := [.int x5_8, .int x6_9]) (rest := []) (ct_X0_result l D cc (ka ad (x1.toNatClampNeg)) (da_ka hd (vin_lt gk13)) (cq g (x1.toNatClampNeg)) (xs_ki σ (x1.toNatClampNeg)) x5_8 x6_9) (cwV 2 hts gX1_variant_X0_result rfl rfl rfl (by decide +kernel) ⟨Nat.le_of_ble_eq_true rfl, Nat.le_of_ble_eq_true rfl⟩) (va_recv hK ((lens_k (D := D) (cc := cc) (ad := ad) (σ := σ) (vin_lt gk13)).1 H hP) (ci := 0) (q0 := 0) rfl rfl) hP hS rfl hl.1 rfl (by simp [Value.category]) dX1_variant_84 (fun r14 u hp H locs hP hS => ?_)
          obtain ⟨hp1, hp2⟩ := hp
          subst hp1
          have hp2 := hp2.symm
          subst hp2
          rw [xs_self] at hP
          have hP : va_P D vwCl (XW cc ad σ) H := hP
          exact ret_i (Wd := XW cc ad) (u := σ) C0 h hP hS dX1_variant_87
        · have h := h.2 c12
          rcases Classical.em (x3 = 3) with c15 | c15
          · have h := h.1 c15
            refine lv_tableIn (off := 50) (tgt := 88) hx hb dX1_variant_38 (by rw [c15]; decide) (by rw [c15]; decide) (by rw [c15]; decide) (by decide) ?_
            refine lv_aload_n hx hb dX1_variant_88 rfl (lv_at hl 3 rfl) ?_
            refine va_get (D := D) (ci := 1) (v := .ref (ad 1)) (C := RX1) (T := TX1) (N := 12) hx hb hts hin hown hK hP 0 rfl rfl 0 (by decide) (hts (.fieldLink RX1 11 "ClassSheets" "kinds" "[LClassSheets$Kind;") (List.mem_of_getElem? (i := 1) rfl)) (fun _ h9 => h9) rfl dX1_variant_89 ?_
            refine lv_iload_n hx hb dX1_variant_92 rfl (lv_at hl 4 rfl) ?_
            obtain ⟨gk16, h⟩ := h
            refine ld_kind C0 hP gk16 dX1_variant_93 ?_
            refine lv_iload hx hb dX1_variant_94 (lv_at hl 1 rfl) ?_
            refine lv_iload hx hb dX1_variant_96 (lv_at hl 0 rfl) ?_
            refine call_v (Wd := XW cc ad) (σ := σ) C0 hd (lens_k (vin_lt gk16)) (As := [.int x5_8, .int x6_9]) (rest := []) (ct_X0_carries l D cc (ka ad (x1.toNatClampNeg)) (da_ka hd (vin_lt gk16)) (cq g (x1.toNatClampNeg)) (xs_ki σ (x1.toNatClampNeg)) x5_8 x6_9) (cwV 2 hts gX1_variant_X0_carries rfl rfl rfl (by decide +kernel) ⟨Nat.le_of_ble_eq_true rfl, Nat.le_of_ble_eq_true rfl⟩) (va_recv hK ((lens_k (D := D) (cc := cc) (ad := ad) (σ := σ) (vin_lt gk16)).1 H hP) (ci := 0) (q0 := 0) rfl rfl) hP hS rfl hl.1 rfl (by simp [Value.category]) dX1_variant_98 (fun r17 u hp H locs hP hS => ?_)
            obtain ⟨hp1, hp2⟩ := hp
            subst hp1
            have hp2 := hp2.symm
            subst hp2
            rw [xs_self] at hP
            have hP : va_P D vwCl (XW cc ad σ) H := hP
            refine lv_if_eq (tgt := 108) hx hb dX1_variant_101 (by decide) (fun c18 => ?_) (fun c18 => ?_)
            · have h := h.1 c18
              refine lv_iconst (v := 0) hx hb dX1_variant_108 (by decide) ?_
              exact ret_i (Wd := XW cc ad) (u := σ) C0 h hP hS dX1_variant_109
            · have h := h.2 c18
              refine lv_iconst (v := 1) hx hb dX1_variant_104 (by decide) ?_
              refine lv_goto (tgt := 109) hx hb dX1_variant_105 (by decide) ?_
              exact ret_i (Wd := XW cc ad) (u := σ) C0 h hP hS dX1_variant_109
          · have h := h.2 c15
            refine lv_tableOut (tgt := 110) hx hb dX1_variant_38 (by have qc10 := lv_neT (a := 0) c10 (by decide); have qc11 := lv_neT (a := 1) c11 (by decide); have qc12 := lv_neT (a := 2) c12 (by decide); have qc15 := lv_neT (a := 3) c15 (by decide); omega) (by decide) ?_
            refine lv_bipush (v := (-2)) hx hb dX1_variant_110 (by decide) ?_
            exact ret_i (Wd := XW cc ad) (u := σ) C0 h hP hS dX1_variant_112
  · have h := h.2 c3
    refine lv_iconst (v := (-1)) hx hb dX1_variant_9 (by decide) ?_
    exact ret_i (Wd := XW cc ad) (u := σ) C0 h hP hS dX1_variant_10
theorem ct_X1_variant (l : Launch) (D : va_G) (cc : Nat → ClassId) (ad : Nat → Nat) (hd : DA 45 ad (fun _ => True)) (g : CS) (σ : XS) (x1 : Int32) (x2 : Int32) (x3 : Int32) (hp : pr_X1_variant g σ x1 x2 x3) : Ctr l yX1_variant wsX1_variant { frames := 3, cells := 0, slots := 0, locals := 69 } D cc (XW cc ad) 45 ad σ [.ref (ad 0), .int x1, .int x2, .int x3] (fun r u => r = fn_X1_variant g σ x1 x2 x3 ∧ u = σ) :=
  ctr_i (rt := (some .int)) (by decide +kernel) rfl hd (Nat.le_of_ble_eq_true rfl) (fun p e s m below meth c A C0 hd => wk_X1_variant_0 C0 hd σ x1 x2 x3 (pu_X1_variant g σ x1 x2 x3 hp))
theorem hin_X1_find : ∀ w ∈ u_ws RX1 TX1 12, w ∈ wsX1_find := fun w h => List.mem_cons_of_mem _ (List.mem_append_left _ (List.mem_append_right _ h))
set_option maxHeartbeats 4000000 in
set_option maxRecDepth 100000 in
theorem wk_X1_find_0 {p : Program} {l : Launch} {e : Env} {s : State} {m : MethodId} {args : Array Value} {below : List Frame} {meth : Method} {c : Code} {D : va_G} {cc : Nat → ClassId} {ad : Nat → Nat} {A : Nat → Prop} {Post : Int32 → XS → Prop} {g : CS} (C0 : Cx p s m args meth c cX1_find 4 (some .int) RX1 wsX1_find D cc A) (hd : DA 45 ad A) (σ : XS) (x1 : Int32) (x2 : Int32) (x3 : Int32) (h : wp_X1_find g Post σ x1 x2 x3) : At_ p l e { frames := 4, cells := 0, slots := 0, locals := 92 } s m args below meth c (Qi_ below D (XW cc ad) A args s Post) D A (XW cc ad σ) 4 0 [(0, .ref (ad 0)), (1, .int x1), (2, .int x2), (3, .int x3)] [] := by
  obtain ⟨hx, hb, hml, hr, hown, hts, hlocks, hK, hA, hX⟩ := id C0
  have hin := hin_X1_find
  intro H locs ls hP hS hl
  unfold wp_X1_find at h
  refine lv_aload_n hx hb dX1_find_0 rfl (lv_at hl 0 rfl) ?_
  refine lv_iload_n hx hb dX1_find_1 rfl (lv_at hl 1 rfl) ?_
  refine call_v (Wd := XW cc ad) (σ := σ) C0 hd lens_id (As := [.int x1]) (rest := []) (ct_X1_isKind l D cc ad ⟨hd.1, fun _ _ => trivial⟩ g σ x1) (cwV 1 hts gX1_find_X1_isKind rfl rfl rfl (by decide +kernel) ⟨Nat.le_of_ble_eq_true rfl, Nat.le_of_ble_eq_true rfl⟩) (va_recv hK hP (ci := 1) (q0 := 0) rfl rfl) hP hS rfl hl.1 rfl (by simp [Value.category]) dX1_find_2 (fun r1 u hp H locs hP hS => ?_)
  obtain ⟨hp1, hp2⟩ := hp
  subst hp1
  have hp2 := hp2.symm
  subst hp2
  have hP : va_P D vwCl (XW cc ad σ) H := hP
  refine lv_if_eq (tgt := 22) hx hb dX1_find_5 (by decide) (fun c2 => ?_) (fun c2 => ?_)
  · have h := h.1 c2
    refine lv_iconst (v := (-1)) hx hb dX1_find_22 (by decide) ?_
    exact ret_i (Wd := XW cc ad) (u := σ) C0 h hP hS dX1_find_23
  · have h := h.2 c2
    refine lv_aload_n hx hb dX1_find_8 rfl (lv_at hl 0 rfl) ?_
    refine va_get (D := D) (ci := 1) (v := .ref (ad 1)) (C := RX1) (T := TX1) (N := 12) hx hb hts hin hown hK hP 0 rfl rfl 0 (by decide) (hts (.fieldLink RX1 11 "ClassSheets" "kinds" "[LClassSheets$Kind;") (List.mem_of_getElem? (i := 1) rfl)) (fun _ h9 => h9) rfl dX1_find_9 ?_
    refine lv_iload_n hx hb dX1_find_12 rfl (lv_at hl 1 rfl) ?_
    obtain ⟨gk3, h⟩ := h
    refine ld_kind C0 hP gk3 dX1_find_13 ?_
    refine lv_iload_n hx hb dX1_find_14 rfl (lv_at hl 2 rfl) ?_
    refine lv_iload_n hx hb dX1_find_15 rfl (lv_at hl 3 rfl) ?_
    obtain ⟨gp4, h⟩ := h
    refine call_v (Wd := XW cc ad) (σ := σ) C0 hd (lens_k (vin_lt gk3)) (As := [.int x2, .int x3]) (rest := []) (ct_X0_numberOf l D cc (ka ad (x1.toNatClampNeg)) (da_ka hd (vin_lt gk3)) (cq g (x1.toNatClampNeg)) (xs_ki σ (x1.toNatClampNeg)) x2 x3 gp4) (cwV 2 hts gX1_find_X0_numberOf rfl rfl rfl (by decide +kernel) ⟨Nat.le_of_ble_eq_true rfl, Nat.le_of_ble_eq_true rfl⟩) (va_recv hK ((lens_k (D := D) (cc := cc) (ad := ad) (σ := σ) (vin_lt gk3)).1 H hP) (ci := 0) (q0 := 0) rfl rfl) hP hS rfl hl.1 rfl (by simp [Value.category]) dX1_find_16 (fun r5 u hp H locs hP hS => ?_)
    obtain ⟨hp1, hp2⟩ := hp
    subst hp1
    have hp2 := hp2.symm
    subst hp2
    rw [xs_self] at hP
    have hP : va_P D vwCl (XW cc ad σ) H := hP
    refine lv_goto (tgt := 23) hx hb dX1_find_19 (by decide) ?_
    exact ret_i (Wd := XW cc ad) (u := σ) C0 h hP hS dX1_find_23
theorem ct_X1_find (l : Launch) (D : va_G) (cc : Nat → ClassId) (ad : Nat → Nat) (hd : DA 45 ad (fun _ => True)) (g : CS) (σ : XS) (x1 : Int32) (x2 : Int32) (x3 : Int32) (hp : pr_X1_find g σ x1 x2 x3) : Ctr l yX1_find wsX1_find { frames := 4, cells := 0, slots := 0, locals := 92 } D cc (XW cc ad) 45 ad σ [.ref (ad 0), .int x1, .int x2, .int x3] (fun r u => r = fn_X1_find g σ x1 x2 x3 ∧ u = σ) :=
  ctr_i (rt := (some .int)) (by decide +kernel) rfl hd (Nat.le_of_ble_eq_true rfl) (fun p e s m below meth c A C0 hd => wk_X1_find_0 C0 hd σ x1 x2 x3 (pu_X1_find g σ x1 x2 x3 hp))
theorem hin_X1_slip : ∀ w ∈ u_ws RX1 TX1 12, w ∈ wsX1_slip := fun w h => List.mem_cons_of_mem _ (List.mem_append_left _ (List.mem_append_right _ h))
set_option maxHeartbeats 4000000 in
set_option maxRecDepth 100000 in
theorem wk_X1_slip_0 {p : Program} {l : Launch} {e : Env} {s : State} {m : MethodId} {args : Array Value} {below : List Frame} {meth : Method} {c : Code} {D : va_G} {cc : Nat → ClassId} {ad : Nat → Nat} {A : Nat → Prop} {Post : Int32 → XS → Prop} {g : CS} (C0 : Cx p s m args meth c cX1_slip 5 (some .int) RX1 wsX1_slip D cc A) (hd : DA 45 ad A) (σ : XS) (x1 : Int32) (x2 : Int32) (x3 : Int32) (h : wp_X1_slip g Post σ x1 x2 x3) : At_ p l e { frames := 3, cells := 0, slots := 0, locals := 69 } s m args below meth c (Qi_ below D (XW cc ad) A args s Post) D A (XW cc ad σ) 5 0 [(0, .ref (ad 0)), (1, .int x1), (2, .int x2), (3, .int x3)] [] := by
  obtain ⟨hx, hb, hml, hr, hown, hts, hlocks, hK, hA, hX⟩ := id C0
  have hin := hin_X1_slip
  intro H locs ls hP hS hl
  unfold wp_X1_slip at h
  refine lv_aload_n hx hb dX1_slip_0 rfl (lv_at hl 0 rfl) ?_
  refine lv_iload_n hx hb dX1_slip_1 rfl (lv_at hl 1 rfl) ?_
  refine lv_iload_n hx hb dX1_slip_2 rfl (lv_at hl 2 rfl) ?_
  obtain ⟨gp1, h⟩ := h
  refine call_v (Wd := XW cc ad) (σ := σ) C0 hd lens_id (As := [.int x1, .int x2]) (rest := []) (ct_X1_isVariant l D cc ad ⟨hd.1, fun _ _ => trivial⟩ g σ x1 x2 gp1) (cwV 2 hts gX1_slip_X1_isVariant rfl rfl rfl (by decide +kernel) ⟨Nat.le_of_ble_eq_true rfl, Nat.le_of_ble_eq_true rfl⟩) (va_recv hK hP (ci := 1) (q0 := 0) rfl rfl) hP hS rfl hl.1 rfl (by simp [Value.category]) dX1_slip_3 (fun r2 u hp H locs hP hS => ?_)
  obtain ⟨hp1, hp2⟩ := hp
  subst hp1
  have hp2 := hp2.symm
  subst hp2
  have hP : va_P D vwCl (XW cc ad σ) H := hP
  refine lv_if_ne (tgt := 11) hx hb dX1_slip_6 (by decide) (fun c3 => ?_) (fun c3 => ?_)
  · have h := h.1 c3
    refine lv_iload_n hx hb dX1_slip_11 rfl (lv_at hl 3 rfl) ?_
    refine lv_iconst (v := 1) hx hb dX1_slip_12 (by decide) ?_
    refine lv_icmp_lt (tgt := 21) hx hb dX1_slip_13 (by decide) (fun c4 => ?_) (fun c4 => ?_)
    · have h := h.1 c4
      refine lv_bipush (v := (-2)) hx hb dX1_slip_21 (by decide) ?_
      exact ret_i (Wd := XW cc ad) (u := σ) C0 h hP hS dX1_slip_23
    · have h := h.2 c4
      refine lv_iload_n hx hb dX1_slip_16 rfl (lv_at hl 3 rfl) ?_
      refine lv_iconst (v := 5) hx hb dX1_slip_17 (by decide) ?_
      refine lv_icmp_le (tgt := 24) hx hb dX1_slip_18 (by decide) (fun c5 => ?_) (fun c5 => ?_)
      · have h := h.1 c5
        refine lv_aload_n hx hb dX1_slip_24 rfl (lv_at hl 0 rfl) ?_
        refine va_get (D := D) (ci := 1) (v := .ref (ad 1)) (C := RX1) (T := TX1) (N := 12) hx hb hts hin hown hK hP 0 rfl rfl 0 (by decide) (hts (.fieldLink RX1 11 "ClassSheets" "kinds" "[LClassSheets$Kind;") (List.mem_of_getElem? (i := 1) rfl)) (fun _ h9 => h9) rfl dX1_slip_25 ?_
        refine lv_iload_n hx hb dX1_slip_28 rfl (lv_at hl 1 rfl) ?_
        obtain ⟨gk6, h⟩ := h
        refine ld_kind C0 hP gk6 dX1_slip_29 ?_
        refine lv_iload_n hx hb dX1_slip_30 rfl (lv_at hl 2 rfl) ?_
        obtain ⟨gp7, h⟩ := h
        refine call_v (Wd := XW cc ad) (σ := σ) C0 hd (lens_k (vin_lt gk6)) (As := [.int x2]) (rest := []) (ct_X0_pairAt l D cc (ka ad (x1.toNatClampNeg)) (da_ka hd (vin_lt gk6)) (cq g (x1.toNatClampNeg)) (xs_ki σ (x1.toNatClampNeg)) x2 gp7) (cwV 1 hts gX1_slip_X0_pairAt rfl rfl rfl (by decide +kernel) ⟨Nat.le_of_ble_eq_true rfl, Nat.le_of_ble_eq_true rfl⟩) (va_recv hK ((lens_k (D := D) (cc := cc) (ad := ad) (σ := σ) (vin_lt gk6)).1 H hP) (ci := 0) (q0 := 0) rfl rfl) hP hS rfl hl.1 rfl (by simp [Value.category]) dX1_slip_31 (fun r8 u hp H locs hP hS => ?_)
        obtain ⟨hp1, hp2⟩ := hp
        subst hp1
        have hp2 := hp2.symm
        subst hp2
        rw [xs_self] at hP
        have hP : va_P D vwCl (XW cc ad σ) H := hP
        refine lv_topi (fun x4_9 ex4_9 => ?_)
        have h := h x4_9 ex4_9
        refine lv_istore (lv' := [(4, .int x4_9), (0, .ref (ad 0)), (1, .int x1), (2, .int x2), (3, .int x3)]) hx hb dX1_slip_34 hl (by decide) rfl (fun ls hl => ?_)
        refine lv_aload_n hx hb dX1_slip_36 rfl (lv_at hl 1 rfl) ?_
        refine va_get (D := D) (ci := 1) (v := .ref (ad 1)) (C := RX1) (T := TX1) (N := 12) hx hb hts hin hown hK hP 0 rfl rfl 0 (by decide) (hts (.fieldLink RX1 11 "ClassSheets" "kinds" "[LClassSheets$Kind;") (List.mem_of_getElem? (i := 1) rfl)) (fun _ h9 => h9) rfl dX1_slip_37 ?_
        refine lv_iload_n hx hb dX1_slip_40 rfl (lv_at hl 2 rfl) ?_
        obtain ⟨gk10, h⟩ := h
        refine ld_kind C0 hP gk10 dX1_slip_41 ?_
        refine lv_iload hx hb dX1_slip_42 (lv_at hl 0 rfl) ?_
        refine lv_bipush (v := 100) hx hb dX1_slip_44 (by decide) ?_
        refine lv_idiv hx hb dX1_slip_46 (by decide) ?_
        refine lv_iload hx hb dX1_slip_47 (lv_at hl 0 rfl) ?_
        refine lv_bipush (v := 100) hx hb dX1_slip_49 (by decide) ?_
        refine lv_irem hx hb dX1_slip_51 (by decide) ?_
        refine lv_iload_n hx hb dX1_slip_52 rfl (lv_at hl 4 rfl) ?_
        refine call_v (Wd := XW cc ad) (σ := σ) C0 hd (lens_k (vin_lt gk10)) (As := [.int (x4_9 / 100), .int (x4_9 - x4_9 / 100 * 100), .int x3]) (rest := []) (ct_X0_slipped l D cc (ka ad (x1.toNatClampNeg)) (da_ka hd (vin_lt gk10)) (cq g (x1.toNatClampNeg)) (xs_ki σ (x1.toNatClampNeg)) (x4_9 / 100) (x4_9 - x4_9 / 100 * 100) x3) (cwV 3 hts gX1_slip_X0_slipped rfl rfl rfl (by decide +kernel) ⟨Nat.le_of_ble_eq_true rfl, Nat.le_of_ble_eq_true rfl⟩) (va_recv hK ((lens_k (D := D) (cc := cc) (ad := ad) (σ := σ) (vin_lt gk10)).1 H hP) (ci := 0) (q0 := 0) rfl rfl) hP hS rfl hl.1 rfl (by simp [Value.category]) dX1_slip_53 (fun r11 u hp H locs hP hS => ?_)
        obtain ⟨hp1, hp2⟩ := hp
        subst hp1
        have hp2 := hp2.symm
        subst hp2
        rw [xs_self] at hP
        have hP : va_P D vwCl (XW cc ad σ) H := hP
        exact ret_i (Wd := XW cc ad) (u := σ) C0 h hP hS dX1_slip_56
      · have h := h.2 c5
        refine lv_bipush (v := (-2)) hx hb dX1_slip_21 (by decide) ?_
        exact ret_i (Wd := XW cc ad) (u := σ) C0 h hP hS dX1_slip_23
  · have h := h.2 c3
    refine lv_iconst (v := (-1)) hx hb dX1_slip_9 (by decide) ?_
    exact ret_i (Wd := XW cc ad) (u := σ) C0 h hP hS dX1_slip_10
theorem ct_X1_slip (l : Launch) (D : va_G) (cc : Nat → ClassId) (ad : Nat → Nat) (hd : DA 45 ad (fun _ => True)) (g : CS) (σ : XS) (x1 : Int32) (x2 : Int32) (x3 : Int32) (hp : pr_X1_slip g σ x1 x2 x3) : Ctr l yX1_slip wsX1_slip { frames := 3, cells := 0, slots := 0, locals := 69 } D cc (XW cc ad) 45 ad σ [.ref (ad 0), .int x1, .int x2, .int x3] (fun r u => r = fn_X1_slip g σ x1 x2 x3 ∧ u = σ) :=
  ctr_i (rt := (some .int)) (by decide +kernel) rfl hd (Nat.le_of_ble_eq_true rfl) (fun p e s m below meth c A C0 hd => wk_X1_slip_0 C0 hd σ x1 x2 x3 (pu_X1_slip g σ x1 x2 x3 hp))
theorem hin_X1_tells : ∀ w ∈ u_ws RX1 TX1 12, w ∈ wsX1_tells := fun w h => List.mem_cons_of_mem _ (List.mem_append_left _ (List.mem_append_right _ h))
set_option maxHeartbeats 4000000 in
set_option maxRecDepth 100000 in
theorem wk_X1_tells_0 {p : Program} {l : Launch} {e : Env} {s : State} {m : MethodId} {args : Array Value} {below : List Frame} {meth : Method} {c : Code} {D : va_G} {cc : Nat → ClassId} {ad : Nat → Nat} {A : Nat → Prop} {Post : Int32 → XS → Prop} {g : CS} (C0 : Cx p s m args meth c cX1_tells 4 (some .int) RX1 wsX1_tells D cc A) (hd : DA 45 ad A) (σ : XS) (x1 : Int32) (x2 : Int32) (x3 : Int32) (h : wp_X1_tells g Post σ x1 x2 x3) : At_ p l e { frames := 4, cells := 0, slots := 0, locals := 95 } s m args below meth c (Qi_ below D (XW cc ad) A args s Post) D A (XW cc ad σ) 4 0 [(0, .ref (ad 0)), (1, .int x1), (2, .int x2), (3, .int x3)] [] := by
  obtain ⟨hx, hb, hml, hr, hown, hts, hlocks, hK, hA, hX⟩ := id C0
  have hin := hin_X1_tells
  intro H locs ls hP hS hl
  unfold wp_X1_tells at h
  refine lv_aload_n hx hb dX1_tells_0 rfl (lv_at hl 0 rfl) ?_
  refine lv_iload_n hx hb dX1_tells_1 rfl (lv_at hl 1 rfl) ?_
  refine lv_iload_n hx hb dX1_tells_2 rfl (lv_at hl 2 rfl) ?_
  obtain ⟨gp1, h⟩ := h
  refine call_v (Wd := XW cc ad) (σ := σ) C0 hd lens_id (As := [.int x1, .int x2]) (rest := []) (ct_X1_isVariant l D cc ad ⟨hd.1, fun _ _ => trivial⟩ g σ x1 x2 gp1) (cwV 2 hts gX1_tells_X1_isVariant rfl rfl rfl (by decide +kernel) ⟨Nat.le_of_ble_eq_true rfl, Nat.le_of_ble_eq_true rfl⟩) (va_recv hK hP (ci := 1) (q0 := 0) rfl rfl) hP hS rfl hl.1 rfl (by simp [Value.category]) dX1_tells_3 (fun r2 u hp H locs hP hS => ?_)
  obtain ⟨hp1, hp2⟩ := hp
  subst hp1
  have hp2 := hp2.symm
  subst hp2
  have hP : va_P D vwCl (XW cc ad σ) H := hP
  refine lv_if_eq (tgt := 23) hx hb dX1_tells_6 (by decide) (fun c3 => ?_) (fun c3 => ?_)
  · have h := h.1 c3
    refine lv_iconst (v := (-1)) hx hb dX1_tells_23 (by decide) ?_
    exact ret_i (Wd := XW cc ad) (u := σ) C0 h hP hS dX1_tells_24
  · have h := h.2 c3
    refine lv_aload_n hx hb dX1_tells_9 rfl (lv_at hl 0 rfl) ?_
    refine va_get (D := D) (ci := 1) (v := .ref (ad 1)) (C := RX1) (T := TX1) (N := 12) hx hb hts hin hown hK hP 0 rfl rfl 0 (by decide) (hts (.fieldLink RX1 11 "ClassSheets" "kinds" "[LClassSheets$Kind;") (List.mem_of_getElem? (i := 1) rfl)) (fun _ h9 => h9) rfl dX1_tells_10 ?_
    refine lv_iload_n hx hb dX1_tells_13 rfl (lv_at hl 1 rfl) ?_
    obtain ⟨gk4, h⟩ := h
    refine ld_kind C0 hP gk4 dX1_tells_14 ?_
    refine lv_iload_n hx hb dX1_tells_15 rfl (lv_at hl 2 rfl) ?_
    refine lv_iload_n hx hb dX1_tells_16 rfl (lv_at hl 3 rfl) ?_
    obtain ⟨gp5, h⟩ := h
    refine call_v (Wd := XW cc ad) (σ := σ) C0 hd (lens_k (vin_lt gk4)) (As := [.int x2, .int x3]) (rest := []) (ct_X0_slipBehind l D cc (ka ad (x1.toNatClampNeg)) (da_ka hd (vin_lt gk4)) (cq g (x1.toNatClampNeg)) (xs_ki σ (x1.toNatClampNeg)) x2 x3 gp5) (cwV 2 hts gX1_tells_X0_slipBehind rfl rfl rfl (by decide +kernel) ⟨Nat.le_of_ble_eq_true rfl, Nat.le_of_ble_eq_true rfl⟩) (va_recv hK ((lens_k (D := D) (cc := cc) (ad := ad) (σ := σ) (vin_lt gk4)).1 H hP) (ci := 0) (q0 := 0) rfl rfl) hP hS rfl hl.1 rfl (by simp [Value.category]) dX1_tells_17 (fun r6 u hp H locs hP hS => ?_)
    obtain ⟨hp1, hp2⟩ := hp
    subst hp1
    have hp2 := hp2.symm
    subst hp2
    rw [xs_self] at hP
    have hP : va_P D vwCl (XW cc ad σ) H := hP
    refine lv_goto (tgt := 24) hx hb dX1_tells_20 (by decide) ?_
    exact ret_i (Wd := XW cc ad) (u := σ) C0 h hP hS dX1_tells_24
theorem ct_X1_tells (l : Launch) (D : va_G) (cc : Nat → ClassId) (ad : Nat → Nat) (hd : DA 45 ad (fun _ => True)) (g : CS) (σ : XS) (x1 : Int32) (x2 : Int32) (x3 : Int32) (hp : pr_X1_tells g σ x1 x2 x3) : Ctr l yX1_tells wsX1_tells { frames := 4, cells := 0, slots := 0, locals := 95 } D cc (XW cc ad) 45 ad σ [.ref (ad 0), .int x1, .int x2, .int x3] (fun r u => r = fn_X1_tells g σ x1 x2 x3 ∧ u = σ) :=
  ctr_i (rt := (some .int)) (by decide +kernel) rfl hd (Nat.le_of_ble_eq_true rfl) (fun p e s m below meth c A C0 hd => wk_X1_tells_0 C0 hd σ x1 x2 x3 (pu_X1_tells g σ x1 x2 x3 hp))
theorem hin_X1_isPlace : ∀ w ∈ u_ws RX1 TX1 12, w ∈ wsX1_isPlace := fun w h => List.mem_cons_of_mem _ (List.mem_append_right _ h)
set_option maxHeartbeats 4000000 in
set_option maxRecDepth 100000 in
theorem wk_X1_isPlace_0 {p : Program} {l : Launch} {e : Env} {s : State} {m : MethodId} {args : Array Value} {below : List Frame} {meth : Method} {c : Code} {D : va_G} {cc : Nat → ClassId} {ad : Nat → Nat} {A : Nat → Prop} {Post : Int32 → XS → Prop} {g : CS} (C0 : Cx p s m args meth c cX1_isPlace 2 (some .boolean) RX1 wsX1_isPlace D cc A) (hd : DA 45 ad A) (σ : XS) (x1 : Int32) (h : wp_X1_isPlace g Post σ x1) : At_ p l e { frames := 0, cells := 0, slots := 0, locals := 0 } s m args below meth c (Qi_ below D (XW cc ad) A args s Post) D A (XW cc ad σ) 2 0 [(0, .ref (ad 0)), (1, .int x1)] [] := by
  obtain ⟨hx, hb, hml, hr, hown, hts, hlocks, hK, hA, hX⟩ := id C0
  have hin := hin_X1_isPlace
  intro H locs ls hP hS hl
  unfold wp_X1_isPlace at h
  refine lv_iload_n hx hb dX1_isPlace_0 rfl (lv_at hl 1 rfl) ?_
  refine lv_if_lt (tgt := 16) hx hb dX1_isPlace_1 (by decide) (fun c1 => ?_) (fun c1 => ?_)
  · have h := h.1 c1
    refine lv_iconst (v := 0) hx hb dX1_isPlace_16 (by decide) ?_
    exact ret_z (Wd := XW cc ad) (u := σ) C0 rfl h hP hS dX1_isPlace_17
  · have h := h.2 c1
    refine lv_iload_n hx hb dX1_isPlace_4 rfl (lv_at hl 1 rfl) ?_
    refine lv_aload_n hx hb dX1_isPlace_5 rfl (lv_at hl 0 rfl) ?_
    refine va_get (D := D) (ci := 1) (v := .int (xs_pc σ)) (C := RX1) (T := TX1) (N := 12) hx hb hts hin hown hK hP 0 rfl rfl 4 (by decide) (hts (.fieldLink RX1 26 "ClassSheets" "placeCount" "I") (List.mem_of_getElem? (i := 1) rfl)) (fun _ h9 => h9) rfl dX1_isPlace_6 ?_
    refine lv_icmp_ge (tgt := 16) hx hb dX1_isPlace_9 (by decide) (fun c2 => ?_) (fun c2 => ?_)
    · have h := h.1 c2
      refine lv_iconst (v := 0) hx hb dX1_isPlace_16 (by decide) ?_
      exact ret_z (Wd := XW cc ad) (u := σ) C0 rfl h hP hS dX1_isPlace_17
    · have h := h.2 c2
      refine lv_iconst (v := 1) hx hb dX1_isPlace_12 (by decide) ?_
      refine lv_goto (tgt := 17) hx hb dX1_isPlace_13 (by decide) ?_
      exact ret_z (Wd := XW cc ad) (u := σ) C0 rfl h hP hS dX1_isPlace_17
theorem ct_X1_isPlace (l : Launch) (D : va_G) (cc : Nat → ClassId) (ad : Nat → Nat) (hd : DA 45 ad (fun _ => True)) (g : CS) (σ : XS) (x1 : Int32) : Ctr l yX1_isPlace wsX1_isPlace { frames := 0, cells := 0, slots := 0, locals := 0 } D cc (XW cc ad) 45 ad σ [.ref (ad 0), .int x1] (fun r u => r = fn_X1_isPlace σ x1 ∧ u = σ) :=
  ctr_i (rt := (some .boolean)) (by decide +kernel) rfl hd (Nat.le_of_ble_eq_true rfl) (fun p e s m below meth c A C0 hd => wk_X1_isPlace_0 C0 hd σ x1 (pu_X1_isPlace g σ x1))
theorem hin_X1_plan : ∀ w ∈ u_ws RX1 TX1 12, w ∈ wsX1_plan := fun w h => List.mem_cons_of_mem _ (List.mem_append_left _ (List.mem_append_right _ h))
set_option maxHeartbeats 4000000 in
set_option maxRecDepth 100000 in
theorem wk_X1_plan_40 {p : Program} {l : Launch} {e : Env} {s : State} {m : MethodId} {args : Array Value} {below : List Frame} {meth : Method} {c : Code} {D : va_G} {cc : Nat → ClassId} {ad : Nat → Nat} {A : Nat → Prop} {Post : Int32 → XS → Prop} {g : CS} (C0 : Cx p s m args meth c cX1_plan 4 (some .int) RX1 wsX1_plan D cc A) (hd : DA 45 ad A) {K40 : (XS × Int32 × Int32 × Int32) → Prop} (hK40 : ∀ a, K40 a → At_ p l e { frames := 1, cells := 0, slots := 0, locals := 21 } s m args below meth c (Qi_ below D (XW cc ad) A args s Post) D A (XW cc ad (a.1)) 4 40 [(0, .ref (ad 0)), (1, .int (a.2.1)), (2, .int (a.2.2.1)), (3, .int (a.2.2.2))] []) (σ : XS) (x1 : Int32) (x2 : Int32) (x3 : Int32) (h : wp_X1_plan_40 g K40 Post σ x1 x2 x3) : At_ p l e { frames := 1, cells := 0, slots := 0, locals := 21 } s m args below meth c (Qi_ below D (XW cc ad) A args s Post) D A (XW cc ad σ) 4 40 [(0, .ref (ad 0)), (1, .int x1), (2, .int x2), (3, .int x3)] [] := by
  obtain ⟨hx, hb, hml, hr, hown, hts, hlocks, hK, hA, hX⟩ := id C0
  have hin := hin_X1_plan
  intro H locs ls hP hS hl
  unfold wp_X1_plan_40 at h
  refine lv_iload_n hx hb dX1_plan_40 rfl (lv_at hl 3 rfl) ?_
  refine lv_iload_n hx hb dX1_plan_41 rfl (lv_at hl 2 rfl) ?_
  refine lv_icmp_ge (tgt := 89) hx hb dX1_plan_42 (by decide) (fun c1 => ?_) (fun c1 => ?_)
  · have h := h.1 c1
    refine lv_aload_n hx hb dX1_plan_89 rfl (lv_at hl 0 rfl) ?_
    refine va_get (D := D) (ci := 1) (v := .int (xs_pc σ)) (C := RX1) (T := TX1) (N := 12) hx hb hts hin hown hK hP 0 rfl rfl 4 (by decide) (hts (.fieldLink RX1 26 "ClassSheets" "placeCount" "I") (List.mem_of_getElem? (i := 1) rfl)) (fun _ h9 => h9) rfl dX1_plan_90 ?_
    exact ret_i (Wd := XW cc ad) (u := σ) C0 h hP hS dX1_plan_93
  · have h := h.2 c1
    refine lv_aload_n hx hb dX1_plan_45 rfl (lv_at hl 0 rfl) ?_
    refine va_get (D := D) (ci := 1) (v := .ref (ad 2)) (C := RX1) (T := TX1) (N := 12) hx hb hts hin hown hK hP 0 rfl rfl 2 (by decide) (hts (.fieldLink RX1 19 "ClassSheets" "plannedKinds" "[I") (List.mem_of_getElem? (i := 2) rfl)) (fun _ h9 => h9) rfl dX1_plan_46 ?_
    refine lv_aload_n hx hb dX1_plan_49 rfl (lv_at hl 0 rfl) ?_
    refine va_get (D := D) (ci := 1) (v := .int (xs_pc σ)) (C := RX1) (T := TX1) (N := 12) hx hb hts hin hown hK hP 0 rfl rfl 4 (by decide) (hts (.fieldLink RX1 26 "ClassSheets" "placeCount" "I") (List.mem_of_getElem? (i := 1) rfl)) (fun _ h9 => h9) rfl dX1_plan_50 ?_
    refine lv_iload_n hx hb dX1_plan_53 rfl (lv_at hl 1 rfl) ?_
    obtain ⟨gi2, h⟩ := h
    refine va_iast (D := D) (f := xs_pk σ) (x := x1) hx hb hK hP (xD hd) hS 2 0 rfl rfl gi2 dX1_plan_54 (fun H locs hP _ hS => ?_)
    have hP : va_P D vwCl (XW cc ad (xs_s_pk σ (upd (xs_pk σ) (xs_pc σ).toNatClampNeg x1))) H := hP
    refine lv_aload_n hx hb dX1_plan_55 rfl (lv_at hl 0 rfl) ?_
    refine va_get (D := D) (ci := 1) (v := .ref (ad 3)) (C := RX1) (T := TX1) (N := 12) hx hb hts hin hown hK hP 0 rfl rfl 3 (by decide) (hts (.fieldLink RX1 23 "ClassSheets" "turns" "[I") (List.mem_of_getElem? (i := 3) rfl)) (fun _ h9 => h9) rfl dX1_plan_56 ?_
    refine lv_aload_n hx hb dX1_plan_59 rfl (lv_at hl 0 rfl) ?_
    refine va_get (D := D) (ci := 1) (v := .int (xs_pc (xs_s_pk σ (upd (xs_pk σ) (xs_pc σ).toNatClampNeg x1)))) (C := RX1) (T := TX1) (N := 12) hx hb hts hin hown hK hP 0 rfl rfl 4 (by decide) (hts (.fieldLink RX1 26 "ClassSheets" "placeCount" "I") (List.mem_of_getElem? (i := 1) rfl)) (fun _ h9 => h9) rfl dX1_plan_60 ?_
    refine lv_aload_n hx hb dX1_plan_63 rfl (lv_at hl 0 rfl) ?_
    refine va_get (D := D) (ci := 1) (v := .ref (ad 1)) (C := RX1) (T := TX1) (N := 12) hx hb hts hin hown hK hP 0 rfl rfl 0 (by decide) (hts (.fieldLink RX1 11 "ClassSheets" "kinds" "[LClassSheets$Kind;") (List.mem_of_getElem? (i := 4) rfl)) (fun _ h9 => h9) rfl dX1_plan_64 ?_
    refine lv_iload_n hx hb dX1_plan_67 rfl (lv_at hl 1 rfl) ?_
    obtain ⟨gk3, h⟩ := h
    refine ld_kind C0 hP gk3 dX1_plan_68 ?_
    refine call_v (Wd := XW cc ad) (σ := (xs_s_pk σ (upd (xs_pk σ) (xs_pc σ).toNatClampNeg x1))) C0 hd (lens_k (vin_lt gk3)) (As := []) (rest := [.int (xs_pc (xs_s_pk σ (upd (xs_pk σ) (xs_pc σ).toNatClampNeg x1))), .ref (ad 3)]) (ct_X0_addPlace l D cc (ka ad (x1.toNatClampNeg)) (da_ka hd (vin_lt gk3)) (cq g (x1.toNatClampNeg)) (xs_ki (xs_s_pk σ (upd (xs_pk σ) (xs_pc σ).toNatClampNeg x1)) (x1.toNatClampNeg))) (cwV 0 hts gX1_plan_X0_addPlace rfl rfl rfl (by decide +kernel) ⟨Nat.le_of_ble_eq_true rfl, Nat.le_of_ble_eq_true rfl⟩) (va_recv hK ((lens_k (D := D) (cc := cc) (ad := ad) (σ := (xs_s_pk σ (upd (xs_pk σ) (xs_pc σ).toNatClampNeg x1))) (vin_lt gk3)).1 H hP) (ci := 0) (q0 := 0) rfl rfl) hP hS rfl hl.1 rfl (by simp [Value.category]) dX1_plan_69 (fun r4 u5 hp H locs hP hS => ?_)
    have h := h r4 u5 hp
    have hP : va_P D vwCl (XW cc ad (xs_sk (xs_s_pk σ (upd (xs_pk σ) (xs_pc σ).toNatClampNeg x1)) (x1.toNatClampNeg) u5)) H := hP
    obtain ⟨gi6, h⟩ := h
    refine va_iast (D := D) (f := xs_tu (xs_sk (xs_s_pk σ (upd (xs_pk σ) (xs_pc σ).toNatClampNeg x1)) (x1.toNatClampNeg) u5)) (x := r4) hx hb hK hP (xD hd) hS 3 0 rfl rfl gi6 dX1_plan_72 (fun H locs hP _ hS => ?_)
    have hP : va_P D vwCl (XW cc ad (xs_s_tu (xs_sk (xs_s_pk σ (upd (xs_pk σ) (xs_pc σ).toNatClampNeg x1)) (x1.toNatClampNeg) u5) (upd (xs_tu (xs_sk (xs_s_pk σ (upd (xs_pk σ) (xs_pc σ).toNatClampNeg x1)) (x1.toNatClampNeg) u5)) (xs_pc (xs_s_pk σ (upd (xs_pk σ) (xs_pc σ).toNatClampNeg x1))).toNatClampNeg r4))) H := hP
    refine lv_aload_n hx hb dX1_plan_73 rfl (lv_at hl 0 rfl) ?_
    refine lv_dup hx hb dX1_plan_74 rfl ?_
    refine va_get (D := D) (ci := 1) (v := .int (xs_pc (xs_s_tu (xs_sk (xs_s_pk σ (upd (xs_pk σ) (xs_pc σ).toNatClampNeg x1)) (x1.toNatClampNeg) u5) (upd (xs_tu (xs_sk (xs_s_pk σ (upd (xs_pk σ) (xs_pc σ).toNatClampNeg x1)) (x1.toNatClampNeg) u5)) (xs_pc (xs_s_pk σ (upd (xs_pk σ) (xs_pc σ).toNatClampNeg x1))).toNatClampNeg r4)))) (C := RX1) (T := TX1) (N := 12) hx hb hts hin hown hK hP 0 rfl rfl 4 (by decide) (hts (.fieldLink RX1 26 "ClassSheets" "placeCount" "I") (List.mem_of_getElem? (i := 1) rfl)) (fun _ h9 => h9) rfl dX1_plan_75 ?_
    refine lv_iconst (v := 1) hx hb dX1_plan_78 (by decide) ?_
    refine lv_iadd hx hb dX1_plan_79 ?_
    refine va_put (D := D) (ci := 1) (v := .int ((xs_pc (xs_s_tu (xs_sk (xs_s_pk σ (upd (xs_pk σ) (xs_pc σ).toNatClampNeg x1)) (x1.toNatClampNeg) u5) (upd (xs_tu (xs_sk (xs_s_pk σ (upd (xs_pk σ) (xs_pc σ).toNatClampNeg x1)) (x1.toNatClampNeg) u5)) (xs_pc (xs_s_pk σ (upd (xs_pk σ) (xs_pc σ).toNatClampNeg x1))).toNatClampNeg r4))) + 1)) (ty := .int) (C := RX1) (T := TX1) (N := 12) hx hb hts hin tyX1 tyX1_ok nmX1 hown hK hP (xD hd) hS 0 rfl rfl 4 (by decide) (hts (.fieldLink RX1 26 "ClassSheets" "placeCount" "I") (List.mem_of_getElem? (i := 1) rfl)) (fun _ h9 => h9) rfl (by decide +kernel) rfl rfl (Nat.le_of_ble_eq_true rfl) dX1_plan_80 (fun H locs hP _ hS => ?_)
    have hP : va_P D vwCl (XW cc ad (xs_s_pc (xs_s_tu (xs_sk (xs_s_pk σ (upd (xs_pk σ) (xs_pc σ).toNatClampNeg x1)) (x1.toNatClampNeg) u5) (upd (xs_tu (xs_sk (xs_s_pk σ (upd (xs_pk σ) (xs_pc σ).toNatClampNeg x1)) (x1.toNatClampNeg) u5)) (xs_pc (xs_s_pk σ (upd (xs_pk σ) (xs_pc σ).toNatClampNeg x1))).toNatClampNeg r4)) ((xs_pc (xs_s_tu (xs_sk (xs_s_pk σ (upd (xs_pk σ) (xs_pc σ).toNatClampNeg x1)) (x1.toNatClampNeg) u5) (upd (xs_tu (xs_sk (xs_s_pk σ (upd (xs_pk σ) (xs_pc σ).toNatClampNeg x1)) (x1.toNatClampNeg) u5)) (xs_pc (xs_s_pk σ (upd (xs_pk σ) (xs_pc σ).toNatClampNeg x1))).toNatClampNeg r4))) + 1))) H := hP
    obtain ⟨x3_7, ex3_7⟩ : ∃ y : Int32, y = x3 + 1 := ⟨_, rfl⟩
    have h := h x3_7 ex3_7
    refine lv_iinc (v := x3_7) (lv' := [(3, .int x3_7), (0, .ref (ad 0)), (1, .int x1), (2, .int x2)]) hx hb dX1_plan_83 hl (k := 3) rfl (by rw [ex3_7]; rfl) (by decide) rfl (fun ls hl => ?_)
    refine lv_goto (tgt := 40) hx hb dX1_plan_86 (by decide) ?_
    exact hK40 ((xs_s_pc (xs_s_tu (xs_sk (xs_s_pk σ (upd (xs_pk σ) (xs_pc σ).toNatClampNeg x1)) (x1.toNatClampNeg) u5) (upd (xs_tu (xs_sk (xs_s_pk σ (upd (xs_pk σ) (xs_pc σ).toNatClampNeg x1)) (x1.toNatClampNeg) u5)) (xs_pc (xs_s_pk σ (upd (xs_pk σ) (xs_pc σ).toNatClampNeg x1))).toNatClampNeg r4)) ((xs_pc (xs_s_tu (xs_sk (xs_s_pk σ (upd (xs_pk σ) (xs_pc σ).toNatClampNeg x1)) (x1.toNatClampNeg) u5) (upd (xs_tu (xs_sk (xs_s_pk σ (upd (xs_pk σ) (xs_pc σ).toNatClampNeg x1)) (x1.toNatClampNeg) u5)) (xs_pc (xs_s_pk σ (upd (xs_pk σ) (xs_pc σ).toNatClampNeg x1))).toNatClampNeg r4))) + 1)), x1, x2, x3_7) h H locs ls hP hS (lv_sub hl [1, 2, 3, 0] rfl)
set_option maxHeartbeats 4000000 in
set_option maxRecDepth 100000 in
theorem wk_X1_plan_0 {p : Program} {l : Launch} {e : Env} {s : State} {m : MethodId} {args : Array Value} {below : List Frame} {meth : Method} {c : Code} {D : va_G} {cc : Nat → ClassId} {ad : Nat → Nat} {A : Nat → Prop} {Post : Int32 → XS → Prop} {g : CS} (C0 : Cx p s m args meth c cX1_plan 4 (some .int) RX1 wsX1_plan D cc A) (hd : DA 45 ad A) (σ : XS) (x1 : Int32) (x2 : Int32) (h : wp_X1_plan g Post σ x1 x2) : At_ p l e { frames := 1, cells := 0, slots := 0, locals := 21 } s m args below meth c (Qi_ below D (XW cc ad) A args s Post) D A (XW cc ad σ) 4 0 [(0, .ref (ad 0)), (1, .int x1), (2, .int x2)] [] := by
  obtain ⟨hx, hb, hml, hr, hown, hts, hlocks, hK, hA, hX⟩ := id C0
  have hin := hin_X1_plan
  intro H locs ls hP hS hl
  unfold wp_X1_plan at h
  refine lv_aload_n hx hb dX1_plan_0 rfl (lv_at hl 0 rfl) ?_
  refine lv_iload_n hx hb dX1_plan_1 rfl (lv_at hl 1 rfl) ?_
  refine call_v (Wd := XW cc ad) (σ := σ) C0 hd lens_id (As := [.int x1]) (rest := []) (ct_X1_isKind l D cc ad ⟨hd.1, fun _ _ => trivial⟩ g σ x1) (cwV 1 hts gX1_plan_X1_isKind rfl rfl rfl (by decide +kernel) ⟨Nat.le_of_ble_eq_true rfl, Nat.le_of_ble_eq_true rfl⟩) (va_recv hK hP (ci := 1) (q0 := 0) rfl rfl) hP hS rfl hl.1 rfl (by simp [Value.category]) dX1_plan_2 (fun r1 u hp H locs hP hS => ?_)
  obtain ⟨hp1, hp2⟩ := hp
  subst hp1
  have hp2 := hp2.symm
  subst hp2
  have hP : va_P D vwCl (XW cc ad σ) H := hP
  refine lv_if_ne (tgt := 10) hx hb dX1_plan_5 (by decide) (fun c2 => ?_) (fun c2 => ?_)
  · have h := h.1 c2
    refine lv_iload_n hx hb dX1_plan_10 rfl (lv_at hl 2 rfl) ?_
    refine lv_iconst (v := 1) hx hb dX1_plan_11 (by decide) ?_
    refine lv_icmp_lt (tgt := 21) hx hb dX1_plan_12 (by decide) (fun c3 => ?_) (fun c3 => ?_)
    · have h := h.1 c3
      refine lv_bipush (v := (-2)) hx hb dX1_plan_21 (by decide) ?_
      exact ret_i (Wd := XW cc ad) (u := σ) C0 h hP hS dX1_plan_23
    · have h := h.2 c3
      refine lv_iload_n hx hb dX1_plan_15 rfl (lv_at hl 2 rfl) ?_
      refine lv_bipush (v := 40) hx hb dX1_plan_16 (by decide) ?_
      refine lv_icmp_le (tgt := 24) hx hb dX1_plan_18 (by decide) (fun c4 => ?_) (fun c4 => ?_)
      · have h := h.1 c4
        refine lv_iload_n hx hb dX1_plan_24 rfl (lv_at hl 2 rfl) ?_
        refine lv_bipush (v := 40) hx hb dX1_plan_25 (by decide) ?_
        refine lv_aload_n hx hb dX1_plan_27 rfl (lv_at hl 0 rfl) ?_
        refine va_get (D := D) (ci := 1) (v := .int (xs_pc σ)) (C := RX1) (T := TX1) (N := 12) hx hb hts hin hown hK hP 0 rfl rfl 4 (by decide) (hts (.fieldLink RX1 26 "ClassSheets" "placeCount" "I") (List.mem_of_getElem? (i := 1) rfl)) (fun _ h9 => h9) rfl dX1_plan_28 ?_
        refine lv_isub hx hb dX1_plan_31 ?_
        refine lv_icmp_le (tgt := 38) hx hb dX1_plan_32 (by decide) (fun c5 => ?_) (fun c5 => ?_)
        · have h := h.1 c5
          refine lv_iconst (v := 0) hx hb dX1_plan_38 (by decide) ?_
          refine lv_istore_n (lv' := [(3, .int 0), (0, .ref (ad 0)), (1, .int x1), (2, .int x2)]) hx hb dX1_plan_39 rfl hl (by decide) rfl (fun ls hl => ?_)
          exact lp_at (Wt := fun a => At_ p l e { frames := 1, cells := 0, slots := 0, locals := 21 } s m args below meth c (Qi_ below D (XW cc ad) A args s Post) D A (XW cc ad (a.1)) 4 40 [(0, .ref (ad 0)), (1, .int (a.2.1)), (2, .int (a.2.2.1)), (3, .int (a.2.2.2))] []) (fun K hK a h => wk_X1_plan_40 C0 hd hK a.1 a.2.1 a.2.2.1 a.2.2.2 h) h H locs ls hP hS (lv_sub hl [1, 2, 3, 0] rfl)
        · have h := h.2 c5
          refine lv_bipush (v := (-4)) hx hb dX1_plan_35 (by decide) ?_
          exact ret_i (Wd := XW cc ad) (u := σ) C0 h hP hS dX1_plan_37
      · have h := h.2 c4
        refine lv_bipush (v := (-2)) hx hb dX1_plan_21 (by decide) ?_
        exact ret_i (Wd := XW cc ad) (u := σ) C0 h hP hS dX1_plan_23
  · have h := h.2 c2
    refine lv_iconst (v := (-1)) hx hb dX1_plan_8 (by decide) ?_
    exact ret_i (Wd := XW cc ad) (u := σ) C0 h hP hS dX1_plan_9
theorem ct_X1_plan (l : Launch) (D : va_G) (cc : Nat → ClassId) (ad : Nat → Nat) (hd : DA 45 ad (fun _ => True)) (g : CS) (σ : XS) (x1 : Int32) (x2 : Int32) (hp : pr_X1_plan g σ x1 x2) : Ctr l yX1_plan wsX1_plan { frames := 1, cells := 0, slots := 0, locals := 21 } D cc (XW cc ad) 45 ad σ [.ref (ad 0), .int x1, .int x2] (po_X1_plan g σ x1 x2) :=
  ctr_i (rt := (some .int)) (by decide +kernel) rfl hd (Nat.le_of_ble_eq_true rfl) (fun p e s m below meth c A C0 hd => wk_X1_plan_0 C0 hd σ x1 x2 (pu_X1_plan g σ x1 x2 hp))
theorem hin_X1_clear : ∀ w ∈ u_ws RX1 TX1 12, w ∈ wsX1_clear := fun w h => List.mem_cons_of_mem _ (List.mem_append_left _ (List.mem_append_right _ h))
set_option maxHeartbeats 4000000 in
set_option maxRecDepth 100000 in
theorem wk_X1_clear_12 {p : Program} {l : Launch} {e : Env} {s : State} {m : MethodId} {args : Array Value} {below : List Frame} {meth : Method} {c : Code} {D : va_G} {cc : Nat → ClassId} {ad : Nat → Nat} {A : Nat → Prop} {Post : Int32 → XS → Prop} {g : CS} (C0 : Cx p s m args meth c cX1_clear 3 (some .int) RX1 wsX1_clear D cc A) (hd : DA 45 ad A) {K12 : (XS × Int32 × Int32) → Prop} (hK12 : ∀ a, K12 a → At_ p l e { frames := 1, cells := 0, slots := 0, locals := 20 } s m args below meth c (Qi_ below D (XW cc ad) A args s Post) D A (XW cc ad (a.1)) 3 12 [(0, .ref (ad 0)), (1, .int (a.2.1)), (2, .int (a.2.2))] []) (σ : XS) (x1 : Int32) (x2 : Int32) (h : wp_X1_clear_12 g K12 Post σ x1 x2) : At_ p l e { frames := 1, cells := 0, slots := 0, locals := 20 } s m args below meth c (Qi_ below D (XW cc ad) A args s Post) D A (XW cc ad σ) 3 12 [(0, .ref (ad 0)), (1, .int x1), (2, .int x2)] [] := by
  obtain ⟨hx, hb, hml, hr, hown, hts, hlocks, hK, hA, hX⟩ := id C0
  have hin := hin_X1_clear
  intro H locs ls hP hS hl
  unfold wp_X1_clear_12 at h
  refine lv_iload_n hx hb dX1_clear_12 rfl (lv_at hl 2 rfl) ?_
  refine lv_aload_n hx hb dX1_clear_13 rfl (lv_at hl 0 rfl) ?_
  refine va_get (D := D) (ci := 1) (v := .int (xs_kc σ)) (C := RX1) (T := TX1) (N := 12) hx hb hts hin hown hK hP 0 rfl rfl 1 (by decide) (hts (.fieldLink RX1 15 "ClassSheets" "kindCount" "I") (List.mem_of_getElem? (i := 2) rfl)) (fun _ h9 => h9) rfl dX1_clear_14 ?_
  refine lv_icmp_ge (tgt := 35) hx hb dX1_clear_17 (by decide) (fun c1 => ?_) (fun c1 => ?_)
  · have h := h.1 c1
    refine lv_iload_n hx hb dX1_clear_35 rfl (lv_at hl 1 rfl) ?_
    exact ret_i (Wd := XW cc ad) (u := σ) C0 h hP hS dX1_clear_36
  · have h := h.2 c1
    refine lv_aload_n hx hb dX1_clear_20 rfl (lv_at hl 0 rfl) ?_
    refine va_get (D := D) (ci := 1) (v := .ref (ad 1)) (C := RX1) (T := TX1) (N := 12) hx hb hts hin hown hK hP 0 rfl rfl 0 (by decide) (hts (.fieldLink RX1 11 "ClassSheets" "kinds" "[LClassSheets$Kind;") (List.mem_of_getElem? (i := 3) rfl)) (fun _ h9 => h9) rfl dX1_clear_21 ?_
    refine lv_iload_n hx hb dX1_clear_24 rfl (lv_at hl 2 rfl) ?_
    obtain ⟨gk2, h⟩ := h
    refine ld_kind C0 hP gk2 dX1_clear_25 ?_
    refine call_vv (Wd := XW cc ad) (σ := σ) C0 hd (lens_k (vin_lt gk2)) (As := []) (rest := []) (ct_X0_dropPlaces l D cc (ka ad (x2.toNatClampNeg)) (da_ka hd (vin_lt gk2)) (cq g (x2.toNatClampNeg)) (xs_ki σ (x2.toNatClampNeg))) (cwV 0 hts gX1_clear_X0_dropPlaces rfl rfl rfl (by decide +kernel) ⟨Nat.le_of_ble_eq_true rfl, Nat.le_of_ble_eq_true rfl⟩) (va_recv hK ((lens_k (D := D) (cc := cc) (ad := ad) (σ := σ) (vin_lt gk2)).1 H hP) (ci := 0) (q0 := 0) rfl rfl) hP hS rfl hl.1 rfl (by simp [Value.category]) dX1_clear_26 (fun u4 hp H locs hP hS => ?_)
    have h := h u4 hp
    have hP : va_P D vwCl (XW cc ad (xs_sk σ (x2.toNatClampNeg) u4)) H := hP
    obtain ⟨x2_5, ex2_5⟩ : ∃ y : Int32, y = x2 + 1 := ⟨_, rfl⟩
    have h := h x2_5 ex2_5
    refine lv_iinc (v := x2_5) (lv' := [(2, .int x2_5), (0, .ref (ad 0)), (1, .int x1)]) hx hb dX1_clear_29 hl (k := 2) rfl (by rw [ex2_5]; rfl) (by decide) rfl (fun ls hl => ?_)
    refine lv_goto (tgt := 12) hx hb dX1_clear_32 (by decide) ?_
    exact hK12 ((xs_sk σ (x2.toNatClampNeg) u4), x1, x2_5) h H locs ls hP hS (lv_sub hl [1, 2, 0] rfl)
set_option maxHeartbeats 4000000 in
set_option maxRecDepth 100000 in
theorem wk_X1_clear_0 {p : Program} {l : Launch} {e : Env} {s : State} {m : MethodId} {args : Array Value} {below : List Frame} {meth : Method} {c : Code} {D : va_G} {cc : Nat → ClassId} {ad : Nat → Nat} {A : Nat → Prop} {Post : Int32 → XS → Prop} {g : CS} (C0 : Cx p s m args meth c cX1_clear 3 (some .int) RX1 wsX1_clear D cc A) (hd : DA 45 ad A) (σ : XS) (h : wp_X1_clear g Post σ) : At_ p l e { frames := 1, cells := 0, slots := 0, locals := 20 } s m args below meth c (Qi_ below D (XW cc ad) A args s Post) D A (XW cc ad σ) 3 0 [(0, .ref (ad 0))] [] := by
  obtain ⟨hx, hb, hml, hr, hown, hts, hlocks, hK, hA, hX⟩ := id C0
  have hin := hin_X1_clear
  intro H locs ls hP hS hl
  unfold wp_X1_clear at h
  refine lv_aload_n hx hb dX1_clear_0 rfl (lv_at hl 0 rfl) ?_
  refine va_get (D := D) (ci := 1) (v := .int (xs_pc σ)) (C := RX1) (T := TX1) (N := 12) hx hb hts hin hown hK hP 0 rfl rfl 4 (by decide) (hts (.fieldLink RX1 26 "ClassSheets" "placeCount" "I") (List.mem_of_getElem? (i := 1) rfl)) (fun _ h9 => h9) rfl dX1_clear_1 ?_
  refine lv_topi (fun x1_1 ex1_1 => ?_)
  have h := h x1_1 ex1_1
  refine lv_istore_n (lv' := [(1, .int x1_1), (0, .ref (ad 0))]) hx hb dX1_clear_4 rfl hl (by decide) rfl (fun ls hl => ?_)
  refine lv_aload_n hx hb dX1_clear_5 rfl (lv_at hl 1 rfl) ?_
  refine lv_iconst (v := 0) hx hb dX1_clear_6 (by decide) ?_
  refine va_put (D := D) (ci := 1) (v := .int 0) (ty := .int) (C := RX1) (T := TX1) (N := 12) hx hb hts hin tyX1 tyX1_ok nmX1 hown hK hP (xD hd) hS 0 rfl rfl 4 (by decide) (hts (.fieldLink RX1 26 "ClassSheets" "placeCount" "I") (List.mem_of_getElem? (i := 1) rfl)) (fun _ h9 => h9) rfl (by decide +kernel) rfl rfl (Nat.le_of_ble_eq_true rfl) dX1_clear_7 (fun H locs hP _ hS => ?_)
  have hP : va_P D vwCl (XW cc ad (xs_s_pc σ 0)) H := hP
  refine lv_iconst (v := 0) hx hb dX1_clear_10 (by decide) ?_
  refine lv_istore_n (lv' := [(2, .int 0), (1, .int x1_1), (0, .ref (ad 0))]) hx hb dX1_clear_11 rfl hl (by decide) rfl (fun ls hl => ?_)
  exact lp_at (Wt := fun a => At_ p l e { frames := 1, cells := 0, slots := 0, locals := 20 } s m args below meth c (Qi_ below D (XW cc ad) A args s Post) D A (XW cc ad (a.1)) 3 12 [(0, .ref (ad 0)), (1, .int (a.2.1)), (2, .int (a.2.2))] []) (fun K hK a h => wk_X1_clear_12 C0 hd hK a.1 a.2.1 a.2.2 h) h H locs ls hP hS (lv_sub hl [2, 1, 0] rfl)
theorem ct_X1_clear (l : Launch) (D : va_G) (cc : Nat → ClassId) (ad : Nat → Nat) (hd : DA 45 ad (fun _ => True)) (g : CS) (σ : XS) (hp : pr_X1_clear g σ) : Ctr l yX1_clear wsX1_clear { frames := 1, cells := 0, slots := 0, locals := 20 } D cc (XW cc ad) 45 ad σ [.ref (ad 0)] (po_X1_clear g σ) :=
  ctr_i (rt := (some .int)) (by decide +kernel) rfl hd (Nat.le_of_ble_eq_true rfl) (fun p e s m below meth c A C0 hd => wk_X1_clear_0 C0 hd σ (pu_X1_clear g σ hp))
theorem hin_X1_placed : ∀ w ∈ u_ws RX1 TX1 12, w ∈ wsX1_placed := fun w h => List.mem_cons_of_mem _ (List.mem_append_right _ h)
set_option maxHeartbeats 4000000 in
set_option maxRecDepth 100000 in
theorem wk_X1_placed_0 {p : Program} {l : Launch} {e : Env} {s : State} {m : MethodId} {args : Array Value} {below : List Frame} {meth : Method} {c : Code} {D : va_G} {cc : Nat → ClassId} {ad : Nat → Nat} {A : Nat → Prop} {Post : Int32 → XS → Prop} {g : CS} (C0 : Cx p s m args meth c cX1_placed 2 (some .int) RX1 wsX1_placed D cc A) (hd : DA 45 ad A) (σ : XS) (x1 : Int32) (h : wp_X1_placed g Post σ x1) : At_ p l e { frames := 1, cells := 0, slots := 0, locals := 21 } s m args below meth c (Qi_ below D (XW cc ad) A args s Post) D A (XW cc ad σ) 2 0 [(0, .ref (ad 0)), (1, .int x1)] [] := by
  obtain ⟨hx, hb, hml, hr, hown, hts, hlocks, hK, hA, hX⟩ := id C0
  have hin := hin_X1_placed
  intro H locs ls hP hS hl
  unfold wp_X1_placed at h
  refine lv_aload_n hx hb dX1_placed_0 rfl (lv_at hl 0 rfl) ?_
  refine lv_iload_n hx hb dX1_placed_1 rfl (lv_at hl 1 rfl) ?_
  refine call_v (Wd := XW cc ad) (σ := σ) C0 hd lens_id (As := [.int x1]) (rest := []) (ct_X1_isPlace l D cc ad ⟨hd.1, fun _ _ => trivial⟩ g σ x1) (cwV 1 hts gX1_placed_X1_isPlace rfl rfl rfl (by decide +kernel) ⟨Nat.le_of_ble_eq_true rfl, Nat.le_of_ble_eq_true rfl⟩) (va_recv hK hP (ci := 1) (q0 := 0) rfl rfl) hP hS rfl hl.1 rfl (by simp [Value.category]) dX1_placed_2 (fun r1 u hp H locs hP hS => ?_)
  obtain ⟨hp1, hp2⟩ := hp
  subst hp1
  have hp2 := hp2.symm
  subst hp2
  have hP : va_P D vwCl (XW cc ad σ) H := hP
  refine lv_if_eq (tgt := 17) hx hb dX1_placed_5 (by decide) (fun c2 => ?_) (fun c2 => ?_)
  · have h := h.1 c2
    refine lv_iconst (v := (-1)) hx hb dX1_placed_17 (by decide) ?_
    exact ret_i (Wd := XW cc ad) (u := σ) C0 h hP hS dX1_placed_18
  · have h := h.2 c2
    refine lv_aload_n hx hb dX1_placed_8 rfl (lv_at hl 0 rfl) ?_
    refine va_get (D := D) (ci := 1) (v := .ref (ad 2)) (C := RX1) (T := TX1) (N := 12) hx hb hts hin hown hK hP 0 rfl rfl 2 (by decide) (hts (.fieldLink RX1 19 "ClassSheets" "plannedKinds" "[I") (List.mem_of_getElem? (i := 1) rfl)) (fun _ h9 => h9) rfl dX1_placed_9 ?_
    refine lv_iload_n hx hb dX1_placed_12 rfl (lv_at hl 1 rfl) ?_
    obtain ⟨gi3, h⟩ := h
    refine va_iald (D := D) (f := xs_pk σ) hx hb hK hP 2 0 rfl rfl gi3 dX1_placed_13 ?_
    refine lv_goto (tgt := 18) hx hb dX1_placed_14 (by decide) ?_
    exact ret_i (Wd := XW cc ad) (u := σ) C0 h hP hS dX1_placed_18
theorem ct_X1_placed (l : Launch) (D : va_G) (cc : Nat → ClassId) (ad : Nat → Nat) (hd : DA 45 ad (fun _ => True)) (g : CS) (σ : XS) (x1 : Int32) (hp : pr_X1_placed g σ x1) : Ctr l yX1_placed wsX1_placed { frames := 1, cells := 0, slots := 0, locals := 21 } D cc (XW cc ad) 45 ad σ [.ref (ad 0), .int x1] (fun r u => r = fn_X1_placed g σ x1 ∧ u = σ) :=
  ctr_i (rt := (some .int)) (by decide +kernel) rfl hd (Nat.le_of_ble_eq_true rfl) (fun p e s m below meth c A C0 hd => wk_X1_placed_0 C0 hd σ x1 (pu_X1_placed g σ x1 hp))
theorem hin_X1_lines : ∀ w ∈ u_ws RX1 TX1 12, w ∈ wsX1_lines := fun w h => List.mem_cons_of_mem _ (List.mem_append_right _ h)
set_option maxHeartbeats 4000000 in
set_option maxRecDepth 100000 in
theorem wk_X1_lines_0 {p : Program} {l : Launch} {e : Env} {s : State} {m : MethodId} {args : Array Value} {below : List Frame} {meth : Method} {c : Code} {D : va_G} {cc : Nat → ClassId} {ad : Nat → Nat} {A : Nat → Prop} {Post : Int32 → XS → Prop} {g : CS} (C0 : Cx p s m args meth c cX1_lines 3 (some .int) RX1 wsX1_lines D cc A) (hd : DA 45 ad A) (σ : XS) (x1 : Int32) (h : wp_X1_lines g Post σ x1) : At_ p l e { frames := 0, cells := 0, slots := 0, locals := 0 } s m args below meth c (Qi_ below D (XW cc ad) A args s Post) D A (XW cc ad σ) 3 0 [(0, .ref (ad 0)), (1, .int x1)] [] := by
  obtain ⟨hx, hb, hml, hr, hown, hts, hlocks, hK, hA, hX⟩ := id C0
  have hin := hin_X1_lines
  intro H locs ls hP hS hl
  unfold wp_X1_lines at h
  refine lv_iload_n hx hb dX1_lines_0 rfl (lv_at hl 1 rfl) ?_
  refine lv_bipush (v := 9) hx hb dX1_lines_1 (by decide) ?_
  refine lv_icmp_lt (tgt := 12) hx hb dX1_lines_3 (by decide) (fun c1 => ?_) (fun c1 => ?_)
  · have h := h.1 c1
    refine lv_bipush (v := (-2)) hx hb dX1_lines_12 (by decide) ?_
    exact ret_i (Wd := XW cc ad) (u := σ) C0 h hP hS dX1_lines_14
  · have h := h.2 c1
    refine lv_iload_n hx hb dX1_lines_6 rfl (lv_at hl 1 rfl) ?_
    refine lv_bipush (v := 99) hx hb dX1_lines_7 (by decide) ?_
    refine lv_icmp_le (tgt := 15) hx hb dX1_lines_9 (by decide) (fun c2 => ?_) (fun c2 => ?_)
    · have h := h.1 c2
      refine lv_aload_n hx hb dX1_lines_15 rfl (lv_at hl 0 rfl) ?_
      refine va_get (D := D) (ci := 1) (v := .int (xs_li σ)) (C := RX1) (T := TX1) (N := 12) hx hb hts hin hown hK hP 0 rfl rfl 5 (by decide) (hts (.fieldLink RX1 29 "ClassSheets" "pageLines" "I") (List.mem_of_getElem? (i := 1) rfl)) (fun _ h9 => h9) rfl dX1_lines_16 ?_
      refine lv_topi (fun x2_3 ex2_3 => ?_)
      have h := h x2_3 ex2_3
      refine lv_istore_n (lv' := [(2, .int x2_3), (0, .ref (ad 0)), (1, .int x1)]) hx hb dX1_lines_19 rfl hl (by decide) rfl (fun ls hl => ?_)
      refine lv_aload_n hx hb dX1_lines_20 rfl (lv_at hl 1 rfl) ?_
      refine lv_iload_n hx hb dX1_lines_21 rfl (lv_at hl 2 rfl) ?_
      refine va_put (D := D) (ci := 1) (v := .int x1) (ty := .int) (C := RX1) (T := TX1) (N := 12) hx hb hts hin tyX1 tyX1_ok nmX1 hown hK hP (xD hd) hS 0 rfl rfl 5 (by decide) (hts (.fieldLink RX1 29 "ClassSheets" "pageLines" "I") (List.mem_of_getElem? (i := 1) rfl)) (fun _ h9 => h9) rfl (by decide +kernel) rfl rfl (Nat.le_of_ble_eq_true rfl) dX1_lines_22 (fun H locs hP _ hS => ?_)
      have hP : va_P D vwCl (XW cc ad (xs_s_li σ x1)) H := hP
      refine lv_iload_n hx hb dX1_lines_25 rfl (lv_at hl 0 rfl) ?_
      exact ret_i (Wd := XW cc ad) (u := (xs_s_li σ x1)) C0 h hP hS dX1_lines_26
    · have h := h.2 c2
      refine lv_bipush (v := (-2)) hx hb dX1_lines_12 (by decide) ?_
      exact ret_i (Wd := XW cc ad) (u := σ) C0 h hP hS dX1_lines_14
theorem ct_X1_lines (l : Launch) (D : va_G) (cc : Nat → ClassId) (ad : Nat → Nat) (hd : DA 45 ad (fun _ => True)) (g : CS) (σ : XS) (x1 : Int32) (hp : pr_X1_lines g σ x1) : Ctr l yX1_lines wsX1_lines { frames := 0, cells := 0, slots := 0, locals := 0 } D cc (XW cc ad) 45 ad σ [.ref (ad 0), .int x1] (po_X1_lines g σ x1) :=
  ctr_i (rt := (some .int)) (by decide +kernel) rfl hd (Nat.le_of_ble_eq_true rfl) (fun p e s m below meth c A C0 hd => wk_X1_lines_0 C0 hd σ x1 (pu_X1_lines g σ x1 hp))
theorem hin_X1_pageAndLine : ∀ w ∈ u_ws RX1 TX1 12, w ∈ wsX1_pageAndLine := fun w h => List.mem_cons_of_mem _ (List.mem_append_left _ (List.mem_append_right _ h))
set_option maxHeartbeats 4000000 in
set_option maxRecDepth 100000 in
theorem wk_X1_pageAndLine_10 {p : Program} {l : Launch} {e : Env} {s : State} {m : MethodId} {args : Array Value} {below : List Frame} {meth : Method} {c : Code} {D : va_G} {cc : Nat → ClassId} {ad : Nat → Nat} {A : Nat → Prop} {Post : Int32 → XS → Prop} {g : CS} (C0 : Cx p s m args meth c cX1_pageAndLine 7 (some .int) RX1 wsX1_pageAndLine D cc A) (hd : DA 45 ad A) {K10 : (XS × Int32 × Int32 × Int32 × Int32 × Int32) → Prop} (hK10 : ∀ a, K10 a → At_ p l e { frames := 1, cells := 0, slots := 0, locals := 20 } s m args below meth c (Qi_ below D (XW cc ad) A args s Post) D A (XW cc ad (a.1)) 7 10 [(0, .ref (ad 0)), (1, .int (a.2.1)), (2, .int (a.2.2.1)), (3, .int (a.2.2.2.1)), (4, .int (a.2.2.2.2.1)), (5, .int (a.2.2.2.2.2))] []) (σ : XS) (x1 : Int32) (x2 : Int32) (x3 : Int32) (x4 : Int32) (x5 : Int32) (h : wp_X1_pageAndLine_10 g K10 Post σ x1 x2 x3 x4 x5) : At_ p l e { frames := 1, cells := 0, slots := 0, locals := 20 } s m args below meth c (Qi_ below D (XW cc ad) A args s Post) D A (XW cc ad σ) 7 10 [(0, .ref (ad 0)), (1, .int x1), (2, .int x2), (3, .int x3), (4, .int x4), (5, .int x5)] [] := by
  obtain ⟨hx, hb, hml, hr, hown, hts, hlocks, hK, hA, hX⟩ := id C0
  have hin := hin_X1_pageAndLine
  intro H locs ls hP hS hl
  unfold wp_X1_pageAndLine_10 at h
  refine lv_iload hx hb dX1_pageAndLine_10 (lv_at hl 5 rfl) ?_
  refine lv_iload_n hx hb dX1_pageAndLine_12 rfl (lv_at hl 1 rfl) ?_
  refine lv_icmp_gt (tgt := 67) hx hb dX1_pageAndLine_13 (by decide) (fun c1 => ?_) (fun c1 => ?_)
  · have h := h.1 c1
    refine lv_iload_n hx hb dX1_pageAndLine_67 rfl (lv_at hl 2 rfl) ?_
    refine lv_bipush (v := 100) hx hb dX1_pageAndLine_68 (by decide) ?_
    refine lv_imul hx hb dX1_pageAndLine_70 ?_
    refine lv_iload_n hx hb dX1_pageAndLine_71 rfl (lv_at hl 3 rfl) ?_
    refine lv_iadd hx hb dX1_pageAndLine_72 ?_
    exact ret_i (Wd := XW cc ad) (u := σ) C0 h hP hS dX1_pageAndLine_73
  · have h := h.2 c1
    refine lv_aload_n hx hb dX1_pageAndLine_16 rfl (lv_at hl 0 rfl) ?_
    refine va_get (D := D) (ci := 1) (v := .ref (ad 1)) (C := RX1) (T := TX1) (N := 12) hx hb hts hin hown hK hP 0 rfl rfl 0 (by decide) (hts (.fieldLink RX1 11 "ClassSheets" "kinds" "[LClassSheets$Kind;") (List.mem_of_getElem? (i := 1) rfl)) (fun _ h9 => h9) rfl dX1_pageAndLine_17 ?_
    refine lv_aload_n hx hb dX1_pageAndLine_20 rfl (lv_at hl 0 rfl) ?_
    refine va_get (D := D) (ci := 1) (v := .ref (ad 2)) (C := RX1) (T := TX1) (N := 12) hx hb hts hin hown hK hP 0 rfl rfl 2 (by decide) (hts (.fieldLink RX1 19 "ClassSheets" "plannedKinds" "[I") (List.mem_of_getElem? (i := 2) rfl)) (fun _ h9 => h9) rfl dX1_pageAndLine_21 ?_
    refine lv_iload hx hb dX1_pageAndLine_24 (lv_at hl 5 rfl) ?_
    obtain ⟨gi2, h⟩ := h
    refine va_iald (D := D) (f := xs_pk σ) hx hb hK hP 2 0 rfl rfl gi2 dX1_pageAndLine_26 ?_
    obtain ⟨gk3, h⟩ := h
    refine ld_kind C0 hP gk3 dX1_pageAndLine_27 ?_
    refine call_v (Wd := XW cc ad) (σ := σ) C0 hd (lens_k (vin_lt gk3)) (As := []) (rest := []) (ct_X0_linesTaken l D cc (ka ad ((xs_pk σ x5.toNatClampNeg).toNatClampNeg)) (da_ka hd (vin_lt gk3)) (cq g ((xs_pk σ x5.toNatClampNeg).toNatClampNeg)) (xs_ki σ ((xs_pk σ x5.toNatClampNeg).toNatClampNeg))) (cwV 0 hts gX1_pageAndLine_X0_linesTaken rfl rfl rfl (by decide +kernel) ⟨Nat.le_of_ble_eq_true rfl, Nat.le_of_ble_eq_true rfl⟩) (va_recv hK ((lens_k (D := D) (cc := cc) (ad := ad) (σ := σ) (vin_lt gk3)).1 H hP) (ci := 0) (q0 := 0) rfl rfl) hP hS rfl hl.1 rfl (by simp [Value.category]) dX1_pageAndLine_28 (fun r4 u hp H locs hP hS => ?_)
    obtain ⟨hp1, hp2⟩ := hp
    subst hp1
    have hp2 := hp2.symm
    subst hp2
    rw [xs_self] at hP
    have hP : va_P D vwCl (XW cc ad σ) H := hP
    refine lv_topi (fun x6_5 ex6_5 => ?_)
    have h := h x6_5 ex6_5
    refine lv_istore (lv' := [(6, .int x6_5), (0, .ref (ad 0)), (1, .int x1), (2, .int x2), (3, .int x3), (4, .int x4), (5, .int x5)]) hx hb dX1_pageAndLine_31 hl (by decide) rfl (fun ls hl => ?_)
    refine lv_iload hx hb dX1_pageAndLine_33 (lv_at hl 5 rfl) ?_
    refine lv_iload hx hb dX1_pageAndLine_35 (lv_at hl 0 rfl) ?_
    refine lv_iadd hx hb dX1_pageAndLine_37 ?_
    refine lv_aload_n hx hb dX1_pageAndLine_38 rfl (lv_at hl 1 rfl) ?_
    refine va_get (D := D) (ci := 1) (v := .int (xs_li σ)) (C := RX1) (T := TX1) (N := 12) hx hb hts hin hown hK hP 0 rfl rfl 5 (by decide) (hts (.fieldLink RX1 29 "ClassSheets" "pageLines" "I") (List.mem_of_getElem? (i := 3) rfl)) (fun _ h9 => h9) rfl dX1_pageAndLine_39 ?_
    refine lv_icmp_le (tgt := 51) hx hb dX1_pageAndLine_42 (by decide) (fun c6 => ?_) (fun c6 => ?_)
    · have h := h.1 c6
      refine lv_iload hx hb dX1_pageAndLine_51 (lv_at hl 5 rfl) ?_
      refine lv_istore_n (lv' := [(3, .int x4), (6, .int x6_5), (0, .ref (ad 0)), (1, .int x1), (2, .int x2), (4, .int x4), (5, .int x5)]) hx hb dX1_pageAndLine_53 rfl hl (by decide) rfl (fun ls hl => ?_)
      refine lv_iload hx hb dX1_pageAndLine_54 (lv_at hl 5 rfl) ?_
      refine lv_iload hx hb dX1_pageAndLine_56 (lv_at hl 1 rfl) ?_
      refine lv_iadd hx hb dX1_pageAndLine_58 ?_
      refine lv_topi (fun x4_7 ex4_7 => ?_)
      have h := h x4_7 ex4_7
      refine lv_istore (lv' := [(4, .int x4_7), (3, .int x4), (6, .int x6_5), (0, .ref (ad 0)), (1, .int x1), (2, .int x2), (5, .int x5)]) hx hb dX1_pageAndLine_59 hl (by decide) rfl (fun ls hl => ?_)
      obtain ⟨x5_8, ex5_8⟩ : ∃ y : Int32, y = x5 + 1 := ⟨_, rfl⟩
      have h := h x5_8 ex5_8
      refine lv_iinc (v := x5_8) (lv' := [(5, .int x5_8), (4, .int x4_7), (3, .int x4), (6, .int x6_5), (0, .ref (ad 0)), (1, .int x1), (2, .int x2)]) hx hb dX1_pageAndLine_61 hl (k := 6) rfl (by rw [ex5_8]; rfl) (by decide) rfl (fun ls hl => ?_)
      refine lv_goto (tgt := 10) hx hb dX1_pageAndLine_64 (by decide) ?_
      exact hK10 (σ, x1, x2, x4, x4_7, x5_8) h H locs ls hP hS (lv_sub hl [4, 5, 6, 2, 1, 0] rfl)
    · have h := h.2 c6
      obtain ⟨x2_9, ex2_9⟩ : ∃ y : Int32, y = x2 + 1 := ⟨_, rfl⟩
      have h := h x2_9 ex2_9
      refine lv_iinc (v := x2_9) (lv' := [(2, .int x2_9), (6, .int x6_5), (0, .ref (ad 0)), (1, .int x1), (3, .int x3), (4, .int x4), (5, .int x5)]) hx hb dX1_pageAndLine_45 hl (k := 3) rfl (by rw [ex2_9]; rfl) (by decide) rfl (fun ls hl => ?_)
      refine lv_iconst (v := 0) hx hb dX1_pageAndLine_48 (by decide) ?_
      refine lv_istore (lv' := [(4, .int 0), (2, .int x2_9), (6, .int x6_5), (0, .ref (ad 0)), (1, .int x1), (3, .int x3), (5, .int x5)]) hx hb dX1_pageAndLine_49 hl (by decide) rfl (fun ls hl => ?_)
      refine lv_iload hx hb dX1_pageAndLine_51 (lv_at hl 0 rfl) ?_
      refine lv_istore_n (lv' := [(3, .int 0), (4, .int 0), (2, .int x2_9), (6, .int x6_5), (0, .ref (ad 0)), (1, .int x1), (5, .int x5)]) hx hb dX1_pageAndLine_53 rfl hl (by decide) rfl (fun ls hl => ?_)
      refine lv_iload hx hb dX1_pageAndLine_54 (lv_at hl 1 rfl) ?_
      refine lv_iload hx hb dX1_pageAndLine_56 (lv_at hl 3 rfl) ?_
      refine lv_iadd hx hb dX1_pageAndLine_58 ?_
      refine lv_topi (fun x4_10 ex4_10 => ?_)
      have h := h x4_10 ex4_10
      refine lv_istore (lv' := [(4, .int x4_10), (3, .int 0), (2, .int x2_9), (6, .int x6_5), (0, .ref (ad 0)), (1, .int x1), (5, .int x5)]) hx hb dX1_pageAndLine_59 hl (by decide) rfl (fun ls hl => ?_)
      obtain ⟨x5_11, ex5_11⟩ : ∃ y : Int32, y = x5 + 1 := ⟨_, rfl⟩
      have h := h x5_11 ex5_11
      refine lv_iinc (v := x5_11) (lv' := [(5, .int x5_11), (4, .int x4_10), (3, .int 0), (2, .int x2_9), (6, .int x6_5), (0, .ref (ad 0)), (1, .int x1)]) hx hb dX1_pageAndLine_61 hl (k := 6) rfl (by rw [ex5_11]; rfl) (by decide) rfl (fun ls hl => ?_)
      refine lv_goto (tgt := 10) hx hb dX1_pageAndLine_64 (by decide) ?_
      exact hK10 (σ, x1, x2_9, 0, x4_10, x5_11) h H locs ls hP hS (lv_sub hl [5, 6, 3, 2, 1, 0] rfl)
set_option maxHeartbeats 4000000 in
set_option maxRecDepth 100000 in
theorem wk_X1_pageAndLine_0 {p : Program} {l : Launch} {e : Env} {s : State} {m : MethodId} {args : Array Value} {below : List Frame} {meth : Method} {c : Code} {D : va_G} {cc : Nat → ClassId} {ad : Nat → Nat} {A : Nat → Prop} {Post : Int32 → XS → Prop} {g : CS} (C0 : Cx p s m args meth c cX1_pageAndLine 7 (some .int) RX1 wsX1_pageAndLine D cc A) (hd : DA 45 ad A) (σ : XS) (x1 : Int32) (h : wp_X1_pageAndLine g Post σ x1) : At_ p l e { frames := 1, cells := 0, slots := 0, locals := 20 } s m args below meth c (Qi_ below D (XW cc ad) A args s Post) D A (XW cc ad σ) 7 0 [(0, .ref (ad 0)), (1, .int x1)] [] := by
  obtain ⟨hx, hb, hml, hr, hown, hts, hlocks, hK, hA, hX⟩ := id C0
  have hin := hin_X1_pageAndLine
  intro H locs ls hP hS hl
  unfold wp_X1_pageAndLine at h
  refine lv_iconst (v := 0) hx hb dX1_pageAndLine_0 (by decide) ?_
  refine lv_istore_n (lv' := [(2, .int 0), (0, .ref (ad 0)), (1, .int x1)]) hx hb dX1_pageAndLine_1 rfl hl (by decide) rfl (fun ls hl => ?_)
  refine lv_iconst (v := 0) hx hb dX1_pageAndLine_2 (by decide) ?_
  refine lv_istore_n (lv' := [(3, .int 0), (2, .int 0), (0, .ref (ad 0)), (1, .int x1)]) hx hb dX1_pageAndLine_3 rfl hl (by decide) rfl (fun ls hl => ?_)
  refine lv_iconst (v := 0) hx hb dX1_pageAndLine_4 (by decide) ?_
  refine lv_istore (lv' := [(4, .int 0), (3, .int 0), (2, .int 0), (0, .ref (ad 0)), (1, .int x1)]) hx hb dX1_pageAndLine_5 hl (by decide) rfl (fun ls hl => ?_)
  refine lv_iconst (v := 0) hx hb dX1_pageAndLine_7 (by decide) ?_
  refine lv_istore (lv' := [(5, .int 0), (4, .int 0), (3, .int 0), (2, .int 0), (0, .ref (ad 0)), (1, .int x1)]) hx hb dX1_pageAndLine_8 hl (by decide) rfl (fun ls hl => ?_)
  exact lp_at (Wt := fun a => At_ p l e { frames := 1, cells := 0, slots := 0, locals := 20 } s m args below meth c (Qi_ below D (XW cc ad) A args s Post) D A (XW cc ad (a.1)) 7 10 [(0, .ref (ad 0)), (1, .int (a.2.1)), (2, .int (a.2.2.1)), (3, .int (a.2.2.2.1)), (4, .int (a.2.2.2.2.1)), (5, .int (a.2.2.2.2.2))] []) (fun K hK a h => wk_X1_pageAndLine_10 C0 hd hK a.1 a.2.1 a.2.2.1 a.2.2.2.1 a.2.2.2.2.1 a.2.2.2.2.2 h) h H locs ls hP hS (lv_sub hl [4, 5, 3, 2, 1, 0] rfl)
theorem ct_X1_pageAndLine (l : Launch) (D : va_G) (cc : Nat → ClassId) (ad : Nat → Nat) (hd : DA 45 ad (fun _ => True)) (g : CS) (σ : XS) (x1 : Int32) (hp : pr_X1_pageAndLine g σ x1) : Ctr l yX1_pageAndLine wsX1_pageAndLine { frames := 1, cells := 0, slots := 0, locals := 20 } D cc (XW cc ad) 45 ad σ [.ref (ad 0), .int x1] (fun r u => r = fn_X1_pageAndLine g σ x1 ∧ u = σ) :=
  ctr_i (rt := (some .int)) (by decide +kernel) rfl hd (Nat.le_of_ble_eq_true rfl) (fun p e s m below meth c A C0 hd => wk_X1_pageAndLine_0 C0 hd σ x1 (pu_X1_pageAndLine g σ x1 hp))
theorem hin_X1_pages : ∀ w ∈ u_ws RX1 TX1 12, w ∈ wsX1_pages := fun w h => List.mem_cons_of_mem _ (List.mem_append_left _ (List.mem_append_right _ h))
set_option maxHeartbeats 4000000 in
set_option maxRecDepth 100000 in
theorem wk_X1_pages_0 {p : Program} {l : Launch} {e : Env} {s : State} {m : MethodId} {args : Array Value} {below : List Frame} {meth : Method} {c : Code} {D : va_G} {cc : Nat → ClassId} {ad : Nat → Nat} {A : Nat → Prop} {Post : Int32 → XS → Prop} {g : CS} (C0 : Cx p s m args meth c cX1_pages 1 (some .int) RX1 wsX1_pages D cc A) (hd : DA 45 ad A) (σ : XS) (h : wp_X1_pages g Post σ) : At_ p l e { frames := 2, cells := 0, slots := 0, locals := 46 } s m args below meth c (Qi_ below D (XW cc ad) A args s Post) D A (XW cc ad σ) 1 0 [(0, .ref (ad 0))] [] := by
  obtain ⟨hx, hb, hml, hr, hown, hts, hlocks, hK, hA, hX⟩ := id C0
  have hin := hin_X1_pages
  intro H locs ls hP hS hl
  unfold wp_X1_pages at h
  refine lv_aload_n hx hb dX1_pages_0 rfl (lv_at hl 0 rfl) ?_
  refine va_get (D := D) (ci := 1) (v := .int (xs_pc σ)) (C := RX1) (T := TX1) (N := 12) hx hb hts hin hown hK hP 0 rfl rfl 4 (by decide) (hts (.fieldLink RX1 26 "ClassSheets" "placeCount" "I") (List.mem_of_getElem? (i := 1) rfl)) (fun _ h9 => h9) rfl dX1_pages_1 ?_
  refine lv_if_ne (tgt := 11) hx hb dX1_pages_4 (by decide) (fun c1 => ?_) (fun c1 => ?_)
  · have h := h.1 c1
    refine lv_aload_n hx hb dX1_pages_11 rfl (lv_at hl 0 rfl) ?_
    refine lv_aload_n hx hb dX1_pages_12 rfl (lv_at hl 0 rfl) ?_
    refine va_get (D := D) (ci := 1) (v := .int (xs_pc σ)) (C := RX1) (T := TX1) (N := 12) hx hb hts hin hown hK hP 0 rfl rfl 4 (by decide) (hts (.fieldLink RX1 26 "ClassSheets" "placeCount" "I") (List.mem_of_getElem? (i := 1) rfl)) (fun _ h9 => h9) rfl dX1_pages_13 ?_
    refine lv_iconst (v := 1) hx hb dX1_pages_16 (by decide) ?_
    refine lv_isub hx hb dX1_pages_17 ?_
    obtain ⟨gp2, h⟩ := h
    refine call_v (Wd := XW cc ad) (σ := σ) C0 hd lens_id (As := [.int ((xs_pc σ) - 1)]) (rest := []) (ct_X1_pageAndLine l D cc ad ⟨hd.1, fun _ _ => trivial⟩ g σ ((xs_pc σ) - 1) gp2) (cwV 1 hts gX1_pages_X1_pageAndLine rfl rfl rfl (by decide +kernel) ⟨Nat.le_of_ble_eq_true rfl, Nat.le_of_ble_eq_true rfl⟩) (va_recv hK hP (ci := 1) (q0 := 0) rfl rfl) hP hS rfl hl.1 rfl (by simp [Value.category]) dX1_pages_18 (fun r3 u hp H locs hP hS => ?_)
    obtain ⟨hp1, hp2⟩ := hp
    subst hp1
    have hp2 := hp2.symm
    subst hp2
    have hP : va_P D vwCl (XW cc ad σ) H := hP
    refine lv_bipush (v := 100) hx hb dX1_pages_21 (by decide) ?_
    refine lv_idiv hx hb dX1_pages_23 (by decide) ?_
    refine lv_iconst (v := 1) hx hb dX1_pages_24 (by decide) ?_
    refine lv_iadd hx hb dX1_pages_25 ?_
    exact ret_i (Wd := XW cc ad) (u := σ) C0 h hP hS dX1_pages_26
  · have h := h.2 c1
    refine lv_iconst (v := 0) hx hb dX1_pages_7 (by decide) ?_
    refine lv_goto (tgt := 26) hx hb dX1_pages_8 (by decide) ?_
    exact ret_i (Wd := XW cc ad) (u := σ) C0 h hP hS dX1_pages_26
theorem ct_X1_pages (l : Launch) (D : va_G) (cc : Nat → ClassId) (ad : Nat → Nat) (hd : DA 45 ad (fun _ => True)) (g : CS) (σ : XS) (hp : pr_X1_pages g σ) : Ctr l yX1_pages wsX1_pages { frames := 2, cells := 0, slots := 0, locals := 46 } D cc (XW cc ad) 45 ad σ [.ref (ad 0)] (fun r u => r = fn_X1_pages g σ ∧ u = σ) :=
  ctr_i (rt := (some .int)) (by decide +kernel) rfl hd (Nat.le_of_ble_eq_true rfl) (fun p e s m below meth c A C0 hd => wk_X1_pages_0 C0 hd σ (pu_X1_pages g σ hp))
theorem hin_X1_page : ∀ w ∈ u_ws RX1 TX1 12, w ∈ wsX1_page := fun w h => List.mem_cons_of_mem _ (List.mem_append_left _ (List.mem_append_right _ h))
set_option maxHeartbeats 4000000 in
set_option maxRecDepth 100000 in
theorem wk_X1_page_0 {p : Program} {l : Launch} {e : Env} {s : State} {m : MethodId} {args : Array Value} {below : List Frame} {meth : Method} {c : Code} {D : va_G} {cc : Nat → ClassId} {ad : Nat → Nat} {A : Nat → Prop} {Post : Int32 → XS → Prop} {g : CS} (C0 : Cx p s m args meth c cX1_page 4 (some .int) RX1 wsX1_page D cc A) (hd : DA 45 ad A) (σ : XS) (x1 : Int32) (x2 : Int32) (h : wp_X1_page g Post σ x1 x2) : At_ p l e { frames := 2, cells := 0, slots := 0, locals := 46 } s m args below meth c (Qi_ below D (XW cc ad) A args s Post) D A (XW cc ad σ) 4 0 [(0, .ref (ad 0)), (1, .int x1), (2, .int x2)] [] := by
  obtain ⟨hx, hb, hml, hr, hown, hts, hlocks, hK, hA, hX⟩ := id C0
  have hin := hin_X1_page
  intro H locs ls hP hS hl
  unfold wp_X1_page at h
  refine lv_aload_n hx hb dX1_page_0 rfl (lv_at hl 0 rfl) ?_
  refine lv_iload_n hx hb dX1_page_1 rfl (lv_at hl 1 rfl) ?_
  refine call_v (Wd := XW cc ad) (σ := σ) C0 hd lens_id (As := [.int x1]) (rest := []) (ct_X1_isPlace l D cc ad ⟨hd.1, fun _ _ => trivial⟩ g σ x1) (cwV 1 hts gX1_page_X1_isPlace rfl rfl rfl (by decide +kernel) ⟨Nat.le_of_ble_eq_true rfl, Nat.le_of_ble_eq_true rfl⟩) (va_recv hK hP (ci := 1) (q0 := 0) rfl rfl) hP hS rfl hl.1 rfl (by simp [Value.category]) dX1_page_2 (fun r1 u hp H locs hP hS => ?_)
  obtain ⟨hp1, hp2⟩ := hp
  subst hp1
  have hp2 := hp2.symm
  subst hp2
  have hP : va_P D vwCl (XW cc ad σ) H := hP
  refine lv_if_ne (tgt := 10) hx hb dX1_page_5 (by decide) (fun c2 => ?_) (fun c2 => ?_)
  · have h := h.1 c2
    refine lv_aload_n hx hb dX1_page_10 rfl (lv_at hl 0 rfl) ?_
    refine lv_iload_n hx hb dX1_page_11 rfl (lv_at hl 1 rfl) ?_
    obtain ⟨gp3, h⟩ := h
    refine call_v (Wd := XW cc ad) (σ := σ) C0 hd lens_id (As := [.int x1]) (rest := []) (ct_X1_pageAndLine l D cc ad ⟨hd.1, fun _ _ => trivial⟩ g σ x1 gp3) (cwV 1 hts gX1_page_X1_pageAndLine rfl rfl rfl (by decide +kernel) ⟨Nat.le_of_ble_eq_true rfl, Nat.le_of_ble_eq_true rfl⟩) (va_recv hK hP (ci := 1) (q0 := 0) rfl rfl) hP hS rfl hl.1 rfl (by simp [Value.category]) dX1_page_12 (fun r4 u hp H locs hP hS => ?_)
    obtain ⟨hp1, hp2⟩ := hp
    subst hp1
    have hp2 := hp2.symm
    subst hp2
    have hP : va_P D vwCl (XW cc ad σ) H := hP
    refine lv_topi (fun x3_5 ex3_5 => ?_)
    have h := h x3_5 ex3_5
    refine lv_istore_n (lv' := [(3, .int x3_5), (0, .ref (ad 0)), (1, .int x1), (2, .int x2)]) hx hb dX1_page_15 rfl hl (by decide) rfl (fun ls hl => ?_)
    refine lv_iload_n hx hb dX1_page_16 rfl (lv_at hl 3 rfl) ?_
    refine lv_if_eq (tgt := 27) hx hb dX1_page_17 (by decide) (fun c6 => ?_) (fun c6 => ?_)
    · have h := h.1 c6
      refine lv_iload_n hx hb dX1_page_27 rfl (lv_at hl 0 rfl) ?_
      refine lv_bipush (v := 100) hx hb dX1_page_28 (by decide) ?_
      refine lv_idiv hx hb dX1_page_30 (by decide) ?_
      exact ret_i (Wd := XW cc ad) (u := σ) C0 h hP hS dX1_page_31
    · have h := h.2 c6
      refine lv_iload_n hx hb dX1_page_20 rfl (lv_at hl 0 rfl) ?_
      refine lv_bipush (v := 100) hx hb dX1_page_21 (by decide) ?_
      refine lv_irem hx hb dX1_page_23 (by decide) ?_
      refine lv_goto (tgt := 31) hx hb dX1_page_24 (by decide) ?_
      exact ret_i (Wd := XW cc ad) (u := σ) C0 h hP hS dX1_page_31
  · have h := h.2 c2
    refine lv_iconst (v := (-1)) hx hb dX1_page_8 (by decide) ?_
    exact ret_i (Wd := XW cc ad) (u := σ) C0 h hP hS dX1_page_9
theorem ct_X1_page (l : Launch) (D : va_G) (cc : Nat → ClassId) (ad : Nat → Nat) (hd : DA 45 ad (fun _ => True)) (g : CS) (σ : XS) (x1 : Int32) (x2 : Int32) (hp : pr_X1_page g σ x1 x2) : Ctr l yX1_page wsX1_page { frames := 2, cells := 0, slots := 0, locals := 46 } D cc (XW cc ad) 45 ad σ [.ref (ad 0), .int x1, .int x2] (fun r u => r = fn_X1_page g σ x1 x2 ∧ u = σ) :=
  ctr_i (rt := (some .int)) (by decide +kernel) rfl hd (Nat.le_of_ble_eq_true rfl) (fun p e s m below meth c A C0 hd => wk_X1_page_0 C0 hd σ x1 x2 (pu_X1_page g σ x1 x2 hp))
