theorem hin_X0_size : ∀ w ∈ u_ws RX0 TX0 7, w ∈ wsX0_size := fun w h => List.mem_cons_of_mem _ (List.mem_append_right _ h)
set_option maxHeartbeats 4000000 in
set_option maxRecDepth 100000 in
theorem wk_X0_size_0 {p : Program} {l : Launch} {e : Env} {s : State} {m : MethodId} {args : Array Value} {below : List Frame} {meth : Method} {c : Code} {D : va_G} {cc : Nat → ClassId} {ad : Nat → Nat} {A : Nat → Prop} {Post : Int32 → KS → Prop} {g : (Nat → Nat)} (C0 : Cx p s m args meth c cX0_size 1 (some .int) RX0 wsX0_size D cc A) (hd : DA 5 ad A) (σ : KS) (h : wp_X0_size g Post σ) : At_ p l e { frames := 0, cells := 0, slots := 0, locals := 0 } s m args below meth c (Qi_ below D (KW cc ad) A args s Post) D A (KW cc ad σ) 1 0 [(0, .ref (ad 0))] [] := by
  obtain ⟨hx, hb, hml, hr, hown, hts, hlocks, hK, hA, hX⟩ := id C0
  have hin := hin_X0_size
  intro H locs ls hP hS hl
  unfold wp_X0_size at h
  refine lv_aload_n hx hb dX0_size_0 rfl (lv_at hl 0 rfl) ?_
  refine va_get (D := D) (ci := 0) (v := .int (ks_co σ)) (C := RX0) (T := TX0) (N := 7) hx hb hts hin hown hK hP 0 rfl rfl 5 (by decide) (hts (.fieldLink RX0 28 "ClassSheets$Kind" "count" "I") (List.mem_of_getElem? (i := 1) rfl)) (fun _ h9 => h9) rfl dX0_size_1 ?_
  exact ret_i (Wd := KW cc ad) (u := σ) C0 h hP hS dX0_size_4
theorem ct_X0_size (l : Launch) (D : va_G) (cc : Nat → ClassId) (ad : Nat → Nat) (hd : DA 5 ad (fun _ => True)) (g : (Nat → Nat)) (σ : KS) : Ctr l yX0_size wsX0_size { frames := 0, cells := 0, slots := 0, locals := 0 } D cc (KW cc ad) 5 ad σ [.ref (ad 0)] (fun r u => r = fn_X0_size σ ∧ u = σ) :=
  ctr_i (rt := (some .int)) (by decide +kernel) rfl hd (Nat.le_of_ble_eq_true rfl) (fun p e s m below meth c A C0 hd => wk_X0_size_0 C0 hd σ (pu_X0_size g σ))
theorem hin_X0_linesTaken : ∀ w ∈ u_ws RX0 TX0 7, w ∈ wsX0_linesTaken := fun w h => List.mem_cons_of_mem _ (List.mem_append_right _ h)
set_option maxHeartbeats 4000000 in
set_option maxRecDepth 100000 in
theorem wk_X0_linesTaken_0 {p : Program} {l : Launch} {e : Env} {s : State} {m : MethodId} {args : Array Value} {below : List Frame} {meth : Method} {c : Code} {D : va_G} {cc : Nat → ClassId} {ad : Nat → Nat} {A : Nat → Prop} {Post : Int32 → KS → Prop} {g : (Nat → Nat)} (C0 : Cx p s m args meth c cX0_linesTaken 1 (some .int) RX0 wsX0_linesTaken D cc A) (hd : DA 5 ad A) (σ : KS) (h : wp_X0_linesTaken g Post σ) : At_ p l e { frames := 0, cells := 0, slots := 0, locals := 0 } s m args below meth c (Qi_ below D (KW cc ad) A args s Post) D A (KW cc ad σ) 1 0 [(0, .ref (ad 0))] [] := by
  obtain ⟨hx, hb, hml, hr, hown, hts, hlocks, hK, hA, hX⟩ := id C0
  have hin := hin_X0_linesTaken
  intro H locs ls hP hS hl
  unfold wp_X0_linesTaken at h
  refine lv_aload_n hx hb dX0_linesTaken_0 rfl (lv_at hl 0 rfl) ?_
  refine va_get (D := D) (ci := 0) (v := .ref (ad 3)) (C := RX0) (T := TX0) (N := 7) hx hb hts hin hown hK hP 0 rfl rfl 3 (by decide) (hts (.fieldLink RX0 22 "ClassSheets$Kind" "rules" "[I") (List.mem_of_getElem? (i := 1) rfl)) (fun _ h9 => h9) rfl dX0_linesTaken_1 ?_
  refine lv_iconst (v := 1) hx hb dX0_linesTaken_4 (by decide) ?_
  obtain ⟨gi1, h⟩ := h
  refine va_iald (D := D) (f := ks_ru σ) hx hb hK hP 3 0 rfl rfl gi1 dX0_linesTaken_5 ?_
  exact ret_i (Wd := KW cc ad) (u := σ) C0 h hP hS dX0_linesTaken_6
theorem ct_X0_linesTaken (l : Launch) (D : va_G) (cc : Nat → ClassId) (ad : Nat → Nat) (hd : DA 5 ad (fun _ => True)) (g : (Nat → Nat)) (σ : KS) : Ctr l yX0_linesTaken wsX0_linesTaken { frames := 0, cells := 0, slots := 0, locals := 0 } D cc (KW cc ad) 5 ad σ [.ref (ad 0)] (fun r u => r = fn_X0_linesTaken σ ∧ u = σ) :=
  ctr_i (rt := (some .int)) (by decide +kernel) rfl hd (Nat.le_of_ble_eq_true rfl) (fun p e s m below meth c A C0 hd => wk_X0_linesTaken_0 C0 hd σ (pu_X0_linesTaken g σ))
theorem hin_X0_result : ∀ w ∈ u_ws RX0 TX0 7, w ∈ wsX0_result := fun w h => List.mem_cons_of_mem _ (List.mem_append_right _ h)
set_option maxHeartbeats 4000000 in
set_option maxRecDepth 100000 in
theorem wk_X0_result_0 {p : Program} {l : Launch} {e : Env} {s : State} {m : MethodId} {args : Array Value} {below : List Frame} {meth : Method} {c : Code} {D : va_G} {cc : Nat → ClassId} {ad : Nat → Nat} {A : Nat → Prop} {Post : Int32 → KS → Prop} {g : (Nat → Nat)} (C0 : Cx p s m args meth c cX0_result 3 (some .int) RX0 wsX0_result D cc A) (hd : DA 5 ad A) (σ : KS) (x1 : Int32) (x2 : Int32) (h : wp_X0_result g Post σ x1 x2) : At_ p l e { frames := 0, cells := 0, slots := 0, locals := 0 } s m args below meth c (Qi_ below D (KW cc ad) A args s Post) D A (KW cc ad σ) 3 0 [(0, .ref (ad 0)), (1, .int x1), (2, .int x2)] [] := by
  obtain ⟨hx, hb, hml, hr, hown, hts, hlocks, hK, hA, hX⟩ := id C0
  have hin := hin_X0_result
  intro H locs ls hP hS hl
  unfold wp_X0_result at h
  refine lv_aload_n hx hb dX0_result_0 rfl (lv_at hl 0 rfl) ?_
  refine va_get (D := D) (ci := 0) (v := .int (ks_op σ)) (C := RX0) (T := TX0) (N := 7) hx hb hts hin hown hK hP 0 rfl rfl 0 (by decide) (hts (.fieldLink RX0 11 "ClassSheets$Kind" "operation" "I") (List.mem_of_getElem? (i := 1) rfl)) (fun _ h9 => h9) rfl dX0_result_1 ?_
  rcases Classical.em ((ks_op σ) = 0) with c1 | c1
  · have h := h.1 c1
    refine lv_tableIn (off := 28) (tgt := 32) hx hb dX0_result_4 (by rw [c1]; decide) (by rw [c1]; decide) (by rw [c1]; decide) (by decide) ?_
    refine lv_iload_n hx hb dX0_result_32 rfl (lv_at hl 1 rfl) ?_
    refine lv_iload_n hx hb dX0_result_33 rfl (lv_at hl 2 rfl) ?_
    refine lv_iadd hx hb dX0_result_34 ?_
    exact ret_i (Wd := KW cc ad) (u := σ) C0 h hP hS dX0_result_35
  · have h := h.2 c1
    rcases Classical.em ((ks_op σ) = 1) with c2 | c2
    · have h := h.1 c2
      refine lv_tableIn (off := 32) (tgt := 36) hx hb dX0_result_4 (by rw [c2]; decide) (by rw [c2]; decide) (by rw [c2]; decide) (by decide) ?_
      refine lv_iload_n hx hb dX0_result_36 rfl (lv_at hl 1 rfl) ?_
      refine lv_iload_n hx hb dX0_result_37 rfl (lv_at hl 2 rfl) ?_
      refine lv_icmp_lt (tgt := 47) hx hb dX0_result_38 (by decide) (fun c3 => ?_) (fun c3 => ?_)
      · have h := h.1 c3
        refine lv_bipush (v := (-9)) hx hb dX0_result_47 (by decide) ?_
        exact ret_i (Wd := KW cc ad) (u := σ) C0 h hP hS dX0_result_49
      · have h := h.2 c3
        refine lv_iload_n hx hb dX0_result_41 rfl (lv_at hl 1 rfl) ?_
        refine lv_iload_n hx hb dX0_result_42 rfl (lv_at hl 2 rfl) ?_
        refine lv_isub hx hb dX0_result_43 ?_
        refine lv_goto (tgt := 49) hx hb dX0_result_44 (by decide) ?_
        exact ret_i (Wd := KW cc ad) (u := σ) C0 h hP hS dX0_result_49
    · have h := h.2 c2
      rcases Classical.em ((ks_op σ) = 2) with c4 | c4
      · have h := h.1 c4
        refine lv_tableIn (off := 46) (tgt := 50) hx hb dX0_result_4 (by rw [c4]; decide) (by rw [c4]; decide) (by rw [c4]; decide) (by decide) ?_
        refine lv_iload_n hx hb dX0_result_50 rfl (lv_at hl 1 rfl) ?_
        refine lv_iload_n hx hb dX0_result_51 rfl (lv_at hl 2 rfl) ?_
        refine lv_imul hx hb dX0_result_52 ?_
        exact ret_i (Wd := KW cc ad) (u := σ) C0 h hP hS dX0_result_53
      · have h := h.2 c4
        refine lv_tableOut (tgt := 54) hx hb dX0_result_4 (by have qc1 := lv_neT (a := 0) c1 (by decide); have qc2 := lv_neT (a := 1) c2 (by decide); have qc4 := lv_neT (a := 2) c4 (by decide); omega) (by decide) ?_
        refine lv_iload_n hx hb dX0_result_54 rfl (lv_at hl 2 rfl) ?_
        refine lv_if_eq (tgt := 70) hx hb dX0_result_55 (by decide) (fun c5 => ?_) (fun c5 => ?_)
        · have h := h.1 c5
          refine lv_bipush (v := (-9)) hx hb dX0_result_70 (by decide) ?_
          exact ret_i (Wd := KW cc ad) (u := σ) C0 h hP hS dX0_result_72
        · have h := h.2 c5
          refine lv_iload_n hx hb dX0_result_58 rfl (lv_at hl 1 rfl) ?_
          refine lv_iload_n hx hb dX0_result_59 rfl (lv_at hl 2 rfl) ?_
          obtain ⟨gd6, h⟩ := h
          refine lv_irem hx hb dX0_result_60 gd6 ?_
          refine lv_if_ne (tgt := 70) hx hb dX0_result_61 (by decide) (fun c7 => ?_) (fun c7 => ?_)
          · have h := h.1 c7
            refine lv_bipush (v := (-9)) hx hb dX0_result_70 (by decide) ?_
            exact ret_i (Wd := KW cc ad) (u := σ) C0 h hP hS dX0_result_72
          · have h := h.2 c7
            refine lv_iload_n hx hb dX0_result_64 rfl (lv_at hl 1 rfl) ?_
            refine lv_iload_n hx hb dX0_result_65 rfl (lv_at hl 2 rfl) ?_
            obtain ⟨gd8, h⟩ := h
            refine lv_idiv hx hb dX0_result_66 gd8 ?_
            refine lv_goto (tgt := 72) hx hb dX0_result_67 (by decide) ?_
            exact ret_i (Wd := KW cc ad) (u := σ) C0 h hP hS dX0_result_72
theorem ct_X0_result (l : Launch) (D : va_G) (cc : Nat → ClassId) (ad : Nat → Nat) (hd : DA 5 ad (fun _ => True)) (g : (Nat → Nat)) (σ : KS) (x1 : Int32) (x2 : Int32) : Ctr l yX0_result wsX0_result { frames := 0, cells := 0, slots := 0, locals := 0 } D cc (KW cc ad) 5 ad σ [.ref (ad 0), .int x1, .int x2] (fun r u => r = fn_X0_result σ x1 x2 ∧ u = σ) :=
  ctr_i (rt := (some .int)) (by decide +kernel) rfl hd (Nat.le_of_ble_eq_true rfl) (fun p e s m below meth c A C0 hd => wk_X0_result_0 C0 hd σ x1 x2 (pu_X0_result g σ x1 x2))
theorem hin_X0_carries : ∀ w ∈ u_ws RX0 TX0 7, w ∈ wsX0_carries := fun w h => List.mem_cons_of_mem _ (List.mem_append_right _ h)
set_option maxHeartbeats 4000000 in
set_option maxRecDepth 100000 in
theorem wk_X0_carries_0 {p : Program} {l : Launch} {e : Env} {s : State} {m : MethodId} {args : Array Value} {below : List Frame} {meth : Method} {c : Code} {D : va_G} {cc : Nat → ClassId} {ad : Nat → Nat} {A : Nat → Prop} {Post : Int32 → KS → Prop} {g : (Nat → Nat)} (C0 : Cx p s m args meth c cX0_carries 3 (some .boolean) RX0 wsX0_carries D cc A) (hd : DA 5 ad A) (σ : KS) (x1 : Int32) (x2 : Int32) (h : wp_X0_carries g Post σ x1 x2) : At_ p l e { frames := 0, cells := 0, slots := 0, locals := 0 } s m args below meth c (Qi_ below D (KW cc ad) A args s Post) D A (KW cc ad σ) 3 0 [(0, .ref (ad 0)), (1, .int x1), (2, .int x2)] [] := by
  obtain ⟨hx, hb, hml, hr, hown, hts, hlocks, hK, hA, hX⟩ := id C0
  have hin := hin_X0_carries
  intro H locs ls hP hS hl
  unfold wp_X0_carries at h
  refine lv_aload_n hx hb dX0_carries_0 rfl (lv_at hl 0 rfl) ?_
  refine va_get (D := D) (ci := 0) (v := .int (ks_op σ)) (C := RX0) (T := TX0) (N := 7) hx hb hts hin hown hK hP 0 rfl rfl 0 (by decide) (hts (.fieldLink RX0 11 "ClassSheets$Kind" "operation" "I") (List.mem_of_getElem? (i := 1) rfl)) (fun _ h9 => h9) rfl dX0_carries_1 ?_
  rcases Classical.em ((ks_op σ) = 0) with c1 | c1
  · have h := h.1 c1
    refine lv_lookup (off := 28) (tgt := 32) hx hb dX0_carries_4 (by decide) (by rw [c1]; decide) (by decide) ?_
    refine lv_iload_n hx hb dX0_carries_32 rfl (lv_at hl 1 rfl) ?_
    refine lv_bipush (v := 10) hx hb dX0_carries_33 (by decide) ?_
    refine lv_irem hx hb dX0_carries_35 (by decide) ?_
    refine lv_iload_n hx hb dX0_carries_36 rfl (lv_at hl 2 rfl) ?_
    refine lv_bipush (v := 10) hx hb dX0_carries_37 (by decide) ?_
    refine lv_irem hx hb dX0_carries_39 (by decide) ?_
    refine lv_iadd hx hb dX0_carries_40 ?_
    refine lv_bipush (v := 10) hx hb dX0_carries_41 (by decide) ?_
    refine lv_icmp_lt (tgt := 50) hx hb dX0_carries_43 (by decide) (fun c2 => ?_) (fun c2 => ?_)
    · have h := h.1 c2
      refine lv_iconst (v := 0) hx hb dX0_carries_50 (by decide) ?_
      exact ret_z (Wd := KW cc ad) (u := σ) C0 rfl h hP hS dX0_carries_51
    · have h := h.2 c2
      refine lv_iconst (v := 1) hx hb dX0_carries_46 (by decide) ?_
      refine lv_goto (tgt := 51) hx hb dX0_carries_47 (by decide) ?_
      exact ret_z (Wd := KW cc ad) (u := σ) C0 rfl h hP hS dX0_carries_51
  · have h := h.2 c1
    rcases Classical.em ((ks_op σ) = 1) with c3 | c3
    · have h := h.1 c3
      refine lv_lookup (off := 48) (tgt := 52) hx hb dX0_carries_4 (by decide) (by rw [c3]; decide) (by decide) ?_
      refine lv_iload_n hx hb dX0_carries_52 rfl (lv_at hl 1 rfl) ?_
      refine lv_bipush (v := 10) hx hb dX0_carries_53 (by decide) ?_
      refine lv_irem hx hb dX0_carries_55 (by decide) ?_
      refine lv_iload_n hx hb dX0_carries_56 rfl (lv_at hl 2 rfl) ?_
      refine lv_bipush (v := 10) hx hb dX0_carries_57 (by decide) ?_
      refine lv_irem hx hb dX0_carries_59 (by decide) ?_
      refine lv_icmp_ge (tgt := 67) hx hb dX0_carries_60 (by decide) (fun c4 => ?_) (fun c4 => ?_)
      · have h := h.1 c4
        refine lv_iconst (v := 0) hx hb dX0_carries_67 (by decide) ?_
        exact ret_z (Wd := KW cc ad) (u := σ) C0 rfl h hP hS dX0_carries_68
      · have h := h.2 c4
        refine lv_iconst (v := 1) hx hb dX0_carries_63 (by decide) ?_
        refine lv_goto (tgt := 68) hx hb dX0_carries_64 (by decide) ?_
        exact ret_z (Wd := KW cc ad) (u := σ) C0 rfl h hP hS dX0_carries_68
    · have h := h.2 c3
      refine lv_lookup (off := 65) (tgt := 69) hx hb dX0_carries_4 (by decide) (by rw [lv_osw (k := 0) c1 (by decide)]; rw [lv_osw (k := 1) c3 (by decide)]; rfl) (by decide) ?_
      refine lv_iconst (v := 0) hx hb dX0_carries_69 (by decide) ?_
      exact ret_z (Wd := KW cc ad) (u := σ) C0 rfl h hP hS dX0_carries_70
theorem ct_X0_carries (l : Launch) (D : va_G) (cc : Nat → ClassId) (ad : Nat → Nat) (hd : DA 5 ad (fun _ => True)) (g : (Nat → Nat)) (σ : KS) (x1 : Int32) (x2 : Int32) : Ctr l yX0_carries wsX0_carries { frames := 0, cells := 0, slots := 0, locals := 0 } D cc (KW cc ad) 5 ad σ [.ref (ad 0), .int x1, .int x2] (fun r u => r = fn_X0_carries σ x1 x2 ∧ u = σ) :=
  ctr_i (rt := (some .boolean)) (by decide +kernel) rfl hd (Nat.le_of_ble_eq_true rfl) (fun p e s m below meth c A C0 hd => wk_X0_carries_0 C0 hd σ x1 x2 (pu_X0_carries g σ x1 x2))
theorem hin_X0_otherOperation : ∀ w ∈ u_ws RX0 TX0 7, w ∈ wsX0_otherOperation := fun w h => List.mem_cons_of_mem _ (List.mem_append_right _ h)
set_option maxHeartbeats 4000000 in
set_option maxRecDepth 100000 in
theorem wk_X0_otherOperation_0 {p : Program} {l : Launch} {e : Env} {s : State} {m : MethodId} {args : Array Value} {below : List Frame} {meth : Method} {c : Code} {D : va_G} {cc : Nat → ClassId} {ad : Nat → Nat} {A : Nat → Prop} {Post : Int32 → KS → Prop} {g : (Nat → Nat)} (C0 : Cx p s m args meth c cX0_otherOperation 3 (some .int) RX0 wsX0_otherOperation D cc A) (hd : DA 5 ad A) (σ : KS) (x1 : Int32) (x2 : Int32) (h : wp_X0_otherOperation g Post σ x1 x2) : At_ p l e { frames := 0, cells := 0, slots := 0, locals := 0 } s m args below meth c (Qi_ below D (KW cc ad) A args s Post) D A (KW cc ad σ) 3 0 [(0, .ref (ad 0)), (1, .int x1), (2, .int x2)] [] := by
  obtain ⟨hx, hb, hml, hr, hown, hts, hlocks, hK, hA, hX⟩ := id C0
  have hin := hin_X0_otherOperation
  intro H locs ls hP hS hl
  unfold wp_X0_otherOperation at h
  refine lv_aload_n hx hb dX0_otherOperation_0 rfl (lv_at hl 0 rfl) ?_
  refine va_get (D := D) (ci := 0) (v := .int (ks_op σ)) (C := RX0) (T := TX0) (N := 7) hx hb hts hin hown hK hP 0 rfl rfl 0 (by decide) (hts (.fieldLink RX0 11 "ClassSheets$Kind" "operation" "I") (List.mem_of_getElem? (i := 1) rfl)) (fun _ h9 => h9) rfl dX0_otherOperation_1 ?_
  refine lv_iconst (v := 1) hx hb dX0_otherOperation_4 (by decide) ?_
  refine lv_icmp_eq (tgt := 16) hx hb dX0_otherOperation_5 (by decide) (fun c1 => ?_) (fun c1 => ?_)
  · have h := h.1 c1
    refine lv_iload_n hx hb dX0_otherOperation_16 rfl (lv_at hl 1 rfl) ?_
    refine lv_iload_n hx hb dX0_otherOperation_17 rfl (lv_at hl 2 rfl) ?_
    refine lv_iadd hx hb dX0_otherOperation_18 ?_
    exact ret_i (Wd := KW cc ad) (u := σ) C0 h hP hS dX0_otherOperation_19
  · have h := h.2 c1
    refine lv_aload_n hx hb dX0_otherOperation_8 rfl (lv_at hl 0 rfl) ?_
    refine va_get (D := D) (ci := 0) (v := .int (ks_op σ)) (C := RX0) (T := TX0) (N := 7) hx hb hts hin hown hK hP 0 rfl rfl 0 (by decide) (hts (.fieldLink RX0 11 "ClassSheets$Kind" "operation" "I") (List.mem_of_getElem? (i := 1) rfl)) (fun _ h9 => h9) rfl dX0_otherOperation_9 ?_
    refine lv_iconst (v := 2) hx hb dX0_otherOperation_12 (by decide) ?_
    refine lv_icmp_ne (tgt := 20) hx hb dX0_otherOperation_13 (by decide) (fun c2 => ?_) (fun c2 => ?_)
    · have h := h.1 c2
      refine lv_iload_n hx hb dX0_otherOperation_20 rfl (lv_at hl 1 rfl) ?_
      refine lv_iload_n hx hb dX0_otherOperation_21 rfl (lv_at hl 2 rfl) ?_
      refine lv_icmp_lt (tgt := 31) hx hb dX0_otherOperation_22 (by decide) (fun c3 => ?_) (fun c3 => ?_)
      · have h := h.1 c3
        refine lv_bipush (v := (-9)) hx hb dX0_otherOperation_31 (by decide) ?_
        exact ret_i (Wd := KW cc ad) (u := σ) C0 h hP hS dX0_otherOperation_33
      · have h := h.2 c3
        refine lv_iload_n hx hb dX0_otherOperation_25 rfl (lv_at hl 1 rfl) ?_
        refine lv_iload_n hx hb dX0_otherOperation_26 rfl (lv_at hl 2 rfl) ?_
        refine lv_isub hx hb dX0_otherOperation_27 ?_
        refine lv_goto (tgt := 33) hx hb dX0_otherOperation_28 (by decide) ?_
        exact ret_i (Wd := KW cc ad) (u := σ) C0 h hP hS dX0_otherOperation_33
    · have h := h.2 c2
      refine lv_iload_n hx hb dX0_otherOperation_16 rfl (lv_at hl 1 rfl) ?_
      refine lv_iload_n hx hb dX0_otherOperation_17 rfl (lv_at hl 2 rfl) ?_
      refine lv_iadd hx hb dX0_otherOperation_18 ?_
      exact ret_i (Wd := KW cc ad) (u := σ) C0 h hP hS dX0_otherOperation_19
theorem ct_X0_otherOperation (l : Launch) (D : va_G) (cc : Nat → ClassId) (ad : Nat → Nat) (hd : DA 5 ad (fun _ => True)) (g : (Nat → Nat)) (σ : KS) (x1 : Int32) (x2 : Int32) : Ctr l yX0_otherOperation wsX0_otherOperation { frames := 0, cells := 0, slots := 0, locals := 0 } D cc (KW cc ad) 5 ad σ [.ref (ad 0), .int x1, .int x2] (fun r u => r = fn_X0_otherOperation σ x1 x2 ∧ u = σ) :=
  ctr_i (rt := (some .int)) (by decide +kernel) rfl hd (Nat.le_of_ble_eq_true rfl) (fun p e s m below meth c A C0 hd => wk_X0_otherOperation_0 C0 hd σ x1 x2 (pu_X0_otherOperation g σ x1 x2))
theorem hin_X0_withoutCarrying : ∀ w ∈ u_ws RX0 TX0 7, w ∈ wsX0_withoutCarrying := fun w h => List.mem_cons_of_mem _ (List.mem_append_right _ h)
set_option maxHeartbeats 4000000 in
set_option maxRecDepth 100000 in
theorem wk_X0_withoutCarrying_0 {p : Program} {l : Launch} {e : Env} {s : State} {m : MethodId} {args : Array Value} {below : List Frame} {meth : Method} {c : Code} {D : va_G} {cc : Nat → ClassId} {ad : Nat → Nat} {A : Nat → Prop} {Post : Int32 → KS → Prop} {g : (Nat → Nat)} (C0 : Cx p s m args meth c cX0_withoutCarrying 3 (some .int) RX0 wsX0_withoutCarrying D cc A) (hd : DA 5 ad A) (σ : KS) (x1 : Int32) (x2 : Int32) (h : wp_X0_withoutCarrying g Post σ x1 x2) : At_ p l e { frames := 1, cells := 0, slots := 0, locals := 21 } s m args below meth c (Qi_ below D (KW cc ad) A args s Post) D A (KW cc ad σ) 3 0 [(0, .ref (ad 0)), (1, .int x1), (2, .int x2)] [] := by
  obtain ⟨hx, hb, hml, hr, hown, hts, hlocks, hK, hA, hX⟩ := id C0
  have hin := hin_X0_withoutCarrying
  intro H locs ls hP hS hl
  unfold wp_X0_withoutCarrying at h
  refine lv_aload_n hx hb dX0_withoutCarrying_0 rfl (lv_at hl 0 rfl) ?_
  refine va_get (D := D) (ci := 0) (v := .int (ks_op σ)) (C := RX0) (T := TX0) (N := 7) hx hb hts hin hown hK hP 0 rfl rfl 0 (by decide) (hts (.fieldLink RX0 11 "ClassSheets$Kind" "operation" "I") (List.mem_of_getElem? (i := 1) rfl)) (fun _ h9 => h9) rfl dX0_withoutCarrying_1 ?_
  refine lv_if_ne (tgt := 14) hx hb dX0_withoutCarrying_4 (by decide) (fun c1 => ?_) (fun c1 => ?_)
  · have h := h.1 c1
    refine lv_iload_n hx hb dX0_withoutCarrying_14 rfl (lv_at hl 1 rfl) ?_
    refine lv_bipush (v := 10) hx hb dX0_withoutCarrying_15 (by decide) ?_
    refine lv_idiv hx hb dX0_withoutCarrying_17 (by decide) ?_
    refine lv_iload_n hx hb dX0_withoutCarrying_18 rfl (lv_at hl 2 rfl) ?_
    refine lv_bipush (v := 10) hx hb dX0_withoutCarrying_19 (by decide) ?_
    refine lv_idiv hx hb dX0_withoutCarrying_21 (by decide) ?_
    refine lv_isub hx hb dX0_withoutCarrying_22 ?_
    refine lv_bipush (v := 10) hx hb dX0_withoutCarrying_23 (by decide) ?_
    refine lv_imul hx hb dX0_withoutCarrying_25 ?_
    refine lv_iload_n hx hb dX0_withoutCarrying_26 rfl (lv_at hl 1 rfl) ?_
    refine lv_bipush (v := 10) hx hb dX0_withoutCarrying_27 (by decide) ?_
    refine lv_irem hx hb dX0_withoutCarrying_29 (by decide) ?_
    refine lv_iload_n hx hb dX0_withoutCarrying_30 rfl (lv_at hl 2 rfl) ?_
    refine lv_bipush (v := 10) hx hb dX0_withoutCarrying_31 (by decide) ?_
    refine lv_irem hx hb dX0_withoutCarrying_33 (by decide) ?_
    refine lv_isub hx hb dX0_withoutCarrying_34 ?_
    refine va_mabs hx hb (hml.trans hl.1.symm) hown (hts (.methodLink RX0 77 Lib.Math.abs.name) (List.mem_of_getElem? (i := 2) rfl)) (hts (.static Lib.Math.abs.name) (List.mem_of_getElem? (i := 3) rfl)) (hts (.initialized "java/lang/Math") (List.mem_of_getElem? (i := 4) rfl)) (hts (.code Lib.Math.abs.name Lib.Math.abs.code 1 (some .int)) (List.mem_of_getElem? (i := 5) rfl)) (by decide) (by simp [Value.category]) (Nat.zero_le _) (Nat.zero_le _) dX0_withoutCarrying_35 ?_
    refine lv_iadd hx hb dX0_withoutCarrying_38 ?_
    exact ret_i (Wd := KW cc ad) (u := σ) C0 h hP hS dX0_withoutCarrying_39
  · have h := h.2 c1
    refine lv_iload_n hx hb dX0_withoutCarrying_7 rfl (lv_at hl 1 rfl) ?_
    refine lv_iload_n hx hb dX0_withoutCarrying_8 rfl (lv_at hl 2 rfl) ?_
    refine lv_iadd hx hb dX0_withoutCarrying_9 ?_
    refine lv_bipush (v := 10) hx hb dX0_withoutCarrying_10 (by decide) ?_
    refine lv_isub hx hb dX0_withoutCarrying_12 ?_
    exact ret_i (Wd := KW cc ad) (u := σ) C0 h hP hS dX0_withoutCarrying_13
theorem ct_X0_withoutCarrying (l : Launch) (D : va_G) (cc : Nat → ClassId) (ad : Nat → Nat) (hd : DA 5 ad (fun _ => True)) (g : (Nat → Nat)) (σ : KS) (x1 : Int32) (x2 : Int32) : Ctr l yX0_withoutCarrying wsX0_withoutCarrying { frames := 1, cells := 0, slots := 0, locals := 21 } D cc (KW cc ad) 5 ad σ [.ref (ad 0), .int x1, .int x2] (fun r u => r = fn_X0_withoutCarrying σ x1 x2 ∧ u = σ) :=
  ctr_i (rt := (some .int)) (by decide +kernel) rfl hd (Nat.le_of_ble_eq_true rfl) (fun p e s m below meth c A C0 hd => wk_X0_withoutCarrying_0 C0 hd σ x1 x2 (pu_X0_withoutCarrying g σ x1 x2))
theorem hin_X0_slipped : ∀ w ∈ u_ws RX0 TX0 7, w ∈ wsX0_slipped := fun w h => List.mem_cons_of_mem _ (List.mem_append_right _ h)
set_option maxHeartbeats 4000000 in
set_option maxRecDepth 100000 in
theorem wk_X0_slipped_0 {p : Program} {l : Launch} {e : Env} {s : State} {m : MethodId} {args : Array Value} {below : List Frame} {meth : Method} {c : Code} {D : va_G} {cc : Nat → ClassId} {ad : Nat → Nat} {A : Nat → Prop} {Post : Int32 → KS → Prop} {g : (Nat → Nat)} (C0 : Cx p s m args meth c cX0_slipped 5 (some .int) RX0 wsX0_slipped D cc A) (hd : DA 5 ad A) (σ : KS) (x1 : Int32) (x2 : Int32) (x3 : Int32) (h : wp_X0_slipped g Post σ x1 x2 x3) : At_ p l e { frames := 2, cells := 0, slots := 0, locals := 43 } s m args below meth c (Qi_ below D (KW cc ad) A args s Post) D A (KW cc ad σ) 5 0 [(0, .ref (ad 0)), (1, .int x1), (2, .int x2), (3, .int x3)] [] := by
  obtain ⟨hx, hb, hml, hr, hown, hts, hlocks, hK, hA, hX⟩ := id C0
  have hin := hin_X0_slipped
  intro H locs ls hP hS hl
  unfold wp_X0_slipped at h
  refine lv_aload_n hx hb dX0_slipped_0 rfl (lv_at hl 0 rfl) ?_
  refine lv_iload_n hx hb dX0_slipped_1 rfl (lv_at hl 1 rfl) ?_
  refine lv_iload_n hx hb dX0_slipped_2 rfl (lv_at hl 2 rfl) ?_
  refine call_v (Wd := KW cc ad) (σ := σ) C0 hd lens_id (As := [.int x1, .int x2]) (rest := []) (ct_X0_result l D cc ad ⟨hd.1, fun _ _ => trivial⟩ g σ x1 x2) (cwV 2 hts gX0_slipped_X0_result rfl rfl rfl (by decide +kernel) ⟨Nat.le_of_ble_eq_true rfl, Nat.le_of_ble_eq_true rfl⟩) (va_recv hK hP (ci := 0) (q0 := 0) rfl rfl) hP hS rfl hl.1 rfl (by simp [Value.category]) dX0_slipped_3 (fun r1 u hp H locs hP hS => ?_)
  obtain ⟨hp1, hp2⟩ := hp
  subst hp1
  have hp2 := hp2.symm
  subst hp2
  have hP : va_P D vwCl (KW cc ad σ) H := hP
  refine lv_topi (fun x4_2 ex4_2 => ?_)
  have h := h x4_2 ex4_2
  refine lv_istore (lv' := [(4, .int x4_2), (0, .ref (ad 0)), (1, .int x1), (2, .int x2), (3, .int x3)]) hx hb dX0_slipped_6 hl (by decide) rfl (fun ls hl => ?_)
  refine lv_iload_n hx hb dX0_slipped_8 rfl (lv_at hl 4 rfl) ?_
  rcases Classical.em (x3 = 1) with c3 | c3
  · have h := h.1 c3
    refine lv_tableIn (off := 31) (tgt := 40) hx hb dX0_slipped_9 (by rw [c3]; decide) (by rw [c3]; decide) (by rw [c3]; decide) (by decide) ?_
    refine lv_aload_n hx hb dX0_slipped_40 rfl (lv_at hl 1 rfl) ?_
    refine lv_iload_n hx hb dX0_slipped_41 rfl (lv_at hl 2 rfl) ?_
    refine lv_iload_n hx hb dX0_slipped_42 rfl (lv_at hl 3 rfl) ?_
    refine call_v (Wd := KW cc ad) (σ := σ) C0 hd lens_id (As := [.int x1, .int x2]) (rest := []) (ct_X0_otherOperation l D cc ad ⟨hd.1, fun _ _ => trivial⟩ g σ x1 x2) (cwV 2 hts gX0_slipped_X0_otherOperation rfl rfl rfl (by decide +kernel) ⟨Nat.le_of_ble_eq_true rfl, Nat.le_of_ble_eq_true rfl⟩) (va_recv hK hP (ci := 0) (q0 := 0) rfl rfl) hP hS rfl hl.1 rfl (by simp [Value.category]) dX0_slipped_43 (fun r4 u hp H locs hP hS => ?_)
    obtain ⟨hp1, hp2⟩ := hp
    subst hp1
    have hp2 := hp2.symm
    subst hp2
    have hP : va_P D vwCl (KW cc ad σ) H := hP
    exact ret_i (Wd := KW cc ad) (u := σ) C0 h hP hS dX0_slipped_46
  · have h := h.2 c3
    rcases Classical.em (x3 = 2) with c5 | c5
    · have h := h.1 c5
      refine lv_tableIn (off := 38) (tgt := 47) hx hb dX0_slipped_9 (by rw [c5]; decide) (by rw [c5]; decide) (by rw [c5]; decide) (by decide) ?_
      refine lv_aload_n hx hb dX0_slipped_47 rfl (lv_at hl 1 rfl) ?_
      refine lv_iload_n hx hb dX0_slipped_48 rfl (lv_at hl 2 rfl) ?_
      refine lv_iload_n hx hb dX0_slipped_49 rfl (lv_at hl 3 rfl) ?_
      refine call_v (Wd := KW cc ad) (σ := σ) C0 hd lens_id (As := [.int x1, .int x2]) (rest := []) (ct_X0_carries l D cc ad ⟨hd.1, fun _ _ => trivial⟩ g σ x1 x2) (cwV 2 hts gX0_slipped_X0_carries rfl rfl rfl (by decide +kernel) ⟨Nat.le_of_ble_eq_true rfl, Nat.le_of_ble_eq_true rfl⟩) (va_recv hK hP (ci := 0) (q0 := 0) rfl rfl) hP hS rfl hl.1 rfl (by simp [Value.category]) dX0_slipped_50 (fun r6 u hp H locs hP hS => ?_)
      obtain ⟨hp1, hp2⟩ := hp
      subst hp1
      have hp2 := hp2.symm
      subst hp2
      have hP : va_P D vwCl (KW cc ad σ) H := hP
      refine lv_if_eq (tgt := 65) hx hb dX0_slipped_53 (by decide) (fun c7 => ?_) (fun c7 => ?_)
      · have h := h.1 c7
        refine lv_bipush (v := (-9)) hx hb dX0_slipped_65 (by decide) ?_
        exact ret_i (Wd := KW cc ad) (u := σ) C0 h hP hS dX0_slipped_67
      · have h := h.2 c7
        refine lv_aload_n hx hb dX0_slipped_56 rfl (lv_at hl 1 rfl) ?_
        refine lv_iload_n hx hb dX0_slipped_57 rfl (lv_at hl 2 rfl) ?_
        refine lv_iload_n hx hb dX0_slipped_58 rfl (lv_at hl 3 rfl) ?_
        refine call_v (Wd := KW cc ad) (σ := σ) C0 hd lens_id (As := [.int x1, .int x2]) (rest := []) (ct_X0_withoutCarrying l D cc ad ⟨hd.1, fun _ _ => trivial⟩ g σ x1 x2) (cwV 2 hts gX0_slipped_X0_withoutCarrying rfl rfl rfl (by decide +kernel) ⟨Nat.le_of_ble_eq_true rfl, Nat.le_of_ble_eq_true rfl⟩) (va_recv hK hP (ci := 0) (q0 := 0) rfl rfl) hP hS rfl hl.1 rfl (by simp [Value.category]) dX0_slipped_59 (fun r8 u hp H locs hP hS => ?_)
        obtain ⟨hp1, hp2⟩ := hp
        subst hp1
        have hp2 := hp2.symm
        subst hp2
        have hP : va_P D vwCl (KW cc ad σ) H := hP
        refine lv_goto (tgt := 67) hx hb dX0_slipped_62 (by decide) ?_
        exact ret_i (Wd := KW cc ad) (u := σ) C0 h hP hS dX0_slipped_67
    · have h := h.2 c5
      rcases Classical.em (x3 = 3) with c9 | c9
      · have h := h.1 c9
        refine lv_tableIn (off := 59) (tgt := 68) hx hb dX0_slipped_9 (by rw [c9]; decide) (by rw [c9]; decide) (by rw [c9]; decide) (by decide) ?_
        refine lv_iload hx hb dX0_slipped_68 (lv_at hl 0 rfl) ?_
        refine lv_iconst (v := 1) hx hb dX0_slipped_70 (by decide) ?_
        refine lv_iadd hx hb dX0_slipped_71 ?_
        exact ret_i (Wd := KW cc ad) (u := σ) C0 h hP hS dX0_slipped_72
      · have h := h.2 c9
        rcases Classical.em (x3 = 4) with c10 | c10
        · have h := h.1 c10
          refine lv_tableIn (off := 64) (tgt := 73) hx hb dX0_slipped_9 (by rw [c10]; decide) (by rw [c10]; decide) (by rw [c10]; decide) (by decide) ?_
          refine lv_iload hx hb dX0_slipped_73 (lv_at hl 0 rfl) ?_
          refine lv_if_le (tgt := 85) hx hb dX0_slipped_75 (by decide) (fun c11 => ?_) (fun c11 => ?_)
          · have h := h.1 c11
            refine lv_bipush (v := (-9)) hx hb dX0_slipped_85 (by decide) ?_
            exact ret_i (Wd := KW cc ad) (u := σ) C0 h hP hS dX0_slipped_87
          · have h := h.2 c11
            refine lv_iload hx hb dX0_slipped_78 (lv_at hl 0 rfl) ?_
            refine lv_iconst (v := 1) hx hb dX0_slipped_80 (by decide) ?_
            refine lv_isub hx hb dX0_slipped_81 ?_
            refine lv_goto (tgt := 87) hx hb dX0_slipped_82 (by decide) ?_
            exact ret_i (Wd := KW cc ad) (u := σ) C0 h hP hS dX0_slipped_87
        · have h := h.2 c10
          refine lv_tableOut (tgt := 88) hx hb dX0_slipped_9 (by have qc3 := lv_neT (a := 1) c3 (by decide); have qc5 := lv_neT (a := 2) c5 (by decide); have qc9 := lv_neT (a := 3) c9 (by decide); have qc10 := lv_neT (a := 4) c10 (by decide); omega) (by decide) ?_
          refine lv_iload hx hb dX0_slipped_88 (lv_at hl 0 rfl) ?_
          refine call_s (Wd := KW cc ad) (σ := σ) C0 hd (lens_un (adc := ad)) (As := [.int x4_2]) (rest := []) (ct_X0_exchanged l D cc ad da0 x4_2) (va_cwS 1 hts gX0_slipped_X0_exchanged rfl rfl rfl (by decide +kernel) ⟨Nat.le_of_ble_eq_true rfl, Nat.le_of_ble_eq_true rfl⟩) hP hS rfl hl.1 rfl (by simp [Value.category]) dX0_slipped_90 (fun r12 u hp H locs hP hS => ?_)
          obtain ⟨hp1, hp2⟩ := hp
          subst hp1
          have hP : va_P D vwCl (KW cc ad σ) H := hP
          exact ret_i (Wd := KW cc ad) (u := σ) C0 h hP hS dX0_slipped_93
theorem ct_X0_slipped (l : Launch) (D : va_G) (cc : Nat → ClassId) (ad : Nat → Nat) (hd : DA 5 ad (fun _ => True)) (g : (Nat → Nat)) (σ : KS) (x1 : Int32) (x2 : Int32) (x3 : Int32) : Ctr l yX0_slipped wsX0_slipped { frames := 2, cells := 0, slots := 0, locals := 43 } D cc (KW cc ad) 5 ad σ [.ref (ad 0), .int x1, .int x2, .int x3] (fun r u => r = fn_X0_slipped σ x1 x2 x3 ∧ u = σ) :=
  ctr_i (rt := (some .int)) (by decide +kernel) rfl hd (Nat.le_of_ble_eq_true rfl) (fun p e s m below meth c A C0 hd => wk_X0_slipped_0 C0 hd σ x1 x2 x3 (pu_X0_slipped g σ x1 x2 x3))
theorem hin_X0_isLawful : ∀ w ∈ u_ws RX0 TX0 7, w ∈ wsX0_isLawful := fun w h => List.mem_cons_of_mem _ (List.mem_append_right _ h)
set_option maxHeartbeats 4000000 in
set_option maxRecDepth 100000 in
theorem wk_X0_isLawful_0 {p : Program} {l : Launch} {e : Env} {s : State} {m : MethodId} {args : Array Value} {below : List Frame} {meth : Method} {c : Code} {D : va_G} {cc : Nat → ClassId} {ad : Nat → Nat} {A : Nat → Prop} {Post : Int32 → KS → Prop} {g : (Nat → Nat)} (C0 : Cx p s m args meth c cX0_isLawful 4 (some .boolean) RX0 wsX0_isLawful D cc A) (hd : DA 5 ad A) (σ : KS) (x1 : Int32) (x2 : Int32) (h : wp_X0_isLawful g Post σ x1 x2) : At_ p l e { frames := 1, cells := 0, slots := 0, locals := 22 } s m args below meth c (Qi_ below D (KW cc ad) A args s Post) D A (KW cc ad σ) 4 0 [(0, .ref (ad 0)), (1, .int x1), (2, .int x2)] [] := by
  obtain ⟨hx, hb, hml, hr, hown, hts, hlocks, hK, hA, hX⟩ := id C0
  have hin := hin_X0_isLawful
  intro H locs ls hP hS hl
  unfold wp_X0_isLawful at h
  refine lv_aload_n hx hb dX0_isLawful_0 rfl (lv_at hl 0 rfl) ?_
  refine lv_iload_n hx hb dX0_isLawful_1 rfl (lv_at hl 1 rfl) ?_
  refine lv_iload_n hx hb dX0_isLawful_2 rfl (lv_at hl 2 rfl) ?_
  refine call_v (Wd := KW cc ad) (σ := σ) C0 hd lens_id (As := [.int x1, .int x2]) (rest := []) (ct_X0_result l D cc ad ⟨hd.1, fun _ _ => trivial⟩ g σ x1 x2) (cwV 2 hts gX0_isLawful_X0_result rfl rfl rfl (by decide +kernel) ⟨Nat.le_of_ble_eq_true rfl, Nat.le_of_ble_eq_true rfl⟩) (va_recv hK hP (ci := 0) (q0 := 0) rfl rfl) hP hS rfl hl.1 rfl (by simp [Value.category]) dX0_isLawful_3 (fun r1 u hp H locs hP hS => ?_)
  obtain ⟨hp1, hp2⟩ := hp
  subst hp1
  have hp2 := hp2.symm
  subst hp2
  have hP : va_P D vwCl (KW cc ad σ) H := hP
  refine lv_topi (fun x3_2 ex3_2 => ?_)
  have h := h x3_2 ex3_2
  refine lv_istore_n (lv' := [(3, .int x3_2), (0, .ref (ad 0)), (1, .int x1), (2, .int x2)]) hx hb dX0_isLawful_6 rfl hl (by decide) rfl (fun ls hl => ?_)
  refine lv_iload_n hx hb dX0_isLawful_7 rfl (lv_at hl 0 rfl) ?_
  refine lv_aload_n hx hb dX0_isLawful_8 rfl (lv_at hl 1 rfl) ?_
  refine va_get (D := D) (ci := 0) (v := .ref (ad 1)) (C := RX0) (T := TX0) (N := 7) hx hb hts hin hown hK hP 0 rfl rfl 1 (by decide) (hts (.fieldLink RX0 15 "ClassSheets$Kind" "least" "[I") (List.mem_of_getElem? (i := 1) rfl)) (fun _ h9 => h9) rfl dX0_isLawful_9 ?_
  refine lv_iconst (v := 2) hx hb dX0_isLawful_12 (by decide) ?_
  obtain ⟨gi3, h⟩ := h
  refine va_iald (D := D) (f := ks_le σ) hx hb hK hP 1 0 rfl rfl gi3 dX0_isLawful_13 ?_
  refine lv_icmp_lt (tgt := 27) hx hb dX0_isLawful_14 (by decide) (fun c4 => ?_) (fun c4 => ?_)
  · have h := h.1 c4
    refine lv_iconst (v := 0) hx hb dX0_isLawful_27 (by decide) ?_
    exact ret_z (Wd := KW cc ad) (u := σ) C0 rfl h hP hS dX0_isLawful_28
  · have h := h.2 c4
    refine lv_iload_n hx hb dX0_isLawful_17 rfl (lv_at hl 0 rfl) ?_
    refine lv_aload_n hx hb dX0_isLawful_18 rfl (lv_at hl 1 rfl) ?_
    refine va_get (D := D) (ci := 0) (v := .ref (ad 2)) (C := RX0) (T := TX0) (N := 7) hx hb hts hin hown hK hP 0 rfl rfl 2 (by decide) (hts (.fieldLink RX0 19 "ClassSheets$Kind" "most" "[I") (List.mem_of_getElem? (i := 2) rfl)) (fun _ h9 => h9) rfl dX0_isLawful_19 ?_
    refine lv_iconst (v := 2) hx hb dX0_isLawful_22 (by decide) ?_
    obtain ⟨gi5, h⟩ := h
    refine va_iald (D := D) (f := ks_mo σ) hx hb hK hP 2 0 rfl rfl gi5 dX0_isLawful_23 ?_
    refine lv_icmp_le (tgt := 29) hx hb dX0_isLawful_24 (by decide) (fun c6 => ?_) (fun c6 => ?_)
    · have h := h.1 c6
      refine lv_aload_n hx hb dX0_isLawful_29 rfl (lv_at hl 1 rfl) ?_
      refine va_get (D := D) (ci := 0) (v := .ref (ad 3)) (C := RX0) (T := TX0) (N := 7) hx hb hts hin hown hK hP 0 rfl rfl 3 (by decide) (hts (.fieldLink RX0 22 "ClassSheets$Kind" "rules" "[I") (List.mem_of_getElem? (i := 3) rfl)) (fun _ h9 => h9) rfl dX0_isLawful_30 ?_
      refine lv_iconst (v := 0) hx hb dX0_isLawful_33 (by decide) ?_
      obtain ⟨gi7, h⟩ := h
      refine va_iald (D := D) (f := ks_ru σ) hx hb hK hP 3 0 rfl rfl gi7 dX0_isLawful_34 ?_
      rcases Classical.em ((ks_ru σ (0 : Int32).toNatClampNeg) = 1) with c8 | c8
      · have h := h.1 c8
        refine lv_tableIn (off := 25) (tgt := 60) hx hb dX0_isLawful_35 (by rw [c8]; decide) (by rw [c8]; decide) (by rw [c8]; decide) (by decide) ?_
        refine lv_aload_n hx hb dX0_isLawful_60 rfl (lv_at hl 1 rfl) ?_
        refine lv_iload_n hx hb dX0_isLawful_61 rfl (lv_at hl 2 rfl) ?_
        refine lv_iload_n hx hb dX0_isLawful_62 rfl (lv_at hl 3 rfl) ?_
        refine call_v (Wd := KW cc ad) (σ := σ) C0 hd lens_id (As := [.int x1, .int x2]) (rest := []) (ct_X0_carries l D cc ad ⟨hd.1, fun _ _ => trivial⟩ g σ x1 x2) (cwV 2 hts gX0_isLawful_X0_carries rfl rfl rfl (by decide +kernel) ⟨Nat.le_of_ble_eq_true rfl, Nat.le_of_ble_eq_true rfl⟩) (va_recv hK hP (ci := 0) (q0 := 0) rfl rfl) hP hS rfl hl.1 rfl (by simp [Value.category]) dX0_isLawful_63 (fun r9 u hp H locs hP hS => ?_)
        obtain ⟨hp1, hp2⟩ := hp
        subst hp1
        have hp2 := hp2.symm
        subst hp2
        have hP : va_P D vwCl (KW cc ad σ) H := hP
        refine lv_if_ne (tgt := 73) hx hb dX0_isLawful_66 (by decide) (fun c10 => ?_) (fun c10 => ?_)
        · have h := h.1 c10
          refine lv_iconst (v := 0) hx hb dX0_isLawful_73 (by decide) ?_
          exact ret_z (Wd := KW cc ad) (u := σ) C0 rfl h hP hS dX0_isLawful_74
        · have h := h.2 c10
          refine lv_iconst (v := 1) hx hb dX0_isLawful_69 (by decide) ?_
          refine lv_goto (tgt := 74) hx hb dX0_isLawful_70 (by decide) ?_
          exact ret_z (Wd := KW cc ad) (u := σ) C0 rfl h hP hS dX0_isLawful_74
      · have h := h.2 c8
        rcases Classical.em ((ks_ru σ (0 : Int32).toNatClampNeg) = 2) with c11 | c11
        · have h := h.1 c11
          refine lv_tableIn (off := 40) (tgt := 75) hx hb dX0_isLawful_35 (by rw [c11]; decide) (by rw [c11]; decide) (by rw [c11]; decide) (by decide) ?_
          refine lv_aload_n hx hb dX0_isLawful_75 rfl (lv_at hl 1 rfl) ?_
          refine lv_iload_n hx hb dX0_isLawful_76 rfl (lv_at hl 2 rfl) ?_
          refine lv_iload_n hx hb dX0_isLawful_77 rfl (lv_at hl 3 rfl) ?_
          refine call_v (Wd := KW cc ad) (σ := σ) C0 hd lens_id (As := [.int x1, .int x2]) (rest := []) (ct_X0_carries l D cc ad ⟨hd.1, fun _ _ => trivial⟩ g σ x1 x2) (cwV 2 hts gX0_isLawful_X0_carries rfl rfl rfl (by decide +kernel) ⟨Nat.le_of_ble_eq_true rfl, Nat.le_of_ble_eq_true rfl⟩) (va_recv hK hP (ci := 0) (q0 := 0) rfl rfl) hP hS rfl hl.1 rfl (by simp [Value.category]) dX0_isLawful_78 (fun r12 u hp H locs hP hS => ?_)
          obtain ⟨hp1, hp2⟩ := hp
          subst hp1
          have hp2 := hp2.symm
          subst hp2
          have hP : va_P D vwCl (KW cc ad σ) H := hP
          exact ret_z (Wd := KW cc ad) (u := σ) C0 h.1 h.2 hP hS dX0_isLawful_81
        · have h := h.2 c11
          rcases Classical.em ((ks_ru σ (0 : Int32).toNatClampNeg) = 3) with c13 | c13
          · have h := h.1 c13
            refine lv_tableIn (off := 47) (tgt := 82) hx hb dX0_isLawful_35 (by rw [c13]; decide) (by rw [c13]; decide) (by rw [c13]; decide) (by decide) ?_
            refine lv_aload_n hx hb dX0_isLawful_82 rfl (lv_at hl 1 rfl) ?_
            refine lv_iload_n hx hb dX0_isLawful_83 rfl (lv_at hl 2 rfl) ?_
            refine lv_iload_n hx hb dX0_isLawful_84 rfl (lv_at hl 3 rfl) ?_
            refine call_v (Wd := KW cc ad) (σ := σ) C0 hd lens_id (As := [.int x1, .int x2]) (rest := []) (ct_X0_otherOperation l D cc ad ⟨hd.1, fun _ _ => trivial⟩ g σ x1 x2) (cwV 2 hts gX0_isLawful_X0_otherOperation rfl rfl rfl (by decide +kernel) ⟨Nat.le_of_ble_eq_true rfl, Nat.le_of_ble_eq_true rfl⟩) (va_recv hK hP (ci := 0) (q0 := 0) rfl rfl) hP hS rfl hl.1 rfl (by simp [Value.category]) dX0_isLawful_85 (fun r14 u hp H locs hP hS => ?_)
            obtain ⟨hp1, hp2⟩ := hp
            subst hp1
            have hp2 := hp2.symm
            subst hp2
            have hP : va_P D vwCl (KW cc ad σ) H := hP
            refine lv_iload_n hx hb dX0_isLawful_88 rfl (lv_at hl 0 rfl) ?_
            refine lv_icmp_eq (tgt := 96) hx hb dX0_isLawful_89 (by decide) (fun c15 => ?_) (fun c15 => ?_)
            · have h := h.1 c15
              refine lv_iconst (v := 0) hx hb dX0_isLawful_96 (by decide) ?_
              exact ret_z (Wd := KW cc ad) (u := σ) C0 rfl h hP hS dX0_isLawful_97
            · have h := h.2 c15
              refine lv_iconst (v := 1) hx hb dX0_isLawful_92 (by decide) ?_
              refine lv_goto (tgt := 97) hx hb dX0_isLawful_93 (by decide) ?_
              exact ret_z (Wd := KW cc ad) (u := σ) C0 rfl h hP hS dX0_isLawful_97
          · have h := h.2 c13
            refine lv_tableOut (tgt := 98) hx hb dX0_isLawful_35 (by have qc8 := lv_neT (a := 1) c8 (by decide); have qc11 := lv_neT (a := 2) c11 (by decide); have qc13 := lv_neT (a := 3) c13 (by decide); omega) (by decide) ?_
            refine lv_iconst (v := 1) hx hb dX0_isLawful_98 (by decide) ?_
            exact ret_z (Wd := KW cc ad) (u := σ) C0 rfl h hP hS dX0_isLawful_99
    · have h := h.2 c6
      refine lv_iconst (v := 0) hx hb dX0_isLawful_27 (by decide) ?_
      exact ret_z (Wd := KW cc ad) (u := σ) C0 rfl h hP hS dX0_isLawful_28
theorem ct_X0_isLawful (l : Launch) (D : va_G) (cc : Nat → ClassId) (ad : Nat → Nat) (hd : DA 5 ad (fun _ => True)) (g : (Nat → Nat)) (σ : KS) (x1 : Int32) (x2 : Int32) : Ctr l yX0_isLawful wsX0_isLawful { frames := 1, cells := 0, slots := 0, locals := 22 } D cc (KW cc ad) 5 ad σ [.ref (ad 0), .int x1, .int x2] (fun r u => r = fn_X0_isLawful σ x1 x2 ∧ u = σ) :=
  ctr_i (rt := (some .boolean)) (by decide +kernel) rfl hd (Nat.le_of_ble_eq_true rfl) (fun p e s m below meth c A C0 hd => wk_X0_isLawful_0 C0 hd σ x1 x2 (pu_X0_isLawful g σ x1 x2))
theorem hin_X0_countBelow : ∀ w ∈ u_ws RX0 TX0 7, w ∈ wsX0_countBelow := fun w h => List.mem_cons_of_mem _ (List.mem_append_right _ h)
set_option maxHeartbeats 4000000 in
set_option maxRecDepth 100000 in
theorem wk_X0_countBelow_10 {p : Program} {l : Launch} {e : Env} {s : State} {m : MethodId} {args : Array Value} {below : List Frame} {meth : Method} {c : Code} {D : va_G} {cc : Nat → ClassId} {ad : Nat → Nat} {A : Nat → Prop} {Post : Int32 → KS → Prop} {g : (Nat → Nat)} (C0 : Cx p s m args meth c cX0_countBelow 5 (some .int) RX0 wsX0_countBelow D cc A) (hd : DA 5 ad A) {K10 : (KS × Int32 × Int32 × Int32 × Int32) → Prop} (hK10 : ∀ a, K10 a → At_ p l e { frames := 2, cells := 0, slots := 0, locals := 45 } s m args below meth c (Qi_ below D (KW cc ad) A args s Post) D A (KW cc ad (a.1)) 5 10 [(0, .ref (ad 0)), (1, .int (a.2.1)), (2, .int (a.2.2.1)), (3, .int (a.2.2.2.1)), (4, .int (a.2.2.2.2))] []) (σ : KS) (x1 : Int32) (x2 : Int32) (x3 : Int32) (x4 : Int32) (h : wp_X0_countBelow_10 g K10 Post σ x1 x2 x3 x4) : At_ p l e { frames := 2, cells := 0, slots := 0, locals := 45 } s m args below meth c (Qi_ below D (KW cc ad) A args s Post) D A (KW cc ad σ) 5 10 [(0, .ref (ad 0)), (1, .int x1), (2, .int x2), (3, .int x3), (4, .int x4)] [] := by
  obtain ⟨hx, hb, hml, hr, hown, hts, hlocks, hK, hA, hX⟩ := id C0
  have hin := hin_X0_countBelow
  intro H locs ls hP hS hl
  unfold wp_X0_countBelow_10 at h
  refine lv_iload hx hb dX0_countBelow_10 (lv_at hl 4 rfl) ?_
  refine lv_iload_n hx hb dX0_countBelow_12 rfl (lv_at hl 2 rfl) ?_
  refine lv_icmp_ge (tgt := 35) hx hb dX0_countBelow_13 (by decide) (fun c1 => ?_) (fun c1 => ?_)
  · have h := h.1 c1
    refine lv_iload_n hx hb dX0_countBelow_35 rfl (lv_at hl 3 rfl) ?_
    exact ret_i (Wd := KW cc ad) (u := σ) C0 h hP hS dX0_countBelow_36
  · have h := h.2 c1
    refine lv_aload_n hx hb dX0_countBelow_16 rfl (lv_at hl 0 rfl) ?_
    refine lv_iload_n hx hb dX0_countBelow_17 rfl (lv_at hl 1 rfl) ?_
    refine lv_iload hx hb dX0_countBelow_18 (lv_at hl 4 rfl) ?_
    refine call_v (Wd := KW cc ad) (σ := σ) C0 hd lens_id (As := [.int x1, .int x4]) (rest := []) (ct_X0_isLawful l D cc ad ⟨hd.1, fun _ _ => trivial⟩ g σ x1 x4) (cwV 2 hts gX0_countBelow_X0_isLawful rfl rfl rfl (by decide +kernel) ⟨Nat.le_of_ble_eq_true rfl, Nat.le_of_ble_eq_true rfl⟩) (va_recv hK hP (ci := 0) (q0 := 0) rfl rfl) hP hS rfl hl.1 rfl (by simp [Value.category]) dX0_countBelow_20 (fun r2 u hp H locs hP hS => ?_)
    obtain ⟨hp1, hp2⟩ := hp
    subst hp1
    have hp2 := hp2.symm
    subst hp2
    have hP : va_P D vwCl (KW cc ad σ) H := hP
    refine lv_if_eq (tgt := 29) hx hb dX0_countBelow_23 (by decide) (fun c3 => ?_) (fun c3 => ?_)
    · have h := h.1 c3
      obtain ⟨x4_4, ex4_4⟩ : ∃ y : Int32, y = x4 + 1 := ⟨_, rfl⟩
      have h := h x4_4 ex4_4
      refine lv_iinc (v := x4_4) (lv' := [(4, .int x4_4), (0, .ref (ad 0)), (1, .int x1), (2, .int x2), (3, .int x3)]) hx hb dX0_countBelow_29 hl (k := 4) rfl (by rw [ex4_4]; rfl) (by decide) rfl (fun ls hl => ?_)
      refine lv_goto (tgt := 10) hx hb dX0_countBelow_32 (by decide) ?_
      exact hK10 (σ, x1, x2, x3, x4_4) h H locs ls hP hS (lv_sub hl [1, 2, 3, 4, 0] rfl)
    · have h := h.2 c3
      obtain ⟨x3_5, ex3_5⟩ : ∃ y : Int32, y = x3 + 1 := ⟨_, rfl⟩
      have h := h x3_5 ex3_5
      refine lv_iinc (v := x3_5) (lv' := [(3, .int x3_5), (0, .ref (ad 0)), (1, .int x1), (2, .int x2), (4, .int x4)]) hx hb dX0_countBelow_26 hl (k := 3) rfl (by rw [ex3_5]; rfl) (by decide) rfl (fun ls hl => ?_)
      obtain ⟨x4_6, ex4_6⟩ : ∃ y : Int32, y = x4 + 1 := ⟨_, rfl⟩
      have h := h x4_6 ex4_6
      refine lv_iinc (v := x4_6) (lv' := [(4, .int x4_6), (3, .int x3_5), (0, .ref (ad 0)), (1, .int x1), (2, .int x2)]) hx hb dX0_countBelow_29 hl (k := 4) rfl (by rw [ex4_6]; rfl) (by decide) rfl (fun ls hl => ?_)
      refine lv_goto (tgt := 10) hx hb dX0_countBelow_32 (by decide) ?_
      exact hK10 (σ, x1, x2, x3_5, x4_6) h H locs ls hP hS (lv_sub hl [2, 3, 4, 1, 0] rfl)
set_option maxHeartbeats 4000000 in
set_option maxRecDepth 100000 in
theorem wk_X0_countBelow_0 {p : Program} {l : Launch} {e : Env} {s : State} {m : MethodId} {args : Array Value} {below : List Frame} {meth : Method} {c : Code} {D : va_G} {cc : Nat → ClassId} {ad : Nat → Nat} {A : Nat → Prop} {Post : Int32 → KS → Prop} {g : (Nat → Nat)} (C0 : Cx p s m args meth c cX0_countBelow 5 (some .int) RX0 wsX0_countBelow D cc A) (hd : DA 5 ad A) (σ : KS) (x1 : Int32) (x2 : Int32) (h : wp_X0_countBelow g Post σ x1 x2) : At_ p l e { frames := 2, cells := 0, slots := 0, locals := 45 } s m args below meth c (Qi_ below D (KW cc ad) A args s Post) D A (KW cc ad σ) 5 0 [(0, .ref (ad 0)), (1, .int x1), (2, .int x2)] [] := by
  obtain ⟨hx, hb, hml, hr, hown, hts, hlocks, hK, hA, hX⟩ := id C0
  have hin := hin_X0_countBelow
  intro H locs ls hP hS hl
  unfold wp_X0_countBelow at h
  refine lv_iconst (v := 0) hx hb dX0_countBelow_0 (by decide) ?_
  refine lv_istore_n (lv' := [(3, .int 0), (0, .ref (ad 0)), (1, .int x1), (2, .int x2)]) hx hb dX0_countBelow_1 rfl hl (by decide) rfl (fun ls hl => ?_)
  refine lv_aload_n hx hb dX0_countBelow_2 rfl (lv_at hl 1 rfl) ?_
  refine va_get (D := D) (ci := 0) (v := .ref (ad 1)) (C := RX0) (T := TX0) (N := 7) hx hb hts hin hown hK hP 0 rfl rfl 1 (by decide) (hts (.fieldLink RX0 15 "ClassSheets$Kind" "least" "[I") (List.mem_of_getElem? (i := 1) rfl)) (fun _ h9 => h9) rfl dX0_countBelow_3 ?_
  refine lv_iconst (v := 1) hx hb dX0_countBelow_6 (by decide) ?_
  obtain ⟨gi1, h⟩ := h
  refine va_iald (D := D) (f := ks_le σ) hx hb hK hP 1 0 rfl rfl gi1 dX0_countBelow_7 ?_
  refine lv_topi (fun x4_2 ex4_2 => ?_)
  have h := h x4_2 ex4_2
  refine lv_istore (lv' := [(4, .int x4_2), (3, .int 0), (0, .ref (ad 0)), (1, .int x1), (2, .int x2)]) hx hb dX0_countBelow_8 hl (by decide) rfl (fun ls hl => ?_)
  exact lp_at (Wt := fun a => At_ p l e { frames := 2, cells := 0, slots := 0, locals := 45 } s m args below meth c (Qi_ below D (KW cc ad) A args s Post) D A (KW cc ad (a.1)) 5 10 [(0, .ref (ad 0)), (1, .int (a.2.1)), (2, .int (a.2.2.1)), (3, .int (a.2.2.2.1)), (4, .int (a.2.2.2.2))] []) (fun K hK a h => wk_X0_countBelow_10 C0 hd hK a.1 a.2.1 a.2.2.1 a.2.2.2.1 a.2.2.2.2 h) h H locs ls hP hS (lv_sub hl [2, 3, 4, 1, 0] rfl)
theorem ct_X0_countBelow (l : Launch) (D : va_G) (cc : Nat → ClassId) (ad : Nat → Nat) (hd : DA 5 ad (fun _ => True)) (g : (Nat → Nat)) (σ : KS) (x1 : Int32) (x2 : Int32) (hp : pr_X0_countBelow g σ x1 x2) : Ctr l yX0_countBelow wsX0_countBelow { frames := 2, cells := 0, slots := 0, locals := 45 } D cc (KW cc ad) 5 ad σ [.ref (ad 0), .int x1, .int x2] (fun r u => r = fn_X0_countBelow g σ x1 x2 ∧ u = σ) :=
  ctr_i (rt := (some .int)) (by decide +kernel) rfl hd (Nat.le_of_ble_eq_true rfl) (fun p e s m below meth c A C0 hd => wk_X0_countBelow_0 C0 hd σ x1 x2 (pu_X0_countBelow g σ x1 x2 hp))
theorem hin_X0_countAnew : ∀ w ∈ u_ws RX0 TX0 7, w ∈ wsX0_countAnew := fun w h => List.mem_cons_of_mem _ (List.mem_append_right _ h)
set_option maxHeartbeats 4000000 in
set_option maxRecDepth 100000 in
theorem wk_X0_countAnew_12 {p : Program} {l : Launch} {e : Env} {s : State} {m : MethodId} {args : Array Value} {below : List Frame} {meth : Method} {c : Code} {D : va_G} {cc : Nat → ClassId} {ad : Nat → Nat} {A : Nat → Prop} {Post : Int32 → KS → Prop} {g : (Nat → Nat)} (C0 : Cx p s m args meth c cX0_countAnew 2 none RX0 wsX0_countAnew D cc A) (hd : DA 5 ad A) {K12 : (KS × Int32) → Prop} (hK12 : ∀ a, K12 a → At_ p l e { frames := 3, cells := 0, slots := 0, locals := 69 } s m args below meth c (Qv_ below D (KW cc ad) A args s Post) D A (KW cc ad (a.1)) 2 12 [(0, .ref (ad 0)), (1, .int (a.2))] []) (σ : KS) (x1 : Int32) (h : wp_X0_countAnew_12 g K12 Post σ x1) : At_ p l e { frames := 3, cells := 0, slots := 0, locals := 69 } s m args below meth c (Qv_ below D (KW cc ad) A args s Post) D A (KW cc ad σ) 2 12 [(0, .ref (ad 0)), (1, .int x1)] [] := by
  obtain ⟨hx, hb, hml, hr, hown, hts, hlocks, hK, hA, hX⟩ := id C0
  have hin := hin_X0_countAnew
  intro H locs ls hP hS hl
  unfold wp_X0_countAnew_12 at h
  refine lv_iload_n hx hb dX0_countAnew_12 rfl (lv_at hl 1 rfl) ?_
  refine lv_aload_n hx hb dX0_countAnew_13 rfl (lv_at hl 0 rfl) ?_
  refine va_get (D := D) (ci := 0) (v := .ref (ad 2)) (C := RX0) (T := TX0) (N := 7) hx hb hts hin hown hK hP 0 rfl rfl 2 (by decide) (hts (.fieldLink RX0 19 "ClassSheets$Kind" "most" "[I") (List.mem_of_getElem? (i := 3) rfl)) (fun _ h9 => h9) rfl dX0_countAnew_14 ?_
  refine lv_iconst (v := 0) hx hb dX0_countAnew_17 (by decide) ?_
  obtain ⟨gi1, h⟩ := h
  refine va_iald (D := D) (f := ks_mo σ) hx hb hK hP 2 0 rfl rfl gi1 dX0_countAnew_18 ?_
  refine lv_icmp_gt (tgt := 60) hx hb dX0_countAnew_19 (by decide) (fun c2 => ?_) (fun c2 => ?_)
  · have h := h.1 c2
    exact ret_v (Wd := KW cc ad) (u := σ) C0 h hP hS dX0_countAnew_60
  · have h := h.2 c2
    refine lv_aload_n hx hb dX0_countAnew_22 rfl (lv_at hl 0 rfl) ?_
    refine va_get (D := D) (ci := 0) (v := .ref (ad 4)) (C := RX0) (T := TX0) (N := 7) hx hb hts hin hown hK hP 0 rfl rfl 4 (by decide) (hts (.fieldLink RX0 25 "ClassSheets$Kind" "before" "[I") (List.mem_of_getElem? (i := 4) rfl)) (fun _ h9 => h9) rfl dX0_countAnew_23 ?_
    refine lv_iload_n hx hb dX0_countAnew_26 rfl (lv_at hl 1 rfl) ?_
    refine lv_aload_n hx hb dX0_countAnew_27 rfl (lv_at hl 0 rfl) ?_
    refine va_get (D := D) (ci := 0) (v := .int (ks_co σ)) (C := RX0) (T := TX0) (N := 7) hx hb hts hin hown hK hP 0 rfl rfl 5 (by decide) (hts (.fieldLink RX0 28 "ClassSheets$Kind" "count" "I") (List.mem_of_getElem? (i := 1) rfl)) (fun _ h9 => h9) rfl dX0_countAnew_28 ?_
    obtain ⟨gi3, h⟩ := h
    refine va_iast (D := D) (f := ks_be σ) (x := (ks_co σ)) hx hb hK hP (kD hd) hS 4 0 rfl rfl gi3 dX0_countAnew_31 (fun H locs hP _ hS => ?_)
    have hP : va_P D vwCl (KW cc ad (ks_s_be σ (upd (ks_be σ) x1.toNatClampNeg (ks_co σ)))) H := hP
    refine lv_aload_n hx hb dX0_countAnew_32 rfl (lv_at hl 0 rfl) ?_
    refine lv_dup hx hb dX0_countAnew_33 rfl ?_
    refine va_get (D := D) (ci := 0) (v := .int (ks_co (ks_s_be σ (upd (ks_be σ) x1.toNatClampNeg (ks_co σ))))) (C := RX0) (T := TX0) (N := 7) hx hb hts hin hown hK hP 0 rfl rfl 5 (by decide) (hts (.fieldLink RX0 28 "ClassSheets$Kind" "count" "I") (List.mem_of_getElem? (i := 1) rfl)) (fun _ h9 => h9) rfl dX0_countAnew_34 ?_
    refine lv_aload_n hx hb dX0_countAnew_37 rfl (lv_at hl 0 rfl) ?_
    refine lv_iload_n hx hb dX0_countAnew_38 rfl (lv_at hl 1 rfl) ?_
    refine lv_aload_n hx hb dX0_countAnew_39 rfl (lv_at hl 0 rfl) ?_
    refine va_get (D := D) (ci := 0) (v := .ref (ad 2)) (C := RX0) (T := TX0) (N := 7) hx hb hts hin hown hK hP 0 rfl rfl 2 (by decide) (hts (.fieldLink RX0 19 "ClassSheets$Kind" "most" "[I") (List.mem_of_getElem? (i := 3) rfl)) (fun _ h9 => h9) rfl dX0_countAnew_40 ?_
    refine lv_iconst (v := 1) hx hb dX0_countAnew_43 (by decide) ?_
    obtain ⟨gi4, h⟩ := h
    refine va_iald (D := D) (f := ks_mo (ks_s_be σ (upd (ks_be σ) x1.toNatClampNeg (ks_co σ)))) hx hb hK hP 2 0 rfl rfl gi4 dX0_countAnew_44 ?_
    refine lv_iconst (v := 1) hx hb dX0_countAnew_45 (by decide) ?_
    refine lv_iadd hx hb dX0_countAnew_46 ?_
    obtain ⟨gp5, h⟩ := h
    refine call_v (Wd := KW cc ad) (σ := (ks_s_be σ (upd (ks_be σ) x1.toNatClampNeg (ks_co σ)))) C0 hd lens_id (As := [.int x1, .int ((ks_mo (ks_s_be σ (upd (ks_be σ) x1.toNatClampNeg (ks_co σ))) (1 : Int32).toNatClampNeg) + 1)]) (rest := [.int (ks_co (ks_s_be σ (upd (ks_be σ) x1.toNatClampNeg (ks_co σ)))), .ref (ad 0)]) (ct_X0_countBelow l D cc ad ⟨hd.1, fun _ _ => trivial⟩ g (ks_s_be σ (upd (ks_be σ) x1.toNatClampNeg (ks_co σ))) x1 ((ks_mo (ks_s_be σ (upd (ks_be σ) x1.toNatClampNeg (ks_co σ))) (1 : Int32).toNatClampNeg) + 1) gp5) (cwV 2 hts gX0_countAnew_X0_countBelow rfl rfl rfl (by decide +kernel) ⟨Nat.le_of_ble_eq_true rfl, Nat.le_of_ble_eq_true rfl⟩) (va_recv hK hP (ci := 0) (q0 := 0) rfl rfl) hP hS rfl hl.1 rfl (by simp [Value.category]) dX0_countAnew_47 (fun r6 u hp H locs hP hS => ?_)
    obtain ⟨hp1, hp2⟩ := hp
    subst hp1
    have hp2 := hp2.symm
    subst hp2
    have hP : va_P D vwCl (KW cc ad (ks_s_be σ (upd (ks_be σ) x1.toNatClampNeg (ks_co σ)))) H := hP
    refine lv_iadd hx hb dX0_countAnew_50 ?_
    refine va_put (D := D) (ci := 0) (v := .int ((ks_co (ks_s_be σ (upd (ks_be σ) x1.toNatClampNeg (ks_co σ)))) + (fn_X0_countBelow g (ks_s_be σ (upd (ks_be σ) x1.toNatClampNeg (ks_co σ))) x1 ((ks_mo (ks_s_be σ (upd (ks_be σ) x1.toNatClampNeg (ks_co σ))) (1 : Int32).toNatClampNeg) + 1)))) (ty := .int) (C := RX0) (T := TX0) (N := 7) hx hb hts hin tyX0 tyX0_ok nmX0 hown hK hP (kD hd) hS 0 rfl rfl 5 (by decide) (hts (.fieldLink RX0 28 "ClassSheets$Kind" "count" "I") (List.mem_of_getElem? (i := 1) rfl)) (fun _ h9 => h9) rfl (by decide +kernel) rfl rfl (Nat.le_of_ble_eq_true rfl) dX0_countAnew_51 (fun H locs hP _ hS => ?_)
    have hP : va_P D vwCl (KW cc ad (ks_s_co (ks_s_be σ (upd (ks_be σ) x1.toNatClampNeg (ks_co σ))) ((ks_co (ks_s_be σ (upd (ks_be σ) x1.toNatClampNeg (ks_co σ)))) + (fn_X0_countBelow g (ks_s_be σ (upd (ks_be σ) x1.toNatClampNeg (ks_co σ))) x1 ((ks_mo (ks_s_be σ (upd (ks_be σ) x1.toNatClampNeg (ks_co σ))) (1 : Int32).toNatClampNeg) + 1))))) H := hP
    obtain ⟨x1_7, ex1_7⟩ : ∃ y : Int32, y = x1 + 1 := ⟨_, rfl⟩
    have h := h x1_7 ex1_7
    refine lv_iinc (v := x1_7) (lv' := [(1, .int x1_7), (0, .ref (ad 0))]) hx hb dX0_countAnew_54 hl (k := 1) rfl (by rw [ex1_7]; rfl) (by decide) rfl (fun ls hl => ?_)
    refine lv_goto (tgt := 12) hx hb dX0_countAnew_57 (by decide) ?_
    exact hK12 ((ks_s_co (ks_s_be σ (upd (ks_be σ) x1.toNatClampNeg (ks_co σ))) ((ks_co (ks_s_be σ (upd (ks_be σ) x1.toNatClampNeg (ks_co σ)))) + (fn_X0_countBelow g (ks_s_be σ (upd (ks_be σ) x1.toNatClampNeg (ks_co σ))) x1 ((ks_mo (ks_s_be σ (upd (ks_be σ) x1.toNatClampNeg (ks_co σ))) (1 : Int32).toNatClampNeg) + 1)))), x1_7) h H locs ls hP hS (lv_sub hl [1, 0] rfl)
set_option maxHeartbeats 4000000 in
set_option maxRecDepth 100000 in
theorem wk_X0_countAnew_0 {p : Program} {l : Launch} {e : Env} {s : State} {m : MethodId} {args : Array Value} {below : List Frame} {meth : Method} {c : Code} {D : va_G} {cc : Nat → ClassId} {ad : Nat → Nat} {A : Nat → Prop} {Post : Int32 → KS → Prop} {g : (Nat → Nat)} (C0 : Cx p s m args meth c cX0_countAnew 2 none RX0 wsX0_countAnew D cc A) (hd : DA 5 ad A) (σ : KS) (h : wp_X0_countAnew g Post σ) : At_ p l e { frames := 3, cells := 0, slots := 0, locals := 69 } s m args below meth c (Qv_ below D (KW cc ad) A args s Post) D A (KW cc ad σ) 2 0 [(0, .ref (ad 0))] [] := by
  obtain ⟨hx, hb, hml, hr, hown, hts, hlocks, hK, hA, hX⟩ := id C0
  have hin := hin_X0_countAnew
  intro H locs ls hP hS hl
  unfold wp_X0_countAnew at h
  refine lv_aload_n hx hb dX0_countAnew_0 rfl (lv_at hl 0 rfl) ?_
  refine lv_iconst (v := 0) hx hb dX0_countAnew_1 (by decide) ?_
  refine va_put (D := D) (ci := 0) (v := .int 0) (ty := .int) (C := RX0) (T := TX0) (N := 7) hx hb hts hin tyX0 tyX0_ok nmX0 hown hK hP (kD hd) hS 0 rfl rfl 5 (by decide) (hts (.fieldLink RX0 28 "ClassSheets$Kind" "count" "I") (List.mem_of_getElem? (i := 1) rfl)) (fun _ h9 => h9) rfl (by decide +kernel) rfl rfl (Nat.le_of_ble_eq_true rfl) dX0_countAnew_2 (fun H locs hP _ hS => ?_)
  have hP : va_P D vwCl (KW cc ad (ks_s_co σ 0)) H := hP
  refine lv_aload_n hx hb dX0_countAnew_5 rfl (lv_at hl 0 rfl) ?_
  refine va_get (D := D) (ci := 0) (v := .ref (ad 1)) (C := RX0) (T := TX0) (N := 7) hx hb hts hin hown hK hP 0 rfl rfl 1 (by decide) (hts (.fieldLink RX0 15 "ClassSheets$Kind" "least" "[I") (List.mem_of_getElem? (i := 2) rfl)) (fun _ h9 => h9) rfl dX0_countAnew_6 ?_
  refine lv_iconst (v := 0) hx hb dX0_countAnew_9 (by decide) ?_
  obtain ⟨gi1, h⟩ := h
  refine va_iald (D := D) (f := ks_le (ks_s_co σ 0)) hx hb hK hP 1 0 rfl rfl gi1 dX0_countAnew_10 ?_
  refine lv_topi (fun x1_2 ex1_2 => ?_)
  have h := h x1_2 ex1_2
  refine lv_istore_n (lv' := [(1, .int x1_2), (0, .ref (ad 0))]) hx hb dX0_countAnew_11 rfl hl (by decide) rfl (fun ls hl => ?_)
  exact lp_at (Wt := fun a => At_ p l e { frames := 3, cells := 0, slots := 0, locals := 69 } s m args below meth c (Qv_ below D (KW cc ad) A args s Post) D A (KW cc ad (a.1)) 2 12 [(0, .ref (ad 0)), (1, .int (a.2))] []) (fun K hK a h => wk_X0_countAnew_12 C0 hd hK a.1 a.2 h) h H locs ls hP hS (lv_sub hl [1, 0] rfl)
theorem ct_X0_countAnew (l : Launch) (D : va_G) (cc : Nat → ClassId) (ad : Nat → Nat) (hd : DA 5 ad (fun _ => True)) (g : (Nat → Nat)) (σ : KS) (hp : pr_X0_countAnew g σ) : Ctv l yX0_countAnew wsX0_countAnew { frames := 3, cells := 0, slots := 0, locals := 69 } D cc (KW cc ad) 5 ad σ [.ref (ad 0)] (po_X0_countAnew g σ) :=
  ctr_v (rt := none) (by decide +kernel) rfl hd (Nat.le_of_ble_eq_true rfl) (fun p e s m below meth c A C0 hd => wk_X0_countAnew_0 C0 hd σ (pu_X0_countAnew g σ hp))
theorem hin_X0_open : ∀ w ∈ u_ws RX0 TX0 7, w ∈ wsX0_open := fun w h => List.mem_cons_of_mem _ (List.mem_append_right _ h)
set_option maxHeartbeats 4000000 in
set_option maxRecDepth 100000 in
theorem wk_X0_open_0 {p : Program} {l : Launch} {e : Env} {s : State} {m : MethodId} {args : Array Value} {below : List Frame} {meth : Method} {c : Code} {D : va_G} {cc : Nat → ClassId} {ad : Nat → Nat} {A : Nat → Prop} {Post : Int32 → KS → Prop} {g : (Nat → Nat)} (C0 : Cx p s m args meth c cX0_open 2 none RX0 wsX0_open D cc A) (hd : DA 5 ad A) (σ : KS) (x1 : Int32) (h : wp_X0_open g Post σ x1) : At_ p l e { frames := 4, cells := 0, slots := 0, locals := 90 } s m args below meth c (Qv_ below D (KW cc ad) A args s Post) D A (KW cc ad σ) 2 0 [(0, .ref (ad 0)), (1, .int x1)] [] := by
  obtain ⟨hx, hb, hml, hr, hown, hts, hlocks, hK, hA, hX⟩ := id C0
  have hin := hin_X0_open
  intro H locs ls hP hS hl
  unfold wp_X0_open at h
  refine lv_aload_n hx hb dX0_open_0 rfl (lv_at hl 0 rfl) ?_
  refine lv_iload_n hx hb dX0_open_1 rfl (lv_at hl 1 rfl) ?_
  refine va_put (D := D) (ci := 0) (v := .int x1) (ty := .int) (C := RX0) (T := TX0) (N := 7) hx hb hts hin tyX0 tyX0_ok nmX0 hown hK hP (kD hd) hS 0 rfl rfl 0 (by decide) (hts (.fieldLink RX0 11 "ClassSheets$Kind" "operation" "I") (List.mem_of_getElem? (i := 1) rfl)) (fun _ h9 => h9) rfl (by decide +kernel) rfl rfl (Nat.le_of_ble_eq_true rfl) dX0_open_2 (fun H locs hP _ hS => ?_)
  have hP : va_P D vwCl (KW cc ad (ks_s_op σ x1)) H := hP
  refine lv_aload_n hx hb dX0_open_5 rfl (lv_at hl 0 rfl) ?_
  obtain ⟨gp1, h⟩ := h
  refine call_vv (Wd := KW cc ad) (σ := (ks_s_op σ x1)) C0 hd lens_id (As := []) (rest := []) (ct_X0_countAnew l D cc ad ⟨hd.1, fun _ _ => trivial⟩ (qup g 0 x1.toNatClampNeg) (ks_s_op σ x1) gp1) (cwV 0 hts gX0_open_X0_countAnew rfl rfl rfl (by decide +kernel) ⟨Nat.le_of_ble_eq_true rfl, Nat.le_of_ble_eq_true rfl⟩) (va_recv hK hP (ci := 0) (q0 := 0) rfl rfl) hP hS rfl hl.1 rfl (by simp [Value.category]) dX0_open_6 (fun u3 hp H locs hP hS => ?_)
  have h := h u3 hp
  have hP : va_P D vwCl (KW cc ad u3) H := hP
  exact ret_v (Wd := KW cc ad) (u := u3) C0 h hP hS dX0_open_9
theorem ct_X0_open (l : Launch) (D : va_G) (cc : Nat → ClassId) (ad : Nat → Nat) (hd : DA 5 ad (fun _ => True)) (g : (Nat → Nat)) (σ : KS) (x1 : Int32) (hp : pr_X0_open g σ x1) : Ctv l yX0_open wsX0_open { frames := 4, cells := 0, slots := 0, locals := 90 } D cc (KW cc ad) 5 ad σ [.ref (ad 0), .int x1] (po_X0_open g σ x1) :=
  ctr_v (rt := none) (by decide +kernel) rfl hd (Nat.le_of_ble_eq_true rfl) (fun p e s m below meth c A C0 hd => wk_X0_open_0 C0 hd σ x1 (pu_X0_open g σ x1 hp))
theorem hin_X0_setRange : ∀ w ∈ u_ws RX0 TX0 7, w ∈ wsX0_setRange := fun w h => List.mem_cons_of_mem _ (List.mem_append_right _ h)
set_option maxHeartbeats 4000000 in
set_option maxRecDepth 100000 in
theorem wk_X0_setRange_0 {p : Program} {l : Launch} {e : Env} {s : State} {m : MethodId} {args : Array Value} {below : List Frame} {meth : Method} {c : Code} {D : va_G} {cc : Nat → ClassId} {ad : Nat → Nat} {A : Nat → Prop} {Post : Int32 → KS → Prop} {g : (Nat → Nat)} (C0 : Cx p s m args meth c cX0_setRange 4 none RX0 wsX0_setRange D cc A) (hd : DA 5 ad A) (σ : KS) (x1 : Int32) (x2 : Int32) (x3 : Int32) (h : wp_X0_setRange g Post σ x1 x2 x3) : At_ p l e { frames := 4, cells := 0, slots := 0, locals := 90 } s m args below meth c (Qv_ below D (KW cc ad) A args s Post) D A (KW cc ad σ) 4 0 [(0, .ref (ad 0)), (1, .int x1), (2, .int x2), (3, .int x3)] [] := by
  obtain ⟨hx, hb, hml, hr, hown, hts, hlocks, hK, hA, hX⟩ := id C0
  have hin := hin_X0_setRange
  intro H locs ls hP hS hl
  unfold wp_X0_setRange at h
  refine lv_aload_n hx hb dX0_setRange_0 rfl (lv_at hl 0 rfl) ?_
  refine va_get (D := D) (ci := 0) (v := .ref (ad 1)) (C := RX0) (T := TX0) (N := 7) hx hb hts hin hown hK hP 0 rfl rfl 1 (by decide) (hts (.fieldLink RX0 15 "ClassSheets$Kind" "least" "[I") (List.mem_of_getElem? (i := 1) rfl)) (fun _ h9 => h9) rfl dX0_setRange_1 ?_
  refine lv_iload_n hx hb dX0_setRange_4 rfl (lv_at hl 1 rfl) ?_
  refine lv_iload_n hx hb dX0_setRange_5 rfl (lv_at hl 2 rfl) ?_
  obtain ⟨gi1, h⟩ := h
  refine va_iast (D := D) (f := ks_le σ) (x := x2) hx hb hK hP (kD hd) hS 1 0 rfl rfl gi1 dX0_setRange_6 (fun H locs hP _ hS => ?_)
  have hP : va_P D vwCl (KW cc ad (ks_s_le σ (upd (ks_le σ) x1.toNatClampNeg x2))) H := hP
  refine lv_aload_n hx hb dX0_setRange_7 rfl (lv_at hl 0 rfl) ?_
  refine va_get (D := D) (ci := 0) (v := .ref (ad 2)) (C := RX0) (T := TX0) (N := 7) hx hb hts hin hown hK hP 0 rfl rfl 2 (by decide) (hts (.fieldLink RX0 19 "ClassSheets$Kind" "most" "[I") (List.mem_of_getElem? (i := 2) rfl)) (fun _ h9 => h9) rfl dX0_setRange_8 ?_
  refine lv_iload_n hx hb dX0_setRange_11 rfl (lv_at hl 1 rfl) ?_
  refine lv_iload_n hx hb dX0_setRange_12 rfl (lv_at hl 3 rfl) ?_
  obtain ⟨gi2, h⟩ := h
  refine va_iast (D := D) (f := ks_mo (ks_s_le σ (upd (ks_le σ) x1.toNatClampNeg x2))) (x := x3) hx hb hK hP (kD hd) hS 2 0 rfl rfl gi2 dX0_setRange_13 (fun H locs hP _ hS => ?_)
  have hP : va_P D vwCl (KW cc ad (ks_s_mo (ks_s_le σ (upd (ks_le σ) x1.toNatClampNeg x2)) (upd (ks_mo (ks_s_le σ (upd (ks_le σ) x1.toNatClampNeg x2))) x1.toNatClampNeg x3))) H := hP
  refine lv_aload_n hx hb dX0_setRange_14 rfl (lv_at hl 0 rfl) ?_
  obtain ⟨gp3, h⟩ := h
  refine call_vv (Wd := KW cc ad) (σ := (ks_s_mo (ks_s_le σ (upd (ks_le σ) x1.toNatClampNeg x2)) (upd (ks_mo (ks_s_le σ (upd (ks_le σ) x1.toNatClampNeg x2))) x1.toNatClampNeg x3))) C0 hd lens_id (As := []) (rest := []) (ct_X0_countAnew l D cc ad ⟨hd.1, fun _ _ => trivial⟩ (qup (qup g (1 + 2 * x1.toNatClampNeg) x2.toNatClampNeg) (2 + 2 * x1.toNatClampNeg) x3.toNatClampNeg) (ks_s_mo (ks_s_le σ (upd (ks_le σ) x1.toNatClampNeg x2)) (upd (ks_mo (ks_s_le σ (upd (ks_le σ) x1.toNatClampNeg x2))) x1.toNatClampNeg x3)) gp3) (cwV 0 hts gX0_setRange_X0_countAnew rfl rfl rfl (by decide +kernel) ⟨Nat.le_of_ble_eq_true rfl, Nat.le_of_ble_eq_true rfl⟩) (va_recv hK hP (ci := 0) (q0 := 0) rfl rfl) hP hS rfl hl.1 rfl (by simp [Value.category]) dX0_setRange_15 (fun u5 hp H locs hP hS => ?_)
  have h := h u5 hp
  have hP : va_P D vwCl (KW cc ad u5) H := hP
  exact ret_v (Wd := KW cc ad) (u := u5) C0 h hP hS dX0_setRange_18
theorem ct_X0_setRange (l : Launch) (D : va_G) (cc : Nat → ClassId) (ad : Nat → Nat) (hd : DA 5 ad (fun _ => True)) (g : (Nat → Nat)) (σ : KS) (x1 : Int32) (x2 : Int32) (x3 : Int32) (hp : pr_X0_setRange g σ x1 x2 x3) : Ctv l yX0_setRange wsX0_setRange { frames := 4, cells := 0, slots := 0, locals := 90 } D cc (KW cc ad) 5 ad σ [.ref (ad 0), .int x1, .int x2, .int x3] (po_X0_setRange g σ x1 x2 x3) :=
  ctr_v (rt := none) (by decide +kernel) rfl hd (Nat.le_of_ble_eq_true rfl) (fun p e s m below meth c A C0 hd => wk_X0_setRange_0 C0 hd σ x1 x2 x3 (pu_X0_setRange g σ x1 x2 x3 hp))
theorem hin_X0_setRule : ∀ w ∈ u_ws RX0 TX0 7, w ∈ wsX0_setRule := fun w h => List.mem_cons_of_mem _ (List.mem_append_right _ h)
set_option maxHeartbeats 4000000 in
set_option maxRecDepth 100000 in
theorem wk_X0_setRule_0 {p : Program} {l : Launch} {e : Env} {s : State} {m : MethodId} {args : Array Value} {below : List Frame} {meth : Method} {c : Code} {D : va_G} {cc : Nat → ClassId} {ad : Nat → Nat} {A : Nat → Prop} {Post : Int32 → KS → Prop} {g : (Nat → Nat)} (C0 : Cx p s m args meth c cX0_setRule 4 (some .int) RX0 wsX0_setRule D cc A) (hd : DA 5 ad A) (σ : KS) (x1 : Int32) (x2 : Int32) (h : wp_X0_setRule g Post σ x1 x2) : At_ p l e { frames := 4, cells := 0, slots := 0, locals := 90 } s m args below meth c (Qi_ below D (KW cc ad) A args s Post) D A (KW cc ad σ) 4 0 [(0, .ref (ad 0)), (1, .int x1), (2, .int x2)] [] := by
  obtain ⟨hx, hb, hml, hr, hown, hts, hlocks, hK, hA, hX⟩ := id C0
  have hin := hin_X0_setRule
  intro H locs ls hP hS hl
  unfold wp_X0_setRule at h
  refine lv_aload_n hx hb dX0_setRule_0 rfl (lv_at hl 0 rfl) ?_
  refine va_get (D := D) (ci := 0) (v := .ref (ad 3)) (C := RX0) (T := TX0) (N := 7) hx hb hts hin hown hK hP 0 rfl rfl 3 (by decide) (hts (.fieldLink RX0 22 "ClassSheets$Kind" "rules" "[I") (List.mem_of_getElem? (i := 1) rfl)) (fun _ h9 => h9) rfl dX0_setRule_1 ?_
  refine lv_iload_n hx hb dX0_setRule_4 rfl (lv_at hl 1 rfl) ?_
  obtain ⟨gi1, h⟩ := h
  refine va_iald (D := D) (f := ks_ru σ) hx hb hK hP 3 0 rfl rfl gi1 dX0_setRule_5 ?_
  refine lv_topi (fun x3_2 ex3_2 => ?_)
  have h := h x3_2 ex3_2
  refine lv_istore_n (lv' := [(3, .int x3_2), (0, .ref (ad 0)), (1, .int x1), (2, .int x2)]) hx hb dX0_setRule_6 rfl hl (by decide) rfl (fun ls hl => ?_)
  refine lv_aload_n hx hb dX0_setRule_7 rfl (lv_at hl 1 rfl) ?_
  refine va_get (D := D) (ci := 0) (v := .ref (ad 3)) (C := RX0) (T := TX0) (N := 7) hx hb hts hin hown hK hP 0 rfl rfl 3 (by decide) (hts (.fieldLink RX0 22 "ClassSheets$Kind" "rules" "[I") (List.mem_of_getElem? (i := 1) rfl)) (fun _ h9 => h9) rfl dX0_setRule_8 ?_
  refine lv_iload_n hx hb dX0_setRule_11 rfl (lv_at hl 2 rfl) ?_
  refine lv_iload_n hx hb dX0_setRule_12 rfl (lv_at hl 3 rfl) ?_
  obtain ⟨gi3, h⟩ := h
  refine va_iast (D := D) (f := ks_ru σ) (x := x2) hx hb hK hP (kD hd) hS 3 0 rfl rfl gi3 dX0_setRule_13 (fun H locs hP _ hS => ?_)
  have hP : va_P D vwCl (KW cc ad (ks_s_ru σ (upd (ks_ru σ) x1.toNatClampNeg x2))) H := hP
  refine lv_iload_n hx hb dX0_setRule_14 rfl (lv_at hl 2 rfl) ?_
  refine lv_if_ne (tgt := 27) hx hb dX0_setRule_15 (by decide) (fun c4 => ?_) (fun c4 => ?_)
  · have h := h.1 c4
    refine lv_iload_n hx hb dX0_setRule_27 rfl (lv_at hl 0 rfl) ?_
    exact ret_i (Wd := KW cc ad) (u := (ks_s_ru σ (upd (ks_ru σ) x1.toNatClampNeg x2))) C0 h hP hS dX0_setRule_28
  · have h := h.2 c4
    refine lv_iload_n hx hb dX0_setRule_18 rfl (lv_at hl 3 rfl) ?_
    refine lv_iload_n hx hb dX0_setRule_19 rfl (lv_at hl 0 rfl) ?_
    refine lv_icmp_eq (tgt := 27) hx hb dX0_setRule_20 (by decide) (fun c5 => ?_) (fun c5 => ?_)
    · have h := h.1 c5
      refine lv_iload_n hx hb dX0_setRule_27 rfl (lv_at hl 0 rfl) ?_
      exact ret_i (Wd := KW cc ad) (u := (ks_s_ru σ (upd (ks_ru σ) x1.toNatClampNeg x2))) C0 h hP hS dX0_setRule_28
    · have h := h.2 c5
      refine lv_aload_n hx hb dX0_setRule_23 rfl (lv_at hl 1 rfl) ?_
      obtain ⟨gp6, h⟩ := h
      refine call_vv (Wd := KW cc ad) (σ := (ks_s_ru σ (upd (ks_ru σ) x1.toNatClampNeg x2))) C0 hd lens_id (As := []) (rest := []) (ct_X0_countAnew l D cc ad ⟨hd.1, fun _ _ => trivial⟩ (qup g (7 + x1.toNatClampNeg) x2.toNatClampNeg) (ks_s_ru σ (upd (ks_ru σ) x1.toNatClampNeg x2)) gp6) (cwV 0 hts gX0_setRule_X0_countAnew rfl rfl rfl (by decide +kernel) ⟨Nat.le_of_ble_eq_true rfl, Nat.le_of_ble_eq_true rfl⟩) (va_recv hK hP (ci := 0) (q0 := 0) rfl rfl) hP hS rfl hl.1 rfl (by simp [Value.category]) dX0_setRule_24 (fun u8 hp H locs hP hS => ?_)
      have h := h u8 hp
      have hP : va_P D vwCl (KW cc ad u8) H := hP
      refine lv_iload_n hx hb dX0_setRule_27 rfl (lv_at hl 0 rfl) ?_
      exact ret_i (Wd := KW cc ad) (u := u8) C0 h hP hS dX0_setRule_28
theorem ct_X0_setRule (l : Launch) (D : va_G) (cc : Nat → ClassId) (ad : Nat → Nat) (hd : DA 5 ad (fun _ => True)) (g : (Nat → Nat)) (σ : KS) (x1 : Int32) (x2 : Int32) (hp : pr_X0_setRule g σ x1 x2) : Ctr l yX0_setRule wsX0_setRule { frames := 4, cells := 0, slots := 0, locals := 90 } D cc (KW cc ad) 5 ad σ [.ref (ad 0), .int x1, .int x2] (po_X0_setRule g σ x1 x2) :=
  ctr_i (rt := (some .int)) (by decide +kernel) rfl hd (Nat.le_of_ble_eq_true rfl) (fun p e s m below meth c A C0 hd => wk_X0_setRule_0 C0 hd σ x1 x2 (pu_X0_setRule g σ x1 x2 hp))
theorem hin_X0_pairAt : ∀ w ∈ u_ws RX0 TX0 7, w ∈ wsX0_pairAt := fun w h => List.mem_cons_of_mem _ (List.mem_append_right _ h)
set_option maxHeartbeats 4000000 in
set_option maxRecDepth 100000 in
theorem wk_X0_pairAt_52 {p : Program} {l : Launch} {e : Env} {s : State} {m : MethodId} {args : Array Value} {below : List Frame} {meth : Method} {c : Code} {D : va_G} {cc : Nat → ClassId} {ad : Nat → Nat} {A : Nat → Prop} {Post : Int32 → KS → Prop} {g : (Nat → Nat)} (C0 : Cx p s m args meth c cX0_pairAt 5 (some .int) RX0 wsX0_pairAt D cc A) (hd : DA 5 ad A) {K52 : (KS × Int32 × Int32 × Int32) → Prop} (hK52 : ∀ a, K52 a → At_ p l e { frames := 2, cells := 0, slots := 0, locals := 45 } s m args below meth c (Qi_ below D (KW cc ad) A args s Post) D A (KW cc ad (a.1)) 5 52 [(0, .ref (ad 0)), (2, .int (a.2.1)), (3, .int (a.2.2.1)), (4, .int (a.2.2.2))] []) (σ : KS) (x2 : Int32) (x3 : Int32) (x4 : Int32) (h : wp_X0_pairAt_52 g K52 Post σ x2 x3 x4) : At_ p l e { frames := 2, cells := 0, slots := 0, locals := 45 } s m args below meth c (Qi_ below D (KW cc ad) A args s Post) D A (KW cc ad σ) 5 52 [(0, .ref (ad 0)), (2, .int x2), (3, .int x3), (4, .int x4)] [] := by
  obtain ⟨hx, hb, hml, hr, hown, hts, hlocks, hK, hA, hX⟩ := id C0
  have hin := hin_X0_pairAt
  intro H locs ls hP hS hl
  unfold wp_X0_pairAt_52 at h
  refine lv_iload hx hb dX0_pairAt_52 (lv_at hl 3 rfl) ?_
  refine lv_aload_n hx hb dX0_pairAt_54 rfl (lv_at hl 0 rfl) ?_
  refine va_get (D := D) (ci := 0) (v := .ref (ad 2)) (C := RX0) (T := TX0) (N := 7) hx hb hts hin hown hK hP 0 rfl rfl 2 (by decide) (hts (.fieldLink RX0 19 "ClassSheets$Kind" "most" "[I") (List.mem_of_getElem? (i := 2) rfl)) (fun _ h9 => h9) rfl dX0_pairAt_55 ?_
  refine lv_iconst (v := 1) hx hb dX0_pairAt_58 (by decide) ?_
  obtain ⟨gi1, h⟩ := h
  refine va_iald (D := D) (f := ks_mo σ) hx hb hK hP 2 0 rfl rfl gi1 dX0_pairAt_59 ?_
  refine lv_icmp_ge (tgt := 89) hx hb dX0_pairAt_60 (by decide) (fun c2 => ?_) (fun c2 => ?_)
  · have h := h.1 c2
    refine lv_iload_n hx hb dX0_pairAt_89 rfl (lv_at hl 1 rfl) ?_
    refine lv_bipush (v := 100) hx hb dX0_pairAt_90 (by decide) ?_
    refine lv_imul hx hb dX0_pairAt_92 ?_
    refine lv_iload hx hb dX0_pairAt_93 (lv_at hl 3 rfl) ?_
    refine lv_iadd hx hb dX0_pairAt_95 ?_
    exact ret_i (Wd := KW cc ad) (u := σ) C0 h hP hS dX0_pairAt_96
  · have h := h.2 c2
    refine lv_aload_n hx hb dX0_pairAt_63 rfl (lv_at hl 0 rfl) ?_
    refine lv_iload_n hx hb dX0_pairAt_64 rfl (lv_at hl 1 rfl) ?_
    refine lv_iload hx hb dX0_pairAt_65 (lv_at hl 3 rfl) ?_
    refine call_v (Wd := KW cc ad) (σ := σ) C0 hd lens_id (As := [.int x2, .int x4]) (rest := []) (ct_X0_isLawful l D cc ad ⟨hd.1, fun _ _ => trivial⟩ g σ x2 x4) (cwV 2 hts gX0_pairAt_X0_isLawful rfl rfl rfl (by decide +kernel) ⟨Nat.le_of_ble_eq_true rfl, Nat.le_of_ble_eq_true rfl⟩) (va_recv hK hP (ci := 0) (q0 := 0) rfl rfl) hP hS rfl hl.1 rfl (by simp [Value.category]) dX0_pairAt_67 (fun r3 u hp H locs hP hS => ?_)
    obtain ⟨hp1, hp2⟩ := hp
    subst hp1
    have hp2 := hp2.symm
    subst hp2
    have hP : va_P D vwCl (KW cc ad σ) H := hP
    refine lv_if_eq (tgt := 83) hx hb dX0_pairAt_70 (by decide) (fun c4 => ?_) (fun c4 => ?_)
    · have h := h.1 c4
      obtain ⟨x4_5, ex4_5⟩ : ∃ y : Int32, y = x4 + 1 := ⟨_, rfl⟩
      have h := h x4_5 ex4_5
      refine lv_iinc (v := x4_5) (lv' := [(4, .int x4_5), (0, .ref (ad 0)), (2, .int x2), (3, .int x3)]) hx hb dX0_pairAt_83 hl (k := 3) rfl (by rw [ex4_5]; rfl) (by decide) rfl (fun ls hl => ?_)
      refine lv_goto (tgt := 52) hx hb dX0_pairAt_86 (by decide) ?_
      exact hK52 (σ, x2, x3, x4_5) h H locs ls hP hS (lv_sub hl [1, 2, 3, 0] rfl)
    · have h := h.2 c4
      refine lv_iload_n hx hb dX0_pairAt_73 rfl (lv_at hl 2 rfl) ?_
      refine lv_if_ne (tgt := 80) hx hb dX0_pairAt_74 (by decide) (fun c6 => ?_) (fun c6 => ?_)
      · have h := h.1 c6
        obtain ⟨x3_7, ex3_7⟩ : ∃ y : Int32, y = x3 + (-1) := ⟨_, rfl⟩
        have h := h x3_7 ex3_7
        refine lv_iinc (v := x3_7) (lv' := [(3, .int x3_7), (0, .ref (ad 0)), (2, .int x2), (4, .int x4)]) hx hb dX0_pairAt_80 hl (k := 2) rfl (by rw [ex3_7]; rfl) (by decide) rfl (fun ls hl => ?_)
        obtain ⟨x4_8, ex4_8⟩ : ∃ y : Int32, y = x4 + 1 := ⟨_, rfl⟩
        have h := h x4_8 ex4_8
        refine lv_iinc (v := x4_8) (lv' := [(4, .int x4_8), (3, .int x3_7), (0, .ref (ad 0)), (2, .int x2)]) hx hb dX0_pairAt_83 hl (k := 3) rfl (by rw [ex4_8]; rfl) (by decide) rfl (fun ls hl => ?_)
        refine lv_goto (tgt := 52) hx hb dX0_pairAt_86 (by decide) ?_
        exact hK52 (σ, x2, x3_7, x4_8) h H locs ls hP hS (lv_sub hl [2, 3, 1, 0] rfl)
      · have h := h.2 c6
        refine lv_goto (tgt := 89) hx hb dX0_pairAt_77 (by decide) ?_
        refine lv_iload_n hx hb dX0_pairAt_89 rfl (lv_at hl 1 rfl) ?_
        refine lv_bipush (v := 100) hx hb dX0_pairAt_90 (by decide) ?_
        refine lv_imul hx hb dX0_pairAt_92 ?_
        refine lv_iload hx hb dX0_pairAt_93 (lv_at hl 3 rfl) ?_
        refine lv_iadd hx hb dX0_pairAt_95 ?_
        exact ret_i (Wd := KW cc ad) (u := σ) C0 h hP hS dX0_pairAt_96
set_option maxHeartbeats 4000000 in
set_option maxRecDepth 100000 in
theorem wk_X0_pairAt_7 {p : Program} {l : Launch} {e : Env} {s : State} {m : MethodId} {args : Array Value} {below : List Frame} {meth : Method} {c : Code} {D : va_G} {cc : Nat → ClassId} {ad : Nat → Nat} {A : Nat → Prop} {Post : Int32 → KS → Prop} {g : (Nat → Nat)} (C0 : Cx p s m args meth c cX0_pairAt 5 (some .int) RX0 wsX0_pairAt D cc A) (hd : DA 5 ad A) {K7 : (KS × Int32 × Int32) → Prop} (hK7 : ∀ a, K7 a → At_ p l e { frames := 2, cells := 0, slots := 0, locals := 45 } s m args below meth c (Qi_ below D (KW cc ad) A args s Post) D A (KW cc ad (a.1)) 5 7 [(0, .ref (ad 0)), (1, .int (a.2.1)), (2, .int (a.2.2))] []) (σ : KS) (x1 : Int32) (x2 : Int32) (h : wp_X0_pairAt_7 g K7 Post σ x1 x2) : At_ p l e { frames := 2, cells := 0, slots := 0, locals := 45 } s m args below meth c (Qi_ below D (KW cc ad) A args s Post) D A (KW cc ad σ) 5 7 [(0, .ref (ad 0)), (1, .int x1), (2, .int x2)] [] := by
  obtain ⟨hx, hb, hml, hr, hown, hts, hlocks, hK, hA, hX⟩ := id C0
  have hin := hin_X0_pairAt
  intro H locs ls hP hS hl
  unfold wp_X0_pairAt_7 at h
  refine lv_iload_n hx hb dX0_pairAt_7 rfl (lv_at hl 2 rfl) ?_
  refine lv_aload_n hx hb dX0_pairAt_8 rfl (lv_at hl 0 rfl) ?_
  refine va_get (D := D) (ci := 0) (v := .ref (ad 2)) (C := RX0) (T := TX0) (N := 7) hx hb hts hin hown hK hP 0 rfl rfl 2 (by decide) (hts (.fieldLink RX0 19 "ClassSheets$Kind" "most" "[I") (List.mem_of_getElem? (i := 2) rfl)) (fun _ h9 => h9) rfl dX0_pairAt_9 ?_
  refine lv_iconst (v := 0) hx hb dX0_pairAt_12 (by decide) ?_
  obtain ⟨gi1, h⟩ := h
  refine va_iald (D := D) (f := ks_mo σ) hx hb hK hP 2 0 rfl rfl gi1 dX0_pairAt_13 ?_
  refine lv_icmp_ge (tgt := 35) hx hb dX0_pairAt_14 (by decide) (fun c2 => ?_) (fun c2 => ?_)
  · have h := h.1 c2
    refine lv_iload_n hx hb dX0_pairAt_35 rfl (lv_at hl 1 rfl) ?_
    refine lv_aload_n hx hb dX0_pairAt_36 rfl (lv_at hl 0 rfl) ?_
    refine va_get (D := D) (ci := 0) (v := .ref (ad 4)) (C := RX0) (T := TX0) (N := 7) hx hb hts hin hown hK hP 0 rfl rfl 4 (by decide) (hts (.fieldLink RX0 25 "ClassSheets$Kind" "before" "[I") (List.mem_of_getElem? (i := 3) rfl)) (fun _ h9 => h9) rfl dX0_pairAt_37 ?_
    refine lv_iload_n hx hb dX0_pairAt_40 rfl (lv_at hl 2 rfl) ?_
    obtain ⟨gi3, h⟩ := h
    refine va_iald (D := D) (f := ks_be σ) hx hb hK hP 4 0 rfl rfl gi3 dX0_pairAt_41 ?_
    refine lv_isub hx hb dX0_pairAt_42 ?_
    refine lv_topi (fun x3_4 ex3_4 => ?_)
    have h := h x3_4 ex3_4
    refine lv_istore_n (lv' := [(3, .int x3_4), (0, .ref (ad 0)), (1, .int x1), (2, .int x2)]) hx hb dX0_pairAt_43 rfl hl (by decide) rfl (fun ls hl => ?_)
    refine lv_aload_n hx hb dX0_pairAt_44 rfl (lv_at hl 1 rfl) ?_
    refine va_get (D := D) (ci := 0) (v := .ref (ad 1)) (C := RX0) (T := TX0) (N := 7) hx hb hts hin hown hK hP 0 rfl rfl 1 (by decide) (hts (.fieldLink RX0 15 "ClassSheets$Kind" "least" "[I") (List.mem_of_getElem? (i := 1) rfl)) (fun _ h9 => h9) rfl dX0_pairAt_45 ?_
    refine lv_iconst (v := 1) hx hb dX0_pairAt_48 (by decide) ?_
    obtain ⟨gi5, h⟩ := h
    refine va_iald (D := D) (f := ks_le σ) hx hb hK hP 1 0 rfl rfl gi5 dX0_pairAt_49 ?_
    refine lv_topi (fun x4_6 ex4_6 => ?_)
    have h := h x4_6 ex4_6
    refine lv_istore (lv' := [(4, .int x4_6), (3, .int x3_4), (0, .ref (ad 0)), (1, .int x1), (2, .int x2)]) hx hb dX0_pairAt_50 hl (by decide) rfl (fun ls hl => ?_)
    exact lp_at (Wt := fun a => At_ p l e { frames := 2, cells := 0, slots := 0, locals := 45 } s m args below meth c (Qi_ below D (KW cc ad) A args s Post) D A (KW cc ad (a.1)) 5 52 [(0, .ref (ad 0)), (2, .int (a.2.1)), (3, .int (a.2.2.1)), (4, .int (a.2.2.2))] []) (fun K hK a h => wk_X0_pairAt_52 C0 hd hK a.1 a.2.1 a.2.2.1 a.2.2.2 h) h H locs ls hP hS (lv_sub hl [2, 4, 1, 0] rfl)
  · have h := h.2 c2
    refine lv_aload_n hx hb dX0_pairAt_17 rfl (lv_at hl 0 rfl) ?_
    refine va_get (D := D) (ci := 0) (v := .ref (ad 4)) (C := RX0) (T := TX0) (N := 7) hx hb hts hin hown hK hP 0 rfl rfl 4 (by decide) (hts (.fieldLink RX0 25 "ClassSheets$Kind" "before" "[I") (List.mem_of_getElem? (i := 3) rfl)) (fun _ h9 => h9) rfl dX0_pairAt_18 ?_
    refine lv_iload_n hx hb dX0_pairAt_21 rfl (lv_at hl 2 rfl) ?_
    refine lv_iconst (v := 1) hx hb dX0_pairAt_22 (by decide) ?_
    refine lv_iadd hx hb dX0_pairAt_23 ?_
    obtain ⟨gi7, h⟩ := h
    refine va_iald (D := D) (f := ks_be σ) hx hb hK hP 4 0 rfl rfl gi7 dX0_pairAt_24 ?_
    refine lv_iload_n hx hb dX0_pairAt_25 rfl (lv_at hl 1 rfl) ?_
    refine lv_icmp_gt (tgt := 35) hx hb dX0_pairAt_26 (by decide) (fun c8 => ?_) (fun c8 => ?_)
    · have h := h.1 c8
      refine lv_iload_n hx hb dX0_pairAt_35 rfl (lv_at hl 1 rfl) ?_
      refine lv_aload_n hx hb dX0_pairAt_36 rfl (lv_at hl 0 rfl) ?_
      refine va_get (D := D) (ci := 0) (v := .ref (ad 4)) (C := RX0) (T := TX0) (N := 7) hx hb hts hin hown hK hP 0 rfl rfl 4 (by decide) (hts (.fieldLink RX0 25 "ClassSheets$Kind" "before" "[I") (List.mem_of_getElem? (i := 3) rfl)) (fun _ h9 => h9) rfl dX0_pairAt_37 ?_
      refine lv_iload_n hx hb dX0_pairAt_40 rfl (lv_at hl 2 rfl) ?_
      obtain ⟨gi9, h⟩ := h
      refine va_iald (D := D) (f := ks_be σ) hx hb hK hP 4 0 rfl rfl gi9 dX0_pairAt_41 ?_
      refine lv_isub hx hb dX0_pairAt_42 ?_
      refine lv_topi (fun x3_10 ex3_10 => ?_)
      have h := h x3_10 ex3_10
      refine lv_istore_n (lv' := [(3, .int x3_10), (0, .ref (ad 0)), (1, .int x1), (2, .int x2)]) hx hb dX0_pairAt_43 rfl hl (by decide) rfl (fun ls hl => ?_)
      refine lv_aload_n hx hb dX0_pairAt_44 rfl (lv_at hl 1 rfl) ?_
      refine va_get (D := D) (ci := 0) (v := .ref (ad 1)) (C := RX0) (T := TX0) (N := 7) hx hb hts hin hown hK hP 0 rfl rfl 1 (by decide) (hts (.fieldLink RX0 15 "ClassSheets$Kind" "least" "[I") (List.mem_of_getElem? (i := 1) rfl)) (fun _ h9 => h9) rfl dX0_pairAt_45 ?_
      refine lv_iconst (v := 1) hx hb dX0_pairAt_48 (by decide) ?_
      obtain ⟨gi11, h⟩ := h
      refine va_iald (D := D) (f := ks_le σ) hx hb hK hP 1 0 rfl rfl gi11 dX0_pairAt_49 ?_
      refine lv_topi (fun x4_12 ex4_12 => ?_)
      have h := h x4_12 ex4_12
      refine lv_istore (lv' := [(4, .int x4_12), (3, .int x3_10), (0, .ref (ad 0)), (1, .int x1), (2, .int x2)]) hx hb dX0_pairAt_50 hl (by decide) rfl (fun ls hl => ?_)
      exact lp_at (Wt := fun a => At_ p l e { frames := 2, cells := 0, slots := 0, locals := 45 } s m args below meth c (Qi_ below D (KW cc ad) A args s Post) D A (KW cc ad (a.1)) 5 52 [(0, .ref (ad 0)), (2, .int (a.2.1)), (3, .int (a.2.2.1)), (4, .int (a.2.2.2))] []) (fun K hK a h => wk_X0_pairAt_52 C0 hd hK a.1 a.2.1 a.2.2.1 a.2.2.2 h) h H locs ls hP hS (lv_sub hl [2, 4, 1, 0] rfl)
    · have h := h.2 c8
      obtain ⟨x2_13, ex2_13⟩ : ∃ y : Int32, y = x2 + 1 := ⟨_, rfl⟩
      have h := h x2_13 ex2_13
      refine lv_iinc (v := x2_13) (lv' := [(2, .int x2_13), (0, .ref (ad 0)), (1, .int x1)]) hx hb dX0_pairAt_29 hl (k := 2) rfl (by rw [ex2_13]; rfl) (by decide) rfl (fun ls hl => ?_)
      refine lv_goto (tgt := 7) hx hb dX0_pairAt_32 (by decide) ?_
      exact hK7 (σ, x1, x2_13) h H locs ls hP hS (lv_sub hl [1, 2, 0] rfl)
set_option maxHeartbeats 4000000 in
set_option maxRecDepth 100000 in
theorem wk_X0_pairAt_0 {p : Program} {l : Launch} {e : Env} {s : State} {m : MethodId} {args : Array Value} {below : List Frame} {meth : Method} {c : Code} {D : va_G} {cc : Nat → ClassId} {ad : Nat → Nat} {A : Nat → Prop} {Post : Int32 → KS → Prop} {g : (Nat → Nat)} (C0 : Cx p s m args meth c cX0_pairAt 5 (some .int) RX0 wsX0_pairAt D cc A) (hd : DA 5 ad A) (σ : KS) (x1 : Int32) (h : wp_X0_pairAt g Post σ x1) : At_ p l e { frames := 2, cells := 0, slots := 0, locals := 45 } s m args below meth c (Qi_ below D (KW cc ad) A args s Post) D A (KW cc ad σ) 5 0 [(0, .ref (ad 0)), (1, .int x1)] [] := by
  obtain ⟨hx, hb, hml, hr, hown, hts, hlocks, hK, hA, hX⟩ := id C0
  have hin := hin_X0_pairAt
  intro H locs ls hP hS hl
  unfold wp_X0_pairAt at h
  refine lv_aload_n hx hb dX0_pairAt_0 rfl (lv_at hl 0 rfl) ?_
  refine va_get (D := D) (ci := 0) (v := .ref (ad 1)) (C := RX0) (T := TX0) (N := 7) hx hb hts hin hown hK hP 0 rfl rfl 1 (by decide) (hts (.fieldLink RX0 15 "ClassSheets$Kind" "least" "[I") (List.mem_of_getElem? (i := 1) rfl)) (fun _ h9 => h9) rfl dX0_pairAt_1 ?_
  refine lv_iconst (v := 0) hx hb dX0_pairAt_4 (by decide) ?_
  obtain ⟨gi1, h⟩ := h
  refine va_iald (D := D) (f := ks_le σ) hx hb hK hP 1 0 rfl rfl gi1 dX0_pairAt_5 ?_
  refine lv_topi (fun x2_2 ex2_2 => ?_)
  have h := h x2_2 ex2_2
  refine lv_istore_n (lv' := [(2, .int x2_2), (0, .ref (ad 0)), (1, .int x1)]) hx hb dX0_pairAt_6 rfl hl (by decide) rfl (fun ls hl => ?_)
  exact lp_at (Wt := fun a => At_ p l e { frames := 2, cells := 0, slots := 0, locals := 45 } s m args below meth c (Qi_ below D (KW cc ad) A args s Post) D A (KW cc ad (a.1)) 5 7 [(0, .ref (ad 0)), (1, .int (a.2.1)), (2, .int (a.2.2))] []) (fun K hK a h => wk_X0_pairAt_7 C0 hd hK a.1 a.2.1 a.2.2 h) h H locs ls hP hS (lv_sub hl [1, 2, 0] rfl)
theorem ct_X0_pairAt (l : Launch) (D : va_G) (cc : Nat → ClassId) (ad : Nat → Nat) (hd : DA 5 ad (fun _ => True)) (g : (Nat → Nat)) (σ : KS) (x1 : Int32) (hp : pr_X0_pairAt g σ x1) : Ctr l yX0_pairAt wsX0_pairAt { frames := 2, cells := 0, slots := 0, locals := 45 } D cc (KW cc ad) 5 ad σ [.ref (ad 0), .int x1] (fun r u => r = fn_X0_pairAt g σ x1 ∧ u = σ) :=
  ctr_i (rt := (some .int)) (by decide +kernel) rfl hd (Nat.le_of_ble_eq_true rfl) (fun p e s m below meth c A C0 hd => wk_X0_pairAt_0 C0 hd σ x1 (pu_X0_pairAt g σ x1 hp))
theorem hin_X0_numberOf : ∀ w ∈ u_ws RX0 TX0 7, w ∈ wsX0_numberOf := fun w h => List.mem_cons_of_mem _ (List.mem_append_right _ h)
set_option maxHeartbeats 4000000 in
set_option maxRecDepth 100000 in
theorem wk_X0_numberOf_45 {p : Program} {l : Launch} {e : Env} {s : State} {m : MethodId} {args : Array Value} {below : List Frame} {meth : Method} {c : Code} {D : va_G} {cc : Nat → ClassId} {ad : Nat → Nat} {A : Nat → Prop} {Post : Int32 → KS → Prop} {g : (Nat → Nat)} (C0 : Cx p s m args meth c cX0_numberOf 4 (some .int) RX0 wsX0_numberOf D cc A) (hd : DA 5 ad A) (σ : KS) (x1 : Int32) (x2 : Int32) (s0 : Int32) (h : wp_X0_numberOf_45 g Post σ x1 x2 s0) : At_ p l e { frames := 3, cells := 0, slots := 0, locals := 69 } s m args below meth c (Qi_ below D (KW cc ad) A args s Post) D A (KW cc ad σ) 4 45 [(0, .ref (ad 0)), (1, .int x1), (2, .int x2)] [.int s0] := by
  obtain ⟨hx, hb, hml, hr, hown, hts, hlocks, hK, hA, hX⟩ := id C0
  have hin := hin_X0_numberOf
  intro H locs ls hP hS hl
  unfold wp_X0_numberOf_45 at h
  refine lv_istore_n (lv' := [(3, .int s0), (0, .ref (ad 0)), (1, .int x1), (2, .int x2)]) hx hb dX0_numberOf_45 rfl hl (by decide) rfl (fun ls hl => ?_)
  refine lv_iload_n hx hb dX0_numberOf_46 rfl (lv_at hl 0 rfl) ?_
  refine lv_if_eq (tgt := 75) hx hb dX0_numberOf_47 (by decide) (fun c1 => ?_) (fun c1 => ?_)
  · have h := h.1 c1
    refine lv_bipush (v := (-9)) hx hb dX0_numberOf_75 (by decide) ?_
    exact ret_i (Wd := KW cc ad) (u := σ) C0 h hP hS dX0_numberOf_77
  · have h := h.2 c1
    refine lv_aload_n hx hb dX0_numberOf_50 rfl (lv_at hl 1 rfl) ?_
    refine lv_iload_n hx hb dX0_numberOf_51 rfl (lv_at hl 2 rfl) ?_
    refine lv_iload_n hx hb dX0_numberOf_52 rfl (lv_at hl 3 rfl) ?_
    refine call_v (Wd := KW cc ad) (σ := σ) C0 hd lens_id (As := [.int x1, .int x2]) (rest := []) (ct_X0_isLawful l D cc ad ⟨hd.1, fun _ _ => trivial⟩ g σ x1 x2) (cwV 2 hts gX0_numberOf_X0_isLawful rfl rfl rfl (by decide +kernel) ⟨Nat.le_of_ble_eq_true rfl, Nat.le_of_ble_eq_true rfl⟩) (va_recv hK hP (ci := 0) (q0 := 0) rfl rfl) hP hS rfl hl.1 rfl (by simp [Value.category]) dX0_numberOf_53 (fun r2 u hp H locs hP hS => ?_)
    obtain ⟨hp1, hp2⟩ := hp
    subst hp1
    have hp2 := hp2.symm
    subst hp2
    have hP : va_P D vwCl (KW cc ad σ) H := hP
    refine lv_if_eq (tgt := 75) hx hb dX0_numberOf_56 (by decide) (fun c3 => ?_) (fun c3 => ?_)
    · have h := h.1 c3
      refine lv_bipush (v := (-9)) hx hb dX0_numberOf_75 (by decide) ?_
      exact ret_i (Wd := KW cc ad) (u := σ) C0 h hP hS dX0_numberOf_77
    · have h := h.2 c3
      refine lv_aload_n hx hb dX0_numberOf_59 rfl (lv_at hl 1 rfl) ?_
      refine va_get (D := D) (ci := 0) (v := .ref (ad 4)) (C := RX0) (T := TX0) (N := 7) hx hb hts hin hown hK hP 0 rfl rfl 4 (by decide) (hts (.fieldLink RX0 25 "ClassSheets$Kind" "before" "[I") (List.mem_of_getElem? (i := 3) rfl)) (fun _ h9 => h9) rfl dX0_numberOf_60 ?_
      refine lv_iload_n hx hb dX0_numberOf_63 rfl (lv_at hl 2 rfl) ?_
      obtain ⟨gi4, h⟩ := h
      refine va_iald (D := D) (f := ks_be σ) hx hb hK hP 4 0 rfl rfl gi4 dX0_numberOf_64 ?_
      refine lv_aload_n hx hb dX0_numberOf_65 rfl (lv_at hl 1 rfl) ?_
      refine lv_iload_n hx hb dX0_numberOf_66 rfl (lv_at hl 2 rfl) ?_
      refine lv_iload_n hx hb dX0_numberOf_67 rfl (lv_at hl 3 rfl) ?_
      obtain ⟨gp5, h⟩ := h
      refine call_v (Wd := KW cc ad) (σ := σ) C0 hd lens_id (As := [.int x1, .int x2]) (rest := [.int (ks_be σ x1.toNatClampNeg)]) (ct_X0_countBelow l D cc ad ⟨hd.1, fun _ _ => trivial⟩ g σ x1 x2 gp5) (cwV 2 hts gX0_numberOf_X0_countBelow rfl rfl rfl (by decide +kernel) ⟨Nat.le_of_ble_eq_true rfl, Nat.le_of_ble_eq_true rfl⟩) (va_recv hK hP (ci := 0) (q0 := 0) rfl rfl) hP hS rfl hl.1 rfl (by simp [Value.category]) dX0_numberOf_68 (fun r6 u hp H locs hP hS => ?_)
      obtain ⟨hp1, hp2⟩ := hp
      subst hp1
      have hp2 := hp2.symm
      subst hp2
      have hP : va_P D vwCl (KW cc ad σ) H := hP
      refine lv_iadd hx hb dX0_numberOf_71 ?_
      refine lv_goto (tgt := 77) hx hb dX0_numberOf_72 (by decide) ?_
      exact ret_i (Wd := KW cc ad) (u := σ) C0 h hP hS dX0_numberOf_77
set_option maxHeartbeats 4000000 in
set_option maxRecDepth 100000 in
theorem wk_X0_numberOf_44 {p : Program} {l : Launch} {e : Env} {s : State} {m : MethodId} {args : Array Value} {below : List Frame} {meth : Method} {c : Code} {D : va_G} {cc : Nat → ClassId} {ad : Nat → Nat} {A : Nat → Prop} {Post : Int32 → KS → Prop} {g : (Nat → Nat)} (C0 : Cx p s m args meth c cX0_numberOf 4 (some .int) RX0 wsX0_numberOf D cc A) (hd : DA 5 ad A) (σ : KS) (x1 : Int32) (x2 : Int32) (h : wp_X0_numberOf_44 g Post σ x1 x2) : At_ p l e { frames := 3, cells := 0, slots := 0, locals := 69 } s m args below meth c (Qi_ below D (KW cc ad) A args s Post) D A (KW cc ad σ) 4 44 [(0, .ref (ad 0)), (1, .int x1), (2, .int x2)] [] := by
  obtain ⟨hx, hb, hml, hr, hown, hts, hlocks, hK, hA, hX⟩ := id C0
  have hin := hin_X0_numberOf
  intro H locs ls hP hS hl
  unfold wp_X0_numberOf_44 at h
  refine lv_iconst (v := 0) hx hb dX0_numberOf_44 (by decide) ?_
  exact wk_X0_numberOf_45 C0 hd σ x1 x2 0 h H locs ls hP hS (lv_sub hl [0, 1, 2] rfl)
set_option maxHeartbeats 4000000 in
set_option maxRecDepth 100000 in
theorem wk_X0_numberOf_0 {p : Program} {l : Launch} {e : Env} {s : State} {m : MethodId} {args : Array Value} {below : List Frame} {meth : Method} {c : Code} {D : va_G} {cc : Nat → ClassId} {ad : Nat → Nat} {A : Nat → Prop} {Post : Int32 → KS → Prop} {g : (Nat → Nat)} (C0 : Cx p s m args meth c cX0_numberOf 4 (some .int) RX0 wsX0_numberOf D cc A) (hd : DA 5 ad A) (σ : KS) (x1 : Int32) (x2 : Int32) (h : wp_X0_numberOf g Post σ x1 x2) : At_ p l e { frames := 3, cells := 0, slots := 0, locals := 69 } s m args below meth c (Qi_ below D (KW cc ad) A args s Post) D A (KW cc ad σ) 4 0 [(0, .ref (ad 0)), (1, .int x1), (2, .int x2)] [] := by
  obtain ⟨hx, hb, hml, hr, hown, hts, hlocks, hK, hA, hX⟩ := id C0
  have hin := hin_X0_numberOf
  intro H locs ls hP hS hl
  unfold wp_X0_numberOf at h
  refine lv_iload_n hx hb dX0_numberOf_0 rfl (lv_at hl 1 rfl) ?_
  refine lv_aload_n hx hb dX0_numberOf_1 rfl (lv_at hl 0 rfl) ?_
  refine va_get (D := D) (ci := 0) (v := .ref (ad 1)) (C := RX0) (T := TX0) (N := 7) hx hb hts hin hown hK hP 0 rfl rfl 1 (by decide) (hts (.fieldLink RX0 15 "ClassSheets$Kind" "least" "[I") (List.mem_of_getElem? (i := 1) rfl)) (fun _ h9 => h9) rfl dX0_numberOf_2 ?_
  refine lv_iconst (v := 0) hx hb dX0_numberOf_5 (by decide) ?_
  obtain ⟨gi1, h⟩ := h
  refine va_iald (D := D) (f := ks_le σ) hx hb hK hP 1 0 rfl rfl gi1 dX0_numberOf_6 ?_
  refine lv_icmp_lt (tgt := 44) hx hb dX0_numberOf_7 (by decide) (fun c2 => ?_) (fun c2 => ?_)
  · have h := h.1 c2
    exact wk_X0_numberOf_44 C0 hd σ x1 x2 h H locs ls hP hS (lv_sub hl [0, 1, 2] rfl)
  · have h := h.2 c2
    refine lv_iload_n hx hb dX0_numberOf_10 rfl (lv_at hl 1 rfl) ?_
    refine lv_aload_n hx hb dX0_numberOf_11 rfl (lv_at hl 0 rfl) ?_
    refine va_get (D := D) (ci := 0) (v := .ref (ad 2)) (C := RX0) (T := TX0) (N := 7) hx hb hts hin hown hK hP 0 rfl rfl 2 (by decide) (hts (.fieldLink RX0 19 "ClassSheets$Kind" "most" "[I") (List.mem_of_getElem? (i := 2) rfl)) (fun _ h9 => h9) rfl dX0_numberOf_12 ?_
    refine lv_iconst (v := 0) hx hb dX0_numberOf_15 (by decide) ?_
    obtain ⟨gi3, h⟩ := h
    refine va_iald (D := D) (f := ks_mo σ) hx hb hK hP 2 0 rfl rfl gi3 dX0_numberOf_16 ?_
    refine lv_icmp_gt (tgt := 44) hx hb dX0_numberOf_17 (by decide) (fun c4 => ?_) (fun c4 => ?_)
    · have h := h.1 c4
      exact wk_X0_numberOf_44 C0 hd σ x1 x2 h H locs ls hP hS (lv_sub hl [0, 1, 2] rfl)
    · have h := h.2 c4
      refine lv_iload_n hx hb dX0_numberOf_20 rfl (lv_at hl 2 rfl) ?_
      refine lv_aload_n hx hb dX0_numberOf_21 rfl (lv_at hl 0 rfl) ?_
      refine va_get (D := D) (ci := 0) (v := .ref (ad 1)) (C := RX0) (T := TX0) (N := 7) hx hb hts hin hown hK hP 0 rfl rfl 1 (by decide) (hts (.fieldLink RX0 15 "ClassSheets$Kind" "least" "[I") (List.mem_of_getElem? (i := 1) rfl)) (fun _ h9 => h9) rfl dX0_numberOf_22 ?_
      refine lv_iconst (v := 1) hx hb dX0_numberOf_25 (by decide) ?_
      obtain ⟨gi5, h⟩ := h
      refine va_iald (D := D) (f := ks_le σ) hx hb hK hP 1 0 rfl rfl gi5 dX0_numberOf_26 ?_
      refine lv_icmp_lt (tgt := 44) hx hb dX0_numberOf_27 (by decide) (fun c6 => ?_) (fun c6 => ?_)
      · have h := h.1 c6
        exact wk_X0_numberOf_44 C0 hd σ x1 x2 h H locs ls hP hS (lv_sub hl [0, 1, 2] rfl)
      · have h := h.2 c6
        refine lv_iload_n hx hb dX0_numberOf_30 rfl (lv_at hl 2 rfl) ?_
        refine lv_aload_n hx hb dX0_numberOf_31 rfl (lv_at hl 0 rfl) ?_
        refine va_get (D := D) (ci := 0) (v := .ref (ad 2)) (C := RX0) (T := TX0) (N := 7) hx hb hts hin hown hK hP 0 rfl rfl 2 (by decide) (hts (.fieldLink RX0 19 "ClassSheets$Kind" "most" "[I") (List.mem_of_getElem? (i := 2) rfl)) (fun _ h9 => h9) rfl dX0_numberOf_32 ?_
        refine lv_iconst (v := 1) hx hb dX0_numberOf_35 (by decide) ?_
        obtain ⟨gi7, h⟩ := h
        refine va_iald (D := D) (f := ks_mo σ) hx hb hK hP 2 0 rfl rfl gi7 dX0_numberOf_36 ?_
        refine lv_icmp_gt (tgt := 44) hx hb dX0_numberOf_37 (by decide) (fun c8 => ?_) (fun c8 => ?_)
        · have h := h.1 c8
          exact wk_X0_numberOf_44 C0 hd σ x1 x2 h H locs ls hP hS (lv_sub hl [0, 1, 2] rfl)
        · have h := h.2 c8
          refine lv_iconst (v := 1) hx hb dX0_numberOf_40 (by decide) ?_
          refine lv_goto (tgt := 45) hx hb dX0_numberOf_41 (by decide) ?_
          exact wk_X0_numberOf_45 C0 hd σ x1 x2 1 h H locs ls hP hS (lv_sub hl [0, 1, 2] rfl)
theorem ct_X0_numberOf (l : Launch) (D : va_G) (cc : Nat → ClassId) (ad : Nat → Nat) (hd : DA 5 ad (fun _ => True)) (g : (Nat → Nat)) (σ : KS) (x1 : Int32) (x2 : Int32) (hp : pr_X0_numberOf g σ x1 x2) : Ctr l yX0_numberOf wsX0_numberOf { frames := 3, cells := 0, slots := 0, locals := 69 } D cc (KW cc ad) 5 ad σ [.ref (ad 0), .int x1, .int x2] (fun r u => r = fn_X0_numberOf g σ x1 x2 ∧ u = σ) :=
  ctr_i (rt := (some .int)) (by decide +kernel) rfl hd (Nat.le_of_ble_eq_true rfl) (fun p e s m below meth c A C0 hd => wk_X0_numberOf_0 C0 hd σ x1 x2 (pu_X0_numberOf g σ x1 x2 hp))
theorem hin_X0_slipBehind : ∀ w ∈ u_ws RX0 TX0 7, w ∈ wsX0_slipBehind := fun w h => List.mem_cons_of_mem _ (List.mem_append_right _ h)
set_option maxHeartbeats 4000000 in
set_option maxRecDepth 100000 in
theorem wk_X0_slipBehind_42 {p : Program} {l : Launch} {e : Env} {s : State} {m : MethodId} {args : Array Value} {below : List Frame} {meth : Method} {c : Code} {D : va_G} {cc : Nat → ClassId} {ad : Nat → Nat} {A : Nat → Prop} {Post : Int32 → KS → Prop} {g : (Nat → Nat)} (C0 : Cx p s m args meth c cX0_slipBehind 7 (some .int) RX0 wsX0_slipBehind D cc A) (hd : DA 5 ad A) {K42 : (KS × Int32 × Int32 × Int32 × Int32) → Prop} (hK42 : ∀ a, K42 a → At_ p l e { frames := 3, cells := 0, slots := 0, locals := 69 } s m args below meth c (Qi_ below D (KW cc ad) A args s Post) D A (KW cc ad (a.1)) 7 42 [(0, .ref (ad 0)), (2, .int (a.2.1)), (4, .int (a.2.2.1)), (5, .int (a.2.2.2.1)), (6, .int (a.2.2.2.2))] []) (σ : KS) (x2 : Int32) (x4 : Int32) (x5 : Int32) (x6 : Int32) (h : wp_X0_slipBehind_42 g K42 Post σ x2 x4 x5 x6) : At_ p l e { frames := 3, cells := 0, slots := 0, locals := 69 } s m args below meth c (Qi_ below D (KW cc ad) A args s Post) D A (KW cc ad σ) 7 42 [(0, .ref (ad 0)), (2, .int x2), (4, .int x4), (5, .int x5), (6, .int x6)] [] := by
  obtain ⟨hx, hb, hml, hr, hown, hts, hlocks, hK, hA, hX⟩ := id C0
  have hin := hin_X0_slipBehind
  intro H locs ls hP hS hl
  unfold wp_X0_slipBehind_42 at h
  refine lv_iload hx hb dX0_slipBehind_42 (lv_at hl 4 rfl) ?_
  refine lv_iconst (v := 5) hx hb dX0_slipBehind_44 (by decide) ?_
  refine lv_icmp_gt (tgt := 71) hx hb dX0_slipBehind_45 (by decide) (fun c1 => ?_) (fun c1 => ?_)
  · have h := h.1 c1
    refine lv_bipush (v := (-9)) hx hb dX0_slipBehind_71 (by decide) ?_
    exact ret_i (Wd := KW cc ad) (u := σ) C0 h hP hS dX0_slipBehind_73
  · have h := h.2 c1
    refine lv_aload_n hx hb dX0_slipBehind_48 rfl (lv_at hl 0 rfl) ?_
    refine lv_iload hx hb dX0_slipBehind_49 (lv_at hl 2 rfl) ?_
    refine lv_iload hx hb dX0_slipBehind_51 (lv_at hl 3 rfl) ?_
    refine lv_iload hx hb dX0_slipBehind_53 (lv_at hl 4 rfl) ?_
    refine call_v (Wd := KW cc ad) (σ := σ) C0 hd lens_id (As := [.int x4, .int x5, .int x6]) (rest := []) (ct_X0_slipped l D cc ad ⟨hd.1, fun _ _ => trivial⟩ g σ x4 x5 x6) (cwV 3 hts gX0_slipBehind_X0_slipped rfl rfl rfl (by decide +kernel) ⟨Nat.le_of_ble_eq_true rfl, Nat.le_of_ble_eq_true rfl⟩) (va_recv hK hP (ci := 0) (q0 := 0) rfl rfl) hP hS rfl hl.1 rfl (by simp [Value.category]) dX0_slipBehind_55 (fun r2 u hp H locs hP hS => ?_)
    obtain ⟨hp1, hp2⟩ := hp
    subst hp1
    have hp2 := hp2.symm
    subst hp2
    have hP : va_P D vwCl (KW cc ad σ) H := hP
    refine lv_iload_n hx hb dX0_slipBehind_58 rfl (lv_at hl 1 rfl) ?_
    refine lv_icmp_ne (tgt := 65) hx hb dX0_slipBehind_59 (by decide) (fun c3 => ?_) (fun c3 => ?_)
    · have h := h.1 c3
      obtain ⟨x6_4, ex6_4⟩ : ∃ y : Int32, y = x6 + 1 := ⟨_, rfl⟩
      have h := h x6_4 ex6_4
      refine lv_iinc (v := x6_4) (lv' := [(6, .int x6_4), (0, .ref (ad 0)), (2, .int x2), (4, .int x4), (5, .int x5)]) hx hb dX0_slipBehind_65 hl (k := 4) rfl (by rw [ex6_4]; rfl) (by decide) rfl (fun ls hl => ?_)
      refine lv_goto (tgt := 42) hx hb dX0_slipBehind_68 (by decide) ?_
      exact hK42 (σ, x2, x4, x5, x6_4) h H locs ls hP hS (lv_sub hl [1, 2, 3, 4, 0] rfl)
    · have h := h.2 c3
      refine lv_iload hx hb dX0_slipBehind_62 (lv_at hl 4 rfl) ?_
      exact ret_i (Wd := KW cc ad) (u := σ) C0 h hP hS dX0_slipBehind_64
set_option maxHeartbeats 4000000 in
set_option maxRecDepth 100000 in
theorem wk_X0_slipBehind_0 {p : Program} {l : Launch} {e : Env} {s : State} {m : MethodId} {args : Array Value} {below : List Frame} {meth : Method} {c : Code} {D : va_G} {cc : Nat → ClassId} {ad : Nat → Nat} {A : Nat → Prop} {Post : Int32 → KS → Prop} {g : (Nat → Nat)} (C0 : Cx p s m args meth c cX0_slipBehind 7 (some .int) RX0 wsX0_slipBehind D cc A) (hd : DA 5 ad A) (σ : KS) (x1 : Int32) (x2 : Int32) (h : wp_X0_slipBehind g Post σ x1 x2) : At_ p l e { frames := 3, cells := 0, slots := 0, locals := 69 } s m args below meth c (Qi_ below D (KW cc ad) A args s Post) D A (KW cc ad σ) 7 0 [(0, .ref (ad 0)), (1, .int x1), (2, .int x2)] [] := by
  obtain ⟨hx, hb, hml, hr, hown, hts, hlocks, hK, hA, hX⟩ := id C0
  have hin := hin_X0_slipBehind
  intro H locs ls hP hS hl
  unfold wp_X0_slipBehind at h
  refine lv_aload_n hx hb dX0_slipBehind_0 rfl (lv_at hl 0 rfl) ?_
  refine lv_iload_n hx hb dX0_slipBehind_1 rfl (lv_at hl 1 rfl) ?_
  obtain ⟨gp1, h⟩ := h
  refine call_v (Wd := KW cc ad) (σ := σ) C0 hd lens_id (As := [.int x1]) (rest := []) (ct_X0_pairAt l D cc ad ⟨hd.1, fun _ _ => trivial⟩ g σ x1 gp1) (cwV 1 hts gX0_slipBehind_X0_pairAt rfl rfl rfl (by decide +kernel) ⟨Nat.le_of_ble_eq_true rfl, Nat.le_of_ble_eq_true rfl⟩) (va_recv hK hP (ci := 0) (q0 := 0) rfl rfl) hP hS rfl hl.1 rfl (by simp [Value.category]) dX0_slipBehind_2 (fun r2 u hp H locs hP hS => ?_)
  obtain ⟨hp1, hp2⟩ := hp
  subst hp1
  have hp2 := hp2.symm
  subst hp2
  have hP : va_P D vwCl (KW cc ad σ) H := hP
  refine lv_topi (fun x3_3 ex3_3 => ?_)
  have h := h x3_3 ex3_3
  refine lv_istore_n (lv' := [(3, .int x3_3), (0, .ref (ad 0)), (1, .int x1), (2, .int x2)]) hx hb dX0_slipBehind_5 rfl hl (by decide) rfl (fun ls hl => ?_)
  refine lv_iload_n hx hb dX0_slipBehind_6 rfl (lv_at hl 0 rfl) ?_
  refine lv_bipush (v := 100) hx hb dX0_slipBehind_7 (by decide) ?_
  refine lv_idiv hx hb dX0_slipBehind_9 (by decide) ?_
  refine lv_topi (fun x4_4 ex4_4 => ?_)
  have h := h x4_4 ex4_4
  refine lv_istore (lv' := [(4, .int x4_4), (3, .int x3_3), (0, .ref (ad 0)), (1, .int x1), (2, .int x2)]) hx hb dX0_slipBehind_10 hl (by decide) rfl (fun ls hl => ?_)
  refine lv_iload_n hx hb dX0_slipBehind_12 rfl (lv_at hl 1 rfl) ?_
  refine lv_bipush (v := 100) hx hb dX0_slipBehind_13 (by decide) ?_
  refine lv_irem hx hb dX0_slipBehind_15 (by decide) ?_
  refine lv_topi (fun x5_5 ex5_5 => ?_)
  have h := h x5_5 ex5_5
  refine lv_istore (lv' := [(5, .int x5_5), (4, .int x4_4), (3, .int x3_3), (0, .ref (ad 0)), (1, .int x1), (2, .int x2)]) hx hb dX0_slipBehind_16 hl (by decide) rfl (fun ls hl => ?_)
  refine lv_iload_n hx hb dX0_slipBehind_18 rfl (lv_at hl 5 rfl) ?_
  refine lv_aload_n hx hb dX0_slipBehind_19 rfl (lv_at hl 3 rfl) ?_
  refine lv_iload hx hb dX0_slipBehind_20 (lv_at hl 1 rfl) ?_
  refine lv_iload hx hb dX0_slipBehind_22 (lv_at hl 0 rfl) ?_
  refine call_v (Wd := KW cc ad) (σ := σ) C0 hd lens_id (As := [.int x4_4, .int x5_5]) (rest := [.int x2]) (ct_X0_result l D cc ad ⟨hd.1, fun _ _ => trivial⟩ g σ x4_4 x5_5) (cwV 2 hts gX0_slipBehind_X0_result rfl rfl rfl (by decide +kernel) ⟨Nat.le_of_ble_eq_true rfl, Nat.le_of_ble_eq_true rfl⟩) (va_recv hK hP (ci := 0) (q0 := 0) rfl rfl) hP hS rfl hl.1 rfl (by simp [Value.category]) dX0_slipBehind_24 (fun r6 u hp H locs hP hS => ?_)
  obtain ⟨hp1, hp2⟩ := hp
  subst hp1
  have hp2 := hp2.symm
  subst hp2
  have hP : va_P D vwCl (KW cc ad σ) H := hP
  refine lv_icmp_ne (tgt := 32) hx hb dX0_slipBehind_27 (by decide) (fun c7 => ?_) (fun c7 => ?_)
  · have h := h.1 c7
    refine lv_iload_n hx hb dX0_slipBehind_32 rfl (lv_at hl 5 rfl) ?_
    refine lv_if_ge (tgt := 39) hx hb dX0_slipBehind_33 (by decide) (fun c8 => ?_) (fun c8 => ?_)
    · have h := h.1 c8
      refine lv_iconst (v := 1) hx hb dX0_slipBehind_39 (by decide) ?_
      refine lv_istore (lv' := [(6, .int 1), (5, .int x5_5), (4, .int x4_4), (3, .int x3_3), (0, .ref (ad 0)), (1, .int x1), (2, .int x2)]) hx hb dX0_slipBehind_40 hl (by decide) rfl (fun ls hl => ?_)
      exact lp_at (Wt := fun a => At_ p l e { frames := 3, cells := 0, slots := 0, locals := 69 } s m args below meth c (Qi_ below D (KW cc ad) A args s Post) D A (KW cc ad (a.1)) 7 42 [(0, .ref (ad 0)), (2, .int (a.2.1)), (4, .int (a.2.2.1)), (5, .int (a.2.2.2.1)), (6, .int (a.2.2.2.2))] []) (fun K hK a h => wk_X0_slipBehind_42 C0 hd hK a.1 a.2.1 a.2.2.1 a.2.2.2.1 a.2.2.2.2 h) h H locs ls hP hS (lv_sub hl [4, 6, 2, 1, 0] rfl)
    · have h := h.2 c8
      refine lv_bipush (v := (-9)) hx hb dX0_slipBehind_36 (by decide) ?_
      exact ret_i (Wd := KW cc ad) (u := σ) C0 h hP hS dX0_slipBehind_38
  · have h := h.2 c7
    refine lv_iconst (v := 0) hx hb dX0_slipBehind_30 (by decide) ?_
    exact ret_i (Wd := KW cc ad) (u := σ) C0 h hP hS dX0_slipBehind_31
theorem ct_X0_slipBehind (l : Launch) (D : va_G) (cc : Nat → ClassId) (ad : Nat → Nat) (hd : DA 5 ad (fun _ => True)) (g : (Nat → Nat)) (σ : KS) (x1 : Int32) (x2 : Int32) (hp : pr_X0_slipBehind g σ x1 x2) : Ctr l yX0_slipBehind wsX0_slipBehind { frames := 3, cells := 0, slots := 0, locals := 69 } D cc (KW cc ad) 5 ad σ [.ref (ad 0), .int x1, .int x2] (fun r u => r = fn_X0_slipBehind g σ x1 x2 ∧ u = σ) :=
  ctr_i (rt := (some .int)) (by decide +kernel) rfl hd (Nat.le_of_ble_eq_true rfl) (fun p e s m below meth c A C0 hd => wk_X0_slipBehind_0 C0 hd σ x1 x2 (pu_X0_slipBehind g σ x1 x2 hp))
theorem hin_X0_addPlace : ∀ w ∈ u_ws RX0 TX0 7, w ∈ wsX0_addPlace := fun w h => List.mem_cons_of_mem _ (List.mem_append_right _ h)
set_option maxHeartbeats 4000000 in
set_option maxRecDepth 100000 in
theorem wk_X0_addPlace_0 {p : Program} {l : Launch} {e : Env} {s : State} {m : MethodId} {args : Array Value} {below : List Frame} {meth : Method} {c : Code} {D : va_G} {cc : Nat → ClassId} {ad : Nat → Nat} {A : Nat → Prop} {Post : Int32 → KS → Prop} {g : (Nat → Nat)} (C0 : Cx p s m args meth c cX0_addPlace 1 (some .int) RX0 wsX0_addPlace D cc A) (hd : DA 5 ad A) (σ : KS) (h : wp_X0_addPlace g Post σ) : At_ p l e { frames := 0, cells := 0, slots := 0, locals := 0 } s m args below meth c (Qi_ below D (KW cc ad) A args s Post) D A (KW cc ad σ) 1 0 [(0, .ref (ad 0))] [] := by
  obtain ⟨hx, hb, hml, hr, hown, hts, hlocks, hK, hA, hX⟩ := id C0
  have hin := hin_X0_addPlace
  intro H locs ls hP hS hl
  unfold wp_X0_addPlace at h
  refine lv_aload_n hx hb dX0_addPlace_0 rfl (lv_at hl 0 rfl) ?_
  refine lv_dup hx hb dX0_addPlace_1 rfl ?_
  refine va_get (D := D) (ci := 0) (v := .int (ks_pl σ)) (C := RX0) (T := TX0) (N := 7) hx hb hts hin hown hK hP 0 rfl rfl 6 (by decide) (hts (.fieldLink RX0 31 "ClassSheets$Kind" "places" "I") (List.mem_of_getElem? (i := 1) rfl)) (fun _ h9 => h9) rfl dX0_addPlace_2 ?_
  refine lv_iconst (v := 1) hx hb dX0_addPlace_5 (by decide) ?_
  refine lv_iadd hx hb dX0_addPlace_6 ?_
  refine va_put (D := D) (ci := 0) (v := .int ((ks_pl σ) + 1)) (ty := .int) (C := RX0) (T := TX0) (N := 7) hx hb hts hin tyX0 tyX0_ok nmX0 hown hK hP (kD hd) hS 0 rfl rfl 6 (by decide) (hts (.fieldLink RX0 31 "ClassSheets$Kind" "places" "I") (List.mem_of_getElem? (i := 1) rfl)) (fun _ h9 => h9) rfl (by decide +kernel) rfl rfl (Nat.le_of_ble_eq_true rfl) dX0_addPlace_7 (fun H locs hP _ hS => ?_)
  have hP : va_P D vwCl (KW cc ad (ks_s_pl σ ((ks_pl σ) + 1))) H := hP
  refine lv_aload_n hx hb dX0_addPlace_10 rfl (lv_at hl 0 rfl) ?_
  refine va_get (D := D) (ci := 0) (v := .int (ks_pl (ks_s_pl σ ((ks_pl σ) + 1)))) (C := RX0) (T := TX0) (N := 7) hx hb hts hin hown hK hP 0 rfl rfl 6 (by decide) (hts (.fieldLink RX0 31 "ClassSheets$Kind" "places" "I") (List.mem_of_getElem? (i := 1) rfl)) (fun _ h9 => h9) rfl dX0_addPlace_11 ?_
  refine lv_iconst (v := 1) hx hb dX0_addPlace_14 (by decide) ?_
  refine lv_isub hx hb dX0_addPlace_15 ?_
  exact ret_i (Wd := KW cc ad) (u := (ks_s_pl σ ((ks_pl σ) + 1))) C0 h hP hS dX0_addPlace_16
theorem ct_X0_addPlace (l : Launch) (D : va_G) (cc : Nat → ClassId) (ad : Nat → Nat) (hd : DA 5 ad (fun _ => True)) (g : (Nat → Nat)) (σ : KS) : Ctr l yX0_addPlace wsX0_addPlace { frames := 0, cells := 0, slots := 0, locals := 0 } D cc (KW cc ad) 5 ad σ [.ref (ad 0)] (po_X0_addPlace g σ) :=
  ctr_i (rt := (some .int)) (by decide +kernel) rfl hd (Nat.le_of_ble_eq_true rfl) (fun p e s m below meth c A C0 hd => wk_X0_addPlace_0 C0 hd σ (pu_X0_addPlace g σ))
theorem hin_X0_dropPlaces : ∀ w ∈ u_ws RX0 TX0 7, w ∈ wsX0_dropPlaces := fun w h => List.mem_cons_of_mem _ (List.mem_append_right _ h)
set_option maxHeartbeats 4000000 in
set_option maxRecDepth 100000 in
theorem wk_X0_dropPlaces_0 {p : Program} {l : Launch} {e : Env} {s : State} {m : MethodId} {args : Array Value} {below : List Frame} {meth : Method} {c : Code} {D : va_G} {cc : Nat → ClassId} {ad : Nat → Nat} {A : Nat → Prop} {Post : Int32 → KS → Prop} {g : (Nat → Nat)} (C0 : Cx p s m args meth c cX0_dropPlaces 1 none RX0 wsX0_dropPlaces D cc A) (hd : DA 5 ad A) (σ : KS) (h : wp_X0_dropPlaces g Post σ) : At_ p l e { frames := 0, cells := 0, slots := 0, locals := 0 } s m args below meth c (Qv_ below D (KW cc ad) A args s Post) D A (KW cc ad σ) 1 0 [(0, .ref (ad 0))] [] := by
  obtain ⟨hx, hb, hml, hr, hown, hts, hlocks, hK, hA, hX⟩ := id C0
  have hin := hin_X0_dropPlaces
  intro H locs ls hP hS hl
  unfold wp_X0_dropPlaces at h
  refine lv_aload_n hx hb dX0_dropPlaces_0 rfl (lv_at hl 0 rfl) ?_
  refine lv_iconst (v := 0) hx hb dX0_dropPlaces_1 (by decide) ?_
  refine va_put (D := D) (ci := 0) (v := .int 0) (ty := .int) (C := RX0) (T := TX0) (N := 7) hx hb hts hin tyX0 tyX0_ok nmX0 hown hK hP (kD hd) hS 0 rfl rfl 6 (by decide) (hts (.fieldLink RX0 31 "ClassSheets$Kind" "places" "I") (List.mem_of_getElem? (i := 1) rfl)) (fun _ h9 => h9) rfl (by decide +kernel) rfl rfl (Nat.le_of_ble_eq_true rfl) dX0_dropPlaces_2 (fun H locs hP _ hS => ?_)
  have hP : va_P D vwCl (KW cc ad (ks_s_pl σ 0)) H := hP
  exact ret_v (Wd := KW cc ad) (u := (ks_s_pl σ 0)) C0 h hP hS dX0_dropPlaces_5
theorem ct_X0_dropPlaces (l : Launch) (D : va_G) (cc : Nat → ClassId) (ad : Nat → Nat) (hd : DA 5 ad (fun _ => True)) (g : (Nat → Nat)) (σ : KS) : Ctv l yX0_dropPlaces wsX0_dropPlaces { frames := 0, cells := 0, slots := 0, locals := 0 } D cc (KW cc ad) 5 ad σ [.ref (ad 0)] (po_X0_dropPlaces g σ) :=
  ctr_v (rt := none) (by decide +kernel) rfl hd (Nat.le_of_ble_eq_true rfl) (fun p e s m below meth c A C0 hd => wk_X0_dropPlaces_0 C0 hd σ (pu_X0_dropPlaces g σ))
theorem hin_X0_hasEnoughForTwo : ∀ w ∈ u_ws RX0 TX0 7, w ∈ wsX0_hasEnoughForTwo := fun w h => List.mem_cons_of_mem _ (List.mem_append_right _ h)
set_option maxHeartbeats 4000000 in
set_option maxRecDepth 100000 in
theorem wk_X0_hasEnoughForTwo_0 {p : Program} {l : Launch} {e : Env} {s : State} {m : MethodId} {args : Array Value} {below : List Frame} {meth : Method} {c : Code} {D : va_G} {cc : Nat → ClassId} {ad : Nat → Nat} {A : Nat → Prop} {Post : Int32 → KS → Prop} {g : (Nat → Nat)} (C0 : Cx p s m args meth c cX0_hasEnoughForTwo 1 (some .boolean) RX0 wsX0_hasEnoughForTwo D cc A) (hd : DA 5 ad A) (σ : KS) (h : wp_X0_hasEnoughForTwo g Post σ) : At_ p l e { frames := 0, cells := 0, slots := 0, locals := 0 } s m args below meth c (Qi_ below D (KW cc ad) A args s Post) D A (KW cc ad σ) 1 0 [(0, .ref (ad 0))] [] := by
  obtain ⟨hx, hb, hml, hr, hown, hts, hlocks, hK, hA, hX⟩ := id C0
  have hin := hin_X0_hasEnoughForTwo
  intro H locs ls hP hS hl
  unfold wp_X0_hasEnoughForTwo at h
  refine lv_aload_n hx hb dX0_hasEnoughForTwo_0 rfl (lv_at hl 0 rfl) ?_
  refine va_get (D := D) (ci := 0) (v := .int (ks_co σ)) (C := RX0) (T := TX0) (N := 7) hx hb hts hin hown hK hP 0 rfl rfl 5 (by decide) (hts (.fieldLink RX0 28 "ClassSheets$Kind" "count" "I") (List.mem_of_getElem? (i := 1) rfl)) (fun _ h9 => h9) rfl dX0_hasEnoughForTwo_1 ?_
  refine lv_iconst (v := 2) hx hb dX0_hasEnoughForTwo_4 (by decide) ?_
  refine lv_aload_n hx hb dX0_hasEnoughForTwo_5 rfl (lv_at hl 0 rfl) ?_
  refine va_get (D := D) (ci := 0) (v := .int (ks_pl σ)) (C := RX0) (T := TX0) (N := 7) hx hb hts hin hown hK hP 0 rfl rfl 6 (by decide) (hts (.fieldLink RX0 31 "ClassSheets$Kind" "places" "I") (List.mem_of_getElem? (i := 2) rfl)) (fun _ h9 => h9) rfl dX0_hasEnoughForTwo_6 ?_
  refine lv_imul hx hb dX0_hasEnoughForTwo_9 ?_
  refine lv_icmp_lt (tgt := 17) hx hb dX0_hasEnoughForTwo_10 (by decide) (fun c1 => ?_) (fun c1 => ?_)
  · have h := h.1 c1
    refine lv_iconst (v := 0) hx hb dX0_hasEnoughForTwo_17 (by decide) ?_
    exact ret_z (Wd := KW cc ad) (u := σ) C0 rfl h hP hS dX0_hasEnoughForTwo_18
  · have h := h.2 c1
    refine lv_iconst (v := 1) hx hb dX0_hasEnoughForTwo_13 (by decide) ?_
    refine lv_goto (tgt := 18) hx hb dX0_hasEnoughForTwo_14 (by decide) ?_
    exact ret_z (Wd := KW cc ad) (u := σ) C0 rfl h hP hS dX0_hasEnoughForTwo_18
theorem ct_X0_hasEnoughForTwo (l : Launch) (D : va_G) (cc : Nat → ClassId) (ad : Nat → Nat) (hd : DA 5 ad (fun _ => True)) (g : (Nat → Nat)) (σ : KS) : Ctr l yX0_hasEnoughForTwo wsX0_hasEnoughForTwo { frames := 0, cells := 0, slots := 0, locals := 0 } D cc (KW cc ad) 5 ad σ [.ref (ad 0)] (fun r u => r = fn_X0_hasEnoughForTwo σ ∧ u = σ) :=
  ctr_i (rt := (some .boolean)) (by decide +kernel) rfl hd (Nat.le_of_ble_eq_true rfl) (fun p e s m below meth c A C0 hd => wk_X0_hasEnoughForTwo_0 C0 hd σ (pu_X0_hasEnoughForTwo g σ))
theorem hin_X0_variantFor : ∀ w ∈ u_ws RX0 TX0 7, w ∈ wsX0_variantFor := fun w h => List.mem_cons_of_mem _ (List.mem_append_right _ h)
set_option maxHeartbeats 4000000 in
set_option maxRecDepth 100000 in
theorem wk_X0_variantFor_0 {p : Program} {l : Launch} {e : Env} {s : State} {m : MethodId} {args : Array Value} {below : List Frame} {meth : Method} {c : Code} {D : va_G} {cc : Nat → ClassId} {ad : Nat → Nat} {A : Nat → Prop} {Post : Int32 → KS → Prop} {g : (Nat → Nat)} (C0 : Cx p s m args meth c cX0_variantFor 3 (some .int) RX0 wsX0_variantFor D cc A) (hd : DA 5 ad A) (σ : KS) (x1 : Int32) (x2 : Int32) (h : wp_X0_variantFor g Post σ x1 x2) : At_ p l e { frames := 0, cells := 0, slots := 0, locals := 0 } s m args below meth c (Qi_ below D (KW cc ad) A args s Post) D A (KW cc ad σ) 3 0 [(0, .ref (ad 0)), (1, .int x1), (2, .int x2)] [] := by
  obtain ⟨hx, hb, hml, hr, hown, hts, hlocks, hK, hA, hX⟩ := id C0
  have hin := hin_X0_variantFor
  intro H locs ls hP hS hl
  unfold wp_X0_variantFor at h
  refine lv_aload_n hx hb dX0_variantFor_0 rfl (lv_at hl 0 rfl) ?_
  refine va_get (D := D) (ci := 0) (v := .int (ks_co σ)) (C := RX0) (T := TX0) (N := 7) hx hb hts hin hown hK hP 0 rfl rfl 5 (by decide) (hts (.fieldLink RX0 28 "ClassSheets$Kind" "count" "I") (List.mem_of_getElem? (i := 1) rfl)) (fun _ h9 => h9) rfl dX0_variantFor_1 ?_
  refine lv_if_le (tgt := 30) hx hb dX0_variantFor_4 (by decide) (fun c1 => ?_) (fun c1 => ?_)
  · have h := h.1 c1
    refine lv_bipush (v := (-9)) hx hb dX0_variantFor_30 (by decide) ?_
    exact ret_i (Wd := KW cc ad) (u := σ) C0 h hP hS dX0_variantFor_32
  · have h := h.2 c1
    refine lv_iload_n hx hb dX0_variantFor_7 rfl (lv_at hl 1 rfl) ?_
    refine lv_aload_n hx hb dX0_variantFor_8 rfl (lv_at hl 0 rfl) ?_
    refine va_get (D := D) (ci := 0) (v := .int (ks_pl σ)) (C := RX0) (T := TX0) (N := 7) hx hb hts hin hown hK hP 0 rfl rfl 6 (by decide) (hts (.fieldLink RX0 31 "ClassSheets$Kind" "places" "I") (List.mem_of_getElem? (i := 2) rfl)) (fun _ h9 => h9) rfl dX0_variantFor_9 ?_
    refine lv_imul hx hb dX0_variantFor_12 ?_
    refine lv_iload_n hx hb dX0_variantFor_13 rfl (lv_at hl 2 rfl) ?_
    refine lv_iadd hx hb dX0_variantFor_14 ?_
    refine lv_aload_n hx hb dX0_variantFor_15 rfl (lv_at hl 0 rfl) ?_
    refine va_get (D := D) (ci := 0) (v := .ref (ad 3)) (C := RX0) (T := TX0) (N := 7) hx hb hts hin hown hK hP 0 rfl rfl 3 (by decide) (hts (.fieldLink RX0 22 "ClassSheets$Kind" "rules" "[I") (List.mem_of_getElem? (i := 3) rfl)) (fun _ h9 => h9) rfl dX0_variantFor_16 ?_
    refine lv_iconst (v := 2) hx hb dX0_variantFor_19 (by decide) ?_
    obtain ⟨gi2, h⟩ := h
    refine va_iald (D := D) (f := ks_ru σ) hx hb hK hP 3 0 rfl rfl gi2 dX0_variantFor_20 ?_
    refine lv_iadd hx hb dX0_variantFor_21 ?_
    refine lv_aload_n hx hb dX0_variantFor_22 rfl (lv_at hl 0 rfl) ?_
    refine va_get (D := D) (ci := 0) (v := .int (ks_co σ)) (C := RX0) (T := TX0) (N := 7) hx hb hts hin hown hK hP 0 rfl rfl 5 (by decide) (hts (.fieldLink RX0 28 "ClassSheets$Kind" "count" "I") (List.mem_of_getElem? (i := 1) rfl)) (fun _ h9 => h9) rfl dX0_variantFor_23 ?_
    obtain ⟨gd3, h⟩ := h
    refine lv_irem hx hb dX0_variantFor_26 gd3 ?_
    refine lv_goto (tgt := 32) hx hb dX0_variantFor_27 (by decide) ?_
    exact ret_i (Wd := KW cc ad) (u := σ) C0 h hP hS dX0_variantFor_32
theorem ct_X0_variantFor (l : Launch) (D : va_G) (cc : Nat → ClassId) (ad : Nat → Nat) (hd : DA 5 ad (fun _ => True)) (g : (Nat → Nat)) (σ : KS) (x1 : Int32) (x2 : Int32) : Ctr l yX0_variantFor wsX0_variantFor { frames := 0, cells := 0, slots := 0, locals := 0 } D cc (KW cc ad) 5 ad σ [.ref (ad 0), .int x1, .int x2] (fun r u => r = fn_X0_variantFor σ x1 x2 ∧ u = σ) :=
  ctr_i (rt := (some .int)) (by decide +kernel) rfl hd (Nat.le_of_ble_eq_true rfl) (fun p e s m below meth c A C0 hd => wk_X0_variantFor_0 C0 hd σ x1 x2 (pu_X0_variantFor g σ x1 x2))
theorem hin_X0_placesInCommon : ∀ w ∈ u_ws RX0 TX0 7, w ∈ wsX0_placesInCommon := fun w h => List.mem_cons_of_mem _ (List.mem_append_right _ h)
set_option maxHeartbeats 4000000 in
set_option maxRecDepth 100000 in
theorem wk_X0_placesInCommon_32 {p : Program} {l : Launch} {e : Env} {s : State} {m : MethodId} {args : Array Value} {below : List Frame} {meth : Method} {c : Code} {D : va_G} {cc : Nat → ClassId} {ad : Nat → Nat} {A : Nat → Prop} {Post : Int32 → KS → Prop} {g : (Nat → Nat)} (C0 : Cx p s m args meth c cX0_placesInCommon 6 (some .int) RX0 wsX0_placesInCommon D cc A) (hd : DA 5 ad A) {K32 : (KS × Int32 × Int32 × Int32) → Prop} (hK32 : ∀ a, K32 a → At_ p l e { frames := 1, cells := 0, slots := 0, locals := 22 } s m args below meth c (Qi_ below D (KW cc ad) A args s Post) D A (KW cc ad (a.1)) 6 32 [(0, .ref (ad 0)), (3, .int (a.2.1)), (4, .int (a.2.2.1)), (5, .int (a.2.2.2))] []) (σ : KS) (x3 : Int32) (x4 : Int32) (x5 : Int32) (h : wp_X0_placesInCommon_32 g K32 Post σ x3 x4 x5) : At_ p l e { frames := 1, cells := 0, slots := 0, locals := 22 } s m args below meth c (Qi_ below D (KW cc ad) A args s Post) D A (KW cc ad σ) 6 32 [(0, .ref (ad 0)), (3, .int x3), (4, .int x4), (5, .int x5)] [] := by
  obtain ⟨hx, hb, hml, hr, hown, hts, hlocks, hK, hA, hX⟩ := id C0
  have hin := hin_X0_placesInCommon
  intro H locs ls hP hS hl
  unfold wp_X0_placesInCommon_32 at h
  refine lv_iload hx hb dX0_placesInCommon_32 (lv_at hl 3 rfl) ?_
  refine lv_aload_n hx hb dX0_placesInCommon_34 rfl (lv_at hl 0 rfl) ?_
  refine va_get (D := D) (ci := 0) (v := .int (ks_pl σ)) (C := RX0) (T := TX0) (N := 7) hx hb hts hin hown hK hP 0 rfl rfl 6 (by decide) (hts (.fieldLink RX0 31 "ClassSheets$Kind" "places" "I") (List.mem_of_getElem? (i := 2) rfl)) (fun _ h9 => h9) rfl dX0_placesInCommon_35 ?_
  refine lv_icmp_ge (tgt := 66) hx hb dX0_placesInCommon_38 (by decide) (fun c1 => ?_) (fun c1 => ?_)
  · have h := h.1 c1
    refine lv_iload hx hb dX0_placesInCommon_66 (lv_at hl 2 rfl) ?_
    exact ret_i (Wd := KW cc ad) (u := σ) C0 h hP hS dX0_placesInCommon_68
  · have h := h.2 c1
    refine lv_iload_n hx hb dX0_placesInCommon_41 rfl (lv_at hl 1 rfl) ?_
    refine lv_iload hx hb dX0_placesInCommon_42 (lv_at hl 3 rfl) ?_
    refine lv_iadd hx hb dX0_placesInCommon_44 ?_
    refine lv_aload_n hx hb dX0_placesInCommon_45 rfl (lv_at hl 0 rfl) ?_
    refine va_get (D := D) (ci := 0) (v := .int (ks_co σ)) (C := RX0) (T := TX0) (N := 7) hx hb hts hin hown hK hP 0 rfl rfl 5 (by decide) (hts (.fieldLink RX0 28 "ClassSheets$Kind" "count" "I") (List.mem_of_getElem? (i := 1) rfl)) (fun _ h9 => h9) rfl dX0_placesInCommon_46 ?_
    obtain ⟨gd2, h⟩ := h
    refine lv_irem hx hb dX0_placesInCommon_49 gd2 ?_
    refine lv_aload_n hx hb dX0_placesInCommon_50 rfl (lv_at hl 0 rfl) ?_
    refine va_get (D := D) (ci := 0) (v := .int (ks_pl σ)) (C := RX0) (T := TX0) (N := 7) hx hb hts hin hown hK hP 0 rfl rfl 6 (by decide) (hts (.fieldLink RX0 31 "ClassSheets$Kind" "places" "I") (List.mem_of_getElem? (i := 2) rfl)) (fun _ h9 => h9) rfl dX0_placesInCommon_51 ?_
    refine lv_icmp_ge (tgt := 60) hx hb dX0_placesInCommon_54 (by decide) (fun c3 => ?_) (fun c3 => ?_)
    · have h := h.1 c3
      obtain ⟨x5_4, ex5_4⟩ : ∃ y : Int32, y = x5 + 1 := ⟨_, rfl⟩
      have h := h x5_4 ex5_4
      refine lv_iinc (v := x5_4) (lv' := [(5, .int x5_4), (0, .ref (ad 0)), (3, .int x3), (4, .int x4)]) hx hb dX0_placesInCommon_60 hl (k := 3) rfl (by rw [ex5_4]; rfl) (by decide) rfl (fun ls hl => ?_)
      refine lv_goto (tgt := 32) hx hb dX0_placesInCommon_63 (by decide) ?_
      exact hK32 (σ, x3, x4, x5_4) h H locs ls hP hS (lv_sub hl [1, 2, 3, 0] rfl)
    · have h := h.2 c3
      obtain ⟨x4_5, ex4_5⟩ : ∃ y : Int32, y = x4 + 1 := ⟨_, rfl⟩
      have h := h x4_5 ex4_5
      refine lv_iinc (v := x4_5) (lv' := [(4, .int x4_5), (0, .ref (ad 0)), (3, .int x3), (5, .int x5)]) hx hb dX0_placesInCommon_57 hl (k := 2) rfl (by rw [ex4_5]; rfl) (by decide) rfl (fun ls hl => ?_)
      obtain ⟨x5_6, ex5_6⟩ : ∃ y : Int32, y = x5 + 1 := ⟨_, rfl⟩
      have h := h x5_6 ex5_6
      refine lv_iinc (v := x5_6) (lv' := [(5, .int x5_6), (4, .int x4_5), (0, .ref (ad 0)), (3, .int x3)]) hx hb dX0_placesInCommon_60 hl (k := 3) rfl (by rw [ex5_6]; rfl) (by decide) rfl (fun ls hl => ?_)
      refine lv_goto (tgt := 32) hx hb dX0_placesInCommon_63 (by decide) ?_
      exact hK32 (σ, x3, x4_5, x5_6) h H locs ls hP hS (lv_sub hl [2, 3, 1, 0] rfl)
set_option maxHeartbeats 4000000 in
set_option maxRecDepth 100000 in
theorem wk_X0_placesInCommon_0 {p : Program} {l : Launch} {e : Env} {s : State} {m : MethodId} {args : Array Value} {below : List Frame} {meth : Method} {c : Code} {D : va_G} {cc : Nat → ClassId} {ad : Nat → Nat} {A : Nat → Prop} {Post : Int32 → KS → Prop} {g : (Nat → Nat)} (C0 : Cx p s m args meth c cX0_placesInCommon 6 (some .int) RX0 wsX0_placesInCommon D cc A) (hd : DA 5 ad A) (σ : KS) (x1 : Int32) (x2 : Int32) (h : wp_X0_placesInCommon g Post σ x1 x2) : At_ p l e { frames := 1, cells := 0, slots := 0, locals := 22 } s m args below meth c (Qi_ below D (KW cc ad) A args s Post) D A (KW cc ad σ) 6 0 [(0, .ref (ad 0)), (1, .int x1), (2, .int x2)] [] := by
  obtain ⟨hx, hb, hml, hr, hown, hts, hlocks, hK, hA, hX⟩ := id C0
  have hin := hin_X0_placesInCommon
  intro H locs ls hP hS hl
  unfold wp_X0_placesInCommon at h
  refine lv_aload_n hx hb dX0_placesInCommon_0 rfl (lv_at hl 0 rfl) ?_
  refine va_get (D := D) (ci := 0) (v := .int (ks_co σ)) (C := RX0) (T := TX0) (N := 7) hx hb hts hin hown hK hP 0 rfl rfl 5 (by decide) (hts (.fieldLink RX0 28 "ClassSheets$Kind" "count" "I") (List.mem_of_getElem? (i := 1) rfl)) (fun _ h9 => h9) rfl dX0_placesInCommon_1 ?_
  refine lv_iconst (v := 1) hx hb dX0_placesInCommon_4 (by decide) ?_
  refine lv_icmp_ge (tgt := 10) hx hb dX0_placesInCommon_5 (by decide) (fun c1 => ?_) (fun c1 => ?_)
  · have h := h.1 c1
    refine lv_iload_n hx hb dX0_placesInCommon_10 rfl (lv_at hl 1 rfl) ?_
    refine lv_iload_n hx hb dX0_placesInCommon_11 rfl (lv_at hl 2 rfl) ?_
    refine lv_isub hx hb dX0_placesInCommon_12 ?_
    refine lv_aload_n hx hb dX0_placesInCommon_13 rfl (lv_at hl 0 rfl) ?_
    refine va_get (D := D) (ci := 0) (v := .int (ks_pl σ)) (C := RX0) (T := TX0) (N := 7) hx hb hts hin hown hK hP 0 rfl rfl 6 (by decide) (hts (.fieldLink RX0 31 "ClassSheets$Kind" "places" "I") (List.mem_of_getElem? (i := 2) rfl)) (fun _ h9 => h9) rfl dX0_placesInCommon_14 ?_
    refine lv_imul hx hb dX0_placesInCommon_17 ?_
    refine lv_aload_n hx hb dX0_placesInCommon_18 rfl (lv_at hl 0 rfl) ?_
    refine va_get (D := D) (ci := 0) (v := .int (ks_co σ)) (C := RX0) (T := TX0) (N := 7) hx hb hts hin hown hK hP 0 rfl rfl 5 (by decide) (hts (.fieldLink RX0 28 "ClassSheets$Kind" "count" "I") (List.mem_of_getElem? (i := 1) rfl)) (fun _ h9 => h9) rfl dX0_placesInCommon_19 ?_
    obtain ⟨gp2, h⟩ := h
    refine call_s (Wd := KW cc ad) (σ := σ) C0 hd (lens_un (adc := ad)) (As := [.int ((x1 - x2) * (ks_pl σ)), .int (ks_co σ)]) (rest := []) (ct_J9_floorMod_7cf53 l D cc ad da0 ((x1 - x2) * (ks_pl σ)) (ks_co σ) gp2) (va_cwS 2 hts gX0_placesInCommon_J9_floorMod_7cf53 rfl rfl rfl (by decide +kernel) ⟨Nat.le_of_ble_eq_true rfl, Nat.le_of_ble_eq_true rfl⟩) hP hS rfl hl.1 rfl (by simp [Value.category]) dX0_placesInCommon_22 (fun r3 u hp H locs hP hS => ?_)
    obtain ⟨hp1, hp2⟩ := hp
    subst hp1
    have hP : va_P D vwCl (KW cc ad σ) H := hP
    refine lv_topi (fun x3_4 ex3_4 => ?_)
    have h := h x3_4 ex3_4
    refine lv_istore_n (lv' := [(3, .int x3_4), (0, .ref (ad 0)), (1, .int x1), (2, .int x2)]) hx hb dX0_placesInCommon_25 rfl hl (by decide) rfl (fun ls hl => ?_)
    refine lv_iconst (v := 0) hx hb dX0_placesInCommon_26 (by decide) ?_
    refine lv_istore (lv' := [(4, .int 0), (3, .int x3_4), (0, .ref (ad 0)), (1, .int x1), (2, .int x2)]) hx hb dX0_placesInCommon_27 hl (by decide) rfl (fun ls hl => ?_)
    refine lv_iconst (v := 0) hx hb dX0_placesInCommon_29 (by decide) ?_
    refine lv_istore (lv' := [(5, .int 0), (4, .int 0), (3, .int x3_4), (0, .ref (ad 0)), (1, .int x1), (2, .int x2)]) hx hb dX0_placesInCommon_30 hl (by decide) rfl (fun ls hl => ?_)
    exact lp_at (Wt := fun a => At_ p l e { frames := 1, cells := 0, slots := 0, locals := 22 } s m args below meth c (Qi_ below D (KW cc ad) A args s Post) D A (KW cc ad (a.1)) 6 32 [(0, .ref (ad 0)), (3, .int (a.2.1)), (4, .int (a.2.2.1)), (5, .int (a.2.2.2))] []) (fun K hK a h => wk_X0_placesInCommon_32 C0 hd hK a.1 a.2.1 a.2.2.1 a.2.2.2 h) h H locs ls hP hS (lv_sub hl [3, 2, 1, 0] rfl)
  · have h := h.2 c1
    refine lv_iconst (v := 0) hx hb dX0_placesInCommon_8 (by decide) ?_
    exact ret_i (Wd := KW cc ad) (u := σ) C0 h hP hS dX0_placesInCommon_9
theorem ct_X0_placesInCommon (l : Launch) (D : va_G) (cc : Nat → ClassId) (ad : Nat → Nat) (hd : DA 5 ad (fun _ => True)) (g : (Nat → Nat)) (σ : KS) (x1 : Int32) (x2 : Int32) (hp : pr_X0_placesInCommon g σ x1 x2) : Ctr l yX0_placesInCommon wsX0_placesInCommon { frames := 1, cells := 0, slots := 0, locals := 22 } D cc (KW cc ad) 5 ad σ [.ref (ad 0), .int x1, .int x2] (fun r u => r = fn_X0_placesInCommon g σ x1 x2 ∧ u = σ) :=
  ctr_i (rt := (some .int)) (by decide +kernel) rfl hd (Nat.le_of_ble_eq_true rfl) (fun p e s m below meth c A C0 hd => wk_X0_placesInCommon_0 C0 hd σ x1 x2 (pu_X0_placesInCommon g σ x1 x2 hp))
