theorem hin_X2_noSheet : ∀ w ∈ u_ws RX2 TX2 21, w ∈ wsX2_noSheet := fun w h => List.mem_cons_of_mem _ (List.mem_append_right _ h)
set_option maxHeartbeats 4000000 in
set_option maxRecDepth 100000 in
theorem wk_X2_noSheet_4 {p : Program} {l : Launch} {e : Env} {s : State} {m : MethodId} {args : Array Value} {below : List Frame} {meth : Method} {c : Code} {D : va_G} {cc : Nat → ClassId} {ad : Nat → Nat} {A : Nat → Prop} {Post : Int32 → MS → Prop} {g : CS} (C0 : Cx p s m args meth c cX2_noSheet 3 (some .boolean) RX2 wsX2_noSheet D cc A) (hd : DA 13 ad A) {K4 : (MS × Int32 × Int32) → Prop} (hK4 : ∀ a, K4 a → At_ p l e { frames := 4, cells := 0, slots := 0, locals := 100 } s m args below meth c (Qi_ below D (MW cc ad) A args s Post) D A (MW cc ad (a.1)) 3 4 [(0, .ref (ad 0)), (1, .int (a.2.1)), (2, .int (a.2.2))] []) (σ : MS) (x1 : Int32) (x2 : Int32) (h : wp_X2_noSheet_4 g K4 Post σ x1 x2) : At_ p l e { frames := 4, cells := 0, slots := 0, locals := 100 } s m args below meth c (Qi_ below D (MW cc ad) A args s Post) D A (MW cc ad σ) 3 4 [(0, .ref (ad 0)), (1, .int x1), (2, .int x2)] [] := by
  obtain ⟨hx, hb, hml, hr, hown, hts, hlocks, hK, hA, hX⟩ := id C0
  have hin := hin_X2_noSheet
  intro H locs ls hP hS hl
  unfold wp_X2_noSheet_4 at h
  refine lv_iload_n hx hb dX2_noSheet_4 rfl (lv_at hl 2 rfl) ?_
  refine lv_aload_n hx hb dX2_noSheet_5 rfl (lv_at hl 0 rfl) ?_
  refine va_get (D := D) (ci := 2) (v := .int (ms_pc σ)) (C := RX2) (T := TX2) (N := 21) hx hb hts hin hown hK hP 0 rfl rfl 11 (by decide) (hts (.fieldLink RX2 69 "ClassSheetsModel" "places" "I") (List.mem_of_getElem? (i := 1) rfl)) (fun _ h9 => h9) rfl dX2_noSheet_6 ?_
  refine lv_icmp_ge (tgt := 41) hx hb dX2_noSheet_9 (by decide) (fun c1 => ?_) (fun c1 => ?_)
  · have h := h.1 c1
    refine lv_iload_n hx hb dX2_noSheet_41 rfl (lv_at hl 1 rfl) ?_
    exact ret_z (Wd := MW cc ad) (u := σ) C0 h.1 h.2 hP hS dX2_noSheet_42
  · have h := h.2 c1
    refine lv_iload_n hx hb dX2_noSheet_12 rfl (lv_at hl 1 rfl) ?_
    refine lv_if_ne (tgt := 29) hx hb dX2_noSheet_13 (by decide) (fun c2 => ?_) (fun c2 => ?_)
    · have h := h.1 c2
      refine lv_iconst (v := 1) hx hb dX2_noSheet_29 (by decide) ?_
      refine lv_goto (tgt := 34) hx hb dX2_noSheet_30 (by decide) ?_
      refine lv_istore_n (lv' := [(1, .int 1), (0, .ref (ad 0)), (2, .int x2)]) hx hb dX2_noSheet_34 rfl hl (by decide) rfl (fun ls hl => ?_)
      obtain ⟨x2_3, ex2_3⟩ : ∃ y : Int32, y = x2 + 1 := ⟨_, rfl⟩
      have h := h x2_3 ex2_3
      refine lv_iinc (v := x2_3) (lv' := [(2, .int x2_3), (1, .int 1), (0, .ref (ad 0))]) hx hb dX2_noSheet_35 hl (k := 2) rfl (by rw [ex2_3]; rfl) (by decide) rfl (fun ls hl => ?_)
      refine lv_goto (tgt := 4) hx hb dX2_noSheet_38 (by decide) ?_
      exact hK4 (σ, 1, x2_3) h H locs ls hP hS (lv_sub hl [2, 1, 0] rfl)
    · have h := h.2 c2
      refine lv_aload_n hx hb dX2_noSheet_16 rfl (lv_at hl 0 rfl) ?_
      refine lv_aload_n hx hb dX2_noSheet_17 rfl (lv_at hl 0 rfl) ?_
      refine va_get (D := D) (ci := 2) (v := .ref (ad 10)) (C := RX2) (T := TX2) (N := 21) hx hb hts hin hown hK hP 0 rfl rfl 12 (by decide) (hts (.fieldLink RX2 40 "ClassSheetsModel" "plan" "[I") (List.mem_of_getElem? (i := 2) rfl)) (fun _ h9 => h9) rfl dX2_noSheet_18 ?_
      refine lv_iload_n hx hb dX2_noSheet_21 rfl (lv_at hl 2 rfl) ?_
      obtain ⟨gi4, h⟩ := h
      refine va_iald (D := D) (f := ms_pn σ) hx hb hK hP 10 0 rfl rfl gi4 dX2_noSheet_22 ?_
      obtain ⟨gp5, h⟩ := h
      refine call_v (Wd := MW cc ad) (σ := σ) C0 hd lens_id (As := [.int (ms_pn σ x2.toNatClampNeg)]) (rest := []) (ct_X2_tell l D cc ad ⟨hd.1, fun _ _ => trivial⟩ g σ (ms_pn σ x2.toNatClampNeg) gp5) (cwV 1 hts gX2_noSheet_X2_tell rfl rfl rfl (by decide +kernel) ⟨Nat.le_of_ble_eq_true rfl, Nat.le_of_ble_eq_true rfl⟩) (va_recv hK hP (ci := 2) (q0 := 0) rfl rfl) hP hS rfl hl.1 rfl (by simp [Value.category]) dX2_noSheet_23 (fun r6 u7 hp H locs hP hS => ?_)
      have h := h r6 u7 hp
      have hP : va_P D vwCl (MW cc ad u7) H := hP
      refine lv_if_ne (tgt := 33) hx hb dX2_noSheet_26 (by decide) (fun c8 => ?_) (fun c8 => ?_)
      · have h := h.1 c8
        refine lv_iconst (v := 0) hx hb dX2_noSheet_33 (by decide) ?_
        refine lv_istore_n (lv' := [(1, .int 0), (0, .ref (ad 0)), (2, .int x2)]) hx hb dX2_noSheet_34 rfl hl (by decide) rfl (fun ls hl => ?_)
        obtain ⟨x2_9, ex2_9⟩ : ∃ y : Int32, y = x2 + 1 := ⟨_, rfl⟩
        have h := h x2_9 ex2_9
        refine lv_iinc (v := x2_9) (lv' := [(2, .int x2_9), (1, .int 0), (0, .ref (ad 0))]) hx hb dX2_noSheet_35 hl (k := 2) rfl (by rw [ex2_9]; rfl) (by decide) rfl (fun ls hl => ?_)
        refine lv_goto (tgt := 4) hx hb dX2_noSheet_38 (by decide) ?_
        exact hK4 (u7, 0, x2_9) h H locs ls hP hS (lv_sub hl [2, 1, 0] rfl)
      · have h := h.2 c8
        refine lv_iconst (v := 1) hx hb dX2_noSheet_29 (by decide) ?_
        refine lv_goto (tgt := 34) hx hb dX2_noSheet_30 (by decide) ?_
        refine lv_istore_n (lv' := [(1, .int 1), (0, .ref (ad 0)), (2, .int x2)]) hx hb dX2_noSheet_34 rfl hl (by decide) rfl (fun ls hl => ?_)
        obtain ⟨x2_10, ex2_10⟩ : ∃ y : Int32, y = x2 + 1 := ⟨_, rfl⟩
        have h := h x2_10 ex2_10
        refine lv_iinc (v := x2_10) (lv' := [(2, .int x2_10), (1, .int 1), (0, .ref (ad 0))]) hx hb dX2_noSheet_35 hl (k := 2) rfl (by rw [ex2_10]; rfl) (by decide) rfl (fun ls hl => ?_)
        refine lv_goto (tgt := 4) hx hb dX2_noSheet_38 (by decide) ?_
        exact hK4 (u7, 1, x2_10) h H locs ls hP hS (lv_sub hl [2, 1, 0] rfl)
set_option maxHeartbeats 4000000 in
set_option maxRecDepth 100000 in
theorem wk_X2_noSheet_0 {p : Program} {l : Launch} {e : Env} {s : State} {m : MethodId} {args : Array Value} {below : List Frame} {meth : Method} {c : Code} {D : va_G} {cc : Nat → ClassId} {ad : Nat → Nat} {A : Nat → Prop} {Post : Int32 → MS → Prop} {g : CS} (C0 : Cx p s m args meth c cX2_noSheet 3 (some .boolean) RX2 wsX2_noSheet D cc A) (hd : DA 13 ad A) (σ : MS) (h : wp_X2_noSheet g Post σ) : At_ p l e { frames := 4, cells := 0, slots := 0, locals := 100 } s m args below meth c (Qi_ below D (MW cc ad) A args s Post) D A (MW cc ad σ) 3 0 [(0, .ref (ad 0))] [] := by
  obtain ⟨hx, hb, hml, hr, hown, hts, hlocks, hK, hA, hX⟩ := id C0
  have hin := hin_X2_noSheet
  intro H locs ls hP hS hl
  unfold wp_X2_noSheet at h
  refine lv_iconst (v := 0) hx hb dX2_noSheet_0 (by decide) ?_
  refine lv_istore_n (lv' := [(1, .int 0), (0, .ref (ad 0))]) hx hb dX2_noSheet_1 rfl hl (by decide) rfl (fun ls hl => ?_)
  refine lv_iconst (v := 0) hx hb dX2_noSheet_2 (by decide) ?_
  refine lv_istore_n (lv' := [(2, .int 0), (1, .int 0), (0, .ref (ad 0))]) hx hb dX2_noSheet_3 rfl hl (by decide) rfl (fun ls hl => ?_)
  exact lp_at (Wt := fun a => At_ p l e { frames := 4, cells := 0, slots := 0, locals := 100 } s m args below meth c (Qi_ below D (MW cc ad) A args s Post) D A (MW cc ad (a.1)) 3 4 [(0, .ref (ad 0)), (1, .int (a.2.1)), (2, .int (a.2.2))] []) (fun K hK a h => wk_X2_noSheet_4 C0 hd hK a.1 a.2.1 a.2.2 h) h H locs ls hP hS (lv_sub hl [2, 1, 0] rfl)
theorem ct_X2_noSheet (l : Launch) (D : va_G) (cc : Nat → ClassId) (ad : Nat → Nat) (hd : DA 13 ad (fun _ => True)) (g : CS) (σ : MS) (hp : pr_X2_noSheet g σ) : Ctr l yX2_noSheet wsX2_noSheet { frames := 4, cells := 0, slots := 0, locals := 100 } D cc (MW cc ad) 13 ad σ [.ref (ad 0)] (po_X2_noSheet g σ) :=
  ctr_i (rt := (some .boolean)) (by decide +kernel) rfl hd (Nat.le_of_ble_eq_true rfl) (fun p e s m below meth c A C0 hd => wk_X2_noSheet_0 C0 hd σ (pu_X2_noSheet g σ hp))
theorem hin_X2_ahead : ∀ w ∈ u_ws RX2 TX2 21, w ∈ wsX2_ahead := fun w h => List.mem_cons_of_mem _ (List.mem_append_right _ h)
set_option maxHeartbeats 4000000 in
set_option maxRecDepth 100000 in
theorem wk_X2_ahead_5 {p : Program} {l : Launch} {e : Env} {s : State} {m : MethodId} {args : Array Value} {below : List Frame} {meth : Method} {c : Code} {D : va_G} {cc : Nat → ClassId} {ad : Nat → Nat} {A : Nat → Prop} {Post : Int32 → MS → Prop} {g : CS} (C0 : Cx p s m args meth c cX2_ahead 5 (some .int) RX2 wsX2_ahead D cc A) (hd : DA 13 ad A) {K5 : (MS × Int32 × Int32 × Int32 × Int32) → Prop} (hK5 : ∀ a, K5 a → At_ p l e { frames := 0, cells := 0, slots := 0, locals := 0 } s m args below meth c (Qi_ below D (MW cc ad) A args s Post) D A (MW cc ad (a.1)) 5 5 [(0, .ref (ad 0)), (1, .int (a.2.1)), (2, .int (a.2.2.1)), (3, .int (a.2.2.2.1)), (4, .int (a.2.2.2.2))] []) (σ : MS) (x1 : Int32) (x2 : Int32) (x3 : Int32) (x4 : Int32) (h : wp_X2_ahead_5 g K5 Post σ x1 x2 x3 x4) : At_ p l e { frames := 0, cells := 0, slots := 0, locals := 0 } s m args below meth c (Qi_ below D (MW cc ad) A args s Post) D A (MW cc ad σ) 5 5 [(0, .ref (ad 0)), (1, .int x1), (2, .int x2), (3, .int x3), (4, .int x4)] [] := by
  obtain ⟨hx, hb, hml, hr, hown, hts, hlocks, hK, hA, hX⟩ := id C0
  have hin := hin_X2_ahead
  intro H locs ls hP hS hl
  unfold wp_X2_ahead_5 at h
  refine lv_iload hx hb dX2_ahead_5 (lv_at hl 4 rfl) ?_
  refine lv_iload_n hx hb dX2_ahead_7 rfl (lv_at hl 2 rfl) ?_
  refine lv_icmp_ge (tgt := 36) hx hb dX2_ahead_8 (by decide) (fun c1 => ?_) (fun c1 => ?_)
  · have h := h.1 c1
    refine lv_iload_n hx hb dX2_ahead_36 rfl (lv_at hl 3 rfl) ?_
    exact ret_i (Wd := MW cc ad) (u := σ) C0 h hP hS dX2_ahead_37
  · have h := h.2 c1
    refine lv_iload_n hx hb dX2_ahead_11 rfl (lv_at hl 3 rfl) ?_
    refine lv_aload_n hx hb dX2_ahead_12 rfl (lv_at hl 0 rfl) ?_
    refine va_get (D := D) (ci := 2) (v := .ref (ad 10)) (C := RX2) (T := TX2) (N := 21) hx hb hts hin hown hK hP 0 rfl rfl 12 (by decide) (hts (.fieldLink RX2 40 "ClassSheetsModel" "plan" "[I") (List.mem_of_getElem? (i := 1) rfl)) (fun _ h9 => h9) rfl dX2_ahead_13 ?_
    refine lv_iload hx hb dX2_ahead_16 (lv_at hl 4 rfl) ?_
    obtain ⟨gi2, h⟩ := h
    refine va_iald (D := D) (f := ms_pn σ) hx hb hK hP 10 0 rfl rfl gi2 dX2_ahead_18 ?_
    refine lv_iload_n hx hb dX2_ahead_19 rfl (lv_at hl 1 rfl) ?_
    refine lv_icmp_ne (tgt := 27) hx hb dX2_ahead_20 (by decide) (fun c3 => ?_) (fun c3 => ?_)
    · have h := h.1 c3
      refine lv_iconst (v := 0) hx hb dX2_ahead_27 (by decide) ?_
      refine lv_iadd hx hb dX2_ahead_28 ?_
      refine lv_topi (fun x3_4 ex3_4 => ?_)
      have h := h x3_4 ex3_4
      refine lv_istore_n (lv' := [(3, .int x3_4), (0, .ref (ad 0)), (1, .int x1), (2, .int x2), (4, .int x4)]) hx hb dX2_ahead_29 rfl hl (by decide) rfl (fun ls hl => ?_)
      obtain ⟨x4_5, ex4_5⟩ : ∃ y : Int32, y = x4 + 1 := ⟨_, rfl⟩
      have h := h x4_5 ex4_5
      refine lv_iinc (v := x4_5) (lv' := [(4, .int x4_5), (3, .int x3_4), (0, .ref (ad 0)), (1, .int x1), (2, .int x2)]) hx hb dX2_ahead_30 hl (k := 4) rfl (by rw [ex4_5]; rfl) (by decide) rfl (fun ls hl => ?_)
      refine lv_goto (tgt := 5) hx hb dX2_ahead_33 (by decide) ?_
      exact hK5 (σ, x1, x2, x3_4, x4_5) h H locs ls hP hS (lv_sub hl [2, 3, 4, 1, 0] rfl)
    · have h := h.2 c3
      refine lv_iconst (v := 1) hx hb dX2_ahead_23 (by decide) ?_
      refine lv_goto (tgt := 28) hx hb dX2_ahead_24 (by decide) ?_
      refine lv_iadd hx hb dX2_ahead_28 ?_
      refine lv_topi (fun x3_6 ex3_6 => ?_)
      have h := h x3_6 ex3_6
      refine lv_istore_n (lv' := [(3, .int x3_6), (0, .ref (ad 0)), (1, .int x1), (2, .int x2), (4, .int x4)]) hx hb dX2_ahead_29 rfl hl (by decide) rfl (fun ls hl => ?_)
      obtain ⟨x4_7, ex4_7⟩ : ∃ y : Int32, y = x4 + 1 := ⟨_, rfl⟩
      have h := h x4_7 ex4_7
      refine lv_iinc (v := x4_7) (lv' := [(4, .int x4_7), (3, .int x3_6), (0, .ref (ad 0)), (1, .int x1), (2, .int x2)]) hx hb dX2_ahead_30 hl (k := 4) rfl (by rw [ex4_7]; rfl) (by decide) rfl (fun ls hl => ?_)
      refine lv_goto (tgt := 5) hx hb dX2_ahead_33 (by decide) ?_
      exact hK5 (σ, x1, x2, x3_6, x4_7) h H locs ls hP hS (lv_sub hl [2, 3, 4, 1, 0] rfl)
set_option maxHeartbeats 4000000 in
set_option maxRecDepth 100000 in
theorem wk_X2_ahead_0 {p : Program} {l : Launch} {e : Env} {s : State} {m : MethodId} {args : Array Value} {below : List Frame} {meth : Method} {c : Code} {D : va_G} {cc : Nat → ClassId} {ad : Nat → Nat} {A : Nat → Prop} {Post : Int32 → MS → Prop} {g : CS} (C0 : Cx p s m args meth c cX2_ahead 5 (some .int) RX2 wsX2_ahead D cc A) (hd : DA 13 ad A) (σ : MS) (x1 : Int32) (x2 : Int32) (h : wp_X2_ahead g Post σ x1 x2) : At_ p l e { frames := 0, cells := 0, slots := 0, locals := 0 } s m args below meth c (Qi_ below D (MW cc ad) A args s Post) D A (MW cc ad σ) 5 0 [(0, .ref (ad 0)), (1, .int x1), (2, .int x2)] [] := by
  obtain ⟨hx, hb, hml, hr, hown, hts, hlocks, hK, hA, hX⟩ := id C0
  have hin := hin_X2_ahead
  intro H locs ls hP hS hl
  unfold wp_X2_ahead at h
  refine lv_iconst (v := 0) hx hb dX2_ahead_0 (by decide) ?_
  refine lv_istore_n (lv' := [(3, .int 0), (0, .ref (ad 0)), (1, .int x1), (2, .int x2)]) hx hb dX2_ahead_1 rfl hl (by decide) rfl (fun ls hl => ?_)
  refine lv_iconst (v := 0) hx hb dX2_ahead_2 (by decide) ?_
  refine lv_istore (lv' := [(4, .int 0), (3, .int 0), (0, .ref (ad 0)), (1, .int x1), (2, .int x2)]) hx hb dX2_ahead_3 hl (by decide) rfl (fun ls hl => ?_)
  exact lp_at (Wt := fun a => At_ p l e { frames := 0, cells := 0, slots := 0, locals := 0 } s m args below meth c (Qi_ below D (MW cc ad) A args s Post) D A (MW cc ad (a.1)) 5 5 [(0, .ref (ad 0)), (1, .int (a.2.1)), (2, .int (a.2.2.1)), (3, .int (a.2.2.2.1)), (4, .int (a.2.2.2.2))] []) (fun K hK a h => wk_X2_ahead_5 C0 hd hK a.1 a.2.1 a.2.2.1 a.2.2.2.1 a.2.2.2.2 h) h H locs ls hP hS (lv_sub hl [2, 3, 4, 1, 0] rfl)
theorem ct_X2_ahead (l : Launch) (D : va_G) (cc : Nat → ClassId) (ad : Nat → Nat) (hd : DA 13 ad (fun _ => True)) (g : CS) (σ : MS) (x1 : Int32) (x2 : Int32) (hp : pr_X2_ahead g σ x1 x2) : Ctr l yX2_ahead wsX2_ahead { frames := 0, cells := 0, slots := 0, locals := 0 } D cc (MW cc ad) 13 ad σ [.ref (ad 0), .int x1, .int x2] (fun r u => r = fn_X2_ahead g σ x1 x2 ∧ u = σ) :=
  ctr_i (rt := (some .int)) (by decide +kernel) rfl hd (Nat.le_of_ble_eq_true rfl) (fun p e s m below meth c A C0 hd => wk_X2_ahead_0 C0 hd σ x1 x2 (pu_X2_ahead g σ x1 x2 hp))
theorem hin_X2_variantAt : ∀ w ∈ u_ws RX2 TX2 21, w ∈ wsX2_variantAt := fun w h => List.mem_cons_of_mem _ (List.mem_append_right _ h)
set_option maxHeartbeats 4000000 in
set_option maxRecDepth 100000 in
theorem wk_X2_variantAt_0 {p : Program} {l : Launch} {e : Env} {s : State} {m : MethodId} {args : Array Value} {below : List Frame} {meth : Method} {c : Code} {D : va_G} {cc : Nat → ClassId} {ad : Nat → Nat} {A : Nat → Prop} {Post : Int32 → MS → Prop} {g : CS} (C0 : Cx p s m args meth c cX2_variantAt 4 (some .int) RX2 wsX2_variantAt D cc A) (hd : DA 13 ad A) (σ : MS) (x1 : Int32) (x2 : Int32) (h : wp_X2_variantAt g Post σ x1 x2) : At_ p l e { frames := 4, cells := 0, slots := 0, locals := 100 } s m args below meth c (Qi_ below D (MW cc ad) A args s Post) D A (MW cc ad σ) 4 0 [(0, .ref (ad 0)), (1, .int x1), (2, .int x2)] [] := by
  obtain ⟨hx, hb, hml, hr, hown, hts, hlocks, hK, hA, hX⟩ := id C0
  have hin := hin_X2_variantAt
  intro H locs ls hP hS hl
  unfold wp_X2_variantAt at h
  refine lv_aload_n hx hb dX2_variantAt_0 rfl (lv_at hl 0 rfl) ?_
  refine va_get (D := D) (ci := 2) (v := .ref (ad 10)) (C := RX2) (T := TX2) (N := 21) hx hb hts hin hown hK hP 0 rfl rfl 12 (by decide) (hts (.fieldLink RX2 40 "ClassSheetsModel" "plan" "[I") (List.mem_of_getElem? (i := 1) rfl)) (fun _ h9 => h9) rfl dX2_variantAt_1 ?_
  refine lv_iload_n hx hb dX2_variantAt_4 rfl (lv_at hl 2 rfl) ?_
  obtain ⟨gi1, h⟩ := h
  refine va_iald (D := D) (f := ms_pn σ) hx hb hK hP 10 0 rfl rfl gi1 dX2_variantAt_5 ?_
  refine lv_topi (fun x3_2 ex3_2 => ?_)
  have h := h x3_2 ex3_2
  refine lv_istore_n (lv' := [(3, .int x3_2), (0, .ref (ad 0)), (1, .int x1), (2, .int x2)]) hx hb dX2_variantAt_6 rfl hl (by decide) rfl (fun ls hl => ?_)
  refine lv_iload_n hx hb dX2_variantAt_7 rfl (lv_at hl 2 rfl) ?_
  refine lv_aload_n hx hb dX2_variantAt_8 rfl (lv_at hl 1 rfl) ?_
  refine lv_iload_n hx hb dX2_variantAt_9 rfl (lv_at hl 0 rfl) ?_
  refine lv_aload_n hx hb dX2_variantAt_10 rfl (lv_at hl 1 rfl) ?_
  refine va_get (D := D) (ci := 2) (v := .int (ms_pc σ)) (C := RX2) (T := TX2) (N := 21) hx hb hts hin hown hK hP 0 rfl rfl 11 (by decide) (hts (.fieldLink RX2 69 "ClassSheetsModel" "places" "I") (List.mem_of_getElem? (i := 2) rfl)) (fun _ h9 => h9) rfl dX2_variantAt_11 ?_
  obtain ⟨gp3, h⟩ := h
  refine call_v (Wd := MW cc ad) (σ := σ) C0 hd lens_id (As := [.int x3_2, .int (ms_pc σ)]) (rest := [.int x1]) (ct_X2_ahead l D cc ad ⟨hd.1, fun _ _ => trivial⟩ g σ x3_2 (ms_pc σ) gp3) (cwV 2 hts gX2_variantAt_X2_ahead rfl rfl rfl (by decide +kernel) ⟨Nat.le_of_ble_eq_true rfl, Nat.le_of_ble_eq_true rfl⟩) (va_recv hK hP (ci := 2) (q0 := 0) rfl rfl) hP hS rfl hl.1 rfl (by simp [Value.category]) dX2_variantAt_14 (fun r4 u hp H locs hP hS => ?_)
  obtain ⟨hp1, hp2⟩ := hp
  subst hp1
  have hp2 := hp2.symm
  subst hp2
  have hP : va_P D vwCl (MW cc ad σ) H := hP
  refine lv_imul hx hb dX2_variantAt_17 ?_
  refine lv_aload_n hx hb dX2_variantAt_18 rfl (lv_at hl 1 rfl) ?_
  refine lv_iload_n hx hb dX2_variantAt_19 rfl (lv_at hl 0 rfl) ?_
  refine lv_iload_n hx hb dX2_variantAt_20 rfl (lv_at hl 3 rfl) ?_
  obtain ⟨gp5, h⟩ := h
  refine call_v (Wd := MW cc ad) (σ := σ) C0 hd lens_id (As := [.int x3_2, .int x2]) (rest := [.int (x1 * (fn_X2_ahead g σ x3_2 (ms_pc σ)))]) (ct_X2_ahead l D cc ad ⟨hd.1, fun _ _ => trivial⟩ g σ x3_2 x2 gp5) (cwV 2 hts gX2_variantAt_X2_ahead rfl rfl rfl (by decide +kernel) ⟨Nat.le_of_ble_eq_true rfl, Nat.le_of_ble_eq_true rfl⟩) (va_recv hK hP (ci := 2) (q0 := 0) rfl rfl) hP hS rfl hl.1 rfl (by simp [Value.category]) dX2_variantAt_21 (fun r6 u hp H locs hP hS => ?_)
  obtain ⟨hp1, hp2⟩ := hp
  subst hp1
  have hp2 := hp2.symm
  subst hp2
  have hP : va_P D vwCl (MW cc ad σ) H := hP
  refine lv_iadd hx hb dX2_variantAt_24 ?_
  refine lv_aload_n hx hb dX2_variantAt_25 rfl (lv_at hl 1 rfl) ?_
  refine va_get (D := D) (ci := 2) (v := .ref (ad 6)) (C := RX2) (T := TX2) (N := 21) hx hb hts hin hown hK hP 0 rfl rfl 7 (by decide) (hts (.fieldLink RX2 25 "ClassSheetsModel" "begin" "[I") (List.mem_of_getElem? (i := 3) rfl)) (fun _ h9 => h9) rfl dX2_variantAt_26 ?_
  refine lv_iload_n hx hb dX2_variantAt_29 rfl (lv_at hl 0 rfl) ?_
  obtain ⟨gi7, h⟩ := h
  refine va_iald (D := D) (f := ms_be σ) hx hb hK hP 6 0 rfl rfl gi7 dX2_variantAt_30 ?_
  refine lv_iadd hx hb dX2_variantAt_31 ?_
  refine lv_aload_n hx hb dX2_variantAt_32 rfl (lv_at hl 1 rfl) ?_
  refine lv_iload_n hx hb dX2_variantAt_33 rfl (lv_at hl 0 rfl) ?_
  obtain ⟨gp8, h⟩ := h
  refine call_v (Wd := MW cc ad) (σ := σ) C0 hd lens_id (As := [.int x3_2]) (rest := [.int (((x1 * (fn_X2_ahead g σ x3_2 (ms_pc σ))) + (fn_X2_ahead g σ x3_2 x2)) + (ms_be σ x3_2.toNatClampNeg))]) (ct_X2_tell l D cc ad ⟨hd.1, fun _ _ => trivial⟩ g σ x3_2 gp8) (cwV 1 hts gX2_variantAt_X2_tell rfl rfl rfl (by decide +kernel) ⟨Nat.le_of_ble_eq_true rfl, Nat.le_of_ble_eq_true rfl⟩) (va_recv hK hP (ci := 2) (q0 := 0) rfl rfl) hP hS rfl hl.1 rfl (by simp [Value.category]) dX2_variantAt_34 (fun r9 u10 hp H locs hP hS => ?_)
  have h := h r9 u10 hp
  have hP : va_P D vwCl (MW cc ad u10) H := hP
  obtain ⟨gd11, h⟩ := h
  refine lv_irem hx hb dX2_variantAt_37 gd11 ?_
  exact ret_i (Wd := MW cc ad) (u := u10) C0 h hP hS dX2_variantAt_38
theorem ct_X2_variantAt (l : Launch) (D : va_G) (cc : Nat → ClassId) (ad : Nat → Nat) (hd : DA 13 ad (fun _ => True)) (g : CS) (σ : MS) (x1 : Int32) (x2 : Int32) (hp : pr_X2_variantAt g σ x1 x2) : Ctr l yX2_variantAt wsX2_variantAt { frames := 4, cells := 0, slots := 0, locals := 100 } D cc (MW cc ad) 13 ad σ [.ref (ad 0), .int x1, .int x2] (po_X2_variantAt g σ x1 x2) :=
  ctr_i (rt := (some .int)) (by decide +kernel) rfl hd (Nat.le_of_ble_eq_true rfl) (fun p e s m below meth c A C0 hd => wk_X2_variantAt_0 C0 hd σ x1 x2 (pu_X2_variantAt g σ x1 x2 hp))
theorem hin_X2_sheet : ∀ w ∈ u_ws RX2 TX2 21, w ∈ wsX2_sheet := fun w h => List.mem_cons_of_mem _ (List.mem_append_right _ h)
set_option maxHeartbeats 4000000 in
set_option maxRecDepth 100000 in
theorem wk_X2_sheet_0 {p : Program} {l : Launch} {e : Env} {s : State} {m : MethodId} {args : Array Value} {below : List Frame} {meth : Method} {c : Code} {D : va_G} {cc : Nat → ClassId} {ad : Nat → Nat} {A : Nat → Prop} {Post : Int32 → MS → Prop} {g : CS} (C0 : Cx p s m args meth c cX2_sheet 3 (some .int) RX2 wsX2_sheet D cc A) (hd : DA 13 ad A) (σ : MS) (x1 : Int32) (x2 : Int32) (h : wp_X2_sheet g Post σ x1 x2) : At_ p l e { frames := 5, cells := 0, slots := 0, locals := 123 } s m args below meth c (Qi_ below D (MW cc ad) A args s Post) D A (MW cc ad σ) 3 0 [(0, .ref (ad 0)), (1, .int x1), (2, .int x2)] [] := by
  obtain ⟨hx, hb, hml, hr, hown, hts, hlocks, hK, hA, hX⟩ := id C0
  have hin := hin_X2_sheet
  intro H locs ls hP hS hl
  unfold wp_X2_sheet at h
  refine lv_aload_n hx hb dX2_sheet_0 rfl (lv_at hl 0 rfl) ?_
  refine lv_iconst (v := 0) hx hb dX2_sheet_1 (by decide) ?_
  refine va_put (D := D) (ci := 2) (v := .int 0) (ty := .int) (C := RX2) (T := TX2) (N := 21) hx hb hts hin tyX2 tyX2_ok nmX2 hown hK hP (mD hd) hS 0 rfl rfl 0 (by decide) (hts (.fieldLink RX2 59 "ClassSheetsModel" "thrown" "I") (List.mem_of_getElem? (i := 1) rfl)) (fun _ h9 => h9) rfl (by decide +kernel) rfl rfl (Nat.le_of_ble_eq_true rfl) dX2_sheet_2 (fun H locs hP _ hS => ?_)
  have hP : va_P D vwCl (MW cc ad (ms_s_th σ 0)) H := hP
  refine lv_aload_n hx hb dX2_sheet_5 rfl (lv_at hl 0 rfl) ?_
  refine lv_iload_n hx hb dX2_sheet_6 rfl (lv_at hl 2 rfl) ?_
  refine call_v (Wd := MW cc ad) (σ := (ms_s_th σ 0)) C0 hd lens_id (As := [.int x2]) (rest := []) (ct_X2_noPlace l D cc ad ⟨hd.1, fun _ _ => trivial⟩ g (ms_s_th σ 0) x2) (cwV 1 hts gX2_sheet_X2_noPlace rfl rfl rfl (by decide +kernel) ⟨Nat.le_of_ble_eq_true rfl, Nat.le_of_ble_eq_true rfl⟩) (va_recv hK hP (ci := 2) (q0 := 0) rfl rfl) hP hS rfl hl.1 rfl (by simp [Value.category]) dX2_sheet_7 (fun r1 u hp H locs hP hS => ?_)
  obtain ⟨hp1, hp2⟩ := hp
  subst hp1
  have hp2 := hp2.symm
  subst hp2
  have hP : va_P D vwCl (MW cc ad (ms_s_th σ 0)) H := hP
  refine lv_if_eq (tgt := 17) hx hb dX2_sheet_10 (by decide) (fun c2 => ?_) (fun c2 => ?_)
  · have h := h.1 c2
    refine lv_iload_n hx hb dX2_sheet_17 rfl (lv_at hl 1 rfl) ?_
    refine call_s (Wd := MW cc ad) (σ := (ms_s_th σ 0)) C0 hd (lens_un (adc := ad)) (As := [.int x1]) (rest := []) (ct_X2_noNumber l D cc ad da0 x1) (va_cwS 1 hts gX2_sheet_X2_noNumber rfl rfl rfl (by decide +kernel) ⟨Nat.le_of_ble_eq_true rfl, Nat.le_of_ble_eq_true rfl⟩) hP hS rfl hl.1 rfl (by simp [Value.category]) dX2_sheet_18 (fun r3 u hp H locs hP hS => ?_)
    obtain ⟨hp1, hp2⟩ := hp
    subst hp1
    have hP : va_P D vwCl (MW cc ad (ms_s_th σ 0)) H := hP
    refine lv_if_eq (tgt := 29) hx hb dX2_sheet_21 (by decide) (fun c4 => ?_) (fun c4 => ?_)
    · have h := h.1 c4
      refine lv_aload_n hx hb dX2_sheet_29 rfl (lv_at hl 0 rfl) ?_
      obtain ⟨gp5, h⟩ := h
      refine call_v (Wd := MW cc ad) (σ := (ms_s_th σ 0)) C0 hd lens_id (As := []) (rest := []) (ct_X2_noSheet l D cc ad ⟨hd.1, fun _ _ => trivial⟩ g (ms_s_th σ 0) gp5) (cwV 0 hts gX2_sheet_X2_noSheet rfl rfl rfl (by decide +kernel) ⟨Nat.le_of_ble_eq_true rfl, Nat.le_of_ble_eq_true rfl⟩) (va_recv hK hP (ci := 2) (q0 := 0) rfl rfl) hP hS rfl hl.1 rfl (by simp [Value.category]) dX2_sheet_30 (fun r6 u7 hp H locs hP hS => ?_)
      have h := h r6 u7 hp
      have hP : va_P D vwCl (MW cc ad u7) H := hP
      refine lv_if_eq (tgt := 41) hx hb dX2_sheet_33 (by decide) (fun c8 => ?_) (fun c8 => ?_)
      · have h := h.1 c8
        refine lv_aload_n hx hb dX2_sheet_41 rfl (lv_at hl 0 rfl) ?_
        refine lv_iload_n hx hb dX2_sheet_42 rfl (lv_at hl 1 rfl) ?_
        refine lv_iload_n hx hb dX2_sheet_43 rfl (lv_at hl 2 rfl) ?_
        obtain ⟨gp9, h⟩ := h
        refine call_v (Wd := MW cc ad) (σ := u7) C0 hd lens_id (As := [.int x1, .int x2]) (rest := []) (ct_X2_variantAt l D cc ad ⟨hd.1, fun _ _ => trivial⟩ g u7 x1 x2 gp9) (cwV 2 hts gX2_sheet_X2_variantAt rfl rfl rfl (by decide +kernel) ⟨Nat.le_of_ble_eq_true rfl, Nat.le_of_ble_eq_true rfl⟩) (va_recv hK hP (ci := 2) (q0 := 0) rfl rfl) hP hS rfl hl.1 rfl (by simp [Value.category]) dX2_sheet_44 (fun r10 u11 hp H locs hP hS => ?_)
        have h := h r10 u11 hp
        have hP : va_P D vwCl (MW cc ad u11) H := hP
        exact ret_i (Wd := MW cc ad) (u := u11) C0 h hP hS dX2_sheet_47
      · have h := h.2 c8
        refine lv_bipush (v := (-3)) hx hb dX2_sheet_36 (by decide) ?_
        refine lv_goto (tgt := 47) hx hb dX2_sheet_38 (by decide) ?_
        exact ret_i (Wd := MW cc ad) (u := u7) C0 h hP hS dX2_sheet_47
    · have h := h.2 c4
      refine lv_bipush (v := (-2)) hx hb dX2_sheet_24 (by decide) ?_
      refine lv_goto (tgt := 47) hx hb dX2_sheet_26 (by decide) ?_
      exact ret_i (Wd := MW cc ad) (u := (ms_s_th σ 0)) C0 h hP hS dX2_sheet_47
  · have h := h.2 c2
    refine lv_iconst (v := (-1)) hx hb dX2_sheet_13 (by decide) ?_
    refine lv_goto (tgt := 47) hx hb dX2_sheet_14 (by decide) ?_
    exact ret_i (Wd := MW cc ad) (u := (ms_s_th σ 0)) C0 h hP hS dX2_sheet_47
theorem ct_X2_sheet (l : Launch) (D : va_G) (cc : Nat → ClassId) (ad : Nat → Nat) (hd : DA 13 ad (fun _ => True)) (g : CS) (σ : MS) (x1 : Int32) (x2 : Int32) (hp : pr_X2_sheet g σ x1 x2) : Ctr l yX2_sheet wsX2_sheet { frames := 5, cells := 0, slots := 0, locals := 123 } D cc (MW cc ad) 13 ad σ [.ref (ad 0), .int x1, .int x2] (po_X2_sheet g σ x1 x2) :=
  ctr_i (rt := (some .int)) (by decide +kernel) rfl hd (Nat.le_of_ble_eq_true rfl) (fun p e s m below meth c A C0 hd => wk_X2_sheet_0 C0 hd σ x1 x2 (pu_X2_sheet g σ x1 x2 hp))
theorem hin_X2_answerAt : ∀ w ∈ u_ws RX2 TX2 21, w ∈ wsX2_answerAt := fun w h => List.mem_cons_of_mem _ (List.mem_append_right _ h)
set_option maxHeartbeats 4000000 in
set_option maxRecDepth 100000 in
theorem wk_X2_answerAt_0 {p : Program} {l : Launch} {e : Env} {s : State} {m : MethodId} {args : Array Value} {below : List Frame} {meth : Method} {c : Code} {D : va_G} {cc : Nat → ClassId} {ad : Nat → Nat} {A : Nat → Prop} {Post : Int32 → MS → Prop} {g : CS} (C0 : Cx p s m args meth c cX2_answerAt 3 (some .int) RX2 wsX2_answerAt D cc A) (hd : DA 13 ad A) (σ : MS) (x1 : Int32) (x2 : Int32) (h : wp_X2_answerAt g Post σ x1 x2) : At_ p l e { frames := 5, cells := 0, slots := 0, locals := 123 } s m args below meth c (Qi_ below D (MW cc ad) A args s Post) D A (MW cc ad σ) 3 0 [(0, .ref (ad 0)), (1, .int x1), (2, .int x2)] [] := by
  obtain ⟨hx, hb, hml, hr, hown, hts, hlocks, hK, hA, hX⟩ := id C0
  have hin := hin_X2_answerAt
  intro H locs ls hP hS hl
  unfold wp_X2_answerAt at h
  refine lv_aload_n hx hb dX2_answerAt_0 rfl (lv_at hl 0 rfl) ?_
  refine lv_aload_n hx hb dX2_answerAt_1 rfl (lv_at hl 0 rfl) ?_
  refine va_get (D := D) (ci := 2) (v := .ref (ad 10)) (C := RX2) (T := TX2) (N := 21) hx hb hts hin hown hK hP 0 rfl rfl 12 (by decide) (hts (.fieldLink RX2 40 "ClassSheetsModel" "plan" "[I") (List.mem_of_getElem? (i := 1) rfl)) (fun _ h9 => h9) rfl dX2_answerAt_2 ?_
  refine lv_iload_n hx hb dX2_answerAt_5 rfl (lv_at hl 2 rfl) ?_
  obtain ⟨gi1, h⟩ := h
  refine va_iald (D := D) (f := ms_pn σ) hx hb hK hP 10 0 rfl rfl gi1 dX2_answerAt_6 ?_
  refine lv_aload_n hx hb dX2_answerAt_7 rfl (lv_at hl 0 rfl) ?_
  refine lv_iload_n hx hb dX2_answerAt_8 rfl (lv_at hl 1 rfl) ?_
  refine lv_iload_n hx hb dX2_answerAt_9 rfl (lv_at hl 2 rfl) ?_
  obtain ⟨gp2, h⟩ := h
  refine call_v (Wd := MW cc ad) (σ := σ) C0 hd lens_id (As := [.int x1, .int x2]) (rest := [.int (ms_pn σ x2.toNatClampNeg), .ref (ad 0)]) (ct_X2_variantAt l D cc ad ⟨hd.1, fun _ _ => trivial⟩ g σ x1 x2 gp2) (cwV 2 hts gX2_answerAt_X2_variantAt rfl rfl rfl (by decide +kernel) ⟨Nat.le_of_ble_eq_true rfl, Nat.le_of_ble_eq_true rfl⟩) (va_recv hK hP (ci := 2) (q0 := 0) rfl rfl) hP hS rfl hl.1 rfl (by simp [Value.category]) dX2_answerAt_10 (fun r3 u4 hp H locs hP hS => ?_)
  have h := h r3 u4 hp
  have hP : va_P D vwCl (MW cc ad u4) H := hP
  obtain ⟨gp5, h⟩ := h
  refine call_v (Wd := MW cc ad) (σ := u4) C0 hd lens_id (As := [.int (ms_pn σ x2.toNatClampNeg), .int r3]) (rest := []) (ct_X2_rightAt l D cc ad ⟨hd.1, fun _ _ => trivial⟩ g u4 (ms_pn σ x2.toNatClampNeg) r3 gp5) (cwV 2 hts gX2_answerAt_X2_rightAt rfl rfl rfl (by decide +kernel) ⟨Nat.le_of_ble_eq_true rfl, Nat.le_of_ble_eq_true rfl⟩) (va_recv hK hP (ci := 2) (q0 := 0) rfl rfl) hP hS rfl hl.1 rfl (by simp [Value.category]) dX2_answerAt_13 (fun r6 u hp H locs hP hS => ?_)
  obtain ⟨hp1, hp2⟩ := hp
  subst hp1
  have hp2 := hp2.symm
  subst hp2
  have hP : va_P D vwCl (MW cc ad u4) H := hP
  exact ret_i (Wd := MW cc ad) (u := u4) C0 h hP hS dX2_answerAt_16
theorem ct_X2_answerAt (l : Launch) (D : va_G) (cc : Nat → ClassId) (ad : Nat → Nat) (hd : DA 13 ad (fun _ => True)) (g : CS) (σ : MS) (x1 : Int32) (x2 : Int32) (hp : pr_X2_answerAt g σ x1 x2) : Ctr l yX2_answerAt wsX2_answerAt { frames := 5, cells := 0, slots := 0, locals := 123 } D cc (MW cc ad) 13 ad σ [.ref (ad 0), .int x1, .int x2] (po_X2_answerAt g σ x1 x2) :=
  ctr_i (rt := (some .int)) (by decide +kernel) rfl hd (Nat.le_of_ble_eq_true rfl) (fun p e s m below meth c A C0 hd => wk_X2_answerAt_0 C0 hd σ x1 x2 (pu_X2_answerAt g σ x1 x2 hp))
theorem hin_X2_answer : ∀ w ∈ u_ws RX2 TX2 21, w ∈ wsX2_answer := fun w h => List.mem_cons_of_mem _ (List.mem_append_right _ h)
set_option maxHeartbeats 4000000 in
set_option maxRecDepth 100000 in
theorem wk_X2_answer_0 {p : Program} {l : Launch} {e : Env} {s : State} {m : MethodId} {args : Array Value} {below : List Frame} {meth : Method} {c : Code} {D : va_G} {cc : Nat → ClassId} {ad : Nat → Nat} {A : Nat → Prop} {Post : Int32 → MS → Prop} {g : CS} (C0 : Cx p s m args meth c cX2_answer 3 (some .int) RX2 wsX2_answer D cc A) (hd : DA 13 ad A) (σ : MS) (x1 : Int32) (x2 : Int32) (h : wp_X2_answer g Post σ x1 x2) : At_ p l e { frames := 6, cells := 0, slots := 0, locals := 145 } s m args below meth c (Qi_ below D (MW cc ad) A args s Post) D A (MW cc ad σ) 3 0 [(0, .ref (ad 0)), (1, .int x1), (2, .int x2)] [] := by
  obtain ⟨hx, hb, hml, hr, hown, hts, hlocks, hK, hA, hX⟩ := id C0
  have hin := hin_X2_answer
  intro H locs ls hP hS hl
  unfold wp_X2_answer at h
  refine lv_aload_n hx hb dX2_answer_0 rfl (lv_at hl 0 rfl) ?_
  refine lv_iconst (v := 0) hx hb dX2_answer_1 (by decide) ?_
  refine va_put (D := D) (ci := 2) (v := .int 0) (ty := .int) (C := RX2) (T := TX2) (N := 21) hx hb hts hin tyX2 tyX2_ok nmX2 hown hK hP (mD hd) hS 0 rfl rfl 0 (by decide) (hts (.fieldLink RX2 59 "ClassSheetsModel" "thrown" "I") (List.mem_of_getElem? (i := 1) rfl)) (fun _ h9 => h9) rfl (by decide +kernel) rfl rfl (Nat.le_of_ble_eq_true rfl) dX2_answer_2 (fun H locs hP _ hS => ?_)
  have hP : va_P D vwCl (MW cc ad (ms_s_th σ 0)) H := hP
  refine lv_aload_n hx hb dX2_answer_5 rfl (lv_at hl 0 rfl) ?_
  refine lv_iload_n hx hb dX2_answer_6 rfl (lv_at hl 2 rfl) ?_
  refine call_v (Wd := MW cc ad) (σ := (ms_s_th σ 0)) C0 hd lens_id (As := [.int x2]) (rest := []) (ct_X2_noPlace l D cc ad ⟨hd.1, fun _ _ => trivial⟩ g (ms_s_th σ 0) x2) (cwV 1 hts gX2_answer_X2_noPlace rfl rfl rfl (by decide +kernel) ⟨Nat.le_of_ble_eq_true rfl, Nat.le_of_ble_eq_true rfl⟩) (va_recv hK hP (ci := 2) (q0 := 0) rfl rfl) hP hS rfl hl.1 rfl (by simp [Value.category]) dX2_answer_7 (fun r1 u hp H locs hP hS => ?_)
  obtain ⟨hp1, hp2⟩ := hp
  subst hp1
  have hp2 := hp2.symm
  subst hp2
  have hP : va_P D vwCl (MW cc ad (ms_s_th σ 0)) H := hP
  refine lv_if_eq (tgt := 17) hx hb dX2_answer_10 (by decide) (fun c2 => ?_) (fun c2 => ?_)
  · have h := h.1 c2
    refine lv_iload_n hx hb dX2_answer_17 rfl (lv_at hl 1 rfl) ?_
    refine call_s (Wd := MW cc ad) (σ := (ms_s_th σ 0)) C0 hd (lens_un (adc := ad)) (As := [.int x1]) (rest := []) (ct_X2_noNumber l D cc ad da0 x1) (va_cwS 1 hts gX2_answer_X2_noNumber rfl rfl rfl (by decide +kernel) ⟨Nat.le_of_ble_eq_true rfl, Nat.le_of_ble_eq_true rfl⟩) hP hS rfl hl.1 rfl (by simp [Value.category]) dX2_answer_18 (fun r3 u hp H locs hP hS => ?_)
    obtain ⟨hp1, hp2⟩ := hp
    subst hp1
    have hP : va_P D vwCl (MW cc ad (ms_s_th σ 0)) H := hP
    refine lv_if_eq (tgt := 29) hx hb dX2_answer_21 (by decide) (fun c4 => ?_) (fun c4 => ?_)
    · have h := h.1 c4
      refine lv_aload_n hx hb dX2_answer_29 rfl (lv_at hl 0 rfl) ?_
      obtain ⟨gp5, h⟩ := h
      refine call_v (Wd := MW cc ad) (σ := (ms_s_th σ 0)) C0 hd lens_id (As := []) (rest := []) (ct_X2_noSheet l D cc ad ⟨hd.1, fun _ _ => trivial⟩ g (ms_s_th σ 0) gp5) (cwV 0 hts gX2_answer_X2_noSheet rfl rfl rfl (by decide +kernel) ⟨Nat.le_of_ble_eq_true rfl, Nat.le_of_ble_eq_true rfl⟩) (va_recv hK hP (ci := 2) (q0 := 0) rfl rfl) hP hS rfl hl.1 rfl (by simp [Value.category]) dX2_answer_30 (fun r6 u7 hp H locs hP hS => ?_)
      have h := h r6 u7 hp
      have hP : va_P D vwCl (MW cc ad u7) H := hP
      refine lv_if_eq (tgt := 41) hx hb dX2_answer_33 (by decide) (fun c8 => ?_) (fun c8 => ?_)
      · have h := h.1 c8
        refine lv_aload_n hx hb dX2_answer_41 rfl (lv_at hl 0 rfl) ?_
        refine lv_iload_n hx hb dX2_answer_42 rfl (lv_at hl 1 rfl) ?_
        refine lv_iload_n hx hb dX2_answer_43 rfl (lv_at hl 2 rfl) ?_
        obtain ⟨gp9, h⟩ := h
        refine call_v (Wd := MW cc ad) (σ := u7) C0 hd lens_id (As := [.int x1, .int x2]) (rest := []) (ct_X2_answerAt l D cc ad ⟨hd.1, fun _ _ => trivial⟩ g u7 x1 x2 gp9) (cwV 2 hts gX2_answer_X2_answerAt rfl rfl rfl (by decide +kernel) ⟨Nat.le_of_ble_eq_true rfl, Nat.le_of_ble_eq_true rfl⟩) (va_recv hK hP (ci := 2) (q0 := 0) rfl rfl) hP hS rfl hl.1 rfl (by simp [Value.category]) dX2_answer_44 (fun r10 u11 hp H locs hP hS => ?_)
        have h := h r10 u11 hp
        have hP : va_P D vwCl (MW cc ad u11) H := hP
        exact ret_i (Wd := MW cc ad) (u := u11) C0 h hP hS dX2_answer_47
      · have h := h.2 c8
        refine lv_bipush (v := (-3)) hx hb dX2_answer_36 (by decide) ?_
        refine lv_goto (tgt := 47) hx hb dX2_answer_38 (by decide) ?_
        exact ret_i (Wd := MW cc ad) (u := u7) C0 h hP hS dX2_answer_47
    · have h := h.2 c4
      refine lv_bipush (v := (-2)) hx hb dX2_answer_24 (by decide) ?_
      refine lv_goto (tgt := 47) hx hb dX2_answer_26 (by decide) ?_
      exact ret_i (Wd := MW cc ad) (u := (ms_s_th σ 0)) C0 h hP hS dX2_answer_47
  · have h := h.2 c2
    refine lv_iconst (v := (-1)) hx hb dX2_answer_13 (by decide) ?_
    refine lv_goto (tgt := 47) hx hb dX2_answer_14 (by decide) ?_
    exact ret_i (Wd := MW cc ad) (u := (ms_s_th σ 0)) C0 h hP hS dX2_answer_47
theorem ct_X2_answer (l : Launch) (D : va_G) (cc : Nat → ClassId) (ad : Nat → Nat) (hd : DA 13 ad (fun _ => True)) (g : CS) (σ : MS) (x1 : Int32) (x2 : Int32) (hp : pr_X2_answer g σ x1 x2) : Ctr l yX2_answer wsX2_answer { frames := 6, cells := 0, slots := 0, locals := 145 } D cc (MW cc ad) 13 ad σ [.ref (ad 0), .int x1, .int x2] (po_X2_answer g σ x1 x2) :=
  ctr_i (rt := (some .int)) (by decide +kernel) rfl hd (Nat.le_of_ble_eq_true rfl) (fun p e s m below meth c A C0 hd => wk_X2_answer_0 C0 hd σ x1 x2 (pu_X2_answer g σ x1 x2 hp))
theorem hin_X2_code : ∀ w ∈ u_ws RX2 TX2 21, w ∈ wsX2_code := fun w h => List.mem_cons_of_mem _ (List.mem_append_right _ h)
set_option maxHeartbeats 4000000 in
set_option maxRecDepth 100000 in
theorem wk_X2_code_29 {p : Program} {l : Launch} {e : Env} {s : State} {m : MethodId} {args : Array Value} {below : List Frame} {meth : Method} {c : Code} {D : va_G} {cc : Nat → ClassId} {ad : Nat → Nat} {A : Nat → Prop} {Post : Int32 → MS → Prop} {g : CS} (C0 : Cx p s m args meth c cX2_code 4 (some .int) RX2 wsX2_code D cc A) (hd : DA 13 ad A) {K29 : (MS × Int32 × Int32 × Int32) → Prop} (hK29 : ∀ a, K29 a → At_ p l e { frames := 6, cells := 0, slots := 0, locals := 145 } s m args below meth c (Qi_ below D (MW cc ad) A args s Post) D A (MW cc ad (a.1)) 4 29 [(0, .ref (ad 0)), (1, .int (a.2.1)), (2, .int (a.2.2.1)), (3, .int (a.2.2.2))] []) (σ : MS) (x1 : Int32) (x2 : Int32) (x3 : Int32) (h : wp_X2_code_29 g K29 Post σ x1 x2 x3) : At_ p l e { frames := 6, cells := 0, slots := 0, locals := 145 } s m args below meth c (Qi_ below D (MW cc ad) A args s Post) D A (MW cc ad σ) 4 29 [(0, .ref (ad 0)), (1, .int x1), (2, .int x2), (3, .int x3)] [] := by
  obtain ⟨hx, hb, hml, hr, hown, hts, hlocks, hK, hA, hX⟩ := id C0
  have hin := hin_X2_code
  intro H locs ls hP hS hl
  unfold wp_X2_code_29 at h
  refine lv_iload_n hx hb dX2_code_29 rfl (lv_at hl 3 rfl) ?_
  refine lv_aload_n hx hb dX2_code_30 rfl (lv_at hl 0 rfl) ?_
  refine va_get (D := D) (ci := 2) (v := .int (ms_pc σ)) (C := RX2) (T := TX2) (N := 21) hx hb hts hin hown hK hP 0 rfl rfl 11 (by decide) (hts (.fieldLink RX2 69 "ClassSheetsModel" "places" "I") (List.mem_of_getElem? (i := 2) rfl)) (fun _ h9 => h9) rfl dX2_code_31 ?_
  refine lv_icmp_ge (tgt := 56) hx hb dX2_code_34 (by decide) (fun c1 => ?_) (fun c1 => ?_)
  · have h := h.1 c1
    refine lv_iload_n hx hb dX2_code_56 rfl (lv_at hl 2 rfl) ?_
    refine lv_bipush (v := 97) hx hb dX2_code_57 (by decide) ?_
    refine lv_irem hx hb dX2_code_59 (by decide) ?_
    exact ret_i (Wd := MW cc ad) (u := σ) C0 h hP hS dX2_code_60
  · have h := h.2 c1
    refine lv_iload_n hx hb dX2_code_37 rfl (lv_at hl 2 rfl) ?_
    refine lv_aload_n hx hb dX2_code_38 rfl (lv_at hl 0 rfl) ?_
    refine lv_iload_n hx hb dX2_code_39 rfl (lv_at hl 1 rfl) ?_
    refine lv_iload_n hx hb dX2_code_40 rfl (lv_at hl 3 rfl) ?_
    obtain ⟨gp2, h⟩ := h
    refine call_v (Wd := MW cc ad) (σ := σ) C0 hd lens_id (As := [.int x1, .int x3]) (rest := [.int x2]) (ct_X2_answerAt l D cc ad ⟨hd.1, fun _ _ => trivial⟩ g σ x1 x3 gp2) (cwV 2 hts gX2_code_X2_answerAt rfl rfl rfl (by decide +kernel) ⟨Nat.le_of_ble_eq_true rfl, Nat.le_of_ble_eq_true rfl⟩) (va_recv hK hP (ci := 2) (q0 := 0) rfl rfl) hP hS rfl hl.1 rfl (by simp [Value.category]) dX2_code_41 (fun r3 u4 hp H locs hP hS => ?_)
    have h := h r3 u4 hp
    have hP : va_P D vwCl (MW cc ad u4) H := hP
    refine lv_iload_n hx hb dX2_code_44 rfl (lv_at hl 3 rfl) ?_
    refine lv_iconst (v := 1) hx hb dX2_code_45 (by decide) ?_
    refine lv_iadd hx hb dX2_code_46 ?_
    refine lv_imul hx hb dX2_code_47 ?_
    refine lv_iadd hx hb dX2_code_48 ?_
    refine lv_topi (fun x2_5 ex2_5 => ?_)
    have h := h x2_5 ex2_5
    refine lv_istore_n (lv' := [(2, .int x2_5), (0, .ref (ad 0)), (1, .int x1), (3, .int x3)]) hx hb dX2_code_49 rfl hl (by decide) rfl (fun ls hl => ?_)
    obtain ⟨x3_6, ex3_6⟩ : ∃ y : Int32, y = x3 + 1 := ⟨_, rfl⟩
    have h := h x3_6 ex3_6
    refine lv_iinc (v := x3_6) (lv' := [(3, .int x3_6), (2, .int x2_5), (0, .ref (ad 0)), (1, .int x1)]) hx hb dX2_code_50 hl (k := 3) rfl (by rw [ex3_6]; rfl) (by decide) rfl (fun ls hl => ?_)
    refine lv_goto (tgt := 29) hx hb dX2_code_53 (by decide) ?_
    exact hK29 (u4, x1, x2_5, x3_6) h H locs ls hP hS (lv_sub hl [2, 3, 1, 0] rfl)
set_option maxHeartbeats 4000000 in
set_option maxRecDepth 100000 in
theorem wk_X2_code_0 {p : Program} {l : Launch} {e : Env} {s : State} {m : MethodId} {args : Array Value} {below : List Frame} {meth : Method} {c : Code} {D : va_G} {cc : Nat → ClassId} {ad : Nat → Nat} {A : Nat → Prop} {Post : Int32 → MS → Prop} {g : CS} (C0 : Cx p s m args meth c cX2_code 4 (some .int) RX2 wsX2_code D cc A) (hd : DA 13 ad A) (σ : MS) (x1 : Int32) (h : wp_X2_code g Post σ x1) : At_ p l e { frames := 6, cells := 0, slots := 0, locals := 145 } s m args below meth c (Qi_ below D (MW cc ad) A args s Post) D A (MW cc ad σ) 4 0 [(0, .ref (ad 0)), (1, .int x1)] [] := by
  obtain ⟨hx, hb, hml, hr, hown, hts, hlocks, hK, hA, hX⟩ := id C0
  have hin := hin_X2_code
  intro H locs ls hP hS hl
  unfold wp_X2_code at h
  refine lv_aload_n hx hb dX2_code_0 rfl (lv_at hl 0 rfl) ?_
  refine lv_iconst (v := 0) hx hb dX2_code_1 (by decide) ?_
  refine va_put (D := D) (ci := 2) (v := .int 0) (ty := .int) (C := RX2) (T := TX2) (N := 21) hx hb hts hin tyX2 tyX2_ok nmX2 hown hK hP (mD hd) hS 0 rfl rfl 0 (by decide) (hts (.fieldLink RX2 59 "ClassSheetsModel" "thrown" "I") (List.mem_of_getElem? (i := 1) rfl)) (fun _ h9 => h9) rfl (by decide +kernel) rfl rfl (Nat.le_of_ble_eq_true rfl) dX2_code_2 (fun H locs hP _ hS => ?_)
  have hP : va_P D vwCl (MW cc ad (ms_s_th σ 0)) H := hP
  refine lv_iload_n hx hb dX2_code_5 rfl (lv_at hl 1 rfl) ?_
  refine call_s (Wd := MW cc ad) (σ := (ms_s_th σ 0)) C0 hd (lens_un (adc := ad)) (As := [.int x1]) (rest := []) (ct_X2_noNumber l D cc ad da0 x1) (va_cwS 1 hts gX2_code_X2_noNumber rfl rfl rfl (by decide +kernel) ⟨Nat.le_of_ble_eq_true rfl, Nat.le_of_ble_eq_true rfl⟩) hP hS rfl hl.1 rfl (by simp [Value.category]) dX2_code_6 (fun r1 u hp H locs hP hS => ?_)
  obtain ⟨hp1, hp2⟩ := hp
  subst hp1
  have hP : va_P D vwCl (MW cc ad (ms_s_th σ 0)) H := hP
  refine lv_if_eq (tgt := 15) hx hb dX2_code_9 (by decide) (fun c2 => ?_) (fun c2 => ?_)
  · have h := h.1 c2
    refine lv_aload_n hx hb dX2_code_15 rfl (lv_at hl 0 rfl) ?_
    obtain ⟨gp3, h⟩ := h
    refine call_v (Wd := MW cc ad) (σ := (ms_s_th σ 0)) C0 hd lens_id (As := []) (rest := []) (ct_X2_noSheet l D cc ad ⟨hd.1, fun _ _ => trivial⟩ g (ms_s_th σ 0) gp3) (cwV 0 hts gX2_code_X2_noSheet rfl rfl rfl (by decide +kernel) ⟨Nat.le_of_ble_eq_true rfl, Nat.le_of_ble_eq_true rfl⟩) (va_recv hK hP (ci := 2) (q0 := 0) rfl rfl) hP hS rfl hl.1 rfl (by simp [Value.category]) dX2_code_16 (fun r4 u5 hp H locs hP hS => ?_)
    have h := h r4 u5 hp
    have hP : va_P D vwCl (MW cc ad u5) H := hP
    refine lv_if_eq (tgt := 25) hx hb dX2_code_19 (by decide) (fun c6 => ?_) (fun c6 => ?_)
    · have h := h.1 c6
      refine lv_iconst (v := 0) hx hb dX2_code_25 (by decide) ?_
      refine lv_istore_n (lv' := [(2, .int 0), (0, .ref (ad 0)), (1, .int x1)]) hx hb dX2_code_26 rfl hl (by decide) rfl (fun ls hl => ?_)
      refine lv_iconst (v := 0) hx hb dX2_code_27 (by decide) ?_
      refine lv_istore_n (lv' := [(3, .int 0), (2, .int 0), (0, .ref (ad 0)), (1, .int x1)]) hx hb dX2_code_28 rfl hl (by decide) rfl (fun ls hl => ?_)
      exact lp_at (Wt := fun a => At_ p l e { frames := 6, cells := 0, slots := 0, locals := 145 } s m args below meth c (Qi_ below D (MW cc ad) A args s Post) D A (MW cc ad (a.1)) 4 29 [(0, .ref (ad 0)), (1, .int (a.2.1)), (2, .int (a.2.2.1)), (3, .int (a.2.2.2))] []) (fun K hK a h => wk_X2_code_29 C0 hd hK a.1 a.2.1 a.2.2.1 a.2.2.2 h) h H locs ls hP hS (lv_sub hl [2, 3, 1, 0] rfl)
    · have h := h.2 c6
      refine lv_bipush (v := (-3)) hx hb dX2_code_22 (by decide) ?_
      exact ret_i (Wd := MW cc ad) (u := u5) C0 h hP hS dX2_code_24
  · have h := h.2 c2
    refine lv_bipush (v := (-2)) hx hb dX2_code_12 (by decide) ?_
    exact ret_i (Wd := MW cc ad) (u := (ms_s_th σ 0)) C0 h hP hS dX2_code_14
theorem ct_X2_code (l : Launch) (D : va_G) (cc : Nat → ClassId) (ad : Nat → Nat) (hd : DA 13 ad (fun _ => True)) (g : CS) (σ : MS) (x1 : Int32) (hp : pr_X2_code g σ x1) : Ctr l yX2_code wsX2_code { frames := 6, cells := 0, slots := 0, locals := 145 } D cc (MW cc ad) 13 ad σ [.ref (ad 0), .int x1] (po_X2_code g σ x1) :=
  ctr_i (rt := (some .int)) (by decide +kernel) rfl hd (Nat.le_of_ble_eq_true rfl) (fun p e s m below meth c A C0 hd => wk_X2_code_0 C0 hd σ x1 (pu_X2_code g σ x1 hp))
theorem hin_X2_shared : ∀ w ∈ u_ws RX2 TX2 21, w ∈ wsX2_shared := fun w h => List.mem_cons_of_mem _ (List.mem_append_right _ h)
set_option maxHeartbeats 4000000 in
set_option maxRecDepth 100000 in
theorem wk_X2_shared_113 {p : Program} {l : Launch} {e : Env} {s : State} {m : MethodId} {args : Array Value} {below : List Frame} {meth : Method} {c : Code} {D : va_G} {cc : Nat → ClassId} {ad : Nat → Nat} {A : Nat → Prop} {Post : Int32 → MS → Prop} {g : CS} (C0 : Cx p s m args meth c cX2_shared 7 (some .int) RX2 wsX2_shared D cc A) (hd : DA 13 ad A) {K37 : (MS × Int32 × Int32 × Int32 × Int32) → Prop} (hK37 : ∀ a, K37 a → At_ p l e { frames := 5, cells := 0, slots := 0, locals := 123 } s m args below meth c (Qi_ below D (MW cc ad) A args s Post) D A (MW cc ad (a.1)) 7 37 [(0, .ref (ad 0)), (1, .int (a.2.1)), (2, .int (a.2.2.1)), (3, .int (a.2.2.2.1)), (4, .int (a.2.2.2.2))] []) (σ : MS) (x1 : Int32) (x2 : Int32) (x3 : Int32) (x4 : Int32) (x5 : Int32) (h : wp_X2_shared_113 g K37 Post σ x1 x2 x3 x4 x5) : At_ p l e { frames := 5, cells := 0, slots := 0, locals := 123 } s m args below meth c (Qi_ below D (MW cc ad) A args s Post) D A (MW cc ad σ) 7 113 [(0, .ref (ad 0)), (1, .int x1), (2, .int x2), (3, .int x3), (4, .int x4), (5, .int x5)] [] := by
  obtain ⟨hx, hb, hml, hr, hown, hts, hlocks, hK, hA, hX⟩ := id C0
  have hin := hin_X2_shared
  intro H locs ls hP hS hl
  unfold wp_X2_shared_113 at h
  refine lv_iload_n hx hb dX2_shared_113 rfl (lv_at hl 3 rfl) ?_
  refine lv_iload hx hb dX2_shared_114 (lv_at hl 5 rfl) ?_
  refine lv_if_eq (tgt := 123) hx hb dX2_shared_116 (by decide) (fun c1 => ?_) (fun c1 => ?_)
  · have h := h.1 c1
    refine lv_iconst (v := 0) hx hb dX2_shared_123 (by decide) ?_
    refine lv_iadd hx hb dX2_shared_124 ?_
    refine lv_topi (fun x3_2 ex3_2 => ?_)
    have h := h x3_2 ex3_2
    refine lv_istore_n (lv' := [(3, .int x3_2), (0, .ref (ad 0)), (1, .int x1), (2, .int x2), (4, .int x4), (5, .int x5)]) hx hb dX2_shared_125 rfl hl (by decide) rfl (fun ls hl => ?_)
    obtain ⟨x4_3, ex4_3⟩ : ∃ y : Int32, y = x4 + 1 := ⟨_, rfl⟩
    have h := h x4_3 ex4_3
    refine lv_iinc (v := x4_3) (lv' := [(4, .int x4_3), (3, .int x3_2), (0, .ref (ad 0)), (1, .int x1), (2, .int x2), (5, .int x5)]) hx hb dX2_shared_126 hl (k := 4) rfl (by rw [ex4_3]; rfl) (by decide) rfl (fun ls hl => ?_)
    refine lv_goto (tgt := 37) hx hb dX2_shared_129 (by decide) ?_
    exact hK37 (σ, x1, x2, x3_2, x4_3) h H locs ls hP hS (lv_sub hl [2, 3, 4, 1, 0] rfl)
  · have h := h.2 c1
    refine lv_iconst (v := 1) hx hb dX2_shared_119 (by decide) ?_
    refine lv_goto (tgt := 124) hx hb dX2_shared_120 (by decide) ?_
    refine lv_iadd hx hb dX2_shared_124 ?_
    refine lv_topi (fun x3_4 ex3_4 => ?_)
    have h := h x3_4 ex3_4
    refine lv_istore_n (lv' := [(3, .int x3_4), (0, .ref (ad 0)), (1, .int x1), (2, .int x2), (4, .int x4), (5, .int x5)]) hx hb dX2_shared_125 rfl hl (by decide) rfl (fun ls hl => ?_)
    obtain ⟨x4_5, ex4_5⟩ : ∃ y : Int32, y = x4 + 1 := ⟨_, rfl⟩
    have h := h x4_5 ex4_5
    refine lv_iinc (v := x4_5) (lv' := [(4, .int x4_5), (3, .int x3_4), (0, .ref (ad 0)), (1, .int x1), (2, .int x2), (5, .int x5)]) hx hb dX2_shared_126 hl (k := 4) rfl (by rw [ex4_5]; rfl) (by decide) rfl (fun ls hl => ?_)
    refine lv_goto (tgt := 37) hx hb dX2_shared_129 (by decide) ?_
    exact hK37 (σ, x1, x2, x3_4, x4_5) h H locs ls hP hS (lv_sub hl [2, 3, 4, 1, 0] rfl)
set_option maxHeartbeats 4000000 in
set_option maxRecDepth 100000 in
theorem wk_X2_shared_52 {p : Program} {l : Launch} {e : Env} {s : State} {m : MethodId} {args : Array Value} {below : List Frame} {meth : Method} {c : Code} {D : va_G} {cc : Nat → ClassId} {ad : Nat → Nat} {A : Nat → Prop} {Post : Int32 → MS → Prop} {g : CS} (C0 : Cx p s m args meth c cX2_shared 7 (some .int) RX2 wsX2_shared D cc A) (hd : DA 13 ad A) {K37 : (MS × Int32 × Int32 × Int32 × Int32) → Prop} (hK37 : ∀ a, K37 a → At_ p l e { frames := 5, cells := 0, slots := 0, locals := 123 } s m args below meth c (Qi_ below D (MW cc ad) A args s Post) D A (MW cc ad (a.1)) 7 37 [(0, .ref (ad 0)), (1, .int (a.2.1)), (2, .int (a.2.2.1)), (3, .int (a.2.2.2.1)), (4, .int (a.2.2.2.2))] []) {K52 : (MS × Int32 × Int32 × Int32 × Int32 × Int32 × Int32) → Prop} (hK52 : ∀ a, K52 a → At_ p l e { frames := 5, cells := 0, slots := 0, locals := 123 } s m args below meth c (Qi_ below D (MW cc ad) A args s Post) D A (MW cc ad (a.1)) 7 52 [(0, .ref (ad 0)), (1, .int (a.2.1)), (2, .int (a.2.2.1)), (3, .int (a.2.2.2.1)), (4, .int (a.2.2.2.2.1)), (5, .int (a.2.2.2.2.2.1)), (6, .int (a.2.2.2.2.2.2))] []) (σ : MS) (x1 : Int32) (x2 : Int32) (x3 : Int32) (x4 : Int32) (x5 : Int32) (x6 : Int32) (h : wp_X2_shared_52 g K37 K52 Post σ x1 x2 x3 x4 x5 x6) : At_ p l e { frames := 5, cells := 0, slots := 0, locals := 123 } s m args below meth c (Qi_ below D (MW cc ad) A args s Post) D A (MW cc ad σ) 7 52 [(0, .ref (ad 0)), (1, .int x1), (2, .int x2), (3, .int x3), (4, .int x4), (5, .int x5), (6, .int x6)] [] := by
  obtain ⟨hx, hb, hml, hr, hown, hts, hlocks, hK, hA, hX⟩ := id C0
  have hin := hin_X2_shared
  intro H locs ls hP hS hl
  unfold wp_X2_shared_52 at h
  refine lv_iload hx hb dX2_shared_52 (lv_at hl 6 rfl) ?_
  refine lv_aload_n hx hb dX2_shared_54 rfl (lv_at hl 0 rfl) ?_
  refine va_get (D := D) (ci := 2) (v := .int (ms_pc σ)) (C := RX2) (T := TX2) (N := 21) hx hb hts hin hown hK hP 0 rfl rfl 11 (by decide) (hts (.fieldLink RX2 69 "ClassSheetsModel" "places" "I") (List.mem_of_getElem? (i := 2) rfl)) (fun _ h9 => h9) rfl dX2_shared_55 ?_
  refine lv_icmp_ge (tgt := 113) hx hb dX2_shared_58 (by decide) (fun c1 => ?_) (fun c1 => ?_)
  · have h := h.1 c1
    exact wk_X2_shared_113 C0 hd hK37 σ x1 x2 x3 x4 x5 h H locs ls hP hS (lv_sub hl [0, 1, 2, 3, 4, 5] rfl)
  · have h := h.2 c1
    refine lv_iload hx hb dX2_shared_61 (lv_at hl 5 rfl) ?_
    refine lv_if_ne (tgt := 113) hx hb dX2_shared_63 (by decide) (fun c2 => ?_) (fun c2 => ?_)
    · have h := h.1 c2
      exact wk_X2_shared_113 C0 hd hK37 σ x1 x2 x3 x4 x5 h H locs ls hP hS (lv_sub hl [0, 1, 2, 3, 4, 5] rfl)
    · have h := h.2 c2
      refine lv_aload_n hx hb dX2_shared_66 rfl (lv_at hl 0 rfl) ?_
      refine va_get (D := D) (ci := 2) (v := .ref (ad 10)) (C := RX2) (T := TX2) (N := 21) hx hb hts hin hown hK hP 0 rfl rfl 12 (by decide) (hts (.fieldLink RX2 40 "ClassSheetsModel" "plan" "[I") (List.mem_of_getElem? (i := 3) rfl)) (fun _ h9 => h9) rfl dX2_shared_67 ?_
      refine lv_iload hx hb dX2_shared_70 (lv_at hl 6 rfl) ?_
      obtain ⟨gi3, h⟩ := h
      refine va_iald (D := D) (f := ms_pn σ) hx hb hK hP 10 0 rfl rfl gi3 dX2_shared_72 ?_
      refine lv_aload_n hx hb dX2_shared_73 rfl (lv_at hl 0 rfl) ?_
      refine va_get (D := D) (ci := 2) (v := .ref (ad 10)) (C := RX2) (T := TX2) (N := 21) hx hb hts hin hown hK hP 0 rfl rfl 12 (by decide) (hts (.fieldLink RX2 40 "ClassSheetsModel" "plan" "[I") (List.mem_of_getElem? (i := 3) rfl)) (fun _ h9 => h9) rfl dX2_shared_74 ?_
      refine lv_iload hx hb dX2_shared_77 (lv_at hl 4 rfl) ?_
      obtain ⟨gi4, h⟩ := h
      refine va_iald (D := D) (f := ms_pn σ) hx hb hK hP 10 0 rfl rfl gi4 dX2_shared_79 ?_
      refine lv_icmp_ne (tgt := 104) hx hb dX2_shared_80 (by decide) (fun c5 => ?_) (fun c5 => ?_)
      · have h := h.1 c5
        refine lv_iconst (v := 0) hx hb dX2_shared_104 (by decide) ?_
        refine lv_istore (lv' := [(5, .int 0), (0, .ref (ad 0)), (1, .int x1), (2, .int x2), (3, .int x3), (4, .int x4), (6, .int x6)]) hx hb dX2_shared_105 hl (by decide) rfl (fun ls hl => ?_)
        obtain ⟨x6_6, ex6_6⟩ : ∃ y : Int32, y = x6 + 1 := ⟨_, rfl⟩
        have h := h x6_6 ex6_6
        refine lv_iinc (v := x6_6) (lv' := [(6, .int x6_6), (5, .int 0), (0, .ref (ad 0)), (1, .int x1), (2, .int x2), (3, .int x3), (4, .int x4)]) hx hb dX2_shared_107 hl (k := 6) rfl (by rw [ex6_6]; rfl) (by decide) rfl (fun ls hl => ?_)
        refine lv_goto (tgt := 52) hx hb dX2_shared_110 (by decide) ?_
        exact hK52 (σ, x1, x2, x3, x4, 0, x6_6) h H locs ls hP hS (lv_sub hl [2, 3, 4, 5, 6, 1, 0] rfl)
      · have h := h.2 c5
        refine lv_aload_n hx hb dX2_shared_83 rfl (lv_at hl 0 rfl) ?_
        refine lv_iload_n hx hb dX2_shared_84 rfl (lv_at hl 2 rfl) ?_
        refine lv_iload hx hb dX2_shared_85 (lv_at hl 6 rfl) ?_
        obtain ⟨gp7, h⟩ := h
        refine call_v (Wd := MW cc ad) (σ := σ) C0 hd lens_id (As := [.int x2, .int x6]) (rest := []) (ct_X2_variantAt l D cc ad ⟨hd.1, fun _ _ => trivial⟩ g σ x2 x6 gp7) (cwV 2 hts gX2_shared_X2_variantAt rfl rfl rfl (by decide +kernel) ⟨Nat.le_of_ble_eq_true rfl, Nat.le_of_ble_eq_true rfl⟩) (va_recv hK hP (ci := 2) (q0 := 0) rfl rfl) hP hS rfl hl.1 rfl (by simp [Value.category]) dX2_shared_87 (fun r8 u9 hp H locs hP hS => ?_)
        have h := h r8 u9 hp
        have hP : va_P D vwCl (MW cc ad u9) H := hP
        refine lv_aload_n hx hb dX2_shared_90 rfl (lv_at hl 0 rfl) ?_
        refine lv_iload_n hx hb dX2_shared_91 rfl (lv_at hl 1 rfl) ?_
        refine lv_iload hx hb dX2_shared_92 (lv_at hl 4 rfl) ?_
        obtain ⟨gp10, h⟩ := h
        refine call_v (Wd := MW cc ad) (σ := u9) C0 hd lens_id (As := [.int x1, .int x4]) (rest := [.int r8]) (ct_X2_variantAt l D cc ad ⟨hd.1, fun _ _ => trivial⟩ g u9 x1 x4 gp10) (cwV 2 hts gX2_shared_X2_variantAt rfl rfl rfl (by decide +kernel) ⟨Nat.le_of_ble_eq_true rfl, Nat.le_of_ble_eq_true rfl⟩) (va_recv hK hP (ci := 2) (q0 := 0) rfl rfl) hP hS rfl hl.1 rfl (by simp [Value.category]) dX2_shared_94 (fun r11 u12 hp H locs hP hS => ?_)
        have h := h r11 u12 hp
        have hP : va_P D vwCl (MW cc ad u12) H := hP
        refine lv_icmp_ne (tgt := 104) hx hb dX2_shared_97 (by decide) (fun c13 => ?_) (fun c13 => ?_)
        · have h := h.1 c13
          refine lv_iconst (v := 0) hx hb dX2_shared_104 (by decide) ?_
          refine lv_istore (lv' := [(5, .int 0), (0, .ref (ad 0)), (1, .int x1), (2, .int x2), (3, .int x3), (4, .int x4), (6, .int x6)]) hx hb dX2_shared_105 hl (by decide) rfl (fun ls hl => ?_)
          obtain ⟨x6_14, ex6_14⟩ : ∃ y : Int32, y = x6 + 1 := ⟨_, rfl⟩
          have h := h x6_14 ex6_14
          refine lv_iinc (v := x6_14) (lv' := [(6, .int x6_14), (5, .int 0), (0, .ref (ad 0)), (1, .int x1), (2, .int x2), (3, .int x3), (4, .int x4)]) hx hb dX2_shared_107 hl (k := 6) rfl (by rw [ex6_14]; rfl) (by decide) rfl (fun ls hl => ?_)
          refine lv_goto (tgt := 52) hx hb dX2_shared_110 (by decide) ?_
          exact hK52 (u12, x1, x2, x3, x4, 0, x6_14) h H locs ls hP hS (lv_sub hl [2, 3, 4, 5, 6, 1, 0] rfl)
        · have h := h.2 c13
          refine lv_iconst (v := 1) hx hb dX2_shared_100 (by decide) ?_
          refine lv_goto (tgt := 105) hx hb dX2_shared_101 (by decide) ?_
          refine lv_istore (lv' := [(5, .int 1), (0, .ref (ad 0)), (1, .int x1), (2, .int x2), (3, .int x3), (4, .int x4), (6, .int x6)]) hx hb dX2_shared_105 hl (by decide) rfl (fun ls hl => ?_)
          obtain ⟨x6_15, ex6_15⟩ : ∃ y : Int32, y = x6 + 1 := ⟨_, rfl⟩
          have h := h x6_15 ex6_15
          refine lv_iinc (v := x6_15) (lv' := [(6, .int x6_15), (5, .int 1), (0, .ref (ad 0)), (1, .int x1), (2, .int x2), (3, .int x3), (4, .int x4)]) hx hb dX2_shared_107 hl (k := 6) rfl (by rw [ex6_15]; rfl) (by decide) rfl (fun ls hl => ?_)
          refine lv_goto (tgt := 52) hx hb dX2_shared_110 (by decide) ?_
          exact hK52 (u12, x1, x2, x3, x4, 1, x6_15) h H locs ls hP hS (lv_sub hl [2, 3, 4, 5, 6, 1, 0] rfl)
set_option maxHeartbeats 4000000 in
set_option maxRecDepth 100000 in
theorem wk_X2_shared_37 {p : Program} {l : Launch} {e : Env} {s : State} {m : MethodId} {args : Array Value} {below : List Frame} {meth : Method} {c : Code} {D : va_G} {cc : Nat → ClassId} {ad : Nat → Nat} {A : Nat → Prop} {Post : Int32 → MS → Prop} {g : CS} (C0 : Cx p s m args meth c cX2_shared 7 (some .int) RX2 wsX2_shared D cc A) (hd : DA 13 ad A) {K37 : (MS × Int32 × Int32 × Int32 × Int32) → Prop} (hK37 : ∀ a, K37 a → At_ p l e { frames := 5, cells := 0, slots := 0, locals := 123 } s m args below meth c (Qi_ below D (MW cc ad) A args s Post) D A (MW cc ad (a.1)) 7 37 [(0, .ref (ad 0)), (1, .int (a.2.1)), (2, .int (a.2.2.1)), (3, .int (a.2.2.2.1)), (4, .int (a.2.2.2.2))] []) (σ : MS) (x1 : Int32) (x2 : Int32) (x3 : Int32) (x4 : Int32) (h : wp_X2_shared_37 g K37 Post σ x1 x2 x3 x4) : At_ p l e { frames := 5, cells := 0, slots := 0, locals := 123 } s m args below meth c (Qi_ below D (MW cc ad) A args s Post) D A (MW cc ad σ) 7 37 [(0, .ref (ad 0)), (1, .int x1), (2, .int x2), (3, .int x3), (4, .int x4)] [] := by
  obtain ⟨hx, hb, hml, hr, hown, hts, hlocks, hK, hA, hX⟩ := id C0
  have hin := hin_X2_shared
  intro H locs ls hP hS hl
  unfold wp_X2_shared_37 at h
  refine lv_iload hx hb dX2_shared_37 (lv_at hl 4 rfl) ?_
  refine lv_aload_n hx hb dX2_shared_39 rfl (lv_at hl 0 rfl) ?_
  refine va_get (D := D) (ci := 2) (v := .int (ms_pc σ)) (C := RX2) (T := TX2) (N := 21) hx hb hts hin hown hK hP 0 rfl rfl 11 (by decide) (hts (.fieldLink RX2 69 "ClassSheetsModel" "places" "I") (List.mem_of_getElem? (i := 2) rfl)) (fun _ h9 => h9) rfl dX2_shared_40 ?_
  refine lv_icmp_ge (tgt := 132) hx hb dX2_shared_43 (by decide) (fun c1 => ?_) (fun c1 => ?_)
  · have h := h.1 c1
    refine lv_iload_n hx hb dX2_shared_132 rfl (lv_at hl 3 rfl) ?_
    exact ret_i (Wd := MW cc ad) (u := σ) C0 h hP hS dX2_shared_133
  · have h := h.2 c1
    refine lv_iconst (v := 0) hx hb dX2_shared_46 (by decide) ?_
    refine lv_istore (lv' := [(5, .int 0), (0, .ref (ad 0)), (1, .int x1), (2, .int x2), (3, .int x3), (4, .int x4)]) hx hb dX2_shared_47 hl (by decide) rfl (fun ls hl => ?_)
    refine lv_iconst (v := 0) hx hb dX2_shared_49 (by decide) ?_
    refine lv_istore (lv' := [(6, .int 0), (5, .int 0), (0, .ref (ad 0)), (1, .int x1), (2, .int x2), (3, .int x3), (4, .int x4)]) hx hb dX2_shared_50 hl (by decide) rfl (fun ls hl => ?_)
    exact lp_at (Wt := fun a => At_ p l e { frames := 5, cells := 0, slots := 0, locals := 123 } s m args below meth c (Qi_ below D (MW cc ad) A args s Post) D A (MW cc ad (a.1)) 7 52 [(0, .ref (ad 0)), (1, .int (a.2.1)), (2, .int (a.2.2.1)), (3, .int (a.2.2.2.1)), (4, .int (a.2.2.2.2.1)), (5, .int (a.2.2.2.2.2.1)), (6, .int (a.2.2.2.2.2.2))] []) (fun K hK a h => wk_X2_shared_52 C0 hd hK37 hK a.1 a.2.1 a.2.2.1 a.2.2.2.1 a.2.2.2.2.1 a.2.2.2.2.2.1 a.2.2.2.2.2.2 h) h H locs ls hP hS (lv_sub hl [2, 3, 4, 5, 6, 1, 0] rfl)
set_option maxHeartbeats 4000000 in
set_option maxRecDepth 100000 in
theorem wk_X2_shared_0 {p : Program} {l : Launch} {e : Env} {s : State} {m : MethodId} {args : Array Value} {below : List Frame} {meth : Method} {c : Code} {D : va_G} {cc : Nat → ClassId} {ad : Nat → Nat} {A : Nat → Prop} {Post : Int32 → MS → Prop} {g : CS} (C0 : Cx p s m args meth c cX2_shared 7 (some .int) RX2 wsX2_shared D cc A) (hd : DA 13 ad A) (σ : MS) (x1 : Int32) (x2 : Int32) (h : wp_X2_shared g Post σ x1 x2) : At_ p l e { frames := 5, cells := 0, slots := 0, locals := 123 } s m args below meth c (Qi_ below D (MW cc ad) A args s Post) D A (MW cc ad σ) 7 0 [(0, .ref (ad 0)), (1, .int x1), (2, .int x2)] [] := by
  obtain ⟨hx, hb, hml, hr, hown, hts, hlocks, hK, hA, hX⟩ := id C0
  have hin := hin_X2_shared
  intro H locs ls hP hS hl
  unfold wp_X2_shared at h
  refine lv_aload_n hx hb dX2_shared_0 rfl (lv_at hl 0 rfl) ?_
  refine lv_iconst (v := 0) hx hb dX2_shared_1 (by decide) ?_
  refine va_put (D := D) (ci := 2) (v := .int 0) (ty := .int) (C := RX2) (T := TX2) (N := 21) hx hb hts hin tyX2 tyX2_ok nmX2 hown hK hP (mD hd) hS 0 rfl rfl 0 (by decide) (hts (.fieldLink RX2 59 "ClassSheetsModel" "thrown" "I") (List.mem_of_getElem? (i := 1) rfl)) (fun _ h9 => h9) rfl (by decide +kernel) rfl rfl (Nat.le_of_ble_eq_true rfl) dX2_shared_2 (fun H locs hP _ hS => ?_)
  have hP : va_P D vwCl (MW cc ad (ms_s_th σ 0)) H := hP
  refine lv_iload_n hx hb dX2_shared_5 rfl (lv_at hl 1 rfl) ?_
  refine call_s (Wd := MW cc ad) (σ := (ms_s_th σ 0)) C0 hd (lens_un (adc := ad)) (As := [.int x1]) (rest := []) (ct_X2_noNumber l D cc ad da0 x1) (va_cwS 1 hts gX2_shared_X2_noNumber rfl rfl rfl (by decide +kernel) ⟨Nat.le_of_ble_eq_true rfl, Nat.le_of_ble_eq_true rfl⟩) hP hS rfl hl.1 rfl (by simp [Value.category]) dX2_shared_6 (fun r1 u hp H locs hP hS => ?_)
  obtain ⟨hp1, hp2⟩ := hp
  subst hp1
  have hP : va_P D vwCl (MW cc ad (ms_s_th σ 0)) H := hP
  refine lv_if_ne (tgt := 19) hx hb dX2_shared_9 (by decide) (fun c2 => ?_) (fun c2 => ?_)
  · have h := h.1 c2
    refine lv_bipush (v := (-2)) hx hb dX2_shared_19 (by decide) ?_
    exact ret_i (Wd := MW cc ad) (u := (ms_s_th σ 0)) C0 h hP hS dX2_shared_21
  · have h := h.2 c2
    refine lv_iload_n hx hb dX2_shared_12 rfl (lv_at hl 2 rfl) ?_
    refine call_s (Wd := MW cc ad) (σ := (ms_s_th σ 0)) C0 hd (lens_un (adc := ad)) (As := [.int x2]) (rest := []) (ct_X2_noNumber l D cc ad da0 x2) (va_cwS 1 hts gX2_shared_X2_noNumber rfl rfl rfl (by decide +kernel) ⟨Nat.le_of_ble_eq_true rfl, Nat.le_of_ble_eq_true rfl⟩) hP hS rfl hl.1 rfl (by simp [Value.category]) dX2_shared_13 (fun r3 u hp H locs hP hS => ?_)
    obtain ⟨hp1, hp2⟩ := hp
    subst hp1
    have hP : va_P D vwCl (MW cc ad (ms_s_th σ 0)) H := hP
    refine lv_if_eq (tgt := 22) hx hb dX2_shared_16 (by decide) (fun c4 => ?_) (fun c4 => ?_)
    · have h := h.1 c4
      refine lv_aload_n hx hb dX2_shared_22 rfl (lv_at hl 0 rfl) ?_
      obtain ⟨gp5, h⟩ := h
      refine call_v (Wd := MW cc ad) (σ := (ms_s_th σ 0)) C0 hd lens_id (As := []) (rest := []) (ct_X2_noSheet l D cc ad ⟨hd.1, fun _ _ => trivial⟩ g (ms_s_th σ 0) gp5) (cwV 0 hts gX2_shared_X2_noSheet rfl rfl rfl (by decide +kernel) ⟨Nat.le_of_ble_eq_true rfl, Nat.le_of_ble_eq_true rfl⟩) (va_recv hK hP (ci := 2) (q0 := 0) rfl rfl) hP hS rfl hl.1 rfl (by simp [Value.category]) dX2_shared_23 (fun r6 u7 hp H locs hP hS => ?_)
      have h := h r6 u7 hp
      have hP : va_P D vwCl (MW cc ad u7) H := hP
      refine lv_if_eq (tgt := 32) hx hb dX2_shared_26 (by decide) (fun c8 => ?_) (fun c8 => ?_)
      · have h := h.1 c8
        refine lv_iconst (v := 0) hx hb dX2_shared_32 (by decide) ?_
        refine lv_istore_n (lv' := [(3, .int 0), (0, .ref (ad 0)), (1, .int x1), (2, .int x2)]) hx hb dX2_shared_33 rfl hl (by decide) rfl (fun ls hl => ?_)
        refine lv_iconst (v := 0) hx hb dX2_shared_34 (by decide) ?_
        refine lv_istore (lv' := [(4, .int 0), (3, .int 0), (0, .ref (ad 0)), (1, .int x1), (2, .int x2)]) hx hb dX2_shared_35 hl (by decide) rfl (fun ls hl => ?_)
        exact lp_at (Wt := fun a => At_ p l e { frames := 5, cells := 0, slots := 0, locals := 123 } s m args below meth c (Qi_ below D (MW cc ad) A args s Post) D A (MW cc ad (a.1)) 7 37 [(0, .ref (ad 0)), (1, .int (a.2.1)), (2, .int (a.2.2.1)), (3, .int (a.2.2.2.1)), (4, .int (a.2.2.2.2))] []) (fun K hK a h => wk_X2_shared_37 C0 hd hK a.1 a.2.1 a.2.2.1 a.2.2.2.1 a.2.2.2.2 h) h H locs ls hP hS (lv_sub hl [2, 3, 4, 1, 0] rfl)
      · have h := h.2 c8
        refine lv_bipush (v := (-3)) hx hb dX2_shared_29 (by decide) ?_
        exact ret_i (Wd := MW cc ad) (u := u7) C0 h hP hS dX2_shared_31
    · have h := h.2 c4
      refine lv_bipush (v := (-2)) hx hb dX2_shared_19 (by decide) ?_
      exact ret_i (Wd := MW cc ad) (u := (ms_s_th σ 0)) C0 h hP hS dX2_shared_21
theorem ct_X2_shared (l : Launch) (D : va_G) (cc : Nat → ClassId) (ad : Nat → Nat) (hd : DA 13 ad (fun _ => True)) (g : CS) (σ : MS) (x1 : Int32) (x2 : Int32) (hp : pr_X2_shared g σ x1 x2) : Ctr l yX2_shared wsX2_shared { frames := 5, cells := 0, slots := 0, locals := 123 } D cc (MW cc ad) 13 ad σ [.ref (ad 0), .int x1, .int x2] (po_X2_shared g σ x1 x2) :=
  ctr_i (rt := (some .int)) (by decide +kernel) rfl hd (Nat.le_of_ble_eq_true rfl) (fun p e s m below meth c A C0 hd => wk_X2_shared_0 C0 hd σ x1 x2 (pu_X2_shared g σ x1 x2 hp))
theorem hin_X2_isApart : ∀ w ∈ u_ws RX2 TX2 21, w ∈ wsX2_isApart := fun w h => List.mem_cons_of_mem _ (List.mem_append_right _ h)
set_option maxHeartbeats 4000000 in
set_option maxRecDepth 100000 in
theorem wk_X2_isApart_5 {p : Program} {l : Launch} {e : Env} {s : State} {m : MethodId} {args : Array Value} {below : List Frame} {meth : Method} {c : Code} {D : va_G} {cc : Nat → ClassId} {ad : Nat → Nat} {A : Nat → Prop} {Post : Int32 → MS → Prop} {g : CS} (C0 : Cx p s m args meth c cX2_isApart 8 (some .boolean) RX2 wsX2_isApart D cc A) (hd : DA 13 ad A) {K5 : (MS × Int32 × Int32 × Int32 × Int32) → Prop} (hK5 : ∀ a, K5 a → At_ p l e { frames := 4, cells := 0, slots := 0, locals := 100 } s m args below meth c (Qi_ below D (MW cc ad) A args s Post) D A (MW cc ad (a.1)) 8 5 [(0, .ref (ad 0)), (1, .int (a.2.1)), (2, .int (a.2.2.1)), (3, .int (a.2.2.2.1)), (4, .int (a.2.2.2.2))] []) (σ : MS) (x1 : Int32) (x2 : Int32) (x3 : Int32) (x4 : Int32) (h : wp_X2_isApart_5 g K5 Post σ x1 x2 x3 x4) : At_ p l e { frames := 4, cells := 0, slots := 0, locals := 100 } s m args below meth c (Qi_ below D (MW cc ad) A args s Post) D A (MW cc ad σ) 8 5 [(0, .ref (ad 0)), (1, .int x1), (2, .int x2), (3, .int x3), (4, .int x4)] [] := by
  obtain ⟨hx, hb, hml, hr, hown, hts, hlocks, hK, hA, hX⟩ := id C0
  have hin := hin_X2_isApart
  intro H locs ls hP hS hl
  unfold wp_X2_isApart_5 at h
  refine lv_iload hx hb dX2_isApart_5 (lv_at hl 4 rfl) ?_
  refine lv_aload_n hx hb dX2_isApart_7 rfl (lv_at hl 0 rfl) ?_
  refine va_get (D := D) (ci := 2) (v := .int (ms_ki σ)) (C := RX2) (T := TX2) (N := 21) hx hb hts hin hown hK hP 0 rfl rfl 1 (by decide) (hts (.fieldLink RX2 62 "ClassSheetsModel" "kinds" "I") (List.mem_of_getElem? (i := 1) rfl)) (fun _ h9 => h9) rfl dX2_isApart_8 ?_
  refine lv_icmp_ge (tgt := 83) hx hb dX2_isApart_11 (by decide) (fun c1 => ?_) (fun c1 => ?_)
  · have h := h.1 c1
    refine lv_iload_n hx hb dX2_isApart_83 rfl (lv_at hl 3 rfl) ?_
    exact ret_z (Wd := MW cc ad) (u := σ) C0 h.1 h.2 hP hS dX2_isApart_84
  · have h := h.2 c1
    refine lv_iload_n hx hb dX2_isApart_14 rfl (lv_at hl 3 rfl) ?_
    refine lv_if_eq (tgt := 83) hx hb dX2_isApart_15 (by decide) (fun c2 => ?_) (fun c2 => ?_)
    · have h := h.1 c2
      refine lv_iload_n hx hb dX2_isApart_83 rfl (lv_at hl 3 rfl) ?_
      exact ret_z (Wd := MW cc ad) (u := σ) C0 h.1 h.2 hP hS dX2_isApart_84
    · have h := h.2 c2
      refine lv_aload_n hx hb dX2_isApart_18 rfl (lv_at hl 0 rfl) ?_
      refine lv_iload hx hb dX2_isApart_19 (lv_at hl 4 rfl) ?_
      refine lv_aload_n hx hb dX2_isApart_21 rfl (lv_at hl 0 rfl) ?_
      refine va_get (D := D) (ci := 2) (v := .int (ms_pc σ)) (C := RX2) (T := TX2) (N := 21) hx hb hts hin hown hK hP 0 rfl rfl 11 (by decide) (hts (.fieldLink RX2 69 "ClassSheetsModel" "places" "I") (List.mem_of_getElem? (i := 2) rfl)) (fun _ h9 => h9) rfl dX2_isApart_22 ?_
      obtain ⟨gp3, h⟩ := h
      refine call_v (Wd := MW cc ad) (σ := σ) C0 hd lens_id (As := [.int x4, .int (ms_pc σ)]) (rest := []) (ct_X2_ahead l D cc ad ⟨hd.1, fun _ _ => trivial⟩ g σ x4 (ms_pc σ) gp3) (cwV 2 hts gX2_isApart_X2_ahead rfl rfl rfl (by decide +kernel) ⟨Nat.le_of_ble_eq_true rfl, Nat.le_of_ble_eq_true rfl⟩) (va_recv hK hP (ci := 2) (q0 := 0) rfl rfl) hP hS rfl hl.1 rfl (by simp [Value.category]) dX2_isApart_25 (fun r4 u hp H locs hP hS => ?_)
      obtain ⟨hp1, hp2⟩ := hp
      subst hp1
      have hp2 := hp2.symm
      subst hp2
      have hP : va_P D vwCl (MW cc ad σ) H := hP
      refine lv_topi (fun x5_5 ex5_5 => ?_)
      have h := h x5_5 ex5_5
      refine lv_istore (lv' := [(5, .int x5_5), (0, .ref (ad 0)), (1, .int x1), (2, .int x2), (3, .int x3), (4, .int x4)]) hx hb dX2_isApart_28 hl (by decide) rfl (fun ls hl => ?_)
      refine lv_iload hx hb dX2_isApart_30 (lv_at hl 0 rfl) ?_
      refine lv_if_le (tgt := 77) hx hb dX2_isApart_32 (by decide) (fun c6 => ?_) (fun c6 => ?_)
      · have h := h.1 c6
        obtain ⟨x4_7, ex4_7⟩ : ∃ y : Int32, y = x4 + 1 := ⟨_, rfl⟩
        have h := h x4_7 ex4_7
        refine lv_iinc (v := x4_7) (lv' := [(4, .int x4_7), (5, .int x5_5), (0, .ref (ad 0)), (1, .int x1), (2, .int x2), (3, .int x3)]) hx hb dX2_isApart_77 hl (k := 5) rfl (by rw [ex4_7]; rfl) (by decide) rfl (fun ls hl => ?_)
        refine lv_goto (tgt := 5) hx hb dX2_isApart_80 (by decide) ?_
        exact hK5 (σ, x1, x2, x3, x4_7) h H locs ls hP hS (lv_sub hl [2, 3, 4, 5, 0] rfl)
      · have h := h.2 c6
        refine lv_aload_n hx hb dX2_isApart_35 rfl (lv_at hl 1 rfl) ?_
        refine lv_iload hx hb dX2_isApart_36 (lv_at hl 5 rfl) ?_
        obtain ⟨gp8, h⟩ := h
        refine call_v (Wd := MW cc ad) (σ := σ) C0 hd lens_id (As := [.int x4]) (rest := []) (ct_X2_tell l D cc ad ⟨hd.1, fun _ _ => trivial⟩ g σ x4 gp8) (cwV 1 hts gX2_isApart_X2_tell rfl rfl rfl (by decide +kernel) ⟨Nat.le_of_ble_eq_true rfl, Nat.le_of_ble_eq_true rfl⟩) (va_recv hK hP (ci := 2) (q0 := 0) rfl rfl) hP hS rfl hl.1 rfl (by simp [Value.category]) dX2_isApart_38 (fun r9 u10 hp H locs hP hS => ?_)
        have h := h r9 u10 hp
        have hP : va_P D vwCl (MW cc ad u10) H := hP
        refine lv_istore (lv' := [(6, .int r9), (5, .int x5_5), (0, .ref (ad 0)), (1, .int x1), (2, .int x2), (3, .int x3), (4, .int x4)]) hx hb dX2_isApart_41 hl (by decide) rfl (fun ls hl => ?_)
        refine lv_iload_n hx hb dX2_isApart_43 rfl (lv_at hl 4 rfl) ?_
        refine lv_iload_n hx hb dX2_isApart_44 rfl (lv_at hl 3 rfl) ?_
        refine lv_isub hx hb dX2_isApart_45 ?_
        refine lv_iload hx hb dX2_isApart_46 (lv_at hl 1 rfl) ?_
        refine lv_imul hx hb dX2_isApart_48 ?_
        refine lv_iload hx hb dX2_isApart_49 (lv_at hl 0 rfl) ?_
        obtain ⟨gd11, h⟩ := h
        refine lv_irem hx hb dX2_isApart_51 gd11 ?_
        refine lv_topi (fun x7_12 ex7_12 => ?_)
        have h := h x7_12 ex7_12
        refine lv_istore (lv' := [(7, .int x7_12), (6, .int r9), (5, .int x5_5), (0, .ref (ad 0)), (1, .int x1), (2, .int x2), (3, .int x3), (4, .int x4)]) hx hb dX2_isApart_52 hl (by decide) rfl (fun ls hl => ?_)
        refine lv_iload hx hb dX2_isApart_54 (lv_at hl 0 rfl) ?_
        refine lv_iload hx hb dX2_isApart_56 (lv_at hl 2 rfl) ?_
        refine lv_icmp_lt (tgt := 75) hx hb dX2_isApart_58 (by decide) (fun c13 => ?_) (fun c13 => ?_)
        · have h := h.1 c13
          refine lv_iconst (v := 0) hx hb dX2_isApart_75 (by decide) ?_
          refine lv_istore_n (lv' := [(3, .int 0), (7, .int x7_12), (6, .int r9), (5, .int x5_5), (0, .ref (ad 0)), (1, .int x1), (2, .int x2), (4, .int x4)]) hx hb dX2_isApart_76 rfl hl (by decide) rfl (fun ls hl => ?_)
          obtain ⟨x4_14, ex4_14⟩ : ∃ y : Int32, y = x4 + 1 := ⟨_, rfl⟩
          have h := h x4_14 ex4_14
          refine lv_iinc (v := x4_14) (lv' := [(4, .int x4_14), (3, .int 0), (7, .int x7_12), (6, .int r9), (5, .int x5_5), (0, .ref (ad 0)), (1, .int x1), (2, .int x2)]) hx hb dX2_isApart_77 hl (k := 7) rfl (by rw [ex4_14]; rfl) (by decide) rfl (fun ls hl => ?_)
          refine lv_goto (tgt := 5) hx hb dX2_isApart_80 (by decide) ?_
          exact hK5 (u10, x1, x2, 0, x4_14) h H locs ls hP hS (lv_sub hl [5, 6, 7, 1, 0] rfl)
        · have h := h.2 c13
          refine lv_iload hx hb dX2_isApart_61 (lv_at hl 1 rfl) ?_
          refine lv_iload hx hb dX2_isApart_63 (lv_at hl 0 rfl) ?_
          refine lv_isub hx hb dX2_isApart_65 ?_
          refine lv_iload hx hb dX2_isApart_66 (lv_at hl 2 rfl) ?_
          refine lv_icmp_lt (tgt := 75) hx hb dX2_isApart_68 (by decide) (fun c15 => ?_) (fun c15 => ?_)
          · have h := h.1 c15
            refine lv_iconst (v := 0) hx hb dX2_isApart_75 (by decide) ?_
            refine lv_istore_n (lv' := [(3, .int 0), (7, .int x7_12), (6, .int r9), (5, .int x5_5), (0, .ref (ad 0)), (1, .int x1), (2, .int x2), (4, .int x4)]) hx hb dX2_isApart_76 rfl hl (by decide) rfl (fun ls hl => ?_)
            obtain ⟨x4_16, ex4_16⟩ : ∃ y : Int32, y = x4 + 1 := ⟨_, rfl⟩
            have h := h x4_16 ex4_16
            refine lv_iinc (v := x4_16) (lv' := [(4, .int x4_16), (3, .int 0), (7, .int x7_12), (6, .int r9), (5, .int x5_5), (0, .ref (ad 0)), (1, .int x1), (2, .int x2)]) hx hb dX2_isApart_77 hl (k := 7) rfl (by rw [ex4_16]; rfl) (by decide) rfl (fun ls hl => ?_)
            refine lv_goto (tgt := 5) hx hb dX2_isApart_80 (by decide) ?_
            exact hK5 (u10, x1, x2, 0, x4_16) h H locs ls hP hS (lv_sub hl [5, 6, 7, 1, 0] rfl)
          · have h := h.2 c15
            refine lv_iconst (v := 1) hx hb dX2_isApart_71 (by decide) ?_
            refine lv_goto (tgt := 76) hx hb dX2_isApart_72 (by decide) ?_
            refine lv_istore_n (lv' := [(3, .int 1), (7, .int x7_12), (6, .int r9), (5, .int x5_5), (0, .ref (ad 0)), (1, .int x1), (2, .int x2), (4, .int x4)]) hx hb dX2_isApart_76 rfl hl (by decide) rfl (fun ls hl => ?_)
            obtain ⟨x4_17, ex4_17⟩ : ∃ y : Int32, y = x4 + 1 := ⟨_, rfl⟩
            have h := h x4_17 ex4_17
            refine lv_iinc (v := x4_17) (lv' := [(4, .int x4_17), (3, .int 1), (7, .int x7_12), (6, .int r9), (5, .int x5_5), (0, .ref (ad 0)), (1, .int x1), (2, .int x2)]) hx hb dX2_isApart_77 hl (k := 7) rfl (by rw [ex4_17]; rfl) (by decide) rfl (fun ls hl => ?_)
            refine lv_goto (tgt := 5) hx hb dX2_isApart_80 (by decide) ?_
            exact hK5 (u10, x1, x2, 1, x4_17) h H locs ls hP hS (lv_sub hl [5, 6, 7, 1, 0] rfl)
set_option maxHeartbeats 4000000 in
set_option maxRecDepth 100000 in
theorem wk_X2_isApart_0 {p : Program} {l : Launch} {e : Env} {s : State} {m : MethodId} {args : Array Value} {below : List Frame} {meth : Method} {c : Code} {D : va_G} {cc : Nat → ClassId} {ad : Nat → Nat} {A : Nat → Prop} {Post : Int32 → MS → Prop} {g : CS} (C0 : Cx p s m args meth c cX2_isApart 8 (some .boolean) RX2 wsX2_isApart D cc A) (hd : DA 13 ad A) (σ : MS) (x1 : Int32) (x2 : Int32) (h : wp_X2_isApart g Post σ x1 x2) : At_ p l e { frames := 4, cells := 0, slots := 0, locals := 100 } s m args below meth c (Qi_ below D (MW cc ad) A args s Post) D A (MW cc ad σ) 8 0 [(0, .ref (ad 0)), (1, .int x1), (2, .int x2)] [] := by
  obtain ⟨hx, hb, hml, hr, hown, hts, hlocks, hK, hA, hX⟩ := id C0
  have hin := hin_X2_isApart
  intro H locs ls hP hS hl
  unfold wp_X2_isApart at h
  refine lv_iconst (v := 1) hx hb dX2_isApart_0 (by decide) ?_
  refine lv_istore_n (lv' := [(3, .int 1), (0, .ref (ad 0)), (1, .int x1), (2, .int x2)]) hx hb dX2_isApart_1 rfl hl (by decide) rfl (fun ls hl => ?_)
  refine lv_iconst (v := 0) hx hb dX2_isApart_2 (by decide) ?_
  refine lv_istore (lv' := [(4, .int 0), (3, .int 1), (0, .ref (ad 0)), (1, .int x1), (2, .int x2)]) hx hb dX2_isApart_3 hl (by decide) rfl (fun ls hl => ?_)
  exact lp_at (Wt := fun a => At_ p l e { frames := 4, cells := 0, slots := 0, locals := 100 } s m args below meth c (Qi_ below D (MW cc ad) A args s Post) D A (MW cc ad (a.1)) 8 5 [(0, .ref (ad 0)), (1, .int (a.2.1)), (2, .int (a.2.2.1)), (3, .int (a.2.2.2.1)), (4, .int (a.2.2.2.2))] []) (fun K hK a h => wk_X2_isApart_5 C0 hd hK a.1 a.2.1 a.2.2.1 a.2.2.2.1 a.2.2.2.2 h) h H locs ls hP hS (lv_sub hl [2, 3, 4, 1, 0] rfl)
theorem ct_X2_isApart (l : Launch) (D : va_G) (cc : Nat → ClassId) (ad : Nat → Nat) (hd : DA 13 ad (fun _ => True)) (g : CS) (σ : MS) (x1 : Int32) (x2 : Int32) (hp : pr_X2_isApart g σ x1 x2) : Ctr l yX2_isApart wsX2_isApart { frames := 4, cells := 0, slots := 0, locals := 100 } D cc (MW cc ad) 13 ad σ [.ref (ad 0), .int x1, .int x2] (po_X2_isApart g σ x1 x2) :=
  ctr_i (rt := (some .boolean)) (by decide +kernel) rfl hd (Nat.le_of_ble_eq_true rfl) (fun p e s m below meth c A C0 hd => wk_X2_isApart_0 C0 hd σ x1 x2 (pu_X2_isApart g σ x1 x2 hp))
theorem hin_X2_apart : ∀ w ∈ u_ws RX2 TX2 21, w ∈ wsX2_apart := fun w h => List.mem_cons_of_mem _ (List.mem_append_right _ h)
set_option maxHeartbeats 4000000 in
set_option maxRecDepth 100000 in
theorem wk_X2_apart_29 {p : Program} {l : Launch} {e : Env} {s : State} {m : MethodId} {args : Array Value} {below : List Frame} {meth : Method} {c : Code} {D : va_G} {cc : Nat → ClassId} {ad : Nat → Nat} {A : Nat → Prop} {Post : Int32 → MS → Prop} {g : CS} (C0 : Cx p s m args meth c cX2_apart 3 (some .int) RX2 wsX2_apart D cc A) (hd : DA 13 ad A) {K29 : (MS × Int32 × Int32) → Prop} (hK29 : ∀ a, K29 a → At_ p l e { frames := 5, cells := 0, slots := 0, locals := 127 } s m args below meth c (Qi_ below D (MW cc ad) A args s Post) D A (MW cc ad (a.1)) 3 29 [(0, .ref (ad 0)), (1, .int (a.2.1)), (2, .int (a.2.2))] []) (σ : MS) (x1 : Int32) (x2 : Int32) (h : wp_X2_apart_29 g K29 Post σ x1 x2) : At_ p l e { frames := 5, cells := 0, slots := 0, locals := 127 } s m args below meth c (Qi_ below D (MW cc ad) A args s Post) D A (MW cc ad σ) 3 29 [(0, .ref (ad 0)), (1, .int x1), (2, .int x2)] [] := by
  obtain ⟨hx, hb, hml, hr, hown, hts, hlocks, hK, hA, hX⟩ := id C0
  have hin := hin_X2_apart
  intro H locs ls hP hS hl
  unfold wp_X2_apart_29 at h
  refine lv_iload_n hx hb dX2_apart_29 rfl (lv_at hl 2 rfl) ?_
  refine lv_sipush (v := 10000) hx hb dX2_apart_30 (by decide) ?_
  refine lv_icmp_ge (tgt := 53) hx hb dX2_apart_33 (by decide) (fun c1 => ?_) (fun c1 => ?_)
  · have h := h.1 c1
    refine lv_bipush (v := (-9)) hx hb dX2_apart_53 (by decide) ?_
    exact ret_i (Wd := MW cc ad) (u := σ) C0 h hP hS dX2_apart_55
  · have h := h.2 c1
    refine lv_aload_n hx hb dX2_apart_36 rfl (lv_at hl 0 rfl) ?_
    refine lv_iload_n hx hb dX2_apart_37 rfl (lv_at hl 1 rfl) ?_
    refine lv_iload_n hx hb dX2_apart_38 rfl (lv_at hl 2 rfl) ?_
    obtain ⟨gp2, h⟩ := h
    refine call_v (Wd := MW cc ad) (σ := σ) C0 hd lens_id (As := [.int x1, .int x2]) (rest := []) (ct_X2_isApart l D cc ad ⟨hd.1, fun _ _ => trivial⟩ g σ x1 x2 gp2) (cwV 2 hts gX2_apart_X2_isApart rfl rfl rfl (by decide +kernel) ⟨Nat.le_of_ble_eq_true rfl, Nat.le_of_ble_eq_true rfl⟩) (va_recv hK hP (ci := 2) (q0 := 0) rfl rfl) hP hS rfl hl.1 rfl (by simp [Value.category]) dX2_apart_39 (fun r3 u4 hp H locs hP hS => ?_)
    have h := h r3 u4 hp
    have hP : va_P D vwCl (MW cc ad u4) H := hP
    refine lv_if_eq (tgt := 47) hx hb dX2_apart_42 (by decide) (fun c5 => ?_) (fun c5 => ?_)
    · have h := h.1 c5
      obtain ⟨x2_6, ex2_6⟩ : ∃ y : Int32, y = x2 + 1 := ⟨_, rfl⟩
      have h := h x2_6 ex2_6
      refine lv_iinc (v := x2_6) (lv' := [(2, .int x2_6), (0, .ref (ad 0)), (1, .int x1)]) hx hb dX2_apart_47 hl (k := 2) rfl (by rw [ex2_6]; rfl) (by decide) rfl (fun ls hl => ?_)
      refine lv_goto (tgt := 29) hx hb dX2_apart_50 (by decide) ?_
      exact hK29 (u4, x1, x2_6) h H locs ls hP hS (lv_sub hl [1, 2, 0] rfl)
    · have h := h.2 c5
      refine lv_iload_n hx hb dX2_apart_45 rfl (lv_at hl 2 rfl) ?_
      exact ret_i (Wd := MW cc ad) (u := u4) C0 h hP hS dX2_apart_46
set_option maxHeartbeats 4000000 in
set_option maxRecDepth 100000 in
theorem wk_X2_apart_0 {p : Program} {l : Launch} {e : Env} {s : State} {m : MethodId} {args : Array Value} {below : List Frame} {meth : Method} {c : Code} {D : va_G} {cc : Nat → ClassId} {ad : Nat → Nat} {A : Nat → Prop} {Post : Int32 → MS → Prop} {g : CS} (C0 : Cx p s m args meth c cX2_apart 3 (some .int) RX2 wsX2_apart D cc A) (hd : DA 13 ad A) (σ : MS) (x1 : Int32) (h : wp_X2_apart g Post σ x1) : At_ p l e { frames := 5, cells := 0, slots := 0, locals := 127 } s m args below meth c (Qi_ below D (MW cc ad) A args s Post) D A (MW cc ad σ) 3 0 [(0, .ref (ad 0)), (1, .int x1)] [] := by
  obtain ⟨hx, hb, hml, hr, hown, hts, hlocks, hK, hA, hX⟩ := id C0
  have hin := hin_X2_apart
  intro H locs ls hP hS hl
  unfold wp_X2_apart at h
  refine lv_aload_n hx hb dX2_apart_0 rfl (lv_at hl 0 rfl) ?_
  refine lv_iconst (v := 0) hx hb dX2_apart_1 (by decide) ?_
  refine va_put (D := D) (ci := 2) (v := .int 0) (ty := .int) (C := RX2) (T := TX2) (N := 21) hx hb hts hin tyX2 tyX2_ok nmX2 hown hK hP (mD hd) hS 0 rfl rfl 0 (by decide) (hts (.fieldLink RX2 59 "ClassSheetsModel" "thrown" "I") (List.mem_of_getElem? (i := 1) rfl)) (fun _ h9 => h9) rfl (by decide +kernel) rfl rfl (Nat.le_of_ble_eq_true rfl) dX2_apart_2 (fun H locs hP _ hS => ?_)
  have hP : va_P D vwCl (MW cc ad (ms_s_th σ 0)) H := hP
  refine lv_iload_n hx hb dX2_apart_5 rfl (lv_at hl 1 rfl) ?_
  refine call_s (Wd := MW cc ad) (σ := (ms_s_th σ 0)) C0 hd (lens_un (adc := ad)) (As := [.int x1]) (rest := []) (ct_X2_noNumber l D cc ad da0 x1) (va_cwS 1 hts gX2_apart_X2_noNumber rfl rfl rfl (by decide +kernel) ⟨Nat.le_of_ble_eq_true rfl, Nat.le_of_ble_eq_true rfl⟩) hP hS rfl hl.1 rfl (by simp [Value.category]) dX2_apart_6 (fun r1 u hp H locs hP hS => ?_)
  obtain ⟨hp1, hp2⟩ := hp
  subst hp1
  have hP : va_P D vwCl (MW cc ad (ms_s_th σ 0)) H := hP
  refine lv_if_eq (tgt := 15) hx hb dX2_apart_9 (by decide) (fun c2 => ?_) (fun c2 => ?_)
  · have h := h.1 c2
    refine lv_aload_n hx hb dX2_apart_15 rfl (lv_at hl 0 rfl) ?_
    obtain ⟨gp3, h⟩ := h
    refine call_v (Wd := MW cc ad) (σ := (ms_s_th σ 0)) C0 hd lens_id (As := []) (rest := []) (ct_X2_noSheet l D cc ad ⟨hd.1, fun _ _ => trivial⟩ g (ms_s_th σ 0) gp3) (cwV 0 hts gX2_apart_X2_noSheet rfl rfl rfl (by decide +kernel) ⟨Nat.le_of_ble_eq_true rfl, Nat.le_of_ble_eq_true rfl⟩) (va_recv hK hP (ci := 2) (q0 := 0) rfl rfl) hP hS rfl hl.1 rfl (by simp [Value.category]) dX2_apart_16 (fun r4 u5 hp H locs hP hS => ?_)
    have h := h r4 u5 hp
    have hP : va_P D vwCl (MW cc ad u5) H := hP
    refine lv_if_eq (tgt := 25) hx hb dX2_apart_19 (by decide) (fun c6 => ?_) (fun c6 => ?_)
    · have h := h.1 c6
      refine lv_iload_n hx hb dX2_apart_25 rfl (lv_at hl 1 rfl) ?_
      refine lv_iconst (v := 1) hx hb dX2_apart_26 (by decide) ?_
      refine lv_iadd hx hb dX2_apart_27 ?_
      refine lv_topi (fun x2_7 ex2_7 => ?_)
      have h := h x2_7 ex2_7
      refine lv_istore_n (lv' := [(2, .int x2_7), (0, .ref (ad 0)), (1, .int x1)]) hx hb dX2_apart_28 rfl hl (by decide) rfl (fun ls hl => ?_)
      exact lp_at (Wt := fun a => At_ p l e { frames := 5, cells := 0, slots := 0, locals := 127 } s m args below meth c (Qi_ below D (MW cc ad) A args s Post) D A (MW cc ad (a.1)) 3 29 [(0, .ref (ad 0)), (1, .int (a.2.1)), (2, .int (a.2.2))] []) (fun K hK a h => wk_X2_apart_29 C0 hd hK a.1 a.2.1 a.2.2 h) h H locs ls hP hS (lv_sub hl [1, 2, 0] rfl)
    · have h := h.2 c6
      refine lv_bipush (v := (-3)) hx hb dX2_apart_22 (by decide) ?_
      exact ret_i (Wd := MW cc ad) (u := u5) C0 h hP hS dX2_apart_24
  · have h := h.2 c2
    refine lv_bipush (v := (-2)) hx hb dX2_apart_12 (by decide) ?_
    exact ret_i (Wd := MW cc ad) (u := (ms_s_th σ 0)) C0 h hP hS dX2_apart_14
theorem ct_X2_apart (l : Launch) (D : va_G) (cc : Nat → ClassId) (ad : Nat → Nat) (hd : DA 13 ad (fun _ => True)) (g : CS) (σ : MS) (x1 : Int32) (hp : pr_X2_apart g σ x1) : Ctr l yX2_apart wsX2_apart { frames := 5, cells := 0, slots := 0, locals := 127 } D cc (MW cc ad) 13 ad σ [.ref (ad 0), .int x1] (po_X2_apart g σ x1) :=
  ctr_i (rt := (some .int)) (by decide +kernel) rfl hd (Nat.le_of_ble_eq_true rfl) (fun p e s m below meth c A C0 hd => wk_X2_apart_0 C0 hd σ x1 (pu_X2_apart g σ x1 hp))
theorem hin_X2_seats : ∀ w ∈ u_ws RX2 TX2 21, w ∈ wsX2_seats := fun w h => List.mem_cons_of_mem _ (List.mem_append_right _ h)
set_option maxHeartbeats 4000000 in
set_option maxRecDepth 100000 in
theorem wk_X2_seats_55 {p : Program} {l : Launch} {e : Env} {s : State} {m : MethodId} {args : Array Value} {below : List Frame} {meth : Method} {c : Code} {D : va_G} {cc : Nat → ClassId} {ad : Nat → Nat} {A : Nat → Prop} {Post : Int32 → MS → Prop} {g : CS} (C0 : Cx p s m args meth c cX2_seats 5 (some .int) RX2 wsX2_seats D cc A) (hd : DA 13 ad A) {K55 : (MS × Int32 × Int32) → Prop} (hK55 : ∀ a, K55 a → At_ p l e { frames := 1, cells := 0, slots := 0, locals := 25 } s m args below meth c (Qi_ below D (MW cc ad) A args s Post) D A (MW cc ad (a.1)) 5 55 [(0, .ref (ad 0)), (3, .int (a.2.1)), (4, .int (a.2.2))] []) (σ : MS) (x3 : Int32) (x4 : Int32) (h : wp_X2_seats_55 g K55 Post σ x3 x4) : At_ p l e { frames := 1, cells := 0, slots := 0, locals := 25 } s m args below meth c (Qi_ below D (MW cc ad) A args s Post) D A (MW cc ad σ) 5 55 [(0, .ref (ad 0)), (3, .int x3), (4, .int x4)] [] := by
  obtain ⟨hx, hb, hml, hr, hown, hts, hlocks, hK, hA, hX⟩ := id C0
  have hin := hin_X2_seats
  intro H locs ls hP hS hl
  unfold wp_X2_seats_55 at h
  refine lv_iload hx hb dX2_seats_55 (lv_at hl 2 rfl) ?_
  refine lv_sipush (v := 512) hx hb dX2_seats_57 (by decide) ?_
  refine lv_icmp_ge (tgt := 77) hx hb dX2_seats_60 (by decide) (fun c1 => ?_) (fun c1 => ?_)
  · have h := h.1 c1
    refine lv_iload_n hx hb dX2_seats_77 rfl (lv_at hl 1 rfl) ?_
    exact ret_i (Wd := MW cc ad) (u := σ) C0 h hP hS dX2_seats_78
  · have h := h.2 c1
    refine lv_aload_n hx hb dX2_seats_63 rfl (lv_at hl 0 rfl) ?_
    refine va_get (D := D) (ci := 2) (v := .ref (ad 12)) (C := RX2) (T := TX2) (N := 21) hx hb hts hin hown hK hP 0 rfl rfl 18 (by decide) (hts (.fieldLink RX2 56 "ClassSheetsModel" "missed" "[I") (List.mem_of_getElem? (i := 5) rfl)) (fun _ h9 => h9) rfl dX2_seats_64 ?_
    refine lv_iload hx hb dX2_seats_67 (lv_at hl 2 rfl) ?_
    refine lv_iconst (v := 0) hx hb dX2_seats_69 (by decide) ?_
    obtain ⟨gi2, h⟩ := h
    refine va_iast (D := D) (f := ms_mi σ) (x := 0) hx hb hK hP (mD hd) hS 12 0 rfl rfl gi2 dX2_seats_70 (fun H locs hP _ hS => ?_)
    have hP : va_P D vwCl (MW cc ad (ms_s_mi σ (upd (ms_mi σ) x4.toNatClampNeg 0))) H := hP
    obtain ⟨x4_3, ex4_3⟩ : ∃ y : Int32, y = x4 + 1 := ⟨_, rfl⟩
    have h := h x4_3 ex4_3
    refine lv_iinc (v := x4_3) (lv' := [(4, .int x4_3), (0, .ref (ad 0)), (3, .int x3)]) hx hb dX2_seats_71 hl (k := 2) rfl (by rw [ex4_3]; rfl) (by decide) rfl (fun ls hl => ?_)
    refine lv_goto (tgt := 55) hx hb dX2_seats_74 (by decide) ?_
    exact hK55 ((ms_s_mi σ (upd (ms_mi σ) x4.toNatClampNeg 0)), x3, x4_3) h H locs ls hP hS (lv_sub hl [1, 2, 0] rfl)
set_option maxHeartbeats 4000000 in
set_option maxRecDepth 100000 in
theorem wk_X2_seats_0 {p : Program} {l : Launch} {e : Env} {s : State} {m : MethodId} {args : Array Value} {below : List Frame} {meth : Method} {c : Code} {D : va_G} {cc : Nat → ClassId} {ad : Nat → Nat} {A : Nat → Prop} {Post : Int32 → MS → Prop} {g : CS} (C0 : Cx p s m args meth c cX2_seats 5 (some .int) RX2 wsX2_seats D cc A) (hd : DA 13 ad A) (σ : MS) (x1 : Int32) (x2 : Int32) (h : wp_X2_seats g Post σ x1 x2) : At_ p l e { frames := 1, cells := 0, slots := 0, locals := 25 } s m args below meth c (Qi_ below D (MW cc ad) A args s Post) D A (MW cc ad σ) 5 0 [(0, .ref (ad 0)), (1, .int x1), (2, .int x2)] [] := by
  obtain ⟨hx, hb, hml, hr, hown, hts, hlocks, hK, hA, hX⟩ := id C0
  have hin := hin_X2_seats
  intro H locs ls hP hS hl
  unfold wp_X2_seats at h
  refine lv_aload_n hx hb dX2_seats_0 rfl (lv_at hl 0 rfl) ?_
  refine lv_iconst (v := 0) hx hb dX2_seats_1 (by decide) ?_
  refine va_put (D := D) (ci := 2) (v := .int 0) (ty := .int) (C := RX2) (T := TX2) (N := 21) hx hb hts hin tyX2 tyX2_ok nmX2 hown hK hP (mD hd) hS 0 rfl rfl 0 (by decide) (hts (.fieldLink RX2 59 "ClassSheetsModel" "thrown" "I") (List.mem_of_getElem? (i := 1) rfl)) (fun _ h9 => h9) rfl (by decide +kernel) rfl rfl (Nat.le_of_ble_eq_true rfl) dX2_seats_2 (fun H locs hP _ hS => ?_)
  have hP : va_P D vwCl (MW cc ad (ms_s_th σ 0)) H := hP
  refine lv_iload_n hx hb dX2_seats_5 rfl (lv_at hl 1 rfl) ?_
  refine lv_i2l (v := x1.toInt64) hx hb dX2_seats_6 rfl ?_
  refine lv_lconst (v := 1) hx hb dX2_seats_7 (by decide) ?_
  refine lv_ldc2 (v := 8) hx hb hown (hts (.constantLong RX2 153 (8)) (List.mem_of_getElem? (i := 2) rfl)) dX2_seats_8 ?_
  refine call_s (Wd := MW cc ad) (σ := (ms_s_th σ 0)) C0 hd (lens_un (adc := ad)) (As := [.long (x1.toInt64), .long 1, .long 8]) (rest := []) (ct_X2_in l D cc ad da0 (x1.toInt64) 1 8) (va_cwS 3 hts gX2_seats_X2_in rfl rfl rfl (by decide +kernel) ⟨Nat.le_of_ble_eq_true rfl, Nat.le_of_ble_eq_true rfl⟩) hP hS rfl hl.1 rfl (by simp [Value.category]) dX2_seats_11 (fun r1 u hp H locs hP hS => ?_)
  obtain ⟨hp1, hp2⟩ := hp
  subst hp1
  have hP : va_P D vwCl (MW cc ad (ms_s_th σ 0)) H := hP
  refine lv_if_eq (tgt := 29) hx hb dX2_seats_14 (by decide) (fun c2 => ?_) (fun c2 => ?_)
  · have h := h.1 c2
    refine lv_bipush (v := (-2)) hx hb dX2_seats_29 (by decide) ?_
    exact ret_i (Wd := MW cc ad) (u := (ms_s_th σ 0)) C0 h hP hS dX2_seats_31
  · have h := h.2 c2
    refine lv_iload_n hx hb dX2_seats_17 rfl (lv_at hl 2 rfl) ?_
    refine lv_i2l (v := x2.toInt64) hx hb dX2_seats_18 rfl ?_
    refine lv_lconst (v := 1) hx hb dX2_seats_19 (by decide) ?_
    refine lv_ldc2 (v := 8) hx hb hown (hts (.constantLong RX2 153 (8)) (List.mem_of_getElem? (i := 2) rfl)) dX2_seats_20 ?_
    refine call_s (Wd := MW cc ad) (σ := (ms_s_th σ 0)) C0 hd (lens_un (adc := ad)) (As := [.long (x2.toInt64), .long 1, .long 8]) (rest := []) (ct_X2_in l D cc ad da0 (x2.toInt64) 1 8) (va_cwS 3 hts gX2_seats_X2_in rfl rfl rfl (by decide +kernel) ⟨Nat.le_of_ble_eq_true rfl, Nat.le_of_ble_eq_true rfl⟩) hP hS rfl hl.1 rfl (by simp [Value.category]) dX2_seats_23 (fun r3 u hp H locs hP hS => ?_)
    obtain ⟨hp1, hp2⟩ := hp
    subst hp1
    have hP : va_P D vwCl (MW cc ad (ms_s_th σ 0)) H := hP
    refine lv_if_ne (tgt := 32) hx hb dX2_seats_26 (by decide) (fun c4 => ?_) (fun c4 => ?_)
    · have h := h.1 c4
      refine lv_aload_n hx hb dX2_seats_32 rfl (lv_at hl 0 rfl) ?_
      refine va_get (D := D) (ci := 2) (v := .int (ms_ro (ms_s_th σ 0))) (C := RX2) (T := TX2) (N := 21) hx hb hts hin hown hK hP 0 rfl rfl 14 (by decide) (hts (.fieldLink RX2 47 "ClassSheetsModel" "rows" "I") (List.mem_of_getElem? (i := 3) rfl)) (fun _ h9 => h9) rfl dX2_seats_33 ?_
      refine lv_aload_n hx hb dX2_seats_36 rfl (lv_at hl 0 rfl) ?_
      refine va_get (D := D) (ci := 2) (v := .int (ms_co (ms_s_th σ 0))) (C := RX2) (T := TX2) (N := 21) hx hb hts hin hown hK hP 0 rfl rfl 15 (by decide) (hts (.fieldLink RX2 50 "ClassSheetsModel" "columns" "I") (List.mem_of_getElem? (i := 4) rfl)) (fun _ h9 => h9) rfl dX2_seats_37 ?_
      refine lv_imul hx hb dX2_seats_40 ?_
      refine lv_topi (fun x3_5 ex3_5 => ?_)
      have h := h x3_5 ex3_5
      refine lv_istore_n (lv' := [(3, .int x3_5), (0, .ref (ad 0)), (1, .int x1), (2, .int x2)]) hx hb dX2_seats_41 rfl hl (by decide) rfl (fun ls hl => ?_)
      refine lv_aload_n hx hb dX2_seats_42 rfl (lv_at hl 1 rfl) ?_
      refine lv_iload_n hx hb dX2_seats_43 rfl (lv_at hl 2 rfl) ?_
      refine va_put (D := D) (ci := 2) (v := .int x1) (ty := .int) (C := RX2) (T := TX2) (N := 21) hx hb hts hin tyX2 tyX2_ok nmX2 hown hK hP (mD hd) hS 0 rfl rfl 14 (by decide) (hts (.fieldLink RX2 47 "ClassSheetsModel" "rows" "I") (List.mem_of_getElem? (i := 3) rfl)) (fun _ h9 => h9) rfl (by decide +kernel) rfl rfl (Nat.le_of_ble_eq_true rfl) dX2_seats_44 (fun H locs hP _ hS => ?_)
      have hP : va_P D vwCl (MW cc ad (ms_s_ro (ms_s_th σ 0) x1)) H := hP
      refine lv_aload_n hx hb dX2_seats_47 rfl (lv_at hl 1 rfl) ?_
      refine lv_iload_n hx hb dX2_seats_48 rfl (lv_at hl 3 rfl) ?_
      refine va_put (D := D) (ci := 2) (v := .int x2) (ty := .int) (C := RX2) (T := TX2) (N := 21) hx hb hts hin tyX2 tyX2_ok nmX2 hown hK hP (mD hd) hS 0 rfl rfl 15 (by decide) (hts (.fieldLink RX2 50 "ClassSheetsModel" "columns" "I") (List.mem_of_getElem? (i := 4) rfl)) (fun _ h9 => h9) rfl (by decide +kernel) rfl rfl (Nat.le_of_ble_eq_true rfl) dX2_seats_49 (fun H locs hP _ hS => ?_)
      have hP : va_P D vwCl (MW cc ad (ms_s_co (ms_s_ro (ms_s_th σ 0) x1) x2)) H := hP
      refine lv_iconst (v := 0) hx hb dX2_seats_52 (by decide) ?_
      refine lv_istore (lv' := [(4, .int 0), (3, .int x3_5), (0, .ref (ad 0)), (1, .int x1), (2, .int x2)]) hx hb dX2_seats_53 hl (by decide) rfl (fun ls hl => ?_)
      exact lp_at (Wt := fun a => At_ p l e { frames := 1, cells := 0, slots := 0, locals := 25 } s m args below meth c (Qi_ below D (MW cc ad) A args s Post) D A (MW cc ad (a.1)) 5 55 [(0, .ref (ad 0)), (3, .int (a.2.1)), (4, .int (a.2.2))] []) (fun K hK a h => wk_X2_seats_55 C0 hd hK a.1 a.2.1 a.2.2 h) h H locs ls hP hS (lv_sub hl [2, 1, 0] rfl)
    · have h := h.2 c4
      refine lv_bipush (v := (-2)) hx hb dX2_seats_29 (by decide) ?_
      exact ret_i (Wd := MW cc ad) (u := (ms_s_th σ 0)) C0 h hP hS dX2_seats_31
theorem ct_X2_seats (l : Launch) (D : va_G) (cc : Nat → ClassId) (ad : Nat → Nat) (hd : DA 13 ad (fun _ => True)) (g : CS) (σ : MS) (x1 : Int32) (x2 : Int32) (hp : pr_X2_seats g σ x1 x2) : Ctr l yX2_seats wsX2_seats { frames := 1, cells := 0, slots := 0, locals := 25 } D cc (MW cc ad) 13 ad σ [.ref (ad 0), .int x1, .int x2] (po_X2_seats g σ x1 x2) :=
  ctr_i (rt := (some .int)) (by decide +kernel) rfl hd (Nat.le_of_ble_eq_true rfl) (fun p e s m below meth c A C0 hd => wk_X2_seats_0 C0 hd σ x1 x2 (pu_X2_seats g σ x1 x2 hp))
theorem hin_X2_isNear : ∀ w ∈ u_ws RX2 TX2 21, w ∈ wsX2_isNear := fun w h => List.mem_cons_of_mem _ (List.mem_append_right _ h)
set_option maxHeartbeats 4000000 in
set_option maxRecDepth 100000 in
theorem wk_X2_isNear_80 {p : Program} {l : Launch} {e : Env} {s : State} {m : MethodId} {args : Array Value} {below : List Frame} {meth : Method} {c : Code} {D : va_G} {cc : Nat → ClassId} {ad : Nat → Nat} {A : Nat → Prop} {Post : Int32 → MS → Prop} {g : CS} (C0 : Cx p s m args meth c cX2_isNear 8 (some .boolean) RX2 wsX2_isNear D cc A) (hd : DA 13 ad A) {K8 : (MS × Int32 × Int32 × Int32 × Int32 × Int32) → Prop} (hK8 : ∀ a, K8 a → At_ p l e { frames := 1, cells := 0, slots := 0, locals := 25 } s m args below meth c (Qi_ below D (MW cc ad) A args s Post) D A (MW cc ad (a.1)) 8 8 [(0, .ref (ad 0)), (1, .int (a.2.1)), (2, .int (a.2.2.1)), (3, .int (a.2.2.2.1)), (4, .int (a.2.2.2.2.1)), (5, .int (a.2.2.2.2.2))] []) {K21 : (MS × Int32 × Int32 × Int32 × Int32 × Int32 × Int32) → Prop} (hK21 : ∀ a, K21 a → At_ p l e { frames := 1, cells := 0, slots := 0, locals := 25 } s m args below meth c (Qi_ below D (MW cc ad) A args s Post) D A (MW cc ad (a.1)) 8 21 [(0, .ref (ad 0)), (1, .int (a.2.1)), (2, .int (a.2.2.1)), (3, .int (a.2.2.2.1)), (4, .int (a.2.2.2.2.1)), (5, .int (a.2.2.2.2.2.1)), (6, .int (a.2.2.2.2.2.2))] []) (σ : MS) (x1 : Int32) (x2 : Int32) (x3 : Int32) (x4 : Int32) (x5 : Int32) (x6 : Int32) (s0 : Int32) (h : wp_X2_isNear_80 g K8 K21 Post σ x1 x2 x3 x4 x5 x6 s0) : At_ p l e { frames := 1, cells := 0, slots := 0, locals := 25 } s m args below meth c (Qi_ below D (MW cc ad) A args s Post) D A (MW cc ad σ) 8 80 [(0, .ref (ad 0)), (1, .int x1), (2, .int x2), (3, .int x3), (4, .int x4), (5, .int x5), (6, .int x6)] [.int s0] := by
  obtain ⟨hx, hb, hml, hr, hown, hts, hlocks, hK, hA, hX⟩ := id C0
  have hin := hin_X2_isNear
  intro H locs ls hP hS hl
  unfold wp_X2_isNear_80 at h
  refine lv_istore (lv' := [(7, .int s0), (0, .ref (ad 0)), (1, .int x1), (2, .int x2), (3, .int x3), (4, .int x4), (5, .int x5), (6, .int x6)]) hx hb dX2_isNear_80 hl (by decide) rfl (fun ls hl => ?_)
  refine lv_iload hx hb dX2_isNear_82 (lv_at hl 5 rfl) ?_
  refine lv_if_ne (tgt := 109) hx hb dX2_isNear_84 (by decide) (fun c1 => ?_) (fun c1 => ?_)
  · have h := h.1 c1
    refine lv_iconst (v := 1) hx hb dX2_isNear_109 (by decide) ?_
    refine lv_goto (tgt := 114) hx hb dX2_isNear_110 (by decide) ?_
    refine lv_istore (lv' := [(4, .int 1), (7, .int s0), (0, .ref (ad 0)), (1, .int x1), (2, .int x2), (3, .int x3), (5, .int x5), (6, .int x6)]) hx hb dX2_isNear_114 hl (by decide) rfl (fun ls hl => ?_)
    obtain ⟨x6_2, ex6_2⟩ : ∃ y : Int32, y = x6 + 1 := ⟨_, rfl⟩
    have h := h x6_2 ex6_2
    refine lv_iinc (v := x6_2) (lv' := [(6, .int x6_2), (4, .int 1), (7, .int s0), (0, .ref (ad 0)), (1, .int x1), (2, .int x2), (3, .int x3), (5, .int x5)]) hx hb dX2_isNear_116 hl (k := 7) rfl (by rw [ex6_2]; rfl) (by decide) rfl (fun ls hl => ?_)
    refine lv_goto (tgt := 21) hx hb dX2_isNear_119 (by decide) ?_
    exact hK21 (σ, x1, x2, x3, 1, x5, x6_2) h H locs ls hP hS (lv_sub hl [3, 4, 5, 6, 1, 7, 0] rfl)
  · have h := h.2 c1
    refine lv_iload hx hb dX2_isNear_87 (lv_at hl 0 rfl) ?_
    refine lv_if_eq (tgt := 113) hx hb dX2_isNear_89 (by decide) (fun c3 => ?_) (fun c3 => ?_)
    · have h := h.1 c3
      refine lv_iconst (v := 0) hx hb dX2_isNear_113 (by decide) ?_
      refine lv_istore (lv' := [(4, .int 0), (7, .int s0), (0, .ref (ad 0)), (1, .int x1), (2, .int x2), (3, .int x3), (5, .int x5), (6, .int x6)]) hx hb dX2_isNear_114 hl (by decide) rfl (fun ls hl => ?_)
      obtain ⟨x6_4, ex6_4⟩ : ∃ y : Int32, y = x6 + 1 := ⟨_, rfl⟩
      have h := h x6_4 ex6_4
      refine lv_iinc (v := x6_4) (lv' := [(6, .int x6_4), (4, .int 0), (7, .int s0), (0, .ref (ad 0)), (1, .int x1), (2, .int x2), (3, .int x3), (5, .int x5)]) hx hb dX2_isNear_116 hl (k := 7) rfl (by rw [ex6_4]; rfl) (by decide) rfl (fun ls hl => ?_)
      refine lv_goto (tgt := 21) hx hb dX2_isNear_119 (by decide) ?_
      exact hK21 (σ, x1, x2, x3, 0, x5, x6_4) h H locs ls hP hS (lv_sub hl [3, 4, 5, 6, 1, 7, 0] rfl)
    · have h := h.2 c3
      refine lv_aload_n hx hb dX2_isNear_92 rfl (lv_at hl 1 rfl) ?_
      refine va_get (D := D) (ci := 2) (v := .ref (ad 11)) (C := RX2) (T := TX2) (N := 21) hx hb hts hin hown hK hP 0 rfl rfl 17 (by decide) (hts (.fieldLink RX2 53 "ClassSheetsModel" "number" "[I") (List.mem_of_getElem? (i := 3) rfl)) (fun _ h9 => h9) rfl dX2_isNear_93 ?_
      refine lv_bipush (v := 8) hx hb dX2_isNear_96 (by decide) ?_
      refine lv_iload hx hb dX2_isNear_98 (lv_at hl 6 rfl) ?_
      refine lv_imul hx hb dX2_isNear_100 ?_
      refine lv_iload hx hb dX2_isNear_101 (lv_at hl 7 rfl) ?_
      refine lv_iadd hx hb dX2_isNear_103 ?_
      obtain ⟨gi5, h⟩ := h
      refine va_iald (D := D) (f := ms_nu σ) hx hb hK hP 11 0 rfl rfl gi5 dX2_isNear_104 ?_
      refine lv_iload_n hx hb dX2_isNear_105 rfl (lv_at hl 4 rfl) ?_
      refine lv_icmp_ne (tgt := 113) hx hb dX2_isNear_106 (by decide) (fun c6 => ?_) (fun c6 => ?_)
      · have h := h.1 c6
        refine lv_iconst (v := 0) hx hb dX2_isNear_113 (by decide) ?_
        refine lv_istore (lv' := [(4, .int 0), (7, .int s0), (0, .ref (ad 0)), (1, .int x1), (2, .int x2), (3, .int x3), (5, .int x5), (6, .int x6)]) hx hb dX2_isNear_114 hl (by decide) rfl (fun ls hl => ?_)
        obtain ⟨x6_7, ex6_7⟩ : ∃ y : Int32, y = x6 + 1 := ⟨_, rfl⟩
        have h := h x6_7 ex6_7
        refine lv_iinc (v := x6_7) (lv' := [(6, .int x6_7), (4, .int 0), (7, .int s0), (0, .ref (ad 0)), (1, .int x1), (2, .int x2), (3, .int x3), (5, .int x5)]) hx hb dX2_isNear_116 hl (k := 7) rfl (by rw [ex6_7]; rfl) (by decide) rfl (fun ls hl => ?_)
        refine lv_goto (tgt := 21) hx hb dX2_isNear_119 (by decide) ?_
        exact hK21 (σ, x1, x2, x3, 0, x5, x6_7) h H locs ls hP hS (lv_sub hl [3, 4, 5, 6, 1, 7, 0] rfl)
      · have h := h.2 c6
        refine lv_iconst (v := 1) hx hb dX2_isNear_109 (by decide) ?_
        refine lv_goto (tgt := 114) hx hb dX2_isNear_110 (by decide) ?_
        refine lv_istore (lv' := [(4, .int 1), (7, .int s0), (0, .ref (ad 0)), (1, .int x1), (2, .int x2), (3, .int x3), (5, .int x5), (6, .int x6)]) hx hb dX2_isNear_114 hl (by decide) rfl (fun ls hl => ?_)
        obtain ⟨x6_8, ex6_8⟩ : ∃ y : Int32, y = x6 + 1 := ⟨_, rfl⟩
        have h := h x6_8 ex6_8
        refine lv_iinc (v := x6_8) (lv' := [(6, .int x6_8), (4, .int 1), (7, .int s0), (0, .ref (ad 0)), (1, .int x1), (2, .int x2), (3, .int x3), (5, .int x5)]) hx hb dX2_isNear_116 hl (k := 7) rfl (by rw [ex6_8]; rfl) (by decide) rfl (fun ls hl => ?_)
        refine lv_goto (tgt := 21) hx hb dX2_isNear_119 (by decide) ?_
        exact hK21 (σ, x1, x2, x3, 1, x5, x6_8) h H locs ls hP hS (lv_sub hl [3, 4, 5, 6, 1, 7, 0] rfl)
set_option maxHeartbeats 4000000 in
set_option maxRecDepth 100000 in
theorem wk_X2_isNear_79 {p : Program} {l : Launch} {e : Env} {s : State} {m : MethodId} {args : Array Value} {below : List Frame} {meth : Method} {c : Code} {D : va_G} {cc : Nat → ClassId} {ad : Nat → Nat} {A : Nat → Prop} {Post : Int32 → MS → Prop} {g : CS} (C0 : Cx p s m args meth c cX2_isNear 8 (some .boolean) RX2 wsX2_isNear D cc A) (hd : DA 13 ad A) {K8 : (MS × Int32 × Int32 × Int32 × Int32 × Int32) → Prop} (hK8 : ∀ a, K8 a → At_ p l e { frames := 1, cells := 0, slots := 0, locals := 25 } s m args below meth c (Qi_ below D (MW cc ad) A args s Post) D A (MW cc ad (a.1)) 8 8 [(0, .ref (ad 0)), (1, .int (a.2.1)), (2, .int (a.2.2.1)), (3, .int (a.2.2.2.1)), (4, .int (a.2.2.2.2.1)), (5, .int (a.2.2.2.2.2))] []) {K21 : (MS × Int32 × Int32 × Int32 × Int32 × Int32 × Int32) → Prop} (hK21 : ∀ a, K21 a → At_ p l e { frames := 1, cells := 0, slots := 0, locals := 25 } s m args below meth c (Qi_ below D (MW cc ad) A args s Post) D A (MW cc ad (a.1)) 8 21 [(0, .ref (ad 0)), (1, .int (a.2.1)), (2, .int (a.2.2.1)), (3, .int (a.2.2.2.1)), (4, .int (a.2.2.2.2.1)), (5, .int (a.2.2.2.2.2.1)), (6, .int (a.2.2.2.2.2.2))] []) (σ : MS) (x1 : Int32) (x2 : Int32) (x3 : Int32) (x4 : Int32) (x5 : Int32) (x6 : Int32) (h : wp_X2_isNear_79 g K8 K21 Post σ x1 x2 x3 x4 x5 x6) : At_ p l e { frames := 1, cells := 0, slots := 0, locals := 25 } s m args below meth c (Qi_ below D (MW cc ad) A args s Post) D A (MW cc ad σ) 8 79 [(0, .ref (ad 0)), (1, .int x1), (2, .int x2), (3, .int x3), (4, .int x4), (5, .int x5), (6, .int x6)] [] := by
  obtain ⟨hx, hb, hml, hr, hown, hts, hlocks, hK, hA, hX⟩ := id C0
  have hin := hin_X2_isNear
  intro H locs ls hP hS hl
  unfold wp_X2_isNear_79 at h
  refine lv_iconst (v := 0) hx hb dX2_isNear_79 (by decide) ?_
  exact wk_X2_isNear_80 C0 hd hK8 hK21 σ x1 x2 x3 x4 x5 x6 0 h H locs ls hP hS (lv_sub hl [0, 1, 2, 3, 4, 5, 6] rfl)
set_option maxHeartbeats 4000000 in
set_option maxRecDepth 100000 in
theorem wk_X2_isNear_75 {p : Program} {l : Launch} {e : Env} {s : State} {m : MethodId} {args : Array Value} {below : List Frame} {meth : Method} {c : Code} {D : va_G} {cc : Nat → ClassId} {ad : Nat → Nat} {A : Nat → Prop} {Post : Int32 → MS → Prop} {g : CS} (C0 : Cx p s m args meth c cX2_isNear 8 (some .boolean) RX2 wsX2_isNear D cc A) (hd : DA 13 ad A) {K8 : (MS × Int32 × Int32 × Int32 × Int32 × Int32) → Prop} (hK8 : ∀ a, K8 a → At_ p l e { frames := 1, cells := 0, slots := 0, locals := 25 } s m args below meth c (Qi_ below D (MW cc ad) A args s Post) D A (MW cc ad (a.1)) 8 8 [(0, .ref (ad 0)), (1, .int (a.2.1)), (2, .int (a.2.2.1)), (3, .int (a.2.2.2.1)), (4, .int (a.2.2.2.2.1)), (5, .int (a.2.2.2.2.2))] []) {K21 : (MS × Int32 × Int32 × Int32 × Int32 × Int32 × Int32) → Prop} (hK21 : ∀ a, K21 a → At_ p l e { frames := 1, cells := 0, slots := 0, locals := 25 } s m args below meth c (Qi_ below D (MW cc ad) A args s Post) D A (MW cc ad (a.1)) 8 21 [(0, .ref (ad 0)), (1, .int (a.2.1)), (2, .int (a.2.2.1)), (3, .int (a.2.2.2.1)), (4, .int (a.2.2.2.2.1)), (5, .int (a.2.2.2.2.2.1)), (6, .int (a.2.2.2.2.2.2))] []) (σ : MS) (x1 : Int32) (x2 : Int32) (x3 : Int32) (x4 : Int32) (x5 : Int32) (x6 : Int32) (h : wp_X2_isNear_75 g K8 K21 Post σ x1 x2 x3 x4 x5 x6) : At_ p l e { frames := 1, cells := 0, slots := 0, locals := 25 } s m args below meth c (Qi_ below D (MW cc ad) A args s Post) D A (MW cc ad σ) 8 75 [(0, .ref (ad 0)), (1, .int x1), (2, .int x2), (3, .int x3), (4, .int x4), (5, .int x5), (6, .int x6)] [] := by
  obtain ⟨hx, hb, hml, hr, hown, hts, hlocks, hK, hA, hX⟩ := id C0
  have hin := hin_X2_isNear
  intro H locs ls hP hS hl
  unfold wp_X2_isNear_75 at h
  refine lv_iconst (v := 1) hx hb dX2_isNear_75 (by decide) ?_
  refine lv_goto (tgt := 80) hx hb dX2_isNear_76 (by decide) ?_
  exact wk_X2_isNear_80 C0 hd hK8 hK21 σ x1 x2 x3 x4 x5 x6 1 h H locs ls hP hS (lv_sub hl [0, 1, 2, 3, 4, 5, 6] rfl)
set_option maxHeartbeats 4000000 in
set_option maxRecDepth 100000 in
theorem wk_X2_isNear_21 {p : Program} {l : Launch} {e : Env} {s : State} {m : MethodId} {args : Array Value} {below : List Frame} {meth : Method} {c : Code} {D : va_G} {cc : Nat → ClassId} {ad : Nat → Nat} {A : Nat → Prop} {Post : Int32 → MS → Prop} {g : CS} (C0 : Cx p s m args meth c cX2_isNear 8 (some .boolean) RX2 wsX2_isNear D cc A) (hd : DA 13 ad A) {K8 : (MS × Int32 × Int32 × Int32 × Int32 × Int32) → Prop} (hK8 : ∀ a, K8 a → At_ p l e { frames := 1, cells := 0, slots := 0, locals := 25 } s m args below meth c (Qi_ below D (MW cc ad) A args s Post) D A (MW cc ad (a.1)) 8 8 [(0, .ref (ad 0)), (1, .int (a.2.1)), (2, .int (a.2.2.1)), (3, .int (a.2.2.2.1)), (4, .int (a.2.2.2.2.1)), (5, .int (a.2.2.2.2.2))] []) {K21 : (MS × Int32 × Int32 × Int32 × Int32 × Int32 × Int32) → Prop} (hK21 : ∀ a, K21 a → At_ p l e { frames := 1, cells := 0, slots := 0, locals := 25 } s m args below meth c (Qi_ below D (MW cc ad) A args s Post) D A (MW cc ad (a.1)) 8 21 [(0, .ref (ad 0)), (1, .int (a.2.1)), (2, .int (a.2.2.1)), (3, .int (a.2.2.2.1)), (4, .int (a.2.2.2.2.1)), (5, .int (a.2.2.2.2.2.1)), (6, .int (a.2.2.2.2.2.2))] []) (σ : MS) (x1 : Int32) (x2 : Int32) (x3 : Int32) (x4 : Int32) (x5 : Int32) (x6 : Int32) (h : wp_X2_isNear_21 g K8 K21 Post σ x1 x2 x3 x4 x5 x6) : At_ p l e { frames := 1, cells := 0, slots := 0, locals := 25 } s m args below meth c (Qi_ below D (MW cc ad) A args s Post) D A (MW cc ad σ) 8 21 [(0, .ref (ad 0)), (1, .int x1), (2, .int x2), (3, .int x3), (4, .int x4), (5, .int x5), (6, .int x6)] [] := by
  obtain ⟨hx, hb, hml, hr, hown, hts, hlocks, hK, hA, hX⟩ := id C0
  have hin := hin_X2_isNear
  intro H locs ls hP hS hl
  unfold wp_X2_isNear_21 at h
  refine lv_iload hx hb dX2_isNear_21 (lv_at hl 6 rfl) ?_
  refine lv_iload_n hx hb dX2_isNear_23 rfl (lv_at hl 2 rfl) ?_
  refine lv_iconst (v := 1) hx hb dX2_isNear_24 (by decide) ?_
  refine lv_iadd hx hb dX2_isNear_25 ?_
  refine lv_icmp_gt (tgt := 122) hx hb dX2_isNear_26 (by decide) (fun c1 => ?_) (fun c1 => ?_)
  · have h := h.1 c1
    obtain ⟨x5_2, ex5_2⟩ : ∃ y : Int32, y = x5 + 1 := ⟨_, rfl⟩
    have h := h x5_2 ex5_2
    refine lv_iinc (v := x5_2) (lv' := [(5, .int x5_2), (0, .ref (ad 0)), (1, .int x1), (2, .int x2), (3, .int x3), (4, .int x4), (6, .int x6)]) hx hb dX2_isNear_122 hl (k := 5) rfl (by rw [ex5_2]; rfl) (by decide) rfl (fun ls hl => ?_)
    refine lv_goto (tgt := 8) hx hb dX2_isNear_125 (by decide) ?_
    exact hK8 (σ, x1, x2, x3, x4, x5_2) h H locs ls hP hS (lv_sub hl [1, 2, 3, 4, 5, 0] rfl)
  · have h := h.2 c1
    refine lv_iload hx hb dX2_isNear_29 (lv_at hl 5 rfl) ?_
    refine lv_i2l (v := x5.toInt64) hx hb dX2_isNear_31 rfl ?_
    refine lv_lconst (v := 0) hx hb dX2_isNear_32 (by decide) ?_
    refine lv_aload_n hx hb dX2_isNear_33 rfl (lv_at hl 0 rfl) ?_
    refine va_get (D := D) (ci := 2) (v := .int (ms_ro σ)) (C := RX2) (T := TX2) (N := 21) hx hb hts hin hown hK hP 0 rfl rfl 14 (by decide) (hts (.fieldLink RX2 47 "ClassSheetsModel" "rows" "I") (List.mem_of_getElem? (i := 1) rfl)) (fun _ h9 => h9) rfl dX2_isNear_34 ?_
    refine lv_iconst (v := 1) hx hb dX2_isNear_37 (by decide) ?_
    refine lv_isub hx hb dX2_isNear_38 ?_
    refine lv_i2l (v := ((ms_ro σ) - 1).toInt64) hx hb dX2_isNear_39 rfl ?_
    refine call_s (Wd := MW cc ad) (σ := σ) C0 hd (lens_un (adc := ad)) (As := [.long (x5.toInt64), .long 0, .long (((ms_ro σ) - 1).toInt64)]) (rest := []) (ct_X2_in l D cc ad da0 (x5.toInt64) 0 (((ms_ro σ) - 1).toInt64)) (va_cwS 3 hts gX2_isNear_X2_in rfl rfl rfl (by decide +kernel) ⟨Nat.le_of_ble_eq_true rfl, Nat.le_of_ble_eq_true rfl⟩) hP hS rfl hl.1 rfl (by simp [Value.category]) dX2_isNear_40 (fun r3 u hp H locs hP hS => ?_)
    obtain ⟨hp1, hp2⟩ := hp
    subst hp1
    have hP : va_P D vwCl (MW cc ad σ) H := hP
    refine lv_if_eq (tgt := 79) hx hb dX2_isNear_43 (by decide) (fun c4 => ?_) (fun c4 => ?_)
    · have h := h.1 c4
      exact wk_X2_isNear_79 C0 hd hK8 hK21 σ x1 x2 x3 x4 x5 x6 h H locs ls hP hS (lv_sub hl [0, 1, 2, 3, 4, 5, 6] rfl)
    · have h := h.2 c4
      refine lv_iload hx hb dX2_isNear_46 (lv_at hl 6 rfl) ?_
      refine lv_i2l (v := x6.toInt64) hx hb dX2_isNear_48 rfl ?_
      refine lv_lconst (v := 0) hx hb dX2_isNear_49 (by decide) ?_
      refine lv_aload_n hx hb dX2_isNear_50 rfl (lv_at hl 0 rfl) ?_
      refine va_get (D := D) (ci := 2) (v := .int (ms_co σ)) (C := RX2) (T := TX2) (N := 21) hx hb hts hin hown hK hP 0 rfl rfl 15 (by decide) (hts (.fieldLink RX2 50 "ClassSheetsModel" "columns" "I") (List.mem_of_getElem? (i := 2) rfl)) (fun _ h9 => h9) rfl dX2_isNear_51 ?_
      refine lv_iconst (v := 1) hx hb dX2_isNear_54 (by decide) ?_
      refine lv_isub hx hb dX2_isNear_55 ?_
      refine lv_i2l (v := ((ms_co σ) - 1).toInt64) hx hb dX2_isNear_56 rfl ?_
      refine call_s (Wd := MW cc ad) (σ := σ) C0 hd (lens_un (adc := ad)) (As := [.long (x6.toInt64), .long 0, .long (((ms_co σ) - 1).toInt64)]) (rest := []) (ct_X2_in l D cc ad da0 (x6.toInt64) 0 (((ms_co σ) - 1).toInt64)) (va_cwS 3 hts gX2_isNear_X2_in rfl rfl rfl (by decide +kernel) ⟨Nat.le_of_ble_eq_true rfl, Nat.le_of_ble_eq_true rfl⟩) hP hS rfl hl.1 rfl (by simp [Value.category]) dX2_isNear_57 (fun r5 u hp H locs hP hS => ?_)
      obtain ⟨hp1, hp2⟩ := hp
      subst hp1
      have hP : va_P D vwCl (MW cc ad σ) H := hP
      refine lv_if_eq (tgt := 79) hx hb dX2_isNear_60 (by decide) (fun c6 => ?_) (fun c6 => ?_)
      · have h := h.1 c6
        exact wk_X2_isNear_79 C0 hd hK8 hK21 σ x1 x2 x3 x4 x5 x6 h H locs ls hP hS (lv_sub hl [0, 1, 2, 3, 4, 5, 6] rfl)
      · have h := h.2 c6
        refine lv_iload hx hb dX2_isNear_63 (lv_at hl 5 rfl) ?_
        refine lv_iload_n hx hb dX2_isNear_65 rfl (lv_at hl 1 rfl) ?_
        refine lv_icmp_ne (tgt := 75) hx hb dX2_isNear_66 (by decide) (fun c7 => ?_) (fun c7 => ?_)
        · have h := h.1 c7
          exact wk_X2_isNear_75 C0 hd hK8 hK21 σ x1 x2 x3 x4 x5 x6 h H locs ls hP hS (lv_sub hl [0, 1, 2, 3, 4, 5, 6] rfl)
        · have h := h.2 c7
          refine lv_iload hx hb dX2_isNear_69 (lv_at hl 6 rfl) ?_
          refine lv_iload_n hx hb dX2_isNear_71 rfl (lv_at hl 2 rfl) ?_
          refine lv_icmp_eq (tgt := 79) hx hb dX2_isNear_72 (by decide) (fun c8 => ?_) (fun c8 => ?_)
          · have h := h.1 c8
            exact wk_X2_isNear_79 C0 hd hK8 hK21 σ x1 x2 x3 x4 x5 x6 h H locs ls hP hS (lv_sub hl [0, 1, 2, 3, 4, 5, 6] rfl)
          · have h := h.2 c8
            exact wk_X2_isNear_75 C0 hd hK8 hK21 σ x1 x2 x3 x4 x5 x6 h H locs ls hP hS (lv_sub hl [0, 1, 2, 3, 4, 5, 6] rfl)
set_option maxHeartbeats 4000000 in
set_option maxRecDepth 100000 in
theorem wk_X2_isNear_8 {p : Program} {l : Launch} {e : Env} {s : State} {m : MethodId} {args : Array Value} {below : List Frame} {meth : Method} {c : Code} {D : va_G} {cc : Nat → ClassId} {ad : Nat → Nat} {A : Nat → Prop} {Post : Int32 → MS → Prop} {g : CS} (C0 : Cx p s m args meth c cX2_isNear 8 (some .boolean) RX2 wsX2_isNear D cc A) (hd : DA 13 ad A) {K8 : (MS × Int32 × Int32 × Int32 × Int32 × Int32) → Prop} (hK8 : ∀ a, K8 a → At_ p l e { frames := 1, cells := 0, slots := 0, locals := 25 } s m args below meth c (Qi_ below D (MW cc ad) A args s Post) D A (MW cc ad (a.1)) 8 8 [(0, .ref (ad 0)), (1, .int (a.2.1)), (2, .int (a.2.2.1)), (3, .int (a.2.2.2.1)), (4, .int (a.2.2.2.2.1)), (5, .int (a.2.2.2.2.2))] []) (σ : MS) (x1 : Int32) (x2 : Int32) (x3 : Int32) (x4 : Int32) (x5 : Int32) (h : wp_X2_isNear_8 g K8 Post σ x1 x2 x3 x4 x5) : At_ p l e { frames := 1, cells := 0, slots := 0, locals := 25 } s m args below meth c (Qi_ below D (MW cc ad) A args s Post) D A (MW cc ad σ) 8 8 [(0, .ref (ad 0)), (1, .int x1), (2, .int x2), (3, .int x3), (4, .int x4), (5, .int x5)] [] := by
  obtain ⟨hx, hb, hml, hr, hown, hts, hlocks, hK, hA, hX⟩ := id C0
  have hin := hin_X2_isNear
  intro H locs ls hP hS hl
  unfold wp_X2_isNear_8 at h
  refine lv_iload hx hb dX2_isNear_8 (lv_at hl 5 rfl) ?_
  refine lv_iload_n hx hb dX2_isNear_10 rfl (lv_at hl 1 rfl) ?_
  refine lv_iconst (v := 1) hx hb dX2_isNear_11 (by decide) ?_
  refine lv_iadd hx hb dX2_isNear_12 ?_
  refine lv_icmp_gt (tgt := 128) hx hb dX2_isNear_13 (by decide) (fun c1 => ?_) (fun c1 => ?_)
  · have h := h.1 c1
    refine lv_iload hx hb dX2_isNear_128 (lv_at hl 4 rfl) ?_
    exact ret_z (Wd := MW cc ad) (u := σ) C0 h.1 h.2 hP hS dX2_isNear_130
  · have h := h.2 c1
    refine lv_iload_n hx hb dX2_isNear_16 rfl (lv_at hl 2 rfl) ?_
    refine lv_iconst (v := 1) hx hb dX2_isNear_17 (by decide) ?_
    refine lv_isub hx hb dX2_isNear_18 ?_
    refine lv_topi (fun x6_2 ex6_2 => ?_)
    have h := h x6_2 ex6_2
    refine lv_istore (lv' := [(6, .int x6_2), (0, .ref (ad 0)), (1, .int x1), (2, .int x2), (3, .int x3), (4, .int x4), (5, .int x5)]) hx hb dX2_isNear_19 hl (by decide) rfl (fun ls hl => ?_)
    exact lp_at (Wt := fun a => At_ p l e { frames := 1, cells := 0, slots := 0, locals := 25 } s m args below meth c (Qi_ below D (MW cc ad) A args s Post) D A (MW cc ad (a.1)) 8 21 [(0, .ref (ad 0)), (1, .int (a.2.1)), (2, .int (a.2.2.1)), (3, .int (a.2.2.2.1)), (4, .int (a.2.2.2.2.1)), (5, .int (a.2.2.2.2.2.1)), (6, .int (a.2.2.2.2.2.2))] []) (fun K hK a h => wk_X2_isNear_21 C0 hd hK8 hK a.1 a.2.1 a.2.2.1 a.2.2.2.1 a.2.2.2.2.1 a.2.2.2.2.2.1 a.2.2.2.2.2.2 h) h H locs ls hP hS (lv_sub hl [1, 2, 3, 4, 5, 6, 0] rfl)
set_option maxHeartbeats 4000000 in
set_option maxRecDepth 100000 in
theorem wk_X2_isNear_0 {p : Program} {l : Launch} {e : Env} {s : State} {m : MethodId} {args : Array Value} {below : List Frame} {meth : Method} {c : Code} {D : va_G} {cc : Nat → ClassId} {ad : Nat → Nat} {A : Nat → Prop} {Post : Int32 → MS → Prop} {g : CS} (C0 : Cx p s m args meth c cX2_isNear 8 (some .boolean) RX2 wsX2_isNear D cc A) (hd : DA 13 ad A) (σ : MS) (x1 : Int32) (x2 : Int32) (x3 : Int32) (h : wp_X2_isNear g Post σ x1 x2 x3) : At_ p l e { frames := 1, cells := 0, slots := 0, locals := 25 } s m args below meth c (Qi_ below D (MW cc ad) A args s Post) D A (MW cc ad σ) 8 0 [(0, .ref (ad 0)), (1, .int x1), (2, .int x2), (3, .int x3)] [] := by
  obtain ⟨hx, hb, hml, hr, hown, hts, hlocks, hK, hA, hX⟩ := id C0
  have hin := hin_X2_isNear
  intro H locs ls hP hS hl
  unfold wp_X2_isNear at h
  refine lv_iconst (v := 0) hx hb dX2_isNear_0 (by decide) ?_
  refine lv_istore (lv' := [(4, .int 0), (0, .ref (ad 0)), (1, .int x1), (2, .int x2), (3, .int x3)]) hx hb dX2_isNear_1 hl (by decide) rfl (fun ls hl => ?_)
  refine lv_iload_n hx hb dX2_isNear_3 rfl (lv_at hl 2 rfl) ?_
  refine lv_iconst (v := 1) hx hb dX2_isNear_4 (by decide) ?_
  refine lv_isub hx hb dX2_isNear_5 ?_
  refine lv_topi (fun x5_1 ex5_1 => ?_)
  have h := h x5_1 ex5_1
  refine lv_istore (lv' := [(5, .int x5_1), (4, .int 0), (0, .ref (ad 0)), (1, .int x1), (2, .int x2), (3, .int x3)]) hx hb dX2_isNear_6 hl (by decide) rfl (fun ls hl => ?_)
  exact lp_at (Wt := fun a => At_ p l e { frames := 1, cells := 0, slots := 0, locals := 25 } s m args below meth c (Qi_ below D (MW cc ad) A args s Post) D A (MW cc ad (a.1)) 8 8 [(0, .ref (ad 0)), (1, .int (a.2.1)), (2, .int (a.2.2.1)), (3, .int (a.2.2.2.1)), (4, .int (a.2.2.2.2.1)), (5, .int (a.2.2.2.2.2))] []) (fun K hK a h => wk_X2_isNear_8 C0 hd hK a.1 a.2.1 a.2.2.1 a.2.2.2.1 a.2.2.2.2.1 a.2.2.2.2.2 h) h H locs ls hP hS (lv_sub hl [2, 3, 4, 5, 1, 0] rfl)
theorem ct_X2_isNear (l : Launch) (D : va_G) (cc : Nat → ClassId) (ad : Nat → Nat) (hd : DA 13 ad (fun _ => True)) (g : CS) (σ : MS) (x1 : Int32) (x2 : Int32) (x3 : Int32) (hp : pr_X2_isNear g σ x1 x2 x3) : Ctr l yX2_isNear wsX2_isNear { frames := 1, cells := 0, slots := 0, locals := 25 } D cc (MW cc ad) 13 ad σ [.ref (ad 0), .int x1, .int x2, .int x3] (fun r u => r = fn_X2_isNear g σ x1 x2 x3 ∧ u = σ) :=
  ctr_i (rt := (some .boolean)) (by decide +kernel) rfl hd (Nat.le_of_ble_eq_true rfl) (fun p e s m below meth c A C0 hd => wk_X2_isNear_0 C0 hd σ x1 x2 x3 (pu_X2_isNear g σ x1 x2 x3 hp))
theorem hin_X2_sit : ∀ w ∈ u_ws RX2 TX2 21, w ∈ wsX2_sit := fun w h => List.mem_cons_of_mem _ (List.mem_append_right _ h)
set_option maxHeartbeats 4000000 in
set_option maxRecDepth 100000 in
theorem wk_X2_sit_44 {p : Program} {l : Launch} {e : Env} {s : State} {m : MethodId} {args : Array Value} {below : List Frame} {meth : Method} {c : Code} {D : va_G} {cc : Nat → ClassId} {ad : Nat → Nat} {A : Nat → Prop} {Post : Int32 → MS → Prop} {g : CS} (C0 : Cx p s m args meth c cX2_sit 4 none RX2 wsX2_sit D cc A) (hd : DA 13 ad A) {K24 : (MS × Int32) → Prop} (hK24 : ∀ a, K24 a → At_ p l e { frames := 2, cells := 0, slots := 0, locals := 52 } s m args below meth c (Qv_ below D (MW cc ad) A args s Post) D A (MW cc ad (a.1)) 4 24 [(0, .ref (ad 0)), (1, .int (a.2))] []) {K34 : (MS × Int32 × Int32) → Prop} (hK34 : ∀ a, K34 a → At_ p l e { frames := 2, cells := 0, slots := 0, locals := 52 } s m args below meth c (Qv_ below D (MW cc ad) A args s Post) D A (MW cc ad (a.1)) 4 34 [(0, .ref (ad 0)), (1, .int (a.2.1)), (2, .int (a.2.2))] []) {K44 : (MS × Int32 × Int32 × Int32) → Prop} (hK44 : ∀ a, K44 a → At_ p l e { frames := 2, cells := 0, slots := 0, locals := 52 } s m args below meth c (Qv_ below D (MW cc ad) A args s Post) D A (MW cc ad (a.1)) 4 44 [(0, .ref (ad 0)), (1, .int (a.2.1)), (2, .int (a.2.2.1)), (3, .int (a.2.2.2))] []) (σ : MS) (x1 : Int32) (x2 : Int32) (x3 : Int32) (h : wp_X2_sit_44 g K24 K34 K44 Post σ x1 x2 x3) : At_ p l e { frames := 2, cells := 0, slots := 0, locals := 52 } s m args below meth c (Qv_ below D (MW cc ad) A args s Post) D A (MW cc ad σ) 4 44 [(0, .ref (ad 0)), (1, .int x1), (2, .int x2), (3, .int x3)] [] := by
  obtain ⟨hx, hb, hml, hr, hown, hts, hlocks, hK, hA, hX⟩ := id C0
  have hin := hin_X2_sit
  intro H locs ls hP hS hl
  unfold wp_X2_sit_44 at h
  refine lv_aload_n hx hb dX2_sit_44 rfl (lv_at hl 0 rfl) ?_
  refine lv_iload_n hx hb dX2_sit_45 rfl (lv_at hl 1 rfl) ?_
  refine lv_iload_n hx hb dX2_sit_46 rfl (lv_at hl 2 rfl) ?_
  refine lv_iload_n hx hb dX2_sit_47 rfl (lv_at hl 3 rfl) ?_
  obtain ⟨gp1, h⟩ := h
  refine call_v (Wd := MW cc ad) (σ := σ) C0 hd lens_id (As := [.int x1, .int x2, .int x3]) (rest := []) (ct_X2_isNear l D cc ad ⟨hd.1, fun _ _ => trivial⟩ g σ x1 x2 x3 gp1) (cwV 3 hts gX2_sit_X2_isNear rfl rfl rfl (by decide +kernel) ⟨Nat.le_of_ble_eq_true rfl, Nat.le_of_ble_eq_true rfl⟩) (va_recv hK hP (ci := 2) (q0 := 0) rfl rfl) hP hS rfl hl.1 rfl (by simp [Value.category]) dX2_sit_48 (fun r2 u hp H locs hP hS => ?_)
  obtain ⟨hp1, hp2⟩ := hp
  subst hp1
  have hp2 := hp2.symm
  subst hp2
  have hP : va_P D vwCl (MW cc ad σ) H := hP
  refine lv_if_eq (tgt := 60) hx hb dX2_sit_51 (by decide) (fun c3 => ?_) (fun c3 => ?_)
  · have h := h.1 c3
    refine lv_aload_n hx hb dX2_sit_60 rfl (lv_at hl 0 rfl) ?_
    refine va_get (D := D) (ci := 2) (v := .ref (ad 11)) (C := RX2) (T := TX2) (N := 21) hx hb hts hin hown hK hP 0 rfl rfl 17 (by decide) (hts (.fieldLink RX2 53 "ClassSheetsModel" "number" "[I") (List.mem_of_getElem? (i := 1) rfl)) (fun _ h9 => h9) rfl dX2_sit_61 ?_
    refine lv_bipush (v := 8) hx hb dX2_sit_64 (by decide) ?_
    refine lv_iload_n hx hb dX2_sit_66 rfl (lv_at hl 1 rfl) ?_
    refine lv_imul hx hb dX2_sit_67 ?_
    refine lv_iload_n hx hb dX2_sit_68 rfl (lv_at hl 2 rfl) ?_
    refine lv_iadd hx hb dX2_sit_69 ?_
    refine lv_iload_n hx hb dX2_sit_70 rfl (lv_at hl 3 rfl) ?_
    obtain ⟨gi4, h⟩ := h
    refine va_iast (D := D) (f := ms_nu σ) (x := x3) hx hb hK hP (mD hd) hS 11 0 rfl rfl gi4 dX2_sit_71 (fun H locs hP _ hS => ?_)
    have hP : va_P D vwCl (MW cc ad (ms_s_nu σ (upd (ms_nu σ) ((8 * x1) + x2).toNatClampNeg x3))) H := hP
    obtain ⟨x2_5, ex2_5⟩ : ∃ y : Int32, y = x2 + 1 := ⟨_, rfl⟩
    have h := h x2_5 ex2_5
    refine lv_iinc (v := x2_5) (lv' := [(2, .int x2_5), (0, .ref (ad 0)), (1, .int x1), (3, .int x3)]) hx hb dX2_sit_72 hl (k := 2) rfl (by rw [ex2_5]; rfl) (by decide) rfl (fun ls hl => ?_)
    refine lv_goto (tgt := 34) hx hb dX2_sit_75 (by decide) ?_
    exact hK34 ((ms_s_nu σ (upd (ms_nu σ) ((8 * x1) + x2).toNatClampNeg x3)), x1, x2_5) h H locs ls hP hS (lv_sub hl [1, 2, 0] rfl)
  · have h := h.2 c3
    obtain ⟨x3_6, ex3_6⟩ : ∃ y : Int32, y = x3 + 1 := ⟨_, rfl⟩
    have h := h x3_6 ex3_6
    refine lv_iinc (v := x3_6) (lv' := [(3, .int x3_6), (0, .ref (ad 0)), (1, .int x1), (2, .int x2)]) hx hb dX2_sit_54 hl (k := 3) rfl (by rw [ex3_6]; rfl) (by decide) rfl (fun ls hl => ?_)
    refine lv_goto (tgt := 44) hx hb dX2_sit_57 (by decide) ?_
    exact hK44 (σ, x1, x2, x3_6) h H locs ls hP hS (lv_sub hl [1, 2, 3, 0] rfl)
set_option maxHeartbeats 4000000 in
set_option maxRecDepth 100000 in
theorem wk_X2_sit_34 {p : Program} {l : Launch} {e : Env} {s : State} {m : MethodId} {args : Array Value} {below : List Frame} {meth : Method} {c : Code} {D : va_G} {cc : Nat → ClassId} {ad : Nat → Nat} {A : Nat → Prop} {Post : Int32 → MS → Prop} {g : CS} (C0 : Cx p s m args meth c cX2_sit 4 none RX2 wsX2_sit D cc A) (hd : DA 13 ad A) {K24 : (MS × Int32) → Prop} (hK24 : ∀ a, K24 a → At_ p l e { frames := 2, cells := 0, slots := 0, locals := 52 } s m args below meth c (Qv_ below D (MW cc ad) A args s Post) D A (MW cc ad (a.1)) 4 24 [(0, .ref (ad 0)), (1, .int (a.2))] []) {K34 : (MS × Int32 × Int32) → Prop} (hK34 : ∀ a, K34 a → At_ p l e { frames := 2, cells := 0, slots := 0, locals := 52 } s m args below meth c (Qv_ below D (MW cc ad) A args s Post) D A (MW cc ad (a.1)) 4 34 [(0, .ref (ad 0)), (1, .int (a.2.1)), (2, .int (a.2.2))] []) (σ : MS) (x1 : Int32) (x2 : Int32) (h : wp_X2_sit_34 g K24 K34 Post σ x1 x2) : At_ p l e { frames := 2, cells := 0, slots := 0, locals := 52 } s m args below meth c (Qv_ below D (MW cc ad) A args s Post) D A (MW cc ad σ) 4 34 [(0, .ref (ad 0)), (1, .int x1), (2, .int x2)] [] := by
  obtain ⟨hx, hb, hml, hr, hown, hts, hlocks, hK, hA, hX⟩ := id C0
  have hin := hin_X2_sit
  intro H locs ls hP hS hl
  unfold wp_X2_sit_34 at h
  refine lv_iload_n hx hb dX2_sit_34 rfl (lv_at hl 2 rfl) ?_
  refine lv_aload_n hx hb dX2_sit_35 rfl (lv_at hl 0 rfl) ?_
  refine va_get (D := D) (ci := 2) (v := .int (ms_co σ)) (C := RX2) (T := TX2) (N := 21) hx hb hts hin hown hK hP 0 rfl rfl 15 (by decide) (hts (.fieldLink RX2 50 "ClassSheetsModel" "columns" "I") (List.mem_of_getElem? (i := 3) rfl)) (fun _ h9 => h9) rfl dX2_sit_36 ?_
  refine lv_icmp_ge (tgt := 78) hx hb dX2_sit_39 (by decide) (fun c1 => ?_) (fun c1 => ?_)
  · have h := h.1 c1
    obtain ⟨x1_2, ex1_2⟩ : ∃ y : Int32, y = x1 + 1 := ⟨_, rfl⟩
    have h := h x1_2 ex1_2
    refine lv_iinc (v := x1_2) (lv' := [(1, .int x1_2), (0, .ref (ad 0)), (2, .int x2)]) hx hb dX2_sit_78 hl (k := 1) rfl (by rw [ex1_2]; rfl) (by decide) rfl (fun ls hl => ?_)
    refine lv_goto (tgt := 24) hx hb dX2_sit_81 (by decide) ?_
    exact hK24 (σ, x1_2) h H locs ls hP hS (lv_sub hl [1, 0] rfl)
  · have h := h.2 c1
    refine lv_iconst (v := 0) hx hb dX2_sit_42 (by decide) ?_
    refine lv_istore_n (lv' := [(3, .int 0), (0, .ref (ad 0)), (1, .int x1), (2, .int x2)]) hx hb dX2_sit_43 rfl hl (by decide) rfl (fun ls hl => ?_)
    exact lp_at (Wt := fun a => At_ p l e { frames := 2, cells := 0, slots := 0, locals := 52 } s m args below meth c (Qv_ below D (MW cc ad) A args s Post) D A (MW cc ad (a.1)) 4 44 [(0, .ref (ad 0)), (1, .int (a.2.1)), (2, .int (a.2.2.1)), (3, .int (a.2.2.2))] []) (fun K hK a h => wk_X2_sit_44 C0 hd hK24 hK34 hK a.1 a.2.1 a.2.2.1 a.2.2.2 h) h H locs ls hP hS (lv_sub hl [1, 2, 3, 0] rfl)
set_option maxHeartbeats 4000000 in
set_option maxRecDepth 100000 in
theorem wk_X2_sit_24 {p : Program} {l : Launch} {e : Env} {s : State} {m : MethodId} {args : Array Value} {below : List Frame} {meth : Method} {c : Code} {D : va_G} {cc : Nat → ClassId} {ad : Nat → Nat} {A : Nat → Prop} {Post : Int32 → MS → Prop} {g : CS} (C0 : Cx p s m args meth c cX2_sit 4 none RX2 wsX2_sit D cc A) (hd : DA 13 ad A) {K24 : (MS × Int32) → Prop} (hK24 : ∀ a, K24 a → At_ p l e { frames := 2, cells := 0, slots := 0, locals := 52 } s m args below meth c (Qv_ below D (MW cc ad) A args s Post) D A (MW cc ad (a.1)) 4 24 [(0, .ref (ad 0)), (1, .int (a.2))] []) (σ : MS) (x1 : Int32) (h : wp_X2_sit_24 g K24 Post σ x1) : At_ p l e { frames := 2, cells := 0, slots := 0, locals := 52 } s m args below meth c (Qv_ below D (MW cc ad) A args s Post) D A (MW cc ad σ) 4 24 [(0, .ref (ad 0)), (1, .int x1)] [] := by
  obtain ⟨hx, hb, hml, hr, hown, hts, hlocks, hK, hA, hX⟩ := id C0
  have hin := hin_X2_sit
  intro H locs ls hP hS hl
  unfold wp_X2_sit_24 at h
  refine lv_iload_n hx hb dX2_sit_24 rfl (lv_at hl 1 rfl) ?_
  refine lv_aload_n hx hb dX2_sit_25 rfl (lv_at hl 0 rfl) ?_
  refine va_get (D := D) (ci := 2) (v := .int (ms_ro σ)) (C := RX2) (T := TX2) (N := 21) hx hb hts hin hown hK hP 0 rfl rfl 14 (by decide) (hts (.fieldLink RX2 47 "ClassSheetsModel" "rows" "I") (List.mem_of_getElem? (i := 2) rfl)) (fun _ h9 => h9) rfl dX2_sit_26 ?_
  refine lv_icmp_ge (tgt := 84) hx hb dX2_sit_29 (by decide) (fun c1 => ?_) (fun c1 => ?_)
  · have h := h.1 c1
    exact ret_v (Wd := MW cc ad) (u := σ) C0 h hP hS dX2_sit_84
  · have h := h.2 c1
    refine lv_iconst (v := 0) hx hb dX2_sit_32 (by decide) ?_
    refine lv_istore_n (lv' := [(2, .int 0), (0, .ref (ad 0)), (1, .int x1)]) hx hb dX2_sit_33 rfl hl (by decide) rfl (fun ls hl => ?_)
    exact lp_at (Wt := fun a => At_ p l e { frames := 2, cells := 0, slots := 0, locals := 52 } s m args below meth c (Qv_ below D (MW cc ad) A args s Post) D A (MW cc ad (a.1)) 4 34 [(0, .ref (ad 0)), (1, .int (a.2.1)), (2, .int (a.2.2))] []) (fun K hK a h => wk_X2_sit_34 C0 hd hK24 hK a.1 a.2.1 a.2.2 h) h H locs ls hP hS (lv_sub hl [1, 2, 0] rfl)
set_option maxHeartbeats 4000000 in
set_option maxRecDepth 100000 in
theorem wk_X2_sit_2 {p : Program} {l : Launch} {e : Env} {s : State} {m : MethodId} {args : Array Value} {below : List Frame} {meth : Method} {c : Code} {D : va_G} {cc : Nat → ClassId} {ad : Nat → Nat} {A : Nat → Prop} {Post : Int32 → MS → Prop} {g : CS} (C0 : Cx p s m args meth c cX2_sit 4 none RX2 wsX2_sit D cc A) (hd : DA 13 ad A) {K2 : (MS × Int32) → Prop} (hK2 : ∀ a, K2 a → At_ p l e { frames := 2, cells := 0, slots := 0, locals := 52 } s m args below meth c (Qv_ below D (MW cc ad) A args s Post) D A (MW cc ad (a.1)) 4 2 [(0, .ref (ad 0)), (1, .int (a.2))] []) (σ : MS) (x1 : Int32) (h : wp_X2_sit_2 g K2 Post σ x1) : At_ p l e { frames := 2, cells := 0, slots := 0, locals := 52 } s m args below meth c (Qv_ below D (MW cc ad) A args s Post) D A (MW cc ad σ) 4 2 [(0, .ref (ad 0)), (1, .int x1)] [] := by
  obtain ⟨hx, hb, hml, hr, hown, hts, hlocks, hK, hA, hX⟩ := id C0
  have hin := hin_X2_sit
  intro H locs ls hP hS hl
  unfold wp_X2_sit_2 at h
  refine lv_iload_n hx hb dX2_sit_2 rfl (lv_at hl 1 rfl) ?_
  refine lv_bipush (v := 64) hx hb dX2_sit_3 (by decide) ?_
  refine lv_icmp_ge (tgt := 22) hx hb dX2_sit_5 (by decide) (fun c1 => ?_) (fun c1 => ?_)
  · have h := h.1 c1
    refine lv_iconst (v := 0) hx hb dX2_sit_22 (by decide) ?_
    refine lv_istore_n (lv' := [(1, .int 0), (0, .ref (ad 0))]) hx hb dX2_sit_23 rfl hl (by decide) rfl (fun ls hl => ?_)
    exact lp_at (Wt := fun a => At_ p l e { frames := 2, cells := 0, slots := 0, locals := 52 } s m args below meth c (Qv_ below D (MW cc ad) A args s Post) D A (MW cc ad (a.1)) 4 24 [(0, .ref (ad 0)), (1, .int (a.2))] []) (fun K hK a h => wk_X2_sit_24 C0 hd hK a.1 a.2 h) h H locs ls hP hS (lv_sub hl [1, 0] rfl)
  · have h := h.2 c1
    refine lv_aload_n hx hb dX2_sit_8 rfl (lv_at hl 0 rfl) ?_
    refine va_get (D := D) (ci := 2) (v := .ref (ad 11)) (C := RX2) (T := TX2) (N := 21) hx hb hts hin hown hK hP 0 rfl rfl 17 (by decide) (hts (.fieldLink RX2 53 "ClassSheetsModel" "number" "[I") (List.mem_of_getElem? (i := 1) rfl)) (fun _ h9 => h9) rfl dX2_sit_9 ?_
    refine lv_iload_n hx hb dX2_sit_12 rfl (lv_at hl 1 rfl) ?_
    refine lv_bipush (v := (-9)) hx hb dX2_sit_13 (by decide) ?_
    obtain ⟨gi2, h⟩ := h
    refine va_iast (D := D) (f := ms_nu σ) (x := (-9)) hx hb hK hP (mD hd) hS 11 0 rfl rfl gi2 dX2_sit_15 (fun H locs hP _ hS => ?_)
    have hP : va_P D vwCl (MW cc ad (ms_s_nu σ (upd (ms_nu σ) x1.toNatClampNeg (-9)))) H := hP
    obtain ⟨x1_3, ex1_3⟩ : ∃ y : Int32, y = x1 + 1 := ⟨_, rfl⟩
    have h := h x1_3 ex1_3
    refine lv_iinc (v := x1_3) (lv' := [(1, .int x1_3), (0, .ref (ad 0))]) hx hb dX2_sit_16 hl (k := 1) rfl (by rw [ex1_3]; rfl) (by decide) rfl (fun ls hl => ?_)
    refine lv_goto (tgt := 2) hx hb dX2_sit_19 (by decide) ?_
    exact hK2 ((ms_s_nu σ (upd (ms_nu σ) x1.toNatClampNeg (-9))), x1_3) h H locs ls hP hS (lv_sub hl [1, 0] rfl)
set_option maxHeartbeats 4000000 in
set_option maxRecDepth 100000 in
theorem wk_X2_sit_0 {p : Program} {l : Launch} {e : Env} {s : State} {m : MethodId} {args : Array Value} {below : List Frame} {meth : Method} {c : Code} {D : va_G} {cc : Nat → ClassId} {ad : Nat → Nat} {A : Nat → Prop} {Post : Int32 → MS → Prop} {g : CS} (C0 : Cx p s m args meth c cX2_sit 4 none RX2 wsX2_sit D cc A) (hd : DA 13 ad A) (σ : MS) (h : wp_X2_sit g Post σ) : At_ p l e { frames := 2, cells := 0, slots := 0, locals := 52 } s m args below meth c (Qv_ below D (MW cc ad) A args s Post) D A (MW cc ad σ) 4 0 [(0, .ref (ad 0))] [] := by
  obtain ⟨hx, hb, hml, hr, hown, hts, hlocks, hK, hA, hX⟩ := id C0
  have hin := hin_X2_sit
  intro H locs ls hP hS hl
  unfold wp_X2_sit at h
  refine lv_iconst (v := 0) hx hb dX2_sit_0 (by decide) ?_
  refine lv_istore_n (lv' := [(1, .int 0), (0, .ref (ad 0))]) hx hb dX2_sit_1 rfl hl (by decide) rfl (fun ls hl => ?_)
  exact lp_at (Wt := fun a => At_ p l e { frames := 2, cells := 0, slots := 0, locals := 52 } s m args below meth c (Qv_ below D (MW cc ad) A args s Post) D A (MW cc ad (a.1)) 4 2 [(0, .ref (ad 0)), (1, .int (a.2))] []) (fun K hK a h => wk_X2_sit_2 C0 hd hK a.1 a.2 h) h H locs ls hP hS (lv_sub hl [1, 0] rfl)
theorem ct_X2_sit (l : Launch) (D : va_G) (cc : Nat → ClassId) (ad : Nat → Nat) (hd : DA 13 ad (fun _ => True)) (g : CS) (σ : MS) (hp : pr_X2_sit g σ) : Ctv l yX2_sit wsX2_sit { frames := 2, cells := 0, slots := 0, locals := 52 } D cc (MW cc ad) 13 ad σ [.ref (ad 0)] (po_X2_sit g σ) :=
  ctr_v (rt := none) (by decide +kernel) rfl hd (Nat.le_of_ble_eq_true rfl) (fun p e s m below meth c A C0 hd => wk_X2_sit_0 C0 hd σ (pu_X2_sit g σ hp))
theorem hin_X2_base : ∀ w ∈ u_ws RX2 TX2 21, w ∈ wsX2_base := fun w h => List.mem_cons_of_mem _ (List.mem_append_right _ h)
set_option maxHeartbeats 4000000 in
set_option maxRecDepth 100000 in
theorem wk_X2_base_0 {p : Program} {l : Launch} {e : Env} {s : State} {m : MethodId} {args : Array Value} {below : List Frame} {meth : Method} {c : Code} {D : va_G} {cc : Nat → ClassId} {ad : Nat → Nat} {A : Nat → Prop} {Post : Int32 → MS → Prop} {g : CS} (C0 : Cx p s m args meth c cX2_base 3 (some .int) RX2 wsX2_base D cc A) (hd : DA 13 ad A) (σ : MS) (x1 : Int32) (h : wp_X2_base g Post σ x1) : At_ p l e { frames := 1, cells := 0, slots := 0, locals := 25 } s m args below meth c (Qi_ below D (MW cc ad) A args s Post) D A (MW cc ad σ) 3 0 [(0, .ref (ad 0)), (1, .int x1)] [] := by
  obtain ⟨hx, hb, hml, hr, hown, hts, hlocks, hK, hA, hX⟩ := id C0
  have hin := hin_X2_base
  intro H locs ls hP hS hl
  unfold wp_X2_base at h
  refine lv_aload_n hx hb dX2_base_0 rfl (lv_at hl 0 rfl) ?_
  refine lv_iconst (v := 0) hx hb dX2_base_1 (by decide) ?_
  refine va_put (D := D) (ci := 2) (v := .int 0) (ty := .int) (C := RX2) (T := TX2) (N := 21) hx hb hts hin tyX2 tyX2_ok nmX2 hown hK hP (mD hd) hS 0 rfl rfl 0 (by decide) (hts (.fieldLink RX2 59 "ClassSheetsModel" "thrown" "I") (List.mem_of_getElem? (i := 1) rfl)) (fun _ h9 => h9) rfl (by decide +kernel) rfl rfl (Nat.le_of_ble_eq_true rfl) dX2_base_2 (fun H locs hP _ hS => ?_)
  have hP : va_P D vwCl (MW cc ad (ms_s_th σ 0)) H := hP
  refine lv_iload_n hx hb dX2_base_5 rfl (lv_at hl 1 rfl) ?_
  refine lv_i2l (v := x1.toInt64) hx hb dX2_base_6 rfl ?_
  refine lv_lconst (v := 0) hx hb dX2_base_7 (by decide) ?_
  refine lv_ldc2 (v := 9000) hx hb hown (hts (.constantLong RX2 158 (9000)) (List.mem_of_getElem? (i := 2) rfl)) dX2_base_8 ?_
  refine call_s (Wd := MW cc ad) (σ := (ms_s_th σ 0)) C0 hd (lens_un (adc := ad)) (As := [.long (x1.toInt64), .long 0, .long 9000]) (rest := []) (ct_X2_in l D cc ad da0 (x1.toInt64) 0 9000) (va_cwS 3 hts gX2_base_X2_in rfl rfl rfl (by decide +kernel) ⟨Nat.le_of_ble_eq_true rfl, Nat.le_of_ble_eq_true rfl⟩) hP hS rfl hl.1 rfl (by simp [Value.category]) dX2_base_11 (fun r1 u hp H locs hP hS => ?_)
  obtain ⟨hp1, hp2⟩ := hp
  subst hp1
  have hP : va_P D vwCl (MW cc ad (ms_s_th σ 0)) H := hP
  refine lv_if_ne (tgt := 20) hx hb dX2_base_14 (by decide) (fun c2 => ?_) (fun c2 => ?_)
  · have h := h.1 c2
    refine lv_aload_n hx hb dX2_base_20 rfl (lv_at hl 0 rfl) ?_
    refine va_get (D := D) (ci := 2) (v := .int (ms_ba (ms_s_th σ 0))) (C := RX2) (T := TX2) (N := 21) hx hb hts hin hown hK hP 0 rfl rfl 16 (by decide) (hts (.fieldLink RX2 160 "ClassSheetsModel" "base" "I") (List.mem_of_getElem? (i := 3) rfl)) (fun _ h9 => h9) rfl dX2_base_21 ?_
    refine lv_topi (fun x2_3 ex2_3 => ?_)
    have h := h x2_3 ex2_3
    refine lv_istore_n (lv' := [(2, .int x2_3), (0, .ref (ad 0)), (1, .int x1)]) hx hb dX2_base_24 rfl hl (by decide) rfl (fun ls hl => ?_)
    refine lv_aload_n hx hb dX2_base_25 rfl (lv_at hl 1 rfl) ?_
    refine lv_iload_n hx hb dX2_base_26 rfl (lv_at hl 2 rfl) ?_
    refine va_put (D := D) (ci := 2) (v := .int x1) (ty := .int) (C := RX2) (T := TX2) (N := 21) hx hb hts hin tyX2 tyX2_ok nmX2 hown hK hP (mD hd) hS 0 rfl rfl 16 (by decide) (hts (.fieldLink RX2 160 "ClassSheetsModel" "base" "I") (List.mem_of_getElem? (i := 3) rfl)) (fun _ h9 => h9) rfl (by decide +kernel) rfl rfl (Nat.le_of_ble_eq_true rfl) dX2_base_27 (fun H locs hP _ hS => ?_)
    have hP : va_P D vwCl (MW cc ad (ms_s_ba (ms_s_th σ 0) x1)) H := hP
    refine lv_iload_n hx hb dX2_base_30 rfl (lv_at hl 0 rfl) ?_
    exact ret_i (Wd := MW cc ad) (u := (ms_s_ba (ms_s_th σ 0) x1)) C0 h hP hS dX2_base_31
  · have h := h.2 c2
    refine lv_bipush (v := (-2)) hx hb dX2_base_17 (by decide) ?_
    exact ret_i (Wd := MW cc ad) (u := (ms_s_th σ 0)) C0 h hP hS dX2_base_19
theorem ct_X2_base (l : Launch) (D : va_G) (cc : Nat → ClassId) (ad : Nat → Nat) (hd : DA 13 ad (fun _ => True)) (g : CS) (σ : MS) (x1 : Int32) (hp : pr_X2_base g σ x1) : Ctr l yX2_base wsX2_base { frames := 1, cells := 0, slots := 0, locals := 25 } D cc (MW cc ad) 13 ad σ [.ref (ad 0), .int x1] (po_X2_base g σ x1) :=
  ctr_i (rt := (some .int)) (by decide +kernel) rfl hd (Nat.le_of_ble_eq_true rfl) (fun p e s m below meth c A C0 hd => wk_X2_base_0 C0 hd σ x1 (pu_X2_base g σ x1 hp))
theorem hin_X2_sheetOf : ∀ w ∈ u_ws RX2 TX2 21, w ∈ wsX2_sheetOf := fun w h => List.mem_cons_of_mem _ (List.mem_append_right _ h)
set_option maxHeartbeats 4000000 in
set_option maxRecDepth 100000 in
theorem wk_X2_sheetOf_0 {p : Program} {l : Launch} {e : Env} {s : State} {m : MethodId} {args : Array Value} {below : List Frame} {meth : Method} {c : Code} {D : va_G} {cc : Nat → ClassId} {ad : Nat → Nat} {A : Nat → Prop} {Post : Int32 → MS → Prop} {g : CS} (C0 : Cx p s m args meth c cX2_sheetOf 2 (some .int) RX2 wsX2_sheetOf D cc A) (hd : DA 13 ad A) (σ : MS) (x1 : Int32) (h : wp_X2_sheetOf g Post σ x1) : At_ p l e { frames := 3, cells := 0, slots := 0, locals := 75 } s m args below meth c (Qi_ below D (MW cc ad) A args s Post) D A (MW cc ad σ) 2 0 [(0, .ref (ad 0)), (1, .int x1)] [] := by
  obtain ⟨hx, hb, hml, hr, hown, hts, hlocks, hK, hA, hX⟩ := id C0
  have hin := hin_X2_sheetOf
  intro H locs ls hP hS hl
  unfold wp_X2_sheetOf at h
  refine lv_aload_n hx hb dX2_sheetOf_0 rfl (lv_at hl 0 rfl) ?_
  obtain ⟨gp1, h⟩ := h
  refine call_vv (Wd := MW cc ad) (σ := σ) C0 hd lens_id (As := []) (rest := []) (ct_X2_sit l D cc ad ⟨hd.1, fun _ _ => trivial⟩ g σ gp1) (cwV 0 hts gX2_sheetOf_X2_sit rfl rfl rfl (by decide +kernel) ⟨Nat.le_of_ble_eq_true rfl, Nat.le_of_ble_eq_true rfl⟩) (va_recv hK hP (ci := 2) (q0 := 0) rfl rfl) hP hS rfl hl.1 rfl (by simp [Value.category]) dX2_sheetOf_1 (fun u3 hp H locs hP hS => ?_)
  have h := h u3 hp
  have hP : va_P D vwCl (MW cc ad u3) H := hP
  refine lv_aload_n hx hb dX2_sheetOf_4 rfl (lv_at hl 0 rfl) ?_
  refine va_get (D := D) (ci := 2) (v := .int (ms_ba u3)) (C := RX2) (T := TX2) (N := 21) hx hb hts hin hown hK hP 0 rfl rfl 16 (by decide) (hts (.fieldLink RX2 160 "ClassSheetsModel" "base" "I") (List.mem_of_getElem? (i := 1) rfl)) (fun _ h9 => h9) rfl dX2_sheetOf_5 ?_
  refine lv_aload_n hx hb dX2_sheetOf_8 rfl (lv_at hl 0 rfl) ?_
  refine va_get (D := D) (ci := 2) (v := .ref (ad 11)) (C := RX2) (T := TX2) (N := 21) hx hb hts hin hown hK hP 0 rfl rfl 17 (by decide) (hts (.fieldLink RX2 53 "ClassSheetsModel" "number" "[I") (List.mem_of_getElem? (i := 2) rfl)) (fun _ h9 => h9) rfl dX2_sheetOf_9 ?_
  refine lv_bipush (v := 8) hx hb dX2_sheetOf_12 (by decide) ?_
  refine lv_iload_n hx hb dX2_sheetOf_14 rfl (lv_at hl 1 rfl) ?_
  refine lv_bipush (v := 10) hx hb dX2_sheetOf_15 (by decide) ?_
  refine lv_idiv hx hb dX2_sheetOf_17 (by decide) ?_
  refine lv_imul hx hb dX2_sheetOf_18 ?_
  refine lv_iload_n hx hb dX2_sheetOf_19 rfl (lv_at hl 1 rfl) ?_
  refine lv_bipush (v := 10) hx hb dX2_sheetOf_20 (by decide) ?_
  refine lv_irem hx hb dX2_sheetOf_22 (by decide) ?_
  refine lv_iadd hx hb dX2_sheetOf_23 ?_
  obtain ⟨gi4, h⟩ := h
  refine va_iald (D := D) (f := ms_nu u3) hx hb hK hP 11 0 rfl rfl gi4 dX2_sheetOf_24 ?_
  refine lv_iadd hx hb dX2_sheetOf_25 ?_
  exact ret_i (Wd := MW cc ad) (u := u3) C0 h hP hS dX2_sheetOf_26
theorem ct_X2_sheetOf (l : Launch) (D : va_G) (cc : Nat → ClassId) (ad : Nat → Nat) (hd : DA 13 ad (fun _ => True)) (g : CS) (σ : MS) (x1 : Int32) (hp : pr_X2_sheetOf g σ x1) : Ctr l yX2_sheetOf wsX2_sheetOf { frames := 3, cells := 0, slots := 0, locals := 75 } D cc (MW cc ad) 13 ad σ [.ref (ad 0), .int x1] (po_X2_sheetOf g σ x1) :=
  ctr_i (rt := (some .int)) (by decide +kernel) rfl hd (Nat.le_of_ble_eq_true rfl) (fun p e s m below meth c A C0 hd => wk_X2_sheetOf_0 C0 hd σ x1 (pu_X2_sheetOf g σ x1 hp))
theorem hin_X2_seat : ∀ w ∈ u_ws RX2 TX2 21, w ∈ wsX2_seat := fun w h => List.mem_cons_of_mem _ (List.mem_append_right _ h)
set_option maxHeartbeats 4000000 in
set_option maxRecDepth 100000 in
theorem wk_X2_seat_0 {p : Program} {l : Launch} {e : Env} {s : State} {m : MethodId} {args : Array Value} {below : List Frame} {meth : Method} {c : Code} {D : va_G} {cc : Nat → ClassId} {ad : Nat → Nat} {A : Nat → Prop} {Post : Int32 → MS → Prop} {g : CS} (C0 : Cx p s m args meth c cX2_seat 2 (some .int) RX2 wsX2_seat D cc A) (hd : DA 13 ad A) (σ : MS) (x1 : Int32) (h : wp_X2_seat g Post σ x1) : At_ p l e { frames := 4, cells := 0, slots := 0, locals := 96 } s m args below meth c (Qi_ below D (MW cc ad) A args s Post) D A (MW cc ad σ) 2 0 [(0, .ref (ad 0)), (1, .int x1)] [] := by
  obtain ⟨hx, hb, hml, hr, hown, hts, hlocks, hK, hA, hX⟩ := id C0
  have hin := hin_X2_seat
  intro H locs ls hP hS hl
  unfold wp_X2_seat at h
  refine lv_aload_n hx hb dX2_seat_0 rfl (lv_at hl 0 rfl) ?_
  refine lv_iconst (v := 0) hx hb dX2_seat_1 (by decide) ?_
  refine va_put (D := D) (ci := 2) (v := .int 0) (ty := .int) (C := RX2) (T := TX2) (N := 21) hx hb hts hin tyX2 tyX2_ok nmX2 hown hK hP (mD hd) hS 0 rfl rfl 0 (by decide) (hts (.fieldLink RX2 59 "ClassSheetsModel" "thrown" "I") (List.mem_of_getElem? (i := 1) rfl)) (fun _ h9 => h9) rfl (by decide +kernel) rfl rfl (Nat.le_of_ble_eq_true rfl) dX2_seat_2 (fun H locs hP _ hS => ?_)
  have hP : va_P D vwCl (MW cc ad (ms_s_th σ 0)) H := hP
  refine lv_aload_n hx hb dX2_seat_5 rfl (lv_at hl 0 rfl) ?_
  refine lv_iload_n hx hb dX2_seat_6 rfl (lv_at hl 1 rfl) ?_
  refine call_v (Wd := MW cc ad) (σ := (ms_s_th σ 0)) C0 hd lens_id (As := [.int x1]) (rest := []) (ct_X2_noSeat l D cc ad ⟨hd.1, fun _ _ => trivial⟩ g (ms_s_th σ 0) x1) (cwV 1 hts gX2_seat_X2_noSeat rfl rfl rfl (by decide +kernel) ⟨Nat.le_of_ble_eq_true rfl, Nat.le_of_ble_eq_true rfl⟩) (va_recv hK hP (ci := 2) (q0 := 0) rfl rfl) hP hS rfl hl.1 rfl (by simp [Value.category]) dX2_seat_7 (fun r1 u hp H locs hP hS => ?_)
  obtain ⟨hp1, hp2⟩ := hp
  subst hp1
  have hp2 := hp2.symm
  subst hp2
  have hP : va_P D vwCl (MW cc ad (ms_s_th σ 0)) H := hP
  refine lv_if_eq (tgt := 17) hx hb dX2_seat_10 (by decide) (fun c2 => ?_) (fun c2 => ?_)
  · have h := h.1 c2
    refine lv_aload_n hx hb dX2_seat_17 rfl (lv_at hl 0 rfl) ?_
    refine lv_iload_n hx hb dX2_seat_18 rfl (lv_at hl 1 rfl) ?_
    obtain ⟨gp3, h⟩ := h
    refine call_v (Wd := MW cc ad) (σ := (ms_s_th σ 0)) C0 hd lens_id (As := [.int x1]) (rest := []) (ct_X2_sheetOf l D cc ad ⟨hd.1, fun _ _ => trivial⟩ g (ms_s_th σ 0) x1 gp3) (cwV 1 hts gX2_seat_X2_sheetOf rfl rfl rfl (by decide +kernel) ⟨Nat.le_of_ble_eq_true rfl, Nat.le_of_ble_eq_true rfl⟩) (va_recv hK hP (ci := 2) (q0 := 0) rfl rfl) hP hS rfl hl.1 rfl (by simp [Value.category]) dX2_seat_19 (fun r4 u5 hp H locs hP hS => ?_)
    have h := h r4 u5 hp
    have hP : va_P D vwCl (MW cc ad u5) H := hP
    exact ret_i (Wd := MW cc ad) (u := u5) C0 h hP hS dX2_seat_22
  · have h := h.2 c2
    refine lv_iconst (v := (-1)) hx hb dX2_seat_13 (by decide) ?_
    refine lv_goto (tgt := 22) hx hb dX2_seat_14 (by decide) ?_
    exact ret_i (Wd := MW cc ad) (u := (ms_s_th σ 0)) C0 h hP hS dX2_seat_22
theorem ct_X2_seat (l : Launch) (D : va_G) (cc : Nat → ClassId) (ad : Nat → Nat) (hd : DA 13 ad (fun _ => True)) (g : CS) (σ : MS) (x1 : Int32) (hp : pr_X2_seat g σ x1) : Ctr l yX2_seat wsX2_seat { frames := 4, cells := 0, slots := 0, locals := 96 } D cc (MW cc ad) 13 ad σ [.ref (ad 0), .int x1] (po_X2_seat g σ x1) :=
  ctr_i (rt := (some .int)) (by decide +kernel) rfl hd (Nat.le_of_ble_eq_true rfl) (fun p e s m below meth c A C0 hd => wk_X2_seat_0 C0 hd σ x1 (pu_X2_seat g σ x1 hp))
theorem hin_X2_unlike : ∀ w ∈ u_ws RX2 TX2 21, w ∈ wsX2_unlike := fun w h => List.mem_cons_of_mem _ (List.mem_append_right _ h)
set_option maxHeartbeats 4000000 in
set_option maxRecDepth 100000 in
theorem wk_X2_unlike_13 {p : Program} {l : Launch} {e : Env} {s : State} {m : MethodId} {args : Array Value} {below : List Frame} {meth : Method} {c : Code} {D : va_G} {cc : Nat → ClassId} {ad : Nat → Nat} {A : Nat → Prop} {Post : Int32 → MS → Prop} {g : CS} (C0 : Cx p s m args meth c cX2_unlike 3 (some .int) RX2 wsX2_unlike D cc A) (hd : DA 13 ad A) {K13 : (MS × Int32 × Int32) → Prop} (hK13 : ∀ a, K13 a → At_ p l e { frames := 3, cells := 0, slots := 0, locals := 75 } s m args below meth c (Qi_ below D (MW cc ad) A args s Post) D A (MW cc ad (a.1)) 3 13 [(0, .ref (ad 0)), (1, .int (a.2.1)), (2, .int (a.2.2))] []) (σ : MS) (x1 : Int32) (x2 : Int32) (h : wp_X2_unlike_13 g K13 Post σ x1 x2) : At_ p l e { frames := 3, cells := 0, slots := 0, locals := 75 } s m args below meth c (Qi_ below D (MW cc ad) A args s Post) D A (MW cc ad σ) 3 13 [(0, .ref (ad 0)), (1, .int x1), (2, .int x2)] [] := by
  obtain ⟨hx, hb, hml, hr, hown, hts, hlocks, hK, hA, hX⟩ := id C0
  have hin := hin_X2_unlike
  intro H locs ls hP hS hl
  unfold wp_X2_unlike_13 at h
  refine lv_iload_n hx hb dX2_unlike_13 rfl (lv_at hl 2 rfl) ?_
  refine lv_bipush (v := 64) hx hb dX2_unlike_14 (by decide) ?_
  refine lv_icmp_ge (tgt := 46) hx hb dX2_unlike_16 (by decide) (fun c1 => ?_) (fun c1 => ?_)
  · have h := h.1 c1
    refine lv_iload_n hx hb dX2_unlike_46 rfl (lv_at hl 1 rfl) ?_
    refine lv_iconst (v := 1) hx hb dX2_unlike_47 (by decide) ?_
    refine lv_iadd hx hb dX2_unlike_48 ?_
    exact ret_i (Wd := MW cc ad) (u := σ) C0 h hP hS dX2_unlike_49
  · have h := h.2 c1
    refine lv_aload_n hx hb dX2_unlike_19 rfl (lv_at hl 0 rfl) ?_
    refine va_get (D := D) (ci := 2) (v := .ref (ad 11)) (C := RX2) (T := TX2) (N := 21) hx hb hts hin hown hK hP 0 rfl rfl 17 (by decide) (hts (.fieldLink RX2 53 "ClassSheetsModel" "number" "[I") (List.mem_of_getElem? (i := 2) rfl)) (fun _ h9 => h9) rfl dX2_unlike_20 ?_
    refine lv_iload_n hx hb dX2_unlike_23 rfl (lv_at hl 2 rfl) ?_
    obtain ⟨gi2, h⟩ := h
    refine va_iald (D := D) (f := ms_nu σ) hx hb hK hP 11 0 rfl rfl gi2 dX2_unlike_24 ?_
    refine lv_iload_n hx hb dX2_unlike_25 rfl (lv_at hl 1 rfl) ?_
    refine lv_icmp_le (tgt := 38) hx hb dX2_unlike_26 (by decide) (fun c3 => ?_) (fun c3 => ?_)
    · have h := h.1 c3
      refine lv_iload_n hx hb dX2_unlike_38 rfl (lv_at hl 1 rfl) ?_
      refine lv_istore_n (lv' := [(1, .int x1), (0, .ref (ad 0)), (2, .int x2)]) hx hb dX2_unlike_39 rfl hl (by decide) rfl (fun ls hl => ?_)
      obtain ⟨x2_4, ex2_4⟩ : ∃ y : Int32, y = x2 + 1 := ⟨_, rfl⟩
      have h := h x2_4 ex2_4
      refine lv_iinc (v := x2_4) (lv' := [(2, .int x2_4), (1, .int x1), (0, .ref (ad 0))]) hx hb dX2_unlike_40 hl (k := 2) rfl (by rw [ex2_4]; rfl) (by decide) rfl (fun ls hl => ?_)
      refine lv_goto (tgt := 13) hx hb dX2_unlike_43 (by decide) ?_
      exact hK13 (σ, x1, x2_4) h H locs ls hP hS (lv_sub hl [2, 1, 0] rfl)
    · have h := h.2 c3
      refine lv_aload_n hx hb dX2_unlike_29 rfl (lv_at hl 0 rfl) ?_
      refine va_get (D := D) (ci := 2) (v := .ref (ad 11)) (C := RX2) (T := TX2) (N := 21) hx hb hts hin hown hK hP 0 rfl rfl 17 (by decide) (hts (.fieldLink RX2 53 "ClassSheetsModel" "number" "[I") (List.mem_of_getElem? (i := 2) rfl)) (fun _ h9 => h9) rfl dX2_unlike_30 ?_
      refine lv_iload_n hx hb dX2_unlike_33 rfl (lv_at hl 2 rfl) ?_
      obtain ⟨gi5, h⟩ := h
      refine va_iald (D := D) (f := ms_nu σ) hx hb hK hP 11 0 rfl rfl gi5 dX2_unlike_34 ?_
      refine lv_goto (tgt := 39) hx hb dX2_unlike_35 (by decide) ?_
      refine lv_topi (fun x1_6 ex1_6 => ?_)
      have h := h x1_6 ex1_6
      refine lv_istore_n (lv' := [(1, .int x1_6), (0, .ref (ad 0)), (2, .int x2)]) hx hb dX2_unlike_39 rfl hl (by decide) rfl (fun ls hl => ?_)
      obtain ⟨x2_7, ex2_7⟩ : ∃ y : Int32, y = x2 + 1 := ⟨_, rfl⟩
      have h := h x2_7 ex2_7
      refine lv_iinc (v := x2_7) (lv' := [(2, .int x2_7), (1, .int x1_6), (0, .ref (ad 0))]) hx hb dX2_unlike_40 hl (k := 2) rfl (by rw [ex2_7]; rfl) (by decide) rfl (fun ls hl => ?_)
      refine lv_goto (tgt := 13) hx hb dX2_unlike_43 (by decide) ?_
      exact hK13 (σ, x1_6, x2_7) h H locs ls hP hS (lv_sub hl [2, 1, 0] rfl)
set_option maxHeartbeats 4000000 in
set_option maxRecDepth 100000 in
theorem wk_X2_unlike_0 {p : Program} {l : Launch} {e : Env} {s : State} {m : MethodId} {args : Array Value} {below : List Frame} {meth : Method} {c : Code} {D : va_G} {cc : Nat → ClassId} {ad : Nat → Nat} {A : Nat → Prop} {Post : Int32 → MS → Prop} {g : CS} (C0 : Cx p s m args meth c cX2_unlike 3 (some .int) RX2 wsX2_unlike D cc A) (hd : DA 13 ad A) (σ : MS) (h : wp_X2_unlike g Post σ) : At_ p l e { frames := 3, cells := 0, slots := 0, locals := 75 } s m args below meth c (Qi_ below D (MW cc ad) A args s Post) D A (MW cc ad σ) 3 0 [(0, .ref (ad 0))] [] := by
  obtain ⟨hx, hb, hml, hr, hown, hts, hlocks, hK, hA, hX⟩ := id C0
  have hin := hin_X2_unlike
  intro H locs ls hP hS hl
  unfold wp_X2_unlike at h
  refine lv_aload_n hx hb dX2_unlike_0 rfl (lv_at hl 0 rfl) ?_
  refine lv_iconst (v := 0) hx hb dX2_unlike_1 (by decide) ?_
  refine va_put (D := D) (ci := 2) (v := .int 0) (ty := .int) (C := RX2) (T := TX2) (N := 21) hx hb hts hin tyX2 tyX2_ok nmX2 hown hK hP (mD hd) hS 0 rfl rfl 0 (by decide) (hts (.fieldLink RX2 59 "ClassSheetsModel" "thrown" "I") (List.mem_of_getElem? (i := 1) rfl)) (fun _ h9 => h9) rfl (by decide +kernel) rfl rfl (Nat.le_of_ble_eq_true rfl) dX2_unlike_2 (fun H locs hP _ hS => ?_)
  have hP : va_P D vwCl (MW cc ad (ms_s_th σ 0)) H := hP
  refine lv_aload_n hx hb dX2_unlike_5 rfl (lv_at hl 0 rfl) ?_
  obtain ⟨gp1, h⟩ := h
  refine call_vv (Wd := MW cc ad) (σ := (ms_s_th σ 0)) C0 hd lens_id (As := []) (rest := []) (ct_X2_sit l D cc ad ⟨hd.1, fun _ _ => trivial⟩ g (ms_s_th σ 0) gp1) (cwV 0 hts gX2_unlike_X2_sit rfl rfl rfl (by decide +kernel) ⟨Nat.le_of_ble_eq_true rfl, Nat.le_of_ble_eq_true rfl⟩) (va_recv hK hP (ci := 2) (q0 := 0) rfl rfl) hP hS rfl hl.1 rfl (by simp [Value.category]) dX2_unlike_6 (fun u3 hp H locs hP hS => ?_)
  have h := h u3 hp
  have hP : va_P D vwCl (MW cc ad u3) H := hP
  refine lv_iconst (v := 0) hx hb dX2_unlike_9 (by decide) ?_
  refine lv_istore_n (lv' := [(1, .int 0), (0, .ref (ad 0))]) hx hb dX2_unlike_10 rfl hl (by decide) rfl (fun ls hl => ?_)
  refine lv_iconst (v := 0) hx hb dX2_unlike_11 (by decide) ?_
  refine lv_istore_n (lv' := [(2, .int 0), (1, .int 0), (0, .ref (ad 0))]) hx hb dX2_unlike_12 rfl hl (by decide) rfl (fun ls hl => ?_)
  exact lp_at (Wt := fun a => At_ p l e { frames := 3, cells := 0, slots := 0, locals := 75 } s m args below meth c (Qi_ below D (MW cc ad) A args s Post) D A (MW cc ad (a.1)) 3 13 [(0, .ref (ad 0)), (1, .int (a.2.1)), (2, .int (a.2.2))] []) (fun K hK a h => wk_X2_unlike_13 C0 hd hK a.1 a.2.1 a.2.2 h) h H locs ls hP hS (lv_sub hl [2, 1, 0] rfl)
theorem ct_X2_unlike (l : Launch) (D : va_G) (cc : Nat → ClassId) (ad : Nat → Nat) (hd : DA 13 ad (fun _ => True)) (g : CS) (σ : MS) (hp : pr_X2_unlike g σ) : Ctr l yX2_unlike wsX2_unlike { frames := 3, cells := 0, slots := 0, locals := 75 } D cc (MW cc ad) 13 ad σ [.ref (ad 0)] (po_X2_unlike g σ) :=
  ctr_i (rt := (some .int)) (by decide +kernel) rfl hd (Nat.le_of_ble_eq_true rfl) (fun p e s m below meth c A C0 hd => wk_X2_unlike_0 C0 hd σ (pu_X2_unlike g σ hp))
theorem hin_X2_mark : ∀ w ∈ u_ws RX2 TX2 21, w ∈ wsX2_mark := fun w h => List.mem_cons_of_mem _ (List.mem_append_right _ h)
set_option maxHeartbeats 4000000 in
set_option maxRecDepth 100000 in
theorem wk_X2_mark_0 {p : Program} {l : Launch} {e : Env} {s : State} {m : MethodId} {args : Array Value} {below : List Frame} {meth : Method} {c : Code} {D : va_G} {cc : Nat → ClassId} {ad : Nat → Nat} {A : Nat → Prop} {Post : Int32 → MS → Prop} {g : CS} (C0 : Cx p s m args meth c cX2_mark 5 (some .int) RX2 wsX2_mark D cc A) (hd : DA 13 ad A) (σ : MS) (x1 : Int32) (x2 : Int32) (x3 : Int32) (h : wp_X2_mark g Post σ x1 x2 x3) : At_ p l e { frames := 5, cells := 0, slots := 0, locals := 123 } s m args below meth c (Qi_ below D (MW cc ad) A args s Post) D A (MW cc ad σ) 5 0 [(0, .ref (ad 0)), (1, .int x1), (2, .int x2), (3, .int x3)] [] := by
  obtain ⟨hx, hb, hml, hr, hown, hts, hlocks, hK, hA, hX⟩ := id C0
  have hin := hin_X2_mark
  intro H locs ls hP hS hl
  unfold wp_X2_mark at h
  refine lv_aload_n hx hb dX2_mark_0 rfl (lv_at hl 0 rfl) ?_
  refine lv_iconst (v := 0) hx hb dX2_mark_1 (by decide) ?_
  refine va_put (D := D) (ci := 2) (v := .int 0) (ty := .int) (C := RX2) (T := TX2) (N := 21) hx hb hts hin tyX2 tyX2_ok nmX2 hown hK hP (mD hd) hS 0 rfl rfl 0 (by decide) (hts (.fieldLink RX2 59 "ClassSheetsModel" "thrown" "I") (List.mem_of_getElem? (i := 1) rfl)) (fun _ h9 => h9) rfl (by decide +kernel) rfl rfl (Nat.le_of_ble_eq_true rfl) dX2_mark_2 (fun H locs hP _ hS => ?_)
  have hP : va_P D vwCl (MW cc ad (ms_s_th σ 0)) H := hP
  refine lv_aload_n hx hb dX2_mark_5 rfl (lv_at hl 0 rfl) ?_
  refine lv_iload_n hx hb dX2_mark_6 rfl (lv_at hl 1 rfl) ?_
  refine call_v (Wd := MW cc ad) (σ := (ms_s_th σ 0)) C0 hd lens_id (As := [.int x1]) (rest := []) (ct_X2_noSeat l D cc ad ⟨hd.1, fun _ _ => trivial⟩ g (ms_s_th σ 0) x1) (cwV 1 hts gX2_mark_X2_noSeat rfl rfl rfl (by decide +kernel) ⟨Nat.le_of_ble_eq_true rfl, Nat.le_of_ble_eq_true rfl⟩) (va_recv hK hP (ci := 2) (q0 := 0) rfl rfl) hP hS rfl hl.1 rfl (by simp [Value.category]) dX2_mark_7 (fun r1 u hp H locs hP hS => ?_)
  obtain ⟨hp1, hp2⟩ := hp
  subst hp1
  have hp2 := hp2.symm
  subst hp2
  have hP : va_P D vwCl (MW cc ad (ms_s_th σ 0)) H := hP
  refine lv_if_ne (tgt := 21) hx hb dX2_mark_10 (by decide) (fun c2 => ?_) (fun c2 => ?_)
  · have h := h.1 c2
    refine lv_iconst (v := (-1)) hx hb dX2_mark_21 (by decide) ?_
    exact ret_i (Wd := MW cc ad) (u := (ms_s_th σ 0)) C0 h hP hS dX2_mark_22
  · have h := h.2 c2
    refine lv_aload_n hx hb dX2_mark_13 rfl (lv_at hl 0 rfl) ?_
    refine lv_iload_n hx hb dX2_mark_14 rfl (lv_at hl 2 rfl) ?_
    refine call_v (Wd := MW cc ad) (σ := (ms_s_th σ 0)) C0 hd lens_id (As := [.int x2]) (rest := []) (ct_X2_noPlace l D cc ad ⟨hd.1, fun _ _ => trivial⟩ g (ms_s_th σ 0) x2) (cwV 1 hts gX2_mark_X2_noPlace rfl rfl rfl (by decide +kernel) ⟨Nat.le_of_ble_eq_true rfl, Nat.le_of_ble_eq_true rfl⟩) (va_recv hK hP (ci := 2) (q0 := 0) rfl rfl) hP hS rfl hl.1 rfl (by simp [Value.category]) dX2_mark_15 (fun r3 u hp H locs hP hS => ?_)
    obtain ⟨hp1, hp2⟩ := hp
    subst hp1
    have hp2 := hp2.symm
    subst hp2
    have hP : va_P D vwCl (MW cc ad (ms_s_th σ 0)) H := hP
    refine lv_if_eq (tgt := 23) hx hb dX2_mark_18 (by decide) (fun c4 => ?_) (fun c4 => ?_)
    · have h := h.1 c4
      refine lv_aload_n hx hb dX2_mark_23 rfl (lv_at hl 0 rfl) ?_
      obtain ⟨gp5, h⟩ := h
      refine call_v (Wd := MW cc ad) (σ := (ms_s_th σ 0)) C0 hd lens_id (As := []) (rest := []) (ct_X2_noSheet l D cc ad ⟨hd.1, fun _ _ => trivial⟩ g (ms_s_th σ 0) gp5) (cwV 0 hts gX2_mark_X2_noSheet rfl rfl rfl (by decide +kernel) ⟨Nat.le_of_ble_eq_true rfl, Nat.le_of_ble_eq_true rfl⟩) (va_recv hK hP (ci := 2) (q0 := 0) rfl rfl) hP hS rfl hl.1 rfl (by simp [Value.category]) dX2_mark_24 (fun r6 u7 hp H locs hP hS => ?_)
      have h := h r6 u7 hp
      have hP : va_P D vwCl (MW cc ad u7) H := hP
      refine lv_if_eq (tgt := 33) hx hb dX2_mark_27 (by decide) (fun c8 => ?_) (fun c8 => ?_)
      · have h := h.1 c8
        refine lv_aload_n hx hb dX2_mark_33 rfl (lv_at hl 0 rfl) ?_
        refine lv_aload_n hx hb dX2_mark_34 rfl (lv_at hl 0 rfl) ?_
        refine va_get (D := D) (ci := 2) (v := .ref (ad 10)) (C := RX2) (T := TX2) (N := 21) hx hb hts hin hown hK hP 0 rfl rfl 12 (by decide) (hts (.fieldLink RX2 40 "ClassSheetsModel" "plan" "[I") (List.mem_of_getElem? (i := 2) rfl)) (fun _ h9 => h9) rfl dX2_mark_35 ?_
        refine lv_iload_n hx hb dX2_mark_38 rfl (lv_at hl 2 rfl) ?_
        obtain ⟨gi9, h⟩ := h
        refine va_iald (D := D) (f := ms_pn u7) hx hb hK hP 10 0 rfl rfl gi9 dX2_mark_39 ?_
        refine lv_aload_n hx hb dX2_mark_40 rfl (lv_at hl 0 rfl) ?_
        refine lv_aload_n hx hb dX2_mark_41 rfl (lv_at hl 0 rfl) ?_
        refine lv_iload_n hx hb dX2_mark_42 rfl (lv_at hl 1 rfl) ?_
        obtain ⟨gp10, h⟩ := h
        refine call_v (Wd := MW cc ad) (σ := u7) C0 hd lens_id (As := [.int x1]) (rest := [.ref (ad 0), .int (ms_pn u7 x2.toNatClampNeg), .ref (ad 0)]) (ct_X2_sheetOf l D cc ad ⟨hd.1, fun _ _ => trivial⟩ g u7 x1 gp10) (cwV 1 hts gX2_mark_X2_sheetOf rfl rfl rfl (by decide +kernel) ⟨Nat.le_of_ble_eq_true rfl, Nat.le_of_ble_eq_true rfl⟩) (va_recv hK hP (ci := 2) (q0 := 0) rfl rfl) hP hS rfl hl.1 rfl (by simp [Value.category]) dX2_mark_43 (fun r11 u12 hp H locs hP hS => ?_)
        have h := h r11 u12 hp
        have hP : va_P D vwCl (MW cc ad u12) H := hP
        refine lv_iload_n hx hb dX2_mark_46 rfl (lv_at hl 2 rfl) ?_
        obtain ⟨gp13, h⟩ := h
        refine call_v (Wd := MW cc ad) (σ := u12) C0 hd lens_id (As := [.int r11, .int x2]) (rest := [.int (ms_pn u7 x2.toNatClampNeg), .ref (ad 0)]) (ct_X2_variantAt l D cc ad ⟨hd.1, fun _ _ => trivial⟩ g u12 r11 x2 gp13) (cwV 2 hts gX2_mark_X2_variantAt rfl rfl rfl (by decide +kernel) ⟨Nat.le_of_ble_eq_true rfl, Nat.le_of_ble_eq_true rfl⟩) (va_recv hK hP (ci := 2) (q0 := 0) rfl rfl) hP hS rfl hl.1 rfl (by simp [Value.category]) dX2_mark_47 (fun r14 u15 hp H locs hP hS => ?_)
        have h := h r14 u15 hp
        have hP : va_P D vwCl (MW cc ad u15) H := hP
        refine lv_iload_n hx hb dX2_mark_50 rfl (lv_at hl 3 rfl) ?_
        obtain ⟨gp16, h⟩ := h
        refine call_v (Wd := MW cc ad) (σ := u15) C0 hd lens_id (As := [.int (ms_pn u7 x2.toNatClampNeg), .int r14, .int x3]) (rest := []) (ct_X2_tellsOf l D cc ad ⟨hd.1, fun _ _ => trivial⟩ g u15 (ms_pn u7 x2.toNatClampNeg) r14 x3 gp16) (cwV 3 hts gX2_mark_X2_tellsOf rfl rfl rfl (by decide +kernel) ⟨Nat.le_of_ble_eq_true rfl, Nat.le_of_ble_eq_true rfl⟩) (va_recv hK hP (ci := 2) (q0 := 0) rfl rfl) hP hS rfl hl.1 rfl (by simp [Value.category]) dX2_mark_51 (fun r17 u hp H locs hP hS => ?_)
        obtain ⟨hp1, hp2⟩ := hp
        subst hp1
        have hp2 := hp2.symm
        subst hp2
        have hP : va_P D vwCl (MW cc ad u15) H := hP
        refine lv_topi (fun x4_18 ex4_18 => ?_)
        have h := h x4_18 ex4_18
        refine lv_istore (lv' := [(4, .int x4_18), (0, .ref (ad 0)), (1, .int x1), (2, .int x2), (3, .int x3)]) hx hb dX2_mark_54 hl (by decide) rfl (fun ls hl => ?_)
        refine lv_iload hx hb dX2_mark_56 (lv_at hl 0 rfl) ?_
        refine lv_if_ne (tgt := 74) hx hb dX2_mark_58 (by decide) (fun c19 => ?_) (fun c19 => ?_)
        · have h := h.1 c19
          refine lv_aload_n hx hb dX2_mark_74 rfl (lv_at hl 1 rfl) ?_
          refine lv_dup hx hb dX2_mark_75 rfl ?_
          refine va_get (D := D) (ci := 2) (v := .int (ms_wr u15)) (C := RX2) (T := TX2) (N := 21) hx hb hts hin hown hK hP 0 rfl rfl 20 (by decide) (hts (.fieldLink RX2 175 "ClassSheetsModel" "wrong" "I") (List.mem_of_getElem? (i := 4) rfl)) (fun _ h9 => h9) rfl dX2_mark_76 ?_
          refine lv_iconst (v := 1) hx hb dX2_mark_79 (by decide) ?_
          refine lv_iadd hx hb dX2_mark_80 ?_
          refine va_put (D := D) (ci := 2) (v := .int ((ms_wr u15) + 1)) (ty := .int) (C := RX2) (T := TX2) (N := 21) hx hb hts hin tyX2 tyX2_ok nmX2 hown hK hP (mD hd) hS 0 rfl rfl 20 (by decide) (hts (.fieldLink RX2 175 "ClassSheetsModel" "wrong" "I") (List.mem_of_getElem? (i := 4) rfl)) (fun _ h9 => h9) rfl (by decide +kernel) rfl rfl (Nat.le_of_ble_eq_true rfl) dX2_mark_81 (fun H locs hP _ hS => ?_)
          have hP : va_P D vwCl (MW cc ad (ms_s_wr u15 ((ms_wr u15) + 1))) H := hP
          refine lv_aload_n hx hb dX2_mark_84 rfl (lv_at hl 1 rfl) ?_
          refine va_get (D := D) (ci := 2) (v := .ref (ad 12)) (C := RX2) (T := TX2) (N := 21) hx hb hts hin hown hK hP 0 rfl rfl 18 (by decide) (hts (.fieldLink RX2 56 "ClassSheetsModel" "missed" "[I") (List.mem_of_getElem? (i := 5) rfl)) (fun _ h9 => h9) rfl dX2_mark_85 ?_
          refine lv_bipush (v := 8) hx hb dX2_mark_88 (by decide) ?_
          refine lv_bipush (v := 8) hx hb dX2_mark_90 (by decide) ?_
          refine lv_iload_n hx hb dX2_mark_92 rfl (lv_at hl 2 rfl) ?_
          refine lv_bipush (v := 10) hx hb dX2_mark_93 (by decide) ?_
          refine lv_idiv hx hb dX2_mark_95 (by decide) ?_
          refine lv_imul hx hb dX2_mark_96 ?_
          refine lv_iload_n hx hb dX2_mark_97 rfl (lv_at hl 2 rfl) ?_
          refine lv_bipush (v := 10) hx hb dX2_mark_98 (by decide) ?_
          refine lv_irem hx hb dX2_mark_100 (by decide) ?_
          refine lv_iadd hx hb dX2_mark_101 ?_
          refine lv_imul hx hb dX2_mark_102 ?_
          refine lv_aload_n hx hb dX2_mark_103 rfl (lv_at hl 1 rfl) ?_
          refine va_get (D := D) (ci := 2) (v := .ref (ad 10)) (C := RX2) (T := TX2) (N := 21) hx hb hts hin hown hK hP 0 rfl rfl 12 (by decide) (hts (.fieldLink RX2 40 "ClassSheetsModel" "plan" "[I") (List.mem_of_getElem? (i := 2) rfl)) (fun _ h9 => h9) rfl dX2_mark_104 ?_
          refine lv_iload_n hx hb dX2_mark_107 rfl (lv_at hl 3 rfl) ?_
          obtain ⟨gi20, h⟩ := h
          refine va_iald (D := D) (f := ms_pn (ms_s_wr u15 ((ms_wr u15) + 1))) hx hb hK hP 10 0 rfl rfl gi20 dX2_mark_108 ?_
          refine lv_iadd hx hb dX2_mark_109 ?_
          refine lv_dup2_11 hx hb dX2_mark_110 rfl rfl ?_
          obtain ⟨gi21, h⟩ := h
          refine va_iald (D := D) (f := ms_mi (ms_s_wr u15 ((ms_wr u15) + 1))) hx hb hK hP 12 0 rfl rfl gi21 dX2_mark_111 ?_
          refine lv_iconst (v := 1) hx hb dX2_mark_112 (by decide) ?_
          refine lv_iadd hx hb dX2_mark_113 ?_
          obtain ⟨gi22, h⟩ := h
          refine va_iast (D := D) (f := ms_mi (ms_s_wr u15 ((ms_wr u15) + 1))) (x := ((ms_mi (ms_s_wr u15 ((ms_wr u15) + 1)) ((8 * ((8 * (x1 / 10)) + (x1 - x1 / 10 * 10))) + (ms_pn (ms_s_wr u15 ((ms_wr u15) + 1)) x2.toNatClampNeg)).toNatClampNeg) + 1)) hx hb hK hP (mD hd) hS 12 0 rfl rfl gi22 dX2_mark_114 (fun H locs hP _ hS => ?_)
          have hP : va_P D vwCl (MW cc ad (ms_s_mi (ms_s_wr u15 ((ms_wr u15) + 1)) (upd (ms_mi (ms_s_wr u15 ((ms_wr u15) + 1))) ((8 * ((8 * (x1 / 10)) + (x1 - x1 / 10 * 10))) + (ms_pn (ms_s_wr u15 ((ms_wr u15) + 1)) x2.toNatClampNeg)).toNatClampNeg ((ms_mi (ms_s_wr u15 ((ms_wr u15) + 1)) ((8 * ((8 * (x1 / 10)) + (x1 - x1 / 10 * 10))) + (ms_pn (ms_s_wr u15 ((ms_wr u15) + 1)) x2.toNatClampNeg)).toNatClampNeg) + 1)))) H := hP
          refine lv_iload hx hb dX2_mark_115 (lv_at hl 0 rfl) ?_
          exact ret_i (Wd := MW cc ad) (u := (ms_s_mi (ms_s_wr u15 ((ms_wr u15) + 1)) (upd (ms_mi (ms_s_wr u15 ((ms_wr u15) + 1))) ((8 * ((8 * (x1 / 10)) + (x1 - x1 / 10 * 10))) + (ms_pn (ms_s_wr u15 ((ms_wr u15) + 1)) x2.toNatClampNeg)).toNatClampNeg ((ms_mi (ms_s_wr u15 ((ms_wr u15) + 1)) ((8 * ((8 * (x1 / 10)) + (x1 - x1 / 10 * 10))) + (ms_pn (ms_s_wr u15 ((ms_wr u15) + 1)) x2.toNatClampNeg)).toNatClampNeg) + 1)))) C0 h hP hS dX2_mark_117
        · have h := h.2 c19
          refine lv_aload_n hx hb dX2_mark_61 rfl (lv_at hl 1 rfl) ?_
          refine lv_dup hx hb dX2_mark_62 rfl ?_
          refine va_get (D := D) (ci := 2) (v := .int (ms_ri u15)) (C := RX2) (T := TX2) (N := 21) hx hb hts hin hown hK hP 0 rfl rfl 19 (by decide) (hts (.fieldLink RX2 172 "ClassSheetsModel" "right" "I") (List.mem_of_getElem? (i := 3) rfl)) (fun _ h9 => h9) rfl dX2_mark_63 ?_
          refine lv_iconst (v := 1) hx hb dX2_mark_66 (by decide) ?_
          refine lv_iadd hx hb dX2_mark_67 ?_
          refine va_put (D := D) (ci := 2) (v := .int ((ms_ri u15) + 1)) (ty := .int) (C := RX2) (T := TX2) (N := 21) hx hb hts hin tyX2 tyX2_ok nmX2 hown hK hP (mD hd) hS 0 rfl rfl 19 (by decide) (hts (.fieldLink RX2 172 "ClassSheetsModel" "right" "I") (List.mem_of_getElem? (i := 3) rfl)) (fun _ h9 => h9) rfl (by decide +kernel) rfl rfl (Nat.le_of_ble_eq_true rfl) dX2_mark_68 (fun H locs hP _ hS => ?_)
          have hP : va_P D vwCl (MW cc ad (ms_s_ri u15 ((ms_ri u15) + 1))) H := hP
          refine lv_goto (tgt := 115) hx hb dX2_mark_71 (by decide) ?_
          refine lv_iload hx hb dX2_mark_115 (lv_at hl 0 rfl) ?_
          exact ret_i (Wd := MW cc ad) (u := (ms_s_ri u15 ((ms_ri u15) + 1))) C0 h hP hS dX2_mark_117
      · have h := h.2 c8
        refine lv_bipush (v := (-3)) hx hb dX2_mark_30 (by decide) ?_
        exact ret_i (Wd := MW cc ad) (u := u7) C0 h hP hS dX2_mark_32
    · have h := h.2 c4
      refine lv_iconst (v := (-1)) hx hb dX2_mark_21 (by decide) ?_
      exact ret_i (Wd := MW cc ad) (u := (ms_s_th σ 0)) C0 h hP hS dX2_mark_22
theorem ct_X2_mark (l : Launch) (D : va_G) (cc : Nat → ClassId) (ad : Nat → Nat) (hd : DA 13 ad (fun _ => True)) (g : CS) (σ : MS) (x1 : Int32) (x2 : Int32) (x3 : Int32) (hp : pr_X2_mark g σ x1 x2 x3) : Ctr l yX2_mark wsX2_mark { frames := 5, cells := 0, slots := 0, locals := 123 } D cc (MW cc ad) 13 ad σ [.ref (ad 0), .int x1, .int x2, .int x3] (po_X2_mark g σ x1 x2 x3) :=
  ctr_i (rt := (some .int)) (by decide +kernel) rfl hd (Nat.le_of_ble_eq_true rfl) (fun p e s m below meth c A C0 hd => wk_X2_mark_0 C0 hd σ x1 x2 x3 (pu_X2_mark g σ x1 x2 x3 hp))
theorem hin_X2_missedOf : ∀ w ∈ u_ws RX2 TX2 21, w ∈ wsX2_missedOf := fun w h => List.mem_cons_of_mem _ (List.mem_append_right _ h)
set_option maxHeartbeats 4000000 in
set_option maxRecDepth 100000 in
theorem wk_X2_missedOf_25 {p : Program} {l : Launch} {e : Env} {s : State} {m : MethodId} {args : Array Value} {below : List Frame} {meth : Method} {c : Code} {D : va_G} {cc : Nat → ClassId} {ad : Nat → Nat} {A : Nat → Prop} {Post : Int32 → MS → Prop} {g : CS} (C0 : Cx p s m args meth c cX2_missedOf 5 (some .int) RX2 wsX2_missedOf D cc A) (hd : DA 13 ad A) {K5 : (MS × Int32 × Int32 × Int32 × Int32) → Prop} (hK5 : ∀ a, K5 a → At_ p l e { frames := 0, cells := 0, slots := 0, locals := 0 } s m args below meth c (Qi_ below D (MW cc ad) A args s Post) D A (MW cc ad (a.1)) 5 5 [(0, .ref (ad 0)), (1, .int (a.2.1)), (2, .int (a.2.2.1)), (3, .int (a.2.2.2.1)), (4, .int (a.2.2.2.2))] []) (σ : MS) (x1 : Int32) (x2 : Int32) (x4 : Int32) (s0 : Int32) (h : wp_X2_missedOf_25 g K5 Post σ x1 x2 x4 s0) : At_ p l e { frames := 0, cells := 0, slots := 0, locals := 0 } s m args below meth c (Qi_ below D (MW cc ad) A args s Post) D A (MW cc ad σ) 5 25 [(0, .ref (ad 0)), (1, .int x1), (2, .int x2), (4, .int x4)] [.int s0] := by
  obtain ⟨hx, hb, hml, hr, hown, hts, hlocks, hK, hA, hX⟩ := id C0
  have hin := hin_X2_missedOf
  intro H locs ls hP hS hl
  unfold wp_X2_missedOf_25 at h
  refine lv_aload_n hx hb dX2_missedOf_25 rfl (lv_at hl 0 rfl) ?_
  refine va_get (D := D) (ci := 2) (v := .ref (ad 12)) (C := RX2) (T := TX2) (N := 21) hx hb hts hin hown hK hP 0 rfl rfl 18 (by decide) (hts (.fieldLink RX2 56 "ClassSheetsModel" "missed" "[I") (List.mem_of_getElem? (i := 1) rfl)) (fun _ h9 => h9) rfl dX2_missedOf_26 ?_
  refine lv_bipush (v := 8) hx hb dX2_missedOf_29 (by decide) ?_
  refine lv_bipush (v := 8) hx hb dX2_missedOf_31 (by decide) ?_
  refine lv_iload_n hx hb dX2_missedOf_33 rfl (lv_at hl 1 rfl) ?_
  refine lv_bipush (v := 10) hx hb dX2_missedOf_34 (by decide) ?_
  refine lv_idiv hx hb dX2_missedOf_36 (by decide) ?_
  refine lv_imul hx hb dX2_missedOf_37 ?_
  refine lv_iload_n hx hb dX2_missedOf_38 rfl (lv_at hl 1 rfl) ?_
  refine lv_bipush (v := 10) hx hb dX2_missedOf_39 (by decide) ?_
  refine lv_irem hx hb dX2_missedOf_41 (by decide) ?_
  refine lv_iadd hx hb dX2_missedOf_42 ?_
  refine lv_imul hx hb dX2_missedOf_43 ?_
  refine lv_iload hx hb dX2_missedOf_44 (lv_at hl 3 rfl) ?_
  refine lv_iadd hx hb dX2_missedOf_46 ?_
  obtain ⟨gi1, h⟩ := h
  refine va_iald (D := D) (f := ms_mi σ) hx hb hK hP 12 0 rfl rfl gi1 dX2_missedOf_47 ?_
  refine lv_goto (tgt := 52) hx hb dX2_missedOf_48 (by decide) ?_
  refine lv_iadd hx hb dX2_missedOf_52 ?_
  refine lv_topi (fun x3_2 ex3_2 => ?_)
  have h := h x3_2 ex3_2
  refine lv_istore_n (lv' := [(3, .int x3_2), (0, .ref (ad 0)), (1, .int x1), (2, .int x2), (4, .int x4)]) hx hb dX2_missedOf_53 rfl hl (by decide) rfl (fun ls hl => ?_)
  obtain ⟨x4_3, ex4_3⟩ : ∃ y : Int32, y = x4 + 1 := ⟨_, rfl⟩
  have h := h x4_3 ex4_3
  refine lv_iinc (v := x4_3) (lv' := [(4, .int x4_3), (3, .int x3_2), (0, .ref (ad 0)), (1, .int x1), (2, .int x2)]) hx hb dX2_missedOf_54 hl (k := 4) rfl (by rw [ex4_3]; rfl) (by decide) rfl (fun ls hl => ?_)
  refine lv_goto (tgt := 5) hx hb dX2_missedOf_57 (by decide) ?_
  exact hK5 (σ, x1, x2, x3_2, x4_3) h H locs ls hP hS (lv_sub hl [2, 3, 4, 1, 0] rfl)
set_option maxHeartbeats 4000000 in
set_option maxRecDepth 100000 in
theorem wk_X2_missedOf_5 {p : Program} {l : Launch} {e : Env} {s : State} {m : MethodId} {args : Array Value} {below : List Frame} {meth : Method} {c : Code} {D : va_G} {cc : Nat → ClassId} {ad : Nat → Nat} {A : Nat → Prop} {Post : Int32 → MS → Prop} {g : CS} (C0 : Cx p s m args meth c cX2_missedOf 5 (some .int) RX2 wsX2_missedOf D cc A) (hd : DA 13 ad A) {K5 : (MS × Int32 × Int32 × Int32 × Int32) → Prop} (hK5 : ∀ a, K5 a → At_ p l e { frames := 0, cells := 0, slots := 0, locals := 0 } s m args below meth c (Qi_ below D (MW cc ad) A args s Post) D A (MW cc ad (a.1)) 5 5 [(0, .ref (ad 0)), (1, .int (a.2.1)), (2, .int (a.2.2.1)), (3, .int (a.2.2.2.1)), (4, .int (a.2.2.2.2))] []) (σ : MS) (x1 : Int32) (x2 : Int32) (x3 : Int32) (x4 : Int32) (h : wp_X2_missedOf_5 g K5 Post σ x1 x2 x3 x4) : At_ p l e { frames := 0, cells := 0, slots := 0, locals := 0 } s m args below meth c (Qi_ below D (MW cc ad) A args s Post) D A (MW cc ad σ) 5 5 [(0, .ref (ad 0)), (1, .int x1), (2, .int x2), (3, .int x3), (4, .int x4)] [] := by
  obtain ⟨hx, hb, hml, hr, hown, hts, hlocks, hK, hA, hX⟩ := id C0
  have hin := hin_X2_missedOf
  intro H locs ls hP hS hl
  unfold wp_X2_missedOf_5 at h
  refine lv_iload hx hb dX2_missedOf_5 (lv_at hl 4 rfl) ?_
  refine lv_bipush (v := 8) hx hb dX2_missedOf_7 (by decide) ?_
  refine lv_icmp_ge (tgt := 60) hx hb dX2_missedOf_9 (by decide) (fun c1 => ?_) (fun c1 => ?_)
  · have h := h.1 c1
    refine lv_iload_n hx hb dX2_missedOf_60 rfl (lv_at hl 3 rfl) ?_
    exact ret_i (Wd := MW cc ad) (u := σ) C0 h hP hS dX2_missedOf_61
  · have h := h.2 c1
    refine lv_iload_n hx hb dX2_missedOf_12 rfl (lv_at hl 3 rfl) ?_
    refine lv_iload_n hx hb dX2_missedOf_13 rfl (lv_at hl 2 rfl) ?_
    refine lv_bipush (v := (-9)) hx hb dX2_missedOf_14 (by decide) ?_
    refine lv_icmp_eq (tgt := 25) hx hb dX2_missedOf_16 (by decide) (fun c2 => ?_) (fun c2 => ?_)
    · have h := h.1 c2
      exact wk_X2_missedOf_25 C0 hd hK5 σ x1 x2 x4 x3 h H locs ls hP hS (lv_sub hl [0, 1, 2, 4] rfl)
    · have h := h.2 c2
      refine lv_iload_n hx hb dX2_missedOf_19 rfl (lv_at hl 2 rfl) ?_
      refine lv_iload hx hb dX2_missedOf_20 (lv_at hl 4 rfl) ?_
      refine lv_icmp_ne (tgt := 51) hx hb dX2_missedOf_22 (by decide) (fun c3 => ?_) (fun c3 => ?_)
      · have h := h.1 c3
        refine lv_iconst (v := 0) hx hb dX2_missedOf_51 (by decide) ?_
        refine lv_iadd hx hb dX2_missedOf_52 ?_
        refine lv_topi (fun x3_4 ex3_4 => ?_)
        have h := h x3_4 ex3_4
        refine lv_istore_n (lv' := [(3, .int x3_4), (0, .ref (ad 0)), (1, .int x1), (2, .int x2), (4, .int x4)]) hx hb dX2_missedOf_53 rfl hl (by decide) rfl (fun ls hl => ?_)
        obtain ⟨x4_5, ex4_5⟩ : ∃ y : Int32, y = x4 + 1 := ⟨_, rfl⟩
        have h := h x4_5 ex4_5
        refine lv_iinc (v := x4_5) (lv' := [(4, .int x4_5), (3, .int x3_4), (0, .ref (ad 0)), (1, .int x1), (2, .int x2)]) hx hb dX2_missedOf_54 hl (k := 4) rfl (by rw [ex4_5]; rfl) (by decide) rfl (fun ls hl => ?_)
        refine lv_goto (tgt := 5) hx hb dX2_missedOf_57 (by decide) ?_
        exact hK5 (σ, x1, x2, x3_4, x4_5) h H locs ls hP hS (lv_sub hl [2, 3, 4, 1, 0] rfl)
      · have h := h.2 c3
        exact wk_X2_missedOf_25 C0 hd hK5 σ x1 x2 x4 x3 h H locs ls hP hS (lv_sub hl [0, 1, 2, 4] rfl)
set_option maxHeartbeats 4000000 in
set_option maxRecDepth 100000 in
theorem wk_X2_missedOf_0 {p : Program} {l : Launch} {e : Env} {s : State} {m : MethodId} {args : Array Value} {below : List Frame} {meth : Method} {c : Code} {D : va_G} {cc : Nat → ClassId} {ad : Nat → Nat} {A : Nat → Prop} {Post : Int32 → MS → Prop} {g : CS} (C0 : Cx p s m args meth c cX2_missedOf 5 (some .int) RX2 wsX2_missedOf D cc A) (hd : DA 13 ad A) (σ : MS) (x1 : Int32) (x2 : Int32) (h : wp_X2_missedOf g Post σ x1 x2) : At_ p l e { frames := 0, cells := 0, slots := 0, locals := 0 } s m args below meth c (Qi_ below D (MW cc ad) A args s Post) D A (MW cc ad σ) 5 0 [(0, .ref (ad 0)), (1, .int x1), (2, .int x2)] [] := by
  obtain ⟨hx, hb, hml, hr, hown, hts, hlocks, hK, hA, hX⟩ := id C0
  have hin := hin_X2_missedOf
  intro H locs ls hP hS hl
  unfold wp_X2_missedOf at h
  refine lv_iconst (v := 0) hx hb dX2_missedOf_0 (by decide) ?_
  refine lv_istore_n (lv' := [(3, .int 0), (0, .ref (ad 0)), (1, .int x1), (2, .int x2)]) hx hb dX2_missedOf_1 rfl hl (by decide) rfl (fun ls hl => ?_)
  refine lv_iconst (v := 0) hx hb dX2_missedOf_2 (by decide) ?_
  refine lv_istore (lv' := [(4, .int 0), (3, .int 0), (0, .ref (ad 0)), (1, .int x1), (2, .int x2)]) hx hb dX2_missedOf_3 hl (by decide) rfl (fun ls hl => ?_)
  exact lp_at (Wt := fun a => At_ p l e { frames := 0, cells := 0, slots := 0, locals := 0 } s m args below meth c (Qi_ below D (MW cc ad) A args s Post) D A (MW cc ad (a.1)) 5 5 [(0, .ref (ad 0)), (1, .int (a.2.1)), (2, .int (a.2.2.1)), (3, .int (a.2.2.2.1)), (4, .int (a.2.2.2.2))] []) (fun K hK a h => wk_X2_missedOf_5 C0 hd hK a.1 a.2.1 a.2.2.1 a.2.2.2.1 a.2.2.2.2 h) h H locs ls hP hS (lv_sub hl [2, 3, 4, 1, 0] rfl)
theorem ct_X2_missedOf (l : Launch) (D : va_G) (cc : Nat → ClassId) (ad : Nat → Nat) (hd : DA 13 ad (fun _ => True)) (g : CS) (σ : MS) (x1 : Int32) (x2 : Int32) (hp : pr_X2_missedOf g σ x1 x2) : Ctr l yX2_missedOf wsX2_missedOf { frames := 0, cells := 0, slots := 0, locals := 0 } D cc (MW cc ad) 13 ad σ [.ref (ad 0), .int x1, .int x2] (fun r u => r = fn_X2_missedOf g σ x1 x2 ∧ u = σ) :=
  ctr_i (rt := (some .int)) (by decide +kernel) rfl hd (Nat.le_of_ble_eq_true rfl) (fun p e s m below meth c A C0 hd => wk_X2_missedOf_0 C0 hd σ x1 x2 (pu_X2_missedOf g σ x1 x2 hp))
theorem hin_X2_missed : ∀ w ∈ u_ws RX2 TX2 21, w ∈ wsX2_missed := fun w h => List.mem_cons_of_mem _ (List.mem_append_right _ h)
set_option maxHeartbeats 4000000 in
set_option maxRecDepth 100000 in
theorem wk_X2_missed_31 {p : Program} {l : Launch} {e : Env} {s : State} {m : MethodId} {args : Array Value} {below : List Frame} {meth : Method} {c : Code} {D : va_G} {cc : Nat → ClassId} {ad : Nat → Nat} {A : Nat → Prop} {Post : Int32 → MS → Prop} {g : CS} (C0 : Cx p s m args meth c cX2_missed 3 (some .int) RX2 wsX2_missed D cc A) (hd : DA 13 ad A) (σ : MS) (x1 : Int32) (x2 : Int32) (h : wp_X2_missed_31 g Post σ x1 x2) : At_ p l e { frames := 2, cells := 0, slots := 0, locals := 46 } s m args below meth c (Qi_ below D (MW cc ad) A args s Post) D A (MW cc ad σ) 3 31 [(0, .ref (ad 0)), (1, .int x1), (2, .int x2)] [] := by
  obtain ⟨hx, hb, hml, hr, hown, hts, hlocks, hK, hA, hX⟩ := id C0
  have hin := hin_X2_missed
  intro H locs ls hP hS hl
  unfold wp_X2_missed_31 at h
  refine lv_aload_n hx hb dX2_missed_31 rfl (lv_at hl 0 rfl) ?_
  refine lv_iload_n hx hb dX2_missed_32 rfl (lv_at hl 1 rfl) ?_
  refine lv_iload_n hx hb dX2_missed_33 rfl (lv_at hl 2 rfl) ?_
  obtain ⟨gp1, h⟩ := h
  refine call_v (Wd := MW cc ad) (σ := σ) C0 hd lens_id (As := [.int x1, .int x2]) (rest := []) (ct_X2_missedOf l D cc ad ⟨hd.1, fun _ _ => trivial⟩ g σ x1 x2 gp1) (cwV 2 hts gX2_missed_X2_missedOf rfl rfl rfl (by decide +kernel) ⟨Nat.le_of_ble_eq_true rfl, Nat.le_of_ble_eq_true rfl⟩) (va_recv hK hP (ci := 2) (q0 := 0) rfl rfl) hP hS rfl hl.1 rfl (by simp [Value.category]) dX2_missed_34 (fun r2 u hp H locs hP hS => ?_)
  obtain ⟨hp1, hp2⟩ := hp
  subst hp1
  have hp2 := hp2.symm
  subst hp2
  have hP : va_P D vwCl (MW cc ad σ) H := hP
  exact ret_i (Wd := MW cc ad) (u := σ) C0 h hP hS dX2_missed_37
set_option maxHeartbeats 4000000 in
set_option maxRecDepth 100000 in
theorem wk_X2_missed_0 {p : Program} {l : Launch} {e : Env} {s : State} {m : MethodId} {args : Array Value} {below : List Frame} {meth : Method} {c : Code} {D : va_G} {cc : Nat → ClassId} {ad : Nat → Nat} {A : Nat → Prop} {Post : Int32 → MS → Prop} {g : CS} (C0 : Cx p s m args meth c cX2_missed 3 (some .int) RX2 wsX2_missed D cc A) (hd : DA 13 ad A) (σ : MS) (x1 : Int32) (x2 : Int32) (h : wp_X2_missed g Post σ x1 x2) : At_ p l e { frames := 2, cells := 0, slots := 0, locals := 46 } s m args below meth c (Qi_ below D (MW cc ad) A args s Post) D A (MW cc ad σ) 3 0 [(0, .ref (ad 0)), (1, .int x1), (2, .int x2)] [] := by
  obtain ⟨hx, hb, hml, hr, hown, hts, hlocks, hK, hA, hX⟩ := id C0
  have hin := hin_X2_missed
  intro H locs ls hP hS hl
  unfold wp_X2_missed at h
  refine lv_aload_n hx hb dX2_missed_0 rfl (lv_at hl 0 rfl) ?_
  refine lv_iconst (v := 0) hx hb dX2_missed_1 (by decide) ?_
  refine va_put (D := D) (ci := 2) (v := .int 0) (ty := .int) (C := RX2) (T := TX2) (N := 21) hx hb hts hin tyX2 tyX2_ok nmX2 hown hK hP (mD hd) hS 0 rfl rfl 0 (by decide) (hts (.fieldLink RX2 59 "ClassSheetsModel" "thrown" "I") (List.mem_of_getElem? (i := 1) rfl)) (fun _ h9 => h9) rfl (by decide +kernel) rfl rfl (Nat.le_of_ble_eq_true rfl) dX2_missed_2 (fun H locs hP _ hS => ?_)
  have hP : va_P D vwCl (MW cc ad (ms_s_th σ 0)) H := hP
  refine lv_aload_n hx hb dX2_missed_5 rfl (lv_at hl 0 rfl) ?_
  refine lv_iload_n hx hb dX2_missed_6 rfl (lv_at hl 1 rfl) ?_
  refine call_v (Wd := MW cc ad) (σ := (ms_s_th σ 0)) C0 hd lens_id (As := [.int x1]) (rest := []) (ct_X2_noSeat l D cc ad ⟨hd.1, fun _ _ => trivial⟩ g (ms_s_th σ 0) x1) (cwV 1 hts gX2_missed_X2_noSeat rfl rfl rfl (by decide +kernel) ⟨Nat.le_of_ble_eq_true rfl, Nat.le_of_ble_eq_true rfl⟩) (va_recv hK hP (ci := 2) (q0 := 0) rfl rfl) hP hS rfl hl.1 rfl (by simp [Value.category]) dX2_missed_7 (fun r1 u hp H locs hP hS => ?_)
  obtain ⟨hp1, hp2⟩ := hp
  subst hp1
  have hp2 := hp2.symm
  subst hp2
  have hP : va_P D vwCl (MW cc ad (ms_s_th σ 0)) H := hP
  refine lv_if_ne (tgt := 27) hx hb dX2_missed_10 (by decide) (fun c2 => ?_) (fun c2 => ?_)
  · have h := h.1 c2
    refine lv_iconst (v := (-1)) hx hb dX2_missed_27 (by decide) ?_
    refine lv_goto (tgt := 37) hx hb dX2_missed_28 (by decide) ?_
    exact ret_i (Wd := MW cc ad) (u := (ms_s_th σ 0)) C0 h hP hS dX2_missed_37
  · have h := h.2 c2
    refine lv_iload_n hx hb dX2_missed_13 rfl (lv_at hl 2 rfl) ?_
    refine lv_bipush (v := (-9)) hx hb dX2_missed_14 (by decide) ?_
    refine lv_icmp_eq (tgt := 31) hx hb dX2_missed_16 (by decide) (fun c3 => ?_) (fun c3 => ?_)
    · have h := h.1 c3
      exact wk_X2_missed_31 C0 hd (ms_s_th σ 0) x1 x2 h H locs ls hP hS (lv_sub hl [0, 1, 2] rfl)
    · have h := h.2 c3
      refine lv_aload_n hx hb dX2_missed_19 rfl (lv_at hl 0 rfl) ?_
      refine lv_iload_n hx hb dX2_missed_20 rfl (lv_at hl 2 rfl) ?_
      refine call_v (Wd := MW cc ad) (σ := (ms_s_th σ 0)) C0 hd lens_id (As := [.int x2]) (rest := []) (ct_X2_noKind l D cc ad ⟨hd.1, fun _ _ => trivial⟩ g (ms_s_th σ 0) x2) (cwV 1 hts gX2_missed_X2_noKind rfl rfl rfl (by decide +kernel) ⟨Nat.le_of_ble_eq_true rfl, Nat.le_of_ble_eq_true rfl⟩) (va_recv hK hP (ci := 2) (q0 := 0) rfl rfl) hP hS rfl hl.1 rfl (by simp [Value.category]) dX2_missed_21 (fun r4 u hp H locs hP hS => ?_)
      obtain ⟨hp1, hp2⟩ := hp
      subst hp1
      have hp2 := hp2.symm
      subst hp2
      have hP : va_P D vwCl (MW cc ad (ms_s_th σ 0)) H := hP
      refine lv_if_eq (tgt := 31) hx hb dX2_missed_24 (by decide) (fun c5 => ?_) (fun c5 => ?_)
      · have h := h.1 c5
        exact wk_X2_missed_31 C0 hd (ms_s_th σ 0) x1 x2 h H locs ls hP hS (lv_sub hl [0, 1, 2] rfl)
      · have h := h.2 c5
        refine lv_iconst (v := (-1)) hx hb dX2_missed_27 (by decide) ?_
        refine lv_goto (tgt := 37) hx hb dX2_missed_28 (by decide) ?_
        exact ret_i (Wd := MW cc ad) (u := (ms_s_th σ 0)) C0 h hP hS dX2_missed_37
theorem ct_X2_missed (l : Launch) (D : va_G) (cc : Nat → ClassId) (ad : Nat → Nat) (hd : DA 13 ad (fun _ => True)) (g : CS) (σ : MS) (x1 : Int32) (x2 : Int32) (hp : pr_X2_missed g σ x1 x2) : Ctr l yX2_missed wsX2_missed { frames := 2, cells := 0, slots := 0, locals := 46 } D cc (MW cc ad) 13 ad σ [.ref (ad 0), .int x1, .int x2] (po_X2_missed g σ x1 x2) :=
  ctr_i (rt := (some .int)) (by decide +kernel) rfl hd (Nat.le_of_ble_eq_true rfl) (fun p e s m below meth c A C0 hd => wk_X2_missed_0 C0 hd σ x1 x2 (pu_X2_missed g σ x1 x2 hp))
theorem hin_X2_review : ∀ w ∈ u_ws RX2 TX2 21, w ∈ wsX2_review := fun w h => List.mem_cons_of_mem _ (List.mem_append_right _ h)
set_option maxHeartbeats 4000000 in
set_option maxRecDepth 100000 in
theorem wk_X2_review_77 {p : Program} {l : Launch} {e : Env} {s : State} {m : MethodId} {args : Array Value} {below : List Frame} {meth : Method} {c : Code} {D : va_G} {cc : Nat → ClassId} {ad : Nat → Nat} {A : Nat → Prop} {Post : Int32 → MS → Prop} {g : CS} (C0 : Cx p s m args meth c cX2_review 10 (some .int) RX2 wsX2_review D cc A) (hd : DA 13 ad A) {K77 : (MS × Int32 × Int32 × Int32 × Int32 × Int32 × Int32 × Int32 × Int32) → Prop} (hK77 : ∀ a, K77 a → At_ p l e { frames := 2, cells := 0, slots := 0, locals := 46 } s m args below meth c (Qi_ below D (MW cc ad) A args s Post) D A (MW cc ad (a.1)) 10 77 [(0, .ref (ad 0)), (1, .int (a.2.1)), (2, .int (a.2.2.1)), (3, .int (a.2.2.2.1)), (4, .int (a.2.2.2.2.1)), (5, .int (a.2.2.2.2.2.1)), (6, .int (a.2.2.2.2.2.2.1)), (7, .int (a.2.2.2.2.2.2.2.1)), (8, .int (a.2.2.2.2.2.2.2.2))] []) (σ : MS) (x1 : Int32) (x2 : Int32) (x3 : Int32) (x4 : Int32) (x5 : Int32) (x6 : Int32) (x7 : Int32) (x8 : Int32) (h : wp_X2_review_77 g K77 Post σ x1 x2 x3 x4 x5 x6 x7 x8) : At_ p l e { frames := 2, cells := 0, slots := 0, locals := 46 } s m args below meth c (Qi_ below D (MW cc ad) A args s Post) D A (MW cc ad σ) 10 77 [(0, .ref (ad 0)), (1, .int x1), (2, .int x2), (3, .int x3), (4, .int x4), (5, .int x5), (6, .int x6), (7, .int x7), (8, .int x8)] [] := by
  obtain ⟨hx, hb, hml, hr, hown, hts, hlocks, hK, hA, hX⟩ := id C0
  have hin := hin_X2_review
  intro H locs ls hP hS hl
  unfold wp_X2_review_77 at h
  refine lv_iload hx hb dX2_review_77 (lv_at hl 8 rfl) ?_
  refine lv_aload_n hx hb dX2_review_79 rfl (lv_at hl 0 rfl) ?_
  refine va_get (D := D) (ci := 2) (v := .int (ms_ki σ)) (C := RX2) (T := TX2) (N := 21) hx hb hts hin hown hK hP 0 rfl rfl 1 (by decide) (hts (.fieldLink RX2 62 "ClassSheetsModel" "kinds" "I") (List.mem_of_getElem? (i := 3) rfl)) (fun _ h9 => h9) rfl dX2_review_80 ?_
  refine lv_icmp_ge (tgt := 153) hx hb dX2_review_83 (by decide) (fun c1 => ?_) (fun c1 => ?_)
  · have h := h.1 c1
    refine lv_iload_n hx hb dX2_review_153 rfl (lv_at hl 2 rfl) ?_
    refine lv_aload_n hx hb dX2_review_154 rfl (lv_at hl 0 rfl) ?_
    refine lv_iload_n hx hb dX2_review_155 rfl (lv_at hl 1 rfl) ?_
    refine lv_iload_n hx hb dX2_review_156 rfl (lv_at hl 3 rfl) ?_
    obtain ⟨gp2, h⟩ := h
    refine call_v (Wd := MW cc ad) (σ := σ) C0 hd lens_id (As := [.int x1, .int x3]) (rest := [.int x2]) (ct_X2_missedOf l D cc ad ⟨hd.1, fun _ _ => trivial⟩ g σ x1 x3 gp2) (cwV 2 hts gX2_review_X2_missedOf rfl rfl rfl (by decide +kernel) ⟨Nat.le_of_ble_eq_true rfl, Nat.le_of_ble_eq_true rfl⟩) (va_recv hK hP (ci := 2) (q0 := 0) rfl rfl) hP hS rfl hl.1 rfl (by simp [Value.category]) dX2_review_157 (fun r3 u hp H locs hP hS => ?_)
    obtain ⟨hp1, hp2⟩ := hp
    subst hp1
    have hp2 := hp2.symm
    subst hp2
    have hP : va_P D vwCl (MW cc ad σ) H := hP
    refine lv_imul hx hb dX2_review_160 ?_
    refine lv_iload hx hb dX2_review_161 (lv_at hl 4 rfl) ?_
    obtain ⟨gd4, h⟩ := h
    refine lv_idiv hx hb dX2_review_163 gd4 ?_
    refine lv_iload hx hb dX2_review_164 (lv_at hl 7 rfl) ?_
    refine lv_if_le (tgt := 180) hx hb dX2_review_166 (by decide) (fun c5 => ?_) (fun c5 => ?_)
    · have h := h.1 c5
      refine lv_iconst (v := 0) hx hb dX2_review_180 (by decide) ?_
      refine lv_iadd hx hb dX2_review_181 ?_
      exact ret_i (Wd := MW cc ad) (u := σ) C0 h hP hS dX2_review_182
    · have h := h.2 c5
      refine lv_iload hx hb dX2_review_169 (lv_at hl 6 rfl) ?_
      refine lv_iload hx hb dX2_review_171 (lv_at hl 5 rfl) ?_
      refine lv_icmp_ge (tgt := 180) hx hb dX2_review_173 (by decide) (fun c6 => ?_) (fun c6 => ?_)
      · have h := h.1 c6
        refine lv_iconst (v := 0) hx hb dX2_review_180 (by decide) ?_
        refine lv_iadd hx hb dX2_review_181 ?_
        exact ret_i (Wd := MW cc ad) (u := σ) C0 h hP hS dX2_review_182
      · have h := h.2 c6
        refine lv_iconst (v := 1) hx hb dX2_review_176 (by decide) ?_
        refine lv_goto (tgt := 181) hx hb dX2_review_177 (by decide) ?_
        refine lv_iadd hx hb dX2_review_181 ?_
        exact ret_i (Wd := MW cc ad) (u := σ) C0 h hP hS dX2_review_182
  · have h := h.2 c1
    refine lv_iload_n hx hb dX2_review_86 rfl (lv_at hl 2 rfl) ?_
    refine lv_aload_n hx hb dX2_review_87 rfl (lv_at hl 0 rfl) ?_
    refine lv_iload_n hx hb dX2_review_88 rfl (lv_at hl 1 rfl) ?_
    refine lv_iload hx hb dX2_review_89 (lv_at hl 8 rfl) ?_
    obtain ⟨gp7, h⟩ := h
    refine call_v (Wd := MW cc ad) (σ := σ) C0 hd lens_id (As := [.int x1, .int x8]) (rest := [.int x2]) (ct_X2_missedOf l D cc ad ⟨hd.1, fun _ _ => trivial⟩ g σ x1 x8 gp7) (cwV 2 hts gX2_review_X2_missedOf rfl rfl rfl (by decide +kernel) ⟨Nat.le_of_ble_eq_true rfl, Nat.le_of_ble_eq_true rfl⟩) (va_recv hK hP (ci := 2) (q0 := 0) rfl rfl) hP hS rfl hl.1 rfl (by simp [Value.category]) dX2_review_91 (fun r8 u hp H locs hP hS => ?_)
    obtain ⟨hp1, hp2⟩ := hp
    subst hp1
    have hp2 := hp2.symm
    subst hp2
    have hP : va_P D vwCl (MW cc ad σ) H := hP
    refine lv_imul hx hb dX2_review_94 ?_
    refine lv_iload hx hb dX2_review_95 (lv_at hl 4 rfl) ?_
    obtain ⟨gd9, h⟩ := h
    refine lv_irem hx hb dX2_review_97 gd9 ?_
    refine lv_topi (fun x9_10 ex9_10 => ?_)
    have h := h x9_10 ex9_10
    refine lv_istore (lv' := [(9, .int x9_10), (0, .ref (ad 0)), (1, .int x1), (2, .int x2), (3, .int x3), (4, .int x4), (5, .int x5), (6, .int x6), (7, .int x7), (8, .int x8)]) hx hb dX2_review_98 hl (by decide) rfl (fun ls hl => ?_)
    refine lv_iload hx hb dX2_review_100 (lv_at hl 6 rfl) ?_
    refine lv_iload_n hx hb dX2_review_102 rfl (lv_at hl 3 rfl) ?_
    refine lv_aload_n hx hb dX2_review_103 rfl (lv_at hl 1 rfl) ?_
    refine lv_iload_n hx hb dX2_review_104 rfl (lv_at hl 2 rfl) ?_
    refine lv_iload hx hb dX2_review_105 (lv_at hl 9 rfl) ?_
    obtain ⟨gp11, h⟩ := h
    refine call_v (Wd := MW cc ad) (σ := σ) C0 hd lens_id (As := [.int x1, .int x8]) (rest := [.int x2, .int x5]) (ct_X2_missedOf l D cc ad ⟨hd.1, fun _ _ => trivial⟩ g σ x1 x8 gp11) (cwV 2 hts gX2_review_X2_missedOf rfl rfl rfl (by decide +kernel) ⟨Nat.le_of_ble_eq_true rfl, Nat.le_of_ble_eq_true rfl⟩) (va_recv hK hP (ci := 2) (q0 := 0) rfl rfl) hP hS rfl hl.1 rfl (by simp [Value.category]) dX2_review_107 (fun r12 u hp H locs hP hS => ?_)
    obtain ⟨hp1, hp2⟩ := hp
    subst hp1
    have hp2 := hp2.symm
    subst hp2
    have hP : va_P D vwCl (MW cc ad σ) H := hP
    refine lv_imul hx hb dX2_review_110 ?_
    refine lv_iload hx hb dX2_review_111 (lv_at hl 5 rfl) ?_
    obtain ⟨gd13, h⟩ := h
    refine lv_idiv hx hb dX2_review_113 gd13 ?_
    refine lv_isub hx hb dX2_review_114 ?_
    refine lv_topi (fun x5_14 ex5_14 => ?_)
    have h := h x5_14 ex5_14
    refine lv_istore (lv' := [(5, .int x5_14), (9, .int x9_10), (0, .ref (ad 0)), (1, .int x1), (2, .int x2), (3, .int x3), (4, .int x4), (6, .int x6), (7, .int x7), (8, .int x8)]) hx hb dX2_review_115 hl (by decide) rfl (fun ls hl => ?_)
    refine lv_iload hx hb dX2_review_117 (lv_at hl 7 rfl) ?_
    refine lv_iload hx hb dX2_review_119 (lv_at hl 1 rfl) ?_
    refine lv_iload hx hb dX2_review_121 (lv_at hl 8 rfl) ?_
    refine lv_icmp_gt (tgt := 139) hx hb dX2_review_123 (by decide) (fun c15 => ?_) (fun c15 => ?_)
    · have h := h.1 c15
      refine lv_iconst (v := 1) hx hb dX2_review_139 (by decide) ?_
      refine lv_goto (tgt := 144) hx hb dX2_review_140 (by decide) ?_
      refine lv_iadd hx hb dX2_review_144 ?_
      refine lv_topi (fun x6_16 ex6_16 => ?_)
      have h := h x6_16 ex6_16
      refine lv_istore (lv' := [(6, .int x6_16), (5, .int x5_14), (9, .int x9_10), (0, .ref (ad 0)), (1, .int x1), (2, .int x2), (3, .int x3), (4, .int x4), (7, .int x7), (8, .int x8)]) hx hb dX2_review_145 hl (by decide) rfl (fun ls hl => ?_)
      obtain ⟨x8_17, ex8_17⟩ : ∃ y : Int32, y = x8 + 1 := ⟨_, rfl⟩
      have h := h x8_17 ex8_17
      refine lv_iinc (v := x8_17) (lv' := [(8, .int x8_17), (6, .int x6_16), (5, .int x5_14), (9, .int x9_10), (0, .ref (ad 0)), (1, .int x1), (2, .int x2), (3, .int x3), (4, .int x4), (7, .int x7)]) hx hb dX2_review_147 hl (k := 9) rfl (by rw [ex8_17]; rfl) (by decide) rfl (fun ls hl => ?_)
      refine lv_goto (tgt := 77) hx hb dX2_review_150 (by decide) ?_
      exact hK77 (σ, x1, x2, x3, x4, x5_14, x6_16, x7, x8_17) h H locs ls hP hS (lv_sub hl [4, 5, 6, 7, 8, 2, 1, 9, 0] rfl)
    · have h := h.2 c15
      refine lv_iload hx hb dX2_review_126 (lv_at hl 1 rfl) ?_
      refine lv_iload hx hb dX2_review_128 (lv_at hl 8 rfl) ?_
      refine lv_icmp_ne (tgt := 143) hx hb dX2_review_130 (by decide) (fun c18 => ?_) (fun c18 => ?_)
      · have h := h.1 c18
        refine lv_iconst (v := 0) hx hb dX2_review_143 (by decide) ?_
        refine lv_iadd hx hb dX2_review_144 ?_
        refine lv_topi (fun x6_19 ex6_19 => ?_)
        have h := h x6_19 ex6_19
        refine lv_istore (lv' := [(6, .int x6_19), (5, .int x5_14), (9, .int x9_10), (0, .ref (ad 0)), (1, .int x1), (2, .int x2), (3, .int x3), (4, .int x4), (7, .int x7), (8, .int x8)]) hx hb dX2_review_145 hl (by decide) rfl (fun ls hl => ?_)
        obtain ⟨x8_20, ex8_20⟩ : ∃ y : Int32, y = x8 + 1 := ⟨_, rfl⟩
        have h := h x8_20 ex8_20
        refine lv_iinc (v := x8_20) (lv' := [(8, .int x8_20), (6, .int x6_19), (5, .int x5_14), (9, .int x9_10), (0, .ref (ad 0)), (1, .int x1), (2, .int x2), (3, .int x3), (4, .int x4), (7, .int x7)]) hx hb dX2_review_147 hl (k := 9) rfl (by rw [ex8_20]; rfl) (by decide) rfl (fun ls hl => ?_)
        refine lv_goto (tgt := 77) hx hb dX2_review_150 (by decide) ?_
        exact hK77 (σ, x1, x2, x3, x4, x5_14, x6_19, x7, x8_20) h H locs ls hP hS (lv_sub hl [4, 5, 6, 7, 8, 2, 1, 9, 0] rfl)
      · have h := h.2 c18
        refine lv_iload hx hb dX2_review_133 (lv_at hl 9 rfl) ?_
        refine lv_iload_n hx hb dX2_review_135 rfl (lv_at hl 5 rfl) ?_
        refine lv_icmp_ge (tgt := 143) hx hb dX2_review_136 (by decide) (fun c21 => ?_) (fun c21 => ?_)
        · have h := h.1 c21
          refine lv_iconst (v := 0) hx hb dX2_review_143 (by decide) ?_
          refine lv_iadd hx hb dX2_review_144 ?_
          refine lv_topi (fun x6_22 ex6_22 => ?_)
          have h := h x6_22 ex6_22
          refine lv_istore (lv' := [(6, .int x6_22), (5, .int x5_14), (9, .int x9_10), (0, .ref (ad 0)), (1, .int x1), (2, .int x2), (3, .int x3), (4, .int x4), (7, .int x7), (8, .int x8)]) hx hb dX2_review_145 hl (by decide) rfl (fun ls hl => ?_)
          obtain ⟨x8_23, ex8_23⟩ : ∃ y : Int32, y = x8 + 1 := ⟨_, rfl⟩
          have h := h x8_23 ex8_23
          refine lv_iinc (v := x8_23) (lv' := [(8, .int x8_23), (6, .int x6_22), (5, .int x5_14), (9, .int x9_10), (0, .ref (ad 0)), (1, .int x1), (2, .int x2), (3, .int x3), (4, .int x4), (7, .int x7)]) hx hb dX2_review_147 hl (k := 9) rfl (by rw [ex8_23]; rfl) (by decide) rfl (fun ls hl => ?_)
          refine lv_goto (tgt := 77) hx hb dX2_review_150 (by decide) ?_
          exact hK77 (σ, x1, x2, x3, x4, x5_14, x6_22, x7, x8_23) h H locs ls hP hS (lv_sub hl [4, 5, 6, 7, 8, 2, 1, 9, 0] rfl)
        · have h := h.2 c21
          refine lv_iconst (v := 1) hx hb dX2_review_139 (by decide) ?_
          refine lv_goto (tgt := 144) hx hb dX2_review_140 (by decide) ?_
          refine lv_iadd hx hb dX2_review_144 ?_
          refine lv_topi (fun x6_24 ex6_24 => ?_)
          have h := h x6_24 ex6_24
          refine lv_istore (lv' := [(6, .int x6_24), (5, .int x5_14), (9, .int x9_10), (0, .ref (ad 0)), (1, .int x1), (2, .int x2), (3, .int x3), (4, .int x4), (7, .int x7), (8, .int x8)]) hx hb dX2_review_145 hl (by decide) rfl (fun ls hl => ?_)
          obtain ⟨x8_25, ex8_25⟩ : ∃ y : Int32, y = x8 + 1 := ⟨_, rfl⟩
          have h := h x8_25 ex8_25
          refine lv_iinc (v := x8_25) (lv' := [(8, .int x8_25), (6, .int x6_24), (5, .int x5_14), (9, .int x9_10), (0, .ref (ad 0)), (1, .int x1), (2, .int x2), (3, .int x3), (4, .int x4), (7, .int x7)]) hx hb dX2_review_147 hl (k := 9) rfl (by rw [ex8_25]; rfl) (by decide) rfl (fun ls hl => ?_)
          refine lv_goto (tgt := 77) hx hb dX2_review_150 (by decide) ?_
          exact hK77 (σ, x1, x2, x3, x4, x5_14, x6_24, x7, x8_25) h H locs ls hP hS (lv_sub hl [4, 5, 6, 7, 8, 2, 1, 9, 0] rfl)
set_option maxHeartbeats 4000000 in
set_option maxRecDepth 100000 in
theorem wk_X2_review_0 {p : Program} {l : Launch} {e : Env} {s : State} {m : MethodId} {args : Array Value} {below : List Frame} {meth : Method} {c : Code} {D : va_G} {cc : Nat → ClassId} {ad : Nat → Nat} {A : Nat → Prop} {Post : Int32 → MS → Prop} {g : CS} (C0 : Cx p s m args meth c cX2_review 10 (some .int) RX2 wsX2_review D cc A) (hd : DA 13 ad A) (σ : MS) (x1 : Int32) (x2 : Int32) (x3 : Int32) (h : wp_X2_review g Post σ x1 x2 x3) : At_ p l e { frames := 2, cells := 0, slots := 0, locals := 46 } s m args below meth c (Qi_ below D (MW cc ad) A args s Post) D A (MW cc ad σ) 10 0 [(0, .ref (ad 0)), (1, .int x1), (2, .int x2), (3, .int x3)] [] := by
  obtain ⟨hx, hb, hml, hr, hown, hts, hlocks, hK, hA, hX⟩ := id C0
  have hin := hin_X2_review
  intro H locs ls hP hS hl
  unfold wp_X2_review at h
  refine lv_aload_n hx hb dX2_review_0 rfl (lv_at hl 0 rfl) ?_
  refine lv_iconst (v := 0) hx hb dX2_review_1 (by decide) ?_
  refine va_put (D := D) (ci := 2) (v := .int 0) (ty := .int) (C := RX2) (T := TX2) (N := 21) hx hb hts hin tyX2 tyX2_ok nmX2 hown hK hP (mD hd) hS 0 rfl rfl 0 (by decide) (hts (.fieldLink RX2 59 "ClassSheetsModel" "thrown" "I") (List.mem_of_getElem? (i := 1) rfl)) (fun _ h9 => h9) rfl (by decide +kernel) rfl rfl (Nat.le_of_ble_eq_true rfl) dX2_review_2 (fun H locs hP _ hS => ?_)
  have hP : va_P D vwCl (MW cc ad (ms_s_th σ 0)) H := hP
  refine lv_aload_n hx hb dX2_review_5 rfl (lv_at hl 0 rfl) ?_
  refine lv_iload_n hx hb dX2_review_6 rfl (lv_at hl 1 rfl) ?_
  refine call_v (Wd := MW cc ad) (σ := (ms_s_th σ 0)) C0 hd lens_id (As := [.int x1]) (rest := []) (ct_X2_noSeat l D cc ad ⟨hd.1, fun _ _ => trivial⟩ g (ms_s_th σ 0) x1) (cwV 1 hts gX2_review_X2_noSeat rfl rfl rfl (by decide +kernel) ⟨Nat.le_of_ble_eq_true rfl, Nat.le_of_ble_eq_true rfl⟩) (va_recv hK hP (ci := 2) (q0 := 0) rfl rfl) hP hS rfl hl.1 rfl (by simp [Value.category]) dX2_review_7 (fun r1 u hp H locs hP hS => ?_)
  obtain ⟨hp1, hp2⟩ := hp
  subst hp1
  have hp2 := hp2.symm
  subst hp2
  have hP : va_P D vwCl (MW cc ad (ms_s_th σ 0)) H := hP
  refine lv_if_ne (tgt := 21) hx hb dX2_review_10 (by decide) (fun c2 => ?_) (fun c2 => ?_)
  · have h := h.1 c2
    refine lv_iconst (v := (-1)) hx hb dX2_review_21 (by decide) ?_
    exact ret_i (Wd := MW cc ad) (u := (ms_s_th σ 0)) C0 h hP hS dX2_review_22
  · have h := h.2 c2
    refine lv_aload_n hx hb dX2_review_13 rfl (lv_at hl 0 rfl) ?_
    refine lv_iload_n hx hb dX2_review_14 rfl (lv_at hl 3 rfl) ?_
    refine call_v (Wd := MW cc ad) (σ := (ms_s_th σ 0)) C0 hd lens_id (As := [.int x3]) (rest := []) (ct_X2_noKind l D cc ad ⟨hd.1, fun _ _ => trivial⟩ g (ms_s_th σ 0) x3) (cwV 1 hts gX2_review_X2_noKind rfl rfl rfl (by decide +kernel) ⟨Nat.le_of_ble_eq_true rfl, Nat.le_of_ble_eq_true rfl⟩) (va_recv hK hP (ci := 2) (q0 := 0) rfl rfl) hP hS rfl hl.1 rfl (by simp [Value.category]) dX2_review_15 (fun r3 u hp H locs hP hS => ?_)
    obtain ⟨hp1, hp2⟩ := hp
    subst hp1
    have hp2 := hp2.symm
    subst hp2
    have hP : va_P D vwCl (MW cc ad (ms_s_th σ 0)) H := hP
    refine lv_if_eq (tgt := 23) hx hb dX2_review_18 (by decide) (fun c4 => ?_) (fun c4 => ?_)
    · have h := h.1 c4
      refine lv_iload_n hx hb dX2_review_23 rfl (lv_at hl 2 rfl) ?_
      refine lv_i2l (v := x2.toInt64) hx hb dX2_review_24 rfl ?_
      refine lv_lconst (v := 1) hx hb dX2_review_25 (by decide) ?_
      refine lv_ldc2 (v := 60) hx hb hown (hts (.constantLong RX2 181 (60)) (List.mem_of_getElem? (i := 2) rfl)) dX2_review_26 ?_
      refine call_s (Wd := MW cc ad) (σ := (ms_s_th σ 0)) C0 hd (lens_un (adc := ad)) (As := [.long (x2.toInt64), .long 1, .long 60]) (rest := []) (ct_X2_in l D cc ad da0 (x2.toInt64) 1 60) (va_cwS 3 hts gX2_review_X2_in rfl rfl rfl (by decide +kernel) ⟨Nat.le_of_ble_eq_true rfl, Nat.le_of_ble_eq_true rfl⟩) hP hS rfl hl.1 rfl (by simp [Value.category]) dX2_review_29 (fun r5 u hp H locs hP hS => ?_)
      obtain ⟨hp1, hp2⟩ := hp
      subst hp1
      have hP : va_P D vwCl (MW cc ad (ms_s_th σ 0)) H := hP
      refine lv_if_ne (tgt := 38) hx hb dX2_review_32 (by decide) (fun c6 => ?_) (fun c6 => ?_)
      · have h := h.1 c6
        refine lv_aload_n hx hb dX2_review_38 rfl (lv_at hl 0 rfl) ?_
        refine lv_iload_n hx hb dX2_review_39 rfl (lv_at hl 1 rfl) ?_
        refine lv_bipush (v := (-9)) hx hb dX2_review_40 (by decide) ?_
        obtain ⟨gp7, h⟩ := h
        refine call_v (Wd := MW cc ad) (σ := (ms_s_th σ 0)) C0 hd lens_id (As := [.int x1, .int (-9)]) (rest := []) (ct_X2_missedOf l D cc ad ⟨hd.1, fun _ _ => trivial⟩ g (ms_s_th σ 0) x1 (-9) gp7) (cwV 2 hts gX2_review_X2_missedOf rfl rfl rfl (by decide +kernel) ⟨Nat.le_of_ble_eq_true rfl, Nat.le_of_ble_eq_true rfl⟩) (va_recv hK hP (ci := 2) (q0 := 0) rfl rfl) hP hS rfl hl.1 rfl (by simp [Value.category]) dX2_review_42 (fun r8 u hp H locs hP hS => ?_)
        obtain ⟨hp1, hp2⟩ := hp
        subst hp1
        have hp2 := hp2.symm
        subst hp2
        have hP : va_P D vwCl (MW cc ad (ms_s_th σ 0)) H := hP
        refine lv_topi (fun x4_9 ex4_9 => ?_)
        have h := h x4_9 ex4_9
        refine lv_istore (lv' := [(4, .int x4_9), (0, .ref (ad 0)), (1, .int x1), (2, .int x2), (3, .int x3)]) hx hb dX2_review_45 hl (by decide) rfl (fun ls hl => ?_)
        refine lv_iload hx hb dX2_review_47 (lv_at hl 0 rfl) ?_
        refine lv_if_ne (tgt := 55) hx hb dX2_review_49 (by decide) (fun c10 => ?_) (fun c10 => ?_)
        · have h := h.1 c10
          refine lv_iload_n hx hb dX2_review_55 rfl (lv_at hl 3 rfl) ?_
          refine lv_istore (lv' := [(5, .int x2), (4, .int x4_9), (0, .ref (ad 0)), (1, .int x1), (2, .int x2), (3, .int x3)]) hx hb dX2_review_56 hl (by decide) rfl (fun ls hl => ?_)
          refine lv_iconst (v := 0) hx hb dX2_review_58 (by decide) ?_
          refine lv_istore (lv' := [(6, .int 0), (5, .int x2), (4, .int x4_9), (0, .ref (ad 0)), (1, .int x1), (2, .int x2), (3, .int x3)]) hx hb dX2_review_59 hl (by decide) rfl (fun ls hl => ?_)
          refine lv_iload_n hx hb dX2_review_61 rfl (lv_at hl 5 rfl) ?_
          refine lv_aload_n hx hb dX2_review_62 rfl (lv_at hl 3 rfl) ?_
          refine lv_iload_n hx hb dX2_review_63 rfl (lv_at hl 4 rfl) ?_
          refine lv_iload_n hx hb dX2_review_64 rfl (lv_at hl 6 rfl) ?_
          obtain ⟨gp11, h⟩ := h
          refine call_v (Wd := MW cc ad) (σ := (ms_s_th σ 0)) C0 hd lens_id (As := [.int x1, .int x3]) (rest := [.int x2]) (ct_X2_missedOf l D cc ad ⟨hd.1, fun _ _ => trivial⟩ g (ms_s_th σ 0) x1 x3 gp11) (cwV 2 hts gX2_review_X2_missedOf rfl rfl rfl (by decide +kernel) ⟨Nat.le_of_ble_eq_true rfl, Nat.le_of_ble_eq_true rfl⟩) (va_recv hK hP (ci := 2) (q0 := 0) rfl rfl) hP hS rfl hl.1 rfl (by simp [Value.category]) dX2_review_65 (fun r12 u hp H locs hP hS => ?_)
          obtain ⟨hp1, hp2⟩ := hp
          subst hp1
          have hp2 := hp2.symm
          subst hp2
          have hP : va_P D vwCl (MW cc ad (ms_s_th σ 0)) H := hP
          refine lv_imul hx hb dX2_review_68 ?_
          refine lv_iload hx hb dX2_review_69 (lv_at hl 2 rfl) ?_
          obtain ⟨gd13, h⟩ := h
          refine lv_irem hx hb dX2_review_71 gd13 ?_
          refine lv_topi (fun x7_14 ex7_14 => ?_)
          have h := h x7_14 ex7_14
          refine lv_istore (lv' := [(7, .int x7_14), (6, .int 0), (5, .int x2), (4, .int x4_9), (0, .ref (ad 0)), (1, .int x1), (2, .int x2), (3, .int x3)]) hx hb dX2_review_72 hl (by decide) rfl (fun ls hl => ?_)
          refine lv_iconst (v := 0) hx hb dX2_review_74 (by decide) ?_
          refine lv_istore (lv' := [(8, .int 0), (7, .int x7_14), (6, .int 0), (5, .int x2), (4, .int x4_9), (0, .ref (ad 0)), (1, .int x1), (2, .int x2), (3, .int x3)]) hx hb dX2_review_75 hl (by decide) rfl (fun ls hl => ?_)
          exact lp_at (Wt := fun a => At_ p l e { frames := 2, cells := 0, slots := 0, locals := 46 } s m args below meth c (Qi_ below D (MW cc ad) A args s Post) D A (MW cc ad (a.1)) 10 77 [(0, .ref (ad 0)), (1, .int (a.2.1)), (2, .int (a.2.2.1)), (3, .int (a.2.2.2.1)), (4, .int (a.2.2.2.2.1)), (5, .int (a.2.2.2.2.2.1)), (6, .int (a.2.2.2.2.2.2.1)), (7, .int (a.2.2.2.2.2.2.2.1)), (8, .int (a.2.2.2.2.2.2.2.2))] []) (fun K hK a h => wk_X2_review_77 C0 hd hK a.1 a.2.1 a.2.2.1 a.2.2.2.1 a.2.2.2.2.1 a.2.2.2.2.2.1 a.2.2.2.2.2.2.1 a.2.2.2.2.2.2.2.1 a.2.2.2.2.2.2.2.2 h) h H locs ls hP hS (lv_sub hl [5, 6, 7, 8, 4, 3, 2, 1, 0] rfl)
        · have h := h.2 c10
          refine lv_bipush (v := (-3)) hx hb dX2_review_52 (by decide) ?_
          exact ret_i (Wd := MW cc ad) (u := (ms_s_th σ 0)) C0 h hP hS dX2_review_54
      · have h := h.2 c6
        refine lv_bipush (v := (-2)) hx hb dX2_review_35 (by decide) ?_
        exact ret_i (Wd := MW cc ad) (u := (ms_s_th σ 0)) C0 h hP hS dX2_review_37
    · have h := h.2 c4
      refine lv_iconst (v := (-1)) hx hb dX2_review_21 (by decide) ?_
      exact ret_i (Wd := MW cc ad) (u := (ms_s_th σ 0)) C0 h hP hS dX2_review_22
theorem ct_X2_review (l : Launch) (D : va_G) (cc : Nat → ClassId) (ad : Nat → Nat) (hd : DA 13 ad (fun _ => True)) (g : CS) (σ : MS) (x1 : Int32) (x2 : Int32) (x3 : Int32) (hp : pr_X2_review g σ x1 x2 x3) : Ctr l yX2_review wsX2_review { frames := 2, cells := 0, slots := 0, locals := 46 } D cc (MW cc ad) 13 ad σ [.ref (ad 0), .int x1, .int x2, .int x3] (po_X2_review g σ x1 x2 x3) :=
  ctr_i (rt := (some .int)) (by decide +kernel) rfl hd (Nat.le_of_ble_eq_true rfl) (fun p e s m below meth c A C0 hd => wk_X2_review_0 C0 hd σ x1 x2 x3 (pu_X2_review g σ x1 x2 x3 hp))
theorem hin_X2_all : ∀ w ∈ u_ws RX2 TX2 21, w ∈ wsX2_all := fun w h => List.mem_cons_of_mem _ (List.mem_append_right _ h)
set_option maxHeartbeats 4000000 in
set_option maxRecDepth 100000 in
theorem wk_X2_all_19 {p : Program} {l : Launch} {e : Env} {s : State} {m : MethodId} {args : Array Value} {below : List Frame} {meth : Method} {c : Code} {D : va_G} {cc : Nat → ClassId} {ad : Nat → Nat} {A : Nat → Prop} {Post : Int32 → MS → Prop} {g : CS} (C0 : Cx p s m args meth c cX2_all 4 (some .int) RX2 wsX2_all D cc A) (hd : DA 13 ad A) {K19 : (MS × Int32 × Int32 × Int32) → Prop} (hK19 : ∀ a, K19 a → At_ p l e { frames := 2, cells := 0, slots := 0, locals := 46 } s m args below meth c (Qi_ below D (MW cc ad) A args s Post) D A (MW cc ad (a.1)) 4 19 [(0, .ref (ad 0)), (1, .int (a.2.1)), (2, .int (a.2.2.1)), (3, .int (a.2.2.2))] []) (σ : MS) (x1 : Int32) (x2 : Int32) (x3 : Int32) (h : wp_X2_all_19 g K19 Post σ x1 x2 x3) : At_ p l e { frames := 2, cells := 0, slots := 0, locals := 46 } s m args below meth c (Qi_ below D (MW cc ad) A args s Post) D A (MW cc ad σ) 4 19 [(0, .ref (ad 0)), (1, .int x1), (2, .int x2), (3, .int x3)] [] := by
  obtain ⟨hx, hb, hml, hr, hown, hts, hlocks, hK, hA, hX⟩ := id C0
  have hin := hin_X2_all
  intro H locs ls hP hS hl
  unfold wp_X2_all_19 at h
  refine lv_iload_n hx hb dX2_all_19 rfl (lv_at hl 3 rfl) ?_
  refine lv_bipush (v := 64) hx hb dX2_all_20 (by decide) ?_
  refine lv_icmp_ge (tgt := 45) hx hb dX2_all_22 (by decide) (fun c1 => ?_) (fun c1 => ?_)
  · have h := h.1 c1
    refine lv_iload_n hx hb dX2_all_45 rfl (lv_at hl 2 rfl) ?_
    exact ret_i (Wd := MW cc ad) (u := σ) C0 h hP hS dX2_all_46
  · have h := h.2 c1
    refine lv_iload_n hx hb dX2_all_25 rfl (lv_at hl 2 rfl) ?_
    refine lv_aload_n hx hb dX2_all_26 rfl (lv_at hl 0 rfl) ?_
    refine va_get (D := D) (ci := 2) (v := .ref (ad 12)) (C := RX2) (T := TX2) (N := 21) hx hb hts hin hown hK hP 0 rfl rfl 18 (by decide) (hts (.fieldLink RX2 56 "ClassSheetsModel" "missed" "[I") (List.mem_of_getElem? (i := 2) rfl)) (fun _ h9 => h9) rfl dX2_all_27 ?_
    refine lv_bipush (v := 8) hx hb dX2_all_30 (by decide) ?_
    refine lv_iload_n hx hb dX2_all_32 rfl (lv_at hl 3 rfl) ?_
    refine lv_imul hx hb dX2_all_33 ?_
    refine lv_iload_n hx hb dX2_all_34 rfl (lv_at hl 1 rfl) ?_
    refine lv_iadd hx hb dX2_all_35 ?_
    obtain ⟨gi2, h⟩ := h
    refine va_iald (D := D) (f := ms_mi σ) hx hb hK hP 12 0 rfl rfl gi2 dX2_all_36 ?_
    refine lv_iadd hx hb dX2_all_37 ?_
    refine lv_topi (fun x2_3 ex2_3 => ?_)
    have h := h x2_3 ex2_3
    refine lv_istore_n (lv' := [(2, .int x2_3), (0, .ref (ad 0)), (1, .int x1), (3, .int x3)]) hx hb dX2_all_38 rfl hl (by decide) rfl (fun ls hl => ?_)
    obtain ⟨x3_4, ex3_4⟩ : ∃ y : Int32, y = x3 + 1 := ⟨_, rfl⟩
    have h := h x3_4 ex3_4
    refine lv_iinc (v := x3_4) (lv' := [(3, .int x3_4), (2, .int x2_3), (0, .ref (ad 0)), (1, .int x1)]) hx hb dX2_all_39 hl (k := 3) rfl (by rw [ex3_4]; rfl) (by decide) rfl (fun ls hl => ?_)
    refine lv_goto (tgt := 19) hx hb dX2_all_42 (by decide) ?_
    exact hK19 (σ, x1, x2_3, x3_4) h H locs ls hP hS (lv_sub hl [2, 3, 1, 0] rfl)
set_option maxHeartbeats 4000000 in
set_option maxRecDepth 100000 in
theorem wk_X2_all_0 {p : Program} {l : Launch} {e : Env} {s : State} {m : MethodId} {args : Array Value} {below : List Frame} {meth : Method} {c : Code} {D : va_G} {cc : Nat → ClassId} {ad : Nat → Nat} {A : Nat → Prop} {Post : Int32 → MS → Prop} {g : CS} (C0 : Cx p s m args meth c cX2_all 4 (some .int) RX2 wsX2_all D cc A) (hd : DA 13 ad A) (σ : MS) (x1 : Int32) (h : wp_X2_all g Post σ x1) : At_ p l e { frames := 2, cells := 0, slots := 0, locals := 46 } s m args below meth c (Qi_ below D (MW cc ad) A args s Post) D A (MW cc ad σ) 4 0 [(0, .ref (ad 0)), (1, .int x1)] [] := by
  obtain ⟨hx, hb, hml, hr, hown, hts, hlocks, hK, hA, hX⟩ := id C0
  have hin := hin_X2_all
  intro H locs ls hP hS hl
  unfold wp_X2_all at h
  refine lv_aload_n hx hb dX2_all_0 rfl (lv_at hl 0 rfl) ?_
  refine lv_iconst (v := 0) hx hb dX2_all_1 (by decide) ?_
  refine va_put (D := D) (ci := 2) (v := .int 0) (ty := .int) (C := RX2) (T := TX2) (N := 21) hx hb hts hin tyX2 tyX2_ok nmX2 hown hK hP (mD hd) hS 0 rfl rfl 0 (by decide) (hts (.fieldLink RX2 59 "ClassSheetsModel" "thrown" "I") (List.mem_of_getElem? (i := 1) rfl)) (fun _ h9 => h9) rfl (by decide +kernel) rfl rfl (Nat.le_of_ble_eq_true rfl) dX2_all_2 (fun H locs hP _ hS => ?_)
  have hP : va_P D vwCl (MW cc ad (ms_s_th σ 0)) H := hP
  refine lv_aload_n hx hb dX2_all_5 rfl (lv_at hl 0 rfl) ?_
  refine lv_iload_n hx hb dX2_all_6 rfl (lv_at hl 1 rfl) ?_
  refine call_v (Wd := MW cc ad) (σ := (ms_s_th σ 0)) C0 hd lens_id (As := [.int x1]) (rest := []) (ct_X2_noKind l D cc ad ⟨hd.1, fun _ _ => trivial⟩ g (ms_s_th σ 0) x1) (cwV 1 hts gX2_all_X2_noKind rfl rfl rfl (by decide +kernel) ⟨Nat.le_of_ble_eq_true rfl, Nat.le_of_ble_eq_true rfl⟩) (va_recv hK hP (ci := 2) (q0 := 0) rfl rfl) hP hS rfl hl.1 rfl (by simp [Value.category]) dX2_all_7 (fun r1 u hp H locs hP hS => ?_)
  obtain ⟨hp1, hp2⟩ := hp
  subst hp1
  have hp2 := hp2.symm
  subst hp2
  have hP : va_P D vwCl (MW cc ad (ms_s_th σ 0)) H := hP
  refine lv_if_eq (tgt := 15) hx hb dX2_all_10 (by decide) (fun c2 => ?_) (fun c2 => ?_)
  · have h := h.1 c2
    refine lv_iconst (v := 0) hx hb dX2_all_15 (by decide) ?_
    refine lv_istore_n (lv' := [(2, .int 0), (0, .ref (ad 0)), (1, .int x1)]) hx hb dX2_all_16 rfl hl (by decide) rfl (fun ls hl => ?_)
    refine lv_iconst (v := 0) hx hb dX2_all_17 (by decide) ?_
    refine lv_istore_n (lv' := [(3, .int 0), (2, .int 0), (0, .ref (ad 0)), (1, .int x1)]) hx hb dX2_all_18 rfl hl (by decide) rfl (fun ls hl => ?_)
    exact lp_at (Wt := fun a => At_ p l e { frames := 2, cells := 0, slots := 0, locals := 46 } s m args below meth c (Qi_ below D (MW cc ad) A args s Post) D A (MW cc ad (a.1)) 4 19 [(0, .ref (ad 0)), (1, .int (a.2.1)), (2, .int (a.2.2.1)), (3, .int (a.2.2.2))] []) (fun K hK a h => wk_X2_all_19 C0 hd hK a.1 a.2.1 a.2.2.1 a.2.2.2 h) h H locs ls hP hS (lv_sub hl [2, 3, 1, 0] rfl)
  · have h := h.2 c2
    refine lv_iconst (v := (-1)) hx hb dX2_all_13 (by decide) ?_
    exact ret_i (Wd := MW cc ad) (u := (ms_s_th σ 0)) C0 h hP hS dX2_all_14
theorem ct_X2_all (l : Launch) (D : va_G) (cc : Nat → ClassId) (ad : Nat → Nat) (hd : DA 13 ad (fun _ => True)) (g : CS) (σ : MS) (x1 : Int32) (hp : pr_X2_all g σ x1) : Ctr l yX2_all wsX2_all { frames := 2, cells := 0, slots := 0, locals := 46 } D cc (MW cc ad) 13 ad σ [.ref (ad 0), .int x1] (po_X2_all g σ x1) :=
  ctr_i (rt := (some .int)) (by decide +kernel) rfl hd (Nat.le_of_ble_eq_true rfl) (fun p e s m below meth c A C0 hd => wk_X2_all_0 C0 hd σ x1 (pu_X2_all g σ x1 hp))
theorem hin_X2_total : ∀ w ∈ u_ws RX2 TX2 21, w ∈ wsX2_total := fun w h => List.mem_cons_of_mem _ (List.mem_append_right _ h)
set_option maxHeartbeats 4000000 in
set_option maxRecDepth 100000 in
theorem wk_X2_total_0 {p : Program} {l : Launch} {e : Env} {s : State} {m : MethodId} {args : Array Value} {below : List Frame} {meth : Method} {c : Code} {D : va_G} {cc : Nat → ClassId} {ad : Nat → Nat} {A : Nat → Prop} {Post : Int32 → MS → Prop} {g : CS} (C0 : Cx p s m args meth c cX2_total 2 (some .int) RX2 wsX2_total D cc A) (hd : DA 13 ad A) (σ : MS) (x1 : Int32) (h : wp_X2_total g Post σ x1) : At_ p l e { frames := 0, cells := 0, slots := 0, locals := 0 } s m args below meth c (Qi_ below D (MW cc ad) A args s Post) D A (MW cc ad σ) 2 0 [(0, .ref (ad 0)), (1, .int x1)] [] := by
  obtain ⟨hx, hb, hml, hr, hown, hts, hlocks, hK, hA, hX⟩ := id C0
  have hin := hin_X2_total
  intro H locs ls hP hS hl
  unfold wp_X2_total at h
  refine lv_aload_n hx hb dX2_total_0 rfl (lv_at hl 0 rfl) ?_
  refine lv_iconst (v := 0) hx hb dX2_total_1 (by decide) ?_
  refine va_put (D := D) (ci := 2) (v := .int 0) (ty := .int) (C := RX2) (T := TX2) (N := 21) hx hb hts hin tyX2 tyX2_ok nmX2 hown hK hP (mD hd) hS 0 rfl rfl 0 (by decide) (hts (.fieldLink RX2 59 "ClassSheetsModel" "thrown" "I") (List.mem_of_getElem? (i := 1) rfl)) (fun _ h9 => h9) rfl (by decide +kernel) rfl rfl (Nat.le_of_ble_eq_true rfl) dX2_total_2 (fun H locs hP _ hS => ?_)
  have hP : va_P D vwCl (MW cc ad (ms_s_th σ 0)) H := hP
  refine lv_iload_n hx hb dX2_total_5 rfl (lv_at hl 1 rfl) ?_
  refine lv_if_ne (tgt := 16) hx hb dX2_total_6 (by decide) (fun c1 => ?_) (fun c1 => ?_)
  · have h := h.1 c1
    refine lv_iload_n hx hb dX2_total_16 rfl (lv_at hl 1 rfl) ?_
    refine lv_iconst (v := 1) hx hb dX2_total_17 (by decide) ?_
    refine lv_icmp_ne (tgt := 28) hx hb dX2_total_18 (by decide) (fun c2 => ?_) (fun c2 => ?_)
    · have h := h.1 c2
      refine lv_iload_n hx hb dX2_total_28 rfl (lv_at hl 1 rfl) ?_
      refine lv_iconst (v := 2) hx hb dX2_total_29 (by decide) ?_
      refine lv_icmp_ne (tgt := 45) hx hb dX2_total_30 (by decide) (fun c3 => ?_) (fun c3 => ?_)
      · have h := h.1 c3
        refine lv_iload_n hx hb dX2_total_45 rfl (lv_at hl 1 rfl) ?_
        refine lv_iconst (v := 3) hx hb dX2_total_46 (by decide) ?_
        refine lv_icmp_ne (tgt := 57) hx hb dX2_total_47 (by decide) (fun c4 => ?_) (fun c4 => ?_)
        · have h := h.1 c4
          refine lv_iload_n hx hb dX2_total_57 rfl (lv_at hl 1 rfl) ?_
          refine lv_iconst (v := 4) hx hb dX2_total_58 (by decide) ?_
          refine lv_icmp_ne (tgt := 69) hx hb dX2_total_59 (by decide) (fun c5 => ?_) (fun c5 => ?_)
          · have h := h.1 c5
            refine lv_bipush (v := (-2)) hx hb dX2_total_69 (by decide) ?_
            exact ret_i (Wd := MW cc ad) (u := (ms_s_th σ 0)) C0 h hP hS dX2_total_71
          · have h := h.2 c5
            refine lv_aload_n hx hb dX2_total_62 rfl (lv_at hl 0 rfl) ?_
            refine va_get (D := D) (ci := 2) (v := .int (ms_wr (ms_s_th σ 0))) (C := RX2) (T := TX2) (N := 21) hx hb hts hin hown hK hP 0 rfl rfl 20 (by decide) (hts (.fieldLink RX2 175 "ClassSheetsModel" "wrong" "I") (List.mem_of_getElem? (i := 7) rfl)) (fun _ h9 => h9) rfl dX2_total_63 ?_
            refine lv_goto (tgt := 71) hx hb dX2_total_66 (by decide) ?_
            exact ret_i (Wd := MW cc ad) (u := (ms_s_th σ 0)) C0 h hP hS dX2_total_71
        · have h := h.2 c4
          refine lv_aload_n hx hb dX2_total_50 rfl (lv_at hl 0 rfl) ?_
          refine va_get (D := D) (ci := 2) (v := .int (ms_ri (ms_s_th σ 0))) (C := RX2) (T := TX2) (N := 21) hx hb hts hin hown hK hP 0 rfl rfl 19 (by decide) (hts (.fieldLink RX2 172 "ClassSheetsModel" "right" "I") (List.mem_of_getElem? (i := 6) rfl)) (fun _ h9 => h9) rfl dX2_total_51 ?_
          refine lv_goto (tgt := 71) hx hb dX2_total_54 (by decide) ?_
          exact ret_i (Wd := MW cc ad) (u := (ms_s_th σ 0)) C0 h hP hS dX2_total_71
      · have h := h.2 c3
        refine lv_aload_n hx hb dX2_total_33 rfl (lv_at hl 0 rfl) ?_
        refine va_get (D := D) (ci := 2) (v := .int (ms_ro (ms_s_th σ 0))) (C := RX2) (T := TX2) (N := 21) hx hb hts hin hown hK hP 0 rfl rfl 14 (by decide) (hts (.fieldLink RX2 47 "ClassSheetsModel" "rows" "I") (List.mem_of_getElem? (i := 4) rfl)) (fun _ h9 => h9) rfl dX2_total_34 ?_
        refine lv_aload_n hx hb dX2_total_37 rfl (lv_at hl 0 rfl) ?_
        refine va_get (D := D) (ci := 2) (v := .int (ms_co (ms_s_th σ 0))) (C := RX2) (T := TX2) (N := 21) hx hb hts hin hown hK hP 0 rfl rfl 15 (by decide) (hts (.fieldLink RX2 50 "ClassSheetsModel" "columns" "I") (List.mem_of_getElem? (i := 5) rfl)) (fun _ h9 => h9) rfl dX2_total_38 ?_
        refine lv_imul hx hb dX2_total_41 ?_
        refine lv_goto (tgt := 71) hx hb dX2_total_42 (by decide) ?_
        exact ret_i (Wd := MW cc ad) (u := (ms_s_th σ 0)) C0 h hP hS dX2_total_71
    · have h := h.2 c2
      refine lv_aload_n hx hb dX2_total_21 rfl (lv_at hl 0 rfl) ?_
      refine va_get (D := D) (ci := 2) (v := .int (ms_pc (ms_s_th σ 0))) (C := RX2) (T := TX2) (N := 21) hx hb hts hin hown hK hP 0 rfl rfl 11 (by decide) (hts (.fieldLink RX2 69 "ClassSheetsModel" "places" "I") (List.mem_of_getElem? (i := 3) rfl)) (fun _ h9 => h9) rfl dX2_total_22 ?_
      refine lv_goto (tgt := 71) hx hb dX2_total_25 (by decide) ?_
      exact ret_i (Wd := MW cc ad) (u := (ms_s_th σ 0)) C0 h hP hS dX2_total_71
  · have h := h.2 c1
    refine lv_aload_n hx hb dX2_total_9 rfl (lv_at hl 0 rfl) ?_
    refine va_get (D := D) (ci := 2) (v := .int (ms_ki (ms_s_th σ 0))) (C := RX2) (T := TX2) (N := 21) hx hb hts hin hown hK hP 0 rfl rfl 1 (by decide) (hts (.fieldLink RX2 62 "ClassSheetsModel" "kinds" "I") (List.mem_of_getElem? (i := 2) rfl)) (fun _ h9 => h9) rfl dX2_total_10 ?_
    refine lv_goto (tgt := 71) hx hb dX2_total_13 (by decide) ?_
    exact ret_i (Wd := MW cc ad) (u := (ms_s_th σ 0)) C0 h hP hS dX2_total_71
theorem ct_X2_total (l : Launch) (D : va_G) (cc : Nat → ClassId) (ad : Nat → Nat) (hd : DA 13 ad (fun _ => True)) (g : CS) (σ : MS) (x1 : Int32) (hp : pr_X2_total g σ x1) : Ctr l yX2_total wsX2_total { frames := 0, cells := 0, slots := 0, locals := 0 } D cc (MW cc ad) 13 ad σ [.ref (ad 0), .int x1] (po_X2_total g σ x1) :=
  ctr_i (rt := (some .int)) (by decide +kernel) rfl hd (Nat.le_of_ble_eq_true rfl) (fun p e s m below meth c A C0 hd => wk_X2_total_0 C0 hd σ x1 (pu_X2_total g σ x1 hp))
