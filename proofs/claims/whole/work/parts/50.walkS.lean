set_option maxHeartbeats 4000000 in
set_option maxRecDepth 100000 in
theorem wk_J9_floorMod_7cf53_0 {p : Program} {l : Launch} {e : Env} {s : State} {m : MethodId} {args : Array Value} {below : List Frame} {meth : Method} {c : Code} {D : va_G} {cc : Nat → ClassId} {ad : Nat → Nat} {A : Nat → Prop} {Post : Int32 → Unit → Prop} (C0 : Cx p s m args meth c cJ9_floorMod_7cf53 3 (some .int) RJ9 wsJ9_floorMod_7cf53 D cc A) (hd : DA 0 ad A) (σ : Unit) (x0 : Int32) (x1 : Int32) (h : wp_J9_floorMod_7cf53 Post σ x0 x1) : At_ p l e { frames := 0, cells := 0, slots := 0, locals := 0 } s m args below meth c (Qi_ below D ((fun _ : Unit => ([] : va_W))) A args s Post) D A ((fun _ : Unit => ([] : va_W)) σ) 3 0 [(0, .int x0), (1, .int x1)] [] := by
  obtain ⟨hx, hb, hml, hr, hown, hts, hlocks, hK, hA, hX⟩ := id C0
  intro H locs ls hP hS hl
  unfold wp_J9_floorMod_7cf53 at h
  refine lv_iload_n hx hb dJ9_floorMod_7cf53_0 rfl (lv_at hl 0 rfl) ?_
  refine lv_iload_n hx hb dJ9_floorMod_7cf53_1 rfl (lv_at hl 1 rfl) ?_
  obtain ⟨gd1, h⟩ := h
  refine lv_irem hx hb dJ9_floorMod_7cf53_2 gd1 ?_
  refine lv_topi (fun x2_2 ex2_2 => ?_)
  have h := h x2_2 ex2_2
  refine lv_istore_n (lv' := [(2, .int x2_2), (0, .int x0), (1, .int x1)]) hx hb dJ9_floorMod_7cf53_3 rfl hl (by decide) rfl (fun ls hl => ?_)
  refine lv_iload_n hx hb dJ9_floorMod_7cf53_4 rfl (lv_at hl 1 rfl) ?_
  refine lv_iload_n hx hb dJ9_floorMod_7cf53_5 rfl (lv_at hl 2 rfl) ?_
  refine lv_ixor hx hb dJ9_floorMod_7cf53_6 ?_
  refine lv_if_ge (tgt := 18) hx hb dJ9_floorMod_7cf53_7 (by decide) (fun c3 => ?_) (fun c3 => ?_)
  · have h := h.1 c3
    refine lv_iload_n hx hb dJ9_floorMod_7cf53_18 rfl (lv_at hl 0 rfl) ?_
    exact ret_i (Wd := (fun _ : Unit => ([] : va_W))) (u := σ) C0 h hP hS dJ9_floorMod_7cf53_19
  · have h := h.2 c3
    refine lv_iload_n hx hb dJ9_floorMod_7cf53_10 rfl (lv_at hl 0 rfl) ?_
    refine lv_if_eq (tgt := 18) hx hb dJ9_floorMod_7cf53_11 (by decide) (fun c4 => ?_) (fun c4 => ?_)
    · have h := h.1 c4
      refine lv_iload_n hx hb dJ9_floorMod_7cf53_18 rfl (lv_at hl 0 rfl) ?_
      exact ret_i (Wd := (fun _ : Unit => ([] : va_W))) (u := σ) C0 h hP hS dJ9_floorMod_7cf53_19
    · have h := h.2 c4
      refine lv_iload_n hx hb dJ9_floorMod_7cf53_14 rfl (lv_at hl 0 rfl) ?_
      refine lv_iload_n hx hb dJ9_floorMod_7cf53_15 rfl (lv_at hl 2 rfl) ?_
      refine lv_iadd hx hb dJ9_floorMod_7cf53_16 ?_
      exact ret_i (Wd := (fun _ : Unit => ([] : va_W))) (u := σ) C0 h hP hS dJ9_floorMod_7cf53_17
theorem ct_J9_floorMod_7cf53 (l : Launch) (D : va_G) (cc : Nat → ClassId) (ad : Nat → Nat) (hd : DA 0 ad (fun _ => True)) (x0 : Int32) (x1 : Int32) (hp : pr_J9_floorMod_7cf53 x0 x1) : Ctr l yJ9_floorMod_7cf53 wsJ9_floorMod_7cf53 { frames := 0, cells := 0, slots := 0, locals := 0 } D cc ((fun _ : Unit => ([] : va_W))) 0 ad () [.int x0, .int x1] (fun r u => r = fn_J9_floorMod_7cf53 x0 x1 ∧ u = ()) :=
  ctr_j (rt := (some .int)) (by decide +kernel) rfl hd (Nat.le_of_ble_eq_true rfl) (fun p e s m below meth c A C0 hd => wk_J9_floorMod_7cf53_0 C0 hd () x0 x1 (pu_J9_floorMod_7cf53 x0 x1 hp))
set_option maxHeartbeats 4000000 in
set_option maxRecDepth 100000 in
theorem wk_X0_isRange_0 {p : Program} {l : Launch} {e : Env} {s : State} {m : MethodId} {args : Array Value} {below : List Frame} {meth : Method} {c : Code} {D : va_G} {cc : Nat → ClassId} {ad : Nat → Nat} {A : Nat → Prop} {Post : Int32 → Unit → Prop} (C0 : Cx p s m args meth c cX0_isRange 3 (some .boolean) RX0 wsX0_isRange D cc A) (hd : DA 0 ad A) (σ : Unit) (x0 : Int32) (x1 : Int32) (x2 : Int32) (h : wp_X0_isRange Post σ x0 x1 x2) : At_ p l e { frames := 0, cells := 0, slots := 0, locals := 0 } s m args below meth c (Qi_ below D ((fun _ : Unit => ([] : va_W))) A args s Post) D A ((fun _ : Unit => ([] : va_W)) σ) 3 0 [(0, .int x0), (1, .int x1), (2, .int x2)] [] := by
  obtain ⟨hx, hb, hml, hr, hown, hts, hlocks, hK, hA, hX⟩ := id C0
  intro H locs ls hP hS hl
  unfold wp_X0_isRange at h
  refine lv_iload_n hx hb dX0_isRange_0 rfl (lv_at hl 0 rfl) ?_
  refine lv_if_lt (tgt := 31) hx hb dX0_isRange_1 (by decide) (fun c1 => ?_) (fun c1 => ?_)
  · have h := h.1 c1
    refine lv_iconst (v := 0) hx hb dX0_isRange_31 (by decide) ?_
    exact ret_z (Wd := (fun _ : Unit => ([] : va_W))) (u := σ) C0 rfl h hP hS dX0_isRange_32
  · have h := h.2 c1
    refine lv_iload_n hx hb dX0_isRange_4 rfl (lv_at hl 0 rfl) ?_
    refine lv_iconst (v := 2) hx hb dX0_isRange_5 (by decide) ?_
    refine lv_icmp_gt (tgt := 31) hx hb dX0_isRange_6 (by decide) (fun c2 => ?_) (fun c2 => ?_)
    · have h := h.1 c2
      refine lv_iconst (v := 0) hx hb dX0_isRange_31 (by decide) ?_
      exact ret_z (Wd := (fun _ : Unit => ([] : va_W))) (u := σ) C0 rfl h hP hS dX0_isRange_32
    · have h := h.2 c2
      refine lv_iload_n hx hb dX0_isRange_9 rfl (lv_at hl 1 rfl) ?_
      refine lv_if_lt (tgt := 31) hx hb dX0_isRange_10 (by decide) (fun c3 => ?_) (fun c3 => ?_)
      · have h := h.1 c3
        refine lv_iconst (v := 0) hx hb dX0_isRange_31 (by decide) ?_
        exact ret_z (Wd := (fun _ : Unit => ([] : va_W))) (u := σ) C0 rfl h hP hS dX0_isRange_32
      · have h := h.2 c3
        refine lv_iload_n hx hb dX0_isRange_13 rfl (lv_at hl 1 rfl) ?_
        refine lv_iload_n hx hb dX0_isRange_14 rfl (lv_at hl 2 rfl) ?_
        refine lv_icmp_gt (tgt := 31) hx hb dX0_isRange_15 (by decide) (fun c4 => ?_) (fun c4 => ?_)
        · have h := h.1 c4
          refine lv_iconst (v := 0) hx hb dX0_isRange_31 (by decide) ?_
          exact ret_z (Wd := (fun _ : Unit => ([] : va_W))) (u := σ) C0 rfl h hP hS dX0_isRange_32
        · have h := h.2 c4
          refine lv_iload_n hx hb dX0_isRange_18 rfl (lv_at hl 2 rfl) ?_
          obtain ⟨t0, hZ0, hT0⟩ := hX.1
          refine va_gets hx hb hZ0 hS hown (hts (.fieldLink RX0 34 "ClassSheets$Kind" "RANGE_MOST" "[I") (List.mem_of_getElem? (i := 1) rfl)) (fun _ h9 => h9) dX0_isRange_19 ?_
          refine lv_iload_n hx hb dX0_isRange_22 rfl (lv_at hl 0 rfl) ?_
          obtain ⟨gi5, h⟩ := h
          refine va_ti hx hb hT0 hS gi5 (v := .int (sx_v0 x0.toNatClampNeg)) rfl dX0_isRange_23 ?_
          refine lv_icmp_gt (tgt := 31) hx hb dX0_isRange_24 (by decide) (fun c6 => ?_) (fun c6 => ?_)
          · have h := h.1 c6
            refine lv_iconst (v := 0) hx hb dX0_isRange_31 (by decide) ?_
            exact ret_z (Wd := (fun _ : Unit => ([] : va_W))) (u := σ) C0 rfl h hP hS dX0_isRange_32
          · have h := h.2 c6
            refine lv_iconst (v := 1) hx hb dX0_isRange_27 (by decide) ?_
            refine lv_goto (tgt := 32) hx hb dX0_isRange_28 (by decide) ?_
            exact ret_z (Wd := (fun _ : Unit => ([] : va_W))) (u := σ) C0 rfl h hP hS dX0_isRange_32
theorem ct_X0_isRange (l : Launch) (D : va_G) (cc : Nat → ClassId) (ad : Nat → Nat) (hd : DA 0 ad (fun _ => True)) (x0 : Int32) (x1 : Int32) (x2 : Int32) : Ctr l yX0_isRange wsX0_isRange { frames := 0, cells := 0, slots := 0, locals := 0 } D cc ((fun _ : Unit => ([] : va_W))) 0 ad () [.int x0, .int x1, .int x2] (fun r u => r = fn_X0_isRange x0 x1 x2 ∧ u = ()) :=
  ctr_i (rt := (some .boolean)) (by decide +kernel) rfl hd (Nat.le_of_ble_eq_true rfl) (fun p e s m below meth c A C0 hd => wk_X0_isRange_0 C0 hd () x0 x1 x2 (pu_X0_isRange x0 x1 x2))
set_option maxHeartbeats 4000000 in
set_option maxRecDepth 100000 in
theorem wk_X0_isRule_0 {p : Program} {l : Launch} {e : Env} {s : State} {m : MethodId} {args : Array Value} {below : List Frame} {meth : Method} {c : Code} {D : va_G} {cc : Nat → ClassId} {ad : Nat → Nat} {A : Nat → Prop} {Post : Int32 → Unit → Prop} (C0 : Cx p s m args meth c cX0_isRule 2 (some .boolean) RX0 wsX0_isRule D cc A) (hd : DA 0 ad A) (σ : Unit) (x0 : Int32) (x1 : Int32) (h : wp_X0_isRule Post σ x0 x1) : At_ p l e { frames := 0, cells := 0, slots := 0, locals := 0 } s m args below meth c (Qi_ below D ((fun _ : Unit => ([] : va_W))) A args s Post) D A ((fun _ : Unit => ([] : va_W)) σ) 2 0 [(0, .int x0), (1, .int x1)] [] := by
  obtain ⟨hx, hb, hml, hr, hown, hts, hlocks, hK, hA, hX⟩ := id C0
  intro H locs ls hP hS hl
  unfold wp_X0_isRule at h
  refine lv_iload_n hx hb dX0_isRule_0 rfl (lv_at hl 0 rfl) ?_
  refine lv_if_lt (tgt := 31) hx hb dX0_isRule_1 (by decide) (fun c1 => ?_) (fun c1 => ?_)
  · have h := h.1 c1
    refine lv_iconst (v := 0) hx hb dX0_isRule_31 (by decide) ?_
    exact ret_z (Wd := (fun _ : Unit => ([] : va_W))) (u := σ) C0 rfl h hP hS dX0_isRule_32
  · have h := h.2 c1
    refine lv_iload_n hx hb dX0_isRule_4 rfl (lv_at hl 0 rfl) ?_
    refine lv_iconst (v := 2) hx hb dX0_isRule_5 (by decide) ?_
    refine lv_icmp_gt (tgt := 31) hx hb dX0_isRule_6 (by decide) (fun c2 => ?_) (fun c2 => ?_)
    · have h := h.1 c2
      refine lv_iconst (v := 0) hx hb dX0_isRule_31 (by decide) ?_
      exact ret_z (Wd := (fun _ : Unit => ([] : va_W))) (u := σ) C0 rfl h hP hS dX0_isRule_32
    · have h := h.2 c2
      refine lv_iload_n hx hb dX0_isRule_9 rfl (lv_at hl 1 rfl) ?_
      obtain ⟨t1, hZ1, hT1⟩ := hX.2.1
      refine va_gets hx hb hZ1 hS hown (hts (.fieldLink RX0 37 "ClassSheets$Kind" "RULE_LEAST" "[I") (List.mem_of_getElem? (i := 1) rfl)) (fun _ h9 => h9) dX0_isRule_10 ?_
      refine lv_iload_n hx hb dX0_isRule_13 rfl (lv_at hl 0 rfl) ?_
      obtain ⟨gi3, h⟩ := h
      refine va_ti hx hb hT1 hS gi3 (v := .int (sx_v1 x0.toNatClampNeg)) rfl dX0_isRule_14 ?_
      refine lv_icmp_lt (tgt := 31) hx hb dX0_isRule_15 (by decide) (fun c4 => ?_) (fun c4 => ?_)
      · have h := h.1 c4
        refine lv_iconst (v := 0) hx hb dX0_isRule_31 (by decide) ?_
        exact ret_z (Wd := (fun _ : Unit => ([] : va_W))) (u := σ) C0 rfl h hP hS dX0_isRule_32
      · have h := h.2 c4
        refine lv_iload_n hx hb dX0_isRule_18 rfl (lv_at hl 1 rfl) ?_
        obtain ⟨t2, hZ2, hT2⟩ := hX.2.2
        refine va_gets hx hb hZ2 hS hown (hts (.fieldLink RX0 40 "ClassSheets$Kind" "RULE_MOST" "[I") (List.mem_of_getElem? (i := 2) rfl)) (fun _ h9 => h9) dX0_isRule_19 ?_
        refine lv_iload_n hx hb dX0_isRule_22 rfl (lv_at hl 0 rfl) ?_
        obtain ⟨gi5, h⟩ := h
        refine va_ti hx hb hT2 hS gi5 (v := .int (sx_v2 x0.toNatClampNeg)) rfl dX0_isRule_23 ?_
        refine lv_icmp_gt (tgt := 31) hx hb dX0_isRule_24 (by decide) (fun c6 => ?_) (fun c6 => ?_)
        · have h := h.1 c6
          refine lv_iconst (v := 0) hx hb dX0_isRule_31 (by decide) ?_
          exact ret_z (Wd := (fun _ : Unit => ([] : va_W))) (u := σ) C0 rfl h hP hS dX0_isRule_32
        · have h := h.2 c6
          refine lv_iconst (v := 1) hx hb dX0_isRule_27 (by decide) ?_
          refine lv_goto (tgt := 32) hx hb dX0_isRule_28 (by decide) ?_
          exact ret_z (Wd := (fun _ : Unit => ([] : va_W))) (u := σ) C0 rfl h hP hS dX0_isRule_32
theorem ct_X0_isRule (l : Launch) (D : va_G) (cc : Nat → ClassId) (ad : Nat → Nat) (hd : DA 0 ad (fun _ => True)) (x0 : Int32) (x1 : Int32) : Ctr l yX0_isRule wsX0_isRule { frames := 0, cells := 0, slots := 0, locals := 0 } D cc ((fun _ : Unit => ([] : va_W))) 0 ad () [.int x0, .int x1] (fun r u => r = fn_X0_isRule x0 x1 ∧ u = ()) :=
  ctr_i (rt := (some .boolean)) (by decide +kernel) rfl hd (Nat.le_of_ble_eq_true rfl) (fun p e s m below meth c A C0 hd => wk_X0_isRule_0 C0 hd () x0 x1 (pu_X0_isRule x0 x1))
set_option maxHeartbeats 4000000 in
set_option maxRecDepth 100000 in
theorem wk_X0_exchanged_0 {p : Program} {l : Launch} {e : Env} {s : State} {m : MethodId} {args : Array Value} {below : List Frame} {meth : Method} {c : Code} {D : va_G} {cc : Nat → ClassId} {ad : Nat → Nat} {A : Nat → Prop} {Post : Int32 → Unit → Prop} (C0 : Cx p s m args meth c cX0_exchanged 3 (some .int) RX0 wsX0_exchanged D cc A) (hd : DA 0 ad A) (σ : Unit) (x0 : Int32) (h : wp_X0_exchanged Post σ x0) : At_ p l e { frames := 0, cells := 0, slots := 0, locals := 0 } s m args below meth c (Qi_ below D ((fun _ : Unit => ([] : va_W))) A args s Post) D A ((fun _ : Unit => ([] : va_W)) σ) 3 0 [(0, .int x0)] [] := by
  obtain ⟨hx, hb, hml, hr, hown, hts, hlocks, hK, hA, hX⟩ := id C0
  intro H locs ls hP hS hl
  unfold wp_X0_exchanged at h
  refine lv_iload_n hx hb dX0_exchanged_0 rfl (lv_at hl 0 rfl) ?_
  refine lv_bipush (v := 10) hx hb dX0_exchanged_1 (by decide) ?_
  refine lv_idiv hx hb dX0_exchanged_3 (by decide) ?_
  refine lv_topi (fun x1_1 ex1_1 => ?_)
  have h := h x1_1 ex1_1
  refine lv_istore_n (lv' := [(1, .int x1_1), (0, .int x0)]) hx hb dX0_exchanged_4 rfl hl (by decide) rfl (fun ls hl => ?_)
  refine lv_iload_n hx hb dX0_exchanged_5 rfl (lv_at hl 1 rfl) ?_
  refine lv_bipush (v := 10) hx hb dX0_exchanged_6 (by decide) ?_
  refine lv_irem hx hb dX0_exchanged_8 (by decide) ?_
  refine lv_topi (fun x2_2 ex2_2 => ?_)
  have h := h x2_2 ex2_2
  refine lv_istore_n (lv' := [(2, .int x2_2), (1, .int x1_1), (0, .int x0)]) hx hb dX0_exchanged_9 rfl hl (by decide) rfl (fun ls hl => ?_)
  refine lv_iload_n hx hb dX0_exchanged_10 rfl (lv_at hl 1 rfl) ?_
  refine lv_iconst (v := 1) hx hb dX0_exchanged_11 (by decide) ?_
  refine lv_icmp_lt (tgt := 35) hx hb dX0_exchanged_12 (by decide) (fun c3 => ?_) (fun c3 => ?_)
  · have h := h.1 c3
    refine lv_bipush (v := (-9)) hx hb dX0_exchanged_35 (by decide) ?_
    exact ret_i (Wd := (fun _ : Unit => ([] : va_W))) (u := σ) C0 h hP hS dX0_exchanged_37
  · have h := h.2 c3
    refine lv_iload_n hx hb dX0_exchanged_15 rfl (lv_at hl 1 rfl) ?_
    refine lv_bipush (v := 9) hx hb dX0_exchanged_16 (by decide) ?_
    refine lv_icmp_gt (tgt := 35) hx hb dX0_exchanged_18 (by decide) (fun c4 => ?_) (fun c4 => ?_)
    · have h := h.1 c4
      refine lv_bipush (v := (-9)) hx hb dX0_exchanged_35 (by decide) ?_
      exact ret_i (Wd := (fun _ : Unit => ([] : va_W))) (u := σ) C0 h hP hS dX0_exchanged_37
    · have h := h.2 c4
      refine lv_iload_n hx hb dX0_exchanged_21 rfl (lv_at hl 1 rfl) ?_
      refine lv_iload_n hx hb dX0_exchanged_22 rfl (lv_at hl 0 rfl) ?_
      refine lv_icmp_eq (tgt := 35) hx hb dX0_exchanged_23 (by decide) (fun c5 => ?_) (fun c5 => ?_)
      · have h := h.1 c5
        refine lv_bipush (v := (-9)) hx hb dX0_exchanged_35 (by decide) ?_
        exact ret_i (Wd := (fun _ : Unit => ([] : va_W))) (u := σ) C0 h hP hS dX0_exchanged_37
      · have h := h.2 c5
        refine lv_iload_n hx hb dX0_exchanged_26 rfl (lv_at hl 0 rfl) ?_
        refine lv_bipush (v := 10) hx hb dX0_exchanged_27 (by decide) ?_
        refine lv_imul hx hb dX0_exchanged_29 ?_
        refine lv_iload_n hx hb dX0_exchanged_30 rfl (lv_at hl 1 rfl) ?_
        refine lv_iadd hx hb dX0_exchanged_31 ?_
        refine lv_goto (tgt := 37) hx hb dX0_exchanged_32 (by decide) ?_
        exact ret_i (Wd := (fun _ : Unit => ([] : va_W))) (u := σ) C0 h hP hS dX0_exchanged_37
theorem ct_X0_exchanged (l : Launch) (D : va_G) (cc : Nat → ClassId) (ad : Nat → Nat) (hd : DA 0 ad (fun _ => True)) (x0 : Int32) : Ctr l yX0_exchanged wsX0_exchanged { frames := 0, cells := 0, slots := 0, locals := 0 } D cc ((fun _ : Unit => ([] : va_W))) 0 ad () [.int x0] (fun r u => r = fn_X0_exchanged x0 ∧ u = ()) :=
  ctr_i (rt := (some .int)) (by decide +kernel) rfl hd (Nat.le_of_ble_eq_true rfl) (fun p e s m below meth c A C0 hd => wk_X0_exchanged_0 C0 hd () x0 (pu_X0_exchanged x0))
set_option maxHeartbeats 4000000 in
set_option maxRecDepth 100000 in
theorem wk_X1_isSheet_0 {p : Program} {l : Launch} {e : Env} {s : State} {m : MethodId} {args : Array Value} {below : List Frame} {meth : Method} {c : Code} {D : va_G} {cc : Nat → ClassId} {ad : Nat → Nat} {A : Nat → Prop} {Post : Int32 → Unit → Prop} (C0 : Cx p s m args meth c cX1_isSheet 1 (some .boolean) RX1 wsX1_isSheet D cc A) (hd : DA 0 ad A) (σ : Unit) (x0 : Int32) (h : wp_X1_isSheet Post σ x0) : At_ p l e { frames := 0, cells := 0, slots := 0, locals := 0 } s m args below meth c (Qi_ below D ((fun _ : Unit => ([] : va_W))) A args s Post) D A ((fun _ : Unit => ([] : va_W)) σ) 1 0 [(0, .int x0)] [] := by
  obtain ⟨hx, hb, hml, hr, hown, hts, hlocks, hK, hA, hX⟩ := id C0
  intro H locs ls hP hS hl
  unfold wp_X1_isSheet at h
  refine lv_iload_n hx hb dX1_isSheet_0 rfl (lv_at hl 0 rfl) ?_
  refine lv_if_lt (tgt := 15) hx hb dX1_isSheet_1 (by decide) (fun c1 => ?_) (fun c1 => ?_)
  · have h := h.1 c1
    refine lv_iconst (v := 0) hx hb dX1_isSheet_15 (by decide) ?_
    exact ret_z (Wd := (fun _ : Unit => ([] : va_W))) (u := σ) C0 rfl h hP hS dX1_isSheet_16
  · have h := h.2 c1
    refine lv_iload_n hx hb dX1_isSheet_4 rfl (lv_at hl 0 rfl) ?_
    refine lv_sipush (v := 9999) hx hb dX1_isSheet_5 (by decide) ?_
    refine lv_icmp_gt (tgt := 15) hx hb dX1_isSheet_8 (by decide) (fun c2 => ?_) (fun c2 => ?_)
    · have h := h.1 c2
      refine lv_iconst (v := 0) hx hb dX1_isSheet_15 (by decide) ?_
      exact ret_z (Wd := (fun _ : Unit => ([] : va_W))) (u := σ) C0 rfl h hP hS dX1_isSheet_16
    · have h := h.2 c2
      refine lv_iconst (v := 1) hx hb dX1_isSheet_11 (by decide) ?_
      refine lv_goto (tgt := 16) hx hb dX1_isSheet_12 (by decide) ?_
      exact ret_z (Wd := (fun _ : Unit => ([] : va_W))) (u := σ) C0 rfl h hP hS dX1_isSheet_16
theorem ct_X1_isSheet (l : Launch) (D : va_G) (cc : Nat → ClassId) (ad : Nat → Nat) (hd : DA 0 ad (fun _ => True)) (x0 : Int32) : Ctr l yX1_isSheet wsX1_isSheet { frames := 0, cells := 0, slots := 0, locals := 0 } D cc ((fun _ : Unit => ([] : va_W))) 0 ad () [.int x0] (fun r u => r = fn_X1_isSheet x0 ∧ u = ()) :=
  ctr_i (rt := (some .boolean)) (by decide +kernel) rfl hd (Nat.le_of_ble_eq_true rfl) (fun p e s m below meth c A C0 hd => wk_X1_isSheet_0 C0 hd () x0 (pu_X1_isSheet x0))
set_option maxHeartbeats 4000000 in
set_option maxRecDepth 100000 in
theorem wk_X2_in_0 {p : Program} {l : Launch} {e : Env} {s : State} {m : MethodId} {args : Array Value} {below : List Frame} {meth : Method} {c : Code} {D : va_G} {cc : Nat → ClassId} {ad : Nat → Nat} {A : Nat → Prop} {Post : Int32 → Unit → Prop} (C0 : Cx p s m args meth c cX2_in 6 (some .boolean) RX2 wsX2_in D cc A) (hd : DA 0 ad A) (σ : Unit) (x0 : Int64) (x2 : Int64) (x4 : Int64) (h : wp_X2_in Post σ x0 x2 x4) : At_ p l e { frames := 0, cells := 0, slots := 0, locals := 0 } s m args below meth c (Qi_ below D ((fun _ : Unit => ([] : va_W))) A args s Post) D A ((fun _ : Unit => ([] : va_W)) σ) 6 0 [(0, .long x0), (2, .long x2), (4, .long x4)] [] := by
  obtain ⟨hx, hb, hml, hr, hown, hts, hlocks, hK, hA, hX⟩ := id C0
  intro H locs ls hP hS hl
  unfold wp_X2_in at h
  refine lv_lload_n hx hb dX2_in_0 rfl (lv_at hl 0 rfl) ?_
  refine lv_lload_n hx hb dX2_in_1 rfl (lv_at hl 1 rfl) ?_
  refine W.lcmp hx hb dX2_in_2 ?_
  refine lv_if_lt (tgt := 17) hx hb dX2_in_3 (by decide) (fun c1 => ?_) (fun c1 => ?_)
  · have h := h.1 c1
    refine lv_iconst (v := 0) hx hb dX2_in_17 (by decide) ?_
    exact ret_z (Wd := (fun _ : Unit => ([] : va_W))) (u := σ) C0 rfl h hP hS dX2_in_18
  · have h := h.2 c1
    refine lv_lload_n hx hb dX2_in_6 rfl (lv_at hl 0 rfl) ?_
    refine lv_lload hx hb dX2_in_7 (lv_at hl 2 rfl) ?_
    refine W.lcmp hx hb dX2_in_9 ?_
    refine lv_if_gt (tgt := 17) hx hb dX2_in_10 (by decide) (fun c2 => ?_) (fun c2 => ?_)
    · have h := h.1 c2
      refine lv_iconst (v := 0) hx hb dX2_in_17 (by decide) ?_
      exact ret_z (Wd := (fun _ : Unit => ([] : va_W))) (u := σ) C0 rfl h hP hS dX2_in_18
    · have h := h.2 c2
      refine lv_iconst (v := 1) hx hb dX2_in_13 (by decide) ?_
      refine lv_goto (tgt := 18) hx hb dX2_in_14 (by decide) ?_
      exact ret_z (Wd := (fun _ : Unit => ([] : va_W))) (u := σ) C0 rfl h hP hS dX2_in_18
theorem ct_X2_in (l : Launch) (D : va_G) (cc : Nat → ClassId) (ad : Nat → Nat) (hd : DA 0 ad (fun _ => True)) (x0 : Int64) (x2 : Int64) (x4 : Int64) : Ctr l yX2_in wsX2_in { frames := 0, cells := 0, slots := 0, locals := 0 } D cc ((fun _ : Unit => ([] : va_W))) 0 ad () [.long x0, .long x2, .long x4] (fun r u => r = fn_X2_in x0 x2 x4 ∧ u = ()) :=
  ctr_i (rt := (some .boolean)) (by decide +kernel) rfl hd (Nat.le_of_ble_eq_true rfl) (fun p e s m below meth c A C0 hd => wk_X2_in_0 C0 hd () x0 x2 x4 (pu_X2_in x0 x2 x4))
set_option maxHeartbeats 4000000 in
set_option maxRecDepth 100000 in
theorem wk_X2_answerOf_0 {p : Program} {l : Launch} {e : Env} {s : State} {m : MethodId} {args : Array Value} {below : List Frame} {meth : Method} {c : Code} {D : va_G} {cc : Nat → ClassId} {ad : Nat → Nat} {A : Nat → Prop} {Post : Int32 → Unit → Prop} (C0 : Cx p s m args meth c cX2_answerOf 3 (some .int) RX2 wsX2_answerOf D cc A) (hd : DA 0 ad A) (σ : Unit) (x0 : Int32) (x1 : Int32) (x2 : Int32) (h : wp_X2_answerOf Post σ x0 x1 x2) : At_ p l e { frames := 0, cells := 0, slots := 0, locals := 0 } s m args below meth c (Qi_ below D ((fun _ : Unit => ([] : va_W))) A args s Post) D A ((fun _ : Unit => ([] : va_W)) σ) 3 0 [(0, .int x0), (1, .int x1), (2, .int x2)] [] := by
  obtain ⟨hx, hb, hml, hr, hown, hts, hlocks, hK, hA, hX⟩ := id C0
  intro H locs ls hP hS hl
  unfold wp_X2_answerOf at h
  refine lv_iload_n hx hb dX2_answerOf_0 rfl (lv_at hl 0 rfl) ?_
  refine lv_if_ne (tgt := 8) hx hb dX2_answerOf_1 (by decide) (fun c1 => ?_) (fun c1 => ?_)
  · have h := h.1 c1
    refine lv_iload_n hx hb dX2_answerOf_8 rfl (lv_at hl 0 rfl) ?_
    refine lv_iconst (v := 1) hx hb dX2_answerOf_9 (by decide) ?_
    refine lv_icmp_ne (tgt := 27) hx hb dX2_answerOf_10 (by decide) (fun c2 => ?_) (fun c2 => ?_)
    · have h := h.1 c2
      refine lv_iload_n hx hb dX2_answerOf_27 rfl (lv_at hl 0 rfl) ?_
      refine lv_iconst (v := 2) hx hb dX2_answerOf_28 (by decide) ?_
      refine lv_icmp_ne (tgt := 36) hx hb dX2_answerOf_29 (by decide) (fun c3 => ?_) (fun c3 => ?_)
      · have h := h.1 c3
        refine lv_iload_n hx hb dX2_answerOf_36 rfl (lv_at hl 2 rfl) ?_
        refine lv_if_eq (tgt := 52) hx hb dX2_answerOf_37 (by decide) (fun c4 => ?_) (fun c4 => ?_)
        · have h := h.1 c4
          refine lv_bipush (v := (-9)) hx hb dX2_answerOf_52 (by decide) ?_
          exact ret_i (Wd := (fun _ : Unit => ([] : va_W))) (u := σ) C0 h hP hS dX2_answerOf_54
        · have h := h.2 c4
          refine lv_iload_n hx hb dX2_answerOf_40 rfl (lv_at hl 1 rfl) ?_
          refine lv_iload_n hx hb dX2_answerOf_41 rfl (lv_at hl 2 rfl) ?_
          obtain ⟨gd5, h⟩ := h
          refine lv_irem hx hb dX2_answerOf_42 gd5 ?_
          refine lv_if_ne (tgt := 52) hx hb dX2_answerOf_43 (by decide) (fun c6 => ?_) (fun c6 => ?_)
          · have h := h.1 c6
            refine lv_bipush (v := (-9)) hx hb dX2_answerOf_52 (by decide) ?_
            exact ret_i (Wd := (fun _ : Unit => ([] : va_W))) (u := σ) C0 h hP hS dX2_answerOf_54
          · have h := h.2 c6
            refine lv_iload_n hx hb dX2_answerOf_46 rfl (lv_at hl 1 rfl) ?_
            refine lv_iload_n hx hb dX2_answerOf_47 rfl (lv_at hl 2 rfl) ?_
            obtain ⟨gd7, h⟩ := h
            refine lv_idiv hx hb dX2_answerOf_48 gd7 ?_
            refine lv_goto (tgt := 54) hx hb dX2_answerOf_49 (by decide) ?_
            exact ret_i (Wd := (fun _ : Unit => ([] : va_W))) (u := σ) C0 h hP hS dX2_answerOf_54
      · have h := h.2 c3
        refine lv_iload_n hx hb dX2_answerOf_32 rfl (lv_at hl 1 rfl) ?_
        refine lv_iload_n hx hb dX2_answerOf_33 rfl (lv_at hl 2 rfl) ?_
        refine lv_imul hx hb dX2_answerOf_34 ?_
        exact ret_i (Wd := (fun _ : Unit => ([] : va_W))) (u := σ) C0 h hP hS dX2_answerOf_35
    · have h := h.2 c2
      refine lv_iload_n hx hb dX2_answerOf_13 rfl (lv_at hl 1 rfl) ?_
      refine lv_iload_n hx hb dX2_answerOf_14 rfl (lv_at hl 2 rfl) ?_
      refine lv_icmp_lt (tgt := 24) hx hb dX2_answerOf_15 (by decide) (fun c8 => ?_) (fun c8 => ?_)
      · have h := h.1 c8
        refine lv_bipush (v := (-9)) hx hb dX2_answerOf_24 (by decide) ?_
        exact ret_i (Wd := (fun _ : Unit => ([] : va_W))) (u := σ) C0 h hP hS dX2_answerOf_26
      · have h := h.2 c8
        refine lv_iload_n hx hb dX2_answerOf_18 rfl (lv_at hl 1 rfl) ?_
        refine lv_iload_n hx hb dX2_answerOf_19 rfl (lv_at hl 2 rfl) ?_
        refine lv_isub hx hb dX2_answerOf_20 ?_
        refine lv_goto (tgt := 26) hx hb dX2_answerOf_21 (by decide) ?_
        exact ret_i (Wd := (fun _ : Unit => ([] : va_W))) (u := σ) C0 h hP hS dX2_answerOf_26
  · have h := h.2 c1
    refine lv_iload_n hx hb dX2_answerOf_4 rfl (lv_at hl 1 rfl) ?_
    refine lv_iload_n hx hb dX2_answerOf_5 rfl (lv_at hl 2 rfl) ?_
    refine lv_iadd hx hb dX2_answerOf_6 ?_
    exact ret_i (Wd := (fun _ : Unit => ([] : va_W))) (u := σ) C0 h hP hS dX2_answerOf_7
theorem ct_X2_answerOf (l : Launch) (D : va_G) (cc : Nat → ClassId) (ad : Nat → Nat) (hd : DA 0 ad (fun _ => True)) (x0 : Int32) (x1 : Int32) (x2 : Int32) : Ctr l yX2_answerOf wsX2_answerOf { frames := 0, cells := 0, slots := 0, locals := 0 } D cc ((fun _ : Unit => ([] : va_W))) 0 ad () [.int x0, .int x1, .int x2] (fun r u => r = fn_X2_answerOf x0 x1 x2 ∧ u = ()) :=
  ctr_i (rt := (some .int)) (by decide +kernel) rfl hd (Nat.le_of_ble_eq_true rfl) (fun p e s m below meth c A C0 hd => wk_X2_answerOf_0 C0 hd () x0 x1 x2 (pu_X2_answerOf x0 x1 x2))
set_option maxHeartbeats 4000000 in
set_option maxRecDepth 100000 in
theorem wk_X2_carries_0 {p : Program} {l : Launch} {e : Env} {s : State} {m : MethodId} {args : Array Value} {below : List Frame} {meth : Method} {c : Code} {D : va_G} {cc : Nat → ClassId} {ad : Nat → Nat} {A : Nat → Prop} {Post : Int32 → Unit → Prop} (C0 : Cx p s m args meth c cX2_carries 3 (some .boolean) RX2 wsX2_carries D cc A) (hd : DA 0 ad A) (σ : Unit) (x0 : Int32) (x1 : Int32) (x2 : Int32) (h : wp_X2_carries Post σ x0 x1 x2) : At_ p l e { frames := 0, cells := 0, slots := 0, locals := 0 } s m args below meth c (Qi_ below D ((fun _ : Unit => ([] : va_W))) A args s Post) D A ((fun _ : Unit => ([] : va_W)) σ) 3 0 [(0, .int x0), (1, .int x1), (2, .int x2)] [] := by
  obtain ⟨hx, hb, hml, hr, hown, hts, hlocks, hK, hA, hX⟩ := id C0
  intro H locs ls hP hS hl
  unfold wp_X2_carries at h
  refine lv_iload_n hx hb dX2_carries_0 rfl (lv_at hl 0 rfl) ?_
  refine lv_if_ne (tgt := 26) hx hb dX2_carries_1 (by decide) (fun c1 => ?_) (fun c1 => ?_)
  · have h := h.1 c1
    refine lv_iload_n hx hb dX2_carries_26 rfl (lv_at hl 0 rfl) ?_
    refine lv_iconst (v := 1) hx hb dX2_carries_27 (by decide) ?_
    refine lv_icmp_ne (tgt := 46) hx hb dX2_carries_28 (by decide) (fun c2 => ?_) (fun c2 => ?_)
    · have h := h.1 c2
      refine lv_iconst (v := 0) hx hb dX2_carries_46 (by decide) ?_
      exact ret_z (Wd := (fun _ : Unit => ([] : va_W))) (u := σ) C0 rfl h hP hS dX2_carries_47
    · have h := h.2 c2
      refine lv_iload_n hx hb dX2_carries_31 rfl (lv_at hl 1 rfl) ?_
      refine lv_bipush (v := 10) hx hb dX2_carries_32 (by decide) ?_
      refine lv_irem hx hb dX2_carries_34 (by decide) ?_
      refine lv_iload_n hx hb dX2_carries_35 rfl (lv_at hl 2 rfl) ?_
      refine lv_bipush (v := 10) hx hb dX2_carries_36 (by decide) ?_
      refine lv_irem hx hb dX2_carries_38 (by decide) ?_
      refine lv_icmp_ge (tgt := 46) hx hb dX2_carries_39 (by decide) (fun c3 => ?_) (fun c3 => ?_)
      · have h := h.1 c3
        refine lv_iconst (v := 0) hx hb dX2_carries_46 (by decide) ?_
        exact ret_z (Wd := (fun _ : Unit => ([] : va_W))) (u := σ) C0 rfl h hP hS dX2_carries_47
      · have h := h.2 c3
        refine lv_iconst (v := 1) hx hb dX2_carries_42 (by decide) ?_
        refine lv_goto (tgt := 47) hx hb dX2_carries_43 (by decide) ?_
        exact ret_z (Wd := (fun _ : Unit => ([] : va_W))) (u := σ) C0 rfl h hP hS dX2_carries_47
  · have h := h.2 c1
    refine lv_iload_n hx hb dX2_carries_4 rfl (lv_at hl 1 rfl) ?_
    refine lv_bipush (v := 10) hx hb dX2_carries_5 (by decide) ?_
    refine lv_irem hx hb dX2_carries_7 (by decide) ?_
    refine lv_iload_n hx hb dX2_carries_8 rfl (lv_at hl 2 rfl) ?_
    refine lv_bipush (v := 10) hx hb dX2_carries_9 (by decide) ?_
    refine lv_irem hx hb dX2_carries_11 (by decide) ?_
    refine lv_iadd hx hb dX2_carries_12 ?_
    refine lv_bipush (v := 10) hx hb dX2_carries_13 (by decide) ?_
    refine lv_icmp_lt (tgt := 22) hx hb dX2_carries_15 (by decide) (fun c4 => ?_) (fun c4 => ?_)
    · have h := h.1 c4
      refine lv_iconst (v := 0) hx hb dX2_carries_22 (by decide) ?_
      refine lv_goto (tgt := 47) hx hb dX2_carries_23 (by decide) ?_
      exact ret_z (Wd := (fun _ : Unit => ([] : va_W))) (u := σ) C0 rfl h hP hS dX2_carries_47
    · have h := h.2 c4
      refine lv_iconst (v := 1) hx hb dX2_carries_18 (by decide) ?_
      refine lv_goto (tgt := 47) hx hb dX2_carries_19 (by decide) ?_
      exact ret_z (Wd := (fun _ : Unit => ([] : va_W))) (u := σ) C0 rfl h hP hS dX2_carries_47
theorem ct_X2_carries (l : Launch) (D : va_G) (cc : Nat → ClassId) (ad : Nat → Nat) (hd : DA 0 ad (fun _ => True)) (x0 : Int32) (x1 : Int32) (x2 : Int32) : Ctr l yX2_carries wsX2_carries { frames := 0, cells := 0, slots := 0, locals := 0 } D cc ((fun _ : Unit => ([] : va_W))) 0 ad () [.int x0, .int x1, .int x2] (fun r u => r = fn_X2_carries x0 x1 x2 ∧ u = ()) :=
  ctr_i (rt := (some .boolean)) (by decide +kernel) rfl hd (Nat.le_of_ble_eq_true rfl) (fun p e s m below meth c A C0 hd => wk_X2_carries_0 C0 hd () x0 x1 x2 (pu_X2_carries x0 x1 x2))
set_option maxHeartbeats 4000000 in
set_option maxRecDepth 100000 in
theorem wk_X2_slipOf_0 {p : Program} {l : Launch} {e : Env} {s : State} {m : MethodId} {args : Array Value} {below : List Frame} {meth : Method} {c : Code} {D : va_G} {cc : Nat → ClassId} {ad : Nat → Nat} {A : Nat → Prop} {Post : Int32 → Unit → Prop} (C0 : Cx p s m args meth c cX2_slipOf 5 (some .int) RX2 wsX2_slipOf D cc A) (hd : DA 0 ad A) (σ : Unit) (x0 : Int32) (x1 : Int32) (x2 : Int32) (x3 : Int32) (h : wp_X2_slipOf Post σ x0 x1 x2 x3) : At_ p l e { frames := 1, cells := 0, slots := 0, locals := 25 } s m args below meth c (Qi_ below D ((fun _ : Unit => ([] : va_W))) A args s Post) D A ((fun _ : Unit => ([] : va_W)) σ) 5 0 [(0, .int x0), (1, .int x1), (2, .int x2), (3, .int x3)] [] := by
  obtain ⟨hx, hb, hml, hr, hown, hts, hlocks, hK, hA, hX⟩ := id C0
  intro H locs ls hP hS hl
  unfold wp_X2_slipOf at h
  refine lv_iload_n hx hb dX2_slipOf_0 rfl (lv_at hl 0 rfl) ?_
  refine lv_iload_n hx hb dX2_slipOf_1 rfl (lv_at hl 1 rfl) ?_
  refine lv_iload_n hx hb dX2_slipOf_2 rfl (lv_at hl 2 rfl) ?_
  refine call_s (Wd := (fun _ : Unit => ([] : va_W))) (σ := σ) C0 hd (lens_un (adc := ad)) (As := [.int x0, .int x1, .int x2]) (rest := []) (ct_X2_answerOf l D cc ad da0 x0 x1 x2) (va_cwS 3 hts gX2_slipOf_X2_answerOf rfl rfl rfl (by decide +kernel) ⟨Nat.le_of_ble_eq_true rfl, Nat.le_of_ble_eq_true rfl⟩) hP hS rfl hl.1 rfl (by simp [Value.category]) dX2_slipOf_3 (fun r1 u hp H locs hP hS => ?_)
  obtain ⟨hp1, hp2⟩ := hp
  subst hp1
  have hP : va_P D vwCl ((fun _ : Unit => ([] : va_W)) σ) H := hP
  refine lv_topi (fun x4_2 ex4_2 => ?_)
  have h := h x4_2 ex4_2
  refine lv_istore (lv' := [(4, .int x4_2), (0, .int x0), (1, .int x1), (2, .int x2), (3, .int x3)]) hx hb dX2_slipOf_6 hl (by decide) rfl (fun ls hl => ?_)
  refine lv_iload_n hx hb dX2_slipOf_8 rfl (lv_at hl 4 rfl) ?_
  rcases Classical.em (x3 = 1) with c3 | c3
  · have h := h.1 c3
    refine lv_tableIn (off := 31) (tgt := 40) hx hb dX2_slipOf_9 (by rw [c3]; decide) (by rw [c3]; decide) (by rw [c3]; decide) (by decide) ?_
    refine lv_iload_n hx hb dX2_slipOf_40 rfl (lv_at hl 1 rfl) ?_
    refine lv_iconst (v := 1) hx hb dX2_slipOf_41 (by decide) ?_
    refine lv_icmp_eq (tgt := 50) hx hb dX2_slipOf_42 (by decide) (fun c4 => ?_) (fun c4 => ?_)
    · have h := h.1 c4
      refine lv_iload_n hx hb dX2_slipOf_50 rfl (lv_at hl 2 rfl) ?_
      refine lv_iload_n hx hb dX2_slipOf_51 rfl (lv_at hl 3 rfl) ?_
      refine lv_iadd hx hb dX2_slipOf_52 ?_
      refine lv_goto (tgt := 69) hx hb dX2_slipOf_53 (by decide) ?_
      exact ret_i (Wd := (fun _ : Unit => ([] : va_W))) (u := σ) C0 h hP hS dX2_slipOf_69
    · have h := h.2 c4
      refine lv_iload_n hx hb dX2_slipOf_45 rfl (lv_at hl 1 rfl) ?_
      refine lv_iconst (v := 2) hx hb dX2_slipOf_46 (by decide) ?_
      refine lv_icmp_ne (tgt := 56) hx hb dX2_slipOf_47 (by decide) (fun c5 => ?_) (fun c5 => ?_)
      · have h := h.1 c5
        refine lv_iload_n hx hb dX2_slipOf_56 rfl (lv_at hl 2 rfl) ?_
        refine lv_iload_n hx hb dX2_slipOf_57 rfl (lv_at hl 3 rfl) ?_
        refine lv_icmp_lt (tgt := 67) hx hb dX2_slipOf_58 (by decide) (fun c6 => ?_) (fun c6 => ?_)
        · have h := h.1 c6
          refine lv_bipush (v := (-9)) hx hb dX2_slipOf_67 (by decide) ?_
          exact ret_i (Wd := (fun _ : Unit => ([] : va_W))) (u := σ) C0 h hP hS dX2_slipOf_69
        · have h := h.2 c6
          refine lv_iload_n hx hb dX2_slipOf_61 rfl (lv_at hl 2 rfl) ?_
          refine lv_iload_n hx hb dX2_slipOf_62 rfl (lv_at hl 3 rfl) ?_
          refine lv_isub hx hb dX2_slipOf_63 ?_
          refine lv_goto (tgt := 69) hx hb dX2_slipOf_64 (by decide) ?_
          exact ret_i (Wd := (fun _ : Unit => ([] : va_W))) (u := σ) C0 h hP hS dX2_slipOf_69
      · have h := h.2 c5
        refine lv_iload_n hx hb dX2_slipOf_50 rfl (lv_at hl 2 rfl) ?_
        refine lv_iload_n hx hb dX2_slipOf_51 rfl (lv_at hl 3 rfl) ?_
        refine lv_iadd hx hb dX2_slipOf_52 ?_
        refine lv_goto (tgt := 69) hx hb dX2_slipOf_53 (by decide) ?_
        exact ret_i (Wd := (fun _ : Unit => ([] : va_W))) (u := σ) C0 h hP hS dX2_slipOf_69
  · have h := h.2 c3
    rcases Classical.em (x3 = 2) with c7 | c7
    · have h := h.1 c7
      refine lv_tableIn (off := 61) (tgt := 70) hx hb dX2_slipOf_9 (by rw [c7]; decide) (by rw [c7]; decide) (by rw [c7]; decide) (by decide) ?_
      refine lv_iload_n hx hb dX2_slipOf_70 rfl (lv_at hl 1 rfl) ?_
      refine lv_iload_n hx hb dX2_slipOf_71 rfl (lv_at hl 2 rfl) ?_
      refine lv_iload_n hx hb dX2_slipOf_72 rfl (lv_at hl 3 rfl) ?_
      refine call_s (Wd := (fun _ : Unit => ([] : va_W))) (σ := σ) C0 hd (lens_un (adc := ad)) (As := [.int x0, .int x1, .int x2]) (rest := []) (ct_X2_carries l D cc ad da0 x0 x1 x2) (va_cwS 3 hts gX2_slipOf_X2_carries rfl rfl rfl (by decide +kernel) ⟨Nat.le_of_ble_eq_true rfl, Nat.le_of_ble_eq_true rfl⟩) hP hS rfl hl.1 rfl (by simp [Value.category]) dX2_slipOf_73 (fun r8 u hp H locs hP hS => ?_)
      obtain ⟨hp1, hp2⟩ := hp
      subst hp1
      have hP : va_P D vwCl ((fun _ : Unit => ([] : va_W)) σ) H := hP
      refine lv_if_ne (tgt := 84) hx hb dX2_slipOf_76 (by decide) (fun c9 => ?_) (fun c9 => ?_)
      · have h := h.1 c9
        refine lv_iload_n hx hb dX2_slipOf_84 rfl (lv_at hl 1 rfl) ?_
        refine lv_if_ne (tgt := 96) hx hb dX2_slipOf_85 (by decide) (fun c10 => ?_) (fun c10 => ?_)
        · have h := h.1 c10
          refine lv_bipush (v := 10) hx hb dX2_slipOf_96 (by decide) ?_
          refine lv_iload_n hx hb dX2_slipOf_98 rfl (lv_at hl 2 rfl) ?_
          refine lv_bipush (v := 10) hx hb dX2_slipOf_99 (by decide) ?_
          refine lv_idiv hx hb dX2_slipOf_101 (by decide) ?_
          refine lv_iload_n hx hb dX2_slipOf_102 rfl (lv_at hl 3 rfl) ?_
          refine lv_bipush (v := 10) hx hb dX2_slipOf_103 (by decide) ?_
          refine lv_idiv hx hb dX2_slipOf_105 (by decide) ?_
          refine lv_isub hx hb dX2_slipOf_106 ?_
          refine lv_imul hx hb dX2_slipOf_107 ?_
          refine lv_iload_n hx hb dX2_slipOf_108 rfl (lv_at hl 3 rfl) ?_
          refine lv_bipush (v := 10) hx hb dX2_slipOf_109 (by decide) ?_
          refine lv_irem hx hb dX2_slipOf_111 (by decide) ?_
          refine lv_iadd hx hb dX2_slipOf_112 ?_
          refine lv_iload_n hx hb dX2_slipOf_113 rfl (lv_at hl 2 rfl) ?_
          refine lv_bipush (v := 10) hx hb dX2_slipOf_114 (by decide) ?_
          refine lv_irem hx hb dX2_slipOf_116 (by decide) ?_
          refine lv_isub hx hb dX2_slipOf_117 ?_
          exact ret_i (Wd := (fun _ : Unit => ([] : va_W))) (u := σ) C0 h hP hS dX2_slipOf_118
        · have h := h.2 c10
          refine lv_iload hx hb dX2_slipOf_88 (lv_at hl 0 rfl) ?_
          refine lv_bipush (v := 10) hx hb dX2_slipOf_90 (by decide) ?_
          refine lv_isub hx hb dX2_slipOf_92 ?_
          refine lv_goto (tgt := 118) hx hb dX2_slipOf_93 (by decide) ?_
          exact ret_i (Wd := (fun _ : Unit => ([] : va_W))) (u := σ) C0 h hP hS dX2_slipOf_118
      · have h := h.2 c9
        refine lv_bipush (v := (-9)) hx hb dX2_slipOf_79 (by decide) ?_
        refine lv_goto (tgt := 118) hx hb dX2_slipOf_81 (by decide) ?_
        exact ret_i (Wd := (fun _ : Unit => ([] : va_W))) (u := σ) C0 h hP hS dX2_slipOf_118
    · have h := h.2 c7
      rcases Classical.em (x3 = 3) with c11 | c11
      · have h := h.1 c11
        refine lv_tableIn (off := 110) (tgt := 119) hx hb dX2_slipOf_9 (by rw [c11]; decide) (by rw [c11]; decide) (by rw [c11]; decide) (by decide) ?_
        refine lv_iload hx hb dX2_slipOf_119 (lv_at hl 0 rfl) ?_
        refine lv_iconst (v := 1) hx hb dX2_slipOf_121 (by decide) ?_
        refine lv_iadd hx hb dX2_slipOf_122 ?_
        exact ret_i (Wd := (fun _ : Unit => ([] : va_W))) (u := σ) C0 h hP hS dX2_slipOf_123
      · have h := h.2 c11
        rcases Classical.em (x3 = 4) with c12 | c12
        · have h := h.1 c12
          refine lv_tableIn (off := 115) (tgt := 124) hx hb dX2_slipOf_9 (by rw [c12]; decide) (by rw [c12]; decide) (by rw [c12]; decide) (by decide) ?_
          refine lv_iload hx hb dX2_slipOf_124 (lv_at hl 0 rfl) ?_
          refine lv_if_le (tgt := 136) hx hb dX2_slipOf_126 (by decide) (fun c13 => ?_) (fun c13 => ?_)
          · have h := h.1 c13
            refine lv_bipush (v := (-9)) hx hb dX2_slipOf_136 (by decide) ?_
            exact ret_i (Wd := (fun _ : Unit => ([] : va_W))) (u := σ) C0 h hP hS dX2_slipOf_138
          · have h := h.2 c13
            refine lv_iload hx hb dX2_slipOf_129 (lv_at hl 0 rfl) ?_
            refine lv_iconst (v := 1) hx hb dX2_slipOf_131 (by decide) ?_
            refine lv_isub hx hb dX2_slipOf_132 ?_
            refine lv_goto (tgt := 138) hx hb dX2_slipOf_133 (by decide) ?_
            exact ret_i (Wd := (fun _ : Unit => ([] : va_W))) (u := σ) C0 h hP hS dX2_slipOf_138
        · have h := h.2 c12
          refine lv_tableOut (tgt := 139) hx hb dX2_slipOf_9 (by have qc3 := lv_neT (a := 1) c3 (by decide); have qc7 := lv_neT (a := 2) c7 (by decide); have qc11 := lv_neT (a := 3) c11 (by decide); have qc12 := lv_neT (a := 4) c12 (by decide); omega) (by decide) ?_
          refine lv_iload hx hb dX2_slipOf_139 (lv_at hl 0 rfl) ?_
          refine lv_i2l (v := x4_2.toInt64) hx hb dX2_slipOf_141 rfl ?_
          refine lv_ldc2 (v := 10) hx hb hown (hts (.constantLong RX2 80 (10)) (List.mem_of_getElem? (i := 1) rfl)) dX2_slipOf_142 ?_
          refine lv_ldc2 (v := 99) hx hb hown (hts (.constantLong RX2 82 (99)) (List.mem_of_getElem? (i := 2) rfl)) dX2_slipOf_145 ?_
          refine call_s (Wd := (fun _ : Unit => ([] : va_W))) (σ := σ) C0 hd (lens_un (adc := ad)) (As := [.long (x4_2.toInt64), .long 10, .long 99]) (rest := []) (ct_X2_in l D cc ad da0 (x4_2.toInt64) 10 99) (va_cwS 3 hts gX2_slipOf_X2_in rfl rfl rfl (by decide +kernel) ⟨Nat.le_of_ble_eq_true rfl, Nat.le_of_ble_eq_true rfl⟩) hP hS rfl hl.1 rfl (by simp [Value.category]) dX2_slipOf_148 (fun r14 u hp H locs hP hS => ?_)
          obtain ⟨hp1, hp2⟩ := hp
          subst hp1
          have hP : va_P D vwCl ((fun _ : Unit => ([] : va_W)) σ) H := hP
          refine lv_if_eq (tgt := 184) hx hb dX2_slipOf_151 (by decide) (fun c15 => ?_) (fun c15 => ?_)
          · have h := h.1 c15
            refine lv_bipush (v := (-9)) hx hb dX2_slipOf_184 (by decide) ?_
            exact ret_i (Wd := (fun _ : Unit => ([] : va_W))) (u := σ) C0 h hP hS dX2_slipOf_186
          · have h := h.2 c15
            refine lv_iload hx hb dX2_slipOf_154 (lv_at hl 0 rfl) ?_
            refine lv_bipush (v := 10) hx hb dX2_slipOf_156 (by decide) ?_
            refine lv_idiv hx hb dX2_slipOf_158 (by decide) ?_
            refine lv_iload hx hb dX2_slipOf_159 (lv_at hl 0 rfl) ?_
            refine lv_bipush (v := 10) hx hb dX2_slipOf_161 (by decide) ?_
            refine lv_irem hx hb dX2_slipOf_163 (by decide) ?_
            refine lv_icmp_eq (tgt := 184) hx hb dX2_slipOf_164 (by decide) (fun c16 => ?_) (fun c16 => ?_)
            · have h := h.1 c16
              refine lv_bipush (v := (-9)) hx hb dX2_slipOf_184 (by decide) ?_
              exact ret_i (Wd := (fun _ : Unit => ([] : va_W))) (u := σ) C0 h hP hS dX2_slipOf_186
            · have h := h.2 c16
              refine lv_bipush (v := 10) hx hb dX2_slipOf_167 (by decide) ?_
              refine lv_iload hx hb dX2_slipOf_169 (lv_at hl 0 rfl) ?_
              refine lv_bipush (v := 10) hx hb dX2_slipOf_171 (by decide) ?_
              refine lv_irem hx hb dX2_slipOf_173 (by decide) ?_
              refine lv_imul hx hb dX2_slipOf_174 ?_
              refine lv_iload hx hb dX2_slipOf_175 (lv_at hl 0 rfl) ?_
              refine lv_bipush (v := 10) hx hb dX2_slipOf_177 (by decide) ?_
              refine lv_idiv hx hb dX2_slipOf_179 (by decide) ?_
              refine lv_iadd hx hb dX2_slipOf_180 ?_
              refine lv_goto (tgt := 186) hx hb dX2_slipOf_181 (by decide) ?_
              exact ret_i (Wd := (fun _ : Unit => ([] : va_W))) (u := σ) C0 h hP hS dX2_slipOf_186
theorem ct_X2_slipOf (l : Launch) (D : va_G) (cc : Nat → ClassId) (ad : Nat → Nat) (hd : DA 0 ad (fun _ => True)) (x0 : Int32) (x1 : Int32) (x2 : Int32) (x3 : Int32) : Ctr l yX2_slipOf wsX2_slipOf { frames := 1, cells := 0, slots := 0, locals := 25 } D cc ((fun _ : Unit => ([] : va_W))) 0 ad () [.int x0, .int x1, .int x2, .int x3] (fun r u => r = fn_X2_slipOf x0 x1 x2 x3 ∧ u = ()) :=
  ctr_i (rt := (some .int)) (by decide +kernel) rfl hd (Nat.le_of_ble_eq_true rfl) (fun p e s m below meth c A C0 hd => wk_X2_slipOf_0 C0 hd () x0 x1 x2 x3 (pu_X2_slipOf x0 x1 x2 x3))
set_option maxHeartbeats 4000000 in
set_option maxRecDepth 100000 in
theorem wk_X2_noNumber_0 {p : Program} {l : Launch} {e : Env} {s : State} {m : MethodId} {args : Array Value} {below : List Frame} {meth : Method} {c : Code} {D : va_G} {cc : Nat → ClassId} {ad : Nat → Nat} {A : Nat → Prop} {Post : Int32 → Unit → Prop} (C0 : Cx p s m args meth c cX2_noNumber 1 (some .boolean) RX2 wsX2_noNumber D cc A) (hd : DA 0 ad A) (σ : Unit) (x0 : Int32) (h : wp_X2_noNumber Post σ x0) : At_ p l e { frames := 1, cells := 0, slots := 0, locals := 25 } s m args below meth c (Qi_ below D ((fun _ : Unit => ([] : va_W))) A args s Post) D A ((fun _ : Unit => ([] : va_W)) σ) 1 0 [(0, .int x0)] [] := by
  obtain ⟨hx, hb, hml, hr, hown, hts, hlocks, hK, hA, hX⟩ := id C0
  intro H locs ls hP hS hl
  unfold wp_X2_noNumber at h
  refine lv_iload_n hx hb dX2_noNumber_0 rfl (lv_at hl 0 rfl) ?_
  refine lv_i2l (v := x0.toInt64) hx hb dX2_noNumber_1 rfl ?_
  refine lv_lconst (v := 0) hx hb dX2_noNumber_2 (by decide) ?_
  refine lv_ldc2 (v := 9999) hx hb hown (hts (.constantLong RX2 105 (9999)) (List.mem_of_getElem? (i := 1) rfl)) dX2_noNumber_3 ?_
  refine call_s (Wd := (fun _ : Unit => ([] : va_W))) (σ := σ) C0 hd (lens_un (adc := ad)) (As := [.long (x0.toInt64), .long 0, .long 9999]) (rest := []) (ct_X2_in l D cc ad da0 (x0.toInt64) 0 9999) (va_cwS 3 hts gX2_noNumber_X2_in rfl rfl rfl (by decide +kernel) ⟨Nat.le_of_ble_eq_true rfl, Nat.le_of_ble_eq_true rfl⟩) hP hS rfl hl.1 rfl (by simp [Value.category]) dX2_noNumber_6 (fun r1 u hp H locs hP hS => ?_)
  obtain ⟨hp1, hp2⟩ := hp
  subst hp1
  have hP : va_P D vwCl ((fun _ : Unit => ([] : va_W)) σ) H := hP
  refine lv_if_ne (tgt := 16) hx hb dX2_noNumber_9 (by decide) (fun c2 => ?_) (fun c2 => ?_)
  · have h := h.1 c2
    refine lv_iconst (v := 0) hx hb dX2_noNumber_16 (by decide) ?_
    exact ret_z (Wd := (fun _ : Unit => ([] : va_W))) (u := σ) C0 rfl h hP hS dX2_noNumber_17
  · have h := h.2 c2
    refine lv_iconst (v := 1) hx hb dX2_noNumber_12 (by decide) ?_
    refine lv_goto (tgt := 17) hx hb dX2_noNumber_13 (by decide) ?_
    exact ret_z (Wd := (fun _ : Unit => ([] : va_W))) (u := σ) C0 rfl h hP hS dX2_noNumber_17
theorem ct_X2_noNumber (l : Launch) (D : va_G) (cc : Nat → ClassId) (ad : Nat → Nat) (hd : DA 0 ad (fun _ => True)) (x0 : Int32) : Ctr l yX2_noNumber wsX2_noNumber { frames := 1, cells := 0, slots := 0, locals := 25 } D cc ((fun _ : Unit => ([] : va_W))) 0 ad () [.int x0] (fun r u => r = fn_X2_noNumber x0 ∧ u = ()) :=
  ctr_i (rt := (some .boolean)) (by decide +kernel) rfl hd (Nat.le_of_ble_eq_true rfl) (fun p e s m below meth c A C0 hd => wk_X2_noNumber_0 C0 hd () x0 (pu_X2_noNumber x0))
