theorem hin_X2_noKind : ∀ w ∈ u_ws RX2 TX2 21, w ∈ wsX2_noKind := fun w h => List.mem_cons_of_mem _ (List.mem_append_right _ h)
set_option maxHeartbeats 4000000 in
set_option maxRecDepth 100000 in
theorem wk_X2_noKind_0 {p : Program} {l : Launch} {e : Env} {s : State} {m : MethodId} {args : Array Value} {below : List Frame} {meth : Method} {c : Code} {D : va_G} {cc : Nat → ClassId} {ad : Nat → Nat} {A : Nat → Prop} {Post : Int32 → MS → Prop} {g : CS} (C0 : Cx p s m args meth c cX2_noKind 2 (some .boolean) RX2 wsX2_noKind D cc A) (hd : DA 13 ad A) (σ : MS) (x1 : Int32) (h : wp_X2_noKind g Post σ x1) : At_ p l e { frames := 1, cells := 0, slots := 0, locals := 25 } s m args below meth c (Qi_ below D (MW cc ad) A args s Post) D A (MW cc ad σ) 2 0 [(0, .ref (ad 0)), (1, .int x1)] [] := by
  obtain ⟨hx, hb, hml, hr, hown, hts, hlocks, hK, hA, hX⟩ := id C0
  have hin := hin_X2_noKind
  intro H locs ls hP hS hl
  unfold wp_X2_noKind at h
  refine lv_iload_n hx hb dX2_noKind_0 rfl (lv_at hl 1 rfl) ?_
  refine lv_i2l (v := x1.toInt64) hx hb dX2_noKind_1 rfl ?_
  refine lv_lconst (v := 0) hx hb dX2_noKind_2 (by decide) ?_
  refine lv_aload_n hx hb dX2_noKind_3 rfl (lv_at hl 0 rfl) ?_
  refine va_get (D := D) (ci := 2) (v := .int (ms_ki σ)) (C := RX2) (T := TX2) (N := 21) hx hb hts hin hown hK hP 0 rfl rfl 1 (by decide) (hts (.fieldLink RX2 62 "ClassSheetsModel" "kinds" "I") (List.mem_of_getElem? (i := 1) rfl)) (fun _ h9 => h9) rfl dX2_noKind_4 ?_
  refine lv_iconst (v := 1) hx hb dX2_noKind_7 (by decide) ?_
  refine lv_isub hx hb dX2_noKind_8 ?_
  refine lv_i2l (v := ((ms_ki σ) - 1).toInt64) hx hb dX2_noKind_9 rfl ?_
  refine call_s (Wd := MW cc ad) (σ := σ) C0 hd (lens_un (adc := ad)) (As := [.long (x1.toInt64), .long 0, .long (((ms_ki σ) - 1).toInt64)]) (rest := []) (ct_X2_in l D cc ad da0 (x1.toInt64) 0 (((ms_ki σ) - 1).toInt64)) (va_cwS 3 hts gX2_noKind_X2_in rfl rfl rfl (by decide +kernel) ⟨Nat.le_of_ble_eq_true rfl, Nat.le_of_ble_eq_true rfl⟩) hP hS rfl hl.1 rfl (by simp [Value.category]) dX2_noKind_10 (fun r1 u hp H locs hP hS => ?_)
  obtain ⟨hp1, hp2⟩ := hp
  subst hp1
  have hP : va_P D vwCl (MW cc ad σ) H := hP
  refine lv_if_ne (tgt := 20) hx hb dX2_noKind_13 (by decide) (fun c2 => ?_) (fun c2 => ?_)
  · have h := h.1 c2
    refine lv_iconst (v := 0) hx hb dX2_noKind_20 (by decide) ?_
    exact ret_z (Wd := MW cc ad) (u := σ) C0 rfl h hP hS dX2_noKind_21
  · have h := h.2 c2
    refine lv_iconst (v := 1) hx hb dX2_noKind_16 (by decide) ?_
    refine lv_goto (tgt := 21) hx hb dX2_noKind_17 (by decide) ?_
    exact ret_z (Wd := MW cc ad) (u := σ) C0 rfl h hP hS dX2_noKind_21
theorem ct_X2_noKind (l : Launch) (D : va_G) (cc : Nat → ClassId) (ad : Nat → Nat) (hd : DA 13 ad (fun _ => True)) (g : CS) (σ : MS) (x1 : Int32) : Ctr l yX2_noKind wsX2_noKind { frames := 1, cells := 0, slots := 0, locals := 25 } D cc (MW cc ad) 13 ad σ [.ref (ad 0), .int x1] (fun r u => r = fn_X2_noKind σ x1 ∧ u = σ) :=
  ctr_i (rt := (some .boolean)) (by decide +kernel) rfl hd (Nat.le_of_ble_eq_true rfl) (fun p e s m below meth c A C0 hd => wk_X2_noKind_0 C0 hd σ x1 (pu_X2_noKind g σ x1))
theorem hin_X2_noPlace : ∀ w ∈ u_ws RX2 TX2 21, w ∈ wsX2_noPlace := fun w h => List.mem_cons_of_mem _ (List.mem_append_right _ h)
set_option maxHeartbeats 4000000 in
set_option maxRecDepth 100000 in
theorem wk_X2_noPlace_0 {p : Program} {l : Launch} {e : Env} {s : State} {m : MethodId} {args : Array Value} {below : List Frame} {meth : Method} {c : Code} {D : va_G} {cc : Nat → ClassId} {ad : Nat → Nat} {A : Nat → Prop} {Post : Int32 → MS → Prop} {g : CS} (C0 : Cx p s m args meth c cX2_noPlace 2 (some .boolean) RX2 wsX2_noPlace D cc A) (hd : DA 13 ad A) (σ : MS) (x1 : Int32) (h : wp_X2_noPlace g Post σ x1) : At_ p l e { frames := 1, cells := 0, slots := 0, locals := 25 } s m args below meth c (Qi_ below D (MW cc ad) A args s Post) D A (MW cc ad σ) 2 0 [(0, .ref (ad 0)), (1, .int x1)] [] := by
  obtain ⟨hx, hb, hml, hr, hown, hts, hlocks, hK, hA, hX⟩ := id C0
  have hin := hin_X2_noPlace
  intro H locs ls hP hS hl
  unfold wp_X2_noPlace at h
  refine lv_iload_n hx hb dX2_noPlace_0 rfl (lv_at hl 1 rfl) ?_
  refine lv_i2l (v := x1.toInt64) hx hb dX2_noPlace_1 rfl ?_
  refine lv_lconst (v := 0) hx hb dX2_noPlace_2 (by decide) ?_
  refine lv_aload_n hx hb dX2_noPlace_3 rfl (lv_at hl 0 rfl) ?_
  refine va_get (D := D) (ci := 2) (v := .int (ms_pc σ)) (C := RX2) (T := TX2) (N := 21) hx hb hts hin hown hK hP 0 rfl rfl 11 (by decide) (hts (.fieldLink RX2 69 "ClassSheetsModel" "places" "I") (List.mem_of_getElem? (i := 1) rfl)) (fun _ h9 => h9) rfl dX2_noPlace_4 ?_
  refine lv_iconst (v := 1) hx hb dX2_noPlace_7 (by decide) ?_
  refine lv_isub hx hb dX2_noPlace_8 ?_
  refine lv_i2l (v := ((ms_pc σ) - 1).toInt64) hx hb dX2_noPlace_9 rfl ?_
  refine call_s (Wd := MW cc ad) (σ := σ) C0 hd (lens_un (adc := ad)) (As := [.long (x1.toInt64), .long 0, .long (((ms_pc σ) - 1).toInt64)]) (rest := []) (ct_X2_in l D cc ad da0 (x1.toInt64) 0 (((ms_pc σ) - 1).toInt64)) (va_cwS 3 hts gX2_noPlace_X2_in rfl rfl rfl (by decide +kernel) ⟨Nat.le_of_ble_eq_true rfl, Nat.le_of_ble_eq_true rfl⟩) hP hS rfl hl.1 rfl (by simp [Value.category]) dX2_noPlace_10 (fun r1 u hp H locs hP hS => ?_)
  obtain ⟨hp1, hp2⟩ := hp
  subst hp1
  have hP : va_P D vwCl (MW cc ad σ) H := hP
  refine lv_if_ne (tgt := 20) hx hb dX2_noPlace_13 (by decide) (fun c2 => ?_) (fun c2 => ?_)
  · have h := h.1 c2
    refine lv_iconst (v := 0) hx hb dX2_noPlace_20 (by decide) ?_
    exact ret_z (Wd := MW cc ad) (u := σ) C0 rfl h hP hS dX2_noPlace_21
  · have h := h.2 c2
    refine lv_iconst (v := 1) hx hb dX2_noPlace_16 (by decide) ?_
    refine lv_goto (tgt := 21) hx hb dX2_noPlace_17 (by decide) ?_
    exact ret_z (Wd := MW cc ad) (u := σ) C0 rfl h hP hS dX2_noPlace_21
theorem ct_X2_noPlace (l : Launch) (D : va_G) (cc : Nat → ClassId) (ad : Nat → Nat) (hd : DA 13 ad (fun _ => True)) (g : CS) (σ : MS) (x1 : Int32) : Ctr l yX2_noPlace wsX2_noPlace { frames := 1, cells := 0, slots := 0, locals := 25 } D cc (MW cc ad) 13 ad σ [.ref (ad 0), .int x1] (fun r u => r = fn_X2_noPlace σ x1 ∧ u = σ) :=
  ctr_i (rt := (some .boolean)) (by decide +kernel) rfl hd (Nat.le_of_ble_eq_true rfl) (fun p e s m below meth c A C0 hd => wk_X2_noPlace_0 C0 hd σ x1 (pu_X2_noPlace g σ x1))
theorem hin_X2_noSeat : ∀ w ∈ u_ws RX2 TX2 21, w ∈ wsX2_noSeat := fun w h => List.mem_cons_of_mem _ (List.mem_append_right _ h)
set_option maxHeartbeats 4000000 in
set_option maxRecDepth 100000 in
theorem wk_X2_noSeat_0 {p : Program} {l : Launch} {e : Env} {s : State} {m : MethodId} {args : Array Value} {below : List Frame} {meth : Method} {c : Code} {D : va_G} {cc : Nat → ClassId} {ad : Nat → Nat} {A : Nat → Prop} {Post : Int32 → MS → Prop} {g : CS} (C0 : Cx p s m args meth c cX2_noSeat 2 (some .boolean) RX2 wsX2_noSeat D cc A) (hd : DA 13 ad A) (σ : MS) (x1 : Int32) (h : wp_X2_noSeat g Post σ x1) : At_ p l e { frames := 0, cells := 0, slots := 0, locals := 0 } s m args below meth c (Qi_ below D (MW cc ad) A args s Post) D A (MW cc ad σ) 2 0 [(0, .ref (ad 0)), (1, .int x1)] [] := by
  obtain ⟨hx, hb, hml, hr, hown, hts, hlocks, hK, hA, hX⟩ := id C0
  have hin := hin_X2_noSeat
  intro H locs ls hP hS hl
  unfold wp_X2_noSeat at h
  refine lv_iload_n hx hb dX2_noSeat_0 rfl (lv_at hl 1 rfl) ?_
  refine lv_if_lt (tgt := 26) hx hb dX2_noSeat_1 (by decide) (fun c1 => ?_) (fun c1 => ?_)
  · have h := h.1 c1
    refine lv_iconst (v := 1) hx hb dX2_noSeat_26 (by decide) ?_
    refine lv_goto (tgt := 31) hx hb dX2_noSeat_27 (by decide) ?_
    exact ret_z (Wd := MW cc ad) (u := σ) C0 rfl h hP hS dX2_noSeat_31
  · have h := h.2 c1
    refine lv_iload_n hx hb dX2_noSeat_4 rfl (lv_at hl 1 rfl) ?_
    refine lv_bipush (v := 10) hx hb dX2_noSeat_5 (by decide) ?_
    refine lv_idiv hx hb dX2_noSeat_7 (by decide) ?_
    refine lv_aload_n hx hb dX2_noSeat_8 rfl (lv_at hl 0 rfl) ?_
    refine va_get (D := D) (ci := 2) (v := .int (ms_ro σ)) (C := RX2) (T := TX2) (N := 21) hx hb hts hin hown hK hP 0 rfl rfl 14 (by decide) (hts (.fieldLink RX2 47 "ClassSheetsModel" "rows" "I") (List.mem_of_getElem? (i := 1) rfl)) (fun _ h9 => h9) rfl dX2_noSeat_9 ?_
    refine lv_icmp_ge (tgt := 26) hx hb dX2_noSeat_12 (by decide) (fun c2 => ?_) (fun c2 => ?_)
    · have h := h.1 c2
      refine lv_iconst (v := 1) hx hb dX2_noSeat_26 (by decide) ?_
      refine lv_goto (tgt := 31) hx hb dX2_noSeat_27 (by decide) ?_
      exact ret_z (Wd := MW cc ad) (u := σ) C0 rfl h hP hS dX2_noSeat_31
    · have h := h.2 c2
      refine lv_iload_n hx hb dX2_noSeat_15 rfl (lv_at hl 1 rfl) ?_
      refine lv_bipush (v := 10) hx hb dX2_noSeat_16 (by decide) ?_
      refine lv_irem hx hb dX2_noSeat_18 (by decide) ?_
      refine lv_aload_n hx hb dX2_noSeat_19 rfl (lv_at hl 0 rfl) ?_
      refine va_get (D := D) (ci := 2) (v := .int (ms_co σ)) (C := RX2) (T := TX2) (N := 21) hx hb hts hin hown hK hP 0 rfl rfl 15 (by decide) (hts (.fieldLink RX2 50 "ClassSheetsModel" "columns" "I") (List.mem_of_getElem? (i := 2) rfl)) (fun _ h9 => h9) rfl dX2_noSeat_20 ?_
      refine lv_icmp_lt (tgt := 30) hx hb dX2_noSeat_23 (by decide) (fun c3 => ?_) (fun c3 => ?_)
      · have h := h.1 c3
        refine lv_iconst (v := 0) hx hb dX2_noSeat_30 (by decide) ?_
        exact ret_z (Wd := MW cc ad) (u := σ) C0 rfl h hP hS dX2_noSeat_31
      · have h := h.2 c3
        refine lv_iconst (v := 1) hx hb dX2_noSeat_26 (by decide) ?_
        refine lv_goto (tgt := 31) hx hb dX2_noSeat_27 (by decide) ?_
        exact ret_z (Wd := MW cc ad) (u := σ) C0 rfl h hP hS dX2_noSeat_31
theorem ct_X2_noSeat (l : Launch) (D : va_G) (cc : Nat → ClassId) (ad : Nat → Nat) (hd : DA 13 ad (fun _ => True)) (g : CS) (σ : MS) (x1 : Int32) : Ctr l yX2_noSeat wsX2_noSeat { frames := 0, cells := 0, slots := 0, locals := 0 } D cc (MW cc ad) 13 ad σ [.ref (ad 0), .int x1] (fun r u => r = fn_X2_noSeat σ x1 ∧ u = σ) :=
  ctr_i (rt := (some .boolean)) (by decide +kernel) rfl hd (Nat.le_of_ble_eq_true rfl) (fun p e s m below meth c A C0 hd => wk_X2_noSeat_0 C0 hd σ x1 (pu_X2_noSeat g σ x1))
theorem hin_X2_holds : ∀ w ∈ u_ws RX2 TX2 21, w ∈ wsX2_holds := fun w h => List.mem_cons_of_mem _ (List.mem_append_right _ h)
set_option maxHeartbeats 4000000 in
set_option maxRecDepth 100000 in
theorem wk_X2_holds_129 {p : Program} {l : Launch} {e : Env} {s : State} {m : MethodId} {args : Array Value} {below : List Frame} {meth : Method} {c : Code} {D : va_G} {cc : Nat → ClassId} {ad : Nat → Nat} {A : Nat → Prop} {Post : Int32 → MS → Prop} {g : CS} (C0 : Cx p s m args meth c cX2_holds 8 (some .boolean) RX2 wsX2_holds D cc A) (hd : DA 13 ad A) {K129 : (MS × Int32 × Int32 × Int32 × Int32 × Int32 × Int32) → Prop} (hK129 : ∀ a, K129 a → At_ p l e { frames := 2, cells := 0, slots := 0, locals := 49 } s m args below meth c (Qi_ below D (MW cc ad) A args s Post) D A (MW cc ad (a.1)) 8 129 [(0, .ref (ad 0)), (2, .int (a.2.1)), (3, .int (a.2.2.1)), (4, .int (a.2.2.2.1)), (5, .int (a.2.2.2.2.1)), (6, .int (a.2.2.2.2.2.1)), (7, .int (a.2.2.2.2.2.2))] []) (σ : MS) (x2 : Int32) (x3 : Int32) (x4 : Int32) (x5 : Int32) (x6 : Int32) (x7 : Int32) (h : wp_X2_holds_129 g K129 Post σ x2 x3 x4 x5 x6 x7) : At_ p l e { frames := 2, cells := 0, slots := 0, locals := 49 } s m args below meth c (Qi_ below D (MW cc ad) A args s Post) D A (MW cc ad σ) 8 129 [(0, .ref (ad 0)), (2, .int x2), (3, .int x3), (4, .int x4), (5, .int x5), (6, .int x6), (7, .int x7)] [] := by
  obtain ⟨hx, hb, hml, hr, hown, hts, hlocks, hK, hA, hX⟩ := id C0
  have hin := hin_X2_holds
  intro H locs ls hP hS hl
  unfold wp_X2_holds_129 at h
  refine lv_iload hx hb dX2_holds_129 (lv_at hl 6 rfl) ?_
  refine lv_bipush (v := 6) hx hb dX2_holds_131 (by decide) ?_
  refine lv_icmp_ge (tgt := 168) hx hb dX2_holds_133 (by decide) (fun c1 => ?_) (fun c1 => ?_)
  · have h := h.1 c1
    refine lv_iload hx hb dX2_holds_168 (lv_at hl 5 rfl) ?_
    exact ret_z (Wd := MW cc ad) (u := σ) C0 h.1 h.2 hP hS dX2_holds_170
  · have h := h.2 c1
    refine lv_iload hx hb dX2_holds_136 (lv_at hl 5 rfl) ?_
    refine lv_if_eq (tgt := 159) hx hb dX2_holds_138 (by decide) (fun c2 => ?_) (fun c2 => ?_)
    · have h := h.1 c2
      refine lv_iconst (v := 0) hx hb dX2_holds_159 (by decide) ?_
      refine lv_istore (lv' := [(6, .int 0), (0, .ref (ad 0)), (2, .int x2), (3, .int x3), (4, .int x4), (5, .int x5), (7, .int x7)]) hx hb dX2_holds_160 hl (by decide) rfl (fun ls hl => ?_)
      obtain ⟨x7_3, ex7_3⟩ : ∃ y : Int32, y = x7 + 1 := ⟨_, rfl⟩
      have h := h x7_3 ex7_3
      refine lv_iinc (v := x7_3) (lv' := [(7, .int x7_3), (6, .int 0), (0, .ref (ad 0)), (2, .int x2), (3, .int x3), (4, .int x4), (5, .int x5)]) hx hb dX2_holds_162 hl (k := 6) rfl (by rw [ex7_3]; rfl) (by decide) rfl (fun ls hl => ?_)
      refine lv_goto (tgt := 129) hx hb dX2_holds_165 (by decide) ?_
      exact hK129 (σ, x2, x3, x4, x5, 0, x7_3) h H locs ls hP hS (lv_sub hl [2, 3, 4, 5, 6, 1, 0] rfl)
    · have h := h.2 c2
      refine lv_iload hx hb dX2_holds_141 (lv_at hl 3 rfl) ?_
      refine lv_iload_n hx hb dX2_holds_143 rfl (lv_at hl 1 rfl) ?_
      refine lv_iload_n hx hb dX2_holds_144 rfl (lv_at hl 2 rfl) ?_
      refine lv_iload hx hb dX2_holds_145 (lv_at hl 6 rfl) ?_
      refine call_s (Wd := MW cc ad) (σ := σ) C0 hd (lens_un (adc := ad)) (As := [.int x4, .int x2, .int x3, .int x7]) (rest := []) (ct_X2_slipOf l D cc ad da0 x4 x2 x3 x7) (va_cwS 4 hts gX2_holds_X2_slipOf rfl rfl rfl (by decide +kernel) ⟨Nat.le_of_ble_eq_true rfl, Nat.le_of_ble_eq_true rfl⟩) hP hS rfl hl.1 rfl (by simp [Value.category]) dX2_holds_147 (fun r4 u hp H locs hP hS => ?_)
      obtain ⟨hp1, hp2⟩ := hp
      subst hp1
      have hP : va_P D vwCl (MW cc ad σ) H := hP
      refine lv_iload hx hb dX2_holds_150 (lv_at hl 4 rfl) ?_
      refine lv_icmp_eq (tgt := 159) hx hb dX2_holds_152 (by decide) (fun c5 => ?_) (fun c5 => ?_)
      · have h := h.1 c5
        refine lv_iconst (v := 0) hx hb dX2_holds_159 (by decide) ?_
        refine lv_istore (lv' := [(6, .int 0), (0, .ref (ad 0)), (2, .int x2), (3, .int x3), (4, .int x4), (5, .int x5), (7, .int x7)]) hx hb dX2_holds_160 hl (by decide) rfl (fun ls hl => ?_)
        obtain ⟨x7_6, ex7_6⟩ : ∃ y : Int32, y = x7 + 1 := ⟨_, rfl⟩
        have h := h x7_6 ex7_6
        refine lv_iinc (v := x7_6) (lv' := [(7, .int x7_6), (6, .int 0), (0, .ref (ad 0)), (2, .int x2), (3, .int x3), (4, .int x4), (5, .int x5)]) hx hb dX2_holds_162 hl (k := 6) rfl (by rw [ex7_6]; rfl) (by decide) rfl (fun ls hl => ?_)
        refine lv_goto (tgt := 129) hx hb dX2_holds_165 (by decide) ?_
        exact hK129 (σ, x2, x3, x4, x5, 0, x7_6) h H locs ls hP hS (lv_sub hl [2, 3, 4, 5, 6, 1, 0] rfl)
      · have h := h.2 c5
        refine lv_iconst (v := 1) hx hb dX2_holds_155 (by decide) ?_
        refine lv_goto (tgt := 160) hx hb dX2_holds_156 (by decide) ?_
        refine lv_istore (lv' := [(6, .int 1), (0, .ref (ad 0)), (2, .int x2), (3, .int x3), (4, .int x4), (5, .int x5), (7, .int x7)]) hx hb dX2_holds_160 hl (by decide) rfl (fun ls hl => ?_)
        obtain ⟨x7_7, ex7_7⟩ : ∃ y : Int32, y = x7 + 1 := ⟨_, rfl⟩
        have h := h x7_7 ex7_7
        refine lv_iinc (v := x7_7) (lv' := [(7, .int x7_7), (6, .int 1), (0, .ref (ad 0)), (2, .int x2), (3, .int x3), (4, .int x4), (5, .int x5)]) hx hb dX2_holds_162 hl (k := 6) rfl (by rw [ex7_7]; rfl) (by decide) rfl (fun ls hl => ?_)
        refine lv_goto (tgt := 129) hx hb dX2_holds_165 (by decide) ?_
        exact hK129 (σ, x2, x3, x4, x5, 1, x7_7) h H locs ls hP hS (lv_sub hl [2, 3, 4, 5, 6, 1, 0] rfl)
set_option maxHeartbeats 4000000 in
set_option maxRecDepth 100000 in
theorem wk_X2_holds_111 {p : Program} {l : Launch} {e : Env} {s : State} {m : MethodId} {args : Array Value} {below : List Frame} {meth : Method} {c : Code} {D : va_G} {cc : Nat → ClassId} {ad : Nat → Nat} {A : Nat → Prop} {Post : Int32 → MS → Prop} {g : CS} (C0 : Cx p s m args meth c cX2_holds 8 (some .boolean) RX2 wsX2_holds D cc A) (hd : DA 13 ad A) (σ : MS) (x1 : Int32) (x2 : Int32) (x3 : Int32) (x4 : Int32) (x5 : Int32) (s0 : Int32) (h : wp_X2_holds_111 g Post σ x1 x2 x3 x4 x5 s0) : At_ p l e { frames := 2, cells := 0, slots := 0, locals := 49 } s m args below meth c (Qi_ below D (MW cc ad) A args s Post) D A (MW cc ad σ) 8 111 [(0, .ref (ad 0)), (1, .int x1), (2, .int x2), (3, .int x3), (4, .int x4), (5, .int x5)] [.int s0] := by
  obtain ⟨hx, hb, hml, hr, hown, hts, hlocks, hK, hA, hX⟩ := id C0
  have hin := hin_X2_holds
  intro H locs ls hP hS hl
  unfold wp_X2_holds_111 at h
  refine lv_istore (lv' := [(6, .int s0), (0, .ref (ad 0)), (1, .int x1), (2, .int x2), (3, .int x3), (4, .int x4), (5, .int x5)]) hx hb dX2_holds_111 hl (by decide) rfl (fun ls hl => ?_)
  refine lv_aload_n hx hb dX2_holds_113 rfl (lv_at hl 1 rfl) ?_
  refine va_get (D := D) (ci := 2) (v := .ref (ad 4)) (C := RX2) (T := TX2) (N := 21) hx hb hts hin hown hK hP 0 rfl rfl 5 (by decide) (hts (.fieldLink RX2 19 "ClassSheetsModel" "law" "[I") (List.mem_of_getElem? (i := 4) rfl)) (fun _ h9 => h9) rfl dX2_holds_114 ?_
  refine lv_iload_n hx hb dX2_holds_117 rfl (lv_at hl 2 rfl) ?_
  obtain ⟨gi1, h⟩ := h
  refine va_iald (D := D) (f := ms_la σ) hx hb hK hP 4 0 rfl rfl gi1 dX2_holds_118 ?_
  refine lv_iconst (v := 3) hx hb dX2_holds_119 (by decide) ?_
  refine lv_icmp_ne (tgt := 168) hx hb dX2_holds_120 (by decide) (fun c2 => ?_) (fun c2 => ?_)
  · have h := h.1 c2
    refine lv_iload hx hb dX2_holds_168 (lv_at hl 0 rfl) ?_
    exact ret_z (Wd := MW cc ad) (u := σ) C0 h.1 h.2 hP hS dX2_holds_170
  · have h := h.2 c2
    refine lv_iconst (v := 1) hx hb dX2_holds_123 (by decide) ?_
    refine lv_istore (lv' := [(6, .int 1), (0, .ref (ad 0)), (1, .int x1), (2, .int x2), (3, .int x3), (4, .int x4), (5, .int x5)]) hx hb dX2_holds_124 hl (by decide) rfl (fun ls hl => ?_)
    refine lv_iconst (v := 1) hx hb dX2_holds_126 (by decide) ?_
    refine lv_istore (lv' := [(7, .int 1), (6, .int 1), (0, .ref (ad 0)), (1, .int x1), (2, .int x2), (3, .int x3), (4, .int x4), (5, .int x5)]) hx hb dX2_holds_127 hl (by decide) rfl (fun ls hl => ?_)
    exact lp_at (Wt := fun a => At_ p l e { frames := 2, cells := 0, slots := 0, locals := 49 } s m args below meth c (Qi_ below D (MW cc ad) A args s Post) D A (MW cc ad (a.1)) 8 129 [(0, .ref (ad 0)), (2, .int (a.2.1)), (3, .int (a.2.2.1)), (4, .int (a.2.2.2.1)), (5, .int (a.2.2.2.2.1)), (6, .int (a.2.2.2.2.2.1)), (7, .int (a.2.2.2.2.2.2))] []) (fun K hK a h => wk_X2_holds_129 C0 hd hK a.1 a.2.1 a.2.2.1 a.2.2.2.1 a.2.2.2.2.1 a.2.2.2.2.2.1 a.2.2.2.2.2.2 h) h H locs ls hP hS (lv_sub hl [2, 4, 5, 6, 7, 1, 0] rfl)
set_option maxHeartbeats 4000000 in
set_option maxRecDepth 100000 in
theorem wk_X2_holds_106 {p : Program} {l : Launch} {e : Env} {s : State} {m : MethodId} {args : Array Value} {below : List Frame} {meth : Method} {c : Code} {D : va_G} {cc : Nat → ClassId} {ad : Nat → Nat} {A : Nat → Prop} {Post : Int32 → MS → Prop} {g : CS} (C0 : Cx p s m args meth c cX2_holds 8 (some .boolean) RX2 wsX2_holds D cc A) (hd : DA 13 ad A) (σ : MS) (x1 : Int32) (x2 : Int32) (x3 : Int32) (x4 : Int32) (x5 : Int32) (h : wp_X2_holds_106 g Post σ x1 x2 x3 x4 x5) : At_ p l e { frames := 2, cells := 0, slots := 0, locals := 49 } s m args below meth c (Qi_ below D (MW cc ad) A args s Post) D A (MW cc ad σ) 8 106 [(0, .ref (ad 0)), (1, .int x1), (2, .int x2), (3, .int x3), (4, .int x4), (5, .int x5)] [] := by
  obtain ⟨hx, hb, hml, hr, hown, hts, hlocks, hK, hA, hX⟩ := id C0
  have hin := hin_X2_holds
  intro H locs ls hP hS hl
  unfold wp_X2_holds_106 at h
  refine lv_iconst (v := 1) hx hb dX2_holds_106 (by decide) ?_
  refine lv_goto (tgt := 111) hx hb dX2_holds_107 (by decide) ?_
  exact wk_X2_holds_111 C0 hd σ x1 x2 x3 x4 x5 1 h H locs ls hP hS (lv_sub hl [0, 1, 2, 3, 4, 5] rfl)
set_option maxHeartbeats 4000000 in
set_option maxRecDepth 100000 in
theorem wk_X2_holds_110 {p : Program} {l : Launch} {e : Env} {s : State} {m : MethodId} {args : Array Value} {below : List Frame} {meth : Method} {c : Code} {D : va_G} {cc : Nat → ClassId} {ad : Nat → Nat} {A : Nat → Prop} {Post : Int32 → MS → Prop} {g : CS} (C0 : Cx p s m args meth c cX2_holds 8 (some .boolean) RX2 wsX2_holds D cc A) (hd : DA 13 ad A) (σ : MS) (x1 : Int32) (x2 : Int32) (x3 : Int32) (x4 : Int32) (x5 : Int32) (h : wp_X2_holds_110 g Post σ x1 x2 x3 x4 x5) : At_ p l e { frames := 2, cells := 0, slots := 0, locals := 49 } s m args below meth c (Qi_ below D (MW cc ad) A args s Post) D A (MW cc ad σ) 8 110 [(0, .ref (ad 0)), (1, .int x1), (2, .int x2), (3, .int x3), (4, .int x4), (5, .int x5)] [] := by
  obtain ⟨hx, hb, hml, hr, hown, hts, hlocks, hK, hA, hX⟩ := id C0
  have hin := hin_X2_holds
  intro H locs ls hP hS hl
  unfold wp_X2_holds_110 at h
  refine lv_iconst (v := 0) hx hb dX2_holds_110 (by decide) ?_
  exact wk_X2_holds_111 C0 hd σ x1 x2 x3 x4 x5 0 h H locs ls hP hS (lv_sub hl [0, 1, 2, 3, 4, 5] rfl)
set_option maxHeartbeats 4000000 in
set_option maxRecDepth 100000 in
theorem wk_X2_holds_86 {p : Program} {l : Launch} {e : Env} {s : State} {m : MethodId} {args : Array Value} {below : List Frame} {meth : Method} {c : Code} {D : va_G} {cc : Nat → ClassId} {ad : Nat → Nat} {A : Nat → Prop} {Post : Int32 → MS → Prop} {g : CS} (C0 : Cx p s m args meth c cX2_holds 8 (some .boolean) RX2 wsX2_holds D cc A) (hd : DA 13 ad A) (σ : MS) (x1 : Int32) (x2 : Int32) (x3 : Int32) (x4 : Int32) (x5 : Int32) (h : wp_X2_holds_86 g Post σ x1 x2 x3 x4 x5) : At_ p l e { frames := 2, cells := 0, slots := 0, locals := 49 } s m args below meth c (Qi_ below D (MW cc ad) A args s Post) D A (MW cc ad σ) 8 86 [(0, .ref (ad 0)), (1, .int x1), (2, .int x2), (3, .int x3), (4, .int x4), (5, .int x5)] [] := by
  obtain ⟨hx, hb, hml, hr, hown, hts, hlocks, hK, hA, hX⟩ := id C0
  have hin := hin_X2_holds
  intro H locs ls hP hS hl
  unfold wp_X2_holds_86 at h
  refine lv_aload_n hx hb dX2_holds_86 rfl (lv_at hl 0 rfl) ?_
  refine va_get (D := D) (ci := 2) (v := .ref (ad 4)) (C := RX2) (T := TX2) (N := 21) hx hb hts hin hown hK hP 0 rfl rfl 5 (by decide) (hts (.fieldLink RX2 19 "ClassSheetsModel" "law" "[I") (List.mem_of_getElem? (i := 4) rfl)) (fun _ h9 => h9) rfl dX2_holds_87 ?_
  refine lv_iload_n hx hb dX2_holds_90 rfl (lv_at hl 1 rfl) ?_
  obtain ⟨gi1, h⟩ := h
  refine va_iald (D := D) (f := ms_la σ) hx hb hK hP 4 0 rfl rfl gi1 dX2_holds_91 ?_
  refine lv_iconst (v := 2) hx hb dX2_holds_92 (by decide) ?_
  refine lv_icmp_ne (tgt := 110) hx hb dX2_holds_93 (by decide) (fun c2 => ?_) (fun c2 => ?_)
  · have h := h.1 c2
    exact wk_X2_holds_110 C0 hd σ x1 x2 x3 x4 x5 h H locs ls hP hS (lv_sub hl [0, 1, 2, 3, 4, 5] rfl)
  · have h := h.2 c2
    refine lv_iload hx hb dX2_holds_96 (lv_at hl 4 rfl) ?_
    refine lv_iload_n hx hb dX2_holds_98 rfl (lv_at hl 2 rfl) ?_
    refine lv_iload_n hx hb dX2_holds_99 rfl (lv_at hl 3 rfl) ?_
    refine call_s (Wd := MW cc ad) (σ := σ) C0 hd (lens_un (adc := ad)) (As := [.int x4, .int x2, .int x3]) (rest := []) (ct_X2_carries l D cc ad da0 x4 x2 x3) (va_cwS 3 hts gX2_holds_X2_carries rfl rfl rfl (by decide +kernel) ⟨Nat.le_of_ble_eq_true rfl, Nat.le_of_ble_eq_true rfl⟩) hP hS rfl hl.1 rfl (by simp [Value.category]) dX2_holds_100 (fun r3 u hp H locs hP hS => ?_)
    obtain ⟨hp1, hp2⟩ := hp
    subst hp1
    have hP : va_P D vwCl (MW cc ad σ) H := hP
    refine lv_if_eq (tgt := 110) hx hb dX2_holds_103 (by decide) (fun c4 => ?_) (fun c4 => ?_)
    · have h := h.1 c4
      exact wk_X2_holds_110 C0 hd σ x1 x2 x3 x4 x5 h H locs ls hP hS (lv_sub hl [0, 1, 2, 3, 4, 5] rfl)
    · have h := h.2 c4
      exact wk_X2_holds_106 C0 hd σ x1 x2 x3 x4 x5 h H locs ls hP hS (lv_sub hl [0, 1, 2, 3, 4, 5] rfl)
set_option maxHeartbeats 4000000 in
set_option maxRecDepth 100000 in
theorem wk_X2_holds_0 {p : Program} {l : Launch} {e : Env} {s : State} {m : MethodId} {args : Array Value} {below : List Frame} {meth : Method} {c : Code} {D : va_G} {cc : Nat → ClassId} {ad : Nat → Nat} {A : Nat → Prop} {Post : Int32 → MS → Prop} {g : CS} (C0 : Cx p s m args meth c cX2_holds 8 (some .boolean) RX2 wsX2_holds D cc A) (hd : DA 13 ad A) (σ : MS) (x1 : Int32) (x2 : Int32) (x3 : Int32) (h : wp_X2_holds g Post σ x1 x2 x3) : At_ p l e { frames := 2, cells := 0, slots := 0, locals := 49 } s m args below meth c (Qi_ below D (MW cc ad) A args s Post) D A (MW cc ad σ) 8 0 [(0, .ref (ad 0)), (1, .int x1), (2, .int x2), (3, .int x3)] [] := by
  obtain ⟨hx, hb, hml, hr, hown, hts, hlocks, hK, hA, hX⟩ := id C0
  have hin := hin_X2_holds
  intro H locs ls hP hS hl
  unfold wp_X2_holds at h
  refine lv_aload_n hx hb dX2_holds_0 rfl (lv_at hl 0 rfl) ?_
  refine va_get (D := D) (ci := 2) (v := .ref (ad 1)) (C := RX2) (T := TX2) (N := 21) hx hb hts hin hown hK hP 0 rfl rfl 2 (by decide) (hts (.fieldLink RX2 7 "ClassSheetsModel" "operation" "[I") (List.mem_of_getElem? (i := 1) rfl)) (fun _ h9 => h9) rfl dX2_holds_1 ?_
  refine lv_iload_n hx hb dX2_holds_4 rfl (lv_at hl 1 rfl) ?_
  obtain ⟨gi1, h⟩ := h
  refine va_iald (D := D) (f := ms_op σ) hx hb hK hP 1 0 rfl rfl gi1 dX2_holds_5 ?_
  refine lv_topi (fun x4_2 ex4_2 => ?_)
  have h := h x4_2 ex4_2
  refine lv_istore (lv' := [(4, .int x4_2), (0, .ref (ad 0)), (1, .int x1), (2, .int x2), (3, .int x3)]) hx hb dX2_holds_6 hl (by decide) rfl (fun ls hl => ?_)
  refine lv_iload hx hb dX2_holds_8 (lv_at hl 0 rfl) ?_
  refine lv_iload_n hx hb dX2_holds_10 rfl (lv_at hl 3 rfl) ?_
  refine lv_iload_n hx hb dX2_holds_11 rfl (lv_at hl 4 rfl) ?_
  refine call_s (Wd := MW cc ad) (σ := σ) C0 hd (lens_un (adc := ad)) (As := [.int x4_2, .int x2, .int x3]) (rest := []) (ct_X2_answerOf l D cc ad da0 x4_2 x2 x3) (va_cwS 3 hts gX2_holds_X2_answerOf rfl rfl rfl (by decide +kernel) ⟨Nat.le_of_ble_eq_true rfl, Nat.le_of_ble_eq_true rfl⟩) hP hS rfl hl.1 rfl (by simp [Value.category]) dX2_holds_12 (fun r3 u hp H locs hP hS => ?_)
  obtain ⟨hp1, hp2⟩ := hp
  subst hp1
  have hP : va_P D vwCl (MW cc ad σ) H := hP
  refine lv_topi (fun x5_4 ex5_4 => ?_)
  have h := h x5_4 ex5_4
  refine lv_istore (lv' := [(5, .int x5_4), (4, .int x4_2), (0, .ref (ad 0)), (1, .int x1), (2, .int x2), (3, .int x3)]) hx hb dX2_holds_15 hl (by decide) rfl (fun ls hl => ?_)
  refine lv_iload hx hb dX2_holds_17 (lv_at hl 0 rfl) ?_
  refine lv_bipush (v := (-9)) hx hb dX2_holds_19 (by decide) ?_
  refine lv_icmp_eq (tgt := 55) hx hb dX2_holds_21 (by decide) (fun c5 => ?_) (fun c5 => ?_)
  · have h := h.1 c5
    refine lv_iconst (v := 0) hx hb dX2_holds_55 (by decide) ?_
    exact ret_z (Wd := MW cc ad) (u := σ) C0 rfl h hP hS dX2_holds_56
  · have h := h.2 c5
    refine lv_iload hx hb dX2_holds_24 (lv_at hl 0 rfl) ?_
    refine lv_i2l (v := x5_4.toInt64) hx hb dX2_holds_26 rfl ?_
    refine lv_aload_n hx hb dX2_holds_27 rfl (lv_at hl 2 rfl) ?_
    refine va_get (D := D) (ci := 2) (v := .ref (ad 2)) (C := RX2) (T := TX2) (N := 21) hx hb hts hin hown hK hP 0 rfl rfl 3 (by decide) (hts (.fieldLink RX2 13 "ClassSheetsModel" "from" "[I") (List.mem_of_getElem? (i := 2) rfl)) (fun _ h9 => h9) rfl dX2_holds_28 ?_
    refine lv_iconst (v := 3) hx hb dX2_holds_31 (by decide) ?_
    refine lv_iload_n hx hb dX2_holds_32 rfl (lv_at hl 3 rfl) ?_
    refine lv_imul hx hb dX2_holds_33 ?_
    refine lv_iconst (v := 2) hx hb dX2_holds_34 (by decide) ?_
    refine lv_iadd hx hb dX2_holds_35 ?_
    obtain ⟨gi6, h⟩ := h
    refine va_iald (D := D) (f := ms_fr σ) hx hb hK hP 2 0 rfl rfl gi6 dX2_holds_36 ?_
    refine lv_i2l (v := (ms_fr σ ((3 * x1) + 2).toNatClampNeg).toInt64) hx hb dX2_holds_37 rfl ?_
    refine lv_aload_n hx hb dX2_holds_38 rfl (lv_at hl 2 rfl) ?_
    refine va_get (D := D) (ci := 2) (v := .ref (ad 3)) (C := RX2) (T := TX2) (N := 21) hx hb hts hin hown hK hP 0 rfl rfl 4 (by decide) (hts (.fieldLink RX2 16 "ClassSheetsModel" "to" "[I") (List.mem_of_getElem? (i := 3) rfl)) (fun _ h9 => h9) rfl dX2_holds_39 ?_
    refine lv_iconst (v := 3) hx hb dX2_holds_42 (by decide) ?_
    refine lv_iload_n hx hb dX2_holds_43 rfl (lv_at hl 3 rfl) ?_
    refine lv_imul hx hb dX2_holds_44 ?_
    refine lv_iconst (v := 2) hx hb dX2_holds_45 (by decide) ?_
    refine lv_iadd hx hb dX2_holds_46 ?_
    obtain ⟨gi7, h⟩ := h
    refine va_iald (D := D) (f := ms_to σ) hx hb hK hP 3 0 rfl rfl gi7 dX2_holds_47 ?_
    refine lv_i2l (v := (ms_to σ ((3 * x1) + 2).toNatClampNeg).toInt64) hx hb dX2_holds_48 rfl ?_
    refine call_s (Wd := MW cc ad) (σ := σ) C0 hd (lens_un (adc := ad)) (As := [.long (x5_4.toInt64), .long ((ms_fr σ ((3 * x1) + 2).toNatClampNeg).toInt64), .long ((ms_to σ ((3 * x1) + 2).toNatClampNeg).toInt64)]) (rest := []) (ct_X2_in l D cc ad da0 (x5_4.toInt64) ((ms_fr σ ((3 * x1) + 2).toNatClampNeg).toInt64) ((ms_to σ ((3 * x1) + 2).toNatClampNeg).toInt64)) (va_cwS 3 hts gX2_holds_X2_in rfl rfl rfl (by decide +kernel) ⟨Nat.le_of_ble_eq_true rfl, Nat.le_of_ble_eq_true rfl⟩) hP hS rfl hl.1 rfl (by simp [Value.category]) dX2_holds_49 (fun r8 u hp H locs hP hS => ?_)
    obtain ⟨hp1, hp2⟩ := hp
    subst hp1
    have hP : va_P D vwCl (MW cc ad σ) H := hP
    refine lv_if_ne (tgt := 57) hx hb dX2_holds_52 (by decide) (fun c9 => ?_) (fun c9 => ?_)
    · have h := h.1 c9
      refine lv_aload_n hx hb dX2_holds_57 rfl (lv_at hl 2 rfl) ?_
      refine va_get (D := D) (ci := 2) (v := .ref (ad 4)) (C := RX2) (T := TX2) (N := 21) hx hb hts hin hown hK hP 0 rfl rfl 5 (by decide) (hts (.fieldLink RX2 19 "ClassSheetsModel" "law" "[I") (List.mem_of_getElem? (i := 4) rfl)) (fun _ h9 => h9) rfl dX2_holds_58 ?_
      refine lv_iload_n hx hb dX2_holds_61 rfl (lv_at hl 3 rfl) ?_
      obtain ⟨gi10, h⟩ := h
      refine va_iald (D := D) (f := ms_la σ) hx hb hK hP 4 0 rfl rfl gi10 dX2_holds_62 ?_
      refine lv_if_eq (tgt := 106) hx hb dX2_holds_63 (by decide) (fun c11 => ?_) (fun c11 => ?_)
      · have h := h.1 c11
        exact wk_X2_holds_106 C0 hd σ x1 x2 x3 x4_2 x5_4 h H locs ls hP hS (lv_sub hl [2, 3, 4, 5, 1, 0] rfl)
      · have h := h.2 c11
        refine lv_aload_n hx hb dX2_holds_66 rfl (lv_at hl 2 rfl) ?_
        refine va_get (D := D) (ci := 2) (v := .ref (ad 4)) (C := RX2) (T := TX2) (N := 21) hx hb hts hin hown hK hP 0 rfl rfl 5 (by decide) (hts (.fieldLink RX2 19 "ClassSheetsModel" "law" "[I") (List.mem_of_getElem? (i := 4) rfl)) (fun _ h9 => h9) rfl dX2_holds_67 ?_
        refine lv_iload_n hx hb dX2_holds_70 rfl (lv_at hl 3 rfl) ?_
        obtain ⟨gi12, h⟩ := h
        refine va_iald (D := D) (f := ms_la σ) hx hb hK hP 4 0 rfl rfl gi12 dX2_holds_71 ?_
        refine lv_iconst (v := 1) hx hb dX2_holds_72 (by decide) ?_
        refine lv_icmp_ne (tgt := 86) hx hb dX2_holds_73 (by decide) (fun c13 => ?_) (fun c13 => ?_)
        · have h := h.1 c13
          exact wk_X2_holds_86 C0 hd σ x1 x2 x3 x4_2 x5_4 h H locs ls hP hS (lv_sub hl [2, 3, 4, 5, 1, 0] rfl)
        · have h := h.2 c13
          refine lv_iload hx hb dX2_holds_76 (lv_at hl 1 rfl) ?_
          refine lv_iload_n hx hb dX2_holds_78 rfl (lv_at hl 4 rfl) ?_
          refine lv_iload_n hx hb dX2_holds_79 rfl (lv_at hl 5 rfl) ?_
          refine call_s (Wd := MW cc ad) (σ := σ) C0 hd (lens_un (adc := ad)) (As := [.int x4_2, .int x2, .int x3]) (rest := []) (ct_X2_carries l D cc ad da0 x4_2 x2 x3) (va_cwS 3 hts gX2_holds_X2_carries rfl rfl rfl (by decide +kernel) ⟨Nat.le_of_ble_eq_true rfl, Nat.le_of_ble_eq_true rfl⟩) hP hS rfl hl.1 rfl (by simp [Value.category]) dX2_holds_80 (fun r14 u hp H locs hP hS => ?_)
          obtain ⟨hp1, hp2⟩ := hp
          subst hp1
          have hP : va_P D vwCl (MW cc ad σ) H := hP
          refine lv_if_eq (tgt := 106) hx hb dX2_holds_83 (by decide) (fun c15 => ?_) (fun c15 => ?_)
          · have h := h.1 c15
            exact wk_X2_holds_106 C0 hd σ x1 x2 x3 x4_2 x5_4 h H locs ls hP hS (lv_sub hl [2, 3, 4, 5, 1, 0] rfl)
          · have h := h.2 c15
            exact wk_X2_holds_86 C0 hd σ x1 x2 x3 x4_2 x5_4 h H locs ls hP hS (lv_sub hl [2, 3, 4, 5, 1, 0] rfl)
    · have h := h.2 c9
      refine lv_iconst (v := 0) hx hb dX2_holds_55 (by decide) ?_
      exact ret_z (Wd := MW cc ad) (u := σ) C0 rfl h hP hS dX2_holds_56
theorem ct_X2_holds (l : Launch) (D : va_G) (cc : Nat → ClassId) (ad : Nat → Nat) (hd : DA 13 ad (fun _ => True)) (g : CS) (σ : MS) (x1 : Int32) (x2 : Int32) (x3 : Int32) (hp : pr_X2_holds g σ x1 x2 x3) : Ctr l yX2_holds wsX2_holds { frames := 2, cells := 0, slots := 0, locals := 49 } D cc (MW cc ad) 13 ad σ [.ref (ad 0), .int x1, .int x2, .int x3] (fun r u => r = fn_X2_holds σ x1 x2 x3 ∧ u = σ) :=
  ctr_i (rt := (some .boolean)) (by decide +kernel) rfl hd (Nat.le_of_ble_eq_true rfl) (fun p e s m below meth c A C0 hd => wk_X2_holds_0 C0 hd σ x1 x2 x3 (pu_X2_holds g σ x1 x2 x3 hp))
theorem hin_X2_tell : ∀ w ∈ u_ws RX2 TX2 21, w ∈ wsX2_tell := fun w h => List.mem_cons_of_mem _ (List.mem_append_right _ h)
set_option maxHeartbeats 4000000 in
set_option maxRecDepth 100000 in
theorem wk_X2_tell_44 {p : Program} {l : Launch} {e : Env} {s : State} {m : MethodId} {args : Array Value} {below : List Frame} {meth : Method} {c : Code} {D : va_G} {cc : Nat → ClassId} {ad : Nat → Nat} {A : Nat → Prop} {Post : Int32 → MS → Prop} {g : CS} (C0 : Cx p s m args meth c cX2_tell 5 (some .int) RX2 wsX2_tell D cc A) (hd : DA 13 ad A) {K20 : (MS × Int32 × Int32 × Int32) → Prop} (hK20 : ∀ a, K20 a → At_ p l e { frames := 3, cells := 0, slots := 0, locals := 76 } s m args below meth c (Qi_ below D (MW cc ad) A args s Post) D A (MW cc ad (a.1)) 5 20 [(0, .ref (ad 0)), (1, .int (a.2.1)), (2, .int (a.2.2.1)), (3, .int (a.2.2.2))] []) {K44 : (MS × Int32 × Int32 × Int32 × Int32) → Prop} (hK44 : ∀ a, K44 a → At_ p l e { frames := 3, cells := 0, slots := 0, locals := 76 } s m args below meth c (Qi_ below D (MW cc ad) A args s Post) D A (MW cc ad (a.1)) 5 44 [(0, .ref (ad 0)), (1, .int (a.2.1)), (2, .int (a.2.2.1)), (3, .int (a.2.2.2.1)), (4, .int (a.2.2.2.2))] []) (σ : MS) (x1 : Int32) (x2 : Int32) (x3 : Int32) (x4 : Int32) (h : wp_X2_tell_44 g K20 K44 Post σ x1 x2 x3 x4) : At_ p l e { frames := 3, cells := 0, slots := 0, locals := 76 } s m args below meth c (Qi_ below D (MW cc ad) A args s Post) D A (MW cc ad σ) 5 44 [(0, .ref (ad 0)), (1, .int x1), (2, .int x2), (3, .int x3), (4, .int x4)] [] := by
  obtain ⟨hx, hb, hml, hr, hown, hts, hlocks, hK, hA, hX⟩ := id C0
  have hin := hin_X2_tell
  intro H locs ls hP hS hl
  unfold wp_X2_tell_44 at h
  refine lv_iload hx hb dX2_tell_44 (lv_at hl 4 rfl) ?_
  refine lv_aload_n hx hb dX2_tell_46 rfl (lv_at hl 0 rfl) ?_
  refine va_get (D := D) (ci := 2) (v := .ref (ad 3)) (C := RX2) (T := TX2) (N := 21) hx hb hts hin hown hK hP 0 rfl rfl 4 (by decide) (hts (.fieldLink RX2 16 "ClassSheetsModel" "to" "[I") (List.mem_of_getElem? (i := 3) rfl)) (fun _ h9 => h9) rfl dX2_tell_47 ?_
  refine lv_iconst (v := 3) hx hb dX2_tell_50 (by decide) ?_
  refine lv_iload_n hx hb dX2_tell_51 rfl (lv_at hl 1 rfl) ?_
  refine lv_imul hx hb dX2_tell_52 ?_
  refine lv_iconst (v := 1) hx hb dX2_tell_53 (by decide) ?_
  refine lv_iadd hx hb dX2_tell_54 ?_
  obtain ⟨gi1, h⟩ := h
  refine va_iald (D := D) (f := ms_to σ) hx hb hK hP 3 0 rfl rfl gi1 dX2_tell_55 ?_
  refine lv_icmp_gt (tgt := 99) hx hb dX2_tell_56 (by decide) (fun c2 => ?_) (fun c2 => ?_)
  · have h := h.1 c2
    obtain ⟨x3_3, ex3_3⟩ : ∃ y : Int32, y = x3 + 1 := ⟨_, rfl⟩
    have h := h x3_3 ex3_3
    refine lv_iinc (v := x3_3) (lv' := [(3, .int x3_3), (0, .ref (ad 0)), (1, .int x1), (2, .int x2), (4, .int x4)]) hx hb dX2_tell_99 hl (k := 3) rfl (by rw [ex3_3]; rfl) (by decide) rfl (fun ls hl => ?_)
    refine lv_goto (tgt := 20) hx hb dX2_tell_102 (by decide) ?_
    exact hK20 (σ, x1, x2, x3_3) h H locs ls hP hS (lv_sub hl [1, 2, 3, 0] rfl)
  · have h := h.2 c2
    refine lv_aload_n hx hb dX2_tell_59 rfl (lv_at hl 0 rfl) ?_
    refine lv_iload_n hx hb dX2_tell_60 rfl (lv_at hl 1 rfl) ?_
    refine lv_iload_n hx hb dX2_tell_61 rfl (lv_at hl 3 rfl) ?_
    refine lv_iload hx hb dX2_tell_62 (lv_at hl 4 rfl) ?_
    obtain ⟨gp4, h⟩ := h
    refine call_v (Wd := MW cc ad) (σ := σ) C0 hd lens_id (As := [.int x1, .int x3, .int x4]) (rest := []) (ct_X2_holds l D cc ad ⟨hd.1, fun _ _ => trivial⟩ g σ x1 x3 x4 gp4) (cwV 3 hts gX2_tell_X2_holds rfl rfl rfl (by decide +kernel) ⟨Nat.le_of_ble_eq_true rfl, Nat.le_of_ble_eq_true rfl⟩) (va_recv hK hP (ci := 2) (q0 := 0) rfl rfl) hP hS rfl hl.1 rfl (by simp [Value.category]) dX2_tell_64 (fun r5 u hp H locs hP hS => ?_)
    obtain ⟨hp1, hp2⟩ := hp
    subst hp1
    have hp2 := hp2.symm
    subst hp2
    have hP : va_P D vwCl (MW cc ad σ) H := hP
    refine lv_if_eq (tgt := 93) hx hb dX2_tell_67 (by decide) (fun c6 => ?_) (fun c6 => ?_)
    · have h := h.1 c6
      obtain ⟨x4_7, ex4_7⟩ : ∃ y : Int32, y = x4 + 1 := ⟨_, rfl⟩
      have h := h x4_7 ex4_7
      refine lv_iinc (v := x4_7) (lv' := [(4, .int x4_7), (0, .ref (ad 0)), (1, .int x1), (2, .int x2), (3, .int x3)]) hx hb dX2_tell_93 hl (k := 4) rfl (by rw [ex4_7]; rfl) (by decide) rfl (fun ls hl => ?_)
      refine lv_goto (tgt := 44) hx hb dX2_tell_96 (by decide) ?_
      exact hK44 (σ, x1, x2, x3, x4_7) h H locs ls hP hS (lv_sub hl [1, 2, 3, 4, 0] rfl)
    · have h := h.2 c6
      refine lv_aload_n hx hb dX2_tell_70 rfl (lv_at hl 0 rfl) ?_
      refine va_get (D := D) (ci := 2) (v := .ref (ad 9)) (C := RX2) (T := TX2) (N := 21) hx hb hts hin hown hK hP 0 rfl rfl 10 (by decide) (hts (.fieldLink RX2 36 "ClassSheetsModel" "pairs" "[S") (List.mem_of_getElem? (i := 4) rfl)) (fun _ h9 => h9) rfl dX2_tell_71 ?_
      refine lv_sipush (v := 10000) hx hb dX2_tell_74 (by decide) ?_
      refine lv_iload_n hx hb dX2_tell_77 rfl (lv_at hl 1 rfl) ?_
      refine lv_imul hx hb dX2_tell_78 ?_
      refine lv_iload_n hx hb dX2_tell_79 rfl (lv_at hl 2 rfl) ?_
      refine lv_iadd hx hb dX2_tell_80 ?_
      refine lv_bipush (v := 100) hx hb dX2_tell_81 (by decide) ?_
      refine lv_iload_n hx hb dX2_tell_83 rfl (lv_at hl 3 rfl) ?_
      refine lv_imul hx hb dX2_tell_84 ?_
      refine lv_iload hx hb dX2_tell_85 (lv_at hl 4 rfl) ?_
      refine lv_iadd hx hb dX2_tell_87 ?_
      refine lv_i2s (v := ((100 * x3) + x4).toInt16.toInt32) hx hb dX2_tell_88 rfl ?_
      obtain ⟨gi8, h⟩ := h
      refine va_sast (D := D) (f := ms_pa σ) (x := (((100 * x3) + x4).toInt16.toInt32)) hx hb hK hP (mD hd) hS 9 3 rfl rfl gi8 dX2_tell_89 (fun H locs hP _ hS => ?_)
      have hP : va_P D vwCl (MW cc ad (ms_s_pa σ (upd (ms_pa σ) ((10000 * x1) + x2).toNatClampNeg (vp_nar .short (((100 * x3) + x4).toInt16.toInt32))))) H := hP
      obtain ⟨x2_9, ex2_9⟩ : ∃ y : Int32, y = x2 + 1 := ⟨_, rfl⟩
      have h := h x2_9 ex2_9
      refine lv_iinc (v := x2_9) (lv' := [(2, .int x2_9), (0, .ref (ad 0)), (1, .int x1), (3, .int x3), (4, .int x4)]) hx hb dX2_tell_90 hl (k := 2) rfl (by rw [ex2_9]; rfl) (by decide) rfl (fun ls hl => ?_)
      obtain ⟨x4_10, ex4_10⟩ : ∃ y : Int32, y = x4 + 1 := ⟨_, rfl⟩
      have h := h x4_10 ex4_10
      refine lv_iinc (v := x4_10) (lv' := [(4, .int x4_10), (2, .int x2_9), (0, .ref (ad 0)), (1, .int x1), (3, .int x3)]) hx hb dX2_tell_93 hl (k := 4) rfl (by rw [ex4_10]; rfl) (by decide) rfl (fun ls hl => ?_)
      refine lv_goto (tgt := 44) hx hb dX2_tell_96 (by decide) ?_
      exact hK44 ((ms_s_pa σ (upd (ms_pa σ) ((10000 * x1) + x2).toNatClampNeg (vp_nar .short (((100 * x3) + x4).toInt16.toInt32)))), x1, x2_9, x3, x4_10) h H locs ls hP hS (lv_sub hl [2, 3, 1, 4, 0] rfl)
set_option maxHeartbeats 4000000 in
set_option maxRecDepth 100000 in
theorem wk_X2_tell_20 {p : Program} {l : Launch} {e : Env} {s : State} {m : MethodId} {args : Array Value} {below : List Frame} {meth : Method} {c : Code} {D : va_G} {cc : Nat → ClassId} {ad : Nat → Nat} {A : Nat → Prop} {Post : Int32 → MS → Prop} {g : CS} (C0 : Cx p s m args meth c cX2_tell 5 (some .int) RX2 wsX2_tell D cc A) (hd : DA 13 ad A) {K20 : (MS × Int32 × Int32 × Int32) → Prop} (hK20 : ∀ a, K20 a → At_ p l e { frames := 3, cells := 0, slots := 0, locals := 76 } s m args below meth c (Qi_ below D (MW cc ad) A args s Post) D A (MW cc ad (a.1)) 5 20 [(0, .ref (ad 0)), (1, .int (a.2.1)), (2, .int (a.2.2.1)), (3, .int (a.2.2.2))] []) (σ : MS) (x1 : Int32) (x2 : Int32) (x3 : Int32) (h : wp_X2_tell_20 g K20 Post σ x1 x2 x3) : At_ p l e { frames := 3, cells := 0, slots := 0, locals := 76 } s m args below meth c (Qi_ below D (MW cc ad) A args s Post) D A (MW cc ad σ) 5 20 [(0, .ref (ad 0)), (1, .int x1), (2, .int x2), (3, .int x3)] [] := by
  obtain ⟨hx, hb, hml, hr, hown, hts, hlocks, hK, hA, hX⟩ := id C0
  have hin := hin_X2_tell
  intro H locs ls hP hS hl
  unfold wp_X2_tell_20 at h
  refine lv_iload_n hx hb dX2_tell_20 rfl (lv_at hl 3 rfl) ?_
  refine lv_aload_n hx hb dX2_tell_21 rfl (lv_at hl 0 rfl) ?_
  refine va_get (D := D) (ci := 2) (v := .ref (ad 3)) (C := RX2) (T := TX2) (N := 21) hx hb hts hin hown hK hP 0 rfl rfl 4 (by decide) (hts (.fieldLink RX2 16 "ClassSheetsModel" "to" "[I") (List.mem_of_getElem? (i := 3) rfl)) (fun _ h9 => h9) rfl dX2_tell_22 ?_
  refine lv_iconst (v := 3) hx hb dX2_tell_25 (by decide) ?_
  refine lv_iload_n hx hb dX2_tell_26 rfl (lv_at hl 1 rfl) ?_
  refine lv_imul hx hb dX2_tell_27 ?_
  obtain ⟨gi1, h⟩ := h
  refine va_iald (D := D) (f := ms_to σ) hx hb hK hP 3 0 rfl rfl gi1 dX2_tell_28 ?_
  refine lv_icmp_gt (tgt := 105) hx hb dX2_tell_29 (by decide) (fun c2 => ?_) (fun c2 => ?_)
  · have h := h.1 c2
    refine lv_aload_n hx hb dX2_tell_105 rfl (lv_at hl 0 rfl) ?_
    refine va_get (D := D) (ci := 2) (v := .ref (ad 8)) (C := RX2) (T := TX2) (N := 21) hx hb hts hin hown hK hP 0 rfl rfl 9 (by decide) (hts (.fieldLink RX2 32 "ClassSheetsModel" "many" "[I") (List.mem_of_getElem? (i := 5) rfl)) (fun _ h9 => h9) rfl dX2_tell_106 ?_
    refine lv_iload_n hx hb dX2_tell_109 rfl (lv_at hl 1 rfl) ?_
    refine lv_iload_n hx hb dX2_tell_110 rfl (lv_at hl 2 rfl) ?_
    obtain ⟨gi3, h⟩ := h
    refine va_iast (D := D) (f := ms_ma σ) (x := x2) hx hb hK hP (mD hd) hS 8 0 rfl rfl gi3 dX2_tell_111 (fun H locs hP _ hS => ?_)
    have hP : va_P D vwCl (MW cc ad (ms_s_ma σ (upd (ms_ma σ) x1.toNatClampNeg x2))) H := hP
    refine lv_aload_n hx hb dX2_tell_112 rfl (lv_at hl 0 rfl) ?_
    refine va_get (D := D) (ci := 2) (v := .ref (ad 7)) (C := RX2) (T := TX2) (N := 21) hx hb hts hin hown hK hP 0 rfl rfl 8 (by decide) (hts (.fieldLink RX2 28 "ClassSheetsModel" "isTold" "[Z") (List.mem_of_getElem? (i := 1) rfl)) (fun _ h9 => h9) rfl dX2_tell_113 ?_
    refine lv_iload_n hx hb dX2_tell_116 rfl (lv_at hl 1 rfl) ?_
    refine lv_iconst (v := 1) hx hb dX2_tell_117 (by decide) ?_
    obtain ⟨gi4, h⟩ := h
    refine va_zast (D := D) (f := ms_is (ms_s_ma σ (upd (ms_ma σ) x1.toNatClampNeg x2))) (x := 1) hx hb hK hP (mD hd) hS 7 2 rfl rfl gi4 dX2_tell_118 (fun H locs hP _ hS => ?_)
    have hP : va_P D vwCl (MW cc ad (ms_s_is (ms_s_ma σ (upd (ms_ma σ) x1.toNatClampNeg x2)) (upd (ms_is (ms_s_ma σ (upd (ms_ma σ) x1.toNatClampNeg x2))) x1.toNatClampNeg (vp_nar .boolean 1)))) H := hP
    refine lv_aload_n hx hb dX2_tell_119 rfl (lv_at hl 0 rfl) ?_
    refine va_get (D := D) (ci := 2) (v := .ref (ad 8)) (C := RX2) (T := TX2) (N := 21) hx hb hts hin hown hK hP 0 rfl rfl 9 (by decide) (hts (.fieldLink RX2 32 "ClassSheetsModel" "many" "[I") (List.mem_of_getElem? (i := 5) rfl)) (fun _ h9 => h9) rfl dX2_tell_120 ?_
    refine lv_iload_n hx hb dX2_tell_123 rfl (lv_at hl 1 rfl) ?_
    obtain ⟨gi5, h⟩ := h
    refine va_iald (D := D) (f := ms_ma (ms_s_is (ms_s_ma σ (upd (ms_ma σ) x1.toNatClampNeg x2)) (upd (ms_is (ms_s_ma σ (upd (ms_ma σ) x1.toNatClampNeg x2))) x1.toNatClampNeg (vp_nar .boolean 1)))) hx hb hK hP 8 0 rfl rfl gi5 dX2_tell_124 ?_
    exact ret_i (Wd := MW cc ad) (u := (ms_s_is (ms_s_ma σ (upd (ms_ma σ) x1.toNatClampNeg x2)) (upd (ms_is (ms_s_ma σ (upd (ms_ma σ) x1.toNatClampNeg x2))) x1.toNatClampNeg (vp_nar .boolean 1)))) C0 h hP hS dX2_tell_125
  · have h := h.2 c2
    refine lv_aload_n hx hb dX2_tell_32 rfl (lv_at hl 0 rfl) ?_
    refine va_get (D := D) (ci := 2) (v := .ref (ad 2)) (C := RX2) (T := TX2) (N := 21) hx hb hts hin hown hK hP 0 rfl rfl 3 (by decide) (hts (.fieldLink RX2 13 "ClassSheetsModel" "from" "[I") (List.mem_of_getElem? (i := 2) rfl)) (fun _ h9 => h9) rfl dX2_tell_33 ?_
    refine lv_iconst (v := 3) hx hb dX2_tell_36 (by decide) ?_
    refine lv_iload_n hx hb dX2_tell_37 rfl (lv_at hl 1 rfl) ?_
    refine lv_imul hx hb dX2_tell_38 ?_
    refine lv_iconst (v := 1) hx hb dX2_tell_39 (by decide) ?_
    refine lv_iadd hx hb dX2_tell_40 ?_
    obtain ⟨gi6, h⟩ := h
    refine va_iald (D := D) (f := ms_fr σ) hx hb hK hP 2 0 rfl rfl gi6 dX2_tell_41 ?_
    refine lv_topi (fun x4_7 ex4_7 => ?_)
    have h := h x4_7 ex4_7
    refine lv_istore (lv' := [(4, .int x4_7), (0, .ref (ad 0)), (1, .int x1), (2, .int x2), (3, .int x3)]) hx hb dX2_tell_42 hl (by decide) rfl (fun ls hl => ?_)
    exact lp_at (Wt := fun a => At_ p l e { frames := 3, cells := 0, slots := 0, locals := 76 } s m args below meth c (Qi_ below D (MW cc ad) A args s Post) D A (MW cc ad (a.1)) 5 44 [(0, .ref (ad 0)), (1, .int (a.2.1)), (2, .int (a.2.2.1)), (3, .int (a.2.2.2.1)), (4, .int (a.2.2.2.2))] []) (fun K hK a h => wk_X2_tell_44 C0 hd hK20 hK a.1 a.2.1 a.2.2.1 a.2.2.2.1 a.2.2.2.2 h) h H locs ls hP hS (lv_sub hl [1, 2, 3, 4, 0] rfl)
set_option maxHeartbeats 4000000 in
set_option maxRecDepth 100000 in
theorem wk_X2_tell_0 {p : Program} {l : Launch} {e : Env} {s : State} {m : MethodId} {args : Array Value} {below : List Frame} {meth : Method} {c : Code} {D : va_G} {cc : Nat → ClassId} {ad : Nat → Nat} {A : Nat → Prop} {Post : Int32 → MS → Prop} {g : CS} (C0 : Cx p s m args meth c cX2_tell 5 (some .int) RX2 wsX2_tell D cc A) (hd : DA 13 ad A) (σ : MS) (x1 : Int32) (h : wp_X2_tell g Post σ x1) : At_ p l e { frames := 3, cells := 0, slots := 0, locals := 76 } s m args below meth c (Qi_ below D (MW cc ad) A args s Post) D A (MW cc ad σ) 5 0 [(0, .ref (ad 0)), (1, .int x1)] [] := by
  obtain ⟨hx, hb, hml, hr, hown, hts, hlocks, hK, hA, hX⟩ := id C0
  have hin := hin_X2_tell
  intro H locs ls hP hS hl
  unfold wp_X2_tell at h
  refine lv_aload_n hx hb dX2_tell_0 rfl (lv_at hl 0 rfl) ?_
  refine va_get (D := D) (ci := 2) (v := .ref (ad 7)) (C := RX2) (T := TX2) (N := 21) hx hb hts hin hown hK hP 0 rfl rfl 8 (by decide) (hts (.fieldLink RX2 28 "ClassSheetsModel" "isTold" "[Z") (List.mem_of_getElem? (i := 1) rfl)) (fun _ h9 => h9) rfl dX2_tell_1 ?_
  refine lv_iload_n hx hb dX2_tell_4 rfl (lv_at hl 1 rfl) ?_
  obtain ⟨gi1, h⟩ := h
  refine va_zald (D := D) (f := ms_is σ) hx hb hK hP 7 2 rfl rfl gi1 dX2_tell_5 ?_
  refine lv_if_ne (tgt := 119) hx hb dX2_tell_6 (by decide) (fun c2 => ?_) (fun c2 => ?_)
  · have h := h.1 c2
    refine lv_aload_n hx hb dX2_tell_119 rfl (lv_at hl 0 rfl) ?_
    refine va_get (D := D) (ci := 2) (v := .ref (ad 8)) (C := RX2) (T := TX2) (N := 21) hx hb hts hin hown hK hP 0 rfl rfl 9 (by decide) (hts (.fieldLink RX2 32 "ClassSheetsModel" "many" "[I") (List.mem_of_getElem? (i := 5) rfl)) (fun _ h9 => h9) rfl dX2_tell_120 ?_
    refine lv_iload_n hx hb dX2_tell_123 rfl (lv_at hl 1 rfl) ?_
    obtain ⟨gi3, h⟩ := h
    refine va_iald (D := D) (f := ms_ma σ) hx hb hK hP 8 0 rfl rfl gi3 dX2_tell_124 ?_
    exact ret_i (Wd := MW cc ad) (u := σ) C0 h hP hS dX2_tell_125
  · have h := h.2 c2
    refine lv_iconst (v := 0) hx hb dX2_tell_9 (by decide) ?_
    refine lv_istore_n (lv' := [(2, .int 0), (0, .ref (ad 0)), (1, .int x1)]) hx hb dX2_tell_10 rfl hl (by decide) rfl (fun ls hl => ?_)
    refine lv_aload_n hx hb dX2_tell_11 rfl (lv_at hl 1 rfl) ?_
    refine va_get (D := D) (ci := 2) (v := .ref (ad 2)) (C := RX2) (T := TX2) (N := 21) hx hb hts hin hown hK hP 0 rfl rfl 3 (by decide) (hts (.fieldLink RX2 13 "ClassSheetsModel" "from" "[I") (List.mem_of_getElem? (i := 2) rfl)) (fun _ h9 => h9) rfl dX2_tell_12 ?_
    refine lv_iconst (v := 3) hx hb dX2_tell_15 (by decide) ?_
    refine lv_iload_n hx hb dX2_tell_16 rfl (lv_at hl 2 rfl) ?_
    refine lv_imul hx hb dX2_tell_17 ?_
    obtain ⟨gi4, h⟩ := h
    refine va_iald (D := D) (f := ms_fr σ) hx hb hK hP 2 0 rfl rfl gi4 dX2_tell_18 ?_
    refine lv_topi (fun x3_5 ex3_5 => ?_)
    have h := h x3_5 ex3_5
    refine lv_istore_n (lv' := [(3, .int x3_5), (2, .int 0), (0, .ref (ad 0)), (1, .int x1)]) hx hb dX2_tell_19 rfl hl (by decide) rfl (fun ls hl => ?_)
    exact lp_at (Wt := fun a => At_ p l e { frames := 3, cells := 0, slots := 0, locals := 76 } s m args below meth c (Qi_ below D (MW cc ad) A args s Post) D A (MW cc ad (a.1)) 5 20 [(0, .ref (ad 0)), (1, .int (a.2.1)), (2, .int (a.2.2.1)), (3, .int (a.2.2.2))] []) (fun K hK a h => wk_X2_tell_20 C0 hd hK a.1 a.2.1 a.2.2.1 a.2.2.2 h) h H locs ls hP hS (lv_sub hl [2, 3, 1, 0] rfl)
theorem ct_X2_tell (l : Launch) (D : va_G) (cc : Nat → ClassId) (ad : Nat → Nat) (hd : DA 13 ad (fun _ => True)) (g : CS) (σ : MS) (x1 : Int32) (hp : pr_X2_tell g σ x1) : Ctr l yX2_tell wsX2_tell { frames := 3, cells := 0, slots := 0, locals := 76 } D cc (MW cc ad) 13 ad σ [.ref (ad 0), .int x1] (po_X2_tell g σ x1) :=
  ctr_i (rt := (some .int)) (by decide +kernel) rfl hd (Nat.le_of_ble_eq_true rfl) (fun p e s m below meth c A C0 hd => wk_X2_tell_0 C0 hd σ x1 (pu_X2_tell g σ x1 hp))
theorem hin_X2_pairOf : ∀ w ∈ u_ws RX2 TX2 21, w ∈ wsX2_pairOf := fun w h => List.mem_cons_of_mem _ (List.mem_append_right _ h)
set_option maxHeartbeats 4000000 in
set_option maxRecDepth 100000 in
theorem wk_X2_pairOf_0 {p : Program} {l : Launch} {e : Env} {s : State} {m : MethodId} {args : Array Value} {below : List Frame} {meth : Method} {c : Code} {D : va_G} {cc : Nat → ClassId} {ad : Nat → Nat} {A : Nat → Prop} {Post : Int32 → MS → Prop} {g : CS} (C0 : Cx p s m args meth c cX2_pairOf 3 (some .int) RX2 wsX2_pairOf D cc A) (hd : DA 13 ad A) (σ : MS) (x1 : Int32) (x2 : Int32) (h : wp_X2_pairOf g Post σ x1 x2) : At_ p l e { frames := 0, cells := 0, slots := 0, locals := 0 } s m args below meth c (Qi_ below D (MW cc ad) A args s Post) D A (MW cc ad σ) 3 0 [(0, .ref (ad 0)), (1, .int x1), (2, .int x2)] [] := by
  obtain ⟨hx, hb, hml, hr, hown, hts, hlocks, hK, hA, hX⟩ := id C0
  have hin := hin_X2_pairOf
  intro H locs ls hP hS hl
  unfold wp_X2_pairOf at h
  refine lv_aload_n hx hb dX2_pairOf_0 rfl (lv_at hl 0 rfl) ?_
  refine va_get (D := D) (ci := 2) (v := .ref (ad 9)) (C := RX2) (T := TX2) (N := 21) hx hb hts hin hown hK hP 0 rfl rfl 10 (by decide) (hts (.fieldLink RX2 36 "ClassSheetsModel" "pairs" "[S") (List.mem_of_getElem? (i := 1) rfl)) (fun _ h9 => h9) rfl dX2_pairOf_1 ?_
  refine lv_sipush (v := 10000) hx hb dX2_pairOf_4 (by decide) ?_
  refine lv_iload_n hx hb dX2_pairOf_7 rfl (lv_at hl 1 rfl) ?_
  refine lv_imul hx hb dX2_pairOf_8 ?_
  refine lv_iload_n hx hb dX2_pairOf_9 rfl (lv_at hl 2 rfl) ?_
  refine lv_iadd hx hb dX2_pairOf_10 ?_
  obtain ⟨gi1, h⟩ := h
  refine va_sald (D := D) (f := ms_pa σ) hx hb hK hP 9 3 rfl rfl gi1 dX2_pairOf_11 ?_
  exact ret_i (Wd := MW cc ad) (u := σ) C0 h hP hS dX2_pairOf_12
theorem ct_X2_pairOf (l : Launch) (D : va_G) (cc : Nat → ClassId) (ad : Nat → Nat) (hd : DA 13 ad (fun _ => True)) (g : CS) (σ : MS) (x1 : Int32) (x2 : Int32) (hp : pr_X2_pairOf g σ x1 x2) : Ctr l yX2_pairOf wsX2_pairOf { frames := 0, cells := 0, slots := 0, locals := 0 } D cc (MW cc ad) 13 ad σ [.ref (ad 0), .int x1, .int x2] (fun r u => r = fn_X2_pairOf σ x1 x2 ∧ u = σ) :=
  ctr_i (rt := (some .int)) (by decide +kernel) rfl hd (Nat.le_of_ble_eq_true rfl) (fun p e s m below meth c A C0 hd => wk_X2_pairOf_0 C0 hd σ x1 x2 (pu_X2_pairOf g σ x1 x2 hp))
theorem hin_X2_noVariant : ∀ w ∈ u_ws RX2 TX2 21, w ∈ wsX2_noVariant := fun w h => List.mem_cons_of_mem _ (List.mem_append_right _ h)
set_option maxHeartbeats 4000000 in
set_option maxRecDepth 100000 in
theorem wk_X2_noVariant_0 {p : Program} {l : Launch} {e : Env} {s : State} {m : MethodId} {args : Array Value} {below : List Frame} {meth : Method} {c : Code} {D : va_G} {cc : Nat → ClassId} {ad : Nat → Nat} {A : Nat → Prop} {Post : Int32 → MS → Prop} {g : CS} (C0 : Cx p s m args meth c cX2_noVariant 3 (some .boolean) RX2 wsX2_noVariant D cc A) (hd : DA 13 ad A) (σ : MS) (x1 : Int32) (x2 : Int32) (h : wp_X2_noVariant g Post σ x1 x2) : At_ p l e { frames := 4, cells := 0, slots := 0, locals := 100 } s m args below meth c (Qi_ below D (MW cc ad) A args s Post) D A (MW cc ad σ) 3 0 [(0, .ref (ad 0)), (1, .int x1), (2, .int x2)] [] := by
  obtain ⟨hx, hb, hml, hr, hown, hts, hlocks, hK, hA, hX⟩ := id C0
  have hin := hin_X2_noVariant
  intro H locs ls hP hS hl
  unfold wp_X2_noVariant at h
  refine lv_aload_n hx hb dX2_noVariant_0 rfl (lv_at hl 0 rfl) ?_
  refine lv_iload_n hx hb dX2_noVariant_1 rfl (lv_at hl 1 rfl) ?_
  refine call_v (Wd := MW cc ad) (σ := σ) C0 hd lens_id (As := [.int x1]) (rest := []) (ct_X2_noKind l D cc ad ⟨hd.1, fun _ _ => trivial⟩ g σ x1) (cwV 1 hts gX2_noVariant_X2_noKind rfl rfl rfl (by decide +kernel) ⟨Nat.le_of_ble_eq_true rfl, Nat.le_of_ble_eq_true rfl⟩) (va_recv hK hP (ci := 2) (q0 := 0) rfl rfl) hP hS rfl hl.1 rfl (by simp [Value.category]) dX2_noVariant_2 (fun r1 u hp H locs hP hS => ?_)
  obtain ⟨hp1, hp2⟩ := hp
  subst hp1
  have hp2 := hp2.symm
  subst hp2
  have hP : va_P D vwCl (MW cc ad σ) H := hP
  refine lv_if_ne (tgt := 25) hx hb dX2_noVariant_5 (by decide) (fun c2 => ?_) (fun c2 => ?_)
  · have h := h.1 c2
    refine lv_iconst (v := 1) hx hb dX2_noVariant_25 (by decide) ?_
    refine lv_goto (tgt := 30) hx hb dX2_noVariant_26 (by decide) ?_
    exact ret_z (Wd := MW cc ad) (u := σ) C0 rfl h hP hS dX2_noVariant_30
  · have h := h.2 c2
    refine lv_iload_n hx hb dX2_noVariant_8 rfl (lv_at hl 2 rfl) ?_
    refine lv_i2l (v := x2.toInt64) hx hb dX2_noVariant_9 rfl ?_
    refine lv_lconst (v := 0) hx hb dX2_noVariant_10 (by decide) ?_
    refine lv_aload_n hx hb dX2_noVariant_11 rfl (lv_at hl 0 rfl) ?_
    refine lv_iload_n hx hb dX2_noVariant_12 rfl (lv_at hl 1 rfl) ?_
    obtain ⟨gp3, h⟩ := h
    refine call_v (Wd := MW cc ad) (σ := σ) C0 hd lens_id (As := [.int x1]) (rest := [.long 0, .long (x2.toInt64)]) (ct_X2_tell l D cc ad ⟨hd.1, fun _ _ => trivial⟩ g σ x1 gp3) (cwV 1 hts gX2_noVariant_X2_tell rfl rfl rfl (by decide +kernel) ⟨Nat.le_of_ble_eq_true rfl, Nat.le_of_ble_eq_true rfl⟩) (va_recv hK hP (ci := 2) (q0 := 0) rfl rfl) hP hS rfl hl.1 rfl (by simp [Value.category]) dX2_noVariant_13 (fun r4 u5 hp H locs hP hS => ?_)
    have h := h r4 u5 hp
    have hP : va_P D vwCl (MW cc ad u5) H := hP
    refine lv_iconst (v := 1) hx hb dX2_noVariant_16 (by decide) ?_
    refine lv_isub hx hb dX2_noVariant_17 ?_
    refine lv_i2l (v := (r4 - 1).toInt64) hx hb dX2_noVariant_18 rfl ?_
    refine call_s (Wd := MW cc ad) (σ := u5) C0 hd (lens_un (adc := ad)) (As := [.long (x2.toInt64), .long 0, .long ((r4 - 1).toInt64)]) (rest := []) (ct_X2_in l D cc ad da0 (x2.toInt64) 0 ((r4 - 1).toInt64)) (va_cwS 3 hts gX2_noVariant_X2_in rfl rfl rfl (by decide +kernel) ⟨Nat.le_of_ble_eq_true rfl, Nat.le_of_ble_eq_true rfl⟩) hP hS rfl hl.1 rfl (by simp [Value.category]) dX2_noVariant_19 (fun r6 u hp H locs hP hS => ?_)
    obtain ⟨hp1, hp2⟩ := hp
    subst hp1
    have hP : va_P D vwCl (MW cc ad u5) H := hP
    refine lv_if_ne (tgt := 29) hx hb dX2_noVariant_22 (by decide) (fun c7 => ?_) (fun c7 => ?_)
    · have h := h.1 c7
      refine lv_iconst (v := 0) hx hb dX2_noVariant_29 (by decide) ?_
      exact ret_z (Wd := MW cc ad) (u := u5) C0 rfl h hP hS dX2_noVariant_30
    · have h := h.2 c7
      refine lv_iconst (v := 1) hx hb dX2_noVariant_25 (by decide) ?_
      refine lv_goto (tgt := 30) hx hb dX2_noVariant_26 (by decide) ?_
      exact ret_z (Wd := MW cc ad) (u := u5) C0 rfl h hP hS dX2_noVariant_30
theorem ct_X2_noVariant (l : Launch) (D : va_G) (cc : Nat → ClassId) (ad : Nat → Nat) (hd : DA 13 ad (fun _ => True)) (g : CS) (σ : MS) (x1 : Int32) (x2 : Int32) (hp : pr_X2_noVariant g σ x1 x2) : Ctr l yX2_noVariant wsX2_noVariant { frames := 4, cells := 0, slots := 0, locals := 100 } D cc (MW cc ad) 13 ad σ [.ref (ad 0), .int x1, .int x2] (po_X2_noVariant g σ x1 x2) :=
  ctr_i (rt := (some .boolean)) (by decide +kernel) rfl hd (Nat.le_of_ble_eq_true rfl) (fun p e s m below meth c A C0 hd => wk_X2_noVariant_0 C0 hd σ x1 x2 (pu_X2_noVariant g σ x1 x2 hp))
theorem hin_X2_kind : ∀ w ∈ u_ws RX2 TX2 21, w ∈ wsX2_kind := fun w h => List.mem_cons_of_mem _ (List.mem_append_right _ h)
set_option maxHeartbeats 4000000 in
set_option maxRecDepth 100000 in
theorem wk_X2_kind_0 {p : Program} {l : Launch} {e : Env} {s : State} {m : MethodId} {args : Array Value} {below : List Frame} {meth : Method} {c : Code} {D : va_G} {cc : Nat → ClassId} {ad : Nat → Nat} {A : Nat → Prop} {Post : Int32 → MS → Prop} {g : CS} (C0 : Cx p s m args meth c cX2_kind 2 (some .int) RX2 wsX2_kind D cc A) (hd : DA 13 ad A) (σ : MS) (x1 : Int32) (h : wp_X2_kind g Post σ x1) : At_ p l e { frames := 1, cells := 0, slots := 0, locals := 25 } s m args below meth c (Qi_ below D (MW cc ad) A args s Post) D A (MW cc ad σ) 2 0 [(0, .ref (ad 0)), (1, .int x1)] [] := by
  obtain ⟨hx, hb, hml, hr, hown, hts, hlocks, hK, hA, hX⟩ := id C0
  have hin := hin_X2_kind
  intro H locs ls hP hS hl
  unfold wp_X2_kind at h
  refine lv_aload_n hx hb dX2_kind_0 rfl (lv_at hl 0 rfl) ?_
  refine lv_iconst (v := 0) hx hb dX2_kind_1 (by decide) ?_
  refine va_put (D := D) (ci := 2) (v := .int 0) (ty := .int) (C := RX2) (T := TX2) (N := 21) hx hb hts hin tyX2 tyX2_ok nmX2 hown hK hP (mD hd) hS 0 rfl rfl 0 (by decide) (hts (.fieldLink RX2 59 "ClassSheetsModel" "thrown" "I") (List.mem_of_getElem? (i := 1) rfl)) (fun _ h9 => h9) rfl (by decide +kernel) rfl rfl (Nat.le_of_ble_eq_true rfl) dX2_kind_2 (fun H locs hP _ hS => ?_)
  have hP : va_P D vwCl (MW cc ad (ms_s_th σ 0)) H := hP
  refine lv_iload_n hx hb dX2_kind_5 rfl (lv_at hl 1 rfl) ?_
  refine lv_i2l (v := x1.toInt64) hx hb dX2_kind_6 rfl ?_
  refine lv_lconst (v := 0) hx hb dX2_kind_7 (by decide) ?_
  refine lv_ldc2 (v := 3) hx hb hown (hts (.constantLong RX2 99 (3)) (List.mem_of_getElem? (i := 2) rfl)) dX2_kind_8 ?_
  refine call_s (Wd := MW cc ad) (σ := (ms_s_th σ 0)) C0 hd (lens_un (adc := ad)) (As := [.long (x1.toInt64), .long 0, .long 3]) (rest := []) (ct_X2_in l D cc ad da0 (x1.toInt64) 0 3) (va_cwS 3 hts gX2_kind_X2_in rfl rfl rfl (by decide +kernel) ⟨Nat.le_of_ble_eq_true rfl, Nat.le_of_ble_eq_true rfl⟩) hP hS rfl hl.1 rfl (by simp [Value.category]) dX2_kind_11 (fun r1 u hp H locs hP hS => ?_)
  obtain ⟨hp1, hp2⟩ := hp
  subst hp1
  have hP : va_P D vwCl (MW cc ad (ms_s_th σ 0)) H := hP
  refine lv_if_ne (tgt := 20) hx hb dX2_kind_14 (by decide) (fun c2 => ?_) (fun c2 => ?_)
  · have h := h.1 c2
    refine lv_aload_n hx hb dX2_kind_20 rfl (lv_at hl 0 rfl) ?_
    refine va_get (D := D) (ci := 2) (v := .int (ms_ki (ms_s_th σ 0))) (C := RX2) (T := TX2) (N := 21) hx hb hts hin hown hK hP 0 rfl rfl 1 (by decide) (hts (.fieldLink RX2 62 "ClassSheetsModel" "kinds" "I") (List.mem_of_getElem? (i := 3) rfl)) (fun _ h9 => h9) rfl dX2_kind_21 ?_
    refine lv_bipush (v := 8) hx hb dX2_kind_24 (by decide) ?_
    refine lv_icmp_ne (tgt := 32) hx hb dX2_kind_26 (by decide) (fun c3 => ?_) (fun c3 => ?_)
    · have h := h.1 c3
      refine lv_aload_n hx hb dX2_kind_32 rfl (lv_at hl 0 rfl) ?_
      refine va_get (D := D) (ci := 2) (v := .ref (ad 1)) (C := RX2) (T := TX2) (N := 21) hx hb hts hin hown hK hP 0 rfl rfl 2 (by decide) (hts (.fieldLink RX2 7 "ClassSheetsModel" "operation" "[I") (List.mem_of_getElem? (i := 4) rfl)) (fun _ h9 => h9) rfl dX2_kind_33 ?_
      refine lv_aload_n hx hb dX2_kind_36 rfl (lv_at hl 0 rfl) ?_
      refine va_get (D := D) (ci := 2) (v := .int (ms_ki (ms_s_th σ 0))) (C := RX2) (T := TX2) (N := 21) hx hb hts hin hown hK hP 0 rfl rfl 1 (by decide) (hts (.fieldLink RX2 62 "ClassSheetsModel" "kinds" "I") (List.mem_of_getElem? (i := 3) rfl)) (fun _ h9 => h9) rfl dX2_kind_37 ?_
      refine lv_iload_n hx hb dX2_kind_40 rfl (lv_at hl 1 rfl) ?_
      obtain ⟨gi4, h⟩ := h
      refine va_iast (D := D) (f := ms_op (ms_s_th σ 0)) (x := x1) hx hb hK hP (mD hd) hS 1 0 rfl rfl gi4 dX2_kind_41 (fun H locs hP _ hS => ?_)
      have hP : va_P D vwCl (MW cc ad (ms_s_op (ms_s_th σ 0) (upd (ms_op (ms_s_th σ 0)) (ms_ki (ms_s_th σ 0)).toNatClampNeg x1))) H := hP
      refine lv_aload_n hx hb dX2_kind_42 rfl (lv_at hl 0 rfl) ?_
      refine va_get (D := D) (ci := 2) (v := .ref (ad 3)) (C := RX2) (T := TX2) (N := 21) hx hb hts hin hown hK hP 0 rfl rfl 4 (by decide) (hts (.fieldLink RX2 16 "ClassSheetsModel" "to" "[I") (List.mem_of_getElem? (i := 5) rfl)) (fun _ h9 => h9) rfl dX2_kind_43 ?_
      refine lv_iconst (v := 3) hx hb dX2_kind_46 (by decide) ?_
      refine lv_aload_n hx hb dX2_kind_47 rfl (lv_at hl 0 rfl) ?_
      refine va_get (D := D) (ci := 2) (v := .int (ms_ki (ms_s_op (ms_s_th σ 0) (upd (ms_op (ms_s_th σ 0)) (ms_ki (ms_s_th σ 0)).toNatClampNeg x1)))) (C := RX2) (T := TX2) (N := 21) hx hb hts hin hown hK hP 0 rfl rfl 1 (by decide) (hts (.fieldLink RX2 62 "ClassSheetsModel" "kinds" "I") (List.mem_of_getElem? (i := 3) rfl)) (fun _ h9 => h9) rfl dX2_kind_48 ?_
      refine lv_imul hx hb dX2_kind_51 ?_
      refine lv_bipush (v := 9) hx hb dX2_kind_52 (by decide) ?_
      obtain ⟨gi5, h⟩ := h
      refine va_iast (D := D) (f := ms_to (ms_s_op (ms_s_th σ 0) (upd (ms_op (ms_s_th σ 0)) (ms_ki (ms_s_th σ 0)).toNatClampNeg x1))) (x := 9) hx hb hK hP (mD hd) hS 3 0 rfl rfl gi5 dX2_kind_54 (fun H locs hP _ hS => ?_)
      have hP : va_P D vwCl (MW cc ad (ms_s_to (ms_s_op (ms_s_th σ 0) (upd (ms_op (ms_s_th σ 0)) (ms_ki (ms_s_th σ 0)).toNatClampNeg x1)) (upd (ms_to (ms_s_op (ms_s_th σ 0) (upd (ms_op (ms_s_th σ 0)) (ms_ki (ms_s_th σ 0)).toNatClampNeg x1))) (3 * (ms_ki (ms_s_op (ms_s_th σ 0) (upd (ms_op (ms_s_th σ 0)) (ms_ki (ms_s_th σ 0)).toNatClampNeg x1)))).toNatClampNeg 9))) H := hP
      refine lv_aload_n hx hb dX2_kind_55 rfl (lv_at hl 0 rfl) ?_
      refine va_get (D := D) (ci := 2) (v := .ref (ad 3)) (C := RX2) (T := TX2) (N := 21) hx hb hts hin hown hK hP 0 rfl rfl 4 (by decide) (hts (.fieldLink RX2 16 "ClassSheetsModel" "to" "[I") (List.mem_of_getElem? (i := 5) rfl)) (fun _ h9 => h9) rfl dX2_kind_56 ?_
      refine lv_iconst (v := 3) hx hb dX2_kind_59 (by decide) ?_
      refine lv_aload_n hx hb dX2_kind_60 rfl (lv_at hl 0 rfl) ?_
      refine va_get (D := D) (ci := 2) (v := .int (ms_ki (ms_s_to (ms_s_op (ms_s_th σ 0) (upd (ms_op (ms_s_th σ 0)) (ms_ki (ms_s_th σ 0)).toNatClampNeg x1)) (upd (ms_to (ms_s_op (ms_s_th σ 0) (upd (ms_op (ms_s_th σ 0)) (ms_ki (ms_s_th σ 0)).toNatClampNeg x1))) (3 * (ms_ki (ms_s_op (ms_s_th σ 0) (upd (ms_op (ms_s_th σ 0)) (ms_ki (ms_s_th σ 0)).toNatClampNeg x1)))).toNatClampNeg 9)))) (C := RX2) (T := TX2) (N := 21) hx hb hts hin hown hK hP 0 rfl rfl 1 (by decide) (hts (.fieldLink RX2 62 "ClassSheetsModel" "kinds" "I") (List.mem_of_getElem? (i := 3) rfl)) (fun _ h9 => h9) rfl dX2_kind_61 ?_
      refine lv_imul hx hb dX2_kind_64 ?_
      refine lv_iconst (v := 1) hx hb dX2_kind_65 (by decide) ?_
      refine lv_iadd hx hb dX2_kind_66 ?_
      refine lv_bipush (v := 9) hx hb dX2_kind_67 (by decide) ?_
      obtain ⟨gi6, h⟩ := h
      refine va_iast (D := D) (f := ms_to (ms_s_to (ms_s_op (ms_s_th σ 0) (upd (ms_op (ms_s_th σ 0)) (ms_ki (ms_s_th σ 0)).toNatClampNeg x1)) (upd (ms_to (ms_s_op (ms_s_th σ 0) (upd (ms_op (ms_s_th σ 0)) (ms_ki (ms_s_th σ 0)).toNatClampNeg x1))) (3 * (ms_ki (ms_s_op (ms_s_th σ 0) (upd (ms_op (ms_s_th σ 0)) (ms_ki (ms_s_th σ 0)).toNatClampNeg x1)))).toNatClampNeg 9))) (x := 9) hx hb hK hP (mD hd) hS 3 0 rfl rfl gi6 dX2_kind_69 (fun H locs hP _ hS => ?_)
      have hP : va_P D vwCl (MW cc ad (ms_s_to (ms_s_to (ms_s_op (ms_s_th σ 0) (upd (ms_op (ms_s_th σ 0)) (ms_ki (ms_s_th σ 0)).toNatClampNeg x1)) (upd (ms_to (ms_s_op (ms_s_th σ 0) (upd (ms_op (ms_s_th σ 0)) (ms_ki (ms_s_th σ 0)).toNatClampNeg x1))) (3 * (ms_ki (ms_s_op (ms_s_th σ 0) (upd (ms_op (ms_s_th σ 0)) (ms_ki (ms_s_th σ 0)).toNatClampNeg x1)))).toNatClampNeg 9)) (upd (ms_to (ms_s_to (ms_s_op (ms_s_th σ 0) (upd (ms_op (ms_s_th σ 0)) (ms_ki (ms_s_th σ 0)).toNatClampNeg x1)) (upd (ms_to (ms_s_op (ms_s_th σ 0) (upd (ms_op (ms_s_th σ 0)) (ms_ki (ms_s_th σ 0)).toNatClampNeg x1))) (3 * (ms_ki (ms_s_op (ms_s_th σ 0) (upd (ms_op (ms_s_th σ 0)) (ms_ki (ms_s_th σ 0)).toNatClampNeg x1)))).toNatClampNeg 9))) ((3 * (ms_ki (ms_s_to (ms_s_op (ms_s_th σ 0) (upd (ms_op (ms_s_th σ 0)) (ms_ki (ms_s_th σ 0)).toNatClampNeg x1)) (upd (ms_to (ms_s_op (ms_s_th σ 0) (upd (ms_op (ms_s_th σ 0)) (ms_ki (ms_s_th σ 0)).toNatClampNeg x1))) (3 * (ms_ki (ms_s_op (ms_s_th σ 0) (upd (ms_op (ms_s_th σ 0)) (ms_ki (ms_s_th σ 0)).toNatClampNeg x1)))).toNatClampNeg 9)))) + 1).toNatClampNeg 9))) H := hP
      refine lv_aload_n hx hb dX2_kind_70 rfl (lv_at hl 0 rfl) ?_
      refine va_get (D := D) (ci := 2) (v := .ref (ad 3)) (C := RX2) (T := TX2) (N := 21) hx hb hts hin hown hK hP 0 rfl rfl 4 (by decide) (hts (.fieldLink RX2 16 "ClassSheetsModel" "to" "[I") (List.mem_of_getElem? (i := 5) rfl)) (fun _ h9 => h9) rfl dX2_kind_71 ?_
      refine lv_iconst (v := 3) hx hb dX2_kind_74 (by decide) ?_
      refine lv_aload_n hx hb dX2_kind_75 rfl (lv_at hl 0 rfl) ?_
      refine va_get (D := D) (ci := 2) (v := .int (ms_ki (ms_s_to (ms_s_to (ms_s_op (ms_s_th σ 0) (upd (ms_op (ms_s_th σ 0)) (ms_ki (ms_s_th σ 0)).toNatClampNeg x1)) (upd (ms_to (ms_s_op (ms_s_th σ 0) (upd (ms_op (ms_s_th σ 0)) (ms_ki (ms_s_th σ 0)).toNatClampNeg x1))) (3 * (ms_ki (ms_s_op (ms_s_th σ 0) (upd (ms_op (ms_s_th σ 0)) (ms_ki (ms_s_th σ 0)).toNatClampNeg x1)))).toNatClampNeg 9)) (upd (ms_to (ms_s_to (ms_s_op (ms_s_th σ 0) (upd (ms_op (ms_s_th σ 0)) (ms_ki (ms_s_th σ 0)).toNatClampNeg x1)) (upd (ms_to (ms_s_op (ms_s_th σ 0) (upd (ms_op (ms_s_th σ 0)) (ms_ki (ms_s_th σ 0)).toNatClampNeg x1))) (3 * (ms_ki (ms_s_op (ms_s_th σ 0) (upd (ms_op (ms_s_th σ 0)) (ms_ki (ms_s_th σ 0)).toNatClampNeg x1)))).toNatClampNeg 9))) ((3 * (ms_ki (ms_s_to (ms_s_op (ms_s_th σ 0) (upd (ms_op (ms_s_th σ 0)) (ms_ki (ms_s_th σ 0)).toNatClampNeg x1)) (upd (ms_to (ms_s_op (ms_s_th σ 0) (upd (ms_op (ms_s_th σ 0)) (ms_ki (ms_s_th σ 0)).toNatClampNeg x1))) (3 * (ms_ki (ms_s_op (ms_s_th σ 0) (upd (ms_op (ms_s_th σ 0)) (ms_ki (ms_s_th σ 0)).toNatClampNeg x1)))).toNatClampNeg 9)))) + 1).toNatClampNeg 9)))) (C := RX2) (T := TX2) (N := 21) hx hb hts hin hown hK hP 0 rfl rfl 1 (by decide) (hts (.fieldLink RX2 62 "ClassSheetsModel" "kinds" "I") (List.mem_of_getElem? (i := 3) rfl)) (fun _ h9 => h9) rfl dX2_kind_76 ?_
      refine lv_imul hx hb dX2_kind_79 ?_
      refine lv_iconst (v := 2) hx hb dX2_kind_80 (by decide) ?_
      refine lv_iadd hx hb dX2_kind_81 ?_
      refine lv_sipush (v := 9999) hx hb dX2_kind_82 (by decide) ?_
      obtain ⟨gi7, h⟩ := h
      refine va_iast (D := D) (f := ms_to (ms_s_to (ms_s_to (ms_s_op (ms_s_th σ 0) (upd (ms_op (ms_s_th σ 0)) (ms_ki (ms_s_th σ 0)).toNatClampNeg x1)) (upd (ms_to (ms_s_op (ms_s_th σ 0) (upd (ms_op (ms_s_th σ 0)) (ms_ki (ms_s_th σ 0)).toNatClampNeg x1))) (3 * (ms_ki (ms_s_op (ms_s_th σ 0) (upd (ms_op (ms_s_th σ 0)) (ms_ki (ms_s_th σ 0)).toNatClampNeg x1)))).toNatClampNeg 9)) (upd (ms_to (ms_s_to (ms_s_op (ms_s_th σ 0) (upd (ms_op (ms_s_th σ 0)) (ms_ki (ms_s_th σ 0)).toNatClampNeg x1)) (upd (ms_to (ms_s_op (ms_s_th σ 0) (upd (ms_op (ms_s_th σ 0)) (ms_ki (ms_s_th σ 0)).toNatClampNeg x1))) (3 * (ms_ki (ms_s_op (ms_s_th σ 0) (upd (ms_op (ms_s_th σ 0)) (ms_ki (ms_s_th σ 0)).toNatClampNeg x1)))).toNatClampNeg 9))) ((3 * (ms_ki (ms_s_to (ms_s_op (ms_s_th σ 0) (upd (ms_op (ms_s_th σ 0)) (ms_ki (ms_s_th σ 0)).toNatClampNeg x1)) (upd (ms_to (ms_s_op (ms_s_th σ 0) (upd (ms_op (ms_s_th σ 0)) (ms_ki (ms_s_th σ 0)).toNatClampNeg x1))) (3 * (ms_ki (ms_s_op (ms_s_th σ 0) (upd (ms_op (ms_s_th σ 0)) (ms_ki (ms_s_th σ 0)).toNatClampNeg x1)))).toNatClampNeg 9)))) + 1).toNatClampNeg 9))) (x := 9999) hx hb hK hP (mD hd) hS 3 0 rfl rfl gi7 dX2_kind_85 (fun H locs hP _ hS => ?_)
      have hP : va_P D vwCl (MW cc ad (ms_s_to (ms_s_to (ms_s_to (ms_s_op (ms_s_th σ 0) (upd (ms_op (ms_s_th σ 0)) (ms_ki (ms_s_th σ 0)).toNatClampNeg x1)) (upd (ms_to (ms_s_op (ms_s_th σ 0) (upd (ms_op (ms_s_th σ 0)) (ms_ki (ms_s_th σ 0)).toNatClampNeg x1))) (3 * (ms_ki (ms_s_op (ms_s_th σ 0) (upd (ms_op (ms_s_th σ 0)) (ms_ki (ms_s_th σ 0)).toNatClampNeg x1)))).toNatClampNeg 9)) (upd (ms_to (ms_s_to (ms_s_op (ms_s_th σ 0) (upd (ms_op (ms_s_th σ 0)) (ms_ki (ms_s_th σ 0)).toNatClampNeg x1)) (upd (ms_to (ms_s_op (ms_s_th σ 0) (upd (ms_op (ms_s_th σ 0)) (ms_ki (ms_s_th σ 0)).toNatClampNeg x1))) (3 * (ms_ki (ms_s_op (ms_s_th σ 0) (upd (ms_op (ms_s_th σ 0)) (ms_ki (ms_s_th σ 0)).toNatClampNeg x1)))).toNatClampNeg 9))) ((3 * (ms_ki (ms_s_to (ms_s_op (ms_s_th σ 0) (upd (ms_op (ms_s_th σ 0)) (ms_ki (ms_s_th σ 0)).toNatClampNeg x1)) (upd (ms_to (ms_s_op (ms_s_th σ 0) (upd (ms_op (ms_s_th σ 0)) (ms_ki (ms_s_th σ 0)).toNatClampNeg x1))) (3 * (ms_ki (ms_s_op (ms_s_th σ 0) (upd (ms_op (ms_s_th σ 0)) (ms_ki (ms_s_th σ 0)).toNatClampNeg x1)))).toNatClampNeg 9)))) + 1).toNatClampNeg 9)) (upd (ms_to (ms_s_to (ms_s_to (ms_s_op (ms_s_th σ 0) (upd (ms_op (ms_s_th σ 0)) (ms_ki (ms_s_th σ 0)).toNatClampNeg x1)) (upd (ms_to (ms_s_op (ms_s_th σ 0) (upd (ms_op (ms_s_th σ 0)) (ms_ki (ms_s_th σ 0)).toNatClampNeg x1))) (3 * (ms_ki (ms_s_op (ms_s_th σ 0) (upd (ms_op (ms_s_th σ 0)) (ms_ki (ms_s_th σ 0)).toNatClampNeg x1)))).toNatClampNeg 9)) (upd (ms_to (ms_s_to (ms_s_op (ms_s_th σ 0) (upd (ms_op (ms_s_th σ 0)) (ms_ki (ms_s_th σ 0)).toNatClampNeg x1)) (upd (ms_to (ms_s_op (ms_s_th σ 0) (upd (ms_op (ms_s_th σ 0)) (ms_ki (ms_s_th σ 0)).toNatClampNeg x1))) (3 * (ms_ki (ms_s_op (ms_s_th σ 0) (upd (ms_op (ms_s_th σ 0)) (ms_ki (ms_s_th σ 0)).toNatClampNeg x1)))).toNatClampNeg 9))) ((3 * (ms_ki (ms_s_to (ms_s_op (ms_s_th σ 0) (upd (ms_op (ms_s_th σ 0)) (ms_ki (ms_s_th σ 0)).toNatClampNeg x1)) (upd (ms_to (ms_s_op (ms_s_th σ 0) (upd (ms_op (ms_s_th σ 0)) (ms_ki (ms_s_th σ 0)).toNatClampNeg x1))) (3 * (ms_ki (ms_s_op (ms_s_th σ 0) (upd (ms_op (ms_s_th σ 0)) (ms_ki (ms_s_th σ 0)).toNatClampNeg x1)))).toNatClampNeg 9)))) + 1).toNatClampNeg 9))) ((3 * (ms_ki (ms_s_to (ms_s_to (ms_s_op (ms_s_th σ 0) (upd (ms_op (ms_s_th σ 0)) (ms_ki (ms_s_th σ 0)).toNatClampNeg x1)) (upd (ms_to (ms_s_op (ms_s_th σ 0) (upd (ms_op (ms_s_th σ 0)) (ms_ki (ms_s_th σ 0)).toNatClampNeg x1))) (3 * (ms_ki (ms_s_op (ms_s_th σ 0) (upd (ms_op (ms_s_th σ 0)) (ms_ki (ms_s_th σ 0)).toNatClampNeg x1)))).toNatClampNeg 9)) (upd (ms_to (ms_s_to (ms_s_op (ms_s_th σ 0) (upd (ms_op (ms_s_th σ 0)) (ms_ki (ms_s_th σ 0)).toNatClampNeg x1)) (upd (ms_to (ms_s_op (ms_s_th σ 0) (upd (ms_op (ms_s_th σ 0)) (ms_ki (ms_s_th σ 0)).toNatClampNeg x1))) (3 * (ms_ki (ms_s_op (ms_s_th σ 0) (upd (ms_op (ms_s_th σ 0)) (ms_ki (ms_s_th σ 0)).toNatClampNeg x1)))).toNatClampNeg 9))) ((3 * (ms_ki (ms_s_to (ms_s_op (ms_s_th σ 0) (upd (ms_op (ms_s_th σ 0)) (ms_ki (ms_s_th σ 0)).toNatClampNeg x1)) (upd (ms_to (ms_s_op (ms_s_th σ 0) (upd (ms_op (ms_s_th σ 0)) (ms_ki (ms_s_th σ 0)).toNatClampNeg x1))) (3 * (ms_ki (ms_s_op (ms_s_th σ 0) (upd (ms_op (ms_s_th σ 0)) (ms_ki (ms_s_th σ 0)).toNatClampNeg x1)))).toNatClampNeg 9)))) + 1).toNatClampNeg 9)))) + 2).toNatClampNeg 9999))) H := hP
      refine lv_aload_n hx hb dX2_kind_86 rfl (lv_at hl 0 rfl) ?_
      refine va_get (D := D) (ci := 2) (v := .ref (ad 5)) (C := RX2) (T := TX2) (N := 21) hx hb hts hin hown hK hP 0 rfl rfl 6 (by decide) (hts (.fieldLink RX2 22 "ClassSheetsModel" "takes" "[I") (List.mem_of_getElem? (i := 6) rfl)) (fun _ h9 => h9) rfl dX2_kind_87 ?_
      refine lv_aload_n hx hb dX2_kind_90 rfl (lv_at hl 0 rfl) ?_
      refine va_get (D := D) (ci := 2) (v := .int (ms_ki (ms_s_to (ms_s_to (ms_s_to (ms_s_op (ms_s_th σ 0) (upd (ms_op (ms_s_th σ 0)) (ms_ki (ms_s_th σ 0)).toNatClampNeg x1)) (upd (ms_to (ms_s_op (ms_s_th σ 0) (upd (ms_op (ms_s_th σ 0)) (ms_ki (ms_s_th σ 0)).toNatClampNeg x1))) (3 * (ms_ki (ms_s_op (ms_s_th σ 0) (upd (ms_op (ms_s_th σ 0)) (ms_ki (ms_s_th σ 0)).toNatClampNeg x1)))).toNatClampNeg 9)) (upd (ms_to (ms_s_to (ms_s_op (ms_s_th σ 0) (upd (ms_op (ms_s_th σ 0)) (ms_ki (ms_s_th σ 0)).toNatClampNeg x1)) (upd (ms_to (ms_s_op (ms_s_th σ 0) (upd (ms_op (ms_s_th σ 0)) (ms_ki (ms_s_th σ 0)).toNatClampNeg x1))) (3 * (ms_ki (ms_s_op (ms_s_th σ 0) (upd (ms_op (ms_s_th σ 0)) (ms_ki (ms_s_th σ 0)).toNatClampNeg x1)))).toNatClampNeg 9))) ((3 * (ms_ki (ms_s_to (ms_s_op (ms_s_th σ 0) (upd (ms_op (ms_s_th σ 0)) (ms_ki (ms_s_th σ 0)).toNatClampNeg x1)) (upd (ms_to (ms_s_op (ms_s_th σ 0) (upd (ms_op (ms_s_th σ 0)) (ms_ki (ms_s_th σ 0)).toNatClampNeg x1))) (3 * (ms_ki (ms_s_op (ms_s_th σ 0) (upd (ms_op (ms_s_th σ 0)) (ms_ki (ms_s_th σ 0)).toNatClampNeg x1)))).toNatClampNeg 9)))) + 1).toNatClampNeg 9)) (upd (ms_to (ms_s_to (ms_s_to (ms_s_op (ms_s_th σ 0) (upd (ms_op (ms_s_th σ 0)) (ms_ki (ms_s_th σ 0)).toNatClampNeg x1)) (upd (ms_to (ms_s_op (ms_s_th σ 0) (upd (ms_op (ms_s_th σ 0)) (ms_ki (ms_s_th σ 0)).toNatClampNeg x1))) (3 * (ms_ki (ms_s_op (ms_s_th σ 0) (upd (ms_op (ms_s_th σ 0)) (ms_ki (ms_s_th σ 0)).toNatClampNeg x1)))).toNatClampNeg 9)) (upd (ms_to (ms_s_to (ms_s_op (ms_s_th σ 0) (upd (ms_op (ms_s_th σ 0)) (ms_ki (ms_s_th σ 0)).toNatClampNeg x1)) (upd (ms_to (ms_s_op (ms_s_th σ 0) (upd (ms_op (ms_s_th σ 0)) (ms_ki (ms_s_th σ 0)).toNatClampNeg x1))) (3 * (ms_ki (ms_s_op (ms_s_th σ 0) (upd (ms_op (ms_s_th σ 0)) (ms_ki (ms_s_th σ 0)).toNatClampNeg x1)))).toNatClampNeg 9))) ((3 * (ms_ki (ms_s_to (ms_s_op (ms_s_th σ 0) (upd (ms_op (ms_s_th σ 0)) (ms_ki (ms_s_th σ 0)).toNatClampNeg x1)) (upd (ms_to (ms_s_op (ms_s_th σ 0) (upd (ms_op (ms_s_th σ 0)) (ms_ki (ms_s_th σ 0)).toNatClampNeg x1))) (3 * (ms_ki (ms_s_op (ms_s_th σ 0) (upd (ms_op (ms_s_th σ 0)) (ms_ki (ms_s_th σ 0)).toNatClampNeg x1)))).toNatClampNeg 9)))) + 1).toNatClampNeg 9))) ((3 * (ms_ki (ms_s_to (ms_s_to (ms_s_op (ms_s_th σ 0) (upd (ms_op (ms_s_th σ 0)) (ms_ki (ms_s_th σ 0)).toNatClampNeg x1)) (upd (ms_to (ms_s_op (ms_s_th σ 0) (upd (ms_op (ms_s_th σ 0)) (ms_ki (ms_s_th σ 0)).toNatClampNeg x1))) (3 * (ms_ki (ms_s_op (ms_s_th σ 0) (upd (ms_op (ms_s_th σ 0)) (ms_ki (ms_s_th σ 0)).toNatClampNeg x1)))).toNatClampNeg 9)) (upd (ms_to (ms_s_to (ms_s_op (ms_s_th σ 0) (upd (ms_op (ms_s_th σ 0)) (ms_ki (ms_s_th σ 0)).toNatClampNeg x1)) (upd (ms_to (ms_s_op (ms_s_th σ 0) (upd (ms_op (ms_s_th σ 0)) (ms_ki (ms_s_th σ 0)).toNatClampNeg x1))) (3 * (ms_ki (ms_s_op (ms_s_th σ 0) (upd (ms_op (ms_s_th σ 0)) (ms_ki (ms_s_th σ 0)).toNatClampNeg x1)))).toNatClampNeg 9))) ((3 * (ms_ki (ms_s_to (ms_s_op (ms_s_th σ 0) (upd (ms_op (ms_s_th σ 0)) (ms_ki (ms_s_th σ 0)).toNatClampNeg x1)) (upd (ms_to (ms_s_op (ms_s_th σ 0) (upd (ms_op (ms_s_th σ 0)) (ms_ki (ms_s_th σ 0)).toNatClampNeg x1))) (3 * (ms_ki (ms_s_op (ms_s_th σ 0) (upd (ms_op (ms_s_th σ 0)) (ms_ki (ms_s_th σ 0)).toNatClampNeg x1)))).toNatClampNeg 9)))) + 1).toNatClampNeg 9)))) + 2).toNatClampNeg 9999)))) (C := RX2) (T := TX2) (N := 21) hx hb hts hin hown hK hP 0 rfl rfl 1 (by decide) (hts (.fieldLink RX2 62 "ClassSheetsModel" "kinds" "I") (List.mem_of_getElem? (i := 3) rfl)) (fun _ h9 => h9) rfl dX2_kind_91 ?_
      refine lv_iconst (v := 1) hx hb dX2_kind_94 (by decide) ?_
      obtain ⟨gi8, h⟩ := h
      refine va_iast (D := D) (f := ms_ta (ms_s_to (ms_s_to (ms_s_to (ms_s_op (ms_s_th σ 0) (upd (ms_op (ms_s_th σ 0)) (ms_ki (ms_s_th σ 0)).toNatClampNeg x1)) (upd (ms_to (ms_s_op (ms_s_th σ 0) (upd (ms_op (ms_s_th σ 0)) (ms_ki (ms_s_th σ 0)).toNatClampNeg x1))) (3 * (ms_ki (ms_s_op (ms_s_th σ 0) (upd (ms_op (ms_s_th σ 0)) (ms_ki (ms_s_th σ 0)).toNatClampNeg x1)))).toNatClampNeg 9)) (upd (ms_to (ms_s_to (ms_s_op (ms_s_th σ 0) (upd (ms_op (ms_s_th σ 0)) (ms_ki (ms_s_th σ 0)).toNatClampNeg x1)) (upd (ms_to (ms_s_op (ms_s_th σ 0) (upd (ms_op (ms_s_th σ 0)) (ms_ki (ms_s_th σ 0)).toNatClampNeg x1))) (3 * (ms_ki (ms_s_op (ms_s_th σ 0) (upd (ms_op (ms_s_th σ 0)) (ms_ki (ms_s_th σ 0)).toNatClampNeg x1)))).toNatClampNeg 9))) ((3 * (ms_ki (ms_s_to (ms_s_op (ms_s_th σ 0) (upd (ms_op (ms_s_th σ 0)) (ms_ki (ms_s_th σ 0)).toNatClampNeg x1)) (upd (ms_to (ms_s_op (ms_s_th σ 0) (upd (ms_op (ms_s_th σ 0)) (ms_ki (ms_s_th σ 0)).toNatClampNeg x1))) (3 * (ms_ki (ms_s_op (ms_s_th σ 0) (upd (ms_op (ms_s_th σ 0)) (ms_ki (ms_s_th σ 0)).toNatClampNeg x1)))).toNatClampNeg 9)))) + 1).toNatClampNeg 9)) (upd (ms_to (ms_s_to (ms_s_to (ms_s_op (ms_s_th σ 0) (upd (ms_op (ms_s_th σ 0)) (ms_ki (ms_s_th σ 0)).toNatClampNeg x1)) (upd (ms_to (ms_s_op (ms_s_th σ 0) (upd (ms_op (ms_s_th σ 0)) (ms_ki (ms_s_th σ 0)).toNatClampNeg x1))) (3 * (ms_ki (ms_s_op (ms_s_th σ 0) (upd (ms_op (ms_s_th σ 0)) (ms_ki (ms_s_th σ 0)).toNatClampNeg x1)))).toNatClampNeg 9)) (upd (ms_to (ms_s_to (ms_s_op (ms_s_th σ 0) (upd (ms_op (ms_s_th σ 0)) (ms_ki (ms_s_th σ 0)).toNatClampNeg x1)) (upd (ms_to (ms_s_op (ms_s_th σ 0) (upd (ms_op (ms_s_th σ 0)) (ms_ki (ms_s_th σ 0)).toNatClampNeg x1))) (3 * (ms_ki (ms_s_op (ms_s_th σ 0) (upd (ms_op (ms_s_th σ 0)) (ms_ki (ms_s_th σ 0)).toNatClampNeg x1)))).toNatClampNeg 9))) ((3 * (ms_ki (ms_s_to (ms_s_op (ms_s_th σ 0) (upd (ms_op (ms_s_th σ 0)) (ms_ki (ms_s_th σ 0)).toNatClampNeg x1)) (upd (ms_to (ms_s_op (ms_s_th σ 0) (upd (ms_op (ms_s_th σ 0)) (ms_ki (ms_s_th σ 0)).toNatClampNeg x1))) (3 * (ms_ki (ms_s_op (ms_s_th σ 0) (upd (ms_op (ms_s_th σ 0)) (ms_ki (ms_s_th σ 0)).toNatClampNeg x1)))).toNatClampNeg 9)))) + 1).toNatClampNeg 9))) ((3 * (ms_ki (ms_s_to (ms_s_to (ms_s_op (ms_s_th σ 0) (upd (ms_op (ms_s_th σ 0)) (ms_ki (ms_s_th σ 0)).toNatClampNeg x1)) (upd (ms_to (ms_s_op (ms_s_th σ 0) (upd (ms_op (ms_s_th σ 0)) (ms_ki (ms_s_th σ 0)).toNatClampNeg x1))) (3 * (ms_ki (ms_s_op (ms_s_th σ 0) (upd (ms_op (ms_s_th σ 0)) (ms_ki (ms_s_th σ 0)).toNatClampNeg x1)))).toNatClampNeg 9)) (upd (ms_to (ms_s_to (ms_s_op (ms_s_th σ 0) (upd (ms_op (ms_s_th σ 0)) (ms_ki (ms_s_th σ 0)).toNatClampNeg x1)) (upd (ms_to (ms_s_op (ms_s_th σ 0) (upd (ms_op (ms_s_th σ 0)) (ms_ki (ms_s_th σ 0)).toNatClampNeg x1))) (3 * (ms_ki (ms_s_op (ms_s_th σ 0) (upd (ms_op (ms_s_th σ 0)) (ms_ki (ms_s_th σ 0)).toNatClampNeg x1)))).toNatClampNeg 9))) ((3 * (ms_ki (ms_s_to (ms_s_op (ms_s_th σ 0) (upd (ms_op (ms_s_th σ 0)) (ms_ki (ms_s_th σ 0)).toNatClampNeg x1)) (upd (ms_to (ms_s_op (ms_s_th σ 0) (upd (ms_op (ms_s_th σ 0)) (ms_ki (ms_s_th σ 0)).toNatClampNeg x1))) (3 * (ms_ki (ms_s_op (ms_s_th σ 0) (upd (ms_op (ms_s_th σ 0)) (ms_ki (ms_s_th σ 0)).toNatClampNeg x1)))).toNatClampNeg 9)))) + 1).toNatClampNeg 9)))) + 2).toNatClampNeg 9999))) (x := 1) hx hb hK hP (mD hd) hS 5 0 rfl rfl gi8 dX2_kind_95 (fun H locs hP _ hS => ?_)
      have hP : va_P D vwCl (MW cc ad (ms_s_ta (ms_s_to (ms_s_to (ms_s_to (ms_s_op (ms_s_th σ 0) (upd (ms_op (ms_s_th σ 0)) (ms_ki (ms_s_th σ 0)).toNatClampNeg x1)) (upd (ms_to (ms_s_op (ms_s_th σ 0) (upd (ms_op (ms_s_th σ 0)) (ms_ki (ms_s_th σ 0)).toNatClampNeg x1))) (3 * (ms_ki (ms_s_op (ms_s_th σ 0) (upd (ms_op (ms_s_th σ 0)) (ms_ki (ms_s_th σ 0)).toNatClampNeg x1)))).toNatClampNeg 9)) (upd (ms_to (ms_s_to (ms_s_op (ms_s_th σ 0) (upd (ms_op (ms_s_th σ 0)) (ms_ki (ms_s_th σ 0)).toNatClampNeg x1)) (upd (ms_to (ms_s_op (ms_s_th σ 0) (upd (ms_op (ms_s_th σ 0)) (ms_ki (ms_s_th σ 0)).toNatClampNeg x1))) (3 * (ms_ki (ms_s_op (ms_s_th σ 0) (upd (ms_op (ms_s_th σ 0)) (ms_ki (ms_s_th σ 0)).toNatClampNeg x1)))).toNatClampNeg 9))) ((3 * (ms_ki (ms_s_to (ms_s_op (ms_s_th σ 0) (upd (ms_op (ms_s_th σ 0)) (ms_ki (ms_s_th σ 0)).toNatClampNeg x1)) (upd (ms_to (ms_s_op (ms_s_th σ 0) (upd (ms_op (ms_s_th σ 0)) (ms_ki (ms_s_th σ 0)).toNatClampNeg x1))) (3 * (ms_ki (ms_s_op (ms_s_th σ 0) (upd (ms_op (ms_s_th σ 0)) (ms_ki (ms_s_th σ 0)).toNatClampNeg x1)))).toNatClampNeg 9)))) + 1).toNatClampNeg 9)) (upd (ms_to (ms_s_to (ms_s_to (ms_s_op (ms_s_th σ 0) (upd (ms_op (ms_s_th σ 0)) (ms_ki (ms_s_th σ 0)).toNatClampNeg x1)) (upd (ms_to (ms_s_op (ms_s_th σ 0) (upd (ms_op (ms_s_th σ 0)) (ms_ki (ms_s_th σ 0)).toNatClampNeg x1))) (3 * (ms_ki (ms_s_op (ms_s_th σ 0) (upd (ms_op (ms_s_th σ 0)) (ms_ki (ms_s_th σ 0)).toNatClampNeg x1)))).toNatClampNeg 9)) (upd (ms_to (ms_s_to (ms_s_op (ms_s_th σ 0) (upd (ms_op (ms_s_th σ 0)) (ms_ki (ms_s_th σ 0)).toNatClampNeg x1)) (upd (ms_to (ms_s_op (ms_s_th σ 0) (upd (ms_op (ms_s_th σ 0)) (ms_ki (ms_s_th σ 0)).toNatClampNeg x1))) (3 * (ms_ki (ms_s_op (ms_s_th σ 0) (upd (ms_op (ms_s_th σ 0)) (ms_ki (ms_s_th σ 0)).toNatClampNeg x1)))).toNatClampNeg 9))) ((3 * (ms_ki (ms_s_to (ms_s_op (ms_s_th σ 0) (upd (ms_op (ms_s_th σ 0)) (ms_ki (ms_s_th σ 0)).toNatClampNeg x1)) (upd (ms_to (ms_s_op (ms_s_th σ 0) (upd (ms_op (ms_s_th σ 0)) (ms_ki (ms_s_th σ 0)).toNatClampNeg x1))) (3 * (ms_ki (ms_s_op (ms_s_th σ 0) (upd (ms_op (ms_s_th σ 0)) (ms_ki (ms_s_th σ 0)).toNatClampNeg x1)))).toNatClampNeg 9)))) + 1).toNatClampNeg 9))) ((3 * (ms_ki (ms_s_to (ms_s_to (ms_s_op (ms_s_th σ 0) (upd (ms_op (ms_s_th σ 0)) (ms_ki (ms_s_th σ 0)).toNatClampNeg x1)) (upd (ms_to (ms_s_op (ms_s_th σ 0) (upd (ms_op (ms_s_th σ 0)) (ms_ki (ms_s_th σ 0)).toNatClampNeg x1))) (3 * (ms_ki (ms_s_op (ms_s_th σ 0) (upd (ms_op (ms_s_th σ 0)) (ms_ki (ms_s_th σ 0)).toNatClampNeg x1)))).toNatClampNeg 9)) (upd (ms_to (ms_s_to (ms_s_op (ms_s_th σ 0) (upd (ms_op (ms_s_th σ 0)) (ms_ki (ms_s_th σ 0)).toNatClampNeg x1)) (upd (ms_to (ms_s_op (ms_s_th σ 0) (upd (ms_op (ms_s_th σ 0)) (ms_ki (ms_s_th σ 0)).toNatClampNeg x1))) (3 * (ms_ki (ms_s_op (ms_s_th σ 0) (upd (ms_op (ms_s_th σ 0)) (ms_ki (ms_s_th σ 0)).toNatClampNeg x1)))).toNatClampNeg 9))) ((3 * (ms_ki (ms_s_to (ms_s_op (ms_s_th σ 0) (upd (ms_op (ms_s_th σ 0)) (ms_ki (ms_s_th σ 0)).toNatClampNeg x1)) (upd (ms_to (ms_s_op (ms_s_th σ 0) (upd (ms_op (ms_s_th σ 0)) (ms_ki (ms_s_th σ 0)).toNatClampNeg x1))) (3 * (ms_ki (ms_s_op (ms_s_th σ 0) (upd (ms_op (ms_s_th σ 0)) (ms_ki (ms_s_th σ 0)).toNatClampNeg x1)))).toNatClampNeg 9)))) + 1).toNatClampNeg 9)))) + 2).toNatClampNeg 9999)) (upd (ms_ta (ms_s_to (ms_s_to (ms_s_to (ms_s_op (ms_s_th σ 0) (upd (ms_op (ms_s_th σ 0)) (ms_ki (ms_s_th σ 0)).toNatClampNeg x1)) (upd (ms_to (ms_s_op (ms_s_th σ 0) (upd (ms_op (ms_s_th σ 0)) (ms_ki (ms_s_th σ 0)).toNatClampNeg x1))) (3 * (ms_ki (ms_s_op (ms_s_th σ 0) (upd (ms_op (ms_s_th σ 0)) (ms_ki (ms_s_th σ 0)).toNatClampNeg x1)))).toNatClampNeg 9)) (upd (ms_to (ms_s_to (ms_s_op (ms_s_th σ 0) (upd (ms_op (ms_s_th σ 0)) (ms_ki (ms_s_th σ 0)).toNatClampNeg x1)) (upd (ms_to (ms_s_op (ms_s_th σ 0) (upd (ms_op (ms_s_th σ 0)) (ms_ki (ms_s_th σ 0)).toNatClampNeg x1))) (3 * (ms_ki (ms_s_op (ms_s_th σ 0) (upd (ms_op (ms_s_th σ 0)) (ms_ki (ms_s_th σ 0)).toNatClampNeg x1)))).toNatClampNeg 9))) ((3 * (ms_ki (ms_s_to (ms_s_op (ms_s_th σ 0) (upd (ms_op (ms_s_th σ 0)) (ms_ki (ms_s_th σ 0)).toNatClampNeg x1)) (upd (ms_to (ms_s_op (ms_s_th σ 0) (upd (ms_op (ms_s_th σ 0)) (ms_ki (ms_s_th σ 0)).toNatClampNeg x1))) (3 * (ms_ki (ms_s_op (ms_s_th σ 0) (upd (ms_op (ms_s_th σ 0)) (ms_ki (ms_s_th σ 0)).toNatClampNeg x1)))).toNatClampNeg 9)))) + 1).toNatClampNeg 9)) (upd (ms_to (ms_s_to (ms_s_to (ms_s_op (ms_s_th σ 0) (upd (ms_op (ms_s_th σ 0)) (ms_ki (ms_s_th σ 0)).toNatClampNeg x1)) (upd (ms_to (ms_s_op (ms_s_th σ 0) (upd (ms_op (ms_s_th σ 0)) (ms_ki (ms_s_th σ 0)).toNatClampNeg x1))) (3 * (ms_ki (ms_s_op (ms_s_th σ 0) (upd (ms_op (ms_s_th σ 0)) (ms_ki (ms_s_th σ 0)).toNatClampNeg x1)))).toNatClampNeg 9)) (upd (ms_to (ms_s_to (ms_s_op (ms_s_th σ 0) (upd (ms_op (ms_s_th σ 0)) (ms_ki (ms_s_th σ 0)).toNatClampNeg x1)) (upd (ms_to (ms_s_op (ms_s_th σ 0) (upd (ms_op (ms_s_th σ 0)) (ms_ki (ms_s_th σ 0)).toNatClampNeg x1))) (3 * (ms_ki (ms_s_op (ms_s_th σ 0) (upd (ms_op (ms_s_th σ 0)) (ms_ki (ms_s_th σ 0)).toNatClampNeg x1)))).toNatClampNeg 9))) ((3 * (ms_ki (ms_s_to (ms_s_op (ms_s_th σ 0) (upd (ms_op (ms_s_th σ 0)) (ms_ki (ms_s_th σ 0)).toNatClampNeg x1)) (upd (ms_to (ms_s_op (ms_s_th σ 0) (upd (ms_op (ms_s_th σ 0)) (ms_ki (ms_s_th σ 0)).toNatClampNeg x1))) (3 * (ms_ki (ms_s_op (ms_s_th σ 0) (upd (ms_op (ms_s_th σ 0)) (ms_ki (ms_s_th σ 0)).toNatClampNeg x1)))).toNatClampNeg 9)))) + 1).toNatClampNeg 9))) ((3 * (ms_ki (ms_s_to (ms_s_to (ms_s_op (ms_s_th σ 0) (upd (ms_op (ms_s_th σ 0)) (ms_ki (ms_s_th σ 0)).toNatClampNeg x1)) (upd (ms_to (ms_s_op (ms_s_th σ 0) (upd (ms_op (ms_s_th σ 0)) (ms_ki (ms_s_th σ 0)).toNatClampNeg x1))) (3 * (ms_ki (ms_s_op (ms_s_th σ 0) (upd (ms_op (ms_s_th σ 0)) (ms_ki (ms_s_th σ 0)).toNatClampNeg x1)))).toNatClampNeg 9)) (upd (ms_to (ms_s_to (ms_s_op (ms_s_th σ 0) (upd (ms_op (ms_s_th σ 0)) (ms_ki (ms_s_th σ 0)).toNatClampNeg x1)) (upd (ms_to (ms_s_op (ms_s_th σ 0) (upd (ms_op (ms_s_th σ 0)) (ms_ki (ms_s_th σ 0)).toNatClampNeg x1))) (3 * (ms_ki (ms_s_op (ms_s_th σ 0) (upd (ms_op (ms_s_th σ 0)) (ms_ki (ms_s_th σ 0)).toNatClampNeg x1)))).toNatClampNeg 9))) ((3 * (ms_ki (ms_s_to (ms_s_op (ms_s_th σ 0) (upd (ms_op (ms_s_th σ 0)) (ms_ki (ms_s_th σ 0)).toNatClampNeg x1)) (upd (ms_to (ms_s_op (ms_s_th σ 0) (upd (ms_op (ms_s_th σ 0)) (ms_ki (ms_s_th σ 0)).toNatClampNeg x1))) (3 * (ms_ki (ms_s_op (ms_s_th σ 0) (upd (ms_op (ms_s_th σ 0)) (ms_ki (ms_s_th σ 0)).toNatClampNeg x1)))).toNatClampNeg 9)))) + 1).toNatClampNeg 9)))) + 2).toNatClampNeg 9999))) (ms_ki (ms_s_to (ms_s_to (ms_s_to (ms_s_op (ms_s_th σ 0) (upd (ms_op (ms_s_th σ 0)) (ms_ki (ms_s_th σ 0)).toNatClampNeg x1)) (upd (ms_to (ms_s_op (ms_s_th σ 0) (upd (ms_op (ms_s_th σ 0)) (ms_ki (ms_s_th σ 0)).toNatClampNeg x1))) (3 * (ms_ki (ms_s_op (ms_s_th σ 0) (upd (ms_op (ms_s_th σ 0)) (ms_ki (ms_s_th σ 0)).toNatClampNeg x1)))).toNatClampNeg 9)) (upd (ms_to (ms_s_to (ms_s_op (ms_s_th σ 0) (upd (ms_op (ms_s_th σ 0)) (ms_ki (ms_s_th σ 0)).toNatClampNeg x1)) (upd (ms_to (ms_s_op (ms_s_th σ 0) (upd (ms_op (ms_s_th σ 0)) (ms_ki (ms_s_th σ 0)).toNatClampNeg x1))) (3 * (ms_ki (ms_s_op (ms_s_th σ 0) (upd (ms_op (ms_s_th σ 0)) (ms_ki (ms_s_th σ 0)).toNatClampNeg x1)))).toNatClampNeg 9))) ((3 * (ms_ki (ms_s_to (ms_s_op (ms_s_th σ 0) (upd (ms_op (ms_s_th σ 0)) (ms_ki (ms_s_th σ 0)).toNatClampNeg x1)) (upd (ms_to (ms_s_op (ms_s_th σ 0) (upd (ms_op (ms_s_th σ 0)) (ms_ki (ms_s_th σ 0)).toNatClampNeg x1))) (3 * (ms_ki (ms_s_op (ms_s_th σ 0) (upd (ms_op (ms_s_th σ 0)) (ms_ki (ms_s_th σ 0)).toNatClampNeg x1)))).toNatClampNeg 9)))) + 1).toNatClampNeg 9)) (upd (ms_to (ms_s_to (ms_s_to (ms_s_op (ms_s_th σ 0) (upd (ms_op (ms_s_th σ 0)) (ms_ki (ms_s_th σ 0)).toNatClampNeg x1)) (upd (ms_to (ms_s_op (ms_s_th σ 0) (upd (ms_op (ms_s_th σ 0)) (ms_ki (ms_s_th σ 0)).toNatClampNeg x1))) (3 * (ms_ki (ms_s_op (ms_s_th σ 0) (upd (ms_op (ms_s_th σ 0)) (ms_ki (ms_s_th σ 0)).toNatClampNeg x1)))).toNatClampNeg 9)) (upd (ms_to (ms_s_to (ms_s_op (ms_s_th σ 0) (upd (ms_op (ms_s_th σ 0)) (ms_ki (ms_s_th σ 0)).toNatClampNeg x1)) (upd (ms_to (ms_s_op (ms_s_th σ 0) (upd (ms_op (ms_s_th σ 0)) (ms_ki (ms_s_th σ 0)).toNatClampNeg x1))) (3 * (ms_ki (ms_s_op (ms_s_th σ 0) (upd (ms_op (ms_s_th σ 0)) (ms_ki (ms_s_th σ 0)).toNatClampNeg x1)))).toNatClampNeg 9))) ((3 * (ms_ki (ms_s_to (ms_s_op (ms_s_th σ 0) (upd (ms_op (ms_s_th σ 0)) (ms_ki (ms_s_th σ 0)).toNatClampNeg x1)) (upd (ms_to (ms_s_op (ms_s_th σ 0) (upd (ms_op (ms_s_th σ 0)) (ms_ki (ms_s_th σ 0)).toNatClampNeg x1))) (3 * (ms_ki (ms_s_op (ms_s_th σ 0) (upd (ms_op (ms_s_th σ 0)) (ms_ki (ms_s_th σ 0)).toNatClampNeg x1)))).toNatClampNeg 9)))) + 1).toNatClampNeg 9))) ((3 * (ms_ki (ms_s_to (ms_s_to (ms_s_op (ms_s_th σ 0) (upd (ms_op (ms_s_th σ 0)) (ms_ki (ms_s_th σ 0)).toNatClampNeg x1)) (upd (ms_to (ms_s_op (ms_s_th σ 0) (upd (ms_op (ms_s_th σ 0)) (ms_ki (ms_s_th σ 0)).toNatClampNeg x1))) (3 * (ms_ki (ms_s_op (ms_s_th σ 0) (upd (ms_op (ms_s_th σ 0)) (ms_ki (ms_s_th σ 0)).toNatClampNeg x1)))).toNatClampNeg 9)) (upd (ms_to (ms_s_to (ms_s_op (ms_s_th σ 0) (upd (ms_op (ms_s_th σ 0)) (ms_ki (ms_s_th σ 0)).toNatClampNeg x1)) (upd (ms_to (ms_s_op (ms_s_th σ 0) (upd (ms_op (ms_s_th σ 0)) (ms_ki (ms_s_th σ 0)).toNatClampNeg x1))) (3 * (ms_ki (ms_s_op (ms_s_th σ 0) (upd (ms_op (ms_s_th σ 0)) (ms_ki (ms_s_th σ 0)).toNatClampNeg x1)))).toNatClampNeg 9))) ((3 * (ms_ki (ms_s_to (ms_s_op (ms_s_th σ 0) (upd (ms_op (ms_s_th σ 0)) (ms_ki (ms_s_th σ 0)).toNatClampNeg x1)) (upd (ms_to (ms_s_op (ms_s_th σ 0) (upd (ms_op (ms_s_th σ 0)) (ms_ki (ms_s_th σ 0)).toNatClampNeg x1))) (3 * (ms_ki (ms_s_op (ms_s_th σ 0) (upd (ms_op (ms_s_th σ 0)) (ms_ki (ms_s_th σ 0)).toNatClampNeg x1)))).toNatClampNeg 9)))) + 1).toNatClampNeg 9)))) + 2).toNatClampNeg 9999))).toNatClampNeg 1))) H := hP
      refine lv_aload_n hx hb dX2_kind_96 rfl (lv_at hl 0 rfl) ?_
      refine lv_dup hx hb dX2_kind_97 rfl ?_
      refine va_get (D := D) (ci := 2) (v := .int (ms_ki (ms_s_ta (ms_s_to (ms_s_to (ms_s_to (ms_s_op (ms_s_th σ 0) (upd (ms_op (ms_s_th σ 0)) (ms_ki (ms_s_th σ 0)).toNatClampNeg x1)) (upd (ms_to (ms_s_op (ms_s_th σ 0) (upd (ms_op (ms_s_th σ 0)) (ms_ki (ms_s_th σ 0)).toNatClampNeg x1))) (3 * (ms_ki (ms_s_op (ms_s_th σ 0) (upd (ms_op (ms_s_th σ 0)) (ms_ki (ms_s_th σ 0)).toNatClampNeg x1)))).toNatClampNeg 9)) (upd (ms_to (ms_s_to (ms_s_op (ms_s_th σ 0) (upd (ms_op (ms_s_th σ 0)) (ms_ki (ms_s_th σ 0)).toNatClampNeg x1)) (upd (ms_to (ms_s_op (ms_s_th σ 0) (upd (ms_op (ms_s_th σ 0)) (ms_ki (ms_s_th σ 0)).toNatClampNeg x1))) (3 * (ms_ki (ms_s_op (ms_s_th σ 0) (upd (ms_op (ms_s_th σ 0)) (ms_ki (ms_s_th σ 0)).toNatClampNeg x1)))).toNatClampNeg 9))) ((3 * (ms_ki (ms_s_to (ms_s_op (ms_s_th σ 0) (upd (ms_op (ms_s_th σ 0)) (ms_ki (ms_s_th σ 0)).toNatClampNeg x1)) (upd (ms_to (ms_s_op (ms_s_th σ 0) (upd (ms_op (ms_s_th σ 0)) (ms_ki (ms_s_th σ 0)).toNatClampNeg x1))) (3 * (ms_ki (ms_s_op (ms_s_th σ 0) (upd (ms_op (ms_s_th σ 0)) (ms_ki (ms_s_th σ 0)).toNatClampNeg x1)))).toNatClampNeg 9)))) + 1).toNatClampNeg 9)) (upd (ms_to (ms_s_to (ms_s_to (ms_s_op (ms_s_th σ 0) (upd (ms_op (ms_s_th σ 0)) (ms_ki (ms_s_th σ 0)).toNatClampNeg x1)) (upd (ms_to (ms_s_op (ms_s_th σ 0) (upd (ms_op (ms_s_th σ 0)) (ms_ki (ms_s_th σ 0)).toNatClampNeg x1))) (3 * (ms_ki (ms_s_op (ms_s_th σ 0) (upd (ms_op (ms_s_th σ 0)) (ms_ki (ms_s_th σ 0)).toNatClampNeg x1)))).toNatClampNeg 9)) (upd (ms_to (ms_s_to (ms_s_op (ms_s_th σ 0) (upd (ms_op (ms_s_th σ 0)) (ms_ki (ms_s_th σ 0)).toNatClampNeg x1)) (upd (ms_to (ms_s_op (ms_s_th σ 0) (upd (ms_op (ms_s_th σ 0)) (ms_ki (ms_s_th σ 0)).toNatClampNeg x1))) (3 * (ms_ki (ms_s_op (ms_s_th σ 0) (upd (ms_op (ms_s_th σ 0)) (ms_ki (ms_s_th σ 0)).toNatClampNeg x1)))).toNatClampNeg 9))) ((3 * (ms_ki (ms_s_to (ms_s_op (ms_s_th σ 0) (upd (ms_op (ms_s_th σ 0)) (ms_ki (ms_s_th σ 0)).toNatClampNeg x1)) (upd (ms_to (ms_s_op (ms_s_th σ 0) (upd (ms_op (ms_s_th σ 0)) (ms_ki (ms_s_th σ 0)).toNatClampNeg x1))) (3 * (ms_ki (ms_s_op (ms_s_th σ 0) (upd (ms_op (ms_s_th σ 0)) (ms_ki (ms_s_th σ 0)).toNatClampNeg x1)))).toNatClampNeg 9)))) + 1).toNatClampNeg 9))) ((3 * (ms_ki (ms_s_to (ms_s_to (ms_s_op (ms_s_th σ 0) (upd (ms_op (ms_s_th σ 0)) (ms_ki (ms_s_th σ 0)).toNatClampNeg x1)) (upd (ms_to (ms_s_op (ms_s_th σ 0) (upd (ms_op (ms_s_th σ 0)) (ms_ki (ms_s_th σ 0)).toNatClampNeg x1))) (3 * (ms_ki (ms_s_op (ms_s_th σ 0) (upd (ms_op (ms_s_th σ 0)) (ms_ki (ms_s_th σ 0)).toNatClampNeg x1)))).toNatClampNeg 9)) (upd (ms_to (ms_s_to (ms_s_op (ms_s_th σ 0) (upd (ms_op (ms_s_th σ 0)) (ms_ki (ms_s_th σ 0)).toNatClampNeg x1)) (upd (ms_to (ms_s_op (ms_s_th σ 0) (upd (ms_op (ms_s_th σ 0)) (ms_ki (ms_s_th σ 0)).toNatClampNeg x1))) (3 * (ms_ki (ms_s_op (ms_s_th σ 0) (upd (ms_op (ms_s_th σ 0)) (ms_ki (ms_s_th σ 0)).toNatClampNeg x1)))).toNatClampNeg 9))) ((3 * (ms_ki (ms_s_to (ms_s_op (ms_s_th σ 0) (upd (ms_op (ms_s_th σ 0)) (ms_ki (ms_s_th σ 0)).toNatClampNeg x1)) (upd (ms_to (ms_s_op (ms_s_th σ 0) (upd (ms_op (ms_s_th σ 0)) (ms_ki (ms_s_th σ 0)).toNatClampNeg x1))) (3 * (ms_ki (ms_s_op (ms_s_th σ 0) (upd (ms_op (ms_s_th σ 0)) (ms_ki (ms_s_th σ 0)).toNatClampNeg x1)))).toNatClampNeg 9)))) + 1).toNatClampNeg 9)))) + 2).toNatClampNeg 9999)) (upd (ms_ta (ms_s_to (ms_s_to (ms_s_to (ms_s_op (ms_s_th σ 0) (upd (ms_op (ms_s_th σ 0)) (ms_ki (ms_s_th σ 0)).toNatClampNeg x1)) (upd (ms_to (ms_s_op (ms_s_th σ 0) (upd (ms_op (ms_s_th σ 0)) (ms_ki (ms_s_th σ 0)).toNatClampNeg x1))) (3 * (ms_ki (ms_s_op (ms_s_th σ 0) (upd (ms_op (ms_s_th σ 0)) (ms_ki (ms_s_th σ 0)).toNatClampNeg x1)))).toNatClampNeg 9)) (upd (ms_to (ms_s_to (ms_s_op (ms_s_th σ 0) (upd (ms_op (ms_s_th σ 0)) (ms_ki (ms_s_th σ 0)).toNatClampNeg x1)) (upd (ms_to (ms_s_op (ms_s_th σ 0) (upd (ms_op (ms_s_th σ 0)) (ms_ki (ms_s_th σ 0)).toNatClampNeg x1))) (3 * (ms_ki (ms_s_op (ms_s_th σ 0) (upd (ms_op (ms_s_th σ 0)) (ms_ki (ms_s_th σ 0)).toNatClampNeg x1)))).toNatClampNeg 9))) ((3 * (ms_ki (ms_s_to (ms_s_op (ms_s_th σ 0) (upd (ms_op (ms_s_th σ 0)) (ms_ki (ms_s_th σ 0)).toNatClampNeg x1)) (upd (ms_to (ms_s_op (ms_s_th σ 0) (upd (ms_op (ms_s_th σ 0)) (ms_ki (ms_s_th σ 0)).toNatClampNeg x1))) (3 * (ms_ki (ms_s_op (ms_s_th σ 0) (upd (ms_op (ms_s_th σ 0)) (ms_ki (ms_s_th σ 0)).toNatClampNeg x1)))).toNatClampNeg 9)))) + 1).toNatClampNeg 9)) (upd (ms_to (ms_s_to (ms_s_to (ms_s_op (ms_s_th σ 0) (upd (ms_op (ms_s_th σ 0)) (ms_ki (ms_s_th σ 0)).toNatClampNeg x1)) (upd (ms_to (ms_s_op (ms_s_th σ 0) (upd (ms_op (ms_s_th σ 0)) (ms_ki (ms_s_th σ 0)).toNatClampNeg x1))) (3 * (ms_ki (ms_s_op (ms_s_th σ 0) (upd (ms_op (ms_s_th σ 0)) (ms_ki (ms_s_th σ 0)).toNatClampNeg x1)))).toNatClampNeg 9)) (upd (ms_to (ms_s_to (ms_s_op (ms_s_th σ 0) (upd (ms_op (ms_s_th σ 0)) (ms_ki (ms_s_th σ 0)).toNatClampNeg x1)) (upd (ms_to (ms_s_op (ms_s_th σ 0) (upd (ms_op (ms_s_th σ 0)) (ms_ki (ms_s_th σ 0)).toNatClampNeg x1))) (3 * (ms_ki (ms_s_op (ms_s_th σ 0) (upd (ms_op (ms_s_th σ 0)) (ms_ki (ms_s_th σ 0)).toNatClampNeg x1)))).toNatClampNeg 9))) ((3 * (ms_ki (ms_s_to (ms_s_op (ms_s_th σ 0) (upd (ms_op (ms_s_th σ 0)) (ms_ki (ms_s_th σ 0)).toNatClampNeg x1)) (upd (ms_to (ms_s_op (ms_s_th σ 0) (upd (ms_op (ms_s_th σ 0)) (ms_ki (ms_s_th σ 0)).toNatClampNeg x1))) (3 * (ms_ki (ms_s_op (ms_s_th σ 0) (upd (ms_op (ms_s_th σ 0)) (ms_ki (ms_s_th σ 0)).toNatClampNeg x1)))).toNatClampNeg 9)))) + 1).toNatClampNeg 9))) ((3 * (ms_ki (ms_s_to (ms_s_to (ms_s_op (ms_s_th σ 0) (upd (ms_op (ms_s_th σ 0)) (ms_ki (ms_s_th σ 0)).toNatClampNeg x1)) (upd (ms_to (ms_s_op (ms_s_th σ 0) (upd (ms_op (ms_s_th σ 0)) (ms_ki (ms_s_th σ 0)).toNatClampNeg x1))) (3 * (ms_ki (ms_s_op (ms_s_th σ 0) (upd (ms_op (ms_s_th σ 0)) (ms_ki (ms_s_th σ 0)).toNatClampNeg x1)))).toNatClampNeg 9)) (upd (ms_to (ms_s_to (ms_s_op (ms_s_th σ 0) (upd (ms_op (ms_s_th σ 0)) (ms_ki (ms_s_th σ 0)).toNatClampNeg x1)) (upd (ms_to (ms_s_op (ms_s_th σ 0) (upd (ms_op (ms_s_th σ 0)) (ms_ki (ms_s_th σ 0)).toNatClampNeg x1))) (3 * (ms_ki (ms_s_op (ms_s_th σ 0) (upd (ms_op (ms_s_th σ 0)) (ms_ki (ms_s_th σ 0)).toNatClampNeg x1)))).toNatClampNeg 9))) ((3 * (ms_ki (ms_s_to (ms_s_op (ms_s_th σ 0) (upd (ms_op (ms_s_th σ 0)) (ms_ki (ms_s_th σ 0)).toNatClampNeg x1)) (upd (ms_to (ms_s_op (ms_s_th σ 0) (upd (ms_op (ms_s_th σ 0)) (ms_ki (ms_s_th σ 0)).toNatClampNeg x1))) (3 * (ms_ki (ms_s_op (ms_s_th σ 0) (upd (ms_op (ms_s_th σ 0)) (ms_ki (ms_s_th σ 0)).toNatClampNeg x1)))).toNatClampNeg 9)))) + 1).toNatClampNeg 9)))) + 2).toNatClampNeg 9999))) (ms_ki (ms_s_to (ms_s_to (ms_s_to (ms_s_op (ms_s_th σ 0) (upd (ms_op (ms_s_th σ 0)) (ms_ki (ms_s_th σ 0)).toNatClampNeg x1)) (upd (ms_to (ms_s_op (ms_s_th σ 0) (upd (ms_op (ms_s_th σ 0)) (ms_ki (ms_s_th σ 0)).toNatClampNeg x1))) (3 * (ms_ki (ms_s_op (ms_s_th σ 0) (upd (ms_op (ms_s_th σ 0)) (ms_ki (ms_s_th σ 0)).toNatClampNeg x1)))).toNatClampNeg 9)) (upd (ms_to (ms_s_to (ms_s_op (ms_s_th σ 0) (upd (ms_op (ms_s_th σ 0)) (ms_ki (ms_s_th σ 0)).toNatClampNeg x1)) (upd (ms_to (ms_s_op (ms_s_th σ 0) (upd (ms_op (ms_s_th σ 0)) (ms_ki (ms_s_th σ 0)).toNatClampNeg x1))) (3 * (ms_ki (ms_s_op (ms_s_th σ 0) (upd (ms_op (ms_s_th σ 0)) (ms_ki (ms_s_th σ 0)).toNatClampNeg x1)))).toNatClampNeg 9))) ((3 * (ms_ki (ms_s_to (ms_s_op (ms_s_th σ 0) (upd (ms_op (ms_s_th σ 0)) (ms_ki (ms_s_th σ 0)).toNatClampNeg x1)) (upd (ms_to (ms_s_op (ms_s_th σ 0) (upd (ms_op (ms_s_th σ 0)) (ms_ki (ms_s_th σ 0)).toNatClampNeg x1))) (3 * (ms_ki (ms_s_op (ms_s_th σ 0) (upd (ms_op (ms_s_th σ 0)) (ms_ki (ms_s_th σ 0)).toNatClampNeg x1)))).toNatClampNeg 9)))) + 1).toNatClampNeg 9)) (upd (ms_to (ms_s_to (ms_s_to (ms_s_op (ms_s_th σ 0) (upd (ms_op (ms_s_th σ 0)) (ms_ki (ms_s_th σ 0)).toNatClampNeg x1)) (upd (ms_to (ms_s_op (ms_s_th σ 0) (upd (ms_op (ms_s_th σ 0)) (ms_ki (ms_s_th σ 0)).toNatClampNeg x1))) (3 * (ms_ki (ms_s_op (ms_s_th σ 0) (upd (ms_op (ms_s_th σ 0)) (ms_ki (ms_s_th σ 0)).toNatClampNeg x1)))).toNatClampNeg 9)) (upd (ms_to (ms_s_to (ms_s_op (ms_s_th σ 0) (upd (ms_op (ms_s_th σ 0)) (ms_ki (ms_s_th σ 0)).toNatClampNeg x1)) (upd (ms_to (ms_s_op (ms_s_th σ 0) (upd (ms_op (ms_s_th σ 0)) (ms_ki (ms_s_th σ 0)).toNatClampNeg x1))) (3 * (ms_ki (ms_s_op (ms_s_th σ 0) (upd (ms_op (ms_s_th σ 0)) (ms_ki (ms_s_th σ 0)).toNatClampNeg x1)))).toNatClampNeg 9))) ((3 * (ms_ki (ms_s_to (ms_s_op (ms_s_th σ 0) (upd (ms_op (ms_s_th σ 0)) (ms_ki (ms_s_th σ 0)).toNatClampNeg x1)) (upd (ms_to (ms_s_op (ms_s_th σ 0) (upd (ms_op (ms_s_th σ 0)) (ms_ki (ms_s_th σ 0)).toNatClampNeg x1))) (3 * (ms_ki (ms_s_op (ms_s_th σ 0) (upd (ms_op (ms_s_th σ 0)) (ms_ki (ms_s_th σ 0)).toNatClampNeg x1)))).toNatClampNeg 9)))) + 1).toNatClampNeg 9))) ((3 * (ms_ki (ms_s_to (ms_s_to (ms_s_op (ms_s_th σ 0) (upd (ms_op (ms_s_th σ 0)) (ms_ki (ms_s_th σ 0)).toNatClampNeg x1)) (upd (ms_to (ms_s_op (ms_s_th σ 0) (upd (ms_op (ms_s_th σ 0)) (ms_ki (ms_s_th σ 0)).toNatClampNeg x1))) (3 * (ms_ki (ms_s_op (ms_s_th σ 0) (upd (ms_op (ms_s_th σ 0)) (ms_ki (ms_s_th σ 0)).toNatClampNeg x1)))).toNatClampNeg 9)) (upd (ms_to (ms_s_to (ms_s_op (ms_s_th σ 0) (upd (ms_op (ms_s_th σ 0)) (ms_ki (ms_s_th σ 0)).toNatClampNeg x1)) (upd (ms_to (ms_s_op (ms_s_th σ 0) (upd (ms_op (ms_s_th σ 0)) (ms_ki (ms_s_th σ 0)).toNatClampNeg x1))) (3 * (ms_ki (ms_s_op (ms_s_th σ 0) (upd (ms_op (ms_s_th σ 0)) (ms_ki (ms_s_th σ 0)).toNatClampNeg x1)))).toNatClampNeg 9))) ((3 * (ms_ki (ms_s_to (ms_s_op (ms_s_th σ 0) (upd (ms_op (ms_s_th σ 0)) (ms_ki (ms_s_th σ 0)).toNatClampNeg x1)) (upd (ms_to (ms_s_op (ms_s_th σ 0) (upd (ms_op (ms_s_th σ 0)) (ms_ki (ms_s_th σ 0)).toNatClampNeg x1))) (3 * (ms_ki (ms_s_op (ms_s_th σ 0) (upd (ms_op (ms_s_th σ 0)) (ms_ki (ms_s_th σ 0)).toNatClampNeg x1)))).toNatClampNeg 9)))) + 1).toNatClampNeg 9)))) + 2).toNatClampNeg 9999))).toNatClampNeg 1)))) (C := RX2) (T := TX2) (N := 21) hx hb hts hin hown hK hP 0 rfl rfl 1 (by decide) (hts (.fieldLink RX2 62 "ClassSheetsModel" "kinds" "I") (List.mem_of_getElem? (i := 3) rfl)) (fun _ h9 => h9) rfl dX2_kind_98 ?_
      refine lv_iconst (v := 1) hx hb dX2_kind_101 (by decide) ?_
      refine lv_iadd hx hb dX2_kind_102 ?_
      refine va_put (D := D) (ci := 2) (v := .int ((ms_ki (ms_s_ta (ms_s_to (ms_s_to (ms_s_to (ms_s_op (ms_s_th σ 0) (upd (ms_op (ms_s_th σ 0)) (ms_ki (ms_s_th σ 0)).toNatClampNeg x1)) (upd (ms_to (ms_s_op (ms_s_th σ 0) (upd (ms_op (ms_s_th σ 0)) (ms_ki (ms_s_th σ 0)).toNatClampNeg x1))) (3 * (ms_ki (ms_s_op (ms_s_th σ 0) (upd (ms_op (ms_s_th σ 0)) (ms_ki (ms_s_th σ 0)).toNatClampNeg x1)))).toNatClampNeg 9)) (upd (ms_to (ms_s_to (ms_s_op (ms_s_th σ 0) (upd (ms_op (ms_s_th σ 0)) (ms_ki (ms_s_th σ 0)).toNatClampNeg x1)) (upd (ms_to (ms_s_op (ms_s_th σ 0) (upd (ms_op (ms_s_th σ 0)) (ms_ki (ms_s_th σ 0)).toNatClampNeg x1))) (3 * (ms_ki (ms_s_op (ms_s_th σ 0) (upd (ms_op (ms_s_th σ 0)) (ms_ki (ms_s_th σ 0)).toNatClampNeg x1)))).toNatClampNeg 9))) ((3 * (ms_ki (ms_s_to (ms_s_op (ms_s_th σ 0) (upd (ms_op (ms_s_th σ 0)) (ms_ki (ms_s_th σ 0)).toNatClampNeg x1)) (upd (ms_to (ms_s_op (ms_s_th σ 0) (upd (ms_op (ms_s_th σ 0)) (ms_ki (ms_s_th σ 0)).toNatClampNeg x1))) (3 * (ms_ki (ms_s_op (ms_s_th σ 0) (upd (ms_op (ms_s_th σ 0)) (ms_ki (ms_s_th σ 0)).toNatClampNeg x1)))).toNatClampNeg 9)))) + 1).toNatClampNeg 9)) (upd (ms_to (ms_s_to (ms_s_to (ms_s_op (ms_s_th σ 0) (upd (ms_op (ms_s_th σ 0)) (ms_ki (ms_s_th σ 0)).toNatClampNeg x1)) (upd (ms_to (ms_s_op (ms_s_th σ 0) (upd (ms_op (ms_s_th σ 0)) (ms_ki (ms_s_th σ 0)).toNatClampNeg x1))) (3 * (ms_ki (ms_s_op (ms_s_th σ 0) (upd (ms_op (ms_s_th σ 0)) (ms_ki (ms_s_th σ 0)).toNatClampNeg x1)))).toNatClampNeg 9)) (upd (ms_to (ms_s_to (ms_s_op (ms_s_th σ 0) (upd (ms_op (ms_s_th σ 0)) (ms_ki (ms_s_th σ 0)).toNatClampNeg x1)) (upd (ms_to (ms_s_op (ms_s_th σ 0) (upd (ms_op (ms_s_th σ 0)) (ms_ki (ms_s_th σ 0)).toNatClampNeg x1))) (3 * (ms_ki (ms_s_op (ms_s_th σ 0) (upd (ms_op (ms_s_th σ 0)) (ms_ki (ms_s_th σ 0)).toNatClampNeg x1)))).toNatClampNeg 9))) ((3 * (ms_ki (ms_s_to (ms_s_op (ms_s_th σ 0) (upd (ms_op (ms_s_th σ 0)) (ms_ki (ms_s_th σ 0)).toNatClampNeg x1)) (upd (ms_to (ms_s_op (ms_s_th σ 0) (upd (ms_op (ms_s_th σ 0)) (ms_ki (ms_s_th σ 0)).toNatClampNeg x1))) (3 * (ms_ki (ms_s_op (ms_s_th σ 0) (upd (ms_op (ms_s_th σ 0)) (ms_ki (ms_s_th σ 0)).toNatClampNeg x1)))).toNatClampNeg 9)))) + 1).toNatClampNeg 9))) ((3 * (ms_ki (ms_s_to (ms_s_to (ms_s_op (ms_s_th σ 0) (upd (ms_op (ms_s_th σ 0)) (ms_ki (ms_s_th σ 0)).toNatClampNeg x1)) (upd (ms_to (ms_s_op (ms_s_th σ 0) (upd (ms_op (ms_s_th σ 0)) (ms_ki (ms_s_th σ 0)).toNatClampNeg x1))) (3 * (ms_ki (ms_s_op (ms_s_th σ 0) (upd (ms_op (ms_s_th σ 0)) (ms_ki (ms_s_th σ 0)).toNatClampNeg x1)))).toNatClampNeg 9)) (upd (ms_to (ms_s_to (ms_s_op (ms_s_th σ 0) (upd (ms_op (ms_s_th σ 0)) (ms_ki (ms_s_th σ 0)).toNatClampNeg x1)) (upd (ms_to (ms_s_op (ms_s_th σ 0) (upd (ms_op (ms_s_th σ 0)) (ms_ki (ms_s_th σ 0)).toNatClampNeg x1))) (3 * (ms_ki (ms_s_op (ms_s_th σ 0) (upd (ms_op (ms_s_th σ 0)) (ms_ki (ms_s_th σ 0)).toNatClampNeg x1)))).toNatClampNeg 9))) ((3 * (ms_ki (ms_s_to (ms_s_op (ms_s_th σ 0) (upd (ms_op (ms_s_th σ 0)) (ms_ki (ms_s_th σ 0)).toNatClampNeg x1)) (upd (ms_to (ms_s_op (ms_s_th σ 0) (upd (ms_op (ms_s_th σ 0)) (ms_ki (ms_s_th σ 0)).toNatClampNeg x1))) (3 * (ms_ki (ms_s_op (ms_s_th σ 0) (upd (ms_op (ms_s_th σ 0)) (ms_ki (ms_s_th σ 0)).toNatClampNeg x1)))).toNatClampNeg 9)))) + 1).toNatClampNeg 9)))) + 2).toNatClampNeg 9999)) (upd (ms_ta (ms_s_to (ms_s_to (ms_s_to (ms_s_op (ms_s_th σ 0) (upd (ms_op (ms_s_th σ 0)) (ms_ki (ms_s_th σ 0)).toNatClampNeg x1)) (upd (ms_to (ms_s_op (ms_s_th σ 0) (upd (ms_op (ms_s_th σ 0)) (ms_ki (ms_s_th σ 0)).toNatClampNeg x1))) (3 * (ms_ki (ms_s_op (ms_s_th σ 0) (upd (ms_op (ms_s_th σ 0)) (ms_ki (ms_s_th σ 0)).toNatClampNeg x1)))).toNatClampNeg 9)) (upd (ms_to (ms_s_to (ms_s_op (ms_s_th σ 0) (upd (ms_op (ms_s_th σ 0)) (ms_ki (ms_s_th σ 0)).toNatClampNeg x1)) (upd (ms_to (ms_s_op (ms_s_th σ 0) (upd (ms_op (ms_s_th σ 0)) (ms_ki (ms_s_th σ 0)).toNatClampNeg x1))) (3 * (ms_ki (ms_s_op (ms_s_th σ 0) (upd (ms_op (ms_s_th σ 0)) (ms_ki (ms_s_th σ 0)).toNatClampNeg x1)))).toNatClampNeg 9))) ((3 * (ms_ki (ms_s_to (ms_s_op (ms_s_th σ 0) (upd (ms_op (ms_s_th σ 0)) (ms_ki (ms_s_th σ 0)).toNatClampNeg x1)) (upd (ms_to (ms_s_op (ms_s_th σ 0) (upd (ms_op (ms_s_th σ 0)) (ms_ki (ms_s_th σ 0)).toNatClampNeg x1))) (3 * (ms_ki (ms_s_op (ms_s_th σ 0) (upd (ms_op (ms_s_th σ 0)) (ms_ki (ms_s_th σ 0)).toNatClampNeg x1)))).toNatClampNeg 9)))) + 1).toNatClampNeg 9)) (upd (ms_to (ms_s_to (ms_s_to (ms_s_op (ms_s_th σ 0) (upd (ms_op (ms_s_th σ 0)) (ms_ki (ms_s_th σ 0)).toNatClampNeg x1)) (upd (ms_to (ms_s_op (ms_s_th σ 0) (upd (ms_op (ms_s_th σ 0)) (ms_ki (ms_s_th σ 0)).toNatClampNeg x1))) (3 * (ms_ki (ms_s_op (ms_s_th σ 0) (upd (ms_op (ms_s_th σ 0)) (ms_ki (ms_s_th σ 0)).toNatClampNeg x1)))).toNatClampNeg 9)) (upd (ms_to (ms_s_to (ms_s_op (ms_s_th σ 0) (upd (ms_op (ms_s_th σ 0)) (ms_ki (ms_s_th σ 0)).toNatClampNeg x1)) (upd (ms_to (ms_s_op (ms_s_th σ 0) (upd (ms_op (ms_s_th σ 0)) (ms_ki (ms_s_th σ 0)).toNatClampNeg x1))) (3 * (ms_ki (ms_s_op (ms_s_th σ 0) (upd (ms_op (ms_s_th σ 0)) (ms_ki (ms_s_th σ 0)).toNatClampNeg x1)))).toNatClampNeg 9))) ((3 * (ms_ki (ms_s_to (ms_s_op (ms_s_th σ 0) (upd (ms_op (ms_s_th σ 0)) (ms_ki (ms_s_th σ 0)).toNatClampNeg x1)) (upd (ms_to (ms_s_op (ms_s_th σ 0) (upd (ms_op (ms_s_th σ 0)) (ms_ki (ms_s_th σ 0)).toNatClampNeg x1))) (3 * (ms_ki (ms_s_op (ms_s_th σ 0) (upd (ms_op (ms_s_th σ 0)) (ms_ki (ms_s_th σ 0)).toNatClampNeg x1)))).toNatClampNeg 9)))) + 1).toNatClampNeg 9))) ((3 * (ms_ki (ms_s_to (ms_s_to (ms_s_op (ms_s_th σ 0) (upd (ms_op (ms_s_th σ 0)) (ms_ki (ms_s_th σ 0)).toNatClampNeg x1)) (upd (ms_to (ms_s_op (ms_s_th σ 0) (upd (ms_op (ms_s_th σ 0)) (ms_ki (ms_s_th σ 0)).toNatClampNeg x1))) (3 * (ms_ki (ms_s_op (ms_s_th σ 0) (upd (ms_op (ms_s_th σ 0)) (ms_ki (ms_s_th σ 0)).toNatClampNeg x1)))).toNatClampNeg 9)) (upd (ms_to (ms_s_to (ms_s_op (ms_s_th σ 0) (upd (ms_op (ms_s_th σ 0)) (ms_ki (ms_s_th σ 0)).toNatClampNeg x1)) (upd (ms_to (ms_s_op (ms_s_th σ 0) (upd (ms_op (ms_s_th σ 0)) (ms_ki (ms_s_th σ 0)).toNatClampNeg x1))) (3 * (ms_ki (ms_s_op (ms_s_th σ 0) (upd (ms_op (ms_s_th σ 0)) (ms_ki (ms_s_th σ 0)).toNatClampNeg x1)))).toNatClampNeg 9))) ((3 * (ms_ki (ms_s_to (ms_s_op (ms_s_th σ 0) (upd (ms_op (ms_s_th σ 0)) (ms_ki (ms_s_th σ 0)).toNatClampNeg x1)) (upd (ms_to (ms_s_op (ms_s_th σ 0) (upd (ms_op (ms_s_th σ 0)) (ms_ki (ms_s_th σ 0)).toNatClampNeg x1))) (3 * (ms_ki (ms_s_op (ms_s_th σ 0) (upd (ms_op (ms_s_th σ 0)) (ms_ki (ms_s_th σ 0)).toNatClampNeg x1)))).toNatClampNeg 9)))) + 1).toNatClampNeg 9)))) + 2).toNatClampNeg 9999))) (ms_ki (ms_s_to (ms_s_to (ms_s_to (ms_s_op (ms_s_th σ 0) (upd (ms_op (ms_s_th σ 0)) (ms_ki (ms_s_th σ 0)).toNatClampNeg x1)) (upd (ms_to (ms_s_op (ms_s_th σ 0) (upd (ms_op (ms_s_th σ 0)) (ms_ki (ms_s_th σ 0)).toNatClampNeg x1))) (3 * (ms_ki (ms_s_op (ms_s_th σ 0) (upd (ms_op (ms_s_th σ 0)) (ms_ki (ms_s_th σ 0)).toNatClampNeg x1)))).toNatClampNeg 9)) (upd (ms_to (ms_s_to (ms_s_op (ms_s_th σ 0) (upd (ms_op (ms_s_th σ 0)) (ms_ki (ms_s_th σ 0)).toNatClampNeg x1)) (upd (ms_to (ms_s_op (ms_s_th σ 0) (upd (ms_op (ms_s_th σ 0)) (ms_ki (ms_s_th σ 0)).toNatClampNeg x1))) (3 * (ms_ki (ms_s_op (ms_s_th σ 0) (upd (ms_op (ms_s_th σ 0)) (ms_ki (ms_s_th σ 0)).toNatClampNeg x1)))).toNatClampNeg 9))) ((3 * (ms_ki (ms_s_to (ms_s_op (ms_s_th σ 0) (upd (ms_op (ms_s_th σ 0)) (ms_ki (ms_s_th σ 0)).toNatClampNeg x1)) (upd (ms_to (ms_s_op (ms_s_th σ 0) (upd (ms_op (ms_s_th σ 0)) (ms_ki (ms_s_th σ 0)).toNatClampNeg x1))) (3 * (ms_ki (ms_s_op (ms_s_th σ 0) (upd (ms_op (ms_s_th σ 0)) (ms_ki (ms_s_th σ 0)).toNatClampNeg x1)))).toNatClampNeg 9)))) + 1).toNatClampNeg 9)) (upd (ms_to (ms_s_to (ms_s_to (ms_s_op (ms_s_th σ 0) (upd (ms_op (ms_s_th σ 0)) (ms_ki (ms_s_th σ 0)).toNatClampNeg x1)) (upd (ms_to (ms_s_op (ms_s_th σ 0) (upd (ms_op (ms_s_th σ 0)) (ms_ki (ms_s_th σ 0)).toNatClampNeg x1))) (3 * (ms_ki (ms_s_op (ms_s_th σ 0) (upd (ms_op (ms_s_th σ 0)) (ms_ki (ms_s_th σ 0)).toNatClampNeg x1)))).toNatClampNeg 9)) (upd (ms_to (ms_s_to (ms_s_op (ms_s_th σ 0) (upd (ms_op (ms_s_th σ 0)) (ms_ki (ms_s_th σ 0)).toNatClampNeg x1)) (upd (ms_to (ms_s_op (ms_s_th σ 0) (upd (ms_op (ms_s_th σ 0)) (ms_ki (ms_s_th σ 0)).toNatClampNeg x1))) (3 * (ms_ki (ms_s_op (ms_s_th σ 0) (upd (ms_op (ms_s_th σ 0)) (ms_ki (ms_s_th σ 0)).toNatClampNeg x1)))).toNatClampNeg 9))) ((3 * (ms_ki (ms_s_to (ms_s_op (ms_s_th σ 0) (upd (ms_op (ms_s_th σ 0)) (ms_ki (ms_s_th σ 0)).toNatClampNeg x1)) (upd (ms_to (ms_s_op (ms_s_th σ 0) (upd (ms_op (ms_s_th σ 0)) (ms_ki (ms_s_th σ 0)).toNatClampNeg x1))) (3 * (ms_ki (ms_s_op (ms_s_th σ 0) (upd (ms_op (ms_s_th σ 0)) (ms_ki (ms_s_th σ 0)).toNatClampNeg x1)))).toNatClampNeg 9)))) + 1).toNatClampNeg 9))) ((3 * (ms_ki (ms_s_to (ms_s_to (ms_s_op (ms_s_th σ 0) (upd (ms_op (ms_s_th σ 0)) (ms_ki (ms_s_th σ 0)).toNatClampNeg x1)) (upd (ms_to (ms_s_op (ms_s_th σ 0) (upd (ms_op (ms_s_th σ 0)) (ms_ki (ms_s_th σ 0)).toNatClampNeg x1))) (3 * (ms_ki (ms_s_op (ms_s_th σ 0) (upd (ms_op (ms_s_th σ 0)) (ms_ki (ms_s_th σ 0)).toNatClampNeg x1)))).toNatClampNeg 9)) (upd (ms_to (ms_s_to (ms_s_op (ms_s_th σ 0) (upd (ms_op (ms_s_th σ 0)) (ms_ki (ms_s_th σ 0)).toNatClampNeg x1)) (upd (ms_to (ms_s_op (ms_s_th σ 0) (upd (ms_op (ms_s_th σ 0)) (ms_ki (ms_s_th σ 0)).toNatClampNeg x1))) (3 * (ms_ki (ms_s_op (ms_s_th σ 0) (upd (ms_op (ms_s_th σ 0)) (ms_ki (ms_s_th σ 0)).toNatClampNeg x1)))).toNatClampNeg 9))) ((3 * (ms_ki (ms_s_to (ms_s_op (ms_s_th σ 0) (upd (ms_op (ms_s_th σ 0)) (ms_ki (ms_s_th σ 0)).toNatClampNeg x1)) (upd (ms_to (ms_s_op (ms_s_th σ 0) (upd (ms_op (ms_s_th σ 0)) (ms_ki (ms_s_th σ 0)).toNatClampNeg x1))) (3 * (ms_ki (ms_s_op (ms_s_th σ 0) (upd (ms_op (ms_s_th σ 0)) (ms_ki (ms_s_th σ 0)).toNatClampNeg x1)))).toNatClampNeg 9)))) + 1).toNatClampNeg 9)))) + 2).toNatClampNeg 9999))).toNatClampNeg 1))) + 1)) (ty := .int) (C := RX2) (T := TX2) (N := 21) hx hb hts hin tyX2 tyX2_ok nmX2 hown hK hP (mD hd) hS 0 rfl rfl 1 (by decide) (hts (.fieldLink RX2 62 "ClassSheetsModel" "kinds" "I") (List.mem_of_getElem? (i := 3) rfl)) (fun _ h9 => h9) rfl (by decide +kernel) rfl rfl (Nat.le_of_ble_eq_true rfl) dX2_kind_103 (fun H locs hP _ hS => ?_)
      have hP : va_P D vwCl (MW cc ad (ms_s_ki (ms_s_ta (ms_s_to (ms_s_to (ms_s_to (ms_s_op (ms_s_th σ 0) (upd (ms_op (ms_s_th σ 0)) (ms_ki (ms_s_th σ 0)).toNatClampNeg x1)) (upd (ms_to (ms_s_op (ms_s_th σ 0) (upd (ms_op (ms_s_th σ 0)) (ms_ki (ms_s_th σ 0)).toNatClampNeg x1))) (3 * (ms_ki (ms_s_op (ms_s_th σ 0) (upd (ms_op (ms_s_th σ 0)) (ms_ki (ms_s_th σ 0)).toNatClampNeg x1)))).toNatClampNeg 9)) (upd (ms_to (ms_s_to (ms_s_op (ms_s_th σ 0) (upd (ms_op (ms_s_th σ 0)) (ms_ki (ms_s_th σ 0)).toNatClampNeg x1)) (upd (ms_to (ms_s_op (ms_s_th σ 0) (upd (ms_op (ms_s_th σ 0)) (ms_ki (ms_s_th σ 0)).toNatClampNeg x1))) (3 * (ms_ki (ms_s_op (ms_s_th σ 0) (upd (ms_op (ms_s_th σ 0)) (ms_ki (ms_s_th σ 0)).toNatClampNeg x1)))).toNatClampNeg 9))) ((3 * (ms_ki (ms_s_to (ms_s_op (ms_s_th σ 0) (upd (ms_op (ms_s_th σ 0)) (ms_ki (ms_s_th σ 0)).toNatClampNeg x1)) (upd (ms_to (ms_s_op (ms_s_th σ 0) (upd (ms_op (ms_s_th σ 0)) (ms_ki (ms_s_th σ 0)).toNatClampNeg x1))) (3 * (ms_ki (ms_s_op (ms_s_th σ 0) (upd (ms_op (ms_s_th σ 0)) (ms_ki (ms_s_th σ 0)).toNatClampNeg x1)))).toNatClampNeg 9)))) + 1).toNatClampNeg 9)) (upd (ms_to (ms_s_to (ms_s_to (ms_s_op (ms_s_th σ 0) (upd (ms_op (ms_s_th σ 0)) (ms_ki (ms_s_th σ 0)).toNatClampNeg x1)) (upd (ms_to (ms_s_op (ms_s_th σ 0) (upd (ms_op (ms_s_th σ 0)) (ms_ki (ms_s_th σ 0)).toNatClampNeg x1))) (3 * (ms_ki (ms_s_op (ms_s_th σ 0) (upd (ms_op (ms_s_th σ 0)) (ms_ki (ms_s_th σ 0)).toNatClampNeg x1)))).toNatClampNeg 9)) (upd (ms_to (ms_s_to (ms_s_op (ms_s_th σ 0) (upd (ms_op (ms_s_th σ 0)) (ms_ki (ms_s_th σ 0)).toNatClampNeg x1)) (upd (ms_to (ms_s_op (ms_s_th σ 0) (upd (ms_op (ms_s_th σ 0)) (ms_ki (ms_s_th σ 0)).toNatClampNeg x1))) (3 * (ms_ki (ms_s_op (ms_s_th σ 0) (upd (ms_op (ms_s_th σ 0)) (ms_ki (ms_s_th σ 0)).toNatClampNeg x1)))).toNatClampNeg 9))) ((3 * (ms_ki (ms_s_to (ms_s_op (ms_s_th σ 0) (upd (ms_op (ms_s_th σ 0)) (ms_ki (ms_s_th σ 0)).toNatClampNeg x1)) (upd (ms_to (ms_s_op (ms_s_th σ 0) (upd (ms_op (ms_s_th σ 0)) (ms_ki (ms_s_th σ 0)).toNatClampNeg x1))) (3 * (ms_ki (ms_s_op (ms_s_th σ 0) (upd (ms_op (ms_s_th σ 0)) (ms_ki (ms_s_th σ 0)).toNatClampNeg x1)))).toNatClampNeg 9)))) + 1).toNatClampNeg 9))) ((3 * (ms_ki (ms_s_to (ms_s_to (ms_s_op (ms_s_th σ 0) (upd (ms_op (ms_s_th σ 0)) (ms_ki (ms_s_th σ 0)).toNatClampNeg x1)) (upd (ms_to (ms_s_op (ms_s_th σ 0) (upd (ms_op (ms_s_th σ 0)) (ms_ki (ms_s_th σ 0)).toNatClampNeg x1))) (3 * (ms_ki (ms_s_op (ms_s_th σ 0) (upd (ms_op (ms_s_th σ 0)) (ms_ki (ms_s_th σ 0)).toNatClampNeg x1)))).toNatClampNeg 9)) (upd (ms_to (ms_s_to (ms_s_op (ms_s_th σ 0) (upd (ms_op (ms_s_th σ 0)) (ms_ki (ms_s_th σ 0)).toNatClampNeg x1)) (upd (ms_to (ms_s_op (ms_s_th σ 0) (upd (ms_op (ms_s_th σ 0)) (ms_ki (ms_s_th σ 0)).toNatClampNeg x1))) (3 * (ms_ki (ms_s_op (ms_s_th σ 0) (upd (ms_op (ms_s_th σ 0)) (ms_ki (ms_s_th σ 0)).toNatClampNeg x1)))).toNatClampNeg 9))) ((3 * (ms_ki (ms_s_to (ms_s_op (ms_s_th σ 0) (upd (ms_op (ms_s_th σ 0)) (ms_ki (ms_s_th σ 0)).toNatClampNeg x1)) (upd (ms_to (ms_s_op (ms_s_th σ 0) (upd (ms_op (ms_s_th σ 0)) (ms_ki (ms_s_th σ 0)).toNatClampNeg x1))) (3 * (ms_ki (ms_s_op (ms_s_th σ 0) (upd (ms_op (ms_s_th σ 0)) (ms_ki (ms_s_th σ 0)).toNatClampNeg x1)))).toNatClampNeg 9)))) + 1).toNatClampNeg 9)))) + 2).toNatClampNeg 9999)) (upd (ms_ta (ms_s_to (ms_s_to (ms_s_to (ms_s_op (ms_s_th σ 0) (upd (ms_op (ms_s_th σ 0)) (ms_ki (ms_s_th σ 0)).toNatClampNeg x1)) (upd (ms_to (ms_s_op (ms_s_th σ 0) (upd (ms_op (ms_s_th σ 0)) (ms_ki (ms_s_th σ 0)).toNatClampNeg x1))) (3 * (ms_ki (ms_s_op (ms_s_th σ 0) (upd (ms_op (ms_s_th σ 0)) (ms_ki (ms_s_th σ 0)).toNatClampNeg x1)))).toNatClampNeg 9)) (upd (ms_to (ms_s_to (ms_s_op (ms_s_th σ 0) (upd (ms_op (ms_s_th σ 0)) (ms_ki (ms_s_th σ 0)).toNatClampNeg x1)) (upd (ms_to (ms_s_op (ms_s_th σ 0) (upd (ms_op (ms_s_th σ 0)) (ms_ki (ms_s_th σ 0)).toNatClampNeg x1))) (3 * (ms_ki (ms_s_op (ms_s_th σ 0) (upd (ms_op (ms_s_th σ 0)) (ms_ki (ms_s_th σ 0)).toNatClampNeg x1)))).toNatClampNeg 9))) ((3 * (ms_ki (ms_s_to (ms_s_op (ms_s_th σ 0) (upd (ms_op (ms_s_th σ 0)) (ms_ki (ms_s_th σ 0)).toNatClampNeg x1)) (upd (ms_to (ms_s_op (ms_s_th σ 0) (upd (ms_op (ms_s_th σ 0)) (ms_ki (ms_s_th σ 0)).toNatClampNeg x1))) (3 * (ms_ki (ms_s_op (ms_s_th σ 0) (upd (ms_op (ms_s_th σ 0)) (ms_ki (ms_s_th σ 0)).toNatClampNeg x1)))).toNatClampNeg 9)))) + 1).toNatClampNeg 9)) (upd (ms_to (ms_s_to (ms_s_to (ms_s_op (ms_s_th σ 0) (upd (ms_op (ms_s_th σ 0)) (ms_ki (ms_s_th σ 0)).toNatClampNeg x1)) (upd (ms_to (ms_s_op (ms_s_th σ 0) (upd (ms_op (ms_s_th σ 0)) (ms_ki (ms_s_th σ 0)).toNatClampNeg x1))) (3 * (ms_ki (ms_s_op (ms_s_th σ 0) (upd (ms_op (ms_s_th σ 0)) (ms_ki (ms_s_th σ 0)).toNatClampNeg x1)))).toNatClampNeg 9)) (upd (ms_to (ms_s_to (ms_s_op (ms_s_th σ 0) (upd (ms_op (ms_s_th σ 0)) (ms_ki (ms_s_th σ 0)).toNatClampNeg x1)) (upd (ms_to (ms_s_op (ms_s_th σ 0) (upd (ms_op (ms_s_th σ 0)) (ms_ki (ms_s_th σ 0)).toNatClampNeg x1))) (3 * (ms_ki (ms_s_op (ms_s_th σ 0) (upd (ms_op (ms_s_th σ 0)) (ms_ki (ms_s_th σ 0)).toNatClampNeg x1)))).toNatClampNeg 9))) ((3 * (ms_ki (ms_s_to (ms_s_op (ms_s_th σ 0) (upd (ms_op (ms_s_th σ 0)) (ms_ki (ms_s_th σ 0)).toNatClampNeg x1)) (upd (ms_to (ms_s_op (ms_s_th σ 0) (upd (ms_op (ms_s_th σ 0)) (ms_ki (ms_s_th σ 0)).toNatClampNeg x1))) (3 * (ms_ki (ms_s_op (ms_s_th σ 0) (upd (ms_op (ms_s_th σ 0)) (ms_ki (ms_s_th σ 0)).toNatClampNeg x1)))).toNatClampNeg 9)))) + 1).toNatClampNeg 9))) ((3 * (ms_ki (ms_s_to (ms_s_to (ms_s_op (ms_s_th σ 0) (upd (ms_op (ms_s_th σ 0)) (ms_ki (ms_s_th σ 0)).toNatClampNeg x1)) (upd (ms_to (ms_s_op (ms_s_th σ 0) (upd (ms_op (ms_s_th σ 0)) (ms_ki (ms_s_th σ 0)).toNatClampNeg x1))) (3 * (ms_ki (ms_s_op (ms_s_th σ 0) (upd (ms_op (ms_s_th σ 0)) (ms_ki (ms_s_th σ 0)).toNatClampNeg x1)))).toNatClampNeg 9)) (upd (ms_to (ms_s_to (ms_s_op (ms_s_th σ 0) (upd (ms_op (ms_s_th σ 0)) (ms_ki (ms_s_th σ 0)).toNatClampNeg x1)) (upd (ms_to (ms_s_op (ms_s_th σ 0) (upd (ms_op (ms_s_th σ 0)) (ms_ki (ms_s_th σ 0)).toNatClampNeg x1))) (3 * (ms_ki (ms_s_op (ms_s_th σ 0) (upd (ms_op (ms_s_th σ 0)) (ms_ki (ms_s_th σ 0)).toNatClampNeg x1)))).toNatClampNeg 9))) ((3 * (ms_ki (ms_s_to (ms_s_op (ms_s_th σ 0) (upd (ms_op (ms_s_th σ 0)) (ms_ki (ms_s_th σ 0)).toNatClampNeg x1)) (upd (ms_to (ms_s_op (ms_s_th σ 0) (upd (ms_op (ms_s_th σ 0)) (ms_ki (ms_s_th σ 0)).toNatClampNeg x1))) (3 * (ms_ki (ms_s_op (ms_s_th σ 0) (upd (ms_op (ms_s_th σ 0)) (ms_ki (ms_s_th σ 0)).toNatClampNeg x1)))).toNatClampNeg 9)))) + 1).toNatClampNeg 9)))) + 2).toNatClampNeg 9999))) (ms_ki (ms_s_to (ms_s_to (ms_s_to (ms_s_op (ms_s_th σ 0) (upd (ms_op (ms_s_th σ 0)) (ms_ki (ms_s_th σ 0)).toNatClampNeg x1)) (upd (ms_to (ms_s_op (ms_s_th σ 0) (upd (ms_op (ms_s_th σ 0)) (ms_ki (ms_s_th σ 0)).toNatClampNeg x1))) (3 * (ms_ki (ms_s_op (ms_s_th σ 0) (upd (ms_op (ms_s_th σ 0)) (ms_ki (ms_s_th σ 0)).toNatClampNeg x1)))).toNatClampNeg 9)) (upd (ms_to (ms_s_to (ms_s_op (ms_s_th σ 0) (upd (ms_op (ms_s_th σ 0)) (ms_ki (ms_s_th σ 0)).toNatClampNeg x1)) (upd (ms_to (ms_s_op (ms_s_th σ 0) (upd (ms_op (ms_s_th σ 0)) (ms_ki (ms_s_th σ 0)).toNatClampNeg x1))) (3 * (ms_ki (ms_s_op (ms_s_th σ 0) (upd (ms_op (ms_s_th σ 0)) (ms_ki (ms_s_th σ 0)).toNatClampNeg x1)))).toNatClampNeg 9))) ((3 * (ms_ki (ms_s_to (ms_s_op (ms_s_th σ 0) (upd (ms_op (ms_s_th σ 0)) (ms_ki (ms_s_th σ 0)).toNatClampNeg x1)) (upd (ms_to (ms_s_op (ms_s_th σ 0) (upd (ms_op (ms_s_th σ 0)) (ms_ki (ms_s_th σ 0)).toNatClampNeg x1))) (3 * (ms_ki (ms_s_op (ms_s_th σ 0) (upd (ms_op (ms_s_th σ 0)) (ms_ki (ms_s_th σ 0)).toNatClampNeg x1)))).toNatClampNeg 9)))) + 1).toNatClampNeg 9)) (upd (ms_to (ms_s_to (ms_s_to (ms_s_op (ms_s_th σ 0) (upd (ms_op (ms_s_th σ 0)) (ms_ki (ms_s_th σ 0)).toNatClampNeg x1)) (upd (ms_to (ms_s_op (ms_s_th σ 0) (upd (ms_op (ms_s_th σ 0)) (ms_ki (ms_s_th σ 0)).toNatClampNeg x1))) (3 * (ms_ki (ms_s_op (ms_s_th σ 0) (upd (ms_op (ms_s_th σ 0)) (ms_ki (ms_s_th σ 0)).toNatClampNeg x1)))).toNatClampNeg 9)) (upd (ms_to (ms_s_to (ms_s_op (ms_s_th σ 0) (upd (ms_op (ms_s_th σ 0)) (ms_ki (ms_s_th σ 0)).toNatClampNeg x1)) (upd (ms_to (ms_s_op (ms_s_th σ 0) (upd (ms_op (ms_s_th σ 0)) (ms_ki (ms_s_th σ 0)).toNatClampNeg x1))) (3 * (ms_ki (ms_s_op (ms_s_th σ 0) (upd (ms_op (ms_s_th σ 0)) (ms_ki (ms_s_th σ 0)).toNatClampNeg x1)))).toNatClampNeg 9))) ((3 * (ms_ki (ms_s_to (ms_s_op (ms_s_th σ 0) (upd (ms_op (ms_s_th σ 0)) (ms_ki (ms_s_th σ 0)).toNatClampNeg x1)) (upd (ms_to (ms_s_op (ms_s_th σ 0) (upd (ms_op (ms_s_th σ 0)) (ms_ki (ms_s_th σ 0)).toNatClampNeg x1))) (3 * (ms_ki (ms_s_op (ms_s_th σ 0) (upd (ms_op (ms_s_th σ 0)) (ms_ki (ms_s_th σ 0)).toNatClampNeg x1)))).toNatClampNeg 9)))) + 1).toNatClampNeg 9))) ((3 * (ms_ki (ms_s_to (ms_s_to (ms_s_op (ms_s_th σ 0) (upd (ms_op (ms_s_th σ 0)) (ms_ki (ms_s_th σ 0)).toNatClampNeg x1)) (upd (ms_to (ms_s_op (ms_s_th σ 0) (upd (ms_op (ms_s_th σ 0)) (ms_ki (ms_s_th σ 0)).toNatClampNeg x1))) (3 * (ms_ki (ms_s_op (ms_s_th σ 0) (upd (ms_op (ms_s_th σ 0)) (ms_ki (ms_s_th σ 0)).toNatClampNeg x1)))).toNatClampNeg 9)) (upd (ms_to (ms_s_to (ms_s_op (ms_s_th σ 0) (upd (ms_op (ms_s_th σ 0)) (ms_ki (ms_s_th σ 0)).toNatClampNeg x1)) (upd (ms_to (ms_s_op (ms_s_th σ 0) (upd (ms_op (ms_s_th σ 0)) (ms_ki (ms_s_th σ 0)).toNatClampNeg x1))) (3 * (ms_ki (ms_s_op (ms_s_th σ 0) (upd (ms_op (ms_s_th σ 0)) (ms_ki (ms_s_th σ 0)).toNatClampNeg x1)))).toNatClampNeg 9))) ((3 * (ms_ki (ms_s_to (ms_s_op (ms_s_th σ 0) (upd (ms_op (ms_s_th σ 0)) (ms_ki (ms_s_th σ 0)).toNatClampNeg x1)) (upd (ms_to (ms_s_op (ms_s_th σ 0) (upd (ms_op (ms_s_th σ 0)) (ms_ki (ms_s_th σ 0)).toNatClampNeg x1))) (3 * (ms_ki (ms_s_op (ms_s_th σ 0) (upd (ms_op (ms_s_th σ 0)) (ms_ki (ms_s_th σ 0)).toNatClampNeg x1)))).toNatClampNeg 9)))) + 1).toNatClampNeg 9)))) + 2).toNatClampNeg 9999))).toNatClampNeg 1)) ((ms_ki (ms_s_ta (ms_s_to (ms_s_to (ms_s_to (ms_s_op (ms_s_th σ 0) (upd (ms_op (ms_s_th σ 0)) (ms_ki (ms_s_th σ 0)).toNatClampNeg x1)) (upd (ms_to (ms_s_op (ms_s_th σ 0) (upd (ms_op (ms_s_th σ 0)) (ms_ki (ms_s_th σ 0)).toNatClampNeg x1))) (3 * (ms_ki (ms_s_op (ms_s_th σ 0) (upd (ms_op (ms_s_th σ 0)) (ms_ki (ms_s_th σ 0)).toNatClampNeg x1)))).toNatClampNeg 9)) (upd (ms_to (ms_s_to (ms_s_op (ms_s_th σ 0) (upd (ms_op (ms_s_th σ 0)) (ms_ki (ms_s_th σ 0)).toNatClampNeg x1)) (upd (ms_to (ms_s_op (ms_s_th σ 0) (upd (ms_op (ms_s_th σ 0)) (ms_ki (ms_s_th σ 0)).toNatClampNeg x1))) (3 * (ms_ki (ms_s_op (ms_s_th σ 0) (upd (ms_op (ms_s_th σ 0)) (ms_ki (ms_s_th σ 0)).toNatClampNeg x1)))).toNatClampNeg 9))) ((3 * (ms_ki (ms_s_to (ms_s_op (ms_s_th σ 0) (upd (ms_op (ms_s_th σ 0)) (ms_ki (ms_s_th σ 0)).toNatClampNeg x1)) (upd (ms_to (ms_s_op (ms_s_th σ 0) (upd (ms_op (ms_s_th σ 0)) (ms_ki (ms_s_th σ 0)).toNatClampNeg x1))) (3 * (ms_ki (ms_s_op (ms_s_th σ 0) (upd (ms_op (ms_s_th σ 0)) (ms_ki (ms_s_th σ 0)).toNatClampNeg x1)))).toNatClampNeg 9)))) + 1).toNatClampNeg 9)) (upd (ms_to (ms_s_to (ms_s_to (ms_s_op (ms_s_th σ 0) (upd (ms_op (ms_s_th σ 0)) (ms_ki (ms_s_th σ 0)).toNatClampNeg x1)) (upd (ms_to (ms_s_op (ms_s_th σ 0) (upd (ms_op (ms_s_th σ 0)) (ms_ki (ms_s_th σ 0)).toNatClampNeg x1))) (3 * (ms_ki (ms_s_op (ms_s_th σ 0) (upd (ms_op (ms_s_th σ 0)) (ms_ki (ms_s_th σ 0)).toNatClampNeg x1)))).toNatClampNeg 9)) (upd (ms_to (ms_s_to (ms_s_op (ms_s_th σ 0) (upd (ms_op (ms_s_th σ 0)) (ms_ki (ms_s_th σ 0)).toNatClampNeg x1)) (upd (ms_to (ms_s_op (ms_s_th σ 0) (upd (ms_op (ms_s_th σ 0)) (ms_ki (ms_s_th σ 0)).toNatClampNeg x1))) (3 * (ms_ki (ms_s_op (ms_s_th σ 0) (upd (ms_op (ms_s_th σ 0)) (ms_ki (ms_s_th σ 0)).toNatClampNeg x1)))).toNatClampNeg 9))) ((3 * (ms_ki (ms_s_to (ms_s_op (ms_s_th σ 0) (upd (ms_op (ms_s_th σ 0)) (ms_ki (ms_s_th σ 0)).toNatClampNeg x1)) (upd (ms_to (ms_s_op (ms_s_th σ 0) (upd (ms_op (ms_s_th σ 0)) (ms_ki (ms_s_th σ 0)).toNatClampNeg x1))) (3 * (ms_ki (ms_s_op (ms_s_th σ 0) (upd (ms_op (ms_s_th σ 0)) (ms_ki (ms_s_th σ 0)).toNatClampNeg x1)))).toNatClampNeg 9)))) + 1).toNatClampNeg 9))) ((3 * (ms_ki (ms_s_to (ms_s_to (ms_s_op (ms_s_th σ 0) (upd (ms_op (ms_s_th σ 0)) (ms_ki (ms_s_th σ 0)).toNatClampNeg x1)) (upd (ms_to (ms_s_op (ms_s_th σ 0) (upd (ms_op (ms_s_th σ 0)) (ms_ki (ms_s_th σ 0)).toNatClampNeg x1))) (3 * (ms_ki (ms_s_op (ms_s_th σ 0) (upd (ms_op (ms_s_th σ 0)) (ms_ki (ms_s_th σ 0)).toNatClampNeg x1)))).toNatClampNeg 9)) (upd (ms_to (ms_s_to (ms_s_op (ms_s_th σ 0) (upd (ms_op (ms_s_th σ 0)) (ms_ki (ms_s_th σ 0)).toNatClampNeg x1)) (upd (ms_to (ms_s_op (ms_s_th σ 0) (upd (ms_op (ms_s_th σ 0)) (ms_ki (ms_s_th σ 0)).toNatClampNeg x1))) (3 * (ms_ki (ms_s_op (ms_s_th σ 0) (upd (ms_op (ms_s_th σ 0)) (ms_ki (ms_s_th σ 0)).toNatClampNeg x1)))).toNatClampNeg 9))) ((3 * (ms_ki (ms_s_to (ms_s_op (ms_s_th σ 0) (upd (ms_op (ms_s_th σ 0)) (ms_ki (ms_s_th σ 0)).toNatClampNeg x1)) (upd (ms_to (ms_s_op (ms_s_th σ 0) (upd (ms_op (ms_s_th σ 0)) (ms_ki (ms_s_th σ 0)).toNatClampNeg x1))) (3 * (ms_ki (ms_s_op (ms_s_th σ 0) (upd (ms_op (ms_s_th σ 0)) (ms_ki (ms_s_th σ 0)).toNatClampNeg x1)))).toNatClampNeg 9)))) + 1).toNatClampNeg 9)))) + 2).toNatClampNeg 9999)) (upd (ms_ta (ms_s_to (ms_s_to (ms_s_to (ms_s_op (ms_s_th σ 0) (upd (ms_op (ms_s_th σ 0)) (ms_ki (ms_s_th σ 0)).toNatClampNeg x1)) (upd (ms_to (ms_s_op (ms_s_th σ 0) (upd (ms_op (ms_s_th σ 0)) (ms_ki (ms_s_th σ 0)).toNatClampNeg x1))) (3 * (ms_ki (ms_s_op (ms_s_th σ 0) (upd (ms_op (ms_s_th σ 0)) (ms_ki (ms_s_th σ 0)).toNatClampNeg x1)))).toNatClampNeg 9)) (upd (ms_to (ms_s_to (ms_s_op (ms_s_th σ 0) (upd (ms_op (ms_s_th σ 0)) (ms_ki (ms_s_th σ 0)).toNatClampNeg x1)) (upd (ms_to (ms_s_op (ms_s_th σ 0) (upd (ms_op (ms_s_th σ 0)) (ms_ki (ms_s_th σ 0)).toNatClampNeg x1))) (3 * (ms_ki (ms_s_op (ms_s_th σ 0) (upd (ms_op (ms_s_th σ 0)) (ms_ki (ms_s_th σ 0)).toNatClampNeg x1)))).toNatClampNeg 9))) ((3 * (ms_ki (ms_s_to (ms_s_op (ms_s_th σ 0) (upd (ms_op (ms_s_th σ 0)) (ms_ki (ms_s_th σ 0)).toNatClampNeg x1)) (upd (ms_to (ms_s_op (ms_s_th σ 0) (upd (ms_op (ms_s_th σ 0)) (ms_ki (ms_s_th σ 0)).toNatClampNeg x1))) (3 * (ms_ki (ms_s_op (ms_s_th σ 0) (upd (ms_op (ms_s_th σ 0)) (ms_ki (ms_s_th σ 0)).toNatClampNeg x1)))).toNatClampNeg 9)))) + 1).toNatClampNeg 9)) (upd (ms_to (ms_s_to (ms_s_to (ms_s_op (ms_s_th σ 0) (upd (ms_op (ms_s_th σ 0)) (ms_ki (ms_s_th σ 0)).toNatClampNeg x1)) (upd (ms_to (ms_s_op (ms_s_th σ 0) (upd (ms_op (ms_s_th σ 0)) (ms_ki (ms_s_th σ 0)).toNatClampNeg x1))) (3 * (ms_ki (ms_s_op (ms_s_th σ 0) (upd (ms_op (ms_s_th σ 0)) (ms_ki (ms_s_th σ 0)).toNatClampNeg x1)))).toNatClampNeg 9)) (upd (ms_to (ms_s_to (ms_s_op (ms_s_th σ 0) (upd (ms_op (ms_s_th σ 0)) (ms_ki (ms_s_th σ 0)).toNatClampNeg x1)) (upd (ms_to (ms_s_op (ms_s_th σ 0) (upd (ms_op (ms_s_th σ 0)) (ms_ki (ms_s_th σ 0)).toNatClampNeg x1))) (3 * (ms_ki (ms_s_op (ms_s_th σ 0) (upd (ms_op (ms_s_th σ 0)) (ms_ki (ms_s_th σ 0)).toNatClampNeg x1)))).toNatClampNeg 9))) ((3 * (ms_ki (ms_s_to (ms_s_op (ms_s_th σ 0) (upd (ms_op (ms_s_th σ 0)) (ms_ki (ms_s_th σ 0)).toNatClampNeg x1)) (upd (ms_to (ms_s_op (ms_s_th σ 0) (upd (ms_op (ms_s_th σ 0)) (ms_ki (ms_s_th σ 0)).toNatClampNeg x1))) (3 * (ms_ki (ms_s_op (ms_s_th σ 0) (upd (ms_op (ms_s_th σ 0)) (ms_ki (ms_s_th σ 0)).toNatClampNeg x1)))).toNatClampNeg 9)))) + 1).toNatClampNeg 9))) ((3 * (ms_ki (ms_s_to (ms_s_to (ms_s_op (ms_s_th σ 0) (upd (ms_op (ms_s_th σ 0)) (ms_ki (ms_s_th σ 0)).toNatClampNeg x1)) (upd (ms_to (ms_s_op (ms_s_th σ 0) (upd (ms_op (ms_s_th σ 0)) (ms_ki (ms_s_th σ 0)).toNatClampNeg x1))) (3 * (ms_ki (ms_s_op (ms_s_th σ 0) (upd (ms_op (ms_s_th σ 0)) (ms_ki (ms_s_th σ 0)).toNatClampNeg x1)))).toNatClampNeg 9)) (upd (ms_to (ms_s_to (ms_s_op (ms_s_th σ 0) (upd (ms_op (ms_s_th σ 0)) (ms_ki (ms_s_th σ 0)).toNatClampNeg x1)) (upd (ms_to (ms_s_op (ms_s_th σ 0) (upd (ms_op (ms_s_th σ 0)) (ms_ki (ms_s_th σ 0)).toNatClampNeg x1))) (3 * (ms_ki (ms_s_op (ms_s_th σ 0) (upd (ms_op (ms_s_th σ 0)) (ms_ki (ms_s_th σ 0)).toNatClampNeg x1)))).toNatClampNeg 9))) ((3 * (ms_ki (ms_s_to (ms_s_op (ms_s_th σ 0) (upd (ms_op (ms_s_th σ 0)) (ms_ki (ms_s_th σ 0)).toNatClampNeg x1)) (upd (ms_to (ms_s_op (ms_s_th σ 0) (upd (ms_op (ms_s_th σ 0)) (ms_ki (ms_s_th σ 0)).toNatClampNeg x1))) (3 * (ms_ki (ms_s_op (ms_s_th σ 0) (upd (ms_op (ms_s_th σ 0)) (ms_ki (ms_s_th σ 0)).toNatClampNeg x1)))).toNatClampNeg 9)))) + 1).toNatClampNeg 9)))) + 2).toNatClampNeg 9999))) (ms_ki (ms_s_to (ms_s_to (ms_s_to (ms_s_op (ms_s_th σ 0) (upd (ms_op (ms_s_th σ 0)) (ms_ki (ms_s_th σ 0)).toNatClampNeg x1)) (upd (ms_to (ms_s_op (ms_s_th σ 0) (upd (ms_op (ms_s_th σ 0)) (ms_ki (ms_s_th σ 0)).toNatClampNeg x1))) (3 * (ms_ki (ms_s_op (ms_s_th σ 0) (upd (ms_op (ms_s_th σ 0)) (ms_ki (ms_s_th σ 0)).toNatClampNeg x1)))).toNatClampNeg 9)) (upd (ms_to (ms_s_to (ms_s_op (ms_s_th σ 0) (upd (ms_op (ms_s_th σ 0)) (ms_ki (ms_s_th σ 0)).toNatClampNeg x1)) (upd (ms_to (ms_s_op (ms_s_th σ 0) (upd (ms_op (ms_s_th σ 0)) (ms_ki (ms_s_th σ 0)).toNatClampNeg x1))) (3 * (ms_ki (ms_s_op (ms_s_th σ 0) (upd (ms_op (ms_s_th σ 0)) (ms_ki (ms_s_th σ 0)).toNatClampNeg x1)))).toNatClampNeg 9))) ((3 * (ms_ki (ms_s_to (ms_s_op (ms_s_th σ 0) (upd (ms_op (ms_s_th σ 0)) (ms_ki (ms_s_th σ 0)).toNatClampNeg x1)) (upd (ms_to (ms_s_op (ms_s_th σ 0) (upd (ms_op (ms_s_th σ 0)) (ms_ki (ms_s_th σ 0)).toNatClampNeg x1))) (3 * (ms_ki (ms_s_op (ms_s_th σ 0) (upd (ms_op (ms_s_th σ 0)) (ms_ki (ms_s_th σ 0)).toNatClampNeg x1)))).toNatClampNeg 9)))) + 1).toNatClampNeg 9)) (upd (ms_to (ms_s_to (ms_s_to (ms_s_op (ms_s_th σ 0) (upd (ms_op (ms_s_th σ 0)) (ms_ki (ms_s_th σ 0)).toNatClampNeg x1)) (upd (ms_to (ms_s_op (ms_s_th σ 0) (upd (ms_op (ms_s_th σ 0)) (ms_ki (ms_s_th σ 0)).toNatClampNeg x1))) (3 * (ms_ki (ms_s_op (ms_s_th σ 0) (upd (ms_op (ms_s_th σ 0)) (ms_ki (ms_s_th σ 0)).toNatClampNeg x1)))).toNatClampNeg 9)) (upd (ms_to (ms_s_to (ms_s_op (ms_s_th σ 0) (upd (ms_op (ms_s_th σ 0)) (ms_ki (ms_s_th σ 0)).toNatClampNeg x1)) (upd (ms_to (ms_s_op (ms_s_th σ 0) (upd (ms_op (ms_s_th σ 0)) (ms_ki (ms_s_th σ 0)).toNatClampNeg x1))) (3 * (ms_ki (ms_s_op (ms_s_th σ 0) (upd (ms_op (ms_s_th σ 0)) (ms_ki (ms_s_th σ 0)).toNatClampNeg x1)))).toNatClampNeg 9))) ((3 * (ms_ki (ms_s_to (ms_s_op (ms_s_th σ 0) (upd (ms_op (ms_s_th σ 0)) (ms_ki (ms_s_th σ 0)).toNatClampNeg x1)) (upd (ms_to (ms_s_op (ms_s_th σ 0) (upd (ms_op (ms_s_th σ 0)) (ms_ki (ms_s_th σ 0)).toNatClampNeg x1))) (3 * (ms_ki (ms_s_op (ms_s_th σ 0) (upd (ms_op (ms_s_th σ 0)) (ms_ki (ms_s_th σ 0)).toNatClampNeg x1)))).toNatClampNeg 9)))) + 1).toNatClampNeg 9))) ((3 * (ms_ki (ms_s_to (ms_s_to (ms_s_op (ms_s_th σ 0) (upd (ms_op (ms_s_th σ 0)) (ms_ki (ms_s_th σ 0)).toNatClampNeg x1)) (upd (ms_to (ms_s_op (ms_s_th σ 0) (upd (ms_op (ms_s_th σ 0)) (ms_ki (ms_s_th σ 0)).toNatClampNeg x1))) (3 * (ms_ki (ms_s_op (ms_s_th σ 0) (upd (ms_op (ms_s_th σ 0)) (ms_ki (ms_s_th σ 0)).toNatClampNeg x1)))).toNatClampNeg 9)) (upd (ms_to (ms_s_to (ms_s_op (ms_s_th σ 0) (upd (ms_op (ms_s_th σ 0)) (ms_ki (ms_s_th σ 0)).toNatClampNeg x1)) (upd (ms_to (ms_s_op (ms_s_th σ 0) (upd (ms_op (ms_s_th σ 0)) (ms_ki (ms_s_th σ 0)).toNatClampNeg x1))) (3 * (ms_ki (ms_s_op (ms_s_th σ 0) (upd (ms_op (ms_s_th σ 0)) (ms_ki (ms_s_th σ 0)).toNatClampNeg x1)))).toNatClampNeg 9))) ((3 * (ms_ki (ms_s_to (ms_s_op (ms_s_th σ 0) (upd (ms_op (ms_s_th σ 0)) (ms_ki (ms_s_th σ 0)).toNatClampNeg x1)) (upd (ms_to (ms_s_op (ms_s_th σ 0) (upd (ms_op (ms_s_th σ 0)) (ms_ki (ms_s_th σ 0)).toNatClampNeg x1))) (3 * (ms_ki (ms_s_op (ms_s_th σ 0) (upd (ms_op (ms_s_th σ 0)) (ms_ki (ms_s_th σ 0)).toNatClampNeg x1)))).toNatClampNeg 9)))) + 1).toNatClampNeg 9)))) + 2).toNatClampNeg 9999))).toNatClampNeg 1))) + 1))) H := hP
      refine lv_aload_n hx hb dX2_kind_106 rfl (lv_at hl 0 rfl) ?_
      refine va_get (D := D) (ci := 2) (v := .int (ms_ki (ms_s_ki (ms_s_ta (ms_s_to (ms_s_to (ms_s_to (ms_s_op (ms_s_th σ 0) (upd (ms_op (ms_s_th σ 0)) (ms_ki (ms_s_th σ 0)).toNatClampNeg x1)) (upd (ms_to (ms_s_op (ms_s_th σ 0) (upd (ms_op (ms_s_th σ 0)) (ms_ki (ms_s_th σ 0)).toNatClampNeg x1))) (3 * (ms_ki (ms_s_op (ms_s_th σ 0) (upd (ms_op (ms_s_th σ 0)) (ms_ki (ms_s_th σ 0)).toNatClampNeg x1)))).toNatClampNeg 9)) (upd (ms_to (ms_s_to (ms_s_op (ms_s_th σ 0) (upd (ms_op (ms_s_th σ 0)) (ms_ki (ms_s_th σ 0)).toNatClampNeg x1)) (upd (ms_to (ms_s_op (ms_s_th σ 0) (upd (ms_op (ms_s_th σ 0)) (ms_ki (ms_s_th σ 0)).toNatClampNeg x1))) (3 * (ms_ki (ms_s_op (ms_s_th σ 0) (upd (ms_op (ms_s_th σ 0)) (ms_ki (ms_s_th σ 0)).toNatClampNeg x1)))).toNatClampNeg 9))) ((3 * (ms_ki (ms_s_to (ms_s_op (ms_s_th σ 0) (upd (ms_op (ms_s_th σ 0)) (ms_ki (ms_s_th σ 0)).toNatClampNeg x1)) (upd (ms_to (ms_s_op (ms_s_th σ 0) (upd (ms_op (ms_s_th σ 0)) (ms_ki (ms_s_th σ 0)).toNatClampNeg x1))) (3 * (ms_ki (ms_s_op (ms_s_th σ 0) (upd (ms_op (ms_s_th σ 0)) (ms_ki (ms_s_th σ 0)).toNatClampNeg x1)))).toNatClampNeg 9)))) + 1).toNatClampNeg 9)) (upd (ms_to (ms_s_to (ms_s_to (ms_s_op (ms_s_th σ 0) (upd (ms_op (ms_s_th σ 0)) (ms_ki (ms_s_th σ 0)).toNatClampNeg x1)) (upd (ms_to (ms_s_op (ms_s_th σ 0) (upd (ms_op (ms_s_th σ 0)) (ms_ki (ms_s_th σ 0)).toNatClampNeg x1))) (3 * (ms_ki (ms_s_op (ms_s_th σ 0) (upd (ms_op (ms_s_th σ 0)) (ms_ki (ms_s_th σ 0)).toNatClampNeg x1)))).toNatClampNeg 9)) (upd (ms_to (ms_s_to (ms_s_op (ms_s_th σ 0) (upd (ms_op (ms_s_th σ 0)) (ms_ki (ms_s_th σ 0)).toNatClampNeg x1)) (upd (ms_to (ms_s_op (ms_s_th σ 0) (upd (ms_op (ms_s_th σ 0)) (ms_ki (ms_s_th σ 0)).toNatClampNeg x1))) (3 * (ms_ki (ms_s_op (ms_s_th σ 0) (upd (ms_op (ms_s_th σ 0)) (ms_ki (ms_s_th σ 0)).toNatClampNeg x1)))).toNatClampNeg 9))) ((3 * (ms_ki (ms_s_to (ms_s_op (ms_s_th σ 0) (upd (ms_op (ms_s_th σ 0)) (ms_ki (ms_s_th σ 0)).toNatClampNeg x1)) (upd (ms_to (ms_s_op (ms_s_th σ 0) (upd (ms_op (ms_s_th σ 0)) (ms_ki (ms_s_th σ 0)).toNatClampNeg x1))) (3 * (ms_ki (ms_s_op (ms_s_th σ 0) (upd (ms_op (ms_s_th σ 0)) (ms_ki (ms_s_th σ 0)).toNatClampNeg x1)))).toNatClampNeg 9)))) + 1).toNatClampNeg 9))) ((3 * (ms_ki (ms_s_to (ms_s_to (ms_s_op (ms_s_th σ 0) (upd (ms_op (ms_s_th σ 0)) (ms_ki (ms_s_th σ 0)).toNatClampNeg x1)) (upd (ms_to (ms_s_op (ms_s_th σ 0) (upd (ms_op (ms_s_th σ 0)) (ms_ki (ms_s_th σ 0)).toNatClampNeg x1))) (3 * (ms_ki (ms_s_op (ms_s_th σ 0) (upd (ms_op (ms_s_th σ 0)) (ms_ki (ms_s_th σ 0)).toNatClampNeg x1)))).toNatClampNeg 9)) (upd (ms_to (ms_s_to (ms_s_op (ms_s_th σ 0) (upd (ms_op (ms_s_th σ 0)) (ms_ki (ms_s_th σ 0)).toNatClampNeg x1)) (upd (ms_to (ms_s_op (ms_s_th σ 0) (upd (ms_op (ms_s_th σ 0)) (ms_ki (ms_s_th σ 0)).toNatClampNeg x1))) (3 * (ms_ki (ms_s_op (ms_s_th σ 0) (upd (ms_op (ms_s_th σ 0)) (ms_ki (ms_s_th σ 0)).toNatClampNeg x1)))).toNatClampNeg 9))) ((3 * (ms_ki (ms_s_to (ms_s_op (ms_s_th σ 0) (upd (ms_op (ms_s_th σ 0)) (ms_ki (ms_s_th σ 0)).toNatClampNeg x1)) (upd (ms_to (ms_s_op (ms_s_th σ 0) (upd (ms_op (ms_s_th σ 0)) (ms_ki (ms_s_th σ 0)).toNatClampNeg x1))) (3 * (ms_ki (ms_s_op (ms_s_th σ 0) (upd (ms_op (ms_s_th σ 0)) (ms_ki (ms_s_th σ 0)).toNatClampNeg x1)))).toNatClampNeg 9)))) + 1).toNatClampNeg 9)))) + 2).toNatClampNeg 9999)) (upd (ms_ta (ms_s_to (ms_s_to (ms_s_to (ms_s_op (ms_s_th σ 0) (upd (ms_op (ms_s_th σ 0)) (ms_ki (ms_s_th σ 0)).toNatClampNeg x1)) (upd (ms_to (ms_s_op (ms_s_th σ 0) (upd (ms_op (ms_s_th σ 0)) (ms_ki (ms_s_th σ 0)).toNatClampNeg x1))) (3 * (ms_ki (ms_s_op (ms_s_th σ 0) (upd (ms_op (ms_s_th σ 0)) (ms_ki (ms_s_th σ 0)).toNatClampNeg x1)))).toNatClampNeg 9)) (upd (ms_to (ms_s_to (ms_s_op (ms_s_th σ 0) (upd (ms_op (ms_s_th σ 0)) (ms_ki (ms_s_th σ 0)).toNatClampNeg x1)) (upd (ms_to (ms_s_op (ms_s_th σ 0) (upd (ms_op (ms_s_th σ 0)) (ms_ki (ms_s_th σ 0)).toNatClampNeg x1))) (3 * (ms_ki (ms_s_op (ms_s_th σ 0) (upd (ms_op (ms_s_th σ 0)) (ms_ki (ms_s_th σ 0)).toNatClampNeg x1)))).toNatClampNeg 9))) ((3 * (ms_ki (ms_s_to (ms_s_op (ms_s_th σ 0) (upd (ms_op (ms_s_th σ 0)) (ms_ki (ms_s_th σ 0)).toNatClampNeg x1)) (upd (ms_to (ms_s_op (ms_s_th σ 0) (upd (ms_op (ms_s_th σ 0)) (ms_ki (ms_s_th σ 0)).toNatClampNeg x1))) (3 * (ms_ki (ms_s_op (ms_s_th σ 0) (upd (ms_op (ms_s_th σ 0)) (ms_ki (ms_s_th σ 0)).toNatClampNeg x1)))).toNatClampNeg 9)))) + 1).toNatClampNeg 9)) (upd (ms_to (ms_s_to (ms_s_to (ms_s_op (ms_s_th σ 0) (upd (ms_op (ms_s_th σ 0)) (ms_ki (ms_s_th σ 0)).toNatClampNeg x1)) (upd (ms_to (ms_s_op (ms_s_th σ 0) (upd (ms_op (ms_s_th σ 0)) (ms_ki (ms_s_th σ 0)).toNatClampNeg x1))) (3 * (ms_ki (ms_s_op (ms_s_th σ 0) (upd (ms_op (ms_s_th σ 0)) (ms_ki (ms_s_th σ 0)).toNatClampNeg x1)))).toNatClampNeg 9)) (upd (ms_to (ms_s_to (ms_s_op (ms_s_th σ 0) (upd (ms_op (ms_s_th σ 0)) (ms_ki (ms_s_th σ 0)).toNatClampNeg x1)) (upd (ms_to (ms_s_op (ms_s_th σ 0) (upd (ms_op (ms_s_th σ 0)) (ms_ki (ms_s_th σ 0)).toNatClampNeg x1))) (3 * (ms_ki (ms_s_op (ms_s_th σ 0) (upd (ms_op (ms_s_th σ 0)) (ms_ki (ms_s_th σ 0)).toNatClampNeg x1)))).toNatClampNeg 9))) ((3 * (ms_ki (ms_s_to (ms_s_op (ms_s_th σ 0) (upd (ms_op (ms_s_th σ 0)) (ms_ki (ms_s_th σ 0)).toNatClampNeg x1)) (upd (ms_to (ms_s_op (ms_s_th σ 0) (upd (ms_op (ms_s_th σ 0)) (ms_ki (ms_s_th σ 0)).toNatClampNeg x1))) (3 * (ms_ki (ms_s_op (ms_s_th σ 0) (upd (ms_op (ms_s_th σ 0)) (ms_ki (ms_s_th σ 0)).toNatClampNeg x1)))).toNatClampNeg 9)))) + 1).toNatClampNeg 9))) ((3 * (ms_ki (ms_s_to (ms_s_to (ms_s_op (ms_s_th σ 0) (upd (ms_op (ms_s_th σ 0)) (ms_ki (ms_s_th σ 0)).toNatClampNeg x1)) (upd (ms_to (ms_s_op (ms_s_th σ 0) (upd (ms_op (ms_s_th σ 0)) (ms_ki (ms_s_th σ 0)).toNatClampNeg x1))) (3 * (ms_ki (ms_s_op (ms_s_th σ 0) (upd (ms_op (ms_s_th σ 0)) (ms_ki (ms_s_th σ 0)).toNatClampNeg x1)))).toNatClampNeg 9)) (upd (ms_to (ms_s_to (ms_s_op (ms_s_th σ 0) (upd (ms_op (ms_s_th σ 0)) (ms_ki (ms_s_th σ 0)).toNatClampNeg x1)) (upd (ms_to (ms_s_op (ms_s_th σ 0) (upd (ms_op (ms_s_th σ 0)) (ms_ki (ms_s_th σ 0)).toNatClampNeg x1))) (3 * (ms_ki (ms_s_op (ms_s_th σ 0) (upd (ms_op (ms_s_th σ 0)) (ms_ki (ms_s_th σ 0)).toNatClampNeg x1)))).toNatClampNeg 9))) ((3 * (ms_ki (ms_s_to (ms_s_op (ms_s_th σ 0) (upd (ms_op (ms_s_th σ 0)) (ms_ki (ms_s_th σ 0)).toNatClampNeg x1)) (upd (ms_to (ms_s_op (ms_s_th σ 0) (upd (ms_op (ms_s_th σ 0)) (ms_ki (ms_s_th σ 0)).toNatClampNeg x1))) (3 * (ms_ki (ms_s_op (ms_s_th σ 0) (upd (ms_op (ms_s_th σ 0)) (ms_ki (ms_s_th σ 0)).toNatClampNeg x1)))).toNatClampNeg 9)))) + 1).toNatClampNeg 9)))) + 2).toNatClampNeg 9999))) (ms_ki (ms_s_to (ms_s_to (ms_s_to (ms_s_op (ms_s_th σ 0) (upd (ms_op (ms_s_th σ 0)) (ms_ki (ms_s_th σ 0)).toNatClampNeg x1)) (upd (ms_to (ms_s_op (ms_s_th σ 0) (upd (ms_op (ms_s_th σ 0)) (ms_ki (ms_s_th σ 0)).toNatClampNeg x1))) (3 * (ms_ki (ms_s_op (ms_s_th σ 0) (upd (ms_op (ms_s_th σ 0)) (ms_ki (ms_s_th σ 0)).toNatClampNeg x1)))).toNatClampNeg 9)) (upd (ms_to (ms_s_to (ms_s_op (ms_s_th σ 0) (upd (ms_op (ms_s_th σ 0)) (ms_ki (ms_s_th σ 0)).toNatClampNeg x1)) (upd (ms_to (ms_s_op (ms_s_th σ 0) (upd (ms_op (ms_s_th σ 0)) (ms_ki (ms_s_th σ 0)).toNatClampNeg x1))) (3 * (ms_ki (ms_s_op (ms_s_th σ 0) (upd (ms_op (ms_s_th σ 0)) (ms_ki (ms_s_th σ 0)).toNatClampNeg x1)))).toNatClampNeg 9))) ((3 * (ms_ki (ms_s_to (ms_s_op (ms_s_th σ 0) (upd (ms_op (ms_s_th σ 0)) (ms_ki (ms_s_th σ 0)).toNatClampNeg x1)) (upd (ms_to (ms_s_op (ms_s_th σ 0) (upd (ms_op (ms_s_th σ 0)) (ms_ki (ms_s_th σ 0)).toNatClampNeg x1))) (3 * (ms_ki (ms_s_op (ms_s_th σ 0) (upd (ms_op (ms_s_th σ 0)) (ms_ki (ms_s_th σ 0)).toNatClampNeg x1)))).toNatClampNeg 9)))) + 1).toNatClampNeg 9)) (upd (ms_to (ms_s_to (ms_s_to (ms_s_op (ms_s_th σ 0) (upd (ms_op (ms_s_th σ 0)) (ms_ki (ms_s_th σ 0)).toNatClampNeg x1)) (upd (ms_to (ms_s_op (ms_s_th σ 0) (upd (ms_op (ms_s_th σ 0)) (ms_ki (ms_s_th σ 0)).toNatClampNeg x1))) (3 * (ms_ki (ms_s_op (ms_s_th σ 0) (upd (ms_op (ms_s_th σ 0)) (ms_ki (ms_s_th σ 0)).toNatClampNeg x1)))).toNatClampNeg 9)) (upd (ms_to (ms_s_to (ms_s_op (ms_s_th σ 0) (upd (ms_op (ms_s_th σ 0)) (ms_ki (ms_s_th σ 0)).toNatClampNeg x1)) (upd (ms_to (ms_s_op (ms_s_th σ 0) (upd (ms_op (ms_s_th σ 0)) (ms_ki (ms_s_th σ 0)).toNatClampNeg x1))) (3 * (ms_ki (ms_s_op (ms_s_th σ 0) (upd (ms_op (ms_s_th σ 0)) (ms_ki (ms_s_th σ 0)).toNatClampNeg x1)))).toNatClampNeg 9))) ((3 * (ms_ki (ms_s_to (ms_s_op (ms_s_th σ 0) (upd (ms_op (ms_s_th σ 0)) (ms_ki (ms_s_th σ 0)).toNatClampNeg x1)) (upd (ms_to (ms_s_op (ms_s_th σ 0) (upd (ms_op (ms_s_th σ 0)) (ms_ki (ms_s_th σ 0)).toNatClampNeg x1))) (3 * (ms_ki (ms_s_op (ms_s_th σ 0) (upd (ms_op (ms_s_th σ 0)) (ms_ki (ms_s_th σ 0)).toNatClampNeg x1)))).toNatClampNeg 9)))) + 1).toNatClampNeg 9))) ((3 * (ms_ki (ms_s_to (ms_s_to (ms_s_op (ms_s_th σ 0) (upd (ms_op (ms_s_th σ 0)) (ms_ki (ms_s_th σ 0)).toNatClampNeg x1)) (upd (ms_to (ms_s_op (ms_s_th σ 0) (upd (ms_op (ms_s_th σ 0)) (ms_ki (ms_s_th σ 0)).toNatClampNeg x1))) (3 * (ms_ki (ms_s_op (ms_s_th σ 0) (upd (ms_op (ms_s_th σ 0)) (ms_ki (ms_s_th σ 0)).toNatClampNeg x1)))).toNatClampNeg 9)) (upd (ms_to (ms_s_to (ms_s_op (ms_s_th σ 0) (upd (ms_op (ms_s_th σ 0)) (ms_ki (ms_s_th σ 0)).toNatClampNeg x1)) (upd (ms_to (ms_s_op (ms_s_th σ 0) (upd (ms_op (ms_s_th σ 0)) (ms_ki (ms_s_th σ 0)).toNatClampNeg x1))) (3 * (ms_ki (ms_s_op (ms_s_th σ 0) (upd (ms_op (ms_s_th σ 0)) (ms_ki (ms_s_th σ 0)).toNatClampNeg x1)))).toNatClampNeg 9))) ((3 * (ms_ki (ms_s_to (ms_s_op (ms_s_th σ 0) (upd (ms_op (ms_s_th σ 0)) (ms_ki (ms_s_th σ 0)).toNatClampNeg x1)) (upd (ms_to (ms_s_op (ms_s_th σ 0) (upd (ms_op (ms_s_th σ 0)) (ms_ki (ms_s_th σ 0)).toNatClampNeg x1))) (3 * (ms_ki (ms_s_op (ms_s_th σ 0) (upd (ms_op (ms_s_th σ 0)) (ms_ki (ms_s_th σ 0)).toNatClampNeg x1)))).toNatClampNeg 9)))) + 1).toNatClampNeg 9)))) + 2).toNatClampNeg 9999))).toNatClampNeg 1)) ((ms_ki (ms_s_ta (ms_s_to (ms_s_to (ms_s_to (ms_s_op (ms_s_th σ 0) (upd (ms_op (ms_s_th σ 0)) (ms_ki (ms_s_th σ 0)).toNatClampNeg x1)) (upd (ms_to (ms_s_op (ms_s_th σ 0) (upd (ms_op (ms_s_th σ 0)) (ms_ki (ms_s_th σ 0)).toNatClampNeg x1))) (3 * (ms_ki (ms_s_op (ms_s_th σ 0) (upd (ms_op (ms_s_th σ 0)) (ms_ki (ms_s_th σ 0)).toNatClampNeg x1)))).toNatClampNeg 9)) (upd (ms_to (ms_s_to (ms_s_op (ms_s_th σ 0) (upd (ms_op (ms_s_th σ 0)) (ms_ki (ms_s_th σ 0)).toNatClampNeg x1)) (upd (ms_to (ms_s_op (ms_s_th σ 0) (upd (ms_op (ms_s_th σ 0)) (ms_ki (ms_s_th σ 0)).toNatClampNeg x1))) (3 * (ms_ki (ms_s_op (ms_s_th σ 0) (upd (ms_op (ms_s_th σ 0)) (ms_ki (ms_s_th σ 0)).toNatClampNeg x1)))).toNatClampNeg 9))) ((3 * (ms_ki (ms_s_to (ms_s_op (ms_s_th σ 0) (upd (ms_op (ms_s_th σ 0)) (ms_ki (ms_s_th σ 0)).toNatClampNeg x1)) (upd (ms_to (ms_s_op (ms_s_th σ 0) (upd (ms_op (ms_s_th σ 0)) (ms_ki (ms_s_th σ 0)).toNatClampNeg x1))) (3 * (ms_ki (ms_s_op (ms_s_th σ 0) (upd (ms_op (ms_s_th σ 0)) (ms_ki (ms_s_th σ 0)).toNatClampNeg x1)))).toNatClampNeg 9)))) + 1).toNatClampNeg 9)) (upd (ms_to (ms_s_to (ms_s_to (ms_s_op (ms_s_th σ 0) (upd (ms_op (ms_s_th σ 0)) (ms_ki (ms_s_th σ 0)).toNatClampNeg x1)) (upd (ms_to (ms_s_op (ms_s_th σ 0) (upd (ms_op (ms_s_th σ 0)) (ms_ki (ms_s_th σ 0)).toNatClampNeg x1))) (3 * (ms_ki (ms_s_op (ms_s_th σ 0) (upd (ms_op (ms_s_th σ 0)) (ms_ki (ms_s_th σ 0)).toNatClampNeg x1)))).toNatClampNeg 9)) (upd (ms_to (ms_s_to (ms_s_op (ms_s_th σ 0) (upd (ms_op (ms_s_th σ 0)) (ms_ki (ms_s_th σ 0)).toNatClampNeg x1)) (upd (ms_to (ms_s_op (ms_s_th σ 0) (upd (ms_op (ms_s_th σ 0)) (ms_ki (ms_s_th σ 0)).toNatClampNeg x1))) (3 * (ms_ki (ms_s_op (ms_s_th σ 0) (upd (ms_op (ms_s_th σ 0)) (ms_ki (ms_s_th σ 0)).toNatClampNeg x1)))).toNatClampNeg 9))) ((3 * (ms_ki (ms_s_to (ms_s_op (ms_s_th σ 0) (upd (ms_op (ms_s_th σ 0)) (ms_ki (ms_s_th σ 0)).toNatClampNeg x1)) (upd (ms_to (ms_s_op (ms_s_th σ 0) (upd (ms_op (ms_s_th σ 0)) (ms_ki (ms_s_th σ 0)).toNatClampNeg x1))) (3 * (ms_ki (ms_s_op (ms_s_th σ 0) (upd (ms_op (ms_s_th σ 0)) (ms_ki (ms_s_th σ 0)).toNatClampNeg x1)))).toNatClampNeg 9)))) + 1).toNatClampNeg 9))) ((3 * (ms_ki (ms_s_to (ms_s_to (ms_s_op (ms_s_th σ 0) (upd (ms_op (ms_s_th σ 0)) (ms_ki (ms_s_th σ 0)).toNatClampNeg x1)) (upd (ms_to (ms_s_op (ms_s_th σ 0) (upd (ms_op (ms_s_th σ 0)) (ms_ki (ms_s_th σ 0)).toNatClampNeg x1))) (3 * (ms_ki (ms_s_op (ms_s_th σ 0) (upd (ms_op (ms_s_th σ 0)) (ms_ki (ms_s_th σ 0)).toNatClampNeg x1)))).toNatClampNeg 9)) (upd (ms_to (ms_s_to (ms_s_op (ms_s_th σ 0) (upd (ms_op (ms_s_th σ 0)) (ms_ki (ms_s_th σ 0)).toNatClampNeg x1)) (upd (ms_to (ms_s_op (ms_s_th σ 0) (upd (ms_op (ms_s_th σ 0)) (ms_ki (ms_s_th σ 0)).toNatClampNeg x1))) (3 * (ms_ki (ms_s_op (ms_s_th σ 0) (upd (ms_op (ms_s_th σ 0)) (ms_ki (ms_s_th σ 0)).toNatClampNeg x1)))).toNatClampNeg 9))) ((3 * (ms_ki (ms_s_to (ms_s_op (ms_s_th σ 0) (upd (ms_op (ms_s_th σ 0)) (ms_ki (ms_s_th σ 0)).toNatClampNeg x1)) (upd (ms_to (ms_s_op (ms_s_th σ 0) (upd (ms_op (ms_s_th σ 0)) (ms_ki (ms_s_th σ 0)).toNatClampNeg x1))) (3 * (ms_ki (ms_s_op (ms_s_th σ 0) (upd (ms_op (ms_s_th σ 0)) (ms_ki (ms_s_th σ 0)).toNatClampNeg x1)))).toNatClampNeg 9)))) + 1).toNatClampNeg 9)))) + 2).toNatClampNeg 9999)) (upd (ms_ta (ms_s_to (ms_s_to (ms_s_to (ms_s_op (ms_s_th σ 0) (upd (ms_op (ms_s_th σ 0)) (ms_ki (ms_s_th σ 0)).toNatClampNeg x1)) (upd (ms_to (ms_s_op (ms_s_th σ 0) (upd (ms_op (ms_s_th σ 0)) (ms_ki (ms_s_th σ 0)).toNatClampNeg x1))) (3 * (ms_ki (ms_s_op (ms_s_th σ 0) (upd (ms_op (ms_s_th σ 0)) (ms_ki (ms_s_th σ 0)).toNatClampNeg x1)))).toNatClampNeg 9)) (upd (ms_to (ms_s_to (ms_s_op (ms_s_th σ 0) (upd (ms_op (ms_s_th σ 0)) (ms_ki (ms_s_th σ 0)).toNatClampNeg x1)) (upd (ms_to (ms_s_op (ms_s_th σ 0) (upd (ms_op (ms_s_th σ 0)) (ms_ki (ms_s_th σ 0)).toNatClampNeg x1))) (3 * (ms_ki (ms_s_op (ms_s_th σ 0) (upd (ms_op (ms_s_th σ 0)) (ms_ki (ms_s_th σ 0)).toNatClampNeg x1)))).toNatClampNeg 9))) ((3 * (ms_ki (ms_s_to (ms_s_op (ms_s_th σ 0) (upd (ms_op (ms_s_th σ 0)) (ms_ki (ms_s_th σ 0)).toNatClampNeg x1)) (upd (ms_to (ms_s_op (ms_s_th σ 0) (upd (ms_op (ms_s_th σ 0)) (ms_ki (ms_s_th σ 0)).toNatClampNeg x1))) (3 * (ms_ki (ms_s_op (ms_s_th σ 0) (upd (ms_op (ms_s_th σ 0)) (ms_ki (ms_s_th σ 0)).toNatClampNeg x1)))).toNatClampNeg 9)))) + 1).toNatClampNeg 9)) (upd (ms_to (ms_s_to (ms_s_to (ms_s_op (ms_s_th σ 0) (upd (ms_op (ms_s_th σ 0)) (ms_ki (ms_s_th σ 0)).toNatClampNeg x1)) (upd (ms_to (ms_s_op (ms_s_th σ 0) (upd (ms_op (ms_s_th σ 0)) (ms_ki (ms_s_th σ 0)).toNatClampNeg x1))) (3 * (ms_ki (ms_s_op (ms_s_th σ 0) (upd (ms_op (ms_s_th σ 0)) (ms_ki (ms_s_th σ 0)).toNatClampNeg x1)))).toNatClampNeg 9)) (upd (ms_to (ms_s_to (ms_s_op (ms_s_th σ 0) (upd (ms_op (ms_s_th σ 0)) (ms_ki (ms_s_th σ 0)).toNatClampNeg x1)) (upd (ms_to (ms_s_op (ms_s_th σ 0) (upd (ms_op (ms_s_th σ 0)) (ms_ki (ms_s_th σ 0)).toNatClampNeg x1))) (3 * (ms_ki (ms_s_op (ms_s_th σ 0) (upd (ms_op (ms_s_th σ 0)) (ms_ki (ms_s_th σ 0)).toNatClampNeg x1)))).toNatClampNeg 9))) ((3 * (ms_ki (ms_s_to (ms_s_op (ms_s_th σ 0) (upd (ms_op (ms_s_th σ 0)) (ms_ki (ms_s_th σ 0)).toNatClampNeg x1)) (upd (ms_to (ms_s_op (ms_s_th σ 0) (upd (ms_op (ms_s_th σ 0)) (ms_ki (ms_s_th σ 0)).toNatClampNeg x1))) (3 * (ms_ki (ms_s_op (ms_s_th σ 0) (upd (ms_op (ms_s_th σ 0)) (ms_ki (ms_s_th σ 0)).toNatClampNeg x1)))).toNatClampNeg 9)))) + 1).toNatClampNeg 9))) ((3 * (ms_ki (ms_s_to (ms_s_to (ms_s_op (ms_s_th σ 0) (upd (ms_op (ms_s_th σ 0)) (ms_ki (ms_s_th σ 0)).toNatClampNeg x1)) (upd (ms_to (ms_s_op (ms_s_th σ 0) (upd (ms_op (ms_s_th σ 0)) (ms_ki (ms_s_th σ 0)).toNatClampNeg x1))) (3 * (ms_ki (ms_s_op (ms_s_th σ 0) (upd (ms_op (ms_s_th σ 0)) (ms_ki (ms_s_th σ 0)).toNatClampNeg x1)))).toNatClampNeg 9)) (upd (ms_to (ms_s_to (ms_s_op (ms_s_th σ 0) (upd (ms_op (ms_s_th σ 0)) (ms_ki (ms_s_th σ 0)).toNatClampNeg x1)) (upd (ms_to (ms_s_op (ms_s_th σ 0) (upd (ms_op (ms_s_th σ 0)) (ms_ki (ms_s_th σ 0)).toNatClampNeg x1))) (3 * (ms_ki (ms_s_op (ms_s_th σ 0) (upd (ms_op (ms_s_th σ 0)) (ms_ki (ms_s_th σ 0)).toNatClampNeg x1)))).toNatClampNeg 9))) ((3 * (ms_ki (ms_s_to (ms_s_op (ms_s_th σ 0) (upd (ms_op (ms_s_th σ 0)) (ms_ki (ms_s_th σ 0)).toNatClampNeg x1)) (upd (ms_to (ms_s_op (ms_s_th σ 0) (upd (ms_op (ms_s_th σ 0)) (ms_ki (ms_s_th σ 0)).toNatClampNeg x1))) (3 * (ms_ki (ms_s_op (ms_s_th σ 0) (upd (ms_op (ms_s_th σ 0)) (ms_ki (ms_s_th σ 0)).toNatClampNeg x1)))).toNatClampNeg 9)))) + 1).toNatClampNeg 9)))) + 2).toNatClampNeg 9999))) (ms_ki (ms_s_to (ms_s_to (ms_s_to (ms_s_op (ms_s_th σ 0) (upd (ms_op (ms_s_th σ 0)) (ms_ki (ms_s_th σ 0)).toNatClampNeg x1)) (upd (ms_to (ms_s_op (ms_s_th σ 0) (upd (ms_op (ms_s_th σ 0)) (ms_ki (ms_s_th σ 0)).toNatClampNeg x1))) (3 * (ms_ki (ms_s_op (ms_s_th σ 0) (upd (ms_op (ms_s_th σ 0)) (ms_ki (ms_s_th σ 0)).toNatClampNeg x1)))).toNatClampNeg 9)) (upd (ms_to (ms_s_to (ms_s_op (ms_s_th σ 0) (upd (ms_op (ms_s_th σ 0)) (ms_ki (ms_s_th σ 0)).toNatClampNeg x1)) (upd (ms_to (ms_s_op (ms_s_th σ 0) (upd (ms_op (ms_s_th σ 0)) (ms_ki (ms_s_th σ 0)).toNatClampNeg x1))) (3 * (ms_ki (ms_s_op (ms_s_th σ 0) (upd (ms_op (ms_s_th σ 0)) (ms_ki (ms_s_th σ 0)).toNatClampNeg x1)))).toNatClampNeg 9))) ((3 * (ms_ki (ms_s_to (ms_s_op (ms_s_th σ 0) (upd (ms_op (ms_s_th σ 0)) (ms_ki (ms_s_th σ 0)).toNatClampNeg x1)) (upd (ms_to (ms_s_op (ms_s_th σ 0) (upd (ms_op (ms_s_th σ 0)) (ms_ki (ms_s_th σ 0)).toNatClampNeg x1))) (3 * (ms_ki (ms_s_op (ms_s_th σ 0) (upd (ms_op (ms_s_th σ 0)) (ms_ki (ms_s_th σ 0)).toNatClampNeg x1)))).toNatClampNeg 9)))) + 1).toNatClampNeg 9)) (upd (ms_to (ms_s_to (ms_s_to (ms_s_op (ms_s_th σ 0) (upd (ms_op (ms_s_th σ 0)) (ms_ki (ms_s_th σ 0)).toNatClampNeg x1)) (upd (ms_to (ms_s_op (ms_s_th σ 0) (upd (ms_op (ms_s_th σ 0)) (ms_ki (ms_s_th σ 0)).toNatClampNeg x1))) (3 * (ms_ki (ms_s_op (ms_s_th σ 0) (upd (ms_op (ms_s_th σ 0)) (ms_ki (ms_s_th σ 0)).toNatClampNeg x1)))).toNatClampNeg 9)) (upd (ms_to (ms_s_to (ms_s_op (ms_s_th σ 0) (upd (ms_op (ms_s_th σ 0)) (ms_ki (ms_s_th σ 0)).toNatClampNeg x1)) (upd (ms_to (ms_s_op (ms_s_th σ 0) (upd (ms_op (ms_s_th σ 0)) (ms_ki (ms_s_th σ 0)).toNatClampNeg x1))) (3 * (ms_ki (ms_s_op (ms_s_th σ 0) (upd (ms_op (ms_s_th σ 0)) (ms_ki (ms_s_th σ 0)).toNatClampNeg x1)))).toNatClampNeg 9))) ((3 * (ms_ki (ms_s_to (ms_s_op (ms_s_th σ 0) (upd (ms_op (ms_s_th σ 0)) (ms_ki (ms_s_th σ 0)).toNatClampNeg x1)) (upd (ms_to (ms_s_op (ms_s_th σ 0) (upd (ms_op (ms_s_th σ 0)) (ms_ki (ms_s_th σ 0)).toNatClampNeg x1))) (3 * (ms_ki (ms_s_op (ms_s_th σ 0) (upd (ms_op (ms_s_th σ 0)) (ms_ki (ms_s_th σ 0)).toNatClampNeg x1)))).toNatClampNeg 9)))) + 1).toNatClampNeg 9))) ((3 * (ms_ki (ms_s_to (ms_s_to (ms_s_op (ms_s_th σ 0) (upd (ms_op (ms_s_th σ 0)) (ms_ki (ms_s_th σ 0)).toNatClampNeg x1)) (upd (ms_to (ms_s_op (ms_s_th σ 0) (upd (ms_op (ms_s_th σ 0)) (ms_ki (ms_s_th σ 0)).toNatClampNeg x1))) (3 * (ms_ki (ms_s_op (ms_s_th σ 0) (upd (ms_op (ms_s_th σ 0)) (ms_ki (ms_s_th σ 0)).toNatClampNeg x1)))).toNatClampNeg 9)) (upd (ms_to (ms_s_to (ms_s_op (ms_s_th σ 0) (upd (ms_op (ms_s_th σ 0)) (ms_ki (ms_s_th σ 0)).toNatClampNeg x1)) (upd (ms_to (ms_s_op (ms_s_th σ 0) (upd (ms_op (ms_s_th σ 0)) (ms_ki (ms_s_th σ 0)).toNatClampNeg x1))) (3 * (ms_ki (ms_s_op (ms_s_th σ 0) (upd (ms_op (ms_s_th σ 0)) (ms_ki (ms_s_th σ 0)).toNatClampNeg x1)))).toNatClampNeg 9))) ((3 * (ms_ki (ms_s_to (ms_s_op (ms_s_th σ 0) (upd (ms_op (ms_s_th σ 0)) (ms_ki (ms_s_th σ 0)).toNatClampNeg x1)) (upd (ms_to (ms_s_op (ms_s_th σ 0) (upd (ms_op (ms_s_th σ 0)) (ms_ki (ms_s_th σ 0)).toNatClampNeg x1))) (3 * (ms_ki (ms_s_op (ms_s_th σ 0) (upd (ms_op (ms_s_th σ 0)) (ms_ki (ms_s_th σ 0)).toNatClampNeg x1)))).toNatClampNeg 9)))) + 1).toNatClampNeg 9)))) + 2).toNatClampNeg 9999))).toNatClampNeg 1))) + 1)))) (C := RX2) (T := TX2) (N := 21) hx hb hts hin hown hK hP 0 rfl rfl 1 (by decide) (hts (.fieldLink RX2 62 "ClassSheetsModel" "kinds" "I") (List.mem_of_getElem? (i := 3) rfl)) (fun _ h9 => h9) rfl dX2_kind_107 ?_
      refine lv_iconst (v := 1) hx hb dX2_kind_110 (by decide) ?_
      refine lv_isub hx hb dX2_kind_111 ?_
      exact ret_i (Wd := MW cc ad) (u := (ms_s_ki (ms_s_ta (ms_s_to (ms_s_to (ms_s_to (ms_s_op (ms_s_th σ 0) (upd (ms_op (ms_s_th σ 0)) (ms_ki (ms_s_th σ 0)).toNatClampNeg x1)) (upd (ms_to (ms_s_op (ms_s_th σ 0) (upd (ms_op (ms_s_th σ 0)) (ms_ki (ms_s_th σ 0)).toNatClampNeg x1))) (3 * (ms_ki (ms_s_op (ms_s_th σ 0) (upd (ms_op (ms_s_th σ 0)) (ms_ki (ms_s_th σ 0)).toNatClampNeg x1)))).toNatClampNeg 9)) (upd (ms_to (ms_s_to (ms_s_op (ms_s_th σ 0) (upd (ms_op (ms_s_th σ 0)) (ms_ki (ms_s_th σ 0)).toNatClampNeg x1)) (upd (ms_to (ms_s_op (ms_s_th σ 0) (upd (ms_op (ms_s_th σ 0)) (ms_ki (ms_s_th σ 0)).toNatClampNeg x1))) (3 * (ms_ki (ms_s_op (ms_s_th σ 0) (upd (ms_op (ms_s_th σ 0)) (ms_ki (ms_s_th σ 0)).toNatClampNeg x1)))).toNatClampNeg 9))) ((3 * (ms_ki (ms_s_to (ms_s_op (ms_s_th σ 0) (upd (ms_op (ms_s_th σ 0)) (ms_ki (ms_s_th σ 0)).toNatClampNeg x1)) (upd (ms_to (ms_s_op (ms_s_th σ 0) (upd (ms_op (ms_s_th σ 0)) (ms_ki (ms_s_th σ 0)).toNatClampNeg x1))) (3 * (ms_ki (ms_s_op (ms_s_th σ 0) (upd (ms_op (ms_s_th σ 0)) (ms_ki (ms_s_th σ 0)).toNatClampNeg x1)))).toNatClampNeg 9)))) + 1).toNatClampNeg 9)) (upd (ms_to (ms_s_to (ms_s_to (ms_s_op (ms_s_th σ 0) (upd (ms_op (ms_s_th σ 0)) (ms_ki (ms_s_th σ 0)).toNatClampNeg x1)) (upd (ms_to (ms_s_op (ms_s_th σ 0) (upd (ms_op (ms_s_th σ 0)) (ms_ki (ms_s_th σ 0)).toNatClampNeg x1))) (3 * (ms_ki (ms_s_op (ms_s_th σ 0) (upd (ms_op (ms_s_th σ 0)) (ms_ki (ms_s_th σ 0)).toNatClampNeg x1)))).toNatClampNeg 9)) (upd (ms_to (ms_s_to (ms_s_op (ms_s_th σ 0) (upd (ms_op (ms_s_th σ 0)) (ms_ki (ms_s_th σ 0)).toNatClampNeg x1)) (upd (ms_to (ms_s_op (ms_s_th σ 0) (upd (ms_op (ms_s_th σ 0)) (ms_ki (ms_s_th σ 0)).toNatClampNeg x1))) (3 * (ms_ki (ms_s_op (ms_s_th σ 0) (upd (ms_op (ms_s_th σ 0)) (ms_ki (ms_s_th σ 0)).toNatClampNeg x1)))).toNatClampNeg 9))) ((3 * (ms_ki (ms_s_to (ms_s_op (ms_s_th σ 0) (upd (ms_op (ms_s_th σ 0)) (ms_ki (ms_s_th σ 0)).toNatClampNeg x1)) (upd (ms_to (ms_s_op (ms_s_th σ 0) (upd (ms_op (ms_s_th σ 0)) (ms_ki (ms_s_th σ 0)).toNatClampNeg x1))) (3 * (ms_ki (ms_s_op (ms_s_th σ 0) (upd (ms_op (ms_s_th σ 0)) (ms_ki (ms_s_th σ 0)).toNatClampNeg x1)))).toNatClampNeg 9)))) + 1).toNatClampNeg 9))) ((3 * (ms_ki (ms_s_to (ms_s_to (ms_s_op (ms_s_th σ 0) (upd (ms_op (ms_s_th σ 0)) (ms_ki (ms_s_th σ 0)).toNatClampNeg x1)) (upd (ms_to (ms_s_op (ms_s_th σ 0) (upd (ms_op (ms_s_th σ 0)) (ms_ki (ms_s_th σ 0)).toNatClampNeg x1))) (3 * (ms_ki (ms_s_op (ms_s_th σ 0) (upd (ms_op (ms_s_th σ 0)) (ms_ki (ms_s_th σ 0)).toNatClampNeg x1)))).toNatClampNeg 9)) (upd (ms_to (ms_s_to (ms_s_op (ms_s_th σ 0) (upd (ms_op (ms_s_th σ 0)) (ms_ki (ms_s_th σ 0)).toNatClampNeg x1)) (upd (ms_to (ms_s_op (ms_s_th σ 0) (upd (ms_op (ms_s_th σ 0)) (ms_ki (ms_s_th σ 0)).toNatClampNeg x1))) (3 * (ms_ki (ms_s_op (ms_s_th σ 0) (upd (ms_op (ms_s_th σ 0)) (ms_ki (ms_s_th σ 0)).toNatClampNeg x1)))).toNatClampNeg 9))) ((3 * (ms_ki (ms_s_to (ms_s_op (ms_s_th σ 0) (upd (ms_op (ms_s_th σ 0)) (ms_ki (ms_s_th σ 0)).toNatClampNeg x1)) (upd (ms_to (ms_s_op (ms_s_th σ 0) (upd (ms_op (ms_s_th σ 0)) (ms_ki (ms_s_th σ 0)).toNatClampNeg x1))) (3 * (ms_ki (ms_s_op (ms_s_th σ 0) (upd (ms_op (ms_s_th σ 0)) (ms_ki (ms_s_th σ 0)).toNatClampNeg x1)))).toNatClampNeg 9)))) + 1).toNatClampNeg 9)))) + 2).toNatClampNeg 9999)) (upd (ms_ta (ms_s_to (ms_s_to (ms_s_to (ms_s_op (ms_s_th σ 0) (upd (ms_op (ms_s_th σ 0)) (ms_ki (ms_s_th σ 0)).toNatClampNeg x1)) (upd (ms_to (ms_s_op (ms_s_th σ 0) (upd (ms_op (ms_s_th σ 0)) (ms_ki (ms_s_th σ 0)).toNatClampNeg x1))) (3 * (ms_ki (ms_s_op (ms_s_th σ 0) (upd (ms_op (ms_s_th σ 0)) (ms_ki (ms_s_th σ 0)).toNatClampNeg x1)))).toNatClampNeg 9)) (upd (ms_to (ms_s_to (ms_s_op (ms_s_th σ 0) (upd (ms_op (ms_s_th σ 0)) (ms_ki (ms_s_th σ 0)).toNatClampNeg x1)) (upd (ms_to (ms_s_op (ms_s_th σ 0) (upd (ms_op (ms_s_th σ 0)) (ms_ki (ms_s_th σ 0)).toNatClampNeg x1))) (3 * (ms_ki (ms_s_op (ms_s_th σ 0) (upd (ms_op (ms_s_th σ 0)) (ms_ki (ms_s_th σ 0)).toNatClampNeg x1)))).toNatClampNeg 9))) ((3 * (ms_ki (ms_s_to (ms_s_op (ms_s_th σ 0) (upd (ms_op (ms_s_th σ 0)) (ms_ki (ms_s_th σ 0)).toNatClampNeg x1)) (upd (ms_to (ms_s_op (ms_s_th σ 0) (upd (ms_op (ms_s_th σ 0)) (ms_ki (ms_s_th σ 0)).toNatClampNeg x1))) (3 * (ms_ki (ms_s_op (ms_s_th σ 0) (upd (ms_op (ms_s_th σ 0)) (ms_ki (ms_s_th σ 0)).toNatClampNeg x1)))).toNatClampNeg 9)))) + 1).toNatClampNeg 9)) (upd (ms_to (ms_s_to (ms_s_to (ms_s_op (ms_s_th σ 0) (upd (ms_op (ms_s_th σ 0)) (ms_ki (ms_s_th σ 0)).toNatClampNeg x1)) (upd (ms_to (ms_s_op (ms_s_th σ 0) (upd (ms_op (ms_s_th σ 0)) (ms_ki (ms_s_th σ 0)).toNatClampNeg x1))) (3 * (ms_ki (ms_s_op (ms_s_th σ 0) (upd (ms_op (ms_s_th σ 0)) (ms_ki (ms_s_th σ 0)).toNatClampNeg x1)))).toNatClampNeg 9)) (upd (ms_to (ms_s_to (ms_s_op (ms_s_th σ 0) (upd (ms_op (ms_s_th σ 0)) (ms_ki (ms_s_th σ 0)).toNatClampNeg x1)) (upd (ms_to (ms_s_op (ms_s_th σ 0) (upd (ms_op (ms_s_th σ 0)) (ms_ki (ms_s_th σ 0)).toNatClampNeg x1))) (3 * (ms_ki (ms_s_op (ms_s_th σ 0) (upd (ms_op (ms_s_th σ 0)) (ms_ki (ms_s_th σ 0)).toNatClampNeg x1)))).toNatClampNeg 9))) ((3 * (ms_ki (ms_s_to (ms_s_op (ms_s_th σ 0) (upd (ms_op (ms_s_th σ 0)) (ms_ki (ms_s_th σ 0)).toNatClampNeg x1)) (upd (ms_to (ms_s_op (ms_s_th σ 0) (upd (ms_op (ms_s_th σ 0)) (ms_ki (ms_s_th σ 0)).toNatClampNeg x1))) (3 * (ms_ki (ms_s_op (ms_s_th σ 0) (upd (ms_op (ms_s_th σ 0)) (ms_ki (ms_s_th σ 0)).toNatClampNeg x1)))).toNatClampNeg 9)))) + 1).toNatClampNeg 9))) ((3 * (ms_ki (ms_s_to (ms_s_to (ms_s_op (ms_s_th σ 0) (upd (ms_op (ms_s_th σ 0)) (ms_ki (ms_s_th σ 0)).toNatClampNeg x1)) (upd (ms_to (ms_s_op (ms_s_th σ 0) (upd (ms_op (ms_s_th σ 0)) (ms_ki (ms_s_th σ 0)).toNatClampNeg x1))) (3 * (ms_ki (ms_s_op (ms_s_th σ 0) (upd (ms_op (ms_s_th σ 0)) (ms_ki (ms_s_th σ 0)).toNatClampNeg x1)))).toNatClampNeg 9)) (upd (ms_to (ms_s_to (ms_s_op (ms_s_th σ 0) (upd (ms_op (ms_s_th σ 0)) (ms_ki (ms_s_th σ 0)).toNatClampNeg x1)) (upd (ms_to (ms_s_op (ms_s_th σ 0) (upd (ms_op (ms_s_th σ 0)) (ms_ki (ms_s_th σ 0)).toNatClampNeg x1))) (3 * (ms_ki (ms_s_op (ms_s_th σ 0) (upd (ms_op (ms_s_th σ 0)) (ms_ki (ms_s_th σ 0)).toNatClampNeg x1)))).toNatClampNeg 9))) ((3 * (ms_ki (ms_s_to (ms_s_op (ms_s_th σ 0) (upd (ms_op (ms_s_th σ 0)) (ms_ki (ms_s_th σ 0)).toNatClampNeg x1)) (upd (ms_to (ms_s_op (ms_s_th σ 0) (upd (ms_op (ms_s_th σ 0)) (ms_ki (ms_s_th σ 0)).toNatClampNeg x1))) (3 * (ms_ki (ms_s_op (ms_s_th σ 0) (upd (ms_op (ms_s_th σ 0)) (ms_ki (ms_s_th σ 0)).toNatClampNeg x1)))).toNatClampNeg 9)))) + 1).toNatClampNeg 9)))) + 2).toNatClampNeg 9999))) (ms_ki (ms_s_to (ms_s_to (ms_s_to (ms_s_op (ms_s_th σ 0) (upd (ms_op (ms_s_th σ 0)) (ms_ki (ms_s_th σ 0)).toNatClampNeg x1)) (upd (ms_to (ms_s_op (ms_s_th σ 0) (upd (ms_op (ms_s_th σ 0)) (ms_ki (ms_s_th σ 0)).toNatClampNeg x1))) (3 * (ms_ki (ms_s_op (ms_s_th σ 0) (upd (ms_op (ms_s_th σ 0)) (ms_ki (ms_s_th σ 0)).toNatClampNeg x1)))).toNatClampNeg 9)) (upd (ms_to (ms_s_to (ms_s_op (ms_s_th σ 0) (upd (ms_op (ms_s_th σ 0)) (ms_ki (ms_s_th σ 0)).toNatClampNeg x1)) (upd (ms_to (ms_s_op (ms_s_th σ 0) (upd (ms_op (ms_s_th σ 0)) (ms_ki (ms_s_th σ 0)).toNatClampNeg x1))) (3 * (ms_ki (ms_s_op (ms_s_th σ 0) (upd (ms_op (ms_s_th σ 0)) (ms_ki (ms_s_th σ 0)).toNatClampNeg x1)))).toNatClampNeg 9))) ((3 * (ms_ki (ms_s_to (ms_s_op (ms_s_th σ 0) (upd (ms_op (ms_s_th σ 0)) (ms_ki (ms_s_th σ 0)).toNatClampNeg x1)) (upd (ms_to (ms_s_op (ms_s_th σ 0) (upd (ms_op (ms_s_th σ 0)) (ms_ki (ms_s_th σ 0)).toNatClampNeg x1))) (3 * (ms_ki (ms_s_op (ms_s_th σ 0) (upd (ms_op (ms_s_th σ 0)) (ms_ki (ms_s_th σ 0)).toNatClampNeg x1)))).toNatClampNeg 9)))) + 1).toNatClampNeg 9)) (upd (ms_to (ms_s_to (ms_s_to (ms_s_op (ms_s_th σ 0) (upd (ms_op (ms_s_th σ 0)) (ms_ki (ms_s_th σ 0)).toNatClampNeg x1)) (upd (ms_to (ms_s_op (ms_s_th σ 0) (upd (ms_op (ms_s_th σ 0)) (ms_ki (ms_s_th σ 0)).toNatClampNeg x1))) (3 * (ms_ki (ms_s_op (ms_s_th σ 0) (upd (ms_op (ms_s_th σ 0)) (ms_ki (ms_s_th σ 0)).toNatClampNeg x1)))).toNatClampNeg 9)) (upd (ms_to (ms_s_to (ms_s_op (ms_s_th σ 0) (upd (ms_op (ms_s_th σ 0)) (ms_ki (ms_s_th σ 0)).toNatClampNeg x1)) (upd (ms_to (ms_s_op (ms_s_th σ 0) (upd (ms_op (ms_s_th σ 0)) (ms_ki (ms_s_th σ 0)).toNatClampNeg x1))) (3 * (ms_ki (ms_s_op (ms_s_th σ 0) (upd (ms_op (ms_s_th σ 0)) (ms_ki (ms_s_th σ 0)).toNatClampNeg x1)))).toNatClampNeg 9))) ((3 * (ms_ki (ms_s_to (ms_s_op (ms_s_th σ 0) (upd (ms_op (ms_s_th σ 0)) (ms_ki (ms_s_th σ 0)).toNatClampNeg x1)) (upd (ms_to (ms_s_op (ms_s_th σ 0) (upd (ms_op (ms_s_th σ 0)) (ms_ki (ms_s_th σ 0)).toNatClampNeg x1))) (3 * (ms_ki (ms_s_op (ms_s_th σ 0) (upd (ms_op (ms_s_th σ 0)) (ms_ki (ms_s_th σ 0)).toNatClampNeg x1)))).toNatClampNeg 9)))) + 1).toNatClampNeg 9))) ((3 * (ms_ki (ms_s_to (ms_s_to (ms_s_op (ms_s_th σ 0) (upd (ms_op (ms_s_th σ 0)) (ms_ki (ms_s_th σ 0)).toNatClampNeg x1)) (upd (ms_to (ms_s_op (ms_s_th σ 0) (upd (ms_op (ms_s_th σ 0)) (ms_ki (ms_s_th σ 0)).toNatClampNeg x1))) (3 * (ms_ki (ms_s_op (ms_s_th σ 0) (upd (ms_op (ms_s_th σ 0)) (ms_ki (ms_s_th σ 0)).toNatClampNeg x1)))).toNatClampNeg 9)) (upd (ms_to (ms_s_to (ms_s_op (ms_s_th σ 0) (upd (ms_op (ms_s_th σ 0)) (ms_ki (ms_s_th σ 0)).toNatClampNeg x1)) (upd (ms_to (ms_s_op (ms_s_th σ 0) (upd (ms_op (ms_s_th σ 0)) (ms_ki (ms_s_th σ 0)).toNatClampNeg x1))) (3 * (ms_ki (ms_s_op (ms_s_th σ 0) (upd (ms_op (ms_s_th σ 0)) (ms_ki (ms_s_th σ 0)).toNatClampNeg x1)))).toNatClampNeg 9))) ((3 * (ms_ki (ms_s_to (ms_s_op (ms_s_th σ 0) (upd (ms_op (ms_s_th σ 0)) (ms_ki (ms_s_th σ 0)).toNatClampNeg x1)) (upd (ms_to (ms_s_op (ms_s_th σ 0) (upd (ms_op (ms_s_th σ 0)) (ms_ki (ms_s_th σ 0)).toNatClampNeg x1))) (3 * (ms_ki (ms_s_op (ms_s_th σ 0) (upd (ms_op (ms_s_th σ 0)) (ms_ki (ms_s_th σ 0)).toNatClampNeg x1)))).toNatClampNeg 9)))) + 1).toNatClampNeg 9)))) + 2).toNatClampNeg 9999))).toNatClampNeg 1)) ((ms_ki (ms_s_ta (ms_s_to (ms_s_to (ms_s_to (ms_s_op (ms_s_th σ 0) (upd (ms_op (ms_s_th σ 0)) (ms_ki (ms_s_th σ 0)).toNatClampNeg x1)) (upd (ms_to (ms_s_op (ms_s_th σ 0) (upd (ms_op (ms_s_th σ 0)) (ms_ki (ms_s_th σ 0)).toNatClampNeg x1))) (3 * (ms_ki (ms_s_op (ms_s_th σ 0) (upd (ms_op (ms_s_th σ 0)) (ms_ki (ms_s_th σ 0)).toNatClampNeg x1)))).toNatClampNeg 9)) (upd (ms_to (ms_s_to (ms_s_op (ms_s_th σ 0) (upd (ms_op (ms_s_th σ 0)) (ms_ki (ms_s_th σ 0)).toNatClampNeg x1)) (upd (ms_to (ms_s_op (ms_s_th σ 0) (upd (ms_op (ms_s_th σ 0)) (ms_ki (ms_s_th σ 0)).toNatClampNeg x1))) (3 * (ms_ki (ms_s_op (ms_s_th σ 0) (upd (ms_op (ms_s_th σ 0)) (ms_ki (ms_s_th σ 0)).toNatClampNeg x1)))).toNatClampNeg 9))) ((3 * (ms_ki (ms_s_to (ms_s_op (ms_s_th σ 0) (upd (ms_op (ms_s_th σ 0)) (ms_ki (ms_s_th σ 0)).toNatClampNeg x1)) (upd (ms_to (ms_s_op (ms_s_th σ 0) (upd (ms_op (ms_s_th σ 0)) (ms_ki (ms_s_th σ 0)).toNatClampNeg x1))) (3 * (ms_ki (ms_s_op (ms_s_th σ 0) (upd (ms_op (ms_s_th σ 0)) (ms_ki (ms_s_th σ 0)).toNatClampNeg x1)))).toNatClampNeg 9)))) + 1).toNatClampNeg 9)) (upd (ms_to (ms_s_to (ms_s_to (ms_s_op (ms_s_th σ 0) (upd (ms_op (ms_s_th σ 0)) (ms_ki (ms_s_th σ 0)).toNatClampNeg x1)) (upd (ms_to (ms_s_op (ms_s_th σ 0) (upd (ms_op (ms_s_th σ 0)) (ms_ki (ms_s_th σ 0)).toNatClampNeg x1))) (3 * (ms_ki (ms_s_op (ms_s_th σ 0) (upd (ms_op (ms_s_th σ 0)) (ms_ki (ms_s_th σ 0)).toNatClampNeg x1)))).toNatClampNeg 9)) (upd (ms_to (ms_s_to (ms_s_op (ms_s_th σ 0) (upd (ms_op (ms_s_th σ 0)) (ms_ki (ms_s_th σ 0)).toNatClampNeg x1)) (upd (ms_to (ms_s_op (ms_s_th σ 0) (upd (ms_op (ms_s_th σ 0)) (ms_ki (ms_s_th σ 0)).toNatClampNeg x1))) (3 * (ms_ki (ms_s_op (ms_s_th σ 0) (upd (ms_op (ms_s_th σ 0)) (ms_ki (ms_s_th σ 0)).toNatClampNeg x1)))).toNatClampNeg 9))) ((3 * (ms_ki (ms_s_to (ms_s_op (ms_s_th σ 0) (upd (ms_op (ms_s_th σ 0)) (ms_ki (ms_s_th σ 0)).toNatClampNeg x1)) (upd (ms_to (ms_s_op (ms_s_th σ 0) (upd (ms_op (ms_s_th σ 0)) (ms_ki (ms_s_th σ 0)).toNatClampNeg x1))) (3 * (ms_ki (ms_s_op (ms_s_th σ 0) (upd (ms_op (ms_s_th σ 0)) (ms_ki (ms_s_th σ 0)).toNatClampNeg x1)))).toNatClampNeg 9)))) + 1).toNatClampNeg 9))) ((3 * (ms_ki (ms_s_to (ms_s_to (ms_s_op (ms_s_th σ 0) (upd (ms_op (ms_s_th σ 0)) (ms_ki (ms_s_th σ 0)).toNatClampNeg x1)) (upd (ms_to (ms_s_op (ms_s_th σ 0) (upd (ms_op (ms_s_th σ 0)) (ms_ki (ms_s_th σ 0)).toNatClampNeg x1))) (3 * (ms_ki (ms_s_op (ms_s_th σ 0) (upd (ms_op (ms_s_th σ 0)) (ms_ki (ms_s_th σ 0)).toNatClampNeg x1)))).toNatClampNeg 9)) (upd (ms_to (ms_s_to (ms_s_op (ms_s_th σ 0) (upd (ms_op (ms_s_th σ 0)) (ms_ki (ms_s_th σ 0)).toNatClampNeg x1)) (upd (ms_to (ms_s_op (ms_s_th σ 0) (upd (ms_op (ms_s_th σ 0)) (ms_ki (ms_s_th σ 0)).toNatClampNeg x1))) (3 * (ms_ki (ms_s_op (ms_s_th σ 0) (upd (ms_op (ms_s_th σ 0)) (ms_ki (ms_s_th σ 0)).toNatClampNeg x1)))).toNatClampNeg 9))) ((3 * (ms_ki (ms_s_to (ms_s_op (ms_s_th σ 0) (upd (ms_op (ms_s_th σ 0)) (ms_ki (ms_s_th σ 0)).toNatClampNeg x1)) (upd (ms_to (ms_s_op (ms_s_th σ 0) (upd (ms_op (ms_s_th σ 0)) (ms_ki (ms_s_th σ 0)).toNatClampNeg x1))) (3 * (ms_ki (ms_s_op (ms_s_th σ 0) (upd (ms_op (ms_s_th σ 0)) (ms_ki (ms_s_th σ 0)).toNatClampNeg x1)))).toNatClampNeg 9)))) + 1).toNatClampNeg 9)))) + 2).toNatClampNeg 9999)) (upd (ms_ta (ms_s_to (ms_s_to (ms_s_to (ms_s_op (ms_s_th σ 0) (upd (ms_op (ms_s_th σ 0)) (ms_ki (ms_s_th σ 0)).toNatClampNeg x1)) (upd (ms_to (ms_s_op (ms_s_th σ 0) (upd (ms_op (ms_s_th σ 0)) (ms_ki (ms_s_th σ 0)).toNatClampNeg x1))) (3 * (ms_ki (ms_s_op (ms_s_th σ 0) (upd (ms_op (ms_s_th σ 0)) (ms_ki (ms_s_th σ 0)).toNatClampNeg x1)))).toNatClampNeg 9)) (upd (ms_to (ms_s_to (ms_s_op (ms_s_th σ 0) (upd (ms_op (ms_s_th σ 0)) (ms_ki (ms_s_th σ 0)).toNatClampNeg x1)) (upd (ms_to (ms_s_op (ms_s_th σ 0) (upd (ms_op (ms_s_th σ 0)) (ms_ki (ms_s_th σ 0)).toNatClampNeg x1))) (3 * (ms_ki (ms_s_op (ms_s_th σ 0) (upd (ms_op (ms_s_th σ 0)) (ms_ki (ms_s_th σ 0)).toNatClampNeg x1)))).toNatClampNeg 9))) ((3 * (ms_ki (ms_s_to (ms_s_op (ms_s_th σ 0) (upd (ms_op (ms_s_th σ 0)) (ms_ki (ms_s_th σ 0)).toNatClampNeg x1)) (upd (ms_to (ms_s_op (ms_s_th σ 0) (upd (ms_op (ms_s_th σ 0)) (ms_ki (ms_s_th σ 0)).toNatClampNeg x1))) (3 * (ms_ki (ms_s_op (ms_s_th σ 0) (upd (ms_op (ms_s_th σ 0)) (ms_ki (ms_s_th σ 0)).toNatClampNeg x1)))).toNatClampNeg 9)))) + 1).toNatClampNeg 9)) (upd (ms_to (ms_s_to (ms_s_to (ms_s_op (ms_s_th σ 0) (upd (ms_op (ms_s_th σ 0)) (ms_ki (ms_s_th σ 0)).toNatClampNeg x1)) (upd (ms_to (ms_s_op (ms_s_th σ 0) (upd (ms_op (ms_s_th σ 0)) (ms_ki (ms_s_th σ 0)).toNatClampNeg x1))) (3 * (ms_ki (ms_s_op (ms_s_th σ 0) (upd (ms_op (ms_s_th σ 0)) (ms_ki (ms_s_th σ 0)).toNatClampNeg x1)))).toNatClampNeg 9)) (upd (ms_to (ms_s_to (ms_s_op (ms_s_th σ 0) (upd (ms_op (ms_s_th σ 0)) (ms_ki (ms_s_th σ 0)).toNatClampNeg x1)) (upd (ms_to (ms_s_op (ms_s_th σ 0) (upd (ms_op (ms_s_th σ 0)) (ms_ki (ms_s_th σ 0)).toNatClampNeg x1))) (3 * (ms_ki (ms_s_op (ms_s_th σ 0) (upd (ms_op (ms_s_th σ 0)) (ms_ki (ms_s_th σ 0)).toNatClampNeg x1)))).toNatClampNeg 9))) ((3 * (ms_ki (ms_s_to (ms_s_op (ms_s_th σ 0) (upd (ms_op (ms_s_th σ 0)) (ms_ki (ms_s_th σ 0)).toNatClampNeg x1)) (upd (ms_to (ms_s_op (ms_s_th σ 0) (upd (ms_op (ms_s_th σ 0)) (ms_ki (ms_s_th σ 0)).toNatClampNeg x1))) (3 * (ms_ki (ms_s_op (ms_s_th σ 0) (upd (ms_op (ms_s_th σ 0)) (ms_ki (ms_s_th σ 0)).toNatClampNeg x1)))).toNatClampNeg 9)))) + 1).toNatClampNeg 9))) ((3 * (ms_ki (ms_s_to (ms_s_to (ms_s_op (ms_s_th σ 0) (upd (ms_op (ms_s_th σ 0)) (ms_ki (ms_s_th σ 0)).toNatClampNeg x1)) (upd (ms_to (ms_s_op (ms_s_th σ 0) (upd (ms_op (ms_s_th σ 0)) (ms_ki (ms_s_th σ 0)).toNatClampNeg x1))) (3 * (ms_ki (ms_s_op (ms_s_th σ 0) (upd (ms_op (ms_s_th σ 0)) (ms_ki (ms_s_th σ 0)).toNatClampNeg x1)))).toNatClampNeg 9)) (upd (ms_to (ms_s_to (ms_s_op (ms_s_th σ 0) (upd (ms_op (ms_s_th σ 0)) (ms_ki (ms_s_th σ 0)).toNatClampNeg x1)) (upd (ms_to (ms_s_op (ms_s_th σ 0) (upd (ms_op (ms_s_th σ 0)) (ms_ki (ms_s_th σ 0)).toNatClampNeg x1))) (3 * (ms_ki (ms_s_op (ms_s_th σ 0) (upd (ms_op (ms_s_th σ 0)) (ms_ki (ms_s_th σ 0)).toNatClampNeg x1)))).toNatClampNeg 9))) ((3 * (ms_ki (ms_s_to (ms_s_op (ms_s_th σ 0) (upd (ms_op (ms_s_th σ 0)) (ms_ki (ms_s_th σ 0)).toNatClampNeg x1)) (upd (ms_to (ms_s_op (ms_s_th σ 0) (upd (ms_op (ms_s_th σ 0)) (ms_ki (ms_s_th σ 0)).toNatClampNeg x1))) (3 * (ms_ki (ms_s_op (ms_s_th σ 0) (upd (ms_op (ms_s_th σ 0)) (ms_ki (ms_s_th σ 0)).toNatClampNeg x1)))).toNatClampNeg 9)))) + 1).toNatClampNeg 9)))) + 2).toNatClampNeg 9999))) (ms_ki (ms_s_to (ms_s_to (ms_s_to (ms_s_op (ms_s_th σ 0) (upd (ms_op (ms_s_th σ 0)) (ms_ki (ms_s_th σ 0)).toNatClampNeg x1)) (upd (ms_to (ms_s_op (ms_s_th σ 0) (upd (ms_op (ms_s_th σ 0)) (ms_ki (ms_s_th σ 0)).toNatClampNeg x1))) (3 * (ms_ki (ms_s_op (ms_s_th σ 0) (upd (ms_op (ms_s_th σ 0)) (ms_ki (ms_s_th σ 0)).toNatClampNeg x1)))).toNatClampNeg 9)) (upd (ms_to (ms_s_to (ms_s_op (ms_s_th σ 0) (upd (ms_op (ms_s_th σ 0)) (ms_ki (ms_s_th σ 0)).toNatClampNeg x1)) (upd (ms_to (ms_s_op (ms_s_th σ 0) (upd (ms_op (ms_s_th σ 0)) (ms_ki (ms_s_th σ 0)).toNatClampNeg x1))) (3 * (ms_ki (ms_s_op (ms_s_th σ 0) (upd (ms_op (ms_s_th σ 0)) (ms_ki (ms_s_th σ 0)).toNatClampNeg x1)))).toNatClampNeg 9))) ((3 * (ms_ki (ms_s_to (ms_s_op (ms_s_th σ 0) (upd (ms_op (ms_s_th σ 0)) (ms_ki (ms_s_th σ 0)).toNatClampNeg x1)) (upd (ms_to (ms_s_op (ms_s_th σ 0) (upd (ms_op (ms_s_th σ 0)) (ms_ki (ms_s_th σ 0)).toNatClampNeg x1))) (3 * (ms_ki (ms_s_op (ms_s_th σ 0) (upd (ms_op (ms_s_th σ 0)) (ms_ki (ms_s_th σ 0)).toNatClampNeg x1)))).toNatClampNeg 9)))) + 1).toNatClampNeg 9)) (upd (ms_to (ms_s_to (ms_s_to (ms_s_op (ms_s_th σ 0) (upd (ms_op (ms_s_th σ 0)) (ms_ki (ms_s_th σ 0)).toNatClampNeg x1)) (upd (ms_to (ms_s_op (ms_s_th σ 0) (upd (ms_op (ms_s_th σ 0)) (ms_ki (ms_s_th σ 0)).toNatClampNeg x1))) (3 * (ms_ki (ms_s_op (ms_s_th σ 0) (upd (ms_op (ms_s_th σ 0)) (ms_ki (ms_s_th σ 0)).toNatClampNeg x1)))).toNatClampNeg 9)) (upd (ms_to (ms_s_to (ms_s_op (ms_s_th σ 0) (upd (ms_op (ms_s_th σ 0)) (ms_ki (ms_s_th σ 0)).toNatClampNeg x1)) (upd (ms_to (ms_s_op (ms_s_th σ 0) (upd (ms_op (ms_s_th σ 0)) (ms_ki (ms_s_th σ 0)).toNatClampNeg x1))) (3 * (ms_ki (ms_s_op (ms_s_th σ 0) (upd (ms_op (ms_s_th σ 0)) (ms_ki (ms_s_th σ 0)).toNatClampNeg x1)))).toNatClampNeg 9))) ((3 * (ms_ki (ms_s_to (ms_s_op (ms_s_th σ 0) (upd (ms_op (ms_s_th σ 0)) (ms_ki (ms_s_th σ 0)).toNatClampNeg x1)) (upd (ms_to (ms_s_op (ms_s_th σ 0) (upd (ms_op (ms_s_th σ 0)) (ms_ki (ms_s_th σ 0)).toNatClampNeg x1))) (3 * (ms_ki (ms_s_op (ms_s_th σ 0) (upd (ms_op (ms_s_th σ 0)) (ms_ki (ms_s_th σ 0)).toNatClampNeg x1)))).toNatClampNeg 9)))) + 1).toNatClampNeg 9))) ((3 * (ms_ki (ms_s_to (ms_s_to (ms_s_op (ms_s_th σ 0) (upd (ms_op (ms_s_th σ 0)) (ms_ki (ms_s_th σ 0)).toNatClampNeg x1)) (upd (ms_to (ms_s_op (ms_s_th σ 0) (upd (ms_op (ms_s_th σ 0)) (ms_ki (ms_s_th σ 0)).toNatClampNeg x1))) (3 * (ms_ki (ms_s_op (ms_s_th σ 0) (upd (ms_op (ms_s_th σ 0)) (ms_ki (ms_s_th σ 0)).toNatClampNeg x1)))).toNatClampNeg 9)) (upd (ms_to (ms_s_to (ms_s_op (ms_s_th σ 0) (upd (ms_op (ms_s_th σ 0)) (ms_ki (ms_s_th σ 0)).toNatClampNeg x1)) (upd (ms_to (ms_s_op (ms_s_th σ 0) (upd (ms_op (ms_s_th σ 0)) (ms_ki (ms_s_th σ 0)).toNatClampNeg x1))) (3 * (ms_ki (ms_s_op (ms_s_th σ 0) (upd (ms_op (ms_s_th σ 0)) (ms_ki (ms_s_th σ 0)).toNatClampNeg x1)))).toNatClampNeg 9))) ((3 * (ms_ki (ms_s_to (ms_s_op (ms_s_th σ 0) (upd (ms_op (ms_s_th σ 0)) (ms_ki (ms_s_th σ 0)).toNatClampNeg x1)) (upd (ms_to (ms_s_op (ms_s_th σ 0) (upd (ms_op (ms_s_th σ 0)) (ms_ki (ms_s_th σ 0)).toNatClampNeg x1))) (3 * (ms_ki (ms_s_op (ms_s_th σ 0) (upd (ms_op (ms_s_th σ 0)) (ms_ki (ms_s_th σ 0)).toNatClampNeg x1)))).toNatClampNeg 9)))) + 1).toNatClampNeg 9)))) + 2).toNatClampNeg 9999))).toNatClampNeg 1))) + 1))) C0 h hP hS dX2_kind_112
    · have h := h.2 c3
      refine lv_bipush (v := (-4)) hx hb dX2_kind_29 (by decide) ?_
      exact ret_i (Wd := MW cc ad) (u := (ms_s_th σ 0)) C0 h hP hS dX2_kind_31
  · have h := h.2 c2
    refine lv_bipush (v := (-2)) hx hb dX2_kind_17 (by decide) ?_
    exact ret_i (Wd := MW cc ad) (u := (ms_s_th σ 0)) C0 h hP hS dX2_kind_19
theorem ct_X2_kind (l : Launch) (D : va_G) (cc : Nat → ClassId) (ad : Nat → Nat) (hd : DA 13 ad (fun _ => True)) (g : CS) (σ : MS) (x1 : Int32) (hp : pr_X2_kind g σ x1) : Ctr l yX2_kind wsX2_kind { frames := 1, cells := 0, slots := 0, locals := 25 } D cc (MW cc ad) 13 ad σ [.ref (ad 0), .int x1] (po_X2_kind g σ x1) :=
  ctr_i (rt := (some .int)) (by decide +kernel) rfl hd (Nat.le_of_ble_eq_true rfl) (fun p e s m below meth c A C0 hd => wk_X2_kind_0 C0 hd σ x1 (pu_X2_kind g σ x1 hp))
theorem hin_X2_range : ∀ w ∈ u_ws RX2 TX2 21, w ∈ wsX2_range := fun w h => List.mem_cons_of_mem _ (List.mem_append_right _ h)
set_option maxHeartbeats 4000000 in
set_option maxRecDepth 100000 in
theorem wk_X2_range_54 {p : Program} {l : Launch} {e : Env} {s : State} {m : MethodId} {args : Array Value} {below : List Frame} {meth : Method} {c : Code} {D : va_G} {cc : Nat → ClassId} {ad : Nat → Nat} {A : Nat → Prop} {Post : Int32 → MS → Prop} {g : CS} (C0 : Cx p s m args meth c cX2_range 5 (some .int) RX2 wsX2_range D cc A) (hd : DA 13 ad A) (σ : MS) (x1 : Int32) (x2 : Int32) (x3 : Int32) (x4 : Int32) (s0 : Int32) (s1 : Int32) (h : wp_X2_range_54 g Post σ x1 x2 x3 x4 s0 s1) : At_ p l e { frames := 4, cells := 0, slots := 0, locals := 100 } s m args below meth c (Qi_ below D (MW cc ad) A args s Post) D A (MW cc ad σ) 5 54 [(0, .ref (ad 0)), (1, .int x1), (2, .int x2), (3, .int x3), (4, .int x4)] [.int s0, .int s1] := by
  obtain ⟨hx, hb, hml, hr, hown, hts, hlocks, hK, hA, hX⟩ := id C0
  have hin := hin_X2_range
  intro H locs ls hP hS hl
  unfold wp_X2_range_54 at h
  refine lv_icmp_le (tgt := 60) hx hb dX2_range_54 (by decide) (fun c1 => ?_) (fun c1 => ?_)
  · have h := h.1 c1
    refine lv_aload_n hx hb dX2_range_60 rfl (lv_at hl 0 rfl) ?_
    refine va_get (D := D) (ci := 2) (v := .ref (ad 2)) (C := RX2) (T := TX2) (N := 21) hx hb hts hin hown hK hP 0 rfl rfl 3 (by decide) (hts (.fieldLink RX2 13 "ClassSheetsModel" "from" "[I") (List.mem_of_getElem? (i := 3) rfl)) (fun _ h9 => h9) rfl dX2_range_61 ?_
    refine lv_iconst (v := 3) hx hb dX2_range_64 (by decide) ?_
    refine lv_iload_n hx hb dX2_range_65 rfl (lv_at hl 1 rfl) ?_
    refine lv_imul hx hb dX2_range_66 ?_
    refine lv_iload_n hx hb dX2_range_67 rfl (lv_at hl 2 rfl) ?_
    refine lv_iadd hx hb dX2_range_68 ?_
    refine lv_iload_n hx hb dX2_range_69 rfl (lv_at hl 3 rfl) ?_
    obtain ⟨gi2, h⟩ := h
    refine va_iast (D := D) (f := ms_fr σ) (x := x3) hx hb hK hP (mD hd) hS 2 0 rfl rfl gi2 dX2_range_70 (fun H locs hP _ hS => ?_)
    have hP : va_P D vwCl (MW cc ad (ms_s_fr σ (upd (ms_fr σ) ((3 * x1) + x2).toNatClampNeg x3))) H := hP
    refine lv_aload_n hx hb dX2_range_71 rfl (lv_at hl 0 rfl) ?_
    refine va_get (D := D) (ci := 2) (v := .ref (ad 3)) (C := RX2) (T := TX2) (N := 21) hx hb hts hin hown hK hP 0 rfl rfl 4 (by decide) (hts (.fieldLink RX2 16 "ClassSheetsModel" "to" "[I") (List.mem_of_getElem? (i := 4) rfl)) (fun _ h9 => h9) rfl dX2_range_72 ?_
    refine lv_iconst (v := 3) hx hb dX2_range_75 (by decide) ?_
    refine lv_iload_n hx hb dX2_range_76 rfl (lv_at hl 1 rfl) ?_
    refine lv_imul hx hb dX2_range_77 ?_
    refine lv_iload_n hx hb dX2_range_78 rfl (lv_at hl 2 rfl) ?_
    refine lv_iadd hx hb dX2_range_79 ?_
    refine lv_iload hx hb dX2_range_80 (lv_at hl 4 rfl) ?_
    obtain ⟨gi3, h⟩ := h
    refine va_iast (D := D) (f := ms_to (ms_s_fr σ (upd (ms_fr σ) ((3 * x1) + x2).toNatClampNeg x3))) (x := x4) hx hb hK hP (mD hd) hS 3 0 rfl rfl gi3 dX2_range_82 (fun H locs hP _ hS => ?_)
    have hP : va_P D vwCl (MW cc ad (ms_s_to (ms_s_fr σ (upd (ms_fr σ) ((3 * x1) + x2).toNatClampNeg x3)) (upd (ms_to (ms_s_fr σ (upd (ms_fr σ) ((3 * x1) + x2).toNatClampNeg x3))) ((3 * x1) + x2).toNatClampNeg x4))) H := hP
    refine lv_aload_n hx hb dX2_range_83 rfl (lv_at hl 0 rfl) ?_
    refine va_get (D := D) (ci := 2) (v := .ref (ad 7)) (C := RX2) (T := TX2) (N := 21) hx hb hts hin hown hK hP 0 rfl rfl 8 (by decide) (hts (.fieldLink RX2 28 "ClassSheetsModel" "isTold" "[Z") (List.mem_of_getElem? (i := 5) rfl)) (fun _ h9 => h9) rfl dX2_range_84 ?_
    refine lv_iload_n hx hb dX2_range_87 rfl (lv_at hl 1 rfl) ?_
    refine lv_iconst (v := 0) hx hb dX2_range_88 (by decide) ?_
    obtain ⟨gi4, h⟩ := h
    refine va_zast (D := D) (f := ms_is (ms_s_to (ms_s_fr σ (upd (ms_fr σ) ((3 * x1) + x2).toNatClampNeg x3)) (upd (ms_to (ms_s_fr σ (upd (ms_fr σ) ((3 * x1) + x2).toNatClampNeg x3))) ((3 * x1) + x2).toNatClampNeg x4))) (x := 0) hx hb hK hP (mD hd) hS 7 2 rfl rfl gi4 dX2_range_89 (fun H locs hP _ hS => ?_)
    have hP : va_P D vwCl (MW cc ad (ms_s_is (ms_s_to (ms_s_fr σ (upd (ms_fr σ) ((3 * x1) + x2).toNatClampNeg x3)) (upd (ms_to (ms_s_fr σ (upd (ms_fr σ) ((3 * x1) + x2).toNatClampNeg x3))) ((3 * x1) + x2).toNatClampNeg x4)) (upd (ms_is (ms_s_to (ms_s_fr σ (upd (ms_fr σ) ((3 * x1) + x2).toNatClampNeg x3)) (upd (ms_to (ms_s_fr σ (upd (ms_fr σ) ((3 * x1) + x2).toNatClampNeg x3))) ((3 * x1) + x2).toNatClampNeg x4))) x1.toNatClampNeg (vp_nar .boolean 0)))) H := hP
    refine lv_aload_n hx hb dX2_range_90 rfl (lv_at hl 0 rfl) ?_
    refine lv_iload_n hx hb dX2_range_91 rfl (lv_at hl 1 rfl) ?_
    obtain ⟨gp5, h⟩ := h
    refine call_v (Wd := MW cc ad) (σ := (ms_s_is (ms_s_to (ms_s_fr σ (upd (ms_fr σ) ((3 * x1) + x2).toNatClampNeg x3)) (upd (ms_to (ms_s_fr σ (upd (ms_fr σ) ((3 * x1) + x2).toNatClampNeg x3))) ((3 * x1) + x2).toNatClampNeg x4)) (upd (ms_is (ms_s_to (ms_s_fr σ (upd (ms_fr σ) ((3 * x1) + x2).toNatClampNeg x3)) (upd (ms_to (ms_s_fr σ (upd (ms_fr σ) ((3 * x1) + x2).toNatClampNeg x3))) ((3 * x1) + x2).toNatClampNeg x4))) x1.toNatClampNeg (vp_nar .boolean 0)))) C0 hd lens_id (As := [.int x1]) (rest := []) (ct_X2_tell l D cc ad ⟨hd.1, fun _ _ => trivial⟩ (nx_range g x1 x2 x3 x4) (ms_s_is (ms_s_to (ms_s_fr σ (upd (ms_fr σ) ((3 * x1) + x2).toNatClampNeg x3)) (upd (ms_to (ms_s_fr σ (upd (ms_fr σ) ((3 * x1) + x2).toNatClampNeg x3))) ((3 * x1) + x2).toNatClampNeg x4)) (upd (ms_is (ms_s_to (ms_s_fr σ (upd (ms_fr σ) ((3 * x1) + x2).toNatClampNeg x3)) (upd (ms_to (ms_s_fr σ (upd (ms_fr σ) ((3 * x1) + x2).toNatClampNeg x3))) ((3 * x1) + x2).toNatClampNeg x4))) x1.toNatClampNeg (vp_nar .boolean 0))) x1 gp5) (cwV 1 hts gX2_range_X2_tell rfl rfl rfl (by decide +kernel) ⟨Nat.le_of_ble_eq_true rfl, Nat.le_of_ble_eq_true rfl⟩) (va_recv hK hP (ci := 2) (q0 := 0) rfl rfl) hP hS rfl hl.1 rfl (by simp [Value.category]) dX2_range_92 (fun r6 u7 hp H locs hP hS => ?_)
    have h := h r6 u7 hp
    have hP : va_P D vwCl (MW cc ad u7) H := hP
    exact ret_i (Wd := MW cc ad) (u := u7) C0 h hP hS dX2_range_95
  · have h := h.2 c1
    refine lv_bipush (v := (-2)) hx hb dX2_range_57 (by decide) ?_
    exact ret_i (Wd := MW cc ad) (u := σ) C0 h hP hS dX2_range_59
set_option maxHeartbeats 4000000 in
set_option maxRecDepth 100000 in
theorem wk_X2_range_0 {p : Program} {l : Launch} {e : Env} {s : State} {m : MethodId} {args : Array Value} {below : List Frame} {meth : Method} {c : Code} {D : va_G} {cc : Nat → ClassId} {ad : Nat → Nat} {A : Nat → Prop} {Post : Int32 → MS → Prop} {g : CS} (C0 : Cx p s m args meth c cX2_range 5 (some .int) RX2 wsX2_range D cc A) (hd : DA 13 ad A) (σ : MS) (x1 : Int32) (x2 : Int32) (x3 : Int32) (x4 : Int32) (h : wp_X2_range g Post σ x1 x2 x3 x4) : At_ p l e { frames := 4, cells := 0, slots := 0, locals := 100 } s m args below meth c (Qi_ below D (MW cc ad) A args s Post) D A (MW cc ad σ) 5 0 [(0, .ref (ad 0)), (1, .int x1), (2, .int x2), (3, .int x3), (4, .int x4)] [] := by
  obtain ⟨hx, hb, hml, hr, hown, hts, hlocks, hK, hA, hX⟩ := id C0
  have hin := hin_X2_range
  intro H locs ls hP hS hl
  unfold wp_X2_range at h
  refine lv_aload_n hx hb dX2_range_0 rfl (lv_at hl 0 rfl) ?_
  refine lv_iconst (v := 0) hx hb dX2_range_1 (by decide) ?_
  refine va_put (D := D) (ci := 2) (v := .int 0) (ty := .int) (C := RX2) (T := TX2) (N := 21) hx hb hts hin tyX2 tyX2_ok nmX2 hown hK hP (mD hd) hS 0 rfl rfl 0 (by decide) (hts (.fieldLink RX2 59 "ClassSheetsModel" "thrown" "I") (List.mem_of_getElem? (i := 1) rfl)) (fun _ h9 => h9) rfl (by decide +kernel) rfl rfl (Nat.le_of_ble_eq_true rfl) dX2_range_2 (fun H locs hP _ hS => ?_)
  have hP : va_P D vwCl (MW cc ad (ms_s_th σ 0)) H := hP
  refine lv_aload_n hx hb dX2_range_5 rfl (lv_at hl 0 rfl) ?_
  refine lv_iload_n hx hb dX2_range_6 rfl (lv_at hl 1 rfl) ?_
  refine call_v (Wd := MW cc ad) (σ := (ms_s_th σ 0)) C0 hd lens_id (As := [.int x1]) (rest := []) (ct_X2_noKind l D cc ad ⟨hd.1, fun _ _ => trivial⟩ g (ms_s_th σ 0) x1) (cwV 1 hts gX2_range_X2_noKind rfl rfl rfl (by decide +kernel) ⟨Nat.le_of_ble_eq_true rfl, Nat.le_of_ble_eq_true rfl⟩) (va_recv hK hP (ci := 2) (q0 := 0) rfl rfl) hP hS rfl hl.1 rfl (by simp [Value.category]) dX2_range_7 (fun r1 u hp H locs hP hS => ?_)
  obtain ⟨hp1, hp2⟩ := hp
  subst hp1
  have hp2 := hp2.symm
  subst hp2
  have hP : va_P D vwCl (MW cc ad (ms_s_th σ 0)) H := hP
  refine lv_if_eq (tgt := 15) hx hb dX2_range_10 (by decide) (fun c2 => ?_) (fun c2 => ?_)
  · have h := h.1 c2
    refine lv_iload_n hx hb dX2_range_15 rfl (lv_at hl 2 rfl) ?_
    refine lv_i2l (v := x2.toInt64) hx hb dX2_range_16 rfl ?_
    refine lv_lconst (v := 0) hx hb dX2_range_17 (by decide) ?_
    refine lv_ldc2 (v := 2) hx hb hown (hts (.constantLong RX2 101 (2)) (List.mem_of_getElem? (i := 2) rfl)) dX2_range_18 ?_
    refine call_s (Wd := MW cc ad) (σ := (ms_s_th σ 0)) C0 hd (lens_un (adc := ad)) (As := [.long (x2.toInt64), .long 0, .long 2]) (rest := []) (ct_X2_in l D cc ad da0 (x2.toInt64) 0 2) (va_cwS 3 hts gX2_range_X2_in rfl rfl rfl (by decide +kernel) ⟨Nat.le_of_ble_eq_true rfl, Nat.le_of_ble_eq_true rfl⟩) hP hS rfl hl.1 rfl (by simp [Value.category]) dX2_range_21 (fun r3 u hp H locs hP hS => ?_)
    obtain ⟨hp1, hp2⟩ := hp
    subst hp1
    have hP : va_P D vwCl (MW cc ad (ms_s_th σ 0)) H := hP
    refine lv_if_eq (tgt := 57) hx hb dX2_range_24 (by decide) (fun c4 => ?_) (fun c4 => ?_)
    · have h := h.1 c4
      refine lv_bipush (v := (-2)) hx hb dX2_range_57 (by decide) ?_
      exact ret_i (Wd := MW cc ad) (u := (ms_s_th σ 0)) C0 h hP hS dX2_range_59
    · have h := h.2 c4
      refine lv_iload_n hx hb dX2_range_27 rfl (lv_at hl 3 rfl) ?_
      refine lv_i2l (v := x3.toInt64) hx hb dX2_range_28 rfl ?_
      refine lv_lconst (v := 0) hx hb dX2_range_29 (by decide) ?_
      refine lv_iload hx hb dX2_range_30 (lv_at hl 4 rfl) ?_
      refine lv_i2l (v := x4.toInt64) hx hb dX2_range_32 rfl ?_
      refine call_s (Wd := MW cc ad) (σ := (ms_s_th σ 0)) C0 hd (lens_un (adc := ad)) (As := [.long (x3.toInt64), .long 0, .long (x4.toInt64)]) (rest := []) (ct_X2_in l D cc ad da0 (x3.toInt64) 0 (x4.toInt64)) (va_cwS 3 hts gX2_range_X2_in rfl rfl rfl (by decide +kernel) ⟨Nat.le_of_ble_eq_true rfl, Nat.le_of_ble_eq_true rfl⟩) hP hS rfl hl.1 rfl (by simp [Value.category]) dX2_range_33 (fun r5 u hp H locs hP hS => ?_)
      obtain ⟨hp1, hp2⟩ := hp
      subst hp1
      have hP : va_P D vwCl (MW cc ad (ms_s_th σ 0)) H := hP
      refine lv_if_eq (tgt := 57) hx hb dX2_range_36 (by decide) (fun c6 => ?_) (fun c6 => ?_)
      · have h := h.1 c6
        refine lv_bipush (v := (-2)) hx hb dX2_range_57 (by decide) ?_
        exact ret_i (Wd := MW cc ad) (u := (ms_s_th σ 0)) C0 h hP hS dX2_range_59
      · have h := h.2 c6
        refine lv_iload hx hb dX2_range_39 (lv_at hl 4 rfl) ?_
        refine lv_iload_n hx hb dX2_range_41 rfl (lv_at hl 2 rfl) ?_
        refine lv_iconst (v := 2) hx hb dX2_range_42 (by decide) ?_
        refine lv_icmp_ne (tgt := 52) hx hb dX2_range_43 (by decide) (fun c7 => ?_) (fun c7 => ?_)
        · have h := h.1 c7
          refine lv_bipush (v := 99) hx hb dX2_range_52 (by decide) ?_
          exact wk_X2_range_54 C0 hd (ms_s_th σ 0) x1 x2 x3 x4 99 x4 h H locs ls hP hS (lv_sub hl [0, 1, 2, 3, 4] rfl)
        · have h := h.2 c7
          refine lv_sipush (v := 9999) hx hb dX2_range_46 (by decide) ?_
          refine lv_goto (tgt := 54) hx hb dX2_range_49 (by decide) ?_
          exact wk_X2_range_54 C0 hd (ms_s_th σ 0) x1 x2 x3 x4 9999 x4 h H locs ls hP hS (lv_sub hl [0, 1, 2, 3, 4] rfl)
  · have h := h.2 c2
    refine lv_iconst (v := (-1)) hx hb dX2_range_13 (by decide) ?_
    exact ret_i (Wd := MW cc ad) (u := (ms_s_th σ 0)) C0 h hP hS dX2_range_14
theorem ct_X2_range (l : Launch) (D : va_G) (cc : Nat → ClassId) (ad : Nat → Nat) (hd : DA 13 ad (fun _ => True)) (g : CS) (σ : MS) (x1 : Int32) (x2 : Int32) (x3 : Int32) (x4 : Int32) (hp : pr_X2_range g σ x1 x2 x3 x4) : Ctr l yX2_range wsX2_range { frames := 4, cells := 0, slots := 0, locals := 100 } D cc (MW cc ad) 13 ad σ [.ref (ad 0), .int x1, .int x2, .int x3, .int x4] (po_X2_range g σ x1 x2 x3 x4) :=
  ctr_i (rt := (some .int)) (by decide +kernel) rfl hd (Nat.le_of_ble_eq_true rfl) (fun p e s m below meth c A C0 hd => wk_X2_range_0 C0 hd σ x1 x2 x3 x4 (pu_X2_range g σ x1 x2 x3 x4 hp))
theorem hin_X2_rule : ∀ w ∈ u_ws RX2 TX2 21, w ∈ wsX2_rule := fun w h => List.mem_cons_of_mem _ (List.mem_append_right _ h)
set_option maxHeartbeats 4000000 in
set_option maxRecDepth 100000 in
theorem wk_X2_rule_113 {p : Program} {l : Launch} {e : Env} {s : State} {m : MethodId} {args : Array Value} {below : List Frame} {meth : Method} {c : Code} {D : va_G} {cc : Nat → ClassId} {ad : Nat → Nat} {A : Nat → Prop} {Post : Int32 → MS → Prop} {g : CS} (C0 : Cx p s m args meth c cX2_rule 6 (some .int) RX2 wsX2_rule D cc A) (hd : DA 13 ad A) (σ : MS) (x1 : Int32) (x2 : Int32) (x3 : Int32) (s0 : Int32) (h : wp_X2_rule_113 g Post σ x1 x2 x3 s0) : At_ p l e { frames := 2, cells := 0, slots := 0, locals := 46 } s m args below meth c (Qi_ below D (MW cc ad) A args s Post) D A (MW cc ad σ) 6 113 [(0, .ref (ad 0)), (1, .int x1), (2, .int x2), (3, .int x3)] [.int s0] := by
  obtain ⟨hx, hb, hml, hr, hown, hts, hlocks, hK, hA, hX⟩ := id C0
  have hin := hin_X2_rule
  intro H locs ls hP hS hl
  unfold wp_X2_rule_113 at h
  refine lv_istore (lv' := [(5, .int s0), (0, .ref (ad 0)), (1, .int x1), (2, .int x2), (3, .int x3)]) hx hb dX2_rule_113 hl (by decide) rfl (fun ls hl => ?_)
  refine lv_iload_n hx hb dX2_rule_115 rfl (lv_at hl 3 rfl) ?_
  refine lv_if_ne (tgt := 136) hx hb dX2_rule_116 (by decide) (fun c1 => ?_) (fun c1 => ?_)
  · have h := h.1 c1
    refine lv_iload_n hx hb dX2_rule_136 rfl (lv_at hl 3 rfl) ?_
    refine lv_iconst (v := 1) hx hb dX2_rule_137 (by decide) ?_
    refine lv_icmp_ne (tgt := 151) hx hb dX2_rule_138 (by decide) (fun c2 => ?_) (fun c2 => ?_)
    · have h := h.1 c2
      refine lv_aload_n hx hb dX2_rule_151 rfl (lv_at hl 1 rfl) ?_
      refine va_get (D := D) (ci := 2) (v := .ref (ad 6)) (C := RX2) (T := TX2) (N := 21) hx hb hts hin hown hK hP 0 rfl rfl 7 (by decide) (hts (.fieldLink RX2 25 "ClassSheetsModel" "begin" "[I") (List.mem_of_getElem? (i := 7) rfl)) (fun _ h9 => h9) rfl dX2_rule_152 ?_
      refine lv_iload_n hx hb dX2_rule_155 rfl (lv_at hl 2 rfl) ?_
      refine lv_iload_n hx hb dX2_rule_156 rfl (lv_at hl 4 rfl) ?_
      obtain ⟨gi3, h⟩ := h
      refine va_iast (D := D) (f := ms_be σ) (x := x3) hx hb hK hP (mD hd) hS 6 0 rfl rfl gi3 dX2_rule_157 (fun H locs hP _ hS => ?_)
      have hP : va_P D vwCl (MW cc ad (ms_s_be σ (upd (ms_be σ) x1.toNatClampNeg x3))) H := hP
      refine lv_iload hx hb dX2_rule_158 (lv_at hl 0 rfl) ?_
      exact ret_i (Wd := MW cc ad) (u := (ms_s_be σ (upd (ms_be σ) x1.toNatClampNeg x3))) C0 h hP hS dX2_rule_160
    · have h := h.2 c2
      refine lv_aload_n hx hb dX2_rule_141 rfl (lv_at hl 1 rfl) ?_
      refine va_get (D := D) (ci := 2) (v := .ref (ad 5)) (C := RX2) (T := TX2) (N := 21) hx hb hts hin hown hK hP 0 rfl rfl 6 (by decide) (hts (.fieldLink RX2 22 "ClassSheetsModel" "takes" "[I") (List.mem_of_getElem? (i := 6) rfl)) (fun _ h9 => h9) rfl dX2_rule_142 ?_
      refine lv_iload_n hx hb dX2_rule_145 rfl (lv_at hl 2 rfl) ?_
      refine lv_iload_n hx hb dX2_rule_146 rfl (lv_at hl 4 rfl) ?_
      obtain ⟨gi4, h⟩ := h
      refine va_iast (D := D) (f := ms_ta σ) (x := x3) hx hb hK hP (mD hd) hS 5 0 rfl rfl gi4 dX2_rule_147 (fun H locs hP _ hS => ?_)
      have hP : va_P D vwCl (MW cc ad (ms_s_ta σ (upd (ms_ta σ) x1.toNatClampNeg x3))) H := hP
      refine lv_goto (tgt := 158) hx hb dX2_rule_148 (by decide) ?_
      refine lv_iload hx hb dX2_rule_158 (lv_at hl 0 rfl) ?_
      exact ret_i (Wd := MW cc ad) (u := (ms_s_ta σ (upd (ms_ta σ) x1.toNatClampNeg x3))) C0 h hP hS dX2_rule_160
  · have h := h.2 c1
    refine lv_aload_n hx hb dX2_rule_119 rfl (lv_at hl 1 rfl) ?_
    refine va_get (D := D) (ci := 2) (v := .ref (ad 4)) (C := RX2) (T := TX2) (N := 21) hx hb hts hin hown hK hP 0 rfl rfl 5 (by decide) (hts (.fieldLink RX2 19 "ClassSheetsModel" "law" "[I") (List.mem_of_getElem? (i := 5) rfl)) (fun _ h9 => h9) rfl dX2_rule_120 ?_
    refine lv_iload_n hx hb dX2_rule_123 rfl (lv_at hl 2 rfl) ?_
    refine lv_iload_n hx hb dX2_rule_124 rfl (lv_at hl 4 rfl) ?_
    obtain ⟨gi5, h⟩ := h
    refine va_iast (D := D) (f := ms_la σ) (x := x3) hx hb hK hP (mD hd) hS 4 0 rfl rfl gi5 dX2_rule_125 (fun H locs hP _ hS => ?_)
    have hP : va_P D vwCl (MW cc ad (ms_s_la σ (upd (ms_la σ) x1.toNatClampNeg x3))) H := hP
    refine lv_aload_n hx hb dX2_rule_126 rfl (lv_at hl 1 rfl) ?_
    refine va_get (D := D) (ci := 2) (v := .ref (ad 7)) (C := RX2) (T := TX2) (N := 21) hx hb hts hin hown hK hP 0 rfl rfl 8 (by decide) (hts (.fieldLink RX2 28 "ClassSheetsModel" "isTold" "[Z") (List.mem_of_getElem? (i := 8) rfl)) (fun _ h9 => h9) rfl dX2_rule_127 ?_
    refine lv_iload_n hx hb dX2_rule_130 rfl (lv_at hl 2 rfl) ?_
    refine lv_iconst (v := 0) hx hb dX2_rule_131 (by decide) ?_
    obtain ⟨gi6, h⟩ := h
    refine va_zast (D := D) (f := ms_is (ms_s_la σ (upd (ms_la σ) x1.toNatClampNeg x3))) (x := 0) hx hb hK hP (mD hd) hS 7 2 rfl rfl gi6 dX2_rule_132 (fun H locs hP _ hS => ?_)
    have hP : va_P D vwCl (MW cc ad (ms_s_is (ms_s_la σ (upd (ms_la σ) x1.toNatClampNeg x3)) (upd (ms_is (ms_s_la σ (upd (ms_la σ) x1.toNatClampNeg x3))) x1.toNatClampNeg (vp_nar .boolean 0)))) H := hP
    refine lv_goto (tgt := 158) hx hb dX2_rule_133 (by decide) ?_
    refine lv_iload hx hb dX2_rule_158 (lv_at hl 0 rfl) ?_
    exact ret_i (Wd := MW cc ad) (u := (ms_s_is (ms_s_la σ (upd (ms_la σ) x1.toNatClampNeg x3)) (upd (ms_is (ms_s_la σ (upd (ms_la σ) x1.toNatClampNeg x3))) x1.toNatClampNeg (vp_nar .boolean 0)))) C0 h hP hS dX2_rule_160
set_option maxHeartbeats 4000000 in
set_option maxRecDepth 100000 in
theorem wk_X2_rule_70 {p : Program} {l : Launch} {e : Env} {s : State} {m : MethodId} {args : Array Value} {below : List Frame} {meth : Method} {c : Code} {D : va_G} {cc : Nat → ClassId} {ad : Nat → Nat} {A : Nat → Prop} {Post : Int32 → MS → Prop} {g : CS} (C0 : Cx p s m args meth c cX2_rule 6 (some .int) RX2 wsX2_rule D cc A) (hd : DA 13 ad A) (σ : MS) (x1 : Int32) (x2 : Int32) (x3 : Int32) (s0 : Int32) (h : wp_X2_rule_70 g Post σ x1 x2 x3 s0) : At_ p l e { frames := 2, cells := 0, slots := 0, locals := 46 } s m args below meth c (Qi_ below D (MW cc ad) A args s Post) D A (MW cc ad σ) 6 70 [(0, .ref (ad 0)), (1, .int x1), (2, .int x2), (3, .int x3)] [.int s0] := by
  obtain ⟨hx, hb, hml, hr, hown, hts, hlocks, hK, hA, hX⟩ := id C0
  have hin := hin_X2_rule
  intro H locs ls hP hS hl
  unfold wp_X2_rule_70 at h
  refine lv_istore (lv' := [(4, .int s0), (0, .ref (ad 0)), (1, .int x1), (2, .int x2), (3, .int x3)]) hx hb dX2_rule_70 hl (by decide) rfl (fun ls hl => ?_)
  refine lv_iload hx hb dX2_rule_72 (lv_at hl 0 rfl) ?_
  refine lv_if_ne (tgt := 80) hx hb dX2_rule_74 (by decide) (fun c1 => ?_) (fun c1 => ?_)
  · have h := h.1 c1
    refine lv_iload_n hx hb dX2_rule_80 rfl (lv_at hl 3 rfl) ?_
    refine lv_if_ne (tgt := 93) hx hb dX2_rule_81 (by decide) (fun c2 => ?_) (fun c2 => ?_)
    · have h := h.1 c2
      refine lv_iload_n hx hb dX2_rule_93 rfl (lv_at hl 3 rfl) ?_
      refine lv_iconst (v := 1) hx hb dX2_rule_94 (by decide) ?_
      refine lv_icmp_ne (tgt := 107) hx hb dX2_rule_95 (by decide) (fun c3 => ?_) (fun c3 => ?_)
      · have h := h.1 c3
        refine lv_aload_n hx hb dX2_rule_107 rfl (lv_at hl 1 rfl) ?_
        refine va_get (D := D) (ci := 2) (v := .ref (ad 6)) (C := RX2) (T := TX2) (N := 21) hx hb hts hin hown hK hP 0 rfl rfl 7 (by decide) (hts (.fieldLink RX2 25 "ClassSheetsModel" "begin" "[I") (List.mem_of_getElem? (i := 7) rfl)) (fun _ h9 => h9) rfl dX2_rule_108 ?_
        refine lv_iload_n hx hb dX2_rule_111 rfl (lv_at hl 2 rfl) ?_
        obtain ⟨gi4, h⟩ := h
        refine va_iald (D := D) (f := ms_be σ) hx hb hK hP 6 0 rfl rfl gi4 dX2_rule_112 ?_
        exact wk_X2_rule_113 C0 hd σ x1 x2 x3 (ms_be σ x1.toNatClampNeg) h H locs ls hP hS (lv_sub hl [1, 2, 3, 4] rfl)
      · have h := h.2 c3
        refine lv_aload_n hx hb dX2_rule_98 rfl (lv_at hl 1 rfl) ?_
        refine va_get (D := D) (ci := 2) (v := .ref (ad 5)) (C := RX2) (T := TX2) (N := 21) hx hb hts hin hown hK hP 0 rfl rfl 6 (by decide) (hts (.fieldLink RX2 22 "ClassSheetsModel" "takes" "[I") (List.mem_of_getElem? (i := 6) rfl)) (fun _ h9 => h9) rfl dX2_rule_99 ?_
        refine lv_iload_n hx hb dX2_rule_102 rfl (lv_at hl 2 rfl) ?_
        obtain ⟨gi5, h⟩ := h
        refine va_iald (D := D) (f := ms_ta σ) hx hb hK hP 5 0 rfl rfl gi5 dX2_rule_103 ?_
        refine lv_goto (tgt := 113) hx hb dX2_rule_104 (by decide) ?_
        exact wk_X2_rule_113 C0 hd σ x1 x2 x3 (ms_ta σ x1.toNatClampNeg) h H locs ls hP hS (lv_sub hl [1, 2, 3, 4] rfl)
    · have h := h.2 c2
      refine lv_aload_n hx hb dX2_rule_84 rfl (lv_at hl 1 rfl) ?_
      refine va_get (D := D) (ci := 2) (v := .ref (ad 4)) (C := RX2) (T := TX2) (N := 21) hx hb hts hin hown hK hP 0 rfl rfl 5 (by decide) (hts (.fieldLink RX2 19 "ClassSheetsModel" "law" "[I") (List.mem_of_getElem? (i := 5) rfl)) (fun _ h9 => h9) rfl dX2_rule_85 ?_
      refine lv_iload_n hx hb dX2_rule_88 rfl (lv_at hl 2 rfl) ?_
      obtain ⟨gi6, h⟩ := h
      refine va_iald (D := D) (f := ms_la σ) hx hb hK hP 4 0 rfl rfl gi6 dX2_rule_89 ?_
      refine lv_goto (tgt := 113) hx hb dX2_rule_90 (by decide) ?_
      exact wk_X2_rule_113 C0 hd σ x1 x2 x3 (ms_la σ x1.toNatClampNeg) h H locs ls hP hS (lv_sub hl [1, 2, 3, 4] rfl)
  · have h := h.2 c1
    refine lv_bipush (v := (-2)) hx hb dX2_rule_77 (by decide) ?_
    exact ret_i (Wd := MW cc ad) (u := σ) C0 h hP hS dX2_rule_79
set_option maxHeartbeats 4000000 in
set_option maxRecDepth 100000 in
theorem wk_X2_rule_69 {p : Program} {l : Launch} {e : Env} {s : State} {m : MethodId} {args : Array Value} {below : List Frame} {meth : Method} {c : Code} {D : va_G} {cc : Nat → ClassId} {ad : Nat → Nat} {A : Nat → Prop} {Post : Int32 → MS → Prop} {g : CS} (C0 : Cx p s m args meth c cX2_rule 6 (some .int) RX2 wsX2_rule D cc A) (hd : DA 13 ad A) (σ : MS) (x1 : Int32) (x2 : Int32) (x3 : Int32) (h : wp_X2_rule_69 g Post σ x1 x2 x3) : At_ p l e { frames := 2, cells := 0, slots := 0, locals := 46 } s m args below meth c (Qi_ below D (MW cc ad) A args s Post) D A (MW cc ad σ) 6 69 [(0, .ref (ad 0)), (1, .int x1), (2, .int x2), (3, .int x3)] [] := by
  obtain ⟨hx, hb, hml, hr, hown, hts, hlocks, hK, hA, hX⟩ := id C0
  have hin := hin_X2_rule
  intro H locs ls hP hS hl
  unfold wp_X2_rule_69 at h
  refine lv_iconst (v := 0) hx hb dX2_rule_69 (by decide) ?_
  exact wk_X2_rule_70 C0 hd σ x1 x2 x3 0 h H locs ls hP hS (lv_sub hl [0, 1, 2, 3] rfl)
set_option maxHeartbeats 4000000 in
set_option maxRecDepth 100000 in
theorem wk_X2_rule_65 {p : Program} {l : Launch} {e : Env} {s : State} {m : MethodId} {args : Array Value} {below : List Frame} {meth : Method} {c : Code} {D : va_G} {cc : Nat → ClassId} {ad : Nat → Nat} {A : Nat → Prop} {Post : Int32 → MS → Prop} {g : CS} (C0 : Cx p s m args meth c cX2_rule 6 (some .int) RX2 wsX2_rule D cc A) (hd : DA 13 ad A) (σ : MS) (x1 : Int32) (x2 : Int32) (x3 : Int32) (h : wp_X2_rule_65 g Post σ x1 x2 x3) : At_ p l e { frames := 2, cells := 0, slots := 0, locals := 46 } s m args below meth c (Qi_ below D (MW cc ad) A args s Post) D A (MW cc ad σ) 6 65 [(0, .ref (ad 0)), (1, .int x1), (2, .int x2), (3, .int x3)] [] := by
  obtain ⟨hx, hb, hml, hr, hown, hts, hlocks, hK, hA, hX⟩ := id C0
  have hin := hin_X2_rule
  intro H locs ls hP hS hl
  unfold wp_X2_rule_65 at h
  refine lv_iconst (v := 1) hx hb dX2_rule_65 (by decide) ?_
  refine lv_goto (tgt := 70) hx hb dX2_rule_66 (by decide) ?_
  exact wk_X2_rule_70 C0 hd σ x1 x2 x3 1 h H locs ls hP hS (lv_sub hl [0, 1, 2, 3] rfl)
set_option maxHeartbeats 4000000 in
set_option maxRecDepth 100000 in
theorem wk_X2_rule_48 {p : Program} {l : Launch} {e : Env} {s : State} {m : MethodId} {args : Array Value} {below : List Frame} {meth : Method} {c : Code} {D : va_G} {cc : Nat → ClassId} {ad : Nat → Nat} {A : Nat → Prop} {Post : Int32 → MS → Prop} {g : CS} (C0 : Cx p s m args meth c cX2_rule 6 (some .int) RX2 wsX2_rule D cc A) (hd : DA 13 ad A) (σ : MS) (x1 : Int32) (x2 : Int32) (x3 : Int32) (h : wp_X2_rule_48 g Post σ x1 x2 x3) : At_ p l e { frames := 2, cells := 0, slots := 0, locals := 46 } s m args below meth c (Qi_ below D (MW cc ad) A args s Post) D A (MW cc ad σ) 6 48 [(0, .ref (ad 0)), (1, .int x1), (2, .int x2), (3, .int x3)] [] := by
  obtain ⟨hx, hb, hml, hr, hown, hts, hlocks, hK, hA, hX⟩ := id C0
  have hin := hin_X2_rule
  intro H locs ls hP hS hl
  unfold wp_X2_rule_48 at h
  refine lv_iload_n hx hb dX2_rule_48 rfl (lv_at hl 2 rfl) ?_
  refine lv_iconst (v := 2) hx hb dX2_rule_49 (by decide) ?_
  refine lv_icmp_ne (tgt := 69) hx hb dX2_rule_50 (by decide) (fun c1 => ?_) (fun c1 => ?_)
  · have h := h.1 c1
    exact wk_X2_rule_69 C0 hd σ x1 x2 x3 h H locs ls hP hS (lv_sub hl [0, 1, 2, 3] rfl)
  · have h := h.2 c1
    refine lv_iload_n hx hb dX2_rule_53 rfl (lv_at hl 3 rfl) ?_
    refine lv_i2l (v := x3.toInt64) hx hb dX2_rule_54 rfl ?_
    refine lv_lconst (v := 0) hx hb dX2_rule_55 (by decide) ?_
    refine lv_ldc2 (v := 9999) hx hb hown (hts (.constantLong RX2 105 (9999)) (List.mem_of_getElem? (i := 4) rfl)) dX2_rule_56 ?_
    refine call_s (Wd := MW cc ad) (σ := σ) C0 hd (lens_un (adc := ad)) (As := [.long (x3.toInt64), .long 0, .long 9999]) (rest := []) (ct_X2_in l D cc ad da0 (x3.toInt64) 0 9999) (va_cwS 3 hts gX2_rule_X2_in rfl rfl rfl (by decide +kernel) ⟨Nat.le_of_ble_eq_true rfl, Nat.le_of_ble_eq_true rfl⟩) hP hS rfl hl.1 rfl (by simp [Value.category]) dX2_rule_59 (fun r2 u hp H locs hP hS => ?_)
    obtain ⟨hp1, hp2⟩ := hp
    subst hp1
    have hP : va_P D vwCl (MW cc ad σ) H := hP
    refine lv_if_eq (tgt := 69) hx hb dX2_rule_62 (by decide) (fun c3 => ?_) (fun c3 => ?_)
    · have h := h.1 c3
      exact wk_X2_rule_69 C0 hd σ x1 x2 x3 h H locs ls hP hS (lv_sub hl [0, 1, 2, 3] rfl)
    · have h := h.2 c3
      exact wk_X2_rule_65 C0 hd σ x1 x2 x3 h H locs ls hP hS (lv_sub hl [0, 1, 2, 3] rfl)
set_option maxHeartbeats 4000000 in
set_option maxRecDepth 100000 in
theorem wk_X2_rule_31 {p : Program} {l : Launch} {e : Env} {s : State} {m : MethodId} {args : Array Value} {below : List Frame} {meth : Method} {c : Code} {D : va_G} {cc : Nat → ClassId} {ad : Nat → Nat} {A : Nat → Prop} {Post : Int32 → MS → Prop} {g : CS} (C0 : Cx p s m args meth c cX2_rule 6 (some .int) RX2 wsX2_rule D cc A) (hd : DA 13 ad A) (σ : MS) (x1 : Int32) (x2 : Int32) (x3 : Int32) (h : wp_X2_rule_31 g Post σ x1 x2 x3) : At_ p l e { frames := 2, cells := 0, slots := 0, locals := 46 } s m args below meth c (Qi_ below D (MW cc ad) A args s Post) D A (MW cc ad σ) 6 31 [(0, .ref (ad 0)), (1, .int x1), (2, .int x2), (3, .int x3)] [] := by
  obtain ⟨hx, hb, hml, hr, hown, hts, hlocks, hK, hA, hX⟩ := id C0
  have hin := hin_X2_rule
  intro H locs ls hP hS hl
  unfold wp_X2_rule_31 at h
  refine lv_iload_n hx hb dX2_rule_31 rfl (lv_at hl 2 rfl) ?_
  refine lv_iconst (v := 1) hx hb dX2_rule_32 (by decide) ?_
  refine lv_icmp_ne (tgt := 48) hx hb dX2_rule_33 (by decide) (fun c1 => ?_) (fun c1 => ?_)
  · have h := h.1 c1
    exact wk_X2_rule_48 C0 hd σ x1 x2 x3 h H locs ls hP hS (lv_sub hl [0, 1, 2, 3] rfl)
  · have h := h.2 c1
    refine lv_iload_n hx hb dX2_rule_36 rfl (lv_at hl 3 rfl) ?_
    refine lv_i2l (v := x3.toInt64) hx hb dX2_rule_37 rfl ?_
    refine lv_lconst (v := 1) hx hb dX2_rule_38 (by decide) ?_
    refine lv_ldc2 (v := 9) hx hb hown (hts (.constantLong RX2 103 (9)) (List.mem_of_getElem? (i := 3) rfl)) dX2_rule_39 ?_
    refine call_s (Wd := MW cc ad) (σ := σ) C0 hd (lens_un (adc := ad)) (As := [.long (x3.toInt64), .long 1, .long 9]) (rest := []) (ct_X2_in l D cc ad da0 (x3.toInt64) 1 9) (va_cwS 3 hts gX2_rule_X2_in rfl rfl rfl (by decide +kernel) ⟨Nat.le_of_ble_eq_true rfl, Nat.le_of_ble_eq_true rfl⟩) hP hS rfl hl.1 rfl (by simp [Value.category]) dX2_rule_42 (fun r2 u hp H locs hP hS => ?_)
    obtain ⟨hp1, hp2⟩ := hp
    subst hp1
    have hP : va_P D vwCl (MW cc ad σ) H := hP
    refine lv_if_ne (tgt := 65) hx hb dX2_rule_45 (by decide) (fun c3 => ?_) (fun c3 => ?_)
    · have h := h.1 c3
      exact wk_X2_rule_65 C0 hd σ x1 x2 x3 h H locs ls hP hS (lv_sub hl [0, 1, 2, 3] rfl)
    · have h := h.2 c3
      exact wk_X2_rule_48 C0 hd σ x1 x2 x3 h H locs ls hP hS (lv_sub hl [0, 1, 2, 3] rfl)
set_option maxHeartbeats 4000000 in
set_option maxRecDepth 100000 in
theorem wk_X2_rule_0 {p : Program} {l : Launch} {e : Env} {s : State} {m : MethodId} {args : Array Value} {below : List Frame} {meth : Method} {c : Code} {D : va_G} {cc : Nat → ClassId} {ad : Nat → Nat} {A : Nat → Prop} {Post : Int32 → MS → Prop} {g : CS} (C0 : Cx p s m args meth c cX2_rule 6 (some .int) RX2 wsX2_rule D cc A) (hd : DA 13 ad A) (σ : MS) (x1 : Int32) (x2 : Int32) (x3 : Int32) (h : wp_X2_rule g Post σ x1 x2 x3) : At_ p l e { frames := 2, cells := 0, slots := 0, locals := 46 } s m args below meth c (Qi_ below D (MW cc ad) A args s Post) D A (MW cc ad σ) 6 0 [(0, .ref (ad 0)), (1, .int x1), (2, .int x2), (3, .int x3)] [] := by
  obtain ⟨hx, hb, hml, hr, hown, hts, hlocks, hK, hA, hX⟩ := id C0
  have hin := hin_X2_rule
  intro H locs ls hP hS hl
  unfold wp_X2_rule at h
  refine lv_aload_n hx hb dX2_rule_0 rfl (lv_at hl 0 rfl) ?_
  refine lv_iconst (v := 0) hx hb dX2_rule_1 (by decide) ?_
  refine va_put (D := D) (ci := 2) (v := .int 0) (ty := .int) (C := RX2) (T := TX2) (N := 21) hx hb hts hin tyX2 tyX2_ok nmX2 hown hK hP (mD hd) hS 0 rfl rfl 0 (by decide) (hts (.fieldLink RX2 59 "ClassSheetsModel" "thrown" "I") (List.mem_of_getElem? (i := 1) rfl)) (fun _ h9 => h9) rfl (by decide +kernel) rfl rfl (Nat.le_of_ble_eq_true rfl) dX2_rule_2 (fun H locs hP _ hS => ?_)
  have hP : va_P D vwCl (MW cc ad (ms_s_th σ 0)) H := hP
  refine lv_aload_n hx hb dX2_rule_5 rfl (lv_at hl 0 rfl) ?_
  refine lv_iload_n hx hb dX2_rule_6 rfl (lv_at hl 1 rfl) ?_
  refine call_v (Wd := MW cc ad) (σ := (ms_s_th σ 0)) C0 hd lens_id (As := [.int x1]) (rest := []) (ct_X2_noKind l D cc ad ⟨hd.1, fun _ _ => trivial⟩ g (ms_s_th σ 0) x1) (cwV 1 hts gX2_rule_X2_noKind rfl rfl rfl (by decide +kernel) ⟨Nat.le_of_ble_eq_true rfl, Nat.le_of_ble_eq_true rfl⟩) (va_recv hK hP (ci := 2) (q0 := 0) rfl rfl) hP hS rfl hl.1 rfl (by simp [Value.category]) dX2_rule_7 (fun r1 u hp H locs hP hS => ?_)
  obtain ⟨hp1, hp2⟩ := hp
  subst hp1
  have hp2 := hp2.symm
  subst hp2
  have hP : va_P D vwCl (MW cc ad (ms_s_th σ 0)) H := hP
  refine lv_if_eq (tgt := 15) hx hb dX2_rule_10 (by decide) (fun c2 => ?_) (fun c2 => ?_)
  · have h := h.1 c2
    refine lv_iload_n hx hb dX2_rule_15 rfl (lv_at hl 2 rfl) ?_
    refine lv_if_ne (tgt := 31) hx hb dX2_rule_16 (by decide) (fun c3 => ?_) (fun c3 => ?_)
    · have h := h.1 c3
      exact wk_X2_rule_31 C0 hd (ms_s_th σ 0) x1 x2 x3 h H locs ls hP hS (lv_sub hl [0, 1, 2, 3] rfl)
    · have h := h.2 c3
      refine lv_iload_n hx hb dX2_rule_19 rfl (lv_at hl 3 rfl) ?_
      refine lv_i2l (v := x3.toInt64) hx hb dX2_rule_20 rfl ?_
      refine lv_lconst (v := 0) hx hb dX2_rule_21 (by decide) ?_
      refine lv_ldc2 (v := 3) hx hb hown (hts (.constantLong RX2 99 (3)) (List.mem_of_getElem? (i := 2) rfl)) dX2_rule_22 ?_
      refine call_s (Wd := MW cc ad) (σ := (ms_s_th σ 0)) C0 hd (lens_un (adc := ad)) (As := [.long (x3.toInt64), .long 0, .long 3]) (rest := []) (ct_X2_in l D cc ad da0 (x3.toInt64) 0 3) (va_cwS 3 hts gX2_rule_X2_in rfl rfl rfl (by decide +kernel) ⟨Nat.le_of_ble_eq_true rfl, Nat.le_of_ble_eq_true rfl⟩) hP hS rfl hl.1 rfl (by simp [Value.category]) dX2_rule_25 (fun r4 u hp H locs hP hS => ?_)
      obtain ⟨hp1, hp2⟩ := hp
      subst hp1
      have hP : va_P D vwCl (MW cc ad (ms_s_th σ 0)) H := hP
      refine lv_if_ne (tgt := 65) hx hb dX2_rule_28 (by decide) (fun c5 => ?_) (fun c5 => ?_)
      · have h := h.1 c5
        exact wk_X2_rule_65 C0 hd (ms_s_th σ 0) x1 x2 x3 h H locs ls hP hS (lv_sub hl [0, 1, 2, 3] rfl)
      · have h := h.2 c5
        exact wk_X2_rule_31 C0 hd (ms_s_th σ 0) x1 x2 x3 h H locs ls hP hS (lv_sub hl [0, 1, 2, 3] rfl)
  · have h := h.2 c2
    refine lv_iconst (v := (-1)) hx hb dX2_rule_13 (by decide) ?_
    exact ret_i (Wd := MW cc ad) (u := (ms_s_th σ 0)) C0 h hP hS dX2_rule_14
theorem ct_X2_rule (l : Launch) (D : va_G) (cc : Nat → ClassId) (ad : Nat → Nat) (hd : DA 13 ad (fun _ => True)) (g : CS) (σ : MS) (x1 : Int32) (x2 : Int32) (x3 : Int32) (hp : pr_X2_rule g σ x1 x2 x3) : Ctr l yX2_rule wsX2_rule { frames := 2, cells := 0, slots := 0, locals := 46 } D cc (MW cc ad) 13 ad σ [.ref (ad 0), .int x1, .int x2, .int x3] (po_X2_rule g σ x1 x2 x3) :=
  ctr_i (rt := (some .int)) (by decide +kernel) rfl hd (Nat.le_of_ble_eq_true rfl) (fun p e s m below meth c A C0 hd => wk_X2_rule_0 C0 hd σ x1 x2 x3 (pu_X2_rule g σ x1 x2 x3 hp))
theorem hin_X2_variants : ∀ w ∈ u_ws RX2 TX2 21, w ∈ wsX2_variants := fun w h => List.mem_cons_of_mem _ (List.mem_append_right _ h)
set_option maxHeartbeats 4000000 in
set_option maxRecDepth 100000 in
theorem wk_X2_variants_0 {p : Program} {l : Launch} {e : Env} {s : State} {m : MethodId} {args : Array Value} {below : List Frame} {meth : Method} {c : Code} {D : va_G} {cc : Nat → ClassId} {ad : Nat → Nat} {A : Nat → Prop} {Post : Int32 → MS → Prop} {g : CS} (C0 : Cx p s m args meth c cX2_variants 2 (some .int) RX2 wsX2_variants D cc A) (hd : DA 13 ad A) (σ : MS) (x1 : Int32) (h : wp_X2_variants g Post σ x1) : At_ p l e { frames := 4, cells := 0, slots := 0, locals := 100 } s m args below meth c (Qi_ below D (MW cc ad) A args s Post) D A (MW cc ad σ) 2 0 [(0, .ref (ad 0)), (1, .int x1)] [] := by
  obtain ⟨hx, hb, hml, hr, hown, hts, hlocks, hK, hA, hX⟩ := id C0
  have hin := hin_X2_variants
  intro H locs ls hP hS hl
  unfold wp_X2_variants at h
  refine lv_aload_n hx hb dX2_variants_0 rfl (lv_at hl 0 rfl) ?_
  refine lv_iconst (v := 0) hx hb dX2_variants_1 (by decide) ?_
  refine va_put (D := D) (ci := 2) (v := .int 0) (ty := .int) (C := RX2) (T := TX2) (N := 21) hx hb hts hin tyX2 tyX2_ok nmX2 hown hK hP (mD hd) hS 0 rfl rfl 0 (by decide) (hts (.fieldLink RX2 59 "ClassSheetsModel" "thrown" "I") (List.mem_of_getElem? (i := 1) rfl)) (fun _ h9 => h9) rfl (by decide +kernel) rfl rfl (Nat.le_of_ble_eq_true rfl) dX2_variants_2 (fun H locs hP _ hS => ?_)
  have hP : va_P D vwCl (MW cc ad (ms_s_th σ 0)) H := hP
  refine lv_aload_n hx hb dX2_variants_5 rfl (lv_at hl 0 rfl) ?_
  refine lv_iload_n hx hb dX2_variants_6 rfl (lv_at hl 1 rfl) ?_
  refine call_v (Wd := MW cc ad) (σ := (ms_s_th σ 0)) C0 hd lens_id (As := [.int x1]) (rest := []) (ct_X2_noKind l D cc ad ⟨hd.1, fun _ _ => trivial⟩ g (ms_s_th σ 0) x1) (cwV 1 hts gX2_variants_X2_noKind rfl rfl rfl (by decide +kernel) ⟨Nat.le_of_ble_eq_true rfl, Nat.le_of_ble_eq_true rfl⟩) (va_recv hK hP (ci := 2) (q0 := 0) rfl rfl) hP hS rfl hl.1 rfl (by simp [Value.category]) dX2_variants_7 (fun r1 u hp H locs hP hS => ?_)
  obtain ⟨hp1, hp2⟩ := hp
  subst hp1
  have hp2 := hp2.symm
  subst hp2
  have hP : va_P D vwCl (MW cc ad (ms_s_th σ 0)) H := hP
  refine lv_if_eq (tgt := 17) hx hb dX2_variants_10 (by decide) (fun c2 => ?_) (fun c2 => ?_)
  · have h := h.1 c2
    refine lv_aload_n hx hb dX2_variants_17 rfl (lv_at hl 0 rfl) ?_
    refine lv_iload_n hx hb dX2_variants_18 rfl (lv_at hl 1 rfl) ?_
    obtain ⟨gp3, h⟩ := h
    refine call_v (Wd := MW cc ad) (σ := (ms_s_th σ 0)) C0 hd lens_id (As := [.int x1]) (rest := []) (ct_X2_tell l D cc ad ⟨hd.1, fun _ _ => trivial⟩ g (ms_s_th σ 0) x1 gp3) (cwV 1 hts gX2_variants_X2_tell rfl rfl rfl (by decide +kernel) ⟨Nat.le_of_ble_eq_true rfl, Nat.le_of_ble_eq_true rfl⟩) (va_recv hK hP (ci := 2) (q0 := 0) rfl rfl) hP hS rfl hl.1 rfl (by simp [Value.category]) dX2_variants_19 (fun r4 u5 hp H locs hP hS => ?_)
    have h := h r4 u5 hp
    have hP : va_P D vwCl (MW cc ad u5) H := hP
    exact ret_i (Wd := MW cc ad) (u := u5) C0 h hP hS dX2_variants_22
  · have h := h.2 c2
    refine lv_iconst (v := (-1)) hx hb dX2_variants_13 (by decide) ?_
    refine lv_goto (tgt := 22) hx hb dX2_variants_14 (by decide) ?_
    exact ret_i (Wd := MW cc ad) (u := (ms_s_th σ 0)) C0 h hP hS dX2_variants_22
theorem ct_X2_variants (l : Launch) (D : va_G) (cc : Nat → ClassId) (ad : Nat → Nat) (hd : DA 13 ad (fun _ => True)) (g : CS) (σ : MS) (x1 : Int32) (hp : pr_X2_variants g σ x1) : Ctr l yX2_variants wsX2_variants { frames := 4, cells := 0, slots := 0, locals := 100 } D cc (MW cc ad) 13 ad σ [.ref (ad 0), .int x1] (po_X2_variants g σ x1) :=
  ctr_i (rt := (some .int)) (by decide +kernel) rfl hd (Nat.le_of_ble_eq_true rfl) (fun p e s m below meth c A C0 hd => wk_X2_variants_0 C0 hd σ x1 (pu_X2_variants g σ x1 hp))
theorem hin_X2_variant : ∀ w ∈ u_ws RX2 TX2 21, w ∈ wsX2_variant := fun w h => List.mem_cons_of_mem _ (List.mem_append_right _ h)
set_option maxHeartbeats 4000000 in
set_option maxRecDepth 100000 in
theorem wk_X2_variant_0 {p : Program} {l : Launch} {e : Env} {s : State} {m : MethodId} {args : Array Value} {below : List Frame} {meth : Method} {c : Code} {D : va_G} {cc : Nat → ClassId} {ad : Nat → Nat} {A : Nat → Prop} {Post : Int32 → MS → Prop} {g : CS} (C0 : Cx p s m args meth c cX2_variant 6 (some .int) RX2 wsX2_variant D cc A) (hd : DA 13 ad A) (σ : MS) (x1 : Int32) (x2 : Int32) (x3 : Int32) (h : wp_X2_variant g Post σ x1 x2 x3) : At_ p l e { frames := 5, cells := 0, slots := 0, locals := 122 } s m args below meth c (Qi_ below D (MW cc ad) A args s Post) D A (MW cc ad σ) 6 0 [(0, .ref (ad 0)), (1, .int x1), (2, .int x2), (3, .int x3)] [] := by
  obtain ⟨hx, hb, hml, hr, hown, hts, hlocks, hK, hA, hX⟩ := id C0
  have hin := hin_X2_variant
  intro H locs ls hP hS hl
  unfold wp_X2_variant at h
  refine lv_aload_n hx hb dX2_variant_0 rfl (lv_at hl 0 rfl) ?_
  refine lv_iconst (v := 0) hx hb dX2_variant_1 (by decide) ?_
  refine va_put (D := D) (ci := 2) (v := .int 0) (ty := .int) (C := RX2) (T := TX2) (N := 21) hx hb hts hin tyX2 tyX2_ok nmX2 hown hK hP (mD hd) hS 0 rfl rfl 0 (by decide) (hts (.fieldLink RX2 59 "ClassSheetsModel" "thrown" "I") (List.mem_of_getElem? (i := 1) rfl)) (fun _ h9 => h9) rfl (by decide +kernel) rfl rfl (Nat.le_of_ble_eq_true rfl) dX2_variant_2 (fun H locs hP _ hS => ?_)
  have hP : va_P D vwCl (MW cc ad (ms_s_th σ 0)) H := hP
  refine lv_aload_n hx hb dX2_variant_5 rfl (lv_at hl 0 rfl) ?_
  refine lv_iload_n hx hb dX2_variant_6 rfl (lv_at hl 1 rfl) ?_
  refine lv_iload_n hx hb dX2_variant_7 rfl (lv_at hl 2 rfl) ?_
  obtain ⟨gp1, h⟩ := h
  refine call_v (Wd := MW cc ad) (σ := (ms_s_th σ 0)) C0 hd lens_id (As := [.int x1, .int x2]) (rest := []) (ct_X2_noVariant l D cc ad ⟨hd.1, fun _ _ => trivial⟩ g (ms_s_th σ 0) x1 x2 gp1) (cwV 2 hts gX2_variant_X2_noVariant rfl rfl rfl (by decide +kernel) ⟨Nat.le_of_ble_eq_true rfl, Nat.le_of_ble_eq_true rfl⟩) (va_recv hK hP (ci := 2) (q0 := 0) rfl rfl) hP hS rfl hl.1 rfl (by simp [Value.category]) dX2_variant_8 (fun r2 u3 hp H locs hP hS => ?_)
  have h := h r2 u3 hp
  have hP : va_P D vwCl (MW cc ad u3) H := hP
  refine lv_if_eq (tgt := 16) hx hb dX2_variant_11 (by decide) (fun c4 => ?_) (fun c4 => ?_)
  · have h := h.1 c4
    refine lv_aload_n hx hb dX2_variant_16 rfl (lv_at hl 0 rfl) ?_
    refine lv_iload_n hx hb dX2_variant_17 rfl (lv_at hl 1 rfl) ?_
    refine lv_iload_n hx hb dX2_variant_18 rfl (lv_at hl 2 rfl) ?_
    obtain ⟨gp5, h⟩ := h
    refine call_v (Wd := MW cc ad) (σ := u3) C0 hd lens_id (As := [.int x1, .int x2]) (rest := []) (ct_X2_pairOf l D cc ad ⟨hd.1, fun _ _ => trivial⟩ g u3 x1 x2 gp5) (cwV 2 hts gX2_variant_X2_pairOf rfl rfl rfl (by decide +kernel) ⟨Nat.le_of_ble_eq_true rfl, Nat.le_of_ble_eq_true rfl⟩) (va_recv hK hP (ci := 2) (q0 := 0) rfl rfl) hP hS rfl hl.1 rfl (by simp [Value.category]) dX2_variant_19 (fun r6 u hp H locs hP hS => ?_)
    obtain ⟨hp1, hp2⟩ := hp
    subst hp1
    have hp2 := hp2.symm
    subst hp2
    have hP : va_P D vwCl (MW cc ad u3) H := hP
    refine lv_bipush (v := 100) hx hb dX2_variant_22 (by decide) ?_
    refine lv_idiv hx hb dX2_variant_24 (by decide) ?_
    refine lv_topi (fun x4_7 ex4_7 => ?_)
    have h := h x4_7 ex4_7
    refine lv_istore (lv' := [(4, .int x4_7), (0, .ref (ad 0)), (1, .int x1), (2, .int x2), (3, .int x3)]) hx hb dX2_variant_25 hl (by decide) rfl (fun ls hl => ?_)
    refine lv_aload_n hx hb dX2_variant_27 rfl (lv_at hl 1 rfl) ?_
    refine lv_iload_n hx hb dX2_variant_28 rfl (lv_at hl 2 rfl) ?_
    refine lv_iload_n hx hb dX2_variant_29 rfl (lv_at hl 3 rfl) ?_
    obtain ⟨gp8, h⟩ := h
    refine call_v (Wd := MW cc ad) (σ := u3) C0 hd lens_id (As := [.int x1, .int x2]) (rest := []) (ct_X2_pairOf l D cc ad ⟨hd.1, fun _ _ => trivial⟩ g u3 x1 x2 gp8) (cwV 2 hts gX2_variant_X2_pairOf rfl rfl rfl (by decide +kernel) ⟨Nat.le_of_ble_eq_true rfl, Nat.le_of_ble_eq_true rfl⟩) (va_recv hK hP (ci := 2) (q0 := 0) rfl rfl) hP hS rfl hl.1 rfl (by simp [Value.category]) dX2_variant_30 (fun r9 u hp H locs hP hS => ?_)
    obtain ⟨hp1, hp2⟩ := hp
    subst hp1
    have hp2 := hp2.symm
    subst hp2
    have hP : va_P D vwCl (MW cc ad u3) H := hP
    refine lv_bipush (v := 100) hx hb dX2_variant_33 (by decide) ?_
    refine lv_irem hx hb dX2_variant_35 (by decide) ?_
    refine lv_topi (fun x5_10 ex5_10 => ?_)
    have h := h x5_10 ex5_10
    refine lv_istore (lv' := [(5, .int x5_10), (4, .int x4_7), (0, .ref (ad 0)), (1, .int x1), (2, .int x2), (3, .int x3)]) hx hb dX2_variant_36 hl (by decide) rfl (fun ls hl => ?_)
    refine lv_iload_n hx hb dX2_variant_38 rfl (lv_at hl 5 rfl) ?_
    rcases Classical.em (x3 = 0) with c11 | c11
    · have h := h.1 c11
      refine lv_tableIn (off := 29) (tgt := 68) hx hb dX2_variant_39 (by rw [c11]; decide) (by rw [c11]; decide) (by rw [c11]; decide) (by decide) ?_
      refine lv_iload hx hb dX2_variant_68 (lv_at hl 1 rfl) ?_
      exact ret_i (Wd := MW cc ad) (u := u3) C0 h hP hS dX2_variant_70
    · have h := h.2 c11
      rcases Classical.em (x3 = 1) with c12 | c12
      · have h := h.1 c12
        refine lv_tableIn (off := 32) (tgt := 71) hx hb dX2_variant_39 (by rw [c12]; decide) (by rw [c12]; decide) (by rw [c12]; decide) (by decide) ?_
        refine lv_iload hx hb dX2_variant_71 (lv_at hl 0 rfl) ?_
        exact ret_i (Wd := MW cc ad) (u := u3) C0 h hP hS dX2_variant_73
      · have h := h.2 c12
        rcases Classical.em (x3 = 2) with c13 | c13
        · have h := h.1 c13
          refine lv_tableIn (off := 35) (tgt := 74) hx hb dX2_variant_39 (by rw [c13]; decide) (by rw [c13]; decide) (by rw [c13]; decide) (by decide) ?_
          refine lv_aload_n hx hb dX2_variant_74 rfl (lv_at hl 2 rfl) ?_
          refine va_get (D := D) (ci := 2) (v := .ref (ad 1)) (C := RX2) (T := TX2) (N := 21) hx hb hts hin hown hK hP 0 rfl rfl 2 (by decide) (hts (.fieldLink RX2 7 "ClassSheetsModel" "operation" "[I") (List.mem_of_getElem? (i := 2) rfl)) (fun _ h9 => h9) rfl dX2_variant_75 ?_
          refine lv_iload_n hx hb dX2_variant_78 rfl (lv_at hl 3 rfl) ?_
          obtain ⟨gi14, h⟩ := h
          refine va_iald (D := D) (f := ms_op u3) hx hb hK hP 1 0 rfl rfl gi14 dX2_variant_79 ?_
          refine lv_iload hx hb dX2_variant_80 (lv_at hl 1 rfl) ?_
          refine lv_iload hx hb dX2_variant_82 (lv_at hl 0 rfl) ?_
          refine call_s (Wd := MW cc ad) (σ := u3) C0 hd (lens_un (adc := ad)) (As := [.int (ms_op u3 x1.toNatClampNeg), .int x4_7, .int x5_10]) (rest := []) (ct_X2_answerOf l D cc ad da0 (ms_op u3 x1.toNatClampNeg) x4_7 x5_10) (va_cwS 3 hts gX2_variant_X2_answerOf rfl rfl rfl (by decide +kernel) ⟨Nat.le_of_ble_eq_true rfl, Nat.le_of_ble_eq_true rfl⟩) hP hS rfl hl.1 rfl (by simp [Value.category]) dX2_variant_84 (fun r15 u hp H locs hP hS => ?_)
          obtain ⟨hp1, hp2⟩ := hp
          subst hp1
          have hP : va_P D vwCl (MW cc ad u3) H := hP
          exact ret_i (Wd := MW cc ad) (u := u3) C0 h hP hS dX2_variant_87
        · have h := h.2 c13
          rcases Classical.em (x3 = 3) with c16 | c16
          · have h := h.1 c16
            refine lv_tableIn (off := 49) (tgt := 88) hx hb dX2_variant_39 (by rw [c16]; decide) (by rw [c16]; decide) (by rw [c16]; decide) (by decide) ?_
            refine lv_aload_n hx hb dX2_variant_88 rfl (lv_at hl 2 rfl) ?_
            refine va_get (D := D) (ci := 2) (v := .ref (ad 1)) (C := RX2) (T := TX2) (N := 21) hx hb hts hin hown hK hP 0 rfl rfl 2 (by decide) (hts (.fieldLink RX2 7 "ClassSheetsModel" "operation" "[I") (List.mem_of_getElem? (i := 2) rfl)) (fun _ h9 => h9) rfl dX2_variant_89 ?_
            refine lv_iload_n hx hb dX2_variant_92 rfl (lv_at hl 3 rfl) ?_
            obtain ⟨gi17, h⟩ := h
            refine va_iald (D := D) (f := ms_op u3) hx hb hK hP 1 0 rfl rfl gi17 dX2_variant_93 ?_
            refine lv_iload hx hb dX2_variant_94 (lv_at hl 1 rfl) ?_
            refine lv_iload hx hb dX2_variant_96 (lv_at hl 0 rfl) ?_
            refine call_s (Wd := MW cc ad) (σ := u3) C0 hd (lens_un (adc := ad)) (As := [.int (ms_op u3 x1.toNatClampNeg), .int x4_7, .int x5_10]) (rest := []) (ct_X2_carries l D cc ad da0 (ms_op u3 x1.toNatClampNeg) x4_7 x5_10) (va_cwS 3 hts gX2_variant_X2_carries rfl rfl rfl (by decide +kernel) ⟨Nat.le_of_ble_eq_true rfl, Nat.le_of_ble_eq_true rfl⟩) hP hS rfl hl.1 rfl (by simp [Value.category]) dX2_variant_98 (fun r18 u hp H locs hP hS => ?_)
            obtain ⟨hp1, hp2⟩ := hp
            subst hp1
            have hP : va_P D vwCl (MW cc ad u3) H := hP
            refine lv_if_eq (tgt := 108) hx hb dX2_variant_101 (by decide) (fun c19 => ?_) (fun c19 => ?_)
            · have h := h.1 c19
              refine lv_iconst (v := 0) hx hb dX2_variant_108 (by decide) ?_
              exact ret_i (Wd := MW cc ad) (u := u3) C0 h hP hS dX2_variant_109
            · have h := h.2 c19
              refine lv_iconst (v := 1) hx hb dX2_variant_104 (by decide) ?_
              refine lv_goto (tgt := 109) hx hb dX2_variant_105 (by decide) ?_
              exact ret_i (Wd := MW cc ad) (u := u3) C0 h hP hS dX2_variant_109
          · have h := h.2 c16
            refine lv_tableOut (tgt := 110) hx hb dX2_variant_39 (by have qc11 := lv_neT (a := 0) c11 (by decide); have qc12 := lv_neT (a := 1) c12 (by decide); have qc13 := lv_neT (a := 2) c13 (by decide); have qc16 := lv_neT (a := 3) c16 (by decide); omega) (by decide) ?_
            refine lv_bipush (v := (-2)) hx hb dX2_variant_110 (by decide) ?_
            exact ret_i (Wd := MW cc ad) (u := u3) C0 h hP hS dX2_variant_112
  · have h := h.2 c4
    refine lv_iconst (v := (-1)) hx hb dX2_variant_14 (by decide) ?_
    exact ret_i (Wd := MW cc ad) (u := u3) C0 h hP hS dX2_variant_15
theorem ct_X2_variant (l : Launch) (D : va_G) (cc : Nat → ClassId) (ad : Nat → Nat) (hd : DA 13 ad (fun _ => True)) (g : CS) (σ : MS) (x1 : Int32) (x2 : Int32) (x3 : Int32) (hp : pr_X2_variant g σ x1 x2 x3) : Ctr l yX2_variant wsX2_variant { frames := 5, cells := 0, slots := 0, locals := 122 } D cc (MW cc ad) 13 ad σ [.ref (ad 0), .int x1, .int x2, .int x3] (po_X2_variant g σ x1 x2 x3) :=
  ctr_i (rt := (some .int)) (by decide +kernel) rfl hd (Nat.le_of_ble_eq_true rfl) (fun p e s m below meth c A C0 hd => wk_X2_variant_0 C0 hd σ x1 x2 x3 (pu_X2_variant g σ x1 x2 x3 hp))
theorem hin_X2_find : ∀ w ∈ u_ws RX2 TX2 21, w ∈ wsX2_find := fun w h => List.mem_cons_of_mem _ (List.mem_append_right _ h)
set_option maxHeartbeats 4000000 in
set_option maxRecDepth 100000 in
theorem wk_X2_find_18 {p : Program} {l : Launch} {e : Env} {s : State} {m : MethodId} {args : Array Value} {below : List Frame} {meth : Method} {c : Code} {D : va_G} {cc : Nat → ClassId} {ad : Nat → Nat} {A : Nat → Prop} {Post : Int32 → MS → Prop} {g : CS} (C0 : Cx p s m args meth c cX2_find 5 (some .int) RX2 wsX2_find D cc A) (hd : DA 13 ad A) {K18 : (MS × Int32 × Int32 × Int32 × Int32) → Prop} (hK18 : ∀ a, K18 a → At_ p l e { frames := 4, cells := 0, slots := 0, locals := 100 } s m args below meth c (Qi_ below D (MW cc ad) A args s Post) D A (MW cc ad (a.1)) 5 18 [(0, .ref (ad 0)), (1, .int (a.2.1)), (2, .int (a.2.2.1)), (3, .int (a.2.2.2.1)), (4, .int (a.2.2.2.2))] []) (σ : MS) (x1 : Int32) (x2 : Int32) (x3 : Int32) (x4 : Int32) (h : wp_X2_find_18 g K18 Post σ x1 x2 x3 x4) : At_ p l e { frames := 4, cells := 0, slots := 0, locals := 100 } s m args below meth c (Qi_ below D (MW cc ad) A args s Post) D A (MW cc ad σ) 5 18 [(0, .ref (ad 0)), (1, .int x1), (2, .int x2), (3, .int x3), (4, .int x4)] [] := by
  obtain ⟨hx, hb, hml, hr, hown, hts, hlocks, hK, hA, hX⟩ := id C0
  have hin := hin_X2_find
  intro H locs ls hP hS hl
  unfold wp_X2_find_18 at h
  refine lv_iload hx hb dX2_find_18 (lv_at hl 4 rfl) ?_
  refine lv_aload_n hx hb dX2_find_20 rfl (lv_at hl 0 rfl) ?_
  refine lv_iload_n hx hb dX2_find_21 rfl (lv_at hl 1 rfl) ?_
  obtain ⟨gp1, h⟩ := h
  refine call_v (Wd := MW cc ad) (σ := σ) C0 hd lens_id (As := [.int x1]) (rest := [.int x4]) (ct_X2_tell l D cc ad ⟨hd.1, fun _ _ => trivial⟩ g σ x1 gp1) (cwV 1 hts gX2_find_X2_tell rfl rfl rfl (by decide +kernel) ⟨Nat.le_of_ble_eq_true rfl, Nat.le_of_ble_eq_true rfl⟩) (va_recv hK hP (ci := 2) (q0 := 0) rfl rfl) hP hS rfl hl.1 rfl (by simp [Value.category]) dX2_find_22 (fun r2 u3 hp H locs hP hS => ?_)
  have h := h r2 u3 hp
  have hP : va_P D vwCl (MW cc ad u3) H := hP
  refine lv_icmp_ge (tgt := 65) hx hb dX2_find_25 (by decide) (fun c4 => ?_) (fun c4 => ?_)
  · have h := h.1 c4
    refine lv_bipush (v := (-9)) hx hb dX2_find_65 (by decide) ?_
    exact ret_i (Wd := MW cc ad) (u := u3) C0 h hP hS dX2_find_67
  · have h := h.2 c4
    refine lv_aload_n hx hb dX2_find_28 rfl (lv_at hl 0 rfl) ?_
    refine lv_iload_n hx hb dX2_find_29 rfl (lv_at hl 1 rfl) ?_
    refine lv_iload hx hb dX2_find_30 (lv_at hl 4 rfl) ?_
    obtain ⟨gp5, h⟩ := h
    refine call_v (Wd := MW cc ad) (σ := u3) C0 hd lens_id (As := [.int x1, .int x4]) (rest := []) (ct_X2_pairOf l D cc ad ⟨hd.1, fun _ _ => trivial⟩ g u3 x1 x4 gp5) (cwV 2 hts gX2_find_X2_pairOf rfl rfl rfl (by decide +kernel) ⟨Nat.le_of_ble_eq_true rfl, Nat.le_of_ble_eq_true rfl⟩) (va_recv hK hP (ci := 2) (q0 := 0) rfl rfl) hP hS rfl hl.1 rfl (by simp [Value.category]) dX2_find_32 (fun r6 u hp H locs hP hS => ?_)
    obtain ⟨hp1, hp2⟩ := hp
    subst hp1
    have hp2 := hp2.symm
    subst hp2
    have hP : va_P D vwCl (MW cc ad u3) H := hP
    refine lv_bipush (v := 100) hx hb dX2_find_35 (by decide) ?_
    refine lv_idiv hx hb dX2_find_37 (by decide) ?_
    refine lv_iload_n hx hb dX2_find_38 rfl (lv_at hl 2 rfl) ?_
    refine lv_icmp_ne (tgt := 59) hx hb dX2_find_39 (by decide) (fun c7 => ?_) (fun c7 => ?_)
    · have h := h.1 c7
      obtain ⟨x4_8, ex4_8⟩ : ∃ y : Int32, y = x4 + 1 := ⟨_, rfl⟩
      have h := h x4_8 ex4_8
      refine lv_iinc (v := x4_8) (lv' := [(4, .int x4_8), (0, .ref (ad 0)), (1, .int x1), (2, .int x2), (3, .int x3)]) hx hb dX2_find_59 hl (k := 4) rfl (by rw [ex4_8]; rfl) (by decide) rfl (fun ls hl => ?_)
      refine lv_goto (tgt := 18) hx hb dX2_find_62 (by decide) ?_
      exact hK18 (u3, x1, x2, x3, x4_8) h H locs ls hP hS (lv_sub hl [1, 2, 3, 4, 0] rfl)
    · have h := h.2 c7
      refine lv_aload_n hx hb dX2_find_42 rfl (lv_at hl 0 rfl) ?_
      refine lv_iload_n hx hb dX2_find_43 rfl (lv_at hl 1 rfl) ?_
      refine lv_iload hx hb dX2_find_44 (lv_at hl 4 rfl) ?_
      obtain ⟨gp9, h⟩ := h
      refine call_v (Wd := MW cc ad) (σ := u3) C0 hd lens_id (As := [.int x1, .int x4]) (rest := []) (ct_X2_pairOf l D cc ad ⟨hd.1, fun _ _ => trivial⟩ g u3 x1 x4 gp9) (cwV 2 hts gX2_find_X2_pairOf rfl rfl rfl (by decide +kernel) ⟨Nat.le_of_ble_eq_true rfl, Nat.le_of_ble_eq_true rfl⟩) (va_recv hK hP (ci := 2) (q0 := 0) rfl rfl) hP hS rfl hl.1 rfl (by simp [Value.category]) dX2_find_46 (fun r10 u hp H locs hP hS => ?_)
      obtain ⟨hp1, hp2⟩ := hp
      subst hp1
      have hp2 := hp2.symm
      subst hp2
      have hP : va_P D vwCl (MW cc ad u3) H := hP
      refine lv_bipush (v := 100) hx hb dX2_find_49 (by decide) ?_
      refine lv_irem hx hb dX2_find_51 (by decide) ?_
      refine lv_iload_n hx hb dX2_find_52 rfl (lv_at hl 3 rfl) ?_
      refine lv_icmp_ne (tgt := 59) hx hb dX2_find_53 (by decide) (fun c11 => ?_) (fun c11 => ?_)
      · have h := h.1 c11
        obtain ⟨x4_12, ex4_12⟩ : ∃ y : Int32, y = x4 + 1 := ⟨_, rfl⟩
        have h := h x4_12 ex4_12
        refine lv_iinc (v := x4_12) (lv' := [(4, .int x4_12), (0, .ref (ad 0)), (1, .int x1), (2, .int x2), (3, .int x3)]) hx hb dX2_find_59 hl (k := 4) rfl (by rw [ex4_12]; rfl) (by decide) rfl (fun ls hl => ?_)
        refine lv_goto (tgt := 18) hx hb dX2_find_62 (by decide) ?_
        exact hK18 (u3, x1, x2, x3, x4_12) h H locs ls hP hS (lv_sub hl [1, 2, 3, 4, 0] rfl)
      · have h := h.2 c11
        refine lv_iload hx hb dX2_find_56 (lv_at hl 4 rfl) ?_
        exact ret_i (Wd := MW cc ad) (u := u3) C0 h hP hS dX2_find_58
set_option maxHeartbeats 4000000 in
set_option maxRecDepth 100000 in
theorem wk_X2_find_0 {p : Program} {l : Launch} {e : Env} {s : State} {m : MethodId} {args : Array Value} {below : List Frame} {meth : Method} {c : Code} {D : va_G} {cc : Nat → ClassId} {ad : Nat → Nat} {A : Nat → Prop} {Post : Int32 → MS → Prop} {g : CS} (C0 : Cx p s m args meth c cX2_find 5 (some .int) RX2 wsX2_find D cc A) (hd : DA 13 ad A) (σ : MS) (x1 : Int32) (x2 : Int32) (x3 : Int32) (h : wp_X2_find g Post σ x1 x2 x3) : At_ p l e { frames := 4, cells := 0, slots := 0, locals := 100 } s m args below meth c (Qi_ below D (MW cc ad) A args s Post) D A (MW cc ad σ) 5 0 [(0, .ref (ad 0)), (1, .int x1), (2, .int x2), (3, .int x3)] [] := by
  obtain ⟨hx, hb, hml, hr, hown, hts, hlocks, hK, hA, hX⟩ := id C0
  have hin := hin_X2_find
  intro H locs ls hP hS hl
  unfold wp_X2_find at h
  refine lv_aload_n hx hb dX2_find_0 rfl (lv_at hl 0 rfl) ?_
  refine lv_iconst (v := 0) hx hb dX2_find_1 (by decide) ?_
  refine va_put (D := D) (ci := 2) (v := .int 0) (ty := .int) (C := RX2) (T := TX2) (N := 21) hx hb hts hin tyX2 tyX2_ok nmX2 hown hK hP (mD hd) hS 0 rfl rfl 0 (by decide) (hts (.fieldLink RX2 59 "ClassSheetsModel" "thrown" "I") (List.mem_of_getElem? (i := 1) rfl)) (fun _ h9 => h9) rfl (by decide +kernel) rfl rfl (Nat.le_of_ble_eq_true rfl) dX2_find_2 (fun H locs hP _ hS => ?_)
  have hP : va_P D vwCl (MW cc ad (ms_s_th σ 0)) H := hP
  refine lv_aload_n hx hb dX2_find_5 rfl (lv_at hl 0 rfl) ?_
  refine lv_iload_n hx hb dX2_find_6 rfl (lv_at hl 1 rfl) ?_
  refine call_v (Wd := MW cc ad) (σ := (ms_s_th σ 0)) C0 hd lens_id (As := [.int x1]) (rest := []) (ct_X2_noKind l D cc ad ⟨hd.1, fun _ _ => trivial⟩ g (ms_s_th σ 0) x1) (cwV 1 hts gX2_find_X2_noKind rfl rfl rfl (by decide +kernel) ⟨Nat.le_of_ble_eq_true rfl, Nat.le_of_ble_eq_true rfl⟩) (va_recv hK hP (ci := 2) (q0 := 0) rfl rfl) hP hS rfl hl.1 rfl (by simp [Value.category]) dX2_find_7 (fun r1 u hp H locs hP hS => ?_)
  obtain ⟨hp1, hp2⟩ := hp
  subst hp1
  have hp2 := hp2.symm
  subst hp2
  have hP : va_P D vwCl (MW cc ad (ms_s_th σ 0)) H := hP
  refine lv_if_eq (tgt := 15) hx hb dX2_find_10 (by decide) (fun c2 => ?_) (fun c2 => ?_)
  · have h := h.1 c2
    refine lv_iconst (v := 0) hx hb dX2_find_15 (by decide) ?_
    refine lv_istore (lv' := [(4, .int 0), (0, .ref (ad 0)), (1, .int x1), (2, .int x2), (3, .int x3)]) hx hb dX2_find_16 hl (by decide) rfl (fun ls hl => ?_)
    exact lp_at (Wt := fun a => At_ p l e { frames := 4, cells := 0, slots := 0, locals := 100 } s m args below meth c (Qi_ below D (MW cc ad) A args s Post) D A (MW cc ad (a.1)) 5 18 [(0, .ref (ad 0)), (1, .int (a.2.1)), (2, .int (a.2.2.1)), (3, .int (a.2.2.2.1)), (4, .int (a.2.2.2.2))] []) (fun K hK a h => wk_X2_find_18 C0 hd hK a.1 a.2.1 a.2.2.1 a.2.2.2.1 a.2.2.2.2 h) h H locs ls hP hS (lv_sub hl [1, 2, 3, 4, 0] rfl)
  · have h := h.2 c2
    refine lv_iconst (v := (-1)) hx hb dX2_find_13 (by decide) ?_
    exact ret_i (Wd := MW cc ad) (u := (ms_s_th σ 0)) C0 h hP hS dX2_find_14
theorem ct_X2_find (l : Launch) (D : va_G) (cc : Nat → ClassId) (ad : Nat → Nat) (hd : DA 13 ad (fun _ => True)) (g : CS) (σ : MS) (x1 : Int32) (x2 : Int32) (x3 : Int32) (hp : pr_X2_find g σ x1 x2 x3) : Ctr l yX2_find wsX2_find { frames := 4, cells := 0, slots := 0, locals := 100 } D cc (MW cc ad) 13 ad σ [.ref (ad 0), .int x1, .int x2, .int x3] (po_X2_find g σ x1 x2 x3) :=
  ctr_i (rt := (some .int)) (by decide +kernel) rfl hd (Nat.le_of_ble_eq_true rfl) (fun p e s m below meth c A C0 hd => wk_X2_find_0 C0 hd σ x1 x2 x3 (pu_X2_find g σ x1 x2 x3 hp))
theorem hin_X2_slipAt : ∀ w ∈ u_ws RX2 TX2 21, w ∈ wsX2_slipAt := fun w h => List.mem_cons_of_mem _ (List.mem_append_right _ h)
set_option maxHeartbeats 4000000 in
set_option maxRecDepth 100000 in
theorem wk_X2_slipAt_0 {p : Program} {l : Launch} {e : Env} {s : State} {m : MethodId} {args : Array Value} {below : List Frame} {meth : Method} {c : Code} {D : va_G} {cc : Nat → ClassId} {ad : Nat → Nat} {A : Nat → Prop} {Post : Int32 → MS → Prop} {g : CS} (C0 : Cx p s m args meth c cX2_slipAt 4 (some .int) RX2 wsX2_slipAt D cc A) (hd : DA 13 ad A) (σ : MS) (x1 : Int32) (x2 : Int32) (x3 : Int32) (h : wp_X2_slipAt g Post σ x1 x2 x3) : At_ p l e { frames := 2, cells := 0, slots := 0, locals := 49 } s m args below meth c (Qi_ below D (MW cc ad) A args s Post) D A (MW cc ad σ) 4 0 [(0, .ref (ad 0)), (1, .int x1), (2, .int x2), (3, .int x3)] [] := by
  obtain ⟨hx, hb, hml, hr, hown, hts, hlocks, hK, hA, hX⟩ := id C0
  have hin := hin_X2_slipAt
  intro H locs ls hP hS hl
  unfold wp_X2_slipAt at h
  refine lv_aload_n hx hb dX2_slipAt_0 rfl (lv_at hl 0 rfl) ?_
  refine va_get (D := D) (ci := 2) (v := .ref (ad 1)) (C := RX2) (T := TX2) (N := 21) hx hb hts hin hown hK hP 0 rfl rfl 2 (by decide) (hts (.fieldLink RX2 7 "ClassSheetsModel" "operation" "[I") (List.mem_of_getElem? (i := 1) rfl)) (fun _ h9 => h9) rfl dX2_slipAt_1 ?_
  refine lv_iload_n hx hb dX2_slipAt_4 rfl (lv_at hl 1 rfl) ?_
  obtain ⟨gi1, h⟩ := h
  refine va_iald (D := D) (f := ms_op σ) hx hb hK hP 1 0 rfl rfl gi1 dX2_slipAt_5 ?_
  refine lv_aload_n hx hb dX2_slipAt_6 rfl (lv_at hl 0 rfl) ?_
  refine lv_iload_n hx hb dX2_slipAt_7 rfl (lv_at hl 1 rfl) ?_
  refine lv_iload_n hx hb dX2_slipAt_8 rfl (lv_at hl 2 rfl) ?_
  obtain ⟨gp2, h⟩ := h
  refine call_v (Wd := MW cc ad) (σ := σ) C0 hd lens_id (As := [.int x1, .int x2]) (rest := [.int (ms_op σ x1.toNatClampNeg)]) (ct_X2_pairOf l D cc ad ⟨hd.1, fun _ _ => trivial⟩ g σ x1 x2 gp2) (cwV 2 hts gX2_slipAt_X2_pairOf rfl rfl rfl (by decide +kernel) ⟨Nat.le_of_ble_eq_true rfl, Nat.le_of_ble_eq_true rfl⟩) (va_recv hK hP (ci := 2) (q0 := 0) rfl rfl) hP hS rfl hl.1 rfl (by simp [Value.category]) dX2_slipAt_9 (fun r3 u hp H locs hP hS => ?_)
  obtain ⟨hp1, hp2⟩ := hp
  subst hp1
  have hp2 := hp2.symm
  subst hp2
  have hP : va_P D vwCl (MW cc ad σ) H := hP
  refine lv_bipush (v := 100) hx hb dX2_slipAt_12 (by decide) ?_
  refine lv_idiv hx hb dX2_slipAt_14 (by decide) ?_
  refine lv_aload_n hx hb dX2_slipAt_15 rfl (lv_at hl 0 rfl) ?_
  refine lv_iload_n hx hb dX2_slipAt_16 rfl (lv_at hl 1 rfl) ?_
  refine lv_iload_n hx hb dX2_slipAt_17 rfl (lv_at hl 2 rfl) ?_
  obtain ⟨gp4, h⟩ := h
  refine call_v (Wd := MW cc ad) (σ := σ) C0 hd lens_id (As := [.int x1, .int x2]) (rest := [.int ((fn_X2_pairOf σ x1 x2) / 100), .int (ms_op σ x1.toNatClampNeg)]) (ct_X2_pairOf l D cc ad ⟨hd.1, fun _ _ => trivial⟩ g σ x1 x2 gp4) (cwV 2 hts gX2_slipAt_X2_pairOf rfl rfl rfl (by decide +kernel) ⟨Nat.le_of_ble_eq_true rfl, Nat.le_of_ble_eq_true rfl⟩) (va_recv hK hP (ci := 2) (q0 := 0) rfl rfl) hP hS rfl hl.1 rfl (by simp [Value.category]) dX2_slipAt_18 (fun r5 u hp H locs hP hS => ?_)
  obtain ⟨hp1, hp2⟩ := hp
  subst hp1
  have hp2 := hp2.symm
  subst hp2
  have hP : va_P D vwCl (MW cc ad σ) H := hP
  refine lv_bipush (v := 100) hx hb dX2_slipAt_21 (by decide) ?_
  refine lv_irem hx hb dX2_slipAt_23 (by decide) ?_
  refine lv_iload_n hx hb dX2_slipAt_24 rfl (lv_at hl 3 rfl) ?_
  refine call_s (Wd := MW cc ad) (σ := σ) C0 hd (lens_un (adc := ad)) (As := [.int (ms_op σ x1.toNatClampNeg), .int ((fn_X2_pairOf σ x1 x2) / 100), .int ((fn_X2_pairOf σ x1 x2) - (fn_X2_pairOf σ x1 x2) / 100 * 100), .int x3]) (rest := []) (ct_X2_slipOf l D cc ad da0 (ms_op σ x1.toNatClampNeg) ((fn_X2_pairOf σ x1 x2) / 100) ((fn_X2_pairOf σ x1 x2) - (fn_X2_pairOf σ x1 x2) / 100 * 100) x3) (va_cwS 4 hts gX2_slipAt_X2_slipOf rfl rfl rfl (by decide +kernel) ⟨Nat.le_of_ble_eq_true rfl, Nat.le_of_ble_eq_true rfl⟩) hP hS rfl hl.1 rfl (by simp [Value.category]) dX2_slipAt_25 (fun r6 u hp H locs hP hS => ?_)
  obtain ⟨hp1, hp2⟩ := hp
  subst hp1
  have hP : va_P D vwCl (MW cc ad σ) H := hP
  exact ret_i (Wd := MW cc ad) (u := σ) C0 h hP hS dX2_slipAt_28
theorem ct_X2_slipAt (l : Launch) (D : va_G) (cc : Nat → ClassId) (ad : Nat → Nat) (hd : DA 13 ad (fun _ => True)) (g : CS) (σ : MS) (x1 : Int32) (x2 : Int32) (x3 : Int32) (hp : pr_X2_slipAt g σ x1 x2 x3) : Ctr l yX2_slipAt wsX2_slipAt { frames := 2, cells := 0, slots := 0, locals := 49 } D cc (MW cc ad) 13 ad σ [.ref (ad 0), .int x1, .int x2, .int x3] (fun r u => r = fn_X2_slipAt g σ x1 x2 x3 ∧ u = σ) :=
  ctr_i (rt := (some .int)) (by decide +kernel) rfl hd (Nat.le_of_ble_eq_true rfl) (fun p e s m below meth c A C0 hd => wk_X2_slipAt_0 C0 hd σ x1 x2 x3 (pu_X2_slipAt g σ x1 x2 x3 hp))
theorem hin_X2_rightAt : ∀ w ∈ u_ws RX2 TX2 21, w ∈ wsX2_rightAt := fun w h => List.mem_cons_of_mem _ (List.mem_append_right _ h)
set_option maxHeartbeats 4000000 in
set_option maxRecDepth 100000 in
theorem wk_X2_rightAt_0 {p : Program} {l : Launch} {e : Env} {s : State} {m : MethodId} {args : Array Value} {below : List Frame} {meth : Method} {c : Code} {D : va_G} {cc : Nat → ClassId} {ad : Nat → Nat} {A : Nat → Prop} {Post : Int32 → MS → Prop} {g : CS} (C0 : Cx p s m args meth c cX2_rightAt 3 (some .int) RX2 wsX2_rightAt D cc A) (hd : DA 13 ad A) (σ : MS) (x1 : Int32) (x2 : Int32) (h : wp_X2_rightAt g Post σ x1 x2) : At_ p l e { frames := 1, cells := 0, slots := 0, locals := 22 } s m args below meth c (Qi_ below D (MW cc ad) A args s Post) D A (MW cc ad σ) 3 0 [(0, .ref (ad 0)), (1, .int x1), (2, .int x2)] [] := by
  obtain ⟨hx, hb, hml, hr, hown, hts, hlocks, hK, hA, hX⟩ := id C0
  have hin := hin_X2_rightAt
  intro H locs ls hP hS hl
  unfold wp_X2_rightAt at h
  refine lv_aload_n hx hb dX2_rightAt_0 rfl (lv_at hl 0 rfl) ?_
  refine va_get (D := D) (ci := 2) (v := .ref (ad 1)) (C := RX2) (T := TX2) (N := 21) hx hb hts hin hown hK hP 0 rfl rfl 2 (by decide) (hts (.fieldLink RX2 7 "ClassSheetsModel" "operation" "[I") (List.mem_of_getElem? (i := 1) rfl)) (fun _ h9 => h9) rfl dX2_rightAt_1 ?_
  refine lv_iload_n hx hb dX2_rightAt_4 rfl (lv_at hl 1 rfl) ?_
  obtain ⟨gi1, h⟩ := h
  refine va_iald (D := D) (f := ms_op σ) hx hb hK hP 1 0 rfl rfl gi1 dX2_rightAt_5 ?_
  refine lv_aload_n hx hb dX2_rightAt_6 rfl (lv_at hl 0 rfl) ?_
  refine lv_iload_n hx hb dX2_rightAt_7 rfl (lv_at hl 1 rfl) ?_
  refine lv_iload_n hx hb dX2_rightAt_8 rfl (lv_at hl 2 rfl) ?_
  obtain ⟨gp2, h⟩ := h
  refine call_v (Wd := MW cc ad) (σ := σ) C0 hd lens_id (As := [.int x1, .int x2]) (rest := [.int (ms_op σ x1.toNatClampNeg)]) (ct_X2_pairOf l D cc ad ⟨hd.1, fun _ _ => trivial⟩ g σ x1 x2 gp2) (cwV 2 hts gX2_rightAt_X2_pairOf rfl rfl rfl (by decide +kernel) ⟨Nat.le_of_ble_eq_true rfl, Nat.le_of_ble_eq_true rfl⟩) (va_recv hK hP (ci := 2) (q0 := 0) rfl rfl) hP hS rfl hl.1 rfl (by simp [Value.category]) dX2_rightAt_9 (fun r3 u hp H locs hP hS => ?_)
  obtain ⟨hp1, hp2⟩ := hp
  subst hp1
  have hp2 := hp2.symm
  subst hp2
  have hP : va_P D vwCl (MW cc ad σ) H := hP
  refine lv_bipush (v := 100) hx hb dX2_rightAt_12 (by decide) ?_
  refine lv_idiv hx hb dX2_rightAt_14 (by decide) ?_
  refine lv_aload_n hx hb dX2_rightAt_15 rfl (lv_at hl 0 rfl) ?_
  refine lv_iload_n hx hb dX2_rightAt_16 rfl (lv_at hl 1 rfl) ?_
  refine lv_iload_n hx hb dX2_rightAt_17 rfl (lv_at hl 2 rfl) ?_
  obtain ⟨gp4, h⟩ := h
  refine call_v (Wd := MW cc ad) (σ := σ) C0 hd lens_id (As := [.int x1, .int x2]) (rest := [.int ((fn_X2_pairOf σ x1 x2) / 100), .int (ms_op σ x1.toNatClampNeg)]) (ct_X2_pairOf l D cc ad ⟨hd.1, fun _ _ => trivial⟩ g σ x1 x2 gp4) (cwV 2 hts gX2_rightAt_X2_pairOf rfl rfl rfl (by decide +kernel) ⟨Nat.le_of_ble_eq_true rfl, Nat.le_of_ble_eq_true rfl⟩) (va_recv hK hP (ci := 2) (q0 := 0) rfl rfl) hP hS rfl hl.1 rfl (by simp [Value.category]) dX2_rightAt_18 (fun r5 u hp H locs hP hS => ?_)
  obtain ⟨hp1, hp2⟩ := hp
  subst hp1
  have hp2 := hp2.symm
  subst hp2
  have hP : va_P D vwCl (MW cc ad σ) H := hP
  refine lv_bipush (v := 100) hx hb dX2_rightAt_21 (by decide) ?_
  refine lv_irem hx hb dX2_rightAt_23 (by decide) ?_
  refine call_s (Wd := MW cc ad) (σ := σ) C0 hd (lens_un (adc := ad)) (As := [.int (ms_op σ x1.toNatClampNeg), .int ((fn_X2_pairOf σ x1 x2) / 100), .int ((fn_X2_pairOf σ x1 x2) - (fn_X2_pairOf σ x1 x2) / 100 * 100)]) (rest := []) (ct_X2_answerOf l D cc ad da0 (ms_op σ x1.toNatClampNeg) ((fn_X2_pairOf σ x1 x2) / 100) ((fn_X2_pairOf σ x1 x2) - (fn_X2_pairOf σ x1 x2) / 100 * 100)) (va_cwS 3 hts gX2_rightAt_X2_answerOf rfl rfl rfl (by decide +kernel) ⟨Nat.le_of_ble_eq_true rfl, Nat.le_of_ble_eq_true rfl⟩) hP hS rfl hl.1 rfl (by simp [Value.category]) dX2_rightAt_24 (fun r6 u hp H locs hP hS => ?_)
  obtain ⟨hp1, hp2⟩ := hp
  subst hp1
  have hP : va_P D vwCl (MW cc ad σ) H := hP
  exact ret_i (Wd := MW cc ad) (u := σ) C0 h hP hS dX2_rightAt_27
theorem ct_X2_rightAt (l : Launch) (D : va_G) (cc : Nat → ClassId) (ad : Nat → Nat) (hd : DA 13 ad (fun _ => True)) (g : CS) (σ : MS) (x1 : Int32) (x2 : Int32) (hp : pr_X2_rightAt g σ x1 x2) : Ctr l yX2_rightAt wsX2_rightAt { frames := 1, cells := 0, slots := 0, locals := 22 } D cc (MW cc ad) 13 ad σ [.ref (ad 0), .int x1, .int x2] (fun r u => r = fn_X2_rightAt g σ x1 x2 ∧ u = σ) :=
  ctr_i (rt := (some .int)) (by decide +kernel) rfl hd (Nat.le_of_ble_eq_true rfl) (fun p e s m below meth c A C0 hd => wk_X2_rightAt_0 C0 hd σ x1 x2 (pu_X2_rightAt g σ x1 x2 hp))
theorem hin_X2_slip : ∀ w ∈ u_ws RX2 TX2 21, w ∈ wsX2_slip := fun w h => List.mem_cons_of_mem _ (List.mem_append_right _ h)
set_option maxHeartbeats 4000000 in
set_option maxRecDepth 100000 in
theorem wk_X2_slip_0 {p : Program} {l : Launch} {e : Env} {s : State} {m : MethodId} {args : Array Value} {below : List Frame} {meth : Method} {c : Code} {D : va_G} {cc : Nat → ClassId} {ad : Nat → Nat} {A : Nat → Prop} {Post : Int32 → MS → Prop} {g : CS} (C0 : Cx p s m args meth c cX2_slip 4 (some .int) RX2 wsX2_slip D cc A) (hd : DA 13 ad A) (σ : MS) (x1 : Int32) (x2 : Int32) (x3 : Int32) (h : wp_X2_slip g Post σ x1 x2 x3) : At_ p l e { frames := 5, cells := 0, slots := 0, locals := 122 } s m args below meth c (Qi_ below D (MW cc ad) A args s Post) D A (MW cc ad σ) 4 0 [(0, .ref (ad 0)), (1, .int x1), (2, .int x2), (3, .int x3)] [] := by
  obtain ⟨hx, hb, hml, hr, hown, hts, hlocks, hK, hA, hX⟩ := id C0
  have hin := hin_X2_slip
  intro H locs ls hP hS hl
  unfold wp_X2_slip at h
  refine lv_aload_n hx hb dX2_slip_0 rfl (lv_at hl 0 rfl) ?_
  refine lv_iconst (v := 0) hx hb dX2_slip_1 (by decide) ?_
  refine va_put (D := D) (ci := 2) (v := .int 0) (ty := .int) (C := RX2) (T := TX2) (N := 21) hx hb hts hin tyX2 tyX2_ok nmX2 hown hK hP (mD hd) hS 0 rfl rfl 0 (by decide) (hts (.fieldLink RX2 59 "ClassSheetsModel" "thrown" "I") (List.mem_of_getElem? (i := 1) rfl)) (fun _ h9 => h9) rfl (by decide +kernel) rfl rfl (Nat.le_of_ble_eq_true rfl) dX2_slip_2 (fun H locs hP _ hS => ?_)
  have hP : va_P D vwCl (MW cc ad (ms_s_th σ 0)) H := hP
  refine lv_aload_n hx hb dX2_slip_5 rfl (lv_at hl 0 rfl) ?_
  refine lv_iload_n hx hb dX2_slip_6 rfl (lv_at hl 1 rfl) ?_
  refine lv_iload_n hx hb dX2_slip_7 rfl (lv_at hl 2 rfl) ?_
  obtain ⟨gp1, h⟩ := h
  refine call_v (Wd := MW cc ad) (σ := (ms_s_th σ 0)) C0 hd lens_id (As := [.int x1, .int x2]) (rest := []) (ct_X2_noVariant l D cc ad ⟨hd.1, fun _ _ => trivial⟩ g (ms_s_th σ 0) x1 x2 gp1) (cwV 2 hts gX2_slip_X2_noVariant rfl rfl rfl (by decide +kernel) ⟨Nat.le_of_ble_eq_true rfl, Nat.le_of_ble_eq_true rfl⟩) (va_recv hK hP (ci := 2) (q0 := 0) rfl rfl) hP hS rfl hl.1 rfl (by simp [Value.category]) dX2_slip_8 (fun r2 u3 hp H locs hP hS => ?_)
  have h := h r2 u3 hp
  have hP : va_P D vwCl (MW cc ad u3) H := hP
  refine lv_if_eq (tgt := 16) hx hb dX2_slip_11 (by decide) (fun c4 => ?_) (fun c4 => ?_)
  · have h := h.1 c4
    refine lv_iload_n hx hb dX2_slip_16 rfl (lv_at hl 3 rfl) ?_
    refine lv_i2l (v := x3.toInt64) hx hb dX2_slip_17 rfl ?_
    refine lv_lconst (v := 1) hx hb dX2_slip_18 (by decide) ?_
    refine lv_ldc2 (v := 5) hx hb hown (hts (.constantLong RX2 115 (5)) (List.mem_of_getElem? (i := 2) rfl)) dX2_slip_19 ?_
    refine call_s (Wd := MW cc ad) (σ := u3) C0 hd (lens_un (adc := ad)) (As := [.long (x3.toInt64), .long 1, .long 5]) (rest := []) (ct_X2_in l D cc ad da0 (x3.toInt64) 1 5) (va_cwS 3 hts gX2_slip_X2_in rfl rfl rfl (by decide +kernel) ⟨Nat.le_of_ble_eq_true rfl, Nat.le_of_ble_eq_true rfl⟩) hP hS rfl hl.1 rfl (by simp [Value.category]) dX2_slip_22 (fun r5 u hp H locs hP hS => ?_)
    obtain ⟨hp1, hp2⟩ := hp
    subst hp1
    have hP : va_P D vwCl (MW cc ad u3) H := hP
    refine lv_if_eq (tgt := 38) hx hb dX2_slip_25 (by decide) (fun c6 => ?_) (fun c6 => ?_)
    · have h := h.1 c6
      refine lv_bipush (v := (-2)) hx hb dX2_slip_38 (by decide) ?_
      exact ret_i (Wd := MW cc ad) (u := u3) C0 h hP hS dX2_slip_40
    · have h := h.2 c6
      refine lv_aload_n hx hb dX2_slip_28 rfl (lv_at hl 0 rfl) ?_
      refine lv_iload_n hx hb dX2_slip_29 rfl (lv_at hl 1 rfl) ?_
      refine lv_iload_n hx hb dX2_slip_30 rfl (lv_at hl 2 rfl) ?_
      refine lv_iload_n hx hb dX2_slip_31 rfl (lv_at hl 3 rfl) ?_
      obtain ⟨gp7, h⟩ := h
      refine call_v (Wd := MW cc ad) (σ := u3) C0 hd lens_id (As := [.int x1, .int x2, .int x3]) (rest := []) (ct_X2_slipAt l D cc ad ⟨hd.1, fun _ _ => trivial⟩ g u3 x1 x2 x3 gp7) (cwV 3 hts gX2_slip_X2_slipAt rfl rfl rfl (by decide +kernel) ⟨Nat.le_of_ble_eq_true rfl, Nat.le_of_ble_eq_true rfl⟩) (va_recv hK hP (ci := 2) (q0 := 0) rfl rfl) hP hS rfl hl.1 rfl (by simp [Value.category]) dX2_slip_32 (fun r8 u hp H locs hP hS => ?_)
      obtain ⟨hp1, hp2⟩ := hp
      subst hp1
      have hp2 := hp2.symm
      subst hp2
      have hP : va_P D vwCl (MW cc ad u3) H := hP
      refine lv_goto (tgt := 40) hx hb dX2_slip_35 (by decide) ?_
      exact ret_i (Wd := MW cc ad) (u := u3) C0 h hP hS dX2_slip_40
  · have h := h.2 c4
    refine lv_iconst (v := (-1)) hx hb dX2_slip_14 (by decide) ?_
    exact ret_i (Wd := MW cc ad) (u := u3) C0 h hP hS dX2_slip_15
theorem ct_X2_slip (l : Launch) (D : va_G) (cc : Nat → ClassId) (ad : Nat → Nat) (hd : DA 13 ad (fun _ => True)) (g : CS) (σ : MS) (x1 : Int32) (x2 : Int32) (x3 : Int32) (hp : pr_X2_slip g σ x1 x2 x3) : Ctr l yX2_slip wsX2_slip { frames := 5, cells := 0, slots := 0, locals := 122 } D cc (MW cc ad) 13 ad σ [.ref (ad 0), .int x1, .int x2, .int x3] (po_X2_slip g σ x1 x2 x3) :=
  ctr_i (rt := (some .int)) (by decide +kernel) rfl hd (Nat.le_of_ble_eq_true rfl) (fun p e s m below meth c A C0 hd => wk_X2_slip_0 C0 hd σ x1 x2 x3 (pu_X2_slip g σ x1 x2 x3 hp))
theorem hin_X2_tellsOf : ∀ w ∈ u_ws RX2 TX2 21, w ∈ wsX2_tellsOf := fun w h => List.mem_cons_of_mem _ (List.mem_append_right _ h)
set_option maxHeartbeats 4000000 in
set_option maxRecDepth 100000 in
theorem wk_X2_tellsOf_15 {p : Program} {l : Launch} {e : Env} {s : State} {m : MethodId} {args : Array Value} {below : List Frame} {meth : Method} {c : Code} {D : va_G} {cc : Nat → ClassId} {ad : Nat → Nat} {A : Nat → Prop} {Post : Int32 → MS → Prop} {g : CS} (C0 : Cx p s m args meth c cX2_tellsOf 5 (some .int) RX2 wsX2_tellsOf D cc A) (hd : DA 13 ad A) {K15 : (MS × Int32 × Int32 × Int32 × Int32) → Prop} (hK15 : ∀ a, K15 a → At_ p l e { frames := 3, cells := 0, slots := 0, locals := 72 } s m args below meth c (Qi_ below D (MW cc ad) A args s Post) D A (MW cc ad (a.1)) 5 15 [(0, .ref (ad 0)), (1, .int (a.2.1)), (2, .int (a.2.2.1)), (3, .int (a.2.2.2.1)), (4, .int (a.2.2.2.2))] []) (σ : MS) (x1 : Int32) (x2 : Int32) (x3 : Int32) (x4 : Int32) (h : wp_X2_tellsOf_15 g K15 Post σ x1 x2 x3 x4) : At_ p l e { frames := 3, cells := 0, slots := 0, locals := 72 } s m args below meth c (Qi_ below D (MW cc ad) A args s Post) D A (MW cc ad σ) 5 15 [(0, .ref (ad 0)), (1, .int x1), (2, .int x2), (3, .int x3), (4, .int x4)] [] := by
  obtain ⟨hx, hb, hml, hr, hown, hts, hlocks, hK, hA, hX⟩ := id C0
  have hin := hin_X2_tellsOf
  intro H locs ls hP hS hl
  unfold wp_X2_tellsOf_15 at h
  refine lv_iload hx hb dX2_tellsOf_15 (lv_at hl 4 rfl) ?_
  refine lv_bipush (v := 6) hx hb dX2_tellsOf_17 (by decide) ?_
  refine lv_icmp_ge (tgt := 47) hx hb dX2_tellsOf_19 (by decide) (fun c1 => ?_) (fun c1 => ?_)
  · have h := h.1 c1
    refine lv_bipush (v := (-9)) hx hb dX2_tellsOf_47 (by decide) ?_
    exact ret_i (Wd := MW cc ad) (u := σ) C0 h hP hS dX2_tellsOf_49
  · have h := h.2 c1
    refine lv_iload_n hx hb dX2_tellsOf_22 rfl (lv_at hl 3 rfl) ?_
    refine lv_if_lt (tgt := 41) hx hb dX2_tellsOf_23 (by decide) (fun c2 => ?_) (fun c2 => ?_)
    · have h := h.1 c2
      obtain ⟨x4_3, ex4_3⟩ : ∃ y : Int32, y = x4 + 1 := ⟨_, rfl⟩
      have h := h x4_3 ex4_3
      refine lv_iinc (v := x4_3) (lv' := [(4, .int x4_3), (0, .ref (ad 0)), (1, .int x1), (2, .int x2), (3, .int x3)]) hx hb dX2_tellsOf_41 hl (k := 4) rfl (by rw [ex4_3]; rfl) (by decide) rfl (fun ls hl => ?_)
      refine lv_goto (tgt := 15) hx hb dX2_tellsOf_44 (by decide) ?_
      exact hK15 (σ, x1, x2, x3, x4_3) h H locs ls hP hS (lv_sub hl [1, 2, 3, 4, 0] rfl)
    · have h := h.2 c2
      refine lv_aload_n hx hb dX2_tellsOf_26 rfl (lv_at hl 0 rfl) ?_
      refine lv_iload_n hx hb dX2_tellsOf_27 rfl (lv_at hl 1 rfl) ?_
      refine lv_iload_n hx hb dX2_tellsOf_28 rfl (lv_at hl 2 rfl) ?_
      refine lv_iload hx hb dX2_tellsOf_29 (lv_at hl 4 rfl) ?_
      obtain ⟨gp4, h⟩ := h
      refine call_v (Wd := MW cc ad) (σ := σ) C0 hd lens_id (As := [.int x1, .int x2, .int x4]) (rest := []) (ct_X2_slipAt l D cc ad ⟨hd.1, fun _ _ => trivial⟩ g σ x1 x2 x4 gp4) (cwV 3 hts gX2_tellsOf_X2_slipAt rfl rfl rfl (by decide +kernel) ⟨Nat.le_of_ble_eq_true rfl, Nat.le_of_ble_eq_true rfl⟩) (va_recv hK hP (ci := 2) (q0 := 0) rfl rfl) hP hS rfl hl.1 rfl (by simp [Value.category]) dX2_tellsOf_31 (fun r5 u hp H locs hP hS => ?_)
      obtain ⟨hp1, hp2⟩ := hp
      subst hp1
      have hp2 := hp2.symm
      subst hp2
      have hP : va_P D vwCl (MW cc ad σ) H := hP
      refine lv_iload_n hx hb dX2_tellsOf_34 rfl (lv_at hl 3 rfl) ?_
      refine lv_icmp_ne (tgt := 41) hx hb dX2_tellsOf_35 (by decide) (fun c6 => ?_) (fun c6 => ?_)
      · have h := h.1 c6
        obtain ⟨x4_7, ex4_7⟩ : ∃ y : Int32, y = x4 + 1 := ⟨_, rfl⟩
        have h := h x4_7 ex4_7
        refine lv_iinc (v := x4_7) (lv' := [(4, .int x4_7), (0, .ref (ad 0)), (1, .int x1), (2, .int x2), (3, .int x3)]) hx hb dX2_tellsOf_41 hl (k := 4) rfl (by rw [ex4_7]; rfl) (by decide) rfl (fun ls hl => ?_)
        refine lv_goto (tgt := 15) hx hb dX2_tellsOf_44 (by decide) ?_
        exact hK15 (σ, x1, x2, x3, x4_7) h H locs ls hP hS (lv_sub hl [1, 2, 3, 4, 0] rfl)
      · have h := h.2 c6
        refine lv_iload hx hb dX2_tellsOf_38 (lv_at hl 4 rfl) ?_
        exact ret_i (Wd := MW cc ad) (u := σ) C0 h hP hS dX2_tellsOf_40
set_option maxHeartbeats 4000000 in
set_option maxRecDepth 100000 in
theorem wk_X2_tellsOf_0 {p : Program} {l : Launch} {e : Env} {s : State} {m : MethodId} {args : Array Value} {below : List Frame} {meth : Method} {c : Code} {D : va_G} {cc : Nat → ClassId} {ad : Nat → Nat} {A : Nat → Prop} {Post : Int32 → MS → Prop} {g : CS} (C0 : Cx p s m args meth c cX2_tellsOf 5 (some .int) RX2 wsX2_tellsOf D cc A) (hd : DA 13 ad A) (σ : MS) (x1 : Int32) (x2 : Int32) (x3 : Int32) (h : wp_X2_tellsOf g Post σ x1 x2 x3) : At_ p l e { frames := 3, cells := 0, slots := 0, locals := 72 } s m args below meth c (Qi_ below D (MW cc ad) A args s Post) D A (MW cc ad σ) 5 0 [(0, .ref (ad 0)), (1, .int x1), (2, .int x2), (3, .int x3)] [] := by
  obtain ⟨hx, hb, hml, hr, hown, hts, hlocks, hK, hA, hX⟩ := id C0
  have hin := hin_X2_tellsOf
  intro H locs ls hP hS hl
  unfold wp_X2_tellsOf at h
  refine lv_iload_n hx hb dX2_tellsOf_0 rfl (lv_at hl 3 rfl) ?_
  refine lv_aload_n hx hb dX2_tellsOf_1 rfl (lv_at hl 0 rfl) ?_
  refine lv_iload_n hx hb dX2_tellsOf_2 rfl (lv_at hl 1 rfl) ?_
  refine lv_iload_n hx hb dX2_tellsOf_3 rfl (lv_at hl 2 rfl) ?_
  obtain ⟨gp1, h⟩ := h
  refine call_v (Wd := MW cc ad) (σ := σ) C0 hd lens_id (As := [.int x1, .int x2]) (rest := [.int x3]) (ct_X2_rightAt l D cc ad ⟨hd.1, fun _ _ => trivial⟩ g σ x1 x2 gp1) (cwV 2 hts gX2_tellsOf_X2_rightAt rfl rfl rfl (by decide +kernel) ⟨Nat.le_of_ble_eq_true rfl, Nat.le_of_ble_eq_true rfl⟩) (va_recv hK hP (ci := 2) (q0 := 0) rfl rfl) hP hS rfl hl.1 rfl (by simp [Value.category]) dX2_tellsOf_4 (fun r2 u hp H locs hP hS => ?_)
  obtain ⟨hp1, hp2⟩ := hp
  subst hp1
  have hp2 := hp2.symm
  subst hp2
  have hP : va_P D vwCl (MW cc ad σ) H := hP
  refine lv_icmp_ne (tgt := 12) hx hb dX2_tellsOf_7 (by decide) (fun c3 => ?_) (fun c3 => ?_)
  · have h := h.1 c3
    refine lv_iconst (v := 1) hx hb dX2_tellsOf_12 (by decide) ?_
    refine lv_istore (lv' := [(4, .int 1), (0, .ref (ad 0)), (1, .int x1), (2, .int x2), (3, .int x3)]) hx hb dX2_tellsOf_13 hl (by decide) rfl (fun ls hl => ?_)
    exact lp_at (Wt := fun a => At_ p l e { frames := 3, cells := 0, slots := 0, locals := 72 } s m args below meth c (Qi_ below D (MW cc ad) A args s Post) D A (MW cc ad (a.1)) 5 15 [(0, .ref (ad 0)), (1, .int (a.2.1)), (2, .int (a.2.2.1)), (3, .int (a.2.2.2.1)), (4, .int (a.2.2.2.2))] []) (fun K hK a h => wk_X2_tellsOf_15 C0 hd hK a.1 a.2.1 a.2.2.1 a.2.2.2.1 a.2.2.2.2 h) h H locs ls hP hS (lv_sub hl [1, 2, 3, 4, 0] rfl)
  · have h := h.2 c3
    refine lv_iconst (v := 0) hx hb dX2_tellsOf_10 (by decide) ?_
    exact ret_i (Wd := MW cc ad) (u := σ) C0 h hP hS dX2_tellsOf_11
theorem ct_X2_tellsOf (l : Launch) (D : va_G) (cc : Nat → ClassId) (ad : Nat → Nat) (hd : DA 13 ad (fun _ => True)) (g : CS) (σ : MS) (x1 : Int32) (x2 : Int32) (x3 : Int32) (hp : pr_X2_tellsOf g σ x1 x2 x3) : Ctr l yX2_tellsOf wsX2_tellsOf { frames := 3, cells := 0, slots := 0, locals := 72 } D cc (MW cc ad) 13 ad σ [.ref (ad 0), .int x1, .int x2, .int x3] (fun r u => r = fn_X2_tellsOf g σ x1 x2 x3 ∧ u = σ) :=
  ctr_i (rt := (some .int)) (by decide +kernel) rfl hd (Nat.le_of_ble_eq_true rfl) (fun p e s m below meth c A C0 hd => wk_X2_tellsOf_0 C0 hd σ x1 x2 x3 (pu_X2_tellsOf g σ x1 x2 x3 hp))
theorem hin_X2_tells : ∀ w ∈ u_ws RX2 TX2 21, w ∈ wsX2_tells := fun w h => List.mem_cons_of_mem _ (List.mem_append_right _ h)
set_option maxHeartbeats 4000000 in
set_option maxRecDepth 100000 in
theorem wk_X2_tells_0 {p : Program} {l : Launch} {e : Env} {s : State} {m : MethodId} {args : Array Value} {below : List Frame} {meth : Method} {c : Code} {D : va_G} {cc : Nat → ClassId} {ad : Nat → Nat} {A : Nat → Prop} {Post : Int32 → MS → Prop} {g : CS} (C0 : Cx p s m args meth c cX2_tells 4 (some .int) RX2 wsX2_tells D cc A) (hd : DA 13 ad A) (σ : MS) (x1 : Int32) (x2 : Int32) (x3 : Int32) (h : wp_X2_tells g Post σ x1 x2 x3) : At_ p l e { frames := 5, cells := 0, slots := 0, locals := 122 } s m args below meth c (Qi_ below D (MW cc ad) A args s Post) D A (MW cc ad σ) 4 0 [(0, .ref (ad 0)), (1, .int x1), (2, .int x2), (3, .int x3)] [] := by
  obtain ⟨hx, hb, hml, hr, hown, hts, hlocks, hK, hA, hX⟩ := id C0
  have hin := hin_X2_tells
  intro H locs ls hP hS hl
  unfold wp_X2_tells at h
  refine lv_aload_n hx hb dX2_tells_0 rfl (lv_at hl 0 rfl) ?_
  refine lv_iconst (v := 0) hx hb dX2_tells_1 (by decide) ?_
  refine va_put (D := D) (ci := 2) (v := .int 0) (ty := .int) (C := RX2) (T := TX2) (N := 21) hx hb hts hin tyX2 tyX2_ok nmX2 hown hK hP (mD hd) hS 0 rfl rfl 0 (by decide) (hts (.fieldLink RX2 59 "ClassSheetsModel" "thrown" "I") (List.mem_of_getElem? (i := 1) rfl)) (fun _ h9 => h9) rfl (by decide +kernel) rfl rfl (Nat.le_of_ble_eq_true rfl) dX2_tells_2 (fun H locs hP _ hS => ?_)
  have hP : va_P D vwCl (MW cc ad (ms_s_th σ 0)) H := hP
  refine lv_aload_n hx hb dX2_tells_5 rfl (lv_at hl 0 rfl) ?_
  refine lv_iload_n hx hb dX2_tells_6 rfl (lv_at hl 1 rfl) ?_
  refine lv_iload_n hx hb dX2_tells_7 rfl (lv_at hl 2 rfl) ?_
  obtain ⟨gp1, h⟩ := h
  refine call_v (Wd := MW cc ad) (σ := (ms_s_th σ 0)) C0 hd lens_id (As := [.int x1, .int x2]) (rest := []) (ct_X2_noVariant l D cc ad ⟨hd.1, fun _ _ => trivial⟩ g (ms_s_th σ 0) x1 x2 gp1) (cwV 2 hts gX2_tells_X2_noVariant rfl rfl rfl (by decide +kernel) ⟨Nat.le_of_ble_eq_true rfl, Nat.le_of_ble_eq_true rfl⟩) (va_recv hK hP (ci := 2) (q0 := 0) rfl rfl) hP hS rfl hl.1 rfl (by simp [Value.category]) dX2_tells_8 (fun r2 u3 hp H locs hP hS => ?_)
  have h := h r2 u3 hp
  have hP : va_P D vwCl (MW cc ad u3) H := hP
  refine lv_if_eq (tgt := 18) hx hb dX2_tells_11 (by decide) (fun c4 => ?_) (fun c4 => ?_)
  · have h := h.1 c4
    refine lv_aload_n hx hb dX2_tells_18 rfl (lv_at hl 0 rfl) ?_
    refine lv_iload_n hx hb dX2_tells_19 rfl (lv_at hl 1 rfl) ?_
    refine lv_iload_n hx hb dX2_tells_20 rfl (lv_at hl 2 rfl) ?_
    refine lv_iload_n hx hb dX2_tells_21 rfl (lv_at hl 3 rfl) ?_
    obtain ⟨gp5, h⟩ := h
    refine call_v (Wd := MW cc ad) (σ := u3) C0 hd lens_id (As := [.int x1, .int x2, .int x3]) (rest := []) (ct_X2_tellsOf l D cc ad ⟨hd.1, fun _ _ => trivial⟩ g u3 x1 x2 x3 gp5) (cwV 3 hts gX2_tells_X2_tellsOf rfl rfl rfl (by decide +kernel) ⟨Nat.le_of_ble_eq_true rfl, Nat.le_of_ble_eq_true rfl⟩) (va_recv hK hP (ci := 2) (q0 := 0) rfl rfl) hP hS rfl hl.1 rfl (by simp [Value.category]) dX2_tells_22 (fun r6 u hp H locs hP hS => ?_)
    obtain ⟨hp1, hp2⟩ := hp
    subst hp1
    have hp2 := hp2.symm
    subst hp2
    have hP : va_P D vwCl (MW cc ad u3) H := hP
    exact ret_i (Wd := MW cc ad) (u := u3) C0 h hP hS dX2_tells_25
  · have h := h.2 c4
    refine lv_iconst (v := (-1)) hx hb dX2_tells_14 (by decide) ?_
    refine lv_goto (tgt := 25) hx hb dX2_tells_15 (by decide) ?_
    exact ret_i (Wd := MW cc ad) (u := u3) C0 h hP hS dX2_tells_25
theorem ct_X2_tells (l : Launch) (D : va_G) (cc : Nat → ClassId) (ad : Nat → Nat) (hd : DA 13 ad (fun _ => True)) (g : CS) (σ : MS) (x1 : Int32) (x2 : Int32) (x3 : Int32) (hp : pr_X2_tells g σ x1 x2 x3) : Ctr l yX2_tells wsX2_tells { frames := 5, cells := 0, slots := 0, locals := 122 } D cc (MW cc ad) 13 ad σ [.ref (ad 0), .int x1, .int x2, .int x3] (po_X2_tells g σ x1 x2 x3) :=
  ctr_i (rt := (some .int)) (by decide +kernel) rfl hd (Nat.le_of_ble_eq_true rfl) (fun p e s m below meth c A C0 hd => wk_X2_tells_0 C0 hd σ x1 x2 x3 (pu_X2_tells g σ x1 x2 x3 hp))
theorem hin_X2_plan : ∀ w ∈ u_ws RX2 TX2 21, w ∈ wsX2_plan := fun w h => List.mem_cons_of_mem _ (List.mem_append_right _ h)
set_option maxHeartbeats 4000000 in
set_option maxRecDepth 100000 in
theorem wk_X2_plan_46 {p : Program} {l : Launch} {e : Env} {s : State} {m : MethodId} {args : Array Value} {below : List Frame} {meth : Method} {c : Code} {D : va_G} {cc : Nat → ClassId} {ad : Nat → Nat} {A : Nat → Prop} {Post : Int32 → MS → Prop} {g : CS} (C0 : Cx p s m args meth c cX2_plan 4 (some .int) RX2 wsX2_plan D cc A) (hd : DA 13 ad A) {K46 : (MS × Int32 × Int32 × Int32) → Prop} (hK46 : ∀ a, K46 a → At_ p l e { frames := 2, cells := 0, slots := 0, locals := 46 } s m args below meth c (Qi_ below D (MW cc ad) A args s Post) D A (MW cc ad (a.1)) 4 46 [(0, .ref (ad 0)), (1, .int (a.2.1)), (2, .int (a.2.2.1)), (3, .int (a.2.2.2))] []) (σ : MS) (x1 : Int32) (x2 : Int32) (x3 : Int32) (h : wp_X2_plan_46 g K46 Post σ x1 x2 x3) : At_ p l e { frames := 2, cells := 0, slots := 0, locals := 46 } s m args below meth c (Qi_ below D (MW cc ad) A args s Post) D A (MW cc ad σ) 4 46 [(0, .ref (ad 0)), (1, .int x1), (2, .int x2), (3, .int x3)] [] := by
  obtain ⟨hx, hb, hml, hr, hown, hts, hlocks, hK, hA, hX⟩ := id C0
  have hin := hin_X2_plan
  intro H locs ls hP hS hl
  unfold wp_X2_plan_46 at h
  refine lv_iload_n hx hb dX2_plan_46 rfl (lv_at hl 3 rfl) ?_
  refine lv_iload_n hx hb dX2_plan_47 rfl (lv_at hl 2 rfl) ?_
  refine lv_icmp_ge (tgt := 77) hx hb dX2_plan_48 (by decide) (fun c1 => ?_) (fun c1 => ?_)
  · have h := h.1 c1
    refine lv_aload_n hx hb dX2_plan_77 rfl (lv_at hl 0 rfl) ?_
    refine va_get (D := D) (ci := 2) (v := .int (ms_pc σ)) (C := RX2) (T := TX2) (N := 21) hx hb hts hin hown hK hP 0 rfl rfl 11 (by decide) (hts (.fieldLink RX2 69 "ClassSheetsModel" "places" "I") (List.mem_of_getElem? (i := 3) rfl)) (fun _ h9 => h9) rfl dX2_plan_78 ?_
    exact ret_i (Wd := MW cc ad) (u := σ) C0 h hP hS dX2_plan_81
  · have h := h.2 c1
    refine lv_aload_n hx hb dX2_plan_51 rfl (lv_at hl 0 rfl) ?_
    refine va_get (D := D) (ci := 2) (v := .ref (ad 10)) (C := RX2) (T := TX2) (N := 21) hx hb hts hin hown hK hP 0 rfl rfl 12 (by decide) (hts (.fieldLink RX2 40 "ClassSheetsModel" "plan" "[I") (List.mem_of_getElem? (i := 4) rfl)) (fun _ h9 => h9) rfl dX2_plan_52 ?_
    refine lv_aload_n hx hb dX2_plan_55 rfl (lv_at hl 0 rfl) ?_
    refine va_get (D := D) (ci := 2) (v := .int (ms_pc σ)) (C := RX2) (T := TX2) (N := 21) hx hb hts hin hown hK hP 0 rfl rfl 11 (by decide) (hts (.fieldLink RX2 69 "ClassSheetsModel" "places" "I") (List.mem_of_getElem? (i := 3) rfl)) (fun _ h9 => h9) rfl dX2_plan_56 ?_
    refine lv_iload_n hx hb dX2_plan_59 rfl (lv_at hl 1 rfl) ?_
    obtain ⟨gi2, h⟩ := h
    refine va_iast (D := D) (f := ms_pn σ) (x := x1) hx hb hK hP (mD hd) hS 10 0 rfl rfl gi2 dX2_plan_60 (fun H locs hP _ hS => ?_)
    have hP : va_P D vwCl (MW cc ad (ms_s_pn σ (upd (ms_pn σ) (ms_pc σ).toNatClampNeg x1))) H := hP
    refine lv_aload_n hx hb dX2_plan_61 rfl (lv_at hl 0 rfl) ?_
    refine lv_dup hx hb dX2_plan_62 rfl ?_
    refine va_get (D := D) (ci := 2) (v := .int (ms_pc (ms_s_pn σ (upd (ms_pn σ) (ms_pc σ).toNatClampNeg x1)))) (C := RX2) (T := TX2) (N := 21) hx hb hts hin hown hK hP 0 rfl rfl 11 (by decide) (hts (.fieldLink RX2 69 "ClassSheetsModel" "places" "I") (List.mem_of_getElem? (i := 3) rfl)) (fun _ h9 => h9) rfl dX2_plan_63 ?_
    refine lv_iconst (v := 1) hx hb dX2_plan_66 (by decide) ?_
    refine lv_iadd hx hb dX2_plan_67 ?_
    refine va_put (D := D) (ci := 2) (v := .int ((ms_pc (ms_s_pn σ (upd (ms_pn σ) (ms_pc σ).toNatClampNeg x1))) + 1)) (ty := .int) (C := RX2) (T := TX2) (N := 21) hx hb hts hin tyX2 tyX2_ok nmX2 hown hK hP (mD hd) hS 0 rfl rfl 11 (by decide) (hts (.fieldLink RX2 69 "ClassSheetsModel" "places" "I") (List.mem_of_getElem? (i := 3) rfl)) (fun _ h9 => h9) rfl (by decide +kernel) rfl rfl (Nat.le_of_ble_eq_true rfl) dX2_plan_68 (fun H locs hP _ hS => ?_)
    have hP : va_P D vwCl (MW cc ad (ms_s_pc (ms_s_pn σ (upd (ms_pn σ) (ms_pc σ).toNatClampNeg x1)) ((ms_pc (ms_s_pn σ (upd (ms_pn σ) (ms_pc σ).toNatClampNeg x1))) + 1))) H := hP
    obtain ⟨x3_3, ex3_3⟩ : ∃ y : Int32, y = x3 + 1 := ⟨_, rfl⟩
    have h := h x3_3 ex3_3
    refine lv_iinc (v := x3_3) (lv' := [(3, .int x3_3), (0, .ref (ad 0)), (1, .int x1), (2, .int x2)]) hx hb dX2_plan_71 hl (k := 3) rfl (by rw [ex3_3]; rfl) (by decide) rfl (fun ls hl => ?_)
    refine lv_goto (tgt := 46) hx hb dX2_plan_74 (by decide) ?_
    exact hK46 ((ms_s_pc (ms_s_pn σ (upd (ms_pn σ) (ms_pc σ).toNatClampNeg x1)) ((ms_pc (ms_s_pn σ (upd (ms_pn σ) (ms_pc σ).toNatClampNeg x1))) + 1)), x1, x2, x3_3) h H locs ls hP hS (lv_sub hl [1, 2, 3, 0] rfl)
set_option maxHeartbeats 4000000 in
set_option maxRecDepth 100000 in
theorem wk_X2_plan_0 {p : Program} {l : Launch} {e : Env} {s : State} {m : MethodId} {args : Array Value} {below : List Frame} {meth : Method} {c : Code} {D : va_G} {cc : Nat → ClassId} {ad : Nat → Nat} {A : Nat → Prop} {Post : Int32 → MS → Prop} {g : CS} (C0 : Cx p s m args meth c cX2_plan 4 (some .int) RX2 wsX2_plan D cc A) (hd : DA 13 ad A) (σ : MS) (x1 : Int32) (x2 : Int32) (h : wp_X2_plan g Post σ x1 x2) : At_ p l e { frames := 2, cells := 0, slots := 0, locals := 46 } s m args below meth c (Qi_ below D (MW cc ad) A args s Post) D A (MW cc ad σ) 4 0 [(0, .ref (ad 0)), (1, .int x1), (2, .int x2)] [] := by
  obtain ⟨hx, hb, hml, hr, hown, hts, hlocks, hK, hA, hX⟩ := id C0
  have hin := hin_X2_plan
  intro H locs ls hP hS hl
  unfold wp_X2_plan at h
  refine lv_aload_n hx hb dX2_plan_0 rfl (lv_at hl 0 rfl) ?_
  refine lv_iconst (v := 0) hx hb dX2_plan_1 (by decide) ?_
  refine va_put (D := D) (ci := 2) (v := .int 0) (ty := .int) (C := RX2) (T := TX2) (N := 21) hx hb hts hin tyX2 tyX2_ok nmX2 hown hK hP (mD hd) hS 0 rfl rfl 0 (by decide) (hts (.fieldLink RX2 59 "ClassSheetsModel" "thrown" "I") (List.mem_of_getElem? (i := 1) rfl)) (fun _ h9 => h9) rfl (by decide +kernel) rfl rfl (Nat.le_of_ble_eq_true rfl) dX2_plan_2 (fun H locs hP _ hS => ?_)
  have hP : va_P D vwCl (MW cc ad (ms_s_th σ 0)) H := hP
  refine lv_aload_n hx hb dX2_plan_5 rfl (lv_at hl 0 rfl) ?_
  refine lv_iload_n hx hb dX2_plan_6 rfl (lv_at hl 1 rfl) ?_
  refine call_v (Wd := MW cc ad) (σ := (ms_s_th σ 0)) C0 hd lens_id (As := [.int x1]) (rest := []) (ct_X2_noKind l D cc ad ⟨hd.1, fun _ _ => trivial⟩ g (ms_s_th σ 0) x1) (cwV 1 hts gX2_plan_X2_noKind rfl rfl rfl (by decide +kernel) ⟨Nat.le_of_ble_eq_true rfl, Nat.le_of_ble_eq_true rfl⟩) (va_recv hK hP (ci := 2) (q0 := 0) rfl rfl) hP hS rfl hl.1 rfl (by simp [Value.category]) dX2_plan_7 (fun r1 u hp H locs hP hS => ?_)
  obtain ⟨hp1, hp2⟩ := hp
  subst hp1
  have hp2 := hp2.symm
  subst hp2
  have hP : va_P D vwCl (MW cc ad (ms_s_th σ 0)) H := hP
  refine lv_if_eq (tgt := 15) hx hb dX2_plan_10 (by decide) (fun c2 => ?_) (fun c2 => ?_)
  · have h := h.1 c2
    refine lv_iload_n hx hb dX2_plan_15 rfl (lv_at hl 2 rfl) ?_
    refine lv_i2l (v := x2.toInt64) hx hb dX2_plan_16 rfl ?_
    refine lv_lconst (v := 1) hx hb dX2_plan_17 (by decide) ?_
    refine lv_ldc2 (v := 40) hx hb hown (hts (.constantLong RX2 126 (40)) (List.mem_of_getElem? (i := 2) rfl)) dX2_plan_18 ?_
    refine call_s (Wd := MW cc ad) (σ := (ms_s_th σ 0)) C0 hd (lens_un (adc := ad)) (As := [.long (x2.toInt64), .long 1, .long 40]) (rest := []) (ct_X2_in l D cc ad da0 (x2.toInt64) 1 40) (va_cwS 3 hts gX2_plan_X2_in rfl rfl rfl (by decide +kernel) ⟨Nat.le_of_ble_eq_true rfl, Nat.le_of_ble_eq_true rfl⟩) hP hS rfl hl.1 rfl (by simp [Value.category]) dX2_plan_21 (fun r3 u hp H locs hP hS => ?_)
    obtain ⟨hp1, hp2⟩ := hp
    subst hp1
    have hP : va_P D vwCl (MW cc ad (ms_s_th σ 0)) H := hP
    refine lv_if_ne (tgt := 30) hx hb dX2_plan_24 (by decide) (fun c4 => ?_) (fun c4 => ?_)
    · have h := h.1 c4
      refine lv_aload_n hx hb dX2_plan_30 rfl (lv_at hl 0 rfl) ?_
      refine va_get (D := D) (ci := 2) (v := .int (ms_pc (ms_s_th σ 0))) (C := RX2) (T := TX2) (N := 21) hx hb hts hin hown hK hP 0 rfl rfl 11 (by decide) (hts (.fieldLink RX2 69 "ClassSheetsModel" "places" "I") (List.mem_of_getElem? (i := 3) rfl)) (fun _ h9 => h9) rfl dX2_plan_31 ?_
      refine lv_iload_n hx hb dX2_plan_34 rfl (lv_at hl 2 rfl) ?_
      refine lv_iadd hx hb dX2_plan_35 ?_
      refine lv_bipush (v := 40) hx hb dX2_plan_36 (by decide) ?_
      refine lv_icmp_le (tgt := 44) hx hb dX2_plan_38 (by decide) (fun c5 => ?_) (fun c5 => ?_)
      · have h := h.1 c5
        refine lv_iconst (v := 0) hx hb dX2_plan_44 (by decide) ?_
        refine lv_istore_n (lv' := [(3, .int 0), (0, .ref (ad 0)), (1, .int x1), (2, .int x2)]) hx hb dX2_plan_45 rfl hl (by decide) rfl (fun ls hl => ?_)
        exact lp_at (Wt := fun a => At_ p l e { frames := 2, cells := 0, slots := 0, locals := 46 } s m args below meth c (Qi_ below D (MW cc ad) A args s Post) D A (MW cc ad (a.1)) 4 46 [(0, .ref (ad 0)), (1, .int (a.2.1)), (2, .int (a.2.2.1)), (3, .int (a.2.2.2))] []) (fun K hK a h => wk_X2_plan_46 C0 hd hK a.1 a.2.1 a.2.2.1 a.2.2.2 h) h H locs ls hP hS (lv_sub hl [1, 2, 3, 0] rfl)
      · have h := h.2 c5
        refine lv_bipush (v := (-4)) hx hb dX2_plan_41 (by decide) ?_
        exact ret_i (Wd := MW cc ad) (u := (ms_s_th σ 0)) C0 h hP hS dX2_plan_43
    · have h := h.2 c4
      refine lv_bipush (v := (-2)) hx hb dX2_plan_27 (by decide) ?_
      exact ret_i (Wd := MW cc ad) (u := (ms_s_th σ 0)) C0 h hP hS dX2_plan_29
  · have h := h.2 c2
    refine lv_iconst (v := (-1)) hx hb dX2_plan_13 (by decide) ?_
    exact ret_i (Wd := MW cc ad) (u := (ms_s_th σ 0)) C0 h hP hS dX2_plan_14
theorem ct_X2_plan (l : Launch) (D : va_G) (cc : Nat → ClassId) (ad : Nat → Nat) (hd : DA 13 ad (fun _ => True)) (g : CS) (σ : MS) (x1 : Int32) (x2 : Int32) (hp : pr_X2_plan g σ x1 x2) : Ctr l yX2_plan wsX2_plan { frames := 2, cells := 0, slots := 0, locals := 46 } D cc (MW cc ad) 13 ad σ [.ref (ad 0), .int x1, .int x2] (po_X2_plan g σ x1 x2) :=
  ctr_i (rt := (some .int)) (by decide +kernel) rfl hd (Nat.le_of_ble_eq_true rfl) (fun p e s m below meth c A C0 hd => wk_X2_plan_0 C0 hd σ x1 x2 (pu_X2_plan g σ x1 x2 hp))
theorem hin_X2_clear : ∀ w ∈ u_ws RX2 TX2 21, w ∈ wsX2_clear := fun w h => List.mem_cons_of_mem _ (List.mem_append_right _ h)
set_option maxHeartbeats 4000000 in
set_option maxRecDepth 100000 in
theorem wk_X2_clear_0 {p : Program} {l : Launch} {e : Env} {s : State} {m : MethodId} {args : Array Value} {below : List Frame} {meth : Method} {c : Code} {D : va_G} {cc : Nat → ClassId} {ad : Nat → Nat} {A : Nat → Prop} {Post : Int32 → MS → Prop} {g : CS} (C0 : Cx p s m args meth c cX2_clear 2 (some .int) RX2 wsX2_clear D cc A) (hd : DA 13 ad A) (σ : MS) (h : wp_X2_clear g Post σ) : At_ p l e { frames := 0, cells := 0, slots := 0, locals := 0 } s m args below meth c (Qi_ below D (MW cc ad) A args s Post) D A (MW cc ad σ) 2 0 [(0, .ref (ad 0))] [] := by
  obtain ⟨hx, hb, hml, hr, hown, hts, hlocks, hK, hA, hX⟩ := id C0
  have hin := hin_X2_clear
  intro H locs ls hP hS hl
  unfold wp_X2_clear at h
  refine lv_aload_n hx hb dX2_clear_0 rfl (lv_at hl 0 rfl) ?_
  refine lv_iconst (v := 0) hx hb dX2_clear_1 (by decide) ?_
  refine va_put (D := D) (ci := 2) (v := .int 0) (ty := .int) (C := RX2) (T := TX2) (N := 21) hx hb hts hin tyX2 tyX2_ok nmX2 hown hK hP (mD hd) hS 0 rfl rfl 0 (by decide) (hts (.fieldLink RX2 59 "ClassSheetsModel" "thrown" "I") (List.mem_of_getElem? (i := 1) rfl)) (fun _ h9 => h9) rfl (by decide +kernel) rfl rfl (Nat.le_of_ble_eq_true rfl) dX2_clear_2 (fun H locs hP _ hS => ?_)
  have hP : va_P D vwCl (MW cc ad (ms_s_th σ 0)) H := hP
  refine lv_aload_n hx hb dX2_clear_5 rfl (lv_at hl 0 rfl) ?_
  refine va_get (D := D) (ci := 2) (v := .int (ms_pc (ms_s_th σ 0))) (C := RX2) (T := TX2) (N := 21) hx hb hts hin hown hK hP 0 rfl rfl 11 (by decide) (hts (.fieldLink RX2 69 "ClassSheetsModel" "places" "I") (List.mem_of_getElem? (i := 2) rfl)) (fun _ h9 => h9) rfl dX2_clear_6 ?_
  refine lv_topi (fun x1_1 ex1_1 => ?_)
  have h := h x1_1 ex1_1
  refine lv_istore_n (lv' := [(1, .int x1_1), (0, .ref (ad 0))]) hx hb dX2_clear_9 rfl hl (by decide) rfl (fun ls hl => ?_)
  refine lv_aload_n hx hb dX2_clear_10 rfl (lv_at hl 1 rfl) ?_
  refine lv_iconst (v := 0) hx hb dX2_clear_11 (by decide) ?_
  refine va_put (D := D) (ci := 2) (v := .int 0) (ty := .int) (C := RX2) (T := TX2) (N := 21) hx hb hts hin tyX2 tyX2_ok nmX2 hown hK hP (mD hd) hS 0 rfl rfl 11 (by decide) (hts (.fieldLink RX2 69 "ClassSheetsModel" "places" "I") (List.mem_of_getElem? (i := 2) rfl)) (fun _ h9 => h9) rfl (by decide +kernel) rfl rfl (Nat.le_of_ble_eq_true rfl) dX2_clear_12 (fun H locs hP _ hS => ?_)
  have hP : va_P D vwCl (MW cc ad (ms_s_pc (ms_s_th σ 0) 0)) H := hP
  refine lv_iload_n hx hb dX2_clear_15 rfl (lv_at hl 0 rfl) ?_
  exact ret_i (Wd := MW cc ad) (u := (ms_s_pc (ms_s_th σ 0) 0)) C0 h hP hS dX2_clear_16
theorem ct_X2_clear (l : Launch) (D : va_G) (cc : Nat → ClassId) (ad : Nat → Nat) (hd : DA 13 ad (fun _ => True)) (g : CS) (σ : MS) (hp : pr_X2_clear g σ) : Ctr l yX2_clear wsX2_clear { frames := 0, cells := 0, slots := 0, locals := 0 } D cc (MW cc ad) 13 ad σ [.ref (ad 0)] (po_X2_clear g σ) :=
  ctr_i (rt := (some .int)) (by decide +kernel) rfl hd (Nat.le_of_ble_eq_true rfl) (fun p e s m below meth c A C0 hd => wk_X2_clear_0 C0 hd σ (pu_X2_clear g σ hp))
theorem hin_X2_placed : ∀ w ∈ u_ws RX2 TX2 21, w ∈ wsX2_placed := fun w h => List.mem_cons_of_mem _ (List.mem_append_right _ h)
set_option maxHeartbeats 4000000 in
set_option maxRecDepth 100000 in
theorem wk_X2_placed_0 {p : Program} {l : Launch} {e : Env} {s : State} {m : MethodId} {args : Array Value} {below : List Frame} {meth : Method} {c : Code} {D : va_G} {cc : Nat → ClassId} {ad : Nat → Nat} {A : Nat → Prop} {Post : Int32 → MS → Prop} {g : CS} (C0 : Cx p s m args meth c cX2_placed 2 (some .int) RX2 wsX2_placed D cc A) (hd : DA 13 ad A) (σ : MS) (x1 : Int32) (h : wp_X2_placed g Post σ x1) : At_ p l e { frames := 2, cells := 0, slots := 0, locals := 46 } s m args below meth c (Qi_ below D (MW cc ad) A args s Post) D A (MW cc ad σ) 2 0 [(0, .ref (ad 0)), (1, .int x1)] [] := by
  obtain ⟨hx, hb, hml, hr, hown, hts, hlocks, hK, hA, hX⟩ := id C0
  have hin := hin_X2_placed
  intro H locs ls hP hS hl
  unfold wp_X2_placed at h
  refine lv_aload_n hx hb dX2_placed_0 rfl (lv_at hl 0 rfl) ?_
  refine lv_iconst (v := 0) hx hb dX2_placed_1 (by decide) ?_
  refine va_put (D := D) (ci := 2) (v := .int 0) (ty := .int) (C := RX2) (T := TX2) (N := 21) hx hb hts hin tyX2 tyX2_ok nmX2 hown hK hP (mD hd) hS 0 rfl rfl 0 (by decide) (hts (.fieldLink RX2 59 "ClassSheetsModel" "thrown" "I") (List.mem_of_getElem? (i := 1) rfl)) (fun _ h9 => h9) rfl (by decide +kernel) rfl rfl (Nat.le_of_ble_eq_true rfl) dX2_placed_2 (fun H locs hP _ hS => ?_)
  have hP : va_P D vwCl (MW cc ad (ms_s_th σ 0)) H := hP
  refine lv_aload_n hx hb dX2_placed_5 rfl (lv_at hl 0 rfl) ?_
  refine lv_iload_n hx hb dX2_placed_6 rfl (lv_at hl 1 rfl) ?_
  refine call_v (Wd := MW cc ad) (σ := (ms_s_th σ 0)) C0 hd lens_id (As := [.int x1]) (rest := []) (ct_X2_noPlace l D cc ad ⟨hd.1, fun _ _ => trivial⟩ g (ms_s_th σ 0) x1) (cwV 1 hts gX2_placed_X2_noPlace rfl rfl rfl (by decide +kernel) ⟨Nat.le_of_ble_eq_true rfl, Nat.le_of_ble_eq_true rfl⟩) (va_recv hK hP (ci := 2) (q0 := 0) rfl rfl) hP hS rfl hl.1 rfl (by simp [Value.category]) dX2_placed_7 (fun r1 u hp H locs hP hS => ?_)
  obtain ⟨hp1, hp2⟩ := hp
  subst hp1
  have hp2 := hp2.symm
  subst hp2
  have hP : va_P D vwCl (MW cc ad (ms_s_th σ 0)) H := hP
  refine lv_if_eq (tgt := 17) hx hb dX2_placed_10 (by decide) (fun c2 => ?_) (fun c2 => ?_)
  · have h := h.1 c2
    refine lv_aload_n hx hb dX2_placed_17 rfl (lv_at hl 0 rfl) ?_
    refine va_get (D := D) (ci := 2) (v := .ref (ad 10)) (C := RX2) (T := TX2) (N := 21) hx hb hts hin hown hK hP 0 rfl rfl 12 (by decide) (hts (.fieldLink RX2 40 "ClassSheetsModel" "plan" "[I") (List.mem_of_getElem? (i := 2) rfl)) (fun _ h9 => h9) rfl dX2_placed_18 ?_
    refine lv_iload_n hx hb dX2_placed_21 rfl (lv_at hl 1 rfl) ?_
    obtain ⟨gi3, h⟩ := h
    refine va_iald (D := D) (f := ms_pn (ms_s_th σ 0)) hx hb hK hP 10 0 rfl rfl gi3 dX2_placed_22 ?_
    exact ret_i (Wd := MW cc ad) (u := (ms_s_th σ 0)) C0 h hP hS dX2_placed_23
  · have h := h.2 c2
    refine lv_iconst (v := (-1)) hx hb dX2_placed_13 (by decide) ?_
    refine lv_goto (tgt := 23) hx hb dX2_placed_14 (by decide) ?_
    exact ret_i (Wd := MW cc ad) (u := (ms_s_th σ 0)) C0 h hP hS dX2_placed_23
theorem ct_X2_placed (l : Launch) (D : va_G) (cc : Nat → ClassId) (ad : Nat → Nat) (hd : DA 13 ad (fun _ => True)) (g : CS) (σ : MS) (x1 : Int32) (hp : pr_X2_placed g σ x1) : Ctr l yX2_placed wsX2_placed { frames := 2, cells := 0, slots := 0, locals := 46 } D cc (MW cc ad) 13 ad σ [.ref (ad 0), .int x1] (po_X2_placed g σ x1) :=
  ctr_i (rt := (some .int)) (by decide +kernel) rfl hd (Nat.le_of_ble_eq_true rfl) (fun p e s m below meth c A C0 hd => wk_X2_placed_0 C0 hd σ x1 (pu_X2_placed g σ x1 hp))
theorem hin_X2_lines : ∀ w ∈ u_ws RX2 TX2 21, w ∈ wsX2_lines := fun w h => List.mem_cons_of_mem _ (List.mem_append_right _ h)
set_option maxHeartbeats 4000000 in
set_option maxRecDepth 100000 in
theorem wk_X2_lines_0 {p : Program} {l : Launch} {e : Env} {s : State} {m : MethodId} {args : Array Value} {below : List Frame} {meth : Method} {c : Code} {D : va_G} {cc : Nat → ClassId} {ad : Nat → Nat} {A : Nat → Prop} {Post : Int32 → MS → Prop} {g : CS} (C0 : Cx p s m args meth c cX2_lines 3 (some .int) RX2 wsX2_lines D cc A) (hd : DA 13 ad A) (σ : MS) (x1 : Int32) (h : wp_X2_lines g Post σ x1) : At_ p l e { frames := 1, cells := 0, slots := 0, locals := 25 } s m args below meth c (Qi_ below D (MW cc ad) A args s Post) D A (MW cc ad σ) 3 0 [(0, .ref (ad 0)), (1, .int x1)] [] := by
  obtain ⟨hx, hb, hml, hr, hown, hts, hlocks, hK, hA, hX⟩ := id C0
  have hin := hin_X2_lines
  intro H locs ls hP hS hl
  unfold wp_X2_lines at h
  refine lv_aload_n hx hb dX2_lines_0 rfl (lv_at hl 0 rfl) ?_
  refine lv_iconst (v := 0) hx hb dX2_lines_1 (by decide) ?_
  refine va_put (D := D) (ci := 2) (v := .int 0) (ty := .int) (C := RX2) (T := TX2) (N := 21) hx hb hts hin tyX2 tyX2_ok nmX2 hown hK hP (mD hd) hS 0 rfl rfl 0 (by decide) (hts (.fieldLink RX2 59 "ClassSheetsModel" "thrown" "I") (List.mem_of_getElem? (i := 1) rfl)) (fun _ h9 => h9) rfl (by decide +kernel) rfl rfl (Nat.le_of_ble_eq_true rfl) dX2_lines_2 (fun H locs hP _ hS => ?_)
  have hP : va_P D vwCl (MW cc ad (ms_s_th σ 0)) H := hP
  refine lv_iload_n hx hb dX2_lines_5 rfl (lv_at hl 1 rfl) ?_
  refine lv_i2l (v := x1.toInt64) hx hb dX2_lines_6 rfl ?_
  refine lv_ldc2 (v := 9) hx hb hown (hts (.constantLong RX2 103 (9)) (List.mem_of_getElem? (i := 2) rfl)) dX2_lines_7 ?_
  refine lv_ldc2 (v := 99) hx hb hown (hts (.constantLong RX2 82 (99)) (List.mem_of_getElem? (i := 3) rfl)) dX2_lines_10 ?_
  refine call_s (Wd := MW cc ad) (σ := (ms_s_th σ 0)) C0 hd (lens_un (adc := ad)) (As := [.long (x1.toInt64), .long 9, .long 99]) (rest := []) (ct_X2_in l D cc ad da0 (x1.toInt64) 9 99) (va_cwS 3 hts gX2_lines_X2_in rfl rfl rfl (by decide +kernel) ⟨Nat.le_of_ble_eq_true rfl, Nat.le_of_ble_eq_true rfl⟩) hP hS rfl hl.1 rfl (by simp [Value.category]) dX2_lines_13 (fun r1 u hp H locs hP hS => ?_)
  obtain ⟨hp1, hp2⟩ := hp
  subst hp1
  have hP : va_P D vwCl (MW cc ad (ms_s_th σ 0)) H := hP
  refine lv_if_ne (tgt := 22) hx hb dX2_lines_16 (by decide) (fun c2 => ?_) (fun c2 => ?_)
  · have h := h.1 c2
    refine lv_aload_n hx hb dX2_lines_22 rfl (lv_at hl 0 rfl) ?_
    refine va_get (D := D) (ci := 2) (v := .int (ms_li (ms_s_th σ 0))) (C := RX2) (T := TX2) (N := 21) hx hb hts hin hown hK hP 0 rfl rfl 13 (by decide) (hts (.fieldLink RX2 43 "ClassSheetsModel" "lines" "I") (List.mem_of_getElem? (i := 4) rfl)) (fun _ h9 => h9) rfl dX2_lines_23 ?_
    refine lv_topi (fun x2_3 ex2_3 => ?_)
    have h := h x2_3 ex2_3
    refine lv_istore_n (lv' := [(2, .int x2_3), (0, .ref (ad 0)), (1, .int x1)]) hx hb dX2_lines_26 rfl hl (by decide) rfl (fun ls hl => ?_)
    refine lv_aload_n hx hb dX2_lines_27 rfl (lv_at hl 1 rfl) ?_
    refine lv_iload_n hx hb dX2_lines_28 rfl (lv_at hl 2 rfl) ?_
    refine va_put (D := D) (ci := 2) (v := .int x1) (ty := .int) (C := RX2) (T := TX2) (N := 21) hx hb hts hin tyX2 tyX2_ok nmX2 hown hK hP (mD hd) hS 0 rfl rfl 13 (by decide) (hts (.fieldLink RX2 43 "ClassSheetsModel" "lines" "I") (List.mem_of_getElem? (i := 4) rfl)) (fun _ h9 => h9) rfl (by decide +kernel) rfl rfl (Nat.le_of_ble_eq_true rfl) dX2_lines_29 (fun H locs hP _ hS => ?_)
    have hP : va_P D vwCl (MW cc ad (ms_s_li (ms_s_th σ 0) x1)) H := hP
    refine lv_iload_n hx hb dX2_lines_32 rfl (lv_at hl 0 rfl) ?_
    exact ret_i (Wd := MW cc ad) (u := (ms_s_li (ms_s_th σ 0) x1)) C0 h hP hS dX2_lines_33
  · have h := h.2 c2
    refine lv_bipush (v := (-2)) hx hb dX2_lines_19 (by decide) ?_
    exact ret_i (Wd := MW cc ad) (u := (ms_s_th σ 0)) C0 h hP hS dX2_lines_21
theorem ct_X2_lines (l : Launch) (D : va_G) (cc : Nat → ClassId) (ad : Nat → Nat) (hd : DA 13 ad (fun _ => True)) (g : CS) (σ : MS) (x1 : Int32) (hp : pr_X2_lines g σ x1) : Ctr l yX2_lines wsX2_lines { frames := 1, cells := 0, slots := 0, locals := 25 } D cc (MW cc ad) 13 ad σ [.ref (ad 0), .int x1] (po_X2_lines g σ x1) :=
  ctr_i (rt := (some .int)) (by decide +kernel) rfl hd (Nat.le_of_ble_eq_true rfl) (fun p e s m below meth c A C0 hd => wk_X2_lines_0 C0 hd σ x1 (pu_X2_lines g σ x1 hp))
theorem hin_X2_where : ∀ w ∈ u_ws RX2 TX2 21, w ∈ wsX2_where := fun w h => List.mem_cons_of_mem _ (List.mem_append_right _ h)
set_option maxHeartbeats 4000000 in
set_option maxRecDepth 100000 in
theorem wk_X2_where_7 {p : Program} {l : Launch} {e : Env} {s : State} {m : MethodId} {args : Array Value} {below : List Frame} {meth : Method} {c : Code} {D : va_G} {cc : Nat → ClassId} {ad : Nat → Nat} {A : Nat → Prop} {Post : Int32 → MS → Prop} {g : CS} (C0 : Cx p s m args meth c cX2_where 5 (some .int) RX2 wsX2_where D cc A) (hd : DA 13 ad A) {K7 : (MS × Int32 × Int32 × Int32 × Int32) → Prop} (hK7 : ∀ a, K7 a → At_ p l e { frames := 0, cells := 0, slots := 0, locals := 0 } s m args below meth c (Qi_ below D (MW cc ad) A args s Post) D A (MW cc ad (a.1)) 5 7 [(0, .ref (ad 0)), (1, .int (a.2.1)), (2, .int (a.2.2.1)), (3, .int (a.2.2.2.1)), (4, .int (a.2.2.2.2))] []) (σ : MS) (x1 : Int32) (x2 : Int32) (x3 : Int32) (x4 : Int32) (h : wp_X2_where_7 g K7 Post σ x1 x2 x3 x4) : At_ p l e { frames := 0, cells := 0, slots := 0, locals := 0 } s m args below meth c (Qi_ below D (MW cc ad) A args s Post) D A (MW cc ad σ) 5 7 [(0, .ref (ad 0)), (1, .int x1), (2, .int x2), (3, .int x3), (4, .int x4)] [] := by
  obtain ⟨hx, hb, hml, hr, hown, hts, hlocks, hK, hA, hX⟩ := id C0
  have hin := hin_X2_where
  intro H locs ls hP hS hl
  unfold wp_X2_where_7 at h
  refine lv_iload hx hb dX2_where_7 (lv_at hl 4 rfl) ?_
  refine lv_iload_n hx hb dX2_where_9 rfl (lv_at hl 1 rfl) ?_
  refine lv_icmp_gt (tgt := 60) hx hb dX2_where_10 (by decide) (fun c1 => ?_) (fun c1 => ?_)
  · have h := h.1 c1
    refine lv_bipush (v := 100) hx hb dX2_where_60 (by decide) ?_
    refine lv_iload_n hx hb dX2_where_62 rfl (lv_at hl 2 rfl) ?_
    refine lv_imul hx hb dX2_where_63 ?_
    refine lv_iload_n hx hb dX2_where_64 rfl (lv_at hl 3 rfl) ?_
    refine lv_iadd hx hb dX2_where_65 ?_
    refine lv_aload_n hx hb dX2_where_66 rfl (lv_at hl 0 rfl) ?_
    refine va_get (D := D) (ci := 2) (v := .ref (ad 5)) (C := RX2) (T := TX2) (N := 21) hx hb hts hin hown hK hP 0 rfl rfl 6 (by decide) (hts (.fieldLink RX2 22 "ClassSheetsModel" "takes" "[I") (List.mem_of_getElem? (i := 1) rfl)) (fun _ h9 => h9) rfl dX2_where_67 ?_
    refine lv_aload_n hx hb dX2_where_70 rfl (lv_at hl 0 rfl) ?_
    refine va_get (D := D) (ci := 2) (v := .ref (ad 10)) (C := RX2) (T := TX2) (N := 21) hx hb hts hin hown hK hP 0 rfl rfl 12 (by decide) (hts (.fieldLink RX2 40 "ClassSheetsModel" "plan" "[I") (List.mem_of_getElem? (i := 2) rfl)) (fun _ h9 => h9) rfl dX2_where_71 ?_
    refine lv_iload_n hx hb dX2_where_74 rfl (lv_at hl 1 rfl) ?_
    obtain ⟨gi2, h⟩ := h
    refine va_iald (D := D) (f := ms_pn σ) hx hb hK hP 10 0 rfl rfl gi2 dX2_where_75 ?_
    obtain ⟨gi3, h⟩ := h
    refine va_iald (D := D) (f := ms_ta σ) hx hb hK hP 5 0 rfl rfl gi3 dX2_where_76 ?_
    refine lv_isub hx hb dX2_where_77 ?_
    exact ret_i (Wd := MW cc ad) (u := σ) C0 h hP hS dX2_where_78
  · have h := h.2 c1
    refine lv_iload_n hx hb dX2_where_13 rfl (lv_at hl 3 rfl) ?_
    refine lv_aload_n hx hb dX2_where_14 rfl (lv_at hl 0 rfl) ?_
    refine va_get (D := D) (ci := 2) (v := .ref (ad 5)) (C := RX2) (T := TX2) (N := 21) hx hb hts hin hown hK hP 0 rfl rfl 6 (by decide) (hts (.fieldLink RX2 22 "ClassSheetsModel" "takes" "[I") (List.mem_of_getElem? (i := 1) rfl)) (fun _ h9 => h9) rfl dX2_where_15 ?_
    refine lv_aload_n hx hb dX2_where_18 rfl (lv_at hl 0 rfl) ?_
    refine va_get (D := D) (ci := 2) (v := .ref (ad 10)) (C := RX2) (T := TX2) (N := 21) hx hb hts hin hown hK hP 0 rfl rfl 12 (by decide) (hts (.fieldLink RX2 40 "ClassSheetsModel" "plan" "[I") (List.mem_of_getElem? (i := 2) rfl)) (fun _ h9 => h9) rfl dX2_where_19 ?_
    refine lv_iload hx hb dX2_where_22 (lv_at hl 4 rfl) ?_
    obtain ⟨gi4, h⟩ := h
    refine va_iald (D := D) (f := ms_pn σ) hx hb hK hP 10 0 rfl rfl gi4 dX2_where_24 ?_
    obtain ⟨gi5, h⟩ := h
    refine va_iald (D := D) (f := ms_ta σ) hx hb hK hP 5 0 rfl rfl gi5 dX2_where_25 ?_
    refine lv_iadd hx hb dX2_where_26 ?_
    refine lv_aload_n hx hb dX2_where_27 rfl (lv_at hl 0 rfl) ?_
    refine va_get (D := D) (ci := 2) (v := .int (ms_li σ)) (C := RX2) (T := TX2) (N := 21) hx hb hts hin hown hK hP 0 rfl rfl 13 (by decide) (hts (.fieldLink RX2 43 "ClassSheetsModel" "lines" "I") (List.mem_of_getElem? (i := 3) rfl)) (fun _ h9 => h9) rfl dX2_where_28 ?_
    refine lv_icmp_le (tgt := 39) hx hb dX2_where_31 (by decide) (fun c6 => ?_) (fun c6 => ?_)
    · have h := h.1 c6
      refine lv_iload_n hx hb dX2_where_39 rfl (lv_at hl 3 rfl) ?_
      refine lv_aload_n hx hb dX2_where_40 rfl (lv_at hl 0 rfl) ?_
      refine va_get (D := D) (ci := 2) (v := .ref (ad 5)) (C := RX2) (T := TX2) (N := 21) hx hb hts hin hown hK hP 0 rfl rfl 6 (by decide) (hts (.fieldLink RX2 22 "ClassSheetsModel" "takes" "[I") (List.mem_of_getElem? (i := 1) rfl)) (fun _ h9 => h9) rfl dX2_where_41 ?_
      refine lv_aload_n hx hb dX2_where_44 rfl (lv_at hl 0 rfl) ?_
      refine va_get (D := D) (ci := 2) (v := .ref (ad 10)) (C := RX2) (T := TX2) (N := 21) hx hb hts hin hown hK hP 0 rfl rfl 12 (by decide) (hts (.fieldLink RX2 40 "ClassSheetsModel" "plan" "[I") (List.mem_of_getElem? (i := 2) rfl)) (fun _ h9 => h9) rfl dX2_where_45 ?_
      refine lv_iload hx hb dX2_where_48 (lv_at hl 4 rfl) ?_
      obtain ⟨gi7, h⟩ := h
      refine va_iald (D := D) (f := ms_pn σ) hx hb hK hP 10 0 rfl rfl gi7 dX2_where_50 ?_
      obtain ⟨gi8, h⟩ := h
      refine va_iald (D := D) (f := ms_ta σ) hx hb hK hP 5 0 rfl rfl gi8 dX2_where_51 ?_
      refine lv_iadd hx hb dX2_where_52 ?_
      refine lv_topi (fun x3_9 ex3_9 => ?_)
      have h := h x3_9 ex3_9
      refine lv_istore_n (lv' := [(3, .int x3_9), (0, .ref (ad 0)), (1, .int x1), (2, .int x2), (4, .int x4)]) hx hb dX2_where_53 rfl hl (by decide) rfl (fun ls hl => ?_)
      obtain ⟨x4_10, ex4_10⟩ : ∃ y : Int32, y = x4 + 1 := ⟨_, rfl⟩
      have h := h x4_10 ex4_10
      refine lv_iinc (v := x4_10) (lv' := [(4, .int x4_10), (3, .int x3_9), (0, .ref (ad 0)), (1, .int x1), (2, .int x2)]) hx hb dX2_where_54 hl (k := 4) rfl (by rw [ex4_10]; rfl) (by decide) rfl (fun ls hl => ?_)
      refine lv_goto (tgt := 7) hx hb dX2_where_57 (by decide) ?_
      exact hK7 (σ, x1, x2, x3_9, x4_10) h H locs ls hP hS (lv_sub hl [2, 3, 4, 1, 0] rfl)
    · have h := h.2 c6
      obtain ⟨x2_11, ex2_11⟩ : ∃ y : Int32, y = x2 + 1 := ⟨_, rfl⟩
      have h := h x2_11 ex2_11
      refine lv_iinc (v := x2_11) (lv' := [(2, .int x2_11), (0, .ref (ad 0)), (1, .int x1), (3, .int x3), (4, .int x4)]) hx hb dX2_where_34 hl (k := 2) rfl (by rw [ex2_11]; rfl) (by decide) rfl (fun ls hl => ?_)
      refine lv_iconst (v := 0) hx hb dX2_where_37 (by decide) ?_
      refine lv_istore_n (lv' := [(3, .int 0), (2, .int x2_11), (0, .ref (ad 0)), (1, .int x1), (4, .int x4)]) hx hb dX2_where_38 rfl hl (by decide) rfl (fun ls hl => ?_)
      refine lv_iload_n hx hb dX2_where_39 rfl (lv_at hl 0 rfl) ?_
      refine lv_aload_n hx hb dX2_where_40 rfl (lv_at hl 2 rfl) ?_
      refine va_get (D := D) (ci := 2) (v := .ref (ad 5)) (C := RX2) (T := TX2) (N := 21) hx hb hts hin hown hK hP 0 rfl rfl 6 (by decide) (hts (.fieldLink RX2 22 "ClassSheetsModel" "takes" "[I") (List.mem_of_getElem? (i := 1) rfl)) (fun _ h9 => h9) rfl dX2_where_41 ?_
      refine lv_aload_n hx hb dX2_where_44 rfl (lv_at hl 2 rfl) ?_
      refine va_get (D := D) (ci := 2) (v := .ref (ad 10)) (C := RX2) (T := TX2) (N := 21) hx hb hts hin hown hK hP 0 rfl rfl 12 (by decide) (hts (.fieldLink RX2 40 "ClassSheetsModel" "plan" "[I") (List.mem_of_getElem? (i := 2) rfl)) (fun _ h9 => h9) rfl dX2_where_45 ?_
      refine lv_iload hx hb dX2_where_48 (lv_at hl 4 rfl) ?_
      obtain ⟨gi12, h⟩ := h
      refine va_iald (D := D) (f := ms_pn σ) hx hb hK hP 10 0 rfl rfl gi12 dX2_where_50 ?_
      obtain ⟨gi13, h⟩ := h
      refine va_iald (D := D) (f := ms_ta σ) hx hb hK hP 5 0 rfl rfl gi13 dX2_where_51 ?_
      refine lv_iadd hx hb dX2_where_52 ?_
      refine lv_topi (fun x3_14 ex3_14 => ?_)
      have h := h x3_14 ex3_14
      refine lv_istore_n (lv' := [(3, .int x3_14), (2, .int x2_11), (0, .ref (ad 0)), (1, .int x1), (4, .int x4)]) hx hb dX2_where_53 rfl hl (by decide) rfl (fun ls hl => ?_)
      obtain ⟨x4_15, ex4_15⟩ : ∃ y : Int32, y = x4 + 1 := ⟨_, rfl⟩
      have h := h x4_15 ex4_15
      refine lv_iinc (v := x4_15) (lv' := [(4, .int x4_15), (3, .int x3_14), (2, .int x2_11), (0, .ref (ad 0)), (1, .int x1)]) hx hb dX2_where_54 hl (k := 4) rfl (by rw [ex4_15]; rfl) (by decide) rfl (fun ls hl => ?_)
      refine lv_goto (tgt := 7) hx hb dX2_where_57 (by decide) ?_
      exact hK7 (σ, x1, x2_11, x3_14, x4_15) h H locs ls hP hS (lv_sub hl [3, 4, 2, 1, 0] rfl)
set_option maxHeartbeats 4000000 in
set_option maxRecDepth 100000 in
theorem wk_X2_where_0 {p : Program} {l : Launch} {e : Env} {s : State} {m : MethodId} {args : Array Value} {below : List Frame} {meth : Method} {c : Code} {D : va_G} {cc : Nat → ClassId} {ad : Nat → Nat} {A : Nat → Prop} {Post : Int32 → MS → Prop} {g : CS} (C0 : Cx p s m args meth c cX2_where 5 (some .int) RX2 wsX2_where D cc A) (hd : DA 13 ad A) (σ : MS) (x1 : Int32) (h : wp_X2_where g Post σ x1) : At_ p l e { frames := 0, cells := 0, slots := 0, locals := 0 } s m args below meth c (Qi_ below D (MW cc ad) A args s Post) D A (MW cc ad σ) 5 0 [(0, .ref (ad 0)), (1, .int x1)] [] := by
  obtain ⟨hx, hb, hml, hr, hown, hts, hlocks, hK, hA, hX⟩ := id C0
  have hin := hin_X2_where
  intro H locs ls hP hS hl
  unfold wp_X2_where at h
  refine lv_iconst (v := 0) hx hb dX2_where_0 (by decide) ?_
  refine lv_istore_n (lv' := [(2, .int 0), (0, .ref (ad 0)), (1, .int x1)]) hx hb dX2_where_1 rfl hl (by decide) rfl (fun ls hl => ?_)
  refine lv_iconst (v := 0) hx hb dX2_where_2 (by decide) ?_
  refine lv_istore_n (lv' := [(3, .int 0), (2, .int 0), (0, .ref (ad 0)), (1, .int x1)]) hx hb dX2_where_3 rfl hl (by decide) rfl (fun ls hl => ?_)
  refine lv_iconst (v := 0) hx hb dX2_where_4 (by decide) ?_
  refine lv_istore (lv' := [(4, .int 0), (3, .int 0), (2, .int 0), (0, .ref (ad 0)), (1, .int x1)]) hx hb dX2_where_5 hl (by decide) rfl (fun ls hl => ?_)
  exact lp_at (Wt := fun a => At_ p l e { frames := 0, cells := 0, slots := 0, locals := 0 } s m args below meth c (Qi_ below D (MW cc ad) A args s Post) D A (MW cc ad (a.1)) 5 7 [(0, .ref (ad 0)), (1, .int (a.2.1)), (2, .int (a.2.2.1)), (3, .int (a.2.2.2.1)), (4, .int (a.2.2.2.2))] []) (fun K hK a h => wk_X2_where_7 C0 hd hK a.1 a.2.1 a.2.2.1 a.2.2.2.1 a.2.2.2.2 h) h H locs ls hP hS (lv_sub hl [3, 4, 2, 1, 0] rfl)
theorem ct_X2_where (l : Launch) (D : va_G) (cc : Nat → ClassId) (ad : Nat → Nat) (hd : DA 13 ad (fun _ => True)) (g : CS) (σ : MS) (x1 : Int32) (hp : pr_X2_where g σ x1) : Ctr l yX2_where wsX2_where { frames := 0, cells := 0, slots := 0, locals := 0 } D cc (MW cc ad) 13 ad σ [.ref (ad 0), .int x1] (fun r u => r = fn_X2_where g σ x1 ∧ u = σ) :=
  ctr_i (rt := (some .int)) (by decide +kernel) rfl hd (Nat.le_of_ble_eq_true rfl) (fun p e s m below meth c A C0 hd => wk_X2_where_0 C0 hd σ x1 (pu_X2_where g σ x1 hp))
theorem hin_X2_pages : ∀ w ∈ u_ws RX2 TX2 21, w ∈ wsX2_pages := fun w h => List.mem_cons_of_mem _ (List.mem_append_right _ h)
set_option maxHeartbeats 4000000 in
set_option maxRecDepth 100000 in
theorem wk_X2_pages_0 {p : Program} {l : Launch} {e : Env} {s : State} {m : MethodId} {args : Array Value} {below : List Frame} {meth : Method} {c : Code} {D : va_G} {cc : Nat → ClassId} {ad : Nat → Nat} {A : Nat → Prop} {Post : Int32 → MS → Prop} {g : CS} (C0 : Cx p s m args meth c cX2_pages 1 (some .int) RX2 wsX2_pages D cc A) (hd : DA 13 ad A) (σ : MS) (h : wp_X2_pages g Post σ) : At_ p l e { frames := 1, cells := 0, slots := 0, locals := 24 } s m args below meth c (Qi_ below D (MW cc ad) A args s Post) D A (MW cc ad σ) 1 0 [(0, .ref (ad 0))] [] := by
  obtain ⟨hx, hb, hml, hr, hown, hts, hlocks, hK, hA, hX⟩ := id C0
  have hin := hin_X2_pages
  intro H locs ls hP hS hl
  unfold wp_X2_pages at h
  refine lv_aload_n hx hb dX2_pages_0 rfl (lv_at hl 0 rfl) ?_
  refine lv_iconst (v := 0) hx hb dX2_pages_1 (by decide) ?_
  refine va_put (D := D) (ci := 2) (v := .int 0) (ty := .int) (C := RX2) (T := TX2) (N := 21) hx hb hts hin tyX2 tyX2_ok nmX2 hown hK hP (mD hd) hS 0 rfl rfl 0 (by decide) (hts (.fieldLink RX2 59 "ClassSheetsModel" "thrown" "I") (List.mem_of_getElem? (i := 1) rfl)) (fun _ h9 => h9) rfl (by decide +kernel) rfl rfl (Nat.le_of_ble_eq_true rfl) dX2_pages_2 (fun H locs hP _ hS => ?_)
  have hP : va_P D vwCl (MW cc ad (ms_s_th σ 0)) H := hP
  refine lv_aload_n hx hb dX2_pages_5 rfl (lv_at hl 0 rfl) ?_
  refine va_get (D := D) (ci := 2) (v := .int (ms_pc (ms_s_th σ 0))) (C := RX2) (T := TX2) (N := 21) hx hb hts hin hown hK hP 0 rfl rfl 11 (by decide) (hts (.fieldLink RX2 69 "ClassSheetsModel" "places" "I") (List.mem_of_getElem? (i := 2) rfl)) (fun _ h9 => h9) rfl dX2_pages_6 ?_
  refine lv_if_ne (tgt := 16) hx hb dX2_pages_9 (by decide) (fun c1 => ?_) (fun c1 => ?_)
  · have h := h.1 c1
    refine lv_aload_n hx hb dX2_pages_16 rfl (lv_at hl 0 rfl) ?_
    refine lv_aload_n hx hb dX2_pages_17 rfl (lv_at hl 0 rfl) ?_
    refine va_get (D := D) (ci := 2) (v := .int (ms_pc (ms_s_th σ 0))) (C := RX2) (T := TX2) (N := 21) hx hb hts hin hown hK hP 0 rfl rfl 11 (by decide) (hts (.fieldLink RX2 69 "ClassSheetsModel" "places" "I") (List.mem_of_getElem? (i := 2) rfl)) (fun _ h9 => h9) rfl dX2_pages_18 ?_
    refine lv_iconst (v := 1) hx hb dX2_pages_21 (by decide) ?_
    refine lv_isub hx hb dX2_pages_22 ?_
    obtain ⟨gp2, h⟩ := h
    refine call_v (Wd := MW cc ad) (σ := (ms_s_th σ 0)) C0 hd lens_id (As := [.int ((ms_pc (ms_s_th σ 0)) - 1)]) (rest := []) (ct_X2_where l D cc ad ⟨hd.1, fun _ _ => trivial⟩ g (ms_s_th σ 0) ((ms_pc (ms_s_th σ 0)) - 1) gp2) (cwV 1 hts gX2_pages_X2_where rfl rfl rfl (by decide +kernel) ⟨Nat.le_of_ble_eq_true rfl, Nat.le_of_ble_eq_true rfl⟩) (va_recv hK hP (ci := 2) (q0 := 0) rfl rfl) hP hS rfl hl.1 rfl (by simp [Value.category]) dX2_pages_23 (fun r3 u hp H locs hP hS => ?_)
    obtain ⟨hp1, hp2⟩ := hp
    subst hp1
    have hp2 := hp2.symm
    subst hp2
    have hP : va_P D vwCl (MW cc ad (ms_s_th σ 0)) H := hP
    refine lv_bipush (v := 100) hx hb dX2_pages_26 (by decide) ?_
    refine lv_idiv hx hb dX2_pages_28 (by decide) ?_
    refine lv_iconst (v := 1) hx hb dX2_pages_29 (by decide) ?_
    refine lv_iadd hx hb dX2_pages_30 ?_
    exact ret_i (Wd := MW cc ad) (u := (ms_s_th σ 0)) C0 h hP hS dX2_pages_31
  · have h := h.2 c1
    refine lv_iconst (v := 0) hx hb dX2_pages_12 (by decide) ?_
    refine lv_goto (tgt := 31) hx hb dX2_pages_13 (by decide) ?_
    exact ret_i (Wd := MW cc ad) (u := (ms_s_th σ 0)) C0 h hP hS dX2_pages_31
theorem ct_X2_pages (l : Launch) (D : va_G) (cc : Nat → ClassId) (ad : Nat → Nat) (hd : DA 13 ad (fun _ => True)) (g : CS) (σ : MS) (hp : pr_X2_pages g σ) : Ctr l yX2_pages wsX2_pages { frames := 1, cells := 0, slots := 0, locals := 24 } D cc (MW cc ad) 13 ad σ [.ref (ad 0)] (po_X2_pages g σ) :=
  ctr_i (rt := (some .int)) (by decide +kernel) rfl hd (Nat.le_of_ble_eq_true rfl) (fun p e s m below meth c A C0 hd => wk_X2_pages_0 C0 hd σ (pu_X2_pages g σ hp))
theorem hin_X2_page : ∀ w ∈ u_ws RX2 TX2 21, w ∈ wsX2_page := fun w h => List.mem_cons_of_mem _ (List.mem_append_right _ h)
set_option maxHeartbeats 4000000 in
set_option maxRecDepth 100000 in
theorem wk_X2_page_0 {p : Program} {l : Launch} {e : Env} {s : State} {m : MethodId} {args : Array Value} {below : List Frame} {meth : Method} {c : Code} {D : va_G} {cc : Nat → ClassId} {ad : Nat → Nat} {A : Nat → Prop} {Post : Int32 → MS → Prop} {g : CS} (C0 : Cx p s m args meth c cX2_page 3 (some .int) RX2 wsX2_page D cc A) (hd : DA 13 ad A) (σ : MS) (x1 : Int32) (x2 : Int32) (h : wp_X2_page g Post σ x1 x2) : At_ p l e { frames := 2, cells := 0, slots := 0, locals := 46 } s m args below meth c (Qi_ below D (MW cc ad) A args s Post) D A (MW cc ad σ) 3 0 [(0, .ref (ad 0)), (1, .int x1), (2, .int x2)] [] := by
  obtain ⟨hx, hb, hml, hr, hown, hts, hlocks, hK, hA, hX⟩ := id C0
  have hin := hin_X2_page
  intro H locs ls hP hS hl
  unfold wp_X2_page at h
  refine lv_aload_n hx hb dX2_page_0 rfl (lv_at hl 0 rfl) ?_
  refine lv_iconst (v := 0) hx hb dX2_page_1 (by decide) ?_
  refine va_put (D := D) (ci := 2) (v := .int 0) (ty := .int) (C := RX2) (T := TX2) (N := 21) hx hb hts hin tyX2 tyX2_ok nmX2 hown hK hP (mD hd) hS 0 rfl rfl 0 (by decide) (hts (.fieldLink RX2 59 "ClassSheetsModel" "thrown" "I") (List.mem_of_getElem? (i := 1) rfl)) (fun _ h9 => h9) rfl (by decide +kernel) rfl rfl (Nat.le_of_ble_eq_true rfl) dX2_page_2 (fun H locs hP _ hS => ?_)
  have hP : va_P D vwCl (MW cc ad (ms_s_th σ 0)) H := hP
  refine lv_aload_n hx hb dX2_page_5 rfl (lv_at hl 0 rfl) ?_
  refine lv_iload_n hx hb dX2_page_6 rfl (lv_at hl 1 rfl) ?_
  refine call_v (Wd := MW cc ad) (σ := (ms_s_th σ 0)) C0 hd lens_id (As := [.int x1]) (rest := []) (ct_X2_noPlace l D cc ad ⟨hd.1, fun _ _ => trivial⟩ g (ms_s_th σ 0) x1) (cwV 1 hts gX2_page_X2_noPlace rfl rfl rfl (by decide +kernel) ⟨Nat.le_of_ble_eq_true rfl, Nat.le_of_ble_eq_true rfl⟩) (va_recv hK hP (ci := 2) (q0 := 0) rfl rfl) hP hS rfl hl.1 rfl (by simp [Value.category]) dX2_page_7 (fun r1 u hp H locs hP hS => ?_)
  obtain ⟨hp1, hp2⟩ := hp
  subst hp1
  have hp2 := hp2.symm
  subst hp2
  have hP : va_P D vwCl (MW cc ad (ms_s_th σ 0)) H := hP
  refine lv_if_eq (tgt := 17) hx hb dX2_page_10 (by decide) (fun c2 => ?_) (fun c2 => ?_)
  · have h := h.1 c2
    refine lv_iload_n hx hb dX2_page_17 rfl (lv_at hl 2 rfl) ?_
    refine lv_if_eq (tgt := 32) hx hb dX2_page_18 (by decide) (fun c3 => ?_) (fun c3 => ?_)
    · have h := h.1 c3
      refine lv_aload_n hx hb dX2_page_32 rfl (lv_at hl 0 rfl) ?_
      refine lv_iload_n hx hb dX2_page_33 rfl (lv_at hl 1 rfl) ?_
      obtain ⟨gp4, h⟩ := h
      refine call_v (Wd := MW cc ad) (σ := (ms_s_th σ 0)) C0 hd lens_id (As := [.int x1]) (rest := []) (ct_X2_where l D cc ad ⟨hd.1, fun _ _ => trivial⟩ g (ms_s_th σ 0) x1 gp4) (cwV 1 hts gX2_page_X2_where rfl rfl rfl (by decide +kernel) ⟨Nat.le_of_ble_eq_true rfl, Nat.le_of_ble_eq_true rfl⟩) (va_recv hK hP (ci := 2) (q0 := 0) rfl rfl) hP hS rfl hl.1 rfl (by simp [Value.category]) dX2_page_34 (fun r5 u hp H locs hP hS => ?_)
      obtain ⟨hp1, hp2⟩ := hp
      subst hp1
      have hp2 := hp2.symm
      subst hp2
      have hP : va_P D vwCl (MW cc ad (ms_s_th σ 0)) H := hP
      refine lv_bipush (v := 100) hx hb dX2_page_37 (by decide) ?_
      refine lv_idiv hx hb dX2_page_39 (by decide) ?_
      exact ret_i (Wd := MW cc ad) (u := (ms_s_th σ 0)) C0 h hP hS dX2_page_40
    · have h := h.2 c3
      refine lv_aload_n hx hb dX2_page_21 rfl (lv_at hl 0 rfl) ?_
      refine lv_iload_n hx hb dX2_page_22 rfl (lv_at hl 1 rfl) ?_
      obtain ⟨gp6, h⟩ := h
      refine call_v (Wd := MW cc ad) (σ := (ms_s_th σ 0)) C0 hd lens_id (As := [.int x1]) (rest := []) (ct_X2_where l D cc ad ⟨hd.1, fun _ _ => trivial⟩ g (ms_s_th σ 0) x1 gp6) (cwV 1 hts gX2_page_X2_where rfl rfl rfl (by decide +kernel) ⟨Nat.le_of_ble_eq_true rfl, Nat.le_of_ble_eq_true rfl⟩) (va_recv hK hP (ci := 2) (q0 := 0) rfl rfl) hP hS rfl hl.1 rfl (by simp [Value.category]) dX2_page_23 (fun r7 u hp H locs hP hS => ?_)
      obtain ⟨hp1, hp2⟩ := hp
      subst hp1
      have hp2 := hp2.symm
      subst hp2
      have hP : va_P D vwCl (MW cc ad (ms_s_th σ 0)) H := hP
      refine lv_bipush (v := 100) hx hb dX2_page_26 (by decide) ?_
      refine lv_irem hx hb dX2_page_28 (by decide) ?_
      refine lv_goto (tgt := 40) hx hb dX2_page_29 (by decide) ?_
      exact ret_i (Wd := MW cc ad) (u := (ms_s_th σ 0)) C0 h hP hS dX2_page_40
  · have h := h.2 c2
    refine lv_iconst (v := (-1)) hx hb dX2_page_13 (by decide) ?_
    refine lv_goto (tgt := 40) hx hb dX2_page_14 (by decide) ?_
    exact ret_i (Wd := MW cc ad) (u := (ms_s_th σ 0)) C0 h hP hS dX2_page_40
theorem ct_X2_page (l : Launch) (D : va_G) (cc : Nat → ClassId) (ad : Nat → Nat) (hd : DA 13 ad (fun _ => True)) (g : CS) (σ : MS) (x1 : Int32) (x2 : Int32) (hp : pr_X2_page g σ x1 x2) : Ctr l yX2_page wsX2_page { frames := 2, cells := 0, slots := 0, locals := 46 } D cc (MW cc ad) 13 ad σ [.ref (ad 0), .int x1, .int x2] (po_X2_page g σ x1 x2) :=
  ctr_i (rt := (some .int)) (by decide +kernel) rfl hd (Nat.le_of_ble_eq_true rfl) (fun p e s m below meth c A C0 hd => wk_X2_page_0 C0 hd σ x1 x2 (pu_X2_page g σ x1 x2 hp))
