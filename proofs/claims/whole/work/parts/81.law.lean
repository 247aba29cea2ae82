set_option maxHeartbeats 4000000 in
set_option maxRecDepth 100000 in
theorem law_loop {p : Program} {l : Launch} {e : Env} {s : State} {m : MethodId} {below : List Frame} {meth : Method} {c : Code} {b L : Nat} {xs : Nat → Int32} {D : va_G} {cc : Nat → ClassId} {ad am : Nat → Nat} (L0 : Lc p s m meth c b L xs D cc) (hd : DA 58 (adm ad am) (fun q => s.heap.size ≤ q)) (hL : L ≤ 2560) :
    ∀ (n i : Nat), 5 * i ≤ L → L < 5 * i + 5 * n → ∀ (C : CS) (σ : XS) (τ : MS), RX C σ → RM C τ → c_wr C ≤ i → LAt p l e s m below meth c b D cc ad am σ τ 18 (nI (5 * i)) [] := by
  obtain ⟨hx, hb, hr, hml, hown, hts, hX, hbl, hlocks, hK, hSX⟩ := id L0
  have hbA : ¬ (fun q : Nat => s.heap.size ≤ q) b := Nat.not_le.mpr hbl
  intro n
  induction n with
  | zero => intro i h1 h2; omega
  | succ n ih =>
    intro i hi1 hi2 C σ τ hRX hRM hw H locs ls hP hS hl
    have kk : ∀ (C2 : CS) (u1 : XS) (u2 : MS), RX C2 u1 → RM C2 u2 → c_wr C2 ≤ c_wr C + 1 → 5 * i + 5 ≤ L → LAt p l e s m below meth c b D cc ad am u1 u2 1030 (nI (5 * i)) [] := by
      intro C2 u1 u2 h1 h2 h3 h4 H locs ls hP hS hl
      refine lv_iinc (v := nI (5 * (i + 1))) (lv' := [(3, .int (nI (5 * (i + 1)))), (0, .ref b), (1, .ref (ad 0)), (2, .ref (am 0))]) hx hb dL_law_1030 hl (k := 3) rfl (by rw [show 5 * (i + 1) = 5 * i + 5 by omega, ← nI_add]; rfl) (by decide) rfl (fun ls hl => ?_)
      refine lv_goto (tgt := 18) hx hb dL_law_1033 (by decide) ?_
      exact ih (i + 1) (by omega) (by omega) C2 u1 u2 h1 h2 (by omega) H locs ls hP hS (lv_sub hl [1, 2, 3, 0] rfl)
    refine lv_iload_n hx hb dL_law_18 rfl (lv_at hl 3 rfl) ?_
    refine lv_aload_n hx hb dL_law_19 rfl (lv_at hl 0 rfl) ?_
    refine va_slen hx hb hX hbl hbA hS dL_law_20 ?_
    refine lv_iconst (v := 5) hx hb dL_law_21 (by decide) ?_
    refine lv_isub hx hb dL_law_22 ?_
    have hcmp : (Int32.ofNat L - 5 < nI (5 * i)) ↔ L < 5 * i + 5 := lwcmp (by omega) (by omega)
    refine lv_icmp_gt (tgt := 1036) hx hb dL_law_23 (by decide) (fun c0 => ?_) (fun c0 => ?_)
    · refine lv_iconst (v := 1) hx hb dL_law_1036 (by decide) ?_
      refine va_forget (fun q hq => hS.2.2 q hq) ?_
      refine W.widen (k := 600000) (n := 7302250) (by decide) (by decide) ?_
      exact lw_ret hx hb hr hlocks dL_law_1037
    · have hi : 5 * i + 5 ≤ L := Nat.not_lt.mp (fun q => c0 (hcmp.mpr q))
      refine lv_aload_n hx hb dL_law_26 rfl (lv_at hl 0 rfl) ?_
      refine lv_iload_n hx hb dL_law_27 rfl (lv_at hl 3 rfl) ?_
      refine va_sld hx hb hX hbl hbA hS (vp_in_nI (by omega) (by omega)) dL_law_28 ?_
      refine lv_bipush (v := 31) hx hb dL_law_29 (by decide) ?_
      refine lv_iand hx hb dL_law_31 ?_
      obtain ⟨j, hj, ej⟩ := pk_andE (xs (nI (5 * i)).toNatClampNeg) (m := 31) 5 (by decide)
      rw [ej]
      rcases (show j = 0 ∨ j = 1 ∨ j = 2 ∨ j = 3 ∨ j = 4 ∨ j = 5 ∨ j = 6 ∨ j = 7 ∨ j = 8 ∨ j = 9 ∨ j = 10 ∨ j = 11 ∨ j = 12 ∨ j = 13 ∨ j = 14 ∨ j = 15 ∨ j = 16 ∨ j = 17 ∨ j = 18 ∨ j = 19 ∨ j = 20 ∨ j = 21 ∨ j = 22 ∨ j = 23 ∨ j = 24 ∨ j = 25 ∨ j = 26 ∨ j = 27 ∨ 28 ≤ j by omega) with rfl | rfl | rfl | rfl | rfl | rfl | rfl | rfl | rfl | rfl | rfl | rfl | rfl | rfl | rfl | rfl | rfl | rfl | rfl | rfl | rfl | rfl | rfl | rfl | rfl | rfl | rfl | rfl | hj2
      · refine lv_tableIn (off := 128) (tgt := 160) hx hb dL_law_32 (by decide) (by decide) (by decide) (by decide) ?_
        exact law_c0 L0 hd hRX hRM (by omega) hL hi (fun C2 u1 u2 h1 h2 h3 => kk C2 u1 u2 h1 h2 h3 hi) H locs ls hP hS hl
      · refine lv_tableIn (off := 151) (tgt := 183) hx hb dL_law_32 (by decide) (by decide) (by decide) (by decide) ?_
        exact law_c1 L0 hd hRX hRM (by omega) hL hi (fun C2 u1 u2 h1 h2 h3 => kk C2 u1 u2 h1 h2 h3 hi) H locs ls hP hS hl
      · refine lv_tableIn (off := 204) (tgt := 236) hx hb dL_law_32 (by decide) (by decide) (by decide) (by decide) ?_
        exact law_c2 L0 hd hRX hRM (by omega) hL hi (fun C2 u1 u2 h1 h2 h3 => kk C2 u1 u2 h1 h2 h3 hi) H locs ls hP hS hl
      · refine lv_tableIn (off := 247) (tgt := 279) hx hb dL_law_32 (by decide) (by decide) (by decide) (by decide) ?_
        exact law_c3 L0 hd hRX hRM (by omega) hL hi (fun C2 u1 u2 h1 h2 h3 => kk C2 u1 u2 h1 h2 h3 hi) H locs ls hP hS hl
      · refine lv_tableIn (off := 270) (tgt := 302) hx hb dL_law_32 (by decide) (by decide) (by decide) (by decide) ?_
        exact law_c4 L0 hd hRX hRM (by omega) hL hi (fun C2 u1 u2 h1 h2 h3 => kk C2 u1 u2 h1 h2 h3 hi) H locs ls hP hS hl
      · refine lv_tableIn (off := 313) (tgt := 345) hx hb dL_law_32 (by decide) (by decide) (by decide) (by decide) ?_
        exact law_c5 L0 hd hRX hRM (by omega) hL hi (fun C2 u1 u2 h1 h2 h3 => kk C2 u1 u2 h1 h2 h3 hi) H locs ls hP hS hl
      · refine lv_tableIn (off := 356) (tgt := 388) hx hb dL_law_32 (by decide) (by decide) (by decide) (by decide) ?_
        exact law_c6 L0 hd hRX hRM (by omega) hL hi (fun C2 u1 u2 h1 h2 h3 => kk C2 u1 u2 h1 h2 h3 hi) H locs ls hP hS hl
      · refine lv_tableIn (off := 399) (tgt := 431) hx hb dL_law_32 (by decide) (by decide) (by decide) (by decide) ?_
        exact law_c7 L0 hd hRX hRM (by omega) hL hi (fun C2 u1 u2 h1 h2 h3 => kk C2 u1 u2 h1 h2 h3 hi) H locs ls hP hS hl
      · refine lv_tableIn (off := 442) (tgt := 474) hx hb dL_law_32 (by decide) (by decide) (by decide) (by decide) ?_
        exact law_c8 L0 hd hRX hRM (by omega) hL hi (fun C2 u1 u2 h1 h2 h3 => kk C2 u1 u2 h1 h2 h3 hi) H locs ls hP hS hl
      · refine lv_tableIn (off := 475) (tgt := 507) hx hb dL_law_32 (by decide) (by decide) (by decide) (by decide) ?_
        exact law_c9 L0 hd hRX hRM (by omega) hL hi (fun C2 u1 u2 h1 h2 h3 => kk C2 u1 u2 h1 h2 h3 hi) H locs ls hP hS hl
      · refine lv_tableIn (off := 488) (tgt := 520) hx hb dL_law_32 (by decide) (by decide) (by decide) (by decide) ?_
        exact law_c10 L0 hd hRX hRM (by omega) hL hi (fun C2 u1 u2 h1 h2 h3 => kk C2 u1 u2 h1 h2 h3 hi) H locs ls hP hS hl
      · refine lv_tableIn (off := 511) (tgt := 543) hx hb dL_law_32 (by decide) (by decide) (by decide) (by decide) ?_
        exact law_c11 L0 hd hRX hRM (by omega) hL hi (fun C2 u1 u2 h1 h2 h3 => kk C2 u1 u2 h1 h2 h3 hi) H locs ls hP hS hl
      · refine lv_tableIn (off := 534) (tgt := 566) hx hb dL_law_32 (by decide) (by decide) (by decide) (by decide) ?_
        exact law_c12 L0 hd hRX hRM (by omega) hL hi (fun C2 u1 u2 h1 h2 h3 => kk C2 u1 u2 h1 h2 h3 hi) H locs ls hP hS hl
      · refine lv_tableIn (off := 547) (tgt := 579) hx hb dL_law_32 (by decide) (by decide) (by decide) (by decide) ?_
        exact law_c13 L0 hd hRX hRM (by omega) hL hi (fun C2 u1 u2 h1 h2 h3 => kk C2 u1 u2 h1 h2 h3 hi) H locs ls hP hS hl
      · refine lv_tableIn (off := 596) (tgt := 628) hx hb dL_law_32 (by decide) (by decide) (by decide) (by decide) ?_
        exact law_c14 L0 hd hRX hRM (by omega) hL hi (fun C2 u1 u2 h1 h2 h3 => kk C2 u1 u2 h1 h2 h3 hi) H locs ls hP hS hl
      · refine lv_tableIn (off := 629) (tgt := 661) hx hb dL_law_32 (by decide) (by decide) (by decide) (by decide) ?_
        exact law_c15 L0 hd hRX hRM (by omega) hL hi (fun C2 u1 u2 h1 h2 h3 => kk C2 u1 u2 h1 h2 h3 hi) H locs ls hP hS hl
      · refine lv_tableIn (off := 662) (tgt := 694) hx hb dL_law_32 (by decide) (by decide) (by decide) (by decide) ?_
        exact law_c16 L0 hd hRX hRM (by omega) hL hi (fun C2 u1 u2 h1 h2 h3 => kk C2 u1 u2 h1 h2 h3 hi) H locs ls hP hS hl
      · refine lv_tableIn (off := 685) (tgt := 717) hx hb dL_law_32 (by decide) (by decide) (by decide) (by decide) ?_
        exact law_c17 L0 hd hRX hRM (by omega) hL hi (fun C2 u1 u2 h1 h2 h3 => kk C2 u1 u2 h1 h2 h3 hi) H locs ls hP hS hl
      · refine lv_tableIn (off := 718) (tgt := 750) hx hb dL_law_32 (by decide) (by decide) (by decide) (by decide) ?_
        exact law_c18 L0 hd hRX hRM (by omega) hL hi (fun C2 u1 u2 h1 h2 h3 => kk C2 u1 u2 h1 h2 h3 hi) H locs ls hP hS hl
      · refine lv_tableIn (off := 741) (tgt := 773) hx hb dL_law_32 (by decide) (by decide) (by decide) (by decide) ?_
        exact law_c19 L0 hd hRX hRM (by omega) hL hi (fun C2 u1 u2 h1 h2 h3 => kk C2 u1 u2 h1 h2 h3 hi) H locs ls hP hS hl
      · refine lv_tableIn (off := 774) (tgt := 806) hx hb dL_law_32 (by decide) (by decide) (by decide) (by decide) ?_
        exact law_c20 L0 hd hRX hRM (by omega) hL hi (fun C2 u1 u2 h1 h2 h3 => kk C2 u1 u2 h1 h2 h3 hi) H locs ls hP hS hl
      · refine lv_tableIn (off := 797) (tgt := 829) hx hb dL_law_32 (by decide) (by decide) (by decide) (by decide) ?_
        exact law_c21 L0 hd hRX hRM (by omega) hL hi (fun C2 u1 u2 h1 h2 h3 => kk C2 u1 u2 h1 h2 h3 hi) H locs ls hP hS hl
      · refine lv_tableIn (off := 820) (tgt := 852) hx hb dL_law_32 (by decide) (by decide) (by decide) (by decide) ?_
        exact law_c22 L0 hd hRX hRM (by omega) hL hi (fun C2 u1 u2 h1 h2 h3 => kk C2 u1 u2 h1 h2 h3 hi) H locs ls hP hS hl
      · refine lv_tableIn (off := 833) (tgt := 865) hx hb dL_law_32 (by decide) (by decide) (by decide) (by decide) ?_
        exact law_c23 L0 hd hRX hRM (by omega) hL hi (fun C2 u1 u2 h1 h2 h3 => kk C2 u1 u2 h1 h2 h3 hi) H locs ls hP hS hl
      · refine lv_tableIn (off := 876) (tgt := 908) hx hb dL_law_32 (by decide) (by decide) (by decide) (by decide) ?_
        exact law_c24 L0 hd hRX hRM (by omega) hL hi (fun C2 u1 u2 h1 h2 h3 => kk C2 u1 u2 h1 h2 h3 hi) H locs ls hP hS hl
      · refine lv_tableIn (off := 909) (tgt := 941) hx hb dL_law_32 (by decide) (by decide) (by decide) (by decide) ?_
        exact law_c25 L0 hd hRX hRM (by omega) hL hi (fun C2 u1 u2 h1 h2 h3 => kk C2 u1 u2 h1 h2 h3 hi) H locs ls hP hS hl
      · refine lv_tableIn (off := 952) (tgt := 984) hx hb dL_law_32 (by decide) (by decide) (by decide) (by decide) ?_
        exact law_c26 L0 hd hRX hRM (by omega) hL hi (fun C2 u1 u2 h1 h2 h3 => kk C2 u1 u2 h1 h2 h3 hi) H locs ls hP hS hl
      · refine lv_tableIn (off := 975) (tgt := 1007) hx hb dL_law_32 (by decide) (by decide) (by decide) (by decide) ?_
        exact law_c27 L0 hd hRX hRM (by omega) hL hi (fun C2 u1 u2 h1 h2 h3 => kk C2 u1 u2 h1 h2 h3 hi) H locs ls hP hS hl
      · refine lv_tableOut (tgt := 1030) hx hb dL_law_32 (Or.inr (by rw [nI_toInt (by omega)]; omega)) (by decide) ?_
        exact kk C σ τ hRX hRM (Nat.le_succ _) hi H locs ls hP hS hl
