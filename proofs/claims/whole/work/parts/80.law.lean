/-! both worlds beside each other -/
def LWd (cc : Nat → ClassId) (ad am : Nat → Nat) (p : XS × MS) : va_W := XW cc ad p.1 ++ MW cc am p.2
def adm (ad am : Nat → Nat) : Nat → Nat := fun i => if i < 45 then ad i else am (i - 45)
theorem dx_of {ad am : Nat → Nat} {A : Nat → Prop} (hd : DA 58 (adm ad am) A) : DA 45 ad (fun _ => True) := by
  refine ⟨fun i j h1 h2 e => hd.1 i j (by omega) (by omega) ?_, fun _ _ => trivial⟩
  unfold adm
  rw [if_pos h1, if_pos h2]
  exact e
theorem dm_of {ad am : Nat → Nat} {A : Nat → Prop} (hd : DA 58 (adm ad am) A) : DA 13 am (fun _ => True) := by
  refine ⟨fun i j h1 h2 e => ?_, fun _ _ => trivial⟩
  have h := hd.1 (45 + i) (45 + j) (by omega) (by omega) (by
    unfold adm
    rw [if_neg (by omega), if_neg (by omega), show 45 + i - 45 = i by omega, show 45 + j - 45 = j by omega]
    exact e)
  omega
theorem xw_ad {cc : Nat → ClassId} {ad : Nat → Nat} {s : XS} {q : Nat × va_E} (h : q ∈ XW cc ad s) : ∃ i, i < 45 ∧ q.1 = ad i := by
  rcases xw_mem.mp h with h | ⟨j, hj, h⟩
  · obtain ⟨i, hi, e⟩ := xb_ad h
    exact ⟨i, by omega, e⟩
  · obtain ⟨i, hi, e⟩ := kw_ad h
    exact ⟨5 + 5 * j + i, by omega, e⟩
theorem mw_ad {cc : Nat → ClassId} {ad : Nat → Nat} {s : MS} {q : Nat × va_E} (h : q ∈ MW cc ad s) : ∃ i, i < 13 ∧ q.1 = ad i := by
  unfold MW at h
  simp only [List.mem_cons, List.not_mem_nil, or_false] at h
  rcases h with rfl | rfl | rfl | rfl | rfl | rfl | rfl | rfl | rfl | rfl | rfl | rfl | rfl
  · exact ⟨0, by decide, rfl⟩
  · exact ⟨1, by decide, rfl⟩
  · exact ⟨2, by decide, rfl⟩
  · exact ⟨3, by decide, rfl⟩
  · exact ⟨4, by decide, rfl⟩
  · exact ⟨5, by decide, rfl⟩
  · exact ⟨6, by decide, rfl⟩
  · exact ⟨7, by decide, rfl⟩
  · exact ⟨8, by decide, rfl⟩
  · exact ⟨9, by decide, rfl⟩
  · exact ⟨10, by decide, rfl⟩
  · exact ⟨11, by decide, rfl⟩
  · exact ⟨12, by decide, rfl⟩
theorem adm_x {ad am : Nat → Nat} {i : Nat} (h : i < 45) : adm ad am i = ad i := by unfold adm; rw [if_pos h]
theorem adm_m {ad am : Nat → Nat} {i : Nat} : adm ad am (45 + i) = am i := by unfold adm; rw [if_neg (by omega), show 45 + i - 45 = i by omega]
theorem lens_x {D : va_G} {cc : Nat → ClassId} {ad am : Nat → Nat} {σ : XS} {τ : MS} : Lens D (LWd cc ad am) 58 (adm ad am) (σ, τ) (XW cc ad) 45 ad σ (fun u => (u, τ)) := by
  refine ⟨fun H hP => ?_, fun i hi => ⟨i, by omega, (adm_x hi).symm⟩, fun u H H1 hP hd hk hu => ?_⟩
  · rw [vaP_mem] at hP ⊢
    exact fun q hq => hP q (List.mem_append_left _ hq)
  · rw [vaP_mem] at hP hu ⊢
    intro q hq
    rcases List.mem_append.mp hq with h | h
    · exact hu q h
    · have h0 := hP q (List.mem_append_right _ h)
      refine h0.kept (hk q.1 h0.lt ?_)
      obtain ⟨i, hi, e⟩ := mw_ad h
      rintro (⟨i2, h2, h3⟩ | h2)
      · have h5 := hd.1 (45 + i) i2 (by omega) (by omega) (by rw [adm_m, adm_x h2, ← e, h3])
        omega
      · have := h0.lt
        omega
theorem lens_m {D : va_G} {cc : Nat → ClassId} {ad am : Nat → Nat} {σ : XS} {τ : MS} : Lens D (LWd cc ad am) 58 (adm ad am) (σ, τ) (MW cc am) 13 am τ (fun u => (σ, u)) := by
  refine ⟨fun H hP => ?_, fun i hi => ⟨45 + i, by omega, adm_m.symm⟩, fun u H H1 hP hd hk hu => ?_⟩
  · rw [vaP_mem] at hP ⊢
    exact fun q hq => hP q (List.mem_append_right _ hq)
  · rw [vaP_mem] at hP hu ⊢
    intro q hq
    rcases List.mem_append.mp hq with h | h
    · have h0 := hP q (List.mem_append_left _ h)
      refine h0.kept (hk q.1 h0.lt ?_)
      obtain ⟨i, hi, e⟩ := xw_ad h
      rintro (⟨i2, h2, h3⟩ | h2)
      · have h5 := hd.1 i (45 + i2) (by omega) (by omega) (by rw [adm_m, adm_x hi, ← e, h3])
        omega
      · have := h0.lt
        omega
    · exact hu q h
/-- what the law's walk knows -/
def Lc (p : Program) (s : State) (m : MethodId) (meth : Method) (c : Code) (b L : Nat) (xs : Nat → Int32) (D : va_G) (cc : Nat → ClassId) : Prop :=
  p.tables.exec = Jvm.exec ∧ c.code = cL_law ∧ meth.sig.returnType = ret ∧ c.maxLocals = 4 ∧ s.vm.findClass RL = some m.cls ∧ (∀ w ∈ wsL_law, w.before #[Value.ref b] s = true) ∧ va_X b L xs s s.heap ∧ b < s.heap.size ∧ meth.locks = false ∧ va_K D vwCl (TY cc) s ∧ SX (fun q => s.heap.size ≤ q) s s.heap
def LAt (p : Program) (l : Launch) (e : Env) (s : State) (m : MethodId) (below : List Frame) (meth : Method) (c : Code) (b : Nat) (D : va_G) (cc : Nat → ClassId) (ad am : Nat → Nat) (σ : XS) (τ : MS) (pc : Nat) (x3 : Int32) (st : List Value) : Prop :=
  ∀ (H : Heap) (locs : List Loc) (ls : Array Slot), va_P D vwCl (LWd cc ad am (σ, τ)) H → va_S (fun q => s.heap.size ≤ q) s.heap H locs → lv_has ls 4 [(0, .ref b), (1, .ref (ad 0)), (2, .ref (am 0)), (3, .int x3)] → W p l e room_1 s m #[Value.ref b] below meth c H locs 100 100000 (lw_Z below #[Value.ref b] s) (F0 m pc ls st)
section CALLL
variable {p : Program} {l : Launch} {e : Env} {s : State} {m : MethodId} {below : List Frame} {meth : Method} {c : Code} {D : va_G} {cc : Nat → ClassId} {H : Heap} {locs : List Loc} {pc : Nat} {ls : Array Slot} {Q : State → Prop} {bb L : Nat} {xs : Nat → Int32}
variable {S Sc : Type} {Wd : S → va_W} {Wc : Sc → va_W} {n nc : Nat} {ad adc : Nat → Nat} {σ : S} {γ : Sc} {put : Sc → S} {y : MethodName} {wy : List Cond} {rm : Room} {b : Nat} {As rest st0 : List Value} {Post : Int32 → Sc → Prop} {Cn : String} {index : Nat} {bytes : ByteArray} {maxL nn : Nat} {rt : Option FieldType}
theorem call_L (L0 : Lc p s m meth c bb L xs D cc) (hd : DA n ad (fun q => s.heap.size ≤ q)) (Le : Lens D Wd n ad σ Wc nc adc γ put) (hC : Ctr l y wy rm D cc Wc nc adc γ (.ref b :: As) Post) (cw : CallW room_1 s #[Value.ref bb] RL Cn index y bytes maxL rt wy rm 0 0 nn) (hrecv : ∃ cellB : Cell, H[b]? = some cellB ∧ cellB.vm.isStatics = false ∧ s.vm.findClass Cn = some cellB.cls) (hP : va_P D vwCl (Wd σ) H) (hS : va_S (fun q => s.heap.size ≤ q) s.heap H locs) (hn : As.length = nn) (hl : ls.size = 4) (hst : st0 = As.reverse ++ .ref b :: rest) (hW : (rest.map fun v => v.category).sum ≤ 8) (hdg : decode cL_law pc = .ok (.invokevirtual index, 3))
    (kk : ∀ (r : Int32) (u : Sc), Post r u → ∀ (H1 : Heap) (locs1 : List Loc), va_P D vwCl (Wd (put u)) H1 → va_S (fun q => s.heap.size ≤ q) s.heap H1 locs1 → W p l e room_1 s m #[Value.ref bb] below meth c H1 locs1 100 100000 Q (F0 m (pc + 3) ls (.int r :: rest))) : W p l e room_1 s m #[Value.ref bb] below meth c H locs 100 100000 Q (F0 m pc ls st0) := by
  obtain ⟨hx, hb, hr, hml, hown, hts, hX, hbl, hlocks, hK, hSX⟩ := L0
  have hA : ∀ q : Nat, s.heap.size ≤ q → (fun q : Nat => s.heap.size ≤ q) q := fun _ h => h
  have hF := lens_free Le hd hA hS
  exact va_calli (va_runV (As := As) (rest := rest) ⟨hx, hb, hml, hown, hts⟩ (hC H.size) cw ⟨cpre_blind, hrecv, fun U hU hW => cpre_at Le hd hA hK hSX hP hS hU hW⟩ rfl hn hl hst (lv_room hW) hdg ⟨Nat.le_of_ble_eq_true rfl, Nat.le_of_ble_eq_true rfl⟩) hS (fun q _ h => hF q h) hF (fun r u t H1 locs1 ht hvm hp hB hz1 hk1 hS1 => kk r u hp H1 locs1 (Le.2.2 u H H1 hP ⟨hd.1, fun _ _ => trivial⟩ hk1 (by rw [← ht]; exact hB)) hS1)
end CALLL
theorem ix {L i : Nat} (hL : L ≤ 2560) (k : Nat) (hk : k < 5) (hi : 5 * i + 5 ≤ L) : vp_in (nI (5 * i) + nI k) L := by
  rw [nI_add]
  exact vp_in_nI (by omega) (by omega)
theorem lwcmp {L i : Nat} (hL : L < 2 ^ 28) (hi : i < 2 ^ 28) : (Int32.ofNat L - 5 < nI (5 * i)) ↔ L < 5 * i + 5 := by
  have h5 : (5 : Int32) = nI 5 := rfl
  rw [h5, show Int32.ofNat L = nI L from rfl, fa_lt, pk_sub_toInt (by omega) (by decide), nI_toInt (by omega)]
  omega
theorem wr_kind (C : CS) (a : Int32) : c_wr (st_kind C a) ≤ c_wr C + 1 := by
  unfold st_kind nx_kind
  repeat' split
  all_goals exact Nat.le_succ _
theorem wr_range (C : CS) (a b d f : Int32) : c_wr (st_range C a b d f) ≤ c_wr C + 1 := by
  unfold st_range nx_range
  repeat' split
  all_goals exact Nat.le_succ _
theorem wr_rule (C : CS) (a b d : Int32) : c_wr (st_rule C a b d) ≤ c_wr C + 1 := by
  unfold st_rule nx_rule
  repeat' split
  all_goals exact Nat.le_succ _
theorem wr_plan (C : CS) (a b : Int32) : c_wr (st_plan C a b) ≤ c_wr C + 1 := by
  unfold st_plan nx_plan
  repeat' split
  all_goals exact Nat.le_succ _
theorem wr_clear (C : CS) : c_wr (nx_clear C) ≤ c_wr C + 1 := Nat.le_succ _
theorem wr_lines (C : CS) (a : Int32) : c_wr (st_lines C a) ≤ c_wr C + 1 := by
  unfold st_lines sup
  repeat' split
  all_goals exact Nat.le_succ _
theorem wr_seats (C : CS) (a b : Int32) : c_wr (st_seats C a b) ≤ c_wr C + 1 := by
  unfold st_seats nx_seats
  repeat' split
  all_goals exact Nat.le_succ _
theorem wr_base (C : CS) (a : Int32) : c_wr (st_base C a) ≤ c_wr C + 1 := by
  unfold st_base sup
  repeat' split
  all_goals exact Nat.le_succ _
theorem wr_mark (C : CS) (a b d : Int32) : c_wr (st_mark C a b d) ≤ c_wr C + 1 := by
  unfold st_mark sup
  repeat' split
  all_goals first | exact Nat.le_succ _ | exact Nat.le_refl _

set_option maxHeartbeats 4000000 in
set_option maxRecDepth 100000 in
theorem law_c0 {p : Program} {l : Launch} {e : Env} {s : State} {m : MethodId} {below : List Frame} {meth : Method} {c : Code} {b L : Nat} {xs : Nat → Int32} {D : va_G} {cc : Nat → ClassId} {ad am : Nat → Nat} (L0 : Lc p s m meth c b L xs D cc) (hd : DA 58 (adm ad am) (fun q => s.heap.size ≤ q)) {C : CS} {σ : XS} {τ : MS} (hRX : RX C σ) (hRM : RM C τ) (hw : c_wr C ≤ 512) (hL : L ≤ 2560) {i : Nat} (hi : 5 * i + 5 ≤ L) (kk : ∀ (C2 : CS) (u1 : XS) (u2 : MS), RX C2 u1 → RM C2 u2 → c_wr C2 ≤ c_wr C + 1 → LAt p l e s m below meth c b D cc ad am u1 u2 1030 (nI (5 * i)) []) : LAt p l e s m below meth c b D cc ad am σ τ 160 (nI (5 * i)) [] := by
  obtain ⟨hx, hb, hr, hml, hown, hts, hX, hbl, hlocks, hK, hSX⟩ := id L0
  have hbA : ¬ (fun q : Nat => s.heap.size ≤ q) b := Nat.not_le.mpr hbl
  intro H locs ls hP hS hl
  refine lv_aload_n hx hb dL_law_160 rfl (lv_at hl 1 rfl) ?_
  refine lv_aload_n hx hb dL_law_161 rfl (lv_at hl 0 rfl) ?_
  refine lv_iload_n hx hb dL_law_162 rfl (lv_at hl 3 rfl) ?_
  refine lv_iconst (v := 1) hx hb dL_law_163 (by decide) ?_
  refine lv_iadd hx hb dL_law_164 ?_
  refine va_sld hx hb hX hbl hbA hS (ix hL 1 (by decide) hi) dL_law_165 ?_
  refine lv_topi (fun a1 ea1 => ?_)
  refine call_L (Wd := LWd cc ad am) (σ := (σ, τ)) L0 hd (lens_x (D := D) (cc := cc) (ad := ad) (am := am) (σ := σ) (τ := τ)) (As := [.int a1]) (rest := []) (ct_X1_kind l D cc ad (dx_of hd) C σ a1 hRX) (cwV 1 hts gL_law_X1_kind rfl rfl rfl (by decide +kernel) ⟨Nat.le_of_ble_eq_true rfl, Nat.le_of_ble_eq_true rfl⟩) (va_recv hK ((lens_x (D := D) (cc := cc) (ad := ad) (am := am) (σ := σ) (τ := τ)).1 H hP) (ci := 1) (q0 := 0) rfl rfl) hP hS rfl hl.1 rfl (by simp [Value.category]) dL_law_166 (fun r1 u1 hp H locs hP hS => ?_)
  obtain ⟨er1, hu1⟩ := hp
  have hP : va_P D vwCl (LWd cc ad am (u1, τ)) H := hP
  refine lv_aload_n hx hb dL_law_169 rfl (lv_at hl 2 rfl) ?_
  refine lv_aload_n hx hb dL_law_170 rfl (lv_at hl 0 rfl) ?_
  refine lv_iload_n hx hb dL_law_171 rfl (lv_at hl 3 rfl) ?_
  refine lv_iconst (v := 1) hx hb dL_law_172 (by decide) ?_
  refine lv_iadd hx hb dL_law_173 ?_
  refine va_sld hx hb hX hbl hbA hS (ix hL 1 (by decide) hi) dL_law_174 ?_
  refine lv_topi (fun b1 eb1 => ?_)
  have fb1 : a1 = b1 := ea1.trans eb1.symm
  subst fb1
  refine call_L (Wd := LWd cc ad am) (σ := (u1, τ)) L0 hd (lens_m (D := D) (cc := cc) (ad := ad) (am := am) (σ := u1) (τ := τ)) (As := [.int a1]) (rest := [.int r1]) (ct_X2_kind l D cc am (dm_of hd) C τ a1 hRM) (cwV 1 hts gL_law_X2_kind rfl rfl rfl (by decide +kernel) ⟨Nat.le_of_ble_eq_true rfl, Nat.le_of_ble_eq_true rfl⟩) (va_recv hK ((lens_m (D := D) (cc := cc) (ad := ad) (am := am) (σ := u1) (τ := τ)).1 H hP) (ci := 2) (q0 := 0) rfl rfl) hP hS rfl hl.1 rfl (by simp [Value.category]) dL_law_175 (fun r2 u2 hp H locs hP hS => ?_)
  obtain ⟨er2, hu2⟩ := hp
  have hP : va_P D vwCl (LWd cc ad am (u1, u2)) H := hP
  refine lv_icmp_eq (tgt := 1030) hx hb dL_law_178 (by decide) (fun c => ?_) (fun c => ?_)
  · exact kk (st_kind C a1) u1 u2 hu1 hu2 (wr_kind C a1) H locs ls hP hS hl
  · exact absurd (er1.trans er2.symm) c
set_option maxHeartbeats 4000000 in
set_option maxRecDepth 100000 in
theorem law_c1 {p : Program} {l : Launch} {e : Env} {s : State} {m : MethodId} {below : List Frame} {meth : Method} {c : Code} {b L : Nat} {xs : Nat → Int32} {D : va_G} {cc : Nat → ClassId} {ad am : Nat → Nat} (L0 : Lc p s m meth c b L xs D cc) (hd : DA 58 (adm ad am) (fun q => s.heap.size ≤ q)) {C : CS} {σ : XS} {τ : MS} (hRX : RX C σ) (hRM : RM C τ) (hw : c_wr C ≤ 512) (hL : L ≤ 2560) {i : Nat} (hi : 5 * i + 5 ≤ L) (kk : ∀ (C2 : CS) (u1 : XS) (u2 : MS), RX C2 u1 → RM C2 u2 → c_wr C2 ≤ c_wr C + 1 → LAt p l e s m below meth c b D cc ad am u1 u2 1030 (nI (5 * i)) []) : LAt p l e s m below meth c b D cc ad am σ τ 183 (nI (5 * i)) [] := by
  obtain ⟨hx, hb, hr, hml, hown, hts, hX, hbl, hlocks, hK, hSX⟩ := id L0
  have hbA : ¬ (fun q : Nat => s.heap.size ≤ q) b := Nat.not_le.mpr hbl
  intro H locs ls hP hS hl
  refine lv_aload_n hx hb dL_law_183 rfl (lv_at hl 1 rfl) ?_
  refine lv_aload_n hx hb dL_law_184 rfl (lv_at hl 0 rfl) ?_
  refine lv_iload_n hx hb dL_law_185 rfl (lv_at hl 3 rfl) ?_
  refine lv_iconst (v := 1) hx hb dL_law_186 (by decide) ?_
  refine lv_iadd hx hb dL_law_187 ?_
  refine va_sld hx hb hX hbl hbA hS (ix hL 1 (by decide) hi) dL_law_188 ?_
  refine lv_topi (fun a1 ea1 => ?_)
  refine lv_aload_n hx hb dL_law_189 rfl (lv_at hl 0 rfl) ?_
  refine lv_iload_n hx hb dL_law_190 rfl (lv_at hl 3 rfl) ?_
  refine lv_iconst (v := 2) hx hb dL_law_191 (by decide) ?_
  refine lv_iadd hx hb dL_law_192 ?_
  refine va_sld hx hb hX hbl hbA hS (ix hL 2 (by decide) hi) dL_law_193 ?_
  refine lv_topi (fun a2 ea2 => ?_)
  refine lv_aload_n hx hb dL_law_194 rfl (lv_at hl 0 rfl) ?_
  refine lv_iload_n hx hb dL_law_195 rfl (lv_at hl 3 rfl) ?_
  refine lv_iconst (v := 3) hx hb dL_law_196 (by decide) ?_
  refine lv_iadd hx hb dL_law_197 ?_
  refine va_sld hx hb hX hbl hbA hS (ix hL 3 (by decide) hi) dL_law_198 ?_
  refine lv_topi (fun a3 ea3 => ?_)
  refine lv_aload_n hx hb dL_law_199 rfl (lv_at hl 0 rfl) ?_
  refine lv_iload_n hx hb dL_law_200 rfl (lv_at hl 3 rfl) ?_
  refine lv_iconst (v := 4) hx hb dL_law_201 (by decide) ?_
  refine lv_iadd hx hb dL_law_202 ?_
  refine va_sld hx hb hX hbl hbA hS (ix hL 4 (by decide) hi) dL_law_203 ?_
  refine lv_topi (fun a4 ea4 => ?_)
  refine call_L (Wd := LWd cc ad am) (σ := (σ, τ)) L0 hd (lens_x (D := D) (cc := cc) (ad := ad) (am := am) (σ := σ) (τ := τ)) (As := [.int a1, .int a2, .int a3, .int a4]) (rest := []) (ct_X1_range l D cc ad (dx_of hd) C σ a1 a2 a3 a4 hRX) (cwV 4 hts gL_law_X1_range rfl rfl rfl (by decide +kernel) ⟨Nat.le_of_ble_eq_true rfl, Nat.le_of_ble_eq_true rfl⟩) (va_recv hK ((lens_x (D := D) (cc := cc) (ad := ad) (am := am) (σ := σ) (τ := τ)).1 H hP) (ci := 1) (q0 := 0) rfl rfl) hP hS rfl hl.1 rfl (by simp [Value.category]) dL_law_204 (fun r1 u1 hp H locs hP hS => ?_)
  obtain ⟨er1, hu1⟩ := hp
  have hP : va_P D vwCl (LWd cc ad am (u1, τ)) H := hP
  refine lv_aload_n hx hb dL_law_207 rfl (lv_at hl 2 rfl) ?_
  refine lv_aload_n hx hb dL_law_208 rfl (lv_at hl 0 rfl) ?_
  refine lv_iload_n hx hb dL_law_209 rfl (lv_at hl 3 rfl) ?_
  refine lv_iconst (v := 1) hx hb dL_law_210 (by decide) ?_
  refine lv_iadd hx hb dL_law_211 ?_
  refine va_sld hx hb hX hbl hbA hS (ix hL 1 (by decide) hi) dL_law_212 ?_
  refine lv_topi (fun b1 eb1 => ?_)
  have fb1 : a1 = b1 := ea1.trans eb1.symm
  subst fb1
  refine lv_aload_n hx hb dL_law_213 rfl (lv_at hl 0 rfl) ?_
  refine lv_iload_n hx hb dL_law_214 rfl (lv_at hl 3 rfl) ?_
  refine lv_iconst (v := 2) hx hb dL_law_215 (by decide) ?_
  refine lv_iadd hx hb dL_law_216 ?_
  refine va_sld hx hb hX hbl hbA hS (ix hL 2 (by decide) hi) dL_law_217 ?_
  refine lv_topi (fun b2 eb2 => ?_)
  have fb2 : a2 = b2 := ea2.trans eb2.symm
  subst fb2
  refine lv_aload_n hx hb dL_law_218 rfl (lv_at hl 0 rfl) ?_
  refine lv_iload_n hx hb dL_law_219 rfl (lv_at hl 3 rfl) ?_
  refine lv_iconst (v := 3) hx hb dL_law_220 (by decide) ?_
  refine lv_iadd hx hb dL_law_221 ?_
  refine va_sld hx hb hX hbl hbA hS (ix hL 3 (by decide) hi) dL_law_222 ?_
  refine lv_topi (fun b3 eb3 => ?_)
  have fb3 : a3 = b3 := ea3.trans eb3.symm
  subst fb3
  refine lv_aload_n hx hb dL_law_223 rfl (lv_at hl 0 rfl) ?_
  refine lv_iload_n hx hb dL_law_224 rfl (lv_at hl 3 rfl) ?_
  refine lv_iconst (v := 4) hx hb dL_law_225 (by decide) ?_
  refine lv_iadd hx hb dL_law_226 ?_
  refine va_sld hx hb hX hbl hbA hS (ix hL 4 (by decide) hi) dL_law_227 ?_
  refine lv_topi (fun b4 eb4 => ?_)
  have fb4 : a4 = b4 := ea4.trans eb4.symm
  subst fb4
  refine call_L (Wd := LWd cc ad am) (σ := (u1, τ)) L0 hd (lens_m (D := D) (cc := cc) (ad := ad) (am := am) (σ := u1) (τ := τ)) (As := [.int a1, .int a2, .int a3, .int a4]) (rest := [.int r1]) (ct_X2_range l D cc am (dm_of hd) C τ a1 a2 a3 a4 hRM) (cwV 4 hts gL_law_X2_range rfl rfl rfl (by decide +kernel) ⟨Nat.le_of_ble_eq_true rfl, Nat.le_of_ble_eq_true rfl⟩) (va_recv hK ((lens_m (D := D) (cc := cc) (ad := ad) (am := am) (σ := u1) (τ := τ)).1 H hP) (ci := 2) (q0 := 0) rfl rfl) hP hS rfl hl.1 rfl (by simp [Value.category]) dL_law_228 (fun r2 u2 hp H locs hP hS => ?_)
  obtain ⟨er2, hu2⟩ := hp
  have hP : va_P D vwCl (LWd cc ad am (u1, u2)) H := hP
  refine lv_icmp_eq (tgt := 1030) hx hb dL_law_231 (by decide) (fun c => ?_) (fun c => ?_)
  · exact kk (st_range C a1 a2 a3 a4) u1 u2 hu1 hu2 (wr_range C a1 a2 a3 a4) H locs ls hP hS hl
  · exact absurd (er1.trans er2.symm) c
set_option maxHeartbeats 4000000 in
set_option maxRecDepth 100000 in
theorem law_c2 {p : Program} {l : Launch} {e : Env} {s : State} {m : MethodId} {below : List Frame} {meth : Method} {c : Code} {b L : Nat} {xs : Nat → Int32} {D : va_G} {cc : Nat → ClassId} {ad am : Nat → Nat} (L0 : Lc p s m meth c b L xs D cc) (hd : DA 58 (adm ad am) (fun q => s.heap.size ≤ q)) {C : CS} {σ : XS} {τ : MS} (hRX : RX C σ) (hRM : RM C τ) (hw : c_wr C ≤ 512) (hL : L ≤ 2560) {i : Nat} (hi : 5 * i + 5 ≤ L) (kk : ∀ (C2 : CS) (u1 : XS) (u2 : MS), RX C2 u1 → RM C2 u2 → c_wr C2 ≤ c_wr C + 1 → LAt p l e s m below meth c b D cc ad am u1 u2 1030 (nI (5 * i)) []) : LAt p l e s m below meth c b D cc ad am σ τ 236 (nI (5 * i)) [] := by
  obtain ⟨hx, hb, hr, hml, hown, hts, hX, hbl, hlocks, hK, hSX⟩ := id L0
  have hbA : ¬ (fun q : Nat => s.heap.size ≤ q) b := Nat.not_le.mpr hbl
  intro H locs ls hP hS hl
  refine lv_aload_n hx hb dL_law_236 rfl (lv_at hl 1 rfl) ?_
  refine lv_aload_n hx hb dL_law_237 rfl (lv_at hl 0 rfl) ?_
  refine lv_iload_n hx hb dL_law_238 rfl (lv_at hl 3 rfl) ?_
  refine lv_iconst (v := 1) hx hb dL_law_239 (by decide) ?_
  refine lv_iadd hx hb dL_law_240 ?_
  refine va_sld hx hb hX hbl hbA hS (ix hL 1 (by decide) hi) dL_law_241 ?_
  refine lv_topi (fun a1 ea1 => ?_)
  refine lv_aload_n hx hb dL_law_242 rfl (lv_at hl 0 rfl) ?_
  refine lv_iload_n hx hb dL_law_243 rfl (lv_at hl 3 rfl) ?_
  refine lv_iconst (v := 2) hx hb dL_law_244 (by decide) ?_
  refine lv_iadd hx hb dL_law_245 ?_
  refine va_sld hx hb hX hbl hbA hS (ix hL 2 (by decide) hi) dL_law_246 ?_
  refine lv_topi (fun a2 ea2 => ?_)
  refine lv_aload_n hx hb dL_law_247 rfl (lv_at hl 0 rfl) ?_
  refine lv_iload_n hx hb dL_law_248 rfl (lv_at hl 3 rfl) ?_
  refine lv_iconst (v := 3) hx hb dL_law_249 (by decide) ?_
  refine lv_iadd hx hb dL_law_250 ?_
  refine va_sld hx hb hX hbl hbA hS (ix hL 3 (by decide) hi) dL_law_251 ?_
  refine lv_topi (fun a3 ea3 => ?_)
  refine call_L (Wd := LWd cc ad am) (σ := (σ, τ)) L0 hd (lens_x (D := D) (cc := cc) (ad := ad) (am := am) (σ := σ) (τ := τ)) (As := [.int a1, .int a2, .int a3]) (rest := []) (ct_X1_rule l D cc ad (dx_of hd) C σ a1 a2 a3 hRX) (cwV 3 hts gL_law_X1_rule rfl rfl rfl (by decide +kernel) ⟨Nat.le_of_ble_eq_true rfl, Nat.le_of_ble_eq_true rfl⟩) (va_recv hK ((lens_x (D := D) (cc := cc) (ad := ad) (am := am) (σ := σ) (τ := τ)).1 H hP) (ci := 1) (q0 := 0) rfl rfl) hP hS rfl hl.1 rfl (by simp [Value.category]) dL_law_252 (fun r1 u1 hp H locs hP hS => ?_)
  obtain ⟨er1, hu1⟩ := hp
  have hP : va_P D vwCl (LWd cc ad am (u1, τ)) H := hP
  refine lv_aload_n hx hb dL_law_255 rfl (lv_at hl 2 rfl) ?_
  refine lv_aload_n hx hb dL_law_256 rfl (lv_at hl 0 rfl) ?_
  refine lv_iload_n hx hb dL_law_257 rfl (lv_at hl 3 rfl) ?_
  refine lv_iconst (v := 1) hx hb dL_law_258 (by decide) ?_
  refine lv_iadd hx hb dL_law_259 ?_
  refine va_sld hx hb hX hbl hbA hS (ix hL 1 (by decide) hi) dL_law_260 ?_
  refine lv_topi (fun b1 eb1 => ?_)
  have fb1 : a1 = b1 := ea1.trans eb1.symm
  subst fb1
  refine lv_aload_n hx hb dL_law_261 rfl (lv_at hl 0 rfl) ?_
  refine lv_iload_n hx hb dL_law_262 rfl (lv_at hl 3 rfl) ?_
  refine lv_iconst (v := 2) hx hb dL_law_263 (by decide) ?_
  refine lv_iadd hx hb dL_law_264 ?_
  refine va_sld hx hb hX hbl hbA hS (ix hL 2 (by decide) hi) dL_law_265 ?_
  refine lv_topi (fun b2 eb2 => ?_)
  have fb2 : a2 = b2 := ea2.trans eb2.symm
  subst fb2
  refine lv_aload_n hx hb dL_law_266 rfl (lv_at hl 0 rfl) ?_
  refine lv_iload_n hx hb dL_law_267 rfl (lv_at hl 3 rfl) ?_
  refine lv_iconst (v := 3) hx hb dL_law_268 (by decide) ?_
  refine lv_iadd hx hb dL_law_269 ?_
  refine va_sld hx hb hX hbl hbA hS (ix hL 3 (by decide) hi) dL_law_270 ?_
  refine lv_topi (fun b3 eb3 => ?_)
  have fb3 : a3 = b3 := ea3.trans eb3.symm
  subst fb3
  refine call_L (Wd := LWd cc ad am) (σ := (u1, τ)) L0 hd (lens_m (D := D) (cc := cc) (ad := ad) (am := am) (σ := u1) (τ := τ)) (As := [.int a1, .int a2, .int a3]) (rest := [.int r1]) (ct_X2_rule l D cc am (dm_of hd) C τ a1 a2 a3 hRM) (cwV 3 hts gL_law_X2_rule rfl rfl rfl (by decide +kernel) ⟨Nat.le_of_ble_eq_true rfl, Nat.le_of_ble_eq_true rfl⟩) (va_recv hK ((lens_m (D := D) (cc := cc) (ad := ad) (am := am) (σ := u1) (τ := τ)).1 H hP) (ci := 2) (q0 := 0) rfl rfl) hP hS rfl hl.1 rfl (by simp [Value.category]) dL_law_271 (fun r2 u2 hp H locs hP hS => ?_)
  obtain ⟨er2, hu2⟩ := hp
  have hP : va_P D vwCl (LWd cc ad am (u1, u2)) H := hP
  refine lv_icmp_eq (tgt := 1030) hx hb dL_law_274 (by decide) (fun c => ?_) (fun c => ?_)
  · exact kk (st_rule C a1 a2 a3) u1 u2 hu1 hu2 (wr_rule C a1 a2 a3) H locs ls hP hS hl
  · exact absurd (er1.trans er2.symm) c
set_option maxHeartbeats 4000000 in
set_option maxRecDepth 100000 in
theorem law_c3 {p : Program} {l : Launch} {e : Env} {s : State} {m : MethodId} {below : List Frame} {meth : Method} {c : Code} {b L : Nat} {xs : Nat → Int32} {D : va_G} {cc : Nat → ClassId} {ad am : Nat → Nat} (L0 : Lc p s m meth c b L xs D cc) (hd : DA 58 (adm ad am) (fun q => s.heap.size ≤ q)) {C : CS} {σ : XS} {τ : MS} (hRX : RX C σ) (hRM : RM C τ) (hw : c_wr C ≤ 512) (hL : L ≤ 2560) {i : Nat} (hi : 5 * i + 5 ≤ L) (kk : ∀ (C2 : CS) (u1 : XS) (u2 : MS), RX C2 u1 → RM C2 u2 → c_wr C2 ≤ c_wr C + 1 → LAt p l e s m below meth c b D cc ad am u1 u2 1030 (nI (5 * i)) []) : LAt p l e s m below meth c b D cc ad am σ τ 279 (nI (5 * i)) [] := by
  obtain ⟨hx, hb, hr, hml, hown, hts, hX, hbl, hlocks, hK, hSX⟩ := id L0
  have hbA : ¬ (fun q : Nat => s.heap.size ≤ q) b := Nat.not_le.mpr hbl
  intro H locs ls hP hS hl
  refine lv_aload_n hx hb dL_law_279 rfl (lv_at hl 1 rfl) ?_
  refine lv_aload_n hx hb dL_law_280 rfl (lv_at hl 0 rfl) ?_
  refine lv_iload_n hx hb dL_law_281 rfl (lv_at hl 3 rfl) ?_
  refine lv_iconst (v := 1) hx hb dL_law_282 (by decide) ?_
  refine lv_iadd hx hb dL_law_283 ?_
  refine va_sld hx hb hX hbl hbA hS (ix hL 1 (by decide) hi) dL_law_284 ?_
  refine lv_topi (fun a1 ea1 => ?_)
  refine call_L (Wd := LWd cc ad am) (σ := (σ, τ)) L0 hd (lens_x (D := D) (cc := cc) (ad := ad) (am := am) (σ := σ) (τ := τ)) (As := [.int a1]) (rest := []) (ct_X1_variants l D cc ad (dx_of hd) C σ a1 hRX) (cwV 1 hts gL_law_X1_variants rfl rfl rfl (by decide +kernel) ⟨Nat.le_of_ble_eq_true rfl, Nat.le_of_ble_eq_true rfl⟩) (va_recv hK ((lens_x (D := D) (cc := cc) (ad := ad) (am := am) (σ := σ) (τ := τ)).1 H hP) (ci := 1) (q0 := 0) rfl rfl) hP hS rfl hl.1 rfl (by simp [Value.category]) dL_law_285 (fun r1 u1 hp H locs hP hS => ?_)
  obtain ⟨er1, hu1⟩ := hp
  have hu1 := hu1.symm
  subst hu1
  have hP : va_P D vwCl (LWd cc ad am (σ, τ)) H := hP
  refine lv_aload_n hx hb dL_law_288 rfl (lv_at hl 2 rfl) ?_
  refine lv_aload_n hx hb dL_law_289 rfl (lv_at hl 0 rfl) ?_
  refine lv_iload_n hx hb dL_law_290 rfl (lv_at hl 3 rfl) ?_
  refine lv_iconst (v := 1) hx hb dL_law_291 (by decide) ?_
  refine lv_iadd hx hb dL_law_292 ?_
  refine va_sld hx hb hX hbl hbA hS (ix hL 1 (by decide) hi) dL_law_293 ?_
  refine lv_topi (fun b1 eb1 => ?_)
  have fb1 : a1 = b1 := ea1.trans eb1.symm
  subst fb1
  refine call_L (Wd := LWd cc ad am) (σ := (σ, τ)) L0 hd (lens_m (D := D) (cc := cc) (ad := ad) (am := am) (σ := σ) (τ := τ)) (As := [.int a1]) (rest := [.int r1]) (ct_X2_variants l D cc am (dm_of hd) C τ a1 hRM) (cwV 1 hts gL_law_X2_variants rfl rfl rfl (by decide +kernel) ⟨Nat.le_of_ble_eq_true rfl, Nat.le_of_ble_eq_true rfl⟩) (va_recv hK ((lens_m (D := D) (cc := cc) (ad := ad) (am := am) (σ := σ) (τ := τ)).1 H hP) (ci := 2) (q0 := 0) rfl rfl) hP hS rfl hl.1 rfl (by simp [Value.category]) dL_law_294 (fun r2 u2 hp H locs hP hS => ?_)
  obtain ⟨er2, hu2⟩ := hp
  have hP : va_P D vwCl (LWd cc ad am (σ, u2)) H := hP
  refine lv_icmp_eq (tgt := 1030) hx hb dL_law_297 (by decide) (fun c => ?_) (fun c => ?_)
  · exact kk C σ u2 hRX hu2 (Nat.le_succ _) H locs ls hP hS hl
  · exact absurd (er1.trans er2.symm) c
set_option maxHeartbeats 4000000 in
set_option maxRecDepth 100000 in
theorem law_c4 {p : Program} {l : Launch} {e : Env} {s : State} {m : MethodId} {below : List Frame} {meth : Method} {c : Code} {b L : Nat} {xs : Nat → Int32} {D : va_G} {cc : Nat → ClassId} {ad am : Nat → Nat} (L0 : Lc p s m meth c b L xs D cc) (hd : DA 58 (adm ad am) (fun q => s.heap.size ≤ q)) {C : CS} {σ : XS} {τ : MS} (hRX : RX C σ) (hRM : RM C τ) (hw : c_wr C ≤ 512) (hL : L ≤ 2560) {i : Nat} (hi : 5 * i + 5 ≤ L) (kk : ∀ (C2 : CS) (u1 : XS) (u2 : MS), RX C2 u1 → RM C2 u2 → c_wr C2 ≤ c_wr C + 1 → LAt p l e s m below meth c b D cc ad am u1 u2 1030 (nI (5 * i)) []) : LAt p l e s m below meth c b D cc ad am σ τ 302 (nI (5 * i)) [] := by
  obtain ⟨hx, hb, hr, hml, hown, hts, hX, hbl, hlocks, hK, hSX⟩ := id L0
  have hbA : ¬ (fun q : Nat => s.heap.size ≤ q) b := Nat.not_le.mpr hbl
  intro H locs ls hP hS hl
  refine lv_aload_n hx hb dL_law_302 rfl (lv_at hl 1 rfl) ?_
  refine lv_aload_n hx hb dL_law_303 rfl (lv_at hl 0 rfl) ?_
  refine lv_iload_n hx hb dL_law_304 rfl (lv_at hl 3 rfl) ?_
  refine lv_iconst (v := 1) hx hb dL_law_305 (by decide) ?_
  refine lv_iadd hx hb dL_law_306 ?_
  refine va_sld hx hb hX hbl hbA hS (ix hL 1 (by decide) hi) dL_law_307 ?_
  refine lv_topi (fun a1 ea1 => ?_)
  refine lv_aload_n hx hb dL_law_308 rfl (lv_at hl 0 rfl) ?_
  refine lv_iload_n hx hb dL_law_309 rfl (lv_at hl 3 rfl) ?_
  refine lv_iconst (v := 2) hx hb dL_law_310 (by decide) ?_
  refine lv_iadd hx hb dL_law_311 ?_
  refine va_sld hx hb hX hbl hbA hS (ix hL 2 (by decide) hi) dL_law_312 ?_
  refine lv_topi (fun a2 ea2 => ?_)
  refine lv_aload_n hx hb dL_law_313 rfl (lv_at hl 0 rfl) ?_
  refine lv_iload_n hx hb dL_law_314 rfl (lv_at hl 3 rfl) ?_
  refine lv_iconst (v := 3) hx hb dL_law_315 (by decide) ?_
  refine lv_iadd hx hb dL_law_316 ?_
  refine va_sld hx hb hX hbl hbA hS (ix hL 3 (by decide) hi) dL_law_317 ?_
  refine lv_topi (fun a3 ea3 => ?_)
  refine call_L (Wd := LWd cc ad am) (σ := (σ, τ)) L0 hd (lens_x (D := D) (cc := cc) (ad := ad) (am := am) (σ := σ) (τ := τ)) (As := [.int a1, .int a2, .int a3]) (rest := []) (ct_X1_variant l D cc ad (dx_of hd) C σ a1 a2 a3 hRX) (cwV 3 hts gL_law_X1_variant rfl rfl rfl (by decide +kernel) ⟨Nat.le_of_ble_eq_true rfl, Nat.le_of_ble_eq_true rfl⟩) (va_recv hK ((lens_x (D := D) (cc := cc) (ad := ad) (am := am) (σ := σ) (τ := τ)).1 H hP) (ci := 1) (q0 := 0) rfl rfl) hP hS rfl hl.1 rfl (by simp [Value.category]) dL_law_318 (fun r1 u1 hp H locs hP hS => ?_)
  obtain ⟨er1, hu1⟩ := hp
  have hu1 := hu1.symm
  subst hu1
  have hP : va_P D vwCl (LWd cc ad am (σ, τ)) H := hP
  refine lv_aload_n hx hb dL_law_321 rfl (lv_at hl 2 rfl) ?_
  refine lv_aload_n hx hb dL_law_322 rfl (lv_at hl 0 rfl) ?_
  refine lv_iload_n hx hb dL_law_323 rfl (lv_at hl 3 rfl) ?_
  refine lv_iconst (v := 1) hx hb dL_law_324 (by decide) ?_
  refine lv_iadd hx hb dL_law_325 ?_
  refine va_sld hx hb hX hbl hbA hS (ix hL 1 (by decide) hi) dL_law_326 ?_
  refine lv_topi (fun b1 eb1 => ?_)
  have fb1 : a1 = b1 := ea1.trans eb1.symm
  subst fb1
  refine lv_aload_n hx hb dL_law_327 rfl (lv_at hl 0 rfl) ?_
  refine lv_iload_n hx hb dL_law_328 rfl (lv_at hl 3 rfl) ?_
  refine lv_iconst (v := 2) hx hb dL_law_329 (by decide) ?_
  refine lv_iadd hx hb dL_law_330 ?_
  refine va_sld hx hb hX hbl hbA hS (ix hL 2 (by decide) hi) dL_law_331 ?_
  refine lv_topi (fun b2 eb2 => ?_)
  have fb2 : a2 = b2 := ea2.trans eb2.symm
  subst fb2
  refine lv_aload_n hx hb dL_law_332 rfl (lv_at hl 0 rfl) ?_
  refine lv_iload_n hx hb dL_law_333 rfl (lv_at hl 3 rfl) ?_
  refine lv_iconst (v := 3) hx hb dL_law_334 (by decide) ?_
  refine lv_iadd hx hb dL_law_335 ?_
  refine va_sld hx hb hX hbl hbA hS (ix hL 3 (by decide) hi) dL_law_336 ?_
  refine lv_topi (fun b3 eb3 => ?_)
  have fb3 : a3 = b3 := ea3.trans eb3.symm
  subst fb3
  refine call_L (Wd := LWd cc ad am) (σ := (σ, τ)) L0 hd (lens_m (D := D) (cc := cc) (ad := ad) (am := am) (σ := σ) (τ := τ)) (As := [.int a1, .int a2, .int a3]) (rest := [.int r1]) (ct_X2_variant l D cc am (dm_of hd) C τ a1 a2 a3 hRM) (cwV 3 hts gL_law_X2_variant rfl rfl rfl (by decide +kernel) ⟨Nat.le_of_ble_eq_true rfl, Nat.le_of_ble_eq_true rfl⟩) (va_recv hK ((lens_m (D := D) (cc := cc) (ad := ad) (am := am) (σ := σ) (τ := τ)).1 H hP) (ci := 2) (q0 := 0) rfl rfl) hP hS rfl hl.1 rfl (by simp [Value.category]) dL_law_337 (fun r2 u2 hp H locs hP hS => ?_)
  obtain ⟨er2, hu2⟩ := hp
  have hP : va_P D vwCl (LWd cc ad am (σ, u2)) H := hP
  refine lv_icmp_eq (tgt := 1030) hx hb dL_law_340 (by decide) (fun c => ?_) (fun c => ?_)
  · exact kk C σ u2 hRX hu2 (Nat.le_succ _) H locs ls hP hS hl
  · exact absurd (er1.trans er2.symm) c
set_option maxHeartbeats 4000000 in
set_option maxRecDepth 100000 in
theorem law_c5 {p : Program} {l : Launch} {e : Env} {s : State} {m : MethodId} {below : List Frame} {meth : Method} {c : Code} {b L : Nat} {xs : Nat → Int32} {D : va_G} {cc : Nat → ClassId} {ad am : Nat → Nat} (L0 : Lc p s m meth c b L xs D cc) (hd : DA 58 (adm ad am) (fun q => s.heap.size ≤ q)) {C : CS} {σ : XS} {τ : MS} (hRX : RX C σ) (hRM : RM C τ) (hw : c_wr C ≤ 512) (hL : L ≤ 2560) {i : Nat} (hi : 5 * i + 5 ≤ L) (kk : ∀ (C2 : CS) (u1 : XS) (u2 : MS), RX C2 u1 → RM C2 u2 → c_wr C2 ≤ c_wr C + 1 → LAt p l e s m below meth c b D cc ad am u1 u2 1030 (nI (5 * i)) []) : LAt p l e s m below meth c b D cc ad am σ τ 345 (nI (5 * i)) [] := by
  obtain ⟨hx, hb, hr, hml, hown, hts, hX, hbl, hlocks, hK, hSX⟩ := id L0
  have hbA : ¬ (fun q : Nat => s.heap.size ≤ q) b := Nat.not_le.mpr hbl
  intro H locs ls hP hS hl
  refine lv_aload_n hx hb dL_law_345 rfl (lv_at hl 1 rfl) ?_
  refine lv_aload_n hx hb dL_law_346 rfl (lv_at hl 0 rfl) ?_
  refine lv_iload_n hx hb dL_law_347 rfl (lv_at hl 3 rfl) ?_
  refine lv_iconst (v := 1) hx hb dL_law_348 (by decide) ?_
  refine lv_iadd hx hb dL_law_349 ?_
  refine va_sld hx hb hX hbl hbA hS (ix hL 1 (by decide) hi) dL_law_350 ?_
  refine lv_topi (fun a1 ea1 => ?_)
  refine lv_aload_n hx hb dL_law_351 rfl (lv_at hl 0 rfl) ?_
  refine lv_iload_n hx hb dL_law_352 rfl (lv_at hl 3 rfl) ?_
  refine lv_iconst (v := 2) hx hb dL_law_353 (by decide) ?_
  refine lv_iadd hx hb dL_law_354 ?_
  refine va_sld hx hb hX hbl hbA hS (ix hL 2 (by decide) hi) dL_law_355 ?_
  refine lv_topi (fun a2 ea2 => ?_)
  refine lv_aload_n hx hb dL_law_356 rfl (lv_at hl 0 rfl) ?_
  refine lv_iload_n hx hb dL_law_357 rfl (lv_at hl 3 rfl) ?_
  refine lv_iconst (v := 3) hx hb dL_law_358 (by decide) ?_
  refine lv_iadd hx hb dL_law_359 ?_
  refine va_sld hx hb hX hbl hbA hS (ix hL 3 (by decide) hi) dL_law_360 ?_
  refine lv_topi (fun a3 ea3 => ?_)
  refine call_L (Wd := LWd cc ad am) (σ := (σ, τ)) L0 hd (lens_x (D := D) (cc := cc) (ad := ad) (am := am) (σ := σ) (τ := τ)) (As := [.int a1, .int a2, .int a3]) (rest := []) (ct_X1_find l D cc ad (dx_of hd) C σ a1 a2 a3 hRX) (cwV 3 hts gL_law_X1_find rfl rfl rfl (by decide +kernel) ⟨Nat.le_of_ble_eq_true rfl, Nat.le_of_ble_eq_true rfl⟩) (va_recv hK ((lens_x (D := D) (cc := cc) (ad := ad) (am := am) (σ := σ) (τ := τ)).1 H hP) (ci := 1) (q0 := 0) rfl rfl) hP hS rfl hl.1 rfl (by simp [Value.category]) dL_law_361 (fun r1 u1 hp H locs hP hS => ?_)
  obtain ⟨er1, hu1⟩ := hp
  have hu1 := hu1.symm
  subst hu1
  have hP : va_P D vwCl (LWd cc ad am (σ, τ)) H := hP
  refine lv_aload_n hx hb dL_law_364 rfl (lv_at hl 2 rfl) ?_
  refine lv_aload_n hx hb dL_law_365 rfl (lv_at hl 0 rfl) ?_
  refine lv_iload_n hx hb dL_law_366 rfl (lv_at hl 3 rfl) ?_
  refine lv_iconst (v := 1) hx hb dL_law_367 (by decide) ?_
  refine lv_iadd hx hb dL_law_368 ?_
  refine va_sld hx hb hX hbl hbA hS (ix hL 1 (by decide) hi) dL_law_369 ?_
  refine lv_topi (fun b1 eb1 => ?_)
  have fb1 : a1 = b1 := ea1.trans eb1.symm
  subst fb1
  refine lv_aload_n hx hb dL_law_370 rfl (lv_at hl 0 rfl) ?_
  refine lv_iload_n hx hb dL_law_371 rfl (lv_at hl 3 rfl) ?_
  refine lv_iconst (v := 2) hx hb dL_law_372 (by decide) ?_
  refine lv_iadd hx hb dL_law_373 ?_
  refine va_sld hx hb hX hbl hbA hS (ix hL 2 (by decide) hi) dL_law_374 ?_
  refine lv_topi (fun b2 eb2 => ?_)
  have fb2 : a2 = b2 := ea2.trans eb2.symm
  subst fb2
  refine lv_aload_n hx hb dL_law_375 rfl (lv_at hl 0 rfl) ?_
  refine lv_iload_n hx hb dL_law_376 rfl (lv_at hl 3 rfl) ?_
  refine lv_iconst (v := 3) hx hb dL_law_377 (by decide) ?_
  refine lv_iadd hx hb dL_law_378 ?_
  refine va_sld hx hb hX hbl hbA hS (ix hL 3 (by decide) hi) dL_law_379 ?_
  refine lv_topi (fun b3 eb3 => ?_)
  have fb3 : a3 = b3 := ea3.trans eb3.symm
  subst fb3
  refine call_L (Wd := LWd cc ad am) (σ := (σ, τ)) L0 hd (lens_m (D := D) (cc := cc) (ad := ad) (am := am) (σ := σ) (τ := τ)) (As := [.int a1, .int a2, .int a3]) (rest := [.int r1]) (ct_X2_find l D cc am (dm_of hd) C τ a1 a2 a3 hRM) (cwV 3 hts gL_law_X2_find rfl rfl rfl (by decide +kernel) ⟨Nat.le_of_ble_eq_true rfl, Nat.le_of_ble_eq_true rfl⟩) (va_recv hK ((lens_m (D := D) (cc := cc) (ad := ad) (am := am) (σ := σ) (τ := τ)).1 H hP) (ci := 2) (q0 := 0) rfl rfl) hP hS rfl hl.1 rfl (by simp [Value.category]) dL_law_380 (fun r2 u2 hp H locs hP hS => ?_)
  obtain ⟨er2, hu2⟩ := hp
  have hP : va_P D vwCl (LWd cc ad am (σ, u2)) H := hP
  refine lv_icmp_eq (tgt := 1030) hx hb dL_law_383 (by decide) (fun c => ?_) (fun c => ?_)
  · exact kk C σ u2 hRX hu2 (Nat.le_succ _) H locs ls hP hS hl
  · exact absurd (er1.trans er2.symm) c
set_option maxHeartbeats 4000000 in
set_option maxRecDepth 100000 in
theorem law_c6 {p : Program} {l : Launch} {e : Env} {s : State} {m : MethodId} {below : List Frame} {meth : Method} {c : Code} {b L : Nat} {xs : Nat → Int32} {D : va_G} {cc : Nat → ClassId} {ad am : Nat → Nat} (L0 : Lc p s m meth c b L xs D cc) (hd : DA 58 (adm ad am) (fun q => s.heap.size ≤ q)) {C : CS} {σ : XS} {τ : MS} (hRX : RX C σ) (hRM : RM C τ) (hw : c_wr C ≤ 512) (hL : L ≤ 2560) {i : Nat} (hi : 5 * i + 5 ≤ L) (kk : ∀ (C2 : CS) (u1 : XS) (u2 : MS), RX C2 u1 → RM C2 u2 → c_wr C2 ≤ c_wr C + 1 → LAt p l e s m below meth c b D cc ad am u1 u2 1030 (nI (5 * i)) []) : LAt p l e s m below meth c b D cc ad am σ τ 388 (nI (5 * i)) [] := by
  obtain ⟨hx, hb, hr, hml, hown, hts, hX, hbl, hlocks, hK, hSX⟩ := id L0
  have hbA : ¬ (fun q : Nat => s.heap.size ≤ q) b := Nat.not_le.mpr hbl
  intro H locs ls hP hS hl
  refine lv_aload_n hx hb dL_law_388 rfl (lv_at hl 1 rfl) ?_
  refine lv_aload_n hx hb dL_law_389 rfl (lv_at hl 0 rfl) ?_
  refine lv_iload_n hx hb dL_law_390 rfl (lv_at hl 3 rfl) ?_
  refine lv_iconst (v := 1) hx hb dL_law_391 (by decide) ?_
  refine lv_iadd hx hb dL_law_392 ?_
  refine va_sld hx hb hX hbl hbA hS (ix hL 1 (by decide) hi) dL_law_393 ?_
  refine lv_topi (fun a1 ea1 => ?_)
  refine lv_aload_n hx hb dL_law_394 rfl (lv_at hl 0 rfl) ?_
  refine lv_iload_n hx hb dL_law_395 rfl (lv_at hl 3 rfl) ?_
  refine lv_iconst (v := 2) hx hb dL_law_396 (by decide) ?_
  refine lv_iadd hx hb dL_law_397 ?_
  refine va_sld hx hb hX hbl hbA hS (ix hL 2 (by decide) hi) dL_law_398 ?_
  refine lv_topi (fun a2 ea2 => ?_)
  refine lv_aload_n hx hb dL_law_399 rfl (lv_at hl 0 rfl) ?_
  refine lv_iload_n hx hb dL_law_400 rfl (lv_at hl 3 rfl) ?_
  refine lv_iconst (v := 3) hx hb dL_law_401 (by decide) ?_
  refine lv_iadd hx hb dL_law_402 ?_
  refine va_sld hx hb hX hbl hbA hS (ix hL 3 (by decide) hi) dL_law_403 ?_
  refine lv_topi (fun a3 ea3 => ?_)
  refine call_L (Wd := LWd cc ad am) (σ := (σ, τ)) L0 hd (lens_x (D := D) (cc := cc) (ad := ad) (am := am) (σ := σ) (τ := τ)) (As := [.int a1, .int a2, .int a3]) (rest := []) (ct_X1_slip l D cc ad (dx_of hd) C σ a1 a2 a3 hRX) (cwV 3 hts gL_law_X1_slip rfl rfl rfl (by decide +kernel) ⟨Nat.le_of_ble_eq_true rfl, Nat.le_of_ble_eq_true rfl⟩) (va_recv hK ((lens_x (D := D) (cc := cc) (ad := ad) (am := am) (σ := σ) (τ := τ)).1 H hP) (ci := 1) (q0 := 0) rfl rfl) hP hS rfl hl.1 rfl (by simp [Value.category]) dL_law_404 (fun r1 u1 hp H locs hP hS => ?_)
  obtain ⟨er1, hu1⟩ := hp
  have hu1 := hu1.symm
  subst hu1
  have hP : va_P D vwCl (LWd cc ad am (σ, τ)) H := hP
  refine lv_aload_n hx hb dL_law_407 rfl (lv_at hl 2 rfl) ?_
  refine lv_aload_n hx hb dL_law_408 rfl (lv_at hl 0 rfl) ?_
  refine lv_iload_n hx hb dL_law_409 rfl (lv_at hl 3 rfl) ?_
  refine lv_iconst (v := 1) hx hb dL_law_410 (by decide) ?_
  refine lv_iadd hx hb dL_law_411 ?_
  refine va_sld hx hb hX hbl hbA hS (ix hL 1 (by decide) hi) dL_law_412 ?_
  refine lv_topi (fun b1 eb1 => ?_)
  have fb1 : a1 = b1 := ea1.trans eb1.symm
  subst fb1
  refine lv_aload_n hx hb dL_law_413 rfl (lv_at hl 0 rfl) ?_
  refine lv_iload_n hx hb dL_law_414 rfl (lv_at hl 3 rfl) ?_
  refine lv_iconst (v := 2) hx hb dL_law_415 (by decide) ?_
  refine lv_iadd hx hb dL_law_416 ?_
  refine va_sld hx hb hX hbl hbA hS (ix hL 2 (by decide) hi) dL_law_417 ?_
  refine lv_topi (fun b2 eb2 => ?_)
  have fb2 : a2 = b2 := ea2.trans eb2.symm
  subst fb2
  refine lv_aload_n hx hb dL_law_418 rfl (lv_at hl 0 rfl) ?_
  refine lv_iload_n hx hb dL_law_419 rfl (lv_at hl 3 rfl) ?_
  refine lv_iconst (v := 3) hx hb dL_law_420 (by decide) ?_
  refine lv_iadd hx hb dL_law_421 ?_
  refine va_sld hx hb hX hbl hbA hS (ix hL 3 (by decide) hi) dL_law_422 ?_
  refine lv_topi (fun b3 eb3 => ?_)
  have fb3 : a3 = b3 := ea3.trans eb3.symm
  subst fb3
  refine call_L (Wd := LWd cc ad am) (σ := (σ, τ)) L0 hd (lens_m (D := D) (cc := cc) (ad := ad) (am := am) (σ := σ) (τ := τ)) (As := [.int a1, .int a2, .int a3]) (rest := [.int r1]) (ct_X2_slip l D cc am (dm_of hd) C τ a1 a2 a3 hRM) (cwV 3 hts gL_law_X2_slip rfl rfl rfl (by decide +kernel) ⟨Nat.le_of_ble_eq_true rfl, Nat.le_of_ble_eq_true rfl⟩) (va_recv hK ((lens_m (D := D) (cc := cc) (ad := ad) (am := am) (σ := σ) (τ := τ)).1 H hP) (ci := 2) (q0 := 0) rfl rfl) hP hS rfl hl.1 rfl (by simp [Value.category]) dL_law_423 (fun r2 u2 hp H locs hP hS => ?_)
  obtain ⟨er2, hu2⟩ := hp
  have hP : va_P D vwCl (LWd cc ad am (σ, u2)) H := hP
  refine lv_icmp_eq (tgt := 1030) hx hb dL_law_426 (by decide) (fun c => ?_) (fun c => ?_)
  · exact kk C σ u2 hRX hu2 (Nat.le_succ _) H locs ls hP hS hl
  · exact absurd (er1.trans er2.symm) c
set_option maxHeartbeats 4000000 in
set_option maxRecDepth 100000 in
theorem law_c7 {p : Program} {l : Launch} {e : Env} {s : State} {m : MethodId} {below : List Frame} {meth : Method} {c : Code} {b L : Nat} {xs : Nat → Int32} {D : va_G} {cc : Nat → ClassId} {ad am : Nat → Nat} (L0 : Lc p s m meth c b L xs D cc) (hd : DA 58 (adm ad am) (fun q => s.heap.size ≤ q)) {C : CS} {σ : XS} {τ : MS} (hRX : RX C σ) (hRM : RM C τ) (hw : c_wr C ≤ 512) (hL : L ≤ 2560) {i : Nat} (hi : 5 * i + 5 ≤ L) (kk : ∀ (C2 : CS) (u1 : XS) (u2 : MS), RX C2 u1 → RM C2 u2 → c_wr C2 ≤ c_wr C + 1 → LAt p l e s m below meth c b D cc ad am u1 u2 1030 (nI (5 * i)) []) : LAt p l e s m below meth c b D cc ad am σ τ 431 (nI (5 * i)) [] := by
  obtain ⟨hx, hb, hr, hml, hown, hts, hX, hbl, hlocks, hK, hSX⟩ := id L0
  have hbA : ¬ (fun q : Nat => s.heap.size ≤ q) b := Nat.not_le.mpr hbl
  intro H locs ls hP hS hl
  refine lv_aload_n hx hb dL_law_431 rfl (lv_at hl 1 rfl) ?_
  refine lv_aload_n hx hb dL_law_432 rfl (lv_at hl 0 rfl) ?_
  refine lv_iload_n hx hb dL_law_433 rfl (lv_at hl 3 rfl) ?_
  refine lv_iconst (v := 1) hx hb dL_law_434 (by decide) ?_
  refine lv_iadd hx hb dL_law_435 ?_
  refine va_sld hx hb hX hbl hbA hS (ix hL 1 (by decide) hi) dL_law_436 ?_
  refine lv_topi (fun a1 ea1 => ?_)
  refine lv_aload_n hx hb dL_law_437 rfl (lv_at hl 0 rfl) ?_
  refine lv_iload_n hx hb dL_law_438 rfl (lv_at hl 3 rfl) ?_
  refine lv_iconst (v := 2) hx hb dL_law_439 (by decide) ?_
  refine lv_iadd hx hb dL_law_440 ?_
  refine va_sld hx hb hX hbl hbA hS (ix hL 2 (by decide) hi) dL_law_441 ?_
  refine lv_topi (fun a2 ea2 => ?_)
  refine lv_aload_n hx hb dL_law_442 rfl (lv_at hl 0 rfl) ?_
  refine lv_iload_n hx hb dL_law_443 rfl (lv_at hl 3 rfl) ?_
  refine lv_iconst (v := 3) hx hb dL_law_444 (by decide) ?_
  refine lv_iadd hx hb dL_law_445 ?_
  refine va_sld hx hb hX hbl hbA hS (ix hL 3 (by decide) hi) dL_law_446 ?_
  refine lv_topi (fun a3 ea3 => ?_)
  refine call_L (Wd := LWd cc ad am) (σ := (σ, τ)) L0 hd (lens_x (D := D) (cc := cc) (ad := ad) (am := am) (σ := σ) (τ := τ)) (As := [.int a1, .int a2, .int a3]) (rest := []) (ct_X1_tells l D cc ad (dx_of hd) C σ a1 a2 a3 hRX) (cwV 3 hts gL_law_X1_tells rfl rfl rfl (by decide +kernel) ⟨Nat.le_of_ble_eq_true rfl, Nat.le_of_ble_eq_true rfl⟩) (va_recv hK ((lens_x (D := D) (cc := cc) (ad := ad) (am := am) (σ := σ) (τ := τ)).1 H hP) (ci := 1) (q0 := 0) rfl rfl) hP hS rfl hl.1 rfl (by simp [Value.category]) dL_law_447 (fun r1 u1 hp H locs hP hS => ?_)
  obtain ⟨er1, hu1⟩ := hp
  have hu1 := hu1.symm
  subst hu1
  have hP : va_P D vwCl (LWd cc ad am (σ, τ)) H := hP
  refine lv_aload_n hx hb dL_law_450 rfl (lv_at hl 2 rfl) ?_
  refine lv_aload_n hx hb dL_law_451 rfl (lv_at hl 0 rfl) ?_
  refine lv_iload_n hx hb dL_law_452 rfl (lv_at hl 3 rfl) ?_
  refine lv_iconst (v := 1) hx hb dL_law_453 (by decide) ?_
  refine lv_iadd hx hb dL_law_454 ?_
  refine va_sld hx hb hX hbl hbA hS (ix hL 1 (by decide) hi) dL_law_455 ?_
  refine lv_topi (fun b1 eb1 => ?_)
  have fb1 : a1 = b1 := ea1.trans eb1.symm
  subst fb1
  refine lv_aload_n hx hb dL_law_456 rfl (lv_at hl 0 rfl) ?_
  refine lv_iload_n hx hb dL_law_457 rfl (lv_at hl 3 rfl) ?_
  refine lv_iconst (v := 2) hx hb dL_law_458 (by decide) ?_
  refine lv_iadd hx hb dL_law_459 ?_
  refine va_sld hx hb hX hbl hbA hS (ix hL 2 (by decide) hi) dL_law_460 ?_
  refine lv_topi (fun b2 eb2 => ?_)
  have fb2 : a2 = b2 := ea2.trans eb2.symm
  subst fb2
  refine lv_aload_n hx hb dL_law_461 rfl (lv_at hl 0 rfl) ?_
  refine lv_iload_n hx hb dL_law_462 rfl (lv_at hl 3 rfl) ?_
  refine lv_iconst (v := 3) hx hb dL_law_463 (by decide) ?_
  refine lv_iadd hx hb dL_law_464 ?_
  refine va_sld hx hb hX hbl hbA hS (ix hL 3 (by decide) hi) dL_law_465 ?_
  refine lv_topi (fun b3 eb3 => ?_)
  have fb3 : a3 = b3 := ea3.trans eb3.symm
  subst fb3
  refine call_L (Wd := LWd cc ad am) (σ := (σ, τ)) L0 hd (lens_m (D := D) (cc := cc) (ad := ad) (am := am) (σ := σ) (τ := τ)) (As := [.int a1, .int a2, .int a3]) (rest := [.int r1]) (ct_X2_tells l D cc am (dm_of hd) C τ a1 a2 a3 hRM) (cwV 3 hts gL_law_X2_tells rfl rfl rfl (by decide +kernel) ⟨Nat.le_of_ble_eq_true rfl, Nat.le_of_ble_eq_true rfl⟩) (va_recv hK ((lens_m (D := D) (cc := cc) (ad := ad) (am := am) (σ := σ) (τ := τ)).1 H hP) (ci := 2) (q0 := 0) rfl rfl) hP hS rfl hl.1 rfl (by simp [Value.category]) dL_law_466 (fun r2 u2 hp H locs hP hS => ?_)
  obtain ⟨er2, hu2⟩ := hp
  have hP : va_P D vwCl (LWd cc ad am (σ, u2)) H := hP
  refine lv_icmp_eq (tgt := 1030) hx hb dL_law_469 (by decide) (fun c => ?_) (fun c => ?_)
  · exact kk C σ u2 hRX hu2 (Nat.le_succ _) H locs ls hP hS hl
  · exact absurd (er1.trans er2.symm) c
set_option maxHeartbeats 4000000 in
set_option maxRecDepth 100000 in
theorem law_c8 {p : Program} {l : Launch} {e : Env} {s : State} {m : MethodId} {below : List Frame} {meth : Method} {c : Code} {b L : Nat} {xs : Nat → Int32} {D : va_G} {cc : Nat → ClassId} {ad am : Nat → Nat} (L0 : Lc p s m meth c b L xs D cc) (hd : DA 58 (adm ad am) (fun q => s.heap.size ≤ q)) {C : CS} {σ : XS} {τ : MS} (hRX : RX C σ) (hRM : RM C τ) (hw : c_wr C ≤ 512) (hL : L ≤ 2560) {i : Nat} (hi : 5 * i + 5 ≤ L) (kk : ∀ (C2 : CS) (u1 : XS) (u2 : MS), RX C2 u1 → RM C2 u2 → c_wr C2 ≤ c_wr C + 1 → LAt p l e s m below meth c b D cc ad am u1 u2 1030 (nI (5 * i)) []) : LAt p l e s m below meth c b D cc ad am σ τ 474 (nI (5 * i)) [] := by
  obtain ⟨hx, hb, hr, hml, hown, hts, hX, hbl, hlocks, hK, hSX⟩ := id L0
  have hbA : ¬ (fun q : Nat => s.heap.size ≤ q) b := Nat.not_le.mpr hbl
  intro H locs ls hP hS hl
  refine lv_aload_n hx hb dL_law_474 rfl (lv_at hl 1 rfl) ?_
  refine lv_aload_n hx hb dL_law_475 rfl (lv_at hl 0 rfl) ?_
  refine lv_iload_n hx hb dL_law_476 rfl (lv_at hl 3 rfl) ?_
  refine lv_iconst (v := 1) hx hb dL_law_477 (by decide) ?_
  refine lv_iadd hx hb dL_law_478 ?_
  refine va_sld hx hb hX hbl hbA hS (ix hL 1 (by decide) hi) dL_law_479 ?_
  refine lv_topi (fun a1 ea1 => ?_)
  refine lv_aload_n hx hb dL_law_480 rfl (lv_at hl 0 rfl) ?_
  refine lv_iload_n hx hb dL_law_481 rfl (lv_at hl 3 rfl) ?_
  refine lv_iconst (v := 2) hx hb dL_law_482 (by decide) ?_
  refine lv_iadd hx hb dL_law_483 ?_
  refine va_sld hx hb hX hbl hbA hS (ix hL 2 (by decide) hi) dL_law_484 ?_
  refine lv_topi (fun a2 ea2 => ?_)
  refine call_L (Wd := LWd cc ad am) (σ := (σ, τ)) L0 hd (lens_x (D := D) (cc := cc) (ad := ad) (am := am) (σ := σ) (τ := τ)) (As := [.int a1, .int a2]) (rest := []) (ct_X1_plan l D cc ad (dx_of hd) C σ a1 a2 hRX) (cwV 2 hts gL_law_X1_plan rfl rfl rfl (by decide +kernel) ⟨Nat.le_of_ble_eq_true rfl, Nat.le_of_ble_eq_true rfl⟩) (va_recv hK ((lens_x (D := D) (cc := cc) (ad := ad) (am := am) (σ := σ) (τ := τ)).1 H hP) (ci := 1) (q0 := 0) rfl rfl) hP hS rfl hl.1 rfl (by simp [Value.category]) dL_law_485 (fun r1 u1 hp H locs hP hS => ?_)
  obtain ⟨er1, hu1⟩ := hp
  have hP : va_P D vwCl (LWd cc ad am (u1, τ)) H := hP
  refine lv_aload_n hx hb dL_law_488 rfl (lv_at hl 2 rfl) ?_
  refine lv_aload_n hx hb dL_law_489 rfl (lv_at hl 0 rfl) ?_
  refine lv_iload_n hx hb dL_law_490 rfl (lv_at hl 3 rfl) ?_
  refine lv_iconst (v := 1) hx hb dL_law_491 (by decide) ?_
  refine lv_iadd hx hb dL_law_492 ?_
  refine va_sld hx hb hX hbl hbA hS (ix hL 1 (by decide) hi) dL_law_493 ?_
  refine lv_topi (fun b1 eb1 => ?_)
  have fb1 : a1 = b1 := ea1.trans eb1.symm
  subst fb1
  refine lv_aload_n hx hb dL_law_494 rfl (lv_at hl 0 rfl) ?_
  refine lv_iload_n hx hb dL_law_495 rfl (lv_at hl 3 rfl) ?_
  refine lv_iconst (v := 2) hx hb dL_law_496 (by decide) ?_
  refine lv_iadd hx hb dL_law_497 ?_
  refine va_sld hx hb hX hbl hbA hS (ix hL 2 (by decide) hi) dL_law_498 ?_
  refine lv_topi (fun b2 eb2 => ?_)
  have fb2 : a2 = b2 := ea2.trans eb2.symm
  subst fb2
  refine call_L (Wd := LWd cc ad am) (σ := (u1, τ)) L0 hd (lens_m (D := D) (cc := cc) (ad := ad) (am := am) (σ := u1) (τ := τ)) (As := [.int a1, .int a2]) (rest := [.int r1]) (ct_X2_plan l D cc am (dm_of hd) C τ a1 a2 hRM) (cwV 2 hts gL_law_X2_plan rfl rfl rfl (by decide +kernel) ⟨Nat.le_of_ble_eq_true rfl, Nat.le_of_ble_eq_true rfl⟩) (va_recv hK ((lens_m (D := D) (cc := cc) (ad := ad) (am := am) (σ := u1) (τ := τ)).1 H hP) (ci := 2) (q0 := 0) rfl rfl) hP hS rfl hl.1 rfl (by simp [Value.category]) dL_law_499 (fun r2 u2 hp H locs hP hS => ?_)
  obtain ⟨er2, hu2⟩ := hp
  have hP : va_P D vwCl (LWd cc ad am (u1, u2)) H := hP
  refine lv_icmp_eq (tgt := 1030) hx hb dL_law_502 (by decide) (fun c => ?_) (fun c => ?_)
  · exact kk (st_plan C a1 a2) u1 u2 hu1 hu2 (wr_plan C a1 a2) H locs ls hP hS hl
  · exact absurd (er1.trans er2.symm) c
set_option maxHeartbeats 4000000 in
set_option maxRecDepth 100000 in
theorem law_c9 {p : Program} {l : Launch} {e : Env} {s : State} {m : MethodId} {below : List Frame} {meth : Method} {c : Code} {b L : Nat} {xs : Nat → Int32} {D : va_G} {cc : Nat → ClassId} {ad am : Nat → Nat} (L0 : Lc p s m meth c b L xs D cc) (hd : DA 58 (adm ad am) (fun q => s.heap.size ≤ q)) {C : CS} {σ : XS} {τ : MS} (hRX : RX C σ) (hRM : RM C τ) (hw : c_wr C ≤ 512) (hL : L ≤ 2560) {i : Nat} (hi : 5 * i + 5 ≤ L) (kk : ∀ (C2 : CS) (u1 : XS) (u2 : MS), RX C2 u1 → RM C2 u2 → c_wr C2 ≤ c_wr C + 1 → LAt p l e s m below meth c b D cc ad am u1 u2 1030 (nI (5 * i)) []) : LAt p l e s m below meth c b D cc ad am σ τ 507 (nI (5 * i)) [] := by
  obtain ⟨hx, hb, hr, hml, hown, hts, hX, hbl, hlocks, hK, hSX⟩ := id L0
  have hbA : ¬ (fun q : Nat => s.heap.size ≤ q) b := Nat.not_le.mpr hbl
  intro H locs ls hP hS hl
  refine lv_aload_n hx hb dL_law_507 rfl (lv_at hl 1 rfl) ?_
  refine call_L (Wd := LWd cc ad am) (σ := (σ, τ)) L0 hd (lens_x (D := D) (cc := cc) (ad := ad) (am := am) (σ := σ) (τ := τ)) (As := []) (rest := []) (ct_X1_clear l D cc ad (dx_of hd) C σ hRX) (cwV 0 hts gL_law_X1_clear rfl rfl rfl (by decide +kernel) ⟨Nat.le_of_ble_eq_true rfl, Nat.le_of_ble_eq_true rfl⟩) (va_recv hK ((lens_x (D := D) (cc := cc) (ad := ad) (am := am) (σ := σ) (τ := τ)).1 H hP) (ci := 1) (q0 := 0) rfl rfl) hP hS rfl hl.1 rfl (by simp [Value.category]) dL_law_508 (fun r1 u1 hp H locs hP hS => ?_)
  obtain ⟨er1, hu1⟩ := hp
  have hP : va_P D vwCl (LWd cc ad am (u1, τ)) H := hP
  refine lv_aload_n hx hb dL_law_511 rfl (lv_at hl 2 rfl) ?_
  refine call_L (Wd := LWd cc ad am) (σ := (u1, τ)) L0 hd (lens_m (D := D) (cc := cc) (ad := ad) (am := am) (σ := u1) (τ := τ)) (As := []) (rest := [.int r1]) (ct_X2_clear l D cc am (dm_of hd) C τ hRM) (cwV 0 hts gL_law_X2_clear rfl rfl rfl (by decide +kernel) ⟨Nat.le_of_ble_eq_true rfl, Nat.le_of_ble_eq_true rfl⟩) (va_recv hK ((lens_m (D := D) (cc := cc) (ad := ad) (am := am) (σ := u1) (τ := τ)).1 H hP) (ci := 2) (q0 := 0) rfl rfl) hP hS rfl hl.1 rfl (by simp [Value.category]) dL_law_512 (fun r2 u2 hp H locs hP hS => ?_)
  obtain ⟨er2, hu2⟩ := hp
  have hP : va_P D vwCl (LWd cc ad am (u1, u2)) H := hP
  refine lv_icmp_eq (tgt := 1030) hx hb dL_law_515 (by decide) (fun c => ?_) (fun c => ?_)
  · exact kk (nx_clear C) u1 u2 hu1 hu2 (wr_clear C) H locs ls hP hS hl
  · exact absurd (er1.trans er2.symm) c
set_option maxHeartbeats 4000000 in
set_option maxRecDepth 100000 in
theorem law_c10 {p : Program} {l : Launch} {e : Env} {s : State} {m : MethodId} {below : List Frame} {meth : Method} {c : Code} {b L : Nat} {xs : Nat → Int32} {D : va_G} {cc : Nat → ClassId} {ad am : Nat → Nat} (L0 : Lc p s m meth c b L xs D cc) (hd : DA 58 (adm ad am) (fun q => s.heap.size ≤ q)) {C : CS} {σ : XS} {τ : MS} (hRX : RX C σ) (hRM : RM C τ) (hw : c_wr C ≤ 512) (hL : L ≤ 2560) {i : Nat} (hi : 5 * i + 5 ≤ L) (kk : ∀ (C2 : CS) (u1 : XS) (u2 : MS), RX C2 u1 → RM C2 u2 → c_wr C2 ≤ c_wr C + 1 → LAt p l e s m below meth c b D cc ad am u1 u2 1030 (nI (5 * i)) []) : LAt p l e s m below meth c b D cc ad am σ τ 520 (nI (5 * i)) [] := by
  obtain ⟨hx, hb, hr, hml, hown, hts, hX, hbl, hlocks, hK, hSX⟩ := id L0
  have hbA : ¬ (fun q : Nat => s.heap.size ≤ q) b := Nat.not_le.mpr hbl
  intro H locs ls hP hS hl
  refine lv_aload_n hx hb dL_law_520 rfl (lv_at hl 1 rfl) ?_
  refine lv_aload_n hx hb dL_law_521 rfl (lv_at hl 0 rfl) ?_
  refine lv_iload_n hx hb dL_law_522 rfl (lv_at hl 3 rfl) ?_
  refine lv_iconst (v := 1) hx hb dL_law_523 (by decide) ?_
  refine lv_iadd hx hb dL_law_524 ?_
  refine va_sld hx hb hX hbl hbA hS (ix hL 1 (by decide) hi) dL_law_525 ?_
  refine lv_topi (fun a1 ea1 => ?_)
  refine call_L (Wd := LWd cc ad am) (σ := (σ, τ)) L0 hd (lens_x (D := D) (cc := cc) (ad := ad) (am := am) (σ := σ) (τ := τ)) (As := [.int a1]) (rest := []) (ct_X1_placed l D cc ad (dx_of hd) C σ a1 hRX) (cwV 1 hts gL_law_X1_placed rfl rfl rfl (by decide +kernel) ⟨Nat.le_of_ble_eq_true rfl, Nat.le_of_ble_eq_true rfl⟩) (va_recv hK ((lens_x (D := D) (cc := cc) (ad := ad) (am := am) (σ := σ) (τ := τ)).1 H hP) (ci := 1) (q0 := 0) rfl rfl) hP hS rfl hl.1 rfl (by simp [Value.category]) dL_law_526 (fun r1 u1 hp H locs hP hS => ?_)
  obtain ⟨er1, hu1⟩ := hp
  have hu1 := hu1.symm
  subst hu1
  have hP : va_P D vwCl (LWd cc ad am (σ, τ)) H := hP
  refine lv_aload_n hx hb dL_law_529 rfl (lv_at hl 2 rfl) ?_
  refine lv_aload_n hx hb dL_law_530 rfl (lv_at hl 0 rfl) ?_
  refine lv_iload_n hx hb dL_law_531 rfl (lv_at hl 3 rfl) ?_
  refine lv_iconst (v := 1) hx hb dL_law_532 (by decide) ?_
  refine lv_iadd hx hb dL_law_533 ?_
  refine va_sld hx hb hX hbl hbA hS (ix hL 1 (by decide) hi) dL_law_534 ?_
  refine lv_topi (fun b1 eb1 => ?_)
  have fb1 : a1 = b1 := ea1.trans eb1.symm
  subst fb1
  refine call_L (Wd := LWd cc ad am) (σ := (σ, τ)) L0 hd (lens_m (D := D) (cc := cc) (ad := ad) (am := am) (σ := σ) (τ := τ)) (As := [.int a1]) (rest := [.int r1]) (ct_X2_placed l D cc am (dm_of hd) C τ a1 hRM) (cwV 1 hts gL_law_X2_placed rfl rfl rfl (by decide +kernel) ⟨Nat.le_of_ble_eq_true rfl, Nat.le_of_ble_eq_true rfl⟩) (va_recv hK ((lens_m (D := D) (cc := cc) (ad := ad) (am := am) (σ := σ) (τ := τ)).1 H hP) (ci := 2) (q0 := 0) rfl rfl) hP hS rfl hl.1 rfl (by simp [Value.category]) dL_law_535 (fun r2 u2 hp H locs hP hS => ?_)
  obtain ⟨er2, hu2⟩ := hp
  have hP : va_P D vwCl (LWd cc ad am (σ, u2)) H := hP
  refine lv_icmp_eq (tgt := 1030) hx hb dL_law_538 (by decide) (fun c => ?_) (fun c => ?_)
  · exact kk C σ u2 hRX hu2 (Nat.le_succ _) H locs ls hP hS hl
  · exact absurd (er1.trans er2.symm) c
set_option maxHeartbeats 4000000 in
set_option maxRecDepth 100000 in
theorem law_c11 {p : Program} {l : Launch} {e : Env} {s : State} {m : MethodId} {below : List Frame} {meth : Method} {c : Code} {b L : Nat} {xs : Nat → Int32} {D : va_G} {cc : Nat → ClassId} {ad am : Nat → Nat} (L0 : Lc p s m meth c b L xs D cc) (hd : DA 58 (adm ad am) (fun q => s.heap.size ≤ q)) {C : CS} {σ : XS} {τ : MS} (hRX : RX C σ) (hRM : RM C τ) (hw : c_wr C ≤ 512) (hL : L ≤ 2560) {i : Nat} (hi : 5 * i + 5 ≤ L) (kk : ∀ (C2 : CS) (u1 : XS) (u2 : MS), RX C2 u1 → RM C2 u2 → c_wr C2 ≤ c_wr C + 1 → LAt p l e s m below meth c b D cc ad am u1 u2 1030 (nI (5 * i)) []) : LAt p l e s m below meth c b D cc ad am σ τ 543 (nI (5 * i)) [] := by
  obtain ⟨hx, hb, hr, hml, hown, hts, hX, hbl, hlocks, hK, hSX⟩ := id L0
  have hbA : ¬ (fun q : Nat => s.heap.size ≤ q) b := Nat.not_le.mpr hbl
  intro H locs ls hP hS hl
  refine lv_aload_n hx hb dL_law_543 rfl (lv_at hl 1 rfl) ?_
  refine lv_aload_n hx hb dL_law_544 rfl (lv_at hl 0 rfl) ?_
  refine lv_iload_n hx hb dL_law_545 rfl (lv_at hl 3 rfl) ?_
  refine lv_iconst (v := 1) hx hb dL_law_546 (by decide) ?_
  refine lv_iadd hx hb dL_law_547 ?_
  refine va_sld hx hb hX hbl hbA hS (ix hL 1 (by decide) hi) dL_law_548 ?_
  refine lv_topi (fun a1 ea1 => ?_)
  refine call_L (Wd := LWd cc ad am) (σ := (σ, τ)) L0 hd (lens_x (D := D) (cc := cc) (ad := ad) (am := am) (σ := σ) (τ := τ)) (As := [.int a1]) (rest := []) (ct_X1_lines l D cc ad (dx_of hd) C σ a1 hRX) (cwV 1 hts gL_law_X1_lines rfl rfl rfl (by decide +kernel) ⟨Nat.le_of_ble_eq_true rfl, Nat.le_of_ble_eq_true rfl⟩) (va_recv hK ((lens_x (D := D) (cc := cc) (ad := ad) (am := am) (σ := σ) (τ := τ)).1 H hP) (ci := 1) (q0 := 0) rfl rfl) hP hS rfl hl.1 rfl (by simp [Value.category]) dL_law_549 (fun r1 u1 hp H locs hP hS => ?_)
  obtain ⟨er1, hu1⟩ := hp
  have hP : va_P D vwCl (LWd cc ad am (u1, τ)) H := hP
  refine lv_aload_n hx hb dL_law_552 rfl (lv_at hl 2 rfl) ?_
  refine lv_aload_n hx hb dL_law_553 rfl (lv_at hl 0 rfl) ?_
  refine lv_iload_n hx hb dL_law_554 rfl (lv_at hl 3 rfl) ?_
  refine lv_iconst (v := 1) hx hb dL_law_555 (by decide) ?_
  refine lv_iadd hx hb dL_law_556 ?_
  refine va_sld hx hb hX hbl hbA hS (ix hL 1 (by decide) hi) dL_law_557 ?_
  refine lv_topi (fun b1 eb1 => ?_)
  have fb1 : a1 = b1 := ea1.trans eb1.symm
  subst fb1
  refine call_L (Wd := LWd cc ad am) (σ := (u1, τ)) L0 hd (lens_m (D := D) (cc := cc) (ad := ad) (am := am) (σ := u1) (τ := τ)) (As := [.int a1]) (rest := [.int r1]) (ct_X2_lines l D cc am (dm_of hd) C τ a1 hRM) (cwV 1 hts gL_law_X2_lines rfl rfl rfl (by decide +kernel) ⟨Nat.le_of_ble_eq_true rfl, Nat.le_of_ble_eq_true rfl⟩) (va_recv hK ((lens_m (D := D) (cc := cc) (ad := ad) (am := am) (σ := u1) (τ := τ)).1 H hP) (ci := 2) (q0 := 0) rfl rfl) hP hS rfl hl.1 rfl (by simp [Value.category]) dL_law_558 (fun r2 u2 hp H locs hP hS => ?_)
  obtain ⟨er2, hu2⟩ := hp
  have hP : va_P D vwCl (LWd cc ad am (u1, u2)) H := hP
  refine lv_icmp_eq (tgt := 1030) hx hb dL_law_561 (by decide) (fun c => ?_) (fun c => ?_)
  · exact kk (st_lines C a1) u1 u2 hu1 hu2 (wr_lines C a1) H locs ls hP hS hl
  · exact absurd (er1.trans er2.symm) c
set_option maxHeartbeats 4000000 in
set_option maxRecDepth 100000 in
theorem law_c12 {p : Program} {l : Launch} {e : Env} {s : State} {m : MethodId} {below : List Frame} {meth : Method} {c : Code} {b L : Nat} {xs : Nat → Int32} {D : va_G} {cc : Nat → ClassId} {ad am : Nat → Nat} (L0 : Lc p s m meth c b L xs D cc) (hd : DA 58 (adm ad am) (fun q => s.heap.size ≤ q)) {C : CS} {σ : XS} {τ : MS} (hRX : RX C σ) (hRM : RM C τ) (hw : c_wr C ≤ 512) (hL : L ≤ 2560) {i : Nat} (hi : 5 * i + 5 ≤ L) (kk : ∀ (C2 : CS) (u1 : XS) (u2 : MS), RX C2 u1 → RM C2 u2 → c_wr C2 ≤ c_wr C + 1 → LAt p l e s m below meth c b D cc ad am u1 u2 1030 (nI (5 * i)) []) : LAt p l e s m below meth c b D cc ad am σ τ 566 (nI (5 * i)) [] := by
  obtain ⟨hx, hb, hr, hml, hown, hts, hX, hbl, hlocks, hK, hSX⟩ := id L0
  have hbA : ¬ (fun q : Nat => s.heap.size ≤ q) b := Nat.not_le.mpr hbl
  intro H locs ls hP hS hl
  refine lv_aload_n hx hb dL_law_566 rfl (lv_at hl 1 rfl) ?_
  refine call_L (Wd := LWd cc ad am) (σ := (σ, τ)) L0 hd (lens_x (D := D) (cc := cc) (ad := ad) (am := am) (σ := σ) (τ := τ)) (As := []) (rest := []) (ct_X1_pages l D cc ad (dx_of hd) C σ hRX) (cwV 0 hts gL_law_X1_pages rfl rfl rfl (by decide +kernel) ⟨Nat.le_of_ble_eq_true rfl, Nat.le_of_ble_eq_true rfl⟩) (va_recv hK ((lens_x (D := D) (cc := cc) (ad := ad) (am := am) (σ := σ) (τ := τ)).1 H hP) (ci := 1) (q0 := 0) rfl rfl) hP hS rfl hl.1 rfl (by simp [Value.category]) dL_law_567 (fun r1 u1 hp H locs hP hS => ?_)
  obtain ⟨er1, hu1⟩ := hp
  have hu1 := hu1.symm
  subst hu1
  have hP : va_P D vwCl (LWd cc ad am (σ, τ)) H := hP
  refine lv_aload_n hx hb dL_law_570 rfl (lv_at hl 2 rfl) ?_
  refine call_L (Wd := LWd cc ad am) (σ := (σ, τ)) L0 hd (lens_m (D := D) (cc := cc) (ad := ad) (am := am) (σ := σ) (τ := τ)) (As := []) (rest := [.int r1]) (ct_X2_pages l D cc am (dm_of hd) C τ hRM) (cwV 0 hts gL_law_X2_pages rfl rfl rfl (by decide +kernel) ⟨Nat.le_of_ble_eq_true rfl, Nat.le_of_ble_eq_true rfl⟩) (va_recv hK ((lens_m (D := D) (cc := cc) (ad := ad) (am := am) (σ := σ) (τ := τ)).1 H hP) (ci := 2) (q0 := 0) rfl rfl) hP hS rfl hl.1 rfl (by simp [Value.category]) dL_law_571 (fun r2 u2 hp H locs hP hS => ?_)
  obtain ⟨er2, hu2⟩ := hp
  have hP : va_P D vwCl (LWd cc ad am (σ, u2)) H := hP
  refine lv_icmp_eq (tgt := 1030) hx hb dL_law_574 (by decide) (fun c => ?_) (fun c => ?_)
  · exact kk C σ u2 hRX hu2 (Nat.le_succ _) H locs ls hP hS hl
  · exact absurd (er1.trans er2.symm) c
set_option maxHeartbeats 4000000 in
set_option maxRecDepth 100000 in
theorem law_c13 {p : Program} {l : Launch} {e : Env} {s : State} {m : MethodId} {below : List Frame} {meth : Method} {c : Code} {b L : Nat} {xs : Nat → Int32} {D : va_G} {cc : Nat → ClassId} {ad am : Nat → Nat} (L0 : Lc p s m meth c b L xs D cc) (hd : DA 58 (adm ad am) (fun q => s.heap.size ≤ q)) {C : CS} {σ : XS} {τ : MS} (hRX : RX C σ) (hRM : RM C τ) (hw : c_wr C ≤ 512) (hL : L ≤ 2560) {i : Nat} (hi : 5 * i + 5 ≤ L) (kk : ∀ (C2 : CS) (u1 : XS) (u2 : MS), RX C2 u1 → RM C2 u2 → c_wr C2 ≤ c_wr C + 1 → LAt p l e s m below meth c b D cc ad am u1 u2 1030 (nI (5 * i)) []) : LAt p l e s m below meth c b D cc ad am σ τ 579 (nI (5 * i)) [] := by
  obtain ⟨hx, hb, hr, hml, hown, hts, hX, hbl, hlocks, hK, hSX⟩ := id L0
  have hbA : ¬ (fun q : Nat => s.heap.size ≤ q) b := Nat.not_le.mpr hbl
  intro H locs ls hP hS hl
  refine lv_aload_n hx hb dL_law_579 rfl (lv_at hl 1 rfl) ?_
  refine lv_aload_n hx hb dL_law_580 rfl (lv_at hl 0 rfl) ?_
  refine lv_iload_n hx hb dL_law_581 rfl (lv_at hl 3 rfl) ?_
  refine lv_iconst (v := 1) hx hb dL_law_582 (by decide) ?_
  refine lv_iadd hx hb dL_law_583 ?_
  refine va_sld hx hb hX hbl hbA hS (ix hL 1 (by decide) hi) dL_law_584 ?_
  refine lv_topi (fun a1 ea1 => ?_)
  refine lv_aload_n hx hb dL_law_585 rfl (lv_at hl 0 rfl) ?_
  refine lv_iload_n hx hb dL_law_586 rfl (lv_at hl 3 rfl) ?_
  refine lv_iconst (v := 2) hx hb dL_law_587 (by decide) ?_
  refine lv_iadd hx hb dL_law_588 ?_
  refine va_sld hx hb hX hbl hbA hS (ix hL 2 (by decide) hi) dL_law_589 ?_
  refine lv_if_eq (tgt := 597) hx hb dL_law_590 (by decide) (fun c1 => ?_) (fun c1 => ?_)
  · refine lv_iconst (v := 0) hx hb dL_law_597 (by decide) ?_
    refine call_L (Wd := LWd cc ad am) (σ := (σ, τ)) L0 hd (lens_x (D := D) (cc := cc) (ad := ad) (am := am) (σ := σ) (τ := τ)) (As := [.int a1, .int 0]) (rest := []) (ct_X1_page l D cc ad (dx_of hd) C σ a1 0 hRX) (cwV 2 hts gL_law_X1_page rfl rfl rfl (by decide +kernel) ⟨Nat.le_of_ble_eq_true rfl, Nat.le_of_ble_eq_true rfl⟩) (va_recv hK ((lens_x (D := D) (cc := cc) (ad := ad) (am := am) (σ := σ) (τ := τ)).1 H hP) (ci := 1) (q0 := 0) rfl rfl) hP hS rfl hl.1 rfl (by simp [Value.category]) dL_law_598 (fun r1 u1 hp H locs hP hS => ?_)
    obtain ⟨er1, hu1⟩ := hp
    have hu1 := hu1.symm
    subst hu1
    have hP : va_P D vwCl (LWd cc ad am (σ, τ)) H := hP
    refine lv_aload_n hx hb dL_law_601 rfl (lv_at hl 2 rfl) ?_
    refine lv_aload_n hx hb dL_law_602 rfl (lv_at hl 0 rfl) ?_
    refine lv_iload_n hx hb dL_law_603 rfl (lv_at hl 3 rfl) ?_
    refine lv_iconst (v := 1) hx hb dL_law_604 (by decide) ?_
    refine lv_iadd hx hb dL_law_605 ?_
    refine va_sld hx hb hX hbl hbA hS (ix hL 1 (by decide) hi) dL_law_606 ?_
    refine lv_topi (fun b1 eb1 => ?_)
    have fb1 : a1 = b1 := ea1.trans eb1.symm
    subst fb1
    refine lv_aload_n hx hb dL_law_607 rfl (lv_at hl 0 rfl) ?_
    refine lv_iload_n hx hb dL_law_608 rfl (lv_at hl 3 rfl) ?_
    refine lv_iconst (v := 2) hx hb dL_law_609 (by decide) ?_
    refine lv_iadd hx hb dL_law_610 ?_
    refine va_sld hx hb hX hbl hbA hS (ix hL 2 (by decide) hi) dL_law_611 ?_
    refine lv_if_eq (tgt := 619) hx hb dL_law_612 (by decide) (fun c2 => ?_) (fun c2 => ?_)
    · refine lv_iconst (v := 0) hx hb dL_law_619 (by decide) ?_
      refine call_L (Wd := LWd cc ad am) (σ := (σ, τ)) L0 hd (lens_m (D := D) (cc := cc) (ad := ad) (am := am) (σ := σ) (τ := τ)) (As := [.int a1, .int 0]) (rest := [.int r1]) (ct_X2_page l D cc am (dm_of hd) C τ a1 0 hRM) (cwV 2 hts gL_law_X2_page rfl rfl rfl (by decide +kernel) ⟨Nat.le_of_ble_eq_true rfl, Nat.le_of_ble_eq_true rfl⟩) (va_recv hK ((lens_m (D := D) (cc := cc) (ad := ad) (am := am) (σ := σ) (τ := τ)).1 H hP) (ci := 2) (q0 := 0) rfl rfl) hP hS rfl hl.1 rfl (by simp [Value.category]) dL_law_620 (fun r2 u2 hp H locs hP hS => ?_)
      obtain ⟨er2, hu2⟩ := hp
      have hP : va_P D vwCl (LWd cc ad am (σ, u2)) H := hP
      refine lv_icmp_eq (tgt := 1030) hx hb dL_law_623 (by decide) (fun c => ?_) (fun c => ?_)
      · exact kk C σ u2 hRX hu2 (Nat.le_succ _) H locs ls hP hS hl
      · exact absurd (er1.trans er2.symm) c
    · exact absurd c1 c2
  · refine lv_iconst (v := 1) hx hb dL_law_593 (by decide) ?_
    refine lv_goto (tgt := 598) hx hb dL_law_594 (by decide) ?_
    refine call_L (Wd := LWd cc ad am) (σ := (σ, τ)) L0 hd (lens_x (D := D) (cc := cc) (ad := ad) (am := am) (σ := σ) (τ := τ)) (As := [.int a1, .int 1]) (rest := []) (ct_X1_page l D cc ad (dx_of hd) C σ a1 1 hRX) (cwV 2 hts gL_law_X1_page rfl rfl rfl (by decide +kernel) ⟨Nat.le_of_ble_eq_true rfl, Nat.le_of_ble_eq_true rfl⟩) (va_recv hK ((lens_x (D := D) (cc := cc) (ad := ad) (am := am) (σ := σ) (τ := τ)).1 H hP) (ci := 1) (q0 := 0) rfl rfl) hP hS rfl hl.1 rfl (by simp [Value.category]) dL_law_598 (fun r1 u1 hp H locs hP hS => ?_)
    obtain ⟨er1, hu1⟩ := hp
    have hu1 := hu1.symm
    subst hu1
    have hP : va_P D vwCl (LWd cc ad am (σ, τ)) H := hP
    refine lv_aload_n hx hb dL_law_601 rfl (lv_at hl 2 rfl) ?_
    refine lv_aload_n hx hb dL_law_602 rfl (lv_at hl 0 rfl) ?_
    refine lv_iload_n hx hb dL_law_603 rfl (lv_at hl 3 rfl) ?_
    refine lv_iconst (v := 1) hx hb dL_law_604 (by decide) ?_
    refine lv_iadd hx hb dL_law_605 ?_
    refine va_sld hx hb hX hbl hbA hS (ix hL 1 (by decide) hi) dL_law_606 ?_
    refine lv_topi (fun b1 eb1 => ?_)
    have fb1 : a1 = b1 := ea1.trans eb1.symm
    subst fb1
    refine lv_aload_n hx hb dL_law_607 rfl (lv_at hl 0 rfl) ?_
    refine lv_iload_n hx hb dL_law_608 rfl (lv_at hl 3 rfl) ?_
    refine lv_iconst (v := 2) hx hb dL_law_609 (by decide) ?_
    refine lv_iadd hx hb dL_law_610 ?_
    refine va_sld hx hb hX hbl hbA hS (ix hL 2 (by decide) hi) dL_law_611 ?_
    refine lv_if_eq (tgt := 619) hx hb dL_law_612 (by decide) (fun c2 => ?_) (fun c2 => ?_)
    · exact absurd c2 c1
    · refine lv_iconst (v := 1) hx hb dL_law_615 (by decide) ?_
      refine lv_goto (tgt := 620) hx hb dL_law_616 (by decide) ?_
      refine call_L (Wd := LWd cc ad am) (σ := (σ, τ)) L0 hd (lens_m (D := D) (cc := cc) (ad := ad) (am := am) (σ := σ) (τ := τ)) (As := [.int a1, .int 1]) (rest := [.int r1]) (ct_X2_page l D cc am (dm_of hd) C τ a1 1 hRM) (cwV 2 hts gL_law_X2_page rfl rfl rfl (by decide +kernel) ⟨Nat.le_of_ble_eq_true rfl, Nat.le_of_ble_eq_true rfl⟩) (va_recv hK ((lens_m (D := D) (cc := cc) (ad := ad) (am := am) (σ := σ) (τ := τ)).1 H hP) (ci := 2) (q0 := 0) rfl rfl) hP hS rfl hl.1 rfl (by simp [Value.category]) dL_law_620 (fun r2 u2 hp H locs hP hS => ?_)
      obtain ⟨er2, hu2⟩ := hp
      have hP : va_P D vwCl (LWd cc ad am (σ, u2)) H := hP
      refine lv_icmp_eq (tgt := 1030) hx hb dL_law_623 (by decide) (fun c => ?_) (fun c => ?_)
      · exact kk C σ u2 hRX hu2 (Nat.le_succ _) H locs ls hP hS hl
      · exact absurd (er1.trans er2.symm) c
set_option maxHeartbeats 4000000 in
set_option maxRecDepth 100000 in
theorem law_c14 {p : Program} {l : Launch} {e : Env} {s : State} {m : MethodId} {below : List Frame} {meth : Method} {c : Code} {b L : Nat} {xs : Nat → Int32} {D : va_G} {cc : Nat → ClassId} {ad am : Nat → Nat} (L0 : Lc p s m meth c b L xs D cc) (hd : DA 58 (adm ad am) (fun q => s.heap.size ≤ q)) {C : CS} {σ : XS} {τ : MS} (hRX : RX C σ) (hRM : RM C τ) (hw : c_wr C ≤ 512) (hL : L ≤ 2560) {i : Nat} (hi : 5 * i + 5 ≤ L) (kk : ∀ (C2 : CS) (u1 : XS) (u2 : MS), RX C2 u1 → RM C2 u2 → c_wr C2 ≤ c_wr C + 1 → LAt p l e s m below meth c b D cc ad am u1 u2 1030 (nI (5 * i)) []) : LAt p l e s m below meth c b D cc ad am σ τ 628 (nI (5 * i)) [] := by
  obtain ⟨hx, hb, hr, hml, hown, hts, hX, hbl, hlocks, hK, hSX⟩ := id L0
  have hbA : ¬ (fun q : Nat => s.heap.size ≤ q) b := Nat.not_le.mpr hbl
  intro H locs ls hP hS hl
  refine lv_aload_n hx hb dL_law_628 rfl (lv_at hl 1 rfl) ?_
  refine lv_aload_n hx hb dL_law_629 rfl (lv_at hl 0 rfl) ?_
  refine lv_iload_n hx hb dL_law_630 rfl (lv_at hl 3 rfl) ?_
  refine lv_iconst (v := 1) hx hb dL_law_631 (by decide) ?_
  refine lv_iadd hx hb dL_law_632 ?_
  refine va_sld hx hb hX hbl hbA hS (ix hL 1 (by decide) hi) dL_law_633 ?_
  refine lv_topi (fun a1 ea1 => ?_)
  refine lv_aload_n hx hb dL_law_634 rfl (lv_at hl 0 rfl) ?_
  refine lv_iload_n hx hb dL_law_635 rfl (lv_at hl 3 rfl) ?_
  refine lv_iconst (v := 2) hx hb dL_law_636 (by decide) ?_
  refine lv_iadd hx hb dL_law_637 ?_
  refine va_sld hx hb hX hbl hbA hS (ix hL 2 (by decide) hi) dL_law_638 ?_
  refine lv_topi (fun a2 ea2 => ?_)
  refine call_L (Wd := LWd cc ad am) (σ := (σ, τ)) L0 hd (lens_x (D := D) (cc := cc) (ad := ad) (am := am) (σ := σ) (τ := τ)) (As := [.int a1, .int a2]) (rest := []) (ct_X1_sheet l D cc ad (dx_of hd) C σ a1 a2 hRX) (cwV 2 hts gL_law_X1_sheet rfl rfl rfl (by decide +kernel) ⟨Nat.le_of_ble_eq_true rfl, Nat.le_of_ble_eq_true rfl⟩) (va_recv hK ((lens_x (D := D) (cc := cc) (ad := ad) (am := am) (σ := σ) (τ := τ)).1 H hP) (ci := 1) (q0 := 0) rfl rfl) hP hS rfl hl.1 rfl (by simp [Value.category]) dL_law_639 (fun r1 u1 hp H locs hP hS => ?_)
  obtain ⟨er1, hu1⟩ := hp
  have hu1 := hu1.symm
  subst hu1
  have hP : va_P D vwCl (LWd cc ad am (σ, τ)) H := hP
  refine lv_aload_n hx hb dL_law_642 rfl (lv_at hl 2 rfl) ?_
  refine lv_aload_n hx hb dL_law_643 rfl (lv_at hl 0 rfl) ?_
  refine lv_iload_n hx hb dL_law_644 rfl (lv_at hl 3 rfl) ?_
  refine lv_iconst (v := 1) hx hb dL_law_645 (by decide) ?_
  refine lv_iadd hx hb dL_law_646 ?_
  refine va_sld hx hb hX hbl hbA hS (ix hL 1 (by decide) hi) dL_law_647 ?_
  refine lv_topi (fun b1 eb1 => ?_)
  have fb1 : a1 = b1 := ea1.trans eb1.symm
  subst fb1
  refine lv_aload_n hx hb dL_law_648 rfl (lv_at hl 0 rfl) ?_
  refine lv_iload_n hx hb dL_law_649 rfl (lv_at hl 3 rfl) ?_
  refine lv_iconst (v := 2) hx hb dL_law_650 (by decide) ?_
  refine lv_iadd hx hb dL_law_651 ?_
  refine va_sld hx hb hX hbl hbA hS (ix hL 2 (by decide) hi) dL_law_652 ?_
  refine lv_topi (fun b2 eb2 => ?_)
  have fb2 : a2 = b2 := ea2.trans eb2.symm
  subst fb2
  refine call_L (Wd := LWd cc ad am) (σ := (σ, τ)) L0 hd (lens_m (D := D) (cc := cc) (ad := ad) (am := am) (σ := σ) (τ := τ)) (As := [.int a1, .int a2]) (rest := [.int r1]) (ct_X2_sheet l D cc am (dm_of hd) C τ a1 a2 hRM) (cwV 2 hts gL_law_X2_sheet rfl rfl rfl (by decide +kernel) ⟨Nat.le_of_ble_eq_true rfl, Nat.le_of_ble_eq_true rfl⟩) (va_recv hK ((lens_m (D := D) (cc := cc) (ad := ad) (am := am) (σ := σ) (τ := τ)).1 H hP) (ci := 2) (q0 := 0) rfl rfl) hP hS rfl hl.1 rfl (by simp [Value.category]) dL_law_653 (fun r2 u2 hp H locs hP hS => ?_)
  obtain ⟨er2, hu2⟩ := hp
  have hP : va_P D vwCl (LWd cc ad am (σ, u2)) H := hP
  refine lv_icmp_eq (tgt := 1030) hx hb dL_law_656 (by decide) (fun c => ?_) (fun c => ?_)
  · exact kk C σ u2 hRX hu2 (Nat.le_succ _) H locs ls hP hS hl
  · exact absurd (er1.trans er2.symm) c
set_option maxHeartbeats 4000000 in
set_option maxRecDepth 100000 in
theorem law_c15 {p : Program} {l : Launch} {e : Env} {s : State} {m : MethodId} {below : List Frame} {meth : Method} {c : Code} {b L : Nat} {xs : Nat → Int32} {D : va_G} {cc : Nat → ClassId} {ad am : Nat → Nat} (L0 : Lc p s m meth c b L xs D cc) (hd : DA 58 (adm ad am) (fun q => s.heap.size ≤ q)) {C : CS} {σ : XS} {τ : MS} (hRX : RX C σ) (hRM : RM C τ) (hw : c_wr C ≤ 512) (hL : L ≤ 2560) {i : Nat} (hi : 5 * i + 5 ≤ L) (kk : ∀ (C2 : CS) (u1 : XS) (u2 : MS), RX C2 u1 → RM C2 u2 → c_wr C2 ≤ c_wr C + 1 → LAt p l e s m below meth c b D cc ad am u1 u2 1030 (nI (5 * i)) []) : LAt p l e s m below meth c b D cc ad am σ τ 661 (nI (5 * i)) [] := by
  obtain ⟨hx, hb, hr, hml, hown, hts, hX, hbl, hlocks, hK, hSX⟩ := id L0
  have hbA : ¬ (fun q : Nat => s.heap.size ≤ q) b := Nat.not_le.mpr hbl
  intro H locs ls hP hS hl
  refine lv_aload_n hx hb dL_law_661 rfl (lv_at hl 1 rfl) ?_
  refine lv_aload_n hx hb dL_law_662 rfl (lv_at hl 0 rfl) ?_
  refine lv_iload_n hx hb dL_law_663 rfl (lv_at hl 3 rfl) ?_
  refine lv_iconst (v := 1) hx hb dL_law_664 (by decide) ?_
  refine lv_iadd hx hb dL_law_665 ?_
  refine va_sld hx hb hX hbl hbA hS (ix hL 1 (by decide) hi) dL_law_666 ?_
  refine lv_topi (fun a1 ea1 => ?_)
  refine lv_aload_n hx hb dL_law_667 rfl (lv_at hl 0 rfl) ?_
  refine lv_iload_n hx hb dL_law_668 rfl (lv_at hl 3 rfl) ?_
  refine lv_iconst (v := 2) hx hb dL_law_669 (by decide) ?_
  refine lv_iadd hx hb dL_law_670 ?_
  refine va_sld hx hb hX hbl hbA hS (ix hL 2 (by decide) hi) dL_law_671 ?_
  refine lv_topi (fun a2 ea2 => ?_)
  refine call_L (Wd := LWd cc ad am) (σ := (σ, τ)) L0 hd (lens_x (D := D) (cc := cc) (ad := ad) (am := am) (σ := σ) (τ := τ)) (As := [.int a1, .int a2]) (rest := []) (ct_X1_answer l D cc ad (dx_of hd) C σ a1 a2 hRX) (cwV 2 hts gL_law_X1_answer rfl rfl rfl (by decide +kernel) ⟨Nat.le_of_ble_eq_true rfl, Nat.le_of_ble_eq_true rfl⟩) (va_recv hK ((lens_x (D := D) (cc := cc) (ad := ad) (am := am) (σ := σ) (τ := τ)).1 H hP) (ci := 1) (q0 := 0) rfl rfl) hP hS rfl hl.1 rfl (by simp [Value.category]) dL_law_672 (fun r1 u1 hp H locs hP hS => ?_)
  obtain ⟨er1, hu1⟩ := hp
  have hu1 := hu1.symm
  subst hu1
  have hP : va_P D vwCl (LWd cc ad am (σ, τ)) H := hP
  refine lv_aload_n hx hb dL_law_675 rfl (lv_at hl 2 rfl) ?_
  refine lv_aload_n hx hb dL_law_676 rfl (lv_at hl 0 rfl) ?_
  refine lv_iload_n hx hb dL_law_677 rfl (lv_at hl 3 rfl) ?_
  refine lv_iconst (v := 1) hx hb dL_law_678 (by decide) ?_
  refine lv_iadd hx hb dL_law_679 ?_
  refine va_sld hx hb hX hbl hbA hS (ix hL 1 (by decide) hi) dL_law_680 ?_
  refine lv_topi (fun b1 eb1 => ?_)
  have fb1 : a1 = b1 := ea1.trans eb1.symm
  subst fb1
  refine lv_aload_n hx hb dL_law_681 rfl (lv_at hl 0 rfl) ?_
  refine lv_iload_n hx hb dL_law_682 rfl (lv_at hl 3 rfl) ?_
  refine lv_iconst (v := 2) hx hb dL_law_683 (by decide) ?_
  refine lv_iadd hx hb dL_law_684 ?_
  refine va_sld hx hb hX hbl hbA hS (ix hL 2 (by decide) hi) dL_law_685 ?_
  refine lv_topi (fun b2 eb2 => ?_)
  have fb2 : a2 = b2 := ea2.trans eb2.symm
  subst fb2
  refine call_L (Wd := LWd cc ad am) (σ := (σ, τ)) L0 hd (lens_m (D := D) (cc := cc) (ad := ad) (am := am) (σ := σ) (τ := τ)) (As := [.int a1, .int a2]) (rest := [.int r1]) (ct_X2_answer l D cc am (dm_of hd) C τ a1 a2 hRM) (cwV 2 hts gL_law_X2_answer rfl rfl rfl (by decide +kernel) ⟨Nat.le_of_ble_eq_true rfl, Nat.le_of_ble_eq_true rfl⟩) (va_recv hK ((lens_m (D := D) (cc := cc) (ad := ad) (am := am) (σ := σ) (τ := τ)).1 H hP) (ci := 2) (q0 := 0) rfl rfl) hP hS rfl hl.1 rfl (by simp [Value.category]) dL_law_686 (fun r2 u2 hp H locs hP hS => ?_)
  obtain ⟨er2, hu2⟩ := hp
  have hP : va_P D vwCl (LWd cc ad am (σ, u2)) H := hP
  refine lv_icmp_eq (tgt := 1030) hx hb dL_law_689 (by decide) (fun c => ?_) (fun c => ?_)
  · exact kk C σ u2 hRX hu2 (Nat.le_succ _) H locs ls hP hS hl
  · exact absurd (er1.trans er2.symm) c
set_option maxHeartbeats 4000000 in
set_option maxRecDepth 100000 in
theorem law_c16 {p : Program} {l : Launch} {e : Env} {s : State} {m : MethodId} {below : List Frame} {meth : Method} {c : Code} {b L : Nat} {xs : Nat → Int32} {D : va_G} {cc : Nat → ClassId} {ad am : Nat → Nat} (L0 : Lc p s m meth c b L xs D cc) (hd : DA 58 (adm ad am) (fun q => s.heap.size ≤ q)) {C : CS} {σ : XS} {τ : MS} (hRX : RX C σ) (hRM : RM C τ) (hw : c_wr C ≤ 512) (hL : L ≤ 2560) {i : Nat} (hi : 5 * i + 5 ≤ L) (kk : ∀ (C2 : CS) (u1 : XS) (u2 : MS), RX C2 u1 → RM C2 u2 → c_wr C2 ≤ c_wr C + 1 → LAt p l e s m below meth c b D cc ad am u1 u2 1030 (nI (5 * i)) []) : LAt p l e s m below meth c b D cc ad am σ τ 694 (nI (5 * i)) [] := by
  obtain ⟨hx, hb, hr, hml, hown, hts, hX, hbl, hlocks, hK, hSX⟩ := id L0
  have hbA : ¬ (fun q : Nat => s.heap.size ≤ q) b := Nat.not_le.mpr hbl
  intro H locs ls hP hS hl
  refine lv_aload_n hx hb dL_law_694 rfl (lv_at hl 1 rfl) ?_
  refine lv_aload_n hx hb dL_law_695 rfl (lv_at hl 0 rfl) ?_
  refine lv_iload_n hx hb dL_law_696 rfl (lv_at hl 3 rfl) ?_
  refine lv_iconst (v := 1) hx hb dL_law_697 (by decide) ?_
  refine lv_iadd hx hb dL_law_698 ?_
  refine va_sld hx hb hX hbl hbA hS (ix hL 1 (by decide) hi) dL_law_699 ?_
  refine lv_topi (fun a1 ea1 => ?_)
  refine call_L (Wd := LWd cc ad am) (σ := (σ, τ)) L0 hd (lens_x (D := D) (cc := cc) (ad := ad) (am := am) (σ := σ) (τ := τ)) (As := [.int a1]) (rest := []) (ct_X1_code l D cc ad (dx_of hd) C σ a1 hRX) (cwV 1 hts gL_law_X1_code rfl rfl rfl (by decide +kernel) ⟨Nat.le_of_ble_eq_true rfl, Nat.le_of_ble_eq_true rfl⟩) (va_recv hK ((lens_x (D := D) (cc := cc) (ad := ad) (am := am) (σ := σ) (τ := τ)).1 H hP) (ci := 1) (q0 := 0) rfl rfl) hP hS rfl hl.1 rfl (by simp [Value.category]) dL_law_700 (fun r1 u1 hp H locs hP hS => ?_)
  obtain ⟨er1, hu1⟩ := hp
  have hu1 := hu1.symm
  subst hu1
  have hP : va_P D vwCl (LWd cc ad am (σ, τ)) H := hP
  refine lv_aload_n hx hb dL_law_703 rfl (lv_at hl 2 rfl) ?_
  refine lv_aload_n hx hb dL_law_704 rfl (lv_at hl 0 rfl) ?_
  refine lv_iload_n hx hb dL_law_705 rfl (lv_at hl 3 rfl) ?_
  refine lv_iconst (v := 1) hx hb dL_law_706 (by decide) ?_
  refine lv_iadd hx hb dL_law_707 ?_
  refine va_sld hx hb hX hbl hbA hS (ix hL 1 (by decide) hi) dL_law_708 ?_
  refine lv_topi (fun b1 eb1 => ?_)
  have fb1 : a1 = b1 := ea1.trans eb1.symm
  subst fb1
  refine call_L (Wd := LWd cc ad am) (σ := (σ, τ)) L0 hd (lens_m (D := D) (cc := cc) (ad := ad) (am := am) (σ := σ) (τ := τ)) (As := [.int a1]) (rest := [.int r1]) (ct_X2_code l D cc am (dm_of hd) C τ a1 hRM) (cwV 1 hts gL_law_X2_code rfl rfl rfl (by decide +kernel) ⟨Nat.le_of_ble_eq_true rfl, Nat.le_of_ble_eq_true rfl⟩) (va_recv hK ((lens_m (D := D) (cc := cc) (ad := ad) (am := am) (σ := σ) (τ := τ)).1 H hP) (ci := 2) (q0 := 0) rfl rfl) hP hS rfl hl.1 rfl (by simp [Value.category]) dL_law_709 (fun r2 u2 hp H locs hP hS => ?_)
  obtain ⟨er2, hu2⟩ := hp
  have hP : va_P D vwCl (LWd cc ad am (σ, u2)) H := hP
  refine lv_icmp_eq (tgt := 1030) hx hb dL_law_712 (by decide) (fun c => ?_) (fun c => ?_)
  · exact kk C σ u2 hRX hu2 (Nat.le_succ _) H locs ls hP hS hl
  · exact absurd (er1.trans er2.symm) c
set_option maxHeartbeats 4000000 in
set_option maxRecDepth 100000 in
theorem law_c17 {p : Program} {l : Launch} {e : Env} {s : State} {m : MethodId} {below : List Frame} {meth : Method} {c : Code} {b L : Nat} {xs : Nat → Int32} {D : va_G} {cc : Nat → ClassId} {ad am : Nat → Nat} (L0 : Lc p s m meth c b L xs D cc) (hd : DA 58 (adm ad am) (fun q => s.heap.size ≤ q)) {C : CS} {σ : XS} {τ : MS} (hRX : RX C σ) (hRM : RM C τ) (hw : c_wr C ≤ 512) (hL : L ≤ 2560) {i : Nat} (hi : 5 * i + 5 ≤ L) (kk : ∀ (C2 : CS) (u1 : XS) (u2 : MS), RX C2 u1 → RM C2 u2 → c_wr C2 ≤ c_wr C + 1 → LAt p l e s m below meth c b D cc ad am u1 u2 1030 (nI (5 * i)) []) : LAt p l e s m below meth c b D cc ad am σ τ 717 (nI (5 * i)) [] := by
  obtain ⟨hx, hb, hr, hml, hown, hts, hX, hbl, hlocks, hK, hSX⟩ := id L0
  have hbA : ¬ (fun q : Nat => s.heap.size ≤ q) b := Nat.not_le.mpr hbl
  intro H locs ls hP hS hl
  refine lv_aload_n hx hb dL_law_717 rfl (lv_at hl 1 rfl) ?_
  refine lv_aload_n hx hb dL_law_718 rfl (lv_at hl 0 rfl) ?_
  refine lv_iload_n hx hb dL_law_719 rfl (lv_at hl 3 rfl) ?_
  refine lv_iconst (v := 1) hx hb dL_law_720 (by decide) ?_
  refine lv_iadd hx hb dL_law_721 ?_
  refine va_sld hx hb hX hbl hbA hS (ix hL 1 (by decide) hi) dL_law_722 ?_
  refine lv_topi (fun a1 ea1 => ?_)
  refine lv_aload_n hx hb dL_law_723 rfl (lv_at hl 0 rfl) ?_
  refine lv_iload_n hx hb dL_law_724 rfl (lv_at hl 3 rfl) ?_
  refine lv_iconst (v := 2) hx hb dL_law_725 (by decide) ?_
  refine lv_iadd hx hb dL_law_726 ?_
  refine va_sld hx hb hX hbl hbA hS (ix hL 2 (by decide) hi) dL_law_727 ?_
  refine lv_topi (fun a2 ea2 => ?_)
  refine call_L (Wd := LWd cc ad am) (σ := (σ, τ)) L0 hd (lens_x (D := D) (cc := cc) (ad := ad) (am := am) (σ := σ) (τ := τ)) (As := [.int a1, .int a2]) (rest := []) (ct_X1_shared l D cc ad (dx_of hd) C σ a1 a2 hRX) (cwV 2 hts gL_law_X1_shared rfl rfl rfl (by decide +kernel) ⟨Nat.le_of_ble_eq_true rfl, Nat.le_of_ble_eq_true rfl⟩) (va_recv hK ((lens_x (D := D) (cc := cc) (ad := ad) (am := am) (σ := σ) (τ := τ)).1 H hP) (ci := 1) (q0 := 0) rfl rfl) hP hS rfl hl.1 rfl (by simp [Value.category]) dL_law_728 (fun r1 u1 hp H locs hP hS => ?_)
  obtain ⟨er1, hu1⟩ := hp
  have hu1 := hu1.symm
  subst hu1
  have hP : va_P D vwCl (LWd cc ad am (σ, τ)) H := hP
  refine lv_aload_n hx hb dL_law_731 rfl (lv_at hl 2 rfl) ?_
  refine lv_aload_n hx hb dL_law_732 rfl (lv_at hl 0 rfl) ?_
  refine lv_iload_n hx hb dL_law_733 rfl (lv_at hl 3 rfl) ?_
  refine lv_iconst (v := 1) hx hb dL_law_734 (by decide) ?_
  refine lv_iadd hx hb dL_law_735 ?_
  refine va_sld hx hb hX hbl hbA hS (ix hL 1 (by decide) hi) dL_law_736 ?_
  refine lv_topi (fun b1 eb1 => ?_)
  have fb1 : a1 = b1 := ea1.trans eb1.symm
  subst fb1
  refine lv_aload_n hx hb dL_law_737 rfl (lv_at hl 0 rfl) ?_
  refine lv_iload_n hx hb dL_law_738 rfl (lv_at hl 3 rfl) ?_
  refine lv_iconst (v := 2) hx hb dL_law_739 (by decide) ?_
  refine lv_iadd hx hb dL_law_740 ?_
  refine va_sld hx hb hX hbl hbA hS (ix hL 2 (by decide) hi) dL_law_741 ?_
  refine lv_topi (fun b2 eb2 => ?_)
  have fb2 : a2 = b2 := ea2.trans eb2.symm
  subst fb2
  refine call_L (Wd := LWd cc ad am) (σ := (σ, τ)) L0 hd (lens_m (D := D) (cc := cc) (ad := ad) (am := am) (σ := σ) (τ := τ)) (As := [.int a1, .int a2]) (rest := [.int r1]) (ct_X2_shared l D cc am (dm_of hd) C τ a1 a2 hRM) (cwV 2 hts gL_law_X2_shared rfl rfl rfl (by decide +kernel) ⟨Nat.le_of_ble_eq_true rfl, Nat.le_of_ble_eq_true rfl⟩) (va_recv hK ((lens_m (D := D) (cc := cc) (ad := ad) (am := am) (σ := σ) (τ := τ)).1 H hP) (ci := 2) (q0 := 0) rfl rfl) hP hS rfl hl.1 rfl (by simp [Value.category]) dL_law_742 (fun r2 u2 hp H locs hP hS => ?_)
  obtain ⟨er2, hu2⟩ := hp
  have hP : va_P D vwCl (LWd cc ad am (σ, u2)) H := hP
  refine lv_icmp_eq (tgt := 1030) hx hb dL_law_745 (by decide) (fun c => ?_) (fun c => ?_)
  · exact kk C σ u2 hRX hu2 (Nat.le_succ _) H locs ls hP hS hl
  · exact absurd (er1.trans er2.symm) c
set_option maxHeartbeats 4000000 in
set_option maxRecDepth 100000 in
theorem law_c18 {p : Program} {l : Launch} {e : Env} {s : State} {m : MethodId} {below : List Frame} {meth : Method} {c : Code} {b L : Nat} {xs : Nat → Int32} {D : va_G} {cc : Nat → ClassId} {ad am : Nat → Nat} (L0 : Lc p s m meth c b L xs D cc) (hd : DA 58 (adm ad am) (fun q => s.heap.size ≤ q)) {C : CS} {σ : XS} {τ : MS} (hRX : RX C σ) (hRM : RM C τ) (hw : c_wr C ≤ 512) (hL : L ≤ 2560) {i : Nat} (hi : 5 * i + 5 ≤ L) (kk : ∀ (C2 : CS) (u1 : XS) (u2 : MS), RX C2 u1 → RM C2 u2 → c_wr C2 ≤ c_wr C + 1 → LAt p l e s m below meth c b D cc ad am u1 u2 1030 (nI (5 * i)) []) : LAt p l e s m below meth c b D cc ad am σ τ 750 (nI (5 * i)) [] := by
  obtain ⟨hx, hb, hr, hml, hown, hts, hX, hbl, hlocks, hK, hSX⟩ := id L0
  have hbA : ¬ (fun q : Nat => s.heap.size ≤ q) b := Nat.not_le.mpr hbl
  intro H locs ls hP hS hl
  refine lv_aload_n hx hb dL_law_750 rfl (lv_at hl 1 rfl) ?_
  refine lv_aload_n hx hb dL_law_751 rfl (lv_at hl 0 rfl) ?_
  refine lv_iload_n hx hb dL_law_752 rfl (lv_at hl 3 rfl) ?_
  refine lv_iconst (v := 1) hx hb dL_law_753 (by decide) ?_
  refine lv_iadd hx hb dL_law_754 ?_
  refine va_sld hx hb hX hbl hbA hS (ix hL 1 (by decide) hi) dL_law_755 ?_
  refine lv_topi (fun a1 ea1 => ?_)
  refine call_L (Wd := LWd cc ad am) (σ := (σ, τ)) L0 hd (lens_x (D := D) (cc := cc) (ad := ad) (am := am) (σ := σ) (τ := τ)) (As := [.int a1]) (rest := []) (ct_X1_apart l D cc ad (dx_of hd) C σ a1 hRX) (cwV 1 hts gL_law_X1_apart rfl rfl rfl (by decide +kernel) ⟨Nat.le_of_ble_eq_true rfl, Nat.le_of_ble_eq_true rfl⟩) (va_recv hK ((lens_x (D := D) (cc := cc) (ad := ad) (am := am) (σ := σ) (τ := τ)).1 H hP) (ci := 1) (q0 := 0) rfl rfl) hP hS rfl hl.1 rfl (by simp [Value.category]) dL_law_756 (fun r1 u1 hp H locs hP hS => ?_)
  obtain ⟨er1, hu1⟩ := hp
  have hu1 := hu1.symm
  subst hu1
  have hP : va_P D vwCl (LWd cc ad am (σ, τ)) H := hP
  refine lv_aload_n hx hb dL_law_759 rfl (lv_at hl 2 rfl) ?_
  refine lv_aload_n hx hb dL_law_760 rfl (lv_at hl 0 rfl) ?_
  refine lv_iload_n hx hb dL_law_761 rfl (lv_at hl 3 rfl) ?_
  refine lv_iconst (v := 1) hx hb dL_law_762 (by decide) ?_
  refine lv_iadd hx hb dL_law_763 ?_
  refine va_sld hx hb hX hbl hbA hS (ix hL 1 (by decide) hi) dL_law_764 ?_
  refine lv_topi (fun b1 eb1 => ?_)
  have fb1 : a1 = b1 := ea1.trans eb1.symm
  subst fb1
  refine call_L (Wd := LWd cc ad am) (σ := (σ, τ)) L0 hd (lens_m (D := D) (cc := cc) (ad := ad) (am := am) (σ := σ) (τ := τ)) (As := [.int a1]) (rest := [.int r1]) (ct_X2_apart l D cc am (dm_of hd) C τ a1 hRM) (cwV 1 hts gL_law_X2_apart rfl rfl rfl (by decide +kernel) ⟨Nat.le_of_ble_eq_true rfl, Nat.le_of_ble_eq_true rfl⟩) (va_recv hK ((lens_m (D := D) (cc := cc) (ad := ad) (am := am) (σ := σ) (τ := τ)).1 H hP) (ci := 2) (q0 := 0) rfl rfl) hP hS rfl hl.1 rfl (by simp [Value.category]) dL_law_765 (fun r2 u2 hp H locs hP hS => ?_)
  obtain ⟨er2, hu2⟩ := hp
  have hP : va_P D vwCl (LWd cc ad am (σ, u2)) H := hP
  refine lv_icmp_eq (tgt := 1030) hx hb dL_law_768 (by decide) (fun c => ?_) (fun c => ?_)
  · exact kk C σ u2 hRX hu2 (Nat.le_succ _) H locs ls hP hS hl
  · exact absurd (er1.trans er2.symm) c
set_option maxHeartbeats 4000000 in
set_option maxRecDepth 100000 in
theorem law_c19 {p : Program} {l : Launch} {e : Env} {s : State} {m : MethodId} {below : List Frame} {meth : Method} {c : Code} {b L : Nat} {xs : Nat → Int32} {D : va_G} {cc : Nat → ClassId} {ad am : Nat → Nat} (L0 : Lc p s m meth c b L xs D cc) (hd : DA 58 (adm ad am) (fun q => s.heap.size ≤ q)) {C : CS} {σ : XS} {τ : MS} (hRX : RX C σ) (hRM : RM C τ) (hw : c_wr C ≤ 512) (hL : L ≤ 2560) {i : Nat} (hi : 5 * i + 5 ≤ L) (kk : ∀ (C2 : CS) (u1 : XS) (u2 : MS), RX C2 u1 → RM C2 u2 → c_wr C2 ≤ c_wr C + 1 → LAt p l e s m below meth c b D cc ad am u1 u2 1030 (nI (5 * i)) []) : LAt p l e s m below meth c b D cc ad am σ τ 773 (nI (5 * i)) [] := by
  obtain ⟨hx, hb, hr, hml, hown, hts, hX, hbl, hlocks, hK, hSX⟩ := id L0
  have hbA : ¬ (fun q : Nat => s.heap.size ≤ q) b := Nat.not_le.mpr hbl
  intro H locs ls hP hS hl
  refine lv_aload_n hx hb dL_law_773 rfl (lv_at hl 1 rfl) ?_
  refine lv_aload_n hx hb dL_law_774 rfl (lv_at hl 0 rfl) ?_
  refine lv_iload_n hx hb dL_law_775 rfl (lv_at hl 3 rfl) ?_
  refine lv_iconst (v := 1) hx hb dL_law_776 (by decide) ?_
  refine lv_iadd hx hb dL_law_777 ?_
  refine va_sld hx hb hX hbl hbA hS (ix hL 1 (by decide) hi) dL_law_778 ?_
  refine lv_topi (fun a1 ea1 => ?_)
  refine lv_aload_n hx hb dL_law_779 rfl (lv_at hl 0 rfl) ?_
  refine lv_iload_n hx hb dL_law_780 rfl (lv_at hl 3 rfl) ?_
  refine lv_iconst (v := 2) hx hb dL_law_781 (by decide) ?_
  refine lv_iadd hx hb dL_law_782 ?_
  refine va_sld hx hb hX hbl hbA hS (ix hL 2 (by decide) hi) dL_law_783 ?_
  refine lv_topi (fun a2 ea2 => ?_)
  refine call_L (Wd := LWd cc ad am) (σ := (σ, τ)) L0 hd (lens_x (D := D) (cc := cc) (ad := ad) (am := am) (σ := σ) (τ := τ)) (As := [.int a1, .int a2]) (rest := []) (ct_X1_seats l D cc ad (dx_of hd) C σ a1 a2 hRX) (cwV 2 hts gL_law_X1_seats rfl rfl rfl (by decide +kernel) ⟨Nat.le_of_ble_eq_true rfl, Nat.le_of_ble_eq_true rfl⟩) (va_recv hK ((lens_x (D := D) (cc := cc) (ad := ad) (am := am) (σ := σ) (τ := τ)).1 H hP) (ci := 1) (q0 := 0) rfl rfl) hP hS rfl hl.1 rfl (by simp [Value.category]) dL_law_784 (fun r1 u1 hp H locs hP hS => ?_)
  obtain ⟨er1, hu1⟩ := hp
  have hP : va_P D vwCl (LWd cc ad am (u1, τ)) H := hP
  refine lv_aload_n hx hb dL_law_787 rfl (lv_at hl 2 rfl) ?_
  refine lv_aload_n hx hb dL_law_788 rfl (lv_at hl 0 rfl) ?_
  refine lv_iload_n hx hb dL_law_789 rfl (lv_at hl 3 rfl) ?_
  refine lv_iconst (v := 1) hx hb dL_law_790 (by decide) ?_
  refine lv_iadd hx hb dL_law_791 ?_
  refine va_sld hx hb hX hbl hbA hS (ix hL 1 (by decide) hi) dL_law_792 ?_
  refine lv_topi (fun b1 eb1 => ?_)
  have fb1 : a1 = b1 := ea1.trans eb1.symm
  subst fb1
  refine lv_aload_n hx hb dL_law_793 rfl (lv_at hl 0 rfl) ?_
  refine lv_iload_n hx hb dL_law_794 rfl (lv_at hl 3 rfl) ?_
  refine lv_iconst (v := 2) hx hb dL_law_795 (by decide) ?_
  refine lv_iadd hx hb dL_law_796 ?_
  refine va_sld hx hb hX hbl hbA hS (ix hL 2 (by decide) hi) dL_law_797 ?_
  refine lv_topi (fun b2 eb2 => ?_)
  have fb2 : a2 = b2 := ea2.trans eb2.symm
  subst fb2
  refine call_L (Wd := LWd cc ad am) (σ := (u1, τ)) L0 hd (lens_m (D := D) (cc := cc) (ad := ad) (am := am) (σ := u1) (τ := τ)) (As := [.int a1, .int a2]) (rest := [.int r1]) (ct_X2_seats l D cc am (dm_of hd) C τ a1 a2 hRM) (cwV 2 hts gL_law_X2_seats rfl rfl rfl (by decide +kernel) ⟨Nat.le_of_ble_eq_true rfl, Nat.le_of_ble_eq_true rfl⟩) (va_recv hK ((lens_m (D := D) (cc := cc) (ad := ad) (am := am) (σ := u1) (τ := τ)).1 H hP) (ci := 2) (q0 := 0) rfl rfl) hP hS rfl hl.1 rfl (by simp [Value.category]) dL_law_798 (fun r2 u2 hp H locs hP hS => ?_)
  obtain ⟨er2, hu2⟩ := hp
  have hP : va_P D vwCl (LWd cc ad am (u1, u2)) H := hP
  refine lv_icmp_eq (tgt := 1030) hx hb dL_law_801 (by decide) (fun c => ?_) (fun c => ?_)
  · exact kk (st_seats C a1 a2) u1 u2 hu1 hu2 (wr_seats C a1 a2) H locs ls hP hS hl
  · exact absurd (er1.trans er2.symm) c
set_option maxHeartbeats 4000000 in
set_option maxRecDepth 100000 in
theorem law_c20 {p : Program} {l : Launch} {e : Env} {s : State} {m : MethodId} {below : List Frame} {meth : Method} {c : Code} {b L : Nat} {xs : Nat → Int32} {D : va_G} {cc : Nat → ClassId} {ad am : Nat → Nat} (L0 : Lc p s m meth c b L xs D cc) (hd : DA 58 (adm ad am) (fun q => s.heap.size ≤ q)) {C : CS} {σ : XS} {τ : MS} (hRX : RX C σ) (hRM : RM C τ) (hw : c_wr C ≤ 512) (hL : L ≤ 2560) {i : Nat} (hi : 5 * i + 5 ≤ L) (kk : ∀ (C2 : CS) (u1 : XS) (u2 : MS), RX C2 u1 → RM C2 u2 → c_wr C2 ≤ c_wr C + 1 → LAt p l e s m below meth c b D cc ad am u1 u2 1030 (nI (5 * i)) []) : LAt p l e s m below meth c b D cc ad am σ τ 806 (nI (5 * i)) [] := by
  obtain ⟨hx, hb, hr, hml, hown, hts, hX, hbl, hlocks, hK, hSX⟩ := id L0
  have hbA : ¬ (fun q : Nat => s.heap.size ≤ q) b := Nat.not_le.mpr hbl
  intro H locs ls hP hS hl
  refine lv_aload_n hx hb dL_law_806 rfl (lv_at hl 1 rfl) ?_
  refine lv_aload_n hx hb dL_law_807 rfl (lv_at hl 0 rfl) ?_
  refine lv_iload_n hx hb dL_law_808 rfl (lv_at hl 3 rfl) ?_
  refine lv_iconst (v := 1) hx hb dL_law_809 (by decide) ?_
  refine lv_iadd hx hb dL_law_810 ?_
  refine va_sld hx hb hX hbl hbA hS (ix hL 1 (by decide) hi) dL_law_811 ?_
  refine lv_topi (fun a1 ea1 => ?_)
  refine call_L (Wd := LWd cc ad am) (σ := (σ, τ)) L0 hd (lens_x (D := D) (cc := cc) (ad := ad) (am := am) (σ := σ) (τ := τ)) (As := [.int a1]) (rest := []) (ct_X1_base l D cc ad (dx_of hd) C σ a1 hRX) (cwV 1 hts gL_law_X1_base rfl rfl rfl (by decide +kernel) ⟨Nat.le_of_ble_eq_true rfl, Nat.le_of_ble_eq_true rfl⟩) (va_recv hK ((lens_x (D := D) (cc := cc) (ad := ad) (am := am) (σ := σ) (τ := τ)).1 H hP) (ci := 1) (q0 := 0) rfl rfl) hP hS rfl hl.1 rfl (by simp [Value.category]) dL_law_812 (fun r1 u1 hp H locs hP hS => ?_)
  obtain ⟨er1, hu1⟩ := hp
  have hP : va_P D vwCl (LWd cc ad am (u1, τ)) H := hP
  refine lv_aload_n hx hb dL_law_815 rfl (lv_at hl 2 rfl) ?_
  refine lv_aload_n hx hb dL_law_816 rfl (lv_at hl 0 rfl) ?_
  refine lv_iload_n hx hb dL_law_817 rfl (lv_at hl 3 rfl) ?_
  refine lv_iconst (v := 1) hx hb dL_law_818 (by decide) ?_
  refine lv_iadd hx hb dL_law_819 ?_
  refine va_sld hx hb hX hbl hbA hS (ix hL 1 (by decide) hi) dL_law_820 ?_
  refine lv_topi (fun b1 eb1 => ?_)
  have fb1 : a1 = b1 := ea1.trans eb1.symm
  subst fb1
  refine call_L (Wd := LWd cc ad am) (σ := (u1, τ)) L0 hd (lens_m (D := D) (cc := cc) (ad := ad) (am := am) (σ := u1) (τ := τ)) (As := [.int a1]) (rest := [.int r1]) (ct_X2_base l D cc am (dm_of hd) C τ a1 hRM) (cwV 1 hts gL_law_X2_base rfl rfl rfl (by decide +kernel) ⟨Nat.le_of_ble_eq_true rfl, Nat.le_of_ble_eq_true rfl⟩) (va_recv hK ((lens_m (D := D) (cc := cc) (ad := ad) (am := am) (σ := u1) (τ := τ)).1 H hP) (ci := 2) (q0 := 0) rfl rfl) hP hS rfl hl.1 rfl (by simp [Value.category]) dL_law_821 (fun r2 u2 hp H locs hP hS => ?_)
  obtain ⟨er2, hu2⟩ := hp
  have hP : va_P D vwCl (LWd cc ad am (u1, u2)) H := hP
  refine lv_icmp_eq (tgt := 1030) hx hb dL_law_824 (by decide) (fun c => ?_) (fun c => ?_)
  · exact kk (st_base C a1) u1 u2 hu1 hu2 (wr_base C a1) H locs ls hP hS hl
  · exact absurd (er1.trans er2.symm) c
set_option maxHeartbeats 4000000 in
set_option maxRecDepth 100000 in
theorem law_c21 {p : Program} {l : Launch} {e : Env} {s : State} {m : MethodId} {below : List Frame} {meth : Method} {c : Code} {b L : Nat} {xs : Nat → Int32} {D : va_G} {cc : Nat → ClassId} {ad am : Nat → Nat} (L0 : Lc p s m meth c b L xs D cc) (hd : DA 58 (adm ad am) (fun q => s.heap.size ≤ q)) {C : CS} {σ : XS} {τ : MS} (hRX : RX C σ) (hRM : RM C τ) (hw : c_wr C ≤ 512) (hL : L ≤ 2560) {i : Nat} (hi : 5 * i + 5 ≤ L) (kk : ∀ (C2 : CS) (u1 : XS) (u2 : MS), RX C2 u1 → RM C2 u2 → c_wr C2 ≤ c_wr C + 1 → LAt p l e s m below meth c b D cc ad am u1 u2 1030 (nI (5 * i)) []) : LAt p l e s m below meth c b D cc ad am σ τ 829 (nI (5 * i)) [] := by
  obtain ⟨hx, hb, hr, hml, hown, hts, hX, hbl, hlocks, hK, hSX⟩ := id L0
  have hbA : ¬ (fun q : Nat => s.heap.size ≤ q) b := Nat.not_le.mpr hbl
  intro H locs ls hP hS hl
  refine lv_aload_n hx hb dL_law_829 rfl (lv_at hl 1 rfl) ?_
  refine lv_aload_n hx hb dL_law_830 rfl (lv_at hl 0 rfl) ?_
  refine lv_iload_n hx hb dL_law_831 rfl (lv_at hl 3 rfl) ?_
  refine lv_iconst (v := 1) hx hb dL_law_832 (by decide) ?_
  refine lv_iadd hx hb dL_law_833 ?_
  refine va_sld hx hb hX hbl hbA hS (ix hL 1 (by decide) hi) dL_law_834 ?_
  refine lv_topi (fun a1 ea1 => ?_)
  refine call_L (Wd := LWd cc ad am) (σ := (σ, τ)) L0 hd (lens_x (D := D) (cc := cc) (ad := ad) (am := am) (σ := σ) (τ := τ)) (As := [.int a1]) (rest := []) (ct_X1_seat l D cc ad (dx_of hd) C σ a1 hRX) (cwV 1 hts gL_law_X1_seat rfl rfl rfl (by decide +kernel) ⟨Nat.le_of_ble_eq_true rfl, Nat.le_of_ble_eq_true rfl⟩) (va_recv hK ((lens_x (D := D) (cc := cc) (ad := ad) (am := am) (σ := σ) (τ := τ)).1 H hP) (ci := 1) (q0 := 0) rfl rfl) hP hS rfl hl.1 rfl (by simp [Value.category]) dL_law_835 (fun r1 u1 hp H locs hP hS => ?_)
  obtain ⟨er1, hu1⟩ := hp
  have hu1 := hu1.symm
  subst hu1
  have hP : va_P D vwCl (LWd cc ad am (σ, τ)) H := hP
  refine lv_aload_n hx hb dL_law_838 rfl (lv_at hl 2 rfl) ?_
  refine lv_aload_n hx hb dL_law_839 rfl (lv_at hl 0 rfl) ?_
  refine lv_iload_n hx hb dL_law_840 rfl (lv_at hl 3 rfl) ?_
  refine lv_iconst (v := 1) hx hb dL_law_841 (by decide) ?_
  refine lv_iadd hx hb dL_law_842 ?_
  refine va_sld hx hb hX hbl hbA hS (ix hL 1 (by decide) hi) dL_law_843 ?_
  refine lv_topi (fun b1 eb1 => ?_)
  have fb1 : a1 = b1 := ea1.trans eb1.symm
  subst fb1
  refine call_L (Wd := LWd cc ad am) (σ := (σ, τ)) L0 hd (lens_m (D := D) (cc := cc) (ad := ad) (am := am) (σ := σ) (τ := τ)) (As := [.int a1]) (rest := [.int r1]) (ct_X2_seat l D cc am (dm_of hd) C τ a1 hRM) (cwV 1 hts gL_law_X2_seat rfl rfl rfl (by decide +kernel) ⟨Nat.le_of_ble_eq_true rfl, Nat.le_of_ble_eq_true rfl⟩) (va_recv hK ((lens_m (D := D) (cc := cc) (ad := ad) (am := am) (σ := σ) (τ := τ)).1 H hP) (ci := 2) (q0 := 0) rfl rfl) hP hS rfl hl.1 rfl (by simp [Value.category]) dL_law_844 (fun r2 u2 hp H locs hP hS => ?_)
  obtain ⟨er2, hu2⟩ := hp
  have hP : va_P D vwCl (LWd cc ad am (σ, u2)) H := hP
  refine lv_icmp_eq (tgt := 1030) hx hb dL_law_847 (by decide) (fun c => ?_) (fun c => ?_)
  · exact kk C σ u2 hRX hu2 (Nat.le_succ _) H locs ls hP hS hl
  · exact absurd (er1.trans er2.symm) c
set_option maxHeartbeats 4000000 in
set_option maxRecDepth 100000 in
theorem law_c22 {p : Program} {l : Launch} {e : Env} {s : State} {m : MethodId} {below : List Frame} {meth : Method} {c : Code} {b L : Nat} {xs : Nat → Int32} {D : va_G} {cc : Nat → ClassId} {ad am : Nat → Nat} (L0 : Lc p s m meth c b L xs D cc) (hd : DA 58 (adm ad am) (fun q => s.heap.size ≤ q)) {C : CS} {σ : XS} {τ : MS} (hRX : RX C σ) (hRM : RM C τ) (hw : c_wr C ≤ 512) (hL : L ≤ 2560) {i : Nat} (hi : 5 * i + 5 ≤ L) (kk : ∀ (C2 : CS) (u1 : XS) (u2 : MS), RX C2 u1 → RM C2 u2 → c_wr C2 ≤ c_wr C + 1 → LAt p l e s m below meth c b D cc ad am u1 u2 1030 (nI (5 * i)) []) : LAt p l e s m below meth c b D cc ad am σ τ 852 (nI (5 * i)) [] := by
  obtain ⟨hx, hb, hr, hml, hown, hts, hX, hbl, hlocks, hK, hSX⟩ := id L0
  have hbA : ¬ (fun q : Nat => s.heap.size ≤ q) b := Nat.not_le.mpr hbl
  intro H locs ls hP hS hl
  refine lv_aload_n hx hb dL_law_852 rfl (lv_at hl 1 rfl) ?_
  refine call_L (Wd := LWd cc ad am) (σ := (σ, τ)) L0 hd (lens_x (D := D) (cc := cc) (ad := ad) (am := am) (σ := σ) (τ := τ)) (As := []) (rest := []) (ct_X1_unlike l D cc ad (dx_of hd) C σ hRX) (cwV 0 hts gL_law_X1_unlike rfl rfl rfl (by decide +kernel) ⟨Nat.le_of_ble_eq_true rfl, Nat.le_of_ble_eq_true rfl⟩) (va_recv hK ((lens_x (D := D) (cc := cc) (ad := ad) (am := am) (σ := σ) (τ := τ)).1 H hP) (ci := 1) (q0 := 0) rfl rfl) hP hS rfl hl.1 rfl (by simp [Value.category]) dL_law_853 (fun r1 u1 hp H locs hP hS => ?_)
  obtain ⟨er1, hu1⟩ := hp
  have hu1 := hu1.symm
  subst hu1
  have hP : va_P D vwCl (LWd cc ad am (σ, τ)) H := hP
  refine lv_aload_n hx hb dL_law_856 rfl (lv_at hl 2 rfl) ?_
  refine call_L (Wd := LWd cc ad am) (σ := (σ, τ)) L0 hd (lens_m (D := D) (cc := cc) (ad := ad) (am := am) (σ := σ) (τ := τ)) (As := []) (rest := [.int r1]) (ct_X2_unlike l D cc am (dm_of hd) C τ hRM) (cwV 0 hts gL_law_X2_unlike rfl rfl rfl (by decide +kernel) ⟨Nat.le_of_ble_eq_true rfl, Nat.le_of_ble_eq_true rfl⟩) (va_recv hK ((lens_m (D := D) (cc := cc) (ad := ad) (am := am) (σ := σ) (τ := τ)).1 H hP) (ci := 2) (q0 := 0) rfl rfl) hP hS rfl hl.1 rfl (by simp [Value.category]) dL_law_857 (fun r2 u2 hp H locs hP hS => ?_)
  obtain ⟨er2, hu2⟩ := hp
  have hP : va_P D vwCl (LWd cc ad am (σ, u2)) H := hP
  refine lv_icmp_eq (tgt := 1030) hx hb dL_law_860 (by decide) (fun c => ?_) (fun c => ?_)
  · exact kk C σ u2 hRX hu2 (Nat.le_succ _) H locs ls hP hS hl
  · exact absurd (er1.trans er2.symm) c
set_option maxHeartbeats 4000000 in
set_option maxRecDepth 100000 in
theorem law_c23 {p : Program} {l : Launch} {e : Env} {s : State} {m : MethodId} {below : List Frame} {meth : Method} {c : Code} {b L : Nat} {xs : Nat → Int32} {D : va_G} {cc : Nat → ClassId} {ad am : Nat → Nat} (L0 : Lc p s m meth c b L xs D cc) (hd : DA 58 (adm ad am) (fun q => s.heap.size ≤ q)) {C : CS} {σ : XS} {τ : MS} (hRX : RX C σ) (hRM : RM C τ) (hw : c_wr C ≤ 512) (hL : L ≤ 2560) {i : Nat} (hi : 5 * i + 5 ≤ L) (kk : ∀ (C2 : CS) (u1 : XS) (u2 : MS), RX C2 u1 → RM C2 u2 → c_wr C2 ≤ c_wr C + 1 → LAt p l e s m below meth c b D cc ad am u1 u2 1030 (nI (5 * i)) []) : LAt p l e s m below meth c b D cc ad am σ τ 865 (nI (5 * i)) [] := by
  obtain ⟨hx, hb, hr, hml, hown, hts, hX, hbl, hlocks, hK, hSX⟩ := id L0
  have hbA : ¬ (fun q : Nat => s.heap.size ≤ q) b := Nat.not_le.mpr hbl
  intro H locs ls hP hS hl
  refine lv_aload_n hx hb dL_law_865 rfl (lv_at hl 1 rfl) ?_
  refine lv_aload_n hx hb dL_law_866 rfl (lv_at hl 0 rfl) ?_
  refine lv_iload_n hx hb dL_law_867 rfl (lv_at hl 3 rfl) ?_
  refine lv_iconst (v := 1) hx hb dL_law_868 (by decide) ?_
  refine lv_iadd hx hb dL_law_869 ?_
  refine va_sld hx hb hX hbl hbA hS (ix hL 1 (by decide) hi) dL_law_870 ?_
  refine lv_topi (fun a1 ea1 => ?_)
  refine lv_aload_n hx hb dL_law_871 rfl (lv_at hl 0 rfl) ?_
  refine lv_iload_n hx hb dL_law_872 rfl (lv_at hl 3 rfl) ?_
  refine lv_iconst (v := 2) hx hb dL_law_873 (by decide) ?_
  refine lv_iadd hx hb dL_law_874 ?_
  refine va_sld hx hb hX hbl hbA hS (ix hL 2 (by decide) hi) dL_law_875 ?_
  refine lv_topi (fun a2 ea2 => ?_)
  refine lv_aload_n hx hb dL_law_876 rfl (lv_at hl 0 rfl) ?_
  refine lv_iload_n hx hb dL_law_877 rfl (lv_at hl 3 rfl) ?_
  refine lv_iconst (v := 3) hx hb dL_law_878 (by decide) ?_
  refine lv_iadd hx hb dL_law_879 ?_
  refine va_sld hx hb hX hbl hbA hS (ix hL 3 (by decide) hi) dL_law_880 ?_
  refine lv_topi (fun a3 ea3 => ?_)
  refine call_L (Wd := LWd cc ad am) (σ := (σ, τ)) L0 hd (lens_x (D := D) (cc := cc) (ad := ad) (am := am) (σ := σ) (τ := τ)) (As := [.int a1, .int a2, .int a3]) (rest := []) (ct_X1_mark l D cc ad (dx_of hd) C σ a1 a2 a3 hRX) (cwV 3 hts gL_law_X1_mark rfl rfl rfl (by decide +kernel) ⟨Nat.le_of_ble_eq_true rfl, Nat.le_of_ble_eq_true rfl⟩) (va_recv hK ((lens_x (D := D) (cc := cc) (ad := ad) (am := am) (σ := σ) (τ := τ)).1 H hP) (ci := 1) (q0 := 0) rfl rfl) hP hS rfl hl.1 rfl (by simp [Value.category]) dL_law_881 (fun r1 u1 hp H locs hP hS => ?_)
  obtain ⟨er1, hu1⟩ := hp
  have hP : va_P D vwCl (LWd cc ad am (u1, τ)) H := hP
  refine lv_aload_n hx hb dL_law_884 rfl (lv_at hl 2 rfl) ?_
  refine lv_aload_n hx hb dL_law_885 rfl (lv_at hl 0 rfl) ?_
  refine lv_iload_n hx hb dL_law_886 rfl (lv_at hl 3 rfl) ?_
  refine lv_iconst (v := 1) hx hb dL_law_887 (by decide) ?_
  refine lv_iadd hx hb dL_law_888 ?_
  refine va_sld hx hb hX hbl hbA hS (ix hL 1 (by decide) hi) dL_law_889 ?_
  refine lv_topi (fun b1 eb1 => ?_)
  have fb1 : a1 = b1 := ea1.trans eb1.symm
  subst fb1
  refine lv_aload_n hx hb dL_law_890 rfl (lv_at hl 0 rfl) ?_
  refine lv_iload_n hx hb dL_law_891 rfl (lv_at hl 3 rfl) ?_
  refine lv_iconst (v := 2) hx hb dL_law_892 (by decide) ?_
  refine lv_iadd hx hb dL_law_893 ?_
  refine va_sld hx hb hX hbl hbA hS (ix hL 2 (by decide) hi) dL_law_894 ?_
  refine lv_topi (fun b2 eb2 => ?_)
  have fb2 : a2 = b2 := ea2.trans eb2.symm
  subst fb2
  refine lv_aload_n hx hb dL_law_895 rfl (lv_at hl 0 rfl) ?_
  refine lv_iload_n hx hb dL_law_896 rfl (lv_at hl 3 rfl) ?_
  refine lv_iconst (v := 3) hx hb dL_law_897 (by decide) ?_
  refine lv_iadd hx hb dL_law_898 ?_
  refine va_sld hx hb hX hbl hbA hS (ix hL 3 (by decide) hi) dL_law_899 ?_
  refine lv_topi (fun b3 eb3 => ?_)
  have fb3 : a3 = b3 := ea3.trans eb3.symm
  subst fb3
  refine call_L (Wd := LWd cc ad am) (σ := (u1, τ)) L0 hd (lens_m (D := D) (cc := cc) (ad := ad) (am := am) (σ := u1) (τ := τ)) (As := [.int a1, .int a2, .int a3]) (rest := [.int r1]) (ct_X2_mark l D cc am (dm_of hd) C τ a1 a2 a3 hRM) (cwV 3 hts gL_law_X2_mark rfl rfl rfl (by decide +kernel) ⟨Nat.le_of_ble_eq_true rfl, Nat.le_of_ble_eq_true rfl⟩) (va_recv hK ((lens_m (D := D) (cc := cc) (ad := ad) (am := am) (σ := u1) (τ := τ)).1 H hP) (ci := 2) (q0 := 0) rfl rfl) hP hS rfl hl.1 rfl (by simp [Value.category]) dL_law_900 (fun r2 u2 hp H locs hP hS => ?_)
  obtain ⟨er2, hu2⟩ := hp
  have hP : va_P D vwCl (LWd cc ad am (u1, u2)) H := hP
  refine lv_icmp_eq (tgt := 1030) hx hb dL_law_903 (by decide) (fun c => ?_) (fun c => ?_)
  · exact kk (st_mark C a1 a2 a3) u1 u2 hu1 hu2 (wr_mark C a1 a2 a3) H locs ls hP hS hl
  · exact absurd (er1.trans er2.symm) c
set_option maxHeartbeats 4000000 in
set_option maxRecDepth 100000 in
theorem law_c24 {p : Program} {l : Launch} {e : Env} {s : State} {m : MethodId} {below : List Frame} {meth : Method} {c : Code} {b L : Nat} {xs : Nat → Int32} {D : va_G} {cc : Nat → ClassId} {ad am : Nat → Nat} (L0 : Lc p s m meth c b L xs D cc) (hd : DA 58 (adm ad am) (fun q => s.heap.size ≤ q)) {C : CS} {σ : XS} {τ : MS} (hRX : RX C σ) (hRM : RM C τ) (hw : c_wr C ≤ 512) (hL : L ≤ 2560) {i : Nat} (hi : 5 * i + 5 ≤ L) (kk : ∀ (C2 : CS) (u1 : XS) (u2 : MS), RX C2 u1 → RM C2 u2 → c_wr C2 ≤ c_wr C + 1 → LAt p l e s m below meth c b D cc ad am u1 u2 1030 (nI (5 * i)) []) : LAt p l e s m below meth c b D cc ad am σ τ 908 (nI (5 * i)) [] := by
  obtain ⟨hx, hb, hr, hml, hown, hts, hX, hbl, hlocks, hK, hSX⟩ := id L0
  have hbA : ¬ (fun q : Nat => s.heap.size ≤ q) b := Nat.not_le.mpr hbl
  intro H locs ls hP hS hl
  refine lv_aload_n hx hb dL_law_908 rfl (lv_at hl 1 rfl) ?_
  refine lv_aload_n hx hb dL_law_909 rfl (lv_at hl 0 rfl) ?_
  refine lv_iload_n hx hb dL_law_910 rfl (lv_at hl 3 rfl) ?_
  refine lv_iconst (v := 1) hx hb dL_law_911 (by decide) ?_
  refine lv_iadd hx hb dL_law_912 ?_
  refine va_sld hx hb hX hbl hbA hS (ix hL 1 (by decide) hi) dL_law_913 ?_
  refine lv_topi (fun a1 ea1 => ?_)
  refine lv_aload_n hx hb dL_law_914 rfl (lv_at hl 0 rfl) ?_
  refine lv_iload_n hx hb dL_law_915 rfl (lv_at hl 3 rfl) ?_
  refine lv_iconst (v := 2) hx hb dL_law_916 (by decide) ?_
  refine lv_iadd hx hb dL_law_917 ?_
  refine va_sld hx hb hX hbl hbA hS (ix hL 2 (by decide) hi) dL_law_918 ?_
  refine lv_topi (fun a2 ea2 => ?_)
  refine call_L (Wd := LWd cc ad am) (σ := (σ, τ)) L0 hd (lens_x (D := D) (cc := cc) (ad := ad) (am := am) (σ := σ) (τ := τ)) (As := [.int a1, .int a2]) (rest := []) (ct_X1_missed l D cc ad (dx_of hd) C σ a1 a2 hRX) (cwV 2 hts gL_law_X1_missed rfl rfl rfl (by decide +kernel) ⟨Nat.le_of_ble_eq_true rfl, Nat.le_of_ble_eq_true rfl⟩) (va_recv hK ((lens_x (D := D) (cc := cc) (ad := ad) (am := am) (σ := σ) (τ := τ)).1 H hP) (ci := 1) (q0 := 0) rfl rfl) hP hS rfl hl.1 rfl (by simp [Value.category]) dL_law_919 (fun r1 u1 hp H locs hP hS => ?_)
  obtain ⟨er1, hu1⟩ := hp
  have hu1 := hu1.symm
  subst hu1
  have hP : va_P D vwCl (LWd cc ad am (σ, τ)) H := hP
  refine lv_aload_n hx hb dL_law_922 rfl (lv_at hl 2 rfl) ?_
  refine lv_aload_n hx hb dL_law_923 rfl (lv_at hl 0 rfl) ?_
  refine lv_iload_n hx hb dL_law_924 rfl (lv_at hl 3 rfl) ?_
  refine lv_iconst (v := 1) hx hb dL_law_925 (by decide) ?_
  refine lv_iadd hx hb dL_law_926 ?_
  refine va_sld hx hb hX hbl hbA hS (ix hL 1 (by decide) hi) dL_law_927 ?_
  refine lv_topi (fun b1 eb1 => ?_)
  have fb1 : a1 = b1 := ea1.trans eb1.symm
  subst fb1
  refine lv_aload_n hx hb dL_law_928 rfl (lv_at hl 0 rfl) ?_
  refine lv_iload_n hx hb dL_law_929 rfl (lv_at hl 3 rfl) ?_
  refine lv_iconst (v := 2) hx hb dL_law_930 (by decide) ?_
  refine lv_iadd hx hb dL_law_931 ?_
  refine va_sld hx hb hX hbl hbA hS (ix hL 2 (by decide) hi) dL_law_932 ?_
  refine lv_topi (fun b2 eb2 => ?_)
  have fb2 : a2 = b2 := ea2.trans eb2.symm
  subst fb2
  refine call_L (Wd := LWd cc ad am) (σ := (σ, τ)) L0 hd (lens_m (D := D) (cc := cc) (ad := ad) (am := am) (σ := σ) (τ := τ)) (As := [.int a1, .int a2]) (rest := [.int r1]) (ct_X2_missed l D cc am (dm_of hd) C τ a1 a2 hRM) (cwV 2 hts gL_law_X2_missed rfl rfl rfl (by decide +kernel) ⟨Nat.le_of_ble_eq_true rfl, Nat.le_of_ble_eq_true rfl⟩) (va_recv hK ((lens_m (D := D) (cc := cc) (ad := ad) (am := am) (σ := σ) (τ := τ)).1 H hP) (ci := 2) (q0 := 0) rfl rfl) hP hS rfl hl.1 rfl (by simp [Value.category]) dL_law_933 (fun r2 u2 hp H locs hP hS => ?_)
  obtain ⟨er2, hu2⟩ := hp
  have hP : va_P D vwCl (LWd cc ad am (σ, u2)) H := hP
  refine lv_icmp_eq (tgt := 1030) hx hb dL_law_936 (by decide) (fun c => ?_) (fun c => ?_)
  · exact kk C σ u2 hRX hu2 (Nat.le_succ _) H locs ls hP hS hl
  · exact absurd (er1.trans er2.symm) c
set_option maxHeartbeats 4000000 in
set_option maxRecDepth 100000 in
theorem law_c25 {p : Program} {l : Launch} {e : Env} {s : State} {m : MethodId} {below : List Frame} {meth : Method} {c : Code} {b L : Nat} {xs : Nat → Int32} {D : va_G} {cc : Nat → ClassId} {ad am : Nat → Nat} (L0 : Lc p s m meth c b L xs D cc) (hd : DA 58 (adm ad am) (fun q => s.heap.size ≤ q)) {C : CS} {σ : XS} {τ : MS} (hRX : RX C σ) (hRM : RM C τ) (hw : c_wr C ≤ 512) (hL : L ≤ 2560) {i : Nat} (hi : 5 * i + 5 ≤ L) (kk : ∀ (C2 : CS) (u1 : XS) (u2 : MS), RX C2 u1 → RM C2 u2 → c_wr C2 ≤ c_wr C + 1 → LAt p l e s m below meth c b D cc ad am u1 u2 1030 (nI (5 * i)) []) : LAt p l e s m below meth c b D cc ad am σ τ 941 (nI (5 * i)) [] := by
  obtain ⟨hx, hb, hr, hml, hown, hts, hX, hbl, hlocks, hK, hSX⟩ := id L0
  have hbA : ¬ (fun q : Nat => s.heap.size ≤ q) b := Nat.not_le.mpr hbl
  intro H locs ls hP hS hl
  refine lv_aload_n hx hb dL_law_941 rfl (lv_at hl 1 rfl) ?_
  refine lv_aload_n hx hb dL_law_942 rfl (lv_at hl 0 rfl) ?_
  refine lv_iload_n hx hb dL_law_943 rfl (lv_at hl 3 rfl) ?_
  refine lv_iconst (v := 1) hx hb dL_law_944 (by decide) ?_
  refine lv_iadd hx hb dL_law_945 ?_
  refine va_sld hx hb hX hbl hbA hS (ix hL 1 (by decide) hi) dL_law_946 ?_
  refine lv_topi (fun a1 ea1 => ?_)
  refine lv_aload_n hx hb dL_law_947 rfl (lv_at hl 0 rfl) ?_
  refine lv_iload_n hx hb dL_law_948 rfl (lv_at hl 3 rfl) ?_
  refine lv_iconst (v := 2) hx hb dL_law_949 (by decide) ?_
  refine lv_iadd hx hb dL_law_950 ?_
  refine va_sld hx hb hX hbl hbA hS (ix hL 2 (by decide) hi) dL_law_951 ?_
  refine lv_topi (fun a2 ea2 => ?_)
  refine lv_aload_n hx hb dL_law_952 rfl (lv_at hl 0 rfl) ?_
  refine lv_iload_n hx hb dL_law_953 rfl (lv_at hl 3 rfl) ?_
  refine lv_iconst (v := 3) hx hb dL_law_954 (by decide) ?_
  refine lv_iadd hx hb dL_law_955 ?_
  refine va_sld hx hb hX hbl hbA hS (ix hL 3 (by decide) hi) dL_law_956 ?_
  refine lv_topi (fun a3 ea3 => ?_)
  refine call_L (Wd := LWd cc ad am) (σ := (σ, τ)) L0 hd (lens_x (D := D) (cc := cc) (ad := ad) (am := am) (σ := σ) (τ := τ)) (As := [.int a1, .int a2, .int a3]) (rest := []) (ct_X1_review l D cc ad (dx_of hd) C σ a1 a2 a3 ⟨hRX, hw⟩) (cwV 3 hts gL_law_X1_review rfl rfl rfl (by decide +kernel) ⟨Nat.le_of_ble_eq_true rfl, Nat.le_of_ble_eq_true rfl⟩) (va_recv hK ((lens_x (D := D) (cc := cc) (ad := ad) (am := am) (σ := σ) (τ := τ)).1 H hP) (ci := 1) (q0 := 0) rfl rfl) hP hS rfl hl.1 rfl (by simp [Value.category]) dL_law_957 (fun r1 u1 hp H locs hP hS => ?_)
  obtain ⟨er1, hu1⟩ := hp
  have hu1 := hu1.symm
  subst hu1
  have hP : va_P D vwCl (LWd cc ad am (σ, τ)) H := hP
  refine lv_aload_n hx hb dL_law_960 rfl (lv_at hl 2 rfl) ?_
  refine lv_aload_n hx hb dL_law_961 rfl (lv_at hl 0 rfl) ?_
  refine lv_iload_n hx hb dL_law_962 rfl (lv_at hl 3 rfl) ?_
  refine lv_iconst (v := 1) hx hb dL_law_963 (by decide) ?_
  refine lv_iadd hx hb dL_law_964 ?_
  refine va_sld hx hb hX hbl hbA hS (ix hL 1 (by decide) hi) dL_law_965 ?_
  refine lv_topi (fun b1 eb1 => ?_)
  have fb1 : a1 = b1 := ea1.trans eb1.symm
  subst fb1
  refine lv_aload_n hx hb dL_law_966 rfl (lv_at hl 0 rfl) ?_
  refine lv_iload_n hx hb dL_law_967 rfl (lv_at hl 3 rfl) ?_
  refine lv_iconst (v := 2) hx hb dL_law_968 (by decide) ?_
  refine lv_iadd hx hb dL_law_969 ?_
  refine va_sld hx hb hX hbl hbA hS (ix hL 2 (by decide) hi) dL_law_970 ?_
  refine lv_topi (fun b2 eb2 => ?_)
  have fb2 : a2 = b2 := ea2.trans eb2.symm
  subst fb2
  refine lv_aload_n hx hb dL_law_971 rfl (lv_at hl 0 rfl) ?_
  refine lv_iload_n hx hb dL_law_972 rfl (lv_at hl 3 rfl) ?_
  refine lv_iconst (v := 3) hx hb dL_law_973 (by decide) ?_
  refine lv_iadd hx hb dL_law_974 ?_
  refine va_sld hx hb hX hbl hbA hS (ix hL 3 (by decide) hi) dL_law_975 ?_
  refine lv_topi (fun b3 eb3 => ?_)
  have fb3 : a3 = b3 := ea3.trans eb3.symm
  subst fb3
  refine call_L (Wd := LWd cc ad am) (σ := (σ, τ)) L0 hd (lens_m (D := D) (cc := cc) (ad := ad) (am := am) (σ := σ) (τ := τ)) (As := [.int a1, .int a2, .int a3]) (rest := [.int r1]) (ct_X2_review l D cc am (dm_of hd) C τ a1 a2 a3 ⟨hRM, hw⟩) (cwV 3 hts gL_law_X2_review rfl rfl rfl (by decide +kernel) ⟨Nat.le_of_ble_eq_true rfl, Nat.le_of_ble_eq_true rfl⟩) (va_recv hK ((lens_m (D := D) (cc := cc) (ad := ad) (am := am) (σ := σ) (τ := τ)).1 H hP) (ci := 2) (q0 := 0) rfl rfl) hP hS rfl hl.1 rfl (by simp [Value.category]) dL_law_976 (fun r2 u2 hp H locs hP hS => ?_)
  obtain ⟨er2, hu2⟩ := hp
  have hP : va_P D vwCl (LWd cc ad am (σ, u2)) H := hP
  refine lv_icmp_eq (tgt := 1030) hx hb dL_law_979 (by decide) (fun c => ?_) (fun c => ?_)
  · exact kk C σ u2 hRX hu2 (Nat.le_succ _) H locs ls hP hS hl
  · exact absurd (er1.trans er2.symm) c
set_option maxHeartbeats 4000000 in
set_option maxRecDepth 100000 in
theorem law_c26 {p : Program} {l : Launch} {e : Env} {s : State} {m : MethodId} {below : List Frame} {meth : Method} {c : Code} {b L : Nat} {xs : Nat → Int32} {D : va_G} {cc : Nat → ClassId} {ad am : Nat → Nat} (L0 : Lc p s m meth c b L xs D cc) (hd : DA 58 (adm ad am) (fun q => s.heap.size ≤ q)) {C : CS} {σ : XS} {τ : MS} (hRX : RX C σ) (hRM : RM C τ) (hw : c_wr C ≤ 512) (hL : L ≤ 2560) {i : Nat} (hi : 5 * i + 5 ≤ L) (kk : ∀ (C2 : CS) (u1 : XS) (u2 : MS), RX C2 u1 → RM C2 u2 → c_wr C2 ≤ c_wr C + 1 → LAt p l e s m below meth c b D cc ad am u1 u2 1030 (nI (5 * i)) []) : LAt p l e s m below meth c b D cc ad am σ τ 984 (nI (5 * i)) [] := by
  obtain ⟨hx, hb, hr, hml, hown, hts, hX, hbl, hlocks, hK, hSX⟩ := id L0
  have hbA : ¬ (fun q : Nat => s.heap.size ≤ q) b := Nat.not_le.mpr hbl
  intro H locs ls hP hS hl
  refine lv_aload_n hx hb dL_law_984 rfl (lv_at hl 1 rfl) ?_
  refine lv_aload_n hx hb dL_law_985 rfl (lv_at hl 0 rfl) ?_
  refine lv_iload_n hx hb dL_law_986 rfl (lv_at hl 3 rfl) ?_
  refine lv_iconst (v := 1) hx hb dL_law_987 (by decide) ?_
  refine lv_iadd hx hb dL_law_988 ?_
  refine va_sld hx hb hX hbl hbA hS (ix hL 1 (by decide) hi) dL_law_989 ?_
  refine lv_topi (fun a1 ea1 => ?_)
  refine call_L (Wd := LWd cc ad am) (σ := (σ, τ)) L0 hd (lens_x (D := D) (cc := cc) (ad := ad) (am := am) (σ := σ) (τ := τ)) (As := [.int a1]) (rest := []) (ct_X1_all l D cc ad (dx_of hd) C σ a1 hRX) (cwV 1 hts gL_law_X1_all rfl rfl rfl (by decide +kernel) ⟨Nat.le_of_ble_eq_true rfl, Nat.le_of_ble_eq_true rfl⟩) (va_recv hK ((lens_x (D := D) (cc := cc) (ad := ad) (am := am) (σ := σ) (τ := τ)).1 H hP) (ci := 1) (q0 := 0) rfl rfl) hP hS rfl hl.1 rfl (by simp [Value.category]) dL_law_990 (fun r1 u1 hp H locs hP hS => ?_)
  obtain ⟨er1, hu1⟩ := hp
  have hu1 := hu1.symm
  subst hu1
  have hP : va_P D vwCl (LWd cc ad am (σ, τ)) H := hP
  refine lv_aload_n hx hb dL_law_993 rfl (lv_at hl 2 rfl) ?_
  refine lv_aload_n hx hb dL_law_994 rfl (lv_at hl 0 rfl) ?_
  refine lv_iload_n hx hb dL_law_995 rfl (lv_at hl 3 rfl) ?_
  refine lv_iconst (v := 1) hx hb dL_law_996 (by decide) ?_
  refine lv_iadd hx hb dL_law_997 ?_
  refine va_sld hx hb hX hbl hbA hS (ix hL 1 (by decide) hi) dL_law_998 ?_
  refine lv_topi (fun b1 eb1 => ?_)
  have fb1 : a1 = b1 := ea1.trans eb1.symm
  subst fb1
  refine call_L (Wd := LWd cc ad am) (σ := (σ, τ)) L0 hd (lens_m (D := D) (cc := cc) (ad := ad) (am := am) (σ := σ) (τ := τ)) (As := [.int a1]) (rest := [.int r1]) (ct_X2_all l D cc am (dm_of hd) C τ a1 hRM) (cwV 1 hts gL_law_X2_all rfl rfl rfl (by decide +kernel) ⟨Nat.le_of_ble_eq_true rfl, Nat.le_of_ble_eq_true rfl⟩) (va_recv hK ((lens_m (D := D) (cc := cc) (ad := ad) (am := am) (σ := σ) (τ := τ)).1 H hP) (ci := 2) (q0 := 0) rfl rfl) hP hS rfl hl.1 rfl (by simp [Value.category]) dL_law_999 (fun r2 u2 hp H locs hP hS => ?_)
  obtain ⟨er2, hu2⟩ := hp
  have hP : va_P D vwCl (LWd cc ad am (σ, u2)) H := hP
  refine lv_icmp_eq (tgt := 1030) hx hb dL_law_1002 (by decide) (fun c => ?_) (fun c => ?_)
  · exact kk C σ u2 hRX hu2 (Nat.le_succ _) H locs ls hP hS hl
  · exact absurd (er1.trans er2.symm) c
set_option maxHeartbeats 4000000 in
set_option maxRecDepth 100000 in
theorem law_c27 {p : Program} {l : Launch} {e : Env} {s : State} {m : MethodId} {below : List Frame} {meth : Method} {c : Code} {b L : Nat} {xs : Nat → Int32} {D : va_G} {cc : Nat → ClassId} {ad am : Nat → Nat} (L0 : Lc p s m meth c b L xs D cc) (hd : DA 58 (adm ad am) (fun q => s.heap.size ≤ q)) {C : CS} {σ : XS} {τ : MS} (hRX : RX C σ) (hRM : RM C τ) (hw : c_wr C ≤ 512) (hL : L ≤ 2560) {i : Nat} (hi : 5 * i + 5 ≤ L) (kk : ∀ (C2 : CS) (u1 : XS) (u2 : MS), RX C2 u1 → RM C2 u2 → c_wr C2 ≤ c_wr C + 1 → LAt p l e s m below meth c b D cc ad am u1 u2 1030 (nI (5 * i)) []) : LAt p l e s m below meth c b D cc ad am σ τ 1007 (nI (5 * i)) [] := by
  obtain ⟨hx, hb, hr, hml, hown, hts, hX, hbl, hlocks, hK, hSX⟩ := id L0
  have hbA : ¬ (fun q : Nat => s.heap.size ≤ q) b := Nat.not_le.mpr hbl
  intro H locs ls hP hS hl
  refine lv_aload_n hx hb dL_law_1007 rfl (lv_at hl 1 rfl) ?_
  refine lv_aload_n hx hb dL_law_1008 rfl (lv_at hl 0 rfl) ?_
  refine lv_iload_n hx hb dL_law_1009 rfl (lv_at hl 3 rfl) ?_
  refine lv_iconst (v := 1) hx hb dL_law_1010 (by decide) ?_
  refine lv_iadd hx hb dL_law_1011 ?_
  refine va_sld hx hb hX hbl hbA hS (ix hL 1 (by decide) hi) dL_law_1012 ?_
  refine lv_topi (fun a1 ea1 => ?_)
  refine call_L (Wd := LWd cc ad am) (σ := (σ, τ)) L0 hd (lens_x (D := D) (cc := cc) (ad := ad) (am := am) (σ := σ) (τ := τ)) (As := [.int a1]) (rest := []) (ct_X1_total l D cc ad (dx_of hd) C σ a1 hRX) (cwV 1 hts gL_law_X1_total rfl rfl rfl (by decide +kernel) ⟨Nat.le_of_ble_eq_true rfl, Nat.le_of_ble_eq_true rfl⟩) (va_recv hK ((lens_x (D := D) (cc := cc) (ad := ad) (am := am) (σ := σ) (τ := τ)).1 H hP) (ci := 1) (q0 := 0) rfl rfl) hP hS rfl hl.1 rfl (by simp [Value.category]) dL_law_1013 (fun r1 u1 hp H locs hP hS => ?_)
  obtain ⟨er1, hu1⟩ := hp
  have hu1 := hu1.symm
  subst hu1
  have hP : va_P D vwCl (LWd cc ad am (σ, τ)) H := hP
  refine lv_aload_n hx hb dL_law_1016 rfl (lv_at hl 2 rfl) ?_
  refine lv_aload_n hx hb dL_law_1017 rfl (lv_at hl 0 rfl) ?_
  refine lv_iload_n hx hb dL_law_1018 rfl (lv_at hl 3 rfl) ?_
  refine lv_iconst (v := 1) hx hb dL_law_1019 (by decide) ?_
  refine lv_iadd hx hb dL_law_1020 ?_
  refine va_sld hx hb hX hbl hbA hS (ix hL 1 (by decide) hi) dL_law_1021 ?_
  refine lv_topi (fun b1 eb1 => ?_)
  have fb1 : a1 = b1 := ea1.trans eb1.symm
  subst fb1
  refine call_L (Wd := LWd cc ad am) (σ := (σ, τ)) L0 hd (lens_m (D := D) (cc := cc) (ad := ad) (am := am) (σ := σ) (τ := τ)) (As := [.int a1]) (rest := [.int r1]) (ct_X2_total l D cc am (dm_of hd) C τ a1 hRM) (cwV 1 hts gL_law_X2_total rfl rfl rfl (by decide +kernel) ⟨Nat.le_of_ble_eq_true rfl, Nat.le_of_ble_eq_true rfl⟩) (va_recv hK ((lens_m (D := D) (cc := cc) (ad := ad) (am := am) (σ := σ) (τ := τ)).1 H hP) (ci := 2) (q0 := 0) rfl rfl) hP hS rfl hl.1 rfl (by simp [Value.category]) dL_law_1022 (fun r2 u2 hp H locs hP hS => ?_)
  obtain ⟨er2, hu2⟩ := hp
  have hP : va_P D vwCl (LWd cc ad am (σ, u2)) H := hP
  refine lv_icmp_eq (tgt := 1030) hx hb dL_law_1025 (by decide) (fun c => ?_) (fun c => ?_)
  · exact kk C σ u2 hRX hu2 (Nat.le_succ _) H locs ls hP hS hl
  · exact absurd (er1.trans er2.symm) c
