section
-- ===== PART A: goes FIRST, ahead of the names: the tables' words, and 'selects' of the private methods out of them =====
/-- a private method of a class that the tables say can be made, by its rows of tables_1 -/
def lw_okq (q : MethodName × Nat) : Prop := (q.1.cls ≠ "java/lang/invoke/MethodHandle" ∧ q.1.cls ≠ "java/lang/invoke/VarHandle") ∧ Cond.instantiable q.1.cls q.2 ∈ tables_1 ∧ Cond.privateMethod q.1 ∈ tables_1 ∧ Cond.instanceMethod q.1 ∈ tables_1
theorem lw_p0 : lw_okq (⟨"ClassSheets$Kind", "countAnew", "()V"⟩, 7) := ⟨⟨by decide +kernel, by decide +kernel⟩, List.mem_of_getElem? (i := 15) (by decide +kernel), List.mem_of_getElem? (i := 89) (by decide +kernel), List.mem_of_getElem? (i := 90) (by decide +kernel)⟩
theorem lw_p1 : lw_okq (⟨"ClassSheets$Kind", "countBelow", "(II)I"⟩, 7) := ⟨⟨by decide +kernel, by decide +kernel⟩, List.mem_of_getElem? (i := 15) (by decide +kernel), List.mem_of_getElem? (i := 93) (by decide +kernel), List.mem_of_getElem? (i := 94) (by decide +kernel)⟩
theorem lw_p2 : lw_okq (⟨"ClassSheets$Kind", "isLawful", "(II)Z"⟩, 7) := ⟨⟨by decide +kernel, by decide +kernel⟩, List.mem_of_getElem? (i := 15) (by decide +kernel), List.mem_of_getElem? (i := 97) (by decide +kernel), List.mem_of_getElem? (i := 98) (by decide +kernel)⟩
theorem lw_p3 : lw_okq (⟨"ClassSheets$Kind", "otherOperation", "(II)I"⟩, 7) := ⟨⟨by decide +kernel, by decide +kernel⟩, List.mem_of_getElem? (i := 15) (by decide +kernel), List.mem_of_getElem? (i := 109) (by decide +kernel), List.mem_of_getElem? (i := 110) (by decide +kernel)⟩
theorem lw_p4 : lw_okq (⟨"ClassSheets", "isKind", "(I)Z"⟩, 12) := ⟨⟨by decide +kernel, by decide +kernel⟩, List.mem_of_getElem? (i := 6) (by decide +kernel), List.mem_of_getElem? (i := 117) (by decide +kernel), List.mem_of_getElem? (i := 118) (by decide +kernel)⟩
theorem lw_p5 : lw_okq (⟨"ClassSheets", "isVariant", "(II)Z"⟩, 12) := ⟨⟨by decide +kernel, by decide +kernel⟩, List.mem_of_getElem? (i := 6) (by decide +kernel), List.mem_of_getElem? (i := 157) (by decide +kernel), List.mem_of_getElem? (i := 158) (by decide +kernel)⟩
theorem lw_p6 : lw_okq (⟨"ClassSheets$Kind", "withoutCarrying", "(II)I"⟩, 7) := ⟨⟨by decide +kernel, by decide +kernel⟩, List.mem_of_getElem? (i := 15) (by decide +kernel), List.mem_of_getElem? (i := 183) (by decide +kernel), List.mem_of_getElem? (i := 184) (by decide +kernel)⟩
theorem lw_p7 : lw_okq (⟨"ClassSheets", "isPlace", "(I)Z"⟩, 12) := ⟨⟨by decide +kernel, by decide +kernel⟩, List.mem_of_getElem? (i := 6) (by decide +kernel), List.mem_of_getElem? (i := 223) (by decide +kernel), List.mem_of_getElem? (i := 224) (by decide +kernel)⟩
theorem lw_p8 : lw_okq (⟨"ClassSheets", "pageAndLine", "(I)I"⟩, 12) := ⟨⟨by decide +kernel, by decide +kernel⟩, List.mem_of_getElem? (i := 6) (by decide +kernel), List.mem_of_getElem? (i := 235) (by decide +kernel), List.mem_of_getElem? (i := 236) (by decide +kernel)⟩
theorem lw_p9 : lw_okq (⟨"ClassSheets", "placeRefusal", "(II)I"⟩, 12) := ⟨⟨by decide +kernel, by decide +kernel⟩, List.mem_of_getElem? (i := 6) (by decide +kernel), List.mem_of_getElem? (i := 251) (by decide +kernel), List.mem_of_getElem? (i := 252) (by decide +kernel)⟩
theorem lw_p10 : lw_okq (⟨"ClassSheets", "sheetRefusal", "(I)I"⟩, 12) := ⟨⟨by decide +kernel, by decide +kernel⟩, List.mem_of_getElem? (i := 6) (by decide +kernel), List.mem_of_getElem? (i := 255) (by decide +kernel), List.mem_of_getElem? (i := 256) (by decide +kernel)⟩
theorem lw_p11 : lw_okq (⟨"ClassSheets", "lacksVariants", "()Z"⟩, 12) := ⟨⟨by decide +kernel, by decide +kernel⟩, List.mem_of_getElem? (i := 6) (by decide +kernel), List.mem_of_getElem? (i := 262) (by decide +kernel), List.mem_of_getElem? (i := 263) (by decide +kernel)⟩
theorem lw_p12 : lw_okq (⟨"ClassSheets", "variantOn", "(II)I"⟩, 12) := ⟨⟨by decide +kernel, by decide +kernel⟩, List.mem_of_getElem? (i := 6) (by decide +kernel), List.mem_of_getElem? (i := 266) (by decide +kernel), List.mem_of_getElem? (i := 267) (by decide +kernel)⟩
theorem lw_p13 : lw_okq (⟨"ClassSheets", "answerOn", "(II)I"⟩, 12) := ⟨⟨by decide +kernel, by decide +kernel⟩, List.mem_of_getElem? (i := 6) (by decide +kernel), List.mem_of_getElem? (i := 278) (by decide +kernel), List.mem_of_getElem? (i := 279) (by decide +kernel)⟩
theorem lw_p14 : lw_okq (⟨"ClassSheets", "isSeat", "(I)Z"⟩, 12) := ⟨⟨by decide +kernel, by decide +kernel⟩, List.mem_of_getElem? (i := 6) (by decide +kernel), List.mem_of_getElem? (i := 317) (by decide +kernel), List.mem_of_getElem? (i := 318) (by decide +kernel)⟩
theorem lw_p15 : lw_okq (⟨"ClassSheets", "sheetAt", "(I)I"⟩, 12) := ⟨⟨by decide +kernel, by decide +kernel⟩, List.mem_of_getElem? (i := 6) (by decide +kernel), List.mem_of_getElem? (i := 321) (by decide +kernel), List.mem_of_getElem? (i := 322) (by decide +kernel)⟩
def lw_privs_1 : List (MethodName × Nat) := [(⟨"ClassSheets$Kind", "countAnew", "()V"⟩, 7), (⟨"ClassSheets$Kind", "countBelow", "(II)I"⟩, 7), (⟨"ClassSheets$Kind", "isLawful", "(II)Z"⟩, 7), (⟨"ClassSheets$Kind", "otherOperation", "(II)I"⟩, 7), (⟨"ClassSheets", "isKind", "(I)Z"⟩, 12), (⟨"ClassSheets", "isVariant", "(II)Z"⟩, 12), (⟨"ClassSheets$Kind", "withoutCarrying", "(II)I"⟩, 7), (⟨"ClassSheets", "isPlace", "(I)Z"⟩, 12), (⟨"ClassSheets", "pageAndLine", "(I)I"⟩, 12), (⟨"ClassSheets", "placeRefusal", "(II)I"⟩, 12), (⟨"ClassSheets", "sheetRefusal", "(I)I"⟩, 12), (⟨"ClassSheets", "lacksVariants", "()Z"⟩, 12), (⟨"ClassSheets", "variantOn", "(II)I"⟩, 12), (⟨"ClassSheets", "answerOn", "(II)I"⟩, 12), (⟨"ClassSheets", "isSeat", "(I)Z"⟩, 12), (⟨"ClassSheets", "sheetAt", "(I)I"⟩, 12)]
theorem lw_r1 : ∀ q ∈ lw_privs_1, lw_okq q := List.forall_mem_cons.mpr ⟨lw_p0, List.forall_mem_cons.mpr ⟨lw_p1, List.forall_mem_cons.mpr ⟨lw_p2, List.forall_mem_cons.mpr ⟨lw_p3, List.forall_mem_cons.mpr ⟨lw_p4, List.forall_mem_cons.mpr ⟨lw_p5, List.forall_mem_cons.mpr ⟨lw_p6, List.forall_mem_cons.mpr ⟨lw_p7, List.forall_mem_cons.mpr ⟨lw_p8, List.forall_mem_cons.mpr ⟨lw_p9, List.forall_mem_cons.mpr ⟨lw_p10, List.forall_mem_cons.mpr ⟨lw_p11, List.forall_mem_cons.mpr ⟨lw_p12, List.forall_mem_cons.mpr ⟨lw_p13, List.forall_mem_cons.mpr ⟨lw_p14, List.forall_mem_cons.mpr ⟨lw_p15, fun _ h => absurd h List.not_mem_nil⟩⟩⟩⟩⟩⟩⟩⟩⟩⟩⟩⟩⟩⟩⟩⟩
theorem lw_p16 : lw_okq (⟨"ClassSheets", "missesFrom", "(I)I"⟩, 12) := ⟨⟨by decide +kernel, by decide +kernel⟩, List.mem_of_getElem? (i := 6) (by decide +kernel), List.mem_of_getElem? (i := 336) (by decide +kernel), List.mem_of_getElem? (i := 337) (by decide +kernel)⟩
theorem lw_p17 : lw_okq (⟨"ClassSheets", "missesAt", "(I)I"⟩, 12) := ⟨⟨by decide +kernel, by decide +kernel⟩, List.mem_of_getElem? (i := 6) (by decide +kernel), List.mem_of_getElem? (i := 344) (by decide +kernel), List.mem_of_getElem? (i := 345) (by decide +kernel)⟩
theorem lw_p18 : lw_okq (⟨"ClassSheets", "reviewPlaces", "(III)I"⟩, 12) := ⟨⟨by decide +kernel, by decide +kernel⟩, List.mem_of_getElem? (i := 6) (by decide +kernel), List.mem_of_getElem? (i := 352) (by decide +kernel), List.mem_of_getElem? (i := 353) (by decide +kernel)⟩
theorem lw_p19 : lw_okq (⟨"ClassSheetsModel", "noKind", "(I)Z"⟩, 21) := ⟨⟨by decide +kernel, by decide +kernel⟩, List.mem_of_getElem? (i := 364) (by decide +kernel), List.mem_of_getElem? (i := 449) (by decide +kernel), List.mem_of_getElem? (i := 450) (by decide +kernel)⟩
theorem lw_p20 : lw_okq (⟨"ClassSheetsModel", "tell", "(I)I"⟩, 21) := ⟨⟨by decide +kernel, by decide +kernel⟩, List.mem_of_getElem? (i := 364) (by decide +kernel), List.mem_of_getElem? (i := 454) (by decide +kernel), List.mem_of_getElem? (i := 455) (by decide +kernel)⟩
theorem lw_p21 : lw_okq (⟨"ClassSheetsModel", "holds", "(III)Z"⟩, 21) := ⟨⟨by decide +kernel, by decide +kernel⟩, List.mem_of_getElem? (i := 364) (by decide +kernel), List.mem_of_getElem? (i := 458) (by decide +kernel), List.mem_of_getElem? (i := 459) (by decide +kernel)⟩
theorem lw_p22 : lw_okq (⟨"ClassSheetsModel", "noVariant", "(II)Z"⟩, 21) := ⟨⟨by decide +kernel, by decide +kernel⟩, List.mem_of_getElem? (i := 364) (by decide +kernel), List.mem_of_getElem? (i := 487) (by decide +kernel), List.mem_of_getElem? (i := 488) (by decide +kernel)⟩
theorem lw_p23 : lw_okq (⟨"ClassSheetsModel", "pairOf", "(II)I"⟩, 21) := ⟨⟨by decide +kernel, by decide +kernel⟩, List.mem_of_getElem? (i := 364) (by decide +kernel), List.mem_of_getElem? (i := 491) (by decide +kernel), List.mem_of_getElem? (i := 492) (by decide +kernel)⟩
theorem lw_p24 : lw_okq (⟨"ClassSheetsModel", "slipAt", "(III)I"⟩, 21) := ⟨⟨by decide +kernel, by decide +kernel⟩, List.mem_of_getElem? (i := 364) (by decide +kernel), List.mem_of_getElem? (i := 504) (by decide +kernel), List.mem_of_getElem? (i := 505) (by decide +kernel)⟩
theorem lw_p25 : lw_okq (⟨"ClassSheetsModel", "tellsOf", "(III)I"⟩, 21) := ⟨⟨by decide +kernel, by decide +kernel⟩, List.mem_of_getElem? (i := 364) (by decide +kernel), List.mem_of_getElem? (i := 512) (by decide +kernel), List.mem_of_getElem? (i := 513) (by decide +kernel)⟩
theorem lw_p26 : lw_okq (⟨"ClassSheetsModel", "rightAt", "(II)I"⟩, 21) := ⟨⟨by decide +kernel, by decide +kernel⟩, List.mem_of_getElem? (i := 364) (by decide +kernel), List.mem_of_getElem? (i := 516) (by decide +kernel), List.mem_of_getElem? (i := 517) (by decide +kernel)⟩
theorem lw_p27 : lw_okq (⟨"ClassSheetsModel", "noPlace", "(I)Z"⟩, 21) := ⟨⟨by decide +kernel, by decide +kernel⟩, List.mem_of_getElem? (i := 364) (by decide +kernel), List.mem_of_getElem? (i := 533) (by decide +kernel), List.mem_of_getElem? (i := 534) (by decide +kernel)⟩
theorem lw_p28 : lw_okq (⟨"ClassSheetsModel", "where", "(I)I"⟩, 21) := ⟨⟨by decide +kernel, by decide +kernel⟩, List.mem_of_getElem? (i := 364) (by decide +kernel), List.mem_of_getElem? (i := 545) (by decide +kernel), List.mem_of_getElem? (i := 546) (by decide +kernel)⟩
theorem lw_p29 : lw_okq (⟨"ClassSheetsModel", "noSheet", "()Z"⟩, 21) := ⟨⟨by decide +kernel, by decide +kernel⟩, List.mem_of_getElem? (i := 364) (by decide +kernel), List.mem_of_getElem? (i := 560) (by decide +kernel), List.mem_of_getElem? (i := 561) (by decide +kernel)⟩
theorem lw_p30 : lw_okq (⟨"ClassSheetsModel", "variantAt", "(II)I"⟩, 21) := ⟨⟨by decide +kernel, by decide +kernel⟩, List.mem_of_getElem? (i := 364) (by decide +kernel), List.mem_of_getElem? (i := 564) (by decide +kernel), List.mem_of_getElem? (i := 565) (by decide +kernel)⟩
theorem lw_p31 : lw_okq (⟨"ClassSheetsModel", "ahead", "(II)I"⟩, 21) := ⟨⟨by decide +kernel, by decide +kernel⟩, List.mem_of_getElem? (i := 364) (by decide +kernel), List.mem_of_getElem? (i := 568) (by decide +kernel), List.mem_of_getElem? (i := 569) (by decide +kernel)⟩
def lw_privs_2 : List (MethodName × Nat) := [(⟨"ClassSheets", "missesFrom", "(I)I"⟩, 12), (⟨"ClassSheets", "missesAt", "(I)I"⟩, 12), (⟨"ClassSheets", "reviewPlaces", "(III)I"⟩, 12), (⟨"ClassSheetsModel", "noKind", "(I)Z"⟩, 21), (⟨"ClassSheetsModel", "tell", "(I)I"⟩, 21), (⟨"ClassSheetsModel", "holds", "(III)Z"⟩, 21), (⟨"ClassSheetsModel", "noVariant", "(II)Z"⟩, 21), (⟨"ClassSheetsModel", "pairOf", "(II)I"⟩, 21), (⟨"ClassSheetsModel", "slipAt", "(III)I"⟩, 21), (⟨"ClassSheetsModel", "tellsOf", "(III)I"⟩, 21), (⟨"ClassSheetsModel", "rightAt", "(II)I"⟩, 21), (⟨"ClassSheetsModel", "noPlace", "(I)Z"⟩, 21), (⟨"ClassSheetsModel", "where", "(I)I"⟩, 21), (⟨"ClassSheetsModel", "noSheet", "()Z"⟩, 21), (⟨"ClassSheetsModel", "variantAt", "(II)I"⟩, 21), (⟨"ClassSheetsModel", "ahead", "(II)I"⟩, 21)]
theorem lw_r2 : ∀ q ∈ lw_privs_2, lw_okq q := List.forall_mem_cons.mpr ⟨lw_p16, List.forall_mem_cons.mpr ⟨lw_p17, List.forall_mem_cons.mpr ⟨lw_p18, List.forall_mem_cons.mpr ⟨lw_p19, List.forall_mem_cons.mpr ⟨lw_p20, List.forall_mem_cons.mpr ⟨lw_p21, List.forall_mem_cons.mpr ⟨lw_p22, List.forall_mem_cons.mpr ⟨lw_p23, List.forall_mem_cons.mpr ⟨lw_p24, List.forall_mem_cons.mpr ⟨lw_p25, List.forall_mem_cons.mpr ⟨lw_p26, List.forall_mem_cons.mpr ⟨lw_p27, List.forall_mem_cons.mpr ⟨lw_p28, List.forall_mem_cons.mpr ⟨lw_p29, List.forall_mem_cons.mpr ⟨lw_p30, List.forall_mem_cons.mpr ⟨lw_p31, fun _ h => absurd h List.not_mem_nil⟩⟩⟩⟩⟩⟩⟩⟩⟩⟩⟩⟩⟩⟩⟩⟩
theorem lw_p32 : lw_okq (⟨"ClassSheetsModel", "answerAt", "(II)I"⟩, 21) := ⟨⟨by decide +kernel, by decide +kernel⟩, List.mem_of_getElem? (i := 364) (by decide +kernel), List.mem_of_getElem? (i := 576) (by decide +kernel), List.mem_of_getElem? (i := 577) (by decide +kernel)⟩
theorem lw_p33 : lw_okq (⟨"ClassSheetsModel", "isApart", "(II)Z"⟩, 21) := ⟨⟨by decide +kernel, by decide +kernel⟩, List.mem_of_getElem? (i := 364) (by decide +kernel), List.mem_of_getElem? (i := 592) (by decide +kernel), List.mem_of_getElem? (i := 593) (by decide +kernel)⟩
theorem lw_p34 : lw_okq (⟨"ClassSheetsModel", "noSeat", "(I)Z"⟩, 21) := ⟨⟨by decide +kernel, by decide +kernel⟩, List.mem_of_getElem? (i := 364) (by decide +kernel), List.mem_of_getElem? (i := 610) (by decide +kernel), List.mem_of_getElem? (i := 611) (by decide +kernel)⟩
theorem lw_p35 : lw_okq (⟨"ClassSheetsModel", "sheetOf", "(I)I"⟩, 21) := ⟨⟨by decide +kernel, by decide +kernel⟩, List.mem_of_getElem? (i := 364) (by decide +kernel), List.mem_of_getElem? (i := 614) (by decide +kernel), List.mem_of_getElem? (i := 615) (by decide +kernel)⟩
theorem lw_p36 : lw_okq (⟨"ClassSheetsModel", "sit", "()V"⟩, 21) := ⟨⟨by decide +kernel, by decide +kernel⟩, List.mem_of_getElem? (i := 364) (by decide +kernel), List.mem_of_getElem? (i := 618) (by decide +kernel), List.mem_of_getElem? (i := 619) (by decide +kernel)⟩
theorem lw_p37 : lw_okq (⟨"ClassSheetsModel", "isNear", "(III)Z"⟩, 21) := ⟨⟨by decide +kernel, by decide +kernel⟩, List.mem_of_getElem? (i := 364) (by decide +kernel), List.mem_of_getElem? (i := 622) (by decide +kernel), List.mem_of_getElem? (i := 623) (by decide +kernel)⟩
theorem lw_p38 : lw_okq (⟨"ClassSheetsModel", "missedOf", "(II)I"⟩, 21) := ⟨⟨by decide +kernel, by decide +kernel⟩, List.mem_of_getElem? (i := 364) (by decide +kernel), List.mem_of_getElem? (i := 638) (by decide +kernel), List.mem_of_getElem? (i := 639) (by decide +kernel)⟩
def lw_privs_3 : List (MethodName × Nat) := [(⟨"ClassSheetsModel", "answerAt", "(II)I"⟩, 21), (⟨"ClassSheetsModel", "isApart", "(II)Z"⟩, 21), (⟨"ClassSheetsModel", "noSeat", "(I)Z"⟩, 21), (⟨"ClassSheetsModel", "sheetOf", "(I)I"⟩, 21), (⟨"ClassSheetsModel", "sit", "()V"⟩, 21), (⟨"ClassSheetsModel", "isNear", "(III)Z"⟩, 21), (⟨"ClassSheetsModel", "missedOf", "(II)I"⟩, 21)]
theorem lw_r3 : ∀ q ∈ lw_privs_3, lw_okq q := List.forall_mem_cons.mpr ⟨lw_p32, List.forall_mem_cons.mpr ⟨lw_p33, List.forall_mem_cons.mpr ⟨lw_p34, List.forall_mem_cons.mpr ⟨lw_p35, List.forall_mem_cons.mpr ⟨lw_p36, List.forall_mem_cons.mpr ⟨lw_p37, List.forall_mem_cons.mpr ⟨lw_p38, fun _ h => absurd h List.not_mem_nil⟩⟩⟩⟩⟩⟩⟩
def lw_privs : List (MethodName × Nat) := lw_privs_1 ++ (lw_privs_2 ++ (lw_privs_3))
def lw_tbl : List Cond := k2_sels lw_privs ++ tables_1
theorem lw_privs_ok : ∀ q ∈ lw_privs, lw_okq q := by
  show ∀ q ∈ lw_privs_1 ++ (lw_privs_2 ++ (lw_privs_3)), lw_okq q
  exact List.forall_mem_append.mpr ⟨lw_r1, List.forall_mem_append.mpr ⟨lw_r2, lw_r3⟩⟩
end
section
/-! ===== BEGIN words of one list among another's, by their places ===== -/
theorem goodIn_r {big : List Cond} (ws : List Cond) (ps : List Nat) (hp : ws = ps.filterMap (fun i => big[i]?)) (h : ws.all goodWord = true) : GoodIn big ws := by
  intro w hw
  have h1 := List.all_eq_true.mp h w hw
  rw [hp] at hw
  obtain ⟨i, -, hi⟩ := List.mem_filterMap.mp hw
  have hm : w ∈ big := by first | exact List.mem_of_getElem? hi | exact List.getElem?_mem hi
  exact ⟨hm, good_of_word h1⟩
theorem goodIn_app {big a b : List Cond} (ha : GoodIn big a) (hb : GoodIn big b) : GoodIn big (a ++ b) := fun w h => (List.mem_append.mp h).elim (ha w) (hb w)
theorem goodIn_ca {big a b : List Cond} {c : Cond} (ha : GoodIn big (c :: a)) (hb : GoodIn big b) : GoodIn big (c :: (a ++ b)) := fun w h => (List.mem_cons.mp h).elim (fun e => ha w (List.mem_cons.mpr (Or.inl e))) (fun h => (List.mem_append.mp h).elim (fun h => ha w (List.mem_cons.mpr (Or.inr h))) (hb w))
theorem goodIn_sub {big ws : List Cond} (hm : ∀ w ∈ ws, w ∈ big) (h : ws.all goodWord = true) : GoodIn big ws := fun w hw => ⟨hm w hw, good_of_word (List.all_eq_true.mp h w hw)⟩
/-! ===== END ===== -/

/-! ===== BEGIN printed: names, fields, word lists, decode rows ===== -/
def RX0 : String := "ClassSheets$Kind"
def TX0 : u_T := fun k => match k with
  | 0 => ("ClassSheets$Kind", "operation", "I", false)
  | 1 => ("ClassSheets$Kind", "least", "[I", true)
  | 2 => ("ClassSheets$Kind", "most", "[I", true)
  | 3 => ("ClassSheets$Kind", "rules", "[I", true)
  | 4 => ("ClassSheets$Kind", "before", "[I", true)
  | 5 => ("ClassSheets$Kind", "count", "I", false)
  | _ => ("ClassSheets$Kind", "places", "I", false)
def tyX0 : Nat → FieldType := fun k => match k with
  | 0 => .int
  | 1 => .array .int
  | 2 => .array .int
  | 3 => .array .int
  | 4 => .array .int
  | 5 => .int
  | _ => .int
abbrev wsX00 : List Cond := u_ws RX0 TX0 7
theorem nmX0 : ∀ a, a < 7 → ∀ b, b < 7 → a ≠ b → (TX0 a).2.1 ≠ (TX0 b).2.1 := by decide +kernel
theorem tyX0_ok : ∀ k, k < 7 → parseFieldDescriptor (TX0 k).2.2.1 = some (tyX0 k) := by decide +kernel
abbrev cX0_init : ByteArray := prog_2_method_1_code
def yX0_init : MethodName := ⟨RX0, "<init>", "()V"⟩
abbrev cX0_isRange : ByteArray := prog_2_method_2_code
def yX0_isRange : MethodName := ⟨RX0, "isRange", "(III)Z"⟩
abbrev cX0_isRule : ByteArray := prog_2_method_3_code
def yX0_isRule : MethodName := ⟨RX0, "isRule", "(II)Z"⟩
abbrev cX0_open : ByteArray := prog_2_method_4_code
def yX0_open : MethodName := ⟨RX0, "open", "(I)V"⟩
abbrev cX0_setRange : ByteArray := prog_2_method_5_code
def yX0_setRange : MethodName := ⟨RX0, "setRange", "(III)V"⟩
abbrev cX0_setRule : ByteArray := prog_2_method_6_code
def yX0_setRule : MethodName := ⟨RX0, "setRule", "(II)I"⟩
abbrev cX0_size : ByteArray := prog_2_method_7_code
def yX0_size : MethodName := ⟨RX0, "size", "()I"⟩
abbrev cX0_linesTaken : ByteArray := prog_2_method_8_code
def yX0_linesTaken : MethodName := ⟨RX0, "linesTaken", "()I"⟩
abbrev cX0_countAnew : ByteArray := prog_2_method_9_code
def yX0_countAnew : MethodName := ⟨RX0, "countAnew", "()V"⟩
abbrev cX0_countBelow : ByteArray := prog_2_method_10_code
def yX0_countBelow : MethodName := ⟨RX0, "countBelow", "(II)I"⟩
abbrev cX0_pairAt : ByteArray := prog_2_method_11_code
def yX0_pairAt : MethodName := ⟨RX0, "pairAt", "(I)I"⟩
abbrev cX0_numberOf : ByteArray := prog_2_method_12_code
def yX0_numberOf : MethodName := ⟨RX0, "numberOf", "(II)I"⟩
abbrev cX0_isLawful : ByteArray := prog_2_method_13_code
def yX0_isLawful : MethodName := ⟨RX0, "isLawful", "(II)Z"⟩
abbrev cX0_result : ByteArray := prog_2_method_14_code
def yX0_result : MethodName := ⟨RX0, "result", "(II)I"⟩
abbrev cX0_carries : ByteArray := prog_2_method_15_code
def yX0_carries : MethodName := ⟨RX0, "carries", "(II)Z"⟩
abbrev cX0_slipped : ByteArray := prog_2_method_16_code
def yX0_slipped : MethodName := ⟨RX0, "slipped", "(III)I"⟩
abbrev cX0_slipBehind : ByteArray := prog_2_method_17_code
def yX0_slipBehind : MethodName := ⟨RX0, "slipBehind", "(II)I"⟩
abbrev cX0_otherOperation : ByteArray := prog_2_method_18_code
def yX0_otherOperation : MethodName := ⟨RX0, "otherOperation", "(II)I"⟩
abbrev cX0_withoutCarrying : ByteArray := prog_2_method_19_code
def yX0_withoutCarrying : MethodName := ⟨RX0, "withoutCarrying", "(II)I"⟩
abbrev cX0_exchanged : ByteArray := prog_2_method_20_code
def yX0_exchanged : MethodName := ⟨RX0, "exchanged", "(I)I"⟩
abbrev cX0_addPlace : ByteArray := prog_2_method_21_code
def yX0_addPlace : MethodName := ⟨RX0, "addPlace", "()I"⟩
abbrev cX0_dropPlaces : ByteArray := prog_2_method_22_code
def yX0_dropPlaces : MethodName := ⟨RX0, "dropPlaces", "()V"⟩
abbrev cX0_hasEnoughForTwo : ByteArray := prog_2_method_23_code
def yX0_hasEnoughForTwo : MethodName := ⟨RX0, "hasEnoughForTwo", "()Z"⟩
abbrev cX0_variantFor : ByteArray := prog_2_method_24_code
def yX0_variantFor : MethodName := ⟨RX0, "variantFor", "(II)I"⟩
abbrev cX0_placesInCommon : ByteArray := prog_2_method_25_code
def yX0_placesInCommon : MethodName := ⟨RX0, "placesInCommon", "(II)I"⟩
def RX1 : String := "ClassSheets"
def TX1 : u_T := fun k => match k with
  | 0 => ("ClassSheets", "kinds", "[LClassSheets$Kind;", true)
  | 1 => ("ClassSheets", "kindCount", "I", false)
  | 2 => ("ClassSheets", "plannedKinds", "[I", true)
  | 3 => ("ClassSheets", "turns", "[I", true)
  | 4 => ("ClassSheets", "placeCount", "I", false)
  | 5 => ("ClassSheets", "pageLines", "I", false)
  | 6 => ("ClassSheets", "rowCount", "I", false)
  | 7 => ("ClassSheets", "columnCount", "I", false)
  | 8 => ("ClassSheets", "baseNumber", "I", false)
  | 9 => ("ClassSheets", "misses", "[I", true)
  | 10 => ("ClassSheets", "rightMarks", "I", false)
  | _ => ("ClassSheets", "wrongMarks", "I", false)
def tyX1 : Nat → FieldType := fun k => match k with
  | 0 => .array (.object "ClassSheets$Kind")
  | 1 => .int
  | 2 => .array .int
  | 3 => .array .int
  | 4 => .int
  | 5 => .int
  | 6 => .int
  | 7 => .int
  | 8 => .int
  | 9 => .array .int
  | 10 => .int
  | _ => .int
abbrev wsX10 : List Cond := u_ws RX1 TX1 12
theorem nmX1 : ∀ a, a < 12 → ∀ b, b < 12 → a ≠ b → (TX1 a).2.1 ≠ (TX1 b).2.1 := by decide +kernel
theorem tyX1_ok : ∀ k, k < 12 → parseFieldDescriptor (TX1 k).2.2.1 = some (tyX1 k) := by decide +kernel
abbrev cX1_init : ByteArray := prog_1_method_1_code
def yX1_init : MethodName := ⟨RX1, "<init>", "()V"⟩
abbrev cX1_kind : ByteArray := prog_1_method_2_code
def yX1_kind : MethodName := ⟨RX1, "kind", "(I)I"⟩
abbrev cX1_range : ByteArray := prog_1_method_3_code
def yX1_range : MethodName := ⟨RX1, "range", "(IIII)I"⟩
abbrev cX1_rule : ByteArray := prog_1_method_4_code
def yX1_rule : MethodName := ⟨RX1, "rule", "(III)I"⟩
abbrev cX1_variants : ByteArray := prog_1_method_5_code
def yX1_variants : MethodName := ⟨RX1, "variants", "(I)I"⟩
abbrev cX1_variant : ByteArray := prog_1_method_6_code
def yX1_variant : MethodName := ⟨RX1, "variant", "(III)I"⟩
abbrev cX1_find : ByteArray := prog_1_method_7_code
def yX1_find : MethodName := ⟨RX1, "find", "(III)I"⟩
abbrev cX1_slip : ByteArray := prog_1_method_8_code
def yX1_slip : MethodName := ⟨RX1, "slip", "(III)I"⟩
abbrev cX1_tells : ByteArray := prog_1_method_9_code
def yX1_tells : MethodName := ⟨RX1, "tells", "(III)I"⟩
abbrev cX1_isKind : ByteArray := prog_1_method_10_code
def yX1_isKind : MethodName := ⟨RX1, "isKind", "(I)Z"⟩
abbrev cX1_isVariant : ByteArray := prog_1_method_11_code
def yX1_isVariant : MethodName := ⟨RX1, "isVariant", "(II)Z"⟩
abbrev cX1_plan : ByteArray := prog_1_method_12_code
def yX1_plan : MethodName := ⟨RX1, "plan", "(II)I"⟩
abbrev cX1_clear : ByteArray := prog_1_method_13_code
def yX1_clear : MethodName := ⟨RX1, "clear", "()I"⟩
abbrev cX1_placed : ByteArray := prog_1_method_14_code
def yX1_placed : MethodName := ⟨RX1, "placed", "(I)I"⟩
abbrev cX1_lines : ByteArray := prog_1_method_15_code
def yX1_lines : MethodName := ⟨RX1, "lines", "(I)I"⟩
abbrev cX1_pages : ByteArray := prog_1_method_16_code
def yX1_pages : MethodName := ⟨RX1, "pages", "()I"⟩
abbrev cX1_page : ByteArray := prog_1_method_17_code
def yX1_page : MethodName := ⟨RX1, "page", "(IZ)I"⟩
abbrev cX1_isPlace : ByteArray := prog_1_method_18_code
def yX1_isPlace : MethodName := ⟨RX1, "isPlace", "(I)Z"⟩
abbrev cX1_pageAndLine : ByteArray := prog_1_method_19_code
def yX1_pageAndLine : MethodName := ⟨RX1, "pageAndLine", "(I)I"⟩
abbrev cX1_sheet : ByteArray := prog_1_method_20_code
def yX1_sheet : MethodName := ⟨RX1, "sheet", "(II)I"⟩
abbrev cX1_answer : ByteArray := prog_1_method_21_code
def yX1_answer : MethodName := ⟨RX1, "answer", "(II)I"⟩
abbrev cX1_code : ByteArray := prog_1_method_22_code
def yX1_code : MethodName := ⟨RX1, "code", "(I)I"⟩
abbrev cX1_shared : ByteArray := prog_1_method_23_code
def yX1_shared : MethodName := ⟨RX1, "shared", "(II)I"⟩
abbrev cX1_apart : ByteArray := prog_1_method_24_code
def yX1_apart : MethodName := ⟨RX1, "apart", "(I)I"⟩
abbrev cX1_isSheet : ByteArray := prog_1_method_25_code
def yX1_isSheet : MethodName := ⟨RX1, "isSheet", "(I)Z"⟩
abbrev cX1_lacksVariants : ByteArray := prog_1_method_26_code
def yX1_lacksVariants : MethodName := ⟨RX1, "lacksVariants", "()Z"⟩
abbrev cX1_sheetRefusal : ByteArray := prog_1_method_27_code
def yX1_sheetRefusal : MethodName := ⟨RX1, "sheetRefusal", "(I)I"⟩
abbrev cX1_placeRefusal : ByteArray := prog_1_method_28_code
def yX1_placeRefusal : MethodName := ⟨RX1, "placeRefusal", "(II)I"⟩
abbrev cX1_variantOn : ByteArray := prog_1_method_29_code
def yX1_variantOn : MethodName := ⟨RX1, "variantOn", "(II)I"⟩
abbrev cX1_answerOn : ByteArray := prog_1_method_30_code
def yX1_answerOn : MethodName := ⟨RX1, "answerOn", "(II)I"⟩
abbrev cX1_seats : ByteArray := prog_1_method_31_code
def yX1_seats : MethodName := ⟨RX1, "seats", "(II)I"⟩
abbrev cX1_base : ByteArray := prog_1_method_32_code
def yX1_base : MethodName := ⟨RX1, "base", "(I)I"⟩
abbrev cX1_seat : ByteArray := prog_1_method_33_code
def yX1_seat : MethodName := ⟨RX1, "seat", "(I)I"⟩
abbrev cX1_unlike : ByteArray := prog_1_method_34_code
def yX1_unlike : MethodName := ⟨RX1, "unlike", "()I"⟩
abbrev cX1_mark : ByteArray := prog_1_method_35_code
def yX1_mark : MethodName := ⟨RX1, "mark", "(III)I"⟩
abbrev cX1_missed : ByteArray := prog_1_method_36_code
def yX1_missed : MethodName := ⟨RX1, "missed", "(II)I"⟩
abbrev cX1_review : ByteArray := prog_1_method_37_code
def yX1_review : MethodName := ⟨RX1, "review", "(III)I"⟩
abbrev cX1_all : ByteArray := prog_1_method_38_code
def yX1_all : MethodName := ⟨RX1, "all", "(I)I"⟩
abbrev cX1_total : ByteArray := prog_1_method_39_code
def yX1_total : MethodName := ⟨RX1, "total", "(I)I"⟩
abbrev cX1_isSeat : ByteArray := prog_1_method_40_code
def yX1_isSeat : MethodName := ⟨RX1, "isSeat", "(I)Z"⟩
abbrev cX1_sheetAt : ByteArray := prog_1_method_41_code
def yX1_sheetAt : MethodName := ⟨RX1, "sheetAt", "(I)I"⟩
abbrev cX1_missesFrom : ByteArray := prog_1_method_42_code
def yX1_missesFrom : MethodName := ⟨RX1, "missesFrom", "(I)I"⟩
abbrev cX1_missesAt : ByteArray := prog_1_method_43_code
def yX1_missesAt : MethodName := ⟨RX1, "missesAt", "(I)I"⟩
abbrev cX1_reviewPlaces : ByteArray := prog_1_method_44_code
def yX1_reviewPlaces : MethodName := ⟨RX1, "reviewPlaces", "(III)I"⟩
def RX2 : String := "ClassSheetsModel"
def TX2 : u_T := fun k => match k with
  | 0 => ("ClassSheetsModel", "thrown", "I", false)
  | 1 => ("ClassSheetsModel", "kinds", "I", false)
  | 2 => ("ClassSheetsModel", "operation", "[I", true)
  | 3 => ("ClassSheetsModel", "from", "[I", true)
  | 4 => ("ClassSheetsModel", "to", "[I", true)
  | 5 => ("ClassSheetsModel", "law", "[I", true)
  | 6 => ("ClassSheetsModel", "takes", "[I", true)
  | 7 => ("ClassSheetsModel", "begin", "[I", true)
  | 8 => ("ClassSheetsModel", "isTold", "[Z", true)
  | 9 => ("ClassSheetsModel", "many", "[I", true)
  | 10 => ("ClassSheetsModel", "pairs", "[S", true)
  | 11 => ("ClassSheetsModel", "places", "I", false)
  | 12 => ("ClassSheetsModel", "plan", "[I", true)
  | 13 => ("ClassSheetsModel", "lines", "I", false)
  | 14 => ("ClassSheetsModel", "rows", "I", false)
  | 15 => ("ClassSheetsModel", "columns", "I", false)
  | 16 => ("ClassSheetsModel", "base", "I", false)
  | 17 => ("ClassSheetsModel", "number", "[I", true)
  | 18 => ("ClassSheetsModel", "missed", "[I", true)
  | 19 => ("ClassSheetsModel", "right", "I", false)
  | _ => ("ClassSheetsModel", "wrong", "I", false)
def tyX2 : Nat → FieldType := fun k => match k with
  | 0 => .int
  | 1 => .int
  | 2 => .array .int
  | 3 => .array .int
  | 4 => .array .int
  | 5 => .array .int
  | 6 => .array .int
  | 7 => .array .int
  | 8 => .array .boolean
  | 9 => .array .int
  | 10 => .array .short
  | 11 => .int
  | 12 => .array .int
  | 13 => .int
  | 14 => .int
  | 15 => .int
  | 16 => .int
  | 17 => .array .int
  | 18 => .array .int
  | 19 => .int
  | _ => .int
abbrev wsX20 : List Cond := u_ws RX2 TX2 21
theorem nmX2 : ∀ a, a < 21 → ∀ b, b < 21 → a ≠ b → (TX2 a).2.1 ≠ (TX2 b).2.1 := by decide +kernel
theorem tyX2_ok : ∀ k, k < 21 → parseFieldDescriptor (TX2 k).2.2.1 = some (tyX2 k) := by decide +kernel
abbrev cX2_init : ByteArray := prog_4_method_1_code
def yX2_init : MethodName := ⟨RX2, "<init>", "()V"⟩
abbrev cX2_in : ByteArray := prog_4_method_3_code
def yX2_in : MethodName := ⟨RX2, "in", "(JJJ)Z"⟩
abbrev cX2_noKind : ByteArray := prog_4_method_4_code
def yX2_noKind : MethodName := ⟨RX2, "noKind", "(I)Z"⟩
abbrev cX2_noPlace : ByteArray := prog_4_method_5_code
def yX2_noPlace : MethodName := ⟨RX2, "noPlace", "(I)Z"⟩
abbrev cX2_noSeat : ByteArray := prog_4_method_6_code
def yX2_noSeat : MethodName := ⟨RX2, "noSeat", "(I)Z"⟩
abbrev cX2_answerOf : ByteArray := prog_4_method_7_code
def yX2_answerOf : MethodName := ⟨RX2, "answerOf", "(III)I"⟩
abbrev cX2_carries : ByteArray := prog_4_method_8_code
def yX2_carries : MethodName := ⟨RX2, "carries", "(III)Z"⟩
abbrev cX2_slipOf : ByteArray := prog_4_method_9_code
def yX2_slipOf : MethodName := ⟨RX2, "slipOf", "(IIII)I"⟩
abbrev cX2_holds : ByteArray := prog_4_method_10_code
def yX2_holds : MethodName := ⟨RX2, "holds", "(III)Z"⟩
abbrev cX2_tell : ByteArray := prog_4_method_11_code
def yX2_tell : MethodName := ⟨RX2, "tell", "(I)I"⟩
abbrev cX2_pairOf : ByteArray := prog_4_method_12_code
def yX2_pairOf : MethodName := ⟨RX2, "pairOf", "(II)I"⟩
abbrev cX2_noVariant : ByteArray := prog_4_method_13_code
def yX2_noVariant : MethodName := ⟨RX2, "noVariant", "(II)Z"⟩
abbrev cX2_kind : ByteArray := prog_4_method_14_code
def yX2_kind : MethodName := ⟨RX2, "kind", "(I)I"⟩
abbrev cX2_range : ByteArray := prog_4_method_15_code
def yX2_range : MethodName := ⟨RX2, "range", "(IIII)I"⟩
abbrev cX2_rule : ByteArray := prog_4_method_16_code
def yX2_rule : MethodName := ⟨RX2, "rule", "(III)I"⟩
abbrev cX2_variants : ByteArray := prog_4_method_17_code
def yX2_variants : MethodName := ⟨RX2, "variants", "(I)I"⟩
abbrev cX2_variant : ByteArray := prog_4_method_18_code
def yX2_variant : MethodName := ⟨RX2, "variant", "(III)I"⟩
abbrev cX2_find : ByteArray := prog_4_method_19_code
def yX2_find : MethodName := ⟨RX2, "find", "(III)I"⟩
abbrev cX2_slipAt : ByteArray := prog_4_method_20_code
def yX2_slipAt : MethodName := ⟨RX2, "slipAt", "(III)I"⟩
abbrev cX2_rightAt : ByteArray := prog_4_method_21_code
def yX2_rightAt : MethodName := ⟨RX2, "rightAt", "(II)I"⟩
abbrev cX2_slip : ByteArray := prog_4_method_22_code
def yX2_slip : MethodName := ⟨RX2, "slip", "(III)I"⟩
abbrev cX2_tellsOf : ByteArray := prog_4_method_23_code
def yX2_tellsOf : MethodName := ⟨RX2, "tellsOf", "(III)I"⟩
abbrev cX2_tells : ByteArray := prog_4_method_24_code
def yX2_tells : MethodName := ⟨RX2, "tells", "(III)I"⟩
abbrev cX2_plan : ByteArray := prog_4_method_25_code
def yX2_plan : MethodName := ⟨RX2, "plan", "(II)I"⟩
abbrev cX2_clear : ByteArray := prog_4_method_26_code
def yX2_clear : MethodName := ⟨RX2, "clear", "()I"⟩
abbrev cX2_placed : ByteArray := prog_4_method_27_code
def yX2_placed : MethodName := ⟨RX2, "placed", "(I)I"⟩
abbrev cX2_lines : ByteArray := prog_4_method_28_code
def yX2_lines : MethodName := ⟨RX2, "lines", "(I)I"⟩
abbrev cX2_where : ByteArray := prog_4_method_29_code
def yX2_where : MethodName := ⟨RX2, "where", "(I)I"⟩
abbrev cX2_pages : ByteArray := prog_4_method_30_code
def yX2_pages : MethodName := ⟨RX2, "pages", "()I"⟩
abbrev cX2_page : ByteArray := prog_4_method_31_code
def yX2_page : MethodName := ⟨RX2, "page", "(IZ)I"⟩
abbrev cX2_noSheet : ByteArray := prog_4_method_32_code
def yX2_noSheet : MethodName := ⟨RX2, "noSheet", "()Z"⟩
abbrev cX2_ahead : ByteArray := prog_4_method_33_code
def yX2_ahead : MethodName := ⟨RX2, "ahead", "(II)I"⟩
abbrev cX2_variantAt : ByteArray := prog_4_method_34_code
def yX2_variantAt : MethodName := ⟨RX2, "variantAt", "(II)I"⟩
abbrev cX2_noNumber : ByteArray := prog_4_method_35_code
def yX2_noNumber : MethodName := ⟨RX2, "noNumber", "(I)Z"⟩
abbrev cX2_sheet : ByteArray := prog_4_method_36_code
def yX2_sheet : MethodName := ⟨RX2, "sheet", "(II)I"⟩
abbrev cX2_answerAt : ByteArray := prog_4_method_37_code
def yX2_answerAt : MethodName := ⟨RX2, "answerAt", "(II)I"⟩
abbrev cX2_answer : ByteArray := prog_4_method_38_code
def yX2_answer : MethodName := ⟨RX2, "answer", "(II)I"⟩
abbrev cX2_code : ByteArray := prog_4_method_39_code
def yX2_code : MethodName := ⟨RX2, "code", "(I)I"⟩
abbrev cX2_shared : ByteArray := prog_4_method_40_code
def yX2_shared : MethodName := ⟨RX2, "shared", "(II)I"⟩
abbrev cX2_isApart : ByteArray := prog_4_method_41_code
def yX2_isApart : MethodName := ⟨RX2, "isApart", "(II)Z"⟩
abbrev cX2_apart : ByteArray := prog_4_method_42_code
def yX2_apart : MethodName := ⟨RX2, "apart", "(I)I"⟩
abbrev cX2_seats : ByteArray := prog_4_method_43_code
def yX2_seats : MethodName := ⟨RX2, "seats", "(II)I"⟩
abbrev cX2_sit : ByteArray := prog_4_method_44_code
def yX2_sit : MethodName := ⟨RX2, "sit", "()V"⟩
abbrev cX2_isNear : ByteArray := prog_4_method_45_code
def yX2_isNear : MethodName := ⟨RX2, "isNear", "(III)Z"⟩
abbrev cX2_base : ByteArray := prog_4_method_46_code
def yX2_base : MethodName := ⟨RX2, "base", "(I)I"⟩
abbrev cX2_sheetOf : ByteArray := prog_4_method_47_code
def yX2_sheetOf : MethodName := ⟨RX2, "sheetOf", "(I)I"⟩
abbrev cX2_seat : ByteArray := prog_4_method_48_code
def yX2_seat : MethodName := ⟨RX2, "seat", "(I)I"⟩
abbrev cX2_unlike : ByteArray := prog_4_method_49_code
def yX2_unlike : MethodName := ⟨RX2, "unlike", "()I"⟩
abbrev cX2_mark : ByteArray := prog_4_method_50_code
def yX2_mark : MethodName := ⟨RX2, "mark", "(III)I"⟩
abbrev cX2_missedOf : ByteArray := prog_4_method_51_code
def yX2_missedOf : MethodName := ⟨RX2, "missedOf", "(II)I"⟩
abbrev cX2_missed : ByteArray := prog_4_method_52_code
def yX2_missed : MethodName := ⟨RX2, "missed", "(II)I"⟩
abbrev cX2_review : ByteArray := prog_4_method_53_code
def yX2_review : MethodName := ⟨RX2, "review", "(III)I"⟩
abbrev cX2_all : ByteArray := prog_4_method_54_code
def yX2_all : MethodName := ⟨RX2, "all", "(I)I"⟩
abbrev cX2_total : ByteArray := prog_4_method_55_code
def yX2_total : MethodName := ⟨RX2, "total", "(I)I"⟩
def RJ9 : String := "java/lang/Math"
def TJ9 : u_T := fun k => match k with
  | _ => ("", "", "", false)
def tyJ9 : Nat → FieldType := fun k => match k with
  | _ => .int
abbrev wsJ90 : List Cond := u_ws RJ9 TJ9 0
theorem nmJ9 : ∀ a, a < 0 → ∀ b, b < 0 → a ≠ b → (TJ9 a).2.1 ≠ (TJ9 b).2.1 := by decide +kernel
theorem tyJ9_ok : ∀ k, k < 0 → parseFieldDescriptor (TJ9 k).2.2.1 = some (tyJ9 k) := by decide +kernel
abbrev cJ9_floorMod_7cf53 : ByteArray := prog_5_method_50_code
def yJ9_floorMod_7cf53 : MethodName := ⟨RJ9, "floorMod", "(II)I"⟩
abbrev cJ9_abs_0f7a4 : ByteArray := prog_5_method_59_code
def yJ9_abs_0f7a4 : MethodName := ⟨RJ9, "abs", "(I)I"⟩
abbrev cJ9_min_7cf53 : ByteArray := prog_5_method_69_code
def yJ9_min_7cf53 : MethodName := ⟨RJ9, "min", "(II)I"⟩
def RL : String := "ClassSheetsLaw"
abbrev cL_law : ByteArray := code
def yL_law : MethodName := ⟨RL, "law", "([I)Z"⟩
def wsX0_init : List Cond := .code yX0_init cX0_init 1 none :: ([.methodLink RX0 3 objectInit, .instanceMethod objectInit, .code objectInit ⟨#[0xb1]⟩ 1 none, .fieldLink RX0 11 "ClassSheets$Kind" "operation" "I", .arrayClass .int, .fieldLink RX0 15 "ClassSheets$Kind" "least" "[I", .fieldLink RX0 19 "ClassSheets$Kind" "most" "[I", .fieldLink RX0 22 "ClassSheets$Kind" "rules" "[I", .fieldLink RX0 25 "ClassSheets$Kind" "before" "[I", .fieldLink RX0 28 "ClassSheets$Kind" "count" "I", .fieldLink RX0 31 "ClassSheets$Kind" "places" "I"] ++ wsX00)
def wsX0_isRange : List Cond := .code yX0_isRange cX0_isRange 3 (some .boolean) :: ([.fieldLink RX0 34 "ClassSheets$Kind" "RANGE_MOST" "[I"])
def wsX0_isRule : List Cond := .code yX0_isRule cX0_isRule 2 (some .boolean) :: ([.fieldLink RX0 37 "ClassSheets$Kind" "RULE_LEAST" "[I", .fieldLink RX0 40 "ClassSheets$Kind" "RULE_MOST" "[I"])
def wsX0_result : List Cond := .code yX0_result cX0_result 3 (some .int) :: ([.fieldLink RX0 11 "ClassSheets$Kind" "operation" "I"] ++ wsX00)
def wsX0_carries : List Cond := .code yX0_carries cX0_carries 3 (some .boolean) :: ([.fieldLink RX0 11 "ClassSheets$Kind" "operation" "I"] ++ wsX00)
def wsX0_otherOperation : List Cond := .code yX0_otherOperation cX0_otherOperation 3 (some .int) :: ([.fieldLink RX0 11 "ClassSheets$Kind" "operation" "I"] ++ wsX00)
def wsX0_isLawful : List Cond := .code yX0_isLawful cX0_isLawful 4 (some .boolean) :: ([.fieldLink RX0 15 "ClassSheets$Kind" "least" "[I", .fieldLink RX0 19 "ClassSheets$Kind" "most" "[I", .fieldLink RX0 22 "ClassSheets$Kind" "rules" "[I", .methodLink RX0 54 yX0_result, .instanceMethod yX0_result, .selects RX0 yX0_result yX0_result, .initialized RX0, .code yX0_result cX0_result 3 (some .int), .fieldLink RX0 11 "ClassSheets$Kind" "operation" "I", .methodLink RX0 57 yX0_carries, .instanceMethod yX0_carries, .selects RX0 yX0_carries yX0_carries, .code yX0_carries cX0_carries 3 (some .boolean), .methodLink RX0 60 yX0_otherOperation, .instanceMethod yX0_otherOperation, .selects RX0 yX0_otherOperation yX0_otherOperation, .code yX0_otherOperation cX0_otherOperation 3 (some .int)] ++ wsX00)
def wsX0_countBelow : List Cond := .code yX0_countBelow cX0_countBelow 5 (some .int) :: ([.fieldLink RX0 15 "ClassSheets$Kind" "least" "[I", .methodLink RX0 50 yX0_isLawful, .instanceMethod yX0_isLawful, .selects RX0 yX0_isLawful yX0_isLawful, .initialized RX0, .code yX0_isLawful cX0_isLawful 4 (some .boolean), .fieldLink RX0 19 "ClassSheets$Kind" "most" "[I", .fieldLink RX0 22 "ClassSheets$Kind" "rules" "[I", .methodLink RX0 54 yX0_result, .instanceMethod yX0_result, .selects RX0 yX0_result yX0_result, .code yX0_result cX0_result 3 (some .int), .fieldLink RX0 11 "ClassSheets$Kind" "operation" "I", .methodLink RX0 57 yX0_carries, .instanceMethod yX0_carries, .selects RX0 yX0_carries yX0_carries, .code yX0_carries cX0_carries 3 (some .boolean), .methodLink RX0 60 yX0_otherOperation, .instanceMethod yX0_otherOperation, .selects RX0 yX0_otherOperation yX0_otherOperation, .code yX0_otherOperation cX0_otherOperation 3 (some .int)] ++ wsX00)
def wsX0_countAnew_r1 : List Cond := [Cond.fieldLink RX0 28 "ClassSheets$Kind" "count" "I", Cond.fieldLink RX0 15 "ClassSheets$Kind" "least" "[I", Cond.fieldLink RX0 19 "ClassSheets$Kind" "most" "[I", Cond.fieldLink RX0 25 "ClassSheets$Kind" "before" "[I", Cond.methodLink RX0 46 yX0_countBelow, Cond.instanceMethod yX0_countBelow, Cond.selects RX0 yX0_countBelow yX0_countBelow, Cond.initialized RX0, Cond.code yX0_countBelow cX0_countBelow 5 (some .int), Cond.methodLink RX0 50 yX0_isLawful, Cond.instanceMethod yX0_isLawful, Cond.selects RX0 yX0_isLawful yX0_isLawful, Cond.code yX0_isLawful cX0_isLawful 4 (some .boolean), Cond.fieldLink RX0 22 "ClassSheets$Kind" "rules" "[I", Cond.methodLink RX0 54 yX0_result, Cond.instanceMethod yX0_result, Cond.selects RX0 yX0_result yX0_result, Cond.code yX0_result cX0_result 3 (some .int), Cond.fieldLink RX0 11 "ClassSheets$Kind" "operation" "I", Cond.methodLink RX0 57 yX0_carries, Cond.instanceMethod yX0_carries, Cond.selects RX0 yX0_carries yX0_carries, Cond.code yX0_carries cX0_carries 3 (some .boolean), Cond.methodLink RX0 60 yX0_otherOperation]
def wsX0_countAnew_r2 : List Cond := [Cond.instanceMethod yX0_otherOperation, Cond.selects RX0 yX0_otherOperation yX0_otherOperation, Cond.code yX0_otherOperation cX0_otherOperation 3 (some .int)]
def wsX0_countAnew : List Cond := .code yX0_countAnew cX0_countAnew 2 none :: ((wsX0_countAnew_r1 ++ wsX0_countAnew_r2) ++ wsX00)
def wsX0_open_r1 : List Cond := [Cond.fieldLink RX0 11 "ClassSheets$Kind" "operation" "I", Cond.methodLink RX0 43 yX0_countAnew, Cond.instanceMethod yX0_countAnew, Cond.selects RX0 yX0_countAnew yX0_countAnew, Cond.initialized RX0, Cond.code yX0_countAnew cX0_countAnew 2 none, Cond.fieldLink RX0 28 "ClassSheets$Kind" "count" "I", Cond.fieldLink RX0 15 "ClassSheets$Kind" "least" "[I", Cond.fieldLink RX0 19 "ClassSheets$Kind" "most" "[I", Cond.fieldLink RX0 25 "ClassSheets$Kind" "before" "[I", Cond.methodLink RX0 46 yX0_countBelow, Cond.instanceMethod yX0_countBelow, Cond.selects RX0 yX0_countBelow yX0_countBelow, Cond.code yX0_countBelow cX0_countBelow 5 (some .int), Cond.methodLink RX0 50 yX0_isLawful, Cond.instanceMethod yX0_isLawful, Cond.selects RX0 yX0_isLawful yX0_isLawful, Cond.code yX0_isLawful cX0_isLawful 4 (some .boolean), Cond.fieldLink RX0 22 "ClassSheets$Kind" "rules" "[I", Cond.methodLink RX0 54 yX0_result, Cond.instanceMethod yX0_result, Cond.selects RX0 yX0_result yX0_result, Cond.code yX0_result cX0_result 3 (some .int), Cond.methodLink RX0 57 yX0_carries]
def wsX0_open_r2 : List Cond := [Cond.instanceMethod yX0_carries, Cond.selects RX0 yX0_carries yX0_carries, Cond.code yX0_carries cX0_carries 3 (some .boolean), Cond.methodLink RX0 60 yX0_otherOperation, Cond.instanceMethod yX0_otherOperation, Cond.selects RX0 yX0_otherOperation yX0_otherOperation, Cond.code yX0_otherOperation cX0_otherOperation 3 (some .int)]
def wsX0_open : List Cond := .code yX0_open cX0_open 2 none :: ((wsX0_open_r1 ++ wsX0_open_r2) ++ wsX00)
def wsX0_setRange_r1 : List Cond := [Cond.fieldLink RX0 15 "ClassSheets$Kind" "least" "[I", Cond.fieldLink RX0 19 "ClassSheets$Kind" "most" "[I", Cond.methodLink RX0 43 yX0_countAnew, Cond.instanceMethod yX0_countAnew, Cond.selects RX0 yX0_countAnew yX0_countAnew, Cond.initialized RX0, Cond.code yX0_countAnew cX0_countAnew 2 none, Cond.fieldLink RX0 28 "ClassSheets$Kind" "count" "I", Cond.fieldLink RX0 25 "ClassSheets$Kind" "before" "[I", Cond.methodLink RX0 46 yX0_countBelow, Cond.instanceMethod yX0_countBelow, Cond.selects RX0 yX0_countBelow yX0_countBelow, Cond.code yX0_countBelow cX0_countBelow 5 (some .int), Cond.methodLink RX0 50 yX0_isLawful, Cond.instanceMethod yX0_isLawful, Cond.selects RX0 yX0_isLawful yX0_isLawful, Cond.code yX0_isLawful cX0_isLawful 4 (some .boolean), Cond.fieldLink RX0 22 "ClassSheets$Kind" "rules" "[I", Cond.methodLink RX0 54 yX0_result, Cond.instanceMethod yX0_result, Cond.selects RX0 yX0_result yX0_result, Cond.code yX0_result cX0_result 3 (some .int), Cond.fieldLink RX0 11 "ClassSheets$Kind" "operation" "I", Cond.methodLink RX0 57 yX0_carries]
def wsX0_setRange_r2 : List Cond := [Cond.instanceMethod yX0_carries, Cond.selects RX0 yX0_carries yX0_carries, Cond.code yX0_carries cX0_carries 3 (some .boolean), Cond.methodLink RX0 60 yX0_otherOperation, Cond.instanceMethod yX0_otherOperation, Cond.selects RX0 yX0_otherOperation yX0_otherOperation, Cond.code yX0_otherOperation cX0_otherOperation 3 (some .int)]
def wsX0_setRange : List Cond := .code yX0_setRange cX0_setRange 4 none :: ((wsX0_setRange_r1 ++ wsX0_setRange_r2) ++ wsX00)
def wsX0_setRule_r1 : List Cond := [Cond.fieldLink RX0 22 "ClassSheets$Kind" "rules" "[I", Cond.methodLink RX0 43 yX0_countAnew, Cond.instanceMethod yX0_countAnew, Cond.selects RX0 yX0_countAnew yX0_countAnew, Cond.initialized RX0, Cond.code yX0_countAnew cX0_countAnew 2 none, Cond.fieldLink RX0 28 "ClassSheets$Kind" "count" "I", Cond.fieldLink RX0 15 "ClassSheets$Kind" "least" "[I", Cond.fieldLink RX0 19 "ClassSheets$Kind" "most" "[I", Cond.fieldLink RX0 25 "ClassSheets$Kind" "before" "[I", Cond.methodLink RX0 46 yX0_countBelow, Cond.instanceMethod yX0_countBelow, Cond.selects RX0 yX0_countBelow yX0_countBelow, Cond.code yX0_countBelow cX0_countBelow 5 (some .int), Cond.methodLink RX0 50 yX0_isLawful, Cond.instanceMethod yX0_isLawful, Cond.selects RX0 yX0_isLawful yX0_isLawful, Cond.code yX0_isLawful cX0_isLawful 4 (some .boolean), Cond.methodLink RX0 54 yX0_result, Cond.instanceMethod yX0_result, Cond.selects RX0 yX0_result yX0_result, Cond.code yX0_result cX0_result 3 (some .int), Cond.fieldLink RX0 11 "ClassSheets$Kind" "operation" "I", Cond.methodLink RX0 57 yX0_carries]
def wsX0_setRule_r2 : List Cond := [Cond.instanceMethod yX0_carries, Cond.selects RX0 yX0_carries yX0_carries, Cond.code yX0_carries cX0_carries 3 (some .boolean), Cond.methodLink RX0 60 yX0_otherOperation, Cond.instanceMethod yX0_otherOperation, Cond.selects RX0 yX0_otherOperation yX0_otherOperation, Cond.code yX0_otherOperation cX0_otherOperation 3 (some .int)]
def wsX0_setRule : List Cond := .code yX0_setRule cX0_setRule 4 (some .int) :: ((wsX0_setRule_r1 ++ wsX0_setRule_r2) ++ wsX00)
def wsX0_size : List Cond := .code yX0_size cX0_size 1 (some .int) :: ([.fieldLink RX0 28 "ClassSheets$Kind" "count" "I"] ++ wsX00)
def wsX0_linesTaken : List Cond := .code yX0_linesTaken cX0_linesTaken 1 (some .int) :: ([.fieldLink RX0 22 "ClassSheets$Kind" "rules" "[I"] ++ wsX00)
def wsX0_pairAt : List Cond := .code yX0_pairAt cX0_pairAt 5 (some .int) :: ([.fieldLink RX0 15 "ClassSheets$Kind" "least" "[I", .fieldLink RX0 19 "ClassSheets$Kind" "most" "[I", .fieldLink RX0 25 "ClassSheets$Kind" "before" "[I", .methodLink RX0 50 yX0_isLawful, .instanceMethod yX0_isLawful, .selects RX0 yX0_isLawful yX0_isLawful, .initialized RX0, .code yX0_isLawful cX0_isLawful 4 (some .boolean), .fieldLink RX0 22 "ClassSheets$Kind" "rules" "[I", .methodLink RX0 54 yX0_result, .instanceMethod yX0_result, .selects RX0 yX0_result yX0_result, .code yX0_result cX0_result 3 (some .int), .fieldLink RX0 11 "ClassSheets$Kind" "operation" "I", .methodLink RX0 57 yX0_carries, .instanceMethod yX0_carries, .selects RX0 yX0_carries yX0_carries, .code yX0_carries cX0_carries 3 (some .boolean), .methodLink RX0 60 yX0_otherOperation, .instanceMethod yX0_otherOperation, .selects RX0 yX0_otherOperation yX0_otherOperation, .code yX0_otherOperation cX0_otherOperation 3 (some .int)] ++ wsX00)
def wsX0_numberOf_r1 : List Cond := [Cond.fieldLink RX0 15 "ClassSheets$Kind" "least" "[I", Cond.fieldLink RX0 19 "ClassSheets$Kind" "most" "[I", Cond.fieldLink RX0 25 "ClassSheets$Kind" "before" "[I", Cond.methodLink RX0 50 yX0_isLawful, Cond.instanceMethod yX0_isLawful, Cond.selects RX0 yX0_isLawful yX0_isLawful, Cond.initialized RX0, Cond.code yX0_isLawful cX0_isLawful 4 (some .boolean), Cond.fieldLink RX0 22 "ClassSheets$Kind" "rules" "[I", Cond.methodLink RX0 54 yX0_result, Cond.instanceMethod yX0_result, Cond.selects RX0 yX0_result yX0_result, Cond.code yX0_result cX0_result 3 (some .int), Cond.fieldLink RX0 11 "ClassSheets$Kind" "operation" "I", Cond.methodLink RX0 57 yX0_carries, Cond.instanceMethod yX0_carries, Cond.selects RX0 yX0_carries yX0_carries, Cond.code yX0_carries cX0_carries 3 (some .boolean), Cond.methodLink RX0 60 yX0_otherOperation, Cond.instanceMethod yX0_otherOperation, Cond.selects RX0 yX0_otherOperation yX0_otherOperation, Cond.code yX0_otherOperation cX0_otherOperation 3 (some .int), Cond.methodLink RX0 46 yX0_countBelow, Cond.instanceMethod yX0_countBelow]
def wsX0_numberOf_r2 : List Cond := [Cond.selects RX0 yX0_countBelow yX0_countBelow, Cond.code yX0_countBelow cX0_countBelow 5 (some .int)]
def wsX0_numberOf : List Cond := .code yX0_numberOf cX0_numberOf 4 (some .int) :: ((wsX0_numberOf_r1 ++ wsX0_numberOf_r2) ++ wsX00)
def wsX0_withoutCarrying : List Cond := .code yX0_withoutCarrying cX0_withoutCarrying 3 (some .int) :: ([.fieldLink RX0 11 "ClassSheets$Kind" "operation" "I", .methodLink RX0 77 Lib.Math.abs.name, .static Lib.Math.abs.name, .initialized "java/lang/Math", .code Lib.Math.abs.name Lib.Math.abs.code 1 (some .int)] ++ wsX00)
def wsX0_exchanged : List Cond := .code yX0_exchanged cX0_exchanged 3 (some .int) :: ([])
def wsX0_slipped_r1 : List Cond := [Cond.methodLink RX0 54 yX0_result, Cond.instanceMethod yX0_result, Cond.selects RX0 yX0_result yX0_result, Cond.initialized RX0, Cond.code yX0_result cX0_result 3 (some .int), Cond.fieldLink RX0 11 "ClassSheets$Kind" "operation" "I", Cond.methodLink RX0 60 yX0_otherOperation, Cond.instanceMethod yX0_otherOperation, Cond.selects RX0 yX0_otherOperation yX0_otherOperation, Cond.code yX0_otherOperation cX0_otherOperation 3 (some .int), Cond.methodLink RX0 57 yX0_carries, Cond.instanceMethod yX0_carries, Cond.selects RX0 yX0_carries yX0_carries, Cond.code yX0_carries cX0_carries 3 (some .boolean), Cond.methodLink RX0 63 yX0_withoutCarrying, Cond.instanceMethod yX0_withoutCarrying, Cond.selects RX0 yX0_withoutCarrying yX0_withoutCarrying, Cond.code yX0_withoutCarrying cX0_withoutCarrying 3 (some .int), Cond.methodLink RX0 77 Lib.Math.abs.name, Cond.static Lib.Math.abs.name, Cond.initialized "java/lang/Math", Cond.code Lib.Math.abs.name Lib.Math.abs.code 1 (some .int), Cond.methodLink RX0 66 yX0_exchanged, Cond.static yX0_exchanged]
def wsX0_slipped_r2 : List Cond := [Cond.code yX0_exchanged cX0_exchanged 3 (some .int)]
def wsX0_slipped : List Cond := .code yX0_slipped cX0_slipped 5 (some .int) :: ((wsX0_slipped_r1 ++ wsX0_slipped_r2) ++ wsX00)
def wsX0_slipBehind_r1 : List Cond := [Cond.methodLink RX0 70 yX0_pairAt, Cond.instanceMethod yX0_pairAt, Cond.selects RX0 yX0_pairAt yX0_pairAt, Cond.initialized RX0, Cond.code yX0_pairAt cX0_pairAt 5 (some .int), Cond.fieldLink RX0 15 "ClassSheets$Kind" "least" "[I", Cond.fieldLink RX0 19 "ClassSheets$Kind" "most" "[I", Cond.fieldLink RX0 25 "ClassSheets$Kind" "before" "[I", Cond.methodLink RX0 50 yX0_isLawful, Cond.instanceMethod yX0_isLawful, Cond.selects RX0 yX0_isLawful yX0_isLawful, Cond.code yX0_isLawful cX0_isLawful 4 (some .boolean), Cond.fieldLink RX0 22 "ClassSheets$Kind" "rules" "[I", Cond.methodLink RX0 54 yX0_result, Cond.instanceMethod yX0_result, Cond.selects RX0 yX0_result yX0_result, Cond.code yX0_result cX0_result 3 (some .int), Cond.fieldLink RX0 11 "ClassSheets$Kind" "operation" "I", Cond.methodLink RX0 57 yX0_carries, Cond.instanceMethod yX0_carries, Cond.selects RX0 yX0_carries yX0_carries, Cond.code yX0_carries cX0_carries 3 (some .boolean), Cond.methodLink RX0 60 yX0_otherOperation, Cond.instanceMethod yX0_otherOperation]
def wsX0_slipBehind_r2 : List Cond := [Cond.selects RX0 yX0_otherOperation yX0_otherOperation, Cond.code yX0_otherOperation cX0_otherOperation 3 (some .int), Cond.methodLink RX0 73 yX0_slipped, Cond.instanceMethod yX0_slipped, Cond.selects RX0 yX0_slipped yX0_slipped, Cond.code yX0_slipped cX0_slipped 5 (some .int), Cond.methodLink RX0 63 yX0_withoutCarrying, Cond.instanceMethod yX0_withoutCarrying, Cond.selects RX0 yX0_withoutCarrying yX0_withoutCarrying, Cond.code yX0_withoutCarrying cX0_withoutCarrying 3 (some .int), Cond.methodLink RX0 77 Lib.Math.abs.name, Cond.static Lib.Math.abs.name, Cond.initialized "java/lang/Math", Cond.code Lib.Math.abs.name Lib.Math.abs.code 1 (some .int), Cond.methodLink RX0 66 yX0_exchanged, Cond.static yX0_exchanged, Cond.code yX0_exchanged cX0_exchanged 3 (some .int)]
def wsX0_slipBehind : List Cond := .code yX0_slipBehind cX0_slipBehind 7 (some .int) :: ((wsX0_slipBehind_r1 ++ wsX0_slipBehind_r2) ++ wsX00)
def wsX0_addPlace : List Cond := .code yX0_addPlace cX0_addPlace 1 (some .int) :: ([.fieldLink RX0 31 "ClassSheets$Kind" "places" "I"] ++ wsX00)
def wsX0_dropPlaces : List Cond := .code yX0_dropPlaces cX0_dropPlaces 1 none :: ([.fieldLink RX0 31 "ClassSheets$Kind" "places" "I"] ++ wsX00)
def wsX0_hasEnoughForTwo : List Cond := .code yX0_hasEnoughForTwo cX0_hasEnoughForTwo 1 (some .boolean) :: ([.fieldLink RX0 28 "ClassSheets$Kind" "count" "I", .fieldLink RX0 31 "ClassSheets$Kind" "places" "I"] ++ wsX00)
def wsX0_variantFor : List Cond := .code yX0_variantFor cX0_variantFor 3 (some .int) :: ([.fieldLink RX0 28 "ClassSheets$Kind" "count" "I", .fieldLink RX0 31 "ClassSheets$Kind" "places" "I", .fieldLink RX0 22 "ClassSheets$Kind" "rules" "[I"] ++ wsX00)
def wsJ9_floorMod_7cf53 : List Cond := .code yJ9_floorMod_7cf53 cJ9_floorMod_7cf53 3 (some .int) :: ([])
def wsX0_placesInCommon : List Cond := .code yX0_placesInCommon cX0_placesInCommon 6 (some .int) :: ([.fieldLink RX0 28 "ClassSheets$Kind" "count" "I", .fieldLink RX0 31 "ClassSheets$Kind" "places" "I", .methodLink RX0 82 yJ9_floorMod_7cf53, .static yJ9_floorMod_7cf53, .initialized RJ9, .code yJ9_floorMod_7cf53 cJ9_floorMod_7cf53 3 (some .int)] ++ wsX00)
def wsX1_init_r1 : List Cond := [Cond.methodLink RX1 1 objectInit, Cond.instanceMethod objectInit, Cond.code objectInit ⟨#[0xb1]⟩ 1 none, Cond.classLink RX1 9 RX0, Cond.fieldLink RX1 11 "ClassSheets" "kinds" "[LClassSheets$Kind;", Cond.fieldLink RX1 15 "ClassSheets" "kindCount" "I", Cond.arrayClass .int, Cond.fieldLink RX1 19 "ClassSheets" "plannedKinds" "[I", Cond.fieldLink RX1 23 "ClassSheets" "turns" "[I", Cond.fieldLink RX1 26 "ClassSheets" "placeCount" "I", Cond.fieldLink RX1 29 "ClassSheets" "pageLines" "I", Cond.fieldLink RX1 32 "ClassSheets" "rowCount" "I", Cond.fieldLink RX1 35 "ClassSheets" "columnCount" "I", Cond.fieldLink RX1 38 "ClassSheets" "baseNumber" "I", Cond.fieldLink RX1 41 "ClassSheets" "misses" "[I", Cond.fieldLink RX1 44 "ClassSheets" "rightMarks" "I", Cond.fieldLink RX1 47 "ClassSheets" "wrongMarks" "I", Cond.instantiable RX0 7, Cond.initialized RX0, Cond.methodLink RX1 50 yX0_init, Cond.instanceMethod yX0_init, Cond.code yX0_init cX0_init 1 none, Cond.methodLink RX0 3 objectInit, Cond.fieldLink RX0 11 "ClassSheets$Kind" "operation" "I"]
def wsX1_init_r2 : List Cond := [Cond.fieldLink RX0 15 "ClassSheets$Kind" "least" "[I", Cond.fieldLink RX0 19 "ClassSheets$Kind" "most" "[I", Cond.fieldLink RX0 22 "ClassSheets$Kind" "rules" "[I", Cond.fieldLink RX0 25 "ClassSheets$Kind" "before" "[I", Cond.fieldLink RX0 28 "ClassSheets$Kind" "count" "I", Cond.fieldLink RX0 31 "ClassSheets$Kind" "places" "I"]
def wsX1_init : List Cond := .code yX1_init cX1_init 2 none :: ((wsX1_init_r1 ++ wsX1_init_r2) ++ wsX10 ++ wsX00)
def wsX1_kind_r1 : List Cond := [Cond.fieldLink RX1 15 "ClassSheets" "kindCount" "I", Cond.fieldLink RX1 11 "ClassSheets" "kinds" "[LClassSheets$Kind;", Cond.methodLink RX1 51 yX0_open, Cond.instanceMethod yX0_open, Cond.selects RX0 yX0_open yX0_open, Cond.initialized RX0, Cond.code yX0_open cX0_open 2 none, Cond.fieldLink RX0 11 "ClassSheets$Kind" "operation" "I", Cond.methodLink RX0 43 yX0_countAnew, Cond.instanceMethod yX0_countAnew, Cond.selects RX0 yX0_countAnew yX0_countAnew, Cond.code yX0_countAnew cX0_countAnew 2 none, Cond.fieldLink RX0 28 "ClassSheets$Kind" "count" "I", Cond.fieldLink RX0 15 "ClassSheets$Kind" "least" "[I", Cond.fieldLink RX0 19 "ClassSheets$Kind" "most" "[I", Cond.fieldLink RX0 25 "ClassSheets$Kind" "before" "[I", Cond.methodLink RX0 46 yX0_countBelow, Cond.instanceMethod yX0_countBelow, Cond.selects RX0 yX0_countBelow yX0_countBelow, Cond.code yX0_countBelow cX0_countBelow 5 (some .int), Cond.methodLink RX0 50 yX0_isLawful, Cond.instanceMethod yX0_isLawful, Cond.selects RX0 yX0_isLawful yX0_isLawful, Cond.code yX0_isLawful cX0_isLawful 4 (some .boolean)]
def wsX1_kind_r2 : List Cond := [Cond.fieldLink RX0 22 "ClassSheets$Kind" "rules" "[I", Cond.methodLink RX0 54 yX0_result, Cond.instanceMethod yX0_result, Cond.selects RX0 yX0_result yX0_result, Cond.code yX0_result cX0_result 3 (some .int), Cond.methodLink RX0 57 yX0_carries, Cond.instanceMethod yX0_carries, Cond.selects RX0 yX0_carries yX0_carries, Cond.code yX0_carries cX0_carries 3 (some .boolean), Cond.methodLink RX0 60 yX0_otherOperation, Cond.instanceMethod yX0_otherOperation, Cond.selects RX0 yX0_otherOperation yX0_otherOperation, Cond.code yX0_otherOperation cX0_otherOperation 3 (some .int)]
def wsX1_kind : List Cond := .code yX1_kind cX1_kind 2 (some .int) :: ((wsX1_kind_r1 ++ wsX1_kind_r2) ++ wsX10 ++ wsX00)
def wsX1_isKind : List Cond := .code yX1_isKind cX1_isKind 2 (some .boolean) :: ([.fieldLink RX1 15 "ClassSheets" "kindCount" "I"] ++ wsX10)
def wsX1_range_r1 : List Cond := [Cond.fieldLink RX1 11 "ClassSheets" "kinds" "[LClassSheets$Kind;", Cond.methodLink RX1 55 yX1_isKind, Cond.instanceMethod yX1_isKind, Cond.selects RX1 yX1_isKind yX1_isKind, Cond.initialized RX1, Cond.code yX1_isKind cX1_isKind 2 (some .boolean), Cond.fieldLink RX1 15 "ClassSheets" "kindCount" "I", Cond.methodLink RX1 59 yX0_isRange, Cond.static yX0_isRange, Cond.initialized RX0, Cond.code yX0_isRange cX0_isRange 3 (some .boolean), Cond.fieldLink RX0 34 "ClassSheets$Kind" "RANGE_MOST" "[I", Cond.methodLink RX1 63 yX0_setRange, Cond.instanceMethod yX0_setRange, Cond.selects RX0 yX0_setRange yX0_setRange, Cond.code yX0_setRange cX0_setRange 4 none, Cond.fieldLink RX0 15 "ClassSheets$Kind" "least" "[I", Cond.fieldLink RX0 19 "ClassSheets$Kind" "most" "[I", Cond.methodLink RX0 43 yX0_countAnew, Cond.instanceMethod yX0_countAnew, Cond.selects RX0 yX0_countAnew yX0_countAnew, Cond.code yX0_countAnew cX0_countAnew 2 none, Cond.fieldLink RX0 28 "ClassSheets$Kind" "count" "I", Cond.fieldLink RX0 25 "ClassSheets$Kind" "before" "[I"]
def wsX1_range_r2 : List Cond := [Cond.methodLink RX0 46 yX0_countBelow, Cond.instanceMethod yX0_countBelow, Cond.selects RX0 yX0_countBelow yX0_countBelow, Cond.code yX0_countBelow cX0_countBelow 5 (some .int), Cond.methodLink RX0 50 yX0_isLawful, Cond.instanceMethod yX0_isLawful, Cond.selects RX0 yX0_isLawful yX0_isLawful, Cond.code yX0_isLawful cX0_isLawful 4 (some .boolean), Cond.fieldLink RX0 22 "ClassSheets$Kind" "rules" "[I", Cond.methodLink RX0 54 yX0_result, Cond.instanceMethod yX0_result, Cond.selects RX0 yX0_result yX0_result, Cond.code yX0_result cX0_result 3 (some .int), Cond.fieldLink RX0 11 "ClassSheets$Kind" "operation" "I", Cond.methodLink RX0 57 yX0_carries, Cond.instanceMethod yX0_carries, Cond.selects RX0 yX0_carries yX0_carries, Cond.code yX0_carries cX0_carries 3 (some .boolean), Cond.methodLink RX0 60 yX0_otherOperation, Cond.instanceMethod yX0_otherOperation, Cond.selects RX0 yX0_otherOperation yX0_otherOperation, Cond.code yX0_otherOperation cX0_otherOperation 3 (some .int), Cond.methodLink RX1 67 yX0_size, Cond.instanceMethod yX0_size]
def wsX1_range_r3 : List Cond := [Cond.selects RX0 yX0_size yX0_size, Cond.code yX0_size cX0_size 1 (some .int)]
def wsX1_range : List Cond := .code yX1_range cX1_range 5 (some .int) :: ((wsX1_range_r1 ++ (wsX1_range_r2 ++ wsX1_range_r3)) ++ wsX10 ++ wsX00)
def wsX1_rule_r1 : List Cond := [Cond.fieldLink RX1 11 "ClassSheets" "kinds" "[LClassSheets$Kind;", Cond.methodLink RX1 55 yX1_isKind, Cond.instanceMethod yX1_isKind, Cond.selects RX1 yX1_isKind yX1_isKind, Cond.initialized RX1, Cond.code yX1_isKind cX1_isKind 2 (some .boolean), Cond.fieldLink RX1 15 "ClassSheets" "kindCount" "I", Cond.methodLink RX1 71 yX0_isRule, Cond.static yX0_isRule, Cond.initialized RX0, Cond.code yX0_isRule cX0_isRule 2 (some .boolean), Cond.fieldLink RX0 37 "ClassSheets$Kind" "RULE_LEAST" "[I", Cond.fieldLink RX0 40 "ClassSheets$Kind" "RULE_MOST" "[I", Cond.methodLink RX1 75 yX0_setRule, Cond.instanceMethod yX0_setRule, Cond.selects RX0 yX0_setRule yX0_setRule, Cond.code yX0_setRule cX0_setRule 4 (some .int), Cond.fieldLink RX0 22 "ClassSheets$Kind" "rules" "[I", Cond.methodLink RX0 43 yX0_countAnew, Cond.instanceMethod yX0_countAnew, Cond.selects RX0 yX0_countAnew yX0_countAnew, Cond.code yX0_countAnew cX0_countAnew 2 none, Cond.fieldLink RX0 28 "ClassSheets$Kind" "count" "I", Cond.fieldLink RX0 15 "ClassSheets$Kind" "least" "[I"]
def wsX1_rule_r2 : List Cond := [Cond.fieldLink RX0 19 "ClassSheets$Kind" "most" "[I", Cond.fieldLink RX0 25 "ClassSheets$Kind" "before" "[I", Cond.methodLink RX0 46 yX0_countBelow, Cond.instanceMethod yX0_countBelow, Cond.selects RX0 yX0_countBelow yX0_countBelow, Cond.code yX0_countBelow cX0_countBelow 5 (some .int), Cond.methodLink RX0 50 yX0_isLawful, Cond.instanceMethod yX0_isLawful, Cond.selects RX0 yX0_isLawful yX0_isLawful, Cond.code yX0_isLawful cX0_isLawful 4 (some .boolean), Cond.methodLink RX0 54 yX0_result, Cond.instanceMethod yX0_result, Cond.selects RX0 yX0_result yX0_result, Cond.code yX0_result cX0_result 3 (some .int), Cond.fieldLink RX0 11 "ClassSheets$Kind" "operation" "I", Cond.methodLink RX0 57 yX0_carries, Cond.instanceMethod yX0_carries, Cond.selects RX0 yX0_carries yX0_carries, Cond.code yX0_carries cX0_carries 3 (some .boolean), Cond.methodLink RX0 60 yX0_otherOperation, Cond.instanceMethod yX0_otherOperation, Cond.selects RX0 yX0_otherOperation yX0_otherOperation, Cond.code yX0_otherOperation cX0_otherOperation 3 (some .int)]
def wsX1_rule : List Cond := .code yX1_rule cX1_rule 4 (some .int) :: ((wsX1_rule_r1 ++ wsX1_rule_r2) ++ wsX10 ++ wsX00)
def wsX1_variants : List Cond := .code yX1_variants cX1_variants 2 (some .int) :: ([.fieldLink RX1 11 "ClassSheets" "kinds" "[LClassSheets$Kind;", .methodLink RX1 55 yX1_isKind, .instanceMethod yX1_isKind, .selects RX1 yX1_isKind yX1_isKind, .initialized RX1, .code yX1_isKind cX1_isKind 2 (some .boolean), .fieldLink RX1 15 "ClassSheets" "kindCount" "I", .methodLink RX1 67 yX0_size, .instanceMethod yX0_size, .selects RX0 yX0_size yX0_size, .initialized RX0, .code yX0_size cX0_size 1 (some .int), .fieldLink RX0 28 "ClassSheets$Kind" "count" "I"] ++ wsX10 ++ wsX00)
def wsX1_isVariant : List Cond := .code yX1_isVariant cX1_isVariant 3 (some .boolean) :: ([.fieldLink RX1 11 "ClassSheets" "kinds" "[LClassSheets$Kind;", .methodLink RX1 55 yX1_isKind, .instanceMethod yX1_isKind, .selects RX1 yX1_isKind yX1_isKind, .initialized RX1, .code yX1_isKind cX1_isKind 2 (some .boolean), .fieldLink RX1 15 "ClassSheets" "kindCount" "I", .methodLink RX1 67 yX0_size, .instanceMethod yX0_size, .selects RX0 yX0_size yX0_size, .initialized RX0, .code yX0_size cX0_size 1 (some .int), .fieldLink RX0 28 "ClassSheets$Kind" "count" "I"] ++ wsX10 ++ wsX00)
def wsX1_variant_r1 : List Cond := [Cond.fieldLink RX1 11 "ClassSheets" "kinds" "[LClassSheets$Kind;", Cond.methodLink RX1 79 yX1_isVariant, Cond.instanceMethod yX1_isVariant, Cond.selects RX1 yX1_isVariant yX1_isVariant, Cond.initialized RX1, Cond.code yX1_isVariant cX1_isVariant 3 (some .boolean), Cond.methodLink RX1 55 yX1_isKind, Cond.instanceMethod yX1_isKind, Cond.selects RX1 yX1_isKind yX1_isKind, Cond.code yX1_isKind cX1_isKind 2 (some .boolean), Cond.fieldLink RX1 15 "ClassSheets" "kindCount" "I", Cond.methodLink RX1 67 yX0_size, Cond.instanceMethod yX0_size, Cond.selects RX0 yX0_size yX0_size, Cond.initialized RX0, Cond.code yX0_size cX0_size 1 (some .int), Cond.fieldLink RX0 28 "ClassSheets$Kind" "count" "I", Cond.methodLink RX1 82 yX0_pairAt, Cond.instanceMethod yX0_pairAt, Cond.selects RX0 yX0_pairAt yX0_pairAt, Cond.code yX0_pairAt cX0_pairAt 5 (some .int), Cond.fieldLink RX0 15 "ClassSheets$Kind" "least" "[I", Cond.fieldLink RX0 19 "ClassSheets$Kind" "most" "[I", Cond.fieldLink RX0 25 "ClassSheets$Kind" "before" "[I"]
def wsX1_variant_r2 : List Cond := [Cond.methodLink RX0 50 yX0_isLawful, Cond.instanceMethod yX0_isLawful, Cond.selects RX0 yX0_isLawful yX0_isLawful, Cond.code yX0_isLawful cX0_isLawful 4 (some .boolean), Cond.fieldLink RX0 22 "ClassSheets$Kind" "rules" "[I", Cond.methodLink RX0 54 yX0_result, Cond.instanceMethod yX0_result, Cond.selects RX0 yX0_result yX0_result, Cond.code yX0_result cX0_result 3 (some .int), Cond.fieldLink RX0 11 "ClassSheets$Kind" "operation" "I", Cond.methodLink RX0 57 yX0_carries, Cond.instanceMethod yX0_carries, Cond.selects RX0 yX0_carries yX0_carries, Cond.code yX0_carries cX0_carries 3 (some .boolean), Cond.methodLink RX0 60 yX0_otherOperation, Cond.instanceMethod yX0_otherOperation, Cond.selects RX0 yX0_otherOperation yX0_otherOperation, Cond.code yX0_otherOperation cX0_otherOperation 3 (some .int), Cond.methodLink RX1 86 yX0_result, Cond.methodLink RX1 89 yX0_carries]
def wsX1_variant : List Cond := .code yX1_variant cX1_variant 7 (some .int) :: ((wsX1_variant_r1 ++ wsX1_variant_r2) ++ wsX10 ++ wsX00)
def wsX1_find_r1 : List Cond := [Cond.fieldLink RX1 11 "ClassSheets" "kinds" "[LClassSheets$Kind;", Cond.methodLink RX1 55 yX1_isKind, Cond.instanceMethod yX1_isKind, Cond.selects RX1 yX1_isKind yX1_isKind, Cond.initialized RX1, Cond.code yX1_isKind cX1_isKind 2 (some .boolean), Cond.fieldLink RX1 15 "ClassSheets" "kindCount" "I", Cond.methodLink RX1 92 yX0_numberOf, Cond.instanceMethod yX0_numberOf, Cond.selects RX0 yX0_numberOf yX0_numberOf, Cond.initialized RX0, Cond.code yX0_numberOf cX0_numberOf 4 (some .int), Cond.fieldLink RX0 15 "ClassSheets$Kind" "least" "[I", Cond.fieldLink RX0 19 "ClassSheets$Kind" "most" "[I", Cond.fieldLink RX0 25 "ClassSheets$Kind" "before" "[I", Cond.methodLink RX0 50 yX0_isLawful, Cond.instanceMethod yX0_isLawful, Cond.selects RX0 yX0_isLawful yX0_isLawful, Cond.code yX0_isLawful cX0_isLawful 4 (some .boolean), Cond.fieldLink RX0 22 "ClassSheets$Kind" "rules" "[I", Cond.methodLink RX0 54 yX0_result, Cond.instanceMethod yX0_result, Cond.selects RX0 yX0_result yX0_result, Cond.code yX0_result cX0_result 3 (some .int)]
def wsX1_find_r2 : List Cond := [Cond.fieldLink RX0 11 "ClassSheets$Kind" "operation" "I", Cond.methodLink RX0 57 yX0_carries, Cond.instanceMethod yX0_carries, Cond.selects RX0 yX0_carries yX0_carries, Cond.code yX0_carries cX0_carries 3 (some .boolean), Cond.methodLink RX0 60 yX0_otherOperation, Cond.instanceMethod yX0_otherOperation, Cond.selects RX0 yX0_otherOperation yX0_otherOperation, Cond.code yX0_otherOperation cX0_otherOperation 3 (some .int), Cond.methodLink RX0 46 yX0_countBelow, Cond.instanceMethod yX0_countBelow, Cond.selects RX0 yX0_countBelow yX0_countBelow, Cond.code yX0_countBelow cX0_countBelow 5 (some .int)]
def wsX1_find : List Cond := .code yX1_find cX1_find 4 (some .int) :: ((wsX1_find_r1 ++ wsX1_find_r2) ++ wsX10 ++ wsX00)
def wsX1_slip_r1 : List Cond := [Cond.fieldLink RX1 11 "ClassSheets" "kinds" "[LClassSheets$Kind;", Cond.methodLink RX1 79 yX1_isVariant, Cond.instanceMethod yX1_isVariant, Cond.selects RX1 yX1_isVariant yX1_isVariant, Cond.initialized RX1, Cond.code yX1_isVariant cX1_isVariant 3 (some .boolean), Cond.methodLink RX1 55 yX1_isKind, Cond.instanceMethod yX1_isKind, Cond.selects RX1 yX1_isKind yX1_isKind, Cond.code yX1_isKind cX1_isKind 2 (some .boolean), Cond.fieldLink RX1 15 "ClassSheets" "kindCount" "I", Cond.methodLink RX1 67 yX0_size, Cond.instanceMethod yX0_size, Cond.selects RX0 yX0_size yX0_size, Cond.initialized RX0, Cond.code yX0_size cX0_size 1 (some .int), Cond.fieldLink RX0 28 "ClassSheets$Kind" "count" "I", Cond.methodLink RX1 82 yX0_pairAt, Cond.instanceMethod yX0_pairAt, Cond.selects RX0 yX0_pairAt yX0_pairAt, Cond.code yX0_pairAt cX0_pairAt 5 (some .int), Cond.fieldLink RX0 15 "ClassSheets$Kind" "least" "[I", Cond.fieldLink RX0 19 "ClassSheets$Kind" "most" "[I", Cond.fieldLink RX0 25 "ClassSheets$Kind" "before" "[I"]
def wsX1_slip_r2 : List Cond := [Cond.methodLink RX0 50 yX0_isLawful, Cond.instanceMethod yX0_isLawful, Cond.selects RX0 yX0_isLawful yX0_isLawful, Cond.code yX0_isLawful cX0_isLawful 4 (some .boolean), Cond.fieldLink RX0 22 "ClassSheets$Kind" "rules" "[I", Cond.methodLink RX0 54 yX0_result, Cond.instanceMethod yX0_result, Cond.selects RX0 yX0_result yX0_result, Cond.code yX0_result cX0_result 3 (some .int), Cond.fieldLink RX0 11 "ClassSheets$Kind" "operation" "I", Cond.methodLink RX0 57 yX0_carries, Cond.instanceMethod yX0_carries, Cond.selects RX0 yX0_carries yX0_carries, Cond.code yX0_carries cX0_carries 3 (some .boolean), Cond.methodLink RX0 60 yX0_otherOperation, Cond.instanceMethod yX0_otherOperation, Cond.selects RX0 yX0_otherOperation yX0_otherOperation, Cond.code yX0_otherOperation cX0_otherOperation 3 (some .int), Cond.methodLink RX1 95 yX0_slipped, Cond.instanceMethod yX0_slipped, Cond.selects RX0 yX0_slipped yX0_slipped, Cond.code yX0_slipped cX0_slipped 5 (some .int), Cond.methodLink RX0 63 yX0_withoutCarrying, Cond.instanceMethod yX0_withoutCarrying]
def wsX1_slip_r3 : List Cond := [Cond.selects RX0 yX0_withoutCarrying yX0_withoutCarrying, Cond.code yX0_withoutCarrying cX0_withoutCarrying 3 (some .int), Cond.methodLink RX0 77 Lib.Math.abs.name, Cond.static Lib.Math.abs.name, Cond.initialized "java/lang/Math", Cond.code Lib.Math.abs.name Lib.Math.abs.code 1 (some .int), Cond.methodLink RX0 66 yX0_exchanged, Cond.static yX0_exchanged, Cond.code yX0_exchanged cX0_exchanged 3 (some .int)]
def wsX1_slip : List Cond := .code yX1_slip cX1_slip 5 (some .int) :: ((wsX1_slip_r1 ++ (wsX1_slip_r2 ++ wsX1_slip_r3)) ++ wsX10 ++ wsX00)
def wsX1_tells_r1 : List Cond := [Cond.fieldLink RX1 11 "ClassSheets" "kinds" "[LClassSheets$Kind;", Cond.methodLink RX1 79 yX1_isVariant, Cond.instanceMethod yX1_isVariant, Cond.selects RX1 yX1_isVariant yX1_isVariant, Cond.initialized RX1, Cond.code yX1_isVariant cX1_isVariant 3 (some .boolean), Cond.methodLink RX1 55 yX1_isKind, Cond.instanceMethod yX1_isKind, Cond.selects RX1 yX1_isKind yX1_isKind, Cond.code yX1_isKind cX1_isKind 2 (some .boolean), Cond.fieldLink RX1 15 "ClassSheets" "kindCount" "I", Cond.methodLink RX1 67 yX0_size, Cond.instanceMethod yX0_size, Cond.selects RX0 yX0_size yX0_size, Cond.initialized RX0, Cond.code yX0_size cX0_size 1 (some .int), Cond.fieldLink RX0 28 "ClassSheets$Kind" "count" "I", Cond.methodLink RX1 99 yX0_slipBehind, Cond.instanceMethod yX0_slipBehind, Cond.selects RX0 yX0_slipBehind yX0_slipBehind, Cond.code yX0_slipBehind cX0_slipBehind 7 (some .int), Cond.methodLink RX0 70 yX0_pairAt, Cond.instanceMethod yX0_pairAt, Cond.selects RX0 yX0_pairAt yX0_pairAt]
def wsX1_tells_r2 : List Cond := [Cond.code yX0_pairAt cX0_pairAt 5 (some .int), Cond.fieldLink RX0 15 "ClassSheets$Kind" "least" "[I", Cond.fieldLink RX0 19 "ClassSheets$Kind" "most" "[I", Cond.fieldLink RX0 25 "ClassSheets$Kind" "before" "[I", Cond.methodLink RX0 50 yX0_isLawful, Cond.instanceMethod yX0_isLawful, Cond.selects RX0 yX0_isLawful yX0_isLawful, Cond.code yX0_isLawful cX0_isLawful 4 (some .boolean), Cond.fieldLink RX0 22 "ClassSheets$Kind" "rules" "[I", Cond.methodLink RX0 54 yX0_result, Cond.instanceMethod yX0_result, Cond.selects RX0 yX0_result yX0_result, Cond.code yX0_result cX0_result 3 (some .int), Cond.fieldLink RX0 11 "ClassSheets$Kind" "operation" "I", Cond.methodLink RX0 57 yX0_carries, Cond.instanceMethod yX0_carries, Cond.selects RX0 yX0_carries yX0_carries, Cond.code yX0_carries cX0_carries 3 (some .boolean), Cond.methodLink RX0 60 yX0_otherOperation, Cond.instanceMethod yX0_otherOperation, Cond.selects RX0 yX0_otherOperation yX0_otherOperation, Cond.code yX0_otherOperation cX0_otherOperation 3 (some .int), Cond.methodLink RX0 73 yX0_slipped, Cond.instanceMethod yX0_slipped]
def wsX1_tells_r3 : List Cond := [Cond.selects RX0 yX0_slipped yX0_slipped, Cond.code yX0_slipped cX0_slipped 5 (some .int), Cond.methodLink RX0 63 yX0_withoutCarrying, Cond.instanceMethod yX0_withoutCarrying, Cond.selects RX0 yX0_withoutCarrying yX0_withoutCarrying, Cond.code yX0_withoutCarrying cX0_withoutCarrying 3 (some .int), Cond.methodLink RX0 77 Lib.Math.abs.name, Cond.static Lib.Math.abs.name, Cond.initialized "java/lang/Math", Cond.code Lib.Math.abs.name Lib.Math.abs.code 1 (some .int), Cond.methodLink RX0 66 yX0_exchanged, Cond.static yX0_exchanged, Cond.code yX0_exchanged cX0_exchanged 3 (some .int)]
def wsX1_tells : List Cond := .code yX1_tells cX1_tells 4 (some .int) :: ((wsX1_tells_r1 ++ (wsX1_tells_r2 ++ wsX1_tells_r3)) ++ wsX10 ++ wsX00)
def wsX1_plan : List Cond := .code yX1_plan cX1_plan 4 (some .int) :: ([.fieldLink RX1 26 "ClassSheets" "placeCount" "I", .fieldLink RX1 19 "ClassSheets" "plannedKinds" "[I", .fieldLink RX1 23 "ClassSheets" "turns" "[I", .fieldLink RX1 11 "ClassSheets" "kinds" "[LClassSheets$Kind;", .methodLink RX1 55 yX1_isKind, .instanceMethod yX1_isKind, .selects RX1 yX1_isKind yX1_isKind, .initialized RX1, .code yX1_isKind cX1_isKind 2 (some .boolean), .fieldLink RX1 15 "ClassSheets" "kindCount" "I", .methodLink RX1 102 yX0_addPlace, .instanceMethod yX0_addPlace, .selects RX0 yX0_addPlace yX0_addPlace, .initialized RX0, .code yX0_addPlace cX0_addPlace 1 (some .int), .fieldLink RX0 31 "ClassSheets$Kind" "places" "I"] ++ wsX10 ++ wsX00)
def wsX1_clear : List Cond := .code yX1_clear cX1_clear 3 (some .int) :: ([.fieldLink RX1 26 "ClassSheets" "placeCount" "I", .fieldLink RX1 15 "ClassSheets" "kindCount" "I", .fieldLink RX1 11 "ClassSheets" "kinds" "[LClassSheets$Kind;", .methodLink RX1 105 yX0_dropPlaces, .instanceMethod yX0_dropPlaces, .selects RX0 yX0_dropPlaces yX0_dropPlaces, .initialized RX0, .code yX0_dropPlaces cX0_dropPlaces 1 none, .fieldLink RX0 31 "ClassSheets$Kind" "places" "I"] ++ wsX10 ++ wsX00)
def wsX1_isPlace : List Cond := .code yX1_isPlace cX1_isPlace 2 (some .boolean) :: ([.fieldLink RX1 26 "ClassSheets" "placeCount" "I"] ++ wsX10)
def wsX1_placed : List Cond := .code yX1_placed cX1_placed 2 (some .int) :: ([.fieldLink RX1 19 "ClassSheets" "plannedKinds" "[I", .methodLink RX1 108 yX1_isPlace, .instanceMethod yX1_isPlace, .selects RX1 yX1_isPlace yX1_isPlace, .initialized RX1, .code yX1_isPlace cX1_isPlace 2 (some .boolean), .fieldLink RX1 26 "ClassSheets" "placeCount" "I"] ++ wsX10)
def wsX1_lines : List Cond := .code yX1_lines cX1_lines 3 (some .int) :: ([.fieldLink RX1 29 "ClassSheets" "pageLines" "I"] ++ wsX10)
def wsX1_pageAndLine : List Cond := .code yX1_pageAndLine cX1_pageAndLine 7 (some .int) :: ([.fieldLink RX1 11 "ClassSheets" "kinds" "[LClassSheets$Kind;", .fieldLink RX1 19 "ClassSheets" "plannedKinds" "[I", .fieldLink RX1 29 "ClassSheets" "pageLines" "I", .methodLink RX1 114 yX0_linesTaken, .instanceMethod yX0_linesTaken, .selects RX0 yX0_linesTaken yX0_linesTaken, .initialized RX0, .code yX0_linesTaken cX0_linesTaken 1 (some .int), .fieldLink RX0 22 "ClassSheets$Kind" "rules" "[I"] ++ wsX10 ++ wsX00)
def wsX1_pages : List Cond := .code yX1_pages cX1_pages 1 (some .int) :: ([.fieldLink RX1 26 "ClassSheets" "placeCount" "I", .methodLink RX1 111 yX1_pageAndLine, .instanceMethod yX1_pageAndLine, .selects RX1 yX1_pageAndLine yX1_pageAndLine, .initialized RX1, .code yX1_pageAndLine cX1_pageAndLine 7 (some .int), .fieldLink RX1 11 "ClassSheets" "kinds" "[LClassSheets$Kind;", .fieldLink RX1 19 "ClassSheets" "plannedKinds" "[I", .fieldLink RX1 29 "ClassSheets" "pageLines" "I", .methodLink RX1 114 yX0_linesTaken, .instanceMethod yX0_linesTaken, .selects RX0 yX0_linesTaken yX0_linesTaken, .initialized RX0, .code yX0_linesTaken cX0_linesTaken 1 (some .int), .fieldLink RX0 22 "ClassSheets$Kind" "rules" "[I"] ++ wsX10 ++ wsX00)
def wsX1_page : List Cond := .code yX1_page cX1_page 4 (some .int) :: ([.methodLink RX1 108 yX1_isPlace, .instanceMethod yX1_isPlace, .selects RX1 yX1_isPlace yX1_isPlace, .initialized RX1, .code yX1_isPlace cX1_isPlace 2 (some .boolean), .fieldLink RX1 26 "ClassSheets" "placeCount" "I", .methodLink RX1 111 yX1_pageAndLine, .instanceMethod yX1_pageAndLine, .selects RX1 yX1_pageAndLine yX1_pageAndLine, .code yX1_pageAndLine cX1_pageAndLine 7 (some .int), .fieldLink RX1 11 "ClassSheets" "kinds" "[LClassSheets$Kind;", .fieldLink RX1 19 "ClassSheets" "plannedKinds" "[I", .fieldLink RX1 29 "ClassSheets" "pageLines" "I", .methodLink RX1 114 yX0_linesTaken, .instanceMethod yX0_linesTaken, .selects RX0 yX0_linesTaken yX0_linesTaken, .initialized RX0, .code yX0_linesTaken cX0_linesTaken 1 (some .int), .fieldLink RX0 22 "ClassSheets$Kind" "rules" "[I"] ++ wsX10 ++ wsX00)
def wsX1_isSheet : List Cond := .code yX1_isSheet cX1_isSheet 1 (some .boolean) :: ([])
def wsX1_lacksVariants : List Cond := .code yX1_lacksVariants cX1_lacksVariants 2 (some .boolean) :: ([.fieldLink RX1 26 "ClassSheets" "placeCount" "I", .fieldLink RX1 11 "ClassSheets" "kinds" "[LClassSheets$Kind;", .fieldLink RX1 19 "ClassSheets" "plannedKinds" "[I", .methodLink RX1 67 yX0_size, .instanceMethod yX0_size, .selects RX0 yX0_size yX0_size, .initialized RX0, .code yX0_size cX0_size 1 (some .int), .fieldLink RX0 28 "ClassSheets$Kind" "count" "I"] ++ wsX10 ++ wsX00)
def wsX1_sheetRefusal : List Cond := .code yX1_sheetRefusal cX1_sheetRefusal 2 (some .int) :: ([.methodLink RX1 129 yX1_isSheet, .static yX1_isSheet, .initialized RX1, .code yX1_isSheet cX1_isSheet 1 (some .boolean), .methodLink RX1 132 yX1_lacksVariants, .instanceMethod yX1_lacksVariants, .selects RX1 yX1_lacksVariants yX1_lacksVariants, .code yX1_lacksVariants cX1_lacksVariants 2 (some .boolean), .fieldLink RX1 26 "ClassSheets" "placeCount" "I", .fieldLink RX1 11 "ClassSheets" "kinds" "[LClassSheets$Kind;", .fieldLink RX1 19 "ClassSheets" "plannedKinds" "[I", .methodLink RX1 67 yX0_size, .instanceMethod yX0_size, .selects RX0 yX0_size yX0_size, .initialized RX0, .code yX0_size cX0_size 1 (some .int), .fieldLink RX0 28 "ClassSheets$Kind" "count" "I"] ++ wsX10 ++ wsX00)
def wsX1_placeRefusal_r1 : List Cond := [Cond.methodLink RX1 108 yX1_isPlace, Cond.instanceMethod yX1_isPlace, Cond.selects RX1 yX1_isPlace yX1_isPlace, Cond.initialized RX1, Cond.code yX1_isPlace cX1_isPlace 2 (some .boolean), Cond.fieldLink RX1 26 "ClassSheets" "placeCount" "I", Cond.methodLink RX1 126 yX1_sheetRefusal, Cond.instanceMethod yX1_sheetRefusal, Cond.selects RX1 yX1_sheetRefusal yX1_sheetRefusal, Cond.code yX1_sheetRefusal cX1_sheetRefusal 2 (some .int), Cond.methodLink RX1 129 yX1_isSheet, Cond.static yX1_isSheet, Cond.code yX1_isSheet cX1_isSheet 1 (some .boolean), Cond.methodLink RX1 132 yX1_lacksVariants, Cond.instanceMethod yX1_lacksVariants, Cond.selects RX1 yX1_lacksVariants yX1_lacksVariants, Cond.code yX1_lacksVariants cX1_lacksVariants 2 (some .boolean), Cond.fieldLink RX1 11 "ClassSheets" "kinds" "[LClassSheets$Kind;", Cond.fieldLink RX1 19 "ClassSheets" "plannedKinds" "[I", Cond.methodLink RX1 67 yX0_size, Cond.instanceMethod yX0_size, Cond.selects RX0 yX0_size yX0_size, Cond.initialized RX0, Cond.code yX0_size cX0_size 1 (some .int)]
def wsX1_placeRefusal_r2 : List Cond := [Cond.fieldLink RX0 28 "ClassSheets$Kind" "count" "I"]
def wsX1_placeRefusal : List Cond := .code yX1_placeRefusal cX1_placeRefusal 3 (some .int) :: ((wsX1_placeRefusal_r1 ++ wsX1_placeRefusal_r2) ++ wsX10 ++ wsX00)
def wsX1_variantOn : List Cond := .code yX1_variantOn cX1_variantOn 3 (some .int) :: ([.fieldLink RX1 11 "ClassSheets" "kinds" "[LClassSheets$Kind;", .fieldLink RX1 19 "ClassSheets" "plannedKinds" "[I", .fieldLink RX1 23 "ClassSheets" "turns" "[I", .methodLink RX1 142 yX0_variantFor, .instanceMethod yX0_variantFor, .selects RX0 yX0_variantFor yX0_variantFor, .initialized RX0, .code yX0_variantFor cX0_variantFor 3 (some .int), .fieldLink RX0 28 "ClassSheets$Kind" "count" "I", .fieldLink RX0 31 "ClassSheets$Kind" "places" "I", .fieldLink RX0 22 "ClassSheets$Kind" "rules" "[I"] ++ wsX10 ++ wsX00)
def wsX1_sheet_r1 : List Cond := [Cond.methodLink RX1 117 yX1_placeRefusal, Cond.instanceMethod yX1_placeRefusal, Cond.selects RX1 yX1_placeRefusal yX1_placeRefusal, Cond.initialized RX1, Cond.code yX1_placeRefusal cX1_placeRefusal 3 (some .int), Cond.methodLink RX1 108 yX1_isPlace, Cond.instanceMethod yX1_isPlace, Cond.selects RX1 yX1_isPlace yX1_isPlace, Cond.code yX1_isPlace cX1_isPlace 2 (some .boolean), Cond.fieldLink RX1 26 "ClassSheets" "placeCount" "I", Cond.methodLink RX1 126 yX1_sheetRefusal, Cond.instanceMethod yX1_sheetRefusal, Cond.selects RX1 yX1_sheetRefusal yX1_sheetRefusal, Cond.code yX1_sheetRefusal cX1_sheetRefusal 2 (some .int), Cond.methodLink RX1 129 yX1_isSheet, Cond.static yX1_isSheet, Cond.code yX1_isSheet cX1_isSheet 1 (some .boolean), Cond.methodLink RX1 132 yX1_lacksVariants, Cond.instanceMethod yX1_lacksVariants, Cond.selects RX1 yX1_lacksVariants yX1_lacksVariants, Cond.code yX1_lacksVariants cX1_lacksVariants 2 (some .boolean), Cond.fieldLink RX1 11 "ClassSheets" "kinds" "[LClassSheets$Kind;", Cond.fieldLink RX1 19 "ClassSheets" "plannedKinds" "[I", Cond.methodLink RX1 67 yX0_size]
def wsX1_sheet_r2 : List Cond := [Cond.instanceMethod yX0_size, Cond.selects RX0 yX0_size yX0_size, Cond.initialized RX0, Cond.code yX0_size cX0_size 1 (some .int), Cond.fieldLink RX0 28 "ClassSheets$Kind" "count" "I", Cond.methodLink RX1 120 yX1_variantOn, Cond.instanceMethod yX1_variantOn, Cond.selects RX1 yX1_variantOn yX1_variantOn, Cond.code yX1_variantOn cX1_variantOn 3 (some .int), Cond.fieldLink RX1 23 "ClassSheets" "turns" "[I", Cond.methodLink RX1 142 yX0_variantFor, Cond.instanceMethod yX0_variantFor, Cond.selects RX0 yX0_variantFor yX0_variantFor, Cond.code yX0_variantFor cX0_variantFor 3 (some .int), Cond.fieldLink RX0 31 "ClassSheets$Kind" "places" "I", Cond.fieldLink RX0 22 "ClassSheets$Kind" "rules" "[I"]
def wsX1_sheet : List Cond := .code yX1_sheet cX1_sheet 4 (some .int) :: ((wsX1_sheet_r1 ++ wsX1_sheet_r2) ++ wsX10 ++ wsX00)
def wsX1_answerOn_r1 : List Cond := [Cond.fieldLink RX1 11 "ClassSheets" "kinds" "[LClassSheets$Kind;", Cond.fieldLink RX1 19 "ClassSheets" "plannedKinds" "[I", Cond.methodLink RX1 120 yX1_variantOn, Cond.instanceMethod yX1_variantOn, Cond.selects RX1 yX1_variantOn yX1_variantOn, Cond.initialized RX1, Cond.code yX1_variantOn cX1_variantOn 3 (some .int), Cond.fieldLink RX1 23 "ClassSheets" "turns" "[I", Cond.methodLink RX1 142 yX0_variantFor, Cond.instanceMethod yX0_variantFor, Cond.selects RX0 yX0_variantFor yX0_variantFor, Cond.initialized RX0, Cond.code yX0_variantFor cX0_variantFor 3 (some .int), Cond.fieldLink RX0 28 "ClassSheets$Kind" "count" "I", Cond.fieldLink RX0 31 "ClassSheets$Kind" "places" "I", Cond.fieldLink RX0 22 "ClassSheets$Kind" "rules" "[I", Cond.methodLink RX1 82 yX0_pairAt, Cond.instanceMethod yX0_pairAt, Cond.selects RX0 yX0_pairAt yX0_pairAt, Cond.code yX0_pairAt cX0_pairAt 5 (some .int), Cond.fieldLink RX0 15 "ClassSheets$Kind" "least" "[I", Cond.fieldLink RX0 19 "ClassSheets$Kind" "most" "[I", Cond.fieldLink RX0 25 "ClassSheets$Kind" "before" "[I", Cond.methodLink RX0 50 yX0_isLawful]
def wsX1_answerOn_r2 : List Cond := [Cond.instanceMethod yX0_isLawful, Cond.selects RX0 yX0_isLawful yX0_isLawful, Cond.code yX0_isLawful cX0_isLawful 4 (some .boolean), Cond.methodLink RX0 54 yX0_result, Cond.instanceMethod yX0_result, Cond.selects RX0 yX0_result yX0_result, Cond.code yX0_result cX0_result 3 (some .int), Cond.fieldLink RX0 11 "ClassSheets$Kind" "operation" "I", Cond.methodLink RX0 57 yX0_carries, Cond.instanceMethod yX0_carries, Cond.selects RX0 yX0_carries yX0_carries, Cond.code yX0_carries cX0_carries 3 (some .boolean), Cond.methodLink RX0 60 yX0_otherOperation, Cond.instanceMethod yX0_otherOperation, Cond.selects RX0 yX0_otherOperation yX0_otherOperation, Cond.code yX0_otherOperation cX0_otherOperation 3 (some .int), Cond.methodLink RX1 86 yX0_result]
def wsX1_answerOn : List Cond := .code yX1_answerOn cX1_answerOn 5 (some .int) :: ((wsX1_answerOn_r1 ++ wsX1_answerOn_r2) ++ wsX10 ++ wsX00)
def wsX1_answer_r1 : List Cond := [Cond.methodLink RX1 117 yX1_placeRefusal, Cond.instanceMethod yX1_placeRefusal, Cond.selects RX1 yX1_placeRefusal yX1_placeRefusal, Cond.initialized RX1, Cond.code yX1_placeRefusal cX1_placeRefusal 3 (some .int), Cond.methodLink RX1 108 yX1_isPlace, Cond.instanceMethod yX1_isPlace, Cond.selects RX1 yX1_isPlace yX1_isPlace, Cond.code yX1_isPlace cX1_isPlace 2 (some .boolean), Cond.fieldLink RX1 26 "ClassSheets" "placeCount" "I", Cond.methodLink RX1 126 yX1_sheetRefusal, Cond.instanceMethod yX1_sheetRefusal, Cond.selects RX1 yX1_sheetRefusal yX1_sheetRefusal, Cond.code yX1_sheetRefusal cX1_sheetRefusal 2 (some .int), Cond.methodLink RX1 129 yX1_isSheet, Cond.static yX1_isSheet, Cond.code yX1_isSheet cX1_isSheet 1 (some .boolean), Cond.methodLink RX1 132 yX1_lacksVariants, Cond.instanceMethod yX1_lacksVariants, Cond.selects RX1 yX1_lacksVariants yX1_lacksVariants, Cond.code yX1_lacksVariants cX1_lacksVariants 2 (some .boolean), Cond.fieldLink RX1 11 "ClassSheets" "kinds" "[LClassSheets$Kind;", Cond.fieldLink RX1 19 "ClassSheets" "plannedKinds" "[I", Cond.methodLink RX1 67 yX0_size]
def wsX1_answer_r2 : List Cond := [Cond.instanceMethod yX0_size, Cond.selects RX0 yX0_size yX0_size, Cond.initialized RX0, Cond.code yX0_size cX0_size 1 (some .int), Cond.fieldLink RX0 28 "ClassSheets$Kind" "count" "I", Cond.methodLink RX1 123 yX1_answerOn, Cond.instanceMethod yX1_answerOn, Cond.selects RX1 yX1_answerOn yX1_answerOn, Cond.code yX1_answerOn cX1_answerOn 5 (some .int), Cond.methodLink RX1 120 yX1_variantOn, Cond.instanceMethod yX1_variantOn, Cond.selects RX1 yX1_variantOn yX1_variantOn, Cond.code yX1_variantOn cX1_variantOn 3 (some .int), Cond.fieldLink RX1 23 "ClassSheets" "turns" "[I", Cond.methodLink RX1 142 yX0_variantFor, Cond.instanceMethod yX0_variantFor, Cond.selects RX0 yX0_variantFor yX0_variantFor, Cond.code yX0_variantFor cX0_variantFor 3 (some .int), Cond.fieldLink RX0 31 "ClassSheets$Kind" "places" "I", Cond.fieldLink RX0 22 "ClassSheets$Kind" "rules" "[I", Cond.methodLink RX1 82 yX0_pairAt, Cond.instanceMethod yX0_pairAt, Cond.selects RX0 yX0_pairAt yX0_pairAt, Cond.code yX0_pairAt cX0_pairAt 5 (some .int)]
def wsX1_answer_r3 : List Cond := [Cond.fieldLink RX0 15 "ClassSheets$Kind" "least" "[I", Cond.fieldLink RX0 19 "ClassSheets$Kind" "most" "[I", Cond.fieldLink RX0 25 "ClassSheets$Kind" "before" "[I", Cond.methodLink RX0 50 yX0_isLawful, Cond.instanceMethod yX0_isLawful, Cond.selects RX0 yX0_isLawful yX0_isLawful, Cond.code yX0_isLawful cX0_isLawful 4 (some .boolean), Cond.methodLink RX0 54 yX0_result, Cond.instanceMethod yX0_result, Cond.selects RX0 yX0_result yX0_result, Cond.code yX0_result cX0_result 3 (some .int), Cond.fieldLink RX0 11 "ClassSheets$Kind" "operation" "I", Cond.methodLink RX0 57 yX0_carries, Cond.instanceMethod yX0_carries, Cond.selects RX0 yX0_carries yX0_carries, Cond.code yX0_carries cX0_carries 3 (some .boolean), Cond.methodLink RX0 60 yX0_otherOperation, Cond.instanceMethod yX0_otherOperation, Cond.selects RX0 yX0_otherOperation yX0_otherOperation, Cond.code yX0_otherOperation cX0_otherOperation 3 (some .int), Cond.methodLink RX1 86 yX0_result]
def wsX1_answer : List Cond := .code yX1_answer cX1_answer 4 (some .int) :: ((wsX1_answer_r1 ++ (wsX1_answer_r2 ++ wsX1_answer_r3)) ++ wsX10 ++ wsX00)
def wsX1_code_r1 : List Cond := [Cond.fieldLink RX1 26 "ClassSheets" "placeCount" "I", Cond.methodLink RX1 126 yX1_sheetRefusal, Cond.instanceMethod yX1_sheetRefusal, Cond.selects RX1 yX1_sheetRefusal yX1_sheetRefusal, Cond.initialized RX1, Cond.code yX1_sheetRefusal cX1_sheetRefusal 2 (some .int), Cond.methodLink RX1 129 yX1_isSheet, Cond.static yX1_isSheet, Cond.code yX1_isSheet cX1_isSheet 1 (some .boolean), Cond.methodLink RX1 132 yX1_lacksVariants, Cond.instanceMethod yX1_lacksVariants, Cond.selects RX1 yX1_lacksVariants yX1_lacksVariants, Cond.code yX1_lacksVariants cX1_lacksVariants 2 (some .boolean), Cond.fieldLink RX1 11 "ClassSheets" "kinds" "[LClassSheets$Kind;", Cond.fieldLink RX1 19 "ClassSheets" "plannedKinds" "[I", Cond.methodLink RX1 67 yX0_size, Cond.instanceMethod yX0_size, Cond.selects RX0 yX0_size yX0_size, Cond.initialized RX0, Cond.code yX0_size cX0_size 1 (some .int), Cond.fieldLink RX0 28 "ClassSheets$Kind" "count" "I", Cond.methodLink RX1 123 yX1_answerOn, Cond.instanceMethod yX1_answerOn, Cond.selects RX1 yX1_answerOn yX1_answerOn]
def wsX1_code_r2 : List Cond := [Cond.code yX1_answerOn cX1_answerOn 5 (some .int), Cond.methodLink RX1 120 yX1_variantOn, Cond.instanceMethod yX1_variantOn, Cond.selects RX1 yX1_variantOn yX1_variantOn, Cond.code yX1_variantOn cX1_variantOn 3 (some .int), Cond.fieldLink RX1 23 "ClassSheets" "turns" "[I", Cond.methodLink RX1 142 yX0_variantFor, Cond.instanceMethod yX0_variantFor, Cond.selects RX0 yX0_variantFor yX0_variantFor, Cond.code yX0_variantFor cX0_variantFor 3 (some .int), Cond.fieldLink RX0 31 "ClassSheets$Kind" "places" "I", Cond.fieldLink RX0 22 "ClassSheets$Kind" "rules" "[I", Cond.methodLink RX1 82 yX0_pairAt, Cond.instanceMethod yX0_pairAt, Cond.selects RX0 yX0_pairAt yX0_pairAt, Cond.code yX0_pairAt cX0_pairAt 5 (some .int), Cond.fieldLink RX0 15 "ClassSheets$Kind" "least" "[I", Cond.fieldLink RX0 19 "ClassSheets$Kind" "most" "[I", Cond.fieldLink RX0 25 "ClassSheets$Kind" "before" "[I", Cond.methodLink RX0 50 yX0_isLawful, Cond.instanceMethod yX0_isLawful, Cond.selects RX0 yX0_isLawful yX0_isLawful, Cond.code yX0_isLawful cX0_isLawful 4 (some .boolean), Cond.methodLink RX0 54 yX0_result]
def wsX1_code_r3 : List Cond := [Cond.instanceMethod yX0_result, Cond.selects RX0 yX0_result yX0_result, Cond.code yX0_result cX0_result 3 (some .int), Cond.fieldLink RX0 11 "ClassSheets$Kind" "operation" "I", Cond.methodLink RX0 57 yX0_carries, Cond.instanceMethod yX0_carries, Cond.selects RX0 yX0_carries yX0_carries, Cond.code yX0_carries cX0_carries 3 (some .boolean), Cond.methodLink RX0 60 yX0_otherOperation, Cond.instanceMethod yX0_otherOperation, Cond.selects RX0 yX0_otherOperation yX0_otherOperation, Cond.code yX0_otherOperation cX0_otherOperation 3 (some .int), Cond.methodLink RX1 86 yX0_result]
def wsX1_code : List Cond := .code yX1_code cX1_code 5 (some .int) :: ((wsX1_code_r1 ++ (wsX1_code_r2 ++ wsX1_code_r3)) ++ wsX10 ++ wsX00)
def wsX1_shared_r1 : List Cond := [Cond.fieldLink RX1 15 "ClassSheets" "kindCount" "I", Cond.fieldLink RX1 11 "ClassSheets" "kinds" "[LClassSheets$Kind;", Cond.methodLink RX1 129 yX1_isSheet, Cond.static yX1_isSheet, Cond.initialized RX1, Cond.code yX1_isSheet cX1_isSheet 1 (some .boolean), Cond.methodLink RX1 132 yX1_lacksVariants, Cond.instanceMethod yX1_lacksVariants, Cond.selects RX1 yX1_lacksVariants yX1_lacksVariants, Cond.code yX1_lacksVariants cX1_lacksVariants 2 (some .boolean), Cond.fieldLink RX1 26 "ClassSheets" "placeCount" "I", Cond.fieldLink RX1 19 "ClassSheets" "plannedKinds" "[I", Cond.methodLink RX1 67 yX0_size, Cond.instanceMethod yX0_size, Cond.selects RX0 yX0_size yX0_size, Cond.initialized RX0, Cond.code yX0_size cX0_size 1 (some .int), Cond.fieldLink RX0 28 "ClassSheets$Kind" "count" "I", Cond.methodLink RX1 136 yX0_placesInCommon, Cond.instanceMethod yX0_placesInCommon, Cond.selects RX0 yX0_placesInCommon yX0_placesInCommon, Cond.code yX0_placesInCommon cX0_placesInCommon 6 (some .int), Cond.fieldLink RX0 31 "ClassSheets$Kind" "places" "I", Cond.methodLink RX0 82 yJ9_floorMod_7cf53]
def wsX1_shared_r2 : List Cond := [Cond.static yJ9_floorMod_7cf53, Cond.initialized RJ9, Cond.code yJ9_floorMod_7cf53 cJ9_floorMod_7cf53 3 (some .int)]
def wsX1_shared : List Cond := .code yX1_shared cX1_shared 5 (some .int) :: ((wsX1_shared_r1 ++ wsX1_shared_r2) ++ wsX10 ++ wsX00)
def wsX1_apart_r1 : List Cond := [Cond.fieldLink RX1 15 "ClassSheets" "kindCount" "I", Cond.fieldLink RX1 11 "ClassSheets" "kinds" "[LClassSheets$Kind;", Cond.methodLink RX1 126 yX1_sheetRefusal, Cond.instanceMethod yX1_sheetRefusal, Cond.selects RX1 yX1_sheetRefusal yX1_sheetRefusal, Cond.initialized RX1, Cond.code yX1_sheetRefusal cX1_sheetRefusal 2 (some .int), Cond.methodLink RX1 129 yX1_isSheet, Cond.static yX1_isSheet, Cond.code yX1_isSheet cX1_isSheet 1 (some .boolean), Cond.methodLink RX1 132 yX1_lacksVariants, Cond.instanceMethod yX1_lacksVariants, Cond.selects RX1 yX1_lacksVariants yX1_lacksVariants, Cond.code yX1_lacksVariants cX1_lacksVariants 2 (some .boolean), Cond.fieldLink RX1 26 "ClassSheets" "placeCount" "I", Cond.fieldLink RX1 19 "ClassSheets" "plannedKinds" "[I", Cond.methodLink RX1 67 yX0_size, Cond.instanceMethod yX0_size, Cond.selects RX0 yX0_size yX0_size, Cond.initialized RX0, Cond.code yX0_size cX0_size 1 (some .int), Cond.fieldLink RX0 28 "ClassSheets$Kind" "count" "I", Cond.methodLink RX1 139 yX0_hasEnoughForTwo, Cond.instanceMethod yX0_hasEnoughForTwo]
def wsX1_apart_r2 : List Cond := [Cond.selects RX0 yX0_hasEnoughForTwo yX0_hasEnoughForTwo, Cond.code yX0_hasEnoughForTwo cX0_hasEnoughForTwo 1 (some .boolean), Cond.fieldLink RX0 31 "ClassSheets$Kind" "places" "I"]
def wsX1_apart : List Cond := .code yX1_apart cX1_apart 4 (some .int) :: ((wsX1_apart_r1 ++ wsX1_apart_r2) ++ wsX10 ++ wsX00)
def wsX1_seats : List Cond := .code yX1_seats cX1_seats 5 (some .int) :: ([.fieldLink RX1 32 "ClassSheets" "rowCount" "I", .fieldLink RX1 35 "ClassSheets" "columnCount" "I", .fieldLink RX1 41 "ClassSheets" "misses" "[I"] ++ wsX10)
def wsX1_base : List Cond := .code yX1_base cX1_base 3 (some .int) :: ([.fieldLink RX1 38 "ClassSheets" "baseNumber" "I"] ++ wsX10)
def wsX1_isSeat : List Cond := .code yX1_isSeat cX1_isSeat 2 (some .boolean) :: ([.fieldLink RX1 32 "ClassSheets" "rowCount" "I", .fieldLink RX1 35 "ClassSheets" "columnCount" "I"] ++ wsX10)
def wsX1_sheetAt : List Cond := .code yX1_sheetAt cX1_sheetAt 4 (some .int) :: ([.fieldLink RX1 38 "ClassSheets" "baseNumber" "I", .fieldLink RX1 35 "ClassSheets" "columnCount" "I", .methodLink RX1 151 Lib.Math.min.name, .static Lib.Math.min.name, .initialized "java/lang/Math", .code Lib.Math.min.name Lib.Math.min.code 2 (some .int)] ++ wsX10)
def wsX1_seat : List Cond := .code yX1_seat cX1_seat 2 (some .int) :: ([.methodLink RX1 145 yX1_isSeat, .instanceMethod yX1_isSeat, .selects RX1 yX1_isSeat yX1_isSeat, .initialized RX1, .code yX1_isSeat cX1_isSeat 2 (some .boolean), .fieldLink RX1 32 "ClassSheets" "rowCount" "I", .fieldLink RX1 35 "ClassSheets" "columnCount" "I", .methodLink RX1 148 yX1_sheetAt, .instanceMethod yX1_sheetAt, .selects RX1 yX1_sheetAt yX1_sheetAt, .code yX1_sheetAt cX1_sheetAt 4 (some .int), .fieldLink RX1 38 "ClassSheets" "baseNumber" "I", .methodLink RX1 151 Lib.Math.min.name, .static Lib.Math.min.name, .initialized "java/lang/Math", .code Lib.Math.min.name Lib.Math.min.code 2 (some .int)] ++ wsX10)
def wsX1_unlike : List Cond := .code yX1_unlike cX1_unlike 1 (some .int) :: ([.fieldLink RX1 32 "ClassSheets" "rowCount" "I", .methodLink RX1 151 Lib.Math.min.name, .static Lib.Math.min.name, .initialized "java/lang/Math", .code Lib.Math.min.name Lib.Math.min.code 2 (some .int), .fieldLink RX1 35 "ClassSheets" "columnCount" "I"] ++ wsX10)
def wsX1_missesFrom : List Cond := .code yX1_missesFrom cX1_missesFrom 2 (some .int) :: ([])
def wsX1_mark_r1 : List Cond := [Cond.fieldLink RX1 19 "ClassSheets" "plannedKinds" "[I", Cond.fieldLink RX1 11 "ClassSheets" "kinds" "[LClassSheets$Kind;", Cond.fieldLink RX1 44 "ClassSheets" "rightMarks" "I", Cond.fieldLink RX1 47 "ClassSheets" "wrongMarks" "I", Cond.fieldLink RX1 41 "ClassSheets" "misses" "[I", Cond.methodLink RX1 145 yX1_isSeat, Cond.instanceMethod yX1_isSeat, Cond.selects RX1 yX1_isSeat yX1_isSeat, Cond.initialized RX1, Cond.code yX1_isSeat cX1_isSeat 2 (some .boolean), Cond.fieldLink RX1 32 "ClassSheets" "rowCount" "I", Cond.fieldLink RX1 35 "ClassSheets" "columnCount" "I", Cond.methodLink RX1 108 yX1_isPlace, Cond.instanceMethod yX1_isPlace, Cond.selects RX1 yX1_isPlace yX1_isPlace, Cond.code yX1_isPlace cX1_isPlace 2 (some .boolean), Cond.fieldLink RX1 26 "ClassSheets" "placeCount" "I", Cond.methodLink RX1 132 yX1_lacksVariants, Cond.instanceMethod yX1_lacksVariants, Cond.selects RX1 yX1_lacksVariants yX1_lacksVariants, Cond.code yX1_lacksVariants cX1_lacksVariants 2 (some .boolean), Cond.methodLink RX1 67 yX0_size, Cond.instanceMethod yX0_size, Cond.selects RX0 yX0_size yX0_size]
def wsX1_mark_r2 : List Cond := [Cond.initialized RX0, Cond.code yX0_size cX0_size 1 (some .int), Cond.fieldLink RX0 28 "ClassSheets$Kind" "count" "I", Cond.methodLink RX1 148 yX1_sheetAt, Cond.instanceMethod yX1_sheetAt, Cond.selects RX1 yX1_sheetAt yX1_sheetAt, Cond.code yX1_sheetAt cX1_sheetAt 4 (some .int), Cond.fieldLink RX1 38 "ClassSheets" "baseNumber" "I", Cond.methodLink RX1 151 Lib.Math.min.name, Cond.static Lib.Math.min.name, Cond.initialized "java/lang/Math", Cond.code Lib.Math.min.name Lib.Math.min.code 2 (some .int), Cond.methodLink RX1 120 yX1_variantOn, Cond.instanceMethod yX1_variantOn, Cond.selects RX1 yX1_variantOn yX1_variantOn, Cond.code yX1_variantOn cX1_variantOn 3 (some .int), Cond.fieldLink RX1 23 "ClassSheets" "turns" "[I", Cond.methodLink RX1 142 yX0_variantFor, Cond.instanceMethod yX0_variantFor, Cond.selects RX0 yX0_variantFor yX0_variantFor, Cond.code yX0_variantFor cX0_variantFor 3 (some .int), Cond.fieldLink RX0 31 "ClassSheets$Kind" "places" "I", Cond.fieldLink RX0 22 "ClassSheets$Kind" "rules" "[I", Cond.methodLink RX1 99 yX0_slipBehind]
def wsX1_mark_r3 : List Cond := [Cond.instanceMethod yX0_slipBehind, Cond.selects RX0 yX0_slipBehind yX0_slipBehind, Cond.code yX0_slipBehind cX0_slipBehind 7 (some .int), Cond.methodLink RX0 70 yX0_pairAt, Cond.instanceMethod yX0_pairAt, Cond.selects RX0 yX0_pairAt yX0_pairAt, Cond.code yX0_pairAt cX0_pairAt 5 (some .int), Cond.fieldLink RX0 15 "ClassSheets$Kind" "least" "[I", Cond.fieldLink RX0 19 "ClassSheets$Kind" "most" "[I", Cond.fieldLink RX0 25 "ClassSheets$Kind" "before" "[I", Cond.methodLink RX0 50 yX0_isLawful, Cond.instanceMethod yX0_isLawful, Cond.selects RX0 yX0_isLawful yX0_isLawful, Cond.code yX0_isLawful cX0_isLawful 4 (some .boolean), Cond.methodLink RX0 54 yX0_result, Cond.instanceMethod yX0_result, Cond.selects RX0 yX0_result yX0_result, Cond.code yX0_result cX0_result 3 (some .int), Cond.fieldLink RX0 11 "ClassSheets$Kind" "operation" "I", Cond.methodLink RX0 57 yX0_carries, Cond.instanceMethod yX0_carries, Cond.selects RX0 yX0_carries yX0_carries, Cond.code yX0_carries cX0_carries 3 (some .boolean), Cond.methodLink RX0 60 yX0_otherOperation]
def wsX1_mark_r4 : List Cond := [Cond.instanceMethod yX0_otherOperation, Cond.selects RX0 yX0_otherOperation yX0_otherOperation, Cond.code yX0_otherOperation cX0_otherOperation 3 (some .int), Cond.methodLink RX0 73 yX0_slipped, Cond.instanceMethod yX0_slipped, Cond.selects RX0 yX0_slipped yX0_slipped, Cond.code yX0_slipped cX0_slipped 5 (some .int), Cond.methodLink RX0 63 yX0_withoutCarrying, Cond.instanceMethod yX0_withoutCarrying, Cond.selects RX0 yX0_withoutCarrying yX0_withoutCarrying, Cond.code yX0_withoutCarrying cX0_withoutCarrying 3 (some .int), Cond.methodLink RX0 77 Lib.Math.abs.name, Cond.static Lib.Math.abs.name, Cond.code Lib.Math.abs.name Lib.Math.abs.code 1 (some .int), Cond.methodLink RX0 66 yX0_exchanged, Cond.static yX0_exchanged, Cond.code yX0_exchanged cX0_exchanged 3 (some .int), Cond.methodLink RX1 156 yX1_missesFrom, Cond.instanceMethod yX1_missesFrom, Cond.selects RX1 yX1_missesFrom yX1_missesFrom, Cond.code yX1_missesFrom cX1_missesFrom 2 (some .int)]
def wsX1_mark : List Cond := .code yX1_mark cX1_mark 6 (some .int) :: ((wsX1_mark_r1 ++ (wsX1_mark_r2 ++ (wsX1_mark_r3 ++ wsX1_mark_r4))) ++ wsX10 ++ wsX00)
def wsX1_missesAt : List Cond := .code yX1_missesAt cX1_missesAt 5 (some .int) :: ([.fieldLink RX1 41 "ClassSheets" "misses" "[I", .methodLink RX1 156 yX1_missesFrom, .instanceMethod yX1_missesFrom, .selects RX1 yX1_missesFrom yX1_missesFrom, .initialized RX1, .code yX1_missesFrom cX1_missesFrom 2 (some .int)] ++ wsX10)
def wsX1_missed : List Cond := .code yX1_missed cX1_missed 3 (some .int) :: ([.fieldLink RX1 41 "ClassSheets" "misses" "[I", .methodLink RX1 145 yX1_isSeat, .instanceMethod yX1_isSeat, .selects RX1 yX1_isSeat yX1_isSeat, .initialized RX1, .code yX1_isSeat cX1_isSeat 2 (some .boolean), .fieldLink RX1 32 "ClassSheets" "rowCount" "I", .fieldLink RX1 35 "ClassSheets" "columnCount" "I", .methodLink RX1 55 yX1_isKind, .instanceMethod yX1_isKind, .selects RX1 yX1_isKind yX1_isKind, .code yX1_isKind cX1_isKind 2 (some .boolean), .fieldLink RX1 15 "ClassSheets" "kindCount" "I", .methodLink RX1 159 yX1_missesAt, .instanceMethod yX1_missesAt, .selects RX1 yX1_missesAt yX1_missesAt, .code yX1_missesAt cX1_missesAt 5 (some .int), .methodLink RX1 156 yX1_missesFrom, .instanceMethod yX1_missesFrom, .selects RX1 yX1_missesFrom yX1_missesFrom, .code yX1_missesFrom cX1_missesFrom 2 (some .int)] ++ wsX10)
def wsX1_reviewPlaces : List Cond := .code yX1_reviewPlaces cX1_reviewPlaces 11 (some .int) :: ([.fieldLink RX1 41 "ClassSheets" "misses" "[I", .methodLink RX1 156 yX1_missesFrom, .instanceMethod yX1_missesFrom, .selects RX1 yX1_missesFrom yX1_missesFrom, .initialized RX1, .code yX1_missesFrom cX1_missesFrom 2 (some .int), .methodLink RX1 159 yX1_missesAt, .instanceMethod yX1_missesAt, .selects RX1 yX1_missesAt yX1_missesAt, .code yX1_missesAt cX1_missesAt 5 (some .int)] ++ wsX10)
def wsX1_review_r1 : List Cond := [Cond.methodLink RX1 145 yX1_isSeat, Cond.instanceMethod yX1_isSeat, Cond.selects RX1 yX1_isSeat yX1_isSeat, Cond.initialized RX1, Cond.code yX1_isSeat cX1_isSeat 2 (some .boolean), Cond.fieldLink RX1 32 "ClassSheets" "rowCount" "I", Cond.fieldLink RX1 35 "ClassSheets" "columnCount" "I", Cond.methodLink RX1 55 yX1_isKind, Cond.instanceMethod yX1_isKind, Cond.selects RX1 yX1_isKind yX1_isKind, Cond.code yX1_isKind cX1_isKind 2 (some .boolean), Cond.fieldLink RX1 15 "ClassSheets" "kindCount" "I", Cond.methodLink RX1 162 yX1_reviewPlaces, Cond.instanceMethod yX1_reviewPlaces, Cond.selects RX1 yX1_reviewPlaces yX1_reviewPlaces, Cond.code yX1_reviewPlaces cX1_reviewPlaces 11 (some .int), Cond.fieldLink RX1 41 "ClassSheets" "misses" "[I", Cond.methodLink RX1 156 yX1_missesFrom, Cond.instanceMethod yX1_missesFrom, Cond.selects RX1 yX1_missesFrom yX1_missesFrom, Cond.code yX1_missesFrom cX1_missesFrom 2 (some .int), Cond.methodLink RX1 159 yX1_missesAt, Cond.instanceMethod yX1_missesAt, Cond.selects RX1 yX1_missesAt yX1_missesAt]
def wsX1_review_r2 : List Cond := [Cond.code yX1_missesAt cX1_missesAt 5 (some .int)]
def wsX1_review : List Cond := .code yX1_review cX1_review 4 (some .int) :: ((wsX1_review_r1 ++ wsX1_review_r2) ++ wsX10)
def wsX1_all : List Cond := .code yX1_all cX1_all 4 (some .int) :: ([.fieldLink RX1 41 "ClassSheets" "misses" "[I", .methodLink RX1 55 yX1_isKind, .instanceMethod yX1_isKind, .selects RX1 yX1_isKind yX1_isKind, .initialized RX1, .code yX1_isKind cX1_isKind 2 (some .boolean), .fieldLink RX1 15 "ClassSheets" "kindCount" "I"] ++ wsX10)
def wsX1_total : List Cond := .code yX1_total cX1_total 2 (some .int) :: ([.fieldLink RX1 15 "ClassSheets" "kindCount" "I", .fieldLink RX1 26 "ClassSheets" "placeCount" "I", .fieldLink RX1 32 "ClassSheets" "rowCount" "I", .fieldLink RX1 35 "ClassSheets" "columnCount" "I", .fieldLink RX1 44 "ClassSheets" "rightMarks" "I", .fieldLink RX1 47 "ClassSheets" "wrongMarks" "I"] ++ wsX10)
def wsX2_init : List Cond := .code yX2_init cX2_init 1 none :: ([.methodLink RX2 1 objectInit, .instanceMethod objectInit, .code objectInit ⟨#[0xb1]⟩ 1 none, .arrayClass .int, .fieldLink RX2 7 "ClassSheetsModel" "operation" "[I", .fieldLink RX2 13 "ClassSheetsModel" "from" "[I", .fieldLink RX2 16 "ClassSheetsModel" "to" "[I", .fieldLink RX2 19 "ClassSheetsModel" "law" "[I", .fieldLink RX2 22 "ClassSheetsModel" "takes" "[I", .fieldLink RX2 25 "ClassSheetsModel" "begin" "[I", .arrayClass .boolean, .fieldLink RX2 28 "ClassSheetsModel" "isTold" "[Z", .fieldLink RX2 32 "ClassSheetsModel" "many" "[I", .constant RX2 35 (80000), .arrayClass .short, .fieldLink RX2 36 "ClassSheetsModel" "pairs" "[S", .fieldLink RX2 40 "ClassSheetsModel" "plan" "[I", .fieldLink RX2 43 "ClassSheetsModel" "lines" "I", .fieldLink RX2 47 "ClassSheetsModel" "rows" "I", .fieldLink RX2 50 "ClassSheetsModel" "columns" "I", .fieldLink RX2 53 "ClassSheetsModel" "number" "[I", .fieldLink RX2 56 "ClassSheetsModel" "missed" "[I"] ++ wsX20)
def wsX2_in : List Cond := .code yX2_in cX2_in 6 (some .boolean) :: ([])
def wsX2_noKind : List Cond := .code yX2_noKind cX2_noKind 2 (some .boolean) :: ([.fieldLink RX2 62 "ClassSheetsModel" "kinds" "I", .methodLink RX2 65 yX2_in, .static yX2_in, .initialized RX2, .code yX2_in cX2_in 6 (some .boolean)] ++ wsX20)
def wsX2_noPlace : List Cond := .code yX2_noPlace cX2_noPlace 2 (some .boolean) :: ([.fieldLink RX2 69 "ClassSheetsModel" "places" "I", .methodLink RX2 65 yX2_in, .static yX2_in, .initialized RX2, .code yX2_in cX2_in 6 (some .boolean)] ++ wsX20)
def wsX2_noSeat : List Cond := .code yX2_noSeat cX2_noSeat 2 (some .boolean) :: ([.fieldLink RX2 47 "ClassSheetsModel" "rows" "I", .fieldLink RX2 50 "ClassSheetsModel" "columns" "I"] ++ wsX20)
def wsX2_answerOf : List Cond := .code yX2_answerOf cX2_answerOf 3 (some .int) :: ([])
def wsX2_carries : List Cond := .code yX2_carries cX2_carries 3 (some .boolean) :: ([])
def wsX2_slipOf : List Cond := .code yX2_slipOf cX2_slipOf 5 (some .int) :: ([.constantLong RX2 80 (10), .constantLong RX2 82 (99), .methodLink RX2 72 yX2_answerOf, .static yX2_answerOf, .initialized RX2, .code yX2_answerOf cX2_answerOf 3 (some .int), .methodLink RX2 76 yX2_carries, .static yX2_carries, .code yX2_carries cX2_carries 3 (some .boolean), .methodLink RX2 65 yX2_in, .static yX2_in, .code yX2_in cX2_in 6 (some .boolean)])
def wsX2_holds : List Cond := .code yX2_holds cX2_holds 8 (some .boolean) :: ([.fieldLink RX2 7 "ClassSheetsModel" "operation" "[I", .fieldLink RX2 13 "ClassSheetsModel" "from" "[I", .fieldLink RX2 16 "ClassSheetsModel" "to" "[I", .fieldLink RX2 19 "ClassSheetsModel" "law" "[I", .methodLink RX2 72 yX2_answerOf, .static yX2_answerOf, .initialized RX2, .code yX2_answerOf cX2_answerOf 3 (some .int), .methodLink RX2 65 yX2_in, .static yX2_in, .code yX2_in cX2_in 6 (some .boolean), .methodLink RX2 76 yX2_carries, .static yX2_carries, .code yX2_carries cX2_carries 3 (some .boolean), .methodLink RX2 84 yX2_slipOf, .static yX2_slipOf, .code yX2_slipOf cX2_slipOf 5 (some .int), .constantLong RX2 80 (10), .constantLong RX2 82 (99)] ++ wsX20)
def wsX2_tell_r1 : List Cond := [Cond.fieldLink RX2 28 "ClassSheetsModel" "isTold" "[Z", Cond.fieldLink RX2 13 "ClassSheetsModel" "from" "[I", Cond.fieldLink RX2 16 "ClassSheetsModel" "to" "[I", Cond.fieldLink RX2 36 "ClassSheetsModel" "pairs" "[S", Cond.fieldLink RX2 32 "ClassSheetsModel" "many" "[I", Cond.methodLink RX2 88 yX2_holds, Cond.instanceMethod yX2_holds, Cond.selects RX2 yX2_holds yX2_holds, Cond.initialized RX2, Cond.code yX2_holds cX2_holds 8 (some .boolean), Cond.fieldLink RX2 7 "ClassSheetsModel" "operation" "[I", Cond.fieldLink RX2 19 "ClassSheetsModel" "law" "[I", Cond.methodLink RX2 72 yX2_answerOf, Cond.static yX2_answerOf, Cond.code yX2_answerOf cX2_answerOf 3 (some .int), Cond.methodLink RX2 65 yX2_in, Cond.static yX2_in, Cond.code yX2_in cX2_in 6 (some .boolean), Cond.methodLink RX2 76 yX2_carries, Cond.static yX2_carries, Cond.code yX2_carries cX2_carries 3 (some .boolean), Cond.methodLink RX2 84 yX2_slipOf, Cond.static yX2_slipOf, Cond.code yX2_slipOf cX2_slipOf 5 (some .int)]
def wsX2_tell_r2 : List Cond := [Cond.constantLong RX2 80 (10), Cond.constantLong RX2 82 (99)]
def wsX2_tell : List Cond := .code yX2_tell cX2_tell 5 (some .int) :: ((wsX2_tell_r1 ++ wsX2_tell_r2) ++ wsX20)
def wsX2_pairOf : List Cond := .code yX2_pairOf cX2_pairOf 3 (some .int) :: ([.fieldLink RX2 36 "ClassSheetsModel" "pairs" "[S"] ++ wsX20)
def wsX2_noVariant_r1 : List Cond := [Cond.methodLink RX2 91 yX2_noKind, Cond.instanceMethod yX2_noKind, Cond.selects RX2 yX2_noKind yX2_noKind, Cond.initialized RX2, Cond.code yX2_noKind cX2_noKind 2 (some .boolean), Cond.fieldLink RX2 62 "ClassSheetsModel" "kinds" "I", Cond.methodLink RX2 65 yX2_in, Cond.static yX2_in, Cond.code yX2_in cX2_in 6 (some .boolean), Cond.methodLink RX2 95 yX2_tell, Cond.instanceMethod yX2_tell, Cond.selects RX2 yX2_tell yX2_tell, Cond.code yX2_tell cX2_tell 5 (some .int), Cond.fieldLink RX2 28 "ClassSheetsModel" "isTold" "[Z", Cond.fieldLink RX2 13 "ClassSheetsModel" "from" "[I", Cond.fieldLink RX2 16 "ClassSheetsModel" "to" "[I", Cond.fieldLink RX2 36 "ClassSheetsModel" "pairs" "[S", Cond.fieldLink RX2 32 "ClassSheetsModel" "many" "[I", Cond.methodLink RX2 88 yX2_holds, Cond.instanceMethod yX2_holds, Cond.selects RX2 yX2_holds yX2_holds, Cond.code yX2_holds cX2_holds 8 (some .boolean), Cond.fieldLink RX2 7 "ClassSheetsModel" "operation" "[I", Cond.fieldLink RX2 19 "ClassSheetsModel" "law" "[I"]
def wsX2_noVariant_r2 : List Cond := [Cond.methodLink RX2 72 yX2_answerOf, Cond.static yX2_answerOf, Cond.code yX2_answerOf cX2_answerOf 3 (some .int), Cond.methodLink RX2 76 yX2_carries, Cond.static yX2_carries, Cond.code yX2_carries cX2_carries 3 (some .boolean), Cond.methodLink RX2 84 yX2_slipOf, Cond.static yX2_slipOf, Cond.code yX2_slipOf cX2_slipOf 5 (some .int), Cond.constantLong RX2 80 (10), Cond.constantLong RX2 82 (99)]
def wsX2_noVariant : List Cond := .code yX2_noVariant cX2_noVariant 3 (some .boolean) :: ((wsX2_noVariant_r1 ++ wsX2_noVariant_r2) ++ wsX20)
def wsX2_kind : List Cond := .code yX2_kind cX2_kind 2 (some .int) :: ([.fieldLink RX2 59 "ClassSheetsModel" "thrown" "I", .constantLong RX2 99 (3), .fieldLink RX2 62 "ClassSheetsModel" "kinds" "I", .fieldLink RX2 7 "ClassSheetsModel" "operation" "[I", .fieldLink RX2 16 "ClassSheetsModel" "to" "[I", .fieldLink RX2 22 "ClassSheetsModel" "takes" "[I", .methodLink RX2 65 yX2_in, .static yX2_in, .initialized RX2, .code yX2_in cX2_in 6 (some .boolean)] ++ wsX20)
def wsX2_range_r1 : List Cond := [Cond.fieldLink RX2 59 "ClassSheetsModel" "thrown" "I", Cond.constantLong RX2 101 (2), Cond.fieldLink RX2 13 "ClassSheetsModel" "from" "[I", Cond.fieldLink RX2 16 "ClassSheetsModel" "to" "[I", Cond.fieldLink RX2 28 "ClassSheetsModel" "isTold" "[Z", Cond.methodLink RX2 91 yX2_noKind, Cond.instanceMethod yX2_noKind, Cond.selects RX2 yX2_noKind yX2_noKind, Cond.initialized RX2, Cond.code yX2_noKind cX2_noKind 2 (some .boolean), Cond.fieldLink RX2 62 "ClassSheetsModel" "kinds" "I", Cond.methodLink RX2 65 yX2_in, Cond.static yX2_in, Cond.code yX2_in cX2_in 6 (some .boolean), Cond.methodLink RX2 95 yX2_tell, Cond.instanceMethod yX2_tell, Cond.selects RX2 yX2_tell yX2_tell, Cond.code yX2_tell cX2_tell 5 (some .int), Cond.fieldLink RX2 36 "ClassSheetsModel" "pairs" "[S", Cond.fieldLink RX2 32 "ClassSheetsModel" "many" "[I", Cond.methodLink RX2 88 yX2_holds, Cond.instanceMethod yX2_holds, Cond.selects RX2 yX2_holds yX2_holds, Cond.code yX2_holds cX2_holds 8 (some .boolean)]
def wsX2_range_r2 : List Cond := [Cond.fieldLink RX2 7 "ClassSheetsModel" "operation" "[I", Cond.fieldLink RX2 19 "ClassSheetsModel" "law" "[I", Cond.methodLink RX2 72 yX2_answerOf, Cond.static yX2_answerOf, Cond.code yX2_answerOf cX2_answerOf 3 (some .int), Cond.methodLink RX2 76 yX2_carries, Cond.static yX2_carries, Cond.code yX2_carries cX2_carries 3 (some .boolean), Cond.methodLink RX2 84 yX2_slipOf, Cond.static yX2_slipOf, Cond.code yX2_slipOf cX2_slipOf 5 (some .int), Cond.constantLong RX2 80 (10), Cond.constantLong RX2 82 (99)]
def wsX2_range : List Cond := .code yX2_range cX2_range 5 (some .int) :: ((wsX2_range_r1 ++ wsX2_range_r2) ++ wsX20)
def wsX2_rule : List Cond := .code yX2_rule cX2_rule 6 (some .int) :: ([.fieldLink RX2 59 "ClassSheetsModel" "thrown" "I", .constantLong RX2 99 (3), .constantLong RX2 103 (9), .constantLong RX2 105 (9999), .fieldLink RX2 19 "ClassSheetsModel" "law" "[I", .fieldLink RX2 22 "ClassSheetsModel" "takes" "[I", .fieldLink RX2 25 "ClassSheetsModel" "begin" "[I", .fieldLink RX2 28 "ClassSheetsModel" "isTold" "[Z", .methodLink RX2 91 yX2_noKind, .instanceMethod yX2_noKind, .selects RX2 yX2_noKind yX2_noKind, .initialized RX2, .code yX2_noKind cX2_noKind 2 (some .boolean), .fieldLink RX2 62 "ClassSheetsModel" "kinds" "I", .methodLink RX2 65 yX2_in, .static yX2_in, .code yX2_in cX2_in 6 (some .boolean)] ++ wsX20)
def wsX2_variants_r1 : List Cond := [Cond.fieldLink RX2 59 "ClassSheetsModel" "thrown" "I", Cond.methodLink RX2 91 yX2_noKind, Cond.instanceMethod yX2_noKind, Cond.selects RX2 yX2_noKind yX2_noKind, Cond.initialized RX2, Cond.code yX2_noKind cX2_noKind 2 (some .boolean), Cond.fieldLink RX2 62 "ClassSheetsModel" "kinds" "I", Cond.methodLink RX2 65 yX2_in, Cond.static yX2_in, Cond.code yX2_in cX2_in 6 (some .boolean), Cond.methodLink RX2 95 yX2_tell, Cond.instanceMethod yX2_tell, Cond.selects RX2 yX2_tell yX2_tell, Cond.code yX2_tell cX2_tell 5 (some .int), Cond.fieldLink RX2 28 "ClassSheetsModel" "isTold" "[Z", Cond.fieldLink RX2 13 "ClassSheetsModel" "from" "[I", Cond.fieldLink RX2 16 "ClassSheetsModel" "to" "[I", Cond.fieldLink RX2 36 "ClassSheetsModel" "pairs" "[S", Cond.fieldLink RX2 32 "ClassSheetsModel" "many" "[I", Cond.methodLink RX2 88 yX2_holds, Cond.instanceMethod yX2_holds, Cond.selects RX2 yX2_holds yX2_holds, Cond.code yX2_holds cX2_holds 8 (some .boolean), Cond.fieldLink RX2 7 "ClassSheetsModel" "operation" "[I"]
def wsX2_variants_r2 : List Cond := [Cond.fieldLink RX2 19 "ClassSheetsModel" "law" "[I", Cond.methodLink RX2 72 yX2_answerOf, Cond.static yX2_answerOf, Cond.code yX2_answerOf cX2_answerOf 3 (some .int), Cond.methodLink RX2 76 yX2_carries, Cond.static yX2_carries, Cond.code yX2_carries cX2_carries 3 (some .boolean), Cond.methodLink RX2 84 yX2_slipOf, Cond.static yX2_slipOf, Cond.code yX2_slipOf cX2_slipOf 5 (some .int), Cond.constantLong RX2 80 (10), Cond.constantLong RX2 82 (99)]
def wsX2_variants : List Cond := .code yX2_variants cX2_variants 2 (some .int) :: ((wsX2_variants_r1 ++ wsX2_variants_r2) ++ wsX20)
def wsX2_variant_r1 : List Cond := [Cond.fieldLink RX2 59 "ClassSheetsModel" "thrown" "I", Cond.fieldLink RX2 7 "ClassSheetsModel" "operation" "[I", Cond.methodLink RX2 107 yX2_noVariant, Cond.instanceMethod yX2_noVariant, Cond.selects RX2 yX2_noVariant yX2_noVariant, Cond.initialized RX2, Cond.code yX2_noVariant cX2_noVariant 3 (some .boolean), Cond.methodLink RX2 91 yX2_noKind, Cond.instanceMethod yX2_noKind, Cond.selects RX2 yX2_noKind yX2_noKind, Cond.code yX2_noKind cX2_noKind 2 (some .boolean), Cond.fieldLink RX2 62 "ClassSheetsModel" "kinds" "I", Cond.methodLink RX2 65 yX2_in, Cond.static yX2_in, Cond.code yX2_in cX2_in 6 (some .boolean), Cond.methodLink RX2 95 yX2_tell, Cond.instanceMethod yX2_tell, Cond.selects RX2 yX2_tell yX2_tell, Cond.code yX2_tell cX2_tell 5 (some .int), Cond.fieldLink RX2 28 "ClassSheetsModel" "isTold" "[Z", Cond.fieldLink RX2 13 "ClassSheetsModel" "from" "[I", Cond.fieldLink RX2 16 "ClassSheetsModel" "to" "[I", Cond.fieldLink RX2 36 "ClassSheetsModel" "pairs" "[S", Cond.fieldLink RX2 32 "ClassSheetsModel" "many" "[I"]
def wsX2_variant_r2 : List Cond := [Cond.methodLink RX2 88 yX2_holds, Cond.instanceMethod yX2_holds, Cond.selects RX2 yX2_holds yX2_holds, Cond.code yX2_holds cX2_holds 8 (some .boolean), Cond.fieldLink RX2 19 "ClassSheetsModel" "law" "[I", Cond.methodLink RX2 72 yX2_answerOf, Cond.static yX2_answerOf, Cond.code yX2_answerOf cX2_answerOf 3 (some .int), Cond.methodLink RX2 76 yX2_carries, Cond.static yX2_carries, Cond.code yX2_carries cX2_carries 3 (some .boolean), Cond.methodLink RX2 84 yX2_slipOf, Cond.static yX2_slipOf, Cond.code yX2_slipOf cX2_slipOf 5 (some .int), Cond.constantLong RX2 80 (10), Cond.constantLong RX2 82 (99), Cond.methodLink RX2 111 yX2_pairOf, Cond.instanceMethod yX2_pairOf, Cond.selects RX2 yX2_pairOf yX2_pairOf, Cond.code yX2_pairOf cX2_pairOf 3 (some .int)]
def wsX2_variant : List Cond := .code yX2_variant cX2_variant 6 (some .int) :: ((wsX2_variant_r1 ++ wsX2_variant_r2) ++ wsX20)
def wsX2_find_r1 : List Cond := [Cond.fieldLink RX2 59 "ClassSheetsModel" "thrown" "I", Cond.methodLink RX2 91 yX2_noKind, Cond.instanceMethod yX2_noKind, Cond.selects RX2 yX2_noKind yX2_noKind, Cond.initialized RX2, Cond.code yX2_noKind cX2_noKind 2 (some .boolean), Cond.fieldLink RX2 62 "ClassSheetsModel" "kinds" "I", Cond.methodLink RX2 65 yX2_in, Cond.static yX2_in, Cond.code yX2_in cX2_in 6 (some .boolean), Cond.methodLink RX2 95 yX2_tell, Cond.instanceMethod yX2_tell, Cond.selects RX2 yX2_tell yX2_tell, Cond.code yX2_tell cX2_tell 5 (some .int), Cond.fieldLink RX2 28 "ClassSheetsModel" "isTold" "[Z", Cond.fieldLink RX2 13 "ClassSheetsModel" "from" "[I", Cond.fieldLink RX2 16 "ClassSheetsModel" "to" "[I", Cond.fieldLink RX2 36 "ClassSheetsModel" "pairs" "[S", Cond.fieldLink RX2 32 "ClassSheetsModel" "many" "[I", Cond.methodLink RX2 88 yX2_holds, Cond.instanceMethod yX2_holds, Cond.selects RX2 yX2_holds yX2_holds, Cond.code yX2_holds cX2_holds 8 (some .boolean), Cond.fieldLink RX2 7 "ClassSheetsModel" "operation" "[I"]
def wsX2_find_r2 : List Cond := [Cond.fieldLink RX2 19 "ClassSheetsModel" "law" "[I", Cond.methodLink RX2 72 yX2_answerOf, Cond.static yX2_answerOf, Cond.code yX2_answerOf cX2_answerOf 3 (some .int), Cond.methodLink RX2 76 yX2_carries, Cond.static yX2_carries, Cond.code yX2_carries cX2_carries 3 (some .boolean), Cond.methodLink RX2 84 yX2_slipOf, Cond.static yX2_slipOf, Cond.code yX2_slipOf cX2_slipOf 5 (some .int), Cond.constantLong RX2 80 (10), Cond.constantLong RX2 82 (99), Cond.methodLink RX2 111 yX2_pairOf, Cond.instanceMethod yX2_pairOf, Cond.selects RX2 yX2_pairOf yX2_pairOf, Cond.code yX2_pairOf cX2_pairOf 3 (some .int)]
def wsX2_find : List Cond := .code yX2_find cX2_find 5 (some .int) :: ((wsX2_find_r1 ++ wsX2_find_r2) ++ wsX20)
def wsX2_slipAt : List Cond := .code yX2_slipAt cX2_slipAt 4 (some .int) :: ([.fieldLink RX2 7 "ClassSheetsModel" "operation" "[I", .methodLink RX2 111 yX2_pairOf, .instanceMethod yX2_pairOf, .selects RX2 yX2_pairOf yX2_pairOf, .initialized RX2, .code yX2_pairOf cX2_pairOf 3 (some .int), .fieldLink RX2 36 "ClassSheetsModel" "pairs" "[S", .methodLink RX2 84 yX2_slipOf, .static yX2_slipOf, .code yX2_slipOf cX2_slipOf 5 (some .int), .constantLong RX2 80 (10), .constantLong RX2 82 (99), .methodLink RX2 72 yX2_answerOf, .static yX2_answerOf, .code yX2_answerOf cX2_answerOf 3 (some .int), .methodLink RX2 76 yX2_carries, .static yX2_carries, .code yX2_carries cX2_carries 3 (some .boolean), .methodLink RX2 65 yX2_in, .static yX2_in, .code yX2_in cX2_in 6 (some .boolean)] ++ wsX20)
def wsX2_rightAt : List Cond := .code yX2_rightAt cX2_rightAt 3 (some .int) :: ([.fieldLink RX2 7 "ClassSheetsModel" "operation" "[I", .methodLink RX2 111 yX2_pairOf, .instanceMethod yX2_pairOf, .selects RX2 yX2_pairOf yX2_pairOf, .initialized RX2, .code yX2_pairOf cX2_pairOf 3 (some .int), .fieldLink RX2 36 "ClassSheetsModel" "pairs" "[S", .methodLink RX2 72 yX2_answerOf, .static yX2_answerOf, .code yX2_answerOf cX2_answerOf 3 (some .int)] ++ wsX20)
def wsX2_slip_r1 : List Cond := [Cond.fieldLink RX2 59 "ClassSheetsModel" "thrown" "I", Cond.constantLong RX2 115 (5), Cond.methodLink RX2 107 yX2_noVariant, Cond.instanceMethod yX2_noVariant, Cond.selects RX2 yX2_noVariant yX2_noVariant, Cond.initialized RX2, Cond.code yX2_noVariant cX2_noVariant 3 (some .boolean), Cond.methodLink RX2 91 yX2_noKind, Cond.instanceMethod yX2_noKind, Cond.selects RX2 yX2_noKind yX2_noKind, Cond.code yX2_noKind cX2_noKind 2 (some .boolean), Cond.fieldLink RX2 62 "ClassSheetsModel" "kinds" "I", Cond.methodLink RX2 65 yX2_in, Cond.static yX2_in, Cond.code yX2_in cX2_in 6 (some .boolean), Cond.methodLink RX2 95 yX2_tell, Cond.instanceMethod yX2_tell, Cond.selects RX2 yX2_tell yX2_tell, Cond.code yX2_tell cX2_tell 5 (some .int), Cond.fieldLink RX2 28 "ClassSheetsModel" "isTold" "[Z", Cond.fieldLink RX2 13 "ClassSheetsModel" "from" "[I", Cond.fieldLink RX2 16 "ClassSheetsModel" "to" "[I", Cond.fieldLink RX2 36 "ClassSheetsModel" "pairs" "[S", Cond.fieldLink RX2 32 "ClassSheetsModel" "many" "[I"]
def wsX2_slip_r2 : List Cond := [Cond.methodLink RX2 88 yX2_holds, Cond.instanceMethod yX2_holds, Cond.selects RX2 yX2_holds yX2_holds, Cond.code yX2_holds cX2_holds 8 (some .boolean), Cond.fieldLink RX2 7 "ClassSheetsModel" "operation" "[I", Cond.fieldLink RX2 19 "ClassSheetsModel" "law" "[I", Cond.methodLink RX2 72 yX2_answerOf, Cond.static yX2_answerOf, Cond.code yX2_answerOf cX2_answerOf 3 (some .int), Cond.methodLink RX2 76 yX2_carries, Cond.static yX2_carries, Cond.code yX2_carries cX2_carries 3 (some .boolean), Cond.methodLink RX2 84 yX2_slipOf, Cond.static yX2_slipOf, Cond.code yX2_slipOf cX2_slipOf 5 (some .int), Cond.constantLong RX2 80 (10), Cond.constantLong RX2 82 (99), Cond.methodLink RX2 117 yX2_slipAt, Cond.instanceMethod yX2_slipAt, Cond.selects RX2 yX2_slipAt yX2_slipAt, Cond.code yX2_slipAt cX2_slipAt 4 (some .int), Cond.methodLink RX2 111 yX2_pairOf, Cond.instanceMethod yX2_pairOf, Cond.selects RX2 yX2_pairOf yX2_pairOf]
def wsX2_slip_r3 : List Cond := [Cond.code yX2_pairOf cX2_pairOf 3 (some .int)]
def wsX2_slip : List Cond := .code yX2_slip cX2_slip 4 (some .int) :: ((wsX2_slip_r1 ++ (wsX2_slip_r2 ++ wsX2_slip_r3)) ++ wsX20)
def wsX2_tellsOf_r1 : List Cond := [Cond.methodLink RX2 120 yX2_rightAt, Cond.instanceMethod yX2_rightAt, Cond.selects RX2 yX2_rightAt yX2_rightAt, Cond.initialized RX2, Cond.code yX2_rightAt cX2_rightAt 3 (some .int), Cond.fieldLink RX2 7 "ClassSheetsModel" "operation" "[I", Cond.methodLink RX2 111 yX2_pairOf, Cond.instanceMethod yX2_pairOf, Cond.selects RX2 yX2_pairOf yX2_pairOf, Cond.code yX2_pairOf cX2_pairOf 3 (some .int), Cond.fieldLink RX2 36 "ClassSheetsModel" "pairs" "[S", Cond.methodLink RX2 72 yX2_answerOf, Cond.static yX2_answerOf, Cond.code yX2_answerOf cX2_answerOf 3 (some .int), Cond.methodLink RX2 117 yX2_slipAt, Cond.instanceMethod yX2_slipAt, Cond.selects RX2 yX2_slipAt yX2_slipAt, Cond.code yX2_slipAt cX2_slipAt 4 (some .int), Cond.methodLink RX2 84 yX2_slipOf, Cond.static yX2_slipOf, Cond.code yX2_slipOf cX2_slipOf 5 (some .int), Cond.constantLong RX2 80 (10), Cond.constantLong RX2 82 (99), Cond.methodLink RX2 76 yX2_carries]
def wsX2_tellsOf_r2 : List Cond := [Cond.static yX2_carries, Cond.code yX2_carries cX2_carries 3 (some .boolean), Cond.methodLink RX2 65 yX2_in, Cond.static yX2_in, Cond.code yX2_in cX2_in 6 (some .boolean)]
def wsX2_tellsOf : List Cond := .code yX2_tellsOf cX2_tellsOf 5 (some .int) :: ((wsX2_tellsOf_r1 ++ wsX2_tellsOf_r2) ++ wsX20)
def wsX2_tells_r1 : List Cond := [Cond.fieldLink RX2 59 "ClassSheetsModel" "thrown" "I", Cond.methodLink RX2 107 yX2_noVariant, Cond.instanceMethod yX2_noVariant, Cond.selects RX2 yX2_noVariant yX2_noVariant, Cond.initialized RX2, Cond.code yX2_noVariant cX2_noVariant 3 (some .boolean), Cond.methodLink RX2 91 yX2_noKind, Cond.instanceMethod yX2_noKind, Cond.selects RX2 yX2_noKind yX2_noKind, Cond.code yX2_noKind cX2_noKind 2 (some .boolean), Cond.fieldLink RX2 62 "ClassSheetsModel" "kinds" "I", Cond.methodLink RX2 65 yX2_in, Cond.static yX2_in, Cond.code yX2_in cX2_in 6 (some .boolean), Cond.methodLink RX2 95 yX2_tell, Cond.instanceMethod yX2_tell, Cond.selects RX2 yX2_tell yX2_tell, Cond.code yX2_tell cX2_tell 5 (some .int), Cond.fieldLink RX2 28 "ClassSheetsModel" "isTold" "[Z", Cond.fieldLink RX2 13 "ClassSheetsModel" "from" "[I", Cond.fieldLink RX2 16 "ClassSheetsModel" "to" "[I", Cond.fieldLink RX2 36 "ClassSheetsModel" "pairs" "[S", Cond.fieldLink RX2 32 "ClassSheetsModel" "many" "[I", Cond.methodLink RX2 88 yX2_holds]
def wsX2_tells_r2 : List Cond := [Cond.instanceMethod yX2_holds, Cond.selects RX2 yX2_holds yX2_holds, Cond.code yX2_holds cX2_holds 8 (some .boolean), Cond.fieldLink RX2 7 "ClassSheetsModel" "operation" "[I", Cond.fieldLink RX2 19 "ClassSheetsModel" "law" "[I", Cond.methodLink RX2 72 yX2_answerOf, Cond.static yX2_answerOf, Cond.code yX2_answerOf cX2_answerOf 3 (some .int), Cond.methodLink RX2 76 yX2_carries, Cond.static yX2_carries, Cond.code yX2_carries cX2_carries 3 (some .boolean), Cond.methodLink RX2 84 yX2_slipOf, Cond.static yX2_slipOf, Cond.code yX2_slipOf cX2_slipOf 5 (some .int), Cond.constantLong RX2 80 (10), Cond.constantLong RX2 82 (99), Cond.methodLink RX2 123 yX2_tellsOf, Cond.instanceMethod yX2_tellsOf, Cond.selects RX2 yX2_tellsOf yX2_tellsOf, Cond.code yX2_tellsOf cX2_tellsOf 5 (some .int), Cond.methodLink RX2 120 yX2_rightAt, Cond.instanceMethod yX2_rightAt, Cond.selects RX2 yX2_rightAt yX2_rightAt, Cond.code yX2_rightAt cX2_rightAt 3 (some .int)]
def wsX2_tells_r3 : List Cond := [Cond.methodLink RX2 111 yX2_pairOf, Cond.instanceMethod yX2_pairOf, Cond.selects RX2 yX2_pairOf yX2_pairOf, Cond.code yX2_pairOf cX2_pairOf 3 (some .int), Cond.methodLink RX2 117 yX2_slipAt, Cond.instanceMethod yX2_slipAt, Cond.selects RX2 yX2_slipAt yX2_slipAt, Cond.code yX2_slipAt cX2_slipAt 4 (some .int)]
def wsX2_tells : List Cond := .code yX2_tells cX2_tells 4 (some .int) :: ((wsX2_tells_r1 ++ (wsX2_tells_r2 ++ wsX2_tells_r3)) ++ wsX20)
def wsX2_plan : List Cond := .code yX2_plan cX2_plan 4 (some .int) :: ([.fieldLink RX2 59 "ClassSheetsModel" "thrown" "I", .constantLong RX2 126 (40), .fieldLink RX2 69 "ClassSheetsModel" "places" "I", .fieldLink RX2 40 "ClassSheetsModel" "plan" "[I", .methodLink RX2 91 yX2_noKind, .instanceMethod yX2_noKind, .selects RX2 yX2_noKind yX2_noKind, .initialized RX2, .code yX2_noKind cX2_noKind 2 (some .boolean), .fieldLink RX2 62 "ClassSheetsModel" "kinds" "I", .methodLink RX2 65 yX2_in, .static yX2_in, .code yX2_in cX2_in 6 (some .boolean)] ++ wsX20)
def wsX2_clear : List Cond := .code yX2_clear cX2_clear 2 (some .int) :: ([.fieldLink RX2 59 "ClassSheetsModel" "thrown" "I", .fieldLink RX2 69 "ClassSheetsModel" "places" "I"] ++ wsX20)
def wsX2_placed : List Cond := .code yX2_placed cX2_placed 2 (some .int) :: ([.fieldLink RX2 59 "ClassSheetsModel" "thrown" "I", .fieldLink RX2 40 "ClassSheetsModel" "plan" "[I", .methodLink RX2 128 yX2_noPlace, .instanceMethod yX2_noPlace, .selects RX2 yX2_noPlace yX2_noPlace, .initialized RX2, .code yX2_noPlace cX2_noPlace 2 (some .boolean), .fieldLink RX2 69 "ClassSheetsModel" "places" "I", .methodLink RX2 65 yX2_in, .static yX2_in, .code yX2_in cX2_in 6 (some .boolean)] ++ wsX20)
def wsX2_lines : List Cond := .code yX2_lines cX2_lines 3 (some .int) :: ([.fieldLink RX2 59 "ClassSheetsModel" "thrown" "I", .constantLong RX2 103 (9), .constantLong RX2 82 (99), .fieldLink RX2 43 "ClassSheetsModel" "lines" "I", .methodLink RX2 65 yX2_in, .static yX2_in, .initialized RX2, .code yX2_in cX2_in 6 (some .boolean)] ++ wsX20)
def wsX2_where : List Cond := .code yX2_where cX2_where 5 (some .int) :: ([.fieldLink RX2 22 "ClassSheetsModel" "takes" "[I", .fieldLink RX2 40 "ClassSheetsModel" "plan" "[I", .fieldLink RX2 43 "ClassSheetsModel" "lines" "I"] ++ wsX20)
def wsX2_pages : List Cond := .code yX2_pages cX2_pages 1 (some .int) :: ([.fieldLink RX2 59 "ClassSheetsModel" "thrown" "I", .fieldLink RX2 69 "ClassSheetsModel" "places" "I", .methodLink RX2 131 yX2_where, .instanceMethod yX2_where, .selects RX2 yX2_where yX2_where, .initialized RX2, .code yX2_where cX2_where 5 (some .int), .fieldLink RX2 22 "ClassSheetsModel" "takes" "[I", .fieldLink RX2 40 "ClassSheetsModel" "plan" "[I", .fieldLink RX2 43 "ClassSheetsModel" "lines" "I"] ++ wsX20)
def wsX2_page : List Cond := .code yX2_page cX2_page 3 (some .int) :: ([.fieldLink RX2 59 "ClassSheetsModel" "thrown" "I", .methodLink RX2 128 yX2_noPlace, .instanceMethod yX2_noPlace, .selects RX2 yX2_noPlace yX2_noPlace, .initialized RX2, .code yX2_noPlace cX2_noPlace 2 (some .boolean), .fieldLink RX2 69 "ClassSheetsModel" "places" "I", .methodLink RX2 65 yX2_in, .static yX2_in, .code yX2_in cX2_in 6 (some .boolean), .methodLink RX2 131 yX2_where, .instanceMethod yX2_where, .selects RX2 yX2_where yX2_where, .code yX2_where cX2_where 5 (some .int), .fieldLink RX2 22 "ClassSheetsModel" "takes" "[I", .fieldLink RX2 40 "ClassSheetsModel" "plan" "[I", .fieldLink RX2 43 "ClassSheetsModel" "lines" "I"] ++ wsX20)
def wsX2_noSheet_r1 : List Cond := [Cond.fieldLink RX2 69 "ClassSheetsModel" "places" "I", Cond.fieldLink RX2 40 "ClassSheetsModel" "plan" "[I", Cond.methodLink RX2 95 yX2_tell, Cond.instanceMethod yX2_tell, Cond.selects RX2 yX2_tell yX2_tell, Cond.initialized RX2, Cond.code yX2_tell cX2_tell 5 (some .int), Cond.fieldLink RX2 28 "ClassSheetsModel" "isTold" "[Z", Cond.fieldLink RX2 13 "ClassSheetsModel" "from" "[I", Cond.fieldLink RX2 16 "ClassSheetsModel" "to" "[I", Cond.fieldLink RX2 36 "ClassSheetsModel" "pairs" "[S", Cond.fieldLink RX2 32 "ClassSheetsModel" "many" "[I", Cond.methodLink RX2 88 yX2_holds, Cond.instanceMethod yX2_holds, Cond.selects RX2 yX2_holds yX2_holds, Cond.code yX2_holds cX2_holds 8 (some .boolean), Cond.fieldLink RX2 7 "ClassSheetsModel" "operation" "[I", Cond.fieldLink RX2 19 "ClassSheetsModel" "law" "[I", Cond.methodLink RX2 72 yX2_answerOf, Cond.static yX2_answerOf, Cond.code yX2_answerOf cX2_answerOf 3 (some .int), Cond.methodLink RX2 65 yX2_in, Cond.static yX2_in, Cond.code yX2_in cX2_in 6 (some .boolean)]
def wsX2_noSheet_r2 : List Cond := [Cond.methodLink RX2 76 yX2_carries, Cond.static yX2_carries, Cond.code yX2_carries cX2_carries 3 (some .boolean), Cond.methodLink RX2 84 yX2_slipOf, Cond.static yX2_slipOf, Cond.code yX2_slipOf cX2_slipOf 5 (some .int), Cond.constantLong RX2 80 (10), Cond.constantLong RX2 82 (99)]
def wsX2_noSheet : List Cond := .code yX2_noSheet cX2_noSheet 3 (some .boolean) :: ((wsX2_noSheet_r1 ++ wsX2_noSheet_r2) ++ wsX20)
def wsX2_ahead : List Cond := .code yX2_ahead cX2_ahead 5 (some .int) :: ([.fieldLink RX2 40 "ClassSheetsModel" "plan" "[I"] ++ wsX20)
def wsX2_variantAt_r1 : List Cond := [Cond.fieldLink RX2 40 "ClassSheetsModel" "plan" "[I", Cond.fieldLink RX2 69 "ClassSheetsModel" "places" "I", Cond.fieldLink RX2 25 "ClassSheetsModel" "begin" "[I", Cond.methodLink RX2 134 yX2_ahead, Cond.instanceMethod yX2_ahead, Cond.selects RX2 yX2_ahead yX2_ahead, Cond.initialized RX2, Cond.code yX2_ahead cX2_ahead 5 (some .int), Cond.methodLink RX2 95 yX2_tell, Cond.instanceMethod yX2_tell, Cond.selects RX2 yX2_tell yX2_tell, Cond.code yX2_tell cX2_tell 5 (some .int), Cond.fieldLink RX2 28 "ClassSheetsModel" "isTold" "[Z", Cond.fieldLink RX2 13 "ClassSheetsModel" "from" "[I", Cond.fieldLink RX2 16 "ClassSheetsModel" "to" "[I", Cond.fieldLink RX2 36 "ClassSheetsModel" "pairs" "[S", Cond.fieldLink RX2 32 "ClassSheetsModel" "many" "[I", Cond.methodLink RX2 88 yX2_holds, Cond.instanceMethod yX2_holds, Cond.selects RX2 yX2_holds yX2_holds, Cond.code yX2_holds cX2_holds 8 (some .boolean), Cond.fieldLink RX2 7 "ClassSheetsModel" "operation" "[I", Cond.fieldLink RX2 19 "ClassSheetsModel" "law" "[I", Cond.methodLink RX2 72 yX2_answerOf]
def wsX2_variantAt_r2 : List Cond := [Cond.static yX2_answerOf, Cond.code yX2_answerOf cX2_answerOf 3 (some .int), Cond.methodLink RX2 65 yX2_in, Cond.static yX2_in, Cond.code yX2_in cX2_in 6 (some .boolean), Cond.methodLink RX2 76 yX2_carries, Cond.static yX2_carries, Cond.code yX2_carries cX2_carries 3 (some .boolean), Cond.methodLink RX2 84 yX2_slipOf, Cond.static yX2_slipOf, Cond.code yX2_slipOf cX2_slipOf 5 (some .int), Cond.constantLong RX2 80 (10), Cond.constantLong RX2 82 (99)]
def wsX2_variantAt : List Cond := .code yX2_variantAt cX2_variantAt 4 (some .int) :: ((wsX2_variantAt_r1 ++ wsX2_variantAt_r2) ++ wsX20)
def wsX2_noNumber : List Cond := .code yX2_noNumber cX2_noNumber 1 (some .boolean) :: ([.constantLong RX2 105 (9999), .methodLink RX2 65 yX2_in, .static yX2_in, .initialized RX2, .code yX2_in cX2_in 6 (some .boolean)])
def wsX2_sheet_r1 : List Cond := [Cond.fieldLink RX2 59 "ClassSheetsModel" "thrown" "I", Cond.methodLink RX2 128 yX2_noPlace, Cond.instanceMethod yX2_noPlace, Cond.selects RX2 yX2_noPlace yX2_noPlace, Cond.initialized RX2, Cond.code yX2_noPlace cX2_noPlace 2 (some .boolean), Cond.fieldLink RX2 69 "ClassSheetsModel" "places" "I", Cond.methodLink RX2 65 yX2_in, Cond.static yX2_in, Cond.code yX2_in cX2_in 6 (some .boolean), Cond.methodLink RX2 137 yX2_noNumber, Cond.static yX2_noNumber, Cond.code yX2_noNumber cX2_noNumber 1 (some .boolean), Cond.constantLong RX2 105 (9999), Cond.methodLink RX2 140 yX2_noSheet, Cond.instanceMethod yX2_noSheet, Cond.selects RX2 yX2_noSheet yX2_noSheet, Cond.code yX2_noSheet cX2_noSheet 3 (some .boolean), Cond.fieldLink RX2 40 "ClassSheetsModel" "plan" "[I", Cond.methodLink RX2 95 yX2_tell, Cond.instanceMethod yX2_tell, Cond.selects RX2 yX2_tell yX2_tell, Cond.code yX2_tell cX2_tell 5 (some .int), Cond.fieldLink RX2 28 "ClassSheetsModel" "isTold" "[Z"]
def wsX2_sheet_r2 : List Cond := [Cond.fieldLink RX2 13 "ClassSheetsModel" "from" "[I", Cond.fieldLink RX2 16 "ClassSheetsModel" "to" "[I", Cond.fieldLink RX2 36 "ClassSheetsModel" "pairs" "[S", Cond.fieldLink RX2 32 "ClassSheetsModel" "many" "[I", Cond.methodLink RX2 88 yX2_holds, Cond.instanceMethod yX2_holds, Cond.selects RX2 yX2_holds yX2_holds, Cond.code yX2_holds cX2_holds 8 (some .boolean), Cond.fieldLink RX2 7 "ClassSheetsModel" "operation" "[I", Cond.fieldLink RX2 19 "ClassSheetsModel" "law" "[I", Cond.methodLink RX2 72 yX2_answerOf, Cond.static yX2_answerOf, Cond.code yX2_answerOf cX2_answerOf 3 (some .int), Cond.methodLink RX2 76 yX2_carries, Cond.static yX2_carries, Cond.code yX2_carries cX2_carries 3 (some .boolean), Cond.methodLink RX2 84 yX2_slipOf, Cond.static yX2_slipOf, Cond.code yX2_slipOf cX2_slipOf 5 (some .int), Cond.constantLong RX2 80 (10), Cond.constantLong RX2 82 (99), Cond.methodLink RX2 144 yX2_variantAt, Cond.instanceMethod yX2_variantAt, Cond.selects RX2 yX2_variantAt yX2_variantAt]
def wsX2_sheet_r3 : List Cond := [Cond.code yX2_variantAt cX2_variantAt 4 (some .int), Cond.fieldLink RX2 25 "ClassSheetsModel" "begin" "[I", Cond.methodLink RX2 134 yX2_ahead, Cond.instanceMethod yX2_ahead, Cond.selects RX2 yX2_ahead yX2_ahead, Cond.code yX2_ahead cX2_ahead 5 (some .int)]
def wsX2_sheet : List Cond := .code yX2_sheet cX2_sheet 3 (some .int) :: ((wsX2_sheet_r1 ++ (wsX2_sheet_r2 ++ wsX2_sheet_r3)) ++ wsX20)
def wsX2_answerAt_r1 : List Cond := [Cond.fieldLink RX2 40 "ClassSheetsModel" "plan" "[I", Cond.methodLink RX2 144 yX2_variantAt, Cond.instanceMethod yX2_variantAt, Cond.selects RX2 yX2_variantAt yX2_variantAt, Cond.initialized RX2, Cond.code yX2_variantAt cX2_variantAt 4 (some .int), Cond.fieldLink RX2 69 "ClassSheetsModel" "places" "I", Cond.fieldLink RX2 25 "ClassSheetsModel" "begin" "[I", Cond.methodLink RX2 134 yX2_ahead, Cond.instanceMethod yX2_ahead, Cond.selects RX2 yX2_ahead yX2_ahead, Cond.code yX2_ahead cX2_ahead 5 (some .int), Cond.methodLink RX2 95 yX2_tell, Cond.instanceMethod yX2_tell, Cond.selects RX2 yX2_tell yX2_tell, Cond.code yX2_tell cX2_tell 5 (some .int), Cond.fieldLink RX2 28 "ClassSheetsModel" "isTold" "[Z", Cond.fieldLink RX2 13 "ClassSheetsModel" "from" "[I", Cond.fieldLink RX2 16 "ClassSheetsModel" "to" "[I", Cond.fieldLink RX2 36 "ClassSheetsModel" "pairs" "[S", Cond.fieldLink RX2 32 "ClassSheetsModel" "many" "[I", Cond.methodLink RX2 88 yX2_holds, Cond.instanceMethod yX2_holds, Cond.selects RX2 yX2_holds yX2_holds]
def wsX2_answerAt_r2 : List Cond := [Cond.code yX2_holds cX2_holds 8 (some .boolean), Cond.fieldLink RX2 7 "ClassSheetsModel" "operation" "[I", Cond.fieldLink RX2 19 "ClassSheetsModel" "law" "[I", Cond.methodLink RX2 72 yX2_answerOf, Cond.static yX2_answerOf, Cond.code yX2_answerOf cX2_answerOf 3 (some .int), Cond.methodLink RX2 65 yX2_in, Cond.static yX2_in, Cond.code yX2_in cX2_in 6 (some .boolean), Cond.methodLink RX2 76 yX2_carries, Cond.static yX2_carries, Cond.code yX2_carries cX2_carries 3 (some .boolean), Cond.methodLink RX2 84 yX2_slipOf, Cond.static yX2_slipOf, Cond.code yX2_slipOf cX2_slipOf 5 (some .int), Cond.constantLong RX2 80 (10), Cond.constantLong RX2 82 (99), Cond.methodLink RX2 120 yX2_rightAt, Cond.instanceMethod yX2_rightAt, Cond.selects RX2 yX2_rightAt yX2_rightAt, Cond.code yX2_rightAt cX2_rightAt 3 (some .int), Cond.methodLink RX2 111 yX2_pairOf, Cond.instanceMethod yX2_pairOf, Cond.selects RX2 yX2_pairOf yX2_pairOf]
def wsX2_answerAt_r3 : List Cond := [Cond.code yX2_pairOf cX2_pairOf 3 (some .int)]
def wsX2_answerAt : List Cond := .code yX2_answerAt cX2_answerAt 3 (some .int) :: ((wsX2_answerAt_r1 ++ (wsX2_answerAt_r2 ++ wsX2_answerAt_r3)) ++ wsX20)
def wsX2_answer_r1 : List Cond := [Cond.fieldLink RX2 59 "ClassSheetsModel" "thrown" "I", Cond.methodLink RX2 128 yX2_noPlace, Cond.instanceMethod yX2_noPlace, Cond.selects RX2 yX2_noPlace yX2_noPlace, Cond.initialized RX2, Cond.code yX2_noPlace cX2_noPlace 2 (some .boolean), Cond.fieldLink RX2 69 "ClassSheetsModel" "places" "I", Cond.methodLink RX2 65 yX2_in, Cond.static yX2_in, Cond.code yX2_in cX2_in 6 (some .boolean), Cond.methodLink RX2 137 yX2_noNumber, Cond.static yX2_noNumber, Cond.code yX2_noNumber cX2_noNumber 1 (some .boolean), Cond.constantLong RX2 105 (9999), Cond.methodLink RX2 140 yX2_noSheet, Cond.instanceMethod yX2_noSheet, Cond.selects RX2 yX2_noSheet yX2_noSheet, Cond.code yX2_noSheet cX2_noSheet 3 (some .boolean), Cond.fieldLink RX2 40 "ClassSheetsModel" "plan" "[I", Cond.methodLink RX2 95 yX2_tell, Cond.instanceMethod yX2_tell, Cond.selects RX2 yX2_tell yX2_tell, Cond.code yX2_tell cX2_tell 5 (some .int), Cond.fieldLink RX2 28 "ClassSheetsModel" "isTold" "[Z"]
def wsX2_answer_r2 : List Cond := [Cond.fieldLink RX2 13 "ClassSheetsModel" "from" "[I", Cond.fieldLink RX2 16 "ClassSheetsModel" "to" "[I", Cond.fieldLink RX2 36 "ClassSheetsModel" "pairs" "[S", Cond.fieldLink RX2 32 "ClassSheetsModel" "many" "[I", Cond.methodLink RX2 88 yX2_holds, Cond.instanceMethod yX2_holds, Cond.selects RX2 yX2_holds yX2_holds, Cond.code yX2_holds cX2_holds 8 (some .boolean), Cond.fieldLink RX2 7 "ClassSheetsModel" "operation" "[I", Cond.fieldLink RX2 19 "ClassSheetsModel" "law" "[I", Cond.methodLink RX2 72 yX2_answerOf, Cond.static yX2_answerOf, Cond.code yX2_answerOf cX2_answerOf 3 (some .int), Cond.methodLink RX2 76 yX2_carries, Cond.static yX2_carries, Cond.code yX2_carries cX2_carries 3 (some .boolean), Cond.methodLink RX2 84 yX2_slipOf, Cond.static yX2_slipOf, Cond.code yX2_slipOf cX2_slipOf 5 (some .int), Cond.constantLong RX2 80 (10), Cond.constantLong RX2 82 (99), Cond.methodLink RX2 147 yX2_answerAt, Cond.instanceMethod yX2_answerAt, Cond.selects RX2 yX2_answerAt yX2_answerAt]
def wsX2_answer_r3 : List Cond := [Cond.code yX2_answerAt cX2_answerAt 3 (some .int), Cond.methodLink RX2 144 yX2_variantAt, Cond.instanceMethod yX2_variantAt, Cond.selects RX2 yX2_variantAt yX2_variantAt, Cond.code yX2_variantAt cX2_variantAt 4 (some .int), Cond.fieldLink RX2 25 "ClassSheetsModel" "begin" "[I", Cond.methodLink RX2 134 yX2_ahead, Cond.instanceMethod yX2_ahead, Cond.selects RX2 yX2_ahead yX2_ahead, Cond.code yX2_ahead cX2_ahead 5 (some .int), Cond.methodLink RX2 120 yX2_rightAt, Cond.instanceMethod yX2_rightAt, Cond.selects RX2 yX2_rightAt yX2_rightAt, Cond.code yX2_rightAt cX2_rightAt 3 (some .int), Cond.methodLink RX2 111 yX2_pairOf, Cond.instanceMethod yX2_pairOf, Cond.selects RX2 yX2_pairOf yX2_pairOf, Cond.code yX2_pairOf cX2_pairOf 3 (some .int)]
def wsX2_answer : List Cond := .code yX2_answer cX2_answer 3 (some .int) :: ((wsX2_answer_r1 ++ (wsX2_answer_r2 ++ wsX2_answer_r3)) ++ wsX20)
def wsX2_code_r1 : List Cond := [Cond.fieldLink RX2 59 "ClassSheetsModel" "thrown" "I", Cond.fieldLink RX2 69 "ClassSheetsModel" "places" "I", Cond.methodLink RX2 137 yX2_noNumber, Cond.static yX2_noNumber, Cond.initialized RX2, Cond.code yX2_noNumber cX2_noNumber 1 (some .boolean), Cond.constantLong RX2 105 (9999), Cond.methodLink RX2 65 yX2_in, Cond.static yX2_in, Cond.code yX2_in cX2_in 6 (some .boolean), Cond.methodLink RX2 140 yX2_noSheet, Cond.instanceMethod yX2_noSheet, Cond.selects RX2 yX2_noSheet yX2_noSheet, Cond.code yX2_noSheet cX2_noSheet 3 (some .boolean), Cond.fieldLink RX2 40 "ClassSheetsModel" "plan" "[I", Cond.methodLink RX2 95 yX2_tell, Cond.instanceMethod yX2_tell, Cond.selects RX2 yX2_tell yX2_tell, Cond.code yX2_tell cX2_tell 5 (some .int), Cond.fieldLink RX2 28 "ClassSheetsModel" "isTold" "[Z", Cond.fieldLink RX2 13 "ClassSheetsModel" "from" "[I", Cond.fieldLink RX2 16 "ClassSheetsModel" "to" "[I", Cond.fieldLink RX2 36 "ClassSheetsModel" "pairs" "[S", Cond.fieldLink RX2 32 "ClassSheetsModel" "many" "[I"]
def wsX2_code_r2 : List Cond := [Cond.methodLink RX2 88 yX2_holds, Cond.instanceMethod yX2_holds, Cond.selects RX2 yX2_holds yX2_holds, Cond.code yX2_holds cX2_holds 8 (some .boolean), Cond.fieldLink RX2 7 "ClassSheetsModel" "operation" "[I", Cond.fieldLink RX2 19 "ClassSheetsModel" "law" "[I", Cond.methodLink RX2 72 yX2_answerOf, Cond.static yX2_answerOf, Cond.code yX2_answerOf cX2_answerOf 3 (some .int), Cond.methodLink RX2 76 yX2_carries, Cond.static yX2_carries, Cond.code yX2_carries cX2_carries 3 (some .boolean), Cond.methodLink RX2 84 yX2_slipOf, Cond.static yX2_slipOf, Cond.code yX2_slipOf cX2_slipOf 5 (some .int), Cond.constantLong RX2 80 (10), Cond.constantLong RX2 82 (99), Cond.methodLink RX2 147 yX2_answerAt, Cond.instanceMethod yX2_answerAt, Cond.selects RX2 yX2_answerAt yX2_answerAt, Cond.code yX2_answerAt cX2_answerAt 3 (some .int), Cond.methodLink RX2 144 yX2_variantAt, Cond.instanceMethod yX2_variantAt, Cond.selects RX2 yX2_variantAt yX2_variantAt]
def wsX2_code_r3 : List Cond := [Cond.code yX2_variantAt cX2_variantAt 4 (some .int), Cond.fieldLink RX2 25 "ClassSheetsModel" "begin" "[I", Cond.methodLink RX2 134 yX2_ahead, Cond.instanceMethod yX2_ahead, Cond.selects RX2 yX2_ahead yX2_ahead, Cond.code yX2_ahead cX2_ahead 5 (some .int), Cond.methodLink RX2 120 yX2_rightAt, Cond.instanceMethod yX2_rightAt, Cond.selects RX2 yX2_rightAt yX2_rightAt, Cond.code yX2_rightAt cX2_rightAt 3 (some .int), Cond.methodLink RX2 111 yX2_pairOf, Cond.instanceMethod yX2_pairOf, Cond.selects RX2 yX2_pairOf yX2_pairOf, Cond.code yX2_pairOf cX2_pairOf 3 (some .int)]
def wsX2_code : List Cond := .code yX2_code cX2_code 4 (some .int) :: ((wsX2_code_r1 ++ (wsX2_code_r2 ++ wsX2_code_r3)) ++ wsX20)
def wsX2_shared_r1 : List Cond := [Cond.fieldLink RX2 59 "ClassSheetsModel" "thrown" "I", Cond.fieldLink RX2 69 "ClassSheetsModel" "places" "I", Cond.fieldLink RX2 40 "ClassSheetsModel" "plan" "[I", Cond.methodLink RX2 137 yX2_noNumber, Cond.static yX2_noNumber, Cond.initialized RX2, Cond.code yX2_noNumber cX2_noNumber 1 (some .boolean), Cond.constantLong RX2 105 (9999), Cond.methodLink RX2 65 yX2_in, Cond.static yX2_in, Cond.code yX2_in cX2_in 6 (some .boolean), Cond.methodLink RX2 140 yX2_noSheet, Cond.instanceMethod yX2_noSheet, Cond.selects RX2 yX2_noSheet yX2_noSheet, Cond.code yX2_noSheet cX2_noSheet 3 (some .boolean), Cond.methodLink RX2 95 yX2_tell, Cond.instanceMethod yX2_tell, Cond.selects RX2 yX2_tell yX2_tell, Cond.code yX2_tell cX2_tell 5 (some .int), Cond.fieldLink RX2 28 "ClassSheetsModel" "isTold" "[Z", Cond.fieldLink RX2 13 "ClassSheetsModel" "from" "[I", Cond.fieldLink RX2 16 "ClassSheetsModel" "to" "[I", Cond.fieldLink RX2 36 "ClassSheetsModel" "pairs" "[S", Cond.fieldLink RX2 32 "ClassSheetsModel" "many" "[I"]
def wsX2_shared_r2 : List Cond := [Cond.methodLink RX2 88 yX2_holds, Cond.instanceMethod yX2_holds, Cond.selects RX2 yX2_holds yX2_holds, Cond.code yX2_holds cX2_holds 8 (some .boolean), Cond.fieldLink RX2 7 "ClassSheetsModel" "operation" "[I", Cond.fieldLink RX2 19 "ClassSheetsModel" "law" "[I", Cond.methodLink RX2 72 yX2_answerOf, Cond.static yX2_answerOf, Cond.code yX2_answerOf cX2_answerOf 3 (some .int), Cond.methodLink RX2 76 yX2_carries, Cond.static yX2_carries, Cond.code yX2_carries cX2_carries 3 (some .boolean), Cond.methodLink RX2 84 yX2_slipOf, Cond.static yX2_slipOf, Cond.code yX2_slipOf cX2_slipOf 5 (some .int), Cond.constantLong RX2 80 (10), Cond.constantLong RX2 82 (99), Cond.methodLink RX2 144 yX2_variantAt, Cond.instanceMethod yX2_variantAt, Cond.selects RX2 yX2_variantAt yX2_variantAt, Cond.code yX2_variantAt cX2_variantAt 4 (some .int), Cond.fieldLink RX2 25 "ClassSheetsModel" "begin" "[I", Cond.methodLink RX2 134 yX2_ahead, Cond.instanceMethod yX2_ahead]
def wsX2_shared_r3 : List Cond := [Cond.selects RX2 yX2_ahead yX2_ahead, Cond.code yX2_ahead cX2_ahead 5 (some .int)]
def wsX2_shared : List Cond := .code yX2_shared cX2_shared 7 (some .int) :: ((wsX2_shared_r1 ++ (wsX2_shared_r2 ++ wsX2_shared_r3)) ++ wsX20)
def wsX2_isApart_r1 : List Cond := [Cond.fieldLink RX2 62 "ClassSheetsModel" "kinds" "I", Cond.fieldLink RX2 69 "ClassSheetsModel" "places" "I", Cond.methodLink RX2 134 yX2_ahead, Cond.instanceMethod yX2_ahead, Cond.selects RX2 yX2_ahead yX2_ahead, Cond.initialized RX2, Cond.code yX2_ahead cX2_ahead 5 (some .int), Cond.fieldLink RX2 40 "ClassSheetsModel" "plan" "[I", Cond.methodLink RX2 95 yX2_tell, Cond.instanceMethod yX2_tell, Cond.selects RX2 yX2_tell yX2_tell, Cond.code yX2_tell cX2_tell 5 (some .int), Cond.fieldLink RX2 28 "ClassSheetsModel" "isTold" "[Z", Cond.fieldLink RX2 13 "ClassSheetsModel" "from" "[I", Cond.fieldLink RX2 16 "ClassSheetsModel" "to" "[I", Cond.fieldLink RX2 36 "ClassSheetsModel" "pairs" "[S", Cond.fieldLink RX2 32 "ClassSheetsModel" "many" "[I", Cond.methodLink RX2 88 yX2_holds, Cond.instanceMethod yX2_holds, Cond.selects RX2 yX2_holds yX2_holds, Cond.code yX2_holds cX2_holds 8 (some .boolean), Cond.fieldLink RX2 7 "ClassSheetsModel" "operation" "[I", Cond.fieldLink RX2 19 "ClassSheetsModel" "law" "[I", Cond.methodLink RX2 72 yX2_answerOf]
def wsX2_isApart_r2 : List Cond := [Cond.static yX2_answerOf, Cond.code yX2_answerOf cX2_answerOf 3 (some .int), Cond.methodLink RX2 65 yX2_in, Cond.static yX2_in, Cond.code yX2_in cX2_in 6 (some .boolean), Cond.methodLink RX2 76 yX2_carries, Cond.static yX2_carries, Cond.code yX2_carries cX2_carries 3 (some .boolean), Cond.methodLink RX2 84 yX2_slipOf, Cond.static yX2_slipOf, Cond.code yX2_slipOf cX2_slipOf 5 (some .int), Cond.constantLong RX2 80 (10), Cond.constantLong RX2 82 (99)]
def wsX2_isApart : List Cond := .code yX2_isApart cX2_isApart 8 (some .boolean) :: ((wsX2_isApart_r1 ++ wsX2_isApart_r2) ++ wsX20)
def wsX2_apart_r1 : List Cond := [Cond.fieldLink RX2 59 "ClassSheetsModel" "thrown" "I", Cond.methodLink RX2 137 yX2_noNumber, Cond.static yX2_noNumber, Cond.initialized RX2, Cond.code yX2_noNumber cX2_noNumber 1 (some .boolean), Cond.constantLong RX2 105 (9999), Cond.methodLink RX2 65 yX2_in, Cond.static yX2_in, Cond.code yX2_in cX2_in 6 (some .boolean), Cond.methodLink RX2 140 yX2_noSheet, Cond.instanceMethod yX2_noSheet, Cond.selects RX2 yX2_noSheet yX2_noSheet, Cond.code yX2_noSheet cX2_noSheet 3 (some .boolean), Cond.fieldLink RX2 69 "ClassSheetsModel" "places" "I", Cond.fieldLink RX2 40 "ClassSheetsModel" "plan" "[I", Cond.methodLink RX2 95 yX2_tell, Cond.instanceMethod yX2_tell, Cond.selects RX2 yX2_tell yX2_tell, Cond.code yX2_tell cX2_tell 5 (some .int), Cond.fieldLink RX2 28 "ClassSheetsModel" "isTold" "[Z", Cond.fieldLink RX2 13 "ClassSheetsModel" "from" "[I", Cond.fieldLink RX2 16 "ClassSheetsModel" "to" "[I", Cond.fieldLink RX2 36 "ClassSheetsModel" "pairs" "[S", Cond.fieldLink RX2 32 "ClassSheetsModel" "many" "[I"]
def wsX2_apart_r2 : List Cond := [Cond.methodLink RX2 88 yX2_holds, Cond.instanceMethod yX2_holds, Cond.selects RX2 yX2_holds yX2_holds, Cond.code yX2_holds cX2_holds 8 (some .boolean), Cond.fieldLink RX2 7 "ClassSheetsModel" "operation" "[I", Cond.fieldLink RX2 19 "ClassSheetsModel" "law" "[I", Cond.methodLink RX2 72 yX2_answerOf, Cond.static yX2_answerOf, Cond.code yX2_answerOf cX2_answerOf 3 (some .int), Cond.methodLink RX2 76 yX2_carries, Cond.static yX2_carries, Cond.code yX2_carries cX2_carries 3 (some .boolean), Cond.methodLink RX2 84 yX2_slipOf, Cond.static yX2_slipOf, Cond.code yX2_slipOf cX2_slipOf 5 (some .int), Cond.constantLong RX2 80 (10), Cond.constantLong RX2 82 (99), Cond.methodLink RX2 150 yX2_isApart, Cond.instanceMethod yX2_isApart, Cond.selects RX2 yX2_isApart yX2_isApart, Cond.code yX2_isApart cX2_isApart 8 (some .boolean), Cond.fieldLink RX2 62 "ClassSheetsModel" "kinds" "I", Cond.methodLink RX2 134 yX2_ahead, Cond.instanceMethod yX2_ahead]
def wsX2_apart_r3 : List Cond := [Cond.selects RX2 yX2_ahead yX2_ahead, Cond.code yX2_ahead cX2_ahead 5 (some .int)]
def wsX2_apart : List Cond := .code yX2_apart cX2_apart 3 (some .int) :: ((wsX2_apart_r1 ++ (wsX2_apart_r2 ++ wsX2_apart_r3)) ++ wsX20)
def wsX2_seats : List Cond := .code yX2_seats cX2_seats 5 (some .int) :: ([.fieldLink RX2 59 "ClassSheetsModel" "thrown" "I", .constantLong RX2 153 (8), .fieldLink RX2 47 "ClassSheetsModel" "rows" "I", .fieldLink RX2 50 "ClassSheetsModel" "columns" "I", .fieldLink RX2 56 "ClassSheetsModel" "missed" "[I", .methodLink RX2 65 yX2_in, .static yX2_in, .initialized RX2, .code yX2_in cX2_in 6 (some .boolean)] ++ wsX20)
def wsX2_isNear : List Cond := .code yX2_isNear cX2_isNear 8 (some .boolean) :: ([.fieldLink RX2 47 "ClassSheetsModel" "rows" "I", .fieldLink RX2 50 "ClassSheetsModel" "columns" "I", .fieldLink RX2 53 "ClassSheetsModel" "number" "[I", .methodLink RX2 65 yX2_in, .static yX2_in, .initialized RX2, .code yX2_in cX2_in 6 (some .boolean)] ++ wsX20)
def wsX2_sit : List Cond := .code yX2_sit cX2_sit 4 none :: ([.fieldLink RX2 53 "ClassSheetsModel" "number" "[I", .fieldLink RX2 47 "ClassSheetsModel" "rows" "I", .fieldLink RX2 50 "ClassSheetsModel" "columns" "I", .methodLink RX2 155 yX2_isNear, .instanceMethod yX2_isNear, .selects RX2 yX2_isNear yX2_isNear, .initialized RX2, .code yX2_isNear cX2_isNear 8 (some .boolean), .methodLink RX2 65 yX2_in, .static yX2_in, .code yX2_in cX2_in 6 (some .boolean)] ++ wsX20)
def wsX2_base : List Cond := .code yX2_base cX2_base 3 (some .int) :: ([.fieldLink RX2 59 "ClassSheetsModel" "thrown" "I", .constantLong RX2 158 (9000), .fieldLink RX2 160 "ClassSheetsModel" "base" "I", .methodLink RX2 65 yX2_in, .static yX2_in, .initialized RX2, .code yX2_in cX2_in 6 (some .boolean)] ++ wsX20)
def wsX2_sheetOf : List Cond := .code yX2_sheetOf cX2_sheetOf 2 (some .int) :: ([.fieldLink RX2 160 "ClassSheetsModel" "base" "I", .fieldLink RX2 53 "ClassSheetsModel" "number" "[I", .methodLink RX2 163 yX2_sit, .instanceMethod yX2_sit, .selects RX2 yX2_sit yX2_sit, .initialized RX2, .code yX2_sit cX2_sit 4 none, .fieldLink RX2 47 "ClassSheetsModel" "rows" "I", .fieldLink RX2 50 "ClassSheetsModel" "columns" "I", .methodLink RX2 155 yX2_isNear, .instanceMethod yX2_isNear, .selects RX2 yX2_isNear yX2_isNear, .code yX2_isNear cX2_isNear 8 (some .boolean), .methodLink RX2 65 yX2_in, .static yX2_in, .code yX2_in cX2_in 6 (some .boolean)] ++ wsX20)
def wsX2_seat_r1 : List Cond := [Cond.fieldLink RX2 59 "ClassSheetsModel" "thrown" "I", Cond.methodLink RX2 166 yX2_noSeat, Cond.instanceMethod yX2_noSeat, Cond.selects RX2 yX2_noSeat yX2_noSeat, Cond.initialized RX2, Cond.code yX2_noSeat cX2_noSeat 2 (some .boolean), Cond.fieldLink RX2 47 "ClassSheetsModel" "rows" "I", Cond.fieldLink RX2 50 "ClassSheetsModel" "columns" "I", Cond.methodLink RX2 169 yX2_sheetOf, Cond.instanceMethod yX2_sheetOf, Cond.selects RX2 yX2_sheetOf yX2_sheetOf, Cond.code yX2_sheetOf cX2_sheetOf 2 (some .int), Cond.fieldLink RX2 160 "ClassSheetsModel" "base" "I", Cond.fieldLink RX2 53 "ClassSheetsModel" "number" "[I", Cond.methodLink RX2 163 yX2_sit, Cond.instanceMethod yX2_sit, Cond.selects RX2 yX2_sit yX2_sit, Cond.code yX2_sit cX2_sit 4 none, Cond.methodLink RX2 155 yX2_isNear, Cond.instanceMethod yX2_isNear, Cond.selects RX2 yX2_isNear yX2_isNear, Cond.code yX2_isNear cX2_isNear 8 (some .boolean), Cond.methodLink RX2 65 yX2_in, Cond.static yX2_in]
def wsX2_seat_r2 : List Cond := [Cond.code yX2_in cX2_in 6 (some .boolean)]
def wsX2_seat : List Cond := .code yX2_seat cX2_seat 2 (some .int) :: ((wsX2_seat_r1 ++ wsX2_seat_r2) ++ wsX20)
def wsX2_unlike : List Cond := .code yX2_unlike cX2_unlike 3 (some .int) :: ([.fieldLink RX2 59 "ClassSheetsModel" "thrown" "I", .fieldLink RX2 53 "ClassSheetsModel" "number" "[I", .methodLink RX2 163 yX2_sit, .instanceMethod yX2_sit, .selects RX2 yX2_sit yX2_sit, .initialized RX2, .code yX2_sit cX2_sit 4 none, .fieldLink RX2 47 "ClassSheetsModel" "rows" "I", .fieldLink RX2 50 "ClassSheetsModel" "columns" "I", .methodLink RX2 155 yX2_isNear, .instanceMethod yX2_isNear, .selects RX2 yX2_isNear yX2_isNear, .code yX2_isNear cX2_isNear 8 (some .boolean), .methodLink RX2 65 yX2_in, .static yX2_in, .code yX2_in cX2_in 6 (some .boolean)] ++ wsX20)
def wsX2_mark_r1 : List Cond := [Cond.fieldLink RX2 59 "ClassSheetsModel" "thrown" "I", Cond.fieldLink RX2 40 "ClassSheetsModel" "plan" "[I", Cond.fieldLink RX2 172 "ClassSheetsModel" "right" "I", Cond.fieldLink RX2 175 "ClassSheetsModel" "wrong" "I", Cond.fieldLink RX2 56 "ClassSheetsModel" "missed" "[I", Cond.methodLink RX2 166 yX2_noSeat, Cond.instanceMethod yX2_noSeat, Cond.selects RX2 yX2_noSeat yX2_noSeat, Cond.initialized RX2, Cond.code yX2_noSeat cX2_noSeat 2 (some .boolean), Cond.fieldLink RX2 47 "ClassSheetsModel" "rows" "I", Cond.fieldLink RX2 50 "ClassSheetsModel" "columns" "I", Cond.methodLink RX2 128 yX2_noPlace, Cond.instanceMethod yX2_noPlace, Cond.selects RX2 yX2_noPlace yX2_noPlace, Cond.code yX2_noPlace cX2_noPlace 2 (some .boolean), Cond.fieldLink RX2 69 "ClassSheetsModel" "places" "I", Cond.methodLink RX2 65 yX2_in, Cond.static yX2_in, Cond.code yX2_in cX2_in 6 (some .boolean), Cond.methodLink RX2 140 yX2_noSheet, Cond.instanceMethod yX2_noSheet, Cond.selects RX2 yX2_noSheet yX2_noSheet, Cond.code yX2_noSheet cX2_noSheet 3 (some .boolean)]
def wsX2_mark_r2 : List Cond := [Cond.methodLink RX2 95 yX2_tell, Cond.instanceMethod yX2_tell, Cond.selects RX2 yX2_tell yX2_tell, Cond.code yX2_tell cX2_tell 5 (some .int), Cond.fieldLink RX2 28 "ClassSheetsModel" "isTold" "[Z", Cond.fieldLink RX2 13 "ClassSheetsModel" "from" "[I", Cond.fieldLink RX2 16 "ClassSheetsModel" "to" "[I", Cond.fieldLink RX2 36 "ClassSheetsModel" "pairs" "[S", Cond.fieldLink RX2 32 "ClassSheetsModel" "many" "[I", Cond.methodLink RX2 88 yX2_holds, Cond.instanceMethod yX2_holds, Cond.selects RX2 yX2_holds yX2_holds, Cond.code yX2_holds cX2_holds 8 (some .boolean), Cond.fieldLink RX2 7 "ClassSheetsModel" "operation" "[I", Cond.fieldLink RX2 19 "ClassSheetsModel" "law" "[I", Cond.methodLink RX2 72 yX2_answerOf, Cond.static yX2_answerOf, Cond.code yX2_answerOf cX2_answerOf 3 (some .int), Cond.methodLink RX2 76 yX2_carries, Cond.static yX2_carries, Cond.code yX2_carries cX2_carries 3 (some .boolean), Cond.methodLink RX2 84 yX2_slipOf, Cond.static yX2_slipOf, Cond.code yX2_slipOf cX2_slipOf 5 (some .int)]
def wsX2_mark_r3 : List Cond := [Cond.constantLong RX2 80 (10), Cond.constantLong RX2 82 (99), Cond.methodLink RX2 169 yX2_sheetOf, Cond.instanceMethod yX2_sheetOf, Cond.selects RX2 yX2_sheetOf yX2_sheetOf, Cond.code yX2_sheetOf cX2_sheetOf 2 (some .int), Cond.fieldLink RX2 160 "ClassSheetsModel" "base" "I", Cond.fieldLink RX2 53 "ClassSheetsModel" "number" "[I", Cond.methodLink RX2 163 yX2_sit, Cond.instanceMethod yX2_sit, Cond.selects RX2 yX2_sit yX2_sit, Cond.code yX2_sit cX2_sit 4 none, Cond.methodLink RX2 155 yX2_isNear, Cond.instanceMethod yX2_isNear, Cond.selects RX2 yX2_isNear yX2_isNear, Cond.code yX2_isNear cX2_isNear 8 (some .boolean), Cond.methodLink RX2 144 yX2_variantAt, Cond.instanceMethod yX2_variantAt, Cond.selects RX2 yX2_variantAt yX2_variantAt, Cond.code yX2_variantAt cX2_variantAt 4 (some .int), Cond.fieldLink RX2 25 "ClassSheetsModel" "begin" "[I", Cond.methodLink RX2 134 yX2_ahead, Cond.instanceMethod yX2_ahead, Cond.selects RX2 yX2_ahead yX2_ahead]
def wsX2_mark_r4 : List Cond := [Cond.code yX2_ahead cX2_ahead 5 (some .int), Cond.methodLink RX2 123 yX2_tellsOf, Cond.instanceMethod yX2_tellsOf, Cond.selects RX2 yX2_tellsOf yX2_tellsOf, Cond.code yX2_tellsOf cX2_tellsOf 5 (some .int), Cond.methodLink RX2 120 yX2_rightAt, Cond.instanceMethod yX2_rightAt, Cond.selects RX2 yX2_rightAt yX2_rightAt, Cond.code yX2_rightAt cX2_rightAt 3 (some .int), Cond.methodLink RX2 111 yX2_pairOf, Cond.instanceMethod yX2_pairOf, Cond.selects RX2 yX2_pairOf yX2_pairOf, Cond.code yX2_pairOf cX2_pairOf 3 (some .int), Cond.methodLink RX2 117 yX2_slipAt, Cond.instanceMethod yX2_slipAt, Cond.selects RX2 yX2_slipAt yX2_slipAt, Cond.code yX2_slipAt cX2_slipAt 4 (some .int)]
def wsX2_mark : List Cond := .code yX2_mark cX2_mark 5 (some .int) :: ((wsX2_mark_r1 ++ (wsX2_mark_r2 ++ (wsX2_mark_r3 ++ wsX2_mark_r4))) ++ wsX20)
def wsX2_missedOf : List Cond := .code yX2_missedOf cX2_missedOf 5 (some .int) :: ([.fieldLink RX2 56 "ClassSheetsModel" "missed" "[I"] ++ wsX20)
def wsX2_missed : List Cond := .code yX2_missed cX2_missed 3 (some .int) :: ([.fieldLink RX2 59 "ClassSheetsModel" "thrown" "I", .methodLink RX2 166 yX2_noSeat, .instanceMethod yX2_noSeat, .selects RX2 yX2_noSeat yX2_noSeat, .initialized RX2, .code yX2_noSeat cX2_noSeat 2 (some .boolean), .fieldLink RX2 47 "ClassSheetsModel" "rows" "I", .fieldLink RX2 50 "ClassSheetsModel" "columns" "I", .methodLink RX2 91 yX2_noKind, .instanceMethod yX2_noKind, .selects RX2 yX2_noKind yX2_noKind, .code yX2_noKind cX2_noKind 2 (some .boolean), .fieldLink RX2 62 "ClassSheetsModel" "kinds" "I", .methodLink RX2 65 yX2_in, .static yX2_in, .code yX2_in cX2_in 6 (some .boolean), .methodLink RX2 178 yX2_missedOf, .instanceMethod yX2_missedOf, .selects RX2 yX2_missedOf yX2_missedOf, .code yX2_missedOf cX2_missedOf 5 (some .int), .fieldLink RX2 56 "ClassSheetsModel" "missed" "[I"] ++ wsX20)
def wsX2_review : List Cond := .code yX2_review cX2_review 10 (some .int) :: ([.fieldLink RX2 59 "ClassSheetsModel" "thrown" "I", .constantLong RX2 181 (60), .fieldLink RX2 62 "ClassSheetsModel" "kinds" "I", .methodLink RX2 166 yX2_noSeat, .instanceMethod yX2_noSeat, .selects RX2 yX2_noSeat yX2_noSeat, .initialized RX2, .code yX2_noSeat cX2_noSeat 2 (some .boolean), .fieldLink RX2 47 "ClassSheetsModel" "rows" "I", .fieldLink RX2 50 "ClassSheetsModel" "columns" "I", .methodLink RX2 91 yX2_noKind, .instanceMethod yX2_noKind, .selects RX2 yX2_noKind yX2_noKind, .code yX2_noKind cX2_noKind 2 (some .boolean), .methodLink RX2 65 yX2_in, .static yX2_in, .code yX2_in cX2_in 6 (some .boolean), .methodLink RX2 178 yX2_missedOf, .instanceMethod yX2_missedOf, .selects RX2 yX2_missedOf yX2_missedOf, .code yX2_missedOf cX2_missedOf 5 (some .int), .fieldLink RX2 56 "ClassSheetsModel" "missed" "[I"] ++ wsX20)
def wsX2_all : List Cond := .code yX2_all cX2_all 4 (some .int) :: ([.fieldLink RX2 59 "ClassSheetsModel" "thrown" "I", .fieldLink RX2 56 "ClassSheetsModel" "missed" "[I", .methodLink RX2 91 yX2_noKind, .instanceMethod yX2_noKind, .selects RX2 yX2_noKind yX2_noKind, .initialized RX2, .code yX2_noKind cX2_noKind 2 (some .boolean), .fieldLink RX2 62 "ClassSheetsModel" "kinds" "I", .methodLink RX2 65 yX2_in, .static yX2_in, .code yX2_in cX2_in 6 (some .boolean)] ++ wsX20)
def wsX2_total : List Cond := .code yX2_total cX2_total 2 (some .int) :: ([.fieldLink RX2 59 "ClassSheetsModel" "thrown" "I", .fieldLink RX2 62 "ClassSheetsModel" "kinds" "I", .fieldLink RX2 69 "ClassSheetsModel" "places" "I", .fieldLink RX2 47 "ClassSheetsModel" "rows" "I", .fieldLink RX2 50 "ClassSheetsModel" "columns" "I", .fieldLink RX2 172 "ClassSheetsModel" "right" "I", .fieldLink RX2 175 "ClassSheetsModel" "wrong" "I"] ++ wsX20)
def wsJ9_abs_0f7a4 : List Cond := .code yJ9_abs_0f7a4 cJ9_abs_0f7a4 1 (some .int) :: ([])
def wsJ9_min_7cf53 : List Cond := .code yJ9_min_7cf53 cJ9_min_7cf53 2 (some .int) :: ([])
def wsL_law_r1 : List Cond := [Cond.classLink RL 7 RX1, Cond.instantiable RX1 12, Cond.initialized RX1, Cond.classLink RL 10 RX2, Cond.instantiable RX2 21, Cond.initialized RX2, Cond.methodLink RL 9 yX1_init, Cond.instanceMethod yX1_init, Cond.code yX1_init cX1_init 2 none, Cond.methodLink RX1 1 objectInit, Cond.instanceMethod objectInit, Cond.code objectInit ⟨#[0xb1]⟩ 1 none, Cond.classLink RX1 9 RX0, Cond.fieldLink RX1 11 "ClassSheets" "kinds" "[LClassSheets$Kind;", Cond.fieldLink RX1 15 "ClassSheets" "kindCount" "I", Cond.arrayClass .int, Cond.fieldLink RX1 19 "ClassSheets" "plannedKinds" "[I", Cond.fieldLink RX1 23 "ClassSheets" "turns" "[I", Cond.fieldLink RX1 26 "ClassSheets" "placeCount" "I", Cond.fieldLink RX1 29 "ClassSheets" "pageLines" "I", Cond.fieldLink RX1 32 "ClassSheets" "rowCount" "I", Cond.fieldLink RX1 35 "ClassSheets" "columnCount" "I", Cond.fieldLink RX1 38 "ClassSheets" "baseNumber" "I", Cond.fieldLink RX1 41 "ClassSheets" "misses" "[I"]
def wsL_law_r2 : List Cond := [Cond.fieldLink RX1 44 "ClassSheets" "rightMarks" "I", Cond.fieldLink RX1 47 "ClassSheets" "wrongMarks" "I", Cond.instantiable RX0 7, Cond.initialized RX0, Cond.methodLink RX1 50 yX0_init, Cond.instanceMethod yX0_init, Cond.code yX0_init cX0_init 1 none, Cond.methodLink RX0 3 objectInit, Cond.fieldLink RX0 11 "ClassSheets$Kind" "operation" "I", Cond.fieldLink RX0 15 "ClassSheets$Kind" "least" "[I", Cond.fieldLink RX0 19 "ClassSheets$Kind" "most" "[I", Cond.fieldLink RX0 22 "ClassSheets$Kind" "rules" "[I", Cond.fieldLink RX0 25 "ClassSheets$Kind" "before" "[I", Cond.fieldLink RX0 28 "ClassSheets$Kind" "count" "I", Cond.fieldLink RX0 31 "ClassSheets$Kind" "places" "I", Cond.methodLink RL 12 yX2_init, Cond.instanceMethod yX2_init, Cond.code yX2_init cX2_init 1 none, Cond.methodLink RX2 1 objectInit, Cond.fieldLink RX2 7 "ClassSheetsModel" "operation" "[I", Cond.fieldLink RX2 13 "ClassSheetsModel" "from" "[I", Cond.fieldLink RX2 16 "ClassSheetsModel" "to" "[I", Cond.fieldLink RX2 19 "ClassSheetsModel" "law" "[I", Cond.fieldLink RX2 22 "ClassSheetsModel" "takes" "[I"]
def wsL_law_r3 : List Cond := [Cond.fieldLink RX2 25 "ClassSheetsModel" "begin" "[I", Cond.arrayClass .boolean, Cond.fieldLink RX2 28 "ClassSheetsModel" "isTold" "[Z", Cond.fieldLink RX2 32 "ClassSheetsModel" "many" "[I", Cond.constant RX2 35 (80000), Cond.arrayClass .short, Cond.fieldLink RX2 36 "ClassSheetsModel" "pairs" "[S", Cond.fieldLink RX2 40 "ClassSheetsModel" "plan" "[I", Cond.fieldLink RX2 43 "ClassSheetsModel" "lines" "I", Cond.fieldLink RX2 47 "ClassSheetsModel" "rows" "I", Cond.fieldLink RX2 50 "ClassSheetsModel" "columns" "I", Cond.fieldLink RX2 53 "ClassSheetsModel" "number" "[I", Cond.fieldLink RX2 56 "ClassSheetsModel" "missed" "[I", Cond.methodLink RL 13 yX1_kind, Cond.instanceMethod yX1_kind, Cond.selects RX1 yX1_kind yX1_kind, Cond.code yX1_kind cX1_kind 2 (some .int), Cond.methodLink RX1 51 yX0_open, Cond.instanceMethod yX0_open, Cond.selects RX0 yX0_open yX0_open, Cond.code yX0_open cX0_open 2 none, Cond.methodLink RX0 43 yX0_countAnew, Cond.instanceMethod yX0_countAnew, Cond.selects RX0 yX0_countAnew yX0_countAnew]
def wsL_law_r4 : List Cond := [Cond.code yX0_countAnew cX0_countAnew 2 none, Cond.methodLink RX0 46 yX0_countBelow, Cond.instanceMethod yX0_countBelow, Cond.selects RX0 yX0_countBelow yX0_countBelow, Cond.code yX0_countBelow cX0_countBelow 5 (some .int), Cond.methodLink RX0 50 yX0_isLawful, Cond.instanceMethod yX0_isLawful, Cond.selects RX0 yX0_isLawful yX0_isLawful, Cond.code yX0_isLawful cX0_isLawful 4 (some .boolean), Cond.methodLink RX0 54 yX0_result, Cond.instanceMethod yX0_result, Cond.selects RX0 yX0_result yX0_result, Cond.code yX0_result cX0_result 3 (some .int), Cond.methodLink RX0 57 yX0_carries, Cond.instanceMethod yX0_carries, Cond.selects RX0 yX0_carries yX0_carries, Cond.code yX0_carries cX0_carries 3 (some .boolean), Cond.methodLink RX0 60 yX0_otherOperation, Cond.instanceMethod yX0_otherOperation, Cond.selects RX0 yX0_otherOperation yX0_otherOperation, Cond.code yX0_otherOperation cX0_otherOperation 3 (some .int), Cond.methodLink RL 17 yX2_kind, Cond.instanceMethod yX2_kind, Cond.selects RX2 yX2_kind yX2_kind]
def wsL_law_r5 : List Cond := [Cond.code yX2_kind cX2_kind 2 (some .int), Cond.fieldLink RX2 59 "ClassSheetsModel" "thrown" "I", Cond.constantLong RX2 99 (3), Cond.fieldLink RX2 62 "ClassSheetsModel" "kinds" "I", Cond.methodLink RX2 65 yX2_in, Cond.static yX2_in, Cond.code yX2_in cX2_in 6 (some .boolean), Cond.methodLink RL 18 yX1_range, Cond.instanceMethod yX1_range, Cond.selects RX1 yX1_range yX1_range, Cond.code yX1_range cX1_range 5 (some .int), Cond.methodLink RX1 55 yX1_isKind, Cond.instanceMethod yX1_isKind, Cond.selects RX1 yX1_isKind yX1_isKind, Cond.code yX1_isKind cX1_isKind 2 (some .boolean), Cond.methodLink RX1 59 yX0_isRange, Cond.static yX0_isRange, Cond.code yX0_isRange cX0_isRange 3 (some .boolean), Cond.fieldLink RX0 34 "ClassSheets$Kind" "RANGE_MOST" "[I", Cond.methodLink RX1 63 yX0_setRange, Cond.instanceMethod yX0_setRange, Cond.selects RX0 yX0_setRange yX0_setRange, Cond.code yX0_setRange cX0_setRange 4 none, Cond.methodLink RX1 67 yX0_size]
def wsL_law_r6 : List Cond := [Cond.instanceMethod yX0_size, Cond.selects RX0 yX0_size yX0_size, Cond.code yX0_size cX0_size 1 (some .int), Cond.methodLink RL 22 yX2_range, Cond.instanceMethod yX2_range, Cond.selects RX2 yX2_range yX2_range, Cond.code yX2_range cX2_range 5 (some .int), Cond.constantLong RX2 101 (2), Cond.methodLink RX2 91 yX2_noKind, Cond.instanceMethod yX2_noKind, Cond.selects RX2 yX2_noKind yX2_noKind, Cond.code yX2_noKind cX2_noKind 2 (some .boolean), Cond.methodLink RX2 95 yX2_tell, Cond.instanceMethod yX2_tell, Cond.selects RX2 yX2_tell yX2_tell, Cond.code yX2_tell cX2_tell 5 (some .int), Cond.methodLink RX2 88 yX2_holds, Cond.instanceMethod yX2_holds, Cond.selects RX2 yX2_holds yX2_holds, Cond.code yX2_holds cX2_holds 8 (some .boolean), Cond.methodLink RX2 72 yX2_answerOf, Cond.static yX2_answerOf, Cond.code yX2_answerOf cX2_answerOf 3 (some .int), Cond.methodLink RX2 76 yX2_carries]
def wsL_law_r7 : List Cond := [Cond.static yX2_carries, Cond.code yX2_carries cX2_carries 3 (some .boolean), Cond.methodLink RX2 84 yX2_slipOf, Cond.static yX2_slipOf, Cond.code yX2_slipOf cX2_slipOf 5 (some .int), Cond.constantLong RX2 80 (10), Cond.constantLong RX2 82 (99), Cond.methodLink RL 23 yX1_rule, Cond.instanceMethod yX1_rule, Cond.selects RX1 yX1_rule yX1_rule, Cond.code yX1_rule cX1_rule 4 (some .int), Cond.methodLink RX1 71 yX0_isRule, Cond.static yX0_isRule, Cond.code yX0_isRule cX0_isRule 2 (some .boolean), Cond.fieldLink RX0 37 "ClassSheets$Kind" "RULE_LEAST" "[I", Cond.fieldLink RX0 40 "ClassSheets$Kind" "RULE_MOST" "[I", Cond.methodLink RX1 75 yX0_setRule, Cond.instanceMethod yX0_setRule, Cond.selects RX0 yX0_setRule yX0_setRule, Cond.code yX0_setRule cX0_setRule 4 (some .int), Cond.methodLink RL 27 yX2_rule, Cond.instanceMethod yX2_rule, Cond.selects RX2 yX2_rule yX2_rule, Cond.code yX2_rule cX2_rule 6 (some .int)]
def wsL_law_r8 : List Cond := [Cond.constantLong RX2 103 (9), Cond.constantLong RX2 105 (9999), Cond.methodLink RL 28 yX1_variants, Cond.instanceMethod yX1_variants, Cond.selects RX1 yX1_variants yX1_variants, Cond.code yX1_variants cX1_variants 2 (some .int), Cond.methodLink RL 31 yX2_variants, Cond.instanceMethod yX2_variants, Cond.selects RX2 yX2_variants yX2_variants, Cond.code yX2_variants cX2_variants 2 (some .int), Cond.methodLink RL 32 yX1_variant, Cond.instanceMethod yX1_variant, Cond.selects RX1 yX1_variant yX1_variant, Cond.code yX1_variant cX1_variant 7 (some .int), Cond.methodLink RX1 79 yX1_isVariant, Cond.instanceMethod yX1_isVariant, Cond.selects RX1 yX1_isVariant yX1_isVariant, Cond.code yX1_isVariant cX1_isVariant 3 (some .boolean), Cond.methodLink RX1 82 yX0_pairAt, Cond.instanceMethod yX0_pairAt, Cond.selects RX0 yX0_pairAt yX0_pairAt, Cond.code yX0_pairAt cX0_pairAt 5 (some .int), Cond.methodLink RX1 86 yX0_result, Cond.methodLink RX1 89 yX0_carries]
def wsL_law_r9 : List Cond := [Cond.methodLink RL 35 yX2_variant, Cond.instanceMethod yX2_variant, Cond.selects RX2 yX2_variant yX2_variant, Cond.code yX2_variant cX2_variant 6 (some .int), Cond.methodLink RX2 107 yX2_noVariant, Cond.instanceMethod yX2_noVariant, Cond.selects RX2 yX2_noVariant yX2_noVariant, Cond.code yX2_noVariant cX2_noVariant 3 (some .boolean), Cond.methodLink RX2 111 yX2_pairOf, Cond.instanceMethod yX2_pairOf, Cond.selects RX2 yX2_pairOf yX2_pairOf, Cond.code yX2_pairOf cX2_pairOf 3 (some .int), Cond.methodLink RL 36 yX1_find, Cond.instanceMethod yX1_find, Cond.selects RX1 yX1_find yX1_find, Cond.code yX1_find cX1_find 4 (some .int), Cond.methodLink RX1 92 yX0_numberOf, Cond.instanceMethod yX0_numberOf, Cond.selects RX0 yX0_numberOf yX0_numberOf, Cond.code yX0_numberOf cX0_numberOf 4 (some .int), Cond.methodLink RL 39 yX2_find, Cond.instanceMethod yX2_find, Cond.selects RX2 yX2_find yX2_find, Cond.code yX2_find cX2_find 5 (some .int)]
def wsL_law_r10 : List Cond := [Cond.methodLink RL 40 yX1_slip, Cond.instanceMethod yX1_slip, Cond.selects RX1 yX1_slip yX1_slip, Cond.code yX1_slip cX1_slip 5 (some .int), Cond.methodLink RX1 95 yX0_slipped, Cond.instanceMethod yX0_slipped, Cond.selects RX0 yX0_slipped yX0_slipped, Cond.code yX0_slipped cX0_slipped 5 (some .int), Cond.methodLink RX0 63 yX0_withoutCarrying, Cond.instanceMethod yX0_withoutCarrying, Cond.selects RX0 yX0_withoutCarrying yX0_withoutCarrying, Cond.code yX0_withoutCarrying cX0_withoutCarrying 3 (some .int), Cond.methodLink RX0 77 Lib.Math.abs.name, Cond.static Lib.Math.abs.name, Cond.initialized "java/lang/Math", Cond.code Lib.Math.abs.name Lib.Math.abs.code 1 (some .int), Cond.methodLink RX0 66 yX0_exchanged, Cond.static yX0_exchanged, Cond.code yX0_exchanged cX0_exchanged 3 (some .int), Cond.methodLink RL 43 yX2_slip, Cond.instanceMethod yX2_slip, Cond.selects RX2 yX2_slip yX2_slip, Cond.code yX2_slip cX2_slip 4 (some .int), Cond.constantLong RX2 115 (5)]
def wsL_law_r11 : List Cond := [Cond.methodLink RX2 117 yX2_slipAt, Cond.instanceMethod yX2_slipAt, Cond.selects RX2 yX2_slipAt yX2_slipAt, Cond.code yX2_slipAt cX2_slipAt 4 (some .int), Cond.methodLink RL 44 yX1_tells, Cond.instanceMethod yX1_tells, Cond.selects RX1 yX1_tells yX1_tells, Cond.code yX1_tells cX1_tells 4 (some .int), Cond.methodLink RX1 99 yX0_slipBehind, Cond.instanceMethod yX0_slipBehind, Cond.selects RX0 yX0_slipBehind yX0_slipBehind, Cond.code yX0_slipBehind cX0_slipBehind 7 (some .int), Cond.methodLink RX0 70 yX0_pairAt, Cond.methodLink RX0 73 yX0_slipped, Cond.methodLink RL 47 yX2_tells, Cond.instanceMethod yX2_tells, Cond.selects RX2 yX2_tells yX2_tells, Cond.code yX2_tells cX2_tells 4 (some .int), Cond.methodLink RX2 123 yX2_tellsOf, Cond.instanceMethod yX2_tellsOf, Cond.selects RX2 yX2_tellsOf yX2_tellsOf, Cond.code yX2_tellsOf cX2_tellsOf 5 (some .int), Cond.methodLink RX2 120 yX2_rightAt, Cond.instanceMethod yX2_rightAt]
def wsL_law_r12 : List Cond := [Cond.selects RX2 yX2_rightAt yX2_rightAt, Cond.code yX2_rightAt cX2_rightAt 3 (some .int), Cond.methodLink RL 48 yX1_plan, Cond.instanceMethod yX1_plan, Cond.selects RX1 yX1_plan yX1_plan, Cond.code yX1_plan cX1_plan 4 (some .int), Cond.methodLink RX1 102 yX0_addPlace, Cond.instanceMethod yX0_addPlace, Cond.selects RX0 yX0_addPlace yX0_addPlace, Cond.code yX0_addPlace cX0_addPlace 1 (some .int), Cond.methodLink RL 52 yX2_plan, Cond.instanceMethod yX2_plan, Cond.selects RX2 yX2_plan yX2_plan, Cond.code yX2_plan cX2_plan 4 (some .int), Cond.constantLong RX2 126 (40), Cond.fieldLink RX2 69 "ClassSheetsModel" "places" "I", Cond.methodLink RL 53 yX1_clear, Cond.instanceMethod yX1_clear, Cond.selects RX1 yX1_clear yX1_clear, Cond.code yX1_clear cX1_clear 3 (some .int), Cond.methodLink RX1 105 yX0_dropPlaces, Cond.instanceMethod yX0_dropPlaces, Cond.selects RX0 yX0_dropPlaces yX0_dropPlaces, Cond.code yX0_dropPlaces cX0_dropPlaces 1 none]
def wsL_law_r13 : List Cond := [Cond.methodLink RL 57 yX2_clear, Cond.instanceMethod yX2_clear, Cond.selects RX2 yX2_clear yX2_clear, Cond.code yX2_clear cX2_clear 2 (some .int), Cond.methodLink RL 58 yX1_placed, Cond.instanceMethod yX1_placed, Cond.selects RX1 yX1_placed yX1_placed, Cond.code yX1_placed cX1_placed 2 (some .int), Cond.methodLink RX1 108 yX1_isPlace, Cond.instanceMethod yX1_isPlace, Cond.selects RX1 yX1_isPlace yX1_isPlace, Cond.code yX1_isPlace cX1_isPlace 2 (some .boolean), Cond.methodLink RL 61 yX2_placed, Cond.instanceMethod yX2_placed, Cond.selects RX2 yX2_placed yX2_placed, Cond.code yX2_placed cX2_placed 2 (some .int), Cond.methodLink RX2 128 yX2_noPlace, Cond.instanceMethod yX2_noPlace, Cond.selects RX2 yX2_noPlace yX2_noPlace, Cond.code yX2_noPlace cX2_noPlace 2 (some .boolean), Cond.methodLink RL 62 yX1_lines, Cond.instanceMethod yX1_lines, Cond.selects RX1 yX1_lines yX1_lines, Cond.code yX1_lines cX1_lines 3 (some .int)]
def wsL_law_r14 : List Cond := [Cond.methodLink RL 65 yX2_lines, Cond.instanceMethod yX2_lines, Cond.selects RX2 yX2_lines yX2_lines, Cond.code yX2_lines cX2_lines 3 (some .int), Cond.methodLink RL 66 yX1_pages, Cond.instanceMethod yX1_pages, Cond.selects RX1 yX1_pages yX1_pages, Cond.code yX1_pages cX1_pages 1 (some .int), Cond.methodLink RX1 111 yX1_pageAndLine, Cond.instanceMethod yX1_pageAndLine, Cond.selects RX1 yX1_pageAndLine yX1_pageAndLine, Cond.code yX1_pageAndLine cX1_pageAndLine 7 (some .int), Cond.methodLink RX1 114 yX0_linesTaken, Cond.instanceMethod yX0_linesTaken, Cond.selects RX0 yX0_linesTaken yX0_linesTaken, Cond.code yX0_linesTaken cX0_linesTaken 1 (some .int), Cond.methodLink RL 69 yX2_pages, Cond.instanceMethod yX2_pages, Cond.selects RX2 yX2_pages yX2_pages, Cond.code yX2_pages cX2_pages 1 (some .int), Cond.methodLink RX2 131 yX2_where, Cond.instanceMethod yX2_where, Cond.selects RX2 yX2_where yX2_where, Cond.code yX2_where cX2_where 5 (some .int)]
def wsL_law_r15 : List Cond := [Cond.methodLink RL 70 yX1_page, Cond.instanceMethod yX1_page, Cond.selects RX1 yX1_page yX1_page, Cond.code yX1_page cX1_page 4 (some .int), Cond.methodLink RL 74 yX2_page, Cond.instanceMethod yX2_page, Cond.selects RX2 yX2_page yX2_page, Cond.code yX2_page cX2_page 3 (some .int), Cond.methodLink RL 75 yX1_sheet, Cond.instanceMethod yX1_sheet, Cond.selects RX1 yX1_sheet yX1_sheet, Cond.code yX1_sheet cX1_sheet 4 (some .int), Cond.methodLink RX1 117 yX1_placeRefusal, Cond.instanceMethod yX1_placeRefusal, Cond.selects RX1 yX1_placeRefusal yX1_placeRefusal, Cond.code yX1_placeRefusal cX1_placeRefusal 3 (some .int), Cond.methodLink RX1 126 yX1_sheetRefusal, Cond.instanceMethod yX1_sheetRefusal, Cond.selects RX1 yX1_sheetRefusal yX1_sheetRefusal, Cond.code yX1_sheetRefusal cX1_sheetRefusal 2 (some .int), Cond.methodLink RX1 129 yX1_isSheet, Cond.static yX1_isSheet, Cond.code yX1_isSheet cX1_isSheet 1 (some .boolean), Cond.methodLink RX1 132 yX1_lacksVariants]
def wsL_law_r16 : List Cond := [Cond.instanceMethod yX1_lacksVariants, Cond.selects RX1 yX1_lacksVariants yX1_lacksVariants, Cond.code yX1_lacksVariants cX1_lacksVariants 2 (some .boolean), Cond.methodLink RX1 120 yX1_variantOn, Cond.instanceMethod yX1_variantOn, Cond.selects RX1 yX1_variantOn yX1_variantOn, Cond.code yX1_variantOn cX1_variantOn 3 (some .int), Cond.methodLink RX1 142 yX0_variantFor, Cond.instanceMethod yX0_variantFor, Cond.selects RX0 yX0_variantFor yX0_variantFor, Cond.code yX0_variantFor cX0_variantFor 3 (some .int), Cond.methodLink RL 78 yX2_sheet, Cond.instanceMethod yX2_sheet, Cond.selects RX2 yX2_sheet yX2_sheet, Cond.code yX2_sheet cX2_sheet 3 (some .int), Cond.methodLink RX2 137 yX2_noNumber, Cond.static yX2_noNumber, Cond.code yX2_noNumber cX2_noNumber 1 (some .boolean), Cond.methodLink RX2 140 yX2_noSheet, Cond.instanceMethod yX2_noSheet, Cond.selects RX2 yX2_noSheet yX2_noSheet, Cond.code yX2_noSheet cX2_noSheet 3 (some .boolean), Cond.methodLink RX2 144 yX2_variantAt, Cond.instanceMethod yX2_variantAt]
def wsL_law_r17 : List Cond := [Cond.selects RX2 yX2_variantAt yX2_variantAt, Cond.code yX2_variantAt cX2_variantAt 4 (some .int), Cond.methodLink RX2 134 yX2_ahead, Cond.instanceMethod yX2_ahead, Cond.selects RX2 yX2_ahead yX2_ahead, Cond.code yX2_ahead cX2_ahead 5 (some .int), Cond.methodLink RL 79 yX1_answer, Cond.instanceMethod yX1_answer, Cond.selects RX1 yX1_answer yX1_answer, Cond.code yX1_answer cX1_answer 4 (some .int), Cond.methodLink RX1 123 yX1_answerOn, Cond.instanceMethod yX1_answerOn, Cond.selects RX1 yX1_answerOn yX1_answerOn, Cond.code yX1_answerOn cX1_answerOn 5 (some .int), Cond.methodLink RL 82 yX2_answer, Cond.instanceMethod yX2_answer, Cond.selects RX2 yX2_answer yX2_answer, Cond.code yX2_answer cX2_answer 3 (some .int), Cond.methodLink RX2 147 yX2_answerAt, Cond.instanceMethod yX2_answerAt, Cond.selects RX2 yX2_answerAt yX2_answerAt, Cond.code yX2_answerAt cX2_answerAt 3 (some .int), Cond.methodLink RL 83 yX1_code, Cond.instanceMethod yX1_code]
def wsL_law_r18 : List Cond := [Cond.selects RX1 yX1_code yX1_code, Cond.code yX1_code cX1_code 5 (some .int), Cond.methodLink RL 86 yX2_code, Cond.instanceMethod yX2_code, Cond.selects RX2 yX2_code yX2_code, Cond.code yX2_code cX2_code 4 (some .int), Cond.methodLink RL 87 yX1_shared, Cond.instanceMethod yX1_shared, Cond.selects RX1 yX1_shared yX1_shared, Cond.code yX1_shared cX1_shared 5 (some .int), Cond.methodLink RX1 136 yX0_placesInCommon, Cond.instanceMethod yX0_placesInCommon, Cond.selects RX0 yX0_placesInCommon yX0_placesInCommon, Cond.code yX0_placesInCommon cX0_placesInCommon 6 (some .int), Cond.methodLink RX0 82 yJ9_floorMod_7cf53, Cond.static yJ9_floorMod_7cf53, Cond.initialized RJ9, Cond.code yJ9_floorMod_7cf53 cJ9_floorMod_7cf53 3 (some .int), Cond.methodLink RL 90 yX2_shared, Cond.instanceMethod yX2_shared, Cond.selects RX2 yX2_shared yX2_shared, Cond.code yX2_shared cX2_shared 7 (some .int), Cond.methodLink RL 91 yX1_apart, Cond.instanceMethod yX1_apart]
def wsL_law_r19 : List Cond := [Cond.selects RX1 yX1_apart yX1_apart, Cond.code yX1_apart cX1_apart 4 (some .int), Cond.methodLink RX1 139 yX0_hasEnoughForTwo, Cond.instanceMethod yX0_hasEnoughForTwo, Cond.selects RX0 yX0_hasEnoughForTwo yX0_hasEnoughForTwo, Cond.code yX0_hasEnoughForTwo cX0_hasEnoughForTwo 1 (some .boolean), Cond.methodLink RL 94 yX2_apart, Cond.instanceMethod yX2_apart, Cond.selects RX2 yX2_apart yX2_apart, Cond.code yX2_apart cX2_apart 3 (some .int), Cond.methodLink RX2 150 yX2_isApart, Cond.instanceMethod yX2_isApart, Cond.selects RX2 yX2_isApart yX2_isApart, Cond.code yX2_isApart cX2_isApart 8 (some .boolean), Cond.methodLink RL 95 yX1_seats, Cond.instanceMethod yX1_seats, Cond.selects RX1 yX1_seats yX1_seats, Cond.code yX1_seats cX1_seats 5 (some .int), Cond.methodLink RL 98 yX2_seats, Cond.instanceMethod yX2_seats, Cond.selects RX2 yX2_seats yX2_seats, Cond.code yX2_seats cX2_seats 5 (some .int), Cond.constantLong RX2 153 (8), Cond.methodLink RL 99 yX1_base]
def wsL_law_r20 : List Cond := [Cond.instanceMethod yX1_base, Cond.selects RX1 yX1_base yX1_base, Cond.code yX1_base cX1_base 3 (some .int), Cond.methodLink RL 102 yX2_base, Cond.instanceMethod yX2_base, Cond.selects RX2 yX2_base yX2_base, Cond.code yX2_base cX2_base 3 (some .int), Cond.constantLong RX2 158 (9000), Cond.fieldLink RX2 160 "ClassSheetsModel" "base" "I", Cond.methodLink RL 103 yX1_seat, Cond.instanceMethod yX1_seat, Cond.selects RX1 yX1_seat yX1_seat, Cond.code yX1_seat cX1_seat 2 (some .int), Cond.methodLink RX1 145 yX1_isSeat, Cond.instanceMethod yX1_isSeat, Cond.selects RX1 yX1_isSeat yX1_isSeat, Cond.code yX1_isSeat cX1_isSeat 2 (some .boolean), Cond.methodLink RX1 148 yX1_sheetAt, Cond.instanceMethod yX1_sheetAt, Cond.selects RX1 yX1_sheetAt yX1_sheetAt, Cond.code yX1_sheetAt cX1_sheetAt 4 (some .int), Cond.methodLink RX1 151 Lib.Math.min.name, Cond.static Lib.Math.min.name, Cond.code Lib.Math.min.name Lib.Math.min.code 2 (some .int)]
def wsL_law_r21 : List Cond := [Cond.methodLink RL 106 yX2_seat, Cond.instanceMethod yX2_seat, Cond.selects RX2 yX2_seat yX2_seat, Cond.code yX2_seat cX2_seat 2 (some .int), Cond.methodLink RX2 166 yX2_noSeat, Cond.instanceMethod yX2_noSeat, Cond.selects RX2 yX2_noSeat yX2_noSeat, Cond.code yX2_noSeat cX2_noSeat 2 (some .boolean), Cond.methodLink RX2 169 yX2_sheetOf, Cond.instanceMethod yX2_sheetOf, Cond.selects RX2 yX2_sheetOf yX2_sheetOf, Cond.code yX2_sheetOf cX2_sheetOf 2 (some .int), Cond.methodLink RX2 163 yX2_sit, Cond.instanceMethod yX2_sit, Cond.selects RX2 yX2_sit yX2_sit, Cond.code yX2_sit cX2_sit 4 none, Cond.methodLink RX2 155 yX2_isNear, Cond.instanceMethod yX2_isNear, Cond.selects RX2 yX2_isNear yX2_isNear, Cond.code yX2_isNear cX2_isNear 8 (some .boolean), Cond.methodLink RL 107 yX1_unlike, Cond.instanceMethod yX1_unlike, Cond.selects RX1 yX1_unlike yX1_unlike, Cond.code yX1_unlike cX1_unlike 1 (some .int)]
def wsL_law_r22 : List Cond := [Cond.methodLink RL 110 yX2_unlike, Cond.instanceMethod yX2_unlike, Cond.selects RX2 yX2_unlike yX2_unlike, Cond.code yX2_unlike cX2_unlike 3 (some .int), Cond.methodLink RL 111 yX1_mark, Cond.instanceMethod yX1_mark, Cond.selects RX1 yX1_mark yX1_mark, Cond.code yX1_mark cX1_mark 6 (some .int), Cond.methodLink RX1 156 yX1_missesFrom, Cond.instanceMethod yX1_missesFrom, Cond.selects RX1 yX1_missesFrom yX1_missesFrom, Cond.code yX1_missesFrom cX1_missesFrom 2 (some .int), Cond.methodLink RL 114 yX2_mark, Cond.instanceMethod yX2_mark, Cond.selects RX2 yX2_mark yX2_mark, Cond.code yX2_mark cX2_mark 5 (some .int), Cond.fieldLink RX2 172 "ClassSheetsModel" "right" "I", Cond.fieldLink RX2 175 "ClassSheetsModel" "wrong" "I", Cond.methodLink RL 115 yX1_missed, Cond.instanceMethod yX1_missed, Cond.selects RX1 yX1_missed yX1_missed, Cond.code yX1_missed cX1_missed 3 (some .int), Cond.methodLink RX1 159 yX1_missesAt, Cond.instanceMethod yX1_missesAt]
def wsL_law_r23 : List Cond := [Cond.selects RX1 yX1_missesAt yX1_missesAt, Cond.code yX1_missesAt cX1_missesAt 5 (some .int), Cond.methodLink RL 118 yX2_missed, Cond.instanceMethod yX2_missed, Cond.selects RX2 yX2_missed yX2_missed, Cond.code yX2_missed cX2_missed 3 (some .int), Cond.methodLink RX2 178 yX2_missedOf, Cond.instanceMethod yX2_missedOf, Cond.selects RX2 yX2_missedOf yX2_missedOf, Cond.code yX2_missedOf cX2_missedOf 5 (some .int), Cond.methodLink RL 119 yX1_review, Cond.instanceMethod yX1_review, Cond.selects RX1 yX1_review yX1_review, Cond.code yX1_review cX1_review 4 (some .int), Cond.methodLink RX1 162 yX1_reviewPlaces, Cond.instanceMethod yX1_reviewPlaces, Cond.selects RX1 yX1_reviewPlaces yX1_reviewPlaces, Cond.code yX1_reviewPlaces cX1_reviewPlaces 11 (some .int), Cond.methodLink RL 122 yX2_review, Cond.instanceMethod yX2_review, Cond.selects RX2 yX2_review yX2_review, Cond.code yX2_review cX2_review 10 (some .int), Cond.constantLong RX2 181 (60), Cond.methodLink RL 123 yX1_all]
def wsL_law_r24 : List Cond := [Cond.instanceMethod yX1_all, Cond.selects RX1 yX1_all yX1_all, Cond.code yX1_all cX1_all 4 (some .int), Cond.methodLink RL 126 yX2_all, Cond.instanceMethod yX2_all, Cond.selects RX2 yX2_all yX2_all, Cond.code yX2_all cX2_all 4 (some .int), Cond.methodLink RL 127 yX1_total, Cond.instanceMethod yX1_total, Cond.selects RX1 yX1_total yX1_total, Cond.code yX1_total cX1_total 2 (some .int), Cond.methodLink RL 130 yX2_total, Cond.instanceMethod yX2_total, Cond.selects RX2 yX2_total yX2_total, Cond.code yX2_total cX2_total 2 (some .int)]
def wsL_law : List Cond := (wsL_law_r1 ++ (wsL_law_r2 ++ (wsL_law_r3 ++ (wsL_law_r4 ++ (wsL_law_r5 ++ (wsL_law_r6 ++ (wsL_law_r7 ++ (wsL_law_r8 ++ (wsL_law_r9 ++ (wsL_law_r10 ++ (wsL_law_r11 ++ (wsL_law_r12 ++ (wsL_law_r13 ++ (wsL_law_r14 ++ (wsL_law_r15 ++ (wsL_law_r16 ++ (wsL_law_r17 ++ (wsL_law_r18 ++ (wsL_law_r19 ++ (wsL_law_r20 ++ (wsL_law_r21 ++ (wsL_law_r22 ++ (wsL_law_r23 ++ wsL_law_r24))))))))))))))))))))))) ++ wsX10 ++ wsX20 ++ wsX00 ++ ([] : List Cond)
end
section
set_option maxRecDepth 20000 in
theorem lin_1 : ∀ w ∈ wsL_law_r1, w ∈ lw_tbl := fun w h => (goodIn_r wsL_law_r1 [44, 45, 40, 402, 403, 42, 46, 47, 48, 49, 50, 51, 52, 82, 83, 81, 84, 85, 86, 87, 88, 89, 90, 91] (by decide +kernel) (by decide +kernel) w h).1
set_option maxRecDepth 20000 in
theorem lin_2 : ∀ w ∈ wsL_law_r2, w ∈ lw_tbl := fun w h => (goodIn_r wsL_law_r2 [92, 93, 54, 41, 55, 56, 57, 58, 59, 60, 61, 62, 63, 64, 65, 404, 405, 406, 407, 411, 412, 413, 414, 415] (by decide +kernel) (by decide +kernel) w h).1
set_option maxRecDepth 20000 in
theorem lin_3 : ∀ w ∈ wsL_law_r3, w ∈ lw_tbl := fun w h => (goodIn_r wsL_law_r3 [416, 473, 417, 418, 408, 474, 419, 421, 422, 423, 424, 426, 427, 119, 120, 121, 122, 123, 124, 125, 126, 127, 129, 0] (by decide +kernel) (by decide +kernel) w h).1
set_option maxRecDepth 20000 in
theorem lin_4 : ∀ w ∈ wsL_law_r4, w ∈ lw_tbl := fun w h => (goodIn_r wsL_law_r4 [130, 131, 133, 1, 134, 135, 137, 2, 138, 139, 140, 141, 142, 143, 144, 145, 146, 147, 149, 3, 150, 475, 476, 477] (by decide +kernel) (by decide +kernel) w h).1
set_option maxRecDepth 20000 in
theorem lin_5 : ∀ w ∈ wsL_law_r5, w ∈ lw_tbl := fun w h => (goodIn_r wsL_law_r5 [478, 409, 479, 410, 480, 481, 482, 151, 152, 153, 154, 155, 157, 4, 158, 159, 160, 161, 162, 164, 165, 166, 167, 168] (by decide +kernel) (by decide +kernel) w h).1
set_option maxRecDepth 20000 in
theorem lin_6 : ∀ w ∈ wsL_law_r6, w ∈ lw_tbl := fun w h => (goodIn_r wsL_law_r6 [169, 170, 171, 483, 484, 485, 486, 491, 487, 489, 19, 490, 492, 494, 20, 495, 496, 498, 21, 499, 500, 501, 502, 503] (by decide +kernel) (by decide +kernel) w h).1
set_option maxRecDepth 20000 in
theorem lin_7 : ∀ w ∈ wsL_law_r7, w ∈ lw_tbl := fun w h => (goodIn_r wsL_law_r7 [504, 505, 506, 507, 508, 509, 510, 172, 173, 174, 175, 176, 177, 178, 179, 181, 183, 184, 185, 186, 511, 512, 513, 514] (by decide +kernel) (by decide +kernel) w h).1
set_option maxRecDepth 20000 in
theorem lin_8 : ∀ w ∈ wsL_law_r8, w ∈ lw_tbl := fun w h => (goodIn_r wsL_law_r8 [515, 516, 187, 188, 189, 190, 517, 518, 519, 520, 191, 192, 193, 194, 195, 197, 5, 198, 199, 200, 201, 202, 203, 204] (by decide +kernel) (by decide +kernel) w h).1
set_option maxRecDepth 20000 in
theorem lin_9 : ∀ w ∈ wsL_law_r9, w ∈ lw_tbl := fun w h => (goodIn_r wsL_law_r9 [521, 522, 523, 524, 525, 527, 22, 528, 529, 531, 23, 532, 205, 206, 207, 208, 209, 210, 211, 212, 533, 534, 535, 536] (by decide +kernel) (by decide +kernel) w h).1
set_option maxRecDepth 20000 in
theorem lin_10 : ∀ w ∈ wsL_law_r10, w ∈ lw_tbl := fun w h => (goodIn_r wsL_law_r10 [213, 214, 215, 216, 217, 218, 219, 220, 221, 223, 6, 224, 225, 226, 43, 227, 228, 229, 230, 537, 538, 539, 540, 541] (by decide +kernel) (by decide +kernel) w h).1
set_option maxRecDepth 20000 in
theorem lin_11 : ∀ w ∈ wsL_law_r11, w ∈ lw_tbl := fun w h => (goodIn_r wsL_law_r11 [542, 544, 24, 545, 231, 232, 233, 234, 235, 236, 237, 238, 239, 240, 546, 547, 548, 549, 550, 552, 25, 553, 554, 556] (by decide +kernel) (by decide +kernel) w h).1
set_option maxRecDepth 20000 in
theorem lin_12 : ∀ w ∈ wsL_law_r12, w ∈ lw_tbl := fun w h => (goodIn_r wsL_law_r12 [26, 557, 241, 242, 243, 244, 245, 246, 247, 248, 558, 559, 560, 561, 562, 420, 249, 250, 251, 252, 253, 254, 255, 256] (by decide +kernel) (by decide +kernel) w h).1
set_option maxRecDepth 20000 in
theorem lin_13 : ∀ w ∈ wsL_law_r13, w ∈ lw_tbl := fun w h => (goodIn_r wsL_law_r13 [563, 564, 565, 566, 257, 258, 259, 260, 261, 263, 7, 264, 567, 568, 569, 570, 571, 573, 27, 574, 265, 266, 267, 268] (by decide +kernel) (by decide +kernel) w h).1
set_option maxRecDepth 20000 in
theorem lin_14 : ∀ w ∈ wsL_law_r14, w ∈ lw_tbl := fun w h => (goodIn_r wsL_law_r14 [575, 576, 577, 578, 269, 270, 271, 272, 273, 275, 8, 276, 277, 278, 279, 280, 579, 580, 581, 582, 583, 585, 28, 586] (by decide +kernel) (by decide +kernel) w h).1
set_option maxRecDepth 20000 in
theorem lin_15 : ∀ w ∈ wsL_law_r15, w ∈ lw_tbl := fun w h => (goodIn_r wsL_law_r15 [281, 282, 283, 284, 587, 588, 589, 590, 285, 286, 287, 288, 289, 291, 9, 292, 293, 295, 10, 296, 297, 298, 299, 300] (by decide +kernel) (by decide +kernel) w h).1
set_option maxRecDepth 20000 in
theorem lin_16 : ∀ w ∈ wsL_law_r16, w ∈ lw_tbl := fun w h => (goodIn_r wsL_law_r16 [302, 11, 303, 304, 306, 12, 307, 308, 309, 310, 311, 591, 592, 593, 594, 595, 596, 597, 598, 600, 29, 601, 602, 604] (by decide +kernel) (by decide +kernel) w h).1
set_option maxRecDepth 20000 in
theorem lin_17 : ∀ w ∈ wsL_law_r17, w ∈ lw_tbl := fun w h => (goodIn_r wsL_law_r17 [30, 605, 606, 608, 31, 609, 312, 313, 314, 315, 316, 318, 13, 319, 610, 611, 612, 613, 614, 616, 32, 617, 320, 321] (by decide +kernel) (by decide +kernel) w h).1
set_option maxRecDepth 20000 in
theorem lin_18 : ∀ w ∈ wsL_law_r18, w ∈ lw_tbl := fun w h => (goodIn_r wsL_law_r18 [322, 323, 618, 619, 620, 621, 324, 325, 326, 327, 328, 329, 330, 331, 332, 333, 43, 334, 622, 623, 624, 625, 335, 336] (by decide +kernel) (by decide +kernel) w h).1
set_option maxRecDepth 20000 in
theorem lin_19 : ∀ w ∈ wsL_law_r19, w ∈ lw_tbl := fun w h => (goodIn_r wsL_law_r19 [337, 338, 339, 340, 341, 342, 626, 627, 628, 629, 630, 632, 33, 633, 343, 344, 345, 346, 634, 635, 636, 637, 638, 347] (by decide +kernel) (by decide +kernel) w h).1
set_option maxRecDepth 20000 in
theorem lin_20 : ∀ w ∈ wsL_law_r20, w ∈ lw_tbl := fun w h => (goodIn_r wsL_law_r20 [348, 349, 350, 639, 640, 641, 642, 643, 425, 351, 352, 353, 354, 355, 357, 14, 358, 359, 361, 15, 362, 363, 364, 365] (by decide +kernel) (by decide +kernel) w h).1
set_option maxRecDepth 20000 in
theorem lin_21 : ∀ w ∈ wsL_law_r21, w ∈ lw_tbl := fun w h => (goodIn_r wsL_law_r21 [644, 645, 646, 647, 648, 650, 34, 651, 652, 654, 35, 655, 656, 658, 36, 659, 660, 662, 37, 663, 366, 367, 368, 369] (by decide +kernel) (by decide +kernel) w h).1
set_option maxRecDepth 20000 in
theorem lin_22 : ∀ w ∈ wsL_law_r22, w ∈ lw_tbl := fun w h => (goodIn_r wsL_law_r22 [664, 665, 666, 667, 370, 371, 372, 373, 374, 376, 16, 377, 668, 669, 670, 671, 428, 429, 378, 379, 380, 381, 382, 384] (by decide +kernel) (by decide +kernel) w h).1
set_option maxRecDepth 20000 in
theorem lin_23 : ∀ w ∈ wsL_law_r23, w ∈ lw_tbl := fun w h => (goodIn_r wsL_law_r23 [17, 385, 672, 673, 674, 675, 676, 678, 38, 679, 386, 387, 388, 389, 390, 392, 18, 393, 680, 681, 682, 683, 684, 394] (by decide +kernel) (by decide +kernel) w h).1
set_option maxRecDepth 20000 in
theorem lin_24 : ∀ w ∈ wsL_law_r24, w ∈ lw_tbl := fun w h => (goodIn_r wsL_law_r24 [395, 396, 397, 685, 686, 687, 688, 398, 399, 400, 401, 689, 690, 691, 692] (by decide +kernel) (by decide +kernel) w h).1
set_option maxRecDepth 20000 in
theorem lin_X0 : ∀ w ∈ wsX00, w ∈ lw_tbl := fun w h => (goodIn_r wsX00 [66, 68, 70, 72, 74, 76, 78] (by decide +kernel) (by decide +kernel) w h).1
set_option maxRecDepth 20000 in
theorem lin_X1 : ∀ w ∈ wsX10, w ∈ lw_tbl := fun w h => (goodIn_r wsX10 [94, 96, 98, 100, 102, 104, 106, 108, 110, 112, 114, 116] (by decide +kernel) (by decide +kernel) w h).1
set_option maxRecDepth 20000 in
theorem lin_X2 : ∀ w ∈ wsX20, w ∈ lw_tbl := fun w h => (goodIn_r wsX20 [430, 432, 434, 436, 438, 440, 442, 444, 446, 448, 450, 452, 454, 456, 458, 460, 462, 464, 466, 468, 470] (by decide +kernel) (by decide +kernel) w h).1
theorem wsL_law_in : ∀ w ∈ wsL_law, w ∈ lw_tbl := by
  unfold wsL_law
  exact List.forall_mem_append.mpr ⟨List.forall_mem_append.mpr ⟨List.forall_mem_append.mpr ⟨List.forall_mem_append.mpr ⟨List.forall_mem_append.mpr ⟨lin_1, List.forall_mem_append.mpr ⟨lin_2, List.forall_mem_append.mpr ⟨lin_3, List.forall_mem_append.mpr ⟨lin_4, List.forall_mem_append.mpr ⟨lin_5, List.forall_mem_append.mpr ⟨lin_6, List.forall_mem_append.mpr ⟨lin_7, List.forall_mem_append.mpr ⟨lin_8, List.forall_mem_append.mpr ⟨lin_9, List.forall_mem_append.mpr ⟨lin_10, List.forall_mem_append.mpr ⟨lin_11, List.forall_mem_append.mpr ⟨lin_12, List.forall_mem_append.mpr ⟨lin_13, List.forall_mem_append.mpr ⟨lin_14, List.forall_mem_append.mpr ⟨lin_15, List.forall_mem_append.mpr ⟨lin_16, List.forall_mem_append.mpr ⟨lin_17, List.forall_mem_append.mpr ⟨lin_18, List.forall_mem_append.mpr ⟨lin_19, List.forall_mem_append.mpr ⟨lin_20, List.forall_mem_append.mpr ⟨lin_21, List.forall_mem_append.mpr ⟨lin_22, List.forall_mem_append.mpr ⟨lin_23, lin_24⟩⟩⟩⟩⟩⟩⟩⟩⟩⟩⟩⟩⟩⟩⟩⟩⟩⟩⟩⟩⟩⟩⟩, lin_X1⟩, lin_X2⟩, lin_X0⟩, fun _ h => absurd h List.not_mem_nil⟩
end
section
theorem inlX0 : ∀ w ∈ wsX00, w ∈ wsL_law := fun _ h => List.mem_append_left _ (List.mem_append_right _ h)
theorem inX0 : ∀ w ∈ wsX00, w ∈ lw_tbl := fun w h => wsL_law_in w (inlX0 w h)
theorem inlX1 : ∀ w ∈ wsX10, w ∈ wsL_law := fun _ h => List.mem_append_left _ (List.mem_append_left _ (List.mem_append_left _ (List.mem_append_right _ h)))
theorem inX1 : ∀ w ∈ wsX10, w ∈ lw_tbl := fun w h => wsL_law_in w (inlX1 w h)
theorem inlX2 : ∀ w ∈ wsX20, w ∈ wsL_law := fun _ h => List.mem_append_left _ (List.mem_append_left _ (List.mem_append_right _ h))
theorem inX2 : ∀ w ∈ wsX20, w ∈ lw_tbl := fun w h => wsL_law_in w (inlX2 w h)
theorem inJ9 : ∀ w ∈ wsJ90, w ∈ lw_tbl := by decide +kernel
theorem dX0_init_0 : decode cX0_init 0 = .ok (.aload_n 0, 1) := by decide +kernel
theorem dX0_init_1 : decode cX0_init 1 = .ok (.invokespecial 3, 3) := by decide +kernel
theorem dX0_init_4 : decode cX0_init 4 = .ok (.aload_n 0, 1) := by decide +kernel
theorem dX0_init_5 : decode cX0_init 5 = .ok (.iconst 0, 1) := by decide +kernel
theorem dX0_init_6 : decode cX0_init 6 = .ok (.putfield 11, 3) := by decide +kernel
theorem dX0_init_9 : decode cX0_init 9 = .ok (.aload_n 0, 1) := by decide +kernel
theorem dX0_init_10 : decode cX0_init 10 = .ok (.iconst 3, 1) := by decide +kernel
theorem dX0_init_11 : decode cX0_init 11 = .ok (.newarray .int, 2) := by decide +kernel
theorem dX0_init_13 : decode cX0_init 13 = .ok (.dup, 1) := by decide +kernel
theorem dX0_init_14 : decode cX0_init 14 = .ok (.iconst 0, 1) := by decide +kernel
theorem dX0_init_15 : decode cX0_init 15 = .ok (.iconst 0, 1) := by decide +kernel
theorem dX0_init_16 : decode cX0_init 16 = .ok (.iastore, 1) := by decide +kernel
theorem dX0_init_17 : decode cX0_init 17 = .ok (.dup, 1) := by decide +kernel
theorem dX0_init_18 : decode cX0_init 18 = .ok (.iconst 1, 1) := by decide +kernel
theorem dX0_init_19 : decode cX0_init 19 = .ok (.iconst 0, 1) := by decide +kernel
theorem dX0_init_20 : decode cX0_init 20 = .ok (.iastore, 1) := by decide +kernel
theorem dX0_init_21 : decode cX0_init 21 = .ok (.dup, 1) := by decide +kernel
theorem dX0_init_22 : decode cX0_init 22 = .ok (.iconst 2, 1) := by decide +kernel
theorem dX0_init_23 : decode cX0_init 23 = .ok (.iconst 0, 1) := by decide +kernel
theorem dX0_init_24 : decode cX0_init 24 = .ok (.iastore, 1) := by decide +kernel
theorem dX0_init_25 : decode cX0_init 25 = .ok (.putfield 15, 3) := by decide +kernel
theorem dX0_init_28 : decode cX0_init 28 = .ok (.aload_n 0, 1) := by decide +kernel
theorem dX0_init_29 : decode cX0_init 29 = .ok (.iconst 3, 1) := by decide +kernel
theorem dX0_init_30 : decode cX0_init 30 = .ok (.newarray .int, 2) := by decide +kernel
theorem dX0_init_32 : decode cX0_init 32 = .ok (.dup, 1) := by decide +kernel
theorem dX0_init_33 : decode cX0_init 33 = .ok (.iconst 0, 1) := by decide +kernel
theorem dX0_init_34 : decode cX0_init 34 = .ok (.bipush 9, 2) := by decide +kernel
theorem dX0_init_36 : decode cX0_init 36 = .ok (.iastore, 1) := by decide +kernel
theorem dX0_init_37 : decode cX0_init 37 = .ok (.dup, 1) := by decide +kernel
theorem dX0_init_38 : decode cX0_init 38 = .ok (.iconst 1, 1) := by decide +kernel
theorem dX0_init_39 : decode cX0_init 39 = .ok (.bipush 9, 2) := by decide +kernel
theorem dX0_init_41 : decode cX0_init 41 = .ok (.iastore, 1) := by decide +kernel
theorem dX0_init_42 : decode cX0_init 42 = .ok (.dup, 1) := by decide +kernel
theorem dX0_init_43 : decode cX0_init 43 = .ok (.iconst 2, 1) := by decide +kernel
theorem dX0_init_44 : decode cX0_init 44 = .ok (.sipush 9999, 3) := by decide +kernel
theorem dX0_init_47 : decode cX0_init 47 = .ok (.iastore, 1) := by decide +kernel
theorem dX0_init_48 : decode cX0_init 48 = .ok (.putfield 19, 3) := by decide +kernel
theorem dX0_init_51 : decode cX0_init 51 = .ok (.aload_n 0, 1) := by decide +kernel
theorem dX0_init_52 : decode cX0_init 52 = .ok (.iconst 3, 1) := by decide +kernel
theorem dX0_init_53 : decode cX0_init 53 = .ok (.newarray .int, 2) := by decide +kernel
theorem dX0_init_55 : decode cX0_init 55 = .ok (.dup, 1) := by decide +kernel
theorem dX0_init_56 : decode cX0_init 56 = .ok (.iconst 0, 1) := by decide +kernel
theorem dX0_init_57 : decode cX0_init 57 = .ok (.iconst 0, 1) := by decide +kernel
theorem dX0_init_58 : decode cX0_init 58 = .ok (.iastore, 1) := by decide +kernel
theorem dX0_init_59 : decode cX0_init 59 = .ok (.dup, 1) := by decide +kernel
theorem dX0_init_60 : decode cX0_init 60 = .ok (.iconst 1, 1) := by decide +kernel
theorem dX0_init_61 : decode cX0_init 61 = .ok (.iconst 1, 1) := by decide +kernel
theorem dX0_init_62 : decode cX0_init 62 = .ok (.iastore, 1) := by decide +kernel
theorem dX0_init_63 : decode cX0_init 63 = .ok (.dup, 1) := by decide +kernel
theorem dX0_init_64 : decode cX0_init 64 = .ok (.iconst 2, 1) := by decide +kernel
theorem dX0_init_65 : decode cX0_init 65 = .ok (.iconst 0, 1) := by decide +kernel
theorem dX0_init_66 : decode cX0_init 66 = .ok (.iastore, 1) := by decide +kernel
theorem dX0_init_67 : decode cX0_init 67 = .ok (.putfield 22, 3) := by decide +kernel
theorem dX0_init_70 : decode cX0_init 70 = .ok (.aload_n 0, 1) := by decide +kernel
theorem dX0_init_71 : decode cX0_init 71 = .ok (.bipush 100, 2) := by decide +kernel
theorem dX0_init_73 : decode cX0_init 73 = .ok (.newarray .int, 2) := by decide +kernel
theorem dX0_init_75 : decode cX0_init 75 = .ok (.putfield 25, 3) := by decide +kernel
theorem dX0_init_78 : decode cX0_init 78 = .ok (.aload_n 0, 1) := by decide +kernel
theorem dX0_init_79 : decode cX0_init 79 = .ok (.iconst 0, 1) := by decide +kernel
theorem dX0_init_80 : decode cX0_init 80 = .ok (.putfield 28, 3) := by decide +kernel
theorem dX0_init_83 : decode cX0_init 83 = .ok (.aload_n 0, 1) := by decide +kernel
theorem dX0_init_84 : decode cX0_init 84 = .ok (.iconst 0, 1) := by decide +kernel
theorem dX0_init_85 : decode cX0_init 85 = .ok (.putfield 31, 3) := by decide +kernel
theorem dX0_init_88 : decode cX0_init 88 = .ok (.return_, 1) := by decide +kernel
theorem dX0_isRange_0 : decode cX0_isRange 0 = .ok (.iload_n 0, 1) := by decide +kernel
theorem dX0_isRange_1 : decode cX0_isRange 1 = .ok (.ifCond .lt 30, 3) := by decide +kernel
theorem dX0_isRange_4 : decode cX0_isRange 4 = .ok (.iload_n 0, 1) := by decide +kernel
theorem dX0_isRange_5 : decode cX0_isRange 5 = .ok (.iconst 2, 1) := by decide +kernel
theorem dX0_isRange_6 : decode cX0_isRange 6 = .ok (.if_icmp .gt 25, 3) := by decide +kernel
theorem dX0_isRange_9 : decode cX0_isRange 9 = .ok (.iload_n 1, 1) := by decide +kernel
theorem dX0_isRange_10 : decode cX0_isRange 10 = .ok (.ifCond .lt 21, 3) := by decide +kernel
theorem dX0_isRange_13 : decode cX0_isRange 13 = .ok (.iload_n 1, 1) := by decide +kernel
theorem dX0_isRange_14 : decode cX0_isRange 14 = .ok (.iload_n 2, 1) := by decide +kernel
theorem dX0_isRange_15 : decode cX0_isRange 15 = .ok (.if_icmp .gt 16, 3) := by decide +kernel
theorem dX0_isRange_18 : decode cX0_isRange 18 = .ok (.iload_n 2, 1) := by decide +kernel
theorem dX0_isRange_19 : decode cX0_isRange 19 = .ok (.getstatic 34, 3) := by decide +kernel
theorem dX0_isRange_22 : decode cX0_isRange 22 = .ok (.iload_n 0, 1) := by decide +kernel
theorem dX0_isRange_23 : decode cX0_isRange 23 = .ok (.iaload, 1) := by decide +kernel
theorem dX0_isRange_24 : decode cX0_isRange 24 = .ok (.if_icmp .gt 7, 3) := by decide +kernel
theorem dX0_isRange_27 : decode cX0_isRange 27 = .ok (.iconst 1, 1) := by decide +kernel
theorem dX0_isRange_28 : decode cX0_isRange 28 = .ok (.goto 4, 3) := by decide +kernel
theorem dX0_isRange_31 : decode cX0_isRange 31 = .ok (.iconst 0, 1) := by decide +kernel
theorem dX0_isRange_32 : decode cX0_isRange 32 = .ok (.ireturn, 1) := by decide +kernel
theorem dX0_isRule_0 : decode cX0_isRule 0 = .ok (.iload_n 0, 1) := by decide +kernel
theorem dX0_isRule_1 : decode cX0_isRule 1 = .ok (.ifCond .lt 30, 3) := by decide +kernel
theorem dX0_isRule_4 : decode cX0_isRule 4 = .ok (.iload_n 0, 1) := by decide +kernel
theorem dX0_isRule_5 : decode cX0_isRule 5 = .ok (.iconst 2, 1) := by decide +kernel
theorem dX0_isRule_6 : decode cX0_isRule 6 = .ok (.if_icmp .gt 25, 3) := by decide +kernel
theorem dX0_isRule_9 : decode cX0_isRule 9 = .ok (.iload_n 1, 1) := by decide +kernel
theorem dX0_isRule_10 : decode cX0_isRule 10 = .ok (.getstatic 37, 3) := by decide +kernel
theorem dX0_isRule_13 : decode cX0_isRule 13 = .ok (.iload_n 0, 1) := by decide +kernel
theorem dX0_isRule_14 : decode cX0_isRule 14 = .ok (.iaload, 1) := by decide +kernel
theorem dX0_isRule_15 : decode cX0_isRule 15 = .ok (.if_icmp .lt 16, 3) := by decide +kernel
theorem dX0_isRule_18 : decode cX0_isRule 18 = .ok (.iload_n 1, 1) := by decide +kernel
theorem dX0_isRule_19 : decode cX0_isRule 19 = .ok (.getstatic 40, 3) := by decide +kernel
theorem dX0_isRule_22 : decode cX0_isRule 22 = .ok (.iload_n 0, 1) := by decide +kernel
theorem dX0_isRule_23 : decode cX0_isRule 23 = .ok (.iaload, 1) := by decide +kernel
theorem dX0_isRule_24 : decode cX0_isRule 24 = .ok (.if_icmp .gt 7, 3) := by decide +kernel
theorem dX0_isRule_27 : decode cX0_isRule 27 = .ok (.iconst 1, 1) := by decide +kernel
theorem dX0_isRule_28 : decode cX0_isRule 28 = .ok (.goto 4, 3) := by decide +kernel
theorem dX0_isRule_31 : decode cX0_isRule 31 = .ok (.iconst 0, 1) := by decide +kernel
theorem dX0_isRule_32 : decode cX0_isRule 32 = .ok (.ireturn, 1) := by decide +kernel
set_option maxRecDepth 20000 in
theorem ggX0_open_X0_countAnew : GoodIn wsX0_open wsX0_countAnew := goodIn_r _ [6, 7, 8, 9, 10, 11, 12, 13, 5, 14, 15, 16, 17, 18, 19, 20, 21, 22, 23, 1, 24, 25, 26, 27, 28, 29, 30, 31, 32, 33, 34, 35, 36, 37, 38] (by decide +kernel) (by decide +kernel)
set_option maxRecDepth 20000 in
theorem gX0_open_X0_countAnew : GoodIn wsX0_open (wsV RX0 43 RX0 yX0_countAnew wsX0_countAnew) := goodIn_app (goodIn_of _ (by decide +kernel)) ggX0_open_X0_countAnew
theorem dX0_open_0 : decode cX0_open 0 = .ok (.aload_n 0, 1) := by decide +kernel
theorem dX0_open_1 : decode cX0_open 1 = .ok (.iload_n 1, 1) := by decide +kernel
theorem dX0_open_2 : decode cX0_open 2 = .ok (.putfield 11, 3) := by decide +kernel
theorem dX0_open_5 : decode cX0_open 5 = .ok (.aload_n 0, 1) := by decide +kernel
theorem dX0_open_6 : decode cX0_open 6 = .ok (.invokevirtual 43, 3) := by decide +kernel
theorem dX0_open_9 : decode cX0_open 9 = .ok (.return_, 1) := by decide +kernel
set_option maxRecDepth 20000 in
theorem ggX0_setRange_X0_countAnew : GoodIn wsX0_setRange wsX0_countAnew := goodIn_r _ [7, 8, 1, 2, 9, 10, 11, 12, 6, 13, 14, 15, 16, 17, 18, 19, 20, 21, 22, 23, 24, 25, 26, 27, 28, 29, 30, 31, 32, 33, 34, 35, 36, 37, 38] (by decide +kernel) (by decide +kernel)
set_option maxRecDepth 20000 in
theorem gX0_setRange_X0_countAnew : GoodIn wsX0_setRange (wsV RX0 43 RX0 yX0_countAnew wsX0_countAnew) := goodIn_app (goodIn_of _ (by decide +kernel)) ggX0_setRange_X0_countAnew
theorem dX0_setRange_0 : decode cX0_setRange 0 = .ok (.aload_n 0, 1) := by decide +kernel
theorem dX0_setRange_1 : decode cX0_setRange 1 = .ok (.getfield 15, 3) := by decide +kernel
theorem dX0_setRange_4 : decode cX0_setRange 4 = .ok (.iload_n 1, 1) := by decide +kernel
theorem dX0_setRange_5 : decode cX0_setRange 5 = .ok (.iload_n 2, 1) := by decide +kernel
theorem dX0_setRange_6 : decode cX0_setRange 6 = .ok (.iastore, 1) := by decide +kernel
theorem dX0_setRange_7 : decode cX0_setRange 7 = .ok (.aload_n 0, 1) := by decide +kernel
theorem dX0_setRange_8 : decode cX0_setRange 8 = .ok (.getfield 19, 3) := by decide +kernel
theorem dX0_setRange_11 : decode cX0_setRange 11 = .ok (.iload_n 1, 1) := by decide +kernel
theorem dX0_setRange_12 : decode cX0_setRange 12 = .ok (.iload_n 3, 1) := by decide +kernel
theorem dX0_setRange_13 : decode cX0_setRange 13 = .ok (.iastore, 1) := by decide +kernel
theorem dX0_setRange_14 : decode cX0_setRange 14 = .ok (.aload_n 0, 1) := by decide +kernel
theorem dX0_setRange_15 : decode cX0_setRange 15 = .ok (.invokevirtual 43, 3) := by decide +kernel
theorem dX0_setRange_18 : decode cX0_setRange 18 = .ok (.return_, 1) := by decide +kernel
set_option maxRecDepth 20000 in
theorem ggX0_setRule_X0_countAnew : GoodIn wsX0_setRule wsX0_countAnew := goodIn_r _ [6, 7, 8, 9, 10, 11, 12, 13, 5, 14, 15, 16, 17, 18, 1, 19, 20, 21, 22, 23, 24, 25, 26, 27, 28, 29, 30, 31, 32, 33, 34, 35, 36, 37, 38] (by decide +kernel) (by decide +kernel)
set_option maxRecDepth 20000 in
theorem gX0_setRule_X0_countAnew : GoodIn wsX0_setRule (wsV RX0 43 RX0 yX0_countAnew wsX0_countAnew) := goodIn_app (goodIn_of _ (by decide +kernel)) ggX0_setRule_X0_countAnew
theorem dX0_setRule_0 : decode cX0_setRule 0 = .ok (.aload_n 0, 1) := by decide +kernel
theorem dX0_setRule_1 : decode cX0_setRule 1 = .ok (.getfield 22, 3) := by decide +kernel
theorem dX0_setRule_4 : decode cX0_setRule 4 = .ok (.iload_n 1, 1) := by decide +kernel
theorem dX0_setRule_5 : decode cX0_setRule 5 = .ok (.iaload, 1) := by decide +kernel
theorem dX0_setRule_6 : decode cX0_setRule 6 = .ok (.istore_n 3, 1) := by decide +kernel
theorem dX0_setRule_7 : decode cX0_setRule 7 = .ok (.aload_n 0, 1) := by decide +kernel
theorem dX0_setRule_8 : decode cX0_setRule 8 = .ok (.getfield 22, 3) := by decide +kernel
theorem dX0_setRule_11 : decode cX0_setRule 11 = .ok (.iload_n 1, 1) := by decide +kernel
theorem dX0_setRule_12 : decode cX0_setRule 12 = .ok (.iload_n 2, 1) := by decide +kernel
theorem dX0_setRule_13 : decode cX0_setRule 13 = .ok (.iastore, 1) := by decide +kernel
theorem dX0_setRule_14 : decode cX0_setRule 14 = .ok (.iload_n 1, 1) := by decide +kernel
theorem dX0_setRule_15 : decode cX0_setRule 15 = .ok (.ifCond .ne 12, 3) := by decide +kernel
theorem dX0_setRule_18 : decode cX0_setRule 18 = .ok (.iload_n 2, 1) := by decide +kernel
theorem dX0_setRule_19 : decode cX0_setRule 19 = .ok (.iload_n 3, 1) := by decide +kernel
theorem dX0_setRule_20 : decode cX0_setRule 20 = .ok (.if_icmp .eq 7, 3) := by decide +kernel
theorem dX0_setRule_23 : decode cX0_setRule 23 = .ok (.aload_n 0, 1) := by decide +kernel
theorem dX0_setRule_24 : decode cX0_setRule 24 = .ok (.invokevirtual 43, 3) := by decide +kernel
theorem dX0_setRule_27 : decode cX0_setRule 27 = .ok (.iload_n 3, 1) := by decide +kernel
theorem dX0_setRule_28 : decode cX0_setRule 28 = .ok (.ireturn, 1) := by decide +kernel
theorem dX0_size_0 : decode cX0_size 0 = .ok (.aload_n 0, 1) := by decide +kernel
theorem dX0_size_1 : decode cX0_size 1 = .ok (.getfield 28, 3) := by decide +kernel
theorem dX0_size_4 : decode cX0_size 4 = .ok (.ireturn, 1) := by decide +kernel
theorem dX0_linesTaken_0 : decode cX0_linesTaken 0 = .ok (.aload_n 0, 1) := by decide +kernel
theorem dX0_linesTaken_1 : decode cX0_linesTaken 1 = .ok (.getfield 22, 3) := by decide +kernel
theorem dX0_linesTaken_4 : decode cX0_linesTaken 4 = .ok (.iconst 1, 1) := by decide +kernel
theorem dX0_linesTaken_5 : decode cX0_linesTaken 5 = .ok (.iaload, 1) := by decide +kernel
theorem dX0_linesTaken_6 : decode cX0_linesTaken 6 = .ok (.ireturn, 1) := by decide +kernel
set_option maxRecDepth 20000 in
theorem ggX0_countAnew_X0_countBelow : GoodIn wsX0_countAnew wsX0_countBelow := goodIn_r _ [9, 2, 10, 11, 12, 8, 13, 3, 14, 15, 16, 17, 18, 19, 20, 21, 22, 23, 24, 25, 26, 27, 28, 29, 30, 31, 32, 33, 34] (by decide +kernel) (by decide +kernel)
set_option maxRecDepth 20000 in
theorem gX0_countAnew_X0_countBelow : GoodIn wsX0_countAnew (wsV RX0 46 RX0 yX0_countBelow wsX0_countBelow) := goodIn_app (goodIn_of _ (by decide +kernel)) ggX0_countAnew_X0_countBelow
theorem dX0_countAnew_0 : decode cX0_countAnew 0 = .ok (.aload_n 0, 1) := by decide +kernel
theorem dX0_countAnew_1 : decode cX0_countAnew 1 = .ok (.iconst 0, 1) := by decide +kernel
theorem dX0_countAnew_2 : decode cX0_countAnew 2 = .ok (.putfield 28, 3) := by decide +kernel
theorem dX0_countAnew_5 : decode cX0_countAnew 5 = .ok (.aload_n 0, 1) := by decide +kernel
theorem dX0_countAnew_6 : decode cX0_countAnew 6 = .ok (.getfield 15, 3) := by decide +kernel
theorem dX0_countAnew_9 : decode cX0_countAnew 9 = .ok (.iconst 0, 1) := by decide +kernel
theorem dX0_countAnew_10 : decode cX0_countAnew 10 = .ok (.iaload, 1) := by decide +kernel
theorem dX0_countAnew_11 : decode cX0_countAnew 11 = .ok (.istore_n 1, 1) := by decide +kernel
theorem dX0_countAnew_12 : decode cX0_countAnew 12 = .ok (.iload_n 1, 1) := by decide +kernel
theorem dX0_countAnew_13 : decode cX0_countAnew 13 = .ok (.aload_n 0, 1) := by decide +kernel
theorem dX0_countAnew_14 : decode cX0_countAnew 14 = .ok (.getfield 19, 3) := by decide +kernel
theorem dX0_countAnew_17 : decode cX0_countAnew 17 = .ok (.iconst 0, 1) := by decide +kernel
theorem dX0_countAnew_18 : decode cX0_countAnew 18 = .ok (.iaload, 1) := by decide +kernel
theorem dX0_countAnew_19 : decode cX0_countAnew 19 = .ok (.if_icmp .gt 41, 3) := by decide +kernel
theorem dX0_countAnew_22 : decode cX0_countAnew 22 = .ok (.aload_n 0, 1) := by decide +kernel
theorem dX0_countAnew_23 : decode cX0_countAnew 23 = .ok (.getfield 25, 3) := by decide +kernel
theorem dX0_countAnew_26 : decode cX0_countAnew 26 = .ok (.iload_n 1, 1) := by decide +kernel
theorem dX0_countAnew_27 : decode cX0_countAnew 27 = .ok (.aload_n 0, 1) := by decide +kernel
theorem dX0_countAnew_28 : decode cX0_countAnew 28 = .ok (.getfield 28, 3) := by decide +kernel
theorem dX0_countAnew_31 : decode cX0_countAnew 31 = .ok (.iastore, 1) := by decide +kernel
theorem dX0_countAnew_32 : decode cX0_countAnew 32 = .ok (.aload_n 0, 1) := by decide +kernel
theorem dX0_countAnew_33 : decode cX0_countAnew 33 = .ok (.dup, 1) := by decide +kernel
theorem dX0_countAnew_34 : decode cX0_countAnew 34 = .ok (.getfield 28, 3) := by decide +kernel
theorem dX0_countAnew_37 : decode cX0_countAnew 37 = .ok (.aload_n 0, 1) := by decide +kernel
theorem dX0_countAnew_38 : decode cX0_countAnew 38 = .ok (.iload_n 1, 1) := by decide +kernel
theorem dX0_countAnew_39 : decode cX0_countAnew 39 = .ok (.aload_n 0, 1) := by decide +kernel
theorem dX0_countAnew_40 : decode cX0_countAnew 40 = .ok (.getfield 19, 3) := by decide +kernel
theorem dX0_countAnew_43 : decode cX0_countAnew 43 = .ok (.iconst 1, 1) := by decide +kernel
theorem dX0_countAnew_44 : decode cX0_countAnew 44 = .ok (.iaload, 1) := by decide +kernel
theorem dX0_countAnew_45 : decode cX0_countAnew 45 = .ok (.iconst 1, 1) := by decide +kernel
theorem dX0_countAnew_46 : decode cX0_countAnew 46 = .ok (.iadd, 1) := by decide +kernel
theorem dX0_countAnew_47 : decode cX0_countAnew 47 = .ok (.invokevirtual 46, 3) := by decide +kernel
theorem dX0_countAnew_50 : decode cX0_countAnew 50 = .ok (.iadd, 1) := by decide +kernel
theorem dX0_countAnew_51 : decode cX0_countAnew 51 = .ok (.putfield 28, 3) := by decide +kernel
theorem dX0_countAnew_54 : decode cX0_countAnew 54 = .ok (.iinc 1 1, 3) := by decide +kernel
theorem dX0_countAnew_57 : decode cX0_countAnew 57 = .ok (.goto (-45), 3) := by decide +kernel
theorem dX0_countAnew_60 : decode cX0_countAnew 60 = .ok (.return_, 1) := by decide +kernel
set_option maxRecDepth 20000 in
theorem ggX0_countBelow_X0_isLawful : GoodIn wsX0_countBelow wsX0_isLawful := goodIn_r _ [6, 1, 7, 8, 9, 10, 11, 5, 12, 13, 14, 15, 16, 17, 18, 19, 20, 21, 22, 23, 24, 25, 26, 27, 28] (by decide +kernel) (by decide +kernel)
set_option maxRecDepth 20000 in
theorem gX0_countBelow_X0_isLawful : GoodIn wsX0_countBelow (wsV RX0 50 RX0 yX0_isLawful wsX0_isLawful) := goodIn_app (goodIn_of _ (by decide +kernel)) ggX0_countBelow_X0_isLawful
theorem dX0_countBelow_0 : decode cX0_countBelow 0 = .ok (.iconst 0, 1) := by decide +kernel
theorem dX0_countBelow_1 : decode cX0_countBelow 1 = .ok (.istore_n 3, 1) := by decide +kernel
theorem dX0_countBelow_2 : decode cX0_countBelow 2 = .ok (.aload_n 0, 1) := by decide +kernel
theorem dX0_countBelow_3 : decode cX0_countBelow 3 = .ok (.getfield 15, 3) := by decide +kernel
theorem dX0_countBelow_6 : decode cX0_countBelow 6 = .ok (.iconst 1, 1) := by decide +kernel
theorem dX0_countBelow_7 : decode cX0_countBelow 7 = .ok (.iaload, 1) := by decide +kernel
theorem dX0_countBelow_8 : decode cX0_countBelow 8 = .ok (.istore 4, 2) := by decide +kernel
theorem dX0_countBelow_10 : decode cX0_countBelow 10 = .ok (.iload 4, 2) := by decide +kernel
theorem dX0_countBelow_12 : decode cX0_countBelow 12 = .ok (.iload_n 2, 1) := by decide +kernel
theorem dX0_countBelow_13 : decode cX0_countBelow 13 = .ok (.if_icmp .ge 22, 3) := by decide +kernel
theorem dX0_countBelow_16 : decode cX0_countBelow 16 = .ok (.aload_n 0, 1) := by decide +kernel
theorem dX0_countBelow_17 : decode cX0_countBelow 17 = .ok (.iload_n 1, 1) := by decide +kernel
theorem dX0_countBelow_18 : decode cX0_countBelow 18 = .ok (.iload 4, 2) := by decide +kernel
theorem dX0_countBelow_20 : decode cX0_countBelow 20 = .ok (.invokevirtual 50, 3) := by decide +kernel
theorem dX0_countBelow_23 : decode cX0_countBelow 23 = .ok (.ifCond .eq 6, 3) := by decide +kernel
theorem dX0_countBelow_26 : decode cX0_countBelow 26 = .ok (.iinc 3 1, 3) := by decide +kernel
theorem dX0_countBelow_29 : decode cX0_countBelow 29 = .ok (.iinc 4 1, 3) := by decide +kernel
theorem dX0_countBelow_32 : decode cX0_countBelow 32 = .ok (.goto (-22), 3) := by decide +kernel
theorem dX0_countBelow_35 : decode cX0_countBelow 35 = .ok (.iload_n 3, 1) := by decide +kernel
theorem dX0_countBelow_36 : decode cX0_countBelow 36 = .ok (.ireturn, 1) := by decide +kernel
set_option maxRecDepth 20000 in
theorem ggX0_pairAt_X0_isLawful : GoodIn wsX0_pairAt wsX0_isLawful := goodIn_r _ [8, 1, 2, 9, 10, 11, 12, 7, 13, 14, 15, 16, 17, 18, 19, 20, 21, 22, 23, 24, 25, 26, 27, 28, 29] (by decide +kernel) (by decide +kernel)
set_option maxRecDepth 20000 in
theorem gX0_pairAt_X0_isLawful : GoodIn wsX0_pairAt (wsV RX0 50 RX0 yX0_isLawful wsX0_isLawful) := goodIn_app (goodIn_of _ (by decide +kernel)) ggX0_pairAt_X0_isLawful
theorem dX0_pairAt_0 : decode cX0_pairAt 0 = .ok (.aload_n 0, 1) := by decide +kernel
theorem dX0_pairAt_1 : decode cX0_pairAt 1 = .ok (.getfield 15, 3) := by decide +kernel
theorem dX0_pairAt_4 : decode cX0_pairAt 4 = .ok (.iconst 0, 1) := by decide +kernel
theorem dX0_pairAt_5 : decode cX0_pairAt 5 = .ok (.iaload, 1) := by decide +kernel
theorem dX0_pairAt_6 : decode cX0_pairAt 6 = .ok (.istore_n 2, 1) := by decide +kernel
theorem dX0_pairAt_7 : decode cX0_pairAt 7 = .ok (.iload_n 2, 1) := by decide +kernel
theorem dX0_pairAt_8 : decode cX0_pairAt 8 = .ok (.aload_n 0, 1) := by decide +kernel
theorem dX0_pairAt_9 : decode cX0_pairAt 9 = .ok (.getfield 19, 3) := by decide +kernel
theorem dX0_pairAt_12 : decode cX0_pairAt 12 = .ok (.iconst 0, 1) := by decide +kernel
theorem dX0_pairAt_13 : decode cX0_pairAt 13 = .ok (.iaload, 1) := by decide +kernel
theorem dX0_pairAt_14 : decode cX0_pairAt 14 = .ok (.if_icmp .ge 21, 3) := by decide +kernel
theorem dX0_pairAt_17 : decode cX0_pairAt 17 = .ok (.aload_n 0, 1) := by decide +kernel
theorem dX0_pairAt_18 : decode cX0_pairAt 18 = .ok (.getfield 25, 3) := by decide +kernel
theorem dX0_pairAt_21 : decode cX0_pairAt 21 = .ok (.iload_n 2, 1) := by decide +kernel
theorem dX0_pairAt_22 : decode cX0_pairAt 22 = .ok (.iconst 1, 1) := by decide +kernel
theorem dX0_pairAt_23 : decode cX0_pairAt 23 = .ok (.iadd, 1) := by decide +kernel
theorem dX0_pairAt_24 : decode cX0_pairAt 24 = .ok (.iaload, 1) := by decide +kernel
theorem dX0_pairAt_25 : decode cX0_pairAt 25 = .ok (.iload_n 1, 1) := by decide +kernel
theorem dX0_pairAt_26 : decode cX0_pairAt 26 = .ok (.if_icmp .gt 9, 3) := by decide +kernel
theorem dX0_pairAt_29 : decode cX0_pairAt 29 = .ok (.iinc 2 1, 3) := by decide +kernel
theorem dX0_pairAt_32 : decode cX0_pairAt 32 = .ok (.goto (-25), 3) := by decide +kernel
theorem dX0_pairAt_35 : decode cX0_pairAt 35 = .ok (.iload_n 1, 1) := by decide +kernel
theorem dX0_pairAt_36 : decode cX0_pairAt 36 = .ok (.aload_n 0, 1) := by decide +kernel
theorem dX0_pairAt_37 : decode cX0_pairAt 37 = .ok (.getfield 25, 3) := by decide +kernel
theorem dX0_pairAt_40 : decode cX0_pairAt 40 = .ok (.iload_n 2, 1) := by decide +kernel
theorem dX0_pairAt_41 : decode cX0_pairAt 41 = .ok (.iaload, 1) := by decide +kernel
theorem dX0_pairAt_42 : decode cX0_pairAt 42 = .ok (.isub, 1) := by decide +kernel
theorem dX0_pairAt_43 : decode cX0_pairAt 43 = .ok (.istore_n 3, 1) := by decide +kernel
theorem dX0_pairAt_44 : decode cX0_pairAt 44 = .ok (.aload_n 0, 1) := by decide +kernel
theorem dX0_pairAt_45 : decode cX0_pairAt 45 = .ok (.getfield 15, 3) := by decide +kernel
theorem dX0_pairAt_48 : decode cX0_pairAt 48 = .ok (.iconst 1, 1) := by decide +kernel
theorem dX0_pairAt_49 : decode cX0_pairAt 49 = .ok (.iaload, 1) := by decide +kernel
theorem dX0_pairAt_50 : decode cX0_pairAt 50 = .ok (.istore 4, 2) := by decide +kernel
theorem dX0_pairAt_52 : decode cX0_pairAt 52 = .ok (.iload 4, 2) := by decide +kernel
theorem dX0_pairAt_54 : decode cX0_pairAt 54 = .ok (.aload_n 0, 1) := by decide +kernel
theorem dX0_pairAt_55 : decode cX0_pairAt 55 = .ok (.getfield 19, 3) := by decide +kernel
theorem dX0_pairAt_58 : decode cX0_pairAt 58 = .ok (.iconst 1, 1) := by decide +kernel
theorem dX0_pairAt_59 : decode cX0_pairAt 59 = .ok (.iaload, 1) := by decide +kernel
theorem dX0_pairAt_60 : decode cX0_pairAt 60 = .ok (.if_icmp .ge 29, 3) := by decide +kernel
theorem dX0_pairAt_63 : decode cX0_pairAt 63 = .ok (.aload_n 0, 1) := by decide +kernel
theorem dX0_pairAt_64 : decode cX0_pairAt 64 = .ok (.iload_n 2, 1) := by decide +kernel
theorem dX0_pairAt_65 : decode cX0_pairAt 65 = .ok (.iload 4, 2) := by decide +kernel
theorem dX0_pairAt_67 : decode cX0_pairAt 67 = .ok (.invokevirtual 50, 3) := by decide +kernel
theorem dX0_pairAt_70 : decode cX0_pairAt 70 = .ok (.ifCond .eq 13, 3) := by decide +kernel
theorem dX0_pairAt_73 : decode cX0_pairAt 73 = .ok (.iload_n 3, 1) := by decide +kernel
theorem dX0_pairAt_74 : decode cX0_pairAt 74 = .ok (.ifCond .ne 6, 3) := by decide +kernel
theorem dX0_pairAt_77 : decode cX0_pairAt 77 = .ok (.goto 12, 3) := by decide +kernel
theorem dX0_pairAt_80 : decode cX0_pairAt 80 = .ok (.iinc 3 (-1), 3) := by decide +kernel
theorem dX0_pairAt_83 : decode cX0_pairAt 83 = .ok (.iinc 4 1, 3) := by decide +kernel
theorem dX0_pairAt_86 : decode cX0_pairAt 86 = .ok (.goto (-34), 3) := by decide +kernel
theorem dX0_pairAt_89 : decode cX0_pairAt 89 = .ok (.iload_n 2, 1) := by decide +kernel
theorem dX0_pairAt_90 : decode cX0_pairAt 90 = .ok (.bipush 100, 2) := by decide +kernel
theorem dX0_pairAt_92 : decode cX0_pairAt 92 = .ok (.imul, 1) := by decide +kernel
theorem dX0_pairAt_93 : decode cX0_pairAt 93 = .ok (.iload 4, 2) := by decide +kernel
theorem dX0_pairAt_95 : decode cX0_pairAt 95 = .ok (.iadd, 1) := by decide +kernel
theorem dX0_pairAt_96 : decode cX0_pairAt 96 = .ok (.ireturn, 1) := by decide +kernel
set_option maxRecDepth 20000 in
theorem ggX0_numberOf_X0_isLawful : GoodIn wsX0_numberOf wsX0_isLawful := goodIn_r _ [8, 1, 2, 9, 10, 11, 12, 7, 13, 14, 15, 16, 17, 18, 19, 20, 21, 22, 27, 28, 29, 30, 31, 32, 33] (by decide +kernel) (by decide +kernel)
set_option maxRecDepth 20000 in
theorem gX0_numberOf_X0_isLawful : GoodIn wsX0_numberOf (wsV RX0 50 RX0 yX0_isLawful wsX0_isLawful) := goodIn_app (goodIn_of _ (by decide +kernel)) ggX0_numberOf_X0_isLawful
set_option maxRecDepth 20000 in
theorem ggX0_numberOf_X0_countBelow : GoodIn wsX0_numberOf wsX0_countBelow := goodIn_r _ [26, 1, 4, 5, 6, 7, 8, 2, 9, 10, 11, 12, 13, 14, 15, 16, 17, 18, 19, 20, 21, 22, 27, 28, 29, 30, 31, 32, 33] (by decide +kernel) (by decide +kernel)
set_option maxRecDepth 20000 in
theorem gX0_numberOf_X0_countBelow : GoodIn wsX0_numberOf (wsV RX0 46 RX0 yX0_countBelow wsX0_countBelow) := goodIn_app (goodIn_of _ (by decide +kernel)) ggX0_numberOf_X0_countBelow
theorem dX0_numberOf_0 : decode cX0_numberOf 0 = .ok (.iload_n 1, 1) := by decide +kernel
theorem dX0_numberOf_1 : decode cX0_numberOf 1 = .ok (.aload_n 0, 1) := by decide +kernel
theorem dX0_numberOf_2 : decode cX0_numberOf 2 = .ok (.getfield 15, 3) := by decide +kernel
theorem dX0_numberOf_5 : decode cX0_numberOf 5 = .ok (.iconst 0, 1) := by decide +kernel
theorem dX0_numberOf_6 : decode cX0_numberOf 6 = .ok (.iaload, 1) := by decide +kernel
theorem dX0_numberOf_7 : decode cX0_numberOf 7 = .ok (.if_icmp .lt 37, 3) := by decide +kernel
theorem dX0_numberOf_10 : decode cX0_numberOf 10 = .ok (.iload_n 1, 1) := by decide +kernel
theorem dX0_numberOf_11 : decode cX0_numberOf 11 = .ok (.aload_n 0, 1) := by decide +kernel
theorem dX0_numberOf_12 : decode cX0_numberOf 12 = .ok (.getfield 19, 3) := by decide +kernel
theorem dX0_numberOf_15 : decode cX0_numberOf 15 = .ok (.iconst 0, 1) := by decide +kernel
theorem dX0_numberOf_16 : decode cX0_numberOf 16 = .ok (.iaload, 1) := by decide +kernel
theorem dX0_numberOf_17 : decode cX0_numberOf 17 = .ok (.if_icmp .gt 27, 3) := by decide +kernel
theorem dX0_numberOf_20 : decode cX0_numberOf 20 = .ok (.iload_n 2, 1) := by decide +kernel
theorem dX0_numberOf_21 : decode cX0_numberOf 21 = .ok (.aload_n 0, 1) := by decide +kernel
theorem dX0_numberOf_22 : decode cX0_numberOf 22 = .ok (.getfield 15, 3) := by decide +kernel
theorem dX0_numberOf_25 : decode cX0_numberOf 25 = .ok (.iconst 1, 1) := by decide +kernel
theorem dX0_numberOf_26 : decode cX0_numberOf 26 = .ok (.iaload, 1) := by decide +kernel
theorem dX0_numberOf_27 : decode cX0_numberOf 27 = .ok (.if_icmp .lt 17, 3) := by decide +kernel
theorem dX0_numberOf_30 : decode cX0_numberOf 30 = .ok (.iload_n 2, 1) := by decide +kernel
theorem dX0_numberOf_31 : decode cX0_numberOf 31 = .ok (.aload_n 0, 1) := by decide +kernel
theorem dX0_numberOf_32 : decode cX0_numberOf 32 = .ok (.getfield 19, 3) := by decide +kernel
theorem dX0_numberOf_35 : decode cX0_numberOf 35 = .ok (.iconst 1, 1) := by decide +kernel
theorem dX0_numberOf_36 : decode cX0_numberOf 36 = .ok (.iaload, 1) := by decide +kernel
theorem dX0_numberOf_37 : decode cX0_numberOf 37 = .ok (.if_icmp .gt 7, 3) := by decide +kernel
theorem dX0_numberOf_40 : decode cX0_numberOf 40 = .ok (.iconst 1, 1) := by decide +kernel
theorem dX0_numberOf_41 : decode cX0_numberOf 41 = .ok (.goto 4, 3) := by decide +kernel
theorem dX0_numberOf_44 : decode cX0_numberOf 44 = .ok (.iconst 0, 1) := by decide +kernel
theorem dX0_numberOf_45 : decode cX0_numberOf 45 = .ok (.istore_n 3, 1) := by decide +kernel
theorem dX0_numberOf_46 : decode cX0_numberOf 46 = .ok (.iload_n 3, 1) := by decide +kernel
theorem dX0_numberOf_47 : decode cX0_numberOf 47 = .ok (.ifCond .eq 28, 3) := by decide +kernel
theorem dX0_numberOf_50 : decode cX0_numberOf 50 = .ok (.aload_n 0, 1) := by decide +kernel
theorem dX0_numberOf_51 : decode cX0_numberOf 51 = .ok (.iload_n 1, 1) := by decide +kernel
theorem dX0_numberOf_52 : decode cX0_numberOf 52 = .ok (.iload_n 2, 1) := by decide +kernel
theorem dX0_numberOf_53 : decode cX0_numberOf 53 = .ok (.invokevirtual 50, 3) := by decide +kernel
theorem dX0_numberOf_56 : decode cX0_numberOf 56 = .ok (.ifCond .eq 19, 3) := by decide +kernel
theorem dX0_numberOf_59 : decode cX0_numberOf 59 = .ok (.aload_n 0, 1) := by decide +kernel
theorem dX0_numberOf_60 : decode cX0_numberOf 60 = .ok (.getfield 25, 3) := by decide +kernel
theorem dX0_numberOf_63 : decode cX0_numberOf 63 = .ok (.iload_n 1, 1) := by decide +kernel
theorem dX0_numberOf_64 : decode cX0_numberOf 64 = .ok (.iaload, 1) := by decide +kernel
theorem dX0_numberOf_65 : decode cX0_numberOf 65 = .ok (.aload_n 0, 1) := by decide +kernel
theorem dX0_numberOf_66 : decode cX0_numberOf 66 = .ok (.iload_n 1, 1) := by decide +kernel
theorem dX0_numberOf_67 : decode cX0_numberOf 67 = .ok (.iload_n 2, 1) := by decide +kernel
theorem dX0_numberOf_68 : decode cX0_numberOf 68 = .ok (.invokevirtual 46, 3) := by decide +kernel
theorem dX0_numberOf_71 : decode cX0_numberOf 71 = .ok (.iadd, 1) := by decide +kernel
theorem dX0_numberOf_72 : decode cX0_numberOf 72 = .ok (.goto 5, 3) := by decide +kernel
theorem dX0_numberOf_75 : decode cX0_numberOf 75 = .ok (.bipush (-9), 2) := by decide +kernel
theorem dX0_numberOf_77 : decode cX0_numberOf 77 = .ok (.ireturn, 1) := by decide +kernel
set_option maxRecDepth 20000 in
theorem ggX0_isLawful_X0_result : GoodIn wsX0_isLawful wsX0_result := goodIn_r _ [8, 9, 18, 19, 20, 21, 22, 23, 24] (by decide +kernel) (by decide +kernel)
set_option maxRecDepth 20000 in
theorem gX0_isLawful_X0_result : GoodIn wsX0_isLawful (wsV RX0 54 RX0 yX0_result wsX0_result) := goodIn_app (goodIn_of _ (by decide +kernel)) ggX0_isLawful_X0_result
set_option maxRecDepth 20000 in
theorem ggX0_isLawful_X0_carries : GoodIn wsX0_isLawful wsX0_carries := goodIn_r _ [13, 9, 18, 19, 20, 21, 22, 23, 24] (by decide +kernel) (by decide +kernel)
set_option maxRecDepth 20000 in
theorem gX0_isLawful_X0_carries : GoodIn wsX0_isLawful (wsV RX0 57 RX0 yX0_carries wsX0_carries) := goodIn_app (goodIn_of _ (by decide +kernel)) ggX0_isLawful_X0_carries
set_option maxRecDepth 20000 in
theorem ggX0_isLawful_X0_otherOperation : GoodIn wsX0_isLawful wsX0_otherOperation := goodIn_r _ [17, 9, 18, 19, 20, 21, 22, 23, 24] (by decide +kernel) (by decide +kernel)
set_option maxRecDepth 20000 in
theorem gX0_isLawful_X0_otherOperation : GoodIn wsX0_isLawful (wsV RX0 60 RX0 yX0_otherOperation wsX0_otherOperation) := goodIn_app (goodIn_of _ (by decide +kernel)) ggX0_isLawful_X0_otherOperation
theorem dX0_isLawful_0 : decode cX0_isLawful 0 = .ok (.aload_n 0, 1) := by decide +kernel
theorem dX0_isLawful_1 : decode cX0_isLawful 1 = .ok (.iload_n 1, 1) := by decide +kernel
theorem dX0_isLawful_2 : decode cX0_isLawful 2 = .ok (.iload_n 2, 1) := by decide +kernel
theorem dX0_isLawful_3 : decode cX0_isLawful 3 = .ok (.invokevirtual 54, 3) := by decide +kernel
theorem dX0_isLawful_6 : decode cX0_isLawful 6 = .ok (.istore_n 3, 1) := by decide +kernel
theorem dX0_isLawful_7 : decode cX0_isLawful 7 = .ok (.iload_n 3, 1) := by decide +kernel
theorem dX0_isLawful_8 : decode cX0_isLawful 8 = .ok (.aload_n 0, 1) := by decide +kernel
theorem dX0_isLawful_9 : decode cX0_isLawful 9 = .ok (.getfield 15, 3) := by decide +kernel
theorem dX0_isLawful_12 : decode cX0_isLawful 12 = .ok (.iconst 2, 1) := by decide +kernel
theorem dX0_isLawful_13 : decode cX0_isLawful 13 = .ok (.iaload, 1) := by decide +kernel
theorem dX0_isLawful_14 : decode cX0_isLawful 14 = .ok (.if_icmp .lt 13, 3) := by decide +kernel
theorem dX0_isLawful_17 : decode cX0_isLawful 17 = .ok (.iload_n 3, 1) := by decide +kernel
theorem dX0_isLawful_18 : decode cX0_isLawful 18 = .ok (.aload_n 0, 1) := by decide +kernel
theorem dX0_isLawful_19 : decode cX0_isLawful 19 = .ok (.getfield 19, 3) := by decide +kernel
theorem dX0_isLawful_22 : decode cX0_isLawful 22 = .ok (.iconst 2, 1) := by decide +kernel
theorem dX0_isLawful_23 : decode cX0_isLawful 23 = .ok (.iaload, 1) := by decide +kernel
theorem dX0_isLawful_24 : decode cX0_isLawful 24 = .ok (.if_icmp .le 5, 3) := by decide +kernel
theorem dX0_isLawful_27 : decode cX0_isLawful 27 = .ok (.iconst 0, 1) := by decide +kernel
theorem dX0_isLawful_28 : decode cX0_isLawful 28 = .ok (.ireturn, 1) := by decide +kernel
theorem dX0_isLawful_29 : decode cX0_isLawful 29 = .ok (.aload_n 0, 1) := by decide +kernel
theorem dX0_isLawful_30 : decode cX0_isLawful 30 = .ok (.getfield 22, 3) := by decide +kernel
theorem dX0_isLawful_33 : decode cX0_isLawful 33 = .ok (.iconst 0, 1) := by decide +kernel
theorem dX0_isLawful_34 : decode cX0_isLawful 34 = .ok (.iaload, 1) := by decide +kernel
theorem dX0_isLawful_35 : decode cX0_isLawful 35 = .ok (.tableswitch 63 1 3 #[25, 40, 47], 25) := by decide +kernel
theorem dX0_isLawful_60 : decode cX0_isLawful 60 = .ok (.aload_n 0, 1) := by decide +kernel
theorem dX0_isLawful_61 : decode cX0_isLawful 61 = .ok (.iload_n 1, 1) := by decide +kernel
theorem dX0_isLawful_62 : decode cX0_isLawful 62 = .ok (.iload_n 2, 1) := by decide +kernel
theorem dX0_isLawful_63 : decode cX0_isLawful 63 = .ok (.invokevirtual 57, 3) := by decide +kernel
theorem dX0_isLawful_66 : decode cX0_isLawful 66 = .ok (.ifCond .ne 7, 3) := by decide +kernel
theorem dX0_isLawful_69 : decode cX0_isLawful 69 = .ok (.iconst 1, 1) := by decide +kernel
theorem dX0_isLawful_70 : decode cX0_isLawful 70 = .ok (.goto 4, 3) := by decide +kernel
theorem dX0_isLawful_73 : decode cX0_isLawful 73 = .ok (.iconst 0, 1) := by decide +kernel
theorem dX0_isLawful_74 : decode cX0_isLawful 74 = .ok (.ireturn, 1) := by decide +kernel
theorem dX0_isLawful_75 : decode cX0_isLawful 75 = .ok (.aload_n 0, 1) := by decide +kernel
theorem dX0_isLawful_76 : decode cX0_isLawful 76 = .ok (.iload_n 1, 1) := by decide +kernel
theorem dX0_isLawful_77 : decode cX0_isLawful 77 = .ok (.iload_n 2, 1) := by decide +kernel
theorem dX0_isLawful_78 : decode cX0_isLawful 78 = .ok (.invokevirtual 57, 3) := by decide +kernel
theorem dX0_isLawful_81 : decode cX0_isLawful 81 = .ok (.ireturn, 1) := by decide +kernel
theorem dX0_isLawful_82 : decode cX0_isLawful 82 = .ok (.aload_n 0, 1) := by decide +kernel
theorem dX0_isLawful_83 : decode cX0_isLawful 83 = .ok (.iload_n 1, 1) := by decide +kernel
theorem dX0_isLawful_84 : decode cX0_isLawful 84 = .ok (.iload_n 2, 1) := by decide +kernel
theorem dX0_isLawful_85 : decode cX0_isLawful 85 = .ok (.invokevirtual 60, 3) := by decide +kernel
theorem dX0_isLawful_88 : decode cX0_isLawful 88 = .ok (.iload_n 3, 1) := by decide +kernel
theorem dX0_isLawful_89 : decode cX0_isLawful 89 = .ok (.if_icmp .eq 7, 3) := by decide +kernel
theorem dX0_isLawful_92 : decode cX0_isLawful 92 = .ok (.iconst 1, 1) := by decide +kernel
theorem dX0_isLawful_93 : decode cX0_isLawful 93 = .ok (.goto 4, 3) := by decide +kernel
theorem dX0_isLawful_96 : decode cX0_isLawful 96 = .ok (.iconst 0, 1) := by decide +kernel
theorem dX0_isLawful_97 : decode cX0_isLawful 97 = .ok (.ireturn, 1) := by decide +kernel
theorem dX0_isLawful_98 : decode cX0_isLawful 98 = .ok (.iconst 1, 1) := by decide +kernel
theorem dX0_isLawful_99 : decode cX0_isLawful 99 = .ok (.ireturn, 1) := by decide +kernel
theorem dX0_result_0 : decode cX0_result 0 = .ok (.aload_n 0, 1) := by decide +kernel
theorem dX0_result_1 : decode cX0_result 1 = .ok (.getfield 11, 3) := by decide +kernel
theorem dX0_result_4 : decode cX0_result 4 = .ok (.tableswitch 50 0 2 #[28, 32, 46], 28) := by decide +kernel
theorem dX0_result_32 : decode cX0_result 32 = .ok (.iload_n 1, 1) := by decide +kernel
theorem dX0_result_33 : decode cX0_result 33 = .ok (.iload_n 2, 1) := by decide +kernel
theorem dX0_result_34 : decode cX0_result 34 = .ok (.iadd, 1) := by decide +kernel
theorem dX0_result_35 : decode cX0_result 35 = .ok (.ireturn, 1) := by decide +kernel
theorem dX0_result_36 : decode cX0_result 36 = .ok (.iload_n 1, 1) := by decide +kernel
theorem dX0_result_37 : decode cX0_result 37 = .ok (.iload_n 2, 1) := by decide +kernel
theorem dX0_result_38 : decode cX0_result 38 = .ok (.if_icmp .lt 9, 3) := by decide +kernel
theorem dX0_result_41 : decode cX0_result 41 = .ok (.iload_n 1, 1) := by decide +kernel
theorem dX0_result_42 : decode cX0_result 42 = .ok (.iload_n 2, 1) := by decide +kernel
theorem dX0_result_43 : decode cX0_result 43 = .ok (.isub, 1) := by decide +kernel
theorem dX0_result_44 : decode cX0_result 44 = .ok (.goto 5, 3) := by decide +kernel
theorem dX0_result_47 : decode cX0_result 47 = .ok (.bipush (-9), 2) := by decide +kernel
theorem dX0_result_49 : decode cX0_result 49 = .ok (.ireturn, 1) := by decide +kernel
theorem dX0_result_50 : decode cX0_result 50 = .ok (.iload_n 1, 1) := by decide +kernel
theorem dX0_result_51 : decode cX0_result 51 = .ok (.iload_n 2, 1) := by decide +kernel
theorem dX0_result_52 : decode cX0_result 52 = .ok (.imul, 1) := by decide +kernel
theorem dX0_result_53 : decode cX0_result 53 = .ok (.ireturn, 1) := by decide +kernel
theorem dX0_result_54 : decode cX0_result 54 = .ok (.iload_n 2, 1) := by decide +kernel
theorem dX0_result_55 : decode cX0_result 55 = .ok (.ifCond .eq 15, 3) := by decide +kernel
theorem dX0_result_58 : decode cX0_result 58 = .ok (.iload_n 1, 1) := by decide +kernel
theorem dX0_result_59 : decode cX0_result 59 = .ok (.iload_n 2, 1) := by decide +kernel
theorem dX0_result_60 : decode cX0_result 60 = .ok (.irem, 1) := by decide +kernel
theorem dX0_result_61 : decode cX0_result 61 = .ok (.ifCond .ne 9, 3) := by decide +kernel
theorem dX0_result_64 : decode cX0_result 64 = .ok (.iload_n 1, 1) := by decide +kernel
theorem dX0_result_65 : decode cX0_result 65 = .ok (.iload_n 2, 1) := by decide +kernel
theorem dX0_result_66 : decode cX0_result 66 = .ok (.idiv, 1) := by decide +kernel
theorem dX0_result_67 : decode cX0_result 67 = .ok (.goto 5, 3) := by decide +kernel
theorem dX0_result_70 : decode cX0_result 70 = .ok (.bipush (-9), 2) := by decide +kernel
theorem dX0_result_72 : decode cX0_result 72 = .ok (.ireturn, 1) := by decide +kernel
theorem dX0_carries_0 : decode cX0_carries 0 = .ok (.aload_n 0, 1) := by decide +kernel
theorem dX0_carries_1 : decode cX0_carries 1 = .ok (.getfield 11, 3) := by decide +kernel
theorem dX0_carries_4 : decode cX0_carries 4 = .ok (.lookupswitch 65 #[(0, 28), (1, 48)], 28) := by decide +kernel
theorem dX0_carries_32 : decode cX0_carries 32 = .ok (.iload_n 1, 1) := by decide +kernel
theorem dX0_carries_33 : decode cX0_carries 33 = .ok (.bipush 10, 2) := by decide +kernel
theorem dX0_carries_35 : decode cX0_carries 35 = .ok (.irem, 1) := by decide +kernel
theorem dX0_carries_36 : decode cX0_carries 36 = .ok (.iload_n 2, 1) := by decide +kernel
theorem dX0_carries_37 : decode cX0_carries 37 = .ok (.bipush 10, 2) := by decide +kernel
theorem dX0_carries_39 : decode cX0_carries 39 = .ok (.irem, 1) := by decide +kernel
theorem dX0_carries_40 : decode cX0_carries 40 = .ok (.iadd, 1) := by decide +kernel
theorem dX0_carries_41 : decode cX0_carries 41 = .ok (.bipush 10, 2) := by decide +kernel
theorem dX0_carries_43 : decode cX0_carries 43 = .ok (.if_icmp .lt 7, 3) := by decide +kernel
theorem dX0_carries_46 : decode cX0_carries 46 = .ok (.iconst 1, 1) := by decide +kernel
theorem dX0_carries_47 : decode cX0_carries 47 = .ok (.goto 4, 3) := by decide +kernel
theorem dX0_carries_50 : decode cX0_carries 50 = .ok (.iconst 0, 1) := by decide +kernel
theorem dX0_carries_51 : decode cX0_carries 51 = .ok (.ireturn, 1) := by decide +kernel
theorem dX0_carries_52 : decode cX0_carries 52 = .ok (.iload_n 1, 1) := by decide +kernel
theorem dX0_carries_53 : decode cX0_carries 53 = .ok (.bipush 10, 2) := by decide +kernel
theorem dX0_carries_55 : decode cX0_carries 55 = .ok (.irem, 1) := by decide +kernel
theorem dX0_carries_56 : decode cX0_carries 56 = .ok (.iload_n 2, 1) := by decide +kernel
theorem dX0_carries_57 : decode cX0_carries 57 = .ok (.bipush 10, 2) := by decide +kernel
theorem dX0_carries_59 : decode cX0_carries 59 = .ok (.irem, 1) := by decide +kernel
theorem dX0_carries_60 : decode cX0_carries 60 = .ok (.if_icmp .ge 7, 3) := by decide +kernel
theorem dX0_carries_63 : decode cX0_carries 63 = .ok (.iconst 1, 1) := by decide +kernel
theorem dX0_carries_64 : decode cX0_carries 64 = .ok (.goto 4, 3) := by decide +kernel
theorem dX0_carries_67 : decode cX0_carries 67 = .ok (.iconst 0, 1) := by decide +kernel
theorem dX0_carries_68 : decode cX0_carries 68 = .ok (.ireturn, 1) := by decide +kernel
theorem dX0_carries_69 : decode cX0_carries 69 = .ok (.iconst 0, 1) := by decide +kernel
theorem dX0_carries_70 : decode cX0_carries 70 = .ok (.ireturn, 1) := by decide +kernel
set_option maxRecDepth 20000 in
theorem ggX0_slipped_X0_result : GoodIn wsX0_slipped wsX0_result := goodIn_r _ [5, 6, 26, 27, 28, 29, 30, 31, 32] (by decide +kernel) (by decide +kernel)
set_option maxRecDepth 20000 in
theorem gX0_slipped_X0_result : GoodIn wsX0_slipped (wsV RX0 54 RX0 yX0_result wsX0_result) := goodIn_app (goodIn_of _ (by decide +kernel)) ggX0_slipped_X0_result
set_option maxRecDepth 20000 in
theorem ggX0_slipped_X0_otherOperation : GoodIn wsX0_slipped wsX0_otherOperation := goodIn_r _ [10, 6, 26, 27, 28, 29, 30, 31, 32] (by decide +kernel) (by decide +kernel)
set_option maxRecDepth 20000 in
theorem gX0_slipped_X0_otherOperation : GoodIn wsX0_slipped (wsV RX0 60 RX0 yX0_otherOperation wsX0_otherOperation) := goodIn_app (goodIn_of _ (by decide +kernel)) ggX0_slipped_X0_otherOperation
set_option maxRecDepth 20000 in
theorem ggX0_slipped_X0_carries : GoodIn wsX0_slipped wsX0_carries := goodIn_r _ [14, 6, 26, 27, 28, 29, 30, 31, 32] (by decide +kernel) (by decide +kernel)
set_option maxRecDepth 20000 in
theorem gX0_slipped_X0_carries : GoodIn wsX0_slipped (wsV RX0 57 RX0 yX0_carries wsX0_carries) := goodIn_app (goodIn_of _ (by decide +kernel)) ggX0_slipped_X0_carries
set_option maxRecDepth 20000 in
theorem ggX0_slipped_X0_withoutCarrying : GoodIn wsX0_slipped wsX0_withoutCarrying := goodIn_r _ [18, 6, 19, 20, 21, 22, 26, 27, 28, 29, 30, 31, 32] (by decide +kernel) (by decide +kernel)
set_option maxRecDepth 20000 in
theorem gX0_slipped_X0_withoutCarrying : GoodIn wsX0_slipped (wsV RX0 63 RX0 yX0_withoutCarrying wsX0_withoutCarrying) := goodIn_app (goodIn_of _ (by decide +kernel)) ggX0_slipped_X0_withoutCarrying
set_option maxRecDepth 20000 in
theorem ggX0_slipped_X0_exchanged : GoodIn wsX0_slipped wsX0_exchanged := goodIn_r _ [25] (by decide +kernel) (by decide +kernel)
set_option maxRecDepth 20000 in
theorem gX0_slipped_X0_exchanged : GoodIn wsX0_slipped (va_wsS RX0 66 yX0_exchanged wsX0_exchanged) := goodIn_app (goodIn_of _ (by decide +kernel)) ggX0_slipped_X0_exchanged
theorem dX0_slipped_0 : decode cX0_slipped 0 = .ok (.aload_n 0, 1) := by decide +kernel
theorem dX0_slipped_1 : decode cX0_slipped 1 = .ok (.iload_n 1, 1) := by decide +kernel
theorem dX0_slipped_2 : decode cX0_slipped 2 = .ok (.iload_n 2, 1) := by decide +kernel
theorem dX0_slipped_3 : decode cX0_slipped 3 = .ok (.invokevirtual 54, 3) := by decide +kernel
theorem dX0_slipped_6 : decode cX0_slipped 6 = .ok (.istore 4, 2) := by decide +kernel
theorem dX0_slipped_8 : decode cX0_slipped 8 = .ok (.iload_n 3, 1) := by decide +kernel
theorem dX0_slipped_9 : decode cX0_slipped 9 = .ok (.tableswitch 79 1 4 #[31, 38, 59, 64], 31) := by decide +kernel
theorem dX0_slipped_40 : decode cX0_slipped 40 = .ok (.aload_n 0, 1) := by decide +kernel
theorem dX0_slipped_41 : decode cX0_slipped 41 = .ok (.iload_n 1, 1) := by decide +kernel
theorem dX0_slipped_42 : decode cX0_slipped 42 = .ok (.iload_n 2, 1) := by decide +kernel
theorem dX0_slipped_43 : decode cX0_slipped 43 = .ok (.invokevirtual 60, 3) := by decide +kernel
theorem dX0_slipped_46 : decode cX0_slipped 46 = .ok (.ireturn, 1) := by decide +kernel
theorem dX0_slipped_47 : decode cX0_slipped 47 = .ok (.aload_n 0, 1) := by decide +kernel
theorem dX0_slipped_48 : decode cX0_slipped 48 = .ok (.iload_n 1, 1) := by decide +kernel
theorem dX0_slipped_49 : decode cX0_slipped 49 = .ok (.iload_n 2, 1) := by decide +kernel
theorem dX0_slipped_50 : decode cX0_slipped 50 = .ok (.invokevirtual 57, 3) := by decide +kernel
theorem dX0_slipped_53 : decode cX0_slipped 53 = .ok (.ifCond .eq 12, 3) := by decide +kernel
theorem dX0_slipped_56 : decode cX0_slipped 56 = .ok (.aload_n 0, 1) := by decide +kernel
theorem dX0_slipped_57 : decode cX0_slipped 57 = .ok (.iload_n 1, 1) := by decide +kernel
theorem dX0_slipped_58 : decode cX0_slipped 58 = .ok (.iload_n 2, 1) := by decide +kernel
theorem dX0_slipped_59 : decode cX0_slipped 59 = .ok (.invokevirtual 63, 3) := by decide +kernel
theorem dX0_slipped_62 : decode cX0_slipped 62 = .ok (.goto 5, 3) := by decide +kernel
theorem dX0_slipped_65 : decode cX0_slipped 65 = .ok (.bipush (-9), 2) := by decide +kernel
theorem dX0_slipped_67 : decode cX0_slipped 67 = .ok (.ireturn, 1) := by decide +kernel
theorem dX0_slipped_68 : decode cX0_slipped 68 = .ok (.iload 4, 2) := by decide +kernel
theorem dX0_slipped_70 : decode cX0_slipped 70 = .ok (.iconst 1, 1) := by decide +kernel
theorem dX0_slipped_71 : decode cX0_slipped 71 = .ok (.iadd, 1) := by decide +kernel
theorem dX0_slipped_72 : decode cX0_slipped 72 = .ok (.ireturn, 1) := by decide +kernel
theorem dX0_slipped_73 : decode cX0_slipped 73 = .ok (.iload 4, 2) := by decide +kernel
theorem dX0_slipped_75 : decode cX0_slipped 75 = .ok (.ifCond .le 10, 3) := by decide +kernel
theorem dX0_slipped_78 : decode cX0_slipped 78 = .ok (.iload 4, 2) := by decide +kernel
theorem dX0_slipped_80 : decode cX0_slipped 80 = .ok (.iconst 1, 1) := by decide +kernel
theorem dX0_slipped_81 : decode cX0_slipped 81 = .ok (.isub, 1) := by decide +kernel
theorem dX0_slipped_82 : decode cX0_slipped 82 = .ok (.goto 5, 3) := by decide +kernel
theorem dX0_slipped_85 : decode cX0_slipped 85 = .ok (.bipush (-9), 2) := by decide +kernel
theorem dX0_slipped_87 : decode cX0_slipped 87 = .ok (.ireturn, 1) := by decide +kernel
theorem dX0_slipped_88 : decode cX0_slipped 88 = .ok (.iload 4, 2) := by decide +kernel
theorem dX0_slipped_90 : decode cX0_slipped 90 = .ok (.invokestatic 66, 3) := by decide +kernel
theorem dX0_slipped_93 : decode cX0_slipped 93 = .ok (.ireturn, 1) := by decide +kernel
set_option maxRecDepth 20000 in
theorem ggX0_slipBehind_X0_pairAt : GoodIn wsX0_slipBehind wsX0_pairAt := goodIn_r _ [5, 6, 7, 8, 9, 10, 11, 4, 12, 13, 14, 15, 16, 17, 18, 19, 20, 21, 22, 23, 24, 25, 26, 42, 43, 44, 45, 46, 47, 48] (by decide +kernel) (by decide +kernel)
set_option maxRecDepth 20000 in
theorem gX0_slipBehind_X0_pairAt : GoodIn wsX0_slipBehind (wsV RX0 70 RX0 yX0_pairAt wsX0_pairAt) := goodIn_app (goodIn_of _ (by decide +kernel)) ggX0_slipBehind_X0_pairAt
set_option maxRecDepth 20000 in
theorem ggX0_slipBehind_X0_result : GoodIn wsX0_slipBehind wsX0_result := goodIn_r _ [17, 18, 42, 43, 44, 45, 46, 47, 48] (by decide +kernel) (by decide +kernel)
set_option maxRecDepth 20000 in
theorem gX0_slipBehind_X0_result : GoodIn wsX0_slipBehind (wsV RX0 54 RX0 yX0_result wsX0_result) := goodIn_app (goodIn_of _ (by decide +kernel)) ggX0_slipBehind_X0_result
set_option maxRecDepth 20000 in
theorem ggX0_slipBehind_X0_slipped : GoodIn wsX0_slipBehind wsX0_slipped := goodIn_r _ [30, 14, 15, 16, 4, 17, 18, 23, 24, 25, 26, 19, 20, 21, 22, 31, 32, 33, 34, 35, 36, 37, 38, 39, 40, 41, 42, 43, 44, 45, 46, 47, 48] (by decide +kernel) (by decide +kernel)
set_option maxRecDepth 20000 in
theorem gX0_slipBehind_X0_slipped : GoodIn wsX0_slipBehind (wsV RX0 73 RX0 yX0_slipped wsX0_slipped) := goodIn_app (goodIn_of _ (by decide +kernel)) ggX0_slipBehind_X0_slipped
theorem dX0_slipBehind_0 : decode cX0_slipBehind 0 = .ok (.aload_n 0, 1) := by decide +kernel
theorem dX0_slipBehind_1 : decode cX0_slipBehind 1 = .ok (.iload_n 1, 1) := by decide +kernel
theorem dX0_slipBehind_2 : decode cX0_slipBehind 2 = .ok (.invokevirtual 70, 3) := by decide +kernel
theorem dX0_slipBehind_5 : decode cX0_slipBehind 5 = .ok (.istore_n 3, 1) := by decide +kernel
theorem dX0_slipBehind_6 : decode cX0_slipBehind 6 = .ok (.iload_n 3, 1) := by decide +kernel
theorem dX0_slipBehind_7 : decode cX0_slipBehind 7 = .ok (.bipush 100, 2) := by decide +kernel
theorem dX0_slipBehind_9 : decode cX0_slipBehind 9 = .ok (.idiv, 1) := by decide +kernel
theorem dX0_slipBehind_10 : decode cX0_slipBehind 10 = .ok (.istore 4, 2) := by decide +kernel
theorem dX0_slipBehind_12 : decode cX0_slipBehind 12 = .ok (.iload_n 3, 1) := by decide +kernel
theorem dX0_slipBehind_13 : decode cX0_slipBehind 13 = .ok (.bipush 100, 2) := by decide +kernel
theorem dX0_slipBehind_15 : decode cX0_slipBehind 15 = .ok (.irem, 1) := by decide +kernel
theorem dX0_slipBehind_16 : decode cX0_slipBehind 16 = .ok (.istore 5, 2) := by decide +kernel
theorem dX0_slipBehind_18 : decode cX0_slipBehind 18 = .ok (.iload_n 2, 1) := by decide +kernel
theorem dX0_slipBehind_19 : decode cX0_slipBehind 19 = .ok (.aload_n 0, 1) := by decide +kernel
theorem dX0_slipBehind_20 : decode cX0_slipBehind 20 = .ok (.iload 4, 2) := by decide +kernel
theorem dX0_slipBehind_22 : decode cX0_slipBehind 22 = .ok (.iload 5, 2) := by decide +kernel
theorem dX0_slipBehind_24 : decode cX0_slipBehind 24 = .ok (.invokevirtual 54, 3) := by decide +kernel
theorem dX0_slipBehind_27 : decode cX0_slipBehind 27 = .ok (.if_icmp .ne 5, 3) := by decide +kernel
theorem dX0_slipBehind_30 : decode cX0_slipBehind 30 = .ok (.iconst 0, 1) := by decide +kernel
theorem dX0_slipBehind_31 : decode cX0_slipBehind 31 = .ok (.ireturn, 1) := by decide +kernel
theorem dX0_slipBehind_32 : decode cX0_slipBehind 32 = .ok (.iload_n 2, 1) := by decide +kernel
theorem dX0_slipBehind_33 : decode cX0_slipBehind 33 = .ok (.ifCond .ge 6, 3) := by decide +kernel
theorem dX0_slipBehind_36 : decode cX0_slipBehind 36 = .ok (.bipush (-9), 2) := by decide +kernel
theorem dX0_slipBehind_38 : decode cX0_slipBehind 38 = .ok (.ireturn, 1) := by decide +kernel
theorem dX0_slipBehind_39 : decode cX0_slipBehind 39 = .ok (.iconst 1, 1) := by decide +kernel
theorem dX0_slipBehind_40 : decode cX0_slipBehind 40 = .ok (.istore 6, 2) := by decide +kernel
theorem dX0_slipBehind_42 : decode cX0_slipBehind 42 = .ok (.iload 6, 2) := by decide +kernel
theorem dX0_slipBehind_44 : decode cX0_slipBehind 44 = .ok (.iconst 5, 1) := by decide +kernel
theorem dX0_slipBehind_45 : decode cX0_slipBehind 45 = .ok (.if_icmp .gt 26, 3) := by decide +kernel
theorem dX0_slipBehind_48 : decode cX0_slipBehind 48 = .ok (.aload_n 0, 1) := by decide +kernel
theorem dX0_slipBehind_49 : decode cX0_slipBehind 49 = .ok (.iload 4, 2) := by decide +kernel
theorem dX0_slipBehind_51 : decode cX0_slipBehind 51 = .ok (.iload 5, 2) := by decide +kernel
theorem dX0_slipBehind_53 : decode cX0_slipBehind 53 = .ok (.iload 6, 2) := by decide +kernel
theorem dX0_slipBehind_55 : decode cX0_slipBehind 55 = .ok (.invokevirtual 73, 3) := by decide +kernel
theorem dX0_slipBehind_58 : decode cX0_slipBehind 58 = .ok (.iload_n 2, 1) := by decide +kernel
theorem dX0_slipBehind_59 : decode cX0_slipBehind 59 = .ok (.if_icmp .ne 6, 3) := by decide +kernel
theorem dX0_slipBehind_62 : decode cX0_slipBehind 62 = .ok (.iload 6, 2) := by decide +kernel
theorem dX0_slipBehind_64 : decode cX0_slipBehind 64 = .ok (.ireturn, 1) := by decide +kernel
theorem dX0_slipBehind_65 : decode cX0_slipBehind 65 = .ok (.iinc 6 1, 3) := by decide +kernel
theorem dX0_slipBehind_68 : decode cX0_slipBehind 68 = .ok (.goto (-26), 3) := by decide +kernel
theorem dX0_slipBehind_71 : decode cX0_slipBehind 71 = .ok (.bipush (-9), 2) := by decide +kernel
theorem dX0_slipBehind_73 : decode cX0_slipBehind 73 = .ok (.ireturn, 1) := by decide +kernel
theorem dX0_otherOperation_0 : decode cX0_otherOperation 0 = .ok (.aload_n 0, 1) := by decide +kernel
theorem dX0_otherOperation_1 : decode cX0_otherOperation 1 = .ok (.getfield 11, 3) := by decide +kernel
theorem dX0_otherOperation_4 : decode cX0_otherOperation 4 = .ok (.iconst 1, 1) := by decide +kernel
theorem dX0_otherOperation_5 : decode cX0_otherOperation 5 = .ok (.if_icmp .eq 11, 3) := by decide +kernel
theorem dX0_otherOperation_8 : decode cX0_otherOperation 8 = .ok (.aload_n 0, 1) := by decide +kernel
theorem dX0_otherOperation_9 : decode cX0_otherOperation 9 = .ok (.getfield 11, 3) := by decide +kernel
theorem dX0_otherOperation_12 : decode cX0_otherOperation 12 = .ok (.iconst 2, 1) := by decide +kernel
theorem dX0_otherOperation_13 : decode cX0_otherOperation 13 = .ok (.if_icmp .ne 7, 3) := by decide +kernel
theorem dX0_otherOperation_16 : decode cX0_otherOperation 16 = .ok (.iload_n 1, 1) := by decide +kernel
theorem dX0_otherOperation_17 : decode cX0_otherOperation 17 = .ok (.iload_n 2, 1) := by decide +kernel
theorem dX0_otherOperation_18 : decode cX0_otherOperation 18 = .ok (.iadd, 1) := by decide +kernel
theorem dX0_otherOperation_19 : decode cX0_otherOperation 19 = .ok (.ireturn, 1) := by decide +kernel
theorem dX0_otherOperation_20 : decode cX0_otherOperation 20 = .ok (.iload_n 1, 1) := by decide +kernel
theorem dX0_otherOperation_21 : decode cX0_otherOperation 21 = .ok (.iload_n 2, 1) := by decide +kernel
theorem dX0_otherOperation_22 : decode cX0_otherOperation 22 = .ok (.if_icmp .lt 9, 3) := by decide +kernel
theorem dX0_otherOperation_25 : decode cX0_otherOperation 25 = .ok (.iload_n 1, 1) := by decide +kernel
theorem dX0_otherOperation_26 : decode cX0_otherOperation 26 = .ok (.iload_n 2, 1) := by decide +kernel
theorem dX0_otherOperation_27 : decode cX0_otherOperation 27 = .ok (.isub, 1) := by decide +kernel
theorem dX0_otherOperation_28 : decode cX0_otherOperation 28 = .ok (.goto 5, 3) := by decide +kernel
theorem dX0_otherOperation_31 : decode cX0_otherOperation 31 = .ok (.bipush (-9), 2) := by decide +kernel
theorem dX0_otherOperation_33 : decode cX0_otherOperation 33 = .ok (.ireturn, 1) := by decide +kernel
theorem dX0_withoutCarrying_0 : decode cX0_withoutCarrying 0 = .ok (.aload_n 0, 1) := by decide +kernel
theorem dX0_withoutCarrying_1 : decode cX0_withoutCarrying 1 = .ok (.getfield 11, 3) := by decide +kernel
theorem dX0_withoutCarrying_4 : decode cX0_withoutCarrying 4 = .ok (.ifCond .ne 10, 3) := by decide +kernel
theorem dX0_withoutCarrying_7 : decode cX0_withoutCarrying 7 = .ok (.iload_n 1, 1) := by decide +kernel
theorem dX0_withoutCarrying_8 : decode cX0_withoutCarrying 8 = .ok (.iload_n 2, 1) := by decide +kernel
theorem dX0_withoutCarrying_9 : decode cX0_withoutCarrying 9 = .ok (.iadd, 1) := by decide +kernel
theorem dX0_withoutCarrying_10 : decode cX0_withoutCarrying 10 = .ok (.bipush 10, 2) := by decide +kernel
theorem dX0_withoutCarrying_12 : decode cX0_withoutCarrying 12 = .ok (.isub, 1) := by decide +kernel
theorem dX0_withoutCarrying_13 : decode cX0_withoutCarrying 13 = .ok (.ireturn, 1) := by decide +kernel
theorem dX0_withoutCarrying_14 : decode cX0_withoutCarrying 14 = .ok (.iload_n 1, 1) := by decide +kernel
theorem dX0_withoutCarrying_15 : decode cX0_withoutCarrying 15 = .ok (.bipush 10, 2) := by decide +kernel
theorem dX0_withoutCarrying_17 : decode cX0_withoutCarrying 17 = .ok (.idiv, 1) := by decide +kernel
theorem dX0_withoutCarrying_18 : decode cX0_withoutCarrying 18 = .ok (.iload_n 2, 1) := by decide +kernel
theorem dX0_withoutCarrying_19 : decode cX0_withoutCarrying 19 = .ok (.bipush 10, 2) := by decide +kernel
theorem dX0_withoutCarrying_21 : decode cX0_withoutCarrying 21 = .ok (.idiv, 1) := by decide +kernel
theorem dX0_withoutCarrying_22 : decode cX0_withoutCarrying 22 = .ok (.isub, 1) := by decide +kernel
theorem dX0_withoutCarrying_23 : decode cX0_withoutCarrying 23 = .ok (.bipush 10, 2) := by decide +kernel
theorem dX0_withoutCarrying_25 : decode cX0_withoutCarrying 25 = .ok (.imul, 1) := by decide +kernel
theorem dX0_withoutCarrying_26 : decode cX0_withoutCarrying 26 = .ok (.iload_n 1, 1) := by decide +kernel
theorem dX0_withoutCarrying_27 : decode cX0_withoutCarrying 27 = .ok (.bipush 10, 2) := by decide +kernel
theorem dX0_withoutCarrying_29 : decode cX0_withoutCarrying 29 = .ok (.irem, 1) := by decide +kernel
theorem dX0_withoutCarrying_30 : decode cX0_withoutCarrying 30 = .ok (.iload_n 2, 1) := by decide +kernel
theorem dX0_withoutCarrying_31 : decode cX0_withoutCarrying 31 = .ok (.bipush 10, 2) := by decide +kernel
theorem dX0_withoutCarrying_33 : decode cX0_withoutCarrying 33 = .ok (.irem, 1) := by decide +kernel
theorem dX0_withoutCarrying_34 : decode cX0_withoutCarrying 34 = .ok (.isub, 1) := by decide +kernel
theorem dX0_withoutCarrying_35 : decode cX0_withoutCarrying 35 = .ok (.invokestatic 77, 3) := by decide +kernel
theorem dX0_withoutCarrying_38 : decode cX0_withoutCarrying 38 = .ok (.iadd, 1) := by decide +kernel
theorem dX0_withoutCarrying_39 : decode cX0_withoutCarrying 39 = .ok (.ireturn, 1) := by decide +kernel
theorem dX0_exchanged_0 : decode cX0_exchanged 0 = .ok (.iload_n 0, 1) := by decide +kernel
theorem dX0_exchanged_1 : decode cX0_exchanged 1 = .ok (.bipush 10, 2) := by decide +kernel
theorem dX0_exchanged_3 : decode cX0_exchanged 3 = .ok (.idiv, 1) := by decide +kernel
theorem dX0_exchanged_4 : decode cX0_exchanged 4 = .ok (.istore_n 1, 1) := by decide +kernel
theorem dX0_exchanged_5 : decode cX0_exchanged 5 = .ok (.iload_n 0, 1) := by decide +kernel
theorem dX0_exchanged_6 : decode cX0_exchanged 6 = .ok (.bipush 10, 2) := by decide +kernel
theorem dX0_exchanged_8 : decode cX0_exchanged 8 = .ok (.irem, 1) := by decide +kernel
theorem dX0_exchanged_9 : decode cX0_exchanged 9 = .ok (.istore_n 2, 1) := by decide +kernel
theorem dX0_exchanged_10 : decode cX0_exchanged 10 = .ok (.iload_n 1, 1) := by decide +kernel
theorem dX0_exchanged_11 : decode cX0_exchanged 11 = .ok (.iconst 1, 1) := by decide +kernel
theorem dX0_exchanged_12 : decode cX0_exchanged 12 = .ok (.if_icmp .lt 23, 3) := by decide +kernel
theorem dX0_exchanged_15 : decode cX0_exchanged 15 = .ok (.iload_n 1, 1) := by decide +kernel
theorem dX0_exchanged_16 : decode cX0_exchanged 16 = .ok (.bipush 9, 2) := by decide +kernel
theorem dX0_exchanged_18 : decode cX0_exchanged 18 = .ok (.if_icmp .gt 17, 3) := by decide +kernel
theorem dX0_exchanged_21 : decode cX0_exchanged 21 = .ok (.iload_n 1, 1) := by decide +kernel
theorem dX0_exchanged_22 : decode cX0_exchanged 22 = .ok (.iload_n 2, 1) := by decide +kernel
theorem dX0_exchanged_23 : decode cX0_exchanged 23 = .ok (.if_icmp .eq 12, 3) := by decide +kernel
theorem dX0_exchanged_26 : decode cX0_exchanged 26 = .ok (.iload_n 2, 1) := by decide +kernel
theorem dX0_exchanged_27 : decode cX0_exchanged 27 = .ok (.bipush 10, 2) := by decide +kernel
theorem dX0_exchanged_29 : decode cX0_exchanged 29 = .ok (.imul, 1) := by decide +kernel
theorem dX0_exchanged_30 : decode cX0_exchanged 30 = .ok (.iload_n 1, 1) := by decide +kernel
theorem dX0_exchanged_31 : decode cX0_exchanged 31 = .ok (.iadd, 1) := by decide +kernel
theorem dX0_exchanged_32 : decode cX0_exchanged 32 = .ok (.goto 5, 3) := by decide +kernel
theorem dX0_exchanged_35 : decode cX0_exchanged 35 = .ok (.bipush (-9), 2) := by decide +kernel
theorem dX0_exchanged_37 : decode cX0_exchanged 37 = .ok (.ireturn, 1) := by decide +kernel
theorem dX0_addPlace_0 : decode cX0_addPlace 0 = .ok (.aload_n 0, 1) := by decide +kernel
theorem dX0_addPlace_1 : decode cX0_addPlace 1 = .ok (.dup, 1) := by decide +kernel
theorem dX0_addPlace_2 : decode cX0_addPlace 2 = .ok (.getfield 31, 3) := by decide +kernel
theorem dX0_addPlace_5 : decode cX0_addPlace 5 = .ok (.iconst 1, 1) := by decide +kernel
theorem dX0_addPlace_6 : decode cX0_addPlace 6 = .ok (.iadd, 1) := by decide +kernel
theorem dX0_addPlace_7 : decode cX0_addPlace 7 = .ok (.putfield 31, 3) := by decide +kernel
theorem dX0_addPlace_10 : decode cX0_addPlace 10 = .ok (.aload_n 0, 1) := by decide +kernel
theorem dX0_addPlace_11 : decode cX0_addPlace 11 = .ok (.getfield 31, 3) := by decide +kernel
theorem dX0_addPlace_14 : decode cX0_addPlace 14 = .ok (.iconst 1, 1) := by decide +kernel
theorem dX0_addPlace_15 : decode cX0_addPlace 15 = .ok (.isub, 1) := by decide +kernel
theorem dX0_addPlace_16 : decode cX0_addPlace 16 = .ok (.ireturn, 1) := by decide +kernel
theorem dX0_dropPlaces_0 : decode cX0_dropPlaces 0 = .ok (.aload_n 0, 1) := by decide +kernel
theorem dX0_dropPlaces_1 : decode cX0_dropPlaces 1 = .ok (.iconst 0, 1) := by decide +kernel
theorem dX0_dropPlaces_2 : decode cX0_dropPlaces 2 = .ok (.putfield 31, 3) := by decide +kernel
theorem dX0_dropPlaces_5 : decode cX0_dropPlaces 5 = .ok (.return_, 1) := by decide +kernel
theorem dX0_hasEnoughForTwo_0 : decode cX0_hasEnoughForTwo 0 = .ok (.aload_n 0, 1) := by decide +kernel
theorem dX0_hasEnoughForTwo_1 : decode cX0_hasEnoughForTwo 1 = .ok (.getfield 28, 3) := by decide +kernel
theorem dX0_hasEnoughForTwo_4 : decode cX0_hasEnoughForTwo 4 = .ok (.iconst 2, 1) := by decide +kernel
theorem dX0_hasEnoughForTwo_5 : decode cX0_hasEnoughForTwo 5 = .ok (.aload_n 0, 1) := by decide +kernel
theorem dX0_hasEnoughForTwo_6 : decode cX0_hasEnoughForTwo 6 = .ok (.getfield 31, 3) := by decide +kernel
theorem dX0_hasEnoughForTwo_9 : decode cX0_hasEnoughForTwo 9 = .ok (.imul, 1) := by decide +kernel
theorem dX0_hasEnoughForTwo_10 : decode cX0_hasEnoughForTwo 10 = .ok (.if_icmp .lt 7, 3) := by decide +kernel
theorem dX0_hasEnoughForTwo_13 : decode cX0_hasEnoughForTwo 13 = .ok (.iconst 1, 1) := by decide +kernel
theorem dX0_hasEnoughForTwo_14 : decode cX0_hasEnoughForTwo 14 = .ok (.goto 4, 3) := by decide +kernel
theorem dX0_hasEnoughForTwo_17 : decode cX0_hasEnoughForTwo 17 = .ok (.iconst 0, 1) := by decide +kernel
theorem dX0_hasEnoughForTwo_18 : decode cX0_hasEnoughForTwo 18 = .ok (.ireturn, 1) := by decide +kernel
theorem dX0_variantFor_0 : decode cX0_variantFor 0 = .ok (.aload_n 0, 1) := by decide +kernel
theorem dX0_variantFor_1 : decode cX0_variantFor 1 = .ok (.getfield 28, 3) := by decide +kernel
theorem dX0_variantFor_4 : decode cX0_variantFor 4 = .ok (.ifCond .le 26, 3) := by decide +kernel
theorem dX0_variantFor_7 : decode cX0_variantFor 7 = .ok (.iload_n 1, 1) := by decide +kernel
theorem dX0_variantFor_8 : decode cX0_variantFor 8 = .ok (.aload_n 0, 1) := by decide +kernel
theorem dX0_variantFor_9 : decode cX0_variantFor 9 = .ok (.getfield 31, 3) := by decide +kernel
theorem dX0_variantFor_12 : decode cX0_variantFor 12 = .ok (.imul, 1) := by decide +kernel
theorem dX0_variantFor_13 : decode cX0_variantFor 13 = .ok (.iload_n 2, 1) := by decide +kernel
theorem dX0_variantFor_14 : decode cX0_variantFor 14 = .ok (.iadd, 1) := by decide +kernel
theorem dX0_variantFor_15 : decode cX0_variantFor 15 = .ok (.aload_n 0, 1) := by decide +kernel
theorem dX0_variantFor_16 : decode cX0_variantFor 16 = .ok (.getfield 22, 3) := by decide +kernel
theorem dX0_variantFor_19 : decode cX0_variantFor 19 = .ok (.iconst 2, 1) := by decide +kernel
theorem dX0_variantFor_20 : decode cX0_variantFor 20 = .ok (.iaload, 1) := by decide +kernel
theorem dX0_variantFor_21 : decode cX0_variantFor 21 = .ok (.iadd, 1) := by decide +kernel
theorem dX0_variantFor_22 : decode cX0_variantFor 22 = .ok (.aload_n 0, 1) := by decide +kernel
theorem dX0_variantFor_23 : decode cX0_variantFor 23 = .ok (.getfield 28, 3) := by decide +kernel
theorem dX0_variantFor_26 : decode cX0_variantFor 26 = .ok (.irem, 1) := by decide +kernel
theorem dX0_variantFor_27 : decode cX0_variantFor 27 = .ok (.goto 5, 3) := by decide +kernel
theorem dX0_variantFor_30 : decode cX0_variantFor 30 = .ok (.bipush (-9), 2) := by decide +kernel
theorem dX0_variantFor_32 : decode cX0_variantFor 32 = .ok (.ireturn, 1) := by decide +kernel
set_option maxRecDepth 20000 in
theorem ggX0_placesInCommon_J9_floorMod_7cf53 : GoodIn wsX0_placesInCommon wsJ9_floorMod_7cf53 := goodIn_r _ [6] (by decide +kernel) (by decide +kernel)
set_option maxRecDepth 20000 in
theorem gX0_placesInCommon_J9_floorMod_7cf53 : GoodIn wsX0_placesInCommon (va_wsS RX0 82 yJ9_floorMod_7cf53 wsJ9_floorMod_7cf53) := goodIn_app (goodIn_of _ (by decide +kernel)) ggX0_placesInCommon_J9_floorMod_7cf53
theorem dX0_placesInCommon_0 : decode cX0_placesInCommon 0 = .ok (.aload_n 0, 1) := by decide +kernel
theorem dX0_placesInCommon_1 : decode cX0_placesInCommon 1 = .ok (.getfield 28, 3) := by decide +kernel
theorem dX0_placesInCommon_4 : decode cX0_placesInCommon 4 = .ok (.iconst 1, 1) := by decide +kernel
theorem dX0_placesInCommon_5 : decode cX0_placesInCommon 5 = .ok (.if_icmp .ge 5, 3) := by decide +kernel
theorem dX0_placesInCommon_8 : decode cX0_placesInCommon 8 = .ok (.iconst 0, 1) := by decide +kernel
theorem dX0_placesInCommon_9 : decode cX0_placesInCommon 9 = .ok (.ireturn, 1) := by decide +kernel
theorem dX0_placesInCommon_10 : decode cX0_placesInCommon 10 = .ok (.iload_n 1, 1) := by decide +kernel
theorem dX0_placesInCommon_11 : decode cX0_placesInCommon 11 = .ok (.iload_n 2, 1) := by decide +kernel
theorem dX0_placesInCommon_12 : decode cX0_placesInCommon 12 = .ok (.isub, 1) := by decide +kernel
theorem dX0_placesInCommon_13 : decode cX0_placesInCommon 13 = .ok (.aload_n 0, 1) := by decide +kernel
theorem dX0_placesInCommon_14 : decode cX0_placesInCommon 14 = .ok (.getfield 31, 3) := by decide +kernel
theorem dX0_placesInCommon_17 : decode cX0_placesInCommon 17 = .ok (.imul, 1) := by decide +kernel
theorem dX0_placesInCommon_18 : decode cX0_placesInCommon 18 = .ok (.aload_n 0, 1) := by decide +kernel
theorem dX0_placesInCommon_19 : decode cX0_placesInCommon 19 = .ok (.getfield 28, 3) := by decide +kernel
theorem dX0_placesInCommon_22 : decode cX0_placesInCommon 22 = .ok (.invokestatic 82, 3) := by decide +kernel
theorem dX0_placesInCommon_25 : decode cX0_placesInCommon 25 = .ok (.istore_n 3, 1) := by decide +kernel
theorem dX0_placesInCommon_26 : decode cX0_placesInCommon 26 = .ok (.iconst 0, 1) := by decide +kernel
theorem dX0_placesInCommon_27 : decode cX0_placesInCommon 27 = .ok (.istore 4, 2) := by decide +kernel
theorem dX0_placesInCommon_29 : decode cX0_placesInCommon 29 = .ok (.iconst 0, 1) := by decide +kernel
theorem dX0_placesInCommon_30 : decode cX0_placesInCommon 30 = .ok (.istore 5, 2) := by decide +kernel
theorem dX0_placesInCommon_32 : decode cX0_placesInCommon 32 = .ok (.iload 5, 2) := by decide +kernel
theorem dX0_placesInCommon_34 : decode cX0_placesInCommon 34 = .ok (.aload_n 0, 1) := by decide +kernel
theorem dX0_placesInCommon_35 : decode cX0_placesInCommon 35 = .ok (.getfield 31, 3) := by decide +kernel
theorem dX0_placesInCommon_38 : decode cX0_placesInCommon 38 = .ok (.if_icmp .ge 28, 3) := by decide +kernel
theorem dX0_placesInCommon_41 : decode cX0_placesInCommon 41 = .ok (.iload_n 3, 1) := by decide +kernel
theorem dX0_placesInCommon_42 : decode cX0_placesInCommon 42 = .ok (.iload 5, 2) := by decide +kernel
theorem dX0_placesInCommon_44 : decode cX0_placesInCommon 44 = .ok (.iadd, 1) := by decide +kernel
theorem dX0_placesInCommon_45 : decode cX0_placesInCommon 45 = .ok (.aload_n 0, 1) := by decide +kernel
theorem dX0_placesInCommon_46 : decode cX0_placesInCommon 46 = .ok (.getfield 28, 3) := by decide +kernel
theorem dX0_placesInCommon_49 : decode cX0_placesInCommon 49 = .ok (.irem, 1) := by decide +kernel
theorem dX0_placesInCommon_50 : decode cX0_placesInCommon 50 = .ok (.aload_n 0, 1) := by decide +kernel
theorem dX0_placesInCommon_51 : decode cX0_placesInCommon 51 = .ok (.getfield 31, 3) := by decide +kernel
theorem dX0_placesInCommon_54 : decode cX0_placesInCommon 54 = .ok (.if_icmp .ge 6, 3) := by decide +kernel
theorem dX0_placesInCommon_57 : decode cX0_placesInCommon 57 = .ok (.iinc 4 1, 3) := by decide +kernel
theorem dX0_placesInCommon_60 : decode cX0_placesInCommon 60 = .ok (.iinc 5 1, 3) := by decide +kernel
theorem dX0_placesInCommon_63 : decode cX0_placesInCommon 63 = .ok (.goto (-31), 3) := by decide +kernel
theorem dX0_placesInCommon_66 : decode cX0_placesInCommon 66 = .ok (.iload 4, 2) := by decide +kernel
theorem dX0_placesInCommon_68 : decode cX0_placesInCommon 68 = .ok (.ireturn, 1) := by decide +kernel
set_option maxRecDepth 20000 in
theorem ggX1_init_X0_init : GoodIn wsX1_init wsX0_init := goodIn_r _ [22, 23, 2, 3, 24, 7, 25, 26, 27, 28, 29, 30, 43, 44, 45, 46, 47, 48, 49] (by decide +kernel) (by decide +kernel)
set_option maxRecDepth 20000 in
theorem gX1_init_X0_init : GoodIn wsX1_init (wsX0_init) := ggX1_init_X0_init
theorem dX1_init_0 : decode cX1_init 0 = .ok (.aload_n 0, 1) := by decide +kernel
theorem dX1_init_1 : decode cX1_init 1 = .ok (.invokespecial 1, 3) := by decide +kernel
theorem dX1_init_4 : decode cX1_init 4 = .ok (.aload_n 0, 1) := by decide +kernel
theorem dX1_init_5 : decode cX1_init 5 = .ok (.bipush 8, 2) := by decide +kernel
theorem dX1_init_7 : decode cX1_init 7 = .ok (.anewarray 9, 3) := by decide +kernel
theorem dX1_init_10 : decode cX1_init 10 = .ok (.putfield 11, 3) := by decide +kernel
theorem dX1_init_13 : decode cX1_init 13 = .ok (.aload_n 0, 1) := by decide +kernel
theorem dX1_init_14 : decode cX1_init 14 = .ok (.iconst 0, 1) := by decide +kernel
theorem dX1_init_15 : decode cX1_init 15 = .ok (.putfield 15, 3) := by decide +kernel
theorem dX1_init_18 : decode cX1_init 18 = .ok (.aload_n 0, 1) := by decide +kernel
theorem dX1_init_19 : decode cX1_init 19 = .ok (.bipush 40, 2) := by decide +kernel
theorem dX1_init_21 : decode cX1_init 21 = .ok (.newarray .int, 2) := by decide +kernel
theorem dX1_init_23 : decode cX1_init 23 = .ok (.putfield 19, 3) := by decide +kernel
theorem dX1_init_26 : decode cX1_init 26 = .ok (.aload_n 0, 1) := by decide +kernel
theorem dX1_init_27 : decode cX1_init 27 = .ok (.bipush 40, 2) := by decide +kernel
theorem dX1_init_29 : decode cX1_init 29 = .ok (.newarray .int, 2) := by decide +kernel
theorem dX1_init_31 : decode cX1_init 31 = .ok (.putfield 23, 3) := by decide +kernel
theorem dX1_init_34 : decode cX1_init 34 = .ok (.aload_n 0, 1) := by decide +kernel
theorem dX1_init_35 : decode cX1_init 35 = .ok (.iconst 0, 1) := by decide +kernel
theorem dX1_init_36 : decode cX1_init 36 = .ok (.putfield 26, 3) := by decide +kernel
theorem dX1_init_39 : decode cX1_init 39 = .ok (.aload_n 0, 1) := by decide +kernel
theorem dX1_init_40 : decode cX1_init 40 = .ok (.bipush 20, 2) := by decide +kernel
theorem dX1_init_42 : decode cX1_init 42 = .ok (.putfield 29, 3) := by decide +kernel
theorem dX1_init_45 : decode cX1_init 45 = .ok (.aload_n 0, 1) := by decide +kernel
theorem dX1_init_46 : decode cX1_init 46 = .ok (.iconst 1, 1) := by decide +kernel
theorem dX1_init_47 : decode cX1_init 47 = .ok (.putfield 32, 3) := by decide +kernel
theorem dX1_init_50 : decode cX1_init 50 = .ok (.aload_n 0, 1) := by decide +kernel
theorem dX1_init_51 : decode cX1_init 51 = .ok (.iconst 1, 1) := by decide +kernel
theorem dX1_init_52 : decode cX1_init 52 = .ok (.putfield 35, 3) := by decide +kernel
theorem dX1_init_55 : decode cX1_init 55 = .ok (.aload_n 0, 1) := by decide +kernel
theorem dX1_init_56 : decode cX1_init 56 = .ok (.iconst 0, 1) := by decide +kernel
theorem dX1_init_57 : decode cX1_init 57 = .ok (.putfield 38, 3) := by decide +kernel
theorem dX1_init_60 : decode cX1_init 60 = .ok (.aload_n 0, 1) := by decide +kernel
theorem dX1_init_61 : decode cX1_init 61 = .ok (.sipush 512, 3) := by decide +kernel
theorem dX1_init_64 : decode cX1_init 64 = .ok (.newarray .int, 2) := by decide +kernel
theorem dX1_init_66 : decode cX1_init 66 = .ok (.putfield 41, 3) := by decide +kernel
theorem dX1_init_69 : decode cX1_init 69 = .ok (.aload_n 0, 1) := by decide +kernel
theorem dX1_init_70 : decode cX1_init 70 = .ok (.iconst 0, 1) := by decide +kernel
theorem dX1_init_71 : decode cX1_init 71 = .ok (.putfield 44, 3) := by decide +kernel
theorem dX1_init_74 : decode cX1_init 74 = .ok (.aload_n 0, 1) := by decide +kernel
theorem dX1_init_75 : decode cX1_init 75 = .ok (.iconst 0, 1) := by decide +kernel
theorem dX1_init_76 : decode cX1_init 76 = .ok (.putfield 47, 3) := by decide +kernel
theorem dX1_init_79 : decode cX1_init 79 = .ok (.iconst 0, 1) := by decide +kernel
theorem dX1_init_80 : decode cX1_init 80 = .ok (.istore_n 1, 1) := by decide +kernel
theorem dX1_init_81 : decode cX1_init 81 = .ok (.iload_n 1, 1) := by decide +kernel
theorem dX1_init_82 : decode cX1_init 82 = .ok (.bipush 8, 2) := by decide +kernel
theorem dX1_init_84 : decode cX1_init 84 = .ok (.if_icmp .ge 22, 3) := by decide +kernel
theorem dX1_init_87 : decode cX1_init 87 = .ok (.aload_n 0, 1) := by decide +kernel
theorem dX1_init_88 : decode cX1_init 88 = .ok (.getfield 11, 3) := by decide +kernel
theorem dX1_init_91 : decode cX1_init 91 = .ok (.iload_n 1, 1) := by decide +kernel
theorem dX1_init_92 : decode cX1_init 92 = .ok (.new 9, 3) := by decide +kernel
theorem dX1_init_95 : decode cX1_init 95 = .ok (.dup, 1) := by decide +kernel
theorem dX1_init_96 : decode cX1_init 96 = .ok (.invokespecial 50, 3) := by decide +kernel
theorem dX1_init_99 : decode cX1_init 99 = .ok (.aastore, 1) := by decide +kernel
theorem dX1_init_100 : decode cX1_init 100 = .ok (.iinc 1 1, 3) := by decide +kernel
theorem dX1_init_103 : decode cX1_init 103 = .ok (.goto (-22), 3) := by decide +kernel
theorem dX1_init_106 : decode cX1_init 106 = .ok (.return_, 1) := by decide +kernel
set_option maxRecDepth 20000 in
theorem ggX1_kind_X0_open : GoodIn wsX1_kind wsX0_open := goodIn_r _ [7, 8, 9, 10, 11, 6, 12, 13, 14, 15, 16, 17, 18, 19, 20, 21, 22, 23, 24, 25, 26, 27, 28, 29, 30, 31, 32, 33, 34, 35, 36, 37, 50, 51, 52, 53, 54, 55, 56] (by decide +kernel) (by decide +kernel)
set_option maxRecDepth 20000 in
theorem gX1_kind_X0_open : GoodIn wsX1_kind (wsV RX1 51 RX0 yX0_open wsX0_open) := goodIn_app (goodIn_of _ (by decide +kernel)) ggX1_kind_X0_open
theorem dX1_kind_0 : decode cX1_kind 0 = .ok (.iload_n 1, 1) := by decide +kernel
theorem dX1_kind_1 : decode cX1_kind 1 = .ok (.ifCond .lt 8, 3) := by decide +kernel
theorem dX1_kind_4 : decode cX1_kind 4 = .ok (.iload_n 1, 1) := by decide +kernel
theorem dX1_kind_5 : decode cX1_kind 5 = .ok (.iconst 3, 1) := by decide +kernel
theorem dX1_kind_6 : decode cX1_kind 6 = .ok (.if_icmp .le 6, 3) := by decide +kernel
theorem dX1_kind_9 : decode cX1_kind 9 = .ok (.bipush (-2), 2) := by decide +kernel
theorem dX1_kind_11 : decode cX1_kind 11 = .ok (.ireturn, 1) := by decide +kernel
theorem dX1_kind_12 : decode cX1_kind 12 = .ok (.aload_n 0, 1) := by decide +kernel
theorem dX1_kind_13 : decode cX1_kind 13 = .ok (.getfield 15, 3) := by decide +kernel
theorem dX1_kind_16 : decode cX1_kind 16 = .ok (.bipush 8, 2) := by decide +kernel
theorem dX1_kind_18 : decode cX1_kind 18 = .ok (.if_icmp .ne 6, 3) := by decide +kernel
theorem dX1_kind_21 : decode cX1_kind 21 = .ok (.bipush (-4), 2) := by decide +kernel
theorem dX1_kind_23 : decode cX1_kind 23 = .ok (.ireturn, 1) := by decide +kernel
theorem dX1_kind_24 : decode cX1_kind 24 = .ok (.aload_n 0, 1) := by decide +kernel
theorem dX1_kind_25 : decode cX1_kind 25 = .ok (.getfield 11, 3) := by decide +kernel
theorem dX1_kind_28 : decode cX1_kind 28 = .ok (.aload_n 0, 1) := by decide +kernel
theorem dX1_kind_29 : decode cX1_kind 29 = .ok (.getfield 15, 3) := by decide +kernel
theorem dX1_kind_32 : decode cX1_kind 32 = .ok (.aaload, 1) := by decide +kernel
theorem dX1_kind_33 : decode cX1_kind 33 = .ok (.iload_n 1, 1) := by decide +kernel
theorem dX1_kind_34 : decode cX1_kind 34 = .ok (.invokevirtual 51, 3) := by decide +kernel
theorem dX1_kind_37 : decode cX1_kind 37 = .ok (.aload_n 0, 1) := by decide +kernel
theorem dX1_kind_38 : decode cX1_kind 38 = .ok (.dup, 1) := by decide +kernel
theorem dX1_kind_39 : decode cX1_kind 39 = .ok (.getfield 15, 3) := by decide +kernel
theorem dX1_kind_42 : decode cX1_kind 42 = .ok (.iconst 1, 1) := by decide +kernel
theorem dX1_kind_43 : decode cX1_kind 43 = .ok (.iadd, 1) := by decide +kernel
theorem dX1_kind_44 : decode cX1_kind 44 = .ok (.putfield 15, 3) := by decide +kernel
theorem dX1_kind_47 : decode cX1_kind 47 = .ok (.aload_n 0, 1) := by decide +kernel
theorem dX1_kind_48 : decode cX1_kind 48 = .ok (.getfield 15, 3) := by decide +kernel
theorem dX1_kind_51 : decode cX1_kind 51 = .ok (.iconst 1, 1) := by decide +kernel
theorem dX1_kind_52 : decode cX1_kind 52 = .ok (.isub, 1) := by decide +kernel
theorem dX1_kind_53 : decode cX1_kind 53 = .ok (.ireturn, 1) := by decide +kernel
set_option maxRecDepth 20000 in
theorem ggX1_range_X1_isKind : GoodIn wsX1_range wsX1_isKind := goodIn_r _ [6, 7, 51, 52, 53, 54, 55, 56, 57, 58, 59, 60, 61, 62] (by decide +kernel) (by decide +kernel)
set_option maxRecDepth 20000 in
theorem gX1_range_X1_isKind : GoodIn wsX1_range (wsV RX1 55 RX1 yX1_isKind wsX1_isKind) := goodIn_app (goodIn_of _ (by decide +kernel)) ggX1_range_X1_isKind
set_option maxRecDepth 20000 in
theorem ggX1_range_X0_isRange : GoodIn wsX1_range wsX0_isRange := goodIn_r _ [11, 12] (by decide +kernel) (by decide +kernel)
set_option maxRecDepth 20000 in
theorem gX1_range_X0_isRange : GoodIn wsX1_range (va_wsS RX1 59 yX0_isRange wsX0_isRange) := goodIn_app (goodIn_of _ (by decide +kernel)) ggX1_range_X0_isRange
set_option maxRecDepth 20000 in
theorem ggX1_range_X0_setRange : GoodIn wsX1_range wsX0_setRange := goodIn_r _ [16, 17, 18, 19, 20, 21, 10, 22, 23, 24, 25, 26, 27, 28, 29, 30, 31, 32, 33, 34, 35, 36, 37, 38, 39, 40, 41, 42, 43, 44, 45, 46, 63, 64, 65, 66, 67, 68, 69] (by decide +kernel) (by decide +kernel)
set_option maxRecDepth 20000 in
theorem gX1_range_X0_setRange : GoodIn wsX1_range (wsV RX1 63 RX0 yX0_setRange wsX0_setRange) := goodIn_app (goodIn_of _ (by decide +kernel)) ggX1_range_X0_setRange
set_option maxRecDepth 20000 in
theorem ggX1_range_X0_size : GoodIn wsX1_range wsX0_size := goodIn_r _ [50, 23, 63, 64, 65, 66, 67, 68, 69] (by decide +kernel) (by decide +kernel)
set_option maxRecDepth 20000 in
theorem gX1_range_X0_size : GoodIn wsX1_range (wsV RX1 67 RX0 yX0_size wsX0_size) := goodIn_app (goodIn_of _ (by decide +kernel)) ggX1_range_X0_size
theorem dX1_range_0 : decode cX1_range 0 = .ok (.aload_n 0, 1) := by decide +kernel
theorem dX1_range_1 : decode cX1_range 1 = .ok (.iload_n 1, 1) := by decide +kernel
theorem dX1_range_2 : decode cX1_range 2 = .ok (.invokevirtual 55, 3) := by decide +kernel
theorem dX1_range_5 : decode cX1_range 5 = .ok (.ifCond .ne 5, 3) := by decide +kernel
theorem dX1_range_8 : decode cX1_range 8 = .ok (.iconst (-1), 1) := by decide +kernel
theorem dX1_range_9 : decode cX1_range 9 = .ok (.ireturn, 1) := by decide +kernel
theorem dX1_range_10 : decode cX1_range 10 = .ok (.iload_n 2, 1) := by decide +kernel
theorem dX1_range_11 : decode cX1_range 11 = .ok (.iload_n 3, 1) := by decide +kernel
theorem dX1_range_12 : decode cX1_range 12 = .ok (.iload 4, 2) := by decide +kernel
theorem dX1_range_14 : decode cX1_range 14 = .ok (.invokestatic 59, 3) := by decide +kernel
theorem dX1_range_17 : decode cX1_range 17 = .ok (.ifCond .ne 6, 3) := by decide +kernel
theorem dX1_range_20 : decode cX1_range 20 = .ok (.bipush (-2), 2) := by decide +kernel
theorem dX1_range_22 : decode cX1_range 22 = .ok (.ireturn, 1) := by decide +kernel
theorem dX1_range_23 : decode cX1_range 23 = .ok (.aload_n 0, 1) := by decide +kernel
theorem dX1_range_24 : decode cX1_range 24 = .ok (.getfield 11, 3) := by decide +kernel
theorem dX1_range_27 : decode cX1_range 27 = .ok (.iload_n 1, 1) := by decide +kernel
theorem dX1_range_28 : decode cX1_range 28 = .ok (.aaload, 1) := by decide +kernel
theorem dX1_range_29 : decode cX1_range 29 = .ok (.iload_n 2, 1) := by decide +kernel
theorem dX1_range_30 : decode cX1_range 30 = .ok (.iload_n 3, 1) := by decide +kernel
theorem dX1_range_31 : decode cX1_range 31 = .ok (.iload 4, 2) := by decide +kernel
theorem dX1_range_33 : decode cX1_range 33 = .ok (.invokevirtual 63, 3) := by decide +kernel
theorem dX1_range_36 : decode cX1_range 36 = .ok (.aload_n 0, 1) := by decide +kernel
theorem dX1_range_37 : decode cX1_range 37 = .ok (.getfield 11, 3) := by decide +kernel
theorem dX1_range_40 : decode cX1_range 40 = .ok (.iload_n 1, 1) := by decide +kernel
theorem dX1_range_41 : decode cX1_range 41 = .ok (.aaload, 1) := by decide +kernel
theorem dX1_range_42 : decode cX1_range 42 = .ok (.invokevirtual 67, 3) := by decide +kernel
theorem dX1_range_45 : decode cX1_range 45 = .ok (.ireturn, 1) := by decide +kernel
set_option maxRecDepth 20000 in
theorem ggX1_rule_X1_isKind : GoodIn wsX1_rule wsX1_isKind := goodIn_r _ [6, 7, 48, 49, 50, 51, 52, 53, 54, 55, 56, 57, 58, 59] (by decide +kernel) (by decide +kernel)
set_option maxRecDepth 20000 in
theorem gX1_rule_X1_isKind : GoodIn wsX1_rule (wsV RX1 55 RX1 yX1_isKind wsX1_isKind) := goodIn_app (goodIn_of _ (by decide +kernel)) ggX1_rule_X1_isKind
set_option maxRecDepth 20000 in
theorem ggX1_rule_X0_isRule : GoodIn wsX1_rule wsX0_isRule := goodIn_r _ [11, 12, 13] (by decide +kernel) (by decide +kernel)
set_option maxRecDepth 20000 in
theorem gX1_rule_X0_isRule : GoodIn wsX1_rule (va_wsS RX1 71 yX0_isRule wsX0_isRule) := goodIn_app (goodIn_of _ (by decide +kernel)) ggX1_rule_X0_isRule
set_option maxRecDepth 20000 in
theorem ggX1_rule_X0_setRule : GoodIn wsX1_rule wsX0_setRule := goodIn_r _ [17, 18, 19, 20, 21, 10, 22, 23, 24, 25, 26, 27, 28, 29, 30, 31, 32, 33, 34, 35, 36, 37, 38, 39, 40, 41, 42, 43, 44, 45, 46, 47, 60, 61, 62, 63, 64, 65, 66] (by decide +kernel) (by decide +kernel)
set_option maxRecDepth 20000 in
theorem gX1_rule_X0_setRule : GoodIn wsX1_rule (wsV RX1 75 RX0 yX0_setRule wsX0_setRule) := goodIn_app (goodIn_of _ (by decide +kernel)) ggX1_rule_X0_setRule
theorem dX1_rule_0 : decode cX1_rule 0 = .ok (.aload_n 0, 1) := by decide +kernel
theorem dX1_rule_1 : decode cX1_rule 1 = .ok (.iload_n 1, 1) := by decide +kernel
theorem dX1_rule_2 : decode cX1_rule 2 = .ok (.invokevirtual 55, 3) := by decide +kernel
theorem dX1_rule_5 : decode cX1_rule 5 = .ok (.ifCond .ne 5, 3) := by decide +kernel
theorem dX1_rule_8 : decode cX1_rule 8 = .ok (.iconst (-1), 1) := by decide +kernel
theorem dX1_rule_9 : decode cX1_rule 9 = .ok (.ireturn, 1) := by decide +kernel
theorem dX1_rule_10 : decode cX1_rule 10 = .ok (.iload_n 2, 1) := by decide +kernel
theorem dX1_rule_11 : decode cX1_rule 11 = .ok (.iload_n 3, 1) := by decide +kernel
theorem dX1_rule_12 : decode cX1_rule 12 = .ok (.invokestatic 71, 3) := by decide +kernel
theorem dX1_rule_15 : decode cX1_rule 15 = .ok (.ifCond .ne 6, 3) := by decide +kernel
theorem dX1_rule_18 : decode cX1_rule 18 = .ok (.bipush (-2), 2) := by decide +kernel
theorem dX1_rule_20 : decode cX1_rule 20 = .ok (.ireturn, 1) := by decide +kernel
theorem dX1_rule_21 : decode cX1_rule 21 = .ok (.aload_n 0, 1) := by decide +kernel
theorem dX1_rule_22 : decode cX1_rule 22 = .ok (.getfield 11, 3) := by decide +kernel
end
section
theorem dX1_rule_25 : decode cX1_rule 25 = .ok (.iload_n 1, 1) := by decide +kernel
theorem dX1_rule_26 : decode cX1_rule 26 = .ok (.aaload, 1) := by decide +kernel
theorem dX1_rule_27 : decode cX1_rule 27 = .ok (.iload_n 2, 1) := by decide +kernel
theorem dX1_rule_28 : decode cX1_rule 28 = .ok (.iload_n 3, 1) := by decide +kernel
theorem dX1_rule_29 : decode cX1_rule 29 = .ok (.invokevirtual 75, 3) := by decide +kernel
theorem dX1_rule_32 : decode cX1_rule 32 = .ok (.ireturn, 1) := by decide +kernel
set_option maxRecDepth 20000 in
theorem ggX1_variants_X1_isKind : GoodIn wsX1_variants wsX1_isKind := goodIn_r _ [6, 7, 14, 15, 16, 17, 18, 19, 20, 21, 22, 23, 24, 25] (by decide +kernel) (by decide +kernel)
set_option maxRecDepth 20000 in
theorem gX1_variants_X1_isKind : GoodIn wsX1_variants (wsV RX1 55 RX1 yX1_isKind wsX1_isKind) := goodIn_app (goodIn_of _ (by decide +kernel)) ggX1_variants_X1_isKind
set_option maxRecDepth 20000 in
theorem ggX1_variants_X0_size : GoodIn wsX1_variants wsX0_size := goodIn_r _ [12, 13, 26, 27, 28, 29, 30, 31, 32] (by decide +kernel) (by decide +kernel)
set_option maxRecDepth 20000 in
theorem gX1_variants_X0_size : GoodIn wsX1_variants (wsV RX1 67 RX0 yX0_size wsX0_size) := goodIn_app (goodIn_of _ (by decide +kernel)) ggX1_variants_X0_size
theorem dX1_variants_0 : decode cX1_variants 0 = .ok (.aload_n 0, 1) := by decide +kernel
theorem dX1_variants_1 : decode cX1_variants 1 = .ok (.iload_n 1, 1) := by decide +kernel
theorem dX1_variants_2 : decode cX1_variants 2 = .ok (.invokevirtual 55, 3) := by decide +kernel
theorem dX1_variants_5 : decode cX1_variants 5 = .ok (.ifCond .eq 15, 3) := by decide +kernel
theorem dX1_variants_8 : decode cX1_variants 8 = .ok (.aload_n 0, 1) := by decide +kernel
theorem dX1_variants_9 : decode cX1_variants 9 = .ok (.getfield 11, 3) := by decide +kernel
theorem dX1_variants_12 : decode cX1_variants 12 = .ok (.iload_n 1, 1) := by decide +kernel
theorem dX1_variants_13 : decode cX1_variants 13 = .ok (.aaload, 1) := by decide +kernel
theorem dX1_variants_14 : decode cX1_variants 14 = .ok (.invokevirtual 67, 3) := by decide +kernel
theorem dX1_variants_17 : decode cX1_variants 17 = .ok (.goto 4, 3) := by decide +kernel
theorem dX1_variants_20 : decode cX1_variants 20 = .ok (.iconst (-1), 1) := by decide +kernel
theorem dX1_variants_21 : decode cX1_variants 21 = .ok (.ireturn, 1) := by decide +kernel
set_option maxRecDepth 20000 in
theorem ggX1_variant_X1_isVariant : GoodIn wsX1_variant wsX1_isVariant := goodIn_r _ [6, 1, 7, 8, 9, 5, 10, 11, 12, 13, 14, 15, 16, 17, 45, 46, 47, 48, 49, 50, 51, 52, 53, 54, 55, 56, 57, 58, 59, 60, 61, 62, 63] (by decide +kernel) (by decide +kernel)
set_option maxRecDepth 20000 in
theorem gX1_variant_X1_isVariant : GoodIn wsX1_variant (wsV RX1 79 RX1 yX1_isVariant wsX1_isVariant) := goodIn_app (goodIn_of _ (by decide +kernel)) ggX1_variant_X1_isVariant
set_option maxRecDepth 20000 in
theorem ggX1_variant_X0_pairAt : GoodIn wsX1_variant wsX0_pairAt := goodIn_r _ [21, 22, 23, 24, 25, 26, 27, 15, 28, 29, 30, 31, 32, 33, 34, 35, 36, 37, 38, 39, 40, 41, 42, 57, 58, 59, 60, 61, 62, 63] (by decide +kernel) (by decide +kernel)
set_option maxRecDepth 20000 in
theorem gX1_variant_X0_pairAt : GoodIn wsX1_variant (wsV RX1 82 RX0 yX0_pairAt wsX0_pairAt) := goodIn_app (goodIn_of _ (by decide +kernel)) ggX1_variant_X0_pairAt
set_option maxRecDepth 20000 in
theorem ggX1_variant_X0_result : GoodIn wsX1_variant wsX0_result := goodIn_r _ [33, 34, 57, 58, 59, 60, 61, 62, 63] (by decide +kernel) (by decide +kernel)
set_option maxRecDepth 20000 in
theorem gX1_variant_X0_result : GoodIn wsX1_variant (wsV RX1 86 RX0 yX0_result wsX0_result) := goodIn_app (goodIn_of _ (by decide +kernel)) ggX1_variant_X0_result
set_option maxRecDepth 20000 in
theorem ggX1_variant_X0_carries : GoodIn wsX1_variant wsX0_carries := goodIn_r _ [38, 34, 57, 58, 59, 60, 61, 62, 63] (by decide +kernel) (by decide +kernel)
set_option maxRecDepth 20000 in
theorem gX1_variant_X0_carries : GoodIn wsX1_variant (wsV RX1 89 RX0 yX0_carries wsX0_carries) := goodIn_app (goodIn_of _ (by decide +kernel)) ggX1_variant_X0_carries
theorem dX1_variant_0 : decode cX1_variant 0 = .ok (.aload_n 0, 1) := by decide +kernel
theorem dX1_variant_1 : decode cX1_variant 1 = .ok (.iload_n 1, 1) := by decide +kernel
theorem dX1_variant_2 : decode cX1_variant 2 = .ok (.iload_n 2, 1) := by decide +kernel
theorem dX1_variant_3 : decode cX1_variant 3 = .ok (.invokevirtual 79, 3) := by decide +kernel
theorem dX1_variant_6 : decode cX1_variant 6 = .ok (.ifCond .ne 5, 3) := by decide +kernel
theorem dX1_variant_9 : decode cX1_variant 9 = .ok (.iconst (-1), 1) := by decide +kernel
theorem dX1_variant_10 : decode cX1_variant 10 = .ok (.ireturn, 1) := by decide +kernel
theorem dX1_variant_11 : decode cX1_variant 11 = .ok (.aload_n 0, 1) := by decide +kernel
theorem dX1_variant_12 : decode cX1_variant 12 = .ok (.getfield 11, 3) := by decide +kernel
theorem dX1_variant_15 : decode cX1_variant 15 = .ok (.iload_n 1, 1) := by decide +kernel
theorem dX1_variant_16 : decode cX1_variant 16 = .ok (.aaload, 1) := by decide +kernel
theorem dX1_variant_17 : decode cX1_variant 17 = .ok (.iload_n 2, 1) := by decide +kernel
theorem dX1_variant_18 : decode cX1_variant 18 = .ok (.invokevirtual 82, 3) := by decide +kernel
theorem dX1_variant_21 : decode cX1_variant 21 = .ok (.istore 4, 2) := by decide +kernel
theorem dX1_variant_23 : decode cX1_variant 23 = .ok (.iload 4, 2) := by decide +kernel
theorem dX1_variant_25 : decode cX1_variant 25 = .ok (.bipush 100, 2) := by decide +kernel
theorem dX1_variant_27 : decode cX1_variant 27 = .ok (.idiv, 1) := by decide +kernel
theorem dX1_variant_28 : decode cX1_variant 28 = .ok (.istore 5, 2) := by decide +kernel
theorem dX1_variant_30 : decode cX1_variant 30 = .ok (.iload 4, 2) := by decide +kernel
theorem dX1_variant_32 : decode cX1_variant 32 = .ok (.bipush 100, 2) := by decide +kernel
theorem dX1_variant_34 : decode cX1_variant 34 = .ok (.irem, 1) := by decide +kernel
theorem dX1_variant_35 : decode cX1_variant 35 = .ok (.istore 6, 2) := by decide +kernel
theorem dX1_variant_37 : decode cX1_variant 37 = .ok (.iload_n 3, 1) := by decide +kernel
theorem dX1_variant_38 : decode cX1_variant 38 = .ok (.tableswitch 72 0 3 #[30, 33, 36, 50], 30) := by decide +kernel
theorem dX1_variant_68 : decode cX1_variant 68 = .ok (.iload 5, 2) := by decide +kernel
theorem dX1_variant_70 : decode cX1_variant 70 = .ok (.ireturn, 1) := by decide +kernel
theorem dX1_variant_71 : decode cX1_variant 71 = .ok (.iload 6, 2) := by decide +kernel
theorem dX1_variant_73 : decode cX1_variant 73 = .ok (.ireturn, 1) := by decide +kernel
theorem dX1_variant_74 : decode cX1_variant 74 = .ok (.aload_n 0, 1) := by decide +kernel
theorem dX1_variant_75 : decode cX1_variant 75 = .ok (.getfield 11, 3) := by decide +kernel
theorem dX1_variant_78 : decode cX1_variant 78 = .ok (.iload_n 1, 1) := by decide +kernel
theorem dX1_variant_79 : decode cX1_variant 79 = .ok (.aaload, 1) := by decide +kernel
theorem dX1_variant_80 : decode cX1_variant 80 = .ok (.iload 5, 2) := by decide +kernel
theorem dX1_variant_82 : decode cX1_variant 82 = .ok (.iload 6, 2) := by decide +kernel
theorem dX1_variant_84 : decode cX1_variant 84 = .ok (.invokevirtual 86, 3) := by decide +kernel
theorem dX1_variant_87 : decode cX1_variant 87 = .ok (.ireturn, 1) := by decide +kernel
theorem dX1_variant_88 : decode cX1_variant 88 = .ok (.aload_n 0, 1) := by decide +kernel
theorem dX1_variant_89 : decode cX1_variant 89 = .ok (.getfield 11, 3) := by decide +kernel
theorem dX1_variant_92 : decode cX1_variant 92 = .ok (.iload_n 1, 1) := by decide +kernel
theorem dX1_variant_93 : decode cX1_variant 93 = .ok (.aaload, 1) := by decide +kernel
theorem dX1_variant_94 : decode cX1_variant 94 = .ok (.iload 5, 2) := by decide +kernel
theorem dX1_variant_96 : decode cX1_variant 96 = .ok (.iload 6, 2) := by decide +kernel
theorem dX1_variant_98 : decode cX1_variant 98 = .ok (.invokevirtual 89, 3) := by decide +kernel
theorem dX1_variant_101 : decode cX1_variant 101 = .ok (.ifCond .eq 7, 3) := by decide +kernel
theorem dX1_variant_104 : decode cX1_variant 104 = .ok (.iconst 1, 1) := by decide +kernel
theorem dX1_variant_105 : decode cX1_variant 105 = .ok (.goto 4, 3) := by decide +kernel
theorem dX1_variant_108 : decode cX1_variant 108 = .ok (.iconst 0, 1) := by decide +kernel
theorem dX1_variant_109 : decode cX1_variant 109 = .ok (.ireturn, 1) := by decide +kernel
theorem dX1_variant_110 : decode cX1_variant 110 = .ok (.bipush (-2), 2) := by decide +kernel
theorem dX1_variant_112 : decode cX1_variant 112 = .ok (.ireturn, 1) := by decide +kernel
set_option maxRecDepth 20000 in
theorem ggX1_find_X1_isKind : GoodIn wsX1_find wsX1_isKind := goodIn_r _ [6, 7, 38, 39, 40, 41, 42, 43, 44, 45, 46, 47, 48, 49] (by decide +kernel) (by decide +kernel)
set_option maxRecDepth 20000 in
theorem gX1_find_X1_isKind : GoodIn wsX1_find (wsV RX1 55 RX1 yX1_isKind wsX1_isKind) := goodIn_app (goodIn_of _ (by decide +kernel)) ggX1_find_X1_isKind
set_option maxRecDepth 20000 in
theorem ggX1_find_X0_numberOf : GoodIn wsX1_find wsX0_numberOf := goodIn_r _ [12, 13, 14, 15, 16, 17, 18, 11, 19, 20, 21, 22, 23, 24, 25, 26, 27, 28, 29, 30, 31, 32, 33, 34, 35, 36, 37, 50, 51, 52, 53, 54, 55, 56] (by decide +kernel) (by decide +kernel)
set_option maxRecDepth 20000 in
theorem gX1_find_X0_numberOf : GoodIn wsX1_find (wsV RX1 92 RX0 yX0_numberOf wsX0_numberOf) := goodIn_app (goodIn_of _ (by decide +kernel)) ggX1_find_X0_numberOf
theorem dX1_find_0 : decode cX1_find 0 = .ok (.aload_n 0, 1) := by decide +kernel
theorem dX1_find_1 : decode cX1_find 1 = .ok (.iload_n 1, 1) := by decide +kernel
theorem dX1_find_2 : decode cX1_find 2 = .ok (.invokevirtual 55, 3) := by decide +kernel
theorem dX1_find_5 : decode cX1_find 5 = .ok (.ifCond .eq 17, 3) := by decide +kernel
theorem dX1_find_8 : decode cX1_find 8 = .ok (.aload_n 0, 1) := by decide +kernel
theorem dX1_find_9 : decode cX1_find 9 = .ok (.getfield 11, 3) := by decide +kernel
theorem dX1_find_12 : decode cX1_find 12 = .ok (.iload_n 1, 1) := by decide +kernel
theorem dX1_find_13 : decode cX1_find 13 = .ok (.aaload, 1) := by decide +kernel
theorem dX1_find_14 : decode cX1_find 14 = .ok (.iload_n 2, 1) := by decide +kernel
theorem dX1_find_15 : decode cX1_find 15 = .ok (.iload_n 3, 1) := by decide +kernel
theorem dX1_find_16 : decode cX1_find 16 = .ok (.invokevirtual 92, 3) := by decide +kernel
theorem dX1_find_19 : decode cX1_find 19 = .ok (.goto 4, 3) := by decide +kernel
theorem dX1_find_22 : decode cX1_find 22 = .ok (.iconst (-1), 1) := by decide +kernel
theorem dX1_find_23 : decode cX1_find 23 = .ok (.ireturn, 1) := by decide +kernel
set_option maxRecDepth 20000 in
theorem ggX1_slip_X1_isVariant : GoodIn wsX1_slip wsX1_isVariant := goodIn_r _ [6, 1, 7, 8, 9, 5, 10, 11, 12, 13, 14, 15, 16, 17, 58, 59, 60, 61, 62, 63, 64, 65, 66, 67, 68, 69, 70, 71, 72, 73, 74, 75, 76] (by decide +kernel) (by decide +kernel)
set_option maxRecDepth 20000 in
theorem gX1_slip_X1_isVariant : GoodIn wsX1_slip (wsV RX1 79 RX1 yX1_isVariant wsX1_isVariant) := goodIn_app (goodIn_of _ (by decide +kernel)) ggX1_slip_X1_isVariant
set_option maxRecDepth 20000 in
theorem ggX1_slip_X0_pairAt : GoodIn wsX1_slip wsX0_pairAt := goodIn_r _ [21, 22, 23, 24, 25, 26, 27, 15, 28, 29, 30, 31, 32, 33, 34, 35, 36, 37, 38, 39, 40, 41, 42, 70, 71, 72, 73, 74, 75, 76] (by decide +kernel) (by decide +kernel)
set_option maxRecDepth 20000 in
theorem gX1_slip_X0_pairAt : GoodIn wsX1_slip (wsV RX1 82 RX0 yX0_pairAt wsX0_pairAt) := goodIn_app (goodIn_of _ (by decide +kernel)) ggX1_slip_X0_pairAt
set_option maxRecDepth 20000 in
theorem ggX1_slip_X0_slipped : GoodIn wsX1_slip wsX0_slipped := goodIn_r _ [46, 30, 31, 32, 15, 33, 34, 39, 40, 41, 42, 35, 36, 37, 38, 47, 48, 49, 50, 51, 52, 53, 54, 55, 56, 57, 70, 71, 72, 73, 74, 75, 76] (by decide +kernel) (by decide +kernel)
set_option maxRecDepth 20000 in
theorem gX1_slip_X0_slipped : GoodIn wsX1_slip (wsV RX1 95 RX0 yX0_slipped wsX0_slipped) := goodIn_app (goodIn_of _ (by decide +kernel)) ggX1_slip_X0_slipped
theorem dX1_slip_0 : decode cX1_slip 0 = .ok (.aload_n 0, 1) := by decide +kernel
theorem dX1_slip_1 : decode cX1_slip 1 = .ok (.iload_n 1, 1) := by decide +kernel
theorem dX1_slip_2 : decode cX1_slip 2 = .ok (.iload_n 2, 1) := by decide +kernel
theorem dX1_slip_3 : decode cX1_slip 3 = .ok (.invokevirtual 79, 3) := by decide +kernel
theorem dX1_slip_6 : decode cX1_slip 6 = .ok (.ifCond .ne 5, 3) := by decide +kernel
theorem dX1_slip_9 : decode cX1_slip 9 = .ok (.iconst (-1), 1) := by decide +kernel
theorem dX1_slip_10 : decode cX1_slip 10 = .ok (.ireturn, 1) := by decide +kernel
theorem dX1_slip_11 : decode cX1_slip 11 = .ok (.iload_n 3, 1) := by decide +kernel
theorem dX1_slip_12 : decode cX1_slip 12 = .ok (.iconst 1, 1) := by decide +kernel
theorem dX1_slip_13 : decode cX1_slip 13 = .ok (.if_icmp .lt 8, 3) := by decide +kernel
theorem dX1_slip_16 : decode cX1_slip 16 = .ok (.iload_n 3, 1) := by decide +kernel
theorem dX1_slip_17 : decode cX1_slip 17 = .ok (.iconst 5, 1) := by decide +kernel
theorem dX1_slip_18 : decode cX1_slip 18 = .ok (.if_icmp .le 6, 3) := by decide +kernel
theorem dX1_slip_21 : decode cX1_slip 21 = .ok (.bipush (-2), 2) := by decide +kernel
theorem dX1_slip_23 : decode cX1_slip 23 = .ok (.ireturn, 1) := by decide +kernel
theorem dX1_slip_24 : decode cX1_slip 24 = .ok (.aload_n 0, 1) := by decide +kernel
theorem dX1_slip_25 : decode cX1_slip 25 = .ok (.getfield 11, 3) := by decide +kernel
theorem dX1_slip_28 : decode cX1_slip 28 = .ok (.iload_n 1, 1) := by decide +kernel
theorem dX1_slip_29 : decode cX1_slip 29 = .ok (.aaload, 1) := by decide +kernel
theorem dX1_slip_30 : decode cX1_slip 30 = .ok (.iload_n 2, 1) := by decide +kernel
theorem dX1_slip_31 : decode cX1_slip 31 = .ok (.invokevirtual 82, 3) := by decide +kernel
theorem dX1_slip_34 : decode cX1_slip 34 = .ok (.istore 4, 2) := by decide +kernel
theorem dX1_slip_36 : decode cX1_slip 36 = .ok (.aload_n 0, 1) := by decide +kernel
theorem dX1_slip_37 : decode cX1_slip 37 = .ok (.getfield 11, 3) := by decide +kernel
theorem dX1_slip_40 : decode cX1_slip 40 = .ok (.iload_n 1, 1) := by decide +kernel
theorem dX1_slip_41 : decode cX1_slip 41 = .ok (.aaload, 1) := by decide +kernel
theorem dX1_slip_42 : decode cX1_slip 42 = .ok (.iload 4, 2) := by decide +kernel
theorem dX1_slip_44 : decode cX1_slip 44 = .ok (.bipush 100, 2) := by decide +kernel
theorem dX1_slip_46 : decode cX1_slip 46 = .ok (.idiv, 1) := by decide +kernel
theorem dX1_slip_47 : decode cX1_slip 47 = .ok (.iload 4, 2) := by decide +kernel
theorem dX1_slip_49 : decode cX1_slip 49 = .ok (.bipush 100, 2) := by decide +kernel
theorem dX1_slip_51 : decode cX1_slip 51 = .ok (.irem, 1) := by decide +kernel
theorem dX1_slip_52 : decode cX1_slip 52 = .ok (.iload_n 3, 1) := by decide +kernel
theorem dX1_slip_53 : decode cX1_slip 53 = .ok (.invokevirtual 95, 3) := by decide +kernel
theorem dX1_slip_56 : decode cX1_slip 56 = .ok (.ireturn, 1) := by decide +kernel
set_option maxRecDepth 20000 in
theorem ggX1_tells_X1_isVariant : GoodIn wsX1_tells wsX1_isVariant := goodIn_r _ [6, 1, 7, 8, 9, 5, 10, 11, 12, 13, 14, 15, 16, 17, 62, 63, 64, 65, 66, 67, 68, 69, 70, 71, 72, 73, 74, 75, 76, 77, 78, 79, 80] (by decide +kernel) (by decide +kernel)
set_option maxRecDepth 20000 in
theorem gX1_tells_X1_isVariant : GoodIn wsX1_tells (wsV RX1 79 RX1 yX1_isVariant wsX1_isVariant) := goodIn_app (goodIn_of _ (by decide +kernel)) ggX1_tells_X1_isVariant
set_option maxRecDepth 20000 in
theorem ggX1_tells_X0_slipBehind : GoodIn wsX1_tells wsX0_slipBehind := goodIn_r _ [21, 22, 23, 24, 15, 25, 26, 27, 28, 29, 30, 31, 32, 33, 34, 35, 36, 37, 38, 39, 40, 41, 42, 43, 44, 45, 46, 47, 48, 49, 50, 51, 52, 53, 54, 55, 56, 57, 58, 59, 60, 61, 74, 75, 76, 77, 78, 79, 80] (by decide +kernel) (by decide +kernel)
set_option maxRecDepth 20000 in
theorem gX1_tells_X0_slipBehind : GoodIn wsX1_tells (wsV RX1 99 RX0 yX0_slipBehind wsX0_slipBehind) := goodIn_app (goodIn_of _ (by decide +kernel)) ggX1_tells_X0_slipBehind
theorem dX1_tells_0 : decode cX1_tells 0 = .ok (.aload_n 0, 1) := by decide +kernel
theorem dX1_tells_1 : decode cX1_tells 1 = .ok (.iload_n 1, 1) := by decide +kernel
theorem dX1_tells_2 : decode cX1_tells 2 = .ok (.iload_n 2, 1) := by decide +kernel
theorem dX1_tells_3 : decode cX1_tells 3 = .ok (.invokevirtual 79, 3) := by decide +kernel
theorem dX1_tells_6 : decode cX1_tells 6 = .ok (.ifCond .eq 17, 3) := by decide +kernel
theorem dX1_tells_9 : decode cX1_tells 9 = .ok (.aload_n 0, 1) := by decide +kernel
theorem dX1_tells_10 : decode cX1_tells 10 = .ok (.getfield 11, 3) := by decide +kernel
theorem dX1_tells_13 : decode cX1_tells 13 = .ok (.iload_n 1, 1) := by decide +kernel
theorem dX1_tells_14 : decode cX1_tells 14 = .ok (.aaload, 1) := by decide +kernel
theorem dX1_tells_15 : decode cX1_tells 15 = .ok (.iload_n 2, 1) := by decide +kernel
theorem dX1_tells_16 : decode cX1_tells 16 = .ok (.iload_n 3, 1) := by decide +kernel
theorem dX1_tells_17 : decode cX1_tells 17 = .ok (.invokevirtual 99, 3) := by decide +kernel
theorem dX1_tells_20 : decode cX1_tells 20 = .ok (.goto 4, 3) := by decide +kernel
theorem dX1_tells_23 : decode cX1_tells 23 = .ok (.iconst (-1), 1) := by decide +kernel
theorem dX1_tells_24 : decode cX1_tells 24 = .ok (.ireturn, 1) := by decide +kernel
theorem dX1_isKind_0 : decode cX1_isKind 0 = .ok (.iload_n 1, 1) := by decide +kernel
theorem dX1_isKind_1 : decode cX1_isKind 1 = .ok (.ifCond .lt 15, 3) := by decide +kernel
theorem dX1_isKind_4 : decode cX1_isKind 4 = .ok (.iload_n 1, 1) := by decide +kernel
theorem dX1_isKind_5 : decode cX1_isKind 5 = .ok (.aload_n 0, 1) := by decide +kernel
theorem dX1_isKind_6 : decode cX1_isKind 6 = .ok (.getfield 15, 3) := by decide +kernel
theorem dX1_isKind_9 : decode cX1_isKind 9 = .ok (.if_icmp .ge 7, 3) := by decide +kernel
theorem dX1_isKind_12 : decode cX1_isKind 12 = .ok (.iconst 1, 1) := by decide +kernel
theorem dX1_isKind_13 : decode cX1_isKind 13 = .ok (.goto 4, 3) := by decide +kernel
theorem dX1_isKind_16 : decode cX1_isKind 16 = .ok (.iconst 0, 1) := by decide +kernel
theorem dX1_isKind_17 : decode cX1_isKind 17 = .ok (.ireturn, 1) := by decide +kernel
set_option maxRecDepth 20000 in
theorem ggX1_isVariant_X1_isKind : GoodIn wsX1_isVariant wsX1_isKind := goodIn_r _ [6, 7, 14, 15, 16, 17, 18, 19, 20, 21, 22, 23, 24, 25] (by decide +kernel) (by decide +kernel)
set_option maxRecDepth 20000 in
theorem gX1_isVariant_X1_isKind : GoodIn wsX1_isVariant (wsV RX1 55 RX1 yX1_isKind wsX1_isKind) := goodIn_app (goodIn_of _ (by decide +kernel)) ggX1_isVariant_X1_isKind
set_option maxRecDepth 20000 in
theorem ggX1_isVariant_X0_size : GoodIn wsX1_isVariant wsX0_size := goodIn_r _ [12, 13, 26, 27, 28, 29, 30, 31, 32] (by decide +kernel) (by decide +kernel)
set_option maxRecDepth 20000 in
theorem gX1_isVariant_X0_size : GoodIn wsX1_isVariant (wsV RX1 67 RX0 yX0_size wsX0_size) := goodIn_app (goodIn_of _ (by decide +kernel)) ggX1_isVariant_X0_size
theorem dX1_isVariant_0 : decode cX1_isVariant 0 = .ok (.aload_n 0, 1) := by decide +kernel
theorem dX1_isVariant_1 : decode cX1_isVariant 1 = .ok (.iload_n 1, 1) := by decide +kernel
theorem dX1_isVariant_2 : decode cX1_isVariant 2 = .ok (.invokevirtual 55, 3) := by decide +kernel
theorem dX1_isVariant_5 : decode cX1_isVariant 5 = .ok (.ifCond .eq 24, 3) := by decide +kernel
theorem dX1_isVariant_8 : decode cX1_isVariant 8 = .ok (.iload_n 2, 1) := by decide +kernel
theorem dX1_isVariant_9 : decode cX1_isVariant 9 = .ok (.ifCond .lt 20, 3) := by decide +kernel
theorem dX1_isVariant_12 : decode cX1_isVariant 12 = .ok (.iload_n 2, 1) := by decide +kernel
theorem dX1_isVariant_13 : decode cX1_isVariant 13 = .ok (.aload_n 0, 1) := by decide +kernel
theorem dX1_isVariant_14 : decode cX1_isVariant 14 = .ok (.getfield 11, 3) := by decide +kernel
theorem dX1_isVariant_17 : decode cX1_isVariant 17 = .ok (.iload_n 1, 1) := by decide +kernel
theorem dX1_isVariant_18 : decode cX1_isVariant 18 = .ok (.aaload, 1) := by decide +kernel
theorem dX1_isVariant_19 : decode cX1_isVariant 19 = .ok (.invokevirtual 67, 3) := by decide +kernel
theorem dX1_isVariant_22 : decode cX1_isVariant 22 = .ok (.if_icmp .ge 7, 3) := by decide +kernel
theorem dX1_isVariant_25 : decode cX1_isVariant 25 = .ok (.iconst 1, 1) := by decide +kernel
theorem dX1_isVariant_26 : decode cX1_isVariant 26 = .ok (.goto 4, 3) := by decide +kernel
theorem dX1_isVariant_29 : decode cX1_isVariant 29 = .ok (.iconst 0, 1) := by decide +kernel
theorem dX1_isVariant_30 : decode cX1_isVariant 30 = .ok (.ireturn, 1) := by decide +kernel
set_option maxRecDepth 20000 in
theorem ggX1_plan_X1_isKind : GoodIn wsX1_plan wsX1_isKind := goodIn_r _ [9, 10, 17, 18, 19, 20, 21, 22, 23, 24, 25, 26, 27, 28] (by decide +kernel) (by decide +kernel)
set_option maxRecDepth 20000 in
theorem gX1_plan_X1_isKind : GoodIn wsX1_plan (wsV RX1 55 RX1 yX1_isKind wsX1_isKind) := goodIn_app (goodIn_of _ (by decide +kernel)) ggX1_plan_X1_isKind
set_option maxRecDepth 20000 in
theorem ggX1_plan_X0_addPlace : GoodIn wsX1_plan wsX0_addPlace := goodIn_r _ [15, 16, 29, 30, 31, 32, 33, 34, 35] (by decide +kernel) (by decide +kernel)
set_option maxRecDepth 20000 in
theorem gX1_plan_X0_addPlace : GoodIn wsX1_plan (wsV RX1 102 RX0 yX0_addPlace wsX0_addPlace) := goodIn_app (goodIn_of _ (by decide +kernel)) ggX1_plan_X0_addPlace
theorem dX1_plan_0 : decode cX1_plan 0 = .ok (.aload_n 0, 1) := by decide +kernel
theorem dX1_plan_1 : decode cX1_plan 1 = .ok (.iload_n 1, 1) := by decide +kernel
theorem dX1_plan_2 : decode cX1_plan 2 = .ok (.invokevirtual 55, 3) := by decide +kernel
theorem dX1_plan_5 : decode cX1_plan 5 = .ok (.ifCond .ne 5, 3) := by decide +kernel
theorem dX1_plan_8 : decode cX1_plan 8 = .ok (.iconst (-1), 1) := by decide +kernel
theorem dX1_plan_9 : decode cX1_plan 9 = .ok (.ireturn, 1) := by decide +kernel
theorem dX1_plan_10 : decode cX1_plan 10 = .ok (.iload_n 2, 1) := by decide +kernel
theorem dX1_plan_11 : decode cX1_plan 11 = .ok (.iconst 1, 1) := by decide +kernel
theorem dX1_plan_12 : decode cX1_plan 12 = .ok (.if_icmp .lt 9, 3) := by decide +kernel
theorem dX1_plan_15 : decode cX1_plan 15 = .ok (.iload_n 2, 1) := by decide +kernel
theorem dX1_plan_16 : decode cX1_plan 16 = .ok (.bipush 40, 2) := by decide +kernel
theorem dX1_plan_18 : decode cX1_plan 18 = .ok (.if_icmp .le 6, 3) := by decide +kernel
theorem dX1_plan_21 : decode cX1_plan 21 = .ok (.bipush (-2), 2) := by decide +kernel
theorem dX1_plan_23 : decode cX1_plan 23 = .ok (.ireturn, 1) := by decide +kernel
theorem dX1_plan_24 : decode cX1_plan 24 = .ok (.iload_n 2, 1) := by decide +kernel
theorem dX1_plan_25 : decode cX1_plan 25 = .ok (.bipush 40, 2) := by decide +kernel
theorem dX1_plan_27 : decode cX1_plan 27 = .ok (.aload_n 0, 1) := by decide +kernel
theorem dX1_plan_28 : decode cX1_plan 28 = .ok (.getfield 26, 3) := by decide +kernel
theorem dX1_plan_31 : decode cX1_plan 31 = .ok (.isub, 1) := by decide +kernel
theorem dX1_plan_32 : decode cX1_plan 32 = .ok (.if_icmp .le 6, 3) := by decide +kernel
theorem dX1_plan_35 : decode cX1_plan 35 = .ok (.bipush (-4), 2) := by decide +kernel
theorem dX1_plan_37 : decode cX1_plan 37 = .ok (.ireturn, 1) := by decide +kernel
theorem dX1_plan_38 : decode cX1_plan 38 = .ok (.iconst 0, 1) := by decide +kernel
theorem dX1_plan_39 : decode cX1_plan 39 = .ok (.istore_n 3, 1) := by decide +kernel
theorem dX1_plan_40 : decode cX1_plan 40 = .ok (.iload_n 3, 1) := by decide +kernel
theorem dX1_plan_41 : decode cX1_plan 41 = .ok (.iload_n 2, 1) := by decide +kernel
theorem dX1_plan_42 : decode cX1_plan 42 = .ok (.if_icmp .ge 47, 3) := by decide +kernel
theorem dX1_plan_45 : decode cX1_plan 45 = .ok (.aload_n 0, 1) := by decide +kernel
theorem dX1_plan_46 : decode cX1_plan 46 = .ok (.getfield 19, 3) := by decide +kernel
theorem dX1_plan_49 : decode cX1_plan 49 = .ok (.aload_n 0, 1) := by decide +kernel
theorem dX1_plan_50 : decode cX1_plan 50 = .ok (.getfield 26, 3) := by decide +kernel
theorem dX1_plan_53 : decode cX1_plan 53 = .ok (.iload_n 1, 1) := by decide +kernel
theorem dX1_plan_54 : decode cX1_plan 54 = .ok (.iastore, 1) := by decide +kernel
theorem dX1_plan_55 : decode cX1_plan 55 = .ok (.aload_n 0, 1) := by decide +kernel
theorem dX1_plan_56 : decode cX1_plan 56 = .ok (.getfield 23, 3) := by decide +kernel
theorem dX1_plan_59 : decode cX1_plan 59 = .ok (.aload_n 0, 1) := by decide +kernel
theorem dX1_plan_60 : decode cX1_plan 60 = .ok (.getfield 26, 3) := by decide +kernel
theorem dX1_plan_63 : decode cX1_plan 63 = .ok (.aload_n 0, 1) := by decide +kernel
theorem dX1_plan_64 : decode cX1_plan 64 = .ok (.getfield 11, 3) := by decide +kernel
theorem dX1_plan_67 : decode cX1_plan 67 = .ok (.iload_n 1, 1) := by decide +kernel
theorem dX1_plan_68 : decode cX1_plan 68 = .ok (.aaload, 1) := by decide +kernel
theorem dX1_plan_69 : decode cX1_plan 69 = .ok (.invokevirtual 102, 3) := by decide +kernel
theorem dX1_plan_72 : decode cX1_plan 72 = .ok (.iastore, 1) := by decide +kernel
theorem dX1_plan_73 : decode cX1_plan 73 = .ok (.aload_n 0, 1) := by decide +kernel
theorem dX1_plan_74 : decode cX1_plan 74 = .ok (.dup, 1) := by decide +kernel
theorem dX1_plan_75 : decode cX1_plan 75 = .ok (.getfield 26, 3) := by decide +kernel
theorem dX1_plan_78 : decode cX1_plan 78 = .ok (.iconst 1, 1) := by decide +kernel
theorem dX1_plan_79 : decode cX1_plan 79 = .ok (.iadd, 1) := by decide +kernel
theorem dX1_plan_80 : decode cX1_plan 80 = .ok (.putfield 26, 3) := by decide +kernel
theorem dX1_plan_83 : decode cX1_plan 83 = .ok (.iinc 3 1, 3) := by decide +kernel
theorem dX1_plan_86 : decode cX1_plan 86 = .ok (.goto (-46), 3) := by decide +kernel
theorem dX1_plan_89 : decode cX1_plan 89 = .ok (.aload_n 0, 1) := by decide +kernel
theorem dX1_plan_90 : decode cX1_plan 90 = .ok (.getfield 26, 3) := by decide +kernel
theorem dX1_plan_93 : decode cX1_plan 93 = .ok (.ireturn, 1) := by decide +kernel
set_option maxRecDepth 20000 in
theorem ggX1_clear_X0_dropPlaces : GoodIn wsX1_clear wsX0_dropPlaces := goodIn_r _ [8, 9, 22, 23, 24, 25, 26, 27, 28] (by decide +kernel) (by decide +kernel)
set_option maxRecDepth 20000 in
theorem gX1_clear_X0_dropPlaces : GoodIn wsX1_clear (wsV RX1 105 RX0 yX0_dropPlaces wsX0_dropPlaces) := goodIn_app (goodIn_of _ (by decide +kernel)) ggX1_clear_X0_dropPlaces
theorem dX1_clear_0 : decode cX1_clear 0 = .ok (.aload_n 0, 1) := by decide +kernel
theorem dX1_clear_1 : decode cX1_clear 1 = .ok (.getfield 26, 3) := by decide +kernel
theorem dX1_clear_4 : decode cX1_clear 4 = .ok (.istore_n 1, 1) := by decide +kernel
theorem dX1_clear_5 : decode cX1_clear 5 = .ok (.aload_n 0, 1) := by decide +kernel
theorem dX1_clear_6 : decode cX1_clear 6 = .ok (.iconst 0, 1) := by decide +kernel
theorem dX1_clear_7 : decode cX1_clear 7 = .ok (.putfield 26, 3) := by decide +kernel
theorem dX1_clear_10 : decode cX1_clear 10 = .ok (.iconst 0, 1) := by decide +kernel
theorem dX1_clear_11 : decode cX1_clear 11 = .ok (.istore_n 2, 1) := by decide +kernel
theorem dX1_clear_12 : decode cX1_clear 12 = .ok (.iload_n 2, 1) := by decide +kernel
theorem dX1_clear_13 : decode cX1_clear 13 = .ok (.aload_n 0, 1) := by decide +kernel
theorem dX1_clear_14 : decode cX1_clear 14 = .ok (.getfield 15, 3) := by decide +kernel
theorem dX1_clear_17 : decode cX1_clear 17 = .ok (.if_icmp .ge 18, 3) := by decide +kernel
theorem dX1_clear_20 : decode cX1_clear 20 = .ok (.aload_n 0, 1) := by decide +kernel
theorem dX1_clear_21 : decode cX1_clear 21 = .ok (.getfield 11, 3) := by decide +kernel
theorem dX1_clear_24 : decode cX1_clear 24 = .ok (.iload_n 2, 1) := by decide +kernel
theorem dX1_clear_25 : decode cX1_clear 25 = .ok (.aaload, 1) := by decide +kernel
theorem dX1_clear_26 : decode cX1_clear 26 = .ok (.invokevirtual 105, 3) := by decide +kernel
theorem dX1_clear_29 : decode cX1_clear 29 = .ok (.iinc 2 1, 3) := by decide +kernel
theorem dX1_clear_32 : decode cX1_clear 32 = .ok (.goto (-20), 3) := by decide +kernel
theorem dX1_clear_35 : decode cX1_clear 35 = .ok (.iload_n 1, 1) := by decide +kernel
theorem dX1_clear_36 : decode cX1_clear 36 = .ok (.ireturn, 1) := by decide +kernel
set_option maxRecDepth 20000 in
theorem ggX1_placed_X1_isPlace : GoodIn wsX1_placed wsX1_isPlace := goodIn_r _ [6, 7, 8, 9, 10, 11, 12, 13, 14, 15, 16, 17, 18, 19] (by decide +kernel) (by decide +kernel)
set_option maxRecDepth 20000 in
theorem gX1_placed_X1_isPlace : GoodIn wsX1_placed (wsV RX1 108 RX1 yX1_isPlace wsX1_isPlace) := goodIn_app (goodIn_of _ (by decide +kernel)) ggX1_placed_X1_isPlace
theorem dX1_placed_0 : decode cX1_placed 0 = .ok (.aload_n 0, 1) := by decide +kernel
theorem dX1_placed_1 : decode cX1_placed 1 = .ok (.iload_n 1, 1) := by decide +kernel
theorem dX1_placed_2 : decode cX1_placed 2 = .ok (.invokevirtual 108, 3) := by decide +kernel
theorem dX1_placed_5 : decode cX1_placed 5 = .ok (.ifCond .eq 12, 3) := by decide +kernel
theorem dX1_placed_8 : decode cX1_placed 8 = .ok (.aload_n 0, 1) := by decide +kernel
theorem dX1_placed_9 : decode cX1_placed 9 = .ok (.getfield 19, 3) := by decide +kernel
theorem dX1_placed_12 : decode cX1_placed 12 = .ok (.iload_n 1, 1) := by decide +kernel
theorem dX1_placed_13 : decode cX1_placed 13 = .ok (.iaload, 1) := by decide +kernel
theorem dX1_placed_14 : decode cX1_placed 14 = .ok (.goto 4, 3) := by decide +kernel
theorem dX1_placed_17 : decode cX1_placed 17 = .ok (.iconst (-1), 1) := by decide +kernel
theorem dX1_placed_18 : decode cX1_placed 18 = .ok (.ireturn, 1) := by decide +kernel
theorem dX1_lines_0 : decode cX1_lines 0 = .ok (.iload_n 1, 1) := by decide +kernel
theorem dX1_lines_1 : decode cX1_lines 1 = .ok (.bipush 9, 2) := by decide +kernel
theorem dX1_lines_3 : decode cX1_lines 3 = .ok (.if_icmp .lt 9, 3) := by decide +kernel
theorem dX1_lines_6 : decode cX1_lines 6 = .ok (.iload_n 1, 1) := by decide +kernel
theorem dX1_lines_7 : decode cX1_lines 7 = .ok (.bipush 99, 2) := by decide +kernel
theorem dX1_lines_9 : decode cX1_lines 9 = .ok (.if_icmp .le 6, 3) := by decide +kernel
theorem dX1_lines_12 : decode cX1_lines 12 = .ok (.bipush (-2), 2) := by decide +kernel
theorem dX1_lines_14 : decode cX1_lines 14 = .ok (.ireturn, 1) := by decide +kernel
theorem dX1_lines_15 : decode cX1_lines 15 = .ok (.aload_n 0, 1) := by decide +kernel
theorem dX1_lines_16 : decode cX1_lines 16 = .ok (.getfield 29, 3) := by decide +kernel
theorem dX1_lines_19 : decode cX1_lines 19 = .ok (.istore_n 2, 1) := by decide +kernel
theorem dX1_lines_20 : decode cX1_lines 20 = .ok (.aload_n 0, 1) := by decide +kernel
theorem dX1_lines_21 : decode cX1_lines 21 = .ok (.iload_n 1, 1) := by decide +kernel
theorem dX1_lines_22 : decode cX1_lines 22 = .ok (.putfield 29, 3) := by decide +kernel
theorem dX1_lines_25 : decode cX1_lines 25 = .ok (.iload_n 2, 1) := by decide +kernel
theorem dX1_lines_26 : decode cX1_lines 26 = .ok (.ireturn, 1) := by decide +kernel
set_option maxRecDepth 20000 in
theorem ggX1_pages_X1_pageAndLine : GoodIn wsX1_pages wsX1_pageAndLine := goodIn_r _ [6, 7, 8, 9, 10, 11, 12, 13, 14, 15, 16, 17, 18, 19, 20, 21, 22, 23, 24, 25, 26, 27, 28, 29, 30, 31, 32, 33, 34] (by decide +kernel) (by decide +kernel)
set_option maxRecDepth 20000 in
theorem gX1_pages_X1_pageAndLine : GoodIn wsX1_pages (wsV RX1 111 RX1 yX1_pageAndLine wsX1_pageAndLine) := goodIn_app (goodIn_of _ (by decide +kernel)) ggX1_pages_X1_pageAndLine
theorem dX1_pages_0 : decode cX1_pages 0 = .ok (.aload_n 0, 1) := by decide +kernel
theorem dX1_pages_1 : decode cX1_pages 1 = .ok (.getfield 26, 3) := by decide +kernel
theorem dX1_pages_4 : decode cX1_pages 4 = .ok (.ifCond .ne 7, 3) := by decide +kernel
theorem dX1_pages_7 : decode cX1_pages 7 = .ok (.iconst 0, 1) := by decide +kernel
theorem dX1_pages_8 : decode cX1_pages 8 = .ok (.goto 18, 3) := by decide +kernel
theorem dX1_pages_11 : decode cX1_pages 11 = .ok (.aload_n 0, 1) := by decide +kernel
theorem dX1_pages_12 : decode cX1_pages 12 = .ok (.aload_n 0, 1) := by decide +kernel
theorem dX1_pages_13 : decode cX1_pages 13 = .ok (.getfield 26, 3) := by decide +kernel
theorem dX1_pages_16 : decode cX1_pages 16 = .ok (.iconst 1, 1) := by decide +kernel
theorem dX1_pages_17 : decode cX1_pages 17 = .ok (.isub, 1) := by decide +kernel
theorem dX1_pages_18 : decode cX1_pages 18 = .ok (.invokevirtual 111, 3) := by decide +kernel
theorem dX1_pages_21 : decode cX1_pages 21 = .ok (.bipush 100, 2) := by decide +kernel
theorem dX1_pages_23 : decode cX1_pages 23 = .ok (.idiv, 1) := by decide +kernel
theorem dX1_pages_24 : decode cX1_pages 24 = .ok (.iconst 1, 1) := by decide +kernel
theorem dX1_pages_25 : decode cX1_pages 25 = .ok (.iadd, 1) := by decide +kernel
theorem dX1_pages_26 : decode cX1_pages 26 = .ok (.ireturn, 1) := by decide +kernel
set_option maxRecDepth 20000 in
theorem ggX1_page_X1_isPlace : GoodIn wsX1_page wsX1_isPlace := goodIn_r _ [5, 6, 20, 21, 22, 23, 24, 25, 26, 27, 28, 29, 30, 31] (by decide +kernel) (by decide +kernel)
set_option maxRecDepth 20000 in
theorem gX1_page_X1_isPlace : GoodIn wsX1_page (wsV RX1 108 RX1 yX1_isPlace wsX1_isPlace) := goodIn_app (goodIn_of _ (by decide +kernel)) ggX1_page_X1_isPlace
set_option maxRecDepth 20000 in
theorem ggX1_page_X1_pageAndLine : GoodIn wsX1_page wsX1_pageAndLine := goodIn_r _ [10, 11, 12, 13, 14, 15, 16, 17, 18, 19, 20, 21, 22, 23, 24, 25, 26, 27, 28, 29, 30, 31, 32, 33, 34, 35, 36, 37, 38] (by decide +kernel) (by decide +kernel)
set_option maxRecDepth 20000 in
theorem gX1_page_X1_pageAndLine : GoodIn wsX1_page (wsV RX1 111 RX1 yX1_pageAndLine wsX1_pageAndLine) := goodIn_app (goodIn_of _ (by decide +kernel)) ggX1_page_X1_pageAndLine
theorem dX1_page_0 : decode cX1_page 0 = .ok (.aload_n 0, 1) := by decide +kernel
theorem dX1_page_1 : decode cX1_page 1 = .ok (.iload_n 1, 1) := by decide +kernel
theorem dX1_page_2 : decode cX1_page 2 = .ok (.invokevirtual 108, 3) := by decide +kernel
theorem dX1_page_5 : decode cX1_page 5 = .ok (.ifCond .ne 5, 3) := by decide +kernel
theorem dX1_page_8 : decode cX1_page 8 = .ok (.iconst (-1), 1) := by decide +kernel
theorem dX1_page_9 : decode cX1_page 9 = .ok (.ireturn, 1) := by decide +kernel
theorem dX1_page_10 : decode cX1_page 10 = .ok (.aload_n 0, 1) := by decide +kernel
theorem dX1_page_11 : decode cX1_page 11 = .ok (.iload_n 1, 1) := by decide +kernel
theorem dX1_page_12 : decode cX1_page 12 = .ok (.invokevirtual 111, 3) := by decide +kernel
theorem dX1_page_15 : decode cX1_page 15 = .ok (.istore_n 3, 1) := by decide +kernel
theorem dX1_page_16 : decode cX1_page 16 = .ok (.iload_n 2, 1) := by decide +kernel
theorem dX1_page_17 : decode cX1_page 17 = .ok (.ifCond .eq 10, 3) := by decide +kernel
theorem dX1_page_20 : decode cX1_page 20 = .ok (.iload_n 3, 1) := by decide +kernel
theorem dX1_page_21 : decode cX1_page 21 = .ok (.bipush 100, 2) := by decide +kernel
theorem dX1_page_23 : decode cX1_page 23 = .ok (.irem, 1) := by decide +kernel
theorem dX1_page_24 : decode cX1_page 24 = .ok (.goto 7, 3) := by decide +kernel
theorem dX1_page_27 : decode cX1_page 27 = .ok (.iload_n 3, 1) := by decide +kernel
theorem dX1_page_28 : decode cX1_page 28 = .ok (.bipush 100, 2) := by decide +kernel
theorem dX1_page_30 : decode cX1_page 30 = .ok (.idiv, 1) := by decide +kernel
theorem dX1_page_31 : decode cX1_page 31 = .ok (.ireturn, 1) := by decide +kernel
theorem dX1_isPlace_0 : decode cX1_isPlace 0 = .ok (.iload_n 1, 1) := by decide +kernel
theorem dX1_isPlace_1 : decode cX1_isPlace 1 = .ok (.ifCond .lt 15, 3) := by decide +kernel
theorem dX1_isPlace_4 : decode cX1_isPlace 4 = .ok (.iload_n 1, 1) := by decide +kernel
theorem dX1_isPlace_5 : decode cX1_isPlace 5 = .ok (.aload_n 0, 1) := by decide +kernel
theorem dX1_isPlace_6 : decode cX1_isPlace 6 = .ok (.getfield 26, 3) := by decide +kernel
theorem dX1_isPlace_9 : decode cX1_isPlace 9 = .ok (.if_icmp .ge 7, 3) := by decide +kernel
theorem dX1_isPlace_12 : decode cX1_isPlace 12 = .ok (.iconst 1, 1) := by decide +kernel
theorem dX1_isPlace_13 : decode cX1_isPlace 13 = .ok (.goto 4, 3) := by decide +kernel
theorem dX1_isPlace_16 : decode cX1_isPlace 16 = .ok (.iconst 0, 1) := by decide +kernel
theorem dX1_isPlace_17 : decode cX1_isPlace 17 = .ok (.ireturn, 1) := by decide +kernel
set_option maxRecDepth 20000 in
theorem ggX1_pageAndLine_X0_linesTaken : GoodIn wsX1_pageAndLine wsX0_linesTaken := goodIn_r _ [8, 9, 22, 23, 24, 25, 26, 27, 28] (by decide +kernel) (by decide +kernel)
set_option maxRecDepth 20000 in
theorem gX1_pageAndLine_X0_linesTaken : GoodIn wsX1_pageAndLine (wsV RX1 114 RX0 yX0_linesTaken wsX0_linesTaken) := goodIn_app (goodIn_of _ (by decide +kernel)) ggX1_pageAndLine_X0_linesTaken
theorem dX1_pageAndLine_0 : decode cX1_pageAndLine 0 = .ok (.iconst 0, 1) := by decide +kernel
theorem dX1_pageAndLine_1 : decode cX1_pageAndLine 1 = .ok (.istore_n 2, 1) := by decide +kernel
theorem dX1_pageAndLine_2 : decode cX1_pageAndLine 2 = .ok (.iconst 0, 1) := by decide +kernel
theorem dX1_pageAndLine_3 : decode cX1_pageAndLine 3 = .ok (.istore_n 3, 1) := by decide +kernel
theorem dX1_pageAndLine_4 : decode cX1_pageAndLine 4 = .ok (.iconst 0, 1) := by decide +kernel
theorem dX1_pageAndLine_5 : decode cX1_pageAndLine 5 = .ok (.istore 4, 2) := by decide +kernel
theorem dX1_pageAndLine_7 : decode cX1_pageAndLine 7 = .ok (.iconst 0, 1) := by decide +kernel
theorem dX1_pageAndLine_8 : decode cX1_pageAndLine 8 = .ok (.istore 5, 2) := by decide +kernel
theorem dX1_pageAndLine_10 : decode cX1_pageAndLine 10 = .ok (.iload 5, 2) := by decide +kernel
theorem dX1_pageAndLine_12 : decode cX1_pageAndLine 12 = .ok (.iload_n 1, 1) := by decide +kernel
theorem dX1_pageAndLine_13 : decode cX1_pageAndLine 13 = .ok (.if_icmp .gt 54, 3) := by decide +kernel
theorem dX1_pageAndLine_16 : decode cX1_pageAndLine 16 = .ok (.aload_n 0, 1) := by decide +kernel
theorem dX1_pageAndLine_17 : decode cX1_pageAndLine 17 = .ok (.getfield 11, 3) := by decide +kernel
theorem dX1_pageAndLine_20 : decode cX1_pageAndLine 20 = .ok (.aload_n 0, 1) := by decide +kernel
theorem dX1_pageAndLine_21 : decode cX1_pageAndLine 21 = .ok (.getfield 19, 3) := by decide +kernel
theorem dX1_pageAndLine_24 : decode cX1_pageAndLine 24 = .ok (.iload 5, 2) := by decide +kernel
theorem dX1_pageAndLine_26 : decode cX1_pageAndLine 26 = .ok (.iaload, 1) := by decide +kernel
theorem dX1_pageAndLine_27 : decode cX1_pageAndLine 27 = .ok (.aaload, 1) := by decide +kernel
theorem dX1_pageAndLine_28 : decode cX1_pageAndLine 28 = .ok (.invokevirtual 114, 3) := by decide +kernel
theorem dX1_pageAndLine_31 : decode cX1_pageAndLine 31 = .ok (.istore 6, 2) := by decide +kernel
theorem dX1_pageAndLine_33 : decode cX1_pageAndLine 33 = .ok (.iload 4, 2) := by decide +kernel
theorem dX1_pageAndLine_35 : decode cX1_pageAndLine 35 = .ok (.iload 6, 2) := by decide +kernel
theorem dX1_pageAndLine_37 : decode cX1_pageAndLine 37 = .ok (.iadd, 1) := by decide +kernel
theorem dX1_pageAndLine_38 : decode cX1_pageAndLine 38 = .ok (.aload_n 0, 1) := by decide +kernel
theorem dX1_pageAndLine_39 : decode cX1_pageAndLine 39 = .ok (.getfield 29, 3) := by decide +kernel
theorem dX1_pageAndLine_42 : decode cX1_pageAndLine 42 = .ok (.if_icmp .le 9, 3) := by decide +kernel
theorem dX1_pageAndLine_45 : decode cX1_pageAndLine 45 = .ok (.iinc 2 1, 3) := by decide +kernel
theorem dX1_pageAndLine_48 : decode cX1_pageAndLine 48 = .ok (.iconst 0, 1) := by decide +kernel
theorem dX1_pageAndLine_49 : decode cX1_pageAndLine 49 = .ok (.istore 4, 2) := by decide +kernel
theorem dX1_pageAndLine_51 : decode cX1_pageAndLine 51 = .ok (.iload 4, 2) := by decide +kernel
theorem dX1_pageAndLine_53 : decode cX1_pageAndLine 53 = .ok (.istore_n 3, 1) := by decide +kernel
theorem dX1_pageAndLine_54 : decode cX1_pageAndLine 54 = .ok (.iload 4, 2) := by decide +kernel
theorem dX1_pageAndLine_56 : decode cX1_pageAndLine 56 = .ok (.iload 6, 2) := by decide +kernel
theorem dX1_pageAndLine_58 : decode cX1_pageAndLine 58 = .ok (.iadd, 1) := by decide +kernel
theorem dX1_pageAndLine_59 : decode cX1_pageAndLine 59 = .ok (.istore 4, 2) := by decide +kernel
theorem dX1_pageAndLine_61 : decode cX1_pageAndLine 61 = .ok (.iinc 5 1, 3) := by decide +kernel
theorem dX1_pageAndLine_64 : decode cX1_pageAndLine 64 = .ok (.goto (-54), 3) := by decide +kernel
theorem dX1_pageAndLine_67 : decode cX1_pageAndLine 67 = .ok (.iload_n 2, 1) := by decide +kernel
theorem dX1_pageAndLine_68 : decode cX1_pageAndLine 68 = .ok (.bipush 100, 2) := by decide +kernel
theorem dX1_pageAndLine_70 : decode cX1_pageAndLine 70 = .ok (.imul, 1) := by decide +kernel
theorem dX1_pageAndLine_71 : decode cX1_pageAndLine 71 = .ok (.iload_n 3, 1) := by decide +kernel
theorem dX1_pageAndLine_72 : decode cX1_pageAndLine 72 = .ok (.iadd, 1) := by decide +kernel
theorem dX1_pageAndLine_73 : decode cX1_pageAndLine 73 = .ok (.ireturn, 1) := by decide +kernel
set_option maxRecDepth 20000 in
theorem ggX1_sheet_X1_placeRefusal : GoodIn wsX1_sheet wsX1_placeRefusal := goodIn_r _ [5, 6, 7, 8, 4, 9, 10, 11, 12, 13, 14, 15, 16, 17, 18, 19, 20, 21, 22, 23, 24, 25, 26, 27, 28, 29, 41, 42, 43, 44, 45, 46, 47, 48, 49, 50, 51, 52, 53, 54, 55, 56, 57, 58, 59] (by decide +kernel) (by decide +kernel)
set_option maxRecDepth 20000 in
theorem gX1_sheet_X1_placeRefusal : GoodIn wsX1_sheet (wsV RX1 117 RX1 yX1_placeRefusal wsX1_placeRefusal) := goodIn_app (goodIn_of _ (by decide +kernel)) ggX1_sheet_X1_placeRefusal
set_option maxRecDepth 20000 in
theorem ggX1_sheet_X1_variantOn : GoodIn wsX1_sheet wsX1_variantOn := goodIn_r _ [33, 22, 23, 34, 35, 36, 37, 27, 38, 29, 39, 40, 41, 42, 43, 44, 45, 46, 47, 48, 49, 50, 51, 52, 53, 54, 55, 56, 57, 58, 59] (by decide +kernel) (by decide +kernel)
set_option maxRecDepth 20000 in
theorem gX1_sheet_X1_variantOn : GoodIn wsX1_sheet (wsV RX1 120 RX1 yX1_variantOn wsX1_variantOn) := goodIn_app (goodIn_of _ (by decide +kernel)) ggX1_sheet_X1_variantOn
theorem dX1_sheet_0 : decode cX1_sheet 0 = .ok (.aload_n 0, 1) := by decide +kernel
theorem dX1_sheet_1 : decode cX1_sheet 1 = .ok (.iload_n 1, 1) := by decide +kernel
theorem dX1_sheet_2 : decode cX1_sheet 2 = .ok (.iload_n 2, 1) := by decide +kernel
theorem dX1_sheet_3 : decode cX1_sheet 3 = .ok (.invokevirtual 117, 3) := by decide +kernel
theorem dX1_sheet_6 : decode cX1_sheet 6 = .ok (.istore_n 3, 1) := by decide +kernel
theorem dX1_sheet_7 : decode cX1_sheet 7 = .ok (.iload_n 3, 1) := by decide +kernel
theorem dX1_sheet_8 : decode cX1_sheet 8 = .ok (.ifCond .ne 12, 3) := by decide +kernel
theorem dX1_sheet_11 : decode cX1_sheet 11 = .ok (.aload_n 0, 1) := by decide +kernel
theorem dX1_sheet_12 : decode cX1_sheet 12 = .ok (.iload_n 1, 1) := by decide +kernel
theorem dX1_sheet_13 : decode cX1_sheet 13 = .ok (.iload_n 2, 1) := by decide +kernel
theorem dX1_sheet_14 : decode cX1_sheet 14 = .ok (.invokevirtual 120, 3) := by decide +kernel
theorem dX1_sheet_17 : decode cX1_sheet 17 = .ok (.goto 4, 3) := by decide +kernel
theorem dX1_sheet_20 : decode cX1_sheet 20 = .ok (.iload_n 3, 1) := by decide +kernel
theorem dX1_sheet_21 : decode cX1_sheet 21 = .ok (.ireturn, 1) := by decide +kernel
set_option maxRecDepth 20000 in
theorem ggX1_answer_X1_placeRefusal : GoodIn wsX1_answer wsX1_placeRefusal := goodIn_r _ [5, 6, 7, 8, 4, 9, 10, 11, 12, 13, 14, 15, 16, 17, 18, 19, 20, 21, 22, 23, 24, 25, 26, 27, 28, 29, 70, 71, 72, 73, 74, 75, 76, 77, 78, 79, 80, 81, 82, 83, 84, 85, 86, 87, 88] (by decide +kernel) (by decide +kernel)
set_option maxRecDepth 20000 in
theorem gX1_answer_X1_placeRefusal : GoodIn wsX1_answer (wsV RX1 117 RX1 yX1_placeRefusal wsX1_placeRefusal) := goodIn_app (goodIn_of _ (by decide +kernel)) ggX1_answer_X1_placeRefusal
set_option maxRecDepth 20000 in
theorem ggX1_answer_X1_answerOn : GoodIn wsX1_answer wsX1_answerOn := goodIn_r _ [33, 22, 23, 34, 35, 36, 4, 37, 38, 39, 40, 41, 27, 42, 29, 43, 44, 45, 46, 47, 48, 49, 50, 51, 52, 53, 54, 55, 56, 57, 58, 59, 60, 61, 62, 63, 64, 65, 66, 67, 68, 69, 70, 71, 72, 73, 74, 75, 76, 77, 78, 79, 80, 81, 82, 83, 84, 85, 86, 87, 88] (by decide +kernel) (by decide +kernel)
set_option maxRecDepth 20000 in
theorem gX1_answer_X1_answerOn : GoodIn wsX1_answer (wsV RX1 123 RX1 yX1_answerOn wsX1_answerOn) := goodIn_app (goodIn_of _ (by decide +kernel)) ggX1_answer_X1_answerOn
theorem dX1_answer_0 : decode cX1_answer 0 = .ok (.aload_n 0, 1) := by decide +kernel
theorem dX1_answer_1 : decode cX1_answer 1 = .ok (.iload_n 1, 1) := by decide +kernel
theorem dX1_answer_2 : decode cX1_answer 2 = .ok (.iload_n 2, 1) := by decide +kernel
theorem dX1_answer_3 : decode cX1_answer 3 = .ok (.invokevirtual 117, 3) := by decide +kernel
theorem dX1_answer_6 : decode cX1_answer 6 = .ok (.istore_n 3, 1) := by decide +kernel
theorem dX1_answer_7 : decode cX1_answer 7 = .ok (.iload_n 3, 1) := by decide +kernel
theorem dX1_answer_8 : decode cX1_answer 8 = .ok (.ifCond .ne 12, 3) := by decide +kernel
theorem dX1_answer_11 : decode cX1_answer 11 = .ok (.aload_n 0, 1) := by decide +kernel
theorem dX1_answer_12 : decode cX1_answer 12 = .ok (.iload_n 1, 1) := by decide +kernel
theorem dX1_answer_13 : decode cX1_answer 13 = .ok (.iload_n 2, 1) := by decide +kernel
theorem dX1_answer_14 : decode cX1_answer 14 = .ok (.invokevirtual 123, 3) := by decide +kernel
theorem dX1_answer_17 : decode cX1_answer 17 = .ok (.goto 4, 3) := by decide +kernel
theorem dX1_answer_20 : decode cX1_answer 20 = .ok (.iload_n 3, 1) := by decide +kernel
theorem dX1_answer_21 : decode cX1_answer 21 = .ok (.ireturn, 1) := by decide +kernel
set_option maxRecDepth 20000 in
theorem ggX1_code_X1_sheetRefusal : GoodIn wsX1_code wsX1_sheetRefusal := goodIn_r _ [6, 7, 8, 5, 9, 10, 11, 12, 13, 1, 14, 15, 16, 17, 18, 19, 20, 21, 62, 63, 64, 65, 66, 67, 68, 69, 70, 71, 72, 73, 74, 75, 76, 77, 78, 79, 80] (by decide +kernel) (by decide +kernel)
set_option maxRecDepth 20000 in
theorem gX1_code_X1_sheetRefusal : GoodIn wsX1_code (wsV RX1 126 RX1 yX1_sheetRefusal wsX1_sheetRefusal) := goodIn_app (goodIn_of _ (by decide +kernel)) ggX1_code_X1_sheetRefusal
set_option maxRecDepth 20000 in
theorem ggX1_code_X1_answerOn : GoodIn wsX1_code wsX1_answerOn := goodIn_r _ [25, 14, 15, 26, 27, 28, 5, 29, 30, 31, 32, 33, 19, 34, 21, 35, 36, 37, 38, 39, 40, 41, 42, 43, 44, 45, 46, 47, 48, 49, 50, 51, 52, 53, 54, 55, 56, 57, 58, 59, 60, 61, 62, 63, 64, 65, 66, 67, 68, 69, 70, 71, 72, 73, 74, 75, 76, 77, 78, 79, 80] (by decide +kernel) (by decide +kernel)
set_option maxRecDepth 20000 in
theorem gX1_code_X1_answerOn : GoodIn wsX1_code (wsV RX1 123 RX1 yX1_answerOn wsX1_answerOn) := goodIn_app (goodIn_of _ (by decide +kernel)) ggX1_code_X1_answerOn
theorem dX1_code_0 : decode cX1_code 0 = .ok (.aload_n 0, 1) := by decide +kernel
theorem dX1_code_1 : decode cX1_code 1 = .ok (.iload_n 1, 1) := by decide +kernel
theorem dX1_code_2 : decode cX1_code 2 = .ok (.invokevirtual 126, 3) := by decide +kernel
theorem dX1_code_5 : decode cX1_code 5 = .ok (.istore_n 2, 1) := by decide +kernel
theorem dX1_code_6 : decode cX1_code 6 = .ok (.iload_n 2, 1) := by decide +kernel
theorem dX1_code_7 : decode cX1_code 7 = .ok (.ifCond .eq 5, 3) := by decide +kernel
theorem dX1_code_10 : decode cX1_code 10 = .ok (.iload_n 2, 1) := by decide +kernel
theorem dX1_code_11 : decode cX1_code 11 = .ok (.ireturn, 1) := by decide +kernel
theorem dX1_code_12 : decode cX1_code 12 = .ok (.iconst 0, 1) := by decide +kernel
theorem dX1_code_13 : decode cX1_code 13 = .ok (.istore_n 3, 1) := by decide +kernel
theorem dX1_code_14 : decode cX1_code 14 = .ok (.iconst 0, 1) := by decide +kernel
theorem dX1_code_15 : decode cX1_code 15 = .ok (.istore 4, 2) := by decide +kernel
theorem dX1_code_17 : decode cX1_code 17 = .ok (.iload 4, 2) := by decide +kernel
theorem dX1_code_19 : decode cX1_code 19 = .ok (.aload_n 0, 1) := by decide +kernel
theorem dX1_code_20 : decode cX1_code 20 = .ok (.getfield 26, 3) := by decide +kernel
theorem dX1_code_23 : decode cX1_code 23 = .ok (.if_icmp .ge 24, 3) := by decide +kernel
theorem dX1_code_26 : decode cX1_code 26 = .ok (.iload_n 3, 1) := by decide +kernel
theorem dX1_code_27 : decode cX1_code 27 = .ok (.aload_n 0, 1) := by decide +kernel
theorem dX1_code_28 : decode cX1_code 28 = .ok (.iload_n 1, 1) := by decide +kernel
theorem dX1_code_29 : decode cX1_code 29 = .ok (.iload 4, 2) := by decide +kernel
theorem dX1_code_31 : decode cX1_code 31 = .ok (.invokevirtual 123, 3) := by decide +kernel
theorem dX1_code_34 : decode cX1_code 34 = .ok (.iload 4, 2) := by decide +kernel
theorem dX1_code_36 : decode cX1_code 36 = .ok (.iconst 1, 1) := by decide +kernel
theorem dX1_code_37 : decode cX1_code 37 = .ok (.iadd, 1) := by decide +kernel
theorem dX1_code_38 : decode cX1_code 38 = .ok (.imul, 1) := by decide +kernel
theorem dX1_code_39 : decode cX1_code 39 = .ok (.iadd, 1) := by decide +kernel
theorem dX1_code_40 : decode cX1_code 40 = .ok (.istore_n 3, 1) := by decide +kernel
theorem dX1_code_41 : decode cX1_code 41 = .ok (.iinc 4 1, 3) := by decide +kernel
theorem dX1_code_44 : decode cX1_code 44 = .ok (.goto (-27), 3) := by decide +kernel
theorem dX1_code_47 : decode cX1_code 47 = .ok (.iload_n 3, 1) := by decide +kernel
theorem dX1_code_48 : decode cX1_code 48 = .ok (.bipush 97, 2) := by decide +kernel
theorem dX1_code_50 : decode cX1_code 50 = .ok (.irem, 1) := by decide +kernel
theorem dX1_code_51 : decode cX1_code 51 = .ok (.ireturn, 1) := by decide +kernel
set_option maxRecDepth 20000 in
theorem ggX1_shared_X1_isSheet : GoodIn wsX1_shared wsX1_isSheet := goodIn_r _ [6] (by decide +kernel) (by decide +kernel)
set_option maxRecDepth 20000 in
theorem gX1_shared_X1_isSheet : GoodIn wsX1_shared (va_wsS RX1 129 yX1_isSheet wsX1_isSheet) := goodIn_app (goodIn_of _ (by decide +kernel)) ggX1_shared_X1_isSheet
set_option maxRecDepth 20000 in
theorem ggX1_shared_X1_lacksVariants : GoodIn wsX1_shared wsX1_lacksVariants := goodIn_r _ [10, 11, 2, 12, 13, 14, 15, 16, 17, 18, 28, 29, 30, 31, 32, 33, 34, 35, 36, 37, 38, 39, 40, 41, 42, 43, 44, 45, 46] (by decide +kernel) (by decide +kernel)
set_option maxRecDepth 20000 in
theorem gX1_shared_X1_lacksVariants : GoodIn wsX1_shared (wsV RX1 132 RX1 yX1_lacksVariants wsX1_lacksVariants) := goodIn_app (goodIn_of _ (by decide +kernel)) ggX1_shared_X1_lacksVariants
set_option maxRecDepth 20000 in
theorem ggX1_shared_X0_placesInCommon : GoodIn wsX1_shared wsX0_placesInCommon := goodIn_r _ [22, 18, 23, 24, 25, 26, 27, 40, 41, 42, 43, 44, 45, 46] (by decide +kernel) (by decide +kernel)
set_option maxRecDepth 20000 in
theorem gX1_shared_X0_placesInCommon : GoodIn wsX1_shared (wsV RX1 136 RX0 yX0_placesInCommon wsX0_placesInCommon) := goodIn_app (goodIn_of _ (by decide +kernel)) ggX1_shared_X0_placesInCommon
theorem dX1_shared_0 : decode cX1_shared 0 = .ok (.iload_n 1, 1) := by decide +kernel
theorem dX1_shared_1 : decode cX1_shared 1 = .ok (.invokestatic 129, 3) := by decide +kernel
theorem dX1_shared_4 : decode cX1_shared 4 = .ok (.ifCond .eq 10, 3) := by decide +kernel
theorem dX1_shared_7 : decode cX1_shared 7 = .ok (.iload_n 2, 1) := by decide +kernel
theorem dX1_shared_8 : decode cX1_shared 8 = .ok (.invokestatic 129, 3) := by decide +kernel
theorem dX1_shared_11 : decode cX1_shared 11 = .ok (.ifCond .ne 6, 3) := by decide +kernel
theorem dX1_shared_14 : decode cX1_shared 14 = .ok (.bipush (-2), 2) := by decide +kernel
theorem dX1_shared_16 : decode cX1_shared 16 = .ok (.ireturn, 1) := by decide +kernel
theorem dX1_shared_17 : decode cX1_shared 17 = .ok (.aload_n 0, 1) := by decide +kernel
theorem dX1_shared_18 : decode cX1_shared 18 = .ok (.invokevirtual 132, 3) := by decide +kernel
theorem dX1_shared_21 : decode cX1_shared 21 = .ok (.ifCond .eq 6, 3) := by decide +kernel
theorem dX1_shared_24 : decode cX1_shared 24 = .ok (.bipush (-3), 2) := by decide +kernel
theorem dX1_shared_26 : decode cX1_shared 26 = .ok (.ireturn, 1) := by decide +kernel
theorem dX1_shared_27 : decode cX1_shared 27 = .ok (.iconst 0, 1) := by decide +kernel
theorem dX1_shared_28 : decode cX1_shared 28 = .ok (.istore_n 3, 1) := by decide +kernel
theorem dX1_shared_29 : decode cX1_shared 29 = .ok (.iconst 0, 1) := by decide +kernel
theorem dX1_shared_30 : decode cX1_shared 30 = .ok (.istore 4, 2) := by decide +kernel
theorem dX1_shared_32 : decode cX1_shared 32 = .ok (.iload 4, 2) := by decide +kernel
theorem dX1_shared_34 : decode cX1_shared 34 = .ok (.aload_n 0, 1) := by decide +kernel
theorem dX1_shared_35 : decode cX1_shared 35 = .ok (.getfield 15, 3) := by decide +kernel
theorem dX1_shared_38 : decode cX1_shared 38 = .ok (.if_icmp .ge 24, 3) := by decide +kernel
theorem dX1_shared_41 : decode cX1_shared 41 = .ok (.iload_n 3, 1) := by decide +kernel
theorem dX1_shared_42 : decode cX1_shared 42 = .ok (.aload_n 0, 1) := by decide +kernel
theorem dX1_shared_43 : decode cX1_shared 43 = .ok (.getfield 11, 3) := by decide +kernel
theorem dX1_shared_46 : decode cX1_shared 46 = .ok (.iload 4, 2) := by decide +kernel
theorem dX1_shared_48 : decode cX1_shared 48 = .ok (.aaload, 1) := by decide +kernel
theorem dX1_shared_49 : decode cX1_shared 49 = .ok (.iload_n 1, 1) := by decide +kernel
theorem dX1_shared_50 : decode cX1_shared 50 = .ok (.iload_n 2, 1) := by decide +kernel
theorem dX1_shared_51 : decode cX1_shared 51 = .ok (.invokevirtual 136, 3) := by decide +kernel
theorem dX1_shared_54 : decode cX1_shared 54 = .ok (.iadd, 1) := by decide +kernel
theorem dX1_shared_55 : decode cX1_shared 55 = .ok (.istore_n 3, 1) := by decide +kernel
theorem dX1_shared_56 : decode cX1_shared 56 = .ok (.iinc 4 1, 3) := by decide +kernel
theorem dX1_shared_59 : decode cX1_shared 59 = .ok (.goto (-27), 3) := by decide +kernel
theorem dX1_shared_62 : decode cX1_shared 62 = .ok (.iload_n 3, 1) := by decide +kernel
theorem dX1_shared_63 : decode cX1_shared 63 = .ok (.ireturn, 1) := by decide +kernel
set_option maxRecDepth 20000 in
theorem ggX1_apart_X1_sheetRefusal : GoodIn wsX1_apart wsX1_sheetRefusal := goodIn_r _ [7, 8, 9, 6, 10, 11, 12, 13, 14, 15, 2, 16, 17, 18, 19, 20, 21, 22, 28, 29, 30, 31, 32, 33, 34, 35, 36, 37, 38, 39, 40, 41, 42, 43, 44, 45, 46] (by decide +kernel) (by decide +kernel)
set_option maxRecDepth 20000 in
theorem gX1_apart_X1_sheetRefusal : GoodIn wsX1_apart (wsV RX1 126 RX1 yX1_sheetRefusal wsX1_sheetRefusal) := goodIn_app (goodIn_of _ (by decide +kernel)) ggX1_apart_X1_sheetRefusal
set_option maxRecDepth 20000 in
theorem ggX1_apart_X0_hasEnoughForTwo : GoodIn wsX1_apart wsX0_hasEnoughForTwo := goodIn_r _ [26, 22, 27, 40, 41, 42, 43, 44, 45, 46] (by decide +kernel) (by decide +kernel)
set_option maxRecDepth 20000 in
theorem gX1_apart_X0_hasEnoughForTwo : GoodIn wsX1_apart (wsV RX1 139 RX0 yX0_hasEnoughForTwo wsX0_hasEnoughForTwo) := goodIn_app (goodIn_of _ (by decide +kernel)) ggX1_apart_X0_hasEnoughForTwo
theorem dX1_apart_0 : decode cX1_apart 0 = .ok (.aload_n 0, 1) := by decide +kernel
theorem dX1_apart_1 : decode cX1_apart 1 = .ok (.iload_n 1, 1) := by decide +kernel
theorem dX1_apart_2 : decode cX1_apart 2 = .ok (.invokevirtual 126, 3) := by decide +kernel
theorem dX1_apart_5 : decode cX1_apart 5 = .ok (.istore_n 2, 1) := by decide +kernel
theorem dX1_apart_6 : decode cX1_apart 6 = .ok (.iload_n 2, 1) := by decide +kernel
theorem dX1_apart_7 : decode cX1_apart 7 = .ok (.ifCond .eq 5, 3) := by decide +kernel
theorem dX1_apart_10 : decode cX1_apart 10 = .ok (.iload_n 2, 1) := by decide +kernel
theorem dX1_apart_11 : decode cX1_apart 11 = .ok (.ireturn, 1) := by decide +kernel
theorem dX1_apart_12 : decode cX1_apart 12 = .ok (.iconst 0, 1) := by decide +kernel
theorem dX1_apart_13 : decode cX1_apart 13 = .ok (.istore_n 3, 1) := by decide +kernel
theorem dX1_apart_14 : decode cX1_apart 14 = .ok (.iload_n 3, 1) := by decide +kernel
theorem dX1_apart_15 : decode cX1_apart 15 = .ok (.aload_n 0, 1) := by decide +kernel
theorem dX1_apart_16 : decode cX1_apart 16 = .ok (.getfield 15, 3) := by decide +kernel
theorem dX1_apart_19 : decode cX1_apart 19 = .ok (.if_icmp .ge 24, 3) := by decide +kernel
theorem dX1_apart_22 : decode cX1_apart 22 = .ok (.aload_n 0, 1) := by decide +kernel
theorem dX1_apart_23 : decode cX1_apart 23 = .ok (.getfield 11, 3) := by decide +kernel
theorem dX1_apart_26 : decode cX1_apart 26 = .ok (.iload_n 3, 1) := by decide +kernel
theorem dX1_apart_27 : decode cX1_apart 27 = .ok (.aaload, 1) := by decide +kernel
theorem dX1_apart_28 : decode cX1_apart 28 = .ok (.invokevirtual 139, 3) := by decide +kernel
theorem dX1_apart_31 : decode cX1_apart 31 = .ok (.ifCond .ne 6, 3) := by decide +kernel
theorem dX1_apart_34 : decode cX1_apart 34 = .ok (.bipush (-9), 2) := by decide +kernel
theorem dX1_apart_36 : decode cX1_apart 36 = .ok (.ireturn, 1) := by decide +kernel
theorem dX1_apart_37 : decode cX1_apart 37 = .ok (.iinc 3 1, 3) := by decide +kernel
theorem dX1_apart_40 : decode cX1_apart 40 = .ok (.goto (-26), 3) := by decide +kernel
theorem dX1_apart_43 : decode cX1_apart 43 = .ok (.iload_n 1, 1) := by decide +kernel
theorem dX1_apart_44 : decode cX1_apart 44 = .ok (.sipush 9999, 3) := by decide +kernel
theorem dX1_apart_47 : decode cX1_apart 47 = .ok (.if_icmp .ge 9, 3) := by decide +kernel
theorem dX1_apart_50 : decode cX1_apart 50 = .ok (.iload_n 1, 1) := by decide +kernel
theorem dX1_apart_51 : decode cX1_apart 51 = .ok (.iconst 1, 1) := by decide +kernel
theorem dX1_apart_52 : decode cX1_apart 52 = .ok (.iadd, 1) := by decide +kernel
theorem dX1_apart_53 : decode cX1_apart 53 = .ok (.goto 5, 3) := by decide +kernel
theorem dX1_apart_56 : decode cX1_apart 56 = .ok (.bipush (-9), 2) := by decide +kernel
theorem dX1_apart_58 : decode cX1_apart 58 = .ok (.ireturn, 1) := by decide +kernel
theorem dX1_isSheet_0 : decode cX1_isSheet 0 = .ok (.iload_n 0, 1) := by decide +kernel
theorem dX1_isSheet_1 : decode cX1_isSheet 1 = .ok (.ifCond .lt 14, 3) := by decide +kernel
theorem dX1_isSheet_4 : decode cX1_isSheet 4 = .ok (.iload_n 0, 1) := by decide +kernel
theorem dX1_isSheet_5 : decode cX1_isSheet 5 = .ok (.sipush 9999, 3) := by decide +kernel
theorem dX1_isSheet_8 : decode cX1_isSheet 8 = .ok (.if_icmp .gt 7, 3) := by decide +kernel
theorem dX1_isSheet_11 : decode cX1_isSheet 11 = .ok (.iconst 1, 1) := by decide +kernel
theorem dX1_isSheet_12 : decode cX1_isSheet 12 = .ok (.goto 4, 3) := by decide +kernel
theorem dX1_isSheet_15 : decode cX1_isSheet 15 = .ok (.iconst 0, 1) := by decide +kernel
theorem dX1_isSheet_16 : decode cX1_isSheet 16 = .ok (.ireturn, 1) := by decide +kernel
set_option maxRecDepth 20000 in
theorem ggX1_lacksVariants_X0_size : GoodIn wsX1_lacksVariants wsX0_size := goodIn_r _ [8, 9, 22, 23, 24, 25, 26, 27, 28] (by decide +kernel) (by decide +kernel)
set_option maxRecDepth 20000 in
theorem gX1_lacksVariants_X0_size : GoodIn wsX1_lacksVariants (wsV RX1 67 RX0 yX0_size wsX0_size) := goodIn_app (goodIn_of _ (by decide +kernel)) ggX1_lacksVariants_X0_size
theorem dX1_lacksVariants_0 : decode cX1_lacksVariants 0 = .ok (.iconst 0, 1) := by decide +kernel
theorem dX1_lacksVariants_1 : decode cX1_lacksVariants 1 = .ok (.istore_n 1, 1) := by decide +kernel
theorem dX1_lacksVariants_2 : decode cX1_lacksVariants 2 = .ok (.iload_n 1, 1) := by decide +kernel
theorem dX1_lacksVariants_3 : decode cX1_lacksVariants 3 = .ok (.aload_n 0, 1) := by decide +kernel
theorem dX1_lacksVariants_4 : decode cX1_lacksVariants 4 = .ok (.getfield 26, 3) := by decide +kernel
theorem dX1_lacksVariants_7 : decode cX1_lacksVariants 7 = .ok (.if_icmp .ge 28, 3) := by decide +kernel
theorem dX1_lacksVariants_10 : decode cX1_lacksVariants 10 = .ok (.aload_n 0, 1) := by decide +kernel
theorem dX1_lacksVariants_11 : decode cX1_lacksVariants 11 = .ok (.getfield 11, 3) := by decide +kernel
theorem dX1_lacksVariants_14 : decode cX1_lacksVariants 14 = .ok (.aload_n 0, 1) := by decide +kernel
theorem dX1_lacksVariants_15 : decode cX1_lacksVariants 15 = .ok (.getfield 19, 3) := by decide +kernel
theorem dX1_lacksVariants_18 : decode cX1_lacksVariants 18 = .ok (.iload_n 1, 1) := by decide +kernel
theorem dX1_lacksVariants_19 : decode cX1_lacksVariants 19 = .ok (.iaload, 1) := by decide +kernel
theorem dX1_lacksVariants_20 : decode cX1_lacksVariants 20 = .ok (.aaload, 1) := by decide +kernel
theorem dX1_lacksVariants_21 : decode cX1_lacksVariants 21 = .ok (.invokevirtual 67, 3) := by decide +kernel
theorem dX1_lacksVariants_24 : decode cX1_lacksVariants 24 = .ok (.ifCond .ne 5, 3) := by decide +kernel
theorem dX1_lacksVariants_27 : decode cX1_lacksVariants 27 = .ok (.iconst 1, 1) := by decide +kernel
theorem dX1_lacksVariants_28 : decode cX1_lacksVariants 28 = .ok (.ireturn, 1) := by decide +kernel
theorem dX1_lacksVariants_29 : decode cX1_lacksVariants 29 = .ok (.iinc 1 1, 3) := by decide +kernel
theorem dX1_lacksVariants_32 : decode cX1_lacksVariants 32 = .ok (.goto (-30), 3) := by decide +kernel
theorem dX1_lacksVariants_35 : decode cX1_lacksVariants 35 = .ok (.iconst 0, 1) := by decide +kernel
theorem dX1_lacksVariants_36 : decode cX1_lacksVariants 36 = .ok (.ireturn, 1) := by decide +kernel
set_option maxRecDepth 20000 in
theorem ggX1_sheetRefusal_X1_isSheet : GoodIn wsX1_sheetRefusal wsX1_isSheet := goodIn_r _ [4] (by decide +kernel) (by decide +kernel)
set_option maxRecDepth 20000 in
theorem gX1_sheetRefusal_X1_isSheet : GoodIn wsX1_sheetRefusal (va_wsS RX1 129 yX1_isSheet wsX1_isSheet) := goodIn_app (goodIn_of _ (by decide +kernel)) ggX1_sheetRefusal_X1_isSheet
set_option maxRecDepth 20000 in
theorem ggX1_sheetRefusal_X1_lacksVariants : GoodIn wsX1_sheetRefusal wsX1_lacksVariants := goodIn_r _ [8, 9, 10, 11, 12, 13, 14, 15, 16, 17, 18, 19, 20, 21, 22, 23, 24, 25, 26, 27, 28, 29, 30, 31, 32, 33, 34, 35, 36] (by decide +kernel) (by decide +kernel)
set_option maxRecDepth 20000 in
theorem gX1_sheetRefusal_X1_lacksVariants : GoodIn wsX1_sheetRefusal (wsV RX1 132 RX1 yX1_lacksVariants wsX1_lacksVariants) := goodIn_app (goodIn_of _ (by decide +kernel)) ggX1_sheetRefusal_X1_lacksVariants
theorem dX1_sheetRefusal_0 : decode cX1_sheetRefusal 0 = .ok (.iload_n 1, 1) := by decide +kernel
theorem dX1_sheetRefusal_1 : decode cX1_sheetRefusal 1 = .ok (.invokestatic 129, 3) := by decide +kernel
theorem dX1_sheetRefusal_4 : decode cX1_sheetRefusal 4 = .ok (.ifCond .ne 6, 3) := by decide +kernel
theorem dX1_sheetRefusal_7 : decode cX1_sheetRefusal 7 = .ok (.bipush (-2), 2) := by decide +kernel
theorem dX1_sheetRefusal_9 : decode cX1_sheetRefusal 9 = .ok (.ireturn, 1) := by decide +kernel
theorem dX1_sheetRefusal_10 : decode cX1_sheetRefusal 10 = .ok (.aload_n 0, 1) := by decide +kernel
theorem dX1_sheetRefusal_11 : decode cX1_sheetRefusal 11 = .ok (.invokevirtual 132, 3) := by decide +kernel
theorem dX1_sheetRefusal_14 : decode cX1_sheetRefusal 14 = .ok (.ifCond .eq 8, 3) := by decide +kernel
theorem dX1_sheetRefusal_17 : decode cX1_sheetRefusal 17 = .ok (.bipush (-3), 2) := by decide +kernel
theorem dX1_sheetRefusal_19 : decode cX1_sheetRefusal 19 = .ok (.goto 4, 3) := by decide +kernel
theorem dX1_sheetRefusal_22 : decode cX1_sheetRefusal 22 = .ok (.iconst 0, 1) := by decide +kernel
theorem dX1_sheetRefusal_23 : decode cX1_sheetRefusal 23 = .ok (.ireturn, 1) := by decide +kernel
set_option maxRecDepth 20000 in
theorem ggX1_placeRefusal_X1_isPlace : GoodIn wsX1_placeRefusal wsX1_isPlace := goodIn_r _ [5, 6, 26, 27, 28, 29, 30, 31, 32, 33, 34, 35, 36, 37] (by decide +kernel) (by decide +kernel)
set_option maxRecDepth 20000 in
theorem gX1_placeRefusal_X1_isPlace : GoodIn wsX1_placeRefusal (wsV RX1 108 RX1 yX1_isPlace wsX1_isPlace) := goodIn_app (goodIn_of _ (by decide +kernel)) ggX1_placeRefusal_X1_isPlace
set_option maxRecDepth 20000 in
theorem ggX1_placeRefusal_X1_sheetRefusal : GoodIn wsX1_placeRefusal wsX1_sheetRefusal := goodIn_r _ [10, 11, 12, 4, 13, 14, 15, 16, 17, 6, 18, 19, 20, 21, 22, 23, 24, 25, 26, 27, 28, 29, 30, 31, 32, 33, 34, 35, 36, 37, 38, 39, 40, 41, 42, 43, 44] (by decide +kernel) (by decide +kernel)
set_option maxRecDepth 20000 in
theorem gX1_placeRefusal_X1_sheetRefusal : GoodIn wsX1_placeRefusal (wsV RX1 126 RX1 yX1_sheetRefusal wsX1_sheetRefusal) := goodIn_app (goodIn_of _ (by decide +kernel)) ggX1_placeRefusal_X1_sheetRefusal
theorem dX1_placeRefusal_0 : decode cX1_placeRefusal 0 = .ok (.aload_n 0, 1) := by decide +kernel
theorem dX1_placeRefusal_1 : decode cX1_placeRefusal 1 = .ok (.iload_n 2, 1) := by decide +kernel
theorem dX1_placeRefusal_2 : decode cX1_placeRefusal 2 = .ok (.invokevirtual 108, 3) := by decide +kernel
theorem dX1_placeRefusal_5 : decode cX1_placeRefusal 5 = .ok (.ifCond .eq 11, 3) := by decide +kernel
theorem dX1_placeRefusal_8 : decode cX1_placeRefusal 8 = .ok (.aload_n 0, 1) := by decide +kernel
theorem dX1_placeRefusal_9 : decode cX1_placeRefusal 9 = .ok (.iload_n 1, 1) := by decide +kernel
theorem dX1_placeRefusal_10 : decode cX1_placeRefusal 10 = .ok (.invokevirtual 126, 3) := by decide +kernel
theorem dX1_placeRefusal_13 : decode cX1_placeRefusal 13 = .ok (.goto 4, 3) := by decide +kernel
theorem dX1_placeRefusal_16 : decode cX1_placeRefusal 16 = .ok (.iconst (-1), 1) := by decide +kernel
theorem dX1_placeRefusal_17 : decode cX1_placeRefusal 17 = .ok (.ireturn, 1) := by decide +kernel
set_option maxRecDepth 20000 in
theorem ggX1_variantOn_X0_variantFor : GoodIn wsX1_variantOn wsX0_variantFor := goodIn_r _ [8, 9, 10, 11, 24, 25, 26, 27, 28, 29, 30] (by decide +kernel) (by decide +kernel)
set_option maxRecDepth 20000 in
theorem gX1_variantOn_X0_variantFor : GoodIn wsX1_variantOn (wsV RX1 142 RX0 yX0_variantFor wsX0_variantFor) := goodIn_app (goodIn_of _ (by decide +kernel)) ggX1_variantOn_X0_variantFor
theorem dX1_variantOn_0 : decode cX1_variantOn 0 = .ok (.aload_n 0, 1) := by decide +kernel
theorem dX1_variantOn_1 : decode cX1_variantOn 1 = .ok (.getfield 11, 3) := by decide +kernel
theorem dX1_variantOn_4 : decode cX1_variantOn 4 = .ok (.aload_n 0, 1) := by decide +kernel
theorem dX1_variantOn_5 : decode cX1_variantOn 5 = .ok (.getfield 19, 3) := by decide +kernel
theorem dX1_variantOn_8 : decode cX1_variantOn 8 = .ok (.iload_n 2, 1) := by decide +kernel
theorem dX1_variantOn_9 : decode cX1_variantOn 9 = .ok (.iaload, 1) := by decide +kernel
theorem dX1_variantOn_10 : decode cX1_variantOn 10 = .ok (.aaload, 1) := by decide +kernel
theorem dX1_variantOn_11 : decode cX1_variantOn 11 = .ok (.iload_n 1, 1) := by decide +kernel
theorem dX1_variantOn_12 : decode cX1_variantOn 12 = .ok (.aload_n 0, 1) := by decide +kernel
theorem dX1_variantOn_13 : decode cX1_variantOn 13 = .ok (.getfield 23, 3) := by decide +kernel
theorem dX1_variantOn_16 : decode cX1_variantOn 16 = .ok (.iload_n 2, 1) := by decide +kernel
theorem dX1_variantOn_17 : decode cX1_variantOn 17 = .ok (.iaload, 1) := by decide +kernel
theorem dX1_variantOn_18 : decode cX1_variantOn 18 = .ok (.invokevirtual 142, 3) := by decide +kernel
theorem dX1_variantOn_21 : decode cX1_variantOn 21 = .ok (.ireturn, 1) := by decide +kernel
set_option maxRecDepth 20000 in
theorem ggX1_answerOn_X1_variantOn : GoodIn wsX1_answerOn wsX1_variantOn := goodIn_r _ [7, 1, 2, 8, 9, 10, 11, 12, 13, 14, 15, 16, 42, 43, 44, 45, 46, 47, 48, 49, 50, 51, 52, 53, 54, 55, 56, 57, 58, 59, 60] (by decide +kernel) (by decide +kernel)
set_option maxRecDepth 20000 in
theorem gX1_answerOn_X1_variantOn : GoodIn wsX1_answerOn (wsV RX1 120 RX1 yX1_variantOn wsX1_variantOn) := goodIn_app (goodIn_of _ (by decide +kernel)) ggX1_answerOn_X1_variantOn
set_option maxRecDepth 20000 in
theorem ggX1_answerOn_X0_pairAt : GoodIn wsX1_answerOn wsX0_pairAt := goodIn_r _ [20, 21, 22, 23, 24, 25, 26, 12, 27, 16, 28, 29, 30, 31, 32, 33, 34, 35, 36, 37, 38, 39, 40, 54, 55, 56, 57, 58, 59, 60] (by decide +kernel) (by decide +kernel)
set_option maxRecDepth 20000 in
theorem gX1_answerOn_X0_pairAt : GoodIn wsX1_answerOn (wsV RX1 82 RX0 yX0_pairAt wsX0_pairAt) := goodIn_app (goodIn_of _ (by decide +kernel)) ggX1_answerOn_X0_pairAt
set_option maxRecDepth 20000 in
theorem ggX1_answerOn_X0_result : GoodIn wsX1_answerOn wsX0_result := goodIn_r _ [31, 32, 54, 55, 56, 57, 58, 59, 60] (by decide +kernel) (by decide +kernel)
set_option maxRecDepth 20000 in
theorem gX1_answerOn_X0_result : GoodIn wsX1_answerOn (wsV RX1 86 RX0 yX0_result wsX0_result) := goodIn_app (goodIn_of _ (by decide +kernel)) ggX1_answerOn_X0_result
theorem dX1_answerOn_0 : decode cX1_answerOn 0 = .ok (.aload_n 0, 1) := by decide +kernel
theorem dX1_answerOn_1 : decode cX1_answerOn 1 = .ok (.getfield 11, 3) := by decide +kernel
theorem dX1_answerOn_4 : decode cX1_answerOn 4 = .ok (.aload_n 0, 1) := by decide +kernel
theorem dX1_answerOn_5 : decode cX1_answerOn 5 = .ok (.getfield 19, 3) := by decide +kernel
theorem dX1_answerOn_8 : decode cX1_answerOn 8 = .ok (.iload_n 2, 1) := by decide +kernel
theorem dX1_answerOn_9 : decode cX1_answerOn 9 = .ok (.iaload, 1) := by decide +kernel
theorem dX1_answerOn_10 : decode cX1_answerOn 10 = .ok (.aaload, 1) := by decide +kernel
theorem dX1_answerOn_11 : decode cX1_answerOn 11 = .ok (.astore_n 3, 1) := by decide +kernel
theorem dX1_answerOn_12 : decode cX1_answerOn 12 = .ok (.aload_n 3, 1) := by decide +kernel
theorem dX1_answerOn_13 : decode cX1_answerOn 13 = .ok (.aload_n 0, 1) := by decide +kernel
theorem dX1_answerOn_14 : decode cX1_answerOn 14 = .ok (.iload_n 1, 1) := by decide +kernel
theorem dX1_answerOn_15 : decode cX1_answerOn 15 = .ok (.iload_n 2, 1) := by decide +kernel
theorem dX1_answerOn_16 : decode cX1_answerOn 16 = .ok (.invokevirtual 120, 3) := by decide +kernel
theorem dX1_answerOn_19 : decode cX1_answerOn 19 = .ok (.invokevirtual 82, 3) := by decide +kernel
theorem dX1_answerOn_22 : decode cX1_answerOn 22 = .ok (.istore 4, 2) := by decide +kernel
theorem dX1_answerOn_24 : decode cX1_answerOn 24 = .ok (.aload_n 3, 1) := by decide +kernel
theorem dX1_answerOn_25 : decode cX1_answerOn 25 = .ok (.iload 4, 2) := by decide +kernel
theorem dX1_answerOn_27 : decode cX1_answerOn 27 = .ok (.bipush 100, 2) := by decide +kernel
theorem dX1_answerOn_29 : decode cX1_answerOn 29 = .ok (.idiv, 1) := by decide +kernel
theorem dX1_answerOn_30 : decode cX1_answerOn 30 = .ok (.iload 4, 2) := by decide +kernel
theorem dX1_answerOn_32 : decode cX1_answerOn 32 = .ok (.bipush 100, 2) := by decide +kernel
theorem dX1_answerOn_34 : decode cX1_answerOn 34 = .ok (.irem, 1) := by decide +kernel
theorem dX1_answerOn_35 : decode cX1_answerOn 35 = .ok (.invokevirtual 86, 3) := by decide +kernel
theorem dX1_answerOn_38 : decode cX1_answerOn 38 = .ok (.ireturn, 1) := by decide +kernel
theorem dX1_seats_0 : decode cX1_seats 0 = .ok (.iload_n 1, 1) := by decide +kernel
theorem dX1_seats_1 : decode cX1_seats 1 = .ok (.iconst 1, 1) := by decide +kernel
theorem dX1_seats_2 : decode cX1_seats 2 = .ok (.if_icmp .lt 20, 3) := by decide +kernel
theorem dX1_seats_5 : decode cX1_seats 5 = .ok (.iload_n 1, 1) := by decide +kernel
theorem dX1_seats_6 : decode cX1_seats 6 = .ok (.bipush 8, 2) := by decide +kernel
theorem dX1_seats_8 : decode cX1_seats 8 = .ok (.if_icmp .gt 14, 3) := by decide +kernel
theorem dX1_seats_11 : decode cX1_seats 11 = .ok (.iload_n 2, 1) := by decide +kernel
theorem dX1_seats_12 : decode cX1_seats 12 = .ok (.iconst 1, 1) := by decide +kernel
theorem dX1_seats_13 : decode cX1_seats 13 = .ok (.if_icmp .lt 9, 3) := by decide +kernel
theorem dX1_seats_16 : decode cX1_seats 16 = .ok (.iload_n 2, 1) := by decide +kernel
theorem dX1_seats_17 : decode cX1_seats 17 = .ok (.bipush 8, 2) := by decide +kernel
theorem dX1_seats_19 : decode cX1_seats 19 = .ok (.if_icmp .le 6, 3) := by decide +kernel
theorem dX1_seats_22 : decode cX1_seats 22 = .ok (.bipush (-2), 2) := by decide +kernel
theorem dX1_seats_24 : decode cX1_seats 24 = .ok (.ireturn, 1) := by decide +kernel
theorem dX1_seats_25 : decode cX1_seats 25 = .ok (.aload_n 0, 1) := by decide +kernel
theorem dX1_seats_26 : decode cX1_seats 26 = .ok (.getfield 32, 3) := by decide +kernel
theorem dX1_seats_29 : decode cX1_seats 29 = .ok (.aload_n 0, 1) := by decide +kernel
theorem dX1_seats_30 : decode cX1_seats 30 = .ok (.getfield 35, 3) := by decide +kernel
theorem dX1_seats_33 : decode cX1_seats 33 = .ok (.imul, 1) := by decide +kernel
theorem dX1_seats_34 : decode cX1_seats 34 = .ok (.istore_n 3, 1) := by decide +kernel
theorem dX1_seats_35 : decode cX1_seats 35 = .ok (.aload_n 0, 1) := by decide +kernel
theorem dX1_seats_36 : decode cX1_seats 36 = .ok (.iload_n 1, 1) := by decide +kernel
theorem dX1_seats_37 : decode cX1_seats 37 = .ok (.putfield 32, 3) := by decide +kernel
theorem dX1_seats_40 : decode cX1_seats 40 = .ok (.aload_n 0, 1) := by decide +kernel
theorem dX1_seats_41 : decode cX1_seats 41 = .ok (.iload_n 2, 1) := by decide +kernel
theorem dX1_seats_42 : decode cX1_seats 42 = .ok (.putfield 35, 3) := by decide +kernel
theorem dX1_seats_45 : decode cX1_seats 45 = .ok (.iconst 0, 1) := by decide +kernel
theorem dX1_seats_46 : decode cX1_seats 46 = .ok (.istore 4, 2) := by decide +kernel
theorem dX1_seats_48 : decode cX1_seats 48 = .ok (.iload 4, 2) := by decide +kernel
theorem dX1_seats_50 : decode cX1_seats 50 = .ok (.aload_n 0, 1) := by decide +kernel
theorem dX1_seats_51 : decode cX1_seats 51 = .ok (.getfield 41, 3) := by decide +kernel
theorem dX1_seats_54 : decode cX1_seats 54 = .ok (.arraylength, 1) := by decide +kernel
theorem dX1_seats_55 : decode cX1_seats 55 = .ok (.if_icmp .ge 17, 3) := by decide +kernel
theorem dX1_seats_58 : decode cX1_seats 58 = .ok (.aload_n 0, 1) := by decide +kernel
theorem dX1_seats_59 : decode cX1_seats 59 = .ok (.getfield 41, 3) := by decide +kernel
theorem dX1_seats_62 : decode cX1_seats 62 = .ok (.iload 4, 2) := by decide +kernel
theorem dX1_seats_64 : decode cX1_seats 64 = .ok (.iconst 0, 1) := by decide +kernel
theorem dX1_seats_65 : decode cX1_seats 65 = .ok (.iastore, 1) := by decide +kernel
theorem dX1_seats_66 : decode cX1_seats 66 = .ok (.iinc 4 1, 3) := by decide +kernel
theorem dX1_seats_69 : decode cX1_seats 69 = .ok (.goto (-21), 3) := by decide +kernel
theorem dX1_seats_72 : decode cX1_seats 72 = .ok (.iload_n 3, 1) := by decide +kernel
theorem dX1_seats_73 : decode cX1_seats 73 = .ok (.ireturn, 1) := by decide +kernel
theorem dX1_base_0 : decode cX1_base 0 = .ok (.iload_n 1, 1) := by decide +kernel
theorem dX1_base_1 : decode cX1_base 1 = .ok (.ifCond .lt 10, 3) := by decide +kernel
theorem dX1_base_4 : decode cX1_base 4 = .ok (.iload_n 1, 1) := by decide +kernel
theorem dX1_base_5 : decode cX1_base 5 = .ok (.sipush 9000, 3) := by decide +kernel
theorem dX1_base_8 : decode cX1_base 8 = .ok (.if_icmp .le 6, 3) := by decide +kernel
theorem dX1_base_11 : decode cX1_base 11 = .ok (.bipush (-2), 2) := by decide +kernel
theorem dX1_base_13 : decode cX1_base 13 = .ok (.ireturn, 1) := by decide +kernel
theorem dX1_base_14 : decode cX1_base 14 = .ok (.aload_n 0, 1) := by decide +kernel
theorem dX1_base_15 : decode cX1_base 15 = .ok (.getfield 38, 3) := by decide +kernel
theorem dX1_base_18 : decode cX1_base 18 = .ok (.istore_n 2, 1) := by decide +kernel
theorem dX1_base_19 : decode cX1_base 19 = .ok (.aload_n 0, 1) := by decide +kernel
theorem dX1_base_20 : decode cX1_base 20 = .ok (.iload_n 1, 1) := by decide +kernel
theorem dX1_base_21 : decode cX1_base 21 = .ok (.putfield 38, 3) := by decide +kernel
theorem dX1_base_24 : decode cX1_base 24 = .ok (.iload_n 2, 1) := by decide +kernel
theorem dX1_base_25 : decode cX1_base 25 = .ok (.ireturn, 1) := by decide +kernel
set_option maxRecDepth 20000 in
theorem ggX1_seat_X1_isSeat : GoodIn wsX1_seat wsX1_isSeat := goodIn_r _ [5, 6, 7, 17, 18, 19, 20, 21, 22, 23, 24, 25, 26, 27, 28] (by decide +kernel) (by decide +kernel)
set_option maxRecDepth 20000 in
theorem gX1_seat_X1_isSeat : GoodIn wsX1_seat (wsV RX1 145 RX1 yX1_isSeat wsX1_isSeat) := goodIn_app (goodIn_of _ (by decide +kernel)) ggX1_seat_X1_isSeat
set_option maxRecDepth 20000 in
theorem ggX1_seat_X1_sheetAt : GoodIn wsX1_seat wsX1_sheetAt := goodIn_r _ [11, 12, 7, 13, 14, 15, 16, 17, 18, 19, 20, 21, 22, 23, 24, 25, 26, 27, 28] (by decide +kernel) (by decide +kernel)
set_option maxRecDepth 20000 in
theorem gX1_seat_X1_sheetAt : GoodIn wsX1_seat (wsV RX1 148 RX1 yX1_sheetAt wsX1_sheetAt) := goodIn_app (goodIn_of _ (by decide +kernel)) ggX1_seat_X1_sheetAt
theorem dX1_seat_0 : decode cX1_seat 0 = .ok (.aload_n 0, 1) := by decide +kernel
theorem dX1_seat_1 : decode cX1_seat 1 = .ok (.iload_n 1, 1) := by decide +kernel
theorem dX1_seat_2 : decode cX1_seat 2 = .ok (.invokevirtual 145, 3) := by decide +kernel
theorem dX1_seat_5 : decode cX1_seat 5 = .ok (.ifCond .eq 11, 3) := by decide +kernel
theorem dX1_seat_8 : decode cX1_seat 8 = .ok (.aload_n 0, 1) := by decide +kernel
theorem dX1_seat_9 : decode cX1_seat 9 = .ok (.iload_n 1, 1) := by decide +kernel
theorem dX1_seat_10 : decode cX1_seat 10 = .ok (.invokevirtual 148, 3) := by decide +kernel
theorem dX1_seat_13 : decode cX1_seat 13 = .ok (.goto 4, 3) := by decide +kernel
theorem dX1_seat_16 : decode cX1_seat 16 = .ok (.iconst (-1), 1) := by decide +kernel
theorem dX1_seat_17 : decode cX1_seat 17 = .ok (.ireturn, 1) := by decide +kernel
theorem dX1_unlike_0 : decode cX1_unlike 0 = .ok (.aload_n 0, 1) := by decide +kernel
theorem dX1_unlike_1 : decode cX1_unlike 1 = .ok (.getfield 32, 3) := by decide +kernel
theorem dX1_unlike_4 : decode cX1_unlike 4 = .ok (.iconst 2, 1) := by decide +kernel
theorem dX1_unlike_5 : decode cX1_unlike 5 = .ok (.invokestatic 151, 3) := by decide +kernel
theorem dX1_unlike_8 : decode cX1_unlike 8 = .ok (.aload_n 0, 1) := by decide +kernel
theorem dX1_unlike_9 : decode cX1_unlike 9 = .ok (.getfield 35, 3) := by decide +kernel
theorem dX1_unlike_12 : decode cX1_unlike 12 = .ok (.iconst 2, 1) := by decide +kernel
theorem dX1_unlike_13 : decode cX1_unlike 13 = .ok (.invokestatic 151, 3) := by decide +kernel
theorem dX1_unlike_16 : decode cX1_unlike 16 = .ok (.imul, 1) := by decide +kernel
theorem dX1_unlike_17 : decode cX1_unlike 17 = .ok (.ireturn, 1) := by decide +kernel
set_option maxRecDepth 20000 in
theorem ggX1_mark_X1_isSeat : GoodIn wsX1_mark wsX1_isSeat := goodIn_r _ [10, 11, 12, 94, 95, 96, 97, 98, 99, 100, 101, 102, 103, 104, 105] (by decide +kernel) (by decide +kernel)
set_option maxRecDepth 20000 in
theorem gX1_mark_X1_isSeat : GoodIn wsX1_mark (wsV RX1 145 RX1 yX1_isSeat wsX1_isSeat) := goodIn_app (goodIn_of _ (by decide +kernel)) ggX1_mark_X1_isSeat
set_option maxRecDepth 20000 in
theorem ggX1_mark_X1_isPlace : GoodIn wsX1_mark wsX1_isPlace := goodIn_r _ [16, 17, 94, 95, 96, 97, 98, 99, 100, 101, 102, 103, 104, 105] (by decide +kernel) (by decide +kernel)
set_option maxRecDepth 20000 in
theorem gX1_mark_X1_isPlace : GoodIn wsX1_mark (wsV RX1 108 RX1 yX1_isPlace wsX1_isPlace) := goodIn_app (goodIn_of _ (by decide +kernel)) ggX1_mark_X1_isPlace
set_option maxRecDepth 20000 in
theorem ggX1_mark_X1_lacksVariants : GoodIn wsX1_mark wsX1_lacksVariants := goodIn_r _ [21, 17, 2, 1, 22, 23, 24, 25, 26, 27, 94, 95, 96, 97, 98, 99, 100, 101, 102, 103, 104, 105, 106, 107, 108, 109, 110, 111, 112] (by decide +kernel) (by decide +kernel)
set_option maxRecDepth 20000 in
theorem gX1_mark_X1_lacksVariants : GoodIn wsX1_mark (wsV RX1 132 RX1 yX1_lacksVariants wsX1_lacksVariants) := goodIn_app (goodIn_of _ (by decide +kernel)) ggX1_mark_X1_lacksVariants
set_option maxRecDepth 20000 in
theorem ggX1_mark_X1_sheetAt : GoodIn wsX1_mark wsX1_sheetAt := goodIn_r _ [31, 32, 12, 33, 34, 35, 36, 94, 95, 96, 97, 98, 99, 100, 101, 102, 103, 104, 105] (by decide +kernel) (by decide +kernel)
set_option maxRecDepth 20000 in
theorem gX1_mark_X1_sheetAt : GoodIn wsX1_mark (wsV RX1 148 RX1 yX1_sheetAt wsX1_sheetAt) := goodIn_app (goodIn_of _ (by decide +kernel)) ggX1_mark_X1_sheetAt
set_option maxRecDepth 20000 in
theorem ggX1_mark_X1_variantOn : GoodIn wsX1_mark wsX1_variantOn := goodIn_r _ [40, 2, 1, 41, 42, 43, 44, 25, 45, 27, 46, 47, 94, 95, 96, 97, 98, 99, 100, 101, 102, 103, 104, 105, 106, 107, 108, 109, 110, 111, 112] (by decide +kernel) (by decide +kernel)
set_option maxRecDepth 20000 in
theorem gX1_mark_X1_variantOn : GoodIn wsX1_mark (wsV RX1 120 RX1 yX1_variantOn wsX1_variantOn) := goodIn_app (goodIn_of _ (by decide +kernel)) ggX1_mark_X1_variantOn
set_option maxRecDepth 20000 in
theorem ggX1_mark_X0_slipBehind : GoodIn wsX1_mark wsX0_slipBehind := goodIn_r _ [51, 52, 53, 54, 25, 55, 56, 57, 58, 59, 60, 61, 62, 47, 63, 64, 65, 66, 67, 68, 69, 70, 71, 72, 73, 74, 75, 76, 77, 78, 79, 80, 81, 82, 83, 84, 85, 35, 86, 87, 88, 89, 106, 107, 108, 109, 110, 111, 112] (by decide +kernel) (by decide +kernel)
set_option maxRecDepth 20000 in
theorem gX1_mark_X0_slipBehind : GoodIn wsX1_mark (wsV RX1 99 RX0 yX0_slipBehind wsX0_slipBehind) := goodIn_app (goodIn_of _ (by decide +kernel)) ggX1_mark_X0_slipBehind
set_option maxRecDepth 20000 in
theorem ggX1_mark_X1_missesFrom : GoodIn wsX1_mark wsX1_missesFrom := goodIn_r _ [93] (by decide +kernel) (by decide +kernel)
set_option maxRecDepth 20000 in
theorem gX1_mark_X1_missesFrom : GoodIn wsX1_mark (wsV RX1 156 RX1 yX1_missesFrom wsX1_missesFrom) := goodIn_app (goodIn_of _ (by decide +kernel)) ggX1_mark_X1_missesFrom
theorem dX1_mark_0 : decode cX1_mark 0 = .ok (.aload_n 0, 1) := by decide +kernel
theorem dX1_mark_1 : decode cX1_mark 1 = .ok (.iload_n 1, 1) := by decide +kernel
theorem dX1_mark_2 : decode cX1_mark 2 = .ok (.invokevirtual 145, 3) := by decide +kernel
theorem dX1_mark_5 : decode cX1_mark 5 = .ok (.ifCond .eq 11, 3) := by decide +kernel
theorem dX1_mark_8 : decode cX1_mark 8 = .ok (.aload_n 0, 1) := by decide +kernel
theorem dX1_mark_9 : decode cX1_mark 9 = .ok (.iload_n 2, 1) := by decide +kernel
theorem dX1_mark_10 : decode cX1_mark 10 = .ok (.invokevirtual 108, 3) := by decide +kernel
theorem dX1_mark_13 : decode cX1_mark 13 = .ok (.ifCond .ne 5, 3) := by decide +kernel
theorem dX1_mark_16 : decode cX1_mark 16 = .ok (.iconst (-1), 1) := by decide +kernel
theorem dX1_mark_17 : decode cX1_mark 17 = .ok (.ireturn, 1) := by decide +kernel
theorem dX1_mark_18 : decode cX1_mark 18 = .ok (.aload_n 0, 1) := by decide +kernel
theorem dX1_mark_19 : decode cX1_mark 19 = .ok (.invokevirtual 132, 3) := by decide +kernel
theorem dX1_mark_22 : decode cX1_mark 22 = .ok (.ifCond .eq 6, 3) := by decide +kernel
theorem dX1_mark_25 : decode cX1_mark 25 = .ok (.bipush (-3), 2) := by decide +kernel
theorem dX1_mark_27 : decode cX1_mark 27 = .ok (.ireturn, 1) := by decide +kernel
theorem dX1_mark_28 : decode cX1_mark 28 = .ok (.aload_n 0, 1) := by decide +kernel
theorem dX1_mark_29 : decode cX1_mark 29 = .ok (.getfield 19, 3) := by decide +kernel
theorem dX1_mark_32 : decode cX1_mark 32 = .ok (.iload_n 2, 1) := by decide +kernel
theorem dX1_mark_33 : decode cX1_mark 33 = .ok (.iaload, 1) := by decide +kernel
theorem dX1_mark_34 : decode cX1_mark 34 = .ok (.istore 4, 2) := by decide +kernel
theorem dX1_mark_36 : decode cX1_mark 36 = .ok (.aload_n 0, 1) := by decide +kernel
theorem dX1_mark_37 : decode cX1_mark 37 = .ok (.getfield 11, 3) := by decide +kernel
theorem dX1_mark_40 : decode cX1_mark 40 = .ok (.iload 4, 2) := by decide +kernel
theorem dX1_mark_42 : decode cX1_mark 42 = .ok (.aaload, 1) := by decide +kernel
theorem dX1_mark_43 : decode cX1_mark 43 = .ok (.aload_n 0, 1) := by decide +kernel
theorem dX1_mark_44 : decode cX1_mark 44 = .ok (.aload_n 0, 1) := by decide +kernel
theorem dX1_mark_45 : decode cX1_mark 45 = .ok (.iload_n 1, 1) := by decide +kernel
theorem dX1_mark_46 : decode cX1_mark 46 = .ok (.invokevirtual 148, 3) := by decide +kernel
theorem dX1_mark_49 : decode cX1_mark 49 = .ok (.iload_n 2, 1) := by decide +kernel
theorem dX1_mark_50 : decode cX1_mark 50 = .ok (.invokevirtual 120, 3) := by decide +kernel
theorem dX1_mark_53 : decode cX1_mark 53 = .ok (.iload_n 3, 1) := by decide +kernel
theorem dX1_mark_54 : decode cX1_mark 54 = .ok (.invokevirtual 99, 3) := by decide +kernel
theorem dX1_mark_57 : decode cX1_mark 57 = .ok (.istore 5, 2) := by decide +kernel
theorem dX1_mark_59 : decode cX1_mark 59 = .ok (.iload 5, 2) := by decide +kernel
theorem dX1_mark_61 : decode cX1_mark 61 = .ok (.ifCond .ne 16, 3) := by decide +kernel
theorem dX1_mark_64 : decode cX1_mark 64 = .ok (.aload_n 0, 1) := by decide +kernel
theorem dX1_mark_65 : decode cX1_mark 65 = .ok (.dup, 1) := by decide +kernel
theorem dX1_mark_66 : decode cX1_mark 66 = .ok (.getfield 44, 3) := by decide +kernel
theorem dX1_mark_69 : decode cX1_mark 69 = .ok (.iconst 1, 1) := by decide +kernel
theorem dX1_mark_70 : decode cX1_mark 70 = .ok (.iadd, 1) := by decide +kernel
theorem dX1_mark_71 : decode cX1_mark 71 = .ok (.putfield 44, 3) := by decide +kernel
theorem dX1_mark_74 : decode cX1_mark 74 = .ok (.goto 30, 3) := by decide +kernel
theorem dX1_mark_77 : decode cX1_mark 77 = .ok (.aload_n 0, 1) := by decide +kernel
theorem dX1_mark_78 : decode cX1_mark 78 = .ok (.dup, 1) := by decide +kernel
theorem dX1_mark_79 : decode cX1_mark 79 = .ok (.getfield 47, 3) := by decide +kernel
theorem dX1_mark_82 : decode cX1_mark 82 = .ok (.iconst 1, 1) := by decide +kernel
theorem dX1_mark_83 : decode cX1_mark 83 = .ok (.iadd, 1) := by decide +kernel
theorem dX1_mark_84 : decode cX1_mark 84 = .ok (.putfield 47, 3) := by decide +kernel
theorem dX1_mark_87 : decode cX1_mark 87 = .ok (.aload_n 0, 1) := by decide +kernel
theorem dX1_mark_88 : decode cX1_mark 88 = .ok (.getfield 41, 3) := by decide +kernel
theorem dX1_mark_91 : decode cX1_mark 91 = .ok (.aload_n 0, 1) := by decide +kernel
theorem dX1_mark_92 : decode cX1_mark 92 = .ok (.iload_n 1, 1) := by decide +kernel
theorem dX1_mark_93 : decode cX1_mark 93 = .ok (.invokevirtual 156, 3) := by decide +kernel
theorem dX1_mark_96 : decode cX1_mark 96 = .ok (.iload 4, 2) := by decide +kernel
theorem dX1_mark_98 : decode cX1_mark 98 = .ok (.iadd, 1) := by decide +kernel
theorem dX1_mark_99 : decode cX1_mark 99 = .ok (.dup2, 1) := by decide +kernel
end
section
theorem dX1_mark_100 : decode cX1_mark 100 = .ok (.iaload, 1) := by decide +kernel
theorem dX1_mark_101 : decode cX1_mark 101 = .ok (.iconst 1, 1) := by decide +kernel
theorem dX1_mark_102 : decode cX1_mark 102 = .ok (.iadd, 1) := by decide +kernel
theorem dX1_mark_103 : decode cX1_mark 103 = .ok (.iastore, 1) := by decide +kernel
theorem dX1_mark_104 : decode cX1_mark 104 = .ok (.iload 5, 2) := by decide +kernel
theorem dX1_mark_106 : decode cX1_mark 106 = .ok (.ireturn, 1) := by decide +kernel
set_option maxRecDepth 20000 in
theorem ggX1_missed_X1_isSeat : GoodIn wsX1_missed wsX1_isSeat := goodIn_r _ [6, 7, 8, 22, 23, 24, 25, 26, 27, 28, 29, 30, 31, 32, 33] (by decide +kernel) (by decide +kernel)
set_option maxRecDepth 20000 in
theorem gX1_missed_X1_isSeat : GoodIn wsX1_missed (wsV RX1 145 RX1 yX1_isSeat wsX1_isSeat) := goodIn_app (goodIn_of _ (by decide +kernel)) ggX1_missed_X1_isSeat
set_option maxRecDepth 20000 in
theorem ggX1_missed_X1_isKind : GoodIn wsX1_missed wsX1_isKind := goodIn_r _ [12, 13, 22, 23, 24, 25, 26, 27, 28, 29, 30, 31, 32, 33] (by decide +kernel) (by decide +kernel)
set_option maxRecDepth 20000 in
theorem gX1_missed_X1_isKind : GoodIn wsX1_missed (wsV RX1 55 RX1 yX1_isKind wsX1_isKind) := goodIn_app (goodIn_of _ (by decide +kernel)) ggX1_missed_X1_isKind
set_option maxRecDepth 20000 in
theorem ggX1_missed_X1_missesAt : GoodIn wsX1_missed wsX1_missesAt := goodIn_r _ [17, 1, 18, 19, 20, 5, 21, 22, 23, 24, 25, 26, 27, 28, 29, 30, 31, 32, 33] (by decide +kernel) (by decide +kernel)
set_option maxRecDepth 20000 in
theorem gX1_missed_X1_missesAt : GoodIn wsX1_missed (wsV RX1 159 RX1 yX1_missesAt wsX1_missesAt) := goodIn_app (goodIn_of _ (by decide +kernel)) ggX1_missed_X1_missesAt
set_option maxRecDepth 20000 in
theorem ggX1_missed_X1_missesFrom : GoodIn wsX1_missed wsX1_missesFrom := goodIn_r _ [21] (by decide +kernel) (by decide +kernel)
set_option maxRecDepth 20000 in
theorem gX1_missed_X1_missesFrom : GoodIn wsX1_missed (wsV RX1 156 RX1 yX1_missesFrom wsX1_missesFrom) := goodIn_app (goodIn_of _ (by decide +kernel)) ggX1_missed_X1_missesFrom
theorem dX1_missed_0 : decode cX1_missed 0 = .ok (.aload_n 0, 1) := by decide +kernel
theorem dX1_missed_1 : decode cX1_missed 1 = .ok (.iload_n 1, 1) := by decide +kernel
theorem dX1_missed_2 : decode cX1_missed 2 = .ok (.invokevirtual 145, 3) := by decide +kernel
theorem dX1_missed_5 : decode cX1_missed 5 = .ok (.ifCond .eq 17, 3) := by decide +kernel
theorem dX1_missed_8 : decode cX1_missed 8 = .ok (.iload_n 2, 1) := by decide +kernel
theorem dX1_missed_9 : decode cX1_missed 9 = .ok (.bipush (-9), 2) := by decide +kernel
theorem dX1_missed_11 : decode cX1_missed 11 = .ok (.if_icmp .eq 13, 3) := by decide +kernel
theorem dX1_missed_14 : decode cX1_missed 14 = .ok (.aload_n 0, 1) := by decide +kernel
theorem dX1_missed_15 : decode cX1_missed 15 = .ok (.iload_n 2, 1) := by decide +kernel
theorem dX1_missed_16 : decode cX1_missed 16 = .ok (.invokevirtual 55, 3) := by decide +kernel
theorem dX1_missed_19 : decode cX1_missed 19 = .ok (.ifCond .ne 5, 3) := by decide +kernel
theorem dX1_missed_22 : decode cX1_missed 22 = .ok (.iconst (-1), 1) := by decide +kernel
theorem dX1_missed_23 : decode cX1_missed 23 = .ok (.ireturn, 1) := by decide +kernel
theorem dX1_missed_24 : decode cX1_missed 24 = .ok (.iload_n 2, 1) := by decide +kernel
theorem dX1_missed_25 : decode cX1_missed 25 = .ok (.bipush (-9), 2) := by decide +kernel
theorem dX1_missed_27 : decode cX1_missed 27 = .ok (.if_icmp .ne 11, 3) := by decide +kernel
theorem dX1_missed_30 : decode cX1_missed 30 = .ok (.aload_n 0, 1) := by decide +kernel
theorem dX1_missed_31 : decode cX1_missed 31 = .ok (.iload_n 1, 1) := by decide +kernel
theorem dX1_missed_32 : decode cX1_missed 32 = .ok (.invokevirtual 159, 3) := by decide +kernel
theorem dX1_missed_35 : decode cX1_missed 35 = .ok (.goto 15, 3) := by decide +kernel
theorem dX1_missed_38 : decode cX1_missed 38 = .ok (.aload_n 0, 1) := by decide +kernel
theorem dX1_missed_39 : decode cX1_missed 39 = .ok (.getfield 41, 3) := by decide +kernel
theorem dX1_missed_42 : decode cX1_missed 42 = .ok (.aload_n 0, 1) := by decide +kernel
theorem dX1_missed_43 : decode cX1_missed 43 = .ok (.iload_n 1, 1) := by decide +kernel
theorem dX1_missed_44 : decode cX1_missed 44 = .ok (.invokevirtual 156, 3) := by decide +kernel
theorem dX1_missed_47 : decode cX1_missed 47 = .ok (.iload_n 2, 1) := by decide +kernel
theorem dX1_missed_48 : decode cX1_missed 48 = .ok (.iadd, 1) := by decide +kernel
theorem dX1_missed_49 : decode cX1_missed 49 = .ok (.iaload, 1) := by decide +kernel
theorem dX1_missed_50 : decode cX1_missed 50 = .ok (.ireturn, 1) := by decide +kernel
set_option maxRecDepth 20000 in
theorem ggX1_review_X1_isSeat : GoodIn wsX1_review wsX1_isSeat := goodIn_r _ [5, 6, 7, 26, 27, 28, 29, 30, 31, 32, 33, 34, 35, 36, 37] (by decide +kernel) (by decide +kernel)
set_option maxRecDepth 20000 in
theorem gX1_review_X1_isSeat : GoodIn wsX1_review (wsV RX1 145 RX1 yX1_isSeat wsX1_isSeat) := goodIn_app (goodIn_of _ (by decide +kernel)) ggX1_review_X1_isSeat
set_option maxRecDepth 20000 in
theorem ggX1_review_X1_isKind : GoodIn wsX1_review wsX1_isKind := goodIn_r _ [11, 12, 26, 27, 28, 29, 30, 31, 32, 33, 34, 35, 36, 37] (by decide +kernel) (by decide +kernel)
set_option maxRecDepth 20000 in
theorem gX1_review_X1_isKind : GoodIn wsX1_review (wsV RX1 55 RX1 yX1_isKind wsX1_isKind) := goodIn_app (goodIn_of _ (by decide +kernel)) ggX1_review_X1_isKind
set_option maxRecDepth 20000 in
theorem ggX1_review_X1_reviewPlaces : GoodIn wsX1_review wsX1_reviewPlaces := goodIn_r _ [16, 17, 18, 19, 20, 4, 21, 22, 23, 24, 25, 26, 27, 28, 29, 30, 31, 32, 33, 34, 35, 36, 37] (by decide +kernel) (by decide +kernel)
set_option maxRecDepth 20000 in
theorem gX1_review_X1_reviewPlaces : GoodIn wsX1_review (wsV RX1 162 RX1 yX1_reviewPlaces wsX1_reviewPlaces) := goodIn_app (goodIn_of _ (by decide +kernel)) ggX1_review_X1_reviewPlaces
theorem dX1_review_0 : decode cX1_review 0 = .ok (.aload_n 0, 1) := by decide +kernel
theorem dX1_review_1 : decode cX1_review 1 = .ok (.iload_n 1, 1) := by decide +kernel
theorem dX1_review_2 : decode cX1_review 2 = .ok (.invokevirtual 145, 3) := by decide +kernel
theorem dX1_review_5 : decode cX1_review 5 = .ok (.ifCond .eq 11, 3) := by decide +kernel
theorem dX1_review_8 : decode cX1_review 8 = .ok (.aload_n 0, 1) := by decide +kernel
theorem dX1_review_9 : decode cX1_review 9 = .ok (.iload_n 3, 1) := by decide +kernel
theorem dX1_review_10 : decode cX1_review 10 = .ok (.invokevirtual 55, 3) := by decide +kernel
theorem dX1_review_13 : decode cX1_review 13 = .ok (.ifCond .ne 5, 3) := by decide +kernel
theorem dX1_review_16 : decode cX1_review 16 = .ok (.iconst (-1), 1) := by decide +kernel
theorem dX1_review_17 : decode cX1_review 17 = .ok (.ireturn, 1) := by decide +kernel
theorem dX1_review_18 : decode cX1_review 18 = .ok (.iload_n 2, 1) := by decide +kernel
theorem dX1_review_19 : decode cX1_review 19 = .ok (.iconst 1, 1) := by decide +kernel
theorem dX1_review_20 : decode cX1_review 20 = .ok (.if_icmp .lt 9, 3) := by decide +kernel
theorem dX1_review_23 : decode cX1_review 23 = .ok (.iload_n 2, 1) := by decide +kernel
theorem dX1_review_24 : decode cX1_review 24 = .ok (.bipush 60, 2) := by decide +kernel
theorem dX1_review_26 : decode cX1_review 26 = .ok (.if_icmp .le 6, 3) := by decide +kernel
theorem dX1_review_29 : decode cX1_review 29 = .ok (.bipush (-2), 2) := by decide +kernel
theorem dX1_review_31 : decode cX1_review 31 = .ok (.ireturn, 1) := by decide +kernel
theorem dX1_review_32 : decode cX1_review 32 = .ok (.aload_n 0, 1) := by decide +kernel
theorem dX1_review_33 : decode cX1_review 33 = .ok (.iload_n 1, 1) := by decide +kernel
theorem dX1_review_34 : decode cX1_review 34 = .ok (.iload_n 2, 1) := by decide +kernel
theorem dX1_review_35 : decode cX1_review 35 = .ok (.iload_n 3, 1) := by decide +kernel
theorem dX1_review_36 : decode cX1_review 36 = .ok (.invokevirtual 162, 3) := by decide +kernel
theorem dX1_review_39 : decode cX1_review 39 = .ok (.ireturn, 1) := by decide +kernel
set_option maxRecDepth 20000 in
theorem ggX1_all_X1_isKind : GoodIn wsX1_all wsX1_isKind := goodIn_r _ [6, 7, 8, 9, 10, 11, 12, 13, 14, 15, 16, 17, 18, 19] (by decide +kernel) (by decide +kernel)
set_option maxRecDepth 20000 in
theorem gX1_all_X1_isKind : GoodIn wsX1_all (wsV RX1 55 RX1 yX1_isKind wsX1_isKind) := goodIn_app (goodIn_of _ (by decide +kernel)) ggX1_all_X1_isKind
theorem dX1_all_0 : decode cX1_all 0 = .ok (.aload_n 0, 1) := by decide +kernel
theorem dX1_all_1 : decode cX1_all 1 = .ok (.iload_n 1, 1) := by decide +kernel
theorem dX1_all_2 : decode cX1_all 2 = .ok (.invokevirtual 55, 3) := by decide +kernel
theorem dX1_all_5 : decode cX1_all 5 = .ok (.ifCond .ne 5, 3) := by decide +kernel
theorem dX1_all_8 : decode cX1_all 8 = .ok (.iconst (-1), 1) := by decide +kernel
theorem dX1_all_9 : decode cX1_all 9 = .ok (.ireturn, 1) := by decide +kernel
theorem dX1_all_10 : decode cX1_all 10 = .ok (.iconst 0, 1) := by decide +kernel
theorem dX1_all_11 : decode cX1_all 11 = .ok (.istore_n 2, 1) := by decide +kernel
theorem dX1_all_12 : decode cX1_all 12 = .ok (.iload_n 1, 1) := by decide +kernel
theorem dX1_all_13 : decode cX1_all 13 = .ok (.istore_n 3, 1) := by decide +kernel
theorem dX1_all_14 : decode cX1_all 14 = .ok (.iload_n 3, 1) := by decide +kernel
theorem dX1_all_15 : decode cX1_all 15 = .ok (.aload_n 0, 1) := by decide +kernel
theorem dX1_all_16 : decode cX1_all 16 = .ok (.getfield 41, 3) := by decide +kernel
theorem dX1_all_19 : decode cX1_all 19 = .ok (.arraylength, 1) := by decide +kernel
theorem dX1_all_20 : decode cX1_all 20 = .ok (.if_icmp .ge 18, 3) := by decide +kernel
theorem dX1_all_23 : decode cX1_all 23 = .ok (.iload_n 2, 1) := by decide +kernel
theorem dX1_all_24 : decode cX1_all 24 = .ok (.aload_n 0, 1) := by decide +kernel
theorem dX1_all_25 : decode cX1_all 25 = .ok (.getfield 41, 3) := by decide +kernel
theorem dX1_all_28 : decode cX1_all 28 = .ok (.iload_n 3, 1) := by decide +kernel
theorem dX1_all_29 : decode cX1_all 29 = .ok (.iaload, 1) := by decide +kernel
theorem dX1_all_30 : decode cX1_all 30 = .ok (.iadd, 1) := by decide +kernel
theorem dX1_all_31 : decode cX1_all 31 = .ok (.istore_n 2, 1) := by decide +kernel
theorem dX1_all_32 : decode cX1_all 32 = .ok (.iinc 3 8, 3) := by decide +kernel
theorem dX1_all_35 : decode cX1_all 35 = .ok (.goto (-21), 3) := by decide +kernel
theorem dX1_all_38 : decode cX1_all 38 = .ok (.iload_n 2, 1) := by decide +kernel
theorem dX1_all_39 : decode cX1_all 39 = .ok (.ireturn, 1) := by decide +kernel
theorem dX1_total_0 : decode cX1_total 0 = .ok (.iload_n 1, 1) := by decide +kernel
theorem dX1_total_1 : decode cX1_total 1 = .ok (.tableswitch 65 0 4 #[35, 40, 45, 55, 60], 35) := by decide +kernel
theorem dX1_total_36 : decode cX1_total 36 = .ok (.aload_n 0, 1) := by decide +kernel
theorem dX1_total_37 : decode cX1_total 37 = .ok (.getfield 15, 3) := by decide +kernel
theorem dX1_total_40 : decode cX1_total 40 = .ok (.ireturn, 1) := by decide +kernel
theorem dX1_total_41 : decode cX1_total 41 = .ok (.aload_n 0, 1) := by decide +kernel
theorem dX1_total_42 : decode cX1_total 42 = .ok (.getfield 26, 3) := by decide +kernel
theorem dX1_total_45 : decode cX1_total 45 = .ok (.ireturn, 1) := by decide +kernel
theorem dX1_total_46 : decode cX1_total 46 = .ok (.aload_n 0, 1) := by decide +kernel
theorem dX1_total_47 : decode cX1_total 47 = .ok (.getfield 32, 3) := by decide +kernel
theorem dX1_total_50 : decode cX1_total 50 = .ok (.aload_n 0, 1) := by decide +kernel
theorem dX1_total_51 : decode cX1_total 51 = .ok (.getfield 35, 3) := by decide +kernel
theorem dX1_total_54 : decode cX1_total 54 = .ok (.imul, 1) := by decide +kernel
theorem dX1_total_55 : decode cX1_total 55 = .ok (.ireturn, 1) := by decide +kernel
theorem dX1_total_56 : decode cX1_total 56 = .ok (.aload_n 0, 1) := by decide +kernel
theorem dX1_total_57 : decode cX1_total 57 = .ok (.getfield 44, 3) := by decide +kernel
theorem dX1_total_60 : decode cX1_total 60 = .ok (.ireturn, 1) := by decide +kernel
theorem dX1_total_61 : decode cX1_total 61 = .ok (.aload_n 0, 1) := by decide +kernel
theorem dX1_total_62 : decode cX1_total 62 = .ok (.getfield 47, 3) := by decide +kernel
theorem dX1_total_65 : decode cX1_total 65 = .ok (.ireturn, 1) := by decide +kernel
theorem dX1_total_66 : decode cX1_total 66 = .ok (.bipush (-2), 2) := by decide +kernel
theorem dX1_total_68 : decode cX1_total 68 = .ok (.ireturn, 1) := by decide +kernel
theorem dX1_isSeat_0 : decode cX1_isSeat 0 = .ok (.iload_n 1, 1) := by decide +kernel
theorem dX1_isSeat_1 : decode cX1_isSeat 1 = .ok (.ifCond .lt 29, 3) := by decide +kernel
theorem dX1_isSeat_4 : decode cX1_isSeat 4 = .ok (.iload_n 1, 1) := by decide +kernel
theorem dX1_isSeat_5 : decode cX1_isSeat 5 = .ok (.bipush 10, 2) := by decide +kernel
theorem dX1_isSeat_7 : decode cX1_isSeat 7 = .ok (.idiv, 1) := by decide +kernel
theorem dX1_isSeat_8 : decode cX1_isSeat 8 = .ok (.aload_n 0, 1) := by decide +kernel
theorem dX1_isSeat_9 : decode cX1_isSeat 9 = .ok (.getfield 32, 3) := by decide +kernel
theorem dX1_isSeat_12 : decode cX1_isSeat 12 = .ok (.if_icmp .ge 18, 3) := by decide +kernel
theorem dX1_isSeat_15 : decode cX1_isSeat 15 = .ok (.iload_n 1, 1) := by decide +kernel
theorem dX1_isSeat_16 : decode cX1_isSeat 16 = .ok (.bipush 10, 2) := by decide +kernel
theorem dX1_isSeat_18 : decode cX1_isSeat 18 = .ok (.irem, 1) := by decide +kernel
theorem dX1_isSeat_19 : decode cX1_isSeat 19 = .ok (.aload_n 0, 1) := by decide +kernel
theorem dX1_isSeat_20 : decode cX1_isSeat 20 = .ok (.getfield 35, 3) := by decide +kernel
theorem dX1_isSeat_23 : decode cX1_isSeat 23 = .ok (.if_icmp .ge 7, 3) := by decide +kernel
theorem dX1_isSeat_26 : decode cX1_isSeat 26 = .ok (.iconst 1, 1) := by decide +kernel
theorem dX1_isSeat_27 : decode cX1_isSeat 27 = .ok (.goto 4, 3) := by decide +kernel
theorem dX1_isSeat_30 : decode cX1_isSeat 30 = .ok (.iconst 0, 1) := by decide +kernel
theorem dX1_isSeat_31 : decode cX1_isSeat 31 = .ok (.ireturn, 1) := by decide +kernel
theorem dX1_sheetAt_0 : decode cX1_sheetAt 0 = .ok (.iload_n 1, 1) := by decide +kernel
theorem dX1_sheetAt_1 : decode cX1_sheetAt 1 = .ok (.bipush 10, 2) := by decide +kernel
theorem dX1_sheetAt_3 : decode cX1_sheetAt 3 = .ok (.idiv, 1) := by decide +kernel
theorem dX1_sheetAt_4 : decode cX1_sheetAt 4 = .ok (.iconst 2, 1) := by decide +kernel
theorem dX1_sheetAt_5 : decode cX1_sheetAt 5 = .ok (.irem, 1) := by decide +kernel
theorem dX1_sheetAt_6 : decode cX1_sheetAt 6 = .ok (.istore_n 2, 1) := by decide +kernel
theorem dX1_sheetAt_7 : decode cX1_sheetAt 7 = .ok (.iload_n 1, 1) := by decide +kernel
theorem dX1_sheetAt_8 : decode cX1_sheetAt 8 = .ok (.bipush 10, 2) := by decide +kernel
theorem dX1_sheetAt_10 : decode cX1_sheetAt 10 = .ok (.irem, 1) := by decide +kernel
theorem dX1_sheetAt_11 : decode cX1_sheetAt 11 = .ok (.iconst 2, 1) := by decide +kernel
theorem dX1_sheetAt_12 : decode cX1_sheetAt 12 = .ok (.irem, 1) := by decide +kernel
theorem dX1_sheetAt_13 : decode cX1_sheetAt 13 = .ok (.istore_n 3, 1) := by decide +kernel
theorem dX1_sheetAt_14 : decode cX1_sheetAt 14 = .ok (.aload_n 0, 1) := by decide +kernel
theorem dX1_sheetAt_15 : decode cX1_sheetAt 15 = .ok (.getfield 38, 3) := by decide +kernel
theorem dX1_sheetAt_18 : decode cX1_sheetAt 18 = .ok (.iload_n 2, 1) := by decide +kernel
theorem dX1_sheetAt_19 : decode cX1_sheetAt 19 = .ok (.aload_n 0, 1) := by decide +kernel
theorem dX1_sheetAt_20 : decode cX1_sheetAt 20 = .ok (.getfield 35, 3) := by decide +kernel
theorem dX1_sheetAt_23 : decode cX1_sheetAt 23 = .ok (.iconst 2, 1) := by decide +kernel
theorem dX1_sheetAt_24 : decode cX1_sheetAt 24 = .ok (.invokestatic 151, 3) := by decide +kernel
theorem dX1_sheetAt_27 : decode cX1_sheetAt 27 = .ok (.imul, 1) := by decide +kernel
theorem dX1_sheetAt_28 : decode cX1_sheetAt 28 = .ok (.iadd, 1) := by decide +kernel
theorem dX1_sheetAt_29 : decode cX1_sheetAt 29 = .ok (.iload_n 3, 1) := by decide +kernel
theorem dX1_sheetAt_30 : decode cX1_sheetAt 30 = .ok (.iadd, 1) := by decide +kernel
theorem dX1_sheetAt_31 : decode cX1_sheetAt 31 = .ok (.ireturn, 1) := by decide +kernel
theorem dX1_missesFrom_0 : decode cX1_missesFrom 0 = .ok (.iload_n 1, 1) := by decide +kernel
theorem dX1_missesFrom_1 : decode cX1_missesFrom 1 = .ok (.bipush 10, 2) := by decide +kernel
theorem dX1_missesFrom_3 : decode cX1_missesFrom 3 = .ok (.idiv, 1) := by decide +kernel
theorem dX1_missesFrom_4 : decode cX1_missesFrom 4 = .ok (.bipush 8, 2) := by decide +kernel
theorem dX1_missesFrom_6 : decode cX1_missesFrom 6 = .ok (.imul, 1) := by decide +kernel
theorem dX1_missesFrom_7 : decode cX1_missesFrom 7 = .ok (.iload_n 1, 1) := by decide +kernel
theorem dX1_missesFrom_8 : decode cX1_missesFrom 8 = .ok (.bipush 10, 2) := by decide +kernel
theorem dX1_missesFrom_10 : decode cX1_missesFrom 10 = .ok (.irem, 1) := by decide +kernel
theorem dX1_missesFrom_11 : decode cX1_missesFrom 11 = .ok (.iadd, 1) := by decide +kernel
theorem dX1_missesFrom_12 : decode cX1_missesFrom 12 = .ok (.bipush 8, 2) := by decide +kernel
theorem dX1_missesFrom_14 : decode cX1_missesFrom 14 = .ok (.imul, 1) := by decide +kernel
theorem dX1_missesFrom_15 : decode cX1_missesFrom 15 = .ok (.ireturn, 1) := by decide +kernel
set_option maxRecDepth 20000 in
theorem ggX1_missesAt_X1_missesFrom : GoodIn wsX1_missesAt wsX1_missesFrom := goodIn_r _ [6] (by decide +kernel) (by decide +kernel)
set_option maxRecDepth 20000 in
theorem gX1_missesAt_X1_missesFrom : GoodIn wsX1_missesAt (wsV RX1 156 RX1 yX1_missesFrom wsX1_missesFrom) := goodIn_app (goodIn_of _ (by decide +kernel)) ggX1_missesAt_X1_missesFrom
theorem dX1_missesAt_0 : decode cX1_missesAt 0 = .ok (.aload_n 0, 1) := by decide +kernel
theorem dX1_missesAt_1 : decode cX1_missesAt 1 = .ok (.iload_n 1, 1) := by decide +kernel
theorem dX1_missesAt_2 : decode cX1_missesAt 2 = .ok (.invokevirtual 156, 3) := by decide +kernel
theorem dX1_missesAt_5 : decode cX1_missesAt 5 = .ok (.istore_n 2, 1) := by decide +kernel
theorem dX1_missesAt_6 : decode cX1_missesAt 6 = .ok (.iconst 0, 1) := by decide +kernel
theorem dX1_missesAt_7 : decode cX1_missesAt 7 = .ok (.istore_n 3, 1) := by decide +kernel
theorem dX1_missesAt_8 : decode cX1_missesAt 8 = .ok (.iconst 0, 1) := by decide +kernel
theorem dX1_missesAt_9 : decode cX1_missesAt 9 = .ok (.istore 4, 2) := by decide +kernel
theorem dX1_missesAt_11 : decode cX1_missesAt 11 = .ok (.iload 4, 2) := by decide +kernel
theorem dX1_missesAt_13 : decode cX1_missesAt 13 = .ok (.bipush 8, 2) := by decide +kernel
theorem dX1_missesAt_15 : decode cX1_missesAt 15 = .ok (.if_icmp .ge 21, 3) := by decide +kernel
theorem dX1_missesAt_18 : decode cX1_missesAt 18 = .ok (.iload_n 3, 1) := by decide +kernel
theorem dX1_missesAt_19 : decode cX1_missesAt 19 = .ok (.aload_n 0, 1) := by decide +kernel
theorem dX1_missesAt_20 : decode cX1_missesAt 20 = .ok (.getfield 41, 3) := by decide +kernel
theorem dX1_missesAt_23 : decode cX1_missesAt 23 = .ok (.iload_n 2, 1) := by decide +kernel
theorem dX1_missesAt_24 : decode cX1_missesAt 24 = .ok (.iload 4, 2) := by decide +kernel
theorem dX1_missesAt_26 : decode cX1_missesAt 26 = .ok (.iadd, 1) := by decide +kernel
theorem dX1_missesAt_27 : decode cX1_missesAt 27 = .ok (.iaload, 1) := by decide +kernel
theorem dX1_missesAt_28 : decode cX1_missesAt 28 = .ok (.iadd, 1) := by decide +kernel
theorem dX1_missesAt_29 : decode cX1_missesAt 29 = .ok (.istore_n 3, 1) := by decide +kernel
theorem dX1_missesAt_30 : decode cX1_missesAt 30 = .ok (.iinc 4 1, 3) := by decide +kernel
theorem dX1_missesAt_33 : decode cX1_missesAt 33 = .ok (.goto (-22), 3) := by decide +kernel
theorem dX1_missesAt_36 : decode cX1_missesAt 36 = .ok (.iload_n 3, 1) := by decide +kernel
theorem dX1_missesAt_37 : decode cX1_missesAt 37 = .ok (.ireturn, 1) := by decide +kernel
set_option maxRecDepth 20000 in
theorem ggX1_reviewPlaces_X1_missesFrom : GoodIn wsX1_reviewPlaces wsX1_missesFrom := goodIn_r _ [6] (by decide +kernel) (by decide +kernel)
set_option maxRecDepth 20000 in
theorem gX1_reviewPlaces_X1_missesFrom : GoodIn wsX1_reviewPlaces (wsV RX1 156 RX1 yX1_missesFrom wsX1_missesFrom) := goodIn_app (goodIn_of _ (by decide +kernel)) ggX1_reviewPlaces_X1_missesFrom
set_option maxRecDepth 20000 in
theorem ggX1_reviewPlaces_X1_missesAt : GoodIn wsX1_reviewPlaces wsX1_missesAt := goodIn_r _ [10, 1, 2, 3, 4, 5, 6, 11, 12, 13, 14, 15, 16, 17, 18, 19, 20, 21, 22] (by decide +kernel) (by decide +kernel)
set_option maxRecDepth 20000 in
theorem gX1_reviewPlaces_X1_missesAt : GoodIn wsX1_reviewPlaces (wsV RX1 159 RX1 yX1_missesAt wsX1_missesAt) := goodIn_app (goodIn_of _ (by decide +kernel)) ggX1_reviewPlaces_X1_missesAt
theorem dX1_reviewPlaces_0 : decode cX1_reviewPlaces 0 = .ok (.aload_n 0, 1) := by decide +kernel
theorem dX1_reviewPlaces_1 : decode cX1_reviewPlaces 1 = .ok (.iload_n 1, 1) := by decide +kernel
theorem dX1_reviewPlaces_2 : decode cX1_reviewPlaces 2 = .ok (.invokevirtual 156, 3) := by decide +kernel
theorem dX1_reviewPlaces_5 : decode cX1_reviewPlaces 5 = .ok (.istore 4, 2) := by decide +kernel
theorem dX1_reviewPlaces_7 : decode cX1_reviewPlaces 7 = .ok (.aload_n 0, 1) := by decide +kernel
theorem dX1_reviewPlaces_8 : decode cX1_reviewPlaces 8 = .ok (.iload_n 1, 1) := by decide +kernel
theorem dX1_reviewPlaces_9 : decode cX1_reviewPlaces 9 = .ok (.invokevirtual 159, 3) := by decide +kernel
theorem dX1_reviewPlaces_12 : decode cX1_reviewPlaces 12 = .ok (.istore 5, 2) := by decide +kernel
theorem dX1_reviewPlaces_14 : decode cX1_reviewPlaces 14 = .ok (.iload 5, 2) := by decide +kernel
theorem dX1_reviewPlaces_16 : decode cX1_reviewPlaces 16 = .ok (.ifCond .ne 6, 3) := by decide +kernel
theorem dX1_reviewPlaces_19 : decode cX1_reviewPlaces 19 = .ok (.bipush (-3), 2) := by decide +kernel
theorem dX1_reviewPlaces_21 : decode cX1_reviewPlaces 21 = .ok (.ireturn, 1) := by decide +kernel
theorem dX1_reviewPlaces_22 : decode cX1_reviewPlaces 22 = .ok (.iload_n 2, 1) := by decide +kernel
theorem dX1_reviewPlaces_23 : decode cX1_reviewPlaces 23 = .ok (.aload_n 0, 1) := by decide +kernel
theorem dX1_reviewPlaces_24 : decode cX1_reviewPlaces 24 = .ok (.getfield 41, 3) := by decide +kernel
theorem dX1_reviewPlaces_27 : decode cX1_reviewPlaces 27 = .ok (.iload 4, 2) := by decide +kernel
theorem dX1_reviewPlaces_29 : decode cX1_reviewPlaces 29 = .ok (.iload_n 3, 1) := by decide +kernel
theorem dX1_reviewPlaces_30 : decode cX1_reviewPlaces 30 = .ok (.iadd, 1) := by decide +kernel
theorem dX1_reviewPlaces_31 : decode cX1_reviewPlaces 31 = .ok (.iaload, 1) := by decide +kernel
theorem dX1_reviewPlaces_32 : decode cX1_reviewPlaces 32 = .ok (.imul, 1) := by decide +kernel
theorem dX1_reviewPlaces_33 : decode cX1_reviewPlaces 33 = .ok (.iload 5, 2) := by decide +kernel
theorem dX1_reviewPlaces_35 : decode cX1_reviewPlaces 35 = .ok (.irem, 1) := by decide +kernel
theorem dX1_reviewPlaces_36 : decode cX1_reviewPlaces 36 = .ok (.istore 6, 2) := by decide +kernel
theorem dX1_reviewPlaces_38 : decode cX1_reviewPlaces 38 = .ok (.iload_n 2, 1) := by decide +kernel
theorem dX1_reviewPlaces_39 : decode cX1_reviewPlaces 39 = .ok (.istore 7, 2) := by decide +kernel
theorem dX1_reviewPlaces_41 : decode cX1_reviewPlaces 41 = .ok (.iconst 0, 1) := by decide +kernel
theorem dX1_reviewPlaces_42 : decode cX1_reviewPlaces 42 = .ok (.istore 8, 2) := by decide +kernel
theorem dX1_reviewPlaces_44 : decode cX1_reviewPlaces 44 = .ok (.iconst 0, 1) := by decide +kernel
theorem dX1_reviewPlaces_45 : decode cX1_reviewPlaces 45 = .ok (.istore 9, 2) := by decide +kernel
theorem dX1_reviewPlaces_47 : decode cX1_reviewPlaces 47 = .ok (.iload 9, 2) := by decide +kernel
theorem dX1_reviewPlaces_49 : decode cX1_reviewPlaces 49 = .ok (.bipush 8, 2) := by decide +kernel
theorem dX1_reviewPlaces_51 : decode cX1_reviewPlaces 51 = .ok (.if_icmp .ge 62, 3) := by decide +kernel
theorem dX1_reviewPlaces_54 : decode cX1_reviewPlaces 54 = .ok (.iload_n 2, 1) := by decide +kernel
theorem dX1_reviewPlaces_55 : decode cX1_reviewPlaces 55 = .ok (.aload_n 0, 1) := by decide +kernel
theorem dX1_reviewPlaces_56 : decode cX1_reviewPlaces 56 = .ok (.getfield 41, 3) := by decide +kernel
theorem dX1_reviewPlaces_59 : decode cX1_reviewPlaces 59 = .ok (.iload 4, 2) := by decide +kernel
theorem dX1_reviewPlaces_61 : decode cX1_reviewPlaces 61 = .ok (.iload 9, 2) := by decide +kernel
theorem dX1_reviewPlaces_63 : decode cX1_reviewPlaces 63 = .ok (.iadd, 1) := by decide +kernel
theorem dX1_reviewPlaces_64 : decode cX1_reviewPlaces 64 = .ok (.iaload, 1) := by decide +kernel
theorem dX1_reviewPlaces_65 : decode cX1_reviewPlaces 65 = .ok (.imul, 1) := by decide +kernel
theorem dX1_reviewPlaces_66 : decode cX1_reviewPlaces 66 = .ok (.istore 10, 2) := by decide +kernel
theorem dX1_reviewPlaces_68 : decode cX1_reviewPlaces 68 = .ok (.iload 7, 2) := by decide +kernel
theorem dX1_reviewPlaces_70 : decode cX1_reviewPlaces 70 = .ok (.iload 10, 2) := by decide +kernel
theorem dX1_reviewPlaces_72 : decode cX1_reviewPlaces 72 = .ok (.iload 5, 2) := by decide +kernel
theorem dX1_reviewPlaces_74 : decode cX1_reviewPlaces 74 = .ok (.idiv, 1) := by decide +kernel
theorem dX1_reviewPlaces_75 : decode cX1_reviewPlaces 75 = .ok (.isub, 1) := by decide +kernel
theorem dX1_reviewPlaces_76 : decode cX1_reviewPlaces 76 = .ok (.istore 7, 2) := by decide +kernel
theorem dX1_reviewPlaces_78 : decode cX1_reviewPlaces 78 = .ok (.iload 10, 2) := by decide +kernel
theorem dX1_reviewPlaces_80 : decode cX1_reviewPlaces 80 = .ok (.iload 5, 2) := by decide +kernel
theorem dX1_reviewPlaces_82 : decode cX1_reviewPlaces 82 = .ok (.irem, 1) := by decide +kernel
theorem dX1_reviewPlaces_83 : decode cX1_reviewPlaces 83 = .ok (.iload 6, 2) := by decide +kernel
theorem dX1_reviewPlaces_85 : decode cX1_reviewPlaces 85 = .ok (.if_icmp .gt 19, 3) := by decide +kernel
theorem dX1_reviewPlaces_88 : decode cX1_reviewPlaces 88 = .ok (.iload 10, 2) := by decide +kernel
theorem dX1_reviewPlaces_90 : decode cX1_reviewPlaces 90 = .ok (.iload 5, 2) := by decide +kernel
theorem dX1_reviewPlaces_92 : decode cX1_reviewPlaces 92 = .ok (.irem, 1) := by decide +kernel
theorem dX1_reviewPlaces_93 : decode cX1_reviewPlaces 93 = .ok (.iload 6, 2) := by decide +kernel
theorem dX1_reviewPlaces_95 : decode cX1_reviewPlaces 95 = .ok (.if_icmp .ne 12, 3) := by decide +kernel
theorem dX1_reviewPlaces_98 : decode cX1_reviewPlaces 98 = .ok (.iload 9, 2) := by decide +kernel
theorem dX1_reviewPlaces_100 : decode cX1_reviewPlaces 100 = .ok (.iload_n 3, 1) := by decide +kernel
theorem dX1_reviewPlaces_101 : decode cX1_reviewPlaces 101 = .ok (.if_icmp .ge 6, 3) := by decide +kernel
theorem dX1_reviewPlaces_104 : decode cX1_reviewPlaces 104 = .ok (.iinc 8 1, 3) := by decide +kernel
theorem dX1_reviewPlaces_107 : decode cX1_reviewPlaces 107 = .ok (.iinc 9 1, 3) := by decide +kernel
theorem dX1_reviewPlaces_110 : decode cX1_reviewPlaces 110 = .ok (.goto (-63), 3) := by decide +kernel
theorem dX1_reviewPlaces_113 : decode cX1_reviewPlaces 113 = .ok (.iload_n 2, 1) := by decide +kernel
theorem dX1_reviewPlaces_114 : decode cX1_reviewPlaces 114 = .ok (.aload_n 0, 1) := by decide +kernel
theorem dX1_reviewPlaces_115 : decode cX1_reviewPlaces 115 = .ok (.getfield 41, 3) := by decide +kernel
theorem dX1_reviewPlaces_118 : decode cX1_reviewPlaces 118 = .ok (.iload 4, 2) := by decide +kernel
theorem dX1_reviewPlaces_120 : decode cX1_reviewPlaces 120 = .ok (.iload_n 3, 1) := by decide +kernel
theorem dX1_reviewPlaces_121 : decode cX1_reviewPlaces 121 = .ok (.iadd, 1) := by decide +kernel
theorem dX1_reviewPlaces_122 : decode cX1_reviewPlaces 122 = .ok (.iaload, 1) := by decide +kernel
theorem dX1_reviewPlaces_123 : decode cX1_reviewPlaces 123 = .ok (.imul, 1) := by decide +kernel
theorem dX1_reviewPlaces_124 : decode cX1_reviewPlaces 124 = .ok (.iload 5, 2) := by decide +kernel
theorem dX1_reviewPlaces_126 : decode cX1_reviewPlaces 126 = .ok (.idiv, 1) := by decide +kernel
theorem dX1_reviewPlaces_127 : decode cX1_reviewPlaces 127 = .ok (.istore 9, 2) := by decide +kernel
theorem dX1_reviewPlaces_129 : decode cX1_reviewPlaces 129 = .ok (.iload 8, 2) := by decide +kernel
theorem dX1_reviewPlaces_131 : decode cX1_reviewPlaces 131 = .ok (.iload 7, 2) := by decide +kernel
theorem dX1_reviewPlaces_133 : decode cX1_reviewPlaces 133 = .ok (.if_icmp .ge 10, 3) := by decide +kernel
theorem dX1_reviewPlaces_136 : decode cX1_reviewPlaces 136 = .ok (.iload 9, 2) := by decide +kernel
theorem dX1_reviewPlaces_138 : decode cX1_reviewPlaces 138 = .ok (.iconst 1, 1) := by decide +kernel
theorem dX1_reviewPlaces_139 : decode cX1_reviewPlaces 139 = .ok (.iadd, 1) := by decide +kernel
theorem dX1_reviewPlaces_140 : decode cX1_reviewPlaces 140 = .ok (.goto 5, 3) := by decide +kernel
theorem dX1_reviewPlaces_143 : decode cX1_reviewPlaces 143 = .ok (.iload 9, 2) := by decide +kernel
theorem dX1_reviewPlaces_145 : decode cX1_reviewPlaces 145 = .ok (.ireturn, 1) := by decide +kernel
theorem dX2_init_0 : decode cX2_init 0 = .ok (.aload_n 0, 1) := by decide +kernel
theorem dX2_init_1 : decode cX2_init 1 = .ok (.invokespecial 1, 3) := by decide +kernel
theorem dX2_init_4 : decode cX2_init 4 = .ok (.aload_n 0, 1) := by decide +kernel
theorem dX2_init_5 : decode cX2_init 5 = .ok (.bipush 8, 2) := by decide +kernel
theorem dX2_init_7 : decode cX2_init 7 = .ok (.newarray .int, 2) := by decide +kernel
theorem dX2_init_9 : decode cX2_init 9 = .ok (.putfield 7, 3) := by decide +kernel
theorem dX2_init_12 : decode cX2_init 12 = .ok (.aload_n 0, 1) := by decide +kernel
theorem dX2_init_13 : decode cX2_init 13 = .ok (.bipush 24, 2) := by decide +kernel
theorem dX2_init_15 : decode cX2_init 15 = .ok (.newarray .int, 2) := by decide +kernel
theorem dX2_init_17 : decode cX2_init 17 = .ok (.putfield 13, 3) := by decide +kernel
theorem dX2_init_20 : decode cX2_init 20 = .ok (.aload_n 0, 1) := by decide +kernel
theorem dX2_init_21 : decode cX2_init 21 = .ok (.bipush 24, 2) := by decide +kernel
theorem dX2_init_23 : decode cX2_init 23 = .ok (.newarray .int, 2) := by decide +kernel
theorem dX2_init_25 : decode cX2_init 25 = .ok (.putfield 16, 3) := by decide +kernel
theorem dX2_init_28 : decode cX2_init 28 = .ok (.aload_n 0, 1) := by decide +kernel
theorem dX2_init_29 : decode cX2_init 29 = .ok (.bipush 8, 2) := by decide +kernel
theorem dX2_init_31 : decode cX2_init 31 = .ok (.newarray .int, 2) := by decide +kernel
theorem dX2_init_33 : decode cX2_init 33 = .ok (.putfield 19, 3) := by decide +kernel
theorem dX2_init_36 : decode cX2_init 36 = .ok (.aload_n 0, 1) := by decide +kernel
theorem dX2_init_37 : decode cX2_init 37 = .ok (.bipush 8, 2) := by decide +kernel
theorem dX2_init_39 : decode cX2_init 39 = .ok (.newarray .int, 2) := by decide +kernel
theorem dX2_init_41 : decode cX2_init 41 = .ok (.putfield 22, 3) := by decide +kernel
theorem dX2_init_44 : decode cX2_init 44 = .ok (.aload_n 0, 1) := by decide +kernel
theorem dX2_init_45 : decode cX2_init 45 = .ok (.bipush 8, 2) := by decide +kernel
theorem dX2_init_47 : decode cX2_init 47 = .ok (.newarray .int, 2) := by decide +kernel
theorem dX2_init_49 : decode cX2_init 49 = .ok (.putfield 25, 3) := by decide +kernel
theorem dX2_init_52 : decode cX2_init 52 = .ok (.aload_n 0, 1) := by decide +kernel
theorem dX2_init_53 : decode cX2_init 53 = .ok (.bipush 8, 2) := by decide +kernel
theorem dX2_init_55 : decode cX2_init 55 = .ok (.newarray .boolean, 2) := by decide +kernel
theorem dX2_init_57 : decode cX2_init 57 = .ok (.putfield 28, 3) := by decide +kernel
theorem dX2_init_60 : decode cX2_init 60 = .ok (.aload_n 0, 1) := by decide +kernel
theorem dX2_init_61 : decode cX2_init 61 = .ok (.bipush 8, 2) := by decide +kernel
theorem dX2_init_63 : decode cX2_init 63 = .ok (.newarray .int, 2) := by decide +kernel
theorem dX2_init_65 : decode cX2_init 65 = .ok (.putfield 32, 3) := by decide +kernel
theorem dX2_init_68 : decode cX2_init 68 = .ok (.aload_n 0, 1) := by decide +kernel
theorem dX2_init_69 : decode cX2_init 69 = .ok (.ldc 35, 2) := by decide +kernel
theorem dX2_init_71 : decode cX2_init 71 = .ok (.newarray .short, 2) := by decide +kernel
theorem dX2_init_73 : decode cX2_init 73 = .ok (.putfield 36, 3) := by decide +kernel
theorem dX2_init_76 : decode cX2_init 76 = .ok (.aload_n 0, 1) := by decide +kernel
theorem dX2_init_77 : decode cX2_init 77 = .ok (.bipush 40, 2) := by decide +kernel
theorem dX2_init_79 : decode cX2_init 79 = .ok (.newarray .int, 2) := by decide +kernel
theorem dX2_init_81 : decode cX2_init 81 = .ok (.putfield 40, 3) := by decide +kernel
theorem dX2_init_84 : decode cX2_init 84 = .ok (.aload_n 0, 1) := by decide +kernel
theorem dX2_init_85 : decode cX2_init 85 = .ok (.bipush 20, 2) := by decide +kernel
theorem dX2_init_87 : decode cX2_init 87 = .ok (.putfield 43, 3) := by decide +kernel
theorem dX2_init_90 : decode cX2_init 90 = .ok (.aload_n 0, 1) := by decide +kernel
theorem dX2_init_91 : decode cX2_init 91 = .ok (.iconst 1, 1) := by decide +kernel
theorem dX2_init_92 : decode cX2_init 92 = .ok (.putfield 47, 3) := by decide +kernel
theorem dX2_init_95 : decode cX2_init 95 = .ok (.aload_n 0, 1) := by decide +kernel
theorem dX2_init_96 : decode cX2_init 96 = .ok (.iconst 1, 1) := by decide +kernel
theorem dX2_init_97 : decode cX2_init 97 = .ok (.putfield 50, 3) := by decide +kernel
theorem dX2_init_100 : decode cX2_init 100 = .ok (.aload_n 0, 1) := by decide +kernel
theorem dX2_init_101 : decode cX2_init 101 = .ok (.bipush 64, 2) := by decide +kernel
theorem dX2_init_103 : decode cX2_init 103 = .ok (.newarray .int, 2) := by decide +kernel
theorem dX2_init_105 : decode cX2_init 105 = .ok (.putfield 53, 3) := by decide +kernel
theorem dX2_init_108 : decode cX2_init 108 = .ok (.aload_n 0, 1) := by decide +kernel
theorem dX2_init_109 : decode cX2_init 109 = .ok (.sipush 512, 3) := by decide +kernel
theorem dX2_init_112 : decode cX2_init 112 = .ok (.newarray .int, 2) := by decide +kernel
theorem dX2_init_114 : decode cX2_init 114 = .ok (.putfield 56, 3) := by decide +kernel
theorem dX2_init_117 : decode cX2_init 117 = .ok (.return_, 1) := by decide +kernel
theorem dX2_in_0 : decode cX2_in 0 = .ok (.lload_n 0, 1) := by decide +kernel
theorem dX2_in_1 : decode cX2_in 1 = .ok (.lload_n 2, 1) := by decide +kernel
theorem dX2_in_2 : decode cX2_in 2 = .ok (.lcmp, 1) := by decide +kernel
theorem dX2_in_3 : decode cX2_in 3 = .ok (.ifCond .lt 14, 3) := by decide +kernel
theorem dX2_in_6 : decode cX2_in 6 = .ok (.lload_n 0, 1) := by decide +kernel
theorem dX2_in_7 : decode cX2_in 7 = .ok (.lload 4, 2) := by decide +kernel
theorem dX2_in_9 : decode cX2_in 9 = .ok (.lcmp, 1) := by decide +kernel
theorem dX2_in_10 : decode cX2_in 10 = .ok (.ifCond .gt 7, 3) := by decide +kernel
theorem dX2_in_13 : decode cX2_in 13 = .ok (.iconst 1, 1) := by decide +kernel
theorem dX2_in_14 : decode cX2_in 14 = .ok (.goto 4, 3) := by decide +kernel
theorem dX2_in_17 : decode cX2_in 17 = .ok (.iconst 0, 1) := by decide +kernel
theorem dX2_in_18 : decode cX2_in 18 = .ok (.ireturn, 1) := by decide +kernel
set_option maxRecDepth 20000 in
theorem ggX2_noKind_X2_in : GoodIn wsX2_noKind wsX2_in := goodIn_r _ [5] (by decide +kernel) (by decide +kernel)
set_option maxRecDepth 20000 in
theorem gX2_noKind_X2_in : GoodIn wsX2_noKind (va_wsS RX2 65 yX2_in wsX2_in) := goodIn_app (goodIn_of _ (by decide +kernel)) ggX2_noKind_X2_in
theorem dX2_noKind_0 : decode cX2_noKind 0 = .ok (.iload_n 1, 1) := by decide +kernel
theorem dX2_noKind_1 : decode cX2_noKind 1 = .ok (.i2l, 1) := by decide +kernel
theorem dX2_noKind_2 : decode cX2_noKind 2 = .ok (.lconst 0, 1) := by decide +kernel
theorem dX2_noKind_3 : decode cX2_noKind 3 = .ok (.aload_n 0, 1) := by decide +kernel
theorem dX2_noKind_4 : decode cX2_noKind 4 = .ok (.getfield 62, 3) := by decide +kernel
theorem dX2_noKind_7 : decode cX2_noKind 7 = .ok (.iconst 1, 1) := by decide +kernel
theorem dX2_noKind_8 : decode cX2_noKind 8 = .ok (.isub, 1) := by decide +kernel
theorem dX2_noKind_9 : decode cX2_noKind 9 = .ok (.i2l, 1) := by decide +kernel
theorem dX2_noKind_10 : decode cX2_noKind 10 = .ok (.invokestatic 65, 3) := by decide +kernel
theorem dX2_noKind_13 : decode cX2_noKind 13 = .ok (.ifCond .ne 7, 3) := by decide +kernel
theorem dX2_noKind_16 : decode cX2_noKind 16 = .ok (.iconst 1, 1) := by decide +kernel
theorem dX2_noKind_17 : decode cX2_noKind 17 = .ok (.goto 4, 3) := by decide +kernel
theorem dX2_noKind_20 : decode cX2_noKind 20 = .ok (.iconst 0, 1) := by decide +kernel
theorem dX2_noKind_21 : decode cX2_noKind 21 = .ok (.ireturn, 1) := by decide +kernel
set_option maxRecDepth 20000 in
theorem ggX2_noPlace_X2_in : GoodIn wsX2_noPlace wsX2_in := goodIn_r _ [5] (by decide +kernel) (by decide +kernel)
set_option maxRecDepth 20000 in
theorem gX2_noPlace_X2_in : GoodIn wsX2_noPlace (va_wsS RX2 65 yX2_in wsX2_in) := goodIn_app (goodIn_of _ (by decide +kernel)) ggX2_noPlace_X2_in
theorem dX2_noPlace_0 : decode cX2_noPlace 0 = .ok (.iload_n 1, 1) := by decide +kernel
theorem dX2_noPlace_1 : decode cX2_noPlace 1 = .ok (.i2l, 1) := by decide +kernel
theorem dX2_noPlace_2 : decode cX2_noPlace 2 = .ok (.lconst 0, 1) := by decide +kernel
theorem dX2_noPlace_3 : decode cX2_noPlace 3 = .ok (.aload_n 0, 1) := by decide +kernel
theorem dX2_noPlace_4 : decode cX2_noPlace 4 = .ok (.getfield 69, 3) := by decide +kernel
theorem dX2_noPlace_7 : decode cX2_noPlace 7 = .ok (.iconst 1, 1) := by decide +kernel
theorem dX2_noPlace_8 : decode cX2_noPlace 8 = .ok (.isub, 1) := by decide +kernel
theorem dX2_noPlace_9 : decode cX2_noPlace 9 = .ok (.i2l, 1) := by decide +kernel
theorem dX2_noPlace_10 : decode cX2_noPlace 10 = .ok (.invokestatic 65, 3) := by decide +kernel
theorem dX2_noPlace_13 : decode cX2_noPlace 13 = .ok (.ifCond .ne 7, 3) := by decide +kernel
theorem dX2_noPlace_16 : decode cX2_noPlace 16 = .ok (.iconst 1, 1) := by decide +kernel
theorem dX2_noPlace_17 : decode cX2_noPlace 17 = .ok (.goto 4, 3) := by decide +kernel
theorem dX2_noPlace_20 : decode cX2_noPlace 20 = .ok (.iconst 0, 1) := by decide +kernel
theorem dX2_noPlace_21 : decode cX2_noPlace 21 = .ok (.ireturn, 1) := by decide +kernel
theorem dX2_noSeat_0 : decode cX2_noSeat 0 = .ok (.iload_n 1, 1) := by decide +kernel
theorem dX2_noSeat_1 : decode cX2_noSeat 1 = .ok (.ifCond .lt 25, 3) := by decide +kernel
theorem dX2_noSeat_4 : decode cX2_noSeat 4 = .ok (.iload_n 1, 1) := by decide +kernel
theorem dX2_noSeat_5 : decode cX2_noSeat 5 = .ok (.bipush 10, 2) := by decide +kernel
theorem dX2_noSeat_7 : decode cX2_noSeat 7 = .ok (.idiv, 1) := by decide +kernel
theorem dX2_noSeat_8 : decode cX2_noSeat 8 = .ok (.aload_n 0, 1) := by decide +kernel
theorem dX2_noSeat_9 : decode cX2_noSeat 9 = .ok (.getfield 47, 3) := by decide +kernel
theorem dX2_noSeat_12 : decode cX2_noSeat 12 = .ok (.if_icmp .ge 14, 3) := by decide +kernel
theorem dX2_noSeat_15 : decode cX2_noSeat 15 = .ok (.iload_n 1, 1) := by decide +kernel
theorem dX2_noSeat_16 : decode cX2_noSeat 16 = .ok (.bipush 10, 2) := by decide +kernel
theorem dX2_noSeat_18 : decode cX2_noSeat 18 = .ok (.irem, 1) := by decide +kernel
theorem dX2_noSeat_19 : decode cX2_noSeat 19 = .ok (.aload_n 0, 1) := by decide +kernel
theorem dX2_noSeat_20 : decode cX2_noSeat 20 = .ok (.getfield 50, 3) := by decide +kernel
theorem dX2_noSeat_23 : decode cX2_noSeat 23 = .ok (.if_icmp .lt 7, 3) := by decide +kernel
theorem dX2_noSeat_26 : decode cX2_noSeat 26 = .ok (.iconst 1, 1) := by decide +kernel
theorem dX2_noSeat_27 : decode cX2_noSeat 27 = .ok (.goto 4, 3) := by decide +kernel
theorem dX2_noSeat_30 : decode cX2_noSeat 30 = .ok (.iconst 0, 1) := by decide +kernel
theorem dX2_noSeat_31 : decode cX2_noSeat 31 = .ok (.ireturn, 1) := by decide +kernel
theorem dX2_answerOf_0 : decode cX2_answerOf 0 = .ok (.iload_n 0, 1) := by decide +kernel
theorem dX2_answerOf_1 : decode cX2_answerOf 1 = .ok (.ifCond .ne 7, 3) := by decide +kernel
theorem dX2_answerOf_4 : decode cX2_answerOf 4 = .ok (.iload_n 1, 1) := by decide +kernel
theorem dX2_answerOf_5 : decode cX2_answerOf 5 = .ok (.iload_n 2, 1) := by decide +kernel
theorem dX2_answerOf_6 : decode cX2_answerOf 6 = .ok (.iadd, 1) := by decide +kernel
theorem dX2_answerOf_7 : decode cX2_answerOf 7 = .ok (.ireturn, 1) := by decide +kernel
theorem dX2_answerOf_8 : decode cX2_answerOf 8 = .ok (.iload_n 0, 1) := by decide +kernel
theorem dX2_answerOf_9 : decode cX2_answerOf 9 = .ok (.iconst 1, 1) := by decide +kernel
theorem dX2_answerOf_10 : decode cX2_answerOf 10 = .ok (.if_icmp .ne 17, 3) := by decide +kernel
theorem dX2_answerOf_13 : decode cX2_answerOf 13 = .ok (.iload_n 1, 1) := by decide +kernel
theorem dX2_answerOf_14 : decode cX2_answerOf 14 = .ok (.iload_n 2, 1) := by decide +kernel
theorem dX2_answerOf_15 : decode cX2_answerOf 15 = .ok (.if_icmp .lt 9, 3) := by decide +kernel
theorem dX2_answerOf_18 : decode cX2_answerOf 18 = .ok (.iload_n 1, 1) := by decide +kernel
theorem dX2_answerOf_19 : decode cX2_answerOf 19 = .ok (.iload_n 2, 1) := by decide +kernel
theorem dX2_answerOf_20 : decode cX2_answerOf 20 = .ok (.isub, 1) := by decide +kernel
theorem dX2_answerOf_21 : decode cX2_answerOf 21 = .ok (.goto 5, 3) := by decide +kernel
theorem dX2_answerOf_24 : decode cX2_answerOf 24 = .ok (.bipush (-9), 2) := by decide +kernel
theorem dX2_answerOf_26 : decode cX2_answerOf 26 = .ok (.ireturn, 1) := by decide +kernel
theorem dX2_answerOf_27 : decode cX2_answerOf 27 = .ok (.iload_n 0, 1) := by decide +kernel
theorem dX2_answerOf_28 : decode cX2_answerOf 28 = .ok (.iconst 2, 1) := by decide +kernel
theorem dX2_answerOf_29 : decode cX2_answerOf 29 = .ok (.if_icmp .ne 7, 3) := by decide +kernel
theorem dX2_answerOf_32 : decode cX2_answerOf 32 = .ok (.iload_n 1, 1) := by decide +kernel
theorem dX2_answerOf_33 : decode cX2_answerOf 33 = .ok (.iload_n 2, 1) := by decide +kernel
theorem dX2_answerOf_34 : decode cX2_answerOf 34 = .ok (.imul, 1) := by decide +kernel
theorem dX2_answerOf_35 : decode cX2_answerOf 35 = .ok (.ireturn, 1) := by decide +kernel
theorem dX2_answerOf_36 : decode cX2_answerOf 36 = .ok (.iload_n 2, 1) := by decide +kernel
theorem dX2_answerOf_37 : decode cX2_answerOf 37 = .ok (.ifCond .eq 15, 3) := by decide +kernel
theorem dX2_answerOf_40 : decode cX2_answerOf 40 = .ok (.iload_n 1, 1) := by decide +kernel
theorem dX2_answerOf_41 : decode cX2_answerOf 41 = .ok (.iload_n 2, 1) := by decide +kernel
theorem dX2_answerOf_42 : decode cX2_answerOf 42 = .ok (.irem, 1) := by decide +kernel
theorem dX2_answerOf_43 : decode cX2_answerOf 43 = .ok (.ifCond .ne 9, 3) := by decide +kernel
theorem dX2_answerOf_46 : decode cX2_answerOf 46 = .ok (.iload_n 1, 1) := by decide +kernel
theorem dX2_answerOf_47 : decode cX2_answerOf 47 = .ok (.iload_n 2, 1) := by decide +kernel
theorem dX2_answerOf_48 : decode cX2_answerOf 48 = .ok (.idiv, 1) := by decide +kernel
theorem dX2_answerOf_49 : decode cX2_answerOf 49 = .ok (.goto 5, 3) := by decide +kernel
theorem dX2_answerOf_52 : decode cX2_answerOf 52 = .ok (.bipush (-9), 2) := by decide +kernel
theorem dX2_answerOf_54 : decode cX2_answerOf 54 = .ok (.ireturn, 1) := by decide +kernel
theorem dX2_carries_0 : decode cX2_carries 0 = .ok (.iload_n 0, 1) := by decide +kernel
theorem dX2_carries_1 : decode cX2_carries 1 = .ok (.ifCond .ne 25, 3) := by decide +kernel
theorem dX2_carries_4 : decode cX2_carries 4 = .ok (.iload_n 1, 1) := by decide +kernel
theorem dX2_carries_5 : decode cX2_carries 5 = .ok (.bipush 10, 2) := by decide +kernel
theorem dX2_carries_7 : decode cX2_carries 7 = .ok (.irem, 1) := by decide +kernel
theorem dX2_carries_8 : decode cX2_carries 8 = .ok (.iload_n 2, 1) := by decide +kernel
theorem dX2_carries_9 : decode cX2_carries 9 = .ok (.bipush 10, 2) := by decide +kernel
theorem dX2_carries_11 : decode cX2_carries 11 = .ok (.irem, 1) := by decide +kernel
theorem dX2_carries_12 : decode cX2_carries 12 = .ok (.iadd, 1) := by decide +kernel
theorem dX2_carries_13 : decode cX2_carries 13 = .ok (.bipush 10, 2) := by decide +kernel
theorem dX2_carries_15 : decode cX2_carries 15 = .ok (.if_icmp .lt 7, 3) := by decide +kernel
theorem dX2_carries_18 : decode cX2_carries 18 = .ok (.iconst 1, 1) := by decide +kernel
theorem dX2_carries_19 : decode cX2_carries 19 = .ok (.goto 28, 3) := by decide +kernel
theorem dX2_carries_22 : decode cX2_carries 22 = .ok (.iconst 0, 1) := by decide +kernel
theorem dX2_carries_23 : decode cX2_carries 23 = .ok (.goto 24, 3) := by decide +kernel
theorem dX2_carries_26 : decode cX2_carries 26 = .ok (.iload_n 0, 1) := by decide +kernel
theorem dX2_carries_27 : decode cX2_carries 27 = .ok (.iconst 1, 1) := by decide +kernel
theorem dX2_carries_28 : decode cX2_carries 28 = .ok (.if_icmp .ne 18, 3) := by decide +kernel
theorem dX2_carries_31 : decode cX2_carries 31 = .ok (.iload_n 1, 1) := by decide +kernel
theorem dX2_carries_32 : decode cX2_carries 32 = .ok (.bipush 10, 2) := by decide +kernel
theorem dX2_carries_34 : decode cX2_carries 34 = .ok (.irem, 1) := by decide +kernel
theorem dX2_carries_35 : decode cX2_carries 35 = .ok (.iload_n 2, 1) := by decide +kernel
theorem dX2_carries_36 : decode cX2_carries 36 = .ok (.bipush 10, 2) := by decide +kernel
theorem dX2_carries_38 : decode cX2_carries 38 = .ok (.irem, 1) := by decide +kernel
theorem dX2_carries_39 : decode cX2_carries 39 = .ok (.if_icmp .ge 7, 3) := by decide +kernel
theorem dX2_carries_42 : decode cX2_carries 42 = .ok (.iconst 1, 1) := by decide +kernel
theorem dX2_carries_43 : decode cX2_carries 43 = .ok (.goto 4, 3) := by decide +kernel
theorem dX2_carries_46 : decode cX2_carries 46 = .ok (.iconst 0, 1) := by decide +kernel
theorem dX2_carries_47 : decode cX2_carries 47 = .ok (.ireturn, 1) := by decide +kernel
set_option maxRecDepth 20000 in
theorem ggX2_slipOf_X2_answerOf : GoodIn wsX2_slipOf wsX2_answerOf := goodIn_r _ [6] (by decide +kernel) (by decide +kernel)
set_option maxRecDepth 20000 in
theorem gX2_slipOf_X2_answerOf : GoodIn wsX2_slipOf (va_wsS RX2 72 yX2_answerOf wsX2_answerOf) := goodIn_app (goodIn_of _ (by decide +kernel)) ggX2_slipOf_X2_answerOf
set_option maxRecDepth 20000 in
theorem ggX2_slipOf_X2_carries : GoodIn wsX2_slipOf wsX2_carries := goodIn_r _ [9] (by decide +kernel) (by decide +kernel)
set_option maxRecDepth 20000 in
theorem gX2_slipOf_X2_carries : GoodIn wsX2_slipOf (va_wsS RX2 76 yX2_carries wsX2_carries) := goodIn_app (goodIn_of _ (by decide +kernel)) ggX2_slipOf_X2_carries
set_option maxRecDepth 20000 in
theorem ggX2_slipOf_X2_in : GoodIn wsX2_slipOf wsX2_in := goodIn_r _ [12] (by decide +kernel) (by decide +kernel)
set_option maxRecDepth 20000 in
theorem gX2_slipOf_X2_in : GoodIn wsX2_slipOf (va_wsS RX2 65 yX2_in wsX2_in) := goodIn_app (goodIn_of _ (by decide +kernel)) ggX2_slipOf_X2_in
theorem dX2_slipOf_0 : decode cX2_slipOf 0 = .ok (.iload_n 0, 1) := by decide +kernel
theorem dX2_slipOf_1 : decode cX2_slipOf 1 = .ok (.iload_n 1, 1) := by decide +kernel
theorem dX2_slipOf_2 : decode cX2_slipOf 2 = .ok (.iload_n 2, 1) := by decide +kernel
theorem dX2_slipOf_3 : decode cX2_slipOf 3 = .ok (.invokestatic 72, 3) := by decide +kernel
theorem dX2_slipOf_6 : decode cX2_slipOf 6 = .ok (.istore 4, 2) := by decide +kernel
theorem dX2_slipOf_8 : decode cX2_slipOf 8 = .ok (.iload_n 3, 1) := by decide +kernel
theorem dX2_slipOf_9 : decode cX2_slipOf 9 = .ok (.tableswitch 130 1 4 #[31, 61, 110, 115], 31) := by decide +kernel
theorem dX2_slipOf_40 : decode cX2_slipOf 40 = .ok (.iload_n 0, 1) := by decide +kernel
theorem dX2_slipOf_41 : decode cX2_slipOf 41 = .ok (.iconst 1, 1) := by decide +kernel
theorem dX2_slipOf_42 : decode cX2_slipOf 42 = .ok (.if_icmp .eq 8, 3) := by decide +kernel
theorem dX2_slipOf_45 : decode cX2_slipOf 45 = .ok (.iload_n 0, 1) := by decide +kernel
theorem dX2_slipOf_46 : decode cX2_slipOf 46 = .ok (.iconst 2, 1) := by decide +kernel
theorem dX2_slipOf_47 : decode cX2_slipOf 47 = .ok (.if_icmp .ne 9, 3) := by decide +kernel
theorem dX2_slipOf_50 : decode cX2_slipOf 50 = .ok (.iload_n 1, 1) := by decide +kernel
theorem dX2_slipOf_51 : decode cX2_slipOf 51 = .ok (.iload_n 2, 1) := by decide +kernel
theorem dX2_slipOf_52 : decode cX2_slipOf 52 = .ok (.iadd, 1) := by decide +kernel
theorem dX2_slipOf_53 : decode cX2_slipOf 53 = .ok (.goto 16, 3) := by decide +kernel
theorem dX2_slipOf_56 : decode cX2_slipOf 56 = .ok (.iload_n 1, 1) := by decide +kernel
theorem dX2_slipOf_57 : decode cX2_slipOf 57 = .ok (.iload_n 2, 1) := by decide +kernel
theorem dX2_slipOf_58 : decode cX2_slipOf 58 = .ok (.if_icmp .lt 9, 3) := by decide +kernel
theorem dX2_slipOf_61 : decode cX2_slipOf 61 = .ok (.iload_n 1, 1) := by decide +kernel
theorem dX2_slipOf_62 : decode cX2_slipOf 62 = .ok (.iload_n 2, 1) := by decide +kernel
theorem dX2_slipOf_63 : decode cX2_slipOf 63 = .ok (.isub, 1) := by decide +kernel
theorem dX2_slipOf_64 : decode cX2_slipOf 64 = .ok (.goto 5, 3) := by decide +kernel
theorem dX2_slipOf_67 : decode cX2_slipOf 67 = .ok (.bipush (-9), 2) := by decide +kernel
theorem dX2_slipOf_69 : decode cX2_slipOf 69 = .ok (.ireturn, 1) := by decide +kernel
theorem dX2_slipOf_70 : decode cX2_slipOf 70 = .ok (.iload_n 0, 1) := by decide +kernel
theorem dX2_slipOf_71 : decode cX2_slipOf 71 = .ok (.iload_n 1, 1) := by decide +kernel
theorem dX2_slipOf_72 : decode cX2_slipOf 72 = .ok (.iload_n 2, 1) := by decide +kernel
theorem dX2_slipOf_73 : decode cX2_slipOf 73 = .ok (.invokestatic 76, 3) := by decide +kernel
theorem dX2_slipOf_76 : decode cX2_slipOf 76 = .ok (.ifCond .ne 8, 3) := by decide +kernel
theorem dX2_slipOf_79 : decode cX2_slipOf 79 = .ok (.bipush (-9), 2) := by decide +kernel
theorem dX2_slipOf_81 : decode cX2_slipOf 81 = .ok (.goto 37, 3) := by decide +kernel
theorem dX2_slipOf_84 : decode cX2_slipOf 84 = .ok (.iload_n 0, 1) := by decide +kernel
theorem dX2_slipOf_85 : decode cX2_slipOf 85 = .ok (.ifCond .ne 11, 3) := by decide +kernel
theorem dX2_slipOf_88 : decode cX2_slipOf 88 = .ok (.iload 4, 2) := by decide +kernel
theorem dX2_slipOf_90 : decode cX2_slipOf 90 = .ok (.bipush 10, 2) := by decide +kernel
theorem dX2_slipOf_92 : decode cX2_slipOf 92 = .ok (.isub, 1) := by decide +kernel
theorem dX2_slipOf_93 : decode cX2_slipOf 93 = .ok (.goto 25, 3) := by decide +kernel
theorem dX2_slipOf_96 : decode cX2_slipOf 96 = .ok (.bipush 10, 2) := by decide +kernel
theorem dX2_slipOf_98 : decode cX2_slipOf 98 = .ok (.iload_n 1, 1) := by decide +kernel
theorem dX2_slipOf_99 : decode cX2_slipOf 99 = .ok (.bipush 10, 2) := by decide +kernel
theorem dX2_slipOf_101 : decode cX2_slipOf 101 = .ok (.idiv, 1) := by decide +kernel
theorem dX2_slipOf_102 : decode cX2_slipOf 102 = .ok (.iload_n 2, 1) := by decide +kernel
theorem dX2_slipOf_103 : decode cX2_slipOf 103 = .ok (.bipush 10, 2) := by decide +kernel
theorem dX2_slipOf_105 : decode cX2_slipOf 105 = .ok (.idiv, 1) := by decide +kernel
theorem dX2_slipOf_106 : decode cX2_slipOf 106 = .ok (.isub, 1) := by decide +kernel
theorem dX2_slipOf_107 : decode cX2_slipOf 107 = .ok (.imul, 1) := by decide +kernel
theorem dX2_slipOf_108 : decode cX2_slipOf 108 = .ok (.iload_n 2, 1) := by decide +kernel
theorem dX2_slipOf_109 : decode cX2_slipOf 109 = .ok (.bipush 10, 2) := by decide +kernel
theorem dX2_slipOf_111 : decode cX2_slipOf 111 = .ok (.irem, 1) := by decide +kernel
theorem dX2_slipOf_112 : decode cX2_slipOf 112 = .ok (.iadd, 1) := by decide +kernel
theorem dX2_slipOf_113 : decode cX2_slipOf 113 = .ok (.iload_n 1, 1) := by decide +kernel
theorem dX2_slipOf_114 : decode cX2_slipOf 114 = .ok (.bipush 10, 2) := by decide +kernel
theorem dX2_slipOf_116 : decode cX2_slipOf 116 = .ok (.irem, 1) := by decide +kernel
theorem dX2_slipOf_117 : decode cX2_slipOf 117 = .ok (.isub, 1) := by decide +kernel
theorem dX2_slipOf_118 : decode cX2_slipOf 118 = .ok (.ireturn, 1) := by decide +kernel
theorem dX2_slipOf_119 : decode cX2_slipOf 119 = .ok (.iload 4, 2) := by decide +kernel
theorem dX2_slipOf_121 : decode cX2_slipOf 121 = .ok (.iconst 1, 1) := by decide +kernel
theorem dX2_slipOf_122 : decode cX2_slipOf 122 = .ok (.iadd, 1) := by decide +kernel
theorem dX2_slipOf_123 : decode cX2_slipOf 123 = .ok (.ireturn, 1) := by decide +kernel
theorem dX2_slipOf_124 : decode cX2_slipOf 124 = .ok (.iload 4, 2) := by decide +kernel
theorem dX2_slipOf_126 : decode cX2_slipOf 126 = .ok (.ifCond .le 10, 3) := by decide +kernel
theorem dX2_slipOf_129 : decode cX2_slipOf 129 = .ok (.iload 4, 2) := by decide +kernel
theorem dX2_slipOf_131 : decode cX2_slipOf 131 = .ok (.iconst 1, 1) := by decide +kernel
theorem dX2_slipOf_132 : decode cX2_slipOf 132 = .ok (.isub, 1) := by decide +kernel
theorem dX2_slipOf_133 : decode cX2_slipOf 133 = .ok (.goto 5, 3) := by decide +kernel
theorem dX2_slipOf_136 : decode cX2_slipOf 136 = .ok (.bipush (-9), 2) := by decide +kernel
theorem dX2_slipOf_138 : decode cX2_slipOf 138 = .ok (.ireturn, 1) := by decide +kernel
theorem dX2_slipOf_139 : decode cX2_slipOf 139 = .ok (.iload 4, 2) := by decide +kernel
theorem dX2_slipOf_141 : decode cX2_slipOf 141 = .ok (.i2l, 1) := by decide +kernel
theorem dX2_slipOf_142 : decode cX2_slipOf 142 = .ok (.ldc2_w 80, 3) := by decide +kernel
theorem dX2_slipOf_145 : decode cX2_slipOf 145 = .ok (.ldc2_w 82, 3) := by decide +kernel
theorem dX2_slipOf_148 : decode cX2_slipOf 148 = .ok (.invokestatic 65, 3) := by decide +kernel
theorem dX2_slipOf_151 : decode cX2_slipOf 151 = .ok (.ifCond .eq 33, 3) := by decide +kernel
theorem dX2_slipOf_154 : decode cX2_slipOf 154 = .ok (.iload 4, 2) := by decide +kernel
theorem dX2_slipOf_156 : decode cX2_slipOf 156 = .ok (.bipush 10, 2) := by decide +kernel
theorem dX2_slipOf_158 : decode cX2_slipOf 158 = .ok (.idiv, 1) := by decide +kernel
theorem dX2_slipOf_159 : decode cX2_slipOf 159 = .ok (.iload 4, 2) := by decide +kernel
theorem dX2_slipOf_161 : decode cX2_slipOf 161 = .ok (.bipush 10, 2) := by decide +kernel
theorem dX2_slipOf_163 : decode cX2_slipOf 163 = .ok (.irem, 1) := by decide +kernel
theorem dX2_slipOf_164 : decode cX2_slipOf 164 = .ok (.if_icmp .eq 20, 3) := by decide +kernel
theorem dX2_slipOf_167 : decode cX2_slipOf 167 = .ok (.bipush 10, 2) := by decide +kernel
theorem dX2_slipOf_169 : decode cX2_slipOf 169 = .ok (.iload 4, 2) := by decide +kernel
theorem dX2_slipOf_171 : decode cX2_slipOf 171 = .ok (.bipush 10, 2) := by decide +kernel
theorem dX2_slipOf_173 : decode cX2_slipOf 173 = .ok (.irem, 1) := by decide +kernel
theorem dX2_slipOf_174 : decode cX2_slipOf 174 = .ok (.imul, 1) := by decide +kernel
theorem dX2_slipOf_175 : decode cX2_slipOf 175 = .ok (.iload 4, 2) := by decide +kernel
theorem dX2_slipOf_177 : decode cX2_slipOf 177 = .ok (.bipush 10, 2) := by decide +kernel
theorem dX2_slipOf_179 : decode cX2_slipOf 179 = .ok (.idiv, 1) := by decide +kernel
theorem dX2_slipOf_180 : decode cX2_slipOf 180 = .ok (.iadd, 1) := by decide +kernel
theorem dX2_slipOf_181 : decode cX2_slipOf 181 = .ok (.goto 5, 3) := by decide +kernel
theorem dX2_slipOf_184 : decode cX2_slipOf 184 = .ok (.bipush (-9), 2) := by decide +kernel
theorem dX2_slipOf_186 : decode cX2_slipOf 186 = .ok (.ireturn, 1) := by decide +kernel
set_option maxRecDepth 20000 in
theorem ggX2_holds_X2_answerOf : GoodIn wsX2_holds wsX2_answerOf := goodIn_r _ [8] (by decide +kernel) (by decide +kernel)
set_option maxRecDepth 20000 in
theorem gX2_holds_X2_answerOf : GoodIn wsX2_holds (va_wsS RX2 72 yX2_answerOf wsX2_answerOf) := goodIn_app (goodIn_of _ (by decide +kernel)) ggX2_holds_X2_answerOf
set_option maxRecDepth 20000 in
theorem ggX2_holds_X2_in : GoodIn wsX2_holds wsX2_in := goodIn_r _ [11] (by decide +kernel) (by decide +kernel)
set_option maxRecDepth 20000 in
theorem gX2_holds_X2_in : GoodIn wsX2_holds (va_wsS RX2 65 yX2_in wsX2_in) := goodIn_app (goodIn_of _ (by decide +kernel)) ggX2_holds_X2_in
set_option maxRecDepth 20000 in
theorem ggX2_holds_X2_carries : GoodIn wsX2_holds wsX2_carries := goodIn_r _ [14] (by decide +kernel) (by decide +kernel)
set_option maxRecDepth 20000 in
theorem gX2_holds_X2_carries : GoodIn wsX2_holds (va_wsS RX2 76 yX2_carries wsX2_carries) := goodIn_app (goodIn_of _ (by decide +kernel)) ggX2_holds_X2_carries
set_option maxRecDepth 20000 in
theorem ggX2_holds_X2_slipOf : GoodIn wsX2_holds wsX2_slipOf := goodIn_r _ [17, 18, 19, 5, 6, 7, 8, 12, 13, 14, 9, 10, 11] (by decide +kernel) (by decide +kernel)
set_option maxRecDepth 20000 in
theorem gX2_holds_X2_slipOf : GoodIn wsX2_holds (va_wsS RX2 84 yX2_slipOf wsX2_slipOf) := goodIn_app (goodIn_of _ (by decide +kernel)) ggX2_holds_X2_slipOf
theorem dX2_holds_0 : decode cX2_holds 0 = .ok (.aload_n 0, 1) := by decide +kernel
theorem dX2_holds_1 : decode cX2_holds 1 = .ok (.getfield 7, 3) := by decide +kernel
theorem dX2_holds_4 : decode cX2_holds 4 = .ok (.iload_n 1, 1) := by decide +kernel
theorem dX2_holds_5 : decode cX2_holds 5 = .ok (.iaload, 1) := by decide +kernel
theorem dX2_holds_6 : decode cX2_holds 6 = .ok (.istore 4, 2) := by decide +kernel
theorem dX2_holds_8 : decode cX2_holds 8 = .ok (.iload 4, 2) := by decide +kernel
theorem dX2_holds_10 : decode cX2_holds 10 = .ok (.iload_n 2, 1) := by decide +kernel
theorem dX2_holds_11 : decode cX2_holds 11 = .ok (.iload_n 3, 1) := by decide +kernel
theorem dX2_holds_12 : decode cX2_holds 12 = .ok (.invokestatic 72, 3) := by decide +kernel
theorem dX2_holds_15 : decode cX2_holds 15 = .ok (.istore 5, 2) := by decide +kernel
theorem dX2_holds_17 : decode cX2_holds 17 = .ok (.iload 5, 2) := by decide +kernel
theorem dX2_holds_19 : decode cX2_holds 19 = .ok (.bipush (-9), 2) := by decide +kernel
theorem dX2_holds_21 : decode cX2_holds 21 = .ok (.if_icmp .eq 34, 3) := by decide +kernel
theorem dX2_holds_24 : decode cX2_holds 24 = .ok (.iload 5, 2) := by decide +kernel
theorem dX2_holds_26 : decode cX2_holds 26 = .ok (.i2l, 1) := by decide +kernel
theorem dX2_holds_27 : decode cX2_holds 27 = .ok (.aload_n 0, 1) := by decide +kernel
theorem dX2_holds_28 : decode cX2_holds 28 = .ok (.getfield 13, 3) := by decide +kernel
theorem dX2_holds_31 : decode cX2_holds 31 = .ok (.iconst 3, 1) := by decide +kernel
theorem dX2_holds_32 : decode cX2_holds 32 = .ok (.iload_n 1, 1) := by decide +kernel
theorem dX2_holds_33 : decode cX2_holds 33 = .ok (.imul, 1) := by decide +kernel
theorem dX2_holds_34 : decode cX2_holds 34 = .ok (.iconst 2, 1) := by decide +kernel
theorem dX2_holds_35 : decode cX2_holds 35 = .ok (.iadd, 1) := by decide +kernel
theorem dX2_holds_36 : decode cX2_holds 36 = .ok (.iaload, 1) := by decide +kernel
theorem dX2_holds_37 : decode cX2_holds 37 = .ok (.i2l, 1) := by decide +kernel
theorem dX2_holds_38 : decode cX2_holds 38 = .ok (.aload_n 0, 1) := by decide +kernel
theorem dX2_holds_39 : decode cX2_holds 39 = .ok (.getfield 16, 3) := by decide +kernel
theorem dX2_holds_42 : decode cX2_holds 42 = .ok (.iconst 3, 1) := by decide +kernel
theorem dX2_holds_43 : decode cX2_holds 43 = .ok (.iload_n 1, 1) := by decide +kernel
theorem dX2_holds_44 : decode cX2_holds 44 = .ok (.imul, 1) := by decide +kernel
theorem dX2_holds_45 : decode cX2_holds 45 = .ok (.iconst 2, 1) := by decide +kernel
theorem dX2_holds_46 : decode cX2_holds 46 = .ok (.iadd, 1) := by decide +kernel
theorem dX2_holds_47 : decode cX2_holds 47 = .ok (.iaload, 1) := by decide +kernel
theorem dX2_holds_48 : decode cX2_holds 48 = .ok (.i2l, 1) := by decide +kernel
theorem dX2_holds_49 : decode cX2_holds 49 = .ok (.invokestatic 65, 3) := by decide +kernel
theorem dX2_holds_52 : decode cX2_holds 52 = .ok (.ifCond .ne 5, 3) := by decide +kernel
theorem dX2_holds_55 : decode cX2_holds 55 = .ok (.iconst 0, 1) := by decide +kernel
theorem dX2_holds_56 : decode cX2_holds 56 = .ok (.ireturn, 1) := by decide +kernel
theorem dX2_holds_57 : decode cX2_holds 57 = .ok (.aload_n 0, 1) := by decide +kernel
theorem dX2_holds_58 : decode cX2_holds 58 = .ok (.getfield 19, 3) := by decide +kernel
theorem dX2_holds_61 : decode cX2_holds 61 = .ok (.iload_n 1, 1) := by decide +kernel
theorem dX2_holds_62 : decode cX2_holds 62 = .ok (.iaload, 1) := by decide +kernel
theorem dX2_holds_63 : decode cX2_holds 63 = .ok (.ifCond .eq 43, 3) := by decide +kernel
theorem dX2_holds_66 : decode cX2_holds 66 = .ok (.aload_n 0, 1) := by decide +kernel
theorem dX2_holds_67 : decode cX2_holds 67 = .ok (.getfield 19, 3) := by decide +kernel
theorem dX2_holds_70 : decode cX2_holds 70 = .ok (.iload_n 1, 1) := by decide +kernel
theorem dX2_holds_71 : decode cX2_holds 71 = .ok (.iaload, 1) := by decide +kernel
theorem dX2_holds_72 : decode cX2_holds 72 = .ok (.iconst 1, 1) := by decide +kernel
theorem dX2_holds_73 : decode cX2_holds 73 = .ok (.if_icmp .ne 13, 3) := by decide +kernel
theorem dX2_holds_76 : decode cX2_holds 76 = .ok (.iload 4, 2) := by decide +kernel
theorem dX2_holds_78 : decode cX2_holds 78 = .ok (.iload_n 2, 1) := by decide +kernel
theorem dX2_holds_79 : decode cX2_holds 79 = .ok (.iload_n 3, 1) := by decide +kernel
theorem dX2_holds_80 : decode cX2_holds 80 = .ok (.invokestatic 76, 3) := by decide +kernel
theorem dX2_holds_83 : decode cX2_holds 83 = .ok (.ifCond .eq 23, 3) := by decide +kernel
theorem dX2_holds_86 : decode cX2_holds 86 = .ok (.aload_n 0, 1) := by decide +kernel
theorem dX2_holds_87 : decode cX2_holds 87 = .ok (.getfield 19, 3) := by decide +kernel
theorem dX2_holds_90 : decode cX2_holds 90 = .ok (.iload_n 1, 1) := by decide +kernel
theorem dX2_holds_91 : decode cX2_holds 91 = .ok (.iaload, 1) := by decide +kernel
theorem dX2_holds_92 : decode cX2_holds 92 = .ok (.iconst 2, 1) := by decide +kernel
theorem dX2_holds_93 : decode cX2_holds 93 = .ok (.if_icmp .ne 17, 3) := by decide +kernel
theorem dX2_holds_96 : decode cX2_holds 96 = .ok (.iload 4, 2) := by decide +kernel
theorem dX2_holds_98 : decode cX2_holds 98 = .ok (.iload_n 2, 1) := by decide +kernel
theorem dX2_holds_99 : decode cX2_holds 99 = .ok (.iload_n 3, 1) := by decide +kernel
theorem dX2_holds_100 : decode cX2_holds 100 = .ok (.invokestatic 76, 3) := by decide +kernel
theorem dX2_holds_103 : decode cX2_holds 103 = .ok (.ifCond .eq 7, 3) := by decide +kernel
theorem dX2_holds_106 : decode cX2_holds 106 = .ok (.iconst 1, 1) := by decide +kernel
theorem dX2_holds_107 : decode cX2_holds 107 = .ok (.goto 4, 3) := by decide +kernel
theorem dX2_holds_110 : decode cX2_holds 110 = .ok (.iconst 0, 1) := by decide +kernel
theorem dX2_holds_111 : decode cX2_holds 111 = .ok (.istore 6, 2) := by decide +kernel
theorem dX2_holds_113 : decode cX2_holds 113 = .ok (.aload_n 0, 1) := by decide +kernel
theorem dX2_holds_114 : decode cX2_holds 114 = .ok (.getfield 19, 3) := by decide +kernel
theorem dX2_holds_117 : decode cX2_holds 117 = .ok (.iload_n 1, 1) := by decide +kernel
theorem dX2_holds_118 : decode cX2_holds 118 = .ok (.iaload, 1) := by decide +kernel
theorem dX2_holds_119 : decode cX2_holds 119 = .ok (.iconst 3, 1) := by decide +kernel
theorem dX2_holds_120 : decode cX2_holds 120 = .ok (.if_icmp .ne 48, 3) := by decide +kernel
theorem dX2_holds_123 : decode cX2_holds 123 = .ok (.iconst 1, 1) := by decide +kernel
theorem dX2_holds_124 : decode cX2_holds 124 = .ok (.istore 6, 2) := by decide +kernel
theorem dX2_holds_126 : decode cX2_holds 126 = .ok (.iconst 1, 1) := by decide +kernel
theorem dX2_holds_127 : decode cX2_holds 127 = .ok (.istore 7, 2) := by decide +kernel
theorem dX2_holds_129 : decode cX2_holds 129 = .ok (.iload 7, 2) := by decide +kernel
theorem dX2_holds_131 : decode cX2_holds 131 = .ok (.bipush 6, 2) := by decide +kernel
theorem dX2_holds_133 : decode cX2_holds 133 = .ok (.if_icmp .ge 35, 3) := by decide +kernel
theorem dX2_holds_136 : decode cX2_holds 136 = .ok (.iload 6, 2) := by decide +kernel
theorem dX2_holds_138 : decode cX2_holds 138 = .ok (.ifCond .eq 21, 3) := by decide +kernel
theorem dX2_holds_141 : decode cX2_holds 141 = .ok (.iload 4, 2) := by decide +kernel
theorem dX2_holds_143 : decode cX2_holds 143 = .ok (.iload_n 2, 1) := by decide +kernel
theorem dX2_holds_144 : decode cX2_holds 144 = .ok (.iload_n 3, 1) := by decide +kernel
theorem dX2_holds_145 : decode cX2_holds 145 = .ok (.iload 7, 2) := by decide +kernel
theorem dX2_holds_147 : decode cX2_holds 147 = .ok (.invokestatic 84, 3) := by decide +kernel
theorem dX2_holds_150 : decode cX2_holds 150 = .ok (.iload 5, 2) := by decide +kernel
theorem dX2_holds_152 : decode cX2_holds 152 = .ok (.if_icmp .eq 7, 3) := by decide +kernel
theorem dX2_holds_155 : decode cX2_holds 155 = .ok (.iconst 1, 1) := by decide +kernel
theorem dX2_holds_156 : decode cX2_holds 156 = .ok (.goto 4, 3) := by decide +kernel
theorem dX2_holds_159 : decode cX2_holds 159 = .ok (.iconst 0, 1) := by decide +kernel
theorem dX2_holds_160 : decode cX2_holds 160 = .ok (.istore 6, 2) := by decide +kernel
theorem dX2_holds_162 : decode cX2_holds 162 = .ok (.iinc 7 1, 3) := by decide +kernel
theorem dX2_holds_165 : decode cX2_holds 165 = .ok (.goto (-36), 3) := by decide +kernel
theorem dX2_holds_168 : decode cX2_holds 168 = .ok (.iload 6, 2) := by decide +kernel
theorem dX2_holds_170 : decode cX2_holds 170 = .ok (.ireturn, 1) := by decide +kernel
set_option maxRecDepth 20000 in
theorem ggX2_tell_X2_holds : GoodIn wsX2_tell wsX2_holds := goodIn_r _ [10, 11, 2, 3, 12, 13, 14, 9, 15, 16, 17, 18, 19, 20, 21, 22, 23, 24, 25, 26, 27, 28, 29, 30, 31, 32, 33, 34, 35, 36, 37, 38, 39, 40, 41, 42, 43, 44, 45, 46, 47] (by decide +kernel) (by decide +kernel)
set_option maxRecDepth 20000 in
theorem gX2_tell_X2_holds : GoodIn wsX2_tell (wsV RX2 88 RX2 yX2_holds wsX2_holds) := goodIn_app (goodIn_of _ (by decide +kernel)) ggX2_tell_X2_holds
theorem dX2_tell_0 : decode cX2_tell 0 = .ok (.aload_n 0, 1) := by decide +kernel
theorem dX2_tell_1 : decode cX2_tell 1 = .ok (.getfield 28, 3) := by decide +kernel
theorem dX2_tell_4 : decode cX2_tell 4 = .ok (.iload_n 1, 1) := by decide +kernel
theorem dX2_tell_5 : decode cX2_tell 5 = .ok (.baload, 1) := by decide +kernel
theorem dX2_tell_6 : decode cX2_tell 6 = .ok (.ifCond .ne 113, 3) := by decide +kernel
theorem dX2_tell_9 : decode cX2_tell 9 = .ok (.iconst 0, 1) := by decide +kernel
theorem dX2_tell_10 : decode cX2_tell 10 = .ok (.istore_n 2, 1) := by decide +kernel
theorem dX2_tell_11 : decode cX2_tell 11 = .ok (.aload_n 0, 1) := by decide +kernel
theorem dX2_tell_12 : decode cX2_tell 12 = .ok (.getfield 13, 3) := by decide +kernel
theorem dX2_tell_15 : decode cX2_tell 15 = .ok (.iconst 3, 1) := by decide +kernel
theorem dX2_tell_16 : decode cX2_tell 16 = .ok (.iload_n 1, 1) := by decide +kernel
theorem dX2_tell_17 : decode cX2_tell 17 = .ok (.imul, 1) := by decide +kernel
theorem dX2_tell_18 : decode cX2_tell 18 = .ok (.iaload, 1) := by decide +kernel
theorem dX2_tell_19 : decode cX2_tell 19 = .ok (.istore_n 3, 1) := by decide +kernel
theorem dX2_tell_20 : decode cX2_tell 20 = .ok (.iload_n 3, 1) := by decide +kernel
theorem dX2_tell_21 : decode cX2_tell 21 = .ok (.aload_n 0, 1) := by decide +kernel
theorem dX2_tell_22 : decode cX2_tell 22 = .ok (.getfield 16, 3) := by decide +kernel
theorem dX2_tell_25 : decode cX2_tell 25 = .ok (.iconst 3, 1) := by decide +kernel
theorem dX2_tell_26 : decode cX2_tell 26 = .ok (.iload_n 1, 1) := by decide +kernel
theorem dX2_tell_27 : decode cX2_tell 27 = .ok (.imul, 1) := by decide +kernel
theorem dX2_tell_28 : decode cX2_tell 28 = .ok (.iaload, 1) := by decide +kernel
theorem dX2_tell_29 : decode cX2_tell 29 = .ok (.if_icmp .gt 76, 3) := by decide +kernel
theorem dX2_tell_32 : decode cX2_tell 32 = .ok (.aload_n 0, 1) := by decide +kernel
theorem dX2_tell_33 : decode cX2_tell 33 = .ok (.getfield 13, 3) := by decide +kernel
theorem dX2_tell_36 : decode cX2_tell 36 = .ok (.iconst 3, 1) := by decide +kernel
theorem dX2_tell_37 : decode cX2_tell 37 = .ok (.iload_n 1, 1) := by decide +kernel
theorem dX2_tell_38 : decode cX2_tell 38 = .ok (.imul, 1) := by decide +kernel
theorem dX2_tell_39 : decode cX2_tell 39 = .ok (.iconst 1, 1) := by decide +kernel
theorem dX2_tell_40 : decode cX2_tell 40 = .ok (.iadd, 1) := by decide +kernel
theorem dX2_tell_41 : decode cX2_tell 41 = .ok (.iaload, 1) := by decide +kernel
theorem dX2_tell_42 : decode cX2_tell 42 = .ok (.istore 4, 2) := by decide +kernel
theorem dX2_tell_44 : decode cX2_tell 44 = .ok (.iload 4, 2) := by decide +kernel
theorem dX2_tell_46 : decode cX2_tell 46 = .ok (.aload_n 0, 1) := by decide +kernel
theorem dX2_tell_47 : decode cX2_tell 47 = .ok (.getfield 16, 3) := by decide +kernel
theorem dX2_tell_50 : decode cX2_tell 50 = .ok (.iconst 3, 1) := by decide +kernel
theorem dX2_tell_51 : decode cX2_tell 51 = .ok (.iload_n 1, 1) := by decide +kernel
theorem dX2_tell_52 : decode cX2_tell 52 = .ok (.imul, 1) := by decide +kernel
theorem dX2_tell_53 : decode cX2_tell 53 = .ok (.iconst 1, 1) := by decide +kernel
theorem dX2_tell_54 : decode cX2_tell 54 = .ok (.iadd, 1) := by decide +kernel
theorem dX2_tell_55 : decode cX2_tell 55 = .ok (.iaload, 1) := by decide +kernel
theorem dX2_tell_56 : decode cX2_tell 56 = .ok (.if_icmp .gt 43, 3) := by decide +kernel
theorem dX2_tell_59 : decode cX2_tell 59 = .ok (.aload_n 0, 1) := by decide +kernel
theorem dX2_tell_60 : decode cX2_tell 60 = .ok (.iload_n 1, 1) := by decide +kernel
theorem dX2_tell_61 : decode cX2_tell 61 = .ok (.iload_n 3, 1) := by decide +kernel
theorem dX2_tell_62 : decode cX2_tell 62 = .ok (.iload 4, 2) := by decide +kernel
theorem dX2_tell_64 : decode cX2_tell 64 = .ok (.invokevirtual 88, 3) := by decide +kernel
theorem dX2_tell_67 : decode cX2_tell 67 = .ok (.ifCond .eq 26, 3) := by decide +kernel
theorem dX2_tell_70 : decode cX2_tell 70 = .ok (.aload_n 0, 1) := by decide +kernel
theorem dX2_tell_71 : decode cX2_tell 71 = .ok (.getfield 36, 3) := by decide +kernel
theorem dX2_tell_74 : decode cX2_tell 74 = .ok (.sipush 10000, 3) := by decide +kernel
theorem dX2_tell_77 : decode cX2_tell 77 = .ok (.iload_n 1, 1) := by decide +kernel
theorem dX2_tell_78 : decode cX2_tell 78 = .ok (.imul, 1) := by decide +kernel
theorem dX2_tell_79 : decode cX2_tell 79 = .ok (.iload_n 2, 1) := by decide +kernel
theorem dX2_tell_80 : decode cX2_tell 80 = .ok (.iadd, 1) := by decide +kernel
theorem dX2_tell_81 : decode cX2_tell 81 = .ok (.bipush 100, 2) := by decide +kernel
theorem dX2_tell_83 : decode cX2_tell 83 = .ok (.iload_n 3, 1) := by decide +kernel
theorem dX2_tell_84 : decode cX2_tell 84 = .ok (.imul, 1) := by decide +kernel
theorem dX2_tell_85 : decode cX2_tell 85 = .ok (.iload 4, 2) := by decide +kernel
theorem dX2_tell_87 : decode cX2_tell 87 = .ok (.iadd, 1) := by decide +kernel
theorem dX2_tell_88 : decode cX2_tell 88 = .ok (.i2s, 1) := by decide +kernel
theorem dX2_tell_89 : decode cX2_tell 89 = .ok (.sastore, 1) := by decide +kernel
theorem dX2_tell_90 : decode cX2_tell 90 = .ok (.iinc 2 1, 3) := by decide +kernel
theorem dX2_tell_93 : decode cX2_tell 93 = .ok (.iinc 4 1, 3) := by decide +kernel
theorem dX2_tell_96 : decode cX2_tell 96 = .ok (.goto (-52), 3) := by decide +kernel
theorem dX2_tell_99 : decode cX2_tell 99 = .ok (.iinc 3 1, 3) := by decide +kernel
theorem dX2_tell_102 : decode cX2_tell 102 = .ok (.goto (-82), 3) := by decide +kernel
theorem dX2_tell_105 : decode cX2_tell 105 = .ok (.aload_n 0, 1) := by decide +kernel
theorem dX2_tell_106 : decode cX2_tell 106 = .ok (.getfield 32, 3) := by decide +kernel
theorem dX2_tell_109 : decode cX2_tell 109 = .ok (.iload_n 1, 1) := by decide +kernel
theorem dX2_tell_110 : decode cX2_tell 110 = .ok (.iload_n 2, 1) := by decide +kernel
theorem dX2_tell_111 : decode cX2_tell 111 = .ok (.iastore, 1) := by decide +kernel
theorem dX2_tell_112 : decode cX2_tell 112 = .ok (.aload_n 0, 1) := by decide +kernel
theorem dX2_tell_113 : decode cX2_tell 113 = .ok (.getfield 28, 3) := by decide +kernel
theorem dX2_tell_116 : decode cX2_tell 116 = .ok (.iload_n 1, 1) := by decide +kernel
theorem dX2_tell_117 : decode cX2_tell 117 = .ok (.iconst 1, 1) := by decide +kernel
theorem dX2_tell_118 : decode cX2_tell 118 = .ok (.bastore, 1) := by decide +kernel
theorem dX2_tell_119 : decode cX2_tell 119 = .ok (.aload_n 0, 1) := by decide +kernel
theorem dX2_tell_120 : decode cX2_tell 120 = .ok (.getfield 32, 3) := by decide +kernel
theorem dX2_tell_123 : decode cX2_tell 123 = .ok (.iload_n 1, 1) := by decide +kernel
theorem dX2_tell_124 : decode cX2_tell 124 = .ok (.iaload, 1) := by decide +kernel
theorem dX2_tell_125 : decode cX2_tell 125 = .ok (.ireturn, 1) := by decide +kernel
theorem dX2_pairOf_0 : decode cX2_pairOf 0 = .ok (.aload_n 0, 1) := by decide +kernel
theorem dX2_pairOf_1 : decode cX2_pairOf 1 = .ok (.getfield 36, 3) := by decide +kernel
theorem dX2_pairOf_4 : decode cX2_pairOf 4 = .ok (.sipush 10000, 3) := by decide +kernel
theorem dX2_pairOf_7 : decode cX2_pairOf 7 = .ok (.iload_n 1, 1) := by decide +kernel
theorem dX2_pairOf_8 : decode cX2_pairOf 8 = .ok (.imul, 1) := by decide +kernel
theorem dX2_pairOf_9 : decode cX2_pairOf 9 = .ok (.iload_n 2, 1) := by decide +kernel
theorem dX2_pairOf_10 : decode cX2_pairOf 10 = .ok (.iadd, 1) := by decide +kernel
theorem dX2_pairOf_11 : decode cX2_pairOf 11 = .ok (.saload, 1) := by decide +kernel
theorem dX2_pairOf_12 : decode cX2_pairOf 12 = .ok (.ireturn, 1) := by decide +kernel
set_option maxRecDepth 20000 in
theorem ggX2_noVariant_X2_noKind : GoodIn wsX2_noVariant wsX2_noKind := goodIn_r _ [5, 6, 7, 8, 4, 9, 36, 37, 38, 39, 40, 41, 42, 43, 44, 45, 46, 47, 48, 49, 50, 51, 52, 53, 54, 55, 56] (by decide +kernel) (by decide +kernel)
set_option maxRecDepth 20000 in
theorem gX2_noVariant_X2_noKind : GoodIn wsX2_noVariant (wsV RX2 91 RX2 yX2_noKind wsX2_noKind) := goodIn_app (goodIn_of _ (by decide +kernel)) ggX2_noVariant_X2_noKind
set_option maxRecDepth 20000 in
theorem ggX2_noVariant_X2_tell : GoodIn wsX2_noVariant wsX2_tell := goodIn_r _ [13, 14, 15, 16, 17, 18, 19, 20, 21, 4, 22, 23, 24, 25, 26, 27, 7, 8, 9, 28, 29, 30, 31, 32, 33, 34, 35, 36, 37, 38, 39, 40, 41, 42, 43, 44, 45, 46, 47, 48, 49, 50, 51, 52, 53, 54, 55, 56] (by decide +kernel) (by decide +kernel)
set_option maxRecDepth 20000 in
theorem gX2_noVariant_X2_tell : GoodIn wsX2_noVariant (wsV RX2 95 RX2 yX2_tell wsX2_tell) := goodIn_app (goodIn_of _ (by decide +kernel)) ggX2_noVariant_X2_tell
set_option maxRecDepth 20000 in
theorem ggX2_noVariant_X2_in : GoodIn wsX2_noVariant wsX2_in := goodIn_r _ [9] (by decide +kernel) (by decide +kernel)
set_option maxRecDepth 20000 in
theorem gX2_noVariant_X2_in : GoodIn wsX2_noVariant (va_wsS RX2 65 yX2_in wsX2_in) := goodIn_app (goodIn_of _ (by decide +kernel)) ggX2_noVariant_X2_in
theorem dX2_noVariant_0 : decode cX2_noVariant 0 = .ok (.aload_n 0, 1) := by decide +kernel
theorem dX2_noVariant_1 : decode cX2_noVariant 1 = .ok (.iload_n 1, 1) := by decide +kernel
theorem dX2_noVariant_2 : decode cX2_noVariant 2 = .ok (.invokevirtual 91, 3) := by decide +kernel
theorem dX2_noVariant_5 : decode cX2_noVariant 5 = .ok (.ifCond .ne 20, 3) := by decide +kernel
theorem dX2_noVariant_8 : decode cX2_noVariant 8 = .ok (.iload_n 2, 1) := by decide +kernel
theorem dX2_noVariant_9 : decode cX2_noVariant 9 = .ok (.i2l, 1) := by decide +kernel
theorem dX2_noVariant_10 : decode cX2_noVariant 10 = .ok (.lconst 0, 1) := by decide +kernel
theorem dX2_noVariant_11 : decode cX2_noVariant 11 = .ok (.aload_n 0, 1) := by decide +kernel
theorem dX2_noVariant_12 : decode cX2_noVariant 12 = .ok (.iload_n 1, 1) := by decide +kernel
theorem dX2_noVariant_13 : decode cX2_noVariant 13 = .ok (.invokevirtual 95, 3) := by decide +kernel
theorem dX2_noVariant_16 : decode cX2_noVariant 16 = .ok (.iconst 1, 1) := by decide +kernel
theorem dX2_noVariant_17 : decode cX2_noVariant 17 = .ok (.isub, 1) := by decide +kernel
theorem dX2_noVariant_18 : decode cX2_noVariant 18 = .ok (.i2l, 1) := by decide +kernel
theorem dX2_noVariant_19 : decode cX2_noVariant 19 = .ok (.invokestatic 65, 3) := by decide +kernel
theorem dX2_noVariant_22 : decode cX2_noVariant 22 = .ok (.ifCond .ne 7, 3) := by decide +kernel
theorem dX2_noVariant_25 : decode cX2_noVariant 25 = .ok (.iconst 1, 1) := by decide +kernel
theorem dX2_noVariant_26 : decode cX2_noVariant 26 = .ok (.goto 4, 3) := by decide +kernel
theorem dX2_noVariant_29 : decode cX2_noVariant 29 = .ok (.iconst 0, 1) := by decide +kernel
theorem dX2_noVariant_30 : decode cX2_noVariant 30 = .ok (.ireturn, 1) := by decide +kernel
set_option maxRecDepth 20000 in
theorem ggX2_kind_X2_in : GoodIn wsX2_kind wsX2_in := goodIn_r _ [10] (by decide +kernel) (by decide +kernel)
set_option maxRecDepth 20000 in
theorem gX2_kind_X2_in : GoodIn wsX2_kind (va_wsS RX2 65 yX2_in wsX2_in) := goodIn_app (goodIn_of _ (by decide +kernel)) ggX2_kind_X2_in
theorem dX2_kind_0 : decode cX2_kind 0 = .ok (.aload_n 0, 1) := by decide +kernel
theorem dX2_kind_1 : decode cX2_kind 1 = .ok (.iconst 0, 1) := by decide +kernel
theorem dX2_kind_2 : decode cX2_kind 2 = .ok (.putfield 59, 3) := by decide +kernel
theorem dX2_kind_5 : decode cX2_kind 5 = .ok (.iload_n 1, 1) := by decide +kernel
theorem dX2_kind_6 : decode cX2_kind 6 = .ok (.i2l, 1) := by decide +kernel
theorem dX2_kind_7 : decode cX2_kind 7 = .ok (.lconst 0, 1) := by decide +kernel
theorem dX2_kind_8 : decode cX2_kind 8 = .ok (.ldc2_w 99, 3) := by decide +kernel
theorem dX2_kind_11 : decode cX2_kind 11 = .ok (.invokestatic 65, 3) := by decide +kernel
theorem dX2_kind_14 : decode cX2_kind 14 = .ok (.ifCond .ne 6, 3) := by decide +kernel
theorem dX2_kind_17 : decode cX2_kind 17 = .ok (.bipush (-2), 2) := by decide +kernel
theorem dX2_kind_19 : decode cX2_kind 19 = .ok (.ireturn, 1) := by decide +kernel
theorem dX2_kind_20 : decode cX2_kind 20 = .ok (.aload_n 0, 1) := by decide +kernel
theorem dX2_kind_21 : decode cX2_kind 21 = .ok (.getfield 62, 3) := by decide +kernel
theorem dX2_kind_24 : decode cX2_kind 24 = .ok (.bipush 8, 2) := by decide +kernel
theorem dX2_kind_26 : decode cX2_kind 26 = .ok (.if_icmp .ne 6, 3) := by decide +kernel
theorem dX2_kind_29 : decode cX2_kind 29 = .ok (.bipush (-4), 2) := by decide +kernel
theorem dX2_kind_31 : decode cX2_kind 31 = .ok (.ireturn, 1) := by decide +kernel
theorem dX2_kind_32 : decode cX2_kind 32 = .ok (.aload_n 0, 1) := by decide +kernel
theorem dX2_kind_33 : decode cX2_kind 33 = .ok (.getfield 7, 3) := by decide +kernel
theorem dX2_kind_36 : decode cX2_kind 36 = .ok (.aload_n 0, 1) := by decide +kernel
theorem dX2_kind_37 : decode cX2_kind 37 = .ok (.getfield 62, 3) := by decide +kernel
theorem dX2_kind_40 : decode cX2_kind 40 = .ok (.iload_n 1, 1) := by decide +kernel
theorem dX2_kind_41 : decode cX2_kind 41 = .ok (.iastore, 1) := by decide +kernel
theorem dX2_kind_42 : decode cX2_kind 42 = .ok (.aload_n 0, 1) := by decide +kernel
theorem dX2_kind_43 : decode cX2_kind 43 = .ok (.getfield 16, 3) := by decide +kernel
theorem dX2_kind_46 : decode cX2_kind 46 = .ok (.iconst 3, 1) := by decide +kernel
theorem dX2_kind_47 : decode cX2_kind 47 = .ok (.aload_n 0, 1) := by decide +kernel
theorem dX2_kind_48 : decode cX2_kind 48 = .ok (.getfield 62, 3) := by decide +kernel
theorem dX2_kind_51 : decode cX2_kind 51 = .ok (.imul, 1) := by decide +kernel
theorem dX2_kind_52 : decode cX2_kind 52 = .ok (.bipush 9, 2) := by decide +kernel
theorem dX2_kind_54 : decode cX2_kind 54 = .ok (.iastore, 1) := by decide +kernel
theorem dX2_kind_55 : decode cX2_kind 55 = .ok (.aload_n 0, 1) := by decide +kernel
theorem dX2_kind_56 : decode cX2_kind 56 = .ok (.getfield 16, 3) := by decide +kernel
theorem dX2_kind_59 : decode cX2_kind 59 = .ok (.iconst 3, 1) := by decide +kernel
theorem dX2_kind_60 : decode cX2_kind 60 = .ok (.aload_n 0, 1) := by decide +kernel
theorem dX2_kind_61 : decode cX2_kind 61 = .ok (.getfield 62, 3) := by decide +kernel
theorem dX2_kind_64 : decode cX2_kind 64 = .ok (.imul, 1) := by decide +kernel
theorem dX2_kind_65 : decode cX2_kind 65 = .ok (.iconst 1, 1) := by decide +kernel
theorem dX2_kind_66 : decode cX2_kind 66 = .ok (.iadd, 1) := by decide +kernel
theorem dX2_kind_67 : decode cX2_kind 67 = .ok (.bipush 9, 2) := by decide +kernel
theorem dX2_kind_69 : decode cX2_kind 69 = .ok (.iastore, 1) := by decide +kernel
theorem dX2_kind_70 : decode cX2_kind 70 = .ok (.aload_n 0, 1) := by decide +kernel
theorem dX2_kind_71 : decode cX2_kind 71 = .ok (.getfield 16, 3) := by decide +kernel
theorem dX2_kind_74 : decode cX2_kind 74 = .ok (.iconst 3, 1) := by decide +kernel
theorem dX2_kind_75 : decode cX2_kind 75 = .ok (.aload_n 0, 1) := by decide +kernel
theorem dX2_kind_76 : decode cX2_kind 76 = .ok (.getfield 62, 3) := by decide +kernel
theorem dX2_kind_79 : decode cX2_kind 79 = .ok (.imul, 1) := by decide +kernel
theorem dX2_kind_80 : decode cX2_kind 80 = .ok (.iconst 2, 1) := by decide +kernel
theorem dX2_kind_81 : decode cX2_kind 81 = .ok (.iadd, 1) := by decide +kernel
theorem dX2_kind_82 : decode cX2_kind 82 = .ok (.sipush 9999, 3) := by decide +kernel
theorem dX2_kind_85 : decode cX2_kind 85 = .ok (.iastore, 1) := by decide +kernel
theorem dX2_kind_86 : decode cX2_kind 86 = .ok (.aload_n 0, 1) := by decide +kernel
theorem dX2_kind_87 : decode cX2_kind 87 = .ok (.getfield 22, 3) := by decide +kernel
theorem dX2_kind_90 : decode cX2_kind 90 = .ok (.aload_n 0, 1) := by decide +kernel
theorem dX2_kind_91 : decode cX2_kind 91 = .ok (.getfield 62, 3) := by decide +kernel
theorem dX2_kind_94 : decode cX2_kind 94 = .ok (.iconst 1, 1) := by decide +kernel
theorem dX2_kind_95 : decode cX2_kind 95 = .ok (.iastore, 1) := by decide +kernel
end
section
theorem dX2_kind_96 : decode cX2_kind 96 = .ok (.aload_n 0, 1) := by decide +kernel
theorem dX2_kind_97 : decode cX2_kind 97 = .ok (.dup, 1) := by decide +kernel
theorem dX2_kind_98 : decode cX2_kind 98 = .ok (.getfield 62, 3) := by decide +kernel
theorem dX2_kind_101 : decode cX2_kind 101 = .ok (.iconst 1, 1) := by decide +kernel
theorem dX2_kind_102 : decode cX2_kind 102 = .ok (.iadd, 1) := by decide +kernel
theorem dX2_kind_103 : decode cX2_kind 103 = .ok (.putfield 62, 3) := by decide +kernel
theorem dX2_kind_106 : decode cX2_kind 106 = .ok (.aload_n 0, 1) := by decide +kernel
theorem dX2_kind_107 : decode cX2_kind 107 = .ok (.getfield 62, 3) := by decide +kernel
theorem dX2_kind_110 : decode cX2_kind 110 = .ok (.iconst 1, 1) := by decide +kernel
theorem dX2_kind_111 : decode cX2_kind 111 = .ok (.isub, 1) := by decide +kernel
theorem dX2_kind_112 : decode cX2_kind 112 = .ok (.ireturn, 1) := by decide +kernel
set_option maxRecDepth 20000 in
theorem ggX2_range_X2_noKind : GoodIn wsX2_range wsX2_noKind := goodIn_r _ [10, 11, 12, 13, 9, 14, 38, 39, 40, 41, 42, 43, 44, 45, 46, 47, 48, 49, 50, 51, 52, 53, 54, 55, 56, 57, 58] (by decide +kernel) (by decide +kernel)
set_option maxRecDepth 20000 in
theorem gX2_range_X2_noKind : GoodIn wsX2_range (wsV RX2 91 RX2 yX2_noKind wsX2_noKind) := goodIn_app (goodIn_of _ (by decide +kernel)) ggX2_range_X2_noKind
set_option maxRecDepth 20000 in
theorem ggX2_range_X2_in : GoodIn wsX2_range wsX2_in := goodIn_r _ [14] (by decide +kernel) (by decide +kernel)
set_option maxRecDepth 20000 in
theorem gX2_range_X2_in : GoodIn wsX2_range (va_wsS RX2 65 yX2_in wsX2_in) := goodIn_app (goodIn_of _ (by decide +kernel)) ggX2_range_X2_in
set_option maxRecDepth 20000 in
theorem ggX2_range_X2_tell : GoodIn wsX2_range wsX2_tell := goodIn_r _ [18, 5, 3, 4, 19, 20, 21, 22, 23, 9, 24, 25, 26, 27, 28, 29, 12, 13, 14, 30, 31, 32, 33, 34, 35, 36, 37, 38, 39, 40, 41, 42, 43, 44, 45, 46, 47, 48, 49, 50, 51, 52, 53, 54, 55, 56, 57, 58] (by decide +kernel) (by decide +kernel)
set_option maxRecDepth 20000 in
theorem gX2_range_X2_tell : GoodIn wsX2_range (wsV RX2 95 RX2 yX2_tell wsX2_tell) := goodIn_app (goodIn_of _ (by decide +kernel)) ggX2_range_X2_tell
theorem dX2_range_0 : decode cX2_range 0 = .ok (.aload_n 0, 1) := by decide +kernel
theorem dX2_range_1 : decode cX2_range 1 = .ok (.iconst 0, 1) := by decide +kernel
theorem dX2_range_2 : decode cX2_range 2 = .ok (.putfield 59, 3) := by decide +kernel
theorem dX2_range_5 : decode cX2_range 5 = .ok (.aload_n 0, 1) := by decide +kernel
theorem dX2_range_6 : decode cX2_range 6 = .ok (.iload_n 1, 1) := by decide +kernel
theorem dX2_range_7 : decode cX2_range 7 = .ok (.invokevirtual 91, 3) := by decide +kernel
theorem dX2_range_10 : decode cX2_range 10 = .ok (.ifCond .eq 5, 3) := by decide +kernel
theorem dX2_range_13 : decode cX2_range 13 = .ok (.iconst (-1), 1) := by decide +kernel
theorem dX2_range_14 : decode cX2_range 14 = .ok (.ireturn, 1) := by decide +kernel
theorem dX2_range_15 : decode cX2_range 15 = .ok (.iload_n 2, 1) := by decide +kernel
theorem dX2_range_16 : decode cX2_range 16 = .ok (.i2l, 1) := by decide +kernel
theorem dX2_range_17 : decode cX2_range 17 = .ok (.lconst 0, 1) := by decide +kernel
theorem dX2_range_18 : decode cX2_range 18 = .ok (.ldc2_w 101, 3) := by decide +kernel
theorem dX2_range_21 : decode cX2_range 21 = .ok (.invokestatic 65, 3) := by decide +kernel
theorem dX2_range_24 : decode cX2_range 24 = .ok (.ifCond .eq 33, 3) := by decide +kernel
theorem dX2_range_27 : decode cX2_range 27 = .ok (.iload_n 3, 1) := by decide +kernel
theorem dX2_range_28 : decode cX2_range 28 = .ok (.i2l, 1) := by decide +kernel
theorem dX2_range_29 : decode cX2_range 29 = .ok (.lconst 0, 1) := by decide +kernel
theorem dX2_range_30 : decode cX2_range 30 = .ok (.iload 4, 2) := by decide +kernel
theorem dX2_range_32 : decode cX2_range 32 = .ok (.i2l, 1) := by decide +kernel
theorem dX2_range_33 : decode cX2_range 33 = .ok (.invokestatic 65, 3) := by decide +kernel
theorem dX2_range_36 : decode cX2_range 36 = .ok (.ifCond .eq 21, 3) := by decide +kernel
theorem dX2_range_39 : decode cX2_range 39 = .ok (.iload 4, 2) := by decide +kernel
theorem dX2_range_41 : decode cX2_range 41 = .ok (.iload_n 2, 1) := by decide +kernel
theorem dX2_range_42 : decode cX2_range 42 = .ok (.iconst 2, 1) := by decide +kernel
theorem dX2_range_43 : decode cX2_range 43 = .ok (.if_icmp .ne 9, 3) := by decide +kernel
theorem dX2_range_46 : decode cX2_range 46 = .ok (.sipush 9999, 3) := by decide +kernel
theorem dX2_range_49 : decode cX2_range 49 = .ok (.goto 5, 3) := by decide +kernel
theorem dX2_range_52 : decode cX2_range 52 = .ok (.bipush 99, 2) := by decide +kernel
theorem dX2_range_54 : decode cX2_range 54 = .ok (.if_icmp .le 6, 3) := by decide +kernel
theorem dX2_range_57 : decode cX2_range 57 = .ok (.bipush (-2), 2) := by decide +kernel
theorem dX2_range_59 : decode cX2_range 59 = .ok (.ireturn, 1) := by decide +kernel
theorem dX2_range_60 : decode cX2_range 60 = .ok (.aload_n 0, 1) := by decide +kernel
theorem dX2_range_61 : decode cX2_range 61 = .ok (.getfield 13, 3) := by decide +kernel
theorem dX2_range_64 : decode cX2_range 64 = .ok (.iconst 3, 1) := by decide +kernel
theorem dX2_range_65 : decode cX2_range 65 = .ok (.iload_n 1, 1) := by decide +kernel
theorem dX2_range_66 : decode cX2_range 66 = .ok (.imul, 1) := by decide +kernel
theorem dX2_range_67 : decode cX2_range 67 = .ok (.iload_n 2, 1) := by decide +kernel
theorem dX2_range_68 : decode cX2_range 68 = .ok (.iadd, 1) := by decide +kernel
theorem dX2_range_69 : decode cX2_range 69 = .ok (.iload_n 3, 1) := by decide +kernel
theorem dX2_range_70 : decode cX2_range 70 = .ok (.iastore, 1) := by decide +kernel
theorem dX2_range_71 : decode cX2_range 71 = .ok (.aload_n 0, 1) := by decide +kernel
theorem dX2_range_72 : decode cX2_range 72 = .ok (.getfield 16, 3) := by decide +kernel
theorem dX2_range_75 : decode cX2_range 75 = .ok (.iconst 3, 1) := by decide +kernel
theorem dX2_range_76 : decode cX2_range 76 = .ok (.iload_n 1, 1) := by decide +kernel
theorem dX2_range_77 : decode cX2_range 77 = .ok (.imul, 1) := by decide +kernel
theorem dX2_range_78 : decode cX2_range 78 = .ok (.iload_n 2, 1) := by decide +kernel
theorem dX2_range_79 : decode cX2_range 79 = .ok (.iadd, 1) := by decide +kernel
theorem dX2_range_80 : decode cX2_range 80 = .ok (.iload 4, 2) := by decide +kernel
theorem dX2_range_82 : decode cX2_range 82 = .ok (.iastore, 1) := by decide +kernel
theorem dX2_range_83 : decode cX2_range 83 = .ok (.aload_n 0, 1) := by decide +kernel
theorem dX2_range_84 : decode cX2_range 84 = .ok (.getfield 28, 3) := by decide +kernel
theorem dX2_range_87 : decode cX2_range 87 = .ok (.iload_n 1, 1) := by decide +kernel
theorem dX2_range_88 : decode cX2_range 88 = .ok (.iconst 0, 1) := by decide +kernel
theorem dX2_range_89 : decode cX2_range 89 = .ok (.bastore, 1) := by decide +kernel
theorem dX2_range_90 : decode cX2_range 90 = .ok (.aload_n 0, 1) := by decide +kernel
theorem dX2_range_91 : decode cX2_range 91 = .ok (.iload_n 1, 1) := by decide +kernel
theorem dX2_range_92 : decode cX2_range 92 = .ok (.invokevirtual 95, 3) := by decide +kernel
theorem dX2_range_95 : decode cX2_range 95 = .ok (.ireturn, 1) := by decide +kernel
set_option maxRecDepth 20000 in
theorem ggX2_rule_X2_noKind : GoodIn wsX2_rule wsX2_noKind := goodIn_r _ [13, 14, 15, 16, 12, 17, 18, 19, 20, 21, 22, 23, 24, 25, 26, 27, 28, 29, 30, 31, 32, 33, 34, 35, 36, 37, 38] (by decide +kernel) (by decide +kernel)
set_option maxRecDepth 20000 in
theorem gX2_rule_X2_noKind : GoodIn wsX2_rule (wsV RX2 91 RX2 yX2_noKind wsX2_noKind) := goodIn_app (goodIn_of _ (by decide +kernel)) ggX2_rule_X2_noKind
set_option maxRecDepth 20000 in
theorem ggX2_rule_X2_in : GoodIn wsX2_rule wsX2_in := goodIn_r _ [17] (by decide +kernel) (by decide +kernel)
set_option maxRecDepth 20000 in
theorem gX2_rule_X2_in : GoodIn wsX2_rule (va_wsS RX2 65 yX2_in wsX2_in) := goodIn_app (goodIn_of _ (by decide +kernel)) ggX2_rule_X2_in
theorem dX2_rule_0 : decode cX2_rule 0 = .ok (.aload_n 0, 1) := by decide +kernel
theorem dX2_rule_1 : decode cX2_rule 1 = .ok (.iconst 0, 1) := by decide +kernel
theorem dX2_rule_2 : decode cX2_rule 2 = .ok (.putfield 59, 3) := by decide +kernel
theorem dX2_rule_5 : decode cX2_rule 5 = .ok (.aload_n 0, 1) := by decide +kernel
theorem dX2_rule_6 : decode cX2_rule 6 = .ok (.iload_n 1, 1) := by decide +kernel
theorem dX2_rule_7 : decode cX2_rule 7 = .ok (.invokevirtual 91, 3) := by decide +kernel
theorem dX2_rule_10 : decode cX2_rule 10 = .ok (.ifCond .eq 5, 3) := by decide +kernel
theorem dX2_rule_13 : decode cX2_rule 13 = .ok (.iconst (-1), 1) := by decide +kernel
theorem dX2_rule_14 : decode cX2_rule 14 = .ok (.ireturn, 1) := by decide +kernel
theorem dX2_rule_15 : decode cX2_rule 15 = .ok (.iload_n 2, 1) := by decide +kernel
theorem dX2_rule_16 : decode cX2_rule 16 = .ok (.ifCond .ne 15, 3) := by decide +kernel
theorem dX2_rule_19 : decode cX2_rule 19 = .ok (.iload_n 3, 1) := by decide +kernel
theorem dX2_rule_20 : decode cX2_rule 20 = .ok (.i2l, 1) := by decide +kernel
theorem dX2_rule_21 : decode cX2_rule 21 = .ok (.lconst 0, 1) := by decide +kernel
theorem dX2_rule_22 : decode cX2_rule 22 = .ok (.ldc2_w 99, 3) := by decide +kernel
theorem dX2_rule_25 : decode cX2_rule 25 = .ok (.invokestatic 65, 3) := by decide +kernel
theorem dX2_rule_28 : decode cX2_rule 28 = .ok (.ifCond .ne 37, 3) := by decide +kernel
theorem dX2_rule_31 : decode cX2_rule 31 = .ok (.iload_n 2, 1) := by decide +kernel
theorem dX2_rule_32 : decode cX2_rule 32 = .ok (.iconst 1, 1) := by decide +kernel
theorem dX2_rule_33 : decode cX2_rule 33 = .ok (.if_icmp .ne 15, 3) := by decide +kernel
theorem dX2_rule_36 : decode cX2_rule 36 = .ok (.iload_n 3, 1) := by decide +kernel
theorem dX2_rule_37 : decode cX2_rule 37 = .ok (.i2l, 1) := by decide +kernel
theorem dX2_rule_38 : decode cX2_rule 38 = .ok (.lconst 1, 1) := by decide +kernel
theorem dX2_rule_39 : decode cX2_rule 39 = .ok (.ldc2_w 103, 3) := by decide +kernel
theorem dX2_rule_42 : decode cX2_rule 42 = .ok (.invokestatic 65, 3) := by decide +kernel
theorem dX2_rule_45 : decode cX2_rule 45 = .ok (.ifCond .ne 20, 3) := by decide +kernel
theorem dX2_rule_48 : decode cX2_rule 48 = .ok (.iload_n 2, 1) := by decide +kernel
theorem dX2_rule_49 : decode cX2_rule 49 = .ok (.iconst 2, 1) := by decide +kernel
theorem dX2_rule_50 : decode cX2_rule 50 = .ok (.if_icmp .ne 19, 3) := by decide +kernel
theorem dX2_rule_53 : decode cX2_rule 53 = .ok (.iload_n 3, 1) := by decide +kernel
theorem dX2_rule_54 : decode cX2_rule 54 = .ok (.i2l, 1) := by decide +kernel
theorem dX2_rule_55 : decode cX2_rule 55 = .ok (.lconst 0, 1) := by decide +kernel
theorem dX2_rule_56 : decode cX2_rule 56 = .ok (.ldc2_w 105, 3) := by decide +kernel
theorem dX2_rule_59 : decode cX2_rule 59 = .ok (.invokestatic 65, 3) := by decide +kernel
theorem dX2_rule_62 : decode cX2_rule 62 = .ok (.ifCond .eq 7, 3) := by decide +kernel
theorem dX2_rule_65 : decode cX2_rule 65 = .ok (.iconst 1, 1) := by decide +kernel
theorem dX2_rule_66 : decode cX2_rule 66 = .ok (.goto 4, 3) := by decide +kernel
theorem dX2_rule_69 : decode cX2_rule 69 = .ok (.iconst 0, 1) := by decide +kernel
theorem dX2_rule_70 : decode cX2_rule 70 = .ok (.istore 4, 2) := by decide +kernel
theorem dX2_rule_72 : decode cX2_rule 72 = .ok (.iload 4, 2) := by decide +kernel
theorem dX2_rule_74 : decode cX2_rule 74 = .ok (.ifCond .ne 6, 3) := by decide +kernel
theorem dX2_rule_77 : decode cX2_rule 77 = .ok (.bipush (-2), 2) := by decide +kernel
theorem dX2_rule_79 : decode cX2_rule 79 = .ok (.ireturn, 1) := by decide +kernel
theorem dX2_rule_80 : decode cX2_rule 80 = .ok (.iload_n 2, 1) := by decide +kernel
theorem dX2_rule_81 : decode cX2_rule 81 = .ok (.ifCond .ne 12, 3) := by decide +kernel
theorem dX2_rule_84 : decode cX2_rule 84 = .ok (.aload_n 0, 1) := by decide +kernel
theorem dX2_rule_85 : decode cX2_rule 85 = .ok (.getfield 19, 3) := by decide +kernel
theorem dX2_rule_88 : decode cX2_rule 88 = .ok (.iload_n 1, 1) := by decide +kernel
theorem dX2_rule_89 : decode cX2_rule 89 = .ok (.iaload, 1) := by decide +kernel
theorem dX2_rule_90 : decode cX2_rule 90 = .ok (.goto 23, 3) := by decide +kernel
theorem dX2_rule_93 : decode cX2_rule 93 = .ok (.iload_n 2, 1) := by decide +kernel
theorem dX2_rule_94 : decode cX2_rule 94 = .ok (.iconst 1, 1) := by decide +kernel
theorem dX2_rule_95 : decode cX2_rule 95 = .ok (.if_icmp .ne 12, 3) := by decide +kernel
theorem dX2_rule_98 : decode cX2_rule 98 = .ok (.aload_n 0, 1) := by decide +kernel
theorem dX2_rule_99 : decode cX2_rule 99 = .ok (.getfield 22, 3) := by decide +kernel
theorem dX2_rule_102 : decode cX2_rule 102 = .ok (.iload_n 1, 1) := by decide +kernel
theorem dX2_rule_103 : decode cX2_rule 103 = .ok (.iaload, 1) := by decide +kernel
theorem dX2_rule_104 : decode cX2_rule 104 = .ok (.goto 9, 3) := by decide +kernel
theorem dX2_rule_107 : decode cX2_rule 107 = .ok (.aload_n 0, 1) := by decide +kernel
theorem dX2_rule_108 : decode cX2_rule 108 = .ok (.getfield 25, 3) := by decide +kernel
theorem dX2_rule_111 : decode cX2_rule 111 = .ok (.iload_n 1, 1) := by decide +kernel
theorem dX2_rule_112 : decode cX2_rule 112 = .ok (.iaload, 1) := by decide +kernel
theorem dX2_rule_113 : decode cX2_rule 113 = .ok (.istore 5, 2) := by decide +kernel
theorem dX2_rule_115 : decode cX2_rule 115 = .ok (.iload_n 2, 1) := by decide +kernel
theorem dX2_rule_116 : decode cX2_rule 116 = .ok (.ifCond .ne 20, 3) := by decide +kernel
theorem dX2_rule_119 : decode cX2_rule 119 = .ok (.aload_n 0, 1) := by decide +kernel
theorem dX2_rule_120 : decode cX2_rule 120 = .ok (.getfield 19, 3) := by decide +kernel
theorem dX2_rule_123 : decode cX2_rule 123 = .ok (.iload_n 1, 1) := by decide +kernel
theorem dX2_rule_124 : decode cX2_rule 124 = .ok (.iload_n 3, 1) := by decide +kernel
theorem dX2_rule_125 : decode cX2_rule 125 = .ok (.iastore, 1) := by decide +kernel
theorem dX2_rule_126 : decode cX2_rule 126 = .ok (.aload_n 0, 1) := by decide +kernel
theorem dX2_rule_127 : decode cX2_rule 127 = .ok (.getfield 28, 3) := by decide +kernel
theorem dX2_rule_130 : decode cX2_rule 130 = .ok (.iload_n 1, 1) := by decide +kernel
theorem dX2_rule_131 : decode cX2_rule 131 = .ok (.iconst 0, 1) := by decide +kernel
theorem dX2_rule_132 : decode cX2_rule 132 = .ok (.bastore, 1) := by decide +kernel
theorem dX2_rule_133 : decode cX2_rule 133 = .ok (.goto 25, 3) := by decide +kernel
theorem dX2_rule_136 : decode cX2_rule 136 = .ok (.iload_n 2, 1) := by decide +kernel
theorem dX2_rule_137 : decode cX2_rule 137 = .ok (.iconst 1, 1) := by decide +kernel
theorem dX2_rule_138 : decode cX2_rule 138 = .ok (.if_icmp .ne 13, 3) := by decide +kernel
theorem dX2_rule_141 : decode cX2_rule 141 = .ok (.aload_n 0, 1) := by decide +kernel
theorem dX2_rule_142 : decode cX2_rule 142 = .ok (.getfield 22, 3) := by decide +kernel
theorem dX2_rule_145 : decode cX2_rule 145 = .ok (.iload_n 1, 1) := by decide +kernel
theorem dX2_rule_146 : decode cX2_rule 146 = .ok (.iload_n 3, 1) := by decide +kernel
theorem dX2_rule_147 : decode cX2_rule 147 = .ok (.iastore, 1) := by decide +kernel
theorem dX2_rule_148 : decode cX2_rule 148 = .ok (.goto 10, 3) := by decide +kernel
theorem dX2_rule_151 : decode cX2_rule 151 = .ok (.aload_n 0, 1) := by decide +kernel
theorem dX2_rule_152 : decode cX2_rule 152 = .ok (.getfield 25, 3) := by decide +kernel
theorem dX2_rule_155 : decode cX2_rule 155 = .ok (.iload_n 1, 1) := by decide +kernel
theorem dX2_rule_156 : decode cX2_rule 156 = .ok (.iload_n 3, 1) := by decide +kernel
theorem dX2_rule_157 : decode cX2_rule 157 = .ok (.iastore, 1) := by decide +kernel
theorem dX2_rule_158 : decode cX2_rule 158 = .ok (.iload 5, 2) := by decide +kernel
theorem dX2_rule_160 : decode cX2_rule 160 = .ok (.ireturn, 1) := by decide +kernel
set_option maxRecDepth 20000 in
theorem ggX2_variants_X2_noKind : GoodIn wsX2_variants wsX2_noKind := goodIn_r _ [6, 7, 8, 9, 5, 10, 37, 38, 39, 40, 41, 42, 43, 44, 45, 46, 47, 48, 49, 50, 51, 52, 53, 54, 55, 56, 57] (by decide +kernel) (by decide +kernel)
set_option maxRecDepth 20000 in
theorem gX2_variants_X2_noKind : GoodIn wsX2_variants (wsV RX2 91 RX2 yX2_noKind wsX2_noKind) := goodIn_app (goodIn_of _ (by decide +kernel)) ggX2_variants_X2_noKind
set_option maxRecDepth 20000 in
theorem ggX2_variants_X2_tell : GoodIn wsX2_variants wsX2_tell := goodIn_r _ [14, 15, 16, 17, 18, 19, 20, 21, 22, 5, 23, 24, 25, 26, 27, 28, 8, 9, 10, 29, 30, 31, 32, 33, 34, 35, 36, 37, 38, 39, 40, 41, 42, 43, 44, 45, 46, 47, 48, 49, 50, 51, 52, 53, 54, 55, 56, 57] (by decide +kernel) (by decide +kernel)
set_option maxRecDepth 20000 in
theorem gX2_variants_X2_tell : GoodIn wsX2_variants (wsV RX2 95 RX2 yX2_tell wsX2_tell) := goodIn_app (goodIn_of _ (by decide +kernel)) ggX2_variants_X2_tell
theorem dX2_variants_0 : decode cX2_variants 0 = .ok (.aload_n 0, 1) := by decide +kernel
theorem dX2_variants_1 : decode cX2_variants 1 = .ok (.iconst 0, 1) := by decide +kernel
theorem dX2_variants_2 : decode cX2_variants 2 = .ok (.putfield 59, 3) := by decide +kernel
theorem dX2_variants_5 : decode cX2_variants 5 = .ok (.aload_n 0, 1) := by decide +kernel
theorem dX2_variants_6 : decode cX2_variants 6 = .ok (.iload_n 1, 1) := by decide +kernel
theorem dX2_variants_7 : decode cX2_variants 7 = .ok (.invokevirtual 91, 3) := by decide +kernel
theorem dX2_variants_10 : decode cX2_variants 10 = .ok (.ifCond .eq 7, 3) := by decide +kernel
theorem dX2_variants_13 : decode cX2_variants 13 = .ok (.iconst (-1), 1) := by decide +kernel
theorem dX2_variants_14 : decode cX2_variants 14 = .ok (.goto 8, 3) := by decide +kernel
theorem dX2_variants_17 : decode cX2_variants 17 = .ok (.aload_n 0, 1) := by decide +kernel
theorem dX2_variants_18 : decode cX2_variants 18 = .ok (.iload_n 1, 1) := by decide +kernel
theorem dX2_variants_19 : decode cX2_variants 19 = .ok (.invokevirtual 95, 3) := by decide +kernel
theorem dX2_variants_22 : decode cX2_variants 22 = .ok (.ireturn, 1) := by decide +kernel
set_option maxRecDepth 20000 in
theorem ggX2_variant_X2_noVariant : GoodIn wsX2_variant wsX2_noVariant := goodIn_r _ [7, 8, 9, 10, 6, 11, 12, 13, 14, 15, 16, 17, 18, 19, 20, 21, 22, 23, 24, 25, 26, 27, 28, 2, 29, 30, 31, 32, 33, 34, 35, 36, 37, 38, 39, 40, 45, 46, 47, 48, 49, 50, 51, 52, 53, 54, 55, 56, 57, 58, 59, 60, 61, 62, 63, 64, 65] (by decide +kernel) (by decide +kernel)
set_option maxRecDepth 20000 in
theorem gX2_variant_X2_noVariant : GoodIn wsX2_variant (wsV RX2 107 RX2 yX2_noVariant wsX2_noVariant) := goodIn_app (goodIn_of _ (by decide +kernel)) ggX2_variant_X2_noVariant
set_option maxRecDepth 20000 in
theorem ggX2_variant_X2_pairOf : GoodIn wsX2_variant wsX2_pairOf := goodIn_r _ [44, 23, 45, 46, 47, 48, 49, 50, 51, 52, 53, 54, 55, 56, 57, 58, 59, 60, 61, 62, 63, 64, 65] (by decide +kernel) (by decide +kernel)
set_option maxRecDepth 20000 in
theorem gX2_variant_X2_pairOf : GoodIn wsX2_variant (wsV RX2 111 RX2 yX2_pairOf wsX2_pairOf) := goodIn_app (goodIn_of _ (by decide +kernel)) ggX2_variant_X2_pairOf
set_option maxRecDepth 20000 in
theorem ggX2_variant_X2_answerOf : GoodIn wsX2_variant wsX2_answerOf := goodIn_r _ [32] (by decide +kernel) (by decide +kernel)
set_option maxRecDepth 20000 in
theorem gX2_variant_X2_answerOf : GoodIn wsX2_variant (va_wsS RX2 72 yX2_answerOf wsX2_answerOf) := goodIn_app (goodIn_of _ (by decide +kernel)) ggX2_variant_X2_answerOf
set_option maxRecDepth 20000 in
theorem ggX2_variant_X2_carries : GoodIn wsX2_variant wsX2_carries := goodIn_r _ [35] (by decide +kernel) (by decide +kernel)
set_option maxRecDepth 20000 in
theorem gX2_variant_X2_carries : GoodIn wsX2_variant (va_wsS RX2 76 yX2_carries wsX2_carries) := goodIn_app (goodIn_of _ (by decide +kernel)) ggX2_variant_X2_carries
theorem dX2_variant_0 : decode cX2_variant 0 = .ok (.aload_n 0, 1) := by decide +kernel
theorem dX2_variant_1 : decode cX2_variant 1 = .ok (.iconst 0, 1) := by decide +kernel
theorem dX2_variant_2 : decode cX2_variant 2 = .ok (.putfield 59, 3) := by decide +kernel
theorem dX2_variant_5 : decode cX2_variant 5 = .ok (.aload_n 0, 1) := by decide +kernel
theorem dX2_variant_6 : decode cX2_variant 6 = .ok (.iload_n 1, 1) := by decide +kernel
theorem dX2_variant_7 : decode cX2_variant 7 = .ok (.iload_n 2, 1) := by decide +kernel
theorem dX2_variant_8 : decode cX2_variant 8 = .ok (.invokevirtual 107, 3) := by decide +kernel
theorem dX2_variant_11 : decode cX2_variant 11 = .ok (.ifCond .eq 5, 3) := by decide +kernel
theorem dX2_variant_14 : decode cX2_variant 14 = .ok (.iconst (-1), 1) := by decide +kernel
theorem dX2_variant_15 : decode cX2_variant 15 = .ok (.ireturn, 1) := by decide +kernel
theorem dX2_variant_16 : decode cX2_variant 16 = .ok (.aload_n 0, 1) := by decide +kernel
theorem dX2_variant_17 : decode cX2_variant 17 = .ok (.iload_n 1, 1) := by decide +kernel
theorem dX2_variant_18 : decode cX2_variant 18 = .ok (.iload_n 2, 1) := by decide +kernel
theorem dX2_variant_19 : decode cX2_variant 19 = .ok (.invokevirtual 111, 3) := by decide +kernel
theorem dX2_variant_22 : decode cX2_variant 22 = .ok (.bipush 100, 2) := by decide +kernel
theorem dX2_variant_24 : decode cX2_variant 24 = .ok (.idiv, 1) := by decide +kernel
theorem dX2_variant_25 : decode cX2_variant 25 = .ok (.istore 4, 2) := by decide +kernel
theorem dX2_variant_27 : decode cX2_variant 27 = .ok (.aload_n 0, 1) := by decide +kernel
theorem dX2_variant_28 : decode cX2_variant 28 = .ok (.iload_n 1, 1) := by decide +kernel
theorem dX2_variant_29 : decode cX2_variant 29 = .ok (.iload_n 2, 1) := by decide +kernel
theorem dX2_variant_30 : decode cX2_variant 30 = .ok (.invokevirtual 111, 3) := by decide +kernel
theorem dX2_variant_33 : decode cX2_variant 33 = .ok (.bipush 100, 2) := by decide +kernel
theorem dX2_variant_35 : decode cX2_variant 35 = .ok (.irem, 1) := by decide +kernel
theorem dX2_variant_36 : decode cX2_variant 36 = .ok (.istore 5, 2) := by decide +kernel
theorem dX2_variant_38 : decode cX2_variant 38 = .ok (.iload_n 3, 1) := by decide +kernel
theorem dX2_variant_39 : decode cX2_variant 39 = .ok (.tableswitch 71 0 3 #[29, 32, 35, 49], 29) := by decide +kernel
theorem dX2_variant_68 : decode cX2_variant 68 = .ok (.iload 4, 2) := by decide +kernel
theorem dX2_variant_70 : decode cX2_variant 70 = .ok (.ireturn, 1) := by decide +kernel
theorem dX2_variant_71 : decode cX2_variant 71 = .ok (.iload 5, 2) := by decide +kernel
theorem dX2_variant_73 : decode cX2_variant 73 = .ok (.ireturn, 1) := by decide +kernel
theorem dX2_variant_74 : decode cX2_variant 74 = .ok (.aload_n 0, 1) := by decide +kernel
theorem dX2_variant_75 : decode cX2_variant 75 = .ok (.getfield 7, 3) := by decide +kernel
theorem dX2_variant_78 : decode cX2_variant 78 = .ok (.iload_n 1, 1) := by decide +kernel
theorem dX2_variant_79 : decode cX2_variant 79 = .ok (.iaload, 1) := by decide +kernel
theorem dX2_variant_80 : decode cX2_variant 80 = .ok (.iload 4, 2) := by decide +kernel
theorem dX2_variant_82 : decode cX2_variant 82 = .ok (.iload 5, 2) := by decide +kernel
theorem dX2_variant_84 : decode cX2_variant 84 = .ok (.invokestatic 72, 3) := by decide +kernel
theorem dX2_variant_87 : decode cX2_variant 87 = .ok (.ireturn, 1) := by decide +kernel
theorem dX2_variant_88 : decode cX2_variant 88 = .ok (.aload_n 0, 1) := by decide +kernel
theorem dX2_variant_89 : decode cX2_variant 89 = .ok (.getfield 7, 3) := by decide +kernel
theorem dX2_variant_92 : decode cX2_variant 92 = .ok (.iload_n 1, 1) := by decide +kernel
theorem dX2_variant_93 : decode cX2_variant 93 = .ok (.iaload, 1) := by decide +kernel
theorem dX2_variant_94 : decode cX2_variant 94 = .ok (.iload 4, 2) := by decide +kernel
theorem dX2_variant_96 : decode cX2_variant 96 = .ok (.iload 5, 2) := by decide +kernel
theorem dX2_variant_98 : decode cX2_variant 98 = .ok (.invokestatic 76, 3) := by decide +kernel
theorem dX2_variant_101 : decode cX2_variant 101 = .ok (.ifCond .eq 7, 3) := by decide +kernel
theorem dX2_variant_104 : decode cX2_variant 104 = .ok (.iconst 1, 1) := by decide +kernel
theorem dX2_variant_105 : decode cX2_variant 105 = .ok (.goto 4, 3) := by decide +kernel
theorem dX2_variant_108 : decode cX2_variant 108 = .ok (.iconst 0, 1) := by decide +kernel
theorem dX2_variant_109 : decode cX2_variant 109 = .ok (.ireturn, 1) := by decide +kernel
theorem dX2_variant_110 : decode cX2_variant 110 = .ok (.bipush (-2), 2) := by decide +kernel
theorem dX2_variant_112 : decode cX2_variant 112 = .ok (.ireturn, 1) := by decide +kernel
set_option maxRecDepth 20000 in
theorem ggX2_find_X2_noKind : GoodIn wsX2_find wsX2_noKind := goodIn_r _ [6, 7, 8, 9, 5, 10, 41, 42, 43, 44, 45, 46, 47, 48, 49, 50, 51, 52, 53, 54, 55, 56, 57, 58, 59, 60, 61] (by decide +kernel) (by decide +kernel)
set_option maxRecDepth 20000 in
theorem gX2_find_X2_noKind : GoodIn wsX2_find (wsV RX2 91 RX2 yX2_noKind wsX2_noKind) := goodIn_app (goodIn_of _ (by decide +kernel)) ggX2_find_X2_noKind
set_option maxRecDepth 20000 in
theorem ggX2_find_X2_tell : GoodIn wsX2_find wsX2_tell := goodIn_r _ [14, 15, 16, 17, 18, 19, 20, 21, 22, 5, 23, 24, 25, 26, 27, 28, 8, 9, 10, 29, 30, 31, 32, 33, 34, 35, 36, 41, 42, 43, 44, 45, 46, 47, 48, 49, 50, 51, 52, 53, 54, 55, 56, 57, 58, 59, 60, 61] (by decide +kernel) (by decide +kernel)
set_option maxRecDepth 20000 in
theorem gX2_find_X2_tell : GoodIn wsX2_find (wsV RX2 95 RX2 yX2_tell wsX2_tell) := goodIn_app (goodIn_of _ (by decide +kernel)) ggX2_find_X2_tell
set_option maxRecDepth 20000 in
theorem ggX2_find_X2_pairOf : GoodIn wsX2_find wsX2_pairOf := goodIn_r _ [40, 18, 41, 42, 43, 44, 45, 46, 47, 48, 49, 50, 51, 52, 53, 54, 55, 56, 57, 58, 59, 60, 61] (by decide +kernel) (by decide +kernel)
set_option maxRecDepth 20000 in
theorem gX2_find_X2_pairOf : GoodIn wsX2_find (wsV RX2 111 RX2 yX2_pairOf wsX2_pairOf) := goodIn_app (goodIn_of _ (by decide +kernel)) ggX2_find_X2_pairOf
theorem dX2_find_0 : decode cX2_find 0 = .ok (.aload_n 0, 1) := by decide +kernel
theorem dX2_find_1 : decode cX2_find 1 = .ok (.iconst 0, 1) := by decide +kernel
theorem dX2_find_2 : decode cX2_find 2 = .ok (.putfield 59, 3) := by decide +kernel
theorem dX2_find_5 : decode cX2_find 5 = .ok (.aload_n 0, 1) := by decide +kernel
theorem dX2_find_6 : decode cX2_find 6 = .ok (.iload_n 1, 1) := by decide +kernel
theorem dX2_find_7 : decode cX2_find 7 = .ok (.invokevirtual 91, 3) := by decide +kernel
theorem dX2_find_10 : decode cX2_find 10 = .ok (.ifCond .eq 5, 3) := by decide +kernel
theorem dX2_find_13 : decode cX2_find 13 = .ok (.iconst (-1), 1) := by decide +kernel
theorem dX2_find_14 : decode cX2_find 14 = .ok (.ireturn, 1) := by decide +kernel
theorem dX2_find_15 : decode cX2_find 15 = .ok (.iconst 0, 1) := by decide +kernel
theorem dX2_find_16 : decode cX2_find 16 = .ok (.istore 4, 2) := by decide +kernel
theorem dX2_find_18 : decode cX2_find 18 = .ok (.iload 4, 2) := by decide +kernel
theorem dX2_find_20 : decode cX2_find 20 = .ok (.aload_n 0, 1) := by decide +kernel
theorem dX2_find_21 : decode cX2_find 21 = .ok (.iload_n 1, 1) := by decide +kernel
theorem dX2_find_22 : decode cX2_find 22 = .ok (.invokevirtual 95, 3) := by decide +kernel
theorem dX2_find_25 : decode cX2_find 25 = .ok (.if_icmp .ge 40, 3) := by decide +kernel
theorem dX2_find_28 : decode cX2_find 28 = .ok (.aload_n 0, 1) := by decide +kernel
theorem dX2_find_29 : decode cX2_find 29 = .ok (.iload_n 1, 1) := by decide +kernel
theorem dX2_find_30 : decode cX2_find 30 = .ok (.iload 4, 2) := by decide +kernel
theorem dX2_find_32 : decode cX2_find 32 = .ok (.invokevirtual 111, 3) := by decide +kernel
theorem dX2_find_35 : decode cX2_find 35 = .ok (.bipush 100, 2) := by decide +kernel
theorem dX2_find_37 : decode cX2_find 37 = .ok (.idiv, 1) := by decide +kernel
theorem dX2_find_38 : decode cX2_find 38 = .ok (.iload_n 2, 1) := by decide +kernel
theorem dX2_find_39 : decode cX2_find 39 = .ok (.if_icmp .ne 20, 3) := by decide +kernel
theorem dX2_find_42 : decode cX2_find 42 = .ok (.aload_n 0, 1) := by decide +kernel
theorem dX2_find_43 : decode cX2_find 43 = .ok (.iload_n 1, 1) := by decide +kernel
theorem dX2_find_44 : decode cX2_find 44 = .ok (.iload 4, 2) := by decide +kernel
theorem dX2_find_46 : decode cX2_find 46 = .ok (.invokevirtual 111, 3) := by decide +kernel
theorem dX2_find_49 : decode cX2_find 49 = .ok (.bipush 100, 2) := by decide +kernel
theorem dX2_find_51 : decode cX2_find 51 = .ok (.irem, 1) := by decide +kernel
theorem dX2_find_52 : decode cX2_find 52 = .ok (.iload_n 3, 1) := by decide +kernel
theorem dX2_find_53 : decode cX2_find 53 = .ok (.if_icmp .ne 6, 3) := by decide +kernel
theorem dX2_find_56 : decode cX2_find 56 = .ok (.iload 4, 2) := by decide +kernel
theorem dX2_find_58 : decode cX2_find 58 = .ok (.ireturn, 1) := by decide +kernel
theorem dX2_find_59 : decode cX2_find 59 = .ok (.iinc 4 1, 3) := by decide +kernel
theorem dX2_find_62 : decode cX2_find 62 = .ok (.goto (-44), 3) := by decide +kernel
theorem dX2_find_65 : decode cX2_find 65 = .ok (.bipush (-9), 2) := by decide +kernel
theorem dX2_find_67 : decode cX2_find 67 = .ok (.ireturn, 1) := by decide +kernel
set_option maxRecDepth 20000 in
theorem ggX2_slipAt_X2_pairOf : GoodIn wsX2_slipAt wsX2_pairOf := goodIn_r _ [6, 7, 22, 23, 24, 25, 26, 27, 28, 29, 30, 31, 32, 33, 34, 35, 36, 37, 38, 39, 40, 41, 42] (by decide +kernel) (by decide +kernel)
set_option maxRecDepth 20000 in
theorem gX2_slipAt_X2_pairOf : GoodIn wsX2_slipAt (wsV RX2 111 RX2 yX2_pairOf wsX2_pairOf) := goodIn_app (goodIn_of _ (by decide +kernel)) ggX2_slipAt_X2_pairOf
set_option maxRecDepth 20000 in
theorem ggX2_slipAt_X2_slipOf : GoodIn wsX2_slipAt wsX2_slipOf := goodIn_r _ [10, 11, 12, 13, 14, 5, 15, 16, 17, 18, 19, 20, 21] (by decide +kernel) (by decide +kernel)
set_option maxRecDepth 20000 in
theorem gX2_slipAt_X2_slipOf : GoodIn wsX2_slipAt (va_wsS RX2 84 yX2_slipOf wsX2_slipOf) := goodIn_app (goodIn_of _ (by decide +kernel)) ggX2_slipAt_X2_slipOf
theorem dX2_slipAt_0 : decode cX2_slipAt 0 = .ok (.aload_n 0, 1) := by decide +kernel
theorem dX2_slipAt_1 : decode cX2_slipAt 1 = .ok (.getfield 7, 3) := by decide +kernel
theorem dX2_slipAt_4 : decode cX2_slipAt 4 = .ok (.iload_n 1, 1) := by decide +kernel
theorem dX2_slipAt_5 : decode cX2_slipAt 5 = .ok (.iaload, 1) := by decide +kernel
theorem dX2_slipAt_6 : decode cX2_slipAt 6 = .ok (.aload_n 0, 1) := by decide +kernel
theorem dX2_slipAt_7 : decode cX2_slipAt 7 = .ok (.iload_n 1, 1) := by decide +kernel
theorem dX2_slipAt_8 : decode cX2_slipAt 8 = .ok (.iload_n 2, 1) := by decide +kernel
theorem dX2_slipAt_9 : decode cX2_slipAt 9 = .ok (.invokevirtual 111, 3) := by decide +kernel
theorem dX2_slipAt_12 : decode cX2_slipAt 12 = .ok (.bipush 100, 2) := by decide +kernel
theorem dX2_slipAt_14 : decode cX2_slipAt 14 = .ok (.idiv, 1) := by decide +kernel
theorem dX2_slipAt_15 : decode cX2_slipAt 15 = .ok (.aload_n 0, 1) := by decide +kernel
theorem dX2_slipAt_16 : decode cX2_slipAt 16 = .ok (.iload_n 1, 1) := by decide +kernel
theorem dX2_slipAt_17 : decode cX2_slipAt 17 = .ok (.iload_n 2, 1) := by decide +kernel
theorem dX2_slipAt_18 : decode cX2_slipAt 18 = .ok (.invokevirtual 111, 3) := by decide +kernel
theorem dX2_slipAt_21 : decode cX2_slipAt 21 = .ok (.bipush 100, 2) := by decide +kernel
theorem dX2_slipAt_23 : decode cX2_slipAt 23 = .ok (.irem, 1) := by decide +kernel
theorem dX2_slipAt_24 : decode cX2_slipAt 24 = .ok (.iload_n 3, 1) := by decide +kernel
theorem dX2_slipAt_25 : decode cX2_slipAt 25 = .ok (.invokestatic 84, 3) := by decide +kernel
theorem dX2_slipAt_28 : decode cX2_slipAt 28 = .ok (.ireturn, 1) := by decide +kernel
set_option maxRecDepth 20000 in
theorem ggX2_rightAt_X2_pairOf : GoodIn wsX2_rightAt wsX2_pairOf := goodIn_r _ [6, 7, 11, 12, 13, 14, 15, 16, 17, 18, 19, 20, 21, 22, 23, 24, 25, 26, 27, 28, 29, 30, 31] (by decide +kernel) (by decide +kernel)
set_option maxRecDepth 20000 in
theorem gX2_rightAt_X2_pairOf : GoodIn wsX2_rightAt (wsV RX2 111 RX2 yX2_pairOf wsX2_pairOf) := goodIn_app (goodIn_of _ (by decide +kernel)) ggX2_rightAt_X2_pairOf
set_option maxRecDepth 20000 in
theorem ggX2_rightAt_X2_answerOf : GoodIn wsX2_rightAt wsX2_answerOf := goodIn_r _ [10] (by decide +kernel) (by decide +kernel)
set_option maxRecDepth 20000 in
theorem gX2_rightAt_X2_answerOf : GoodIn wsX2_rightAt (va_wsS RX2 72 yX2_answerOf wsX2_answerOf) := goodIn_app (goodIn_of _ (by decide +kernel)) ggX2_rightAt_X2_answerOf
theorem dX2_rightAt_0 : decode cX2_rightAt 0 = .ok (.aload_n 0, 1) := by decide +kernel
theorem dX2_rightAt_1 : decode cX2_rightAt 1 = .ok (.getfield 7, 3) := by decide +kernel
theorem dX2_rightAt_4 : decode cX2_rightAt 4 = .ok (.iload_n 1, 1) := by decide +kernel
theorem dX2_rightAt_5 : decode cX2_rightAt 5 = .ok (.iaload, 1) := by decide +kernel
theorem dX2_rightAt_6 : decode cX2_rightAt 6 = .ok (.aload_n 0, 1) := by decide +kernel
theorem dX2_rightAt_7 : decode cX2_rightAt 7 = .ok (.iload_n 1, 1) := by decide +kernel
theorem dX2_rightAt_8 : decode cX2_rightAt 8 = .ok (.iload_n 2, 1) := by decide +kernel
theorem dX2_rightAt_9 : decode cX2_rightAt 9 = .ok (.invokevirtual 111, 3) := by decide +kernel
theorem dX2_rightAt_12 : decode cX2_rightAt 12 = .ok (.bipush 100, 2) := by decide +kernel
theorem dX2_rightAt_14 : decode cX2_rightAt 14 = .ok (.idiv, 1) := by decide +kernel
theorem dX2_rightAt_15 : decode cX2_rightAt 15 = .ok (.aload_n 0, 1) := by decide +kernel
theorem dX2_rightAt_16 : decode cX2_rightAt 16 = .ok (.iload_n 1, 1) := by decide +kernel
theorem dX2_rightAt_17 : decode cX2_rightAt 17 = .ok (.iload_n 2, 1) := by decide +kernel
theorem dX2_rightAt_18 : decode cX2_rightAt 18 = .ok (.invokevirtual 111, 3) := by decide +kernel
theorem dX2_rightAt_21 : decode cX2_rightAt 21 = .ok (.bipush 100, 2) := by decide +kernel
theorem dX2_rightAt_23 : decode cX2_rightAt 23 = .ok (.irem, 1) := by decide +kernel
theorem dX2_rightAt_24 : decode cX2_rightAt 24 = .ok (.invokestatic 72, 3) := by decide +kernel
theorem dX2_rightAt_27 : decode cX2_rightAt 27 = .ok (.ireturn, 1) := by decide +kernel
set_option maxRecDepth 20000 in
theorem ggX2_slip_X2_noVariant : GoodIn wsX2_slip wsX2_noVariant := goodIn_r _ [7, 8, 9, 10, 6, 11, 12, 13, 14, 15, 16, 17, 18, 19, 20, 21, 22, 23, 24, 25, 26, 27, 28, 29, 30, 31, 32, 33, 34, 35, 36, 37, 38, 39, 40, 41, 50, 51, 52, 53, 54, 55, 56, 57, 58, 59, 60, 61, 62, 63, 64, 65, 66, 67, 68, 69, 70] (by decide +kernel) (by decide +kernel)
set_option maxRecDepth 20000 in
theorem gX2_slip_X2_noVariant : GoodIn wsX2_slip (wsV RX2 107 RX2 yX2_noVariant wsX2_noVariant) := goodIn_app (goodIn_of _ (by decide +kernel)) ggX2_slip_X2_noVariant
set_option maxRecDepth 20000 in
theorem ggX2_slip_X2_in : GoodIn wsX2_slip wsX2_in := goodIn_r _ [15] (by decide +kernel) (by decide +kernel)
set_option maxRecDepth 20000 in
theorem gX2_slip_X2_in : GoodIn wsX2_slip (va_wsS RX2 65 yX2_in wsX2_in) := goodIn_app (goodIn_of _ (by decide +kernel)) ggX2_slip_X2_in
set_option maxRecDepth 20000 in
theorem ggX2_slip_X2_slipAt : GoodIn wsX2_slip wsX2_slipAt := goodIn_r _ [45, 29, 46, 47, 48, 6, 49, 23, 37, 38, 39, 40, 41, 31, 32, 33, 34, 35, 36, 13, 14, 15, 50, 51, 52, 53, 54, 55, 56, 57, 58, 59, 60, 61, 62, 63, 64, 65, 66, 67, 68, 69, 70] (by decide +kernel) (by decide +kernel)
set_option maxRecDepth 20000 in
theorem gX2_slip_X2_slipAt : GoodIn wsX2_slip (wsV RX2 117 RX2 yX2_slipAt wsX2_slipAt) := goodIn_app (goodIn_of _ (by decide +kernel)) ggX2_slip_X2_slipAt
theorem dX2_slip_0 : decode cX2_slip 0 = .ok (.aload_n 0, 1) := by decide +kernel
theorem dX2_slip_1 : decode cX2_slip 1 = .ok (.iconst 0, 1) := by decide +kernel
theorem dX2_slip_2 : decode cX2_slip 2 = .ok (.putfield 59, 3) := by decide +kernel
theorem dX2_slip_5 : decode cX2_slip 5 = .ok (.aload_n 0, 1) := by decide +kernel
theorem dX2_slip_6 : decode cX2_slip 6 = .ok (.iload_n 1, 1) := by decide +kernel
theorem dX2_slip_7 : decode cX2_slip 7 = .ok (.iload_n 2, 1) := by decide +kernel
theorem dX2_slip_8 : decode cX2_slip 8 = .ok (.invokevirtual 107, 3) := by decide +kernel
theorem dX2_slip_11 : decode cX2_slip 11 = .ok (.ifCond .eq 5, 3) := by decide +kernel
theorem dX2_slip_14 : decode cX2_slip 14 = .ok (.iconst (-1), 1) := by decide +kernel
theorem dX2_slip_15 : decode cX2_slip 15 = .ok (.ireturn, 1) := by decide +kernel
theorem dX2_slip_16 : decode cX2_slip 16 = .ok (.iload_n 3, 1) := by decide +kernel
theorem dX2_slip_17 : decode cX2_slip 17 = .ok (.i2l, 1) := by decide +kernel
theorem dX2_slip_18 : decode cX2_slip 18 = .ok (.lconst 1, 1) := by decide +kernel
theorem dX2_slip_19 : decode cX2_slip 19 = .ok (.ldc2_w 115, 3) := by decide +kernel
theorem dX2_slip_22 : decode cX2_slip 22 = .ok (.invokestatic 65, 3) := by decide +kernel
theorem dX2_slip_25 : decode cX2_slip 25 = .ok (.ifCond .eq 13, 3) := by decide +kernel
theorem dX2_slip_28 : decode cX2_slip 28 = .ok (.aload_n 0, 1) := by decide +kernel
theorem dX2_slip_29 : decode cX2_slip 29 = .ok (.iload_n 1, 1) := by decide +kernel
theorem dX2_slip_30 : decode cX2_slip 30 = .ok (.iload_n 2, 1) := by decide +kernel
theorem dX2_slip_31 : decode cX2_slip 31 = .ok (.iload_n 3, 1) := by decide +kernel
theorem dX2_slip_32 : decode cX2_slip 32 = .ok (.invokevirtual 117, 3) := by decide +kernel
theorem dX2_slip_35 : decode cX2_slip 35 = .ok (.goto 5, 3) := by decide +kernel
theorem dX2_slip_38 : decode cX2_slip 38 = .ok (.bipush (-2), 2) := by decide +kernel
theorem dX2_slip_40 : decode cX2_slip 40 = .ok (.ireturn, 1) := by decide +kernel
set_option maxRecDepth 20000 in
theorem ggX2_tellsOf_X2_rightAt : GoodIn wsX2_tellsOf wsX2_rightAt := goodIn_r _ [5, 6, 7, 8, 9, 4, 10, 11, 12, 13, 14, 30, 31, 32, 33, 34, 35, 36, 37, 38, 39, 40, 41, 42, 43, 44, 45, 46, 47, 48, 49, 50] (by decide +kernel) (by decide +kernel)
set_option maxRecDepth 20000 in
theorem gX2_tellsOf_X2_rightAt : GoodIn wsX2_tellsOf (wsV RX2 120 RX2 yX2_rightAt wsX2_rightAt) := goodIn_app (goodIn_of _ (by decide +kernel)) ggX2_tellsOf_X2_rightAt
set_option maxRecDepth 20000 in
theorem ggX2_tellsOf_X2_slipAt : GoodIn wsX2_tellsOf wsX2_slipAt := goodIn_r _ [18, 6, 7, 8, 9, 4, 10, 11, 19, 20, 21, 22, 23, 12, 13, 14, 24, 25, 26, 27, 28, 29, 30, 31, 32, 33, 34, 35, 36, 37, 38, 39, 40, 41, 42, 43, 44, 45, 46, 47, 48, 49, 50] (by decide +kernel) (by decide +kernel)
set_option maxRecDepth 20000 in
theorem gX2_tellsOf_X2_slipAt : GoodIn wsX2_tellsOf (wsV RX2 117 RX2 yX2_slipAt wsX2_slipAt) := goodIn_app (goodIn_of _ (by decide +kernel)) ggX2_tellsOf_X2_slipAt
theorem dX2_tellsOf_0 : decode cX2_tellsOf 0 = .ok (.iload_n 3, 1) := by decide +kernel
theorem dX2_tellsOf_1 : decode cX2_tellsOf 1 = .ok (.aload_n 0, 1) := by decide +kernel
theorem dX2_tellsOf_2 : decode cX2_tellsOf 2 = .ok (.iload_n 1, 1) := by decide +kernel
theorem dX2_tellsOf_3 : decode cX2_tellsOf 3 = .ok (.iload_n 2, 1) := by decide +kernel
theorem dX2_tellsOf_4 : decode cX2_tellsOf 4 = .ok (.invokevirtual 120, 3) := by decide +kernel
theorem dX2_tellsOf_7 : decode cX2_tellsOf 7 = .ok (.if_icmp .ne 5, 3) := by decide +kernel
theorem dX2_tellsOf_10 : decode cX2_tellsOf 10 = .ok (.iconst 0, 1) := by decide +kernel
theorem dX2_tellsOf_11 : decode cX2_tellsOf 11 = .ok (.ireturn, 1) := by decide +kernel
theorem dX2_tellsOf_12 : decode cX2_tellsOf 12 = .ok (.iconst 1, 1) := by decide +kernel
theorem dX2_tellsOf_13 : decode cX2_tellsOf 13 = .ok (.istore 4, 2) := by decide +kernel
theorem dX2_tellsOf_15 : decode cX2_tellsOf 15 = .ok (.iload 4, 2) := by decide +kernel
theorem dX2_tellsOf_17 : decode cX2_tellsOf 17 = .ok (.bipush 6, 2) := by decide +kernel
theorem dX2_tellsOf_19 : decode cX2_tellsOf 19 = .ok (.if_icmp .ge 28, 3) := by decide +kernel
theorem dX2_tellsOf_22 : decode cX2_tellsOf 22 = .ok (.iload_n 3, 1) := by decide +kernel
theorem dX2_tellsOf_23 : decode cX2_tellsOf 23 = .ok (.ifCond .lt 18, 3) := by decide +kernel
theorem dX2_tellsOf_26 : decode cX2_tellsOf 26 = .ok (.aload_n 0, 1) := by decide +kernel
theorem dX2_tellsOf_27 : decode cX2_tellsOf 27 = .ok (.iload_n 1, 1) := by decide +kernel
theorem dX2_tellsOf_28 : decode cX2_tellsOf 28 = .ok (.iload_n 2, 1) := by decide +kernel
theorem dX2_tellsOf_29 : decode cX2_tellsOf 29 = .ok (.iload 4, 2) := by decide +kernel
theorem dX2_tellsOf_31 : decode cX2_tellsOf 31 = .ok (.invokevirtual 117, 3) := by decide +kernel
theorem dX2_tellsOf_34 : decode cX2_tellsOf 34 = .ok (.iload_n 3, 1) := by decide +kernel
theorem dX2_tellsOf_35 : decode cX2_tellsOf 35 = .ok (.if_icmp .ne 6, 3) := by decide +kernel
theorem dX2_tellsOf_38 : decode cX2_tellsOf 38 = .ok (.iload 4, 2) := by decide +kernel
theorem dX2_tellsOf_40 : decode cX2_tellsOf 40 = .ok (.ireturn, 1) := by decide +kernel
theorem dX2_tellsOf_41 : decode cX2_tellsOf 41 = .ok (.iinc 4 1, 3) := by decide +kernel
theorem dX2_tellsOf_44 : decode cX2_tellsOf 44 = .ok (.goto (-29), 3) := by decide +kernel
theorem dX2_tellsOf_47 : decode cX2_tellsOf 47 = .ok (.bipush (-9), 2) := by decide +kernel
theorem dX2_tellsOf_49 : decode cX2_tellsOf 49 = .ok (.ireturn, 1) := by decide +kernel
set_option maxRecDepth 20000 in
theorem ggX2_tells_X2_noVariant : GoodIn wsX2_tells wsX2_noVariant := goodIn_r _ [6, 7, 8, 9, 5, 10, 11, 12, 13, 14, 15, 16, 17, 18, 19, 20, 21, 22, 23, 24, 25, 26, 27, 28, 29, 30, 31, 32, 33, 34, 35, 36, 37, 38, 39, 40, 57, 58, 59, 60, 61, 62, 63, 64, 65, 66, 67, 68, 69, 70, 71, 72, 73, 74, 75, 76, 77] (by decide +kernel) (by decide +kernel)
set_option maxRecDepth 20000 in
theorem gX2_tells_X2_noVariant : GoodIn wsX2_tells (wsV RX2 107 RX2 yX2_noVariant wsX2_noVariant) := goodIn_app (goodIn_of _ (by decide +kernel)) ggX2_tells_X2_noVariant
set_option maxRecDepth 20000 in
theorem ggX2_tells_X2_tellsOf : GoodIn wsX2_tells wsX2_tellsOf := goodIn_r _ [44, 45, 46, 47, 5, 48, 28, 49, 50, 51, 52, 22, 30, 31, 32, 53, 54, 55, 56, 36, 37, 38, 39, 40, 33, 34, 35, 12, 13, 14, 57, 58, 59, 60, 61, 62, 63, 64, 65, 66, 67, 68, 69, 70, 71, 72, 73, 74, 75, 76, 77] (by decide +kernel) (by decide +kernel)
set_option maxRecDepth 20000 in
theorem gX2_tells_X2_tellsOf : GoodIn wsX2_tells (wsV RX2 123 RX2 yX2_tellsOf wsX2_tellsOf) := goodIn_app (goodIn_of _ (by decide +kernel)) ggX2_tells_X2_tellsOf
theorem dX2_tells_0 : decode cX2_tells 0 = .ok (.aload_n 0, 1) := by decide +kernel
theorem dX2_tells_1 : decode cX2_tells 1 = .ok (.iconst 0, 1) := by decide +kernel
theorem dX2_tells_2 : decode cX2_tells 2 = .ok (.putfield 59, 3) := by decide +kernel
theorem dX2_tells_5 : decode cX2_tells 5 = .ok (.aload_n 0, 1) := by decide +kernel
theorem dX2_tells_6 : decode cX2_tells 6 = .ok (.iload_n 1, 1) := by decide +kernel
theorem dX2_tells_7 : decode cX2_tells 7 = .ok (.iload_n 2, 1) := by decide +kernel
theorem dX2_tells_8 : decode cX2_tells 8 = .ok (.invokevirtual 107, 3) := by decide +kernel
theorem dX2_tells_11 : decode cX2_tells 11 = .ok (.ifCond .eq 7, 3) := by decide +kernel
theorem dX2_tells_14 : decode cX2_tells 14 = .ok (.iconst (-1), 1) := by decide +kernel
theorem dX2_tells_15 : decode cX2_tells 15 = .ok (.goto 10, 3) := by decide +kernel
theorem dX2_tells_18 : decode cX2_tells 18 = .ok (.aload_n 0, 1) := by decide +kernel
theorem dX2_tells_19 : decode cX2_tells 19 = .ok (.iload_n 1, 1) := by decide +kernel
theorem dX2_tells_20 : decode cX2_tells 20 = .ok (.iload_n 2, 1) := by decide +kernel
theorem dX2_tells_21 : decode cX2_tells 21 = .ok (.iload_n 3, 1) := by decide +kernel
theorem dX2_tells_22 : decode cX2_tells 22 = .ok (.invokevirtual 123, 3) := by decide +kernel
theorem dX2_tells_25 : decode cX2_tells 25 = .ok (.ireturn, 1) := by decide +kernel
set_option maxRecDepth 20000 in
theorem ggX2_plan_X2_noKind : GoodIn wsX2_plan wsX2_noKind := goodIn_r _ [9, 10, 11, 12, 8, 13, 14, 15, 16, 17, 18, 19, 20, 21, 22, 23, 24, 25, 26, 27, 28, 29, 30, 31, 32, 33, 34] (by decide +kernel) (by decide +kernel)
set_option maxRecDepth 20000 in
theorem gX2_plan_X2_noKind : GoodIn wsX2_plan (wsV RX2 91 RX2 yX2_noKind wsX2_noKind) := goodIn_app (goodIn_of _ (by decide +kernel)) ggX2_plan_X2_noKind
set_option maxRecDepth 20000 in
theorem ggX2_plan_X2_in : GoodIn wsX2_plan wsX2_in := goodIn_r _ [13] (by decide +kernel) (by decide +kernel)
set_option maxRecDepth 20000 in
theorem gX2_plan_X2_in : GoodIn wsX2_plan (va_wsS RX2 65 yX2_in wsX2_in) := goodIn_app (goodIn_of _ (by decide +kernel)) ggX2_plan_X2_in
theorem dX2_plan_0 : decode cX2_plan 0 = .ok (.aload_n 0, 1) := by decide +kernel
theorem dX2_plan_1 : decode cX2_plan 1 = .ok (.iconst 0, 1) := by decide +kernel
theorem dX2_plan_2 : decode cX2_plan 2 = .ok (.putfield 59, 3) := by decide +kernel
theorem dX2_plan_5 : decode cX2_plan 5 = .ok (.aload_n 0, 1) := by decide +kernel
theorem dX2_plan_6 : decode cX2_plan 6 = .ok (.iload_n 1, 1) := by decide +kernel
theorem dX2_plan_7 : decode cX2_plan 7 = .ok (.invokevirtual 91, 3) := by decide +kernel
theorem dX2_plan_10 : decode cX2_plan 10 = .ok (.ifCond .eq 5, 3) := by decide +kernel
theorem dX2_plan_13 : decode cX2_plan 13 = .ok (.iconst (-1), 1) := by decide +kernel
theorem dX2_plan_14 : decode cX2_plan 14 = .ok (.ireturn, 1) := by decide +kernel
theorem dX2_plan_15 : decode cX2_plan 15 = .ok (.iload_n 2, 1) := by decide +kernel
theorem dX2_plan_16 : decode cX2_plan 16 = .ok (.i2l, 1) := by decide +kernel
theorem dX2_plan_17 : decode cX2_plan 17 = .ok (.lconst 1, 1) := by decide +kernel
theorem dX2_plan_18 : decode cX2_plan 18 = .ok (.ldc2_w 126, 3) := by decide +kernel
theorem dX2_plan_21 : decode cX2_plan 21 = .ok (.invokestatic 65, 3) := by decide +kernel
theorem dX2_plan_24 : decode cX2_plan 24 = .ok (.ifCond .ne 6, 3) := by decide +kernel
theorem dX2_plan_27 : decode cX2_plan 27 = .ok (.bipush (-2), 2) := by decide +kernel
theorem dX2_plan_29 : decode cX2_plan 29 = .ok (.ireturn, 1) := by decide +kernel
theorem dX2_plan_30 : decode cX2_plan 30 = .ok (.aload_n 0, 1) := by decide +kernel
theorem dX2_plan_31 : decode cX2_plan 31 = .ok (.getfield 69, 3) := by decide +kernel
theorem dX2_plan_34 : decode cX2_plan 34 = .ok (.iload_n 2, 1) := by decide +kernel
theorem dX2_plan_35 : decode cX2_plan 35 = .ok (.iadd, 1) := by decide +kernel
theorem dX2_plan_36 : decode cX2_plan 36 = .ok (.bipush 40, 2) := by decide +kernel
theorem dX2_plan_38 : decode cX2_plan 38 = .ok (.if_icmp .le 6, 3) := by decide +kernel
theorem dX2_plan_41 : decode cX2_plan 41 = .ok (.bipush (-4), 2) := by decide +kernel
theorem dX2_plan_43 : decode cX2_plan 43 = .ok (.ireturn, 1) := by decide +kernel
theorem dX2_plan_44 : decode cX2_plan 44 = .ok (.iconst 0, 1) := by decide +kernel
theorem dX2_plan_45 : decode cX2_plan 45 = .ok (.istore_n 3, 1) := by decide +kernel
theorem dX2_plan_46 : decode cX2_plan 46 = .ok (.iload_n 3, 1) := by decide +kernel
theorem dX2_plan_47 : decode cX2_plan 47 = .ok (.iload_n 2, 1) := by decide +kernel
theorem dX2_plan_48 : decode cX2_plan 48 = .ok (.if_icmp .ge 29, 3) := by decide +kernel
theorem dX2_plan_51 : decode cX2_plan 51 = .ok (.aload_n 0, 1) := by decide +kernel
theorem dX2_plan_52 : decode cX2_plan 52 = .ok (.getfield 40, 3) := by decide +kernel
theorem dX2_plan_55 : decode cX2_plan 55 = .ok (.aload_n 0, 1) := by decide +kernel
theorem dX2_plan_56 : decode cX2_plan 56 = .ok (.getfield 69, 3) := by decide +kernel
theorem dX2_plan_59 : decode cX2_plan 59 = .ok (.iload_n 1, 1) := by decide +kernel
theorem dX2_plan_60 : decode cX2_plan 60 = .ok (.iastore, 1) := by decide +kernel
theorem dX2_plan_61 : decode cX2_plan 61 = .ok (.aload_n 0, 1) := by decide +kernel
theorem dX2_plan_62 : decode cX2_plan 62 = .ok (.dup, 1) := by decide +kernel
theorem dX2_plan_63 : decode cX2_plan 63 = .ok (.getfield 69, 3) := by decide +kernel
theorem dX2_plan_66 : decode cX2_plan 66 = .ok (.iconst 1, 1) := by decide +kernel
theorem dX2_plan_67 : decode cX2_plan 67 = .ok (.iadd, 1) := by decide +kernel
theorem dX2_plan_68 : decode cX2_plan 68 = .ok (.putfield 69, 3) := by decide +kernel
theorem dX2_plan_71 : decode cX2_plan 71 = .ok (.iinc 3 1, 3) := by decide +kernel
theorem dX2_plan_74 : decode cX2_plan 74 = .ok (.goto (-28), 3) := by decide +kernel
theorem dX2_plan_77 : decode cX2_plan 77 = .ok (.aload_n 0, 1) := by decide +kernel
theorem dX2_plan_78 : decode cX2_plan 78 = .ok (.getfield 69, 3) := by decide +kernel
theorem dX2_plan_81 : decode cX2_plan 81 = .ok (.ireturn, 1) := by decide +kernel
theorem dX2_clear_0 : decode cX2_clear 0 = .ok (.aload_n 0, 1) := by decide +kernel
theorem dX2_clear_1 : decode cX2_clear 1 = .ok (.iconst 0, 1) := by decide +kernel
theorem dX2_clear_2 : decode cX2_clear 2 = .ok (.putfield 59, 3) := by decide +kernel
theorem dX2_clear_5 : decode cX2_clear 5 = .ok (.aload_n 0, 1) := by decide +kernel
theorem dX2_clear_6 : decode cX2_clear 6 = .ok (.getfield 69, 3) := by decide +kernel
theorem dX2_clear_9 : decode cX2_clear 9 = .ok (.istore_n 1, 1) := by decide +kernel
theorem dX2_clear_10 : decode cX2_clear 10 = .ok (.aload_n 0, 1) := by decide +kernel
theorem dX2_clear_11 : decode cX2_clear 11 = .ok (.iconst 0, 1) := by decide +kernel
theorem dX2_clear_12 : decode cX2_clear 12 = .ok (.putfield 69, 3) := by decide +kernel
theorem dX2_clear_15 : decode cX2_clear 15 = .ok (.iload_n 1, 1) := by decide +kernel
theorem dX2_clear_16 : decode cX2_clear 16 = .ok (.ireturn, 1) := by decide +kernel
set_option maxRecDepth 20000 in
theorem ggX2_placed_X2_noPlace : GoodIn wsX2_placed wsX2_noPlace := goodIn_r _ [7, 8, 9, 10, 6, 11, 12, 13, 14, 15, 16, 17, 18, 19, 20, 21, 22, 23, 24, 25, 26, 27, 28, 29, 30, 31, 32] (by decide +kernel) (by decide +kernel)
set_option maxRecDepth 20000 in
theorem gX2_placed_X2_noPlace : GoodIn wsX2_placed (wsV RX2 128 RX2 yX2_noPlace wsX2_noPlace) := goodIn_app (goodIn_of _ (by decide +kernel)) ggX2_placed_X2_noPlace
theorem dX2_placed_0 : decode cX2_placed 0 = .ok (.aload_n 0, 1) := by decide +kernel
theorem dX2_placed_1 : decode cX2_placed 1 = .ok (.iconst 0, 1) := by decide +kernel
theorem dX2_placed_2 : decode cX2_placed 2 = .ok (.putfield 59, 3) := by decide +kernel
theorem dX2_placed_5 : decode cX2_placed 5 = .ok (.aload_n 0, 1) := by decide +kernel
theorem dX2_placed_6 : decode cX2_placed 6 = .ok (.iload_n 1, 1) := by decide +kernel
theorem dX2_placed_7 : decode cX2_placed 7 = .ok (.invokevirtual 128, 3) := by decide +kernel
theorem dX2_placed_10 : decode cX2_placed 10 = .ok (.ifCond .eq 7, 3) := by decide +kernel
theorem dX2_placed_13 : decode cX2_placed 13 = .ok (.iconst (-1), 1) := by decide +kernel
theorem dX2_placed_14 : decode cX2_placed 14 = .ok (.goto 9, 3) := by decide +kernel
theorem dX2_placed_17 : decode cX2_placed 17 = .ok (.aload_n 0, 1) := by decide +kernel
theorem dX2_placed_18 : decode cX2_placed 18 = .ok (.getfield 40, 3) := by decide +kernel
theorem dX2_placed_21 : decode cX2_placed 21 = .ok (.iload_n 1, 1) := by decide +kernel
theorem dX2_placed_22 : decode cX2_placed 22 = .ok (.iaload, 1) := by decide +kernel
theorem dX2_placed_23 : decode cX2_placed 23 = .ok (.ireturn, 1) := by decide +kernel
set_option maxRecDepth 20000 in
theorem ggX2_lines_X2_in : GoodIn wsX2_lines wsX2_in := goodIn_r _ [8] (by decide +kernel) (by decide +kernel)
set_option maxRecDepth 20000 in
theorem gX2_lines_X2_in : GoodIn wsX2_lines (va_wsS RX2 65 yX2_in wsX2_in) := goodIn_app (goodIn_of _ (by decide +kernel)) ggX2_lines_X2_in
theorem dX2_lines_0 : decode cX2_lines 0 = .ok (.aload_n 0, 1) := by decide +kernel
theorem dX2_lines_1 : decode cX2_lines 1 = .ok (.iconst 0, 1) := by decide +kernel
theorem dX2_lines_2 : decode cX2_lines 2 = .ok (.putfield 59, 3) := by decide +kernel
theorem dX2_lines_5 : decode cX2_lines 5 = .ok (.iload_n 1, 1) := by decide +kernel
theorem dX2_lines_6 : decode cX2_lines 6 = .ok (.i2l, 1) := by decide +kernel
theorem dX2_lines_7 : decode cX2_lines 7 = .ok (.ldc2_w 103, 3) := by decide +kernel
theorem dX2_lines_10 : decode cX2_lines 10 = .ok (.ldc2_w 82, 3) := by decide +kernel
theorem dX2_lines_13 : decode cX2_lines 13 = .ok (.invokestatic 65, 3) := by decide +kernel
theorem dX2_lines_16 : decode cX2_lines 16 = .ok (.ifCond .ne 6, 3) := by decide +kernel
theorem dX2_lines_19 : decode cX2_lines 19 = .ok (.bipush (-2), 2) := by decide +kernel
theorem dX2_lines_21 : decode cX2_lines 21 = .ok (.ireturn, 1) := by decide +kernel
theorem dX2_lines_22 : decode cX2_lines 22 = .ok (.aload_n 0, 1) := by decide +kernel
theorem dX2_lines_23 : decode cX2_lines 23 = .ok (.getfield 43, 3) := by decide +kernel
theorem dX2_lines_26 : decode cX2_lines 26 = .ok (.istore_n 2, 1) := by decide +kernel
theorem dX2_lines_27 : decode cX2_lines 27 = .ok (.aload_n 0, 1) := by decide +kernel
theorem dX2_lines_28 : decode cX2_lines 28 = .ok (.iload_n 1, 1) := by decide +kernel
theorem dX2_lines_29 : decode cX2_lines 29 = .ok (.putfield 43, 3) := by decide +kernel
theorem dX2_lines_32 : decode cX2_lines 32 = .ok (.iload_n 2, 1) := by decide +kernel
theorem dX2_lines_33 : decode cX2_lines 33 = .ok (.ireturn, 1) := by decide +kernel
theorem dX2_where_0 : decode cX2_where 0 = .ok (.iconst 0, 1) := by decide +kernel
theorem dX2_where_1 : decode cX2_where 1 = .ok (.istore_n 2, 1) := by decide +kernel
theorem dX2_where_2 : decode cX2_where 2 = .ok (.iconst 0, 1) := by decide +kernel
theorem dX2_where_3 : decode cX2_where 3 = .ok (.istore_n 3, 1) := by decide +kernel
theorem dX2_where_4 : decode cX2_where 4 = .ok (.iconst 0, 1) := by decide +kernel
theorem dX2_where_5 : decode cX2_where 5 = .ok (.istore 4, 2) := by decide +kernel
theorem dX2_where_7 : decode cX2_where 7 = .ok (.iload 4, 2) := by decide +kernel
theorem dX2_where_9 : decode cX2_where 9 = .ok (.iload_n 1, 1) := by decide +kernel
theorem dX2_where_10 : decode cX2_where 10 = .ok (.if_icmp .gt 50, 3) := by decide +kernel
theorem dX2_where_13 : decode cX2_where 13 = .ok (.iload_n 3, 1) := by decide +kernel
theorem dX2_where_14 : decode cX2_where 14 = .ok (.aload_n 0, 1) := by decide +kernel
theorem dX2_where_15 : decode cX2_where 15 = .ok (.getfield 22, 3) := by decide +kernel
theorem dX2_where_18 : decode cX2_where 18 = .ok (.aload_n 0, 1) := by decide +kernel
theorem dX2_where_19 : decode cX2_where 19 = .ok (.getfield 40, 3) := by decide +kernel
theorem dX2_where_22 : decode cX2_where 22 = .ok (.iload 4, 2) := by decide +kernel
theorem dX2_where_24 : decode cX2_where 24 = .ok (.iaload, 1) := by decide +kernel
theorem dX2_where_25 : decode cX2_where 25 = .ok (.iaload, 1) := by decide +kernel
theorem dX2_where_26 : decode cX2_where 26 = .ok (.iadd, 1) := by decide +kernel
theorem dX2_where_27 : decode cX2_where 27 = .ok (.aload_n 0, 1) := by decide +kernel
theorem dX2_where_28 : decode cX2_where 28 = .ok (.getfield 43, 3) := by decide +kernel
theorem dX2_where_31 : decode cX2_where 31 = .ok (.if_icmp .le 8, 3) := by decide +kernel
theorem dX2_where_34 : decode cX2_where 34 = .ok (.iinc 2 1, 3) := by decide +kernel
theorem dX2_where_37 : decode cX2_where 37 = .ok (.iconst 0, 1) := by decide +kernel
theorem dX2_where_38 : decode cX2_where 38 = .ok (.istore_n 3, 1) := by decide +kernel
theorem dX2_where_39 : decode cX2_where 39 = .ok (.iload_n 3, 1) := by decide +kernel
theorem dX2_where_40 : decode cX2_where 40 = .ok (.aload_n 0, 1) := by decide +kernel
theorem dX2_where_41 : decode cX2_where 41 = .ok (.getfield 22, 3) := by decide +kernel
theorem dX2_where_44 : decode cX2_where 44 = .ok (.aload_n 0, 1) := by decide +kernel
theorem dX2_where_45 : decode cX2_where 45 = .ok (.getfield 40, 3) := by decide +kernel
theorem dX2_where_48 : decode cX2_where 48 = .ok (.iload 4, 2) := by decide +kernel
theorem dX2_where_50 : decode cX2_where 50 = .ok (.iaload, 1) := by decide +kernel
theorem dX2_where_51 : decode cX2_where 51 = .ok (.iaload, 1) := by decide +kernel
theorem dX2_where_52 : decode cX2_where 52 = .ok (.iadd, 1) := by decide +kernel
theorem dX2_where_53 : decode cX2_where 53 = .ok (.istore_n 3, 1) := by decide +kernel
theorem dX2_where_54 : decode cX2_where 54 = .ok (.iinc 4 1, 3) := by decide +kernel
theorem dX2_where_57 : decode cX2_where 57 = .ok (.goto (-50), 3) := by decide +kernel
theorem dX2_where_60 : decode cX2_where 60 = .ok (.bipush 100, 2) := by decide +kernel
theorem dX2_where_62 : decode cX2_where 62 = .ok (.iload_n 2, 1) := by decide +kernel
theorem dX2_where_63 : decode cX2_where 63 = .ok (.imul, 1) := by decide +kernel
theorem dX2_where_64 : decode cX2_where 64 = .ok (.iload_n 3, 1) := by decide +kernel
theorem dX2_where_65 : decode cX2_where 65 = .ok (.iadd, 1) := by decide +kernel
theorem dX2_where_66 : decode cX2_where 66 = .ok (.aload_n 0, 1) := by decide +kernel
theorem dX2_where_67 : decode cX2_where 67 = .ok (.getfield 22, 3) := by decide +kernel
theorem dX2_where_70 : decode cX2_where 70 = .ok (.aload_n 0, 1) := by decide +kernel
theorem dX2_where_71 : decode cX2_where 71 = .ok (.getfield 40, 3) := by decide +kernel
theorem dX2_where_74 : decode cX2_where 74 = .ok (.iload_n 1, 1) := by decide +kernel
theorem dX2_where_75 : decode cX2_where 75 = .ok (.iaload, 1) := by decide +kernel
theorem dX2_where_76 : decode cX2_where 76 = .ok (.iaload, 1) := by decide +kernel
theorem dX2_where_77 : decode cX2_where 77 = .ok (.isub, 1) := by decide +kernel
theorem dX2_where_78 : decode cX2_where 78 = .ok (.ireturn, 1) := by decide +kernel
set_option maxRecDepth 20000 in
theorem ggX2_pages_X2_where : GoodIn wsX2_pages wsX2_where := goodIn_r _ [7, 8, 9, 10, 11, 12, 13, 14, 15, 16, 17, 18, 19, 20, 21, 22, 23, 24, 25, 26, 27, 28, 29, 30, 31] (by decide +kernel) (by decide +kernel)
set_option maxRecDepth 20000 in
theorem gX2_pages_X2_where : GoodIn wsX2_pages (wsV RX2 131 RX2 yX2_where wsX2_where) := goodIn_app (goodIn_of _ (by decide +kernel)) ggX2_pages_X2_where
theorem dX2_pages_0 : decode cX2_pages 0 = .ok (.aload_n 0, 1) := by decide +kernel
theorem dX2_pages_1 : decode cX2_pages 1 = .ok (.iconst 0, 1) := by decide +kernel
theorem dX2_pages_2 : decode cX2_pages 2 = .ok (.putfield 59, 3) := by decide +kernel
theorem dX2_pages_5 : decode cX2_pages 5 = .ok (.aload_n 0, 1) := by decide +kernel
theorem dX2_pages_6 : decode cX2_pages 6 = .ok (.getfield 69, 3) := by decide +kernel
theorem dX2_pages_9 : decode cX2_pages 9 = .ok (.ifCond .ne 7, 3) := by decide +kernel
theorem dX2_pages_12 : decode cX2_pages 12 = .ok (.iconst 0, 1) := by decide +kernel
theorem dX2_pages_13 : decode cX2_pages 13 = .ok (.goto 18, 3) := by decide +kernel
theorem dX2_pages_16 : decode cX2_pages 16 = .ok (.aload_n 0, 1) := by decide +kernel
theorem dX2_pages_17 : decode cX2_pages 17 = .ok (.aload_n 0, 1) := by decide +kernel
theorem dX2_pages_18 : decode cX2_pages 18 = .ok (.getfield 69, 3) := by decide +kernel
theorem dX2_pages_21 : decode cX2_pages 21 = .ok (.iconst 1, 1) := by decide +kernel
theorem dX2_pages_22 : decode cX2_pages 22 = .ok (.isub, 1) := by decide +kernel
theorem dX2_pages_23 : decode cX2_pages 23 = .ok (.invokevirtual 131, 3) := by decide +kernel
theorem dX2_pages_26 : decode cX2_pages 26 = .ok (.bipush 100, 2) := by decide +kernel
theorem dX2_pages_28 : decode cX2_pages 28 = .ok (.idiv, 1) := by decide +kernel
theorem dX2_pages_29 : decode cX2_pages 29 = .ok (.iconst 1, 1) := by decide +kernel
theorem dX2_pages_30 : decode cX2_pages 30 = .ok (.iadd, 1) := by decide +kernel
theorem dX2_pages_31 : decode cX2_pages 31 = .ok (.ireturn, 1) := by decide +kernel
set_option maxRecDepth 20000 in
theorem ggX2_page_X2_noPlace : GoodIn wsX2_page wsX2_noPlace := goodIn_r _ [6, 7, 8, 9, 5, 10, 18, 19, 20, 21, 22, 23, 24, 25, 26, 27, 28, 29, 30, 31, 32, 33, 34, 35, 36, 37, 38] (by decide +kernel) (by decide +kernel)
set_option maxRecDepth 20000 in
theorem gX2_page_X2_noPlace : GoodIn wsX2_page (wsV RX2 128 RX2 yX2_noPlace wsX2_noPlace) := goodIn_app (goodIn_of _ (by decide +kernel)) ggX2_page_X2_noPlace
set_option maxRecDepth 20000 in
theorem ggX2_page_X2_where : GoodIn wsX2_page wsX2_where := goodIn_r _ [14, 15, 16, 17, 18, 19, 20, 21, 22, 23, 24, 25, 26, 27, 28, 29, 30, 31, 32, 33, 34, 35, 36, 37, 38] (by decide +kernel) (by decide +kernel)
set_option maxRecDepth 20000 in
theorem gX2_page_X2_where : GoodIn wsX2_page (wsV RX2 131 RX2 yX2_where wsX2_where) := goodIn_app (goodIn_of _ (by decide +kernel)) ggX2_page_X2_where
theorem dX2_page_0 : decode cX2_page 0 = .ok (.aload_n 0, 1) := by decide +kernel
theorem dX2_page_1 : decode cX2_page 1 = .ok (.iconst 0, 1) := by decide +kernel
theorem dX2_page_2 : decode cX2_page 2 = .ok (.putfield 59, 3) := by decide +kernel
theorem dX2_page_5 : decode cX2_page 5 = .ok (.aload_n 0, 1) := by decide +kernel
theorem dX2_page_6 : decode cX2_page 6 = .ok (.iload_n 1, 1) := by decide +kernel
theorem dX2_page_7 : decode cX2_page 7 = .ok (.invokevirtual 128, 3) := by decide +kernel
theorem dX2_page_10 : decode cX2_page 10 = .ok (.ifCond .eq 7, 3) := by decide +kernel
theorem dX2_page_13 : decode cX2_page 13 = .ok (.iconst (-1), 1) := by decide +kernel
theorem dX2_page_14 : decode cX2_page 14 = .ok (.goto 26, 3) := by decide +kernel
theorem dX2_page_17 : decode cX2_page 17 = .ok (.iload_n 2, 1) := by decide +kernel
theorem dX2_page_18 : decode cX2_page 18 = .ok (.ifCond .eq 14, 3) := by decide +kernel
theorem dX2_page_21 : decode cX2_page 21 = .ok (.aload_n 0, 1) := by decide +kernel
theorem dX2_page_22 : decode cX2_page 22 = .ok (.iload_n 1, 1) := by decide +kernel
theorem dX2_page_23 : decode cX2_page 23 = .ok (.invokevirtual 131, 3) := by decide +kernel
theorem dX2_page_26 : decode cX2_page 26 = .ok (.bipush 100, 2) := by decide +kernel
theorem dX2_page_28 : decode cX2_page 28 = .ok (.irem, 1) := by decide +kernel
theorem dX2_page_29 : decode cX2_page 29 = .ok (.goto 11, 3) := by decide +kernel
theorem dX2_page_32 : decode cX2_page 32 = .ok (.aload_n 0, 1) := by decide +kernel
theorem dX2_page_33 : decode cX2_page 33 = .ok (.iload_n 1, 1) := by decide +kernel
theorem dX2_page_34 : decode cX2_page 34 = .ok (.invokevirtual 131, 3) := by decide +kernel
theorem dX2_page_37 : decode cX2_page 37 = .ok (.bipush 100, 2) := by decide +kernel
theorem dX2_page_39 : decode cX2_page 39 = .ok (.idiv, 1) := by decide +kernel
theorem dX2_page_40 : decode cX2_page 40 = .ok (.ireturn, 1) := by decide +kernel
set_option maxRecDepth 20000 in
theorem ggX2_noSheet_X2_tell : GoodIn wsX2_noSheet wsX2_tell := goodIn_r _ [7, 8, 9, 10, 11, 12, 13, 14, 15, 6, 16, 17, 18, 19, 20, 21, 22, 23, 24, 25, 26, 27, 28, 29, 30, 31, 32, 33, 34, 35, 36, 37, 38, 39, 40, 41, 42, 43, 44, 45, 46, 47, 48, 49, 50, 51, 52, 53] (by decide +kernel) (by decide +kernel)
set_option maxRecDepth 20000 in
theorem gX2_noSheet_X2_tell : GoodIn wsX2_noSheet (wsV RX2 95 RX2 yX2_tell wsX2_tell) := goodIn_app (goodIn_of _ (by decide +kernel)) ggX2_noSheet_X2_tell
theorem dX2_noSheet_0 : decode cX2_noSheet 0 = .ok (.iconst 0, 1) := by decide +kernel
theorem dX2_noSheet_1 : decode cX2_noSheet 1 = .ok (.istore_n 1, 1) := by decide +kernel
theorem dX2_noSheet_2 : decode cX2_noSheet 2 = .ok (.iconst 0, 1) := by decide +kernel
theorem dX2_noSheet_3 : decode cX2_noSheet 3 = .ok (.istore_n 2, 1) := by decide +kernel
theorem dX2_noSheet_4 : decode cX2_noSheet 4 = .ok (.iload_n 2, 1) := by decide +kernel
theorem dX2_noSheet_5 : decode cX2_noSheet 5 = .ok (.aload_n 0, 1) := by decide +kernel
theorem dX2_noSheet_6 : decode cX2_noSheet 6 = .ok (.getfield 69, 3) := by decide +kernel
theorem dX2_noSheet_9 : decode cX2_noSheet 9 = .ok (.if_icmp .ge 32, 3) := by decide +kernel
theorem dX2_noSheet_12 : decode cX2_noSheet 12 = .ok (.iload_n 1, 1) := by decide +kernel
theorem dX2_noSheet_13 : decode cX2_noSheet 13 = .ok (.ifCond .ne 16, 3) := by decide +kernel
theorem dX2_noSheet_16 : decode cX2_noSheet 16 = .ok (.aload_n 0, 1) := by decide +kernel
theorem dX2_noSheet_17 : decode cX2_noSheet 17 = .ok (.aload_n 0, 1) := by decide +kernel
theorem dX2_noSheet_18 : decode cX2_noSheet 18 = .ok (.getfield 40, 3) := by decide +kernel
theorem dX2_noSheet_21 : decode cX2_noSheet 21 = .ok (.iload_n 2, 1) := by decide +kernel
theorem dX2_noSheet_22 : decode cX2_noSheet 22 = .ok (.iaload, 1) := by decide +kernel
theorem dX2_noSheet_23 : decode cX2_noSheet 23 = .ok (.invokevirtual 95, 3) := by decide +kernel
theorem dX2_noSheet_26 : decode cX2_noSheet 26 = .ok (.ifCond .ne 7, 3) := by decide +kernel
theorem dX2_noSheet_29 : decode cX2_noSheet 29 = .ok (.iconst 1, 1) := by decide +kernel
theorem dX2_noSheet_30 : decode cX2_noSheet 30 = .ok (.goto 4, 3) := by decide +kernel
theorem dX2_noSheet_33 : decode cX2_noSheet 33 = .ok (.iconst 0, 1) := by decide +kernel
theorem dX2_noSheet_34 : decode cX2_noSheet 34 = .ok (.istore_n 1, 1) := by decide +kernel
theorem dX2_noSheet_35 : decode cX2_noSheet 35 = .ok (.iinc 2 1, 3) := by decide +kernel
theorem dX2_noSheet_38 : decode cX2_noSheet 38 = .ok (.goto (-34), 3) := by decide +kernel
theorem dX2_noSheet_41 : decode cX2_noSheet 41 = .ok (.iload_n 1, 1) := by decide +kernel
theorem dX2_noSheet_42 : decode cX2_noSheet 42 = .ok (.ireturn, 1) := by decide +kernel
theorem dX2_ahead_0 : decode cX2_ahead 0 = .ok (.iconst 0, 1) := by decide +kernel
theorem dX2_ahead_1 : decode cX2_ahead 1 = .ok (.istore_n 3, 1) := by decide +kernel
theorem dX2_ahead_2 : decode cX2_ahead 2 = .ok (.iconst 0, 1) := by decide +kernel
theorem dX2_ahead_3 : decode cX2_ahead 3 = .ok (.istore 4, 2) := by decide +kernel
theorem dX2_ahead_5 : decode cX2_ahead 5 = .ok (.iload 4, 2) := by decide +kernel
theorem dX2_ahead_7 : decode cX2_ahead 7 = .ok (.iload_n 2, 1) := by decide +kernel
theorem dX2_ahead_8 : decode cX2_ahead 8 = .ok (.if_icmp .ge 28, 3) := by decide +kernel
theorem dX2_ahead_11 : decode cX2_ahead 11 = .ok (.iload_n 3, 1) := by decide +kernel
theorem dX2_ahead_12 : decode cX2_ahead 12 = .ok (.aload_n 0, 1) := by decide +kernel
theorem dX2_ahead_13 : decode cX2_ahead 13 = .ok (.getfield 40, 3) := by decide +kernel
theorem dX2_ahead_16 : decode cX2_ahead 16 = .ok (.iload 4, 2) := by decide +kernel
theorem dX2_ahead_18 : decode cX2_ahead 18 = .ok (.iaload, 1) := by decide +kernel
theorem dX2_ahead_19 : decode cX2_ahead 19 = .ok (.iload_n 1, 1) := by decide +kernel
theorem dX2_ahead_20 : decode cX2_ahead 20 = .ok (.if_icmp .ne 7, 3) := by decide +kernel
theorem dX2_ahead_23 : decode cX2_ahead 23 = .ok (.iconst 1, 1) := by decide +kernel
theorem dX2_ahead_24 : decode cX2_ahead 24 = .ok (.goto 4, 3) := by decide +kernel
theorem dX2_ahead_27 : decode cX2_ahead 27 = .ok (.iconst 0, 1) := by decide +kernel
theorem dX2_ahead_28 : decode cX2_ahead 28 = .ok (.iadd, 1) := by decide +kernel
theorem dX2_ahead_29 : decode cX2_ahead 29 = .ok (.istore_n 3, 1) := by decide +kernel
theorem dX2_ahead_30 : decode cX2_ahead 30 = .ok (.iinc 4 1, 3) := by decide +kernel
theorem dX2_ahead_33 : decode cX2_ahead 33 = .ok (.goto (-28), 3) := by decide +kernel
theorem dX2_ahead_36 : decode cX2_ahead 36 = .ok (.iload_n 3, 1) := by decide +kernel
theorem dX2_ahead_37 : decode cX2_ahead 37 = .ok (.ireturn, 1) := by decide +kernel
set_option maxRecDepth 20000 in
theorem ggX2_variantAt_X2_ahead : GoodIn wsX2_variantAt wsX2_ahead := goodIn_r _ [8, 1, 38, 39, 40, 41, 42, 43, 44, 45, 46, 47, 48, 49, 50, 51, 52, 53, 54, 55, 56, 57, 58] (by decide +kernel) (by decide +kernel)
set_option maxRecDepth 20000 in
theorem gX2_variantAt_X2_ahead : GoodIn wsX2_variantAt (wsV RX2 134 RX2 yX2_ahead wsX2_ahead) := goodIn_app (goodIn_of _ (by decide +kernel)) ggX2_variantAt_X2_ahead
set_option maxRecDepth 20000 in
theorem ggX2_variantAt_X2_tell : GoodIn wsX2_variantAt wsX2_tell := goodIn_r _ [12, 13, 14, 15, 16, 17, 18, 19, 20, 7, 21, 22, 23, 24, 25, 26, 27, 28, 29, 30, 31, 32, 33, 34, 35, 36, 37, 38, 39, 40, 41, 42, 43, 44, 45, 46, 47, 48, 49, 50, 51, 52, 53, 54, 55, 56, 57, 58] (by decide +kernel) (by decide +kernel)
set_option maxRecDepth 20000 in
theorem gX2_variantAt_X2_tell : GoodIn wsX2_variantAt (wsV RX2 95 RX2 yX2_tell wsX2_tell) := goodIn_app (goodIn_of _ (by decide +kernel)) ggX2_variantAt_X2_tell
theorem dX2_variantAt_0 : decode cX2_variantAt 0 = .ok (.aload_n 0, 1) := by decide +kernel
theorem dX2_variantAt_1 : decode cX2_variantAt 1 = .ok (.getfield 40, 3) := by decide +kernel
theorem dX2_variantAt_4 : decode cX2_variantAt 4 = .ok (.iload_n 2, 1) := by decide +kernel
theorem dX2_variantAt_5 : decode cX2_variantAt 5 = .ok (.iaload, 1) := by decide +kernel
theorem dX2_variantAt_6 : decode cX2_variantAt 6 = .ok (.istore_n 3, 1) := by decide +kernel
theorem dX2_variantAt_7 : decode cX2_variantAt 7 = .ok (.iload_n 1, 1) := by decide +kernel
theorem dX2_variantAt_8 : decode cX2_variantAt 8 = .ok (.aload_n 0, 1) := by decide +kernel
theorem dX2_variantAt_9 : decode cX2_variantAt 9 = .ok (.iload_n 3, 1) := by decide +kernel
theorem dX2_variantAt_10 : decode cX2_variantAt 10 = .ok (.aload_n 0, 1) := by decide +kernel
theorem dX2_variantAt_11 : decode cX2_variantAt 11 = .ok (.getfield 69, 3) := by decide +kernel
theorem dX2_variantAt_14 : decode cX2_variantAt 14 = .ok (.invokevirtual 134, 3) := by decide +kernel
theorem dX2_variantAt_17 : decode cX2_variantAt 17 = .ok (.imul, 1) := by decide +kernel
theorem dX2_variantAt_18 : decode cX2_variantAt 18 = .ok (.aload_n 0, 1) := by decide +kernel
theorem dX2_variantAt_19 : decode cX2_variantAt 19 = .ok (.iload_n 3, 1) := by decide +kernel
theorem dX2_variantAt_20 : decode cX2_variantAt 20 = .ok (.iload_n 2, 1) := by decide +kernel
theorem dX2_variantAt_21 : decode cX2_variantAt 21 = .ok (.invokevirtual 134, 3) := by decide +kernel
theorem dX2_variantAt_24 : decode cX2_variantAt 24 = .ok (.iadd, 1) := by decide +kernel
theorem dX2_variantAt_25 : decode cX2_variantAt 25 = .ok (.aload_n 0, 1) := by decide +kernel
theorem dX2_variantAt_26 : decode cX2_variantAt 26 = .ok (.getfield 25, 3) := by decide +kernel
theorem dX2_variantAt_29 : decode cX2_variantAt 29 = .ok (.iload_n 3, 1) := by decide +kernel
theorem dX2_variantAt_30 : decode cX2_variantAt 30 = .ok (.iaload, 1) := by decide +kernel
theorem dX2_variantAt_31 : decode cX2_variantAt 31 = .ok (.iadd, 1) := by decide +kernel
theorem dX2_variantAt_32 : decode cX2_variantAt 32 = .ok (.aload_n 0, 1) := by decide +kernel
theorem dX2_variantAt_33 : decode cX2_variantAt 33 = .ok (.iload_n 3, 1) := by decide +kernel
theorem dX2_variantAt_34 : decode cX2_variantAt 34 = .ok (.invokevirtual 95, 3) := by decide +kernel
theorem dX2_variantAt_37 : decode cX2_variantAt 37 = .ok (.irem, 1) := by decide +kernel
theorem dX2_variantAt_38 : decode cX2_variantAt 38 = .ok (.ireturn, 1) := by decide +kernel
set_option maxRecDepth 20000 in
theorem ggX2_noNumber_X2_in : GoodIn wsX2_noNumber wsX2_in := goodIn_r _ [5] (by decide +kernel) (by decide +kernel)
set_option maxRecDepth 20000 in
theorem gX2_noNumber_X2_in : GoodIn wsX2_noNumber (va_wsS RX2 65 yX2_in wsX2_in) := goodIn_app (goodIn_of _ (by decide +kernel)) ggX2_noNumber_X2_in
theorem dX2_noNumber_0 : decode cX2_noNumber 0 = .ok (.iload_n 0, 1) := by decide +kernel
theorem dX2_noNumber_1 : decode cX2_noNumber 1 = .ok (.i2l, 1) := by decide +kernel
theorem dX2_noNumber_2 : decode cX2_noNumber 2 = .ok (.lconst 0, 1) := by decide +kernel
theorem dX2_noNumber_3 : decode cX2_noNumber 3 = .ok (.ldc2_w 105, 3) := by decide +kernel
theorem dX2_noNumber_6 : decode cX2_noNumber 6 = .ok (.invokestatic 65, 3) := by decide +kernel
theorem dX2_noNumber_9 : decode cX2_noNumber 9 = .ok (.ifCond .ne 7, 3) := by decide +kernel
theorem dX2_noNumber_12 : decode cX2_noNumber 12 = .ok (.iconst 1, 1) := by decide +kernel
theorem dX2_noNumber_13 : decode cX2_noNumber 13 = .ok (.goto 4, 3) := by decide +kernel
theorem dX2_noNumber_16 : decode cX2_noNumber 16 = .ok (.iconst 0, 1) := by decide +kernel
theorem dX2_noNumber_17 : decode cX2_noNumber 17 = .ok (.ireturn, 1) := by decide +kernel
set_option maxRecDepth 20000 in
theorem ggX2_sheet_X2_noPlace : GoodIn wsX2_sheet wsX2_noPlace := goodIn_r _ [6, 7, 8, 9, 5, 10, 55, 56, 57, 58, 59, 60, 61, 62, 63, 64, 65, 66, 67, 68, 69, 70, 71, 72, 73, 74, 75] (by decide +kernel) (by decide +kernel)
set_option maxRecDepth 20000 in
theorem gX2_sheet_X2_noPlace : GoodIn wsX2_sheet (wsV RX2 128 RX2 yX2_noPlace wsX2_noPlace) := goodIn_app (goodIn_of _ (by decide +kernel)) ggX2_sheet_X2_noPlace
set_option maxRecDepth 20000 in
theorem ggX2_sheet_X2_noNumber : GoodIn wsX2_sheet wsX2_noNumber := goodIn_r _ [13, 14, 8, 9, 5, 10] (by decide +kernel) (by decide +kernel)
set_option maxRecDepth 20000 in
theorem gX2_sheet_X2_noNumber : GoodIn wsX2_sheet (va_wsS RX2 137 yX2_noNumber wsX2_noNumber) := goodIn_app (goodIn_of _ (by decide +kernel)) ggX2_sheet_X2_noNumber
set_option maxRecDepth 20000 in
theorem ggX2_sheet_X2_noSheet : GoodIn wsX2_sheet wsX2_noSheet := goodIn_r _ [18, 7, 19, 20, 21, 22, 5, 23, 24, 25, 26, 27, 28, 29, 30, 31, 32, 33, 34, 35, 36, 37, 8, 9, 10, 38, 39, 40, 41, 42, 43, 44, 45, 55, 56, 57, 58, 59, 60, 61, 62, 63, 64, 65, 66, 67, 68, 69, 70, 71, 72, 73, 74, 75] (by decide +kernel) (by decide +kernel)
set_option maxRecDepth 20000 in
theorem gX2_sheet_X2_noSheet : GoodIn wsX2_sheet (wsV RX2 140 RX2 yX2_noSheet wsX2_noSheet) := goodIn_app (goodIn_of _ (by decide +kernel)) ggX2_sheet_X2_noSheet
set_option maxRecDepth 20000 in
theorem ggX2_sheet_X2_variantAt : GoodIn wsX2_sheet wsX2_variantAt := goodIn_r _ [49, 19, 7, 50, 51, 52, 53, 5, 54, 20, 21, 22, 23, 24, 25, 26, 27, 28, 29, 30, 31, 32, 33, 34, 35, 36, 37, 8, 9, 10, 38, 39, 40, 41, 42, 43, 44, 45, 55, 56, 57, 58, 59, 60, 61, 62, 63, 64, 65, 66, 67, 68, 69, 70, 71, 72, 73, 74, 75] (by decide +kernel) (by decide +kernel)
set_option maxRecDepth 20000 in
theorem gX2_sheet_X2_variantAt : GoodIn wsX2_sheet (wsV RX2 144 RX2 yX2_variantAt wsX2_variantAt) := goodIn_app (goodIn_of _ (by decide +kernel)) ggX2_sheet_X2_variantAt
theorem dX2_sheet_0 : decode cX2_sheet 0 = .ok (.aload_n 0, 1) := by decide +kernel
theorem dX2_sheet_1 : decode cX2_sheet 1 = .ok (.iconst 0, 1) := by decide +kernel
theorem dX2_sheet_2 : decode cX2_sheet 2 = .ok (.putfield 59, 3) := by decide +kernel
theorem dX2_sheet_5 : decode cX2_sheet 5 = .ok (.aload_n 0, 1) := by decide +kernel
theorem dX2_sheet_6 : decode cX2_sheet 6 = .ok (.iload_n 2, 1) := by decide +kernel
theorem dX2_sheet_7 : decode cX2_sheet 7 = .ok (.invokevirtual 128, 3) := by decide +kernel
theorem dX2_sheet_10 : decode cX2_sheet 10 = .ok (.ifCond .eq 7, 3) := by decide +kernel
theorem dX2_sheet_13 : decode cX2_sheet 13 = .ok (.iconst (-1), 1) := by decide +kernel
theorem dX2_sheet_14 : decode cX2_sheet 14 = .ok (.goto 33, 3) := by decide +kernel
theorem dX2_sheet_17 : decode cX2_sheet 17 = .ok (.iload_n 1, 1) := by decide +kernel
theorem dX2_sheet_18 : decode cX2_sheet 18 = .ok (.invokestatic 137, 3) := by decide +kernel
theorem dX2_sheet_21 : decode cX2_sheet 21 = .ok (.ifCond .eq 8, 3) := by decide +kernel
theorem dX2_sheet_24 : decode cX2_sheet 24 = .ok (.bipush (-2), 2) := by decide +kernel
theorem dX2_sheet_26 : decode cX2_sheet 26 = .ok (.goto 21, 3) := by decide +kernel
theorem dX2_sheet_29 : decode cX2_sheet 29 = .ok (.aload_n 0, 1) := by decide +kernel
theorem dX2_sheet_30 : decode cX2_sheet 30 = .ok (.invokevirtual 140, 3) := by decide +kernel
theorem dX2_sheet_33 : decode cX2_sheet 33 = .ok (.ifCond .eq 8, 3) := by decide +kernel
theorem dX2_sheet_36 : decode cX2_sheet 36 = .ok (.bipush (-3), 2) := by decide +kernel
theorem dX2_sheet_38 : decode cX2_sheet 38 = .ok (.goto 9, 3) := by decide +kernel
theorem dX2_sheet_41 : decode cX2_sheet 41 = .ok (.aload_n 0, 1) := by decide +kernel
theorem dX2_sheet_42 : decode cX2_sheet 42 = .ok (.iload_n 1, 1) := by decide +kernel
theorem dX2_sheet_43 : decode cX2_sheet 43 = .ok (.iload_n 2, 1) := by decide +kernel
theorem dX2_sheet_44 : decode cX2_sheet 44 = .ok (.invokevirtual 144, 3) := by decide +kernel
theorem dX2_sheet_47 : decode cX2_sheet 47 = .ok (.ireturn, 1) := by decide +kernel
set_option maxRecDepth 20000 in
theorem ggX2_answerAt_X2_variantAt : GoodIn wsX2_answerAt wsX2_variantAt := goodIn_r _ [6, 1, 7, 8, 9, 10, 11, 5, 12, 13, 14, 15, 16, 17, 18, 19, 20, 21, 22, 23, 24, 25, 26, 27, 28, 29, 30, 31, 32, 33, 34, 35, 36, 37, 38, 39, 40, 41, 50, 51, 52, 53, 54, 55, 56, 57, 58, 59, 60, 61, 62, 63, 64, 65, 66, 67, 68, 69, 70] (by decide +kernel) (by decide +kernel)
set_option maxRecDepth 20000 in
theorem gX2_answerAt_X2_variantAt : GoodIn wsX2_answerAt (wsV RX2 144 RX2 yX2_variantAt wsX2_variantAt) := goodIn_app (goodIn_of _ (by decide +kernel)) ggX2_answerAt_X2_variantAt
set_option maxRecDepth 20000 in
theorem ggX2_answerAt_X2_rightAt : GoodIn wsX2_answerAt wsX2_rightAt := goodIn_r _ [45, 26, 46, 47, 48, 5, 49, 20, 28, 29, 30, 50, 51, 52, 53, 54, 55, 56, 57, 58, 59, 60, 61, 62, 63, 64, 65, 66, 67, 68, 69, 70] (by decide +kernel) (by decide +kernel)
set_option maxRecDepth 20000 in
theorem gX2_answerAt_X2_rightAt : GoodIn wsX2_answerAt (wsV RX2 120 RX2 yX2_rightAt wsX2_rightAt) := goodIn_app (goodIn_of _ (by decide +kernel)) ggX2_answerAt_X2_rightAt
theorem dX2_answerAt_0 : decode cX2_answerAt 0 = .ok (.aload_n 0, 1) := by decide +kernel
theorem dX2_answerAt_1 : decode cX2_answerAt 1 = .ok (.aload_n 0, 1) := by decide +kernel
theorem dX2_answerAt_2 : decode cX2_answerAt 2 = .ok (.getfield 40, 3) := by decide +kernel
theorem dX2_answerAt_5 : decode cX2_answerAt 5 = .ok (.iload_n 2, 1) := by decide +kernel
theorem dX2_answerAt_6 : decode cX2_answerAt 6 = .ok (.iaload, 1) := by decide +kernel
theorem dX2_answerAt_7 : decode cX2_answerAt 7 = .ok (.aload_n 0, 1) := by decide +kernel
theorem dX2_answerAt_8 : decode cX2_answerAt 8 = .ok (.iload_n 1, 1) := by decide +kernel
theorem dX2_answerAt_9 : decode cX2_answerAt 9 = .ok (.iload_n 2, 1) := by decide +kernel
theorem dX2_answerAt_10 : decode cX2_answerAt 10 = .ok (.invokevirtual 144, 3) := by decide +kernel
theorem dX2_answerAt_13 : decode cX2_answerAt 13 = .ok (.invokevirtual 120, 3) := by decide +kernel
theorem dX2_answerAt_16 : decode cX2_answerAt 16 = .ok (.ireturn, 1) := by decide +kernel
set_option maxRecDepth 20000 in
theorem ggX2_answer_X2_noPlace : GoodIn wsX2_answer wsX2_noPlace := goodIn_r _ [6, 7, 8, 9, 5, 10, 67, 68, 69, 70, 71, 72, 73, 74, 75, 76, 77, 78, 79, 80, 81, 82, 83, 84, 85, 86, 87] (by decide +kernel) (by decide +kernel)
set_option maxRecDepth 20000 in
theorem gX2_answer_X2_noPlace : GoodIn wsX2_answer (wsV RX2 128 RX2 yX2_noPlace wsX2_noPlace) := goodIn_app (goodIn_of _ (by decide +kernel)) ggX2_answer_X2_noPlace
set_option maxRecDepth 20000 in
theorem ggX2_answer_X2_noNumber : GoodIn wsX2_answer wsX2_noNumber := goodIn_r _ [13, 14, 8, 9, 5, 10] (by decide +kernel) (by decide +kernel)
set_option maxRecDepth 20000 in
theorem gX2_answer_X2_noNumber : GoodIn wsX2_answer (va_wsS RX2 137 yX2_noNumber wsX2_noNumber) := goodIn_app (goodIn_of _ (by decide +kernel)) ggX2_answer_X2_noNumber
set_option maxRecDepth 20000 in
theorem ggX2_answer_X2_noSheet : GoodIn wsX2_answer wsX2_noSheet := goodIn_r _ [18, 7, 19, 20, 21, 22, 5, 23, 24, 25, 26, 27, 28, 29, 30, 31, 32, 33, 34, 35, 36, 37, 8, 9, 10, 38, 39, 40, 41, 42, 43, 44, 45, 67, 68, 69, 70, 71, 72, 73, 74, 75, 76, 77, 78, 79, 80, 81, 82, 83, 84, 85, 86, 87] (by decide +kernel) (by decide +kernel)
set_option maxRecDepth 20000 in
theorem gX2_answer_X2_noSheet : GoodIn wsX2_answer (wsV RX2 140 RX2 yX2_noSheet wsX2_noSheet) := goodIn_app (goodIn_of _ (by decide +kernel)) ggX2_answer_X2_noSheet
set_option maxRecDepth 20000 in
theorem ggX2_answer_X2_answerAt : GoodIn wsX2_answer wsX2_answerAt := goodIn_r _ [49, 19, 50, 51, 52, 5, 53, 7, 54, 55, 56, 57, 58, 20, 21, 22, 23, 24, 25, 26, 27, 28, 29, 30, 31, 32, 33, 34, 35, 36, 37, 8, 9, 10, 38, 39, 40, 41, 42, 43, 44, 45, 59, 60, 61, 62, 63, 64, 65, 66, 67, 68, 69, 70, 71, 72, 73, 74, 75, 76, 77, 78, 79, 80, 81, 82, 83, 84, 85, 86, 87] (by decide +kernel) (by decide +kernel)
set_option maxRecDepth 20000 in
theorem gX2_answer_X2_answerAt : GoodIn wsX2_answer (wsV RX2 147 RX2 yX2_answerAt wsX2_answerAt) := goodIn_app (goodIn_of _ (by decide +kernel)) ggX2_answer_X2_answerAt
theorem dX2_answer_0 : decode cX2_answer 0 = .ok (.aload_n 0, 1) := by decide +kernel
theorem dX2_answer_1 : decode cX2_answer 1 = .ok (.iconst 0, 1) := by decide +kernel
theorem dX2_answer_2 : decode cX2_answer 2 = .ok (.putfield 59, 3) := by decide +kernel
theorem dX2_answer_5 : decode cX2_answer 5 = .ok (.aload_n 0, 1) := by decide +kernel
theorem dX2_answer_6 : decode cX2_answer 6 = .ok (.iload_n 2, 1) := by decide +kernel
theorem dX2_answer_7 : decode cX2_answer 7 = .ok (.invokevirtual 128, 3) := by decide +kernel
theorem dX2_answer_10 : decode cX2_answer 10 = .ok (.ifCond .eq 7, 3) := by decide +kernel
theorem dX2_answer_13 : decode cX2_answer 13 = .ok (.iconst (-1), 1) := by decide +kernel
theorem dX2_answer_14 : decode cX2_answer 14 = .ok (.goto 33, 3) := by decide +kernel
theorem dX2_answer_17 : decode cX2_answer 17 = .ok (.iload_n 1, 1) := by decide +kernel
theorem dX2_answer_18 : decode cX2_answer 18 = .ok (.invokestatic 137, 3) := by decide +kernel
theorem dX2_answer_21 : decode cX2_answer 21 = .ok (.ifCond .eq 8, 3) := by decide +kernel
theorem dX2_answer_24 : decode cX2_answer 24 = .ok (.bipush (-2), 2) := by decide +kernel
theorem dX2_answer_26 : decode cX2_answer 26 = .ok (.goto 21, 3) := by decide +kernel
theorem dX2_answer_29 : decode cX2_answer 29 = .ok (.aload_n 0, 1) := by decide +kernel
theorem dX2_answer_30 : decode cX2_answer 30 = .ok (.invokevirtual 140, 3) := by decide +kernel
theorem dX2_answer_33 : decode cX2_answer 33 = .ok (.ifCond .eq 8, 3) := by decide +kernel
theorem dX2_answer_36 : decode cX2_answer 36 = .ok (.bipush (-3), 2) := by decide +kernel
theorem dX2_answer_38 : decode cX2_answer 38 = .ok (.goto 9, 3) := by decide +kernel
theorem dX2_answer_41 : decode cX2_answer 41 = .ok (.aload_n 0, 1) := by decide +kernel
theorem dX2_answer_42 : decode cX2_answer 42 = .ok (.iload_n 1, 1) := by decide +kernel
theorem dX2_answer_43 : decode cX2_answer 43 = .ok (.iload_n 2, 1) := by decide +kernel
theorem dX2_answer_44 : decode cX2_answer 44 = .ok (.invokevirtual 147, 3) := by decide +kernel
theorem dX2_answer_47 : decode cX2_answer 47 = .ok (.ireturn, 1) := by decide +kernel
set_option maxRecDepth 20000 in
theorem ggX2_code_X2_noNumber : GoodIn wsX2_code wsX2_noNumber := goodIn_r _ [6, 7, 8, 9, 5, 10] (by decide +kernel) (by decide +kernel)
set_option maxRecDepth 20000 in
theorem gX2_code_X2_noNumber : GoodIn wsX2_code (va_wsS RX2 137 yX2_noNumber wsX2_noNumber) := goodIn_app (goodIn_of _ (by decide +kernel)) ggX2_code_X2_noNumber
set_option maxRecDepth 20000 in
theorem ggX2_code_X2_noSheet : GoodIn wsX2_code wsX2_noSheet := goodIn_r _ [14, 2, 15, 16, 17, 18, 5, 19, 20, 21, 22, 23, 24, 25, 26, 27, 28, 29, 30, 31, 32, 33, 8, 9, 10, 34, 35, 36, 37, 38, 39, 40, 41, 63, 64, 65, 66, 67, 68, 69, 70, 71, 72, 73, 74, 75, 76, 77, 78, 79, 80, 81, 82, 83] (by decide +kernel) (by decide +kernel)
set_option maxRecDepth 20000 in
theorem gX2_code_X2_noSheet : GoodIn wsX2_code (wsV RX2 140 RX2 yX2_noSheet wsX2_noSheet) := goodIn_app (goodIn_of _ (by decide +kernel)) ggX2_code_X2_noSheet
set_option maxRecDepth 20000 in
theorem ggX2_code_X2_answerAt : GoodIn wsX2_code wsX2_answerAt := goodIn_r _ [45, 15, 46, 47, 48, 5, 49, 2, 50, 51, 52, 53, 54, 16, 17, 18, 19, 20, 21, 22, 23, 24, 25, 26, 27, 28, 29, 30, 31, 32, 33, 8, 9, 10, 34, 35, 36, 37, 38, 39, 40, 41, 55, 56, 57, 58, 59, 60, 61, 62, 63, 64, 65, 66, 67, 68, 69, 70, 71, 72, 73, 74, 75, 76, 77, 78, 79, 80, 81, 82, 83] (by decide +kernel) (by decide +kernel)
set_option maxRecDepth 20000 in
theorem gX2_code_X2_answerAt : GoodIn wsX2_code (wsV RX2 147 RX2 yX2_answerAt wsX2_answerAt) := goodIn_app (goodIn_of _ (by decide +kernel)) ggX2_code_X2_answerAt
theorem dX2_code_0 : decode cX2_code 0 = .ok (.aload_n 0, 1) := by decide +kernel
theorem dX2_code_1 : decode cX2_code 1 = .ok (.iconst 0, 1) := by decide +kernel
theorem dX2_code_2 : decode cX2_code 2 = .ok (.putfield 59, 3) := by decide +kernel
theorem dX2_code_5 : decode cX2_code 5 = .ok (.iload_n 1, 1) := by decide +kernel
theorem dX2_code_6 : decode cX2_code 6 = .ok (.invokestatic 137, 3) := by decide +kernel
theorem dX2_code_9 : decode cX2_code 9 = .ok (.ifCond .eq 6, 3) := by decide +kernel
theorem dX2_code_12 : decode cX2_code 12 = .ok (.bipush (-2), 2) := by decide +kernel
theorem dX2_code_14 : decode cX2_code 14 = .ok (.ireturn, 1) := by decide +kernel
theorem dX2_code_15 : decode cX2_code 15 = .ok (.aload_n 0, 1) := by decide +kernel
theorem dX2_code_16 : decode cX2_code 16 = .ok (.invokevirtual 140, 3) := by decide +kernel
theorem dX2_code_19 : decode cX2_code 19 = .ok (.ifCond .eq 6, 3) := by decide +kernel
theorem dX2_code_22 : decode cX2_code 22 = .ok (.bipush (-3), 2) := by decide +kernel
theorem dX2_code_24 : decode cX2_code 24 = .ok (.ireturn, 1) := by decide +kernel
theorem dX2_code_25 : decode cX2_code 25 = .ok (.iconst 0, 1) := by decide +kernel
theorem dX2_code_26 : decode cX2_code 26 = .ok (.istore_n 2, 1) := by decide +kernel
theorem dX2_code_27 : decode cX2_code 27 = .ok (.iconst 0, 1) := by decide +kernel
theorem dX2_code_28 : decode cX2_code 28 = .ok (.istore_n 3, 1) := by decide +kernel
end
section
theorem dX2_code_29 : decode cX2_code 29 = .ok (.iload_n 3, 1) := by decide +kernel
theorem dX2_code_30 : decode cX2_code 30 = .ok (.aload_n 0, 1) := by decide +kernel
theorem dX2_code_31 : decode cX2_code 31 = .ok (.getfield 69, 3) := by decide +kernel
theorem dX2_code_34 : decode cX2_code 34 = .ok (.if_icmp .ge 22, 3) := by decide +kernel
theorem dX2_code_37 : decode cX2_code 37 = .ok (.iload_n 2, 1) := by decide +kernel
theorem dX2_code_38 : decode cX2_code 38 = .ok (.aload_n 0, 1) := by decide +kernel
theorem dX2_code_39 : decode cX2_code 39 = .ok (.iload_n 1, 1) := by decide +kernel
theorem dX2_code_40 : decode cX2_code 40 = .ok (.iload_n 3, 1) := by decide +kernel
theorem dX2_code_41 : decode cX2_code 41 = .ok (.invokevirtual 147, 3) := by decide +kernel
theorem dX2_code_44 : decode cX2_code 44 = .ok (.iload_n 3, 1) := by decide +kernel
theorem dX2_code_45 : decode cX2_code 45 = .ok (.iconst 1, 1) := by decide +kernel
theorem dX2_code_46 : decode cX2_code 46 = .ok (.iadd, 1) := by decide +kernel
theorem dX2_code_47 : decode cX2_code 47 = .ok (.imul, 1) := by decide +kernel
theorem dX2_code_48 : decode cX2_code 48 = .ok (.iadd, 1) := by decide +kernel
theorem dX2_code_49 : decode cX2_code 49 = .ok (.istore_n 2, 1) := by decide +kernel
theorem dX2_code_50 : decode cX2_code 50 = .ok (.iinc 3 1, 3) := by decide +kernel
theorem dX2_code_53 : decode cX2_code 53 = .ok (.goto (-24), 3) := by decide +kernel
theorem dX2_code_56 : decode cX2_code 56 = .ok (.iload_n 2, 1) := by decide +kernel
theorem dX2_code_57 : decode cX2_code 57 = .ok (.bipush 97, 2) := by decide +kernel
theorem dX2_code_59 : decode cX2_code 59 = .ok (.irem, 1) := by decide +kernel
theorem dX2_code_60 : decode cX2_code 60 = .ok (.ireturn, 1) := by decide +kernel
set_option maxRecDepth 20000 in
theorem ggX2_shared_X2_noNumber : GoodIn wsX2_shared wsX2_noNumber := goodIn_r _ [7, 8, 9, 10, 6, 11] (by decide +kernel) (by decide +kernel)
set_option maxRecDepth 20000 in
theorem gX2_shared_X2_noNumber : GoodIn wsX2_shared (va_wsS RX2 137 yX2_noNumber wsX2_noNumber) := goodIn_app (goodIn_of _ (by decide +kernel)) ggX2_shared_X2_noNumber
set_option maxRecDepth 20000 in
theorem ggX2_shared_X2_noSheet : GoodIn wsX2_shared wsX2_noSheet := goodIn_r _ [15, 2, 3, 16, 17, 18, 6, 19, 20, 21, 22, 23, 24, 25, 26, 27, 28, 29, 30, 31, 32, 33, 9, 10, 11, 34, 35, 36, 37, 38, 39, 40, 41, 51, 52, 53, 54, 55, 56, 57, 58, 59, 60, 61, 62, 63, 64, 65, 66, 67, 68, 69, 70, 71] (by decide +kernel) (by decide +kernel)
set_option maxRecDepth 20000 in
theorem gX2_shared_X2_noSheet : GoodIn wsX2_shared (wsV RX2 140 RX2 yX2_noSheet wsX2_noSheet) := goodIn_app (goodIn_of _ (by decide +kernel)) ggX2_shared_X2_noSheet
set_option maxRecDepth 20000 in
theorem ggX2_shared_X2_variantAt : GoodIn wsX2_shared wsX2_variantAt := goodIn_r _ [45, 3, 2, 46, 47, 48, 49, 6, 50, 16, 17, 18, 19, 20, 21, 22, 23, 24, 25, 26, 27, 28, 29, 30, 31, 32, 33, 9, 10, 11, 34, 35, 36, 37, 38, 39, 40, 41, 51, 52, 53, 54, 55, 56, 57, 58, 59, 60, 61, 62, 63, 64, 65, 66, 67, 68, 69, 70, 71] (by decide +kernel) (by decide +kernel)
set_option maxRecDepth 20000 in
theorem gX2_shared_X2_variantAt : GoodIn wsX2_shared (wsV RX2 144 RX2 yX2_variantAt wsX2_variantAt) := goodIn_app (goodIn_of _ (by decide +kernel)) ggX2_shared_X2_variantAt
theorem dX2_shared_0 : decode cX2_shared 0 = .ok (.aload_n 0, 1) := by decide +kernel
theorem dX2_shared_1 : decode cX2_shared 1 = .ok (.iconst 0, 1) := by decide +kernel
theorem dX2_shared_2 : decode cX2_shared 2 = .ok (.putfield 59, 3) := by decide +kernel
theorem dX2_shared_5 : decode cX2_shared 5 = .ok (.iload_n 1, 1) := by decide +kernel
theorem dX2_shared_6 : decode cX2_shared 6 = .ok (.invokestatic 137, 3) := by decide +kernel
theorem dX2_shared_9 : decode cX2_shared 9 = .ok (.ifCond .ne 10, 3) := by decide +kernel
theorem dX2_shared_12 : decode cX2_shared 12 = .ok (.iload_n 2, 1) := by decide +kernel
theorem dX2_shared_13 : decode cX2_shared 13 = .ok (.invokestatic 137, 3) := by decide +kernel
theorem dX2_shared_16 : decode cX2_shared 16 = .ok (.ifCond .eq 6, 3) := by decide +kernel
theorem dX2_shared_19 : decode cX2_shared 19 = .ok (.bipush (-2), 2) := by decide +kernel
theorem dX2_shared_21 : decode cX2_shared 21 = .ok (.ireturn, 1) := by decide +kernel
theorem dX2_shared_22 : decode cX2_shared 22 = .ok (.aload_n 0, 1) := by decide +kernel
theorem dX2_shared_23 : decode cX2_shared 23 = .ok (.invokevirtual 140, 3) := by decide +kernel
theorem dX2_shared_26 : decode cX2_shared 26 = .ok (.ifCond .eq 6, 3) := by decide +kernel
theorem dX2_shared_29 : decode cX2_shared 29 = .ok (.bipush (-3), 2) := by decide +kernel
theorem dX2_shared_31 : decode cX2_shared 31 = .ok (.ireturn, 1) := by decide +kernel
theorem dX2_shared_32 : decode cX2_shared 32 = .ok (.iconst 0, 1) := by decide +kernel
theorem dX2_shared_33 : decode cX2_shared 33 = .ok (.istore_n 3, 1) := by decide +kernel
theorem dX2_shared_34 : decode cX2_shared 34 = .ok (.iconst 0, 1) := by decide +kernel
theorem dX2_shared_35 : decode cX2_shared 35 = .ok (.istore 4, 2) := by decide +kernel
theorem dX2_shared_37 : decode cX2_shared 37 = .ok (.iload 4, 2) := by decide +kernel
theorem dX2_shared_39 : decode cX2_shared 39 = .ok (.aload_n 0, 1) := by decide +kernel
theorem dX2_shared_40 : decode cX2_shared 40 = .ok (.getfield 69, 3) := by decide +kernel
theorem dX2_shared_43 : decode cX2_shared 43 = .ok (.if_icmp .ge 89, 3) := by decide +kernel
theorem dX2_shared_46 : decode cX2_shared 46 = .ok (.iconst 0, 1) := by decide +kernel
theorem dX2_shared_47 : decode cX2_shared 47 = .ok (.istore 5, 2) := by decide +kernel
theorem dX2_shared_49 : decode cX2_shared 49 = .ok (.iconst 0, 1) := by decide +kernel
theorem dX2_shared_50 : decode cX2_shared 50 = .ok (.istore 6, 2) := by decide +kernel
theorem dX2_shared_52 : decode cX2_shared 52 = .ok (.iload 6, 2) := by decide +kernel
theorem dX2_shared_54 : decode cX2_shared 54 = .ok (.aload_n 0, 1) := by decide +kernel
theorem dX2_shared_55 : decode cX2_shared 55 = .ok (.getfield 69, 3) := by decide +kernel
theorem dX2_shared_58 : decode cX2_shared 58 = .ok (.if_icmp .ge 55, 3) := by decide +kernel
theorem dX2_shared_61 : decode cX2_shared 61 = .ok (.iload 5, 2) := by decide +kernel
theorem dX2_shared_63 : decode cX2_shared 63 = .ok (.ifCond .ne 50, 3) := by decide +kernel
theorem dX2_shared_66 : decode cX2_shared 66 = .ok (.aload_n 0, 1) := by decide +kernel
theorem dX2_shared_67 : decode cX2_shared 67 = .ok (.getfield 40, 3) := by decide +kernel
theorem dX2_shared_70 : decode cX2_shared 70 = .ok (.iload 6, 2) := by decide +kernel
theorem dX2_shared_72 : decode cX2_shared 72 = .ok (.iaload, 1) := by decide +kernel
theorem dX2_shared_73 : decode cX2_shared 73 = .ok (.aload_n 0, 1) := by decide +kernel
theorem dX2_shared_74 : decode cX2_shared 74 = .ok (.getfield 40, 3) := by decide +kernel
theorem dX2_shared_77 : decode cX2_shared 77 = .ok (.iload 4, 2) := by decide +kernel
theorem dX2_shared_79 : decode cX2_shared 79 = .ok (.iaload, 1) := by decide +kernel
theorem dX2_shared_80 : decode cX2_shared 80 = .ok (.if_icmp .ne 24, 3) := by decide +kernel
theorem dX2_shared_83 : decode cX2_shared 83 = .ok (.aload_n 0, 1) := by decide +kernel
theorem dX2_shared_84 : decode cX2_shared 84 = .ok (.iload_n 2, 1) := by decide +kernel
theorem dX2_shared_85 : decode cX2_shared 85 = .ok (.iload 6, 2) := by decide +kernel
theorem dX2_shared_87 : decode cX2_shared 87 = .ok (.invokevirtual 144, 3) := by decide +kernel
theorem dX2_shared_90 : decode cX2_shared 90 = .ok (.aload_n 0, 1) := by decide +kernel
theorem dX2_shared_91 : decode cX2_shared 91 = .ok (.iload_n 1, 1) := by decide +kernel
theorem dX2_shared_92 : decode cX2_shared 92 = .ok (.iload 4, 2) := by decide +kernel
theorem dX2_shared_94 : decode cX2_shared 94 = .ok (.invokevirtual 144, 3) := by decide +kernel
theorem dX2_shared_97 : decode cX2_shared 97 = .ok (.if_icmp .ne 7, 3) := by decide +kernel
theorem dX2_shared_100 : decode cX2_shared 100 = .ok (.iconst 1, 1) := by decide +kernel
theorem dX2_shared_101 : decode cX2_shared 101 = .ok (.goto 4, 3) := by decide +kernel
theorem dX2_shared_104 : decode cX2_shared 104 = .ok (.iconst 0, 1) := by decide +kernel
theorem dX2_shared_105 : decode cX2_shared 105 = .ok (.istore 5, 2) := by decide +kernel
theorem dX2_shared_107 : decode cX2_shared 107 = .ok (.iinc 6 1, 3) := by decide +kernel
theorem dX2_shared_110 : decode cX2_shared 110 = .ok (.goto (-58), 3) := by decide +kernel
theorem dX2_shared_113 : decode cX2_shared 113 = .ok (.iload_n 3, 1) := by decide +kernel
theorem dX2_shared_114 : decode cX2_shared 114 = .ok (.iload 5, 2) := by decide +kernel
theorem dX2_shared_116 : decode cX2_shared 116 = .ok (.ifCond .eq 7, 3) := by decide +kernel
theorem dX2_shared_119 : decode cX2_shared 119 = .ok (.iconst 1, 1) := by decide +kernel
theorem dX2_shared_120 : decode cX2_shared 120 = .ok (.goto 4, 3) := by decide +kernel
theorem dX2_shared_123 : decode cX2_shared 123 = .ok (.iconst 0, 1) := by decide +kernel
theorem dX2_shared_124 : decode cX2_shared 124 = .ok (.iadd, 1) := by decide +kernel
theorem dX2_shared_125 : decode cX2_shared 125 = .ok (.istore_n 3, 1) := by decide +kernel
theorem dX2_shared_126 : decode cX2_shared 126 = .ok (.iinc 4 1, 3) := by decide +kernel
theorem dX2_shared_129 : decode cX2_shared 129 = .ok (.goto (-92), 3) := by decide +kernel
theorem dX2_shared_132 : decode cX2_shared 132 = .ok (.iload_n 3, 1) := by decide +kernel
theorem dX2_shared_133 : decode cX2_shared 133 = .ok (.ireturn, 1) := by decide +kernel
set_option maxRecDepth 20000 in
theorem ggX2_isApart_X2_ahead : GoodIn wsX2_isApart wsX2_ahead := goodIn_r _ [7, 8, 38, 39, 40, 41, 42, 43, 44, 45, 46, 47, 48, 49, 50, 51, 52, 53, 54, 55, 56, 57, 58] (by decide +kernel) (by decide +kernel)
set_option maxRecDepth 20000 in
theorem gX2_isApart_X2_ahead : GoodIn wsX2_isApart (wsV RX2 134 RX2 yX2_ahead wsX2_ahead) := goodIn_app (goodIn_of _ (by decide +kernel)) ggX2_isApart_X2_ahead
set_option maxRecDepth 20000 in
theorem ggX2_isApart_X2_tell : GoodIn wsX2_isApart wsX2_tell := goodIn_r _ [12, 13, 14, 15, 16, 17, 18, 19, 20, 6, 21, 22, 23, 24, 25, 26, 27, 28, 29, 30, 31, 32, 33, 34, 35, 36, 37, 38, 39, 40, 41, 42, 43, 44, 45, 46, 47, 48, 49, 50, 51, 52, 53, 54, 55, 56, 57, 58] (by decide +kernel) (by decide +kernel)
set_option maxRecDepth 20000 in
theorem gX2_isApart_X2_tell : GoodIn wsX2_isApart (wsV RX2 95 RX2 yX2_tell wsX2_tell) := goodIn_app (goodIn_of _ (by decide +kernel)) ggX2_isApart_X2_tell
theorem dX2_isApart_0 : decode cX2_isApart 0 = .ok (.iconst 1, 1) := by decide +kernel
theorem dX2_isApart_1 : decode cX2_isApart 1 = .ok (.istore_n 3, 1) := by decide +kernel
theorem dX2_isApart_2 : decode cX2_isApart 2 = .ok (.iconst 0, 1) := by decide +kernel
theorem dX2_isApart_3 : decode cX2_isApart 3 = .ok (.istore 4, 2) := by decide +kernel
theorem dX2_isApart_5 : decode cX2_isApart 5 = .ok (.iload 4, 2) := by decide +kernel
theorem dX2_isApart_7 : decode cX2_isApart 7 = .ok (.aload_n 0, 1) := by decide +kernel
theorem dX2_isApart_8 : decode cX2_isApart 8 = .ok (.getfield 62, 3) := by decide +kernel
theorem dX2_isApart_11 : decode cX2_isApart 11 = .ok (.if_icmp .ge 72, 3) := by decide +kernel
theorem dX2_isApart_14 : decode cX2_isApart 14 = .ok (.iload_n 3, 1) := by decide +kernel
theorem dX2_isApart_15 : decode cX2_isApart 15 = .ok (.ifCond .eq 68, 3) := by decide +kernel
theorem dX2_isApart_18 : decode cX2_isApart 18 = .ok (.aload_n 0, 1) := by decide +kernel
theorem dX2_isApart_19 : decode cX2_isApart 19 = .ok (.iload 4, 2) := by decide +kernel
theorem dX2_isApart_21 : decode cX2_isApart 21 = .ok (.aload_n 0, 1) := by decide +kernel
theorem dX2_isApart_22 : decode cX2_isApart 22 = .ok (.getfield 69, 3) := by decide +kernel
theorem dX2_isApart_25 : decode cX2_isApart 25 = .ok (.invokevirtual 134, 3) := by decide +kernel
theorem dX2_isApart_28 : decode cX2_isApart 28 = .ok (.istore 5, 2) := by decide +kernel
theorem dX2_isApart_30 : decode cX2_isApart 30 = .ok (.iload 5, 2) := by decide +kernel
theorem dX2_isApart_32 : decode cX2_isApart 32 = .ok (.ifCond .le 45, 3) := by decide +kernel
theorem dX2_isApart_35 : decode cX2_isApart 35 = .ok (.aload_n 0, 1) := by decide +kernel
theorem dX2_isApart_36 : decode cX2_isApart 36 = .ok (.iload 4, 2) := by decide +kernel
theorem dX2_isApart_38 : decode cX2_isApart 38 = .ok (.invokevirtual 95, 3) := by decide +kernel
theorem dX2_isApart_41 : decode cX2_isApart 41 = .ok (.istore 6, 2) := by decide +kernel
theorem dX2_isApart_43 : decode cX2_isApart 43 = .ok (.iload_n 2, 1) := by decide +kernel
theorem dX2_isApart_44 : decode cX2_isApart 44 = .ok (.iload_n 1, 1) := by decide +kernel
theorem dX2_isApart_45 : decode cX2_isApart 45 = .ok (.isub, 1) := by decide +kernel
theorem dX2_isApart_46 : decode cX2_isApart 46 = .ok (.iload 5, 2) := by decide +kernel
theorem dX2_isApart_48 : decode cX2_isApart 48 = .ok (.imul, 1) := by decide +kernel
theorem dX2_isApart_49 : decode cX2_isApart 49 = .ok (.iload 6, 2) := by decide +kernel
theorem dX2_isApart_51 : decode cX2_isApart 51 = .ok (.irem, 1) := by decide +kernel
theorem dX2_isApart_52 : decode cX2_isApart 52 = .ok (.istore 7, 2) := by decide +kernel
theorem dX2_isApart_54 : decode cX2_isApart 54 = .ok (.iload 7, 2) := by decide +kernel
theorem dX2_isApart_56 : decode cX2_isApart 56 = .ok (.iload 5, 2) := by decide +kernel
theorem dX2_isApart_58 : decode cX2_isApart 58 = .ok (.if_icmp .lt 17, 3) := by decide +kernel
theorem dX2_isApart_61 : decode cX2_isApart 61 = .ok (.iload 6, 2) := by decide +kernel
theorem dX2_isApart_63 : decode cX2_isApart 63 = .ok (.iload 7, 2) := by decide +kernel
theorem dX2_isApart_65 : decode cX2_isApart 65 = .ok (.isub, 1) := by decide +kernel
theorem dX2_isApart_66 : decode cX2_isApart 66 = .ok (.iload 5, 2) := by decide +kernel
theorem dX2_isApart_68 : decode cX2_isApart 68 = .ok (.if_icmp .lt 7, 3) := by decide +kernel
theorem dX2_isApart_71 : decode cX2_isApart 71 = .ok (.iconst 1, 1) := by decide +kernel
theorem dX2_isApart_72 : decode cX2_isApart 72 = .ok (.goto 4, 3) := by decide +kernel
theorem dX2_isApart_75 : decode cX2_isApart 75 = .ok (.iconst 0, 1) := by decide +kernel
theorem dX2_isApart_76 : decode cX2_isApart 76 = .ok (.istore_n 3, 1) := by decide +kernel
theorem dX2_isApart_77 : decode cX2_isApart 77 = .ok (.iinc 4 1, 3) := by decide +kernel
theorem dX2_isApart_80 : decode cX2_isApart 80 = .ok (.goto (-75), 3) := by decide +kernel
theorem dX2_isApart_83 : decode cX2_isApart 83 = .ok (.iload_n 3, 1) := by decide +kernel
theorem dX2_isApart_84 : decode cX2_isApart 84 = .ok (.ireturn, 1) := by decide +kernel
set_option maxRecDepth 20000 in
theorem ggX2_apart_X2_noNumber : GoodIn wsX2_apart wsX2_noNumber := goodIn_r _ [5, 6, 7, 8, 4, 9] (by decide +kernel) (by decide +kernel)
set_option maxRecDepth 20000 in
theorem gX2_apart_X2_noNumber : GoodIn wsX2_apart (va_wsS RX2 137 yX2_noNumber wsX2_noNumber) := goodIn_app (goodIn_of _ (by decide +kernel)) ggX2_apart_X2_noNumber
set_option maxRecDepth 20000 in
theorem ggX2_apart_X2_noSheet : GoodIn wsX2_apart wsX2_noSheet := goodIn_r _ [13, 14, 15, 16, 17, 18, 4, 19, 20, 21, 22, 23, 24, 25, 26, 27, 28, 29, 30, 31, 32, 33, 7, 8, 9, 34, 35, 36, 37, 38, 39, 40, 41, 51, 52, 53, 54, 55, 56, 57, 58, 59, 60, 61, 62, 63, 64, 65, 66, 67, 68, 69, 70, 71] (by decide +kernel) (by decide +kernel)
set_option maxRecDepth 20000 in
theorem gX2_apart_X2_noSheet : GoodIn wsX2_apart (wsV RX2 140 RX2 yX2_noSheet wsX2_noSheet) := goodIn_app (goodIn_of _ (by decide +kernel)) ggX2_apart_X2_noSheet
set_option maxRecDepth 20000 in
theorem ggX2_apart_X2_isApart : GoodIn wsX2_apart wsX2_isApart := goodIn_r _ [45, 46, 14, 47, 48, 49, 4, 50, 15, 16, 17, 18, 19, 20, 21, 22, 23, 24, 25, 26, 27, 28, 29, 30, 31, 32, 33, 7, 8, 9, 34, 35, 36, 37, 38, 39, 40, 41, 51, 52, 53, 54, 55, 56, 57, 58, 59, 60, 61, 62, 63, 64, 65, 66, 67, 68, 69, 70, 71] (by decide +kernel) (by decide +kernel)
set_option maxRecDepth 20000 in
theorem gX2_apart_X2_isApart : GoodIn wsX2_apart (wsV RX2 150 RX2 yX2_isApart wsX2_isApart) := goodIn_app (goodIn_of _ (by decide +kernel)) ggX2_apart_X2_isApart
theorem dX2_apart_0 : decode cX2_apart 0 = .ok (.aload_n 0, 1) := by decide +kernel
theorem dX2_apart_1 : decode cX2_apart 1 = .ok (.iconst 0, 1) := by decide +kernel
theorem dX2_apart_2 : decode cX2_apart 2 = .ok (.putfield 59, 3) := by decide +kernel
theorem dX2_apart_5 : decode cX2_apart 5 = .ok (.iload_n 1, 1) := by decide +kernel
theorem dX2_apart_6 : decode cX2_apart 6 = .ok (.invokestatic 137, 3) := by decide +kernel
theorem dX2_apart_9 : decode cX2_apart 9 = .ok (.ifCond .eq 6, 3) := by decide +kernel
theorem dX2_apart_12 : decode cX2_apart 12 = .ok (.bipush (-2), 2) := by decide +kernel
theorem dX2_apart_14 : decode cX2_apart 14 = .ok (.ireturn, 1) := by decide +kernel
theorem dX2_apart_15 : decode cX2_apart 15 = .ok (.aload_n 0, 1) := by decide +kernel
theorem dX2_apart_16 : decode cX2_apart 16 = .ok (.invokevirtual 140, 3) := by decide +kernel
theorem dX2_apart_19 : decode cX2_apart 19 = .ok (.ifCond .eq 6, 3) := by decide +kernel
theorem dX2_apart_22 : decode cX2_apart 22 = .ok (.bipush (-3), 2) := by decide +kernel
theorem dX2_apart_24 : decode cX2_apart 24 = .ok (.ireturn, 1) := by decide +kernel
theorem dX2_apart_25 : decode cX2_apart 25 = .ok (.iload_n 1, 1) := by decide +kernel
theorem dX2_apart_26 : decode cX2_apart 26 = .ok (.iconst 1, 1) := by decide +kernel
theorem dX2_apart_27 : decode cX2_apart 27 = .ok (.iadd, 1) := by decide +kernel
theorem dX2_apart_28 : decode cX2_apart 28 = .ok (.istore_n 2, 1) := by decide +kernel
theorem dX2_apart_29 : decode cX2_apart 29 = .ok (.iload_n 2, 1) := by decide +kernel
theorem dX2_apart_30 : decode cX2_apart 30 = .ok (.sipush 10000, 3) := by decide +kernel
theorem dX2_apart_33 : decode cX2_apart 33 = .ok (.if_icmp .ge 20, 3) := by decide +kernel
theorem dX2_apart_36 : decode cX2_apart 36 = .ok (.aload_n 0, 1) := by decide +kernel
theorem dX2_apart_37 : decode cX2_apart 37 = .ok (.iload_n 1, 1) := by decide +kernel
theorem dX2_apart_38 : decode cX2_apart 38 = .ok (.iload_n 2, 1) := by decide +kernel
theorem dX2_apart_39 : decode cX2_apart 39 = .ok (.invokevirtual 150, 3) := by decide +kernel
theorem dX2_apart_42 : decode cX2_apart 42 = .ok (.ifCond .eq 5, 3) := by decide +kernel
theorem dX2_apart_45 : decode cX2_apart 45 = .ok (.iload_n 2, 1) := by decide +kernel
theorem dX2_apart_46 : decode cX2_apart 46 = .ok (.ireturn, 1) := by decide +kernel
theorem dX2_apart_47 : decode cX2_apart 47 = .ok (.iinc 2 1, 3) := by decide +kernel
theorem dX2_apart_50 : decode cX2_apart 50 = .ok (.goto (-21), 3) := by decide +kernel
theorem dX2_apart_53 : decode cX2_apart 53 = .ok (.bipush (-9), 2) := by decide +kernel
theorem dX2_apart_55 : decode cX2_apart 55 = .ok (.ireturn, 1) := by decide +kernel
set_option maxRecDepth 20000 in
theorem ggX2_seats_X2_in : GoodIn wsX2_seats wsX2_in := goodIn_r _ [9] (by decide +kernel) (by decide +kernel)
set_option maxRecDepth 20000 in
theorem gX2_seats_X2_in : GoodIn wsX2_seats (va_wsS RX2 65 yX2_in wsX2_in) := goodIn_app (goodIn_of _ (by decide +kernel)) ggX2_seats_X2_in
theorem dX2_seats_0 : decode cX2_seats 0 = .ok (.aload_n 0, 1) := by decide +kernel
theorem dX2_seats_1 : decode cX2_seats 1 = .ok (.iconst 0, 1) := by decide +kernel
theorem dX2_seats_2 : decode cX2_seats 2 = .ok (.putfield 59, 3) := by decide +kernel
theorem dX2_seats_5 : decode cX2_seats 5 = .ok (.iload_n 1, 1) := by decide +kernel
theorem dX2_seats_6 : decode cX2_seats 6 = .ok (.i2l, 1) := by decide +kernel
theorem dX2_seats_7 : decode cX2_seats 7 = .ok (.lconst 1, 1) := by decide +kernel
theorem dX2_seats_8 : decode cX2_seats 8 = .ok (.ldc2_w 153, 3) := by decide +kernel
theorem dX2_seats_11 : decode cX2_seats 11 = .ok (.invokestatic 65, 3) := by decide +kernel
theorem dX2_seats_14 : decode cX2_seats 14 = .ok (.ifCond .eq 15, 3) := by decide +kernel
theorem dX2_seats_17 : decode cX2_seats 17 = .ok (.iload_n 2, 1) := by decide +kernel
theorem dX2_seats_18 : decode cX2_seats 18 = .ok (.i2l, 1) := by decide +kernel
theorem dX2_seats_19 : decode cX2_seats 19 = .ok (.lconst 1, 1) := by decide +kernel
theorem dX2_seats_20 : decode cX2_seats 20 = .ok (.ldc2_w 153, 3) := by decide +kernel
theorem dX2_seats_23 : decode cX2_seats 23 = .ok (.invokestatic 65, 3) := by decide +kernel
theorem dX2_seats_26 : decode cX2_seats 26 = .ok (.ifCond .ne 6, 3) := by decide +kernel
theorem dX2_seats_29 : decode cX2_seats 29 = .ok (.bipush (-2), 2) := by decide +kernel
theorem dX2_seats_31 : decode cX2_seats 31 = .ok (.ireturn, 1) := by decide +kernel
theorem dX2_seats_32 : decode cX2_seats 32 = .ok (.aload_n 0, 1) := by decide +kernel
theorem dX2_seats_33 : decode cX2_seats 33 = .ok (.getfield 47, 3) := by decide +kernel
theorem dX2_seats_36 : decode cX2_seats 36 = .ok (.aload_n 0, 1) := by decide +kernel
theorem dX2_seats_37 : decode cX2_seats 37 = .ok (.getfield 50, 3) := by decide +kernel
theorem dX2_seats_40 : decode cX2_seats 40 = .ok (.imul, 1) := by decide +kernel
theorem dX2_seats_41 : decode cX2_seats 41 = .ok (.istore_n 3, 1) := by decide +kernel
theorem dX2_seats_42 : decode cX2_seats 42 = .ok (.aload_n 0, 1) := by decide +kernel
theorem dX2_seats_43 : decode cX2_seats 43 = .ok (.iload_n 1, 1) := by decide +kernel
theorem dX2_seats_44 : decode cX2_seats 44 = .ok (.putfield 47, 3) := by decide +kernel
theorem dX2_seats_47 : decode cX2_seats 47 = .ok (.aload_n 0, 1) := by decide +kernel
theorem dX2_seats_48 : decode cX2_seats 48 = .ok (.iload_n 2, 1) := by decide +kernel
theorem dX2_seats_49 : decode cX2_seats 49 = .ok (.putfield 50, 3) := by decide +kernel
theorem dX2_seats_52 : decode cX2_seats 52 = .ok (.iconst 0, 1) := by decide +kernel
theorem dX2_seats_53 : decode cX2_seats 53 = .ok (.istore 4, 2) := by decide +kernel
theorem dX2_seats_55 : decode cX2_seats 55 = .ok (.iload 4, 2) := by decide +kernel
theorem dX2_seats_57 : decode cX2_seats 57 = .ok (.sipush 512, 3) := by decide +kernel
theorem dX2_seats_60 : decode cX2_seats 60 = .ok (.if_icmp .ge 17, 3) := by decide +kernel
theorem dX2_seats_63 : decode cX2_seats 63 = .ok (.aload_n 0, 1) := by decide +kernel
theorem dX2_seats_64 : decode cX2_seats 64 = .ok (.getfield 56, 3) := by decide +kernel
theorem dX2_seats_67 : decode cX2_seats 67 = .ok (.iload 4, 2) := by decide +kernel
theorem dX2_seats_69 : decode cX2_seats 69 = .ok (.iconst 0, 1) := by decide +kernel
theorem dX2_seats_70 : decode cX2_seats 70 = .ok (.iastore, 1) := by decide +kernel
theorem dX2_seats_71 : decode cX2_seats 71 = .ok (.iinc 4 1, 3) := by decide +kernel
theorem dX2_seats_74 : decode cX2_seats 74 = .ok (.goto (-19), 3) := by decide +kernel
theorem dX2_seats_77 : decode cX2_seats 77 = .ok (.iload_n 3, 1) := by decide +kernel
theorem dX2_seats_78 : decode cX2_seats 78 = .ok (.ireturn, 1) := by decide +kernel
set_option maxRecDepth 20000 in
theorem ggX2_sit_X2_isNear : GoodIn wsX2_sit wsX2_isNear := goodIn_r _ [8, 2, 3, 1, 9, 10, 7, 11, 12, 13, 14, 15, 16, 17, 18, 19, 20, 21, 22, 23, 24, 25, 26, 27, 28, 29, 30, 31, 32] (by decide +kernel) (by decide +kernel)
set_option maxRecDepth 20000 in
theorem gX2_sit_X2_isNear : GoodIn wsX2_sit (wsV RX2 155 RX2 yX2_isNear wsX2_isNear) := goodIn_app (goodIn_of _ (by decide +kernel)) ggX2_sit_X2_isNear
theorem dX2_sit_0 : decode cX2_sit 0 = .ok (.iconst 0, 1) := by decide +kernel
theorem dX2_sit_1 : decode cX2_sit 1 = .ok (.istore_n 1, 1) := by decide +kernel
theorem dX2_sit_2 : decode cX2_sit 2 = .ok (.iload_n 1, 1) := by decide +kernel
theorem dX2_sit_3 : decode cX2_sit 3 = .ok (.bipush 64, 2) := by decide +kernel
theorem dX2_sit_5 : decode cX2_sit 5 = .ok (.if_icmp .ge 17, 3) := by decide +kernel
theorem dX2_sit_8 : decode cX2_sit 8 = .ok (.aload_n 0, 1) := by decide +kernel
theorem dX2_sit_9 : decode cX2_sit 9 = .ok (.getfield 53, 3) := by decide +kernel
theorem dX2_sit_12 : decode cX2_sit 12 = .ok (.iload_n 1, 1) := by decide +kernel
theorem dX2_sit_13 : decode cX2_sit 13 = .ok (.bipush (-9), 2) := by decide +kernel
theorem dX2_sit_15 : decode cX2_sit 15 = .ok (.iastore, 1) := by decide +kernel
theorem dX2_sit_16 : decode cX2_sit 16 = .ok (.iinc 1 1, 3) := by decide +kernel
theorem dX2_sit_19 : decode cX2_sit 19 = .ok (.goto (-17), 3) := by decide +kernel
theorem dX2_sit_22 : decode cX2_sit 22 = .ok (.iconst 0, 1) := by decide +kernel
theorem dX2_sit_23 : decode cX2_sit 23 = .ok (.istore_n 1, 1) := by decide +kernel
theorem dX2_sit_24 : decode cX2_sit 24 = .ok (.iload_n 1, 1) := by decide +kernel
theorem dX2_sit_25 : decode cX2_sit 25 = .ok (.aload_n 0, 1) := by decide +kernel
theorem dX2_sit_26 : decode cX2_sit 26 = .ok (.getfield 47, 3) := by decide +kernel
theorem dX2_sit_29 : decode cX2_sit 29 = .ok (.if_icmp .ge 55, 3) := by decide +kernel
theorem dX2_sit_32 : decode cX2_sit 32 = .ok (.iconst 0, 1) := by decide +kernel
theorem dX2_sit_33 : decode cX2_sit 33 = .ok (.istore_n 2, 1) := by decide +kernel
theorem dX2_sit_34 : decode cX2_sit 34 = .ok (.iload_n 2, 1) := by decide +kernel
theorem dX2_sit_35 : decode cX2_sit 35 = .ok (.aload_n 0, 1) := by decide +kernel
theorem dX2_sit_36 : decode cX2_sit 36 = .ok (.getfield 50, 3) := by decide +kernel
theorem dX2_sit_39 : decode cX2_sit 39 = .ok (.if_icmp .ge 39, 3) := by decide +kernel
theorem dX2_sit_42 : decode cX2_sit 42 = .ok (.iconst 0, 1) := by decide +kernel
theorem dX2_sit_43 : decode cX2_sit 43 = .ok (.istore_n 3, 1) := by decide +kernel
theorem dX2_sit_44 : decode cX2_sit 44 = .ok (.aload_n 0, 1) := by decide +kernel
theorem dX2_sit_45 : decode cX2_sit 45 = .ok (.iload_n 1, 1) := by decide +kernel
theorem dX2_sit_46 : decode cX2_sit 46 = .ok (.iload_n 2, 1) := by decide +kernel
theorem dX2_sit_47 : decode cX2_sit 47 = .ok (.iload_n 3, 1) := by decide +kernel
theorem dX2_sit_48 : decode cX2_sit 48 = .ok (.invokevirtual 155, 3) := by decide +kernel
theorem dX2_sit_51 : decode cX2_sit 51 = .ok (.ifCond .eq 9, 3) := by decide +kernel
theorem dX2_sit_54 : decode cX2_sit 54 = .ok (.iinc 3 1, 3) := by decide +kernel
theorem dX2_sit_57 : decode cX2_sit 57 = .ok (.goto (-13), 3) := by decide +kernel
theorem dX2_sit_60 : decode cX2_sit 60 = .ok (.aload_n 0, 1) := by decide +kernel
theorem dX2_sit_61 : decode cX2_sit 61 = .ok (.getfield 53, 3) := by decide +kernel
theorem dX2_sit_64 : decode cX2_sit 64 = .ok (.bipush 8, 2) := by decide +kernel
theorem dX2_sit_66 : decode cX2_sit 66 = .ok (.iload_n 1, 1) := by decide +kernel
theorem dX2_sit_67 : decode cX2_sit 67 = .ok (.imul, 1) := by decide +kernel
theorem dX2_sit_68 : decode cX2_sit 68 = .ok (.iload_n 2, 1) := by decide +kernel
theorem dX2_sit_69 : decode cX2_sit 69 = .ok (.iadd, 1) := by decide +kernel
theorem dX2_sit_70 : decode cX2_sit 70 = .ok (.iload_n 3, 1) := by decide +kernel
theorem dX2_sit_71 : decode cX2_sit 71 = .ok (.iastore, 1) := by decide +kernel
theorem dX2_sit_72 : decode cX2_sit 72 = .ok (.iinc 2 1, 3) := by decide +kernel
theorem dX2_sit_75 : decode cX2_sit 75 = .ok (.goto (-41), 3) := by decide +kernel
theorem dX2_sit_78 : decode cX2_sit 78 = .ok (.iinc 1 1, 3) := by decide +kernel
theorem dX2_sit_81 : decode cX2_sit 81 = .ok (.goto (-57), 3) := by decide +kernel
theorem dX2_sit_84 : decode cX2_sit 84 = .ok (.return_, 1) := by decide +kernel
set_option maxRecDepth 20000 in
theorem ggX2_isNear_X2_in : GoodIn wsX2_isNear wsX2_in := goodIn_r _ [7] (by decide +kernel) (by decide +kernel)
set_option maxRecDepth 20000 in
theorem gX2_isNear_X2_in : GoodIn wsX2_isNear (va_wsS RX2 65 yX2_in wsX2_in) := goodIn_app (goodIn_of _ (by decide +kernel)) ggX2_isNear_X2_in
theorem dX2_isNear_0 : decode cX2_isNear 0 = .ok (.iconst 0, 1) := by decide +kernel
theorem dX2_isNear_1 : decode cX2_isNear 1 = .ok (.istore 4, 2) := by decide +kernel
theorem dX2_isNear_3 : decode cX2_isNear 3 = .ok (.iload_n 1, 1) := by decide +kernel
theorem dX2_isNear_4 : decode cX2_isNear 4 = .ok (.iconst 1, 1) := by decide +kernel
theorem dX2_isNear_5 : decode cX2_isNear 5 = .ok (.isub, 1) := by decide +kernel
theorem dX2_isNear_6 : decode cX2_isNear 6 = .ok (.istore 5, 2) := by decide +kernel
theorem dX2_isNear_8 : decode cX2_isNear 8 = .ok (.iload 5, 2) := by decide +kernel
theorem dX2_isNear_10 : decode cX2_isNear 10 = .ok (.iload_n 1, 1) := by decide +kernel
theorem dX2_isNear_11 : decode cX2_isNear 11 = .ok (.iconst 1, 1) := by decide +kernel
theorem dX2_isNear_12 : decode cX2_isNear 12 = .ok (.iadd, 1) := by decide +kernel
theorem dX2_isNear_13 : decode cX2_isNear 13 = .ok (.if_icmp .gt 115, 3) := by decide +kernel
theorem dX2_isNear_16 : decode cX2_isNear 16 = .ok (.iload_n 2, 1) := by decide +kernel
theorem dX2_isNear_17 : decode cX2_isNear 17 = .ok (.iconst 1, 1) := by decide +kernel
theorem dX2_isNear_18 : decode cX2_isNear 18 = .ok (.isub, 1) := by decide +kernel
theorem dX2_isNear_19 : decode cX2_isNear 19 = .ok (.istore 6, 2) := by decide +kernel
theorem dX2_isNear_21 : decode cX2_isNear 21 = .ok (.iload 6, 2) := by decide +kernel
theorem dX2_isNear_23 : decode cX2_isNear 23 = .ok (.iload_n 2, 1) := by decide +kernel
theorem dX2_isNear_24 : decode cX2_isNear 24 = .ok (.iconst 1, 1) := by decide +kernel
theorem dX2_isNear_25 : decode cX2_isNear 25 = .ok (.iadd, 1) := by decide +kernel
theorem dX2_isNear_26 : decode cX2_isNear 26 = .ok (.if_icmp .gt 96, 3) := by decide +kernel
theorem dX2_isNear_29 : decode cX2_isNear 29 = .ok (.iload 5, 2) := by decide +kernel
theorem dX2_isNear_31 : decode cX2_isNear 31 = .ok (.i2l, 1) := by decide +kernel
theorem dX2_isNear_32 : decode cX2_isNear 32 = .ok (.lconst 0, 1) := by decide +kernel
theorem dX2_isNear_33 : decode cX2_isNear 33 = .ok (.aload_n 0, 1) := by decide +kernel
theorem dX2_isNear_34 : decode cX2_isNear 34 = .ok (.getfield 47, 3) := by decide +kernel
theorem dX2_isNear_37 : decode cX2_isNear 37 = .ok (.iconst 1, 1) := by decide +kernel
theorem dX2_isNear_38 : decode cX2_isNear 38 = .ok (.isub, 1) := by decide +kernel
theorem dX2_isNear_39 : decode cX2_isNear 39 = .ok (.i2l, 1) := by decide +kernel
theorem dX2_isNear_40 : decode cX2_isNear 40 = .ok (.invokestatic 65, 3) := by decide +kernel
theorem dX2_isNear_43 : decode cX2_isNear 43 = .ok (.ifCond .eq 36, 3) := by decide +kernel
theorem dX2_isNear_46 : decode cX2_isNear 46 = .ok (.iload 6, 2) := by decide +kernel
theorem dX2_isNear_48 : decode cX2_isNear 48 = .ok (.i2l, 1) := by decide +kernel
theorem dX2_isNear_49 : decode cX2_isNear 49 = .ok (.lconst 0, 1) := by decide +kernel
theorem dX2_isNear_50 : decode cX2_isNear 50 = .ok (.aload_n 0, 1) := by decide +kernel
theorem dX2_isNear_51 : decode cX2_isNear 51 = .ok (.getfield 50, 3) := by decide +kernel
theorem dX2_isNear_54 : decode cX2_isNear 54 = .ok (.iconst 1, 1) := by decide +kernel
theorem dX2_isNear_55 : decode cX2_isNear 55 = .ok (.isub, 1) := by decide +kernel
theorem dX2_isNear_56 : decode cX2_isNear 56 = .ok (.i2l, 1) := by decide +kernel
theorem dX2_isNear_57 : decode cX2_isNear 57 = .ok (.invokestatic 65, 3) := by decide +kernel
theorem dX2_isNear_60 : decode cX2_isNear 60 = .ok (.ifCond .eq 19, 3) := by decide +kernel
theorem dX2_isNear_63 : decode cX2_isNear 63 = .ok (.iload 5, 2) := by decide +kernel
theorem dX2_isNear_65 : decode cX2_isNear 65 = .ok (.iload_n 1, 1) := by decide +kernel
theorem dX2_isNear_66 : decode cX2_isNear 66 = .ok (.if_icmp .ne 9, 3) := by decide +kernel
theorem dX2_isNear_69 : decode cX2_isNear 69 = .ok (.iload 6, 2) := by decide +kernel
theorem dX2_isNear_71 : decode cX2_isNear 71 = .ok (.iload_n 2, 1) := by decide +kernel
theorem dX2_isNear_72 : decode cX2_isNear 72 = .ok (.if_icmp .eq 7, 3) := by decide +kernel
theorem dX2_isNear_75 : decode cX2_isNear 75 = .ok (.iconst 1, 1) := by decide +kernel
theorem dX2_isNear_76 : decode cX2_isNear 76 = .ok (.goto 4, 3) := by decide +kernel
theorem dX2_isNear_79 : decode cX2_isNear 79 = .ok (.iconst 0, 1) := by decide +kernel
theorem dX2_isNear_80 : decode cX2_isNear 80 = .ok (.istore 7, 2) := by decide +kernel
theorem dX2_isNear_82 : decode cX2_isNear 82 = .ok (.iload 4, 2) := by decide +kernel
theorem dX2_isNear_84 : decode cX2_isNear 84 = .ok (.ifCond .ne 25, 3) := by decide +kernel
theorem dX2_isNear_87 : decode cX2_isNear 87 = .ok (.iload 7, 2) := by decide +kernel
theorem dX2_isNear_89 : decode cX2_isNear 89 = .ok (.ifCond .eq 24, 3) := by decide +kernel
theorem dX2_isNear_92 : decode cX2_isNear 92 = .ok (.aload_n 0, 1) := by decide +kernel
theorem dX2_isNear_93 : decode cX2_isNear 93 = .ok (.getfield 53, 3) := by decide +kernel
theorem dX2_isNear_96 : decode cX2_isNear 96 = .ok (.bipush 8, 2) := by decide +kernel
theorem dX2_isNear_98 : decode cX2_isNear 98 = .ok (.iload 5, 2) := by decide +kernel
theorem dX2_isNear_100 : decode cX2_isNear 100 = .ok (.imul, 1) := by decide +kernel
theorem dX2_isNear_101 : decode cX2_isNear 101 = .ok (.iload 6, 2) := by decide +kernel
theorem dX2_isNear_103 : decode cX2_isNear 103 = .ok (.iadd, 1) := by decide +kernel
theorem dX2_isNear_104 : decode cX2_isNear 104 = .ok (.iaload, 1) := by decide +kernel
theorem dX2_isNear_105 : decode cX2_isNear 105 = .ok (.iload_n 3, 1) := by decide +kernel
theorem dX2_isNear_106 : decode cX2_isNear 106 = .ok (.if_icmp .ne 7, 3) := by decide +kernel
theorem dX2_isNear_109 : decode cX2_isNear 109 = .ok (.iconst 1, 1) := by decide +kernel
theorem dX2_isNear_110 : decode cX2_isNear 110 = .ok (.goto 4, 3) := by decide +kernel
theorem dX2_isNear_113 : decode cX2_isNear 113 = .ok (.iconst 0, 1) := by decide +kernel
theorem dX2_isNear_114 : decode cX2_isNear 114 = .ok (.istore 4, 2) := by decide +kernel
theorem dX2_isNear_116 : decode cX2_isNear 116 = .ok (.iinc 6 1, 3) := by decide +kernel
theorem dX2_isNear_119 : decode cX2_isNear 119 = .ok (.goto (-98), 3) := by decide +kernel
theorem dX2_isNear_122 : decode cX2_isNear 122 = .ok (.iinc 5 1, 3) := by decide +kernel
theorem dX2_isNear_125 : decode cX2_isNear 125 = .ok (.goto (-117), 3) := by decide +kernel
theorem dX2_isNear_128 : decode cX2_isNear 128 = .ok (.iload 4, 2) := by decide +kernel
theorem dX2_isNear_130 : decode cX2_isNear 130 = .ok (.ireturn, 1) := by decide +kernel
set_option maxRecDepth 20000 in
theorem ggX2_base_X2_in : GoodIn wsX2_base wsX2_in := goodIn_r _ [7] (by decide +kernel) (by decide +kernel)
set_option maxRecDepth 20000 in
theorem gX2_base_X2_in : GoodIn wsX2_base (va_wsS RX2 65 yX2_in wsX2_in) := goodIn_app (goodIn_of _ (by decide +kernel)) ggX2_base_X2_in
theorem dX2_base_0 : decode cX2_base 0 = .ok (.aload_n 0, 1) := by decide +kernel
theorem dX2_base_1 : decode cX2_base 1 = .ok (.iconst 0, 1) := by decide +kernel
theorem dX2_base_2 : decode cX2_base 2 = .ok (.putfield 59, 3) := by decide +kernel
theorem dX2_base_5 : decode cX2_base 5 = .ok (.iload_n 1, 1) := by decide +kernel
theorem dX2_base_6 : decode cX2_base 6 = .ok (.i2l, 1) := by decide +kernel
theorem dX2_base_7 : decode cX2_base 7 = .ok (.lconst 0, 1) := by decide +kernel
theorem dX2_base_8 : decode cX2_base 8 = .ok (.ldc2_w 158, 3) := by decide +kernel
theorem dX2_base_11 : decode cX2_base 11 = .ok (.invokestatic 65, 3) := by decide +kernel
theorem dX2_base_14 : decode cX2_base 14 = .ok (.ifCond .ne 6, 3) := by decide +kernel
theorem dX2_base_17 : decode cX2_base 17 = .ok (.bipush (-2), 2) := by decide +kernel
theorem dX2_base_19 : decode cX2_base 19 = .ok (.ireturn, 1) := by decide +kernel
theorem dX2_base_20 : decode cX2_base 20 = .ok (.aload_n 0, 1) := by decide +kernel
theorem dX2_base_21 : decode cX2_base 21 = .ok (.getfield 160, 3) := by decide +kernel
theorem dX2_base_24 : decode cX2_base 24 = .ok (.istore_n 2, 1) := by decide +kernel
theorem dX2_base_25 : decode cX2_base 25 = .ok (.aload_n 0, 1) := by decide +kernel
theorem dX2_base_26 : decode cX2_base 26 = .ok (.iload_n 1, 1) := by decide +kernel
theorem dX2_base_27 : decode cX2_base 27 = .ok (.putfield 160, 3) := by decide +kernel
theorem dX2_base_30 : decode cX2_base 30 = .ok (.iload_n 2, 1) := by decide +kernel
theorem dX2_base_31 : decode cX2_base 31 = .ok (.ireturn, 1) := by decide +kernel
set_option maxRecDepth 20000 in
theorem ggX2_sheetOf_X2_sit : GoodIn wsX2_sheetOf wsX2_sit := goodIn_r _ [7, 2, 8, 9, 10, 11, 12, 6, 13, 14, 15, 16, 17, 18, 19, 20, 21, 22, 23, 24, 25, 26, 27, 28, 29, 30, 31, 32, 33, 34, 35, 36, 37] (by decide +kernel) (by decide +kernel)
set_option maxRecDepth 20000 in
theorem gX2_sheetOf_X2_sit : GoodIn wsX2_sheetOf (wsV RX2 163 RX2 yX2_sit wsX2_sit) := goodIn_app (goodIn_of _ (by decide +kernel)) ggX2_sheetOf_X2_sit
theorem dX2_sheetOf_0 : decode cX2_sheetOf 0 = .ok (.aload_n 0, 1) := by decide +kernel
theorem dX2_sheetOf_1 : decode cX2_sheetOf 1 = .ok (.invokevirtual 163, 3) := by decide +kernel
theorem dX2_sheetOf_4 : decode cX2_sheetOf 4 = .ok (.aload_n 0, 1) := by decide +kernel
theorem dX2_sheetOf_5 : decode cX2_sheetOf 5 = .ok (.getfield 160, 3) := by decide +kernel
theorem dX2_sheetOf_8 : decode cX2_sheetOf 8 = .ok (.aload_n 0, 1) := by decide +kernel
theorem dX2_sheetOf_9 : decode cX2_sheetOf 9 = .ok (.getfield 53, 3) := by decide +kernel
theorem dX2_sheetOf_12 : decode cX2_sheetOf 12 = .ok (.bipush 8, 2) := by decide +kernel
theorem dX2_sheetOf_14 : decode cX2_sheetOf 14 = .ok (.iload_n 1, 1) := by decide +kernel
theorem dX2_sheetOf_15 : decode cX2_sheetOf 15 = .ok (.bipush 10, 2) := by decide +kernel
theorem dX2_sheetOf_17 : decode cX2_sheetOf 17 = .ok (.idiv, 1) := by decide +kernel
theorem dX2_sheetOf_18 : decode cX2_sheetOf 18 = .ok (.imul, 1) := by decide +kernel
theorem dX2_sheetOf_19 : decode cX2_sheetOf 19 = .ok (.iload_n 1, 1) := by decide +kernel
theorem dX2_sheetOf_20 : decode cX2_sheetOf 20 = .ok (.bipush 10, 2) := by decide +kernel
theorem dX2_sheetOf_22 : decode cX2_sheetOf 22 = .ok (.irem, 1) := by decide +kernel
theorem dX2_sheetOf_23 : decode cX2_sheetOf 23 = .ok (.iadd, 1) := by decide +kernel
theorem dX2_sheetOf_24 : decode cX2_sheetOf 24 = .ok (.iaload, 1) := by decide +kernel
theorem dX2_sheetOf_25 : decode cX2_sheetOf 25 = .ok (.iadd, 1) := by decide +kernel
theorem dX2_sheetOf_26 : decode cX2_sheetOf 26 = .ok (.ireturn, 1) := by decide +kernel
set_option maxRecDepth 20000 in
theorem ggX2_seat_X2_noSeat : GoodIn wsX2_seat wsX2_noSeat := goodIn_r _ [6, 7, 8, 26, 27, 28, 29, 30, 31, 32, 33, 34, 35, 36, 37, 38, 39, 40, 41, 42, 43, 44, 45, 46] (by decide +kernel) (by decide +kernel)
set_option maxRecDepth 20000 in
theorem gX2_seat_X2_noSeat : GoodIn wsX2_seat (wsV RX2 166 RX2 yX2_noSeat wsX2_noSeat) := goodIn_app (goodIn_of _ (by decide +kernel)) ggX2_seat_X2_noSeat
set_option maxRecDepth 20000 in
theorem ggX2_seat_X2_sheetOf : GoodIn wsX2_seat wsX2_sheetOf := goodIn_r _ [12, 13, 14, 15, 16, 17, 5, 18, 7, 8, 19, 20, 21, 22, 23, 24, 25, 26, 27, 28, 29, 30, 31, 32, 33, 34, 35, 36, 37, 38, 39, 40, 41, 42, 43, 44, 45, 46] (by decide +kernel) (by decide +kernel)
set_option maxRecDepth 20000 in
theorem gX2_seat_X2_sheetOf : GoodIn wsX2_seat (wsV RX2 169 RX2 yX2_sheetOf wsX2_sheetOf) := goodIn_app (goodIn_of _ (by decide +kernel)) ggX2_seat_X2_sheetOf
theorem dX2_seat_0 : decode cX2_seat 0 = .ok (.aload_n 0, 1) := by decide +kernel
theorem dX2_seat_1 : decode cX2_seat 1 = .ok (.iconst 0, 1) := by decide +kernel
theorem dX2_seat_2 : decode cX2_seat 2 = .ok (.putfield 59, 3) := by decide +kernel
theorem dX2_seat_5 : decode cX2_seat 5 = .ok (.aload_n 0, 1) := by decide +kernel
theorem dX2_seat_6 : decode cX2_seat 6 = .ok (.iload_n 1, 1) := by decide +kernel
theorem dX2_seat_7 : decode cX2_seat 7 = .ok (.invokevirtual 166, 3) := by decide +kernel
theorem dX2_seat_10 : decode cX2_seat 10 = .ok (.ifCond .eq 7, 3) := by decide +kernel
theorem dX2_seat_13 : decode cX2_seat 13 = .ok (.iconst (-1), 1) := by decide +kernel
theorem dX2_seat_14 : decode cX2_seat 14 = .ok (.goto 8, 3) := by decide +kernel
theorem dX2_seat_17 : decode cX2_seat 17 = .ok (.aload_n 0, 1) := by decide +kernel
theorem dX2_seat_18 : decode cX2_seat 18 = .ok (.iload_n 1, 1) := by decide +kernel
theorem dX2_seat_19 : decode cX2_seat 19 = .ok (.invokevirtual 169, 3) := by decide +kernel
theorem dX2_seat_22 : decode cX2_seat 22 = .ok (.ireturn, 1) := by decide +kernel
set_option maxRecDepth 20000 in
theorem ggX2_unlike_X2_sit : GoodIn wsX2_unlike wsX2_sit := goodIn_r _ [7, 2, 8, 9, 10, 11, 12, 6, 13, 14, 15, 16, 17, 18, 19, 20, 21, 22, 23, 24, 25, 26, 27, 28, 29, 30, 31, 32, 33, 34, 35, 36, 37] (by decide +kernel) (by decide +kernel)
set_option maxRecDepth 20000 in
theorem gX2_unlike_X2_sit : GoodIn wsX2_unlike (wsV RX2 163 RX2 yX2_sit wsX2_sit) := goodIn_app (goodIn_of _ (by decide +kernel)) ggX2_unlike_X2_sit
theorem dX2_unlike_0 : decode cX2_unlike 0 = .ok (.aload_n 0, 1) := by decide +kernel
theorem dX2_unlike_1 : decode cX2_unlike 1 = .ok (.iconst 0, 1) := by decide +kernel
theorem dX2_unlike_2 : decode cX2_unlike 2 = .ok (.putfield 59, 3) := by decide +kernel
theorem dX2_unlike_5 : decode cX2_unlike 5 = .ok (.aload_n 0, 1) := by decide +kernel
theorem dX2_unlike_6 : decode cX2_unlike 6 = .ok (.invokevirtual 163, 3) := by decide +kernel
theorem dX2_unlike_9 : decode cX2_unlike 9 = .ok (.iconst 0, 1) := by decide +kernel
theorem dX2_unlike_10 : decode cX2_unlike 10 = .ok (.istore_n 1, 1) := by decide +kernel
theorem dX2_unlike_11 : decode cX2_unlike 11 = .ok (.iconst 0, 1) := by decide +kernel
theorem dX2_unlike_12 : decode cX2_unlike 12 = .ok (.istore_n 2, 1) := by decide +kernel
theorem dX2_unlike_13 : decode cX2_unlike 13 = .ok (.iload_n 2, 1) := by decide +kernel
theorem dX2_unlike_14 : decode cX2_unlike 14 = .ok (.bipush 64, 2) := by decide +kernel
theorem dX2_unlike_16 : decode cX2_unlike 16 = .ok (.if_icmp .ge 30, 3) := by decide +kernel
theorem dX2_unlike_19 : decode cX2_unlike 19 = .ok (.aload_n 0, 1) := by decide +kernel
theorem dX2_unlike_20 : decode cX2_unlike 20 = .ok (.getfield 53, 3) := by decide +kernel
theorem dX2_unlike_23 : decode cX2_unlike 23 = .ok (.iload_n 2, 1) := by decide +kernel
theorem dX2_unlike_24 : decode cX2_unlike 24 = .ok (.iaload, 1) := by decide +kernel
theorem dX2_unlike_25 : decode cX2_unlike 25 = .ok (.iload_n 1, 1) := by decide +kernel
theorem dX2_unlike_26 : decode cX2_unlike 26 = .ok (.if_icmp .le 12, 3) := by decide +kernel
theorem dX2_unlike_29 : decode cX2_unlike 29 = .ok (.aload_n 0, 1) := by decide +kernel
theorem dX2_unlike_30 : decode cX2_unlike 30 = .ok (.getfield 53, 3) := by decide +kernel
theorem dX2_unlike_33 : decode cX2_unlike 33 = .ok (.iload_n 2, 1) := by decide +kernel
theorem dX2_unlike_34 : decode cX2_unlike 34 = .ok (.iaload, 1) := by decide +kernel
theorem dX2_unlike_35 : decode cX2_unlike 35 = .ok (.goto 4, 3) := by decide +kernel
theorem dX2_unlike_38 : decode cX2_unlike 38 = .ok (.iload_n 1, 1) := by decide +kernel
theorem dX2_unlike_39 : decode cX2_unlike 39 = .ok (.istore_n 1, 1) := by decide +kernel
theorem dX2_unlike_40 : decode cX2_unlike 40 = .ok (.iinc 2 1, 3) := by decide +kernel
theorem dX2_unlike_43 : decode cX2_unlike 43 = .ok (.goto (-30), 3) := by decide +kernel
theorem dX2_unlike_46 : decode cX2_unlike 46 = .ok (.iload_n 1, 1) := by decide +kernel
theorem dX2_unlike_47 : decode cX2_unlike 47 = .ok (.iconst 1, 1) := by decide +kernel
theorem dX2_unlike_48 : decode cX2_unlike 48 = .ok (.iadd, 1) := by decide +kernel
theorem dX2_unlike_49 : decode cX2_unlike 49 = .ok (.ireturn, 1) := by decide +kernel
set_option maxRecDepth 20000 in
theorem ggX2_mark_X2_noSeat : GoodIn wsX2_mark wsX2_noSeat := goodIn_r _ [10, 11, 12, 90, 91, 92, 93, 94, 95, 96, 97, 98, 99, 100, 101, 102, 103, 104, 105, 106, 107, 108, 109, 110] (by decide +kernel) (by decide +kernel)
set_option maxRecDepth 20000 in
theorem gX2_mark_X2_noSeat : GoodIn wsX2_mark (wsV RX2 166 RX2 yX2_noSeat wsX2_noSeat) := goodIn_app (goodIn_of _ (by decide +kernel)) ggX2_mark_X2_noSeat
set_option maxRecDepth 20000 in
theorem ggX2_mark_X2_noPlace : GoodIn wsX2_mark wsX2_noPlace := goodIn_r _ [16, 17, 18, 19, 9, 20, 90, 91, 92, 93, 94, 95, 96, 97, 98, 99, 100, 101, 102, 103, 104, 105, 106, 107, 108, 109, 110] (by decide +kernel) (by decide +kernel)
set_option maxRecDepth 20000 in
theorem gX2_mark_X2_noPlace : GoodIn wsX2_mark (wsV RX2 128 RX2 yX2_noPlace wsX2_noPlace) := goodIn_app (goodIn_of _ (by decide +kernel)) ggX2_mark_X2_noPlace
set_option maxRecDepth 20000 in
theorem ggX2_mark_X2_noSheet : GoodIn wsX2_mark wsX2_noSheet := goodIn_r _ [24, 17, 2, 25, 26, 27, 9, 28, 29, 30, 31, 32, 33, 34, 35, 36, 37, 38, 39, 40, 41, 42, 18, 19, 20, 43, 44, 45, 46, 47, 48, 49, 50, 90, 91, 92, 93, 94, 95, 96, 97, 98, 99, 100, 101, 102, 103, 104, 105, 106, 107, 108, 109, 110] (by decide +kernel) (by decide +kernel)
set_option maxRecDepth 20000 in
theorem gX2_mark_X2_noSheet : GoodIn wsX2_mark (wsV RX2 140 RX2 yX2_noSheet wsX2_noSheet) := goodIn_app (goodIn_of _ (by decide +kernel)) ggX2_mark_X2_noSheet
set_option maxRecDepth 20000 in
theorem ggX2_mark_X2_sheetOf : GoodIn wsX2_mark wsX2_sheetOf := goodIn_r _ [54, 55, 56, 57, 58, 59, 9, 60, 11, 12, 61, 62, 63, 64, 18, 19, 20, 90, 91, 92, 93, 94, 95, 96, 97, 98, 99, 100, 101, 102, 103, 104, 105, 106, 107, 108, 109, 110] (by decide +kernel) (by decide +kernel)
set_option maxRecDepth 20000 in
theorem gX2_mark_X2_sheetOf : GoodIn wsX2_mark (wsV RX2 169 RX2 yX2_sheetOf wsX2_sheetOf) := goodIn_app (goodIn_of _ (by decide +kernel)) ggX2_mark_X2_sheetOf
set_option maxRecDepth 20000 in
theorem ggX2_mark_X2_variantAt : GoodIn wsX2_mark wsX2_variantAt := goodIn_r _ [68, 2, 17, 69, 70, 71, 72, 9, 73, 25, 26, 27, 28, 29, 30, 31, 32, 33, 34, 35, 36, 37, 38, 39, 40, 41, 42, 18, 19, 20, 43, 44, 45, 46, 47, 48, 49, 50, 90, 91, 92, 93, 94, 95, 96, 97, 98, 99, 100, 101, 102, 103, 104, 105, 106, 107, 108, 109, 110] (by decide +kernel) (by decide +kernel)
set_option maxRecDepth 20000 in
theorem gX2_mark_X2_variantAt : GoodIn wsX2_mark (wsV RX2 144 RX2 yX2_variantAt wsX2_variantAt) := goodIn_app (goodIn_of _ (by decide +kernel)) ggX2_mark_X2_variantAt
set_option maxRecDepth 20000 in
theorem ggX2_mark_X2_tellsOf : GoodIn wsX2_mark wsX2_tellsOf := goodIn_r _ [77, 78, 79, 80, 9, 81, 38, 82, 83, 84, 85, 32, 40, 41, 42, 86, 87, 88, 89, 46, 47, 48, 49, 50, 43, 44, 45, 18, 19, 20, 90, 91, 92, 93, 94, 95, 96, 97, 98, 99, 100, 101, 102, 103, 104, 105, 106, 107, 108, 109, 110] (by decide +kernel) (by decide +kernel)
set_option maxRecDepth 20000 in
theorem gX2_mark_X2_tellsOf : GoodIn wsX2_mark (wsV RX2 123 RX2 yX2_tellsOf wsX2_tellsOf) := goodIn_app (goodIn_of _ (by decide +kernel)) ggX2_mark_X2_tellsOf
theorem dX2_mark_0 : decode cX2_mark 0 = .ok (.aload_n 0, 1) := by decide +kernel
theorem dX2_mark_1 : decode cX2_mark 1 = .ok (.iconst 0, 1) := by decide +kernel
theorem dX2_mark_2 : decode cX2_mark 2 = .ok (.putfield 59, 3) := by decide +kernel
theorem dX2_mark_5 : decode cX2_mark 5 = .ok (.aload_n 0, 1) := by decide +kernel
theorem dX2_mark_6 : decode cX2_mark 6 = .ok (.iload_n 1, 1) := by decide +kernel
theorem dX2_mark_7 : decode cX2_mark 7 = .ok (.invokevirtual 166, 3) := by decide +kernel
theorem dX2_mark_10 : decode cX2_mark 10 = .ok (.ifCond .ne 11, 3) := by decide +kernel
theorem dX2_mark_13 : decode cX2_mark 13 = .ok (.aload_n 0, 1) := by decide +kernel
theorem dX2_mark_14 : decode cX2_mark 14 = .ok (.iload_n 2, 1) := by decide +kernel
theorem dX2_mark_15 : decode cX2_mark 15 = .ok (.invokevirtual 128, 3) := by decide +kernel
theorem dX2_mark_18 : decode cX2_mark 18 = .ok (.ifCond .eq 5, 3) := by decide +kernel
theorem dX2_mark_21 : decode cX2_mark 21 = .ok (.iconst (-1), 1) := by decide +kernel
theorem dX2_mark_22 : decode cX2_mark 22 = .ok (.ireturn, 1) := by decide +kernel
theorem dX2_mark_23 : decode cX2_mark 23 = .ok (.aload_n 0, 1) := by decide +kernel
theorem dX2_mark_24 : decode cX2_mark 24 = .ok (.invokevirtual 140, 3) := by decide +kernel
theorem dX2_mark_27 : decode cX2_mark 27 = .ok (.ifCond .eq 6, 3) := by decide +kernel
theorem dX2_mark_30 : decode cX2_mark 30 = .ok (.bipush (-3), 2) := by decide +kernel
theorem dX2_mark_32 : decode cX2_mark 32 = .ok (.ireturn, 1) := by decide +kernel
theorem dX2_mark_33 : decode cX2_mark 33 = .ok (.aload_n 0, 1) := by decide +kernel
theorem dX2_mark_34 : decode cX2_mark 34 = .ok (.aload_n 0, 1) := by decide +kernel
theorem dX2_mark_35 : decode cX2_mark 35 = .ok (.getfield 40, 3) := by decide +kernel
theorem dX2_mark_38 : decode cX2_mark 38 = .ok (.iload_n 2, 1) := by decide +kernel
theorem dX2_mark_39 : decode cX2_mark 39 = .ok (.iaload, 1) := by decide +kernel
theorem dX2_mark_40 : decode cX2_mark 40 = .ok (.aload_n 0, 1) := by decide +kernel
theorem dX2_mark_41 : decode cX2_mark 41 = .ok (.aload_n 0, 1) := by decide +kernel
theorem dX2_mark_42 : decode cX2_mark 42 = .ok (.iload_n 1, 1) := by decide +kernel
theorem dX2_mark_43 : decode cX2_mark 43 = .ok (.invokevirtual 169, 3) := by decide +kernel
theorem dX2_mark_46 : decode cX2_mark 46 = .ok (.iload_n 2, 1) := by decide +kernel
theorem dX2_mark_47 : decode cX2_mark 47 = .ok (.invokevirtual 144, 3) := by decide +kernel
theorem dX2_mark_50 : decode cX2_mark 50 = .ok (.iload_n 3, 1) := by decide +kernel
theorem dX2_mark_51 : decode cX2_mark 51 = .ok (.invokevirtual 123, 3) := by decide +kernel
theorem dX2_mark_54 : decode cX2_mark 54 = .ok (.istore 4, 2) := by decide +kernel
theorem dX2_mark_56 : decode cX2_mark 56 = .ok (.iload 4, 2) := by decide +kernel
theorem dX2_mark_58 : decode cX2_mark 58 = .ok (.ifCond .ne 16, 3) := by decide +kernel
theorem dX2_mark_61 : decode cX2_mark 61 = .ok (.aload_n 0, 1) := by decide +kernel
theorem dX2_mark_62 : decode cX2_mark 62 = .ok (.dup, 1) := by decide +kernel
theorem dX2_mark_63 : decode cX2_mark 63 = .ok (.getfield 172, 3) := by decide +kernel
theorem dX2_mark_66 : decode cX2_mark 66 = .ok (.iconst 1, 1) := by decide +kernel
theorem dX2_mark_67 : decode cX2_mark 67 = .ok (.iadd, 1) := by decide +kernel
theorem dX2_mark_68 : decode cX2_mark 68 = .ok (.putfield 172, 3) := by decide +kernel
theorem dX2_mark_71 : decode cX2_mark 71 = .ok (.goto 44, 3) := by decide +kernel
theorem dX2_mark_74 : decode cX2_mark 74 = .ok (.aload_n 0, 1) := by decide +kernel
theorem dX2_mark_75 : decode cX2_mark 75 = .ok (.dup, 1) := by decide +kernel
theorem dX2_mark_76 : decode cX2_mark 76 = .ok (.getfield 175, 3) := by decide +kernel
theorem dX2_mark_79 : decode cX2_mark 79 = .ok (.iconst 1, 1) := by decide +kernel
theorem dX2_mark_80 : decode cX2_mark 80 = .ok (.iadd, 1) := by decide +kernel
theorem dX2_mark_81 : decode cX2_mark 81 = .ok (.putfield 175, 3) := by decide +kernel
theorem dX2_mark_84 : decode cX2_mark 84 = .ok (.aload_n 0, 1) := by decide +kernel
theorem dX2_mark_85 : decode cX2_mark 85 = .ok (.getfield 56, 3) := by decide +kernel
theorem dX2_mark_88 : decode cX2_mark 88 = .ok (.bipush 8, 2) := by decide +kernel
theorem dX2_mark_90 : decode cX2_mark 90 = .ok (.bipush 8, 2) := by decide +kernel
theorem dX2_mark_92 : decode cX2_mark 92 = .ok (.iload_n 1, 1) := by decide +kernel
theorem dX2_mark_93 : decode cX2_mark 93 = .ok (.bipush 10, 2) := by decide +kernel
theorem dX2_mark_95 : decode cX2_mark 95 = .ok (.idiv, 1) := by decide +kernel
theorem dX2_mark_96 : decode cX2_mark 96 = .ok (.imul, 1) := by decide +kernel
theorem dX2_mark_97 : decode cX2_mark 97 = .ok (.iload_n 1, 1) := by decide +kernel
theorem dX2_mark_98 : decode cX2_mark 98 = .ok (.bipush 10, 2) := by decide +kernel
theorem dX2_mark_100 : decode cX2_mark 100 = .ok (.irem, 1) := by decide +kernel
theorem dX2_mark_101 : decode cX2_mark 101 = .ok (.iadd, 1) := by decide +kernel
theorem dX2_mark_102 : decode cX2_mark 102 = .ok (.imul, 1) := by decide +kernel
theorem dX2_mark_103 : decode cX2_mark 103 = .ok (.aload_n 0, 1) := by decide +kernel
theorem dX2_mark_104 : decode cX2_mark 104 = .ok (.getfield 40, 3) := by decide +kernel
theorem dX2_mark_107 : decode cX2_mark 107 = .ok (.iload_n 2, 1) := by decide +kernel
theorem dX2_mark_108 : decode cX2_mark 108 = .ok (.iaload, 1) := by decide +kernel
theorem dX2_mark_109 : decode cX2_mark 109 = .ok (.iadd, 1) := by decide +kernel
theorem dX2_mark_110 : decode cX2_mark 110 = .ok (.dup2, 1) := by decide +kernel
theorem dX2_mark_111 : decode cX2_mark 111 = .ok (.iaload, 1) := by decide +kernel
theorem dX2_mark_112 : decode cX2_mark 112 = .ok (.iconst 1, 1) := by decide +kernel
theorem dX2_mark_113 : decode cX2_mark 113 = .ok (.iadd, 1) := by decide +kernel
theorem dX2_mark_114 : decode cX2_mark 114 = .ok (.iastore, 1) := by decide +kernel
theorem dX2_mark_115 : decode cX2_mark 115 = .ok (.iload 4, 2) := by decide +kernel
theorem dX2_mark_117 : decode cX2_mark 117 = .ok (.ireturn, 1) := by decide +kernel
theorem dX2_missedOf_0 : decode cX2_missedOf 0 = .ok (.iconst 0, 1) := by decide +kernel
theorem dX2_missedOf_1 : decode cX2_missedOf 1 = .ok (.istore_n 3, 1) := by decide +kernel
theorem dX2_missedOf_2 : decode cX2_missedOf 2 = .ok (.iconst 0, 1) := by decide +kernel
theorem dX2_missedOf_3 : decode cX2_missedOf 3 = .ok (.istore 4, 2) := by decide +kernel
theorem dX2_missedOf_5 : decode cX2_missedOf 5 = .ok (.iload 4, 2) := by decide +kernel
theorem dX2_missedOf_7 : decode cX2_missedOf 7 = .ok (.bipush 8, 2) := by decide +kernel
theorem dX2_missedOf_9 : decode cX2_missedOf 9 = .ok (.if_icmp .ge 51, 3) := by decide +kernel
theorem dX2_missedOf_12 : decode cX2_missedOf 12 = .ok (.iload_n 3, 1) := by decide +kernel
theorem dX2_missedOf_13 : decode cX2_missedOf 13 = .ok (.iload_n 2, 1) := by decide +kernel
theorem dX2_missedOf_14 : decode cX2_missedOf 14 = .ok (.bipush (-9), 2) := by decide +kernel
theorem dX2_missedOf_16 : decode cX2_missedOf 16 = .ok (.if_icmp .eq 9, 3) := by decide +kernel
theorem dX2_missedOf_19 : decode cX2_missedOf 19 = .ok (.iload_n 2, 1) := by decide +kernel
theorem dX2_missedOf_20 : decode cX2_missedOf 20 = .ok (.iload 4, 2) := by decide +kernel
theorem dX2_missedOf_22 : decode cX2_missedOf 22 = .ok (.if_icmp .ne 29, 3) := by decide +kernel
theorem dX2_missedOf_25 : decode cX2_missedOf 25 = .ok (.aload_n 0, 1) := by decide +kernel
theorem dX2_missedOf_26 : decode cX2_missedOf 26 = .ok (.getfield 56, 3) := by decide +kernel
theorem dX2_missedOf_29 : decode cX2_missedOf 29 = .ok (.bipush 8, 2) := by decide +kernel
theorem dX2_missedOf_31 : decode cX2_missedOf 31 = .ok (.bipush 8, 2) := by decide +kernel
theorem dX2_missedOf_33 : decode cX2_missedOf 33 = .ok (.iload_n 1, 1) := by decide +kernel
theorem dX2_missedOf_34 : decode cX2_missedOf 34 = .ok (.bipush 10, 2) := by decide +kernel
theorem dX2_missedOf_36 : decode cX2_missedOf 36 = .ok (.idiv, 1) := by decide +kernel
theorem dX2_missedOf_37 : decode cX2_missedOf 37 = .ok (.imul, 1) := by decide +kernel
theorem dX2_missedOf_38 : decode cX2_missedOf 38 = .ok (.iload_n 1, 1) := by decide +kernel
theorem dX2_missedOf_39 : decode cX2_missedOf 39 = .ok (.bipush 10, 2) := by decide +kernel
theorem dX2_missedOf_41 : decode cX2_missedOf 41 = .ok (.irem, 1) := by decide +kernel
theorem dX2_missedOf_42 : decode cX2_missedOf 42 = .ok (.iadd, 1) := by decide +kernel
theorem dX2_missedOf_43 : decode cX2_missedOf 43 = .ok (.imul, 1) := by decide +kernel
theorem dX2_missedOf_44 : decode cX2_missedOf 44 = .ok (.iload 4, 2) := by decide +kernel
theorem dX2_missedOf_46 : decode cX2_missedOf 46 = .ok (.iadd, 1) := by decide +kernel
theorem dX2_missedOf_47 : decode cX2_missedOf 47 = .ok (.iaload, 1) := by decide +kernel
theorem dX2_missedOf_48 : decode cX2_missedOf 48 = .ok (.goto 4, 3) := by decide +kernel
theorem dX2_missedOf_51 : decode cX2_missedOf 51 = .ok (.iconst 0, 1) := by decide +kernel
theorem dX2_missedOf_52 : decode cX2_missedOf 52 = .ok (.iadd, 1) := by decide +kernel
theorem dX2_missedOf_53 : decode cX2_missedOf 53 = .ok (.istore_n 3, 1) := by decide +kernel
theorem dX2_missedOf_54 : decode cX2_missedOf 54 = .ok (.iinc 4 1, 3) := by decide +kernel
theorem dX2_missedOf_57 : decode cX2_missedOf 57 = .ok (.goto (-52), 3) := by decide +kernel
theorem dX2_missedOf_60 : decode cX2_missedOf 60 = .ok (.iload_n 3, 1) := by decide +kernel
theorem dX2_missedOf_61 : decode cX2_missedOf 61 = .ok (.ireturn, 1) := by decide +kernel
set_option maxRecDepth 20000 in
theorem ggX2_missed_X2_noSeat : GoodIn wsX2_missed wsX2_noSeat := goodIn_r _ [6, 7, 8, 22, 23, 24, 25, 26, 27, 28, 29, 30, 31, 32, 33, 34, 35, 36, 37, 38, 39, 40, 41, 42] (by decide +kernel) (by decide +kernel)
set_option maxRecDepth 20000 in
theorem gX2_missed_X2_noSeat : GoodIn wsX2_missed (wsV RX2 166 RX2 yX2_noSeat wsX2_noSeat) := goodIn_app (goodIn_of _ (by decide +kernel)) ggX2_missed_X2_noSeat
set_option maxRecDepth 20000 in
theorem ggX2_missed_X2_noKind : GoodIn wsX2_missed wsX2_noKind := goodIn_r _ [12, 13, 14, 15, 5, 16, 22, 23, 24, 25, 26, 27, 28, 29, 30, 31, 32, 33, 34, 35, 36, 37, 38, 39, 40, 41, 42] (by decide +kernel) (by decide +kernel)
set_option maxRecDepth 20000 in
theorem gX2_missed_X2_noKind : GoodIn wsX2_missed (wsV RX2 91 RX2 yX2_noKind wsX2_noKind) := goodIn_app (goodIn_of _ (by decide +kernel)) ggX2_missed_X2_noKind
set_option maxRecDepth 20000 in
theorem ggX2_missed_X2_missedOf : GoodIn wsX2_missed wsX2_missedOf := goodIn_r _ [20, 21, 22, 23, 24, 25, 26, 27, 28, 29, 30, 31, 32, 33, 34, 35, 36, 37, 38, 39, 40, 41, 42] (by decide +kernel) (by decide +kernel)
set_option maxRecDepth 20000 in
theorem gX2_missed_X2_missedOf : GoodIn wsX2_missed (wsV RX2 178 RX2 yX2_missedOf wsX2_missedOf) := goodIn_app (goodIn_of _ (by decide +kernel)) ggX2_missed_X2_missedOf
theorem dX2_missed_0 : decode cX2_missed 0 = .ok (.aload_n 0, 1) := by decide +kernel
theorem dX2_missed_1 : decode cX2_missed 1 = .ok (.iconst 0, 1) := by decide +kernel
theorem dX2_missed_2 : decode cX2_missed 2 = .ok (.putfield 59, 3) := by decide +kernel
theorem dX2_missed_5 : decode cX2_missed 5 = .ok (.aload_n 0, 1) := by decide +kernel
theorem dX2_missed_6 : decode cX2_missed 6 = .ok (.iload_n 1, 1) := by decide +kernel
theorem dX2_missed_7 : decode cX2_missed 7 = .ok (.invokevirtual 166, 3) := by decide +kernel
theorem dX2_missed_10 : decode cX2_missed 10 = .ok (.ifCond .ne 17, 3) := by decide +kernel
theorem dX2_missed_13 : decode cX2_missed 13 = .ok (.iload_n 2, 1) := by decide +kernel
theorem dX2_missed_14 : decode cX2_missed 14 = .ok (.bipush (-9), 2) := by decide +kernel
theorem dX2_missed_16 : decode cX2_missed 16 = .ok (.if_icmp .eq 15, 3) := by decide +kernel
theorem dX2_missed_19 : decode cX2_missed 19 = .ok (.aload_n 0, 1) := by decide +kernel
theorem dX2_missed_20 : decode cX2_missed 20 = .ok (.iload_n 2, 1) := by decide +kernel
theorem dX2_missed_21 : decode cX2_missed 21 = .ok (.invokevirtual 91, 3) := by decide +kernel
theorem dX2_missed_24 : decode cX2_missed 24 = .ok (.ifCond .eq 7, 3) := by decide +kernel
theorem dX2_missed_27 : decode cX2_missed 27 = .ok (.iconst (-1), 1) := by decide +kernel
theorem dX2_missed_28 : decode cX2_missed 28 = .ok (.goto 9, 3) := by decide +kernel
theorem dX2_missed_31 : decode cX2_missed 31 = .ok (.aload_n 0, 1) := by decide +kernel
theorem dX2_missed_32 : decode cX2_missed 32 = .ok (.iload_n 1, 1) := by decide +kernel
theorem dX2_missed_33 : decode cX2_missed 33 = .ok (.iload_n 2, 1) := by decide +kernel
theorem dX2_missed_34 : decode cX2_missed 34 = .ok (.invokevirtual 178, 3) := by decide +kernel
theorem dX2_missed_37 : decode cX2_missed 37 = .ok (.ireturn, 1) := by decide +kernel
set_option maxRecDepth 20000 in
theorem ggX2_review_X2_noSeat : GoodIn wsX2_review wsX2_noSeat := goodIn_r _ [8, 9, 10, 23, 24, 25, 26, 27, 28, 29, 30, 31, 32, 33, 34, 35, 36, 37, 38, 39, 40, 41, 42, 43] (by decide +kernel) (by decide +kernel)
set_option maxRecDepth 20000 in
theorem gX2_review_X2_noSeat : GoodIn wsX2_review (wsV RX2 166 RX2 yX2_noSeat wsX2_noSeat) := goodIn_app (goodIn_of _ (by decide +kernel)) ggX2_review_X2_noSeat
set_option maxRecDepth 20000 in
theorem ggX2_review_X2_noKind : GoodIn wsX2_review wsX2_noKind := goodIn_r _ [14, 3, 15, 16, 7, 17, 23, 24, 25, 26, 27, 28, 29, 30, 31, 32, 33, 34, 35, 36, 37, 38, 39, 40, 41, 42, 43] (by decide +kernel) (by decide +kernel)
set_option maxRecDepth 20000 in
theorem gX2_review_X2_noKind : GoodIn wsX2_review (wsV RX2 91 RX2 yX2_noKind wsX2_noKind) := goodIn_app (goodIn_of _ (by decide +kernel)) ggX2_review_X2_noKind
set_option maxRecDepth 20000 in
theorem ggX2_review_X2_in : GoodIn wsX2_review wsX2_in := goodIn_r _ [17] (by decide +kernel) (by decide +kernel)
set_option maxRecDepth 20000 in
theorem gX2_review_X2_in : GoodIn wsX2_review (va_wsS RX2 65 yX2_in wsX2_in) := goodIn_app (goodIn_of _ (by decide +kernel)) ggX2_review_X2_in
set_option maxRecDepth 20000 in
theorem ggX2_review_X2_missedOf : GoodIn wsX2_review wsX2_missedOf := goodIn_r _ [21, 22, 23, 24, 25, 26, 27, 28, 29, 30, 31, 32, 33, 34, 35, 36, 37, 38, 39, 40, 41, 42, 43] (by decide +kernel) (by decide +kernel)
set_option maxRecDepth 20000 in
theorem gX2_review_X2_missedOf : GoodIn wsX2_review (wsV RX2 178 RX2 yX2_missedOf wsX2_missedOf) := goodIn_app (goodIn_of _ (by decide +kernel)) ggX2_review_X2_missedOf
theorem dX2_review_0 : decode cX2_review 0 = .ok (.aload_n 0, 1) := by decide +kernel
theorem dX2_review_1 : decode cX2_review 1 = .ok (.iconst 0, 1) := by decide +kernel
theorem dX2_review_2 : decode cX2_review 2 = .ok (.putfield 59, 3) := by decide +kernel
theorem dX2_review_5 : decode cX2_review 5 = .ok (.aload_n 0, 1) := by decide +kernel
theorem dX2_review_6 : decode cX2_review 6 = .ok (.iload_n 1, 1) := by decide +kernel
theorem dX2_review_7 : decode cX2_review 7 = .ok (.invokevirtual 166, 3) := by decide +kernel
theorem dX2_review_10 : decode cX2_review 10 = .ok (.ifCond .ne 11, 3) := by decide +kernel
theorem dX2_review_13 : decode cX2_review 13 = .ok (.aload_n 0, 1) := by decide +kernel
theorem dX2_review_14 : decode cX2_review 14 = .ok (.iload_n 3, 1) := by decide +kernel
theorem dX2_review_15 : decode cX2_review 15 = .ok (.invokevirtual 91, 3) := by decide +kernel
theorem dX2_review_18 : decode cX2_review 18 = .ok (.ifCond .eq 5, 3) := by decide +kernel
theorem dX2_review_21 : decode cX2_review 21 = .ok (.iconst (-1), 1) := by decide +kernel
theorem dX2_review_22 : decode cX2_review 22 = .ok (.ireturn, 1) := by decide +kernel
theorem dX2_review_23 : decode cX2_review 23 = .ok (.iload_n 2, 1) := by decide +kernel
theorem dX2_review_24 : decode cX2_review 24 = .ok (.i2l, 1) := by decide +kernel
theorem dX2_review_25 : decode cX2_review 25 = .ok (.lconst 1, 1) := by decide +kernel
theorem dX2_review_26 : decode cX2_review 26 = .ok (.ldc2_w 181, 3) := by decide +kernel
theorem dX2_review_29 : decode cX2_review 29 = .ok (.invokestatic 65, 3) := by decide +kernel
theorem dX2_review_32 : decode cX2_review 32 = .ok (.ifCond .ne 6, 3) := by decide +kernel
theorem dX2_review_35 : decode cX2_review 35 = .ok (.bipush (-2), 2) := by decide +kernel
theorem dX2_review_37 : decode cX2_review 37 = .ok (.ireturn, 1) := by decide +kernel
theorem dX2_review_38 : decode cX2_review 38 = .ok (.aload_n 0, 1) := by decide +kernel
theorem dX2_review_39 : decode cX2_review 39 = .ok (.iload_n 1, 1) := by decide +kernel
theorem dX2_review_40 : decode cX2_review 40 = .ok (.bipush (-9), 2) := by decide +kernel
theorem dX2_review_42 : decode cX2_review 42 = .ok (.invokevirtual 178, 3) := by decide +kernel
theorem dX2_review_45 : decode cX2_review 45 = .ok (.istore 4, 2) := by decide +kernel
theorem dX2_review_47 : decode cX2_review 47 = .ok (.iload 4, 2) := by decide +kernel
theorem dX2_review_49 : decode cX2_review 49 = .ok (.ifCond .ne 6, 3) := by decide +kernel
theorem dX2_review_52 : decode cX2_review 52 = .ok (.bipush (-3), 2) := by decide +kernel
theorem dX2_review_54 : decode cX2_review 54 = .ok (.ireturn, 1) := by decide +kernel
theorem dX2_review_55 : decode cX2_review 55 = .ok (.iload_n 2, 1) := by decide +kernel
theorem dX2_review_56 : decode cX2_review 56 = .ok (.istore 5, 2) := by decide +kernel
theorem dX2_review_58 : decode cX2_review 58 = .ok (.iconst 0, 1) := by decide +kernel
theorem dX2_review_59 : decode cX2_review 59 = .ok (.istore 6, 2) := by decide +kernel
theorem dX2_review_61 : decode cX2_review 61 = .ok (.iload_n 2, 1) := by decide +kernel
theorem dX2_review_62 : decode cX2_review 62 = .ok (.aload_n 0, 1) := by decide +kernel
theorem dX2_review_63 : decode cX2_review 63 = .ok (.iload_n 1, 1) := by decide +kernel
theorem dX2_review_64 : decode cX2_review 64 = .ok (.iload_n 3, 1) := by decide +kernel
theorem dX2_review_65 : decode cX2_review 65 = .ok (.invokevirtual 178, 3) := by decide +kernel
theorem dX2_review_68 : decode cX2_review 68 = .ok (.imul, 1) := by decide +kernel
theorem dX2_review_69 : decode cX2_review 69 = .ok (.iload 4, 2) := by decide +kernel
theorem dX2_review_71 : decode cX2_review 71 = .ok (.irem, 1) := by decide +kernel
theorem dX2_review_72 : decode cX2_review 72 = .ok (.istore 7, 2) := by decide +kernel
theorem dX2_review_74 : decode cX2_review 74 = .ok (.iconst 0, 1) := by decide +kernel
theorem dX2_review_75 : decode cX2_review 75 = .ok (.istore 8, 2) := by decide +kernel
theorem dX2_review_77 : decode cX2_review 77 = .ok (.iload 8, 2) := by decide +kernel
theorem dX2_review_79 : decode cX2_review 79 = .ok (.aload_n 0, 1) := by decide +kernel
theorem dX2_review_80 : decode cX2_review 80 = .ok (.getfield 62, 3) := by decide +kernel
theorem dX2_review_83 : decode cX2_review 83 = .ok (.if_icmp .ge 70, 3) := by decide +kernel
theorem dX2_review_86 : decode cX2_review 86 = .ok (.iload_n 2, 1) := by decide +kernel
theorem dX2_review_87 : decode cX2_review 87 = .ok (.aload_n 0, 1) := by decide +kernel
theorem dX2_review_88 : decode cX2_review 88 = .ok (.iload_n 1, 1) := by decide +kernel
theorem dX2_review_89 : decode cX2_review 89 = .ok (.iload 8, 2) := by decide +kernel
theorem dX2_review_91 : decode cX2_review 91 = .ok (.invokevirtual 178, 3) := by decide +kernel
theorem dX2_review_94 : decode cX2_review 94 = .ok (.imul, 1) := by decide +kernel
theorem dX2_review_95 : decode cX2_review 95 = .ok (.iload 4, 2) := by decide +kernel
theorem dX2_review_97 : decode cX2_review 97 = .ok (.irem, 1) := by decide +kernel
theorem dX2_review_98 : decode cX2_review 98 = .ok (.istore 9, 2) := by decide +kernel
theorem dX2_review_100 : decode cX2_review 100 = .ok (.iload 5, 2) := by decide +kernel
theorem dX2_review_102 : decode cX2_review 102 = .ok (.iload_n 2, 1) := by decide +kernel
theorem dX2_review_103 : decode cX2_review 103 = .ok (.aload_n 0, 1) := by decide +kernel
theorem dX2_review_104 : decode cX2_review 104 = .ok (.iload_n 1, 1) := by decide +kernel
theorem dX2_review_105 : decode cX2_review 105 = .ok (.iload 8, 2) := by decide +kernel
theorem dX2_review_107 : decode cX2_review 107 = .ok (.invokevirtual 178, 3) := by decide +kernel
theorem dX2_review_110 : decode cX2_review 110 = .ok (.imul, 1) := by decide +kernel
theorem dX2_review_111 : decode cX2_review 111 = .ok (.iload 4, 2) := by decide +kernel
theorem dX2_review_113 : decode cX2_review 113 = .ok (.idiv, 1) := by decide +kernel
theorem dX2_review_114 : decode cX2_review 114 = .ok (.isub, 1) := by decide +kernel
theorem dX2_review_115 : decode cX2_review 115 = .ok (.istore 5, 2) := by decide +kernel
theorem dX2_review_117 : decode cX2_review 117 = .ok (.iload 6, 2) := by decide +kernel
theorem dX2_review_119 : decode cX2_review 119 = .ok (.iload 9, 2) := by decide +kernel
theorem dX2_review_121 : decode cX2_review 121 = .ok (.iload 7, 2) := by decide +kernel
theorem dX2_review_123 : decode cX2_review 123 = .ok (.if_icmp .gt 16, 3) := by decide +kernel
theorem dX2_review_126 : decode cX2_review 126 = .ok (.iload 9, 2) := by decide +kernel
theorem dX2_review_128 : decode cX2_review 128 = .ok (.iload 7, 2) := by decide +kernel
theorem dX2_review_130 : decode cX2_review 130 = .ok (.if_icmp .ne 13, 3) := by decide +kernel
theorem dX2_review_133 : decode cX2_review 133 = .ok (.iload 8, 2) := by decide +kernel
theorem dX2_review_135 : decode cX2_review 135 = .ok (.iload_n 3, 1) := by decide +kernel
theorem dX2_review_136 : decode cX2_review 136 = .ok (.if_icmp .ge 7, 3) := by decide +kernel
theorem dX2_review_139 : decode cX2_review 139 = .ok (.iconst 1, 1) := by decide +kernel
theorem dX2_review_140 : decode cX2_review 140 = .ok (.goto 4, 3) := by decide +kernel
theorem dX2_review_143 : decode cX2_review 143 = .ok (.iconst 0, 1) := by decide +kernel
theorem dX2_review_144 : decode cX2_review 144 = .ok (.iadd, 1) := by decide +kernel
theorem dX2_review_145 : decode cX2_review 145 = .ok (.istore 6, 2) := by decide +kernel
theorem dX2_review_147 : decode cX2_review 147 = .ok (.iinc 8 1, 3) := by decide +kernel
theorem dX2_review_150 : decode cX2_review 150 = .ok (.goto (-73), 3) := by decide +kernel
theorem dX2_review_153 : decode cX2_review 153 = .ok (.iload_n 2, 1) := by decide +kernel
theorem dX2_review_154 : decode cX2_review 154 = .ok (.aload_n 0, 1) := by decide +kernel
theorem dX2_review_155 : decode cX2_review 155 = .ok (.iload_n 1, 1) := by decide +kernel
theorem dX2_review_156 : decode cX2_review 156 = .ok (.iload_n 3, 1) := by decide +kernel
theorem dX2_review_157 : decode cX2_review 157 = .ok (.invokevirtual 178, 3) := by decide +kernel
theorem dX2_review_160 : decode cX2_review 160 = .ok (.imul, 1) := by decide +kernel
theorem dX2_review_161 : decode cX2_review 161 = .ok (.iload 4, 2) := by decide +kernel
theorem dX2_review_163 : decode cX2_review 163 = .ok (.idiv, 1) := by decide +kernel
theorem dX2_review_164 : decode cX2_review 164 = .ok (.iload 7, 2) := by decide +kernel
theorem dX2_review_166 : decode cX2_review 166 = .ok (.ifCond .le 14, 3) := by decide +kernel
theorem dX2_review_169 : decode cX2_review 169 = .ok (.iload 6, 2) := by decide +kernel
theorem dX2_review_171 : decode cX2_review 171 = .ok (.iload 5, 2) := by decide +kernel
theorem dX2_review_173 : decode cX2_review 173 = .ok (.if_icmp .ge 7, 3) := by decide +kernel
theorem dX2_review_176 : decode cX2_review 176 = .ok (.iconst 1, 1) := by decide +kernel
theorem dX2_review_177 : decode cX2_review 177 = .ok (.goto 4, 3) := by decide +kernel
theorem dX2_review_180 : decode cX2_review 180 = .ok (.iconst 0, 1) := by decide +kernel
theorem dX2_review_181 : decode cX2_review 181 = .ok (.iadd, 1) := by decide +kernel
theorem dX2_review_182 : decode cX2_review 182 = .ok (.ireturn, 1) := by decide +kernel
set_option maxRecDepth 20000 in
theorem ggX2_all_X2_noKind : GoodIn wsX2_all wsX2_noKind := goodIn_r _ [7, 8, 9, 10, 6, 11, 12, 13, 14, 15, 16, 17, 18, 19, 20, 21, 22, 23, 24, 25, 26, 27, 28, 29, 30, 31, 32] (by decide +kernel) (by decide +kernel)
set_option maxRecDepth 20000 in
theorem gX2_all_X2_noKind : GoodIn wsX2_all (wsV RX2 91 RX2 yX2_noKind wsX2_noKind) := goodIn_app (goodIn_of _ (by decide +kernel)) ggX2_all_X2_noKind
theorem dX2_all_0 : decode cX2_all 0 = .ok (.aload_n 0, 1) := by decide +kernel
theorem dX2_all_1 : decode cX2_all 1 = .ok (.iconst 0, 1) := by decide +kernel
theorem dX2_all_2 : decode cX2_all 2 = .ok (.putfield 59, 3) := by decide +kernel
theorem dX2_all_5 : decode cX2_all 5 = .ok (.aload_n 0, 1) := by decide +kernel
theorem dX2_all_6 : decode cX2_all 6 = .ok (.iload_n 1, 1) := by decide +kernel
theorem dX2_all_7 : decode cX2_all 7 = .ok (.invokevirtual 91, 3) := by decide +kernel
theorem dX2_all_10 : decode cX2_all 10 = .ok (.ifCond .eq 5, 3) := by decide +kernel
theorem dX2_all_13 : decode cX2_all 13 = .ok (.iconst (-1), 1) := by decide +kernel
theorem dX2_all_14 : decode cX2_all 14 = .ok (.ireturn, 1) := by decide +kernel
theorem dX2_all_15 : decode cX2_all 15 = .ok (.iconst 0, 1) := by decide +kernel
theorem dX2_all_16 : decode cX2_all 16 = .ok (.istore_n 2, 1) := by decide +kernel
theorem dX2_all_17 : decode cX2_all 17 = .ok (.iconst 0, 1) := by decide +kernel
theorem dX2_all_18 : decode cX2_all 18 = .ok (.istore_n 3, 1) := by decide +kernel
theorem dX2_all_19 : decode cX2_all 19 = .ok (.iload_n 3, 1) := by decide +kernel
theorem dX2_all_20 : decode cX2_all 20 = .ok (.bipush 64, 2) := by decide +kernel
theorem dX2_all_22 : decode cX2_all 22 = .ok (.if_icmp .ge 23, 3) := by decide +kernel
theorem dX2_all_25 : decode cX2_all 25 = .ok (.iload_n 2, 1) := by decide +kernel
theorem dX2_all_26 : decode cX2_all 26 = .ok (.aload_n 0, 1) := by decide +kernel
theorem dX2_all_27 : decode cX2_all 27 = .ok (.getfield 56, 3) := by decide +kernel
theorem dX2_all_30 : decode cX2_all 30 = .ok (.bipush 8, 2) := by decide +kernel
theorem dX2_all_32 : decode cX2_all 32 = .ok (.iload_n 3, 1) := by decide +kernel
theorem dX2_all_33 : decode cX2_all 33 = .ok (.imul, 1) := by decide +kernel
theorem dX2_all_34 : decode cX2_all 34 = .ok (.iload_n 1, 1) := by decide +kernel
theorem dX2_all_35 : decode cX2_all 35 = .ok (.iadd, 1) := by decide +kernel
theorem dX2_all_36 : decode cX2_all 36 = .ok (.iaload, 1) := by decide +kernel
theorem dX2_all_37 : decode cX2_all 37 = .ok (.iadd, 1) := by decide +kernel
theorem dX2_all_38 : decode cX2_all 38 = .ok (.istore_n 2, 1) := by decide +kernel
theorem dX2_all_39 : decode cX2_all 39 = .ok (.iinc 3 1, 3) := by decide +kernel
theorem dX2_all_42 : decode cX2_all 42 = .ok (.goto (-23), 3) := by decide +kernel
theorem dX2_all_45 : decode cX2_all 45 = .ok (.iload_n 2, 1) := by decide +kernel
theorem dX2_all_46 : decode cX2_all 46 = .ok (.ireturn, 1) := by decide +kernel
theorem dX2_total_0 : decode cX2_total 0 = .ok (.aload_n 0, 1) := by decide +kernel
theorem dX2_total_1 : decode cX2_total 1 = .ok (.iconst 0, 1) := by decide +kernel
theorem dX2_total_2 : decode cX2_total 2 = .ok (.putfield 59, 3) := by decide +kernel
theorem dX2_total_5 : decode cX2_total 5 = .ok (.iload_n 1, 1) := by decide +kernel
theorem dX2_total_6 : decode cX2_total 6 = .ok (.ifCond .ne 10, 3) := by decide +kernel
theorem dX2_total_9 : decode cX2_total 9 = .ok (.aload_n 0, 1) := by decide +kernel
theorem dX2_total_10 : decode cX2_total 10 = .ok (.getfield 62, 3) := by decide +kernel
theorem dX2_total_13 : decode cX2_total 13 = .ok (.goto 58, 3) := by decide +kernel
theorem dX2_total_16 : decode cX2_total 16 = .ok (.iload_n 1, 1) := by decide +kernel
theorem dX2_total_17 : decode cX2_total 17 = .ok (.iconst 1, 1) := by decide +kernel
theorem dX2_total_18 : decode cX2_total 18 = .ok (.if_icmp .ne 10, 3) := by decide +kernel
theorem dX2_total_21 : decode cX2_total 21 = .ok (.aload_n 0, 1) := by decide +kernel
theorem dX2_total_22 : decode cX2_total 22 = .ok (.getfield 69, 3) := by decide +kernel
theorem dX2_total_25 : decode cX2_total 25 = .ok (.goto 46, 3) := by decide +kernel
theorem dX2_total_28 : decode cX2_total 28 = .ok (.iload_n 1, 1) := by decide +kernel
theorem dX2_total_29 : decode cX2_total 29 = .ok (.iconst 2, 1) := by decide +kernel
theorem dX2_total_30 : decode cX2_total 30 = .ok (.if_icmp .ne 15, 3) := by decide +kernel
theorem dX2_total_33 : decode cX2_total 33 = .ok (.aload_n 0, 1) := by decide +kernel
theorem dX2_total_34 : decode cX2_total 34 = .ok (.getfield 47, 3) := by decide +kernel
theorem dX2_total_37 : decode cX2_total 37 = .ok (.aload_n 0, 1) := by decide +kernel
theorem dX2_total_38 : decode cX2_total 38 = .ok (.getfield 50, 3) := by decide +kernel
theorem dX2_total_41 : decode cX2_total 41 = .ok (.imul, 1) := by decide +kernel
theorem dX2_total_42 : decode cX2_total 42 = .ok (.goto 29, 3) := by decide +kernel
theorem dX2_total_45 : decode cX2_total 45 = .ok (.iload_n 1, 1) := by decide +kernel
theorem dX2_total_46 : decode cX2_total 46 = .ok (.iconst 3, 1) := by decide +kernel
theorem dX2_total_47 : decode cX2_total 47 = .ok (.if_icmp .ne 10, 3) := by decide +kernel
theorem dX2_total_50 : decode cX2_total 50 = .ok (.aload_n 0, 1) := by decide +kernel
theorem dX2_total_51 : decode cX2_total 51 = .ok (.getfield 172, 3) := by decide +kernel
theorem dX2_total_54 : decode cX2_total 54 = .ok (.goto 17, 3) := by decide +kernel
theorem dX2_total_57 : decode cX2_total 57 = .ok (.iload_n 1, 1) := by decide +kernel
theorem dX2_total_58 : decode cX2_total 58 = .ok (.iconst 4, 1) := by decide +kernel
theorem dX2_total_59 : decode cX2_total 59 = .ok (.if_icmp .ne 10, 3) := by decide +kernel
theorem dX2_total_62 : decode cX2_total 62 = .ok (.aload_n 0, 1) := by decide +kernel
theorem dX2_total_63 : decode cX2_total 63 = .ok (.getfield 175, 3) := by decide +kernel
theorem dX2_total_66 : decode cX2_total 66 = .ok (.goto 5, 3) := by decide +kernel
theorem dX2_total_69 : decode cX2_total 69 = .ok (.bipush (-2), 2) := by decide +kernel
theorem dX2_total_71 : decode cX2_total 71 = .ok (.ireturn, 1) := by decide +kernel
theorem dJ9_floorMod_7cf53_0 : decode cJ9_floorMod_7cf53 0 = .ok (.iload_n 0, 1) := by decide +kernel
theorem dJ9_floorMod_7cf53_1 : decode cJ9_floorMod_7cf53 1 = .ok (.iload_n 1, 1) := by decide +kernel
theorem dJ9_floorMod_7cf53_2 : decode cJ9_floorMod_7cf53 2 = .ok (.irem, 1) := by decide +kernel
theorem dJ9_floorMod_7cf53_3 : decode cJ9_floorMod_7cf53 3 = .ok (.istore_n 2, 1) := by decide +kernel
theorem dJ9_floorMod_7cf53_4 : decode cJ9_floorMod_7cf53 4 = .ok (.iload_n 0, 1) := by decide +kernel
theorem dJ9_floorMod_7cf53_5 : decode cJ9_floorMod_7cf53 5 = .ok (.iload_n 1, 1) := by decide +kernel
theorem dJ9_floorMod_7cf53_6 : decode cJ9_floorMod_7cf53 6 = .ok (.ixor, 1) := by decide +kernel
theorem dJ9_floorMod_7cf53_7 : decode cJ9_floorMod_7cf53 7 = .ok (.ifCond .ge 11, 3) := by decide +kernel
theorem dJ9_floorMod_7cf53_10 : decode cJ9_floorMod_7cf53 10 = .ok (.iload_n 2, 1) := by decide +kernel
theorem dJ9_floorMod_7cf53_11 : decode cJ9_floorMod_7cf53 11 = .ok (.ifCond .eq 7, 3) := by decide +kernel
theorem dJ9_floorMod_7cf53_14 : decode cJ9_floorMod_7cf53 14 = .ok (.iload_n 2, 1) := by decide +kernel
theorem dJ9_floorMod_7cf53_15 : decode cJ9_floorMod_7cf53 15 = .ok (.iload_n 1, 1) := by decide +kernel
theorem dJ9_floorMod_7cf53_16 : decode cJ9_floorMod_7cf53 16 = .ok (.iadd, 1) := by decide +kernel
theorem dJ9_floorMod_7cf53_17 : decode cJ9_floorMod_7cf53 17 = .ok (.ireturn, 1) := by decide +kernel
theorem dJ9_floorMod_7cf53_18 : decode cJ9_floorMod_7cf53 18 = .ok (.iload_n 2, 1) := by decide +kernel
theorem dJ9_floorMod_7cf53_19 : decode cJ9_floorMod_7cf53 19 = .ok (.ireturn, 1) := by decide +kernel
theorem dJ9_abs_0f7a4_0 : decode cJ9_abs_0f7a4 0 = .ok (.iload_n 0, 1) := by decide +kernel
theorem dJ9_abs_0f7a4_1 : decode cJ9_abs_0f7a4 1 = .ok (.ifCond .ge 8, 3) := by decide +kernel
theorem dJ9_abs_0f7a4_4 : decode cJ9_abs_0f7a4 4 = .ok (.iload_n 0, 1) := by decide +kernel
theorem dJ9_abs_0f7a4_5 : decode cJ9_abs_0f7a4 5 = .ok (.ineg, 1) := by decide +kernel
theorem dJ9_abs_0f7a4_6 : decode cJ9_abs_0f7a4 6 = .ok (.goto 4, 3) := by decide +kernel
theorem dJ9_abs_0f7a4_9 : decode cJ9_abs_0f7a4 9 = .ok (.iload_n 0, 1) := by decide +kernel
theorem dJ9_abs_0f7a4_10 : decode cJ9_abs_0f7a4 10 = .ok (.ireturn, 1) := by decide +kernel
theorem dJ9_min_7cf53_0 : decode cJ9_min_7cf53 0 = .ok (.iload_n 0, 1) := by decide +kernel
theorem dJ9_min_7cf53_1 : decode cJ9_min_7cf53 1 = .ok (.iload_n 1, 1) := by decide +kernel
theorem dJ9_min_7cf53_2 : decode cJ9_min_7cf53 2 = .ok (.if_icmp .gt 7, 3) := by decide +kernel
theorem dJ9_min_7cf53_5 : decode cJ9_min_7cf53 5 = .ok (.iload_n 0, 1) := by decide +kernel
theorem dJ9_min_7cf53_6 : decode cJ9_min_7cf53 6 = .ok (.goto 4, 3) := by decide +kernel
theorem dJ9_min_7cf53_9 : decode cJ9_min_7cf53 9 = .ok (.iload_n 1, 1) := by decide +kernel
theorem dJ9_min_7cf53_10 : decode cJ9_min_7cf53 10 = .ok (.ireturn, 1) := by decide +kernel
set_option maxRecDepth 20000 in
theorem ggL_law_X1_init : GoodIn wsL_law wsX1_init := goodIn_r _ [8, 9, 10, 11, 12, 13, 14, 15, 16, 17, 18, 19, 20, 21, 22, 23, 24, 25, 26, 27, 28, 29, 30, 31, 32, 33, 34, 35, 36, 37, 38, 567, 568, 569, 570, 571, 572, 573, 574, 575, 576, 577, 578, 600, 601, 602, 603, 604, 605, 606] (by decide +kernel) (by decide +kernel)
set_option maxRecDepth 20000 in
theorem gL_law_X1_init : GoodIn wsL_law (wsX1_init) := ggL_law_X1_init
set_option maxRecDepth 20000 in
theorem ggL_law_X2_init : GoodIn wsL_law wsX2_init := goodIn_r _ [41, 42, 10, 11, 15, 43, 44, 45, 46, 47, 48, 49, 50, 51, 52, 53, 54, 55, 56, 57, 58, 59, 60, 579, 580, 581, 582, 583, 584, 585, 586, 587, 588, 589, 590, 591, 592, 593, 594, 595, 596, 597, 598, 599] (by decide +kernel) (by decide +kernel)
set_option maxRecDepth 20000 in
theorem gL_law_X2_init : GoodIn wsL_law (wsX2_init) := ggL_law_X2_init
set_option maxRecDepth 20000 in
theorem ggL_law_X1_kind : GoodIn wsL_law wsX1_kind := goodIn_r _ [64, 14, 13, 65, 66, 67, 27, 68, 32, 69, 70, 71, 72, 37, 33, 34, 36, 73, 74, 75, 76, 77, 78, 79, 80, 35, 81, 82, 83, 84, 85, 86, 87, 88, 89, 90, 91, 92, 567, 568, 569, 570, 571, 572, 573, 574, 575, 576, 577, 578, 600, 601, 602, 603, 604, 605, 606] (by decide +kernel) (by decide +kernel)
set_option maxRecDepth 20000 in
theorem gL_law_X1_kind : GoodIn wsL_law (wsV RL 13 RX1 yX1_kind wsX1_kind) := goodIn_app (goodIn_of _ (by decide +kernel)) ggL_law_X1_kind
set_option maxRecDepth 20000 in
theorem ggL_law_X2_kind : GoodIn wsL_law wsX2_kind := goodIn_r _ [96, 97, 98, 99, 43, 45, 47, 100, 101, 5, 102, 579, 580, 581, 582, 583, 584, 585, 586, 587, 588, 589, 590, 591, 592, 593, 594, 595, 596, 597, 598, 599] (by decide +kernel) (by decide +kernel)
set_option maxRecDepth 20000 in
theorem gL_law_X2_kind : GoodIn wsL_law (wsV RL 17 RX2 yX2_kind wsX2_kind) := goodIn_app (goodIn_of _ (by decide +kernel)) ggL_law_X2_kind
set_option maxRecDepth 20000 in
theorem ggL_law_X1_range : GoodIn wsL_law wsX1_range := goodIn_r _ [106, 13, 107, 108, 109, 2, 110, 14, 111, 112, 27, 113, 114, 115, 116, 117, 118, 33, 34, 69, 70, 71, 72, 37, 36, 73, 74, 75, 76, 77, 78, 79, 80, 35, 81, 82, 83, 84, 32, 85, 86, 87, 88, 89, 90, 91, 92, 119, 120, 121, 122, 567, 568, 569, 570, 571, 572, 573, 574, 575, 576, 577, 578, 600, 601, 602, 603, 604, 605, 606] (by decide +kernel) (by decide +kernel)
set_option maxRecDepth 20000 in
theorem gL_law_X1_range : GoodIn wsL_law (wsV RL 18 RX1 yX1_range wsX1_range) := goodIn_app (goodIn_of _ (by decide +kernel)) ggL_law_X1_range
set_option maxRecDepth 20000 in
theorem ggL_law_X2_range : GoodIn wsL_law wsX2_range := goodIn_r _ [126, 97, 127, 44, 45, 50, 128, 129, 130, 5, 131, 99, 100, 101, 102, 132, 133, 134, 135, 54, 51, 136, 137, 138, 139, 43, 46, 140, 141, 142, 143, 144, 145, 146, 147, 148, 149, 150, 579, 580, 581, 582, 583, 584, 585, 586, 587, 588, 589, 590, 591, 592, 593, 594, 595, 596, 597, 598, 599] (by decide +kernel) (by decide +kernel)
set_option maxRecDepth 20000 in
theorem gL_law_X2_range : GoodIn wsL_law (wsV RL 22 RX2 yX2_range wsX2_range) := goodIn_app (goodIn_of _ (by decide +kernel)) ggL_law_X2_range
set_option maxRecDepth 20000 in
theorem ggL_law_X1_rule : GoodIn wsL_law wsX1_rule := goodIn_r _ [154, 13, 107, 108, 109, 2, 110, 14, 155, 156, 27, 157, 158, 159, 160, 161, 162, 163, 35, 69, 70, 71, 72, 37, 33, 34, 36, 73, 74, 75, 76, 77, 78, 79, 80, 81, 82, 83, 84, 32, 85, 86, 87, 88, 89, 90, 91, 92, 567, 568, 569, 570, 571, 572, 573, 574, 575, 576, 577, 578, 600, 601, 602, 603, 604, 605, 606] (by decide +kernel) (by decide +kernel)
set_option maxRecDepth 20000 in
theorem gL_law_X1_rule : GoodIn wsL_law (wsV RL 23 RX1 yX1_rule wsX1_rule) := goodIn_app (goodIn_of _ (by decide +kernel)) ggL_law_X1_rule
set_option maxRecDepth 20000 in
theorem ggL_law_X2_rule : GoodIn wsL_law wsX2_rule := goodIn_r _ [167, 97, 98, 168, 169, 46, 47, 48, 50, 128, 129, 130, 5, 131, 99, 100, 101, 102, 579, 580, 581, 582, 583, 584, 585, 586, 587, 588, 589, 590, 591, 592, 593, 594, 595, 596, 597, 598, 599] (by decide +kernel) (by decide +kernel)
set_option maxRecDepth 20000 in
theorem gL_law_X2_rule : GoodIn wsL_law (wsV RL 27 RX2 yX2_rule wsX2_rule) := goodIn_app (goodIn_of _ (by decide +kernel)) ggL_law_X2_rule
set_option maxRecDepth 20000 in
theorem ggL_law_X1_variants : GoodIn wsL_law wsX1_variants := goodIn_r _ [173, 13, 107, 108, 109, 2, 110, 14, 119, 120, 121, 27, 122, 37, 567, 568, 569, 570, 571, 572, 573, 574, 575, 576, 577, 578, 600, 601, 602, 603, 604, 605, 606] (by decide +kernel) (by decide +kernel)
set_option maxRecDepth 20000 in
theorem gL_law_X1_variants : GoodIn wsL_law (wsV RL 28 RX1 yX1_variants wsX1_variants) := goodIn_app (goodIn_of _ (by decide +kernel)) ggL_law_X1_variants
set_option maxRecDepth 20000 in
theorem ggL_law_X2_variants : GoodIn wsL_law wsX2_variants := goodIn_r _ [177, 97, 128, 129, 130, 5, 131, 99, 100, 101, 102, 132, 133, 134, 135, 50, 44, 45, 54, 51, 136, 137, 138, 139, 43, 46, 140, 141, 142, 143, 144, 145, 146, 147, 148, 149, 150, 579, 580, 581, 582, 583, 584, 585, 586, 587, 588, 589, 590, 591, 592, 593, 594, 595, 596, 597, 598, 599] (by decide +kernel) (by decide +kernel)
set_option maxRecDepth 20000 in
theorem gL_law_X2_variants : GoodIn wsL_law (wsV RL 31 RX2 yX2_variants wsX2_variants) := goodIn_app (goodIn_of _ (by decide +kernel)) ggL_law_X2_variants
set_option maxRecDepth 20000 in
theorem ggL_law_X1_variant : GoodIn wsL_law wsX1_variant := goodIn_r _ [181, 13, 182, 183, 184, 2, 185, 107, 108, 109, 110, 14, 119, 120, 121, 27, 122, 37, 186, 187, 188, 189, 33, 34, 36, 77, 78, 79, 80, 35, 81, 82, 83, 84, 32, 85, 86, 87, 88, 89, 90, 91, 92, 190, 191, 567, 568, 569, 570, 571, 572, 573, 574, 575, 576, 577, 578, 600, 601, 602, 603, 604, 605, 606] (by decide +kernel) (by decide +kernel)
set_option maxRecDepth 20000 in
theorem gL_law_X1_variant : GoodIn wsL_law (wsV RL 32 RX1 yX1_variant wsX1_variant) := goodIn_app (goodIn_of _ (by decide +kernel)) ggL_law_X1_variant
set_option maxRecDepth 20000 in
theorem ggL_law_X2_variant : GoodIn wsL_law wsX2_variant := goodIn_r _ [195, 97, 43, 196, 197, 198, 5, 199, 128, 129, 130, 131, 99, 100, 101, 102, 132, 133, 134, 135, 50, 44, 45, 54, 51, 136, 137, 138, 139, 46, 140, 141, 142, 143, 144, 145, 146, 147, 148, 149, 150, 200, 201, 202, 203, 579, 580, 581, 582, 583, 584, 585, 586, 587, 588, 589, 590, 591, 592, 593, 594, 595, 596, 597, 598, 599] (by decide +kernel) (by decide +kernel)
set_option maxRecDepth 20000 in
theorem gL_law_X2_variant : GoodIn wsL_law (wsV RL 35 RX2 yX2_variant wsX2_variant) := goodIn_app (goodIn_of _ (by decide +kernel)) ggL_law_X2_variant
set_option maxRecDepth 20000 in
theorem ggL_law_X1_find : GoodIn wsL_law wsX1_find := goodIn_r _ [207, 13, 107, 108, 109, 2, 110, 14, 208, 209, 210, 27, 211, 33, 34, 36, 77, 78, 79, 80, 35, 81, 82, 83, 84, 32, 85, 86, 87, 88, 89, 90, 91, 92, 73, 74, 75, 76, 567, 568, 569, 570, 571, 572, 573, 574, 575, 576, 577, 578, 600, 601, 602, 603, 604, 605, 606] (by decide +kernel) (by decide +kernel)
set_option maxRecDepth 20000 in
theorem gL_law_X1_find : GoodIn wsL_law (wsV RL 36 RX1 yX1_find wsX1_find) := goodIn_app (goodIn_of _ (by decide +kernel)) ggL_law_X1_find
set_option maxRecDepth 20000 in
theorem ggL_law_X2_find : GoodIn wsL_law wsX2_find := goodIn_r _ [215, 97, 128, 129, 130, 5, 131, 99, 100, 101, 102, 132, 133, 134, 135, 50, 44, 45, 54, 51, 136, 137, 138, 139, 43, 46, 140, 141, 142, 143, 144, 145, 146, 147, 148, 149, 150, 200, 201, 202, 203, 579, 580, 581, 582, 583, 584, 585, 586, 587, 588, 589, 590, 591, 592, 593, 594, 595, 596, 597, 598, 599] (by decide +kernel) (by decide +kernel)
set_option maxRecDepth 20000 in
theorem gL_law_X2_find : GoodIn wsL_law (wsV RL 39 RX2 yX2_find wsX2_find) := goodIn_app (goodIn_of _ (by decide +kernel)) ggL_law_X2_find
set_option maxRecDepth 20000 in
theorem ggL_law_X1_slip : GoodIn wsL_law wsX1_slip := goodIn_r _ [219, 13, 182, 183, 184, 2, 185, 107, 108, 109, 110, 14, 119, 120, 121, 27, 122, 37, 186, 187, 188, 189, 33, 34, 36, 77, 78, 79, 80, 35, 81, 82, 83, 84, 32, 85, 86, 87, 88, 89, 90, 91, 92, 220, 221, 222, 223, 224, 225, 226, 227, 228, 229, 230, 231, 232, 233, 234, 567, 568, 569, 570, 571, 572, 573, 574, 575, 576, 577, 578, 600, 601, 602, 603, 604, 605, 606] (by decide +kernel) (by decide +kernel)
set_option maxRecDepth 20000 in
theorem gL_law_X1_slip : GoodIn wsL_law (wsV RL 40 RX1 yX1_slip wsX1_slip) := goodIn_app (goodIn_of _ (by decide +kernel)) ggL_law_X1_slip
set_option maxRecDepth 20000 in
theorem ggL_law_X2_slip : GoodIn wsL_law wsX2_slip := goodIn_r _ [238, 97, 239, 196, 197, 198, 5, 199, 128, 129, 130, 131, 99, 100, 101, 102, 132, 133, 134, 135, 50, 44, 45, 54, 51, 136, 137, 138, 139, 43, 46, 140, 141, 142, 143, 144, 145, 146, 147, 148, 149, 150, 240, 241, 242, 243, 200, 201, 202, 203, 579, 580, 581, 582, 583, 584, 585, 586, 587, 588, 589, 590, 591, 592, 593, 594, 595, 596, 597, 598, 599] (by decide +kernel) (by decide +kernel)
set_option maxRecDepth 20000 in
theorem gL_law_X2_slip : GoodIn wsL_law (wsV RL 43 RX2 yX2_slip wsX2_slip) := goodIn_app (goodIn_of _ (by decide +kernel)) ggL_law_X2_slip
set_option maxRecDepth 20000 in
theorem ggL_law_X1_tells : GoodIn wsL_law wsX1_tells := goodIn_r _ [247, 13, 182, 183, 184, 2, 185, 107, 108, 109, 110, 14, 119, 120, 121, 27, 122, 37, 248, 249, 250, 251, 252, 187, 188, 189, 33, 34, 36, 77, 78, 79, 80, 35, 81, 82, 83, 84, 32, 85, 86, 87, 88, 89, 90, 91, 92, 253, 221, 222, 223, 224, 225, 226, 227, 228, 229, 230, 231, 232, 233, 234, 567, 568, 569, 570, 571, 572, 573, 574, 575, 576, 577, 578, 600, 601, 602, 603, 604, 605, 606] (by decide +kernel) (by decide +kernel)
set_option maxRecDepth 20000 in
theorem gL_law_X1_tells : GoodIn wsL_law (wsV RL 44 RX1 yX1_tells wsX1_tells) := goodIn_app (goodIn_of _ (by decide +kernel)) ggL_law_X1_tells
set_option maxRecDepth 20000 in
theorem ggL_law_X2_tells : GoodIn wsL_law wsX2_tells := goodIn_r _ [257, 97, 196, 197, 198, 5, 199, 128, 129, 130, 131, 99, 100, 101, 102, 132, 133, 134, 135, 50, 44, 45, 54, 51, 136, 137, 138, 139, 43, 46, 140, 141, 142, 143, 144, 145, 146, 147, 148, 149, 150, 258, 259, 260, 261, 262, 263, 264, 265, 200, 201, 202, 203, 240, 241, 242, 243, 579, 580, 581, 582, 583, 584, 585, 586, 587, 588, 589, 590, 591, 592, 593, 594, 595, 596, 597, 598, 599] (by decide +kernel) (by decide +kernel)
set_option maxRecDepth 20000 in
theorem gL_law_X2_tells : GoodIn wsL_law (wsV RL 47 RX2 yX2_tells wsX2_tells) := goodIn_app (goodIn_of _ (by decide +kernel)) ggL_law_X2_tells
set_option maxRecDepth 20000 in
theorem ggL_law_X1_plan : GoodIn wsL_law wsX1_plan := goodIn_r _ [269, 18, 16, 17, 13, 107, 108, 109, 2, 110, 14, 270, 271, 272, 27, 273, 38, 567, 568, 569, 570, 571, 572, 573, 574, 575, 576, 577, 578, 600, 601, 602, 603, 604, 605, 606] (by decide +kernel) (by decide +kernel)
set_option maxRecDepth 20000 in
theorem gL_law_X1_plan : GoodIn wsL_law (wsV RL 48 RX1 yX1_plan wsX1_plan) := goodIn_app (goodIn_of _ (by decide +kernel)) ggL_law_X1_plan
set_option maxRecDepth 20000 in
theorem ggL_law_X2_plan : GoodIn wsL_law wsX2_plan := goodIn_r _ [277, 97, 278, 279, 55, 128, 129, 130, 5, 131, 99, 100, 101, 102, 579, 580, 581, 582, 583, 584, 585, 586, 587, 588, 589, 590, 591, 592, 593, 594, 595, 596, 597, 598, 599] (by decide +kernel) (by decide +kernel)
set_option maxRecDepth 20000 in
theorem gL_law_X2_plan : GoodIn wsL_law (wsV RL 52 RX2 yX2_plan wsX2_plan) := goodIn_app (goodIn_of _ (by decide +kernel)) ggL_law_X2_plan
set_option maxRecDepth 20000 in
theorem ggL_law_X1_clear : GoodIn wsL_law wsX1_clear := goodIn_r _ [283, 18, 14, 13, 284, 285, 286, 27, 287, 38, 567, 568, 569, 570, 571, 572, 573, 574, 575, 576, 577, 578, 600, 601, 602, 603, 604, 605, 606] (by decide +kernel) (by decide +kernel)
set_option maxRecDepth 20000 in
theorem gL_law_X1_clear : GoodIn wsL_law (wsV RL 53 RX1 yX1_clear wsX1_clear) := goodIn_app (goodIn_of _ (by decide +kernel)) ggL_law_X1_clear
set_option maxRecDepth 20000 in
theorem ggL_law_X2_clear : GoodIn wsL_law wsX2_clear := goodIn_r _ [291, 97, 279, 579, 580, 581, 582, 583, 584, 585, 586, 587, 588, 589, 590, 591, 592, 593, 594, 595, 596, 597, 598, 599] (by decide +kernel) (by decide +kernel)
set_option maxRecDepth 20000 in
theorem gL_law_X2_clear : GoodIn wsL_law (wsV RL 57 RX2 yX2_clear wsX2_clear) := goodIn_app (goodIn_of _ (by decide +kernel)) ggL_law_X2_clear
set_option maxRecDepth 20000 in
theorem ggL_law_X1_placed : GoodIn wsL_law wsX1_placed := goodIn_r _ [295, 16, 296, 297, 298, 2, 299, 18, 567, 568, 569, 570, 571, 572, 573, 574, 575, 576, 577, 578] (by decide +kernel) (by decide +kernel)
set_option maxRecDepth 20000 in
theorem gL_law_X1_placed : GoodIn wsL_law (wsV RL 58 RX1 yX1_placed wsX1_placed) := goodIn_app (goodIn_of _ (by decide +kernel)) ggL_law_X1_placed
set_option maxRecDepth 20000 in
theorem ggL_law_X2_placed : GoodIn wsL_law wsX2_placed := goodIn_r _ [303, 97, 55, 304, 305, 306, 5, 307, 279, 100, 101, 102, 579, 580, 581, 582, 583, 584, 585, 586, 587, 588, 589, 590, 591, 592, 593, 594, 595, 596, 597, 598, 599] (by decide +kernel) (by decide +kernel)
set_option maxRecDepth 20000 in
theorem gL_law_X2_placed : GoodIn wsL_law (wsV RL 61 RX2 yX2_placed wsX2_placed) := goodIn_app (goodIn_of _ (by decide +kernel)) ggL_law_X2_placed
set_option maxRecDepth 20000 in
theorem ggL_law_X1_lines : GoodIn wsL_law wsX1_lines := goodIn_r _ [311, 19, 567, 568, 569, 570, 571, 572, 573, 574, 575, 576, 577, 578] (by decide +kernel) (by decide +kernel)
set_option maxRecDepth 20000 in
theorem gL_law_X1_lines : GoodIn wsL_law (wsV RL 62 RX1 yX1_lines wsX1_lines) := goodIn_app (goodIn_of _ (by decide +kernel)) ggL_law_X1_lines
set_option maxRecDepth 20000 in
theorem ggL_law_X2_lines : GoodIn wsL_law wsX2_lines := goodIn_r _ [315, 97, 168, 150, 56, 100, 101, 5, 102, 579, 580, 581, 582, 583, 584, 585, 586, 587, 588, 589, 590, 591, 592, 593, 594, 595, 596, 597, 598, 599] (by decide +kernel) (by decide +kernel)
set_option maxRecDepth 20000 in
theorem gL_law_X2_lines : GoodIn wsL_law (wsV RL 65 RX2 yX2_lines wsX2_lines) := goodIn_app (goodIn_of _ (by decide +kernel)) ggL_law_X2_lines
set_option maxRecDepth 20000 in
theorem ggL_law_X1_pages : GoodIn wsL_law wsX1_pages := goodIn_r _ [319, 18, 320, 321, 322, 2, 323, 13, 16, 19, 324, 325, 326, 27, 327, 35, 567, 568, 569, 570, 571, 572, 573, 574, 575, 576, 577, 578, 600, 601, 602, 603, 604, 605, 606] (by decide +kernel) (by decide +kernel)
set_option maxRecDepth 20000 in
theorem gL_law_X1_pages : GoodIn wsL_law (wsV RL 66 RX1 yX1_pages wsX1_pages) := goodIn_app (goodIn_of _ (by decide +kernel)) ggL_law_X1_pages
set_option maxRecDepth 20000 in
theorem ggL_law_X2_pages : GoodIn wsL_law wsX2_pages := goodIn_r _ [331, 97, 279, 332, 333, 334, 5, 335, 47, 55, 56, 579, 580, 581, 582, 583, 584, 585, 586, 587, 588, 589, 590, 591, 592, 593, 594, 595, 596, 597, 598, 599] (by decide +kernel) (by decide +kernel)
set_option maxRecDepth 20000 in
theorem gL_law_X2_pages : GoodIn wsL_law (wsV RL 69 RX2 yX2_pages wsX2_pages) := goodIn_app (goodIn_of _ (by decide +kernel)) ggL_law_X2_pages
set_option maxRecDepth 20000 in
theorem ggL_law_X1_page : GoodIn wsL_law wsX1_page := goodIn_r _ [339, 296, 297, 298, 2, 299, 18, 320, 321, 322, 323, 13, 16, 19, 324, 325, 326, 27, 327, 35, 567, 568, 569, 570, 571, 572, 573, 574, 575, 576, 577, 578, 600, 601, 602, 603, 604, 605, 606] (by decide +kernel) (by decide +kernel)
set_option maxRecDepth 20000 in
theorem gL_law_X1_page : GoodIn wsL_law (wsV RL 70 RX1 yX1_page wsX1_page) := goodIn_app (goodIn_of _ (by decide +kernel)) ggL_law_X1_page
set_option maxRecDepth 20000 in
theorem ggL_law_X2_page : GoodIn wsL_law wsX2_page := goodIn_r _ [343, 97, 304, 305, 306, 5, 307, 279, 100, 101, 102, 332, 333, 334, 335, 47, 55, 56, 579, 580, 581, 582, 583, 584, 585, 586, 587, 588, 589, 590, 591, 592, 593, 594, 595, 596, 597, 598, 599] (by decide +kernel) (by decide +kernel)
set_option maxRecDepth 20000 in
theorem gL_law_X2_page : GoodIn wsL_law (wsV RL 74 RX2 yX2_page wsX2_page) := goodIn_app (goodIn_of _ (by decide +kernel)) ggL_law_X2_page
set_option maxRecDepth 20000 in
theorem ggL_law_X1_sheet : GoodIn wsL_law wsX1_sheet := goodIn_r _ [347, 348, 349, 350, 2, 351, 296, 297, 298, 299, 18, 352, 353, 354, 355, 356, 357, 358, 359, 360, 361, 362, 13, 16, 119, 120, 121, 27, 122, 37, 363, 364, 365, 366, 17, 367, 368, 369, 370, 38, 35, 567, 568, 569, 570, 571, 572, 573, 574, 575, 576, 577, 578, 600, 601, 602, 603, 604, 605, 606] (by decide +kernel) (by decide +kernel)
set_option maxRecDepth 20000 in
theorem gL_law_X1_sheet : GoodIn wsL_law (wsV RL 75 RX1 yX1_sheet wsX1_sheet) := goodIn_app (goodIn_of _ (by decide +kernel)) ggL_law_X1_sheet
set_option maxRecDepth 20000 in
theorem ggL_law_X2_sheet : GoodIn wsL_law wsX2_sheet := goodIn_r _ [374, 97, 304, 305, 306, 5, 307, 279, 100, 101, 102, 375, 376, 377, 169, 378, 379, 380, 381, 55, 132, 133, 134, 135, 50, 44, 45, 54, 51, 136, 137, 138, 139, 43, 46, 140, 141, 142, 143, 144, 145, 146, 147, 148, 149, 150, 382, 383, 384, 385, 48, 386, 387, 388, 389, 579, 580, 581, 582, 583, 584, 585, 586, 587, 588, 589, 590, 591, 592, 593, 594, 595, 596, 597, 598, 599] (by decide +kernel) (by decide +kernel)
set_option maxRecDepth 20000 in
theorem gL_law_X2_sheet : GoodIn wsL_law (wsV RL 78 RX2 yX2_sheet wsX2_sheet) := goodIn_app (goodIn_of _ (by decide +kernel)) ggL_law_X2_sheet
set_option maxRecDepth 20000 in
theorem ggL_law_X1_answer : GoodIn wsL_law wsX1_answer := goodIn_r _ [393, 348, 349, 350, 2, 351, 296, 297, 298, 299, 18, 352, 353, 354, 355, 356, 357, 358, 359, 360, 361, 362, 13, 16, 119, 120, 121, 27, 122, 37, 394, 395, 396, 397, 363, 364, 365, 366, 17, 367, 368, 369, 370, 38, 35, 186, 187, 188, 189, 33, 34, 36, 77, 78, 79, 80, 81, 82, 83, 84, 32, 85, 86, 87, 88, 89, 90, 91, 92, 190, 567, 568, 569, 570, 571, 572, 573, 574, 575, 576, 577, 578, 600, 601, 602, 603, 604, 605, 606] (by decide +kernel) (by decide +kernel)
set_option maxRecDepth 20000 in
theorem gL_law_X1_answer : GoodIn wsL_law (wsV RL 79 RX1 yX1_answer wsX1_answer) := goodIn_app (goodIn_of _ (by decide +kernel)) ggL_law_X1_answer
set_option maxRecDepth 20000 in
theorem ggL_law_X2_answer : GoodIn wsL_law wsX2_answer := goodIn_r _ [401, 97, 304, 305, 306, 5, 307, 279, 100, 101, 102, 375, 376, 377, 169, 378, 379, 380, 381, 55, 132, 133, 134, 135, 50, 44, 45, 54, 51, 136, 137, 138, 139, 43, 46, 140, 141, 142, 143, 144, 145, 146, 147, 148, 149, 150, 402, 403, 404, 405, 382, 383, 384, 385, 48, 386, 387, 388, 389, 262, 263, 264, 265, 200, 201, 202, 203, 579, 580, 581, 582, 583, 584, 585, 586, 587, 588, 589, 590, 591, 592, 593, 594, 595, 596, 597, 598, 599] (by decide +kernel) (by decide +kernel)
set_option maxRecDepth 20000 in
theorem gL_law_X2_answer : GoodIn wsL_law (wsV RL 82 RX2 yX2_answer wsX2_answer) := goodIn_app (goodIn_of _ (by decide +kernel)) ggL_law_X2_answer
set_option maxRecDepth 20000 in
theorem ggL_law_X1_code : GoodIn wsL_law wsX1_code := goodIn_r _ [409, 18, 352, 353, 354, 2, 355, 356, 357, 358, 359, 360, 361, 362, 13, 16, 119, 120, 121, 27, 122, 37, 394, 395, 396, 397, 363, 364, 365, 366, 17, 367, 368, 369, 370, 38, 35, 186, 187, 188, 189, 33, 34, 36, 77, 78, 79, 80, 81, 82, 83, 84, 32, 85, 86, 87, 88, 89, 90, 91, 92, 190, 567, 568, 569, 570, 571, 572, 573, 574, 575, 576, 577, 578, 600, 601, 602, 603, 604, 605, 606] (by decide +kernel) (by decide +kernel)
set_option maxRecDepth 20000 in
theorem gL_law_X1_code : GoodIn wsL_law (wsV RL 83 RX1 yX1_code wsX1_code) := goodIn_app (goodIn_of _ (by decide +kernel)) ggL_law_X1_code
set_option maxRecDepth 20000 in
theorem ggL_law_X2_code : GoodIn wsL_law wsX2_code := goodIn_r _ [413, 97, 279, 375, 376, 5, 377, 169, 100, 101, 102, 378, 379, 380, 381, 55, 132, 133, 134, 135, 50, 44, 45, 54, 51, 136, 137, 138, 139, 43, 46, 140, 141, 142, 143, 144, 145, 146, 147, 148, 149, 150, 402, 403, 404, 405, 382, 383, 384, 385, 48, 386, 387, 388, 389, 262, 263, 264, 265, 200, 201, 202, 203, 579, 580, 581, 582, 583, 584, 585, 586, 587, 588, 589, 590, 591, 592, 593, 594, 595, 596, 597, 598, 599] (by decide +kernel) (by decide +kernel)
set_option maxRecDepth 20000 in
theorem gL_law_X2_code : GoodIn wsL_law (wsV RL 86 RX2 yX2_code wsX2_code) := goodIn_app (goodIn_of _ (by decide +kernel)) ggL_law_X2_code
set_option maxRecDepth 20000 in
theorem ggL_law_X1_shared : GoodIn wsL_law wsX1_shared := goodIn_r _ [417, 14, 13, 356, 357, 2, 358, 359, 360, 361, 362, 18, 16, 119, 120, 121, 27, 122, 37, 418, 419, 420, 421, 38, 422, 423, 424, 425, 567, 568, 569, 570, 571, 572, 573, 574, 575, 576, 577, 578, 600, 601, 602, 603, 604, 605, 606] (by decide +kernel) (by decide +kernel)
set_option maxRecDepth 20000 in
theorem gL_law_X1_shared : GoodIn wsL_law (wsV RL 87 RX1 yX1_shared wsX1_shared) := goodIn_app (goodIn_of _ (by decide +kernel)) ggL_law_X1_shared
set_option maxRecDepth 20000 in
theorem ggL_law_X2_shared : GoodIn wsL_law wsX2_shared := goodIn_r _ [429, 97, 279, 55, 375, 376, 5, 377, 169, 100, 101, 102, 378, 379, 380, 381, 132, 133, 134, 135, 50, 44, 45, 54, 51, 136, 137, 138, 139, 43, 46, 140, 141, 142, 143, 144, 145, 146, 147, 148, 149, 150, 382, 383, 384, 385, 48, 386, 387, 388, 389, 579, 580, 581, 582, 583, 584, 585, 586, 587, 588, 589, 590, 591, 592, 593, 594, 595, 596, 597, 598, 599] (by decide +kernel) (by decide +kernel)
set_option maxRecDepth 20000 in
theorem gL_law_X2_shared : GoodIn wsL_law (wsV RL 90 RX2 yX2_shared wsX2_shared) := goodIn_app (goodIn_of _ (by decide +kernel)) ggL_law_X2_shared
set_option maxRecDepth 20000 in
theorem ggL_law_X1_apart : GoodIn wsL_law wsX1_apart := goodIn_r _ [433, 14, 13, 352, 353, 354, 2, 355, 356, 357, 358, 359, 360, 361, 362, 18, 16, 119, 120, 121, 27, 122, 37, 434, 435, 436, 437, 38, 567, 568, 569, 570, 571, 572, 573, 574, 575, 576, 577, 578, 600, 601, 602, 603, 604, 605, 606] (by decide +kernel) (by decide +kernel)
set_option maxRecDepth 20000 in
theorem gL_law_X1_apart : GoodIn wsL_law (wsV RL 91 RX1 yX1_apart wsX1_apart) := goodIn_app (goodIn_of _ (by decide +kernel)) ggL_law_X1_apart
set_option maxRecDepth 20000 in
theorem ggL_law_X2_apart : GoodIn wsL_law wsX2_apart := goodIn_r _ [441, 97, 375, 376, 5, 377, 169, 100, 101, 102, 378, 379, 380, 381, 279, 55, 132, 133, 134, 135, 50, 44, 45, 54, 51, 136, 137, 138, 139, 43, 46, 140, 141, 142, 143, 144, 145, 146, 147, 148, 149, 150, 442, 443, 444, 445, 99, 386, 387, 388, 389, 579, 580, 581, 582, 583, 584, 585, 586, 587, 588, 589, 590, 591, 592, 593, 594, 595, 596, 597, 598, 599] (by decide +kernel) (by decide +kernel)
set_option maxRecDepth 20000 in
theorem gL_law_X2_apart : GoodIn wsL_law (wsV RL 94 RX2 yX2_apart wsX2_apart) := goodIn_app (goodIn_of _ (by decide +kernel)) ggL_law_X2_apart
set_option maxRecDepth 20000 in
theorem ggL_law_X1_seats : GoodIn wsL_law wsX1_seats := goodIn_r _ [449, 20, 21, 23, 567, 568, 569, 570, 571, 572, 573, 574, 575, 576, 577, 578] (by decide +kernel) (by decide +kernel)
set_option maxRecDepth 20000 in
theorem gL_law_X1_seats : GoodIn wsL_law (wsV RL 95 RX1 yX1_seats wsX1_seats) := goodIn_app (goodIn_of _ (by decide +kernel)) ggL_law_X1_seats
set_option maxRecDepth 20000 in
theorem ggL_law_X2_seats : GoodIn wsL_law wsX2_seats := goodIn_r _ [453, 97, 454, 57, 58, 60, 100, 101, 5, 102, 579, 580, 581, 582, 583, 584, 585, 586, 587, 588, 589, 590, 591, 592, 593, 594, 595, 596, 597, 598, 599] (by decide +kernel) (by decide +kernel)
set_option maxRecDepth 20000 in
theorem gL_law_X2_seats : GoodIn wsL_law (wsV RL 98 RX2 yX2_seats wsX2_seats) := goodIn_app (goodIn_of _ (by decide +kernel)) ggL_law_X2_seats
set_option maxRecDepth 20000 in
theorem ggL_law_X1_base : GoodIn wsL_law wsX1_base := goodIn_r _ [458, 22, 567, 568, 569, 570, 571, 572, 573, 574, 575, 576, 577, 578] (by decide +kernel) (by decide +kernel)
set_option maxRecDepth 20000 in
theorem gL_law_X1_base : GoodIn wsL_law (wsV RL 99 RX1 yX1_base wsX1_base) := goodIn_app (goodIn_of _ (by decide +kernel)) ggL_law_X1_base
set_option maxRecDepth 20000 in
theorem ggL_law_X2_base : GoodIn wsL_law wsX2_base := goodIn_r _ [462, 97, 463, 464, 100, 101, 5, 102, 579, 580, 581, 582, 583, 584, 585, 586, 587, 588, 589, 590, 591, 592, 593, 594, 595, 596, 597, 598, 599] (by decide +kernel) (by decide +kernel)
set_option maxRecDepth 20000 in
theorem gL_law_X2_base : GoodIn wsL_law (wsV RL 102 RX2 yX2_base wsX2_base) := goodIn_app (goodIn_of _ (by decide +kernel)) ggL_law_X2_base
set_option maxRecDepth 20000 in
theorem ggL_law_X1_seat : GoodIn wsL_law wsX1_seat := goodIn_r _ [468, 469, 470, 471, 2, 472, 20, 21, 473, 474, 475, 476, 22, 477, 478, 230, 479, 567, 568, 569, 570, 571, 572, 573, 574, 575, 576, 577, 578] (by decide +kernel) (by decide +kernel)
set_option maxRecDepth 20000 in
theorem gL_law_X1_seat : GoodIn wsL_law (wsV RL 103 RX1 yX1_seat wsX1_seat) := goodIn_app (goodIn_of _ (by decide +kernel)) ggL_law_X1_seat
set_option maxRecDepth 20000 in
theorem ggL_law_X2_seat : GoodIn wsL_law wsX2_seat := goodIn_r _ [483, 97, 484, 485, 486, 5, 487, 57, 58, 488, 489, 490, 491, 464, 59, 492, 493, 494, 495, 496, 497, 498, 499, 100, 101, 102, 579, 580, 581, 582, 583, 584, 585, 586, 587, 588, 589, 590, 591, 592, 593, 594, 595, 596, 597, 598, 599] (by decide +kernel) (by decide +kernel)
set_option maxRecDepth 20000 in
theorem gL_law_X2_seat : GoodIn wsL_law (wsV RL 106 RX2 yX2_seat wsX2_seat) := goodIn_app (goodIn_of _ (by decide +kernel)) ggL_law_X2_seat
set_option maxRecDepth 20000 in
theorem ggL_law_X1_unlike : GoodIn wsL_law wsX1_unlike := goodIn_r _ [503, 20, 477, 478, 230, 479, 21, 567, 568, 569, 570, 571, 572, 573, 574, 575, 576, 577, 578] (by decide +kernel) (by decide +kernel)
set_option maxRecDepth 20000 in
theorem gL_law_X1_unlike : GoodIn wsL_law (wsV RL 107 RX1 yX1_unlike wsX1_unlike) := goodIn_app (goodIn_of _ (by decide +kernel)) ggL_law_X1_unlike
set_option maxRecDepth 20000 in
theorem ggL_law_X2_unlike : GoodIn wsL_law wsX2_unlike := goodIn_r _ [507, 97, 59, 492, 493, 494, 5, 495, 57, 58, 496, 497, 498, 499, 100, 101, 102, 579, 580, 581, 582, 583, 584, 585, 586, 587, 588, 589, 590, 591, 592, 593, 594, 595, 596, 597, 598, 599] (by decide +kernel) (by decide +kernel)
set_option maxRecDepth 20000 in
theorem gL_law_X2_unlike : GoodIn wsL_law (wsV RL 110 RX2 yX2_unlike wsX2_unlike) := goodIn_app (goodIn_of _ (by decide +kernel)) ggL_law_X2_unlike
set_option maxRecDepth 20000 in
theorem ggL_law_X1_mark : GoodIn wsL_law wsX1_mark := goodIn_r _ [511, 16, 13, 24, 25, 23, 469, 470, 471, 2, 472, 20, 21, 296, 297, 298, 299, 18, 359, 360, 361, 362, 119, 120, 121, 27, 122, 37, 473, 474, 475, 476, 22, 477, 478, 230, 479, 363, 364, 365, 366, 17, 367, 368, 369, 370, 38, 35, 248, 249, 250, 251, 252, 187, 188, 189, 33, 34, 36, 77, 78, 79, 80, 81, 82, 83, 84, 32, 85, 86, 87, 88, 89, 90, 91, 92, 253, 221, 222, 223, 224, 225, 226, 227, 228, 229, 231, 232, 233, 234, 512, 513, 514, 515, 567, 568, 569, 570, 571, 572, 573, 574, 575, 576, 577, 578, 600, 601, 602, 603, 604, 605, 606] (by decide +kernel) (by decide +kernel)
set_option maxRecDepth 20000 in
theorem gL_law_X1_mark : GoodIn wsL_law (wsV RL 111 RX1 yX1_mark wsX1_mark) := goodIn_app (goodIn_of _ (by decide +kernel)) ggL_law_X1_mark
set_option maxRecDepth 20000 in
theorem ggL_law_X2_mark : GoodIn wsL_law wsX2_mark := goodIn_r _ [519, 97, 55, 520, 521, 60, 484, 485, 486, 5, 487, 57, 58, 304, 305, 306, 307, 279, 100, 101, 102, 378, 379, 380, 381, 132, 133, 134, 135, 50, 44, 45, 54, 51, 136, 137, 138, 139, 43, 46, 140, 141, 142, 143, 144, 145, 146, 147, 148, 149, 150, 488, 489, 490, 491, 464, 59, 492, 493, 494, 495, 496, 497, 498, 499, 382, 383, 384, 385, 48, 386, 387, 388, 389, 258, 259, 260, 261, 262, 263, 264, 265, 200, 201, 202, 203, 240, 241, 242, 243, 579, 580, 581, 582, 583, 584, 585, 586, 587, 588, 589, 590, 591, 592, 593, 594, 595, 596, 597, 598, 599] (by decide +kernel) (by decide +kernel)
set_option maxRecDepth 20000 in
theorem gL_law_X2_mark : GoodIn wsL_law (wsV RL 114 RX2 yX2_mark wsX2_mark) := goodIn_app (goodIn_of _ (by decide +kernel)) ggL_law_X2_mark
set_option maxRecDepth 20000 in
theorem ggL_law_X1_missed : GoodIn wsL_law wsX1_missed := goodIn_r _ [525, 23, 469, 470, 471, 2, 472, 20, 21, 107, 108, 109, 110, 14, 526, 527, 528, 529, 512, 513, 514, 515, 567, 568, 569, 570, 571, 572, 573, 574, 575, 576, 577, 578] (by decide +kernel) (by decide +kernel)
set_option maxRecDepth 20000 in
theorem gL_law_X1_missed : GoodIn wsL_law (wsV RL 115 RX1 yX1_missed wsX1_missed) := goodIn_app (goodIn_of _ (by decide +kernel)) ggL_law_X1_missed
set_option maxRecDepth 20000 in
theorem ggL_law_X2_missed : GoodIn wsL_law wsX2_missed := goodIn_r _ [533, 97, 484, 485, 486, 5, 487, 57, 58, 128, 129, 130, 131, 99, 100, 101, 102, 534, 535, 536, 537, 60, 579, 580, 581, 582, 583, 584, 585, 586, 587, 588, 589, 590, 591, 592, 593, 594, 595, 596, 597, 598, 599] (by decide +kernel) (by decide +kernel)
set_option maxRecDepth 20000 in
theorem gL_law_X2_missed : GoodIn wsL_law (wsV RL 118 RX2 yX2_missed wsX2_missed) := goodIn_app (goodIn_of _ (by decide +kernel)) ggL_law_X2_missed
set_option maxRecDepth 20000 in
theorem ggL_law_X1_review : GoodIn wsL_law wsX1_review := goodIn_r _ [541, 469, 470, 471, 2, 472, 20, 21, 107, 108, 109, 110, 14, 542, 543, 544, 545, 23, 512, 513, 514, 515, 526, 527, 528, 529, 567, 568, 569, 570, 571, 572, 573, 574, 575, 576, 577, 578] (by decide +kernel) (by decide +kernel)
set_option maxRecDepth 20000 in
theorem gL_law_X1_review : GoodIn wsL_law (wsV RL 119 RX1 yX1_review wsX1_review) := goodIn_app (goodIn_of _ (by decide +kernel)) ggL_law_X1_review
set_option maxRecDepth 20000 in
theorem ggL_law_X2_review : GoodIn wsL_law wsX2_review := goodIn_r _ [549, 97, 550, 99, 484, 485, 486, 5, 487, 57, 58, 128, 129, 130, 131, 100, 101, 102, 534, 535, 536, 537, 60, 579, 580, 581, 582, 583, 584, 585, 586, 587, 588, 589, 590, 591, 592, 593, 594, 595, 596, 597, 598, 599] (by decide +kernel) (by decide +kernel)
set_option maxRecDepth 20000 in
theorem gL_law_X2_review : GoodIn wsL_law (wsV RL 122 RX2 yX2_review wsX2_review) := goodIn_app (goodIn_of _ (by decide +kernel)) ggL_law_X2_review
set_option maxRecDepth 20000 in
theorem ggL_law_X1_all : GoodIn wsL_law wsX1_all := goodIn_r _ [554, 23, 107, 108, 109, 2, 110, 14, 567, 568, 569, 570, 571, 572, 573, 574, 575, 576, 577, 578] (by decide +kernel) (by decide +kernel)
set_option maxRecDepth 20000 in
theorem gL_law_X1_all : GoodIn wsL_law (wsV RL 123 RX1 yX1_all wsX1_all) := goodIn_app (goodIn_of _ (by decide +kernel)) ggL_law_X1_all
set_option maxRecDepth 20000 in
theorem ggL_law_X2_all : GoodIn wsL_law wsX2_all := goodIn_r _ [558, 97, 60, 128, 129, 130, 5, 131, 99, 100, 101, 102, 579, 580, 581, 582, 583, 584, 585, 586, 587, 588, 589, 590, 591, 592, 593, 594, 595, 596, 597, 598, 599] (by decide +kernel) (by decide +kernel)
set_option maxRecDepth 20000 in
theorem gL_law_X2_all : GoodIn wsL_law (wsV RL 126 RX2 yX2_all wsX2_all) := goodIn_app (goodIn_of _ (by decide +kernel)) ggL_law_X2_all
set_option maxRecDepth 20000 in
theorem ggL_law_X1_total : GoodIn wsL_law wsX1_total := goodIn_r _ [562, 14, 18, 20, 21, 24, 25, 567, 568, 569, 570, 571, 572, 573, 574, 575, 576, 577, 578] (by decide +kernel) (by decide +kernel)
set_option maxRecDepth 20000 in
theorem gL_law_X1_total : GoodIn wsL_law (wsV RL 127 RX1 yX1_total wsX1_total) := goodIn_app (goodIn_of _ (by decide +kernel)) ggL_law_X1_total
set_option maxRecDepth 20000 in
theorem ggL_law_X2_total : GoodIn wsL_law wsX2_total := goodIn_r _ [566, 97, 99, 279, 57, 58, 520, 521, 579, 580, 581, 582, 583, 584, 585, 586, 587, 588, 589, 590, 591, 592, 593, 594, 595, 596, 597, 598, 599] (by decide +kernel) (by decide +kernel)
set_option maxRecDepth 20000 in
theorem gL_law_X2_total : GoodIn wsL_law (wsV RL 130 RX2 yX2_total wsX2_total) := goodIn_app (goodIn_of _ (by decide +kernel)) ggL_law_X2_total
end
section
theorem dL_law_0 : decode cL_law 0 = .ok (.new 7, 3) := by decide +kernel
theorem dL_law_3 : decode cL_law 3 = .ok (.dup, 1) := by decide +kernel
theorem dL_law_4 : decode cL_law 4 = .ok (.invokespecial 9, 3) := by decide +kernel
theorem dL_law_7 : decode cL_law 7 = .ok (.astore_n 1, 1) := by decide +kernel
theorem dL_law_8 : decode cL_law 8 = .ok (.new 10, 3) := by decide +kernel
theorem dL_law_11 : decode cL_law 11 = .ok (.dup, 1) := by decide +kernel
theorem dL_law_12 : decode cL_law 12 = .ok (.invokespecial 12, 3) := by decide +kernel
theorem dL_law_15 : decode cL_law 15 = .ok (.astore_n 2, 1) := by decide +kernel
theorem dL_law_16 : decode cL_law 16 = .ok (.iconst 0, 1) := by decide +kernel
theorem dL_law_17 : decode cL_law 17 = .ok (.istore_n 3, 1) := by decide +kernel
theorem dL_law_18 : decode cL_law 18 = .ok (.iload_n 3, 1) := by decide +kernel
theorem dL_law_19 : decode cL_law 19 = .ok (.aload_n 0, 1) := by decide +kernel
theorem dL_law_20 : decode cL_law 20 = .ok (.arraylength, 1) := by decide +kernel
theorem dL_law_21 : decode cL_law 21 = .ok (.iconst 5, 1) := by decide +kernel
theorem dL_law_22 : decode cL_law 22 = .ok (.isub, 1) := by decide +kernel
theorem dL_law_23 : decode cL_law 23 = .ok (.if_icmp .gt 1013, 3) := by decide +kernel
theorem dL_law_26 : decode cL_law 26 = .ok (.aload_n 0, 1) := by decide +kernel
theorem dL_law_27 : decode cL_law 27 = .ok (.iload_n 3, 1) := by decide +kernel
theorem dL_law_28 : decode cL_law 28 = .ok (.iaload, 1) := by decide +kernel
theorem dL_law_29 : decode cL_law 29 = .ok (.bipush 31, 2) := by decide +kernel
theorem dL_law_31 : decode cL_law 31 = .ok (.iand, 1) := by decide +kernel
theorem dL_law_32 : decode cL_law 32 = .ok (.tableswitch 998 0 27 #[128, 151, 204, 247, 270, 313, 356, 399, 442, 475, 488, 511, 534, 547, 596, 629, 662, 685, 718, 741, 774, 797, 820, 833, 876, 909, 952, 975], 128) := by decide +kernel
theorem dL_law_160 : decode cL_law 160 = .ok (.aload_n 1, 1) := by decide +kernel
theorem dL_law_161 : decode cL_law 161 = .ok (.aload_n 0, 1) := by decide +kernel
theorem dL_law_162 : decode cL_law 162 = .ok (.iload_n 3, 1) := by decide +kernel
theorem dL_law_163 : decode cL_law 163 = .ok (.iconst 1, 1) := by decide +kernel
theorem dL_law_164 : decode cL_law 164 = .ok (.iadd, 1) := by decide +kernel
theorem dL_law_165 : decode cL_law 165 = .ok (.iaload, 1) := by decide +kernel
theorem dL_law_166 : decode cL_law 166 = .ok (.invokevirtual 13, 3) := by decide +kernel
theorem dL_law_169 : decode cL_law 169 = .ok (.aload_n 2, 1) := by decide +kernel
theorem dL_law_170 : decode cL_law 170 = .ok (.aload_n 0, 1) := by decide +kernel
theorem dL_law_171 : decode cL_law 171 = .ok (.iload_n 3, 1) := by decide +kernel
theorem dL_law_172 : decode cL_law 172 = .ok (.iconst 1, 1) := by decide +kernel
theorem dL_law_173 : decode cL_law 173 = .ok (.iadd, 1) := by decide +kernel
theorem dL_law_174 : decode cL_law 174 = .ok (.iaload, 1) := by decide +kernel
theorem dL_law_175 : decode cL_law 175 = .ok (.invokevirtual 17, 3) := by decide +kernel
theorem dL_law_178 : decode cL_law 178 = .ok (.if_icmp .eq 852, 3) := by decide +kernel
theorem dL_law_181 : decode cL_law 181 = .ok (.iconst 0, 1) := by decide +kernel
theorem dL_law_182 : decode cL_law 182 = .ok (.ireturn, 1) := by decide +kernel
theorem dL_law_183 : decode cL_law 183 = .ok (.aload_n 1, 1) := by decide +kernel
theorem dL_law_184 : decode cL_law 184 = .ok (.aload_n 0, 1) := by decide +kernel
theorem dL_law_185 : decode cL_law 185 = .ok (.iload_n 3, 1) := by decide +kernel
theorem dL_law_186 : decode cL_law 186 = .ok (.iconst 1, 1) := by decide +kernel
theorem dL_law_187 : decode cL_law 187 = .ok (.iadd, 1) := by decide +kernel
theorem dL_law_188 : decode cL_law 188 = .ok (.iaload, 1) := by decide +kernel
theorem dL_law_189 : decode cL_law 189 = .ok (.aload_n 0, 1) := by decide +kernel
theorem dL_law_190 : decode cL_law 190 = .ok (.iload_n 3, 1) := by decide +kernel
theorem dL_law_191 : decode cL_law 191 = .ok (.iconst 2, 1) := by decide +kernel
theorem dL_law_192 : decode cL_law 192 = .ok (.iadd, 1) := by decide +kernel
theorem dL_law_193 : decode cL_law 193 = .ok (.iaload, 1) := by decide +kernel
theorem dL_law_194 : decode cL_law 194 = .ok (.aload_n 0, 1) := by decide +kernel
theorem dL_law_195 : decode cL_law 195 = .ok (.iload_n 3, 1) := by decide +kernel
theorem dL_law_196 : decode cL_law 196 = .ok (.iconst 3, 1) := by decide +kernel
theorem dL_law_197 : decode cL_law 197 = .ok (.iadd, 1) := by decide +kernel
theorem dL_law_198 : decode cL_law 198 = .ok (.iaload, 1) := by decide +kernel
theorem dL_law_199 : decode cL_law 199 = .ok (.aload_n 0, 1) := by decide +kernel
theorem dL_law_200 : decode cL_law 200 = .ok (.iload_n 3, 1) := by decide +kernel
theorem dL_law_201 : decode cL_law 201 = .ok (.iconst 4, 1) := by decide +kernel
theorem dL_law_202 : decode cL_law 202 = .ok (.iadd, 1) := by decide +kernel
theorem dL_law_203 : decode cL_law 203 = .ok (.iaload, 1) := by decide +kernel
theorem dL_law_204 : decode cL_law 204 = .ok (.invokevirtual 18, 3) := by decide +kernel
theorem dL_law_207 : decode cL_law 207 = .ok (.aload_n 2, 1) := by decide +kernel
theorem dL_law_208 : decode cL_law 208 = .ok (.aload_n 0, 1) := by decide +kernel
theorem dL_law_209 : decode cL_law 209 = .ok (.iload_n 3, 1) := by decide +kernel
theorem dL_law_210 : decode cL_law 210 = .ok (.iconst 1, 1) := by decide +kernel
theorem dL_law_211 : decode cL_law 211 = .ok (.iadd, 1) := by decide +kernel
theorem dL_law_212 : decode cL_law 212 = .ok (.iaload, 1) := by decide +kernel
theorem dL_law_213 : decode cL_law 213 = .ok (.aload_n 0, 1) := by decide +kernel
theorem dL_law_214 : decode cL_law 214 = .ok (.iload_n 3, 1) := by decide +kernel
theorem dL_law_215 : decode cL_law 215 = .ok (.iconst 2, 1) := by decide +kernel
theorem dL_law_216 : decode cL_law 216 = .ok (.iadd, 1) := by decide +kernel
theorem dL_law_217 : decode cL_law 217 = .ok (.iaload, 1) := by decide +kernel
theorem dL_law_218 : decode cL_law 218 = .ok (.aload_n 0, 1) := by decide +kernel
theorem dL_law_219 : decode cL_law 219 = .ok (.iload_n 3, 1) := by decide +kernel
theorem dL_law_220 : decode cL_law 220 = .ok (.iconst 3, 1) := by decide +kernel
theorem dL_law_221 : decode cL_law 221 = .ok (.iadd, 1) := by decide +kernel
theorem dL_law_222 : decode cL_law 222 = .ok (.iaload, 1) := by decide +kernel
theorem dL_law_223 : decode cL_law 223 = .ok (.aload_n 0, 1) := by decide +kernel
theorem dL_law_224 : decode cL_law 224 = .ok (.iload_n 3, 1) := by decide +kernel
theorem dL_law_225 : decode cL_law 225 = .ok (.iconst 4, 1) := by decide +kernel
theorem dL_law_226 : decode cL_law 226 = .ok (.iadd, 1) := by decide +kernel
theorem dL_law_227 : decode cL_law 227 = .ok (.iaload, 1) := by decide +kernel
theorem dL_law_228 : decode cL_law 228 = .ok (.invokevirtual 22, 3) := by decide +kernel
theorem dL_law_231 : decode cL_law 231 = .ok (.if_icmp .eq 799, 3) := by decide +kernel
theorem dL_law_234 : decode cL_law 234 = .ok (.iconst 0, 1) := by decide +kernel
theorem dL_law_235 : decode cL_law 235 = .ok (.ireturn, 1) := by decide +kernel
theorem dL_law_236 : decode cL_law 236 = .ok (.aload_n 1, 1) := by decide +kernel
theorem dL_law_237 : decode cL_law 237 = .ok (.aload_n 0, 1) := by decide +kernel
theorem dL_law_238 : decode cL_law 238 = .ok (.iload_n 3, 1) := by decide +kernel
theorem dL_law_239 : decode cL_law 239 = .ok (.iconst 1, 1) := by decide +kernel
theorem dL_law_240 : decode cL_law 240 = .ok (.iadd, 1) := by decide +kernel
theorem dL_law_241 : decode cL_law 241 = .ok (.iaload, 1) := by decide +kernel
theorem dL_law_242 : decode cL_law 242 = .ok (.aload_n 0, 1) := by decide +kernel
theorem dL_law_243 : decode cL_law 243 = .ok (.iload_n 3, 1) := by decide +kernel
theorem dL_law_244 : decode cL_law 244 = .ok (.iconst 2, 1) := by decide +kernel
theorem dL_law_245 : decode cL_law 245 = .ok (.iadd, 1) := by decide +kernel
theorem dL_law_246 : decode cL_law 246 = .ok (.iaload, 1) := by decide +kernel
theorem dL_law_247 : decode cL_law 247 = .ok (.aload_n 0, 1) := by decide +kernel
theorem dL_law_248 : decode cL_law 248 = .ok (.iload_n 3, 1) := by decide +kernel
theorem dL_law_249 : decode cL_law 249 = .ok (.iconst 3, 1) := by decide +kernel
theorem dL_law_250 : decode cL_law 250 = .ok (.iadd, 1) := by decide +kernel
theorem dL_law_251 : decode cL_law 251 = .ok (.iaload, 1) := by decide +kernel
theorem dL_law_252 : decode cL_law 252 = .ok (.invokevirtual 23, 3) := by decide +kernel
theorem dL_law_255 : decode cL_law 255 = .ok (.aload_n 2, 1) := by decide +kernel
theorem dL_law_256 : decode cL_law 256 = .ok (.aload_n 0, 1) := by decide +kernel
theorem dL_law_257 : decode cL_law 257 = .ok (.iload_n 3, 1) := by decide +kernel
theorem dL_law_258 : decode cL_law 258 = .ok (.iconst 1, 1) := by decide +kernel
theorem dL_law_259 : decode cL_law 259 = .ok (.iadd, 1) := by decide +kernel
theorem dL_law_260 : decode cL_law 260 = .ok (.iaload, 1) := by decide +kernel
theorem dL_law_261 : decode cL_law 261 = .ok (.aload_n 0, 1) := by decide +kernel
theorem dL_law_262 : decode cL_law 262 = .ok (.iload_n 3, 1) := by decide +kernel
theorem dL_law_263 : decode cL_law 263 = .ok (.iconst 2, 1) := by decide +kernel
theorem dL_law_264 : decode cL_law 264 = .ok (.iadd, 1) := by decide +kernel
theorem dL_law_265 : decode cL_law 265 = .ok (.iaload, 1) := by decide +kernel
theorem dL_law_266 : decode cL_law 266 = .ok (.aload_n 0, 1) := by decide +kernel
theorem dL_law_267 : decode cL_law 267 = .ok (.iload_n 3, 1) := by decide +kernel
theorem dL_law_268 : decode cL_law 268 = .ok (.iconst 3, 1) := by decide +kernel
theorem dL_law_269 : decode cL_law 269 = .ok (.iadd, 1) := by decide +kernel
theorem dL_law_270 : decode cL_law 270 = .ok (.iaload, 1) := by decide +kernel
theorem dL_law_271 : decode cL_law 271 = .ok (.invokevirtual 27, 3) := by decide +kernel
theorem dL_law_274 : decode cL_law 274 = .ok (.if_icmp .eq 756, 3) := by decide +kernel
theorem dL_law_277 : decode cL_law 277 = .ok (.iconst 0, 1) := by decide +kernel
theorem dL_law_278 : decode cL_law 278 = .ok (.ireturn, 1) := by decide +kernel
theorem dL_law_279 : decode cL_law 279 = .ok (.aload_n 1, 1) := by decide +kernel
theorem dL_law_280 : decode cL_law 280 = .ok (.aload_n 0, 1) := by decide +kernel
theorem dL_law_281 : decode cL_law 281 = .ok (.iload_n 3, 1) := by decide +kernel
theorem dL_law_282 : decode cL_law 282 = .ok (.iconst 1, 1) := by decide +kernel
theorem dL_law_283 : decode cL_law 283 = .ok (.iadd, 1) := by decide +kernel
theorem dL_law_284 : decode cL_law 284 = .ok (.iaload, 1) := by decide +kernel
theorem dL_law_285 : decode cL_law 285 = .ok (.invokevirtual 28, 3) := by decide +kernel
theorem dL_law_288 : decode cL_law 288 = .ok (.aload_n 2, 1) := by decide +kernel
theorem dL_law_289 : decode cL_law 289 = .ok (.aload_n 0, 1) := by decide +kernel
theorem dL_law_290 : decode cL_law 290 = .ok (.iload_n 3, 1) := by decide +kernel
theorem dL_law_291 : decode cL_law 291 = .ok (.iconst 1, 1) := by decide +kernel
theorem dL_law_292 : decode cL_law 292 = .ok (.iadd, 1) := by decide +kernel
theorem dL_law_293 : decode cL_law 293 = .ok (.iaload, 1) := by decide +kernel
theorem dL_law_294 : decode cL_law 294 = .ok (.invokevirtual 31, 3) := by decide +kernel
theorem dL_law_297 : decode cL_law 297 = .ok (.if_icmp .eq 733, 3) := by decide +kernel
theorem dL_law_300 : decode cL_law 300 = .ok (.iconst 0, 1) := by decide +kernel
theorem dL_law_301 : decode cL_law 301 = .ok (.ireturn, 1) := by decide +kernel
theorem dL_law_302 : decode cL_law 302 = .ok (.aload_n 1, 1) := by decide +kernel
theorem dL_law_303 : decode cL_law 303 = .ok (.aload_n 0, 1) := by decide +kernel
theorem dL_law_304 : decode cL_law 304 = .ok (.iload_n 3, 1) := by decide +kernel
theorem dL_law_305 : decode cL_law 305 = .ok (.iconst 1, 1) := by decide +kernel
theorem dL_law_306 : decode cL_law 306 = .ok (.iadd, 1) := by decide +kernel
theorem dL_law_307 : decode cL_law 307 = .ok (.iaload, 1) := by decide +kernel
theorem dL_law_308 : decode cL_law 308 = .ok (.aload_n 0, 1) := by decide +kernel
theorem dL_law_309 : decode cL_law 309 = .ok (.iload_n 3, 1) := by decide +kernel
theorem dL_law_310 : decode cL_law 310 = .ok (.iconst 2, 1) := by decide +kernel
theorem dL_law_311 : decode cL_law 311 = .ok (.iadd, 1) := by decide +kernel
theorem dL_law_312 : decode cL_law 312 = .ok (.iaload, 1) := by decide +kernel
theorem dL_law_313 : decode cL_law 313 = .ok (.aload_n 0, 1) := by decide +kernel
theorem dL_law_314 : decode cL_law 314 = .ok (.iload_n 3, 1) := by decide +kernel
theorem dL_law_315 : decode cL_law 315 = .ok (.iconst 3, 1) := by decide +kernel
theorem dL_law_316 : decode cL_law 316 = .ok (.iadd, 1) := by decide +kernel
theorem dL_law_317 : decode cL_law 317 = .ok (.iaload, 1) := by decide +kernel
theorem dL_law_318 : decode cL_law 318 = .ok (.invokevirtual 32, 3) := by decide +kernel
theorem dL_law_321 : decode cL_law 321 = .ok (.aload_n 2, 1) := by decide +kernel
theorem dL_law_322 : decode cL_law 322 = .ok (.aload_n 0, 1) := by decide +kernel
theorem dL_law_323 : decode cL_law 323 = .ok (.iload_n 3, 1) := by decide +kernel
theorem dL_law_324 : decode cL_law 324 = .ok (.iconst 1, 1) := by decide +kernel
theorem dL_law_325 : decode cL_law 325 = .ok (.iadd, 1) := by decide +kernel
theorem dL_law_326 : decode cL_law 326 = .ok (.iaload, 1) := by decide +kernel
theorem dL_law_327 : decode cL_law 327 = .ok (.aload_n 0, 1) := by decide +kernel
theorem dL_law_328 : decode cL_law 328 = .ok (.iload_n 3, 1) := by decide +kernel
theorem dL_law_329 : decode cL_law 329 = .ok (.iconst 2, 1) := by decide +kernel
theorem dL_law_330 : decode cL_law 330 = .ok (.iadd, 1) := by decide +kernel
theorem dL_law_331 : decode cL_law 331 = .ok (.iaload, 1) := by decide +kernel
theorem dL_law_332 : decode cL_law 332 = .ok (.aload_n 0, 1) := by decide +kernel
theorem dL_law_333 : decode cL_law 333 = .ok (.iload_n 3, 1) := by decide +kernel
theorem dL_law_334 : decode cL_law 334 = .ok (.iconst 3, 1) := by decide +kernel
theorem dL_law_335 : decode cL_law 335 = .ok (.iadd, 1) := by decide +kernel
theorem dL_law_336 : decode cL_law 336 = .ok (.iaload, 1) := by decide +kernel
theorem dL_law_337 : decode cL_law 337 = .ok (.invokevirtual 35, 3) := by decide +kernel
theorem dL_law_340 : decode cL_law 340 = .ok (.if_icmp .eq 690, 3) := by decide +kernel
theorem dL_law_343 : decode cL_law 343 = .ok (.iconst 0, 1) := by decide +kernel
theorem dL_law_344 : decode cL_law 344 = .ok (.ireturn, 1) := by decide +kernel
theorem dL_law_345 : decode cL_law 345 = .ok (.aload_n 1, 1) := by decide +kernel
theorem dL_law_346 : decode cL_law 346 = .ok (.aload_n 0, 1) := by decide +kernel
theorem dL_law_347 : decode cL_law 347 = .ok (.iload_n 3, 1) := by decide +kernel
theorem dL_law_348 : decode cL_law 348 = .ok (.iconst 1, 1) := by decide +kernel
theorem dL_law_349 : decode cL_law 349 = .ok (.iadd, 1) := by decide +kernel
theorem dL_law_350 : decode cL_law 350 = .ok (.iaload, 1) := by decide +kernel
theorem dL_law_351 : decode cL_law 351 = .ok (.aload_n 0, 1) := by decide +kernel
theorem dL_law_352 : decode cL_law 352 = .ok (.iload_n 3, 1) := by decide +kernel
theorem dL_law_353 : decode cL_law 353 = .ok (.iconst 2, 1) := by decide +kernel
theorem dL_law_354 : decode cL_law 354 = .ok (.iadd, 1) := by decide +kernel
theorem dL_law_355 : decode cL_law 355 = .ok (.iaload, 1) := by decide +kernel
theorem dL_law_356 : decode cL_law 356 = .ok (.aload_n 0, 1) := by decide +kernel
theorem dL_law_357 : decode cL_law 357 = .ok (.iload_n 3, 1) := by decide +kernel
theorem dL_law_358 : decode cL_law 358 = .ok (.iconst 3, 1) := by decide +kernel
theorem dL_law_359 : decode cL_law 359 = .ok (.iadd, 1) := by decide +kernel
theorem dL_law_360 : decode cL_law 360 = .ok (.iaload, 1) := by decide +kernel
theorem dL_law_361 : decode cL_law 361 = .ok (.invokevirtual 36, 3) := by decide +kernel
theorem dL_law_364 : decode cL_law 364 = .ok (.aload_n 2, 1) := by decide +kernel
theorem dL_law_365 : decode cL_law 365 = .ok (.aload_n 0, 1) := by decide +kernel
theorem dL_law_366 : decode cL_law 366 = .ok (.iload_n 3, 1) := by decide +kernel
theorem dL_law_367 : decode cL_law 367 = .ok (.iconst 1, 1) := by decide +kernel
theorem dL_law_368 : decode cL_law 368 = .ok (.iadd, 1) := by decide +kernel
theorem dL_law_369 : decode cL_law 369 = .ok (.iaload, 1) := by decide +kernel
theorem dL_law_370 : decode cL_law 370 = .ok (.aload_n 0, 1) := by decide +kernel
theorem dL_law_371 : decode cL_law 371 = .ok (.iload_n 3, 1) := by decide +kernel
theorem dL_law_372 : decode cL_law 372 = .ok (.iconst 2, 1) := by decide +kernel
theorem dL_law_373 : decode cL_law 373 = .ok (.iadd, 1) := by decide +kernel
theorem dL_law_374 : decode cL_law 374 = .ok (.iaload, 1) := by decide +kernel
theorem dL_law_375 : decode cL_law 375 = .ok (.aload_n 0, 1) := by decide +kernel
theorem dL_law_376 : decode cL_law 376 = .ok (.iload_n 3, 1) := by decide +kernel
theorem dL_law_377 : decode cL_law 377 = .ok (.iconst 3, 1) := by decide +kernel
theorem dL_law_378 : decode cL_law 378 = .ok (.iadd, 1) := by decide +kernel
theorem dL_law_379 : decode cL_law 379 = .ok (.iaload, 1) := by decide +kernel
theorem dL_law_380 : decode cL_law 380 = .ok (.invokevirtual 39, 3) := by decide +kernel
theorem dL_law_383 : decode cL_law 383 = .ok (.if_icmp .eq 647, 3) := by decide +kernel
theorem dL_law_386 : decode cL_law 386 = .ok (.iconst 0, 1) := by decide +kernel
theorem dL_law_387 : decode cL_law 387 = .ok (.ireturn, 1) := by decide +kernel
theorem dL_law_388 : decode cL_law 388 = .ok (.aload_n 1, 1) := by decide +kernel
theorem dL_law_389 : decode cL_law 389 = .ok (.aload_n 0, 1) := by decide +kernel
theorem dL_law_390 : decode cL_law 390 = .ok (.iload_n 3, 1) := by decide +kernel
theorem dL_law_391 : decode cL_law 391 = .ok (.iconst 1, 1) := by decide +kernel
theorem dL_law_392 : decode cL_law 392 = .ok (.iadd, 1) := by decide +kernel
theorem dL_law_393 : decode cL_law 393 = .ok (.iaload, 1) := by decide +kernel
theorem dL_law_394 : decode cL_law 394 = .ok (.aload_n 0, 1) := by decide +kernel
theorem dL_law_395 : decode cL_law 395 = .ok (.iload_n 3, 1) := by decide +kernel
theorem dL_law_396 : decode cL_law 396 = .ok (.iconst 2, 1) := by decide +kernel
theorem dL_law_397 : decode cL_law 397 = .ok (.iadd, 1) := by decide +kernel
theorem dL_law_398 : decode cL_law 398 = .ok (.iaload, 1) := by decide +kernel
theorem dL_law_399 : decode cL_law 399 = .ok (.aload_n 0, 1) := by decide +kernel
theorem dL_law_400 : decode cL_law 400 = .ok (.iload_n 3, 1) := by decide +kernel
theorem dL_law_401 : decode cL_law 401 = .ok (.iconst 3, 1) := by decide +kernel
theorem dL_law_402 : decode cL_law 402 = .ok (.iadd, 1) := by decide +kernel
theorem dL_law_403 : decode cL_law 403 = .ok (.iaload, 1) := by decide +kernel
theorem dL_law_404 : decode cL_law 404 = .ok (.invokevirtual 40, 3) := by decide +kernel
theorem dL_law_407 : decode cL_law 407 = .ok (.aload_n 2, 1) := by decide +kernel
theorem dL_law_408 : decode cL_law 408 = .ok (.aload_n 0, 1) := by decide +kernel
theorem dL_law_409 : decode cL_law 409 = .ok (.iload_n 3, 1) := by decide +kernel
theorem dL_law_410 : decode cL_law 410 = .ok (.iconst 1, 1) := by decide +kernel
theorem dL_law_411 : decode cL_law 411 = .ok (.iadd, 1) := by decide +kernel
theorem dL_law_412 : decode cL_law 412 = .ok (.iaload, 1) := by decide +kernel
theorem dL_law_413 : decode cL_law 413 = .ok (.aload_n 0, 1) := by decide +kernel
theorem dL_law_414 : decode cL_law 414 = .ok (.iload_n 3, 1) := by decide +kernel
theorem dL_law_415 : decode cL_law 415 = .ok (.iconst 2, 1) := by decide +kernel
theorem dL_law_416 : decode cL_law 416 = .ok (.iadd, 1) := by decide +kernel
theorem dL_law_417 : decode cL_law 417 = .ok (.iaload, 1) := by decide +kernel
theorem dL_law_418 : decode cL_law 418 = .ok (.aload_n 0, 1) := by decide +kernel
theorem dL_law_419 : decode cL_law 419 = .ok (.iload_n 3, 1) := by decide +kernel
theorem dL_law_420 : decode cL_law 420 = .ok (.iconst 3, 1) := by decide +kernel
theorem dL_law_421 : decode cL_law 421 = .ok (.iadd, 1) := by decide +kernel
theorem dL_law_422 : decode cL_law 422 = .ok (.iaload, 1) := by decide +kernel
theorem dL_law_423 : decode cL_law 423 = .ok (.invokevirtual 43, 3) := by decide +kernel
theorem dL_law_426 : decode cL_law 426 = .ok (.if_icmp .eq 604, 3) := by decide +kernel
theorem dL_law_429 : decode cL_law 429 = .ok (.iconst 0, 1) := by decide +kernel
theorem dL_law_430 : decode cL_law 430 = .ok (.ireturn, 1) := by decide +kernel
theorem dL_law_431 : decode cL_law 431 = .ok (.aload_n 1, 1) := by decide +kernel
theorem dL_law_432 : decode cL_law 432 = .ok (.aload_n 0, 1) := by decide +kernel
theorem dL_law_433 : decode cL_law 433 = .ok (.iload_n 3, 1) := by decide +kernel
theorem dL_law_434 : decode cL_law 434 = .ok (.iconst 1, 1) := by decide +kernel
theorem dL_law_435 : decode cL_law 435 = .ok (.iadd, 1) := by decide +kernel
theorem dL_law_436 : decode cL_law 436 = .ok (.iaload, 1) := by decide +kernel
theorem dL_law_437 : decode cL_law 437 = .ok (.aload_n 0, 1) := by decide +kernel
theorem dL_law_438 : decode cL_law 438 = .ok (.iload_n 3, 1) := by decide +kernel
theorem dL_law_439 : decode cL_law 439 = .ok (.iconst 2, 1) := by decide +kernel
theorem dL_law_440 : decode cL_law 440 = .ok (.iadd, 1) := by decide +kernel
theorem dL_law_441 : decode cL_law 441 = .ok (.iaload, 1) := by decide +kernel
theorem dL_law_442 : decode cL_law 442 = .ok (.aload_n 0, 1) := by decide +kernel
theorem dL_law_443 : decode cL_law 443 = .ok (.iload_n 3, 1) := by decide +kernel
theorem dL_law_444 : decode cL_law 444 = .ok (.iconst 3, 1) := by decide +kernel
theorem dL_law_445 : decode cL_law 445 = .ok (.iadd, 1) := by decide +kernel
theorem dL_law_446 : decode cL_law 446 = .ok (.iaload, 1) := by decide +kernel
theorem dL_law_447 : decode cL_law 447 = .ok (.invokevirtual 44, 3) := by decide +kernel
theorem dL_law_450 : decode cL_law 450 = .ok (.aload_n 2, 1) := by decide +kernel
theorem dL_law_451 : decode cL_law 451 = .ok (.aload_n 0, 1) := by decide +kernel
theorem dL_law_452 : decode cL_law 452 = .ok (.iload_n 3, 1) := by decide +kernel
theorem dL_law_453 : decode cL_law 453 = .ok (.iconst 1, 1) := by decide +kernel
theorem dL_law_454 : decode cL_law 454 = .ok (.iadd, 1) := by decide +kernel
theorem dL_law_455 : decode cL_law 455 = .ok (.iaload, 1) := by decide +kernel
theorem dL_law_456 : decode cL_law 456 = .ok (.aload_n 0, 1) := by decide +kernel
theorem dL_law_457 : decode cL_law 457 = .ok (.iload_n 3, 1) := by decide +kernel
theorem dL_law_458 : decode cL_law 458 = .ok (.iconst 2, 1) := by decide +kernel
theorem dL_law_459 : decode cL_law 459 = .ok (.iadd, 1) := by decide +kernel
theorem dL_law_460 : decode cL_law 460 = .ok (.iaload, 1) := by decide +kernel
theorem dL_law_461 : decode cL_law 461 = .ok (.aload_n 0, 1) := by decide +kernel
theorem dL_law_462 : decode cL_law 462 = .ok (.iload_n 3, 1) := by decide +kernel
theorem dL_law_463 : decode cL_law 463 = .ok (.iconst 3, 1) := by decide +kernel
theorem dL_law_464 : decode cL_law 464 = .ok (.iadd, 1) := by decide +kernel
theorem dL_law_465 : decode cL_law 465 = .ok (.iaload, 1) := by decide +kernel
theorem dL_law_466 : decode cL_law 466 = .ok (.invokevirtual 47, 3) := by decide +kernel
theorem dL_law_469 : decode cL_law 469 = .ok (.if_icmp .eq 561, 3) := by decide +kernel
theorem dL_law_472 : decode cL_law 472 = .ok (.iconst 0, 1) := by decide +kernel
theorem dL_law_473 : decode cL_law 473 = .ok (.ireturn, 1) := by decide +kernel
theorem dL_law_474 : decode cL_law 474 = .ok (.aload_n 1, 1) := by decide +kernel
theorem dL_law_475 : decode cL_law 475 = .ok (.aload_n 0, 1) := by decide +kernel
theorem dL_law_476 : decode cL_law 476 = .ok (.iload_n 3, 1) := by decide +kernel
theorem dL_law_477 : decode cL_law 477 = .ok (.iconst 1, 1) := by decide +kernel
theorem dL_law_478 : decode cL_law 478 = .ok (.iadd, 1) := by decide +kernel
theorem dL_law_479 : decode cL_law 479 = .ok (.iaload, 1) := by decide +kernel
theorem dL_law_480 : decode cL_law 480 = .ok (.aload_n 0, 1) := by decide +kernel
theorem dL_law_481 : decode cL_law 481 = .ok (.iload_n 3, 1) := by decide +kernel
theorem dL_law_482 : decode cL_law 482 = .ok (.iconst 2, 1) := by decide +kernel
theorem dL_law_483 : decode cL_law 483 = .ok (.iadd, 1) := by decide +kernel
theorem dL_law_484 : decode cL_law 484 = .ok (.iaload, 1) := by decide +kernel
theorem dL_law_485 : decode cL_law 485 = .ok (.invokevirtual 48, 3) := by decide +kernel
theorem dL_law_488 : decode cL_law 488 = .ok (.aload_n 2, 1) := by decide +kernel
theorem dL_law_489 : decode cL_law 489 = .ok (.aload_n 0, 1) := by decide +kernel
theorem dL_law_490 : decode cL_law 490 = .ok (.iload_n 3, 1) := by decide +kernel
theorem dL_law_491 : decode cL_law 491 = .ok (.iconst 1, 1) := by decide +kernel
theorem dL_law_492 : decode cL_law 492 = .ok (.iadd, 1) := by decide +kernel
theorem dL_law_493 : decode cL_law 493 = .ok (.iaload, 1) := by decide +kernel
theorem dL_law_494 : decode cL_law 494 = .ok (.aload_n 0, 1) := by decide +kernel
theorem dL_law_495 : decode cL_law 495 = .ok (.iload_n 3, 1) := by decide +kernel
theorem dL_law_496 : decode cL_law 496 = .ok (.iconst 2, 1) := by decide +kernel
theorem dL_law_497 : decode cL_law 497 = .ok (.iadd, 1) := by decide +kernel
theorem dL_law_498 : decode cL_law 498 = .ok (.iaload, 1) := by decide +kernel
theorem dL_law_499 : decode cL_law 499 = .ok (.invokevirtual 52, 3) := by decide +kernel
theorem dL_law_502 : decode cL_law 502 = .ok (.if_icmp .eq 528, 3) := by decide +kernel
theorem dL_law_505 : decode cL_law 505 = .ok (.iconst 0, 1) := by decide +kernel
theorem dL_law_506 : decode cL_law 506 = .ok (.ireturn, 1) := by decide +kernel
theorem dL_law_507 : decode cL_law 507 = .ok (.aload_n 1, 1) := by decide +kernel
theorem dL_law_508 : decode cL_law 508 = .ok (.invokevirtual 53, 3) := by decide +kernel
theorem dL_law_511 : decode cL_law 511 = .ok (.aload_n 2, 1) := by decide +kernel
theorem dL_law_512 : decode cL_law 512 = .ok (.invokevirtual 57, 3) := by decide +kernel
theorem dL_law_515 : decode cL_law 515 = .ok (.if_icmp .eq 515, 3) := by decide +kernel
theorem dL_law_518 : decode cL_law 518 = .ok (.iconst 0, 1) := by decide +kernel
theorem dL_law_519 : decode cL_law 519 = .ok (.ireturn, 1) := by decide +kernel
theorem dL_law_520 : decode cL_law 520 = .ok (.aload_n 1, 1) := by decide +kernel
theorem dL_law_521 : decode cL_law 521 = .ok (.aload_n 0, 1) := by decide +kernel
theorem dL_law_522 : decode cL_law 522 = .ok (.iload_n 3, 1) := by decide +kernel
theorem dL_law_523 : decode cL_law 523 = .ok (.iconst 1, 1) := by decide +kernel
theorem dL_law_524 : decode cL_law 524 = .ok (.iadd, 1) := by decide +kernel
theorem dL_law_525 : decode cL_law 525 = .ok (.iaload, 1) := by decide +kernel
theorem dL_law_526 : decode cL_law 526 = .ok (.invokevirtual 58, 3) := by decide +kernel
theorem dL_law_529 : decode cL_law 529 = .ok (.aload_n 2, 1) := by decide +kernel
theorem dL_law_530 : decode cL_law 530 = .ok (.aload_n 0, 1) := by decide +kernel
theorem dL_law_531 : decode cL_law 531 = .ok (.iload_n 3, 1) := by decide +kernel
theorem dL_law_532 : decode cL_law 532 = .ok (.iconst 1, 1) := by decide +kernel
theorem dL_law_533 : decode cL_law 533 = .ok (.iadd, 1) := by decide +kernel
theorem dL_law_534 : decode cL_law 534 = .ok (.iaload, 1) := by decide +kernel
theorem dL_law_535 : decode cL_law 535 = .ok (.invokevirtual 61, 3) := by decide +kernel
theorem dL_law_538 : decode cL_law 538 = .ok (.if_icmp .eq 492, 3) := by decide +kernel
theorem dL_law_541 : decode cL_law 541 = .ok (.iconst 0, 1) := by decide +kernel
theorem dL_law_542 : decode cL_law 542 = .ok (.ireturn, 1) := by decide +kernel
theorem dL_law_543 : decode cL_law 543 = .ok (.aload_n 1, 1) := by decide +kernel
theorem dL_law_544 : decode cL_law 544 = .ok (.aload_n 0, 1) := by decide +kernel
theorem dL_law_545 : decode cL_law 545 = .ok (.iload_n 3, 1) := by decide +kernel
theorem dL_law_546 : decode cL_law 546 = .ok (.iconst 1, 1) := by decide +kernel
theorem dL_law_547 : decode cL_law 547 = .ok (.iadd, 1) := by decide +kernel
theorem dL_law_548 : decode cL_law 548 = .ok (.iaload, 1) := by decide +kernel
theorem dL_law_549 : decode cL_law 549 = .ok (.invokevirtual 62, 3) := by decide +kernel
theorem dL_law_552 : decode cL_law 552 = .ok (.aload_n 2, 1) := by decide +kernel
theorem dL_law_553 : decode cL_law 553 = .ok (.aload_n 0, 1) := by decide +kernel
theorem dL_law_554 : decode cL_law 554 = .ok (.iload_n 3, 1) := by decide +kernel
theorem dL_law_555 : decode cL_law 555 = .ok (.iconst 1, 1) := by decide +kernel
theorem dL_law_556 : decode cL_law 556 = .ok (.iadd, 1) := by decide +kernel
theorem dL_law_557 : decode cL_law 557 = .ok (.iaload, 1) := by decide +kernel
theorem dL_law_558 : decode cL_law 558 = .ok (.invokevirtual 65, 3) := by decide +kernel
theorem dL_law_561 : decode cL_law 561 = .ok (.if_icmp .eq 469, 3) := by decide +kernel
theorem dL_law_564 : decode cL_law 564 = .ok (.iconst 0, 1) := by decide +kernel
theorem dL_law_565 : decode cL_law 565 = .ok (.ireturn, 1) := by decide +kernel
theorem dL_law_566 : decode cL_law 566 = .ok (.aload_n 1, 1) := by decide +kernel
theorem dL_law_567 : decode cL_law 567 = .ok (.invokevirtual 66, 3) := by decide +kernel
theorem dL_law_570 : decode cL_law 570 = .ok (.aload_n 2, 1) := by decide +kernel
theorem dL_law_571 : decode cL_law 571 = .ok (.invokevirtual 69, 3) := by decide +kernel
theorem dL_law_574 : decode cL_law 574 = .ok (.if_icmp .eq 456, 3) := by decide +kernel
theorem dL_law_577 : decode cL_law 577 = .ok (.iconst 0, 1) := by decide +kernel
theorem dL_law_578 : decode cL_law 578 = .ok (.ireturn, 1) := by decide +kernel
theorem dL_law_579 : decode cL_law 579 = .ok (.aload_n 1, 1) := by decide +kernel
theorem dL_law_580 : decode cL_law 580 = .ok (.aload_n 0, 1) := by decide +kernel
theorem dL_law_581 : decode cL_law 581 = .ok (.iload_n 3, 1) := by decide +kernel
theorem dL_law_582 : decode cL_law 582 = .ok (.iconst 1, 1) := by decide +kernel
theorem dL_law_583 : decode cL_law 583 = .ok (.iadd, 1) := by decide +kernel
theorem dL_law_584 : decode cL_law 584 = .ok (.iaload, 1) := by decide +kernel
theorem dL_law_585 : decode cL_law 585 = .ok (.aload_n 0, 1) := by decide +kernel
theorem dL_law_586 : decode cL_law 586 = .ok (.iload_n 3, 1) := by decide +kernel
theorem dL_law_587 : decode cL_law 587 = .ok (.iconst 2, 1) := by decide +kernel
theorem dL_law_588 : decode cL_law 588 = .ok (.iadd, 1) := by decide +kernel
theorem dL_law_589 : decode cL_law 589 = .ok (.iaload, 1) := by decide +kernel
theorem dL_law_590 : decode cL_law 590 = .ok (.ifCond .eq 7, 3) := by decide +kernel
theorem dL_law_593 : decode cL_law 593 = .ok (.iconst 1, 1) := by decide +kernel
theorem dL_law_594 : decode cL_law 594 = .ok (.goto 4, 3) := by decide +kernel
theorem dL_law_597 : decode cL_law 597 = .ok (.iconst 0, 1) := by decide +kernel
theorem dL_law_598 : decode cL_law 598 = .ok (.invokevirtual 70, 3) := by decide +kernel
theorem dL_law_601 : decode cL_law 601 = .ok (.aload_n 2, 1) := by decide +kernel
theorem dL_law_602 : decode cL_law 602 = .ok (.aload_n 0, 1) := by decide +kernel
theorem dL_law_603 : decode cL_law 603 = .ok (.iload_n 3, 1) := by decide +kernel
theorem dL_law_604 : decode cL_law 604 = .ok (.iconst 1, 1) := by decide +kernel
theorem dL_law_605 : decode cL_law 605 = .ok (.iadd, 1) := by decide +kernel
theorem dL_law_606 : decode cL_law 606 = .ok (.iaload, 1) := by decide +kernel
theorem dL_law_607 : decode cL_law 607 = .ok (.aload_n 0, 1) := by decide +kernel
theorem dL_law_608 : decode cL_law 608 = .ok (.iload_n 3, 1) := by decide +kernel
theorem dL_law_609 : decode cL_law 609 = .ok (.iconst 2, 1) := by decide +kernel
theorem dL_law_610 : decode cL_law 610 = .ok (.iadd, 1) := by decide +kernel
theorem dL_law_611 : decode cL_law 611 = .ok (.iaload, 1) := by decide +kernel
theorem dL_law_612 : decode cL_law 612 = .ok (.ifCond .eq 7, 3) := by decide +kernel
theorem dL_law_615 : decode cL_law 615 = .ok (.iconst 1, 1) := by decide +kernel
theorem dL_law_616 : decode cL_law 616 = .ok (.goto 4, 3) := by decide +kernel
theorem dL_law_619 : decode cL_law 619 = .ok (.iconst 0, 1) := by decide +kernel
theorem dL_law_620 : decode cL_law 620 = .ok (.invokevirtual 74, 3) := by decide +kernel
theorem dL_law_623 : decode cL_law 623 = .ok (.if_icmp .eq 407, 3) := by decide +kernel
theorem dL_law_626 : decode cL_law 626 = .ok (.iconst 0, 1) := by decide +kernel
theorem dL_law_627 : decode cL_law 627 = .ok (.ireturn, 1) := by decide +kernel
theorem dL_law_628 : decode cL_law 628 = .ok (.aload_n 1, 1) := by decide +kernel
theorem dL_law_629 : decode cL_law 629 = .ok (.aload_n 0, 1) := by decide +kernel
theorem dL_law_630 : decode cL_law 630 = .ok (.iload_n 3, 1) := by decide +kernel
theorem dL_law_631 : decode cL_law 631 = .ok (.iconst 1, 1) := by decide +kernel
theorem dL_law_632 : decode cL_law 632 = .ok (.iadd, 1) := by decide +kernel
theorem dL_law_633 : decode cL_law 633 = .ok (.iaload, 1) := by decide +kernel
theorem dL_law_634 : decode cL_law 634 = .ok (.aload_n 0, 1) := by decide +kernel
theorem dL_law_635 : decode cL_law 635 = .ok (.iload_n 3, 1) := by decide +kernel
theorem dL_law_636 : decode cL_law 636 = .ok (.iconst 2, 1) := by decide +kernel
theorem dL_law_637 : decode cL_law 637 = .ok (.iadd, 1) := by decide +kernel
theorem dL_law_638 : decode cL_law 638 = .ok (.iaload, 1) := by decide +kernel
theorem dL_law_639 : decode cL_law 639 = .ok (.invokevirtual 75, 3) := by decide +kernel
theorem dL_law_642 : decode cL_law 642 = .ok (.aload_n 2, 1) := by decide +kernel
theorem dL_law_643 : decode cL_law 643 = .ok (.aload_n 0, 1) := by decide +kernel
theorem dL_law_644 : decode cL_law 644 = .ok (.iload_n 3, 1) := by decide +kernel
theorem dL_law_645 : decode cL_law 645 = .ok (.iconst 1, 1) := by decide +kernel
theorem dL_law_646 : decode cL_law 646 = .ok (.iadd, 1) := by decide +kernel
theorem dL_law_647 : decode cL_law 647 = .ok (.iaload, 1) := by decide +kernel
theorem dL_law_648 : decode cL_law 648 = .ok (.aload_n 0, 1) := by decide +kernel
theorem dL_law_649 : decode cL_law 649 = .ok (.iload_n 3, 1) := by decide +kernel
theorem dL_law_650 : decode cL_law 650 = .ok (.iconst 2, 1) := by decide +kernel
theorem dL_law_651 : decode cL_law 651 = .ok (.iadd, 1) := by decide +kernel
theorem dL_law_652 : decode cL_law 652 = .ok (.iaload, 1) := by decide +kernel
theorem dL_law_653 : decode cL_law 653 = .ok (.invokevirtual 78, 3) := by decide +kernel
theorem dL_law_656 : decode cL_law 656 = .ok (.if_icmp .eq 374, 3) := by decide +kernel
theorem dL_law_659 : decode cL_law 659 = .ok (.iconst 0, 1) := by decide +kernel
theorem dL_law_660 : decode cL_law 660 = .ok (.ireturn, 1) := by decide +kernel
theorem dL_law_661 : decode cL_law 661 = .ok (.aload_n 1, 1) := by decide +kernel
theorem dL_law_662 : decode cL_law 662 = .ok (.aload_n 0, 1) := by decide +kernel
theorem dL_law_663 : decode cL_law 663 = .ok (.iload_n 3, 1) := by decide +kernel
theorem dL_law_664 : decode cL_law 664 = .ok (.iconst 1, 1) := by decide +kernel
theorem dL_law_665 : decode cL_law 665 = .ok (.iadd, 1) := by decide +kernel
theorem dL_law_666 : decode cL_law 666 = .ok (.iaload, 1) := by decide +kernel
theorem dL_law_667 : decode cL_law 667 = .ok (.aload_n 0, 1) := by decide +kernel
theorem dL_law_668 : decode cL_law 668 = .ok (.iload_n 3, 1) := by decide +kernel
theorem dL_law_669 : decode cL_law 669 = .ok (.iconst 2, 1) := by decide +kernel
theorem dL_law_670 : decode cL_law 670 = .ok (.iadd, 1) := by decide +kernel
theorem dL_law_671 : decode cL_law 671 = .ok (.iaload, 1) := by decide +kernel
theorem dL_law_672 : decode cL_law 672 = .ok (.invokevirtual 79, 3) := by decide +kernel
theorem dL_law_675 : decode cL_law 675 = .ok (.aload_n 2, 1) := by decide +kernel
theorem dL_law_676 : decode cL_law 676 = .ok (.aload_n 0, 1) := by decide +kernel
theorem dL_law_677 : decode cL_law 677 = .ok (.iload_n 3, 1) := by decide +kernel
theorem dL_law_678 : decode cL_law 678 = .ok (.iconst 1, 1) := by decide +kernel
theorem dL_law_679 : decode cL_law 679 = .ok (.iadd, 1) := by decide +kernel
theorem dL_law_680 : decode cL_law 680 = .ok (.iaload, 1) := by decide +kernel
theorem dL_law_681 : decode cL_law 681 = .ok (.aload_n 0, 1) := by decide +kernel
theorem dL_law_682 : decode cL_law 682 = .ok (.iload_n 3, 1) := by decide +kernel
theorem dL_law_683 : decode cL_law 683 = .ok (.iconst 2, 1) := by decide +kernel
theorem dL_law_684 : decode cL_law 684 = .ok (.iadd, 1) := by decide +kernel
theorem dL_law_685 : decode cL_law 685 = .ok (.iaload, 1) := by decide +kernel
theorem dL_law_686 : decode cL_law 686 = .ok (.invokevirtual 82, 3) := by decide +kernel
theorem dL_law_689 : decode cL_law 689 = .ok (.if_icmp .eq 341, 3) := by decide +kernel
theorem dL_law_692 : decode cL_law 692 = .ok (.iconst 0, 1) := by decide +kernel
theorem dL_law_693 : decode cL_law 693 = .ok (.ireturn, 1) := by decide +kernel
theorem dL_law_694 : decode cL_law 694 = .ok (.aload_n 1, 1) := by decide +kernel
theorem dL_law_695 : decode cL_law 695 = .ok (.aload_n 0, 1) := by decide +kernel
theorem dL_law_696 : decode cL_law 696 = .ok (.iload_n 3, 1) := by decide +kernel
theorem dL_law_697 : decode cL_law 697 = .ok (.iconst 1, 1) := by decide +kernel
theorem dL_law_698 : decode cL_law 698 = .ok (.iadd, 1) := by decide +kernel
theorem dL_law_699 : decode cL_law 699 = .ok (.iaload, 1) := by decide +kernel
theorem dL_law_700 : decode cL_law 700 = .ok (.invokevirtual 83, 3) := by decide +kernel
theorem dL_law_703 : decode cL_law 703 = .ok (.aload_n 2, 1) := by decide +kernel
theorem dL_law_704 : decode cL_law 704 = .ok (.aload_n 0, 1) := by decide +kernel
theorem dL_law_705 : decode cL_law 705 = .ok (.iload_n 3, 1) := by decide +kernel
theorem dL_law_706 : decode cL_law 706 = .ok (.iconst 1, 1) := by decide +kernel
theorem dL_law_707 : decode cL_law 707 = .ok (.iadd, 1) := by decide +kernel
theorem dL_law_708 : decode cL_law 708 = .ok (.iaload, 1) := by decide +kernel
theorem dL_law_709 : decode cL_law 709 = .ok (.invokevirtual 86, 3) := by decide +kernel
theorem dL_law_712 : decode cL_law 712 = .ok (.if_icmp .eq 318, 3) := by decide +kernel
theorem dL_law_715 : decode cL_law 715 = .ok (.iconst 0, 1) := by decide +kernel
theorem dL_law_716 : decode cL_law 716 = .ok (.ireturn, 1) := by decide +kernel
theorem dL_law_717 : decode cL_law 717 = .ok (.aload_n 1, 1) := by decide +kernel
theorem dL_law_718 : decode cL_law 718 = .ok (.aload_n 0, 1) := by decide +kernel
theorem dL_law_719 : decode cL_law 719 = .ok (.iload_n 3, 1) := by decide +kernel
theorem dL_law_720 : decode cL_law 720 = .ok (.iconst 1, 1) := by decide +kernel
theorem dL_law_721 : decode cL_law 721 = .ok (.iadd, 1) := by decide +kernel
theorem dL_law_722 : decode cL_law 722 = .ok (.iaload, 1) := by decide +kernel
theorem dL_law_723 : decode cL_law 723 = .ok (.aload_n 0, 1) := by decide +kernel
theorem dL_law_724 : decode cL_law 724 = .ok (.iload_n 3, 1) := by decide +kernel
theorem dL_law_725 : decode cL_law 725 = .ok (.iconst 2, 1) := by decide +kernel
theorem dL_law_726 : decode cL_law 726 = .ok (.iadd, 1) := by decide +kernel
theorem dL_law_727 : decode cL_law 727 = .ok (.iaload, 1) := by decide +kernel
theorem dL_law_728 : decode cL_law 728 = .ok (.invokevirtual 87, 3) := by decide +kernel
theorem dL_law_731 : decode cL_law 731 = .ok (.aload_n 2, 1) := by decide +kernel
theorem dL_law_732 : decode cL_law 732 = .ok (.aload_n 0, 1) := by decide +kernel
theorem dL_law_733 : decode cL_law 733 = .ok (.iload_n 3, 1) := by decide +kernel
theorem dL_law_734 : decode cL_law 734 = .ok (.iconst 1, 1) := by decide +kernel
theorem dL_law_735 : decode cL_law 735 = .ok (.iadd, 1) := by decide +kernel
theorem dL_law_736 : decode cL_law 736 = .ok (.iaload, 1) := by decide +kernel
theorem dL_law_737 : decode cL_law 737 = .ok (.aload_n 0, 1) := by decide +kernel
theorem dL_law_738 : decode cL_law 738 = .ok (.iload_n 3, 1) := by decide +kernel
theorem dL_law_739 : decode cL_law 739 = .ok (.iconst 2, 1) := by decide +kernel
theorem dL_law_740 : decode cL_law 740 = .ok (.iadd, 1) := by decide +kernel
theorem dL_law_741 : decode cL_law 741 = .ok (.iaload, 1) := by decide +kernel
theorem dL_law_742 : decode cL_law 742 = .ok (.invokevirtual 90, 3) := by decide +kernel
theorem dL_law_745 : decode cL_law 745 = .ok (.if_icmp .eq 285, 3) := by decide +kernel
theorem dL_law_748 : decode cL_law 748 = .ok (.iconst 0, 1) := by decide +kernel
theorem dL_law_749 : decode cL_law 749 = .ok (.ireturn, 1) := by decide +kernel
theorem dL_law_750 : decode cL_law 750 = .ok (.aload_n 1, 1) := by decide +kernel
theorem dL_law_751 : decode cL_law 751 = .ok (.aload_n 0, 1) := by decide +kernel
theorem dL_law_752 : decode cL_law 752 = .ok (.iload_n 3, 1) := by decide +kernel
theorem dL_law_753 : decode cL_law 753 = .ok (.iconst 1, 1) := by decide +kernel
theorem dL_law_754 : decode cL_law 754 = .ok (.iadd, 1) := by decide +kernel
theorem dL_law_755 : decode cL_law 755 = .ok (.iaload, 1) := by decide +kernel
theorem dL_law_756 : decode cL_law 756 = .ok (.invokevirtual 91, 3) := by decide +kernel
theorem dL_law_759 : decode cL_law 759 = .ok (.aload_n 2, 1) := by decide +kernel
theorem dL_law_760 : decode cL_law 760 = .ok (.aload_n 0, 1) := by decide +kernel
theorem dL_law_761 : decode cL_law 761 = .ok (.iload_n 3, 1) := by decide +kernel
theorem dL_law_762 : decode cL_law 762 = .ok (.iconst 1, 1) := by decide +kernel
theorem dL_law_763 : decode cL_law 763 = .ok (.iadd, 1) := by decide +kernel
theorem dL_law_764 : decode cL_law 764 = .ok (.iaload, 1) := by decide +kernel
theorem dL_law_765 : decode cL_law 765 = .ok (.invokevirtual 94, 3) := by decide +kernel
theorem dL_law_768 : decode cL_law 768 = .ok (.if_icmp .eq 262, 3) := by decide +kernel
theorem dL_law_771 : decode cL_law 771 = .ok (.iconst 0, 1) := by decide +kernel
theorem dL_law_772 : decode cL_law 772 = .ok (.ireturn, 1) := by decide +kernel
theorem dL_law_773 : decode cL_law 773 = .ok (.aload_n 1, 1) := by decide +kernel
theorem dL_law_774 : decode cL_law 774 = .ok (.aload_n 0, 1) := by decide +kernel
theorem dL_law_775 : decode cL_law 775 = .ok (.iload_n 3, 1) := by decide +kernel
theorem dL_law_776 : decode cL_law 776 = .ok (.iconst 1, 1) := by decide +kernel
theorem dL_law_777 : decode cL_law 777 = .ok (.iadd, 1) := by decide +kernel
theorem dL_law_778 : decode cL_law 778 = .ok (.iaload, 1) := by decide +kernel
theorem dL_law_779 : decode cL_law 779 = .ok (.aload_n 0, 1) := by decide +kernel
theorem dL_law_780 : decode cL_law 780 = .ok (.iload_n 3, 1) := by decide +kernel
theorem dL_law_781 : decode cL_law 781 = .ok (.iconst 2, 1) := by decide +kernel
theorem dL_law_782 : decode cL_law 782 = .ok (.iadd, 1) := by decide +kernel
theorem dL_law_783 : decode cL_law 783 = .ok (.iaload, 1) := by decide +kernel
theorem dL_law_784 : decode cL_law 784 = .ok (.invokevirtual 95, 3) := by decide +kernel
theorem dL_law_787 : decode cL_law 787 = .ok (.aload_n 2, 1) := by decide +kernel
theorem dL_law_788 : decode cL_law 788 = .ok (.aload_n 0, 1) := by decide +kernel
theorem dL_law_789 : decode cL_law 789 = .ok (.iload_n 3, 1) := by decide +kernel
theorem dL_law_790 : decode cL_law 790 = .ok (.iconst 1, 1) := by decide +kernel
theorem dL_law_791 : decode cL_law 791 = .ok (.iadd, 1) := by decide +kernel
theorem dL_law_792 : decode cL_law 792 = .ok (.iaload, 1) := by decide +kernel
theorem dL_law_793 : decode cL_law 793 = .ok (.aload_n 0, 1) := by decide +kernel
theorem dL_law_794 : decode cL_law 794 = .ok (.iload_n 3, 1) := by decide +kernel
theorem dL_law_795 : decode cL_law 795 = .ok (.iconst 2, 1) := by decide +kernel
theorem dL_law_796 : decode cL_law 796 = .ok (.iadd, 1) := by decide +kernel
theorem dL_law_797 : decode cL_law 797 = .ok (.iaload, 1) := by decide +kernel
theorem dL_law_798 : decode cL_law 798 = .ok (.invokevirtual 98, 3) := by decide +kernel
theorem dL_law_801 : decode cL_law 801 = .ok (.if_icmp .eq 229, 3) := by decide +kernel
theorem dL_law_804 : decode cL_law 804 = .ok (.iconst 0, 1) := by decide +kernel
theorem dL_law_805 : decode cL_law 805 = .ok (.ireturn, 1) := by decide +kernel
theorem dL_law_806 : decode cL_law 806 = .ok (.aload_n 1, 1) := by decide +kernel
theorem dL_law_807 : decode cL_law 807 = .ok (.aload_n 0, 1) := by decide +kernel
theorem dL_law_808 : decode cL_law 808 = .ok (.iload_n 3, 1) := by decide +kernel
theorem dL_law_809 : decode cL_law 809 = .ok (.iconst 1, 1) := by decide +kernel
theorem dL_law_810 : decode cL_law 810 = .ok (.iadd, 1) := by decide +kernel
theorem dL_law_811 : decode cL_law 811 = .ok (.iaload, 1) := by decide +kernel
theorem dL_law_812 : decode cL_law 812 = .ok (.invokevirtual 99, 3) := by decide +kernel
theorem dL_law_815 : decode cL_law 815 = .ok (.aload_n 2, 1) := by decide +kernel
theorem dL_law_816 : decode cL_law 816 = .ok (.aload_n 0, 1) := by decide +kernel
theorem dL_law_817 : decode cL_law 817 = .ok (.iload_n 3, 1) := by decide +kernel
theorem dL_law_818 : decode cL_law 818 = .ok (.iconst 1, 1) := by decide +kernel
theorem dL_law_819 : decode cL_law 819 = .ok (.iadd, 1) := by decide +kernel
theorem dL_law_820 : decode cL_law 820 = .ok (.iaload, 1) := by decide +kernel
theorem dL_law_821 : decode cL_law 821 = .ok (.invokevirtual 102, 3) := by decide +kernel
theorem dL_law_824 : decode cL_law 824 = .ok (.if_icmp .eq 206, 3) := by decide +kernel
theorem dL_law_827 : decode cL_law 827 = .ok (.iconst 0, 1) := by decide +kernel
theorem dL_law_828 : decode cL_law 828 = .ok (.ireturn, 1) := by decide +kernel
theorem dL_law_829 : decode cL_law 829 = .ok (.aload_n 1, 1) := by decide +kernel
theorem dL_law_830 : decode cL_law 830 = .ok (.aload_n 0, 1) := by decide +kernel
theorem dL_law_831 : decode cL_law 831 = .ok (.iload_n 3, 1) := by decide +kernel
theorem dL_law_832 : decode cL_law 832 = .ok (.iconst 1, 1) := by decide +kernel
theorem dL_law_833 : decode cL_law 833 = .ok (.iadd, 1) := by decide +kernel
theorem dL_law_834 : decode cL_law 834 = .ok (.iaload, 1) := by decide +kernel
theorem dL_law_835 : decode cL_law 835 = .ok (.invokevirtual 103, 3) := by decide +kernel
theorem dL_law_838 : decode cL_law 838 = .ok (.aload_n 2, 1) := by decide +kernel
theorem dL_law_839 : decode cL_law 839 = .ok (.aload_n 0, 1) := by decide +kernel
theorem dL_law_840 : decode cL_law 840 = .ok (.iload_n 3, 1) := by decide +kernel
theorem dL_law_841 : decode cL_law 841 = .ok (.iconst 1, 1) := by decide +kernel
theorem dL_law_842 : decode cL_law 842 = .ok (.iadd, 1) := by decide +kernel
theorem dL_law_843 : decode cL_law 843 = .ok (.iaload, 1) := by decide +kernel
theorem dL_law_844 : decode cL_law 844 = .ok (.invokevirtual 106, 3) := by decide +kernel
theorem dL_law_847 : decode cL_law 847 = .ok (.if_icmp .eq 183, 3) := by decide +kernel
theorem dL_law_850 : decode cL_law 850 = .ok (.iconst 0, 1) := by decide +kernel
theorem dL_law_851 : decode cL_law 851 = .ok (.ireturn, 1) := by decide +kernel
theorem dL_law_852 : decode cL_law 852 = .ok (.aload_n 1, 1) := by decide +kernel
theorem dL_law_853 : decode cL_law 853 = .ok (.invokevirtual 107, 3) := by decide +kernel
theorem dL_law_856 : decode cL_law 856 = .ok (.aload_n 2, 1) := by decide +kernel
theorem dL_law_857 : decode cL_law 857 = .ok (.invokevirtual 110, 3) := by decide +kernel
theorem dL_law_860 : decode cL_law 860 = .ok (.if_icmp .eq 170, 3) := by decide +kernel
theorem dL_law_863 : decode cL_law 863 = .ok (.iconst 0, 1) := by decide +kernel
theorem dL_law_864 : decode cL_law 864 = .ok (.ireturn, 1) := by decide +kernel
theorem dL_law_865 : decode cL_law 865 = .ok (.aload_n 1, 1) := by decide +kernel
theorem dL_law_866 : decode cL_law 866 = .ok (.aload_n 0, 1) := by decide +kernel
theorem dL_law_867 : decode cL_law 867 = .ok (.iload_n 3, 1) := by decide +kernel
theorem dL_law_868 : decode cL_law 868 = .ok (.iconst 1, 1) := by decide +kernel
theorem dL_law_869 : decode cL_law 869 = .ok (.iadd, 1) := by decide +kernel
theorem dL_law_870 : decode cL_law 870 = .ok (.iaload, 1) := by decide +kernel
theorem dL_law_871 : decode cL_law 871 = .ok (.aload_n 0, 1) := by decide +kernel
theorem dL_law_872 : decode cL_law 872 = .ok (.iload_n 3, 1) := by decide +kernel
theorem dL_law_873 : decode cL_law 873 = .ok (.iconst 2, 1) := by decide +kernel
theorem dL_law_874 : decode cL_law 874 = .ok (.iadd, 1) := by decide +kernel
theorem dL_law_875 : decode cL_law 875 = .ok (.iaload, 1) := by decide +kernel
theorem dL_law_876 : decode cL_law 876 = .ok (.aload_n 0, 1) := by decide +kernel
theorem dL_law_877 : decode cL_law 877 = .ok (.iload_n 3, 1) := by decide +kernel
theorem dL_law_878 : decode cL_law 878 = .ok (.iconst 3, 1) := by decide +kernel
theorem dL_law_879 : decode cL_law 879 = .ok (.iadd, 1) := by decide +kernel
theorem dL_law_880 : decode cL_law 880 = .ok (.iaload, 1) := by decide +kernel
theorem dL_law_881 : decode cL_law 881 = .ok (.invokevirtual 111, 3) := by decide +kernel
theorem dL_law_884 : decode cL_law 884 = .ok (.aload_n 2, 1) := by decide +kernel
theorem dL_law_885 : decode cL_law 885 = .ok (.aload_n 0, 1) := by decide +kernel
theorem dL_law_886 : decode cL_law 886 = .ok (.iload_n 3, 1) := by decide +kernel
theorem dL_law_887 : decode cL_law 887 = .ok (.iconst 1, 1) := by decide +kernel
theorem dL_law_888 : decode cL_law 888 = .ok (.iadd, 1) := by decide +kernel
theorem dL_law_889 : decode cL_law 889 = .ok (.iaload, 1) := by decide +kernel
theorem dL_law_890 : decode cL_law 890 = .ok (.aload_n 0, 1) := by decide +kernel
theorem dL_law_891 : decode cL_law 891 = .ok (.iload_n 3, 1) := by decide +kernel
theorem dL_law_892 : decode cL_law 892 = .ok (.iconst 2, 1) := by decide +kernel
theorem dL_law_893 : decode cL_law 893 = .ok (.iadd, 1) := by decide +kernel
theorem dL_law_894 : decode cL_law 894 = .ok (.iaload, 1) := by decide +kernel
theorem dL_law_895 : decode cL_law 895 = .ok (.aload_n 0, 1) := by decide +kernel
theorem dL_law_896 : decode cL_law 896 = .ok (.iload_n 3, 1) := by decide +kernel
theorem dL_law_897 : decode cL_law 897 = .ok (.iconst 3, 1) := by decide +kernel
theorem dL_law_898 : decode cL_law 898 = .ok (.iadd, 1) := by decide +kernel
theorem dL_law_899 : decode cL_law 899 = .ok (.iaload, 1) := by decide +kernel
theorem dL_law_900 : decode cL_law 900 = .ok (.invokevirtual 114, 3) := by decide +kernel
theorem dL_law_903 : decode cL_law 903 = .ok (.if_icmp .eq 127, 3) := by decide +kernel
theorem dL_law_906 : decode cL_law 906 = .ok (.iconst 0, 1) := by decide +kernel
theorem dL_law_907 : decode cL_law 907 = .ok (.ireturn, 1) := by decide +kernel
theorem dL_law_908 : decode cL_law 908 = .ok (.aload_n 1, 1) := by decide +kernel
theorem dL_law_909 : decode cL_law 909 = .ok (.aload_n 0, 1) := by decide +kernel
theorem dL_law_910 : decode cL_law 910 = .ok (.iload_n 3, 1) := by decide +kernel
theorem dL_law_911 : decode cL_law 911 = .ok (.iconst 1, 1) := by decide +kernel
theorem dL_law_912 : decode cL_law 912 = .ok (.iadd, 1) := by decide +kernel
theorem dL_law_913 : decode cL_law 913 = .ok (.iaload, 1) := by decide +kernel
theorem dL_law_914 : decode cL_law 914 = .ok (.aload_n 0, 1) := by decide +kernel
theorem dL_law_915 : decode cL_law 915 = .ok (.iload_n 3, 1) := by decide +kernel
theorem dL_law_916 : decode cL_law 916 = .ok (.iconst 2, 1) := by decide +kernel
theorem dL_law_917 : decode cL_law 917 = .ok (.iadd, 1) := by decide +kernel
theorem dL_law_918 : decode cL_law 918 = .ok (.iaload, 1) := by decide +kernel
theorem dL_law_919 : decode cL_law 919 = .ok (.invokevirtual 115, 3) := by decide +kernel
theorem dL_law_922 : decode cL_law 922 = .ok (.aload_n 2, 1) := by decide +kernel
theorem dL_law_923 : decode cL_law 923 = .ok (.aload_n 0, 1) := by decide +kernel
theorem dL_law_924 : decode cL_law 924 = .ok (.iload_n 3, 1) := by decide +kernel
theorem dL_law_925 : decode cL_law 925 = .ok (.iconst 1, 1) := by decide +kernel
theorem dL_law_926 : decode cL_law 926 = .ok (.iadd, 1) := by decide +kernel
theorem dL_law_927 : decode cL_law 927 = .ok (.iaload, 1) := by decide +kernel
theorem dL_law_928 : decode cL_law 928 = .ok (.aload_n 0, 1) := by decide +kernel
theorem dL_law_929 : decode cL_law 929 = .ok (.iload_n 3, 1) := by decide +kernel
theorem dL_law_930 : decode cL_law 930 = .ok (.iconst 2, 1) := by decide +kernel
theorem dL_law_931 : decode cL_law 931 = .ok (.iadd, 1) := by decide +kernel
theorem dL_law_932 : decode cL_law 932 = .ok (.iaload, 1) := by decide +kernel
theorem dL_law_933 : decode cL_law 933 = .ok (.invokevirtual 118, 3) := by decide +kernel
theorem dL_law_936 : decode cL_law 936 = .ok (.if_icmp .eq 94, 3) := by decide +kernel
theorem dL_law_939 : decode cL_law 939 = .ok (.iconst 0, 1) := by decide +kernel
theorem dL_law_940 : decode cL_law 940 = .ok (.ireturn, 1) := by decide +kernel
theorem dL_law_941 : decode cL_law 941 = .ok (.aload_n 1, 1) := by decide +kernel
theorem dL_law_942 : decode cL_law 942 = .ok (.aload_n 0, 1) := by decide +kernel
theorem dL_law_943 : decode cL_law 943 = .ok (.iload_n 3, 1) := by decide +kernel
theorem dL_law_944 : decode cL_law 944 = .ok (.iconst 1, 1) := by decide +kernel
theorem dL_law_945 : decode cL_law 945 = .ok (.iadd, 1) := by decide +kernel
theorem dL_law_946 : decode cL_law 946 = .ok (.iaload, 1) := by decide +kernel
theorem dL_law_947 : decode cL_law 947 = .ok (.aload_n 0, 1) := by decide +kernel
theorem dL_law_948 : decode cL_law 948 = .ok (.iload_n 3, 1) := by decide +kernel
theorem dL_law_949 : decode cL_law 949 = .ok (.iconst 2, 1) := by decide +kernel
theorem dL_law_950 : decode cL_law 950 = .ok (.iadd, 1) := by decide +kernel
theorem dL_law_951 : decode cL_law 951 = .ok (.iaload, 1) := by decide +kernel
theorem dL_law_952 : decode cL_law 952 = .ok (.aload_n 0, 1) := by decide +kernel
theorem dL_law_953 : decode cL_law 953 = .ok (.iload_n 3, 1) := by decide +kernel
theorem dL_law_954 : decode cL_law 954 = .ok (.iconst 3, 1) := by decide +kernel
theorem dL_law_955 : decode cL_law 955 = .ok (.iadd, 1) := by decide +kernel
theorem dL_law_956 : decode cL_law 956 = .ok (.iaload, 1) := by decide +kernel
theorem dL_law_957 : decode cL_law 957 = .ok (.invokevirtual 119, 3) := by decide +kernel
theorem dL_law_960 : decode cL_law 960 = .ok (.aload_n 2, 1) := by decide +kernel
theorem dL_law_961 : decode cL_law 961 = .ok (.aload_n 0, 1) := by decide +kernel
theorem dL_law_962 : decode cL_law 962 = .ok (.iload_n 3, 1) := by decide +kernel
theorem dL_law_963 : decode cL_law 963 = .ok (.iconst 1, 1) := by decide +kernel
theorem dL_law_964 : decode cL_law 964 = .ok (.iadd, 1) := by decide +kernel
theorem dL_law_965 : decode cL_law 965 = .ok (.iaload, 1) := by decide +kernel
theorem dL_law_966 : decode cL_law 966 = .ok (.aload_n 0, 1) := by decide +kernel
theorem dL_law_967 : decode cL_law 967 = .ok (.iload_n 3, 1) := by decide +kernel
theorem dL_law_968 : decode cL_law 968 = .ok (.iconst 2, 1) := by decide +kernel
theorem dL_law_969 : decode cL_law 969 = .ok (.iadd, 1) := by decide +kernel
theorem dL_law_970 : decode cL_law 970 = .ok (.iaload, 1) := by decide +kernel
theorem dL_law_971 : decode cL_law 971 = .ok (.aload_n 0, 1) := by decide +kernel
theorem dL_law_972 : decode cL_law 972 = .ok (.iload_n 3, 1) := by decide +kernel
theorem dL_law_973 : decode cL_law 973 = .ok (.iconst 3, 1) := by decide +kernel
theorem dL_law_974 : decode cL_law 974 = .ok (.iadd, 1) := by decide +kernel
theorem dL_law_975 : decode cL_law 975 = .ok (.iaload, 1) := by decide +kernel
theorem dL_law_976 : decode cL_law 976 = .ok (.invokevirtual 122, 3) := by decide +kernel
theorem dL_law_979 : decode cL_law 979 = .ok (.if_icmp .eq 51, 3) := by decide +kernel
theorem dL_law_982 : decode cL_law 982 = .ok (.iconst 0, 1) := by decide +kernel
theorem dL_law_983 : decode cL_law 983 = .ok (.ireturn, 1) := by decide +kernel
theorem dL_law_984 : decode cL_law 984 = .ok (.aload_n 1, 1) := by decide +kernel
theorem dL_law_985 : decode cL_law 985 = .ok (.aload_n 0, 1) := by decide +kernel
theorem dL_law_986 : decode cL_law 986 = .ok (.iload_n 3, 1) := by decide +kernel
theorem dL_law_987 : decode cL_law 987 = .ok (.iconst 1, 1) := by decide +kernel
theorem dL_law_988 : decode cL_law 988 = .ok (.iadd, 1) := by decide +kernel
theorem dL_law_989 : decode cL_law 989 = .ok (.iaload, 1) := by decide +kernel
theorem dL_law_990 : decode cL_law 990 = .ok (.invokevirtual 123, 3) := by decide +kernel
theorem dL_law_993 : decode cL_law 993 = .ok (.aload_n 2, 1) := by decide +kernel
theorem dL_law_994 : decode cL_law 994 = .ok (.aload_n 0, 1) := by decide +kernel
theorem dL_law_995 : decode cL_law 995 = .ok (.iload_n 3, 1) := by decide +kernel
theorem dL_law_996 : decode cL_law 996 = .ok (.iconst 1, 1) := by decide +kernel
theorem dL_law_997 : decode cL_law 997 = .ok (.iadd, 1) := by decide +kernel
theorem dL_law_998 : decode cL_law 998 = .ok (.iaload, 1) := by decide +kernel
theorem dL_law_999 : decode cL_law 999 = .ok (.invokevirtual 126, 3) := by decide +kernel
theorem dL_law_1002 : decode cL_law 1002 = .ok (.if_icmp .eq 28, 3) := by decide +kernel
theorem dL_law_1005 : decode cL_law 1005 = .ok (.iconst 0, 1) := by decide +kernel
theorem dL_law_1006 : decode cL_law 1006 = .ok (.ireturn, 1) := by decide +kernel
theorem dL_law_1007 : decode cL_law 1007 = .ok (.aload_n 1, 1) := by decide +kernel
theorem dL_law_1008 : decode cL_law 1008 = .ok (.aload_n 0, 1) := by decide +kernel
theorem dL_law_1009 : decode cL_law 1009 = .ok (.iload_n 3, 1) := by decide +kernel
theorem dL_law_1010 : decode cL_law 1010 = .ok (.iconst 1, 1) := by decide +kernel
theorem dL_law_1011 : decode cL_law 1011 = .ok (.iadd, 1) := by decide +kernel
theorem dL_law_1012 : decode cL_law 1012 = .ok (.iaload, 1) := by decide +kernel
theorem dL_law_1013 : decode cL_law 1013 = .ok (.invokevirtual 127, 3) := by decide +kernel
theorem dL_law_1016 : decode cL_law 1016 = .ok (.aload_n 2, 1) := by decide +kernel
theorem dL_law_1017 : decode cL_law 1017 = .ok (.aload_n 0, 1) := by decide +kernel
theorem dL_law_1018 : decode cL_law 1018 = .ok (.iload_n 3, 1) := by decide +kernel
theorem dL_law_1019 : decode cL_law 1019 = .ok (.iconst 1, 1) := by decide +kernel
theorem dL_law_1020 : decode cL_law 1020 = .ok (.iadd, 1) := by decide +kernel
theorem dL_law_1021 : decode cL_law 1021 = .ok (.iaload, 1) := by decide +kernel
theorem dL_law_1022 : decode cL_law 1022 = .ok (.invokevirtual 130, 3) := by decide +kernel
theorem dL_law_1025 : decode cL_law 1025 = .ok (.if_icmp .eq 5, 3) := by decide +kernel
theorem dL_law_1028 : decode cL_law 1028 = .ok (.iconst 0, 1) := by decide +kernel
theorem dL_law_1029 : decode cL_law 1029 = .ok (.ireturn, 1) := by decide +kernel
theorem dL_law_1030 : decode cL_law 1030 = .ok (.iinc 3 5, 3) := by decide +kernel
theorem dL_law_1033 : decode cL_law 1033 = .ok (.goto (-1015), 3) := by decide +kernel
theorem dL_law_1036 : decode cL_law 1036 = .ok (.iconst 1, 1) := by decide +kernel
theorem dL_law_1037 : decode cL_law 1037 = .ok (.ireturn, 1) := by decide +kernel
abbrev vwCl : List vw_C := [(RX0, TX0, 7), (RX1, TX1, 12), (RX2, TX2, 21)]
end
section
/-! plain facts on numbers and arrays, to paste: each family by itself; over the kit's rows on nI and upd -/
/-! ===== order of ints, in all its forms, and through longs ===== -/
theorem fa_lt (a b : Int32) : a < b ↔ a.toInt < b.toInt := Int32.lt_iff_toInt_lt
theorem fa_le (a b : Int32) : a ≤ b ↔ a.toInt ≤ b.toInt := Int32.le_iff_toInt_le
theorem fa_eq (a b : Int32) : a = b ↔ a.toInt = b.toInt := Int32.toInt_inj.symm
theorem fa_lt64 (a b : Int64) : a < b ↔ a.toInt < b.toInt := Int64.lt_iff_toInt_lt
theorem fa_le64 (a b : Int64) : a ≤ b ↔ a.toInt ≤ b.toInt := Int64.le_iff_toInt_le
theorem fa_eq64 (a b : Int64) : a = b ↔ a.toInt = b.toInt := Int64.toInt_inj.symm
/-- a comparison of two ints taken as longs -/
theorem fa_wide_lt (a b : Int32) : a.toInt64 < b.toInt64 ↔ a < b := by rw [fa_lt64, fa_lt, Int32.toInt_toInt64, Int32.toInt_toInt64]
theorem fa_wide_le (a b : Int32) : a.toInt64 ≤ b.toInt64 ↔ a ≤ b := by rw [fa_le64, fa_le, Int32.toInt_toInt64, Int32.toInt_toInt64]
theorem fa_wide_eq (a b : Int32) : a.toInt64 = b.toInt64 ↔ a = b := by rw [fa_eq64, fa_eq, Int32.toInt_toInt64, Int32.toInt_toInt64]
/-- one strict comparison gives all the others -/
theorem fa_of_lt {a b : Int32} (h : a < b) : a ≤ b ∧ ¬ b ≤ a ∧ ¬ b < a ∧ a ≠ b ∧ b ≠ a := by
  rw [fa_lt] at h
  refine ⟨?_, ?_, ?_, ?_, ?_⟩
  · rw [fa_le]; omega
  · rw [fa_le]; omega
  · rw [fa_lt]; omega
  · intro e; rw [fa_eq] at e; omega
  · intro e; rw [fa_eq] at e; omega
theorem fa_of_nlt {a b : Int32} (h : ¬ a < b) : b ≤ a := by
  rw [fa_lt] at h
  rw [fa_le]
  omega
theorem fa_of_nle {a b : Int32} (h : ¬ a ≤ b) : b < a := by
  rw [fa_le] at h
  rw [fa_lt]
  omega
theorem fa_le_ne {a b : Int32} (h : a ≤ b) (h2 : a ≠ b) : a < b := by
  rw [fa_le] at h
  rw [fa_lt]
  have h3 : a.toInt ≠ b.toInt := fun e => h2 ((fa_eq a b).mpr e)
  omega
theorem fa_three (a b : Int32) : a < b ∨ a = b ∨ b < a := by
  rw [fa_lt, fa_lt, fa_eq]
  omega
theorem fa_trans {a b c : Int32} (h : a < b) (h2 : b ≤ c) : a < c := by
  rw [fa_lt] at *
  rw [fa_le] at h2
  omega
/-! ===== small literals as numbers ===== -/
theorem fa_lit (n : Nat) : (OfNat.ofNat n : Int32) = nI n := rfl
theorem fa_litL (n : Nat) : (OfNat.ofNat n : Int64) = lN n := rfl
/-! ===== bits of a number: 'or', masks, one bit ===== -/
theorem fa_and (a b : Nat) : nI a &&& nI b = nI (a &&& b) := by
  apply Int32.toBitVec_inj.1
  show BitVec.ofNat 32 a &&& BitVec.ofNat 32 b = BitVec.ofNat 32 (a &&& b)
  apply BitVec.eq_of_getLsbD_eq
  intro i hi
  simp [hi]
theorem fa_or (a b : Nat) : nI a ||| nI b = nI (a ||| b) := by
  apply Int32.toBitVec_inj.1
  show BitVec.ofNat 32 a ||| BitVec.ofNat 32 b = BitVec.ofNat 32 (a ||| b)
  apply BitVec.eq_of_getLsbD_eq
  intro i hi
  simp [hi]
/-- a remainder by a power of two, as a mask -/
theorem fa_mask (n k : Nat) : nI n &&& nI (2 ^ k - 1) = nI (n % 2 ^ k) := by rw [fa_and, Nat.and_two_pow_sub_one_eq_mod]
/-- 'or' of a high part and a low one that don't meet is their sum -/
theorem fa_or_sum {a k : Nat} (b : Nat) (h : a < 2 ^ k) : nI (2 ^ k * b) ||| nI a = nI (2 ^ k * b + a) := by rw [fa_or, Nat.two_pow_add_eq_or_of_lt h]
/-- one bit, by 'and' with a power of two -/
theorem fa_bit {n j : Nat} (hj : j < 31) : nI n &&& nI (2 ^ j) = 0 ↔ n.testBit j = false := by
  have h2 : (2 : Nat) ^ j < 2 ^ 31 := Nat.pow_lt_pow_right (by decide) hj
  have hle : n &&& 2 ^ j ≤ 2 ^ j := Nat.and_le_right
  have e : n &&& 2 ^ j = 0 ↔ n.testBit j = false := by
    constructor
    · intro h
      have h1 : (n &&& 2 ^ j).testBit j = false := by rw [h]; simp
      rw [Nat.testBit_and] at h1
      first | simpa using h1 | simpa [Nat.testBit_two_pow_self] using h1 | simpa [Nat.testBit_two_pow] using h1
    · intro h
      apply Nat.eq_of_testBit_eq
      intro i
      rw [Nat.testBit_and]
      by_cases hi : j = i
      · subst hi; simp [h]
      · first | (simp [Nat.testBit_two_pow, hi]; done) | (simp [Nat.testBit_two_pow_of_ne hi]; done)
  rw [fa_and]
  constructor
  · intro h
    apply e.mp
    rcases Nat.eq_zero_or_pos (n &&& 2 ^ j) with z | z
    · exact z
    · exact absurd h (nI_ne0 z (Nat.lt_of_le_of_lt hle h2))
  · intro h
    rw [e.mpr h]; exact nI_0
/-- a remainder by a power of two of a number that isn't negative, as Java divides -/
theorem fa_rem {a k : Nat} (ha : a < 2 ^ 31) (hk : k < 31) : nI a - nI a / nI (2 ^ k) * nI (2 ^ k) = nI (a % 2 ^ k) := pk_rem ha (Nat.two_pow_pos k) (Nat.pow_lt_pow_right (by decide) hk)
/-! ===== cuts to a byte, a short ===== -/
theorem fa_byte_xor (x y : Int32) : (x ^^^ y).toInt8 = x.toInt8 ^^^ y.toInt8 := by
  apply Int8.toBitVec_inj.1
  apply BitVec.eq_of_getLsbD_eq
  intro i hi
  first | (simp [hi]; done) | (simp [hi, BitVec.getLsbD_setWidth, BitVec.getLsbD_signExtend]; done)
theorem fa_short_xor (x y : Int32) : (x ^^^ y).toInt16 = x.toInt16 ^^^ y.toInt16 := by
  apply Int16.toBitVec_inj.1
  apply BitVec.eq_of_getLsbD_eq
  intro i hi
  first | (simp [hi]; done) | (simp [hi, BitVec.getLsbD_setWidth, BitVec.getLsbD_signExtend]; done)
/-- the cut to a byte sees the low byte alone -/
theorem fa_byte_low (x : Int32) : (x &&& 255).toInt8 = x.toInt8 := by
  apply Int8.toBitVec_inj.1
  apply BitVec.eq_of_getLsbD_eq
  intro i hi
  have h2 : (255 : Int32).toBitVec.getLsbD i = true := by
    have : ∀ j : Fin 8, (255 : Int32).toBitVec.getLsbD j.val = true := by decide +kernel
    exact this ⟨i, hi⟩
  have h4 : (x &&& 255).toBitVec.getLsbD i = x.toBitVec.getLsbD i := by
    show (x.toBitVec &&& (255 : Int32).toBitVec).getLsbD i = _
    rw [BitVec.getLsbD_and, h2, Bool.and_true]
  have h3 : i < 32 := by omega
  first
    | (show (((x &&& 255).toBitVec).signExtend 8).getLsbD i = (x.toBitVec.signExtend 8).getLsbD i; rw [BitVec.getLsbD_signExtend, BitVec.getLsbD_signExtend, if_pos h3, if_pos h3, h4])
    | (show (((x &&& 255).toBitVec).setWidth 8).getLsbD i = (x.toBitVec.setWidth 8).getLsbD i; rw [BitVec.getLsbD_setWidth, BitVec.getLsbD_setWidth, h4])
    | (simp [hi, h3, h4]; done)
theorem fa_short_low (x : Int32) : (x &&& 65535).toInt16 = x.toInt16 := by
  apply Int16.toBitVec_inj.1
  apply BitVec.eq_of_getLsbD_eq
  intro i hi
  have h2 : (65535 : Int32).toBitVec.getLsbD i = true := by
    have : ∀ j : Fin 16, (65535 : Int32).toBitVec.getLsbD j.val = true := by decide +kernel
    exact this ⟨i, hi⟩
  have h4 : (x &&& 65535).toBitVec.getLsbD i = x.toBitVec.getLsbD i := by
    show (x.toBitVec &&& (65535 : Int32).toBitVec).getLsbD i = _
    rw [BitVec.getLsbD_and, h2, Bool.and_true]
  have h3 : i < 32 := by omega
  first
    | (show (((x &&& 65535).toBitVec).signExtend 16).getLsbD i = (x.toBitVec.signExtend 16).getLsbD i; rw [BitVec.getLsbD_signExtend, BitVec.getLsbD_signExtend, if_pos h3, if_pos h3, h4])
    | (show (((x &&& 65535).toBitVec).setWidth 16).getLsbD i = (x.toBitVec.setWidth 16).getLsbD i; rw [BitVec.getLsbD_setWidth, BitVec.getLsbD_setWidth, h4])
    | (simp [hi, h3, h4]; done)
/-- a small number is its own byte, its own short -/
theorem fa_byte_small {n : Nat} (h : n < 128) : (nI n).toInt8.toInt32 = nI n := by
  have : ∀ j : Fin 128, (nI j.val).toInt8.toInt32 = nI j.val := by decide +kernel
  exact this ⟨n, h⟩
/-! ===== absolute difference ===== -/
theorem fa_absdiff {a b : Nat} (ha : a < 2 ^ 31) (hb : b < 2 ^ 31) : (if nI a < nI b then nI b - nI a else nI a - nI b) = nI (if a < b then b - a else a - b) := by
  by_cases h : a < b
  · rw [if_pos (nI_lt h hb), if_pos h]
    exact pk_sub (Nat.le_of_lt h)
  · rw [if_neg (nI_nlt (Nat.le_of_not_lt h) ha), if_neg h]
    exact pk_sub (Nat.le_of_not_lt h)
/-! ===== an array behind i stores, a conditional store, a row copied ===== -/
/-- f where k < i, what stood there else -/
def fa_fill {α : Type} (f g : Nat → α) (i : Nat) : Nat → α := fun k => if k < i then f k else g k
theorem fa_fill_0 {α : Type} (f g : Nat → α) : fa_fill f g 0 = g := funext fun k => if_neg (Nat.not_lt_zero k)
theorem fa_fill_in {α : Type} {f g : Nat → α} {i k : Nat} (h : k < i) : fa_fill f g i k = f k := if_pos h
theorem fa_fill_out {α : Type} {f g : Nat → α} {i k : Nat} (h : i ≤ k) : fa_fill f g i k = g k := if_neg (Nat.not_lt.mpr h)
theorem fa_fill_succ (f g : Nat → Int32) (i : Nat) : upd (fa_fill f g i) i (f i) = fa_fill f g (i + 1) := by
  funext k
  by_cases e : k = i
  · subst e
    rw [pk_us]
    exact (if_pos (Nat.lt_succ_self k)).symm
  · rw [pk_un e]
    by_cases h : k < i
    · rw [fa_fill_in h, fa_fill_in (Nat.lt_succ_of_lt h)]
    · rw [fa_fill_out (Nat.le_of_not_lt h), fa_fill_out (by omega)]
/-- a store that changes nothing -/
theorem fa_upd_same {f : Nat → Int32} {i : Nat} {x : Int32} (h : f i = x) : upd f i x = f := by
  funext k
  by_cases e : k = i
  · subst e
    rw [pk_us, h]
  · rw [pk_un e]
/-- a store under a condition, told as one -/
theorem fa_upd_if (c : Prop) [Decidable c] (f : Nat → Int32) (i : Nat) (x : Int32) : (if c then upd f i x else f) = upd f i (if c then x else f i) := by
  by_cases h : c
  · rw [if_pos h, if_pos h]
  · rw [if_neg h, if_neg h, fa_upd_same rfl]
/-- two stores at one place, at two -/
theorem fa_upd_twice (f : Nat → Int32) (i : Nat) (x y : Int32) : upd (upd f i x) i y = upd f i y := by
  funext k
  by_cases e : k = i
  · subst e
    rw [pk_us, pk_us]
  · rw [pk_un e, pk_un e, pk_un e]
theorem fa_upd_swap (f : Nat → Int32) {i j : Nat} (h : i ≠ j) (x y : Int32) : upd (upd f i x) j y = upd (upd f j y) i x := by
  funext k
  by_cases e : k = i
  · subst e
    rw [pk_un h, pk_us, pk_us]
  · by_cases e2 : k = j
    · subst e2
      rw [pk_us, pk_un e, pk_us]
    · rw [pk_un e2, pk_un e, pk_un e, pk_un e2]
/-! ===== the first index with a property; a count ===== -/
/-- the first k < n with p k, n if there is none -/
def fa_first (p : Nat → Bool) : Nat → Nat
  | 0 => 0
  | n + 1 => if fa_first p n < n then fa_first p n else if p n then n else n + 1
theorem fa_first_le (p : Nat → Bool) : ∀ n, fa_first p n ≤ n
  | 0 => Nat.le_refl 0
  | n + 1 => by
    have ih := fa_first_le p n
    unfold fa_first
    split
    · omega
    · split
      · omega
      · omega
theorem fa_first_no (p : Nat → Bool) : ∀ n k, k < fa_first p n → p k = false
  | 0, k, h => absurd h (Nat.not_lt_zero k)
  | n + 1, k, h => by
    have ih := fa_first_no p n
    have hl := fa_first_le p n
    unfold fa_first at h
    split at h
    · exact ih k h
    · rename_i h1
      split at h
      · exact ih k (by omega)
      · rename_i h2
        by_cases e : k = n
        · subst e
          exact Bool.eq_false_iff.mpr h2
        · exact ih k (by omega)
theorem fa_first_yes (p : Nat → Bool) : ∀ n, fa_first p n < n → p (fa_first p n) = true
  | 0, h => absurd h (Nat.not_lt_zero _)
  | n + 1, h => by
    have ih := fa_first_yes p n
    have hl := fa_first_le p n
    unfold fa_first at h ⊢
    split at h
    · rename_i h1
      rw [if_pos h1]
      exact ih h1
    · rename_i h1
      rw [if_neg h1]
      split at h
      · rename_i h2
        rw [if_pos h2]
        exact h2
      · omega
/-- how many k < n have p k -/
def fa_cnt (p : Nat → Bool) : Nat → Nat
  | 0 => 0
  | n + 1 => fa_cnt p n + if p n then 1 else 0
theorem fa_cnt_le (p : Nat → Bool) : ∀ n, fa_cnt p n ≤ n
  | 0 => Nat.le_refl 0
  | n + 1 => by
    have ih := fa_cnt_le p n
    unfold fa_cnt
    split
    · omega
    · omega
theorem fa_cnt_yes {p : Nat → Bool} {n : Nat} (h : p n = true) : fa_cnt p (n + 1) = fa_cnt p n + 1 := by rw [fa_cnt, if_pos h]
theorem fa_cnt_no {p : Nat → Bool} {n : Nat} (h : p n = false) : fa_cnt p (n + 1) = fa_cnt p n := by rw [fa_cnt, if_neg (by rw [h]; decide)]; rfl
theorem fa_cnt_cong {p q : Nat → Bool} : ∀ {n : Nat}, (∀ k, k < n → p k = q k) → fa_cnt p n = fa_cnt q n
  | 0, _ => rfl
  | n + 1, h => by rw [fa_cnt, fa_cnt, fa_cnt_cong (fun k hk => h k (Nat.lt_succ_of_lt hk)), h n (Nat.lt_succ_self n)]
/-! ===== an answer carried into a post; a branch on a boolean answer ===== -/
theorem fa_post {α : Type} {P : α → Prop} {x y : α} (h : x = y) (hp : P y) : P x := h ▸ hp
theorem fa_post2 {α β : Type} {P : α → β → Prop} {x y : α} {u v : β} (h : x = y) (h2 : u = v) (hp : P y v) : P x u := h ▸ h2 ▸ hp
theorem fa_bool {r : Int32} {b : Bool} (h : r = if b then 1 else 0) : (r = 0 ↔ b = false) ∧ (¬ r = 0 ↔ b = true) := by
  subst h
  cases b
  · exact ⟨⟨fun _ => rfl, fun _ => rfl⟩, ⟨fun h => absurd rfl h, fun h => absurd h (by decide)⟩⟩
  · exact ⟨⟨fun h => absurd h (by decide), fun h => absurd h (by decide)⟩, ⟨fun _ => rfl, fun _ => by decide⟩⟩
/-- a boolean's narrowing changes nothing -/
theorem fa_bool_and {r : Int32} (h : r = 0 ∨ r = 1) : r &&& 1 = r := by
  rcases h with rfl | rfl
  · decide
  · decide
theorem fa_bool_prop {c : Prop} [Decidable c] {r : Int32} (h : r = if c then 1 else 0) : (r = 0 ↔ ¬ c) ∧ (¬ r = 0 ↔ c) := by
  subst h
  by_cases hc : c
  · rw [if_pos hc]
    exact ⟨⟨fun h => absurd h (by decide), fun h => absurd hc h⟩, ⟨fun _ => hc, fun _ => by decide⟩⟩
  · rw [if_neg hc]
    exact ⟨⟨fun _ => hc, fun _ => rfl⟩, ⟨fun h => absurd rfl h, fun h => absurd h hc⟩⟩
/-! plain facts to paste, each family by itself; over the kit's nI, lN and upd -/
/-! ===== drawers: more things than places ===== -/
theorem fb_holes : ∀ (m n : Nat) (f : Nat → Nat), (∀ i, i < n → f i < m) → (∀ i j, i < j → j < n → f i ≠ f j) → n ≤ m := by
  intro m
  induction m with
  | zero =>
    intro n f h1 _
    rcases Nat.eq_zero_or_pos n with h | h
    · omega
    · exact absurd (h1 0 h) (Nat.not_lt_zero _)
  | succ m ih =>
    intro n f h1 h2
    by_cases hx : ∃ i, i < n ∧ f i = m
    · obtain ⟨a, ha, hfa⟩ := hx
      have hg := ih (n - 1) (fun i => if i < a then f i else f (i + 1)) (by
        intro i hi
        by_cases q : i < a
        · simp only [if_pos q]
          have b1 := h1 i (by omega)
          have b2 := h2 i a q ha
          omega
        · simp only [if_neg q]
          have b1 := h1 (i + 1) (by omega)
          have b2 := h2 a (i + 1) (by omega) (by omega)
          omega) (by
        intro i j hij hj
        by_cases q : i < a
        · by_cases r : j < a
          · simp only [if_pos q, if_pos r]
            exact h2 i j hij (by omega)
          · simp only [if_pos q, if_neg r]
            exact h2 i (j + 1) (by omega) (by omega)
        · have r : ¬ j < a := by omega
          simp only [if_neg q, if_neg r]
          exact h2 (i + 1) (j + 1) (by omega) (by omega))
      omega
    · have hg := ih n f (fun i hi => by
        have b1 := h1 i hi
        have b2 : f i ≠ m := fun e => hx ⟨i, hi, e⟩
        omega) h2
      omega
/-- two of them in one place -/
theorem fb_twice {m n : Nat} {f : Nat → Nat} (h : ∀ i, i < n → f i < m) (hm : m < n) : ∃ i j, i < j ∧ j < n ∧ f i = f j := by
  refine Classical.byContradiction fun hx => ?_
  have := fb_holes m n f h (fun i j hij hj e => hx ⟨i, j, hij, hj, e⟩)
  omega
/-- as many as places, none twice: each place is taken -/
theorem fb_onto {n : Nat} {f : Nat → Nat} (h : ∀ i, i < n → f i < n) (h2 : ∀ i j, i < j → j < n → f i ≠ f j) {y : Nat} (hy : y < n) : ∃ i, i < n ∧ f i = y := by
  refine Classical.byContradiction fun hx => ?_
  have hne : ∀ i, i < n → f i ≠ y := fun i hi e => hx ⟨i, hi, e⟩
  have := fb_holes (n - 1) n (fun i => if f i < y then f i else f i - 1) (by
    intro i hi
    have b1 := h i hi
    have b2 := hne i hi
    by_cases q : f i < y
    · simp only [if_pos q]; omega
    · simp only [if_neg q]; omega) (by
    intro i j hij hj
    have b1 := hne i (by omega)
    have b2 := hne j hj
    have b3 := h2 i j hij hj
    by_cases q : f i < y
    · by_cases r : f j < y
      · simp only [if_pos q, if_pos r]; exact b3
      · simp only [if_pos q, if_neg r]; omega
    · by_cases r : f j < y
      · simp only [if_neg q, if_pos r]; omega
      · simp only [if_neg q, if_neg r]; omega)
  omega
/-! ===== how many places have a property ===== -/
def fb_ct (p : Nat → Bool) : Nat → Nat
  | 0 => 0
  | n + 1 => fb_ct p n + (if p n then 1 else 0)
theorem fb_ct_succ (p : Nat → Bool) (n : Nat) : fb_ct p (n + 1) = fb_ct p n + (if p n then 1 else 0) := rfl
theorem fb_ct_le (p : Nat → Bool) : ∀ n, fb_ct p n ≤ n
  | 0 => Nat.le_refl _
  | n + 1 => by
    have h := fb_ct_le p n
    rw [fb_ct_succ]
    split <;> omega
theorem fb_ct_step (p : Nat → Bool) (m : Nat) : ∀ n, fb_ct p m ≤ fb_ct p (m + n)
  | 0 => Nat.le_refl _
  | n + 1 => by
    have h := fb_ct_step p m n
    show fb_ct p m ≤ fb_ct p (m + n + 1)
    rw [fb_ct_succ]
    omega
theorem fb_ct_mono (p : Nat → Bool) {m n : Nat} (h : m ≤ n) : fb_ct p m ≤ fb_ct p n := by
  have := fb_ct_step p m (n - m)
  rwa [Nat.add_sub_cancel' h] at this
theorem fb_ct_cong {p q : Nat → Bool} : ∀ {n : Nat}, (∀ k, k < n → p k = q k) → fb_ct p n = fb_ct q n
  | 0, _ => rfl
  | n + 1, h => by
    rw [fb_ct_succ, fb_ct_succ, fb_ct_cong (fun k hk => h k (by omega)), h n (by omega)]
/-- one place changed -/
theorem fb_ct_out (p : Nat → Bool) (b : Bool) {i n : Nat} (h : n ≤ i) : fb_ct (fun k => if k = i then b else p k) n = fb_ct p n :=
  fb_ct_cong fun k hk => if_neg (by omega)
theorem fb_ct_upd (p : Nat → Bool) (b : Bool) {i : Nat} : ∀ {n : Nat}, i < n → fb_ct (fun k => if k = i then b else p k) n + (if p i then 1 else 0) = fb_ct p n + (if b then 1 else 0)
  | 0, h => absurd h (Nat.not_lt_zero i)
  | n + 1, h => by
    rw [fb_ct_succ, fb_ct_succ]
    rcases Nat.lt_or_ge i n with q | q
    · have := fb_ct_upd p b q
      have e : (if n = i then b else p n) = p n := if_neg (by omega)
      rw [e]
      omega
    · have e : i = n := by omega
      subst e
      rw [fb_ct_out p b (Nat.le_refl _)]
      simp only [if_true]
      omega
theorem fb_ct_sub {p q : Nat → Bool} : ∀ {n : Nat}, (∀ k, k < n → p k = true → q k = true) → fb_ct p n ≤ fb_ct q n
  | 0, _ => Nat.le_refl _
  | n + 1, h => by
    have h1 := fb_ct_sub (n := n) (p := p) (q := q) (fun k hk => h k (by omega))
    have h2 := h n (by omega)
    rw [fb_ct_succ, fb_ct_succ]
    cases hp : p n <;> cases hq : q n <;> simp_all <;> omega
theorem fb_ct_or {p q : Nat → Bool} : ∀ {n : Nat}, (∀ k, k < n → ¬ (p k = true ∧ q k = true)) → fb_ct (fun k => p k || q k) n = fb_ct p n + fb_ct q n
  | 0, _ => rfl
  | n + 1, h => by
    have h1 := fb_ct_or (n := n) (p := p) (q := q) (fun k hk => h k (by omega))
    have h2 := h n (by omega)
    rw [fb_ct_succ, fb_ct_succ, fb_ct_succ, h1]
    cases hp : p n <;> cases hq : q n <;> simp_all <;> omega
theorem fb_ct_not (p : Nat → Bool) : ∀ n, fb_ct p n + fb_ct (fun k => !p k) n = n
  | 0 => rfl
  | n + 1 => by
    have h := fb_ct_not p n
    rw [fb_ct_succ, fb_ct_succ]
    cases p n <;> simp <;> omega
theorem fb_ct_split (p : Nat → Bool) (m : Nat) : ∀ n, fb_ct p (m + n) = fb_ct p m + fb_ct (fun k => p (m + k)) n
  | 0 => rfl
  | n + 1 => by
    have h := fb_ct_split p m n
    show fb_ct p (m + n + 1) = _
    rw [fb_ct_succ, fb_ct_succ, h, Nat.add_assoc]
theorem fb_ct_zero {p : Nat → Bool} : ∀ {n : Nat}, fb_ct p n = 0 ↔ ∀ k, k < n → p k = false
  | 0 => ⟨fun _ k hk => absurd hk (Nat.not_lt_zero k), fun _ => rfl⟩
  | n + 1 => by
    have h := fb_ct_zero (p := p) (n := n)
    rw [fb_ct_succ]
    constructor
    · intro e k hk
      have e1 : fb_ct p n = 0 := by omega
      rcases Nat.lt_or_ge k n with q | q
      · exact h.mp e1 k q
      · have ek : k = n := by omega
        subst ek
        cases hp : p k
        · rfl
        · simp [hp] at e
    · intro a
      rw [h.mpr (fun k hk => a k (by omega)), a n (by omega)]
      rfl
theorem fb_ct_pos {p : Nat → Bool} {n : Nat} : 0 < fb_ct p n ↔ ∃ k, k < n ∧ p k = true := by
  constructor
  · intro h
    refine Classical.byContradiction fun hx => ?_
    have := fb_ct_zero.mpr (fun k hk => by
      cases hp : p k
      · rfl
      · exact absurd ⟨k, hk, hp⟩ hx : ∀ k, k < n → p k = false)
    omega
  · rintro ⟨k, hk, hp⟩
    rcases Nat.eq_zero_or_pos (fb_ct p n) with e | e
    · have := fb_ct_zero.mp e k hk
      rw [this] at hp
      cases hp
    · exact e
theorem fb_ct_all {p : Nat → Bool} {n : Nat} : fb_ct p n = n ↔ ∀ k, k < n → p k = true := by
  have h := fb_ct_not p n
  constructor
  · intro e k hk
    have z : fb_ct (fun k => !p k) n = 0 := by omega
    have := fb_ct_zero.mp z k hk
    cases hp : p k
    · simp [hp] at this
    · rfl
  · intro a
    have z : fb_ct (fun k => !p k) n = 0 := fb_ct_zero.mpr (fun k hk => by simp [a k hk])
    omega
/-- the k-th place with the property -/
theorem fb_ct_kth {p : Nat → Bool} {k : Nat} : ∀ {n : Nat}, k < fb_ct p n → ∃ i, i < n ∧ p i = true ∧ fb_ct p i = k
  | 0, h => absurd h (Nat.not_lt_zero k)
  | n + 1, h => by
    rcases Nat.lt_or_ge k (fb_ct p n) with q | q
    · obtain ⟨i, h1, h2⟩ := fb_ct_kth q
      exact ⟨i, by omega, h2⟩
    · rw [fb_ct_succ] at h
      cases hp : p n
      · simp [hp] at h; omega
      · simp [hp] at h
        exact ⟨n, by omega, hp, by omega⟩
theorem fb_ct_kth_one {p : Nat → Bool} {i j : Nat} (hi : p i = true) (hj : p j = true) (e : fb_ct p i = fb_ct p j) : i = j := by
  have key : ∀ a b : Nat, a < b → p a = true → fb_ct p a < fb_ct p b := by
    intro a b hab ha
    have h := fb_ct_mono p (show a + 1 ≤ b from hab)
    rw [fb_ct_succ, ha] at h
    simp at h
    omega
  rcases Nat.lt_trichotomy i j with q | q | q
  · have := key i j q hi; omega
  · exact q
  · have := key j i q hj; omega
/-! ===== sums over a range: one place changed, parts, bounds ===== -/
def fb_sm (f : Nat → Nat) : Nat → Nat
  | 0 => 0
  | n + 1 => fb_sm f n + f n
theorem fb_sm_succ (f : Nat → Nat) (n : Nat) : fb_sm f (n + 1) = fb_sm f n + f n := rfl
theorem fb_sm_cong {f g : Nat → Nat} : ∀ {n : Nat}, (∀ k, k < n → f k = g k) → fb_sm f n = fb_sm g n
  | 0, _ => rfl
  | n + 1, h => by rw [fb_sm_succ, fb_sm_succ, fb_sm_cong (fun k hk => h k (by omega)), h n (by omega)]
theorem fb_sm_out (f : Nat → Nat) (v : Nat) {i n : Nat} (h : n ≤ i) : fb_sm (fun k => if k = i then v else f k) n = fb_sm f n :=
  fb_sm_cong fun k hk => if_neg (by omega)
theorem fb_sm_upd (f : Nat → Nat) (v : Nat) {i : Nat} : ∀ {n : Nat}, i < n → fb_sm (fun k => if k = i then v else f k) n + f i = fb_sm f n + v
  | 0, h => absurd h (Nat.not_lt_zero i)
  | n + 1, h => by
    rw [fb_sm_succ, fb_sm_succ]
    rcases Nat.lt_or_ge i n with q | q
    · have := fb_sm_upd f v q
      have e : (if n = i then v else f n) = f n := if_neg (by omega)
      rw [e]
      omega
    · have e : i = n := by omega
      subst e
      rw [fb_sm_out f v (Nat.le_refl _)]
      simp only [if_true]
      omega
theorem fb_sm_add (f g : Nat → Nat) : ∀ n, fb_sm (fun k => f k + g k) n = fb_sm f n + fb_sm g n
  | 0 => rfl
  | n + 1 => by
    have h := fb_sm_add f g n
    rw [fb_sm_succ, fb_sm_succ, fb_sm_succ, h]
    omega
theorem fb_sm_le {f g : Nat → Nat} : ∀ {n : Nat}, (∀ k, k < n → f k ≤ g k) → fb_sm f n ≤ fb_sm g n
  | 0, _ => Nat.le_refl _
  | n + 1, h => by
    have h1 := fb_sm_le (n := n) (f := f) (g := g) (fun k hk => h k (by omega))
    have h2 := h n (by omega)
    rw [fb_sm_succ, fb_sm_succ]
    omega
theorem fb_sm_const (c : Nat) : ∀ n, fb_sm (fun _ => c) n = n * c
  | 0 => by rw [Nat.zero_mul]; rfl
  | n + 1 => by rw [fb_sm_succ, fb_sm_const c n, Nat.succ_mul]
theorem fb_sm_bound {f : Nat → Nat} {c n : Nat} (h : ∀ k, k < n → f k ≤ c) : fb_sm f n ≤ n * c := by
  rw [← fb_sm_const c n]
  exact fb_sm_le h
theorem fb_sm_mono (f : Nat → Nat) (m : Nat) : ∀ n, fb_sm f m ≤ fb_sm f (m + n)
  | 0 => Nat.le_refl _
  | n + 1 => by
    have h := fb_sm_mono f m n
    show fb_sm f m ≤ fb_sm f (m + n + 1)
    rw [fb_sm_succ]
    omega
theorem fb_sm_part (f : Nat → Nat) {i n : Nat} (h : i < n) : fb_sm f i + f i ≤ fb_sm f n := by
  have := fb_sm_mono f (i + 1) (n - (i + 1))
  rw [fb_sm_succ, show i + 1 + (n - (i + 1)) = n by omega] at this
  exact this
theorem fb_sm_split (f : Nat → Nat) (m : Nat) : ∀ n, fb_sm f (m + n) = fb_sm f m + fb_sm (fun k => f (m + k)) n
  | 0 => rfl
  | n + 1 => by
    have h := fb_sm_split f m n
    show fb_sm f (m + n + 1) = _
    rw [fb_sm_succ, fb_sm_succ, h, Nat.add_assoc]
theorem fb_sm_zero {f : Nat → Nat} {n : Nat} (h : fb_sm f n = 0) : ∀ k, k < n → f k = 0 := fun k hk => by
  have := fb_sm_part f hk
  omega
/-- the same over whole numbers -/
def fb_si (f : Nat → Int) : Nat → Int
  | 0 => 0
  | n + 1 => fb_si f n + f n
theorem fb_si_succ (f : Nat → Int) (n : Nat) : fb_si f (n + 1) = fb_si f n + f n := rfl
theorem fb_si_cong {f g : Nat → Int} : ∀ {n : Nat}, (∀ k, k < n → f k = g k) → fb_si f n = fb_si g n
  | 0, _ => rfl
  | n + 1, h => by rw [fb_si_succ, fb_si_succ, fb_si_cong (fun k hk => h k (by omega)), h n (by omega)]
theorem fb_si_out (f : Nat → Int) (v : Int) {i n : Nat} (h : n ≤ i) : fb_si (fun k => if k = i then v else f k) n = fb_si f n :=
  fb_si_cong fun k hk => if_neg (by omega)
theorem fb_si_upd (f : Nat → Int) (v : Int) {i : Nat} : ∀ {n : Nat}, i < n → fb_si (fun k => if k = i then v else f k) n = fb_si f n - f i + v
  | 0, h => absurd h (Nat.not_lt_zero i)
  | n + 1, h => by
    rw [fb_si_succ, fb_si_succ]
    rcases Nat.lt_or_ge i n with q | q
    · have := fb_si_upd f v q
      have e : (if n = i then v else f n) = f n := if_neg (by omega)
      rw [e]
      omega
    · have e : i = n := by omega
      subst e
      rw [fb_si_out f v (Nat.le_refl _)]
      simp only [if_true]
      omega
theorem fb_si_add (f g : Nat → Int) : ∀ n, fb_si (fun k => f k + g k) n = fb_si f n + fb_si g n
  | 0 => rfl
  | n + 1 => by
    have h := fb_si_add f g n
    rw [fb_si_succ, fb_si_succ, fb_si_succ, h]
    omega
theorem fb_si_sub (f g : Nat → Int) : ∀ n, fb_si (fun k => f k - g k) n = fb_si f n - fb_si g n
  | 0 => rfl
  | n + 1 => by
    have h := fb_si_sub f g n
    rw [fb_si_succ, fb_si_succ, fb_si_succ, h]
    omega
theorem fb_si_mul (c : Int) (f : Nat → Int) : ∀ n, fb_si (fun k => c * f k) n = c * fb_si f n
  | 0 => (Int.mul_zero c).symm
  | n + 1 => by
    have h := fb_si_mul c f n
    rw [fb_si_succ, fb_si_succ, h, Int.mul_add]
theorem fb_si_split (f : Nat → Int) (m : Nat) : ∀ n, fb_si f (m + n) = fb_si f m + fb_si (fun k => f (m + k)) n
  | 0 => (Int.add_zero _).symm
  | n + 1 => by
    have h := fb_si_split f m n
    show fb_si f (m + n + 1) = _
    rw [fb_si_succ, fb_si_succ, h, Int.add_assoc]
theorem fb_si_nat (f : Nat → Nat) : ∀ n, fb_si (fun k => (f k : Int)) n = (fb_sm f n : Int)
  | 0 => rfl
  | n + 1 => by
    have h := fb_si_nat f n
    rw [fb_si_succ, fb_sm_succ, h]
    omega
theorem fb_si_bound {f : Nat → Int} {c : Int} (hc : 0 ≤ c) : ∀ {n : Nat}, (∀ k, k < n → -c ≤ f k ∧ f k ≤ c) → -(n * c) ≤ fb_si f n ∧ fb_si f n ≤ n * c
  | 0, _ => by simp [fb_si]
  | n + 1, h => by
    have h1 := fb_si_bound (n := n) (f := f) hc (fun k hk => h k (by omega))
    have h2 := h n (by omega)
    have e : ((n + 1 : Nat) : Int) * c = n * c + c := by rw [Int.natCast_add, Int.add_mul]; simp
    rw [fb_si_succ, e]
    omega
/-! ===== bits of a long that isn't negative ===== -/
theorem fb_andL (a b : Nat) : lN a &&& lN b = lN (a &&& b) := by
  apply Int64.toBitVec_inj.1
  show BitVec.ofNat 64 a &&& BitVec.ofNat 64 b = BitVec.ofNat 64 (a &&& b)
  apply BitVec.eq_of_getLsbD_eq
  intro i hi
  simp [hi]
theorem fb_orL (a b : Nat) : lN a ||| lN b = lN (a ||| b) := by
  apply Int64.toBitVec_inj.1
  show BitVec.ofNat 64 a ||| BitVec.ofNat 64 b = BitVec.ofNat 64 (a ||| b)
  apply BitVec.eq_of_getLsbD_eq
  intro i hi
  simp [hi]
theorem fb_xorL (a b : Nat) : lN a ^^^ lN b = lN (a ^^^ b) := by
  apply Int64.toBitVec_inj.1
  show BitVec.ofNat 64 a ^^^ BitVec.ofNat 64 b = BitVec.ofNat 64 (a ^^^ b)
  apply BitVec.eq_of_getLsbD_eq
  intro i hi
  simp [hi]
theorem fb_xorI (a b : Nat) : nI a ^^^ nI b = nI (a ^^^ b) := by
  apply Int32.toBitVec_inj.1
  show BitVec.ofNat 32 a ^^^ BitVec.ofNat 32 b = BitVec.ofNat 32 (a ^^^ b)
  apply BitVec.eq_of_getLsbD_eq
  intro i hi
  simp [hi]
theorem fb_maskL (n k : Nat) : lN n &&& lN (2 ^ k - 1) = lN (n % 2 ^ k) := by rw [fb_andL, Nat.and_two_pow_sub_one_eq_mod]
theorem fb_or_sumL {a k : Nat} (b : Nat) (h : a < 2 ^ k) : lN (2 ^ k * b) ||| lN a = lN (2 ^ k * b + a) := by rw [fb_orL, Nat.two_pow_add_eq_or_of_lt h]
theorem fb_lN_inj {a b : Nat} (ha : a < 2 ^ 63) (hb : b < 2 ^ 63) : lN a = lN b ↔ a = b := by
  constructor
  · intro h
    have h1 : (BitVec.ofNat 64 a).toNat = (BitVec.ofNat 64 b).toNat := congrArg (fun x : Int64 => x.toBitVec.toNat) h
    rw [BitVec.toNat_ofNat, BitVec.toNat_ofNat, Nat.mod_eq_of_lt (by omega), Nat.mod_eq_of_lt (by omega)] at h1
    exact h1
  · rintro rfl; rfl
theorem fb_bit_nat (n j : Nat) : n &&& 2 ^ j = 0 ↔ n.testBit j = false := by
  constructor
  · intro h
    have h1 : (n &&& 2 ^ j).testBit j = false := by rw [h]; simp
    rw [Nat.testBit_and] at h1
    simpa using h1
  · intro h
    apply Nat.eq_of_testBit_eq
    intro i
    rw [Nat.testBit_and]
    by_cases hi : j = i
    · subst hi; simp [h]
    · first | (simp [Nat.testBit_two_pow, hi]; done) | (simp [Nat.testBit_two_pow_of_ne hi]; done)
/-- one bit of a long -/
theorem fb_bitL {n j : Nat} (hj : j < 63) : lN n &&& lN (2 ^ j) = 0 ↔ n.testBit j = false := by
  have h2 : (2 : Nat) ^ j < 2 ^ 63 := Nat.pow_lt_pow_right (by decide) hj
  have hle : n &&& 2 ^ j ≤ 2 ^ j := Nat.and_le_right
  rw [fb_andL, ← fb_bit_nat, show (0 : Int64) = lN 0 from rfl]
  exact fb_lN_inj (by omega) (by decide)
/-- a bit set, a bit taken off -/
theorem fb_bit_set (n j i : Nat) : (n ||| 2 ^ j).testBit i = (n.testBit i || decide (i = j)) := by
  rw [Nat.testBit_or]
  by_cases h : j = i
  · subst h; simp
  · have h2 : ¬ i = j := fun e => h e.symm
    first | (simp [Nat.testBit_two_pow, h, h2]; done) | (simp [Nat.testBit_two_pow_of_ne h, h2]; done)
theorem fb_bit_flip (n j i : Nat) : (n ^^^ 2 ^ j).testBit i = (n.testBit i ^^ decide (i = j)) := by
  rw [Nat.testBit_xor]
  by_cases h : j = i
  · subst h; simp
  · have h2 : ¬ i = j := fun e => h e.symm
    first | (simp [Nat.testBit_two_pow, h, h2]; done) | (simp [Nat.testBit_two_pow_of_ne h, h2]; done)
/-! ===== a stretch of an array written over by a function ===== -/
def fb_put {α : Type} (f g : Nat → α) (a n : Nat) : Nat → α := fun k => if a ≤ k ∧ k < a + n then g (k - a) else f k
theorem fb_put_0 {α : Type} (f g : Nat → α) (a : Nat) : fb_put f g a 0 = f := funext fun k => if_neg (by omega)
theorem fb_put_in {α : Type} {f g : Nat → α} {a n k : Nat} (h1 : a ≤ k) (h2 : k < a + n) : fb_put f g a n k = g (k - a) := if_pos ⟨h1, h2⟩
theorem fb_put_out {α : Type} {f g : Nat → α} {a n k : Nat} (h : k < a ∨ a + n ≤ k) : fb_put f g a n k = f k := if_neg (by omega)
theorem fb_put_succ (f g : Nat → Int32) (a n : Nat) : upd (fb_put f g a n) (a + n) (g n) = fb_put f g a (n + 1) := by
  funext k
  by_cases h : k = a + n
  · subst h
    simp [upd, fb_put]
  · by_cases h1 : a ≤ k ∧ k < a + n
    · have h2 : a ≤ k ∧ k < a + (n + 1) := by omega
      simp only [upd, fb_put, if_neg h, if_pos h1, if_pos h2]
    · have h2 : ¬ (a ≤ k ∧ k < a + (n + 1)) := by omega
      simp only [upd, fb_put, if_neg h, if_neg h1, if_neg h2]
/-- .. from the far end down -/
theorem fb_put_down (f g : Nat → Int32) {a n m : Nat} (h : m < n) : upd (fb_put f (fun k => g (k + (m + 1))) (a + (m + 1)) (n - (m + 1))) (a + m) (g m) = fb_put f (fun k => g (k + m)) (a + m) (n - m) := by
  funext k
  by_cases h0 : k = a + m
  · subst h0
    simp only [upd, if_true]
    rw [fb_put_in (by omega) (by omega)]
    exact congrArg g (by omega)
  · simp only [upd, if_neg h0]
    by_cases h1 : a + (m + 1) ≤ k ∧ k < a + (m + 1) + (n - (m + 1))
    · rw [fb_put_in h1.1 h1.2, fb_put_in (by omega) (by omega)]
      exact congrArg g (by omega)
    · rw [fb_put_out (by omega), fb_put_out (by omega)]
theorem fb_put_cong {α : Type} {f f2 g g2 : Nat → α} {a n : Nat} (hf : ∀ k, (k < a ∨ a + n ≤ k) → f k = f2 k) (hg : ∀ k, k < n → g k = g2 k) : fb_put f g a n = fb_put f2 g2 a n := by
  funext k
  by_cases h : a ≤ k ∧ k < a + n
  · rw [fb_put_in h.1 h.2, fb_put_in h.1 h.2, hg _ (by omega)]
  · rw [fb_put_out (by omega), fb_put_out (by omega), hf _ (by omega)]
/-! ===== the least, the first, the best so far; that there is one alone ===== -/
theorem fb_first {p : Nat → Prop} [DecidablePred p] : ∀ {n : Nat}, (∃ i, i < n ∧ p i) → ∃ i, i < n ∧ p i ∧ ∀ j, j < i → ¬ p j
  | 0, h => by obtain ⟨i, hi, -⟩ := h; exact absurd hi (Nat.not_lt_zero i)
  | n + 1, h => by
    by_cases q : ∃ i, i < n ∧ p i
    · obtain ⟨i, h1, h2⟩ := fb_first q
      exact ⟨i, by omega, h2⟩
    · obtain ⟨i, h1, h2⟩ := h
      have e : i = n := by
        rcases Nat.lt_or_ge i n with r | r
        · exact absurd ⟨i, r, h2⟩ q
        · omega
      subst e
      exact ⟨i, by omega, h2, fun j hj hp => q ⟨j, hj, hp⟩⟩
theorem fb_first_one {p : Nat → Prop} {i j : Nat} (hi : p i) (hi2 : ∀ k, k < i → ¬ p k) (hj : p j) (hj2 : ∀ k, k < j → ¬ p k) : i = j := by
  rcases Nat.lt_trichotomy i j with q | q | q
  · exact absurd hi (hj2 i q)
  · exact q
  · exact absurd hj (hi2 j q)
theorem fb_last {p : Nat → Prop} [DecidablePred p] : ∀ {n : Nat}, (∃ i, i < n ∧ p i) → ∃ i, i < n ∧ p i ∧ ∀ j, i < j → j < n → ¬ p j
  | 0, h => by obtain ⟨i, hi, -⟩ := h; exact absurd hi (Nat.not_lt_zero i)
  | n + 1, h => by
    by_cases q : p n
    · exact ⟨n, by omega, q, fun j h1 h2 => by omega⟩
    · obtain ⟨i, h1, h2⟩ := h
      have hi : i < n := by
        rcases Nat.lt_or_ge i n with r | r
        · exact r
        · have e : i = n := by omega
          subst e
          exact absurd h2 q
      obtain ⟨i2, a1, a2, a3⟩ := fb_last (n := n) ⟨i, hi, h2⟩
      refine ⟨i2, by omega, a2, fun j b1 b2 => ?_⟩
      rcases Nat.lt_or_ge j n with r | r
      · exact a3 j b1 r
      · have e : j = n := by omega
        subst e
        exact q
/-- the first greatest -/
theorem fb_best (f : Nat → Int) : ∀ {n : Nat}, 0 < n → ∃ i, i < n ∧ (∀ j, j < n → f j ≤ f i) ∧ ∀ j, j < i → f j < f i
  | 0, h => absurd h (Nat.lt_irrefl 0)
  | 1, _ => ⟨0, by omega, fun j hj => by have e : j = 0 := by omega
                                         subst e; exact Int.le_refl _, fun j hj => absurd hj (Nat.not_lt_zero j)⟩
  | n + 2, _ => by
    obtain ⟨i, h1, h2, h3⟩ := fb_best f (n := n + 1) (by omega)
    by_cases q : f i < f (n + 1)
    · refine ⟨n + 1, by omega, fun j hj => ?_, fun j hj => ?_⟩
      · rcases Nat.lt_or_ge j (n + 1) with r | r
        · have := h2 j r; omega
        · have e : j = n + 1 := by omega
          subst e; exact Int.le_refl _
      · have := h2 j hj; omega
    · refine ⟨i, by omega, fun j hj => ?_, h3⟩
      rcases Nat.lt_or_ge j (n + 1) with r | r
      · exact h2 j r
      · have e : j = n + 1 := by omega
        subst e; omega
theorem fb_best_one {f : Nat → Int} {n i j : Nat} (hi : i < n) (hi2 : ∀ k, k < n → f k ≤ f i) (hi3 : ∀ k, k < i → f k < f i) (hj : j < n) (hj2 : ∀ k, k < n → f k ≤ f j) (hj3 : ∀ k, k < j → f k < f j) : i = j := by
  rcases Nat.lt_trichotomy i j with q | q | q
  · have a := hj3 i q
    have b := hi2 j hj
    omega
  · exact q
  · have a := hi3 j q
    have b := hj2 i hi
    omega
/-- the first least -/
theorem fb_low (f : Nat → Int) {n : Nat} (h : 0 < n) : ∃ i, i < n ∧ (∀ j, j < n → f i ≤ f j) ∧ ∀ j, j < i → f i < f j := by
  obtain ⟨i, h1, h2, h3⟩ := fb_best (fun k => -f k) h
  exact ⟨i, h1, fun j hj => by have := h2 j hj; omega, fun j hj => by have := h3 j hj; omega⟩
/-! ===== signed ints as whole numbers, within bounds ===== -/
theorem fb_rng (x : Int32) : -2147483648 ≤ x.toInt ∧ x.toInt < 2147483648 := by
  have h1 := Int32.le_toInt x
  have h2 := Int32.toInt_lt x
  omega
theorem fb_bmod {z : Int} (h1 : -2147483648 ≤ z) (h2 : z < 2147483648) : z.bmod (2 ^ 32) = z := by
  rw [Int.bmod_eq_of_le (by omega) (by omega)]
theorem fb_addI {x y : Int32} (h1 : -2147483648 ≤ x.toInt + y.toInt) (h2 : x.toInt + y.toInt < 2147483648) : (x + y).toInt = x.toInt + y.toInt := by
  rw [Int32.toInt_add, fb_bmod h1 h2]
theorem fb_subI {x y : Int32} (h1 : -2147483648 ≤ x.toInt - y.toInt) (h2 : x.toInt - y.toInt < 2147483648) : (x - y).toInt = x.toInt - y.toInt := by
  rw [Int32.toInt_sub, fb_bmod h1 h2]
theorem fb_mulI {x y : Int32} (h1 : -2147483648 ≤ x.toInt * y.toInt) (h2 : x.toInt * y.toInt < 2147483648) : (x * y).toInt = x.toInt * y.toInt := by
  rw [Int32.toInt_mul, fb_bmod h1 h2]
theorem fb_negI {x : Int32} (h : x.toInt ≠ -2147483648) : (-x).toInt = -x.toInt := by
  have := fb_rng x
  rw [Int32.toInt_neg, fb_bmod (by omega) (by omega)]
theorem fb_ofI {z : Int} (h1 : -2147483648 ≤ z) (h2 : z < 2147483648) : (Int32.ofInt z).toInt = z := by
  rw [Int32.toInt_ofInt, fb_bmod h1 h2]
theorem fb_asI (x : Int32) : Int32.ofInt x.toInt = x := Int32.ofInt_toInt x
theorem fb_rngL (x : Int64) : -9223372036854775808 ≤ x.toInt ∧ x.toInt < 9223372036854775808 := by
  have h1 := Int64.le_toInt x
  have h2 := Int64.toInt_lt x
  omega
theorem fb_bmodL {z : Int} (h1 : -9223372036854775808 ≤ z) (h2 : z < 9223372036854775808) : z.bmod (2 ^ 64) = z := by
  rw [Int.bmod_eq_of_le (by omega) (by omega)]
theorem fb_addL {x y : Int64} (h1 : -9223372036854775808 ≤ x.toInt + y.toInt) (h2 : x.toInt + y.toInt < 9223372036854775808) : (x + y).toInt = x.toInt + y.toInt := by
  rw [Int64.toInt_add, fb_bmodL h1 h2]
theorem fb_subL {x y : Int64} (h1 : -9223372036854775808 ≤ x.toInt - y.toInt) (h2 : x.toInt - y.toInt < 9223372036854775808) : (x - y).toInt = x.toInt - y.toInt := by
  rw [Int64.toInt_sub, fb_bmodL h1 h2]
theorem fb_mulL {x y : Int64} (h1 : -9223372036854775808 ≤ x.toInt * y.toInt) (h2 : x.toInt * y.toInt < 9223372036854775808) : (x * y).toInt = x.toInt * y.toInt := by
  rw [Int64.toInt_mul, fb_bmodL h1 h2]
/-! ===== cuts of what is narrow already ===== -/
theorem fb_byte {x : Int32} (h1 : -128 ≤ x.toInt) (h2 : x.toInt < 128) : x.toInt8.toInt32 = x := by
  apply Int32.toInt_inj.1
  rw [Int8.toInt_toInt32, Int32.toInt_toInt8, Int.bmod_eq_of_le (by omega) (by omega)]
theorem fb_short {x : Int32} (h1 : -32768 ≤ x.toInt) (h2 : x.toInt < 32768) : x.toInt16.toInt32 = x := by
  apply Int32.toInt_inj.1
  rw [Int16.toInt_toInt32, Int32.toInt_toInt16, Int.bmod_eq_of_le (by omega) (by omega)]
theorem fb_byte_rng (x : Int32) : -128 ≤ x.toInt8.toInt32.toInt ∧ x.toInt8.toInt32.toInt < 128 := by
  rw [Int8.toInt_toInt32]
  have h1 := Int8.le_toInt x.toInt8
  have h2 := Int8.toInt_lt x.toInt8
  omega
theorem fb_short_rng (x : Int32) : -32768 ≤ x.toInt16.toInt32.toInt ∧ x.toInt16.toInt32.toInt < 32768 := by
  rw [Int16.toInt_toInt32]
  have h1 := Int16.le_toInt x.toInt16
  have h2 := Int16.toInt_lt x.toInt16
  omega
theorem fb_byte_twice (x : Int32) : x.toInt8.toInt32.toInt8.toInt32 = x.toInt8.toInt32 := fb_byte (fb_byte_rng x).1 (fb_byte_rng x).2
theorem fb_short_twice (x : Int32) : x.toInt16.toInt32.toInt16.toInt32 = x.toInt16.toInt32 := fb_short (fb_short_rng x).1 (fb_short_rng x).2
theorem fb_char {n : Nat} (h : n < 65536) : (nI n).toUInt32.toUInt16.toUInt32.toInt32 = nI n := by
  apply Int32.toBitVec_inj.1
  apply BitVec.eq_of_toNat_eq
  have e1 : (nI n).toBitVec.toNat = n := by
    show (BitVec.ofNat 32 n).toNat = n
    rw [BitVec.toNat_ofNat, Nat.mod_eq_of_lt (by omega)]
  have e2 : ((nI n).toUInt32.toUInt16.toUInt32).toNat = n := by
    rw [UInt16.toNat_toUInt32, UInt32.toNat_toUInt16]
    show (nI n).toBitVec.toNat % 2 ^ 16 = n
    rw [e1, Nat.mod_eq_of_lt (by omega)]
  rw [e1]
  exact e2
end
section
abbrev KS : Type := Int32 × (Nat → Int32) × (Nat → Int32) × (Nat → Int32) × (Nat → Int32) × Int32 × Int32
abbrev ks_op (s : KS) : Int32 := s.1
abbrev ks_le (s : KS) : (Nat → Int32) := s.2.1
abbrev ks_mo (s : KS) : (Nat → Int32) := s.2.2.1
abbrev ks_ru (s : KS) : (Nat → Int32) := s.2.2.2.1
abbrev ks_be (s : KS) : (Nat → Int32) := s.2.2.2.2.1
abbrev ks_co (s : KS) : Int32 := s.2.2.2.2.2.1
abbrev ks_pl (s : KS) : Int32 := s.2.2.2.2.2.2
abbrev ks_s_op (s : KS) (v : Int32) : KS := (v, s.2.1, s.2.2.1, s.2.2.2.1, s.2.2.2.2.1, s.2.2.2.2.2.1, s.2.2.2.2.2.2)
abbrev ks_s_le (s : KS) (v : (Nat → Int32)) : KS := (s.1, v, s.2.2.1, s.2.2.2.1, s.2.2.2.2.1, s.2.2.2.2.2.1, s.2.2.2.2.2.2)
abbrev ks_s_mo (s : KS) (v : (Nat → Int32)) : KS := (s.1, s.2.1, v, s.2.2.2.1, s.2.2.2.2.1, s.2.2.2.2.2.1, s.2.2.2.2.2.2)
abbrev ks_s_ru (s : KS) (v : (Nat → Int32)) : KS := (s.1, s.2.1, s.2.2.1, v, s.2.2.2.2.1, s.2.2.2.2.2.1, s.2.2.2.2.2.2)
abbrev ks_s_be (s : KS) (v : (Nat → Int32)) : KS := (s.1, s.2.1, s.2.2.1, s.2.2.2.1, v, s.2.2.2.2.2.1, s.2.2.2.2.2.2)
abbrev ks_s_co (s : KS) (v : Int32) : KS := (s.1, s.2.1, s.2.2.1, s.2.2.2.1, s.2.2.2.2.1, v, s.2.2.2.2.2.2)
abbrev ks_s_pl (s : KS) (v : Int32) : KS := (s.1, s.2.1, s.2.2.1, s.2.2.2.1, s.2.2.2.2.1, s.2.2.2.2.2.1, v)
abbrev XS : Type := (Nat → KS) × Int32 × (Nat → Int32) × (Nat → Int32) × Int32 × Int32 × Int32 × Int32 × Int32 × (Nat → Int32) × Int32 × Int32
abbrev xs_ki (s : XS) : (Nat → KS) := s.1
abbrev xs_kc (s : XS) : Int32 := s.2.1
abbrev xs_pk (s : XS) : (Nat → Int32) := s.2.2.1
abbrev xs_tu (s : XS) : (Nat → Int32) := s.2.2.2.1
abbrev xs_pc (s : XS) : Int32 := s.2.2.2.2.1
abbrev xs_li (s : XS) : Int32 := s.2.2.2.2.2.1
abbrev xs_rc (s : XS) : Int32 := s.2.2.2.2.2.2.1
abbrev xs_cc (s : XS) : Int32 := s.2.2.2.2.2.2.2.1
abbrev xs_bn (s : XS) : Int32 := s.2.2.2.2.2.2.2.2.1
abbrev xs_mi (s : XS) : (Nat → Int32) := s.2.2.2.2.2.2.2.2.2.1
abbrev xs_rm (s : XS) : Int32 := s.2.2.2.2.2.2.2.2.2.2.1
abbrev xs_wm (s : XS) : Int32 := s.2.2.2.2.2.2.2.2.2.2.2
abbrev xs_s_ki (s : XS) (v : (Nat → KS)) : XS := (v, s.2.1, s.2.2.1, s.2.2.2.1, s.2.2.2.2.1, s.2.2.2.2.2.1, s.2.2.2.2.2.2.1, s.2.2.2.2.2.2.2.1, s.2.2.2.2.2.2.2.2.1, s.2.2.2.2.2.2.2.2.2.1, s.2.2.2.2.2.2.2.2.2.2.1, s.2.2.2.2.2.2.2.2.2.2.2)
abbrev xs_s_kc (s : XS) (v : Int32) : XS := (s.1, v, s.2.2.1, s.2.2.2.1, s.2.2.2.2.1, s.2.2.2.2.2.1, s.2.2.2.2.2.2.1, s.2.2.2.2.2.2.2.1, s.2.2.2.2.2.2.2.2.1, s.2.2.2.2.2.2.2.2.2.1, s.2.2.2.2.2.2.2.2.2.2.1, s.2.2.2.2.2.2.2.2.2.2.2)
abbrev xs_s_pk (s : XS) (v : (Nat → Int32)) : XS := (s.1, s.2.1, v, s.2.2.2.1, s.2.2.2.2.1, s.2.2.2.2.2.1, s.2.2.2.2.2.2.1, s.2.2.2.2.2.2.2.1, s.2.2.2.2.2.2.2.2.1, s.2.2.2.2.2.2.2.2.2.1, s.2.2.2.2.2.2.2.2.2.2.1, s.2.2.2.2.2.2.2.2.2.2.2)
abbrev xs_s_tu (s : XS) (v : (Nat → Int32)) : XS := (s.1, s.2.1, s.2.2.1, v, s.2.2.2.2.1, s.2.2.2.2.2.1, s.2.2.2.2.2.2.1, s.2.2.2.2.2.2.2.1, s.2.2.2.2.2.2.2.2.1, s.2.2.2.2.2.2.2.2.2.1, s.2.2.2.2.2.2.2.2.2.2.1, s.2.2.2.2.2.2.2.2.2.2.2)
abbrev xs_s_pc (s : XS) (v : Int32) : XS := (s.1, s.2.1, s.2.2.1, s.2.2.2.1, v, s.2.2.2.2.2.1, s.2.2.2.2.2.2.1, s.2.2.2.2.2.2.2.1, s.2.2.2.2.2.2.2.2.1, s.2.2.2.2.2.2.2.2.2.1, s.2.2.2.2.2.2.2.2.2.2.1, s.2.2.2.2.2.2.2.2.2.2.2)
abbrev xs_s_li (s : XS) (v : Int32) : XS := (s.1, s.2.1, s.2.2.1, s.2.2.2.1, s.2.2.2.2.1, v, s.2.2.2.2.2.2.1, s.2.2.2.2.2.2.2.1, s.2.2.2.2.2.2.2.2.1, s.2.2.2.2.2.2.2.2.2.1, s.2.2.2.2.2.2.2.2.2.2.1, s.2.2.2.2.2.2.2.2.2.2.2)
abbrev xs_s_rc (s : XS) (v : Int32) : XS := (s.1, s.2.1, s.2.2.1, s.2.2.2.1, s.2.2.2.2.1, s.2.2.2.2.2.1, v, s.2.2.2.2.2.2.2.1, s.2.2.2.2.2.2.2.2.1, s.2.2.2.2.2.2.2.2.2.1, s.2.2.2.2.2.2.2.2.2.2.1, s.2.2.2.2.2.2.2.2.2.2.2)
abbrev xs_s_cc (s : XS) (v : Int32) : XS := (s.1, s.2.1, s.2.2.1, s.2.2.2.1, s.2.2.2.2.1, s.2.2.2.2.2.1, s.2.2.2.2.2.2.1, v, s.2.2.2.2.2.2.2.2.1, s.2.2.2.2.2.2.2.2.2.1, s.2.2.2.2.2.2.2.2.2.2.1, s.2.2.2.2.2.2.2.2.2.2.2)
abbrev xs_s_bn (s : XS) (v : Int32) : XS := (s.1, s.2.1, s.2.2.1, s.2.2.2.1, s.2.2.2.2.1, s.2.2.2.2.2.1, s.2.2.2.2.2.2.1, s.2.2.2.2.2.2.2.1, v, s.2.2.2.2.2.2.2.2.2.1, s.2.2.2.2.2.2.2.2.2.2.1, s.2.2.2.2.2.2.2.2.2.2.2)
abbrev xs_s_mi (s : XS) (v : (Nat → Int32)) : XS := (s.1, s.2.1, s.2.2.1, s.2.2.2.1, s.2.2.2.2.1, s.2.2.2.2.2.1, s.2.2.2.2.2.2.1, s.2.2.2.2.2.2.2.1, s.2.2.2.2.2.2.2.2.1, v, s.2.2.2.2.2.2.2.2.2.2.1, s.2.2.2.2.2.2.2.2.2.2.2)
abbrev xs_s_rm (s : XS) (v : Int32) : XS := (s.1, s.2.1, s.2.2.1, s.2.2.2.1, s.2.2.2.2.1, s.2.2.2.2.2.1, s.2.2.2.2.2.2.1, s.2.2.2.2.2.2.2.1, s.2.2.2.2.2.2.2.2.1, s.2.2.2.2.2.2.2.2.2.1, v, s.2.2.2.2.2.2.2.2.2.2.2)
abbrev xs_s_wm (s : XS) (v : Int32) : XS := (s.1, s.2.1, s.2.2.1, s.2.2.2.1, s.2.2.2.2.1, s.2.2.2.2.2.1, s.2.2.2.2.2.2.1, s.2.2.2.2.2.2.2.1, s.2.2.2.2.2.2.2.2.1, s.2.2.2.2.2.2.2.2.2.1, s.2.2.2.2.2.2.2.2.2.2.1, v)
abbrev MS : Type := Int32 × Int32 × (Nat → Int32) × (Nat → Int32) × (Nat → Int32) × (Nat → Int32) × (Nat → Int32) × (Nat → Int32) × (Nat → Int32) × (Nat → Int32) × (Nat → Int32) × Int32 × (Nat → Int32) × Int32 × Int32 × Int32 × Int32 × (Nat → Int32) × (Nat → Int32) × Int32 × Int32
abbrev ms_th (s : MS) : Int32 := s.1
abbrev ms_ki (s : MS) : Int32 := s.2.1
abbrev ms_op (s : MS) : (Nat → Int32) := s.2.2.1
abbrev ms_fr (s : MS) : (Nat → Int32) := s.2.2.2.1
abbrev ms_to (s : MS) : (Nat → Int32) := s.2.2.2.2.1
abbrev ms_la (s : MS) : (Nat → Int32) := s.2.2.2.2.2.1
abbrev ms_ta (s : MS) : (Nat → Int32) := s.2.2.2.2.2.2.1
abbrev ms_be (s : MS) : (Nat → Int32) := s.2.2.2.2.2.2.2.1
abbrev ms_is (s : MS) : (Nat → Int32) := s.2.2.2.2.2.2.2.2.1
abbrev ms_ma (s : MS) : (Nat → Int32) := s.2.2.2.2.2.2.2.2.2.1
abbrev ms_pa (s : MS) : (Nat → Int32) := s.2.2.2.2.2.2.2.2.2.2.1
abbrev ms_pc (s : MS) : Int32 := s.2.2.2.2.2.2.2.2.2.2.2.1
abbrev ms_pn (s : MS) : (Nat → Int32) := s.2.2.2.2.2.2.2.2.2.2.2.2.1
abbrev ms_li (s : MS) : Int32 := s.2.2.2.2.2.2.2.2.2.2.2.2.2.1
abbrev ms_ro (s : MS) : Int32 := s.2.2.2.2.2.2.2.2.2.2.2.2.2.2.1
abbrev ms_co (s : MS) : Int32 := s.2.2.2.2.2.2.2.2.2.2.2.2.2.2.2.1
abbrev ms_ba (s : MS) : Int32 := s.2.2.2.2.2.2.2.2.2.2.2.2.2.2.2.2.1
abbrev ms_nu (s : MS) : (Nat → Int32) := s.2.2.2.2.2.2.2.2.2.2.2.2.2.2.2.2.2.1
abbrev ms_mi (s : MS) : (Nat → Int32) := s.2.2.2.2.2.2.2.2.2.2.2.2.2.2.2.2.2.2.1
abbrev ms_ri (s : MS) : Int32 := s.2.2.2.2.2.2.2.2.2.2.2.2.2.2.2.2.2.2.2.1
abbrev ms_wr (s : MS) : Int32 := s.2.2.2.2.2.2.2.2.2.2.2.2.2.2.2.2.2.2.2.2
abbrev ms_s_th (s : MS) (v : Int32) : MS := (v, s.2.1, s.2.2.1, s.2.2.2.1, s.2.2.2.2.1, s.2.2.2.2.2.1, s.2.2.2.2.2.2.1, s.2.2.2.2.2.2.2.1, s.2.2.2.2.2.2.2.2.1, s.2.2.2.2.2.2.2.2.2.1, s.2.2.2.2.2.2.2.2.2.2.1, s.2.2.2.2.2.2.2.2.2.2.2.1, s.2.2.2.2.2.2.2.2.2.2.2.2.1, s.2.2.2.2.2.2.2.2.2.2.2.2.2.1, s.2.2.2.2.2.2.2.2.2.2.2.2.2.2.1, s.2.2.2.2.2.2.2.2.2.2.2.2.2.2.2.1, s.2.2.2.2.2.2.2.2.2.2.2.2.2.2.2.2.1, s.2.2.2.2.2.2.2.2.2.2.2.2.2.2.2.2.2.1, s.2.2.2.2.2.2.2.2.2.2.2.2.2.2.2.2.2.2.1, s.2.2.2.2.2.2.2.2.2.2.2.2.2.2.2.2.2.2.2.1, s.2.2.2.2.2.2.2.2.2.2.2.2.2.2.2.2.2.2.2.2)
abbrev ms_s_ki (s : MS) (v : Int32) : MS := (s.1, v, s.2.2.1, s.2.2.2.1, s.2.2.2.2.1, s.2.2.2.2.2.1, s.2.2.2.2.2.2.1, s.2.2.2.2.2.2.2.1, s.2.2.2.2.2.2.2.2.1, s.2.2.2.2.2.2.2.2.2.1, s.2.2.2.2.2.2.2.2.2.2.1, s.2.2.2.2.2.2.2.2.2.2.2.1, s.2.2.2.2.2.2.2.2.2.2.2.2.1, s.2.2.2.2.2.2.2.2.2.2.2.2.2.1, s.2.2.2.2.2.2.2.2.2.2.2.2.2.2.1, s.2.2.2.2.2.2.2.2.2.2.2.2.2.2.2.1, s.2.2.2.2.2.2.2.2.2.2.2.2.2.2.2.2.1, s.2.2.2.2.2.2.2.2.2.2.2.2.2.2.2.2.2.1, s.2.2.2.2.2.2.2.2.2.2.2.2.2.2.2.2.2.2.1, s.2.2.2.2.2.2.2.2.2.2.2.2.2.2.2.2.2.2.2.1, s.2.2.2.2.2.2.2.2.2.2.2.2.2.2.2.2.2.2.2.2)
abbrev ms_s_op (s : MS) (v : (Nat → Int32)) : MS := (s.1, s.2.1, v, s.2.2.2.1, s.2.2.2.2.1, s.2.2.2.2.2.1, s.2.2.2.2.2.2.1, s.2.2.2.2.2.2.2.1, s.2.2.2.2.2.2.2.2.1, s.2.2.2.2.2.2.2.2.2.1, s.2.2.2.2.2.2.2.2.2.2.1, s.2.2.2.2.2.2.2.2.2.2.2.1, s.2.2.2.2.2.2.2.2.2.2.2.2.1, s.2.2.2.2.2.2.2.2.2.2.2.2.2.1, s.2.2.2.2.2.2.2.2.2.2.2.2.2.2.1, s.2.2.2.2.2.2.2.2.2.2.2.2.2.2.2.1, s.2.2.2.2.2.2.2.2.2.2.2.2.2.2.2.2.1, s.2.2.2.2.2.2.2.2.2.2.2.2.2.2.2.2.2.1, s.2.2.2.2.2.2.2.2.2.2.2.2.2.2.2.2.2.2.1, s.2.2.2.2.2.2.2.2.2.2.2.2.2.2.2.2.2.2.2.1, s.2.2.2.2.2.2.2.2.2.2.2.2.2.2.2.2.2.2.2.2)
abbrev ms_s_fr (s : MS) (v : (Nat → Int32)) : MS := (s.1, s.2.1, s.2.2.1, v, s.2.2.2.2.1, s.2.2.2.2.2.1, s.2.2.2.2.2.2.1, s.2.2.2.2.2.2.2.1, s.2.2.2.2.2.2.2.2.1, s.2.2.2.2.2.2.2.2.2.1, s.2.2.2.2.2.2.2.2.2.2.1, s.2.2.2.2.2.2.2.2.2.2.2.1, s.2.2.2.2.2.2.2.2.2.2.2.2.1, s.2.2.2.2.2.2.2.2.2.2.2.2.2.1, s.2.2.2.2.2.2.2.2.2.2.2.2.2.2.1, s.2.2.2.2.2.2.2.2.2.2.2.2.2.2.2.1, s.2.2.2.2.2.2.2.2.2.2.2.2.2.2.2.2.1, s.2.2.2.2.2.2.2.2.2.2.2.2.2.2.2.2.2.1, s.2.2.2.2.2.2.2.2.2.2.2.2.2.2.2.2.2.2.1, s.2.2.2.2.2.2.2.2.2.2.2.2.2.2.2.2.2.2.2.1, s.2.2.2.2.2.2.2.2.2.2.2.2.2.2.2.2.2.2.2.2)
abbrev ms_s_to (s : MS) (v : (Nat → Int32)) : MS := (s.1, s.2.1, s.2.2.1, s.2.2.2.1, v, s.2.2.2.2.2.1, s.2.2.2.2.2.2.1, s.2.2.2.2.2.2.2.1, s.2.2.2.2.2.2.2.2.1, s.2.2.2.2.2.2.2.2.2.1, s.2.2.2.2.2.2.2.2.2.2.1, s.2.2.2.2.2.2.2.2.2.2.2.1, s.2.2.2.2.2.2.2.2.2.2.2.2.1, s.2.2.2.2.2.2.2.2.2.2.2.2.2.1, s.2.2.2.2.2.2.2.2.2.2.2.2.2.2.1, s.2.2.2.2.2.2.2.2.2.2.2.2.2.2.2.1, s.2.2.2.2.2.2.2.2.2.2.2.2.2.2.2.2.1, s.2.2.2.2.2.2.2.2.2.2.2.2.2.2.2.2.2.1, s.2.2.2.2.2.2.2.2.2.2.2.2.2.2.2.2.2.2.1, s.2.2.2.2.2.2.2.2.2.2.2.2.2.2.2.2.2.2.2.1, s.2.2.2.2.2.2.2.2.2.2.2.2.2.2.2.2.2.2.2.2)
abbrev ms_s_la (s : MS) (v : (Nat → Int32)) : MS := (s.1, s.2.1, s.2.2.1, s.2.2.2.1, s.2.2.2.2.1, v, s.2.2.2.2.2.2.1, s.2.2.2.2.2.2.2.1, s.2.2.2.2.2.2.2.2.1, s.2.2.2.2.2.2.2.2.2.1, s.2.2.2.2.2.2.2.2.2.2.1, s.2.2.2.2.2.2.2.2.2.2.2.1, s.2.2.2.2.2.2.2.2.2.2.2.2.1, s.2.2.2.2.2.2.2.2.2.2.2.2.2.1, s.2.2.2.2.2.2.2.2.2.2.2.2.2.2.1, s.2.2.2.2.2.2.2.2.2.2.2.2.2.2.2.1, s.2.2.2.2.2.2.2.2.2.2.2.2.2.2.2.2.1, s.2.2.2.2.2.2.2.2.2.2.2.2.2.2.2.2.2.1, s.2.2.2.2.2.2.2.2.2.2.2.2.2.2.2.2.2.2.1, s.2.2.2.2.2.2.2.2.2.2.2.2.2.2.2.2.2.2.2.1, s.2.2.2.2.2.2.2.2.2.2.2.2.2.2.2.2.2.2.2.2)
abbrev ms_s_ta (s : MS) (v : (Nat → Int32)) : MS := (s.1, s.2.1, s.2.2.1, s.2.2.2.1, s.2.2.2.2.1, s.2.2.2.2.2.1, v, s.2.2.2.2.2.2.2.1, s.2.2.2.2.2.2.2.2.1, s.2.2.2.2.2.2.2.2.2.1, s.2.2.2.2.2.2.2.2.2.2.1, s.2.2.2.2.2.2.2.2.2.2.2.1, s.2.2.2.2.2.2.2.2.2.2.2.2.1, s.2.2.2.2.2.2.2.2.2.2.2.2.2.1, s.2.2.2.2.2.2.2.2.2.2.2.2.2.2.1, s.2.2.2.2.2.2.2.2.2.2.2.2.2.2.2.1, s.2.2.2.2.2.2.2.2.2.2.2.2.2.2.2.2.1, s.2.2.2.2.2.2.2.2.2.2.2.2.2.2.2.2.2.1, s.2.2.2.2.2.2.2.2.2.2.2.2.2.2.2.2.2.2.1, s.2.2.2.2.2.2.2.2.2.2.2.2.2.2.2.2.2.2.2.1, s.2.2.2.2.2.2.2.2.2.2.2.2.2.2.2.2.2.2.2.2)
abbrev ms_s_be (s : MS) (v : (Nat → Int32)) : MS := (s.1, s.2.1, s.2.2.1, s.2.2.2.1, s.2.2.2.2.1, s.2.2.2.2.2.1, s.2.2.2.2.2.2.1, v, s.2.2.2.2.2.2.2.2.1, s.2.2.2.2.2.2.2.2.2.1, s.2.2.2.2.2.2.2.2.2.2.1, s.2.2.2.2.2.2.2.2.2.2.2.1, s.2.2.2.2.2.2.2.2.2.2.2.2.1, s.2.2.2.2.2.2.2.2.2.2.2.2.2.1, s.2.2.2.2.2.2.2.2.2.2.2.2.2.2.1, s.2.2.2.2.2.2.2.2.2.2.2.2.2.2.2.1, s.2.2.2.2.2.2.2.2.2.2.2.2.2.2.2.2.1, s.2.2.2.2.2.2.2.2.2.2.2.2.2.2.2.2.2.1, s.2.2.2.2.2.2.2.2.2.2.2.2.2.2.2.2.2.2.1, s.2.2.2.2.2.2.2.2.2.2.2.2.2.2.2.2.2.2.2.1, s.2.2.2.2.2.2.2.2.2.2.2.2.2.2.2.2.2.2.2.2)
abbrev ms_s_is (s : MS) (v : (Nat → Int32)) : MS := (s.1, s.2.1, s.2.2.1, s.2.2.2.1, s.2.2.2.2.1, s.2.2.2.2.2.1, s.2.2.2.2.2.2.1, s.2.2.2.2.2.2.2.1, v, s.2.2.2.2.2.2.2.2.2.1, s.2.2.2.2.2.2.2.2.2.2.1, s.2.2.2.2.2.2.2.2.2.2.2.1, s.2.2.2.2.2.2.2.2.2.2.2.2.1, s.2.2.2.2.2.2.2.2.2.2.2.2.2.1, s.2.2.2.2.2.2.2.2.2.2.2.2.2.2.1, s.2.2.2.2.2.2.2.2.2.2.2.2.2.2.2.1, s.2.2.2.2.2.2.2.2.2.2.2.2.2.2.2.2.1, s.2.2.2.2.2.2.2.2.2.2.2.2.2.2.2.2.2.1, s.2.2.2.2.2.2.2.2.2.2.2.2.2.2.2.2.2.2.1, s.2.2.2.2.2.2.2.2.2.2.2.2.2.2.2.2.2.2.2.1, s.2.2.2.2.2.2.2.2.2.2.2.2.2.2.2.2.2.2.2.2)
abbrev ms_s_ma (s : MS) (v : (Nat → Int32)) : MS := (s.1, s.2.1, s.2.2.1, s.2.2.2.1, s.2.2.2.2.1, s.2.2.2.2.2.1, s.2.2.2.2.2.2.1, s.2.2.2.2.2.2.2.1, s.2.2.2.2.2.2.2.2.1, v, s.2.2.2.2.2.2.2.2.2.2.1, s.2.2.2.2.2.2.2.2.2.2.2.1, s.2.2.2.2.2.2.2.2.2.2.2.2.1, s.2.2.2.2.2.2.2.2.2.2.2.2.2.1, s.2.2.2.2.2.2.2.2.2.2.2.2.2.2.1, s.2.2.2.2.2.2.2.2.2.2.2.2.2.2.2.1, s.2.2.2.2.2.2.2.2.2.2.2.2.2.2.2.2.1, s.2.2.2.2.2.2.2.2.2.2.2.2.2.2.2.2.2.1, s.2.2.2.2.2.2.2.2.2.2.2.2.2.2.2.2.2.2.1, s.2.2.2.2.2.2.2.2.2.2.2.2.2.2.2.2.2.2.2.1, s.2.2.2.2.2.2.2.2.2.2.2.2.2.2.2.2.2.2.2.2)
abbrev ms_s_pa (s : MS) (v : (Nat → Int32)) : MS := (s.1, s.2.1, s.2.2.1, s.2.2.2.1, s.2.2.2.2.1, s.2.2.2.2.2.1, s.2.2.2.2.2.2.1, s.2.2.2.2.2.2.2.1, s.2.2.2.2.2.2.2.2.1, s.2.2.2.2.2.2.2.2.2.1, v, s.2.2.2.2.2.2.2.2.2.2.2.1, s.2.2.2.2.2.2.2.2.2.2.2.2.1, s.2.2.2.2.2.2.2.2.2.2.2.2.2.1, s.2.2.2.2.2.2.2.2.2.2.2.2.2.2.1, s.2.2.2.2.2.2.2.2.2.2.2.2.2.2.2.1, s.2.2.2.2.2.2.2.2.2.2.2.2.2.2.2.2.1, s.2.2.2.2.2.2.2.2.2.2.2.2.2.2.2.2.2.1, s.2.2.2.2.2.2.2.2.2.2.2.2.2.2.2.2.2.2.1, s.2.2.2.2.2.2.2.2.2.2.2.2.2.2.2.2.2.2.2.1, s.2.2.2.2.2.2.2.2.2.2.2.2.2.2.2.2.2.2.2.2)
abbrev ms_s_pc (s : MS) (v : Int32) : MS := (s.1, s.2.1, s.2.2.1, s.2.2.2.1, s.2.2.2.2.1, s.2.2.2.2.2.1, s.2.2.2.2.2.2.1, s.2.2.2.2.2.2.2.1, s.2.2.2.2.2.2.2.2.1, s.2.2.2.2.2.2.2.2.2.1, s.2.2.2.2.2.2.2.2.2.2.1, v, s.2.2.2.2.2.2.2.2.2.2.2.2.1, s.2.2.2.2.2.2.2.2.2.2.2.2.2.1, s.2.2.2.2.2.2.2.2.2.2.2.2.2.2.1, s.2.2.2.2.2.2.2.2.2.2.2.2.2.2.2.1, s.2.2.2.2.2.2.2.2.2.2.2.2.2.2.2.2.1, s.2.2.2.2.2.2.2.2.2.2.2.2.2.2.2.2.2.1, s.2.2.2.2.2.2.2.2.2.2.2.2.2.2.2.2.2.2.1, s.2.2.2.2.2.2.2.2.2.2.2.2.2.2.2.2.2.2.2.1, s.2.2.2.2.2.2.2.2.2.2.2.2.2.2.2.2.2.2.2.2)
abbrev ms_s_pn (s : MS) (v : (Nat → Int32)) : MS := (s.1, s.2.1, s.2.2.1, s.2.2.2.1, s.2.2.2.2.1, s.2.2.2.2.2.1, s.2.2.2.2.2.2.1, s.2.2.2.2.2.2.2.1, s.2.2.2.2.2.2.2.2.1, s.2.2.2.2.2.2.2.2.2.1, s.2.2.2.2.2.2.2.2.2.2.1, s.2.2.2.2.2.2.2.2.2.2.2.1, v, s.2.2.2.2.2.2.2.2.2.2.2.2.2.1, s.2.2.2.2.2.2.2.2.2.2.2.2.2.2.1, s.2.2.2.2.2.2.2.2.2.2.2.2.2.2.2.1, s.2.2.2.2.2.2.2.2.2.2.2.2.2.2.2.2.1, s.2.2.2.2.2.2.2.2.2.2.2.2.2.2.2.2.2.1, s.2.2.2.2.2.2.2.2.2.2.2.2.2.2.2.2.2.2.1, s.2.2.2.2.2.2.2.2.2.2.2.2.2.2.2.2.2.2.2.1, s.2.2.2.2.2.2.2.2.2.2.2.2.2.2.2.2.2.2.2.2)
abbrev ms_s_li (s : MS) (v : Int32) : MS := (s.1, s.2.1, s.2.2.1, s.2.2.2.1, s.2.2.2.2.1, s.2.2.2.2.2.1, s.2.2.2.2.2.2.1, s.2.2.2.2.2.2.2.1, s.2.2.2.2.2.2.2.2.1, s.2.2.2.2.2.2.2.2.2.1, s.2.2.2.2.2.2.2.2.2.2.1, s.2.2.2.2.2.2.2.2.2.2.2.1, s.2.2.2.2.2.2.2.2.2.2.2.2.1, v, s.2.2.2.2.2.2.2.2.2.2.2.2.2.2.1, s.2.2.2.2.2.2.2.2.2.2.2.2.2.2.2.1, s.2.2.2.2.2.2.2.2.2.2.2.2.2.2.2.2.1, s.2.2.2.2.2.2.2.2.2.2.2.2.2.2.2.2.2.1, s.2.2.2.2.2.2.2.2.2.2.2.2.2.2.2.2.2.2.1, s.2.2.2.2.2.2.2.2.2.2.2.2.2.2.2.2.2.2.2.1, s.2.2.2.2.2.2.2.2.2.2.2.2.2.2.2.2.2.2.2.2)
abbrev ms_s_ro (s : MS) (v : Int32) : MS := (s.1, s.2.1, s.2.2.1, s.2.2.2.1, s.2.2.2.2.1, s.2.2.2.2.2.1, s.2.2.2.2.2.2.1, s.2.2.2.2.2.2.2.1, s.2.2.2.2.2.2.2.2.1, s.2.2.2.2.2.2.2.2.2.1, s.2.2.2.2.2.2.2.2.2.2.1, s.2.2.2.2.2.2.2.2.2.2.2.1, s.2.2.2.2.2.2.2.2.2.2.2.2.1, s.2.2.2.2.2.2.2.2.2.2.2.2.2.1, v, s.2.2.2.2.2.2.2.2.2.2.2.2.2.2.2.1, s.2.2.2.2.2.2.2.2.2.2.2.2.2.2.2.2.1, s.2.2.2.2.2.2.2.2.2.2.2.2.2.2.2.2.2.1, s.2.2.2.2.2.2.2.2.2.2.2.2.2.2.2.2.2.2.1, s.2.2.2.2.2.2.2.2.2.2.2.2.2.2.2.2.2.2.2.1, s.2.2.2.2.2.2.2.2.2.2.2.2.2.2.2.2.2.2.2.2)
abbrev ms_s_co (s : MS) (v : Int32) : MS := (s.1, s.2.1, s.2.2.1, s.2.2.2.1, s.2.2.2.2.1, s.2.2.2.2.2.1, s.2.2.2.2.2.2.1, s.2.2.2.2.2.2.2.1, s.2.2.2.2.2.2.2.2.1, s.2.2.2.2.2.2.2.2.2.1, s.2.2.2.2.2.2.2.2.2.2.1, s.2.2.2.2.2.2.2.2.2.2.2.1, s.2.2.2.2.2.2.2.2.2.2.2.2.1, s.2.2.2.2.2.2.2.2.2.2.2.2.2.1, s.2.2.2.2.2.2.2.2.2.2.2.2.2.2.1, v, s.2.2.2.2.2.2.2.2.2.2.2.2.2.2.2.2.1, s.2.2.2.2.2.2.2.2.2.2.2.2.2.2.2.2.2.1, s.2.2.2.2.2.2.2.2.2.2.2.2.2.2.2.2.2.2.1, s.2.2.2.2.2.2.2.2.2.2.2.2.2.2.2.2.2.2.2.1, s.2.2.2.2.2.2.2.2.2.2.2.2.2.2.2.2.2.2.2.2)
abbrev ms_s_ba (s : MS) (v : Int32) : MS := (s.1, s.2.1, s.2.2.1, s.2.2.2.1, s.2.2.2.2.1, s.2.2.2.2.2.1, s.2.2.2.2.2.2.1, s.2.2.2.2.2.2.2.1, s.2.2.2.2.2.2.2.2.1, s.2.2.2.2.2.2.2.2.2.1, s.2.2.2.2.2.2.2.2.2.2.1, s.2.2.2.2.2.2.2.2.2.2.2.1, s.2.2.2.2.2.2.2.2.2.2.2.2.1, s.2.2.2.2.2.2.2.2.2.2.2.2.2.1, s.2.2.2.2.2.2.2.2.2.2.2.2.2.2.1, s.2.2.2.2.2.2.2.2.2.2.2.2.2.2.2.1, v, s.2.2.2.2.2.2.2.2.2.2.2.2.2.2.2.2.2.1, s.2.2.2.2.2.2.2.2.2.2.2.2.2.2.2.2.2.2.1, s.2.2.2.2.2.2.2.2.2.2.2.2.2.2.2.2.2.2.2.1, s.2.2.2.2.2.2.2.2.2.2.2.2.2.2.2.2.2.2.2.2)
abbrev ms_s_nu (s : MS) (v : (Nat → Int32)) : MS := (s.1, s.2.1, s.2.2.1, s.2.2.2.1, s.2.2.2.2.1, s.2.2.2.2.2.1, s.2.2.2.2.2.2.1, s.2.2.2.2.2.2.2.1, s.2.2.2.2.2.2.2.2.1, s.2.2.2.2.2.2.2.2.2.1, s.2.2.2.2.2.2.2.2.2.2.1, s.2.2.2.2.2.2.2.2.2.2.2.1, s.2.2.2.2.2.2.2.2.2.2.2.2.1, s.2.2.2.2.2.2.2.2.2.2.2.2.2.1, s.2.2.2.2.2.2.2.2.2.2.2.2.2.2.1, s.2.2.2.2.2.2.2.2.2.2.2.2.2.2.2.1, s.2.2.2.2.2.2.2.2.2.2.2.2.2.2.2.2.1, v, s.2.2.2.2.2.2.2.2.2.2.2.2.2.2.2.2.2.2.1, s.2.2.2.2.2.2.2.2.2.2.2.2.2.2.2.2.2.2.2.1, s.2.2.2.2.2.2.2.2.2.2.2.2.2.2.2.2.2.2.2.2)
abbrev ms_s_mi (s : MS) (v : (Nat → Int32)) : MS := (s.1, s.2.1, s.2.2.1, s.2.2.2.1, s.2.2.2.2.1, s.2.2.2.2.2.1, s.2.2.2.2.2.2.1, s.2.2.2.2.2.2.2.1, s.2.2.2.2.2.2.2.2.1, s.2.2.2.2.2.2.2.2.2.1, s.2.2.2.2.2.2.2.2.2.2.1, s.2.2.2.2.2.2.2.2.2.2.2.1, s.2.2.2.2.2.2.2.2.2.2.2.2.1, s.2.2.2.2.2.2.2.2.2.2.2.2.2.1, s.2.2.2.2.2.2.2.2.2.2.2.2.2.2.1, s.2.2.2.2.2.2.2.2.2.2.2.2.2.2.2.1, s.2.2.2.2.2.2.2.2.2.2.2.2.2.2.2.2.1, s.2.2.2.2.2.2.2.2.2.2.2.2.2.2.2.2.2.1, v, s.2.2.2.2.2.2.2.2.2.2.2.2.2.2.2.2.2.2.2.1, s.2.2.2.2.2.2.2.2.2.2.2.2.2.2.2.2.2.2.2.2)
abbrev ms_s_ri (s : MS) (v : Int32) : MS := (s.1, s.2.1, s.2.2.1, s.2.2.2.1, s.2.2.2.2.1, s.2.2.2.2.2.1, s.2.2.2.2.2.2.1, s.2.2.2.2.2.2.2.1, s.2.2.2.2.2.2.2.2.1, s.2.2.2.2.2.2.2.2.2.1, s.2.2.2.2.2.2.2.2.2.2.1, s.2.2.2.2.2.2.2.2.2.2.2.1, s.2.2.2.2.2.2.2.2.2.2.2.2.1, s.2.2.2.2.2.2.2.2.2.2.2.2.2.1, s.2.2.2.2.2.2.2.2.2.2.2.2.2.2.1, s.2.2.2.2.2.2.2.2.2.2.2.2.2.2.2.1, s.2.2.2.2.2.2.2.2.2.2.2.2.2.2.2.2.1, s.2.2.2.2.2.2.2.2.2.2.2.2.2.2.2.2.2.1, s.2.2.2.2.2.2.2.2.2.2.2.2.2.2.2.2.2.2.1, v, s.2.2.2.2.2.2.2.2.2.2.2.2.2.2.2.2.2.2.2.2)
abbrev ms_s_wr (s : MS) (v : Int32) : MS := (s.1, s.2.1, s.2.2.1, s.2.2.2.1, s.2.2.2.2.1, s.2.2.2.2.2.1, s.2.2.2.2.2.2.1, s.2.2.2.2.2.2.2.1, s.2.2.2.2.2.2.2.2.1, s.2.2.2.2.2.2.2.2.2.1, s.2.2.2.2.2.2.2.2.2.2.1, s.2.2.2.2.2.2.2.2.2.2.2.1, s.2.2.2.2.2.2.2.2.2.2.2.2.1, s.2.2.2.2.2.2.2.2.2.2.2.2.2.1, s.2.2.2.2.2.2.2.2.2.2.2.2.2.2.1, s.2.2.2.2.2.2.2.2.2.2.2.2.2.2.2.1, s.2.2.2.2.2.2.2.2.2.2.2.2.2.2.2.2.1, s.2.2.2.2.2.2.2.2.2.2.2.2.2.2.2.2.2.1, s.2.2.2.2.2.2.2.2.2.2.2.2.2.2.2.2.2.2.1, s.2.2.2.2.2.2.2.2.2.2.2.2.2.2.2.2.2.2.2.1, v)
abbrev xs_sk (s : XS) (j : Nat) (u : KS) : XS := xs_s_ki s (va_up (xs_ki s) j u)
def KW (cc : Nat → ClassId) (a : Nat → Nat) (s : KS) : va_W := [(a 0, .inr (0, [.int (ks_op s), .ref (a 1), .ref (a 2), .ref (a 3), .ref (a 4), .int (ks_co s), .int (ks_pl s)])), (a 1, .inl (cc 0, 3, .inl (ks_le s))), (a 2, .inl (cc 0, 3, .inl (ks_mo s))), (a 3, .inl (cc 0, 3, .inl (ks_ru s))), (a 4, .inl (cc 0, 100, .inl (ks_be s)))]
def ka (ad : Nat → Nat) (j : Nat) : Nat → Nat := fun i => ad (5 + 5 * j + i)
def XB (cc : Nat → ClassId) (ad : Nat → Nat) (s : XS) : va_W := [(ad 0, .inr (1, [.ref (ad 1), .int (xs_kc s), .ref (ad 2), .ref (ad 3), .int (xs_pc s), .int (xs_li s), .int (xs_rc s), .int (xs_cc s), .int (xs_bn s), .ref (ad 4), .int (xs_rm s), .int (xs_wm s)])), (ad 1, .inl (cc 1, 8, .inr (.inr (.inr (.inr (fun j => some (ka ad j 0))))))), (ad 2, .inl (cc 0, 40, .inl (xs_pk s))), (ad 3, .inl (cc 0, 40, .inl (xs_tu s))), (ad 4, .inl (cc 0, 512, .inl (xs_mi s)))]
def XW (cc : Nat → ClassId) (ad : Nat → Nat) (s : XS) : va_W := XB cc ad s ++ (List.range 8).flatMap (fun j => KW cc (ka ad j) (xs_ki s j))
def MW (cc : Nat → ClassId) (ad : Nat → Nat) (s : MS) : va_W := [(ad 0, .inr (2, [.int (ms_th s), .int (ms_ki s), .ref (ad 1), .ref (ad 2), .ref (ad 3), .ref (ad 4), .ref (ad 5), .ref (ad 6), .ref (ad 7), .ref (ad 8), .ref (ad 9), .int (ms_pc s), .ref (ad 10), .int (ms_li s), .int (ms_ro s), .int (ms_co s), .int (ms_ba s), .ref (ad 11), .ref (ad 12), .int (ms_ri s), .int (ms_wr s)])), (ad 1, .inl (cc 0, 8, .inl (ms_op s))), (ad 2, .inl (cc 0, 24, .inl (ms_fr s))), (ad 3, .inl (cc 0, 24, .inl (ms_to s))), (ad 4, .inl (cc 0, 8, .inl (ms_la s))), (ad 5, .inl (cc 0, 8, .inl (ms_ta s))), (ad 6, .inl (cc 0, 8, .inl (ms_be s))), (ad 7, .inl (cc 2, 8, .inl (ms_is s))), (ad 8, .inl (cc 0, 8, .inl (ms_ma s))), (ad 9, .inl (cc 3, 80000, .inl (ms_pa s))), (ad 10, .inl (cc 0, 40, .inl (ms_pn s))), (ad 11, .inl (cc 0, 64, .inl (ms_nu s))), (ad 12, .inl (cc 0, 512, .inl (ms_mi s)))]
def TY (cc : Nat → ClassId) : List (ClassId × FieldType) := [(cc 0, .int), (cc 1, .object RX0), (cc 2, .boolean), (cc 3, .short)]
/-- the cells that a method may change: its own, and new ones -/
def AA (n : Nat) (ad : Nat → Nat) (sz : Nat) : Nat → Prop := fun q => (∃ i, i < n ∧ q = ad i) ∨ sz ≤ q
def DA (n : Nat) (ad : Nat → Nat) (A : Nat → Prop) : Prop := (∀ i j, i < n → j < n → ad i = ad j → i = j) ∧ ∀ i, i < n → A (ad i)
theorem vaP_mem {D : va_G} {cl : List vw_C} {ws : va_W} {H : Heap} : va_P D cl ws H ↔ ∀ q ∈ ws, va_at D cl q H := by
  constructor
  · intro h q hq
    obtain ⟨i, hi⟩ := List.getElem?_of_mem hq
    exact h i q hi
  · intro h k q hk
    exact h q (List.mem_of_getElem? hk)
theorem vaD_of {A : Nat → Prop} {ws : va_W} {n : Nat} {ad : Nat → Nat} (hm : ws.map Prod.fst = (List.range n).map ad) (hd : DA n ad A) : va_D A ws := by
  have key : ∀ (k : Nat) (q : Nat × va_E), ws[k]? = some q → k < n ∧ q.1 = ad k := by
    intro k q hk
    have h1 : (ws.map Prod.fst)[k]? = some q.1 := by rw [List.getElem?_map, hk]; rfl
    rw [hm, List.getElem?_map] at h1
    cases hr : (List.range n)[k]? with
    | none => rw [hr] at h1; cases h1
    | some i =>
      rw [hr] at h1
      have hlt : k < n := by
        have h2 := (List.getElem?_eq_some_iff.mp hr).1
        simpa using h2
      have hi : i = k := by
        rw [List.getElem?_range hlt] at hr
        exact (Option.some.inj hr).symm
      subst hi
      exact ⟨hlt, (Option.some.inj h1).symm⟩
  refine ⟨fun i j p q hi hj hpq => ?_, fun k q hk => ?_⟩
  · obtain ⟨a1, a2⟩ := key i p hi
    obtain ⟨b1, b2⟩ := key j q hj
    exact hd.1 i j a1 b1 (by rw [← a2, ← b2, hpq])
  · obtain ⟨a1, a2⟩ := key k q hk
    rw [a2]
    exact hd.2 k a1
theorem kD {A : Nat → Prop} {cc : Nat → ClassId} {a : Nat → Nat} {s : KS} (hd : DA 5 a A) : va_D A (KW cc a s) := vaD_of rfl hd
theorem xD {A : Nat → Prop} {cc : Nat → ClassId} {ad : Nat → Nat} {s : XS} (hd : DA 45 ad A) : va_D A (XW cc ad s) := vaD_of rfl hd
theorem mD {A : Nat → Prop} {cc : Nat → ClassId} {ad : Nat → Nat} {s : MS} (hd : DA 13 ad A) : va_D A (MW cc ad s) := vaD_of rfl hd
/-- the three static tables, which nobody writes -/
def sx_v0 (j : Nat) : Int32 := if j = 2 then 9999 else 99
def sx_v1 (j : Nat) : Int32 := if j = 1 then 1 else 0
def sx_v2 (j : Nat) : Int32 := if j = 0 then 3 else if j = 1 then 9 else 9999
def sx_f0 (j : Nat) : Value := .int (sx_v0 j)
def sx_f1 (j : Nat) : Value := .int (sx_v1 j)
def sx_f2 (j : Nat) : Value := .int (sx_v2 j)
def SX (A : Nat → Prop) (U : State) (H : Heap) : Prop := (∃ t : Nat, va_Z RX0 "RANGE_MOST" "[I" (.ref t) A U H ∧ va_T .int t 3 sx_f0 A U H) ∧ (∃ t : Nat, va_Z RX0 "RULE_LEAST" "[I" (.ref t) A U H ∧ va_T .int t 3 sx_f1 A U H) ∧ (∃ t : Nat, va_Z RX0 "RULE_MOST" "[I" (.ref t) A U H ∧ va_T .int t 3 sx_f2 A U H)
theorem SX.moved {A : Nat → Prop} {u U : State} {H : Heap} (hvm : u.vm.Alike U.vm) (h : SX A u H) : SX A U H := by
  obtain ⟨⟨t0, a0, b0⟩, ⟨t1, a1, b1⟩, ⟨t2, a2, b2⟩⟩ := h
  exact ⟨⟨t0, a0.moved hvm, b0.moved hvm⟩, ⟨t1, a1.moved hvm, b1.moved hvm⟩, ⟨t2, a2.moved hvm, b2.moved hvm⟩⟩
theorem SX.kept {A : Nat → Prop} {U : State} {H H1 : Heap} (h : SX A U H) (hq : ∀ a : Nat, a < H.size → ¬ A a → H1[a]? = H[a]?) : SX A U H1 := by
  obtain ⟨⟨t0, a0, b0⟩, ⟨t1, a1, b1⟩, ⟨t2, a2, b2⟩⟩ := h
  exact ⟨⟨t0, a0.kept hq, b0.kept hq⟩, ⟨t1, a1.kept hq, b1.kept hq⟩, ⟨t2, a2.kept hq, b2.kept hq⟩⟩
theorem SX.narrow {A B : Nat → Prop} {U : State} {H : Heap} (h : SX A U H) (hAB : ∀ q, B q → A q) : SX B U H := by
  obtain ⟨⟨t0, a0, b0⟩, ⟨t1, a1, b1⟩, ⟨t2, a2, b2⟩⟩ := h
  exact ⟨⟨t0, a0.narrow hAB, b0.narrow hAB⟩, ⟨t1, a1.narrow hAB, b1.narrow hAB⟩, ⟨t2, a2.narrow hAB, b2.narrow hAB⟩⟩
/-- a contract of a method that makes nothing: an int comes back (a boolean is one) -/
def CPre (D : va_G) (cc : Nat → ClassId) (n : Nat) (ad : Nat → Nat) (ws : va_W) (av : List Value) (sz : Nat) : Array Value → State → Prop := va_Pc av (fun U => U.heap.size = sz ∧ va_P D vwCl ws U.heap ∧ va_K D vwCl (TY cc) U ∧ SX (AA n ad sz) U U.heap)
def Ctr (l : Launch) (y : MethodName) (wy : List Cond) (rm : Room) (D : va_G) (cc : Nat → ClassId) {S : Type} (Wd : S → va_W) (n : Nat) (ad : Nat → Nat) (σ : S) (av : List Value) (Post : Int32 → S → Prop) : Prop :=
  ∀ sz : Nat, Met l y wy rm (CPre D cc n ad (Wd σ) av sz) (va_Qi Post (fun u t => va_P D vwCl (Wd u) t.heap) (AA n ad sz)) 0 0 (AA n ad sz)
def Ctv (l : Launch) (y : MethodName) (wy : List Cond) (rm : Room) (D : va_G) (cc : Nat → ClassId) {S : Type} (Wd : S → va_W) (n : Nat) (ad : Nat → Nat) (σ : S) (av : List Value) (Post : Int32 → S → Prop) : Prop :=
  ∀ sz : Nat, Met l y wy rm (CPre D cc n ad (Wd σ) av sz) (va_Qv (Post 0) (fun u t => va_P D vwCl (Wd u) t.heap) (AA n ad sz)) 0 0 (AA n ad sz)
/-- what a walk knows of its method -/
def Cx (p : Program) (s : State) (m : MethodId) (args : Array Value) (meth : Method) (c : Code) (cod : ByteArray) (nl : Nat) (rt : Option FieldType) (own : String) (Ts : List Cond) (D : va_G) (cc : Nat → ClassId) (A : Nat → Prop) : Prop :=
  p.tables.exec = Jvm.exec ∧ c.code = cod ∧ c.maxLocals = nl ∧ meth.sig.returnType = rt ∧ s.vm.findClass own = some m.cls ∧ (∀ w ∈ Ts, w.before args s = true) ∧ meth.locks = false ∧ va_K D vwCl (TY cc) s ∧ (∀ q, s.heap.size ≤ q → A q) ∧ SX A s s.heap
/-- a stand of a walk: from any heap that holds the world -/
def At_ (p : Program) (l : Launch) (e : Env) (R : Room) (s : State) (m : MethodId) (args : Array Value) (below : List Frame) (meth : Method) (c : Code) (Q : State → Prop) (D : va_G) (A : Nat → Prop) (ws : va_W) (nl pc : Nat) (lv : List (Nat × Value)) (st : List Value) : Prop :=
  ∀ (H : Heap) (locs : List Loc) (ls : Array Slot), va_P D vwCl ws H → va_S A s.heap H locs → lv_has ls nl lv → W p l e R s m args below meth c H locs 0 0 Q (F0 m pc ls st)
abbrev Qi_ {S : Type} (below : List Frame) (D : va_G) (Wd : S → va_W) (A : Nat → Prop) (args : Array Value) (s : State) (Post : Int32 → S → Prop) : State → Prop := MQ below (va_Qi Post (fun u t => va_P D vwCl (Wd u) t.heap) A) args s 0 0 A
abbrev Qv_ {S : Type} (below : List Frame) (D : va_G) (Wd : S → va_W) (A : Nat → Prop) (args : Array Value) (s : State) (Post : Int32 → S → Prop) : State → Prop := MQ below (va_Qv (Post 0) (fun u t => va_P D vwCl (Wd u) t.heap) A) args s 0 0 A
theorem ctr_i {l : Launch} {y : MethodName} {wy ws' : List Cond} {rm : Room} {D : va_G} {cc : Nat → ClassId} {S : Type} {Wd : S → va_W} {n : Nat} {ad : Nat → Nat} {σ : S} {av : List Value} {Post : Int32 → S → Prop} {cod : ByteArray} {nl : Nat} {rt : Option FieldType} (hy : plainName y.cls = true) (hw : wy = Cond.code y cod nl rt :: ws') (hd : DA n ad (fun _ => True)) (hlen : (lg_sl av).length ≤ nl)
    (body : ∀ (p : Program) (e : Env) (s : State) (m : MethodId) (below : List Frame) (meth : Method) (c : Code) (A : Nat → Prop), Cx p s m av.toArray meth c cod nl rt y.cls wy D cc A → DA n ad A → At_ p l e rm s m av.toArray below meth c (Qi_ below D Wd A av.toArray s Post) D A (Wd σ) nl 0 (lv_args 0 av) []) : Ctr l y wy rm D cc Wd n ad σ av Post := by
  intro sz
  refine Met.ofW (cc := cod) (maxL := nl) (ret := rt) hy hw ?_
  intro p e s m args below meth c s₁ B hml hv
  obtain ⟨rfl, hsz, hP, hK, hX⟩ := hv
  subst hsz
  rw [lg_entry_eq]
  exact body p e s m below meth c (AA n ad s.heap.size) ⟨B.exec, B.bytes, hml, B.returns, findClass_of_methodNamed B.named, atoms_spec (ws := wy) B.pre, B.notSynchronized, hK, fun q h => Or.inr h, hX⟩ ⟨hd.1, fun i hi => Or.inl ⟨i, hi, rfl⟩⟩ s.heap [] _ hP va_S.rf (lv_entry av hlen)
theorem ctr_j {l : Launch} {y : MethodName} {wy ws' : List Cond} {rm : Room} {D : va_G} {cc : Nat → ClassId} {S : Type} {Wd : S → va_W} {n : Nat} {ad : Nat → Nat} {σ : S} {av : List Value} {Post : Int32 → S → Prop} {cod : ByteArray} {nl : Nat} {rt : Option FieldType} (hy : plainFor y = true) (hw : wy = Cond.code y cod nl rt :: ws') (hd : DA n ad (fun _ => True)) (hlen : (lg_sl av).length ≤ nl)
    (body : ∀ (p : Program) (e : Env) (s : State) (m : MethodId) (below : List Frame) (meth : Method) (c : Code) (A : Nat → Prop), Cx p s m av.toArray meth c cod nl rt y.cls wy D cc A → DA n ad A → At_ p l e rm s m av.toArray below meth c (Qi_ below D Wd A av.toArray s Post) D A (Wd σ) nl 0 (lv_args 0 av) []) : Ctr l y wy rm D cc Wd n ad σ av Post := by
  intro sz
  refine va_MetF (cc := cod) (maxL := nl) (ret := rt) hy hw ?_
  intro p e s m args below meth c s₁ B hml hv
  obtain ⟨rfl, hsz, hP, hK, hX⟩ := hv
  subst hsz
  rw [lg_entry_eq]
  exact body p e s m below meth c (AA n ad s.heap.size) ⟨B.exec, B.bytes, hml, B.returns, findClass_of_methodNamed B.named, atoms_spec (ws := wy) B.pre, B.notSynchronized, hK, fun q h => Or.inr h, hX⟩ ⟨hd.1, fun i hi => Or.inl ⟨i, hi, rfl⟩⟩ s.heap [] _ hP va_S.rf (lv_entry av hlen)
theorem ctr_v {l : Launch} {y : MethodName} {wy ws' : List Cond} {rm : Room} {D : va_G} {cc : Nat → ClassId} {S : Type} {Wd : S → va_W} {n : Nat} {ad : Nat → Nat} {σ : S} {av : List Value} {Post : Int32 → S → Prop} {cod : ByteArray} {nl : Nat} {rt : Option FieldType} (hy : plainName y.cls = true) (hw : wy = Cond.code y cod nl rt :: ws') (hd : DA n ad (fun _ => True)) (hlen : (lg_sl av).length ≤ nl)
    (body : ∀ (p : Program) (e : Env) (s : State) (m : MethodId) (below : List Frame) (meth : Method) (c : Code) (A : Nat → Prop), Cx p s m av.toArray meth c cod nl rt y.cls wy D cc A → DA n ad A → At_ p l e rm s m av.toArray below meth c (Qv_ below D Wd A av.toArray s Post) D A (Wd σ) nl 0 (lv_args 0 av) []) : Ctv l y wy rm D cc Wd n ad σ av Post := by
  intro sz
  refine Met.ofW (cc := cod) (maxL := nl) (ret := rt) hy hw ?_
  intro p e s m args below meth c s₁ B hml hv
  obtain ⟨rfl, hsz, hP, hK, hX⟩ := hv
  subst hsz
  rw [lg_entry_eq]
  exact body p e s m below meth c (AA n ad s.heap.size) ⟨B.exec, B.bytes, hml, B.returns, findClass_of_methodNamed B.named, atoms_spec (ws := wy) B.pre, B.notSynchronized, hK, fun q h => Or.inr h, hX⟩ ⟨hd.1, fun i hi => Or.inl ⟨i, hi, rfl⟩⟩ s.heap [] _ hP va_S.rf (lv_entry av hlen)
section RET
variable {p : Program} {l : Launch} {e : Env} {R : Room} {s : State} {m : MethodId} {args : Array Value} {below : List Frame} {meth : Method} {c : Code} {cod : ByteArray} {nl : Nat} {own : String} {Ts : List Cond} {D : va_G} {cc : Nat → ClassId} {A : Nat → Prop} {H : Heap} {locs : List Loc} {pc : Nat} {ls : Array Slot} {S : Type} {Wd : S → va_W} {Post : Int32 → S → Prop} {u : S} {v : Int32}
theorem ret_i (C0 : Cx p s m args meth c cod nl (some .int) own Ts D cc A) (hp : Post v u) (hP : va_P D vwCl (Wd u) H) (hS : va_S A s.heap H locs) (hdg : decode cod pc = .ok (.ireturn, 1)) : W p l e R s m args below meth c H locs 0 0 (Qi_ below D Wd A args s Post) (F0 m pc ls [.int v]) := by
  obtain ⟨hx, hb, hml, hr, hown, hts, hlocks, hK, hA, hX⟩ := C0
  exact W.iret (v := v) hx hb hr (fun t ht hW => ⟨⟨v, u, rfl, hp, by show va_P D vwCl (Wd u) t.heap; rw [ht]; exact hP⟩, hS.F ht⟩) hS.2.2 hdg
theorem ret_z (C0 : Cx p s m args meth c cod nl (some .boolean) own Ts D cc A) (hn : narrow .boolean (.int v) = .int v) (hp : Post v u) (hP : va_P D vwCl (Wd u) H) (hS : va_S A s.heap H locs) (hdg : decode cod pc = .ok (.ireturn, 1)) : W p l e R s m args below meth c H locs 0 0 (Qi_ below D Wd A args s Post) (F0 m pc ls [.int v]) := by
  obtain ⟨hx, hb, hml, hr, hown, hts, hlocks, hK, hA, hX⟩ := C0
  exact W.zret (v := v) (ty := .boolean) hx hb hr hn (fun t ht hW => ⟨⟨v, u, rfl, hp, by show va_P D vwCl (Wd u) t.heap; rw [ht]; exact hP⟩, hS.F ht⟩) hS.2.2 hdg
theorem ret_v (C0 : Cx p s m args meth c cod nl none own Ts D cc A) (hp : Post 0 u) (hP : va_P D vwCl (Wd u) H) (hS : va_S A s.heap H locs) (hdg : decode cod pc = .ok (.return_, 1)) : W p l e R s m args below meth c H locs 0 0 (Qv_ below D Wd A args s Post) (F0 m pc ls []) := by
  obtain ⟨hx, hb, hml, hr, hown, hts, hlocks, hK, hA, hX⟩ := C0
  exact W.vret hx hb hr (fun t ht hW => ⟨⟨u, rfl, hp, by show va_P D vwCl (Wd u) t.heap; rw [ht]; exact hP⟩, hS.F ht⟩) hS.2.2 hdg
end RET
/-- how a callee's world lies in the caller's -/
def Lens (D : va_G) {S Sc : Type} (Wd : S → va_W) (n : Nat) (ad : Nat → Nat) (σ : S) (Wc : Sc → va_W) (nc : Nat) (adc : Nat → Nat) (γ : Sc) (put : Sc → S) : Prop :=
  (∀ H : Heap, va_P D vwCl (Wd σ) H → va_P D vwCl (Wc γ) H) ∧ (∀ i, i < nc → ∃ i', i' < n ∧ adc i = ad i') ∧ (∀ (u : Sc) (H H1 : Heap), va_P D vwCl (Wd σ) H → DA n ad (fun _ => True) → (∀ q : Nat, q < H.size → ¬ AA nc adc H.size q → H1[q]? = H[q]?) → va_P D vwCl (Wc u) H1 → va_P D vwCl (Wd (put u)) H1)
theorem lens_id {D : va_G} {S : Type} {Wd : S → va_W} {n : Nat} {ad : Nat → Nat} {σ : S} : Lens D Wd n ad σ Wd n ad σ (fun u => u) := ⟨fun _ h => h, fun i hi => ⟨i, hi, rfl⟩, fun _ _ _ _ _ _ h => h⟩
theorem lens_un {D : va_G} {S : Type} {Wd : S → va_W} {n : Nat} {ad adc : Nat → Nat} {σ : S} : Lens D Wd n ad σ (fun _ : Unit => ([] : va_W)) 0 adc () (fun _ => σ) := by
  refine ⟨fun H _ k q h => by simp at h, fun i hi => absurd hi (Nat.not_lt_zero i), fun u H H1 hP _ hk _ => hP.kept (fun k q hq => hk q.1 ((hP k q hq).lt) ?_)⟩
  rintro (⟨i, hi, -⟩ | h)
  · exact Nat.not_lt_zero i hi
  · have := (hP k q hq).lt
    omega
theorem xw_mem {cc : Nat → ClassId} {ad : Nat → Nat} {s : XS} {q : Nat × va_E} : q ∈ XW cc ad s ↔ q ∈ XB cc ad s ∨ ∃ j, j < 8 ∧ q ∈ KW cc (ka ad j) (xs_ki s j) := by
  unfold XW
  rw [List.mem_append, List.mem_flatMap]
  simp only [List.mem_range]
theorem xb_ad {cc : Nat → ClassId} {ad : Nat → Nat} {s : XS} {q : Nat × va_E} (h : q ∈ XB cc ad s) : ∃ i, i < 5 ∧ q.1 = ad i := by
  unfold XB at h
  simp only [List.mem_cons, List.not_mem_nil, or_false] at h
  rcases h with rfl | rfl | rfl | rfl | rfl
  · exact ⟨0, by decide, rfl⟩
  · exact ⟨1, by decide, rfl⟩
  · exact ⟨2, by decide, rfl⟩
  · exact ⟨3, by decide, rfl⟩
  · exact ⟨4, by decide, rfl⟩
theorem kw_ad {cc : Nat → ClassId} {a : Nat → Nat} {s : KS} {q : Nat × va_E} (h : q ∈ KW cc a s) : ∃ i, i < 5 ∧ q.1 = a i := by
  unfold KW at h
  simp only [List.mem_cons, List.not_mem_nil, or_false] at h
  rcases h with rfl | rfl | rfl | rfl | rfl
  · exact ⟨0, by decide, rfl⟩
  · exact ⟨1, by decide, rfl⟩
  · exact ⟨2, by decide, rfl⟩
  · exact ⟨3, by decide, rfl⟩
  · exact ⟨4, by decide, rfl⟩
theorem xb_sk {cc : Nat → ClassId} {ad : Nat → Nat} {s : XS} {j : Nat} {u : KS} : XB cc ad (xs_sk s j u) = XB cc ad s := rfl
theorem lens_k {D : va_G} {cc : Nat → ClassId} {ad : Nat → Nat} {σ : XS} {j : Nat} (hj : j < 8) : Lens D (XW cc ad) 45 ad σ (KW cc (ka ad j)) 5 (ka ad j) (xs_ki σ j) (fun u => xs_sk σ j u) := by
  refine ⟨fun H hP => ?_, fun i hi => ⟨5 + 5 * j + i, by omega, rfl⟩, fun u H H1 hP hd hk hu => ?_⟩
  · rw [vaP_mem] at hP ⊢
    exact fun q hq => hP q (xw_mem.mpr (Or.inr ⟨j, hj, hq⟩))
  · rw [vaP_mem] at hP hu ⊢
    have keep : ∀ (q : Nat × va_E) (i : Nat), va_at D vwCl q H → q.1 = ad i → i < 45 → (i < 5 + 5 * j ∨ 5 + 5 * j + 5 ≤ i) → va_at D vwCl q H1 := by
      intro q i hq hi hi45 hout
      refine hq.kept (hk q.1 hq.lt ?_)
      rintro (⟨i2, h2, h3⟩ | h)
      · have h4 : ad i = ad (5 + 5 * j + i2) := by rw [← hi, h3]; rfl
        have h5 := hd.1 i (5 + 5 * j + i2) hi45 (by omega) h4
        omega
      · have := hq.lt
        omega
    intro q hq
    rcases xw_mem.mp hq with h | ⟨j2, hj2, h⟩
    · rw [xb_sk] at h
      obtain ⟨i, hi, hi2⟩ := xb_ad h
      exact keep q i (hP q (xw_mem.mpr (Or.inl h))) hi2 (by omega) (by omega)
    · by_cases hjj : j2 = j
      · subst hjj
        have e1 : xs_ki (xs_sk σ j2 u) j2 = u := va_up_self _ _ _
        rw [e1] at h
        exact hu q h
      · have e1 : xs_ki (xs_sk σ j u) j2 = xs_ki σ j2 := va_up_ne _ _ hjj
        rw [e1] at h
        obtain ⟨i, hi, hi2⟩ := kw_ad h
        exact keep q (5 + 5 * j2 + i) (hP q (xw_mem.mpr (Or.inr ⟨j2, hj2, h⟩))) hi2 (by omega) (by omega)
theorem xs_self {s : XS} {j : Nat} : xs_sk s j (xs_ki s j) = s := by
  have h : va_up (xs_ki s) j (xs_ki s j) = xs_ki s := by
    funext q
    by_cases hq : q = j
    · subst hq; exact va_up_self _ _ _
    · exact va_up_ne _ _ hq
  show xs_s_ki s (va_up (xs_ki s) j (xs_ki s j)) = s
  rw [h]
theorem vin_lt {i : Int32} {n : Nat} (h : vp_in i n) : i.toNatClampNeg < n := Nat.not_le.mp fun q => h (Or.inr q)
section CALL
variable {p : Program} {l : Launch} {e : Env} {R : Room} {s : State} {m : MethodId} {args : Array Value} {below : List Frame} {meth : Method} {c : Code} {cod : ByteArray} {nl : Nat} {rt : Option FieldType} {own : String} {Ts : List Cond} {D : va_G} {cc : Nat → ClassId} {A : Nat → Prop} {H : Heap} {locs : List Loc} {pc : Nat} {ls : Array Slot} {Q : State → Prop}
variable {S Sc : Type} {Wd : S → va_W} {Wc : Sc → va_W} {n nc : Nat} {ad adc : Nat → Nat} {σ : S} {γ : Sc} {put : Sc → S} {y : MethodName} {wy : List Cond} {rm : Room} {b : Nat} {As rest st0 : List Value} {Post : Int32 → Sc → Prop} {Cn : String} {index : Nat} {bytes : ByteArray} {maxL nn : Nat} {ret : Option FieldType}
theorem cpre_blind {av : List Value} {ws : va_W} {sz : Nat} : FrameBlind (CPre D cc n ad ws av sz) := by
  intro a U g mk q
  obtain ⟨q0, q1, qP, qK, qX⟩ := q
  exact ⟨q0, q1, qP, va_K.moved (u := U) (U := U.calling g mk a) (Vm.Alike.refl U.vm) qK, SX.moved (u := U) (U := U.calling g mk a) (Vm.Alike.refl U.vm) qX⟩
theorem lens_free (L : Lens D Wd n ad σ Wc nc adc γ put) (hd : DA n ad A) (hA : ∀ q, s.heap.size ≤ q → A q) (hS : va_S A s.heap H locs) : ∀ q, AA nc adc H.size q → A q := by
  rintro q (⟨i, hi, rfl⟩ | h)
  · obtain ⟨i', h1, h2⟩ := L.2.1 i hi
    rw [h2]
    exact hd.2 i' h1
  · exact hA q (Nat.le_trans hS.1 h)
theorem cpre_at (L : Lens D Wd n ad σ Wc nc adc γ put) (hd : DA n ad A) (hA : ∀ q, s.heap.size ≤ q → A q) (hK : va_K D vwCl (TY cc) s) (hX : SX A s s.heap) (hP : va_P D vwCl (Wd σ) H) (hS : va_S A s.heap H locs) {av : List Value} {U : State} (hU : U.heap = H) (hW : s.WarmedH U.vm) : CPre D cc nc adc (Wc γ) av H.size av.toArray U := by
  refine ⟨rfl, by rw [hU], by rw [hU]; exact L.1 H hP, va_K.moved hW.alike hK, ?_⟩
  rw [hU]
  exact ((hX.kept hS.2.1).narrow (lens_free L hd hA hS)).moved hW.alike
theorem call_v (C0 : Cx p s m args meth c cod nl rt own Ts D cc A) (hd : DA n ad A) (L : Lens D Wd n ad σ Wc nc adc γ put) (hC : Ctr l y wy rm D cc Wc nc adc γ (.ref b :: As) Post) (cw : CallW R s args own Cn index y bytes maxL ret wy rm 0 0 nn) (hrecv : ∃ cellB : Cell, H[b]? = some cellB ∧ cellB.vm.isStatics = false ∧ s.vm.findClass Cn = some cellB.cls) (hP : va_P D vwCl (Wd σ) H) (hS : va_S A s.heap H locs) (hn : As.length = nn) (hl : ls.size = nl) (hst : st0 = As.reverse ++ .ref b :: rest) (hW : (rest.map fun v => v.category).sum ≤ 8) (hdg : decode cod pc = .ok (.invokevirtual index, 3))
    (kk : ∀ (r : Int32) (u : Sc), Post r u → ∀ (H1 : Heap) (locs1 : List Loc), va_P D vwCl (Wd (put u)) H1 → va_S A s.heap H1 locs1 → W p l e R s m args below meth c H1 locs1 0 0 Q (F0 m (pc + 3) ls (.int r :: rest))) : W p l e R s m args below meth c H locs 0 0 Q (F0 m pc ls st0) := by
  obtain ⟨hx, hb, hml, hr, hown, hts, hlocks, hK, hA, hX⟩ := C0
  have hF := lens_free L hd hA hS
  exact va_calli (va_runV (As := As) (rest := rest) ⟨hx, hb, hml, hown, hts⟩ (hC H.size) cw ⟨cpre_blind, hrecv, fun U hU hW => cpre_at L hd hA hK hX hP hS hU hW⟩ rfl hn hl hst (lv_room hW) hdg ⟨Nat.zero_le _, Nat.zero_le _⟩) hS (fun q _ h => hF q h) hF (fun r u t H1 locs1 ht hvm hp hB hz1 hk1 hS1 => kk r u hp H1 locs1 (L.2.2 u H H1 hP ⟨hd.1, fun _ _ => trivial⟩ hk1 (by rw [← ht]; exact hB)) hS1)
theorem call_vv (C0 : Cx p s m args meth c cod nl rt own Ts D cc A) (hd : DA n ad A) (L : Lens D Wd n ad σ Wc nc adc γ put) (hC : Ctv l y wy rm D cc Wc nc adc γ (.ref b :: As) Post) (cw : CallW R s args own Cn index y bytes maxL ret wy rm 0 0 nn) (hrecv : ∃ cellB : Cell, H[b]? = some cellB ∧ cellB.vm.isStatics = false ∧ s.vm.findClass Cn = some cellB.cls) (hP : va_P D vwCl (Wd σ) H) (hS : va_S A s.heap H locs) (hn : As.length = nn) (hl : ls.size = nl) (hst : st0 = As.reverse ++ .ref b :: rest) (hW : (rest.map fun v => v.category).sum ≤ 8) (hdg : decode cod pc = .ok (.invokevirtual index, 3))
    (kk : ∀ (u : Sc), Post 0 u → ∀ (H1 : Heap) (locs1 : List Loc), va_P D vwCl (Wd (put u)) H1 → va_S A s.heap H1 locs1 → W p l e R s m args below meth c H1 locs1 0 0 Q (F0 m (pc + 3) ls rest)) : W p l e R s m args below meth c H locs 0 0 Q (F0 m pc ls st0) := by
  obtain ⟨hx, hb, hml, hr, hown, hts, hlocks, hK, hA, hX⟩ := C0
  have hF := lens_free L hd hA hS
  exact va_callv (va_runV (As := As) (rest := rest) ⟨hx, hb, hml, hown, hts⟩ (hC H.size) cw ⟨cpre_blind, hrecv, fun U hU hW => cpre_at L hd hA hK hX hP hS hU hW⟩ rfl hn hl hst (lv_room hW) hdg ⟨Nat.zero_le _, Nat.zero_le _⟩) hS (fun q _ h => hF q h) hF (fun u t H1 locs1 ht hvm hp hB hz1 hk1 hS1 => kk u hp H1 locs1 (L.2.2 u H H1 hP ⟨hd.1, fun _ _ => trivial⟩ hk1 (by rw [← ht]; exact hB)) hS1)
theorem call_s (C0 : Cx p s m args meth c cod nl rt own Ts D cc A) (hd : DA n ad A) (L : Lens D Wd n ad σ Wc nc adc γ put) (hC : Ctr l y wy rm D cc Wc nc adc γ As Post) (cw : CallB R s args own index y bytes maxL ret wy rm 0 0 nn ∧ (Cond.static y).before args s = true) (hP : va_P D vwCl (Wd σ) H) (hS : va_S A s.heap H locs) (hn : As.length = nn) (hl : ls.size = nl) (hst : st0 = As.reverse ++ rest) (hW : (rest.map fun v => v.category).sum ≤ 8) (hdg : decode cod pc = .ok (.invokestatic index, 3))
    (kk : ∀ (r : Int32) (u : Sc), Post r u → ∀ (H1 : Heap) (locs1 : List Loc), va_P D vwCl (Wd (put u)) H1 → va_S A s.heap H1 locs1 → W p l e R s m args below meth c H1 locs1 0 0 Q (F0 m (pc + 3) ls (.int r :: rest))) : W p l e R s m args below meth c H locs 0 0 Q (F0 m pc ls st0) := by
  obtain ⟨hx, hb, hml, hr, hown, hts, hlocks, hK, hA, hX⟩ := C0
  have hF := lens_free L hd hA hS
  exact va_calli (va_runS (As := As) (rest := rest) ⟨hx, hb, hml, hown, hts⟩ (hC H.size) cw ⟨cpre_blind, fun U hU hW => cpre_at L hd hA hK hX hP hS hU hW⟩ rfl hn hl hst (lv_room hW) hdg ⟨Nat.zero_le _, Nat.zero_le _⟩) hS (fun q _ h => hF q h) hF (fun r u t H1 locs1 ht hvm hp hB hz1 hk1 hS1 => kk r u hp H1 locs1 (L.2.2 u H H1 hP ⟨hd.1, fun _ _ => trivial⟩ hk1 (by rw [← ht]; exact hB)) hS1)
/-- a kind out of the row of kinds -/
theorem ld_kind (C0 : Cx p s m args meth c cod nl rt own Ts D cc A) {σ : XS} (hP : va_P D vwCl (XW cc ad σ) H) {i : Int32} (hin : vp_in i 8) (hdg : decode cod pc = .ok (.aaload, 1))
    (kk : W p l e R s m args below meth c H locs 0 0 Q (F0 m (pc + 1) ls (.ref (ka ad i.toNatClampNeg 0) :: rest))) : W p l e R s m args below meth c H locs 0 0 Q (F0 m pc ls (.int i :: .ref (ad 1) :: rest)) := by
  obtain ⟨hx, hb, hml, hr, hown, hts, hlocks, hK, hA, hX⟩ := C0
  exact va_aldq (D := D) (C := RX0) hx hb hK hP 1 1 (cA := cc 1) (n := 8) (f := fun j => some (ka ad j 0)) rfl rfl hin hdg kk
end CALL
/-- a loop: a body over the ring of its own next stands -/
def lpX {α : Type} (F : (α → Prop) → α → Prop) : Nat → α → Prop
  | 0 => fun _ => False
  | n + 1 => F (lpX F n)
def LPX {α : Type} (F : (α → Prop) → α → Prop) (a : α) : Prop := ∃ n, lpX F n a
theorem lp_at {α : Type} {F : (α → Prop) → α → Prop} {Wt : α → Prop} (h : ∀ K : α → Prop, (∀ a, K a → Wt a) → ∀ a, F K a → Wt a) {a : α} (hl : LPX F a) : Wt a := by
  obtain ⟨n, hn⟩ := hl
  have key : ∀ n a, lpX F n a → Wt a := by
    intro n
    induction n with
    | zero => intro a h; exact h.elim
    | succ n ih => intro a h2; exact h (lpX F n) ih a h2
  exact key n a hn
theorem lp_rule {α : Type} {F : (α → Prop) → α → Prop} (I : α → Prop) (μ : α → Nat) (h : ∀ (K : α → Prop) (a : α), I a → (∀ b, I b → μ b < μ a → K b) → F K a) {a : α} (ha : I a) : LPX F a := by
  have key : ∀ n a, I a → μ a < n → lpX F n a := by
    intro n
    induction n with
    | zero => intro a _ h; exact absurd h (Nat.not_lt_zero _)
    | succ n ih => intro a h1 h2; exact h (lpX F n) a h1 (fun b hb hlt => ih b hb (by omega))
  exact ⟨μ a + 1, key _ a ha (Nat.lt_succ_self _)⟩
theorem da0 {ad : Nat → Nat} : DA 0 ad (fun _ => True) := ⟨fun i _ h => absurd h (Nat.not_lt_zero i), fun _ _ => trivial⟩
theorem da_ka {ad : Nat → Nat} {A : Nat → Prop} {j : Nat} (hd : DA 45 ad A) (hj : j < 8) : DA 5 (ka ad j) (fun _ => True) := by
  refine ⟨fun i i2 h h2 e => ?_, fun _ _ => trivial⟩
  have := hd.1 (5 + 5 * j + i) (5 + 5 * j + i2) (by omega) (by omega) e
  omega
end
section
/-! the core state: scalars (0 kinds, 1 places, 2 lines, 3 rows, 4 columns, 5 base, 6 right, 7 wrong), the kinds' numbers, the plan, what was missed -/
abbrev CS : Type := (Nat → Nat) × (Nat → Nat → Nat) × (Nat → Nat) × (Nat → Nat)
abbrev c_nk (C : CS) : Nat := C.1 0
abbrev c_np (C : CS) : Nat := C.1 1
abbrev c_li (C : CS) : Nat := C.1 2
abbrev c_ro (C : CS) : Nat := C.1 3
abbrev c_co (C : CS) : Nat := C.1 4
abbrev c_ba (C : CS) : Nat := C.1 5
abbrev c_ri (C : CS) : Nat := C.1 6
abbrev c_wr (C : CS) : Nat := C.1 7
abbrev c_q (C : CS) : Nat → Nat → Nat := C.2.1
abbrev c_pn (C : CS) : Nat → Nat := C.2.2.1
abbrev c_mi (C : CS) : Nat → Nat := C.2.2.2
/-- a number of its function changed -/
def qup (q : Nat → Nat) (i v : Nat) : Nat → Nat := fun j => if j = i then v else q j
/-- how many of the first p places are of kind k -/
def ahd (C : CS) (k p : Nat) : Nat := fb_ct (fun i => decide (c_pn C i = k)) p
/-- a kind's numbers: 0 operation, 1 2 a, 3 4 b, 5 6 answers, 7 law, 8 lines, 9 begin, 10 places -/
def cq (C : CS) (j : Nat) : Nat → Nat := fun i => if i = 10 then ahd C j (c_np C) else c_q C j i
abbrev outN (k : Int32) (n : Nat) : Prop := k < 0 ∨ n ≤ k.toNatClampNeg
abbrev irm (x y : Int32) : Int32 := x - x / y * y
/-! sums: the answer, the carry, the slips -/
def ansF (op a b : Int32) : Int32 := if op = 0 then a + b else if op = 1 then (if a < b then -9 else a - b) else if op = 2 then a * b else if b = 0 then -9 else if irm a b = 0 then a / b else -9
def carF (op a b : Int32) : Int32 := if op = 0 then (if irm a 10 + irm b 10 < 10 then 0 else 1) else if op = 1 then (if irm b 10 ≤ irm a 10 then 0 else 1) else 0
def othF (op a b : Int32) : Int32 := if op = 1 then a + b else if op = 2 then a + b else if a < b then -9 else a - b
def absF (x : Int32) : Int32 := if 0 ≤ x then x else 0 - x
def wocF (op a b : Int32) : Int32 := if op = 0 then a + b - 10 else (a / 10 - b / 10) * 10 + absF (irm a 10 - irm b 10)
def excF (r : Int32) : Int32 := if r / 10 < 1 then -9 else if 9 < r / 10 then -9 else if r / 10 = irm r 10 then -9 else irm r 10 * 10 + r / 10
def slpF (op a b s : Int32) : Int32 := if s = 1 then othF op a b else if s = 2 then (if carF op a b = 0 then -9 else wocF op a b) else if s = 3 then ansF op a b + 1 else if s = 4 then (if ansF op a b ≤ 0 then -9 else ansF op a b - 1) else excF (ansF op a b)
def lwF (op law fr tr a b : Int32) : Int32 := if ansF op a b < fr then 0 else if ansF op a b ≤ tr then (if law = 1 then (if carF op a b = 0 then 1 else 0) else if law = 2 then carF op a b else if law = 3 then (if othF op a b = ansF op a b then 0 else 1) else 1) else 0
def tlF (op a b v : Int32) : Int32 := if v = ansF op a b then 0 else if v < 0 then -9 else if slpF op a b 1 = v then 1 else if slpF op a b 2 = v then 2 else if slpF op a b 3 = v then 3 else if slpF op a b 4 = v then 4 else if slpF op a b 5 = v then 5 else -9
/-! variants: n is 100 a + b -/
def PV (q : Nat → Nat) (n : Nat) : Bool := decide (q 1 ≤ n / 100 ∧ n / 100 ≤ q 2 ∧ q 3 ≤ n % 100 ∧ n % 100 ≤ q 4 ∧ lwF (nI (q 0)) (nI (q 7)) (nI (q 5)) (nI (q 6)) (nI (n / 100)) (nI (n % 100)) = 1)
def NV (q : Nat → Nat) : Nat := fb_ct (PV q) 10000
def kth (q : Nat → Nat) (i : Nat) : Nat := fa_first (fun n => PV q n && decide (fb_ct (PV q) n = i)) 10000
def ansV (q : Nat → Nat) (i : Nat) : Int32 := ansF (nI (q 0)) (nI (kth q i / 100)) (nI (kth q i % 100))
def fndV (q : Nat → Nat) (a b : Int32) : Int32 := if a < 0 ∨ 99 < a ∨ b < 0 ∨ 99 < b then -9 else if PV q (100 * a.toNatClampNeg + b.toNatClampNeg) = true then nI (fb_ct (PV q) (100 * a.toNatClampNeg + b.toNatClampNeg)) else -9
/-! what a Kind holds -/
def QOk (q : Nat → Nat) : Prop := q 0 < 4 ∧ q 1 ≤ q 2 ∧ q 2 ≤ 99 ∧ q 3 ≤ q 4 ∧ q 4 ≤ 99 ∧ q 5 ≤ q 6 ∧ q 6 ≤ 9999 ∧ q 7 < 4 ∧ 1 ≤ q 8 ∧ q 8 ≤ 9 ∧ q 9 ≤ 9999 ∧ q 10 ≤ 40
def KR0 (q : Nat → Nat) (κ : KS) : Prop := ks_op κ = nI (q 0) ∧ ks_le κ 0 = nI (q 1) ∧ ks_mo κ 0 = nI (q 2) ∧ ks_le κ 1 = nI (q 3) ∧ ks_mo κ 1 = nI (q 4) ∧ ks_le κ 2 = nI (q 5) ∧ ks_mo κ 2 = nI (q 6) ∧ ks_ru κ 0 = nI (q 7) ∧ ks_ru κ 1 = nI (q 8) ∧ ks_ru κ 2 = nI (q 9) ∧ ks_pl κ = nI (q 10)
def KRc (q : Nat → Nat) (κ : KS) : Prop := ks_co κ = nI (NV q) ∧ ∀ a, q 1 ≤ a → a ≤ q 2 → ks_be κ a = nI (fb_ct (PV q) (100 * a))
def KRR (q : Nat → Nat) (κ : KS) : Prop := KR0 q κ ∧ QOk q ∧ KRc q κ
/-! the static ones -/
def fn_X2_in (v lo hi : Int64) : Int32 := if v < lo then 0 else if hi < v then 0 else 1
def fn_X2_answerOf (op a b : Int32) : Int32 := ansF op a b
def fn_X2_carries (op a b : Int32) : Int32 := carF op a b
def fn_X2_slipOf (op a b s : Int32) : Int32 := if s = 1 then othF op a b else if s = 2 then (if carF op a b = 0 then -9 else if op = 0 then ansF op a b - 10 else 10 * (a / 10 - b / 10) + irm b 10 - irm a 10) else if s = 3 then ansF op a b + 1 else if s = 4 then (if ansF op a b ≤ 0 then -9 else ansF op a b - 1) else if ansF op a b < 10 then -9 else if 99 < ansF op a b then -9 else if ansF op a b / 10 = irm (ansF op a b) 10 then -9 else 10 * irm (ansF op a b) 10 + ansF op a b / 10
def fn_X2_noNumber (z : Int32) : Int32 := if z < 0 then 1 else if 9999 < z then 1 else 0
def fn_X1_isSheet (z : Int32) : Int32 := if z < 0 then 0 else if 9999 < z then 0 else 1
def fn_X0_exchanged (r : Int32) : Int32 := excF r
def fn_X0_isRange (w f t : Int32) : Int32 := if w < 0 then 0 else if 2 < w then 0 else if f < 0 then 0 else if t < f then 0 else if sx_v0 w.toNatClampNeg < t then 0 else 1
def fn_X0_isRule (w v : Int32) : Int32 := if w < 0 then 0 else if 2 < w then 0 else if v < sx_v1 w.toNatClampNeg then 0 else if sx_v2 w.toNatClampNeg < v then 0 else 1
def pr_J9_floorMod_7cf53 (x y : Int32) : Prop := ∃ a d : Nat, y = nI d ∧ 0 < d ∧ d < 2 ^ 30 ∧ a < 2 ^ 30 ∧ (x = nI a ∨ x = 0 - nI a)
def fn_J9_floorMod_7cf53 (x y : Int32) : Int32 := if 0 ≤ (x ^^^ y) then irm x y else if irm x y = 0 then irm x y else irm x y + y
/-! Kind -/
def fn_X0_size (κ : KS) : Int32 := ks_co κ
def fn_X0_linesTaken (κ : KS) : Int32 := ks_ru κ 1
def fn_X0_result (κ : KS) (a b : Int32) : Int32 := ansF (ks_op κ) a b
def fn_X0_carries (κ : KS) (a b : Int32) : Int32 := carF (ks_op κ) a b
def fn_X0_otherOperation (κ : KS) (a b : Int32) : Int32 := othF (ks_op κ) a b
def fn_X0_withoutCarrying (κ : KS) (a b : Int32) : Int32 := wocF (ks_op κ) a b
def fn_X0_slipped (κ : KS) (a b s : Int32) : Int32 := slpF (ks_op κ) a b s
def fn_X0_isLawful (κ : KS) (a b : Int32) : Int32 := lwF (ks_op κ) (ks_ru κ 0) (ks_le κ 2) (ks_mo κ 2) a b
def fn_X0_hasEnoughForTwo (κ : KS) : Int32 := if ks_co κ < 2 * ks_pl κ then 0 else 1
def fn_X0_variantFor (κ : KS) (z t : Int32) : Int32 := if ks_co κ ≤ 0 then -9 else irm (z * ks_pl κ + t + ks_ru κ 2) (ks_co κ)
def pr_X0_countBelow (q : Nat → Nat) (κ : KS) (a e : Int32) : Prop := KR0 q κ ∧ QOk q ∧ (∃ a' : Nat, a = nI a' ∧ q 1 ≤ a' ∧ a' ≤ q 2) ∧ ∃ e' : Nat, e = nI e' ∧ e' ≤ q 4 + 1
def fn_X0_countBelow (q : Nat → Nat) (κ : KS) (a e : Int32) : Int32 := nI (fb_ct (PV q) (100 * a.toNatClampNeg + e.toNatClampNeg) - fb_ct (PV q) (100 * a.toNatClampNeg))
def pr_X0_countAnew (q : Nat → Nat) (κ : KS) : Prop := KR0 q κ ∧ QOk q
def po_X0_countAnew (q : Nat → Nat) (κ : KS) (r : Int32) (u : KS) : Prop := KRR q u
def pr_X0_open (q : Nat → Nat) (κ : KS) (op : Int32) : Prop := KR0 q κ ∧ QOk q ∧ ∃ o : Nat, op = nI o ∧ o < 4
def po_X0_open (q : Nat → Nat) (κ : KS) (op : Int32) (r : Int32) (u : KS) : Prop := KRR (qup q 0 op.toNatClampNeg) u
def pr_X0_setRange (q : Nat → Nat) (κ : KS) (w f t : Int32) : Prop := KR0 q κ ∧ QOk q ∧ ∃ w' f' t' : Nat, w = nI w' ∧ f = nI f' ∧ t = nI t' ∧ w' < 3 ∧ f' ≤ t' ∧ t' ≤ (if w' = 2 then 9999 else 99)
def po_X0_setRange (q : Nat → Nat) (κ : KS) (w f t : Int32) (r : Int32) (u : KS) : Prop := KRR (qup (qup q (1 + 2 * w.toNatClampNeg) f.toNatClampNeg) (2 + 2 * w.toNatClampNeg) t.toNatClampNeg) u
def pr_X0_setRule (q : Nat → Nat) (κ : KS) (w v : Int32) : Prop := KRR q κ ∧ ∃ w' v' : Nat, w = nI w' ∧ v = nI v' ∧ w' < 3 ∧ (w' = 0 → v' < 4) ∧ (w' = 1 → 1 ≤ v' ∧ v' ≤ 9) ∧ (w' = 2 → v' ≤ 9999)
def po_X0_setRule (q : Nat → Nat) (κ : KS) (w v : Int32) (r : Int32) (u : KS) : Prop := r = nI (q (7 + w.toNatClampNeg)) ∧ KRR (qup q (7 + w.toNatClampNeg) v.toNatClampNeg) u
def pr_X0_pairAt (q : Nat → Nat) (κ : KS) (i : Int32) : Prop := KRR q κ ∧ ∃ i' : Nat, i = nI i' ∧ i' < NV q
def fn_X0_pairAt (q : Nat → Nat) (κ : KS) (i : Int32) : Int32 := nI (kth q i.toNatClampNeg)
def pr_X0_numberOf (q : Nat → Nat) (κ : KS) (a b : Int32) : Prop := KRR q κ
def fn_X0_numberOf (q : Nat → Nat) (κ : KS) (a b : Int32) : Int32 := fndV q a b
def pr_X0_slipBehind (q : Nat → Nat) (κ : KS) (i v : Int32) : Prop := KRR q κ ∧ ∃ i' : Nat, i = nI i' ∧ i' < NV q
def fn_X0_slipBehind (q : Nat → Nat) (κ : KS) (i v : Int32) : Int32 := tlF (nI (q 0)) (nI (kth q i.toNatClampNeg / 100)) (nI (kth q i.toNatClampNeg % 100)) v
def po_X0_addPlace (q : Nat → Nat) (κ : KS) (r : Int32) (u : KS) : Prop := r = ks_pl κ ∧ u = ks_s_pl κ (ks_pl κ + 1)
def po_X0_dropPlaces (q : Nat → Nat) (κ : KS) (r : Int32) (u : KS) : Prop := u = ks_s_pl κ 0
/-- places of sheet z whose variant sheet y has too, z - y being d -/
def comN (N m : Nat) (d : Int) : Nat := fb_ct (fun t => decide (((d * m) % N + t) % N < m)) m
def pr_X0_placesInCommon (q : Nat → Nat) (κ : KS) (z y : Int32) : Prop := KRR q κ ∧ ∃ z' y' : Nat, z = nI z' ∧ y = nI y' ∧ z' ≤ 9999 ∧ y' ≤ 9999
def fn_X0_placesInCommon (q : Nat → Nat) (κ : KS) (z y : Int32) : Int32 := if NV q = 0 then 0 else nI (comN (NV q) (q 10) ((z.toNatClampNeg : Int) - (y.toNatClampNeg : Int)))
/-! what a call does to the core -/
def nx_range (C : CS) (k w f t : Int32) : CS := (C.1, fun j => if j = k.toNatClampNeg then qup (qup (c_q C j) (1 + 2 * w.toNatClampNeg) f.toNatClampNeg) (2 + 2 * w.toNatClampNeg) t.toNatClampNeg else c_q C j, C.2.2)
def q00 : Nat → Nat := fun i => if i = 2 then 9 else if i = 4 then 9 else if i = 6 then 9999 else if i = 8 then 1 else 0
def sup (C : CS) (i v : Nat) : CS := (qup C.1 i v, C.2)
def nx_kind (C : CS) (op : Int32) : CS := (qup C.1 0 (c_nk C + 1), fun j => if j = c_nk C then qup (c_q C j) 0 op.toNatClampNeg else c_q C j, C.2.2)
def nx_rule (C : CS) (k w v : Int32) : CS := (C.1, fun j => if j = k.toNatClampNeg then qup (c_q C j) (7 + w.toNatClampNeg) v.toNatClampNeg else c_q C j, C.2.2)
def nx_plan (C : CS) (k n : Int32) : CS := (qup C.1 1 (c_np C + n.toNatClampNeg), C.2.1, fun p => if c_np C ≤ p then k.toNatClampNeg else c_pn C p, C.2.2.2)
def nx_clear (C : CS) : CS := sup C 1 0
def nx_seats (C : CS) (r c : Int32) : CS := (qup (qup C.1 3 r.toNatClampNeg) 4 c.toNatClampNeg, C.2.1, C.2.2.1, fun _ => 0)
/-! the core is one that calls can make -/
def COk (C : CS) : Prop := c_nk C ≤ 8 ∧ (∀ k, k < 8 → QOk (cq C k)) ∧ (∀ k, c_nk C ≤ k → c_q C k = q00) ∧ c_np C ≤ 40 ∧ (∀ p, p < c_np C → c_pn C p < c_nk C) ∧ 9 ≤ c_li C ∧ c_li C ≤ 99 ∧ 1 ≤ c_ro C ∧ c_ro C ≤ 8 ∧ 1 ≤ c_co C ∧ c_co C ≤ 8 ∧ c_ba C ≤ 9000 ∧ fb_sm (c_mi C) 512 ≤ c_wr C
def RX (C : CS) (σ : XS) : Prop := COk C ∧ xs_kc σ = nI (c_nk C) ∧ (∀ k, k < 8 → KR0 (cq C k) (xs_ki σ k)) ∧ (∀ k, k < c_nk C → KRc (cq C k) (xs_ki σ k)) ∧ xs_pc σ = nI (c_np C) ∧ (∀ p, p < c_np C → xs_pk σ p = nI (c_pn C p) ∧ xs_tu σ p = nI (ahd C (c_pn C p) p)) ∧ xs_li σ = nI (c_li C) ∧ xs_rc σ = nI (c_ro C) ∧ xs_cc σ = nI (c_co C) ∧ xs_bn σ = nI (c_ba C) ∧ (∀ i, i < 512 → xs_mi σ i = nI (c_mi C i)) ∧ xs_rm σ = nI (c_ri C) ∧ xs_wm σ = nI (c_wr C)
/-- what the model's rows of a kind hold -/
def MK (q : Nat → Nat) (k : Nat) (τ : MS) : Prop := ms_op τ k = nI (q 0) ∧ ms_fr τ (3 * k) = nI (q 1) ∧ ms_to τ (3 * k) = nI (q 2) ∧ ms_fr τ (3 * k + 1) = nI (q 3) ∧ ms_to τ (3 * k + 1) = nI (q 4) ∧ ms_fr τ (3 * k + 2) = nI (q 5) ∧ ms_to τ (3 * k + 2) = nI (q 6) ∧ ms_la τ k = nI (q 7) ∧ ms_ta τ k = nI (q 8) ∧ ms_be τ k = nI (q 9)
def told (τ : MS) (k : Nat) : Prop := ms_is τ k = 1
def MKc (q : Nat → Nat) (k : Nat) (τ : MS) : Prop := ms_ma τ k = nI (NV q) ∧ ∀ i, i < NV q → ms_pa τ (10000 * k + i) = nI (kth q i)
/-- unopened kinds: takes 0, the ends 0 (kind() writes them) -/
def MK0 (k : Nat) (τ : MS) : Prop := ms_fr τ (3 * k) = 0 ∧ ms_fr τ (3 * k + 1) = 0 ∧ ms_fr τ (3 * k + 2) = 0 ∧ ms_la τ k = 0 ∧ ms_be τ k = 0 ∧ ms_is τ k = 0
def RM (C : CS) (τ : MS) : Prop := COk C ∧ ms_ki τ = nI (c_nk C) ∧ (∀ k, k < c_nk C → MK (cq C k) k τ) ∧ (∀ k, k < 8 → ms_is τ k = 0 ∨ ms_is τ k = 1) ∧ (∀ k, k < c_nk C → told τ k → MKc (cq C k) k τ) ∧ (∀ k, c_nk C ≤ k → k < 8 → MK0 k τ) ∧ ms_pc τ = nI (c_np C) ∧ (∀ p, p < c_np C → ms_pn τ p = nI (c_pn C p)) ∧ ms_li τ = nI (c_li C) ∧ ms_ro τ = nI (c_ro C) ∧ ms_co τ = nI (c_co C) ∧ ms_ba τ = nI (c_ba C) ∧ (∀ i, i < 512 → ms_mi τ i = nI (c_mi C i)) ∧ ms_ri τ = nI (c_ri C) ∧ ms_wr τ = nI (c_wr C)
/-! the answers -/
def lackN (C : CS) : Nat := fb_ct (fun p => decide (NV (cq C (c_pn C p)) = 0)) (c_np C)
def vrN (C : CS) (z p : Nat) : Nat := (z * ahd C (c_pn C p) (c_np C) + ahd C (c_pn C p) p + c_q C (c_pn C p) 9) % NV (cq C (c_pn C p))
def ansA (C : CS) (z p : Nat) : Int32 := ansV (cq C (c_pn C p)) (vrN C z p)
def whS (C : CS) : Nat → Nat × Nat
  | 0 => (0, 0)
  | p + 1 => if c_li C < (whS C p).2 + c_q C (c_pn C p) 8 then ((whS C p).1 + 1, c_q C (c_pn C p) 8) else ((whS C p).1, (whS C p).2 + c_q C (c_pn C p) 8)
def whN (C : CS) (p : Nat) : Nat := 100 * (whS C (p + 1)).1 + ((whS C (p + 1)).2 - c_q C (c_pn C p) 8)
def cdS (C : CS) (z : Nat) : Nat → Int32
  | 0 => 0
  | p + 1 => cdS C z p + ansA C z p * (nI p + 1)
def shN (C : CS) (z y : Nat) : Nat := fb_ct (fun p => decide (0 < fb_ct (fun r => decide (c_pn C r = c_pn C p) && decide (vrN C y r = vrN C z p)) (c_np C))) (c_np C)
/-- enough of each kind for two sheets -/
def enN (C : CS) : Bool := decide (fb_ct (fun k => decide (NV (cq C k) < 2 * ahd C k (c_np C))) (c_nk C) = 0)
def seN (co r c : Nat) : Nat := r % 2 * min co 2 + c % 2
def noS (C : CS) (s : Int32) : Prop := s < 0 ∨ c_ro C ≤ s.toNatClampNeg / 10 ∨ c_co C ≤ s.toNatClampNeg % 10
abbrev sti (s : Int32) : Nat := 8 * (8 * (s.toNatClampNeg / 10) + s.toNatClampNeg % 10)
abbrev noSd (C : CS) (s : Int32) : Prop := s < 0 ∨ c_ro C ≤ s.toNatClampNeg / 10 ∨ c_co C ≤ s.toNatClampNeg % 10
def miA (C : CS) (s : Nat) : Nat := fb_sm (fun k => c_mi C (s + k)) 8
/-- places of a review of n that go to kind k -/
def rvN (f : Nat → Nat) (all n k : Nat) : Nat := n * f k / all + (if 0 < n * f k % all ∧ fb_ct (fun x => decide (n * f k % all < n * f x % all) || (decide (n * f x % all = n * f k % all) && decide (x < k))) 8 + fb_sm (fun x => n * f x / all) 8 < n then 1 else 0)
def sp_kind (C : CS) (op : Int32) : Int32 := if op < 0 ∨ 3 < op then -2 else if c_nk C = 8 then -4 else nI (c_nk C)
def st_kind (C : CS) (op : Int32) : CS := if op < 0 ∨ 3 < op then C else if c_nk C = 8 then C else nx_kind C op
abbrev badR (w f t : Int32) : Prop := w < 0 ∨ 2 < w ∨ f < 0 ∨ t < f ∨ (if w = 2 then 9999 else 99) < t
def sp_range (C : CS) (k w f t : Int32) : Int32 := if outN k (c_nk C) then -1 else if badR w f t then -2 else nI (NV (cq (nx_range C k w f t) k.toNatClampNeg))
def st_range (C : CS) (k w f t : Int32) : CS := if outN k (c_nk C) then C else if badR w f t then C else nx_range C k w f t
abbrev badL (w v : Int32) : Prop := ¬ ((w = 0 ∧ 0 ≤ v ∧ v ≤ 3) ∨ (w = 1 ∧ 1 ≤ v ∧ v ≤ 9) ∨ (w = 2 ∧ 0 ≤ v ∧ v ≤ 9999))
def sp_rule (C : CS) (k w v : Int32) : Int32 := if outN k (c_nk C) then -1 else if badL w v then -2 else nI (c_q C k.toNatClampNeg (7 + w.toNatClampNeg))
def st_rule (C : CS) (k w v : Int32) : CS := if outN k (c_nk C) then C else if badL w v then C else nx_rule C k w v
def sp_variants (C : CS) (k : Int32) : Int32 := if outN k (c_nk C) then -1 else nI (NV (cq C k.toNatClampNeg))
abbrev noV (C : CS) (k i : Int32) : Prop := outN k (c_nk C) ∨ outN i (NV (cq C k.toNatClampNeg))
abbrev va_a (C : CS) (k i : Int32) : Int32 := nI (kth (cq C k.toNatClampNeg) i.toNatClampNeg / 100)
abbrev va_b (C : CS) (k i : Int32) : Int32 := nI (kth (cq C k.toNatClampNeg) i.toNatClampNeg % 100)
abbrev op_k (C : CS) (k : Int32) : Int32 := nI (c_q C k.toNatClampNeg 0)
def sp_variant (C : CS) (k i w : Int32) : Int32 := if noV C k i then -1 else if w = 0 then va_a C k i else if w = 1 then va_b C k i else if w = 2 then ansF (op_k C k) (va_a C k i) (va_b C k i) else if w = 3 then carF (op_k C k) (va_a C k i) (va_b C k i) else -2
def sp_find (C : CS) (k a b : Int32) : Int32 := if outN k (c_nk C) then -1 else fndV (cq C k.toNatClampNeg) a b
def sp_slip (C : CS) (k i s : Int32) : Int32 := if noV C k i then -1 else if s < 1 ∨ 5 < s then -2 else slpF (op_k C k) (va_a C k i) (va_b C k i) s
def sp_tells (C : CS) (k i v : Int32) : Int32 := if noV C k i then -1 else tlF (op_k C k) (va_a C k i) (va_b C k i) v
def sp_plan (C : CS) (k n : Int32) : Int32 := if outN k (c_nk C) then -1 else if n < 1 ∨ 40 < n then -2 else if 40 < c_np C + n.toNatClampNeg then -4 else nI (c_np C + n.toNatClampNeg)
def st_plan (C : CS) (k n : Int32) : CS := if outN k (c_nk C) then C else if n < 1 ∨ 40 < n then C else if 40 < c_np C + n.toNatClampNeg then C else nx_plan C k n
def sp_clear (C : CS) : Int32 := nI (c_np C)
def sp_placed (C : CS) (p : Int32) : Int32 := if outN p (c_np C) then -1 else nI (c_pn C p.toNatClampNeg)
def sp_lines (C : CS) (n : Int32) : Int32 := if n < 9 ∨ 99 < n then -2 else nI (c_li C)
def st_lines (C : CS) (n : Int32) : CS := if n < 9 ∨ 99 < n then C else sup C 2 n.toNatClampNeg
def sp_pages (C : CS) : Int32 := if c_np C = 0 then 0 else nI (whN C (c_np C - 1) / 100 + 1)
def sp_page (C : CS) (p ln : Int32) : Int32 := if outN p (c_np C) then -1 else if ln = 0 then nI (whN C p.toNatClampNeg / 100) else nI (whN C p.toNatClampNeg % 100)
def sp_sheet (C : CS) (z p : Int32) : Int32 := if outN p (c_np C) then -1 else if z < 0 ∨ 9999 < z then -2 else if 0 < lackN C then -3 else nI (vrN C z.toNatClampNeg p.toNatClampNeg)
def sp_answer (C : CS) (z p : Int32) : Int32 := if outN p (c_np C) then -1 else if z < 0 ∨ 9999 < z then -2 else if 0 < lackN C then -3 else ansA C z.toNatClampNeg p.toNatClampNeg
def sp_code (C : CS) (z : Int32) : Int32 := if z < 0 ∨ 9999 < z then -2 else if 0 < lackN C then -3 else irm (cdS C z.toNatClampNeg (c_np C)) 97
def sp_shared (C : CS) (z y : Int32) : Int32 := if z < 0 ∨ 9999 < z ∨ y < 0 ∨ 9999 < y then -2 else if 0 < lackN C then -3 else nI (shN C z.toNatClampNeg y.toNatClampNeg)
def sp_apart (C : CS) (z : Int32) : Int32 := if z < 0 ∨ 9999 < z then -2 else if 0 < lackN C then -3 else if enN C = true ∧ z < 9999 then z + 1 else -9
abbrev badS (r c : Int32) : Prop := r < 1 ∨ 8 < r ∨ c < 1 ∨ 8 < c
def sp_seats (C : CS) (r c : Int32) : Int32 := if badS r c then -2 else nI (c_ro C * c_co C)
def st_seats (C : CS) (r c : Int32) : CS := if badS r c then C else nx_seats C r c
def sp_base (C : CS) (n : Int32) : Int32 := if n < 0 ∨ 9000 < n then -2 else nI (c_ba C)
def st_base (C : CS) (n : Int32) : CS := if n < 0 ∨ 9000 < n then C else sup C 5 n.toNatClampNeg
abbrev shS (C : CS) (s : Int32) : Nat := c_ba C + seN (c_co C) (s.toNatClampNeg / 10) (s.toNatClampNeg % 10)
def sp_seat (C : CS) (s : Int32) : Int32 := if noSd C s then -1 else nI (shS C s)
def sp_unlike (C : CS) : Int32 := nI (min (c_ro C) 2 * min (c_co C) 2)
abbrev mk_t (C : CS) (s p v : Int32) : Int32 := tlF (nI (c_q C (c_pn C p.toNatClampNeg) 0)) (nI (kth (cq C (c_pn C p.toNatClampNeg)) (vrN C (shS C s) p.toNatClampNeg) / 100)) (nI (kth (cq C (c_pn C p.toNatClampNeg)) (vrN C (shS C s) p.toNatClampNeg) % 100)) v
def sp_mark (C : CS) (s p v : Int32) : Int32 := if noSd C s ∨ outN p (c_np C) then -1 else if 0 < lackN C then -3 else mk_t C s p v
def st_mark (C : CS) (s p v : Int32) : CS := if noSd C s ∨ outN p (c_np C) then C else if 0 < lackN C then C else if mk_t C s p v = 0 then sup C 6 (c_ri C + 1) else (qup C.1 7 (c_wr C + 1), C.2.1, C.2.2.1, qup (c_mi C) (sti s + c_pn C p.toNatClampNeg) (c_mi C (sti s + c_pn C p.toNatClampNeg) + 1))
def sp_missed (C : CS) (s k : Int32) : Int32 := if noSd C s then -1 else if k = -9 then nI (miA C (sti s)) else if outN k (c_nk C) then -1 else nI (c_mi C (sti s + k.toNatClampNeg))
def sp_review (C : CS) (s n k : Int32) : Int32 := if noSd C s ∨ outN k (c_nk C) then -1 else if n < 1 ∨ 60 < n then -2 else if miA C (sti s) = 0 then -3 else nI (rvN (fun x => c_mi C (sti s + x)) (miA C (sti s)) n.toNatClampNeg k.toNatClampNeg)
def sp_all (C : CS) (k : Int32) : Int32 := if outN k (c_nk C) then -1 else nI (fb_sm (fun s => c_mi C (8 * s + k.toNatClampNeg)) 64)
def sp_total (C : CS) (w : Int32) : Int32 := if w = 0 then nI (c_nk C) else if w = 1 then nI (c_np C) else if w = 2 then nI (c_ro C * c_co C) else if w = 3 then nI (c_ri C) else if w = 4 then nI (c_wr C) else -2
def pr_X1_kind (C : CS) (σ : XS) (op : Int32) : Prop := RX C σ
def po_X1_kind (C : CS) (σ : XS) (op : Int32) (r : Int32) (u : XS) : Prop := r = sp_kind C op ∧ RX (st_kind C op) u
def pr_X2_kind (C : CS) (σ : MS) (op : Int32) : Prop := RM C σ
def po_X2_kind (C : CS) (σ : MS) (op : Int32) (r : Int32) (u : MS) : Prop := r = sp_kind C op ∧ RM (st_kind C op) u
def pr_X1_range (C : CS) (σ : XS) (k : Int32) (w : Int32) (f : Int32) (t : Int32) : Prop := RX C σ
def po_X1_range (C : CS) (σ : XS) (k : Int32) (w : Int32) (f : Int32) (t : Int32) (r : Int32) (u : XS) : Prop := r = sp_range C k w f t ∧ RX (st_range C k w f t) u
def pr_X2_range (C : CS) (σ : MS) (k : Int32) (w : Int32) (f : Int32) (t : Int32) : Prop := RM C σ
def po_X2_range (C : CS) (σ : MS) (k : Int32) (w : Int32) (f : Int32) (t : Int32) (r : Int32) (u : MS) : Prop := r = sp_range C k w f t ∧ RM (st_range C k w f t) u
def pr_X1_rule (C : CS) (σ : XS) (k : Int32) (w : Int32) (v : Int32) : Prop := RX C σ
def po_X1_rule (C : CS) (σ : XS) (k : Int32) (w : Int32) (v : Int32) (r : Int32) (u : XS) : Prop := r = sp_rule C k w v ∧ RX (st_rule C k w v) u
def pr_X2_rule (C : CS) (σ : MS) (k : Int32) (w : Int32) (v : Int32) : Prop := RM C σ
def po_X2_rule (C : CS) (σ : MS) (k : Int32) (w : Int32) (v : Int32) (r : Int32) (u : MS) : Prop := r = sp_rule C k w v ∧ RM (st_rule C k w v) u
def pr_X1_variants (C : CS) (σ : XS) (k : Int32) : Prop := RX C σ
def fn_X1_variants (C : CS) (σ : XS) (k : Int32) : Int32 := sp_variants C k
def pr_X2_variants (C : CS) (σ : MS) (k : Int32) : Prop := RM C σ
def po_X2_variants (C : CS) (σ : MS) (k : Int32) (r : Int32) (u : MS) : Prop := r = sp_variants C k ∧ RM C u
def pr_X1_variant (C : CS) (σ : XS) (k : Int32) (i : Int32) (w : Int32) : Prop := RX C σ
def fn_X1_variant (C : CS) (σ : XS) (k : Int32) (i : Int32) (w : Int32) : Int32 := sp_variant C k i w
def pr_X2_variant (C : CS) (σ : MS) (k : Int32) (i : Int32) (w : Int32) : Prop := RM C σ
def po_X2_variant (C : CS) (σ : MS) (k : Int32) (i : Int32) (w : Int32) (r : Int32) (u : MS) : Prop := r = sp_variant C k i w ∧ RM C u
def pr_X1_find (C : CS) (σ : XS) (k : Int32) (a : Int32) (b : Int32) : Prop := RX C σ
def fn_X1_find (C : CS) (σ : XS) (k : Int32) (a : Int32) (b : Int32) : Int32 := sp_find C k a b
def pr_X2_find (C : CS) (σ : MS) (k : Int32) (a : Int32) (b : Int32) : Prop := RM C σ
def po_X2_find (C : CS) (σ : MS) (k : Int32) (a : Int32) (b : Int32) (r : Int32) (u : MS) : Prop := r = sp_find C k a b ∧ RM C u
def pr_X1_slip (C : CS) (σ : XS) (k : Int32) (i : Int32) (s : Int32) : Prop := RX C σ
def fn_X1_slip (C : CS) (σ : XS) (k : Int32) (i : Int32) (s : Int32) : Int32 := sp_slip C k i s
def pr_X2_slip (C : CS) (σ : MS) (k : Int32) (i : Int32) (s : Int32) : Prop := RM C σ
def po_X2_slip (C : CS) (σ : MS) (k : Int32) (i : Int32) (s : Int32) (r : Int32) (u : MS) : Prop := r = sp_slip C k i s ∧ RM C u
def pr_X1_tells (C : CS) (σ : XS) (k : Int32) (i : Int32) (v : Int32) : Prop := RX C σ
def fn_X1_tells (C : CS) (σ : XS) (k : Int32) (i : Int32) (v : Int32) : Int32 := sp_tells C k i v
def pr_X2_tells (C : CS) (σ : MS) (k : Int32) (i : Int32) (v : Int32) : Prop := RM C σ
def po_X2_tells (C : CS) (σ : MS) (k : Int32) (i : Int32) (v : Int32) (r : Int32) (u : MS) : Prop := r = sp_tells C k i v ∧ RM C u
def pr_X1_plan (C : CS) (σ : XS) (k : Int32) (n : Int32) : Prop := RX C σ
def po_X1_plan (C : CS) (σ : XS) (k : Int32) (n : Int32) (r : Int32) (u : XS) : Prop := r = sp_plan C k n ∧ RX (st_plan C k n) u
def pr_X2_plan (C : CS) (σ : MS) (k : Int32) (n : Int32) : Prop := RM C σ
def po_X2_plan (C : CS) (σ : MS) (k : Int32) (n : Int32) (r : Int32) (u : MS) : Prop := r = sp_plan C k n ∧ RM (st_plan C k n) u
def pr_X1_clear (C : CS) (σ : XS) : Prop := RX C σ
def po_X1_clear (C : CS) (σ : XS) (r : Int32) (u : XS) : Prop := r = sp_clear C ∧ RX (nx_clear C) u
def pr_X2_clear (C : CS) (σ : MS) : Prop := RM C σ
def po_X2_clear (C : CS) (σ : MS) (r : Int32) (u : MS) : Prop := r = sp_clear C ∧ RM (nx_clear C) u
def pr_X1_placed (C : CS) (σ : XS) (p : Int32) : Prop := RX C σ
def fn_X1_placed (C : CS) (σ : XS) (p : Int32) : Int32 := sp_placed C p
def pr_X2_placed (C : CS) (σ : MS) (p : Int32) : Prop := RM C σ
def po_X2_placed (C : CS) (σ : MS) (p : Int32) (r : Int32) (u : MS) : Prop := r = sp_placed C p ∧ RM C u
def pr_X1_lines (C : CS) (σ : XS) (n : Int32) : Prop := RX C σ
def po_X1_lines (C : CS) (σ : XS) (n : Int32) (r : Int32) (u : XS) : Prop := r = sp_lines C n ∧ RX (st_lines C n) u
def pr_X2_lines (C : CS) (σ : MS) (n : Int32) : Prop := RM C σ
def po_X2_lines (C : CS) (σ : MS) (n : Int32) (r : Int32) (u : MS) : Prop := r = sp_lines C n ∧ RM (st_lines C n) u
def pr_X1_pages (C : CS) (σ : XS) : Prop := RX C σ
def fn_X1_pages (C : CS) (σ : XS) : Int32 := sp_pages C
def pr_X2_pages (C : CS) (σ : MS) : Prop := RM C σ
def po_X2_pages (C : CS) (σ : MS) (r : Int32) (u : MS) : Prop := r = sp_pages C ∧ RM C u
def pr_X1_page (C : CS) (σ : XS) (p : Int32) (ln : Int32) : Prop := RX C σ
def fn_X1_page (C : CS) (σ : XS) (p : Int32) (ln : Int32) : Int32 := sp_page C p ln
def pr_X2_page (C : CS) (σ : MS) (p : Int32) (ln : Int32) : Prop := RM C σ
def po_X2_page (C : CS) (σ : MS) (p : Int32) (ln : Int32) (r : Int32) (u : MS) : Prop := r = sp_page C p ln ∧ RM C u
def pr_X1_sheet (C : CS) (σ : XS) (z : Int32) (p : Int32) : Prop := RX C σ
def fn_X1_sheet (C : CS) (σ : XS) (z : Int32) (p : Int32) : Int32 := sp_sheet C z p
def pr_X2_sheet (C : CS) (σ : MS) (z : Int32) (p : Int32) : Prop := RM C σ
def po_X2_sheet (C : CS) (σ : MS) (z : Int32) (p : Int32) (r : Int32) (u : MS) : Prop := r = sp_sheet C z p ∧ RM C u
def pr_X1_answer (C : CS) (σ : XS) (z : Int32) (p : Int32) : Prop := RX C σ
def fn_X1_answer (C : CS) (σ : XS) (z : Int32) (p : Int32) : Int32 := sp_answer C z p
def pr_X2_answer (C : CS) (σ : MS) (z : Int32) (p : Int32) : Prop := RM C σ
def po_X2_answer (C : CS) (σ : MS) (z : Int32) (p : Int32) (r : Int32) (u : MS) : Prop := r = sp_answer C z p ∧ RM C u
def pr_X1_code (C : CS) (σ : XS) (z : Int32) : Prop := RX C σ
def fn_X1_code (C : CS) (σ : XS) (z : Int32) : Int32 := sp_code C z
def pr_X2_code (C : CS) (σ : MS) (z : Int32) : Prop := RM C σ
def po_X2_code (C : CS) (σ : MS) (z : Int32) (r : Int32) (u : MS) : Prop := r = sp_code C z ∧ RM C u
def pr_X1_shared (C : CS) (σ : XS) (z : Int32) (y : Int32) : Prop := RX C σ
def fn_X1_shared (C : CS) (σ : XS) (z : Int32) (y : Int32) : Int32 := sp_shared C z y
def pr_X2_shared (C : CS) (σ : MS) (z : Int32) (y : Int32) : Prop := RM C σ
def po_X2_shared (C : CS) (σ : MS) (z : Int32) (y : Int32) (r : Int32) (u : MS) : Prop := r = sp_shared C z y ∧ RM C u
def pr_X1_apart (C : CS) (σ : XS) (z : Int32) : Prop := RX C σ
def fn_X1_apart (C : CS) (σ : XS) (z : Int32) : Int32 := sp_apart C z
def pr_X2_apart (C : CS) (σ : MS) (z : Int32) : Prop := RM C σ
def po_X2_apart (C : CS) (σ : MS) (z : Int32) (r : Int32) (u : MS) : Prop := r = sp_apart C z ∧ RM C u
def pr_X1_seats (C : CS) (σ : XS) (r1 : Int32) (c1 : Int32) : Prop := RX C σ
def po_X1_seats (C : CS) (σ : XS) (r1 : Int32) (c1 : Int32) (r : Int32) (u : XS) : Prop := r = sp_seats C r1 c1 ∧ RX (st_seats C r1 c1) u
def pr_X2_seats (C : CS) (σ : MS) (r1 : Int32) (c1 : Int32) : Prop := RM C σ
def po_X2_seats (C : CS) (σ : MS) (r1 : Int32) (c1 : Int32) (r : Int32) (u : MS) : Prop := r = sp_seats C r1 c1 ∧ RM (st_seats C r1 c1) u
def pr_X1_base (C : CS) (σ : XS) (n : Int32) : Prop := RX C σ
def po_X1_base (C : CS) (σ : XS) (n : Int32) (r : Int32) (u : XS) : Prop := r = sp_base C n ∧ RX (st_base C n) u
def pr_X2_base (C : CS) (σ : MS) (n : Int32) : Prop := RM C σ
def po_X2_base (C : CS) (σ : MS) (n : Int32) (r : Int32) (u : MS) : Prop := r = sp_base C n ∧ RM (st_base C n) u
def pr_X1_seat (C : CS) (σ : XS) (s : Int32) : Prop := RX C σ
def fn_X1_seat (C : CS) (σ : XS) (s : Int32) : Int32 := sp_seat C s
def pr_X2_seat (C : CS) (σ : MS) (s : Int32) : Prop := RM C σ
def po_X2_seat (C : CS) (σ : MS) (s : Int32) (r : Int32) (u : MS) : Prop := r = sp_seat C s ∧ RM C u
def pr_X2_unlike (C : CS) (σ : MS) : Prop := RM C σ
def po_X2_unlike (C : CS) (σ : MS) (r : Int32) (u : MS) : Prop := r = sp_unlike C ∧ RM C u
def pr_X1_mark (C : CS) (σ : XS) (s : Int32) (p : Int32) (v : Int32) : Prop := RX C σ
def po_X1_mark (C : CS) (σ : XS) (s : Int32) (p : Int32) (v : Int32) (r : Int32) (u : XS) : Prop := r = sp_mark C s p v ∧ RX (st_mark C s p v) u
def pr_X2_mark (C : CS) (σ : MS) (s : Int32) (p : Int32) (v : Int32) : Prop := RM C σ
def po_X2_mark (C : CS) (σ : MS) (s : Int32) (p : Int32) (v : Int32) (r : Int32) (u : MS) : Prop := r = sp_mark C s p v ∧ RM (st_mark C s p v) u
def pr_X1_missed (C : CS) (σ : XS) (s : Int32) (k : Int32) : Prop := RX C σ
def fn_X1_missed (C : CS) (σ : XS) (s : Int32) (k : Int32) : Int32 := sp_missed C s k
def pr_X2_missed (C : CS) (σ : MS) (s : Int32) (k : Int32) : Prop := RM C σ
def po_X2_missed (C : CS) (σ : MS) (s : Int32) (k : Int32) (r : Int32) (u : MS) : Prop := r = sp_missed C s k ∧ RM C u
def pr_X1_review (C : CS) (σ : XS) (s : Int32) (n : Int32) (k : Int32) : Prop := RX C σ ∧ c_wr C ≤ 512
def fn_X1_review (C : CS) (σ : XS) (s : Int32) (n : Int32) (k : Int32) : Int32 := sp_review C s n k
def pr_X2_review (C : CS) (σ : MS) (s : Int32) (n : Int32) (k : Int32) : Prop := RM C σ ∧ c_wr C ≤ 512
def po_X2_review (C : CS) (σ : MS) (s : Int32) (n : Int32) (k : Int32) (r : Int32) (u : MS) : Prop := r = sp_review C s n k ∧ RM C u
def pr_X1_all (C : CS) (σ : XS) (k : Int32) : Prop := RX C σ
def fn_X1_all (C : CS) (σ : XS) (k : Int32) : Int32 := sp_all C k
def pr_X2_all (C : CS) (σ : MS) (k : Int32) : Prop := RM C σ
def po_X2_all (C : CS) (σ : MS) (k : Int32) (r : Int32) (u : MS) : Prop := r = sp_all C k ∧ RM C u
def pr_X1_total (C : CS) (σ : XS) (w : Int32) : Prop := RX C σ
def fn_X1_total (C : CS) (σ : XS) (w : Int32) : Int32 := sp_total C w
def pr_X2_total (C : CS) (σ : MS) (w : Int32) : Prop := RM C σ
def po_X2_total (C : CS) (σ : MS) (w : Int32) (r : Int32) (u : MS) : Prop := r = sp_total C w ∧ RM C u
def pr_X1_unlike (C : CS) (σ : XS) : Prop := RX C σ
def fn_X1_unlike (C : CS) (σ : XS) : Int32 := sp_unlike C
/-! the class's own helpers -/
def fn_X1_isKind (σ : XS) (k : Int32) : Int32 := if k < 0 then 0 else if xs_kc σ ≤ k then 0 else 1
def fn_X1_isPlace (σ : XS) (p : Int32) : Int32 := if p < 0 then 0 else if xs_pc σ ≤ p then 0 else 1
def fn_X1_isSeat (σ : XS) (s : Int32) : Int32 := if s < 0 then 0 else if xs_rc σ ≤ s / 10 then 0 else if xs_cc σ ≤ irm s 10 then 0 else 1
def fn_X1_sheetAt (σ : XS) (s : Int32) : Int32 := xs_bn σ + irm (s / 10) 2 * (if 2 < xs_cc σ then 2 else xs_cc σ) + irm (irm s 10) 2
def fn_X1_missesFrom (σ : XS) (s : Int32) : Int32 := (s / 10 * 8 + irm s 10) * 8
def pr_X1_isVariant (C : CS) (σ : XS) (k i : Int32) : Prop := RX C σ
def fn_X1_isVariant (C : CS) (σ : XS) (k i : Int32) : Int32 := if noV C k i then 0 else 1
def pr_X1_pageAndLine (C : CS) (σ : XS) (p : Int32) : Prop := RX C σ ∧ vp_in p (c_np C)
def fn_X1_pageAndLine (C : CS) (σ : XS) (p : Int32) : Int32 := nI (whN C p.toNatClampNeg)
def pr_X1_lacksVariants (C : CS) (σ : XS) : Prop := RX C σ
def fn_X1_lacksVariants (C : CS) (σ : XS) : Int32 := if 0 < lackN C then 1 else 0
def pr_X1_sheetRefusal (C : CS) (σ : XS) (z : Int32) : Prop := RX C σ
def fn_X1_sheetRefusal (C : CS) (σ : XS) (z : Int32) : Int32 := if z < 0 ∨ 9999 < z then -2 else if 0 < lackN C then -3 else 0
def pr_X1_placeRefusal (C : CS) (σ : XS) (z p : Int32) : Prop := RX C σ
def fn_X1_placeRefusal (C : CS) (σ : XS) (z p : Int32) : Int32 := if outN p (c_np C) then -1 else if z < 0 ∨ 9999 < z then -2 else if 0 < lackN C then -3 else 0
def pr_X1_variantOn (C : CS) (σ : XS) (z p : Int32) : Prop := RX C σ ∧ vp_in p (c_np C) ∧ vp_in z 10000 ∧ lackN C = 0
def fn_X1_variantOn (C : CS) (σ : XS) (z p : Int32) : Int32 := nI (vrN C z.toNatClampNeg p.toNatClampNeg)
def pr_X1_answerOn (C : CS) (σ : XS) (z p : Int32) : Prop := RX C σ ∧ vp_in p (c_np C) ∧ vp_in z 10000 ∧ lackN C = 0
def fn_X1_answerOn (C : CS) (σ : XS) (z p : Int32) : Int32 := ansA C z.toNatClampNeg p.toNatClampNeg
def pr_X1_missesAt (C : CS) (σ : XS) (s : Int32) : Prop := RX C σ ∧ ¬ noSd C s
def fn_X1_missesAt (C : CS) (σ : XS) (s : Int32) : Int32 := nI (miA C (sti s))
def pr_X1_reviewPlaces (C : CS) (σ : XS) (s n k : Int32) : Prop := RX C σ ∧ c_wr C ≤ 512 ∧ ¬ noSd C s ∧ ¬ outN k (c_nk C) ∧ ¬ (n < 1 ∨ 60 < n)
def fn_X1_reviewPlaces (C : CS) (σ : XS) (s n k : Int32) : Int32 := if miA C (sti s) = 0 then -3 else nI (rvN (fun x => c_mi C (sti s + x)) (miA C (sti s)) n.toNatClampNeg k.toNatClampNeg)

def fn_X2_noKind (σ : MS) (x1 : Int32) : Int32 := 0
def fn_X2_noPlace (σ : MS) (x1 : Int32) : Int32 := 0
def fn_X2_noSeat (σ : MS) (x1 : Int32) : Int32 := 0
def fn_X2_holds (σ : MS) (x1 : Int32) (x2 : Int32) (x3 : Int32) : Int32 := 0
def pr_X2_holds (g : CS) (σ : MS) (x1 : Int32) (x2 : Int32) (x3 : Int32) : Prop := True
def po_X2_tell (g : CS) (σ : MS) (x1 : Int32) (r : Int32) (u : MS) : Prop := True
def pr_X2_tell (g : CS) (σ : MS) (x1 : Int32) : Prop := True
def fn_X2_pairOf (σ : MS) (x1 : Int32) (x2 : Int32) : Int32 := 0
def pr_X2_pairOf (g : CS) (σ : MS) (x1 : Int32) (x2 : Int32) : Prop := True
def po_X2_noVariant (g : CS) (σ : MS) (x1 : Int32) (x2 : Int32) (r : Int32) (u : MS) : Prop := True
def pr_X2_noVariant (g : CS) (σ : MS) (x1 : Int32) (x2 : Int32) : Prop := True
def fn_X2_slipAt (g : CS) (σ : MS) (x1 : Int32) (x2 : Int32) (x3 : Int32) : Int32 := 0
def pr_X2_slipAt (g : CS) (σ : MS) (x1 : Int32) (x2 : Int32) (x3 : Int32) : Prop := True
def fn_X2_rightAt (g : CS) (σ : MS) (x1 : Int32) (x2 : Int32) : Int32 := 0
def pr_X2_rightAt (g : CS) (σ : MS) (x1 : Int32) (x2 : Int32) : Prop := True
def fn_X2_tellsOf (g : CS) (σ : MS) (x1 : Int32) (x2 : Int32) (x3 : Int32) : Int32 := 0
def pr_X2_tellsOf (g : CS) (σ : MS) (x1 : Int32) (x2 : Int32) (x3 : Int32) : Prop := True
def fn_X2_where (g : CS) (σ : MS) (x1 : Int32) : Int32 := 0
def pr_X2_where (g : CS) (σ : MS) (x1 : Int32) : Prop := True
def po_X2_noSheet (g : CS) (σ : MS) (r : Int32) (u : MS) : Prop := True
def pr_X2_noSheet (g : CS) (σ : MS) : Prop := True
def fn_X2_ahead (g : CS) (σ : MS) (x1 : Int32) (x2 : Int32) : Int32 := 0
def pr_X2_ahead (g : CS) (σ : MS) (x1 : Int32) (x2 : Int32) : Prop := True
def po_X2_variantAt (g : CS) (σ : MS) (x1 : Int32) (x2 : Int32) (r : Int32) (u : MS) : Prop := True
def pr_X2_variantAt (g : CS) (σ : MS) (x1 : Int32) (x2 : Int32) : Prop := True
def po_X2_answerAt (g : CS) (σ : MS) (x1 : Int32) (x2 : Int32) (r : Int32) (u : MS) : Prop := True
def pr_X2_answerAt (g : CS) (σ : MS) (x1 : Int32) (x2 : Int32) : Prop := True
def po_X2_isApart (g : CS) (σ : MS) (x1 : Int32) (x2 : Int32) (r : Int32) (u : MS) : Prop := True
def pr_X2_isApart (g : CS) (σ : MS) (x1 : Int32) (x2 : Int32) : Prop := True
def fn_X2_isNear (g : CS) (σ : MS) (x1 : Int32) (x2 : Int32) (x3 : Int32) : Int32 := 0
def pr_X2_isNear (g : CS) (σ : MS) (x1 : Int32) (x2 : Int32) (x3 : Int32) : Prop := True
def po_X2_sit (g : CS) (σ : MS) (r : Int32) (u : MS) : Prop := True
def pr_X2_sit (g : CS) (σ : MS) : Prop := True
def po_X2_sheetOf (g : CS) (σ : MS) (x1 : Int32) (r : Int32) (u : MS) : Prop := True
def pr_X2_sheetOf (g : CS) (σ : MS) (x1 : Int32) : Prop := True
def fn_X2_missedOf (g : CS) (σ : MS) (x1 : Int32) (x2 : Int32) : Int32 := 0
def pr_X2_missedOf (g : CS) (σ : MS) (x1 : Int32) (x2 : Int32) : Prop := True
end
section
def wp_J9_floorMod_7cf53 (Post : Int32 → Unit → Prop) (σ : Unit) (x0 : Int32) (x1 : Int32) : Prop :=
  (¬ x1 = 0) ∧ ∀ x2_2 : Int32, x2_2 = (x0 - x0 / x1 * x1) → ((0 ≤ (x0 ^^^ x1) → Post x2_2 σ) ∧ (¬ 0 ≤ (x0 ^^^ x1) → ((x2_2 = 0 → Post x2_2 σ) ∧ (¬ x2_2 = 0 → Post (x2_2 + x1) σ))))
def wp_X0_isRange (Post : Int32 → Unit → Prop) (σ : Unit) (x0 : Int32) (x1 : Int32) (x2 : Int32) : Prop :=
  ((x0 < 0 → Post 0 σ) ∧ (¬ x0 < 0 → ((2 < x0 → Post 0 σ) ∧ (¬ 2 < x0 → ((x1 < 0 → Post 0 σ) ∧ (¬ x1 < 0 → ((x2 < x1 → Post 0 σ) ∧ (¬ x2 < x1 → vp_in x0 3 ∧ (((sx_v0 x0.toNatClampNeg) < x2 → Post 0 σ) ∧ (¬ (sx_v0 x0.toNatClampNeg) < x2 → Post 1 σ))))))))))
def wp_X0_isRule (Post : Int32 → Unit → Prop) (σ : Unit) (x0 : Int32) (x1 : Int32) : Prop :=
  ((x0 < 0 → Post 0 σ) ∧ (¬ x0 < 0 → ((2 < x0 → Post 0 σ) ∧ (¬ 2 < x0 → vp_in x0 3 ∧ ((x1 < (sx_v1 x0.toNatClampNeg) → Post 0 σ) ∧ (¬ x1 < (sx_v1 x0.toNatClampNeg) → vp_in x0 3 ∧ (((sx_v2 x0.toNatClampNeg) < x1 → Post 0 σ) ∧ (¬ (sx_v2 x0.toNatClampNeg) < x1 → Post 1 σ))))))))
def wp_X0_exchanged (Post : Int32 → Unit → Prop) (σ : Unit) (x0 : Int32) : Prop :=
  ∀ x1_1 : Int32, x1_1 = (x0 / 10) → ∀ x2_2 : Int32, x2_2 = (x0 - x0 / 10 * 10) → ((x1_1 < 1 → Post (-9) σ) ∧ (¬ x1_1 < 1 → ((9 < x1_1 → Post (-9) σ) ∧ (¬ 9 < x1_1 → ((x1_1 = x2_2 → Post (-9) σ) ∧ (¬ x1_1 = x2_2 → Post ((x2_2 * 10) + x1_1) σ))))))
def wp_X1_isSheet (Post : Int32 → Unit → Prop) (σ : Unit) (x0 : Int32) : Prop :=
  ((x0 < 0 → Post 0 σ) ∧ (¬ x0 < 0 → ((9999 < x0 → Post 0 σ) ∧ (¬ 9999 < x0 → Post 1 σ))))
def wp_X2_in (Post : Int32 → Unit → Prop) (σ : Unit) (x0 : Int64) (x2 : Int64) (x4 : Int64) : Prop :=
  (((lg_cmp x0 x2) < 0 → Post 0 σ) ∧ (¬ (lg_cmp x0 x2) < 0 → ((0 < (lg_cmp x0 x4) → Post 0 σ) ∧ (¬ 0 < (lg_cmp x0 x4) → Post 1 σ))))
def wp_X2_answerOf (Post : Int32 → Unit → Prop) (σ : Unit) (x0 : Int32) (x1 : Int32) (x2 : Int32) : Prop :=
  ((¬ x0 = 0 → ((¬ x0 = 1 → ((¬ x0 = 2 → ((x2 = 0 → Post (-9) σ) ∧ (¬ x2 = 0 → (¬ x2 = 0) ∧ ((¬ (x1 - x1 / x2 * x2) = 0 → Post (-9) σ) ∧ ((x1 - x1 / x2 * x2) = 0 → (¬ x2 = 0) ∧ Post (x1 / x2) σ))))) ∧ (x0 = 2 → Post (x1 * x2) σ))) ∧ (x0 = 1 → ((x1 < x2 → Post (-9) σ) ∧ (¬ x1 < x2 → Post (x1 - x2) σ))))) ∧ (x0 = 0 → Post (x1 + x2) σ))
def wp_X2_carries (Post : Int32 → Unit → Prop) (σ : Unit) (x0 : Int32) (x1 : Int32) (x2 : Int32) : Prop :=
  ((¬ x0 = 0 → ((¬ x0 = 1 → Post 0 σ) ∧ (x0 = 1 → (((x2 - x2 / 10 * 10) ≤ (x1 - x1 / 10 * 10) → Post 0 σ) ∧ (¬ (x2 - x2 / 10 * 10) ≤ (x1 - x1 / 10 * 10) → Post 1 σ))))) ∧ (x0 = 0 → ((((x1 - x1 / 10 * 10) + (x2 - x2 / 10 * 10)) < 10 → Post 0 σ) ∧ (¬ ((x1 - x1 / 10 * 10) + (x2 - x2 / 10 * 10)) < 10 → Post 1 σ))))
def wp_X2_slipOf (Post : Int32 → Unit → Prop) (σ : Unit) (x0 : Int32) (x1 : Int32) (x2 : Int32) (x3 : Int32) : Prop :=
  ∀ x4_2 : Int32, x4_2 = (fn_X2_answerOf x0 x1 x2) → ((x3 = 1 → ((x0 = 1 → Post (x1 + x2) σ) ∧ (¬ x0 = 1 → ((¬ x0 = 2 → ((x1 < x2 → Post (-9) σ) ∧ (¬ x1 < x2 → Post (x1 - x2) σ))) ∧ (x0 = 2 → Post (x1 + x2) σ))))) ∧ (¬ x3 = 1 → ((x3 = 2 → ((¬ (fn_X2_carries x0 x1 x2) = 0 → ((¬ x0 = 0 → Post (((10 * ((x1 / 10) - (x2 / 10))) + (x2 - x2 / 10 * 10)) - (x1 - x1 / 10 * 10)) σ) ∧ (x0 = 0 → Post (x4_2 - 10) σ))) ∧ ((fn_X2_carries x0 x1 x2) = 0 → Post (-9) σ))) ∧ (¬ x3 = 2 → ((x3 = 3 → Post (x4_2 + 1) σ) ∧ (¬ x3 = 3 → ((x3 = 4 → ((x4_2 ≤ 0 → Post (-9) σ) ∧ (¬ x4_2 ≤ 0 → Post (x4_2 - 1) σ))) ∧ (¬ x3 = 4 → (((fn_X2_in (x4_2.toInt64) 10 99) = 0 → Post (-9) σ) ∧ (¬ (fn_X2_in (x4_2.toInt64) 10 99) = 0 → (((x4_2 / 10) = (x4_2 - x4_2 / 10 * 10) → Post (-9) σ) ∧ (¬ (x4_2 / 10) = (x4_2 - x4_2 / 10 * 10) → Post ((10 * (x4_2 - x4_2 / 10 * 10)) + (x4_2 / 10)) σ))))))))))))
def wp_X2_noNumber (Post : Int32 → Unit → Prop) (σ : Unit) (x0 : Int32) : Prop :=
  ((¬ (fn_X2_in (x0.toInt64) 0 9999) = 0 → Post 0 σ) ∧ ((fn_X2_in (x0.toInt64) 0 9999) = 0 → Post 1 σ))
def wp_X0_size (g : (Nat → Nat)) (Post : Int32 → KS → Prop) (σ : KS) : Prop :=
  Post (ks_co σ) σ
def wp_X0_linesTaken (g : (Nat → Nat)) (Post : Int32 → KS → Prop) (σ : KS) : Prop :=
  vp_in 1 3 ∧ Post (ks_ru σ (1 : Int32).toNatClampNeg) σ
def wp_X0_result (g : (Nat → Nat)) (Post : Int32 → KS → Prop) (σ : KS) (x1 : Int32) (x2 : Int32) : Prop :=
  (((ks_op σ) = 0 → Post (x1 + x2) σ) ∧ (¬ (ks_op σ) = 0 → (((ks_op σ) = 1 → ((x1 < x2 → Post (-9) σ) ∧ (¬ x1 < x2 → Post (x1 - x2) σ))) ∧ (¬ (ks_op σ) = 1 → (((ks_op σ) = 2 → Post (x1 * x2) σ) ∧ (¬ (ks_op σ) = 2 → ((x2 = 0 → Post (-9) σ) ∧ (¬ x2 = 0 → (¬ x2 = 0) ∧ ((¬ (x1 - x1 / x2 * x2) = 0 → Post (-9) σ) ∧ ((x1 - x1 / x2 * x2) = 0 → (¬ x2 = 0) ∧ Post (x1 / x2) σ))))))))))
def wp_X0_carries (g : (Nat → Nat)) (Post : Int32 → KS → Prop) (σ : KS) (x1 : Int32) (x2 : Int32) : Prop :=
  (((ks_op σ) = 0 → ((((x1 - x1 / 10 * 10) + (x2 - x2 / 10 * 10)) < 10 → Post 0 σ) ∧ (¬ ((x1 - x1 / 10 * 10) + (x2 - x2 / 10 * 10)) < 10 → Post 1 σ))) ∧ (¬ (ks_op σ) = 0 → (((ks_op σ) = 1 → (((x2 - x2 / 10 * 10) ≤ (x1 - x1 / 10 * 10) → Post 0 σ) ∧ (¬ (x2 - x2 / 10 * 10) ≤ (x1 - x1 / 10 * 10) → Post 1 σ))) ∧ (¬ (ks_op σ) = 1 → Post 0 σ))))
def wp_X0_otherOperation (g : (Nat → Nat)) (Post : Int32 → KS → Prop) (σ : KS) (x1 : Int32) (x2 : Int32) : Prop :=
  (((ks_op σ) = 1 → Post (x1 + x2) σ) ∧ (¬ (ks_op σ) = 1 → ((¬ (ks_op σ) = 2 → ((x1 < x2 → Post (-9) σ) ∧ (¬ x1 < x2 → Post (x1 - x2) σ))) ∧ ((ks_op σ) = 2 → Post (x1 + x2) σ))))
def wp_X0_withoutCarrying (g : (Nat → Nat)) (Post : Int32 → KS → Prop) (σ : KS) (x1 : Int32) (x2 : Int32) : Prop :=
  ((¬ (ks_op σ) = 0 → Post ((((x1 / 10) - (x2 / 10)) * 10) + (if 0 ≤ ((x1 - x1 / 10 * 10) - (x2 - x2 / 10 * 10)) then ((x1 - x1 / 10 * 10) - (x2 - x2 / 10 * 10)) else 0 - ((x1 - x1 / 10 * 10) - (x2 - x2 / 10 * 10)))) σ) ∧ ((ks_op σ) = 0 → Post ((x1 + x2) - 10) σ))
def wp_X0_slipped (g : (Nat → Nat)) (Post : Int32 → KS → Prop) (σ : KS) (x1 : Int32) (x2 : Int32) (x3 : Int32) : Prop :=
  ∀ x4_2 : Int32, x4_2 = (fn_X0_result σ x1 x2) → ((x3 = 1 → Post (fn_X0_otherOperation σ x1 x2) σ) ∧ (¬ x3 = 1 → ((x3 = 2 → (((fn_X0_carries σ x1 x2) = 0 → Post (-9) σ) ∧ (¬ (fn_X0_carries σ x1 x2) = 0 → Post (fn_X0_withoutCarrying σ x1 x2) σ))) ∧ (¬ x3 = 2 → ((x3 = 3 → Post (x4_2 + 1) σ) ∧ (¬ x3 = 3 → ((x3 = 4 → ((x4_2 ≤ 0 → Post (-9) σ) ∧ (¬ x4_2 ≤ 0 → Post (x4_2 - 1) σ))) ∧ (¬ x3 = 4 → Post (fn_X0_exchanged x4_2) σ))))))))
def wp_X0_isLawful (g : (Nat → Nat)) (Post : Int32 → KS → Prop) (σ : KS) (x1 : Int32) (x2 : Int32) : Prop :=
  ∀ x3_2 : Int32, x3_2 = (fn_X0_result σ x1 x2) → vp_in 2 3 ∧ ((x3_2 < (ks_le σ (2 : Int32).toNatClampNeg) → Post 0 σ) ∧ (¬ x3_2 < (ks_le σ (2 : Int32).toNatClampNeg) → vp_in 2 3 ∧ ((x3_2 ≤ (ks_mo σ (2 : Int32).toNatClampNeg) → vp_in 0 3 ∧ (((ks_ru σ (0 : Int32).toNatClampNeg) = 1 → ((¬ (fn_X0_carries σ x1 x2) = 0 → Post 0 σ) ∧ ((fn_X0_carries σ x1 x2) = 0 → Post 1 σ))) ∧ (¬ (ks_ru σ (0 : Int32).toNatClampNeg) = 1 → (((ks_ru σ (0 : Int32).toNatClampNeg) = 2 → (narrow .boolean (.int (fn_X0_carries σ x1 x2)) = .int (fn_X0_carries σ x1 x2) ∧ Post (fn_X0_carries σ x1 x2) σ)) ∧ (¬ (ks_ru σ (0 : Int32).toNatClampNeg) = 2 → (((ks_ru σ (0 : Int32).toNatClampNeg) = 3 → (((fn_X0_otherOperation σ x1 x2) = x3_2 → Post 0 σ) ∧ (¬ (fn_X0_otherOperation σ x1 x2) = x3_2 → Post 1 σ))) ∧ (¬ (ks_ru σ (0 : Int32).toNatClampNeg) = 3 → Post 1 σ))))))) ∧ (¬ x3_2 ≤ (ks_mo σ (2 : Int32).toNatClampNeg) → Post 0 σ))))
def wp_X0_countBelow_10 (g : (Nat → Nat)) (K10 : (KS × Int32 × Int32 × Int32 × Int32) → Prop) (Post : Int32 → KS → Prop) (σ : KS) (x1 : Int32) (x2 : Int32) (x3 : Int32) (x4 : Int32) : Prop :=
  ((x2 ≤ x4 → Post x3 σ) ∧ (¬ x2 ≤ x4 → (((fn_X0_isLawful σ x1 x4) = 0 → ∀ x4_4 : Int32, x4_4 = x4 + 1 → K10 (σ, x1, x2, x3, x4_4)) ∧ (¬ (fn_X0_isLawful σ x1 x4) = 0 → ∀ x3_5 : Int32, x3_5 = x3 + 1 → ∀ x4_6 : Int32, x4_6 = x4 + 1 → K10 (σ, x1, x2, x3_5, x4_6)))))
def wp_X0_countBelow (g : (Nat → Nat)) (Post : Int32 → KS → Prop) (σ : KS) (x1 : Int32) (x2 : Int32) : Prop :=
  vp_in 1 3 ∧ ∀ x4_2 : Int32, x4_2 = (ks_le σ (1 : Int32).toNatClampNeg) → LPX (fun K a => wp_X0_countBelow_10 g K Post a.1 a.2.1 a.2.2.1 a.2.2.2.1 a.2.2.2.2) (σ, x1, x2, 0, x4_2)
def wp_X0_countAnew_12 (g : (Nat → Nat)) (K12 : (KS × Int32) → Prop) (Post : Int32 → KS → Prop) (σ : KS) (x1 : Int32) : Prop :=
  vp_in 0 3 ∧ (((ks_mo σ (0 : Int32).toNatClampNeg) < x1 → Post 0 σ) ∧ (¬ (ks_mo σ (0 : Int32).toNatClampNeg) < x1 → vp_in x1 100 ∧ vp_in 1 3 ∧ pr_X0_countBelow g (ks_s_be σ (upd (ks_be σ) x1.toNatClampNeg (ks_co σ))) x1 ((ks_mo (ks_s_be σ (upd (ks_be σ) x1.toNatClampNeg (ks_co σ))) (1 : Int32).toNatClampNeg) + 1) ∧ ∀ x1_7 : Int32, x1_7 = x1 + 1 → K12 ((ks_s_co (ks_s_be σ (upd (ks_be σ) x1.toNatClampNeg (ks_co σ))) ((ks_co (ks_s_be σ (upd (ks_be σ) x1.toNatClampNeg (ks_co σ)))) + (fn_X0_countBelow g (ks_s_be σ (upd (ks_be σ) x1.toNatClampNeg (ks_co σ))) x1 ((ks_mo (ks_s_be σ (upd (ks_be σ) x1.toNatClampNeg (ks_co σ))) (1 : Int32).toNatClampNeg) + 1)))), x1_7)))
def wp_X0_countAnew (g : (Nat → Nat)) (Post : Int32 → KS → Prop) (σ : KS) : Prop :=
  vp_in 0 3 ∧ ∀ x1_2 : Int32, x1_2 = (ks_le (ks_s_co σ 0) (0 : Int32).toNatClampNeg) → LPX (fun K a => wp_X0_countAnew_12 g K Post a.1 a.2) ((ks_s_co σ 0), x1_2)
def wp_X0_open (g : (Nat → Nat)) (Post : Int32 → KS → Prop) (σ : KS) (x1 : Int32) : Prop :=
  pr_X0_countAnew (qup g 0 x1.toNatClampNeg) (ks_s_op σ x1) ∧ ∀ u3 : KS, po_X0_countAnew (qup g 0 x1.toNatClampNeg) (ks_s_op σ x1) 0 u3 → Post 0 u3
def wp_X0_setRange (g : (Nat → Nat)) (Post : Int32 → KS → Prop) (σ : KS) (x1 : Int32) (x2 : Int32) (x3 : Int32) : Prop :=
  vp_in x1 3 ∧ vp_in x1 3 ∧ pr_X0_countAnew (qup (qup g (1 + 2 * x1.toNatClampNeg) x2.toNatClampNeg) (2 + 2 * x1.toNatClampNeg) x3.toNatClampNeg) (ks_s_mo (ks_s_le σ (upd (ks_le σ) x1.toNatClampNeg x2)) (upd (ks_mo (ks_s_le σ (upd (ks_le σ) x1.toNatClampNeg x2))) x1.toNatClampNeg x3)) ∧ ∀ u5 : KS, po_X0_countAnew (qup (qup g (1 + 2 * x1.toNatClampNeg) x2.toNatClampNeg) (2 + 2 * x1.toNatClampNeg) x3.toNatClampNeg) (ks_s_mo (ks_s_le σ (upd (ks_le σ) x1.toNatClampNeg x2)) (upd (ks_mo (ks_s_le σ (upd (ks_le σ) x1.toNatClampNeg x2))) x1.toNatClampNeg x3)) 0 u5 → Post 0 u5
def wp_X0_setRule (g : (Nat → Nat)) (Post : Int32 → KS → Prop) (σ : KS) (x1 : Int32) (x2 : Int32) : Prop :=
  vp_in x1 3 ∧ ∀ x3_2 : Int32, x3_2 = (ks_ru σ x1.toNatClampNeg) → vp_in x1 3 ∧ ((¬ x1 = 0 → Post x3_2 (ks_s_ru σ (upd (ks_ru σ) x1.toNatClampNeg x2))) ∧ (x1 = 0 → ((x2 = x3_2 → Post x3_2 (ks_s_ru σ (upd (ks_ru σ) x1.toNatClampNeg x2))) ∧ (¬ x2 = x3_2 → pr_X0_countAnew (qup g (7 + x1.toNatClampNeg) x2.toNatClampNeg) (ks_s_ru σ (upd (ks_ru σ) x1.toNatClampNeg x2)) ∧ ∀ u8 : KS, po_X0_countAnew (qup g (7 + x1.toNatClampNeg) x2.toNatClampNeg) (ks_s_ru σ (upd (ks_ru σ) x1.toNatClampNeg x2)) 0 u8 → Post x3_2 u8))))
def wp_X0_pairAt_52 (g : (Nat → Nat)) (K52 : (KS × Int32 × Int32 × Int32) → Prop) (Post : Int32 → KS → Prop) (σ : KS) (x2 : Int32) (x3 : Int32) (x4 : Int32) : Prop :=
  vp_in 1 3 ∧ (((ks_mo σ (1 : Int32).toNatClampNeg) ≤ x4 → Post ((x2 * 100) + x4) σ) ∧ (¬ (ks_mo σ (1 : Int32).toNatClampNeg) ≤ x4 → (((fn_X0_isLawful σ x2 x4) = 0 → ∀ x4_5 : Int32, x4_5 = x4 + 1 → K52 (σ, x2, x3, x4_5)) ∧ (¬ (fn_X0_isLawful σ x2 x4) = 0 → ((¬ x3 = 0 → ∀ x3_7 : Int32, x3_7 = x3 + (-1) → ∀ x4_8 : Int32, x4_8 = x4 + 1 → K52 (σ, x2, x3_7, x4_8)) ∧ (x3 = 0 → Post ((x2 * 100) + x4) σ))))))
def wp_X0_pairAt_7 (g : (Nat → Nat)) (K7 : (KS × Int32 × Int32) → Prop) (Post : Int32 → KS → Prop) (σ : KS) (x1 : Int32) (x2 : Int32) : Prop :=
  vp_in 0 3 ∧ (((ks_mo σ (0 : Int32).toNatClampNeg) ≤ x2 → vp_in x2 100 ∧ ∀ x3_4 : Int32, x3_4 = (x1 - (ks_be σ x2.toNatClampNeg)) → vp_in 1 3 ∧ ∀ x4_6 : Int32, x4_6 = (ks_le σ (1 : Int32).toNatClampNeg) → LPX (fun K a => wp_X0_pairAt_52 g K Post a.1 a.2.1 a.2.2.1 a.2.2.2) (σ, x2, x3_4, x4_6)) ∧ (¬ (ks_mo σ (0 : Int32).toNatClampNeg) ≤ x2 → vp_in (x2 + 1) 100 ∧ ((x1 < (ks_be σ (x2 + 1).toNatClampNeg) → vp_in x2 100 ∧ ∀ x3_10 : Int32, x3_10 = (x1 - (ks_be σ x2.toNatClampNeg)) → vp_in 1 3 ∧ ∀ x4_12 : Int32, x4_12 = (ks_le σ (1 : Int32).toNatClampNeg) → LPX (fun K a => wp_X0_pairAt_52 g K Post a.1 a.2.1 a.2.2.1 a.2.2.2) (σ, x2, x3_10, x4_12)) ∧ (¬ x1 < (ks_be σ (x2 + 1).toNatClampNeg) → ∀ x2_13 : Int32, x2_13 = x2 + 1 → K7 (σ, x1, x2_13)))))
def wp_X0_pairAt (g : (Nat → Nat)) (Post : Int32 → KS → Prop) (σ : KS) (x1 : Int32) : Prop :=
  vp_in 0 3 ∧ ∀ x2_2 : Int32, x2_2 = (ks_le σ (0 : Int32).toNatClampNeg) → LPX (fun K a => wp_X0_pairAt_7 g K Post a.1 a.2.1 a.2.2) (σ, x1, x2_2)
def wp_X0_numberOf_45 (g : (Nat → Nat)) (Post : Int32 → KS → Prop) (σ : KS) (x1 : Int32) (x2 : Int32) (s0 : Int32) : Prop :=
  ((s0 = 0 → Post (-9) σ) ∧ (¬ s0 = 0 → (((fn_X0_isLawful σ x1 x2) = 0 → Post (-9) σ) ∧ (¬ (fn_X0_isLawful σ x1 x2) = 0 → vp_in x1 100 ∧ pr_X0_countBelow g σ x1 x2 ∧ Post ((ks_be σ x1.toNatClampNeg) + (fn_X0_countBelow g σ x1 x2)) σ))))
def wp_X0_numberOf_44 (g : (Nat → Nat)) (Post : Int32 → KS → Prop) (σ : KS) (x1 : Int32) (x2 : Int32) : Prop :=
  wp_X0_numberOf_45 g Post σ x1 x2 0
def wp_X0_numberOf (g : (Nat → Nat)) (Post : Int32 → KS → Prop) (σ : KS) (x1 : Int32) (x2 : Int32) : Prop :=
  vp_in 0 3 ∧ ((x1 < (ks_le σ (0 : Int32).toNatClampNeg) → wp_X0_numberOf_44 g Post σ x1 x2) ∧ (¬ x1 < (ks_le σ (0 : Int32).toNatClampNeg) → vp_in 0 3 ∧ (((ks_mo σ (0 : Int32).toNatClampNeg) < x1 → wp_X0_numberOf_44 g Post σ x1 x2) ∧ (¬ (ks_mo σ (0 : Int32).toNatClampNeg) < x1 → vp_in 1 3 ∧ ((x2 < (ks_le σ (1 : Int32).toNatClampNeg) → wp_X0_numberOf_44 g Post σ x1 x2) ∧ (¬ x2 < (ks_le σ (1 : Int32).toNatClampNeg) → vp_in 1 3 ∧ (((ks_mo σ (1 : Int32).toNatClampNeg) < x2 → wp_X0_numberOf_44 g Post σ x1 x2) ∧ (¬ (ks_mo σ (1 : Int32).toNatClampNeg) < x2 → wp_X0_numberOf_45 g Post σ x1 x2 1))))))))
def wp_X0_slipBehind_42 (g : (Nat → Nat)) (K42 : (KS × Int32 × Int32 × Int32 × Int32) → Prop) (Post : Int32 → KS → Prop) (σ : KS) (x2 : Int32) (x4 : Int32) (x5 : Int32) (x6 : Int32) : Prop :=
  ((5 < x6 → Post (-9) σ) ∧ (¬ 5 < x6 → ((¬ (fn_X0_slipped σ x4 x5 x6) = x2 → ∀ x6_4 : Int32, x6_4 = x6 + 1 → K42 (σ, x2, x4, x5, x6_4)) ∧ ((fn_X0_slipped σ x4 x5 x6) = x2 → Post x6 σ))))
def wp_X0_slipBehind (g : (Nat → Nat)) (Post : Int32 → KS → Prop) (σ : KS) (x1 : Int32) (x2 : Int32) : Prop :=
  pr_X0_pairAt g σ x1 ∧ ∀ x3_3 : Int32, x3_3 = (fn_X0_pairAt g σ x1) → ∀ x4_4 : Int32, x4_4 = (x3_3 / 100) → ∀ x5_5 : Int32, x5_5 = (x3_3 - x3_3 / 100 * 100) → ((¬ x2 = (fn_X0_result σ x4_4 x5_5) → ((0 ≤ x2 → LPX (fun K a => wp_X0_slipBehind_42 g K Post a.1 a.2.1 a.2.2.1 a.2.2.2.1 a.2.2.2.2) (σ, x2, x4_4, x5_5, 1)) ∧ (¬ 0 ≤ x2 → Post (-9) σ))) ∧ (x2 = (fn_X0_result σ x4_4 x5_5) → Post 0 σ))
def wp_X0_addPlace (g : (Nat → Nat)) (Post : Int32 → KS → Prop) (σ : KS) : Prop :=
  Post ((ks_pl (ks_s_pl σ ((ks_pl σ) + 1))) - 1) (ks_s_pl σ ((ks_pl σ) + 1))
def wp_X0_dropPlaces (g : (Nat → Nat)) (Post : Int32 → KS → Prop) (σ : KS) : Prop :=
  Post 0 (ks_s_pl σ 0)
def wp_X0_hasEnoughForTwo (g : (Nat → Nat)) (Post : Int32 → KS → Prop) (σ : KS) : Prop :=
  (((ks_co σ) < (2 * (ks_pl σ)) → Post 0 σ) ∧ (¬ (ks_co σ) < (2 * (ks_pl σ)) → Post 1 σ))
def wp_X0_variantFor (g : (Nat → Nat)) (Post : Int32 → KS → Prop) (σ : KS) (x1 : Int32) (x2 : Int32) : Prop :=
  (((ks_co σ) ≤ 0 → Post (-9) σ) ∧ (¬ (ks_co σ) ≤ 0 → vp_in 2 3 ∧ (¬ (ks_co σ) = 0) ∧ Post ((((x1 * (ks_pl σ)) + x2) + (ks_ru σ (2 : Int32).toNatClampNeg)) - (((x1 * (ks_pl σ)) + x2) + (ks_ru σ (2 : Int32).toNatClampNeg)) / (ks_co σ) * (ks_co σ)) σ))
def wp_X0_placesInCommon_32 (g : (Nat → Nat)) (K32 : (KS × Int32 × Int32 × Int32) → Prop) (Post : Int32 → KS → Prop) (σ : KS) (x3 : Int32) (x4 : Int32) (x5 : Int32) : Prop :=
  (((ks_pl σ) ≤ x5 → Post x4 σ) ∧ (¬ (ks_pl σ) ≤ x5 → (¬ (ks_co σ) = 0) ∧ (((ks_pl σ) ≤ ((x3 + x5) - (x3 + x5) / (ks_co σ) * (ks_co σ)) → ∀ x5_4 : Int32, x5_4 = x5 + 1 → K32 (σ, x3, x4, x5_4)) ∧ (¬ (ks_pl σ) ≤ ((x3 + x5) - (x3 + x5) / (ks_co σ) * (ks_co σ)) → ∀ x4_5 : Int32, x4_5 = x4 + 1 → ∀ x5_6 : Int32, x5_6 = x5 + 1 → K32 (σ, x3, x4_5, x5_6)))))
def wp_X0_placesInCommon (g : (Nat → Nat)) (Post : Int32 → KS → Prop) (σ : KS) (x1 : Int32) (x2 : Int32) : Prop :=
  ((1 ≤ (ks_co σ) → pr_J9_floorMod_7cf53 ((x1 - x2) * (ks_pl σ)) (ks_co σ) ∧ ∀ x3_4 : Int32, x3_4 = (fn_J9_floorMod_7cf53 ((x1 - x2) * (ks_pl σ)) (ks_co σ)) → LPX (fun K a => wp_X0_placesInCommon_32 g K Post a.1 a.2.1 a.2.2.1 a.2.2.2) (σ, x3_4, 0, 0)) ∧ (¬ 1 ≤ (ks_co σ) → Post 0 σ))
def wp_X1_isKind (g : CS) (Post : Int32 → XS → Prop) (σ : XS) (x1 : Int32) : Prop :=
  ((x1 < 0 → Post 0 σ) ∧ (¬ x1 < 0 → (((xs_kc σ) ≤ x1 → Post 0 σ) ∧ (¬ (xs_kc σ) ≤ x1 → Post 1 σ))))
def wp_X1_isVariant (g : CS) (Post : Int32 → XS → Prop) (σ : XS) (x1 : Int32) (x2 : Int32) : Prop :=
  (((fn_X1_isKind σ x1) = 0 → Post 0 σ) ∧ (¬ (fn_X1_isKind σ x1) = 0 → ((x2 < 0 → Post 0 σ) ∧ (¬ x2 < 0 → vp_in x1 8 ∧ (((fn_X0_size (xs_ki σ (x1.toNatClampNeg))) ≤ x2 → Post 0 σ) ∧ (¬ (fn_X0_size (xs_ki σ (x1.toNatClampNeg))) ≤ x2 → Post 1 σ))))))
def wp_X1_kind (g : CS) (Post : Int32 → XS → Prop) (σ : XS) (x1 : Int32) : Prop :=
  ((x1 < 0 → Post (-2) σ) ∧ (¬ x1 < 0 → ((x1 ≤ 3 → ((¬ (xs_kc σ) = 8 → vp_in (xs_kc σ) 8 ∧ pr_X0_open (cq g ((xs_kc σ).toNatClampNeg)) (xs_ki σ ((xs_kc σ).toNatClampNeg)) x1 ∧ ∀ u7 : KS, po_X0_open (cq g ((xs_kc σ).toNatClampNeg)) (xs_ki σ ((xs_kc σ).toNatClampNeg)) x1 0 u7 → Post ((xs_kc (xs_s_kc (xs_sk σ ((xs_kc σ).toNatClampNeg) u7) ((xs_kc (xs_sk σ ((xs_kc σ).toNatClampNeg) u7)) + 1))) - 1) (xs_s_kc (xs_sk σ ((xs_kc σ).toNatClampNeg) u7) ((xs_kc (xs_sk σ ((xs_kc σ).toNatClampNeg) u7)) + 1))) ∧ ((xs_kc σ) = 8 → Post (-4) σ))) ∧ (¬ x1 ≤ 3 → Post (-2) σ))))
def wp_X1_range (g : CS) (Post : Int32 → XS → Prop) (σ : XS) (x1 : Int32) (x2 : Int32) (x3 : Int32) (x4 : Int32) : Prop :=
  ((¬ (fn_X1_isKind σ x1) = 0 → ((¬ (fn_X0_isRange x2 x3 x4) = 0 → vp_in x1 8 ∧ pr_X0_setRange (cq g (x1.toNatClampNeg)) (xs_ki σ (x1.toNatClampNeg)) x2 x3 x4 ∧ ∀ u8 : KS, po_X0_setRange (cq g (x1.toNatClampNeg)) (xs_ki σ (x1.toNatClampNeg)) x2 x3 x4 0 u8 → vp_in x1 8 ∧ Post (fn_X0_size (xs_ki (xs_sk σ (x1.toNatClampNeg) u8) (x1.toNatClampNeg))) (xs_sk σ (x1.toNatClampNeg) u8)) ∧ ((fn_X0_isRange x2 x3 x4) = 0 → Post (-2) σ))) ∧ ((fn_X1_isKind σ x1) = 0 → Post (-1) σ))
def wp_X1_rule (g : CS) (Post : Int32 → XS → Prop) (σ : XS) (x1 : Int32) (x2 : Int32) (x3 : Int32) : Prop :=
  ((¬ (fn_X1_isKind σ x1) = 0 → ((¬ (fn_X0_isRule x2 x3) = 0 → vp_in x1 8 ∧ pr_X0_setRule (cq g (x1.toNatClampNeg)) (xs_ki σ (x1.toNatClampNeg)) x2 x3 ∧ ∀ (r7 : Int32) (u8 : KS), po_X0_setRule (cq g (x1.toNatClampNeg)) (xs_ki σ (x1.toNatClampNeg)) x2 x3 r7 u8 → Post r7 (xs_sk σ (x1.toNatClampNeg) u8)) ∧ ((fn_X0_isRule x2 x3) = 0 → Post (-2) σ))) ∧ ((fn_X1_isKind σ x1) = 0 → Post (-1) σ))
def wp_X1_variants (g : CS) (Post : Int32 → XS → Prop) (σ : XS) (x1 : Int32) : Prop :=
  (((fn_X1_isKind σ x1) = 0 → Post (-1) σ) ∧ (¬ (fn_X1_isKind σ x1) = 0 → vp_in x1 8 ∧ Post (fn_X0_size (xs_ki σ (x1.toNatClampNeg))) σ))
def wp_X1_variant (g : CS) (Post : Int32 → XS → Prop) (σ : XS) (x1 : Int32) (x2 : Int32) (x3 : Int32) : Prop :=
  pr_X1_isVariant g σ x1 x2 ∧ ((¬ (fn_X1_isVariant g σ x1 x2) = 0 → vp_in x1 8 ∧ pr_X0_pairAt (cq g (x1.toNatClampNeg)) (xs_ki σ (x1.toNatClampNeg)) x2 ∧ ∀ x4_7 : Int32, x4_7 = (fn_X0_pairAt (cq g (x1.toNatClampNeg)) (xs_ki σ (x1.toNatClampNeg)) x2) → ∀ x5_8 : Int32, x5_8 = (x4_7 / 100) → ∀ x6_9 : Int32, x6_9 = (x4_7 - x4_7 / 100 * 100) → ((x3 = 0 → Post x5_8 σ) ∧ (¬ x3 = 0 → ((x3 = 1 → Post x6_9 σ) ∧ (¬ x3 = 1 → ((x3 = 2 → vp_in x1 8 ∧ Post (fn_X0_result (xs_ki σ (x1.toNatClampNeg)) x5_8 x6_9) σ) ∧ (¬ x3 = 2 → ((x3 = 3 → vp_in x1 8 ∧ (((fn_X0_carries (xs_ki σ (x1.toNatClampNeg)) x5_8 x6_9) = 0 → Post 0 σ) ∧ (¬ (fn_X0_carries (xs_ki σ (x1.toNatClampNeg)) x5_8 x6_9) = 0 → Post 1 σ))) ∧ (¬ x3 = 3 → Post (-2) σ))))))))) ∧ ((fn_X1_isVariant g σ x1 x2) = 0 → Post (-1) σ))
def wp_X1_find (g : CS) (Post : Int32 → XS → Prop) (σ : XS) (x1 : Int32) (x2 : Int32) (x3 : Int32) : Prop :=
  (((fn_X1_isKind σ x1) = 0 → Post (-1) σ) ∧ (¬ (fn_X1_isKind σ x1) = 0 → vp_in x1 8 ∧ pr_X0_numberOf (cq g (x1.toNatClampNeg)) (xs_ki σ (x1.toNatClampNeg)) x2 x3 ∧ Post (fn_X0_numberOf (cq g (x1.toNatClampNeg)) (xs_ki σ (x1.toNatClampNeg)) x2 x3) σ))
def wp_X1_slip (g : CS) (Post : Int32 → XS → Prop) (σ : XS) (x1 : Int32) (x2 : Int32) (x3 : Int32) : Prop :=
  pr_X1_isVariant g σ x1 x2 ∧ ((¬ (fn_X1_isVariant g σ x1 x2) = 0 → ((x3 < 1 → Post (-2) σ) ∧ (¬ x3 < 1 → ((x3 ≤ 5 → vp_in x1 8 ∧ pr_X0_pairAt (cq g (x1.toNatClampNeg)) (xs_ki σ (x1.toNatClampNeg)) x2 ∧ ∀ x4_9 : Int32, x4_9 = (fn_X0_pairAt (cq g (x1.toNatClampNeg)) (xs_ki σ (x1.toNatClampNeg)) x2) → vp_in x1 8 ∧ Post (fn_X0_slipped (xs_ki σ (x1.toNatClampNeg)) (x4_9 / 100) (x4_9 - x4_9 / 100 * 100) x3) σ) ∧ (¬ x3 ≤ 5 → Post (-2) σ))))) ∧ ((fn_X1_isVariant g σ x1 x2) = 0 → Post (-1) σ))
def wp_X1_tells (g : CS) (Post : Int32 → XS → Prop) (σ : XS) (x1 : Int32) (x2 : Int32) (x3 : Int32) : Prop :=
  pr_X1_isVariant g σ x1 x2 ∧ (((fn_X1_isVariant g σ x1 x2) = 0 → Post (-1) σ) ∧ (¬ (fn_X1_isVariant g σ x1 x2) = 0 → vp_in x1 8 ∧ pr_X0_slipBehind (cq g (x1.toNatClampNeg)) (xs_ki σ (x1.toNatClampNeg)) x2 x3 ∧ Post (fn_X0_slipBehind (cq g (x1.toNatClampNeg)) (xs_ki σ (x1.toNatClampNeg)) x2 x3) σ))
def wp_X1_isPlace (g : CS) (Post : Int32 → XS → Prop) (σ : XS) (x1 : Int32) : Prop :=
  ((x1 < 0 → Post 0 σ) ∧ (¬ x1 < 0 → (((xs_pc σ) ≤ x1 → Post 0 σ) ∧ (¬ (xs_pc σ) ≤ x1 → Post 1 σ))))
def wp_X1_plan_40 (g : CS) (K40 : (XS × Int32 × Int32 × Int32) → Prop) (Post : Int32 → XS → Prop) (σ : XS) (x1 : Int32) (x2 : Int32) (x3 : Int32) : Prop :=
  ((x2 ≤ x3 → Post (xs_pc σ) σ) ∧ (¬ x2 ≤ x3 → vp_in (xs_pc σ) 40 ∧ vp_in x1 8 ∧ ∀ (r4 : Int32) (u5 : KS), po_X0_addPlace (cq g (x1.toNatClampNeg)) (xs_ki (xs_s_pk σ (upd (xs_pk σ) (xs_pc σ).toNatClampNeg x1)) (x1.toNatClampNeg)) r4 u5 → vp_in (xs_pc (xs_s_pk σ (upd (xs_pk σ) (xs_pc σ).toNatClampNeg x1))) 40 ∧ ∀ x3_7 : Int32, x3_7 = x3 + 1 → K40 ((xs_s_pc (xs_s_tu (xs_sk (xs_s_pk σ (upd (xs_pk σ) (xs_pc σ).toNatClampNeg x1)) (x1.toNatClampNeg) u5) (upd (xs_tu (xs_sk (xs_s_pk σ (upd (xs_pk σ) (xs_pc σ).toNatClampNeg x1)) (x1.toNatClampNeg) u5)) (xs_pc (xs_s_pk σ (upd (xs_pk σ) (xs_pc σ).toNatClampNeg x1))).toNatClampNeg r4)) ((xs_pc (xs_s_tu (xs_sk (xs_s_pk σ (upd (xs_pk σ) (xs_pc σ).toNatClampNeg x1)) (x1.toNatClampNeg) u5) (upd (xs_tu (xs_sk (xs_s_pk σ (upd (xs_pk σ) (xs_pc σ).toNatClampNeg x1)) (x1.toNatClampNeg) u5)) (xs_pc (xs_s_pk σ (upd (xs_pk σ) (xs_pc σ).toNatClampNeg x1))).toNatClampNeg r4))) + 1)), x1, x2, x3_7)))
def wp_X1_plan (g : CS) (Post : Int32 → XS → Prop) (σ : XS) (x1 : Int32) (x2 : Int32) : Prop :=
  ((¬ (fn_X1_isKind σ x1) = 0 → ((x2 < 1 → Post (-2) σ) ∧ (¬ x2 < 1 → ((x2 ≤ 40 → ((x2 ≤ (40 - (xs_pc σ)) → LPX (fun K a => wp_X1_plan_40 g K Post a.1 a.2.1 a.2.2.1 a.2.2.2) (σ, x1, x2, 0)) ∧ (¬ x2 ≤ (40 - (xs_pc σ)) → Post (-4) σ))) ∧ (¬ x2 ≤ 40 → Post (-2) σ))))) ∧ ((fn_X1_isKind σ x1) = 0 → Post (-1) σ))
def wp_X1_clear_12 (g : CS) (K12 : (XS × Int32 × Int32) → Prop) (Post : Int32 → XS → Prop) (σ : XS) (x1 : Int32) (x2 : Int32) : Prop :=
  (((xs_kc σ) ≤ x2 → Post x1 σ) ∧ (¬ (xs_kc σ) ≤ x2 → vp_in x2 8 ∧ ∀ u4 : KS, po_X0_dropPlaces (cq g (x2.toNatClampNeg)) (xs_ki σ (x2.toNatClampNeg)) 0 u4 → ∀ x2_5 : Int32, x2_5 = x2 + 1 → K12 ((xs_sk σ (x2.toNatClampNeg) u4), x1, x2_5)))
def wp_X1_clear (g : CS) (Post : Int32 → XS → Prop) (σ : XS) : Prop :=
  ∀ x1_1 : Int32, x1_1 = (xs_pc σ) → LPX (fun K a => wp_X1_clear_12 g K Post a.1 a.2.1 a.2.2) ((xs_s_pc σ 0), x1_1, 0)
def wp_X1_placed (g : CS) (Post : Int32 → XS → Prop) (σ : XS) (x1 : Int32) : Prop :=
  (((fn_X1_isPlace σ x1) = 0 → Post (-1) σ) ∧ (¬ (fn_X1_isPlace σ x1) = 0 → vp_in x1 40 ∧ Post (xs_pk σ x1.toNatClampNeg) σ))
def wp_X1_lines (g : CS) (Post : Int32 → XS → Prop) (σ : XS) (x1 : Int32) : Prop :=
  ((x1 < 9 → Post (-2) σ) ∧ (¬ x1 < 9 → ((x1 ≤ 99 → ∀ x2_3 : Int32, x2_3 = (xs_li σ) → Post x2_3 (xs_s_li σ x1)) ∧ (¬ x1 ≤ 99 → Post (-2) σ))))
def wp_X1_pageAndLine_10 (g : CS) (K10 : (XS × Int32 × Int32 × Int32 × Int32 × Int32) → Prop) (Post : Int32 → XS → Prop) (σ : XS) (x1 : Int32) (x2 : Int32) (x3 : Int32) (x4 : Int32) (x5 : Int32) : Prop :=
  ((x1 < x5 → Post ((x2 * 100) + x3) σ) ∧ (¬ x1 < x5 → vp_in x5 40 ∧ vp_in (xs_pk σ x5.toNatClampNeg) 8 ∧ ∀ x6_5 : Int32, x6_5 = (fn_X0_linesTaken (xs_ki σ ((xs_pk σ x5.toNatClampNeg).toNatClampNeg))) → (((x4 + x6_5) ≤ (xs_li σ) → ∀ x4_7 : Int32, x4_7 = (x4 + x6_5) → ∀ x5_8 : Int32, x5_8 = x5 + 1 → K10 (σ, x1, x2, x4, x4_7, x5_8)) ∧ (¬ (x4 + x6_5) ≤ (xs_li σ) → ∀ x2_9 : Int32, x2_9 = x2 + 1 → ∀ x4_10 : Int32, x4_10 = (0 + x6_5) → ∀ x5_11 : Int32, x5_11 = x5 + 1 → K10 (σ, x1, x2_9, 0, x4_10, x5_11)))))
def wp_X1_pageAndLine (g : CS) (Post : Int32 → XS → Prop) (σ : XS) (x1 : Int32) : Prop :=
  LPX (fun K a => wp_X1_pageAndLine_10 g K Post a.1 a.2.1 a.2.2.1 a.2.2.2.1 a.2.2.2.2.1 a.2.2.2.2.2) (σ, x1, 0, 0, 0, 0)
def wp_X1_pages (g : CS) (Post : Int32 → XS → Prop) (σ : XS) : Prop :=
  ((¬ (xs_pc σ) = 0 → pr_X1_pageAndLine g σ ((xs_pc σ) - 1) ∧ Post (((fn_X1_pageAndLine g σ ((xs_pc σ) - 1)) / 100) + 1) σ) ∧ ((xs_pc σ) = 0 → Post 0 σ))
def wp_X1_page (g : CS) (Post : Int32 → XS → Prop) (σ : XS) (x1 : Int32) (x2 : Int32) : Prop :=
  ((¬ (fn_X1_isPlace σ x1) = 0 → pr_X1_pageAndLine g σ x1 ∧ ∀ x3_5 : Int32, x3_5 = (fn_X1_pageAndLine g σ x1) → ((x2 = 0 → Post (x3_5 / 100) σ) ∧ (¬ x2 = 0 → Post (x3_5 - x3_5 / 100 * 100) σ))) ∧ ((fn_X1_isPlace σ x1) = 0 → Post (-1) σ))
def wp_X1_lacksVariants_2 (g : CS) (K2 : (XS × Int32) → Prop) (Post : Int32 → XS → Prop) (σ : XS) (x1 : Int32) : Prop :=
  (((xs_pc σ) ≤ x1 → Post 0 σ) ∧ (¬ (xs_pc σ) ≤ x1 → vp_in x1 40 ∧ vp_in (xs_pk σ x1.toNatClampNeg) 8 ∧ ((¬ (fn_X0_size (xs_ki σ ((xs_pk σ x1.toNatClampNeg).toNatClampNeg))) = 0 → ∀ x1_6 : Int32, x1_6 = x1 + 1 → K2 (σ, x1_6)) ∧ ((fn_X0_size (xs_ki σ ((xs_pk σ x1.toNatClampNeg).toNatClampNeg))) = 0 → Post 1 σ))))
def wp_X1_lacksVariants (g : CS) (Post : Int32 → XS → Prop) (σ : XS) : Prop :=
  LPX (fun K a => wp_X1_lacksVariants_2 g K Post a.1 a.2) (σ, 0)
def wp_X1_sheetRefusal (g : CS) (Post : Int32 → XS → Prop) (σ : XS) (x1 : Int32) : Prop :=
  ((¬ (fn_X1_isSheet x1) = 0 → pr_X1_lacksVariants g σ ∧ (((fn_X1_lacksVariants g σ) = 0 → Post 0 σ) ∧ (¬ (fn_X1_lacksVariants g σ) = 0 → Post (-3) σ))) ∧ ((fn_X1_isSheet x1) = 0 → Post (-2) σ))
def wp_X1_placeRefusal (g : CS) (Post : Int32 → XS → Prop) (σ : XS) (x1 : Int32) (x2 : Int32) : Prop :=
  (((fn_X1_isPlace σ x2) = 0 → Post (-1) σ) ∧ (¬ (fn_X1_isPlace σ x2) = 0 → pr_X1_sheetRefusal g σ x1 ∧ Post (fn_X1_sheetRefusal g σ x1) σ))
def wp_X1_variantOn (g : CS) (Post : Int32 → XS → Prop) (σ : XS) (x1 : Int32) (x2 : Int32) : Prop :=
  vp_in x2 40 ∧ vp_in (xs_pk σ x2.toNatClampNeg) 8 ∧ vp_in x2 40 ∧ Post (fn_X0_variantFor (xs_ki σ ((xs_pk σ x2.toNatClampNeg).toNatClampNeg)) x1 (xs_tu σ x2.toNatClampNeg)) σ
def wp_X1_answerOn (g : CS) (Post : Int32 → XS → Prop) (σ : XS) (x1 : Int32) (x2 : Int32) : Prop :=
  vp_in x2 40 ∧ vp_in (xs_pk σ x2.toNatClampNeg) 8 ∧ pr_X1_variantOn g σ x1 x2 ∧ pr_X0_pairAt (cq g ((xs_pk σ x2.toNatClampNeg).toNatClampNeg)) (xs_ki σ ((xs_pk σ x2.toNatClampNeg).toNatClampNeg)) (fn_X1_variantOn g σ x1 x2) ∧ ∀ x4_7 : Int32, x4_7 = (fn_X0_pairAt (cq g ((xs_pk σ x2.toNatClampNeg).toNatClampNeg)) (xs_ki σ ((xs_pk σ x2.toNatClampNeg).toNatClampNeg)) (fn_X1_variantOn g σ x1 x2)) → Post (fn_X0_result (xs_ki σ ((xs_pk σ x2.toNatClampNeg).toNatClampNeg)) (x4_7 / 100) (x4_7 - x4_7 / 100 * 100)) σ
def wp_X1_sheet (g : CS) (Post : Int32 → XS → Prop) (σ : XS) (x1 : Int32) (x2 : Int32) : Prop :=
  pr_X1_placeRefusal g σ x1 x2 ∧ ∀ x3_3 : Int32, x3_3 = (fn_X1_placeRefusal g σ x1 x2) → ((¬ x3_3 = 0 → Post x3_3 σ) ∧ (x3_3 = 0 → pr_X1_variantOn g σ x1 x2 ∧ Post (fn_X1_variantOn g σ x1 x2) σ))
def wp_X1_answer (g : CS) (Post : Int32 → XS → Prop) (σ : XS) (x1 : Int32) (x2 : Int32) : Prop :=
  pr_X1_placeRefusal g σ x1 x2 ∧ ∀ x3_3 : Int32, x3_3 = (fn_X1_placeRefusal g σ x1 x2) → ((¬ x3_3 = 0 → Post x3_3 σ) ∧ (x3_3 = 0 → pr_X1_answerOn g σ x1 x2 ∧ Post (fn_X1_answerOn g σ x1 x2) σ))
def wp_X1_code_17 (g : CS) (K17 : (XS × Int32 × Int32 × Int32) → Prop) (Post : Int32 → XS → Prop) (σ : XS) (x1 : Int32) (x3 : Int32) (x4 : Int32) : Prop :=
  (((xs_pc σ) ≤ x4 → Post (x3 - x3 / 97 * 97) σ) ∧ (¬ (xs_pc σ) ≤ x4 → pr_X1_answerOn g σ x1 x4 ∧ ∀ x3_4 : Int32, x3_4 = (x3 + ((fn_X1_answerOn g σ x1 x4) * (x4 + 1))) → ∀ x4_5 : Int32, x4_5 = x4 + 1 → K17 (σ, x1, x3_4, x4_5)))
def wp_X1_code (g : CS) (Post : Int32 → XS → Prop) (σ : XS) (x1 : Int32) : Prop :=
  pr_X1_sheetRefusal g σ x1 ∧ ∀ x2_3 : Int32, x2_3 = (fn_X1_sheetRefusal g σ x1) → ((x2_3 = 0 → LPX (fun K a => wp_X1_code_17 g K Post a.1 a.2.1 a.2.2.1 a.2.2.2) (σ, x1, 0, 0)) ∧ (¬ x2_3 = 0 → Post x2_3 σ))
def wp_X1_shared_32 (g : CS) (K32 : (XS × Int32 × Int32 × Int32 × Int32) → Prop) (Post : Int32 → XS → Prop) (σ : XS) (x1 : Int32) (x2 : Int32) (x3 : Int32) (x4 : Int32) : Prop :=
  (((xs_kc σ) ≤ x4 → Post x3 σ) ∧ (¬ (xs_kc σ) ≤ x4 → vp_in x4 8 ∧ pr_X0_placesInCommon (cq g (x4.toNatClampNeg)) (xs_ki σ (x4.toNatClampNeg)) x1 x2 ∧ ∀ x3_5 : Int32, x3_5 = (x3 + (fn_X0_placesInCommon (cq g (x4.toNatClampNeg)) (xs_ki σ (x4.toNatClampNeg)) x1 x2)) → ∀ x4_6 : Int32, x4_6 = x4 + 1 → K32 (σ, x1, x2, x3_5, x4_6)))
def wp_X1_shared (g : CS) (Post : Int32 → XS → Prop) (σ : XS) (x1 : Int32) (x2 : Int32) : Prop :=
  (((fn_X1_isSheet x1) = 0 → Post (-2) σ) ∧ (¬ (fn_X1_isSheet x1) = 0 → ((¬ (fn_X1_isSheet x2) = 0 → pr_X1_lacksVariants g σ ∧ (((fn_X1_lacksVariants g σ) = 0 → LPX (fun K a => wp_X1_shared_32 g K Post a.1 a.2.1 a.2.2.1 a.2.2.2.1 a.2.2.2.2) (σ, x1, x2, 0, 0)) ∧ (¬ (fn_X1_lacksVariants g σ) = 0 → Post (-3) σ))) ∧ ((fn_X1_isSheet x2) = 0 → Post (-2) σ))))
def wp_X1_apart_14 (g : CS) (K14 : (XS × Int32 × Int32) → Prop) (Post : Int32 → XS → Prop) (σ : XS) (x1 : Int32) (x3 : Int32) : Prop :=
  (((xs_kc σ) ≤ x3 → ((9999 ≤ x1 → Post (-9) σ) ∧ (¬ 9999 ≤ x1 → Post (x1 + 1) σ))) ∧ (¬ (xs_kc σ) ≤ x3 → vp_in x3 8 ∧ ((¬ (fn_X0_hasEnoughForTwo (xs_ki σ (x3.toNatClampNeg))) = 0 → ∀ x3_6 : Int32, x3_6 = x3 + 1 → K14 (σ, x1, x3_6)) ∧ ((fn_X0_hasEnoughForTwo (xs_ki σ (x3.toNatClampNeg))) = 0 → Post (-9) σ))))
def wp_X1_apart (g : CS) (Post : Int32 → XS → Prop) (σ : XS) (x1 : Int32) : Prop :=
  pr_X1_sheetRefusal g σ x1 ∧ ∀ x2_3 : Int32, x2_3 = (fn_X1_sheetRefusal g σ x1) → ((x2_3 = 0 → LPX (fun K a => wp_X1_apart_14 g K Post a.1 a.2.1 a.2.2) (σ, x1, 0)) ∧ (¬ x2_3 = 0 → Post x2_3 σ))
def wp_X1_seats_48 (g : CS) (K48 : (XS × Int32 × Int32) → Prop) (Post : Int32 → XS → Prop) (σ : XS) (x3 : Int32) (x4 : Int32) : Prop :=
  ((512 ≤ x4 → Post x3 σ) ∧ (¬ 512 ≤ x4 → vp_in x4 512 ∧ ∀ x4_3 : Int32, x4_3 = x4 + 1 → K48 ((xs_s_mi σ (upd (xs_mi σ) x4.toNatClampNeg 0)), x3, x4_3)))
def wp_X1_seats (g : CS) (Post : Int32 → XS → Prop) (σ : XS) (x1 : Int32) (x2 : Int32) : Prop :=
  ((x1 < 1 → Post (-2) σ) ∧ (¬ x1 < 1 → ((8 < x1 → Post (-2) σ) ∧ (¬ 8 < x1 → ((x2 < 1 → Post (-2) σ) ∧ (¬ x2 < 1 → ((x2 ≤ 8 → ∀ x3_5 : Int32, x3_5 = ((xs_rc σ) * (xs_cc σ)) → LPX (fun K a => wp_X1_seats_48 g K Post a.1 a.2.1 a.2.2) ((xs_s_cc (xs_s_rc σ x1) x2), x3_5, 0)) ∧ (¬ x2 ≤ 8 → Post (-2) σ))))))))
def wp_X1_base (g : CS) (Post : Int32 → XS → Prop) (σ : XS) (x1 : Int32) : Prop :=
  ((x1 < 0 → Post (-2) σ) ∧ (¬ x1 < 0 → ((x1 ≤ 9000 → ∀ x2_3 : Int32, x2_3 = (xs_bn σ) → Post x2_3 (xs_s_bn σ x1)) ∧ (¬ x1 ≤ 9000 → Post (-2) σ))))
def wp_X1_isSeat (g : CS) (Post : Int32 → XS → Prop) (σ : XS) (x1 : Int32) : Prop :=
  ((x1 < 0 → Post 0 σ) ∧ (¬ x1 < 0 → (((xs_rc σ) ≤ (x1 / 10) → Post 0 σ) ∧ (¬ (xs_rc σ) ≤ (x1 / 10) → (((xs_cc σ) ≤ (x1 - x1 / 10 * 10) → Post 0 σ) ∧ (¬ (xs_cc σ) ≤ (x1 - x1 / 10 * 10) → Post 1 σ))))))
def wp_X1_sheetAt (g : CS) (Post : Int32 → XS → Prop) (σ : XS) (x1 : Int32) : Prop :=
  ∀ x2_1 : Int32, x2_1 = ((x1 / 10) - (x1 / 10) / 2 * 2) → ∀ x3_2 : Int32, x3_2 = ((x1 - x1 / 10 * 10) - (x1 - x1 / 10 * 10) / 2 * 2) → Post (((xs_bn σ) + (x2_1 * (if 2 < (xs_cc σ) then 2 else (xs_cc σ)))) + x3_2) σ
def wp_X1_seat (g : CS) (Post : Int32 → XS → Prop) (σ : XS) (x1 : Int32) : Prop :=
  (((fn_X1_isSeat σ x1) = 0 → Post (-1) σ) ∧ (¬ (fn_X1_isSeat σ x1) = 0 → Post (fn_X1_sheetAt σ x1) σ))
def wp_X1_unlike (g : CS) (Post : Int32 → XS → Prop) (σ : XS) : Prop :=
  Post ((if 2 < (xs_rc σ) then 2 else (xs_rc σ)) * (if 2 < (xs_cc σ) then 2 else (xs_cc σ))) σ
def wp_X1_missesFrom (g : CS) (Post : Int32 → XS → Prop) (σ : XS) (x1 : Int32) : Prop :=
  Post ((((x1 / 10) * 8) + (x1 - x1 / 10 * 10)) * 8) σ
def wp_X1_mark (g : CS) (Post : Int32 → XS → Prop) (σ : XS) (x1 : Int32) (x2 : Int32) (x3 : Int32) : Prop :=
  (((fn_X1_isSeat σ x1) = 0 → Post (-1) σ) ∧ (¬ (fn_X1_isSeat σ x1) = 0 → ((¬ (fn_X1_isPlace σ x2) = 0 → pr_X1_lacksVariants g σ ∧ (((fn_X1_lacksVariants g σ) = 0 → vp_in x2 40 ∧ ∀ x4_9 : Int32, x4_9 = (xs_pk σ x2.toNatClampNeg) → vp_in x4_9 8 ∧ pr_X1_variantOn g σ (fn_X1_sheetAt σ x1) x2 ∧ pr_X0_slipBehind (cq g (x4_9.toNatClampNeg)) (xs_ki σ (x4_9.toNatClampNeg)) (fn_X1_variantOn g σ (fn_X1_sheetAt σ x1) x2) x3 ∧ ∀ x5_16 : Int32, x5_16 = (fn_X0_slipBehind (cq g (x4_9.toNatClampNeg)) (xs_ki σ (x4_9.toNatClampNeg)) (fn_X1_variantOn g σ (fn_X1_sheetAt σ x1) x2) x3) → ((¬ x5_16 = 0 → vp_in ((fn_X1_missesFrom (xs_s_wm σ ((xs_wm σ) + 1)) x1) + x4_9) 512 ∧ vp_in ((fn_X1_missesFrom (xs_s_wm σ ((xs_wm σ) + 1)) x1) + x4_9) 512 ∧ Post x5_16 (xs_s_mi (xs_s_wm σ ((xs_wm σ) + 1)) (upd (xs_mi (xs_s_wm σ ((xs_wm σ) + 1))) ((fn_X1_missesFrom (xs_s_wm σ ((xs_wm σ) + 1)) x1) + x4_9).toNatClampNeg ((xs_mi (xs_s_wm σ ((xs_wm σ) + 1)) ((fn_X1_missesFrom (xs_s_wm σ ((xs_wm σ) + 1)) x1) + x4_9).toNatClampNeg) + 1)))) ∧ (x5_16 = 0 → Post x5_16 (xs_s_rm σ ((xs_rm σ) + 1))))) ∧ (¬ (fn_X1_lacksVariants g σ) = 0 → Post (-3) σ))) ∧ ((fn_X1_isPlace σ x2) = 0 → Post (-1) σ))))
def wp_X1_missesAt_11 (g : CS) (K11 : (XS × Int32 × Int32 × Int32) → Prop) (Post : Int32 → XS → Prop) (σ : XS) (x2 : Int32) (x3 : Int32) (x4 : Int32) : Prop :=
  ((8 ≤ x4 → Post x3 σ) ∧ (¬ 8 ≤ x4 → vp_in (x2 + x4) 512 ∧ ∀ x3_3 : Int32, x3_3 = (x3 + (xs_mi σ (x2 + x4).toNatClampNeg)) → ∀ x4_4 : Int32, x4_4 = x4 + 1 → K11 (σ, x2, x3_3, x4_4)))
def wp_X1_missesAt (g : CS) (Post : Int32 → XS → Prop) (σ : XS) (x1 : Int32) : Prop :=
  ∀ x2_2 : Int32, x2_2 = (fn_X1_missesFrom σ x1) → LPX (fun K a => wp_X1_missesAt_11 g K Post a.1 a.2.1 a.2.2.1 a.2.2.2) (σ, x2_2, 0, 0)
def wp_X1_missed_24 (g : CS) (Post : Int32 → XS → Prop) (σ : XS) (x1 : Int32) (x2 : Int32) : Prop :=
  ((¬ x2 = (-9) → vp_in ((fn_X1_missesFrom σ x1) + x2) 512 ∧ Post (xs_mi σ ((fn_X1_missesFrom σ x1) + x2).toNatClampNeg) σ) ∧ (x2 = (-9) → pr_X1_missesAt g σ x1 ∧ Post (fn_X1_missesAt g σ x1) σ))
def wp_X1_missed (g : CS) (Post : Int32 → XS → Prop) (σ : XS) (x1 : Int32) (x2 : Int32) : Prop :=
  (((fn_X1_isSeat σ x1) = 0 → Post (-1) σ) ∧ (¬ (fn_X1_isSeat σ x1) = 0 → ((x2 = (-9) → wp_X1_missed_24 g Post σ x1 x2) ∧ (¬ x2 = (-9) → ((¬ (fn_X1_isKind σ x2) = 0 → wp_X1_missed_24 g Post σ x1 x2) ∧ ((fn_X1_isKind σ x2) = 0 → Post (-1) σ))))))
def wp_X1_reviewPlaces_47 (g : CS) (K47 : (XS × Int32 × Int32 × Int32 × Int32 × Int32 × Int32 × Int32 × Int32) → Prop) (Post : Int32 → XS → Prop) (σ : XS) (x2 : Int32) (x3 : Int32) (x4 : Int32) (x5 : Int32) (x6 : Int32) (x7 : Int32) (x8 : Int32) (x9 : Int32) : Prop :=
  ((8 ≤ x9 → vp_in (x4 + x3) 512 ∧ (¬ x5 = 0) ∧ ∀ x9_4 : Int32, x9_4 = ((x2 * (xs_mi σ (x4 + x3).toNatClampNeg)) / x5) → ((x7 ≤ x8 → Post x9_4 σ) ∧ (¬ x7 ≤ x8 → Post (x9_4 + 1) σ))) ∧ (¬ 8 ≤ x9 → vp_in (x4 + x9) 512 ∧ ∀ x10_7 : Int32, x10_7 = (x2 * (xs_mi σ (x4 + x9).toNatClampNeg)) → (¬ x5 = 0) ∧ ∀ x7_9 : Int32, x7_9 = (x7 - (x10_7 / x5)) → (¬ x5 = 0) ∧ ((x6 < (x10_7 - x10_7 / x5 * x5) → ∀ x8_12 : Int32, x8_12 = x8 + 1 → ∀ x9_13 : Int32, x9_13 = x9 + 1 → K47 (σ, x2, x3, x4, x5, x6, x7_9, x8_12, x9_13)) ∧ (¬ x6 < (x10_7 - x10_7 / x5 * x5) → (¬ x5 = 0) ∧ ((¬ (x10_7 - x10_7 / x5 * x5) = x6 → ∀ x9_16 : Int32, x9_16 = x9 + 1 → K47 (σ, x2, x3, x4, x5, x6, x7_9, x8, x9_16)) ∧ ((x10_7 - x10_7 / x5 * x5) = x6 → ((x3 ≤ x9 → ∀ x9_18 : Int32, x9_18 = x9 + 1 → K47 (σ, x2, x3, x4, x5, x6, x7_9, x8, x9_18)) ∧ (¬ x3 ≤ x9 → ∀ x8_19 : Int32, x8_19 = x8 + 1 → ∀ x9_20 : Int32, x9_20 = x9 + 1 → K47 (σ, x2, x3, x4, x5, x6, x7_9, x8_19, x9_20)))))))))
def wp_X1_reviewPlaces (g : CS) (Post : Int32 → XS → Prop) (σ : XS) (x1 : Int32) (x2 : Int32) (x3 : Int32) : Prop :=
  ∀ x4_2 : Int32, x4_2 = (fn_X1_missesFrom σ x1) → pr_X1_missesAt g σ x1 ∧ ∀ x5_5 : Int32, x5_5 = (fn_X1_missesAt g σ x1) → ((¬ x5_5 = 0 → vp_in (x4_2 + x3) 512 ∧ (¬ x5_5 = 0) ∧ ∀ x6_9 : Int32, x6_9 = ((x2 * (xs_mi σ (x4_2 + x3).toNatClampNeg)) - (x2 * (xs_mi σ (x4_2 + x3).toNatClampNeg)) / x5_5 * x5_5) → LPX (fun K a => wp_X1_reviewPlaces_47 g K Post a.1 a.2.1 a.2.2.1 a.2.2.2.1 a.2.2.2.2.1 a.2.2.2.2.2.1 a.2.2.2.2.2.2.1 a.2.2.2.2.2.2.2.1 a.2.2.2.2.2.2.2.2) (σ, x2, x3, x4_2, x5_5, x6_9, x2, 0, 0)) ∧ (x5_5 = 0 → Post (-3) σ))
def wp_X1_review (g : CS) (Post : Int32 → XS → Prop) (σ : XS) (x1 : Int32) (x2 : Int32) (x3 : Int32) : Prop :=
  (((fn_X1_isSeat σ x1) = 0 → Post (-1) σ) ∧ (¬ (fn_X1_isSeat σ x1) = 0 → ((¬ (fn_X1_isKind σ x3) = 0 → ((x2 < 1 → Post (-2) σ) ∧ (¬ x2 < 1 → ((x2 ≤ 60 → pr_X1_reviewPlaces g σ x1 x2 x3 ∧ Post (fn_X1_reviewPlaces g σ x1 x2 x3) σ) ∧ (¬ x2 ≤ 60 → Post (-2) σ))))) ∧ ((fn_X1_isKind σ x3) = 0 → Post (-1) σ))))
def wp_X1_all_14 (g : CS) (K14 : (XS × Int32 × Int32) → Prop) (Post : Int32 → XS → Prop) (σ : XS) (x2 : Int32) (x3 : Int32) : Prop :=
  ((512 ≤ x3 → Post x2 σ) ∧ (¬ 512 ≤ x3 → vp_in x3 512 ∧ ∀ x2_3 : Int32, x2_3 = (x2 + (xs_mi σ x3.toNatClampNeg)) → ∀ x3_4 : Int32, x3_4 = x3 + 8 → K14 (σ, x2_3, x3_4)))
def wp_X1_all (g : CS) (Post : Int32 → XS → Prop) (σ : XS) (x1 : Int32) : Prop :=
  ((¬ (fn_X1_isKind σ x1) = 0 → LPX (fun K a => wp_X1_all_14 g K Post a.1 a.2.1 a.2.2) (σ, 0, x1)) ∧ ((fn_X1_isKind σ x1) = 0 → Post (-1) σ))
def wp_X1_total (g : CS) (Post : Int32 → XS → Prop) (σ : XS) (x1 : Int32) : Prop :=
  ((x1 = 0 → Post (xs_kc σ) σ) ∧ (¬ x1 = 0 → ((x1 = 1 → Post (xs_pc σ) σ) ∧ (¬ x1 = 1 → ((x1 = 2 → Post ((xs_rc σ) * (xs_cc σ)) σ) ∧ (¬ x1 = 2 → ((x1 = 3 → Post (xs_rm σ) σ) ∧ (¬ x1 = 3 → ((x1 = 4 → Post (xs_wm σ) σ) ∧ (¬ x1 = 4 → Post (-2) σ))))))))))
def wp_X2_noKind (g : CS) (Post : Int32 → MS → Prop) (σ : MS) (x1 : Int32) : Prop :=
  ((¬ (fn_X2_in (x1.toInt64) 0 (((ms_ki σ) - 1).toInt64)) = 0 → Post 0 σ) ∧ ((fn_X2_in (x1.toInt64) 0 (((ms_ki σ) - 1).toInt64)) = 0 → Post 1 σ))
def wp_X2_noPlace (g : CS) (Post : Int32 → MS → Prop) (σ : MS) (x1 : Int32) : Prop :=
  ((¬ (fn_X2_in (x1.toInt64) 0 (((ms_pc σ) - 1).toInt64)) = 0 → Post 0 σ) ∧ ((fn_X2_in (x1.toInt64) 0 (((ms_pc σ) - 1).toInt64)) = 0 → Post 1 σ))
def wp_X2_noSeat (g : CS) (Post : Int32 → MS → Prop) (σ : MS) (x1 : Int32) : Prop :=
  ((x1 < 0 → Post 1 σ) ∧ (¬ x1 < 0 → (((ms_ro σ) ≤ (x1 / 10) → Post 1 σ) ∧ (¬ (ms_ro σ) ≤ (x1 / 10) → (((x1 - x1 / 10 * 10) < (ms_co σ) → Post 0 σ) ∧ (¬ (x1 - x1 / 10 * 10) < (ms_co σ) → Post 1 σ))))))
def wp_X2_holds_129 (g : CS) (K129 : (MS × Int32 × Int32 × Int32 × Int32 × Int32 × Int32) → Prop) (Post : Int32 → MS → Prop) (σ : MS) (x2 : Int32) (x3 : Int32) (x4 : Int32) (x5 : Int32) (x6 : Int32) (x7 : Int32) : Prop :=
  ((6 ≤ x7 → (narrow .boolean (.int x6) = .int x6 ∧ Post x6 σ)) ∧ (¬ 6 ≤ x7 → ((x6 = 0 → ∀ x7_3 : Int32, x7_3 = x7 + 1 → K129 (σ, x2, x3, x4, x5, 0, x7_3)) ∧ (¬ x6 = 0 → (((fn_X2_slipOf x4 x2 x3 x7) = x5 → ∀ x7_6 : Int32, x7_6 = x7 + 1 → K129 (σ, x2, x3, x4, x5, 0, x7_6)) ∧ (¬ (fn_X2_slipOf x4 x2 x3 x7) = x5 → ∀ x7_7 : Int32, x7_7 = x7 + 1 → K129 (σ, x2, x3, x4, x5, 1, x7_7)))))))
def wp_X2_holds_111 (g : CS) (Post : Int32 → MS → Prop) (σ : MS) (x1 : Int32) (x2 : Int32) (x3 : Int32) (x4 : Int32) (x5 : Int32) (s0 : Int32) : Prop :=
  vp_in x1 8 ∧ ((¬ (ms_la σ x1.toNatClampNeg) = 3 → (narrow .boolean (.int s0) = .int s0 ∧ Post s0 σ)) ∧ ((ms_la σ x1.toNatClampNeg) = 3 → LPX (fun K a => wp_X2_holds_129 g K Post a.1 a.2.1 a.2.2.1 a.2.2.2.1 a.2.2.2.2.1 a.2.2.2.2.2.1 a.2.2.2.2.2.2) (σ, x2, x3, x4, x5, 1, 1)))
def wp_X2_holds_106 (g : CS) (Post : Int32 → MS → Prop) (σ : MS) (x1 : Int32) (x2 : Int32) (x3 : Int32) (x4 : Int32) (x5 : Int32) : Prop :=
  wp_X2_holds_111 g Post σ x1 x2 x3 x4 x5 1
def wp_X2_holds_110 (g : CS) (Post : Int32 → MS → Prop) (σ : MS) (x1 : Int32) (x2 : Int32) (x3 : Int32) (x4 : Int32) (x5 : Int32) : Prop :=
  wp_X2_holds_111 g Post σ x1 x2 x3 x4 x5 0
def wp_X2_holds_86 (g : CS) (Post : Int32 → MS → Prop) (σ : MS) (x1 : Int32) (x2 : Int32) (x3 : Int32) (x4 : Int32) (x5 : Int32) : Prop :=
  vp_in x1 8 ∧ ((¬ (ms_la σ x1.toNatClampNeg) = 2 → wp_X2_holds_110 g Post σ x1 x2 x3 x4 x5) ∧ ((ms_la σ x1.toNatClampNeg) = 2 → (((fn_X2_carries x4 x2 x3) = 0 → wp_X2_holds_110 g Post σ x1 x2 x3 x4 x5) ∧ (¬ (fn_X2_carries x4 x2 x3) = 0 → wp_X2_holds_106 g Post σ x1 x2 x3 x4 x5))))
def wp_X2_holds (g : CS) (Post : Int32 → MS → Prop) (σ : MS) (x1 : Int32) (x2 : Int32) (x3 : Int32) : Prop :=
  vp_in x1 8 ∧ ∀ x4_2 : Int32, x4_2 = (ms_op σ x1.toNatClampNeg) → ∀ x5_4 : Int32, x5_4 = (fn_X2_answerOf x4_2 x2 x3) → ((x5_4 = (-9) → Post 0 σ) ∧ (¬ x5_4 = (-9) → vp_in ((3 * x1) + 2) 24 ∧ vp_in ((3 * x1) + 2) 24 ∧ ((¬ (fn_X2_in (x5_4.toInt64) ((ms_fr σ ((3 * x1) + 2).toNatClampNeg).toInt64) ((ms_to σ ((3 * x1) + 2).toNatClampNeg).toInt64)) = 0 → vp_in x1 8 ∧ (((ms_la σ x1.toNatClampNeg) = 0 → wp_X2_holds_106 g Post σ x1 x2 x3 x4_2 x5_4) ∧ (¬ (ms_la σ x1.toNatClampNeg) = 0 → vp_in x1 8 ∧ ((¬ (ms_la σ x1.toNatClampNeg) = 1 → wp_X2_holds_86 g Post σ x1 x2 x3 x4_2 x5_4) ∧ ((ms_la σ x1.toNatClampNeg) = 1 → (((fn_X2_carries x4_2 x2 x3) = 0 → wp_X2_holds_106 g Post σ x1 x2 x3 x4_2 x5_4) ∧ (¬ (fn_X2_carries x4_2 x2 x3) = 0 → wp_X2_holds_86 g Post σ x1 x2 x3 x4_2 x5_4))))))) ∧ ((fn_X2_in (x5_4.toInt64) ((ms_fr σ ((3 * x1) + 2).toNatClampNeg).toInt64) ((ms_to σ ((3 * x1) + 2).toNatClampNeg).toInt64)) = 0 → Post 0 σ))))
def wp_X2_tell_44 (g : CS) (K20 : (MS × Int32 × Int32 × Int32) → Prop) (K44 : (MS × Int32 × Int32 × Int32 × Int32) → Prop) (Post : Int32 → MS → Prop) (σ : MS) (x1 : Int32) (x2 : Int32) (x3 : Int32) (x4 : Int32) : Prop :=
  vp_in ((3 * x1) + 1) 24 ∧ (((ms_to σ ((3 * x1) + 1).toNatClampNeg) < x4 → ∀ x3_3 : Int32, x3_3 = x3 + 1 → K20 (σ, x1, x2, x3_3)) ∧ (¬ (ms_to σ ((3 * x1) + 1).toNatClampNeg) < x4 → pr_X2_holds g σ x1 x3 x4 ∧ (((fn_X2_holds σ x1 x3 x4) = 0 → ∀ x4_7 : Int32, x4_7 = x4 + 1 → K44 (σ, x1, x2, x3, x4_7)) ∧ (¬ (fn_X2_holds σ x1 x3 x4) = 0 → vp_in ((10000 * x1) + x2) 80000 ∧ ∀ x2_9 : Int32, x2_9 = x2 + 1 → ∀ x4_10 : Int32, x4_10 = x4 + 1 → K44 ((ms_s_pa σ (upd (ms_pa σ) ((10000 * x1) + x2).toNatClampNeg (vp_nar .short (((100 * x3) + x4).toInt16.toInt32)))), x1, x2_9, x3, x4_10)))))
def wp_X2_tell_20 (g : CS) (K20 : (MS × Int32 × Int32 × Int32) → Prop) (Post : Int32 → MS → Prop) (σ : MS) (x1 : Int32) (x2 : Int32) (x3 : Int32) : Prop :=
  vp_in (3 * x1) 24 ∧ (((ms_to σ (3 * x1).toNatClampNeg) < x3 → vp_in x1 8 ∧ vp_in x1 8 ∧ vp_in x1 8 ∧ Post (ms_ma (ms_s_is (ms_s_ma σ (upd (ms_ma σ) x1.toNatClampNeg x2)) (upd (ms_is (ms_s_ma σ (upd (ms_ma σ) x1.toNatClampNeg x2))) x1.toNatClampNeg (vp_nar .boolean 1))) x1.toNatClampNeg) (ms_s_is (ms_s_ma σ (upd (ms_ma σ) x1.toNatClampNeg x2)) (upd (ms_is (ms_s_ma σ (upd (ms_ma σ) x1.toNatClampNeg x2))) x1.toNatClampNeg (vp_nar .boolean 1)))) ∧ (¬ (ms_to σ (3 * x1).toNatClampNeg) < x3 → vp_in ((3 * x1) + 1) 24 ∧ ∀ x4_7 : Int32, x4_7 = (ms_fr σ ((3 * x1) + 1).toNatClampNeg) → LPX (fun K a => wp_X2_tell_44 g K20 K Post a.1 a.2.1 a.2.2.1 a.2.2.2.1 a.2.2.2.2) (σ, x1, x2, x3, x4_7)))
def wp_X2_tell (g : CS) (Post : Int32 → MS → Prop) (σ : MS) (x1 : Int32) : Prop :=
  vp_in x1 8 ∧ ((¬ (ms_is σ x1.toNatClampNeg) = 0 → vp_in x1 8 ∧ Post (ms_ma σ x1.toNatClampNeg) σ) ∧ ((ms_is σ x1.toNatClampNeg) = 0 → vp_in (3 * x1) 24 ∧ ∀ x3_5 : Int32, x3_5 = (ms_fr σ (3 * x1).toNatClampNeg) → LPX (fun K a => wp_X2_tell_20 g K Post a.1 a.2.1 a.2.2.1 a.2.2.2) (σ, x1, 0, x3_5)))
def wp_X2_pairOf (g : CS) (Post : Int32 → MS → Prop) (σ : MS) (x1 : Int32) (x2 : Int32) : Prop :=
  vp_in ((10000 * x1) + x2) 80000 ∧ Post (ms_pa σ ((10000 * x1) + x2).toNatClampNeg) σ
def wp_X2_noVariant (g : CS) (Post : Int32 → MS → Prop) (σ : MS) (x1 : Int32) (x2 : Int32) : Prop :=
  ((¬ (fn_X2_noKind σ x1) = 0 → Post 1 σ) ∧ ((fn_X2_noKind σ x1) = 0 → pr_X2_tell g σ x1 ∧ ∀ (r4 : Int32) (u5 : MS), po_X2_tell g σ x1 r4 u5 → ((¬ (fn_X2_in (x2.toInt64) 0 ((r4 - 1).toInt64)) = 0 → Post 0 u5) ∧ ((fn_X2_in (x2.toInt64) 0 ((r4 - 1).toInt64)) = 0 → Post 1 u5))))
def wp_X2_kind (g : CS) (Post : Int32 → MS → Prop) (σ : MS) (x1 : Int32) : Prop :=
  ((¬ (fn_X2_in (x1.toInt64) 0 3) = 0 → ((¬ (ms_ki (ms_s_th σ 0)) = 8 → vp_in (ms_ki (ms_s_th σ 0)) 8 ∧ vp_in (3 * (ms_ki (ms_s_op (ms_s_th σ 0) (upd (ms_op (ms_s_th σ 0)) (ms_ki (ms_s_th σ 0)).toNatClampNeg x1)))) 24 ∧ vp_in ((3 * (ms_ki (ms_s_to (ms_s_op (ms_s_th σ 0) (upd (ms_op (ms_s_th σ 0)) (ms_ki (ms_s_th σ 0)).toNatClampNeg x1)) (upd (ms_to (ms_s_op (ms_s_th σ 0) (upd (ms_op (ms_s_th σ 0)) (ms_ki (ms_s_th σ 0)).toNatClampNeg x1))) (3 * (ms_ki (ms_s_op (ms_s_th σ 0) (upd (ms_op (ms_s_th σ 0)) (ms_ki (ms_s_th σ 0)).toNatClampNeg x1)))).toNatClampNeg 9)))) + 1) 24 ∧ vp_in ((3 * (ms_ki (ms_s_to (ms_s_to (ms_s_op (ms_s_th σ 0) (upd (ms_op (ms_s_th σ 0)) (ms_ki (ms_s_th σ 0)).toNatClampNeg x1)) (upd (ms_to (ms_s_op (ms_s_th σ 0) (upd (ms_op (ms_s_th σ 0)) (ms_ki (ms_s_th σ 0)).toNatClampNeg x1))) (3 * (ms_ki (ms_s_op (ms_s_th σ 0) (upd (ms_op (ms_s_th σ 0)) (ms_ki (ms_s_th σ 0)).toNatClampNeg x1)))).toNatClampNeg 9)) (upd (ms_to (ms_s_to (ms_s_op (ms_s_th σ 0) (upd (ms_op (ms_s_th σ 0)) (ms_ki (ms_s_th σ 0)).toNatClampNeg x1)) (upd (ms_to (ms_s_op (ms_s_th σ 0) (upd (ms_op (ms_s_th σ 0)) (ms_ki (ms_s_th σ 0)).toNatClampNeg x1))) (3 * (ms_ki (ms_s_op (ms_s_th σ 0) (upd (ms_op (ms_s_th σ 0)) (ms_ki (ms_s_th σ 0)).toNatClampNeg x1)))).toNatClampNeg 9))) ((3 * (ms_ki (ms_s_to (ms_s_op (ms_s_th σ 0) (upd (ms_op (ms_s_th σ 0)) (ms_ki (ms_s_th σ 0)).toNatClampNeg x1)) (upd (ms_to (ms_s_op (ms_s_th σ 0) (upd (ms_op (ms_s_th σ 0)) (ms_ki (ms_s_th σ 0)).toNatClampNeg x1))) (3 * (ms_ki (ms_s_op (ms_s_th σ 0) (upd (ms_op (ms_s_th σ 0)) (ms_ki (ms_s_th σ 0)).toNatClampNeg x1)))).toNatClampNeg 9)))) + 1).toNatClampNeg 9)))) + 2) 24 ∧ vp_in (ms_ki (ms_s_to (ms_s_to (ms_s_to (ms_s_op (ms_s_th σ 0) (upd (ms_op (ms_s_th σ 0)) (ms_ki (ms_s_th σ 0)).toNatClampNeg x1)) (upd (ms_to (ms_s_op (ms_s_th σ 0) (upd (ms_op (ms_s_th σ 0)) (ms_ki (ms_s_th σ 0)).toNatClampNeg x1))) (3 * (ms_ki (ms_s_op (ms_s_th σ 0) (upd (ms_op (ms_s_th σ 0)) (ms_ki (ms_s_th σ 0)).toNatClampNeg x1)))).toNatClampNeg 9)) (upd (ms_to (ms_s_to (ms_s_op (ms_s_th σ 0) (upd (ms_op (ms_s_th σ 0)) (ms_ki (ms_s_th σ 0)).toNatClampNeg x1)) (upd (ms_to (ms_s_op (ms_s_th σ 0) (upd (ms_op (ms_s_th σ 0)) (ms_ki (ms_s_th σ 0)).toNatClampNeg x1))) (3 * (ms_ki (ms_s_op (ms_s_th σ 0) (upd (ms_op (ms_s_th σ 0)) (ms_ki (ms_s_th σ 0)).toNatClampNeg x1)))).toNatClampNeg 9))) ((3 * (ms_ki (ms_s_to (ms_s_op (ms_s_th σ 0) (upd (ms_op (ms_s_th σ 0)) (ms_ki (ms_s_th σ 0)).toNatClampNeg x1)) (upd (ms_to (ms_s_op (ms_s_th σ 0) (upd (ms_op (ms_s_th σ 0)) (ms_ki (ms_s_th σ 0)).toNatClampNeg x1))) (3 * (ms_ki (ms_s_op (ms_s_th σ 0) (upd (ms_op (ms_s_th σ 0)) (ms_ki (ms_s_th σ 0)).toNatClampNeg x1)))).toNatClampNeg 9)))) + 1).toNatClampNeg 9)) (upd (ms_to (ms_s_to (ms_s_to (ms_s_op (ms_s_th σ 0) (upd (ms_op (ms_s_th σ 0)) (ms_ki (ms_s_th σ 0)).toNatClampNeg x1)) (upd (ms_to (ms_s_op (ms_s_th σ 0) (upd (ms_op (ms_s_th σ 0)) (ms_ki (ms_s_th σ 0)).toNatClampNeg x1))) (3 * (ms_ki (ms_s_op (ms_s_th σ 0) (upd (ms_op (ms_s_th σ 0)) (ms_ki (ms_s_th σ 0)).toNatClampNeg x1)))).toNatClampNeg 9)) (upd (ms_to (ms_s_to (ms_s_op (ms_s_th σ 0) (upd (ms_op (ms_s_th σ 0)) (ms_ki (ms_s_th σ 0)).toNatClampNeg x1)) (upd (ms_to (ms_s_op (ms_s_th σ 0) (upd (ms_op (ms_s_th σ 0)) (ms_ki (ms_s_th σ 0)).toNatClampNeg x1))) (3 * (ms_ki (ms_s_op (ms_s_th σ 0) (upd (ms_op (ms_s_th σ 0)) (ms_ki (ms_s_th σ 0)).toNatClampNeg x1)))).toNatClampNeg 9))) ((3 * (ms_ki (ms_s_to (ms_s_op (ms_s_th σ 0) (upd (ms_op (ms_s_th σ 0)) (ms_ki (ms_s_th σ 0)).toNatClampNeg x1)) (upd (ms_to (ms_s_op (ms_s_th σ 0) (upd (ms_op (ms_s_th σ 0)) (ms_ki (ms_s_th σ 0)).toNatClampNeg x1))) (3 * (ms_ki (ms_s_op (ms_s_th σ 0) (upd (ms_op (ms_s_th σ 0)) (ms_ki (ms_s_th σ 0)).toNatClampNeg x1)))).toNatClampNeg 9)))) + 1).toNatClampNeg 9))) ((3 * (ms_ki (ms_s_to (ms_s_to (ms_s_op (ms_s_th σ 0) (upd (ms_op (ms_s_th σ 0)) (ms_ki (ms_s_th σ 0)).toNatClampNeg x1)) (upd (ms_to (ms_s_op (ms_s_th σ 0) (upd (ms_op (ms_s_th σ 0)) (ms_ki (ms_s_th σ 0)).toNatClampNeg x1))) (3 * (ms_ki (ms_s_op (ms_s_th σ 0) (upd (ms_op (ms_s_th σ 0)) (ms_ki (ms_s_th σ 0)).toNatClampNeg x1)))).toNatClampNeg 9)) (upd (ms_to (ms_s_to (ms_s_op (ms_s_th σ 0) (upd (ms_op (ms_s_th σ 0)) (ms_ki (ms_s_th σ 0)).toNatClampNeg x1)) (upd (ms_to (ms_s_op (ms_s_th σ 0) (upd (ms_op (ms_s_th σ 0)) (ms_ki (ms_s_th σ 0)).toNatClampNeg x1))) (3 * (ms_ki (ms_s_op (ms_s_th σ 0) (upd (ms_op (ms_s_th σ 0)) (ms_ki (ms_s_th σ 0)).toNatClampNeg x1)))).toNatClampNeg 9))) ((3 * (ms_ki (ms_s_to (ms_s_op (ms_s_th σ 0) (upd (ms_op (ms_s_th σ 0)) (ms_ki (ms_s_th σ 0)).toNatClampNeg x1)) (upd (ms_to (ms_s_op (ms_s_th σ 0) (upd (ms_op (ms_s_th σ 0)) (ms_ki (ms_s_th σ 0)).toNatClampNeg x1))) (3 * (ms_ki (ms_s_op (ms_s_th σ 0) (upd (ms_op (ms_s_th σ 0)) (ms_ki (ms_s_th σ 0)).toNatClampNeg x1)))).toNatClampNeg 9)))) + 1).toNatClampNeg 9)))) + 2).toNatClampNeg 9999))) 8 ∧ Post ((ms_ki (ms_s_ki (ms_s_ta (ms_s_to (ms_s_to (ms_s_to (ms_s_op (ms_s_th σ 0) (upd (ms_op (ms_s_th σ 0)) (ms_ki (ms_s_th σ 0)).toNatClampNeg x1)) (upd (ms_to (ms_s_op (ms_s_th σ 0) (upd (ms_op (ms_s_th σ 0)) (ms_ki (ms_s_th σ 0)).toNatClampNeg x1))) (3 * (ms_ki (ms_s_op (ms_s_th σ 0) (upd (ms_op (ms_s_th σ 0)) (ms_ki (ms_s_th σ 0)).toNatClampNeg x1)))).toNatClampNeg 9)) (upd (ms_to (ms_s_to (ms_s_op (ms_s_th σ 0) (upd (ms_op (ms_s_th σ 0)) (ms_ki (ms_s_th σ 0)).toNatClampNeg x1)) (upd (ms_to (ms_s_op (ms_s_th σ 0) (upd (ms_op (ms_s_th σ 0)) (ms_ki (ms_s_th σ 0)).toNatClampNeg x1))) (3 * (ms_ki (ms_s_op (ms_s_th σ 0) (upd (ms_op (ms_s_th σ 0)) (ms_ki (ms_s_th σ 0)).toNatClampNeg x1)))).toNatClampNeg 9))) ((3 * (ms_ki (ms_s_to (ms_s_op (ms_s_th σ 0) (upd (ms_op (ms_s_th σ 0)) (ms_ki (ms_s_th σ 0)).toNatClampNeg x1)) (upd (ms_to (ms_s_op (ms_s_th σ 0) (upd (ms_op (ms_s_th σ 0)) (ms_ki (ms_s_th σ 0)).toNatClampNeg x1))) (3 * (ms_ki (ms_s_op (ms_s_th σ 0) (upd (ms_op (ms_s_th σ 0)) (ms_ki (ms_s_th σ 0)).toNatClampNeg x1)))).toNatClampNeg 9)))) + 1).toNatClampNeg 9)) (upd (ms_to (ms_s_to (ms_s_to (ms_s_op (ms_s_th σ 0) (upd (ms_op (ms_s_th σ 0)) (ms_ki (ms_s_th σ 0)).toNatClampNeg x1)) (upd (ms_to (ms_s_op (ms_s_th σ 0) (upd (ms_op (ms_s_th σ 0)) (ms_ki (ms_s_th σ 0)).toNatClampNeg x1))) (3 * (ms_ki (ms_s_op (ms_s_th σ 0) (upd (ms_op (ms_s_th σ 0)) (ms_ki (ms_s_th σ 0)).toNatClampNeg x1)))).toNatClampNeg 9)) (upd (ms_to (ms_s_to (ms_s_op (ms_s_th σ 0) (upd (ms_op (ms_s_th σ 0)) (ms_ki (ms_s_th σ 0)).toNatClampNeg x1)) (upd (ms_to (ms_s_op (ms_s_th σ 0) (upd (ms_op (ms_s_th σ 0)) (ms_ki (ms_s_th σ 0)).toNatClampNeg x1))) (3 * (ms_ki (ms_s_op (ms_s_th σ 0) (upd (ms_op (ms_s_th σ 0)) (ms_ki (ms_s_th σ 0)).toNatClampNeg x1)))).toNatClampNeg 9))) ((3 * (ms_ki (ms_s_to (ms_s_op (ms_s_th σ 0) (upd (ms_op (ms_s_th σ 0)) (ms_ki (ms_s_th σ 0)).toNatClampNeg x1)) (upd (ms_to (ms_s_op (ms_s_th σ 0) (upd (ms_op (ms_s_th σ 0)) (ms_ki (ms_s_th σ 0)).toNatClampNeg x1))) (3 * (ms_ki (ms_s_op (ms_s_th σ 0) (upd (ms_op (ms_s_th σ 0)) (ms_ki (ms_s_th σ 0)).toNatClampNeg x1)))).toNatClampNeg 9)))) + 1).toNatClampNeg 9))) ((3 * (ms_ki (ms_s_to (ms_s_to (ms_s_op (ms_s_th σ 0) (upd (ms_op (ms_s_th σ 0)) (ms_ki (ms_s_th σ 0)).toNatClampNeg x1)) (upd (ms_to (ms_s_op (ms_s_th σ 0) (upd (ms_op (ms_s_th σ 0)) (ms_ki (ms_s_th σ 0)).toNatClampNeg x1))) (3 * (ms_ki (ms_s_op (ms_s_th σ 0) (upd (ms_op (ms_s_th σ 0)) (ms_ki (ms_s_th σ 0)).toNatClampNeg x1)))).toNatClampNeg 9)) (upd (ms_to (ms_s_to (ms_s_op (ms_s_th σ 0) (upd (ms_op (ms_s_th σ 0)) (ms_ki (ms_s_th σ 0)).toNatClampNeg x1)) (upd (ms_to (ms_s_op (ms_s_th σ 0) (upd (ms_op (ms_s_th σ 0)) (ms_ki (ms_s_th σ 0)).toNatClampNeg x1))) (3 * (ms_ki (ms_s_op (ms_s_th σ 0) (upd (ms_op (ms_s_th σ 0)) (ms_ki (ms_s_th σ 0)).toNatClampNeg x1)))).toNatClampNeg 9))) ((3 * (ms_ki (ms_s_to (ms_s_op (ms_s_th σ 0) (upd (ms_op (ms_s_th σ 0)) (ms_ki (ms_s_th σ 0)).toNatClampNeg x1)) (upd (ms_to (ms_s_op (ms_s_th σ 0) (upd (ms_op (ms_s_th σ 0)) (ms_ki (ms_s_th σ 0)).toNatClampNeg x1))) (3 * (ms_ki (ms_s_op (ms_s_th σ 0) (upd (ms_op (ms_s_th σ 0)) (ms_ki (ms_s_th σ 0)).toNatClampNeg x1)))).toNatClampNeg 9)))) + 1).toNatClampNeg 9)))) + 2).toNatClampNeg 9999)) (upd (ms_ta (ms_s_to (ms_s_to (ms_s_to (ms_s_op (ms_s_th σ 0) (upd (ms_op (ms_s_th σ 0)) (ms_ki (ms_s_th σ 0)).toNatClampNeg x1)) (upd (ms_to (ms_s_op (ms_s_th σ 0) (upd (ms_op (ms_s_th σ 0)) (ms_ki (ms_s_th σ 0)).toNatClampNeg x1))) (3 * (ms_ki (ms_s_op (ms_s_th σ 0) (upd (ms_op (ms_s_th σ 0)) (ms_ki (ms_s_th σ 0)).toNatClampNeg x1)))).toNatClampNeg 9)) (upd (ms_to (ms_s_to (ms_s_op (ms_s_th σ 0) (upd (ms_op (ms_s_th σ 0)) (ms_ki (ms_s_th σ 0)).toNatClampNeg x1)) (upd (ms_to (ms_s_op (ms_s_th σ 0) (upd (ms_op (ms_s_th σ 0)) (ms_ki (ms_s_th σ 0)).toNatClampNeg x1))) (3 * (ms_ki (ms_s_op (ms_s_th σ 0) (upd (ms_op (ms_s_th σ 0)) (ms_ki (ms_s_th σ 0)).toNatClampNeg x1)))).toNatClampNeg 9))) ((3 * (ms_ki (ms_s_to (ms_s_op (ms_s_th σ 0) (upd (ms_op (ms_s_th σ 0)) (ms_ki (ms_s_th σ 0)).toNatClampNeg x1)) (upd (ms_to (ms_s_op (ms_s_th σ 0) (upd (ms_op (ms_s_th σ 0)) (ms_ki (ms_s_th σ 0)).toNatClampNeg x1))) (3 * (ms_ki (ms_s_op (ms_s_th σ 0) (upd (ms_op (ms_s_th σ 0)) (ms_ki (ms_s_th σ 0)).toNatClampNeg x1)))).toNatClampNeg 9)))) + 1).toNatClampNeg 9)) (upd (ms_to (ms_s_to (ms_s_to (ms_s_op (ms_s_th σ 0) (upd (ms_op (ms_s_th σ 0)) (ms_ki (ms_s_th σ 0)).toNatClampNeg x1)) (upd (ms_to (ms_s_op (ms_s_th σ 0) (upd (ms_op (ms_s_th σ 0)) (ms_ki (ms_s_th σ 0)).toNatClampNeg x1))) (3 * (ms_ki (ms_s_op (ms_s_th σ 0) (upd (ms_op (ms_s_th σ 0)) (ms_ki (ms_s_th σ 0)).toNatClampNeg x1)))).toNatClampNeg 9)) (upd (ms_to (ms_s_to (ms_s_op (ms_s_th σ 0) (upd (ms_op (ms_s_th σ 0)) (ms_ki (ms_s_th σ 0)).toNatClampNeg x1)) (upd (ms_to (ms_s_op (ms_s_th σ 0) (upd (ms_op (ms_s_th σ 0)) (ms_ki (ms_s_th σ 0)).toNatClampNeg x1))) (3 * (ms_ki (ms_s_op (ms_s_th σ 0) (upd (ms_op (ms_s_th σ 0)) (ms_ki (ms_s_th σ 0)).toNatClampNeg x1)))).toNatClampNeg 9))) ((3 * (ms_ki (ms_s_to (ms_s_op (ms_s_th σ 0) (upd (ms_op (ms_s_th σ 0)) (ms_ki (ms_s_th σ 0)).toNatClampNeg x1)) (upd (ms_to (ms_s_op (ms_s_th σ 0) (upd (ms_op (ms_s_th σ 0)) (ms_ki (ms_s_th σ 0)).toNatClampNeg x1))) (3 * (ms_ki (ms_s_op (ms_s_th σ 0) (upd (ms_op (ms_s_th σ 0)) (ms_ki (ms_s_th σ 0)).toNatClampNeg x1)))).toNatClampNeg 9)))) + 1).toNatClampNeg 9))) ((3 * (ms_ki (ms_s_to (ms_s_to (ms_s_op (ms_s_th σ 0) (upd (ms_op (ms_s_th σ 0)) (ms_ki (ms_s_th σ 0)).toNatClampNeg x1)) (upd (ms_to (ms_s_op (ms_s_th σ 0) (upd (ms_op (ms_s_th σ 0)) (ms_ki (ms_s_th σ 0)).toNatClampNeg x1))) (3 * (ms_ki (ms_s_op (ms_s_th σ 0) (upd (ms_op (ms_s_th σ 0)) (ms_ki (ms_s_th σ 0)).toNatClampNeg x1)))).toNatClampNeg 9)) (upd (ms_to (ms_s_to (ms_s_op (ms_s_th σ 0) (upd (ms_op (ms_s_th σ 0)) (ms_ki (ms_s_th σ 0)).toNatClampNeg x1)) (upd (ms_to (ms_s_op (ms_s_th σ 0) (upd (ms_op (ms_s_th σ 0)) (ms_ki (ms_s_th σ 0)).toNatClampNeg x1))) (3 * (ms_ki (ms_s_op (ms_s_th σ 0) (upd (ms_op (ms_s_th σ 0)) (ms_ki (ms_s_th σ 0)).toNatClampNeg x1)))).toNatClampNeg 9))) ((3 * (ms_ki (ms_s_to (ms_s_op (ms_s_th σ 0) (upd (ms_op (ms_s_th σ 0)) (ms_ki (ms_s_th σ 0)).toNatClampNeg x1)) (upd (ms_to (ms_s_op (ms_s_th σ 0) (upd (ms_op (ms_s_th σ 0)) (ms_ki (ms_s_th σ 0)).toNatClampNeg x1))) (3 * (ms_ki (ms_s_op (ms_s_th σ 0) (upd (ms_op (ms_s_th σ 0)) (ms_ki (ms_s_th σ 0)).toNatClampNeg x1)))).toNatClampNeg 9)))) + 1).toNatClampNeg 9)))) + 2).toNatClampNeg 9999))) (ms_ki (ms_s_to (ms_s_to (ms_s_to (ms_s_op (ms_s_th σ 0) (upd (ms_op (ms_s_th σ 0)) (ms_ki (ms_s_th σ 0)).toNatClampNeg x1)) (upd (ms_to (ms_s_op (ms_s_th σ 0) (upd (ms_op (ms_s_th σ 0)) (ms_ki (ms_s_th σ 0)).toNatClampNeg x1))) (3 * (ms_ki (ms_s_op (ms_s_th σ 0) (upd (ms_op (ms_s_th σ 0)) (ms_ki (ms_s_th σ 0)).toNatClampNeg x1)))).toNatClampNeg 9)) (upd (ms_to (ms_s_to (ms_s_op (ms_s_th σ 0) (upd (ms_op (ms_s_th σ 0)) (ms_ki (ms_s_th σ 0)).toNatClampNeg x1)) (upd (ms_to (ms_s_op (ms_s_th σ 0) (upd (ms_op (ms_s_th σ 0)) (ms_ki (ms_s_th σ 0)).toNatClampNeg x1))) (3 * (ms_ki (ms_s_op (ms_s_th σ 0) (upd (ms_op (ms_s_th σ 0)) (ms_ki (ms_s_th σ 0)).toNatClampNeg x1)))).toNatClampNeg 9))) ((3 * (ms_ki (ms_s_to (ms_s_op (ms_s_th σ 0) (upd (ms_op (ms_s_th σ 0)) (ms_ki (ms_s_th σ 0)).toNatClampNeg x1)) (upd (ms_to (ms_s_op (ms_s_th σ 0) (upd (ms_op (ms_s_th σ 0)) (ms_ki (ms_s_th σ 0)).toNatClampNeg x1))) (3 * (ms_ki (ms_s_op (ms_s_th σ 0) (upd (ms_op (ms_s_th σ 0)) (ms_ki (ms_s_th σ 0)).toNatClampNeg x1)))).toNatClampNeg 9)))) + 1).toNatClampNeg 9)) (upd (ms_to (ms_s_to (ms_s_to (ms_s_op (ms_s_th σ 0) (upd (ms_op (ms_s_th σ 0)) (ms_ki (ms_s_th σ 0)).toNatClampNeg x1)) (upd (ms_to (ms_s_op (ms_s_th σ 0) (upd (ms_op (ms_s_th σ 0)) (ms_ki (ms_s_th σ 0)).toNatClampNeg x1))) (3 * (ms_ki (ms_s_op (ms_s_th σ 0) (upd (ms_op (ms_s_th σ 0)) (ms_ki (ms_s_th σ 0)).toNatClampNeg x1)))).toNatClampNeg 9)) (upd (ms_to (ms_s_to (ms_s_op (ms_s_th σ 0) (upd (ms_op (ms_s_th σ 0)) (ms_ki (ms_s_th σ 0)).toNatClampNeg x1)) (upd (ms_to (ms_s_op (ms_s_th σ 0) (upd (ms_op (ms_s_th σ 0)) (ms_ki (ms_s_th σ 0)).toNatClampNeg x1))) (3 * (ms_ki (ms_s_op (ms_s_th σ 0) (upd (ms_op (ms_s_th σ 0)) (ms_ki (ms_s_th σ 0)).toNatClampNeg x1)))).toNatClampNeg 9))) ((3 * (ms_ki (ms_s_to (ms_s_op (ms_s_th σ 0) (upd (ms_op (ms_s_th σ 0)) (ms_ki (ms_s_th σ 0)).toNatClampNeg x1)) (upd (ms_to (ms_s_op (ms_s_th σ 0) (upd (ms_op (ms_s_th σ 0)) (ms_ki (ms_s_th σ 0)).toNatClampNeg x1))) (3 * (ms_ki (ms_s_op (ms_s_th σ 0) (upd (ms_op (ms_s_th σ 0)) (ms_ki (ms_s_th σ 0)).toNatClampNeg x1)))).toNatClampNeg 9)))) + 1).toNatClampNeg 9))) ((3 * (ms_ki (ms_s_to (ms_s_to (ms_s_op (ms_s_th σ 0) (upd (ms_op (ms_s_th σ 0)) (ms_ki (ms_s_th σ 0)).toNatClampNeg x1)) (upd (ms_to (ms_s_op (ms_s_th σ 0) (upd (ms_op (ms_s_th σ 0)) (ms_ki (ms_s_th σ 0)).toNatClampNeg x1))) (3 * (ms_ki (ms_s_op (ms_s_th σ 0) (upd (ms_op (ms_s_th σ 0)) (ms_ki (ms_s_th σ 0)).toNatClampNeg x1)))).toNatClampNeg 9)) (upd (ms_to (ms_s_to (ms_s_op (ms_s_th σ 0) (upd (ms_op (ms_s_th σ 0)) (ms_ki (ms_s_th σ 0)).toNatClampNeg x1)) (upd (ms_to (ms_s_op (ms_s_th σ 0) (upd (ms_op (ms_s_th σ 0)) (ms_ki (ms_s_th σ 0)).toNatClampNeg x1))) (3 * (ms_ki (ms_s_op (ms_s_th σ 0) (upd (ms_op (ms_s_th σ 0)) (ms_ki (ms_s_th σ 0)).toNatClampNeg x1)))).toNatClampNeg 9))) ((3 * (ms_ki (ms_s_to (ms_s_op (ms_s_th σ 0) (upd (ms_op (ms_s_th σ 0)) (ms_ki (ms_s_th σ 0)).toNatClampNeg x1)) (upd (ms_to (ms_s_op (ms_s_th σ 0) (upd (ms_op (ms_s_th σ 0)) (ms_ki (ms_s_th σ 0)).toNatClampNeg x1))) (3 * (ms_ki (ms_s_op (ms_s_th σ 0) (upd (ms_op (ms_s_th σ 0)) (ms_ki (ms_s_th σ 0)).toNatClampNeg x1)))).toNatClampNeg 9)))) + 1).toNatClampNeg 9)))) + 2).toNatClampNeg 9999))).toNatClampNeg 1)) ((ms_ki (ms_s_ta (ms_s_to (ms_s_to (ms_s_to (ms_s_op (ms_s_th σ 0) (upd (ms_op (ms_s_th σ 0)) (ms_ki (ms_s_th σ 0)).toNatClampNeg x1)) (upd (ms_to (ms_s_op (ms_s_th σ 0) (upd (ms_op (ms_s_th σ 0)) (ms_ki (ms_s_th σ 0)).toNatClampNeg x1))) (3 * (ms_ki (ms_s_op (ms_s_th σ 0) (upd (ms_op (ms_s_th σ 0)) (ms_ki (ms_s_th σ 0)).toNatClampNeg x1)))).toNatClampNeg 9)) (upd (ms_to (ms_s_to (ms_s_op (ms_s_th σ 0) (upd (ms_op (ms_s_th σ 0)) (ms_ki (ms_s_th σ 0)).toNatClampNeg x1)) (upd (ms_to (ms_s_op (ms_s_th σ 0) (upd (ms_op (ms_s_th σ 0)) (ms_ki (ms_s_th σ 0)).toNatClampNeg x1))) (3 * (ms_ki (ms_s_op (ms_s_th σ 0) (upd (ms_op (ms_s_th σ 0)) (ms_ki (ms_s_th σ 0)).toNatClampNeg x1)))).toNatClampNeg 9))) ((3 * (ms_ki (ms_s_to (ms_s_op (ms_s_th σ 0) (upd (ms_op (ms_s_th σ 0)) (ms_ki (ms_s_th σ 0)).toNatClampNeg x1)) (upd (ms_to (ms_s_op (ms_s_th σ 0) (upd (ms_op (ms_s_th σ 0)) (ms_ki (ms_s_th σ 0)).toNatClampNeg x1))) (3 * (ms_ki (ms_s_op (ms_s_th σ 0) (upd (ms_op (ms_s_th σ 0)) (ms_ki (ms_s_th σ 0)).toNatClampNeg x1)))).toNatClampNeg 9)))) + 1).toNatClampNeg 9)) (upd (ms_to (ms_s_to (ms_s_to (ms_s_op (ms_s_th σ 0) (upd (ms_op (ms_s_th σ 0)) (ms_ki (ms_s_th σ 0)).toNatClampNeg x1)) (upd (ms_to (ms_s_op (ms_s_th σ 0) (upd (ms_op (ms_s_th σ 0)) (ms_ki (ms_s_th σ 0)).toNatClampNeg x1))) (3 * (ms_ki (ms_s_op (ms_s_th σ 0) (upd (ms_op (ms_s_th σ 0)) (ms_ki (ms_s_th σ 0)).toNatClampNeg x1)))).toNatClampNeg 9)) (upd (ms_to (ms_s_to (ms_s_op (ms_s_th σ 0) (upd (ms_op (ms_s_th σ 0)) (ms_ki (ms_s_th σ 0)).toNatClampNeg x1)) (upd (ms_to (ms_s_op (ms_s_th σ 0) (upd (ms_op (ms_s_th σ 0)) (ms_ki (ms_s_th σ 0)).toNatClampNeg x1))) (3 * (ms_ki (ms_s_op (ms_s_th σ 0) (upd (ms_op (ms_s_th σ 0)) (ms_ki (ms_s_th σ 0)).toNatClampNeg x1)))).toNatClampNeg 9))) ((3 * (ms_ki (ms_s_to (ms_s_op (ms_s_th σ 0) (upd (ms_op (ms_s_th σ 0)) (ms_ki (ms_s_th σ 0)).toNatClampNeg x1)) (upd (ms_to (ms_s_op (ms_s_th σ 0) (upd (ms_op (ms_s_th σ 0)) (ms_ki (ms_s_th σ 0)).toNatClampNeg x1))) (3 * (ms_ki (ms_s_op (ms_s_th σ 0) (upd (ms_op (ms_s_th σ 0)) (ms_ki (ms_s_th σ 0)).toNatClampNeg x1)))).toNatClampNeg 9)))) + 1).toNatClampNeg 9))) ((3 * (ms_ki (ms_s_to (ms_s_to (ms_s_op (ms_s_th σ 0) (upd (ms_op (ms_s_th σ 0)) (ms_ki (ms_s_th σ 0)).toNatClampNeg x1)) (upd (ms_to (ms_s_op (ms_s_th σ 0) (upd (ms_op (ms_s_th σ 0)) (ms_ki (ms_s_th σ 0)).toNatClampNeg x1))) (3 * (ms_ki (ms_s_op (ms_s_th σ 0) (upd (ms_op (ms_s_th σ 0)) (ms_ki (ms_s_th σ 0)).toNatClampNeg x1)))).toNatClampNeg 9)) (upd (ms_to (ms_s_to (ms_s_op (ms_s_th σ 0) (upd (ms_op (ms_s_th σ 0)) (ms_ki (ms_s_th σ 0)).toNatClampNeg x1)) (upd (ms_to (ms_s_op (ms_s_th σ 0) (upd (ms_op (ms_s_th σ 0)) (ms_ki (ms_s_th σ 0)).toNatClampNeg x1))) (3 * (ms_ki (ms_s_op (ms_s_th σ 0) (upd (ms_op (ms_s_th σ 0)) (ms_ki (ms_s_th σ 0)).toNatClampNeg x1)))).toNatClampNeg 9))) ((3 * (ms_ki (ms_s_to (ms_s_op (ms_s_th σ 0) (upd (ms_op (ms_s_th σ 0)) (ms_ki (ms_s_th σ 0)).toNatClampNeg x1)) (upd (ms_to (ms_s_op (ms_s_th σ 0) (upd (ms_op (ms_s_th σ 0)) (ms_ki (ms_s_th σ 0)).toNatClampNeg x1))) (3 * (ms_ki (ms_s_op (ms_s_th σ 0) (upd (ms_op (ms_s_th σ 0)) (ms_ki (ms_s_th σ 0)).toNatClampNeg x1)))).toNatClampNeg 9)))) + 1).toNatClampNeg 9)))) + 2).toNatClampNeg 9999)) (upd (ms_ta (ms_s_to (ms_s_to (ms_s_to (ms_s_op (ms_s_th σ 0) (upd (ms_op (ms_s_th σ 0)) (ms_ki (ms_s_th σ 0)).toNatClampNeg x1)) (upd (ms_to (ms_s_op (ms_s_th σ 0) (upd (ms_op (ms_s_th σ 0)) (ms_ki (ms_s_th σ 0)).toNatClampNeg x1))) (3 * (ms_ki (ms_s_op (ms_s_th σ 0) (upd (ms_op (ms_s_th σ 0)) (ms_ki (ms_s_th σ 0)).toNatClampNeg x1)))).toNatClampNeg 9)) (upd (ms_to (ms_s_to (ms_s_op (ms_s_th σ 0) (upd (ms_op (ms_s_th σ 0)) (ms_ki (ms_s_th σ 0)).toNatClampNeg x1)) (upd (ms_to (ms_s_op (ms_s_th σ 0) (upd (ms_op (ms_s_th σ 0)) (ms_ki (ms_s_th σ 0)).toNatClampNeg x1))) (3 * (ms_ki (ms_s_op (ms_s_th σ 0) (upd (ms_op (ms_s_th σ 0)) (ms_ki (ms_s_th σ 0)).toNatClampNeg x1)))).toNatClampNeg 9))) ((3 * (ms_ki (ms_s_to (ms_s_op (ms_s_th σ 0) (upd (ms_op (ms_s_th σ 0)) (ms_ki (ms_s_th σ 0)).toNatClampNeg x1)) (upd (ms_to (ms_s_op (ms_s_th σ 0) (upd (ms_op (ms_s_th σ 0)) (ms_ki (ms_s_th σ 0)).toNatClampNeg x1))) (3 * (ms_ki (ms_s_op (ms_s_th σ 0) (upd (ms_op (ms_s_th σ 0)) (ms_ki (ms_s_th σ 0)).toNatClampNeg x1)))).toNatClampNeg 9)))) + 1).toNatClampNeg 9)) (upd (ms_to (ms_s_to (ms_s_to (ms_s_op (ms_s_th σ 0) (upd (ms_op (ms_s_th σ 0)) (ms_ki (ms_s_th σ 0)).toNatClampNeg x1)) (upd (ms_to (ms_s_op (ms_s_th σ 0) (upd (ms_op (ms_s_th σ 0)) (ms_ki (ms_s_th σ 0)).toNatClampNeg x1))) (3 * (ms_ki (ms_s_op (ms_s_th σ 0) (upd (ms_op (ms_s_th σ 0)) (ms_ki (ms_s_th σ 0)).toNatClampNeg x1)))).toNatClampNeg 9)) (upd (ms_to (ms_s_to (ms_s_op (ms_s_th σ 0) (upd (ms_op (ms_s_th σ 0)) (ms_ki (ms_s_th σ 0)).toNatClampNeg x1)) (upd (ms_to (ms_s_op (ms_s_th σ 0) (upd (ms_op (ms_s_th σ 0)) (ms_ki (ms_s_th σ 0)).toNatClampNeg x1))) (3 * (ms_ki (ms_s_op (ms_s_th σ 0) (upd (ms_op (ms_s_th σ 0)) (ms_ki (ms_s_th σ 0)).toNatClampNeg x1)))).toNatClampNeg 9))) ((3 * (ms_ki (ms_s_to (ms_s_op (ms_s_th σ 0) (upd (ms_op (ms_s_th σ 0)) (ms_ki (ms_s_th σ 0)).toNatClampNeg x1)) (upd (ms_to (ms_s_op (ms_s_th σ 0) (upd (ms_op (ms_s_th σ 0)) (ms_ki (ms_s_th σ 0)).toNatClampNeg x1))) (3 * (ms_ki (ms_s_op (ms_s_th σ 0) (upd (ms_op (ms_s_th σ 0)) (ms_ki (ms_s_th σ 0)).toNatClampNeg x1)))).toNatClampNeg 9)))) + 1).toNatClampNeg 9))) ((3 * (ms_ki (ms_s_to (ms_s_to (ms_s_op (ms_s_th σ 0) (upd (ms_op (ms_s_th σ 0)) (ms_ki (ms_s_th σ 0)).toNatClampNeg x1)) (upd (ms_to (ms_s_op (ms_s_th σ 0) (upd (ms_op (ms_s_th σ 0)) (ms_ki (ms_s_th σ 0)).toNatClampNeg x1))) (3 * (ms_ki (ms_s_op (ms_s_th σ 0) (upd (ms_op (ms_s_th σ 0)) (ms_ki (ms_s_th σ 0)).toNatClampNeg x1)))).toNatClampNeg 9)) (upd (ms_to (ms_s_to (ms_s_op (ms_s_th σ 0) (upd (ms_op (ms_s_th σ 0)) (ms_ki (ms_s_th σ 0)).toNatClampNeg x1)) (upd (ms_to (ms_s_op (ms_s_th σ 0) (upd (ms_op (ms_s_th σ 0)) (ms_ki (ms_s_th σ 0)).toNatClampNeg x1))) (3 * (ms_ki (ms_s_op (ms_s_th σ 0) (upd (ms_op (ms_s_th σ 0)) (ms_ki (ms_s_th σ 0)).toNatClampNeg x1)))).toNatClampNeg 9))) ((3 * (ms_ki (ms_s_to (ms_s_op (ms_s_th σ 0) (upd (ms_op (ms_s_th σ 0)) (ms_ki (ms_s_th σ 0)).toNatClampNeg x1)) (upd (ms_to (ms_s_op (ms_s_th σ 0) (upd (ms_op (ms_s_th σ 0)) (ms_ki (ms_s_th σ 0)).toNatClampNeg x1))) (3 * (ms_ki (ms_s_op (ms_s_th σ 0) (upd (ms_op (ms_s_th σ 0)) (ms_ki (ms_s_th σ 0)).toNatClampNeg x1)))).toNatClampNeg 9)))) + 1).toNatClampNeg 9)))) + 2).toNatClampNeg 9999))) (ms_ki (ms_s_to (ms_s_to (ms_s_to (ms_s_op (ms_s_th σ 0) (upd (ms_op (ms_s_th σ 0)) (ms_ki (ms_s_th σ 0)).toNatClampNeg x1)) (upd (ms_to (ms_s_op (ms_s_th σ 0) (upd (ms_op (ms_s_th σ 0)) (ms_ki (ms_s_th σ 0)).toNatClampNeg x1))) (3 * (ms_ki (ms_s_op (ms_s_th σ 0) (upd (ms_op (ms_s_th σ 0)) (ms_ki (ms_s_th σ 0)).toNatClampNeg x1)))).toNatClampNeg 9)) (upd (ms_to (ms_s_to (ms_s_op (ms_s_th σ 0) (upd (ms_op (ms_s_th σ 0)) (ms_ki (ms_s_th σ 0)).toNatClampNeg x1)) (upd (ms_to (ms_s_op (ms_s_th σ 0) (upd (ms_op (ms_s_th σ 0)) (ms_ki (ms_s_th σ 0)).toNatClampNeg x1))) (3 * (ms_ki (ms_s_op (ms_s_th σ 0) (upd (ms_op (ms_s_th σ 0)) (ms_ki (ms_s_th σ 0)).toNatClampNeg x1)))).toNatClampNeg 9))) ((3 * (ms_ki (ms_s_to (ms_s_op (ms_s_th σ 0) (upd (ms_op (ms_s_th σ 0)) (ms_ki (ms_s_th σ 0)).toNatClampNeg x1)) (upd (ms_to (ms_s_op (ms_s_th σ 0) (upd (ms_op (ms_s_th σ 0)) (ms_ki (ms_s_th σ 0)).toNatClampNeg x1))) (3 * (ms_ki (ms_s_op (ms_s_th σ 0) (upd (ms_op (ms_s_th σ 0)) (ms_ki (ms_s_th σ 0)).toNatClampNeg x1)))).toNatClampNeg 9)))) + 1).toNatClampNeg 9)) (upd (ms_to (ms_s_to (ms_s_to (ms_s_op (ms_s_th σ 0) (upd (ms_op (ms_s_th σ 0)) (ms_ki (ms_s_th σ 0)).toNatClampNeg x1)) (upd (ms_to (ms_s_op (ms_s_th σ 0) (upd (ms_op (ms_s_th σ 0)) (ms_ki (ms_s_th σ 0)).toNatClampNeg x1))) (3 * (ms_ki (ms_s_op (ms_s_th σ 0) (upd (ms_op (ms_s_th σ 0)) (ms_ki (ms_s_th σ 0)).toNatClampNeg x1)))).toNatClampNeg 9)) (upd (ms_to (ms_s_to (ms_s_op (ms_s_th σ 0) (upd (ms_op (ms_s_th σ 0)) (ms_ki (ms_s_th σ 0)).toNatClampNeg x1)) (upd (ms_to (ms_s_op (ms_s_th σ 0) (upd (ms_op (ms_s_th σ 0)) (ms_ki (ms_s_th σ 0)).toNatClampNeg x1))) (3 * (ms_ki (ms_s_op (ms_s_th σ 0) (upd (ms_op (ms_s_th σ 0)) (ms_ki (ms_s_th σ 0)).toNatClampNeg x1)))).toNatClampNeg 9))) ((3 * (ms_ki (ms_s_to (ms_s_op (ms_s_th σ 0) (upd (ms_op (ms_s_th σ 0)) (ms_ki (ms_s_th σ 0)).toNatClampNeg x1)) (upd (ms_to (ms_s_op (ms_s_th σ 0) (upd (ms_op (ms_s_th σ 0)) (ms_ki (ms_s_th σ 0)).toNatClampNeg x1))) (3 * (ms_ki (ms_s_op (ms_s_th σ 0) (upd (ms_op (ms_s_th σ 0)) (ms_ki (ms_s_th σ 0)).toNatClampNeg x1)))).toNatClampNeg 9)))) + 1).toNatClampNeg 9))) ((3 * (ms_ki (ms_s_to (ms_s_to (ms_s_op (ms_s_th σ 0) (upd (ms_op (ms_s_th σ 0)) (ms_ki (ms_s_th σ 0)).toNatClampNeg x1)) (upd (ms_to (ms_s_op (ms_s_th σ 0) (upd (ms_op (ms_s_th σ 0)) (ms_ki (ms_s_th σ 0)).toNatClampNeg x1))) (3 * (ms_ki (ms_s_op (ms_s_th σ 0) (upd (ms_op (ms_s_th σ 0)) (ms_ki (ms_s_th σ 0)).toNatClampNeg x1)))).toNatClampNeg 9)) (upd (ms_to (ms_s_to (ms_s_op (ms_s_th σ 0) (upd (ms_op (ms_s_th σ 0)) (ms_ki (ms_s_th σ 0)).toNatClampNeg x1)) (upd (ms_to (ms_s_op (ms_s_th σ 0) (upd (ms_op (ms_s_th σ 0)) (ms_ki (ms_s_th σ 0)).toNatClampNeg x1))) (3 * (ms_ki (ms_s_op (ms_s_th σ 0) (upd (ms_op (ms_s_th σ 0)) (ms_ki (ms_s_th σ 0)).toNatClampNeg x1)))).toNatClampNeg 9))) ((3 * (ms_ki (ms_s_to (ms_s_op (ms_s_th σ 0) (upd (ms_op (ms_s_th σ 0)) (ms_ki (ms_s_th σ 0)).toNatClampNeg x1)) (upd (ms_to (ms_s_op (ms_s_th σ 0) (upd (ms_op (ms_s_th σ 0)) (ms_ki (ms_s_th σ 0)).toNatClampNeg x1))) (3 * (ms_ki (ms_s_op (ms_s_th σ 0) (upd (ms_op (ms_s_th σ 0)) (ms_ki (ms_s_th σ 0)).toNatClampNeg x1)))).toNatClampNeg 9)))) + 1).toNatClampNeg 9)))) + 2).toNatClampNeg 9999))).toNatClampNeg 1))) + 1))) - 1) (ms_s_ki (ms_s_ta (ms_s_to (ms_s_to (ms_s_to (ms_s_op (ms_s_th σ 0) (upd (ms_op (ms_s_th σ 0)) (ms_ki (ms_s_th σ 0)).toNatClampNeg x1)) (upd (ms_to (ms_s_op (ms_s_th σ 0) (upd (ms_op (ms_s_th σ 0)) (ms_ki (ms_s_th σ 0)).toNatClampNeg x1))) (3 * (ms_ki (ms_s_op (ms_s_th σ 0) (upd (ms_op (ms_s_th σ 0)) (ms_ki (ms_s_th σ 0)).toNatClampNeg x1)))).toNatClampNeg 9)) (upd (ms_to (ms_s_to (ms_s_op (ms_s_th σ 0) (upd (ms_op (ms_s_th σ 0)) (ms_ki (ms_s_th σ 0)).toNatClampNeg x1)) (upd (ms_to (ms_s_op (ms_s_th σ 0) (upd (ms_op (ms_s_th σ 0)) (ms_ki (ms_s_th σ 0)).toNatClampNeg x1))) (3 * (ms_ki (ms_s_op (ms_s_th σ 0) (upd (ms_op (ms_s_th σ 0)) (ms_ki (ms_s_th σ 0)).toNatClampNeg x1)))).toNatClampNeg 9))) ((3 * (ms_ki (ms_s_to (ms_s_op (ms_s_th σ 0) (upd (ms_op (ms_s_th σ 0)) (ms_ki (ms_s_th σ 0)).toNatClampNeg x1)) (upd (ms_to (ms_s_op (ms_s_th σ 0) (upd (ms_op (ms_s_th σ 0)) (ms_ki (ms_s_th σ 0)).toNatClampNeg x1))) (3 * (ms_ki (ms_s_op (ms_s_th σ 0) (upd (ms_op (ms_s_th σ 0)) (ms_ki (ms_s_th σ 0)).toNatClampNeg x1)))).toNatClampNeg 9)))) + 1).toNatClampNeg 9)) (upd (ms_to (ms_s_to (ms_s_to (ms_s_op (ms_s_th σ 0) (upd (ms_op (ms_s_th σ 0)) (ms_ki (ms_s_th σ 0)).toNatClampNeg x1)) (upd (ms_to (ms_s_op (ms_s_th σ 0) (upd (ms_op (ms_s_th σ 0)) (ms_ki (ms_s_th σ 0)).toNatClampNeg x1))) (3 * (ms_ki (ms_s_op (ms_s_th σ 0) (upd (ms_op (ms_s_th σ 0)) (ms_ki (ms_s_th σ 0)).toNatClampNeg x1)))).toNatClampNeg 9)) (upd (ms_to (ms_s_to (ms_s_op (ms_s_th σ 0) (upd (ms_op (ms_s_th σ 0)) (ms_ki (ms_s_th σ 0)).toNatClampNeg x1)) (upd (ms_to (ms_s_op (ms_s_th σ 0) (upd (ms_op (ms_s_th σ 0)) (ms_ki (ms_s_th σ 0)).toNatClampNeg x1))) (3 * (ms_ki (ms_s_op (ms_s_th σ 0) (upd (ms_op (ms_s_th σ 0)) (ms_ki (ms_s_th σ 0)).toNatClampNeg x1)))).toNatClampNeg 9))) ((3 * (ms_ki (ms_s_to (ms_s_op (ms_s_th σ 0) (upd (ms_op (ms_s_th σ 0)) (ms_ki (ms_s_th σ 0)).toNatClampNeg x1)) (upd (ms_to (ms_s_op (ms_s_th σ 0) (upd (ms_op (ms_s_th σ 0)) (ms_ki (ms_s_th σ 0)).toNatClampNeg x1))) (3 * (ms_ki (ms_s_op (ms_s_th σ 0) (upd (ms_op (ms_s_th σ 0)) (ms_ki (ms_s_th σ 0)).toNatClampNeg x1)))).toNatClampNeg 9)))) + 1).toNatClampNeg 9))) ((3 * (ms_ki (ms_s_to (ms_s_to (ms_s_op (ms_s_th σ 0) (upd (ms_op (ms_s_th σ 0)) (ms_ki (ms_s_th σ 0)).toNatClampNeg x1)) (upd (ms_to (ms_s_op (ms_s_th σ 0) (upd (ms_op (ms_s_th σ 0)) (ms_ki (ms_s_th σ 0)).toNatClampNeg x1))) (3 * (ms_ki (ms_s_op (ms_s_th σ 0) (upd (ms_op (ms_s_th σ 0)) (ms_ki (ms_s_th σ 0)).toNatClampNeg x1)))).toNatClampNeg 9)) (upd (ms_to (ms_s_to (ms_s_op (ms_s_th σ 0) (upd (ms_op (ms_s_th σ 0)) (ms_ki (ms_s_th σ 0)).toNatClampNeg x1)) (upd (ms_to (ms_s_op (ms_s_th σ 0) (upd (ms_op (ms_s_th σ 0)) (ms_ki (ms_s_th σ 0)).toNatClampNeg x1))) (3 * (ms_ki (ms_s_op (ms_s_th σ 0) (upd (ms_op (ms_s_th σ 0)) (ms_ki (ms_s_th σ 0)).toNatClampNeg x1)))).toNatClampNeg 9))) ((3 * (ms_ki (ms_s_to (ms_s_op (ms_s_th σ 0) (upd (ms_op (ms_s_th σ 0)) (ms_ki (ms_s_th σ 0)).toNatClampNeg x1)) (upd (ms_to (ms_s_op (ms_s_th σ 0) (upd (ms_op (ms_s_th σ 0)) (ms_ki (ms_s_th σ 0)).toNatClampNeg x1))) (3 * (ms_ki (ms_s_op (ms_s_th σ 0) (upd (ms_op (ms_s_th σ 0)) (ms_ki (ms_s_th σ 0)).toNatClampNeg x1)))).toNatClampNeg 9)))) + 1).toNatClampNeg 9)))) + 2).toNatClampNeg 9999)) (upd (ms_ta (ms_s_to (ms_s_to (ms_s_to (ms_s_op (ms_s_th σ 0) (upd (ms_op (ms_s_th σ 0)) (ms_ki (ms_s_th σ 0)).toNatClampNeg x1)) (upd (ms_to (ms_s_op (ms_s_th σ 0) (upd (ms_op (ms_s_th σ 0)) (ms_ki (ms_s_th σ 0)).toNatClampNeg x1))) (3 * (ms_ki (ms_s_op (ms_s_th σ 0) (upd (ms_op (ms_s_th σ 0)) (ms_ki (ms_s_th σ 0)).toNatClampNeg x1)))).toNatClampNeg 9)) (upd (ms_to (ms_s_to (ms_s_op (ms_s_th σ 0) (upd (ms_op (ms_s_th σ 0)) (ms_ki (ms_s_th σ 0)).toNatClampNeg x1)) (upd (ms_to (ms_s_op (ms_s_th σ 0) (upd (ms_op (ms_s_th σ 0)) (ms_ki (ms_s_th σ 0)).toNatClampNeg x1))) (3 * (ms_ki (ms_s_op (ms_s_th σ 0) (upd (ms_op (ms_s_th σ 0)) (ms_ki (ms_s_th σ 0)).toNatClampNeg x1)))).toNatClampNeg 9))) ((3 * (ms_ki (ms_s_to (ms_s_op (ms_s_th σ 0) (upd (ms_op (ms_s_th σ 0)) (ms_ki (ms_s_th σ 0)).toNatClampNeg x1)) (upd (ms_to (ms_s_op (ms_s_th σ 0) (upd (ms_op (ms_s_th σ 0)) (ms_ki (ms_s_th σ 0)).toNatClampNeg x1))) (3 * (ms_ki (ms_s_op (ms_s_th σ 0) (upd (ms_op (ms_s_th σ 0)) (ms_ki (ms_s_th σ 0)).toNatClampNeg x1)))).toNatClampNeg 9)))) + 1).toNatClampNeg 9)) (upd (ms_to (ms_s_to (ms_s_to (ms_s_op (ms_s_th σ 0) (upd (ms_op (ms_s_th σ 0)) (ms_ki (ms_s_th σ 0)).toNatClampNeg x1)) (upd (ms_to (ms_s_op (ms_s_th σ 0) (upd (ms_op (ms_s_th σ 0)) (ms_ki (ms_s_th σ 0)).toNatClampNeg x1))) (3 * (ms_ki (ms_s_op (ms_s_th σ 0) (upd (ms_op (ms_s_th σ 0)) (ms_ki (ms_s_th σ 0)).toNatClampNeg x1)))).toNatClampNeg 9)) (upd (ms_to (ms_s_to (ms_s_op (ms_s_th σ 0) (upd (ms_op (ms_s_th σ 0)) (ms_ki (ms_s_th σ 0)).toNatClampNeg x1)) (upd (ms_to (ms_s_op (ms_s_th σ 0) (upd (ms_op (ms_s_th σ 0)) (ms_ki (ms_s_th σ 0)).toNatClampNeg x1))) (3 * (ms_ki (ms_s_op (ms_s_th σ 0) (upd (ms_op (ms_s_th σ 0)) (ms_ki (ms_s_th σ 0)).toNatClampNeg x1)))).toNatClampNeg 9))) ((3 * (ms_ki (ms_s_to (ms_s_op (ms_s_th σ 0) (upd (ms_op (ms_s_th σ 0)) (ms_ki (ms_s_th σ 0)).toNatClampNeg x1)) (upd (ms_to (ms_s_op (ms_s_th σ 0) (upd (ms_op (ms_s_th σ 0)) (ms_ki (ms_s_th σ 0)).toNatClampNeg x1))) (3 * (ms_ki (ms_s_op (ms_s_th σ 0) (upd (ms_op (ms_s_th σ 0)) (ms_ki (ms_s_th σ 0)).toNatClampNeg x1)))).toNatClampNeg 9)))) + 1).toNatClampNeg 9))) ((3 * (ms_ki (ms_s_to (ms_s_to (ms_s_op (ms_s_th σ 0) (upd (ms_op (ms_s_th σ 0)) (ms_ki (ms_s_th σ 0)).toNatClampNeg x1)) (upd (ms_to (ms_s_op (ms_s_th σ 0) (upd (ms_op (ms_s_th σ 0)) (ms_ki (ms_s_th σ 0)).toNatClampNeg x1))) (3 * (ms_ki (ms_s_op (ms_s_th σ 0) (upd (ms_op (ms_s_th σ 0)) (ms_ki (ms_s_th σ 0)).toNatClampNeg x1)))).toNatClampNeg 9)) (upd (ms_to (ms_s_to (ms_s_op (ms_s_th σ 0) (upd (ms_op (ms_s_th σ 0)) (ms_ki (ms_s_th σ 0)).toNatClampNeg x1)) (upd (ms_to (ms_s_op (ms_s_th σ 0) (upd (ms_op (ms_s_th σ 0)) (ms_ki (ms_s_th σ 0)).toNatClampNeg x1))) (3 * (ms_ki (ms_s_op (ms_s_th σ 0) (upd (ms_op (ms_s_th σ 0)) (ms_ki (ms_s_th σ 0)).toNatClampNeg x1)))).toNatClampNeg 9))) ((3 * (ms_ki (ms_s_to (ms_s_op (ms_s_th σ 0) (upd (ms_op (ms_s_th σ 0)) (ms_ki (ms_s_th σ 0)).toNatClampNeg x1)) (upd (ms_to (ms_s_op (ms_s_th σ 0) (upd (ms_op (ms_s_th σ 0)) (ms_ki (ms_s_th σ 0)).toNatClampNeg x1))) (3 * (ms_ki (ms_s_op (ms_s_th σ 0) (upd (ms_op (ms_s_th σ 0)) (ms_ki (ms_s_th σ 0)).toNatClampNeg x1)))).toNatClampNeg 9)))) + 1).toNatClampNeg 9)))) + 2).toNatClampNeg 9999))) (ms_ki (ms_s_to (ms_s_to (ms_s_to (ms_s_op (ms_s_th σ 0) (upd (ms_op (ms_s_th σ 0)) (ms_ki (ms_s_th σ 0)).toNatClampNeg x1)) (upd (ms_to (ms_s_op (ms_s_th σ 0) (upd (ms_op (ms_s_th σ 0)) (ms_ki (ms_s_th σ 0)).toNatClampNeg x1))) (3 * (ms_ki (ms_s_op (ms_s_th σ 0) (upd (ms_op (ms_s_th σ 0)) (ms_ki (ms_s_th σ 0)).toNatClampNeg x1)))).toNatClampNeg 9)) (upd (ms_to (ms_s_to (ms_s_op (ms_s_th σ 0) (upd (ms_op (ms_s_th σ 0)) (ms_ki (ms_s_th σ 0)).toNatClampNeg x1)) (upd (ms_to (ms_s_op (ms_s_th σ 0) (upd (ms_op (ms_s_th σ 0)) (ms_ki (ms_s_th σ 0)).toNatClampNeg x1))) (3 * (ms_ki (ms_s_op (ms_s_th σ 0) (upd (ms_op (ms_s_th σ 0)) (ms_ki (ms_s_th σ 0)).toNatClampNeg x1)))).toNatClampNeg 9))) ((3 * (ms_ki (ms_s_to (ms_s_op (ms_s_th σ 0) (upd (ms_op (ms_s_th σ 0)) (ms_ki (ms_s_th σ 0)).toNatClampNeg x1)) (upd (ms_to (ms_s_op (ms_s_th σ 0) (upd (ms_op (ms_s_th σ 0)) (ms_ki (ms_s_th σ 0)).toNatClampNeg x1))) (3 * (ms_ki (ms_s_op (ms_s_th σ 0) (upd (ms_op (ms_s_th σ 0)) (ms_ki (ms_s_th σ 0)).toNatClampNeg x1)))).toNatClampNeg 9)))) + 1).toNatClampNeg 9)) (upd (ms_to (ms_s_to (ms_s_to (ms_s_op (ms_s_th σ 0) (upd (ms_op (ms_s_th σ 0)) (ms_ki (ms_s_th σ 0)).toNatClampNeg x1)) (upd (ms_to (ms_s_op (ms_s_th σ 0) (upd (ms_op (ms_s_th σ 0)) (ms_ki (ms_s_th σ 0)).toNatClampNeg x1))) (3 * (ms_ki (ms_s_op (ms_s_th σ 0) (upd (ms_op (ms_s_th σ 0)) (ms_ki (ms_s_th σ 0)).toNatClampNeg x1)))).toNatClampNeg 9)) (upd (ms_to (ms_s_to (ms_s_op (ms_s_th σ 0) (upd (ms_op (ms_s_th σ 0)) (ms_ki (ms_s_th σ 0)).toNatClampNeg x1)) (upd (ms_to (ms_s_op (ms_s_th σ 0) (upd (ms_op (ms_s_th σ 0)) (ms_ki (ms_s_th σ 0)).toNatClampNeg x1))) (3 * (ms_ki (ms_s_op (ms_s_th σ 0) (upd (ms_op (ms_s_th σ 0)) (ms_ki (ms_s_th σ 0)).toNatClampNeg x1)))).toNatClampNeg 9))) ((3 * (ms_ki (ms_s_to (ms_s_op (ms_s_th σ 0) (upd (ms_op (ms_s_th σ 0)) (ms_ki (ms_s_th σ 0)).toNatClampNeg x1)) (upd (ms_to (ms_s_op (ms_s_th σ 0) (upd (ms_op (ms_s_th σ 0)) (ms_ki (ms_s_th σ 0)).toNatClampNeg x1))) (3 * (ms_ki (ms_s_op (ms_s_th σ 0) (upd (ms_op (ms_s_th σ 0)) (ms_ki (ms_s_th σ 0)).toNatClampNeg x1)))).toNatClampNeg 9)))) + 1).toNatClampNeg 9))) ((3 * (ms_ki (ms_s_to (ms_s_to (ms_s_op (ms_s_th σ 0) (upd (ms_op (ms_s_th σ 0)) (ms_ki (ms_s_th σ 0)).toNatClampNeg x1)) (upd (ms_to (ms_s_op (ms_s_th σ 0) (upd (ms_op (ms_s_th σ 0)) (ms_ki (ms_s_th σ 0)).toNatClampNeg x1))) (3 * (ms_ki (ms_s_op (ms_s_th σ 0) (upd (ms_op (ms_s_th σ 0)) (ms_ki (ms_s_th σ 0)).toNatClampNeg x1)))).toNatClampNeg 9)) (upd (ms_to (ms_s_to (ms_s_op (ms_s_th σ 0) (upd (ms_op (ms_s_th σ 0)) (ms_ki (ms_s_th σ 0)).toNatClampNeg x1)) (upd (ms_to (ms_s_op (ms_s_th σ 0) (upd (ms_op (ms_s_th σ 0)) (ms_ki (ms_s_th σ 0)).toNatClampNeg x1))) (3 * (ms_ki (ms_s_op (ms_s_th σ 0) (upd (ms_op (ms_s_th σ 0)) (ms_ki (ms_s_th σ 0)).toNatClampNeg x1)))).toNatClampNeg 9))) ((3 * (ms_ki (ms_s_to (ms_s_op (ms_s_th σ 0) (upd (ms_op (ms_s_th σ 0)) (ms_ki (ms_s_th σ 0)).toNatClampNeg x1)) (upd (ms_to (ms_s_op (ms_s_th σ 0) (upd (ms_op (ms_s_th σ 0)) (ms_ki (ms_s_th σ 0)).toNatClampNeg x1))) (3 * (ms_ki (ms_s_op (ms_s_th σ 0) (upd (ms_op (ms_s_th σ 0)) (ms_ki (ms_s_th σ 0)).toNatClampNeg x1)))).toNatClampNeg 9)))) + 1).toNatClampNeg 9)))) + 2).toNatClampNeg 9999))).toNatClampNeg 1)) ((ms_ki (ms_s_ta (ms_s_to (ms_s_to (ms_s_to (ms_s_op (ms_s_th σ 0) (upd (ms_op (ms_s_th σ 0)) (ms_ki (ms_s_th σ 0)).toNatClampNeg x1)) (upd (ms_to (ms_s_op (ms_s_th σ 0) (upd (ms_op (ms_s_th σ 0)) (ms_ki (ms_s_th σ 0)).toNatClampNeg x1))) (3 * (ms_ki (ms_s_op (ms_s_th σ 0) (upd (ms_op (ms_s_th σ 0)) (ms_ki (ms_s_th σ 0)).toNatClampNeg x1)))).toNatClampNeg 9)) (upd (ms_to (ms_s_to (ms_s_op (ms_s_th σ 0) (upd (ms_op (ms_s_th σ 0)) (ms_ki (ms_s_th σ 0)).toNatClampNeg x1)) (upd (ms_to (ms_s_op (ms_s_th σ 0) (upd (ms_op (ms_s_th σ 0)) (ms_ki (ms_s_th σ 0)).toNatClampNeg x1))) (3 * (ms_ki (ms_s_op (ms_s_th σ 0) (upd (ms_op (ms_s_th σ 0)) (ms_ki (ms_s_th σ 0)).toNatClampNeg x1)))).toNatClampNeg 9))) ((3 * (ms_ki (ms_s_to (ms_s_op (ms_s_th σ 0) (upd (ms_op (ms_s_th σ 0)) (ms_ki (ms_s_th σ 0)).toNatClampNeg x1)) (upd (ms_to (ms_s_op (ms_s_th σ 0) (upd (ms_op (ms_s_th σ 0)) (ms_ki (ms_s_th σ 0)).toNatClampNeg x1))) (3 * (ms_ki (ms_s_op (ms_s_th σ 0) (upd (ms_op (ms_s_th σ 0)) (ms_ki (ms_s_th σ 0)).toNatClampNeg x1)))).toNatClampNeg 9)))) + 1).toNatClampNeg 9)) (upd (ms_to (ms_s_to (ms_s_to (ms_s_op (ms_s_th σ 0) (upd (ms_op (ms_s_th σ 0)) (ms_ki (ms_s_th σ 0)).toNatClampNeg x1)) (upd (ms_to (ms_s_op (ms_s_th σ 0) (upd (ms_op (ms_s_th σ 0)) (ms_ki (ms_s_th σ 0)).toNatClampNeg x1))) (3 * (ms_ki (ms_s_op (ms_s_th σ 0) (upd (ms_op (ms_s_th σ 0)) (ms_ki (ms_s_th σ 0)).toNatClampNeg x1)))).toNatClampNeg 9)) (upd (ms_to (ms_s_to (ms_s_op (ms_s_th σ 0) (upd (ms_op (ms_s_th σ 0)) (ms_ki (ms_s_th σ 0)).toNatClampNeg x1)) (upd (ms_to (ms_s_op (ms_s_th σ 0) (upd (ms_op (ms_s_th σ 0)) (ms_ki (ms_s_th σ 0)).toNatClampNeg x1))) (3 * (ms_ki (ms_s_op (ms_s_th σ 0) (upd (ms_op (ms_s_th σ 0)) (ms_ki (ms_s_th σ 0)).toNatClampNeg x1)))).toNatClampNeg 9))) ((3 * (ms_ki (ms_s_to (ms_s_op (ms_s_th σ 0) (upd (ms_op (ms_s_th σ 0)) (ms_ki (ms_s_th σ 0)).toNatClampNeg x1)) (upd (ms_to (ms_s_op (ms_s_th σ 0) (upd (ms_op (ms_s_th σ 0)) (ms_ki (ms_s_th σ 0)).toNatClampNeg x1))) (3 * (ms_ki (ms_s_op (ms_s_th σ 0) (upd (ms_op (ms_s_th σ 0)) (ms_ki (ms_s_th σ 0)).toNatClampNeg x1)))).toNatClampNeg 9)))) + 1).toNatClampNeg 9))) ((3 * (ms_ki (ms_s_to (ms_s_to (ms_s_op (ms_s_th σ 0) (upd (ms_op (ms_s_th σ 0)) (ms_ki (ms_s_th σ 0)).toNatClampNeg x1)) (upd (ms_to (ms_s_op (ms_s_th σ 0) (upd (ms_op (ms_s_th σ 0)) (ms_ki (ms_s_th σ 0)).toNatClampNeg x1))) (3 * (ms_ki (ms_s_op (ms_s_th σ 0) (upd (ms_op (ms_s_th σ 0)) (ms_ki (ms_s_th σ 0)).toNatClampNeg x1)))).toNatClampNeg 9)) (upd (ms_to (ms_s_to (ms_s_op (ms_s_th σ 0) (upd (ms_op (ms_s_th σ 0)) (ms_ki (ms_s_th σ 0)).toNatClampNeg x1)) (upd (ms_to (ms_s_op (ms_s_th σ 0) (upd (ms_op (ms_s_th σ 0)) (ms_ki (ms_s_th σ 0)).toNatClampNeg x1))) (3 * (ms_ki (ms_s_op (ms_s_th σ 0) (upd (ms_op (ms_s_th σ 0)) (ms_ki (ms_s_th σ 0)).toNatClampNeg x1)))).toNatClampNeg 9))) ((3 * (ms_ki (ms_s_to (ms_s_op (ms_s_th σ 0) (upd (ms_op (ms_s_th σ 0)) (ms_ki (ms_s_th σ 0)).toNatClampNeg x1)) (upd (ms_to (ms_s_op (ms_s_th σ 0) (upd (ms_op (ms_s_th σ 0)) (ms_ki (ms_s_th σ 0)).toNatClampNeg x1))) (3 * (ms_ki (ms_s_op (ms_s_th σ 0) (upd (ms_op (ms_s_th σ 0)) (ms_ki (ms_s_th σ 0)).toNatClampNeg x1)))).toNatClampNeg 9)))) + 1).toNatClampNeg 9)))) + 2).toNatClampNeg 9999)) (upd (ms_ta (ms_s_to (ms_s_to (ms_s_to (ms_s_op (ms_s_th σ 0) (upd (ms_op (ms_s_th σ 0)) (ms_ki (ms_s_th σ 0)).toNatClampNeg x1)) (upd (ms_to (ms_s_op (ms_s_th σ 0) (upd (ms_op (ms_s_th σ 0)) (ms_ki (ms_s_th σ 0)).toNatClampNeg x1))) (3 * (ms_ki (ms_s_op (ms_s_th σ 0) (upd (ms_op (ms_s_th σ 0)) (ms_ki (ms_s_th σ 0)).toNatClampNeg x1)))).toNatClampNeg 9)) (upd (ms_to (ms_s_to (ms_s_op (ms_s_th σ 0) (upd (ms_op (ms_s_th σ 0)) (ms_ki (ms_s_th σ 0)).toNatClampNeg x1)) (upd (ms_to (ms_s_op (ms_s_th σ 0) (upd (ms_op (ms_s_th σ 0)) (ms_ki (ms_s_th σ 0)).toNatClampNeg x1))) (3 * (ms_ki (ms_s_op (ms_s_th σ 0) (upd (ms_op (ms_s_th σ 0)) (ms_ki (ms_s_th σ 0)).toNatClampNeg x1)))).toNatClampNeg 9))) ((3 * (ms_ki (ms_s_to (ms_s_op (ms_s_th σ 0) (upd (ms_op (ms_s_th σ 0)) (ms_ki (ms_s_th σ 0)).toNatClampNeg x1)) (upd (ms_to (ms_s_op (ms_s_th σ 0) (upd (ms_op (ms_s_th σ 0)) (ms_ki (ms_s_th σ 0)).toNatClampNeg x1))) (3 * (ms_ki (ms_s_op (ms_s_th σ 0) (upd (ms_op (ms_s_th σ 0)) (ms_ki (ms_s_th σ 0)).toNatClampNeg x1)))).toNatClampNeg 9)))) + 1).toNatClampNeg 9)) (upd (ms_to (ms_s_to (ms_s_to (ms_s_op (ms_s_th σ 0) (upd (ms_op (ms_s_th σ 0)) (ms_ki (ms_s_th σ 0)).toNatClampNeg x1)) (upd (ms_to (ms_s_op (ms_s_th σ 0) (upd (ms_op (ms_s_th σ 0)) (ms_ki (ms_s_th σ 0)).toNatClampNeg x1))) (3 * (ms_ki (ms_s_op (ms_s_th σ 0) (upd (ms_op (ms_s_th σ 0)) (ms_ki (ms_s_th σ 0)).toNatClampNeg x1)))).toNatClampNeg 9)) (upd (ms_to (ms_s_to (ms_s_op (ms_s_th σ 0) (upd (ms_op (ms_s_th σ 0)) (ms_ki (ms_s_th σ 0)).toNatClampNeg x1)) (upd (ms_to (ms_s_op (ms_s_th σ 0) (upd (ms_op (ms_s_th σ 0)) (ms_ki (ms_s_th σ 0)).toNatClampNeg x1))) (3 * (ms_ki (ms_s_op (ms_s_th σ 0) (upd (ms_op (ms_s_th σ 0)) (ms_ki (ms_s_th σ 0)).toNatClampNeg x1)))).toNatClampNeg 9))) ((3 * (ms_ki (ms_s_to (ms_s_op (ms_s_th σ 0) (upd (ms_op (ms_s_th σ 0)) (ms_ki (ms_s_th σ 0)).toNatClampNeg x1)) (upd (ms_to (ms_s_op (ms_s_th σ 0) (upd (ms_op (ms_s_th σ 0)) (ms_ki (ms_s_th σ 0)).toNatClampNeg x1))) (3 * (ms_ki (ms_s_op (ms_s_th σ 0) (upd (ms_op (ms_s_th σ 0)) (ms_ki (ms_s_th σ 0)).toNatClampNeg x1)))).toNatClampNeg 9)))) + 1).toNatClampNeg 9))) ((3 * (ms_ki (ms_s_to (ms_s_to (ms_s_op (ms_s_th σ 0) (upd (ms_op (ms_s_th σ 0)) (ms_ki (ms_s_th σ 0)).toNatClampNeg x1)) (upd (ms_to (ms_s_op (ms_s_th σ 0) (upd (ms_op (ms_s_th σ 0)) (ms_ki (ms_s_th σ 0)).toNatClampNeg x1))) (3 * (ms_ki (ms_s_op (ms_s_th σ 0) (upd (ms_op (ms_s_th σ 0)) (ms_ki (ms_s_th σ 0)).toNatClampNeg x1)))).toNatClampNeg 9)) (upd (ms_to (ms_s_to (ms_s_op (ms_s_th σ 0) (upd (ms_op (ms_s_th σ 0)) (ms_ki (ms_s_th σ 0)).toNatClampNeg x1)) (upd (ms_to (ms_s_op (ms_s_th σ 0) (upd (ms_op (ms_s_th σ 0)) (ms_ki (ms_s_th σ 0)).toNatClampNeg x1))) (3 * (ms_ki (ms_s_op (ms_s_th σ 0) (upd (ms_op (ms_s_th σ 0)) (ms_ki (ms_s_th σ 0)).toNatClampNeg x1)))).toNatClampNeg 9))) ((3 * (ms_ki (ms_s_to (ms_s_op (ms_s_th σ 0) (upd (ms_op (ms_s_th σ 0)) (ms_ki (ms_s_th σ 0)).toNatClampNeg x1)) (upd (ms_to (ms_s_op (ms_s_th σ 0) (upd (ms_op (ms_s_th σ 0)) (ms_ki (ms_s_th σ 0)).toNatClampNeg x1))) (3 * (ms_ki (ms_s_op (ms_s_th σ 0) (upd (ms_op (ms_s_th σ 0)) (ms_ki (ms_s_th σ 0)).toNatClampNeg x1)))).toNatClampNeg 9)))) + 1).toNatClampNeg 9)))) + 2).toNatClampNeg 9999))) (ms_ki (ms_s_to (ms_s_to (ms_s_to (ms_s_op (ms_s_th σ 0) (upd (ms_op (ms_s_th σ 0)) (ms_ki (ms_s_th σ 0)).toNatClampNeg x1)) (upd (ms_to (ms_s_op (ms_s_th σ 0) (upd (ms_op (ms_s_th σ 0)) (ms_ki (ms_s_th σ 0)).toNatClampNeg x1))) (3 * (ms_ki (ms_s_op (ms_s_th σ 0) (upd (ms_op (ms_s_th σ 0)) (ms_ki (ms_s_th σ 0)).toNatClampNeg x1)))).toNatClampNeg 9)) (upd (ms_to (ms_s_to (ms_s_op (ms_s_th σ 0) (upd (ms_op (ms_s_th σ 0)) (ms_ki (ms_s_th σ 0)).toNatClampNeg x1)) (upd (ms_to (ms_s_op (ms_s_th σ 0) (upd (ms_op (ms_s_th σ 0)) (ms_ki (ms_s_th σ 0)).toNatClampNeg x1))) (3 * (ms_ki (ms_s_op (ms_s_th σ 0) (upd (ms_op (ms_s_th σ 0)) (ms_ki (ms_s_th σ 0)).toNatClampNeg x1)))).toNatClampNeg 9))) ((3 * (ms_ki (ms_s_to (ms_s_op (ms_s_th σ 0) (upd (ms_op (ms_s_th σ 0)) (ms_ki (ms_s_th σ 0)).toNatClampNeg x1)) (upd (ms_to (ms_s_op (ms_s_th σ 0) (upd (ms_op (ms_s_th σ 0)) (ms_ki (ms_s_th σ 0)).toNatClampNeg x1))) (3 * (ms_ki (ms_s_op (ms_s_th σ 0) (upd (ms_op (ms_s_th σ 0)) (ms_ki (ms_s_th σ 0)).toNatClampNeg x1)))).toNatClampNeg 9)))) + 1).toNatClampNeg 9)) (upd (ms_to (ms_s_to (ms_s_to (ms_s_op (ms_s_th σ 0) (upd (ms_op (ms_s_th σ 0)) (ms_ki (ms_s_th σ 0)).toNatClampNeg x1)) (upd (ms_to (ms_s_op (ms_s_th σ 0) (upd (ms_op (ms_s_th σ 0)) (ms_ki (ms_s_th σ 0)).toNatClampNeg x1))) (3 * (ms_ki (ms_s_op (ms_s_th σ 0) (upd (ms_op (ms_s_th σ 0)) (ms_ki (ms_s_th σ 0)).toNatClampNeg x1)))).toNatClampNeg 9)) (upd (ms_to (ms_s_to (ms_s_op (ms_s_th σ 0) (upd (ms_op (ms_s_th σ 0)) (ms_ki (ms_s_th σ 0)).toNatClampNeg x1)) (upd (ms_to (ms_s_op (ms_s_th σ 0) (upd (ms_op (ms_s_th σ 0)) (ms_ki (ms_s_th σ 0)).toNatClampNeg x1))) (3 * (ms_ki (ms_s_op (ms_s_th σ 0) (upd (ms_op (ms_s_th σ 0)) (ms_ki (ms_s_th σ 0)).toNatClampNeg x1)))).toNatClampNeg 9))) ((3 * (ms_ki (ms_s_to (ms_s_op (ms_s_th σ 0) (upd (ms_op (ms_s_th σ 0)) (ms_ki (ms_s_th σ 0)).toNatClampNeg x1)) (upd (ms_to (ms_s_op (ms_s_th σ 0) (upd (ms_op (ms_s_th σ 0)) (ms_ki (ms_s_th σ 0)).toNatClampNeg x1))) (3 * (ms_ki (ms_s_op (ms_s_th σ 0) (upd (ms_op (ms_s_th σ 0)) (ms_ki (ms_s_th σ 0)).toNatClampNeg x1)))).toNatClampNeg 9)))) + 1).toNatClampNeg 9))) ((3 * (ms_ki (ms_s_to (ms_s_to (ms_s_op (ms_s_th σ 0) (upd (ms_op (ms_s_th σ 0)) (ms_ki (ms_s_th σ 0)).toNatClampNeg x1)) (upd (ms_to (ms_s_op (ms_s_th σ 0) (upd (ms_op (ms_s_th σ 0)) (ms_ki (ms_s_th σ 0)).toNatClampNeg x1))) (3 * (ms_ki (ms_s_op (ms_s_th σ 0) (upd (ms_op (ms_s_th σ 0)) (ms_ki (ms_s_th σ 0)).toNatClampNeg x1)))).toNatClampNeg 9)) (upd (ms_to (ms_s_to (ms_s_op (ms_s_th σ 0) (upd (ms_op (ms_s_th σ 0)) (ms_ki (ms_s_th σ 0)).toNatClampNeg x1)) (upd (ms_to (ms_s_op (ms_s_th σ 0) (upd (ms_op (ms_s_th σ 0)) (ms_ki (ms_s_th σ 0)).toNatClampNeg x1))) (3 * (ms_ki (ms_s_op (ms_s_th σ 0) (upd (ms_op (ms_s_th σ 0)) (ms_ki (ms_s_th σ 0)).toNatClampNeg x1)))).toNatClampNeg 9))) ((3 * (ms_ki (ms_s_to (ms_s_op (ms_s_th σ 0) (upd (ms_op (ms_s_th σ 0)) (ms_ki (ms_s_th σ 0)).toNatClampNeg x1)) (upd (ms_to (ms_s_op (ms_s_th σ 0) (upd (ms_op (ms_s_th σ 0)) (ms_ki (ms_s_th σ 0)).toNatClampNeg x1))) (3 * (ms_ki (ms_s_op (ms_s_th σ 0) (upd (ms_op (ms_s_th σ 0)) (ms_ki (ms_s_th σ 0)).toNatClampNeg x1)))).toNatClampNeg 9)))) + 1).toNatClampNeg 9)))) + 2).toNatClampNeg 9999))).toNatClampNeg 1))) + 1))) ∧ ((ms_ki (ms_s_th σ 0)) = 8 → Post (-4) (ms_s_th σ 0)))) ∧ ((fn_X2_in (x1.toInt64) 0 3) = 0 → Post (-2) (ms_s_th σ 0)))
def wp_X2_range_54 (g : CS) (Post : Int32 → MS → Prop) (σ : MS) (x1 : Int32) (x2 : Int32) (x3 : Int32) (x4 : Int32) (s0 : Int32) (s1 : Int32) : Prop :=
  ((s1 ≤ s0 → vp_in ((3 * x1) + x2) 24 ∧ vp_in ((3 * x1) + x2) 24 ∧ vp_in x1 8 ∧ pr_X2_tell (nx_range g x1 x2 x3 x4) (ms_s_is (ms_s_to (ms_s_fr σ (upd (ms_fr σ) ((3 * x1) + x2).toNatClampNeg x3)) (upd (ms_to (ms_s_fr σ (upd (ms_fr σ) ((3 * x1) + x2).toNatClampNeg x3))) ((3 * x1) + x2).toNatClampNeg x4)) (upd (ms_is (ms_s_to (ms_s_fr σ (upd (ms_fr σ) ((3 * x1) + x2).toNatClampNeg x3)) (upd (ms_to (ms_s_fr σ (upd (ms_fr σ) ((3 * x1) + x2).toNatClampNeg x3))) ((3 * x1) + x2).toNatClampNeg x4))) x1.toNatClampNeg (vp_nar .boolean 0))) x1 ∧ ∀ (r6 : Int32) (u7 : MS), po_X2_tell (nx_range g x1 x2 x3 x4) (ms_s_is (ms_s_to (ms_s_fr σ (upd (ms_fr σ) ((3 * x1) + x2).toNatClampNeg x3)) (upd (ms_to (ms_s_fr σ (upd (ms_fr σ) ((3 * x1) + x2).toNatClampNeg x3))) ((3 * x1) + x2).toNatClampNeg x4)) (upd (ms_is (ms_s_to (ms_s_fr σ (upd (ms_fr σ) ((3 * x1) + x2).toNatClampNeg x3)) (upd (ms_to (ms_s_fr σ (upd (ms_fr σ) ((3 * x1) + x2).toNatClampNeg x3))) ((3 * x1) + x2).toNatClampNeg x4))) x1.toNatClampNeg (vp_nar .boolean 0))) x1 r6 u7 → Post r6 u7) ∧ (¬ s1 ≤ s0 → Post (-2) σ))
def wp_X2_range (g : CS) (Post : Int32 → MS → Prop) (σ : MS) (x1 : Int32) (x2 : Int32) (x3 : Int32) (x4 : Int32) : Prop :=
  (((fn_X2_noKind (ms_s_th σ 0) x1) = 0 → (((fn_X2_in (x2.toInt64) 0 2) = 0 → Post (-2) (ms_s_th σ 0)) ∧ (¬ (fn_X2_in (x2.toInt64) 0 2) = 0 → (((fn_X2_in (x3.toInt64) 0 (x4.toInt64)) = 0 → Post (-2) (ms_s_th σ 0)) ∧ (¬ (fn_X2_in (x3.toInt64) 0 (x4.toInt64)) = 0 → ((¬ x2 = 2 → wp_X2_range_54 g Post (ms_s_th σ 0) x1 x2 x3 x4 99 x4) ∧ (x2 = 2 → wp_X2_range_54 g Post (ms_s_th σ 0) x1 x2 x3 x4 9999 x4))))))) ∧ (¬ (fn_X2_noKind (ms_s_th σ 0) x1) = 0 → Post (-1) (ms_s_th σ 0)))
def wp_X2_rule_113 (g : CS) (Post : Int32 → MS → Prop) (σ : MS) (x1 : Int32) (x2 : Int32) (x3 : Int32) (s0 : Int32) : Prop :=
  ((¬ x2 = 0 → ((¬ x2 = 1 → vp_in x1 8 ∧ Post s0 (ms_s_be σ (upd (ms_be σ) x1.toNatClampNeg x3))) ∧ (x2 = 1 → vp_in x1 8 ∧ Post s0 (ms_s_ta σ (upd (ms_ta σ) x1.toNatClampNeg x3))))) ∧ (x2 = 0 → vp_in x1 8 ∧ vp_in x1 8 ∧ Post s0 (ms_s_is (ms_s_la σ (upd (ms_la σ) x1.toNatClampNeg x3)) (upd (ms_is (ms_s_la σ (upd (ms_la σ) x1.toNatClampNeg x3))) x1.toNatClampNeg (vp_nar .boolean 0)))))
def wp_X2_rule_70 (g : CS) (Post : Int32 → MS → Prop) (σ : MS) (x1 : Int32) (x2 : Int32) (x3 : Int32) (s0 : Int32) : Prop :=
  ((¬ s0 = 0 → ((¬ x2 = 0 → ((¬ x2 = 1 → vp_in x1 8 ∧ wp_X2_rule_113 g Post σ x1 x2 x3 (ms_be σ x1.toNatClampNeg)) ∧ (x2 = 1 → vp_in x1 8 ∧ wp_X2_rule_113 g Post σ x1 x2 x3 (ms_ta σ x1.toNatClampNeg)))) ∧ (x2 = 0 → vp_in x1 8 ∧ wp_X2_rule_113 g Post σ x1 x2 x3 (ms_la σ x1.toNatClampNeg)))) ∧ (s0 = 0 → Post (-2) σ))
def wp_X2_rule_69 (g : CS) (Post : Int32 → MS → Prop) (σ : MS) (x1 : Int32) (x2 : Int32) (x3 : Int32) : Prop :=
  wp_X2_rule_70 g Post σ x1 x2 x3 0
def wp_X2_rule_65 (g : CS) (Post : Int32 → MS → Prop) (σ : MS) (x1 : Int32) (x2 : Int32) (x3 : Int32) : Prop :=
  wp_X2_rule_70 g Post σ x1 x2 x3 1
def wp_X2_rule_48 (g : CS) (Post : Int32 → MS → Prop) (σ : MS) (x1 : Int32) (x2 : Int32) (x3 : Int32) : Prop :=
  ((¬ x2 = 2 → wp_X2_rule_69 g Post σ x1 x2 x3) ∧ (x2 = 2 → (((fn_X2_in (x3.toInt64) 0 9999) = 0 → wp_X2_rule_69 g Post σ x1 x2 x3) ∧ (¬ (fn_X2_in (x3.toInt64) 0 9999) = 0 → wp_X2_rule_65 g Post σ x1 x2 x3))))
def wp_X2_rule_31 (g : CS) (Post : Int32 → MS → Prop) (σ : MS) (x1 : Int32) (x2 : Int32) (x3 : Int32) : Prop :=
  ((¬ x2 = 1 → wp_X2_rule_48 g Post σ x1 x2 x3) ∧ (x2 = 1 → ((¬ (fn_X2_in (x3.toInt64) 1 9) = 0 → wp_X2_rule_65 g Post σ x1 x2 x3) ∧ ((fn_X2_in (x3.toInt64) 1 9) = 0 → wp_X2_rule_48 g Post σ x1 x2 x3))))
def wp_X2_rule (g : CS) (Post : Int32 → MS → Prop) (σ : MS) (x1 : Int32) (x2 : Int32) (x3 : Int32) : Prop :=
  (((fn_X2_noKind (ms_s_th σ 0) x1) = 0 → ((¬ x2 = 0 → wp_X2_rule_31 g Post (ms_s_th σ 0) x1 x2 x3) ∧ (x2 = 0 → ((¬ (fn_X2_in (x3.toInt64) 0 3) = 0 → wp_X2_rule_65 g Post (ms_s_th σ 0) x1 x2 x3) ∧ ((fn_X2_in (x3.toInt64) 0 3) = 0 → wp_X2_rule_31 g Post (ms_s_th σ 0) x1 x2 x3))))) ∧ (¬ (fn_X2_noKind (ms_s_th σ 0) x1) = 0 → Post (-1) (ms_s_th σ 0)))
def wp_X2_variants (g : CS) (Post : Int32 → MS → Prop) (σ : MS) (x1 : Int32) : Prop :=
  (((fn_X2_noKind (ms_s_th σ 0) x1) = 0 → pr_X2_tell g (ms_s_th σ 0) x1 ∧ ∀ (r4 : Int32) (u5 : MS), po_X2_tell g (ms_s_th σ 0) x1 r4 u5 → Post r4 u5) ∧ (¬ (fn_X2_noKind (ms_s_th σ 0) x1) = 0 → Post (-1) (ms_s_th σ 0)))
def wp_X2_variant (g : CS) (Post : Int32 → MS → Prop) (σ : MS) (x1 : Int32) (x2 : Int32) (x3 : Int32) : Prop :=
  pr_X2_noVariant g (ms_s_th σ 0) x1 x2 ∧ ∀ (r2 : Int32) (u3 : MS), po_X2_noVariant g (ms_s_th σ 0) x1 x2 r2 u3 → ((r2 = 0 → pr_X2_pairOf g u3 x1 x2 ∧ ∀ x4_7 : Int32, x4_7 = ((fn_X2_pairOf u3 x1 x2) / 100) → pr_X2_pairOf g u3 x1 x2 ∧ ∀ x5_10 : Int32, x5_10 = ((fn_X2_pairOf u3 x1 x2) - (fn_X2_pairOf u3 x1 x2) / 100 * 100) → ((x3 = 0 → Post x4_7 u3) ∧ (¬ x3 = 0 → ((x3 = 1 → Post x5_10 u3) ∧ (¬ x3 = 1 → ((x3 = 2 → vp_in x1 8 ∧ Post (fn_X2_answerOf (ms_op u3 x1.toNatClampNeg) x4_7 x5_10) u3) ∧ (¬ x3 = 2 → ((x3 = 3 → vp_in x1 8 ∧ (((fn_X2_carries (ms_op u3 x1.toNatClampNeg) x4_7 x5_10) = 0 → Post 0 u3) ∧ (¬ (fn_X2_carries (ms_op u3 x1.toNatClampNeg) x4_7 x5_10) = 0 → Post 1 u3))) ∧ (¬ x3 = 3 → Post (-2) u3))))))))) ∧ (¬ r2 = 0 → Post (-1) u3))
def wp_X2_find_18 (g : CS) (K18 : (MS × Int32 × Int32 × Int32 × Int32) → Prop) (Post : Int32 → MS → Prop) (σ : MS) (x1 : Int32) (x2 : Int32) (x3 : Int32) (x4 : Int32) : Prop :=
  pr_X2_tell g σ x1 ∧ ∀ (r2 : Int32) (u3 : MS), po_X2_tell g σ x1 r2 u3 → ((r2 ≤ x4 → Post (-9) u3) ∧ (¬ r2 ≤ x4 → pr_X2_pairOf g u3 x1 x4 ∧ ((¬ ((fn_X2_pairOf u3 x1 x4) / 100) = x2 → ∀ x4_8 : Int32, x4_8 = x4 + 1 → K18 (u3, x1, x2, x3, x4_8)) ∧ (((fn_X2_pairOf u3 x1 x4) / 100) = x2 → pr_X2_pairOf g u3 x1 x4 ∧ ((¬ ((fn_X2_pairOf u3 x1 x4) - (fn_X2_pairOf u3 x1 x4) / 100 * 100) = x3 → ∀ x4_12 : Int32, x4_12 = x4 + 1 → K18 (u3, x1, x2, x3, x4_12)) ∧ (((fn_X2_pairOf u3 x1 x4) - (fn_X2_pairOf u3 x1 x4) / 100 * 100) = x3 → Post x4 u3))))))
def wp_X2_find (g : CS) (Post : Int32 → MS → Prop) (σ : MS) (x1 : Int32) (x2 : Int32) (x3 : Int32) : Prop :=
  (((fn_X2_noKind (ms_s_th σ 0) x1) = 0 → LPX (fun K a => wp_X2_find_18 g K Post a.1 a.2.1 a.2.2.1 a.2.2.2.1 a.2.2.2.2) ((ms_s_th σ 0), x1, x2, x3, 0)) ∧ (¬ (fn_X2_noKind (ms_s_th σ 0) x1) = 0 → Post (-1) (ms_s_th σ 0)))
def wp_X2_slipAt (g : CS) (Post : Int32 → MS → Prop) (σ : MS) (x1 : Int32) (x2 : Int32) (x3 : Int32) : Prop :=
  vp_in x1 8 ∧ pr_X2_pairOf g σ x1 x2 ∧ pr_X2_pairOf g σ x1 x2 ∧ Post (fn_X2_slipOf (ms_op σ x1.toNatClampNeg) ((fn_X2_pairOf σ x1 x2) / 100) ((fn_X2_pairOf σ x1 x2) - (fn_X2_pairOf σ x1 x2) / 100 * 100) x3) σ
def wp_X2_rightAt (g : CS) (Post : Int32 → MS → Prop) (σ : MS) (x1 : Int32) (x2 : Int32) : Prop :=
  vp_in x1 8 ∧ pr_X2_pairOf g σ x1 x2 ∧ pr_X2_pairOf g σ x1 x2 ∧ Post (fn_X2_answerOf (ms_op σ x1.toNatClampNeg) ((fn_X2_pairOf σ x1 x2) / 100) ((fn_X2_pairOf σ x1 x2) - (fn_X2_pairOf σ x1 x2) / 100 * 100)) σ
def wp_X2_slip (g : CS) (Post : Int32 → MS → Prop) (σ : MS) (x1 : Int32) (x2 : Int32) (x3 : Int32) : Prop :=
  pr_X2_noVariant g (ms_s_th σ 0) x1 x2 ∧ ∀ (r2 : Int32) (u3 : MS), po_X2_noVariant g (ms_s_th σ 0) x1 x2 r2 u3 → ((r2 = 0 → (((fn_X2_in (x3.toInt64) 1 5) = 0 → Post (-2) u3) ∧ (¬ (fn_X2_in (x3.toInt64) 1 5) = 0 → pr_X2_slipAt g u3 x1 x2 x3 ∧ Post (fn_X2_slipAt g u3 x1 x2 x3) u3))) ∧ (¬ r2 = 0 → Post (-1) u3))
def wp_X2_tellsOf_15 (g : CS) (K15 : (MS × Int32 × Int32 × Int32 × Int32) → Prop) (Post : Int32 → MS → Prop) (σ : MS) (x1 : Int32) (x2 : Int32) (x3 : Int32) (x4 : Int32) : Prop :=
  ((6 ≤ x4 → Post (-9) σ) ∧ (¬ 6 ≤ x4 → ((x3 < 0 → ∀ x4_3 : Int32, x4_3 = x4 + 1 → K15 (σ, x1, x2, x3, x4_3)) ∧ (¬ x3 < 0 → pr_X2_slipAt g σ x1 x2 x4 ∧ ((¬ (fn_X2_slipAt g σ x1 x2 x4) = x3 → ∀ x4_7 : Int32, x4_7 = x4 + 1 → K15 (σ, x1, x2, x3, x4_7)) ∧ ((fn_X2_slipAt g σ x1 x2 x4) = x3 → Post x4 σ))))))
def wp_X2_tellsOf (g : CS) (Post : Int32 → MS → Prop) (σ : MS) (x1 : Int32) (x2 : Int32) (x3 : Int32) : Prop :=
  pr_X2_rightAt g σ x1 x2 ∧ ((¬ x3 = (fn_X2_rightAt g σ x1 x2) → LPX (fun K a => wp_X2_tellsOf_15 g K Post a.1 a.2.1 a.2.2.1 a.2.2.2.1 a.2.2.2.2) (σ, x1, x2, x3, 1)) ∧ (x3 = (fn_X2_rightAt g σ x1 x2) → Post 0 σ))
def wp_X2_tells (g : CS) (Post : Int32 → MS → Prop) (σ : MS) (x1 : Int32) (x2 : Int32) (x3 : Int32) : Prop :=
  pr_X2_noVariant g (ms_s_th σ 0) x1 x2 ∧ ∀ (r2 : Int32) (u3 : MS), po_X2_noVariant g (ms_s_th σ 0) x1 x2 r2 u3 → ((r2 = 0 → pr_X2_tellsOf g u3 x1 x2 x3 ∧ Post (fn_X2_tellsOf g u3 x1 x2 x3) u3) ∧ (¬ r2 = 0 → Post (-1) u3))
def wp_X2_plan_46 (g : CS) (K46 : (MS × Int32 × Int32 × Int32) → Prop) (Post : Int32 → MS → Prop) (σ : MS) (x1 : Int32) (x2 : Int32) (x3 : Int32) : Prop :=
  ((x2 ≤ x3 → Post (ms_pc σ) σ) ∧ (¬ x2 ≤ x3 → vp_in (ms_pc σ) 40 ∧ ∀ x3_3 : Int32, x3_3 = x3 + 1 → K46 ((ms_s_pc (ms_s_pn σ (upd (ms_pn σ) (ms_pc σ).toNatClampNeg x1)) ((ms_pc (ms_s_pn σ (upd (ms_pn σ) (ms_pc σ).toNatClampNeg x1))) + 1)), x1, x2, x3_3)))
def wp_X2_plan (g : CS) (Post : Int32 → MS → Prop) (σ : MS) (x1 : Int32) (x2 : Int32) : Prop :=
  (((fn_X2_noKind (ms_s_th σ 0) x1) = 0 → ((¬ (fn_X2_in (x2.toInt64) 1 40) = 0 → ((((ms_pc (ms_s_th σ 0)) + x2) ≤ 40 → LPX (fun K a => wp_X2_plan_46 g K Post a.1 a.2.1 a.2.2.1 a.2.2.2) ((ms_s_th σ 0), x1, x2, 0)) ∧ (¬ ((ms_pc (ms_s_th σ 0)) + x2) ≤ 40 → Post (-4) (ms_s_th σ 0)))) ∧ ((fn_X2_in (x2.toInt64) 1 40) = 0 → Post (-2) (ms_s_th σ 0)))) ∧ (¬ (fn_X2_noKind (ms_s_th σ 0) x1) = 0 → Post (-1) (ms_s_th σ 0)))
def wp_X2_clear (g : CS) (Post : Int32 → MS → Prop) (σ : MS) : Prop :=
  ∀ x1_1 : Int32, x1_1 = (ms_pc (ms_s_th σ 0)) → Post x1_1 (ms_s_pc (ms_s_th σ 0) 0)
def wp_X2_placed (g : CS) (Post : Int32 → MS → Prop) (σ : MS) (x1 : Int32) : Prop :=
  (((fn_X2_noPlace (ms_s_th σ 0) x1) = 0 → vp_in x1 40 ∧ Post (ms_pn (ms_s_th σ 0) x1.toNatClampNeg) (ms_s_th σ 0)) ∧ (¬ (fn_X2_noPlace (ms_s_th σ 0) x1) = 0 → Post (-1) (ms_s_th σ 0)))
def wp_X2_lines (g : CS) (Post : Int32 → MS → Prop) (σ : MS) (x1 : Int32) : Prop :=
  ((¬ (fn_X2_in (x1.toInt64) 9 99) = 0 → ∀ x2_3 : Int32, x2_3 = (ms_li (ms_s_th σ 0)) → Post x2_3 (ms_s_li (ms_s_th σ 0) x1)) ∧ ((fn_X2_in (x1.toInt64) 9 99) = 0 → Post (-2) (ms_s_th σ 0)))
def wp_X2_where_7 (g : CS) (K7 : (MS × Int32 × Int32 × Int32 × Int32) → Prop) (Post : Int32 → MS → Prop) (σ : MS) (x1 : Int32) (x2 : Int32) (x3 : Int32) (x4 : Int32) : Prop :=
  ((x1 < x4 → vp_in x1 40 ∧ vp_in (ms_pn σ x1.toNatClampNeg) 8 ∧ Post (((100 * x2) + x3) - (ms_ta σ (ms_pn σ x1.toNatClampNeg).toNatClampNeg)) σ) ∧ (¬ x1 < x4 → vp_in x4 40 ∧ vp_in (ms_pn σ x4.toNatClampNeg) 8 ∧ (((x3 + (ms_ta σ (ms_pn σ x4.toNatClampNeg).toNatClampNeg)) ≤ (ms_li σ) → vp_in x4 40 ∧ vp_in (ms_pn σ x4.toNatClampNeg) 8 ∧ ∀ x3_9 : Int32, x3_9 = (x3 + (ms_ta σ (ms_pn σ x4.toNatClampNeg).toNatClampNeg)) → ∀ x4_10 : Int32, x4_10 = x4 + 1 → K7 (σ, x1, x2, x3_9, x4_10)) ∧ (¬ (x3 + (ms_ta σ (ms_pn σ x4.toNatClampNeg).toNatClampNeg)) ≤ (ms_li σ) → ∀ x2_11 : Int32, x2_11 = x2 + 1 → vp_in x4 40 ∧ vp_in (ms_pn σ x4.toNatClampNeg) 8 ∧ ∀ x3_14 : Int32, x3_14 = (0 + (ms_ta σ (ms_pn σ x4.toNatClampNeg).toNatClampNeg)) → ∀ x4_15 : Int32, x4_15 = x4 + 1 → K7 (σ, x1, x2_11, x3_14, x4_15)))))
def wp_X2_where (g : CS) (Post : Int32 → MS → Prop) (σ : MS) (x1 : Int32) : Prop :=
  LPX (fun K a => wp_X2_where_7 g K Post a.1 a.2.1 a.2.2.1 a.2.2.2.1 a.2.2.2.2) (σ, x1, 0, 0, 0)
def wp_X2_pages (g : CS) (Post : Int32 → MS → Prop) (σ : MS) : Prop :=
  ((¬ (ms_pc (ms_s_th σ 0)) = 0 → pr_X2_where g (ms_s_th σ 0) ((ms_pc (ms_s_th σ 0)) - 1) ∧ Post (((fn_X2_where g (ms_s_th σ 0) ((ms_pc (ms_s_th σ 0)) - 1)) / 100) + 1) (ms_s_th σ 0)) ∧ ((ms_pc (ms_s_th σ 0)) = 0 → Post 0 (ms_s_th σ 0)))
def wp_X2_page (g : CS) (Post : Int32 → MS → Prop) (σ : MS) (x1 : Int32) (x2 : Int32) : Prop :=
  (((fn_X2_noPlace (ms_s_th σ 0) x1) = 0 → ((x2 = 0 → pr_X2_where g (ms_s_th σ 0) x1 ∧ Post ((fn_X2_where g (ms_s_th σ 0) x1) / 100) (ms_s_th σ 0)) ∧ (¬ x2 = 0 → pr_X2_where g (ms_s_th σ 0) x1 ∧ Post ((fn_X2_where g (ms_s_th σ 0) x1) - (fn_X2_where g (ms_s_th σ 0) x1) / 100 * 100) (ms_s_th σ 0)))) ∧ (¬ (fn_X2_noPlace (ms_s_th σ 0) x1) = 0 → Post (-1) (ms_s_th σ 0)))
def wp_X2_noSheet_4 (g : CS) (K4 : (MS × Int32 × Int32) → Prop) (Post : Int32 → MS → Prop) (σ : MS) (x1 : Int32) (x2 : Int32) : Prop :=
  (((ms_pc σ) ≤ x2 → (narrow .boolean (.int x1) = .int x1 ∧ Post x1 σ)) ∧ (¬ (ms_pc σ) ≤ x2 → ((¬ x1 = 0 → ∀ x2_3 : Int32, x2_3 = x2 + 1 → K4 (σ, 1, x2_3)) ∧ (x1 = 0 → vp_in x2 40 ∧ pr_X2_tell g σ (ms_pn σ x2.toNatClampNeg) ∧ ∀ (r6 : Int32) (u7 : MS), po_X2_tell g σ (ms_pn σ x2.toNatClampNeg) r6 u7 → ((¬ r6 = 0 → ∀ x2_9 : Int32, x2_9 = x2 + 1 → K4 (u7, 0, x2_9)) ∧ (r6 = 0 → ∀ x2_10 : Int32, x2_10 = x2 + 1 → K4 (u7, 1, x2_10)))))))
def wp_X2_noSheet (g : CS) (Post : Int32 → MS → Prop) (σ : MS) : Prop :=
  LPX (fun K a => wp_X2_noSheet_4 g K Post a.1 a.2.1 a.2.2) (σ, 0, 0)
def wp_X2_ahead_5 (g : CS) (K5 : (MS × Int32 × Int32 × Int32 × Int32) → Prop) (Post : Int32 → MS → Prop) (σ : MS) (x1 : Int32) (x2 : Int32) (x3 : Int32) (x4 : Int32) : Prop :=
  ((x2 ≤ x4 → Post x3 σ) ∧ (¬ x2 ≤ x4 → vp_in x4 40 ∧ ((¬ (ms_pn σ x4.toNatClampNeg) = x1 → ∀ x3_4 : Int32, x3_4 = (x3 + 0) → ∀ x4_5 : Int32, x4_5 = x4 + 1 → K5 (σ, x1, x2, x3_4, x4_5)) ∧ ((ms_pn σ x4.toNatClampNeg) = x1 → ∀ x3_6 : Int32, x3_6 = (x3 + 1) → ∀ x4_7 : Int32, x4_7 = x4 + 1 → K5 (σ, x1, x2, x3_6, x4_7)))))
def wp_X2_ahead (g : CS) (Post : Int32 → MS → Prop) (σ : MS) (x1 : Int32) (x2 : Int32) : Prop :=
  LPX (fun K a => wp_X2_ahead_5 g K Post a.1 a.2.1 a.2.2.1 a.2.2.2.1 a.2.2.2.2) (σ, x1, x2, 0, 0)
def wp_X2_variantAt (g : CS) (Post : Int32 → MS → Prop) (σ : MS) (x1 : Int32) (x2 : Int32) : Prop :=
  vp_in x2 40 ∧ ∀ x3_2 : Int32, x3_2 = (ms_pn σ x2.toNatClampNeg) → pr_X2_ahead g σ x3_2 (ms_pc σ) ∧ pr_X2_ahead g σ x3_2 x2 ∧ vp_in x3_2 8 ∧ pr_X2_tell g σ x3_2 ∧ ∀ (r9 : Int32) (u10 : MS), po_X2_tell g σ x3_2 r9 u10 → (¬ r9 = 0) ∧ Post ((((x1 * (fn_X2_ahead g σ x3_2 (ms_pc σ))) + (fn_X2_ahead g σ x3_2 x2)) + (ms_be σ x3_2.toNatClampNeg)) - (((x1 * (fn_X2_ahead g σ x3_2 (ms_pc σ))) + (fn_X2_ahead g σ x3_2 x2)) + (ms_be σ x3_2.toNatClampNeg)) / r9 * r9) u10
def wp_X2_sheet (g : CS) (Post : Int32 → MS → Prop) (σ : MS) (x1 : Int32) (x2 : Int32) : Prop :=
  (((fn_X2_noPlace (ms_s_th σ 0) x2) = 0 → (((fn_X2_noNumber x1) = 0 → pr_X2_noSheet g (ms_s_th σ 0) ∧ ∀ (r6 : Int32) (u7 : MS), po_X2_noSheet g (ms_s_th σ 0) r6 u7 → ((r6 = 0 → pr_X2_variantAt g u7 x1 x2 ∧ ∀ (r10 : Int32) (u11 : MS), po_X2_variantAt g u7 x1 x2 r10 u11 → Post r10 u11) ∧ (¬ r6 = 0 → Post (-3) u7))) ∧ (¬ (fn_X2_noNumber x1) = 0 → Post (-2) (ms_s_th σ 0)))) ∧ (¬ (fn_X2_noPlace (ms_s_th σ 0) x2) = 0 → Post (-1) (ms_s_th σ 0)))
def wp_X2_answerAt (g : CS) (Post : Int32 → MS → Prop) (σ : MS) (x1 : Int32) (x2 : Int32) : Prop :=
  vp_in x2 40 ∧ pr_X2_variantAt g σ x1 x2 ∧ ∀ (r3 : Int32) (u4 : MS), po_X2_variantAt g σ x1 x2 r3 u4 → pr_X2_rightAt g u4 (ms_pn σ x2.toNatClampNeg) r3 ∧ Post (fn_X2_rightAt g u4 (ms_pn σ x2.toNatClampNeg) r3) u4
def wp_X2_answer (g : CS) (Post : Int32 → MS → Prop) (σ : MS) (x1 : Int32) (x2 : Int32) : Prop :=
  (((fn_X2_noPlace (ms_s_th σ 0) x2) = 0 → (((fn_X2_noNumber x1) = 0 → pr_X2_noSheet g (ms_s_th σ 0) ∧ ∀ (r6 : Int32) (u7 : MS), po_X2_noSheet g (ms_s_th σ 0) r6 u7 → ((r6 = 0 → pr_X2_answerAt g u7 x1 x2 ∧ ∀ (r10 : Int32) (u11 : MS), po_X2_answerAt g u7 x1 x2 r10 u11 → Post r10 u11) ∧ (¬ r6 = 0 → Post (-3) u7))) ∧ (¬ (fn_X2_noNumber x1) = 0 → Post (-2) (ms_s_th σ 0)))) ∧ (¬ (fn_X2_noPlace (ms_s_th σ 0) x2) = 0 → Post (-1) (ms_s_th σ 0)))
def wp_X2_code_29 (g : CS) (K29 : (MS × Int32 × Int32 × Int32) → Prop) (Post : Int32 → MS → Prop) (σ : MS) (x1 : Int32) (x2 : Int32) (x3 : Int32) : Prop :=
  (((ms_pc σ) ≤ x3 → Post (x2 - x2 / 97 * 97) σ) ∧ (¬ (ms_pc σ) ≤ x3 → pr_X2_answerAt g σ x1 x3 ∧ ∀ (r3 : Int32) (u4 : MS), po_X2_answerAt g σ x1 x3 r3 u4 → ∀ x2_5 : Int32, x2_5 = (x2 + (r3 * (x3 + 1))) → ∀ x3_6 : Int32, x3_6 = x3 + 1 → K29 (u4, x1, x2_5, x3_6)))
def wp_X2_code (g : CS) (Post : Int32 → MS → Prop) (σ : MS) (x1 : Int32) : Prop :=
  (((fn_X2_noNumber x1) = 0 → pr_X2_noSheet g (ms_s_th σ 0) ∧ ∀ (r4 : Int32) (u5 : MS), po_X2_noSheet g (ms_s_th σ 0) r4 u5 → ((r4 = 0 → LPX (fun K a => wp_X2_code_29 g K Post a.1 a.2.1 a.2.2.1 a.2.2.2) (u5, x1, 0, 0)) ∧ (¬ r4 = 0 → Post (-3) u5))) ∧ (¬ (fn_X2_noNumber x1) = 0 → Post (-2) (ms_s_th σ 0)))
def wp_X2_shared_113 (g : CS) (K37 : (MS × Int32 × Int32 × Int32 × Int32) → Prop) (Post : Int32 → MS → Prop) (σ : MS) (x1 : Int32) (x2 : Int32) (x3 : Int32) (x4 : Int32) (x5 : Int32) : Prop :=
  ((x5 = 0 → ∀ x3_2 : Int32, x3_2 = (x3 + 0) → ∀ x4_3 : Int32, x4_3 = x4 + 1 → K37 (σ, x1, x2, x3_2, x4_3)) ∧ (¬ x5 = 0 → ∀ x3_4 : Int32, x3_4 = (x3 + 1) → ∀ x4_5 : Int32, x4_5 = x4 + 1 → K37 (σ, x1, x2, x3_4, x4_5)))
def wp_X2_shared_52 (g : CS) (K37 : (MS × Int32 × Int32 × Int32 × Int32) → Prop) (K52 : (MS × Int32 × Int32 × Int32 × Int32 × Int32 × Int32) → Prop) (Post : Int32 → MS → Prop) (σ : MS) (x1 : Int32) (x2 : Int32) (x3 : Int32) (x4 : Int32) (x5 : Int32) (x6 : Int32) : Prop :=
  (((ms_pc σ) ≤ x6 → wp_X2_shared_113 g K37 Post σ x1 x2 x3 x4 x5) ∧ (¬ (ms_pc σ) ≤ x6 → ((¬ x5 = 0 → wp_X2_shared_113 g K37 Post σ x1 x2 x3 x4 x5) ∧ (x5 = 0 → vp_in x6 40 ∧ vp_in x4 40 ∧ ((¬ (ms_pn σ x6.toNatClampNeg) = (ms_pn σ x4.toNatClampNeg) → ∀ x6_6 : Int32, x6_6 = x6 + 1 → K52 (σ, x1, x2, x3, x4, 0, x6_6)) ∧ ((ms_pn σ x6.toNatClampNeg) = (ms_pn σ x4.toNatClampNeg) → pr_X2_variantAt g σ x2 x6 ∧ ∀ (r8 : Int32) (u9 : MS), po_X2_variantAt g σ x2 x6 r8 u9 → pr_X2_variantAt g u9 x1 x4 ∧ ∀ (r11 : Int32) (u12 : MS), po_X2_variantAt g u9 x1 x4 r11 u12 → ((¬ r8 = r11 → ∀ x6_14 : Int32, x6_14 = x6 + 1 → K52 (u12, x1, x2, x3, x4, 0, x6_14)) ∧ (r8 = r11 → ∀ x6_15 : Int32, x6_15 = x6 + 1 → K52 (u12, x1, x2, x3, x4, 1, x6_15)))))))))
def wp_X2_shared_37 (g : CS) (K37 : (MS × Int32 × Int32 × Int32 × Int32) → Prop) (Post : Int32 → MS → Prop) (σ : MS) (x1 : Int32) (x2 : Int32) (x3 : Int32) (x4 : Int32) : Prop :=
  (((ms_pc σ) ≤ x4 → Post x3 σ) ∧ (¬ (ms_pc σ) ≤ x4 → LPX (fun K a => wp_X2_shared_52 g K37 K Post a.1 a.2.1 a.2.2.1 a.2.2.2.1 a.2.2.2.2.1 a.2.2.2.2.2.1 a.2.2.2.2.2.2) (σ, x1, x2, x3, x4, 0, 0)))
def wp_X2_shared (g : CS) (Post : Int32 → MS → Prop) (σ : MS) (x1 : Int32) (x2 : Int32) : Prop :=
  ((¬ (fn_X2_noNumber x1) = 0 → Post (-2) (ms_s_th σ 0)) ∧ ((fn_X2_noNumber x1) = 0 → (((fn_X2_noNumber x2) = 0 → pr_X2_noSheet g (ms_s_th σ 0) ∧ ∀ (r6 : Int32) (u7 : MS), po_X2_noSheet g (ms_s_th σ 0) r6 u7 → ((r6 = 0 → LPX (fun K a => wp_X2_shared_37 g K Post a.1 a.2.1 a.2.2.1 a.2.2.2.1 a.2.2.2.2) (u7, x1, x2, 0, 0)) ∧ (¬ r6 = 0 → Post (-3) u7))) ∧ (¬ (fn_X2_noNumber x2) = 0 → Post (-2) (ms_s_th σ 0)))))
def wp_X2_isApart_5 (g : CS) (K5 : (MS × Int32 × Int32 × Int32 × Int32) → Prop) (Post : Int32 → MS → Prop) (σ : MS) (x1 : Int32) (x2 : Int32) (x3 : Int32) (x4 : Int32) : Prop :=
  (((ms_ki σ) ≤ x4 → (narrow .boolean (.int x3) = .int x3 ∧ Post x3 σ)) ∧ (¬ (ms_ki σ) ≤ x4 → ((x3 = 0 → (narrow .boolean (.int x3) = .int x3 ∧ Post x3 σ)) ∧ (¬ x3 = 0 → pr_X2_ahead g σ x4 (ms_pc σ) ∧ ∀ x5_5 : Int32, x5_5 = (fn_X2_ahead g σ x4 (ms_pc σ)) → ((x5_5 ≤ 0 → ∀ x4_7 : Int32, x4_7 = x4 + 1 → K5 (σ, x1, x2, x3, x4_7)) ∧ (¬ x5_5 ≤ 0 → pr_X2_tell g σ x4 ∧ ∀ (r9 : Int32) (u10 : MS), po_X2_tell g σ x4 r9 u10 → (¬ r9 = 0) ∧ ∀ x7_12 : Int32, x7_12 = (((x2 - x1) * x5_5) - ((x2 - x1) * x5_5) / r9 * r9) → ((x7_12 < x5_5 → ∀ x4_14 : Int32, x4_14 = x4 + 1 → K5 (u10, x1, x2, 0, x4_14)) ∧ (¬ x7_12 < x5_5 → (((r9 - x7_12) < x5_5 → ∀ x4_16 : Int32, x4_16 = x4 + 1 → K5 (u10, x1, x2, 0, x4_16)) ∧ (¬ (r9 - x7_12) < x5_5 → ∀ x4_17 : Int32, x4_17 = x4 + 1 → K5 (u10, x1, x2, 1, x4_17)))))))))))
def wp_X2_isApart (g : CS) (Post : Int32 → MS → Prop) (σ : MS) (x1 : Int32) (x2 : Int32) : Prop :=
  LPX (fun K a => wp_X2_isApart_5 g K Post a.1 a.2.1 a.2.2.1 a.2.2.2.1 a.2.2.2.2) (σ, x1, x2, 1, 0)
def wp_X2_apart_29 (g : CS) (K29 : (MS × Int32 × Int32) → Prop) (Post : Int32 → MS → Prop) (σ : MS) (x1 : Int32) (x2 : Int32) : Prop :=
  ((10000 ≤ x2 → Post (-9) σ) ∧ (¬ 10000 ≤ x2 → pr_X2_isApart g σ x1 x2 ∧ ∀ (r3 : Int32) (u4 : MS), po_X2_isApart g σ x1 x2 r3 u4 → ((r3 = 0 → ∀ x2_6 : Int32, x2_6 = x2 + 1 → K29 (u4, x1, x2_6)) ∧ (¬ r3 = 0 → Post x2 u4))))
def wp_X2_apart (g : CS) (Post : Int32 → MS → Prop) (σ : MS) (x1 : Int32) : Prop :=
  (((fn_X2_noNumber x1) = 0 → pr_X2_noSheet g (ms_s_th σ 0) ∧ ∀ (r4 : Int32) (u5 : MS), po_X2_noSheet g (ms_s_th σ 0) r4 u5 → ((r4 = 0 → ∀ x2_7 : Int32, x2_7 = (x1 + 1) → LPX (fun K a => wp_X2_apart_29 g K Post a.1 a.2.1 a.2.2) (u5, x1, x2_7)) ∧ (¬ r4 = 0 → Post (-3) u5))) ∧ (¬ (fn_X2_noNumber x1) = 0 → Post (-2) (ms_s_th σ 0)))
def wp_X2_seats_55 (g : CS) (K55 : (MS × Int32 × Int32) → Prop) (Post : Int32 → MS → Prop) (σ : MS) (x3 : Int32) (x4 : Int32) : Prop :=
  ((512 ≤ x4 → Post x3 σ) ∧ (¬ 512 ≤ x4 → vp_in x4 512 ∧ ∀ x4_3 : Int32, x4_3 = x4 + 1 → K55 ((ms_s_mi σ (upd (ms_mi σ) x4.toNatClampNeg 0)), x3, x4_3)))
def wp_X2_seats (g : CS) (Post : Int32 → MS → Prop) (σ : MS) (x1 : Int32) (x2 : Int32) : Prop :=
  (((fn_X2_in (x1.toInt64) 1 8) = 0 → Post (-2) (ms_s_th σ 0)) ∧ (¬ (fn_X2_in (x1.toInt64) 1 8) = 0 → ((¬ (fn_X2_in (x2.toInt64) 1 8) = 0 → ∀ x3_5 : Int32, x3_5 = ((ms_ro (ms_s_th σ 0)) * (ms_co (ms_s_th σ 0))) → LPX (fun K a => wp_X2_seats_55 g K Post a.1 a.2.1 a.2.2) ((ms_s_co (ms_s_ro (ms_s_th σ 0) x1) x2), x3_5, 0)) ∧ ((fn_X2_in (x2.toInt64) 1 8) = 0 → Post (-2) (ms_s_th σ 0)))))
def wp_X2_isNear_80 (g : CS) (K8 : (MS × Int32 × Int32 × Int32 × Int32 × Int32) → Prop) (K21 : (MS × Int32 × Int32 × Int32 × Int32 × Int32 × Int32) → Prop) (Post : Int32 → MS → Prop) (σ : MS) (x1 : Int32) (x2 : Int32) (x3 : Int32) (x4 : Int32) (x5 : Int32) (x6 : Int32) (s0 : Int32) : Prop :=
  ((¬ x4 = 0 → ∀ x6_2 : Int32, x6_2 = x6 + 1 → K21 (σ, x1, x2, x3, 1, x5, x6_2)) ∧ (x4 = 0 → ((s0 = 0 → ∀ x6_4 : Int32, x6_4 = x6 + 1 → K21 (σ, x1, x2, x3, 0, x5, x6_4)) ∧ (¬ s0 = 0 → vp_in ((8 * x5) + x6) 64 ∧ ((¬ (ms_nu σ ((8 * x5) + x6).toNatClampNeg) = x3 → ∀ x6_7 : Int32, x6_7 = x6 + 1 → K21 (σ, x1, x2, x3, 0, x5, x6_7)) ∧ ((ms_nu σ ((8 * x5) + x6).toNatClampNeg) = x3 → ∀ x6_8 : Int32, x6_8 = x6 + 1 → K21 (σ, x1, x2, x3, 1, x5, x6_8)))))))
def wp_X2_isNear_79 (g : CS) (K8 : (MS × Int32 × Int32 × Int32 × Int32 × Int32) → Prop) (K21 : (MS × Int32 × Int32 × Int32 × Int32 × Int32 × Int32) → Prop) (Post : Int32 → MS → Prop) (σ : MS) (x1 : Int32) (x2 : Int32) (x3 : Int32) (x4 : Int32) (x5 : Int32) (x6 : Int32) : Prop :=
  wp_X2_isNear_80 g K8 K21 Post σ x1 x2 x3 x4 x5 x6 0
def wp_X2_isNear_75 (g : CS) (K8 : (MS × Int32 × Int32 × Int32 × Int32 × Int32) → Prop) (K21 : (MS × Int32 × Int32 × Int32 × Int32 × Int32 × Int32) → Prop) (Post : Int32 → MS → Prop) (σ : MS) (x1 : Int32) (x2 : Int32) (x3 : Int32) (x4 : Int32) (x5 : Int32) (x6 : Int32) : Prop :=
  wp_X2_isNear_80 g K8 K21 Post σ x1 x2 x3 x4 x5 x6 1
def wp_X2_isNear_21 (g : CS) (K8 : (MS × Int32 × Int32 × Int32 × Int32 × Int32) → Prop) (K21 : (MS × Int32 × Int32 × Int32 × Int32 × Int32 × Int32) → Prop) (Post : Int32 → MS → Prop) (σ : MS) (x1 : Int32) (x2 : Int32) (x3 : Int32) (x4 : Int32) (x5 : Int32) (x6 : Int32) : Prop :=
  (((x2 + 1) < x6 → ∀ x5_2 : Int32, x5_2 = x5 + 1 → K8 (σ, x1, x2, x3, x4, x5_2)) ∧ (¬ (x2 + 1) < x6 → (((fn_X2_in (x5.toInt64) 0 (((ms_ro σ) - 1).toInt64)) = 0 → wp_X2_isNear_79 g K8 K21 Post σ x1 x2 x3 x4 x5 x6) ∧ (¬ (fn_X2_in (x5.toInt64) 0 (((ms_ro σ) - 1).toInt64)) = 0 → (((fn_X2_in (x6.toInt64) 0 (((ms_co σ) - 1).toInt64)) = 0 → wp_X2_isNear_79 g K8 K21 Post σ x1 x2 x3 x4 x5 x6) ∧ (¬ (fn_X2_in (x6.toInt64) 0 (((ms_co σ) - 1).toInt64)) = 0 → ((¬ x5 = x1 → wp_X2_isNear_75 g K8 K21 Post σ x1 x2 x3 x4 x5 x6) ∧ (x5 = x1 → ((x6 = x2 → wp_X2_isNear_79 g K8 K21 Post σ x1 x2 x3 x4 x5 x6) ∧ (¬ x6 = x2 → wp_X2_isNear_75 g K8 K21 Post σ x1 x2 x3 x4 x5 x6))))))))))
def wp_X2_isNear_8 (g : CS) (K8 : (MS × Int32 × Int32 × Int32 × Int32 × Int32) → Prop) (Post : Int32 → MS → Prop) (σ : MS) (x1 : Int32) (x2 : Int32) (x3 : Int32) (x4 : Int32) (x5 : Int32) : Prop :=
  (((x1 + 1) < x5 → (narrow .boolean (.int x4) = .int x4 ∧ Post x4 σ)) ∧ (¬ (x1 + 1) < x5 → ∀ x6_2 : Int32, x6_2 = (x2 - 1) → LPX (fun K a => wp_X2_isNear_21 g K8 K Post a.1 a.2.1 a.2.2.1 a.2.2.2.1 a.2.2.2.2.1 a.2.2.2.2.2.1 a.2.2.2.2.2.2) (σ, x1, x2, x3, x4, x5, x6_2)))
def wp_X2_isNear (g : CS) (Post : Int32 → MS → Prop) (σ : MS) (x1 : Int32) (x2 : Int32) (x3 : Int32) : Prop :=
  ∀ x5_1 : Int32, x5_1 = (x1 - 1) → LPX (fun K a => wp_X2_isNear_8 g K Post a.1 a.2.1 a.2.2.1 a.2.2.2.1 a.2.2.2.2.1 a.2.2.2.2.2) (σ, x1, x2, x3, 0, x5_1)
def wp_X2_sit_44 (g : CS) (K24 : (MS × Int32) → Prop) (K34 : (MS × Int32 × Int32) → Prop) (K44 : (MS × Int32 × Int32 × Int32) → Prop) (Post : Int32 → MS → Prop) (σ : MS) (x1 : Int32) (x2 : Int32) (x3 : Int32) : Prop :=
  pr_X2_isNear g σ x1 x2 x3 ∧ (((fn_X2_isNear g σ x1 x2 x3) = 0 → vp_in ((8 * x1) + x2) 64 ∧ ∀ x2_5 : Int32, x2_5 = x2 + 1 → K34 ((ms_s_nu σ (upd (ms_nu σ) ((8 * x1) + x2).toNatClampNeg x3)), x1, x2_5)) ∧ (¬ (fn_X2_isNear g σ x1 x2 x3) = 0 → ∀ x3_6 : Int32, x3_6 = x3 + 1 → K44 (σ, x1, x2, x3_6)))
def wp_X2_sit_34 (g : CS) (K24 : (MS × Int32) → Prop) (K34 : (MS × Int32 × Int32) → Prop) (Post : Int32 → MS → Prop) (σ : MS) (x1 : Int32) (x2 : Int32) : Prop :=
  (((ms_co σ) ≤ x2 → ∀ x1_2 : Int32, x1_2 = x1 + 1 → K24 (σ, x1_2)) ∧ (¬ (ms_co σ) ≤ x2 → LPX (fun K a => wp_X2_sit_44 g K24 K34 K Post a.1 a.2.1 a.2.2.1 a.2.2.2) (σ, x1, x2, 0)))
def wp_X2_sit_24 (g : CS) (K24 : (MS × Int32) → Prop) (Post : Int32 → MS → Prop) (σ : MS) (x1 : Int32) : Prop :=
  (((ms_ro σ) ≤ x1 → Post 0 σ) ∧ (¬ (ms_ro σ) ≤ x1 → LPX (fun K a => wp_X2_sit_34 g K24 K Post a.1 a.2.1 a.2.2) (σ, x1, 0)))
def wp_X2_sit_2 (g : CS) (K2 : (MS × Int32) → Prop) (Post : Int32 → MS → Prop) (σ : MS) (x1 : Int32) : Prop :=
  ((64 ≤ x1 → LPX (fun K a => wp_X2_sit_24 g K Post a.1 a.2) (σ, 0)) ∧ (¬ 64 ≤ x1 → vp_in x1 64 ∧ ∀ x1_3 : Int32, x1_3 = x1 + 1 → K2 ((ms_s_nu σ (upd (ms_nu σ) x1.toNatClampNeg (-9))), x1_3)))
def wp_X2_sit (g : CS) (Post : Int32 → MS → Prop) (σ : MS) : Prop :=
  LPX (fun K a => wp_X2_sit_2 g K Post a.1 a.2) (σ, 0)
def wp_X2_base (g : CS) (Post : Int32 → MS → Prop) (σ : MS) (x1 : Int32) : Prop :=
  ((¬ (fn_X2_in (x1.toInt64) 0 9000) = 0 → ∀ x2_3 : Int32, x2_3 = (ms_ba (ms_s_th σ 0)) → Post x2_3 (ms_s_ba (ms_s_th σ 0) x1)) ∧ ((fn_X2_in (x1.toInt64) 0 9000) = 0 → Post (-2) (ms_s_th σ 0)))
def wp_X2_sheetOf (g : CS) (Post : Int32 → MS → Prop) (σ : MS) (x1 : Int32) : Prop :=
  pr_X2_sit g σ ∧ ∀ u3 : MS, po_X2_sit g σ 0 u3 → vp_in ((8 * (x1 / 10)) + (x1 - x1 / 10 * 10)) 64 ∧ Post ((ms_ba u3) + (ms_nu u3 ((8 * (x1 / 10)) + (x1 - x1 / 10 * 10)).toNatClampNeg)) u3
def wp_X2_seat (g : CS) (Post : Int32 → MS → Prop) (σ : MS) (x1 : Int32) : Prop :=
  (((fn_X2_noSeat (ms_s_th σ 0) x1) = 0 → pr_X2_sheetOf g (ms_s_th σ 0) x1 ∧ ∀ (r4 : Int32) (u5 : MS), po_X2_sheetOf g (ms_s_th σ 0) x1 r4 u5 → Post r4 u5) ∧ (¬ (fn_X2_noSeat (ms_s_th σ 0) x1) = 0 → Post (-1) (ms_s_th σ 0)))
def wp_X2_unlike_13 (g : CS) (K13 : (MS × Int32 × Int32) → Prop) (Post : Int32 → MS → Prop) (σ : MS) (x1 : Int32) (x2 : Int32) : Prop :=
  ((64 ≤ x2 → Post (x1 + 1) σ) ∧ (¬ 64 ≤ x2 → vp_in x2 64 ∧ (((ms_nu σ x2.toNatClampNeg) ≤ x1 → ∀ x2_4 : Int32, x2_4 = x2 + 1 → K13 (σ, x1, x2_4)) ∧ (¬ (ms_nu σ x2.toNatClampNeg) ≤ x1 → vp_in x2 64 ∧ ∀ x1_6 : Int32, x1_6 = (ms_nu σ x2.toNatClampNeg) → ∀ x2_7 : Int32, x2_7 = x2 + 1 → K13 (σ, x1_6, x2_7)))))
def wp_X2_unlike (g : CS) (Post : Int32 → MS → Prop) (σ : MS) : Prop :=
  pr_X2_sit g (ms_s_th σ 0) ∧ ∀ u3 : MS, po_X2_sit g (ms_s_th σ 0) 0 u3 → LPX (fun K a => wp_X2_unlike_13 g K Post a.1 a.2.1 a.2.2) (u3, 0, 0)
def wp_X2_mark (g : CS) (Post : Int32 → MS → Prop) (σ : MS) (x1 : Int32) (x2 : Int32) (x3 : Int32) : Prop :=
  ((¬ (fn_X2_noSeat (ms_s_th σ 0) x1) = 0 → Post (-1) (ms_s_th σ 0)) ∧ ((fn_X2_noSeat (ms_s_th σ 0) x1) = 0 → (((fn_X2_noPlace (ms_s_th σ 0) x2) = 0 → pr_X2_noSheet g (ms_s_th σ 0) ∧ ∀ (r6 : Int32) (u7 : MS), po_X2_noSheet g (ms_s_th σ 0) r6 u7 → ((r6 = 0 → vp_in x2 40 ∧ pr_X2_sheetOf g u7 x1 ∧ ∀ (r11 : Int32) (u12 : MS), po_X2_sheetOf g u7 x1 r11 u12 → pr_X2_variantAt g u12 r11 x2 ∧ ∀ (r14 : Int32) (u15 : MS), po_X2_variantAt g u12 r11 x2 r14 u15 → pr_X2_tellsOf g u15 (ms_pn u7 x2.toNatClampNeg) r14 x3 ∧ ∀ x4_18 : Int32, x4_18 = (fn_X2_tellsOf g u15 (ms_pn u7 x2.toNatClampNeg) r14 x3) → ((¬ x4_18 = 0 → vp_in x2 40 ∧ vp_in ((8 * ((8 * (x1 / 10)) + (x1 - x1 / 10 * 10))) + (ms_pn (ms_s_wr u15 ((ms_wr u15) + 1)) x2.toNatClampNeg)) 512 ∧ vp_in ((8 * ((8 * (x1 / 10)) + (x1 - x1 / 10 * 10))) + (ms_pn (ms_s_wr u15 ((ms_wr u15) + 1)) x2.toNatClampNeg)) 512 ∧ Post x4_18 (ms_s_mi (ms_s_wr u15 ((ms_wr u15) + 1)) (upd (ms_mi (ms_s_wr u15 ((ms_wr u15) + 1))) ((8 * ((8 * (x1 / 10)) + (x1 - x1 / 10 * 10))) + (ms_pn (ms_s_wr u15 ((ms_wr u15) + 1)) x2.toNatClampNeg)).toNatClampNeg ((ms_mi (ms_s_wr u15 ((ms_wr u15) + 1)) ((8 * ((8 * (x1 / 10)) + (x1 - x1 / 10 * 10))) + (ms_pn (ms_s_wr u15 ((ms_wr u15) + 1)) x2.toNatClampNeg)).toNatClampNeg) + 1)))) ∧ (x4_18 = 0 → Post x4_18 (ms_s_ri u15 ((ms_ri u15) + 1))))) ∧ (¬ r6 = 0 → Post (-3) u7))) ∧ (¬ (fn_X2_noPlace (ms_s_th σ 0) x2) = 0 → Post (-1) (ms_s_th σ 0)))))
def wp_X2_missedOf_25 (g : CS) (K5 : (MS × Int32 × Int32 × Int32 × Int32) → Prop) (Post : Int32 → MS → Prop) (σ : MS) (x1 : Int32) (x2 : Int32) (x4 : Int32) (s0 : Int32) : Prop :=
  vp_in ((8 * ((8 * (x1 / 10)) + (x1 - x1 / 10 * 10))) + x4) 512 ∧ ∀ x3_2 : Int32, x3_2 = (s0 + (ms_mi σ ((8 * ((8 * (x1 / 10)) + (x1 - x1 / 10 * 10))) + x4).toNatClampNeg)) → ∀ x4_3 : Int32, x4_3 = x4 + 1 → K5 (σ, x1, x2, x3_2, x4_3)
def wp_X2_missedOf_5 (g : CS) (K5 : (MS × Int32 × Int32 × Int32 × Int32) → Prop) (Post : Int32 → MS → Prop) (σ : MS) (x1 : Int32) (x2 : Int32) (x3 : Int32) (x4 : Int32) : Prop :=
  ((8 ≤ x4 → Post x3 σ) ∧ (¬ 8 ≤ x4 → ((x2 = (-9) → wp_X2_missedOf_25 g K5 Post σ x1 x2 x4 x3) ∧ (¬ x2 = (-9) → ((¬ x2 = x4 → ∀ x3_4 : Int32, x3_4 = (x3 + 0) → ∀ x4_5 : Int32, x4_5 = x4 + 1 → K5 (σ, x1, x2, x3_4, x4_5)) ∧ (x2 = x4 → wp_X2_missedOf_25 g K5 Post σ x1 x2 x4 x3))))))
def wp_X2_missedOf (g : CS) (Post : Int32 → MS → Prop) (σ : MS) (x1 : Int32) (x2 : Int32) : Prop :=
  LPX (fun K a => wp_X2_missedOf_5 g K Post a.1 a.2.1 a.2.2.1 a.2.2.2.1 a.2.2.2.2) (σ, x1, x2, 0, 0)
def wp_X2_missed_31 (g : CS) (Post : Int32 → MS → Prop) (σ : MS) (x1 : Int32) (x2 : Int32) : Prop :=
  pr_X2_missedOf g σ x1 x2 ∧ Post (fn_X2_missedOf g σ x1 x2) σ
def wp_X2_missed (g : CS) (Post : Int32 → MS → Prop) (σ : MS) (x1 : Int32) (x2 : Int32) : Prop :=
  ((¬ (fn_X2_noSeat (ms_s_th σ 0) x1) = 0 → Post (-1) (ms_s_th σ 0)) ∧ ((fn_X2_noSeat (ms_s_th σ 0) x1) = 0 → ((x2 = (-9) → wp_X2_missed_31 g Post (ms_s_th σ 0) x1 x2) ∧ (¬ x2 = (-9) → (((fn_X2_noKind (ms_s_th σ 0) x2) = 0 → wp_X2_missed_31 g Post (ms_s_th σ 0) x1 x2) ∧ (¬ (fn_X2_noKind (ms_s_th σ 0) x2) = 0 → Post (-1) (ms_s_th σ 0)))))))
def wp_X2_review_77 (g : CS) (K77 : (MS × Int32 × Int32 × Int32 × Int32 × Int32 × Int32 × Int32 × Int32) → Prop) (Post : Int32 → MS → Prop) (σ : MS) (x1 : Int32) (x2 : Int32) (x3 : Int32) (x4 : Int32) (x5 : Int32) (x6 : Int32) (x7 : Int32) (x8 : Int32) : Prop :=
  (((ms_ki σ) ≤ x8 → pr_X2_missedOf g σ x1 x3 ∧ (¬ x4 = 0) ∧ ((x7 ≤ 0 → Post (((x2 * (fn_X2_missedOf g σ x1 x3)) / x4) + 0) σ) ∧ (¬ x7 ≤ 0 → ((x5 ≤ x6 → Post (((x2 * (fn_X2_missedOf g σ x1 x3)) / x4) + 0) σ) ∧ (¬ x5 ≤ x6 → Post (((x2 * (fn_X2_missedOf g σ x1 x3)) / x4) + 1) σ))))) ∧ (¬ (ms_ki σ) ≤ x8 → pr_X2_missedOf g σ x1 x8 ∧ (¬ x4 = 0) ∧ ∀ x9_10 : Int32, x9_10 = ((x2 * (fn_X2_missedOf g σ x1 x8)) - (x2 * (fn_X2_missedOf g σ x1 x8)) / x4 * x4) → pr_X2_missedOf g σ x1 x8 ∧ (¬ x4 = 0) ∧ ∀ x5_14 : Int32, x5_14 = (x5 - ((x2 * (fn_X2_missedOf g σ x1 x8)) / x4)) → ((x7 < x9_10 → ∀ x6_16 : Int32, x6_16 = (x6 + 1) → ∀ x8_17 : Int32, x8_17 = x8 + 1 → K77 (σ, x1, x2, x3, x4, x5_14, x6_16, x7, x8_17)) ∧ (¬ x7 < x9_10 → ((¬ x9_10 = x7 → ∀ x6_19 : Int32, x6_19 = (x6 + 0) → ∀ x8_20 : Int32, x8_20 = x8 + 1 → K77 (σ, x1, x2, x3, x4, x5_14, x6_19, x7, x8_20)) ∧ (x9_10 = x7 → ((x3 ≤ x8 → ∀ x6_22 : Int32, x6_22 = (x6 + 0) → ∀ x8_23 : Int32, x8_23 = x8 + 1 → K77 (σ, x1, x2, x3, x4, x5_14, x6_22, x7, x8_23)) ∧ (¬ x3 ≤ x8 → ∀ x6_24 : Int32, x6_24 = (x6 + 1) → ∀ x8_25 : Int32, x8_25 = x8 + 1 → K77 (σ, x1, x2, x3, x4, x5_14, x6_24, x7, x8_25)))))))))
def wp_X2_review (g : CS) (Post : Int32 → MS → Prop) (σ : MS) (x1 : Int32) (x2 : Int32) (x3 : Int32) : Prop :=
  ((¬ (fn_X2_noSeat (ms_s_th σ 0) x1) = 0 → Post (-1) (ms_s_th σ 0)) ∧ ((fn_X2_noSeat (ms_s_th σ 0) x1) = 0 → (((fn_X2_noKind (ms_s_th σ 0) x3) = 0 → ((¬ (fn_X2_in (x2.toInt64) 1 60) = 0 → pr_X2_missedOf g (ms_s_th σ 0) x1 (-9) ∧ ∀ x4_9 : Int32, x4_9 = (fn_X2_missedOf g (ms_s_th σ 0) x1 (-9)) → ((¬ x4_9 = 0 → pr_X2_missedOf g (ms_s_th σ 0) x1 x3 ∧ (¬ x4_9 = 0) ∧ ∀ x7_14 : Int32, x7_14 = ((x2 * (fn_X2_missedOf g (ms_s_th σ 0) x1 x3)) - (x2 * (fn_X2_missedOf g (ms_s_th σ 0) x1 x3)) / x4_9 * x4_9) → LPX (fun K a => wp_X2_review_77 g K Post a.1 a.2.1 a.2.2.1 a.2.2.2.1 a.2.2.2.2.1 a.2.2.2.2.2.1 a.2.2.2.2.2.2.1 a.2.2.2.2.2.2.2.1 a.2.2.2.2.2.2.2.2) ((ms_s_th σ 0), x1, x2, x3, x4_9, x2, 0, x7_14, 0)) ∧ (x4_9 = 0 → Post (-3) (ms_s_th σ 0)))) ∧ ((fn_X2_in (x2.toInt64) 1 60) = 0 → Post (-2) (ms_s_th σ 0)))) ∧ (¬ (fn_X2_noKind (ms_s_th σ 0) x3) = 0 → Post (-1) (ms_s_th σ 0)))))
def wp_X2_all_19 (g : CS) (K19 : (MS × Int32 × Int32 × Int32) → Prop) (Post : Int32 → MS → Prop) (σ : MS) (x1 : Int32) (x2 : Int32) (x3 : Int32) : Prop :=
  ((64 ≤ x3 → Post x2 σ) ∧ (¬ 64 ≤ x3 → vp_in ((8 * x3) + x1) 512 ∧ ∀ x2_3 : Int32, x2_3 = (x2 + (ms_mi σ ((8 * x3) + x1).toNatClampNeg)) → ∀ x3_4 : Int32, x3_4 = x3 + 1 → K19 (σ, x1, x2_3, x3_4)))
def wp_X2_all (g : CS) (Post : Int32 → MS → Prop) (σ : MS) (x1 : Int32) : Prop :=
  (((fn_X2_noKind (ms_s_th σ 0) x1) = 0 → LPX (fun K a => wp_X2_all_19 g K Post a.1 a.2.1 a.2.2.1 a.2.2.2) ((ms_s_th σ 0), x1, 0, 0)) ∧ (¬ (fn_X2_noKind (ms_s_th σ 0) x1) = 0 → Post (-1) (ms_s_th σ 0)))
def wp_X2_total (g : CS) (Post : Int32 → MS → Prop) (σ : MS) (x1 : Int32) : Prop :=
  ((¬ x1 = 0 → ((¬ x1 = 1 → ((¬ x1 = 2 → ((¬ x1 = 3 → ((¬ x1 = 4 → Post (-2) (ms_s_th σ 0)) ∧ (x1 = 4 → Post (ms_wr (ms_s_th σ 0)) (ms_s_th σ 0)))) ∧ (x1 = 3 → Post (ms_ri (ms_s_th σ 0)) (ms_s_th σ 0)))) ∧ (x1 = 2 → Post ((ms_ro (ms_s_th σ 0)) * (ms_co (ms_s_th σ 0))) (ms_s_th σ 0)))) ∧ (x1 = 1 → Post (ms_pc (ms_s_th σ 0)) (ms_s_th σ 0)))) ∧ (x1 = 0 → Post (ms_ki (ms_s_th σ 0)) (ms_s_th σ 0)))
end
section
theorem cl0 : (0 : Int32).toNatClampNeg = 0 := by decide
theorem cl1 : (1 : Int32).toNatClampNeg = 1 := by decide
theorem cl2 : (2 : Int32).toNatClampNeg = 2 := by decide
theorem in03 : vp_in 0 3 := by unfold vp_in; decide
theorem in13 : vp_in 1 3 := by unfold vp_in; decide
theorem in23 : vp_in 2 3 := by unfold vp_in; decide
theorem nar01 {v : Int32} (h : v = 0 ∨ v = 1) : narrow .boolean (.int v) = .int v := by
  rcases h with rfl | rfl <;> rfl
theorem car01 (op a b : Int32) : carF op a b = 0 ∨ carF op a b = 1 := by
  unfold carF
  repeat' split
  all_goals first | exact Or.inl rfl | exact Or.inr rfl
theorem vin3 {x : Int32} (h1 : ¬ x < 0) (h2 : ¬ 2 < x) : vp_in x 3 := by
  rw [vp_in_iff]
  rw [fa_lt] at h1 h2
  have e0 : (0 : Int32).toInt = 0 := rfl
  have e2 : (2 : Int32).toInt = 2 := rfl
  omega
theorem pu_J9_floorMod_7cf53 (x0 : Int32) (x1 : Int32) (hp : pr_J9_floorMod_7cf53 x0 x1) : wp_J9_floorMod_7cf53 (fun r u => r = fn_J9_floorMod_7cf53 x0 x1 ∧ u = ()) () x0 x1 := by
  obtain ⟨a, d, rfl, h0, h1, -, -⟩ := hp
  unfold wp_J9_floorMod_7cf53
  refine ⟨nI_ne0 h0 (by omega), fun x ex => ⟨fun c => ?_, fun c => ⟨fun c2 => ?_, fun c2 => ?_⟩⟩⟩
  · subst ex; exact ⟨by unfold fn_J9_floorMod_7cf53; rw [if_pos c], rfl⟩
  · subst ex; exact ⟨by unfold fn_J9_floorMod_7cf53; rw [if_neg c, if_pos c2], rfl⟩
  · subst ex; exact ⟨by unfold fn_J9_floorMod_7cf53; rw [if_neg c, if_neg c2], rfl⟩
theorem pu_X0_isRange (x0 : Int32) (x1 : Int32) (x2 : Int32) : wp_X0_isRange (fun r u => r = fn_X0_isRange x0 x1 x2 ∧ u = ()) () x0 x1 x2 := by
  unfold wp_X0_isRange fn_X0_isRange
  refine ⟨fun c => ?_, fun c => ⟨fun c2 => ?_, fun c2 => ⟨fun c3 => ?_, fun c3 => ⟨fun c4 => ?_, fun c4 => ⟨vin3 c c2, fun c5 => ?_, fun c5 => ?_⟩⟩⟩⟩⟩
  all_goals refine ⟨?_, rfl⟩
  all_goals repeat' split
  all_goals first | rfl | contradiction
theorem pu_X0_isRule (x0 : Int32) (x1 : Int32) : wp_X0_isRule (fun r u => r = fn_X0_isRule x0 x1 ∧ u = ()) () x0 x1 := by
  unfold wp_X0_isRule fn_X0_isRule
  refine ⟨fun c => ?_, fun c => ⟨fun c2 => ?_, fun c2 => ⟨vin3 c c2, fun c3 => ?_, fun c3 => ⟨vin3 c c2, fun c4 => ?_, fun c4 => ?_⟩⟩⟩⟩
  all_goals refine ⟨?_, rfl⟩
  all_goals repeat' split
  all_goals first | rfl | contradiction
theorem pu_X0_exchanged (x0 : Int32) : wp_X0_exchanged (fun r u => r = fn_X0_exchanged x0 ∧ u = ()) () x0 := by
  unfold wp_X0_exchanged fn_X0_exchanged excF
  rintro _ rfl _ rfl
  refine ⟨fun c => ?_, fun c => ⟨fun c2 => ?_, fun c2 => ⟨fun c3 => ?_, fun c3 => ?_⟩⟩⟩
  · exact ⟨by rw [if_pos c], rfl⟩
  · exact ⟨by rw [if_neg c, if_pos c2], rfl⟩
  · exact ⟨by rw [if_neg c, if_neg c2, if_pos c3], rfl⟩
  · exact ⟨by rw [if_neg c, if_neg c2, if_neg c3], rfl⟩
theorem pu_X1_isSheet (x0 : Int32) : wp_X1_isSheet (fun r u => r = fn_X1_isSheet x0 ∧ u = ()) () x0 := by
  unfold wp_X1_isSheet fn_X1_isSheet
  refine ⟨fun c => ⟨by rw [if_pos c], rfl⟩, fun c => ⟨fun c2 => ⟨by rw [if_neg c, if_pos c2], rfl⟩, fun c2 => ⟨by rw [if_neg c, if_neg c2], rfl⟩⟩⟩
theorem cmp_lt0 (x y : Int64) : lg_cmp x y < 0 ↔ x < y := by
  unfold lg_cmp
  by_cases h1 : x > y
  · rw [if_pos h1]
    have : ¬ x < y := by rw [fa_lt64] at *; have := h1; rw [gt_iff_lt, fa_lt64] at this; omega
    simp [this]
  · rw [if_neg h1]
    by_cases h2 : x = y
    · subst h2; simp
    · rw [if_neg h2]
      have : x < y := by
        rw [gt_iff_lt, fa_lt64] at h1
        rw [fa_eq64] at h2
        rw [fa_lt64]; omega
      simp [this]
theorem cmp_gt0 (x y : Int64) : 0 < lg_cmp x y ↔ y < x := by
  unfold lg_cmp
  by_cases h1 : x > y
  · rw [if_pos h1]; simp [gt_iff_lt.mp h1]
  · rw [if_neg h1]
    have h3 : ¬ y < x := h1
    by_cases h2 : x = y
    · subst h2; simp
    · rw [if_neg h2]; simp [h3]
theorem pu_X2_in (x0 : Int64) (x2 : Int64) (x4 : Int64) : wp_X2_in (fun r u => r = fn_X2_in x0 x2 x4 ∧ u = ()) () x0 x2 x4 := by
  unfold wp_X2_in fn_X2_in
  rw [cmp_lt0, cmp_gt0]
  exact ⟨fun c => ⟨by rw [if_pos c], rfl⟩, fun c => ⟨fun c2 => ⟨by rw [if_neg c, if_pos c2], rfl⟩, fun c2 => ⟨by rw [if_neg c, if_neg c2], rfl⟩⟩⟩
theorem pu_X2_answerOf (x0 : Int32) (x1 : Int32) (x2 : Int32) : wp_X2_answerOf (fun r u => r = fn_X2_answerOf x0 x1 x2 ∧ u = ()) () x0 x1 x2 := by
  unfold wp_X2_answerOf fn_X2_answerOf ansF
  refine ⟨fun c => ⟨fun c2 => ⟨fun c3 => ⟨fun c4 => ?_, fun c4 => ⟨c4, fun c5 => ?_, fun c5 => ⟨c4, ?_⟩⟩⟩, fun c3 => ?_⟩, fun c2 => ⟨fun c3 => ?_, fun c3 => ?_⟩⟩, fun c => ?_⟩
  all_goals refine ⟨?_, rfl⟩
  all_goals repeat' split
  all_goals first | rfl | contradiction
theorem pu_X2_carries (x0 : Int32) (x1 : Int32) (x2 : Int32) : wp_X2_carries (fun r u => r = fn_X2_carries x0 x1 x2 ∧ u = ()) () x0 x1 x2 := by
  unfold wp_X2_carries fn_X2_carries carF
  refine ⟨fun c => ⟨fun c2 => ?_, fun c2 => ⟨fun c3 => ?_, fun c3 => ?_⟩⟩, fun c => ⟨fun c2 => ?_, fun c2 => ?_⟩⟩
  · exact ⟨by rw [if_neg c, if_neg c2], rfl⟩
  · exact ⟨by rw [if_neg c, if_pos c2, if_pos c3], rfl⟩
  · exact ⟨by rw [if_neg c, if_pos c2, if_neg c3], rfl⟩
  · exact ⟨by rw [if_pos c, if_pos c2], rfl⟩
  · exact ⟨by rw [if_pos c, if_neg c2], rfl⟩
theorem in0 {v lo' hi' : Int32} {lo hi : Int64} (e1 : lo = lo'.toInt64) (e2 : hi = hi'.toInt64) : fn_X2_in v.toInt64 lo hi = 0 ↔ (v < lo' ∨ hi' < v) := by
  subst e1; subst e2
  unfold fn_X2_in
  simp only [fa_wide_lt]
  by_cases h1 : v < lo'
  · simp [h1]
  · by_cases h2 : hi' < v
    · simp [h2]
    · rw [if_neg h1, if_neg h2]
      constructor
      · intro h; exact absurd h (by decide)
      · rintro (h | h)
        · exact absurd h h1
        · exact absurd h h2
theorem pu_X2_slipOf (x0 : Int32) (x1 : Int32) (x2 : Int32) (x3 : Int32) : wp_X2_slipOf (fun r u => r = fn_X2_slipOf x0 x1 x2 x3 ∧ u = ()) () x0 x1 x2 x3 := by
  unfold wp_X2_slipOf
  rintro x ex
  have ex : x = ansF x0 x1 x2 := ex
  have hin := in0 (v := x) (lo := 10) (hi := 99) (lo' := 10) (hi' := 99) (by decide) (by decide)
  have ec : fn_X2_carries x0 x1 x2 = carF x0 x1 x2 := rfl
  rw [ec, hin]
  unfold fn_X2_slipOf othF
  rw [← ex]
  refine ⟨fun c => ⟨fun c1 => ?_, fun c1 => ⟨fun c2 => ⟨fun c3 => ?_, fun c3 => ?_⟩, fun c2 => ?_⟩⟩, fun c => ⟨fun c1 => ⟨fun c2 => ⟨fun c3 => ?_, fun c3 => ?_⟩, fun c2 => ?_⟩, fun c1 => ⟨fun c2 => ?_, fun c2 => ⟨fun c3 => ⟨fun c4 => ?_, fun c4 => ?_⟩, fun c3 => ⟨fun c4 => ?_, fun c4 => ⟨fun c5 => ?_, fun c5 => ?_⟩⟩⟩⟩⟩⟩
  all_goals refine ⟨?_, rfl⟩
  all_goals repeat' split
  all_goals first | rfl | contradiction | (rcases c4 with c4 | c4 <;> contradiction) | (exact absurd (Or.inl (by assumption)) c4) | (exact absurd (Or.inr (by assumption)) c4)
theorem pu_X2_noNumber (x0 : Int32) : wp_X2_noNumber (fun r u => r = fn_X2_noNumber x0 ∧ u = ()) () x0 := by
  unfold wp_X2_noNumber fn_X2_noNumber
  rw [in0 (v := x0) (lo := 0) (hi := 9999) (lo' := 0) (hi' := 9999) (by decide) (by decide)]
  refine ⟨fun c => ?_, fun c => ?_⟩
  all_goals refine ⟨?_, rfl⟩
  all_goals repeat' split
  all_goals first | rfl | contradiction | (rcases c with c | c <;> contradiction) | (exact absurd (Or.inl (by assumption)) c) | (exact absurd (Or.inr (by assumption)) c)
theorem pu_X0_size (g : (Nat → Nat)) (σ : KS) : wp_X0_size g (fun r u => r = fn_X0_size σ ∧ u = σ) σ := ⟨rfl, rfl⟩
theorem pu_X0_linesTaken (g : (Nat → Nat)) (σ : KS) : wp_X0_linesTaken g (fun r u => r = fn_X0_linesTaken σ ∧ u = σ) σ := ⟨in13, by rw [cl1]; rfl, rfl⟩
theorem pu_X0_result (g : (Nat → Nat)) (σ : KS) (x1 : Int32) (x2 : Int32) : wp_X0_result g (fun r u => r = fn_X0_result σ x1 x2 ∧ u = σ) σ x1 x2 := by
  unfold wp_X0_result fn_X0_result ansF
  refine ⟨fun c => ?_, fun c => ⟨fun c2 => ⟨fun c3 => ?_, fun c3 => ?_⟩, fun c2 => ⟨fun c3 => ?_, fun c3 => ⟨fun c4 => ?_, fun c4 => ⟨c4, fun c5 => ?_, fun c5 => ⟨c4, ?_⟩⟩⟩⟩⟩⟩
  all_goals refine ⟨?_, rfl⟩
  all_goals repeat' split
  all_goals first | rfl | contradiction
theorem pu_X0_carries (g : (Nat → Nat)) (σ : KS) (x1 : Int32) (x2 : Int32) : wp_X0_carries g (fun r u => r = fn_X0_carries σ x1 x2 ∧ u = σ) σ x1 x2 := by
  unfold wp_X0_carries fn_X0_carries carF
  refine ⟨fun c => ⟨fun c2 => ?_, fun c2 => ?_⟩, fun c => ⟨fun c2 => ⟨fun c3 => ?_, fun c3 => ?_⟩, fun c2 => ?_⟩⟩
  all_goals refine ⟨?_, rfl⟩
  all_goals repeat' split
  all_goals first | rfl | contradiction
theorem pu_X0_otherOperation (g : (Nat → Nat)) (σ : KS) (x1 : Int32) (x2 : Int32) : wp_X0_otherOperation g (fun r u => r = fn_X0_otherOperation σ x1 x2 ∧ u = σ) σ x1 x2 := by
  unfold wp_X0_otherOperation fn_X0_otherOperation othF
  refine ⟨fun c => ?_, fun c => ⟨fun c2 => ⟨fun c3 => ?_, fun c3 => ?_⟩, fun c2 => ?_⟩⟩
  all_goals refine ⟨?_, rfl⟩
  all_goals repeat' split
  all_goals first | rfl | contradiction
theorem pu_X0_withoutCarrying (g : (Nat → Nat)) (σ : KS) (x1 : Int32) (x2 : Int32) : wp_X0_withoutCarrying g (fun r u => r = fn_X0_withoutCarrying σ x1 x2 ∧ u = σ) σ x1 x2 := by
  unfold wp_X0_withoutCarrying fn_X0_withoutCarrying wocF absF
  refine ⟨fun c => ⟨by rw [if_neg c], rfl⟩, fun c => ⟨by rw [if_pos c], rfl⟩⟩
theorem pu_X0_slipped (g : (Nat → Nat)) (σ : KS) (x1 : Int32) (x2 : Int32) (x3 : Int32) : wp_X0_slipped g (fun r u => r = fn_X0_slipped σ x1 x2 x3 ∧ u = σ) σ x1 x2 x3 := by
  unfold wp_X0_slipped fn_X0_slipped slpF
  rintro x ex
  have ex : x = ansF (ks_op σ) x1 x2 := ex
  have ec : fn_X0_carries σ x1 x2 = carF (ks_op σ) x1 x2 := rfl
  have eo : fn_X0_otherOperation σ x1 x2 = othF (ks_op σ) x1 x2 := rfl
  have ew : fn_X0_withoutCarrying σ x1 x2 = wocF (ks_op σ) x1 x2 := rfl
  have ee : fn_X0_exchanged x = excF x := rfl
  rw [ec, eo, ew, ee, ← ex]
  refine ⟨fun c => ?_, fun c => ⟨fun c2 => ⟨fun c3 => ?_, fun c3 => ?_⟩, fun c2 => ⟨fun c3 => ?_, fun c3 => ⟨fun c4 => ⟨fun c5 => ?_, fun c5 => ?_⟩, fun c4 => ?_⟩⟩⟩⟩
  all_goals refine ⟨?_, rfl⟩
  all_goals repeat' split
  all_goals first | rfl | contradiction
theorem pu_X0_isLawful (g : (Nat → Nat)) (σ : KS) (x1 : Int32) (x2 : Int32) : wp_X0_isLawful g (fun r u => r = fn_X0_isLawful σ x1 x2 ∧ u = σ) σ x1 x2 := by
  unfold wp_X0_isLawful fn_X0_isLawful lwF
  rintro x ex
  have ex : x = ansF (ks_op σ) x1 x2 := ex
  have ec : fn_X0_carries σ x1 x2 = carF (ks_op σ) x1 x2 := rfl
  have eo : fn_X0_otherOperation σ x1 x2 = othF (ks_op σ) x1 x2 := rfl
  rw [ec, eo, ← ex, cl2, cl0]
  refine ⟨in23, fun c => ?_, fun c => ⟨in23, fun c2 => ⟨in03, fun c3 => ⟨fun c4 => ?_, fun c4 => ?_⟩, fun c3 => ⟨fun c4 => ⟨nar01 (car01 _ _ _), ?_⟩, fun c4 => ⟨fun c5 => ⟨fun c6 => ?_, fun c6 => ?_⟩, fun c5 => ?_⟩⟩⟩, fun c2 => ?_⟩⟩
  all_goals refine ⟨?_, rfl⟩
  all_goals repeat' split
  all_goals first | rfl | contradiction
theorem pu_X0_addPlace (g : (Nat → Nat)) (σ : KS) : wp_X0_addPlace g (po_X0_addPlace g σ) σ := by
  refine ⟨?_, rfl⟩
  show ks_pl σ + 1 - 1 = ks_pl σ
  rw [fa_eq]
  simp
theorem pu_X0_dropPlaces (g : (Nat → Nat)) (σ : KS) : wp_X0_dropPlaces g (po_X0_dropPlaces g σ) σ := rfl
theorem pu_X0_hasEnoughForTwo (g : (Nat → Nat)) (σ : KS) : wp_X0_hasEnoughForTwo g (fun r u => r = fn_X0_hasEnoughForTwo σ ∧ u = σ) σ := by
  unfold wp_X0_hasEnoughForTwo fn_X0_hasEnoughForTwo
  exact ⟨fun c => ⟨by rw [if_pos c], rfl⟩, fun c => ⟨by rw [if_neg c], rfl⟩⟩
theorem pu_X0_variantFor (g : (Nat → Nat)) (σ : KS) (x1 : Int32) (x2 : Int32) : wp_X0_variantFor g (fun r u => r = fn_X0_variantFor σ x1 x2 ∧ u = σ) σ x1 x2 := by
  unfold wp_X0_variantFor fn_X0_variantFor
  refine ⟨fun c => ⟨by rw [if_pos c], rfl⟩, fun c => ⟨in23, ?_, by rw [if_neg c, cl2], rfl⟩⟩
  intro e
  rw [e] at c
  exact c (by decide)
end
section
/-! counting variants -/
theorem ct_flat {p : Nat → Bool} {m n : Nat} (h : m ≤ n) (hf : ∀ k, m ≤ k → k < n → p k = false) : fb_ct p n = fb_ct p m := by
  have h1 := fb_ct_split p m (n - m)
  rw [show m + (n - m) = n by omega] at h1
  rw [h1]
  have h2 : fb_ct (fun k => p (m + k)) (n - m) = 0 := fb_ct_zero.mpr (fun k hk => hf (m + k) (by omega) (by omega))
  omega
theorem pv_split (q : Nat → Nat) {a b : Nat} (hb : b < 100) : PV q (100 * a + b) = decide (q 1 ≤ a ∧ a ≤ q 2 ∧ q 3 ≤ b ∧ b ≤ q 4 ∧ lwF (nI (q 0)) (nI (q 7)) (nI (q 5)) (nI (q 6)) (nI a) (nI b) = 1) := by
  unfold PV
  rw [show (100 * a + b) / 100 = a by omega, show (100 * a + b) % 100 = b by omega]
theorem pv_out (q : Nat → Nat) {n : Nat} (h : n / 100 < q 1 ∨ q 2 < n / 100 ∨ n % 100 < q 3 ∨ q 4 < n % 100) : PV q n = false := by
  unfold PV
  rw [decide_eq_false_iff_not]
  rintro ⟨h1, h2, h3, h4, -⟩
  omega
theorem lw01 (op law fr tr a b : Int32) : lwF op law fr tr a b = 0 ∨ lwF op law fr tr a b = 1 := by
  unfold lwF
  repeat' split
  all_goals first | exact Or.inl rfl | exact Or.inr rfl | exact car01 _ _ _
theorem pv_in (q : Nat → Nat) {a b : Nat} (h1 : q 1 ≤ a) (h2 : a ≤ q 2) (h3 : q 3 ≤ b) (h4 : b ≤ q 4) (hb : b < 100) : PV q (100 * a + b) = true ↔ ¬ lwF (nI (q 0)) (nI (q 7)) (nI (q 5)) (nI (q 6)) (nI a) (nI b) = 0 := by
  rw [pv_split q hb, decide_eq_true_iff]
  constructor
  · rintro ⟨-, -, -, -, h⟩ h0
    rw [h0] at h
    exact absurd h (by decide)
  · intro h
    refine ⟨h1, h2, h3, h4, ?_⟩
    rcases lw01 (nI (q 0)) (nI (q 7)) (nI (q 5)) (nI (q 6)) (nI a) (nI b) with h5 | h5
    · exact absurd h5 h
    · exact h5
/-- the first of a row, the end of it -/
theorem ct_lo (q : Nat → Nat) {a e : Nat} (he : e ≤ q 3) (h : q 3 ≤ 99) : fb_ct (PV q) (100 * a + e) = fb_ct (PV q) (100 * a) :=
  ct_flat (by omega) (fun k h1 h2 => pv_out q (Or.inr (Or.inr (Or.inl (by omega)))))
theorem ct_hi (q : Nat → Nat) {a : Nat} (h : q 4 ≤ 99) : fb_ct (PV q) (100 * (a + 1)) = fb_ct (PV q) (100 * a + (q 4 + 1)) :=
  ct_flat (by omega) (fun k h1 h2 => pv_out q (Or.inr (Or.inr (Or.inr (by omega)))))
theorem ct_first (q : Nat → Nat) : fb_ct (PV q) (100 * q 1) = 0 :=
  fb_ct_zero.mpr (fun k h => pv_out q (Or.inl (by omega)))
theorem ct_last (q : Nat → Nat) (h : q 2 ≤ 99) : NV q = fb_ct (PV q) (100 * (q 2 + 1)) :=
  ct_flat (by omega) (fun k h1 h2 => pv_out q (Or.inr (Or.inl (by omega))))
theorem ct_le_n (q : Nat → Nat) (n : Nat) : fb_ct (PV q) n ≤ n := fb_ct_le _ n
theorem ct_mono (q : Nat → Nat) {m n : Nat} (h : m ≤ n) : fb_ct (PV q) m ≤ fb_ct (PV q) n := fb_ct_mono _ h
theorem kth_ok {q : Nat → Nat} {i : Nat} (h : i < NV q) : kth q i < 10000 ∧ PV q (kth q i) = true ∧ fb_ct (PV q) (kth q i) = i := by
  obtain ⟨n, h1, h2, h3⟩ := fb_ct_kth (p := PV q) (k := i) (n := 10000) h
  have hlt : fa_first (fun n => PV q n && decide (fb_ct (PV q) n = i)) 10000 < 10000 := by
    rcases Nat.lt_or_ge (fa_first (fun n => PV q n && decide (fb_ct (PV q) n = i)) 10000) 10000 with h | h
    · exact h
    · have := fa_first_no (fun n => PV q n && decide (fb_ct (PV q) n = i)) 10000 n (by omega)
      simp [h2, h3] at this
  have hy := fa_first_yes (fun n => PV q n && decide (fb_ct (PV q) n = i)) 10000 hlt
  simp only [Bool.and_eq_true, decide_eq_true_eq] at hy
  exact ⟨hlt, hy.1, hy.2⟩
theorem kth_eq {q : Nat → Nat} {i n : Nat} (hn : n < 10000) (h1 : PV q n = true) (h2 : fb_ct (PV q) n = i) : kth q i = n := by
  have hi : i < NV q := by
    have h3 := fb_ct_succ (PV q) n
    rw [h1] at h3
    have h4 := ct_mono q (show n + 1 ≤ 10000 by omega)
    unfold NV
    simp at h3
    omega
  obtain ⟨-, k2, k3⟩ := kth_ok hi
  exact fb_ct_kth_one k2 h1 (by rw [k3, h2])
theorem kth_in {q : Nat → Nat} {i : Nat} (h : i < NV q) : q 1 ≤ kth q i / 100 ∧ kth q i / 100 ≤ q 2 ∧ q 3 ≤ kth q i % 100 ∧ kth q i % 100 ≤ q 4 := by
  have h1 := (kth_ok h).2.1
  unfold PV at h1
  rw [decide_eq_true_iff] at h1
  exact ⟨h1.1, h1.2.1, h1.2.2.1, h1.2.2.2.1⟩
theorem nv_le (q : Nat → Nat) : NV q ≤ 10000 := fb_ct_le _ _
theorem nI_cl {n : Nat} (h : n < 2 ^ 31) : (nI n).toNatClampNeg = n := nI_clamp h
theorem lw_of {q : Nat → Nat} {σ : KS} (hk : KR0 q σ) (a b : Int32) : fn_X0_isLawful σ a b = lwF (nI (q 0)) (nI (q 7)) (nI (q 5)) (nI (q 6)) a b := by
  obtain ⟨h0, -, -, -, -, h5, h6, h7, -⟩ := hk
  unfold fn_X0_isLawful
  rw [h0, h5, h6, h7]
theorem pu_X0_countBelow (g : (Nat → Nat)) (σ : KS) (x1 : Int32) (x2 : Int32) (hp : pr_X0_countBelow g σ x1 x2) : wp_X0_countBelow g (fun r u => r = fn_X0_countBelow g σ x1 x2 ∧ u = σ) σ x1 x2 := by
  obtain ⟨hk, hq, ⟨a, rfl, ha1, ha2⟩, ⟨e, rfl, he⟩⟩ := hp
  obtain ⟨-, -, q2, q3, q4, -⟩ := id hq
  have hfn : fn_X0_countBelow g σ (nI a) (nI e) = nI (fb_ct (PV g) (100 * a + e) - fb_ct (PV g) (100 * a)) := by
    unfold fn_X0_countBelow
    rw [nI_cl (by omega), nI_cl (by omega)]
  unfold wp_X0_countBelow
  refine ⟨in13, fun x4 e4 => ?_⟩
  rw [cl1, hk.2.2.2.1] at e4
  subst e4
  refine lp_rule (fun t => t.1 = σ ∧ t.2.1 = nI a ∧ t.2.2.1 = nI e ∧ ∃ b : Nat, t.2.2.2.2 = nI b ∧ g 3 ≤ b ∧ (b ≤ e ∨ b = g 3) ∧ t.2.2.2.1 = nI (fb_ct (PV g) (100 * a + b) - fb_ct (PV g) (100 * a))) (fun t => 200 - t.2.2.2.2.toNatClampNeg) ?_ ⟨rfl, rfl, rfl, g 3, rfl, Nat.le_refl _, Or.inr rfl, by rw [ct_lo g (Nat.le_refl _) (by omega), Nat.sub_self]; rfl⟩
  rintro K ⟨s, y1, y2, y3, y4⟩ ⟨h1, h2, h3, b, h4, hb1, hb2, h5⟩ ih
  dsimp only at h1 h2 h3 h4 h5 ih ⊢
  subst h1 h2 h3 h4 h5
  have hb : b ≤ 101 := by omega
  unfold wp_X0_countBelow_10
  refine ⟨fun c => ?_, fun c => ?_⟩
  · rw [nI_leI (by omega) (by omega)] at c
    refine ⟨?_, rfl⟩
    rw [hfn]
    rcases hb2 with h | h
    · rw [show b = e by omega]
    · rw [ct_lo g (show b ≤ g 3 by omega) (by omega), ct_lo g (show e ≤ g 3 by omega) (by omega)]
  · rw [nI_leI (by omega) (by omega)] at c
    have hbe : b < e := by omega
    have hin := pv_in g ha1 ha2 hb1 (show b ≤ g 4 by omega) (by omega)
    have hs := fb_ct_succ (PV g) (100 * a + b)
    have hm := ct_mono g (show 100 * a ≤ 100 * a + b by omega)
    rw [lw_of hk]
    refine ⟨fun c2 => ?_, fun c2 => ?_⟩
    · rintro y rfl
      refine ih _ ⟨rfl, rfl, rfl, b + 1, nI_1 b, by omega, by omega, ?_⟩ ?_
      · have hp : PV g (100 * a + b) = false := by
          cases hv : PV g (100 * a + b) with
          | false => rfl
          | true => exact absurd c2 (hin.mp hv)
        rw [hp] at hs
        rw [show 100 * a + (b + 1) = 100 * a + b + 1 by omega, hs]
        rfl
      · dsimp only
        rw [nI_1, nI_cl (by omega), nI_cl (by omega)]
        omega
    · rintro y rfl z rfl
      refine ih _ ⟨rfl, rfl, rfl, b + 1, nI_1 b, by omega, by omega, ?_⟩ ?_
      · have hp : PV g (100 * a + b) = true := hin.mpr c2
        have hs2 : fb_ct (PV g) (100 * a + b + 1) = fb_ct (PV g) (100 * a + b) + 1 := by rw [hs, hp]; rfl
        have h6 : fb_ct (PV g) (100 * a + (b + 1)) - fb_ct (PV g) (100 * a) = fb_ct (PV g) (100 * a + b) - fb_ct (PV g) (100 * a) + 1 := by
          rw [show 100 * a + (b + 1) = 100 * a + b + 1 by omega, hs2]
          omega
        dsimp only
        rw [h6, ← nI_1]
      · dsimp only
        rw [nI_1, nI_cl (by omega), nI_cl (by omega)]
        omega
theorem kr0_be {q : Nat → Nat} {σ : KS} {f : Nat → Int32} {v : Int32} (h : KR0 q σ) : KR0 q (ks_s_co (ks_s_be σ f) v) := h
theorem pu_X0_countAnew (g : (Nat → Nat)) (σ : KS) (hp : pr_X0_countAnew g σ) : wp_X0_countAnew g (po_X0_countAnew g σ) σ := by
  obtain ⟨hk, hq⟩ := hp
  obtain ⟨q0, q1, q2, q3, q4, -⟩ := id hq
  unfold wp_X0_countAnew
  refine ⟨in03, fun x1 e1 => ?_⟩
  have e1 : x1 = nI (g 1) := by rw [e1, cl0]; exact hk.2.1
  subst e1
  refine lp_rule (fun t => KR0 g t.1 ∧ ∃ a : Nat, t.2 = nI a ∧ g 1 ≤ a ∧ a ≤ g 2 + 1 ∧ ks_co t.1 = nI (fb_ct (PV g) (100 * a)) ∧ ∀ j, g 1 ≤ j → j < a → ks_be t.1 j = nI (fb_ct (PV g) (100 * j))) (fun t => 200 - t.2.toNatClampNeg) ?_ ⟨hk, g 1, rfl, Nat.le_refl _, by omega, by rw [ct_first]; rfl, fun j h1 h2 => by omega⟩
  rintro K ⟨s, y1⟩ ⟨h1, a, h2, ha1, ha2, h3, h4⟩ ih
  dsimp only at h1 h2 h3 h4 ih ⊢
  subst h2
  have hmo : ks_mo s (0 : Int32).toNatClampNeg = nI (g 2) := by rw [cl0]; exact h1.2.2.1
  have hmo1 : ks_mo s (1 : Int32).toNatClampNeg = nI (g 4) := by rw [cl1]; exact h1.2.2.2.2.1
  unfold wp_X0_countAnew_12
  refine ⟨in03, fun c => ?_, fun c => ?_⟩
  · rw [hmo, nI_ltI (by omega) (by omega)] at c
    have ha : a = g 2 + 1 := by omega
    subst ha
    exact ⟨h1, hq, by rw [h3, ct_last g q2], fun j h5 h6 => h4 j h5 (by omega)⟩
  · rw [hmo, nI_ltI (by omega) (by omega)] at c
    have hcl : (nI a).toNatClampNeg = a := nI_cl (by omega)
    have e5 : ks_mo (ks_s_be s (upd (ks_be s) (nI a).toNatClampNeg (ks_co s))) (1 : Int32).toNatClampNeg + 1 = nI (g 4 + 1) := by
      show ks_mo s (1 : Int32).toNatClampNeg + 1 = nI (g 4 + 1)
      rw [hmo1, nI_1]
    refine ⟨vp_in_nI (by omega) (by omega), in13, ?_, fun y ey => ?_⟩
    · rw [e5]
      exact ⟨h1, hq, ⟨a, rfl, ha1, by omega⟩, ⟨g 4 + 1, rfl, Nat.le_refl _⟩⟩
    · subst ey
      refine ih _ ⟨h1, a + 1, nI_1 a, by omega, by omega, ?_, fun j h5 h6 => ?_⟩ ?_
      · show ks_co s + fn_X0_countBelow g _ (nI a) _ = _
        rw [e5, h3]
        unfold fn_X0_countBelow
        rw [hcl, nI_cl (by omega), nI_add, ct_hi g (by omega)]
        have := ct_mono g (show 100 * a ≤ 100 * a + (g 4 + 1) by omega)
        congr 1
        omega
      · show upd (ks_be s) (nI a).toNatClampNeg (ks_co s) j = _
        rw [hcl]
        by_cases hj : j = a
        · subst hj
          rw [pk_us, h3]
        · rw [pk_un hj]
          exact h4 j h5 (by omega)
      · dsimp only
        rw [nI_1, nI_cl (by omega), nI_cl (by omega)]
        omega
theorem qup_s {q : Nat → Nat} {i v : Nat} : qup q i v i = v := by unfold qup; rw [if_pos rfl]
theorem qup_n {q : Nat → Nat} {i v j : Nat} (h : j ≠ i) : qup q i v j = q j := by unfold qup; rw [if_neg h]
theorem pu_X0_open (g : (Nat → Nat)) (σ : KS) (x1 : Int32) (hp : pr_X0_open g σ x1) : wp_X0_open g (po_X0_open g σ x1) σ x1 := by
  obtain ⟨hk, hq, o, rfl, ho⟩ := hp
  have hcl : (nI o).toNatClampNeg = o := nI_cl (by omega)
  unfold wp_X0_open
  rw [hcl]
  refine ⟨⟨?_, ?_⟩, fun u hu => ?_⟩
  · obtain ⟨k0, k1, k2, k3, k4, k5, k6, k7, k8, k9, k10⟩ := hk
    exact ⟨by rw [qup_s], by rw [qup_n (by decide)]; exact k1, by rw [qup_n (by decide)]; exact k2, by rw [qup_n (by decide)]; exact k3, by rw [qup_n (by decide)]; exact k4, by rw [qup_n (by decide)]; exact k5, by rw [qup_n (by decide)]; exact k6, by rw [qup_n (by decide)]; exact k7, by rw [qup_n (by decide)]; exact k8, by rw [qup_n (by decide)]; exact k9, by rw [qup_n (by decide)]; exact k10⟩
  · obtain ⟨k0, k1, k2, k3, k4, k5, k6, k7, k8, k9, k10, k11⟩ := hq
    unfold QOk
    simp only [qup_s, qup_n (show (1 : Nat) ≠ 0 by decide), qup_n (show (2 : Nat) ≠ 0 by decide), qup_n (show (3 : Nat) ≠ 0 by decide), qup_n (show (4 : Nat) ≠ 0 by decide), qup_n (show (5 : Nat) ≠ 0 by decide), qup_n (show (6 : Nat) ≠ 0 by decide), qup_n (show (7 : Nat) ≠ 0 by decide), qup_n (show (8 : Nat) ≠ 0 by decide), qup_n (show (9 : Nat) ≠ 0 by decide), qup_n (show (10 : Nat) ≠ 0 by decide)]
    exact ⟨ho, k1, k2, k3, k4, k5, k6, k7, k8, k9, k10, k11⟩
  · show KRR (qup g 0 (nI o).toNatClampNeg) u
    rw [hcl]
    exact hu
theorem pu_X0_setRange (g : (Nat → Nat)) (σ : KS) (x1 : Int32) (x2 : Int32) (x3 : Int32) (hp : pr_X0_setRange g σ x1 x2 x3) : wp_X0_setRange g (po_X0_setRange g σ x1 x2 x3) σ x1 x2 x3 := by
  obtain ⟨hk, hq, w, f, t, rfl, rfl, rfl, hw, hft, ht⟩ := hp
  have ht2 : t ≤ 9999 := by split at ht <;> omega
  have c1 : (nI w).toNatClampNeg = w := nI_cl (by omega)
  have c2 : (nI f).toNatClampNeg = f := nI_cl (by omega)
  have c3 : (nI t).toNatClampNeg = t := nI_cl (by omega)
  unfold wp_X0_setRange po_X0_setRange
  rw [c1, c2, c3]
  refine ⟨vp_in_nI (by omega) (by omega), vp_in_nI (by omega) (by omega), ⟨?_, ?_⟩, fun u hu => hu⟩
  · obtain ⟨k0, k1, k2, k3, k4, k5, k6, k7, k8, k9, k10⟩ := hk
    rcases (show w = 0 ∨ w = 1 ∨ w = 2 by omega) with rfl | rfl | rfl
    all_goals
      unfold KR0
      simp only [qup, upd, ks_op, ks_le, ks_mo, ks_ru, ks_pl]
      simp
      first | exact ⟨k0, k3, k4, k5, k6, k7, k8, k9, k10⟩ | exact ⟨k0, k1, k2, k5, k6, k7, k8, k9, k10⟩ | exact ⟨k0, k1, k2, k3, k4, k7, k8, k9, k10⟩
  · obtain ⟨k0, k1, k2, k3, k4, k5, k6, k7, k8, k9, k10, k11⟩ := hq
    rcases (show w = 0 ∨ w = 1 ∨ w = 2 by omega) with rfl | rfl | rfl
    all_goals
      unfold QOk
      simp only [qup]
      simp
      simp at ht
      omega
theorem pu_X0_setRule (g : (Nat → Nat)) (σ : KS) (x1 : Int32) (x2 : Int32) (hp : pr_X0_setRule g σ x1 x2) : wp_X0_setRule g (po_X0_setRule g σ x1 x2) σ x1 x2 := by
  obtain ⟨⟨hk, hq, hc⟩, w, v, rfl, rfl, hw, hv0, hv1, hv2⟩ := hp
  have hv : v ≤ 9999 := by rcases (show w = 0 ∨ w = 1 ∨ w = 2 by omega) with rfl | rfl | rfl <;> simp at hv0 hv1 hv2 <;> omega
  have c1 : (nI w).toNatClampNeg = w := nI_cl (by omega)
  have c2 : (nI v).toNatClampNeg = v := nI_cl (by omega)
  unfold wp_X0_setRule po_X0_setRule
  rw [c1, c2]
  have hr : ks_ru σ w = nI (g (7 + w)) := by
    obtain ⟨k0, k1, k2, k3, k4, k5, k6, k7, k8, k9, k10⟩ := hk
    rcases (show w = 0 ∨ w = 1 ∨ w = 2 by omega) with rfl | rfl | rfl
    · exact k7
    · exact k8
    · exact k9
  have hk2 : KR0 (qup g (7 + w) v) (ks_s_ru σ (upd (ks_ru σ) w (nI v))) := by
    obtain ⟨k0, k1, k2, k3, k4, k5, k6, k7, k8, k9, k10⟩ := hk
    rcases (show w = 0 ∨ w = 1 ∨ w = 2 by omega) with rfl | rfl | rfl
    all_goals
      unfold KR0
      simp only [qup, upd, ks_op, ks_le, ks_mo, ks_ru, ks_pl]
      simp
      first | exact ⟨k0, k1, k2, k3, k4, k5, k6, k8, k9, k10⟩ | exact ⟨k0, k1, k2, k3, k4, k5, k6, k7, k9, k10⟩ | exact ⟨k0, k1, k2, k3, k4, k5, k6, k7, k8, k10⟩
  have hq2 : QOk (qup g (7 + w) v) := by
    obtain ⟨k0, k1, k2, k3, k4, k5, k6, k7, k8, k9, k10, k11⟩ := hq
    rcases (show w = 0 ∨ w = 1 ∨ w = 2 by omega) with rfl | rfl | rfl
    all_goals
      unfold QOk
      simp only [qup]
      simp at hv0 hv1 hv2 ⊢
      omega
  have hpv : (w ≠ 0 ∨ v = g 7) → PV (qup g (7 + w) v) = PV g := by
    intro h
    have e : ∀ j, j ≤ 7 → qup g (7 + w) v j = g j := by
      intro j hj
      unfold qup
      split
      · rename_i h1
        rcases h with h | h
        · omega
        · rw [show j = 7 by omega, h]
      · rfl
    funext n
    unfold PV
    rw [e 0 (by decide), e 1 (by decide), e 2 (by decide), e 3 (by decide), e 4 (by decide), e 5 (by decide), e 6 (by decide), e 7 (by decide)]
  have hc2 : (w ≠ 0 ∨ v = g 7) → KRc (qup g (7 + w) v) (ks_s_ru σ (upd (ks_ru σ) w (nI v))) := by
    intro h
    unfold KRc NV
    rw [hpv h, qup_n (by omega), qup_n (by omega)]
    exact hc
  refine ⟨vp_in_nI (by omega) (by omega), fun x3 e3 => ⟨vp_in_nI (by omega) (by omega), fun c => ?_, fun c => ⟨fun c4 => ?_, fun c4 => ⟨⟨hk2, hq2⟩, fun u hu => ⟨by rw [e3, hr], hu⟩⟩⟩⟩⟩
  · refine ⟨by rw [e3, hr], hk2, hq2, hc2 (Or.inl ?_)⟩
    intro h
    exact c (by rw [h]; rfl)
  · refine ⟨by rw [e3, hr], hk2, hq2, hc2 ?_⟩
    by_cases h : w = 0
    · right
      rw [e3, hr, nI_eq (by omega) (by have := hq.2.2.2.2.2.2.2.1; subst h; simp; omega)] at c4
      rw [c4, h]
    · exact Or.inl h
theorem pu_X0_pairAt (g : (Nat → Nat)) (σ : KS) (x1 : Int32) (hp : pr_X0_pairAt g σ x1) : wp_X0_pairAt g (fun r u => r = fn_X0_pairAt g σ x1 ∧ u = σ) σ x1 := by
  obtain ⟨⟨hk, hq, hc⟩, i, rfl, hi⟩ := hp
  obtain ⟨q0, q1, q2, q3, q4, -⟩ := id hq
  have hN := nv_le g
  have hfn : fn_X0_pairAt g σ (nI i) = nI (kth g i) := by unfold fn_X0_pairAt; rw [nI_cl (by omega)]
  have hmo0 : ks_mo σ (0 : Int32).toNatClampNeg = nI (g 2) := by rw [cl0]; exact hk.2.2.1
  have hmo1 : ks_mo σ (1 : Int32).toNatClampNeg = nI (g 4) := by rw [cl1]; exact hk.2.2.2.2.1
  have hle0 : ks_le σ (0 : Int32).toNatClampNeg = nI (g 1) := by rw [cl0]; exact hk.2.1
  have hle1 : ks_le σ (1 : Int32).toNatClampNeg = nI (g 3) := by rw [cl1]; exact hk.2.2.2.1
  have loop2 : ∀ a, g 1 ≤ a → a ≤ g 2 → fb_ct (PV g) (100 * a) ≤ i → i < fb_ct (PV g) (100 * (a + 1)) → LPX (fun K t => wp_X0_pairAt_52 g K (fun r u => r = fn_X0_pairAt g σ (nI i) ∧ u = σ) t.1 t.2.1 t.2.2.1 t.2.2.2) (σ, nI a, nI i - nI (fb_ct (PV g) (100 * a)), nI (g 3)) := by
    intro a ha1 ha2 hlo hhi
    refine lp_rule (fun t => t.1 = σ ∧ t.2.1 = nI a ∧ ∃ b : Nat, t.2.2.2 = nI b ∧ g 3 ≤ b ∧ b ≤ g 4 ∧ fb_ct (PV g) (100 * a + b) ≤ i ∧ t.2.2.1 = nI (i - fb_ct (PV g) (100 * a + b))) (fun t => 200 - t.2.2.2.toNatClampNeg) ?_ ⟨rfl, rfl, g 3, rfl, Nat.le_refl _, q3, by rw [ct_lo g (Nat.le_refl _) (by omega)]; exact hlo, by rw [ct_lo g (Nat.le_refl _) (by omega)]; exact pk_sub hlo⟩
    rintro K ⟨s, y2, y3, y4⟩ ⟨h1, h2, b, h4, hb1, hb2, hle, h3⟩ ih
    dsimp only at h1 h2 h3 h4 ih ⊢
    subst h1 h2 h3 h4
    have hin := pv_in g ha1 ha2 hb1 hb2 (by omega)
    have hs := fb_ct_succ (PV g) (100 * a + b)
    have fin : PV g (100 * a + b) = true → fb_ct (PV g) (100 * a + b) = i → (nI a * 100 + nI b = fn_X0_pairAt g s (nI i) ∧ s = s) := by
      intro p1 p2
      refine ⟨?_, rfl⟩
      rw [hfn, kth_eq (by omega) p1 p2, show (100 : Int32) = nI 100 from rfl, pk_mul, nI_add]
      congr 1
      omega
    unfold wp_X0_pairAt_52
    refine ⟨in13, fun c => ?_, fun c => ?_⟩
    · rw [hmo1, nI_leI (by omega) (by omega)] at c
      have hb : b = g 4 := by omega
      rw [ct_hi g q4, show 100 * a + (g 4 + 1) = 100 * a + b + 1 by omega, hs] at hhi
      cases hv : PV g (100 * a + b) with
      | false => rw [hv] at hhi; simp at hhi; omega
      | true => rw [hv] at hhi; simp at hhi; exact fin hv (by omega)
    · rw [hmo1, nI_leI (by omega) (by omega)] at c
      rw [lw_of hk]
      refine ⟨fun c2 => ?_, fun c2 => ⟨fun c3 => ?_, fun c3 => ?_⟩⟩
      · rintro y rfl
        have hv : PV g (100 * a + b) = false := by
          cases hv : PV g (100 * a + b) with
          | false => rfl
          | true => exact absurd c2 (hin.mp hv)
        have hs' : fb_ct (PV g) (100 * a + (b + 1)) = fb_ct (PV g) (100 * a + b) := by
          rw [show 100 * a + (b + 1) = 100 * a + b + 1 by omega, hs, hv]; rfl
        refine ih _ ⟨rfl, rfl, b + 1, nI_1 b, by omega, by omega, by rw [hs']; exact hle, by rw [hs']⟩ ?_
        dsimp only
        rw [nI_1, nI_cl (by omega), nI_cl (by omega)]
        omega
      · rintro y rfl z rfl
        have hv : PV g (100 * a + b) = true := hin.mpr c2
        have hs' : fb_ct (PV g) (100 * a + (b + 1)) = fb_ct (PV g) (100 * a + b) + 1 := by
          rw [show 100 * a + (b + 1) = 100 * a + b + 1 by omega, hs, hv]; rfl
        have hpos : 0 < i - fb_ct (PV g) (100 * a + b) := by
          rcases Nat.eq_zero_or_pos (i - fb_ct (PV g) (100 * a + b)) with h | h
          · rw [h] at c3; exact absurd rfl c3
          · exact h
        refine ih _ ⟨rfl, rfl, b + 1, nI_1 b, by omega, by omega, by rw [hs']; omega, ?_⟩ ?_
        · dsimp only
          rw [hs', sb_m1 hpos]
          congr 1
        · dsimp only
          rw [nI_1, nI_cl (by omega), nI_cl (by omega)]
          omega
      · have hv : PV g (100 * a + b) = true := hin.mpr c2
        refine fin hv ?_
        have h0 : i - fb_ct (PV g) (100 * a + b) = 0 := by
          rcases Nat.eq_zero_or_pos (i - fb_ct (PV g) (100 * a + b)) with h | h
          · exact h
          · exact absurd c3 (nI_ne0 h (by omega))
        omega
  unfold wp_X0_pairAt
  refine ⟨in03, fun x2 e2 => ?_⟩
  rw [hle0] at e2
  subst e2
  refine lp_rule (fun t => t.1 = σ ∧ t.2.1 = nI i ∧ ∃ a : Nat, t.2.2 = nI a ∧ g 1 ≤ a ∧ a ≤ g 2 ∧ fb_ct (PV g) (100 * a) ≤ i) (fun t => 200 - t.2.2.toNatClampNeg) ?_ ⟨rfl, rfl, g 1, rfl, Nat.le_refl _, q1, by rw [ct_first]; omega⟩
  rintro K ⟨s, y1, y2⟩ ⟨h1, h2, a, h3, ha1, ha2, hlo⟩ ih
  dsimp only at h1 h2 h3 ih ⊢
  subst h1 h2 h3
  have hcl : (nI a).toNatClampNeg = a := nI_cl (by omega)
  have hbe : ks_be s (nI a).toNatClampNeg = nI (fb_ct (PV g) (100 * a)) := by rw [hcl]; exact hc.2 a ha1 ha2
  unfold wp_X0_pairAt_7
  refine ⟨in03, fun c => ?_, fun c => ?_⟩
  · rw [hmo0, nI_leI (by omega) (by omega)] at c
    refine ⟨vp_in_nI (by omega) (by omega), fun x3 e3 => ⟨in13, fun x4 e4 => ?_⟩⟩
    rw [hbe] at e3
    rw [hle1] at e4
    subst e3 e4
    refine loop2 a ha1 ha2 hlo ?_
    have h5 := ct_last g q2
    rw [show g 2 = a by omega] at h5
    omega
  · rw [hmo0, nI_leI (by omega) (by omega)] at c
    have hcl2 : (nI a + 1).toNatClampNeg = a + 1 := by rw [nI_1]; exact nI_cl (by omega)
    have hbe2 : ks_be s (nI a + 1).toNatClampNeg = nI (fb_ct (PV g) (100 * (a + 1))) := by rw [hcl2]; exact hc.2 (a + 1) (by omega) (by omega)
    have hle2 := ct_le_n g (100 * (a + 1))
    refine ⟨by rw [nI_1]; exact vp_in_nI (by omega) (by omega), fun c2 => ?_, fun c2 => ?_⟩
    · rw [hbe2, nI_ltI (by omega) (by omega)] at c2
      refine ⟨vp_in_nI (by omega) (by omega), fun x3 e3 => ⟨in13, fun x4 e4 => ?_⟩⟩
      rw [hbe] at e3
      rw [hle1] at e4
      subst e3 e4
      exact loop2 a ha1 ha2 hlo c2
    · rw [hbe2, nI_ltI (by omega) (by omega)] at c2
      rintro y rfl
      refine ih _ ⟨rfl, rfl, a + 1, nI_1 a, by omega, by omega, by omega⟩ ?_
      dsimp only
      rw [nI_1, nI_cl (by omega), nI_cl (by omega)]
      omega
theorem fnd_out {g : Nat → Nat} (hq : QOk g) {x y : Int32} (h : x < nI (g 1) ∨ nI (g 2) < x ∨ y < nI (g 3) ∨ nI (g 4) < y) : fndV g x y = -9 := by
  obtain ⟨q0, q1, q2, q3, q4, -⟩ := hq
  unfold fndV
  by_cases h0 : x < 0 ∨ 99 < x ∨ y < 0 ∨ 99 < y
  · rw [if_pos h0]
  · rw [if_neg h0]
    have e0 : (0 : Int32).toInt = 0 := rfl
    have e99 : (99 : Int32).toInt = 99 := rfl
    have hx : ∃ a : Nat, a ≤ 99 ∧ x = nI a := by
      refine nI_of2 (M := 99) rfl (fun q => h0 (Or.inl q)) ?_
      exact fa_of_nlt (fun q => h0 (Or.inr (Or.inl q)))
    have hy : ∃ a : Nat, a ≤ 99 ∧ y = nI a := by
      refine nI_of2 (M := 99) rfl (fun q => h0 (Or.inr (Or.inr (Or.inl q)))) ?_
      exact fa_of_nlt (fun q => h0 (Or.inr (Or.inr (Or.inr q))))
    obtain ⟨a, ha, rfl⟩ := hx
    obtain ⟨b, hb, rfl⟩ := hy
    rw [nI_cl (by omega), nI_cl (by omega)]
    rw [nI_ltI (by omega) (by omega), nI_ltI (by omega) (by omega), nI_ltI (by omega) (by omega), nI_ltI (by omega) (by omega)] at h
    rw [pv_out g (by omega)]
    simp
theorem pu_X0_numberOf (g : (Nat → Nat)) (σ : KS) (x1 : Int32) (x2 : Int32) (hp : pr_X0_numberOf g σ x1 x2) : wp_X0_numberOf g (fun r u => r = fn_X0_numberOf g σ x1 x2 ∧ u = σ) σ x1 x2 := by
  obtain ⟨hk, hq, hc⟩ := hp
  obtain ⟨q0, q1, q2, q3, q4, -⟩ := id hq
  have hmo0 : ks_mo σ (0 : Int32).toNatClampNeg = nI (g 2) := by rw [cl0]; exact hk.2.2.1
  have hmo1 : ks_mo σ (1 : Int32).toNatClampNeg = nI (g 4) := by rw [cl1]; exact hk.2.2.2.2.1
  have hle0 : ks_le σ (0 : Int32).toNatClampNeg = nI (g 1) := by rw [cl0]; exact hk.2.1
  have hle1 : ks_le σ (1 : Int32).toNatClampNeg = nI (g 3) := by rw [cl1]; exact hk.2.2.2.1
  have out : (x1 < nI (g 1) ∨ nI (g 2) < x1 ∨ x2 < nI (g 3) ∨ nI (g 4) < x2) → wp_X0_numberOf_44 g (fun r u => r = fn_X0_numberOf g σ x1 x2 ∧ u = σ) σ x1 x2 := by
    intro h
    unfold wp_X0_numberOf_44 wp_X0_numberOf_45
    exact ⟨fun _ => ⟨(fnd_out hq h).symm, rfl⟩, fun c => absurd rfl c⟩
  unfold wp_X0_numberOf
  rw [hmo0, hmo1, hle0, hle1]
  refine ⟨in03, fun c => out (Or.inl c), fun c => ⟨in03, fun c2 => out (Or.inr (Or.inl c2)), fun c2 => ⟨in13, fun c3 => out (Or.inr (Or.inr (Or.inl c3))), fun c3 => ⟨in13, fun c4 => out (Or.inr (Or.inr (Or.inr c4))), fun c4 => ?_⟩⟩⟩⟩
  have hx : ∃ a : Nat, a < 2 ^ 31 ∧ x1 = nI a := nI_of (fun q => c (by
    rw [fa_lt] at q ⊢
    rw [nI_toInt (by omega)]
    have e0 : (0 : Int32).toInt = 0 := rfl
    omega))
  have hy : ∃ a : Nat, a < 2 ^ 31 ∧ x2 = nI a := nI_of (fun q => c3 (by
    rw [fa_lt] at q ⊢
    rw [nI_toInt (by omega)]
    have e0 : (0 : Int32).toInt = 0 := rfl
    omega))
  obtain ⟨a, ha, rfl⟩ := hx
  obtain ⟨b, hb, rfl⟩ := hy
  rw [nI_ltI (by omega) (by omega)] at c c2 c3 c4
  have hfn : fn_X0_numberOf g σ (nI a) (nI b) = if PV g (100 * a + b) = true then nI (fb_ct (PV g) (100 * a + b)) else -9 := by
    unfold fn_X0_numberOf fndV
    rw [if_neg, nI_cl (by omega), nI_cl (by omega)]
    rintro (h | h | h | h)
    · exact nI_pos (by omega) h
    · exact nI_nlt (show a ≤ 99 by omega) (by omega) h
    · exact nI_pos (by omega) h
    · exact nI_nlt (show b ≤ 99 by omega) (by omega) h
  have hin := pv_in g (show g 1 ≤ a by omega) (show a ≤ g 2 by omega) (show g 3 ≤ b by omega) (show b ≤ g 4 by omega) (by omega)
  unfold wp_X0_numberOf_45
  rw [lw_of hk]
  refine ⟨fun c5 => absurd c5 (by decide), fun _ => ⟨fun c5 => ?_, fun c5 => ⟨vp_in_nI (by omega) (by omega), ?_, ?_, rfl⟩⟩⟩
  · refine ⟨?_, rfl⟩
    rw [hfn, if_neg (fun q => hin.mp q c5)]
  · exact ⟨hk, hq, ⟨a, rfl, by omega, by omega⟩, ⟨b, rfl, by omega⟩⟩
  · have hm := ct_mono g (show 100 * a ≤ 100 * a + b by omega)
    rw [hfn, if_pos (hin.mpr c5), nI_cl (by omega), hc.2 a (by omega) (by omega)]
    unfold fn_X0_countBelow
    rw [nI_cl (by omega), nI_cl (by omega), nI_add]
    congr 1
    omega
theorem lpX_s {α : Type} {F : (α → Prop) → α → Prop} {n : Nat} {a : α} (h : F (lpX F n) a) : lpX F (n + 1) a := h
theorem pu_X0_slipBehind (g : (Nat → Nat)) (σ : KS) (x1 : Int32) (x2 : Int32) (hp : pr_X0_slipBehind g σ x1 x2) : wp_X0_slipBehind g (fun r u => r = fn_X0_slipBehind g σ x1 x2 ∧ u = σ) σ x1 x2 := by
  obtain ⟨hR, i, rfl, hi⟩ := hp
  obtain ⟨hk, hq, hc⟩ := id hR
  have hN := nv_le g
  obtain ⟨hn, -, -⟩ := kth_ok hi
  unfold wp_X0_slipBehind
  refine ⟨⟨hR, i, rfl, hi⟩, fun x3 e3 x4 e4 x5 e5 => ?_⟩
  have e3 : x3 = nI (kth g i) := by rw [e3]; unfold fn_X0_pairAt; rw [nI_cl (by omega)]
  subst e3
  have e4 : x4 = nI (kth g i / 100) := by rw [e4]; exact pk_div (by omega) (by decide) (by decide)
  have e5 : x5 = nI (kth g i % 100) := by rw [e5]; exact pk_rem (by omega) (by decide) (by decide)
  subst e4 e5
  have hfn : fn_X0_slipBehind g σ (nI i) x2 = tlF (ks_op σ) (nI (kth g i / 100)) (nI (kth g i % 100)) x2 := by
    unfold fn_X0_slipBehind
    rw [nI_cl (by omega), hk.1]
  rw [hfn]
  generalize nI (kth g i / 100) = a
  generalize nI (kth g i % 100) = b
  have er : fn_X0_result σ a b = ansF (ks_op σ) a b := rfl
  rw [er]
  unfold tlF
  refine ⟨fun c => ⟨fun c2 => ?_, fun c2 => ?_⟩, fun c => ?_⟩
  · have c2' : ¬ x2 < 0 := by
      intro q
      rw [fa_lt] at q
      rw [fa_le] at c2
      omega
    rw [if_neg c, if_neg c2']
    have step : ∀ (n : Nat) (k k1 : Int32) (Post : Int32 → KS → Prop), ¬ 5 < k → k1 = k + 1 → (¬ slpF (ks_op σ) a b k = x2 → lpX (fun K t => wp_X0_slipBehind_42 g K Post t.1 t.2.1 t.2.2.1 t.2.2.2.1 t.2.2.2.2) n (σ, x2, a, b, k1)) → (slpF (ks_op σ) a b k = x2 → Post k σ) → lpX (fun K t => wp_X0_slipBehind_42 g K Post t.1 t.2.1 t.2.2.1 t.2.2.2.1 t.2.2.2.2) (n + 1) (σ, x2, a, b, k) := by
      intro n k k1 Post h5 ek h1 h2
      subst ek
      exact And.intro (fun c3 => absurd c3 h5) (fun _ => And.intro (fun d y ey => by rw [ey]; exact h1 d) h2)
    refine ⟨7, ?_⟩
    refine step 6 1 2 _ (by decide) (by decide) (fun d1 => step 5 2 3 _ (by decide) (by decide) (fun d2 => step 4 3 4 _ (by decide) (by decide) (fun d3 => step 3 4 5 _ (by decide) (by decide) (fun d4 => step 2 5 6 _ (by decide) (by decide) (fun d5 => ?_) (fun d5 => ?_)) (fun d4 => ?_)) (fun d3 => ?_)) (fun d2 => ?_)) (fun d1 => ?_)
    · exact And.intro (fun _ => ⟨by rw [if_neg d1, if_neg d2, if_neg d3, if_neg d4, if_neg d5], rfl⟩) (fun c3 => absurd (show (5 : Int32) < 6 by decide) c3)
    · exact ⟨by rw [if_neg d1, if_neg d2, if_neg d3, if_neg d4, if_pos d5], rfl⟩
    · exact ⟨by rw [if_neg d1, if_neg d2, if_neg d3, if_pos d4], rfl⟩
    · exact ⟨by rw [if_neg d1, if_neg d2, if_pos d3], rfl⟩
    · exact ⟨by rw [if_neg d1, if_pos d2], rfl⟩
    · exact ⟨by rw [if_pos d1], rfl⟩
  · have c2' : x2 < 0 := by
      rw [fa_lt]
      rw [fa_le] at c2
      omega
    exact ⟨by rw [if_neg c, if_pos c2'], rfl⟩
  · exact ⟨by rw [if_pos c], rfl⟩
end
section
/-! the class over its kinds -/
theorem le_cl {x : Int32} {n : Nat} (hn : n < 2 ^ 31) (hx : ¬ x < 0) : nI n ≤ x ↔ n ≤ x.toNatClampNeg := by
  obtain ⟨j, hj, rfl⟩ := nI_of hx
  rw [nI_leI hn hj, nI_cl hj]
theorem chk {x : Int32} {n : Nat} (hn : n < 2 ^ 31) : (if x < 0 then (0 : Int32) else if nI n ≤ x then 0 else 1) = 0 ↔ outN x n := by
  by_cases h : x < 0
  · rw [if_pos h]
    exact ⟨fun _ => Or.inl h, fun _ => rfl⟩
  · rw [if_neg h]
    by_cases h2 : nI n ≤ x
    · rw [if_pos h2]
      exact ⟨fun _ => Or.inr ((le_cl hn h).mp h2), fun _ => rfl⟩
    · rw [if_neg h2]
      exact ⟨fun q => absurd q (by decide), fun q => absurd ((le_cl hn h).mpr (q.resolve_left h)) h2⟩
theorem isk {C : CS} {σ : XS} (hR : RX C σ) (x : Int32) : fn_X1_isKind σ x = 0 ↔ outN x (c_nk C) := by
  unfold fn_X1_isKind
  rw [hR.2.1]
  exact chk (by have := hR.1.1; omega)
theorem isp {C : CS} {σ : XS} (hR : RX C σ) (x : Int32) : fn_X1_isPlace σ x = 0 ↔ outN x (c_np C) := by
  unfold fn_X1_isPlace
  rw [hR.2.2.2.2.1]
  exact chk (by have := hR.1.2.2.2.1; omega)
theorem vin_le {x : Int32} {n m : Nat} (h : ¬ outN x n) (hm : n ≤ m) : vp_in x m := by
  rintro (q | q)
  · exact h (Or.inl q)
  · exact h (Or.inr (by omega))
theorem out_ex {x : Int32} {n : Nat} (h : ¬ outN x n) : ∃ j : Nat, x = nI j ∧ j < n ∧ x.toNatClampNeg = j ∧ j < 2 ^ 31 := by
  obtain ⟨j, hj, rfl⟩ := nI_of (fun q => h (Or.inl q))
  have hc := nI_cl hj
  refine ⟨j, rfl, ?_, hc, hj⟩
  rcases Nat.lt_or_ge j n with q | q
  · exact q
  · exact absurd (Or.inr (by rw [hc]; exact q)) h
theorem krr {C : CS} {σ : XS} (hR : RX C σ) {k : Nat} (hk : k < c_nk C) : KRR (cq C k) (xs_ki σ k) := by
  have h8 := hR.1.1
  exact ⟨hR.2.2.1 k (by omega), hR.1.2.1 k (by omega), hR.2.2.2.1 k hk⟩
theorem out_lt {x : Int32} {n : Nat} (h : ¬ outN x n) : x.toNatClampNeg < n := by
  obtain ⟨j, -, h1, h2, -⟩ := out_ex h
  omega
theorem cq_ne {C : CS} {k i : Nat} (h : i ≠ 10) : cq C k i = c_q C k i := by unfold cq; rw [if_neg h]
theorem isv {C : CS} {σ : XS} (x1 x2 : Int32) : fn_X1_isVariant C σ x1 x2 = 0 ↔ noV C x1 x2 := by
  unfold fn_X1_isVariant
  by_cases h : noV C x1 x2
  · rw [if_pos h]
    exact ⟨fun _ => h, fun _ => rfl⟩
  · rw [if_neg h]
    exact ⟨fun q => absurd q (by decide), fun q => absurd q h⟩
theorem pu_X1_isKind (g : CS) (σ : XS) (x1 : Int32) : wp_X1_isKind g (fun r u => r = fn_X1_isKind σ x1 ∧ u = σ) σ x1 := by
  unfold wp_X1_isKind fn_X1_isKind
  exact ⟨fun c => ⟨by rw [if_pos c], rfl⟩, fun c => ⟨fun c2 => ⟨by rw [if_neg c, if_pos c2], rfl⟩, fun c2 => ⟨by rw [if_neg c, if_neg c2], rfl⟩⟩⟩
theorem pu_X1_isPlace (g : CS) (σ : XS) (x1 : Int32) : wp_X1_isPlace g (fun r u => r = fn_X1_isPlace σ x1 ∧ u = σ) σ x1 := by
  unfold wp_X1_isPlace fn_X1_isPlace
  exact ⟨fun c => ⟨by rw [if_pos c], rfl⟩, fun c => ⟨fun c2 => ⟨by rw [if_neg c, if_pos c2], rfl⟩, fun c2 => ⟨by rw [if_neg c, if_neg c2], rfl⟩⟩⟩
theorem pu_X1_isSeat (g : CS) (σ : XS) (x1 : Int32) : wp_X1_isSeat g (fun r u => r = fn_X1_isSeat σ x1 ∧ u = σ) σ x1 := by
  unfold wp_X1_isSeat fn_X1_isSeat
  exact ⟨fun c => ⟨by rw [if_pos c], rfl⟩, fun c => ⟨fun c2 => ⟨by rw [if_neg c, if_pos c2], rfl⟩, fun c2 => ⟨fun c3 => ⟨by rw [if_neg c, if_neg c2, if_pos c3], rfl⟩, fun c3 => ⟨by rw [if_neg c, if_neg c2, if_neg c3], rfl⟩⟩⟩⟩
theorem pu_X1_sheetAt (g : CS) (σ : XS) (x1 : Int32) : wp_X1_sheetAt g (fun r u => r = fn_X1_sheetAt σ x1 ∧ u = σ) σ x1 := by
  unfold wp_X1_sheetAt
  rintro _ rfl _ rfl
  exact ⟨rfl, rfl⟩
theorem pu_X1_missesFrom (g : CS) (σ : XS) (x1 : Int32) : wp_X1_missesFrom g (fun r u => r = fn_X1_missesFrom σ x1 ∧ u = σ) σ x1 := ⟨rfl, rfl⟩
theorem pu_X1_isVariant (g : CS) (σ : XS) (x1 : Int32) (x2 : Int32) (hp : pr_X1_isVariant g σ x1 x2) : wp_X1_isVariant g (fun r u => r = fn_X1_isVariant g σ x1 x2 ∧ u = σ) σ x1 x2 := by
  have hR : RX g σ := hp
  have h8 := hR.1.1
  unfold wp_X1_isVariant
  simp only [isk hR]
  refine ⟨fun c => ⟨?_, rfl⟩, fun c => ⟨fun c2 => ⟨?_, rfl⟩, fun c2 => ⟨vin_le c h8, fun c3 => ⟨?_, rfl⟩, fun c3 => ⟨?_, rfl⟩⟩⟩⟩
  · unfold fn_X1_isVariant
    rw [if_pos (Or.inl c)]
  · unfold fn_X1_isVariant
    rw [if_pos (Or.inr (Or.inl c2))]
  all_goals
    have hsz : fn_X0_size (xs_ki σ x1.toNatClampNeg) = nI (NV (cq g x1.toNatClampNeg)) := (hR.2.2.2.1 _ (out_lt c)).1
    rw [hsz, le_cl (by have := nv_le (cq g x1.toNatClampNeg); omega) c2] at c3
    unfold fn_X1_isVariant
  · rw [if_pos (Or.inr (Or.inr c3))]
  · rw [if_neg]
    rintro (h | h | h)
    · exact c h
    · exact c2 h
    · exact c3 h
theorem pu_X1_variants (g : CS) (σ : XS) (x1 : Int32) (hp : pr_X1_variants g σ x1) : wp_X1_variants g (fun r u => r = fn_X1_variants g σ x1 ∧ u = σ) σ x1 := by
  have hR : RX g σ := hp
  have h8 := hR.1.1
  unfold wp_X1_variants fn_X1_variants sp_variants
  simp only [isk hR]
  refine ⟨fun c => ⟨by rw [if_pos c], rfl⟩, fun c => ⟨vin_le c h8, ?_, rfl⟩⟩
  rw [if_neg c]
  exact (hR.2.2.2.1 _ (out_lt c)).1
theorem pair_ab {n : Nat} (h : n < 10000) : nI n / 100 = nI (n / 100) ∧ nI n - nI n / 100 * 100 = nI (n % 100) := ⟨pk_div (by omega) (by decide) (by decide), pk_rem (by omega) (by decide) (by decide)⟩
/-- of a variant that there is: what pairAt wants and gives -/
theorem var_ok {C : CS} {σ : XS} (hR : RX C σ) {x1 x2 : Int32} (h : ¬ noV C x1 x2) : x1.toNatClampNeg < c_nk C ∧ pr_X0_pairAt (cq C x1.toNatClampNeg) (xs_ki σ x1.toNatClampNeg) x2 ∧ kth (cq C x1.toNatClampNeg) x2.toNatClampNeg < 10000 ∧ fn_X0_pairAt (cq C x1.toNatClampNeg) (xs_ki σ x1.toNatClampNeg) x2 = nI (kth (cq C x1.toNatClampNeg) x2.toNatClampNeg) ∧ vp_in x1 8 ∧ ks_op (xs_ki σ x1.toNatClampNeg) = op_k C x1 := by
  have h1 : ¬ outN x1 (c_nk C) := fun q => h (Or.inl q)
  have h2 : ¬ outN x2 (NV (cq C x1.toNatClampNeg)) := fun q => h (Or.inr q)
  have hk := out_lt h1
  obtain ⟨i, e, hi, hc, -⟩ := out_ex h2
  have hkr := krr hR hk
  refine ⟨hk, ⟨hkr, i, e, hi⟩, ?_, rfl, vin_le h1 hR.1.1, ?_⟩
  · rw [hc]
    exact (kth_ok hi).1
  · rw [hkr.1.1, cq_ne (by decide)]
theorem pu_X1_variant (g : CS) (σ : XS) (x1 : Int32) (x2 : Int32) (x3 : Int32) (hp : pr_X1_variant g σ x1 x2 x3) : wp_X1_variant g (fun r u => r = fn_X1_variant g σ x1 x2 x3 ∧ u = σ) σ x1 x2 x3 := by
  have hR : RX g σ := hp
  unfold wp_X1_variant fn_X1_variant sp_variant
  simp only [isv]
  refine ⟨hR, fun c => ?_, fun c => ⟨by rw [if_pos c], rfl⟩⟩
  obtain ⟨hk, hpr, hn, hfn, hv8, hop⟩ := var_ok hR c
  obtain ⟨pa, pb⟩ := pair_ab hn
  refine ⟨hv8, hpr, fun x4 e4 x5 e5 x6 e6 => ?_⟩
  rw [hfn] at e4
  subst e4
  rw [pa] at e5
  rw [pb] at e6
  subst e5 e6
  have er : fn_X0_result (xs_ki σ x1.toNatClampNeg) (va_a g x1 x2) (va_b g x1 x2) = ansF (op_k g x1) (va_a g x1 x2) (va_b g x1 x2) := by unfold fn_X0_result; rw [hop]
  have ec : fn_X0_carries (xs_ki σ x1.toNatClampNeg) (va_a g x1 x2) (va_b g x1 x2) = carF (op_k g x1) (va_a g x1 x2) (va_b g x1 x2) := by unfold fn_X0_carries; rw [hop]
  rw [if_neg c]
  refine ⟨fun d => ⟨by rw [if_pos d], rfl⟩, fun d => ⟨fun d2 => ⟨by rw [if_neg d, if_pos d2], rfl⟩, fun d2 => ⟨fun d3 => ⟨hv8, by rw [if_neg d, if_neg d2, if_pos d3]; exact er, rfl⟩, fun d3 => ⟨fun d4 => ⟨hv8, fun d5 => ⟨?_, rfl⟩, fun d5 => ⟨?_, rfl⟩⟩, fun d4 => ⟨by rw [if_neg d, if_neg d2, if_neg d3, if_neg d4], rfl⟩⟩⟩⟩⟩
  · rw [if_neg d, if_neg d2, if_neg d3, if_pos d4]
    exact (ec ▸ d5).symm
  · rw [if_neg d, if_neg d2, if_neg d3, if_pos d4]
    rcases car01 (op_k g x1) (va_a g x1 x2) (va_b g x1 x2) with h | h
    · exact absurd (ec.trans h) d5
    · exact h.symm
theorem pu_X1_find (g : CS) (σ : XS) (x1 : Int32) (x2 : Int32) (x3 : Int32) (hp : pr_X1_find g σ x1 x2 x3) : wp_X1_find g (fun r u => r = fn_X1_find g σ x1 x2 x3 ∧ u = σ) σ x1 x2 x3 := by
  have hR : RX g σ := hp
  unfold wp_X1_find fn_X1_find sp_find
  simp only [isk hR]
  exact ⟨fun c => ⟨by rw [if_pos c], rfl⟩, fun c => ⟨vin_le c hR.1.1, krr hR (out_lt c), by rw [if_neg c]; rfl, rfl⟩⟩
theorem pu_X1_slip (g : CS) (σ : XS) (x1 : Int32) (x2 : Int32) (x3 : Int32) (hp : pr_X1_slip g σ x1 x2 x3) : wp_X1_slip g (fun r u => r = fn_X1_slip g σ x1 x2 x3 ∧ u = σ) σ x1 x2 x3 := by
  have hR : RX g σ := hp
  unfold wp_X1_slip fn_X1_slip sp_slip
  simp only [isv]
  refine ⟨hR, fun c => ?_, fun c => ⟨by rw [if_pos c], rfl⟩⟩
  obtain ⟨hk, hpr, hn, hfn, hv8, hop⟩ := var_ok hR c
  obtain ⟨pa, pb⟩ := pair_ab hn
  rw [if_neg c]
  refine ⟨fun d => ⟨by rw [if_pos (Or.inl d)], rfl⟩, fun d => ⟨fun d2 => ⟨hv8, hpr, fun x4 e4 => ⟨hv8, ?_, rfl⟩⟩, fun d2 => ⟨?_, rfl⟩⟩⟩
  · rw [hfn] at e4
    subst e4
    rw [pa, pb, if_neg]
    · unfold fn_X0_slipped
      rw [hop]
    · rintro (h | h)
      · exact d h
      · rw [fa_lt] at h
        rw [fa_le] at d2
        omega
  · rw [if_pos (Or.inr (fa_of_nle d2))]
theorem pu_X1_tells (g : CS) (σ : XS) (x1 : Int32) (x2 : Int32) (x3 : Int32) (hp : pr_X1_tells g σ x1 x2 x3) : wp_X1_tells g (fun r u => r = fn_X1_tells g σ x1 x2 x3 ∧ u = σ) σ x1 x2 x3 := by
  have hR : RX g σ := hp
  unfold wp_X1_tells fn_X1_tells sp_tells
  simp only [isv]
  refine ⟨hR, fun c => ⟨by rw [if_pos c], rfl⟩, fun c => ?_⟩
  obtain ⟨hk, hpr, hn, hfn, hv8, hop⟩ := var_ok hR c
  refine ⟨hv8, hpr, ?_, rfl⟩
  rw [if_neg c]
  unfold fn_X0_slipBehind
  rw [cq_ne (by decide)]
theorem pu_X1_placed (g : CS) (σ : XS) (x1 : Int32) (hp : pr_X1_placed g σ x1) : wp_X1_placed g (fun r u => r = fn_X1_placed g σ x1 ∧ u = σ) σ x1 := by
  have hR : RX g σ := hp
  unfold wp_X1_placed fn_X1_placed sp_placed
  simp only [isp hR]
  exact ⟨fun c => ⟨by rw [if_pos c], rfl⟩, fun c => ⟨vin_le c hR.1.2.2.2.1, by rw [if_neg c]; exact (hR.2.2.2.2.2.1 _ (out_lt c)).1, rfl⟩⟩
end
