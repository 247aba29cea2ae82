theorem pu_X0_countBelow (g : (Nat → Nat)) (σ : KS) (x1 : Int32) (x2 : Int32) (hp : pr_X0_countBelow g σ x1 x2) : wp_X0_countBelow g (fun r u => r = fn_X0_countBelow g σ x1 x2 ∧ u = σ) σ x1 x2 := sorry
theorem pu_X0_countAnew (g : (Nat → Nat)) (σ : KS) (hp : pr_X0_countAnew g σ) : wp_X0_countAnew g (po_X0_countAnew g σ) σ := sorry
theorem pu_X0_open (g : (Nat → Nat)) (σ : KS) (x1 : Int32) (hp : pr_X0_open g σ x1) : wp_X0_open g (po_X0_open g σ x1) σ x1 := sorry
theorem pu_X0_setRange (g : (Nat → Nat)) (σ : KS) (x1 : Int32) (x2 : Int32) (x3 : Int32) (hp : pr_X0_setRange g σ x1 x2 x3) : wp_X0_setRange g (po_X0_setRange g σ x1 x2 x3) σ x1 x2 x3 := sorry
theorem pu_X0_setRule (g : (Nat → Nat)) (σ : KS) (x1 : Int32) (x2 : Int32) (hp : pr_X0_setRule g σ x1 x2) : wp_X0_setRule g (po_X0_setRule g σ x1 x2) σ x1 x2 := sorry
theorem pu_X0_pairAt (g : (Nat → Nat)) (σ : KS) (x1 : Int32) (hp : pr_X0_pairAt g σ x1) : wp_X0_pairAt g (fun r u => r = fn_X0_pairAt g σ x1 ∧ u = σ) σ x1 := sorry
theorem pu_X0_numberOf (g : (Nat → Nat)) (σ : KS) (x1 : Int32) (x2 : Int32) (hp : pr_X0_numberOf g σ x1 x2) : wp_X0_numberOf g (fun r u => r = fn_X0_numberOf g σ x1 x2 ∧ u = σ) σ x1 x2 := sorry
theorem pu_X0_slipBehind (g : (Nat → Nat)) (σ : KS) (x1 : Int32) (x2 : Int32) (hp : pr_X0_slipBehind g σ x1 x2) : wp_X0_slipBehind g (fun r u => r = fn_X0_slipBehind g σ x1 x2 ∧ u = σ) σ x1 x2 := sorry
theorem pu_X0_placesInCommon (g : (Nat → Nat)) (σ : KS) (x1 : Int32) (x2 : Int32) (hp : pr_X0_placesInCommon g σ x1 x2) : wp_X0_placesInCommon g (fun r u => r = fn_X0_placesInCommon g σ x1 x2 ∧ u = σ) σ x1 x2 := sorry
theorem pu_X1_isKind (g : CS) (σ : XS) (x1 : Int32) : wp_X1_isKind g (fun r u => r = fn_X1_isKind σ x1 ∧ u = σ) σ x1 := sorry
theorem pu_X1_isVariant (g : CS) (σ : XS) (x1 : Int32) (x2 : Int32) (hp : pr_X1_isVariant g σ x1 x2) : wp_X1_isVariant g (fun r u => r = fn_X1_isVariant g σ x1 x2 ∧ u = σ) σ x1 x2 := sorry
theorem pu_X1_kind (g : CS) (σ : XS) (x1 : Int32) (hp : pr_X1_kind g σ x1) : wp_X1_kind g (po_X1_kind g σ x1) σ x1 := sorry
theorem pu_X1_range (g : CS) (σ : XS) (x1 : Int32) (x2 : Int32) (x3 : Int32) (x4 : Int32) (hp : pr_X1_range g σ x1 x2 x3 x4) : wp_X1_range g (po_X1_range g σ x1 x2 x3 x4) σ x1 x2 x3 x4 := sorry
theorem pu_X1_rule (g : CS) (σ : XS) (x1 : Int32) (x2 : Int32) (x3 : Int32) (hp : pr_X1_rule g σ x1 x2 x3) : wp_X1_rule g (po_X1_rule g σ x1 x2 x3) σ x1 x2 x3 := sorry
theorem pu_X1_variants (g : CS) (σ : XS) (x1 : Int32) (hp : pr_X1_variants g σ x1) : wp_X1_variants g (fun r u => r = fn_X1_variants g σ x1 ∧ u = σ) σ x1 := sorry
theorem pu_X1_variant (g : CS) (σ : XS) (x1 : Int32) (x2 : Int32) (x3 : Int32) (hp : pr_X1_variant g σ x1 x2 x3) : wp_X1_variant g (fun r u => r = fn_X1_variant g σ x1 x2 x3 ∧ u = σ) σ x1 x2 x3 := sorry
theorem pu_X1_find (g : CS) (σ : XS) (x1 : Int32) (x2 : Int32) (x3 : Int32) (hp : pr_X1_find g σ x1 x2 x3) : wp_X1_find g (fun r u => r = fn_X1_find g σ x1 x2 x3 ∧ u = σ) σ x1 x2 x3 := sorry
theorem pu_X1_slip (g : CS) (σ : XS) (x1 : Int32) (x2 : Int32) (x3 : Int32) (hp : pr_X1_slip g σ x1 x2 x3) : wp_X1_slip g (fun r u => r = fn_X1_slip g σ x1 x2 x3 ∧ u = σ) σ x1 x2 x3 := sorry
theorem pu_X1_tells (g : CS) (σ : XS) (x1 : Int32) (x2 : Int32) (x3 : Int32) (hp : pr_X1_tells g σ x1 x2 x3) : wp_X1_tells g (fun r u => r = fn_X1_tells g σ x1 x2 x3 ∧ u = σ) σ x1 x2 x3 := sorry
theorem pu_X1_isPlace (g : CS) (σ : XS) (x1 : Int32) : wp_X1_isPlace g (fun r u => r = fn_X1_isPlace σ x1 ∧ u = σ) σ x1 := sorry
theorem pu_X1_plan (g : CS) (σ : XS) (x1 : Int32) (x2 : Int32) (hp : pr_X1_plan g σ x1 x2) : wp_X1_plan g (po_X1_plan g σ x1 x2) σ x1 x2 := sorry
theorem pu_X1_clear (g : CS) (σ : XS) (hp : pr_X1_clear g σ) : wp_X1_clear g (po_X1_clear g σ) σ := sorry
theorem pu_X1_placed (g : CS) (σ : XS) (x1 : Int32) (hp : pr_X1_placed g σ x1) : wp_X1_placed g (fun r u => r = fn_X1_placed g σ x1 ∧ u = σ) σ x1 := sorry
theorem pu_X1_lines (g : CS) (σ : XS) (x1 : Int32) (hp : pr_X1_lines g σ x1) : wp_X1_lines g (po_X1_lines g σ x1) σ x1 := sorry
theorem pu_X1_pageAndLine (g : CS) (σ : XS) (x1 : Int32) (hp : pr_X1_pageAndLine g σ x1) : wp_X1_pageAndLine g (fun r u => r = fn_X1_pageAndLine g σ x1 ∧ u = σ) σ x1 := sorry
theorem pu_X1_pages (g : CS) (σ : XS) (hp : pr_X1_pages g σ) : wp_X1_pages g (fun r u => r = fn_X1_pages g σ ∧ u = σ) σ := sorry
theorem pu_X1_page (g : CS) (σ : XS) (x1 : Int32) (x2 : Int32) (hp : pr_X1_page g σ x1 x2) : wp_X1_page g (fun r u => r = fn_X1_page g σ x1 x2 ∧ u = σ) σ x1 x2 := sorry
theorem pu_X1_lacksVariants (g : CS) (σ : XS) (hp : pr_X1_lacksVariants g σ) : wp_X1_lacksVariants g (fun r u => r = fn_X1_lacksVariants g σ ∧ u = σ) σ := sorry
theorem pu_X1_sheetRefusal (g : CS) (σ : XS) (x1 : Int32) (hp : pr_X1_sheetRefusal g σ x1) : wp_X1_sheetRefusal g (fun r u => r = fn_X1_sheetRefusal g σ x1 ∧ u = σ) σ x1 := sorry
theorem pu_X1_placeRefusal (g : CS) (σ : XS) (x1 : Int32) (x2 : Int32) (hp : pr_X1_placeRefusal g σ x1 x2) : wp_X1_placeRefusal g (fun r u => r = fn_X1_placeRefusal g σ x1 x2 ∧ u = σ) σ x1 x2 := sorry
theorem pu_X1_variantOn (g : CS) (σ : XS) (x1 : Int32) (x2 : Int32) (hp : pr_X1_variantOn g σ x1 x2) : wp_X1_variantOn g (fun r u => r = fn_X1_variantOn g σ x1 x2 ∧ u = σ) σ x1 x2 := sorry
theorem pu_X1_answerOn (g : CS) (σ : XS) (x1 : Int32) (x2 : Int32) (hp : pr_X1_answerOn g σ x1 x2) : wp_X1_answerOn g (fun r u => r = fn_X1_answerOn g σ x1 x2 ∧ u = σ) σ x1 x2 := sorry
theorem pu_X1_sheet (g : CS) (σ : XS) (x1 : Int32) (x2 : Int32) (hp : pr_X1_sheet g σ x1 x2) : wp_X1_sheet g (fun r u => r = fn_X1_sheet g σ x1 x2 ∧ u = σ) σ x1 x2 := sorry
theorem pu_X1_answer (g : CS) (σ : XS) (x1 : Int32) (x2 : Int32) (hp : pr_X1_answer g σ x1 x2) : wp_X1_answer g (fun r u => r = fn_X1_answer g σ x1 x2 ∧ u = σ) σ x1 x2 := sorry
theorem pu_X1_code (g : CS) (σ : XS) (x1 : Int32) (hp : pr_X1_code g σ x1) : wp_X1_code g (fun r u => r = fn_X1_code g σ x1 ∧ u = σ) σ x1 := sorry
theorem pu_X1_shared (g : CS) (σ : XS) (x1 : Int32) (x2 : Int32) (hp : pr_X1_shared g σ x1 x2) : wp_X1_shared g (fun r u => r = fn_X1_shared g σ x1 x2 ∧ u = σ) σ x1 x2 := sorry
theorem pu_X1_apart (g : CS) (σ : XS) (x1 : Int32) (hp : pr_X1_apart g σ x1) : wp_X1_apart g (fun r u => r = fn_X1_apart g σ x1 ∧ u = σ) σ x1 := sorry
theorem pu_X1_seats (g : CS) (σ : XS) (x1 : Int32) (x2 : Int32) (hp : pr_X1_seats g σ x1 x2) : wp_X1_seats g (po_X1_seats g σ x1 x2) σ x1 x2 := sorry
theorem pu_X1_base (g : CS) (σ : XS) (x1 : Int32) (hp : pr_X1_base g σ x1) : wp_X1_base g (po_X1_base g σ x1) σ x1 := sorry
theorem pu_X1_isSeat (g : CS) (σ : XS) (x1 : Int32) : wp_X1_isSeat g (fun r u => r = fn_X1_isSeat σ x1 ∧ u = σ) σ x1 := sorry
theorem pu_X1_sheetAt (g : CS) (σ : XS) (x1 : Int32) : wp_X1_sheetAt g (fun r u => r = fn_X1_sheetAt σ x1 ∧ u = σ) σ x1 := sorry
theorem pu_X1_seat (g : CS) (σ : XS) (x1 : Int32) (hp : pr_X1_seat g σ x1) : wp_X1_seat g (fun r u => r = fn_X1_seat g σ x1 ∧ u = σ) σ x1 := sorry
theorem pu_X1_unlike (g : CS) (σ : XS) (hp : pr_X1_unlike g σ) : wp_X1_unlike g (fun r u => r = fn_X1_unlike g σ ∧ u = σ) σ := sorry
theorem pu_X1_missesFrom (g : CS) (σ : XS) (x1 : Int32) : wp_X1_missesFrom g (fun r u => r = fn_X1_missesFrom σ x1 ∧ u = σ) σ x1 := sorry
theorem pu_X1_mark (g : CS) (σ : XS) (x1 : Int32) (x2 : Int32) (x3 : Int32) (hp : pr_X1_mark g σ x1 x2 x3) : wp_X1_mark g (po_X1_mark g σ x1 x2 x3) σ x1 x2 x3 := sorry
theorem pu_X1_missesAt (g : CS) (σ : XS) (x1 : Int32) (hp : pr_X1_missesAt g σ x1) : wp_X1_missesAt g (fun r u => r = fn_X1_missesAt g σ x1 ∧ u = σ) σ x1 := sorry
theorem pu_X1_missed (g : CS) (σ : XS) (x1 : Int32) (x2 : Int32) (hp : pr_X1_missed g σ x1 x2) : wp_X1_missed g (fun r u => r = fn_X1_missed g σ x1 x2 ∧ u = σ) σ x1 x2 := sorry
theorem pu_X1_reviewPlaces (g : CS) (σ : XS) (x1 : Int32) (x2 : Int32) (x3 : Int32) (hp : pr_X1_reviewPlaces g σ x1 x2 x3) : wp_X1_reviewPlaces g (fun r u => r = fn_X1_reviewPlaces g σ x1 x2 x3 ∧ u = σ) σ x1 x2 x3 := sorry
theorem pu_X1_review (g : CS) (σ : XS) (x1 : Int32) (x2 : Int32) (x3 : Int32) (hp : pr_X1_review g σ x1 x2 x3) : wp_X1_review g (fun r u => r = fn_X1_review g σ x1 x2 x3 ∧ u = σ) σ x1 x2 x3 := sorry
theorem pu_X1_all (g : CS) (σ : XS) (x1 : Int32) (hp : pr_X1_all g σ x1) : wp_X1_all g (fun r u => r = fn_X1_all g σ x1 ∧ u = σ) σ x1 := sorry
theorem pu_X1_total (g : CS) (σ : XS) (x1 : Int32) (hp : pr_X1_total g σ x1) : wp_X1_total g (fun r u => r = fn_X1_total g σ x1 ∧ u = σ) σ x1 := sorry
theorem pu_X2_noKind (g : CS) (σ : MS) (x1 : Int32) : wp_X2_noKind g (fun r u => r = fn_X2_noKind σ x1 ∧ u = σ) σ x1 := sorry
theorem pu_X2_noPlace (g : CS) (σ : MS) (x1 : Int32) : wp_X2_noPlace g (fun r u => r = fn_X2_noPlace σ x1 ∧ u = σ) σ x1 := sorry
theorem pu_X2_noSeat (g : CS) (σ : MS) (x1 : Int32) : wp_X2_noSeat g (fun r u => r = fn_X2_noSeat σ x1 ∧ u = σ) σ x1 := sorry
theorem pu_X2_holds (g : CS) (σ : MS) (x1 : Int32) (x2 : Int32) (x3 : Int32) (hp : pr_X2_holds g σ x1 x2 x3) : wp_X2_holds g (fun r u => r = fn_X2_holds σ x1 x2 x3 ∧ u = σ) σ x1 x2 x3 := sorry
theorem pu_X2_tell (g : CS) (σ : MS) (x1 : Int32) (hp : pr_X2_tell g σ x1) : wp_X2_tell g (po_X2_tell g σ x1) σ x1 := sorry
theorem pu_X2_pairOf (g : CS) (σ : MS) (x1 : Int32) (x2 : Int32) (hp : pr_X2_pairOf g σ x1 x2) : wp_X2_pairOf g (fun r u => r = fn_X2_pairOf σ x1 x2 ∧ u = σ) σ x1 x2 := sorry
theorem pu_X2_noVariant (g : CS) (σ : MS) (x1 : Int32) (x2 : Int32) (hp : pr_X2_noVariant g σ x1 x2) : wp_X2_noVariant g (po_X2_noVariant g σ x1 x2) σ x1 x2 := sorry
theorem pu_X2_kind (g : CS) (σ : MS) (x1 : Int32) (hp : pr_X2_kind g σ x1) : wp_X2_kind g (po_X2_kind g σ x1) σ x1 := sorry
theorem pu_X2_range (g : CS) (σ : MS) (x1 : Int32) (x2 : Int32) (x3 : Int32) (x4 : Int32) (hp : pr_X2_range g σ x1 x2 x3 x4) : wp_X2_range g (po_X2_range g σ x1 x2 x3 x4) σ x1 x2 x3 x4 := sorry
theorem pu_X2_rule (g : CS) (σ : MS) (x1 : Int32) (x2 : Int32) (x3 : Int32) (hp : pr_X2_rule g σ x1 x2 x3) : wp_X2_rule g (po_X2_rule g σ x1 x2 x3) σ x1 x2 x3 := sorry
theorem pu_X2_variants (g : CS) (σ : MS) (x1 : Int32) (hp : pr_X2_variants g σ x1) : wp_X2_variants g (po_X2_variants g σ x1) σ x1 := sorry
theorem pu_X2_variant (g : CS) (σ : MS) (x1 : Int32) (x2 : Int32) (x3 : Int32) (hp : pr_X2_variant g σ x1 x2 x3) : wp_X2_variant g (po_X2_variant g σ x1 x2 x3) σ x1 x2 x3 := sorry
theorem pu_X2_find (g : CS) (σ : MS) (x1 : Int32) (x2 : Int32) (x3 : Int32) (hp : pr_X2_find g σ x1 x2 x3) : wp_X2_find g (po_X2_find g σ x1 x2 x3) σ x1 x2 x3 := sorry
theorem pu_X2_slipAt (g : CS) (σ : MS) (x1 : Int32) (x2 : Int32) (x3 : Int32) (hp : pr_X2_slipAt g σ x1 x2 x3) : wp_X2_slipAt g (fun r u => r = fn_X2_slipAt g σ x1 x2 x3 ∧ u = σ) σ x1 x2 x3 := sorry
theorem pu_X2_rightAt (g : CS) (σ : MS) (x1 : Int32) (x2 : Int32) (hp : pr_X2_rightAt g σ x1 x2) : wp_X2_rightAt g (fun r u => r = fn_X2_rightAt g σ x1 x2 ∧ u = σ) σ x1 x2 := sorry
theorem pu_X2_slip (g : CS) (σ : MS) (x1 : Int32) (x2 : Int32) (x3 : Int32) (hp : pr_X2_slip g σ x1 x2 x3) : wp_X2_slip g (po_X2_slip g σ x1 x2 x3) σ x1 x2 x3 := sorry
theorem pu_X2_tellsOf (g : CS) (σ : MS) (x1 : Int32) (x2 : Int32) (x3 : Int32) (hp : pr_X2_tellsOf g σ x1 x2 x3) : wp_X2_tellsOf g (fun r u => r = fn_X2_tellsOf g σ x1 x2 x3 ∧ u = σ) σ x1 x2 x3 := sorry
theorem pu_X2_tells (g : CS) (σ : MS) (x1 : Int32) (x2 : Int32) (x3 : Int32) (hp : pr_X2_tells g σ x1 x2 x3) : wp_X2_tells g (po_X2_tells g σ x1 x2 x3) σ x1 x2 x3 := sorry
theorem pu_X2_plan (g : CS) (σ : MS) (x1 : Int32) (x2 : Int32) (hp : pr_X2_plan g σ x1 x2) : wp_X2_plan g (po_X2_plan g σ x1 x2) σ x1 x2 := sorry
theorem pu_X2_clear (g : CS) (σ : MS) (hp : pr_X2_clear g σ) : wp_X2_clear g (po_X2_clear g σ) σ := sorry
theorem pu_X2_placed (g : CS) (σ : MS) (x1 : Int32) (hp : pr_X2_placed g σ x1) : wp_X2_placed g (po_X2_placed g σ x1) σ x1 := sorry
theorem pu_X2_lines (g : CS) (σ : MS) (x1 : Int32) (hp : pr_X2_lines g σ x1) : wp_X2_lines g (po_X2_lines g σ x1) σ x1 := sorry
theorem pu_X2_where (g : CS) (σ : MS) (x1 : Int32) (hp : pr_X2_where g σ x1) : wp_X2_where g (fun r u => r = fn_X2_where g σ x1 ∧ u = σ) σ x1 := sorry
theorem pu_X2_pages (g : CS) (σ : MS) (hp : pr_X2_pages g σ) : wp_X2_pages g (po_X2_pages g σ) σ := sorry
theorem pu_X2_page (g : CS) (σ : MS) (x1 : Int32) (x2 : Int32) (hp : pr_X2_page g σ x1 x2) : wp_X2_page g (po_X2_page g σ x1 x2) σ x1 x2 := sorry
theorem pu_X2_noSheet (g : CS) (σ : MS) (hp : pr_X2_noSheet g σ) : wp_X2_noSheet g (po_X2_noSheet g σ) σ := sorry
theorem pu_X2_ahead (g : CS) (σ : MS) (x1 : Int32) (x2 : Int32) (hp : pr_X2_ahead g σ x1 x2) : wp_X2_ahead g (fun r u => r = fn_X2_ahead g σ x1 x2 ∧ u = σ) σ x1 x2 := sorry
theorem pu_X2_variantAt (g : CS) (σ : MS) (x1 : Int32) (x2 : Int32) (hp : pr_X2_variantAt g σ x1 x2) : wp_X2_variantAt g (po_X2_variantAt g σ x1 x2) σ x1 x2 := sorry
theorem pu_X2_sheet (g : CS) (σ : MS) (x1 : Int32) (x2 : Int32) (hp : pr_X2_sheet g σ x1 x2) : wp_X2_sheet g (po_X2_sheet g σ x1 x2) σ x1 x2 := sorry
theorem pu_X2_answerAt (g : CS) (σ : MS) (x1 : Int32) (x2 : Int32) (hp : pr_X2_answerAt g σ x1 x2) : wp_X2_answerAt g (po_X2_answerAt g σ x1 x2) σ x1 x2 := sorry
theorem pu_X2_answer (g : CS) (σ : MS) (x1 : Int32) (x2 : Int32) (hp : pr_X2_answer g σ x1 x2) : wp_X2_answer g (po_X2_answer g σ x1 x2) σ x1 x2 := sorry
theorem pu_X2_code (g : CS) (σ : MS) (x1 : Int32) (hp : pr_X2_code g σ x1) : wp_X2_code g (po_X2_code g σ x1) σ x1 := sorry
theorem pu_X2_shared (g : CS) (σ : MS) (x1 : Int32) (x2 : Int32) (hp : pr_X2_shared g σ x1 x2) : wp_X2_shared g (po_X2_shared g σ x1 x2) σ x1 x2 := sorry
theorem pu_X2_isApart (g : CS) (σ : MS) (x1 : Int32) (x2 : Int32) (hp : pr_X2_isApart g σ x1 x2) : wp_X2_isApart g (po_X2_isApart g σ x1 x2) σ x1 x2 := sorry
theorem pu_X2_apart (g : CS) (σ : MS) (x1 : Int32) (hp : pr_X2_apart g σ x1) : wp_X2_apart g (po_X2_apart g σ x1) σ x1 := sorry
theorem pu_X2_seats (g : CS) (σ : MS) (x1 : Int32) (x2 : Int32) (hp : pr_X2_seats g σ x1 x2) : wp_X2_seats g (po_X2_seats g σ x1 x2) σ x1 x2 := sorry
theorem pu_X2_isNear (g : CS) (σ : MS) (x1 : Int32) (x2 : Int32) (x3 : Int32) (hp : pr_X2_isNear g σ x1 x2 x3) : wp_X2_isNear g (fun r u => r = fn_X2_isNear g σ x1 x2 x3 ∧ u = σ) σ x1 x2 x3 := sorry
theorem pu_X2_sit (g : CS) (σ : MS) (hp : pr_X2_sit g σ) : wp_X2_sit g (po_X2_sit g σ) σ := sorry
theorem pu_X2_base (g : CS) (σ : MS) (x1 : Int32) (hp : pr_X2_base g σ x1) : wp_X2_base g (po_X2_base g σ x1) σ x1 := sorry
theorem pu_X2_sheetOf (g : CS) (σ : MS) (x1 : Int32) (hp : pr_X2_sheetOf g σ x1) : wp_X2_sheetOf g (po_X2_sheetOf g σ x1) σ x1 := sorry
theorem pu_X2_seat (g : CS) (σ : MS) (x1 : Int32) (hp : pr_X2_seat g σ x1) : wp_X2_seat g (po_X2_seat g σ x1) σ x1 := sorry
theorem pu_X2_unlike (g : CS) (σ : MS) (hp : pr_X2_unlike g σ) : wp_X2_unlike g (po_X2_unlike g σ) σ := sorry
theorem pu_X2_mark (g : CS) (σ : MS) (x1 : Int32) (x2 : Int32) (x3 : Int32) (hp : pr_X2_mark g σ x1 x2 x3) : wp_X2_mark g (po_X2_mark g σ x1 x2 x3) σ x1 x2 x3 := sorry
theorem pu_X2_missedOf (g : CS) (σ : MS) (x1 : Int32) (x2 : Int32) (hp : pr_X2_missedOf g σ x1 x2) : wp_X2_missedOf g (fun r u => r = fn_X2_missedOf g σ x1 x2 ∧ u = σ) σ x1 x2 := sorry
theorem pu_X2_missed (g : CS) (σ : MS) (x1 : Int32) (x2 : Int32) (hp : pr_X2_missed g σ x1 x2) : wp_X2_missed g (po_X2_missed g σ x1 x2) σ x1 x2 := sorry
theorem pu_X2_review (g : CS) (σ : MS) (x1 : Int32) (x2 : Int32) (x3 : Int32) (hp : pr_X2_review g σ x1 x2 x3) : wp_X2_review g (po_X2_review g σ x1 x2 x3) σ x1 x2 x3 := sorry
theorem pu_X2_all (g : CS) (σ : MS) (x1 : Int32) (hp : pr_X2_all g σ x1) : wp_X2_all g (po_X2_all g σ x1) σ x1 := sorry
theorem pu_X2_total (g : CS) (σ : MS) (x1 : Int32) (hp : pr_X2_total g σ x1) : wp_X2_total g (po_X2_total g σ x1) σ x1 := sorry
