abbrev KS : Type := Int32 × (Nat → Int32) × (Nat → Int32) × (Nat → Int32) × (Nat → Int32) × Int32 × Int32
abbrev ks_op (s : KS) : Int32 := s.1
abbrev ks_le (s : KS) : (Nat → Int32) := s.2.1
abbrev ks_mo (s : KS) : (Nat → Int32) := s.2.2.1
abbrev ks_ru (s : KS) : (Nat → Int32) := s.2.2.2.1
abbrev ks_be (s : KS) : (Nat → Int32) := s.2.2.2.2.1
abbrev ks_co (s : KS) : Int32 := s.2.2.2.2.2.1
abbrev ks_pl (s : KS) : Int32 := s.2.2.2.2.2.2
abbrev ks_s_op (s : KS) (v : Int32) : KS := (v, s.2.1, s.2.2.1, s.2.2.2.1, s.2.2.2.2.1, s.2.2.2.2.2.1, s.2.2.2.2.2.2)
abbrev ks_s_le (s : KS) (v : (Nat → Int32)) : KS := (s.1, v, s.2.2.1, s.2.2.2.1, s.2.2.2.2.1, s.2.2.2.2.2.1, s.2.2.2.2.2.2)
abbrev ks_s_mo (s : KS) (v : (Nat → Int32)) : KS := (s.1, s.2.1, v, s.2.2.2.1, s.2.2.2.2.1, s.2.2.2.2.2.1, s.2.2.2.2.2.2)
abbrev ks_s_ru (s : KS) (v : (Nat → Int32)) : KS := (s.1, s.2.1, s.2.2.1, v, s.2.2.2.2.1, s.2.2.2.2.2.1, s.2.2.2.2.2.2)
abbrev ks_s_be (s : KS) (v : (Nat → Int32)) : KS := (s.1, s.2.1, s.2.2.1, s.2.2.2.1, v, s.2.2.2.2.2.1, s.2.2.2.2.2.2)
abbrev ks_s_co (s : KS) (v : Int32) : KS := (s.1, s.2.1, s.2.2.1, s.2.2.2.1, s.2.2.2.2.1, v, s.2.2.2.2.2.2)
abbrev ks_s_pl (s : KS) (v : Int32) : KS := (s.1, s.2.1, s.2.2.1, s.2.2.2.1, s.2.2.2.2.1, s.2.2.2.2.2.1, v)
abbrev XS : Type := (Nat → KS) × Int32 × (Nat → Int32) × (Nat → Int32) × Int32 × Int32 × Int32 × Int32 × Int32 × (Nat → Int32) × Int32 × Int32
abbrev xs_ki (s : XS) : (Nat → KS) := s.1
abbrev xs_kc (s : XS) : Int32 := s.2.1
abbrev xs_pk (s : XS) : (Nat → Int32) := s.2.2.1
abbrev xs_tu (s : XS) : (Nat → Int32) := s.2.2.2.1
abbrev xs_pc (s : XS) : Int32 := s.2.2.2.2.1
abbrev xs_li (s : XS) : Int32 := s.2.2.2.2.2.1
abbrev xs_rc (s : XS) : Int32 := s.2.2.2.2.2.2.1
abbrev xs_cc (s : XS) : Int32 := s.2.2.2.2.2.2.2.1
abbrev xs_bn (s : XS) : Int32 := s.2.2.2.2.2.2.2.2.1
abbrev xs_mi (s : XS) : (Nat → Int32) := s.2.2.2.2.2.2.2.2.2.1
abbrev xs_rm (s : XS) : Int32 := s.2.2.2.2.2.2.2.2.2.2.1
abbrev xs_wm (s : XS) : Int32 := s.2.2.2.2.2.2.2.2.2.2.2
abbrev xs_s_ki (s : XS) (v : (Nat → KS)) : XS := (v, s.2.1, s.2.2.1, s.2.2.2.1, s.2.2.2.2.1, s.2.2.2.2.2.1, s.2.2.2.2.2.2.1, s.2.2.2.2.2.2.2.1, s.2.2.2.2.2.2.2.2.1, s.2.2.2.2.2.2.2.2.2.1, s.2.2.2.2.2.2.2.2.2.2.1, s.2.2.2.2.2.2.2.2.2.2.2)
abbrev xs_s_kc (s : XS) (v : Int32) : XS := (s.1, v, s.2.2.1, s.2.2.2.1, s.2.2.2.2.1, s.2.2.2.2.2.1, s.2.2.2.2.2.2.1, s.2.2.2.2.2.2.2.1, s.2.2.2.2.2.2.2.2.1, s.2.2.2.2.2.2.2.2.2.1, s.2.2.2.2.2.2.2.2.2.2.1, s.2.2.2.2.2.2.2.2.2.2.2)
abbrev xs_s_pk (s : XS) (v : (Nat → Int32)) : XS := (s.1, s.2.1, v, s.2.2.2.1, s.2.2.2.2.1, s.2.2.2.2.2.1, s.2.2.2.2.2.2.1, s.2.2.2.2.2.2.2.1, s.2.2.2.2.2.2.2.2.1, s.2.2.2.2.2.2.2.2.2.1, s.2.2.2.2.2.2.2.2.2.2.1, s.2.2.2.2.2.2.2.2.2.2.2)
abbrev xs_s_tu (s : XS) (v : (Nat → Int32)) : XS := (s.1, s.2.1, s.2.2.1, v, s.2.2.2.2.1, s.2.2.2.2.2.1, s.2.2.2.2.2.2.1, s.2.2.2.2.2.2.2.1, s.2.2.2.2.2.2.2.2.1, s.2.2.2.2.2.2.2.2.2.1, s.2.2.2.2.2.2.2.2.2.2.1, s.2.2.2.2.2.2.2.2.2.2.2)
abbrev xs_s_pc (s : XS) (v : Int32) : XS := (s.1, s.2.1, s.2.2.1, s.2.2.2.1, v, s.2.2.2.2.2.1, s.2.2.2.2.2.2.1, s.2.2.2.2.2.2.2.1, s.2.2.2.2.2.2.2.2.1, s.2.2.2.2.2.2.2.2.2.1, s.2.2.2.2.2.2.2.2.2.2.1, s.2.2.2.2.2.2.2.2.2.2.2)
abbrev xs_s_li (s : XS) (v : Int32) : XS := (s.1, s.2.1, s.2.2.1, s.2.2.2.1, s.2.2.2.2.1, v, s.2.2.2.2.2.2.1, s.2.2.2.2.2.2.2.1, s.2.2.2.2.2.2.2.2.1, s.2.2.2.2.2.2.2.2.2.1, s.2.2.2.2.2.2.2.2.2.2.1, s.2.2.2.2.2.2.2.2.2.2.2)
abbrev xs_s_rc (s : XS) (v : Int32) : XS := (s.1, s.2.1, s.2.2.1, s.2.2.2.1, s.2.2.2.2.1, s.2.2.2.2.2.1, v, s.2.2.2.2.2.2.2.1, s.2.2.2.2.2.2.2.2.1, s.2.2.2.2.2.2.2.2.2.1, s.2.2.2.2.2.2.2.2.2.2.1, s.2.2.2.2.2.2.2.2.2.2.2)
abbrev xs_s_cc (s : XS) (v : Int32) : XS := (s.1, s.2.1, s.2.2.1, s.2.2.2.1, s.2.2.2.2.1, s.2.2.2.2.2.1, s.2.2.2.2.2.2.1, v, s.2.2.2.2.2.2.2.2.1, s.2.2.2.2.2.2.2.2.2.1, s.2.2.2.2.2.2.2.2.2.2.1, s.2.2.2.2.2.2.2.2.2.2.2)
abbrev xs_s_bn (s : XS) (v : Int32) : XS := (s.1, s.2.1, s.2.2.1, s.2.2.2.1, s.2.2.2.2.1, s.2.2.2.2.2.1, s.2.2.2.2.2.2.1, s.2.2.2.2.2.2.2.1, v, s.2.2.2.2.2.2.2.2.2.1, s.2.2.2.2.2.2.2.2.2.2.1, s.2.2.2.2.2.2.2.2.2.2.2)
abbrev xs_s_mi (s : XS) (v : (Nat → Int32)) : XS := (s.1, s.2.1, s.2.2.1, s.2.2.2.1, s.2.2.2.2.1, s.2.2.2.2.2.1, s.2.2.2.2.2.2.1, s.2.2.2.2.2.2.2.1, s.2.2.2.2.2.2.2.2.1, v, s.2.2.2.2.2.2.2.2.2.2.1, s.2.2.2.2.2.2.2.2.2.2.2)
abbrev xs_s_rm (s : XS) (v : Int32) : XS := (s.1, s.2.1, s.2.2.1, s.2.2.2.1, s.2.2.2.2.1, s.2.2.2.2.2.1, s.2.2.2.2.2.2.1, s.2.2.2.2.2.2.2.1, s.2.2.2.2.2.2.2.2.1, s.2.2.2.2.2.2.2.2.2.1, v, s.2.2.2.2.2.2.2.2.2.2.2)
abbrev xs_s_wm (s : XS) (v : Int32) : XS := (s.1, s.2.1, s.2.2.1, s.2.2.2.1, s.2.2.2.2.1, s.2.2.2.2.2.1, s.2.2.2.2.2.2.1, s.2.2.2.2.2.2.2.1, s.2.2.2.2.2.2.2.2.1, s.2.2.2.2.2.2.2.2.2.1, s.2.2.2.2.2.2.2.2.2.2.1, v)
abbrev MS : Type := Int32 × Int32 × (Nat → Int32) × (Nat → Int32) × (Nat → Int32) × (Nat → Int32) × (Nat → Int32) × (Nat → Int32) × (Nat → Int32) × (Nat → Int32) × (Nat → Int32) × Int32 × (Nat → Int32) × Int32 × Int32 × Int32 × Int32 × (Nat → Int32) × (Nat → Int32) × Int32 × Int32
abbrev ms_th (s : MS) : Int32 := s.1
abbrev ms_ki (s : MS) : Int32 := s.2.1
abbrev ms_op (s : MS) : (Nat → Int32) := s.2.2.1
abbrev ms_fr (s : MS) : (Nat → Int32) := s.2.2.2.1
abbrev ms_to (s : MS) : (Nat → Int32) := s.2.2.2.2.1
abbrev ms_la (s : MS) : (Nat → Int32) := s.2.2.2.2.2.1
abbrev ms_ta (s : MS) : (Nat → Int32) := s.2.2.2.2.2.2.1
abbrev ms_be (s : MS) : (Nat → Int32) := s.2.2.2.2.2.2.2.1
abbrev ms_is (s : MS) : (Nat → Int32) := s.2.2.2.2.2.2.2.2.1
abbrev ms_ma (s : MS) : (Nat → Int32) := s.2.2.2.2.2.2.2.2.2.1
abbrev ms_pa (s : MS) : (Nat → Int32) := s.2.2.2.2.2.2.2.2.2.2.1
abbrev ms_pc (s : MS) : Int32 := s.2.2.2.2.2.2.2.2.2.2.2.1
abbrev ms_pn (s : MS) : (Nat → Int32) := s.2.2.2.2.2.2.2.2.2.2.2.2.1
abbrev ms_li (s : MS) : Int32 := s.2.2.2.2.2.2.2.2.2.2.2.2.2.1
abbrev ms_ro (s : MS) : Int32 := s.2.2.2.2.2.2.2.2.2.2.2.2.2.2.1
abbrev ms_co (s : MS) : Int32 := s.2.2.2.2.2.2.2.2.2.2.2.2.2.2.2.1
abbrev ms_ba (s : MS) : Int32 := s.2.2.2.2.2.2.2.2.2.2.2.2.2.2.2.2.1
abbrev ms_nu (s : MS) : (Nat → Int32) := s.2.2.2.2.2.2.2.2.2.2.2.2.2.2.2.2.2.1
abbrev ms_mi (s : MS) : (Nat → Int32) := s.2.2.2.2.2.2.2.2.2.2.2.2.2.2.2.2.2.2.1
abbrev ms_ri (s : MS) : Int32 := s.2.2.2.2.2.2.2.2.2.2.2.2.2.2.2.2.2.2.2.1
abbrev ms_wr (s : MS) : Int32 := s.2.2.2.2.2.2.2.2.2.2.2.2.2.2.2.2.2.2.2.2
abbrev ms_s_th (s : MS) (v : Int32) : MS := (v, s.2.1, s.2.2.1, s.2.2.2.1, s.2.2.2.2.1, s.2.2.2.2.2.1, s.2.2.2.2.2.2.1, s.2.2.2.2.2.2.2.1, s.2.2.2.2.2.2.2.2.1, s.2.2.2.2.2.2.2.2.2.1, s.2.2.2.2.2.2.2.2.2.2.1, s.2.2.2.2.2.2.2.2.2.2.2.1, s.2.2.2.2.2.2.2.2.2.2.2.2.1, s.2.2.2.2.2.2.2.2.2.2.2.2.2.1, s.2.2.2.2.2.2.2.2.2.2.2.2.2.2.1, s.2.2.2.2.2.2.2.2.2.2.2.2.2.2.2.1, s.2.2.2.2.2.2.2.2.2.2.2.2.2.2.2.2.1, s.2.2.2.2.2.2.2.2.2.2.2.2.2.2.2.2.2.1, s.2.2.2.2.2.2.2.2.2.2.2.2.2.2.2.2.2.2.1, s.2.2.2.2.2.2.2.2.2.2.2.2.2.2.2.2.2.2.2.1, s.2.2.2.2.2.2.2.2.2.2.2.2.2.2.2.2.2.2.2.2)
abbrev ms_s_ki (s : MS) (v : Int32) : MS := (s.1, v, s.2.2.1, s.2.2.2.1, s.2.2.2.2.1, s.2.2.2.2.2.1, s.2.2.2.2.2.2.1, s.2.2.2.2.2.2.2.1, s.2.2.2.2.2.2.2.2.1, s.2.2.2.2.2.2.2.2.2.1, s.2.2.2.2.2.2.2.2.2.2.1, s.2.2.2.2.2.2.2.2.2.2.2.1, s.2.2.2.2.2.2.2.2.2.2.2.2.1, s.2.2.2.2.2.2.2.2.2.2.2.2.2.1, s.2.2.2.2.2.2.2.2.2.2.2.2.2.2.1, s.2.2.2.2.2.2.2.2.2.2.2.2.2.2.2.1, s.2.2.2.2.2.2.2.2.2.2.2.2.2.2.2.2.1, s.2.2.2.2.2.2.2.2.2.2.2.2.2.2.2.2.2.1, s.2.2.2.2.2.2.2.2.2.2.2.2.2.2.2.2.2.2.1, s.2.2.2.2.2.2.2.2.2.2.2.2.2.2.2.2.2.2.2.1, s.2.2.2.2.2.2.2.2.2.2.2.2.2.2.2.2.2.2.2.2)
abbrev ms_s_op (s : MS) (v : (Nat → Int32)) : MS := (s.1, s.2.1, v, s.2.2.2.1, s.2.2.2.2.1, s.2.2.2.2.2.1, s.2.2.2.2.2.2.1, s.2.2.2.2.2.2.2.1, s.2.2.2.2.2.2.2.2.1, s.2.2.2.2.2.2.2.2.2.1, s.2.2.2.2.2.2.2.2.2.2.1, s.2.2.2.2.2.2.2.2.2.2.2.1, s.2.2.2.2.2.2.2.2.2.2.2.2.1, s.2.2.2.2.2.2.2.2.2.2.2.2.2.1, s.2.2.2.2.2.2.2.2.2.2.2.2.2.2.1, s.2.2.2.2.2.2.2.2.2.2.2.2.2.2.2.1, s.2.2.2.2.2.2.2.2.2.2.2.2.2.2.2.2.1, s.2.2.2.2.2.2.2.2.2.2.2.2.2.2.2.2.2.1, s.2.2.2.2.2.2.2.2.2.2.2.2.2.2.2.2.2.2.1, s.2.2.2.2.2.2.2.2.2.2.2.2.2.2.2.2.2.2.2.1, s.2.2.2.2.2.2.2.2.2.2.2.2.2.2.2.2.2.2.2.2)
abbrev ms_s_fr (s : MS) (v : (Nat → Int32)) : MS := (s.1, s.2.1, s.2.2.1, v, s.2.2.2.2.1, s.2.2.2.2.2.1, s.2.2.2.2.2.2.1, s.2.2.2.2.2.2.2.1, s.2.2.2.2.2.2.2.2.1, s.2.2.2.2.2.2.2.2.2.1, s.2.2.2.2.2.2.2.2.2.2.1, s.2.2.2.2.2.2.2.2.2.2.2.1, s.2.2.2.2.2.2.2.2.2.2.2.2.1, s.2.2.2.2.2.2.2.2.2.2.2.2.2.1, s.2.2.2.2.2.2.2.2.2.2.2.2.2.2.1, s.2.2.2.2.2.2.2.2.2.2.2.2.2.2.2.1, s.2.2.2.2.2.2.2.2.2.2.2.2.2.2.2.2.1, s.2.2.2.2.2.2.2.2.2.2.2.2.2.2.2.2.2.1, s.2.2.2.2.2.2.2.2.2.2.2.2.2.2.2.2.2.2.1, s.2.2.2.2.2.2.2.2.2.2.2.2.2.2.2.2.2.2.2.1, s.2.2.2.2.2.2.2.2.2.2.2.2.2.2.2.2.2.2.2.2)
abbrev ms_s_to (s : MS) (v : (Nat → Int32)) : MS := (s.1, s.2.1, s.2.2.1, s.2.2.2.1, v, s.2.2.2.2.2.1, s.2.2.2.2.2.2.1, s.2.2.2.2.2.2.2.1, s.2.2.2.2.2.2.2.2.1, s.2.2.2.2.2.2.2.2.2.1, s.2.2.2.2.2.2.2.2.2.2.1, s.2.2.2.2.2.2.2.2.2.2.2.1, s.2.2.2.2.2.2.2.2.2.2.2.2.1, s.2.2.2.2.2.2.2.2.2.2.2.2.2.1, s.2.2.2.2.2.2.2.2.2.2.2.2.2.2.1, s.2.2.2.2.2.2.2.2.2.2.2.2.2.2.2.1, s.2.2.2.2.2.2.2.2.2.2.2.2.2.2.2.2.1, s.2.2.2.2.2.2.2.2.2.2.2.2.2.2.2.2.2.1, s.2.2.2.2.2.2.2.2.2.2.2.2.2.2.2.2.2.2.1, s.2.2.2.2.2.2.2.2.2.2.2.2.2.2.2.2.2.2.2.1, s.2.2.2.2.2.2.2.2.2.2.2.2.2.2.2.2.2.2.2.2)
abbrev ms_s_la (s : MS) (v : (Nat → Int32)) : MS := (s.1, s.2.1, s.2.2.1, s.2.2.2.1, s.2.2.2.2.1, v, s.2.2.2.2.2.2.1, s.2.2.2.2.2.2.2.1, s.2.2.2.2.2.2.2.2.1, s.2.2.2.2.2.2.2.2.2.1, s.2.2.2.2.2.2.2.2.2.2.1, s.2.2.2.2.2.2.2.2.2.2.2.1, s.2.2.2.2.2.2.2.2.2.2.2.2.1, s.2.2.2.2.2.2.2.2.2.2.2.2.2.1, s.2.2.2.2.2.2.2.2.2.2.2.2.2.2.1, s.2.2.2.2.2.2.2.2.2.2.2.2.2.2.2.1, s.2.2.2.2.2.2.2.2.2.2.2.2.2.2.2.2.1, s.2.2.2.2.2.2.2.2.2.2.2.2.2.2.2.2.2.1, s.2.2.2.2.2.2.2.2.2.2.2.2.2.2.2.2.2.2.1, s.2.2.2.2.2.2.2.2.2.2.2.2.2.2.2.2.2.2.2.1, s.2.2.2.2.2.2.2.2.2.2.2.2.2.2.2.2.2.2.2.2)
abbrev ms_s_ta (s : MS) (v : (Nat → Int32)) : MS := (s.1, s.2.1, s.2.2.1, s.2.2.2.1, s.2.2.2.2.1, s.2.2.2.2.2.1, v, s.2.2.2.2.2.2.2.1, s.2.2.2.2.2.2.2.2.1, s.2.2.2.2.2.2.2.2.2.1, s.2.2.2.2.2.2.2.2.2.2.1, s.2.2.2.2.2.2.2.2.2.2.2.1, s.2.2.2.2.2.2.2.2.2.2.2.2.1, s.2.2.2.2.2.2.2.2.2.2.2.2.2.1, s.2.2.2.2.2.2.2.2.2.2.2.2.2.2.1, s.2.2.2.2.2.2.2.2.2.2.2.2.2.2.2.1, s.2.2.2.2.2.2.2.2.2.2.2.2.2.2.2.2.1, s.2.2.2.2.2.2.2.2.2.2.2.2.2.2.2.2.2.1, s.2.2.2.2.2.2.2.2.2.2.2.2.2.2.2.2.2.2.1, s.2.2.2.2.2.2.2.2.2.2.2.2.2.2.2.2.2.2.2.1, s.2.2.2.2.2.2.2.2.2.2.2.2.2.2.2.2.2.2.2.2)
abbrev ms_s_be (s : MS) (v : (Nat → Int32)) : MS := (s.1, s.2.1, s.2.2.1, s.2.2.2.1, s.2.2.2.2.1, s.2.2.2.2.2.1, s.2.2.2.2.2.2.1, v, s.2.2.2.2.2.2.2.2.1, s.2.2.2.2.2.2.2.2.2.1, s.2.2.2.2.2.2.2.2.2.2.1, s.2.2.2.2.2.2.2.2.2.2.2.1, s.2.2.2.2.2.2.2.2.2.2.2.2.1, s.2.2.2.2.2.2.2.2.2.2.2.2.2.1, s.2.2.2.2.2.2.2.2.2.2.2.2.2.2.1, s.2.2.2.2.2.2.2.2.2.2.2.2.2.2.2.1, s.2.2.2.2.2.2.2.2.2.2.2.2.2.2.2.2.1, s.2.2.2.2.2.2.2.2.2.2.2.2.2.2.2.2.2.1, s.2.2.2.2.2.2.2.2.2.2.2.2.2.2.2.2.2.2.1, s.2.2.2.2.2.2.2.2.2.2.2.2.2.2.2.2.2.2.2.1, s.2.2.2.2.2.2.2.2.2.2.2.2.2.2.2.2.2.2.2.2)
abbrev ms_s_is (s : MS) (v : (Nat → Int32)) : MS := (s.1, s.2.1, s.2.2.1, s.2.2.2.1, s.2.2.2.2.1, s.2.2.2.2.2.1, s.2.2.2.2.2.2.1, s.2.2.2.2.2.2.2.1, v, s.2.2.2.2.2.2.2.2.2.1, s.2.2.2.2.2.2.2.2.2.2.1, s.2.2.2.2.2.2.2.2.2.2.2.1, s.2.2.2.2.2.2.2.2.2.2.2.2.1, s.2.2.2.2.2.2.2.2.2.2.2.2.2.1, s.2.2.2.2.2.2.2.2.2.2.2.2.2.2.1, s.2.2.2.2.2.2.2.2.2.2.2.2.2.2.2.1, s.2.2.2.2.2.2.2.2.2.2.2.2.2.2.2.2.1, s.2.2.2.2.2.2.2.2.2.2.2.2.2.2.2.2.2.1, s.2.2.2.2.2.2.2.2.2.2.2.2.2.2.2.2.2.2.1, s.2.2.2.2.2.2.2.2.2.2.2.2.2.2.2.2.2.2.2.1, s.2.2.2.2.2.2.2.2.2.2.2.2.2.2.2.2.2.2.2.2)
abbrev ms_s_ma (s : MS) (v : (Nat → Int32)) : MS := (s.1, s.2.1, s.2.2.1, s.2.2.2.1, s.2.2.2.2.1, s.2.2.2.2.2.1, s.2.2.2.2.2.2.1, s.2.2.2.2.2.2.2.1, s.2.2.2.2.2.2.2.2.1, v, s.2.2.2.2.2.2.2.2.2.2.1, s.2.2.2.2.2.2.2.2.2.2.2.1, s.2.2.2.2.2.2.2.2.2.2.2.2.1, s.2.2.2.2.2.2.2.2.2.2.2.2.2.1, s.2.2.2.2.2.2.2.2.2.2.2.2.2.2.1, s.2.2.2.2.2.2.2.2.2.2.2.2.2.2.2.1, s.2.2.2.2.2.2.2.2.2.2.2.2.2.2.2.2.1, s.2.2.2.2.2.2.2.2.2.2.2.2.2.2.2.2.2.1, s.2.2.2.2.2.2.2.2.2.2.2.2.2.2.2.2.2.2.1, s.2.2.2.2.2.2.2.2.2.2.2.2.2.2.2.2.2.2.2.1, s.2.2.2.2.2.2.2.2.2.2.2.2.2.2.2.2.2.2.2.2)
abbrev ms_s_pa (s : MS) (v : (Nat → Int32)) : MS := (s.1, s.2.1, s.2.2.1, s.2.2.2.1, s.2.2.2.2.1, s.2.2.2.2.2.1, s.2.2.2.2.2.2.1, s.2.2.2.2.2.2.2.1, s.2.2.2.2.2.2.2.2.1, s.2.2.2.2.2.2.2.2.2.1, v, s.2.2.2.2.2.2.2.2.2.2.2.1, s.2.2.2.2.2.2.2.2.2.2.2.2.1, s.2.2.2.2.2.2.2.2.2.2.2.2.2.1, s.2.2.2.2.2.2.2.2.2.2.2.2.2.2.1, s.2.2.2.2.2.2.2.2.2.2.2.2.2.2.2.1, s.2.2.2.2.2.2.2.2.2.2.2.2.2.2.2.2.1, s.2.2.2.2.2.2.2.2.2.2.2.2.2.2.2.2.2.1, s.2.2.2.2.2.2.2.2.2.2.2.2.2.2.2.2.2.2.1, s.2.2.2.2.2.2.2.2.2.2.2.2.2.2.2.2.2.2.2.1, s.2.2.2.2.2.2.2.2.2.2.2.2.2.2.2.2.2.2.2.2)
abbrev ms_s_pc (s : MS) (v : Int32) : MS := (s.1, s.2.1, s.2.2.1, s.2.2.2.1, s.2.2.2.2.1, s.2.2.2.2.2.1, s.2.2.2.2.2.2.1, s.2.2.2.2.2.2.2.1, s.2.2.2.2.2.2.2.2.1, s.2.2.2.2.2.2.2.2.2.1, s.2.2.2.2.2.2.2.2.2.2.1, v, s.2.2.2.2.2.2.2.2.2.2.2.2.1, s.2.2.2.2.2.2.2.2.2.2.2.2.2.1, s.2.2.2.2.2.2.2.2.2.2.2.2.2.2.1, s.2.2.2.2.2.2.2.2.2.2.2.2.2.2.2.1, s.2.2.2.2.2.2.2.2.2.2.2.2.2.2.2.2.1, s.2.2.2.2.2.2.2.2.2.2.2.2.2.2.2.2.2.1, s.2.2.2.2.2.2.2.2.2.2.2.2.2.2.2.2.2.2.1, s.2.2.2.2.2.2.2.2.2.2.2.2.2.2.2.2.2.2.2.1, s.2.2.2.2.2.2.2.2.2.2.2.2.2.2.2.2.2.2.2.2)
abbrev ms_s_pn (s : MS) (v : (Nat → Int32)) : MS := (s.1, s.2.1, s.2.2.1, s.2.2.2.1, s.2.2.2.2.1, s.2.2.2.2.2.1, s.2.2.2.2.2.2.1, s.2.2.2.2.2.2.2.1, s.2.2.2.2.2.2.2.2.1, s.2.2.2.2.2.2.2.2.2.1, s.2.2.2.2.2.2.2.2.2.2.1, s.2.2.2.2.2.2.2.2.2.2.2.1, v, s.2.2.2.2.2.2.2.2.2.2.2.2.2.1, s.2.2.2.2.2.2.2.2.2.2.2.2.2.2.1, s.2.2.2.2.2.2.2.2.2.2.2.2.2.2.2.1, s.2.2.2.2.2.2.2.2.2.2.2.2.2.2.2.2.1, s.2.2.2.2.2.2.2.2.2.2.2.2.2.2.2.2.2.1, s.2.2.2.2.2.2.2.2.2.2.2.2.2.2.2.2.2.2.1, s.2.2.2.2.2.2.2.2.2.2.2.2.2.2.2.2.2.2.2.1, s.2.2.2.2.2.2.2.2.2.2.2.2.2.2.2.2.2.2.2.2)
abbrev ms_s_li (s : MS) (v : Int32) : MS := (s.1, s.2.1, s.2.2.1, s.2.2.2.1, s.2.2.2.2.1, s.2.2.2.2.2.1, s.2.2.2.2.2.2.1, s.2.2.2.2.2.2.2.1, s.2.2.2.2.2.2.2.2.1, s.2.2.2.2.2.2.2.2.2.1, s.2.2.2.2.2.2.2.2.2.2.1, s.2.2.2.2.2.2.2.2.2.2.2.1, s.2.2.2.2.2.2.2.2.2.2.2.2.1, v, s.2.2.2.2.2.2.2.2.2.2.2.2.2.2.1, s.2.2.2.2.2.2.2.2.2.2.2.2.2.2.2.1, s.2.2.2.2.2.2.2.2.2.2.2.2.2.2.2.2.1, s.2.2.2.2.2.2.2.2.2.2.2.2.2.2.2.2.2.1, s.2.2.2.2.2.2.2.2.2.2.2.2.2.2.2.2.2.2.1, s.2.2.2.2.2.2.2.2.2.2.2.2.2.2.2.2.2.2.2.1, s.2.2.2.2.2.2.2.2.2.2.2.2.2.2.2.2.2.2.2.2)
abbrev ms_s_ro (s : MS) (v : Int32) : MS := (s.1, s.2.1, s.2.2.1, s.2.2.2.1, s.2.2.2.2.1, s.2.2.2.2.2.1, s.2.2.2.2.2.2.1, s.2.2.2.2.2.2.2.1, s.2.2.2.2.2.2.2.2.1, s.2.2.2.2.2.2.2.2.2.1, s.2.2.2.2.2.2.2.2.2.2.1, s.2.2.2.2.2.2.2.2.2.2.2.1, s.2.2.2.2.2.2.2.2.2.2.2.2.1, s.2.2.2.2.2.2.2.2.2.2.2.2.2.1, v, s.2.2.2.2.2.2.2.2.2.2.2.2.2.2.2.1, s.2.2.2.2.2.2.2.2.2.2.2.2.2.2.2.2.1, s.2.2.2.2.2.2.2.2.2.2.2.2.2.2.2.2.2.1, s.2.2.2.2.2.2.2.2.2.2.2.2.2.2.2.2.2.2.1, s.2.2.2.2.2.2.2.2.2.2.2.2.2.2.2.2.2.2.2.1, s.2.2.2.2.2.2.2.2.2.2.2.2.2.2.2.2.2.2.2.2)
abbrev ms_s_co (s : MS) (v : Int32) : MS := (s.1, s.2.1, s.2.2.1, s.2.2.2.1, s.2.2.2.2.1, s.2.2.2.2.2.1, s.2.2.2.2.2.2.1, s.2.2.2.2.2.2.2.1, s.2.2.2.2.2.2.2.2.1, s.2.2.2.2.2.2.2.2.2.1, s.2.2.2.2.2.2.2.2.2.2.1, s.2.2.2.2.2.2.2.2.2.2.2.1, s.2.2.2.2.2.2.2.2.2.2.2.2.1, s.2.2.2.2.2.2.2.2.2.2.2.2.2.1, s.2.2.2.2.2.2.2.2.2.2.2.2.2.2.1, v, s.2.2.2.2.2.2.2.2.2.2.2.2.2.2.2.2.1, s.2.2.2.2.2.2.2.2.2.2.2.2.2.2.2.2.2.1, s.2.2.2.2.2.2.2.2.2.2.2.2.2.2.2.2.2.2.1, s.2.2.2.2.2.2.2.2.2.2.2.2.2.2.2.2.2.2.2.1, s.2.2.2.2.2.2.2.2.2.2.2.2.2.2.2.2.2.2.2.2)
abbrev ms_s_ba (s : MS) (v : Int32) : MS := (s.1, s.2.1, s.2.2.1, s.2.2.2.1, s.2.2.2.2.1, s.2.2.2.2.2.1, s.2.2.2.2.2.2.1, s.2.2.2.2.2.2.2.1, s.2.2.2.2.2.2.2.2.1, s.2.2.2.2.2.2.2.2.2.1, s.2.2.2.2.2.2.2.2.2.2.1, s.2.2.2.2.2.2.2.2.2.2.2.1, s.2.2.2.2.2.2.2.2.2.2.2.2.1, s.2.2.2.2.2.2.2.2.2.2.2.2.2.1, s.2.2.2.2.2.2.2.2.2.2.2.2.2.2.1, s.2.2.2.2.2.2.2.2.2.2.2.2.2.2.2.1, v, s.2.2.2.2.2.2.2.2.2.2.2.2.2.2.2.2.2.1, s.2.2.2.2.2.2.2.2.2.2.2.2.2.2.2.2.2.2.1, s.2.2.2.2.2.2.2.2.2.2.2.2.2.2.2.2.2.2.2.1, s.2.2.2.2.2.2.2.2.2.2.2.2.2.2.2.2.2.2.2.2)
abbrev ms_s_nu (s : MS) (v : (Nat → Int32)) : MS := (s.1, s.2.1, s.2.2.1, s.2.2.2.1, s.2.2.2.2.1, s.2.2.2.2.2.1, s.2.2.2.2.2.2.1, s.2.2.2.2.2.2.2.1, s.2.2.2.2.2.2.2.2.1, s.2.2.2.2.2.2.2.2.2.1, s.2.2.2.2.2.2.2.2.2.2.1, s.2.2.2.2.2.2.2.2.2.2.2.1, s.2.2.2.2.2.2.2.2.2.2.2.2.1, s.2.2.2.2.2.2.2.2.2.2.2.2.2.1, s.2.2.2.2.2.2.2.2.2.2.2.2.2.2.1, s.2.2.2.2.2.2.2.2.2.2.2.2.2.2.2.1, s.2.2.2.2.2.2.2.2.2.2.2.2.2.2.2.2.1, v, s.2.2.2.2.2.2.2.2.2.2.2.2.2.2.2.2.2.2.1, s.2.2.2.2.2.2.2.2.2.2.2.2.2.2.2.2.2.2.2.1, s.2.2.2.2.2.2.2.2.2.2.2.2.2.2.2.2.2.2.2.2)
abbrev ms_s_mi (s : MS) (v : (Nat → Int32)) : MS := (s.1, s.2.1, s.2.2.1, s.2.2.2.1, s.2.2.2.2.1, s.2.2.2.2.2.1, s.2.2.2.2.2.2.1, s.2.2.2.2.2.2.2.1, s.2.2.2.2.2.2.2.2.1, s.2.2.2.2.2.2.2.2.2.1, s.2.2.2.2.2.2.2.2.2.2.1, s.2.2.2.2.2.2.2.2.2.2.2.1, s.2.2.2.2.2.2.2.2.2.2.2.2.1, s.2.2.2.2.2.2.2.2.2.2.2.2.2.1, s.2.2.2.2.2.2.2.2.2.2.2.2.2.2.1, s.2.2.2.2.2.2.2.2.2.2.2.2.2.2.2.1, s.2.2.2.2.2.2.2.2.2.2.2.2.2.2.2.2.1, s.2.2.2.2.2.2.2.2.2.2.2.2.2.2.2.2.2.1, v, s.2.2.2.2.2.2.2.2.2.2.2.2.2.2.2.2.2.2.2.1, s.2.2.2.2.2.2.2.2.2.2.2.2.2.2.2.2.2.2.2.2)
abbrev ms_s_ri (s : MS) (v : Int32) : MS := (s.1, s.2.1, s.2.2.1, s.2.2.2.1, s.2.2.2.2.1, s.2.2.2.2.2.1, s.2.2.2.2.2.2.1, s.2.2.2.2.2.2.2.1, s.2.2.2.2.2.2.2.2.1, s.2.2.2.2.2.2.2.2.2.1, s.2.2.2.2.2.2.2.2.2.2.1, s.2.2.2.2.2.2.2.2.2.2.2.1, s.2.2.2.2.2.2.2.2.2.2.2.2.1, s.2.2.2.2.2.2.2.2.2.2.2.2.2.1, s.2.2.2.2.2.2.2.2.2.2.2.2.2.2.1, s.2.2.2.2.2.2.2.2.2.2.2.2.2.2.2.1, s.2.2.2.2.2.2.2.2.2.2.2.2.2.2.2.2.1, s.2.2.2.2.2.2.2.2.2.2.2.2.2.2.2.2.2.1, s.2.2.2.2.2.2.2.2.2.2.2.2.2.2.2.2.2.2.1, v, s.2.2.2.2.2.2.2.2.2.2.2.2.2.2.2.2.2.2.2.2)
abbrev ms_s_wr (s : MS) (v : Int32) : MS := (s.1, s.2.1, s.2.2.1, s.2.2.2.1, s.2.2.2.2.1, s.2.2.2.2.2.1, s.2.2.2.2.2.2.1, s.2.2.2.2.2.2.2.1, s.2.2.2.2.2.2.2.2.1, s.2.2.2.2.2.2.2.2.2.1, s.2.2.2.2.2.2.2.2.2.2.1, s.2.2.2.2.2.2.2.2.2.2.2.1, s.2.2.2.2.2.2.2.2.2.2.2.2.1, s.2.2.2.2.2.2.2.2.2.2.2.2.2.1, s.2.2.2.2.2.2.2.2.2.2.2.2.2.2.1, s.2.2.2.2.2.2.2.2.2.2.2.2.2.2.2.1, s.2.2.2.2.2.2.2.2.2.2.2.2.2.2.2.2.1, s.2.2.2.2.2.2.2.2.2.2.2.2.2.2.2.2.2.1, s.2.2.2.2.2.2.2.2.2.2.2.2.2.2.2.2.2.2.1, s.2.2.2.2.2.2.2.2.2.2.2.2.2.2.2.2.2.2.2.1, v)
abbrev xs_sk (s : XS) (j : Nat) (u : KS) : XS := xs_s_ki s (va_up (xs_ki s) j u)
def KW (cc : Nat → ClassId) (a : Nat → Nat) (s : KS) : va_W := [(a 0, .inr (0, [.int (ks_op s), .ref (a 1), .ref (a 2), .ref (a 3), .ref (a 4), .int (ks_co s), .int (ks_pl s)])), (a 1, .inl (cc 0, 3, .inl (ks_le s))), (a 2, .inl (cc 0, 3, .inl (ks_mo s))), (a 3, .inl (cc 0, 3, .inl (ks_ru s))), (a 4, .inl (cc 0, 100, .inl (ks_be s)))]
def ka (ad : Nat → Nat) (j : Nat) : Nat → Nat := fun i => ad (5 + 5 * j + i)
def XB (cc : Nat → ClassId) (ad : Nat → Nat) (s : XS) : va_W := [(ad 0, .inr (1, [.ref (ad 1), .int (xs_kc s), .ref (ad 2), .ref (ad 3), .int (xs_pc s), .int (xs_li s), .int (xs_rc s), .int (xs_cc s), .int (xs_bn s), .ref (ad 4), .int (xs_rm s), .int (xs_wm s)])), (ad 1, .inl (cc 1, 8, .inr (.inr (.inr (.inr (fun j => some (ka ad j 0))))))), (ad 2, .inl (cc 0, 40, .inl (xs_pk s))), (ad 3, .inl (cc 0, 40, .inl (xs_tu s))), (ad 4, .inl (cc 0, 512, .inl (xs_mi s)))]
def XW (cc : Nat → ClassId) (ad : Nat → Nat) (s : XS) : va_W := XB cc ad s ++ (List.range 8).flatMap (fun j => KW cc (ka ad j) (xs_ki s j))
def MW (cc : Nat → ClassId) (ad : Nat → Nat) (s : MS) : va_W := [(ad 0, .inr (2, [.int (ms_th s), .int (ms_ki s), .ref (ad 1), .ref (ad 2), .ref (ad 3), .ref (ad 4), .ref (ad 5), .ref (ad 6), .ref (ad 7), .ref (ad 8), .ref (ad 9), .int (ms_pc s), .ref (ad 10), .int (ms_li s), .int (ms_ro s), .int (ms_co s), .int (ms_ba s), .ref (ad 11), .ref (ad 12), .int (ms_ri s), .int (ms_wr s)])), (ad 1, .inl (cc 0, 8, .inl (ms_op s))), (ad 2, .inl (cc 0, 24, .inl (ms_fr s))), (ad 3, .inl (cc 0, 24, .inl (ms_to s))), (ad 4, .inl (cc 0, 8, .inl (ms_la s))), (ad 5, .inl (cc 0, 8, .inl (ms_ta s))), (ad 6, .inl (cc 0, 8, .inl (ms_be s))), (ad 7, .inl (cc 2, 8, .inl (ms_is s))), (ad 8, .inl (cc 0, 8, .inl (ms_ma s))), (ad 9, .inl (cc 3, 80000, .inl (ms_pa s))), (ad 10, .inl (cc 0, 40, .inl (ms_pn s))), (ad 11, .inl (cc 0, 64, .inl (ms_nu s))), (ad 12, .inl (cc 0, 512, .inl (ms_mi s)))]
def TY (cc : Nat → ClassId) : List (ClassId × FieldType) := [(cc 0, .int), (cc 1, .object RX0), (cc 2, .boolean), (cc 3, .short)]
/-- the cells that a method may change: its own, and new ones -/
def AA (n : Nat) (ad : Nat → Nat) (sz : Nat) : Nat → Prop := fun q => (∃ i, i < n ∧ q = ad i) ∨ sz ≤ q
def DA (n : Nat) (ad : Nat → Nat) (A : Nat → Prop) : Prop := (∀ i j, i < n → j < n → ad i = ad j → i = j) ∧ ∀ i, i < n → A (ad i)
theorem vaP_mem {D : va_G} {cl : List vw_C} {ws : va_W} {H : Heap} : va_P D cl ws H ↔ ∀ q ∈ ws, va_at D cl q H := by
  constructor
  · intro h q hq
    obtain ⟨i, hi⟩ := List.getElem?_of_mem hq
    exact h i q hi
  · intro h k q hk
    exact h q (List.mem_of_getElem? hk)
theorem vaD_of {A : Nat → Prop} {ws : va_W} {n : Nat} {ad : Nat → Nat} (hm : ws.map Prod.fst = (List.range n).map ad) (hd : DA n ad A) : va_D A ws := by
  have key : ∀ (k : Nat) (q : Nat × va_E), ws[k]? = some q → k < n ∧ q.1 = ad k := by
    intro k q hk
    have h1 : (ws.map Prod.fst)[k]? = some q.1 := by rw [List.getElem?_map, hk]; rfl
    rw [hm, List.getElem?_map] at h1
    cases hr : (List.range n)[k]? with
    | none => rw [hr] at h1; cases h1
    | some i =>
      rw [hr] at h1
      have hlt : k < n := by
        have h2 := (List.getElem?_eq_some_iff.mp hr).1
        simpa using h2
      have hi : i = k := by
        rw [List.getElem?_range hlt] at hr
        exact (Option.some.inj hr).symm
      subst hi
      exact ⟨hlt, (Option.some.inj h1).symm⟩
  refine ⟨fun i j p q hi hj hpq => ?_, fun k q hk => ?_⟩
  · obtain ⟨a1, a2⟩ := key i p hi
    obtain ⟨b1, b2⟩ := key j q hj
    exact hd.1 i j a1 b1 (by rw [← a2, ← b2, hpq])
  · obtain ⟨a1, a2⟩ := key k q hk
    rw [a2]
    exact hd.2 k a1
theorem kD {A : Nat → Prop} {cc : Nat → ClassId} {a : Nat → Nat} {s : KS} (hd : DA 5 a A) : va_D A (KW cc a s) := vaD_of rfl hd
theorem xD {A : Nat → Prop} {cc : Nat → ClassId} {ad : Nat → Nat} {s : XS} (hd : DA 45 ad A) : va_D A (XW cc ad s) := vaD_of rfl hd
theorem mD {A : Nat → Prop} {cc : Nat → ClassId} {ad : Nat → Nat} {s : MS} (hd : DA 13 ad A) : va_D A (MW cc ad s) := vaD_of rfl hd
/-- the three static tables, which nobody writes -/
def sx_v0 (j : Nat) : Int32 := if j = 2 then 9999 else 99
def sx_v1 (j : Nat) : Int32 := if j = 1 then 1 else 0
def sx_v2 (j : Nat) : Int32 := if j = 0 then 3 else if j = 1 then 9 else 9999
def sx_f0 (j : Nat) : Value := .int (sx_v0 j)
def sx_f1 (j : Nat) : Value := .int (sx_v1 j)
def sx_f2 (j : Nat) : Value := .int (sx_v2 j)
def SX (A : Nat → Prop) (U : State) (H : Heap) : Prop := (∃ t : Nat, va_Z RX0 "RANGE_MOST" "[I" (.ref t) A U H ∧ va_T .int t 3 sx_f0 A U H) ∧ (∃ t : Nat, va_Z RX0 "RULE_LEAST" "[I" (.ref t) A U H ∧ va_T .int t 3 sx_f1 A U H) ∧ (∃ t : Nat, va_Z RX0 "RULE_MOST" "[I" (.ref t) A U H ∧ va_T .int t 3 sx_f2 A U H)
theorem SX.moved {A : Nat → Prop} {u U : State} {H : Heap} (hvm : u.vm.Alike U.vm) (h : SX A u H) : SX A U H := by
  obtain ⟨⟨t0, a0, b0⟩, ⟨t1, a1, b1⟩, ⟨t2, a2, b2⟩⟩ := h
  exact ⟨⟨t0, a0.moved hvm, b0.moved hvm⟩, ⟨t1, a1.moved hvm, b1.moved hvm⟩, ⟨t2, a2.moved hvm, b2.moved hvm⟩⟩
theorem SX.kept {A : Nat → Prop} {U : State} {H H1 : Heap} (h : SX A U H) (hq : ∀ a : Nat, a < H.size → ¬ A a → H1[a]? = H[a]?) : SX A U H1 := by
  obtain ⟨⟨t0, a0, b0⟩, ⟨t1, a1, b1⟩, ⟨t2, a2, b2⟩⟩ := h
  exact ⟨⟨t0, a0.kept hq, b0.kept hq⟩, ⟨t1, a1.kept hq, b1.kept hq⟩, ⟨t2, a2.kept hq, b2.kept hq⟩⟩
theorem SX.narrow {A B : Nat → Prop} {U : State} {H : Heap} (h : SX A U H) (hAB : ∀ q, B q → A q) : SX B U H := by
  obtain ⟨⟨t0, a0, b0⟩, ⟨t1, a1, b1⟩, ⟨t2, a2, b2⟩⟩ := h
  exact ⟨⟨t0, a0.narrow hAB, b0.narrow hAB⟩, ⟨t1, a1.narrow hAB, b1.narrow hAB⟩, ⟨t2, a2.narrow hAB, b2.narrow hAB⟩⟩
/-- a contract of a method that makes nothing: an int comes back (a boolean is one) -/
def CPre (D : va_G) (cc : Nat → ClassId) (n : Nat) (ad : Nat → Nat) (ws : va_W) (av : List Value) (sz : Nat) : Array Value → State → Prop := va_Pc av (fun U => U.heap.size = sz ∧ va_P D vwCl ws U.heap ∧ va_K D vwCl (TY cc) U ∧ SX (AA n ad sz) U U.heap)
def Ctr (l : Launch) (y : MethodName) (wy : List Cond) (rm : Room) (D : va_G) (cc : Nat → ClassId) {S : Type} (Wd : S → va_W) (n : Nat) (ad : Nat → Nat) (σ : S) (av : List Value) (Post : Int32 → S → Prop) : Prop :=
  ∀ sz : Nat, Met l y wy rm (CPre D cc n ad (Wd σ) av sz) (va_Qi Post (fun u t => va_P D vwCl (Wd u) t.heap) (AA n ad sz)) 0 0 (AA n ad sz)
def Ctv (l : Launch) (y : MethodName) (wy : List Cond) (rm : Room) (D : va_G) (cc : Nat → ClassId) {S : Type} (Wd : S → va_W) (n : Nat) (ad : Nat → Nat) (σ : S) (av : List Value) (Post : Int32 → S → Prop) : Prop :=
  ∀ sz : Nat, Met l y wy rm (CPre D cc n ad (Wd σ) av sz) (va_Qv (Post 0) (fun u t => va_P D vwCl (Wd u) t.heap) (AA n ad sz)) 0 0 (AA n ad sz)
/-- what a walk knows of its method -/
def Cx (p : Program) (s : State) (m : MethodId) (args : Array Value) (meth : Method) (c : Code) (cod : ByteArray) (nl : Nat) (rt : Option FieldType) (own : String) (Ts : List Cond) (D : va_G) (cc : Nat → ClassId) (A : Nat → Prop) : Prop :=
  p.tables.exec = Jvm.exec ∧ c.code = cod ∧ c.maxLocals = nl ∧ meth.sig.returnType = rt ∧ s.vm.findClass own = some m.cls ∧ (∀ w ∈ Ts, w.before args s = true) ∧ meth.locks = false ∧ va_K D vwCl (TY cc) s ∧ (∀ q, s.heap.size ≤ q → A q) ∧ SX A s s.heap
/-- a stand of a walk: from any heap that holds the world -/
def At_ (p : Program) (l : Launch) (e : Env) (R : Room) (s : State) (m : MethodId) (args : Array Value) (below : List Frame) (meth : Method) (c : Code) (Q : State → Prop) (D : va_G) (A : Nat → Prop) (ws : va_W) (nl pc : Nat) (lv : List (Nat × Value)) (st : List Value) : Prop :=
  ∀ (H : Heap) (locs : List Loc) (ls : Array Slot), va_P D vwCl ws H → va_S A s.heap H locs → lv_has ls nl lv → W p l e R s m args below meth c H locs 0 0 Q (F0 m pc ls st)
abbrev Qi_ {S : Type} (below : List Frame) (D : va_G) (Wd : S → va_W) (A : Nat → Prop) (args : Array Value) (s : State) (Post : Int32 → S → Prop) : State → Prop := MQ below (va_Qi Post (fun u t => va_P D vwCl (Wd u) t.heap) A) args s 0 0 A
abbrev Qv_ {S : Type} (below : List Frame) (D : va_G) (Wd : S → va_W) (A : Nat → Prop) (args : Array Value) (s : State) (Post : Int32 → S → Prop) : State → Prop := MQ below (va_Qv (Post 0) (fun u t => va_P D vwCl (Wd u) t.heap) A) args s 0 0 A
theorem ctr_i {l : Launch} {y : MethodName} {wy ws' : List Cond} {rm : Room} {D : va_G} {cc : Nat → ClassId} {S : Type} {Wd : S → va_W} {n : Nat} {ad : Nat → Nat} {σ : S} {av : List Value} {Post : Int32 → S → Prop} {cod : ByteArray} {nl : Nat} {rt : Option FieldType} (hy : plainName y.cls = true) (hw : wy = Cond.code y cod nl rt :: ws') (hd : DA n ad (fun _ => True)) (hlen : (lg_sl av).length ≤ nl)
    (body : ∀ (p : Program) (e : Env) (s : State) (m : MethodId) (below : List Frame) (meth : Method) (c : Code) (A : Nat → Prop), Cx p s m av.toArray meth c cod nl rt y.cls wy D cc A → DA n ad A → At_ p l e rm s m av.toArray below meth c (Qi_ below D Wd A av.toArray s Post) D A (Wd σ) nl 0 (lv_args 0 av) []) : Ctr l y wy rm D cc Wd n ad σ av Post := by
  intro sz
  refine Met.ofW (cc := cod) (maxL := nl) (ret := rt) hy hw ?_
  intro p e s m args below meth c s₁ B hml hv
  obtain ⟨rfl, hsz, hP, hK, hX⟩ := hv
  subst hsz
  rw [lg_entry_eq]
  exact body p e s m below meth c (AA n ad s.heap.size) ⟨B.exec, B.bytes, hml, B.returns, findClass_of_methodNamed B.named, atoms_spec (ws := wy) B.pre, B.notSynchronized, hK, fun q h => Or.inr h, hX⟩ ⟨hd.1, fun i hi => Or.inl ⟨i, hi, rfl⟩⟩ s.heap [] _ hP va_S.rf (lv_entry av hlen)
theorem ctr_j {l : Launch} {y : MethodName} {wy ws' : List Cond} {rm : Room} {D : va_G} {cc : Nat → ClassId} {S : Type} {Wd : S → va_W} {n : Nat} {ad : Nat → Nat} {σ : S} {av : List Value} {Post : Int32 → S → Prop} {cod : ByteArray} {nl : Nat} {rt : Option FieldType} (hy : plainFor y = true) (hw : wy = Cond.code y cod nl rt :: ws') (hd : DA n ad (fun _ => True)) (hlen : (lg_sl av).length ≤ nl)
    (body : ∀ (p : Program) (e : Env) (s : State) (m : MethodId) (below : List Frame) (meth : Method) (c : Code) (A : Nat → Prop), Cx p s m av.toArray meth c cod nl rt y.cls wy D cc A → DA n ad A → At_ p l e rm s m av.toArray below meth c (Qi_ below D Wd A av.toArray s Post) D A (Wd σ) nl 0 (lv_args 0 av) []) : Ctr l y wy rm D cc Wd n ad σ av Post := by
  intro sz
  refine va_MetF (cc := cod) (maxL := nl) (ret := rt) hy hw ?_
  intro p e s m args below meth c s₁ B hml hv
  obtain ⟨rfl, hsz, hP, hK, hX⟩ := hv
  subst hsz
  rw [lg_entry_eq]
  exact body p e s m below meth c (AA n ad s.heap.size) ⟨B.exec, B.bytes, hml, B.returns, findClass_of_methodNamed B.named, atoms_spec (ws := wy) B.pre, B.notSynchronized, hK, fun q h => Or.inr h, hX⟩ ⟨hd.1, fun i hi => Or.inl ⟨i, hi, rfl⟩⟩ s.heap [] _ hP va_S.rf (lv_entry av hlen)
theorem ctr_v {l : Launch} {y : MethodName} {wy ws' : List Cond} {rm : Room} {D : va_G} {cc : Nat → ClassId} {S : Type} {Wd : S → va_W} {n : Nat} {ad : Nat → Nat} {σ : S} {av : List Value} {Post : Int32 → S → Prop} {cod : ByteArray} {nl : Nat} {rt : Option FieldType} (hy : plainName y.cls = true) (hw : wy = Cond.code y cod nl rt :: ws') (hd : DA n ad (fun _ => True)) (hlen : (lg_sl av).length ≤ nl)
    (body : ∀ (p : Program) (e : Env) (s : State) (m : MethodId) (below : List Frame) (meth : Method) (c : Code) (A : Nat → Prop), Cx p s m av.toArray meth c cod nl rt y.cls wy D cc A → DA n ad A → At_ p l e rm s m av.toArray below meth c (Qv_ below D Wd A av.toArray s Post) D A (Wd σ) nl 0 (lv_args 0 av) []) : Ctv l y wy rm D cc Wd n ad σ av Post := by
  intro sz
  refine Met.ofW (cc := cod) (maxL := nl) (ret := rt) hy hw ?_
  intro p e s m args below meth c s₁ B hml hv
  obtain ⟨rfl, hsz, hP, hK, hX⟩ := hv
  subst hsz
  rw [lg_entry_eq]
  exact body p e s m below meth c (AA n ad s.heap.size) ⟨B.exec, B.bytes, hml, B.returns, findClass_of_methodNamed B.named, atoms_spec (ws := wy) B.pre, B.notSynchronized, hK, fun q h => Or.inr h, hX⟩ ⟨hd.1, fun i hi => Or.inl ⟨i, hi, rfl⟩⟩ s.heap [] _ hP va_S.rf (lv_entry av hlen)
section RET
variable {p : Program} {l : Launch} {e : Env} {R : Room} {s : State} {m : MethodId} {args : Array Value} {below : List Frame} {meth : Method} {c : Code} {cod : ByteArray} {nl : Nat} {own : String} {Ts : List Cond} {D : va_G} {cc : Nat → ClassId} {A : Nat → Prop} {H : Heap} {locs : List Loc} {pc : Nat} {ls : Array Slot} {S : Type} {Wd : S → va_W} {Post : Int32 → S → Prop} {u : S} {v : Int32}
theorem ret_i (C0 : Cx p s m args meth c cod nl (some .int) own Ts D cc A) (hp : Post v u) (hP : va_P D vwCl (Wd u) H) (hS : va_S A s.heap H locs) (hdg : decode cod pc = .ok (.ireturn, 1)) : W p l e R s m args below meth c H locs 0 0 (Qi_ below D Wd A args s Post) (F0 m pc ls [.int v]) := by
  obtain ⟨hx, hb, hml, hr, hown, hts, hlocks, hK, hA, hX⟩ := C0
  exact W.iret (v := v) hx hb hr (fun t ht hW => ⟨⟨v, u, rfl, hp, by show va_P D vwCl (Wd u) t.heap; rw [ht]; exact hP⟩, hS.F ht⟩) hS.2.2 hdg
theorem ret_z (C0 : Cx p s m args meth c cod nl (some .boolean) own Ts D cc A) (hn : narrow .boolean (.int v) = .int v) (hp : Post v u) (hP : va_P D vwCl (Wd u) H) (hS : va_S A s.heap H locs) (hdg : decode cod pc = .ok (.ireturn, 1)) : W p l e R s m args below meth c H locs 0 0 (Qi_ below D Wd A args s Post) (F0 m pc ls [.int v]) := by
  obtain ⟨hx, hb, hml, hr, hown, hts, hlocks, hK, hA, hX⟩ := C0
  exact W.zret (v := v) (ty := .boolean) hx hb hr hn (fun t ht hW => ⟨⟨v, u, rfl, hp, by show va_P D vwCl (Wd u) t.heap; rw [ht]; exact hP⟩, hS.F ht⟩) hS.2.2 hdg
theorem ret_v (C0 : Cx p s m args meth c cod nl none own Ts D cc A) (hp : Post 0 u) (hP : va_P D vwCl (Wd u) H) (hS : va_S A s.heap H locs) (hdg : decode cod pc = .ok (.return_, 1)) : W p l e R s m args below meth c H locs 0 0 (Qv_ below D Wd A args s Post) (F0 m pc ls []) := by
  obtain ⟨hx, hb, hml, hr, hown, hts, hlocks, hK, hA, hX⟩ := C0
  exact W.vret hx hb hr (fun t ht hW => ⟨⟨u, rfl, hp, by show va_P D vwCl (Wd u) t.heap; rw [ht]; exact hP⟩, hS.F ht⟩) hS.2.2 hdg
end RET
/-- how a callee's world lies in the caller's -/
def Lens (D : va_G) {S Sc : Type} (Wd : S → va_W) (n : Nat) (ad : Nat → Nat) (σ : S) (Wc : Sc → va_W) (nc : Nat) (adc : Nat → Nat) (γ : Sc) (put : Sc → S) : Prop :=
  (∀ H : Heap, va_P D vwCl (Wd σ) H → va_P D vwCl (Wc γ) H) ∧ (∀ i, i < nc → ∃ i', i' < n ∧ adc i = ad i') ∧ (∀ (u : Sc) (H H1 : Heap), va_P D vwCl (Wd σ) H → DA n ad (fun _ => True) → (∀ q : Nat, q < H.size → ¬ AA nc adc H.size q → H1[q]? = H[q]?) → va_P D vwCl (Wc u) H1 → va_P D vwCl (Wd (put u)) H1)
theorem lens_id {D : va_G} {S : Type} {Wd : S → va_W} {n : Nat} {ad : Nat → Nat} {σ : S} : Lens D Wd n ad σ Wd n ad σ (fun u => u) := ⟨fun _ h => h, fun i hi => ⟨i, hi, rfl⟩, fun _ _ _ _ _ _ h => h⟩
theorem lens_un {D : va_G} {S : Type} {Wd : S → va_W} {n : Nat} {ad adc : Nat → Nat} {σ : S} : Lens D Wd n ad σ (fun _ : Unit => ([] : va_W)) 0 adc () (fun _ => σ) := by
  refine ⟨fun H _ k q h => by simp at h, fun i hi => absurd hi (Nat.not_lt_zero i), fun u H H1 hP _ hk _ => hP.kept (fun k q hq => hk q.1 ((hP k q hq).lt) ?_)⟩
  rintro (⟨i, hi, -⟩ | h)
  · exact Nat.not_lt_zero i hi
  · have := (hP k q hq).lt
    omega
theorem xw_mem {cc : Nat → ClassId} {ad : Nat → Nat} {s : XS} {q : Nat × va_E} : q ∈ XW cc ad s ↔ q ∈ XB cc ad s ∨ ∃ j, j < 8 ∧ q ∈ KW cc (ka ad j) (xs_ki s j) := by
  unfold XW
  rw [List.mem_append, List.mem_flatMap]
  simp only [List.mem_range]
theorem xb_ad {cc : Nat → ClassId} {ad : Nat → Nat} {s : XS} {q : Nat × va_E} (h : q ∈ XB cc ad s) : ∃ i, i < 5 ∧ q.1 = ad i := by
  unfold XB at h
  simp only [List.mem_cons, List.not_mem_nil, or_false] at h
  rcases h with rfl | rfl | rfl | rfl | rfl
  · exact ⟨0, by decide, rfl⟩
  · exact ⟨1, by decide, rfl⟩
  · exact ⟨2, by decide, rfl⟩
  · exact ⟨3, by decide, rfl⟩
  · exact ⟨4, by decide, rfl⟩
theorem kw_ad {cc : Nat → ClassId} {a : Nat → Nat} {s : KS} {q : Nat × va_E} (h : q ∈ KW cc a s) : ∃ i, i < 5 ∧ q.1 = a i := by
  unfold KW at h
  simp only [List.mem_cons, List.not_mem_nil, or_false] at h
  rcases h with rfl | rfl | rfl | rfl | rfl
  · exact ⟨0, by decide, rfl⟩
  · exact ⟨1, by decide, rfl⟩
  · exact ⟨2, by decide, rfl⟩
  · exact ⟨3, by decide, rfl⟩
  · exact ⟨4, by decide, rfl⟩
theorem xb_sk {cc : Nat → ClassId} {ad : Nat → Nat} {s : XS} {j : Nat} {u : KS} : XB cc ad (xs_sk s j u) = XB cc ad s := rfl
theorem lens_k {D : va_G} {cc : Nat → ClassId} {ad : Nat → Nat} {σ : XS} {j : Nat} (hj : j < 8) : Lens D (XW cc ad) 45 ad σ (KW cc (ka ad j)) 5 (ka ad j) (xs_ki σ j) (fun u => xs_sk σ j u) := by
  refine ⟨fun H hP => ?_, fun i hi => ⟨5 + 5 * j + i, by omega, rfl⟩, fun u H H1 hP hd hk hu => ?_⟩
  · rw [vaP_mem] at hP ⊢
    exact fun q hq => hP q (xw_mem.mpr (Or.inr ⟨j, hj, hq⟩))
  · rw [vaP_mem] at hP hu ⊢
    have keep : ∀ (q : Nat × va_E) (i : Nat), va_at D vwCl q H → q.1 = ad i → i < 45 → (i < 5 + 5 * j ∨ 5 + 5 * j + 5 ≤ i) → va_at D vwCl q H1 := by
      intro q i hq hi hi45 hout
      refine hq.kept (hk q.1 hq.lt ?_)
      rintro (⟨i2, h2, h3⟩ | h)
      · have h4 : ad i = ad (5 + 5 * j + i2) := by rw [← hi, h3]; rfl
        have h5 := hd.1 i (5 + 5 * j + i2) hi45 (by omega) h4
        omega
      · have := hq.lt
        omega
    intro q hq
    rcases xw_mem.mp hq with h | ⟨j2, hj2, h⟩
    · rw [xb_sk] at h
      obtain ⟨i, hi, hi2⟩ := xb_ad h
      exact keep q i (hP q (xw_mem.mpr (Or.inl h))) hi2 (by omega) (by omega)
    · by_cases hjj : j2 = j
      · subst hjj
        have e1 : xs_ki (xs_sk σ j2 u) j2 = u := va_up_self _ _ _
        rw [e1] at h
        exact hu q h
      · have e1 : xs_ki (xs_sk σ j u) j2 = xs_ki σ j2 := va_up_ne _ _ hjj
        rw [e1] at h
        obtain ⟨i, hi, hi2⟩ := kw_ad h
        exact keep q (5 + 5 * j2 + i) (hP q (xw_mem.mpr (Or.inr ⟨j2, hj2, h⟩))) hi2 (by omega) (by omega)
theorem xs_self {s : XS} {j : Nat} : xs_sk s j (xs_ki s j) = s := by
  have h : va_up (xs_ki s) j (xs_ki s j) = xs_ki s := by
    funext q
    by_cases hq : q = j
    · subst hq; exact va_up_self _ _ _
    · exact va_up_ne _ _ hq
  show xs_s_ki s (va_up (xs_ki s) j (xs_ki s j)) = s
  rw [h]
theorem vin_lt {i : Int32} {n : Nat} (h : vp_in i n) : i.toNatClampNeg < n := Nat.not_le.mp fun q => h (Or.inr q)
section CALL
variable {p : Program} {l : Launch} {e : Env} {R : Room} {s : State} {m : MethodId} {args : Array Value} {below : List Frame} {meth : Method} {c : Code} {cod : ByteArray} {nl : Nat} {rt : Option FieldType} {own : String} {Ts : List Cond} {D : va_G} {cc : Nat → ClassId} {A : Nat → Prop} {H : Heap} {locs : List Loc} {pc : Nat} {ls : Array Slot} {Q : State → Prop}
variable {S Sc : Type} {Wd : S → va_W} {Wc : Sc → va_W} {n nc : Nat} {ad adc : Nat → Nat} {σ : S} {γ : Sc} {put : Sc → S} {y : MethodName} {wy : List Cond} {rm : Room} {b : Nat} {As rest st0 : List Value} {Post : Int32 → Sc → Prop} {Cn : String} {index : Nat} {bytes : ByteArray} {maxL nn : Nat} {ret : Option FieldType}
theorem cpre_blind {av : List Value} {ws : va_W} {sz : Nat} : FrameBlind (CPre D cc n ad ws av sz) := by
  intro a U g mk q
  obtain ⟨q0, q1, qP, qK, qX⟩ := q
  exact ⟨q0, q1, qP, va_K.moved (u := U) (U := U.calling g mk a) (Vm.Alike.refl U.vm) qK, SX.moved (u := U) (U := U.calling g mk a) (Vm.Alike.refl U.vm) qX⟩
theorem lens_free (L : Lens D Wd n ad σ Wc nc adc γ put) (hd : DA n ad A) (hA : ∀ q, s.heap.size ≤ q → A q) (hS : va_S A s.heap H locs) : ∀ q, AA nc adc H.size q → A q := by
  rintro q (⟨i, hi, rfl⟩ | h)
  · obtain ⟨i', h1, h2⟩ := L.2.1 i hi
    rw [h2]
    exact hd.2 i' h1
  · exact hA q (Nat.le_trans hS.1 h)
theorem cpre_at (L : Lens D Wd n ad σ Wc nc adc γ put) (hd : DA n ad A) (hA : ∀ q, s.heap.size ≤ q → A q) (hK : va_K D vwCl (TY cc) s) (hX : SX A s s.heap) (hP : va_P D vwCl (Wd σ) H) (hS : va_S A s.heap H locs) {av : List Value} {U : State} (hU : U.heap = H) (hW : s.WarmedH U.vm) : CPre D cc nc adc (Wc γ) av H.size av.toArray U := by
  refine ⟨rfl, by rw [hU], by rw [hU]; exact L.1 H hP, va_K.moved hW.alike hK, ?_⟩
  rw [hU]
  exact ((hX.kept hS.2.1).narrow (lens_free L hd hA hS)).moved hW.alike
theorem call_v (C0 : Cx p s m args meth c cod nl rt own Ts D cc A) (hd : DA n ad A) (L : Lens D Wd n ad σ Wc nc adc γ put) (hC : Ctr l y wy rm D cc Wc nc adc γ (.ref b :: As) Post) (cw : CallW R s args own Cn index y bytes maxL ret wy rm 0 0 nn) (hrecv : ∃ cellB : Cell, H[b]? = some cellB ∧ cellB.vm.isStatics = false ∧ s.vm.findClass Cn = some cellB.cls) (hP : va_P D vwCl (Wd σ) H) (hS : va_S A s.heap H locs) (hn : As.length = nn) (hl : ls.size = nl) (hst : st0 = As.reverse ++ .ref b :: rest) (hW : (rest.map fun v => v.category).sum ≤ 8) (hdg : decode cod pc = .ok (.invokevirtual index, 3))
    (kk : ∀ (r : Int32) (u : Sc), Post r u → ∀ (H1 : Heap) (locs1 : List Loc), va_P D vwCl (Wd (put u)) H1 → va_S A s.heap H1 locs1 → W p l e R s m args below meth c H1 locs1 0 0 Q (F0 m (pc + 3) ls (.int r :: rest))) : W p l e R s m args below meth c H locs 0 0 Q (F0 m pc ls st0) := by
  obtain ⟨hx, hb, hml, hr, hown, hts, hlocks, hK, hA, hX⟩ := C0
  have hF := lens_free L hd hA hS
  exact va_calli (va_runV (As := As) (rest := rest) ⟨hx, hb, hml, hown, hts⟩ (hC H.size) cw ⟨cpre_blind, hrecv, fun U hU hW => cpre_at L hd hA hK hX hP hS hU hW⟩ rfl hn hl hst (lv_room hW) hdg ⟨Nat.zero_le _, Nat.zero_le _⟩) hS (fun q _ h => hF q h) hF (fun r u t H1 locs1 ht hvm hp hB hz1 hk1 hS1 => kk r u hp H1 locs1 (L.2.2 u H H1 hP ⟨hd.1, fun _ _ => trivial⟩ hk1 (by rw [← ht]; exact hB)) hS1)
theorem call_vv (C0 : Cx p s m args meth c cod nl rt own Ts D cc A) (hd : DA n ad A) (L : Lens D Wd n ad σ Wc nc adc γ put) (hC : Ctv l y wy rm D cc Wc nc adc γ (.ref b :: As) Post) (cw : CallW R s args own Cn index y bytes maxL ret wy rm 0 0 nn) (hrecv : ∃ cellB : Cell, H[b]? = some cellB ∧ cellB.vm.isStatics = false ∧ s.vm.findClass Cn = some cellB.cls) (hP : va_P D vwCl (Wd σ) H) (hS : va_S A s.heap H locs) (hn : As.length = nn) (hl : ls.size = nl) (hst : st0 = As.reverse ++ .ref b :: rest) (hW : (rest.map fun v => v.category).sum ≤ 8) (hdg : decode cod pc = .ok (.invokevirtual index, 3))
    (kk : ∀ (u : Sc), Post 0 u → ∀ (H1 : Heap) (locs1 : List Loc), va_P D vwCl (Wd (put u)) H1 → va_S A s.heap H1 locs1 → W p l e R s m args below meth c H1 locs1 0 0 Q (F0 m (pc + 3) ls rest)) : W p l e R s m args below meth c H locs 0 0 Q (F0 m pc ls st0) := by
  obtain ⟨hx, hb, hml, hr, hown, hts, hlocks, hK, hA, hX⟩ := C0
  have hF := lens_free L hd hA hS
  exact va_callv (va_runV (As := As) (rest := rest) ⟨hx, hb, hml, hown, hts⟩ (hC H.size) cw ⟨cpre_blind, hrecv, fun U hU hW => cpre_at L hd hA hK hX hP hS hU hW⟩ rfl hn hl hst (lv_room hW) hdg ⟨Nat.zero_le _, Nat.zero_le _⟩) hS (fun q _ h => hF q h) hF (fun u t H1 locs1 ht hvm hp hB hz1 hk1 hS1 => kk u hp H1 locs1 (L.2.2 u H H1 hP ⟨hd.1, fun _ _ => trivial⟩ hk1 (by rw [← ht]; exact hB)) hS1)
theorem call_s (C0 : Cx p s m args meth c cod nl rt own Ts D cc A) (hd : DA n ad A) (L : Lens D Wd n ad σ Wc nc adc γ put) (hC : Ctr l y wy rm D cc Wc nc adc γ As Post) (cw : CallB R s args own index y bytes maxL ret wy rm 0 0 nn ∧ (Cond.static y).before args s = true) (hP : va_P D vwCl (Wd σ) H) (hS : va_S A s.heap H locs) (hn : As.length = nn) (hl : ls.size = nl) (hst : st0 = As.reverse ++ rest) (hW : (rest.map fun v => v.category).sum ≤ 8) (hdg : decode cod pc = .ok (.invokestatic index, 3))
    (kk : ∀ (r : Int32) (u : Sc), Post r u → ∀ (H1 : Heap) (locs1 : List Loc), va_P D vwCl (Wd (put u)) H1 → va_S A s.heap H1 locs1 → W p l e R s m args below meth c H1 locs1 0 0 Q (F0 m (pc + 3) ls (.int r :: rest))) : W p l e R s m args below meth c H locs 0 0 Q (F0 m pc ls st0) := by
  obtain ⟨hx, hb, hml, hr, hown, hts, hlocks, hK, hA, hX⟩ := C0
  have hF := lens_free L hd hA hS
  exact va_calli (va_runS (As := As) (rest := rest) ⟨hx, hb, hml, hown, hts⟩ (hC H.size) cw ⟨cpre_blind, fun U hU hW => cpre_at L hd hA hK hX hP hS hU hW⟩ rfl hn hl hst (lv_room hW) hdg ⟨Nat.zero_le _, Nat.zero_le _⟩) hS (fun q _ h => hF q h) hF (fun r u t H1 locs1 ht hvm hp hB hz1 hk1 hS1 => kk r u hp H1 locs1 (L.2.2 u H H1 hP ⟨hd.1, fun _ _ => trivial⟩ hk1 (by rw [← ht]; exact hB)) hS1)
/-- a kind out of the row of kinds -/
theorem ld_kind (C0 : Cx p s m args meth c cod nl rt own Ts D cc A) {σ : XS} (hP : va_P D vwCl (XW cc ad σ) H) {i : Int32} (hin : vp_in i 8) (hdg : decode cod pc = .ok (.aaload, 1))
    (kk : W p l e R s m args below meth c H locs 0 0 Q (F0 m (pc + 1) ls (.ref (ka ad i.toNatClampNeg 0) :: rest))) : W p l e R s m args below meth c H locs 0 0 Q (F0 m pc ls (.int i :: .ref (ad 1) :: rest)) := by
  obtain ⟨hx, hb, hml, hr, hown, hts, hlocks, hK, hA, hX⟩ := C0
  exact va_aldq (D := D) (C := RX0) hx hb hK hP 1 1 (cA := cc 1) (n := 8) (f := fun j => some (ka ad j 0)) rfl rfl hin hdg kk
end CALL
/-- a loop: a body over the ring of its own next stands -/
def lpX {α : Type} (F : (α → Prop) → α → Prop) : Nat → α → Prop
  | 0 => fun _ => False
  | n + 1 => F (lpX F n)
def LPX {α : Type} (F : (α → Prop) → α → Prop) (a : α) : Prop := ∃ n, lpX F n a
theorem lp_at {α : Type} {F : (α → Prop) → α → Prop} {Wt : α → Prop} (h : ∀ K : α → Prop, (∀ a, K a → Wt a) → ∀ a, F K a → Wt a) {a : α} (hl : LPX F a) : Wt a := by
  obtain ⟨n, hn⟩ := hl
  have key : ∀ n a, lpX F n a → Wt a := by
    intro n
    induction n with
    | zero => intro a h; exact h.elim
    | succ n ih => intro a h2; exact h (lpX F n) ih a h2
  exact key n a hn
theorem lp_rule {α : Type} {F : (α → Prop) → α → Prop} (I : α → Prop) (μ : α → Nat) (h : ∀ (K : α → Prop) (a : α), I a → (∀ b, I b → μ b < μ a → K b) → F K a) {a : α} (ha : I a) : LPX F a := by
  have key : ∀ n a, I a → μ a < n → lpX F n a := by
    intro n
    induction n with
    | zero => intro a _ h; exact absurd h (Nat.not_lt_zero _)
    | succ n ih => intro a h1 h2; exact h (lpX F n) a h1 (fun b hb hlt => ih b hb (by omega))
  exact ⟨μ a + 1, key _ a ha (Nat.lt_succ_self _)⟩
theorem da0 {ad : Nat → Nat} : DA 0 ad (fun _ => True) := ⟨fun i _ h => absurd h (Nat.not_lt_zero i), fun _ _ => trivial⟩
theorem da_ka {ad : Nat → Nat} {A : Nat → Prop} {j : Nat} (hd : DA 45 ad A) (hj : j < 8) : DA 5 (ka ad j) (fun _ => True) := by
  refine ⟨fun i i2 h h2 e => ?_, fun _ _ => trivial⟩
  have := hd.1 (5 + 5 * j + i) (5 + 5 * j + i2) (by omega) (by omega) e
  omega

