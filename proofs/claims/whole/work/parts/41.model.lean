/-! the reference: its figures -/
abbrev W_Mn (y : CY) (hMo a_now a_asd a_pst a_mrf a_txt a_olt a_ofr a_nbs a_best a_wys a_rwx a_shx a_bef : Nat) (now : Int → Int) (msts : Int) (mbyt : Int) (mord : Int) (alw : Int) (bco : Int) (alm : Int) (abt : Int) (mlt : Int) (beg : Int) (figm : Int) : va_W := [(hMo, .inr (6, [.ref a_now, .ref a_asd, .ref a_pst, .int (iI msts), .ref a_mrf, .ref a_txt, .int (iI mbyt), .ref a_olt, .ref a_ofr, .ref a_nbs, .int (iI mord), .ref a_best, .ref a_wys, .ref a_rwx, .int (iI alw), .long (lI bco), .int (iI alm), .int (iI abt), .ref a_shx, .int (iI mlt), .int (iI beg), .int (iI figm), .ref a_bef])), (a_now, .inl (y.1, 31, .inl (ia now)))]
abbrev W_Mr (y : CY) (hMo a_now a_asd a_pst a_mrf a_txt a_olt a_ofr a_nbs a_best a_wys a_rwx a_shx a_bef : Nat) (msts : Int) (mrf : Int → Int) (mbyt : Int) (mord : Int) (alw : Int) (bco : Int) (alm : Int) (abt : Int) (mlt : Int) (beg : Int) (figm : Int) : va_W := [(hMo, .inr (6, [.ref a_now, .ref a_asd, .ref a_pst, .int (iI msts), .ref a_mrf, .ref a_txt, .int (iI mbyt), .ref a_olt, .ref a_ofr, .ref a_nbs, .int (iI mord), .ref a_best, .ref a_wys, .ref a_rwx, .int (iI alw), .long (lI bco), .int (iI alm), .int (iI abt), .ref a_shx, .int (iI mlt), .int (iI beg), .int (iI figm), .ref a_bef])), (a_mrf, .inl (y.1, 3, .inl (ia mrf)))]
abbrev W_Mna (y : CY) (hMo a_now a_asd a_pst a_mrf a_txt a_olt a_ofr a_nbs a_best a_wys a_rwx a_shx a_bef : Nat) (now : Int → Int) (asd : Int → Int) (msts : Int) (mbyt : Int) (mord : Int) (alw : Int) (bco : Int) (alm : Int) (abt : Int) (mlt : Int) (beg : Int) (figm : Int) : va_W := [(hMo, .inr (6, [.ref a_now, .ref a_asd, .ref a_pst, .int (iI msts), .ref a_mrf, .ref a_txt, .int (iI mbyt), .ref a_olt, .ref a_ofr, .ref a_nbs, .int (iI mord), .ref a_best, .ref a_wys, .ref a_rwx, .int (iI alw), .long (lI bco), .int (iI alm), .int (iI abt), .ref a_shx, .int (iI mlt), .int (iI beg), .int (iI figm), .ref a_bef])), (a_now, .inl (y.1, 31, .inl (ia now))), (a_asd, .inl (y.1, 31, .inl (ia asd)))]
abbrev W_Mf (y : CY) (hMo a_now a_asd a_pst a_mrf a_txt a_olt a_ofr a_nbs a_best a_wys a_rwx a_shx a_bef : Nat) (asd : Int → Int) (pst : Int → Int) (msts : Int) (mrf : Int → Int) (mbyt : Int) (mord : Int) (alw : Int) (bco : Int) (alm : Int) (abt : Int) (mlt : Int) (beg : Int) (figm : Int) : va_W := [(hMo, .inr (6, [.ref a_now, .ref a_asd, .ref a_pst, .int (iI msts), .ref a_mrf, .ref a_txt, .int (iI mbyt), .ref a_olt, .ref a_ofr, .ref a_nbs, .int (iI mord), .ref a_best, .ref a_wys, .ref a_rwx, .int (iI alw), .long (lI bco), .int (iI alm), .int (iI abt), .ref a_shx, .int (iI mlt), .int (iI beg), .int (iI figm), .ref a_bef])), (a_asd, .inl (y.1, 31, .inl (ia asd))), (a_pst, .inl (y.1, 155, .inl (ia pst))), (a_mrf, .inl (y.1, 3, .inl (ia mrf)))]
abbrev W_b1 (y : CY) (a_src a_dst : Nat) (src : Int → Int) (dst : Int → Int) : va_W := [(a_src, .inl (y.1, 31, .inl (ia src))), (a_dst, .inl (y.1, 31, .inl (ia dst)))]
abbrev W_b2 (y : CY) (a_src a_dst : Nat) (src : Int → Int) (dst : Int → Int) : va_W := [(a_src, .inl (y.1, 31, .inl (ia src))), (a_dst, .inl (y.1, 155, .inl (ia dst)))]
abbrev W_b3 (y : CY) (a_src a_dst : Nat) (src : Int → Int) (dst : Int → Int) : va_W := [(a_src, .inl (y.1, 155, .inl (ia src))), (a_dst, .inl (y.1, 31, .inl (ia dst)))]
abbrev rm_X6_in : Room := { frames := 0, cells := 0, slots := 0, locals := 0 }
set_option maxHeartbeats 4000000 in
set_option maxRecDepth 100000 in
theorem c_X6_in (l : Launch) (D : va_G) (y : CY) (z sz : Nat) (v : Int) (lo : Int) (hi : Int) (hv : sl v) (hlo : sl lo) (hhi : sl hi) : Met l yX6_in (Cond.code yX6_in cX6_in 6 (some .boolean) :: TW) rm_X6_in (va_Pc [.long (lI v), .long (lI lo), .long (lI hi)] (PX D y z [] sz)) (va_Qi (fun (r : Int32) (uu : Unit) => r = bB (decide (lo ≤ v ∧ v ≤ hi))) (fun uu t => BX D [] (va_A [] sz) t) (va_A [] sz)) 0 0 (va_A [] sz) := by
  refine xm_i (by decide) (Nat.le_of_ble_eq_true rfl) (fun p e s m args below meth cX ls A Q E hr hnm hX hl hQ => ?_)
  have hl : lv_has ls 6 [(0, .long (lI v)), (2, .long (lI lo)), (4, .long (lI hi))] := hl
  refine xr_lload_n E hl 0 rfl dX6_in_0 rfl ?_
  refine xr_lload_n E hl 1 rfl dX6_in_1 rfl ?_
  refine xr_lc_lt (tgt := 17) E dX6_in_2 dX6_in_3 (by decide) ⟨by omega, by omega⟩ ⟨by omega, by omega⟩ (fun c_2 => ?_) (fun c_2 => ?_)
  · have c_2 := c_2
    refine xr_iconst E dX6_in_17 ?_
    exact xr_zret E hX hQ () hr (iI_bB0 (b := false) rfl) (iI_bB0 (decide_eq_false (by omega))) rfl dX6_in_18
  · have c_2 := c_2
    refine xr_lload_n E hl 0 rfl dX6_in_6 rfl ?_
    refine xr_lload E hl 2 rfl dX6_in_7 ?_
    refine xr_lc_gt (tgt := 17) E dX6_in_9 dX6_in_10 (by decide) ⟨by omega, by omega⟩ ⟨by omega, by omega⟩ (fun c_9 => ?_) (fun c_9 => ?_)
    · have c_9 := c_9
      refine xr_iconst E dX6_in_17 ?_
      exact xr_zret E hX hQ () hr (iI_bB0 (b := false) rfl) (iI_bB0 (decide_eq_false (by omega))) rfl dX6_in_18
    · have c_9 := c_9
      refine xr_iconst E dX6_in_13 ?_
      refine xr_goto (tgt := 18) E dX6_in_14 (by decide) ?_
      exact xr_zret E hX hQ () hr (iI_bB1 (b := true) rfl) (iI_bB1 (decide_eq_true (by omega))) rfl dX6_in_18
abbrev rm_X6_isYear : Room := { frames := 1, cells := 0, slots := 0, locals := 25 }
set_option maxHeartbeats 4000000 in
set_option maxRecDepth 100000 in
theorem c_X6_isYear (l : Launch) (D : va_G) (y : CY) (z sz : Nat) (v : Int) (hv : sm v) : Met l yX6_isYear (Cond.code yX6_isYear cX6_isYear 1 (some .boolean) :: TW) rm_X6_isYear (va_Pc [.int (iI v)] (PX D y z [] sz)) (va_Qi (fun (r : Int32) (uu : Unit) => r = bB (decide (0 ≤ v ∧ v ≤ 2))) (fun uu t => BX D [] (va_A [] sz) t) (va_A [] sz)) 0 0 (va_A [] sz) := by
  refine xm_i (by decide) (Nat.le_of_ble_eq_true rfl) (fun p e s m args below meth cX ls A Q E hr hnm hX hl hQ => ?_)
  have hl : lv_has ls 1 [(0, .int (iI v))] := hl
  refine xr_iload_n E hl 0 rfl dX6_isYear_0 rfl ?_
  refine xr_i2l E dX6_isYear_1 ⟨by omega, by omega⟩ ?_
  refine xr_lconst (v := 0) E dX6_isYear_2 (by decide) ?_
  refine xr_ldc2 (n := 2) E kl_X6_66 dX6_isYear_3 (by decide) ?_
  refine xk_ri E hX [] rfl (xv_S (As := [.long (lI v), .long (lI 0), .long (lI 2)]) E hX hl (c_X6_in l D y z _ v 0 2 ⟨by omega, by omega⟩ ⟨by omega, by omega⟩ ⟨by omega, by omega⟩) ml_X6_62 st_X6_in in_X6 co_X6_in 3 (by decide) ⟨rfl, rfl⟩ ⟨Nat.le_of_ble_eq_true rfl, Nat.le_of_ble_eq_true rfl⟩ [] rfl rfl rfl rfl (Nat.le_of_ble_eq_true rfl) dX6_isYear_6 ⟨Nat.le_refl _, Nat.le_refl _⟩) (fun r_6 H locs hw hX => ?_)
  subst hw
  exact xr_zret E hX hQ () hr rfl rfl rfl dX6_isYear_9
abbrev rm_X6_square : Room := { frames := 0, cells := 0, slots := 0, locals := 0 }
set_option maxHeartbeats 4000000 in
set_option maxRecDepth 100000 in
theorem c_X6_square (l : Launch) (D : va_G) (y : CY) (z sz : Nat) (v : Int) : Met l yX6_square (Cond.code yX6_square cX6_square 2 (some .long) :: TW) rm_X6_square (va_Pc [.long (lI v)] (PX D y z [] sz)) (va_Ql (fun (r : Int64) (uu : Unit) => r = lI (v * v)) (fun uu t => BX D [] (va_A [] sz) t) (va_A [] sz)) 0 0 (va_A [] sz) := by
  refine xm_l (by decide) (Nat.le_of_ble_eq_true rfl) (fun p e s m args below meth cX ls A Q E hr hnm hX hl hQ => ?_)
  have hl : lv_has ls 2 [(0, .long (lI v))] := hl
  refine xr_lload_n E hl 0 rfl dX6_square_0 rfl ?_
  refine xr_lload_n E hl 0 rfl dX6_square_1 rfl ?_
  refine xr_lmul E dX6_square_2 ?_
  exact xr_lret E hX hQ () hr rfl rfl dX6_square_3
def pl (t d s : Int) : Int := (17 * t + d + 8) * 65 + s + 32
abbrev rm_X6_place : Room := { frames := 0, cells := 0, slots := 0, locals := 0 }
set_option maxHeartbeats 4000000 in
set_option maxRecDepth 100000 in
theorem c_X6_place (l : Launch) (D : va_G) (y : CY) (z sz : Nat) (t : Int) (d : Int) (s0 : Int) : Met l yX6_place (Cond.code yX6_place cX6_place 3 (some .int) :: TW) rm_X6_place (va_Pc [.int (iI t), .int (iI d), .int (iI s0)] (PX D y z [] sz)) (va_Qi (fun (r : Int32) (uu : Unit) => r = iI (pl t d s0)) (fun uu t => BX D [] (va_A [] sz) t) (va_A [] sz)) 0 0 (va_A [] sz) := by
  refine xm_i (by decide) (Nat.le_of_ble_eq_true rfl) (fun p e s m args below meth cX ls A Q E hr hnm hX hl hQ => ?_)
  have hl : lv_has ls 3 [(0, .int (iI t)), (1, .int (iI d)), (2, .int (iI s0))] := hl
  refine xr_bipush E dX6_place_0 (by decide) ?_
  refine xr_iload_n E hl 0 rfl dX6_place_2 rfl ?_
  refine xr_imul E dX6_place_3 ?_
  refine xr_iload_n E hl 1 rfl dX6_place_4 rfl ?_
  refine xr_iadd E dX6_place_5 ?_
  refine xr_bipush E dX6_place_6 (by decide) ?_
  refine xr_iadd E dX6_place_8 ?_
  refine xr_bipush E dX6_place_9 (by decide) ?_
  refine xr_imul E dX6_place_11 ?_
  refine xr_iload_n E hl 2 rfl dX6_place_12 rfl ?_
  refine xr_iadd E dX6_place_13 ?_
  refine xr_bipush E dX6_place_14 (by decide) ?_
  refine xr_iadd E dX6_place_16 ?_
  exact xr_iret E hX hQ () hr rfl rfl dX6_place_17
abbrev rm_X6_wantsOf : Room := { frames := 0, cells := 0, slots := 0, locals := 0 }
set_option maxHeartbeats 4000000 in
set_option maxRecDepth 100000 in
theorem c_X6_wantsOf (l : Launch) (D : va_G) (y : CY) (z sz : Nat) (c : Int) (hc : sm c) : Met l yX6_wantsOf (Cond.code yX6_wantsOf cX6_wantsOf 1 (some .int) :: TW) rm_X6_wantsOf (va_Pc [.int (iI c)] (PX D y z [] sz)) (va_Qi (fun (r : Int32) (uu : Unit) => r = iI (xNum c)) (fun uu t => BX D [] (va_A [] sz) t) (va_A [] sz)) 0 0 (va_A [] sz) := by
  refine xm_i (by decide) (Nat.le_of_ble_eq_true rfl) (fun p e s m args below meth cX ls A Q E hr hnm hX hl hQ => ?_)
  have hl : lv_has ls 1 [(0, .int (iI c))] := hl
  refine xr_iload_n E hl 0 rfl dX6_wantsOf_0 rfl ?_
  by_cases k_1_102 : c = 102
  · refine xr_tabIn (tgt := 102) E dX6_wantsOf_1 ⟨by omega, by omega⟩ 0 (by omega) (by omega) rfl (by decide) ?_
    refine xr_iconst E dX6_wantsOf_102 ?_
    exact xr_iret E hX hQ () hr (by unfold xNum; (repeat' split) <;> first | (exfalso; omega) | rfl | (congr 1; omega) | (congr 2; omega)) rfl dX6_wantsOf_103
  by_cases k_1_103 : c = 103
  · refine xr_tabIn (tgt := 106) E dX6_wantsOf_1 ⟨by omega, by omega⟩ 1 (by omega) (by omega) rfl (by decide) ?_
    refine xr_iconst E dX6_wantsOf_106 ?_
    exact xr_iret E hX hQ () hr (by unfold xNum; (repeat' split) <;> first | (exfalso; omega) | rfl | (congr 1; omega) | (congr 2; omega)) rfl dX6_wantsOf_107
  by_cases k_1_104 : c = 104
  · refine xr_tabIn (tgt := 106) E dX6_wantsOf_1 ⟨by omega, by omega⟩ 2 (by omega) (by omega) rfl (by decide) ?_
    refine xr_iconst E dX6_wantsOf_106 ?_
    exact xr_iret E hX hQ () hr (by unfold xNum; (repeat' split) <;> first | (exfalso; omega) | rfl | (congr 1; omega) | (congr 2; omega)) rfl dX6_wantsOf_107
  by_cases k_1_105 : c = 105
  · refine xr_tabIn (tgt := 106) E dX6_wantsOf_1 ⟨by omega, by omega⟩ 3 (by omega) (by omega) rfl (by decide) ?_
    refine xr_iconst E dX6_wantsOf_106 ?_
    exact xr_iret E hX hQ () hr (by unfold xNum; (repeat' split) <;> first | (exfalso; omega) | rfl | (congr 1; omega) | (congr 2; omega)) rfl dX6_wantsOf_107
  by_cases k_1_106 : c = 106
  · refine xr_tabIn (tgt := 106) E dX6_wantsOf_1 ⟨by omega, by omega⟩ 4 (by omega) (by omega) rfl (by decide) ?_
    refine xr_iconst E dX6_wantsOf_106 ?_
    exact xr_iret E hX hQ () hr (by unfold xNum; (repeat' split) <;> first | (exfalso; omega) | rfl | (congr 1; omega) | (congr 2; omega)) rfl dX6_wantsOf_107
  by_cases k_1_107 : c = 107
  · refine xr_tabIn (tgt := 106) E dX6_wantsOf_1 ⟨by omega, by omega⟩ 5 (by omega) (by omega) rfl (by decide) ?_
    refine xr_iconst E dX6_wantsOf_106 ?_
    exact xr_iret E hX hQ () hr (by unfold xNum; (repeat' split) <;> first | (exfalso; omega) | rfl | (congr 1; omega) | (congr 2; omega)) rfl dX6_wantsOf_107
  by_cases k_1_108 : c = 108
  · refine xr_tabIn (tgt := 102) E dX6_wantsOf_1 ⟨by omega, by omega⟩ 6 (by omega) (by omega) rfl (by decide) ?_
    refine xr_iconst E dX6_wantsOf_102 ?_
    exact xr_iret E hX hQ () hr (by unfold xNum; (repeat' split) <;> first | (exfalso; omega) | rfl | (congr 1; omega) | (congr 2; omega)) rfl dX6_wantsOf_103
  by_cases k_1_109 : c = 109
  · refine xr_tabIn (tgt := 106) E dX6_wantsOf_1 ⟨by omega, by omega⟩ 7 (by omega) (by omega) rfl (by decide) ?_
    refine xr_iconst E dX6_wantsOf_106 ?_
    exact xr_iret E hX hQ () hr (by unfold xNum; (repeat' split) <;> first | (exfalso; omega) | rfl | (congr 1; omega) | (congr 2; omega)) rfl dX6_wantsOf_107
  by_cases k_1_110 : c = 110
  · refine xr_tabIn (tgt := 102) E dX6_wantsOf_1 ⟨by omega, by omega⟩ 8 (by omega) (by omega) rfl (by decide) ?_
    refine xr_iconst E dX6_wantsOf_102 ?_
    exact xr_iret E hX hQ () hr (by unfold xNum; (repeat' split) <;> first | (exfalso; omega) | rfl | (congr 1; omega) | (congr 2; omega)) rfl dX6_wantsOf_103
  by_cases k_1_111 : c = 111
  · refine xr_tabIn (tgt := 100) E dX6_wantsOf_1 ⟨by omega, by omega⟩ 9 (by omega) (by omega) rfl (by decide) ?_
    refine xr_iconst E dX6_wantsOf_100 ?_
    exact xr_iret E hX hQ () hr (by unfold xNum; (repeat' split) <;> first | (exfalso; omega) | rfl | (congr 1; omega) | (congr 2; omega)) rfl dX6_wantsOf_101
  by_cases k_1_112 : c = 112
  · refine xr_tabIn (tgt := 100) E dX6_wantsOf_1 ⟨by omega, by omega⟩ 10 (by omega) (by omega) rfl (by decide) ?_
    refine xr_iconst E dX6_wantsOf_100 ?_
    exact xr_iret E hX hQ () hr (by unfold xNum; (repeat' split) <;> first | (exfalso; omega) | rfl | (congr 1; omega) | (congr 2; omega)) rfl dX6_wantsOf_101
  by_cases k_1_113 : c = 113
  · refine xr_tabIn (tgt := 102) E dX6_wantsOf_1 ⟨by omega, by omega⟩ 11 (by omega) (by omega) rfl (by decide) ?_
    refine xr_iconst E dX6_wantsOf_102 ?_
    exact xr_iret E hX hQ () hr (by unfold xNum; (repeat' split) <;> first | (exfalso; omega) | rfl | (congr 1; omega) | (congr 2; omega)) rfl dX6_wantsOf_103
  by_cases k_1_114 : c = 114
  · refine xr_tabIn (tgt := 106) E dX6_wantsOf_1 ⟨by omega, by omega⟩ 12 (by omega) (by omega) rfl (by decide) ?_
    refine xr_iconst E dX6_wantsOf_106 ?_
    exact xr_iret E hX hQ () hr (by unfold xNum; (repeat' split) <;> first | (exfalso; omega) | rfl | (congr 1; omega) | (congr 2; omega)) rfl dX6_wantsOf_107
  by_cases k_1_115 : c = 115
  · refine xr_tabIn (tgt := 106) E dX6_wantsOf_1 ⟨by omega, by omega⟩ 13 (by omega) (by omega) rfl (by decide) ?_
    refine xr_iconst E dX6_wantsOf_106 ?_
    exact xr_iret E hX hQ () hr (by unfold xNum; (repeat' split) <;> first | (exfalso; omega) | rfl | (congr 1; omega) | (congr 2; omega)) rfl dX6_wantsOf_107
  by_cases k_1_116 : c = 116
  · refine xr_tabIn (tgt := 104) E dX6_wantsOf_1 ⟨by omega, by omega⟩ 14 (by omega) (by omega) rfl (by decide) ?_
    refine xr_iconst E dX6_wantsOf_104 ?_
    exact xr_iret E hX hQ () hr (by unfold xNum; (repeat' split) <;> first | (exfalso; omega) | rfl | (congr 1; omega) | (congr 2; omega)) rfl dX6_wantsOf_105
  by_cases k_1_117 : c = 117
  · refine xr_tabIn (tgt := 106) E dX6_wantsOf_1 ⟨by omega, by omega⟩ 15 (by omega) (by omega) rfl (by decide) ?_
    refine xr_iconst E dX6_wantsOf_106 ?_
    exact xr_iret E hX hQ () hr (by unfold xNum; (repeat' split) <;> first | (exfalso; omega) | rfl | (congr 1; omega) | (congr 2; omega)) rfl dX6_wantsOf_107
  by_cases k_1_118 : c = 118
  · refine xr_tabIn (tgt := 106) E dX6_wantsOf_1 ⟨by omega, by omega⟩ 16 (by omega) (by omega) rfl (by decide) ?_
    refine xr_iconst E dX6_wantsOf_106 ?_
    exact xr_iret E hX hQ () hr (by unfold xNum; (repeat' split) <;> first | (exfalso; omega) | rfl | (congr 1; omega) | (congr 2; omega)) rfl dX6_wantsOf_107
  by_cases k_1_119 : c = 119
  · refine xr_tabIn (tgt := 106) E dX6_wantsOf_1 ⟨by omega, by omega⟩ 17 (by omega) (by omega) rfl (by decide) ?_
    refine xr_iconst E dX6_wantsOf_106 ?_
    exact xr_iret E hX hQ () hr (by unfold xNum; (repeat' split) <;> first | (exfalso; omega) | rfl | (congr 1; omega) | (congr 2; omega)) rfl dX6_wantsOf_107
  by_cases k_1_120 : c = 120
  · refine xr_tabIn (tgt := 106) E dX6_wantsOf_1 ⟨by omega, by omega⟩ 18 (by omega) (by omega) rfl (by decide) ?_
    refine xr_iconst E dX6_wantsOf_106 ?_
    exact xr_iret E hX hQ () hr (by unfold xNum; (repeat' split) <;> first | (exfalso; omega) | rfl | (congr 1; omega) | (congr 2; omega)) rfl dX6_wantsOf_107
  by_cases k_1_121 : c = 121
  · refine xr_tabIn (tgt := 106) E dX6_wantsOf_1 ⟨by omega, by omega⟩ 19 (by omega) (by omega) rfl (by decide) ?_
    refine xr_iconst E dX6_wantsOf_106 ?_
    exact xr_iret E hX hQ () hr (by unfold xNum; (repeat' split) <;> first | (exfalso; omega) | rfl | (congr 1; omega) | (congr 2; omega)) rfl dX6_wantsOf_107
  by_cases k_1_122 : c = 122
  · refine xr_tabIn (tgt := 104) E dX6_wantsOf_1 ⟨by omega, by omega⟩ 20 (by omega) (by omega) rfl (by decide) ?_
    refine xr_iconst E dX6_wantsOf_104 ?_
    exact xr_iret E hX hQ () hr (by unfold xNum; (repeat' split) <;> first | (exfalso; omega) | rfl | (congr 1; omega) | (congr 2; omega)) rfl dX6_wantsOf_105
  refine xr_tabOut (tgt := 106) E dX6_wantsOf_1 ⟨by omega, by omega⟩ (by omega) (by decide) ?_
  refine xr_iconst E dX6_wantsOf_106 ?_
  exact xr_iret E hX hQ () hr (by unfold xNum; (repeat' split) <;> first | (exfalso; omega) | rfl | (congr 1; omega) | (congr 2; omega)) rfl dX6_wantsOf_107
abbrev rm_X6_ones : Room := { frames := 0, cells := 0, slots := 0, locals := 0 }
set_option maxHeartbeats 4000000 in
set_option maxRecDepth 100000 in
theorem c_X6_ones (l : Launch) (D : va_G) (y : CY) (z sz : Nat) (x : Int) : Met l yX6_ones (Cond.code yX6_ones cX6_ones 3 (some .int) :: TW) rm_X6_ones (va_Pc [.int (iI x)] (PX D y z [] sz)) (va_Qi (fun (r : Int32) (uu : Unit) => r = iI (xOn x 12)) (fun uu t => BX D [] (va_A [] sz) t) (va_A [] sz)) 0 0 (va_A [] sz) := by
  refine xm_i (by decide) (Nat.le_of_ble_eq_true rfl) (fun p e s m args below meth cX ls A Q E hr hnm hX hl hQ => ?_)
  have hl : lv_has ls 3 [(0, .int (iI x))] := hl
  refine xr_iconst E dX6_ones_0 ?_
  refine xr_istore_n (lv' := [(1, .int (iI 0)), (0, .int (iI x))]) E hl dX6_ones_1 rfl (by decide) rfl (fun ls hl => ?_)
  refine xr_iconst E dX6_ones_2 ?_
  refine xr_istore_n (lv' := [(2, .int (iI 0)), (1, .int (iI 0)), (0, .int (iI x))]) E hl dX6_ones_3 rfl (by decide) rfl (fun ls hl => ?_)
  have L_4_1 : ∀ (nmu : Nat) (n : Nat) (acc : Int) (k : Int), 12 - n < nmu → (k = n ∧ k ≤ 12) → (acc = xOn x n) → ∀ (H : Heap) (locs : List Loc) (ls : Array Slot), XW D A s.heap ([] : va_W) H locs → lv_has ls 3 [(0, .int (iI x)), (1, .int (iI acc)), (2, .int (iI k))] → W p l e rm_X6_ones s m args below meth cX H locs 0 0 Q (F0 m 4 ls []) := by
    intro nmu
    induction nmu with
    | zero =>
      intro n acc k hmu
      exact absurd hmu (Nat.not_lt_zero _)
    | succ nmu ih =>
      intro n acc k hmu hk ha H locs ls hX hl
      have ih_4_1 := ih
      clear ih
      refine xr_iload_n E hl 2 rfl dX6_ones_4 rfl ?_
      refine xr_bipush E dX6_ones_5 (by decide) ?_
      refine xr_icmp_ge (tgt := 24) E dX6_ones_7 (by decide) ⟨by omega, by omega⟩ (by decide) (fun c_7 => ?_) (fun c_7 => ?_)
      · have c_7 := c_7
        refine xr_iload_n E hl 1 rfl dX6_ones_24 rfl ?_
        exact xr_iret E hX hQ () hr (by rw [ha, show n = 12 by omega]) rfl dX6_ones_25
      · have c_7 := c_7
        refine xr_iload_n E hl 1 rfl dX6_ones_10 rfl ?_
        refine xr_iload_n E hl 0 rfl dX6_ones_11 rfl ?_
        refine xr_iload_n E hl 2 rfl dX6_ones_12 rfl ?_
        refine xr_ishr E dX6_ones_13 ?_
        refine xr_iconst E dX6_ones_14 ?_
        refine xr_iand E dX6_ones_15 ?_
        refine xr_iadd E dX6_ones_16 ?_
        refine xr_istore_n (lv' := [(1, .int (iI (acc + (bAnd (bShr x k) 1)))), (0, .int (iI x)), (2, .int (iI k))]) E hl dX6_ones_17 rfl (by decide) rfl (fun ls hl => ?_)
        refine xr_iinc (k := 2) (lv' := [(2, .int (iI (k + 1))), (1, .int (iI (acc + (bAnd (bShr x k) 1)))), (0, .int (iI x))]) E hl rfl dX6_ones_18 (by decide) rfl (fun ls hl => ?_)
        refine xr_goto (tgt := 4) E dX6_ones_21 (by decide) ?_
        exact ih_4_1 (n + 1) (acc + (bAnd (bShr x k) 1)) (k + 1) (by omega) (by omega) (by rw [xOn_s, ← ha, ← hk.1]) _ _ _ hX (lv_sub hl [2, 1, 0] rfl)
  exact L_4_1 _ 0 0 0 (Nat.lt_succ_self _) (by omega) rfl _ _ _ hX (lv_sub hl [2, 1, 0] rfl)
abbrev rm_X6_bring : Room := { frames := 0, cells := 0, slots := 0, locals := 0 }
set_option maxHeartbeats 4000000 in
set_option maxRecDepth 100000 in
theorem c_X6_bring (l : Launch) (D : va_G) (y : CY) (z sz : Nat) (a_src a_dst : Nat) (src : Int → Int) (dst : Int → Int) (i : Int) (j : Int) (hi : 0 ≤ i ∧ i + 31 ≤ 31) (hj : 0 ≤ j ∧ j + 31 ≤ 31) : Met l yX6_bring (Cond.code yX6_bring cX6_bring 5 none :: TW) rm_X6_bring (va_Pc [.ref a_src, .int (iI i), .ref a_dst, .int (iI j)] (PX D y z (W_b1 y a_src a_dst src dst) sz)) (va_Qv (fun (uu : (Int → Int)) => uu = cpR dst j src i) (fun uu t => BX D (W_b1 y a_src a_dst src uu) (va_A (W_b1 y a_src a_dst src dst) sz) t) (va_A (W_b1 y a_src a_dst src dst) sz)) 0 0 (va_A (W_b1 y a_src a_dst src dst) sz) := by
  refine xm_v (by decide) (Nat.le_of_ble_eq_true rfl) (fun p e s m args below meth cX ls A Q E hr hnm hX hl hQ => ?_)
  have hl : lv_has ls 5 [(0, .ref a_src), (1, .int (iI i)), (2, .ref a_dst), (3, .int (iI j))] := hl
  refine xr_iconst E dX6_bring_0 ?_
  refine xr_istore (lv' := [(4, .int (iI 0)), (0, .ref a_src), (1, .int (iI i)), (2, .ref a_dst), (3, .int (iI j))]) E hl dX6_bring_1 (by decide) rfl (fun ls hl => ?_)
  have L_3_1 : ∀ (nmu : Nat) (k : Int) (d1 : Int → Int), (31 - k).toNat < nmu → (0 ≤ k ∧ k ≤ 31) → (d1 = fillR dst j k (fun k => src (i + (k - j)))) → ∀ (H : Heap) (locs : List Loc) (ls : Array Slot), XW D A s.heap (W_b1 y a_src a_dst src d1) H locs → lv_has ls 5 [(0, .ref a_src), (1, .int (iI i)), (2, .ref a_dst), (3, .int (iI j)), (4, .int (iI k))] → W p l e rm_X6_bring s m args below meth cX H locs 0 0 Q (F0 m 3 ls []) := by
    intro nmu
    induction nmu with
    | zero =>
      intro k d1 hmu
      exact absurd hmu (Nat.not_lt_zero _)
    | succ nmu ih =>
      intro k d1 hmu hk hd1 H locs ls hX hl
      have ih_3_1 := ih
      clear ih
      refine xr_iload E hl 4 rfl dX6_bring_3 ?_
      refine xr_bipush E dX6_bring_5 (by decide) ?_
      refine xr_icmp_ge (tgt := 28) E dX6_bring_7 (by decide) ⟨by omega, by omega⟩ (by decide) (fun c_7 => ?_) (fun c_7 => ?_)
      · have c_7 := c_7
        exact xr_vret E hX hQ d1 hr (by rw [hd1, show k = 31 by omega]; rfl) rfl dX6_bring_28
      · have c_7 := c_7
        refine xr_aload_n E hl 2 rfl dX6_bring_10 rfl ?_
        refine xr_iload_n E hl 3 rfl dX6_bring_11 rfl ?_
        refine xr_iload E hl 4 rfl dX6_bring_12 ?_
        refine xr_iadd E dX6_bring_14 ?_
        refine xr_aload_n E hl 0 rfl dX6_bring_15 rfl ?_
        refine xr_iload_n E hl 1 rfl dX6_bring_16 rfl ?_
        refine xr_iload E hl 4 rfl dX6_bring_17 ?_
        refine xr_iadd E dX6_bring_19 ?_
        refine xr_iald E hX 0 rfl (by omega) (by omega) (by decide) dX6_bring_20 ?_
        refine xr_iast (W1 := (W_b1 y a_src a_dst src (up d1 (j + k) (src (i + k))))) E hX 1 rfl (by omega) (by omega) (by decide) rfl dX6_bring_21 (fun H locs hX => ?_)
        refine xr_iinc (k := 4) (lv' := [(4, .int (iI (k + 1))), (0, .ref a_src), (1, .int (iI i)), (2, .ref a_dst), (3, .int (iI j))]) E hl rfl dX6_bring_22 (by decide) rfl (fun ls hl => ?_)
        refine xr_goto (tgt := 3) E dX6_bring_25 (by decide) ?_
        exact ih_3_1 (k + 1) (up d1 (j + k) (src (i + k))) (by omega) (by omega) (by rw [hd1]; exact fillR_up _ _ _ _ _ hk.1 (by rw [show i + (j + k - j) = i + k by omega])) _ _ _ hX (lv_sub hl [1, 2, 3, 4, 0] rfl)
  exact L_3_1 _ 0 dst (Nat.lt_succ_self _) (by omega) (fillR_0 _ _ _).symm _ _ _ hX (lv_sub hl [1, 2, 3, 4, 0] rfl)
abbrev rm_X6_bring_b : Room := { frames := 0, cells := 0, slots := 0, locals := 0 }
set_option maxHeartbeats 4000000 in
set_option maxRecDepth 100000 in
theorem c_X6_bring_b (l : Launch) (D : va_G) (y : CY) (z sz : Nat) (a_src a_dst : Nat) (src : Int → Int) (dst : Int → Int) (i : Int) (j : Int) (hi : 0 ≤ i ∧ i + 31 ≤ 31) (hj : 0 ≤ j ∧ j + 31 ≤ 155) : Met l yX6_bring (Cond.code yX6_bring cX6_bring 5 none :: TW) rm_X6_bring_b (va_Pc [.ref a_src, .int (iI i), .ref a_dst, .int (iI j)] (PX D y z (W_b2 y a_src a_dst src dst) sz)) (va_Qv (fun (uu : (Int → Int)) => uu = cpR dst j src i) (fun uu t => BX D (W_b2 y a_src a_dst src uu) (va_A (W_b2 y a_src a_dst src dst) sz) t) (va_A (W_b2 y a_src a_dst src dst) sz)) 0 0 (va_A (W_b2 y a_src a_dst src dst) sz) := by
  refine xm_v (by decide) (Nat.le_of_ble_eq_true rfl) (fun p e s m args below meth cX ls A Q E hr hnm hX hl hQ => ?_)
  have hl : lv_has ls 5 [(0, .ref a_src), (1, .int (iI i)), (2, .ref a_dst), (3, .int (iI j))] := hl
  refine xr_iconst E dX6_bring_0 ?_
  refine xr_istore (lv' := [(4, .int (iI 0)), (0, .ref a_src), (1, .int (iI i)), (2, .ref a_dst), (3, .int (iI j))]) E hl dX6_bring_1 (by decide) rfl (fun ls hl => ?_)
  have L_3_1 : ∀ (nmu : Nat) (k : Int) (d1 : Int → Int), (31 - k).toNat < nmu → (0 ≤ k ∧ k ≤ 31) → (d1 = fillR dst j k (fun k => src (i + (k - j)))) → ∀ (H : Heap) (locs : List Loc) (ls : Array Slot), XW D A s.heap (W_b2 y a_src a_dst src d1) H locs → lv_has ls 5 [(0, .ref a_src), (1, .int (iI i)), (2, .ref a_dst), (3, .int (iI j)), (4, .int (iI k))] → W p l e rm_X6_bring_b s m args below meth cX H locs 0 0 Q (F0 m 3 ls []) := by
    intro nmu
    induction nmu with
    | zero =>
      intro k d1 hmu
      exact absurd hmu (Nat.not_lt_zero _)
    | succ nmu ih =>
      intro k d1 hmu hk hd1 H locs ls hX hl
      have ih_3_1 := ih
      clear ih
      refine xr_iload E hl 4 rfl dX6_bring_3 ?_
      refine xr_bipush E dX6_bring_5 (by decide) ?_
      refine xr_icmp_ge (tgt := 28) E dX6_bring_7 (by decide) ⟨by omega, by omega⟩ (by decide) (fun c_7 => ?_) (fun c_7 => ?_)
      · have c_7 := c_7
        exact xr_vret E hX hQ d1 hr (by rw [hd1, show k = 31 by omega]; rfl) rfl dX6_bring_28
      · have c_7 := c_7
        refine xr_aload_n E hl 2 rfl dX6_bring_10 rfl ?_
        refine xr_iload_n E hl 3 rfl dX6_bring_11 rfl ?_
        refine xr_iload E hl 4 rfl dX6_bring_12 ?_
        refine xr_iadd E dX6_bring_14 ?_
        refine xr_aload_n E hl 0 rfl dX6_bring_15 rfl ?_
        refine xr_iload_n E hl 1 rfl dX6_bring_16 rfl ?_
        refine xr_iload E hl 4 rfl dX6_bring_17 ?_
        refine xr_iadd E dX6_bring_19 ?_
        refine xr_iald E hX 0 rfl (by omega) (by omega) (by decide) dX6_bring_20 ?_
        refine xr_iast (W1 := (W_b2 y a_src a_dst src (up d1 (j + k) (src (i + k))))) E hX 1 rfl (by omega) (by omega) (by decide) rfl dX6_bring_21 (fun H locs hX => ?_)
        refine xr_iinc (k := 4) (lv' := [(4, .int (iI (k + 1))), (0, .ref a_src), (1, .int (iI i)), (2, .ref a_dst), (3, .int (iI j))]) E hl rfl dX6_bring_22 (by decide) rfl (fun ls hl => ?_)
        refine xr_goto (tgt := 3) E dX6_bring_25 (by decide) ?_
        exact ih_3_1 (k + 1) (up d1 (j + k) (src (i + k))) (by omega) (by omega) (by rw [hd1]; exact fillR_up _ _ _ _ _ hk.1 (by rw [show i + (j + k - j) = i + k by omega])) _ _ _ hX (lv_sub hl [1, 2, 3, 4, 0] rfl)
  exact L_3_1 _ 0 dst (Nat.lt_succ_self _) (by omega) (fillR_0 _ _ _).symm _ _ _ hX (lv_sub hl [1, 2, 3, 4, 0] rfl)
abbrev rm_X6_bring_c : Room := { frames := 0, cells := 0, slots := 0, locals := 0 }
set_option maxHeartbeats 4000000 in
set_option maxRecDepth 100000 in
theorem c_X6_bring_c (l : Launch) (D : va_G) (y : CY) (z sz : Nat) (a_src a_dst : Nat) (src : Int → Int) (dst : Int → Int) (i : Int) (j : Int) (hi : 0 ≤ i ∧ i + 31 ≤ 155) (hj : 0 ≤ j ∧ j + 31 ≤ 31) : Met l yX6_bring (Cond.code yX6_bring cX6_bring 5 none :: TW) rm_X6_bring_c (va_Pc [.ref a_src, .int (iI i), .ref a_dst, .int (iI j)] (PX D y z (W_b3 y a_src a_dst src dst) sz)) (va_Qv (fun (uu : (Int → Int)) => uu = cpR dst j src i) (fun uu t => BX D (W_b3 y a_src a_dst src uu) (va_A (W_b3 y a_src a_dst src dst) sz) t) (va_A (W_b3 y a_src a_dst src dst) sz)) 0 0 (va_A (W_b3 y a_src a_dst src dst) sz) := by
  refine xm_v (by decide) (Nat.le_of_ble_eq_true rfl) (fun p e s m args below meth cX ls A Q E hr hnm hX hl hQ => ?_)
  have hl : lv_has ls 5 [(0, .ref a_src), (1, .int (iI i)), (2, .ref a_dst), (3, .int (iI j))] := hl
  refine xr_iconst E dX6_bring_0 ?_
  refine xr_istore (lv' := [(4, .int (iI 0)), (0, .ref a_src), (1, .int (iI i)), (2, .ref a_dst), (3, .int (iI j))]) E hl dX6_bring_1 (by decide) rfl (fun ls hl => ?_)
  have L_3_1 : ∀ (nmu : Nat) (k : Int) (d1 : Int → Int), (31 - k).toNat < nmu → (0 ≤ k ∧ k ≤ 31) → (d1 = fillR dst j k (fun k => src (i + (k - j)))) → ∀ (H : Heap) (locs : List Loc) (ls : Array Slot), XW D A s.heap (W_b3 y a_src a_dst src d1) H locs → lv_has ls 5 [(0, .ref a_src), (1, .int (iI i)), (2, .ref a_dst), (3, .int (iI j)), (4, .int (iI k))] → W p l e rm_X6_bring_c s m args below meth cX H locs 0 0 Q (F0 m 3 ls []) := by
    intro nmu
    induction nmu with
    | zero =>
      intro k d1 hmu
      exact absurd hmu (Nat.not_lt_zero _)
    | succ nmu ih =>
      intro k d1 hmu hk hd1 H locs ls hX hl
      have ih_3_1 := ih
      clear ih
      refine xr_iload E hl 4 rfl dX6_bring_3 ?_
      refine xr_bipush E dX6_bring_5 (by decide) ?_
      refine xr_icmp_ge (tgt := 28) E dX6_bring_7 (by decide) ⟨by omega, by omega⟩ (by decide) (fun c_7 => ?_) (fun c_7 => ?_)
      · have c_7 := c_7
        exact xr_vret E hX hQ d1 hr (by rw [hd1, show k = 31 by omega]; rfl) rfl dX6_bring_28
      · have c_7 := c_7
        refine xr_aload_n E hl 2 rfl dX6_bring_10 rfl ?_
        refine xr_iload_n E hl 3 rfl dX6_bring_11 rfl ?_
        refine xr_iload E hl 4 rfl dX6_bring_12 ?_
        refine xr_iadd E dX6_bring_14 ?_
        refine xr_aload_n E hl 0 rfl dX6_bring_15 rfl ?_
        refine xr_iload_n E hl 1 rfl dX6_bring_16 rfl ?_
        refine xr_iload E hl 4 rfl dX6_bring_17 ?_
        refine xr_iadd E dX6_bring_19 ?_
        refine xr_iald E hX 0 rfl (by omega) (by omega) (by decide) dX6_bring_20 ?_
        refine xr_iast (W1 := (W_b3 y a_src a_dst src (up d1 (j + k) (src (i + k))))) E hX 1 rfl (by omega) (by omega) (by decide) rfl dX6_bring_21 (fun H locs hX => ?_)
        refine xr_iinc (k := 4) (lv' := [(4, .int (iI (k + 1))), (0, .ref a_src), (1, .int (iI i)), (2, .ref a_dst), (3, .int (iI j))]) E hl rfl dX6_bring_22 (by decide) rfl (fun ls hl => ?_)
        refine xr_goto (tgt := 3) E dX6_bring_25 (by decide) ?_
        exact ih_3_1 (k + 1) (up d1 (j + k) (src (i + k))) (by omega) (by omega) (by rw [hd1]; exact fillR_up _ _ _ _ _ hk.1 (by rw [show i + (j + k - j) = i + k by omega])) _ _ _ hX (lv_sub hl [1, 2, 3, 4, 0] rfl)
  exact L_3_1 _ 0 dst (Nat.lt_succ_self _) (by omega) (fillR_0 _ _ _).symm _ _ _ hX (lv_sub hl [1, 2, 3, 4, 0] rfl)
abbrev rm_X6_refuse : Room := { frames := 0, cells := 0, slots := 0, locals := 0 }
set_option maxHeartbeats 4000000 in
set_option maxRecDepth 100000 in
theorem c_X6_refuse (l : Launch) (D : va_G) (y : CY) (z sz : Nat) (hMo a_now a_asd a_pst a_mrf a_txt a_olt a_ofr a_nbs a_best a_wys a_rwx a_shx a_bef : Nat) (msts : Int) (mrf : Int → Int) (mbyt : Int) (mord : Int) (alw : Int) (bco : Int) (alm : Int) (abt : Int) (mlt : Int) (beg : Int) (figm : Int) (w : Int) (hw : -4 ≤ w ∧ w ≤ -2) : Met l yX6_refuse (Cond.code yX6_refuse cX6_refuse 2 (some .int) :: TW) rm_X6_refuse (va_Pc [.ref hMo, .int (iI w)] (PX D y z (W_Mr y hMo a_now a_asd a_pst a_mrf a_txt a_olt a_ofr a_nbs a_best a_wys a_rwx a_shx a_bef msts mrf mbyt mord alw bco alm abt mlt beg figm) sz)) (va_Qi (fun (r : Int32) (uu : (Int → Int)) => r = iI w ∧ uu = rfU mrf w) (fun uu t => BX D (W_Mr y hMo a_now a_asd a_pst a_mrf a_txt a_olt a_ofr a_nbs a_best a_wys a_rwx a_shx a_bef msts uu mbyt mord alw bco alm abt mlt beg figm) (va_A (W_Mr y hMo a_now a_asd a_pst a_mrf a_txt a_olt a_ofr a_nbs a_best a_wys a_rwx a_shx a_bef msts mrf mbyt mord alw bco alm abt mlt beg figm) sz) t) (va_A (W_Mr y hMo a_now a_asd a_pst a_mrf a_txt a_olt a_ofr a_nbs a_best a_wys a_rwx a_shx a_bef msts mrf mbyt mord alw bco alm abt mlt beg figm) sz)) 0 0 (va_A (W_Mr y hMo a_now a_asd a_pst a_mrf a_txt a_olt a_ofr a_nbs a_best a_wys a_rwx a_shx a_bef msts mrf mbyt mord alw bco alm abt mlt beg figm) sz) := by
  refine xm_i (by decide) (Nat.le_of_ble_eq_true rfl) (fun p e s m args below meth cX ls A Q E hr hnm hX hl hQ => ?_)
  have hl : lv_has ls 2 [(0, .ref hMo), (1, .int (iI w))] := hl
  refine xr_aload_n E hl 0 rfl dX6_refuse_0 rfl ?_
  refine xr_get E hX 0 rfl rfl ly_X6 4 (by decide) fl_X6_19 rfl dX6_refuse_1 ?_
  refine xr_bipush E dX6_refuse_4 (by decide) ?_
  refine xr_iload_n E hl 1 rfl dX6_refuse_6 rfl ?_
  refine xr_isub E dX6_refuse_7 ?_
  refine xr_dup2 E dX6_refuse_8 rfl rfl ?_
  refine xr_iald E hX 1 rfl (by omega) (by omega) (by decide) dX6_refuse_9 ?_
  refine xr_iconst E dX6_refuse_10 ?_
  refine xr_iadd E dX6_refuse_11 ?_
  refine xr_iast (W1 := (W_Mr y hMo a_now a_asd a_pst a_mrf a_txt a_olt a_ofr a_nbs a_best a_wys a_rwx a_shx a_bef msts (up mrf ((-2) - w) ((mrf ((-2) - w)) + 1)) mbyt mord alw bco alm abt mlt beg figm)) E hX 1 rfl (by omega) (by omega) (by decide) rfl dX6_refuse_12 (fun H locs hX => ?_)
  refine xr_iload_n E hl 1 rfl dX6_refuse_13 rfl ?_
  exact xr_iret E hX hQ (up mrf ((-2) - w) ((mrf ((-2) - w)) + 1)) hr ⟨rfl, rfl⟩ rfl dX6_refuse_14
abbrev rm_X6_save : Room := { frames := 1, cells := 0, slots := 0, locals := 24 }
set_option maxHeartbeats 4000000 in
set_option maxRecDepth 100000 in
theorem c_X6_save (l : Launch) (D : va_G) (y : CY) (z sz : Nat) (hMo a_now a_asd a_pst a_mrf a_txt a_olt a_ofr a_nbs a_best a_wys a_rwx a_shx a_bef : Nat) (now : Int → Int) (asd : Int → Int) (msts : Int) (mbyt : Int) (mord : Int) (alw : Int) (bco : Int) (alm : Int) (abt : Int) (mlt : Int) (beg : Int) (figm : Int) : Met l yX6_save (Cond.code yX6_save cX6_save 1 none :: TW) rm_X6_save (va_Pc [.ref hMo] (PX D y z (W_Mna y hMo a_now a_asd a_pst a_mrf a_txt a_olt a_ofr a_nbs a_best a_wys a_rwx a_shx a_bef now asd msts mbyt mord alw bco alm abt mlt beg figm) sz)) (va_Qv (fun (uu : (Int → Int)) => uu = cpR asd 0 now 0) (fun uu t => BX D (W_Mna y hMo a_now a_asd a_pst a_mrf a_txt a_olt a_ofr a_nbs a_best a_wys a_rwx a_shx a_bef now uu msts mbyt mord alw bco alm abt mlt beg figm) (va_A (W_Mna y hMo a_now a_asd a_pst a_mrf a_txt a_olt a_ofr a_nbs a_best a_wys a_rwx a_shx a_bef now asd msts mbyt mord alw bco alm abt mlt beg figm) sz) t) (va_A (W_Mna y hMo a_now a_asd a_pst a_mrf a_txt a_olt a_ofr a_nbs a_best a_wys a_rwx a_shx a_bef now asd msts mbyt mord alw bco alm abt mlt beg figm) sz)) 0 0 (va_A (W_Mna y hMo a_now a_asd a_pst a_mrf a_txt a_olt a_ofr a_nbs a_best a_wys a_rwx a_shx a_bef now asd msts mbyt mord alw bco alm abt mlt beg figm) sz) := by
  refine xm_v (by decide) (Nat.le_of_ble_eq_true rfl) (fun p e s m args below meth cX ls A Q E hr hnm hX hl hQ => ?_)
  have hl : lv_has ls 1 [(0, .ref hMo)] := hl
  refine xr_aload_n E hl 0 rfl dX6_save_0 rfl ?_
  refine xr_get E hX 0 rfl rfl ly_X6 0 (by decide) fl_X6_7 rfl dX6_save_1 ?_
  refine xr_iconst E dX6_save_4 ?_
  refine xr_aload_n E hl 0 rfl dX6_save_5 rfl ?_
  refine xr_get E hX 0 rfl rfl ly_X6 1 (by decide) fl_X6_13 rfl dX6_save_6 ?_
  refine xr_iconst E dX6_save_9 ?_
  refine xk_v (W2 := fun uu => (W_Mna y hMo a_now a_asd a_pst a_mrf a_txt a_olt a_ofr a_nbs a_best a_wys a_rwx a_shx a_bef now uu msts mbyt mord alw bco alm abt mlt beg figm)) E hX [1, 2] rfl (xv_S (As := [.ref a_now, .int (iI 0), .ref a_asd, .int (iI 0)]) E hX hl (c_X6_bring l D y z _ a_now a_asd now asd 0 0 (by omega) (by omega)) ml_X6_50 st_X6_bring in_X6 co_X6_bring 4 (by decide) ⟨rfl, rfl⟩ ⟨Nat.le_of_ble_eq_true rfl, Nat.le_of_ble_eq_true rfl⟩ [1, 2] rfl rfl rfl rfl (Nat.le_of_ble_eq_true rfl) dX6_save_10 ⟨Nat.le_refl _, Nat.le_refl _⟩) [2, 0, 1] 2 (fun _ => rfl) (fun _ => rfl) (by decide) (by decide) (fun uu H locs hw hX => ?_)
  subst hw
  have hX : XW D A s.heap (W_Mna y hMo a_now a_asd a_pst a_mrf a_txt a_olt a_ofr a_nbs a_best a_wys a_rwx a_shx a_bef now (cpR asd 0 now 0) msts mbyt mord alw bco alm abt mlt beg figm) H locs := hX
  exact xr_vret E hX hQ (cpR asd 0 now 0) hr rfl rfl dX6_save_13
abbrev rm_X6_finish : Room := { frames := 1, cells := 0, slots := 0, locals := 24 }
set_option maxHeartbeats 4000000 in
set_option maxRecDepth 100000 in
theorem c_X6_finish (l : Launch) (D : va_G) (y : CY) (z sz : Nat) (hMo a_now a_asd a_pst a_mrf a_txt a_olt a_ofr a_nbs a_best a_wys a_rwx a_shx a_bef : Nat) (asd : Int → Int) (pst : Int → Int) (msts : Int) (mrf : Int → Int) (mbyt : Int) (mord : Int) (alw : Int) (bco : Int) (alm : Int) (abt : Int) (mlt : Int) (beg : Int) (figm : Int) (w : Int) (hw : -4 ≤ w ∧ w ≤ 1000000) (hms : 0 ≤ msts ∧ msts ≤ 5) : Met l yX6_finish (Cond.code yX6_finish cX6_finish 3 (some .int) :: TW) rm_X6_finish (va_Pc [.ref hMo, .int (iI w)] (PX D y z (W_Mf y hMo a_now a_asd a_pst a_mrf a_txt a_olt a_ofr a_nbs a_best a_wys a_rwx a_shx a_bef asd pst msts mrf mbyt mord alw bco alm abt mlt beg figm) sz)) (va_Qi (fun (r : Int32) (uu : (Int → Int) × (Int → Int) × (Int)) => r = iI w ∧ uu = (mRf mrf w, mPast pst asd msts w, mSts msts w)) (fun uu t => BX D (W_Mf y hMo a_now a_asd a_pst a_mrf a_txt a_olt a_ofr a_nbs a_best a_wys a_rwx a_shx a_bef asd uu.2.1 uu.2.2 uu.1 mbyt mord alw bco alm abt mlt beg figm) (va_A (W_Mf y hMo a_now a_asd a_pst a_mrf a_txt a_olt a_ofr a_nbs a_best a_wys a_rwx a_shx a_bef asd pst msts mrf mbyt mord alw bco alm abt mlt beg figm) sz) t) (va_A (W_Mf y hMo a_now a_asd a_pst a_mrf a_txt a_olt a_ofr a_nbs a_best a_wys a_rwx a_shx a_bef asd pst msts mrf mbyt mord alw bco alm abt mlt beg figm) sz)) 0 0 (va_A (W_Mf y hMo a_now a_asd a_pst a_mrf a_txt a_olt a_ofr a_nbs a_best a_wys a_rwx a_shx a_bef asd pst msts mrf mbyt mord alw bco alm abt mlt beg figm) sz) := by
  refine xm_i (by decide) (Nat.le_of_ble_eq_true rfl) (fun p e s m args below meth cX ls A Q E hr hnm hX hl hQ => ?_)
  have hl : lv_has ls 3 [(0, .ref hMo), (1, .int (iI w))] := hl
  refine xr_iload_n E hl 1 rfl dX6_finish_0 rfl ?_
  refine xr_bipush E dX6_finish_1 (by decide) ?_
  refine xr_icmp_gt (tgt := 12) E dX6_finish_3 (by decide) ⟨by omega, by omega⟩ (by decide) (fun c_3 => ?_) (fun c_3 => ?_)
  · have c_3 := c_3
    refine xr_aload_n E hl 0 rfl dX6_finish_12 rfl ?_
    refine xr_get E hX 0 rfl rfl ly_X6 3 (by decide) fl_X6_58 rfl dX6_finish_13 ?_
    refine xr_iconst E dX6_finish_16 ?_
    refine xr_icmp_ne (tgt := 59) E dX6_finish_17 (by decide) ⟨by omega, by omega⟩ (by decide) (fun c_17 => ?_) (fun c_17 => ?_)
    · have c_17 := c_17
      refine xr_aload_n E hl 0 rfl dX6_finish_59 rfl ?_
      refine xr_get E hX 0 rfl rfl ly_X6 1 (by decide) fl_X6_13 rfl dX6_finish_60 ?_
      refine xr_iconst E dX6_finish_63 ?_
      refine xr_aload_n E hl 0 rfl dX6_finish_64 rfl ?_
      refine xr_get E hX 0 rfl rfl ly_X6 2 (by decide) fl_X6_16 rfl dX6_finish_65 ?_
      refine xr_bipush E dX6_finish_68 (by decide) ?_
      refine xr_aload_n E hl 0 rfl dX6_finish_70 rfl ?_
      refine xr_get E hX 0 rfl rfl ly_X6 3 (by decide) fl_X6_58 rfl dX6_finish_71 ?_
      refine xr_imul E dX6_finish_74 ?_
      refine xk_v (W2 := fun uu => (W_Mf y hMo a_now a_asd a_pst a_mrf a_txt a_olt a_ofr a_nbs a_best a_wys a_rwx a_shx a_bef asd uu msts mrf mbyt mord alw bco alm abt mlt beg figm)) E hX [1, 2] rfl (xv_S (As := [.ref a_asd, .int (iI 0), .ref a_pst, .int (iI (31 * msts))]) E hX hl (c_X6_bring_b l D y z _ a_asd a_pst asd pst 0 (31 * msts) (by omega) (by omega)) ml_X6_50 st_X6_bring in_X6 co_X6_bring 4 (by decide) ⟨rfl, rfl⟩ ⟨Nat.le_of_ble_eq_true rfl, Nat.le_of_ble_eq_true rfl⟩ [1, 2] rfl rfl rfl rfl (Nat.le_of_ble_eq_true rfl) dX6_finish_75 ⟨Nat.le_refl _, Nat.le_refl _⟩) [2, 0, 1, 5] 2 (fun _ => rfl) (fun _ => rfl) (by decide) (by decide) (fun uu H locs hw hX => ?_)
      subst hw
      have hX : XW D A s.heap (W_Mf y hMo a_now a_asd a_pst a_mrf a_txt a_olt a_ofr a_nbs a_best a_wys a_rwx a_shx a_bef asd (cpR pst (31 * msts) asd 0) msts mrf mbyt mord alw bco alm abt mlt beg figm) H locs := hX
      refine xr_aload_n E hl 0 rfl dX6_finish_78 rfl ?_
      refine xr_dup E dX6_finish_79 rfl ?_
      refine xr_get E hX 0 rfl rfl ly_X6 3 (by decide) fl_X6_58 rfl dX6_finish_80 ?_
      refine xr_iconst E dX6_finish_83 ?_
      refine xr_iadd E dX6_finish_84 ?_
      refine xr_put (W1 := (W_Mf y hMo a_now a_asd a_pst a_mrf a_txt a_olt a_ofr a_nbs a_best a_wys a_rwx a_shx a_bef asd (cpR pst (31 * msts) asd 0) (msts + 1) mrf mbyt mord alw bco alm abt mlt beg figm)) E hX 0 rfl rfl ly_X6 tyX6_ok nmX6 3 (by decide) fl_X6_58 rfl rfl rfl (Nat.le_of_ble_eq_true rfl) rfl dX6_finish_85 (fun H locs hX => ?_)
      refine xr_iload_n E hl 1 rfl dX6_finish_88 rfl ?_
      exact xr_iret E hX hQ (mrf, cpR pst (31 * msts) asd 0, (msts + 1)) hr (by refine ⟨rfl, ?_⟩; unfold mRf mPast mSts; first | (rw [if_pos (by omega), if_pos (by omega), if_pos (by omega)]; done) | (rw [if_neg (by omega), if_neg (by omega), if_neg (by omega), if_neg (by omega), if_neg (by omega)]; done) | exact mFin5 (by omega) (by omega) (by omega) hp1) rfl dX6_finish_89
    · have c_17 := c_17
      refine xr_iconst E dX6_finish_20 ?_
      refine xr_istore_n (lv' := [(2, .int (iI 0)), (0, .ref hMo), (1, .int (iI w))]) E hl dX6_finish_21 rfl (by decide) rfl (fun ls hl => ?_)
      have L_22_1 : ∀ (nmu : Nat) (k : Int) (p1 : Int → Int), (124 - k).toNat < nmu → (0 ≤ k ∧ k ≤ 124) → (p1 = fillR pst 0 k (fun k => pst (k + 31))) → ∀ (H : Heap) (locs : List Loc) (ls : Array Slot), XW D A s.heap (W_Mf y hMo a_now a_asd a_pst a_mrf a_txt a_olt a_ofr a_nbs a_best a_wys a_rwx a_shx a_bef asd p1 msts mrf mbyt mord alw bco alm abt mlt beg figm) H locs → lv_has ls 3 [(0, .ref hMo), (1, .int (iI w)), (2, .int (iI k))] → W p l e rm_X6_finish s m args below meth cX H locs 0 0 Q (F0 m 22 ls []) := by
        intro nmu
        induction nmu with
        | zero =>
          intro k p1 hmu
          exact absurd hmu (Nat.not_lt_zero _)
        | succ nmu ih =>
          intro k p1 hmu hk hp1 H locs ls hX hl
          have ih_22_1 := ih
          clear ih
          refine xr_iload_n E hl 2 rfl dX6_finish_22 rfl ?_
          refine xr_bipush E dX6_finish_23 (by decide) ?_
          refine xr_icmp_ge (tgt := 49) E dX6_finish_25 (by decide) ⟨by omega, by omega⟩ (by decide) (fun c_25 => ?_) (fun c_25 => ?_)
          · have c_25 := c_25
            refine xr_aload_n E hl 0 rfl dX6_finish_49 rfl ?_
            refine xr_dup E dX6_finish_50 rfl ?_
            refine xr_get E hX 0 rfl rfl ly_X6 3 (by decide) fl_X6_58 rfl dX6_finish_51 ?_
            refine xr_iconst E dX6_finish_54 ?_
            refine xr_isub E dX6_finish_55 ?_
            refine xr_put (W1 := (W_Mf y hMo a_now a_asd a_pst a_mrf a_txt a_olt a_ofr a_nbs a_best a_wys a_rwx a_shx a_bef asd p1 (msts - 1) mrf mbyt mord alw bco alm abt mlt beg figm)) E hX 0 rfl rfl ly_X6 tyX6_ok nmX6 3 (by decide) fl_X6_58 rfl rfl rfl (Nat.le_of_ble_eq_true rfl) rfl dX6_finish_56 (fun H locs hX => ?_)
            refine xr_aload_n E hl 0 rfl dX6_finish_59 rfl ?_
            refine xr_get E hX 0 rfl rfl ly_X6 1 (by decide) fl_X6_13 rfl dX6_finish_60 ?_
            refine xr_iconst E dX6_finish_63 ?_
            refine xr_aload_n E hl 0 rfl dX6_finish_64 rfl ?_
            refine xr_get E hX 0 rfl rfl ly_X6 2 (by decide) fl_X6_16 rfl dX6_finish_65 ?_
            refine xr_bipush E dX6_finish_68 (by decide) ?_
            refine xr_aload_n E hl 0 rfl dX6_finish_70 rfl ?_
            refine xr_get E hX 0 rfl rfl ly_X6 3 (by decide) fl_X6_58 rfl dX6_finish_71 ?_
            refine xr_imul E dX6_finish_74 ?_
            refine xk_v (W2 := fun uu => (W_Mf y hMo a_now a_asd a_pst a_mrf a_txt a_olt a_ofr a_nbs a_best a_wys a_rwx a_shx a_bef asd uu (msts - 1) mrf mbyt mord alw bco alm abt mlt beg figm)) E hX [1, 2] rfl (xv_S (As := [.ref a_asd, .int (iI 0), .ref a_pst, .int (iI (31 * (msts - 1)))]) E hX hl (c_X6_bring_b l D y z _ a_asd a_pst asd p1 0 (31 * (msts - 1)) (by omega) (by omega)) ml_X6_50 st_X6_bring in_X6 co_X6_bring 4 (by decide) ⟨rfl, rfl⟩ ⟨Nat.le_of_ble_eq_true rfl, Nat.le_of_ble_eq_true rfl⟩ [1, 2] rfl rfl rfl rfl (Nat.le_of_ble_eq_true rfl) dX6_finish_75 ⟨Nat.le_refl _, Nat.le_refl _⟩) [2, 0, 1, 5] 2 (fun _ => rfl) (fun _ => rfl) (by decide) (by decide) (fun uu H locs hw hX => ?_)
            subst hw
            have hX : XW D A s.heap (W_Mf y hMo a_now a_asd a_pst a_mrf a_txt a_olt a_ofr a_nbs a_best a_wys a_rwx a_shx a_bef asd (cpR p1 (31 * (msts - 1)) asd 0) (msts - 1) mrf mbyt mord alw bco alm abt mlt beg figm) H locs := hX
            refine xr_aload_n E hl 0 rfl dX6_finish_78 rfl ?_
            refine xr_dup E dX6_finish_79 rfl ?_
            refine xr_get E hX 0 rfl rfl ly_X6 3 (by decide) fl_X6_58 rfl dX6_finish_80 ?_
            refine xr_iconst E dX6_finish_83 ?_
            refine xr_iadd E dX6_finish_84 ?_
            refine xr_put (W1 := (W_Mf y hMo a_now a_asd a_pst a_mrf a_txt a_olt a_ofr a_nbs a_best a_wys a_rwx a_shx a_bef asd (cpR p1 (31 * (msts - 1)) asd 0) ((msts - 1) + 1) mrf mbyt mord alw bco alm abt mlt beg figm)) E hX 0 rfl rfl ly_X6 tyX6_ok nmX6 3 (by decide) fl_X6_58 rfl rfl rfl (Nat.le_of_ble_eq_true rfl) rfl dX6_finish_85 (fun H locs hX => ?_)
            refine xr_iload_n E hl 1 rfl dX6_finish_88 rfl ?_
            exact xr_iret E hX hQ (mrf, cpR p1 (31 * (msts - 1)) asd 0, ((msts - 1) + 1)) hr (by refine ⟨rfl, ?_⟩; unfold mRf mPast mSts; first | (rw [if_pos (by omega), if_pos (by omega), if_pos (by omega)]; done) | (rw [if_neg (by omega), if_neg (by omega), if_neg (by omega), if_neg (by omega), if_neg (by omega)]; done) | exact mFin5 (by omega) (by omega) (by omega) hp1) rfl dX6_finish_89
          · have c_25 := c_25
            refine xr_aload_n E hl 0 rfl dX6_finish_28 rfl ?_
            refine xr_get E hX 0 rfl rfl ly_X6 2 (by decide) fl_X6_16 rfl dX6_finish_29 ?_
            refine xr_iload_n E hl 2 rfl dX6_finish_32 rfl ?_
            refine xr_aload_n E hl 0 rfl dX6_finish_33 rfl ?_
            refine xr_get E hX 0 rfl rfl ly_X6 2 (by decide) fl_X6_16 rfl dX6_finish_34 ?_
            refine xr_iload_n E hl 2 rfl dX6_finish_37 rfl ?_
            refine xr_bipush E dX6_finish_38 (by decide) ?_
            refine xr_iadd E dX6_finish_40 ?_
            refine xr_iald E hX 2 rfl (by omega) (by omega) (by decide) dX6_finish_41 ?_
            refine xr_iast (W1 := (W_Mf y hMo a_now a_asd a_pst a_mrf a_txt a_olt a_ofr a_nbs a_best a_wys a_rwx a_shx a_bef asd (up p1 k (p1 (k + 31))) msts mrf mbyt mord alw bco alm abt mlt beg figm)) E hX 2 rfl (by omega) (by omega) (by decide) rfl dX6_finish_42 (fun H locs hX => ?_)
            refine xr_iinc (k := 2) (lv' := [(2, .int (iI (k + 1))), (0, .ref hMo), (1, .int (iI w))]) E hl rfl dX6_finish_43 (by decide) rfl (fun ls hl => ?_)
            refine xr_goto (tgt := 22) E dX6_finish_46 (by decide) ?_
            exact ih_22_1 (k + 1) (up p1 k (p1 (k + 31))) (by omega) (by omega) (by have e : p1 (k + 31) = pst (k + 31) := (by rw [hp1]; exact fillR_out (by omega)); rw [e, hp1]; rw [show up (fillR pst 0 k (fun k => pst (k + 31))) k (pst (k + 31)) = up (fillR pst 0 k (fun k => pst (k + 31))) (0 + k) (pst (k + 31)) by rw [Int.zero_add]]; exact fillR_up _ _ _ _ _ hk.1 (by rw [Int.zero_add])) _ _ _ hX (lv_sub hl [1, 2, 0] rfl)
      exact L_22_1 _ 0 pst (Nat.lt_succ_self _) (by omega) (fillR_0 _ _ _).symm _ _ _ hX (lv_sub hl [1, 2, 0] rfl)
  · have c_3 := c_3
    refine xr_aload_n E hl 0 rfl dX6_finish_6 rfl ?_
    refine xr_iload_n E hl 1 rfl dX6_finish_7 rfl ?_
    refine xk_i (W2 := fun uu => (W_Mf y hMo a_now a_asd a_pst a_mrf a_txt a_olt a_ofr a_nbs a_best a_wys a_rwx a_shx a_bef asd pst msts uu mbyt mord alw bco alm abt mlt beg figm)) E hX [0, 3] rfl (xv_V (As := [.int (iI w)]) E hX hl (c_X6_refuse l D y z _ hMo a_now a_asd a_pst a_mrf a_txt a_olt a_ofr a_nbs a_best a_wys a_rwx a_shx a_bef msts mrf mbyt mord alw bco alm abt mlt beg figm w (by omega)) ml_X6_54 im_X6_refuse se_X6_refuse in_X6 co_X6_refuse 1 (by decide) ⟨rfl, rfl⟩ ⟨Nat.le_of_ble_eq_true rfl, Nat.le_of_ble_eq_true rfl⟩ [0, 3] rfl rfl 0 rfl rfl rfl rfl rfl (Nat.le_of_ble_eq_true rfl) dX6_finish_8 ⟨Nat.le_refl _, Nat.le_refl _⟩) [0, 3, 4, 1] 2 (fun _ => rfl) (fun _ => rfl) (by decide) (by decide) (fun r_8 uu H locs hw hX => ?_)
    obtain ⟨rfl, rfl⟩ := hw
    have hX : XW D A s.heap (W_Mf y hMo a_now a_asd a_pst a_mrf a_txt a_olt a_ofr a_nbs a_best a_wys a_rwx a_shx a_bef asd pst msts (rfU mrf w) mbyt mord alw bco alm abt mlt beg figm) H locs := hX
    exact xr_iret E hX hQ (rfU mrf w, pst, msts) hr (by refine ⟨rfl, ?_⟩; unfold mRf mPast mSts; first | (rw [if_pos (by omega), if_pos (by omega), if_pos (by omega)]; done) | (rw [if_neg (by omega), if_neg (by omega), if_neg (by omega), if_neg (by omega), if_neg (by omega)]; done) | exact mFin5 (by omega) (by omega) (by omega) hp1) rfl dX6_finish_11
abbrev rm_X6_isQuarter : Room := { frames := 1, cells := 0, slots := 0, locals := 25 }
set_option maxHeartbeats 4000000 in
set_option maxRecDepth 100000 in
theorem c_X6_isQuarter (l : Launch) (D : va_G) (y : CY) (z sz : Nat) (hMo a_now a_asd a_pst a_mrf a_txt a_olt a_ofr a_nbs a_best a_wys a_rwx a_shx a_bef : Nat) (now : Int → Int) (msts : Int) (mbyt : Int) (mord : Int) (alw : Int) (bco : Int) (alm : Int) (abt : Int) (mlt : Int) (beg : Int) (figm : Int) (t : Int) (ht : sm t) (hq : 0 ≤ now 0 ∧ now 0 ≤ 12) : Met l yX6_isQuarter (Cond.code yX6_isQuarter cX6_isQuarter 2 (some .boolean) :: TW) rm_X6_isQuarter (va_Pc [.ref hMo, .int (iI t)] (PX D y z (W_Mn y hMo a_now a_asd a_pst a_mrf a_txt a_olt a_ofr a_nbs a_best a_wys a_rwx a_shx a_bef now msts mbyt mord alw bco alm abt mlt beg figm) sz)) (va_Qi (fun (r : Int32) (uu : Unit) => r = bB (decide (0 ≤ t ∧ t ≤ now 0 - 1))) (fun uu t => BX D (W_Mn y hMo a_now a_asd a_pst a_mrf a_txt a_olt a_ofr a_nbs a_best a_wys a_rwx a_shx a_bef now msts mbyt mord alw bco alm abt mlt beg figm) (va_A (W_Mn y hMo a_now a_asd a_pst a_mrf a_txt a_olt a_ofr a_nbs a_best a_wys a_rwx a_shx a_bef now msts mbyt mord alw bco alm abt mlt beg figm) sz) t) (va_A (W_Mn y hMo a_now a_asd a_pst a_mrf a_txt a_olt a_ofr a_nbs a_best a_wys a_rwx a_shx a_bef now msts mbyt mord alw bco alm abt mlt beg figm) sz)) 0 0 (va_A (W_Mn y hMo a_now a_asd a_pst a_mrf a_txt a_olt a_ofr a_nbs a_best a_wys a_rwx a_shx a_bef now msts mbyt mord alw bco alm abt mlt beg figm) sz) := by
  refine xm_i (by decide) (Nat.le_of_ble_eq_true rfl) (fun p e s m args below meth cX ls A Q E hr hnm hX hl hQ => ?_)
  have hl : lv_has ls 2 [(0, .ref hMo), (1, .int (iI t))] := hl
  refine xr_iload_n E hl 1 rfl dX6_isQuarter_0 rfl ?_
  refine xr_i2l E dX6_isQuarter_1 ⟨by omega, by omega⟩ ?_
  refine xr_lconst (v := 0) E dX6_isQuarter_2 (by decide) ?_
  refine xr_aload_n E hl 0 rfl dX6_isQuarter_3 rfl ?_
  refine xr_get E hX 0 rfl rfl ly_X6 0 (by decide) fl_X6_7 rfl dX6_isQuarter_4 ?_
  refine xr_iconst E dX6_isQuarter_7 ?_
  refine xr_iald E hX 1 rfl (by omega) (by omega) (by decide) dX6_isQuarter_8 ?_
  refine xr_iconst E dX6_isQuarter_9 ?_
  refine xr_isub E dX6_isQuarter_10 ?_
  refine xr_i2l E dX6_isQuarter_11 ⟨by omega, by omega⟩ ?_
  refine xk_ri E hX [] rfl (xv_S (As := [.long (lI t), .long (lI 0), .long (lI ((now 0) - 1))]) E hX hl (c_X6_in l D y z _ t 0 ((now 0) - 1) ⟨by omega, by omega⟩ ⟨by omega, by omega⟩ ⟨by omega, by omega⟩) ml_X6_62 st_X6_in in_X6 co_X6_in 3 (by decide) ⟨rfl, rfl⟩ ⟨Nat.le_of_ble_eq_true rfl, Nat.le_of_ble_eq_true rfl⟩ [] rfl rfl rfl rfl (Nat.le_of_ble_eq_true rfl) dX6_isQuarter_12 ⟨Nat.le_refl _, Nat.le_refl _⟩) (fun r_12 H locs hw hX => ?_)
  subst hw
  exact xr_zret E hX hQ () hr rfl rfl rfl dX6_isQuarter_15
abbrev rm_X6_putQuarter : Room := { frames := 1, cells := 0, slots := 0, locals := 25 }
set_option maxHeartbeats 4000000 in
set_option maxRecDepth 100000 in
theorem c_X6_putQuarter (l : Launch) (D : va_G) (y : CY) (z sz : Nat) (hMo a_now a_asd a_pst a_mrf a_txt a_olt a_ofr a_nbs a_best a_wys a_rwx a_shx a_bef : Nat) (now : Int → Int) (msts : Int) (mbyt : Int) (mord : Int) (alw : Int) (bco : Int) (alm : Int) (abt : Int) (mlt : Int) (beg : Int) (figm : Int) (i : Int) (hi : sm i) (H_M : FM now) : Met l yX6_putQuarter (Cond.code yX6_putQuarter cX6_putQuarter 3 (some .int) :: TW) rm_X6_putQuarter (va_Pc [.ref hMo, .int (iI i)] (PX D y z (W_Mn y hMo a_now a_asd a_pst a_mrf a_txt a_olt a_ofr a_nbs a_best a_wys a_rwx a_shx a_bef now msts mbyt mord alw bco alm abt mlt beg figm) sz)) (va_Qi (fun (r : Int32) (uu : (Int → Int)) => r = iI (xAdds_r i (now 0)) ∧ uu = mAdds i now) (fun uu t => BX D (W_Mn y hMo a_now a_asd a_pst a_mrf a_txt a_olt a_ofr a_nbs a_best a_wys a_rwx a_shx a_bef uu msts mbyt mord alw bco alm abt mlt beg figm) (va_A (W_Mn y hMo a_now a_asd a_pst a_mrf a_txt a_olt a_ofr a_nbs a_best a_wys a_rwx a_shx a_bef now msts mbyt mord alw bco alm abt mlt beg figm) sz) t) (va_A (W_Mn y hMo a_now a_asd a_pst a_mrf a_txt a_olt a_ofr a_nbs a_best a_wys a_rwx a_shx a_bef now msts mbyt mord alw bco alm abt mlt beg figm) sz)) 0 0 (va_A (W_Mn y hMo a_now a_asd a_pst a_mrf a_txt a_olt a_ofr a_nbs a_best a_wys a_rwx a_shx a_bef now msts mbyt mord alw bco alm abt mlt beg figm) sz) := by
  refine xm_i (by decide) (Nat.le_of_ble_eq_true rfl) (fun p e s m args below meth cX ls A Q E hr hnm hX hl hQ => ?_)
  have hl : lv_has ls 3 [(0, .ref hMo), (1, .int (iI i))] := hl
  have hq := H_M.q
  have hfr := H_M.fr
  have hli := H_M.li
  have hsh := H_M.sh
  refine xr_iload_n E hl 1 rfl dX6_putQuarter_0 rfl ?_
  refine xr_i2l E dX6_putQuarter_1 ⟨by omega, by omega⟩ ?_
  refine xr_lconst (v := 1) E dX6_putQuarter_2 (by decide) ?_
  refine xr_ldc2 (n := 99) E kl_X6_68 dX6_putQuarter_3 (by decide) ?_
  refine xk_ri E hX [] rfl (xv_S (As := [.long (lI i), .long (lI 1), .long (lI 99)]) E hX hl (c_X6_in l D y z _ i 1 99 ⟨by omega, by omega⟩ ⟨by omega, by omega⟩ ⟨by omega, by omega⟩) ml_X6_62 st_X6_in in_X6 co_X6_in 3 (by decide) ⟨rfl, rfl⟩ ⟨Nat.le_of_ble_eq_true rfl, Nat.le_of_ble_eq_true rfl⟩ [] rfl rfl rfl rfl (Nat.le_of_ble_eq_true rfl) dX6_putQuarter_6 ⟨Nat.le_refl _, Nat.le_refl _⟩) (fun r_6 H locs hw hX => ?_)
  subst hw
  refine xr_if_neB (tgt := 15) E dX6_putQuarter_9 (by decide) (fun c_9 => ?_) (fun c_9 => ?_)
  · have c_9 := of_decide_eq_true c_9
    refine xr_aload_n E hl 0 rfl dX6_putQuarter_15 rfl ?_
    refine xr_get E hX 0 rfl rfl ly_X6 0 (by decide) fl_X6_7 rfl dX6_putQuarter_16 ?_
    refine xr_iconst E dX6_putQuarter_19 ?_
    refine xr_iald E hX 1 rfl (by omega) (by omega) (by decide) dX6_putQuarter_20 ?_
    refine xr_bipush E dX6_putQuarter_21 (by decide) ?_
    refine xr_icmp_ne (tgt := 29) E dX6_putQuarter_23 (by decide) ⟨by omega, by omega⟩ (by decide) (fun c_23 => ?_) (fun c_23 => ?_)
    · have c_23 := c_23
      refine xr_aload_n E hl 0 rfl dX6_putQuarter_29 rfl ?_
      refine xr_get E hX 0 rfl rfl ly_X6 0 (by decide) fl_X6_7 rfl dX6_putQuarter_30 ?_
      refine xr_iconst E dX6_putQuarter_33 ?_
      refine xr_iald E hX 1 rfl (by omega) (by omega) (by decide) dX6_putQuarter_34 ?_
      refine xr_istore_n (lv' := [(2, .int (iI (now 0))), (0, .ref hMo), (1, .int (iI i))]) E hl dX6_putQuarter_35 rfl (by decide) rfl (fun ls hl => ?_)
      refine xr_aload_n E hl 1 rfl dX6_putQuarter_36 rfl ?_
      refine xr_get E hX 0 rfl rfl ly_X6 0 (by decide) fl_X6_7 rfl dX6_putQuarter_37 ?_
      refine xr_iconst E dX6_putQuarter_40 ?_
      refine xr_iload_n E hl 0 rfl dX6_putQuarter_41 rfl ?_
      refine xr_iadd E dX6_putQuarter_42 ?_
      refine xr_iload_n E hl 2 rfl dX6_putQuarter_43 rfl ?_
      refine xr_iast (W1 := (W_Mn y hMo a_now a_asd a_pst a_mrf a_txt a_olt a_ofr a_nbs a_best a_wys a_rwx a_shx a_bef (up now (1 + (now 0)) i) msts mbyt mord alw bco alm abt mlt beg figm)) E hX 1 rfl (by omega) (by omega) (by decide) rfl dX6_putQuarter_44 (fun H locs hX => ?_)
      refine xr_aload_n E hl 1 rfl dX6_putQuarter_45 rfl ?_
      refine xr_get E hX 0 rfl rfl ly_X6 0 (by decide) fl_X6_7 rfl dX6_putQuarter_46 ?_
      refine xr_iconst E dX6_putQuarter_49 ?_
      refine xr_dup2 E dX6_putQuarter_50 rfl rfl ?_
      refine xr_iald E hX 1 rfl (by omega) (by omega) (by decide) dX6_putQuarter_51 ?_
      refine xr_iconst E dX6_putQuarter_52 ?_
      refine xr_iadd E dX6_putQuarter_53 ?_
      refine xr_iast (W1 := (W_Mn y hMo a_now a_asd a_pst a_mrf a_txt a_olt a_ofr a_nbs a_best a_wys a_rwx a_shx a_bef (up (up now (1 + (now 0)) i) 0 (((up now (1 + (now 0)) i) 0) + 1)) msts mbyt mord alw bco alm abt mlt beg figm)) E hX 1 rfl (by omega) (by omega) (by decide) rfl dX6_putQuarter_54 (fun H locs hX => ?_)
      refine xr_iload_n E hl 0 rfl dX6_putQuarter_55 rfl ?_
      have e0 : up now (1 + now 0) i 0 = now 0 := up_ne _ _ (by omega)
      exact xr_iret E hX hQ (up (up now (1 + (now 0)) i) 0 (((up now (1 + (now 0)) i) 0) + 1)) hr ⟨by unfold xAdds_r; (repeat' split) <;> first | (exfalso; omega) | rfl, by rw [e0]; unfold mAdds; (repeat' split) <;> first | (exfalso; omega) | rfl⟩ rfl dX6_putQuarter_56
    · have c_23 := c_23
      refine xr_bipush E dX6_putQuarter_26 (by decide) ?_
      exact xr_iret E hX hQ now hr ⟨by unfold xAdds_r; (repeat' split) <;> first | (exfalso; omega) | rfl | (congr 1; omega) | (congr 2; omega), by unfold mAdds; (repeat' split) <;> first | (exfalso; omega) | rfl | (congr 1; omega) | (congr 2; omega)⟩ rfl dX6_putQuarter_28
  · have c_9 := of_decide_eq_false c_9
    refine xr_bipush E dX6_putQuarter_12 (by decide) ?_
    exact xr_iret E hX hQ now hr ⟨by unfold xAdds_r; (repeat' split) <;> first | (exfalso; omega) | rfl | (congr 1; omega) | (congr 2; omega), by unfold mAdds; (repeat' split) <;> first | (exfalso; omega) | rfl | (congr 1; omega) | (congr 2; omega)⟩ rfl dX6_putQuarter_14
abbrev rm_X6_putIndicator : Room := { frames := 2, cells := 0, slots := 0, locals := 46 }
set_option maxHeartbeats 4000000 in
set_option maxRecDepth 100000 in
theorem c_X6_putIndicator (l : Launch) (D : va_G) (y : CY) (z sz : Nat) (hMo a_now a_asd a_pst a_mrf a_txt a_olt a_ofr a_nbs a_best a_wys a_rwx a_shx a_bef : Nat) (now : Int → Int) (msts : Int) (mbyt : Int) (mord : Int) (alw : Int) (bco : Int) (alm : Int) (abt : Int) (mlt : Int) (beg : Int) (figm : Int) (t : Int) (i : Int) (ht : sm t) (hi : sm i) (H_M : FM now) : Met l yX6_putIndicator (Cond.code yX6_putIndicator cX6_putIndicator 4 (some .int) :: TW) rm_X6_putIndicator (va_Pc [.ref hMo, .int (iI t), .int (iI i)] (PX D y z (W_Mn y hMo a_now a_asd a_pst a_mrf a_txt a_olt a_ofr a_nbs a_best a_wys a_rwx a_shx a_bef now msts mbyt mord alw bco alm abt mlt beg figm) sz)) (va_Qi (fun (r : Int32) (uu : (Int → Int)) => r = iI (xRe_r t i (mI now) (now 0)) ∧ uu = mRe t i now) (fun uu t => BX D (W_Mn y hMo a_now a_asd a_pst a_mrf a_txt a_olt a_ofr a_nbs a_best a_wys a_rwx a_shx a_bef uu msts mbyt mord alw bco alm abt mlt beg figm) (va_A (W_Mn y hMo a_now a_asd a_pst a_mrf a_txt a_olt a_ofr a_nbs a_best a_wys a_rwx a_shx a_bef now msts mbyt mord alw bco alm abt mlt beg figm) sz) t) (va_A (W_Mn y hMo a_now a_asd a_pst a_mrf a_txt a_olt a_ofr a_nbs a_best a_wys a_rwx a_shx a_bef now msts mbyt mord alw bco alm abt mlt beg figm) sz)) 0 0 (va_A (W_Mn y hMo a_now a_asd a_pst a_mrf a_txt a_olt a_ofr a_nbs a_best a_wys a_rwx a_shx a_bef now msts mbyt mord alw bco alm abt mlt beg figm) sz) := by
  refine xm_i (by decide) (Nat.le_of_ble_eq_true rfl) (fun p e s m args below meth cX ls A Q E hr hnm hX hl hQ => ?_)
  have hl : lv_has ls 4 [(0, .ref hMo), (1, .int (iI t)), (2, .int (iI i))] := hl
  have hq := H_M.q
  have hfr := H_M.fr
  have hli := H_M.li
  have hsh := H_M.sh
  refine xr_aload_n E hl 0 rfl dX6_putIndicator_0 rfl ?_
  refine xr_iload_n E hl 1 rfl dX6_putIndicator_1 rfl ?_
  refine xk_ri E hX [0, 1] rfl (xv_V (As := [.int (iI t)]) E hX hl (c_X6_isQuarter l D y z _ hMo a_now a_asd a_pst a_mrf a_txt a_olt a_ofr a_nbs a_best a_wys a_rwx a_shx a_bef now msts mbyt mord alw bco alm abt mlt beg figm t ⟨by omega, by omega⟩ (by omega)) ml_X6_70 im_X6_isQuarter se_X6_isQuarter in_X6 co_X6_isQuarter 1 (by decide) ⟨rfl, rfl⟩ ⟨Nat.le_of_ble_eq_true rfl, Nat.le_of_ble_eq_true rfl⟩ [0, 1] rfl rfl 0 rfl rfl rfl rfl rfl (Nat.le_of_ble_eq_true rfl) dX6_putIndicator_2 ⟨Nat.le_refl _, Nat.le_refl _⟩) (fun r_2 H locs hw hX => ?_)
  subst hw
  refine xr_if_eqB (tgt := 20) E dX6_putIndicator_5 (by decide) (fun c_5 => ?_) (fun c_5 => ?_)
  · have c_5 := of_decide_eq_false c_5
    refine xr_bipush E dX6_putIndicator_20 (by decide) ?_
    exact xr_iret E hX hQ now hr ⟨by unfold xRe_r; (repeat' split) <;> first | (exfalso; omega) | rfl | (congr 1; omega) | (congr 2; omega), by unfold mRe; (repeat' split) <;> first | (exfalso; omega) | rfl | (congr 1; omega) | (congr 2; omega)⟩ rfl dX6_putIndicator_22
  · have c_5 := of_decide_eq_true c_5
    refine xr_iload_n E hl 2 rfl dX6_putIndicator_8 rfl ?_
    refine xr_i2l E dX6_putIndicator_9 ⟨by omega, by omega⟩ ?_
    refine xr_lconst (v := 1) E dX6_putIndicator_10 (by decide) ?_
    refine xr_ldc2 (n := 99) E kl_X6_68 dX6_putIndicator_11 (by decide) ?_
    refine xk_ri E hX [] rfl (xv_S (As := [.long (lI i), .long (lI 1), .long (lI 99)]) E hX hl (c_X6_in l D y z _ i 1 99 ⟨by omega, by omega⟩ ⟨by omega, by omega⟩ ⟨by omega, by omega⟩) ml_X6_62 st_X6_in in_X6 co_X6_in 3 (by decide) ⟨rfl, rfl⟩ ⟨Nat.le_of_ble_eq_true rfl, Nat.le_of_ble_eq_true rfl⟩ [] rfl rfl rfl rfl (Nat.le_of_ble_eq_true rfl) dX6_putIndicator_14 ⟨Nat.le_refl _, Nat.le_refl _⟩) (fun r_14 H locs hw hX => ?_)
    subst hw
    refine xr_if_neB (tgt := 23) E dX6_putIndicator_17 (by decide) (fun c_17 => ?_) (fun c_17 => ?_)
    · have c_17 := of_decide_eq_true c_17
      refine xr_aload_n E hl 0 rfl dX6_putIndicator_23 rfl ?_
      refine xr_get E hX 0 rfl rfl ly_X6 0 (by decide) fl_X6_7 rfl dX6_putIndicator_24 ?_
      refine xr_iconst E dX6_putIndicator_27 ?_
      refine xr_iload_n E hl 1 rfl dX6_putIndicator_28 rfl ?_
      refine xr_iadd E dX6_putIndicator_29 ?_
      refine xr_iald E hX 1 rfl (by omega) (by omega) (by decide) dX6_putIndicator_30 ?_
      refine xr_istore_n (lv' := [(3, .int (iI (now (1 + t)))), (0, .ref hMo), (1, .int (iI t)), (2, .int (iI i))]) E hl dX6_putIndicator_31 rfl (by decide) rfl (fun ls hl => ?_)
      refine xr_aload_n E hl 1 rfl dX6_putIndicator_32 rfl ?_
      refine xr_get E hX 0 rfl rfl ly_X6 0 (by decide) fl_X6_7 rfl dX6_putIndicator_33 ?_
      refine xr_iconst E dX6_putIndicator_36 ?_
      refine xr_iload_n E hl 2 rfl dX6_putIndicator_37 rfl ?_
      refine xr_iadd E dX6_putIndicator_38 ?_
      refine xr_iload_n E hl 3 rfl dX6_putIndicator_39 rfl ?_
      refine xr_iast (W1 := (W_Mn y hMo a_now a_asd a_pst a_mrf a_txt a_olt a_ofr a_nbs a_best a_wys a_rwx a_shx a_bef (up now (1 + t) i) msts mbyt mord alw bco alm abt mlt beg figm)) E hX 1 rfl (by omega) (by omega) (by decide) rfl dX6_putIndicator_40 (fun H locs hX => ?_)
      refine xr_iload_n E hl 0 rfl dX6_putIndicator_41 rfl ?_
      exact xr_iret E hX hQ (up now (1 + t) i) hr ⟨by unfold xRe_r; (repeat' split) <;> first | (exfalso; omega) | rfl | (congr 1; omega) | (congr 2; omega), by unfold mRe; (repeat' split) <;> first | (exfalso; omega) | rfl | (congr 1; omega) | (congr 2; omega)⟩ rfl dX6_putIndicator_42
    · have c_17 := of_decide_eq_false c_17
      refine xr_bipush E dX6_putIndicator_20 (by decide) ?_
      exact xr_iret E hX hQ now hr ⟨by unfold xRe_r; (repeat' split) <;> first | (exfalso; omega) | rfl | (congr 1; omega) | (congr 2; omega), by unfold mRe; (repeat' split) <;> first | (exfalso; omega) | rfl | (congr 1; omega) | (congr 2; omega)⟩ rfl dX6_putIndicator_22
abbrev rm_X6_putTotal : Room := { frames := 2, cells := 0, slots := 0, locals := 45 }
set_option maxHeartbeats 4000000 in
set_option maxRecDepth 100000 in
theorem c_X6_putTotal (l : Launch) (D : va_G) (y : CY) (z sz : Nat) (hMo a_now a_asd a_pst a_mrf a_txt a_olt a_ofr a_nbs a_best a_wys a_rwx a_shx a_bef : Nat) (now : Int → Int) (msts : Int) (mbyt : Int) (mord : Int) (alw : Int) (bco : Int) (alm : Int) (abt : Int) (mlt : Int) (beg : Int) (figm : Int) (v : Int) (w : Int) (hv : sm v) (hw : sm w) (H_M : FM now) : Met l yX6_putTotal (Cond.code yX6_putTotal cX6_putTotal 4 (some .int) :: TW) rm_X6_putTotal (va_Pc [.ref hMo, .int (iI v), .int (iI w)] (PX D y z (W_Mn y hMo a_now a_asd a_pst a_mrf a_txt a_olt a_ofr a_nbs a_best a_wys a_rwx a_shx a_bef now msts mbyt mord alw bco alm abt mlt beg figm) sz)) (va_Qi (fun (r : Int32) (uu : (Int → Int)) => r = iI (xTl_r v w (mT now) (now 0)) ∧ uu = mTl v w now) (fun uu t => BX D (W_Mn y hMo a_now a_asd a_pst a_mrf a_txt a_olt a_ofr a_nbs a_best a_wys a_rwx a_shx a_bef uu msts mbyt mord alw bco alm abt mlt beg figm) (va_A (W_Mn y hMo a_now a_asd a_pst a_mrf a_txt a_olt a_ofr a_nbs a_best a_wys a_rwx a_shx a_bef now msts mbyt mord alw bco alm abt mlt beg figm) sz) t) (va_A (W_Mn y hMo a_now a_asd a_pst a_mrf a_txt a_olt a_ofr a_nbs a_best a_wys a_rwx a_shx a_bef now msts mbyt mord alw bco alm abt mlt beg figm) sz)) 0 0 (va_A (W_Mn y hMo a_now a_asd a_pst a_mrf a_txt a_olt a_ofr a_nbs a_best a_wys a_rwx a_shx a_bef now msts mbyt mord alw bco alm abt mlt beg figm) sz) := by
  refine xm_i (by decide) (Nat.le_of_ble_eq_true rfl) (fun p e s m args below meth cX ls A Q E hr hnm hX hl hQ => ?_)
  have hl : lv_has ls 4 [(0, .ref hMo), (1, .int (iI v)), (2, .int (iI w))] := hl
  have hq := H_M.q
  have hfr := H_M.fr
  have hli := H_M.li
  have hsh := H_M.sh
  refine xr_iload_n E hl 1 rfl dX6_putTotal_0 rfl ?_
  refine xk_ri E hX [] rfl (xv_S (As := [.int (iI v)]) E hX hl (c_X6_isYear l D y z _ v ⟨by omega, by omega⟩) ml_X6_74 st_X6_isYear in_X6 co_X6_isYear 1 (by decide) ⟨rfl, rfl⟩ ⟨Nat.le_of_ble_eq_true rfl, Nat.le_of_ble_eq_true rfl⟩ [] rfl rfl rfl rfl (Nat.le_of_ble_eq_true rfl) dX6_putTotal_1 ⟨Nat.le_refl _, Nat.le_refl _⟩) (fun r_1 H locs hw hX => ?_)
  subst hw
  refine xr_if_eqB (tgt := 19) E dX6_putTotal_4 (by decide) (fun c_4 => ?_) (fun c_4 => ?_)
  · have c_4 := of_decide_eq_false c_4
    refine xr_bipush E dX6_putTotal_19 (by decide) ?_
    exact xr_iret E hX hQ now hr ⟨by unfold xTl_r; (repeat' split) <;> first | (exfalso; omega) | rfl | (congr 1; omega) | (congr 2; omega), by unfold mTl; (repeat' split) <;> first | (exfalso; omega) | rfl | (congr 1; omega) | (congr 2; omega)⟩ rfl dX6_putTotal_21
  · have c_4 := of_decide_eq_true c_4
    refine xr_iload_n E hl 2 rfl dX6_putTotal_7 rfl ?_
    refine xr_i2l E dX6_putTotal_8 ⟨by omega, by omega⟩ ?_
    refine xr_lconst (v := 0) E dX6_putTotal_9 (by decide) ?_
    refine xr_ldc2 (n := 999) E kl_X6_77 dX6_putTotal_10 (by decide) ?_
    refine xk_ri E hX [] rfl (xv_S (As := [.long (lI w), .long (lI 0), .long (lI 999)]) E hX hl (c_X6_in l D y z _ w 0 999 ⟨by omega, by omega⟩ ⟨by omega, by omega⟩ ⟨by omega, by omega⟩) ml_X6_62 st_X6_in in_X6 co_X6_in 3 (by decide) ⟨rfl, rfl⟩ ⟨Nat.le_of_ble_eq_true rfl, Nat.le_of_ble_eq_true rfl⟩ [] rfl rfl rfl rfl (Nat.le_of_ble_eq_true rfl) dX6_putTotal_13 ⟨Nat.le_refl _, Nat.le_refl _⟩) (fun r_13 H locs hw hX => ?_)
    subst hw
    refine xr_if_neB (tgt := 22) E dX6_putTotal_16 (by decide) (fun c_16 => ?_) (fun c_16 => ?_)
    · have c_16 := of_decide_eq_true c_16
      refine xr_aload_n E hl 0 rfl dX6_putTotal_22 rfl ?_
      refine xr_get E hX 0 rfl rfl ly_X6 0 (by decide) fl_X6_7 rfl dX6_putTotal_23 ?_
      refine xr_iconst E dX6_putTotal_26 ?_
      refine xr_iald E hX 1 rfl (by omega) (by omega) (by decide) dX6_putTotal_27 ?_
      refine xr_iconst E dX6_putTotal_28 ?_
      refine xr_iload_n E hl 1 rfl dX6_putTotal_29 rfl ?_
      refine xr_imul E dX6_putTotal_30 ?_
      refine xr_iconst E dX6_putTotal_31 ?_
      refine xr_iadd E dX6_putTotal_32 ?_
      refine xr_icmp_ge (tgt := 39) E dX6_putTotal_33 (by decide) ⟨by omega, by omega⟩ ⟨by omega, by omega⟩ (fun c_33 => ?_) (fun c_33 => ?_)
      · have c_33 := c_33
        refine xr_aload_n E hl 0 rfl dX6_putTotal_39 rfl ?_
        refine xr_get E hX 0 rfl rfl ly_X6 0 (by decide) fl_X6_7 rfl dX6_putTotal_40 ?_
        refine xr_bipush E dX6_putTotal_43 (by decide) ?_
        refine xr_iload_n E hl 1 rfl dX6_putTotal_45 rfl ?_
        refine xr_iadd E dX6_putTotal_46 ?_
        refine xr_iald E hX 1 rfl (by omega) (by omega) (by decide) dX6_putTotal_47 ?_
        refine xr_istore_n (lv' := [(3, .int (iI (now (13 + v)))), (0, .ref hMo), (1, .int (iI v)), (2, .int (iI w))]) E hl dX6_putTotal_48 rfl (by decide) rfl (fun ls hl => ?_)
        refine xr_aload_n E hl 1 rfl dX6_putTotal_49 rfl ?_
        refine xr_get E hX 0 rfl rfl ly_X6 0 (by decide) fl_X6_7 rfl dX6_putTotal_50 ?_
        refine xr_bipush E dX6_putTotal_53 (by decide) ?_
        refine xr_iload_n E hl 2 rfl dX6_putTotal_55 rfl ?_
        refine xr_iadd E dX6_putTotal_56 ?_
        refine xr_iload_n E hl 3 rfl dX6_putTotal_57 rfl ?_
        refine xr_iast (W1 := (W_Mn y hMo a_now a_asd a_pst a_mrf a_txt a_olt a_ofr a_nbs a_best a_wys a_rwx a_shx a_bef (up now (13 + v) w) msts mbyt mord alw bco alm abt mlt beg figm)) E hX 1 rfl (by omega) (by omega) (by decide) rfl dX6_putTotal_58 (fun H locs hX => ?_)
        refine xr_iload_n E hl 0 rfl dX6_putTotal_59 rfl ?_
        exact xr_iret E hX hQ (up now (13 + v) w) hr ⟨by unfold xTl_r; (repeat' split) <;> first | (exfalso; omega) | rfl | (congr 1; omega) | (congr 2; omega), by unfold mTl; (repeat' split) <;> first | (exfalso; omega) | rfl | (congr 1; omega) | (congr 2; omega)⟩ rfl dX6_putTotal_60
      · have c_33 := c_33
        refine xr_bipush E dX6_putTotal_36 (by decide) ?_
        exact xr_iret E hX hQ now hr ⟨by unfold xTl_r; (repeat' split) <;> first | (exfalso; omega) | rfl | (congr 1; omega) | (congr 2; omega), by unfold mTl; (repeat' split) <;> first | (exfalso; omega) | rfl | (congr 1; omega) | (congr 2; omega)⟩ rfl dX6_putTotal_38
    · have c_16 := of_decide_eq_false c_16
      refine xr_bipush E dX6_putTotal_19 (by decide) ?_
      exact xr_iret E hX hQ now hr ⟨by unfold xTl_r; (repeat' split) <;> first | (exfalso; omega) | rfl | (congr 1; omega) | (congr 2; omega), by unfold mTl; (repeat' split) <;> first | (exfalso; omega) | rfl | (congr 1; omega) | (congr 2; omega)⟩ rfl dX6_putTotal_21
abbrev rm_X6_dropTotal : Room := { frames := 2, cells := 0, slots := 0, locals := 45 }
set_option maxHeartbeats 4000000 in
set_option maxRecDepth 100000 in
theorem c_X6_dropTotal (l : Launch) (D : va_G) (y : CY) (z sz : Nat) (hMo a_now a_asd a_pst a_mrf a_txt a_olt a_ofr a_nbs a_best a_wys a_rwx a_shx a_bef : Nat) (now : Int → Int) (msts : Int) (mbyt : Int) (mord : Int) (alw : Int) (bco : Int) (alm : Int) (abt : Int) (mlt : Int) (beg : Int) (figm : Int) (v : Int) (hv : sm v) (H_M : FM now) : Met l yX6_dropTotal (Cond.code yX6_dropTotal cX6_dropTotal 3 (some .int) :: TW) rm_X6_dropTotal (va_Pc [.ref hMo, .int (iI v)] (PX D y z (W_Mn y hMo a_now a_asd a_pst a_mrf a_txt a_olt a_ofr a_nbs a_best a_wys a_rwx a_shx a_bef now msts mbyt mord alw bco alm abt mlt beg figm) sz)) (va_Qi (fun (r : Int32) (uu : (Int → Int)) => r = iI (xUn_r v (mT now)) ∧ uu = mUn v now) (fun uu t => BX D (W_Mn y hMo a_now a_asd a_pst a_mrf a_txt a_olt a_ofr a_nbs a_best a_wys a_rwx a_shx a_bef uu msts mbyt mord alw bco alm abt mlt beg figm) (va_A (W_Mn y hMo a_now a_asd a_pst a_mrf a_txt a_olt a_ofr a_nbs a_best a_wys a_rwx a_shx a_bef now msts mbyt mord alw bco alm abt mlt beg figm) sz) t) (va_A (W_Mn y hMo a_now a_asd a_pst a_mrf a_txt a_olt a_ofr a_nbs a_best a_wys a_rwx a_shx a_bef now msts mbyt mord alw bco alm abt mlt beg figm) sz)) 0 0 (va_A (W_Mn y hMo a_now a_asd a_pst a_mrf a_txt a_olt a_ofr a_nbs a_best a_wys a_rwx a_shx a_bef now msts mbyt mord alw bco alm abt mlt beg figm) sz) := by
  refine xm_i (by decide) (Nat.le_of_ble_eq_true rfl) (fun p e s m args below meth cX ls A Q E hr hnm hX hl hQ => ?_)
  have hl : lv_has ls 3 [(0, .ref hMo), (1, .int (iI v))] := hl
  have hq := H_M.q
  have hfr := H_M.fr
  have hli := H_M.li
  have hsh := H_M.sh
  refine xr_iload_n E hl 1 rfl dX6_dropTotal_0 rfl ?_
  refine xk_ri E hX [] rfl (xv_S (As := [.int (iI v)]) E hX hl (c_X6_isYear l D y z _ v ⟨by omega, by omega⟩) ml_X6_74 st_X6_isYear in_X6 co_X6_isYear 1 (by decide) ⟨rfl, rfl⟩ ⟨Nat.le_of_ble_eq_true rfl, Nat.le_of_ble_eq_true rfl⟩ [] rfl rfl rfl rfl (Nat.le_of_ble_eq_true rfl) dX6_dropTotal_1 ⟨Nat.le_refl _, Nat.le_refl _⟩) (fun r_1 H locs hw hX => ?_)
  subst hw
  refine xr_if_neB (tgt := 10) E dX6_dropTotal_4 (by decide) (fun c_4 => ?_) (fun c_4 => ?_)
  · have c_4 := of_decide_eq_true c_4
    have htt := H_M.tot (v := v) (by omega) (by omega)
    have emt : mT now v = now (13 + v) := rfl
    refine xr_aload_n E hl 0 rfl dX6_dropTotal_10 rfl ?_
    refine xr_get E hX 0 rfl rfl ly_X6 0 (by decide) fl_X6_7 rfl dX6_dropTotal_11 ?_
    refine xr_bipush E dX6_dropTotal_14 (by decide) ?_
    refine xr_iload_n E hl 1 rfl dX6_dropTotal_16 rfl ?_
    refine xr_iadd E dX6_dropTotal_17 ?_
    refine xr_iald E hX 1 rfl (by omega) (by omega) (by decide) dX6_dropTotal_18 ?_
    refine xr_istore_n (lv' := [(2, .int (iI (now (13 + v)))), (0, .ref hMo), (1, .int (iI v))]) E hl dX6_dropTotal_19 rfl (by decide) rfl (fun ls hl => ?_)
    refine xr_aload_n E hl 1 rfl dX6_dropTotal_20 rfl ?_
    refine xr_get E hX 0 rfl rfl ly_X6 0 (by decide) fl_X6_7 rfl dX6_dropTotal_21 ?_
    refine xr_bipush E dX6_dropTotal_24 (by decide) ?_
    refine xr_iload_n E hl 2 rfl dX6_dropTotal_26 rfl ?_
    refine xr_iadd E dX6_dropTotal_27 ?_
    refine xr_iconst E dX6_dropTotal_28 ?_
    refine xr_iast (W1 := (W_Mn y hMo a_now a_asd a_pst a_mrf a_txt a_olt a_ofr a_nbs a_best a_wys a_rwx a_shx a_bef (up now (13 + v) (-1)) msts mbyt mord alw bco alm abt mlt beg figm)) E hX 1 rfl (by omega) (by omega) (by decide) rfl dX6_dropTotal_29 (fun H locs hX => ?_)
    refine xr_iload_n E hl 0 rfl dX6_dropTotal_30 rfl ?_
    refine xr_iconst E dX6_dropTotal_31 ?_
    refine xr_icmp_ne (tgt := 40) E dX6_dropTotal_32 (by decide) ⟨by omega, by omega⟩ (by decide) (fun c_32 => ?_) (fun c_32 => ?_)
    · have c_32 := c_32
      refine xr_iload_n E hl 0 rfl dX6_dropTotal_40 rfl ?_
      exact xr_iret E hX hQ (up now (13 + v) (-1)) hr ⟨by unfold xUn_r; (repeat' split) <;> first | (exfalso; omega) | rfl | (congr 1; omega) | (congr 2; omega), by unfold mUn; (repeat' split) <;> first | (exfalso; omega) | rfl | (congr 1; omega) | (congr 2; omega)⟩ rfl dX6_dropTotal_41
    · have c_32 := c_32
      refine xr_bipush E dX6_dropTotal_35 (by decide) ?_
      refine xr_goto (tgt := 41) E dX6_dropTotal_37 (by decide) ?_
      exact xr_iret E hX hQ (up now (13 + v) (-1)) hr ⟨by unfold xUn_r; (repeat' split) <;> first | (exfalso; omega) | rfl | (congr 1; omega) | (congr 2; omega), by unfold mUn; (repeat' split) <;> first | (exfalso; omega) | rfl | (congr 1; omega) | (congr 2; omega)⟩ rfl dX6_dropTotal_41
  · have c_4 := of_decide_eq_false c_4
    refine xr_bipush E dX6_dropTotal_7 (by decide) ?_
    exact xr_iret E hX hQ now hr ⟨by unfold xUn_r; (repeat' split) <;> first | (exfalso; omega) | rfl | (congr 1; omega) | (congr 2; omega), by unfold mUn; (repeat' split) <;> first | (exfalso; omega) | rfl | (congr 1; omega) | (congr 2; omega)⟩ rfl dX6_dropTotal_9
abbrev rm_X6_putFrozen : Room := { frames := 2, cells := 0, slots := 0, locals := 46 }
set_option maxHeartbeats 4000000 in
set_option maxRecDepth 100000 in
theorem c_X6_putFrozen (l : Launch) (D : va_G) (y : CY) (z sz : Nat) (hMo a_now a_asd a_pst a_mrf a_txt a_olt a_ofr a_nbs a_best a_wys a_rwx a_shx a_bef : Nat) (now : Int → Int) (msts : Int) (mbyt : Int) (mord : Int) (alw : Int) (bco : Int) (alm : Int) (abt : Int) (mlt : Int) (beg : Int) (figm : Int) (t : Int) (on : Int) (ht : sm t) (ho : sm on) (H_M : FM now) : Met l yX6_putFrozen (Cond.code yX6_putFrozen cX6_putFrozen 3 (some .int) :: TW) rm_X6_putFrozen (va_Pc [.ref hMo, .int (iI t), .int (iI on)] (PX D y z (W_Mn y hMo a_now a_asd a_pst a_mrf a_txt a_olt a_ofr a_nbs a_best a_wys a_rwx a_shx a_bef now msts mbyt mord alw bco alm abt mlt beg figm) sz)) (va_Qi (fun (r : Int32) (uu : (Int → Int)) => r = iI (mIcR t on now) ∧ uu = mIc t on now) (fun uu t => BX D (W_Mn y hMo a_now a_asd a_pst a_mrf a_txt a_olt a_ofr a_nbs a_best a_wys a_rwx a_shx a_bef uu msts mbyt mord alw bco alm abt mlt beg figm) (va_A (W_Mn y hMo a_now a_asd a_pst a_mrf a_txt a_olt a_ofr a_nbs a_best a_wys a_rwx a_shx a_bef now msts mbyt mord alw bco alm abt mlt beg figm) sz) t) (va_A (W_Mn y hMo a_now a_asd a_pst a_mrf a_txt a_olt a_ofr a_nbs a_best a_wys a_rwx a_shx a_bef now msts mbyt mord alw bco alm abt mlt beg figm) sz)) 0 0 (va_A (W_Mn y hMo a_now a_asd a_pst a_mrf a_txt a_olt a_ofr a_nbs a_best a_wys a_rwx a_shx a_bef now msts mbyt mord alw bco alm abt mlt beg figm) sz) := by
  refine xm_i (by decide) (Nat.le_of_ble_eq_true rfl) (fun p e s m args below meth cX ls A Q E hr hnm hX hl hQ => ?_)
  have hl : lv_has ls 3 [(0, .ref hMo), (1, .int (iI t)), (2, .int (iI on))] := hl
  have hq := H_M.q
  have hfr := H_M.fr
  have hli := H_M.li
  have hsh := H_M.sh
  refine xr_aload_n E hl 0 rfl dX6_putFrozen_0 rfl ?_
  refine xr_iload_n E hl 1 rfl dX6_putFrozen_1 rfl ?_
  refine xk_ri E hX [0, 1] rfl (xv_V (As := [.int (iI t)]) E hX hl (c_X6_isQuarter l D y z _ hMo a_now a_asd a_pst a_mrf a_txt a_olt a_ofr a_nbs a_best a_wys a_rwx a_shx a_bef now msts mbyt mord alw bco alm abt mlt beg figm t ⟨by omega, by omega⟩ (by omega)) ml_X6_70 im_X6_isQuarter se_X6_isQuarter in_X6 co_X6_isQuarter 1 (by decide) ⟨rfl, rfl⟩ ⟨Nat.le_of_ble_eq_true rfl, Nat.le_of_ble_eq_true rfl⟩ [0, 1] rfl rfl 0 rfl rfl rfl rfl rfl (Nat.le_of_ble_eq_true rfl) dX6_putFrozen_2 ⟨Nat.le_refl _, Nat.le_refl _⟩) (fun r_2 H locs hw hX => ?_)
  subst hw
  refine xr_if_eqB (tgt := 18) E dX6_putFrozen_5 (by decide) (fun c_5 => ?_) (fun c_5 => ?_)
  · have c_5 := of_decide_eq_false c_5
    refine xr_bipush E dX6_putFrozen_18 (by decide) ?_
    exact xr_iret E hX hQ now hr ⟨by unfold mIcR; (repeat' split) <;> first | (exfalso; omega) | rfl | (congr 1; omega) | (congr 2; omega), by unfold mIc; (repeat' split) <;> first | (exfalso; omega) | rfl | (congr 1; omega) | (congr 2; omega)⟩ rfl dX6_putFrozen_20
  · have c_5 := of_decide_eq_true c_5
    refine xr_iload_n E hl 2 rfl dX6_putFrozen_8 rfl ?_
    refine xr_i2l E dX6_putFrozen_9 ⟨by omega, by omega⟩ ?_
    refine xr_lconst (v := 0) E dX6_putFrozen_10 (by decide) ?_
    refine xr_lconst (v := 1) E dX6_putFrozen_11 (by decide) ?_
    refine xk_ri E hX [] rfl (xv_S (As := [.long (lI on), .long (lI 0), .long (lI 1)]) E hX hl (c_X6_in l D y z _ on 0 1 ⟨by omega, by omega⟩ ⟨by omega, by omega⟩ ⟨by omega, by omega⟩) ml_X6_62 st_X6_in in_X6 co_X6_in 3 (by decide) ⟨rfl, rfl⟩ ⟨Nat.le_of_ble_eq_true rfl, Nat.le_of_ble_eq_true rfl⟩ [] rfl rfl rfl rfl (Nat.le_of_ble_eq_true rfl) dX6_putFrozen_12 ⟨Nat.le_refl _, Nat.le_refl _⟩) (fun r_12 H locs hw hX => ?_)
    subst hw
    refine xr_if_neB (tgt := 21) E dX6_putFrozen_15 (by decide) (fun c_15 => ?_) (fun c_15 => ?_)
    · have c_15 := of_decide_eq_true c_15
      have hpp := H_M.pri (t := t) (by omega) (by omega)
      refine xr_aload_n E hl 0 rfl dX6_putFrozen_21 rfl ?_
      refine xr_get E hX 0 rfl rfl ly_X6 0 (by decide) fl_X6_7 rfl dX6_putFrozen_22 ?_
      refine xr_bipush E dX6_putFrozen_25 (by decide) ?_
      refine xr_iload_n E hl 1 rfl dX6_putFrozen_27 rfl ?_
      refine xr_iadd E dX6_putFrozen_28 ?_
      refine xr_iald E hX 1 rfl (by omega) (by omega) (by decide) dX6_putFrozen_29 ?_
      refine xr_iconst E dX6_putFrozen_30 ?_
      refine xr_icmp_ne (tgt := 37) E dX6_putFrozen_31 (by decide) ⟨by omega, by omega⟩ (by decide) (fun c_31 => ?_) (fun c_31 => ?_)
      · have c_31 := c_31
        refine xr_aload_n E hl 0 rfl dX6_putFrozen_37 rfl ?_
        refine xr_get E hX 0 rfl rfl ly_X6 0 (by decide) fl_X6_7 rfl dX6_putFrozen_38 ?_
        refine xr_bipush E dX6_putFrozen_41 (by decide) ?_
        refine xr_iload_n E hl 2 rfl dX6_putFrozen_43 rfl ?_
        refine xr_iconst E dX6_putFrozen_44 ?_
        refine xr_icmp_ne (tgt := 62) E dX6_putFrozen_45 (by decide) ⟨by omega, by omega⟩ (by decide) (fun c_45 => ?_) (fun c_45 => ?_)
        · have c_45 := c_45
          refine xr_aload_n E hl 0 rfl dX6_putFrozen_62 rfl ?_
          refine xr_get E hX 0 rfl rfl ly_X6 0 (by decide) fl_X6_7 rfl dX6_putFrozen_63 ?_
          refine xr_bipush E dX6_putFrozen_66 (by decide) ?_
          refine xr_iald E hX 1 rfl (by omega) (by omega) (by decide) dX6_putFrozen_68 ?_
          refine xr_iconst E dX6_putFrozen_69 ?_
          refine xr_iload_n E hl 1 rfl dX6_putFrozen_70 rfl ?_
          refine xr_ishl E dX6_putFrozen_71 ?_
          refine xr_iconst E dX6_putFrozen_72 ?_
          refine xr_ixor E dX6_putFrozen_73 ?_
          refine xr_iand E dX6_putFrozen_74 ?_
          have e28 : ∀ x : Int, up now 28 x 28 = x := fun x => up_same _ _ _
          refine xr_iast (W1 := (W_Mn y hMo a_now a_asd a_pst a_mrf a_txt a_olt a_ofr a_nbs a_best a_wys a_rwx a_shx a_bef (up now 28 (bAnd (now 28) (bXor (bShl 1 t) (-1)))) msts mbyt mord alw bco alm abt mlt beg figm)) E hX 1 rfl (by omega) (by omega) (by decide) rfl dX6_putFrozen_75 (fun H locs hX => ?_)
          refine xr_aload_n E hl 0 rfl dX6_putFrozen_76 rfl ?_
          refine xr_get E hX 0 rfl rfl ly_X6 0 (by decide) fl_X6_7 rfl dX6_putFrozen_77 ?_
          refine xr_bipush E dX6_putFrozen_80 (by decide) ?_
          refine xr_iald E hX 1 rfl (by omega) (by omega) (by decide) dX6_putFrozen_82 ?_
          refine xk_ri E hX [] rfl (xv_S (As := [.int (iI ((up now 28 (bAnd (now 28) (bXor (bShl 1 t) (-1)))) 28))]) E hX hl (c_X6_ones l D y z _ ((up now 28 (bAnd (now 28) (bXor (bShl 1 t) (-1)))) 28)) ml_X6_79 st_X6_ones in_X6 co_X6_ones 1 (by decide) ⟨rfl, rfl⟩ ⟨Nat.le_of_ble_eq_true rfl, Nat.le_of_ble_eq_true rfl⟩ [] rfl rfl rfl rfl (Nat.le_of_ble_eq_true rfl) dX6_putFrozen_83 ⟨Nat.le_refl _, Nat.le_refl _⟩) (fun r_83 H locs hw hX => ?_)
          subst hw
          exact xr_iret E hX hQ (up now 28 (bAnd (now 28) (bXor (bShl 1 t) (-1)))) hr ⟨by rw [e28]; unfold mIcR xIcF; (repeat' split) <;> first | (exfalso; omega) | rfl, by unfold mIc xIcF; (repeat' split) <;> first | (exfalso; omega) | rfl⟩ rfl dX6_putFrozen_86
        · have c_45 := c_45
          refine xr_aload_n E hl 0 rfl dX6_putFrozen_48 rfl ?_
          refine xr_get E hX 0 rfl rfl ly_X6 0 (by decide) fl_X6_7 rfl dX6_putFrozen_49 ?_
          refine xr_bipush E dX6_putFrozen_52 (by decide) ?_
          refine xr_iald E hX 1 rfl (by omega) (by omega) (by decide) dX6_putFrozen_54 ?_
          refine xr_iconst E dX6_putFrozen_55 ?_
          refine xr_iload_n E hl 1 rfl dX6_putFrozen_56 rfl ?_
          refine xr_ishl E dX6_putFrozen_57 ?_
          refine xr_ior E dX6_putFrozen_58 ?_
          refine xr_goto (tgt := 75) E dX6_putFrozen_59 (by decide) ?_
          have e28 : ∀ x : Int, up now 28 x 28 = x := fun x => up_same _ _ _
          refine xr_iast (W1 := (W_Mn y hMo a_now a_asd a_pst a_mrf a_txt a_olt a_ofr a_nbs a_best a_wys a_rwx a_shx a_bef (up now 28 (bOr (now 28) (bShl 1 t))) msts mbyt mord alw bco alm abt mlt beg figm)) E hX 1 rfl (by omega) (by omega) (by decide) rfl dX6_putFrozen_75 (fun H locs hX => ?_)
          refine xr_aload_n E hl 0 rfl dX6_putFrozen_76 rfl ?_
          refine xr_get E hX 0 rfl rfl ly_X6 0 (by decide) fl_X6_7 rfl dX6_putFrozen_77 ?_
          refine xr_bipush E dX6_putFrozen_80 (by decide) ?_
          refine xr_iald E hX 1 rfl (by omega) (by omega) (by decide) dX6_putFrozen_82 ?_
          refine xk_ri E hX [] rfl (xv_S (As := [.int (iI ((up now 28 (bOr (now 28) (bShl 1 t))) 28))]) E hX hl (c_X6_ones l D y z _ ((up now 28 (bOr (now 28) (bShl 1 t))) 28)) ml_X6_79 st_X6_ones in_X6 co_X6_ones 1 (by decide) ⟨rfl, rfl⟩ ⟨Nat.le_of_ble_eq_true rfl, Nat.le_of_ble_eq_true rfl⟩ [] rfl rfl rfl rfl (Nat.le_of_ble_eq_true rfl) dX6_putFrozen_83 ⟨Nat.le_refl _, Nat.le_refl _⟩) (fun r_83 H locs hw hX => ?_)
          subst hw
          exact xr_iret E hX hQ (up now 28 (bOr (now 28) (bShl 1 t))) hr ⟨by rw [e28]; unfold mIcR xIcF; (repeat' split) <;> first | (exfalso; omega) | rfl, by unfold mIc xIcF; (repeat' split) <;> first | (exfalso; omega) | rfl⟩ rfl dX6_putFrozen_86
      · have c_31 := c_31
        refine xr_bipush E dX6_putFrozen_34 (by decide) ?_
        exact xr_iret E hX hQ now hr ⟨by unfold mIcR; (repeat' split) <;> first | (exfalso; omega) | rfl | (congr 1; omega) | (congr 2; omega), by unfold mIc; (repeat' split) <;> first | (exfalso; omega) | rfl | (congr 1; omega) | (congr 2; omega)⟩ rfl dX6_putFrozen_36
    · have c_15 := of_decide_eq_false c_15
      refine xr_bipush E dX6_putFrozen_18 (by decide) ?_
      exact xr_iret E hX hQ now hr ⟨by unfold mIcR; (repeat' split) <;> first | (exfalso; omega) | rfl | (congr 1; omega) | (congr 2; omega), by unfold mIc; (repeat' split) <;> first | (exfalso; omega) | rfl | (congr 1; omega) | (congr 2; omega)⟩ rfl dX6_putFrozen_20
abbrev rm_X6_putLimit : Room := { frames := 1, cells := 0, slots := 0, locals := 25 }
set_option maxHeartbeats 4000000 in
set_option maxRecDepth 100000 in
theorem c_X6_putLimit (l : Launch) (D : va_G) (y : CY) (z sz : Nat) (hMo a_now a_asd a_pst a_mrf a_txt a_olt a_ofr a_nbs a_best a_wys a_rwx a_shx a_bef : Nat) (now : Int → Int) (msts : Int) (mbyt : Int) (mord : Int) (alw : Int) (bco : Int) (alm : Int) (abt : Int) (mlt : Int) (beg : Int) (figm : Int) (v : Int) (hv : sm v) (H_M : FM now) : Met l yX6_putLimit (Cond.code yX6_putLimit cX6_putLimit 3 (some .int) :: TW) rm_X6_putLimit (va_Pc [.ref hMo, .int (iI v)] (PX D y z (W_Mn y hMo a_now a_asd a_pst a_mrf a_txt a_olt a_ofr a_nbs a_best a_wys a_rwx a_shx a_bef now msts mbyt mord alw bco alm abt mlt beg figm) sz)) (va_Qi (fun (r : Int32) (uu : (Int → Int)) => r = iI (xBo_r v (now 29)) ∧ uu = mBo v now) (fun uu t => BX D (W_Mn y hMo a_now a_asd a_pst a_mrf a_txt a_olt a_ofr a_nbs a_best a_wys a_rwx a_shx a_bef uu msts mbyt mord alw bco alm abt mlt beg figm) (va_A (W_Mn y hMo a_now a_asd a_pst a_mrf a_txt a_olt a_ofr a_nbs a_best a_wys a_rwx a_shx a_bef now msts mbyt mord alw bco alm abt mlt beg figm) sz) t) (va_A (W_Mn y hMo a_now a_asd a_pst a_mrf a_txt a_olt a_ofr a_nbs a_best a_wys a_rwx a_shx a_bef now msts mbyt mord alw bco alm abt mlt beg figm) sz)) 0 0 (va_A (W_Mn y hMo a_now a_asd a_pst a_mrf a_txt a_olt a_ofr a_nbs a_best a_wys a_rwx a_shx a_bef now msts mbyt mord alw bco alm abt mlt beg figm) sz) := by
  refine xm_i (by decide) (Nat.le_of_ble_eq_true rfl) (fun p e s m args below meth cX ls A Q E hr hnm hX hl hQ => ?_)
  have hl : lv_has ls 3 [(0, .ref hMo), (1, .int (iI v))] := hl
  have hq := H_M.q
  have hfr := H_M.fr
  have hli := H_M.li
  have hsh := H_M.sh
  refine xr_iload_n E hl 1 rfl dX6_putLimit_0 rfl ?_
  refine xr_i2l E dX6_putLimit_1 ⟨by omega, by omega⟩ ?_
  refine xr_ldc2 (n := -1) E kl_X6_82 dX6_putLimit_2 (by decide) ?_
  refine xr_ldc2 (n := 24) E kl_X6_84 dX6_putLimit_5 (by decide) ?_
  refine xk_ri E hX [] rfl (xv_S (As := [.long (lI v), .long (lI (-1)), .long (lI 24)]) E hX hl (c_X6_in l D y z _ v (-1) 24 ⟨by omega, by omega⟩ ⟨by omega, by omega⟩ ⟨by omega, by omega⟩) ml_X6_62 st_X6_in in_X6 co_X6_in 3 (by decide) ⟨rfl, rfl⟩ ⟨Nat.le_of_ble_eq_true rfl, Nat.le_of_ble_eq_true rfl⟩ [] rfl rfl rfl rfl (Nat.le_of_ble_eq_true rfl) dX6_putLimit_8 ⟨Nat.le_refl _, Nat.le_refl _⟩) (fun r_8 H locs hw hX => ?_)
  subst hw
  refine xr_if_neB (tgt := 17) E dX6_putLimit_11 (by decide) (fun c_11 => ?_) (fun c_11 => ?_)
  · have c_11 := of_decide_eq_true c_11
    refine xr_aload_n E hl 0 rfl dX6_putLimit_17 rfl ?_
    refine xr_get E hX 0 rfl rfl ly_X6 0 (by decide) fl_X6_7 rfl dX6_putLimit_18 ?_
    refine xr_bipush E dX6_putLimit_21 (by decide) ?_
    refine xr_iald E hX 1 rfl (by omega) (by omega) (by decide) dX6_putLimit_23 ?_
    refine xr_istore_n (lv' := [(2, .int (iI (now 29))), (0, .ref hMo), (1, .int (iI v))]) E hl dX6_putLimit_24 rfl (by decide) rfl (fun ls hl => ?_)
    refine xr_aload_n E hl 1 rfl dX6_putLimit_25 rfl ?_
    refine xr_get E hX 0 rfl rfl ly_X6 0 (by decide) fl_X6_7 rfl dX6_putLimit_26 ?_
    refine xr_bipush E dX6_putLimit_29 (by decide) ?_
    refine xr_iload_n E hl 2 rfl dX6_putLimit_31 rfl ?_
    refine xr_iast (W1 := (W_Mn y hMo a_now a_asd a_pst a_mrf a_txt a_olt a_ofr a_nbs a_best a_wys a_rwx a_shx a_bef (up now 29 v) msts mbyt mord alw bco alm abt mlt beg figm)) E hX 1 rfl (by omega) (by omega) (by decide) rfl dX6_putLimit_32 (fun H locs hX => ?_)
    refine xr_iload_n E hl 0 rfl dX6_putLimit_33 rfl ?_
    exact xr_iret E hX hQ (up now 29 v) hr ⟨by unfold xBo_r; (repeat' split) <;> first | (exfalso; omega) | rfl | (congr 1; omega) | (congr 2; omega), by unfold mBo; (repeat' split) <;> first | (exfalso; omega) | rfl | (congr 1; omega) | (congr 2; omega)⟩ rfl dX6_putLimit_34
  · have c_11 := of_decide_eq_false c_11
    refine xr_bipush E dX6_putLimit_14 (by decide) ?_
    exact xr_iret E hX hQ now hr ⟨by unfold xBo_r; (repeat' split) <;> first | (exfalso; omega) | rfl | (congr 1; omega) | (congr 2; omega), by unfold mBo; (repeat' split) <;> first | (exfalso; omega) | rfl | (congr 1; omega) | (congr 2; omega)⟩ rfl dX6_putLimit_16
abbrev rm_X6_putForm : Room := { frames := 1, cells := 0, slots := 0, locals := 25 }
set_option maxHeartbeats 4000000 in
set_option maxRecDepth 100000 in
theorem c_X6_putForm (l : Launch) (D : va_G) (y : CY) (z sz : Nat) (hMo a_now a_asd a_pst a_mrf a_txt a_olt a_ofr a_nbs a_best a_wys a_rwx a_shx a_bef : Nat) (now : Int → Int) (msts : Int) (mbyt : Int) (mord : Int) (alw : Int) (bco : Int) (alm : Int) (abt : Int) (mlt : Int) (beg : Int) (figm : Int) (v : Int) (hv : sm v) (H_M : FM now) : Met l yX6_putForm (Cond.code yX6_putForm cX6_putForm 3 (some .int) :: TW) rm_X6_putForm (va_Pc [.ref hMo, .int (iI v)] (PX D y z (W_Mn y hMo a_now a_asd a_pst a_mrf a_txt a_olt a_ofr a_nbs a_best a_wys a_rwx a_shx a_bef now msts mbyt mord alw bco alm abt mlt beg figm) sz)) (va_Qi (fun (r : Int32) (uu : (Int → Int)) => r = iI (xSh_r v (now 30)) ∧ uu = mSh v now) (fun uu t => BX D (W_Mn y hMo a_now a_asd a_pst a_mrf a_txt a_olt a_ofr a_nbs a_best a_wys a_rwx a_shx a_bef uu msts mbyt mord alw bco alm abt mlt beg figm) (va_A (W_Mn y hMo a_now a_asd a_pst a_mrf a_txt a_olt a_ofr a_nbs a_best a_wys a_rwx a_shx a_bef now msts mbyt mord alw bco alm abt mlt beg figm) sz) t) (va_A (W_Mn y hMo a_now a_asd a_pst a_mrf a_txt a_olt a_ofr a_nbs a_best a_wys a_rwx a_shx a_bef now msts mbyt mord alw bco alm abt mlt beg figm) sz)) 0 0 (va_A (W_Mn y hMo a_now a_asd a_pst a_mrf a_txt a_olt a_ofr a_nbs a_best a_wys a_rwx a_shx a_bef now msts mbyt mord alw bco alm abt mlt beg figm) sz) := by
  refine xm_i (by decide) (Nat.le_of_ble_eq_true rfl) (fun p e s m args below meth cX ls A Q E hr hnm hX hl hQ => ?_)
  have hl : lv_has ls 3 [(0, .ref hMo), (1, .int (iI v))] := hl
  have hq := H_M.q
  have hfr := H_M.fr
  have hli := H_M.li
  have hsh := H_M.sh
  refine xr_iload_n E hl 1 rfl dX6_putForm_0 rfl ?_
  refine xr_i2l E dX6_putForm_1 ⟨by omega, by omega⟩ ?_
  refine xr_lconst (v := 0) E dX6_putForm_2 (by decide) ?_
  refine xr_lconst (v := 1) E dX6_putForm_3 (by decide) ?_
  refine xk_ri E hX [] rfl (xv_S (As := [.long (lI v), .long (lI 0), .long (lI 1)]) E hX hl (c_X6_in l D y z _ v 0 1 ⟨by omega, by omega⟩ ⟨by omega, by omega⟩ ⟨by omega, by omega⟩) ml_X6_62 st_X6_in in_X6 co_X6_in 3 (by decide) ⟨rfl, rfl⟩ ⟨Nat.le_of_ble_eq_true rfl, Nat.le_of_ble_eq_true rfl⟩ [] rfl rfl rfl rfl (Nat.le_of_ble_eq_true rfl) dX6_putForm_4 ⟨Nat.le_refl _, Nat.le_refl _⟩) (fun r_4 H locs hw hX => ?_)
  subst hw
  refine xr_if_neB (tgt := 13) E dX6_putForm_7 (by decide) (fun c_7 => ?_) (fun c_7 => ?_)
  · have c_7 := of_decide_eq_true c_7
    refine xr_aload_n E hl 0 rfl dX6_putForm_13 rfl ?_
    refine xr_get E hX 0 rfl rfl ly_X6 0 (by decide) fl_X6_7 rfl dX6_putForm_14 ?_
    refine xr_bipush E dX6_putForm_17 (by decide) ?_
    refine xr_iald E hX 1 rfl (by omega) (by omega) (by decide) dX6_putForm_19 ?_
    refine xr_istore_n (lv' := [(2, .int (iI (now 30))), (0, .ref hMo), (1, .int (iI v))]) E hl dX6_putForm_20 rfl (by decide) rfl (fun ls hl => ?_)
    refine xr_aload_n E hl 1 rfl dX6_putForm_21 rfl ?_
    refine xr_get E hX 0 rfl rfl ly_X6 0 (by decide) fl_X6_7 rfl dX6_putForm_22 ?_
    refine xr_bipush E dX6_putForm_25 (by decide) ?_
    refine xr_iload_n E hl 2 rfl dX6_putForm_27 rfl ?_
    refine xr_iast (W1 := (W_Mn y hMo a_now a_asd a_pst a_mrf a_txt a_olt a_ofr a_nbs a_best a_wys a_rwx a_shx a_bef (up now 30 v) msts mbyt mord alw bco alm abt mlt beg figm)) E hX 1 rfl (by omega) (by omega) (by decide) rfl dX6_putForm_28 (fun H locs hX => ?_)
    refine xr_iload_n E hl 0 rfl dX6_putForm_29 rfl ?_
    exact xr_iret E hX hQ (up now 30 v) hr ⟨by unfold xSh_r; (repeat' split) <;> first | (exfalso; omega) | rfl | (congr 1; omega) | (congr 2; omega), by unfold mSh; (repeat' split) <;> first | (exfalso; omega) | rfl | (congr 1; omega) | (congr 2; omega)⟩ rfl dX6_putForm_30
  · have c_7 := of_decide_eq_false c_7
    refine xr_bipush E dX6_putForm_10 (by decide) ?_
    exact xr_iret E hX hQ now hr ⟨by unfold xSh_r; (repeat' split) <;> first | (exfalso; omega) | rfl | (congr 1; omega) | (congr 2; omega), by unfold mSh; (repeat' split) <;> first | (exfalso; omega) | rfl | (congr 1; omega) | (congr 2; omega)⟩ rfl dX6_putForm_12
abbrev rm_X6_publishedMany : Room := { frames := 0, cells := 0, slots := 0, locals := 0 }
set_option maxHeartbeats 4000000 in
set_option maxRecDepth 100000 in
theorem c_X6_publishedMany (l : Launch) (D : va_G) (y : CY) (z sz : Nat) (hMo a_now a_asd a_pst a_mrf a_txt a_olt a_ofr a_nbs a_best a_wys a_rwx a_shx a_bef : Nat) (now : Int → Int) (msts : Int) (mbyt : Int) (mord : Int) (alw : Int) (bco : Int) (alm : Int) (abt : Int) (mlt : Int) (beg : Int) (figm : Int) (H_M : FM now) : Met l yX6_publishedMany (Cond.code yX6_publishedMany cX6_publishedMany 3 (some .int) :: TW) rm_X6_publishedMany (va_Pc [.ref hMo] (PX D y z (W_Mn y hMo a_now a_asd a_pst a_mrf a_txt a_olt a_ofr a_nbs a_best a_wys a_rwx a_shx a_bef now msts mbyt mord alw bco alm abt mlt beg figm) sz)) (va_Qi (fun (r : Int32) (uu : Unit) => r = iI (xOnes (mP now) (now 0))) (fun uu t => BX D (W_Mn y hMo a_now a_asd a_pst a_mrf a_txt a_olt a_ofr a_nbs a_best a_wys a_rwx a_shx a_bef now msts mbyt mord alw bco alm abt mlt beg figm) (va_A (W_Mn y hMo a_now a_asd a_pst a_mrf a_txt a_olt a_ofr a_nbs a_best a_wys a_rwx a_shx a_bef now msts mbyt mord alw bco alm abt mlt beg figm) sz) t) (va_A (W_Mn y hMo a_now a_asd a_pst a_mrf a_txt a_olt a_ofr a_nbs a_best a_wys a_rwx a_shx a_bef now msts mbyt mord alw bco alm abt mlt beg figm) sz)) 0 0 (va_A (W_Mn y hMo a_now a_asd a_pst a_mrf a_txt a_olt a_ofr a_nbs a_best a_wys a_rwx a_shx a_bef now msts mbyt mord alw bco alm abt mlt beg figm) sz) := by
  refine xm_i (by decide) (Nat.le_of_ble_eq_true rfl) (fun p e s m args below meth cX ls A Q E hr hnm hX hl hQ => ?_)
  have hl : lv_has ls 3 [(0, .ref hMo)] := hl
  have hq := H_M.q
  have hfr := H_M.fr
  have hli := H_M.li
  have hsh := H_M.sh
  refine xr_iconst E dX6_publishedMany_0 ?_
  refine xr_istore_n (lv' := [(1, .int (iI 0)), (0, .ref hMo)]) E hl dX6_publishedMany_1 rfl (by decide) rfl (fun ls hl => ?_)
  refine xr_iconst E dX6_publishedMany_2 ?_
  refine xr_istore_n (lv' := [(2, .int (iI 0)), (1, .int (iI 0)), (0, .ref hMo)]) E hl dX6_publishedMany_3 rfl (by decide) rfl (fun ls hl => ?_)
  have L_4_1 : ∀ (nmu : Nat) (n : Nat) (acc : Int) (t : Int), 12 - n < nmu → (t = n ∧ t ≤ now 0) → (acc = sumI (pr1 (mP now)) 0 n) → ∀ (H : Heap) (locs : List Loc) (ls : Array Slot), XW D A s.heap (W_Mn y hMo a_now a_asd a_pst a_mrf a_txt a_olt a_ofr a_nbs a_best a_wys a_rwx a_shx a_bef now msts mbyt mord alw bco alm abt mlt beg figm) H locs → lv_has ls 3 [(0, .ref hMo), (1, .int (iI acc)), (2, .int (iI t))] → W p l e rm_X6_publishedMany s m args below meth cX H locs 0 0 Q (F0 m 4 ls []) := by
    intro nmu
    induction nmu with
    | zero =>
      intro n acc t hmu
      exact absurd hmu (Nat.not_lt_zero _)
    | succ nmu ih =>
      intro n acc t hmu ht ha H locs ls hX hl
      have ih_4_1 := ih
      clear ih
      refine xr_iload_n E hl 2 rfl dX6_publishedMany_4 rfl ?_
      refine xr_aload_n E hl 0 rfl dX6_publishedMany_5 rfl ?_
      refine xr_get E hX 0 rfl rfl ly_X6 0 (by decide) fl_X6_7 rfl dX6_publishedMany_6 ?_
      refine xr_iconst E dX6_publishedMany_9 ?_
      refine xr_iald E hX 1 rfl (by omega) (by omega) (by decide) dX6_publishedMany_10 ?_
      refine xr_icmp_ge (tgt := 41) E dX6_publishedMany_11 (by decide) ⟨by omega, by omega⟩ ⟨by omega, by omega⟩ (fun c_11 => ?_) (fun c_11 => ?_)
      · have c_11 := c_11
        refine xr_iload_n E hl 1 rfl dX6_publishedMany_41 rfl ?_
        exact xr_iret E hX hQ () hr (by rw [ha, xOnes, show (now 0).toNat = n by omega]) rfl dX6_publishedMany_42
      · have c_11 := c_11
        have hpp := H_M.pri (t := t) (by omega) (by omega)
        refine xr_iload_n E hl 1 rfl dX6_publishedMany_14 rfl ?_
        refine xr_aload_n E hl 0 rfl dX6_publishedMany_15 rfl ?_
        refine xr_get E hX 0 rfl rfl ly_X6 0 (by decide) fl_X6_7 rfl dX6_publishedMany_16 ?_
        refine xr_bipush E dX6_publishedMany_19 (by decide) ?_
        refine xr_iload_n E hl 2 rfl dX6_publishedMany_21 rfl ?_
        refine xr_iadd E dX6_publishedMany_22 ?_
        refine xr_iald E hX 1 rfl (by omega) (by omega) (by decide) dX6_publishedMany_23 ?_
        refine xr_iconst E dX6_publishedMany_24 ?_
        refine xr_icmp_ne (tgt := 32) E dX6_publishedMany_25 (by decide) ⟨by omega, by omega⟩ (by decide) (fun c_25 => ?_) (fun c_25 => ?_)
        · have c_25 := c_25
          refine xr_iconst E dX6_publishedMany_32 ?_
          refine xr_iadd E dX6_publishedMany_33 ?_
          refine xr_istore_n (lv' := [(1, .int (iI (acc + 1))), (0, .ref hMo), (2, .int (iI t))]) E hl dX6_publishedMany_34 rfl (by decide) rfl (fun ls hl => ?_)
          refine xr_iinc (k := 2) (lv' := [(2, .int (iI (t + 1))), (1, .int (iI (acc + 1))), (0, .ref hMo)]) E hl rfl dX6_publishedMany_35 (by decide) rfl (fun ls hl => ?_)
          refine xr_goto (tgt := 4) E dX6_publishedMany_38 (by decide) ?_
          exact ih_4_1 (n + 1) (acc + 1) (t + 1) (by omega) (by omega) (by rw [sumI_s, ← ha, show (0 : Int) + (n : Int) = t by omega]; unfold pr1 mP; split <;> omega) _ _ _ hX (lv_sub hl [2, 1, 0] rfl)
        · have c_25 := c_25
          refine xr_iconst E dX6_publishedMany_28 ?_
          refine xr_goto (tgt := 33) E dX6_publishedMany_29 (by decide) ?_
          refine xr_iadd E dX6_publishedMany_33 ?_
          refine xr_istore_n (lv' := [(1, .int (iI (acc + 0))), (0, .ref hMo), (2, .int (iI t))]) E hl dX6_publishedMany_34 rfl (by decide) rfl (fun ls hl => ?_)
          refine xr_iinc (k := 2) (lv' := [(2, .int (iI (t + 1))), (1, .int (iI (acc + 0))), (0, .ref hMo)]) E hl rfl dX6_publishedMany_35 (by decide) rfl (fun ls hl => ?_)
          refine xr_goto (tgt := 4) E dX6_publishedMany_38 (by decide) ?_
          exact ih_4_1 (n + 1) (acc + 0) (t + 1) (by omega) (by omega) (by rw [sumI_s, ← ha, show (0 : Int) + (n : Int) = t by omega]; unfold pr1 mP; split <;> omega) _ _ _ hX (lv_sub hl [2, 1, 0] rfl)
  exact L_4_1 _ 0 0 0 (Nat.lt_succ_self _) (by omega) rfl _ _ _ hX (lv_sub hl [2, 1, 0] rfl)
abbrev rm_X6_ofQuarter : Room := { frames := 0, cells := 0, slots := 0, locals := 0 }
set_option maxHeartbeats 4000000 in
set_option maxRecDepth 100000 in
theorem c_X6_ofQuarter (l : Launch) (D : va_G) (y : CY) (z sz : Nat) (hMo a_now a_asd a_pst a_mrf a_txt a_olt a_ofr a_nbs a_best a_wys a_rwx a_shx a_bef : Nat) (now : Int → Int) (msts : Int) (mbyt : Int) (mord : Int) (alw : Int) (bco : Int) (alm : Int) (abt : Int) (mlt : Int) (beg : Int) (figm : Int) (t : Int) (w : Int) (H_M : FM now) (ht : 0 ≤ t ∧ t < 12) (hw : sm w) : Met l yX6_ofQuarter (Cond.code yX6_ofQuarter cX6_ofQuarter 3 (some .int) :: TW) rm_X6_ofQuarter (va_Pc [.ref hMo, .int (iI t), .int (iI w)] (PX D y z (W_Mn y hMo a_now a_asd a_pst a_mrf a_txt a_olt a_ofr a_nbs a_best a_wys a_rwx a_shx a_bef now msts mbyt mord alw bco alm abt mlt beg figm) sz)) (va_Qi (fun (r : Int32) (uu : Unit) => r = iI (xOf (mI now) (mP now) (now 28) t w)) (fun uu t => BX D (W_Mn y hMo a_now a_asd a_pst a_mrf a_txt a_olt a_ofr a_nbs a_best a_wys a_rwx a_shx a_bef now msts mbyt mord alw bco alm abt mlt beg figm) (va_A (W_Mn y hMo a_now a_asd a_pst a_mrf a_txt a_olt a_ofr a_nbs a_best a_wys a_rwx a_shx a_bef now msts mbyt mord alw bco alm abt mlt beg figm) sz) t) (va_A (W_Mn y hMo a_now a_asd a_pst a_mrf a_txt a_olt a_ofr a_nbs a_best a_wys a_rwx a_shx a_bef now msts mbyt mord alw bco alm abt mlt beg figm) sz)) 0 0 (va_A (W_Mn y hMo a_now a_asd a_pst a_mrf a_txt a_olt a_ofr a_nbs a_best a_wys a_rwx a_shx a_bef now msts mbyt mord alw bco alm abt mlt beg figm) sz) := by
  refine xm_i (by decide) (Nat.le_of_ble_eq_true rfl) (fun p e s m args below meth cX ls A Q E hr hnm hX hl hQ => ?_)
  have hl : lv_has ls 3 [(0, .ref hMo), (1, .int (iI t)), (2, .int (iI w))] := hl
  have hq := H_M.q
  have hfr := H_M.fr
  have hli := H_M.li
  have hsh := H_M.sh
  refine xr_iload_n E hl 2 rfl dX6_ofQuarter_0 rfl ?_
  refine xr_if_ne (tgt := 15) E dX6_ofQuarter_1 (by decide) ⟨by omega, by omega⟩ (fun c_1 => ?_) (fun c_1 => ?_)
  · have c_1 := c_1
    refine xr_iload_n E hl 2 rfl dX6_ofQuarter_15 rfl ?_
    refine xr_iconst E dX6_ofQuarter_16 ?_
    refine xr_icmp_ne (tgt := 32) E dX6_ofQuarter_17 (by decide) ⟨by omega, by omega⟩ (by decide) (fun c_17 => ?_) (fun c_17 => ?_)
    · have c_17 := c_17
      refine xr_iload_n E hl 2 rfl dX6_ofQuarter_32 rfl ?_
      refine xr_iconst E dX6_ofQuarter_33 ?_
      refine xr_icmp_ne (tgt := 51) E dX6_ofQuarter_34 (by decide) ⟨by omega, by omega⟩ (by decide) (fun c_34 => ?_) (fun c_34 => ?_)
      · have c_34 := c_34
        refine xr_iload_n E hl 1 rfl dX6_ofQuarter_51 rfl ?_
        refine xr_iconst E dX6_ofQuarter_52 ?_
        refine xr_idiv E dX6_ofQuarter_53 ⟨by omega, by omega⟩ (by decide) (by omega) (by omega) ?_
        exact xr_iret E hX hQ () hr (by unfold xOf; (repeat' split) <;> first | (exfalso; omega) | rfl | (congr 1; omega) | (congr 2; omega)) rfl dX6_ofQuarter_54
      · have c_34 := c_34
        refine xr_aload_n E hl 0 rfl dX6_ofQuarter_37 rfl ?_
        refine xr_get E hX 0 rfl rfl ly_X6 0 (by decide) fl_X6_7 rfl dX6_ofQuarter_38 ?_
        refine xr_bipush E dX6_ofQuarter_41 (by decide) ?_
        refine xr_iald E hX 1 rfl (by omega) (by omega) (by decide) dX6_ofQuarter_43 ?_
        refine xr_iload_n E hl 1 rfl dX6_ofQuarter_44 rfl ?_
        refine xr_ishr E dX6_ofQuarter_45 ?_
        refine xr_iconst E dX6_ofQuarter_46 ?_
        refine xr_iand E dX6_ofQuarter_47 ?_
        refine xr_goto (tgt := 54) E dX6_ofQuarter_48 (by decide) ?_
        exact xr_iret E hX hQ () hr (by unfold xOf; (repeat' split) <;> first | (exfalso; omega) | rfl | (congr 1; omega) | (congr 2; omega)) rfl dX6_ofQuarter_54
    · have c_17 := c_17
      refine xr_aload_n E hl 0 rfl dX6_ofQuarter_20 rfl ?_
      refine xr_get E hX 0 rfl rfl ly_X6 0 (by decide) fl_X6_7 rfl dX6_ofQuarter_21 ?_
      refine xr_bipush E dX6_ofQuarter_24 (by decide) ?_
      refine xr_iload_n E hl 1 rfl dX6_ofQuarter_26 rfl ?_
      refine xr_iadd E dX6_ofQuarter_27 ?_
      refine xr_iald E hX 1 rfl (by omega) (by omega) (by decide) dX6_ofQuarter_28 ?_
      refine xr_goto (tgt := 54) E dX6_ofQuarter_29 (by decide) ?_
      exact xr_iret E hX hQ () hr (by unfold xOf; (repeat' split) <;> first | (exfalso; omega) | rfl | (congr 1; omega) | (congr 2; omega)) rfl dX6_ofQuarter_54
  · have c_1 := c_1
    refine xr_aload_n E hl 0 rfl dX6_ofQuarter_4 rfl ?_
    refine xr_get E hX 0 rfl rfl ly_X6 0 (by decide) fl_X6_7 rfl dX6_ofQuarter_5 ?_
    refine xr_iconst E dX6_ofQuarter_8 ?_
    refine xr_iload_n E hl 1 rfl dX6_ofQuarter_9 rfl ?_
    refine xr_iadd E dX6_ofQuarter_10 ?_
    refine xr_iald E hX 1 rfl (by omega) (by omega) (by decide) dX6_ofQuarter_11 ?_
    refine xr_goto (tgt := 54) E dX6_ofQuarter_12 (by decide) ?_
    exact xr_iret E hX hQ () hr (by unfold xOf; (repeat' split) <;> first | (exfalso; omega) | rfl | (congr 1; omega) | (congr 2; omega)) rfl dX6_ofQuarter_54
abbrev rm_X6_together : Room := { frames := 0, cells := 0, slots := 0, locals := 0 }
set_option maxHeartbeats 4000000 in
set_option maxRecDepth 100000 in
theorem c_X6_together (l : Launch) (D : va_G) (y : CY) (z sz : Nat) (hMo a_now a_asd a_pst a_mrf a_txt a_olt a_ofr a_nbs a_best a_wys a_rwx a_shx a_bef : Nat) (now : Int → Int) (msts : Int) (mbyt : Int) (mord : Int) (alw : Int) (bco : Int) (alm : Int) (abt : Int) (mlt : Int) (beg : Int) (figm : Int) (v : Int) (H_M : FM now) (hv : 0 ≤ v ∧ v < 3) : Met l yX6_together (Cond.code yX6_together cX6_together 4 (some .int) :: TW) rm_X6_together (va_Pc [.ref hMo, .int (iI v)] (PX D y z (W_Mn y hMo a_now a_asd a_pst a_mrf a_txt a_olt a_ofr a_nbs a_best a_wys a_rwx a_shx a_bef now msts mbyt mord alw bco alm abt mlt beg figm) sz)) (va_Qi (fun (r : Int32) (uu : Unit) => r = iI (xInd (mI now) (now 0) v)) (fun uu t => BX D (W_Mn y hMo a_now a_asd a_pst a_mrf a_txt a_olt a_ofr a_nbs a_best a_wys a_rwx a_shx a_bef now msts mbyt mord alw bco alm abt mlt beg figm) (va_A (W_Mn y hMo a_now a_asd a_pst a_mrf a_txt a_olt a_ofr a_nbs a_best a_wys a_rwx a_shx a_bef now msts mbyt mord alw bco alm abt mlt beg figm) sz) t) (va_A (W_Mn y hMo a_now a_asd a_pst a_mrf a_txt a_olt a_ofr a_nbs a_best a_wys a_rwx a_shx a_bef now msts mbyt mord alw bco alm abt mlt beg figm) sz)) 0 0 (va_A (W_Mn y hMo a_now a_asd a_pst a_mrf a_txt a_olt a_ofr a_nbs a_best a_wys a_rwx a_shx a_bef now msts mbyt mord alw bco alm abt mlt beg figm) sz) := by
  refine xm_i (by decide) (Nat.le_of_ble_eq_true rfl) (fun p e s m args below meth cX ls A Q E hr hnm hX hl hQ => ?_)
  have hl : lv_has ls 4 [(0, .ref hMo), (1, .int (iI v))] := hl
  have hq := H_M.q
  have hfr := H_M.fr
  have hli := H_M.li
  have hsh := H_M.sh
  refine xr_iconst E dX6_together_0 ?_
  refine xr_istore_n (lv' := [(2, .int (iI 0)), (0, .ref hMo), (1, .int (iI v))]) E hl dX6_together_1 rfl (by decide) rfl (fun ls hl => ?_)
  refine xr_iconst E dX6_together_2 ?_
  refine xr_iload_n E hl 2 rfl dX6_together_3 rfl ?_
  refine xr_imul E dX6_together_4 ?_
  refine xr_istore_n (lv' := [(3, .int (iI (4 * v))), (2, .int (iI 0)), (0, .ref hMo), (1, .int (iI v))]) E hl dX6_together_5 rfl (by decide) rfl (fun ls hl => ?_)
  have L_6_1 : ∀ (nmu : Nat) (n : Nat) (acc : Int) (t : Int), 4 - n < nmu → (t = 4 * v + n) → (acc = sumI (mI now) (4 * v) n) → (n ≤ 4 ∧ (n = 0 ∨ 4 * v + n ≤ now 0)) → ∀ (H : Heap) (locs : List Loc) (ls : Array Slot), XW D A s.heap (W_Mn y hMo a_now a_asd a_pst a_mrf a_txt a_olt a_ofr a_nbs a_best a_wys a_rwx a_shx a_bef now msts mbyt mord alw bco alm abt mlt beg figm) H locs → lv_has ls 4 [(0, .ref hMo), (1, .int (iI v)), (2, .int (iI acc)), (3, .int (iI t))] → W p l e rm_X6_together s m args below meth cX H locs 0 0 Q (F0 m 6 ls []) := by
    intro nmu
    induction nmu with
    | zero =>
      intro n acc t hmu
      exact absurd hmu (Nat.not_lt_zero _)
    | succ nmu ih =>
      intro n acc t hmu ht ha hn H locs ls hX hl
      have ih_6_1 := ih
      clear ih
      refine xr_iload_n E hl 3 rfl dX6_together_6 rfl ?_
      refine xr_iconst E dX6_together_7 ?_
      refine xr_iload_n E hl 1 rfl dX6_together_8 rfl ?_
      refine xr_imul E dX6_together_9 ?_
      refine xr_iconst E dX6_together_10 ?_
      refine xr_iadd E dX6_together_11 ?_
      refine xr_icmp_ge (tgt := 42) E dX6_together_12 (by decide) ⟨by omega, by omega⟩ ⟨by omega, by omega⟩ (fun c_12 => ?_) (fun c_12 => ?_)
      · have c_12 := c_12
        refine xr_iload_n E hl 2 rfl dX6_together_42 rfl ?_
        exact xr_iret E hX hQ () hr (by rw [ha, xInd, show yN (now 0) v = n by unfold yN; split <;> omega]) rfl dX6_together_43
      · have c_12 := c_12
        refine xr_iload_n E hl 3 rfl dX6_together_15 rfl ?_
        refine xr_aload_n E hl 0 rfl dX6_together_16 rfl ?_
        refine xr_get E hX 0 rfl rfl ly_X6 0 (by decide) fl_X6_7 rfl dX6_together_17 ?_
        refine xr_iconst E dX6_together_20 ?_
        refine xr_iald E hX 1 rfl (by omega) (by omega) (by decide) dX6_together_21 ?_
        refine xr_icmp_ge (tgt := 42) E dX6_together_22 (by decide) ⟨by omega, by omega⟩ ⟨by omega, by omega⟩ (fun c_22 => ?_) (fun c_22 => ?_)
        · have c_22 := c_22
          refine xr_iload_n E hl 2 rfl dX6_together_42 rfl ?_
          exact xr_iret E hX hQ () hr (by rw [ha, xInd, show yN (now 0) v = n by unfold yN; split <;> omega]) rfl dX6_together_43
        · have c_22 := c_22
          refine xr_iload_n E hl 2 rfl dX6_together_25 rfl ?_
          refine xr_aload_n E hl 0 rfl dX6_together_26 rfl ?_
          refine xr_get E hX 0 rfl rfl ly_X6 0 (by decide) fl_X6_7 rfl dX6_together_27 ?_
          refine xr_iconst E dX6_together_30 ?_
          refine xr_iload_n E hl 3 rfl dX6_together_31 rfl ?_
          refine xr_iadd E dX6_together_32 ?_
          refine xr_iald E hX 1 rfl (by omega) (by omega) (by decide) dX6_together_33 ?_
          refine xr_iadd E dX6_together_34 ?_
          refine xr_istore_n (lv' := [(2, .int (iI (acc + (now (1 + t))))), (0, .ref hMo), (1, .int (iI v)), (3, .int (iI t))]) E hl dX6_together_35 rfl (by decide) rfl (fun ls hl => ?_)
          refine xr_iinc (k := 3) (lv' := [(3, .int (iI (t + 1))), (2, .int (iI (acc + (now (1 + t))))), (0, .ref hMo), (1, .int (iI v))]) E hl rfl dX6_together_36 (by decide) rfl (fun ls hl => ?_)
          refine xr_goto (tgt := 6) E dX6_together_39 (by decide) ?_
          exact ih_6_1 (n + 1) (acc + (now (1 + t))) (t + 1) (by omega) (by omega) (by rw [sumI_s, ← ha, ← ht]; rfl) (by omega) _ _ _ hX (lv_sub hl [2, 3, 1, 0] rfl)
  exact L_6_1 _ 0 0 (4 * v) (Nat.lt_succ_self _) (by omega) rfl (by omega) _ _ _ hX (lv_sub hl [2, 3, 1, 0] rfl)
abbrev rm_X6_ofYear : Room := { frames := 1, cells := 0, slots := 0, locals := 23 }
set_option maxHeartbeats 4000000 in
set_option maxRecDepth 100000 in
theorem c_X6_ofYear (l : Launch) (D : va_G) (y : CY) (z sz : Nat) (hMo a_now a_asd a_pst a_mrf a_txt a_olt a_ofr a_nbs a_best a_wys a_rwx a_shx a_bef : Nat) (now : Int → Int) (msts : Int) (mbyt : Int) (mord : Int) (alw : Int) (bco : Int) (alm : Int) (abt : Int) (mlt : Int) (beg : Int) (figm : Int) (v : Int) (w : Int) (H_M : FM now) (hv : 0 ≤ v ∧ v < 3) (hw : sm w) : Met l yX6_ofYear (Cond.code yX6_ofYear cX6_ofYear 3 (some .int) :: TW) rm_X6_ofYear (va_Pc [.ref hMo, .int (iI v), .int (iI w)] (PX D y z (W_Mn y hMo a_now a_asd a_pst a_mrf a_txt a_olt a_ofr a_nbs a_best a_wys a_rwx a_shx a_bef now msts mbyt mord alw bco alm abt mlt beg figm) sz)) (va_Qi (fun (r : Int32) (uu : Unit) => r = iI (xYr (mI now) (mT now) (now 0) v w)) (fun uu t => BX D (W_Mn y hMo a_now a_asd a_pst a_mrf a_txt a_olt a_ofr a_nbs a_best a_wys a_rwx a_shx a_bef now msts mbyt mord alw bco alm abt mlt beg figm) (va_A (W_Mn y hMo a_now a_asd a_pst a_mrf a_txt a_olt a_ofr a_nbs a_best a_wys a_rwx a_shx a_bef now msts mbyt mord alw bco alm abt mlt beg figm) sz) t) (va_A (W_Mn y hMo a_now a_asd a_pst a_mrf a_txt a_olt a_ofr a_nbs a_best a_wys a_rwx a_shx a_bef now msts mbyt mord alw bco alm abt mlt beg figm) sz)) 0 0 (va_A (W_Mn y hMo a_now a_asd a_pst a_mrf a_txt a_olt a_ofr a_nbs a_best a_wys a_rwx a_shx a_bef now msts mbyt mord alw bco alm abt mlt beg figm) sz) := by
  refine xm_i (by decide) (Nat.le_of_ble_eq_true rfl) (fun p e s m args below meth cX ls A Q E hr hnm hX hl hQ => ?_)
  have hl : lv_has ls 3 [(0, .ref hMo), (1, .int (iI v)), (2, .int (iI w))] := hl
  have hq := H_M.q
  have hfr := H_M.fr
  have hli := H_M.li
  have hsh := H_M.sh
  have htt := H_M.tot (v := v) (by omega) (by omega)
  have emt : mT now v = now (13 + v) := rfl
  refine xr_iload_n E hl 2 rfl dX6_ofYear_0 rfl ?_
  refine xr_iconst E dX6_ofYear_1 ?_
  refine xr_icmp_ne (tgt := 13) E dX6_ofYear_2 (by decide) ⟨by omega, by omega⟩ (by decide) (fun c_2 => ?_) (fun c_2 => ?_)
  · have c_2 := c_2
    refine xr_aload_n E hl 0 rfl dX6_ofYear_13 rfl ?_
    refine xr_get E hX 0 rfl rfl ly_X6 0 (by decide) fl_X6_7 rfl dX6_ofYear_14 ?_
    refine xr_bipush E dX6_ofYear_17 (by decide) ?_
    refine xr_iload_n E hl 1 rfl dX6_ofYear_19 rfl ?_
    refine xr_iadd E dX6_ofYear_20 ?_
    refine xr_iald E hX 1 rfl (by omega) (by omega) (by decide) dX6_ofYear_21 ?_
    refine xr_iconst E dX6_ofYear_22 ?_
    refine xr_icmp_ne (tgt := 30) E dX6_ofYear_23 (by decide) ⟨by omega, by omega⟩ (by decide) (fun c_23 => ?_) (fun c_23 => ?_)
    · have c_23 := c_23
      refine xr_iload_n E hl 2 rfl dX6_ofYear_30 rfl ?_
      refine xr_if_ne (tgt := 46) E dX6_ofYear_31 (by decide) ⟨by omega, by omega⟩ (fun c_31 => ?_) (fun c_31 => ?_)
      · have c_31 := c_31
        refine xr_aload_n E hl 0 rfl dX6_ofYear_46 rfl ?_
        refine xr_get E hX 0 rfl rfl ly_X6 0 (by decide) fl_X6_7 rfl dX6_ofYear_47 ?_
        refine xr_bipush E dX6_ofYear_50 (by decide) ?_
        refine xr_iload_n E hl 1 rfl dX6_ofYear_52 rfl ?_
        refine xr_iadd E dX6_ofYear_53 ?_
        refine xr_iald E hX 1 rfl (by omega) (by omega) (by decide) dX6_ofYear_54 ?_
        refine xr_aload_n E hl 0 rfl dX6_ofYear_55 rfl ?_
        refine xr_iload_n E hl 1 rfl dX6_ofYear_56 rfl ?_
        refine xk_ri E hX [0, 1] rfl (xv_V (As := [.int (iI v)]) E hX hl (c_X6_together l D y z _ hMo a_now a_asd a_pst a_mrf a_txt a_olt a_ofr a_nbs a_best a_wys a_rwx a_shx a_bef now msts mbyt mord alw bco alm abt mlt beg figm v H_M (by omega)) ml_X6_130 im_X6_together se_X6_together in_X6 co_X6_together 1 (by decide) ⟨rfl, rfl⟩ ⟨Nat.le_of_ble_eq_true rfl, Nat.le_of_ble_eq_true rfl⟩ [0, 1] rfl rfl 0 rfl rfl rfl rfl rfl (Nat.le_of_ble_eq_true rfl) dX6_ofYear_57 ⟨Nat.le_refl _, Nat.le_refl _⟩) (fun r_57 H locs hw hX => ?_)
        subst hw
        refine xr_isub E dX6_ofYear_60 ?_
        refine xr_sipush E dX6_ofYear_61 (by decide) ?_
        refine xr_iadd E dX6_ofYear_64 ?_
        exact xr_iret E hX hQ () hr (by unfold xYr xGap; (repeat' split) <;> first | (exfalso; omega) | rfl | (congr 1; omega) | (congr 2; omega)) rfl dX6_ofYear_65
      · have c_31 := c_31
        refine xr_aload_n E hl 0 rfl dX6_ofYear_34 rfl ?_
        refine xr_get E hX 0 rfl rfl ly_X6 0 (by decide) fl_X6_7 rfl dX6_ofYear_35 ?_
        refine xr_bipush E dX6_ofYear_38 (by decide) ?_
        refine xr_iload_n E hl 1 rfl dX6_ofYear_40 rfl ?_
        refine xr_iadd E dX6_ofYear_41 ?_
        refine xr_iald E hX 1 rfl (by omega) (by omega) (by decide) dX6_ofYear_42 ?_
        refine xr_goto (tgt := 65) E dX6_ofYear_43 (by decide) ?_
        exact xr_iret E hX hQ () hr (by unfold xYr xGap; (repeat' split) <;> first | (exfalso; omega) | rfl | (congr 1; omega) | (congr 2; omega)) rfl dX6_ofYear_65
    · have c_23 := c_23
      refine xr_iconst E dX6_ofYear_26 ?_
      refine xr_goto (tgt := 65) E dX6_ofYear_27 (by decide) ?_
      exact xr_iret E hX hQ () hr (by unfold xYr xGap; (repeat' split) <;> first | (exfalso; omega) | rfl | (congr 1; omega) | (congr 2; omega)) rfl dX6_ofYear_65
  · have c_2 := c_2
    refine xr_aload_n E hl 0 rfl dX6_ofYear_5 rfl ?_
    refine xr_iload_n E hl 1 rfl dX6_ofYear_6 rfl ?_
    refine xk_ri E hX [0, 1] rfl (xv_V (As := [.int (iI v)]) E hX hl (c_X6_together l D y z _ hMo a_now a_asd a_pst a_mrf a_txt a_olt a_ofr a_nbs a_best a_wys a_rwx a_shx a_bef now msts mbyt mord alw bco alm abt mlt beg figm v H_M (by omega)) ml_X6_130 im_X6_together se_X6_together in_X6 co_X6_together 1 (by decide) ⟨rfl, rfl⟩ ⟨Nat.le_of_ble_eq_true rfl, Nat.le_of_ble_eq_true rfl⟩ [0, 1] rfl rfl 0 rfl rfl rfl rfl rfl (Nat.le_of_ble_eq_true rfl) dX6_ofYear_7 ⟨Nat.le_refl _, Nat.le_refl _⟩) (fun r_7 H locs hw hX => ?_)
    subst hw
    refine xr_goto (tgt := 65) E dX6_ofYear_10 (by decide) ?_
    exact xr_iret E hX hQ () hr (by unfold xYr xGap; (repeat' split) <;> first | (exfalso; omega) | rfl | (congr 1; omega) | (congr 2; omega)) rfl dX6_ofYear_65
abbrev rm_X6_countOf : Room := { frames := 1, cells := 0, slots := 0, locals := 22 }
set_option maxHeartbeats 4000000 in
set_option maxRecDepth 100000 in
theorem c_X6_countOf (l : Launch) (D : va_G) (y : CY) (z sz : Nat) (hMo a_now a_asd a_pst a_mrf a_txt a_olt a_ofr a_nbs a_best a_wys a_rwx a_shx a_bef : Nat) (now : Int → Int) (msts : Int) (mbyt : Int) (mord : Int) (alw : Int) (bco : Int) (alm : Int) (abt : Int) (mlt : Int) (beg : Int) (figm : Int) (w : Int) (H_M : FM now) (hw : sm w) : Met l yX6_countOf (Cond.code yX6_countOf cX6_countOf 4 (some .int) :: TW) rm_X6_countOf (va_Pc [.ref hMo, .int (iI w)] (PX D y z (W_Mn y hMo a_now a_asd a_pst a_mrf a_txt a_olt a_ofr a_nbs a_best a_wys a_rwx a_shx a_bef now msts mbyt mord alw bco alm abt mlt beg figm) sz)) (va_Qi (fun (r : Int32) (uu : Unit) => r = iI (xAll (mT now) (mP now) (now 0) (now 28) (now 29) (now 30) w)) (fun uu t => BX D (W_Mn y hMo a_now a_asd a_pst a_mrf a_txt a_olt a_ofr a_nbs a_best a_wys a_rwx a_shx a_bef now msts mbyt mord alw bco alm abt mlt beg figm) (va_A (W_Mn y hMo a_now a_asd a_pst a_mrf a_txt a_olt a_ofr a_nbs a_best a_wys a_rwx a_shx a_bef now msts mbyt mord alw bco alm abt mlt beg figm) sz) t) (va_A (W_Mn y hMo a_now a_asd a_pst a_mrf a_txt a_olt a_ofr a_nbs a_best a_wys a_rwx a_shx a_bef now msts mbyt mord alw bco alm abt mlt beg figm) sz)) 0 0 (va_A (W_Mn y hMo a_now a_asd a_pst a_mrf a_txt a_olt a_ofr a_nbs a_best a_wys a_rwx a_shx a_bef now msts mbyt mord alw bco alm abt mlt beg figm) sz) := by
  refine xm_i (by decide) (Nat.le_of_ble_eq_true rfl) (fun p e s m args below meth cX ls A Q E hr hnm hX hl hQ => ?_)
  have hl : lv_has ls 4 [(0, .ref hMo), (1, .int (iI w))] := hl
  have hq := H_M.q
  have hfr := H_M.fr
  have hli := H_M.li
  have hsh := H_M.sh
  refine xr_iload_n E hl 1 rfl dX6_countOf_0 rfl ?_
  by_cases k_1_0 : w = 0
  · refine xr_tabIn (tgt := 36) E dX6_countOf_1 ⟨by omega, by omega⟩ 0 (by omega) (by omega) rfl (by decide) ?_
    refine xr_aload_n E hl 0 rfl dX6_countOf_36 rfl ?_
    refine xr_get E hX 0 rfl rfl ly_X6 0 (by decide) fl_X6_7 rfl dX6_countOf_37 ?_
    refine xr_iconst E dX6_countOf_40 ?_
    refine xr_iald E hX 1 rfl (by omega) (by omega) (by decide) dX6_countOf_41 ?_
    exact xr_iret E hX hQ () hr (by unfold xAll; (repeat' split) <;> first | (exfalso; omega) | rfl | (congr 1; omega) | (congr 2; omega)) rfl dX6_countOf_42
  by_cases k_1_1 : w = 1
  · refine xr_tabIn (tgt := 43) E dX6_countOf_1 ⟨by omega, by omega⟩ 1 (by omega) (by omega) rfl (by decide) ?_
    refine xr_iconst E dX6_countOf_43 ?_
    refine xr_istore_n (lv' := [(2, .int (iI 0)), (0, .ref hMo), (1, .int (iI w))]) E hl dX6_countOf_44 rfl (by decide) rfl (fun ls hl => ?_)
    refine xr_iconst E dX6_countOf_45 ?_
    refine xr_istore_n (lv' := [(3, .int (iI 0)), (2, .int (iI 0)), (0, .ref hMo), (1, .int (iI w))]) E hl dX6_countOf_46 rfl (by decide) rfl (fun ls hl => ?_)
    have L_47_1 : ∀ (nmu : Nat) (n : Nat) (acc : Int) (t : Int), 3 - n < nmu → (t = n ∧ t ≤ 3) → (acc = sumI (pr1 (mT now)) 0 n) → ∀ (H : Heap) (locs : List Loc) (ls : Array Slot), XW D A s.heap (W_Mn y hMo a_now a_asd a_pst a_mrf a_txt a_olt a_ofr a_nbs a_best a_wys a_rwx a_shx a_bef now msts mbyt mord alw bco alm abt mlt beg figm) H locs → lv_has ls 4 [(0, .ref hMo), (1, .int (iI w)), (2, .int (iI acc)), (3, .int (iI t))] → W p l e rm_X6_countOf s m args below meth cX H locs 0 0 Q (F0 m 47 ls []) := by
      intro nmu
      induction nmu with
      | zero =>
        intro n acc t hmu
        exact absurd hmu (Nat.not_lt_zero _)
      | succ nmu ih =>
        intro n acc t hmu ht ha H locs ls hX hl
        have ih_47_1 := ih
        clear ih
        refine xr_iload_n E hl 3 rfl dX6_countOf_47 rfl ?_
        refine xr_iconst E dX6_countOf_48 ?_
        refine xr_icmp_ge (tgt := 79) E dX6_countOf_49 (by decide) ⟨by omega, by omega⟩ (by decide) (fun c_49 => ?_) (fun c_49 => ?_)
        · have c_49 := c_49
          refine xr_iload_n E hl 2 rfl dX6_countOf_79 rfl ?_
          exact xr_iret E hX hQ () hr (by rw [ha, show n = 3 by omega]; unfold xAll xYears; (repeat' split) <;> first | (exfalso; omega) | rfl) rfl dX6_countOf_80
        · have c_49 := c_49
          have htt := H_M.tot (v := t) (by omega) (by omega)
          refine xr_iload_n E hl 2 rfl dX6_countOf_52 rfl ?_
          refine xr_aload_n E hl 0 rfl dX6_countOf_53 rfl ?_
          refine xr_get E hX 0 rfl rfl ly_X6 0 (by decide) fl_X6_7 rfl dX6_countOf_54 ?_
          refine xr_bipush E dX6_countOf_57 (by decide) ?_
          refine xr_iload_n E hl 3 rfl dX6_countOf_59 rfl ?_
          refine xr_iadd E dX6_countOf_60 ?_
          refine xr_iald E hX 1 rfl (by omega) (by omega) (by decide) dX6_countOf_61 ?_
          refine xr_iconst E dX6_countOf_62 ?_
          refine xr_icmp_ne (tgt := 70) E dX6_countOf_63 (by decide) ⟨by omega, by omega⟩ (by decide) (fun c_63 => ?_) (fun c_63 => ?_)
          · have c_63 := c_63
            refine xr_iconst E dX6_countOf_70 ?_
            refine xr_iadd E dX6_countOf_71 ?_
            refine xr_istore_n (lv' := [(2, .int (iI (acc + 1))), (0, .ref hMo), (1, .int (iI w)), (3, .int (iI t))]) E hl dX6_countOf_72 rfl (by decide) rfl (fun ls hl => ?_)
            refine xr_iinc (k := 3) (lv' := [(3, .int (iI (t + 1))), (2, .int (iI (acc + 1))), (0, .ref hMo), (1, .int (iI w))]) E hl rfl dX6_countOf_73 (by decide) rfl (fun ls hl => ?_)
            refine xr_goto (tgt := 47) E dX6_countOf_76 (by decide) ?_
            exact ih_47_1 (n + 1) (acc + 1) (t + 1) (by omega) (by omega) (by rw [sumI_s, ← ha, show (0 : Int) + (n : Int) = t by omega]; unfold pr1 mT; split <;> omega) _ _ _ hX (lv_sub hl [2, 3, 1, 0] rfl)
          · have c_63 := c_63
            refine xr_iconst E dX6_countOf_66 ?_
            refine xr_goto (tgt := 71) E dX6_countOf_67 (by decide) ?_
            refine xr_iadd E dX6_countOf_71 ?_
            refine xr_istore_n (lv' := [(2, .int (iI (acc + 0))), (0, .ref hMo), (1, .int (iI w)), (3, .int (iI t))]) E hl dX6_countOf_72 rfl (by decide) rfl (fun ls hl => ?_)
            refine xr_iinc (k := 3) (lv' := [(3, .int (iI (t + 1))), (2, .int (iI (acc + 0))), (0, .ref hMo), (1, .int (iI w))]) E hl rfl dX6_countOf_73 (by decide) rfl (fun ls hl => ?_)
            refine xr_goto (tgt := 47) E dX6_countOf_76 (by decide) ?_
            exact ih_47_1 (n + 1) (acc + 0) (t + 1) (by omega) (by omega) (by rw [sumI_s, ← ha, show (0 : Int) + (n : Int) = t by omega]; unfold pr1 mT; split <;> omega) _ _ _ hX (lv_sub hl [2, 3, 1, 0] rfl)
    exact L_47_1 _ 0 0 0 (Nat.lt_succ_self _) (by omega) rfl _ _ _ hX (lv_sub hl [2, 3, 1, 0] rfl)
  by_cases k_1_2 : w = 2
  · refine xr_tabIn (tgt := 81) E dX6_countOf_1 ⟨by omega, by omega⟩ 2 (by omega) (by omega) rfl (by decide) ?_
    refine xr_aload_n E hl 0 rfl dX6_countOf_81 rfl ?_
    refine xk_ri E hX [0, 1] rfl (xv_V (As := []) E hX hl (c_X6_publishedMany l D y z _ hMo a_now a_asd a_pst a_mrf a_txt a_olt a_ofr a_nbs a_best a_wys a_rwx a_shx a_bef now msts mbyt mord alw bco alm abt mlt beg figm H_M) ml_X6_122 im_X6_publishedMany se_X6_publishedMany in_X6 co_X6_publishedMany 0 (by decide) ⟨rfl, rfl⟩ ⟨Nat.le_of_ble_eq_true rfl, Nat.le_of_ble_eq_true rfl⟩ [0, 1] rfl rfl 0 rfl rfl rfl rfl rfl (Nat.le_of_ble_eq_true rfl) dX6_countOf_82 ⟨Nat.le_refl _, Nat.le_refl _⟩) (fun r_82 H locs hw hX => ?_)
    subst hw
    exact xr_iret E hX hQ () hr (by unfold xAll; (repeat' split) <;> first | (exfalso; omega) | rfl | (congr 1; omega) | (congr 2; omega)) rfl dX6_countOf_85
  by_cases k_1_3 : w = 3
  · refine xr_tabIn (tgt := 86) E dX6_countOf_1 ⟨by omega, by omega⟩ 3 (by omega) (by omega) rfl (by decide) ?_
    refine xr_aload_n E hl 0 rfl dX6_countOf_86 rfl ?_
    refine xr_get E hX 0 rfl rfl ly_X6 0 (by decide) fl_X6_7 rfl dX6_countOf_87 ?_
    refine xr_bipush E dX6_countOf_90 (by decide) ?_
    refine xr_iald E hX 1 rfl (by omega) (by omega) (by decide) dX6_countOf_92 ?_
    exact xr_iret E hX hQ () hr (by unfold xAll; (repeat' split) <;> first | (exfalso; omega) | rfl | (congr 1; omega) | (congr 2; omega)) rfl dX6_countOf_93
  by_cases k_1_4 : w = 4
  · refine xr_tabIn (tgt := 94) E dX6_countOf_1 ⟨by omega, by omega⟩ 4 (by omega) (by omega) rfl (by decide) ?_
    refine xr_aload_n E hl 0 rfl dX6_countOf_94 rfl ?_
    refine xr_get E hX 0 rfl rfl ly_X6 0 (by decide) fl_X6_7 rfl dX6_countOf_95 ?_
    refine xr_bipush E dX6_countOf_98 (by decide) ?_
    refine xr_iald E hX 1 rfl (by omega) (by omega) (by decide) dX6_countOf_100 ?_
    exact xr_iret E hX hQ () hr (by unfold xAll; (repeat' split) <;> first | (exfalso; omega) | rfl | (congr 1; omega) | (congr 2; omega)) rfl dX6_countOf_101
  refine xr_tabOut (tgt := 102) E dX6_countOf_1 ⟨by omega, by omega⟩ (by omega) (by decide) ?_
  refine xr_aload_n E hl 0 rfl dX6_countOf_102 rfl ?_
  refine xr_get E hX 0 rfl rfl ly_X6 0 (by decide) fl_X6_7 rfl dX6_countOf_103 ?_
  refine xr_bipush E dX6_countOf_106 (by decide) ?_
  refine xr_iald E hX 1 rfl (by omega) (by omega) (by decide) dX6_countOf_108 ?_
  exact xr_iret E hX hQ () hr (by unfold xAll; (repeat' split) <;> first | (exfalso; omega) | rfl | (congr 1; omega) | (congr 2; omega)) rfl dX6_countOf_109
