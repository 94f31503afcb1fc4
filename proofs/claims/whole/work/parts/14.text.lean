/-! Text: reading a byte -/
abbrev W_T (y : CY) (hT a_byt a_ltr a_fir a_sec : Nat) (byt : Int → Int) (len : Int) (ltr : Int → Int) (fir : Int → Int) (sec : Int → Int) (ord : Int) (opn : Bool) (num : Int) (fig : Int) : va_W := [(hT, .inr (4, [.ref a_byt, .int (iI len), .ref a_ltr, .ref a_fir, .ref a_sec, .int (iI ord), .int (bB opn), .int (iI num), .int (iI fig)])), (a_byt, .inl (y.1, 120, .inl (ia byt))), (a_ltr, .inl (y.1, 60, .inl (ia ltr))), (a_fir, .inl (y.1, 60, .inl (ia fir))), (a_sec, .inl (y.1, 60, .inl (ia sec)))]
def xNum (c : Int) : Int := if c = 111 ∨ c = 112 then 0 else if c = 113 ∨ c = 110 ∨ c = 108 ∨ c = 102 then 1 else if c = 116 ∨ c = 122 then 2 else -1
theorem xNum_bd (c : Int) : -1 ≤ xNum c ∧ xNum c ≤ 2 := by unfold xNum; (repeat' split) <;> omega
abbrev rm_X4_numbersOf : Room := { frames := 0, cells := 0, slots := 0, locals := 0 }
set_option maxHeartbeats 4000000 in
set_option maxRecDepth 100000 in
theorem c_X4_numbersOf (l : Launch) (D : va_G) (y : CY) (z sz : Nat) (c : Int) (hc : sm c) : Met l yX4_numbersOf (Cond.code yX4_numbersOf cX4_numbersOf 1 (some .int) :: TW) rm_X4_numbersOf (va_Pc [.int (iI c)] (PX D y z [] sz)) (va_Qi (fun (r : Int32) (uu : Unit) => r = iI (xNum c)) (fun uu t => BX D [] (va_A [] sz) t) (va_A [] sz)) 0 0 (va_A [] sz) := by
  refine xm_i (by decide) (Nat.le_of_ble_eq_true rfl) (fun p e s m args below meth cX ls A Q E hr hnm hX hl hQ => ?_)
  have hl : lv_has ls 1 [(0, .int (iI c))] := hl
  refine xr_iload_n E hl 0 rfl dX4_numbersOf_0 rfl ?_
  by_cases k_1_102 : c = 102
  · refine xr_tabIn (tgt := 102) E dX4_numbersOf_1 ⟨by omega, by omega⟩ 0 (by omega) (by omega) rfl (by decide) ?_
    refine xr_iconst E dX4_numbersOf_102 ?_
    exact xr_iret E hX hQ () hr (by unfold xNum; (repeat' split) <;> first | (exfalso; omega) | rfl | (congr 1; omega) | (congr 2; omega)) rfl dX4_numbersOf_103
  by_cases k_1_103 : c = 103
  · refine xr_tabIn (tgt := 106) E dX4_numbersOf_1 ⟨by omega, by omega⟩ 1 (by omega) (by omega) rfl (by decide) ?_
    refine xr_iconst E dX4_numbersOf_106 ?_
    exact xr_iret E hX hQ () hr (by unfold xNum; (repeat' split) <;> first | (exfalso; omega) | rfl | (congr 1; omega) | (congr 2; omega)) rfl dX4_numbersOf_107
  by_cases k_1_104 : c = 104
  · refine xr_tabIn (tgt := 106) E dX4_numbersOf_1 ⟨by omega, by omega⟩ 2 (by omega) (by omega) rfl (by decide) ?_
    refine xr_iconst E dX4_numbersOf_106 ?_
    exact xr_iret E hX hQ () hr (by unfold xNum; (repeat' split) <;> first | (exfalso; omega) | rfl | (congr 1; omega) | (congr 2; omega)) rfl dX4_numbersOf_107
  by_cases k_1_105 : c = 105
  · refine xr_tabIn (tgt := 106) E dX4_numbersOf_1 ⟨by omega, by omega⟩ 3 (by omega) (by omega) rfl (by decide) ?_
    refine xr_iconst E dX4_numbersOf_106 ?_
    exact xr_iret E hX hQ () hr (by unfold xNum; (repeat' split) <;> first | (exfalso; omega) | rfl | (congr 1; omega) | (congr 2; omega)) rfl dX4_numbersOf_107
  by_cases k_1_106 : c = 106
  · refine xr_tabIn (tgt := 106) E dX4_numbersOf_1 ⟨by omega, by omega⟩ 4 (by omega) (by omega) rfl (by decide) ?_
    refine xr_iconst E dX4_numbersOf_106 ?_
    exact xr_iret E hX hQ () hr (by unfold xNum; (repeat' split) <;> first | (exfalso; omega) | rfl | (congr 1; omega) | (congr 2; omega)) rfl dX4_numbersOf_107
  by_cases k_1_107 : c = 107
  · refine xr_tabIn (tgt := 106) E dX4_numbersOf_1 ⟨by omega, by omega⟩ 5 (by omega) (by omega) rfl (by decide) ?_
    refine xr_iconst E dX4_numbersOf_106 ?_
    exact xr_iret E hX hQ () hr (by unfold xNum; (repeat' split) <;> first | (exfalso; omega) | rfl | (congr 1; omega) | (congr 2; omega)) rfl dX4_numbersOf_107
  by_cases k_1_108 : c = 108
  · refine xr_tabIn (tgt := 102) E dX4_numbersOf_1 ⟨by omega, by omega⟩ 6 (by omega) (by omega) rfl (by decide) ?_
    refine xr_iconst E dX4_numbersOf_102 ?_
    exact xr_iret E hX hQ () hr (by unfold xNum; (repeat' split) <;> first | (exfalso; omega) | rfl | (congr 1; omega) | (congr 2; omega)) rfl dX4_numbersOf_103
  by_cases k_1_109 : c = 109
  · refine xr_tabIn (tgt := 106) E dX4_numbersOf_1 ⟨by omega, by omega⟩ 7 (by omega) (by omega) rfl (by decide) ?_
    refine xr_iconst E dX4_numbersOf_106 ?_
    exact xr_iret E hX hQ () hr (by unfold xNum; (repeat' split) <;> first | (exfalso; omega) | rfl | (congr 1; omega) | (congr 2; omega)) rfl dX4_numbersOf_107
  by_cases k_1_110 : c = 110
  · refine xr_tabIn (tgt := 102) E dX4_numbersOf_1 ⟨by omega, by omega⟩ 8 (by omega) (by omega) rfl (by decide) ?_
    refine xr_iconst E dX4_numbersOf_102 ?_
    exact xr_iret E hX hQ () hr (by unfold xNum; (repeat' split) <;> first | (exfalso; omega) | rfl | (congr 1; omega) | (congr 2; omega)) rfl dX4_numbersOf_103
  by_cases k_1_111 : c = 111
  · refine xr_tabIn (tgt := 100) E dX4_numbersOf_1 ⟨by omega, by omega⟩ 9 (by omega) (by omega) rfl (by decide) ?_
    refine xr_iconst E dX4_numbersOf_100 ?_
    exact xr_iret E hX hQ () hr (by unfold xNum; (repeat' split) <;> first | (exfalso; omega) | rfl | (congr 1; omega) | (congr 2; omega)) rfl dX4_numbersOf_101
  by_cases k_1_112 : c = 112
  · refine xr_tabIn (tgt := 100) E dX4_numbersOf_1 ⟨by omega, by omega⟩ 10 (by omega) (by omega) rfl (by decide) ?_
    refine xr_iconst E dX4_numbersOf_100 ?_
    exact xr_iret E hX hQ () hr (by unfold xNum; (repeat' split) <;> first | (exfalso; omega) | rfl | (congr 1; omega) | (congr 2; omega)) rfl dX4_numbersOf_101
  by_cases k_1_113 : c = 113
  · refine xr_tabIn (tgt := 102) E dX4_numbersOf_1 ⟨by omega, by omega⟩ 11 (by omega) (by omega) rfl (by decide) ?_
    refine xr_iconst E dX4_numbersOf_102 ?_
    exact xr_iret E hX hQ () hr (by unfold xNum; (repeat' split) <;> first | (exfalso; omega) | rfl | (congr 1; omega) | (congr 2; omega)) rfl dX4_numbersOf_103
  by_cases k_1_114 : c = 114
  · refine xr_tabIn (tgt := 106) E dX4_numbersOf_1 ⟨by omega, by omega⟩ 12 (by omega) (by omega) rfl (by decide) ?_
    refine xr_iconst E dX4_numbersOf_106 ?_
    exact xr_iret E hX hQ () hr (by unfold xNum; (repeat' split) <;> first | (exfalso; omega) | rfl | (congr 1; omega) | (congr 2; omega)) rfl dX4_numbersOf_107
  by_cases k_1_115 : c = 115
  · refine xr_tabIn (tgt := 106) E dX4_numbersOf_1 ⟨by omega, by omega⟩ 13 (by omega) (by omega) rfl (by decide) ?_
    refine xr_iconst E dX4_numbersOf_106 ?_
    exact xr_iret E hX hQ () hr (by unfold xNum; (repeat' split) <;> first | (exfalso; omega) | rfl | (congr 1; omega) | (congr 2; omega)) rfl dX4_numbersOf_107
  by_cases k_1_116 : c = 116
  · refine xr_tabIn (tgt := 104) E dX4_numbersOf_1 ⟨by omega, by omega⟩ 14 (by omega) (by omega) rfl (by decide) ?_
    refine xr_iconst E dX4_numbersOf_104 ?_
    exact xr_iret E hX hQ () hr (by unfold xNum; (repeat' split) <;> first | (exfalso; omega) | rfl | (congr 1; omega) | (congr 2; omega)) rfl dX4_numbersOf_105
  by_cases k_1_117 : c = 117
  · refine xr_tabIn (tgt := 106) E dX4_numbersOf_1 ⟨by omega, by omega⟩ 15 (by omega) (by omega) rfl (by decide) ?_
    refine xr_iconst E dX4_numbersOf_106 ?_
    exact xr_iret E hX hQ () hr (by unfold xNum; (repeat' split) <;> first | (exfalso; omega) | rfl | (congr 1; omega) | (congr 2; omega)) rfl dX4_numbersOf_107
  by_cases k_1_118 : c = 118
  · refine xr_tabIn (tgt := 106) E dX4_numbersOf_1 ⟨by omega, by omega⟩ 16 (by omega) (by omega) rfl (by decide) ?_
    refine xr_iconst E dX4_numbersOf_106 ?_
    exact xr_iret E hX hQ () hr (by unfold xNum; (repeat' split) <;> first | (exfalso; omega) | rfl | (congr 1; omega) | (congr 2; omega)) rfl dX4_numbersOf_107
  by_cases k_1_119 : c = 119
  · refine xr_tabIn (tgt := 106) E dX4_numbersOf_1 ⟨by omega, by omega⟩ 17 (by omega) (by omega) rfl (by decide) ?_
    refine xr_iconst E dX4_numbersOf_106 ?_
    exact xr_iret E hX hQ () hr (by unfold xNum; (repeat' split) <;> first | (exfalso; omega) | rfl | (congr 1; omega) | (congr 2; omega)) rfl dX4_numbersOf_107
  by_cases k_1_120 : c = 120
  · refine xr_tabIn (tgt := 106) E dX4_numbersOf_1 ⟨by omega, by omega⟩ 18 (by omega) (by omega) rfl (by decide) ?_
    refine xr_iconst E dX4_numbersOf_106 ?_
    exact xr_iret E hX hQ () hr (by unfold xNum; (repeat' split) <;> first | (exfalso; omega) | rfl | (congr 1; omega) | (congr 2; omega)) rfl dX4_numbersOf_107
  by_cases k_1_121 : c = 121
  · refine xr_tabIn (tgt := 106) E dX4_numbersOf_1 ⟨by omega, by omega⟩ 19 (by omega) (by omega) rfl (by decide) ?_
    refine xr_iconst E dX4_numbersOf_106 ?_
    exact xr_iret E hX hQ () hr (by unfold xNum; (repeat' split) <;> first | (exfalso; omega) | rfl | (congr 1; omega) | (congr 2; omega)) rfl dX4_numbersOf_107
  by_cases k_1_122 : c = 122
  · refine xr_tabIn (tgt := 104) E dX4_numbersOf_1 ⟨by omega, by omega⟩ 20 (by omega) (by omega) rfl (by decide) ?_
    refine xr_iconst E dX4_numbersOf_104 ?_
    exact xr_iret E hX hQ () hr (by unfold xNum; (repeat' split) <;> first | (exfalso; omega) | rfl | (congr 1; omega) | (congr 2; omega)) rfl dX4_numbersOf_105
  refine xr_tabOut (tgt := 106) E dX4_numbersOf_1 ⟨by omega, by omega⟩ (by omega) (by decide) ?_
  refine xr_iconst E dX4_numbersOf_106 ?_
  exact xr_iret E hX hQ () hr (by unfold xNum; (repeat' split) <;> first | (exfalso; omega) | rfl | (congr 1; omega) | (congr 2; omega)) rfl dX4_numbersOf_107
abbrev rm_X4_takes : Room := { frames := 0, cells := 0, slots := 0, locals := 0 }
set_option maxHeartbeats 4000000 in
set_option maxRecDepth 100000 in
theorem c_X4_takes (l : Launch) (D : va_G) (y : CY) (z sz : Nat) (hT a_byt a_ltr a_fir a_sec : Nat) (byt : Int → Int) (len : Int) (ltr : Int → Int) (fir : Int → Int) (sec : Int → Int) (ord : Int) (opn : Bool) (num : Int) (fig : Int) (c : Int) (hl0 : 0 ≤ len ∧ len < 120) : Met l yX4_takes (Cond.code yX4_takes cX4_takes 2 (some .int) :: TW) rm_X4_takes (va_Pc [.ref hT, .int (iI c)] (PX D y z (W_T y hT a_byt a_ltr a_fir a_sec byt len ltr fir sec ord opn num fig) sz)) (va_Qi (fun (r : Int32) (uu : (Int → Int) × (Int)) => r = iI (len + 1) ∧ uu = (up byt len c, len + 1)) (fun uu t => BX D (W_T y hT a_byt a_ltr a_fir a_sec uu.1 uu.2 ltr fir sec ord opn num fig) (va_A (W_T y hT a_byt a_ltr a_fir a_sec byt len ltr fir sec ord opn num fig) sz) t) (va_A (W_T y hT a_byt a_ltr a_fir a_sec byt len ltr fir sec ord opn num fig) sz)) 0 0 (va_A (W_T y hT a_byt a_ltr a_fir a_sec byt len ltr fir sec ord opn num fig) sz) := by
  refine xm_i (by decide) (Nat.le_of_ble_eq_true rfl) (fun p e s m args below meth cX ls A Q E hr hnm hX hl hQ => ?_)
  have hl : lv_has ls 2 [(0, .ref hT), (1, .int (iI c))] := hl
  refine xr_aload_n E hl 0 rfl dX4_takes_0 rfl ?_
  refine xr_get E hX 0 rfl rfl ly_X4 1 (by decide) fl_X4_15 rfl dX4_takes_1 ?_
  refine xr_bipush E dX4_takes_4 (by decide) ?_
  refine xr_icmp_ge (tgt := 29) E dX4_takes_6 (by decide) ⟨by omega, by omega⟩ (by decide) (fun c_6 => ?_) (fun c_6 => ?_)
  · have c_6 := c_6
    refine xr_aload_n E hl 0 rfl dX4_takes_29 rfl ?_
    refine xr_get E hX 0 rfl rfl ly_X4 1 (by decide) fl_X4_15 rfl dX4_takes_30 ?_
    exact xr_iret E hX hQ (byt, len) hr (by first | exact ⟨rfl, rfl⟩ | (exfalso; omega)) rfl dX4_takes_33
  · have c_6 := c_6
    refine xr_aload_n E hl 0 rfl dX4_takes_9 rfl ?_
    refine xr_get E hX 0 rfl rfl ly_X4 0 (by decide) fl_X4_9 rfl dX4_takes_10 ?_
    refine xr_aload_n E hl 0 rfl dX4_takes_13 rfl ?_
    refine xr_get E hX 0 rfl rfl ly_X4 1 (by decide) fl_X4_15 rfl dX4_takes_14 ?_
    refine xr_iload_n E hl 1 rfl dX4_takes_17 rfl ?_
    refine xr_iast (W1 := (W_T y hT a_byt a_ltr a_fir a_sec (up byt len c) len ltr fir sec ord opn num fig)) E hX 1 rfl (by omega) (by omega) (by decide) rfl dX4_takes_18 (fun H locs hX => ?_)
    refine xr_aload_n E hl 0 rfl dX4_takes_19 rfl ?_
    refine xr_dup E dX4_takes_20 rfl ?_
    refine xr_get E hX 0 rfl rfl ly_X4 1 (by decide) fl_X4_15 rfl dX4_takes_21 ?_
    refine xr_iconst E dX4_takes_24 ?_
    refine xr_iadd E dX4_takes_25 ?_
    refine xr_put (W1 := (W_T y hT a_byt a_ltr a_fir a_sec (up byt len c) (len + 1) ltr fir sec ord opn num fig)) E hX 0 rfl rfl ly_X4 tyX4_ok nmX4 1 (by decide) fl_X4_15 rfl rfl rfl (Nat.le_of_ble_eq_true rfl) rfl dX4_takes_26 (fun H locs hX => ?_)
    refine xr_aload_n E hl 0 rfl dX4_takes_29 rfl ?_
    refine xr_get E hX 0 rfl rfl ly_X4 1 (by decide) fl_X4_15 rfl dX4_takes_30 ?_
    exact xr_iret E hX hQ ((up byt len c), (len + 1)) hr (by first | exact ⟨rfl, rfl⟩ | (exfalso; omega)) rfl dX4_takes_33
abbrev PS : Type := (Int → Int) × (Int → Int) × (Int → Int) × Int × Bool × Int × Int
def pOpen (c : Int) (ltr fir sec : Int → Int) (ord : Int) (opn : Bool) (num fig : Int) : Bool × PS := if xNum c = -1 ∨ 60 ≤ ord then (false, (ltr, fir, sec, ord, opn, num, fig)) else (true, (up ltr ord c, up fir ord 0, up sec ord 0, ord, true, 0, 0))
def pClose (ltr fir sec : Int → Int) (ord : Int) (opn : Bool) (num fig : Int) : Bool × PS := if num < xNum (ltr ord) then (false, (ltr, fir, sec, ord, opn, num, fig)) else (true, (ltr, fir, sec, ord + 1, false, num, fig))
def pFig (v : Int) (ltr fir sec : Int → Int) (ord : Int) (opn : Bool) (num fig : Int) : Bool × PS :=
  if (fig = 0 ∧ xNum (ltr ord) ≤ num) ∨ 3 ≤ fig then (false, (ltr, fir, sec, ord, opn, num, fig)) else
  if fig = 0 then (if num + 1 = 1 then (true, (ltr, up fir ord (10 * fir ord + v), sec, ord, opn, num + 1, fig + 1)) else (true, (ltr, fir, up sec ord (10 * sec ord + v), ord, opn, num + 1, fig + 1)))
  else (if num + 0 = 1 then (true, (ltr, up fir ord (10 * fir ord + v), sec, ord, opn, num + 0, fig + 1)) else (true, (ltr, fir, up sec ord (10 * sec ord + v), ord, opn, num + 0, fig + 1)))
def pByte (c : Int) (ltr fir sec : Int → Int) (ord : Int) (opn : Bool) (num fig : Int) : Bool × PS :=
  if c = 32 then (true, (ltr, fir, sec, ord, opn, num, 0)) else if opn = false then pOpen c ltr fir sec ord opn num fig else if c = 59 then pClose ltr fir sec ord opn num fig else if 48 ≤ c ∧ c ≤ 57 then pFig (c - 48) ltr fir sec ord opn num fig else (false, (ltr, fir, sec, ord, opn, num, fig))
theorem pOpen_ord (c : Int) (ltr fir sec : Int → Int) (ord : Int) (opn : Bool) (num fig : Int) : (pOpen c ltr fir sec ord opn num fig).2.2.2.2.1 = ord := by unfold pOpen; split <;> rfl
theorem pClose_o (ltr fir sec : Int → Int) (ord : Int) (opn : Bool) (num fig : Int) : (pClose ltr fir sec ord opn num fig).2.1 = ltr ∧ (pClose ltr fir sec ord opn num fig).2.2.1 = fir ∧ (pClose ltr fir sec ord opn num fig).2.2.2.1 = sec ∧ (pClose ltr fir sec ord opn num fig).2.2.2.2.2.2.1 = num ∧ (pClose ltr fir sec ord opn num fig).2.2.2.2.2.2.2 = fig := by unfold pClose; split <;> exact ⟨rfl, rfl, rfl, rfl, rfl⟩
theorem pFig_o (v : Int) (ltr fir sec : Int → Int) (ord : Int) (opn : Bool) (num fig : Int) : (pFig v ltr fir sec ord opn num fig).2.1 = ltr ∧ (pFig v ltr fir sec ord opn num fig).2.2.2.2.1 = ord ∧ (pFig v ltr fir sec ord opn num fig).2.2.2.2.2.1 = opn := by unfold pFig; (repeat' split) <;> exact ⟨rfl, rfl, rfl⟩
abbrev rm_X4_opens : Room := { frames := 1, cells := 0, slots := 0, locals := 20 }
set_option maxHeartbeats 4000000 in
set_option maxRecDepth 100000 in
theorem c_X4_opens (l : Launch) (D : va_G) (y : CY) (z sz : Nat) (hT a_byt a_ltr a_fir a_sec : Nat) (byt : Int → Int) (len : Int) (ltr : Int → Int) (fir : Int → Int) (sec : Int → Int) (ord : Int) (opn : Bool) (num : Int) (fig : Int) (c : Int) (hc : sm c) (ho : 0 ≤ ord ∧ ord ≤ 60) : Met l yX4_opens (Cond.code yX4_opens cX4_opens 2 (some .boolean) :: TW) rm_X4_opens (va_Pc [.ref hT, .int (iI c)] (PX D y z (W_T y hT a_byt a_ltr a_fir a_sec byt len ltr fir sec ord opn num fig) sz)) (va_Qi (fun (r : Int32) (uu : (Int → Int) × (Int → Int) × (Int → Int) × (Bool) × (Int) × (Int)) => r = bB ((pOpen c ltr fir sec ord opn num fig).1) ∧ uu = ((pOpen c ltr fir sec ord opn num fig).2.1, (pOpen c ltr fir sec ord opn num fig).2.2.1, (pOpen c ltr fir sec ord opn num fig).2.2.2.1, (pOpen c ltr fir sec ord opn num fig).2.2.2.2.2.1, (pOpen c ltr fir sec ord opn num fig).2.2.2.2.2.2.1, (pOpen c ltr fir sec ord opn num fig).2.2.2.2.2.2.2)) (fun uu t => BX D (W_T y hT a_byt a_ltr a_fir a_sec byt len uu.1 uu.2.1 uu.2.2.1 ord uu.2.2.2.1 uu.2.2.2.2.1 uu.2.2.2.2.2) (va_A (W_T y hT a_byt a_ltr a_fir a_sec byt len ltr fir sec ord opn num fig) sz) t) (va_A (W_T y hT a_byt a_ltr a_fir a_sec byt len ltr fir sec ord opn num fig) sz)) 0 0 (va_A (W_T y hT a_byt a_ltr a_fir a_sec byt len ltr fir sec ord opn num fig) sz) := by
  refine xm_i (by decide) (Nat.le_of_ble_eq_true rfl) (fun p e s m args below meth cX ls A Q E hr hnm hX hl hQ => ?_)
  have hl : lv_has ls 2 [(0, .ref hT), (1, .int (iI c))] := hl
  have hnc := xNum_bd c
  refine xr_iload_n E hl 1 rfl dX4_opens_0 rfl ?_
  refine xk_ri E hX [] rfl (xv_S (As := [.int (iI c)]) E hX hl (c_X4_numbersOf l D y z _ c ⟨by omega, by omega⟩) ml_X4_59 st_X4_numbersOf in_X4 co_X4_numbersOf 1 (by decide) ⟨rfl, rfl⟩ ⟨Nat.le_of_ble_eq_true rfl, Nat.le_of_ble_eq_true rfl⟩ [] rfl rfl rfl rfl (Nat.le_of_ble_eq_true rfl) dX4_opens_1 ⟨Nat.le_refl _, Nat.le_refl _⟩) (fun r_1 H locs hw hX => ?_)
  subst hw
  refine xr_iconst E dX4_opens_4 ?_
  refine xr_icmp_eq (tgt := 20) E dX4_opens_5 (by decide) ⟨by omega, by omega⟩ (by decide) (fun c_5 => ?_) (fun c_5 => ?_)
  · have c_5 := c_5
    refine xr_iconst E dX4_opens_20 ?_
    exact xr_zret E hX hQ (ltr, fir, sec, opn, num, fig) hr (iI_bB0 (b := false) rfl) (by unfold pOpen; first | (rw [if_pos (by omega)]; exact ⟨iI_bB0 rfl, rfl⟩) | (rw [if_neg (by omega)]; exact ⟨iI_bB1 rfl, rfl⟩)) rfl dX4_opens_21
  · have c_5 := c_5
    refine xr_aload_n E hl 0 rfl dX4_opens_8 rfl ?_
    refine xr_get E hX 0 rfl rfl ly_X4 5 (by decide) fl_X4_28 rfl dX4_opens_9 ?_
    refine xr_aload_n E hl 0 rfl dX4_opens_12 rfl ?_
    refine xr_get E hX 0 rfl rfl ly_X4 2 (by decide) fl_X4_19 rfl dX4_opens_13 ?_
    refine xr_alen (v := 60) E hX 2 0 rfl rfl rfl dX4_opens_16 ?_
    refine xr_icmp_lt (tgt := 22) E dX4_opens_17 (by decide) ⟨by omega, by omega⟩ (by decide) (fun c_17 => ?_) (fun c_17 => ?_)
    · have c_17 := c_17
      refine xr_aload_n E hl 0 rfl dX4_opens_22 rfl ?_
      refine xr_get E hX 0 rfl rfl ly_X4 2 (by decide) fl_X4_19 rfl dX4_opens_23 ?_
      refine xr_aload_n E hl 0 rfl dX4_opens_26 rfl ?_
      refine xr_get E hX 0 rfl rfl ly_X4 5 (by decide) fl_X4_28 rfl dX4_opens_27 ?_
      refine xr_iload_n E hl 1 rfl dX4_opens_30 rfl ?_
      refine xr_iast (W1 := (W_T y hT a_byt a_ltr a_fir a_sec byt len (up ltr ord c) fir sec ord opn num fig)) E hX 2 rfl (by omega) (by omega) (by decide) rfl dX4_opens_31 (fun H locs hX => ?_)
      refine xr_aload_n E hl 0 rfl dX4_opens_32 rfl ?_
      refine xr_get E hX 0 rfl rfl ly_X4 3 (by decide) fl_X4_22 rfl dX4_opens_33 ?_
      refine xr_aload_n E hl 0 rfl dX4_opens_36 rfl ?_
      refine xr_get E hX 0 rfl rfl ly_X4 5 (by decide) fl_X4_28 rfl dX4_opens_37 ?_
      refine xr_iconst E dX4_opens_40 ?_
      refine xr_iast (W1 := (W_T y hT a_byt a_ltr a_fir a_sec byt len (up ltr ord c) (up fir ord 0) sec ord opn num fig)) E hX 3 rfl (by omega) (by omega) (by decide) rfl dX4_opens_41 (fun H locs hX => ?_)
      refine xr_aload_n E hl 0 rfl dX4_opens_42 rfl ?_
      refine xr_get E hX 0 rfl rfl ly_X4 4 (by decide) fl_X4_25 rfl dX4_opens_43 ?_
      refine xr_aload_n E hl 0 rfl dX4_opens_46 rfl ?_
      refine xr_get E hX 0 rfl rfl ly_X4 5 (by decide) fl_X4_28 rfl dX4_opens_47 ?_
      refine xr_iconst E dX4_opens_50 ?_
      refine xr_iast (W1 := (W_T y hT a_byt a_ltr a_fir a_sec byt len (up ltr ord c) (up fir ord 0) (up sec ord 0) ord opn num fig)) E hX 4 rfl (by omega) (by omega) (by decide) rfl dX4_opens_51 (fun H locs hX => ?_)
      refine xr_aload_n E hl 0 rfl dX4_opens_52 rfl ?_
      refine xr_iconst E dX4_opens_53 ?_
      refine xr_toB1 ?_
      refine xr_put (W1 := (W_T y hT a_byt a_ltr a_fir a_sec byt len (up ltr ord c) (up fir ord 0) (up sec ord 0) ord true num fig)) E hX 0 rfl rfl ly_X4 tyX4_ok nmX4 6 (by decide) fl_X4_31 rfl (bB_nr _) (bB_fit _) (Nat.le_of_ble_eq_true rfl) rfl dX4_opens_54 (fun H locs hX => ?_)
      refine xr_aload_n E hl 0 rfl dX4_opens_57 rfl ?_
      refine xr_iconst E dX4_opens_58 ?_
      refine xr_put (W1 := (W_T y hT a_byt a_ltr a_fir a_sec byt len (up ltr ord c) (up fir ord 0) (up sec ord 0) ord true 0 fig)) E hX 0 rfl rfl ly_X4 tyX4_ok nmX4 7 (by decide) fl_X4_35 rfl rfl rfl (Nat.le_of_ble_eq_true rfl) rfl dX4_opens_59 (fun H locs hX => ?_)
      refine xr_aload_n E hl 0 rfl dX4_opens_62 rfl ?_
      refine xr_iconst E dX4_opens_63 ?_
      refine xr_put (W1 := (W_T y hT a_byt a_ltr a_fir a_sec byt len (up ltr ord c) (up fir ord 0) (up sec ord 0) ord true 0 0)) E hX 0 rfl rfl ly_X4 tyX4_ok nmX4 8 (by decide) fl_X4_38 rfl rfl rfl (Nat.le_of_ble_eq_true rfl) rfl dX4_opens_64 (fun H locs hX => ?_)
      refine xr_iconst E dX4_opens_67 ?_
      exact xr_zret E hX hQ ((up ltr ord c), (up fir ord 0), (up sec ord 0), true, 0, 0) hr (iI_bB1 (b := true) rfl) (by unfold pOpen; first | (rw [if_pos (by omega)]; exact ⟨iI_bB0 rfl, rfl⟩) | (rw [if_neg (by omega)]; exact ⟨iI_bB1 rfl, rfl⟩)) rfl dX4_opens_68
    · have c_17 := c_17
      refine xr_iconst E dX4_opens_20 ?_
      exact xr_zret E hX hQ (ltr, fir, sec, opn, num, fig) hr (iI_bB0 (b := false) rfl) (by unfold pOpen; first | (rw [if_pos (by omega)]; exact ⟨iI_bB0 rfl, rfl⟩) | (rw [if_neg (by omega)]; exact ⟨iI_bB1 rfl, rfl⟩)) rfl dX4_opens_21
abbrev rm_X4_closes : Room := { frames := 1, cells := 0, slots := 0, locals := 20 }
set_option maxHeartbeats 4000000 in
set_option maxRecDepth 100000 in
theorem c_X4_closes (l : Launch) (D : va_G) (y : CY) (z sz : Nat) (hT a_byt a_ltr a_fir a_sec : Nat) (byt : Int → Int) (len : Int) (ltr : Int → Int) (fir : Int → Int) (sec : Int → Int) (ord : Int) (opn : Bool) (num : Int) (fig : Int) (ho : 0 ≤ ord ∧ ord < 60) (hlt : sm (ltr ord)) (hn : 0 ≤ num ∧ num ≤ 2) : Met l yX4_closes (Cond.code yX4_closes cX4_closes 1 (some .boolean) :: TW) rm_X4_closes (va_Pc [.ref hT] (PX D y z (W_T y hT a_byt a_ltr a_fir a_sec byt len ltr fir sec ord opn num fig) sz)) (va_Qi (fun (r : Int32) (uu : (Int) × (Bool)) => r = bB ((pClose ltr fir sec ord opn num fig).1) ∧ uu = ((pClose ltr fir sec ord opn num fig).2.2.2.2.1, (pClose ltr fir sec ord opn num fig).2.2.2.2.2.1)) (fun uu t => BX D (W_T y hT a_byt a_ltr a_fir a_sec byt len ltr fir sec uu.1 uu.2 num fig) (va_A (W_T y hT a_byt a_ltr a_fir a_sec byt len ltr fir sec ord opn num fig) sz) t) (va_A (W_T y hT a_byt a_ltr a_fir a_sec byt len ltr fir sec ord opn num fig) sz)) 0 0 (va_A (W_T y hT a_byt a_ltr a_fir a_sec byt len ltr fir sec ord opn num fig) sz) := by
  refine xm_i (by decide) (Nat.le_of_ble_eq_true rfl) (fun p e s m args below meth cX ls A Q E hr hnm hX hl hQ => ?_)
  have hl : lv_has ls 1 [(0, .ref hT)] := hl
  have hnc := xNum_bd (ltr ord)
  refine xr_aload_n E hl 0 rfl dX4_closes_0 rfl ?_
  refine xr_get E hX 0 rfl rfl ly_X4 7 (by decide) fl_X4_35 rfl dX4_closes_1 ?_
  refine xr_aload_n E hl 0 rfl dX4_closes_4 rfl ?_
  refine xr_get E hX 0 rfl rfl ly_X4 2 (by decide) fl_X4_19 rfl dX4_closes_5 ?_
  refine xr_aload_n E hl 0 rfl dX4_closes_8 rfl ?_
  refine xr_get E hX 0 rfl rfl ly_X4 5 (by decide) fl_X4_28 rfl dX4_closes_9 ?_
  refine xr_iald E hX 2 rfl (by omega) (by omega) (by decide) dX4_closes_12 ?_
  refine xk_ri E hX [] rfl (xv_S (As := [.int (iI (ltr ord))]) E hX hl (c_X4_numbersOf l D y z _ (ltr ord) ⟨by omega, by omega⟩) ml_X4_59 st_X4_numbersOf in_X4 co_X4_numbersOf 1 (by decide) ⟨rfl, rfl⟩ ⟨Nat.le_of_ble_eq_true rfl, Nat.le_of_ble_eq_true rfl⟩ [] rfl rfl rfl rfl (Nat.le_of_ble_eq_true rfl) dX4_closes_13 ⟨Nat.le_refl _, Nat.le_refl _⟩) (fun r_13 H locs hw hX => ?_)
  subst hw
  refine xr_icmp_ge (tgt := 21) E dX4_closes_16 (by decide) ⟨by omega, by omega⟩ ⟨by omega, by omega⟩ (fun c_16 => ?_) (fun c_16 => ?_)
  · have c_16 := c_16
    refine xr_aload_n E hl 0 rfl dX4_closes_21 rfl ?_
    refine xr_iconst E dX4_closes_22 ?_
    refine xr_toB0 ?_
    refine xr_put (W1 := (W_T y hT a_byt a_ltr a_fir a_sec byt len ltr fir sec ord false num fig)) E hX 0 rfl rfl ly_X4 tyX4_ok nmX4 6 (by decide) fl_X4_31 rfl (bB_nr _) (bB_fit _) (Nat.le_of_ble_eq_true rfl) rfl dX4_closes_23 (fun H locs hX => ?_)
    refine xr_aload_n E hl 0 rfl dX4_closes_26 rfl ?_
    refine xr_dup E dX4_closes_27 rfl ?_
    refine xr_get E hX 0 rfl rfl ly_X4 5 (by decide) fl_X4_28 rfl dX4_closes_28 ?_
    refine xr_iconst E dX4_closes_31 ?_
    refine xr_iadd E dX4_closes_32 ?_
    refine xr_put (W1 := (W_T y hT a_byt a_ltr a_fir a_sec byt len ltr fir sec (ord + 1) false num fig)) E hX 0 rfl rfl ly_X4 tyX4_ok nmX4 5 (by decide) fl_X4_28 rfl rfl rfl (Nat.le_of_ble_eq_true rfl) rfl dX4_closes_33 (fun H locs hX => ?_)
    refine xr_iconst E dX4_closes_36 ?_
    exact xr_zret E hX hQ ((ord + 1), false) hr (iI_bB1 (b := true) rfl) (by unfold pClose; first | (rw [if_pos (by omega)]; exact ⟨iI_bB0 rfl, rfl⟩) | (rw [if_neg (by omega)]; exact ⟨iI_bB1 rfl, rfl⟩)) rfl dX4_closes_37
  · have c_16 := c_16
    refine xr_iconst E dX4_closes_19 ?_
    exact xr_zret E hX hQ (ord, opn) hr (iI_bB0 (b := false) rfl) (by unfold pClose; first | (rw [if_pos (by omega)]; exact ⟨iI_bB0 rfl, rfl⟩) | (rw [if_neg (by omega)]; exact ⟨iI_bB1 rfl, rfl⟩)) rfl dX4_closes_20
abbrev rm_X4_readsFigure : Room := { frames := 1, cells := 0, slots := 0, locals := 20 }
set_option maxHeartbeats 4000000 in
set_option maxRecDepth 100000 in
theorem c_X4_readsFigure (l : Launch) (D : va_G) (y : CY) (z sz : Nat) (hT a_byt a_ltr a_fir a_sec : Nat) (byt : Int → Int) (len : Int) (ltr : Int → Int) (fir : Int → Int) (sec : Int → Int) (ord : Int) (opn : Bool) (num : Int) (fig : Int) (v : Int) (ho : 0 ≤ ord ∧ ord < 60) (hlt : sm (ltr ord)) (hn : 0 ≤ num ∧ num ≤ 2) (hf : 0 ≤ fig ∧ fig ≤ 3) : Met l yX4_readsFigure (Cond.code yX4_readsFigure cX4_readsFigure 3 (some .boolean) :: TW) rm_X4_readsFigure (va_Pc [.ref hT, .int (iI v)] (PX D y z (W_T y hT a_byt a_ltr a_fir a_sec byt len ltr fir sec ord opn num fig) sz)) (va_Qi (fun (r : Int32) (uu : (Int → Int) × (Int → Int) × (Int) × (Int)) => r = bB ((pFig v ltr fir sec ord opn num fig).1) ∧ uu = ((pFig v ltr fir sec ord opn num fig).2.2.1, (pFig v ltr fir sec ord opn num fig).2.2.2.1, (pFig v ltr fir sec ord opn num fig).2.2.2.2.2.2.1, (pFig v ltr fir sec ord opn num fig).2.2.2.2.2.2.2)) (fun uu t => BX D (W_T y hT a_byt a_ltr a_fir a_sec byt len ltr uu.1 uu.2.1 ord opn uu.2.2.1 uu.2.2.2) (va_A (W_T y hT a_byt a_ltr a_fir a_sec byt len ltr fir sec ord opn num fig) sz) t) (va_A (W_T y hT a_byt a_ltr a_fir a_sec byt len ltr fir sec ord opn num fig) sz)) 0 0 (va_A (W_T y hT a_byt a_ltr a_fir a_sec byt len ltr fir sec ord opn num fig) sz) := by
  refine xm_i (by decide) (Nat.le_of_ble_eq_true rfl) (fun p e s m args below meth cX ls A Q E hr hnm hX hl hQ => ?_)
  have hl : lv_has ls 3 [(0, .ref hT), (1, .int (iI v))] := hl
  have hnc := xNum_bd (ltr ord)
  refine xr_aload_n E hl 0 rfl dX4_readsFigure_0 rfl ?_
  refine xr_get E hX 0 rfl rfl ly_X4 8 (by decide) fl_X4_38 rfl dX4_readsFigure_1 ?_
  refine xr_if_ne (tgt := 11) E dX4_readsFigure_4 (by decide) ⟨by omega, by omega⟩ (fun c_4 => ?_) (fun c_4 => ?_)
  · have c_4 := c_4
    refine xr_iconst E dX4_readsFigure_11 ?_
    refine xr_toB0 ?_
    refine xr_istore_n (lv' := [(2, .int (bB false)), (0, .ref hT), (1, .int (iI v))]) E hl dX4_readsFigure_12 rfl (by decide) rfl (fun ls hl => ?_)
    refine xr_iload_n E hl 0 rfl dX4_readsFigure_13 rfl ?_
    refine xr_if_eqB (tgt := 36) E dX4_readsFigure_14 (by decide) (fun c_14 => ?_) (fun c_14 => ?_)
    · have c_14 := c_14
      refine xr_aload_n E hl 1 rfl dX4_readsFigure_36 rfl ?_
      refine xr_get E hX 0 rfl rfl ly_X4 8 (by decide) fl_X4_38 rfl dX4_readsFigure_37 ?_
      refine xr_iconst E dX4_readsFigure_40 ?_
      refine xr_icmp_lt (tgt := 46) E dX4_readsFigure_41 (by decide) ⟨by omega, by omega⟩ (by decide) (fun c_41 => ?_) (fun c_41 => ?_)
      · have c_41 := c_41
        refine xr_aload_n E hl 1 rfl dX4_readsFigure_46 rfl ?_
        refine xr_dup E dX4_readsFigure_47 rfl ?_
        refine xr_get E hX 0 rfl rfl ly_X4 7 (by decide) fl_X4_35 rfl dX4_readsFigure_48 ?_
        refine xr_iload_n E hl 0 rfl dX4_readsFigure_51 rfl ?_
        refine xr_if_eqB (tgt := 59) E dX4_readsFigure_52 (by decide) (fun c_52 => ?_) (fun c_52 => ?_)
        · have c_52 := c_52
          refine xr_iconst E dX4_readsFigure_59 ?_
          refine xr_iadd E dX4_readsFigure_60 ?_
          refine xr_put (W1 := (W_T y hT a_byt a_ltr a_fir a_sec byt len ltr fir sec ord opn (num + 0) fig)) E hX 0 rfl rfl ly_X4 tyX4_ok nmX4 7 (by decide) fl_X4_35 rfl rfl rfl (Nat.le_of_ble_eq_true rfl) rfl dX4_readsFigure_61 (fun H locs hX => ?_)
          refine xr_aload_n E hl 1 rfl dX4_readsFigure_64 rfl ?_
          refine xr_dup E dX4_readsFigure_65 rfl ?_
          refine xr_get E hX 0 rfl rfl ly_X4 8 (by decide) fl_X4_38 rfl dX4_readsFigure_66 ?_
          refine xr_iconst E dX4_readsFigure_69 ?_
          refine xr_iadd E dX4_readsFigure_70 ?_
          refine xr_put (W1 := (W_T y hT a_byt a_ltr a_fir a_sec byt len ltr fir sec ord opn (num + 0) (fig + 1))) E hX 0 rfl rfl ly_X4 tyX4_ok nmX4 8 (by decide) fl_X4_38 rfl rfl rfl (Nat.le_of_ble_eq_true rfl) rfl dX4_readsFigure_71 (fun H locs hX => ?_)
          refine xr_aload_n E hl 1 rfl dX4_readsFigure_74 rfl ?_
          refine xr_get E hX 0 rfl rfl ly_X4 7 (by decide) fl_X4_35 rfl dX4_readsFigure_75 ?_
          refine xr_iconst E dX4_readsFigure_78 ?_
          refine xr_icmp_ne (tgt := 108) E dX4_readsFigure_79 (by decide) ⟨by omega, by omega⟩ (by decide) (fun c_79 => ?_) (fun c_79 => ?_)
          · have c_79 := c_79
            refine xr_aload_n E hl 1 rfl dX4_readsFigure_108 rfl ?_
            refine xr_get E hX 0 rfl rfl ly_X4 4 (by decide) fl_X4_25 rfl dX4_readsFigure_109 ?_
            refine xr_aload_n E hl 1 rfl dX4_readsFigure_112 rfl ?_
            refine xr_get E hX 0 rfl rfl ly_X4 5 (by decide) fl_X4_28 rfl dX4_readsFigure_113 ?_
            refine xr_bipush E dX4_readsFigure_116 (by decide) ?_
            refine xr_aload_n E hl 1 rfl dX4_readsFigure_118 rfl ?_
            refine xr_get E hX 0 rfl rfl ly_X4 4 (by decide) fl_X4_25 rfl dX4_readsFigure_119 ?_
            refine xr_aload_n E hl 1 rfl dX4_readsFigure_122 rfl ?_
            refine xr_get E hX 0 rfl rfl ly_X4 5 (by decide) fl_X4_28 rfl dX4_readsFigure_123 ?_
            refine xr_iald E hX 4 rfl (by omega) (by omega) (by decide) dX4_readsFigure_126 ?_
            refine xr_imul E dX4_readsFigure_127 ?_
            refine xr_iload_n E hl 2 rfl dX4_readsFigure_128 rfl ?_
            refine xr_iadd E dX4_readsFigure_129 ?_
            refine xr_iast (W1 := (W_T y hT a_byt a_ltr a_fir a_sec byt len ltr fir (up sec ord ((10 * (sec ord)) + v)) ord opn (num + 0) (fig + 1))) E hX 4 rfl (by omega) (by omega) (by decide) rfl dX4_readsFigure_130 (fun H locs hX => ?_)
            refine xr_iconst E dX4_readsFigure_131 ?_
            exact xr_zret E hX hQ (fir, (up sec ord ((10 * (sec ord)) + v)), (num + 0), (fig + 1)) hr (iI_bB1 (b := true) rfl) (by unfold pFig; first | (rw [if_pos (by omega)]; exact ⟨iI_bB0 rfl, rfl⟩) | (rw [if_neg (by omega), if_pos (by omega), if_pos (by omega)]; exact ⟨iI_bB1 rfl, rfl⟩) | (rw [if_neg (by omega), if_pos (by omega), if_neg (by omega)]; exact ⟨iI_bB1 rfl, rfl⟩) | (rw [if_neg (by omega), if_neg (by omega), if_pos (by omega)]; exact ⟨iI_bB1 rfl, rfl⟩) | (rw [if_neg (by omega), if_neg (by omega), if_neg (by omega)]; exact ⟨iI_bB1 rfl, rfl⟩)) rfl dX4_readsFigure_132
          · have c_79 := c_79
            refine xr_aload_n E hl 1 rfl dX4_readsFigure_82 rfl ?_
            refine xr_get E hX 0 rfl rfl ly_X4 3 (by decide) fl_X4_22 rfl dX4_readsFigure_83 ?_
            refine xr_aload_n E hl 1 rfl dX4_readsFigure_86 rfl ?_
            refine xr_get E hX 0 rfl rfl ly_X4 5 (by decide) fl_X4_28 rfl dX4_readsFigure_87 ?_
            refine xr_bipush E dX4_readsFigure_90 (by decide) ?_
            refine xr_aload_n E hl 1 rfl dX4_readsFigure_92 rfl ?_
            refine xr_get E hX 0 rfl rfl ly_X4 3 (by decide) fl_X4_22 rfl dX4_readsFigure_93 ?_
            refine xr_aload_n E hl 1 rfl dX4_readsFigure_96 rfl ?_
            refine xr_get E hX 0 rfl rfl ly_X4 5 (by decide) fl_X4_28 rfl dX4_readsFigure_97 ?_
            refine xr_iald E hX 3 rfl (by omega) (by omega) (by decide) dX4_readsFigure_100 ?_
            refine xr_imul E dX4_readsFigure_101 ?_
            refine xr_iload_n E hl 2 rfl dX4_readsFigure_102 rfl ?_
            refine xr_iadd E dX4_readsFigure_103 ?_
            refine xr_iast (W1 := (W_T y hT a_byt a_ltr a_fir a_sec byt len ltr (up fir ord ((10 * (fir ord)) + v)) sec ord opn (num + 0) (fig + 1))) E hX 3 rfl (by omega) (by omega) (by decide) rfl dX4_readsFigure_104 (fun H locs hX => ?_)
            refine xr_goto (tgt := 131) E dX4_readsFigure_105 (by decide) ?_
            refine xr_iconst E dX4_readsFigure_131 ?_
            exact xr_zret E hX hQ ((up fir ord ((10 * (fir ord)) + v)), sec, (num + 0), (fig + 1)) hr (iI_bB1 (b := true) rfl) (by unfold pFig; first | (rw [if_pos (by omega)]; exact ⟨iI_bB0 rfl, rfl⟩) | (rw [if_neg (by omega), if_pos (by omega), if_pos (by omega)]; exact ⟨iI_bB1 rfl, rfl⟩) | (rw [if_neg (by omega), if_pos (by omega), if_neg (by omega)]; exact ⟨iI_bB1 rfl, rfl⟩) | (rw [if_neg (by omega), if_neg (by omega), if_pos (by omega)]; exact ⟨iI_bB1 rfl, rfl⟩) | (rw [if_neg (by omega), if_neg (by omega), if_neg (by omega)]; exact ⟨iI_bB1 rfl, rfl⟩)) rfl dX4_readsFigure_132
        · exact absurd c_52 (by decide)
      · have c_41 := c_41
        refine xr_iconst E dX4_readsFigure_44 ?_
        exact xr_zret E hX hQ (fir, sec, num, fig) hr (iI_bB0 (b := false) rfl) (by unfold pFig; first | (rw [if_pos (by omega)]; exact ⟨iI_bB0 rfl, rfl⟩) | (rw [if_neg (by omega), if_pos (by omega), if_pos (by omega)]; exact ⟨iI_bB1 rfl, rfl⟩) | (rw [if_neg (by omega), if_pos (by omega), if_neg (by omega)]; exact ⟨iI_bB1 rfl, rfl⟩) | (rw [if_neg (by omega), if_neg (by omega), if_pos (by omega)]; exact ⟨iI_bB1 rfl, rfl⟩) | (rw [if_neg (by omega), if_neg (by omega), if_neg (by omega)]; exact ⟨iI_bB1 rfl, rfl⟩)) rfl dX4_readsFigure_45
    · exact absurd c_14 (by decide)
  · have c_4 := c_4
    refine xr_iconst E dX4_readsFigure_7 ?_
    refine xr_goto (tgt := 12) E dX4_readsFigure_8 (by decide) ?_
    refine xr_toB1 ?_
    refine xr_istore_n (lv' := [(2, .int (bB true)), (0, .ref hT), (1, .int (iI v))]) E hl dX4_readsFigure_12 rfl (by decide) rfl (fun ls hl => ?_)
    refine xr_iload_n E hl 0 rfl dX4_readsFigure_13 rfl ?_
    refine xr_if_eqB (tgt := 36) E dX4_readsFigure_14 (by decide) (fun c_14 => ?_) (fun c_14 => ?_)
    · exact absurd c_14 (by decide)
    · have c_14 := c_14
      refine xr_aload_n E hl 1 rfl dX4_readsFigure_17 rfl ?_
      refine xr_get E hX 0 rfl rfl ly_X4 7 (by decide) fl_X4_35 rfl dX4_readsFigure_18 ?_
      refine xr_aload_n E hl 1 rfl dX4_readsFigure_21 rfl ?_
      refine xr_get E hX 0 rfl rfl ly_X4 2 (by decide) fl_X4_19 rfl dX4_readsFigure_22 ?_
      refine xr_aload_n E hl 1 rfl dX4_readsFigure_25 rfl ?_
      refine xr_get E hX 0 rfl rfl ly_X4 5 (by decide) fl_X4_28 rfl dX4_readsFigure_26 ?_
      refine xr_iald E hX 2 rfl (by omega) (by omega) (by decide) dX4_readsFigure_29 ?_
      refine xk_ri E hX [] rfl (xv_S (As := [.int (iI (ltr ord))]) E hX hl (c_X4_numbersOf l D y z _ (ltr ord) ⟨by omega, by omega⟩) ml_X4_59 st_X4_numbersOf in_X4 co_X4_numbersOf 1 (by decide) ⟨rfl, rfl⟩ ⟨Nat.le_of_ble_eq_true rfl, Nat.le_of_ble_eq_true rfl⟩ [] rfl rfl rfl rfl (Nat.le_of_ble_eq_true rfl) dX4_readsFigure_30 ⟨Nat.le_refl _, Nat.le_refl _⟩) (fun r_30 H locs hw hX => ?_)
      subst hw
      refine xr_icmp_ge (tgt := 44) E dX4_readsFigure_33 (by decide) ⟨by omega, by omega⟩ ⟨by omega, by omega⟩ (fun c_33 => ?_) (fun c_33 => ?_)
      · have c_33 := c_33
        refine xr_iconst E dX4_readsFigure_44 ?_
        exact xr_zret E hX hQ (fir, sec, num, fig) hr (iI_bB0 (b := false) rfl) (by unfold pFig; first | (rw [if_pos (by omega)]; exact ⟨iI_bB0 rfl, rfl⟩) | (rw [if_neg (by omega), if_pos (by omega), if_pos (by omega)]; exact ⟨iI_bB1 rfl, rfl⟩) | (rw [if_neg (by omega), if_pos (by omega), if_neg (by omega)]; exact ⟨iI_bB1 rfl, rfl⟩) | (rw [if_neg (by omega), if_neg (by omega), if_pos (by omega)]; exact ⟨iI_bB1 rfl, rfl⟩) | (rw [if_neg (by omega), if_neg (by omega), if_neg (by omega)]; exact ⟨iI_bB1 rfl, rfl⟩)) rfl dX4_readsFigure_45
      · have c_33 := c_33
        refine xr_aload_n E hl 1 rfl dX4_readsFigure_36 rfl ?_
        refine xr_get E hX 0 rfl rfl ly_X4 8 (by decide) fl_X4_38 rfl dX4_readsFigure_37 ?_
        refine xr_iconst E dX4_readsFigure_40 ?_
        refine xr_icmp_lt (tgt := 46) E dX4_readsFigure_41 (by decide) ⟨by omega, by omega⟩ (by decide) (fun c_41 => ?_) (fun c_41 => ?_)
        · have c_41 := c_41
          refine xr_aload_n E hl 1 rfl dX4_readsFigure_46 rfl ?_
          refine xr_dup E dX4_readsFigure_47 rfl ?_
          refine xr_get E hX 0 rfl rfl ly_X4 7 (by decide) fl_X4_35 rfl dX4_readsFigure_48 ?_
          refine xr_iload_n E hl 0 rfl dX4_readsFigure_51 rfl ?_
          refine xr_if_eqB (tgt := 59) E dX4_readsFigure_52 (by decide) (fun c_52 => ?_) (fun c_52 => ?_)
          · exact absurd c_52 (by decide)
          · have c_52 := c_52
            refine xr_iconst E dX4_readsFigure_55 ?_
            refine xr_goto (tgt := 60) E dX4_readsFigure_56 (by decide) ?_
            refine xr_iadd E dX4_readsFigure_60 ?_
            refine xr_put (W1 := (W_T y hT a_byt a_ltr a_fir a_sec byt len ltr fir sec ord opn (num + 1) fig)) E hX 0 rfl rfl ly_X4 tyX4_ok nmX4 7 (by decide) fl_X4_35 rfl rfl rfl (Nat.le_of_ble_eq_true rfl) rfl dX4_readsFigure_61 (fun H locs hX => ?_)
            refine xr_aload_n E hl 1 rfl dX4_readsFigure_64 rfl ?_
            refine xr_dup E dX4_readsFigure_65 rfl ?_
            refine xr_get E hX 0 rfl rfl ly_X4 8 (by decide) fl_X4_38 rfl dX4_readsFigure_66 ?_
            refine xr_iconst E dX4_readsFigure_69 ?_
            refine xr_iadd E dX4_readsFigure_70 ?_
            refine xr_put (W1 := (W_T y hT a_byt a_ltr a_fir a_sec byt len ltr fir sec ord opn (num + 1) (fig + 1))) E hX 0 rfl rfl ly_X4 tyX4_ok nmX4 8 (by decide) fl_X4_38 rfl rfl rfl (Nat.le_of_ble_eq_true rfl) rfl dX4_readsFigure_71 (fun H locs hX => ?_)
            refine xr_aload_n E hl 1 rfl dX4_readsFigure_74 rfl ?_
            refine xr_get E hX 0 rfl rfl ly_X4 7 (by decide) fl_X4_35 rfl dX4_readsFigure_75 ?_
            refine xr_iconst E dX4_readsFigure_78 ?_
            refine xr_icmp_ne (tgt := 108) E dX4_readsFigure_79 (by decide) ⟨by omega, by omega⟩ (by decide) (fun c_79 => ?_) (fun c_79 => ?_)
            · have c_79 := c_79
              refine xr_aload_n E hl 1 rfl dX4_readsFigure_108 rfl ?_
              refine xr_get E hX 0 rfl rfl ly_X4 4 (by decide) fl_X4_25 rfl dX4_readsFigure_109 ?_
              refine xr_aload_n E hl 1 rfl dX4_readsFigure_112 rfl ?_
              refine xr_get E hX 0 rfl rfl ly_X4 5 (by decide) fl_X4_28 rfl dX4_readsFigure_113 ?_
              refine xr_bipush E dX4_readsFigure_116 (by decide) ?_
              refine xr_aload_n E hl 1 rfl dX4_readsFigure_118 rfl ?_
              refine xr_get E hX 0 rfl rfl ly_X4 4 (by decide) fl_X4_25 rfl dX4_readsFigure_119 ?_
              refine xr_aload_n E hl 1 rfl dX4_readsFigure_122 rfl ?_
              refine xr_get E hX 0 rfl rfl ly_X4 5 (by decide) fl_X4_28 rfl dX4_readsFigure_123 ?_
              refine xr_iald E hX 4 rfl (by omega) (by omega) (by decide) dX4_readsFigure_126 ?_
              refine xr_imul E dX4_readsFigure_127 ?_
              refine xr_iload_n E hl 2 rfl dX4_readsFigure_128 rfl ?_
              refine xr_iadd E dX4_readsFigure_129 ?_
              refine xr_iast (W1 := (W_T y hT a_byt a_ltr a_fir a_sec byt len ltr fir (up sec ord ((10 * (sec ord)) + v)) ord opn (num + 1) (fig + 1))) E hX 4 rfl (by omega) (by omega) (by decide) rfl dX4_readsFigure_130 (fun H locs hX => ?_)
              refine xr_iconst E dX4_readsFigure_131 ?_
              exact xr_zret E hX hQ (fir, (up sec ord ((10 * (sec ord)) + v)), (num + 1), (fig + 1)) hr (iI_bB1 (b := true) rfl) (by unfold pFig; first | (rw [if_pos (by omega)]; exact ⟨iI_bB0 rfl, rfl⟩) | (rw [if_neg (by omega), if_pos (by omega), if_pos (by omega)]; exact ⟨iI_bB1 rfl, rfl⟩) | (rw [if_neg (by omega), if_pos (by omega), if_neg (by omega)]; exact ⟨iI_bB1 rfl, rfl⟩) | (rw [if_neg (by omega), if_neg (by omega), if_pos (by omega)]; exact ⟨iI_bB1 rfl, rfl⟩) | (rw [if_neg (by omega), if_neg (by omega), if_neg (by omega)]; exact ⟨iI_bB1 rfl, rfl⟩)) rfl dX4_readsFigure_132
            · have c_79 := c_79
              refine xr_aload_n E hl 1 rfl dX4_readsFigure_82 rfl ?_
              refine xr_get E hX 0 rfl rfl ly_X4 3 (by decide) fl_X4_22 rfl dX4_readsFigure_83 ?_
              refine xr_aload_n E hl 1 rfl dX4_readsFigure_86 rfl ?_
              refine xr_get E hX 0 rfl rfl ly_X4 5 (by decide) fl_X4_28 rfl dX4_readsFigure_87 ?_
              refine xr_bipush E dX4_readsFigure_90 (by decide) ?_
              refine xr_aload_n E hl 1 rfl dX4_readsFigure_92 rfl ?_
              refine xr_get E hX 0 rfl rfl ly_X4 3 (by decide) fl_X4_22 rfl dX4_readsFigure_93 ?_
              refine xr_aload_n E hl 1 rfl dX4_readsFigure_96 rfl ?_
              refine xr_get E hX 0 rfl rfl ly_X4 5 (by decide) fl_X4_28 rfl dX4_readsFigure_97 ?_
              refine xr_iald E hX 3 rfl (by omega) (by omega) (by decide) dX4_readsFigure_100 ?_
              refine xr_imul E dX4_readsFigure_101 ?_
              refine xr_iload_n E hl 2 rfl dX4_readsFigure_102 rfl ?_
              refine xr_iadd E dX4_readsFigure_103 ?_
              refine xr_iast (W1 := (W_T y hT a_byt a_ltr a_fir a_sec byt len ltr (up fir ord ((10 * (fir ord)) + v)) sec ord opn (num + 1) (fig + 1))) E hX 3 rfl (by omega) (by omega) (by decide) rfl dX4_readsFigure_104 (fun H locs hX => ?_)
              refine xr_goto (tgt := 131) E dX4_readsFigure_105 (by decide) ?_
              refine xr_iconst E dX4_readsFigure_131 ?_
              exact xr_zret E hX hQ ((up fir ord ((10 * (fir ord)) + v)), sec, (num + 1), (fig + 1)) hr (iI_bB1 (b := true) rfl) (by unfold pFig; first | (rw [if_pos (by omega)]; exact ⟨iI_bB0 rfl, rfl⟩) | (rw [if_neg (by omega), if_pos (by omega), if_pos (by omega)]; exact ⟨iI_bB1 rfl, rfl⟩) | (rw [if_neg (by omega), if_pos (by omega), if_neg (by omega)]; exact ⟨iI_bB1 rfl, rfl⟩) | (rw [if_neg (by omega), if_neg (by omega), if_pos (by omega)]; exact ⟨iI_bB1 rfl, rfl⟩) | (rw [if_neg (by omega), if_neg (by omega), if_neg (by omega)]; exact ⟨iI_bB1 rfl, rfl⟩)) rfl dX4_readsFigure_132
        · have c_41 := c_41
          refine xr_iconst E dX4_readsFigure_44 ?_
          exact xr_zret E hX hQ (fir, sec, num, fig) hr (iI_bB0 (b := false) rfl) (by unfold pFig; first | (rw [if_pos (by omega)]; exact ⟨iI_bB0 rfl, rfl⟩) | (rw [if_neg (by omega), if_pos (by omega), if_pos (by omega)]; exact ⟨iI_bB1 rfl, rfl⟩) | (rw [if_neg (by omega), if_pos (by omega), if_neg (by omega)]; exact ⟨iI_bB1 rfl, rfl⟩) | (rw [if_neg (by omega), if_neg (by omega), if_pos (by omega)]; exact ⟨iI_bB1 rfl, rfl⟩) | (rw [if_neg (by omega), if_neg (by omega), if_neg (by omega)]; exact ⟨iI_bB1 rfl, rfl⟩)) rfl dX4_readsFigure_45
abbrev rm_X4_readsByte : Room := { frames := 2, cells := 0, slots := 0, locals := 42 }
set_option maxHeartbeats 4000000 in
set_option maxRecDepth 100000 in
theorem c_X4_readsByte (l : Launch) (D : va_G) (y : CY) (z sz : Nat) (hT a_byt a_ltr a_fir a_sec : Nat) (byt : Int → Int) (len : Int) (ltr : Int → Int) (fir : Int → Int) (sec : Int → Int) (ord : Int) (opn : Bool) (num : Int) (fig : Int) (c : Int) (hc : sm c) (ho : 0 ≤ ord ∧ ord ≤ 60) (hop : opn = true → ord < 60 ∧ sm (ltr ord)) (hn : 0 ≤ num ∧ num ≤ 2) (hf : 0 ≤ fig ∧ fig ≤ 3) : Met l yX4_readsByte (Cond.code yX4_readsByte cX4_readsByte 2 (some .boolean) :: TW) rm_X4_readsByte (va_Pc [.ref hT, .int (iI c)] (PX D y z (W_T y hT a_byt a_ltr a_fir a_sec byt len ltr fir sec ord opn num fig) sz)) (va_Qi (fun (r : Int32) (uu : (Int → Int) × (Int → Int) × (Int → Int) × (Int) × (Bool) × (Int) × (Int)) => r = bB ((pByte c ltr fir sec ord opn num fig).1) ∧ uu = ((pByte c ltr fir sec ord opn num fig).2.1, (pByte c ltr fir sec ord opn num fig).2.2.1, (pByte c ltr fir sec ord opn num fig).2.2.2.1, (pByte c ltr fir sec ord opn num fig).2.2.2.2.1, (pByte c ltr fir sec ord opn num fig).2.2.2.2.2.1, (pByte c ltr fir sec ord opn num fig).2.2.2.2.2.2.1, (pByte c ltr fir sec ord opn num fig).2.2.2.2.2.2.2)) (fun uu t => BX D (W_T y hT a_byt a_ltr a_fir a_sec byt len uu.1 uu.2.1 uu.2.2.1 uu.2.2.2.1 uu.2.2.2.2.1 uu.2.2.2.2.2.1 uu.2.2.2.2.2.2) (va_A (W_T y hT a_byt a_ltr a_fir a_sec byt len ltr fir sec ord opn num fig) sz) t) (va_A (W_T y hT a_byt a_ltr a_fir a_sec byt len ltr fir sec ord opn num fig) sz)) 0 0 (va_A (W_T y hT a_byt a_ltr a_fir a_sec byt len ltr fir sec ord opn num fig) sz) := by
  refine xm_i (by decide) (Nat.le_of_ble_eq_true rfl) (fun p e s m args below meth cX ls A Q E hr hnm hX hl hQ => ?_)
  have hl : lv_has ls 2 [(0, .ref hT), (1, .int (iI c))] := hl
  refine xr_iload_n E hl 1 rfl dX4_readsByte_0 rfl ?_
  refine xr_bipush E dX4_readsByte_1 (by decide) ?_
  refine xr_icmp_ne (tgt := 13) E dX4_readsByte_3 (by decide) ⟨by omega, by omega⟩ (by decide) (fun c_3 => ?_) (fun c_3 => ?_)
  · have c_3 := c_3
    refine xr_aload_n E hl 0 rfl dX4_readsByte_13 rfl ?_
    refine xr_get E hX 0 rfl rfl ly_X4 6 (by decide) fl_X4_31 rfl dX4_readsByte_14 ?_
    refine xr_if_neB (tgt := 26) E dX4_readsByte_17 (by decide) (fun c_17 => ?_) (fun c_17 => ?_)
    · have c_17 := c_17
      refine xr_iload_n E hl 1 rfl dX4_readsByte_26 rfl ?_
      refine xr_bipush E dX4_readsByte_27 (by decide) ?_
      refine xr_icmp_ne (tgt := 37) E dX4_readsByte_29 (by decide) ⟨by omega, by omega⟩ (by decide) (fun c_29 => ?_) (fun c_29 => ?_)
      · have c_29 := c_29
        refine xr_iload_n E hl 1 rfl dX4_readsByte_37 rfl ?_
        refine xr_bipush E dX4_readsByte_38 (by decide) ?_
        refine xr_bipush E dX4_readsByte_40 (by decide) ?_
        refine xk_ri E hX [] rfl (xv_SN (As := [.int (iI c), .int (iI 48), .int (iI 57)]) E hX hl (c_X5_within l D y z _ c 48 57 ⟨by omega, by omega⟩ ⟨by omega, by omega⟩ ⟨by omega, by omega⟩) E.2.2.2.2.2.2.1.2.2.2.2.2.2.2.1 st_X5_within in_X5 co_X5_within 3 (by decide) ⟨rfl, rfl⟩ ⟨Nat.le_of_ble_eq_true rfl, Nat.le_of_ble_eq_true rfl⟩ [] rfl rfl rfl rfl (Nat.le_of_ble_eq_true rfl) dX4_readsByte_42 ⟨Nat.le_refl _, Nat.le_refl _⟩) (fun r_42 H locs hw hX => ?_)
        subst hw
        refine xr_if_eqB (tgt := 63) E dX4_readsByte_45 (by decide) (fun c_45 => ?_) (fun c_45 => ?_)
        · have c_45 := of_decide_eq_false c_45
          refine xr_iconst E dX4_readsByte_63 ?_
          exact xr_zret E hX hQ (ltr, fir, sec, ord, opn, num, fig) hr (iI_bB0 (b := false) rfl) (by unfold pByte; rw [if_neg (by omega), if_neg (by rw [c_17]; decide), if_neg (by omega)]; first | (rw [if_neg (by omega)]; exact ⟨iI_bB0 rfl, rfl⟩) | (have e := pFig_o (c - 48) ltr fir sec ord opn num fig; rw [if_pos (by omega), e.1, e.2.1, e.2.2]; first | exact ⟨iI_bB1 c_56, rfl⟩ | exact ⟨iI_bB0 c_56, rfl⟩)) rfl dX4_readsByte_64
        · have c_45 := of_decide_eq_true c_45
          refine xr_aload_n E hl 0 rfl dX4_readsByte_48 rfl ?_
          refine xr_iload_n E hl 1 rfl dX4_readsByte_49 rfl ?_
          refine xr_bipush E dX4_readsByte_50 (by decide) ?_
          refine xr_isub E dX4_readsByte_52 ?_
          refine xk_i (W2 := fun uu => (W_T y hT a_byt a_ltr a_fir a_sec byt len ltr uu.1 uu.2.1 ord opn uu.2.2.1 uu.2.2.2)) E hX [0, 1, 2, 3, 4] rfl (xv_V (As := [.int (iI (c - 48))]) E hX hl (c_X4_readsFigure l D y z _ hT a_byt a_ltr a_fir a_sec byt len ltr fir sec ord opn num fig (c - 48) (by have := hop c_17; omega) (hop c_17).2 (by omega) (by omega)) ml_X4_56 im_X4_readsFigure se_X4_readsFigure in_X4 co_X4_readsFigure 1 (by decide) ⟨rfl, rfl⟩ ⟨Nat.le_of_ble_eq_true rfl, Nat.le_of_ble_eq_true rfl⟩ [0, 1, 2, 3, 4] rfl rfl 0 rfl rfl rfl rfl rfl (Nat.le_of_ble_eq_true rfl) dX4_readsByte_53 ⟨Nat.le_refl _, Nat.le_refl _⟩) [0, 1, 2, 3, 4] 5 (fun _ => rfl) (fun _ => rfl) (by decide) (by decide) (fun r_53 uu H locs hw hX => ?_)
          obtain ⟨rfl, rfl⟩ := hw
          have hX : XW D A s.heap (W_T y hT a_byt a_ltr a_fir a_sec byt len ltr ((pFig (c - 48) ltr fir sec ord opn num fig).2.2.1) ((pFig (c - 48) ltr fir sec ord opn num fig).2.2.2.1) ord opn ((pFig (c - 48) ltr fir sec ord opn num fig).2.2.2.2.2.2.1) ((pFig (c - 48) ltr fir sec ord opn num fig).2.2.2.2.2.2.2)) H locs := hX
          refine xr_if_eqB (tgt := 63) E dX4_readsByte_56 (by decide) (fun c_56 => ?_) (fun c_56 => ?_)
          · have c_56 := c_56
            refine xr_iconst E dX4_readsByte_63 ?_
            exact xr_zret E hX hQ (ltr, (pFig (c - 48) ltr fir sec ord opn num fig).2.2.1, (pFig (c - 48) ltr fir sec ord opn num fig).2.2.2.1, ord, opn, (pFig (c - 48) ltr fir sec ord opn num fig).2.2.2.2.2.2.1, (pFig (c - 48) ltr fir sec ord opn num fig).2.2.2.2.2.2.2) hr (iI_bB0 (b := false) rfl) (by unfold pByte; rw [if_neg (by omega), if_neg (by rw [c_17]; decide), if_neg (by omega)]; first | (rw [if_neg (by omega)]; exact ⟨iI_bB0 rfl, rfl⟩) | (have e := pFig_o (c - 48) ltr fir sec ord opn num fig; rw [if_pos (by omega), e.1, e.2.1, e.2.2]; first | exact ⟨iI_bB1 c_56, rfl⟩ | exact ⟨iI_bB0 c_56, rfl⟩)) rfl dX4_readsByte_64
          · have c_56 := c_56
            refine xr_iconst E dX4_readsByte_59 ?_
            refine xr_goto (tgt := 64) E dX4_readsByte_60 (by decide) ?_
            exact xr_zret E hX hQ (ltr, (pFig (c - 48) ltr fir sec ord opn num fig).2.2.1, (pFig (c - 48) ltr fir sec ord opn num fig).2.2.2.1, ord, opn, (pFig (c - 48) ltr fir sec ord opn num fig).2.2.2.2.2.2.1, (pFig (c - 48) ltr fir sec ord opn num fig).2.2.2.2.2.2.2) hr (iI_bB1 (b := true) rfl) (by unfold pByte; rw [if_neg (by omega), if_neg (by rw [c_17]; decide), if_neg (by omega)]; first | (rw [if_neg (by omega)]; exact ⟨iI_bB0 rfl, rfl⟩) | (have e := pFig_o (c - 48) ltr fir sec ord opn num fig; rw [if_pos (by omega), e.1, e.2.1, e.2.2]; first | exact ⟨iI_bB1 c_56, rfl⟩ | exact ⟨iI_bB0 c_56, rfl⟩)) rfl dX4_readsByte_64
      · have c_29 := c_29
        refine xr_aload_n E hl 0 rfl dX4_readsByte_32 rfl ?_
        refine xk_i (W2 := fun uu => (W_T y hT a_byt a_ltr a_fir a_sec byt len ltr fir sec uu.1 uu.2 num fig)) E hX [0, 1, 2, 3, 4] rfl (xv_V (As := []) E hX hl (c_X4_closes l D y z _ hT a_byt a_ltr a_fir a_sec byt len ltr fir sec ord opn num fig (by have := hop c_17; omega) (hop c_17).2 (by omega)) ml_X4_48 im_X4_closes se_X4_closes in_X4 co_X4_closes 0 (by decide) ⟨rfl, rfl⟩ ⟨Nat.le_of_ble_eq_true rfl, Nat.le_of_ble_eq_true rfl⟩ [0, 1, 2, 3, 4] rfl rfl 0 rfl rfl rfl rfl rfl (Nat.le_of_ble_eq_true rfl) dX4_readsByte_33 ⟨Nat.le_refl _, Nat.le_refl _⟩) [0, 1, 2, 3, 4] 5 (fun _ => rfl) (fun _ => rfl) (by decide) (by decide) (fun r_33 uu H locs hw hX => ?_)
        obtain ⟨rfl, rfl⟩ := hw
        have hX : XW D A s.heap (W_T y hT a_byt a_ltr a_fir a_sec byt len ltr fir sec ((pClose ltr fir sec ord opn num fig).2.2.2.2.1) ((pClose ltr fir sec ord opn num fig).2.2.2.2.2.1) num fig) H locs := hX
        exact xr_zret E hX hQ (ltr, fir, sec, (pClose ltr fir sec ord opn num fig).2.2.2.2.1, (pClose ltr fir sec ord opn num fig).2.2.2.2.2.1, num, fig) hr rfl (by unfold pByte; have e := pClose_o ltr fir sec ord opn num fig; rw [if_neg (by omega), if_neg (by rw [c_17]; decide), if_pos (by omega), e.1, e.2.1, e.2.2.1, e.2.2.2.1, e.2.2.2.2]; exact ⟨rfl, rfl⟩) rfl dX4_readsByte_36
    · have c_17 := c_17
      refine xr_aload_n E hl 0 rfl dX4_readsByte_20 rfl ?_
      refine xr_iload_n E hl 1 rfl dX4_readsByte_21 rfl ?_
      refine xk_i (W2 := fun uu => (W_T y hT a_byt a_ltr a_fir a_sec byt len uu.1 uu.2.1 uu.2.2.1 ord uu.2.2.2.1 uu.2.2.2.2.1 uu.2.2.2.2.2)) E hX [0, 1, 2, 3, 4] rfl (xv_V (As := [.int (iI c)]) E hX hl (c_X4_opens l D y z _ hT a_byt a_ltr a_fir a_sec byt len ltr fir sec ord opn num fig c (by omega) (by omega)) ml_X4_45 im_X4_opens se_X4_opens in_X4 co_X4_opens 1 (by decide) ⟨rfl, rfl⟩ ⟨Nat.le_of_ble_eq_true rfl, Nat.le_of_ble_eq_true rfl⟩ [0, 1, 2, 3, 4] rfl rfl 0 rfl rfl rfl rfl rfl (Nat.le_of_ble_eq_true rfl) dX4_readsByte_22 ⟨Nat.le_refl _, Nat.le_refl _⟩) [0, 1, 2, 3, 4] 5 (fun _ => rfl) (fun _ => rfl) (by decide) (by decide) (fun r_22 uu H locs hw hX => ?_)
      obtain ⟨rfl, rfl⟩ := hw
      have hX : XW D A s.heap (W_T y hT a_byt a_ltr a_fir a_sec byt len ((pOpen c ltr fir sec ord opn num fig).2.1) ((pOpen c ltr fir sec ord opn num fig).2.2.1) ((pOpen c ltr fir sec ord opn num fig).2.2.2.1) ord ((pOpen c ltr fir sec ord opn num fig).2.2.2.2.2.1) ((pOpen c ltr fir sec ord opn num fig).2.2.2.2.2.2.1) ((pOpen c ltr fir sec ord opn num fig).2.2.2.2.2.2.2)) H locs := hX
      exact xr_zret E hX hQ ((pOpen c ltr fir sec ord opn num fig).2.1, (pOpen c ltr fir sec ord opn num fig).2.2.1, (pOpen c ltr fir sec ord opn num fig).2.2.2.1, ord, (pOpen c ltr fir sec ord opn num fig).2.2.2.2.2.1, (pOpen c ltr fir sec ord opn num fig).2.2.2.2.2.2.1, (pOpen c ltr fir sec ord opn num fig).2.2.2.2.2.2.2) hr rfl (by unfold pByte; rw [if_neg (by omega), if_pos c_17, pOpen_ord]; exact ⟨rfl, rfl⟩) rfl dX4_readsByte_25
  · have c_3 := c_3
    refine xr_aload_n E hl 0 rfl dX4_readsByte_6 rfl ?_
    refine xr_iconst E dX4_readsByte_7 ?_
    refine xr_put (W1 := (W_T y hT a_byt a_ltr a_fir a_sec byt len ltr fir sec ord opn num 0)) E hX 0 rfl rfl ly_X4 tyX4_ok nmX4 8 (by decide) fl_X4_38 rfl rfl rfl (Nat.le_of_ble_eq_true rfl) rfl dX4_readsByte_8 (fun H locs hX => ?_)
    refine xr_iconst E dX4_readsByte_11 ?_
    exact xr_zret E hX hQ (ltr, fir, sec, ord, opn, num, 0) hr (iI_bB1 (b := true) rfl) (by unfold pByte; rw [if_pos (by omega)]; exact ⟨iI_bB1 rfl, rfl⟩) rfl dX4_readsByte_12
