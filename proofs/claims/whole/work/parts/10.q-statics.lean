/-! the tests that BentQuarters has for all: within, isYear, isForm, isRefusal -/
abbrev rm_X5_within : Room := { frames := 0, cells := 0, slots := 0, locals := 0 }
set_option maxHeartbeats 4000000 in
set_option maxRecDepth 100000 in
theorem c_X5_within (l : Launch) (D : va_G) (y : CY) (z sz : Nat) (v : Int) (lo : Int) (hi : Int) (hv : sm v) (hlo : sm lo) (hhi : sm hi) : Met l yX5_within (Cond.code yX5_within cX5_within 3 (some .boolean) :: TW) rm_X5_within (va_Pc [.int (iI v), .int (iI lo), .int (iI hi)] (PX D y z [] sz)) (va_Qi (fun (r : Int32) (uu : Unit) => r = bB (decide (lo ≤ v ∧ v ≤ hi))) (fun uu t => BX D [] (va_A [] sz) t) (va_A [] sz)) 0 0 (va_A [] sz) := by
  refine xm_i (by decide) (Nat.le_of_ble_eq_true rfl) (fun p e s m args below meth cX ls A Q E hr hnm hX hl hQ => ?_)
  have hl : lv_has ls 3 [(0, .int (iI v)), (1, .int (iI lo)), (2, .int (iI hi))] := hl
  refine xr_iload_n E hl 0 rfl dX5_within_0 rfl ?_
  refine xr_iload_n E hl 1 rfl dX5_within_1 rfl ?_
  refine xr_icmp_lt (tgt := 14) E dX5_within_2 (by decide) ⟨by omega, by omega⟩ ⟨by omega, by omega⟩ (fun c_2 => ?_) (fun c_2 => ?_)
  · have c_2 := c_2
    refine xr_iconst E dX5_within_14 ?_
    exact xr_zret E hX hQ () hr (iI_bB0 (b := false) rfl) (iI_bB0 (decide_eq_false (by omega))) rfl dX5_within_15
  · have c_2 := c_2
    refine xr_iload_n E hl 0 rfl dX5_within_5 rfl ?_
    refine xr_iload_n E hl 2 rfl dX5_within_6 rfl ?_
    refine xr_icmp_gt (tgt := 14) E dX5_within_7 (by decide) ⟨by omega, by omega⟩ ⟨by omega, by omega⟩ (fun c_7 => ?_) (fun c_7 => ?_)
    · have c_7 := c_7
      refine xr_iconst E dX5_within_14 ?_
      exact xr_zret E hX hQ () hr (iI_bB0 (b := false) rfl) (iI_bB0 (decide_eq_false (by omega))) rfl dX5_within_15
    · have c_7 := c_7
      refine xr_iconst E dX5_within_10 ?_
      refine xr_goto (tgt := 15) E dX5_within_11 (by decide) ?_
      exact xr_zret E hX hQ () hr (iI_bB1 (b := true) rfl) (iI_bB1 (decide_eq_true (by omega))) rfl dX5_within_15
abbrev rm_X5_isYear : Room := { frames := 1, cells := 0, slots := 0, locals := 22 }
set_option maxHeartbeats 4000000 in
set_option maxRecDepth 100000 in
theorem c_X5_isYear (l : Launch) (D : va_G) (y : CY) (z sz : Nat) (v : Int) (hv : sm v) : Met l yX5_isYear (Cond.code yX5_isYear cX5_isYear 1 (some .boolean) :: TW) rm_X5_isYear (va_Pc [.int (iI v)] (PX D y z [] sz)) (va_Qi (fun (r : Int32) (uu : Unit) => r = bB (decide (0 ≤ v ∧ v ≤ 2))) (fun uu t => BX D [] (va_A [] sz) t) (va_A [] sz)) 0 0 (va_A [] sz) := by
  refine xm_i (by decide) (Nat.le_of_ble_eq_true rfl) (fun p e s m args below meth cX ls A Q E hr hnm hX hl hQ => ?_)
  have hl : lv_has ls 1 [(0, .int (iI v))] := hl
  refine xr_iload_n E hl 0 rfl dX5_isYear_0 rfl ?_
  refine xr_iconst E dX5_isYear_1 ?_
  refine xr_iconst E dX5_isYear_2 ?_
  refine xk_ri E hX [] rfl (xv_S (As := [.int (iI v), .int (iI 0), .int (iI 2)]) E hX hl (c_X5_within l D y z _ v 0 2 ⟨by omega, by omega⟩ (by decide) (by decide)) ml_X5_85 st_X5_within in_X5 co_X5_within 3 (by decide) ⟨rfl, rfl⟩ ⟨Nat.le_of_ble_eq_true rfl, Nat.le_of_ble_eq_true rfl⟩ [] rfl rfl rfl rfl (Nat.le_of_ble_eq_true rfl) dX5_isYear_3 ⟨Nat.le_refl _, Nat.le_refl _⟩) (fun r_3 H locs hw hX => ?_)
  subst hw
  exact xr_zret E hX hQ () hr rfl rfl rfl dX5_isYear_6
abbrev rm_X5_isForm : Room := { frames := 1, cells := 0, slots := 0, locals := 22 }
set_option maxHeartbeats 4000000 in
set_option maxRecDepth 100000 in
theorem c_X5_isForm (l : Launch) (D : va_G) (y : CY) (z sz : Nat) (v : Int) (hv : sm v) : Met l yX5_isForm (Cond.code yX5_isForm cX5_isForm 1 (some .boolean) :: TW) rm_X5_isForm (va_Pc [.int (iI v)] (PX D y z [] sz)) (va_Qi (fun (r : Int32) (uu : Unit) => r = bB (decide (0 ≤ v ∧ v ≤ 1))) (fun uu t => BX D [] (va_A [] sz) t) (va_A [] sz)) 0 0 (va_A [] sz) := by
  refine xm_i (by decide) (Nat.le_of_ble_eq_true rfl) (fun p e s m args below meth cX ls A Q E hr hnm hX hl hQ => ?_)
  have hl : lv_has ls 1 [(0, .int (iI v))] := hl
  refine xr_iload_n E hl 0 rfl dX5_isForm_0 rfl ?_
  refine xr_iconst E dX5_isForm_1 ?_
  refine xr_iconst E dX5_isForm_2 ?_
  refine xk_ri E hX [] rfl (xv_S (As := [.int (iI v), .int (iI 0), .int (iI 1)]) E hX hl (c_X5_within l D y z _ v 0 1 ⟨by omega, by omega⟩ (by decide) (by decide)) ml_X5_85 st_X5_within in_X5 co_X5_within 3 (by decide) ⟨rfl, rfl⟩ ⟨Nat.le_of_ble_eq_true rfl, Nat.le_of_ble_eq_true rfl⟩ [] rfl rfl rfl rfl (Nat.le_of_ble_eq_true rfl) dX5_isForm_3 ⟨Nat.le_refl _, Nat.le_refl _⟩) (fun r_3 H locs hw hX => ?_)
  subst hw
  exact xr_zret E hX hQ () hr rfl rfl rfl dX5_isForm_6
abbrev rm_X5_isRefusal : Room := { frames := 0, cells := 0, slots := 0, locals := 0 }
set_option maxHeartbeats 4000000 in
set_option maxRecDepth 100000 in
theorem c_X5_isRefusal (l : Launch) (D : va_G) (y : CY) (z sz : Nat) (v : Int) (hv : sm v) : Met l yX5_isRefusal (Cond.code yX5_isRefusal cX5_isRefusal 1 (some .boolean) :: TW) rm_X5_isRefusal (va_Pc [.int (iI v)] (PX D y z [] sz)) (va_Qi (fun (r : Int32) (uu : Unit) => r = bB (decide (v < -1))) (fun uu t => BX D [] (va_A [] sz) t) (va_A [] sz)) 0 0 (va_A [] sz) := by
  refine xm_i (by decide) (Nat.le_of_ble_eq_true rfl) (fun p e s m args below meth cX ls A Q E hr hnm hX hl hQ => ?_)
  have hl : lv_has ls 1 [(0, .int (iI v))] := hl
  refine xr_iload_n E hl 0 rfl dX5_isRefusal_0 rfl ?_
  refine xr_iconst E dX5_isRefusal_1 ?_
  refine xr_icmp_ge (tgt := 9) E dX5_isRefusal_2 (by decide) ⟨by omega, by omega⟩ (by decide) (fun c_2 => ?_) (fun c_2 => ?_)
  · have c_2 := c_2
    refine xr_iconst E dX5_isRefusal_9 ?_
    exact xr_zret E hX hQ () hr (iI_bB0 (b := false) rfl) (iI_bB0 (decide_eq_false (by omega))) rfl dX5_isRefusal_10
  · have c_2 := c_2
    refine xr_iconst E dX5_isRefusal_5 ?_
    refine xr_goto (tgt := 10) E dX5_isRefusal_6 (by decide) ?_
    exact xr_zret E hX hQ () hr (iI_bB1 (b := true) rfl) (iI_bB1 (decide_eq_true (by omega))) rfl dX5_isRefusal_10
