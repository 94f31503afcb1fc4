/-! Figures -/
abbrev W_F (y : CY) (hF a_ind a_tot a_pri : Nat) (ind : Int → Int) (tot : Int → Int) (pri : Int → Int) (q : Int) (fr : Int) (li : Int) (sh : Int) : va_W := [(hF, .inr (2, [.ref a_ind, .ref a_tot, .ref a_pri, .int (iI q), .int (iI fr), .int (iI li), .int (iI sh)])), (a_ind, .inl (y.1, 12, .inl (ia ind))), (a_tot, .inl (y.1, 3, .inl (ia tot))), (a_pri, .inl (y.1, 12, .inl (ia pri)))]
abbrev rm_X2_has : Room := { frames := 1, cells := 0, slots := 0, locals := 22 }
set_option maxHeartbeats 4000000 in
set_option maxRecDepth 100000 in
theorem c_X2_has (l : Launch) (D : va_G) (y : CY) (z sz : Nat) (hF a_ind a_tot a_pri : Nat) (ind : Int → Int) (tot : Int → Int) (pri : Int → Int) (q : Int) (fr : Int) (li : Int) (sh : Int) (t : Int) (ht : sm t) (hq : 0 ≤ q ∧ q ≤ 12) : Met l yX2_has (Cond.code yX2_has cX2_has 2 (some .boolean) :: TW) rm_X2_has (va_Pc [.ref hF, .int (iI t)] (PX D y z (W_F y hF a_ind a_tot a_pri ind tot pri q fr li sh) sz)) (va_Qi (fun (r : Int32) (u : Unit) => r = bB (decide (0 ≤ t ∧ t ≤ q - 1))) (fun u t => BX D (W_F y hF a_ind a_tot a_pri ind tot pri q fr li sh) (va_A (W_F y hF a_ind a_tot a_pri ind tot pri q fr li sh) sz) t) (va_A (W_F y hF a_ind a_tot a_pri ind tot pri q fr li sh) sz)) 0 0 (va_A (W_F y hF a_ind a_tot a_pri ind tot pri q fr li sh) sz) := by
  refine xm_i (by decide) (Nat.le_of_ble_eq_true rfl) (fun p e s m args below meth c ls A Q E hr hnm hX hl hQ => ?_)
  have hl : lv_has ls 2 [(0, .ref hF), (1, .int (iI t))] := hl
  refine xr_iload_n E hl 1 rfl dX2_has_0 rfl ?_
  refine xr_iconst E dX2_has_1 ?_
  refine xr_aload_n E hl 0 rfl dX2_has_2 rfl ?_
  refine xr_get E hX 0 rfl rfl ly_X2 3 (by decide) fl_X2_21 rfl dX2_has_3 ?_
  refine xr_iconst E dX2_has_6 ?_
  refine xr_isub E dX2_has_7 ?_
  refine xk_ri E hX [] rfl (xv_SN (As := [.int (iI t), .int (iI 0), .int (iI (q - 1))]) E hX hl (c_X5_within l D y z _ t 0 (q - 1) ⟨by omega, by omega⟩ ⟨by omega, by omega⟩ ⟨by omega, by omega⟩) E.2.2.2.2.2.2.1.2.2.2.2.1 st_X5_within in_X5 co_X5_within 3 (by decide) ⟨rfl, rfl⟩ ⟨Nat.le_of_ble_eq_true rfl, Nat.le_of_ble_eq_true rfl⟩ [] rfl rfl rfl rfl (by decide) dX2_has_8 ⟨Nat.le_refl _, Nat.le_refl _⟩) (fun r_8 H locs hw hX => ?_)
  subst hw
  exact xr_zret E hX hQ () hr rfl rfl rfl dX2_has_11
abbrev rm_X2_isPrinted : Room := { frames := 0, cells := 0, slots := 0, locals := 0 }
set_option maxHeartbeats 4000000 in
set_option maxRecDepth 100000 in
theorem c_X2_isPrinted (l : Launch) (D : va_G) (y : CY) (z sz : Nat) (hF a_ind a_tot a_pri : Nat) (ind : Int → Int) (tot : Int → Int) (pri : Int → Int) (q : Int) (fr : Int) (li : Int) (sh : Int) (t : Int) (ht : 0 ≤ t ∧ t < 12) (hp : sm (pri t)) : Met l yX2_isPrinted (Cond.code yX2_isPrinted cX2_isPrinted 2 (some .boolean) :: TW) rm_X2_isPrinted (va_Pc [.ref hF, .int (iI t)] (PX D y z (W_F y hF a_ind a_tot a_pri ind tot pri q fr li sh) sz)) (va_Qi (fun (r : Int32) (u : Unit) => r = bB (decide (pri t ≠ -1))) (fun u t => BX D (W_F y hF a_ind a_tot a_pri ind tot pri q fr li sh) (va_A (W_F y hF a_ind a_tot a_pri ind tot pri q fr li sh) sz) t) (va_A (W_F y hF a_ind a_tot a_pri ind tot pri q fr li sh) sz)) 0 0 (va_A (W_F y hF a_ind a_tot a_pri ind tot pri q fr li sh) sz) := by
  refine xm_i (by decide) (Nat.le_of_ble_eq_true rfl) (fun p e s m args below meth c ls A Q E hr hnm hX hl hQ => ?_)
  have hl : lv_has ls 2 [(0, .ref hF), (1, .int (iI t))] := hl
  refine xr_aload_n E hl 0 rfl dX2_isPrinted_0 rfl ?_
  refine xr_get E hX 0 rfl rfl ly_X2 2 (by decide) fl_X2_18 rfl dX2_isPrinted_1 ?_
  refine xr_iload_n E hl 1 rfl dX2_isPrinted_4 rfl ?_
  refine xr_iald E hX 3 rfl (by omega) (by omega) (by decide) dX2_isPrinted_5 ?_
  refine xr_iconst E dX2_isPrinted_6 ?_
  refine xr_icmp_eq (tgt := 14) E dX2_isPrinted_7 (by decide) ⟨by omega, by omega⟩ (by decide) (fun c_7 => ?_) (fun c_7 => ?_)
  · have c_7 := c_7
    refine xr_iconst E dX2_isPrinted_14 ?_
    exact xr_zret E hX hQ () hr (iI_bB0 (b := false) rfl) (iI_bB0 (decide_eq_false (by omega))) rfl dX2_isPrinted_15
  · have c_7 := c_7
    refine xr_iconst E dX2_isPrinted_10 ?_
    refine xr_goto (tgt := 15) E dX2_isPrinted_11 (by decide) ?_
    exact xr_zret E hX hQ () hr (iI_bB1 (b := true) rfl) (iI_bB1 (decide_eq_true (by omega))) rfl dX2_isPrinted_15
abbrev rm_X2_isFrozen : Room := { frames := 0, cells := 0, slots := 0, locals := 0 }
set_option maxHeartbeats 4000000 in
set_option maxRecDepth 100000 in
theorem c_X2_isFrozen (l : Launch) (D : va_G) (y : CY) (z sz : Nat) (hF a_ind a_tot a_pri : Nat) (ind : Int → Int) (tot : Int → Int) (pri : Int → Int) (q : Int) (fr : Int) (li : Int) (sh : Int) (t : Int) (hp : sm (bAnd (bShr fr t) 1)) : Met l yX2_isFrozen (Cond.code yX2_isFrozen cX2_isFrozen 2 (some .boolean) :: TW) rm_X2_isFrozen (va_Pc [.ref hF, .int (iI t)] (PX D y z (W_F y hF a_ind a_tot a_pri ind tot pri q fr li sh) sz)) (va_Qi (fun (r : Int32) (u : Unit) => r = bB (decide (bAnd (bShr fr t) 1 = 1))) (fun u t => BX D (W_F y hF a_ind a_tot a_pri ind tot pri q fr li sh) (va_A (W_F y hF a_ind a_tot a_pri ind tot pri q fr li sh) sz) t) (va_A (W_F y hF a_ind a_tot a_pri ind tot pri q fr li sh) sz)) 0 0 (va_A (W_F y hF a_ind a_tot a_pri ind tot pri q fr li sh) sz) := by
  refine xm_i (by decide) (Nat.le_of_ble_eq_true rfl) (fun p e s m args below meth c ls A Q E hr hnm hX hl hQ => ?_)
  have hl : lv_has ls 2 [(0, .ref hF), (1, .int (iI t))] := hl
  refine xr_aload_n E hl 0 rfl dX2_isFrozen_0 rfl ?_
  refine xr_get E hX 0 rfl rfl ly_X2 4 (by decide) fl_X2_25 rfl dX2_isFrozen_1 ?_
  refine xr_iload_n E hl 1 rfl dX2_isFrozen_4 rfl ?_
  refine xr_ishr E dX2_isFrozen_5 ?_
  refine xr_iconst E dX2_isFrozen_6 ?_
  refine xr_iand E dX2_isFrozen_7 ?_
  refine xr_iconst E dX2_isFrozen_8 ?_
  refine xr_icmp_ne (tgt := 16) E dX2_isFrozen_9 (by decide) ⟨by omega, by omega⟩ (by decide) (fun c_9 => ?_) (fun c_9 => ?_)
  · have c_9 := c_9
    refine xr_iconst E dX2_isFrozen_16 ?_
    exact xr_zret E hX hQ () hr (iI_bB0 (b := false) rfl) (iI_bB0 (decide_eq_false (by omega))) rfl dX2_isFrozen_17
  · have c_9 := c_9
    refine xr_iconst E dX2_isFrozen_12 ?_
    refine xr_goto (tgt := 17) E dX2_isFrozen_13 (by decide) ?_
    exact xr_zret E hX hQ () hr (iI_bB1 (b := true) rfl) (iI_bB1 (decide_eq_true (by omega))) rfl dX2_isFrozen_17
def xAdds_r (i q : Int) : Int := if 1 ≤ i ∧ i ≤ 99 then (if 12 ≤ q then -4 else q) else -2
def xAdds_ind (i : Int) (ind : Int → Int) (q : Int) : Int → Int := if 1 ≤ i ∧ i ≤ 99 then (if 12 ≤ q then ind else up ind q i) else ind
def xAdds_q (i q : Int) : Int := if 1 ≤ i ∧ i ≤ 99 then (if 12 ≤ q then q else q + 1) else q
abbrev rm_X2_adds : Room := { frames := 1, cells := 0, slots := 0, locals := 22 }
set_option maxHeartbeats 4000000 in
set_option maxRecDepth 100000 in
theorem c_X2_adds (l : Launch) (D : va_G) (y : CY) (z sz : Nat) (hF a_ind a_tot a_pri : Nat) (ind : Int → Int) (tot : Int → Int) (pri : Int → Int) (q : Int) (fr : Int) (li : Int) (sh : Int) (i : Int) (hi : sm i) (hq : 0 ≤ q ∧ q ≤ 12) : Met l yX2_adds (Cond.code yX2_adds cX2_adds 2 (some .int) :: TW) rm_X2_adds (va_Pc [.ref hF, .int (iI i)] (PX D y z (W_F y hF a_ind a_tot a_pri ind tot pri q fr li sh) sz)) (va_Qi (fun (r : Int32) (u : (Int → Int) × (Int)) => r = iI (xAdds_r i q) ∧ u = (xAdds_ind i ind q, xAdds_q i q)) (fun u t => BX D (W_F y hF a_ind a_tot a_pri u.1 tot pri u.2 fr li sh) (va_A (W_F y hF a_ind a_tot a_pri ind tot pri q fr li sh) sz) t) (va_A (W_F y hF a_ind a_tot a_pri ind tot pri q fr li sh) sz)) 0 0 (va_A (W_F y hF a_ind a_tot a_pri ind tot pri q fr li sh) sz) := by
  refine xm_i (by decide) (Nat.le_of_ble_eq_true rfl) (fun p e s m args below meth c ls A Q E hr hnm hX hl hQ => ?_)
  have hl : lv_has ls 2 [(0, .ref hF), (1, .int (iI i))] := hl
  refine xr_iload_n E hl 1 rfl dX2_adds_0 rfl ?_
  refine xr_iconst E dX2_adds_1 ?_
  refine xr_bipush E dX2_adds_2 (by decide) ?_
  refine xk_ri E hX [] rfl (xv_SN (As := [.int (iI i), .int (iI 1), .int (iI 99)]) E hX hl (c_X5_within l D y z _ i 1 99 ⟨by omega, by omega⟩ ⟨by omega, by omega⟩ ⟨by omega, by omega⟩) E.2.2.2.2.2.2.1.2.2.2.2.1 st_X5_within in_X5 co_X5_within 3 (by decide) ⟨rfl, rfl⟩ ⟨Nat.le_of_ble_eq_true rfl, Nat.le_of_ble_eq_true rfl⟩ [] rfl rfl rfl rfl (by decide) dX2_adds_4 ⟨Nat.le_refl _, Nat.le_refl _⟩) (fun r_4 H locs hw hX => ?_)
  subst hw
  refine xr_if_neB (tgt := 13) E dX2_adds_7 (by decide) (fun c_7 => ?_) (fun c_7 => ?_)
  · have c_7 := of_decide_eq_true c_7
    refine xr_aload_n E hl 0 rfl dX2_adds_13 rfl ?_
    refine xr_get E hX 0 rfl rfl ly_X2 3 (by decide) fl_X2_21 rfl dX2_adds_14 ?_
    refine xr_bipush E dX2_adds_17 (by decide) ?_
    refine xr_icmp_lt (tgt := 25) E dX2_adds_19 (by decide) ⟨by omega, by omega⟩ (by decide) (fun c_19 => ?_) (fun c_19 => ?_)
    · have c_19 := c_19
      refine xr_aload_n E hl 0 rfl dX2_adds_25 rfl ?_
      refine xr_get E hX 0 rfl rfl ly_X2 0 (by decide) fl_X2_9 rfl dX2_adds_26 ?_
      refine xr_aload_n E hl 0 rfl dX2_adds_29 rfl ?_
      refine xr_get E hX 0 rfl rfl ly_X2 3 (by decide) fl_X2_21 rfl dX2_adds_30 ?_
      refine xr_iload_n E hl 1 rfl dX2_adds_33 rfl ?_
      refine xr_iast (W1 := (W_F y hF a_ind a_tot a_pri (up ind q i) tot pri q fr li sh)) E hX 1 rfl (by omega) (by omega) (by decide) rfl dX2_adds_34 (fun H locs hX => ?_)
      refine xr_aload_n E hl 0 rfl dX2_adds_35 rfl ?_
      refine xr_dup E dX2_adds_36 rfl ?_
      refine xr_get E hX 0 rfl rfl ly_X2 3 (by decide) fl_X2_21 rfl dX2_adds_37 ?_
      refine xr_iconst E dX2_adds_40 ?_
      refine xr_iadd E dX2_adds_41 ?_
      refine xr_put (W1 := (W_F y hF a_ind a_tot a_pri (up ind q i) tot pri (q + 1) fr li sh)) E hX 0 rfl rfl ly_X2 tyX2_ok nmX2 3 (by decide) fl_X2_21 rfl rfl rfl (Nat.le_of_ble_eq_true rfl) rfl dX2_adds_42 (fun H locs hX => ?_)
      refine xr_aload_n E hl 0 rfl dX2_adds_45 rfl ?_
      refine xr_get E hX 0 rfl rfl ly_X2 3 (by decide) fl_X2_21 rfl dX2_adds_46 ?_
      refine xr_iconst E dX2_adds_49 ?_
      refine xr_isub E dX2_adds_50 ?_
      exact xr_iret E hX hQ ((up ind q i), (q + 1)) hr ⟨by rw [xAdds_r, if_pos c_7, if_neg (by omega)]; congr 1; omega, by rw [xAdds_ind, xAdds_q, if_pos c_7, if_neg (by omega), if_pos c_7, if_neg (by omega)]⟩ rfl dX2_adds_51
    · have c_19 := c_19
      refine xr_bipush E dX2_adds_22 (by decide) ?_
      exact xr_iret E hX hQ (ind, q) hr ⟨by rw [xAdds_r, if_pos c_7, if_pos c_19], by rw [xAdds_ind, xAdds_q, if_pos c_7, if_pos c_19, if_pos c_7, if_pos c_19]⟩ rfl dX2_adds_24
  · have c_7 := of_decide_eq_false c_7
    refine xr_bipush E dX2_adds_10 (by decide) ?_
    exact xr_iret E hX hQ (ind, q) hr ⟨by rw [xAdds_r, if_neg c_7], by rw [xAdds_ind, xAdds_q, if_neg c_7, if_neg c_7]⟩ rfl dX2_adds_12
