/-! Figures -/
abbrev W_F (y : CY) (hF a_ind a_tot a_pri : Nat) (ind : Int → Int) (tot : Int → Int) (pri : Int → Int) (q : Int) (fr : Int) (li : Int) (sh : Int) : va_W := [(hF, .inr (2, [.ref a_ind, .ref a_tot, .ref a_pri, .int (iI q), .int (iI fr), .int (iI li), .int (iI sh)])), (a_ind, .inl (y.1, 12, .inl (ia ind))), (a_tot, .inl (y.1, 3, .inl (ia tot))), (a_pri, .inl (y.1, 12, .inl (ia pri)))]
abbrev rm_X2_has : Room := { frames := 1, cells := 0, slots := 0, locals := 22 }
set_option maxHeartbeats 4000000 in
set_option maxRecDepth 100000 in
theorem c_X2_has (l : Launch) (D : va_G) (y : CY) (z sz : Nat) (hF a_ind a_tot a_pri : Nat) (ind : Int → Int) (tot : Int → Int) (pri : Int → Int) (q : Int) (fr : Int) (li : Int) (sh : Int) (t : Int) (ht : sm t) (hq : 0 ≤ q ∧ q ≤ 12) : Met l yX2_has (Cond.code yX2_has cX2_has 2 (some .boolean) :: TW) rm_X2_has (va_Pc [.ref hF, .int (iI t)] (PX D y z (W_F y hF a_ind a_tot a_pri ind tot pri q fr li sh) sz)) (va_Qi (fun (r : Int32) (uu : Unit) => r = bB (decide (0 ≤ t ∧ t ≤ q - 1))) (fun uu t => BX D (W_F y hF a_ind a_tot a_pri ind tot pri q fr li sh) (va_A (W_F y hF a_ind a_tot a_pri ind tot pri q fr li sh) sz) t) (va_A (W_F y hF a_ind a_tot a_pri ind tot pri q fr li sh) sz)) 0 0 (va_A (W_F y hF a_ind a_tot a_pri ind tot pri q fr li sh) sz) := by
  refine xm_i (by decide) (Nat.le_of_ble_eq_true rfl) (fun p e s m args below meth cX ls A Q E hr hnm hX hl hQ => ?_)
  have hl : lv_has ls 2 [(0, .ref hF), (1, .int (iI t))] := hl
  refine xr_iload_n E hl 1 rfl dX2_has_0 rfl ?_
  refine xr_iconst E dX2_has_1 ?_
  refine xr_aload_n E hl 0 rfl dX2_has_2 rfl ?_
  refine xr_get E hX 0 rfl rfl ly_X2 3 (by decide) fl_X2_21 rfl dX2_has_3 ?_
  refine xr_iconst E dX2_has_6 ?_
  refine xr_isub E dX2_has_7 ?_
  refine xk_ri E hX [] rfl (xv_SN (As := [.int (iI t), .int (iI 0), .int (iI (q - 1))]) E hX hl (c_X5_within l D y z _ t 0 (q - 1) ⟨by omega, by omega⟩ ⟨by omega, by omega⟩ ⟨by omega, by omega⟩) E.2.2.2.2.2.2.1.2.2.2.2.1 st_X5_within in_X5 co_X5_within 3 (by decide) ⟨rfl, rfl⟩ ⟨Nat.le_of_ble_eq_true rfl, Nat.le_of_ble_eq_true rfl⟩ [] rfl rfl rfl rfl (Nat.le_of_ble_eq_true rfl) dX2_has_8 ⟨Nat.le_refl _, Nat.le_refl _⟩) (fun r_8 H locs hw hX => ?_)
  subst hw
  exact xr_zret E hX hQ () hr rfl rfl rfl dX2_has_11
abbrev rm_X2_isPrinted : Room := { frames := 0, cells := 0, slots := 0, locals := 0 }
set_option maxHeartbeats 4000000 in
set_option maxRecDepth 100000 in
theorem c_X2_isPrinted (l : Launch) (D : va_G) (y : CY) (z sz : Nat) (hF a_ind a_tot a_pri : Nat) (ind : Int → Int) (tot : Int → Int) (pri : Int → Int) (q : Int) (fr : Int) (li : Int) (sh : Int) (t : Int) (ht : 0 ≤ t ∧ t < 12) (hp : sm (pri t)) : Met l yX2_isPrinted (Cond.code yX2_isPrinted cX2_isPrinted 2 (some .boolean) :: TW) rm_X2_isPrinted (va_Pc [.ref hF, .int (iI t)] (PX D y z (W_F y hF a_ind a_tot a_pri ind tot pri q fr li sh) sz)) (va_Qi (fun (r : Int32) (uu : Unit) => r = bB (decide (pri t ≠ -1))) (fun uu t => BX D (W_F y hF a_ind a_tot a_pri ind tot pri q fr li sh) (va_A (W_F y hF a_ind a_tot a_pri ind tot pri q fr li sh) sz) t) (va_A (W_F y hF a_ind a_tot a_pri ind tot pri q fr li sh) sz)) 0 0 (va_A (W_F y hF a_ind a_tot a_pri ind tot pri q fr li sh) sz) := by
  refine xm_i (by decide) (Nat.le_of_ble_eq_true rfl) (fun p e s m args below meth cX ls A Q E hr hnm hX hl hQ => ?_)
  have hl : lv_has ls 2 [(0, .ref hF), (1, .int (iI t))] := hl
  refine xr_aload_n E hl 0 rfl dX2_isPrinted_0 rfl ?_
  refine xr_get E hX 0 rfl rfl ly_X2 2 (by decide) fl_X2_18 rfl dX2_isPrinted_1 ?_
  refine xr_iload_n E hl 1 rfl dX2_isPrinted_4 rfl ?_
  refine xr_iald E hX 3 rfl (by omega) (by omega) (by decide) dX2_isPrinted_5 ?_
  refine xr_iconst E dX2_isPrinted_6 ?_
  refine xr_icmp_eq (tgt := 14) E dX2_isPrinted_7 (by decide) ⟨by omega, by omega⟩ (by decide) (fun c_7 => ?_) (fun c_7 => ?_)
  · have c_7 := c_7
    refine xr_iconst E dX2_isPrinted_14 ?_
    exact xr_zret E hX hQ () hr (iI_bB0 (b := false) rfl) (iI_bB0 (decide_eq_false (by omega))) rfl dX2_isPrinted_15
  · have c_7 := c_7
    refine xr_iconst E dX2_isPrinted_10 ?_
    refine xr_goto (tgt := 15) E dX2_isPrinted_11 (by decide) ?_
    exact xr_zret E hX hQ () hr (iI_bB1 (b := true) rfl) (iI_bB1 (decide_eq_true (by omega))) rfl dX2_isPrinted_15
abbrev rm_X2_isFrozen : Room := { frames := 0, cells := 0, slots := 0, locals := 0 }
set_option maxHeartbeats 4000000 in
set_option maxRecDepth 100000 in
theorem c_X2_isFrozen (l : Launch) (D : va_G) (y : CY) (z sz : Nat) (hF a_ind a_tot a_pri : Nat) (ind : Int → Int) (tot : Int → Int) (pri : Int → Int) (q : Int) (fr : Int) (li : Int) (sh : Int) (t : Int) : Met l yX2_isFrozen (Cond.code yX2_isFrozen cX2_isFrozen 2 (some .boolean) :: TW) rm_X2_isFrozen (va_Pc [.ref hF, .int (iI t)] (PX D y z (W_F y hF a_ind a_tot a_pri ind tot pri q fr li sh) sz)) (va_Qi (fun (r : Int32) (uu : Unit) => r = bB (decide (bAnd (bShr fr t) 1 = 1))) (fun uu t => BX D (W_F y hF a_ind a_tot a_pri ind tot pri q fr li sh) (va_A (W_F y hF a_ind a_tot a_pri ind tot pri q fr li sh) sz) t) (va_A (W_F y hF a_ind a_tot a_pri ind tot pri q fr li sh) sz)) 0 0 (va_A (W_F y hF a_ind a_tot a_pri ind tot pri q fr li sh) sz) := by
  refine xm_i (by decide) (Nat.le_of_ble_eq_true rfl) (fun p e s m args below meth cX ls A Q E hr hnm hX hl hQ => ?_)
  have hl : lv_has ls 2 [(0, .ref hF), (1, .int (iI t))] := hl
  have hp := bAnd1 (bShr fr t)
  refine xr_aload_n E hl 0 rfl dX2_isFrozen_0 rfl ?_
  refine xr_get E hX 0 rfl rfl ly_X2 4 (by decide) fl_X2_25 rfl dX2_isFrozen_1 ?_
  refine xr_iload_n E hl 1 rfl dX2_isFrozen_4 rfl ?_
  refine xr_ishr E dX2_isFrozen_5 ?_
  refine xr_iconst E dX2_isFrozen_6 ?_
  refine xr_iand E dX2_isFrozen_7 ?_
  refine xr_iconst E dX2_isFrozen_8 ?_
  refine xr_icmp_ne (tgt := 16) E dX2_isFrozen_9 (by decide) ⟨by omega, by omega⟩ (by decide) (fun c_9 => ?_) (fun c_9 => ?_)
  · have c_9 := c_9
    refine xr_iconst E dX2_isFrozen_16 ?_
    exact xr_zret E hX hQ () hr (iI_bB0 (b := false) rfl) (iI_bB0 (decide_eq_false (by omega))) rfl dX2_isFrozen_17
  · have c_9 := c_9
    refine xr_iconst E dX2_isFrozen_12 ?_
    refine xr_goto (tgt := 17) E dX2_isFrozen_13 (by decide) ?_
    exact xr_zret E hX hQ () hr (iI_bB1 (b := true) rfl) (iI_bB1 (decide_eq_true (by omega))) rfl dX2_isFrozen_17
def xAdds_r (i q : Int) : Int := if 1 ≤ i ∧ i ≤ 99 then (if 12 ≤ q then -4 else q) else -2
def xAdds_ind (i : Int) (ind : Int → Int) (q : Int) : Int → Int := if 1 ≤ i ∧ i ≤ 99 then (if 12 ≤ q then ind else up ind q i) else ind
def xAdds_q (i q : Int) : Int := if 1 ≤ i ∧ i ≤ 99 then (if 12 ≤ q then q else q + 1) else q
abbrev rm_X2_adds : Room := { frames := 1, cells := 0, slots := 0, locals := 22 }
set_option maxHeartbeats 4000000 in
set_option maxRecDepth 100000 in
theorem c_X2_adds (l : Launch) (D : va_G) (y : CY) (z sz : Nat) (hF a_ind a_tot a_pri : Nat) (ind : Int → Int) (tot : Int → Int) (pri : Int → Int) (q : Int) (fr : Int) (li : Int) (sh : Int) (i : Int) (hi : sm i) (H_I : FI ind tot pri q fr li sh) : Met l yX2_adds (Cond.code yX2_adds cX2_adds 2 (some .int) :: TW) rm_X2_adds (va_Pc [.ref hF, .int (iI i)] (PX D y z (W_F y hF a_ind a_tot a_pri ind tot pri q fr li sh) sz)) (va_Qi (fun (r : Int32) (uu : (Int → Int) × (Int)) => r = iI (xAdds_r i q) ∧ uu = (xAdds_ind i ind q, xAdds_q i q)) (fun uu t => BX D (W_F y hF a_ind a_tot a_pri uu.1 tot pri uu.2 fr li sh) (va_A (W_F y hF a_ind a_tot a_pri ind tot pri q fr li sh) sz) t) (va_A (W_F y hF a_ind a_tot a_pri ind tot pri q fr li sh) sz)) 0 0 (va_A (W_F y hF a_ind a_tot a_pri ind tot pri q fr li sh) sz) := by
  refine xm_i (by decide) (Nat.le_of_ble_eq_true rfl) (fun p e s m args below meth cX ls A Q E hr hnm hX hl hQ => ?_)
  have hl : lv_has ls 2 [(0, .ref hF), (1, .int (iI i))] := hl
  have hq := H_I.q
  have hfr := H_I.fr
  have hli := H_I.li
  have hsh := H_I.sh
  refine xr_iload_n E hl 1 rfl dX2_adds_0 rfl ?_
  refine xr_iconst E dX2_adds_1 ?_
  refine xr_bipush E dX2_adds_2 (by decide) ?_
  refine xk_ri E hX [] rfl (xv_SN (As := [.int (iI i), .int (iI 1), .int (iI 99)]) E hX hl (c_X5_within l D y z _ i 1 99 ⟨by omega, by omega⟩ ⟨by omega, by omega⟩ ⟨by omega, by omega⟩) E.2.2.2.2.2.2.1.2.2.2.2.1 st_X5_within in_X5 co_X5_within 3 (by decide) ⟨rfl, rfl⟩ ⟨Nat.le_of_ble_eq_true rfl, Nat.le_of_ble_eq_true rfl⟩ [] rfl rfl rfl rfl (Nat.le_of_ble_eq_true rfl) dX2_adds_4 ⟨Nat.le_refl _, Nat.le_refl _⟩) (fun r_4 H locs hw hX => ?_)
  subst hw
  refine xr_if_neB (tgt := 13) E dX2_adds_7 (by decide) (fun c_7 => ?_) (fun c_7 => ?_)
  · have c_7 := of_decide_eq_true c_7
    refine xr_aload_n E hl 0 rfl dX2_adds_13 rfl ?_
    refine xr_get E hX 0 rfl rfl ly_X2 3 (by decide) fl_X2_21 rfl dX2_adds_14 ?_
    refine xr_bipush E dX2_adds_17 (by decide) ?_
    refine xr_icmp_lt (tgt := 25) E dX2_adds_19 (by decide) ⟨by omega, by omega⟩ (by decide) (fun c_19 => ?_) (fun c_19 => ?_)
    · have c_19 := c_19
      refine xr_aload_n E hl 0 rfl dX2_adds_25 rfl ?_
      refine xr_get E hX 0 rfl rfl ly_X2 0 (by decide) fl_X2_9 rfl dX2_adds_26 ?_
      refine xr_aload_n E hl 0 rfl dX2_adds_29 rfl ?_
      refine xr_get E hX 0 rfl rfl ly_X2 3 (by decide) fl_X2_21 rfl dX2_adds_30 ?_
      refine xr_iload_n E hl 1 rfl dX2_adds_33 rfl ?_
      refine xr_iast (W1 := (W_F y hF a_ind a_tot a_pri (up ind q i) tot pri q fr li sh)) E hX 1 rfl (by omega) (by omega) (by decide) rfl dX2_adds_34 (fun H locs hX => ?_)
      refine xr_aload_n E hl 0 rfl dX2_adds_35 rfl ?_
      refine xr_dup E dX2_adds_36 rfl ?_
      refine xr_get E hX 0 rfl rfl ly_X2 3 (by decide) fl_X2_21 rfl dX2_adds_37 ?_
      refine xr_iconst E dX2_adds_40 ?_
      refine xr_iadd E dX2_adds_41 ?_
      refine xr_put (W1 := (W_F y hF a_ind a_tot a_pri (up ind q i) tot pri (q + 1) fr li sh)) E hX 0 rfl rfl ly_X2 tyX2_ok nmX2 3 (by decide) fl_X2_21 rfl rfl rfl (Nat.le_of_ble_eq_true rfl) rfl dX2_adds_42 (fun H locs hX => ?_)
      refine xr_aload_n E hl 0 rfl dX2_adds_45 rfl ?_
      refine xr_get E hX 0 rfl rfl ly_X2 3 (by decide) fl_X2_21 rfl dX2_adds_46 ?_
      refine xr_iconst E dX2_adds_49 ?_
      refine xr_isub E dX2_adds_50 ?_
      exact xr_iret E hX hQ ((up ind q i), (q + 1)) hr ⟨by unfold xAdds_r; (repeat' split) <;> first | (exfalso; omega) | rfl | (congr 1; omega) | (congr 2; omega), by unfold xAdds_ind xAdds_q; (repeat' split) <;> first | (exfalso; omega) | rfl | (congr 1; omega) | (congr 2; omega)⟩ rfl dX2_adds_51
    · have c_19 := c_19
      refine xr_bipush E dX2_adds_22 (by decide) ?_
      exact xr_iret E hX hQ (ind, q) hr ⟨by unfold xAdds_r; (repeat' split) <;> first | (exfalso; omega) | rfl | (congr 1; omega) | (congr 2; omega), by unfold xAdds_ind xAdds_q; (repeat' split) <;> first | (exfalso; omega) | rfl | (congr 1; omega) | (congr 2; omega)⟩ rfl dX2_adds_24
  · have c_7 := of_decide_eq_false c_7
    refine xr_bipush E dX2_adds_10 (by decide) ?_
    exact xr_iret E hX hQ (ind, q) hr ⟨by unfold xAdds_r; (repeat' split) <;> first | (exfalso; omega) | rfl | (congr 1; omega) | (congr 2; omega), by unfold xAdds_ind xAdds_q; (repeat' split) <;> first | (exfalso; omega) | rfl | (congr 1; omega) | (congr 2; omega)⟩ rfl dX2_adds_12
def xRe_r (t i : Int) (ind : Int → Int) (q : Int) : Int := if (0 ≤ t ∧ t ≤ q - 1) ∧ 1 ≤ i ∧ i ≤ 99 then ind t else -2
def xRe_ind (t i : Int) (ind : Int → Int) (q : Int) : Int → Int := if (0 ≤ t ∧ t ≤ q - 1) ∧ 1 ≤ i ∧ i ≤ 99 then up ind t i else ind
abbrev rm_X2_reindicates : Room := { frames := 2, cells := 0, slots := 0, locals := 43 }
set_option maxHeartbeats 4000000 in
set_option maxRecDepth 100000 in
theorem c_X2_reindicates (l : Launch) (D : va_G) (y : CY) (z sz : Nat) (hF a_ind a_tot a_pri : Nat) (ind : Int → Int) (tot : Int → Int) (pri : Int → Int) (q : Int) (fr : Int) (li : Int) (sh : Int) (t : Int) (i : Int) (ht : sm t) (hi : sm i) (H_I : FI ind tot pri q fr li sh) : Met l yX2_reindicates (Cond.code yX2_reindicates cX2_reindicates 4 (some .int) :: TW) rm_X2_reindicates (va_Pc [.ref hF, .int (iI t), .int (iI i)] (PX D y z (W_F y hF a_ind a_tot a_pri ind tot pri q fr li sh) sz)) (va_Qi (fun (r : Int32) (uu : (Int → Int)) => r = iI (xRe_r t i ind q) ∧ uu = xRe_ind t i ind q) (fun uu t => BX D (W_F y hF a_ind a_tot a_pri uu tot pri q fr li sh) (va_A (W_F y hF a_ind a_tot a_pri ind tot pri q fr li sh) sz) t) (va_A (W_F y hF a_ind a_tot a_pri ind tot pri q fr li sh) sz)) 0 0 (va_A (W_F y hF a_ind a_tot a_pri ind tot pri q fr li sh) sz) := by
  refine xm_i (by decide) (Nat.le_of_ble_eq_true rfl) (fun p e s m args below meth cX ls A Q E hr hnm hX hl hQ => ?_)
  have hl : lv_has ls 4 [(0, .ref hF), (1, .int (iI t)), (2, .int (iI i))] := hl
  have hq := H_I.q
  have hfr := H_I.fr
  have hli := H_I.li
  have hsh := H_I.sh
  refine xr_aload_n E hl 0 rfl dX2_reindicates_0 rfl ?_
  refine xr_iload_n E hl 1 rfl dX2_reindicates_1 rfl ?_
  refine xk_ri E hX [0, 1, 2, 3] rfl (xv_V (As := [.int (iI t)]) E hX hl (c_X2_has l D y z _ hF a_ind a_tot a_pri ind tot pri q fr li sh t ⟨by omega, by omega⟩ ⟨by omega, by omega⟩) ml_X2_44 im_X2_has se_X2_has in_X2 co_X2_has 1 (by decide) ⟨rfl, rfl⟩ ⟨Nat.le_of_ble_eq_true rfl, Nat.le_of_ble_eq_true rfl⟩ [0, 1, 2, 3] rfl rfl 0 rfl rfl rfl rfl rfl (Nat.le_of_ble_eq_true rfl) dX2_reindicates_2 ⟨Nat.le_refl _, Nat.le_refl _⟩) (fun r_2 H locs hw hX => ?_)
  subst hw
  refine xr_if_eqB (tgt := 18) E dX2_reindicates_5 (by decide) (fun c_5 => ?_) (fun c_5 => ?_)
  · have c_5 := of_decide_eq_false c_5
    refine xr_bipush E dX2_reindicates_18 (by decide) ?_
    exact xr_iret E hX hQ ind hr ⟨by unfold xRe_r; (repeat' split) <;> first | (exfalso; omega) | rfl | (congr 1; omega) | (congr 2; omega), by unfold xRe_ind; (repeat' split) <;> first | (exfalso; omega) | rfl | (congr 1; omega) | (congr 2; omega)⟩ rfl dX2_reindicates_20
  · have c_5 := of_decide_eq_true c_5
    refine xr_iload_n E hl 2 rfl dX2_reindicates_8 rfl ?_
    refine xr_iconst E dX2_reindicates_9 ?_
    refine xr_bipush E dX2_reindicates_10 (by decide) ?_
    refine xk_ri E hX [] rfl (xv_SN (As := [.int (iI i), .int (iI 1), .int (iI 99)]) E hX hl (c_X5_within l D y z _ i 1 99 ⟨by omega, by omega⟩ ⟨by omega, by omega⟩ ⟨by omega, by omega⟩) E.2.2.2.2.2.2.1.2.2.2.2.1 st_X5_within in_X5 co_X5_within 3 (by decide) ⟨rfl, rfl⟩ ⟨Nat.le_of_ble_eq_true rfl, Nat.le_of_ble_eq_true rfl⟩ [] rfl rfl rfl rfl (Nat.le_of_ble_eq_true rfl) dX2_reindicates_12 ⟨Nat.le_refl _, Nat.le_refl _⟩) (fun r_12 H locs hw hX => ?_)
    subst hw
    refine xr_if_neB (tgt := 21) E dX2_reindicates_15 (by decide) (fun c_15 => ?_) (fun c_15 => ?_)
    · have c_15 := of_decide_eq_true c_15
      refine xr_aload_n E hl 0 rfl dX2_reindicates_21 rfl ?_
      refine xr_get E hX 0 rfl rfl ly_X2 0 (by decide) fl_X2_9 rfl dX2_reindicates_22 ?_
      refine xr_iload_n E hl 1 rfl dX2_reindicates_25 rfl ?_
      refine xr_iald E hX 1 rfl (by omega) (by omega) (by decide) dX2_reindicates_26 ?_
      refine xr_istore_n (lv' := [(3, .int (iI (ind t))), (0, .ref hF), (1, .int (iI t)), (2, .int (iI i))]) E hl dX2_reindicates_27 rfl (by decide) rfl (fun ls hl => ?_)
      refine xr_aload_n E hl 1 rfl dX2_reindicates_28 rfl ?_
      refine xr_get E hX 0 rfl rfl ly_X2 0 (by decide) fl_X2_9 rfl dX2_reindicates_29 ?_
      refine xr_iload_n E hl 2 rfl dX2_reindicates_32 rfl ?_
      refine xr_iload_n E hl 3 rfl dX2_reindicates_33 rfl ?_
      refine xr_iast (W1 := (W_F y hF a_ind a_tot a_pri (up ind t i) tot pri q fr li sh)) E hX 1 rfl (by omega) (by omega) (by decide) rfl dX2_reindicates_34 (fun H locs hX => ?_)
      refine xr_iload_n E hl 0 rfl dX2_reindicates_35 rfl ?_
      exact xr_iret E hX hQ (up ind t i) hr ⟨by unfold xRe_r; (repeat' split) <;> first | (exfalso; omega) | rfl | (congr 1; omega) | (congr 2; omega), by unfold xRe_ind; (repeat' split) <;> first | (exfalso; omega) | rfl | (congr 1; omega) | (congr 2; omega)⟩ rfl dX2_reindicates_36
    · have c_15 := of_decide_eq_false c_15
      refine xr_bipush E dX2_reindicates_18 (by decide) ?_
      exact xr_iret E hX hQ ind hr ⟨by unfold xRe_r; (repeat' split) <;> first | (exfalso; omega) | rfl | (congr 1; omega) | (congr 2; omega), by unfold xRe_ind; (repeat' split) <;> first | (exfalso; omega) | rfl | (congr 1; omega) | (congr 2; omega)⟩ rfl dX2_reindicates_20
def xTl_r (v w : Int) (tot : Int → Int) (q : Int) : Int := if (0 ≤ v ∧ v ≤ 2) ∧ 0 ≤ w ∧ w ≤ 999 then (if q < 4 * (v + 1) then -3 else tot v) else -2
def xTl_tot (v w : Int) (tot : Int → Int) (q : Int) : Int → Int := if (0 ≤ v ∧ v ≤ 2) ∧ 0 ≤ w ∧ w ≤ 999 then (if q < 4 * (v + 1) then tot else up tot v w) else tot
abbrev rm_X2_tells : Room := { frames := 2, cells := 0, slots := 0, locals := 42 }
set_option maxHeartbeats 4000000 in
set_option maxRecDepth 100000 in
theorem c_X2_tells (l : Launch) (D : va_G) (y : CY) (z sz : Nat) (hF a_ind a_tot a_pri : Nat) (ind : Int → Int) (tot : Int → Int) (pri : Int → Int) (q : Int) (fr : Int) (li : Int) (sh : Int) (v : Int) (w : Int) (hv : sm v) (hw : sm w) (H_I : FI ind tot pri q fr li sh) : Met l yX2_tells (Cond.code yX2_tells cX2_tells 4 (some .int) :: TW) rm_X2_tells (va_Pc [.ref hF, .int (iI v), .int (iI w)] (PX D y z (W_F y hF a_ind a_tot a_pri ind tot pri q fr li sh) sz)) (va_Qi (fun (r : Int32) (uu : (Int → Int)) => r = iI (xTl_r v w tot q) ∧ uu = xTl_tot v w tot q) (fun uu t => BX D (W_F y hF a_ind a_tot a_pri ind uu pri q fr li sh) (va_A (W_F y hF a_ind a_tot a_pri ind tot pri q fr li sh) sz) t) (va_A (W_F y hF a_ind a_tot a_pri ind tot pri q fr li sh) sz)) 0 0 (va_A (W_F y hF a_ind a_tot a_pri ind tot pri q fr li sh) sz) := by
  refine xm_i (by decide) (Nat.le_of_ble_eq_true rfl) (fun p e s m args below meth cX ls A Q E hr hnm hX hl hQ => ?_)
  have hl : lv_has ls 4 [(0, .ref hF), (1, .int (iI v)), (2, .int (iI w))] := hl
  have hq := H_I.q
  have hfr := H_I.fr
  have hli := H_I.li
  have hsh := H_I.sh
  refine xr_iload_n E hl 1 rfl dX2_tells_0 rfl ?_
  refine xk_ri E hX [] rfl (xv_SN (As := [.int (iI v)]) E hX hl (c_X5_isYear l D y z _ v ⟨by omega, by omega⟩) E.2.2.2.2.2.2.1.2.2.2.2.2.1 st_X5_isYear in_X5 co_X5_isYear 1 (by decide) ⟨rfl, rfl⟩ ⟨Nat.le_of_ble_eq_true rfl, Nat.le_of_ble_eq_true rfl⟩ [] rfl rfl rfl rfl (Nat.le_of_ble_eq_true rfl) dX2_tells_1 ⟨Nat.le_refl _, Nat.le_refl _⟩) (fun r_1 H locs hw hX => ?_)
  subst hw
  refine xr_if_eqB (tgt := 18) E dX2_tells_4 (by decide) (fun c_4 => ?_) (fun c_4 => ?_)
  · have c_4 := of_decide_eq_false c_4
    refine xr_bipush E dX2_tells_18 (by decide) ?_
    exact xr_iret E hX hQ tot hr ⟨by unfold xTl_r; (repeat' split) <;> first | (exfalso; omega) | rfl | (congr 1; omega) | (congr 2; omega), by unfold xTl_tot; (repeat' split) <;> first | (exfalso; omega) | rfl | (congr 1; omega) | (congr 2; omega)⟩ rfl dX2_tells_20
  · have c_4 := of_decide_eq_true c_4
    refine xr_iload_n E hl 2 rfl dX2_tells_7 rfl ?_
    refine xr_iconst E dX2_tells_8 ?_
    refine xr_sipush E dX2_tells_9 (by decide) ?_
    refine xk_ri E hX [] rfl (xv_SN (As := [.int (iI w), .int (iI 0), .int (iI 999)]) E hX hl (c_X5_within l D y z _ w 0 999 ⟨by omega, by omega⟩ ⟨by omega, by omega⟩ ⟨by omega, by omega⟩) E.2.2.2.2.2.2.1.2.2.2.2.1 st_X5_within in_X5 co_X5_within 3 (by decide) ⟨rfl, rfl⟩ ⟨Nat.le_of_ble_eq_true rfl, Nat.le_of_ble_eq_true rfl⟩ [] rfl rfl rfl rfl (Nat.le_of_ble_eq_true rfl) dX2_tells_12 ⟨Nat.le_refl _, Nat.le_refl _⟩) (fun r_12 H locs hw hX => ?_)
    subst hw
    refine xr_if_neB (tgt := 21) E dX2_tells_15 (by decide) (fun c_15 => ?_) (fun c_15 => ?_)
    · have c_15 := of_decide_eq_true c_15
      refine xr_aload_n E hl 0 rfl dX2_tells_21 rfl ?_
      refine xr_get E hX 0 rfl rfl ly_X2 3 (by decide) fl_X2_21 rfl dX2_tells_22 ?_
      refine xr_iconst E dX2_tells_25 ?_
      refine xr_iload_n E hl 1 rfl dX2_tells_26 rfl ?_
      refine xr_iconst E dX2_tells_27 ?_
      refine xr_iadd E dX2_tells_28 ?_
      refine xr_imul E dX2_tells_29 ?_
      refine xr_icmp_ge (tgt := 36) E dX2_tells_30 (by decide) ⟨by omega, by omega⟩ ⟨by omega, by omega⟩ (fun c_30 => ?_) (fun c_30 => ?_)
      · have c_30 := c_30
        refine xr_aload_n E hl 0 rfl dX2_tells_36 rfl ?_
        refine xr_get E hX 0 rfl rfl ly_X2 1 (by decide) fl_X2_15 rfl dX2_tells_37 ?_
        refine xr_iload_n E hl 1 rfl dX2_tells_40 rfl ?_
        refine xr_iald E hX 2 rfl (by omega) (by omega) (by decide) dX2_tells_41 ?_
        refine xr_istore_n (lv' := [(3, .int (iI (tot v))), (0, .ref hF), (1, .int (iI v)), (2, .int (iI w))]) E hl dX2_tells_42 rfl (by decide) rfl (fun ls hl => ?_)
        refine xr_aload_n E hl 1 rfl dX2_tells_43 rfl ?_
        refine xr_get E hX 0 rfl rfl ly_X2 1 (by decide) fl_X2_15 rfl dX2_tells_44 ?_
        refine xr_iload_n E hl 2 rfl dX2_tells_47 rfl ?_
        refine xr_iload_n E hl 3 rfl dX2_tells_48 rfl ?_
        refine xr_iast (W1 := (W_F y hF a_ind a_tot a_pri ind (up tot v w) pri q fr li sh)) E hX 2 rfl (by omega) (by omega) (by decide) rfl dX2_tells_49 (fun H locs hX => ?_)
        refine xr_iload_n E hl 0 rfl dX2_tells_50 rfl ?_
        exact xr_iret E hX hQ (up tot v w) hr ⟨by unfold xTl_r; (repeat' split) <;> first | (exfalso; omega) | rfl | (congr 1; omega) | (congr 2; omega), by unfold xTl_tot; (repeat' split) <;> first | (exfalso; omega) | rfl | (congr 1; omega) | (congr 2; omega)⟩ rfl dX2_tells_51
      · have c_30 := c_30
        refine xr_bipush E dX2_tells_33 (by decide) ?_
        exact xr_iret E hX hQ tot hr ⟨by unfold xTl_r; (repeat' split) <;> first | (exfalso; omega) | rfl | (congr 1; omega) | (congr 2; omega), by unfold xTl_tot; (repeat' split) <;> first | (exfalso; omega) | rfl | (congr 1; omega) | (congr 2; omega)⟩ rfl dX2_tells_35
    · have c_15 := of_decide_eq_false c_15
      refine xr_bipush E dX2_tells_18 (by decide) ?_
      exact xr_iret E hX hQ tot hr ⟨by unfold xTl_r; (repeat' split) <;> first | (exfalso; omega) | rfl | (congr 1; omega) | (congr 2; omega), by unfold xTl_tot; (repeat' split) <;> first | (exfalso; omega) | rfl | (congr 1; omega) | (congr 2; omega)⟩ rfl dX2_tells_20
def xUn_r (v : Int) (tot : Int → Int) : Int := if 0 ≤ v ∧ v ≤ 2 then (if tot v = -1 then -3 else tot v) else -2
def xUn_tot (v : Int) (tot : Int → Int) : Int → Int := if 0 ≤ v ∧ v ≤ 2 then (if tot v = -1 then tot else up tot v (-1)) else tot
abbrev rm_X2_untells : Room := { frames := 2, cells := 0, slots := 0, locals := 42 }
set_option maxHeartbeats 4000000 in
set_option maxRecDepth 100000 in
theorem c_X2_untells (l : Launch) (D : va_G) (y : CY) (z sz : Nat) (hF a_ind a_tot a_pri : Nat) (ind : Int → Int) (tot : Int → Int) (pri : Int → Int) (q : Int) (fr : Int) (li : Int) (sh : Int) (v : Int) (hv : sm v) (H_I : FI ind tot pri q fr li sh) : Met l yX2_untells (Cond.code yX2_untells cX2_untells 3 (some .int) :: TW) rm_X2_untells (va_Pc [.ref hF, .int (iI v)] (PX D y z (W_F y hF a_ind a_tot a_pri ind tot pri q fr li sh) sz)) (va_Qi (fun (r : Int32) (uu : (Int → Int)) => r = iI (xUn_r v tot) ∧ uu = xUn_tot v tot) (fun uu t => BX D (W_F y hF a_ind a_tot a_pri ind uu pri q fr li sh) (va_A (W_F y hF a_ind a_tot a_pri ind tot pri q fr li sh) sz) t) (va_A (W_F y hF a_ind a_tot a_pri ind tot pri q fr li sh) sz)) 0 0 (va_A (W_F y hF a_ind a_tot a_pri ind tot pri q fr li sh) sz) := by
  refine xm_i (by decide) (Nat.le_of_ble_eq_true rfl) (fun p e s m args below meth cX ls A Q E hr hnm hX hl hQ => ?_)
  have hl : lv_has ls 3 [(0, .ref hF), (1, .int (iI v))] := hl
  have hq := H_I.q
  have hfr := H_I.fr
  have hli := H_I.li
  have hsh := H_I.sh
  refine xr_iload_n E hl 1 rfl dX2_untells_0 rfl ?_
  refine xk_ri E hX [] rfl (xv_SN (As := [.int (iI v)]) E hX hl (c_X5_isYear l D y z _ v ⟨by omega, by omega⟩) E.2.2.2.2.2.2.1.2.2.2.2.2.1 st_X5_isYear in_X5 co_X5_isYear 1 (by decide) ⟨rfl, rfl⟩ ⟨Nat.le_of_ble_eq_true rfl, Nat.le_of_ble_eq_true rfl⟩ [] rfl rfl rfl rfl (Nat.le_of_ble_eq_true rfl) dX2_untells_1 ⟨Nat.le_refl _, Nat.le_refl _⟩) (fun r_1 H locs hw hX => ?_)
  subst hw
  refine xr_if_neB (tgt := 10) E dX2_untells_4 (by decide) (fun c_4 => ?_) (fun c_4 => ?_)
  · have c_4 := of_decide_eq_true c_4
    have ht := H_I.tot (v := v) (by omega) (by omega)
    refine xr_aload_n E hl 0 rfl dX2_untells_10 rfl ?_
    refine xr_get E hX 0 rfl rfl ly_X2 1 (by decide) fl_X2_15 rfl dX2_untells_11 ?_
    refine xr_iload_n E hl 1 rfl dX2_untells_14 rfl ?_
    refine xr_iald E hX 2 rfl (by omega) (by omega) (by decide) dX2_untells_15 ?_
    refine xr_iconst E dX2_untells_16 ?_
    refine xr_icmp_ne (tgt := 23) E dX2_untells_17 (by decide) ⟨by omega, by omega⟩ (by decide) (fun c_17 => ?_) (fun c_17 => ?_)
    · have c_17 := c_17
      refine xr_aload_n E hl 0 rfl dX2_untells_23 rfl ?_
      refine xr_get E hX 0 rfl rfl ly_X2 1 (by decide) fl_X2_15 rfl dX2_untells_24 ?_
      refine xr_iload_n E hl 1 rfl dX2_untells_27 rfl ?_
      refine xr_iald E hX 2 rfl (by omega) (by omega) (by decide) dX2_untells_28 ?_
      refine xr_istore_n (lv' := [(2, .int (iI (tot v))), (0, .ref hF), (1, .int (iI v))]) E hl dX2_untells_29 rfl (by decide) rfl (fun ls hl => ?_)
      refine xr_aload_n E hl 1 rfl dX2_untells_30 rfl ?_
      refine xr_get E hX 0 rfl rfl ly_X2 1 (by decide) fl_X2_15 rfl dX2_untells_31 ?_
      refine xr_iload_n E hl 2 rfl dX2_untells_34 rfl ?_
      refine xr_iconst E dX2_untells_35 ?_
      refine xr_iast (W1 := (W_F y hF a_ind a_tot a_pri ind (up tot v (-1)) pri q fr li sh)) E hX 2 rfl (by omega) (by omega) (by decide) rfl dX2_untells_36 (fun H locs hX => ?_)
      refine xr_iload_n E hl 0 rfl dX2_untells_37 rfl ?_
      exact xr_iret E hX hQ (up tot v (-1)) hr ⟨by unfold xUn_r; (repeat' split) <;> first | (exfalso; omega) | rfl | (congr 1; omega) | (congr 2; omega), by unfold xUn_tot; (repeat' split) <;> first | (exfalso; omega) | rfl | (congr 1; omega) | (congr 2; omega)⟩ rfl dX2_untells_38
    · have c_17 := c_17
      refine xr_bipush E dX2_untells_20 (by decide) ?_
      exact xr_iret E hX hQ tot hr ⟨by unfold xUn_r; (repeat' split) <;> first | (exfalso; omega) | rfl | (congr 1; omega) | (congr 2; omega), by unfold xUn_tot; (repeat' split) <;> first | (exfalso; omega) | rfl | (congr 1; omega) | (congr 2; omega)⟩ rfl dX2_untells_22
  · have c_4 := of_decide_eq_false c_4
    refine xr_bipush E dX2_untells_7 (by decide) ?_
    exact xr_iret E hX hQ tot hr ⟨by unfold xUn_r; (repeat' split) <;> first | (exfalso; omega) | rfl | (congr 1; omega) | (congr 2; omega), by unfold xUn_tot; (repeat' split) <;> first | (exfalso; omega) | rfl | (congr 1; omega) | (congr 2; omega)⟩ rfl dX2_untells_9
def xBo_r (v li : Int) : Int := if -1 ≤ v ∧ v ≤ 24 then li else -2
def xBo_l (v li : Int) : Int := if -1 ≤ v ∧ v ≤ 24 then v else li
abbrev rm_X2_bounds : Room := { frames := 1, cells := 0, slots := 0, locals := 22 }
set_option maxHeartbeats 4000000 in
set_option maxRecDepth 100000 in
theorem c_X2_bounds (l : Launch) (D : va_G) (y : CY) (z sz : Nat) (hF a_ind a_tot a_pri : Nat) (ind : Int → Int) (tot : Int → Int) (pri : Int → Int) (q : Int) (fr : Int) (li : Int) (sh : Int) (v : Int) (hv : sm v) (H_I : FI ind tot pri q fr li sh) : Met l yX2_bounds (Cond.code yX2_bounds cX2_bounds 3 (some .int) :: TW) rm_X2_bounds (va_Pc [.ref hF, .int (iI v)] (PX D y z (W_F y hF a_ind a_tot a_pri ind tot pri q fr li sh) sz)) (va_Qi (fun (r : Int32) (uu : (Int)) => r = iI (xBo_r v li) ∧ uu = xBo_l v li) (fun uu t => BX D (W_F y hF a_ind a_tot a_pri ind tot pri q fr uu sh) (va_A (W_F y hF a_ind a_tot a_pri ind tot pri q fr li sh) sz) t) (va_A (W_F y hF a_ind a_tot a_pri ind tot pri q fr li sh) sz)) 0 0 (va_A (W_F y hF a_ind a_tot a_pri ind tot pri q fr li sh) sz) := by
  refine xm_i (by decide) (Nat.le_of_ble_eq_true rfl) (fun p e s m args below meth cX ls A Q E hr hnm hX hl hQ => ?_)
  have hl : lv_has ls 3 [(0, .ref hF), (1, .int (iI v))] := hl
  have hq := H_I.q
  have hfr := H_I.fr
  have hli := H_I.li
  have hsh := H_I.sh
  refine xr_iload_n E hl 1 rfl dX2_bounds_0 rfl ?_
  refine xr_iconst E dX2_bounds_1 ?_
  refine xr_icmp_eq (tgt := 18) E dX2_bounds_2 (by decide) ⟨by omega, by omega⟩ (by decide) (fun c_2 => ?_) (fun c_2 => ?_)
  · have c_2 := c_2
    refine xr_aload_n E hl 0 rfl dX2_bounds_18 rfl ?_
    refine xr_get E hX 0 rfl rfl ly_X2 5 (by decide) fl_X2_28 rfl dX2_bounds_19 ?_
    refine xr_istore_n (lv' := [(2, .int (iI li)), (0, .ref hF), (1, .int (iI v))]) E hl dX2_bounds_22 rfl (by decide) rfl (fun ls hl => ?_)
    refine xr_aload_n E hl 1 rfl dX2_bounds_23 rfl ?_
    refine xr_iload_n E hl 2 rfl dX2_bounds_24 rfl ?_
    refine xr_put (W1 := (W_F y hF a_ind a_tot a_pri ind tot pri q fr v sh)) E hX 0 rfl rfl ly_X2 tyX2_ok nmX2 5 (by decide) fl_X2_28 rfl rfl rfl (Nat.le_of_ble_eq_true rfl) rfl dX2_bounds_25 (fun H locs hX => ?_)
    refine xr_iload_n E hl 0 rfl dX2_bounds_28 rfl ?_
    exact xr_iret E hX hQ v hr ⟨by unfold xBo_r; (repeat' split) <;> first | (exfalso; omega) | rfl | (congr 1; omega) | (congr 2; omega), by unfold xBo_l; (repeat' split) <;> first | (exfalso; omega) | rfl | (congr 1; omega) | (congr 2; omega)⟩ rfl dX2_bounds_29
  · have c_2 := c_2
    refine xr_iload_n E hl 1 rfl dX2_bounds_5 rfl ?_
    refine xr_iconst E dX2_bounds_6 ?_
    refine xr_bipush E dX2_bounds_7 (by decide) ?_
    refine xk_ri E hX [] rfl (xv_SN (As := [.int (iI v), .int (iI 0), .int (iI 24)]) E hX hl (c_X5_within l D y z _ v 0 24 ⟨by omega, by omega⟩ ⟨by omega, by omega⟩ ⟨by omega, by omega⟩) E.2.2.2.2.2.2.1.2.2.2.2.1 st_X5_within in_X5 co_X5_within 3 (by decide) ⟨rfl, rfl⟩ ⟨Nat.le_of_ble_eq_true rfl, Nat.le_of_ble_eq_true rfl⟩ [] rfl rfl rfl rfl (Nat.le_of_ble_eq_true rfl) dX2_bounds_9 ⟨Nat.le_refl _, Nat.le_refl _⟩) (fun r_9 H locs hw hX => ?_)
    subst hw
    refine xr_if_neB (tgt := 18) E dX2_bounds_12 (by decide) (fun c_12 => ?_) (fun c_12 => ?_)
    · have c_12 := of_decide_eq_true c_12
      refine xr_aload_n E hl 0 rfl dX2_bounds_18 rfl ?_
      refine xr_get E hX 0 rfl rfl ly_X2 5 (by decide) fl_X2_28 rfl dX2_bounds_19 ?_
      refine xr_istore_n (lv' := [(2, .int (iI li)), (0, .ref hF), (1, .int (iI v))]) E hl dX2_bounds_22 rfl (by decide) rfl (fun ls hl => ?_)
      refine xr_aload_n E hl 1 rfl dX2_bounds_23 rfl ?_
      refine xr_iload_n E hl 2 rfl dX2_bounds_24 rfl ?_
      refine xr_put (W1 := (W_F y hF a_ind a_tot a_pri ind tot pri q fr v sh)) E hX 0 rfl rfl ly_X2 tyX2_ok nmX2 5 (by decide) fl_X2_28 rfl rfl rfl (Nat.le_of_ble_eq_true rfl) rfl dX2_bounds_25 (fun H locs hX => ?_)
      refine xr_iload_n E hl 0 rfl dX2_bounds_28 rfl ?_
      exact xr_iret E hX hQ v hr ⟨by unfold xBo_r; (repeat' split) <;> first | (exfalso; omega) | rfl | (congr 1; omega) | (congr 2; omega), by unfold xBo_l; (repeat' split) <;> first | (exfalso; omega) | rfl | (congr 1; omega) | (congr 2; omega)⟩ rfl dX2_bounds_29
    · have c_12 := of_decide_eq_false c_12
      refine xr_bipush E dX2_bounds_15 (by decide) ?_
      exact xr_iret E hX hQ li hr ⟨by unfold xBo_r; (repeat' split) <;> first | (exfalso; omega) | rfl | (congr 1; omega) | (congr 2; omega), by unfold xBo_l; (repeat' split) <;> first | (exfalso; omega) | rfl | (congr 1; omega) | (congr 2; omega)⟩ rfl dX2_bounds_17
def xSh_r (v sh : Int) : Int := if 0 ≤ v ∧ v ≤ 1 then sh else -2
def xSh_s (v sh : Int) : Int := if 0 ≤ v ∧ v ≤ 1 then v else sh
abbrev rm_X2_shapes : Room := { frames := 2, cells := 0, slots := 0, locals := 42 }
set_option maxHeartbeats 4000000 in
set_option maxRecDepth 100000 in
theorem c_X2_shapes (l : Launch) (D : va_G) (y : CY) (z sz : Nat) (hF a_ind a_tot a_pri : Nat) (ind : Int → Int) (tot : Int → Int) (pri : Int → Int) (q : Int) (fr : Int) (li : Int) (sh : Int) (v : Int) (hv : sm v) (H_I : FI ind tot pri q fr li sh) : Met l yX2_shapes (Cond.code yX2_shapes cX2_shapes 3 (some .int) :: TW) rm_X2_shapes (va_Pc [.ref hF, .int (iI v)] (PX D y z (W_F y hF a_ind a_tot a_pri ind tot pri q fr li sh) sz)) (va_Qi (fun (r : Int32) (uu : (Int)) => r = iI (xSh_r v sh) ∧ uu = xSh_s v sh) (fun uu t => BX D (W_F y hF a_ind a_tot a_pri ind tot pri q fr li uu) (va_A (W_F y hF a_ind a_tot a_pri ind tot pri q fr li sh) sz) t) (va_A (W_F y hF a_ind a_tot a_pri ind tot pri q fr li sh) sz)) 0 0 (va_A (W_F y hF a_ind a_tot a_pri ind tot pri q fr li sh) sz) := by
  refine xm_i (by decide) (Nat.le_of_ble_eq_true rfl) (fun p e s m args below meth cX ls A Q E hr hnm hX hl hQ => ?_)
  have hl : lv_has ls 3 [(0, .ref hF), (1, .int (iI v))] := hl
  have hq := H_I.q
  have hfr := H_I.fr
  have hli := H_I.li
  have hsh := H_I.sh
  refine xr_iload_n E hl 1 rfl dX2_shapes_0 rfl ?_
  refine xk_ri E hX [] rfl (xv_SN (As := [.int (iI v)]) E hX hl (c_X5_isForm l D y z _ v ⟨by omega, by omega⟩) E.2.2.2.2.2.2.1.2.2.2.2.2.2.1 st_X5_isForm in_X5 co_X5_isForm 1 (by decide) ⟨rfl, rfl⟩ ⟨Nat.le_of_ble_eq_true rfl, Nat.le_of_ble_eq_true rfl⟩ [] rfl rfl rfl rfl (Nat.le_of_ble_eq_true rfl) dX2_shapes_1 ⟨Nat.le_refl _, Nat.le_refl _⟩) (fun r_1 H locs hw hX => ?_)
  subst hw
  refine xr_if_neB (tgt := 10) E dX2_shapes_4 (by decide) (fun c_4 => ?_) (fun c_4 => ?_)
  · have c_4 := of_decide_eq_true c_4
    refine xr_aload_n E hl 0 rfl dX2_shapes_10 rfl ?_
    refine xr_get E hX 0 rfl rfl ly_X2 6 (by decide) fl_X2_31 rfl dX2_shapes_11 ?_
    refine xr_istore_n (lv' := [(2, .int (iI sh)), (0, .ref hF), (1, .int (iI v))]) E hl dX2_shapes_14 rfl (by decide) rfl (fun ls hl => ?_)
    refine xr_aload_n E hl 1 rfl dX2_shapes_15 rfl ?_
    refine xr_iload_n E hl 2 rfl dX2_shapes_16 rfl ?_
    refine xr_put (W1 := (W_F y hF a_ind a_tot a_pri ind tot pri q fr li v)) E hX 0 rfl rfl ly_X2 tyX2_ok nmX2 6 (by decide) fl_X2_31 rfl rfl rfl (Nat.le_of_ble_eq_true rfl) rfl dX2_shapes_17 (fun H locs hX => ?_)
    refine xr_iload_n E hl 0 rfl dX2_shapes_20 rfl ?_
    exact xr_iret E hX hQ v hr ⟨by unfold xSh_r; (repeat' split) <;> first | (exfalso; omega) | rfl | (congr 1; omega) | (congr 2; omega), by unfold xSh_s; (repeat' split) <;> first | (exfalso; omega) | rfl | (congr 1; omega) | (congr 2; omega)⟩ rfl dX2_shapes_21
  · have c_4 := of_decide_eq_false c_4
    refine xr_bipush E dX2_shapes_7 (by decide) ?_
    exact xr_iret E hX hQ sh hr ⟨by unfold xSh_r; (repeat' split) <;> first | (exfalso; omega) | rfl | (congr 1; omega) | (congr 2; omega), by unfold xSh_s; (repeat' split) <;> first | (exfalso; omega) | rfl | (congr 1; omega) | (congr 2; omega)⟩ rfl dX2_shapes_9
abbrev rm_X2_printedOnes : Room := { frames := 1, cells := 0, slots := 0, locals := 21 }
set_option maxHeartbeats 4000000 in
set_option maxRecDepth 100000 in
theorem c_X2_printedOnes (l : Launch) (D : va_G) (y : CY) (z sz : Nat) (hF a_ind a_tot a_pri : Nat) (ind : Int → Int) (tot : Int → Int) (pri : Int → Int) (q : Int) (fr : Int) (li : Int) (sh : Int) (H_I : FI ind tot pri q fr li sh) : Met l yX2_printedOnes (Cond.code yX2_printedOnes cX2_printedOnes 3 (some .int) :: TW) rm_X2_printedOnes (va_Pc [.ref hF] (PX D y z (W_F y hF a_ind a_tot a_pri ind tot pri q fr li sh) sz)) (va_Qi (fun (r : Int32) (uu : Unit) => r = iI (xOnes pri q)) (fun uu t => BX D (W_F y hF a_ind a_tot a_pri ind tot pri q fr li sh) (va_A (W_F y hF a_ind a_tot a_pri ind tot pri q fr li sh) sz) t) (va_A (W_F y hF a_ind a_tot a_pri ind tot pri q fr li sh) sz)) 0 0 (va_A (W_F y hF a_ind a_tot a_pri ind tot pri q fr li sh) sz) := by
  refine xm_i (by decide) (Nat.le_of_ble_eq_true rfl) (fun p e s m args below meth cX ls A Q E hr hnm hX hl hQ => ?_)
  have hl : lv_has ls 3 [(0, .ref hF)] := hl
  have hq := H_I.q
  have hfr := H_I.fr
  have hli := H_I.li
  have hsh := H_I.sh
  refine xr_iconst E dX2_printedOnes_0 ?_
  refine xr_istore_n (lv' := [(1, .int (iI 0)), (0, .ref hF)]) E hl dX2_printedOnes_1 rfl (by decide) rfl (fun ls hl => ?_)
  refine xr_iconst E dX2_printedOnes_2 ?_
  refine xr_istore_n (lv' := [(2, .int (iI 0)), (1, .int (iI 0)), (0, .ref hF)]) E hl dX2_printedOnes_3 rfl (by decide) rfl (fun ls hl => ?_)
  have L_4_1 : ∀ (nmu : Nat) (n : Nat) (acc : Int) (t : Int), q.toNat - n < nmu → (t = n) → (acc = sumI (pr1 pri) 0 n) → ((n : Int) ≤ q) → ∀ (H : Heap) (locs : List Loc) (ls : Array Slot), XW D A s.heap (W_F y hF a_ind a_tot a_pri ind tot pri q fr li sh) H locs → lv_has ls 3 [(0, .ref hF), (1, .int (iI acc)), (2, .int (iI t))] → W p l e rm_X2_printedOnes s m args below meth cX H locs 0 0 Q (F0 m 4 ls []) := by
    intro nmu
    induction nmu with
    | zero =>
      intro n acc t hmu
      exact absurd hmu (Nat.not_lt_zero _)
    | succ nmu ih =>
      intro n acc t hmu ht ha hn H locs ls hX hl
      have ih_4_1 := ih
      clear ih
      refine xr_iload_n E hl 2 rfl dX2_printedOnes_4 rfl ?_
      refine xr_aload_n E hl 0 rfl dX2_printedOnes_5 rfl ?_
      refine xr_get E hX 0 rfl rfl ly_X2 3 (by decide) fl_X2_21 rfl dX2_printedOnes_6 ?_
      refine xr_icmp_ge (tgt := 34) E dX2_printedOnes_9 (by decide) ⟨by omega, by omega⟩ ⟨by omega, by omega⟩ (fun c_9 => ?_) (fun c_9 => ?_)
      · have c_9 := c_9
        refine xr_iload_n E hl 1 rfl dX2_printedOnes_34 rfl ?_
        exact xr_iret E hX hQ () hr (by rw [ha, xOnes, show q.toNat = n by omega]) rfl dX2_printedOnes_35
      · have c_9 := c_9
        refine xr_iload_n E hl 1 rfl dX2_printedOnes_12 rfl ?_
        refine xr_aload_n E hl 0 rfl dX2_printedOnes_13 rfl ?_
        refine xr_iload_n E hl 2 rfl dX2_printedOnes_14 rfl ?_
        refine xk_ri E hX [0, 1, 2, 3] rfl (xv_V (As := [.int (iI t)]) E hX hl (c_X2_isPrinted l D y z _ hF a_ind a_tot a_pri ind tot pri q fr li sh t (by omega) (by have h := H_I.pri (t := t) (by omega) (by omega); exact ⟨by omega, by omega⟩)) ml_X2_51 im_X2_isPrinted se_X2_isPrinted in_X2 co_X2_isPrinted 1 (by decide) ⟨rfl, rfl⟩ ⟨Nat.le_of_ble_eq_true rfl, Nat.le_of_ble_eq_true rfl⟩ [0, 1, 2, 3] rfl rfl 0 rfl rfl rfl rfl rfl (Nat.le_of_ble_eq_true rfl) dX2_printedOnes_15 ⟨Nat.le_refl _, Nat.le_refl _⟩) (fun r_15 H locs hw hX => ?_)
        subst hw
        refine xr_if_eqB (tgt := 25) E dX2_printedOnes_18 (by decide) (fun c_18 => ?_) (fun c_18 => ?_)
        · have c_18 := of_decide_eq_false c_18
          refine xr_iconst E dX2_printedOnes_25 ?_
          refine xr_iadd E dX2_printedOnes_26 ?_
          refine xr_istore_n (lv' := [(1, .int (iI (acc + 0))), (0, .ref hF), (2, .int (iI t))]) E hl dX2_printedOnes_27 rfl (by decide) rfl (fun ls hl => ?_)
          refine xr_iinc (k := 2) (lv' := [(2, .int (iI (t + 1))), (1, .int (iI (acc + 0))), (0, .ref hF)]) E hl rfl dX2_printedOnes_28 (by decide) rfl (fun ls hl => ?_)
          refine xr_goto (tgt := 4) E dX2_printedOnes_31 (by decide) ?_
          exact ih_4_1 (n + 1) (acc + 0) (t + 1) (by omega) (by omega) (by rw [sumI_s, ← ha, show (0 : Int) + (n : Int) = t by omega]; unfold pr1; split <;> omega) (by omega) _ _ _ hX (lv_sub hl [2, 1, 0] rfl)
        · have c_18 := of_decide_eq_true c_18
          refine xr_iconst E dX2_printedOnes_21 ?_
          refine xr_goto (tgt := 26) E dX2_printedOnes_22 (by decide) ?_
          refine xr_iadd E dX2_printedOnes_26 ?_
          refine xr_istore_n (lv' := [(1, .int (iI (acc + 1))), (0, .ref hF), (2, .int (iI t))]) E hl dX2_printedOnes_27 rfl (by decide) rfl (fun ls hl => ?_)
          refine xr_iinc (k := 2) (lv' := [(2, .int (iI (t + 1))), (1, .int (iI (acc + 1))), (0, .ref hF)]) E hl rfl dX2_printedOnes_28 (by decide) rfl (fun ls hl => ?_)
          refine xr_goto (tgt := 4) E dX2_printedOnes_31 (by decide) ?_
          exact ih_4_1 (n + 1) (acc + 1) (t + 1) (by omega) (by omega) (by rw [sumI_s, ← ha, show (0 : Int) + (n : Int) = t by omega]; unfold pr1; split <;> omega) (by omega) _ _ _ hX (lv_sub hl [2, 1, 0] rfl)
  exact L_4_1 _ 0 0 0 (Nat.lt_succ_self _) (by omega) (sumI_0 _ _).symm (by omega) _ _ _ hX (lv_sub hl [2, 1, 0] rfl)
abbrev rm_X2_unprints : Room := { frames := 2, cells := 0, slots := 0, locals := 43 }
set_option maxHeartbeats 4000000 in
set_option maxRecDepth 100000 in
theorem c_X2_unprints (l : Launch) (D : va_G) (y : CY) (z sz : Nat) (hF a_ind a_tot a_pri : Nat) (ind : Int → Int) (tot : Int → Int) (pri : Int → Int) (q : Int) (fr : Int) (li : Int) (sh : Int) (H_I : FI ind tot pri q fr li sh) : Met l yX2_unprints (Cond.code yX2_unprints cX2_unprints 3 (some .int) :: TW) rm_X2_unprints (va_Pc [.ref hF] (PX D y z (W_F y hF a_ind a_tot a_pri ind tot pri q fr li sh) sz)) (va_Qi (fun (r : Int32) (uu : (Int → Int) × (Int)) => r = iI (xOnes pri q) ∧ uu = (fillI pri (-1) 12, 0)) (fun uu t => BX D (W_F y hF a_ind a_tot a_pri ind tot uu.1 q uu.2 li sh) (va_A (W_F y hF a_ind a_tot a_pri ind tot pri q fr li sh) sz) t) (va_A (W_F y hF a_ind a_tot a_pri ind tot pri q fr li sh) sz)) 0 0 (va_A (W_F y hF a_ind a_tot a_pri ind tot pri q fr li sh) sz) := by
  refine xm_i (by decide) (Nat.le_of_ble_eq_true rfl) (fun p e s m args below meth cX ls A Q E hr hnm hX hl hQ => ?_)
  have hl : lv_has ls 3 [(0, .ref hF)] := hl
  have hq := H_I.q
  have hfr := H_I.fr
  have hli := H_I.li
  have hsh := H_I.sh
  refine xr_aload_n E hl 0 rfl dX2_unprints_0 rfl ?_
  refine xk_ri E hX [0, 1, 2, 3] rfl (xv_V (As := []) E hX hl (c_X2_printedOnes l D y z _ hF a_ind a_tot a_pri ind tot pri q fr li sh H_I) ml_X2_63 im_X2_printedOnes se_X2_printedOnes in_X2 co_X2_printedOnes 0 (by decide) ⟨rfl, rfl⟩ ⟨Nat.le_of_ble_eq_true rfl, Nat.le_of_ble_eq_true rfl⟩ [0, 1, 2, 3] rfl rfl 0 rfl rfl rfl rfl rfl (Nat.le_of_ble_eq_true rfl) dX2_unprints_1 ⟨Nat.le_refl _, Nat.le_refl _⟩) (fun r_1 H locs hw hX => ?_)
  subst hw
  refine xr_istore_n (lv' := [(1, .int (iI (xOnes pri q))), (0, .ref hF)]) E hl dX2_unprints_4 rfl (by decide) rfl (fun ls hl => ?_)
  refine xr_iconst E dX2_unprints_5 ?_
  refine xr_istore_n (lv' := [(2, .int (iI 0)), (1, .int (iI (xOnes pri q))), (0, .ref hF)]) E hl dX2_unprints_6 rfl (by decide) rfl (fun ls hl => ?_)
  have L_7_1 : ∀ (nmu : Nat) (f : Int → Int) (t : Int), (12 - t).toNat < nmu → (0 ≤ t ∧ t ≤ 12) → (f = fillI pri (-1) t) → ∀ (H : Heap) (locs : List Loc) (ls : Array Slot), XW D A s.heap (W_F y hF a_ind a_tot a_pri ind tot f q fr li sh) H locs → lv_has ls 3 [(0, .ref hF), (1, .int (iI (xOnes pri q))), (2, .int (iI t))] → W p l e rm_X2_unprints s m args below meth cX H locs 0 0 Q (F0 m 7 ls []) := by
    intro nmu
    induction nmu with
    | zero =>
      intro f t hmu
      exact absurd hmu (Nat.not_lt_zero _)
    | succ nmu ih =>
      intro f t hmu ht hf H locs ls hX hl
      have ih_7_1 := ih
      clear ih
      refine xr_iload_n E hl 2 rfl dX2_unprints_7 rfl ?_
      refine xr_bipush E dX2_unprints_8 (by decide) ?_
      refine xr_icmp_ge (tgt := 26) E dX2_unprints_10 (by decide) ⟨by omega, by omega⟩ (by decide) (fun c_10 => ?_) (fun c_10 => ?_)
      · have c_10 := c_10
        refine xr_aload_n E hl 0 rfl dX2_unprints_26 rfl ?_
        refine xr_iconst E dX2_unprints_27 ?_
        refine xr_put (W1 := (W_F y hF a_ind a_tot a_pri ind tot f q 0 li sh)) E hX 0 rfl rfl ly_X2 tyX2_ok nmX2 4 (by decide) fl_X2_25 rfl rfl rfl (Nat.le_of_ble_eq_true rfl) rfl dX2_unprints_28 (fun H locs hX => ?_)
        refine xr_iload_n E hl 1 rfl dX2_unprints_31 rfl ?_
        exact xr_iret E hX hQ (f, 0) hr ⟨rfl, by rw [hf, show t = 12 by omega]⟩ rfl dX2_unprints_32
      · have c_10 := c_10
        refine xr_aload_n E hl 0 rfl dX2_unprints_13 rfl ?_
        refine xr_get E hX 0 rfl rfl ly_X2 2 (by decide) fl_X2_18 rfl dX2_unprints_14 ?_
        refine xr_iload_n E hl 2 rfl dX2_unprints_17 rfl ?_
        refine xr_iconst E dX2_unprints_18 ?_
        refine xr_iast (W1 := (W_F y hF a_ind a_tot a_pri ind tot (up f t (-1)) q fr li sh)) E hX 3 rfl (by omega) (by omega) (by decide) rfl dX2_unprints_19 (fun H locs hX => ?_)
        refine xr_iinc (k := 2) (lv' := [(2, .int (iI (t + 1))), (0, .ref hF), (1, .int (iI (xOnes pri q)))]) E hl rfl dX2_unprints_20 (by decide) rfl (fun ls hl => ?_)
        refine xr_goto (tgt := 7) E dX2_unprints_23 (by decide) ?_
        exact ih_7_1 (up f t (-1)) (t + 1) (by omega) (by omega) (by rw [hf]; exact fillI_up _ _ _ (by omega)) _ _ _ hX (lv_sub hl [1, 2, 0] rfl)
  exact L_7_1 _ pri 0 (Nat.lt_succ_self _) (by omega) (fillI_0 _ _).symm _ _ _ hX (lv_sub hl [2, 1, 0] rfl)
abbrev rm_X2_yearsTold : Room := { frames := 0, cells := 0, slots := 0, locals := 0 }
set_option maxHeartbeats 4000000 in
set_option maxRecDepth 100000 in
theorem c_X2_yearsTold (l : Launch) (D : va_G) (y : CY) (z sz : Nat) (hF a_ind a_tot a_pri : Nat) (ind : Int → Int) (tot : Int → Int) (pri : Int → Int) (q : Int) (fr : Int) (li : Int) (sh : Int) (H_I : FI ind tot pri q fr li sh) : Met l yX2_yearsTold (Cond.code yX2_yearsTold cX2_yearsTold 3 (some .int) :: TW) rm_X2_yearsTold (va_Pc [.ref hF] (PX D y z (W_F y hF a_ind a_tot a_pri ind tot pri q fr li sh) sz)) (va_Qi (fun (r : Int32) (uu : Unit) => r = iI (xYears tot)) (fun uu t => BX D (W_F y hF a_ind a_tot a_pri ind tot pri q fr li sh) (va_A (W_F y hF a_ind a_tot a_pri ind tot pri q fr li sh) sz) t) (va_A (W_F y hF a_ind a_tot a_pri ind tot pri q fr li sh) sz)) 0 0 (va_A (W_F y hF a_ind a_tot a_pri ind tot pri q fr li sh) sz) := by
  refine xm_i (by decide) (Nat.le_of_ble_eq_true rfl) (fun p e s m args below meth cX ls A Q E hr hnm hX hl hQ => ?_)
  have hl : lv_has ls 3 [(0, .ref hF)] := hl
  have hq := H_I.q
  have hfr := H_I.fr
  have hli := H_I.li
  have hsh := H_I.sh
  refine xr_iconst E dX2_yearsTold_0 ?_
  refine xr_istore_n (lv' := [(1, .int (iI 0)), (0, .ref hF)]) E hl dX2_yearsTold_1 rfl (by decide) rfl (fun ls hl => ?_)
  refine xr_iconst E dX2_yearsTold_2 ?_
  refine xr_istore_n (lv' := [(2, .int (iI 0)), (1, .int (iI 0)), (0, .ref hF)]) E hl dX2_yearsTold_3 rfl (by decide) rfl (fun ls hl => ?_)
  have L_4_1 : ∀ (nmu : Nat) (n : Nat) (acc : Int) (t : Int), 3 - n < nmu → (t = n) → (acc = sumI (pr1 tot) 0 n) → (n ≤ 3) → ∀ (H : Heap) (locs : List Loc) (ls : Array Slot), XW D A s.heap (W_F y hF a_ind a_tot a_pri ind tot pri q fr li sh) H locs → lv_has ls 3 [(0, .ref hF), (1, .int (iI acc)), (2, .int (iI t))] → W p l e rm_X2_yearsTold s m args below meth cX H locs 0 0 Q (F0 m 4 ls []) := by
    intro nmu
    induction nmu with
    | zero =>
      intro n acc t hmu
      exact absurd hmu (Nat.not_lt_zero _)
    | succ nmu ih =>
      intro n acc t hmu ht ha hn H locs ls hX hl
      have ih_4_1 := ih
      clear ih
      refine xr_iload_n E hl 2 rfl dX2_yearsTold_4 rfl ?_
      refine xr_iconst E dX2_yearsTold_5 ?_
      refine xr_icmp_ge (tgt := 33) E dX2_yearsTold_6 (by decide) ⟨by omega, by omega⟩ (by decide) (fun c_6 => ?_) (fun c_6 => ?_)
      · have c_6 := c_6
        refine xr_iload_n E hl 1 rfl dX2_yearsTold_33 rfl ?_
        exact xr_iret E hX hQ () hr (by rw [ha, xYears, show n = 3 by omega]) rfl dX2_yearsTold_34
      · have c_6 := c_6
        have htt := H_I.tot (v := t) (by omega) (by omega)
        refine xr_iload_n E hl 1 rfl dX2_yearsTold_9 rfl ?_
        refine xr_aload_n E hl 0 rfl dX2_yearsTold_10 rfl ?_
        refine xr_get E hX 0 rfl rfl ly_X2 1 (by decide) fl_X2_15 rfl dX2_yearsTold_11 ?_
        refine xr_iload_n E hl 2 rfl dX2_yearsTold_14 rfl ?_
        refine xr_iald E hX 2 rfl (by omega) (by omega) (by decide) dX2_yearsTold_15 ?_
        refine xr_iconst E dX2_yearsTold_16 ?_
        refine xr_icmp_eq (tgt := 24) E dX2_yearsTold_17 (by decide) ⟨by omega, by omega⟩ (by decide) (fun c_17 => ?_) (fun c_17 => ?_)
        · have c_17 := c_17
          refine xr_iconst E dX2_yearsTold_24 ?_
          refine xr_iadd E dX2_yearsTold_25 ?_
          refine xr_istore_n (lv' := [(1, .int (iI (acc + 0))), (0, .ref hF), (2, .int (iI t))]) E hl dX2_yearsTold_26 rfl (by decide) rfl (fun ls hl => ?_)
          refine xr_iinc (k := 2) (lv' := [(2, .int (iI (t + 1))), (1, .int (iI (acc + 0))), (0, .ref hF)]) E hl rfl dX2_yearsTold_27 (by decide) rfl (fun ls hl => ?_)
          refine xr_goto (tgt := 4) E dX2_yearsTold_30 (by decide) ?_
          exact ih_4_1 (n + 1) (acc + 0) (t + 1) (by omega) (by omega) (by rw [sumI_s, ← ha, show (0 : Int) + (n : Int) = t by omega]; unfold pr1; split <;> omega) (by omega) _ _ _ hX (lv_sub hl [2, 1, 0] rfl)
        · have c_17 := c_17
          refine xr_iconst E dX2_yearsTold_20 ?_
          refine xr_goto (tgt := 25) E dX2_yearsTold_21 (by decide) ?_
          refine xr_iadd E dX2_yearsTold_25 ?_
          refine xr_istore_n (lv' := [(1, .int (iI (acc + 1))), (0, .ref hF), (2, .int (iI t))]) E hl dX2_yearsTold_26 rfl (by decide) rfl (fun ls hl => ?_)
          refine xr_iinc (k := 2) (lv' := [(2, .int (iI (t + 1))), (1, .int (iI (acc + 1))), (0, .ref hF)]) E hl rfl dX2_yearsTold_27 (by decide) rfl (fun ls hl => ?_)
          refine xr_goto (tgt := 4) E dX2_yearsTold_30 (by decide) ?_
          exact ih_4_1 (n + 1) (acc + 1) (t + 1) (by omega) (by omega) (by rw [sumI_s, ← ha, show (0 : Int) + (n : Int) = t by omega]; unfold pr1; split <;> omega) (by omega) _ _ _ hX (lv_sub hl [2, 1, 0] rfl)
  exact L_4_1 _ 0 0 0 (Nat.lt_succ_self _) (by omega) (sumI_0 _ _).symm (by omega) _ _ _ hX (lv_sub hl [2, 1, 0] rfl)
abbrev rm_X2_indicated : Room := { frames := 0, cells := 0, slots := 0, locals := 0 }
set_option maxHeartbeats 4000000 in
set_option maxRecDepth 100000 in
theorem c_X2_indicated (l : Launch) (D : va_G) (y : CY) (z sz : Nat) (hF a_ind a_tot a_pri : Nat) (ind : Int → Int) (tot : Int → Int) (pri : Int → Int) (q : Int) (fr : Int) (li : Int) (sh : Int) (v : Int) (H_I : FI ind tot pri q fr li sh) (hv : 0 ≤ v ∧ v < 3) : Met l yX2_indicated (Cond.code yX2_indicated cX2_indicated 4 (some .int) :: TW) rm_X2_indicated (va_Pc [.ref hF, .int (iI v)] (PX D y z (W_F y hF a_ind a_tot a_pri ind tot pri q fr li sh) sz)) (va_Qi (fun (r : Int32) (uu : Unit) => r = iI (xInd ind q v)) (fun uu t => BX D (W_F y hF a_ind a_tot a_pri ind tot pri q fr li sh) (va_A (W_F y hF a_ind a_tot a_pri ind tot pri q fr li sh) sz) t) (va_A (W_F y hF a_ind a_tot a_pri ind tot pri q fr li sh) sz)) 0 0 (va_A (W_F y hF a_ind a_tot a_pri ind tot pri q fr li sh) sz) := by
  refine xm_i (by decide) (Nat.le_of_ble_eq_true rfl) (fun p e s m args below meth cX ls A Q E hr hnm hX hl hQ => ?_)
  have hl : lv_has ls 4 [(0, .ref hF), (1, .int (iI v))] := hl
  have hq := H_I.q
  have hfr := H_I.fr
  have hli := H_I.li
  have hsh := H_I.sh
  refine xr_iconst E dX2_indicated_0 ?_
  refine xr_istore_n (lv' := [(2, .int (iI 0)), (0, .ref hF), (1, .int (iI v))]) E hl dX2_indicated_1 rfl (by decide) rfl (fun ls hl => ?_)
  refine xr_iconst E dX2_indicated_2 ?_
  refine xr_iload_n E hl 2 rfl dX2_indicated_3 rfl ?_
  refine xr_imul E dX2_indicated_4 ?_
  refine xr_istore_n (lv' := [(3, .int (iI (4 * v))), (2, .int (iI 0)), (0, .ref hF), (1, .int (iI v))]) E hl dX2_indicated_5 rfl (by decide) rfl (fun ls hl => ?_)
  have L_6_1 : ∀ (nmu : Nat) (n : Nat) (acc : Int) (t : Int), 4 - n < nmu → (t = 4 * v + n) → (acc = sumI ind (4 * v) n) → (n ≤ 4 ∧ (n = 0 ∨ 4 * v + n ≤ q)) → ∀ (H : Heap) (locs : List Loc) (ls : Array Slot), XW D A s.heap (W_F y hF a_ind a_tot a_pri ind tot pri q fr li sh) H locs → lv_has ls 4 [(0, .ref hF), (1, .int (iI v)), (2, .int (iI acc)), (3, .int (iI t))] → W p l e rm_X2_indicated s m args below meth cX H locs 0 0 Q (F0 m 6 ls []) := by
    intro nmu
    induction nmu with
    | zero =>
      intro n acc t hmu
      exact absurd hmu (Nat.not_lt_zero _)
    | succ nmu ih =>
      intro n acc t hmu ht ha hn H locs ls hX hl
      have ih_6_1 := ih
      clear ih
      refine xr_iload_n E hl 3 rfl dX2_indicated_6 rfl ?_
      refine xr_iconst E dX2_indicated_7 ?_
      refine xr_iload_n E hl 1 rfl dX2_indicated_8 rfl ?_
      refine xr_iconst E dX2_indicated_9 ?_
      refine xr_iadd E dX2_indicated_10 ?_
      refine xr_imul E dX2_indicated_11 ?_
      refine xr_icmp_ge (tgt := 38) E dX2_indicated_12 (by decide) ⟨by omega, by omega⟩ ⟨by omega, by omega⟩ (fun c_12 => ?_) (fun c_12 => ?_)
      · have c_12 := c_12
        refine xr_iload_n E hl 2 rfl dX2_indicated_38 rfl ?_
        exact xr_iret E hX hQ () hr (by rw [ha, xInd, show yN q v = n by unfold yN; split <;> omega]) rfl dX2_indicated_39
      · have c_12 := c_12
        refine xr_iload_n E hl 3 rfl dX2_indicated_15 rfl ?_
        refine xr_aload_n E hl 0 rfl dX2_indicated_16 rfl ?_
        refine xr_get E hX 0 rfl rfl ly_X2 3 (by decide) fl_X2_21 rfl dX2_indicated_17 ?_
        refine xr_icmp_ge (tgt := 38) E dX2_indicated_20 (by decide) ⟨by omega, by omega⟩ ⟨by omega, by omega⟩ (fun c_20 => ?_) (fun c_20 => ?_)
        · have c_20 := c_20
          refine xr_iload_n E hl 2 rfl dX2_indicated_38 rfl ?_
          exact xr_iret E hX hQ () hr (by rw [ha, xInd, show yN q v = n by unfold yN; split <;> omega]) rfl dX2_indicated_39
        · have c_20 := c_20
          refine xr_iload_n E hl 2 rfl dX2_indicated_23 rfl ?_
          refine xr_aload_n E hl 0 rfl dX2_indicated_24 rfl ?_
          refine xr_get E hX 0 rfl rfl ly_X2 0 (by decide) fl_X2_9 rfl dX2_indicated_25 ?_
          refine xr_iload_n E hl 3 rfl dX2_indicated_28 rfl ?_
          refine xr_iald E hX 1 rfl (by omega) (by omega) (by decide) dX2_indicated_29 ?_
          refine xr_iadd E dX2_indicated_30 ?_
          refine xr_istore_n (lv' := [(2, .int (iI (acc + (ind t)))), (0, .ref hF), (1, .int (iI v)), (3, .int (iI t))]) E hl dX2_indicated_31 rfl (by decide) rfl (fun ls hl => ?_)
          refine xr_iinc (k := 3) (lv' := [(3, .int (iI (t + 1))), (2, .int (iI (acc + (ind t)))), (0, .ref hF), (1, .int (iI v))]) E hl rfl dX2_indicated_32 (by decide) rfl (fun ls hl => ?_)
          refine xr_goto (tgt := 6) E dX2_indicated_35 (by decide) ?_
          exact ih_6_1 (n + 1) (acc + (ind t)) (t + 1) (by omega) (by omega) (by rw [sumI_s, ← ha, ← ht]) (by omega) _ _ _ hX (lv_sub hl [2, 3, 1, 0] rfl)
  exact L_6_1 _ 0 0 (4 * v) (Nat.lt_succ_self _) (by omega) (sumI_0 _ _).symm (by omega) _ _ _ hX (lv_sub hl [2, 3, 1, 0] rfl)
abbrev rm_X2_gap : Room := { frames := 1, cells := 0, slots := 0, locals := 23 }
set_option maxHeartbeats 4000000 in
set_option maxRecDepth 100000 in
theorem c_X2_gap (l : Launch) (D : va_G) (y : CY) (z sz : Nat) (hF a_ind a_tot a_pri : Nat) (ind : Int → Int) (tot : Int → Int) (pri : Int → Int) (q : Int) (fr : Int) (li : Int) (sh : Int) (v : Int) (H_I : FI ind tot pri q fr li sh) (hv : 0 ≤ v ∧ v < 3) : Met l yX2_gap (Cond.code yX2_gap cX2_gap 2 (some .int) :: TW) rm_X2_gap (va_Pc [.ref hF, .int (iI v)] (PX D y z (W_F y hF a_ind a_tot a_pri ind tot pri q fr li sh) sz)) (va_Qi (fun (r : Int32) (uu : Unit) => r = iI (xGap ind tot q v)) (fun uu t => BX D (W_F y hF a_ind a_tot a_pri ind tot pri q fr li sh) (va_A (W_F y hF a_ind a_tot a_pri ind tot pri q fr li sh) sz) t) (va_A (W_F y hF a_ind a_tot a_pri ind tot pri q fr li sh) sz)) 0 0 (va_A (W_F y hF a_ind a_tot a_pri ind tot pri q fr li sh) sz) := by
  refine xm_i (by decide) (Nat.le_of_ble_eq_true rfl) (fun p e s m args below meth cX ls A Q E hr hnm hX hl hQ => ?_)
  have hl : lv_has ls 2 [(0, .ref hF), (1, .int (iI v))] := hl
  have hq := H_I.q
  have hfr := H_I.fr
  have hli := H_I.li
  have hsh := H_I.sh
  refine xr_aload_n E hl 0 rfl dX2_gap_0 rfl ?_
  refine xr_get E hX 0 rfl rfl ly_X2 1 (by decide) fl_X2_15 rfl dX2_gap_1 ?_
  refine xr_iload_n E hl 1 rfl dX2_gap_4 rfl ?_
  refine xr_iald E hX 2 rfl (by omega) (by omega) (by decide) dX2_gap_5 ?_
  refine xr_aload_n E hl 0 rfl dX2_gap_6 rfl ?_
  refine xr_iload_n E hl 1 rfl dX2_gap_7 rfl ?_
  refine xk_ri E hX [0, 1, 2, 3] rfl (xv_V (As := [.int (iI v)]) E hX hl (c_X2_indicated l D y z _ hF a_ind a_tot a_pri ind tot pri q fr li sh v H_I (by omega)) ml_X2_70 im_X2_indicated se_X2_indicated in_X2 co_X2_indicated 1 (by decide) ⟨rfl, rfl⟩ ⟨Nat.le_of_ble_eq_true rfl, Nat.le_of_ble_eq_true rfl⟩ [0, 1, 2, 3] rfl rfl 0 rfl rfl rfl rfl rfl (Nat.le_of_ble_eq_true rfl) dX2_gap_8 ⟨Nat.le_refl _, Nat.le_refl _⟩) (fun r_8 H locs hw hX => ?_)
  subst hw
  refine xr_isub E dX2_gap_11 ?_
  exact xr_iret E hX hQ () hr rfl rfl dX2_gap_12
def xOf (ind pri : Int → Int) (fr t w : Int) : Int := if w = 0 then ind t else if w = 1 then pri t else if w = 2 then bAnd (bShr fr t) 1 else t / 4
abbrev rm_X2_toldOfQuarter : Room := { frames := 1, cells := 0, slots := 0, locals := 21 }
set_option maxHeartbeats 4000000 in
set_option maxRecDepth 100000 in
theorem c_X2_toldOfQuarter (l : Launch) (D : va_G) (y : CY) (z sz : Nat) (hF a_ind a_tot a_pri : Nat) (ind : Int → Int) (tot : Int → Int) (pri : Int → Int) (q : Int) (fr : Int) (li : Int) (sh : Int) (t : Int) (w : Int) (H_I : FI ind tot pri q fr li sh) (ht : 0 ≤ t ∧ t < 12) (hw : sm w) : Met l yX2_toldOfQuarter (Cond.code yX2_toldOfQuarter cX2_toldOfQuarter 3 (some .int) :: TW) rm_X2_toldOfQuarter (va_Pc [.ref hF, .int (iI t), .int (iI w)] (PX D y z (W_F y hF a_ind a_tot a_pri ind tot pri q fr li sh) sz)) (va_Qi (fun (r : Int32) (uu : Unit) => r = iI (xOf ind pri fr t w)) (fun uu t => BX D (W_F y hF a_ind a_tot a_pri ind tot pri q fr li sh) (va_A (W_F y hF a_ind a_tot a_pri ind tot pri q fr li sh) sz) t) (va_A (W_F y hF a_ind a_tot a_pri ind tot pri q fr li sh) sz)) 0 0 (va_A (W_F y hF a_ind a_tot a_pri ind tot pri q fr li sh) sz) := by
  refine xm_i (by decide) (Nat.le_of_ble_eq_true rfl) (fun p e s m args below meth cX ls A Q E hr hnm hX hl hQ => ?_)
  have hl : lv_has ls 3 [(0, .ref hF), (1, .int (iI t)), (2, .int (iI w))] := hl
  have hq := H_I.q
  have hfr := H_I.fr
  have hli := H_I.li
  have hsh := H_I.sh
  refine xr_iload_n E hl 2 rfl dX2_toldOfQuarter_0 rfl ?_
  by_cases k_1_0 : w = 0
  · refine xr_tabIn (tgt := 28) E dX2_toldOfQuarter_1 ⟨by omega, by omega⟩ 0 (by omega) (by omega) rfl (by decide) ?_
    refine xr_aload_n E hl 0 rfl dX2_toldOfQuarter_28 rfl ?_
    refine xr_get E hX 0 rfl rfl ly_X2 0 (by decide) fl_X2_9 rfl dX2_toldOfQuarter_29 ?_
    refine xr_iload_n E hl 1 rfl dX2_toldOfQuarter_32 rfl ?_
    refine xr_iald E hX 1 rfl (by omega) (by omega) (by decide) dX2_toldOfQuarter_33 ?_
    exact xr_iret E hX hQ () hr (by unfold xOf; (repeat' split) <;> first | (exfalso; omega) | rfl | (congr 1; omega) | (congr 2; omega)) rfl dX2_toldOfQuarter_34
  by_cases k_1_1 : w = 1
  · refine xr_tabIn (tgt := 35) E dX2_toldOfQuarter_1 ⟨by omega, by omega⟩ 1 (by omega) (by omega) rfl (by decide) ?_
    refine xr_aload_n E hl 0 rfl dX2_toldOfQuarter_35 rfl ?_
    refine xr_get E hX 0 rfl rfl ly_X2 2 (by decide) fl_X2_18 rfl dX2_toldOfQuarter_36 ?_
    refine xr_iload_n E hl 1 rfl dX2_toldOfQuarter_39 rfl ?_
    refine xr_iald E hX 3 rfl (by omega) (by omega) (by decide) dX2_toldOfQuarter_40 ?_
    exact xr_iret E hX hQ () hr (by unfold xOf; (repeat' split) <;> first | (exfalso; omega) | rfl | (congr 1; omega) | (congr 2; omega)) rfl dX2_toldOfQuarter_41
  by_cases k_1_2 : w = 2
  · refine xr_tabIn (tgt := 42) E dX2_toldOfQuarter_1 ⟨by omega, by omega⟩ 2 (by omega) (by omega) rfl (by decide) ?_
    refine xr_aload_n E hl 0 rfl dX2_toldOfQuarter_42 rfl ?_
    refine xr_iload_n E hl 1 rfl dX2_toldOfQuarter_43 rfl ?_
    refine xk_ri E hX [0, 1, 2, 3] rfl (xv_V (As := [.int (iI t)]) E hX hl (c_X2_isFrozen l D y z _ hF a_ind a_tot a_pri ind tot pri q fr li sh t) ml_X2_67 im_X2_isFrozen se_X2_isFrozen in_X2 co_X2_isFrozen 1 (by decide) ⟨rfl, rfl⟩ ⟨Nat.le_of_ble_eq_true rfl, Nat.le_of_ble_eq_true rfl⟩ [0, 1, 2, 3] rfl rfl 0 rfl rfl rfl rfl rfl (Nat.le_of_ble_eq_true rfl) dX2_toldOfQuarter_44 ⟨Nat.le_refl _, Nat.le_refl _⟩) (fun r_44 H locs hw hX => ?_)
    subst hw
    refine xr_if_eqB (tgt := 54) E dX2_toldOfQuarter_47 (by decide) (fun c_47 => ?_) (fun c_47 => ?_)
    · have c_47 := of_decide_eq_false c_47
      refine xr_iconst E dX2_toldOfQuarter_54 ?_
      have hb := bAnd1 (bShr fr t)
      exact xr_iret E hX hQ () hr (by unfold xOf; (repeat' split) <;> first | (exfalso; omega) | rfl | (congr 1; omega) | (congr 2; omega)) rfl dX2_toldOfQuarter_55
    · have c_47 := of_decide_eq_true c_47
      refine xr_iconst E dX2_toldOfQuarter_50 ?_
      refine xr_goto (tgt := 55) E dX2_toldOfQuarter_51 (by decide) ?_
      have hb := bAnd1 (bShr fr t)
      exact xr_iret E hX hQ () hr (by unfold xOf; (repeat' split) <;> first | (exfalso; omega) | rfl | (congr 1; omega) | (congr 2; omega)) rfl dX2_toldOfQuarter_55
  refine xr_tabOut (tgt := 56) E dX2_toldOfQuarter_1 ⟨by omega, by omega⟩ (by omega) (by decide) ?_
  refine xr_iload_n E hl 1 rfl dX2_toldOfQuarter_56 rfl ?_
  refine xr_iconst E dX2_toldOfQuarter_57 ?_
  refine xr_idiv E dX2_toldOfQuarter_58 ⟨by omega, by omega⟩ (by decide) (by omega) (by omega) ?_
  exact xr_iret E hX hQ () hr (by unfold xOf; (repeat' split) <;> first | (exfalso; omega) | rfl | (congr 1; omega) | (congr 2; omega)) rfl dX2_toldOfQuarter_59
def xYr (ind tot : Int → Int) (q v w : Int) : Int := if w = 1 then xInd ind q v else if w = 0 ∨ tot v = -1 then tot v else xGap ind tot q v + 1000
abbrev rm_X2_toldOfYear : Room := { frames := 2, cells := 0, slots := 0, locals := 44 }
set_option maxHeartbeats 4000000 in
set_option maxRecDepth 100000 in
theorem c_X2_toldOfYear (l : Launch) (D : va_G) (y : CY) (z sz : Nat) (hF a_ind a_tot a_pri : Nat) (ind : Int → Int) (tot : Int → Int) (pri : Int → Int) (q : Int) (fr : Int) (li : Int) (sh : Int) (v : Int) (w : Int) (H_I : FI ind tot pri q fr li sh) (hv : 0 ≤ v ∧ v < 3) (hw : sm w) : Met l yX2_toldOfYear (Cond.code yX2_toldOfYear cX2_toldOfYear 3 (some .int) :: TW) rm_X2_toldOfYear (va_Pc [.ref hF, .int (iI v), .int (iI w)] (PX D y z (W_F y hF a_ind a_tot a_pri ind tot pri q fr li sh) sz)) (va_Qi (fun (r : Int32) (uu : Unit) => r = iI (xYr ind tot q v w)) (fun uu t => BX D (W_F y hF a_ind a_tot a_pri ind tot pri q fr li sh) (va_A (W_F y hF a_ind a_tot a_pri ind tot pri q fr li sh) sz) t) (va_A (W_F y hF a_ind a_tot a_pri ind tot pri q fr li sh) sz)) 0 0 (va_A (W_F y hF a_ind a_tot a_pri ind tot pri q fr li sh) sz) := by
  refine xm_i (by decide) (Nat.le_of_ble_eq_true rfl) (fun p e s m args below meth cX ls A Q E hr hnm hX hl hQ => ?_)
  have hl : lv_has ls 3 [(0, .ref hF), (1, .int (iI v)), (2, .int (iI w))] := hl
  have hq := H_I.q
  have hfr := H_I.fr
  have hli := H_I.li
  have hsh := H_I.sh
  have ht := H_I.tot (v := v) (by omega) (by omega)
  refine xr_iload_n E hl 2 rfl dX2_toldOfYear_0 rfl ?_
  refine xr_iconst E dX2_toldOfYear_1 ?_
  refine xr_icmp_ne (tgt := 11) E dX2_toldOfYear_2 (by decide) ⟨by omega, by omega⟩ (by decide) (fun c_2 => ?_) (fun c_2 => ?_)
  · have c_2 := c_2
    refine xr_iload_n E hl 2 rfl dX2_toldOfYear_11 rfl ?_
    refine xr_if_eq (tgt := 25) E dX2_toldOfYear_12 (by decide) ⟨by omega, by omega⟩ (fun c_12 => ?_) (fun c_12 => ?_)
    · have c_12 := c_12
      refine xr_aload_n E hl 0 rfl dX2_toldOfYear_25 rfl ?_
      refine xr_get E hX 0 rfl rfl ly_X2 1 (by decide) fl_X2_15 rfl dX2_toldOfYear_26 ?_
      refine xr_iload_n E hl 1 rfl dX2_toldOfYear_29 rfl ?_
      refine xr_iald E hX 2 rfl (by omega) (by omega) (by decide) dX2_toldOfYear_30 ?_
      exact xr_iret E hX hQ () hr (by unfold xYr; (repeat' split) <;> first | (exfalso; omega) | rfl | (congr 1; omega) | (congr 2; omega)) rfl dX2_toldOfYear_31
    · have c_12 := c_12
      refine xr_aload_n E hl 0 rfl dX2_toldOfYear_15 rfl ?_
      refine xr_get E hX 0 rfl rfl ly_X2 1 (by decide) fl_X2_15 rfl dX2_toldOfYear_16 ?_
      refine xr_iload_n E hl 1 rfl dX2_toldOfYear_19 rfl ?_
      refine xr_iald E hX 2 rfl (by omega) (by omega) (by decide) dX2_toldOfYear_20 ?_
      refine xr_iconst E dX2_toldOfYear_21 ?_
      refine xr_icmp_ne (tgt := 32) E dX2_toldOfYear_22 (by decide) ⟨by omega, by omega⟩ (by decide) (fun c_22 => ?_) (fun c_22 => ?_)
      · have c_22 := c_22
        refine xr_aload_n E hl 0 rfl dX2_toldOfYear_32 rfl ?_
        refine xr_iload_n E hl 1 rfl dX2_toldOfYear_33 rfl ?_
        refine xk_ri E hX [0, 1, 2, 3] rfl (xv_V (As := [.int (iI v)]) E hX hl (c_X2_gap l D y z _ hF a_ind a_tot a_pri ind tot pri q fr li sh v H_I (by omega)) ml_X2_73 im_X2_gap se_X2_gap in_X2 co_X2_gap 1 (by decide) ⟨rfl, rfl⟩ ⟨Nat.le_of_ble_eq_true rfl, Nat.le_of_ble_eq_true rfl⟩ [0, 1, 2, 3] rfl rfl 0 rfl rfl rfl rfl rfl (Nat.le_of_ble_eq_true rfl) dX2_toldOfYear_34 ⟨Nat.le_refl _, Nat.le_refl _⟩) (fun r_34 H locs hw hX => ?_)
        subst hw
        refine xr_sipush E dX2_toldOfYear_37 (by decide) ?_
        refine xr_iadd E dX2_toldOfYear_40 ?_
        exact xr_iret E hX hQ () hr (by unfold xYr; (repeat' split) <;> first | (exfalso; omega) | rfl | (congr 1; omega) | (congr 2; omega)) rfl dX2_toldOfYear_41
      · have c_22 := c_22
        refine xr_aload_n E hl 0 rfl dX2_toldOfYear_25 rfl ?_
        refine xr_get E hX 0 rfl rfl ly_X2 1 (by decide) fl_X2_15 rfl dX2_toldOfYear_26 ?_
        refine xr_iload_n E hl 1 rfl dX2_toldOfYear_29 rfl ?_
        refine xr_iald E hX 2 rfl (by omega) (by omega) (by decide) dX2_toldOfYear_30 ?_
        exact xr_iret E hX hQ () hr (by unfold xYr; (repeat' split) <;> first | (exfalso; omega) | rfl | (congr 1; omega) | (congr 2; omega)) rfl dX2_toldOfYear_31
  · have c_2 := c_2
    refine xr_aload_n E hl 0 rfl dX2_toldOfYear_5 rfl ?_
    refine xr_iload_n E hl 1 rfl dX2_toldOfYear_6 rfl ?_
    refine xk_ri E hX [0, 1, 2, 3] rfl (xv_V (As := [.int (iI v)]) E hX hl (c_X2_indicated l D y z _ hF a_ind a_tot a_pri ind tot pri q fr li sh v H_I (by omega)) ml_X2_70 im_X2_indicated se_X2_indicated in_X2 co_X2_indicated 1 (by decide) ⟨rfl, rfl⟩ ⟨Nat.le_of_ble_eq_true rfl, Nat.le_of_ble_eq_true rfl⟩ [0, 1, 2, 3] rfl rfl 0 rfl rfl rfl rfl rfl (Nat.le_of_ble_eq_true rfl) dX2_toldOfYear_7 ⟨Nat.le_refl _, Nat.le_refl _⟩) (fun r_7 H locs hw hX => ?_)
    subst hw
    exact xr_iret E hX hQ () hr (by unfold xYr; (repeat' split) <;> first | (exfalso; omega) | rfl | (congr 1; omega) | (congr 2; omega)) rfl dX2_toldOfYear_10
def xAll (tot pri : Int → Int) (q fr li sh w : Int) : Int := if w = 0 then q else if w = 1 then xYears tot else if w = 2 then xOnes pri q else if w = 3 then fr else if w = 4 then li else sh
abbrev rm_X2_toldOfAll : Room := { frames := 2, cells := 0, slots := 0, locals := 43 }
set_option maxHeartbeats 4000000 in
set_option maxRecDepth 100000 in
theorem c_X2_toldOfAll (l : Launch) (D : va_G) (y : CY) (z sz : Nat) (hF a_ind a_tot a_pri : Nat) (ind : Int → Int) (tot : Int → Int) (pri : Int → Int) (q : Int) (fr : Int) (li : Int) (sh : Int) (w : Int) (H_I : FI ind tot pri q fr li sh) (hw : sm w) : Met l yX2_toldOfAll (Cond.code yX2_toldOfAll cX2_toldOfAll 2 (some .int) :: TW) rm_X2_toldOfAll (va_Pc [.ref hF, .int (iI w)] (PX D y z (W_F y hF a_ind a_tot a_pri ind tot pri q fr li sh) sz)) (va_Qi (fun (r : Int32) (uu : Unit) => r = iI (xAll tot pri q fr li sh w)) (fun uu t => BX D (W_F y hF a_ind a_tot a_pri ind tot pri q fr li sh) (va_A (W_F y hF a_ind a_tot a_pri ind tot pri q fr li sh) sz) t) (va_A (W_F y hF a_ind a_tot a_pri ind tot pri q fr li sh) sz)) 0 0 (va_A (W_F y hF a_ind a_tot a_pri ind tot pri q fr li sh) sz) := by
  refine xm_i (by decide) (Nat.le_of_ble_eq_true rfl) (fun p e s m args below meth cX ls A Q E hr hnm hX hl hQ => ?_)
  have hl : lv_has ls 2 [(0, .ref hF), (1, .int (iI w))] := hl
  have hq := H_I.q
  have hfr := H_I.fr
  have hli := H_I.li
  have hsh := H_I.sh
  refine xr_iload_n E hl 1 rfl dX2_toldOfAll_0 rfl ?_
  by_cases k_1_0 : w = 0
  · refine xr_tabIn (tgt := 36) E dX2_toldOfAll_1 ⟨by omega, by omega⟩ 0 (by omega) (by omega) rfl (by decide) ?_
    refine xr_aload_n E hl 0 rfl dX2_toldOfAll_36 rfl ?_
    refine xr_get E hX 0 rfl rfl ly_X2 3 (by decide) fl_X2_21 rfl dX2_toldOfAll_37 ?_
    exact xr_iret E hX hQ () hr (by unfold xAll; (repeat' split) <;> first | (exfalso; omega) | rfl | (congr 1; omega) | (congr 2; omega)) rfl dX2_toldOfAll_40
  by_cases k_1_1 : w = 1
  · refine xr_tabIn (tgt := 41) E dX2_toldOfAll_1 ⟨by omega, by omega⟩ 1 (by omega) (by omega) rfl (by decide) ?_
    refine xr_aload_n E hl 0 rfl dX2_toldOfAll_41 rfl ?_
    refine xk_ri E hX [0, 1, 2, 3] rfl (xv_V (As := []) E hX hl (c_X2_yearsTold l D y z _ hF a_ind a_tot a_pri ind tot pri q fr li sh H_I) ml_X2_76 im_X2_yearsTold se_X2_yearsTold in_X2 co_X2_yearsTold 0 (by decide) ⟨rfl, rfl⟩ ⟨Nat.le_of_ble_eq_true rfl, Nat.le_of_ble_eq_true rfl⟩ [0, 1, 2, 3] rfl rfl 0 rfl rfl rfl rfl rfl (Nat.le_of_ble_eq_true rfl) dX2_toldOfAll_42 ⟨Nat.le_refl _, Nat.le_refl _⟩) (fun r_42 H locs hw hX => ?_)
    subst hw
    exact xr_iret E hX hQ () hr (by unfold xAll; (repeat' split) <;> first | (exfalso; omega) | rfl | (congr 1; omega) | (congr 2; omega)) rfl dX2_toldOfAll_45
  by_cases k_1_2 : w = 2
  · refine xr_tabIn (tgt := 46) E dX2_toldOfAll_1 ⟨by omega, by omega⟩ 2 (by omega) (by omega) rfl (by decide) ?_
    refine xr_aload_n E hl 0 rfl dX2_toldOfAll_46 rfl ?_
    refine xk_ri E hX [0, 1, 2, 3] rfl (xv_V (As := []) E hX hl (c_X2_printedOnes l D y z _ hF a_ind a_tot a_pri ind tot pri q fr li sh H_I) ml_X2_63 im_X2_printedOnes se_X2_printedOnes in_X2 co_X2_printedOnes 0 (by decide) ⟨rfl, rfl⟩ ⟨Nat.le_of_ble_eq_true rfl, Nat.le_of_ble_eq_true rfl⟩ [0, 1, 2, 3] rfl rfl 0 rfl rfl rfl rfl rfl (Nat.le_of_ble_eq_true rfl) dX2_toldOfAll_47 ⟨Nat.le_refl _, Nat.le_refl _⟩) (fun r_47 H locs hw hX => ?_)
    subst hw
    exact xr_iret E hX hQ () hr (by unfold xAll; (repeat' split) <;> first | (exfalso; omega) | rfl | (congr 1; omega) | (congr 2; omega)) rfl dX2_toldOfAll_50
  by_cases k_1_3 : w = 3
  · refine xr_tabIn (tgt := 51) E dX2_toldOfAll_1 ⟨by omega, by omega⟩ 3 (by omega) (by omega) rfl (by decide) ?_
    refine xr_aload_n E hl 0 rfl dX2_toldOfAll_51 rfl ?_
    refine xr_get E hX 0 rfl rfl ly_X2 4 (by decide) fl_X2_25 rfl dX2_toldOfAll_52 ?_
    exact xr_iret E hX hQ () hr (by unfold xAll; (repeat' split) <;> first | (exfalso; omega) | rfl | (congr 1; omega) | (congr 2; omega)) rfl dX2_toldOfAll_55
  by_cases k_1_4 : w = 4
  · refine xr_tabIn (tgt := 56) E dX2_toldOfAll_1 ⟨by omega, by omega⟩ 4 (by omega) (by omega) rfl (by decide) ?_
    refine xr_aload_n E hl 0 rfl dX2_toldOfAll_56 rfl ?_
    refine xr_get E hX 0 rfl rfl ly_X2 5 (by decide) fl_X2_28 rfl dX2_toldOfAll_57 ?_
    exact xr_iret E hX hQ () hr (by unfold xAll; (repeat' split) <;> first | (exfalso; omega) | rfl | (congr 1; omega) | (congr 2; omega)) rfl dX2_toldOfAll_60
  refine xr_tabOut (tgt := 61) E dX2_toldOfAll_1 ⟨by omega, by omega⟩ (by omega) (by decide) ?_
  refine xr_aload_n E hl 0 rfl dX2_toldOfAll_61 rfl ?_
  refine xr_get E hX 0 rfl rfl ly_X2 6 (by decide) fl_X2_31 rfl dX2_toldOfAll_62 ?_
  exact xr_iret E hX hQ () hr (by unfold xAll; (repeat' split) <;> first | (exfalso; omega) | rfl | (congr 1; omega) | (congr 2; omega)) rfl dX2_toldOfAll_65
