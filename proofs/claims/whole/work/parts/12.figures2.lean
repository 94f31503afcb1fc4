/-! Figures: freezing, sharing out, movement, becoming another -/
abbrev W_Fx (y : CY) (hF a_ind a_tot a_pri a_x : Nat) (ind : Int → Int) (tot : Int → Int) (pri : Int → Int) (q : Int) (fr : Int) (li : Int) (sh : Int) (x : Int → Int) : va_W := [(hF, .inr (2, [.ref a_ind, .ref a_tot, .ref a_pri, .int (iI q), .int (iI fr), .int (iI li), .int (iI sh)])), (a_ind, .inl (y.1, 12, .inl (ia ind))), (a_tot, .inl (y.1, 3, .inl (ia tot))), (a_pri, .inl (y.1, 12, .inl (ia pri))), (a_x, .inl (y.1, 12, .inl (ia x)))]
abbrev W_FF (y : CY) (hF a_ind a_tot a_pri ohF oa_ind oa_tot oa_pri : Nat) (ind : Int → Int) (tot : Int → Int) (pri : Int → Int) (q : Int) (fr : Int) (li : Int) (sh : Int) (oind : Int → Int) (otot : Int → Int) (opri : Int → Int) (oq : Int) (ofr : Int) (oli : Int) (osh : Int) : va_W := [(hF, .inr (2, [.ref a_ind, .ref a_tot, .ref a_pri, .int (iI q), .int (iI fr), .int (iI li), .int (iI sh)])), (a_ind, .inl (y.1, 12, .inl (ia ind))), (a_tot, .inl (y.1, 3, .inl (ia tot))), (a_pri, .inl (y.1, 12, .inl (ia pri))), (ohF, .inr (2, [.ref oa_ind, .ref oa_tot, .ref oa_pri, .int (iI oq), .int (iI ofr), .int (iI oli), .int (iI osh)])), (oa_ind, .inl (y.1, 12, .inl (ia oind))), (oa_tot, .inl (y.1, 3, .inl (ia otot))), (oa_pri, .inl (y.1, 12, .inl (ia opri)))]
def bC1 (x : Int) : Int := x - bAnd (bUshr x 1) 1431655765
def bC2 (x : Int) : Int := bAnd x 858993459 + bAnd (bUshr x 2) 858993459
def bC3 (x : Int) : Int := bAnd (x + bUshr x 4) 252645135
def bC4 (x : Int) : Int := x + bUshr x 8
def bC5 (x : Int) : Int := x + bUshr x 16
def bCnt (x : Int) : Int := bAnd (bC5 (bC4 (bC3 (bC2 (bC1 x))))) 63
abbrev rm_J6_bitCount_0f7a4 : Room := { frames := 0, cells := 0, slots := 0, locals := 0 }
set_option maxHeartbeats 4000000 in
set_option maxRecDepth 100000 in
theorem c_J6_bitCount_0f7a4 (l : Launch) (D : va_G) (y : CY) (z sz : Nat) (x : Int) : Met l yJ6_bitCount_0f7a4 (Cond.code yJ6_bitCount_0f7a4 cJ6_bitCount_0f7a4 1 (some .int) :: TW) rm_J6_bitCount_0f7a4 (va_Pc [.int (iI x)] (PX D y z [] sz)) (va_Qi (fun (r : Int32) (uu : Unit) => r = iI (bCnt x)) (fun uu t => BX D [] (va_A [] sz) t) (va_A [] sz)) 0 0 (va_A [] sz) := by
  refine xm_i (by decide) (Nat.le_of_ble_eq_true rfl) (fun p e s m args below meth cX ls A Q E hr hnm hX hl hQ => ?_)
  have hl : lv_has ls 1 [(0, .int (iI x))] := hl
  refine xr_iload_n E hl 0 rfl dJ6_bitCount_0f7a4_0 rfl ?_
  refine xr_iload_n E hl 0 rfl dJ6_bitCount_0f7a4_1 rfl ?_
  refine xr_iconst E dJ6_bitCount_0f7a4_2 ?_
  refine xr_iushr E dJ6_bitCount_0f7a4_3 ?_
  refine xr_ldcw (n := 1431655765) E kc_J6_265 dJ6_bitCount_0f7a4_4 (by decide) ?_
  refine xr_iand E dJ6_bitCount_0f7a4_7 ?_
  refine xr_isub E dJ6_bitCount_0f7a4_8 ?_
  refine xr_istore_n (lv' := [(0, .int (iI (x - (bAnd (bUshr x 1) 1431655765))))]) E hl dJ6_bitCount_0f7a4_9 rfl (by decide) rfl (fun ls hl => ?_)
  refine xr_iload_n E hl 0 rfl dJ6_bitCount_0f7a4_10 rfl ?_
  refine xr_ldcw (n := 858993459) E kc_J6_266 dJ6_bitCount_0f7a4_11 (by decide) ?_
  refine xr_iand E dJ6_bitCount_0f7a4_14 ?_
  refine xr_iload_n E hl 0 rfl dJ6_bitCount_0f7a4_15 rfl ?_
  refine xr_iconst E dJ6_bitCount_0f7a4_16 ?_
  refine xr_iushr E dJ6_bitCount_0f7a4_17 ?_
  refine xr_ldcw (n := 858993459) E kc_J6_266 dJ6_bitCount_0f7a4_18 (by decide) ?_
  refine xr_iand E dJ6_bitCount_0f7a4_21 ?_
  refine xr_iadd E dJ6_bitCount_0f7a4_22 ?_
  refine xr_istore_n (lv' := [(0, .int (iI ((bAnd (x - (bAnd (bUshr x 1) 1431655765)) 858993459) + (bAnd (bUshr (x - (bAnd (bUshr x 1) 1431655765)) 2) 858993459))))]) E hl dJ6_bitCount_0f7a4_23 rfl (by decide) rfl (fun ls hl => ?_)
  refine xr_iload_n E hl 0 rfl dJ6_bitCount_0f7a4_24 rfl ?_
  refine xr_iload_n E hl 0 rfl dJ6_bitCount_0f7a4_25 rfl ?_
  refine xr_iconst E dJ6_bitCount_0f7a4_26 ?_
  refine xr_iushr E dJ6_bitCount_0f7a4_27 ?_
  refine xr_iadd E dJ6_bitCount_0f7a4_28 ?_
  refine xr_ldcw (n := 252645135) E kc_J6_267 dJ6_bitCount_0f7a4_29 (by decide) ?_
  refine xr_iand E dJ6_bitCount_0f7a4_32 ?_
  refine xr_istore_n (lv' := [(0, .int (iI (bAnd (((bAnd (x - (bAnd (bUshr x 1) 1431655765)) 858993459) + (bAnd (bUshr (x - (bAnd (bUshr x 1) 1431655765)) 2) 858993459)) + (bUshr ((bAnd (x - (bAnd (bUshr x 1) 1431655765)) 858993459) + (bAnd (bUshr (x - (bAnd (bUshr x 1) 1431655765)) 2) 858993459)) 4)) 252645135)))]) E hl dJ6_bitCount_0f7a4_33 rfl (by decide) rfl (fun ls hl => ?_)
  refine xr_iload_n E hl 0 rfl dJ6_bitCount_0f7a4_34 rfl ?_
  refine xr_iload_n E hl 0 rfl dJ6_bitCount_0f7a4_35 rfl ?_
  refine xr_bipush E dJ6_bitCount_0f7a4_36 (by decide) ?_
  refine xr_iushr E dJ6_bitCount_0f7a4_38 ?_
  refine xr_iadd E dJ6_bitCount_0f7a4_39 ?_
  refine xr_istore_n (lv' := [(0, .int (iI ((bAnd (((bAnd (x - (bAnd (bUshr x 1) 1431655765)) 858993459) + (bAnd (bUshr (x - (bAnd (bUshr x 1) 1431655765)) 2) 858993459)) + (bUshr ((bAnd (x - (bAnd (bUshr x 1) 1431655765)) 858993459) + (bAnd (bUshr (x - (bAnd (bUshr x 1) 1431655765)) 2) 858993459)) 4)) 252645135) + (bUshr (bAnd (((bAnd (x - (bAnd (bUshr x 1) 1431655765)) 858993459) + (bAnd (bUshr (x - (bAnd (bUshr x 1) 1431655765)) 2) 858993459)) + (bUshr ((bAnd (x - (bAnd (bUshr x 1) 1431655765)) 858993459) + (bAnd (bUshr (x - (bAnd (bUshr x 1) 1431655765)) 2) 858993459)) 4)) 252645135) 8))))]) E hl dJ6_bitCount_0f7a4_40 rfl (by decide) rfl (fun ls hl => ?_)
  refine xr_iload_n E hl 0 rfl dJ6_bitCount_0f7a4_41 rfl ?_
  refine xr_iload_n E hl 0 rfl dJ6_bitCount_0f7a4_42 rfl ?_
  refine xr_bipush E dJ6_bitCount_0f7a4_43 (by decide) ?_
  refine xr_iushr E dJ6_bitCount_0f7a4_45 ?_
  refine xr_iadd E dJ6_bitCount_0f7a4_46 ?_
  refine xr_istore_n (lv' := [(0, .int (iI (((bAnd (((bAnd (x - (bAnd (bUshr x 1) 1431655765)) 858993459) + (bAnd (bUshr (x - (bAnd (bUshr x 1) 1431655765)) 2) 858993459)) + (bUshr ((bAnd (x - (bAnd (bUshr x 1) 1431655765)) 858993459) + (bAnd (bUshr (x - (bAnd (bUshr x 1) 1431655765)) 2) 858993459)) 4)) 252645135) + (bUshr (bAnd (((bAnd (x - (bAnd (bUshr x 1) 1431655765)) 858993459) + (bAnd (bUshr (x - (bAnd (bUshr x 1) 1431655765)) 2) 858993459)) + (bUshr ((bAnd (x - (bAnd (bUshr x 1) 1431655765)) 858993459) + (bAnd (bUshr (x - (bAnd (bUshr x 1) 1431655765)) 2) 858993459)) 4)) 252645135) 8)) + (bUshr ((bAnd (((bAnd (x - (bAnd (bUshr x 1) 1431655765)) 858993459) + (bAnd (bUshr (x - (bAnd (bUshr x 1) 1431655765)) 2) 858993459)) + (bUshr ((bAnd (x - (bAnd (bUshr x 1) 1431655765)) 858993459) + (bAnd (bUshr (x - (bAnd (bUshr x 1) 1431655765)) 2) 858993459)) 4)) 252645135) + (bUshr (bAnd (((bAnd (x - (bAnd (bUshr x 1) 1431655765)) 858993459) + (bAnd (bUshr (x - (bAnd (bUshr x 1) 1431655765)) 2) 858993459)) + (bUshr ((bAnd (x - (bAnd (bUshr x 1) 1431655765)) 858993459) + (bAnd (bUshr (x - (bAnd (bUshr x 1) 1431655765)) 2) 858993459)) 4)) 252645135) 8)) 16))))]) E hl dJ6_bitCount_0f7a4_47 rfl (by decide) rfl (fun ls hl => ?_)
  refine xr_iload_n E hl 0 rfl dJ6_bitCount_0f7a4_48 rfl ?_
  refine xr_bipush E dJ6_bitCount_0f7a4_49 (by decide) ?_
  refine xr_iand E dJ6_bitCount_0f7a4_51 ?_
  exact xr_iret E hX hQ () hr rfl rfl dJ6_bitCount_0f7a4_52
def xIcF (fr t on : Int) : Int := if on = 1 then bOr fr (bShl 1 t) else bAnd fr (bXor (bShl 1 t) (-1))
def xIc_r (t on : Int) (pri : Int → Int) (q fr : Int) : Int := if (0 ≤ t ∧ t ≤ q - 1) ∧ 0 ≤ on ∧ on ≤ 1 then (if pri t = -1 then -3 else bCnt (xIcF fr t on)) else -2
def xIc_fr (t on : Int) (pri : Int → Int) (q fr : Int) : Int := if (0 ≤ t ∧ t ≤ q - 1) ∧ 0 ≤ on ∧ on ≤ 1 then (if pri t = -1 then fr else xIcF fr t on) else fr
abbrev rm_X2_ices : Room := { frames := 2, cells := 0, slots := 0, locals := 43 }
set_option maxHeartbeats 4000000 in
set_option maxRecDepth 100000 in
theorem c_X2_ices (l : Launch) (D : va_G) (y : CY) (z sz : Nat) (hF a_ind a_tot a_pri : Nat) (ind : Int → Int) (tot : Int → Int) (pri : Int → Int) (q : Int) (fr : Int) (li : Int) (sh : Int) (t : Int) (on : Int) (ht : sm t) (ho : sm on) (H_I : FI ind tot pri q fr li sh) : Met l yX2_ices (Cond.code yX2_ices cX2_ices 4 (some .int) :: TW) rm_X2_ices (va_Pc [.ref hF, .int (iI t), .int (iI on)] (PX D y z (W_F y hF a_ind a_tot a_pri ind tot pri q fr li sh) sz)) (va_Qi (fun (r : Int32) (uu : (Int)) => r = iI (xIc_r t on pri q fr) ∧ uu = xIc_fr t on pri q fr) (fun uu t => BX D (W_F y hF a_ind a_tot a_pri ind tot pri q uu li sh) (va_A (W_F y hF a_ind a_tot a_pri ind tot pri q fr li sh) sz) t) (va_A (W_F y hF a_ind a_tot a_pri ind tot pri q fr li sh) sz)) 0 0 (va_A (W_F y hF a_ind a_tot a_pri ind tot pri q fr li sh) sz) := by
  refine xm_i (by decide) (Nat.le_of_ble_eq_true rfl) (fun p e s m args below meth cX ls A Q E hr hnm hX hl hQ => ?_)
  have hl : lv_has ls 4 [(0, .ref hF), (1, .int (iI t)), (2, .int (iI on))] := hl
  have hq := H_I.q
  have hfr := H_I.fr
  have hli := H_I.li
  have hsh := H_I.sh
  refine xr_aload_n E hl 0 rfl dX2_ices_0 rfl ?_
  refine xr_iload_n E hl 1 rfl dX2_ices_1 rfl ?_
  refine xk_ri E hX [0, 1, 2, 3] rfl (xv_V (As := [.int (iI t)]) E hX hl (c_X2_has l D y z _ hF a_ind a_tot a_pri ind tot pri q fr li sh t ⟨by omega, by omega⟩ ⟨by omega, by omega⟩) ml_X2_44 im_X2_has se_X2_has in_X2 co_X2_has 1 (by decide) ⟨rfl, rfl⟩ ⟨Nat.le_of_ble_eq_true rfl, Nat.le_of_ble_eq_true rfl⟩ [0, 1, 2, 3] rfl rfl 0 rfl rfl rfl rfl rfl (Nat.le_of_ble_eq_true rfl) dX2_ices_2 ⟨Nat.le_refl _, Nat.le_refl _⟩) (fun r_2 H locs hw hX => ?_)
  subst hw
  refine xr_if_eqB (tgt := 17) E dX2_ices_5 (by decide) (fun c_5 => ?_) (fun c_5 => ?_)
  · have c_5 := of_decide_eq_false c_5
    refine xr_bipush E dX2_ices_17 (by decide) ?_
    exact xr_iret E hX hQ fr hr ⟨by unfold xIc_r xIcF; (repeat' split) <;> first | (exfalso; omega) | rfl | (congr 1; omega) | (congr 2; omega), by unfold xIc_fr xIcF; (repeat' split) <;> first | (exfalso; omega) | rfl | (congr 1; omega) | (congr 2; omega)⟩ rfl dX2_ices_19
  · have c_5 := of_decide_eq_true c_5
    refine xr_iload_n E hl 2 rfl dX2_ices_8 rfl ?_
    refine xr_iconst E dX2_ices_9 ?_
    refine xr_iconst E dX2_ices_10 ?_
    refine xk_ri E hX [] rfl (xv_SN (As := [.int (iI on), .int (iI 0), .int (iI 1)]) E hX hl (c_X5_within l D y z _ on 0 1 ⟨by omega, by omega⟩ ⟨by omega, by omega⟩ ⟨by omega, by omega⟩) E.2.2.2.2.2.2.1.2.2.2.2.1 st_X5_within in_X5 co_X5_within 3 (by decide) ⟨rfl, rfl⟩ ⟨Nat.le_of_ble_eq_true rfl, Nat.le_of_ble_eq_true rfl⟩ [] rfl rfl rfl rfl (Nat.le_of_ble_eq_true rfl) dX2_ices_11 ⟨Nat.le_refl _, Nat.le_refl _⟩) (fun r_11 H locs hw hX => ?_)
    subst hw
    refine xr_if_neB (tgt := 20) E dX2_ices_14 (by decide) (fun c_14 => ?_) (fun c_14 => ?_)
    · have c_14 := of_decide_eq_true c_14
      refine xr_aload_n E hl 0 rfl dX2_ices_20 rfl ?_
      refine xr_iload_n E hl 1 rfl dX2_ices_21 rfl ?_
      refine xk_ri E hX [0, 1, 2, 3] rfl (xv_V (As := [.int (iI t)]) E hX hl (c_X2_isPrinted l D y z _ hF a_ind a_tot a_pri ind tot pri q fr li sh t (by omega) (by have h := H_I.pri (t := t) (by omega) (by omega); exact ⟨by omega, by omega⟩)) ml_X2_51 im_X2_isPrinted se_X2_isPrinted in_X2 co_X2_isPrinted 1 (by decide) ⟨rfl, rfl⟩ ⟨Nat.le_of_ble_eq_true rfl, Nat.le_of_ble_eq_true rfl⟩ [0, 1, 2, 3] rfl rfl 0 rfl rfl rfl rfl rfl (Nat.le_of_ble_eq_true rfl) dX2_ices_22 ⟨Nat.le_refl _, Nat.le_refl _⟩) (fun r_22 H locs hw hX => ?_)
      subst hw
      refine xr_if_neB (tgt := 31) E dX2_ices_25 (by decide) (fun c_25 => ?_) (fun c_25 => ?_)
      · have c_25 := of_decide_eq_true c_25
        refine xr_iconst E dX2_ices_31 ?_
        refine xr_iload_n E hl 1 rfl dX2_ices_32 rfl ?_
        refine xr_ishl E dX2_ices_33 ?_
        refine xr_istore_n (lv' := [(3, .int (iI (bShl 1 t))), (0, .ref hF), (1, .int (iI t)), (2, .int (iI on))]) E hl dX2_ices_34 rfl (by decide) rfl (fun ls hl => ?_)
        refine xr_aload_n E hl 1 rfl dX2_ices_35 rfl ?_
        refine xr_iload_n E hl 3 rfl dX2_ices_36 rfl ?_
        refine xr_iconst E dX2_ices_37 ?_
        refine xr_icmp_ne (tgt := 50) E dX2_ices_38 (by decide) ⟨by omega, by omega⟩ (by decide) (fun c_38 => ?_) (fun c_38 => ?_)
        · have c_38 := c_38
          refine xr_aload_n E hl 1 rfl dX2_ices_50 rfl ?_
          refine xr_get E hX 0 rfl rfl ly_X2 4 (by decide) fl_X2_25 rfl dX2_ices_51 ?_
          refine xr_iload_n E hl 0 rfl dX2_ices_54 rfl ?_
          refine xr_iconst E dX2_ices_55 ?_
          refine xr_ixor E dX2_ices_56 ?_
          refine xr_iand E dX2_ices_57 ?_
          refine xr_put (W1 := (W_F y hF a_ind a_tot a_pri ind tot pri q (bAnd fr (bXor (bShl 1 t) (-1))) li sh)) E hX 0 rfl rfl ly_X2 tyX2_ok nmX2 4 (by decide) fl_X2_25 rfl rfl rfl (Nat.le_of_ble_eq_true rfl) rfl dX2_ices_58 (fun H locs hX => ?_)
          refine xr_aload_n E hl 1 rfl dX2_ices_61 rfl ?_
          refine xr_get E hX 0 rfl rfl ly_X2 4 (by decide) fl_X2_25 rfl dX2_ices_62 ?_
          refine xk_ri E hX [] rfl (xv_S (As := [.int (iI (bAnd fr (bXor (bShl 1 t) (-1))))]) E hX hl (c_J6_bitCount_0f7a4 l D y z _ (bAnd fr (bXor (bShl 1 t) (-1)))) ml_X2_54 st_J6_bitCount_0f7a4 in_J6 co_J6_bitCount_0f7a4 1 (by decide) ⟨rfl, rfl⟩ ⟨Nat.le_of_ble_eq_true rfl, Nat.le_of_ble_eq_true rfl⟩ [] rfl rfl rfl rfl (Nat.le_of_ble_eq_true rfl) dX2_ices_65 ⟨Nat.le_refl _, Nat.le_refl _⟩) (fun r_65 H locs hw hX => ?_)
          subst hw
          exact xr_iret E hX hQ (bAnd fr (bXor (bShl 1 t) (-1))) hr ⟨by unfold xIc_r xIcF; (repeat' split) <;> first | (exfalso; omega) | rfl | (congr 1; omega) | (congr 2; omega), by unfold xIc_fr xIcF; (repeat' split) <;> first | (exfalso; omega) | rfl | (congr 1; omega) | (congr 2; omega)⟩ rfl dX2_ices_68
        · have c_38 := c_38
          refine xr_aload_n E hl 1 rfl dX2_ices_41 rfl ?_
          refine xr_get E hX 0 rfl rfl ly_X2 4 (by decide) fl_X2_25 rfl dX2_ices_42 ?_
          refine xr_iload_n E hl 0 rfl dX2_ices_45 rfl ?_
          refine xr_ior E dX2_ices_46 ?_
          refine xr_goto (tgt := 58) E dX2_ices_47 (by decide) ?_
          refine xr_put (W1 := (W_F y hF a_ind a_tot a_pri ind tot pri q (bOr fr (bShl 1 t)) li sh)) E hX 0 rfl rfl ly_X2 tyX2_ok nmX2 4 (by decide) fl_X2_25 rfl rfl rfl (Nat.le_of_ble_eq_true rfl) rfl dX2_ices_58 (fun H locs hX => ?_)
          refine xr_aload_n E hl 1 rfl dX2_ices_61 rfl ?_
          refine xr_get E hX 0 rfl rfl ly_X2 4 (by decide) fl_X2_25 rfl dX2_ices_62 ?_
          refine xk_ri E hX [] rfl (xv_S (As := [.int (iI (bOr fr (bShl 1 t)))]) E hX hl (c_J6_bitCount_0f7a4 l D y z _ (bOr fr (bShl 1 t))) ml_X2_54 st_J6_bitCount_0f7a4 in_J6 co_J6_bitCount_0f7a4 1 (by decide) ⟨rfl, rfl⟩ ⟨Nat.le_of_ble_eq_true rfl, Nat.le_of_ble_eq_true rfl⟩ [] rfl rfl rfl rfl (Nat.le_of_ble_eq_true rfl) dX2_ices_65 ⟨Nat.le_refl _, Nat.le_refl _⟩) (fun r_65 H locs hw hX => ?_)
          subst hw
          exact xr_iret E hX hQ (bOr fr (bShl 1 t)) hr ⟨by unfold xIc_r xIcF; (repeat' split) <;> first | (exfalso; omega) | rfl | (congr 1; omega) | (congr 2; omega), by unfold xIc_fr xIcF; (repeat' split) <;> first | (exfalso; omega) | rfl | (congr 1; omega) | (congr 2; omega)⟩ rfl dX2_ices_68
      · have c_25 := of_decide_eq_false c_25
        refine xr_bipush E dX2_ices_28 (by decide) ?_
        exact xr_iret E hX hQ fr hr ⟨by unfold xIc_r xIcF; (repeat' split) <;> first | (exfalso; omega) | rfl | (congr 1; omega) | (congr 2; omega), by unfold xIc_fr xIcF; (repeat' split) <;> first | (exfalso; omega) | rfl | (congr 1; omega) | (congr 2; omega)⟩ rfl dX2_ices_30
    · have c_14 := of_decide_eq_false c_14
      refine xr_bipush E dX2_ices_17 (by decide) ?_
      exact xr_iret E hX hQ fr hr ⟨by unfold xIc_r xIcF; (repeat' split) <;> first | (exfalso; omega) | rfl | (congr 1; omega) | (congr 2; omega), by unfold xIc_fr xIcF; (repeat' split) <;> first | (exfalso; omega) | rfl | (congr 1; omega) | (congr 2; omega)⟩ rfl dX2_ices_19
theorem mul_bd {a b A B : Int} (h0 : 0 ≤ a) (h1 : a ≤ A) (h2 : 0 ≤ b) (h3 : b ≤ B) : 0 ≤ a * b ∧ a * b ≤ A * B :=
  ⟨Int.mul_nonneg h0 h2, Int.mul_le_mul h1 h3 h2 (by omega)⟩
abbrev rm_X2_share : Room := { frames := 1, cells := 0, slots := 0, locals := 23 }
set_option maxHeartbeats 4000000 in
set_option maxRecDepth 100000 in
theorem c_X2_share (l : Launch) (D : va_G) (y : CY) (z sz : Nat) (hF a_ind a_tot a_pri : Nat) (ind : Int → Int) (tot : Int → Int) (pri : Int → Int) (q : Int) (fr : Int) (li : Int) (sh : Int) (t : Int) (H_I : FI ind tot pri q fr li sh) (ht : 0 ≤ t ∧ t < 12) : Met l yX2_share (Cond.code yX2_share cX2_share 9 (some .int) :: TW) rm_X2_share (va_Pc [.ref hF, .int (iI t)] (PX D y z (W_F y hF a_ind a_tot a_pri ind tot pri q fr li sh) sz)) (va_Qi (fun (r : Int32) (uu : Unit) => r = iI (xShare ind tot q t)) (fun uu t => BX D (W_F y hF a_ind a_tot a_pri ind tot pri q fr li sh) (va_A (W_F y hF a_ind a_tot a_pri ind tot pri q fr li sh) sz) t) (va_A (W_F y hF a_ind a_tot a_pri ind tot pri q fr li sh) sz)) 0 0 (va_A (W_F y hF a_ind a_tot a_pri ind tot pri q fr li sh) sz) := by
  refine xm_i (by decide) (Nat.le_of_ble_eq_true rfl) (fun p e s m args below meth cX ls A Q E hr hnm hX hl hQ => ?_)
  have hl : lv_has ls 9 [(0, .ref hF), (1, .int (iI t))] := hl
  have hq := H_I.q
  have hfr := H_I.fr
  have hli := H_I.li
  have hsh := H_I.sh
  have hv : 0 ≤ t / 4 ∧ t / 4 < 3 := by omega
  have hS := xInd_bd (q := q) (v := t / 4) (fun t h0 h1 => ⟨(H_I.ind h0 h1).1, (H_I.ind h0 h1).2.1⟩) hv.1 hv.2 hq.2
  have htt := H_I.tot hv.1 hv.2
  have hit := H_I.ind ht.1 ht.2
  refine xr_iload_n E hl 1 rfl dX2_share_0 rfl ?_
  refine xr_iconst E dX2_share_1 ?_
  refine xr_idiv E dX2_share_2 ⟨by omega, by omega⟩ (by decide) (by omega) (by omega) ?_
  refine xr_istore_n (lv' := [(2, .int (iI (t / 4))), (0, .ref hF), (1, .int (iI t))]) E hl dX2_share_3 rfl (by decide) rfl (fun ls hl => ?_)
  refine xr_aload_n E hl 1 rfl dX2_share_4 rfl ?_
  refine xr_iload_n E hl 0 rfl dX2_share_5 rfl ?_
  refine xk_ri E hX [0, 1, 2, 3] rfl (xv_V (As := [.int (iI (t / 4))]) E hX hl (c_X2_indicated l D y z _ hF a_ind a_tot a_pri ind tot pri q fr li sh (t / 4) H_I (by omega)) ml_X2_70 im_X2_indicated se_X2_indicated in_X2 co_X2_indicated 1 (by decide) ⟨rfl, rfl⟩ ⟨Nat.le_of_ble_eq_true rfl, Nat.le_of_ble_eq_true rfl⟩ [0, 1, 2, 3] rfl rfl 0 rfl rfl rfl rfl rfl (Nat.le_of_ble_eq_true rfl) dX2_share_6 ⟨Nat.le_refl _, Nat.le_refl _⟩) (fun r_6 H locs hw hX => ?_)
  subst hw
  refine xr_istore_n (lv' := [(3, .int (iI (xInd ind q (t / 4)))), (2, .int (iI (t / 4))), (0, .ref hF), (1, .int (iI t))]) E hl dX2_share_9 rfl (by decide) rfl (fun ls hl => ?_)
  refine xr_aload_n E hl 2 rfl dX2_share_10 rfl ?_
  refine xr_get E hX 0 rfl rfl ly_X2 1 (by decide) fl_X2_15 rfl dX2_share_11 ?_
  refine xr_iload_n E hl 1 rfl dX2_share_14 rfl ?_
  refine xr_iald E hX 2 rfl (by omega) (by omega) (by decide) dX2_share_15 ?_
  refine xr_iconst E dX2_share_16 ?_
  refine xr_icmp_eq (tgt := 24) E dX2_share_17 (by decide) ⟨by omega, by omega⟩ (by decide) (fun c_17 => ?_) (fun c_17 => ?_)
  · have c_17 := c_17
    refine xr_aload_n E hl 2 rfl dX2_share_24 rfl ?_
    refine xr_get E hX 0 rfl rfl ly_X2 0 (by decide) fl_X2_9 rfl dX2_share_25 ?_
    refine xr_iload_n E hl 3 rfl dX2_share_28 rfl ?_
    refine xr_iald E hX 1 rfl (by omega) (by omega) (by decide) dX2_share_29 ?_
    exact xr_iret E hX hQ () hr (by unfold xShare; rw [if_pos (by omega)]) rfl dX2_share_30
  · have c_17 := c_17
    refine xr_iload_n E hl 0 rfl dX2_share_20 rfl ?_
    refine xr_if_gt (tgt := 31) E dX2_share_21 (by decide) ⟨by omega, by omega⟩ (fun c_21 => ?_) (fun c_21 => ?_)
    · have c_21 := c_21
      have hm := mul_bd (a := tot (t / 4)) (b := ind t) (A := 999) (B := 99) (by omega) (by omega) (by omega) (by omega)
      have hr1 := Int.emod_nonneg (tot (t / 4) * ind t) (show xInd ind q (t / 4) ≠ 0 by omega)
      have hr2 := Int.emod_lt_of_pos (tot (t / 4) * ind t) (show 0 < xInd ind q (t / 4) by omega)
      have hd0 := Int.ediv_nonneg hm.1 (show 0 ≤ xInd ind q (t / 4) by omega)
      refine xr_aload_n E hl 2 rfl dX2_share_31 rfl ?_
      refine xr_get E hX 0 rfl rfl ly_X2 1 (by decide) fl_X2_15 rfl dX2_share_32 ?_
      refine xr_iload_n E hl 1 rfl dX2_share_35 rfl ?_
      refine xr_iald E hX 2 rfl (by omega) (by omega) (by decide) dX2_share_36 ?_
      refine xr_aload_n E hl 2 rfl dX2_share_37 rfl ?_
      refine xr_get E hX 0 rfl rfl ly_X2 0 (by decide) fl_X2_9 rfl dX2_share_38 ?_
      refine xr_iload_n E hl 3 rfl dX2_share_41 rfl ?_
      refine xr_iald E hX 1 rfl (by omega) (by omega) (by decide) dX2_share_42 ?_
      refine xr_imul E dX2_share_43 ?_
      refine xr_iload_n E hl 0 rfl dX2_share_44 rfl ?_
      refine xr_irem E dX2_share_45 ⟨by omega, by omega⟩ ⟨by omega, by omega⟩ (by omega) (by omega) ?_
      refine xr_istore (lv' := [(4, .int (iI (((tot (t / 4)) * (ind t)) % xInd ind q (t / 4)))), (3, .int (iI (xInd ind q (t / 4)))), (2, .int (iI (t / 4))), (0, .ref hF), (1, .int (iI t))]) E hl dX2_share_46 (by decide) rfl (fun ls hl => ?_)
      refine xr_aload_n E hl 3 rfl dX2_share_48 rfl ?_
      refine xr_get E hX 0 rfl rfl ly_X2 1 (by decide) fl_X2_15 rfl dX2_share_49 ?_
      refine xr_iload_n E hl 2 rfl dX2_share_52 rfl ?_
      refine xr_iald E hX 2 rfl (by omega) (by omega) (by decide) dX2_share_53 ?_
      refine xr_istore (lv' := [(5, .int (iI (tot (t / 4)))), (4, .int (iI (((tot (t / 4)) * (ind t)) % xInd ind q (t / 4)))), (3, .int (iI (xInd ind q (t / 4)))), (2, .int (iI (t / 4))), (0, .ref hF), (1, .int (iI t))]) E hl dX2_share_54 (by decide) rfl (fun ls hl => ?_)
      refine xr_iconst E dX2_share_56 ?_
      refine xr_istore (lv' := [(6, .int (iI 0)), (5, .int (iI (tot (t / 4)))), (4, .int (iI (((tot (t / 4)) * (ind t)) % xInd ind q (t / 4)))), (3, .int (iI (xInd ind q (t / 4)))), (2, .int (iI (t / 4))), (0, .ref hF), (1, .int (iI t))]) E hl dX2_share_57 (by decide) rfl (fun ls hl => ?_)
      refine xr_iconst E dX2_share_59 ?_
      refine xr_iload_n E hl 4 rfl dX2_share_60 rfl ?_
      refine xr_imul E dX2_share_61 ?_
      refine xr_istore (lv' := [(7, .int (iI (4 * (t / 4)))), (6, .int (iI 0)), (5, .int (iI (tot (t / 4)))), (4, .int (iI (((tot (t / 4)) * (ind t)) % xInd ind q (t / 4)))), (3, .int (iI (xInd ind q (t / 4)))), (2, .int (iI (t / 4))), (0, .ref hF), (1, .int (iI t))]) E hl dX2_share_62 (by decide) rfl (fun ls hl => ?_)
      have L_64_1 : ∀ (nmu : Nat) (n : Nat) (lf : Int) (ah : Int) (u : Int), 4 - n < nmu → (u = 4 * (t / 4) + n) → (lf = tot (t / 4) - sumI (fun u => tot (t / 4) * ind u / xInd ind q (t / 4)) (4 * (t / 4)) n) → (ah = sumI (fun u => if tot (t / 4) * ind u % xInd ind q (t / 4) > tot (t / 4) * ind t % xInd ind q (t / 4) ∨ (tot (t / 4) * ind u % xInd ind q (t / 4) = tot (t / 4) * ind t % xInd ind q (t / 4) ∧ u < t) then 1 else 0) (4 * (t / 4)) n) → (-500000 * (n : Int) ≤ lf ∧ lf ≤ 999 ∧ 0 ≤ ah ∧ ah ≤ n) → (n ≤ 4 ∧ (n = 0 ∨ 4 * (t / 4) + n ≤ q)) → ∀ (H : Heap) (locs : List Loc) (ls : Array Slot), XW D A s.heap (W_F y hF a_ind a_tot a_pri ind tot pri q fr li sh) H locs → lv_has ls 9 [(0, .ref hF), (1, .int (iI t)), (2, .int (iI (t / 4))), (3, .int (iI (xInd ind q (t / 4)))), (4, .int (iI (((tot (t / 4)) * (ind t)) % xInd ind q (t / 4)))), (5, .int (iI lf)), (6, .int (iI ah)), (7, .int (iI u))] → W p l e rm_X2_share s m args below meth cX H locs 0 0 Q (F0 m 64 ls []) := by
        intro nmu
        induction nmu with
        | zero =>
          intro n lf ah u hmu
          exact absurd hmu (Nat.not_lt_zero _)
        | succ nmu ih =>
          intro n lf ah u hmu hu hlf hah hb hn H locs ls hX hl
          have ih_64_1 := ih
          clear ih
          refine xr_iload E hl 7 rfl dX2_share_64 ?_
          refine xr_iconst E dX2_share_66 ?_
          refine xr_iload_n E hl 2 rfl dX2_share_67 rfl ?_
          refine xr_iconst E dX2_share_68 ?_
          refine xr_iadd E dX2_share_69 ?_
          refine xr_imul E dX2_share_70 ?_
          refine xr_icmp_ge (tgt := 158) E dX2_share_71 (by decide) ⟨by omega, by omega⟩ ⟨by omega, by omega⟩ (fun c_71 => ?_) (fun c_71 => ?_)
          · have c_71 := c_71
            refine xr_aload_n E hl 0 rfl dX2_share_158 rfl ?_
            refine xr_get E hX 0 rfl rfl ly_X2 1 (by decide) fl_X2_15 rfl dX2_share_159 ?_
            refine xr_iload_n E hl 2 rfl dX2_share_162 rfl ?_
            refine xr_iald E hX 2 rfl (by omega) (by omega) (by decide) dX2_share_163 ?_
            refine xr_aload_n E hl 0 rfl dX2_share_164 rfl ?_
            refine xr_get E hX 0 rfl rfl ly_X2 0 (by decide) fl_X2_9 rfl dX2_share_165 ?_
            refine xr_iload_n E hl 1 rfl dX2_share_168 rfl ?_
            refine xr_iald E hX 1 rfl (by omega) (by omega) (by decide) dX2_share_169 ?_
            refine xr_imul E dX2_share_170 ?_
            refine xr_iload_n E hl 3 rfl dX2_share_171 rfl ?_
            refine xr_idiv E dX2_share_172 ⟨by omega, by omega⟩ ⟨by omega, by omega⟩ (by omega) (by omega) ?_
            refine xr_iload E hl 6 rfl dX2_share_173 ?_
            refine xr_iload E hl 5 rfl dX2_share_175 ?_
            refine xr_icmp_ge (tgt := 184) E dX2_share_177 (by decide) ⟨by omega, by omega⟩ ⟨by omega, by omega⟩ (fun c_177 => ?_) (fun c_177 => ?_)
            · have c_177 := c_177
              refine xr_iconst E dX2_share_184 ?_
              refine xr_iadd E dX2_share_185 ?_
              exact xr_iret E hX hQ () hr (by unfold xShare; rw [if_neg (by omega), show yN q (t / 4) = n by unfold yN; split <;> omega, ← hah, show tot (t / 4) - sumI (fun u => tot (t / 4) * ind u / xInd ind q (t / 4)) (4 * (t / 4)) n = lf by omega]; split <;> first | rfl | (exfalso; omega)) rfl dX2_share_186
            · have c_177 := c_177
              refine xr_iconst E dX2_share_180 ?_
              refine xr_goto (tgt := 185) E dX2_share_181 (by decide) ?_
              refine xr_iadd E dX2_share_185 ?_
              exact xr_iret E hX hQ () hr (by unfold xShare; rw [if_neg (by omega), show yN q (t / 4) = n by unfold yN; split <;> omega, ← hah, show tot (t / 4) - sumI (fun u => tot (t / 4) * ind u / xInd ind q (t / 4)) (4 * (t / 4)) n = lf by omega]; split <;> first | rfl | (exfalso; omega)) rfl dX2_share_186
          · have c_71 := c_71
            refine xr_iload E hl 7 rfl dX2_share_74 ?_
            refine xr_aload_n E hl 0 rfl dX2_share_76 rfl ?_
            refine xr_get E hX 0 rfl rfl ly_X2 3 (by decide) fl_X2_21 rfl dX2_share_77 ?_
            refine xr_icmp_ge (tgt := 158) E dX2_share_80 (by decide) ⟨by omega, by omega⟩ ⟨by omega, by omega⟩ (fun c_80 => ?_) (fun c_80 => ?_)
            · have c_80 := c_80
              refine xr_aload_n E hl 0 rfl dX2_share_158 rfl ?_
              refine xr_get E hX 0 rfl rfl ly_X2 1 (by decide) fl_X2_15 rfl dX2_share_159 ?_
              refine xr_iload_n E hl 2 rfl dX2_share_162 rfl ?_
              refine xr_iald E hX 2 rfl (by omega) (by omega) (by decide) dX2_share_163 ?_
              refine xr_aload_n E hl 0 rfl dX2_share_164 rfl ?_
              refine xr_get E hX 0 rfl rfl ly_X2 0 (by decide) fl_X2_9 rfl dX2_share_165 ?_
              refine xr_iload_n E hl 1 rfl dX2_share_168 rfl ?_
              refine xr_iald E hX 1 rfl (by omega) (by omega) (by decide) dX2_share_169 ?_
              refine xr_imul E dX2_share_170 ?_
              refine xr_iload_n E hl 3 rfl dX2_share_171 rfl ?_
              refine xr_idiv E dX2_share_172 ⟨by omega, by omega⟩ ⟨by omega, by omega⟩ (by omega) (by omega) ?_
              refine xr_iload E hl 6 rfl dX2_share_173 ?_
              refine xr_iload E hl 5 rfl dX2_share_175 ?_
              refine xr_icmp_ge (tgt := 184) E dX2_share_177 (by decide) ⟨by omega, by omega⟩ ⟨by omega, by omega⟩ (fun c_177 => ?_) (fun c_177 => ?_)
              · have c_177 := c_177
                refine xr_iconst E dX2_share_184 ?_
                refine xr_iadd E dX2_share_185 ?_
                exact xr_iret E hX hQ () hr (by unfold xShare; rw [if_neg (by omega), show yN q (t / 4) = n by unfold yN; split <;> omega, ← hah, show tot (t / 4) - sumI (fun u => tot (t / 4) * ind u / xInd ind q (t / 4)) (4 * (t / 4)) n = lf by omega]; split <;> first | rfl | (exfalso; omega)) rfl dX2_share_186
              · have c_177 := c_177
                refine xr_iconst E dX2_share_180 ?_
                refine xr_goto (tgt := 185) E dX2_share_181 (by decide) ?_
                refine xr_iadd E dX2_share_185 ?_
                exact xr_iret E hX hQ () hr (by unfold xShare; rw [if_neg (by omega), show yN q (t / 4) = n by unfold yN; split <;> omega, ← hah, show tot (t / 4) - sumI (fun u => tot (t / 4) * ind u / xInd ind q (t / 4)) (4 * (t / 4)) n = lf by omega]; split <;> first | rfl | (exfalso; omega)) rfl dX2_share_186
            · have c_80 := c_80
              have hiu := H_I.ind (t := u) (by omega) (by omega)
              have hmu1 := mul_bd (a := tot (t / 4)) (b := ind u) (A := 999) (B := 99) (by omega) (by omega) (by omega) (by omega)
              have hu1 := Int.emod_nonneg (tot (t / 4) * ind u) (show xInd ind q (t / 4) ≠ 0 by omega)
              have hu2 := Int.emod_lt_of_pos (tot (t / 4) * ind u) (show 0 < xInd ind q (t / 4) by omega)
              have hd1 := Int.ediv_nonneg hmu1.1 (show 0 ≤ xInd ind q (t / 4) by omega)
              have hd2 := Int.ediv_le_self (xInd ind q (t / 4)) hmu1.1
              refine xr_aload_n E hl 0 rfl dX2_share_83 rfl ?_
              refine xr_get E hX 0 rfl rfl ly_X2 1 (by decide) fl_X2_15 rfl dX2_share_84 ?_
              refine xr_iload_n E hl 2 rfl dX2_share_87 rfl ?_
              refine xr_iald E hX 2 rfl (by omega) (by omega) (by decide) dX2_share_88 ?_
              refine xr_aload_n E hl 0 rfl dX2_share_89 rfl ?_
              refine xr_get E hX 0 rfl rfl ly_X2 0 (by decide) fl_X2_9 rfl dX2_share_90 ?_
              refine xr_iload E hl 7 rfl dX2_share_93 ?_
              refine xr_iald E hX 1 rfl (by omega) (by omega) (by decide) dX2_share_95 ?_
              refine xr_imul E dX2_share_96 ?_
              refine xr_iload_n E hl 3 rfl dX2_share_97 rfl ?_
              refine xr_irem E dX2_share_98 ⟨by omega, by omega⟩ ⟨by omega, by omega⟩ (by omega) (by omega) ?_
              refine xr_istore (lv' := [(8, .int (iI (((tot (t / 4)) * (ind u)) % xInd ind q (t / 4)))), (0, .ref hF), (1, .int (iI t)), (2, .int (iI (t / 4))), (3, .int (iI (xInd ind q (t / 4)))), (4, .int (iI (((tot (t / 4)) * (ind t)) % xInd ind q (t / 4)))), (5, .int (iI lf)), (6, .int (iI ah)), (7, .int (iI u))]) E hl dX2_share_99 (by decide) rfl (fun ls hl => ?_)
              refine xr_iload E hl 6 rfl dX2_share_101 ?_
              refine xr_aload_n E hl 1 rfl dX2_share_103 rfl ?_
              refine xr_get E hX 0 rfl rfl ly_X2 1 (by decide) fl_X2_15 rfl dX2_share_104 ?_
              refine xr_iload_n E hl 3 rfl dX2_share_107 rfl ?_
              refine xr_iald E hX 2 rfl (by omega) (by omega) (by decide) dX2_share_108 ?_
              refine xr_aload_n E hl 1 rfl dX2_share_109 rfl ?_
              refine xr_get E hX 0 rfl rfl ly_X2 0 (by decide) fl_X2_9 rfl dX2_share_110 ?_
              refine xr_iload E hl 8 rfl dX2_share_113 ?_
              refine xr_iald E hX 1 rfl (by omega) (by omega) (by decide) dX2_share_115 ?_
              refine xr_imul E dX2_share_116 ?_
              refine xr_iload_n E hl 4 rfl dX2_share_117 rfl ?_
              refine xr_idiv E dX2_share_118 ⟨by omega, by omega⟩ ⟨by omega, by omega⟩ (by omega) (by omega) ?_
              refine xr_isub E dX2_share_119 ?_
              refine xr_istore (lv' := [(5, .int (iI (lf - (((tot (t / 4)) * (ind u)) / xInd ind q (t / 4))))), (8, .int (iI (((tot (t / 4)) * (ind u)) % xInd ind q (t / 4)))), (0, .ref hF), (1, .int (iI t)), (2, .int (iI (t / 4))), (3, .int (iI (xInd ind q (t / 4)))), (4, .int (iI (((tot (t / 4)) * (ind t)) % xInd ind q (t / 4)))), (6, .int (iI ah)), (7, .int (iI u))]) E hl dX2_share_120 (by decide) rfl (fun ls hl => ?_)
              refine xr_iload E hl 7 rfl dX2_share_122 ?_
              refine xr_iload E hl 1 rfl dX2_share_124 ?_
              refine xr_iload E hl 6 rfl dX2_share_126 ?_
              refine xr_icmp_gt (tgt := 144) E dX2_share_128 (by decide) ⟨by omega, by omega⟩ ⟨by omega, by omega⟩ (fun c_128 => ?_) (fun c_128 => ?_)
              · have c_128 := c_128
                refine xr_iconst E dX2_share_144 ?_
                refine xr_goto (tgt := 149) E dX2_share_145 (by decide) ?_
                refine xr_iadd E dX2_share_149 ?_
                refine xr_istore (lv' := [(6, .int (iI (ah + 1))), (5, .int (iI (lf - (((tot (t / 4)) * (ind u)) / xInd ind q (t / 4))))), (8, .int (iI (((tot (t / 4)) * (ind u)) % xInd ind q (t / 4)))), (0, .ref hF), (1, .int (iI t)), (2, .int (iI (t / 4))), (3, .int (iI (xInd ind q (t / 4)))), (4, .int (iI (((tot (t / 4)) * (ind t)) % xInd ind q (t / 4)))), (7, .int (iI u))]) E hl dX2_share_150 (by decide) rfl (fun ls hl => ?_)
                refine xr_iinc (k := 8) (lv' := [(7, .int (iI (u + 1))), (6, .int (iI (ah + 1))), (5, .int (iI (lf - (((tot (t / 4)) * (ind u)) / xInd ind q (t / 4))))), (8, .int (iI (((tot (t / 4)) * (ind u)) % xInd ind q (t / 4)))), (0, .ref hF), (1, .int (iI t)), (2, .int (iI (t / 4))), (3, .int (iI (xInd ind q (t / 4)))), (4, .int (iI (((tot (t / 4)) * (ind t)) % xInd ind q (t / 4))))]) E hl rfl dX2_share_152 (by decide) rfl (fun ls hl => ?_)
                refine xr_goto (tgt := 64) E dX2_share_155 (by decide) ?_
                exact ih_64_1 (n + 1) (lf - (((tot (t / 4)) * (ind u)) / xInd ind q (t / 4))) (ah + 1) (u + 1) (by omega) (by omega) (by rw [sumI_s, ← hu, hlf]; omega) (by rw [sumI_s, ← hah, ← hu]; (repeat' split) <;> omega) (by omega) (by omega) _ _ _ hX (lv_sub hl [4, 5, 6, 7, 8, 2, 1, 0] rfl)
              · have c_128 := c_128
                refine xr_iload E hl 1 rfl dX2_share_131 ?_
                refine xr_iload E hl 6 rfl dX2_share_133 ?_
                refine xr_icmp_ne (tgt := 148) E dX2_share_135 (by decide) ⟨by omega, by omega⟩ ⟨by omega, by omega⟩ (fun c_135 => ?_) (fun c_135 => ?_)
                · have c_135 := c_135
                  refine xr_iconst E dX2_share_148 ?_
                  refine xr_iadd E dX2_share_149 ?_
                  refine xr_istore (lv' := [(6, .int (iI (ah + 0))), (5, .int (iI (lf - (((tot (t / 4)) * (ind u)) / xInd ind q (t / 4))))), (8, .int (iI (((tot (t / 4)) * (ind u)) % xInd ind q (t / 4)))), (0, .ref hF), (1, .int (iI t)), (2, .int (iI (t / 4))), (3, .int (iI (xInd ind q (t / 4)))), (4, .int (iI (((tot (t / 4)) * (ind t)) % xInd ind q (t / 4)))), (7, .int (iI u))]) E hl dX2_share_150 (by decide) rfl (fun ls hl => ?_)
                  refine xr_iinc (k := 8) (lv' := [(7, .int (iI (u + 1))), (6, .int (iI (ah + 0))), (5, .int (iI (lf - (((tot (t / 4)) * (ind u)) / xInd ind q (t / 4))))), (8, .int (iI (((tot (t / 4)) * (ind u)) % xInd ind q (t / 4)))), (0, .ref hF), (1, .int (iI t)), (2, .int (iI (t / 4))), (3, .int (iI (xInd ind q (t / 4)))), (4, .int (iI (((tot (t / 4)) * (ind t)) % xInd ind q (t / 4))))]) E hl rfl dX2_share_152 (by decide) rfl (fun ls hl => ?_)
                  refine xr_goto (tgt := 64) E dX2_share_155 (by decide) ?_
                  exact ih_64_1 (n + 1) (lf - (((tot (t / 4)) * (ind u)) / xInd ind q (t / 4))) (ah + 0) (u + 1) (by omega) (by omega) (by rw [sumI_s, ← hu, hlf]; omega) (by rw [sumI_s, ← hah, ← hu]; (repeat' split) <;> omega) (by omega) (by omega) _ _ _ hX (lv_sub hl [4, 5, 6, 7, 8, 2, 1, 0] rfl)
                · have c_135 := c_135
                  refine xr_iload E hl 8 rfl dX2_share_138 ?_
                  refine xr_iload_n E hl 3 rfl dX2_share_140 rfl ?_
                  refine xr_icmp_ge (tgt := 148) E dX2_share_141 (by decide) ⟨by omega, by omega⟩ ⟨by omega, by omega⟩ (fun c_141 => ?_) (fun c_141 => ?_)
                  · have c_141 := c_141
                    refine xr_iconst E dX2_share_148 ?_
                    refine xr_iadd E dX2_share_149 ?_
                    refine xr_istore (lv' := [(6, .int (iI (ah + 0))), (5, .int (iI (lf - (((tot (t / 4)) * (ind u)) / xInd ind q (t / 4))))), (8, .int (iI (((tot (t / 4)) * (ind u)) % xInd ind q (t / 4)))), (0, .ref hF), (1, .int (iI t)), (2, .int (iI (t / 4))), (3, .int (iI (xInd ind q (t / 4)))), (4, .int (iI (((tot (t / 4)) * (ind t)) % xInd ind q (t / 4)))), (7, .int (iI u))]) E hl dX2_share_150 (by decide) rfl (fun ls hl => ?_)
                    refine xr_iinc (k := 8) (lv' := [(7, .int (iI (u + 1))), (6, .int (iI (ah + 0))), (5, .int (iI (lf - (((tot (t / 4)) * (ind u)) / xInd ind q (t / 4))))), (8, .int (iI (((tot (t / 4)) * (ind u)) % xInd ind q (t / 4)))), (0, .ref hF), (1, .int (iI t)), (2, .int (iI (t / 4))), (3, .int (iI (xInd ind q (t / 4)))), (4, .int (iI (((tot (t / 4)) * (ind t)) % xInd ind q (t / 4))))]) E hl rfl dX2_share_152 (by decide) rfl (fun ls hl => ?_)
                    refine xr_goto (tgt := 64) E dX2_share_155 (by decide) ?_
                    exact ih_64_1 (n + 1) (lf - (((tot (t / 4)) * (ind u)) / xInd ind q (t / 4))) (ah + 0) (u + 1) (by omega) (by omega) (by rw [sumI_s, ← hu, hlf]; omega) (by rw [sumI_s, ← hah, ← hu]; (repeat' split) <;> omega) (by omega) (by omega) _ _ _ hX (lv_sub hl [4, 5, 6, 7, 8, 2, 1, 0] rfl)
                  · have c_141 := c_141
                    refine xr_iconst E dX2_share_144 ?_
                    refine xr_goto (tgt := 149) E dX2_share_145 (by decide) ?_
                    refine xr_iadd E dX2_share_149 ?_
                    refine xr_istore (lv' := [(6, .int (iI (ah + 1))), (5, .int (iI (lf - (((tot (t / 4)) * (ind u)) / xInd ind q (t / 4))))), (8, .int (iI (((tot (t / 4)) * (ind u)) % xInd ind q (t / 4)))), (0, .ref hF), (1, .int (iI t)), (2, .int (iI (t / 4))), (3, .int (iI (xInd ind q (t / 4)))), (4, .int (iI (((tot (t / 4)) * (ind t)) % xInd ind q (t / 4)))), (7, .int (iI u))]) E hl dX2_share_150 (by decide) rfl (fun ls hl => ?_)
                    refine xr_iinc (k := 8) (lv' := [(7, .int (iI (u + 1))), (6, .int (iI (ah + 1))), (5, .int (iI (lf - (((tot (t / 4)) * (ind u)) / xInd ind q (t / 4))))), (8, .int (iI (((tot (t / 4)) * (ind u)) % xInd ind q (t / 4)))), (0, .ref hF), (1, .int (iI t)), (2, .int (iI (t / 4))), (3, .int (iI (xInd ind q (t / 4)))), (4, .int (iI (((tot (t / 4)) * (ind t)) % xInd ind q (t / 4))))]) E hl rfl dX2_share_152 (by decide) rfl (fun ls hl => ?_)
                    refine xr_goto (tgt := 64) E dX2_share_155 (by decide) ?_
                    exact ih_64_1 (n + 1) (lf - (((tot (t / 4)) * (ind u)) / xInd ind q (t / 4))) (ah + 1) (u + 1) (by omega) (by omega) (by rw [sumI_s, ← hu, hlf]; omega) (by rw [sumI_s, ← hah, ← hu]; (repeat' split) <;> omega) (by omega) (by omega) _ _ _ hX (lv_sub hl [4, 5, 6, 7, 8, 2, 1, 0] rfl)
      exact L_64_1 _ 0 (tot (t / 4)) 0 (4 * (t / 4)) (Nat.lt_succ_self _) (by omega) (by rw [sumI_0]; omega) (sumI_0 _ _).symm (by omega) (by omega) _ _ _ hX (lv_sub hl [6, 7, 5, 4, 3, 2, 1, 0] rfl)
    · have c_21 := c_21
      refine xr_aload_n E hl 2 rfl dX2_share_24 rfl ?_
      refine xr_get E hX 0 rfl rfl ly_X2 0 (by decide) fl_X2_9 rfl dX2_share_25 ?_
      refine xr_iload_n E hl 3 rfl dX2_share_28 rfl ?_
      refine xr_iald E hX 1 rfl (by omega) (by omega) (by decide) dX2_share_29 ?_
      exact xr_iret E hX hQ () hr (by unfold xShare; rw [if_pos (by omega)]) rfl dX2_share_30
theorem mul_bd2 {a b : Int} (h0 : -2000 ≤ a) (h1 : a ≤ 2000) (h2 : 0 ≤ b) (h3 : b ≤ 99) : -198000 ≤ a * b ∧ a * b ≤ 198000 := by
  have e1 : (a + 2000) * b = a * b + 2000 * b := Int.add_mul _ _ _
  have e2 : (2000 - a) * b = 2000 * b - a * b := Int.sub_mul _ _ _
  have q1 := Int.mul_nonneg (show 0 ≤ a + 2000 by omega) h2
  have q2 := Int.mul_nonneg (show 0 ≤ 2000 - a by omega) h2
  omega
abbrev rm_X2_movement : Room := { frames := 0, cells := 0, slots := 0, locals := 0 }
set_option maxHeartbeats 4000000 in
set_option maxRecDepth 100000 in
theorem c_X2_movement (l : Launch) (D : va_G) (y : CY) (z sz : Nat) (hF a_ind a_tot a_pri a_x : Nat) (ind : Int → Int) (tot : Int → Int) (pri : Int → Int) (q : Int) (fr : Int) (li : Int) (sh : Int) (x : Int → Int) (k : Int) (H_I : FI ind tot pri q fr li sh) (hx : ∀ t : Int, 0 ≤ t → t < q → -2000 ≤ x t ∧ x t ≤ 2000) (hk : sm k) : Met l yX2_movement (Cond.code yX2_movement cX2_movement 8 (some .long) :: TW) rm_X2_movement (va_Pc [.ref hF, .ref a_x, .int (iI k)] (PX D y z (W_Fx y hF a_ind a_tot a_pri a_x ind tot pri q fr li sh x) sz)) (va_Ql (fun (r : Int64) (uu : Unit) => r = lI (xMoved ind x q k)) (fun uu t => BX D (W_Fx y hF a_ind a_tot a_pri a_x ind tot pri q fr li sh x) (va_A (W_Fx y hF a_ind a_tot a_pri a_x ind tot pri q fr li sh x) sz) t) (va_A (W_Fx y hF a_ind a_tot a_pri a_x ind tot pri q fr li sh x) sz)) 0 0 (va_A (W_Fx y hF a_ind a_tot a_pri a_x ind tot pri q fr li sh x) sz) := by
  refine xm_l (by decide) (Nat.le_of_ble_eq_true rfl) (fun p e s m args below meth cX ls A Q E hr hnm hX hl hQ => ?_)
  have hl : lv_has ls 8 [(0, .ref hF), (1, .ref a_x), (2, .int (iI k))] := hl
  have hq := H_I.q
  have hfr := H_I.fr
  have hli := H_I.li
  have hsh := H_I.sh
  refine xr_lconst (v := 0) E dX2_movement_0 (by decide) ?_
  refine xr_lstore_n (lv' := [(3, .long (lI 0)), (0, .ref hF), (1, .ref a_x), (2, .int (iI k))]) E hl dX2_movement_1 rfl (by decide) rfl (fun ls hl => ?_)
  refine xr_iconst E dX2_movement_2 ?_
  refine xr_istore (lv' := [(5, .int (iI 1)), (3, .long (lI 0)), (0, .ref hF), (1, .ref a_x), (2, .int (iI k))]) E hl dX2_movement_3 (by decide) rfl (fun ls hl => ?_)
  have L_5_1 : ∀ (nmu : Nat) (n : Nat) (acc : Int) (t : Int), 12 - n < nmu → (t = 1 + n) → (acc = sumI (fun t => mvI ind x k t * mvI ind x k t) 1 n) → ((n : Int) ≤ q ∧ (n = 0 ∨ (n : Int) + 1 ≤ q)) → ∀ (H : Heap) (locs : List Loc) (ls : Array Slot), XW D A s.heap (W_Fx y hF a_ind a_tot a_pri a_x ind tot pri q fr li sh x) H locs → lv_has ls 8 [(0, .ref hF), (1, .ref a_x), (2, .int (iI k)), (3, .long (lI acc)), (5, .int (iI t))] → W p l e rm_X2_movement s m args below meth cX H locs 0 0 Q (F0 m 5 ls []) := by
    intro nmu
    induction nmu with
    | zero =>
      intro n acc t hmu
      exact absurd hmu (Nat.not_lt_zero _)
    | succ nmu ih =>
      intro n acc t hmu ht ha hn H locs ls hX hl
      have ih_5_1 := ih
      clear ih
      refine xr_iload E hl 4 rfl dX2_movement_5 ?_
      refine xr_aload_n E hl 0 rfl dX2_movement_7 rfl ?_
      refine xr_get E hX 0 rfl rfl ly_X2 3 (by decide) fl_X2_21 rfl dX2_movement_8 ?_
      refine xr_icmp_ge (tgt := 104) E dX2_movement_11 (by decide) ⟨by omega, by omega⟩ ⟨by omega, by omega⟩ (fun c_11 => ?_) (fun c_11 => ?_)
      · have c_11 := c_11
        refine xr_lload_n E hl 3 rfl dX2_movement_104 rfl ?_
        exact xr_lret E hX hQ () hr (by rw [ha, xMoved, show (q - 1).toNat = n by omega]) rfl dX2_movement_105
      · have c_11 := c_11
        refine xr_iload E hl 4 rfl dX2_movement_14 ?_
        refine xr_aload_n E hl 1 rfl dX2_movement_16 rfl ?_
        refine xr_alen (v := 12) E hX 4 0 rfl rfl rfl dX2_movement_17 ?_
        refine xr_icmp_ge (tgt := 104) E dX2_movement_18 (by decide) ⟨by omega, by omega⟩ (by decide) (fun c_18 => ?_) (fun c_18 => ?_)
        · have c_18 := c_18
          refine xr_lload_n E hl 3 rfl dX2_movement_104 rfl ?_
          exact xr_lret E hX hQ () hr (by rw [ha, xMoved, show (q - 1).toNat = n by omega]) rfl dX2_movement_105
        · have c_18 := c_18
          have hx1 := hx t (by omega) (by omega)
          have hx2 := hx (t - 1) (by omega) (by omega)
          have hi1 := H_I.ind (t := t) (by omega) (by omega)
          have hi2 := H_I.ind (t := t - 1) (by omega) (by omega)
          have hp1 := mul_bd2 (a := x t) (b := ind (t - 1)) (by omega) (by omega) (by omega) (by omega)
          have hp2 := mul_bd2 (a := x (t - 1)) (b := ind t) (by omega) (by omega) (by omega) (by omega)
          refine xr_iload_n E hl 2 rfl dX2_movement_21 rfl ?_
          refine xr_if_ne (tgt := 58) E dX2_movement_22 (by decide) ⟨by omega, by omega⟩ (fun c_22 => ?_) (fun c_22 => ?_)
          · have c_22 := c_22
            refine xr_aload_n E hl 1 rfl dX2_movement_58 rfl ?_
            refine xr_iload E hl 4 rfl dX2_movement_59 ?_
            refine xr_iald E hX 4 rfl (by omega) (by omega) (by decide) dX2_movement_61 ?_
            refine xr_aload_n E hl 0 rfl dX2_movement_62 rfl ?_
            refine xr_get E hX 0 rfl rfl ly_X2 0 (by decide) fl_X2_9 rfl dX2_movement_63 ?_
            refine xr_iload E hl 4 rfl dX2_movement_66 ?_
            refine xr_iconst E dX2_movement_68 ?_
            refine xr_isub E dX2_movement_69 ?_
            refine xr_iald E hX 1 rfl (by omega) (by omega) (by decide) dX2_movement_70 ?_
            refine xr_imul E dX2_movement_71 ?_
            refine xr_aload_n E hl 1 rfl dX2_movement_72 rfl ?_
            refine xr_iload E hl 4 rfl dX2_movement_73 ?_
            refine xr_iconst E dX2_movement_75 ?_
            refine xr_isub E dX2_movement_76 ?_
            refine xr_iald E hX 4 rfl (by omega) (by omega) (by decide) dX2_movement_77 ?_
            refine xr_aload_n E hl 0 rfl dX2_movement_78 rfl ?_
            refine xr_get E hX 0 rfl rfl ly_X2 0 (by decide) fl_X2_9 rfl dX2_movement_79 ?_
            refine xr_iload E hl 4 rfl dX2_movement_82 ?_
            refine xr_iald E hX 1 rfl (by omega) (by omega) (by decide) dX2_movement_84 ?_
            refine xr_imul E dX2_movement_85 ?_
            refine xr_isub E dX2_movement_86 ?_
            refine xr_i2l E dX2_movement_87 ⟨by omega, by omega⟩ ?_
            refine xr_lstore (lv' := [(6, .long (lI (((x t) * (ind (t - 1))) - ((x (t - 1)) * (ind t))))), (0, .ref hF), (1, .ref a_x), (2, .int (iI k)), (3, .long (lI acc)), (5, .int (iI t))]) E hl dX2_movement_88 (by decide) rfl (fun ls hl => ?_)
            refine xr_lload_n E hl 4 rfl dX2_movement_90 rfl ?_
            refine xr_lload E hl 0 rfl dX2_movement_91 ?_
            refine xr_lload E hl 0 rfl dX2_movement_93 ?_
            refine xr_lmul E dX2_movement_95 ?_
            refine xr_ladd E dX2_movement_96 ?_
            refine xr_lstore_n (lv' := [(3, .long (lI (acc + ((((x t) * (ind (t - 1))) - ((x (t - 1)) * (ind t))) * (((x t) * (ind (t - 1))) - ((x (t - 1)) * (ind t))))))), (6, .long (lI (((x t) * (ind (t - 1))) - ((x (t - 1)) * (ind t))))), (0, .ref hF), (1, .ref a_x), (2, .int (iI k)), (5, .int (iI t))]) E hl dX2_movement_97 rfl (by decide) rfl (fun ls hl => ?_)
            refine xr_iinc (k := 5) (lv' := [(5, .int (iI (t + 1))), (3, .long (lI (acc + ((((x t) * (ind (t - 1))) - ((x (t - 1)) * (ind t))) * (((x t) * (ind (t - 1))) - ((x (t - 1)) * (ind t))))))), (6, .long (lI (((x t) * (ind (t - 1))) - ((x (t - 1)) * (ind t))))), (0, .ref hF), (1, .ref a_x), (2, .int (iI k))]) E hl rfl dX2_movement_98 (by decide) rfl (fun ls hl => ?_)
            refine xr_goto (tgt := 5) E dX2_movement_101 (by decide) ?_
            exact ih_5_1 (n + 1) (acc + ((((x t) * (ind (t - 1))) - ((x (t - 1)) * (ind t))) * (((x t) * (ind (t - 1))) - ((x (t - 1)) * (ind t))))) (t + 1) (by omega) (by omega) (by rw [sumI_s, ← ha, ← ht]; unfold mvI; first | rw [if_pos c_22] | rw [if_neg c_22]) (by omega) _ _ _ hX (lv_sub hl [3, 4, 5, 1, 0] rfl)
          · have c_22 := c_22
            refine xr_aload_n E hl 1 rfl dX2_movement_25 rfl ?_
            refine xr_iload E hl 4 rfl dX2_movement_26 ?_
            refine xr_iald E hX 4 rfl (by omega) (by omega) (by decide) dX2_movement_28 ?_
            refine xr_aload_n E hl 0 rfl dX2_movement_29 rfl ?_
            refine xr_get E hX 0 rfl rfl ly_X2 0 (by decide) fl_X2_9 rfl dX2_movement_30 ?_
            refine xr_iload E hl 4 rfl dX2_movement_33 ?_
            refine xr_iald E hX 1 rfl (by omega) (by omega) (by decide) dX2_movement_35 ?_
            refine xr_isub E dX2_movement_36 ?_
            refine xr_aload_n E hl 1 rfl dX2_movement_37 rfl ?_
            refine xr_iload E hl 4 rfl dX2_movement_38 ?_
            refine xr_iconst E dX2_movement_40 ?_
            refine xr_isub E dX2_movement_41 ?_
            refine xr_iald E hX 4 rfl (by omega) (by omega) (by decide) dX2_movement_42 ?_
            refine xr_aload_n E hl 0 rfl dX2_movement_43 rfl ?_
            refine xr_get E hX 0 rfl rfl ly_X2 0 (by decide) fl_X2_9 rfl dX2_movement_44 ?_
            refine xr_iload E hl 4 rfl dX2_movement_47 ?_
            refine xr_iconst E dX2_movement_49 ?_
            refine xr_isub E dX2_movement_50 ?_
            refine xr_iald E hX 1 rfl (by omega) (by omega) (by decide) dX2_movement_51 ?_
            refine xr_isub E dX2_movement_52 ?_
            refine xr_isub E dX2_movement_53 ?_
            refine xr_i2l E dX2_movement_54 ⟨by omega, by omega⟩ ?_
            refine xr_goto (tgt := 88) E dX2_movement_55 (by decide) ?_
            refine xr_lstore (lv' := [(6, .long (lI (((x t) - (ind t)) - ((x (t - 1)) - (ind (t - 1)))))), (0, .ref hF), (1, .ref a_x), (2, .int (iI k)), (3, .long (lI acc)), (5, .int (iI t))]) E hl dX2_movement_88 (by decide) rfl (fun ls hl => ?_)
            refine xr_lload_n E hl 4 rfl dX2_movement_90 rfl ?_
            refine xr_lload E hl 0 rfl dX2_movement_91 ?_
            refine xr_lload E hl 0 rfl dX2_movement_93 ?_
            refine xr_lmul E dX2_movement_95 ?_
            refine xr_ladd E dX2_movement_96 ?_
            refine xr_lstore_n (lv' := [(3, .long (lI (acc + ((((x t) - (ind t)) - ((x (t - 1)) - (ind (t - 1)))) * (((x t) - (ind t)) - ((x (t - 1)) - (ind (t - 1)))))))), (6, .long (lI (((x t) - (ind t)) - ((x (t - 1)) - (ind (t - 1)))))), (0, .ref hF), (1, .ref a_x), (2, .int (iI k)), (5, .int (iI t))]) E hl dX2_movement_97 rfl (by decide) rfl (fun ls hl => ?_)
            refine xr_iinc (k := 5) (lv' := [(5, .int (iI (t + 1))), (3, .long (lI (acc + ((((x t) - (ind t)) - ((x (t - 1)) - (ind (t - 1)))) * (((x t) - (ind t)) - ((x (t - 1)) - (ind (t - 1)))))))), (6, .long (lI (((x t) - (ind t)) - ((x (t - 1)) - (ind (t - 1)))))), (0, .ref hF), (1, .ref a_x), (2, .int (iI k))]) E hl rfl dX2_movement_98 (by decide) rfl (fun ls hl => ?_)
            refine xr_goto (tgt := 5) E dX2_movement_101 (by decide) ?_
            exact ih_5_1 (n + 1) (acc + ((((x t) - (ind t)) - ((x (t - 1)) - (ind (t - 1)))) * (((x t) - (ind t)) - ((x (t - 1)) - (ind (t - 1)))))) (t + 1) (by omega) (by omega) (by rw [sumI_s, ← ha, ← ht]; unfold mvI; first | rw [if_pos c_22] | rw [if_neg c_22]) (by omega) _ _ _ hX (lv_sub hl [3, 4, 5, 1, 0] rfl)
  exact L_5_1 _ 0 0 1 (Nat.lt_succ_self _) (by omega) (sumI_0 _ _).symm (by omega) _ _ _ hX (lv_sub hl [2, 3, 4, 1, 0] rfl)
abbrev rm_X2_becomes : Room := { frames := 1, cells := 0, slots := 0, locals := 60 }
set_option maxHeartbeats 4000000 in
set_option maxRecDepth 100000 in
theorem c_X2_becomes (l : Launch) (D : va_G) (y : CY) (z sz : Nat) (hF a_ind a_tot a_pri ohF oa_ind oa_tot oa_pri : Nat) (ind : Int → Int) (tot : Int → Int) (pri : Int → Int) (q : Int) (fr : Int) (li : Int) (sh : Int) (oind : Int → Int) (otot : Int → Int) (opri : Int → Int) (oq : Int) (ofr : Int) (oli : Int) (osh : Int) : Met l yX2_becomes (Cond.code yX2_becomes cX2_becomes 2 none :: TW) rm_X2_becomes (va_Pc [.ref hF, .ref ohF] (PX D y z (W_FF y hF a_ind a_tot a_pri ohF oa_ind oa_tot oa_pri ind tot pri q fr li sh oind otot opri oq ofr oli osh) sz)) (va_Qv (fun (uu : (Int → Int) × (Int → Int) × (Int → Int) × (Int) × (Int) × (Int) × (Int)) => uu = (oind, otot, opri, oq, ofr, oli, osh)) (fun uu t => BX D (W_FF y hF a_ind a_tot a_pri ohF oa_ind oa_tot oa_pri uu.1 uu.2.1 uu.2.2.1 uu.2.2.2.1 uu.2.2.2.2.1 uu.2.2.2.2.2.1 uu.2.2.2.2.2.2 oind otot opri oq ofr oli osh) (va_A (W_FF y hF a_ind a_tot a_pri ohF oa_ind oa_tot oa_pri ind tot pri q fr li sh oind otot opri oq ofr oli osh) sz) t) (va_A (W_FF y hF a_ind a_tot a_pri ohF oa_ind oa_tot oa_pri ind tot pri q fr li sh oind otot opri oq ofr oli osh) sz)) 0 0 (va_A (W_FF y hF a_ind a_tot a_pri ohF oa_ind oa_tot oa_pri ind tot pri q fr li sh oind otot opri oq ofr oli osh) sz) := by
  refine xm_v (by decide) (Nat.le_of_ble_eq_true rfl) (fun p e s m args below meth cX ls A Q E hr hnm hX hl hQ => ?_)
  have hl : lv_has ls 2 [(0, .ref hF), (1, .ref ohF)] := hl
  refine xr_aload_n E hl 1 rfl dX2_becomes_0 rfl ?_
  refine xr_get E hX 4 rfl rfl ly_X2 0 (by decide) fl_X2_9 rfl dX2_becomes_1 ?_
  refine xr_iconst E dX2_becomes_4 ?_
  refine xr_aload_n E hl 0 rfl dX2_becomes_5 rfl ?_
  refine xr_get E hX 0 rfl rfl ly_X2 0 (by decide) fl_X2_9 rfl dX2_becomes_6 ?_
  refine xr_iconst E dX2_becomes_9 ?_
  refine xr_bipush E dX2_becomes_10 (by decide) ?_
  refine xr_copy (W1 := (W_FF y hF a_ind a_tot a_pri ohF oa_ind oa_tot oa_pri oind tot pri q fr li sh oind otot opri oq ofr oli osh)) E hX hl ml_X2_34 5 1 rfl rfl rfl (by decide) rfl (by decide) dX2_becomes_12 (fun H locs hX => ?_)
  refine xr_aload_n E hl 1 rfl dX2_becomes_15 rfl ?_
  refine xr_get E hX 4 rfl rfl ly_X2 1 (by decide) fl_X2_15 rfl dX2_becomes_16 ?_
  refine xr_iconst E dX2_becomes_19 ?_
  refine xr_aload_n E hl 0 rfl dX2_becomes_20 rfl ?_
  refine xr_get E hX 0 rfl rfl ly_X2 1 (by decide) fl_X2_15 rfl dX2_becomes_21 ?_
  refine xr_iconst E dX2_becomes_24 ?_
  refine xr_iconst E dX2_becomes_25 ?_
  refine xr_copy (W1 := (W_FF y hF a_ind a_tot a_pri ohF oa_ind oa_tot oa_pri oind otot pri q fr li sh oind otot opri oq ofr oli osh)) E hX hl ml_X2_34 6 2 rfl rfl rfl (by decide) rfl (by decide) dX2_becomes_26 (fun H locs hX => ?_)
  refine xr_aload_n E hl 1 rfl dX2_becomes_29 rfl ?_
  refine xr_get E hX 4 rfl rfl ly_X2 2 (by decide) fl_X2_18 rfl dX2_becomes_30 ?_
  refine xr_iconst E dX2_becomes_33 ?_
  refine xr_aload_n E hl 0 rfl dX2_becomes_34 rfl ?_
  refine xr_get E hX 0 rfl rfl ly_X2 2 (by decide) fl_X2_18 rfl dX2_becomes_35 ?_
  refine xr_iconst E dX2_becomes_38 ?_
  refine xr_bipush E dX2_becomes_39 (by decide) ?_
  refine xr_copy (W1 := (W_FF y hF a_ind a_tot a_pri ohF oa_ind oa_tot oa_pri oind otot opri q fr li sh oind otot opri oq ofr oli osh)) E hX hl ml_X2_34 7 3 rfl rfl rfl (by decide) rfl (by decide) dX2_becomes_41 (fun H locs hX => ?_)
  refine xr_aload_n E hl 0 rfl dX2_becomes_44 rfl ?_
  refine xr_aload_n E hl 1 rfl dX2_becomes_45 rfl ?_
  refine xr_get E hX 4 rfl rfl ly_X2 3 (by decide) fl_X2_21 rfl dX2_becomes_46 ?_
  refine xr_put (W1 := (W_FF y hF a_ind a_tot a_pri ohF oa_ind oa_tot oa_pri oind otot opri oq fr li sh oind otot opri oq ofr oli osh)) E hX 0 rfl rfl ly_X2 tyX2_ok nmX2 3 (by decide) fl_X2_21 rfl rfl rfl (Nat.le_of_ble_eq_true rfl) rfl dX2_becomes_49 (fun H locs hX => ?_)
  refine xr_aload_n E hl 0 rfl dX2_becomes_52 rfl ?_
  refine xr_aload_n E hl 1 rfl dX2_becomes_53 rfl ?_
  refine xr_get E hX 4 rfl rfl ly_X2 4 (by decide) fl_X2_25 rfl dX2_becomes_54 ?_
  refine xr_put (W1 := (W_FF y hF a_ind a_tot a_pri ohF oa_ind oa_tot oa_pri oind otot opri oq ofr li sh oind otot opri oq ofr oli osh)) E hX 0 rfl rfl ly_X2 tyX2_ok nmX2 4 (by decide) fl_X2_25 rfl rfl rfl (Nat.le_of_ble_eq_true rfl) rfl dX2_becomes_57 (fun H locs hX => ?_)
  refine xr_aload_n E hl 0 rfl dX2_becomes_60 rfl ?_
  refine xr_aload_n E hl 1 rfl dX2_becomes_61 rfl ?_
  refine xr_get E hX 4 rfl rfl ly_X2 5 (by decide) fl_X2_28 rfl dX2_becomes_62 ?_
  refine xr_put (W1 := (W_FF y hF a_ind a_tot a_pri ohF oa_ind oa_tot oa_pri oind otot opri oq ofr oli sh oind otot opri oq ofr oli osh)) E hX 0 rfl rfl ly_X2 tyX2_ok nmX2 5 (by decide) fl_X2_28 rfl rfl rfl (Nat.le_of_ble_eq_true rfl) rfl dX2_becomes_65 (fun H locs hX => ?_)
  refine xr_aload_n E hl 0 rfl dX2_becomes_68 rfl ?_
  refine xr_aload_n E hl 1 rfl dX2_becomes_69 rfl ?_
  refine xr_get E hX 4 rfl rfl ly_X2 6 (by decide) fl_X2_31 rfl dX2_becomes_70 ?_
  refine xr_put (W1 := (W_FF y hF a_ind a_tot a_pri ohF oa_ind oa_tot oa_pri oind otot opri oq ofr oli osh oind otot opri oq ofr oli osh)) E hX 0 rfl rfl ly_X2 tyX2_ok nmX2 6 (by decide) fl_X2_31 rfl rfl rfl (Nat.le_of_ble_eq_true rfl) rfl dX2_becomes_73 (fun H locs hX => ?_)
  exact xr_vret E hX hQ (oind, otot, opri, oq, ofr, oli, osh) hr rfl rfl dX2_becomes_76
