/-! Bounds -/
abbrev W_B (y : CY) (hB a_low a_high a_ll a_lh a_bnd a_gap : Nat) (low : Int → Int) (high : Int → Int) (ll : Int → Int) (lh : Int → Int) (bnd : Int → Bool) (gap : Int → Int) (bq : Int) : va_W := [(hB, .inr (1, [.ref a_low, .ref a_high, .ref a_ll, .ref a_lh, .ref a_bnd, .ref a_gap, .int (iI bq)])), (a_low, .inl (y.1, 12, .inl (ia low))), (a_high, .inl (y.1, 12, .inl (ia high))), (a_ll, .inl (y.1, 12, .inl (ia ll))), (a_lh, .inl (y.1, 12, .inl (ia lh))), (a_bnd, .inl (y.2.2.1, 3, .inl (ba bnd))), (a_gap, .inl (y.1, 3, .inl (ia gap)))]
abbrev W_BF (y : CY) (hB a_low a_high a_ll a_lh a_bnd a_gap hF a_ind a_tot a_pri : Nat) (low : Int → Int) (high : Int → Int) (ll : Int → Int) (lh : Int → Int) (bnd : Int → Bool) (gap : Int → Int) (bq : Int) (ind : Int → Int) (tot : Int → Int) (pri : Int → Int) (q : Int) (fr : Int) (li : Int) (sh : Int) : va_W := [(hB, .inr (1, [.ref a_low, .ref a_high, .ref a_ll, .ref a_lh, .ref a_bnd, .ref a_gap, .int (iI bq)])), (a_low, .inl (y.1, 12, .inl (ia low))), (a_high, .inl (y.1, 12, .inl (ia high))), (a_ll, .inl (y.1, 12, .inl (ia ll))), (a_lh, .inl (y.1, 12, .inl (ia lh))), (a_bnd, .inl (y.2.2.1, 3, .inl (ba bnd))), (a_gap, .inl (y.1, 3, .inl (ia gap))), (hF, .inr (2, [.ref a_ind, .ref a_tot, .ref a_pri, .int (iI q), .int (iI fr), .int (iI li), .int (iI sh)])), (a_ind, .inl (y.1, 12, .inl (ia ind))), (a_tot, .inl (y.1, 3, .inl (ia tot))), (a_pri, .inl (y.1, 12, .inl (ia pri)))]
abbrev rm_X1_laysQuarter : Room := { frames := 1, cells := 0, slots := 0, locals := 30 }
set_option maxHeartbeats 4000000 in
set_option maxRecDepth 100000 in
theorem c_X1_laysQuarter (l : Launch) (D : va_G) (y : CY) (z sz : Nat) (hB a_low a_high a_ll a_lh a_bnd a_gap hF a_ind a_tot a_pri : Nat) (low : Int → Int) (high : Int → Int) (ll : Int → Int) (lh : Int → Int) (bnd : Int → Bool) (gap : Int → Int) (bq : Int) (ind : Int → Int) (tot : Int → Int) (pri : Int → Int) (q : Int) (fr : Int) (li : Int) (sh : Int) (lim : Int) (t : Int) (H_I : FI ind tot pri q fr li sh) (hlim : -1 ≤ lim ∧ lim ≤ 24) (ht : 0 ≤ t ∧ t < 12) : Met l yX1_laysQuarter (Cond.code yX1_laysQuarter cX1_laysQuarter 6 none :: TW) rm_X1_laysQuarter (va_Pc [.ref hB, .ref hF, .int (iI lim), .int (iI t)] (PX D y z (W_BF y hB a_low a_high a_ll a_lh a_bnd a_gap hF a_ind a_tot a_pri low high ll lh bnd gap bq ind tot pri q fr li sh) sz)) (va_Qv (fun (uu : (Int → Int) × (Int → Int)) => uu = (up low t (loQ ind pri fr lim t), up high t (hiQ ind pri fr lim t))) (fun uu t => BX D (W_BF y hB a_low a_high a_ll a_lh a_bnd a_gap hF a_ind a_tot a_pri uu.1 uu.2 ll lh bnd gap bq ind tot pri q fr li sh) (va_A (W_BF y hB a_low a_high a_ll a_lh a_bnd a_gap hF a_ind a_tot a_pri low high ll lh bnd gap bq ind tot pri q fr li sh) sz) t) (va_A (W_BF y hB a_low a_high a_ll a_lh a_bnd a_gap hF a_ind a_tot a_pri low high ll lh bnd gap bq ind tot pri q fr li sh) sz)) 0 0 (va_A (W_BF y hB a_low a_high a_ll a_lh a_bnd a_gap hF a_ind a_tot a_pri low high ll lh bnd gap bq ind tot pri q fr li sh) sz) := by
  refine xm_v (by decide) (Nat.le_of_ble_eq_true rfl) (fun p e s m args below meth cX ls A Q E hr hnm hX hl hQ => ?_)
  have hl : lv_has ls 6 [(0, .ref hB), (1, .ref hF), (2, .int (iI lim)), (3, .int (iI t))] := hl
  have hq := H_I.q
  have hfr := H_I.fr
  have hli := H_I.li
  have hsh := H_I.sh
  have hip := H_I.pri ht.1 ht.2
  have hii := H_I.ind ht.1 ht.2
  have hb1 := bAnd1 (bShr fr t)
  have e1 := up_same low t (-8)
  have e2 := up_same high t 8
  refine xr_aload_n E hl 0 rfl dX1_laysQuarter_0 rfl ?_
  refine xr_get E hX 0 rfl rfl ly_X1 0 (by decide) fl_X1_9 rfl dX1_laysQuarter_1 ?_
  refine xr_iload_n E hl 3 rfl dX1_laysQuarter_4 rfl ?_
  refine xr_bipush E dX1_laysQuarter_5 (by decide) ?_
  refine xr_iast (W1 := (W_BF y hB a_low a_high a_ll a_lh a_bnd a_gap hF a_ind a_tot a_pri (up low t (-8)) high ll lh bnd gap bq ind tot pri q fr li sh)) E hX 1 rfl (by omega) (by omega) (by decide) rfl dX1_laysQuarter_7 (fun H locs hX => ?_)
  refine xr_aload_n E hl 0 rfl dX1_laysQuarter_8 rfl ?_
  refine xr_get E hX 0 rfl rfl ly_X1 1 (by decide) fl_X1_15 rfl dX1_laysQuarter_9 ?_
  refine xr_iload_n E hl 3 rfl dX1_laysQuarter_12 rfl ?_
  refine xr_bipush E dX1_laysQuarter_13 (by decide) ?_
  refine xr_iast (W1 := (W_BF y hB a_low a_high a_ll a_lh a_bnd a_gap hF a_ind a_tot a_pri (up low t (-8)) (up high t 8) ll lh bnd gap bq ind tot pri q fr li sh)) E hX 2 rfl (by omega) (by omega) (by decide) rfl dX1_laysQuarter_15 (fun H locs hX => ?_)
  refine xr_aload_n E hl 1 rfl dX1_laysQuarter_16 rfl ?_
  refine xr_iload_n E hl 3 rfl dX1_laysQuarter_17 rfl ?_
  refine xk_ri E hX [7, 8, 9, 10] rfl (xv_V (As := [.int (iI t)]) E hX hl (c_X2_isFrozen l D y z _ hF a_ind a_tot a_pri ind tot pri q fr li sh t) ml_X1_53 im_X2_isFrozen se_X2_isFrozen in_X2 co_X2_isFrozen 1 (by decide) ⟨rfl, rfl⟩ ⟨Nat.le_of_ble_eq_true rfl, Nat.le_of_ble_eq_true rfl⟩ [7, 8, 9, 10] rfl rfl 7 rfl rfl rfl rfl rfl (Nat.le_of_ble_eq_true rfl) dX1_laysQuarter_18 ⟨Nat.le_refl _, Nat.le_refl _⟩) (fun r_18 H locs hw hX => ?_)
  subst hw
  refine xr_if_eqB (tgt := 28) E dX1_laysQuarter_21 (by decide) (fun c_21 => ?_) (fun c_21 => ?_)
  · have c_21 := of_decide_eq_false c_21
    refine xr_iload_n E hl 2 rfl dX1_laysQuarter_28 rfl ?_
    refine xr_istore (lv' := [(4, .int (iI lim)), (0, .ref hB), (1, .ref hF), (2, .int (iI lim)), (3, .int (iI t))]) E hl dX1_laysQuarter_29 (by decide) rfl (fun ls hl => ?_)
    refine xr_aload_n E hl 2 rfl dX1_laysQuarter_31 rfl ?_
    refine xr_iload_n E hl 4 rfl dX1_laysQuarter_32 rfl ?_
    refine xk_ri E hX [7, 8, 9, 10] rfl (xv_V (As := [.int (iI t)]) E hX hl (c_X2_isPrinted l D y z _ hF a_ind a_tot a_pri ind tot pri q fr li sh t (by omega) (by have h := H_I.pri (t := t) (by omega) (by omega); exact ⟨by omega, by omega⟩)) ml_X1_56 im_X2_isPrinted se_X2_isPrinted in_X2 co_X2_isPrinted 1 (by decide) ⟨rfl, rfl⟩ ⟨Nat.le_of_ble_eq_true rfl, Nat.le_of_ble_eq_true rfl⟩ [7, 8, 9, 10] rfl rfl 7 rfl rfl rfl rfl rfl (Nat.le_of_ble_eq_true rfl) dX1_laysQuarter_33 ⟨Nat.le_refl _, Nat.le_refl _⟩) (fun r_33 H locs hw hX => ?_)
    subst hw
    refine xr_if_eqB (tgt := 103) E dX1_laysQuarter_36 (by decide) (fun c_36 => ?_) (fun c_36 => ?_)
    · have c_36 := of_decide_eq_false c_36
      exact xr_vret E hX hQ ((up low t (-8)), (up high t 8)) hr (by first | (rw [up_up, up_up, e1, e2]; unfold loQ hiQ rmQ; (repeat' split) <;> first | (exfalso; omega) | rfl | (congr 2; omega)) | (unfold loQ hiQ rmQ; (repeat' split) <;> first | (exfalso; omega) | rfl)) rfl dX1_laysQuarter_103
    · have c_36 := of_decide_eq_true c_36
      refine xr_iload E hl 0 rfl dX1_laysQuarter_39 ?_
      refine xr_iconst E dX1_laysQuarter_41 ?_
      refine xr_icmp_eq (tgt := 103) E dX1_laysQuarter_42 (by decide) ⟨by omega, by omega⟩ (by decide) (fun c_42 => ?_) (fun c_42 => ?_)
      · have c_42 := c_42
        exact xr_vret E hX hQ ((up low t (-8)), (up high t 8)) hr (by first | (rw [up_up, up_up, e1, e2]; unfold loQ hiQ rmQ; (repeat' split) <;> first | (exfalso; omega) | rfl | (congr 2; omega)) | (unfold loQ hiQ rmQ; (repeat' split) <;> first | (exfalso; omega) | rfl)) rfl dX1_laysQuarter_103
      · have c_42 := c_42
        refine xr_aload_n E hl 2 rfl dX1_laysQuarter_45 rfl ?_
        refine xr_get E hX 7 rfl rfl ly_X2 2 (by decide) fl_X1_59 rfl dX1_laysQuarter_46 ?_
        refine xr_iload_n E hl 4 rfl dX1_laysQuarter_49 rfl ?_
        refine xr_iald E hX 10 rfl (by omega) (by omega) (by decide) dX1_laysQuarter_50 ?_
        refine xr_bipush E dX1_laysQuarter_51 (by decide) ?_
        refine xr_isub E dX1_laysQuarter_53 ?_
        refine xr_aload_n E hl 2 rfl dX1_laysQuarter_54 rfl ?_
        refine xr_get E hX 7 rfl rfl ly_X2 0 (by decide) fl_X1_62 rfl dX1_laysQuarter_55 ?_
        refine xr_iload_n E hl 4 rfl dX1_laysQuarter_58 rfl ?_
        refine xr_iald E hX 8 rfl (by omega) (by omega) (by decide) dX1_laysQuarter_59 ?_
        refine xr_isub E dX1_laysQuarter_60 ?_
        refine xr_istore (lv' := [(5, .int (iI (((pri t) - 8) - (ind t)))), (4, .int (iI lim)), (0, .ref hB), (1, .ref hF), (2, .int (iI lim)), (3, .int (iI t))]) E hl dX1_laysQuarter_61 (by decide) rfl (fun ls hl => ?_)
        refine xr_aload_n E hl 2 rfl dX1_laysQuarter_63 rfl ?_
        refine xr_get E hX 0 rfl rfl ly_X1 0 (by decide) fl_X1_9 rfl dX1_laysQuarter_64 ?_
        refine xr_iload_n E hl 5 rfl dX1_laysQuarter_67 rfl ?_
        refine xr_aload_n E hl 2 rfl dX1_laysQuarter_68 rfl ?_
        refine xr_get E hX 0 rfl rfl ly_X1 0 (by decide) fl_X1_9 rfl dX1_laysQuarter_69 ?_
        refine xr_iload_n E hl 5 rfl dX1_laysQuarter_72 rfl ?_
        refine xr_iald E hX 1 rfl (by omega) (by omega) (by decide) dX1_laysQuarter_73 ?_
        refine xr_iload E hl 0 rfl dX1_laysQuarter_74 ?_
        refine xr_iload E hl 1 rfl dX1_laysQuarter_76 ?_
        refine xr_isub E dX1_laysQuarter_78 ?_
        refine xr_max E hl ml_X1_65 dX1_laysQuarter_79 ⟨Nat.le_of_ble_eq_true rfl, Nat.le_of_ble_eq_true rfl, Nat.zero_le _, Nat.zero_le _⟩ ⟨by omega, by omega⟩ ⟨by omega, by omega⟩ ?_
        refine xr_iast (W1 := (W_BF y hB a_low a_high a_ll a_lh a_bnd a_gap hF a_ind a_tot a_pri (up (up low t (-8)) t (if ((up low t (-8)) t) < ((((pri t) - 8) - (ind t)) - lim) then ((((pri t) - 8) - (ind t)) - lim) else ((up low t (-8)) t))) (up high t 8) ll lh bnd gap bq ind tot pri q fr li sh)) E hX 1 rfl (by omega) (by omega) (by decide) rfl dX1_laysQuarter_82 (fun H locs hX => ?_)
        refine xr_aload_n E hl 2 rfl dX1_laysQuarter_83 rfl ?_
        refine xr_get E hX 0 rfl rfl ly_X1 1 (by decide) fl_X1_15 rfl dX1_laysQuarter_84 ?_
        refine xr_iload_n E hl 5 rfl dX1_laysQuarter_87 rfl ?_
        refine xr_aload_n E hl 2 rfl dX1_laysQuarter_88 rfl ?_
        refine xr_get E hX 0 rfl rfl ly_X1 1 (by decide) fl_X1_15 rfl dX1_laysQuarter_89 ?_
        refine xr_iload_n E hl 5 rfl dX1_laysQuarter_92 rfl ?_
        refine xr_iald E hX 2 rfl (by omega) (by omega) (by decide) dX1_laysQuarter_93 ?_
        refine xr_iload E hl 0 rfl dX1_laysQuarter_94 ?_
        refine xr_iload E hl 1 rfl dX1_laysQuarter_96 ?_
        refine xr_iadd E dX1_laysQuarter_98 ?_
        refine xr_min E hl ml_X1_71 dX1_laysQuarter_99 ⟨Nat.le_of_ble_eq_true rfl, Nat.le_of_ble_eq_true rfl, Nat.zero_le _, Nat.zero_le _⟩ ⟨by omega, by omega⟩ ⟨by omega, by omega⟩ ?_
        refine xr_iast (W1 := (W_BF y hB a_low a_high a_ll a_lh a_bnd a_gap hF a_ind a_tot a_pri (up (up low t (-8)) t (if ((up low t (-8)) t) < ((((pri t) - 8) - (ind t)) - lim) then ((((pri t) - 8) - (ind t)) - lim) else ((up low t (-8)) t))) (up (up high t 8) t (if ((((pri t) - 8) - (ind t)) + lim) < ((up high t 8) t) then ((((pri t) - 8) - (ind t)) + lim) else ((up high t 8) t))) ll lh bnd gap bq ind tot pri q fr li sh)) E hX 2 rfl (by omega) (by omega) (by decide) rfl dX1_laysQuarter_102 (fun H locs hX => ?_)
        exact xr_vret E hX hQ ((up (up low t (-8)) t (if ((up low t (-8)) t) < ((((pri t) - 8) - (ind t)) - lim) then ((((pri t) - 8) - (ind t)) - lim) else ((up low t (-8)) t))), (up (up high t 8) t (if ((((pri t) - 8) - (ind t)) + lim) < ((up high t 8) t) then ((((pri t) - 8) - (ind t)) + lim) else ((up high t 8) t)))) hr (by first | (rw [up_up, up_up, e1, e2]; unfold loQ hiQ rmQ; (repeat' split) <;> first | (exfalso; omega) | rfl | (congr 2; omega)) | (unfold loQ hiQ rmQ; (repeat' split) <;> first | (exfalso; omega) | rfl)) rfl dX1_laysQuarter_103
  · have c_21 := of_decide_eq_true c_21
    refine xr_iconst E dX1_laysQuarter_24 ?_
    refine xr_goto (tgt := 29) E dX1_laysQuarter_25 (by decide) ?_
    refine xr_istore (lv' := [(4, .int (iI 0)), (0, .ref hB), (1, .ref hF), (2, .int (iI lim)), (3, .int (iI t))]) E hl dX1_laysQuarter_29 (by decide) rfl (fun ls hl => ?_)
    refine xr_aload_n E hl 2 rfl dX1_laysQuarter_31 rfl ?_
    refine xr_iload_n E hl 4 rfl dX1_laysQuarter_32 rfl ?_
    refine xk_ri E hX [7, 8, 9, 10] rfl (xv_V (As := [.int (iI t)]) E hX hl (c_X2_isPrinted l D y z _ hF a_ind a_tot a_pri ind tot pri q fr li sh t (by omega) (by have h := H_I.pri (t := t) (by omega) (by omega); exact ⟨by omega, by omega⟩)) ml_X1_56 im_X2_isPrinted se_X2_isPrinted in_X2 co_X2_isPrinted 1 (by decide) ⟨rfl, rfl⟩ ⟨Nat.le_of_ble_eq_true rfl, Nat.le_of_ble_eq_true rfl⟩ [7, 8, 9, 10] rfl rfl 7 rfl rfl rfl rfl rfl (Nat.le_of_ble_eq_true rfl) dX1_laysQuarter_33 ⟨Nat.le_refl _, Nat.le_refl _⟩) (fun r_33 H locs hw hX => ?_)
    subst hw
    refine xr_if_eqB (tgt := 103) E dX1_laysQuarter_36 (by decide) (fun c_36 => ?_) (fun c_36 => ?_)
    · have c_36 := of_decide_eq_false c_36
      exact xr_vret E hX hQ ((up low t (-8)), (up high t 8)) hr (by first | (rw [up_up, up_up, e1, e2]; unfold loQ hiQ rmQ; (repeat' split) <;> first | (exfalso; omega) | rfl | (congr 2; omega)) | (unfold loQ hiQ rmQ; (repeat' split) <;> first | (exfalso; omega) | rfl)) rfl dX1_laysQuarter_103
    · have c_36 := of_decide_eq_true c_36
      refine xr_iload E hl 0 rfl dX1_laysQuarter_39 ?_
      refine xr_iconst E dX1_laysQuarter_41 ?_
      refine xr_icmp_eq (tgt := 103) E dX1_laysQuarter_42 (by decide) (by decide) (by decide) (fun c_42 => ?_) (fun c_42 => ?_)
      · exact absurd c_42 (by decide)
      · have c_42 := c_42
        refine xr_aload_n E hl 2 rfl dX1_laysQuarter_45 rfl ?_
        refine xr_get E hX 7 rfl rfl ly_X2 2 (by decide) fl_X1_59 rfl dX1_laysQuarter_46 ?_
        refine xr_iload_n E hl 4 rfl dX1_laysQuarter_49 rfl ?_
        refine xr_iald E hX 10 rfl (by omega) (by omega) (by decide) dX1_laysQuarter_50 ?_
        refine xr_bipush E dX1_laysQuarter_51 (by decide) ?_
        refine xr_isub E dX1_laysQuarter_53 ?_
        refine xr_aload_n E hl 2 rfl dX1_laysQuarter_54 rfl ?_
        refine xr_get E hX 7 rfl rfl ly_X2 0 (by decide) fl_X1_62 rfl dX1_laysQuarter_55 ?_
        refine xr_iload_n E hl 4 rfl dX1_laysQuarter_58 rfl ?_
        refine xr_iald E hX 8 rfl (by omega) (by omega) (by decide) dX1_laysQuarter_59 ?_
        refine xr_isub E dX1_laysQuarter_60 ?_
        refine xr_istore (lv' := [(5, .int (iI (((pri t) - 8) - (ind t)))), (4, .int (iI 0)), (0, .ref hB), (1, .ref hF), (2, .int (iI lim)), (3, .int (iI t))]) E hl dX1_laysQuarter_61 (by decide) rfl (fun ls hl => ?_)
        refine xr_aload_n E hl 2 rfl dX1_laysQuarter_63 rfl ?_
        refine xr_get E hX 0 rfl rfl ly_X1 0 (by decide) fl_X1_9 rfl dX1_laysQuarter_64 ?_
        refine xr_iload_n E hl 5 rfl dX1_laysQuarter_67 rfl ?_
        refine xr_aload_n E hl 2 rfl dX1_laysQuarter_68 rfl ?_
        refine xr_get E hX 0 rfl rfl ly_X1 0 (by decide) fl_X1_9 rfl dX1_laysQuarter_69 ?_
        refine xr_iload_n E hl 5 rfl dX1_laysQuarter_72 rfl ?_
        refine xr_iald E hX 1 rfl (by omega) (by omega) (by decide) dX1_laysQuarter_73 ?_
        refine xr_iload E hl 0 rfl dX1_laysQuarter_74 ?_
        refine xr_iload E hl 1 rfl dX1_laysQuarter_76 ?_
        refine xr_isub E dX1_laysQuarter_78 ?_
        refine xr_max E hl ml_X1_65 dX1_laysQuarter_79 ⟨Nat.le_of_ble_eq_true rfl, Nat.le_of_ble_eq_true rfl, Nat.zero_le _, Nat.zero_le _⟩ ⟨by omega, by omega⟩ ⟨by omega, by omega⟩ ?_
        refine xr_iast (W1 := (W_BF y hB a_low a_high a_ll a_lh a_bnd a_gap hF a_ind a_tot a_pri (up (up low t (-8)) t (if ((up low t (-8)) t) < ((((pri t) - 8) - (ind t)) - 0) then ((((pri t) - 8) - (ind t)) - 0) else ((up low t (-8)) t))) (up high t 8) ll lh bnd gap bq ind tot pri q fr li sh)) E hX 1 rfl (by omega) (by omega) (by decide) rfl dX1_laysQuarter_82 (fun H locs hX => ?_)
        refine xr_aload_n E hl 2 rfl dX1_laysQuarter_83 rfl ?_
        refine xr_get E hX 0 rfl rfl ly_X1 1 (by decide) fl_X1_15 rfl dX1_laysQuarter_84 ?_
        refine xr_iload_n E hl 5 rfl dX1_laysQuarter_87 rfl ?_
        refine xr_aload_n E hl 2 rfl dX1_laysQuarter_88 rfl ?_
        refine xr_get E hX 0 rfl rfl ly_X1 1 (by decide) fl_X1_15 rfl dX1_laysQuarter_89 ?_
        refine xr_iload_n E hl 5 rfl dX1_laysQuarter_92 rfl ?_
        refine xr_iald E hX 2 rfl (by omega) (by omega) (by decide) dX1_laysQuarter_93 ?_
        refine xr_iload E hl 0 rfl dX1_laysQuarter_94 ?_
        refine xr_iload E hl 1 rfl dX1_laysQuarter_96 ?_
        refine xr_iadd E dX1_laysQuarter_98 ?_
        refine xr_min E hl ml_X1_71 dX1_laysQuarter_99 ⟨Nat.le_of_ble_eq_true rfl, Nat.le_of_ble_eq_true rfl, Nat.zero_le _, Nat.zero_le _⟩ ⟨by omega, by omega⟩ ⟨by omega, by omega⟩ ?_
        refine xr_iast (W1 := (W_BF y hB a_low a_high a_ll a_lh a_bnd a_gap hF a_ind a_tot a_pri (up (up low t (-8)) t (if ((up low t (-8)) t) < ((((pri t) - 8) - (ind t)) - 0) then ((((pri t) - 8) - (ind t)) - 0) else ((up low t (-8)) t))) (up (up high t 8) t (if ((((pri t) - 8) - (ind t)) + 0) < ((up high t 8) t) then ((((pri t) - 8) - (ind t)) + 0) else ((up high t 8) t))) ll lh bnd gap bq ind tot pri q fr li sh)) E hX 2 rfl (by omega) (by omega) (by decide) rfl dX1_laysQuarter_102 (fun H locs hX => ?_)
        exact xr_vret E hX hQ ((up (up low t (-8)) t (if ((up low t (-8)) t) < ((((pri t) - 8) - (ind t)) - 0) then ((((pri t) - 8) - (ind t)) - 0) else ((up low t (-8)) t))), (up (up high t 8) t (if ((((pri t) - 8) - (ind t)) + 0) < ((up high t 8) t) then ((((pri t) - 8) - (ind t)) + 0) else ((up high t 8) t)))) hr (by first | (rw [up_up, up_up, e1, e2]; unfold loQ hiQ rmQ; (repeat' split) <;> first | (exfalso; omega) | rfl | (congr 2; omega)) | (unfold loQ hiQ rmQ; (repeat' split) <;> first | (exfalso; omega) | rfl)) rfl dX1_laysQuarter_103
abbrev rm_X1_laysYear : Room := { frames := 1, cells := 0, slots := 0, locals := 30 }
set_option maxHeartbeats 4000000 in
set_option maxRecDepth 100000 in
theorem c_X1_laysYear (l : Launch) (D : va_G) (y : CY) (z sz : Nat) (hB a_low a_high a_ll a_lh a_bnd a_gap : Nat) (low : Int → Int) (high : Int → Int) (ll : Int → Int) (lh : Int → Int) (bnd : Int → Bool) (gap : Int → Int) (bq : Int) (v : Int) (hv : 0 ≤ v ∧ v < 3) (hbb : bnd v = true → (∀ k : Int, 0 ≤ k → k < 4 → -200 ≤ low (4 * v + k) ∧ low (4 * v + k) ≤ 200) ∧ (∀ k : Int, 0 ≤ k → k < 4 → -200 ≤ high (4 * v + k) ∧ high (4 * v + k) ≤ 200) ∧ -2000 ≤ gap v ∧ gap v ≤ 2000) : Met l yX1_laysYear (Cond.code yX1_laysYear cX1_laysYear 9 (some .boolean) :: TW) rm_X1_laysYear (va_Pc [.ref hB, .int (iI v)] (PX D y z (W_B y hB a_low a_high a_ll a_lh a_bnd a_gap low high ll lh bnd gap bq) sz)) (va_Qi (fun (r : Int32) (uu : (Int → Int) × (Int → Int)) => r = bB (xLy low high (bnd v) (gap v) v) ∧ uu = (fillR ll (4 * v) 4 (fun wt => aL low high (bnd v) (gap v) v (wt - 4 * v + 1).toNat), fillR lh (4 * v) 4 (fun wt => aH low high (bnd v) (gap v) v (wt - 4 * v + 1).toNat))) (fun uu t => BX D (W_B y hB a_low a_high a_ll a_lh a_bnd a_gap low high uu.1 uu.2 bnd gap bq) (va_A (W_B y hB a_low a_high a_ll a_lh a_bnd a_gap low high ll lh bnd gap bq) sz) t) (va_A (W_B y hB a_low a_high a_ll a_lh a_bnd a_gap low high ll lh bnd gap bq) sz)) 0 0 (va_A (W_B y hB a_low a_high a_ll a_lh a_bnd a_gap low high ll lh bnd gap bq) sz) := by
  refine xm_i (by decide) (Nat.le_of_ble_eq_true rfl) (fun p e s m args below meth cX ls A Q E hr hnm hX hl hQ => ?_)
  have hl : lv_has ls 9 [(0, .ref hB), (1, .int (iI v))] := hl
  refine xr_iconst E dX1_laysYear_0 ?_
  refine xr_iload_n E hl 1 rfl dX1_laysYear_1 rfl ?_
  refine xr_imul E dX1_laysYear_2 ?_
  refine xr_istore_n (lv' := [(2, .int (iI (4 * v))), (0, .ref hB), (1, .int (iI v))]) E hl dX1_laysYear_3 rfl (by decide) rfl (fun ls hl => ?_)
  refine xr_iconst E dX1_laysYear_4 ?_
  refine xr_istore_n (lv' := [(3, .int (iI 0)), (2, .int (iI (4 * v))), (0, .ref hB), (1, .int (iI v))]) E hl dX1_laysYear_5 rfl (by decide) rfl (fun ls hl => ?_)
  refine xr_iconst E dX1_laysYear_6 ?_
  refine xr_istore (lv' := [(4, .int (iI 0)), (3, .int (iI 0)), (2, .int (iI (4 * v))), (0, .ref hB), (1, .int (iI v))]) E hl dX1_laysYear_7 (by decide) rfl (fun ls hl => ?_)
  refine xr_iload_n E hl 2 rfl dX1_laysYear_9 rfl ?_
  refine xr_istore (lv' := [(5, .int (iI (4 * v))), (4, .int (iI 0)), (3, .int (iI 0)), (2, .int (iI (4 * v))), (0, .ref hB), (1, .int (iI v))]) E hl dX1_laysYear_10 (by decide) rfl (fun ls hl => ?_)
  have L_12_1 : ∀ (nmu : Nat) (n : Nat) (rl : Int) (rh : Int) (t : Int), 4 - n < nmu → (t = 4 * v + n) → (rl = sumI low (4 * v) n) → (rh = sumI high (4 * v) n) → (n ≤ 4) → ∀ (H : Heap) (locs : List Loc) (ls : Array Slot), XW D A s.heap (W_B y hB a_low a_high a_ll a_lh a_bnd a_gap low high ll lh bnd gap bq) H locs → lv_has ls 9 [(0, .ref hB), (1, .int (iI v)), (2, .int (iI (4 * v))), (3, .int (iI rl)), (4, .int (iI rh)), (5, .int (iI t))] → W p l e rm_X1_laysYear s m args below meth cX H locs 0 0 Q (F0 m 12 ls []) := by
    intro nmu
    induction nmu with
    | zero =>
      intro n rl rh t hmu
      exact absurd hmu (Nat.not_lt_zero _)
    | succ nmu ih =>
      intro n rl rh t hmu ht hrl hrh hn H locs ls hX hl
      have ih_12_1 := ih
      clear ih
      refine xr_iload E hl 5 rfl dX1_laysYear_12 ?_
      refine xr_iload_n E hl 2 rfl dX1_laysYear_14 rfl ?_
      refine xr_iconst E dX1_laysYear_15 ?_
      refine xr_iadd E dX1_laysYear_16 ?_
      refine xr_icmp_ge (tgt := 48) E dX1_laysYear_17 (by decide) ⟨by omega, by omega⟩ ⟨by omega, by omega⟩ (fun c_17 => ?_) (fun c_17 => ?_)
      · have c_17 := c_17
        have L_85_2 : ∀ (bb : Bool), (bb = xLy low high (bnd v) (gap v) v) → ∀ (H : Heap) (locs : List Loc) (ls : Array Slot), XW D A s.heap (W_B y hB a_low a_high a_ll a_lh a_bnd a_gap low high ll lh bnd gap bq) H locs → lv_has ls 9 [(0, .ref hB), (1, .int (iI v)), (2, .int (iI (4 * v))), (3, .int (iI rl)), (4, .int (iI rh)), (5, .int (bB bb))] → W p l e rm_X1_laysYear s m args below meth cX H locs 0 0 Q (F0 m 85 ls []) := by
          intro bb hbb2 H locs ls hX hl
          refine xr_aload_n E hl 0 rfl dX1_laysYear_85 rfl ?_
          refine xr_get E hX 0 rfl rfl ly_X1 5 (by decide) fl_X1_28 rfl dX1_laysYear_86 ?_
          refine xr_iload_n E hl 1 rfl dX1_laysYear_89 rfl ?_
          refine xr_iald E hX 6 rfl (by omega) (by omega) (by decide) dX1_laysYear_90 ?_
          refine xr_istore (lv' := [(6, .int (iI (gap v))), (0, .ref hB), (1, .int (iI v)), (2, .int (iI (4 * v))), (3, .int (iI rl)), (4, .int (iI rh)), (5, .int (bB bb))]) E hl dX1_laysYear_91 (by decide) rfl (fun ls hl => ?_)
          refine xr_aload_n E hl 1 rfl dX1_laysYear_93 rfl ?_
          refine xr_get E hX 0 rfl rfl ly_X1 5 (by decide) fl_X1_28 rfl dX1_laysYear_94 ?_
          refine xr_iload_n E hl 2 rfl dX1_laysYear_97 rfl ?_
          refine xr_iald E hX 6 rfl (by omega) (by omega) (by decide) dX1_laysYear_98 ?_
          refine xr_istore (lv' := [(7, .int (iI (gap v))), (6, .int (iI (gap v))), (0, .ref hB), (1, .int (iI v)), (2, .int (iI (4 * v))), (3, .int (iI rl)), (4, .int (iI rh)), (5, .int (bB bb))]) E hl dX1_laysYear_99 (by decide) rfl (fun ls hl => ?_)
          refine xr_iload_n E hl 4 rfl dX1_laysYear_101 rfl ?_
          refine xr_istore (lv' := [(8, .int (iI (4 * v))), (7, .int (iI (gap v))), (6, .int (iI (gap v))), (0, .ref hB), (1, .int (iI v)), (2, .int (iI (4 * v))), (3, .int (iI rl)), (4, .int (iI rh)), (5, .int (bB bb))]) E hl dX1_laysYear_102 (by decide) rfl (fun ls hl => ?_)
          have L_104_3 : ∀ (nmu : Nat) (n : Nat) (rl : Int) (rh : Int) (bb : Bool) (al : Int) (ah : Int) (t : Int) (ll1 : Int → Int) (lh1 : Int → Int), 4 - n < nmu → (t = 4 * v + n) → (rl = rS low v n) → (rh = rS high v n) → (bb = xLy low high (bnd v) (gap v) v) → (al = aL low high (bnd v) (gap v) v n) → (ah = aH low high (bnd v) (gap v) v n) → (ll1 = fillR ll (4 * v) n (fun wt => aL low high (bnd v) (gap v) v (wt - 4 * v + 1).toNat)) → (lh1 = fillR lh (4 * v) n (fun wt => aH low high (bnd v) (gap v) v (wt - 4 * v + 1).toNat)) → (n ≤ 4) → ∀ (H : Heap) (locs : List Loc) (ls : Array Slot), XW D A s.heap (W_B y hB a_low a_high a_ll a_lh a_bnd a_gap low high ll1 lh1 bnd gap bq) H locs → lv_has ls 9 [(0, .ref hB), (1, .int (iI v)), (2, .int (iI (4 * v))), (3, .int (iI rl)), (4, .int (iI rh)), (5, .int (bB bb)), (6, .int (iI al)), (7, .int (iI ah)), (8, .int (iI t))] → W p l e rm_X1_laysYear s m args below meth cX H locs 0 0 Q (F0 m 104 ls []) := by
            intro nmu
            induction nmu with
            | zero =>
              intro n rl rh bb al ah t ll1 lh1 hmu
              exact absurd hmu (Nat.not_lt_zero _)
            | succ nmu ih =>
              intro n rl rh bb al ah t ll1 lh1 hmu ht hrl hrh hbb2 hal hah hl1 hh1 hn H locs ls hX hl
              have ih_104_3 := ih
              clear ih
              refine xr_iload E hl 8 rfl dX1_laysYear_104 ?_
              refine xr_iload_n E hl 2 rfl dX1_laysYear_106 rfl ?_
              refine xr_iconst E dX1_laysYear_107 ?_
              refine xr_iadd E dX1_laysYear_108 ?_
              refine xr_icmp_ge (tgt := 217) E dX1_laysYear_109 (by decide) ⟨by omega, by omega⟩ ⟨by omega, by omega⟩ (fun c_109 => ?_) (fun c_109 => ?_)
              · have c_109 := c_109
                refine xr_iload E hl 5 rfl dX1_laysYear_217 ?_
                exact xr_zret E hX hQ (ll1, lh1) hr rfl ⟨by rw [hbb2], by rw [hl1, hh1, show n = 4 by omega]; rfl⟩ rfl dX1_laysYear_219
              · have c_109 := c_109
                refine xr_iload_n E hl 3 rfl dX1_laysYear_112 rfl ?_
                refine xr_aload_n E hl 0 rfl dX1_laysYear_113 rfl ?_
                refine xr_get E hX 0 rfl rfl ly_X1 0 (by decide) fl_X1_9 rfl dX1_laysYear_114 ?_
                refine xr_iload E hl 8 rfl dX1_laysYear_117 ?_
                refine xr_iald E hX 1 rfl (by omega) (by omega) (by decide) dX1_laysYear_119 ?_
                refine xr_isub E dX1_laysYear_120 ?_
                refine xr_istore_n (lv' := [(3, .int (iI (rl - (low t)))), (0, .ref hB), (1, .int (iI v)), (2, .int (iI (4 * v))), (4, .int (iI rh)), (5, .int (bB bb)), (6, .int (iI al)), (7, .int (iI ah)), (8, .int (iI t))]) E hl dX1_laysYear_121 rfl (by decide) rfl (fun ls hl => ?_)
                refine xr_iload E hl 4 rfl dX1_laysYear_122 ?_
                refine xr_aload_n E hl 1 rfl dX1_laysYear_124 rfl ?_
                refine xr_get E hX 0 rfl rfl ly_X1 1 (by decide) fl_X1_15 rfl dX1_laysYear_125 ?_
                refine xr_iload E hl 8 rfl dX1_laysYear_128 ?_
                refine xr_iald E hX 2 rfl (by omega) (by omega) (by decide) dX1_laysYear_130 ?_
                refine xr_isub E dX1_laysYear_131 ?_
                refine xr_istore (lv' := [(4, .int (iI (rh - (high t)))), (3, .int (iI (rl - (low t)))), (0, .ref hB), (1, .int (iI v)), (2, .int (iI (4 * v))), (5, .int (bB bb)), (6, .int (iI al)), (7, .int (iI ah)), (8, .int (iI t))]) E hl dX1_laysYear_132 (by decide) rfl (fun ls hl => ?_)
                have hrl2 : rl - low t = rS low v (n + 1) := by rw [hrl, rS_s, ← ht]
                have hrh2 : rh - high t = rS high v (n + 1) := by rw [hrh, rS_s, ← ht]
                have L_163_4 : ∀ (al2 : Int), (al2 = aL low high (bnd v) (gap v) v (n + 1)) → ∀ (H : Heap) (locs : List Loc) (ls : Array Slot), XW D A s.heap (W_B y hB a_low a_high a_ll a_lh a_bnd a_gap low high ll1 lh1 bnd gap bq) H locs → lv_has ls 9 [(0, .ref hB), (1, .int (iI v)), (2, .int (iI (4 * v))), (3, .int (iI (rl - (low t)))), (4, .int (iI (rh - (high t)))), (5, .int (bB bb)), (6, .int (iI al2)), (7, .int (iI ah)), (8, .int (iI t))] → W p l e rm_X1_laysYear s m args below meth cX H locs 0 0 Q (F0 m 163 ls []) := by
                  intro al2 hal2 H locs ls hX hl
                  have L_193_5 : ∀ (ah2 : Int), (ah2 = aH low high (bnd v) (gap v) v (n + 1)) → ∀ (H : Heap) (locs : List Loc) (ls : Array Slot), XW D A s.heap (W_B y hB a_low a_high a_ll a_lh a_bnd a_gap low high ll1 lh1 bnd gap bq) H locs → lv_has ls 9 [(0, .ref hB), (1, .int (iI v)), (2, .int (iI (4 * v))), (3, .int (iI (rl - (low t)))), (4, .int (iI (rh - (high t)))), (5, .int (bB bb)), (6, .int (iI al2)), (7, .int (iI ah2)), (8, .int (iI t))] → W p l e rm_X1_laysYear s m args below meth cX H locs 0 0 Q (F0 m 193 ls []) := by
                    intro ah2 hah2 H locs ls hX hl
                    refine xr_aload_n E hl 0 rfl dX1_laysYear_193 rfl ?_
                    refine xr_get E hX 0 rfl rfl ly_X1 2 (by decide) fl_X1_18 rfl dX1_laysYear_194 ?_
                    refine xr_iload E hl 8 rfl dX1_laysYear_197 ?_
                    refine xr_iload E hl 6 rfl dX1_laysYear_199 ?_
                    refine xr_iast (W1 := (W_B y hB a_low a_high a_ll a_lh a_bnd a_gap low high (up ll1 t al2) lh1 bnd gap bq)) E hX 3 rfl (by omega) (by omega) (by decide) rfl dX1_laysYear_201 (fun H locs hX => ?_)
                    refine xr_aload_n E hl 0 rfl dX1_laysYear_202 rfl ?_
                    refine xr_get E hX 0 rfl rfl ly_X1 3 (by decide) fl_X1_21 rfl dX1_laysYear_203 ?_
                    refine xr_iload E hl 8 rfl dX1_laysYear_206 ?_
                    refine xr_iload E hl 7 rfl dX1_laysYear_208 ?_
                    refine xr_iast (W1 := (W_B y hB a_low a_high a_ll a_lh a_bnd a_gap low high (up ll1 t al2) (up lh1 t ah2) bnd gap bq)) E hX 4 rfl (by omega) (by omega) (by decide) rfl dX1_laysYear_210 (fun H locs hX => ?_)
                    refine xr_iinc (k := 8) (lv' := [(8, .int (iI (t + 1))), (0, .ref hB), (1, .int (iI v)), (2, .int (iI (4 * v))), (3, .int (iI (rl - (low t)))), (4, .int (iI (rh - (high t)))), (5, .int (bB bb)), (6, .int (iI al2)), (7, .int (iI ah2))]) E hl rfl dX1_laysYear_211 (by decide) rfl (fun ls hl => ?_)
                    refine xr_goto (tgt := 104) E dX1_laysYear_214 (by decide) ?_
                    exact ih_104_3 (n + 1) (rl - (low t)) (rh - (high t)) bb al2 ah2 (t + 1) (up ll1 t al2) (up lh1 t ah2) (by omega) (by omega) hrl2 hrh2 hbb2 hal2 hah2 (by rw [hl1, ht]; exact fillR_up _ _ _ _ _ (by omega) (by rw [hal2]; congr 1; omega)) (by rw [hh1, ht]; exact fillR_up _ _ _ _ _ (by omega) (by rw [hah2]; congr 1; omega)) (by omega) _ _ _ hX (lv_sub hl [1, 2, 3, 4, 5, 6, 7, 8, 0] rfl)
                  refine xr_aload_n E hl 0 rfl dX1_laysYear_163 rfl ?_
                  refine xr_get E hX 0 rfl rfl ly_X1 4 (by decide) fl_X1_24 rfl dX1_laysYear_164 ?_
                  refine xr_iload_n E hl 1 rfl dX1_laysYear_167 rfl ?_
                  refine xr_zald E hX 5 rfl (by omega) (by omega) (by decide) dX1_laysYear_168 ?_
                  refine xr_if_eqB (tgt := 190) E dX1_laysYear_169 (by decide) (fun c_169 => ?_) (fun c_169 => ?_)
                  · have c_169 := c_169
                    refine xr_iconst E dX1_laysYear_190 ?_
                    refine xr_istore (lv' := [(7, .int (iI 0)), (0, .ref hB), (1, .int (iI v)), (2, .int (iI (4 * v))), (3, .int (iI (rl - (low t)))), (4, .int (iI (rh - (high t)))), (5, .int (bB bb)), (6, .int (iI al2)), (8, .int (iI t))]) E hl dX1_laysYear_191 (by decide) rfl (fun ls hl => ?_)
                    exact L_193_5 0  (by first | rw [aH_t c_169, ← hah, ← ht, hrh2] | rw [aH_f c_169]) _ _ _ hX (lv_sub hl [1, 2, 3, 4, 5, 6, 7, 0, 8] rfl)
                  · have c_169 := c_169
                    have hbs := hbb c_169
                    have rr := rS_bd hbs.2.1 (n := n + 1) (by omega)
                    have qq := aH_bd hbs.1 hbs.2.1 hbs.2.2 (b := bnd v) n hn
                    have hl1k := hbs.1 n (by omega) (by omega)
                    rw [← ht] at hl1k
                    refine xr_iload E hl 4 rfl dX1_laysYear_172 ?_
                    refine xr_iload E hl 7 rfl dX1_laysYear_174 ?_
                    refine xr_aload_n E hl 0 rfl dX1_laysYear_176 rfl ?_
                    refine xr_get E hX 0 rfl rfl ly_X1 0 (by decide) fl_X1_9 rfl dX1_laysYear_177 ?_
                    refine xr_iload E hl 8 rfl dX1_laysYear_180 ?_
                    refine xr_iald E hX 1 rfl (by omega) (by omega) (by decide) dX1_laysYear_182 ?_
                    refine xr_isub E dX1_laysYear_183 ?_
                    refine xr_min E hl ml_X1_71 dX1_laysYear_184 ⟨Nat.le_of_ble_eq_true rfl, Nat.le_of_ble_eq_true rfl, Nat.zero_le _, Nat.zero_le _⟩ ⟨by omega, by omega⟩ ⟨by omega, by omega⟩ ?_
                    refine xr_goto (tgt := 191) E dX1_laysYear_187 (by decide) ?_
                    refine xr_istore (lv' := [(7, .int (iI (if (ah - (low t)) < (rh - (high t)) then (ah - (low t)) else (rh - (high t))))), (0, .ref hB), (1, .int (iI v)), (2, .int (iI (4 * v))), (3, .int (iI (rl - (low t)))), (4, .int (iI (rh - (high t)))), (5, .int (bB bb)), (6, .int (iI al2)), (8, .int (iI t))]) E hl dX1_laysYear_191 (by decide) rfl (fun ls hl => ?_)
                    exact L_193_5 (if (ah - (low t)) < (rh - (high t)) then (ah - (low t)) else (rh - (high t)))  (by first | rw [aH_t c_169, ← hah, ← ht, hrh2] | rw [aH_f c_169]) _ _ _ hX (lv_sub hl [1, 2, 3, 4, 5, 6, 7, 0, 8] rfl)
                refine xr_aload_n E hl 2 rfl dX1_laysYear_134 rfl ?_
                refine xr_get E hX 0 rfl rfl ly_X1 4 (by decide) fl_X1_24 rfl dX1_laysYear_135 ?_
                refine xr_iload_n E hl 3 rfl dX1_laysYear_138 rfl ?_
                refine xr_zald E hX 5 rfl (by omega) (by omega) (by decide) dX1_laysYear_139 ?_
                refine xr_if_eqB (tgt := 160) E dX1_laysYear_140 (by decide) (fun c_140 => ?_) (fun c_140 => ?_)
                · have c_140 := c_140
                  refine xr_iconst E dX1_laysYear_160 ?_
                  refine xr_istore (lv' := [(6, .int (iI 0)), (4, .int (iI (rh - (high t)))), (3, .int (iI (rl - (low t)))), (0, .ref hB), (1, .int (iI v)), (2, .int (iI (4 * v))), (5, .int (bB bb)), (7, .int (iI ah)), (8, .int (iI t))]) E hl dX1_laysYear_161 (by decide) rfl (fun ls hl => ?_)
                  exact L_163_4 0  (by first | rw [aL_t c_140, ← hal, ← ht, hrl2] | rw [aL_f c_140]) _ _ _ hX (lv_sub hl [3, 4, 5, 2, 1, 6, 0, 7, 8] rfl)
                · have c_140 := c_140
                  have hbs := hbb c_140
                  have rr := rS_bd hbs.1 (n := n + 1) (by omega)
                  have qq := aL_bd hbs.1 hbs.2.1 hbs.2.2 (b := bnd v) n hn
                  have hh1k := hbs.2.1 n (by omega) (by omega)
                  rw [← ht] at hh1k
                  refine xr_iload_n E hl 1 rfl dX1_laysYear_143 rfl ?_
                  refine xr_iload E hl 6 rfl dX1_laysYear_144 ?_
                  refine xr_aload_n E hl 2 rfl dX1_laysYear_146 rfl ?_
                  refine xr_get E hX 0 rfl rfl ly_X1 1 (by decide) fl_X1_15 rfl dX1_laysYear_147 ?_
                  refine xr_iload E hl 8 rfl dX1_laysYear_150 ?_
                  refine xr_iald E hX 2 rfl (by omega) (by omega) (by decide) dX1_laysYear_152 ?_
                  refine xr_isub E dX1_laysYear_153 ?_
                  refine xr_max E hl ml_X1_65 dX1_laysYear_154 ⟨Nat.le_of_ble_eq_true rfl, Nat.le_of_ble_eq_true rfl, Nat.zero_le _, Nat.zero_le _⟩ ⟨by omega, by omega⟩ ⟨by omega, by omega⟩ ?_
                  refine xr_goto (tgt := 161) E dX1_laysYear_157 (by decide) ?_
                  refine xr_istore (lv' := [(6, .int (iI (if (rl - (low t)) < (al - (high t)) then (al - (high t)) else (rl - (low t))))), (4, .int (iI (rh - (high t)))), (3, .int (iI (rl - (low t)))), (0, .ref hB), (1, .int (iI v)), (2, .int (iI (4 * v))), (5, .int (bB bb)), (7, .int (iI ah)), (8, .int (iI t))]) E hl dX1_laysYear_161 (by decide) rfl (fun ls hl => ?_)
                  exact L_163_4 (if (rl - (low t)) < (al - (high t)) then (al - (high t)) else (rl - (low t)))  (by first | rw [aL_t c_140, ← hal, ← ht, hrl2] | rw [aL_f c_140]) _ _ _ hX (lv_sub hl [3, 4, 5, 2, 1, 6, 0, 7, 8] rfl)
          exact L_104_3 _ 0 rl rh bb (gap v) (gap v) (4 * v) ll lh (Nat.lt_succ_self _) (by omega) (by rw [hrl, rS, show n = 4 by omega, sumI_0]; omega) (by rw [hrh, rS, show n = 4 by omega, sumI_0]; omega) hbb2 rfl rfl (fillR_0 _ _ _).symm (fillR_0 _ _ _).symm (by omega) _ _ _ hX (lv_sub hl [3, 4, 5, 6, 7, 8, 2, 1, 0] rfl)
        refine xr_aload_n E hl 0 rfl dX1_laysYear_48 rfl ?_
        refine xr_get E hX 0 rfl rfl ly_X1 4 (by decide) fl_X1_24 rfl dX1_laysYear_49 ?_
        refine xr_iload_n E hl 1 rfl dX1_laysYear_52 rfl ?_
        refine xr_zald E hX 5 rfl (by omega) (by omega) (by decide) dX1_laysYear_53 ?_
        refine xr_if_eqB (tgt := 78) E dX1_laysYear_54 (by decide) (fun c_54 => ?_) (fun c_54 => ?_)
        · have c_54 := c_54
          refine xr_iconst E dX1_laysYear_78 ?_
          refine xr_goto (tgt := 83) E dX1_laysYear_79 (by decide) ?_
          refine xr_toB1 ?_
          refine xr_istore (lv' := [(5, .int (bB true)), (0, .ref hB), (1, .int (iI v)), (2, .int (iI (4 * v))), (3, .int (iI rl)), (4, .int (iI rh))]) E hl dX1_laysYear_83 (by decide) rfl (fun ls hl => ?_)
          exact L_85_2 true  (by have e4 : n = 4 := (by omega); subst e4; unfold xLy; first | (rw [c_54]; rfl) | (rw [c_54, decide_eq_true (show sumI low (4 * v) 4 ≤ gap v by omega), decide_eq_true (show gap v ≤ sumI high (4 * v) 4 by omega)]; rfl) | (rw [c_54, decide_eq_false (show ¬ sumI low (4 * v) 4 ≤ gap v by omega)]; rfl) | (rw [c_54, decide_eq_false (show ¬ gap v ≤ sumI high (4 * v) 4 by omega), Bool.and_false]; rfl)) _ _ _ hX (lv_sub hl [1, 2, 3, 4, 5, 0] rfl)
        · have c_54 := c_54
          have hbs := hbb c_54
          have s1 := sumI_bd (f := low) (a := 4 * v) (lo := -200) (hi := 200) (n := n) (fun k k0 k1 => hbs.1 k k0 (by omega))
          have s2 := sumI_bd (f := high) (a := 4 * v) (lo := -200) (hi := 200) (n := n) (fun k k0 k1 => hbs.2.1 k k0 (by omega))
          refine xr_iload_n E hl 3 rfl dX1_laysYear_57 rfl ?_
          refine xr_aload_n E hl 0 rfl dX1_laysYear_58 rfl ?_
          refine xr_get E hX 0 rfl rfl ly_X1 5 (by decide) fl_X1_28 rfl dX1_laysYear_59 ?_
          refine xr_iload_n E hl 1 rfl dX1_laysYear_62 rfl ?_
          refine xr_iald E hX 6 rfl (by omega) (by omega) (by decide) dX1_laysYear_63 ?_
          refine xr_icmp_gt (tgt := 82) E dX1_laysYear_64 (by decide) ⟨by omega, by omega⟩ ⟨by omega, by omega⟩ (fun c_64 => ?_) (fun c_64 => ?_)
          · have c_64 := c_64
            refine xr_iconst E dX1_laysYear_82 ?_
            refine xr_toB0 ?_
            refine xr_istore (lv' := [(5, .int (bB false)), (0, .ref hB), (1, .int (iI v)), (2, .int (iI (4 * v))), (3, .int (iI rl)), (4, .int (iI rh))]) E hl dX1_laysYear_83 (by decide) rfl (fun ls hl => ?_)
            exact L_85_2 false  (by have e4 : n = 4 := (by omega); subst e4; unfold xLy; first | (rw [c_54]; rfl) | (rw [c_54, decide_eq_true (show sumI low (4 * v) 4 ≤ gap v by omega), decide_eq_true (show gap v ≤ sumI high (4 * v) 4 by omega)]; rfl) | (rw [c_54, decide_eq_false (show ¬ sumI low (4 * v) 4 ≤ gap v by omega)]; rfl) | (rw [c_54, decide_eq_false (show ¬ gap v ≤ sumI high (4 * v) 4 by omega), Bool.and_false]; rfl)) _ _ _ hX (lv_sub hl [1, 2, 3, 4, 5, 0] rfl)
          · have c_64 := c_64
            refine xr_aload_n E hl 0 rfl dX1_laysYear_67 rfl ?_
            refine xr_get E hX 0 rfl rfl ly_X1 5 (by decide) fl_X1_28 rfl dX1_laysYear_68 ?_
            refine xr_iload_n E hl 1 rfl dX1_laysYear_71 rfl ?_
            refine xr_iald E hX 6 rfl (by omega) (by omega) (by decide) dX1_laysYear_72 ?_
            refine xr_iload E hl 4 rfl dX1_laysYear_73 ?_
            refine xr_icmp_gt (tgt := 82) E dX1_laysYear_75 (by decide) ⟨by omega, by omega⟩ ⟨by omega, by omega⟩ (fun c_75 => ?_) (fun c_75 => ?_)
            · have c_75 := c_75
              refine xr_iconst E dX1_laysYear_82 ?_
              refine xr_toB0 ?_
              refine xr_istore (lv' := [(5, .int (bB false)), (0, .ref hB), (1, .int (iI v)), (2, .int (iI (4 * v))), (3, .int (iI rl)), (4, .int (iI rh))]) E hl dX1_laysYear_83 (by decide) rfl (fun ls hl => ?_)
              exact L_85_2 false  (by have e4 : n = 4 := (by omega); subst e4; unfold xLy; first | (rw [c_54]; rfl) | (rw [c_54, decide_eq_true (show sumI low (4 * v) 4 ≤ gap v by omega), decide_eq_true (show gap v ≤ sumI high (4 * v) 4 by omega)]; rfl) | (rw [c_54, decide_eq_false (show ¬ sumI low (4 * v) 4 ≤ gap v by omega)]; rfl) | (rw [c_54, decide_eq_false (show ¬ gap v ≤ sumI high (4 * v) 4 by omega), Bool.and_false]; rfl)) _ _ _ hX (lv_sub hl [1, 2, 3, 4, 5, 0] rfl)
            · have c_75 := c_75
              refine xr_iconst E dX1_laysYear_78 ?_
              refine xr_goto (tgt := 83) E dX1_laysYear_79 (by decide) ?_
              refine xr_toB1 ?_
              refine xr_istore (lv' := [(5, .int (bB true)), (0, .ref hB), (1, .int (iI v)), (2, .int (iI (4 * v))), (3, .int (iI rl)), (4, .int (iI rh))]) E hl dX1_laysYear_83 (by decide) rfl (fun ls hl => ?_)
              exact L_85_2 true  (by have e4 : n = 4 := (by omega); subst e4; unfold xLy; first | (rw [c_54]; rfl) | (rw [c_54, decide_eq_true (show sumI low (4 * v) 4 ≤ gap v by omega), decide_eq_true (show gap v ≤ sumI high (4 * v) 4 by omega)]; rfl) | (rw [c_54, decide_eq_false (show ¬ sumI low (4 * v) 4 ≤ gap v by omega)]; rfl) | (rw [c_54, decide_eq_false (show ¬ gap v ≤ sumI high (4 * v) 4 by omega), Bool.and_false]; rfl)) _ _ _ hX (lv_sub hl [1, 2, 3, 4, 5, 0] rfl)
      · have c_17 := c_17
        refine xr_iload_n E hl 3 rfl dX1_laysYear_20 rfl ?_
        refine xr_aload_n E hl 0 rfl dX1_laysYear_21 rfl ?_
        refine xr_get E hX 0 rfl rfl ly_X1 0 (by decide) fl_X1_9 rfl dX1_laysYear_22 ?_
        refine xr_iload E hl 5 rfl dX1_laysYear_25 ?_
        refine xr_iald E hX 1 rfl (by omega) (by omega) (by decide) dX1_laysYear_27 ?_
        refine xr_iadd E dX1_laysYear_28 ?_
        refine xr_istore_n (lv' := [(3, .int (iI (rl + (low t)))), (0, .ref hB), (1, .int (iI v)), (2, .int (iI (4 * v))), (4, .int (iI rh)), (5, .int (iI t))]) E hl dX1_laysYear_29 rfl (by decide) rfl (fun ls hl => ?_)
        refine xr_iload E hl 4 rfl dX1_laysYear_30 ?_
        refine xr_aload_n E hl 1 rfl dX1_laysYear_32 rfl ?_
        refine xr_get E hX 0 rfl rfl ly_X1 1 (by decide) fl_X1_15 rfl dX1_laysYear_33 ?_
        refine xr_iload E hl 5 rfl dX1_laysYear_36 ?_
        refine xr_iald E hX 2 rfl (by omega) (by omega) (by decide) dX1_laysYear_38 ?_
        refine xr_iadd E dX1_laysYear_39 ?_
        refine xr_istore (lv' := [(4, .int (iI (rh + (high t)))), (3, .int (iI (rl + (low t)))), (0, .ref hB), (1, .int (iI v)), (2, .int (iI (4 * v))), (5, .int (iI t))]) E hl dX1_laysYear_40 (by decide) rfl (fun ls hl => ?_)
        refine xr_iinc (k := 5) (lv' := [(5, .int (iI (t + 1))), (4, .int (iI (rh + (high t)))), (3, .int (iI (rl + (low t)))), (0, .ref hB), (1, .int (iI v)), (2, .int (iI (4 * v)))]) E hl rfl dX1_laysYear_42 (by decide) rfl (fun ls hl => ?_)
        refine xr_goto (tgt := 12) E dX1_laysYear_45 (by decide) ?_
        exact ih_12_1 (n + 1) (rl + (low t)) (rh + (high t)) (t + 1) (by omega) (by omega) (by rw [sumI_s, ← hrl, ← ht]) (by rw [sumI_s, ← hrh, ← ht]) (by omega) _ _ _ hX (lv_sub hl [3, 4, 5, 2, 1, 0] rfl)
  exact L_12_1 _ 0 0 0 (4 * v) (Nat.lt_succ_self _) (by omega) (sumI_0 _ _).symm (sumI_0 _ _).symm (by omega) _ _ _ hX (lv_sub hl [4, 5, 3, 2, 1, 0] rfl)
abbrev rm_X1_isBound : Room := { frames := 0, cells := 0, slots := 0, locals := 0 }
set_option maxHeartbeats 4000000 in
set_option maxRecDepth 100000 in
theorem c_X1_isBound (l : Launch) (D : va_G) (y : CY) (z sz : Nat) (hB a_low a_high a_ll a_lh a_bnd a_gap : Nat) (low : Int → Int) (high : Int → Int) (ll : Int → Int) (lh : Int → Int) (bnd : Int → Bool) (gap : Int → Int) (bq : Int) (t : Int) (ht : 0 ≤ t ∧ t < 12) : Met l yX1_isBound (Cond.code yX1_isBound cX1_isBound 2 (some .boolean) :: TW) rm_X1_isBound (va_Pc [.ref hB, .int (iI t)] (PX D y z (W_B y hB a_low a_high a_ll a_lh a_bnd a_gap low high ll lh bnd gap bq) sz)) (va_Qi (fun (r : Int32) (uu : Unit) => r = bB (bnd (t / 4))) (fun uu t => BX D (W_B y hB a_low a_high a_ll a_lh a_bnd a_gap low high ll lh bnd gap bq) (va_A (W_B y hB a_low a_high a_ll a_lh a_bnd a_gap low high ll lh bnd gap bq) sz) t) (va_A (W_B y hB a_low a_high a_ll a_lh a_bnd a_gap low high ll lh bnd gap bq) sz)) 0 0 (va_A (W_B y hB a_low a_high a_ll a_lh a_bnd a_gap low high ll lh bnd gap bq) sz) := by
  refine xm_i (by decide) (Nat.le_of_ble_eq_true rfl) (fun p e s m args below meth cX ls A Q E hr hnm hX hl hQ => ?_)
  have hl : lv_has ls 2 [(0, .ref hB), (1, .int (iI t))] := hl
  refine xr_aload_n E hl 0 rfl dX1_isBound_0 rfl ?_
  refine xr_get E hX 0 rfl rfl ly_X1 4 (by decide) fl_X1_24 rfl dX1_isBound_1 ?_
  refine xr_iload_n E hl 1 rfl dX1_isBound_4 rfl ?_
  refine xr_iconst E dX1_isBound_5 ?_
  refine xr_idiv E dX1_isBound_6 ⟨by omega, by omega⟩ (by decide) (by omega) (by omega) ?_
  refine xr_zald E hX 5 rfl (by omega) (by omega) (by decide) dX1_isBound_7 ?_
  exact xr_zret E hX hQ () hr rfl rfl rfl dX1_isBound_8
def lAh (gap : Int → Int) (t lf : Int) : Int := if t % 4 = 0 then gap (t / 4) else lf
abbrev rm_X1_leftAhead : Room := { frames := 0, cells := 0, slots := 0, locals := 0 }
set_option maxHeartbeats 4000000 in
set_option maxRecDepth 100000 in
theorem c_X1_leftAhead (l : Launch) (D : va_G) (y : CY) (z sz : Nat) (hB a_low a_high a_ll a_lh a_bnd a_gap : Nat) (low : Int → Int) (high : Int → Int) (ll : Int → Int) (lh : Int → Int) (bnd : Int → Bool) (gap : Int → Int) (bq : Int) (t : Int) (lf : Int) (ht : 0 ≤ t ∧ t < 12) : Met l yX1_leftAhead (Cond.code yX1_leftAhead cX1_leftAhead 3 (some .int) :: TW) rm_X1_leftAhead (va_Pc [.ref hB, .int (iI t), .int (iI lf)] (PX D y z (W_B y hB a_low a_high a_ll a_lh a_bnd a_gap low high ll lh bnd gap bq) sz)) (va_Qi (fun (r : Int32) (uu : Unit) => r = iI (lAh gap t lf)) (fun uu t => BX D (W_B y hB a_low a_high a_ll a_lh a_bnd a_gap low high ll lh bnd gap bq) (va_A (W_B y hB a_low a_high a_ll a_lh a_bnd a_gap low high ll lh bnd gap bq) sz) t) (va_A (W_B y hB a_low a_high a_ll a_lh a_bnd a_gap low high ll lh bnd gap bq) sz)) 0 0 (va_A (W_B y hB a_low a_high a_ll a_lh a_bnd a_gap low high ll lh bnd gap bq) sz) := by
  refine xm_i (by decide) (Nat.le_of_ble_eq_true rfl) (fun p e s m args below meth cX ls A Q E hr hnm hX hl hQ => ?_)
  have hl : lv_has ls 3 [(0, .ref hB), (1, .int (iI t)), (2, .int (iI lf))] := hl
  refine xr_iload_n E hl 1 rfl dX1_leftAhead_0 rfl ?_
  refine xr_iconst E dX1_leftAhead_1 ?_
  refine xr_irem E dX1_leftAhead_2 ⟨by omega, by omega⟩ (by decide) (by omega) (by omega) ?_
  refine xr_if_ne (tgt := 17) E dX1_leftAhead_3 (by decide) ⟨by omega, by omega⟩ (fun c_3 => ?_) (fun c_3 => ?_)
  · have c_3 := c_3
    refine xr_iload_n E hl 2 rfl dX1_leftAhead_17 rfl ?_
    exact xr_iret E hX hQ () hr (by unfold lAh; (repeat' split) <;> first | (exfalso; omega) | rfl | (congr 1; omega) | (congr 2; omega)) rfl dX1_leftAhead_18
  · have c_3 := c_3
    refine xr_aload_n E hl 0 rfl dX1_leftAhead_6 rfl ?_
    refine xr_get E hX 0 rfl rfl ly_X1 5 (by decide) fl_X1_28 rfl dX1_leftAhead_7 ?_
    refine xr_iload_n E hl 1 rfl dX1_leftAhead_10 rfl ?_
    refine xr_iconst E dX1_leftAhead_11 ?_
    refine xr_idiv E dX1_leftAhead_12 ⟨by omega, by omega⟩ (by decide) (by omega) (by omega) ?_
    refine xr_iald E hX 6 rfl (by omega) (by omega) (by decide) dX1_leftAhead_13 ?_
    refine xr_goto (tgt := 18) E dX1_leftAhead_14 (by decide) ?_
    exact xr_iret E hX hQ () hr (by unfold lAh; (repeat' split) <;> first | (exfalso; omega) | rfl | (congr 1; omega) | (congr 2; omega)) rfl dX1_leftAhead_18
def lPrev (gap f : Int → Int) (t : Int) : Int := if 0 < t then lAh gap t (f (t - 1)) else gap 0
def xLeast (bnd : Int → Bool) (gap ll : Int → Int) (t d : Int) : Int := if bnd (t / 4) = true then (if ll t < lPrev gap ll t - d then lPrev gap ll t - d else ll t) else 0
def xMost (bnd : Int → Bool) (gap lh : Int → Int) (t d : Int) : Int := if bnd (t / 4) = true then (if lPrev gap lh t - d < lh t then lPrev gap lh t - d else lh t) else 0
abbrev rm_X1_leastLeft : Room := { frames := 1, cells := 0, slots := 0, locals := 30 }
set_option maxHeartbeats 4000000 in
set_option maxRecDepth 100000 in
theorem c_X1_leastLeft (l : Launch) (D : va_G) (y : CY) (z sz : Nat) (hB a_low a_high a_ll a_lh a_bnd a_gap : Nat) (low : Int → Int) (high : Int → Int) (ll : Int → Int) (lh : Int → Int) (bnd : Int → Bool) (gap : Int → Int) (bq : Int) (t : Int) (d : Int) (ht : 0 ≤ t ∧ t < 12) (hpl : -30000 ≤ lPrev gap ll t ∧ lPrev gap ll t ≤ 30000) (hpt : -30000 ≤ ll t ∧ ll t ≤ 30000) (hdd : -1000 ≤ d ∧ d ≤ 1000) : Met l yX1_leastLeft (Cond.code yX1_leastLeft cX1_leastLeft 4 (some .int) :: TW) rm_X1_leastLeft (va_Pc [.ref hB, .int (iI t), .int (iI d)] (PX D y z (W_B y hB a_low a_high a_ll a_lh a_bnd a_gap low high ll lh bnd gap bq) sz)) (va_Qi (fun (r : Int32) (uu : Unit) => r = iI (xLeast bnd gap ll t d)) (fun uu t => BX D (W_B y hB a_low a_high a_ll a_lh a_bnd a_gap low high ll lh bnd gap bq) (va_A (W_B y hB a_low a_high a_ll a_lh a_bnd a_gap low high ll lh bnd gap bq) sz) t) (va_A (W_B y hB a_low a_high a_ll a_lh a_bnd a_gap low high ll lh bnd gap bq) sz)) 0 0 (va_A (W_B y hB a_low a_high a_ll a_lh a_bnd a_gap low high ll lh bnd gap bq) sz) := by
  refine xm_i (by decide) (Nat.le_of_ble_eq_true rfl) (fun p e s m args below meth cX ls A Q E hr hnm hX hl hQ => ?_)
  have hl : lv_has ls 4 [(0, .ref hB), (1, .int (iI t)), (2, .int (iI d))] := hl
  refine xr_aload_n E hl 0 rfl dX1_leastLeft_0 rfl ?_
  refine xr_iload_n E hl 1 rfl dX1_leastLeft_1 rfl ?_
  refine xk_ri E hX [0, 1, 2, 3, 4, 5, 6] rfl (xv_V (As := [.int (iI t)]) E hX hl (c_X1_isBound l D y z _ hB a_low a_high a_ll a_lh a_bnd a_gap low high ll lh bnd gap bq t (by omega)) ml_X1_74 im_X1_isBound se_X1_isBound in_X1 co_X1_isBound 1 (by decide) ⟨rfl, rfl⟩ ⟨Nat.le_of_ble_eq_true rfl, Nat.le_of_ble_eq_true rfl⟩ [0, 1, 2, 3, 4, 5, 6] rfl rfl 0 rfl rfl rfl rfl rfl (Nat.le_of_ble_eq_true rfl) dX1_leastLeft_2 ⟨Nat.le_refl _, Nat.le_refl _⟩) (fun r_2 H locs hw hX => ?_)
  subst hw
  refine xr_if_neB (tgt := 10) E dX1_leastLeft_5 (by decide) (fun c_5 => ?_) (fun c_5 => ?_)
  · have c_5 := c_5
    refine xr_iload_n E hl 1 rfl dX1_leastLeft_10 rfl ?_
    refine xr_if_le (tgt := 30) E dX1_leastLeft_11 (by decide) ⟨by omega, by omega⟩ (fun c_11 => ?_) (fun c_11 => ?_)
    · have c_11 := c_11
      have hlp : gap 0 = lPrev gap ll t := by unfold lPrev; rw [if_neg (by omega)]
      refine xr_aload_n E hl 0 rfl dX1_leastLeft_30 rfl ?_
      refine xr_get E hX 0 rfl rfl ly_X1 5 (by decide) fl_X1_28 rfl dX1_leastLeft_31 ?_
      refine xr_iconst E dX1_leastLeft_34 ?_
      refine xr_iald E hX 6 rfl (by omega) (by omega) (by decide) dX1_leastLeft_35 ?_
      refine xr_istore_n (lv' := [(3, .int (iI (gap 0))), (0, .ref hB), (1, .int (iI t)), (2, .int (iI d))]) E hl dX1_leastLeft_36 rfl (by decide) rfl (fun ls hl => ?_)
      refine xr_aload_n E hl 1 rfl dX1_leastLeft_37 rfl ?_
      refine xr_get E hX 0 rfl rfl ly_X1 2 (by decide) fl_X1_18 rfl dX1_leastLeft_38 ?_
      refine xr_iload_n E hl 2 rfl dX1_leastLeft_41 rfl ?_
      refine xr_iald E hX 3 rfl (by omega) (by omega) (by decide) dX1_leastLeft_42 ?_
      refine xr_iload_n E hl 0 rfl dX1_leastLeft_43 rfl ?_
      refine xr_iload_n E hl 3 rfl dX1_leastLeft_44 rfl ?_
      refine xr_isub E dX1_leastLeft_45 ?_
      refine xr_max E hl ml_X1_65 dX1_leastLeft_46 ⟨Nat.le_of_ble_eq_true rfl, Nat.le_of_ble_eq_true rfl, Nat.zero_le _, Nat.zero_le _⟩ ⟨by omega, by omega⟩ ⟨by omega, by omega⟩ ?_
      exact xr_iret E hX hQ () hr (by unfold xLeast; rw [if_pos c_5, ← hlp]) rfl dX1_leastLeft_49
    · have c_11 := c_11
      have hlp : lAh gap t (ll (t - 1)) = lPrev gap ll t := by unfold lPrev; rw [if_pos c_11]
      refine xr_aload_n E hl 0 rfl dX1_leastLeft_14 rfl ?_
      refine xr_iload_n E hl 1 rfl dX1_leastLeft_15 rfl ?_
      refine xr_aload_n E hl 0 rfl dX1_leastLeft_16 rfl ?_
      refine xr_get E hX 0 rfl rfl ly_X1 2 (by decide) fl_X1_18 rfl dX1_leastLeft_17 ?_
      refine xr_iload_n E hl 1 rfl dX1_leastLeft_20 rfl ?_
      refine xr_iconst E dX1_leastLeft_21 ?_
      refine xr_isub E dX1_leastLeft_22 ?_
      refine xr_iald E hX 3 rfl (by omega) (by omega) (by decide) dX1_leastLeft_23 ?_
      refine xk_ri E hX [0, 1, 2, 3, 4, 5, 6] rfl (xv_V (As := [.int (iI t), .int (iI (ll (t - 1)))]) E hX hl (c_X1_leftAhead l D y z _ hB a_low a_high a_ll a_lh a_bnd a_gap low high ll lh bnd gap bq t (ll (t - 1)) (by omega)) ml_X1_77 im_X1_leftAhead se_X1_leftAhead in_X1 co_X1_leftAhead 2 (by decide) ⟨rfl, rfl⟩ ⟨Nat.le_of_ble_eq_true rfl, Nat.le_of_ble_eq_true rfl⟩ [0, 1, 2, 3, 4, 5, 6] rfl rfl 0 rfl rfl rfl rfl rfl (Nat.le_of_ble_eq_true rfl) dX1_leastLeft_24 ⟨Nat.le_refl _, Nat.le_refl _⟩) (fun r_24 H locs hw hX => ?_)
      subst hw
      refine xr_goto (tgt := 36) E dX1_leastLeft_27 (by decide) ?_
      refine xr_istore_n (lv' := [(3, .int (iI (lAh gap t (ll (t - 1))))), (0, .ref hB), (1, .int (iI t)), (2, .int (iI d))]) E hl dX1_leastLeft_36 rfl (by decide) rfl (fun ls hl => ?_)
      refine xr_aload_n E hl 1 rfl dX1_leastLeft_37 rfl ?_
      refine xr_get E hX 0 rfl rfl ly_X1 2 (by decide) fl_X1_18 rfl dX1_leastLeft_38 ?_
      refine xr_iload_n E hl 2 rfl dX1_leastLeft_41 rfl ?_
      refine xr_iald E hX 3 rfl (by omega) (by omega) (by decide) dX1_leastLeft_42 ?_
      refine xr_iload_n E hl 0 rfl dX1_leastLeft_43 rfl ?_
      refine xr_iload_n E hl 3 rfl dX1_leastLeft_44 rfl ?_
      refine xr_isub E dX1_leastLeft_45 ?_
      refine xr_max E hl ml_X1_65 dX1_leastLeft_46 ⟨Nat.le_of_ble_eq_true rfl, Nat.le_of_ble_eq_true rfl, Nat.zero_le _, Nat.zero_le _⟩ ⟨by omega, by omega⟩ ⟨by omega, by omega⟩ ?_
      exact xr_iret E hX hQ () hr (by unfold xLeast; rw [if_pos c_5, ← hlp]) rfl dX1_leastLeft_49
  · have c_5 := c_5
    refine xr_iconst E dX1_leastLeft_8 ?_
    exact xr_iret E hX hQ () hr (by unfold xLeast; rw [if_neg (by rw [c_5]; decide)]) rfl dX1_leastLeft_9
abbrev rm_X1_mostLeft : Room := { frames := 1, cells := 0, slots := 0, locals := 30 }
set_option maxHeartbeats 4000000 in
set_option maxRecDepth 100000 in
theorem c_X1_mostLeft (l : Launch) (D : va_G) (y : CY) (z sz : Nat) (hB a_low a_high a_ll a_lh a_bnd a_gap : Nat) (low : Int → Int) (high : Int → Int) (ll : Int → Int) (lh : Int → Int) (bnd : Int → Bool) (gap : Int → Int) (bq : Int) (t : Int) (d : Int) (ht : 0 ≤ t ∧ t < 12) (hpl : -30000 ≤ lPrev gap lh t ∧ lPrev gap lh t ≤ 30000) (hpt : -30000 ≤ lh t ∧ lh t ≤ 30000) (hdd : -1000 ≤ d ∧ d ≤ 1000) : Met l yX1_mostLeft (Cond.code yX1_mostLeft cX1_mostLeft 4 (some .int) :: TW) rm_X1_mostLeft (va_Pc [.ref hB, .int (iI t), .int (iI d)] (PX D y z (W_B y hB a_low a_high a_ll a_lh a_bnd a_gap low high ll lh bnd gap bq) sz)) (va_Qi (fun (r : Int32) (uu : Unit) => r = iI (xMost bnd gap lh t d)) (fun uu t => BX D (W_B y hB a_low a_high a_ll a_lh a_bnd a_gap low high ll lh bnd gap bq) (va_A (W_B y hB a_low a_high a_ll a_lh a_bnd a_gap low high ll lh bnd gap bq) sz) t) (va_A (W_B y hB a_low a_high a_ll a_lh a_bnd a_gap low high ll lh bnd gap bq) sz)) 0 0 (va_A (W_B y hB a_low a_high a_ll a_lh a_bnd a_gap low high ll lh bnd gap bq) sz) := by
  refine xm_i (by decide) (Nat.le_of_ble_eq_true rfl) (fun p e s m args below meth cX ls A Q E hr hnm hX hl hQ => ?_)
  have hl : lv_has ls 4 [(0, .ref hB), (1, .int (iI t)), (2, .int (iI d))] := hl
  refine xr_aload_n E hl 0 rfl dX1_mostLeft_0 rfl ?_
  refine xr_iload_n E hl 1 rfl dX1_mostLeft_1 rfl ?_
  refine xk_ri E hX [0, 1, 2, 3, 4, 5, 6] rfl (xv_V (As := [.int (iI t)]) E hX hl (c_X1_isBound l D y z _ hB a_low a_high a_ll a_lh a_bnd a_gap low high ll lh bnd gap bq t (by omega)) ml_X1_74 im_X1_isBound se_X1_isBound in_X1 co_X1_isBound 1 (by decide) ⟨rfl, rfl⟩ ⟨Nat.le_of_ble_eq_true rfl, Nat.le_of_ble_eq_true rfl⟩ [0, 1, 2, 3, 4, 5, 6] rfl rfl 0 rfl rfl rfl rfl rfl (Nat.le_of_ble_eq_true rfl) dX1_mostLeft_2 ⟨Nat.le_refl _, Nat.le_refl _⟩) (fun r_2 H locs hw hX => ?_)
  subst hw
  refine xr_if_neB (tgt := 10) E dX1_mostLeft_5 (by decide) (fun c_5 => ?_) (fun c_5 => ?_)
  · have c_5 := c_5
    refine xr_iload_n E hl 1 rfl dX1_mostLeft_10 rfl ?_
    refine xr_if_le (tgt := 30) E dX1_mostLeft_11 (by decide) ⟨by omega, by omega⟩ (fun c_11 => ?_) (fun c_11 => ?_)
    · have c_11 := c_11
      have hlp : gap 0 = lPrev gap lh t := by unfold lPrev; rw [if_neg (by omega)]
      refine xr_aload_n E hl 0 rfl dX1_mostLeft_30 rfl ?_
      refine xr_get E hX 0 rfl rfl ly_X1 5 (by decide) fl_X1_28 rfl dX1_mostLeft_31 ?_
      refine xr_iconst E dX1_mostLeft_34 ?_
      refine xr_iald E hX 6 rfl (by omega) (by omega) (by decide) dX1_mostLeft_35 ?_
      refine xr_istore_n (lv' := [(3, .int (iI (gap 0))), (0, .ref hB), (1, .int (iI t)), (2, .int (iI d))]) E hl dX1_mostLeft_36 rfl (by decide) rfl (fun ls hl => ?_)
      refine xr_aload_n E hl 1 rfl dX1_mostLeft_37 rfl ?_
      refine xr_get E hX 0 rfl rfl ly_X1 3 (by decide) fl_X1_21 rfl dX1_mostLeft_38 ?_
      refine xr_iload_n E hl 2 rfl dX1_mostLeft_41 rfl ?_
      refine xr_iald E hX 4 rfl (by omega) (by omega) (by decide) dX1_mostLeft_42 ?_
      refine xr_iload_n E hl 0 rfl dX1_mostLeft_43 rfl ?_
      refine xr_iload_n E hl 3 rfl dX1_mostLeft_44 rfl ?_
      refine xr_isub E dX1_mostLeft_45 ?_
      refine xr_min E hl ml_X1_71 dX1_mostLeft_46 ⟨Nat.le_of_ble_eq_true rfl, Nat.le_of_ble_eq_true rfl, Nat.zero_le _, Nat.zero_le _⟩ ⟨by omega, by omega⟩ ⟨by omega, by omega⟩ ?_
      exact xr_iret E hX hQ () hr (by unfold xMost; rw [if_pos c_5, ← hlp]) rfl dX1_mostLeft_49
    · have c_11 := c_11
      have hlp : lAh gap t (lh (t - 1)) = lPrev gap lh t := by unfold lPrev; rw [if_pos c_11]
      refine xr_aload_n E hl 0 rfl dX1_mostLeft_14 rfl ?_
      refine xr_iload_n E hl 1 rfl dX1_mostLeft_15 rfl ?_
      refine xr_aload_n E hl 0 rfl dX1_mostLeft_16 rfl ?_
      refine xr_get E hX 0 rfl rfl ly_X1 3 (by decide) fl_X1_21 rfl dX1_mostLeft_17 ?_
      refine xr_iload_n E hl 1 rfl dX1_mostLeft_20 rfl ?_
      refine xr_iconst E dX1_mostLeft_21 ?_
      refine xr_isub E dX1_mostLeft_22 ?_
      refine xr_iald E hX 4 rfl (by omega) (by omega) (by decide) dX1_mostLeft_23 ?_
      refine xk_ri E hX [0, 1, 2, 3, 4, 5, 6] rfl (xv_V (As := [.int (iI t), .int (iI (lh (t - 1)))]) E hX hl (c_X1_leftAhead l D y z _ hB a_low a_high a_ll a_lh a_bnd a_gap low high ll lh bnd gap bq t (lh (t - 1)) (by omega)) ml_X1_77 im_X1_leftAhead se_X1_leftAhead in_X1 co_X1_leftAhead 2 (by decide) ⟨rfl, rfl⟩ ⟨Nat.le_of_ble_eq_true rfl, Nat.le_of_ble_eq_true rfl⟩ [0, 1, 2, 3, 4, 5, 6] rfl rfl 0 rfl rfl rfl rfl rfl (Nat.le_of_ble_eq_true rfl) dX1_mostLeft_24 ⟨Nat.le_refl _, Nat.le_refl _⟩) (fun r_24 H locs hw hX => ?_)
      subst hw
      refine xr_goto (tgt := 36) E dX1_mostLeft_27 (by decide) ?_
      refine xr_istore_n (lv' := [(3, .int (iI (lAh gap t (lh (t - 1))))), (0, .ref hB), (1, .int (iI t)), (2, .int (iI d))]) E hl dX1_mostLeft_36 rfl (by decide) rfl (fun ls hl => ?_)
      refine xr_aload_n E hl 1 rfl dX1_mostLeft_37 rfl ?_
      refine xr_get E hX 0 rfl rfl ly_X1 3 (by decide) fl_X1_21 rfl dX1_mostLeft_38 ?_
      refine xr_iload_n E hl 2 rfl dX1_mostLeft_41 rfl ?_
      refine xr_iald E hX 4 rfl (by omega) (by omega) (by decide) dX1_mostLeft_42 ?_
      refine xr_iload_n E hl 0 rfl dX1_mostLeft_43 rfl ?_
      refine xr_iload_n E hl 3 rfl dX1_mostLeft_44 rfl ?_
      refine xr_isub E dX1_mostLeft_45 ?_
      refine xr_min E hl ml_X1_71 dX1_mostLeft_46 ⟨Nat.le_of_ble_eq_true rfl, Nat.le_of_ble_eq_true rfl, Nat.zero_le _, Nat.zero_le _⟩ ⟨by omega, by omega⟩ ⟨by omega, by omega⟩ ?_
      exact xr_iret E hX hQ () hr (by unfold xMost; rw [if_pos c_5, ← hlp]) rfl dX1_mostLeft_49
  · have c_5 := c_5
    refine xr_iconst E dX1_mostLeft_8 ?_
    exact xr_iret E hX hQ () hr (by unfold xMost; rw [if_neg (by rw [c_5]; decide)]) rfl dX1_mostLeft_9
