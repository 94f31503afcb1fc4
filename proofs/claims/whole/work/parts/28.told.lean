/-! BentQuarters: what is told; texts; back -/
abbrev W_XF (y : CY) (hXo hF a_ind a_tot a_pri hD hP hT a_rfs a_shs : Nat) (ind : Int → Int) (tot : Int → Int) (pri : Int → Int) (q : Int) (fr : Int) (li : Int) (sh : Int) (rfs : Int → Int) : va_W := [(hXo, .inr (5, [.ref hF, .ref hD, .ref hP, .ref hT, .ref a_rfs, .ref a_shs])), (hF, .inr (2, [.ref a_ind, .ref a_tot, .ref a_pri, .int (iI q), .int (iI fr), .int (iI li), .int (iI sh)])), (a_ind, .inl (y.1, 12, .inl (ia ind))), (a_tot, .inl (y.1, 3, .inl (ia tot))), (a_pri, .inl (y.1, 12, .inl (ia pri))), (a_rfs, .inl (y.1, 3, .inl (ia rfs)))]
abbrev W_XT (y : CY) (hXo hF hD hP hT a_byt a_ltr a_fir a_sec a_rfs a_shs : Nat) (byt : Int → Int) (len : Int) (ltr : Int → Int) (fir : Int → Int) (sec : Int → Int) (ord : Int) (opn : Bool) (num : Int) (fig : Int) (rfs : Int → Int) : va_W := [(hXo, .inr (5, [.ref hF, .ref hD, .ref hP, .ref hT, .ref a_rfs, .ref a_shs])), (hT, .inr (4, [.ref a_byt, .int (iI len), .ref a_ltr, .ref a_fir, .ref a_sec, .int (iI ord), .int (bB opn), .int (iI num), .int (iI fig)])), (a_byt, .inl (y.1, 120, .inl (ia byt))), (a_ltr, .inl (y.1, 60, .inl (ia ltr))), (a_fir, .inl (y.1, 60, .inl (ia fir))), (a_sec, .inl (y.1, 60, .inl (ia sec))), (a_rfs, .inl (y.1, 3, .inl (ia rfs)))]
abbrev W_Xt (y : CY) (hXo hF hD hP a_ring hT a_byt a_ltr a_fir a_sec a_rfs a_shs : Nat) (top : Int) (sts : Int) (len : Int) (ord : Int) (opn : Bool) (num : Int) (fig : Int) (rfs : Int → Int) : va_W := [(hXo, .inr (5, [.ref hF, .ref hD, .ref hP, .ref hT, .ref a_rfs, .ref a_shs])), (hP, .inr (3, [.ref a_ring, .int (iI top), .int (iI sts)])), (hT, .inr (4, [.ref a_byt, .int (iI len), .ref a_ltr, .ref a_fir, .ref a_sec, .int (iI ord), .int (bB opn), .int (iI num), .int (iI fig)])), (a_rfs, .inl (y.1, 3, .inl (ia rfs)))]
def xqOf (ind pri : Int → Int) (q fr t w : Int) : Int := if (0 ≤ t ∧ t ≤ q - 1) ∧ 0 ≤ w ∧ w ≤ 3 then xOf ind pri fr t w else -2
def rqOf (rfs : Int → Int) (q t w : Int) : Int → Int := if (0 ≤ t ∧ t ≤ q - 1) ∧ 0 ≤ w ∧ w ≤ 3 then rfs else rfU rfs (-2)
abbrev rm_X5_of : Room := { frames := 2, cells := 0, slots := 0, locals := 44 }
set_option maxHeartbeats 4000000 in
set_option maxRecDepth 100000 in
theorem c_X5_of (l : Launch) (D : va_G) (y : CY) (z sz : Nat) (hXo hF a_ind a_tot a_pri hD hP hT a_rfs a_shs : Nat) (ind : Int → Int) (tot : Int → Int) (pri : Int → Int) (q : Int) (fr : Int) (li : Int) (sh : Int) (rfs : Int → Int) (t : Int) (w : Int) (H_I : FI ind tot pri q fr li sh) (ht : sm t) (hw : sm w) : Met l yX5_of (Cond.code yX5_of cX5_of 3 (some .int) :: TW) rm_X5_of (va_Pc [.ref hXo, .int (iI t), .int (iI w)] (PX D y z (W_XF y hXo hF a_ind a_tot a_pri hD hP hT a_rfs a_shs ind tot pri q fr li sh rfs) sz)) (va_Qi (fun (r : Int32) (uu : (Int → Int)) => r = iI (xqOf ind pri q fr t w) ∧ uu = rqOf rfs q t w) (fun uu t => BX D (W_XF y hXo hF a_ind a_tot a_pri hD hP hT a_rfs a_shs ind tot pri q fr li sh uu) (va_A (W_XF y hXo hF a_ind a_tot a_pri hD hP hT a_rfs a_shs ind tot pri q fr li sh rfs) sz) t) (va_A (W_XF y hXo hF a_ind a_tot a_pri hD hP hT a_rfs a_shs ind tot pri q fr li sh rfs) sz)) 0 0 (va_A (W_XF y hXo hF a_ind a_tot a_pri hD hP hT a_rfs a_shs ind tot pri q fr li sh rfs) sz) := by
  refine xm_i (by decide) (Nat.le_of_ble_eq_true rfl) (fun p e s m args below meth cX ls A Q E hr hnm hX hl hQ => ?_)
  have hl : lv_has ls 3 [(0, .ref hXo), (1, .int (iI t)), (2, .int (iI w))] := hl
  have hq := H_I.q
  have hfr := H_I.fr
  have hli := H_I.li
  have hsh := H_I.sh
  refine xr_aload_n E hl 0 rfl dX5_of_0 rfl ?_
  refine xr_get E hX 0 rfl rfl ly_X5 0 (by decide) fl_X5_12 rfl dX5_of_1 ?_
  refine xr_iload_n E hl 1 rfl dX5_of_4 rfl ?_
  refine xk_ri E hX [1, 2, 3, 4] rfl (xv_V (As := [.int (iI t)]) E hX hl (c_X2_has l D y z _ hF a_ind a_tot a_pri ind tot pri q fr li sh t ⟨by omega, by omega⟩ ⟨by omega, by omega⟩) ml_X5_81 im_X2_has se_X2_has in_X2 co_X2_has 1 (by decide) ⟨rfl, rfl⟩ ⟨Nat.le_of_ble_eq_true rfl, Nat.le_of_ble_eq_true rfl⟩ [1, 2, 3, 4] rfl rfl 1 rfl rfl rfl rfl rfl (Nat.le_of_ble_eq_true rfl) dX5_of_5 ⟨Nat.le_refl _, Nat.le_refl _⟩) (fun r_5 H locs hw hX => ?_)
  subst hw
  refine xr_if_eqB (tgt := 20) E dX5_of_8 (by decide) (fun c_8 => ?_) (fun c_8 => ?_)
  · have c_8 := of_decide_eq_false c_8
    refine xr_aload_n E hl 0 rfl dX5_of_20 rfl ?_
    refine xr_bipush E dX5_of_21 (by decide) ?_
    refine xk_i (W2 := fun uu => (W_XF y hXo hF a_ind a_tot a_pri hD hP hT a_rfs a_shs ind tot pri q fr li sh uu)) E hX [0, 5] rfl (xv_V (As := [.int (iI (-2))]) E hX hl (c_X5_refuses l D y z _ hXo hF hD hP hT a_rfs a_shs rfs (-2) (by omega)) ml_X5_89 im_X5_refuses se_X5_refuses in_X5 co_X5_refuses 1 (by decide) ⟨rfl, rfl⟩ ⟨Nat.le_of_ble_eq_true rfl, Nat.le_of_ble_eq_true rfl⟩ [0, 5] rfl rfl 0 rfl rfl rfl rfl rfl (Nat.le_of_ble_eq_true rfl) dX5_of_23 ⟨Nat.le_refl _, Nat.le_refl _⟩) [0, 3, 4, 5, 6, 1] 2 (fun _ => rfl) (fun _ => rfl) (by decide) (by decide) (fun r_23 uu H locs hw hX => ?_)
    obtain ⟨rfl, rfl⟩ := hw
    have hX : XW D A s.heap (W_XF y hXo hF a_ind a_tot a_pri hD hP hT a_rfs a_shs ind tot pri q fr li sh (rfU rfs (-2))) H locs := hX
    exact xr_iret E hX hQ (rfU rfs (-2)) hr ⟨by unfold xqOf; (repeat' split) <;> first | (exfalso; omega) | rfl | (congr 1; omega) | (congr 2; omega), by unfold rqOf; (repeat' split) <;> first | (exfalso; omega) | rfl | (congr 1; omega) | (congr 2; omega)⟩ rfl dX5_of_26
  · have c_8 := of_decide_eq_true c_8
    refine xr_iload_n E hl 2 rfl dX5_of_11 rfl ?_
    refine xr_iconst E dX5_of_12 ?_
    refine xr_iconst E dX5_of_13 ?_
    refine xk_ri E hX [] rfl (xv_S (As := [.int (iI w), .int (iI 0), .int (iI 3)]) E hX hl (c_X5_within l D y z _ w 0 3 ⟨by omega, by omega⟩ ⟨by omega, by omega⟩ ⟨by omega, by omega⟩) ml_X5_85 st_X5_within in_X5 co_X5_within 3 (by decide) ⟨rfl, rfl⟩ ⟨Nat.le_of_ble_eq_true rfl, Nat.le_of_ble_eq_true rfl⟩ [] rfl rfl rfl rfl (Nat.le_of_ble_eq_true rfl) dX5_of_14 ⟨Nat.le_refl _, Nat.le_refl _⟩) (fun r_14 H locs hw hX => ?_)
    subst hw
    refine xr_if_neB (tgt := 27) E dX5_of_17 (by decide) (fun c_17 => ?_) (fun c_17 => ?_)
    · have c_17 := of_decide_eq_true c_17
      refine xr_aload_n E hl 0 rfl dX5_of_27 rfl ?_
      refine xr_get E hX 0 rfl rfl ly_X5 0 (by decide) fl_X5_12 rfl dX5_of_28 ?_
      refine xr_iload_n E hl 1 rfl dX5_of_31 rfl ?_
      refine xr_iload_n E hl 2 rfl dX5_of_32 rfl ?_
      refine xk_ri E hX [1, 2, 3, 4] rfl (xv_V (As := [.int (iI t), .int (iI w)]) E hX hl (c_X2_toldOfQuarter l D y z _ hF a_ind a_tot a_pri ind tot pri q fr li sh t w H_I (by omega) (by omega)) ml_X5_92 im_X2_toldOfQuarter se_X2_toldOfQuarter in_X2 co_X2_toldOfQuarter 2 (by decide) ⟨rfl, rfl⟩ ⟨Nat.le_of_ble_eq_true rfl, Nat.le_of_ble_eq_true rfl⟩ [1, 2, 3, 4] rfl rfl 1 rfl rfl rfl rfl rfl (Nat.le_of_ble_eq_true rfl) dX5_of_33 ⟨Nat.le_refl _, Nat.le_refl _⟩) (fun r_33 H locs hw hX => ?_)
      subst hw
      exact xr_iret E hX hQ rfs hr ⟨by unfold xqOf; (repeat' split) <;> first | (exfalso; omega) | rfl | (congr 1; omega) | (congr 2; omega), by unfold rqOf; (repeat' split) <;> first | (exfalso; omega) | rfl | (congr 1; omega) | (congr 2; omega)⟩ rfl dX5_of_36
    · have c_17 := of_decide_eq_false c_17
      refine xr_aload_n E hl 0 rfl dX5_of_20 rfl ?_
      refine xr_bipush E dX5_of_21 (by decide) ?_
      refine xk_i (W2 := fun uu => (W_XF y hXo hF a_ind a_tot a_pri hD hP hT a_rfs a_shs ind tot pri q fr li sh uu)) E hX [0, 5] rfl (xv_V (As := [.int (iI (-2))]) E hX hl (c_X5_refuses l D y z _ hXo hF hD hP hT a_rfs a_shs rfs (-2) (by omega)) ml_X5_89 im_X5_refuses se_X5_refuses in_X5 co_X5_refuses 1 (by decide) ⟨rfl, rfl⟩ ⟨Nat.le_of_ble_eq_true rfl, Nat.le_of_ble_eq_true rfl⟩ [0, 5] rfl rfl 0 rfl rfl rfl rfl rfl (Nat.le_of_ble_eq_true rfl) dX5_of_23 ⟨Nat.le_refl _, Nat.le_refl _⟩) [0, 3, 4, 5, 6, 1] 2 (fun _ => rfl) (fun _ => rfl) (by decide) (by decide) (fun r_23 uu H locs hw hX => ?_)
      obtain ⟨rfl, rfl⟩ := hw
      have hX : XW D A s.heap (W_XF y hXo hF a_ind a_tot a_pri hD hP hT a_rfs a_shs ind tot pri q fr li sh (rfU rfs (-2))) H locs := hX
      exact xr_iret E hX hQ (rfU rfs (-2)) hr ⟨by unfold xqOf; (repeat' split) <;> first | (exfalso; omega) | rfl | (congr 1; omega) | (congr 2; omega), by unfold rqOf; (repeat' split) <;> first | (exfalso; omega) | rfl | (congr 1; omega) | (congr 2; omega)⟩ rfl dX5_of_26
def xqYr (ind tot : Int → Int) (q v w : Int) : Int := if (0 ≤ v ∧ v ≤ 2) ∧ 0 ≤ w ∧ w ≤ 2 then xYr ind tot q v w else -2
def rqYr (rfs : Int → Int) (v w : Int) : Int → Int := if (0 ≤ v ∧ v ≤ 2) ∧ 0 ≤ w ∧ w ≤ 2 then rfs else rfU rfs (-2)
abbrev rm_X5_year : Room := { frames := 3, cells := 0, slots := 0, locals := 66 }
set_option maxHeartbeats 4000000 in
set_option maxRecDepth 100000 in
theorem c_X5_year (l : Launch) (D : va_G) (y : CY) (z sz : Nat) (hXo hF a_ind a_tot a_pri hD hP hT a_rfs a_shs : Nat) (ind : Int → Int) (tot : Int → Int) (pri : Int → Int) (q : Int) (fr : Int) (li : Int) (sh : Int) (rfs : Int → Int) (v : Int) (w : Int) (H_I : FI ind tot pri q fr li sh) (hv : sm v) (hw : sm w) : Met l yX5_year (Cond.code yX5_year cX5_year 3 (some .int) :: TW) rm_X5_year (va_Pc [.ref hXo, .int (iI v), .int (iI w)] (PX D y z (W_XF y hXo hF a_ind a_tot a_pri hD hP hT a_rfs a_shs ind tot pri q fr li sh rfs) sz)) (va_Qi (fun (r : Int32) (uu : (Int → Int)) => r = iI (xqYr ind tot q v w) ∧ uu = rqYr rfs v w) (fun uu t => BX D (W_XF y hXo hF a_ind a_tot a_pri hD hP hT a_rfs a_shs ind tot pri q fr li sh uu) (va_A (W_XF y hXo hF a_ind a_tot a_pri hD hP hT a_rfs a_shs ind tot pri q fr li sh rfs) sz) t) (va_A (W_XF y hXo hF a_ind a_tot a_pri hD hP hT a_rfs a_shs ind tot pri q fr li sh rfs) sz)) 0 0 (va_A (W_XF y hXo hF a_ind a_tot a_pri hD hP hT a_rfs a_shs ind tot pri q fr li sh rfs) sz) := by
  refine xm_i (by decide) (Nat.le_of_ble_eq_true rfl) (fun p e s m args below meth cX ls A Q E hr hnm hX hl hQ => ?_)
  have hl : lv_has ls 3 [(0, .ref hXo), (1, .int (iI v)), (2, .int (iI w))] := hl
  have hq := H_I.q
  have hfr := H_I.fr
  have hli := H_I.li
  have hsh := H_I.sh
  refine xr_iload_n E hl 1 rfl dX5_year_0 rfl ?_
  refine xk_ri E hX [] rfl (xv_S (As := [.int (iI v)]) E hX hl (c_X5_isYear l D y z _ v ⟨by omega, by omega⟩) ml_X5_95 st_X5_isYear in_X5 co_X5_isYear 1 (by decide) ⟨rfl, rfl⟩ ⟨Nat.le_of_ble_eq_true rfl, Nat.le_of_ble_eq_true rfl⟩ [] rfl rfl rfl rfl (Nat.le_of_ble_eq_true rfl) dX5_year_1 ⟨Nat.le_refl _, Nat.le_refl _⟩) (fun r_1 H locs hw hX => ?_)
  subst hw
  refine xr_if_eqB (tgt := 16) E dX5_year_4 (by decide) (fun c_4 => ?_) (fun c_4 => ?_)
  · have c_4 := of_decide_eq_false c_4
    refine xr_aload_n E hl 0 rfl dX5_year_16 rfl ?_
    refine xr_bipush E dX5_year_17 (by decide) ?_
    refine xk_i (W2 := fun uu => (W_XF y hXo hF a_ind a_tot a_pri hD hP hT a_rfs a_shs ind tot pri q fr li sh uu)) E hX [0, 5] rfl (xv_V (As := [.int (iI (-2))]) E hX hl (c_X5_refuses l D y z _ hXo hF hD hP hT a_rfs a_shs rfs (-2) (by omega)) ml_X5_89 im_X5_refuses se_X5_refuses in_X5 co_X5_refuses 1 (by decide) ⟨rfl, rfl⟩ ⟨Nat.le_of_ble_eq_true rfl, Nat.le_of_ble_eq_true rfl⟩ [0, 5] rfl rfl 0 rfl rfl rfl rfl rfl (Nat.le_of_ble_eq_true rfl) dX5_year_19 ⟨Nat.le_refl _, Nat.le_refl _⟩) [0, 3, 4, 5, 6, 1] 2 (fun _ => rfl) (fun _ => rfl) (by decide) (by decide) (fun r_19 uu H locs hw hX => ?_)
    obtain ⟨rfl, rfl⟩ := hw
    have hX : XW D A s.heap (W_XF y hXo hF a_ind a_tot a_pri hD hP hT a_rfs a_shs ind tot pri q fr li sh (rfU rfs (-2))) H locs := hX
    exact xr_iret E hX hQ (rfU rfs (-2)) hr ⟨by unfold xqYr; (repeat' split) <;> first | (exfalso; omega) | rfl | (congr 1; omega) | (congr 2; omega), by unfold rqYr; (repeat' split) <;> first | (exfalso; omega) | rfl | (congr 1; omega) | (congr 2; omega)⟩ rfl dX5_year_22
  · have c_4 := of_decide_eq_true c_4
    refine xr_iload_n E hl 2 rfl dX5_year_7 rfl ?_
    refine xr_iconst E dX5_year_8 ?_
    refine xr_iconst E dX5_year_9 ?_
    refine xk_ri E hX [] rfl (xv_S (As := [.int (iI w), .int (iI 0), .int (iI 2)]) E hX hl (c_X5_within l D y z _ w 0 2 ⟨by omega, by omega⟩ ⟨by omega, by omega⟩ ⟨by omega, by omega⟩) ml_X5_85 st_X5_within in_X5 co_X5_within 3 (by decide) ⟨rfl, rfl⟩ ⟨Nat.le_of_ble_eq_true rfl, Nat.le_of_ble_eq_true rfl⟩ [] rfl rfl rfl rfl (Nat.le_of_ble_eq_true rfl) dX5_year_10 ⟨Nat.le_refl _, Nat.le_refl _⟩) (fun r_10 H locs hw hX => ?_)
    subst hw
    refine xr_if_neB (tgt := 23) E dX5_year_13 (by decide) (fun c_13 => ?_) (fun c_13 => ?_)
    · have c_13 := of_decide_eq_true c_13
      refine xr_aload_n E hl 0 rfl dX5_year_23 rfl ?_
      refine xr_get E hX 0 rfl rfl ly_X5 0 (by decide) fl_X5_12 rfl dX5_year_24 ?_
      refine xr_iload_n E hl 1 rfl dX5_year_27 rfl ?_
      refine xr_iload_n E hl 2 rfl dX5_year_28 rfl ?_
      refine xk_ri E hX [1, 2, 3, 4] rfl (xv_V (As := [.int (iI v), .int (iI w)]) E hX hl (c_X2_toldOfYear l D y z _ hF a_ind a_tot a_pri ind tot pri q fr li sh v w H_I (by omega) (by omega)) ml_X5_98 im_X2_toldOfYear se_X2_toldOfYear in_X2 co_X2_toldOfYear 2 (by decide) ⟨rfl, rfl⟩ ⟨Nat.le_of_ble_eq_true rfl, Nat.le_of_ble_eq_true rfl⟩ [1, 2, 3, 4] rfl rfl 1 rfl rfl rfl rfl rfl (Nat.le_of_ble_eq_true rfl) dX5_year_29 ⟨Nat.le_refl _, Nat.le_refl _⟩) (fun r_29 H locs hw hX => ?_)
      subst hw
      exact xr_iret E hX hQ rfs hr ⟨by unfold xqYr; (repeat' split) <;> first | (exfalso; omega) | rfl | (congr 1; omega) | (congr 2; omega), by unfold rqYr; (repeat' split) <;> first | (exfalso; omega) | rfl | (congr 1; omega) | (congr 2; omega)⟩ rfl dX5_year_32
    · have c_13 := of_decide_eq_false c_13
      refine xr_aload_n E hl 0 rfl dX5_year_16 rfl ?_
      refine xr_bipush E dX5_year_17 (by decide) ?_
      refine xk_i (W2 := fun uu => (W_XF y hXo hF a_ind a_tot a_pri hD hP hT a_rfs a_shs ind tot pri q fr li sh uu)) E hX [0, 5] rfl (xv_V (As := [.int (iI (-2))]) E hX hl (c_X5_refuses l D y z _ hXo hF hD hP hT a_rfs a_shs rfs (-2) (by omega)) ml_X5_89 im_X5_refuses se_X5_refuses in_X5 co_X5_refuses 1 (by decide) ⟨rfl, rfl⟩ ⟨Nat.le_of_ble_eq_true rfl, Nat.le_of_ble_eq_true rfl⟩ [0, 5] rfl rfl 0 rfl rfl rfl rfl rfl (Nat.le_of_ble_eq_true rfl) dX5_year_19 ⟨Nat.le_refl _, Nat.le_refl _⟩) [0, 3, 4, 5, 6, 1] 2 (fun _ => rfl) (fun _ => rfl) (by decide) (by decide) (fun r_19 uu H locs hw hX => ?_)
      obtain ⟨rfl, rfl⟩ := hw
      have hX : XW D A s.heap (W_XF y hXo hF a_ind a_tot a_pri hD hP hT a_rfs a_shs ind tot pri q fr li sh (rfU rfs (-2))) H locs := hX
      exact xr_iret E hX hQ (rfU rfs (-2)) hr ⟨by unfold xqYr; (repeat' split) <;> first | (exfalso; omega) | rfl | (congr 1; omega) | (congr 2; omega), by unfold rqYr; (repeat' split) <;> first | (exfalso; omega) | rfl | (congr 1; omega) | (congr 2; omega)⟩ rfl dX5_year_22
def xqCo (tot pri : Int → Int) (q fr li sh w : Int) : Int := if 0 ≤ w ∧ w ≤ 5 then xAll tot pri q fr li sh w else -2
def rqCo (rfs : Int → Int) (w : Int) : Int → Int := if 0 ≤ w ∧ w ≤ 5 then rfs else rfU rfs (-2)
abbrev rm_X5_count : Room := { frames := 3, cells := 0, slots := 0, locals := 64 }
set_option maxHeartbeats 4000000 in
set_option maxRecDepth 100000 in
theorem c_X5_count (l : Launch) (D : va_G) (y : CY) (z sz : Nat) (hXo hF a_ind a_tot a_pri hD hP hT a_rfs a_shs : Nat) (ind : Int → Int) (tot : Int → Int) (pri : Int → Int) (q : Int) (fr : Int) (li : Int) (sh : Int) (rfs : Int → Int) (w : Int) (H_I : FI ind tot pri q fr li sh) (hw : sm w) : Met l yX5_count (Cond.code yX5_count cX5_count 2 (some .int) :: TW) rm_X5_count (va_Pc [.ref hXo, .int (iI w)] (PX D y z (W_XF y hXo hF a_ind a_tot a_pri hD hP hT a_rfs a_shs ind tot pri q fr li sh rfs) sz)) (va_Qi (fun (r : Int32) (uu : (Int → Int)) => r = iI (xqCo tot pri q fr li sh w) ∧ uu = rqCo rfs w) (fun uu t => BX D (W_XF y hXo hF a_ind a_tot a_pri hD hP hT a_rfs a_shs ind tot pri q fr li sh uu) (va_A (W_XF y hXo hF a_ind a_tot a_pri hD hP hT a_rfs a_shs ind tot pri q fr li sh rfs) sz) t) (va_A (W_XF y hXo hF a_ind a_tot a_pri hD hP hT a_rfs a_shs ind tot pri q fr li sh rfs) sz)) 0 0 (va_A (W_XF y hXo hF a_ind a_tot a_pri hD hP hT a_rfs a_shs ind tot pri q fr li sh rfs) sz) := by
  refine xm_i (by decide) (Nat.le_of_ble_eq_true rfl) (fun p e s m args below meth cX ls A Q E hr hnm hX hl hQ => ?_)
  have hl : lv_has ls 2 [(0, .ref hXo), (1, .int (iI w))] := hl
  have hq := H_I.q
  have hfr := H_I.fr
  have hli := H_I.li
  have hsh := H_I.sh
  refine xr_iload_n E hl 1 rfl dX5_count_0 rfl ?_
  refine xr_iconst E dX5_count_1 ?_
  refine xr_iconst E dX5_count_2 ?_
  refine xk_ri E hX [] rfl (xv_S (As := [.int (iI w), .int (iI 0), .int (iI 5)]) E hX hl (c_X5_within l D y z _ w 0 5 ⟨by omega, by omega⟩ ⟨by omega, by omega⟩ ⟨by omega, by omega⟩) ml_X5_85 st_X5_within in_X5 co_X5_within 3 (by decide) ⟨rfl, rfl⟩ ⟨Nat.le_of_ble_eq_true rfl, Nat.le_of_ble_eq_true rfl⟩ [] rfl rfl rfl rfl (Nat.le_of_ble_eq_true rfl) dX5_count_3 ⟨Nat.le_refl _, Nat.le_refl _⟩) (fun r_3 H locs hw hX => ?_)
  subst hw
  refine xr_if_neB (tgt := 16) E dX5_count_6 (by decide) (fun c_6 => ?_) (fun c_6 => ?_)
  · have c_6 := of_decide_eq_true c_6
    refine xr_aload_n E hl 0 rfl dX5_count_16 rfl ?_
    refine xr_get E hX 0 rfl rfl ly_X5 0 (by decide) fl_X5_12 rfl dX5_count_17 ?_
    refine xr_iload_n E hl 1 rfl dX5_count_20 rfl ?_
    refine xk_ri E hX [1, 2, 3, 4] rfl (xv_V (As := [.int (iI w)]) E hX hl (c_X2_toldOfAll l D y z _ hF a_ind a_tot a_pri ind tot pri q fr li sh w H_I (by omega)) ml_X5_101 im_X2_toldOfAll se_X2_toldOfAll in_X2 co_X2_toldOfAll 1 (by decide) ⟨rfl, rfl⟩ ⟨Nat.le_of_ble_eq_true rfl, Nat.le_of_ble_eq_true rfl⟩ [1, 2, 3, 4] rfl rfl 1 rfl rfl rfl rfl rfl (Nat.le_of_ble_eq_true rfl) dX5_count_21 ⟨Nat.le_refl _, Nat.le_refl _⟩) (fun r_21 H locs hw hX => ?_)
    subst hw
    exact xr_iret E hX hQ rfs hr ⟨by unfold xqCo; (repeat' split) <;> first | (exfalso; omega) | rfl | (congr 1; omega) | (congr 2; omega), by unfold rqCo; (repeat' split) <;> first | (exfalso; omega) | rfl | (congr 1; omega) | (congr 2; omega)⟩ rfl dX5_count_24
  · have c_6 := of_decide_eq_false c_6
    refine xr_aload_n E hl 0 rfl dX5_count_9 rfl ?_
    refine xr_bipush E dX5_count_10 (by decide) ?_
    refine xk_i (W2 := fun uu => (W_XF y hXo hF a_ind a_tot a_pri hD hP hT a_rfs a_shs ind tot pri q fr li sh uu)) E hX [0, 5] rfl (xv_V (As := [.int (iI (-2))]) E hX hl (c_X5_refuses l D y z _ hXo hF hD hP hT a_rfs a_shs rfs (-2) (by omega)) ml_X5_89 im_X5_refuses se_X5_refuses in_X5 co_X5_refuses 1 (by decide) ⟨rfl, rfl⟩ ⟨Nat.le_of_ble_eq_true rfl, Nat.le_of_ble_eq_true rfl⟩ [0, 5] rfl rfl 0 rfl rfl rfl rfl rfl (Nat.le_of_ble_eq_true rfl) dX5_count_12 ⟨Nat.le_refl _, Nat.le_refl _⟩) [0, 3, 4, 5, 6, 1] 2 (fun _ => rfl) (fun _ => rfl) (by decide) (by decide) (fun r_12 uu H locs hw hX => ?_)
    obtain ⟨rfl, rfl⟩ := hw
    have hX : XW D A s.heap (W_XF y hXo hF a_ind a_tot a_pri hD hP hT a_rfs a_shs ind tot pri q fr li sh (rfU rfs (-2))) H locs := hX
    exact xr_iret E hX hQ (rfU rfs (-2)) hr ⟨by unfold xqCo; (repeat' split) <;> first | (exfalso; omega) | rfl | (congr 1; omega) | (congr 2; omega), by unfold rqCo; (repeat' split) <;> first | (exfalso; omega) | rfl | (congr 1; omega) | (congr 2; omega)⟩ rfl dX5_count_15
def xqSh (ind tot : Int → Int) (q t : Int) : Int := if 0 ≤ t ∧ t ≤ q - 1 then xShare ind tot q t else -2
def rqSh (rfs : Int → Int) (q t : Int) : Int → Int := if 0 ≤ t ∧ t ≤ q - 1 then rfs else rfU rfs (-2)
abbrev rm_X5_shared : Room := { frames := 2, cells := 0, slots := 0, locals := 51 }
set_option maxHeartbeats 4000000 in
set_option maxRecDepth 100000 in
theorem c_X5_shared (l : Launch) (D : va_G) (y : CY) (z sz : Nat) (hXo hF a_ind a_tot a_pri hD hP hT a_rfs a_shs : Nat) (ind : Int → Int) (tot : Int → Int) (pri : Int → Int) (q : Int) (fr : Int) (li : Int) (sh : Int) (rfs : Int → Int) (t : Int) (H_I : FI ind tot pri q fr li sh) (ht : sm t) : Met l yX5_shared (Cond.code yX5_shared cX5_shared 2 (some .int) :: TW) rm_X5_shared (va_Pc [.ref hXo, .int (iI t)] (PX D y z (W_XF y hXo hF a_ind a_tot a_pri hD hP hT a_rfs a_shs ind tot pri q fr li sh rfs) sz)) (va_Qi (fun (r : Int32) (uu : (Int → Int)) => r = iI (xqSh ind tot q t) ∧ uu = rqSh rfs q t) (fun uu t => BX D (W_XF y hXo hF a_ind a_tot a_pri hD hP hT a_rfs a_shs ind tot pri q fr li sh uu) (va_A (W_XF y hXo hF a_ind a_tot a_pri hD hP hT a_rfs a_shs ind tot pri q fr li sh rfs) sz) t) (va_A (W_XF y hXo hF a_ind a_tot a_pri hD hP hT a_rfs a_shs ind tot pri q fr li sh rfs) sz)) 0 0 (va_A (W_XF y hXo hF a_ind a_tot a_pri hD hP hT a_rfs a_shs ind tot pri q fr li sh rfs) sz) := by
  refine xm_i (by decide) (Nat.le_of_ble_eq_true rfl) (fun p e s m args below meth cX ls A Q E hr hnm hX hl hQ => ?_)
  have hl : lv_has ls 2 [(0, .ref hXo), (1, .int (iI t))] := hl
  have hq := H_I.q
  have hfr := H_I.fr
  have hli := H_I.li
  have hsh := H_I.sh
  refine xr_aload_n E hl 0 rfl dX5_shared_0 rfl ?_
  refine xr_get E hX 0 rfl rfl ly_X5 0 (by decide) fl_X5_12 rfl dX5_shared_1 ?_
  refine xr_iload_n E hl 1 rfl dX5_shared_4 rfl ?_
  refine xk_ri E hX [1, 2, 3, 4] rfl (xv_V (As := [.int (iI t)]) E hX hl (c_X2_has l D y z _ hF a_ind a_tot a_pri ind tot pri q fr li sh t ⟨by omega, by omega⟩ ⟨by omega, by omega⟩) ml_X5_81 im_X2_has se_X2_has in_X2 co_X2_has 1 (by decide) ⟨rfl, rfl⟩ ⟨Nat.le_of_ble_eq_true rfl, Nat.le_of_ble_eq_true rfl⟩ [1, 2, 3, 4] rfl rfl 1 rfl rfl rfl rfl rfl (Nat.le_of_ble_eq_true rfl) dX5_shared_5 ⟨Nat.le_refl _, Nat.le_refl _⟩) (fun r_5 H locs hw hX => ?_)
  subst hw
  refine xr_if_neB (tgt := 18) E dX5_shared_8 (by decide) (fun c_8 => ?_) (fun c_8 => ?_)
  · have c_8 := of_decide_eq_true c_8
    refine xr_aload_n E hl 0 rfl dX5_shared_18 rfl ?_
    refine xr_get E hX 0 rfl rfl ly_X5 0 (by decide) fl_X5_12 rfl dX5_shared_19 ?_
    refine xr_iload_n E hl 1 rfl dX5_shared_22 rfl ?_
    refine xk_ri E hX [1, 2, 3, 4] rfl (xv_V (As := [.int (iI t)]) E hX hl (c_X2_share l D y z _ hF a_ind a_tot a_pri ind tot pri q fr li sh t H_I (by omega)) ml_X5_145 im_X2_share se_X2_share in_X2 co_X2_share 1 (by decide) ⟨rfl, rfl⟩ ⟨Nat.le_of_ble_eq_true rfl, Nat.le_of_ble_eq_true rfl⟩ [1, 2, 3, 4] rfl rfl 1 rfl rfl rfl rfl rfl (Nat.le_of_ble_eq_true rfl) dX5_shared_23 ⟨Nat.le_refl _, Nat.le_refl _⟩) (fun r_23 H locs hw hX => ?_)
    subst hw
    exact xr_iret E hX hQ rfs hr ⟨by unfold xqSh; (repeat' split) <;> first | (exfalso; omega) | rfl | (congr 1; omega) | (congr 2; omega), by unfold rqSh; (repeat' split) <;> first | (exfalso; omega) | rfl | (congr 1; omega) | (congr 2; omega)⟩ rfl dX5_shared_26
  · have c_8 := of_decide_eq_false c_8
    refine xr_aload_n E hl 0 rfl dX5_shared_11 rfl ?_
    refine xr_bipush E dX5_shared_12 (by decide) ?_
    refine xk_i (W2 := fun uu => (W_XF y hXo hF a_ind a_tot a_pri hD hP hT a_rfs a_shs ind tot pri q fr li sh uu)) E hX [0, 5] rfl (xv_V (As := [.int (iI (-2))]) E hX hl (c_X5_refuses l D y z _ hXo hF hD hP hT a_rfs a_shs rfs (-2) (by omega)) ml_X5_89 im_X5_refuses se_X5_refuses in_X5 co_X5_refuses 1 (by decide) ⟨rfl, rfl⟩ ⟨Nat.le_of_ble_eq_true rfl, Nat.le_of_ble_eq_true rfl⟩ [0, 5] rfl rfl 0 rfl rfl rfl rfl rfl (Nat.le_of_ble_eq_true rfl) dX5_shared_14 ⟨Nat.le_refl _, Nat.le_refl _⟩) [0, 3, 4, 5, 6, 1] 2 (fun _ => rfl) (fun _ => rfl) (by decide) (by decide) (fun r_14 uu H locs hw hX => ?_)
    obtain ⟨rfl, rfl⟩ := hw
    have hX : XW D A s.heap (W_XF y hXo hF a_ind a_tot a_pri hD hP hT a_rfs a_shs ind tot pri q fr li sh (rfU rfs (-2))) H locs := hX
    exact xr_iret E hX hQ (rfU rfs (-2)) hr ⟨by unfold xqSh; (repeat' split) <;> first | (exfalso; omega) | rfl | (congr 1; omega) | (congr 2; omega), by unfold rqSh; (repeat' split) <;> first | (exfalso; omega) | rfl | (congr 1; omega) | (congr 2; omega)⟩ rfl dX5_shared_17
def xTo (rfs : Int → Int) (len sts w : Int) : Int := if w = 3 then len else if w = 4 then sts else rfs w
def xqTo (rfs : Int → Int) (len sts w : Int) : Int := if 0 ≤ w ∧ w ≤ 4 then xTo rfs len sts w else -2
def rqTo (rfs : Int → Int) (w : Int) : Int → Int := if 0 ≤ w ∧ w ≤ 4 then rfs else rfU rfs (-2)
abbrev rm_X5_told : Room := { frames := 2, cells := 0, slots := 0, locals := 44 }
set_option maxHeartbeats 4000000 in
set_option maxRecDepth 100000 in
theorem c_X5_told (l : Launch) (D : va_G) (y : CY) (z sz : Nat) (hXo hF hD hP a_ring hT a_byt a_ltr a_fir a_sec a_rfs a_shs : Nat) (top : Int) (sts : Int) (len : Int) (ord : Int) (opn : Bool) (num : Int) (fig : Int) (rfs : Int → Int) (w : Int) (hw : sm w) : Met l yX5_told (Cond.code yX5_told cX5_told 2 (some .int) :: TW) rm_X5_told (va_Pc [.ref hXo, .int (iI w)] (PX D y z (W_Xt y hXo hF hD hP a_ring hT a_byt a_ltr a_fir a_sec a_rfs a_shs top sts len ord opn num fig rfs) sz)) (va_Qi (fun (r : Int32) (uu : (Int → Int)) => r = iI (xqTo rfs len sts w) ∧ uu = rqTo rfs w) (fun uu t => BX D (W_Xt y hXo hF hD hP a_ring hT a_byt a_ltr a_fir a_sec a_rfs a_shs top sts len ord opn num fig uu) (va_A (W_Xt y hXo hF hD hP a_ring hT a_byt a_ltr a_fir a_sec a_rfs a_shs top sts len ord opn num fig rfs) sz) t) (va_A (W_Xt y hXo hF hD hP a_ring hT a_byt a_ltr a_fir a_sec a_rfs a_shs top sts len ord opn num fig rfs) sz)) 0 0 (va_A (W_Xt y hXo hF hD hP a_ring hT a_byt a_ltr a_fir a_sec a_rfs a_shs top sts len ord opn num fig rfs) sz) := by
  refine xm_i (by decide) (Nat.le_of_ble_eq_true rfl) (fun p e s m args below meth cX ls A Q E hr hnm hX hl hQ => ?_)
  have hl : lv_has ls 2 [(0, .ref hXo), (1, .int (iI w))] := hl
  refine xr_iload_n E hl 1 rfl dX5_told_0 rfl ?_
  refine xr_iconst E dX5_told_1 ?_
  refine xr_iconst E dX5_told_2 ?_
  refine xk_ri E hX [] rfl (xv_S (As := [.int (iI w), .int (iI 0), .int (iI 4)]) E hX hl (c_X5_within l D y z _ w 0 4 ⟨by omega, by omega⟩ ⟨by omega, by omega⟩ ⟨by omega, by omega⟩) ml_X5_85 st_X5_within in_X5 co_X5_within 3 (by decide) ⟨rfl, rfl⟩ ⟨Nat.le_of_ble_eq_true rfl, Nat.le_of_ble_eq_true rfl⟩ [] rfl rfl rfl rfl (Nat.le_of_ble_eq_true rfl) dX5_told_3 ⟨Nat.le_refl _, Nat.le_refl _⟩) (fun r_3 H locs hw hX => ?_)
  subst hw
  refine xr_if_neB (tgt := 16) E dX5_told_6 (by decide) (fun c_6 => ?_) (fun c_6 => ?_)
  · have c_6 := of_decide_eq_true c_6
    refine xr_iload_n E hl 1 rfl dX5_told_16 rfl ?_
    refine xr_iconst E dX5_told_17 ?_
    refine xr_icmp_ne (tgt := 29) E dX5_told_18 (by decide) ⟨by omega, by omega⟩ (by decide) (fun c_18 => ?_) (fun c_18 => ?_)
    · have c_18 := c_18
      refine xr_iload_n E hl 1 rfl dX5_told_29 rfl ?_
      refine xr_iconst E dX5_told_30 ?_
      refine xr_icmp_ne (tgt := 44) E dX5_told_31 (by decide) ⟨by omega, by omega⟩ (by decide) (fun c_31 => ?_) (fun c_31 => ?_)
      · have c_31 := c_31
        refine xr_aload_n E hl 0 rfl dX5_told_44 rfl ?_
        refine xr_get E hX 0 rfl rfl ly_X5 4 (by decide) fl_X5_37 rfl dX5_told_45 ?_
        refine xr_iload_n E hl 1 rfl dX5_told_48 rfl ?_
        refine xr_iald E hX 3 rfl (by omega) (by omega) (by decide) dX5_told_49 ?_
        exact xr_iret E hX hQ rfs hr ⟨by unfold xqTo xTo; (repeat' split) <;> first | (exfalso; omega) | rfl | (congr 1; omega) | (congr 2; omega), by unfold rqTo; (repeat' split) <;> first | (exfalso; omega) | rfl | (congr 1; omega) | (congr 2; omega)⟩ rfl dX5_told_50
      · have c_31 := c_31
        refine xr_aload_n E hl 0 rfl dX5_told_34 rfl ?_
        refine xr_get E hX 0 rfl rfl ly_X5 2 (by decide) fl_X5_26 rfl dX5_told_35 ?_
        refine xr_get E hX 1 rfl rfl ly_X3 2 (by decide) fl_X5_189 rfl dX5_told_38 ?_
        refine xr_goto (tgt := 50) E dX5_told_41 (by decide) ?_
        exact xr_iret E hX hQ rfs hr ⟨by unfold xqTo xTo; (repeat' split) <;> first | (exfalso; omega) | rfl | (congr 1; omega) | (congr 2; omega), by unfold rqTo; (repeat' split) <;> first | (exfalso; omega) | rfl | (congr 1; omega) | (congr 2; omega)⟩ rfl dX5_told_50
    · have c_18 := c_18
      refine xr_aload_n E hl 0 rfl dX5_told_21 rfl ?_
      refine xr_get E hX 0 rfl rfl ly_X5 3 (by decide) fl_X5_33 rfl dX5_told_22 ?_
      refine xr_get E hX 2 rfl rfl ly_X4 1 (by decide) fl_X5_152 rfl dX5_told_25 ?_
      exact xr_iret E hX hQ rfs hr ⟨by unfold xqTo xTo; (repeat' split) <;> first | (exfalso; omega) | rfl | (congr 1; omega) | (congr 2; omega), by unfold rqTo; (repeat' split) <;> first | (exfalso; omega) | rfl | (congr 1; omega) | (congr 2; omega)⟩ rfl dX5_told_28
  · have c_6 := of_decide_eq_false c_6
    refine xr_aload_n E hl 0 rfl dX5_told_9 rfl ?_
    refine xr_bipush E dX5_told_10 (by decide) ?_
    refine xk_i (W2 := fun uu => (W_Xt y hXo hF hD hP a_ring hT a_byt a_ltr a_fir a_sec a_rfs a_shs top sts len ord opn num fig uu)) E hX [0, 3] rfl (xv_V (As := [.int (iI (-2))]) E hX hl (c_X5_refuses l D y z _ hXo hF hD hP hT a_rfs a_shs rfs (-2) (by omega)) ml_X5_89 im_X5_refuses se_X5_refuses in_X5 co_X5_refuses 1 (by decide) ⟨rfl, rfl⟩ ⟨Nat.le_of_ble_eq_true rfl, Nat.le_of_ble_eq_true rfl⟩ [0, 3] rfl rfl 0 rfl rfl rfl rfl rfl (Nat.le_of_ble_eq_true rfl) dX5_told_12 ⟨Nat.le_refl _, Nat.le_refl _⟩) [0, 3, 4, 1] 2 (fun _ => rfl) (fun _ => rfl) (by decide) (by decide) (fun r_12 uu H locs hw hX => ?_)
    obtain ⟨rfl, rfl⟩ := hw
    have hX : XW D A s.heap (W_Xt y hXo hF hD hP a_ring hT a_byt a_ltr a_fir a_sec a_rfs a_shs top sts len ord opn num fig (rfU rfs (-2))) H locs := hX
    exact xr_iret E hX hQ (rfU rfs (-2)) hr ⟨by unfold xqTo xTo; (repeat' split) <;> first | (exfalso; omega) | rfl | (congr 1; omega) | (congr 2; omega), by unfold rqTo; (repeat' split) <;> first | (exfalso; omega) | rfl | (congr 1; omega) | (congr 2; omega)⟩ rfl dX5_told_15
def xqTy (len c : Int) : Int := if 0 ≤ c ∧ c ≤ 127 then (if 120 ≤ len then -4 else len + 1) else -2
def tqTy (byt : Int → Int) (len c : Int) : Int → Int := if 0 ≤ c ∧ c ≤ 127 then (if 120 ≤ len then byt else up byt len c) else byt
def lqTy (len c : Int) : Int := if 0 ≤ c ∧ c ≤ 127 then (if 120 ≤ len then len else len + 1) else len
def rqTy (rfs : Int → Int) (len c : Int) : Int → Int := if 0 ≤ c ∧ c ≤ 127 then (if 120 ≤ len then rfU rfs (-4) else rfs) else rfU rfs (-2)
abbrev rm_X5_type : Room := { frames := 2, cells := 0, slots := 0, locals := 44 }
set_option maxHeartbeats 4000000 in
set_option maxRecDepth 100000 in
theorem c_X5_type (l : Launch) (D : va_G) (y : CY) (z sz : Nat) (hXo hF hD hP hT a_byt a_ltr a_fir a_sec a_rfs a_shs : Nat) (byt : Int → Int) (len : Int) (ltr : Int → Int) (fir : Int → Int) (sec : Int → Int) (ord : Int) (opn : Bool) (num : Int) (fig : Int) (rfs : Int → Int) (c : Int) (hc : sm c) (hl0 : 0 ≤ len ∧ len ≤ 120) : Met l yX5_type (Cond.code yX5_type cX5_type 2 (some .int) :: TW) rm_X5_type (va_Pc [.ref hXo, .int (iI c)] (PX D y z (W_XT y hXo hF hD hP hT a_byt a_ltr a_fir a_sec a_rfs a_shs byt len ltr fir sec ord opn num fig rfs) sz)) (va_Qi (fun (r : Int32) (uu : (Int → Int) × (Int) × (Int → Int)) => r = iI (xqTy len c) ∧ uu = (tqTy byt len c, lqTy len c, rqTy rfs len c)) (fun uu t => BX D (W_XT y hXo hF hD hP hT a_byt a_ltr a_fir a_sec a_rfs a_shs uu.1 uu.2.1 ltr fir sec ord opn num fig uu.2.2) (va_A (W_XT y hXo hF hD hP hT a_byt a_ltr a_fir a_sec a_rfs a_shs byt len ltr fir sec ord opn num fig rfs) sz) t) (va_A (W_XT y hXo hF hD hP hT a_byt a_ltr a_fir a_sec a_rfs a_shs byt len ltr fir sec ord opn num fig rfs) sz)) 0 0 (va_A (W_XT y hXo hF hD hP hT a_byt a_ltr a_fir a_sec a_rfs a_shs byt len ltr fir sec ord opn num fig rfs) sz) := by
  refine xm_i (by decide) (Nat.le_of_ble_eq_true rfl) (fun p e s m args below meth cX ls A Q E hr hnm hX hl hQ => ?_)
  have hl : lv_has ls 2 [(0, .ref hXo), (1, .int (iI c))] := hl
  refine xr_iload_n E hl 1 rfl dX5_type_0 rfl ?_
  refine xr_iconst E dX5_type_1 ?_
  refine xr_bipush E dX5_type_2 (by decide) ?_
  refine xk_ri E hX [] rfl (xv_S (As := [.int (iI c), .int (iI 0), .int (iI 127)]) E hX hl (c_X5_within l D y z _ c 0 127 ⟨by omega, by omega⟩ ⟨by omega, by omega⟩ ⟨by omega, by omega⟩) ml_X5_85 st_X5_within in_X5 co_X5_within 3 (by decide) ⟨rfl, rfl⟩ ⟨Nat.le_of_ble_eq_true rfl, Nat.le_of_ble_eq_true rfl⟩ [] rfl rfl rfl rfl (Nat.le_of_ble_eq_true rfl) dX5_type_4 ⟨Nat.le_refl _, Nat.le_refl _⟩) (fun r_4 H locs hw hX => ?_)
  subst hw
  refine xr_if_neB (tgt := 17) E dX5_type_7 (by decide) (fun c_7 => ?_) (fun c_7 => ?_)
  · have c_7 := of_decide_eq_true c_7
    refine xr_aload_n E hl 0 rfl dX5_type_17 rfl ?_
    refine xr_get E hX 0 rfl rfl ly_X5 3 (by decide) fl_X5_33 rfl dX5_type_18 ?_
    refine xr_get E hX 1 rfl rfl ly_X4 1 (by decide) fl_X5_152 rfl dX5_type_21 ?_
    refine xr_bipush E dX5_type_24 (by decide) ?_
    refine xr_icmp_lt (tgt := 36) E dX5_type_26 (by decide) ⟨by omega, by omega⟩ (by decide) (fun c_26 => ?_) (fun c_26 => ?_)
    · have c_26 := c_26
      refine xr_aload_n E hl 0 rfl dX5_type_36 rfl ?_
      refine xr_get E hX 0 rfl rfl ly_X5 3 (by decide) fl_X5_33 rfl dX5_type_37 ?_
      refine xr_iload_n E hl 1 rfl dX5_type_40 rfl ?_
      refine xk_i (W2 := fun uu => (W_XT y hXo hF hD hP hT a_byt a_ltr a_fir a_sec a_rfs a_shs uu.1 uu.2 ltr fir sec ord opn num fig rfs)) E hX [1, 2, 3, 4, 5] rfl (xv_V (As := [.int (iI c)]) E hX hl (c_X4_takes l D y z _ hT a_byt a_ltr a_fir a_sec byt len ltr fir sec ord opn num fig c (by omega)) ml_X5_155 im_X4_takes se_X4_takes in_X4 co_X4_takes 1 (by decide) ⟨rfl, rfl⟩ ⟨Nat.le_of_ble_eq_true rfl, Nat.le_of_ble_eq_true rfl⟩ [1, 2, 3, 4, 5] rfl rfl 1 rfl rfl rfl rfl rfl (Nat.le_of_ble_eq_true rfl) dX5_type_41 ⟨Nat.le_refl _, Nat.le_refl _⟩) [5, 0, 1, 2, 3, 4, 11] 5 (fun _ => rfl) (fun _ => rfl) (by decide) (by decide) (fun r_41 uu H locs hw hX => ?_)
      obtain ⟨rfl, rfl⟩ := hw
      have hX : XW D A s.heap (W_XT y hXo hF hD hP hT a_byt a_ltr a_fir a_sec a_rfs a_shs (up byt len c) (len + 1) ltr fir sec ord opn num fig rfs) H locs := hX
      exact xr_iret E hX hQ (up byt len c, len + 1, rfs) hr ⟨by unfold xqTy; (repeat' split) <;> first | (exfalso; omega) | rfl | (congr 1; omega) | (congr 2; omega), by unfold tqTy lqTy rqTy; (repeat' split) <;> first | (exfalso; omega) | rfl | (congr 1; omega) | (congr 2; omega)⟩ rfl dX5_type_44
    · have c_26 := c_26
      refine xr_aload_n E hl 0 rfl dX5_type_29 rfl ?_
      refine xr_bipush E dX5_type_30 (by decide) ?_
      refine xk_i (W2 := fun uu => (W_XT y hXo hF hD hP hT a_byt a_ltr a_fir a_sec a_rfs a_shs byt len ltr fir sec ord opn num fig uu)) E hX [0, 6] rfl (xv_V (As := [.int (iI (-4))]) E hX hl (c_X5_refuses l D y z _ hXo hF hD hP hT a_rfs a_shs rfs (-4) (by omega)) ml_X5_89 im_X5_refuses se_X5_refuses in_X5 co_X5_refuses 1 (by decide) ⟨rfl, rfl⟩ ⟨Nat.le_of_ble_eq_true rfl, Nat.le_of_ble_eq_true rfl⟩ [0, 6] rfl rfl 0 rfl rfl rfl rfl rfl (Nat.le_of_ble_eq_true rfl) dX5_type_32 ⟨Nat.le_refl _, Nat.le_refl _⟩) [0, 3, 4, 5, 6, 7, 1] 2 (fun _ => rfl) (fun _ => rfl) (by decide) (by decide) (fun r_32 uu H locs hw hX => ?_)
      obtain ⟨rfl, rfl⟩ := hw
      have hX : XW D A s.heap (W_XT y hXo hF hD hP hT a_byt a_ltr a_fir a_sec a_rfs a_shs byt len ltr fir sec ord opn num fig (rfU rfs (-4))) H locs := hX
      exact xr_iret E hX hQ (byt, len, rfU rfs (-4)) hr ⟨by unfold xqTy; (repeat' split) <;> first | (exfalso; omega) | rfl | (congr 1; omega) | (congr 2; omega), by unfold tqTy lqTy rqTy; (repeat' split) <;> first | (exfalso; omega) | rfl | (congr 1; omega) | (congr 2; omega)⟩ rfl dX5_type_35
  · have c_7 := of_decide_eq_false c_7
    refine xr_aload_n E hl 0 rfl dX5_type_10 rfl ?_
    refine xr_bipush E dX5_type_11 (by decide) ?_
    refine xk_i (W2 := fun uu => (W_XT y hXo hF hD hP hT a_byt a_ltr a_fir a_sec a_rfs a_shs byt len ltr fir sec ord opn num fig uu)) E hX [0, 6] rfl (xv_V (As := [.int (iI (-2))]) E hX hl (c_X5_refuses l D y z _ hXo hF hD hP hT a_rfs a_shs rfs (-2) (by omega)) ml_X5_89 im_X5_refuses se_X5_refuses in_X5 co_X5_refuses 1 (by decide) ⟨rfl, rfl⟩ ⟨Nat.le_of_ble_eq_true rfl, Nat.le_of_ble_eq_true rfl⟩ [0, 6] rfl rfl 0 rfl rfl rfl rfl rfl (Nat.le_of_ble_eq_true rfl) dX5_type_13 ⟨Nat.le_refl _, Nat.le_refl _⟩) [0, 3, 4, 5, 6, 7, 1] 2 (fun _ => rfl) (fun _ => rfl) (by decide) (by decide) (fun r_13 uu H locs hw hX => ?_)
    obtain ⟨rfl, rfl⟩ := hw
    have hX : XW D A s.heap (W_XT y hXo hF hD hP hT a_byt a_ltr a_fir a_sec a_rfs a_shs byt len ltr fir sec ord opn num fig (rfU rfs (-2))) H locs := hX
    exact xr_iret E hX hQ (byt, len, rfU rfs (-2)) hr ⟨by unfold xqTy; (repeat' split) <;> first | (exfalso; omega) | rfl | (congr 1; omega) | (congr 2; omega), by unfold tqTy lqTy rqTy; (repeat' split) <;> first | (exfalso; omega) | rfl | (congr 1; omega) | (congr 2; omega)⟩ rfl dX5_type_16
abbrev rm_X5_clear : Room := { frames := 0, cells := 0, slots := 0, locals := 0 }
set_option maxHeartbeats 4000000 in
set_option maxRecDepth 100000 in
theorem c_X5_clear (l : Launch) (D : va_G) (y : CY) (z sz : Nat) (hXo hF hD hP hT a_byt a_ltr a_fir a_sec a_rfs a_shs : Nat) (byt : Int → Int) (len : Int) (ltr : Int → Int) (fir : Int → Int) (sec : Int → Int) (ord : Int) (opn : Bool) (num : Int) (fig : Int) (rfs : Int → Int) : Met l yX5_clear (Cond.code yX5_clear cX5_clear 2 (some .int) :: TW) rm_X5_clear (va_Pc [.ref hXo] (PX D y z (W_XT y hXo hF hD hP hT a_byt a_ltr a_fir a_sec a_rfs a_shs byt len ltr fir sec ord opn num fig rfs) sz)) (va_Qi (fun (r : Int32) (uu : (Int)) => r = iI len ∧ uu = 0) (fun uu t => BX D (W_XT y hXo hF hD hP hT a_byt a_ltr a_fir a_sec a_rfs a_shs byt uu ltr fir sec ord opn num fig rfs) (va_A (W_XT y hXo hF hD hP hT a_byt a_ltr a_fir a_sec a_rfs a_shs byt len ltr fir sec ord opn num fig rfs) sz) t) (va_A (W_XT y hXo hF hD hP hT a_byt a_ltr a_fir a_sec a_rfs a_shs byt len ltr fir sec ord opn num fig rfs) sz)) 0 0 (va_A (W_XT y hXo hF hD hP hT a_byt a_ltr a_fir a_sec a_rfs a_shs byt len ltr fir sec ord opn num fig rfs) sz) := by
  refine xm_i (by decide) (Nat.le_of_ble_eq_true rfl) (fun p e s m args below meth cX ls A Q E hr hnm hX hl hQ => ?_)
  have hl : lv_has ls 2 [(0, .ref hXo)] := hl
  refine xr_aload_n E hl 0 rfl dX5_clear_0 rfl ?_
  refine xr_get E hX 0 rfl rfl ly_X5 3 (by decide) fl_X5_33 rfl dX5_clear_1 ?_
  refine xr_get E hX 1 rfl rfl ly_X4 1 (by decide) fl_X5_152 rfl dX5_clear_4 ?_
  refine xr_istore_n (lv' := [(1, .int (iI len)), (0, .ref hXo)]) E hl dX5_clear_7 rfl (by decide) rfl (fun ls hl => ?_)
  refine xr_aload_n E hl 1 rfl dX5_clear_8 rfl ?_
  refine xr_get E hX 0 rfl rfl ly_X5 3 (by decide) fl_X5_33 rfl dX5_clear_9 ?_
  refine xr_iconst E dX5_clear_12 ?_
  refine xr_put (W1 := (W_XT y hXo hF hD hP hT a_byt a_ltr a_fir a_sec a_rfs a_shs byt 0 ltr fir sec ord opn num fig rfs)) E hX 1 rfl rfl ly_X4 tyX4_ok nmX4 1 (by decide) fl_X5_152 rfl rfl rfl (Nat.le_of_ble_eq_true rfl) rfl dX5_clear_13 (fun H locs hX => ?_)
  refine xr_iload_n E hl 0 rfl dX5_clear_16 rfl ?_
  exact xr_iret E hX hQ 0 hr ⟨rfl, rfl⟩ rfl dX5_clear_17
def xqBk (sts : Int) : Int := if sts = 0 then -3 else sts - 1
def bkI (sts a b : Int) : Int := if sts = 0 then a else b
def bkF (sts : Int) (a b : Int → Int) : Int → Int := if sts = 0 then a else b
def bkB (sts : Int) (kn : Bool) : Bool := if sts = 0 then kn else false
abbrev rm_X5_back : Room := { frames := 3, cells := 0, slots := 0, locals := 102 }
set_option maxHeartbeats 4000000 in
set_option maxRecDepth 100000 in
theorem c_X5_back (l : Launch) (D : va_G) (y : CY) (z sz : Nat) (hXo hF a_ind a_tot a_pri hD hB a_costs a_ways a_stc a_row hP a_ring p0hF p0a_ind p0a_tot p0a_pri p1hF p1a_ind p1a_tot p1a_pri p2hF p2a_ind p2a_tot p2a_pri p3hF p3a_ind p3a_tot p3a_pri p4hF p4a_ind p4a_tot p4a_pri p5hF p5a_ind p5a_tot p5a_pri hT a_rfs a_shs : Nat) (ind : Int → Int) (tot : Int → Int) (pri : Int → Int) (q : Int) (fr : Int) (li : Int) (sh : Int) (bc : Int) (bw : Int) (bs : Int) (kn : Bool) (th : Bool) (rows : Int) (rind : Int → Int → Int) (rtot : Int → Int → Int) (rpri : Int → Int → Int) (rq : Int → Int) (rfr : Int → Int) (rli : Int → Int) (rsh : Int → Int) (top : Int) (sts : Int) (rfs : Int → Int) (htop : 0 ≤ top ∧ top ≤ 5) (hsts : 0 ≤ sts ∧ sts ≤ 5) : Met l yX5_back (Cond.code yX5_back cX5_back 1 (some .int) :: TW) rm_X5_back (va_Pc [.ref hXo] (PX D y z (W_XFP y hXo hF a_ind a_tot a_pri hD hB a_costs a_ways a_stc a_row hP a_ring p0hF p0a_ind p0a_tot p0a_pri p1hF p1a_ind p1a_tot p1a_pri p2hF p2a_ind p2a_tot p2a_pri p3hF p3a_ind p3a_tot p3a_pri p4hF p4a_ind p4a_tot p4a_pri p5hF p5a_ind p5a_tot p5a_pri hT a_rfs a_shs ind tot pri q fr li sh bc bw bs kn th rows rind rtot rpri rq rfr rli rsh top sts rfs) sz)) (va_Qi (fun (r : Int32) (uu : (Int) × (Int) × (Int → Int) × (Int → Int) × (Int → Int) × (Int) × (Int) × (Int) × (Int) × (Bool) × (Int → Int)) => r = iI (xqBk sts) ∧ uu = (bkI sts top (tDn top), bkI sts sts (sts - 1), bkF sts ind (rind (tDn top)), bkF sts tot (rtot (tDn top)), bkF sts pri (rpri (tDn top)), bkI sts q (rq (tDn top)), bkI sts fr (rfr (tDn top)), bkI sts li (rli (tDn top)), bkI sts sh (rsh (tDn top)), bkB sts kn, bkF sts (rfU rfs (-3)) rfs)) (fun uu t => BX D (W_XFP y hXo hF a_ind a_tot a_pri hD hB a_costs a_ways a_stc a_row hP a_ring p0hF p0a_ind p0a_tot p0a_pri p1hF p1a_ind p1a_tot p1a_pri p2hF p2a_ind p2a_tot p2a_pri p3hF p3a_ind p3a_tot p3a_pri p4hF p4a_ind p4a_tot p4a_pri p5hF p5a_ind p5a_tot p5a_pri hT a_rfs a_shs uu.2.2.1 uu.2.2.2.1 uu.2.2.2.2.1 uu.2.2.2.2.2.1 uu.2.2.2.2.2.2.1 uu.2.2.2.2.2.2.2.1 uu.2.2.2.2.2.2.2.2.1 bc bw bs uu.2.2.2.2.2.2.2.2.2.1 th rows rind rtot rpri rq rfr rli rsh uu.1 uu.2.1 uu.2.2.2.2.2.2.2.2.2.2) (va_A (W_XFP y hXo hF a_ind a_tot a_pri hD hB a_costs a_ways a_stc a_row hP a_ring p0hF p0a_ind p0a_tot p0a_pri p1hF p1a_ind p1a_tot p1a_pri p2hF p2a_ind p2a_tot p2a_pri p3hF p3a_ind p3a_tot p3a_pri p4hF p4a_ind p4a_tot p4a_pri p5hF p5a_ind p5a_tot p5a_pri hT a_rfs a_shs ind tot pri q fr li sh bc bw bs kn th rows rind rtot rpri rq rfr rli rsh top sts rfs) sz) t) (va_A (W_XFP y hXo hF a_ind a_tot a_pri hD hB a_costs a_ways a_stc a_row hP a_ring p0hF p0a_ind p0a_tot p0a_pri p1hF p1a_ind p1a_tot p1a_pri p2hF p2a_ind p2a_tot p2a_pri p3hF p3a_ind p3a_tot p3a_pri p4hF p4a_ind p4a_tot p4a_pri p5hF p5a_ind p5a_tot p5a_pri hT a_rfs a_shs ind tot pri q fr li sh bc bw bs kn th rows rind rtot rpri rq rfr rli rsh top sts rfs) sz)) 0 0 (va_A (W_XFP y hXo hF a_ind a_tot a_pri hD hB a_costs a_ways a_stc a_row hP a_ring p0hF p0a_ind p0a_tot p0a_pri p1hF p1a_ind p1a_tot p1a_pri p2hF p2a_ind p2a_tot p2a_pri p3hF p3a_ind p3a_tot p3a_pri p4hF p4a_ind p4a_tot p4a_pri p5hF p5a_ind p5a_tot p5a_pri hT a_rfs a_shs ind tot pri q fr li sh bc bw bs kn th rows rind rtot rpri rq rfr rli rsh top sts rfs) sz) := by
  refine xm_i (by decide) (Nat.le_of_ble_eq_true rfl) (fun p e s m args below meth cX ls A Q E hr hnm hX hl hQ => ?_)
  have hl : lv_has ls 1 [(0, .ref hXo)] := hl
  refine xr_aload_n E hl 0 rfl dX5_back_0 rfl ?_
  refine xr_get E hX 0 rfl rfl ly_X5 2 (by decide) fl_X5_26 rfl dX5_back_1 ?_
  refine xr_get E hX 6 rfl rfl ly_X3 2 (by decide) fl_X5_189 rfl dX5_back_4 ?_
  refine xr_if_ne (tgt := 17) E dX5_back_7 (by decide) ⟨by omega, by omega⟩ (fun c_7 => ?_) (fun c_7 => ?_)
  · have c_7 := c_7
    refine xr_aload_n E hl 0 rfl dX5_back_17 rfl ?_
    refine xr_get E hX 0 rfl rfl ly_X5 2 (by decide) fl_X5_26 rfl dX5_back_18 ?_
    refine xr_aload_n E hl 0 rfl dX5_back_21 rfl ?_
    refine xr_get E hX 0 rfl rfl ly_X5 0 (by decide) fl_X5_12 rfl dX5_back_22 ?_
    refine xk_v (W2 := fun uu => (W_XFP y hXo hF a_ind a_tot a_pri hD hB a_costs a_ways a_stc a_row hP a_ring p0hF p0a_ind p0a_tot p0a_pri p1hF p1a_ind p1a_tot p1a_pri p2hF p2a_ind p2a_tot p2a_pri p3hF p3a_ind p3a_tot p3a_pri p4hF p4a_ind p4a_tot p4a_pri p5hF p5a_ind p5a_tot p5a_pri hT a_rfs a_shs uu.2.2.1 uu.2.2.2.1 uu.2.2.2.2.1 uu.2.2.2.2.2.1 uu.2.2.2.2.2.2.1 uu.2.2.2.2.2.2.2.1 uu.2.2.2.2.2.2.2.2 bc bw bs kn th rows rind rtot rpri rq rfr rli rsh uu.1 uu.2.1 rfs)) E hX [6, 7, 8, 9, 10, 11, 12, 13, 14, 15, 16, 17, 18, 19, 20, 21, 22, 23, 24, 25, 26, 27, 28, 29, 30, 31, 1, 2, 3, 4] rfl (xv_V (As := [.ref hF]) E hX hl (c_X3_returns l D y z _ hP a_ring p0hF p0a_ind p0a_tot p0a_pri p1hF p1a_ind p1a_tot p1a_pri p2hF p2a_ind p2a_tot p2a_pri p3hF p3a_ind p3a_tot p3a_pri p4hF p4a_ind p4a_tot p4a_pri p5hF p5a_ind p5a_tot p5a_pri hF a_ind a_tot a_pri rind rtot rpri rq rfr rli rsh top sts ind tot pri q fr li sh (by omega) (by omega)) ml_X5_192 im_X3_returns se_X3_returns in_X3 co_X3_returns 1 (by decide) ⟨rfl, rfl⟩ ⟨Nat.le_of_ble_eq_true rfl, Nat.le_of_ble_eq_true rfl⟩ [6, 7, 8, 9, 10, 11, 12, 13, 14, 15, 16, 17, 18, 19, 20, 21, 22, 23, 24, 25, 26, 27, 28, 29, 30, 31, 1, 2, 3, 4] rfl rfl 6 rfl rfl rfl rfl rfl (Nat.le_of_ble_eq_true rfl) dX5_back_25 ⟨Nat.le_refl _, Nat.le_refl _⟩) [30, 26, 27, 28, 29, 35, 0, 1, 2, 3, 4, 5, 6, 7, 8, 9, 10, 11, 12, 13, 14, 15, 16, 17, 18, 19, 20, 21, 22, 23, 24, 25, 62] 30 (fun _ => rfl) (fun _ => rfl) (by decide) (by decide) (fun uu H locs hw hX => ?_)
    subst hw
    have hX : XW D A s.heap (W_XFP y hXo hF a_ind a_tot a_pri hD hB a_costs a_ways a_stc a_row hP a_ring p0hF p0a_ind p0a_tot p0a_pri p1hF p1a_ind p1a_tot p1a_pri p2hF p2a_ind p2a_tot p2a_pri p3hF p3a_ind p3a_tot p3a_pri p4hF p4a_ind p4a_tot p4a_pri p5hF p5a_ind p5a_tot p5a_pri hT a_rfs a_shs (rind (tDn top)) (rtot (tDn top)) (rpri (tDn top)) (rq (tDn top)) (rfr (tDn top)) (rli (tDn top)) (rsh (tDn top)) bc bw bs kn th rows rind rtot rpri rq rfr rli rsh (tDn top) (sts - 1) rfs) H locs := hX
    refine xr_aload_n E hl 0 rfl dX5_back_28 rfl ?_
    refine xr_get E hX 0 rfl rfl ly_X5 1 (by decide) fl_X5_19 rfl dX5_back_29 ?_
    refine xk_v (W2 := fun uu => (W_XFP y hXo hF a_ind a_tot a_pri hD hB a_costs a_ways a_stc a_row hP a_ring p0hF p0a_ind p0a_tot p0a_pri p1hF p1a_ind p1a_tot p1a_pri p2hF p2a_ind p2a_tot p2a_pri p3hF p3a_ind p3a_tot p3a_pri p4hF p4a_ind p4a_tot p4a_pri p5hF p5a_ind p5a_tot p5a_pri hT a_rfs a_shs (rind (tDn top)) (rtot (tDn top)) (rpri (tDn top)) (rq (tDn top)) (rfr (tDn top)) (rli (tDn top)) (rsh (tDn top)) bc bw bs uu th rows rind rtot rpri rq rfr rli rsh (tDn top) (sts - 1) rfs)) E hX [5] rfl (xv_V (As := []) E hX hl (c_X0_forgets l D y z _ hD hB a_costs a_ways a_stc a_row bc bw bs kn th rows) ml_X5_180 im_X0_forgets se_X0_forgets in_X0 co_X0_forgets 0 (by decide) ⟨rfl, rfl⟩ ⟨Nat.le_of_ble_eq_true rfl, Nat.le_of_ble_eq_true rfl⟩ [5] rfl rfl 5 rfl rfl rfl rfl rfl (Nat.le_of_ble_eq_true rfl) dX5_back_32 ⟨Nat.le_refl _, Nat.le_refl _⟩) [1, 2, 3, 4, 5, 0, 7, 8, 9, 10, 11, 12, 13, 14, 15, 16, 17, 18, 19, 20, 21, 22, 23, 24, 25, 26, 27, 28, 29, 30, 31, 32, 33] 1 (fun _ => rfl) (fun _ => rfl) (by decide) (by decide) (fun uu H locs hw hX => ?_)
    subst hw
    have hX : XW D A s.heap (W_XFP y hXo hF a_ind a_tot a_pri hD hB a_costs a_ways a_stc a_row hP a_ring p0hF p0a_ind p0a_tot p0a_pri p1hF p1a_ind p1a_tot p1a_pri p2hF p2a_ind p2a_tot p2a_pri p3hF p3a_ind p3a_tot p3a_pri p4hF p4a_ind p4a_tot p4a_pri p5hF p5a_ind p5a_tot p5a_pri hT a_rfs a_shs (rind (tDn top)) (rtot (tDn top)) (rpri (tDn top)) (rq (tDn top)) (rfr (tDn top)) (rli (tDn top)) (rsh (tDn top)) bc bw bs false th rows rind rtot rpri rq rfr rli rsh (tDn top) (sts - 1) rfs) H locs := hX
    refine xr_aload_n E hl 0 rfl dX5_back_35 rfl ?_
    refine xr_get E hX 0 rfl rfl ly_X5 2 (by decide) fl_X5_26 rfl dX5_back_36 ?_
    refine xr_get E hX 6 rfl rfl ly_X3 2 (by decide) fl_X5_189 rfl dX5_back_39 ?_
    exact xr_iret E hX hQ (tDn top, sts - 1, rind (tDn top), rtot (tDn top), rpri (tDn top), rq (tDn top), rfr (tDn top), rli (tDn top), rsh (tDn top), false, rfs) hr ⟨by unfold xqBk; first | rw [if_pos c_7] | rw [if_neg c_7], by unfold bkI bkF bkB; first | (simp only [if_pos c_7]; done) | (simp only [if_neg c_7]; done)⟩ rfl dX5_back_42
  · have c_7 := c_7
    refine xr_aload_n E hl 0 rfl dX5_back_10 rfl ?_
    refine xr_bipush E dX5_back_11 (by decide) ?_
    refine xk_i (W2 := fun uu => (W_XFP y hXo hF a_ind a_tot a_pri hD hB a_costs a_ways a_stc a_row hP a_ring p0hF p0a_ind p0a_tot p0a_pri p1hF p1a_ind p1a_tot p1a_pri p2hF p2a_ind p2a_tot p2a_pri p3hF p3a_ind p3a_tot p3a_pri p4hF p4a_ind p4a_tot p4a_pri p5hF p5a_ind p5a_tot p5a_pri hT a_rfs a_shs ind tot pri q fr li sh bc bw bs kn th rows rind rtot rpri rq rfr rli rsh top sts uu)) E hX [0, 32] rfl (xv_V (As := [.int (iI (-3))]) E hX hl (c_X5_refuses l D y z _ hXo hF hD hP hT a_rfs a_shs rfs (-3) (by omega)) ml_X5_89 im_X5_refuses se_X5_refuses in_X5 co_X5_refuses 1 (by decide) ⟨rfl, rfl⟩ ⟨Nat.le_of_ble_eq_true rfl, Nat.le_of_ble_eq_true rfl⟩ [0, 32] rfl rfl 0 rfl rfl rfl rfl rfl (Nat.le_of_ble_eq_true rfl) dX5_back_13 ⟨Nat.le_refl _, Nat.le_refl _⟩) [0, 3, 4, 5, 6, 7, 8, 9, 10, 11, 12, 13, 14, 15, 16, 17, 18, 19, 20, 21, 22, 23, 24, 25, 26, 27, 28, 29, 30, 31, 32, 33, 1] 2 (fun _ => rfl) (fun _ => rfl) (by decide) (by decide) (fun r_13 uu H locs hw hX => ?_)
    obtain ⟨rfl, rfl⟩ := hw
    have hX : XW D A s.heap (W_XFP y hXo hF a_ind a_tot a_pri hD hB a_costs a_ways a_stc a_row hP a_ring p0hF p0a_ind p0a_tot p0a_pri p1hF p1a_ind p1a_tot p1a_pri p2hF p2a_ind p2a_tot p2a_pri p3hF p3a_ind p3a_tot p3a_pri p4hF p4a_ind p4a_tot p4a_pri p5hF p5a_ind p5a_tot p5a_pri hT a_rfs a_shs ind tot pri q fr li sh bc bw bs kn th rows rind rtot rpri rq rfr rli rsh top sts (rfU rfs (-3))) H locs := hX
    exact xr_iret E hX hQ (top, sts, ind, tot, pri, q, fr, li, sh, kn, rfU rfs (-3)) hr ⟨by unfold xqBk; first | rw [if_pos c_7] | rw [if_neg c_7], by unfold bkI bkF bkB; first | (simp only [if_pos c_7]; done) | (simp only [if_neg c_7]; done)⟩ rfl dX5_back_16
