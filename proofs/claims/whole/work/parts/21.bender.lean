/-! Bender: a step -/
abbrev W_D0 (y : CY) (hD hB a_costs a_ways a_stc a_row : Nat) (bc : Int) (bw : Int) (bs : Int) (kn : Bool) (th : Bool) (rows : Int) : va_W := [(hD, .inr (0, [.ref hB, .ref a_costs, .ref a_ways, .ref a_stc, .long (lI bc), .int (iI bw), .int (iI bs), .int (bB kn), .int (bB th), .ref a_row, .int (iI rows)]))]
abbrev W_D (y : CY) (hD hB a_low a_high a_ll a_lh a_bnd a_gap a_costs a_ways a_stc a_row : Nat) (low : Int → Int) (high : Int → Int) (ll : Int → Int) (lh : Int → Int) (bnd : Int → Bool) (gap : Int → Int) (bq : Int) (costs : Int → Int) (ways : Int → Int) (stc : Int → Int) (bc : Int) (bw : Int) (bs : Int) (kn : Bool) (th : Bool) (row : Int → Int) (rows : Int) : va_W := [(hD, .inr (0, [.ref hB, .ref a_costs, .ref a_ways, .ref a_stc, .long (lI bc), .int (iI bw), .int (iI bs), .int (bB kn), .int (bB th), .ref a_row, .int (iI rows)])), (hB, .inr (1, [.ref a_low, .ref a_high, .ref a_ll, .ref a_lh, .ref a_bnd, .ref a_gap, .int (iI bq)])), (a_low, .inl (y.1, 12, .inl (ia low))), (a_high, .inl (y.1, 12, .inl (ia high))), (a_ll, .inl (y.1, 12, .inl (ia ll))), (a_lh, .inl (y.1, 12, .inl (ia lh))), (a_bnd, .inl (y.2.2.1, 3, .inl (ba bnd))), (a_gap, .inl (y.1, 3, .inl (ia gap))), (a_costs, .inl (y.2.1, 3468, .inr (.inl (la costs)))), (a_ways, .inl (y.1, 3468, .inl (ia ways))), (a_stc, .inl (y.2.1, 17, .inr (.inl (la stc)))), (a_row, .inl (y.1, 12, .inl (ia row)))]
abbrev W_DF (y : CY) (hD hB a_low a_high a_ll a_lh a_bnd a_gap a_costs a_ways a_stc a_row hF a_ind a_tot a_pri : Nat) (low : Int → Int) (high : Int → Int) (ll : Int → Int) (lh : Int → Int) (bnd : Int → Bool) (gap : Int → Int) (bq : Int) (costs : Int → Int) (ways : Int → Int) (stc : Int → Int) (bc : Int) (bw : Int) (bs : Int) (kn : Bool) (th : Bool) (row : Int → Int) (rows : Int) (ind : Int → Int) (tot : Int → Int) (pri : Int → Int) (q : Int) (fr : Int) (li : Int) (sh : Int) : va_W := [(hD, .inr (0, [.ref hB, .ref a_costs, .ref a_ways, .ref a_stc, .long (lI bc), .int (iI bw), .int (iI bs), .int (bB kn), .int (bB th), .ref a_row, .int (iI rows)])), (hB, .inr (1, [.ref a_low, .ref a_high, .ref a_ll, .ref a_lh, .ref a_bnd, .ref a_gap, .int (iI bq)])), (a_low, .inl (y.1, 12, .inl (ia low))), (a_high, .inl (y.1, 12, .inl (ia high))), (a_ll, .inl (y.1, 12, .inl (ia ll))), (a_lh, .inl (y.1, 12, .inl (ia lh))), (a_bnd, .inl (y.2.2.1, 3, .inl (ba bnd))), (a_gap, .inl (y.1, 3, .inl (ia gap))), (a_costs, .inl (y.2.1, 3468, .inr (.inl (la costs)))), (a_ways, .inl (y.1, 3468, .inl (ia ways))), (a_stc, .inl (y.2.1, 17, .inr (.inl (la stc)))), (a_row, .inl (y.1, 12, .inl (ia row))), (hF, .inr (2, [.ref a_ind, .ref a_tot, .ref a_pri, .int (iI q), .int (iI fr), .int (iI li), .int (iI sh)])), (a_ind, .inl (y.1, 12, .inl (ia ind))), (a_tot, .inl (y.1, 3, .inl (ia tot))), (a_pri, .inl (y.1, 12, .inl (ia pri)))]
abbrev rm_X0_forgets : Room := { frames := 0, cells := 0, slots := 0, locals := 0 }
set_option maxHeartbeats 4000000 in
set_option maxRecDepth 100000 in
theorem c_X0_forgets (l : Launch) (D : va_G) (y : CY) (z sz : Nat) (hD hB a_costs a_ways a_stc a_row : Nat) (bc : Int) (bw : Int) (bs : Int) (kn : Bool) (th : Bool) (rows : Int) : Met l yX0_forgets (Cond.code yX0_forgets cX0_forgets 1 none :: TW) rm_X0_forgets (va_Pc [.ref hD] (PX D y z (W_D0 y hD hB a_costs a_ways a_stc a_row bc bw bs kn th rows) sz)) (va_Qv (fun (uu : (Bool)) => uu = false) (fun uu t => BX D (W_D0 y hD hB a_costs a_ways a_stc a_row bc bw bs uu th rows) (va_A (W_D0 y hD hB a_costs a_ways a_stc a_row bc bw bs kn th rows) sz) t) (va_A (W_D0 y hD hB a_costs a_ways a_stc a_row bc bw bs kn th rows) sz)) 0 0 (va_A (W_D0 y hD hB a_costs a_ways a_stc a_row bc bw bs kn th rows) sz) := by
  refine xm_v (by decide) (Nat.le_of_ble_eq_true rfl) (fun p e s m args below meth cX ls A Q E hr hnm hX hl hQ => ?_)
  have hl : lv_has ls 1 [(0, .ref hD)] := hl
  refine xr_aload_n E hl 0 rfl dX0_forgets_0 rfl ?_
  refine xr_iconst E dX0_forgets_1 ?_
  refine xr_toB0 ?_
  refine xr_put (W1 := (W_D0 y hD hB a_costs a_ways a_stc a_row bc bw bs false th rows)) E hX 0 rfl rfl ly_X0 tyX0_ok nmX0 7 (by decide) fl_X0_40 rfl (bB_nr _) (bB_fit _) (Nat.le_of_ble_eq_true rfl) rfl dX0_forgets_2 (fun H locs hX => ?_)
  exact xr_vret E hX hQ false hr rfl rfl dX0_forgets_5
abbrev rm_X0_isSpot : Room := { frames := 0, cells := 0, slots := 0, locals := 0 }
set_option maxHeartbeats 4000000 in
set_option maxRecDepth 100000 in
theorem c_X0_isSpot (l : Launch) (D : va_G) (y : CY) (z sz : Nat) (hD hB a_low a_high a_ll a_lh a_bnd a_gap a_costs a_ways a_stc a_row : Nat) (low : Int → Int) (high : Int → Int) (ll : Int → Int) (lh : Int → Int) (bnd : Int → Bool) (gap : Int → Int) (bq : Int) (costs : Int → Int) (ways : Int → Int) (stc : Int → Int) (bc : Int) (bw : Int) (bs : Int) (kn : Bool) (th : Bool) (row : Int → Int) (rows : Int) (sp : Int) (hs : sm sp) : Met l yX0_isSpot (Cond.code yX0_isSpot cX0_isSpot 2 (some .boolean) :: TW) rm_X0_isSpot (va_Pc [.ref hD, .int (iI sp)] (PX D y z (W_D y hD hB a_low a_high a_ll a_lh a_bnd a_gap a_costs a_ways a_stc a_row low high ll lh bnd gap bq costs ways stc bc bw bs kn th row rows) sz)) (va_Qi (fun (r : Int32) (uu : Unit) => r = bB (decide (0 ≤ sp ∧ sp < 3468))) (fun uu t => BX D (W_D y hD hB a_low a_high a_ll a_lh a_bnd a_gap a_costs a_ways a_stc a_row low high ll lh bnd gap bq costs ways stc bc bw bs kn th row rows) (va_A (W_D y hD hB a_low a_high a_ll a_lh a_bnd a_gap a_costs a_ways a_stc a_row low high ll lh bnd gap bq costs ways stc bc bw bs kn th row rows) sz) t) (va_A (W_D y hD hB a_low a_high a_ll a_lh a_bnd a_gap a_costs a_ways a_stc a_row low high ll lh bnd gap bq costs ways stc bc bw bs kn th row rows) sz)) 0 0 (va_A (W_D y hD hB a_low a_high a_ll a_lh a_bnd a_gap a_costs a_ways a_stc a_row low high ll lh bnd gap bq costs ways stc bc bw bs kn th row rows) sz) := by
  refine xm_i (by decide) (Nat.le_of_ble_eq_true rfl) (fun p e s m args below meth cX ls A Q E hr hnm hX hl hQ => ?_)
  have hl : lv_has ls 2 [(0, .ref hD), (1, .int (iI sp))] := hl
  refine xr_iload_n E hl 1 rfl dX0_isSpot_0 rfl ?_
  refine xr_if_lt (tgt := 17) E dX0_isSpot_1 (by decide) ⟨by omega, by omega⟩ (fun c_1 => ?_) (fun c_1 => ?_)
  · have c_1 := c_1
    refine xr_iconst E dX0_isSpot_17 ?_
    exact xr_zret E hX hQ () hr (iI_bB0 (b := false) rfl) (iI_bB0 (decide_eq_false (by omega))) rfl dX0_isSpot_18
  · have c_1 := c_1
    refine xr_iload_n E hl 1 rfl dX0_isSpot_4 rfl ?_
    refine xr_aload_n E hl 0 rfl dX0_isSpot_5 rfl ?_
    refine xr_get E hX 0 rfl rfl ly_X0 1 (by decide) fl_X0_18 rfl dX0_isSpot_6 ?_
    refine xr_alen (v := 3468) E hX 8 1 rfl rfl rfl dX0_isSpot_9 ?_
    refine xr_icmp_ge (tgt := 17) E dX0_isSpot_10 (by decide) ⟨by omega, by omega⟩ (by decide) (fun c_10 => ?_) (fun c_10 => ?_)
    · have c_10 := c_10
      refine xr_iconst E dX0_isSpot_17 ?_
      exact xr_zret E hX hQ () hr (iI_bB0 (b := false) rfl) (iI_bB0 (decide_eq_false (by omega))) rfl dX0_isSpot_18
    · have c_10 := c_10
      refine xr_iconst E dX0_isSpot_13 ?_
      refine xr_goto (tgt := 18) E dX0_isSpot_14 (by decide) ?_
      exact xr_zret E hX hQ () hr (iI_bB1 (b := true) rfl) (iI_bB1 (decide_eq_true (by omega))) rfl dX0_isSpot_18
abbrev rm_X0_spot : Room := { frames := 0, cells := 0, slots := 0, locals := 0 }
set_option maxHeartbeats 4000000 in
set_option maxRecDepth 100000 in
theorem c_X0_spot (l : Launch) (D : va_G) (y : CY) (z sz : Nat) (hD hB a_low a_high a_ll a_lh a_bnd a_gap a_costs a_ways a_stc a_row : Nat) (low : Int → Int) (high : Int → Int) (ll : Int → Int) (lh : Int → Int) (bnd : Int → Bool) (gap : Int → Int) (bq : Int) (costs : Int → Int) (ways : Int → Int) (stc : Int → Int) (bc : Int) (bw : Int) (bs : Int) (kn : Bool) (th : Bool) (row : Int → Int) (rows : Int) (t : Int) (lf : Int) (d : Int) (ht : 0 ≤ t ∧ t < 12) : Met l yX0_spot (Cond.code yX0_spot cX0_spot 5 (some .int) :: TW) rm_X0_spot (va_Pc [.ref hD, .int (iI t), .int (iI lf), .int (iI d)] (PX D y z (W_D y hD hB a_low a_high a_ll a_lh a_bnd a_gap a_costs a_ways a_stc a_row low high ll lh bnd gap bq costs ways stc bc bw bs kn th row rows) sz)) (va_Qi (fun (r : Int32) (uu : Unit) => r = iI (xSpot ll t lf d)) (fun uu t => BX D (W_D y hD hB a_low a_high a_ll a_lh a_bnd a_gap a_costs a_ways a_stc a_row low high ll lh bnd gap bq costs ways stc bc bw bs kn th row rows) (va_A (W_D y hD hB a_low a_high a_ll a_lh a_bnd a_gap a_costs a_ways a_stc a_row low high ll lh bnd gap bq costs ways stc bc bw bs kn th row rows) sz) t) (va_A (W_D y hD hB a_low a_high a_ll a_lh a_bnd a_gap a_costs a_ways a_stc a_row low high ll lh bnd gap bq costs ways stc bc bw bs kn th row rows) sz)) 0 0 (va_A (W_D y hD hB a_low a_high a_ll a_lh a_bnd a_gap a_costs a_ways a_stc a_row low high ll lh bnd gap bq costs ways stc bc bw bs kn th row rows) sz) := by
  refine xm_i (by decide) (Nat.le_of_ble_eq_true rfl) (fun p e s m args below meth cX ls A Q E hr hnm hX hl hQ => ?_)
  have hl : lv_has ls 5 [(0, .ref hD), (1, .int (iI t)), (2, .int (iI lf)), (3, .int (iI d))] := hl
  refine xr_sipush E dX0_spot_0 (by decide) ?_
  refine xr_iload_n E hl 1 rfl dX0_spot_3 rfl ?_
  refine xr_iconst E dX0_spot_4 ?_
  refine xr_idiv E dX0_spot_5 ⟨by omega, by omega⟩ (by decide) (by omega) (by omega) ?_
  refine xr_imul E dX0_spot_6 ?_
  refine xr_static E hX dX0_spot_7 ?_
  refine xr_iload_n E hl 1 rfl dX0_spot_10 rfl ?_
  refine xr_iconst E dX0_spot_11 ?_
  refine xr_irem E dX0_spot_12 ⟨by omega, by omega⟩ (by decide) (by omega) (by omega) ?_
  refine xr_spots E hX (by omega) (by omega) dX0_spot_13 ?_
  refine xr_iadd E dX0_spot_14 ?_
  refine xr_istore (lv' := [(4, .int (iI ((1156 * (t / 4)) + (spB (t % 4))))), (0, .ref hD), (1, .int (iI t)), (2, .int (iI lf)), (3, .int (iI d))]) E hl dX0_spot_15 (by decide) rfl (fun ls hl => ?_)
  refine xr_iload E hl 0 rfl dX0_spot_17 ?_
  refine xr_iload_n E hl 3 rfl dX0_spot_19 rfl ?_
  refine xr_aload_n E hl 1 rfl dX0_spot_20 rfl ?_
  refine xr_get E hX 0 rfl rfl ly_X0 0 (by decide) fl_X0_12 rfl dX0_spot_21 ?_
  refine xr_get E hX 1 rfl rfl ly_X1 2 (by decide) fl_X0_126 rfl dX0_spot_24 ?_
  refine xr_iload_n E hl 2 rfl dX0_spot_27 rfl ?_
  refine xr_iald E hX 4 rfl (by omega) (by omega) (by decide) dX0_spot_28 ?_
  refine xr_isub E dX0_spot_29 ?_
  refine xr_bipush E dX0_spot_30 (by decide) ?_
  refine xr_imul E dX0_spot_32 ?_
  refine xr_iadd E dX0_spot_33 ?_
  refine xr_iload_n E hl 4 rfl dX0_spot_34 rfl ?_
  refine xr_iadd E dX0_spot_35 ?_
  refine xr_bipush E dX0_spot_36 (by decide) ?_
  refine xr_iadd E dX0_spot_38 ?_
  exact xr_iret E hX hQ () hr rfl rfl dX0_spot_39
abbrev rm_X0_keepsBest : Room := { frames := 1, cells := 0, slots := 0, locals := 21 }
set_option maxHeartbeats 4000000 in
set_option maxRecDepth 100000 in
theorem c_X0_keepsBest (l : Launch) (D : va_G) (y : CY) (z sz : Nat) (hD hB a_low a_high a_ll a_lh a_bnd a_gap a_costs a_ways a_stc a_row : Nat) (low : Int → Int) (high : Int → Int) (ll : Int → Int) (lh : Int → Int) (bnd : Int → Bool) (gap : Int → Int) (bq : Int) (costs : Int → Int) (ways : Int → Int) (stc : Int → Int) (bc : Int) (bw : Int) (bs : Int) (kn : Bool) (th : Bool) (row : Int → Int) (rows : Int) (sp : Int) (hs : 0 ≤ sp ∧ sp < 3468) : Met l yX0_keepsBest (Cond.code yX0_keepsBest cX0_keepsBest 2 none :: TW) rm_X0_keepsBest (va_Pc [.ref hD, .int (iI sp)] (PX D y z (W_D y hD hB a_low a_high a_ll a_lh a_bnd a_gap a_costs a_ways a_stc a_row low high ll lh bnd gap bq costs ways stc bc bw bs kn th row rows) sz)) (va_Qv (fun (uu : (Int → Int) × (Int → Int)) => uu = (up costs sp bc, up ways sp bw)) (fun uu t => BX D (W_D y hD hB a_low a_high a_ll a_lh a_bnd a_gap a_costs a_ways a_stc a_row low high ll lh bnd gap bq uu.1 uu.2 stc bc bw bs kn th row rows) (va_A (W_D y hD hB a_low a_high a_ll a_lh a_bnd a_gap a_costs a_ways a_stc a_row low high ll lh bnd gap bq costs ways stc bc bw bs kn th row rows) sz) t) (va_A (W_D y hD hB a_low a_high a_ll a_lh a_bnd a_gap a_costs a_ways a_stc a_row low high ll lh bnd gap bq costs ways stc bc bw bs kn th row rows) sz)) 0 0 (va_A (W_D y hD hB a_low a_high a_ll a_lh a_bnd a_gap a_costs a_ways a_stc a_row low high ll lh bnd gap bq costs ways stc bc bw bs kn th row rows) sz) := by
  refine xm_v (by decide) (Nat.le_of_ble_eq_true rfl) (fun p e s m args below meth cX ls A Q E hr hnm hX hl hQ => ?_)
  have hl : lv_has ls 2 [(0, .ref hD), (1, .int (iI sp))] := hl
  refine xr_aload_n E hl 0 rfl dX0_keepsBest_0 rfl ?_
  refine xr_iload_n E hl 1 rfl dX0_keepsBest_1 rfl ?_
  refine xk_ri E hX [0, 1, 2, 3, 4, 5, 6, 7, 8, 9, 10, 11] rfl (xv_V (As := [.int (iI sp)]) E hX hl (c_X0_isSpot l D y z _ hD hB a_low a_high a_ll a_lh a_bnd a_gap a_costs a_ways a_stc a_row low high ll lh bnd gap bq costs ways stc bc bw bs kn th row rows sp ⟨by omega, by omega⟩) ml_X0_101 im_X0_isSpot se_X0_isSpot in_X0 co_X0_isSpot 1 (by decide) ⟨rfl, rfl⟩ ⟨Nat.le_of_ble_eq_true rfl, Nat.le_of_ble_eq_true rfl⟩ [0, 1, 2, 3, 4, 5, 6, 7, 8, 9, 10, 11] rfl rfl 0 rfl rfl rfl rfl rfl (Nat.le_of_ble_eq_true rfl) dX0_keepsBest_2 ⟨Nat.le_refl _, Nat.le_refl _⟩) (fun r_2 H locs hw hX => ?_)
  subst hw
  refine xr_if_eqB (tgt := 28) E dX0_keepsBest_5 (by decide) (fun c_5 => ?_) (fun c_5 => ?_)
  · have c_5 := of_decide_eq_false c_5
    exact xr_vret E hX hQ (costs, ways) hr (by first | rfl | (exfalso; omega)) rfl dX0_keepsBest_28
  · have c_5 := of_decide_eq_true c_5
    refine xr_aload_n E hl 0 rfl dX0_keepsBest_8 rfl ?_
    refine xr_get E hX 0 rfl rfl ly_X0 1 (by decide) fl_X0_18 rfl dX0_keepsBest_9 ?_
    refine xr_iload_n E hl 1 rfl dX0_keepsBest_12 rfl ?_
    refine xr_aload_n E hl 0 rfl dX0_keepsBest_13 rfl ?_
    refine xr_get E hX 0 rfl rfl ly_X0 4 (by decide) fl_X0_29 rfl dX0_keepsBest_14 ?_
    refine xr_last (W1 := (W_D y hD hB a_low a_high a_ll a_lh a_bnd a_gap a_costs a_ways a_stc a_row low high ll lh bnd gap bq (up costs sp bc) ways stc bc bw bs kn th row rows)) E hX 8 rfl (by omega) (by omega) (by decide) rfl dX0_keepsBest_17 (fun H locs hX => ?_)
    refine xr_aload_n E hl 0 rfl dX0_keepsBest_18 rfl ?_
    refine xr_get E hX 0 rfl rfl ly_X0 2 (by decide) fl_X0_22 rfl dX0_keepsBest_19 ?_
    refine xr_iload_n E hl 1 rfl dX0_keepsBest_22 rfl ?_
    refine xr_aload_n E hl 0 rfl dX0_keepsBest_23 rfl ?_
    refine xr_get E hX 0 rfl rfl ly_X0 5 (by decide) fl_X0_33 rfl dX0_keepsBest_24 ?_
    refine xr_iast (W1 := (W_D y hD hB a_low a_high a_ll a_lh a_bnd a_gap a_costs a_ways a_stc a_row low high ll lh bnd gap bq (up costs sp bc) (up ways sp bw) stc bc bw bs kn th row rows)) E hX 9 rfl (by omega) (by omega) (by decide) rfl dX0_keepsBest_27 (fun H locs hX => ?_)
    exact xr_vret E hX hQ ((up costs sp bc), (up ways sp bw)) hr (by first | rfl | (exfalso; omega)) rfl dX0_keepsBest_28
abbrev rm_X0_weighsSteps : Room := { frames := 0, cells := 0, slots := 0, locals := 0 }
set_option maxHeartbeats 4000000 in
set_option maxRecDepth 100000 in
theorem c_X0_weighsSteps (l : Launch) (D : va_G) (y : CY) (z sz : Nat) (hD hB a_low a_high a_ll a_lh a_bnd a_gap a_costs a_ways a_stc a_row hF a_ind a_tot a_pri : Nat) (low : Int → Int) (high : Int → Int) (ll : Int → Int) (lh : Int → Int) (bnd : Int → Bool) (gap : Int → Int) (bq : Int) (costs : Int → Int) (ways : Int → Int) (stc : Int → Int) (bc : Int) (bw : Int) (bs : Int) (kn : Bool) (th : Bool) (row : Int → Int) (rows : Int) (ind : Int → Int) (tot : Int → Int) (pri : Int → Int) (q : Int) (fr : Int) (li : Int) (sh : Int) (u : Int) (ad : Int) (H_I : FI ind tot pri q fr li sh) (hu : 0 ≤ u ∧ u ≤ 12) (had : -8 ≤ ad ∧ ad ≤ 8) (hlo : u < q → -8 ≤ low u ∧ low u ≤ 8 ∧ -8 ≤ high u ∧ high u ≤ 8) : Met l yX0_weighsSteps (Cond.code yX0_weighsSteps cX0_weighsSteps 7 none :: TW) rm_X0_weighsSteps (va_Pc [.ref hD, .ref hF, .int (iI u), .int (iI ad)] (PX D y z (W_DF y hD hB a_low a_high a_ll a_lh a_bnd a_gap a_costs a_ways a_stc a_row hF a_ind a_tot a_pri low high ll lh bnd gap bq costs ways stc bc bw bs kn th row rows ind tot pri q fr li sh) sz)) (va_Qv (fun (uu : (Int → Int)) => uu = xWs ind stc low high q sh u ad) (fun uu t => BX D (W_DF y hD hB a_low a_high a_ll a_lh a_bnd a_gap a_costs a_ways a_stc a_row hF a_ind a_tot a_pri low high ll lh bnd gap bq costs ways uu bc bw bs kn th row rows ind tot pri q fr li sh) (va_A (W_DF y hD hB a_low a_high a_ll a_lh a_bnd a_gap a_costs a_ways a_stc a_row hF a_ind a_tot a_pri low high ll lh bnd gap bq costs ways stc bc bw bs kn th row rows ind tot pri q fr li sh) sz) t) (va_A (W_DF y hD hB a_low a_high a_ll a_lh a_bnd a_gap a_costs a_ways a_stc a_row hF a_ind a_tot a_pri low high ll lh bnd gap bq costs ways stc bc bw bs kn th row rows ind tot pri q fr li sh) sz)) 0 0 (va_A (W_DF y hD hB a_low a_high a_ll a_lh a_bnd a_gap a_costs a_ways a_stc a_row hF a_ind a_tot a_pri low high ll lh bnd gap bq costs ways stc bc bw bs kn th row rows ind tot pri q fr li sh) sz) := by
  refine xm_v (by decide) (Nat.le_of_ble_eq_true rfl) (fun p e s m args below meth cX ls A Q E hr hnm hX hl hQ => ?_)
  have hl : lv_has ls 7 [(0, .ref hD), (1, .ref hF), (2, .int (iI u)), (3, .int (iI ad))] := hl
  have hq := H_I.q
  have hfr := H_I.fr
  have hli := H_I.li
  have hsh := H_I.sh
  refine xr_iload_n E hl 2 rfl dX0_weighsSteps_0 rfl ?_
  refine xr_aload_n E hl 1 rfl dX0_weighsSteps_1 rfl ?_
  refine xr_get E hX 12 rfl rfl ly_X2 3 (by decide) fl_X0_69 rfl dX0_weighsSteps_2 ?_
  refine xr_icmp_lt (tgt := 9) E dX0_weighsSteps_5 (by decide) ⟨by omega, by omega⟩ ⟨by omega, by omega⟩ (fun c_5 => ?_) (fun c_5 => ?_)
  · have c_5 := c_5
    have hlu := hlo c_5
    refine xr_aload_n E hl 0 rfl dX0_weighsSteps_9 rfl ?_
    refine xr_get E hX 0 rfl rfl ly_X0 0 (by decide) fl_X0_12 rfl dX0_weighsSteps_10 ?_
    refine xr_get E hX 1 rfl rfl ly_X1 0 (by decide) fl_X0_72 rfl dX0_weighsSteps_13 ?_
    refine xr_iload_n E hl 2 rfl dX0_weighsSteps_16 rfl ?_
    refine xr_iald E hX 2 rfl (by omega) (by omega) (by decide) dX0_weighsSteps_17 ?_
    refine xr_istore (lv' := [(4, .int (iI (low u))), (0, .ref hD), (1, .ref hF), (2, .int (iI u)), (3, .int (iI ad))]) E hl dX0_weighsSteps_18 (by decide) rfl (fun ls hl => ?_)
    have L_20_1 : ∀ (nmu : Nat) (d : Int) (st1 : Int → Int), (high u - d + 1).toNat < nmu → (low u ≤ d ∧ (d ≤ high u + 1 ∨ d = low u)) → (st1 = fillR stc (low u + 8) (d - low u) (fun j => stC ind sh u ad (j - 8))) → ∀ (H : Heap) (locs : List Loc) (ls : Array Slot), XW D A s.heap (W_DF y hD hB a_low a_high a_ll a_lh a_bnd a_gap a_costs a_ways a_stc a_row hF a_ind a_tot a_pri low high ll lh bnd gap bq costs ways st1 bc bw bs kn th row rows ind tot pri q fr li sh) H locs → lv_has ls 7 [(0, .ref hD), (1, .ref hF), (2, .int (iI u)), (3, .int (iI ad)), (4, .int (iI d))] → W p l e rm_X0_weighsSteps s m args below meth cX H locs 0 0 Q (F0 m 20 ls []) := by
      intro nmu
      induction nmu with
      | zero =>
        intro d st1 hmu
        exact absurd hmu (Nat.not_lt_zero _)
      | succ nmu ih =>
        intro d st1 hmu hd hs H locs ls hX hl
        have ih_20_1 := ih
        clear ih
        refine xr_iload E hl 4 rfl dX0_weighsSteps_20 ?_
        refine xr_aload_n E hl 0 rfl dX0_weighsSteps_22 rfl ?_
        refine xr_get E hX 0 rfl rfl ly_X0 0 (by decide) fl_X0_12 rfl dX0_weighsSteps_23 ?_
        refine xr_get E hX 1 rfl rfl ly_X1 1 (by decide) fl_X0_75 rfl dX0_weighsSteps_26 ?_
        refine xr_iload_n E hl 2 rfl dX0_weighsSteps_29 rfl ?_
        refine xr_iald E hX 3 rfl (by omega) (by omega) (by decide) dX0_weighsSteps_30 ?_
        refine xr_icmp_gt (tgt := 110) E dX0_weighsSteps_31 (by decide) ⟨by omega, by omega⟩ ⟨by omega, by omega⟩ (fun c_31 => ?_) (fun c_31 => ?_)
        · have c_31 := c_31
          exact xr_vret E hX hQ st1 hr (by unfold xWs; rw [if_pos c_5, hs]; rcases hd.2 with h | h <;> first | rw [show d - low u = high u - low u + 1 by omega] | (funext j; rw [fillR_out (by omega), fillR_out (by omega)])) rfl dX0_weighsSteps_110
        · have c_31 := c_31
          have L_79_2 : ∀ (stp : Int), (stp = stP ind sh u ad d) → ∀ (H : Heap) (locs : List Loc) (ls : Array Slot), XW D A s.heap (W_DF y hD hB a_low a_high a_ll a_lh a_bnd a_gap a_costs a_ways a_stc a_row hF a_ind a_tot a_pri low high ll lh bnd gap bq costs ways st1 bc bw bs kn th row rows ind tot pri q fr li sh) H locs → lv_has ls 7 [(0, .ref hD), (1, .ref hF), (2, .int (iI u)), (3, .int (iI ad)), (4, .int (iI d)), (5, .long (lI stp))] → W p l e rm_X0_weighsSteps s m args below meth cX H locs 0 0 Q (F0 m 79 ls []) := by
            intro stp hsp H locs ls hX hl
            have hdd := sq_bd (B := 8) (a := d) (by omega) (by omega)
            have hdn := sq_nn d
            refine xr_aload_n E hl 0 rfl dX0_weighsSteps_79 rfl ?_
            refine xr_get E hX 0 rfl rfl ly_X0 3 (by decide) fl_X0_26 rfl dX0_weighsSteps_80 ?_
            refine xr_iload E hl 4 rfl dX0_weighsSteps_83 ?_
            refine xr_bipush E dX0_weighsSteps_85 (by decide) ?_
            refine xr_iadd E dX0_weighsSteps_87 ?_
            refine xr_lload E hl 5 rfl dX0_weighsSteps_88 ?_
            refine xr_lload E hl 5 rfl dX0_weighsSteps_90 ?_
            refine xr_lmul E dX0_weighsSteps_92 ?_
            refine xr_bipush E dX0_weighsSteps_93 (by decide) ?_
            refine xr_lshl E dX0_weighsSteps_95 (sq_nn _) ?_
            refine xr_iload E hl 4 rfl dX0_weighsSteps_96 ?_
            refine xr_iload E hl 4 rfl dX0_weighsSteps_98 ?_
            refine xr_imul E dX0_weighsSteps_100 ?_
            refine xr_i2l E dX0_weighsSteps_101 ⟨by omega, by omega⟩ ?_
            refine xr_ladd E dX0_weighsSteps_102 ?_
            refine xr_last (W1 := (W_DF y hD hB a_low a_high a_ll a_lh a_bnd a_gap a_costs a_ways a_stc a_row hF a_ind a_tot a_pri low high ll lh bnd gap bq costs ways (up st1 (d + 8) (((stp * stp) * 1024) + (d * d))) bc bw bs kn th row rows ind tot pri q fr li sh)) E hX 10 rfl (by omega) (by omega) (by decide) rfl dX0_weighsSteps_103 (fun H locs hX => ?_)
            refine xr_iinc (k := 4) (lv' := [(4, .int (iI (d + 1))), (0, .ref hD), (1, .ref hF), (2, .int (iI u)), (3, .int (iI ad)), (5, .long (lI stp))]) E hl rfl dX0_weighsSteps_104 (by decide) rfl (fun ls hl => ?_)
            refine xr_goto (tgt := 20) E dX0_weighsSteps_107 (by decide) ?_
            exact ih_20_1 (d + 1) (up st1 (d + 8) (((stp * stp) * 1024) + (d * d))) (by omega) (by omega) (by rw [hs, hsp, show d + 1 - low u = (d - low u) + 1 by omega, show d + 8 = (low u + 8) + (d - low u) by omega]; exact fillR_up _ _ _ _ _ (by omega) (by rw [show low u + 8 + (d - low u) - 8 = d by omega]; rfl)) _ _ _ hX (lv_sub hl [1, 2, 3, 4, 0] rfl)
          refine xr_lconst (v := 0) E dX0_weighsSteps_34 (by decide) ?_
          refine xr_lstore (lv' := [(5, .long (lI 0)), (0, .ref hD), (1, .ref hF), (2, .int (iI u)), (3, .int (iI ad)), (4, .int (iI d))]) E hl dX0_weighsSteps_35 (by decide) rfl (fun ls hl => ?_)
          refine xr_iload_n E hl 3 rfl dX0_weighsSteps_37 rfl ?_
          refine xr_if_le (tgt := 79) E dX0_weighsSteps_38 (by decide) ⟨by omega, by omega⟩ (fun c_38 => ?_) (fun c_38 => ?_)
          · have c_38 := c_38
            exact L_79_2 0  (by unfold stP; (repeat' split) <;> first | (exfalso; omega) | rfl) _ _ _ hX (lv_sub hl [1, 2, 3, 4, 5, 0] rfl)
          · have c_38 := c_38
            refine xr_aload_n E hl 2 rfl dX0_weighsSteps_41 rfl ?_
            refine xr_get E hX 12 rfl rfl ly_X2 6 (by decide) fl_X0_114 rfl dX0_weighsSteps_42 ?_
            refine xr_if_ne (tgt := 56) E dX0_weighsSteps_45 (by decide) ⟨by omega, by omega⟩ (fun c_45 => ?_) (fun c_45 => ?_)
            · have c_45 := c_45
              have hi1 := H_I.ind (t := u - 1) (by omega) (by omega)
              have hi2 := H_I.ind (t := u) (by omega) (by omega)
              have hm1 := mul_bd3 (a := d) (b := ind (u - 1)) (by omega) (by omega) (by omega) (by omega)
              have hm2 := mul_bd3 (a := ad) (b := ind u) (by omega) (by omega) (by omega) (by omega)
              refine xr_iload E hl 5 rfl dX0_weighsSteps_56 ?_
              refine xr_aload_n E hl 2 rfl dX0_weighsSteps_58 rfl ?_
              refine xr_get E hX 12 rfl rfl ly_X2 0 (by decide) fl_X0_111 rfl dX0_weighsSteps_59 ?_
              refine xr_iload_n E hl 3 rfl dX0_weighsSteps_62 rfl ?_
              refine xr_iconst E dX0_weighsSteps_63 ?_
              refine xr_isub E dX0_weighsSteps_64 ?_
              refine xr_iald E hX 13 rfl (by omega) (by omega) (by decide) dX0_weighsSteps_65 ?_
              refine xr_imul E dX0_weighsSteps_66 ?_
              refine xr_iload_n E hl 4 rfl dX0_weighsSteps_67 rfl ?_
              refine xr_aload_n E hl 2 rfl dX0_weighsSteps_68 rfl ?_
              refine xr_get E hX 12 rfl rfl ly_X2 0 (by decide) fl_X0_111 rfl dX0_weighsSteps_69 ?_
              refine xr_iload_n E hl 3 rfl dX0_weighsSteps_72 rfl ?_
              refine xr_iald E hX 13 rfl (by omega) (by omega) (by decide) dX0_weighsSteps_73 ?_
              refine xr_imul E dX0_weighsSteps_74 ?_
              refine xr_isub E dX0_weighsSteps_75 ?_
              refine xr_i2l E dX0_weighsSteps_76 ⟨by omega, by omega⟩ ?_
              refine xr_lstore (lv' := [(5, .long (lI ((d * (ind (u - 1))) - (ad * (ind u))))), (0, .ref hD), (1, .ref hF), (2, .int (iI u)), (3, .int (iI ad)), (4, .int (iI d))]) E hl dX0_weighsSteps_77 (by decide) rfl (fun ls hl => ?_)
              exact L_79_2 ((d * (ind (u - 1))) - (ad * (ind u)))  (by unfold stP; (repeat' split) <;> first | (exfalso; omega) | rfl) _ _ _ hX (lv_sub hl [1, 2, 3, 4, 5, 0] rfl)
            · have c_45 := c_45
              refine xr_iload E hl 5 rfl dX0_weighsSteps_48 ?_
              refine xr_iload_n E hl 4 rfl dX0_weighsSteps_50 rfl ?_
              refine xr_isub E dX0_weighsSteps_51 ?_
              refine xr_i2l E dX0_weighsSteps_52 ⟨by omega, by omega⟩ ?_
              refine xr_goto (tgt := 77) E dX0_weighsSteps_53 (by decide) ?_
              refine xr_lstore (lv' := [(5, .long (lI (d - ad))), (0, .ref hD), (1, .ref hF), (2, .int (iI u)), (3, .int (iI ad)), (4, .int (iI d))]) E hl dX0_weighsSteps_77 (by decide) rfl (fun ls hl => ?_)
              exact L_79_2 (d - ad)  (by unfold stP; (repeat' split) <;> first | (exfalso; omega) | rfl) _ _ _ hX (lv_sub hl [1, 2, 3, 4, 5, 0] rfl)
    exact L_20_1 _ (low u) stc (Nat.lt_succ_self _) (by omega) (by rw [Int.sub_self]; exact (fillR_0 _ _ _).symm) _ _ _ hX (lv_sub hl [1, 2, 3, 4, 0] rfl)
  · have c_5 := c_5
    exact xr_vret E hX hQ stc hr (by unfold xWs; rw [if_neg (by omega)]) rfl dX0_weighsSteps_8
abbrev rm_X0_choosesStep : Room := { frames := 1, cells := 0, slots := 0, locals := 30 }
set_option maxHeartbeats 4000000 in
set_option maxRecDepth 100000 in
theorem c_X0_choosesStep (l : Launch) (D : va_G) (y : CY) (z sz : Nat) (hD hB a_low a_high a_ll a_lh a_bnd a_gap a_costs a_ways a_stc a_row : Nat) (low : Int → Int) (high : Int → Int) (ll : Int → Int) (lh : Int → Int) (bnd : Int → Bool) (gap : Int → Int) (bq : Int) (costs : Int → Int) (ways : Int → Int) (stc : Int → Int) (bc : Int) (bw : Int) (bs : Int) (kn : Bool) (th : Bool) (row : Int → Int) (rows : Int) (u : Int) (lf : Int) (hu : 0 ≤ u ∧ u ≤ 12) (hbq : 0 ≤ bq ∧ bq ≤ 12) (H_C : CPre bq low high ll lh bnd gap costs ways stc u lf) : Met l yX0_choosesStep (Cond.code yX0_choosesStep cX0_choosesStep 12 none :: TW) rm_X0_choosesStep (va_Pc [.ref hD, .int (iI u), .int (iI lf)] (PX D y z (W_D y hD hB a_low a_high a_ll a_lh a_bnd a_gap a_costs a_ways a_stc a_row low high ll lh bnd gap bq costs ways stc bc bw bs kn th row rows) sz)) (va_Qv (fun (uu : (Int) × (Int) × (Int)) => uu = ((chE bq low high ll lh bnd gap costs ways stc u lf).1, (chE bq low high ll lh bnd gap costs ways stc u lf).2.1, (chE bq low high ll lh bnd gap costs ways stc u lf).2.2)) (fun uu t => BX D (W_D y hD hB a_low a_high a_ll a_lh a_bnd a_gap a_costs a_ways a_stc a_row low high ll lh bnd gap bq costs ways stc uu.1 uu.2.1 uu.2.2 kn th row rows) (va_A (W_D y hD hB a_low a_high a_ll a_lh a_bnd a_gap a_costs a_ways a_stc a_row low high ll lh bnd gap bq costs ways stc bc bw bs kn th row rows) sz) t) (va_A (W_D y hD hB a_low a_high a_ll a_lh a_bnd a_gap a_costs a_ways a_stc a_row low high ll lh bnd gap bq costs ways stc bc bw bs kn th row rows) sz)) 0 0 (va_A (W_D y hD hB a_low a_high a_ll a_lh a_bnd a_gap a_costs a_ways a_stc a_row low high ll lh bnd gap bq costs ways stc bc bw bs kn th row rows) sz) := by
  refine xm_v (by decide) (Nat.le_of_ble_eq_true rfl) (fun p e s m args below meth cX ls A Q E hr hnm hX hl hQ => ?_)
  have hl : lv_has ls 12 [(0, .ref hD), (1, .int (iI u)), (2, .int (iI lf))] := hl
  refine xr_aload_n E hl 0 rfl dX0_choosesStep_0 rfl ?_
  refine xr_lconst (v := 0) E dX0_choosesStep_1 (by decide) ?_
  refine xr_put (W1 := (W_D y hD hB a_low a_high a_ll a_lh a_bnd a_gap a_costs a_ways a_stc a_row low high ll lh bnd gap bq costs ways stc 0 bw bs kn th row rows)) E hX 0 rfl rfl ly_X0 tyX0_ok nmX0 4 (by decide) fl_X0_29 rfl rfl rfl (Nat.le_of_ble_eq_true rfl) rfl dX0_choosesStep_2 (fun H locs hX => ?_)
  refine xr_aload_n E hl 0 rfl dX0_choosesStep_5 rfl ?_
  refine xr_iconst E dX0_choosesStep_6 ?_
  refine xr_put (W1 := (W_D y hD hB a_low a_high a_ll a_lh a_bnd a_gap a_costs a_ways a_stc a_row low high ll lh bnd gap bq costs ways stc 0 1 bs kn th row rows)) E hX 0 rfl rfl ly_X0 tyX0_ok nmX0 5 (by decide) fl_X0_33 rfl rfl rfl (Nat.le_of_ble_eq_true rfl) rfl dX0_choosesStep_7 (fun H locs hX => ?_)
  refine xr_aload_n E hl 0 rfl dX0_choosesStep_10 rfl ?_
  refine xr_iconst E dX0_choosesStep_11 ?_
  refine xr_put (W1 := (W_D y hD hB a_low a_high a_ll a_lh a_bnd a_gap a_costs a_ways a_stc a_row low high ll lh bnd gap bq costs ways stc 0 1 0 kn th row rows)) E hX 0 rfl rfl ly_X0 tyX0_ok nmX0 6 (by decide) fl_X0_37 rfl rfl rfl (Nat.le_of_ble_eq_true rfl) rfl dX0_choosesStep_12 (fun H locs hX => ?_)
  refine xr_iload_n E hl 1 rfl dX0_choosesStep_15 rfl ?_
  refine xr_aload_n E hl 0 rfl dX0_choosesStep_16 rfl ?_
  refine xr_get E hX 0 rfl rfl ly_X0 0 (by decide) fl_X0_12 rfl dX0_choosesStep_17 ?_
  refine xr_get E hX 1 rfl rfl ly_X1 6 (by decide) fl_X0_117 rfl dX0_choosesStep_20 ?_
  refine xr_icmp_lt (tgt := 27) E dX0_choosesStep_23 (by decide) ⟨by omega, by omega⟩ ⟨by omega, by omega⟩ (fun c_23 => ?_) (fun c_23 => ?_)
  · have c_23 := c_23
    obtain ⟨q1, q2, q3, q4, q5⟩ := H_C c_23
    have qa : -20000 ≤ lAh gap u lf ∧ lAh gap u lf ≤ 20000 := by unfold lAh; split <;> omega
    refine xr_aload_n E hl 0 rfl dX0_choosesStep_27 rfl ?_
    refine xr_get E hX 0 rfl rfl ly_X0 0 (by decide) fl_X0_12 rfl dX0_choosesStep_28 ?_
    refine xr_iload_n E hl 1 rfl dX0_choosesStep_31 rfl ?_
    refine xk_ri E hX [1, 2, 3, 4, 5, 6, 7] rfl (xv_V (As := [.int (iI u)]) E hX hl (c_X1_isBound l D y z _ hB a_low a_high a_ll a_lh a_bnd a_gap low high ll lh bnd gap bq u (by omega)) ml_X0_105 im_X1_isBound se_X1_isBound in_X1 co_X1_isBound 1 (by decide) ⟨rfl, rfl⟩ ⟨Nat.le_of_ble_eq_true rfl, Nat.le_of_ble_eq_true rfl⟩ [1, 2, 3, 4, 5, 6, 7] rfl rfl 1 rfl rfl rfl rfl rfl (Nat.le_of_ble_eq_true rfl) dX0_choosesStep_32 ⟨Nat.le_refl _, Nat.le_refl _⟩) (fun r_32 H locs hw hX => ?_)
    subst hw
    refine xr_istore_n (lv' := [(3, .int (bB (bnd (u / 4)))), (0, .ref hD), (1, .int (iI u)), (2, .int (iI lf))]) E hl dX0_choosesStep_35 rfl (by decide) rfl (fun ls hl => ?_)
    refine xr_aload_n E hl 1 rfl dX0_choosesStep_36 rfl ?_
    refine xr_get E hX 0 rfl rfl ly_X0 0 (by decide) fl_X0_12 rfl dX0_choosesStep_37 ?_
    refine xr_iload_n E hl 2 rfl dX0_choosesStep_40 rfl ?_
    refine xr_iload_n E hl 3 rfl dX0_choosesStep_41 rfl ?_
    refine xk_ri E hX [1, 2, 3, 4, 5, 6, 7] rfl (xv_V (As := [.int (iI u), .int (iI lf)]) E hX hl (c_X1_leftAhead l D y z _ hB a_low a_high a_ll a_lh a_bnd a_gap low high ll lh bnd gap bq u lf (by omega)) ml_X0_108 im_X1_leftAhead se_X1_leftAhead in_X1 co_X1_leftAhead 2 (by decide) ⟨rfl, rfl⟩ ⟨Nat.le_of_ble_eq_true rfl, Nat.le_of_ble_eq_true rfl⟩ [1, 2, 3, 4, 5, 6, 7] rfl rfl 1 rfl rfl rfl rfl rfl (Nat.le_of_ble_eq_true rfl) dX0_choosesStep_42 ⟨Nat.le_refl _, Nat.le_refl _⟩) (fun r_42 H locs hw hX => ?_)
    subst hw
    refine xr_istore (lv' := [(4, .int (iI (lAh gap u lf))), (3, .int (bB (bnd (u / 4)))), (0, .ref hD), (1, .int (iI u)), (2, .int (iI lf))]) E hl dX0_choosesStep_45 (by decide) rfl (fun ls hl => ?_)
    refine xr_aload_n E hl 2 rfl dX0_choosesStep_47 rfl ?_
    refine xr_get E hX 0 rfl rfl ly_X0 0 (by decide) fl_X0_12 rfl dX0_choosesStep_48 ?_
    refine xr_get E hX 1 rfl rfl ly_X1 0 (by decide) fl_X0_72 rfl dX0_choosesStep_51 ?_
    refine xr_iload_n E hl 3 rfl dX0_choosesStep_54 rfl ?_
    refine xr_iald E hX 2 rfl (by omega) (by omega) (by decide) dX0_choosesStep_55 ?_
    refine xr_istore (lv' := [(5, .int (iI (low u))), (4, .int (iI (lAh gap u lf))), (3, .int (bB (bnd (u / 4)))), (0, .ref hD), (1, .int (iI u)), (2, .int (iI lf))]) E hl dX0_choosesStep_56 (by decide) rfl (fun ls hl => ?_)
    refine xr_aload_n E hl 3 rfl dX0_choosesStep_58 rfl ?_
    refine xr_get E hX 0 rfl rfl ly_X0 0 (by decide) fl_X0_12 rfl dX0_choosesStep_59 ?_
    refine xr_get E hX 1 rfl rfl ly_X1 1 (by decide) fl_X0_75 rfl dX0_choosesStep_62 ?_
    refine xr_iload_n E hl 4 rfl dX0_choosesStep_65 rfl ?_
    refine xr_iald E hX 3 rfl (by omega) (by omega) (by decide) dX0_choosesStep_66 ?_
    refine xr_istore (lv' := [(6, .int (iI (high u))), (5, .int (iI (low u))), (4, .int (iI (lAh gap u lf))), (3, .int (bB (bnd (u / 4)))), (0, .ref hD), (1, .int (iI u)), (2, .int (iI lf))]) E hl dX0_choosesStep_67 (by decide) rfl (fun ls hl => ?_)
    have L_111_1 : ∀ (f1 : Int) (t1 : Int), (f1 = chFr bnd low lh gap u lf) → (t1 = chTo bnd high ll gap u lf) → ∀ (H : Heap) (locs : List Loc) (ls : Array Slot), XW D A s.heap (W_D y hD hB a_low a_high a_ll a_lh a_bnd a_gap a_costs a_ways a_stc a_row low high ll lh bnd gap bq costs ways stc 0 1 0 kn th row rows) H locs → lv_has ls 12 [(0, .ref hD), (1, .int (iI u)), (2, .int (iI lf)), (3, .int (bB (bnd (u / 4)))), (4, .int (iI (lAh gap u lf))), (5, .int (iI f1)), (6, .int (iI t1))] → W p l e rm_X0_choosesStep s m args below meth cX H locs 0 0 Q (F0 m 111 ls []) := by
      intro f1 t1 hf1 ht1 H locs ls hX hl
      have hfb : -8 ≤ f1 ∧ f1 ≤ 50000 := by rw [hf1]; unfold chFr; (repeat' split) <;> omega
      have htb : -50000 ≤ t1 ∧ t1 ≤ 8 := by rw [ht1]; unfold chTo; (repeat' split) <;> omega
      have L_145_2 : ∀ (sp0 : Int) (str : Int), (sp0 = xSpot ll u (nL bnd gap u lf f1) f1) → (∀ d : Int, xSpot ll u (nL bnd gap u lf (d + 1)) (d + 1) = xSpot ll u (nL bnd gap u lf d) d + str) → (-16 ≤ str ∧ str ≤ 1) → ∀ (H : Heap) (locs : List Loc) (ls : Array Slot), XW D A s.heap (W_D y hD hB a_low a_high a_ll a_lh a_bnd a_gap a_costs a_ways a_stc a_row low high ll lh bnd gap bq costs ways stc 0 1 0 kn th row rows) H locs → lv_has ls 12 [(0, .ref hD), (1, .int (iI u)), (2, .int (iI lf)), (3, .int (bB (bnd (u / 4)))), (4, .int (iI (lAh gap u lf))), (5, .int (iI f1)), (6, .int (iI t1)), (7, .int (iI sp0)), (8, .int (iI str))] → W p l e rm_X0_choosesStep s m args below meth cX H locs 0 0 Q (F0 m 145 ls []) := by
        intro sp0 str hsp0 hstr hst2 H locs ls hX hl
        refine xr_aload_n E hl 0 rfl dX0_choosesStep_145 rfl ?_
        refine xr_ldc2 (n := 1152921504606846976) E kl_X0_132 dX0_choosesStep_146 (by decide) ?_
        refine xr_put (W1 := (W_D y hD hB a_low a_high a_ll a_lh a_bnd a_gap a_costs a_ways a_stc a_row low high ll lh bnd gap bq costs ways stc 1152921504606846976 1 0 kn th row rows)) E hX 0 rfl rfl ly_X0 tyX0_ok nmX0 4 (by decide) fl_X0_29 rfl rfl rfl (Nat.le_of_ble_eq_true rfl) rfl dX0_choosesStep_149 (fun H locs hX => ?_)
        refine xr_aload_n E hl 0 rfl dX0_choosesStep_152 rfl ?_
        refine xr_iconst E dX0_choosesStep_153 ?_
        refine xr_put (W1 := (W_D y hD hB a_low a_high a_ll a_lh a_bnd a_gap a_costs a_ways a_stc a_row low high ll lh bnd gap bq costs ways stc 1152921504606846976 0 0 kn th row rows)) E hX 0 rfl rfl ly_X0 tyX0_ok nmX0 5 (by decide) fl_X0_33 rfl rfl rfl (Nat.le_of_ble_eq_true rfl) rfl dX0_choosesStep_154 (fun H locs hX => ?_)
        refine xr_iload E hl 5 rfl dX0_choosesStep_157 ?_
        refine xr_istore (lv' := [(9, .int (iI f1)), (0, .ref hD), (1, .int (iI u)), (2, .int (iI lf)), (3, .int (bB (bnd (u / 4)))), (4, .int (iI (lAh gap u lf))), (5, .int (iI f1)), (6, .int (iI t1)), (7, .int (iI sp0)), (8, .int (iI str))]) E hl dX0_choosesStep_159 (by decide) rfl (fun ls hl => ?_)
        have L_161_3 : ∀ (nmu : Nat) (n : Nat) (d : Int) (sp : Int) (bc1 : Int) (bw1 : Int) (bs1 : Int), (t1 - d + 1).toNat < nmu → (d = f1 + n ∧ (d ≤ t1 + 1 ∨ n = 0)) → (sp = xSpot ll u (nL bnd gap u lf d) d) → ((bc1, bw1, bs1) = chF (fun d => stc (d + 8) + costs (xSpot ll u (nL bnd gap u lf d) d)) (fun d => ways (xSpot ll u (nL bnd gap u lf d) d)) f1 n) → ∀ (H : Heap) (locs : List Loc) (ls : Array Slot), XW D A s.heap (W_D y hD hB a_low a_high a_ll a_lh a_bnd a_gap a_costs a_ways a_stc a_row low high ll lh bnd gap bq costs ways stc bc1 bw1 bs1 kn th row rows) H locs → lv_has ls 12 [(0, .ref hD), (1, .int (iI u)), (2, .int (iI lf)), (3, .int (bB (bnd (u / 4)))), (4, .int (iI (lAh gap u lf))), (5, .int (iI f1)), (6, .int (iI t1)), (7, .int (iI sp)), (8, .int (iI str)), (9, .int (iI d))] → W p l e rm_X0_choosesStep s m args below meth cX H locs 0 0 Q (F0 m 161 ls []) := by
          intro nmu
          induction nmu with
          | zero =>
            intro n d sp bc1 bw1 bs1 hmu
            exact absurd hmu (Nat.not_lt_zero _)
          | succ nmu ih =>
            intro n d sp bc1 bw1 bs1 hmu hd hsp hS H locs ls hX hl
            have ih_161_3 := ih
            clear ih
            refine xr_iload E hl 9 rfl dX0_choosesStep_161 ?_
            refine xr_iload E hl 6 rfl dX0_choosesStep_163 ?_
            refine xr_icmp_gt (tgt := 278) E dX0_choosesStep_165 (by decide) ⟨by omega, by omega⟩ ⟨by omega, by omega⟩ (fun c_165 => ?_) (fun c_165 => ?_)
            · have c_165 := c_165
              exact xr_vret E hX hQ (bc1, bw1, bs1) hr (by unfold chE; rw [if_pos c_23, ← hf1, ← ht1]; first | rw [show (t1 - f1 + 1).toNat = n by omega, ← hS] | (exfalso; omega)) rfl dX0_choosesStep_278
            · have c_165 := c_165
              have q6 := q5 d (by omega) (by omega)
              rw [← hsp] at q6
              refine xr_aload_n E hl 0 rfl dX0_choosesStep_168 rfl ?_
              refine xr_iload E hl 7 rfl dX0_choosesStep_169 ?_
              refine xk_ri E hX [0, 1, 2, 3, 4, 5, 6, 7, 8, 9, 10, 11] rfl (xv_V (As := [.int (iI sp)]) E hX hl (c_X0_isSpot l D y z _ hD hB a_low a_high a_ll a_lh a_bnd a_gap a_costs a_ways a_stc a_row low high ll lh bnd gap bq costs ways stc bc1 bw1 bs1 kn th row rows sp (by omega)) ml_X0_101 im_X0_isSpot se_X0_isSpot in_X0 co_X0_isSpot 1 (by decide) ⟨rfl, rfl⟩ ⟨Nat.le_of_ble_eq_true rfl, Nat.le_of_ble_eq_true rfl⟩ [0, 1, 2, 3, 4, 5, 6, 7, 8, 9, 10, 11] rfl rfl 0 rfl rfl rfl rfl rfl (Nat.le_of_ble_eq_true rfl) dX0_choosesStep_171 ⟨Nat.le_refl _, Nat.le_refl _⟩) (fun r_171 H locs hw hX => ?_)
              subst hw
              refine xr_if_eqB (tgt := 278) E dX0_choosesStep_174 (by decide) (fun c_174 => ?_) (fun c_174 => ?_)
              · have c_174 := of_decide_eq_false c_174
                exact xr_vret E hX hQ (bc1, bw1, bs1) hr (by unfold chE; rw [if_pos c_23, ← hf1, ← ht1]; first | rw [show (t1 - f1 + 1).toNat = n by omega, ← hS] | (exfalso; omega)) rfl dX0_choosesStep_278
              · have c_174 := of_decide_eq_true c_174
                have q7 : (0 ≤ bc1 ∧ bc1 ≤ 1152921504606846976) ∧ 0 ≤ bw1 ∧ bw1 ≤ 9999 := by have hb := chF_bd (c := (fun d => stc (d + 8) + costs (xSpot ll u (nL bnd gap u lf d) d))) (w := (fun d => ways (xSpot ll u (nL bnd gap u lf d) d))) (fr := f1) (n := n) (fun e h0 h1 => (by have q8 := q5 e (by omega) (by omega); exact ⟨by omega, by omega, by omega⟩)); rw [← hS] at hb; exact hb
                refine xr_aload_n E hl 0 rfl dX0_choosesStep_177 rfl ?_
                refine xr_get E hX 0 rfl rfl ly_X0 3 (by decide) fl_X0_26 rfl dX0_choosesStep_178 ?_
                refine xr_iload E hl 9 rfl dX0_choosesStep_181 ?_
                refine xr_bipush E dX0_choosesStep_183 (by decide) ?_
                refine xr_iadd E dX0_choosesStep_185 ?_
                refine xr_lald E hX 10 rfl (by omega) (by omega) (by decide) dX0_choosesStep_186 ?_
                refine xr_aload_n E hl 0 rfl dX0_choosesStep_187 rfl ?_
                refine xr_get E hX 0 rfl rfl ly_X0 1 (by decide) fl_X0_18 rfl dX0_choosesStep_188 ?_
                refine xr_iload E hl 7 rfl dX0_choosesStep_191 ?_
                refine xr_lald E hX 8 rfl (by omega) (by omega) (by decide) dX0_choosesStep_193 ?_
                refine xr_ladd E dX0_choosesStep_194 ?_
                refine xr_lstore (lv' := [(10, .long (lI ((stc (d + 8)) + (costs sp)))), (0, .ref hD), (1, .int (iI u)), (2, .int (iI lf)), (3, .int (bB (bnd (u / 4)))), (4, .int (iI (lAh gap u lf))), (5, .int (iI f1)), (6, .int (iI t1)), (7, .int (iI sp)), (8, .int (iI str)), (9, .int (iI d))]) E hl dX0_choosesStep_195 (by decide) rfl (fun ls hl => ?_)
                have L_265_4 : ∀ (bc2 : Int) (bw2 : Int) (bs2 : Int), ((bc2, bw2, bs2) = chF (fun d => stc (d + 8) + costs (xSpot ll u (nL bnd gap u lf d) d)) (fun d => ways (xSpot ll u (nL bnd gap u lf d) d)) f1 (n + 1)) → ∀ (H : Heap) (locs : List Loc) (ls : Array Slot), XW D A s.heap (W_D y hD hB a_low a_high a_ll a_lh a_bnd a_gap a_costs a_ways a_stc a_row low high ll lh bnd gap bq costs ways stc bc2 bw2 bs2 kn th row rows) H locs → lv_has ls 12 [(0, .ref hD), (1, .int (iI u)), (2, .int (iI lf)), (3, .int (bB (bnd (u / 4)))), (4, .int (iI (lAh gap u lf))), (5, .int (iI f1)), (6, .int (iI t1)), (7, .int (iI sp)), (8, .int (iI str)), (9, .int (iI d))] → W p l e rm_X0_choosesStep s m args below meth cX H locs 0 0 Q (F0 m 265 ls []) := by
                  intro bc2 bw2 bs2 hS2 H locs ls hX hl
                  refine xr_iload E hl 7 rfl dX0_choosesStep_265 ?_
                  refine xr_iload E hl 8 rfl dX0_choosesStep_267 ?_
                  refine xr_iadd E dX0_choosesStep_269 ?_
                  refine xr_istore (lv' := [(7, .int (iI (sp + str))), (0, .ref hD), (1, .int (iI u)), (2, .int (iI lf)), (3, .int (bB (bnd (u / 4)))), (4, .int (iI (lAh gap u lf))), (5, .int (iI f1)), (6, .int (iI t1)), (8, .int (iI str)), (9, .int (iI d))]) E hl dX0_choosesStep_270 (by decide) rfl (fun ls hl => ?_)
                  refine xr_iinc (k := 9) (lv' := [(9, .int (iI (d + 1))), (7, .int (iI (sp + str))), (0, .ref hD), (1, .int (iI u)), (2, .int (iI lf)), (3, .int (bB (bnd (u / 4)))), (4, .int (iI (lAh gap u lf))), (5, .int (iI f1)), (6, .int (iI t1)), (8, .int (iI str))]) E hl rfl dX0_choosesStep_272 (by decide) rfl (fun ls hl => ?_)
                  refine xr_goto (tgt := 161) E dX0_choosesStep_275 (by decide) ?_
                  exact ih_161_3 (n + 1) (d + 1) (sp + str) bc2 bw2 bs2 (by omega) (by omega) (by rw [hstr, hsp]) hS2 _ _ _ hX (lv_sub hl [2, 3, 4, 5, 6, 7, 8, 1, 9, 0] rfl)
                refine xr_lload E hl 0 rfl dX0_choosesStep_197 ?_
                refine xr_aload_n E hl 1 rfl dX0_choosesStep_199 rfl ?_
                refine xr_get E hX 0 rfl rfl ly_X0 4 (by decide) fl_X0_29 rfl dX0_choosesStep_200 ?_
                refine xr_lc_ge (tgt := 233) E dX0_choosesStep_203 dX0_choosesStep_204 (by decide) ⟨by omega, by omega⟩ ⟨by omega, by omega⟩ (fun c_203 => ?_) (fun c_203 => ?_)
                · have c_203 := c_203
                  refine xr_lload E hl 0 rfl dX0_choosesStep_233 ?_
                  refine xr_aload_n E hl 1 rfl dX0_choosesStep_235 rfl ?_
                  refine xr_get E hX 0 rfl rfl ly_X0 4 (by decide) fl_X0_29 rfl dX0_choosesStep_236 ?_
                  refine xr_lc_ne (tgt := 265) E dX0_choosesStep_239 dX0_choosesStep_240 (by decide) ⟨by omega, by omega⟩ ⟨by omega, by omega⟩ (fun c_239 => ?_) (fun c_239 => ?_)
                  · have c_239 := c_239
                    exact L_265_4 bc1 bw1 bs1  (by rw [chF_s, ← hS, ← hd.1, ← hsp]; unfold chF1; (repeat' split) <;> first | (exfalso; omega) | rfl) _ _ _ hX (lv_sub hl [1, 2, 3, 4, 5, 6, 7, 8, 9, 10] rfl)
                  · have c_239 := c_239
                    refine xr_aload_n E hl 1 rfl dX0_choosesStep_243 rfl ?_
                    refine xr_sipush E dX0_choosesStep_244 (by decide) ?_
                    refine xr_aload_n E hl 1 rfl dX0_choosesStep_247 rfl ?_
                    refine xr_get E hX 0 rfl rfl ly_X0 5 (by decide) fl_X0_33 rfl dX0_choosesStep_248 ?_
                    refine xr_aload_n E hl 1 rfl dX0_choosesStep_251 rfl ?_
                    refine xr_get E hX 0 rfl rfl ly_X0 2 (by decide) fl_X0_22 rfl dX0_choosesStep_252 ?_
                    refine xr_iload E hl 8 rfl dX0_choosesStep_255 ?_
                    refine xr_iald E hX 9 rfl (by omega) (by omega) (by decide) dX0_choosesStep_257 ?_
                    refine xr_iadd E dX0_choosesStep_258 ?_
                    refine xr_min E hl ml_X0_129 dX0_choosesStep_259 ⟨Nat.le_of_ble_eq_true rfl, Nat.le_of_ble_eq_true rfl, Nat.zero_le _, Nat.zero_le _⟩ (by decide) ⟨by omega, by omega⟩ ?_
                    refine xr_put (W1 := (W_D y hD hB a_low a_high a_ll a_lh a_bnd a_gap a_costs a_ways a_stc a_row low high ll lh bnd gap bq costs ways stc bc1 (if (bw1 + (ways sp)) < 9999 then (bw1 + (ways sp)) else 9999) bs1 kn th row rows)) E hX 0 rfl rfl ly_X0 tyX0_ok nmX0 5 (by decide) fl_X0_33 rfl rfl rfl (Nat.le_of_ble_eq_true rfl) rfl dX0_choosesStep_262 (fun H locs hX => ?_)
                    exact L_265_4 bc1 (if (bw1 + (ways sp)) < 9999 then (bw1 + (ways sp)) else 9999) bs1  (by rw [chF_s, ← hS, ← hd.1, ← hsp]; unfold chF1; (repeat' split) <;> first | (exfalso; omega) | rfl) _ _ _ hX (lv_sub hl [1, 2, 3, 4, 5, 6, 7, 8, 9, 10] rfl)
                · have c_203 := c_203
                  refine xr_aload_n E hl 1 rfl dX0_choosesStep_207 rfl ?_
                  refine xr_lload E hl 0 rfl dX0_choosesStep_208 ?_
                  refine xr_put (W1 := (W_D y hD hB a_low a_high a_ll a_lh a_bnd a_gap a_costs a_ways a_stc a_row low high ll lh bnd gap bq costs ways stc ((stc (d + 8)) + (costs sp)) bw1 bs1 kn th row rows)) E hX 0 rfl rfl ly_X0 tyX0_ok nmX0 4 (by decide) fl_X0_29 rfl rfl rfl (Nat.le_of_ble_eq_true rfl) rfl dX0_choosesStep_210 (fun H locs hX => ?_)
                  refine xr_aload_n E hl 1 rfl dX0_choosesStep_213 rfl ?_
                  refine xr_aload_n E hl 1 rfl dX0_choosesStep_214 rfl ?_
                  refine xr_get E hX 0 rfl rfl ly_X0 2 (by decide) fl_X0_22 rfl dX0_choosesStep_215 ?_
                  refine xr_iload E hl 8 rfl dX0_choosesStep_218 ?_
                  refine xr_iald E hX 9 rfl (by omega) (by omega) (by decide) dX0_choosesStep_220 ?_
                  refine xr_put (W1 := (W_D y hD hB a_low a_high a_ll a_lh a_bnd a_gap a_costs a_ways a_stc a_row low high ll lh bnd gap bq costs ways stc ((stc (d + 8)) + (costs sp)) (ways sp) bs1 kn th row rows)) E hX 0 rfl rfl ly_X0 tyX0_ok nmX0 5 (by decide) fl_X0_33 rfl rfl rfl (Nat.le_of_ble_eq_true rfl) rfl dX0_choosesStep_221 (fun H locs hX => ?_)
                  refine xr_aload_n E hl 1 rfl dX0_choosesStep_224 rfl ?_
                  refine xr_iload E hl 10 rfl dX0_choosesStep_225 ?_
                  refine xr_put (W1 := (W_D y hD hB a_low a_high a_ll a_lh a_bnd a_gap a_costs a_ways a_stc a_row low high ll lh bnd gap bq costs ways stc ((stc (d + 8)) + (costs sp)) (ways sp) d kn th row rows)) E hX 0 rfl rfl ly_X0 tyX0_ok nmX0 6 (by decide) fl_X0_37 rfl rfl rfl (Nat.le_of_ble_eq_true rfl) rfl dX0_choosesStep_227 (fun H locs hX => ?_)
                  refine xr_goto (tgt := 265) E dX0_choosesStep_230 (by decide) ?_
                  exact L_265_4 ((stc (d + 8)) + (costs sp)) (ways sp) d  (by rw [chF_s, ← hS, ← hd.1, ← hsp]; unfold chF1; (repeat' split) <;> first | (exfalso; omega) | rfl) _ _ _ hX (lv_sub hl [1, 2, 3, 4, 5, 6, 7, 8, 9, 10] rfl)
        exact L_161_3 _ 0 f1 sp0 1152921504606846976 0 0 (Nat.lt_succ_self _) (by omega) (by omega) rfl _ _ _ hX (lv_sub hl [1, 2, 3, 4, 5, 6, 7, 8, 9, 0] rfl)
      refine xr_aload_n E hl 0 rfl dX0_choosesStep_111 rfl ?_
      refine xr_iload_n E hl 1 rfl dX0_choosesStep_112 rfl ?_
      refine xr_iload_n E hl 3 rfl dX0_choosesStep_113 rfl ?_
      refine xr_if_eqB (tgt := 125) E dX0_choosesStep_114 (by decide) (fun c_114 => ?_) (fun c_114 => ?_)
      · have c_114 := c_114
        refine xr_iconst E dX0_choosesStep_125 ?_
        refine xr_iload E hl 5 rfl dX0_choosesStep_126 ?_
        refine xk_ri E hX [0, 1, 2, 3, 4, 5, 6, 7, 8, 9, 10, 11] rfl (xv_V (As := [.int (iI u), .int (iI 0), .int (iI f1)]) E hX hl (c_X0_spot l D y z _ hD hB a_low a_high a_ll a_lh a_bnd a_gap a_costs a_ways a_stc a_row low high ll lh bnd gap bq costs ways stc 0 1 0 kn th row rows u 0 f1 (by omega)) ml_X0_93 im_X0_spot se_X0_spot in_X0 co_X0_spot 3 (by decide) ⟨rfl, rfl⟩ ⟨Nat.le_of_ble_eq_true rfl, Nat.le_of_ble_eq_true rfl⟩ [0, 1, 2, 3, 4, 5, 6, 7, 8, 9, 10, 11] rfl rfl 0 rfl rfl rfl rfl rfl (Nat.le_of_ble_eq_true rfl) dX0_choosesStep_128 ⟨Nat.le_refl _, Nat.le_refl _⟩) (fun r_128 H locs hw hX => ?_)
        subst hw
        refine xr_istore (lv' := [(7, .int (iI (xSpot ll u 0 f1))), (0, .ref hD), (1, .int (iI u)), (2, .int (iI lf)), (3, .int (bB (bnd (u / 4)))), (4, .int (iI (lAh gap u lf))), (5, .int (iI f1)), (6, .int (iI t1))]) E hl dX0_choosesStep_131 (by decide) rfl (fun ls hl => ?_)
        refine xr_iload_n E hl 4 rfl dX0_choosesStep_133 rfl ?_
        refine xr_if_eqB (tgt := 142) E dX0_choosesStep_134 (by decide) (fun c_134 => ?_) (fun c_134 => ?_)
        · have c_134 := c_134
          refine xr_iconst E dX0_choosesStep_142 ?_
          refine xr_istore (lv' := [(8, .int (iI 1)), (7, .int (iI (xSpot ll u 0 f1))), (0, .ref hD), (1, .int (iI u)), (2, .int (iI lf)), (3, .int (bB (bnd (u / 4)))), (4, .int (iI (lAh gap u lf))), (5, .int (iI f1)), (6, .int (iI t1))]) E hl dX0_choosesStep_143 (by decide) rfl (fun ls hl => ?_)
          exact L_145_2 (xSpot ll u 0 f1) 1  (by unfold nL; first | rw [if_pos c_114] | rw [if_neg (by rw [c_114]; decide)]) (fun d => by unfold xSpot nL; first | (rw [if_pos c_134, if_pos c_134]; omega) | (rw [if_neg (by rw [c_134]; decide), if_neg (by rw [c_134]; decide)]; omega)) (by omega) _ _ _ hX (lv_sub hl [2, 3, 4, 5, 6, 7, 8, 1, 0] rfl)
        · have c_134 := c_134
          refine xr_bipush E dX0_choosesStep_137 (by decide) ?_
          refine xr_goto (tgt := 143) E dX0_choosesStep_139 (by decide) ?_
          refine xr_istore (lv' := [(8, .int (iI (-16))), (7, .int (iI (xSpot ll u 0 f1))), (0, .ref hD), (1, .int (iI u)), (2, .int (iI lf)), (3, .int (bB (bnd (u / 4)))), (4, .int (iI (lAh gap u lf))), (5, .int (iI f1)), (6, .int (iI t1))]) E hl dX0_choosesStep_143 (by decide) rfl (fun ls hl => ?_)
          exact L_145_2 (xSpot ll u 0 f1) (-16)  (by unfold nL; first | rw [if_pos c_114] | rw [if_neg (by rw [c_114]; decide)]) (fun d => by unfold xSpot nL; first | (rw [if_pos c_134, if_pos c_134]; omega) | (rw [if_neg (by rw [c_134]; decide), if_neg (by rw [c_134]; decide)]; omega)) (by omega) _ _ _ hX (lv_sub hl [2, 3, 4, 5, 6, 7, 8, 1, 0] rfl)
      · have c_114 := c_114
        refine xr_iload E hl 4 rfl dX0_choosesStep_117 ?_
        refine xr_iload E hl 5 rfl dX0_choosesStep_119 ?_
        refine xr_isub E dX0_choosesStep_121 ?_
        refine xr_goto (tgt := 126) E dX0_choosesStep_122 (by decide) ?_
        refine xr_iload E hl 5 rfl dX0_choosesStep_126 ?_
        refine xk_ri E hX [0, 1, 2, 3, 4, 5, 6, 7, 8, 9, 10, 11] rfl (xv_V (As := [.int (iI u), .int (iI (lAh gap u lf - f1)), .int (iI f1)]) E hX hl (c_X0_spot l D y z _ hD hB a_low a_high a_ll a_lh a_bnd a_gap a_costs a_ways a_stc a_row low high ll lh bnd gap bq costs ways stc 0 1 0 kn th row rows u (lAh gap u lf - f1) f1 (by omega)) ml_X0_93 im_X0_spot se_X0_spot in_X0 co_X0_spot 3 (by decide) ⟨rfl, rfl⟩ ⟨Nat.le_of_ble_eq_true rfl, Nat.le_of_ble_eq_true rfl⟩ [0, 1, 2, 3, 4, 5, 6, 7, 8, 9, 10, 11] rfl rfl 0 rfl rfl rfl rfl rfl (Nat.le_of_ble_eq_true rfl) dX0_choosesStep_128 ⟨Nat.le_refl _, Nat.le_refl _⟩) (fun r_128 H locs hw hX => ?_)
        subst hw
        refine xr_istore (lv' := [(7, .int (iI (xSpot ll u (lAh gap u lf - f1) f1))), (0, .ref hD), (1, .int (iI u)), (2, .int (iI lf)), (3, .int (bB (bnd (u / 4)))), (4, .int (iI (lAh gap u lf))), (5, .int (iI f1)), (6, .int (iI t1))]) E hl dX0_choosesStep_131 (by decide) rfl (fun ls hl => ?_)
        refine xr_iload_n E hl 4 rfl dX0_choosesStep_133 rfl ?_
        refine xr_if_eqB (tgt := 142) E dX0_choosesStep_134 (by decide) (fun c_134 => ?_) (fun c_134 => ?_)
        · have c_134 := c_134
          refine xr_iconst E dX0_choosesStep_142 ?_
          refine xr_istore (lv' := [(8, .int (iI 1)), (7, .int (iI (xSpot ll u (lAh gap u lf - f1) f1))), (0, .ref hD), (1, .int (iI u)), (2, .int (iI lf)), (3, .int (bB (bnd (u / 4)))), (4, .int (iI (lAh gap u lf))), (5, .int (iI f1)), (6, .int (iI t1))]) E hl dX0_choosesStep_143 (by decide) rfl (fun ls hl => ?_)
          exact L_145_2 (xSpot ll u (lAh gap u lf - f1) f1) 1  (by unfold nL; first | rw [if_pos c_114] | rw [if_neg (by rw [c_114]; decide)]) (fun d => by unfold xSpot nL; first | (rw [if_pos c_134, if_pos c_134]; omega) | (rw [if_neg (by rw [c_134]; decide), if_neg (by rw [c_134]; decide)]; omega)) (by omega) _ _ _ hX (lv_sub hl [2, 3, 4, 5, 6, 7, 8, 1, 0] rfl)
        · have c_134 := c_134
          refine xr_bipush E dX0_choosesStep_137 (by decide) ?_
          refine xr_goto (tgt := 143) E dX0_choosesStep_139 (by decide) ?_
          refine xr_istore (lv' := [(8, .int (iI (-16))), (7, .int (iI (xSpot ll u (lAh gap u lf - f1) f1))), (0, .ref hD), (1, .int (iI u)), (2, .int (iI lf)), (3, .int (bB (bnd (u / 4)))), (4, .int (iI (lAh gap u lf))), (5, .int (iI f1)), (6, .int (iI t1))]) E hl dX0_choosesStep_143 (by decide) rfl (fun ls hl => ?_)
          exact L_145_2 (xSpot ll u (lAh gap u lf - f1) f1) (-16)  (by unfold nL; first | rw [if_pos c_114] | rw [if_neg (by rw [c_114]; decide)]) (fun d => by unfold xSpot nL; first | (rw [if_pos c_134, if_pos c_134]; omega) | (rw [if_neg (by rw [c_134]; decide), if_neg (by rw [c_134]; decide)]; omega)) (by omega) _ _ _ hX (lv_sub hl [2, 3, 4, 5, 6, 7, 8, 1, 0] rfl)
    refine xr_iload_n E hl 3 rfl dX0_choosesStep_69 rfl ?_
    refine xr_if_eqB (tgt := 111) E dX0_choosesStep_70 (by decide) (fun c_70 => ?_) (fun c_70 => ?_)
    · have c_70 := c_70
      exact L_111_1 (low u) (high u)  (by unfold chFr; first | rw [if_pos c_70] | rw [if_neg (by rw [c_70]; decide)]) (by unfold chTo; first | rw [if_pos c_70] | rw [if_neg (by rw [c_70]; decide)]) _ _ _ hX (lv_sub hl [4, 5, 6, 3, 2, 1, 0] rfl)
    · have c_70 := c_70
      refine xr_iload E hl 1 rfl dX0_choosesStep_73 ?_
      refine xr_iload E hl 2 rfl dX0_choosesStep_75 ?_
      refine xr_aload_n E hl 4 rfl dX0_choosesStep_77 rfl ?_
      refine xr_get E hX 0 rfl rfl ly_X0 0 (by decide) fl_X0_12 rfl dX0_choosesStep_78 ?_
      refine xr_get E hX 1 rfl rfl ly_X1 3 (by decide) fl_X0_118 rfl dX0_choosesStep_81 ?_
      refine xr_iload_n E hl 5 rfl dX0_choosesStep_84 rfl ?_
      refine xr_iald E hX 5 rfl (by omega) (by omega) (by decide) dX0_choosesStep_85 ?_
      refine xr_isub E dX0_choosesStep_86 ?_
      refine xr_max E hl ml_X0_121 dX0_choosesStep_87 ⟨Nat.le_of_ble_eq_true rfl, Nat.le_of_ble_eq_true rfl, Nat.zero_le _, Nat.zero_le _⟩ ⟨by omega, by omega⟩ ⟨by omega, by omega⟩ ?_
      refine xr_istore (lv' := [(5, .int (iI (if (low u) < (lAh gap u lf - (lh u)) then (lAh gap u lf - (lh u)) else (low u)))), (6, .int (iI (high u))), (4, .int (iI (lAh gap u lf))), (3, .int (bB (bnd (u / 4)))), (0, .ref hD), (1, .int (iI u)), (2, .int (iI lf))]) E hl dX0_choosesStep_90 (by decide) rfl (fun ls hl => ?_)
      refine xr_iload E hl 1 rfl dX0_choosesStep_92 ?_
      refine xr_iload E hl 2 rfl dX0_choosesStep_94 ?_
      refine xr_aload_n E hl 4 rfl dX0_choosesStep_96 rfl ?_
      refine xr_get E hX 0 rfl rfl ly_X0 0 (by decide) fl_X0_12 rfl dX0_choosesStep_97 ?_
      refine xr_get E hX 1 rfl rfl ly_X1 2 (by decide) fl_X0_126 rfl dX0_choosesStep_100 ?_
      refine xr_iload_n E hl 5 rfl dX0_choosesStep_103 rfl ?_
      refine xr_iald E hX 4 rfl (by omega) (by omega) (by decide) dX0_choosesStep_104 ?_
      refine xr_isub E dX0_choosesStep_105 ?_
      refine xr_min E hl ml_X0_129 dX0_choosesStep_106 ⟨Nat.le_of_ble_eq_true rfl, Nat.le_of_ble_eq_true rfl, Nat.zero_le _, Nat.zero_le _⟩ ⟨by omega, by omega⟩ ⟨by omega, by omega⟩ ?_
      refine xr_istore (lv' := [(6, .int (iI (if (lAh gap u lf - (ll u)) < (high u) then (lAh gap u lf - (ll u)) else (high u)))), (5, .int (iI (if (low u) < (lAh gap u lf - (lh u)) then (lAh gap u lf - (lh u)) else (low u)))), (4, .int (iI (lAh gap u lf))), (3, .int (bB (bnd (u / 4)))), (0, .ref hD), (1, .int (iI u)), (2, .int (iI lf))]) E hl dX0_choosesStep_109 (by decide) rfl (fun ls hl => ?_)
      exact L_111_1 (if (low u) < (lAh gap u lf - (lh u)) then (lAh gap u lf - (lh u)) else (low u)) (if (lAh gap u lf - (ll u)) < (high u) then (lAh gap u lf - (ll u)) else (high u))  (by unfold chFr; first | rw [if_pos c_70] | rw [if_neg (by rw [c_70]; decide)]) (by unfold chTo; first | rw [if_pos c_70] | rw [if_neg (by rw [c_70]; decide)]) _ _ _ hX (lv_sub hl [4, 5, 6, 3, 2, 1, 0] rfl)
  · have c_23 := c_23
    exact xr_vret E hX hQ (0, 1, 0) hr (by unfold chE; rw [if_neg (by omega)]) rfl dX0_choosesStep_26
