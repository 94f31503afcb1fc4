/-! BentQuarters: what is bent -/
abbrev W_XFD (y : CY) (hXo hF a_ind a_tot a_pri hD hB a_low a_high a_ll a_lh a_bnd a_gap a_costs a_ways a_stc a_row hP hT a_rfs a_shs : Nat) (ind : Int → Int) (tot : Int → Int) (pri : Int → Int) (q : Int) (fr : Int) (li : Int) (sh : Int) (low : Int → Int) (high : Int → Int) (ll : Int → Int) (lh : Int → Int) (bnd : Int → Bool) (gap : Int → Int) (bq : Int) (costs : Int → Int) (ways : Int → Int) (stc : Int → Int) (bc : Int) (bw : Int) (bs : Int) (kn : Bool) (th : Bool) (row : Int → Int) (rows : Int) (rfs : Int → Int) : va_W := [(hXo, .inr (5, [.ref hF, .ref hD, .ref hP, .ref hT, .ref a_rfs, .ref a_shs])), (hF, .inr (2, [.ref a_ind, .ref a_tot, .ref a_pri, .int (iI q), .int (iI fr), .int (iI li), .int (iI sh)])), (a_ind, .inl (y.1, 12, .inl (ia ind))), (a_tot, .inl (y.1, 3, .inl (ia tot))), (a_pri, .inl (y.1, 12, .inl (ia pri))), (hD, .inr (0, [.ref hB, .ref a_costs, .ref a_ways, .ref a_stc, .long (lI bc), .int (iI bw), .int (iI bs), .int (bB kn), .int (bB th), .ref a_row, .int (iI rows)])), (hB, .inr (1, [.ref a_low, .ref a_high, .ref a_ll, .ref a_lh, .ref a_bnd, .ref a_gap, .int (iI bq)])), (a_low, .inl (y.1, 12, .inl (ia low))), (a_high, .inl (y.1, 12, .inl (ia high))), (a_ll, .inl (y.1, 12, .inl (ia ll))), (a_lh, .inl (y.1, 12, .inl (ia lh))), (a_bnd, .inl (y.2.2.1, 3, .inl (ba bnd))), (a_gap, .inl (y.1, 3, .inl (ia gap))), (a_costs, .inl (y.2.1, 3468, .inr (.inl (la costs)))), (a_ways, .inl (y.1, 3468, .inl (ia ways))), (a_stc, .inl (y.2.1, 17, .inr (.inl (la stc)))), (a_row, .inl (y.1, 12, .inl (ia row))), (a_rfs, .inl (y.1, 3, .inl (ia rfs)))]
def xqBe (ind tot pri : Int → Int) (q fr li sh t : Int) : Int := if 0 ≤ t ∧ t ≤ q - 1 then (if xMt ind tot pri q fr li (-1) = true then xRow ind tot pri q fr li sh t + 8 else -3) else -2
def rqBe (ind tot pri : Int → Int) (q fr li : Int) (rfs : Int → Int) (t : Int) : Int → Int := if 0 ≤ t ∧ t ≤ q - 1 then (if xMt ind tot pri q fr li (-1) = true then rfs else rfU rfs (-3)) else rfU rfs (-2)
abbrev rm_X5_bent : Room := { frames := 4, cells := 0, slots := 0, locals := 107 }
set_option maxHeartbeats 4000000 in
set_option maxRecDepth 100000 in
theorem c_X5_bent (l : Launch) (D : va_G) (y : CY) (z sz : Nat) (hXo hF a_ind a_tot a_pri hD hB a_low a_high a_ll a_lh a_bnd a_gap a_costs a_ways a_stc a_row hP hT a_rfs a_shs : Nat) (ind : Int → Int) (tot : Int → Int) (pri : Int → Int) (q : Int) (fr : Int) (li : Int) (sh : Int) (low : Int → Int) (high : Int → Int) (ll : Int → Int) (lh : Int → Int) (bnd : Int → Bool) (gap : Int → Int) (bq : Int) (costs : Int → Int) (ways : Int → Int) (stc : Int → Int) (bc : Int) (bw : Int) (bs : Int) (kn : Bool) (th : Bool) (row : Int → Int) (rows : Int) (rfs : Int → Int) (t : Int) (H_I : FI ind tot pri q fr li sh) (H_K : KOk ind tot pri q fr li sh kn th row rows) (ht : sm t) : Met l yX5_bent (Cond.code yX5_bent cX5_bent 2 (some .int) :: TW) rm_X5_bent (va_Pc [.ref hXo, .int (iI t)] (PX D y z (W_XFD y hXo hF a_ind a_tot a_pri hD hB a_low a_high a_ll a_lh a_bnd a_gap a_costs a_ways a_stc a_row hP hT a_rfs a_shs ind tot pri q fr li sh low high ll lh bnd gap bq costs ways stc bc bw bs kn th row rows rfs) sz)) (va_Qi (fun (r : Int32) (uu : (Int → Int) × (Int → Int) × (Int → Int) × (Int → Int) × (Int → Bool) × (Int → Int) × (Int) × (Int → Int) × (Int → Int) × (Int → Int) × (Int) × (Int) × (Int) × (Bool) × (Bool) × (Int → Int) × (Int) × (Int → Int)) => r = iI (xqBe ind tot pri q fr li sh t) ∧ KOk ind tot pri q fr li sh uu.2.2.2.2.2.2.2.2.2.2.2.2.2.1 uu.2.2.2.2.2.2.2.2.2.2.2.2.2.2.1 uu.2.2.2.2.2.2.2.2.2.2.2.2.2.2.2.1 uu.2.2.2.2.2.2.2.2.2.2.2.2.2.2.2.2.1 ∧ uu.2.2.2.2.2.2.2.2.2.2.2.2.2.2.2.2.2 = rqBe ind tot pri q fr li rfs t) (fun uu t => BX D (W_XFD y hXo hF a_ind a_tot a_pri hD hB a_low a_high a_ll a_lh a_bnd a_gap a_costs a_ways a_stc a_row hP hT a_rfs a_shs ind tot pri q fr li sh uu.1 uu.2.1 uu.2.2.1 uu.2.2.2.1 uu.2.2.2.2.1 uu.2.2.2.2.2.1 uu.2.2.2.2.2.2.1 uu.2.2.2.2.2.2.2.1 uu.2.2.2.2.2.2.2.2.1 uu.2.2.2.2.2.2.2.2.2.1 uu.2.2.2.2.2.2.2.2.2.2.1 uu.2.2.2.2.2.2.2.2.2.2.2.1 uu.2.2.2.2.2.2.2.2.2.2.2.2.1 uu.2.2.2.2.2.2.2.2.2.2.2.2.2.1 uu.2.2.2.2.2.2.2.2.2.2.2.2.2.2.1 uu.2.2.2.2.2.2.2.2.2.2.2.2.2.2.2.1 uu.2.2.2.2.2.2.2.2.2.2.2.2.2.2.2.2.1 uu.2.2.2.2.2.2.2.2.2.2.2.2.2.2.2.2.2) (va_A (W_XFD y hXo hF a_ind a_tot a_pri hD hB a_low a_high a_ll a_lh a_bnd a_gap a_costs a_ways a_stc a_row hP hT a_rfs a_shs ind tot pri q fr li sh low high ll lh bnd gap bq costs ways stc bc bw bs kn th row rows rfs) sz) t) (va_A (W_XFD y hXo hF a_ind a_tot a_pri hD hB a_low a_high a_ll a_lh a_bnd a_gap a_costs a_ways a_stc a_row hP hT a_rfs a_shs ind tot pri q fr li sh low high ll lh bnd gap bq costs ways stc bc bw bs kn th row rows rfs) sz)) 0 0 (va_A (W_XFD y hXo hF a_ind a_tot a_pri hD hB a_low a_high a_ll a_lh a_bnd a_gap a_costs a_ways a_stc a_row hP hT a_rfs a_shs ind tot pri q fr li sh low high ll lh bnd gap bq costs ways stc bc bw bs kn th row rows rfs) sz) := by
  refine xm_i (by decide) (Nat.le_of_ble_eq_true rfl) (fun p e s m args below meth cX ls A Q E hr hnm hX hl hQ => ?_)
  have hl : lv_has ls 2 [(0, .ref hXo), (1, .int (iI t))] := hl
  have hq := H_I.q
  have hfr := H_I.fr
  have hli := H_I.li
  have hsh := H_I.sh
  refine xr_aload_n E hl 0 rfl dX5_bent_0 rfl ?_
  refine xr_get E hX 0 rfl rfl ly_X5 0 (by decide) fl_X5_12 rfl dX5_bent_1 ?_
  refine xr_iload_n E hl 1 rfl dX5_bent_4 rfl ?_
  refine xk_ri E hX [1, 2, 3, 4] rfl (xv_V (As := [.int (iI t)]) E hX hl (c_X2_has l D y z _ hF a_ind a_tot a_pri ind tot pri q fr li sh t ⟨by omega, by omega⟩ ⟨by omega, by omega⟩) ml_X5_81 im_X2_has se_X2_has in_X2 co_X2_has 1 (by decide) ⟨rfl, rfl⟩ ⟨Nat.le_of_ble_eq_true rfl, Nat.le_of_ble_eq_true rfl⟩ [1, 2, 3, 4] rfl rfl 1 rfl rfl rfl rfl rfl (Nat.le_of_ble_eq_true rfl) dX5_bent_5 ⟨Nat.le_refl _, Nat.le_refl _⟩) (fun r_5 H locs hw hX => ?_)
  subst hw
  refine xr_if_neB (tgt := 18) E dX5_bent_8 (by decide) (fun c_8 => ?_) (fun c_8 => ?_)
  · have c_8 := of_decide_eq_true c_8
    refine xr_aload_n E hl 0 rfl dX5_bent_18 rfl ?_
    refine xr_get E hX 0 rfl rfl ly_X5 1 (by decide) fl_X5_19 rfl dX5_bent_19 ?_
    refine xr_aload_n E hl 0 rfl dX5_bent_22 rfl ?_
    refine xr_get E hX 0 rfl rfl ly_X5 0 (by decide) fl_X5_12 rfl dX5_bent_23 ?_
    refine xk_i (W2 := fun uu => (W_XFD y hXo hF a_ind a_tot a_pri hD hB a_low a_high a_ll a_lh a_bnd a_gap a_costs a_ways a_stc a_row hP hT a_rfs a_shs ind tot pri q fr li sh uu.1 uu.2.1 uu.2.2.1 uu.2.2.2.1 uu.2.2.2.2.1 uu.2.2.2.2.2.1 uu.2.2.2.2.2.2.1 uu.2.2.2.2.2.2.2.1 uu.2.2.2.2.2.2.2.2.1 uu.2.2.2.2.2.2.2.2.2.1 uu.2.2.2.2.2.2.2.2.2.2.1 uu.2.2.2.2.2.2.2.2.2.2.2.1 uu.2.2.2.2.2.2.2.2.2.2.2.2.1 uu.2.2.2.2.2.2.2.2.2.2.2.2.2.1 uu.2.2.2.2.2.2.2.2.2.2.2.2.2.2.1 uu.2.2.2.2.2.2.2.2.2.2.2.2.2.2.2.1 uu.2.2.2.2.2.2.2.2.2.2.2.2.2.2.2.2 rfs)) E hX [5, 6, 7, 8, 9, 10, 11, 12, 13, 14, 15, 16, 1, 2, 3, 4] rfl (xv_V (As := [.ref hF]) E hX hl (c_X0_bends l D y z _ hD hB a_low a_high a_ll a_lh a_bnd a_gap a_costs a_ways a_stc a_row hF a_ind a_tot a_pri low high ll lh bnd gap bq costs ways stc bc bw bs kn th row rows ind tot pri q fr li sh H_I H_K) ml_X5_104 im_X0_bends se_X0_bends in_X0 co_X0_bends 1 (by decide) ⟨rfl, rfl⟩ ⟨Nat.le_of_ble_eq_true rfl, Nat.le_of_ble_eq_true rfl⟩ [5, 6, 7, 8, 9, 10, 11, 12, 13, 14, 15, 16, 1, 2, 3, 4] rfl rfl 5 rfl rfl rfl rfl rfl (Nat.le_of_ble_eq_true rfl) dX5_bent_26 ⟨Nat.le_refl _, Nat.le_refl _⟩) [16, 12, 13, 14, 15, 0, 1, 2, 3, 4, 5, 6, 7, 8, 9, 10, 11, 33] 16 (fun _ => rfl) (fun _ => rfl) (by decide) (by decide) (fun r_26 uu H locs hw hX => ?_)
    obtain ⟨low_26, high_26, ll_26, lh_26, bnd_26, gap_26, bq_26, costs_26, ways_26, stc_26, bc_26, bw_26, bs_26, kn_26, th_26, row_26, rows_26⟩ := uu
    have hX : XW D A s.heap (W_XFD y hXo hF a_ind a_tot a_pri hD hB a_low a_high a_ll a_lh a_bnd a_gap a_costs a_ways a_stc a_row hP hT a_rfs a_shs ind tot pri q fr li sh low_26 high_26 ll_26 lh_26 bnd_26 gap_26 bq_26 costs_26 ways_26 stc_26 bc_26 bw_26 bs_26 kn_26 th_26 row_26 rows_26 rfs) H locs := hX
    try dsimp only at hw
    obtain ⟨rfl, hp_26⟩ := hw
    have hk : KOk ind tot pri q fr li sh kn_26 th_26 row_26 rows_26 := fun _ => ⟨hp_26.2.1, fun h => hp_26.2.2 (by rw [← hp_26.2.1]; exact h)⟩
    refine xr_if_neB (tgt := 39) E dX5_bent_29 (by decide) (fun c_29 => ?_) (fun c_29 => ?_)
    · have c_29 := c_29
      refine xr_aload_n E hl 0 rfl dX5_bent_39 rfl ?_
      refine xr_get E hX 0 rfl rfl ly_X5 1 (by decide) fl_X5_19 rfl dX5_bent_40 ?_
      refine xr_get E hX 5 rfl rfl ly_X0 9 (by decide) fl_X5_108 rfl dX5_bent_43 ?_
      refine xr_iload_n E hl 1 rfl dX5_bent_46 rfl ?_
      refine xr_iald E hX 16 rfl (by omega) (by omega) (by decide) dX5_bent_47 ?_
      refine xr_bipush E dX5_bent_48 (by decide) ?_
      refine xr_iadd E dX5_bent_50 ?_
      exact xr_iret E hX hQ (low_26, high_26, ll_26, lh_26, bnd_26, gap_26, bq_26, costs_26, ways_26, stc_26, bc_26, bw_26, bs_26, kn_26, th_26, row_26, rows_26, rfs) hr ⟨by unfold xqBe; rw [if_pos (by omega), if_pos c_29, (hp_26.2.2 c_29).1 t (by omega) (by omega)], hk, by unfold rqBe; rw [if_pos (by omega), if_pos c_29]⟩ rfl dX5_bent_51
    · have c_29 := c_29
      refine xr_aload_n E hl 0 rfl dX5_bent_32 rfl ?_
      refine xr_bipush E dX5_bent_33 (by decide) ?_
      refine xk_i (W2 := fun uu => (W_XFD y hXo hF a_ind a_tot a_pri hD hB a_low a_high a_ll a_lh a_bnd a_gap a_costs a_ways a_stc a_row hP hT a_rfs a_shs ind tot pri q fr li sh low_26 high_26 ll_26 lh_26 bnd_26 gap_26 bq_26 costs_26 ways_26 stc_26 bc_26 bw_26 bs_26 kn_26 th_26 row_26 rows_26 uu)) E hX [0, 17] rfl (xv_V (As := [.int (iI (-3))]) E hX hl (c_X5_refuses l D y z _ hXo hF hD hP hT a_rfs a_shs rfs (-3) (by omega)) ml_X5_89 im_X5_refuses se_X5_refuses in_X5 co_X5_refuses 1 (by decide) ⟨rfl, rfl⟩ ⟨Nat.le_of_ble_eq_true rfl, Nat.le_of_ble_eq_true rfl⟩ [0, 17] rfl rfl 0 rfl rfl rfl rfl rfl (Nat.le_of_ble_eq_true rfl) dX5_bent_35 ⟨Nat.le_refl _, Nat.le_refl _⟩) [0, 3, 4, 5, 6, 7, 8, 9, 10, 11, 12, 13, 14, 15, 16, 17, 18, 1] 2 (fun _ => rfl) (fun _ => rfl) (by decide) (by decide) (fun r_35 uu H locs hw hX => ?_)
      obtain ⟨rfl, rfl⟩ := hw
      have hX : XW D A s.heap (W_XFD y hXo hF a_ind a_tot a_pri hD hB a_low a_high a_ll a_lh a_bnd a_gap a_costs a_ways a_stc a_row hP hT a_rfs a_shs ind tot pri q fr li sh low_26 high_26 ll_26 lh_26 bnd_26 gap_26 bq_26 costs_26 ways_26 stc_26 bc_26 bw_26 bs_26 kn_26 th_26 row_26 rows_26 (rfU rfs (-3))) H locs := hX
      exact xr_iret E hX hQ (low_26, high_26, ll_26, lh_26, bnd_26, gap_26, bq_26, costs_26, ways_26, stc_26, bc_26, bw_26, bs_26, kn_26, th_26, row_26, rows_26, rfU rfs (-3)) hr ⟨by unfold xqBe; rw [if_pos (by omega), if_neg (by rw [c_29]; decide)], hk, by unfold rqBe; rw [if_pos (by omega), if_neg (by rw [c_29]; decide)]⟩ rfl dX5_bent_38
  · have c_8 := of_decide_eq_false c_8
    refine xr_aload_n E hl 0 rfl dX5_bent_11 rfl ?_
    refine xr_bipush E dX5_bent_12 (by decide) ?_
    refine xk_i (W2 := fun uu => (W_XFD y hXo hF a_ind a_tot a_pri hD hB a_low a_high a_ll a_lh a_bnd a_gap a_costs a_ways a_stc a_row hP hT a_rfs a_shs ind tot pri q fr li sh low high ll lh bnd gap bq costs ways stc bc bw bs kn th row rows uu)) E hX [0, 17] rfl (xv_V (As := [.int (iI (-2))]) E hX hl (c_X5_refuses l D y z _ hXo hF hD hP hT a_rfs a_shs rfs (-2) (by omega)) ml_X5_89 im_X5_refuses se_X5_refuses in_X5 co_X5_refuses 1 (by decide) ⟨rfl, rfl⟩ ⟨Nat.le_of_ble_eq_true rfl, Nat.le_of_ble_eq_true rfl⟩ [0, 17] rfl rfl 0 rfl rfl rfl rfl rfl (Nat.le_of_ble_eq_true rfl) dX5_bent_14 ⟨Nat.le_refl _, Nat.le_refl _⟩) [0, 3, 4, 5, 6, 7, 8, 9, 10, 11, 12, 13, 14, 15, 16, 17, 18, 1] 2 (fun _ => rfl) (fun _ => rfl) (by decide) (by decide) (fun r_14 uu H locs hw hX => ?_)
    obtain ⟨rfl, rfl⟩ := hw
    have hX : XW D A s.heap (W_XFD y hXo hF a_ind a_tot a_pri hD hB a_low a_high a_ll a_lh a_bnd a_gap a_costs a_ways a_stc a_row hP hT a_rfs a_shs ind tot pri q fr li sh low high ll lh bnd gap bq costs ways stc bc bw bs kn th row rows (rfU rfs (-2))) H locs := hX
    exact xr_iret E hX hQ (low, high, ll, lh, bnd, gap, bq, costs, ways, stc, bc, bw, bs, kn, th, row, rows, rfU rfs (-2)) hr ⟨by unfold xqBe; rw [if_neg (by omega)], H_K, by unfold rqBe; rw [if_neg (by omega)]⟩ rfl dX5_bent_17
def xqMo (ind tot pri : Int → Int) (q fr li sh k : Int) : Int := if 0 ≤ k ∧ k ≤ 1 then (if xMt ind tot pri q fr li (-1) = true then xMoved ind (xRow ind tot pri q fr li sh) q k else -3) else -2
def rqMo (ind tot pri : Int → Int) (q fr li : Int) (rfs : Int → Int) (k : Int) : Int → Int := if 0 ≤ k ∧ k ≤ 1 then (if xMt ind tot pri q fr li (-1) = true then rfs else rfU rfs (-3)) else rfU rfs (-2)
abbrev rm_X5_moved : Room := { frames := 4, cells := 0, slots := 0, locals := 107 }
set_option maxHeartbeats 4000000 in
set_option maxRecDepth 100000 in
theorem c_X5_moved (l : Launch) (D : va_G) (y : CY) (z sz : Nat) (hXo hF a_ind a_tot a_pri hD hB a_low a_high a_ll a_lh a_bnd a_gap a_costs a_ways a_stc a_row hP hT a_rfs a_shs : Nat) (ind : Int → Int) (tot : Int → Int) (pri : Int → Int) (q : Int) (fr : Int) (li : Int) (sh : Int) (low : Int → Int) (high : Int → Int) (ll : Int → Int) (lh : Int → Int) (bnd : Int → Bool) (gap : Int → Int) (bq : Int) (costs : Int → Int) (ways : Int → Int) (stc : Int → Int) (bc : Int) (bw : Int) (bs : Int) (kn : Bool) (th : Bool) (row : Int → Int) (rows : Int) (rfs : Int → Int) (k : Int) (H_I : FI ind tot pri q fr li sh) (H_K : KOk ind tot pri q fr li sh kn th row rows) (hk0 : sm k) : Met l yX5_moved (Cond.code yX5_moved cX5_moved 2 (some .long) :: TW) rm_X5_moved (va_Pc [.ref hXo, .int (iI k)] (PX D y z (W_XFD y hXo hF a_ind a_tot a_pri hD hB a_low a_high a_ll a_lh a_bnd a_gap a_costs a_ways a_stc a_row hP hT a_rfs a_shs ind tot pri q fr li sh low high ll lh bnd gap bq costs ways stc bc bw bs kn th row rows rfs) sz)) (va_Ql (fun (r : Int64) (uu : (Int → Int) × (Int → Int) × (Int → Int) × (Int → Int) × (Int → Bool) × (Int → Int) × (Int) × (Int → Int) × (Int → Int) × (Int → Int) × (Int) × (Int) × (Int) × (Bool) × (Bool) × (Int → Int) × (Int) × (Int → Int)) => r = lI (xqMo ind tot pri q fr li sh k) ∧ KOk ind tot pri q fr li sh uu.2.2.2.2.2.2.2.2.2.2.2.2.2.1 uu.2.2.2.2.2.2.2.2.2.2.2.2.2.2.1 uu.2.2.2.2.2.2.2.2.2.2.2.2.2.2.2.1 uu.2.2.2.2.2.2.2.2.2.2.2.2.2.2.2.2.1 ∧ uu.2.2.2.2.2.2.2.2.2.2.2.2.2.2.2.2.2 = rqMo ind tot pri q fr li rfs k) (fun uu t => BX D (W_XFD y hXo hF a_ind a_tot a_pri hD hB a_low a_high a_ll a_lh a_bnd a_gap a_costs a_ways a_stc a_row hP hT a_rfs a_shs ind tot pri q fr li sh uu.1 uu.2.1 uu.2.2.1 uu.2.2.2.1 uu.2.2.2.2.1 uu.2.2.2.2.2.1 uu.2.2.2.2.2.2.1 uu.2.2.2.2.2.2.2.1 uu.2.2.2.2.2.2.2.2.1 uu.2.2.2.2.2.2.2.2.2.1 uu.2.2.2.2.2.2.2.2.2.2.1 uu.2.2.2.2.2.2.2.2.2.2.2.1 uu.2.2.2.2.2.2.2.2.2.2.2.2.1 uu.2.2.2.2.2.2.2.2.2.2.2.2.2.1 uu.2.2.2.2.2.2.2.2.2.2.2.2.2.2.1 uu.2.2.2.2.2.2.2.2.2.2.2.2.2.2.2.1 uu.2.2.2.2.2.2.2.2.2.2.2.2.2.2.2.2.1 uu.2.2.2.2.2.2.2.2.2.2.2.2.2.2.2.2.2) (va_A (W_XFD y hXo hF a_ind a_tot a_pri hD hB a_low a_high a_ll a_lh a_bnd a_gap a_costs a_ways a_stc a_row hP hT a_rfs a_shs ind tot pri q fr li sh low high ll lh bnd gap bq costs ways stc bc bw bs kn th row rows rfs) sz) t) (va_A (W_XFD y hXo hF a_ind a_tot a_pri hD hB a_low a_high a_ll a_lh a_bnd a_gap a_costs a_ways a_stc a_row hP hT a_rfs a_shs ind tot pri q fr li sh low high ll lh bnd gap bq costs ways stc bc bw bs kn th row rows rfs) sz)) 0 0 (va_A (W_XFD y hXo hF a_ind a_tot a_pri hD hB a_low a_high a_ll a_lh a_bnd a_gap a_costs a_ways a_stc a_row hP hT a_rfs a_shs ind tot pri q fr li sh low high ll lh bnd gap bq costs ways stc bc bw bs kn th row rows rfs) sz) := by
  refine xm_l (by decide) (Nat.le_of_ble_eq_true rfl) (fun p e s m args below meth cX ls A Q E hr hnm hX hl hQ => ?_)
  have hl : lv_has ls 2 [(0, .ref hXo), (1, .int (iI k))] := hl
  have hq := H_I.q
  have hfr := H_I.fr
  have hli := H_I.li
  have hsh := H_I.sh
  refine xr_iload_n E hl 1 rfl dX5_moved_0 rfl ?_
  refine xk_ri E hX [] rfl (xv_S (As := [.int (iI k)]) E hX hl (c_X5_isForm l D y z _ k ⟨by omega, by omega⟩) ml_X5_111 st_X5_isForm in_X5 co_X5_isForm 1 (by decide) ⟨rfl, rfl⟩ ⟨Nat.le_of_ble_eq_true rfl, Nat.le_of_ble_eq_true rfl⟩ [] rfl rfl rfl rfl (Nat.le_of_ble_eq_true rfl) dX5_moved_1 ⟨Nat.le_refl _, Nat.le_refl _⟩) (fun r_1 H locs hw hX => ?_)
  subst hw
  refine xr_if_neB (tgt := 15) E dX5_moved_4 (by decide) (fun c_4 => ?_) (fun c_4 => ?_)
  · have c_4 := of_decide_eq_true c_4
    refine xr_aload_n E hl 0 rfl dX5_moved_15 rfl ?_
    refine xr_get E hX 0 rfl rfl ly_X5 1 (by decide) fl_X5_19 rfl dX5_moved_16 ?_
    refine xr_aload_n E hl 0 rfl dX5_moved_19 rfl ?_
    refine xr_get E hX 0 rfl rfl ly_X5 0 (by decide) fl_X5_12 rfl dX5_moved_20 ?_
    refine xk_i (W2 := fun uu => (W_XFD y hXo hF a_ind a_tot a_pri hD hB a_low a_high a_ll a_lh a_bnd a_gap a_costs a_ways a_stc a_row hP hT a_rfs a_shs ind tot pri q fr li sh uu.1 uu.2.1 uu.2.2.1 uu.2.2.2.1 uu.2.2.2.2.1 uu.2.2.2.2.2.1 uu.2.2.2.2.2.2.1 uu.2.2.2.2.2.2.2.1 uu.2.2.2.2.2.2.2.2.1 uu.2.2.2.2.2.2.2.2.2.1 uu.2.2.2.2.2.2.2.2.2.2.1 uu.2.2.2.2.2.2.2.2.2.2.2.1 uu.2.2.2.2.2.2.2.2.2.2.2.2.1 uu.2.2.2.2.2.2.2.2.2.2.2.2.2.1 uu.2.2.2.2.2.2.2.2.2.2.2.2.2.2.1 uu.2.2.2.2.2.2.2.2.2.2.2.2.2.2.2.1 uu.2.2.2.2.2.2.2.2.2.2.2.2.2.2.2.2 rfs)) E hX [5, 6, 7, 8, 9, 10, 11, 12, 13, 14, 15, 16, 1, 2, 3, 4] rfl (xv_V (As := [.ref hF]) E hX hl (c_X0_bends l D y z _ hD hB a_low a_high a_ll a_lh a_bnd a_gap a_costs a_ways a_stc a_row hF a_ind a_tot a_pri low high ll lh bnd gap bq costs ways stc bc bw bs kn th row rows ind tot pri q fr li sh H_I H_K) ml_X5_104 im_X0_bends se_X0_bends in_X0 co_X0_bends 1 (by decide) ⟨rfl, rfl⟩ ⟨Nat.le_of_ble_eq_true rfl, Nat.le_of_ble_eq_true rfl⟩ [5, 6, 7, 8, 9, 10, 11, 12, 13, 14, 15, 16, 1, 2, 3, 4] rfl rfl 5 rfl rfl rfl rfl rfl (Nat.le_of_ble_eq_true rfl) dX5_moved_23 ⟨Nat.le_refl _, Nat.le_refl _⟩) [16, 12, 13, 14, 15, 0, 1, 2, 3, 4, 5, 6, 7, 8, 9, 10, 11, 33] 16 (fun _ => rfl) (fun _ => rfl) (by decide) (by decide) (fun r_23 uu H locs hw hX => ?_)
    obtain ⟨low_23, high_23, ll_23, lh_23, bnd_23, gap_23, bq_23, costs_23, ways_23, stc_23, bc_23, bw_23, bs_23, kn_23, th_23, row_23, rows_23⟩ := uu
    have hX : XW D A s.heap (W_XFD y hXo hF a_ind a_tot a_pri hD hB a_low a_high a_ll a_lh a_bnd a_gap a_costs a_ways a_stc a_row hP hT a_rfs a_shs ind tot pri q fr li sh low_23 high_23 ll_23 lh_23 bnd_23 gap_23 bq_23 costs_23 ways_23 stc_23 bc_23 bw_23 bs_23 kn_23 th_23 row_23 rows_23 rfs) H locs := hX
    try dsimp only at hw
    obtain ⟨rfl, hp_23⟩ := hw
    have hk : KOk ind tot pri q fr li sh kn_23 th_23 row_23 rows_23 := fun _ => ⟨hp_23.2.1, fun h => hp_23.2.2 (by rw [← hp_23.2.1]; exact h)⟩
    refine xr_if_neB (tgt := 37) E dX5_moved_26 (by decide) (fun c_26 => ?_) (fun c_26 => ?_)
    · have c_26 := c_26
      refine xr_aload_n E hl 0 rfl dX5_moved_37 rfl ?_
      refine xr_get E hX 0 rfl rfl ly_X5 0 (by decide) fl_X5_12 rfl dX5_moved_38 ?_
      refine xr_aload_n E hl 0 rfl dX5_moved_41 rfl ?_
      refine xr_get E hX 0 rfl rfl ly_X5 1 (by decide) fl_X5_19 rfl dX5_moved_42 ?_
      refine xr_get E hX 5 rfl rfl ly_X0 9 (by decide) fl_X5_108 rfl dX5_moved_45 ?_
      refine xr_iload_n E hl 1 rfl dX5_moved_48 rfl ?_
      refine xk_rl E hX [1, 2, 3, 4, 16] rfl (xv_V (As := [.ref a_row, .int (iI k)]) E hX hl (c_X2_movement l D y z _ hF a_ind a_tot a_pri a_row ind tot pri q fr li sh row_23 k H_I (fun t h0 h1 => by rw [(hp_23.2.2 c_26).1 t h0 h1]; have h9 := xRow_bd (sh := sh) H_I hli c_26 h0 h1; omega) ⟨by omega, by omega⟩) ml_X5_114 im_X2_movement se_X2_movement in_X2 co_X2_movement 2 (by decide) ⟨rfl, rfl⟩ ⟨Nat.le_of_ble_eq_true rfl, Nat.le_of_ble_eq_true rfl⟩ [1, 2, 3, 4, 16] rfl rfl 1 rfl rfl rfl rfl rfl (Nat.le_of_ble_eq_true rfl) dX5_moved_49 ⟨Nat.le_refl _, Nat.le_refl _⟩) (fun r_49 H locs hw hX => ?_)
      subst hw
      exact xr_lret E hX hQ (low_23, high_23, ll_23, lh_23, bnd_23, gap_23, bq_23, costs_23, ways_23, stc_23, bc_23, bw_23, bs_23, kn_23, th_23, row_23, rows_23, rfs) hr ⟨by unfold xqMo; rw [if_pos (by omega), if_pos c_26, xMoved_cong (hp_23.2.2 c_26).1], hk, by unfold rqMo; rw [if_pos (by omega), if_pos c_26]⟩ rfl dX5_moved_52
    · have c_26 := c_26
      refine xr_aload_n E hl 0 rfl dX5_moved_29 rfl ?_
      refine xr_bipush E dX5_moved_30 (by decide) ?_
      refine xk_i (W2 := fun uu => (W_XFD y hXo hF a_ind a_tot a_pri hD hB a_low a_high a_ll a_lh a_bnd a_gap a_costs a_ways a_stc a_row hP hT a_rfs a_shs ind tot pri q fr li sh low_23 high_23 ll_23 lh_23 bnd_23 gap_23 bq_23 costs_23 ways_23 stc_23 bc_23 bw_23 bs_23 kn_23 th_23 row_23 rows_23 uu)) E hX [0, 17] rfl (xv_V (As := [.int (iI (-3))]) E hX hl (c_X5_refuses l D y z _ hXo hF hD hP hT a_rfs a_shs rfs (-3) (by omega)) ml_X5_89 im_X5_refuses se_X5_refuses in_X5 co_X5_refuses 1 (by decide) ⟨rfl, rfl⟩ ⟨Nat.le_of_ble_eq_true rfl, Nat.le_of_ble_eq_true rfl⟩ [0, 17] rfl rfl 0 rfl rfl rfl rfl rfl (Nat.le_of_ble_eq_true rfl) dX5_moved_32 ⟨Nat.le_refl _, Nat.le_refl _⟩) [0, 3, 4, 5, 6, 7, 8, 9, 10, 11, 12, 13, 14, 15, 16, 17, 18, 1] 2 (fun _ => rfl) (fun _ => rfl) (by decide) (by decide) (fun r_32 uu H locs hw hX => ?_)
      obtain ⟨rfl, rfl⟩ := hw
      have hX : XW D A s.heap (W_XFD y hXo hF a_ind a_tot a_pri hD hB a_low a_high a_ll a_lh a_bnd a_gap a_costs a_ways a_stc a_row hP hT a_rfs a_shs ind tot pri q fr li sh low_23 high_23 ll_23 lh_23 bnd_23 gap_23 bq_23 costs_23 ways_23 stc_23 bc_23 bw_23 bs_23 kn_23 th_23 row_23 rows_23 (rfU rfs (-3))) H locs := hX
      refine xr_i2l E dX5_moved_35 (by decide) ?_
      exact xr_lret E hX hQ (low_23, high_23, ll_23, lh_23, bnd_23, gap_23, bq_23, costs_23, ways_23, stc_23, bc_23, bw_23, bs_23, kn_23, th_23, row_23, rows_23, rfU rfs (-3)) hr ⟨by unfold xqMo; rw [if_pos (by omega), if_neg (by rw [c_26]; decide)], hk, by unfold rqMo; rw [if_pos (by omega), if_neg (by rw [c_26]; decide)]⟩ rfl dX5_moved_36
  · have c_4 := of_decide_eq_false c_4
    refine xr_aload_n E hl 0 rfl dX5_moved_7 rfl ?_
    refine xr_bipush E dX5_moved_8 (by decide) ?_
    refine xk_i (W2 := fun uu => (W_XFD y hXo hF a_ind a_tot a_pri hD hB a_low a_high a_ll a_lh a_bnd a_gap a_costs a_ways a_stc a_row hP hT a_rfs a_shs ind tot pri q fr li sh low high ll lh bnd gap bq costs ways stc bc bw bs kn th row rows uu)) E hX [0, 17] rfl (xv_V (As := [.int (iI (-2))]) E hX hl (c_X5_refuses l D y z _ hXo hF hD hP hT a_rfs a_shs rfs (-2) (by omega)) ml_X5_89 im_X5_refuses se_X5_refuses in_X5 co_X5_refuses 1 (by decide) ⟨rfl, rfl⟩ ⟨Nat.le_of_ble_eq_true rfl, Nat.le_of_ble_eq_true rfl⟩ [0, 17] rfl rfl 0 rfl rfl rfl rfl rfl (Nat.le_of_ble_eq_true rfl) dX5_moved_10 ⟨Nat.le_refl _, Nat.le_refl _⟩) [0, 3, 4, 5, 6, 7, 8, 9, 10, 11, 12, 13, 14, 15, 16, 17, 18, 1] 2 (fun _ => rfl) (fun _ => rfl) (by decide) (by decide) (fun r_10 uu H locs hw hX => ?_)
    obtain ⟨rfl, rfl⟩ := hw
    have hX : XW D A s.heap (W_XFD y hXo hF a_ind a_tot a_pri hD hB a_low a_high a_ll a_lh a_bnd a_gap a_costs a_ways a_stc a_row hP hT a_rfs a_shs ind tot pri q fr li sh low high ll lh bnd gap bq costs ways stc bc bw bs kn th row rows (rfU rfs (-2))) H locs := hX
    refine xr_i2l E dX5_moved_13 (by decide) ?_
    exact xr_lret E hX hQ (low, high, ll, lh, bnd, gap, bq, costs, ways, stc, bc, bw, bs, kn, th, row, rows, rfU rfs (-2)) hr ⟨by unfold xqMo; rw [if_neg (by omega)], H_K, by unfold rqMo; rw [if_neg (by omega)]⟩ rfl dX5_moved_14
abbrev rm_X5_revision : Room := { frames := 1, cells := 0, slots := 0, locals := 30 }
set_option maxHeartbeats 4000000 in
set_option maxRecDepth 100000 in
theorem c_X5_revision (l : Launch) (D : va_G) (y : CY) (z sz : Nat) (hXo hF a_ind a_tot a_pri hD hB a_low a_high a_ll a_lh a_bnd a_gap a_costs a_ways a_stc a_row hP hT a_rfs a_shs : Nat) (ind : Int → Int) (tot : Int → Int) (pri : Int → Int) (q : Int) (fr : Int) (li : Int) (sh : Int) (low : Int → Int) (high : Int → Int) (ll : Int → Int) (lh : Int → Int) (bnd : Int → Bool) (gap : Int → Int) (bq : Int) (costs : Int → Int) (ways : Int → Int) (stc : Int → Int) (bc : Int) (bw : Int) (bs : Int) (kn : Bool) (th : Bool) (row : Int → Int) (rows : Int) (rfs : Int → Int) (t : Int) (ht : 0 ≤ t ∧ t < 12) (hr1 : -2000 ≤ row t ∧ row t ≤ 2000) (hr2 : -2000 ≤ pri t ∧ pri t ≤ 2000) : Met l yX5_revision (Cond.code yX5_revision cX5_revision 2 (some .int) :: TW) rm_X5_revision (va_Pc [.ref hXo, .int (iI t)] (PX D y z (W_XFD y hXo hF a_ind a_tot a_pri hD hB a_low a_high a_ll a_lh a_bnd a_gap a_costs a_ways a_stc a_row hP hT a_rfs a_shs ind tot pri q fr li sh low high ll lh bnd gap bq costs ways stc bc bw bs kn th row rows rfs) sz)) (va_Qi (fun (r : Int32) (uu : Unit) => r = iI (xRev row pri t)) (fun uu t => BX D (W_XFD y hXo hF a_ind a_tot a_pri hD hB a_low a_high a_ll a_lh a_bnd a_gap a_costs a_ways a_stc a_row hP hT a_rfs a_shs ind tot pri q fr li sh low high ll lh bnd gap bq costs ways stc bc bw bs kn th row rows rfs) (va_A (W_XFD y hXo hF a_ind a_tot a_pri hD hB a_low a_high a_ll a_lh a_bnd a_gap a_costs a_ways a_stc a_row hP hT a_rfs a_shs ind tot pri q fr li sh low high ll lh bnd gap bq costs ways stc bc bw bs kn th row rows rfs) sz) t) (va_A (W_XFD y hXo hF a_ind a_tot a_pri hD hB a_low a_high a_ll a_lh a_bnd a_gap a_costs a_ways a_stc a_row hP hT a_rfs a_shs ind tot pri q fr li sh low high ll lh bnd gap bq costs ways stc bc bw bs kn th row rows rfs) sz)) 0 0 (va_A (W_XFD y hXo hF a_ind a_tot a_pri hD hB a_low a_high a_ll a_lh a_bnd a_gap a_costs a_ways a_stc a_row hP hT a_rfs a_shs ind tot pri q fr li sh low high ll lh bnd gap bq costs ways stc bc bw bs kn th row rows rfs) sz) := by
  refine xm_i (by decide) (Nat.le_of_ble_eq_true rfl) (fun p e s m args below meth cX ls A Q E hr hnm hX hl hQ => ?_)
  have hl : lv_has ls 2 [(0, .ref hXo), (1, .int (iI t))] := hl
  refine xr_aload_n E hl 0 rfl dX5_revision_0 rfl ?_
  refine xr_get E hX 0 rfl rfl ly_X5 1 (by decide) fl_X5_19 rfl dX5_revision_1 ?_
  refine xr_get E hX 5 rfl rfl ly_X0 9 (by decide) fl_X5_108 rfl dX5_revision_4 ?_
  refine xr_iload_n E hl 1 rfl dX5_revision_7 rfl ?_
  refine xr_iald E hX 16 rfl (by omega) (by omega) (by decide) dX5_revision_8 ?_
  refine xr_bipush E dX5_revision_9 (by decide) ?_
  refine xr_iadd E dX5_revision_11 ?_
  refine xr_aload_n E hl 0 rfl dX5_revision_12 rfl ?_
  refine xr_get E hX 0 rfl rfl ly_X5 0 (by decide) fl_X5_12 rfl dX5_revision_13 ?_
  refine xr_get E hX 1 rfl rfl ly_X2 2 (by decide) fl_X5_211 rfl dX5_revision_16 ?_
  refine xr_iload_n E hl 1 rfl dX5_revision_19 rfl ?_
  refine xr_iald E hX 4 rfl (by omega) (by omega) (by decide) dX5_revision_20 ?_
  refine xr_isub E dX5_revision_21 ?_
  refine xr_abs E hl ml_X5_214 dX5_revision_22 ⟨Nat.le_of_ble_eq_true rfl, Nat.le_of_ble_eq_true rfl, Nat.zero_le _, Nat.zero_le _⟩ ⟨by omega, by omega⟩ ?_
  exact xr_iret E hX hQ () hr rfl rfl dX5_revision_25
def xqRv (ind tot pri : Int → Int) (q fr li sh t : Int) : Int := if 0 ≤ t ∧ t ≤ q - 1 then (if pri t ≠ -1 ∧ xMt ind tot pri q fr li (-1) = true then xRev (xRow ind tot pri q fr li sh) pri t else -3) else -2
def rqRv (ind tot pri : Int → Int) (q fr li : Int) (rfs : Int → Int) (t : Int) : Int → Int := if 0 ≤ t ∧ t ≤ q - 1 then (if pri t ≠ -1 ∧ xMt ind tot pri q fr li (-1) = true then rfs else rfU rfs (-3)) else rfU rfs (-2)
abbrev rm_X5_revised : Room := { frames := 4, cells := 0, slots := 0, locals := 107 }
set_option maxHeartbeats 4000000 in
set_option maxRecDepth 100000 in
theorem c_X5_revised (l : Launch) (D : va_G) (y : CY) (z sz : Nat) (hXo hF a_ind a_tot a_pri hD hB a_low a_high a_ll a_lh a_bnd a_gap a_costs a_ways a_stc a_row hP hT a_rfs a_shs : Nat) (ind : Int → Int) (tot : Int → Int) (pri : Int → Int) (q : Int) (fr : Int) (li : Int) (sh : Int) (low : Int → Int) (high : Int → Int) (ll : Int → Int) (lh : Int → Int) (bnd : Int → Bool) (gap : Int → Int) (bq : Int) (costs : Int → Int) (ways : Int → Int) (stc : Int → Int) (bc : Int) (bw : Int) (bs : Int) (kn : Bool) (th : Bool) (row : Int → Int) (rows : Int) (rfs : Int → Int) (t : Int) (H_I : FI ind tot pri q fr li sh) (H_K : KOk ind tot pri q fr li sh kn th row rows) (ht : sm t) : Met l yX5_revised (Cond.code yX5_revised cX5_revised 2 (some .int) :: TW) rm_X5_revised (va_Pc [.ref hXo, .int (iI t)] (PX D y z (W_XFD y hXo hF a_ind a_tot a_pri hD hB a_low a_high a_ll a_lh a_bnd a_gap a_costs a_ways a_stc a_row hP hT a_rfs a_shs ind tot pri q fr li sh low high ll lh bnd gap bq costs ways stc bc bw bs kn th row rows rfs) sz)) (va_Qi (fun (r : Int32) (uu : (Int → Int) × (Int → Int) × (Int → Int) × (Int → Int) × (Int → Bool) × (Int → Int) × (Int) × (Int → Int) × (Int → Int) × (Int → Int) × (Int) × (Int) × (Int) × (Bool) × (Bool) × (Int → Int) × (Int) × (Int → Int)) => r = iI (xqRv ind tot pri q fr li sh t) ∧ KOk ind tot pri q fr li sh uu.2.2.2.2.2.2.2.2.2.2.2.2.2.1 uu.2.2.2.2.2.2.2.2.2.2.2.2.2.2.1 uu.2.2.2.2.2.2.2.2.2.2.2.2.2.2.2.1 uu.2.2.2.2.2.2.2.2.2.2.2.2.2.2.2.2.1 ∧ uu.2.2.2.2.2.2.2.2.2.2.2.2.2.2.2.2.2 = rqRv ind tot pri q fr li rfs t) (fun uu t => BX D (W_XFD y hXo hF a_ind a_tot a_pri hD hB a_low a_high a_ll a_lh a_bnd a_gap a_costs a_ways a_stc a_row hP hT a_rfs a_shs ind tot pri q fr li sh uu.1 uu.2.1 uu.2.2.1 uu.2.2.2.1 uu.2.2.2.2.1 uu.2.2.2.2.2.1 uu.2.2.2.2.2.2.1 uu.2.2.2.2.2.2.2.1 uu.2.2.2.2.2.2.2.2.1 uu.2.2.2.2.2.2.2.2.2.1 uu.2.2.2.2.2.2.2.2.2.2.1 uu.2.2.2.2.2.2.2.2.2.2.2.1 uu.2.2.2.2.2.2.2.2.2.2.2.2.1 uu.2.2.2.2.2.2.2.2.2.2.2.2.2.1 uu.2.2.2.2.2.2.2.2.2.2.2.2.2.2.1 uu.2.2.2.2.2.2.2.2.2.2.2.2.2.2.2.1 uu.2.2.2.2.2.2.2.2.2.2.2.2.2.2.2.2.1 uu.2.2.2.2.2.2.2.2.2.2.2.2.2.2.2.2.2) (va_A (W_XFD y hXo hF a_ind a_tot a_pri hD hB a_low a_high a_ll a_lh a_bnd a_gap a_costs a_ways a_stc a_row hP hT a_rfs a_shs ind tot pri q fr li sh low high ll lh bnd gap bq costs ways stc bc bw bs kn th row rows rfs) sz) t) (va_A (W_XFD y hXo hF a_ind a_tot a_pri hD hB a_low a_high a_ll a_lh a_bnd a_gap a_costs a_ways a_stc a_row hP hT a_rfs a_shs ind tot pri q fr li sh low high ll lh bnd gap bq costs ways stc bc bw bs kn th row rows rfs) sz)) 0 0 (va_A (W_XFD y hXo hF a_ind a_tot a_pri hD hB a_low a_high a_ll a_lh a_bnd a_gap a_costs a_ways a_stc a_row hP hT a_rfs a_shs ind tot pri q fr li sh low high ll lh bnd gap bq costs ways stc bc bw bs kn th row rows rfs) sz) := by
  refine xm_i (by decide) (Nat.le_of_ble_eq_true rfl) (fun p e s m args below meth cX ls A Q E hr hnm hX hl hQ => ?_)
  have hl : lv_has ls 2 [(0, .ref hXo), (1, .int (iI t))] := hl
  have hq := H_I.q
  have hfr := H_I.fr
  have hli := H_I.li
  have hsh := H_I.sh
  refine xr_aload_n E hl 0 rfl dX5_revised_0 rfl ?_
  refine xr_get E hX 0 rfl rfl ly_X5 0 (by decide) fl_X5_12 rfl dX5_revised_1 ?_
  refine xr_iload_n E hl 1 rfl dX5_revised_4 rfl ?_
  refine xk_ri E hX [1, 2, 3, 4] rfl (xv_V (As := [.int (iI t)]) E hX hl (c_X2_has l D y z _ hF a_ind a_tot a_pri ind tot pri q fr li sh t ⟨by omega, by omega⟩ ⟨by omega, by omega⟩) ml_X5_81 im_X2_has se_X2_has in_X2 co_X2_has 1 (by decide) ⟨rfl, rfl⟩ ⟨Nat.le_of_ble_eq_true rfl, Nat.le_of_ble_eq_true rfl⟩ [1, 2, 3, 4] rfl rfl 1 rfl rfl rfl rfl rfl (Nat.le_of_ble_eq_true rfl) dX5_revised_5 ⟨Nat.le_refl _, Nat.le_refl _⟩) (fun r_5 H locs hw hX => ?_)
  subst hw
  refine xr_if_neB (tgt := 18) E dX5_revised_8 (by decide) (fun c_8 => ?_) (fun c_8 => ?_)
  · have c_8 := of_decide_eq_true c_8
    refine xr_aload_n E hl 0 rfl dX5_revised_18 rfl ?_
    refine xr_get E hX 0 rfl rfl ly_X5 0 (by decide) fl_X5_12 rfl dX5_revised_19 ?_
    refine xr_iload_n E hl 1 rfl dX5_revised_22 rfl ?_
    refine xk_ri E hX [1, 2, 3, 4] rfl (xv_V (As := [.int (iI t)]) E hX hl (c_X2_isPrinted l D y z _ hF a_ind a_tot a_pri ind tot pri q fr li sh t (by omega) (by have h := H_I.pri (t := t) (by omega) (by omega); exact ⟨by omega, by omega⟩)) ml_X5_118 im_X2_isPrinted se_X2_isPrinted in_X2 co_X2_isPrinted 1 (by decide) ⟨rfl, rfl⟩ ⟨Nat.le_of_ble_eq_true rfl, Nat.le_of_ble_eq_true rfl⟩ [1, 2, 3, 4] rfl rfl 1 rfl rfl rfl rfl rfl (Nat.le_of_ble_eq_true rfl) dX5_revised_23 ⟨Nat.le_refl _, Nat.le_refl _⟩) (fun r_23 H locs hw hX => ?_)
    subst hw
    refine xr_if_eqB (tgt := 43) E dX5_revised_26 (by decide) (fun c_26 => ?_) (fun c_26 => ?_)
    · have c_26 := of_decide_eq_false c_26
      refine xr_aload_n E hl 0 rfl dX5_revised_43 rfl ?_
      refine xr_bipush E dX5_revised_44 (by decide) ?_
      refine xk_i (W2 := fun uu => (W_XFD y hXo hF a_ind a_tot a_pri hD hB a_low a_high a_ll a_lh a_bnd a_gap a_costs a_ways a_stc a_row hP hT a_rfs a_shs ind tot pri q fr li sh low high ll lh bnd gap bq costs ways stc bc bw bs kn th row rows uu)) E hX [0, 17] rfl (xv_V (As := [.int (iI (-3))]) E hX hl (c_X5_refuses l D y z _ hXo hF hD hP hT a_rfs a_shs rfs (-3) (by omega)) ml_X5_89 im_X5_refuses se_X5_refuses in_X5 co_X5_refuses 1 (by decide) ⟨rfl, rfl⟩ ⟨Nat.le_of_ble_eq_true rfl, Nat.le_of_ble_eq_true rfl⟩ [0, 17] rfl rfl 0 rfl rfl rfl rfl rfl (Nat.le_of_ble_eq_true rfl) dX5_revised_46 ⟨Nat.le_refl _, Nat.le_refl _⟩) [0, 3, 4, 5, 6, 7, 8, 9, 10, 11, 12, 13, 14, 15, 16, 17, 18, 1] 2 (fun _ => rfl) (fun _ => rfl) (by decide) (by decide) (fun r_46 uu H locs hw hX => ?_)
      obtain ⟨rfl, rfl⟩ := hw
      have hX : XW D A s.heap (W_XFD y hXo hF a_ind a_tot a_pri hD hB a_low a_high a_ll a_lh a_bnd a_gap a_costs a_ways a_stc a_row hP hT a_rfs a_shs ind tot pri q fr li sh low high ll lh bnd gap bq costs ways stc bc bw bs kn th row rows (rfU rfs (-3))) H locs := hX
      exact xr_iret E hX hQ (low, high, ll, lh, bnd, gap, bq, costs, ways, stc, bc, bw, bs, kn, th, row, rows, rfU rfs (-3)) hr (by first | exact ⟨by unfold xqRv; rw [if_pos (by omega), if_neg (by rw [c_40]; simp)], hk, by unfold rqRv; rw [if_pos (by omega), if_neg (by rw [c_40]; simp)]⟩ | exact ⟨by unfold xqRv; rw [if_pos (by omega), if_neg (fun h => c_26 h.1)], H_K, by unfold rqRv; rw [if_pos (by omega), if_neg (fun h => c_26 h.1)]⟩) rfl dX5_revised_49
    · have c_26 := of_decide_eq_true c_26
      refine xr_aload_n E hl 0 rfl dX5_revised_29 rfl ?_
      refine xr_get E hX 0 rfl rfl ly_X5 1 (by decide) fl_X5_19 rfl dX5_revised_30 ?_
      refine xr_aload_n E hl 0 rfl dX5_revised_33 rfl ?_
      refine xr_get E hX 0 rfl rfl ly_X5 0 (by decide) fl_X5_12 rfl dX5_revised_34 ?_
      refine xk_i (W2 := fun uu => (W_XFD y hXo hF a_ind a_tot a_pri hD hB a_low a_high a_ll a_lh a_bnd a_gap a_costs a_ways a_stc a_row hP hT a_rfs a_shs ind tot pri q fr li sh uu.1 uu.2.1 uu.2.2.1 uu.2.2.2.1 uu.2.2.2.2.1 uu.2.2.2.2.2.1 uu.2.2.2.2.2.2.1 uu.2.2.2.2.2.2.2.1 uu.2.2.2.2.2.2.2.2.1 uu.2.2.2.2.2.2.2.2.2.1 uu.2.2.2.2.2.2.2.2.2.2.1 uu.2.2.2.2.2.2.2.2.2.2.2.1 uu.2.2.2.2.2.2.2.2.2.2.2.2.1 uu.2.2.2.2.2.2.2.2.2.2.2.2.2.1 uu.2.2.2.2.2.2.2.2.2.2.2.2.2.2.1 uu.2.2.2.2.2.2.2.2.2.2.2.2.2.2.2.1 uu.2.2.2.2.2.2.2.2.2.2.2.2.2.2.2.2 rfs)) E hX [5, 6, 7, 8, 9, 10, 11, 12, 13, 14, 15, 16, 1, 2, 3, 4] rfl (xv_V (As := [.ref hF]) E hX hl (c_X0_bends l D y z _ hD hB a_low a_high a_ll a_lh a_bnd a_gap a_costs a_ways a_stc a_row hF a_ind a_tot a_pri low high ll lh bnd gap bq costs ways stc bc bw bs kn th row rows ind tot pri q fr li sh H_I H_K) ml_X5_104 im_X0_bends se_X0_bends in_X0 co_X0_bends 1 (by decide) ⟨rfl, rfl⟩ ⟨Nat.le_of_ble_eq_true rfl, Nat.le_of_ble_eq_true rfl⟩ [5, 6, 7, 8, 9, 10, 11, 12, 13, 14, 15, 16, 1, 2, 3, 4] rfl rfl 5 rfl rfl rfl rfl rfl (Nat.le_of_ble_eq_true rfl) dX5_revised_37 ⟨Nat.le_refl _, Nat.le_refl _⟩) [16, 12, 13, 14, 15, 0, 1, 2, 3, 4, 5, 6, 7, 8, 9, 10, 11, 33] 16 (fun _ => rfl) (fun _ => rfl) (by decide) (by decide) (fun r_37 uu H locs hw hX => ?_)
      obtain ⟨low_37, high_37, ll_37, lh_37, bnd_37, gap_37, bq_37, costs_37, ways_37, stc_37, bc_37, bw_37, bs_37, kn_37, th_37, row_37, rows_37⟩ := uu
      have hX : XW D A s.heap (W_XFD y hXo hF a_ind a_tot a_pri hD hB a_low a_high a_ll a_lh a_bnd a_gap a_costs a_ways a_stc a_row hP hT a_rfs a_shs ind tot pri q fr li sh low_37 high_37 ll_37 lh_37 bnd_37 gap_37 bq_37 costs_37 ways_37 stc_37 bc_37 bw_37 bs_37 kn_37 th_37 row_37 rows_37 rfs) H locs := hX
      try dsimp only at hw
      obtain ⟨rfl, hp_37⟩ := hw
      have hk : KOk ind tot pri q fr li sh kn_37 th_37 row_37 rows_37 := fun _ => ⟨hp_37.2.1, fun h => hp_37.2.2 (by rw [← hp_37.2.1]; exact h)⟩
      refine xr_if_neB (tgt := 50) E dX5_revised_40 (by decide) (fun c_40 => ?_) (fun c_40 => ?_)
      · have c_40 := c_40
        refine xr_aload_n E hl 0 rfl dX5_revised_50 rfl ?_
        refine xr_iload_n E hl 1 rfl dX5_revised_51 rfl ?_
        refine xk_ri E hX [0, 1, 2, 3, 4, 5, 6, 7, 8, 9, 10, 11, 12, 13, 14, 15, 16, 17] rfl (xv_V (As := [.int (iI t)]) E hX hl (c_X5_revision l D y z _ hXo hF a_ind a_tot a_pri hD hB a_low a_high a_ll a_lh a_bnd a_gap a_costs a_ways a_stc a_row hP hT a_rfs a_shs ind tot pri q fr li sh low_37 high_37 ll_37 lh_37 bnd_37 gap_37 bq_37 costs_37 ways_37 stc_37 bc_37 bw_37 bs_37 kn_37 th_37 row_37 rows_37 rfs t (by omega) (by rw [(hp_37.2.2 c_40).1 t (by omega) (by omega)]; have h9 := xRow_bd (sh := sh) (t := t) H_I hli c_40 (by omega) (by omega); omega) (by have h := H_I.pri (t := t) (by omega) (by omega); omega)) ml_X5_121 im_X5_revision se_X5_revision in_X5 co_X5_revision 1 (by decide) ⟨rfl, rfl⟩ ⟨Nat.le_of_ble_eq_true rfl, Nat.le_of_ble_eq_true rfl⟩ [0, 1, 2, 3, 4, 5, 6, 7, 8, 9, 10, 11, 12, 13, 14, 15, 16, 17] rfl rfl 0 rfl rfl rfl rfl rfl (Nat.le_of_ble_eq_true rfl) dX5_revised_52 ⟨Nat.le_refl _, Nat.le_refl _⟩) (fun r_52 H locs hw hX => ?_)
        subst hw
        exact xr_iret E hX hQ (low_37, high_37, ll_37, lh_37, bnd_37, gap_37, bq_37, costs_37, ways_37, stc_37, bc_37, bw_37, bs_37, kn_37, th_37, row_37, rows_37, rfs) hr ⟨by unfold xqRv; rw [if_pos (by omega), if_pos ⟨c_26, c_40⟩]; unfold xRev; rw [(hp_37.2.2 c_40).1 t (by omega) (by omega)], hk, by unfold rqRv; rw [if_pos (by omega), if_pos ⟨c_26, c_40⟩]⟩ rfl dX5_revised_55
      · have c_40 := c_40
        refine xr_aload_n E hl 0 rfl dX5_revised_43 rfl ?_
        refine xr_bipush E dX5_revised_44 (by decide) ?_
        refine xk_i (W2 := fun uu => (W_XFD y hXo hF a_ind a_tot a_pri hD hB a_low a_high a_ll a_lh a_bnd a_gap a_costs a_ways a_stc a_row hP hT a_rfs a_shs ind tot pri q fr li sh low_37 high_37 ll_37 lh_37 bnd_37 gap_37 bq_37 costs_37 ways_37 stc_37 bc_37 bw_37 bs_37 kn_37 th_37 row_37 rows_37 uu)) E hX [0, 17] rfl (xv_V (As := [.int (iI (-3))]) E hX hl (c_X5_refuses l D y z _ hXo hF hD hP hT a_rfs a_shs rfs (-3) (by omega)) ml_X5_89 im_X5_refuses se_X5_refuses in_X5 co_X5_refuses 1 (by decide) ⟨rfl, rfl⟩ ⟨Nat.le_of_ble_eq_true rfl, Nat.le_of_ble_eq_true rfl⟩ [0, 17] rfl rfl 0 rfl rfl rfl rfl rfl (Nat.le_of_ble_eq_true rfl) dX5_revised_46 ⟨Nat.le_refl _, Nat.le_refl _⟩) [0, 3, 4, 5, 6, 7, 8, 9, 10, 11, 12, 13, 14, 15, 16, 17, 18, 1] 2 (fun _ => rfl) (fun _ => rfl) (by decide) (by decide) (fun r_46 uu H locs hw hX => ?_)
        obtain ⟨rfl, rfl⟩ := hw
        have hX : XW D A s.heap (W_XFD y hXo hF a_ind a_tot a_pri hD hB a_low a_high a_ll a_lh a_bnd a_gap a_costs a_ways a_stc a_row hP hT a_rfs a_shs ind tot pri q fr li sh low_37 high_37 ll_37 lh_37 bnd_37 gap_37 bq_37 costs_37 ways_37 stc_37 bc_37 bw_37 bs_37 kn_37 th_37 row_37 rows_37 (rfU rfs (-3))) H locs := hX
        exact xr_iret E hX hQ (low_37, high_37, ll_37, lh_37, bnd_37, gap_37, bq_37, costs_37, ways_37, stc_37, bc_37, bw_37, bs_37, kn_37, th_37, row_37, rows_37, rfU rfs (-3)) hr (by first | exact ⟨by unfold xqRv; rw [if_pos (by omega), if_neg (by rw [c_40]; simp)], hk, by unfold rqRv; rw [if_pos (by omega), if_neg (by rw [c_40]; simp)]⟩ | exact ⟨by unfold xqRv; rw [if_pos (by omega), if_neg (fun h => c_26 h.1)], H_K, by unfold rqRv; rw [if_pos (by omega), if_neg (fun h => c_26 h.1)]⟩) rfl dX5_revised_49
  · have c_8 := of_decide_eq_false c_8
    refine xr_aload_n E hl 0 rfl dX5_revised_11 rfl ?_
    refine xr_bipush E dX5_revised_12 (by decide) ?_
    refine xk_i (W2 := fun uu => (W_XFD y hXo hF a_ind a_tot a_pri hD hB a_low a_high a_ll a_lh a_bnd a_gap a_costs a_ways a_stc a_row hP hT a_rfs a_shs ind tot pri q fr li sh low high ll lh bnd gap bq costs ways stc bc bw bs kn th row rows uu)) E hX [0, 17] rfl (xv_V (As := [.int (iI (-2))]) E hX hl (c_X5_refuses l D y z _ hXo hF hD hP hT a_rfs a_shs rfs (-2) (by omega)) ml_X5_89 im_X5_refuses se_X5_refuses in_X5 co_X5_refuses 1 (by decide) ⟨rfl, rfl⟩ ⟨Nat.le_of_ble_eq_true rfl, Nat.le_of_ble_eq_true rfl⟩ [0, 17] rfl rfl 0 rfl rfl rfl rfl rfl (Nat.le_of_ble_eq_true rfl) dX5_revised_14 ⟨Nat.le_refl _, Nat.le_refl _⟩) [0, 3, 4, 5, 6, 7, 8, 9, 10, 11, 12, 13, 14, 15, 16, 17, 18, 1] 2 (fun _ => rfl) (fun _ => rfl) (by decide) (by decide) (fun r_14 uu H locs hw hX => ?_)
    obtain ⟨rfl, rfl⟩ := hw
    have hX : XW D A s.heap (W_XFD y hXo hF a_ind a_tot a_pri hD hB a_low a_high a_ll a_lh a_bnd a_gap a_costs a_ways a_stc a_row hP hT a_rfs a_shs ind tot pri q fr li sh low high ll lh bnd gap bq costs ways stc bc bw bs kn th row rows (rfU rfs (-2))) H locs := hX
    exact xr_iret E hX hQ (low, high, ll, lh, bnd, gap, bq, costs, ways, stc, bc, bw, bs, kn, th, row, rows, rfU rfs (-2)) hr ⟨by unfold xqRv; rw [if_neg (by omega)], H_K, by unfold rqRv; rw [if_neg (by omega)]⟩ rfl dX5_revised_17
def xqFa (ind tot pri : Int → Int) (q fr li sh : Int) : Int := if xMt ind tot pri q fr li (-1) = true then (xFar (xRow ind tot pri q fr li sh) pri q.toNat).1 else -3
def rqFa (ind tot pri : Int → Int) (q fr li : Int) (rfs : Int → Int) : Int → Int := if xMt ind tot pri q fr li (-1) = true then rfs else rfU rfs (-3)
abbrev rm_X5_farthest : Room := { frames := 4, cells := 0, slots := 0, locals := 107 }
set_option maxHeartbeats 4000000 in
set_option maxRecDepth 100000 in
theorem c_X5_farthest (l : Launch) (D : va_G) (y : CY) (z sz : Nat) (hXo hF a_ind a_tot a_pri hD hB a_low a_high a_ll a_lh a_bnd a_gap a_costs a_ways a_stc a_row hP hT a_rfs a_shs : Nat) (ind : Int → Int) (tot : Int → Int) (pri : Int → Int) (q : Int) (fr : Int) (li : Int) (sh : Int) (low : Int → Int) (high : Int → Int) (ll : Int → Int) (lh : Int → Int) (bnd : Int → Bool) (gap : Int → Int) (bq : Int) (costs : Int → Int) (ways : Int → Int) (stc : Int → Int) (bc : Int) (bw : Int) (bs : Int) (kn : Bool) (th : Bool) (row : Int → Int) (rows : Int) (rfs : Int → Int) (H_I : FI ind tot pri q fr li sh) (H_K : KOk ind tot pri q fr li sh kn th row rows) : Met l yX5_farthest (Cond.code yX5_farthest cX5_farthest 4 (some .int) :: TW) rm_X5_farthest (va_Pc [.ref hXo] (PX D y z (W_XFD y hXo hF a_ind a_tot a_pri hD hB a_low a_high a_ll a_lh a_bnd a_gap a_costs a_ways a_stc a_row hP hT a_rfs a_shs ind tot pri q fr li sh low high ll lh bnd gap bq costs ways stc bc bw bs kn th row rows rfs) sz)) (va_Qi (fun (r : Int32) (uu : (Int → Int) × (Int → Int) × (Int → Int) × (Int → Int) × (Int → Bool) × (Int → Int) × (Int) × (Int → Int) × (Int → Int) × (Int → Int) × (Int) × (Int) × (Int) × (Bool) × (Bool) × (Int → Int) × (Int) × (Int → Int)) => r = iI (xqFa ind tot pri q fr li sh) ∧ KOk ind tot pri q fr li sh uu.2.2.2.2.2.2.2.2.2.2.2.2.2.1 uu.2.2.2.2.2.2.2.2.2.2.2.2.2.2.1 uu.2.2.2.2.2.2.2.2.2.2.2.2.2.2.2.1 uu.2.2.2.2.2.2.2.2.2.2.2.2.2.2.2.2.1 ∧ uu.2.2.2.2.2.2.2.2.2.2.2.2.2.2.2.2.2 = rqFa ind tot pri q fr li rfs) (fun uu t => BX D (W_XFD y hXo hF a_ind a_tot a_pri hD hB a_low a_high a_ll a_lh a_bnd a_gap a_costs a_ways a_stc a_row hP hT a_rfs a_shs ind tot pri q fr li sh uu.1 uu.2.1 uu.2.2.1 uu.2.2.2.1 uu.2.2.2.2.1 uu.2.2.2.2.2.1 uu.2.2.2.2.2.2.1 uu.2.2.2.2.2.2.2.1 uu.2.2.2.2.2.2.2.2.1 uu.2.2.2.2.2.2.2.2.2.1 uu.2.2.2.2.2.2.2.2.2.2.1 uu.2.2.2.2.2.2.2.2.2.2.2.1 uu.2.2.2.2.2.2.2.2.2.2.2.2.1 uu.2.2.2.2.2.2.2.2.2.2.2.2.2.1 uu.2.2.2.2.2.2.2.2.2.2.2.2.2.2.1 uu.2.2.2.2.2.2.2.2.2.2.2.2.2.2.2.1 uu.2.2.2.2.2.2.2.2.2.2.2.2.2.2.2.2.1 uu.2.2.2.2.2.2.2.2.2.2.2.2.2.2.2.2.2) (va_A (W_XFD y hXo hF a_ind a_tot a_pri hD hB a_low a_high a_ll a_lh a_bnd a_gap a_costs a_ways a_stc a_row hP hT a_rfs a_shs ind tot pri q fr li sh low high ll lh bnd gap bq costs ways stc bc bw bs kn th row rows rfs) sz) t) (va_A (W_XFD y hXo hF a_ind a_tot a_pri hD hB a_low a_high a_ll a_lh a_bnd a_gap a_costs a_ways a_stc a_row hP hT a_rfs a_shs ind tot pri q fr li sh low high ll lh bnd gap bq costs ways stc bc bw bs kn th row rows rfs) sz)) 0 0 (va_A (W_XFD y hXo hF a_ind a_tot a_pri hD hB a_low a_high a_ll a_lh a_bnd a_gap a_costs a_ways a_stc a_row hP hT a_rfs a_shs ind tot pri q fr li sh low high ll lh bnd gap bq costs ways stc bc bw bs kn th row rows rfs) sz) := by
  refine xm_i (by decide) (Nat.le_of_ble_eq_true rfl) (fun p e s m args below meth cX ls A Q E hr hnm hX hl hQ => ?_)
  have hl : lv_has ls 4 [(0, .ref hXo)] := hl
  have hq := H_I.q
  have hfr := H_I.fr
  have hli := H_I.li
  have hsh := H_I.sh
  refine xr_aload_n E hl 0 rfl dX5_farthest_0 rfl ?_
  refine xr_get E hX 0 rfl rfl ly_X5 1 (by decide) fl_X5_19 rfl dX5_farthest_1 ?_
  refine xr_aload_n E hl 0 rfl dX5_farthest_4 rfl ?_
  refine xr_get E hX 0 rfl rfl ly_X5 0 (by decide) fl_X5_12 rfl dX5_farthest_5 ?_
  refine xk_i (W2 := fun uu => (W_XFD y hXo hF a_ind a_tot a_pri hD hB a_low a_high a_ll a_lh a_bnd a_gap a_costs a_ways a_stc a_row hP hT a_rfs a_shs ind tot pri q fr li sh uu.1 uu.2.1 uu.2.2.1 uu.2.2.2.1 uu.2.2.2.2.1 uu.2.2.2.2.2.1 uu.2.2.2.2.2.2.1 uu.2.2.2.2.2.2.2.1 uu.2.2.2.2.2.2.2.2.1 uu.2.2.2.2.2.2.2.2.2.1 uu.2.2.2.2.2.2.2.2.2.2.1 uu.2.2.2.2.2.2.2.2.2.2.2.1 uu.2.2.2.2.2.2.2.2.2.2.2.2.1 uu.2.2.2.2.2.2.2.2.2.2.2.2.2.1 uu.2.2.2.2.2.2.2.2.2.2.2.2.2.2.1 uu.2.2.2.2.2.2.2.2.2.2.2.2.2.2.2.1 uu.2.2.2.2.2.2.2.2.2.2.2.2.2.2.2.2 rfs)) E hX [5, 6, 7, 8, 9, 10, 11, 12, 13, 14, 15, 16, 1, 2, 3, 4] rfl (xv_V (As := [.ref hF]) E hX hl (c_X0_bends l D y z _ hD hB a_low a_high a_ll a_lh a_bnd a_gap a_costs a_ways a_stc a_row hF a_ind a_tot a_pri low high ll lh bnd gap bq costs ways stc bc bw bs kn th row rows ind tot pri q fr li sh H_I H_K) ml_X5_104 im_X0_bends se_X0_bends in_X0 co_X0_bends 1 (by decide) ⟨rfl, rfl⟩ ⟨Nat.le_of_ble_eq_true rfl, Nat.le_of_ble_eq_true rfl⟩ [5, 6, 7, 8, 9, 10, 11, 12, 13, 14, 15, 16, 1, 2, 3, 4] rfl rfl 5 rfl rfl rfl rfl rfl (Nat.le_of_ble_eq_true rfl) dX5_farthest_8 ⟨Nat.le_refl _, Nat.le_refl _⟩) [16, 12, 13, 14, 15, 0, 1, 2, 3, 4, 5, 6, 7, 8, 9, 10, 11, 33] 16 (fun _ => rfl) (fun _ => rfl) (by decide) (by decide) (fun r_8 uu H locs hw hX => ?_)
  obtain ⟨low_8, high_8, ll_8, lh_8, bnd_8, gap_8, bq_8, costs_8, ways_8, stc_8, bc_8, bw_8, bs_8, kn_8, th_8, row_8, rows_8⟩ := uu
  have hX : XW D A s.heap (W_XFD y hXo hF a_ind a_tot a_pri hD hB a_low a_high a_ll a_lh a_bnd a_gap a_costs a_ways a_stc a_row hP hT a_rfs a_shs ind tot pri q fr li sh low_8 high_8 ll_8 lh_8 bnd_8 gap_8 bq_8 costs_8 ways_8 stc_8 bc_8 bw_8 bs_8 kn_8 th_8 row_8 rows_8 rfs) H locs := hX
  try dsimp only at hw
  obtain ⟨rfl, hp_8⟩ := hw
  have hk : KOk ind tot pri q fr li sh kn_8 th_8 row_8 rows_8 := fun _ => ⟨hp_8.2.1, fun h => hp_8.2.2 (by rw [← hp_8.2.1]; exact h)⟩
  refine xr_if_neB (tgt := 21) E dX5_farthest_11 (by decide) (fun c_11 => ?_) (fun c_11 => ?_)
  · have c_11 := c_11
    refine xr_iconst E dX5_farthest_21 ?_
    refine xr_istore_n (lv' := [(1, .int (iI (-1))), (0, .ref hXo)]) E hl dX5_farthest_22 rfl (by decide) rfl (fun ls hl => ?_)
    refine xr_iconst E dX5_farthest_23 ?_
    refine xr_istore_n (lv' := [(2, .int (iI (-1))), (1, .int (iI (-1))), (0, .ref hXo)]) E hl dX5_farthest_24 rfl (by decide) rfl (fun ls hl => ?_)
    refine xr_iconst E dX5_farthest_25 ?_
    refine xr_istore_n (lv' := [(3, .int (iI 0)), (2, .int (iI (-1))), (1, .int (iI (-1))), (0, .ref hXo)]) E hl dX5_farthest_26 rfl (by decide) rfl (fun ls hl => ?_)
    have L_27_2 : ∀ (nmu : Nat) (n : Nat) (f1 : Int) (m1 : Int) (t : Int), 12 - n < nmu → (t = n ∧ t ≤ q) → ((f1, m1) = xFar row_8 pri n) → (-1 ≤ m1 ∧ m1 ≤ 5000) → ∀ (H : Heap) (locs : List Loc) (ls : Array Slot), XW D A s.heap (W_XFD y hXo hF a_ind a_tot a_pri hD hB a_low a_high a_ll a_lh a_bnd a_gap a_costs a_ways a_stc a_row hP hT a_rfs a_shs ind tot pri q fr li sh low_8 high_8 ll_8 lh_8 bnd_8 gap_8 bq_8 costs_8 ways_8 stc_8 bc_8 bw_8 bs_8 kn_8 th_8 row_8 rows_8 rfs) H locs → lv_has ls 4 [(0, .ref hXo), (1, .int (iI f1)), (2, .int (iI m1)), (3, .int (iI t))] → W p l e rm_X5_farthest s m args below meth cX H locs 0 0 Q (F0 m 27 ls []) := by
      intro nmu
      induction nmu with
      | zero =>
        intro n f1 m1 t hmu
        exact absurd hmu (Nat.not_lt_zero _)
      | succ nmu ih =>
        intro n f1 m1 t hmu ht hf hm H locs ls hX hl
        have ih_27_2 := ih
        clear ih
        refine xr_iload_n E hl 3 rfl dX5_farthest_27 rfl ?_
        refine xr_aload_n E hl 0 rfl dX5_farthest_28 rfl ?_
        refine xr_get E hX 0 rfl rfl ly_X5 0 (by decide) fl_X5_12 rfl dX5_farthest_29 ?_
        refine xr_get E hX 1 rfl rfl ly_X2 3 (by decide) fl_X5_124 rfl dX5_farthest_32 ?_
        refine xr_icmp_ge (tgt := 72) E dX5_farthest_35 (by decide) ⟨by omega, by omega⟩ ⟨by omega, by omega⟩ (fun c_35 => ?_) (fun c_35 => ?_)
        · have c_35 := c_35
          refine xr_iload_n E hl 1 rfl dX5_farthest_72 rfl ?_
          exact xr_iret E hX hQ (low_8, high_8, ll_8, lh_8, bnd_8, gap_8, bq_8, costs_8, ways_8, stc_8, bc_8, bw_8, bs_8, kn_8, th_8, row_8, rows_8, rfs) hr ⟨by unfold xqFa; rw [if_pos c_11, show q.toNat = n by omega, ← xFar_cong (fun t h0 h1 => (hp_8.2.2 c_11).1 t h0 (by omega)), ← hf], hk, by unfold rqFa; rw [if_pos c_11]⟩ rfl dX5_farthest_73
        · have c_35 := c_35
          refine xr_aload_n E hl 0 rfl dX5_farthest_38 rfl ?_
          refine xr_get E hX 0 rfl rfl ly_X5 0 (by decide) fl_X5_12 rfl dX5_farthest_39 ?_
          refine xr_iload_n E hl 3 rfl dX5_farthest_42 rfl ?_
          refine xk_ri E hX [1, 2, 3, 4] rfl (xv_V (As := [.int (iI t)]) E hX hl (c_X2_isPrinted l D y z _ hF a_ind a_tot a_pri ind tot pri q fr li sh t (by omega) (by have h := H_I.pri (t := t) (by omega) (by omega); exact ⟨by omega, by omega⟩)) ml_X5_118 im_X2_isPrinted se_X2_isPrinted in_X2 co_X2_isPrinted 1 (by decide) ⟨rfl, rfl⟩ ⟨Nat.le_of_ble_eq_true rfl, Nat.le_of_ble_eq_true rfl⟩ [1, 2, 3, 4] rfl rfl 1 rfl rfl rfl rfl rfl (Nat.le_of_ble_eq_true rfl) dX5_farthest_43 ⟨Nat.le_refl _, Nat.le_refl _⟩) (fun r_43 H locs hw hX => ?_)
          subst hw
          refine xr_if_eqB (tgt := 66) E dX5_farthest_46 (by decide) (fun c_46 => ?_) (fun c_46 => ?_)
          · have c_46 := of_decide_eq_false c_46
            refine xr_iinc (k := 3) (lv' := [(3, .int (iI (t + 1))), (0, .ref hXo), (1, .int (iI f1)), (2, .int (iI m1))]) E hl rfl dX5_farthest_66 (by decide) rfl (fun ls hl => ?_)
            refine xr_goto (tgt := 27) E dX5_farthest_69 (by decide) ?_
            exact ih_27_2 (n + 1) f1 m1 (t + 1) (by omega) (by omega) (by rw [xFar_s, ← hf, ← ht.1]; dsimp only; first | rw [if_pos (And.intro c_46 (by omega))] | rw [if_neg (by omega)]) (by first | omega | (have h9 := hrt; omega)) _ _ _ hX (lv_sub hl [1, 2, 3, 0] rfl)
          · have c_46 := of_decide_eq_true c_46
            have hr1 : -2000 ≤ row_8 t ∧ row_8 t ≤ 2000 := (by rw [(hp_8.2.2 c_11).1 t (by omega) (by omega)]; have h9 := xRow_bd (sh := sh) (t := t) H_I hli c_11 (by omega) (by omega); omega)
            have hr2 : -2000 ≤ pri t ∧ pri t ≤ 2000 := (by have h := H_I.pri (t := t) (by omega) (by omega); omega)
            have hrt : 0 ≤ xRev row_8 pri t ∧ xRev row_8 pri t ≤ 5000 := by unfold xRev; split <;> omega
            refine xr_aload_n E hl 0 rfl dX5_farthest_49 rfl ?_
            refine xr_iload_n E hl 3 rfl dX5_farthest_50 rfl ?_
            refine xk_ri E hX [0, 1, 2, 3, 4, 5, 6, 7, 8, 9, 10, 11, 12, 13, 14, 15, 16, 17] rfl (xv_V (As := [.int (iI t)]) E hX hl (c_X5_revision l D y z _ hXo hF a_ind a_tot a_pri hD hB a_low a_high a_ll a_lh a_bnd a_gap a_costs a_ways a_stc a_row hP hT a_rfs a_shs ind tot pri q fr li sh low_8 high_8 ll_8 lh_8 bnd_8 gap_8 bq_8 costs_8 ways_8 stc_8 bc_8 bw_8 bs_8 kn_8 th_8 row_8 rows_8 rfs t (by omega) hr1 hr2) ml_X5_121 im_X5_revision se_X5_revision in_X5 co_X5_revision 1 (by decide) ⟨rfl, rfl⟩ ⟨Nat.le_of_ble_eq_true rfl, Nat.le_of_ble_eq_true rfl⟩ [0, 1, 2, 3, 4, 5, 6, 7, 8, 9, 10, 11, 12, 13, 14, 15, 16, 17] rfl rfl 0 rfl rfl rfl rfl rfl (Nat.le_of_ble_eq_true rfl) dX5_farthest_51 ⟨Nat.le_refl _, Nat.le_refl _⟩) (fun r_51 H locs hw hX => ?_)
            subst hw
            refine xr_iload_n E hl 2 rfl dX5_farthest_54 rfl ?_
            refine xr_icmp_le (tgt := 66) E dX5_farthest_55 (by decide) ⟨by omega, by omega⟩ ⟨by omega, by omega⟩ (fun c_55 => ?_) (fun c_55 => ?_)
            · have c_55 := c_55
              refine xr_iinc (k := 3) (lv' := [(3, .int (iI (t + 1))), (0, .ref hXo), (1, .int (iI f1)), (2, .int (iI m1))]) E hl rfl dX5_farthest_66 (by decide) rfl (fun ls hl => ?_)
              refine xr_goto (tgt := 27) E dX5_farthest_69 (by decide) ?_
              exact ih_27_2 (n + 1) f1 m1 (t + 1) (by omega) (by omega) (by rw [xFar_s, ← hf, ← ht.1]; dsimp only; first | rw [if_pos (And.intro c_46 (by omega))] | rw [if_neg (by omega)]) (by first | omega | (have h9 := hrt; omega)) _ _ _ hX (lv_sub hl [1, 2, 3, 0] rfl)
            · have c_55 := c_55
              refine xr_iload_n E hl 3 rfl dX5_farthest_58 rfl ?_
              refine xr_istore_n (lv' := [(1, .int (iI t)), (0, .ref hXo), (2, .int (iI m1)), (3, .int (iI t))]) E hl dX5_farthest_59 rfl (by decide) rfl (fun ls hl => ?_)
              refine xr_aload_n E hl 1 rfl dX5_farthest_60 rfl ?_
              refine xr_iload_n E hl 3 rfl dX5_farthest_61 rfl ?_
              refine xk_ri E hX [0, 1, 2, 3, 4, 5, 6, 7, 8, 9, 10, 11, 12, 13, 14, 15, 16, 17] rfl (xv_V (As := [.int (iI t)]) E hX hl (c_X5_revision l D y z _ hXo hF a_ind a_tot a_pri hD hB a_low a_high a_ll a_lh a_bnd a_gap a_costs a_ways a_stc a_row hP hT a_rfs a_shs ind tot pri q fr li sh low_8 high_8 ll_8 lh_8 bnd_8 gap_8 bq_8 costs_8 ways_8 stc_8 bc_8 bw_8 bs_8 kn_8 th_8 row_8 rows_8 rfs t (by omega) hr1 hr2) ml_X5_121 im_X5_revision se_X5_revision in_X5 co_X5_revision 1 (by decide) ⟨rfl, rfl⟩ ⟨Nat.le_of_ble_eq_true rfl, Nat.le_of_ble_eq_true rfl⟩ [0, 1, 2, 3, 4, 5, 6, 7, 8, 9, 10, 11, 12, 13, 14, 15, 16, 17] rfl rfl 0 rfl rfl rfl rfl rfl (Nat.le_of_ble_eq_true rfl) dX5_farthest_62 ⟨Nat.le_refl _, Nat.le_refl _⟩) (fun r_62 H locs hw hX => ?_)
              subst hw
              refine xr_istore_n (lv' := [(2, .int (iI (xRev row_8 pri t))), (1, .int (iI t)), (0, .ref hXo), (3, .int (iI t))]) E hl dX5_farthest_65 rfl (by decide) rfl (fun ls hl => ?_)
              refine xr_iinc (k := 3) (lv' := [(3, .int (iI (t + 1))), (2, .int (iI (xRev row_8 pri t))), (1, .int (iI t)), (0, .ref hXo)]) E hl rfl dX5_farthest_66 (by decide) rfl (fun ls hl => ?_)
              refine xr_goto (tgt := 27) E dX5_farthest_69 (by decide) ?_
              exact ih_27_2 (n + 1) t (xRev row_8 pri t) (t + 1) (by omega) (by omega) (by rw [xFar_s, ← hf, ← ht.1]; dsimp only; first | rw [if_pos (And.intro c_46 (by omega))] | rw [if_neg (by omega)]) (by first | omega | (have h9 := hrt; omega)) _ _ _ hX (lv_sub hl [3, 2, 1, 0] rfl)
    exact L_27_2 _ 0 (-1) (-1) 0 (Nat.lt_succ_self _) (by omega) rfl (by omega) _ _ _ hX (lv_sub hl [3, 2, 1, 0] rfl)
  · have c_11 := c_11
    refine xr_aload_n E hl 0 rfl dX5_farthest_14 rfl ?_
    refine xr_bipush E dX5_farthest_15 (by decide) ?_
    refine xk_i (W2 := fun uu => (W_XFD y hXo hF a_ind a_tot a_pri hD hB a_low a_high a_ll a_lh a_bnd a_gap a_costs a_ways a_stc a_row hP hT a_rfs a_shs ind tot pri q fr li sh low_8 high_8 ll_8 lh_8 bnd_8 gap_8 bq_8 costs_8 ways_8 stc_8 bc_8 bw_8 bs_8 kn_8 th_8 row_8 rows_8 uu)) E hX [0, 17] rfl (xv_V (As := [.int (iI (-3))]) E hX hl (c_X5_refuses l D y z _ hXo hF hD hP hT a_rfs a_shs rfs (-3) (by omega)) ml_X5_89 im_X5_refuses se_X5_refuses in_X5 co_X5_refuses 1 (by decide) ⟨rfl, rfl⟩ ⟨Nat.le_of_ble_eq_true rfl, Nat.le_of_ble_eq_true rfl⟩ [0, 17] rfl rfl 0 rfl rfl rfl rfl rfl (Nat.le_of_ble_eq_true rfl) dX5_farthest_17 ⟨Nat.le_refl _, Nat.le_refl _⟩) [0, 3, 4, 5, 6, 7, 8, 9, 10, 11, 12, 13, 14, 15, 16, 17, 18, 1] 2 (fun _ => rfl) (fun _ => rfl) (by decide) (by decide) (fun r_17 uu H locs hw hX => ?_)
    obtain ⟨rfl, rfl⟩ := hw
    have hX : XW D A s.heap (W_XFD y hXo hF a_ind a_tot a_pri hD hB a_low a_high a_ll a_lh a_bnd a_gap a_costs a_ways a_stc a_row hP hT a_rfs a_shs ind tot pri q fr li sh low_8 high_8 ll_8 lh_8 bnd_8 gap_8 bq_8 costs_8 ways_8 stc_8 bc_8 bw_8 bs_8 kn_8 th_8 row_8 rows_8 (rfU rfs (-3))) H locs := hX
    exact xr_iret E hX hQ (low_8, high_8, ll_8, lh_8, bnd_8, gap_8, bq_8, costs_8, ways_8, stc_8, bc_8, bw_8, bs_8, kn_8, th_8, row_8, rows_8, rfU rfs (-3)) hr ⟨by unfold xqFa; rw [if_neg (by rw [c_11]; decide)], hk, by unfold rqFa; rw [if_neg (by rw [c_11]; decide)]⟩ rfl dX5_farthest_20
abbrev rm_X5_least : Room := { frames := 4, cells := 0, slots := 0, locals := 105 }
set_option maxHeartbeats 4000000 in
set_option maxRecDepth 100000 in
theorem c_X5_least (l : Launch) (D : va_G) (y : CY) (z sz : Nat) (hXo hF a_ind a_tot a_pri hD hB a_low a_high a_ll a_lh a_bnd a_gap a_costs a_ways a_stc a_row hP hT a_rfs a_shs : Nat) (ind : Int → Int) (tot : Int → Int) (pri : Int → Int) (q : Int) (fr : Int) (li : Int) (sh : Int) (low : Int → Int) (high : Int → Int) (ll : Int → Int) (lh : Int → Int) (bnd : Int → Bool) (gap : Int → Int) (bq : Int) (costs : Int → Int) (ways : Int → Int) (stc : Int → Int) (bc : Int) (bw : Int) (bs : Int) (kn : Bool) (th : Bool) (row : Int → Int) (rows : Int) (rfs : Int → Int) (H_I : FI ind tot pri q fr li sh) : Met l yX5_least (Cond.code yX5_least cX5_least 2 (some .int) :: TW) rm_X5_least (va_Pc [.ref hXo] (PX D y z (W_XFD y hXo hF a_ind a_tot a_pri hD hB a_low a_high a_ll a_lh a_bnd a_gap a_costs a_ways a_stc a_row hP hT a_rfs a_shs ind tot pri q fr li sh low high ll lh bnd gap bq costs ways stc bc bw bs kn th row rows rfs) sz)) (va_Qi (fun (r : Int32) (uu : (Int → Int) × (Int → Int) × (Int → Int) × (Int → Int) × (Int → Bool) × (Int → Int) × (Int)) => r = iI (xLeastL (fun l => xMt ind tot pri q fr l (-1)) 25 0) ∧ True) (fun uu t => BX D (W_XFD y hXo hF a_ind a_tot a_pri hD hB a_low a_high a_ll a_lh a_bnd a_gap a_costs a_ways a_stc a_row hP hT a_rfs a_shs ind tot pri q fr li sh uu.1 uu.2.1 uu.2.2.1 uu.2.2.2.1 uu.2.2.2.2.1 uu.2.2.2.2.2.1 uu.2.2.2.2.2.2 costs ways stc bc bw bs kn th row rows rfs) (va_A (W_XFD y hXo hF a_ind a_tot a_pri hD hB a_low a_high a_ll a_lh a_bnd a_gap a_costs a_ways a_stc a_row hP hT a_rfs a_shs ind tot pri q fr li sh low high ll lh bnd gap bq costs ways stc bc bw bs kn th row rows rfs) sz) t) (va_A (W_XFD y hXo hF a_ind a_tot a_pri hD hB a_low a_high a_ll a_lh a_bnd a_gap a_costs a_ways a_stc a_row hP hT a_rfs a_shs ind tot pri q fr li sh low high ll lh bnd gap bq costs ways stc bc bw bs kn th row rows rfs) sz)) 0 0 (va_A (W_XFD y hXo hF a_ind a_tot a_pri hD hB a_low a_high a_ll a_lh a_bnd a_gap a_costs a_ways a_stc a_row hP hT a_rfs a_shs ind tot pri q fr li sh low high ll lh bnd gap bq costs ways stc bc bw bs kn th row rows rfs) sz) := by
  refine xm_i (by decide) (Nat.le_of_ble_eq_true rfl) (fun p e s m args below meth cX ls A Q E hr hnm hX hl hQ => ?_)
  have hl : lv_has ls 2 [(0, .ref hXo)] := hl
  have hq := H_I.q
  have hfr := H_I.fr
  have hli := H_I.li
  have hsh := H_I.sh
  refine xr_iconst E dX5_least_0 ?_
  refine xr_istore_n (lv' := [(1, .int (iI 0)), (0, .ref hXo)]) E hl dX5_least_1 rfl (by decide) rfl (fun ls hl => ?_)
  have L_2_1 : ∀ (nmu : Nat) (n : Nat) (lm : Int) (low1 : Int → Int) (high1 : Int → Int) (ll1 : Int → Int) (lh1 : Int → Int) (bnd1 : Int → Bool) (gap1 : Int → Int) (bq1 : Int), n < nmu → (lm + n = 25 ∧ 0 ≤ lm) → (xLeastL (fun l => xMt ind tot pri q fr l (-1)) 25 0 = xLeastL (fun l => xMt ind tot pri q fr l (-1)) n lm) → ∀ (H : Heap) (locs : List Loc) (ls : Array Slot), XW D A s.heap (W_XFD y hXo hF a_ind a_tot a_pri hD hB a_low a_high a_ll a_lh a_bnd a_gap a_costs a_ways a_stc a_row hP hT a_rfs a_shs ind tot pri q fr li sh low1 high1 ll1 lh1 bnd1 gap1 bq1 costs ways stc bc bw bs kn th row rows rfs) H locs → lv_has ls 2 [(0, .ref hXo), (1, .int (iI lm))] → W p l e rm_X5_least s m args below meth cX H locs 0 0 Q (F0 m 2 ls []) := by
    intro nmu
    induction nmu with
    | zero =>
      intro n lm low1 high1 ll1 lh1 bnd1 gap1 bq1 hmu
      exact absurd hmu (Nat.not_lt_zero _)
    | succ nmu ih =>
      intro n lm low1 high1 ll1 lh1 bnd1 gap1 bq1 hmu hlm hre H locs ls hX hl
      have ih_2_1 := ih
      clear ih
      refine xr_iload_n E hl 1 rfl dX5_least_2 rfl ?_
      refine xr_bipush E dX5_least_3 (by decide) ?_
      refine xr_icmp_gt (tgt := 31) E dX5_least_5 (by decide) ⟨by omega, by omega⟩ (by decide) (fun c_5 => ?_) (fun c_5 => ?_)
      · have c_5 := c_5
        refine xr_iconst E dX5_least_31 ?_
        exact xr_iret E hX hQ (low1, high1, ll1, lh1, bnd1, gap1, bq1) hr ⟨by rw [hre, show n = 0 by omega]; rfl, trivial⟩ rfl dX5_least_32
      · have c_5 := c_5
        refine xr_aload_n E hl 0 rfl dX5_least_8 rfl ?_
        refine xr_get E hX 0 rfl rfl ly_X5 1 (by decide) fl_X5_19 rfl dX5_least_9 ?_
        refine xr_aload_n E hl 0 rfl dX5_least_12 rfl ?_
        refine xr_get E hX 0 rfl rfl ly_X5 0 (by decide) fl_X5_12 rfl dX5_least_13 ?_
        refine xr_iload_n E hl 1 rfl dX5_least_16 rfl ?_
        refine xk_i (W2 := fun uu => (W_XFD y hXo hF a_ind a_tot a_pri hD hB a_low a_high a_ll a_lh a_bnd a_gap a_costs a_ways a_stc a_row hP hT a_rfs a_shs ind tot pri q fr li sh uu.1 uu.2.1 uu.2.2.1 uu.2.2.2.1 uu.2.2.2.2.1 uu.2.2.2.2.2.1 uu.2.2.2.2.2.2 costs ways stc bc bw bs kn th row rows rfs)) E hX [5, 6, 7, 8, 9, 10, 11, 12, 13, 14, 15, 16, 1, 2, 3, 4] rfl (xv_V (As := [.ref hF, .int (iI lm)]) E hX hl (c_X0_meetsWithin l D y z _ hD hB a_low a_high a_ll a_lh a_bnd a_gap a_costs a_ways a_stc a_row hF a_ind a_tot a_pri low1 high1 ll1 lh1 bnd1 gap1 bq1 costs ways stc bc bw bs kn th row rows ind tot pri q fr li sh lm H_I (by omega)) ml_X5_128 im_X0_meetsWithin se_X0_meetsWithin in_X0 co_X0_meetsWithin 2 (by decide) ⟨rfl, rfl⟩ ⟨Nat.le_of_ble_eq_true rfl, Nat.le_of_ble_eq_true rfl⟩ [5, 6, 7, 8, 9, 10, 11, 12, 13, 14, 15, 16, 1, 2, 3, 4] rfl rfl 5 rfl rfl rfl rfl rfl (Nat.le_of_ble_eq_true rfl) dX5_least_17 ⟨Nat.le_refl _, Nat.le_refl _⟩) [16, 12, 13, 14, 15, 0, 1, 2, 3, 4, 5, 6, 7, 8, 9, 10, 11, 33] 16 (fun _ => rfl) (fun _ => rfl) (by decide) (by decide) (fun r_17 uu H locs hw hX => ?_)
        obtain ⟨low_17, high_17, ll_17, lh_17, bnd_17, gap_17, bq_17⟩ := uu
        have hX : XW D A s.heap (W_XFD y hXo hF a_ind a_tot a_pri hD hB a_low a_high a_ll a_lh a_bnd a_gap a_costs a_ways a_stc a_row hP hT a_rfs a_shs ind tot pri q fr li sh low_17 high_17 ll_17 lh_17 bnd_17 gap_17 bq_17 costs ways stc bc bw bs kn th row rows rfs) H locs := hX
        try dsimp only at hw
        obtain ⟨rfl, hp_17⟩ := hw
        refine xr_if_eqB (tgt := 25) E dX5_least_20 (by decide) (fun c_20 => ?_) (fun c_20 => ?_)
        · have c_20 := c_20
          refine xr_iinc (k := 1) (lv' := [(1, .int (iI (lm + 1))), (0, .ref hXo)]) E hl rfl dX5_least_25 (by decide) rfl (fun ls hl => ?_)
          refine xr_goto (tgt := 2) E dX5_least_28 (by decide) ?_
          exact ih_2_1 (n - 1) (lm + 1) low_17 high_17 ll_17 lh_17 bnd_17 gap_17 bq_17 (by omega) (by omega) (by rw [hre, show n = (n - 1) + 1 by omega]; show (if _ then _ else _) = _; rw [if_neg (by dsimp only; rw [c_20]; decide)]; rfl) _ _ _ hX (lv_sub hl [1, 0] rfl)
        · have c_20 := c_20
          refine xr_iload_n E hl 1 rfl dX5_least_23 rfl ?_
          exact xr_iret E hX hQ (low_17, high_17, ll_17, lh_17, bnd_17, gap_17, bq_17) hr ⟨by rw [hre, show n = (n - 1) + 1 by omega]; show _ = iI (if _ then _ else _); rw [if_pos c_20], trivial⟩ rfl dX5_least_24
  exact L_2_1 _ 25 0 low high ll lh bnd gap bq (Nat.lt_succ_self _) (by omega) rfl _ _ _ hX (lv_sub hl [1, 0] rfl)
def xqPr (ind tot pri : Int → Int) (q fr li sh v : Int) : Int := if 0 ≤ v ∧ v ≤ 2 then (if tot v ≠ -1 ∧ xMt ind tot pri q fr li (-1) = true then xMoved ind (xRow ind tot pri q fr li sh) q sh - xLw ind tot pri q fr li sh v else -3) else -2
def rqPr (ind tot pri : Int → Int) (q fr li : Int) (rfs : Int → Int) (v : Int) : Int → Int := if 0 ≤ v ∧ v ≤ 2 then (if tot v ≠ -1 ∧ xMt ind tot pri q fr li (-1) = true then rfs else rfU rfs (-3)) else rfU rfs (-2)
abbrev rm_X5_price : Room := { frames := 4, cells := 0, slots := 0, locals := 108 }
set_option maxHeartbeats 4000000 in
set_option maxRecDepth 100000 in
theorem c_X5_price (l : Launch) (D : va_G) (y : CY) (z sz : Nat) (hXo hF a_ind a_tot a_pri hD hB a_low a_high a_ll a_lh a_bnd a_gap a_costs a_ways a_stc a_row hP hT a_rfs a_shs : Nat) (ind : Int → Int) (tot : Int → Int) (pri : Int → Int) (q : Int) (fr : Int) (li : Int) (sh : Int) (low : Int → Int) (high : Int → Int) (ll : Int → Int) (lh : Int → Int) (bnd : Int → Bool) (gap : Int → Int) (bq : Int) (costs : Int → Int) (ways : Int → Int) (stc : Int → Int) (bc : Int) (bw : Int) (bs : Int) (kn : Bool) (th : Bool) (row : Int → Int) (rows : Int) (rfs : Int → Int) (v : Int) (H_I : FI ind tot pri q fr li sh) (H_K : KOk ind tot pri q fr li sh kn th row rows) (hv : sm v) : Met l yX5_price (Cond.code yX5_price cX5_price 2 (some .long) :: TW) rm_X5_price (va_Pc [.ref hXo, .int (iI v)] (PX D y z (W_XFD y hXo hF a_ind a_tot a_pri hD hB a_low a_high a_ll a_lh a_bnd a_gap a_costs a_ways a_stc a_row hP hT a_rfs a_shs ind tot pri q fr li sh low high ll lh bnd gap bq costs ways stc bc bw bs kn th row rows rfs) sz)) (va_Ql (fun (r : Int64) (uu : (Int → Int) × (Int → Int) × (Int → Int) × (Int → Int) × (Int → Bool) × (Int → Int) × (Int) × (Int → Int) × (Int → Int) × (Int → Int) × (Int) × (Int) × (Int) × (Bool) × (Bool) × (Int → Int) × (Int) × (Int → Int)) => r = lI (xqPr ind tot pri q fr li sh v) ∧ KOk ind tot pri q fr li sh uu.2.2.2.2.2.2.2.2.2.2.2.2.2.1 uu.2.2.2.2.2.2.2.2.2.2.2.2.2.2.1 uu.2.2.2.2.2.2.2.2.2.2.2.2.2.2.2.1 uu.2.2.2.2.2.2.2.2.2.2.2.2.2.2.2.2.1 ∧ uu.2.2.2.2.2.2.2.2.2.2.2.2.2.2.2.2.2 = rqPr ind tot pri q fr li rfs v) (fun uu t => BX D (W_XFD y hXo hF a_ind a_tot a_pri hD hB a_low a_high a_ll a_lh a_bnd a_gap a_costs a_ways a_stc a_row hP hT a_rfs a_shs ind tot pri q fr li sh uu.1 uu.2.1 uu.2.2.1 uu.2.2.2.1 uu.2.2.2.2.1 uu.2.2.2.2.2.1 uu.2.2.2.2.2.2.1 uu.2.2.2.2.2.2.2.1 uu.2.2.2.2.2.2.2.2.1 uu.2.2.2.2.2.2.2.2.2.1 uu.2.2.2.2.2.2.2.2.2.2.1 uu.2.2.2.2.2.2.2.2.2.2.2.1 uu.2.2.2.2.2.2.2.2.2.2.2.2.1 uu.2.2.2.2.2.2.2.2.2.2.2.2.2.1 uu.2.2.2.2.2.2.2.2.2.2.2.2.2.2.1 uu.2.2.2.2.2.2.2.2.2.2.2.2.2.2.2.1 uu.2.2.2.2.2.2.2.2.2.2.2.2.2.2.2.2.1 uu.2.2.2.2.2.2.2.2.2.2.2.2.2.2.2.2.2) (va_A (W_XFD y hXo hF a_ind a_tot a_pri hD hB a_low a_high a_ll a_lh a_bnd a_gap a_costs a_ways a_stc a_row hP hT a_rfs a_shs ind tot pri q fr li sh low high ll lh bnd gap bq costs ways stc bc bw bs kn th row rows rfs) sz) t) (va_A (W_XFD y hXo hF a_ind a_tot a_pri hD hB a_low a_high a_ll a_lh a_bnd a_gap a_costs a_ways a_stc a_row hP hT a_rfs a_shs ind tot pri q fr li sh low high ll lh bnd gap bq costs ways stc bc bw bs kn th row rows rfs) sz)) 0 0 (va_A (W_XFD y hXo hF a_ind a_tot a_pri hD hB a_low a_high a_ll a_lh a_bnd a_gap a_costs a_ways a_stc a_row hP hT a_rfs a_shs ind tot pri q fr li sh low high ll lh bnd gap bq costs ways stc bc bw bs kn th row rows rfs) sz) := by
  refine xm_l (by decide) (Nat.le_of_ble_eq_true rfl) (fun p e s m args below meth cX ls A Q E hr hnm hX hl hQ => ?_)
  have hl : lv_has ls 2 [(0, .ref hXo), (1, .int (iI v))] := hl
  have hq := H_I.q
  have hfr := H_I.fr
  have hli := H_I.li
  have hsh := H_I.sh
  refine xr_iload_n E hl 1 rfl dX5_price_0 rfl ?_
  refine xk_ri E hX [] rfl (xv_S (As := [.int (iI v)]) E hX hl (c_X5_isYear l D y z _ v ⟨by omega, by omega⟩) ml_X5_95 st_X5_isYear in_X5 co_X5_isYear 1 (by decide) ⟨rfl, rfl⟩ ⟨Nat.le_of_ble_eq_true rfl, Nat.le_of_ble_eq_true rfl⟩ [] rfl rfl rfl rfl (Nat.le_of_ble_eq_true rfl) dX5_price_1 ⟨Nat.le_refl _, Nat.le_refl _⟩) (fun r_1 H locs hw hX => ?_)
  subst hw
  refine xr_if_neB (tgt := 15) E dX5_price_4 (by decide) (fun c_4 => ?_) (fun c_4 => ?_)
  · have c_4 := of_decide_eq_true c_4
    have htt := H_I.tot (v := v) (by omega) (by omega)
    refine xr_aload_n E hl 0 rfl dX5_price_15 rfl ?_
    refine xr_get E hX 0 rfl rfl ly_X5 0 (by decide) fl_X5_12 rfl dX5_price_16 ?_
    refine xr_get E hX 1 rfl rfl ly_X2 1 (by decide) fl_X5_132 rfl dX5_price_19 ?_
    refine xr_iload_n E hl 1 rfl dX5_price_22 rfl ?_
    refine xr_iald E hX 3 rfl (by omega) (by omega) (by decide) dX5_price_23 ?_
    refine xr_iconst E dX5_price_24 ?_
    refine xr_icmp_eq (tgt := 42) E dX5_price_25 (by decide) ⟨by omega, by omega⟩ (by decide) (fun c_25 => ?_) (fun c_25 => ?_)
    · have c_25 := c_25
      refine xr_aload_n E hl 0 rfl dX5_price_42 rfl ?_
      refine xr_bipush E dX5_price_43 (by decide) ?_
      refine xk_i (W2 := fun uu => (W_XFD y hXo hF a_ind a_tot a_pri hD hB a_low a_high a_ll a_lh a_bnd a_gap a_costs a_ways a_stc a_row hP hT a_rfs a_shs ind tot pri q fr li sh low high ll lh bnd gap bq costs ways stc bc bw bs kn th row rows uu)) E hX [0, 17] rfl (xv_V (As := [.int (iI (-3))]) E hX hl (c_X5_refuses l D y z _ hXo hF hD hP hT a_rfs a_shs rfs (-3) (by omega)) ml_X5_89 im_X5_refuses se_X5_refuses in_X5 co_X5_refuses 1 (by decide) ⟨rfl, rfl⟩ ⟨Nat.le_of_ble_eq_true rfl, Nat.le_of_ble_eq_true rfl⟩ [0, 17] rfl rfl 0 rfl rfl rfl rfl rfl (Nat.le_of_ble_eq_true rfl) dX5_price_45 ⟨Nat.le_refl _, Nat.le_refl _⟩) [0, 3, 4, 5, 6, 7, 8, 9, 10, 11, 12, 13, 14, 15, 16, 17, 18, 1] 2 (fun _ => rfl) (fun _ => rfl) (by decide) (by decide) (fun r_45 uu H locs hw hX => ?_)
      obtain ⟨rfl, rfl⟩ := hw
      have hX : XW D A s.heap (W_XFD y hXo hF a_ind a_tot a_pri hD hB a_low a_high a_ll a_lh a_bnd a_gap a_costs a_ways a_stc a_row hP hT a_rfs a_shs ind tot pri q fr li sh low high ll lh bnd gap bq costs ways stc bc bw bs kn th row rows (rfU rfs (-3))) H locs := hX
      refine xr_i2l E dX5_price_48 (by decide) ?_
      exact xr_lret E hX hQ (low, high, ll, lh, bnd, gap, bq, costs, ways, stc, bc, bw, bs, kn, th, row, rows, rfU rfs (-3)) hr (by first | exact ⟨by unfold xqPr; rw [if_pos (by omega), if_neg (by rw [c_39]; simp)], hk, by unfold rqPr; rw [if_pos (by omega), if_neg (by rw [c_39]; simp)]⟩ | exact ⟨by unfold xqPr; rw [if_pos (by omega), if_neg (fun h => h.1 c_25)], H_K, by unfold rqPr; rw [if_pos (by omega), if_neg (fun h => h.1 c_25)]⟩) rfl dX5_price_49
    · have c_25 := c_25
      refine xr_aload_n E hl 0 rfl dX5_price_28 rfl ?_
      refine xr_get E hX 0 rfl rfl ly_X5 1 (by decide) fl_X5_19 rfl dX5_price_29 ?_
      refine xr_aload_n E hl 0 rfl dX5_price_32 rfl ?_
      refine xr_get E hX 0 rfl rfl ly_X5 0 (by decide) fl_X5_12 rfl dX5_price_33 ?_
      refine xk_i (W2 := fun uu => (W_XFD y hXo hF a_ind a_tot a_pri hD hB a_low a_high a_ll a_lh a_bnd a_gap a_costs a_ways a_stc a_row hP hT a_rfs a_shs ind tot pri q fr li sh uu.1 uu.2.1 uu.2.2.1 uu.2.2.2.1 uu.2.2.2.2.1 uu.2.2.2.2.2.1 uu.2.2.2.2.2.2.1 uu.2.2.2.2.2.2.2.1 uu.2.2.2.2.2.2.2.2.1 uu.2.2.2.2.2.2.2.2.2.1 uu.2.2.2.2.2.2.2.2.2.2.1 uu.2.2.2.2.2.2.2.2.2.2.2.1 uu.2.2.2.2.2.2.2.2.2.2.2.2.1 uu.2.2.2.2.2.2.2.2.2.2.2.2.2.1 uu.2.2.2.2.2.2.2.2.2.2.2.2.2.2.1 uu.2.2.2.2.2.2.2.2.2.2.2.2.2.2.2.1 uu.2.2.2.2.2.2.2.2.2.2.2.2.2.2.2.2 rfs)) E hX [5, 6, 7, 8, 9, 10, 11, 12, 13, 14, 15, 16, 1, 2, 3, 4] rfl (xv_V (As := [.ref hF]) E hX hl (c_X0_bends l D y z _ hD hB a_low a_high a_ll a_lh a_bnd a_gap a_costs a_ways a_stc a_row hF a_ind a_tot a_pri low high ll lh bnd gap bq costs ways stc bc bw bs kn th row rows ind tot pri q fr li sh H_I H_K) ml_X5_104 im_X0_bends se_X0_bends in_X0 co_X0_bends 1 (by decide) ⟨rfl, rfl⟩ ⟨Nat.le_of_ble_eq_true rfl, Nat.le_of_ble_eq_true rfl⟩ [5, 6, 7, 8, 9, 10, 11, 12, 13, 14, 15, 16, 1, 2, 3, 4] rfl rfl 5 rfl rfl rfl rfl rfl (Nat.le_of_ble_eq_true rfl) dX5_price_36 ⟨Nat.le_refl _, Nat.le_refl _⟩) [16, 12, 13, 14, 15, 0, 1, 2, 3, 4, 5, 6, 7, 8, 9, 10, 11, 33] 16 (fun _ => rfl) (fun _ => rfl) (by decide) (by decide) (fun r_36 uu H locs hw hX => ?_)
      obtain ⟨low_36, high_36, ll_36, lh_36, bnd_36, gap_36, bq_36, costs_36, ways_36, stc_36, bc_36, bw_36, bs_36, kn_36, th_36, row_36, rows_36⟩ := uu
      have hX : XW D A s.heap (W_XFD y hXo hF a_ind a_tot a_pri hD hB a_low a_high a_ll a_lh a_bnd a_gap a_costs a_ways a_stc a_row hP hT a_rfs a_shs ind tot pri q fr li sh low_36 high_36 ll_36 lh_36 bnd_36 gap_36 bq_36 costs_36 ways_36 stc_36 bc_36 bw_36 bs_36 kn_36 th_36 row_36 rows_36 rfs) H locs := hX
      try dsimp only at hw
      obtain ⟨rfl, hp_36⟩ := hw
      have hk : KOk ind tot pri q fr li sh kn_36 th_36 row_36 rows_36 := fun _ => ⟨hp_36.2.1, fun h => hp_36.2.2 (by rw [← hp_36.2.1]; exact h)⟩
      refine xr_if_neB (tgt := 50) E dX5_price_39 (by decide) (fun c_39 => ?_) (fun c_39 => ?_)
      · have c_39 := c_39
        refine xr_aload_n E hl 0 rfl dX5_price_50 rfl ?_
        refine xr_get E hX 0 rfl rfl ly_X5 0 (by decide) fl_X5_12 rfl dX5_price_51 ?_
        refine xr_aload_n E hl 0 rfl dX5_price_54 rfl ?_
        refine xr_get E hX 0 rfl rfl ly_X5 1 (by decide) fl_X5_19 rfl dX5_price_55 ?_
        refine xr_get E hX 5 rfl rfl ly_X0 9 (by decide) fl_X5_108 rfl dX5_price_58 ?_
        refine xr_aload_n E hl 0 rfl dX5_price_61 rfl ?_
        refine xr_get E hX 0 rfl rfl ly_X5 0 (by decide) fl_X5_12 rfl dX5_price_62 ?_
        refine xr_get E hX 1 rfl rfl ly_X2 6 (by decide) fl_X5_135 rfl dX5_price_65 ?_
        refine xk_rl E hX [1, 2, 3, 4, 16] rfl (xv_V (As := [.ref a_row, .int (iI sh)]) E hX hl (c_X2_movement l D y z _ hF a_ind a_tot a_pri a_row ind tot pri q fr li sh row_36 sh H_I (fun t h0 h1 => by rw [(hp_36.2.2 c_39).1 t h0 h1]; have h9 := xRow_bd (sh := sh) H_I hli c_39 h0 h1; omega) ⟨by omega, by omega⟩) ml_X5_114 im_X2_movement se_X2_movement in_X2 co_X2_movement 2 (by decide) ⟨rfl, rfl⟩ ⟨Nat.le_of_ble_eq_true rfl, Nat.le_of_ble_eq_true rfl⟩ [1, 2, 3, 4, 16] rfl rfl 1 rfl rfl rfl rfl rfl (Nat.le_of_ble_eq_true rfl) dX5_price_68 ⟨Nat.le_refl _, Nat.le_refl _⟩) (fun r_68 H locs hw hX => ?_)
        subst hw
        refine xr_aload_n E hl 0 rfl dX5_price_71 rfl ?_
        refine xr_get E hX 0 rfl rfl ly_X5 1 (by decide) fl_X5_19 rfl dX5_price_72 ?_
        refine xr_aload_n E hl 0 rfl dX5_price_75 rfl ?_
        refine xr_get E hX 0 rfl rfl ly_X5 0 (by decide) fl_X5_12 rfl dX5_price_76 ?_
        refine xr_iload_n E hl 1 rfl dX5_price_79 rfl ?_
        refine xk_l (W2 := fun uu => (W_XFD y hXo hF a_ind a_tot a_pri hD hB a_low a_high a_ll a_lh a_bnd a_gap a_costs a_ways a_stc a_row hP hT a_rfs a_shs ind tot pri q fr li sh uu.1 uu.2.1 uu.2.2.1 uu.2.2.2.1 uu.2.2.2.2.1 uu.2.2.2.2.2.1 uu.2.2.2.2.2.2.1 uu.2.2.2.2.2.2.2.1 uu.2.2.2.2.2.2.2.2.1 uu.2.2.2.2.2.2.2.2.2.1 uu.2.2.2.2.2.2.2.2.2.2.1 uu.2.2.2.2.2.2.2.2.2.2.2.1 uu.2.2.2.2.2.2.2.2.2.2.2.2 kn_36 th_36 row_36 rows_36 rfs)) E hX [5, 6, 7, 8, 9, 10, 11, 12, 13, 14, 15, 16, 1, 2, 3, 4] rfl (xv_V (As := [.ref hF, .int (iI v)]) E hX hl (c_X0_leastWithout l D y z _ hD hB a_low a_high a_ll a_lh a_bnd a_gap a_costs a_ways a_stc a_row hF a_ind a_tot a_pri low_36 high_36 ll_36 lh_36 bnd_36 gap_36 bq_36 costs_36 ways_36 stc_36 bc_36 bw_36 bs_36 kn_36 th_36 row_36 rows_36 ind tot pri q fr li sh v H_I (by omega)) ml_X5_138 im_X0_leastWithout se_X0_leastWithout in_X0 co_X0_leastWithout 2 (by decide) ⟨rfl, rfl⟩ ⟨Nat.le_of_ble_eq_true rfl, Nat.le_of_ble_eq_true rfl⟩ [5, 6, 7, 8, 9, 10, 11, 12, 13, 14, 15, 16, 1, 2, 3, 4] rfl rfl 5 rfl rfl rfl rfl rfl (Nat.le_of_ble_eq_true rfl) dX5_price_80 ⟨Nat.le_refl _, Nat.le_refl _⟩) [16, 12, 13, 14, 15, 0, 1, 2, 3, 4, 5, 6, 7, 8, 9, 10, 11, 33] 16 (fun _ => rfl) (fun _ => rfl) (by decide) (by decide) (fun r_80 uu H locs hw hX => ?_)
        obtain ⟨low_80, high_80, ll_80, lh_80, bnd_80, gap_80, bq_80, costs_80, ways_80, stc_80, bc_80, bw_80, bs_80⟩ := uu
        have hX : XW D A s.heap (W_XFD y hXo hF a_ind a_tot a_pri hD hB a_low a_high a_ll a_lh a_bnd a_gap a_costs a_ways a_stc a_row hP hT a_rfs a_shs ind tot pri q fr li sh low_80 high_80 ll_80 lh_80 bnd_80 gap_80 bq_80 costs_80 ways_80 stc_80 bc_80 bw_80 bs_80 kn_36 th_36 row_36 rows_36 rfs) H locs := hX
        try dsimp only at hw
        obtain ⟨rfl, hp_80⟩ := hw
        refine xr_lsub E dX5_price_83 ?_
        exact xr_lret E hX hQ (low_80, high_80, ll_80, lh_80, bnd_80, gap_80, bq_80, costs_80, ways_80, stc_80, bc_80, bw_80, bs_80, kn_36, th_36, row_36, rows_36, rfs) hr ⟨by unfold xqPr; rw [if_pos (by omega), if_pos ⟨c_25, c_39⟩, xMoved_cong (hp_36.2.2 c_39).1], hk, by unfold rqPr; rw [if_pos (by omega), if_pos ⟨c_25, c_39⟩]⟩ rfl dX5_price_84
      · have c_39 := c_39
        refine xr_aload_n E hl 0 rfl dX5_price_42 rfl ?_
        refine xr_bipush E dX5_price_43 (by decide) ?_
        refine xk_i (W2 := fun uu => (W_XFD y hXo hF a_ind a_tot a_pri hD hB a_low a_high a_ll a_lh a_bnd a_gap a_costs a_ways a_stc a_row hP hT a_rfs a_shs ind tot pri q fr li sh low_36 high_36 ll_36 lh_36 bnd_36 gap_36 bq_36 costs_36 ways_36 stc_36 bc_36 bw_36 bs_36 kn_36 th_36 row_36 rows_36 uu)) E hX [0, 17] rfl (xv_V (As := [.int (iI (-3))]) E hX hl (c_X5_refuses l D y z _ hXo hF hD hP hT a_rfs a_shs rfs (-3) (by omega)) ml_X5_89 im_X5_refuses se_X5_refuses in_X5 co_X5_refuses 1 (by decide) ⟨rfl, rfl⟩ ⟨Nat.le_of_ble_eq_true rfl, Nat.le_of_ble_eq_true rfl⟩ [0, 17] rfl rfl 0 rfl rfl rfl rfl rfl (Nat.le_of_ble_eq_true rfl) dX5_price_45 ⟨Nat.le_refl _, Nat.le_refl _⟩) [0, 3, 4, 5, 6, 7, 8, 9, 10, 11, 12, 13, 14, 15, 16, 17, 18, 1] 2 (fun _ => rfl) (fun _ => rfl) (by decide) (by decide) (fun r_45 uu H locs hw hX => ?_)
        obtain ⟨rfl, rfl⟩ := hw
        have hX : XW D A s.heap (W_XFD y hXo hF a_ind a_tot a_pri hD hB a_low a_high a_ll a_lh a_bnd a_gap a_costs a_ways a_stc a_row hP hT a_rfs a_shs ind tot pri q fr li sh low_36 high_36 ll_36 lh_36 bnd_36 gap_36 bq_36 costs_36 ways_36 stc_36 bc_36 bw_36 bs_36 kn_36 th_36 row_36 rows_36 (rfU rfs (-3))) H locs := hX
        refine xr_i2l E dX5_price_48 (by decide) ?_
        exact xr_lret E hX hQ (low_36, high_36, ll_36, lh_36, bnd_36, gap_36, bq_36, costs_36, ways_36, stc_36, bc_36, bw_36, bs_36, kn_36, th_36, row_36, rows_36, rfU rfs (-3)) hr (by first | exact ⟨by unfold xqPr; rw [if_pos (by omega), if_neg (by rw [c_39]; simp)], hk, by unfold rqPr; rw [if_pos (by omega), if_neg (by rw [c_39]; simp)]⟩ | exact ⟨by unfold xqPr; rw [if_pos (by omega), if_neg (fun h => h.1 c_25)], H_K, by unfold rqPr; rw [if_pos (by omega), if_neg (fun h => h.1 c_25)]⟩) rfl dX5_price_49
  · have c_4 := of_decide_eq_false c_4
    refine xr_aload_n E hl 0 rfl dX5_price_7 rfl ?_
    refine xr_bipush E dX5_price_8 (by decide) ?_
    refine xk_i (W2 := fun uu => (W_XFD y hXo hF a_ind a_tot a_pri hD hB a_low a_high a_ll a_lh a_bnd a_gap a_costs a_ways a_stc a_row hP hT a_rfs a_shs ind tot pri q fr li sh low high ll lh bnd gap bq costs ways stc bc bw bs kn th row rows uu)) E hX [0, 17] rfl (xv_V (As := [.int (iI (-2))]) E hX hl (c_X5_refuses l D y z _ hXo hF hD hP hT a_rfs a_shs rfs (-2) (by omega)) ml_X5_89 im_X5_refuses se_X5_refuses in_X5 co_X5_refuses 1 (by decide) ⟨rfl, rfl⟩ ⟨Nat.le_of_ble_eq_true rfl, Nat.le_of_ble_eq_true rfl⟩ [0, 17] rfl rfl 0 rfl rfl rfl rfl rfl (Nat.le_of_ble_eq_true rfl) dX5_price_10 ⟨Nat.le_refl _, Nat.le_refl _⟩) [0, 3, 4, 5, 6, 7, 8, 9, 10, 11, 12, 13, 14, 15, 16, 17, 18, 1] 2 (fun _ => rfl) (fun _ => rfl) (by decide) (by decide) (fun r_10 uu H locs hw hX => ?_)
    obtain ⟨rfl, rfl⟩ := hw
    have hX : XW D A s.heap (W_XFD y hXo hF a_ind a_tot a_pri hD hB a_low a_high a_ll a_lh a_bnd a_gap a_costs a_ways a_stc a_row hP hT a_rfs a_shs ind tot pri q fr li sh low high ll lh bnd gap bq costs ways stc bc bw bs kn th row rows (rfU rfs (-2))) H locs := hX
    refine xr_i2l E dX5_price_13 (by decide) ?_
    exact xr_lret E hX hQ (low, high, ll, lh, bnd, gap, bq, costs, ways, stc, bc, bw, bs, kn, th, row, rows, rfU rfs (-2)) hr ⟨by unfold xqPr; rw [if_neg (by omega)], H_K, by unfold rqPr; rw [if_neg (by omega)]⟩ rfl dX5_price_14
def xqOt (ind tot pri : Int → Int) (q fr li sh : Int) : Int := if xMt ind tot pri q fr li (-1) = true then xWays ind tot pri q fr li sh else 0
abbrev rm_X5_others : Room := { frames := 4, cells := 0, slots := 0, locals := 107 }
set_option maxHeartbeats 4000000 in
set_option maxRecDepth 100000 in
theorem c_X5_others (l : Launch) (D : va_G) (y : CY) (z sz : Nat) (hXo hF a_ind a_tot a_pri hD hB a_low a_high a_ll a_lh a_bnd a_gap a_costs a_ways a_stc a_row hP hT a_rfs a_shs : Nat) (ind : Int → Int) (tot : Int → Int) (pri : Int → Int) (q : Int) (fr : Int) (li : Int) (sh : Int) (low : Int → Int) (high : Int → Int) (ll : Int → Int) (lh : Int → Int) (bnd : Int → Bool) (gap : Int → Int) (bq : Int) (costs : Int → Int) (ways : Int → Int) (stc : Int → Int) (bc : Int) (bw : Int) (bs : Int) (kn : Bool) (th : Bool) (row : Int → Int) (rows : Int) (rfs : Int → Int) (H_I : FI ind tot pri q fr li sh) (H_K : KOk ind tot pri q fr li sh kn th row rows) : Met l yX5_others (Cond.code yX5_others cX5_others 1 (some .int) :: TW) rm_X5_others (va_Pc [.ref hXo] (PX D y z (W_XFD y hXo hF a_ind a_tot a_pri hD hB a_low a_high a_ll a_lh a_bnd a_gap a_costs a_ways a_stc a_row hP hT a_rfs a_shs ind tot pri q fr li sh low high ll lh bnd gap bq costs ways stc bc bw bs kn th row rows rfs) sz)) (va_Qi (fun (r : Int32) (uu : (Int → Int) × (Int → Int) × (Int → Int) × (Int → Int) × (Int → Bool) × (Int → Int) × (Int) × (Int → Int) × (Int → Int) × (Int → Int) × (Int) × (Int) × (Int) × (Bool) × (Bool) × (Int → Int) × (Int)) => r = iI (xqOt ind tot pri q fr li sh) ∧ KOk ind tot pri q fr li sh uu.2.2.2.2.2.2.2.2.2.2.2.2.2.1 uu.2.2.2.2.2.2.2.2.2.2.2.2.2.2.1 uu.2.2.2.2.2.2.2.2.2.2.2.2.2.2.2.1 uu.2.2.2.2.2.2.2.2.2.2.2.2.2.2.2.2) (fun uu t => BX D (W_XFD y hXo hF a_ind a_tot a_pri hD hB a_low a_high a_ll a_lh a_bnd a_gap a_costs a_ways a_stc a_row hP hT a_rfs a_shs ind tot pri q fr li sh uu.1 uu.2.1 uu.2.2.1 uu.2.2.2.1 uu.2.2.2.2.1 uu.2.2.2.2.2.1 uu.2.2.2.2.2.2.1 uu.2.2.2.2.2.2.2.1 uu.2.2.2.2.2.2.2.2.1 uu.2.2.2.2.2.2.2.2.2.1 uu.2.2.2.2.2.2.2.2.2.2.1 uu.2.2.2.2.2.2.2.2.2.2.2.1 uu.2.2.2.2.2.2.2.2.2.2.2.2.1 uu.2.2.2.2.2.2.2.2.2.2.2.2.2.1 uu.2.2.2.2.2.2.2.2.2.2.2.2.2.2.1 uu.2.2.2.2.2.2.2.2.2.2.2.2.2.2.2.1 uu.2.2.2.2.2.2.2.2.2.2.2.2.2.2.2.2 rfs) (va_A (W_XFD y hXo hF a_ind a_tot a_pri hD hB a_low a_high a_ll a_lh a_bnd a_gap a_costs a_ways a_stc a_row hP hT a_rfs a_shs ind tot pri q fr li sh low high ll lh bnd gap bq costs ways stc bc bw bs kn th row rows rfs) sz) t) (va_A (W_XFD y hXo hF a_ind a_tot a_pri hD hB a_low a_high a_ll a_lh a_bnd a_gap a_costs a_ways a_stc a_row hP hT a_rfs a_shs ind tot pri q fr li sh low high ll lh bnd gap bq costs ways stc bc bw bs kn th row rows rfs) sz)) 0 0 (va_A (W_XFD y hXo hF a_ind a_tot a_pri hD hB a_low a_high a_ll a_lh a_bnd a_gap a_costs a_ways a_stc a_row hP hT a_rfs a_shs ind tot pri q fr li sh low high ll lh bnd gap bq costs ways stc bc bw bs kn th row rows rfs) sz) := by
  refine xm_i (by decide) (Nat.le_of_ble_eq_true rfl) (fun p e s m args below meth cX ls A Q E hr hnm hX hl hQ => ?_)
  have hl : lv_has ls 1 [(0, .ref hXo)] := hl
  have hq := H_I.q
  have hfr := H_I.fr
  have hli := H_I.li
  have hsh := H_I.sh
  refine xr_aload_n E hl 0 rfl dX5_others_0 rfl ?_
  refine xr_get E hX 0 rfl rfl ly_X5 1 (by decide) fl_X5_19 rfl dX5_others_1 ?_
  refine xr_aload_n E hl 0 rfl dX5_others_4 rfl ?_
  refine xr_get E hX 0 rfl rfl ly_X5 0 (by decide) fl_X5_12 rfl dX5_others_5 ?_
  refine xk_i (W2 := fun uu => (W_XFD y hXo hF a_ind a_tot a_pri hD hB a_low a_high a_ll a_lh a_bnd a_gap a_costs a_ways a_stc a_row hP hT a_rfs a_shs ind tot pri q fr li sh uu.1 uu.2.1 uu.2.2.1 uu.2.2.2.1 uu.2.2.2.2.1 uu.2.2.2.2.2.1 uu.2.2.2.2.2.2.1 uu.2.2.2.2.2.2.2.1 uu.2.2.2.2.2.2.2.2.1 uu.2.2.2.2.2.2.2.2.2.1 uu.2.2.2.2.2.2.2.2.2.2.1 uu.2.2.2.2.2.2.2.2.2.2.2.1 uu.2.2.2.2.2.2.2.2.2.2.2.2.1 uu.2.2.2.2.2.2.2.2.2.2.2.2.2.1 uu.2.2.2.2.2.2.2.2.2.2.2.2.2.2.1 uu.2.2.2.2.2.2.2.2.2.2.2.2.2.2.2.1 uu.2.2.2.2.2.2.2.2.2.2.2.2.2.2.2.2 rfs)) E hX [5, 6, 7, 8, 9, 10, 11, 12, 13, 14, 15, 16, 1, 2, 3, 4] rfl (xv_V (As := [.ref hF]) E hX hl (c_X0_bends l D y z _ hD hB a_low a_high a_ll a_lh a_bnd a_gap a_costs a_ways a_stc a_row hF a_ind a_tot a_pri low high ll lh bnd gap bq costs ways stc bc bw bs kn th row rows ind tot pri q fr li sh H_I H_K) ml_X5_104 im_X0_bends se_X0_bends in_X0 co_X0_bends 1 (by decide) ⟨rfl, rfl⟩ ⟨Nat.le_of_ble_eq_true rfl, Nat.le_of_ble_eq_true rfl⟩ [5, 6, 7, 8, 9, 10, 11, 12, 13, 14, 15, 16, 1, 2, 3, 4] rfl rfl 5 rfl rfl rfl rfl rfl (Nat.le_of_ble_eq_true rfl) dX5_others_8 ⟨Nat.le_refl _, Nat.le_refl _⟩) [16, 12, 13, 14, 15, 0, 1, 2, 3, 4, 5, 6, 7, 8, 9, 10, 11, 33] 16 (fun _ => rfl) (fun _ => rfl) (by decide) (by decide) (fun r_8 uu H locs hw hX => ?_)
  obtain ⟨low_8, high_8, ll_8, lh_8, bnd_8, gap_8, bq_8, costs_8, ways_8, stc_8, bc_8, bw_8, bs_8, kn_8, th_8, row_8, rows_8⟩ := uu
  have hX : XW D A s.heap (W_XFD y hXo hF a_ind a_tot a_pri hD hB a_low a_high a_ll a_lh a_bnd a_gap a_costs a_ways a_stc a_row hP hT a_rfs a_shs ind tot pri q fr li sh low_8 high_8 ll_8 lh_8 bnd_8 gap_8 bq_8 costs_8 ways_8 stc_8 bc_8 bw_8 bs_8 kn_8 th_8 row_8 rows_8 rfs) H locs := hX
  try dsimp only at hw
  obtain ⟨rfl, hp_8⟩ := hw
  have hk : KOk ind tot pri q fr li sh kn_8 th_8 row_8 rows_8 := fun _ => ⟨hp_8.2.1, fun h => hp_8.2.2 (by rw [← hp_8.2.1]; exact h)⟩
  refine xr_if_eqB (tgt := 24) E dX5_others_11 (by decide) (fun c_11 => ?_) (fun c_11 => ?_)
  · have c_11 := c_11
    refine xr_iconst E dX5_others_24 ?_
    exact xr_iret E hX hQ (low_8, high_8, ll_8, lh_8, bnd_8, gap_8, bq_8, costs_8, ways_8, stc_8, bc_8, bw_8, bs_8, kn_8, th_8, row_8, rows_8) hr (by unfold xqOt; first | exact ⟨by rw [if_pos c_11, (hp_8.2.2 c_11).2], hk⟩ | exact ⟨by rw [if_neg (by rw [c_11]; decide)], hk⟩) rfl dX5_others_25
  · have c_11 := c_11
    refine xr_aload_n E hl 0 rfl dX5_others_14 rfl ?_
    refine xr_get E hX 0 rfl rfl ly_X5 1 (by decide) fl_X5_19 rfl dX5_others_15 ?_
    refine xr_get E hX 5 rfl rfl ly_X0 10 (by decide) fl_X5_142 rfl dX5_others_18 ?_
    refine xr_goto (tgt := 25) E dX5_others_21 (by decide) ?_
    exact xr_iret E hX hQ (low_8, high_8, ll_8, lh_8, bnd_8, gap_8, bq_8, costs_8, ways_8, stc_8, bc_8, bw_8, bs_8, kn_8, th_8, row_8, rows_8) hr (by unfold xqOt; first | exact ⟨by rw [if_pos c_11, (hp_8.2.2 c_11).2], hk⟩ | exact ⟨by rw [if_neg (by rw [c_11]; decide)], hk⟩) rfl dX5_others_25
