/-! BentQuarters: publishing, sharing out, the digest -/
abbrev W_XFs (y : CY) (hXo hF a_ind a_tot a_pri hD hP hT a_rfs a_shs : Nat) (ind : Int → Int) (tot : Int → Int) (pri : Int → Int) (q : Int) (fr : Int) (li : Int) (sh : Int) (shs : Int → Int) : va_W := [(hXo, .inr (5, [.ref hF, .ref hD, .ref hP, .ref hT, .ref a_rfs, .ref a_shs])), (hF, .inr (2, [.ref a_ind, .ref a_tot, .ref a_pri, .int (iI q), .int (iI fr), .int (iI li), .int (iI sh)])), (a_ind, .inl (y.1, 12, .inl (ia ind))), (a_tot, .inl (y.1, 3, .inl (ia tot))), (a_pri, .inl (y.1, 12, .inl (ia pri))), (a_shs, .inl (y.1, 12, .inl (ia shs)))]
abbrev W_XFsr (y : CY) (hXo hF a_ind a_tot a_pri hD hP hT a_rfs a_shs : Nat) (ind : Int → Int) (tot : Int → Int) (pri : Int → Int) (q : Int) (fr : Int) (li : Int) (sh : Int) (rfs : Int → Int) (shs : Int → Int) : va_W := [(hXo, .inr (5, [.ref hF, .ref hD, .ref hP, .ref hT, .ref a_rfs, .ref a_shs])), (hF, .inr (2, [.ref a_ind, .ref a_tot, .ref a_pri, .int (iI q), .int (iI fr), .int (iI li), .int (iI sh)])), (a_ind, .inl (y.1, 12, .inl (ia ind))), (a_tot, .inl (y.1, 3, .inl (ia tot))), (a_pri, .inl (y.1, 12, .inl (ia pri))), (a_rfs, .inl (y.1, 3, .inl (ia rfs))), (a_shs, .inl (y.1, 12, .inl (ia shs)))]
abbrev W_XFPD (y : CY) (hXo hF a_ind a_tot a_pri hD hB a_low a_high a_ll a_lh a_bnd a_gap a_costs a_ways a_stc a_row hP a_ring p0hF p0a_ind p0a_tot p0a_pri p1hF p1a_ind p1a_tot p1a_pri p2hF p2a_ind p2a_tot p2a_pri p3hF p3a_ind p3a_tot p3a_pri p4hF p4a_ind p4a_tot p4a_pri p5hF p5a_ind p5a_tot p5a_pri hT a_rfs a_shs : Nat) (ind : Int → Int) (tot : Int → Int) (pri : Int → Int) (q : Int) (fr : Int) (li : Int) (sh : Int) (low : Int → Int) (high : Int → Int) (ll : Int → Int) (lh : Int → Int) (bnd : Int → Bool) (gap : Int → Int) (bq : Int) (costs : Int → Int) (ways : Int → Int) (stc : Int → Int) (bc : Int) (bw : Int) (bs : Int) (kn : Bool) (th : Bool) (row : Int → Int) (rows : Int) (rind : Int → Int → Int) (rtot : Int → Int → Int) (rpri : Int → Int → Int) (rq : Int → Int) (rfr : Int → Int) (rli : Int → Int) (rsh : Int → Int) (top : Int) (sts : Int) (rfs : Int → Int) : va_W := [(hXo, .inr (5, [.ref hF, .ref hD, .ref hP, .ref hT, .ref a_rfs, .ref a_shs])), (hF, .inr (2, [.ref a_ind, .ref a_tot, .ref a_pri, .int (iI q), .int (iI fr), .int (iI li), .int (iI sh)])), (a_ind, .inl (y.1, 12, .inl (ia ind))), (a_tot, .inl (y.1, 3, .inl (ia tot))), (a_pri, .inl (y.1, 12, .inl (ia pri))), (hD, .inr (0, [.ref hB, .ref a_costs, .ref a_ways, .ref a_stc, .long (lI bc), .int (iI bw), .int (iI bs), .int (bB kn), .int (bB th), .ref a_row, .int (iI rows)])), (hB, .inr (1, [.ref a_low, .ref a_high, .ref a_ll, .ref a_lh, .ref a_bnd, .ref a_gap, .int (iI bq)])), (a_low, .inl (y.1, 12, .inl (ia low))), (a_high, .inl (y.1, 12, .inl (ia high))), (a_ll, .inl (y.1, 12, .inl (ia ll))), (a_lh, .inl (y.1, 12, .inl (ia lh))), (a_bnd, .inl (y.2.2.1, 3, .inl (ba bnd))), (a_gap, .inl (y.1, 3, .inl (ia gap))), (a_costs, .inl (y.2.1, 3468, .inr (.inl (la costs)))), (a_ways, .inl (y.1, 3468, .inl (ia ways))), (a_stc, .inl (y.2.1, 17, .inr (.inl (la stc)))), (a_row, .inl (y.1, 12, .inl (ia row))), (hP, .inr (3, [.ref a_ring, .int (iI top), .int (iI sts)])), (a_ring, .inl (y.2.2.2, 6, .inr (.inr (.inr (.inr (fun k => if k = 0 then some p0hF else if k = 1 then some p1hF else if k = 2 then some p2hF else if k = 3 then some p3hF else if k = 4 then some p4hF else if k = 5 then some p5hF else none)))))), (p0hF, .inr (2, [.ref p0a_ind, .ref p0a_tot, .ref p0a_pri, .int (iI (rq 0)), .int (iI (rfr 0)), .int (iI (rli 0)), .int (iI (rsh 0))])), (p0a_ind, .inl (y.1, 12, .inl (ia (rind 0)))), (p0a_tot, .inl (y.1, 3, .inl (ia (rtot 0)))), (p0a_pri, .inl (y.1, 12, .inl (ia (rpri 0)))), (p1hF, .inr (2, [.ref p1a_ind, .ref p1a_tot, .ref p1a_pri, .int (iI (rq 1)), .int (iI (rfr 1)), .int (iI (rli 1)), .int (iI (rsh 1))])), (p1a_ind, .inl (y.1, 12, .inl (ia (rind 1)))), (p1a_tot, .inl (y.1, 3, .inl (ia (rtot 1)))), (p1a_pri, .inl (y.1, 12, .inl (ia (rpri 1)))), (p2hF, .inr (2, [.ref p2a_ind, .ref p2a_tot, .ref p2a_pri, .int (iI (rq 2)), .int (iI (rfr 2)), .int (iI (rli 2)), .int (iI (rsh 2))])), (p2a_ind, .inl (y.1, 12, .inl (ia (rind 2)))), (p2a_tot, .inl (y.1, 3, .inl (ia (rtot 2)))), (p2a_pri, .inl (y.1, 12, .inl (ia (rpri 2)))), (p3hF, .inr (2, [.ref p3a_ind, .ref p3a_tot, .ref p3a_pri, .int (iI (rq 3)), .int (iI (rfr 3)), .int (iI (rli 3)), .int (iI (rsh 3))])), (p3a_ind, .inl (y.1, 12, .inl (ia (rind 3)))), (p3a_tot, .inl (y.1, 3, .inl (ia (rtot 3)))), (p3a_pri, .inl (y.1, 12, .inl (ia (rpri 3)))), (p4hF, .inr (2, [.ref p4a_ind, .ref p4a_tot, .ref p4a_pri, .int (iI (rq 4)), .int (iI (rfr 4)), .int (iI (rli 4)), .int (iI (rsh 4))])), (p4a_ind, .inl (y.1, 12, .inl (ia (rind 4)))), (p4a_tot, .inl (y.1, 3, .inl (ia (rtot 4)))), (p4a_pri, .inl (y.1, 12, .inl (ia (rpri 4)))), (p5hF, .inr (2, [.ref p5a_ind, .ref p5a_tot, .ref p5a_pri, .int (iI (rq 5)), .int (iI (rfr 5)), .int (iI (rli 5)), .int (iI (rsh 5))])), (p5a_ind, .inl (y.1, 12, .inl (ia (rind 5)))), (p5a_tot, .inl (y.1, 3, .inl (ia (rtot 5)))), (p5a_pri, .inl (y.1, 12, .inl (ia (rpri 5)))), (a_rfs, .inl (y.1, 3, .inl (ia rfs)))]
abbrev W_Xdg (y : CY) (hXo hF a_ind a_tot a_pri hD hB a_low a_high a_ll a_lh a_bnd a_gap a_costs a_ways a_stc a_row hP a_ring hT a_byt a_ltr a_fir a_sec a_rfs a_shs : Nat) (ind : Int → Int) (tot : Int → Int) (pri : Int → Int) (q : Int) (fr : Int) (li : Int) (sh : Int) (low : Int → Int) (high : Int → Int) (ll : Int → Int) (lh : Int → Int) (bnd : Int → Bool) (gap : Int → Int) (bq : Int) (costs : Int → Int) (ways : Int → Int) (stc : Int → Int) (bc : Int) (bw : Int) (bs : Int) (kn : Bool) (th : Bool) (row : Int → Int) (rows : Int) (top : Int) (sts : Int) (len : Int) (ord : Int) (opn : Bool) (num : Int) (fig : Int) (rfs : Int → Int) (shs : Int → Int) : va_W := [(hXo, .inr (5, [.ref hF, .ref hD, .ref hP, .ref hT, .ref a_rfs, .ref a_shs])), (hF, .inr (2, [.ref a_ind, .ref a_tot, .ref a_pri, .int (iI q), .int (iI fr), .int (iI li), .int (iI sh)])), (a_ind, .inl (y.1, 12, .inl (ia ind))), (a_tot, .inl (y.1, 3, .inl (ia tot))), (a_pri, .inl (y.1, 12, .inl (ia pri))), (hD, .inr (0, [.ref hB, .ref a_costs, .ref a_ways, .ref a_stc, .long (lI bc), .int (iI bw), .int (iI bs), .int (bB kn), .int (bB th), .ref a_row, .int (iI rows)])), (hB, .inr (1, [.ref a_low, .ref a_high, .ref a_ll, .ref a_lh, .ref a_bnd, .ref a_gap, .int (iI bq)])), (a_low, .inl (y.1, 12, .inl (ia low))), (a_high, .inl (y.1, 12, .inl (ia high))), (a_ll, .inl (y.1, 12, .inl (ia ll))), (a_lh, .inl (y.1, 12, .inl (ia lh))), (a_bnd, .inl (y.2.2.1, 3, .inl (ba bnd))), (a_gap, .inl (y.1, 3, .inl (ia gap))), (a_costs, .inl (y.2.1, 3468, .inr (.inl (la costs)))), (a_ways, .inl (y.1, 3468, .inl (ia ways))), (a_stc, .inl (y.2.1, 17, .inr (.inl (la stc)))), (a_row, .inl (y.1, 12, .inl (ia row))), (hP, .inr (3, [.ref a_ring, .int (iI top), .int (iI sts)])), (hT, .inr (4, [.ref a_byt, .int (iI len), .ref a_ltr, .ref a_fir, .ref a_sec, .int (iI ord), .int (bB opn), .int (iI num), .int (iI fig)])), (a_rfs, .inl (y.1, 3, .inl (ia rfs))), (a_shs, .inl (y.1, 12, .inl (ia shs)))]
abbrev W_XFo (y : CY) (hXo hF a_ind a_tot a_pri hD hP hT a_rfs a_shs : Nat) (ind : Int → Int) (tot : Int → Int) (pri : Int → Int) (q : Int) (fr : Int) (li : Int) (sh : Int) : va_W := [(hXo, .inr (5, [.ref hF, .ref hD, .ref hP, .ref hT, .ref a_rfs, .ref a_shs])), (hF, .inr (2, [.ref a_ind, .ref a_tot, .ref a_pri, .int (iI q), .int (iI fr), .int (iI li), .int (iI sh)])), (a_ind, .inl (y.1, 12, .inl (ia ind))), (a_tot, .inl (y.1, 3, .inl (ia tot))), (a_pri, .inl (y.1, 12, .inl (ia pri)))]
abbrev rm_X5_prints : Room := { frames := 4, cells := 0, slots := 0, locals := 107 }
set_option maxHeartbeats 4000000 in
set_option maxRecDepth 100000 in
theorem c_X5_prints (l : Launch) (D : va_G) (y : CY) (z sz : Nat) (hXo hF a_ind a_tot a_pri hD hB a_low a_high a_ll a_lh a_bnd a_gap a_costs a_ways a_stc a_row hP hT a_rfs a_shs : Nat) (ind : Int → Int) (tot : Int → Int) (pri : Int → Int) (q : Int) (fr : Int) (li : Int) (sh : Int) (low : Int → Int) (high : Int → Int) (ll : Int → Int) (lh : Int → Int) (bnd : Int → Bool) (gap : Int → Int) (bq : Int) (costs : Int → Int) (ways : Int → Int) (stc : Int → Int) (bc : Int) (bw : Int) (bs : Int) (kn : Bool) (th : Bool) (row : Int → Int) (rows : Int) (rfs : Int → Int) (H_I : FI ind tot pri q fr li sh) (H_K : KOk ind tot pri q fr li sh kn th row rows) : Met l yX5_prints (Cond.code yX5_prints cX5_prints 2 (some .int) :: TW) rm_X5_prints (va_Pc [.ref hXo] (PX D y z (W_XFD y hXo hF a_ind a_tot a_pri hD hB a_low a_high a_ll a_lh a_bnd a_gap a_costs a_ways a_stc a_row hP hT a_rfs a_shs ind tot pri q fr li sh low high ll lh bnd gap bq costs ways stc bc bw bs kn th row rows rfs) sz)) (va_Qi (fun (r : Int32) (uu : (Int → Int) × (Int → Int) × (Int → Int) × (Int → Int) × (Int → Int) × (Int → Bool) × (Int → Int) × (Int) × (Int → Int) × (Int → Int) × (Int → Int) × (Int) × (Int) × (Int) × (Bool) × (Bool) × (Int → Int) × (Int)) => r = iI (xPr_r ind tot pri q fr li) ∧ uu.1 = xPr_p ind tot pri q fr li sh ∧ uu.2.2.2.2.2.2.2.2.2.2.2.2.2.2.1 = true ∧ uu.2.2.2.2.2.2.2.2.2.2.2.2.2.2.2.1 = xMt ind tot pri q fr li (-1) ∧ (xMt ind tot pri q fr li (-1) = true → RowOk ind tot pri q fr li sh uu.2.2.2.2.2.2.2.2.2.2.2.2.2.2.2.2.1 uu.2.2.2.2.2.2.2.2.2.2.2.2.2.2.2.2.2)) (fun uu t => BX D (W_XFD y hXo hF a_ind a_tot a_pri hD hB a_low a_high a_ll a_lh a_bnd a_gap a_costs a_ways a_stc a_row hP hT a_rfs a_shs ind tot uu.1 q fr li sh uu.2.1 uu.2.2.1 uu.2.2.2.1 uu.2.2.2.2.1 uu.2.2.2.2.2.1 uu.2.2.2.2.2.2.1 uu.2.2.2.2.2.2.2.1 uu.2.2.2.2.2.2.2.2.1 uu.2.2.2.2.2.2.2.2.2.1 uu.2.2.2.2.2.2.2.2.2.2.1 uu.2.2.2.2.2.2.2.2.2.2.2.1 uu.2.2.2.2.2.2.2.2.2.2.2.2.1 uu.2.2.2.2.2.2.2.2.2.2.2.2.2.1 uu.2.2.2.2.2.2.2.2.2.2.2.2.2.2.1 uu.2.2.2.2.2.2.2.2.2.2.2.2.2.2.2.1 uu.2.2.2.2.2.2.2.2.2.2.2.2.2.2.2.2.1 uu.2.2.2.2.2.2.2.2.2.2.2.2.2.2.2.2.2 rfs) (va_A (W_XFD y hXo hF a_ind a_tot a_pri hD hB a_low a_high a_ll a_lh a_bnd a_gap a_costs a_ways a_stc a_row hP hT a_rfs a_shs ind tot pri q fr li sh low high ll lh bnd gap bq costs ways stc bc bw bs kn th row rows rfs) sz) t) (va_A (W_XFD y hXo hF a_ind a_tot a_pri hD hB a_low a_high a_ll a_lh a_bnd a_gap a_costs a_ways a_stc a_row hP hT a_rfs a_shs ind tot pri q fr li sh low high ll lh bnd gap bq costs ways stc bc bw bs kn th row rows rfs) sz)) 0 0 (va_A (W_XFD y hXo hF a_ind a_tot a_pri hD hB a_low a_high a_ll a_lh a_bnd a_gap a_costs a_ways a_stc a_row hP hT a_rfs a_shs ind tot pri q fr li sh low high ll lh bnd gap bq costs ways stc bc bw bs kn th row rows rfs) sz) := by
  refine xm_i (by decide) (Nat.le_of_ble_eq_true rfl) (fun p e s m args below meth cX ls A Q E hr hnm hX hl hQ => ?_)
  have hl : lv_has ls 2 [(0, .ref hXo)] := hl
  have hq := H_I.q
  have hfr := H_I.fr
  have hli := H_I.li
  have hsh := H_I.sh
  refine xr_aload_n E hl 0 rfl dX5_prints_0 rfl ?_
  refine xr_get E hX 0 rfl rfl ly_X5 1 (by decide) fl_X5_19 rfl dX5_prints_1 ?_
  refine xr_aload_n E hl 0 rfl dX5_prints_4 rfl ?_
  refine xr_get E hX 0 rfl rfl ly_X5 0 (by decide) fl_X5_12 rfl dX5_prints_5 ?_
  refine xk_i (W2 := fun uu => (W_XFD y hXo hF a_ind a_tot a_pri hD hB a_low a_high a_ll a_lh a_bnd a_gap a_costs a_ways a_stc a_row hP hT a_rfs a_shs ind tot pri q fr li sh uu.1 uu.2.1 uu.2.2.1 uu.2.2.2.1 uu.2.2.2.2.1 uu.2.2.2.2.2.1 uu.2.2.2.2.2.2.1 uu.2.2.2.2.2.2.2.1 uu.2.2.2.2.2.2.2.2.1 uu.2.2.2.2.2.2.2.2.2.1 uu.2.2.2.2.2.2.2.2.2.2.1 uu.2.2.2.2.2.2.2.2.2.2.2.1 uu.2.2.2.2.2.2.2.2.2.2.2.2.1 uu.2.2.2.2.2.2.2.2.2.2.2.2.2.1 uu.2.2.2.2.2.2.2.2.2.2.2.2.2.2.1 uu.2.2.2.2.2.2.2.2.2.2.2.2.2.2.2.1 uu.2.2.2.2.2.2.2.2.2.2.2.2.2.2.2.2 rfs)) E hX [5, 6, 7, 8, 9, 10, 11, 12, 13, 14, 15, 16, 1, 2, 3, 4] rfl (xv_V (As := [.ref hF]) E hX hl (c_X0_bends l D y z _ hD hB a_low a_high a_ll a_lh a_bnd a_gap a_costs a_ways a_stc a_row hF a_ind a_tot a_pri low high ll lh bnd gap bq costs ways stc bc bw bs kn th row rows ind tot pri q fr li sh H_I H_K) ml_X5_104 im_X0_bends se_X0_bends in_X0 co_X0_bends 1 (by decide) ⟨rfl, rfl⟩ ⟨Nat.le_of_ble_eq_true rfl, Nat.le_of_ble_eq_true rfl⟩ [5, 6, 7, 8, 9, 10, 11, 12, 13, 14, 15, 16, 1, 2, 3, 4] rfl rfl 5 rfl rfl rfl rfl rfl (Nat.le_of_ble_eq_true rfl) dX5_prints_8 ⟨Nat.le_refl _, Nat.le_refl _⟩) [16, 12, 13, 14, 15, 0, 1, 2, 3, 4, 5, 6, 7, 8, 9, 10, 11, 33] 16 (fun _ => rfl) (fun _ => rfl) (by decide) (by decide) (fun r_8 uu H locs hw hX => ?_)
  obtain ⟨low_8, high_8, ll_8, lh_8, bnd_8, gap_8, bq_8, costs_8, ways_8, stc_8, bc_8, bw_8, bs_8, kn_8, th_8, row_8, rows_8⟩ := uu
  have hX : XW D A s.heap (W_XFD y hXo hF a_ind a_tot a_pri hD hB a_low a_high a_ll a_lh a_bnd a_gap a_costs a_ways a_stc a_row hP hT a_rfs a_shs ind tot pri q fr li sh low_8 high_8 ll_8 lh_8 bnd_8 gap_8 bq_8 costs_8 ways_8 stc_8 bc_8 bw_8 bs_8 kn_8 th_8 row_8 rows_8 rfs) H locs := hX
  try dsimp only at hw
  obtain ⟨rfl, hp_8⟩ := hw
  have hk : KOk ind tot pri q fr li sh kn_8 th_8 row_8 rows_8 := fun _ => ⟨hp_8.2.1, fun h => hp_8.2.2 (by rw [← hp_8.2.1]; exact h)⟩
  refine xr_if_neB (tgt := 17) E dX5_prints_11 (by decide) (fun c_11 => ?_) (fun c_11 => ?_)
  · have c_11 := c_11
    refine xr_iconst E dX5_prints_17 ?_
    refine xr_istore_n (lv' := [(1, .int (iI 0)), (0, .ref hXo)]) E hl dX5_prints_18 rfl (by decide) rfl (fun ls hl => ?_)
    have L_19_2 : ∀ (nmu : Nat) (n : Nat) (t : Int) (pri1 : Int → Int), 12 - n < nmu → (t = n ∧ t ≤ q) → (pri1 = fillR pri 0 n (fun t => xRow ind tot pri q fr li sh t + 8)) → ∀ (H : Heap) (locs : List Loc) (ls : Array Slot), XW D A s.heap (W_XFD y hXo hF a_ind a_tot a_pri hD hB a_low a_high a_ll a_lh a_bnd a_gap a_costs a_ways a_stc a_row hP hT a_rfs a_shs ind tot pri1 q fr li sh low_8 high_8 ll_8 lh_8 bnd_8 gap_8 bq_8 costs_8 ways_8 stc_8 bc_8 bw_8 bs_8 kn_8 th_8 row_8 rows_8 rfs) H locs → lv_has ls 2 [(0, .ref hXo), (1, .int (iI t))] → W p l e rm_X5_prints s m args below meth cX H locs 0 0 Q (F0 m 19 ls []) := by
      intro nmu
      induction nmu with
      | zero =>
        intro n t pri1 hmu
        exact absurd hmu (Nat.not_lt_zero _)
      | succ nmu ih =>
        intro n t pri1 hmu ht hpp H locs ls hX hl
        have ih_19_2 := ih
        clear ih
        refine xr_iload_n E hl 1 rfl dX5_prints_19 rfl ?_
        refine xr_aload_n E hl 0 rfl dX5_prints_20 rfl ?_
        refine xr_get E hX 0 rfl rfl ly_X5 0 (by decide) fl_X5_12 rfl dX5_prints_21 ?_
        refine xr_get E hX 1 rfl rfl ly_X2 3 (by decide) fl_X5_124 rfl dX5_prints_24 ?_
        refine xr_icmp_ge (tgt := 57) E dX5_prints_27 (by decide) ⟨by omega, by omega⟩ ⟨by omega, by omega⟩ (fun c_27 => ?_) (fun c_27 => ?_)
        · have c_27 := c_27
          refine xr_aload_n E hl 0 rfl dX5_prints_57 rfl ?_
          refine xr_get E hX 0 rfl rfl ly_X5 0 (by decide) fl_X5_12 rfl dX5_prints_58 ?_
          refine xr_get E hX 1 rfl rfl ly_X2 3 (by decide) fl_X5_124 rfl dX5_prints_61 ?_
          exact xr_iret E hX hQ (pri1, low_8, high_8, ll_8, lh_8, bnd_8, gap_8, bq_8, costs_8, ways_8, stc_8, bc_8, bw_8, bs_8, kn_8, th_8, row_8, rows_8) hr ⟨by unfold xPr_r; rw [if_pos c_11], by unfold xPr_p; rw [if_pos c_11, hpp, show (n : Int) = q by omega], hp_8⟩ rfl dX5_prints_64
        · have c_27 := c_27
          refine xr_aload_n E hl 0 rfl dX5_prints_30 rfl ?_
          refine xr_get E hX 0 rfl rfl ly_X5 0 (by decide) fl_X5_12 rfl dX5_prints_31 ?_
          refine xr_get E hX 1 rfl rfl ly_X2 2 (by decide) fl_X5_211 rfl dX5_prints_34 ?_
          refine xr_iload_n E hl 1 rfl dX5_prints_37 rfl ?_
          refine xr_aload_n E hl 0 rfl dX5_prints_38 rfl ?_
          refine xr_get E hX 0 rfl rfl ly_X5 1 (by decide) fl_X5_19 rfl dX5_prints_39 ?_
          refine xr_get E hX 5 rfl rfl ly_X0 9 (by decide) fl_X5_108 rfl dX5_prints_42 ?_
          refine xr_iload_n E hl 1 rfl dX5_prints_45 rfl ?_
          refine xr_iald E hX 16 rfl (by omega) (by omega) (by decide) dX5_prints_46 ?_
          refine xr_bipush E dX5_prints_47 (by decide) ?_
          refine xr_iadd E dX5_prints_49 ?_
          refine xr_iast (W1 := (W_XFD y hXo hF a_ind a_tot a_pri hD hB a_low a_high a_ll a_lh a_bnd a_gap a_costs a_ways a_stc a_row hP hT a_rfs a_shs ind tot (up pri1 t ((row_8 t) + 8)) q fr li sh low_8 high_8 ll_8 lh_8 bnd_8 gap_8 bq_8 costs_8 ways_8 stc_8 bc_8 bw_8 bs_8 kn_8 th_8 row_8 rows_8 rfs)) E hX 4 rfl (by omega) (by omega) (by decide) rfl dX5_prints_50 (fun H locs hX => ?_)
          refine xr_iinc (k := 1) (lv' := [(1, .int (iI (t + 1))), (0, .ref hXo)]) E hl rfl dX5_prints_51 (by decide) rfl (fun ls hl => ?_)
          refine xr_goto (tgt := 19) E dX5_prints_54 (by decide) ?_
          exact ih_19_2 (n + 1) (t + 1) (up pri1 t ((row_8 t) + 8)) (by omega) (by omega) (by rw [hpp]; exact fillR_upN ht.1 (by rw [(hp_8.2.2 c_11).1 t (by omega) c_27])) _ _ _ hX (lv_sub hl [1, 0] rfl)
    exact L_19_2 _ 0 0 pri (Nat.lt_succ_self _) (by omega) (fillR_0 _ _ _).symm _ _ _ hX (lv_sub hl [1, 0] rfl)
  · have c_11 := c_11
    refine xr_bipush E dX5_prints_14 (by decide) ?_
    exact xr_iret E hX hQ (pri, low_8, high_8, ll_8, lh_8, bnd_8, gap_8, bq_8, costs_8, ways_8, stc_8, bc_8, bw_8, bs_8, kn_8, th_8, row_8, rows_8) hr ⟨by unfold xPr_r; rw [if_neg (by rw [c_11]; decide)], by unfold xPr_p; rw [if_neg (by rw [c_11]; decide)], hp_8⟩ rfl dX5_prints_16
theorem pub_K {ind tot pri pri2 : Int → Int} {q fr li sh : Int} {kn th : Bool} {row : Int → Int} {rows : Int} (H_I : FI ind tot pri q fr li sh) (h : pri2 = xPr_p ind tot pri q fr li sh ∧ kn = true ∧ th = xMt ind tot pri q fr li (-1) ∧ (xMt ind tot pri q fr li (-1) = true → RowOk ind tot pri q fr li sh row rows)) : KOk ind tot pri2 q fr li sh (sKn kn (xPr_r ind tot pri q fr li)) th row rows := by
  have hq := H_I.q
  obtain ⟨h1, h2, h3, h4⟩ := h
  rw [h1]
  unfold sKn xPr_p xPr_r
  by_cases hm : xMt ind tot pri q fr li (-1) = true
  · rw [if_pos hm, if_pos hm, if_neg (by omega)]
    intro h; cases h
  · rw [if_neg hm, if_neg hm, if_pos (by omega)]
    exact fun _ => ⟨h3, fun h => absurd (h3.symm.trans h) hm⟩
abbrev rm_X5_publishes : Room := { frames := 5, cells := 0, slots := 0, locals := 128 }
set_option maxHeartbeats 4000000 in
set_option maxRecDepth 100000 in
theorem c_X5_publishes (l : Launch) (D : va_G) (y : CY) (z sz : Nat) (hXo hF a_ind a_tot a_pri hD hB a_low a_high a_ll a_lh a_bnd a_gap a_costs a_ways a_stc a_row hP a_ring p0hF p0a_ind p0a_tot p0a_pri p1hF p1a_ind p1a_tot p1a_pri p2hF p2a_ind p2a_tot p2a_pri p3hF p3a_ind p3a_tot p3a_pri p4hF p4a_ind p4a_tot p4a_pri p5hF p5a_ind p5a_tot p5a_pri hT a_rfs a_shs : Nat) (ind : Int → Int) (tot : Int → Int) (pri : Int → Int) (q : Int) (fr : Int) (li : Int) (sh : Int) (low : Int → Int) (high : Int → Int) (ll : Int → Int) (lh : Int → Int) (bnd : Int → Bool) (gap : Int → Int) (bq : Int) (costs : Int → Int) (ways : Int → Int) (stc : Int → Int) (bc : Int) (bw : Int) (bs : Int) (kn : Bool) (th : Bool) (row : Int → Int) (rows : Int) (rind : Int → Int → Int) (rtot : Int → Int → Int) (rpri : Int → Int → Int) (rq : Int → Int) (rfr : Int → Int) (rli : Int → Int) (rsh : Int → Int) (top : Int) (sts : Int) (rfs : Int → Int) (H_I : FI ind tot pri q fr li sh) (H_K : KOk ind tot pri q fr li sh kn th row rows) (htop : 0 ≤ top ∧ top ≤ 5) (hsts : 0 ≤ sts ∧ sts ≤ 5) : Met l yX5_publishes (Cond.code yX5_publishes cX5_publishes 1 (some .int) :: TW) rm_X5_publishes (va_Pc [.ref hXo] (PX D y z (W_XFPD y hXo hF a_ind a_tot a_pri hD hB a_low a_high a_ll a_lh a_bnd a_gap a_costs a_ways a_stc a_row hP a_ring p0hF p0a_ind p0a_tot p0a_pri p1hF p1a_ind p1a_tot p1a_pri p2hF p2a_ind p2a_tot p2a_pri p3hF p3a_ind p3a_tot p3a_pri p4hF p4a_ind p4a_tot p4a_pri p5hF p5a_ind p5a_tot p5a_pri hT a_rfs a_shs ind tot pri q fr li sh low high ll lh bnd gap bq costs ways stc bc bw bs kn th row rows rind rtot rpri rq rfr rli rsh top sts rfs) sz)) (va_Qi (fun (r : Int32) (uu : (Int → Int → Int) × (Int → Int → Int) × (Int → Int → Int) × (Int → Int) × (Int → Int) × (Int → Int) × (Int → Int) × (Int → Int) × (Int → Int) × (Int → Int) × (Int → Int) × (Int → Int) × (Int → Bool) × (Int → Int) × (Int) × (Int → Int) × (Int → Int) × (Int → Int) × (Int) × (Int) × (Int) × (Bool) × (Bool) × (Int → Int) × (Int) × (Int → Int) × (Int) × (Int)) => r = iI (xPr_r ind tot pri q fr li) ∧ uu.1 = up rind top ind ∧ uu.2.1 = up rtot top tot ∧ uu.2.2.1 = up rpri top pri ∧ uu.2.2.2.1 = up rq top q ∧ uu.2.2.2.2.1 = up rfr top fr ∧ uu.2.2.2.2.2.1 = up rli top li ∧ uu.2.2.2.2.2.2.1 = up rsh top sh ∧ uu.2.2.2.2.2.2.2.1 = xPr_p ind tot pri q fr li sh ∧ uu.2.2.2.2.2.2.2.2.2.2.2.2.2.2.2.2.2.2.2.2.2.2.2.2.2.1 = sRf rfs (xPr_r ind tot pri q fr li) ∧ uu.2.2.2.2.2.2.2.2.2.2.2.2.2.2.2.2.2.2.2.2.2.2.2.2.2.2.1 = sTop top (xPr_r ind tot pri q fr li) ∧ uu.2.2.2.2.2.2.2.2.2.2.2.2.2.2.2.2.2.2.2.2.2.2.2.2.2.2.2 = sSts sts (xPr_r ind tot pri q fr li) ∧ KOk ind tot uu.2.2.2.2.2.2.2.1 q fr li sh uu.2.2.2.2.2.2.2.2.2.2.2.2.2.2.2.2.2.2.2.2.2.1 uu.2.2.2.2.2.2.2.2.2.2.2.2.2.2.2.2.2.2.2.2.2.2.1 uu.2.2.2.2.2.2.2.2.2.2.2.2.2.2.2.2.2.2.2.2.2.2.2.1 uu.2.2.2.2.2.2.2.2.2.2.2.2.2.2.2.2.2.2.2.2.2.2.2.2.1) (fun uu t => BX D (W_XFPD y hXo hF a_ind a_tot a_pri hD hB a_low a_high a_ll a_lh a_bnd a_gap a_costs a_ways a_stc a_row hP a_ring p0hF p0a_ind p0a_tot p0a_pri p1hF p1a_ind p1a_tot p1a_pri p2hF p2a_ind p2a_tot p2a_pri p3hF p3a_ind p3a_tot p3a_pri p4hF p4a_ind p4a_tot p4a_pri p5hF p5a_ind p5a_tot p5a_pri hT a_rfs a_shs ind tot uu.2.2.2.2.2.2.2.1 q fr li sh uu.2.2.2.2.2.2.2.2.1 uu.2.2.2.2.2.2.2.2.2.1 uu.2.2.2.2.2.2.2.2.2.2.1 uu.2.2.2.2.2.2.2.2.2.2.2.1 uu.2.2.2.2.2.2.2.2.2.2.2.2.1 uu.2.2.2.2.2.2.2.2.2.2.2.2.2.1 uu.2.2.2.2.2.2.2.2.2.2.2.2.2.2.1 uu.2.2.2.2.2.2.2.2.2.2.2.2.2.2.2.1 uu.2.2.2.2.2.2.2.2.2.2.2.2.2.2.2.2.1 uu.2.2.2.2.2.2.2.2.2.2.2.2.2.2.2.2.2.1 uu.2.2.2.2.2.2.2.2.2.2.2.2.2.2.2.2.2.2.1 uu.2.2.2.2.2.2.2.2.2.2.2.2.2.2.2.2.2.2.2.1 uu.2.2.2.2.2.2.2.2.2.2.2.2.2.2.2.2.2.2.2.2.1 uu.2.2.2.2.2.2.2.2.2.2.2.2.2.2.2.2.2.2.2.2.2.1 uu.2.2.2.2.2.2.2.2.2.2.2.2.2.2.2.2.2.2.2.2.2.2.1 uu.2.2.2.2.2.2.2.2.2.2.2.2.2.2.2.2.2.2.2.2.2.2.2.1 uu.2.2.2.2.2.2.2.2.2.2.2.2.2.2.2.2.2.2.2.2.2.2.2.2.1 uu.1 uu.2.1 uu.2.2.1 uu.2.2.2.1 uu.2.2.2.2.1 uu.2.2.2.2.2.1 uu.2.2.2.2.2.2.1 uu.2.2.2.2.2.2.2.2.2.2.2.2.2.2.2.2.2.2.2.2.2.2.2.2.2.2.1 uu.2.2.2.2.2.2.2.2.2.2.2.2.2.2.2.2.2.2.2.2.2.2.2.2.2.2.2 uu.2.2.2.2.2.2.2.2.2.2.2.2.2.2.2.2.2.2.2.2.2.2.2.2.2.1) (va_A (W_XFPD y hXo hF a_ind a_tot a_pri hD hB a_low a_high a_ll a_lh a_bnd a_gap a_costs a_ways a_stc a_row hP a_ring p0hF p0a_ind p0a_tot p0a_pri p1hF p1a_ind p1a_tot p1a_pri p2hF p2a_ind p2a_tot p2a_pri p3hF p3a_ind p3a_tot p3a_pri p4hF p4a_ind p4a_tot p4a_pri p5hF p5a_ind p5a_tot p5a_pri hT a_rfs a_shs ind tot pri q fr li sh low high ll lh bnd gap bq costs ways stc bc bw bs kn th row rows rind rtot rpri rq rfr rli rsh top sts rfs) sz) t) (va_A (W_XFPD y hXo hF a_ind a_tot a_pri hD hB a_low a_high a_ll a_lh a_bnd a_gap a_costs a_ways a_stc a_row hP a_ring p0hF p0a_ind p0a_tot p0a_pri p1hF p1a_ind p1a_tot p1a_pri p2hF p2a_ind p2a_tot p2a_pri p3hF p3a_ind p3a_tot p3a_pri p4hF p4a_ind p4a_tot p4a_pri p5hF p5a_ind p5a_tot p5a_pri hT a_rfs a_shs ind tot pri q fr li sh low high ll lh bnd gap bq costs ways stc bc bw bs kn th row rows rind rtot rpri rq rfr rli rsh top sts rfs) sz)) 0 0 (va_A (W_XFPD y hXo hF a_ind a_tot a_pri hD hB a_low a_high a_ll a_lh a_bnd a_gap a_costs a_ways a_stc a_row hP a_ring p0hF p0a_ind p0a_tot p0a_pri p1hF p1a_ind p1a_tot p1a_pri p2hF p2a_ind p2a_tot p2a_pri p3hF p3a_ind p3a_tot p3a_pri p4hF p4a_ind p4a_tot p4a_pri p5hF p5a_ind p5a_tot p5a_pri hT a_rfs a_shs ind tot pri q fr li sh low high ll lh bnd gap bq costs ways stc bc bw bs kn th row rows rind rtot rpri rq rfr rli rsh top sts rfs) sz) := by
  refine xm_i (by decide) (Nat.le_of_ble_eq_true rfl) (fun p e s m args below meth cX ls A Q E hr hnm hX hl hQ => ?_)
  have hl : lv_has ls 1 [(0, .ref hXo)] := hl
  have hq := H_I.q
  have hfr := H_I.fr
  have hli := H_I.li
  have hsh := H_I.sh
  have hrb : -4 ≤ xPr_r ind tot pri q fr li ∧ xPr_r ind tot pri q fr li ≤ 1000000 := by unfold xPr_r; split <;> omega
  refine xr_aload_n E hl 0 rfl dX5_publishes_0 rfl ?_
  refine xr_get E hX 0 rfl rfl ly_X5 2 (by decide) fl_X5_26 rfl dX5_publishes_1 ?_
  refine xr_aload_n E hl 0 rfl dX5_publishes_4 rfl ?_
  refine xr_get E hX 0 rfl rfl ly_X5 0 (by decide) fl_X5_12 rfl dX5_publishes_5 ?_
  refine xk_v (W2 := fun uu => (W_XFPD y hXo hF a_ind a_tot a_pri hD hB a_low a_high a_ll a_lh a_bnd a_gap a_costs a_ways a_stc a_row hP a_ring p0hF p0a_ind p0a_tot p0a_pri p1hF p1a_ind p1a_tot p1a_pri p2hF p2a_ind p2a_tot p2a_pri p3hF p3a_ind p3a_tot p3a_pri p4hF p4a_ind p4a_tot p4a_pri p5hF p5a_ind p5a_tot p5a_pri hT a_rfs a_shs ind tot pri q fr li sh low high ll lh bnd gap bq costs ways stc bc bw bs kn th row rows uu.1 uu.2.1 uu.2.2.1 uu.2.2.2.1 uu.2.2.2.2.1 uu.2.2.2.2.2.1 uu.2.2.2.2.2.2 top sts rfs)) E hX [17, 18, 19, 20, 21, 22, 23, 24, 25, 26, 27, 28, 29, 30, 31, 32, 33, 34, 35, 36, 37, 38, 39, 40, 41, 42, 1, 2, 3, 4] rfl (xv_V (As := [.ref hF]) E hX hl (c_X3_holds l D y z _ hP a_ring p0hF p0a_ind p0a_tot p0a_pri p1hF p1a_ind p1a_tot p1a_pri p2hF p2a_ind p2a_tot p2a_pri p3hF p3a_ind p3a_tot p3a_pri p4hF p4a_ind p4a_tot p4a_pri p5hF p5a_ind p5a_tot p5a_pri hF a_ind a_tot a_pri rind rtot rpri rq rfr rli rsh top sts ind tot pri q fr li sh (by omega)) ml_X5_44 im_X3_holds se_X3_holds in_X3 co_X3_holds 1 (by decide) ⟨rfl, rfl⟩ ⟨Nat.le_of_ble_eq_true rfl, Nat.le_of_ble_eq_true rfl⟩ [17, 18, 19, 20, 21, 22, 23, 24, 25, 26, 27, 28, 29, 30, 31, 32, 33, 34, 35, 36, 37, 38, 39, 40, 41, 42, 1, 2, 3, 4] rfl rfl 17 rfl rfl rfl rfl rfl (Nat.le_of_ble_eq_true rfl) dX5_publishes_8 ⟨Nat.le_refl _, Nat.le_refl _⟩) [30, 26, 27, 28, 29, 35, 36, 37, 38, 39, 40, 41, 42, 43, 44, 45, 46, 0, 1, 2, 3, 4, 5, 6, 7, 8, 9, 10, 11, 12, 13, 14, 15, 16, 17, 18, 19, 20, 21, 22, 23, 24, 25, 73] 30 (fun _ => rfl) (fun _ => rfl) (by decide) (by decide) (fun uu H locs hw hX => ?_)
  subst hw
  have hX : XW D A s.heap (W_XFPD y hXo hF a_ind a_tot a_pri hD hB a_low a_high a_ll a_lh a_bnd a_gap a_costs a_ways a_stc a_row hP a_ring p0hF p0a_ind p0a_tot p0a_pri p1hF p1a_ind p1a_tot p1a_pri p2hF p2a_ind p2a_tot p2a_pri p3hF p3a_ind p3a_tot p3a_pri p4hF p4a_ind p4a_tot p4a_pri p5hF p5a_ind p5a_tot p5a_pri hT a_rfs a_shs ind tot pri q fr li sh low high ll lh bnd gap bq costs ways stc bc bw bs kn th row rows (up rind top ind) (up rtot top tot) (up rpri top pri) (up rq top q) (up rfr top fr) (up rli top li) (up rsh top sh) top sts rfs) H locs := hX
  refine xr_aload_n E hl 0 rfl dX5_publishes_11 rfl ?_
  refine xr_aload_n E hl 0 rfl dX5_publishes_12 rfl ?_
  refine xk_i (W2 := fun uu => (W_XFPD y hXo hF a_ind a_tot a_pri hD hB a_low a_high a_ll a_lh a_bnd a_gap a_costs a_ways a_stc a_row hP a_ring p0hF p0a_ind p0a_tot p0a_pri p1hF p1a_ind p1a_tot p1a_pri p2hF p2a_ind p2a_tot p2a_pri p3hF p3a_ind p3a_tot p3a_pri p4hF p4a_ind p4a_tot p4a_pri p5hF p5a_ind p5a_tot p5a_pri hT a_rfs a_shs ind tot uu.1 q fr li sh uu.2.1 uu.2.2.1 uu.2.2.2.1 uu.2.2.2.2.1 uu.2.2.2.2.2.1 uu.2.2.2.2.2.2.1 uu.2.2.2.2.2.2.2.1 uu.2.2.2.2.2.2.2.2.1 uu.2.2.2.2.2.2.2.2.2.1 uu.2.2.2.2.2.2.2.2.2.2.1 uu.2.2.2.2.2.2.2.2.2.2.2.1 uu.2.2.2.2.2.2.2.2.2.2.2.2.1 uu.2.2.2.2.2.2.2.2.2.2.2.2.2.1 uu.2.2.2.2.2.2.2.2.2.2.2.2.2.2.1 uu.2.2.2.2.2.2.2.2.2.2.2.2.2.2.2.1 uu.2.2.2.2.2.2.2.2.2.2.2.2.2.2.2.2.1 uu.2.2.2.2.2.2.2.2.2.2.2.2.2.2.2.2.2 (up rind top ind) (up rtot top tot) (up rpri top pri) (up rq top q) (up rfr top fr) (up rli top li) (up rsh top sh) top sts rfs)) E hX [0, 1, 2, 3, 4, 5, 6, 7, 8, 9, 10, 11, 12, 13, 14, 15, 16, 43] rfl (xv_V (As := []) E hX hl (c_X5_prints l D y z _ hXo hF a_ind a_tot a_pri hD hB a_low a_high a_ll a_lh a_bnd a_gap a_costs a_ways a_stc a_row hP hT a_rfs a_shs ind tot pri q fr li sh low high ll lh bnd gap bq costs ways stc bc bw bs kn th row rows rfs H_I H_K) ml_X5_74 im_X5_prints se_X5_prints in_X5 co_X5_prints 0 (by decide) ⟨rfl, rfl⟩ ⟨Nat.le_of_ble_eq_true rfl, Nat.le_of_ble_eq_true rfl⟩ [0, 1, 2, 3, 4, 5, 6, 7, 8, 9, 10, 11, 12, 13, 14, 15, 16, 43] rfl rfl 0 rfl rfl rfl rfl rfl (Nat.le_of_ble_eq_true rfl) dX5_publishes_13 ⟨Nat.le_refl _, Nat.le_refl _⟩) [0, 1, 2, 3, 4, 5, 6, 7, 8, 9, 10, 11, 12, 13, 14, 15, 16, 35, 36, 37, 38, 39, 40, 41, 42, 43, 44, 45, 46, 47, 48, 49, 50, 51, 52, 53, 54, 55, 56, 57, 58, 59, 60, 17] 18 (fun _ => rfl) (fun _ => rfl) (by decide) (by decide) (fun r_13 uu H locs hw hX => ?_)
  obtain ⟨pri_13, low_13, high_13, ll_13, lh_13, bnd_13, gap_13, bq_13, costs_13, ways_13, stc_13, bc_13, bw_13, bs_13, kn_13, th_13, row_13, rows_13⟩ := uu
  have hX : XW D A s.heap (W_XFPD y hXo hF a_ind a_tot a_pri hD hB a_low a_high a_ll a_lh a_bnd a_gap a_costs a_ways a_stc a_row hP a_ring p0hF p0a_ind p0a_tot p0a_pri p1hF p1a_ind p1a_tot p1a_pri p2hF p2a_ind p2a_tot p2a_pri p3hF p3a_ind p3a_tot p3a_pri p4hF p4a_ind p4a_tot p4a_pri p5hF p5a_ind p5a_tot p5a_pri hT a_rfs a_shs ind tot pri_13 q fr li sh low_13 high_13 ll_13 lh_13 bnd_13 gap_13 bq_13 costs_13 ways_13 stc_13 bc_13 bw_13 bs_13 kn_13 th_13 row_13 rows_13 (up rind top ind) (up rtot top tot) (up rpri top pri) (up rq top q) (up rfr top fr) (up rli top li) (up rsh top sh) top sts rfs) H locs := hX
  try dsimp only at hw
  obtain ⟨rfl, hp_13⟩ := hw
  refine xk_i (W2 := fun uu => (W_XFPD y hXo hF a_ind a_tot a_pri hD hB a_low a_high a_ll a_lh a_bnd a_gap a_costs a_ways a_stc a_row hP a_ring p0hF p0a_ind p0a_tot p0a_pri p1hF p1a_ind p1a_tot p1a_pri p2hF p2a_ind p2a_tot p2a_pri p3hF p3a_ind p3a_tot p3a_pri p4hF p4a_ind p4a_tot p4a_pri p5hF p5a_ind p5a_tot p5a_pri hT a_rfs a_shs ind tot pri_13 q fr li sh low_13 high_13 ll_13 lh_13 bnd_13 gap_13 bq_13 costs_13 ways_13 stc_13 bc_13 bw_13 bs_13 uu.2.2.2 th_13 row_13 rows_13 (up rind top ind) (up rtot top tot) (up rpri top pri) (up rq top q) (up rfr top fr) (up rli top li) (up rsh top sh) uu.2.1 uu.2.2.1 uu.1)) E hX [0, 5, 17, 43] rfl (xv_V (As := [.int (iI (xPr_r ind tot pri q fr li))]) E hX hl (c_X5_settles l D y z _ hXo hF hD hB a_costs a_ways a_stc a_row hP a_ring hT a_rfs a_shs bc_13 bw_13 bs_13 kn_13 th_13 rows_13 top sts rfs (xPr_r ind tot pri q fr li) (by omega) (by omega) (by omega)) ml_X5_52 im_X5_settles se_X5_settles in_X5 co_X5_settles 1 (by decide) ⟨rfl, rfl⟩ ⟨Nat.le_of_ble_eq_true rfl, Nat.le_of_ble_eq_true rfl⟩ [0, 5, 17, 43] rfl rfl 0 rfl rfl rfl rfl rfl (Nat.le_of_ble_eq_true rfl) dX5_publishes_16 ⟨Nat.le_refl _, Nat.le_refl _⟩) [0, 5, 6, 7, 8, 1, 10, 11, 12, 13, 14, 15, 16, 17, 18, 19, 20, 2, 22, 23, 24, 25, 26, 27, 28, 29, 30, 31, 32, 33, 34, 35, 36, 37, 38, 39, 40, 41, 42, 43, 44, 45, 46, 3] 4 (fun _ => rfl) (fun _ => rfl) (by decide) (by decide) (fun r_16 uu H locs hw hX => ?_)
  obtain ⟨rfl, rfl⟩ := hw
  have hX : XW D A s.heap (W_XFPD y hXo hF a_ind a_tot a_pri hD hB a_low a_high a_ll a_lh a_bnd a_gap a_costs a_ways a_stc a_row hP a_ring p0hF p0a_ind p0a_tot p0a_pri p1hF p1a_ind p1a_tot p1a_pri p2hF p2a_ind p2a_tot p2a_pri p3hF p3a_ind p3a_tot p3a_pri p4hF p4a_ind p4a_tot p4a_pri p5hF p5a_ind p5a_tot p5a_pri hT a_rfs a_shs ind tot pri_13 q fr li sh low_13 high_13 ll_13 lh_13 bnd_13 gap_13 bq_13 costs_13 ways_13 stc_13 bc_13 bw_13 bs_13 (sKn kn_13 (xPr_r ind tot pri q fr li)) th_13 row_13 rows_13 (up rind top ind) (up rtot top tot) (up rpri top pri) (up rq top q) (up rfr top fr) (up rli top li) (up rsh top sh) (sTop top (xPr_r ind tot pri q fr li)) (sSts sts (xPr_r ind tot pri q fr li)) (sRf rfs (xPr_r ind tot pri q fr li))) H locs := hX
  exact xr_iret E hX hQ (up rind top ind, up rtot top tot, up rpri top pri, up rq top q, up rfr top fr, up rli top li, up rsh top sh, pri_13, low_13, high_13, ll_13, lh_13, bnd_13, gap_13, bq_13, costs_13, ways_13, stc_13, bc_13, bw_13, bs_13, sKn kn_13 (xPr_r ind tot pri q fr li), th_13, row_13, rows_13, sRf rfs (xPr_r ind tot pri q fr li), sTop top (xPr_r ind tot pri q fr li), sSts sts (xPr_r ind tot pri q fr li)) hr ⟨rfl, rfl, rfl, rfl, rfl, rfl, rfl, rfl, hp_13.1, rfl, rfl, rfl, (pub_K H_I hp_13)⟩ rfl dX5_publishes_19
abbrev rm_X5_shareMovement : Room := { frames := 2, cells := 0, slots := 0, locals := 51 }
set_option maxHeartbeats 4000000 in
set_option maxRecDepth 100000 in
theorem c_X5_shareMovement (l : Launch) (D : va_G) (y : CY) (z sz : Nat) (hXo hF a_ind a_tot a_pri hD hP hT a_rfs a_shs : Nat) (ind : Int → Int) (tot : Int → Int) (pri : Int → Int) (q : Int) (fr : Int) (li : Int) (sh : Int) (shs : Int → Int) (k : Int) (H_I : FI ind tot pri q fr li sh) (hk0 : sm k) : Met l yX5_shareMovement (Cond.code yX5_shareMovement cX5_shareMovement 3 (some .long) :: TW) rm_X5_shareMovement (va_Pc [.ref hXo, .int (iI k)] (PX D y z (W_XFs y hXo hF a_ind a_tot a_pri hD hP hT a_rfs a_shs ind tot pri q fr li sh shs) sz)) (va_Ql (fun (r : Int64) (uu : (Int → Int)) => r = lI (xMoved ind (xShare ind tot q) q k) ∧ True) (fun uu t => BX D (W_XFs y hXo hF a_ind a_tot a_pri hD hP hT a_rfs a_shs ind tot pri q fr li sh uu) (va_A (W_XFs y hXo hF a_ind a_tot a_pri hD hP hT a_rfs a_shs ind tot pri q fr li sh shs) sz) t) (va_A (W_XFs y hXo hF a_ind a_tot a_pri hD hP hT a_rfs a_shs ind tot pri q fr li sh shs) sz)) 0 0 (va_A (W_XFs y hXo hF a_ind a_tot a_pri hD hP hT a_rfs a_shs ind tot pri q fr li sh shs) sz) := by
  refine xm_l (by decide) (Nat.le_of_ble_eq_true rfl) (fun p e s m args below meth cX ls A Q E hr hnm hX hl hQ => ?_)
  have hl : lv_has ls 3 [(0, .ref hXo), (1, .int (iI k))] := hl
  have hq := H_I.q
  have hfr := H_I.fr
  have hli := H_I.li
  have hsh := H_I.sh
  refine xr_iconst E dX5_shareMovement_0 ?_
  refine xr_istore_n (lv' := [(2, .int (iI 0)), (0, .ref hXo), (1, .int (iI k))]) E hl dX5_shareMovement_1 rfl (by decide) rfl (fun ls hl => ?_)
  have L_2_1 : ∀ (nmu : Nat) (n : Nat) (t : Int) (sh1 : Int → Int), 12 - n < nmu → (t = n ∧ t ≤ q) → (sh1 = fillR shs 0 n (xShare ind tot q)) → ∀ (H : Heap) (locs : List Loc) (ls : Array Slot), XW D A s.heap (W_XFs y hXo hF a_ind a_tot a_pri hD hP hT a_rfs a_shs ind tot pri q fr li sh sh1) H locs → lv_has ls 3 [(0, .ref hXo), (1, .int (iI k)), (2, .int (iI t))] → W p l e rm_X5_shareMovement s m args below meth cX H locs 0 0 Q (F0 m 2 ls []) := by
    intro nmu
    induction nmu with
    | zero =>
      intro n t sh1 hmu
      exact absurd hmu (Nat.not_lt_zero _)
    | succ nmu ih =>
      intro n t sh1 hmu ht hss H locs ls hX hl
      have ih_2_1 := ih
      clear ih
      refine xr_iload_n E hl 2 rfl dX5_shareMovement_2 rfl ?_
      refine xr_aload_n E hl 0 rfl dX5_shareMovement_3 rfl ?_
      refine xr_get E hX 0 rfl rfl ly_X5 0 (by decide) fl_X5_12 rfl dX5_shareMovement_4 ?_
      refine xr_get E hX 1 rfl rfl ly_X2 3 (by decide) fl_X5_124 rfl dX5_shareMovement_7 ?_
      refine xr_icmp_ge (tgt := 33) E dX5_shareMovement_10 (by decide) ⟨by omega, by omega⟩ ⟨by omega, by omega⟩ (fun c_10 => ?_) (fun c_10 => ?_)
      · have c_10 := c_10
        have hsq : ∀ t : Int, 0 ≤ t → t < q → sh1 t = xShare ind tot q t := fun t h0 h1 => by rw [hss]; exact fillR_in h0 (by omega)
        refine xr_aload_n E hl 0 rfl dX5_shareMovement_33 rfl ?_
        refine xr_get E hX 0 rfl rfl ly_X5 0 (by decide) fl_X5_12 rfl dX5_shareMovement_34 ?_
        refine xr_aload_n E hl 0 rfl dX5_shareMovement_37 rfl ?_
        refine xr_get E hX 0 rfl rfl ly_X5 5 (by decide) fl_X5_41 rfl dX5_shareMovement_38 ?_
        refine xr_iload_n E hl 1 rfl dX5_shareMovement_41 rfl ?_
        refine xk_rl E hX [1, 2, 3, 4, 5] rfl (xv_V (As := [.ref a_shs, .int (iI k)]) E hX hl (c_X2_movement l D y z _ hF a_ind a_tot a_pri a_shs ind tot pri q fr li sh sh1 k H_I (fun t h0 h1 => by rw [hsq t h0 h1]; exact xShare_bd H_I h0 h1) ⟨by omega, by omega⟩) ml_X5_114 im_X2_movement se_X2_movement in_X2 co_X2_movement 2 (by decide) ⟨rfl, rfl⟩ ⟨Nat.le_of_ble_eq_true rfl, Nat.le_of_ble_eq_true rfl⟩ [1, 2, 3, 4, 5] rfl rfl 1 rfl rfl rfl rfl rfl (Nat.le_of_ble_eq_true rfl) dX5_shareMovement_42 ⟨Nat.le_refl _, Nat.le_refl _⟩) (fun r_42 H locs hw hX => ?_)
        subst hw
        exact xr_lret E hX hQ sh1 hr ⟨by rw [xMoved_cong hsq], trivial⟩ rfl dX5_shareMovement_45
      · have c_10 := c_10
        refine xr_aload_n E hl 0 rfl dX5_shareMovement_13 rfl ?_
        refine xr_get E hX 0 rfl rfl ly_X5 5 (by decide) fl_X5_41 rfl dX5_shareMovement_14 ?_
        refine xr_iload_n E hl 2 rfl dX5_shareMovement_17 rfl ?_
        refine xr_aload_n E hl 0 rfl dX5_shareMovement_18 rfl ?_
        refine xr_get E hX 0 rfl rfl ly_X5 0 (by decide) fl_X5_12 rfl dX5_shareMovement_19 ?_
        refine xr_iload_n E hl 2 rfl dX5_shareMovement_22 rfl ?_
        refine xk_ri E hX [1, 2, 3, 4] rfl (xv_V (As := [.int (iI t)]) E hX hl (c_X2_share l D y z _ hF a_ind a_tot a_pri ind tot pri q fr li sh t H_I (by omega)) ml_X5_145 im_X2_share se_X2_share in_X2 co_X2_share 1 (by decide) ⟨rfl, rfl⟩ ⟨Nat.le_of_ble_eq_true rfl, Nat.le_of_ble_eq_true rfl⟩ [1, 2, 3, 4] rfl rfl 1 rfl rfl rfl rfl rfl (Nat.le_of_ble_eq_true rfl) dX5_shareMovement_23 ⟨Nat.le_refl _, Nat.le_refl _⟩) (fun r_23 H locs hw hX => ?_)
        subst hw
        refine xr_iast (W1 := (W_XFs y hXo hF a_ind a_tot a_pri hD hP hT a_rfs a_shs ind tot pri q fr li sh (up sh1 t (xShare ind tot q t)))) E hX 5 rfl (by omega) (by omega) (by decide) rfl dX5_shareMovement_26 (fun H locs hX => ?_)
        refine xr_iinc (k := 2) (lv' := [(2, .int (iI (t + 1))), (0, .ref hXo), (1, .int (iI k))]) E hl rfl dX5_shareMovement_27 (by decide) rfl (fun ls hl => ?_)
        refine xr_goto (tgt := 2) E dX5_shareMovement_30 (by decide) ?_
        exact ih_2_1 (n + 1) (t + 1) (up sh1 t (xShare ind tot q t)) (by omega) (by omega) (by rw [hss]; exact fillR_upN ht.1 rfl) _ _ _ hX (lv_sub hl [1, 2, 0] rfl)
  exact L_2_1 _ 0 0 shs (Nat.lt_succ_self _) (by omega) (fillR_0 _ _ _).symm _ _ _ hX (lv_sub hl [1, 2, 0] rfl)
def xqSt (ind tot : Int → Int) (q k : Int) : Int := if 0 ≤ k ∧ k ≤ 1 then xMoved ind (xShare ind tot q) q k else -2
def rqSt (rfs : Int → Int) (k : Int) : Int → Int := if 0 ≤ k ∧ k ≤ 1 then rfs else rfU rfs (-2)
abbrev rm_X5_stepped : Room := { frames := 3, cells := 0, slots := 0, locals := 73 }
set_option maxHeartbeats 4000000 in
set_option maxRecDepth 100000 in
theorem c_X5_stepped (l : Launch) (D : va_G) (y : CY) (z sz : Nat) (hXo hF a_ind a_tot a_pri hD hP hT a_rfs a_shs : Nat) (ind : Int → Int) (tot : Int → Int) (pri : Int → Int) (q : Int) (fr : Int) (li : Int) (sh : Int) (rfs : Int → Int) (shs : Int → Int) (k : Int) (H_I : FI ind tot pri q fr li sh) (hk0 : sm k) : Met l yX5_stepped (Cond.code yX5_stepped cX5_stepped 2 (some .long) :: TW) rm_X5_stepped (va_Pc [.ref hXo, .int (iI k)] (PX D y z (W_XFsr y hXo hF a_ind a_tot a_pri hD hP hT a_rfs a_shs ind tot pri q fr li sh rfs shs) sz)) (va_Ql (fun (r : Int64) (uu : (Int → Int) × (Int → Int)) => r = lI (xqSt ind tot q k) ∧ uu.2 = rqSt rfs k) (fun uu t => BX D (W_XFsr y hXo hF a_ind a_tot a_pri hD hP hT a_rfs a_shs ind tot pri q fr li sh uu.2 uu.1) (va_A (W_XFsr y hXo hF a_ind a_tot a_pri hD hP hT a_rfs a_shs ind tot pri q fr li sh rfs shs) sz) t) (va_A (W_XFsr y hXo hF a_ind a_tot a_pri hD hP hT a_rfs a_shs ind tot pri q fr li sh rfs shs) sz)) 0 0 (va_A (W_XFsr y hXo hF a_ind a_tot a_pri hD hP hT a_rfs a_shs ind tot pri q fr li sh rfs shs) sz) := by
  refine xm_l (by decide) (Nat.le_of_ble_eq_true rfl) (fun p e s m args below meth cX ls A Q E hr hnm hX hl hQ => ?_)
  have hl : lv_has ls 2 [(0, .ref hXo), (1, .int (iI k))] := hl
  have hq := H_I.q
  have hfr := H_I.fr
  have hli := H_I.li
  have hsh := H_I.sh
  refine xr_iload_n E hl 1 rfl dX5_stepped_0 rfl ?_
  refine xk_ri E hX [] rfl (xv_S (As := [.int (iI k)]) E hX hl (c_X5_isForm l D y z _ k ⟨by omega, by omega⟩) ml_X5_111 st_X5_isForm in_X5 co_X5_isForm 1 (by decide) ⟨rfl, rfl⟩ ⟨Nat.le_of_ble_eq_true rfl, Nat.le_of_ble_eq_true rfl⟩ [] rfl rfl rfl rfl (Nat.le_of_ble_eq_true rfl) dX5_stepped_1 ⟨Nat.le_refl _, Nat.le_refl _⟩) (fun r_1 H locs hw hX => ?_)
  subst hw
  refine xr_if_neB (tgt := 15) E dX5_stepped_4 (by decide) (fun c_4 => ?_) (fun c_4 => ?_)
  · have c_4 := of_decide_eq_true c_4
    refine xr_aload_n E hl 0 rfl dX5_stepped_15 rfl ?_
    refine xr_iload_n E hl 1 rfl dX5_stepped_16 rfl ?_
    refine xk_l (W2 := fun uu => (W_XFsr y hXo hF a_ind a_tot a_pri hD hP hT a_rfs a_shs ind tot pri q fr li sh rfs uu)) E hX [0, 1, 2, 3, 4, 6] rfl (xv_V (As := [.int (iI k)]) E hX hl (c_X5_shareMovement l D y z _ hXo hF a_ind a_tot a_pri hD hP hT a_rfs a_shs ind tot pri q fr li sh shs k H_I (by omega)) ml_X5_148 im_X5_shareMovement se_X5_shareMovement in_X5 co_X5_shareMovement 1 (by decide) ⟨rfl, rfl⟩ ⟨Nat.le_of_ble_eq_true rfl, Nat.le_of_ble_eq_true rfl⟩ [0, 1, 2, 3, 4, 6] rfl rfl 0 rfl rfl rfl rfl rfl (Nat.le_of_ble_eq_true rfl) dX5_stepped_17 ⟨Nat.le_refl _, Nat.le_refl _⟩) [0, 1, 2, 3, 4, 11, 5] 6 (fun _ => rfl) (fun _ => rfl) (by decide) (by decide) (fun r_17 uu H locs hw hX => ?_)
    obtain ⟨shs_17, rfl⟩ : ∃ q, q = uu := ⟨_, rfl⟩
    have hX : XW D A s.heap (W_XFsr y hXo hF a_ind a_tot a_pri hD hP hT a_rfs a_shs ind tot pri q fr li sh rfs shs_17) H locs := hX
    try dsimp only at hw
    obtain ⟨rfl, hp_17⟩ := hw
    exact xr_lret E hX hQ (shs_17, rfs) hr ⟨by unfold xqSt; rw [if_pos (by omega)], by unfold rqSt; rw [if_pos (by omega)]⟩ rfl dX5_stepped_20
  · have c_4 := of_decide_eq_false c_4
    refine xr_aload_n E hl 0 rfl dX5_stepped_7 rfl ?_
    refine xr_bipush E dX5_stepped_8 (by decide) ?_
    refine xk_i (W2 := fun uu => (W_XFsr y hXo hF a_ind a_tot a_pri hD hP hT a_rfs a_shs ind tot pri q fr li sh uu shs)) E hX [0, 5] rfl (xv_V (As := [.int (iI (-2))]) E hX hl (c_X5_refuses l D y z _ hXo hF hD hP hT a_rfs a_shs rfs (-2) (by omega)) ml_X5_89 im_X5_refuses se_X5_refuses in_X5 co_X5_refuses 1 (by decide) ⟨rfl, rfl⟩ ⟨Nat.le_of_ble_eq_true rfl, Nat.le_of_ble_eq_true rfl⟩ [0, 5] rfl rfl 0 rfl rfl rfl rfl rfl (Nat.le_of_ble_eq_true rfl) dX5_stepped_10 ⟨Nat.le_refl _, Nat.le_refl _⟩) [0, 3, 4, 5, 6, 1, 8] 2 (fun _ => rfl) (fun _ => rfl) (by decide) (by decide) (fun r_10 uu H locs hw hX => ?_)
    obtain ⟨rfl, rfl⟩ := hw
    have hX : XW D A s.heap (W_XFsr y hXo hF a_ind a_tot a_pri hD hP hT a_rfs a_shs ind tot pri q fr li sh (rfU rfs (-2)) shs) H locs := hX
    refine xr_i2l E dX5_stepped_13 (by decide) ?_
    exact xr_lret E hX hQ (shs, rfU rfs (-2)) hr ⟨by unfold xqSt; rw [if_neg (by omega)], by unfold rqSt; rw [if_neg (by omega)]⟩ rfl dX5_stepped_14
abbrev rm_X5_digestsFigures : Room := { frames := 3, cells := 0, slots := 0, locals := 66 }
set_option maxHeartbeats 4000000 in
set_option maxRecDepth 100000 in
theorem c_X5_digestsFigures (l : Launch) (D : va_G) (y : CY) (z sz : Nat) (hXo hF a_ind a_tot a_pri hD hP hT a_rfs a_shs : Nat) (ind : Int → Int) (tot : Int → Int) (pri : Int → Int) (q : Int) (fr : Int) (li : Int) (sh : Int) (h0 : Int) (H_I : FI ind tot pri q fr li sh) : Met l yX5_digestsFigures (Cond.code yX5_digestsFigures cX5_digestsFigures 7 (some .long) :: TW) rm_X5_digestsFigures (va_Pc [.ref hXo, .long (lI h0)] (PX D y z (W_XFo y hXo hF a_ind a_tot a_pri hD hP hT a_rfs a_shs ind tot pri q fr li sh) sz)) (va_Ql (fun (r : Int64) (uu : Unit) => r = lI (dgFg ind tot pri q fr h0)) (fun uu t => BX D (W_XFo y hXo hF a_ind a_tot a_pri hD hP hT a_rfs a_shs ind tot pri q fr li sh) (va_A (W_XFo y hXo hF a_ind a_tot a_pri hD hP hT a_rfs a_shs ind tot pri q fr li sh) sz) t) (va_A (W_XFo y hXo hF a_ind a_tot a_pri hD hP hT a_rfs a_shs ind tot pri q fr li sh) sz)) 0 0 (va_A (W_XFo y hXo hF a_ind a_tot a_pri hD hP hT a_rfs a_shs ind tot pri q fr li sh) sz) := by
  refine xm_l (by decide) (Nat.le_of_ble_eq_true rfl) (fun p e s m args below meth cX ls A Q E hr hnm hX hl hQ => ?_)
  have hl : lv_has ls 7 [(0, .ref hXo), (1, .long (lI h0))] := hl
  have hq := H_I.q
  have hfr := H_I.fr
  have hli := H_I.li
  have hsh := H_I.sh
  refine xr_lload_n E hl 1 rfl dX5_digestsFigures_0 rfl ?_
  refine xr_lstore_n (lv' := [(3, .long (lI h0)), (0, .ref hXo), (1, .long (lI h0))]) E hl dX5_digestsFigures_1 rfl (by decide) rfl (fun ls hl => ?_)
  refine xr_iconst E dX5_digestsFigures_2 ?_
  refine xr_istore (lv' := [(5, .int (iI 0)), (3, .long (lI h0)), (0, .ref hXo), (1, .long (lI h0))]) E hl dX5_digestsFigures_3 (by decide) rfl (fun ls hl => ?_)
  have L_5_1 : ∀ (nmu : Nat) (n : Nat) (h : Int) (t : Int), 12 - n < nmu → (t = n ∧ t ≤ q) → (h = dgF ind tot pri q fr n h0) → ∀ (H : Heap) (locs : List Loc) (ls : Array Slot), XW D A s.heap (W_XFo y hXo hF a_ind a_tot a_pri hD hP hT a_rfs a_shs ind tot pri q fr li sh) H locs → lv_has ls 7 [(0, .ref hXo), (1, .long (lI h0)), (3, .long (lI h)), (5, .int (iI t))] → W p l e rm_X5_digestsFigures s m args below meth cX H locs 0 0 Q (F0 m 5 ls []) := by
    intro nmu
    induction nmu with
    | zero =>
      intro n h t hmu
      exact absurd hmu (Nat.not_lt_zero _)
    | succ nmu ih =>
      intro n h t hmu ht hh H locs ls hX hl
      have ih_5_1 := ih
      clear ih
      refine xr_iload E hl 3 rfl dX5_digestsFigures_5 ?_
      refine xr_aload_n E hl 0 rfl dX5_digestsFigures_7 rfl ?_
      refine xr_get E hX 0 rfl rfl ly_X5 0 (by decide) fl_X5_12 rfl dX5_digestsFigures_8 ?_
      refine xr_get E hX 1 rfl rfl ly_X2 3 (by decide) fl_X5_124 rfl dX5_digestsFigures_11 ?_
      refine xr_icmp_ge (tgt := 74) E dX5_digestsFigures_14 (by decide) ⟨by omega, by omega⟩ ⟨by omega, by omega⟩ (fun c_14 => ?_) (fun c_14 => ?_)
      · have c_14 := c_14
        refine xr_iconst E dX5_digestsFigures_74 ?_
        refine xr_istore (lv' := [(5, .int (iI 0)), (0, .ref hXo), (1, .long (lI h0)), (3, .long (lI h))]) E hl dX5_digestsFigures_75 (by decide) rfl (fun ls hl => ?_)
        have L_77_2 : ∀ (nmu : Nat) (k : Nat) (h3 : Int) (v : Int), 3 - k < nmu → (v = k ∧ v ≤ 3) → (h3 = dgY ind tot q k h) → ∀ (H : Heap) (locs : List Loc) (ls : Array Slot), XW D A s.heap (W_XFo y hXo hF a_ind a_tot a_pri hD hP hT a_rfs a_shs ind tot pri q fr li sh) H locs → lv_has ls 7 [(0, .ref hXo), (1, .long (lI h0)), (3, .long (lI h3)), (5, .int (iI v))] → W p l e rm_X5_digestsFigures s m args below meth cX H locs 0 0 Q (F0 m 77 ls []) := by
          intro nmu
          induction nmu with
          | zero =>
            intro k h3 v hmu
            exact absurd hmu (Nat.not_lt_zero _)
          | succ nmu ih =>
            intro k h3 v hmu hv h3h H locs ls hX hl
            have ih_77_2 := ih
            clear ih
            refine xr_iload E hl 3 rfl dX5_digestsFigures_77 ?_
            refine xr_iconst E dX5_digestsFigures_79 ?_
            refine xr_icmp_ge (tgt := 123) E dX5_digestsFigures_80 (by decide) ⟨by omega, by omega⟩ (by decide) (fun c_80 => ?_) (fun c_80 => ?_)
            · have c_80 := c_80
              refine xr_lload_n E hl 2 rfl dX5_digestsFigures_123 rfl ?_
              exact xr_lret E hX hQ () hr (by rw [h3h, hh, dgFg, show k = 3 by omega, show q.toNat = n by omega]) rfl dX5_digestsFigures_124
            · have c_80 := c_80
              refine xr_iconst E dX5_digestsFigures_83 ?_
              refine xr_istore (lv' := [(6, .int (iI 0)), (0, .ref hXo), (1, .long (lI h0)), (3, .long (lI h3)), (5, .int (iI v))]) E hl dX5_digestsFigures_84 (by decide) rfl (fun ls hl => ?_)
              have L_86_3 : ∀ (nmu : Nat) (i : Nat) (h4 : Int) (w : Int), 3 - i < nmu → (w = i ∧ w ≤ 3) → (h4 = dgI (xYr ind tot q v) i h3) → ∀ (H : Heap) (locs : List Loc) (ls : Array Slot), XW D A s.heap (W_XFo y hXo hF a_ind a_tot a_pri hD hP hT a_rfs a_shs ind tot pri q fr li sh) H locs → lv_has ls 7 [(0, .ref hXo), (1, .long (lI h0)), (3, .long (lI h4)), (5, .int (iI v)), (6, .int (iI w))] → W p l e rm_X5_digestsFigures s m args below meth cX H locs 0 0 Q (F0 m 86 ls []) := by
                intro nmu
                induction nmu with
                | zero =>
                  intro i h4 w hmu
                  exact absurd hmu (Nat.not_lt_zero _)
                | succ nmu ih =>
                  intro i h4 w hmu hw h4h H locs ls hX hl
                  have ih_86_3 := ih
                  clear ih
                  refine xr_iload E hl 4 rfl dX5_digestsFigures_86 ?_
                  refine xr_iconst E dX5_digestsFigures_88 ?_
                  refine xr_icmp_gt (tgt := 117) E dX5_digestsFigures_89 (by decide) ⟨by omega, by omega⟩ (by decide) (fun c_89 => ?_) (fun c_89 => ?_)
                  · have c_89 := c_89
                    refine xr_iinc (k := 3) (lv' := [(5, .int (iI (v + 1))), (0, .ref hXo), (1, .long (lI h0)), (3, .long (lI h4)), (6, .int (iI w))]) E hl rfl dX5_digestsFigures_117 (by decide) rfl (fun ls hl => ?_)
                    refine xr_goto (tgt := 77) E dX5_digestsFigures_120 (by decide) ?_
                    exact ih_77_2 (k + 1) h4 (v + 1) (by omega) (by omega) (by rw [dgY_s, ← h3h, ← hv.1, h4h, show i = 3 by omega]) _ _ _ hX (lv_sub hl [1, 2, 3, 0] rfl)
                  · have c_89 := c_89
                    have hyb := xYr_bd H_I (v := v) (by omega) (by omega) w
                    refine xr_ldc2 (n := 31) E kl_X5_197 dX5_digestsFigures_92 (by decide) ?_
                    refine xr_lload_n E hl 2 rfl dX5_digestsFigures_95 rfl ?_
                    refine xr_lmul E dX5_digestsFigures_96 ?_
                    refine xr_aload_n E hl 0 rfl dX5_digestsFigures_97 rfl ?_
                    refine xr_get E hX 0 rfl rfl ly_X5 0 (by decide) fl_X5_12 rfl dX5_digestsFigures_98 ?_
                    refine xr_iload E hl 3 rfl dX5_digestsFigures_101 ?_
                    refine xr_iload E hl 4 rfl dX5_digestsFigures_103 ?_
                    refine xk_ri E hX [1, 2, 3, 4] rfl (xv_V (As := [.int (iI v), .int (iI w)]) E hX hl (c_X2_toldOfYear l D y z _ hF a_ind a_tot a_pri ind tot pri q fr li sh v w H_I (by omega) ⟨by omega, by omega⟩) ml_X5_98 im_X2_toldOfYear se_X2_toldOfYear in_X2 co_X2_toldOfYear 2 (by decide) ⟨rfl, rfl⟩ ⟨Nat.le_of_ble_eq_true rfl, Nat.le_of_ble_eq_true rfl⟩ [1, 2, 3, 4] rfl rfl 1 rfl rfl rfl rfl rfl (Nat.le_of_ble_eq_true rfl) dX5_digestsFigures_105 ⟨Nat.le_refl _, Nat.le_refl _⟩) (fun r_105 H locs hw hX => ?_)
                    subst hw
                    refine xr_i2l E dX5_digestsFigures_108 ⟨by omega, by omega⟩ ?_
                    refine xr_ladd E dX5_digestsFigures_109 ?_
                    refine xr_lstore_n (lv' := [(3, .long (lI ((31 * h4) + xYr ind tot q v w))), (0, .ref hXo), (1, .long (lI h0)), (5, .int (iI v)), (6, .int (iI w))]) E hl dX5_digestsFigures_110 rfl (by decide) rfl (fun ls hl => ?_)
                    refine xr_iinc (k := 4) (lv' := [(6, .int (iI (w + 1))), (3, .long (lI ((31 * h4) + xYr ind tot q v w))), (0, .ref hXo), (1, .long (lI h0)), (5, .int (iI v))]) E hl rfl dX5_digestsFigures_111 (by decide) rfl (fun ls hl => ?_)
                    refine xr_goto (tgt := 86) E dX5_digestsFigures_114 (by decide) ?_
                    exact ih_86_3 (i + 1) ((31 * h4) + xYr ind tot q v w) (w + 1) (by omega) (by omega) (by rw [dgI_s, ← h4h, ← hw.1]) _ _ _ hX (lv_sub hl [2, 3, 1, 4, 0] rfl)
              exact L_86_3 _ 0 h3 0 (Nat.lt_succ_self _) (by omega) rfl _ _ _ hX (lv_sub hl [1, 2, 3, 4, 0] rfl)
        exact L_77_2 _ 0 h 0 (Nat.lt_succ_self _) (by omega) rfl _ _ _ hX (lv_sub hl [1, 2, 3, 0] rfl)
      · have c_14 := c_14
        refine xr_iconst E dX5_digestsFigures_17 ?_
        refine xr_istore (lv' := [(6, .int (iI 0)), (0, .ref hXo), (1, .long (lI h0)), (3, .long (lI h)), (5, .int (iI t))]) E hl dX5_digestsFigures_18 (by decide) rfl (fun ls hl => ?_)
        have L_20_4 : ∀ (nmu : Nat) (j : Nat) (h2 : Int) (w : Int), 4 - j < nmu → (w = j ∧ w ≤ 4) → (h2 = dgI (xOf ind pri fr t) j h) → ∀ (H : Heap) (locs : List Loc) (ls : Array Slot), XW D A s.heap (W_XFo y hXo hF a_ind a_tot a_pri hD hP hT a_rfs a_shs ind tot pri q fr li sh) H locs → lv_has ls 7 [(0, .ref hXo), (1, .long (lI h0)), (3, .long (lI h2)), (5, .int (iI t)), (6, .int (iI w))] → W p l e rm_X5_digestsFigures s m args below meth cX H locs 0 0 Q (F0 m 20 ls []) := by
          intro nmu
          induction nmu with
          | zero =>
            intro j h2 w hmu
            exact absurd hmu (Nat.not_lt_zero _)
          | succ nmu ih =>
            intro j h2 w hmu hw h2h H locs ls hX hl
            have ih_20_4 := ih
            clear ih
            refine xr_iload E hl 4 rfl dX5_digestsFigures_20 ?_
            refine xr_iconst E dX5_digestsFigures_22 ?_
            refine xr_icmp_gt (tgt := 51) E dX5_digestsFigures_23 (by decide) ⟨by omega, by omega⟩ (by decide) (fun c_23 => ?_) (fun c_23 => ?_)
            · have c_23 := c_23
              have hsb := xShare_bd H_I (t := t) (by omega) (by omega)
              refine xr_ldc2 (n := 31) E kl_X5_197 dX5_digestsFigures_51 (by decide) ?_
              refine xr_lload_n E hl 2 rfl dX5_digestsFigures_54 rfl ?_
              refine xr_lmul E dX5_digestsFigures_55 ?_
              refine xr_aload_n E hl 0 rfl dX5_digestsFigures_56 rfl ?_
              refine xr_get E hX 0 rfl rfl ly_X5 0 (by decide) fl_X5_12 rfl dX5_digestsFigures_57 ?_
              refine xr_iload E hl 3 rfl dX5_digestsFigures_60 ?_
              refine xk_ri E hX [1, 2, 3, 4] rfl (xv_V (As := [.int (iI t)]) E hX hl (c_X2_share l D y z _ hF a_ind a_tot a_pri ind tot pri q fr li sh t H_I (by omega)) ml_X5_145 im_X2_share se_X2_share in_X2 co_X2_share 1 (by decide) ⟨rfl, rfl⟩ ⟨Nat.le_of_ble_eq_true rfl, Nat.le_of_ble_eq_true rfl⟩ [1, 2, 3, 4] rfl rfl 1 rfl rfl rfl rfl rfl (Nat.le_of_ble_eq_true rfl) dX5_digestsFigures_62 ⟨Nat.le_refl _, Nat.le_refl _⟩) (fun r_62 H locs hw hX => ?_)
              subst hw
              refine xr_i2l E dX5_digestsFigures_65 ⟨by omega, by omega⟩ ?_
              refine xr_ladd E dX5_digestsFigures_66 ?_
              refine xr_lstore_n (lv' := [(3, .long (lI ((31 * h2) + xShare ind tot q t))), (0, .ref hXo), (1, .long (lI h0)), (5, .int (iI t)), (6, .int (iI w))]) E hl dX5_digestsFigures_67 rfl (by decide) rfl (fun ls hl => ?_)
              refine xr_iinc (k := 3) (lv' := [(5, .int (iI (t + 1))), (3, .long (lI ((31 * h2) + xShare ind tot q t))), (0, .ref hXo), (1, .long (lI h0)), (6, .int (iI w))]) E hl rfl dX5_digestsFigures_68 (by decide) rfl (fun ls hl => ?_)
              refine xr_goto (tgt := 5) E dX5_digestsFigures_71 (by decide) ?_
              exact ih_5_1 (n + 1) ((31 * h2) + xShare ind tot q t) (t + 1) (by omega) (by omega) (by rw [dgF_s, ← hh, ← ht.1, h2h, show j = 4 by omega]) _ _ _ hX (lv_sub hl [2, 3, 1, 0] rfl)
            · have c_23 := c_23
              have hob := xOf_bd H_I (t := t) (by omega) (by omega) w
              refine xr_ldc2 (n := 31) E kl_X5_197 dX5_digestsFigures_26 (by decide) ?_
              refine xr_lload_n E hl 2 rfl dX5_digestsFigures_29 rfl ?_
              refine xr_lmul E dX5_digestsFigures_30 ?_
              refine xr_aload_n E hl 0 rfl dX5_digestsFigures_31 rfl ?_
              refine xr_get E hX 0 rfl rfl ly_X5 0 (by decide) fl_X5_12 rfl dX5_digestsFigures_32 ?_
              refine xr_iload E hl 3 rfl dX5_digestsFigures_35 ?_
              refine xr_iload E hl 4 rfl dX5_digestsFigures_37 ?_
              refine xk_ri E hX [1, 2, 3, 4] rfl (xv_V (As := [.int (iI t), .int (iI w)]) E hX hl (c_X2_toldOfQuarter l D y z _ hF a_ind a_tot a_pri ind tot pri q fr li sh t w H_I (by omega) ⟨by omega, by omega⟩) ml_X5_92 im_X2_toldOfQuarter se_X2_toldOfQuarter in_X2 co_X2_toldOfQuarter 2 (by decide) ⟨rfl, rfl⟩ ⟨Nat.le_of_ble_eq_true rfl, Nat.le_of_ble_eq_true rfl⟩ [1, 2, 3, 4] rfl rfl 1 rfl rfl rfl rfl rfl (Nat.le_of_ble_eq_true rfl) dX5_digestsFigures_39 ⟨Nat.le_refl _, Nat.le_refl _⟩) (fun r_39 H locs hw hX => ?_)
              subst hw
              refine xr_i2l E dX5_digestsFigures_42 ⟨by omega, by omega⟩ ?_
              refine xr_ladd E dX5_digestsFigures_43 ?_
              refine xr_lstore_n (lv' := [(3, .long (lI ((31 * h2) + xOf ind pri fr t w))), (0, .ref hXo), (1, .long (lI h0)), (5, .int (iI t)), (6, .int (iI w))]) E hl dX5_digestsFigures_44 rfl (by decide) rfl (fun ls hl => ?_)
              refine xr_iinc (k := 4) (lv' := [(6, .int (iI (w + 1))), (3, .long (lI ((31 * h2) + xOf ind pri fr t w))), (0, .ref hXo), (1, .long (lI h0)), (5, .int (iI t))]) E hl rfl dX5_digestsFigures_45 (by decide) rfl (fun ls hl => ?_)
              refine xr_goto (tgt := 20) E dX5_digestsFigures_48 (by decide) ?_
              exact ih_20_4 (j + 1) ((31 * h2) + xOf ind pri fr t w) (w + 1) (by omega) (by omega) (by rw [dgI_s, ← h2h, ← hw.1]) _ _ _ hX (lv_sub hl [2, 3, 1, 4, 0] rfl)
        exact L_20_4 _ 0 h 0 (Nat.lt_succ_self _) (by omega) rfl _ _ _ hX (lv_sub hl [1, 2, 3, 4, 0] rfl)
  exact L_5_1 _ 0 h0 0 (Nat.lt_succ_self _) (by omega) rfl _ _ _ hX (lv_sub hl [2, 3, 1, 0] rfl)
abbrev rm_X5_digestsBent : Room := { frames := 4, cells := 0, slots := 0, locals := 107 }
set_option maxHeartbeats 4000000 in
set_option maxRecDepth 100000 in
theorem c_X5_digestsBent (l : Launch) (D : va_G) (y : CY) (z sz : Nat) (hXo hF a_ind a_tot a_pri hD hB a_low a_high a_ll a_lh a_bnd a_gap a_costs a_ways a_stc a_row hP hT a_rfs a_shs : Nat) (ind : Int → Int) (tot : Int → Int) (pri : Int → Int) (q : Int) (fr : Int) (li : Int) (sh : Int) (low : Int → Int) (high : Int → Int) (ll : Int → Int) (lh : Int → Int) (bnd : Int → Bool) (gap : Int → Int) (bq : Int) (costs : Int → Int) (ways : Int → Int) (stc : Int → Int) (bc : Int) (bw : Int) (bs : Int) (kn : Bool) (th : Bool) (row : Int → Int) (rows : Int) (rfs : Int → Int) (h0 : Int) (H_I : FI ind tot pri q fr li sh) (H_K : KOk ind tot pri q fr li sh kn th row rows) : Met l yX5_digestsBent (Cond.code yX5_digestsBent cX5_digestsBent 6 (some .long) :: TW) rm_X5_digestsBent (va_Pc [.ref hXo, .long (lI h0)] (PX D y z (W_XFD y hXo hF a_ind a_tot a_pri hD hB a_low a_high a_ll a_lh a_bnd a_gap a_costs a_ways a_stc a_row hP hT a_rfs a_shs ind tot pri q fr li sh low high ll lh bnd gap bq costs ways stc bc bw bs kn th row rows rfs) sz)) (va_Ql (fun (r : Int64) (uu : (Int → Int) × (Int → Int) × (Int → Int) × (Int → Int) × (Int → Bool) × (Int → Int) × (Int) × (Int → Int) × (Int → Int) × (Int → Int) × (Int) × (Int) × (Int) × (Bool) × (Bool) × (Int → Int) × (Int)) => r = lI (dgB ind tot pri q fr li sh h0) ∧ KOk ind tot pri q fr li sh uu.2.2.2.2.2.2.2.2.2.2.2.2.2.1 uu.2.2.2.2.2.2.2.2.2.2.2.2.2.2.1 uu.2.2.2.2.2.2.2.2.2.2.2.2.2.2.2.1 uu.2.2.2.2.2.2.2.2.2.2.2.2.2.2.2.2) (fun uu t => BX D (W_XFD y hXo hF a_ind a_tot a_pri hD hB a_low a_high a_ll a_lh a_bnd a_gap a_costs a_ways a_stc a_row hP hT a_rfs a_shs ind tot pri q fr li sh uu.1 uu.2.1 uu.2.2.1 uu.2.2.2.1 uu.2.2.2.2.1 uu.2.2.2.2.2.1 uu.2.2.2.2.2.2.1 uu.2.2.2.2.2.2.2.1 uu.2.2.2.2.2.2.2.2.1 uu.2.2.2.2.2.2.2.2.2.1 uu.2.2.2.2.2.2.2.2.2.2.1 uu.2.2.2.2.2.2.2.2.2.2.2.1 uu.2.2.2.2.2.2.2.2.2.2.2.2.1 uu.2.2.2.2.2.2.2.2.2.2.2.2.2.1 uu.2.2.2.2.2.2.2.2.2.2.2.2.2.2.1 uu.2.2.2.2.2.2.2.2.2.2.2.2.2.2.2.1 uu.2.2.2.2.2.2.2.2.2.2.2.2.2.2.2.2 rfs) (va_A (W_XFD y hXo hF a_ind a_tot a_pri hD hB a_low a_high a_ll a_lh a_bnd a_gap a_costs a_ways a_stc a_row hP hT a_rfs a_shs ind tot pri q fr li sh low high ll lh bnd gap bq costs ways stc bc bw bs kn th row rows rfs) sz) t) (va_A (W_XFD y hXo hF a_ind a_tot a_pri hD hB a_low a_high a_ll a_lh a_bnd a_gap a_costs a_ways a_stc a_row hP hT a_rfs a_shs ind tot pri q fr li sh low high ll lh bnd gap bq costs ways stc bc bw bs kn th row rows rfs) sz)) 0 0 (va_A (W_XFD y hXo hF a_ind a_tot a_pri hD hB a_low a_high a_ll a_lh a_bnd a_gap a_costs a_ways a_stc a_row hP hT a_rfs a_shs ind tot pri q fr li sh low high ll lh bnd gap bq costs ways stc bc bw bs kn th row rows rfs) sz) := by
  refine xm_l (by decide) (Nat.le_of_ble_eq_true rfl) (fun p e s m args below meth cX ls A Q E hr hnm hX hl hQ => ?_)
  have hl : lv_has ls 6 [(0, .ref hXo), (1, .long (lI h0))] := hl
  have hq := H_I.q
  have hfr := H_I.fr
  have hli := H_I.li
  have hsh := H_I.sh
  refine xr_aload_n E hl 0 rfl dX5_digestsBent_0 rfl ?_
  refine xr_get E hX 0 rfl rfl ly_X5 1 (by decide) fl_X5_19 rfl dX5_digestsBent_1 ?_
  refine xr_aload_n E hl 0 rfl dX5_digestsBent_4 rfl ?_
  refine xr_get E hX 0 rfl rfl ly_X5 0 (by decide) fl_X5_12 rfl dX5_digestsBent_5 ?_
  refine xk_i (W2 := fun uu => (W_XFD y hXo hF a_ind a_tot a_pri hD hB a_low a_high a_ll a_lh a_bnd a_gap a_costs a_ways a_stc a_row hP hT a_rfs a_shs ind tot pri q fr li sh uu.1 uu.2.1 uu.2.2.1 uu.2.2.2.1 uu.2.2.2.2.1 uu.2.2.2.2.2.1 uu.2.2.2.2.2.2.1 uu.2.2.2.2.2.2.2.1 uu.2.2.2.2.2.2.2.2.1 uu.2.2.2.2.2.2.2.2.2.1 uu.2.2.2.2.2.2.2.2.2.2.1 uu.2.2.2.2.2.2.2.2.2.2.2.1 uu.2.2.2.2.2.2.2.2.2.2.2.2.1 uu.2.2.2.2.2.2.2.2.2.2.2.2.2.1 uu.2.2.2.2.2.2.2.2.2.2.2.2.2.2.1 uu.2.2.2.2.2.2.2.2.2.2.2.2.2.2.2.1 uu.2.2.2.2.2.2.2.2.2.2.2.2.2.2.2.2 rfs)) E hX [5, 6, 7, 8, 9, 10, 11, 12, 13, 14, 15, 16, 1, 2, 3, 4] rfl (xv_V (As := [.ref hF]) E hX hl (c_X0_bends l D y z _ hD hB a_low a_high a_ll a_lh a_bnd a_gap a_costs a_ways a_stc a_row hF a_ind a_tot a_pri low high ll lh bnd gap bq costs ways stc bc bw bs kn th row rows ind tot pri q fr li sh H_I H_K) ml_X5_104 im_X0_bends se_X0_bends in_X0 co_X0_bends 1 (by decide) ⟨rfl, rfl⟩ ⟨Nat.le_of_ble_eq_true rfl, Nat.le_of_ble_eq_true rfl⟩ [5, 6, 7, 8, 9, 10, 11, 12, 13, 14, 15, 16, 1, 2, 3, 4] rfl rfl 5 rfl rfl rfl rfl rfl (Nat.le_of_ble_eq_true rfl) dX5_digestsBent_8 ⟨Nat.le_refl _, Nat.le_refl _⟩) [16, 12, 13, 14, 15, 0, 1, 2, 3, 4, 5, 6, 7, 8, 9, 10, 11, 33] 16 (fun _ => rfl) (fun _ => rfl) (by decide) (by decide) (fun r_8 uu H locs hw hX => ?_)
  obtain ⟨low_8, high_8, ll_8, lh_8, bnd_8, gap_8, bq_8, costs_8, ways_8, stc_8, bc_8, bw_8, bs_8, kn_8, th_8, row_8, rows_8⟩ := uu
  have hX : XW D A s.heap (W_XFD y hXo hF a_ind a_tot a_pri hD hB a_low a_high a_ll a_lh a_bnd a_gap a_costs a_ways a_stc a_row hP hT a_rfs a_shs ind tot pri q fr li sh low_8 high_8 ll_8 lh_8 bnd_8 gap_8 bq_8 costs_8 ways_8 stc_8 bc_8 bw_8 bs_8 kn_8 th_8 row_8 rows_8 rfs) H locs := hX
  try dsimp only at hw
  obtain ⟨rfl, hp_8⟩ := hw
  have hk : KOk ind tot pri q fr li sh kn_8 th_8 row_8 rows_8 := fun _ => ⟨hp_8.2.1, fun h => hp_8.2.2 (by rw [← hp_8.2.1]; exact h)⟩
  refine xr_if_neB (tgt := 20) E dX5_digestsBent_11 (by decide) (fun c_11 => ?_) (fun c_11 => ?_)
  · have c_11 := c_11
    refine xr_ldc2 (n := 31) E kl_X5_197 dX5_digestsBent_20 (by decide) ?_
    refine xr_lload_n E hl 1 rfl dX5_digestsBent_23 rfl ?_
    refine xr_lmul E dX5_digestsBent_24 ?_
    refine xr_lconst (v := 1) E dX5_digestsBent_25 (by decide) ?_
    refine xr_ladd E dX5_digestsBent_26 ?_
    refine xr_lstore_n (lv' := [(3, .long (lI ((31 * h0) + 1))), (0, .ref hXo), (1, .long (lI h0))]) E hl dX5_digestsBent_27 rfl (by decide) rfl (fun ls hl => ?_)
    refine xr_iconst E dX5_digestsBent_28 ?_
    refine xr_istore (lv' := [(5, .int (iI 0)), (3, .long (lI ((31 * h0) + 1))), (0, .ref hXo), (1, .long (lI h0))]) E hl dX5_digestsBent_29 (by decide) rfl (fun ls hl => ?_)
    have L_31_2 : ∀ (nmu : Nat) (n : Nat) (h : Int) (t : Int), 12 - n < nmu → (t = n ∧ t ≤ q) → (h = dgI (fun t => xRow ind tot pri q fr li sh t + 8) n (31 * h0 + 1)) → ∀ (H : Heap) (locs : List Loc) (ls : Array Slot), XW D A s.heap (W_XFD y hXo hF a_ind a_tot a_pri hD hB a_low a_high a_ll a_lh a_bnd a_gap a_costs a_ways a_stc a_row hP hT a_rfs a_shs ind tot pri q fr li sh low_8 high_8 ll_8 lh_8 bnd_8 gap_8 bq_8 costs_8 ways_8 stc_8 bc_8 bw_8 bs_8 kn_8 th_8 row_8 rows_8 rfs) H locs → lv_has ls 6 [(0, .ref hXo), (1, .long (lI h0)), (3, .long (lI h)), (5, .int (iI t))] → W p l e rm_X5_digestsBent s m args below meth cX H locs 0 0 Q (F0 m 31 ls []) := by
      intro nmu
      induction nmu with
      | zero =>
        intro n h t hmu
        exact absurd hmu (Nat.not_lt_zero _)
      | succ nmu ih =>
        intro n h t hmu ht hh H locs ls hX hl
        have ih_31_2 := ih
        clear ih
        refine xr_iload E hl 3 rfl dX5_digestsBent_31 ?_
        refine xr_aload_n E hl 0 rfl dX5_digestsBent_33 rfl ?_
        refine xr_get E hX 0 rfl rfl ly_X5 0 (by decide) fl_X5_12 rfl dX5_digestsBent_34 ?_
        refine xr_get E hX 1 rfl rfl ly_X2 3 (by decide) fl_X5_124 rfl dX5_digestsBent_37 ?_
        refine xr_icmp_ge (tgt := 71) E dX5_digestsBent_40 (by decide) ⟨by omega, by omega⟩ ⟨by omega, by omega⟩ (fun c_40 => ?_) (fun c_40 => ?_)
        · have c_40 := c_40
          refine xr_iconst E dX5_digestsBent_71 ?_
          refine xr_istore (lv' := [(5, .int (iI 0)), (0, .ref hXo), (1, .long (lI h0)), (3, .long (lI h))]) E hl dX5_digestsBent_72 (by decide) rfl (fun ls hl => ?_)
          have L_74_3 : ∀ (nmu : Nat) (j : Nat) (h2 : Int) (k : Int), 2 - j < nmu → (k = j ∧ k ≤ 2) → (h2 = dgI (fun k => xMoved ind (xRow ind tot pri q fr li sh) q k) j h) → ∀ (H : Heap) (locs : List Loc) (ls : Array Slot), XW D A s.heap (W_XFD y hXo hF a_ind a_tot a_pri hD hB a_low a_high a_ll a_lh a_bnd a_gap a_costs a_ways a_stc a_row hP hT a_rfs a_shs ind tot pri q fr li sh low_8 high_8 ll_8 lh_8 bnd_8 gap_8 bq_8 costs_8 ways_8 stc_8 bc_8 bw_8 bs_8 kn_8 th_8 row_8 rows_8 rfs) H locs → lv_has ls 6 [(0, .ref hXo), (1, .long (lI h0)), (3, .long (lI h2)), (5, .int (iI k))] → W p l e rm_X5_digestsBent s m args below meth cX H locs 0 0 Q (F0 m 74 ls []) := by
            intro nmu
            induction nmu with
            | zero =>
              intro j h2 k hmu
              exact absurd hmu (Nat.not_lt_zero _)
            | succ nmu ih =>
              intro j h2 k hmu hkj h2h H locs ls hX hl
              have ih_74_3 := ih
              clear ih
              refine xr_iload E hl 3 rfl dX5_digestsBent_74 ?_
              refine xr_iconst E dX5_digestsBent_76 ?_
              refine xr_icmp_ge (tgt := 109) E dX5_digestsBent_77 (by decide) ⟨by omega, by omega⟩ (by decide) (fun c_77 => ?_) (fun c_77 => ?_)
              · have c_77 := c_77
                refine xr_lload_n E hl 2 rfl dX5_digestsBent_109 rfl ?_
                exact xr_lret E hX hQ (low_8, high_8, ll_8, lh_8, bnd_8, gap_8, bq_8, costs_8, ways_8, stc_8, bc_8, bw_8, bs_8, kn_8, th_8, row_8, rows_8) hr ⟨by unfold dgB; rw [if_pos c_11, h2h, hh, show j = 2 by omega, show q.toNat = n by omega], hk⟩ rfl dX5_digestsBent_110
              · have c_77 := c_77
                refine xr_ldc2 (n := 31) E kl_X5_197 dX5_digestsBent_80 (by decide) ?_
                refine xr_lload_n E hl 2 rfl dX5_digestsBent_83 rfl ?_
                refine xr_lmul E dX5_digestsBent_84 ?_
                refine xr_aload_n E hl 0 rfl dX5_digestsBent_85 rfl ?_
                refine xr_get E hX 0 rfl rfl ly_X5 0 (by decide) fl_X5_12 rfl dX5_digestsBent_86 ?_
                refine xr_aload_n E hl 0 rfl dX5_digestsBent_89 rfl ?_
                refine xr_get E hX 0 rfl rfl ly_X5 1 (by decide) fl_X5_19 rfl dX5_digestsBent_90 ?_
                refine xr_get E hX 5 rfl rfl ly_X0 9 (by decide) fl_X5_108 rfl dX5_digestsBent_93 ?_
                refine xr_iload E hl 3 rfl dX5_digestsBent_96 ?_
                refine xk_rl E hX [1, 2, 3, 4, 16] rfl (xv_V (As := [.ref a_row, .int (iI k)]) E hX hl (c_X2_movement l D y z _ hF a_ind a_tot a_pri a_row ind tot pri q fr li sh row_8 k H_I (fun t h0 h1 => by rw [(hp_8.2.2 c_11).1 t h0 h1]; have h9 := xRow_bd (sh := sh) H_I hli c_11 h0 h1; omega) ⟨by omega, by omega⟩) ml_X5_114 im_X2_movement se_X2_movement in_X2 co_X2_movement 2 (by decide) ⟨rfl, rfl⟩ ⟨Nat.le_of_ble_eq_true rfl, Nat.le_of_ble_eq_true rfl⟩ [1, 2, 3, 4, 16] rfl rfl 1 rfl rfl rfl rfl rfl (Nat.le_of_ble_eq_true rfl) dX5_digestsBent_98 ⟨Nat.le_refl _, Nat.le_refl _⟩) (fun r_98 H locs hw hX => ?_)
                subst hw
                refine xr_ladd E dX5_digestsBent_101 ?_
                refine xr_lstore_n (lv' := [(3, .long (lI ((31 * h2) + xMoved ind row_8 q k))), (0, .ref hXo), (1, .long (lI h0)), (5, .int (iI k))]) E hl dX5_digestsBent_102 rfl (by decide) rfl (fun ls hl => ?_)
                refine xr_iinc (k := 3) (lv' := [(5, .int (iI (k + 1))), (3, .long (lI ((31 * h2) + xMoved ind row_8 q k))), (0, .ref hXo), (1, .long (lI h0))]) E hl rfl dX5_digestsBent_103 (by decide) rfl (fun ls hl => ?_)
                refine xr_goto (tgt := 74) E dX5_digestsBent_106 (by decide) ?_
                exact ih_74_3 (j + 1) ((31 * h2) + xMoved ind row_8 q k) (k + 1) (by omega) (by omega) (by rw [dgI_s, ← h2h, ← hkj.1, xMoved_cong (hp_8.2.2 c_11).1]) _ _ _ hX (lv_sub hl [2, 3, 1, 0] rfl)
          exact L_74_3 _ 0 h 0 (Nat.lt_succ_self _) (by omega) rfl _ _ _ hX (lv_sub hl [1, 2, 3, 0] rfl)
        · have c_40 := c_40
          have hrb := xRow_bd (sh := sh) (t := t) H_I hli c_11 (by omega) c_40
          have hre := (hp_8.2.2 c_11).1 t (by omega) c_40
          refine xr_ldc2 (n := 31) E kl_X5_197 dX5_digestsBent_43 (by decide) ?_
          refine xr_lload_n E hl 2 rfl dX5_digestsBent_46 rfl ?_
          refine xr_lmul E dX5_digestsBent_47 ?_
          refine xr_aload_n E hl 0 rfl dX5_digestsBent_48 rfl ?_
          refine xr_get E hX 0 rfl rfl ly_X5 1 (by decide) fl_X5_19 rfl dX5_digestsBent_49 ?_
          refine xr_get E hX 5 rfl rfl ly_X0 9 (by decide) fl_X5_108 rfl dX5_digestsBent_52 ?_
          refine xr_iload E hl 3 rfl dX5_digestsBent_55 ?_
          refine xr_iald E hX 16 rfl (by omega) (by omega) (by decide) dX5_digestsBent_57 ?_
          refine xr_i2l E dX5_digestsBent_58 ⟨by omega, by omega⟩ ?_
          refine xr_ladd E dX5_digestsBent_59 ?_
          refine xr_ldc2 (n := 8) E kl_X5_209 dX5_digestsBent_60 (by decide) ?_
          refine xr_ladd E dX5_digestsBent_63 ?_
          refine xr_lstore_n (lv' := [(3, .long (lI (((31 * h) + (row_8 t)) + 8))), (0, .ref hXo), (1, .long (lI h0)), (5, .int (iI t))]) E hl dX5_digestsBent_64 rfl (by decide) rfl (fun ls hl => ?_)
          refine xr_iinc (k := 3) (lv' := [(5, .int (iI (t + 1))), (3, .long (lI (((31 * h) + (row_8 t)) + 8))), (0, .ref hXo), (1, .long (lI h0))]) E hl rfl dX5_digestsBent_65 (by decide) rfl (fun ls hl => ?_)
          refine xr_goto (tgt := 31) E dX5_digestsBent_68 (by decide) ?_
          exact ih_31_2 (n + 1) (((31 * h) + (row_8 t)) + 8) (t + 1) (by omega) (by omega) (by rw [dgI_s, ← hh, ← ht.1, (hp_8.2.2 c_11).1 t (by omega) c_40]; omega) _ _ _ hX (lv_sub hl [2, 3, 1, 0] rfl)
    exact L_31_2 _ 0 ((31 * h0) + 1) 0 (Nat.lt_succ_self _) (by omega) rfl _ _ _ hX (lv_sub hl [2, 3, 1, 0] rfl)
  · have c_11 := c_11
    refine xr_ldc2 (n := 31) E kl_X5_197 dX5_digestsBent_14 (by decide) ?_
    refine xr_lload_n E hl 1 rfl dX5_digestsBent_17 rfl ?_
    refine xr_lmul E dX5_digestsBent_18 ?_
    exact xr_lret E hX hQ (low_8, high_8, ll_8, lh_8, bnd_8, gap_8, bq_8, costs_8, ways_8, stc_8, bc_8, bw_8, bs_8, kn_8, th_8, row_8, rows_8) hr ⟨by unfold dgB; rw [if_neg (by rw [c_11]; decide)], hk⟩ rfl dX5_digestsBent_19
abbrev rm_X5_digest : Room := { frames := 5, cells := 0, slots := 0, locals := 132 }
set_option maxHeartbeats 4000000 in
set_option maxRecDepth 100000 in
theorem c_X5_digest (l : Launch) (D : va_G) (y : CY) (z sz : Nat) (hXo hF a_ind a_tot a_pri hD hB a_low a_high a_ll a_lh a_bnd a_gap a_costs a_ways a_stc a_row hP a_ring hT a_byt a_ltr a_fir a_sec a_rfs a_shs : Nat) (ind : Int → Int) (tot : Int → Int) (pri : Int → Int) (q : Int) (fr : Int) (li : Int) (sh : Int) (low : Int → Int) (high : Int → Int) (ll : Int → Int) (lh : Int → Int) (bnd : Int → Bool) (gap : Int → Int) (bq : Int) (costs : Int → Int) (ways : Int → Int) (stc : Int → Int) (bc : Int) (bw : Int) (bs : Int) (kn : Bool) (th : Bool) (row : Int → Int) (rows : Int) (top : Int) (sts : Int) (len : Int) (ord : Int) (opn : Bool) (num : Int) (fig : Int) (rfs : Int → Int) (shs : Int → Int) (H_I : FI ind tot pri q fr li sh) (H_K : KOk ind tot pri q fr li sh kn th row rows) (hrf0 : ∀ k : Int, 0 ≤ k → k < 3 → 0 ≤ rfs k ∧ rfs k ≤ 100000000) (hl0 : 0 ≤ len ∧ len ≤ 120) (hs0 : 0 ≤ sts ∧ sts ≤ 5) : Met l yX5_digest (Cond.code yX5_digest cX5_digest 4 (some .long) :: TW) rm_X5_digest (va_Pc [.ref hXo] (PX D y z (W_Xdg y hXo hF a_ind a_tot a_pri hD hB a_low a_high a_ll a_lh a_bnd a_gap a_costs a_ways a_stc a_row hP a_ring hT a_byt a_ltr a_fir a_sec a_rfs a_shs ind tot pri q fr li sh low high ll lh bnd gap bq costs ways stc bc bw bs kn th row rows top sts len ord opn num fig rfs shs) sz)) (va_Ql (fun (r : Int64) (uu : (Int → Int) × (Int → Int) × (Int → Int) × (Int → Int) × (Int → Bool) × (Int → Int) × (Int) × (Int → Int) × (Int → Int) × (Int → Int) × (Int) × (Int) × (Int) × (Bool) × (Bool) × (Int → Int) × (Int) × (Int → Int)) => r = lI (xDig ind tot pri q fr li sh rfs len sts) ∧ KOk ind tot pri q fr li sh uu.2.2.2.2.2.2.2.2.2.2.2.2.2.1 uu.2.2.2.2.2.2.2.2.2.2.2.2.2.2.1 uu.2.2.2.2.2.2.2.2.2.2.2.2.2.2.2.1 uu.2.2.2.2.2.2.2.2.2.2.2.2.2.2.2.2.1) (fun uu t => BX D (W_Xdg y hXo hF a_ind a_tot a_pri hD hB a_low a_high a_ll a_lh a_bnd a_gap a_costs a_ways a_stc a_row hP a_ring hT a_byt a_ltr a_fir a_sec a_rfs a_shs ind tot pri q fr li sh uu.1 uu.2.1 uu.2.2.1 uu.2.2.2.1 uu.2.2.2.2.1 uu.2.2.2.2.2.1 uu.2.2.2.2.2.2.1 uu.2.2.2.2.2.2.2.1 uu.2.2.2.2.2.2.2.2.1 uu.2.2.2.2.2.2.2.2.2.1 uu.2.2.2.2.2.2.2.2.2.2.1 uu.2.2.2.2.2.2.2.2.2.2.2.1 uu.2.2.2.2.2.2.2.2.2.2.2.2.1 uu.2.2.2.2.2.2.2.2.2.2.2.2.2.1 uu.2.2.2.2.2.2.2.2.2.2.2.2.2.2.1 uu.2.2.2.2.2.2.2.2.2.2.2.2.2.2.2.1 uu.2.2.2.2.2.2.2.2.2.2.2.2.2.2.2.2.1 top sts len ord opn num fig rfs uu.2.2.2.2.2.2.2.2.2.2.2.2.2.2.2.2.2) (va_A (W_Xdg y hXo hF a_ind a_tot a_pri hD hB a_low a_high a_ll a_lh a_bnd a_gap a_costs a_ways a_stc a_row hP a_ring hT a_byt a_ltr a_fir a_sec a_rfs a_shs ind tot pri q fr li sh low high ll lh bnd gap bq costs ways stc bc bw bs kn th row rows top sts len ord opn num fig rfs shs) sz) t) (va_A (W_Xdg y hXo hF a_ind a_tot a_pri hD hB a_low a_high a_ll a_lh a_bnd a_gap a_costs a_ways a_stc a_row hP a_ring hT a_byt a_ltr a_fir a_sec a_rfs a_shs ind tot pri q fr li sh low high ll lh bnd gap bq costs ways stc bc bw bs kn th row rows top sts len ord opn num fig rfs shs) sz)) 0 0 (va_A (W_Xdg y hXo hF a_ind a_tot a_pri hD hB a_low a_high a_ll a_lh a_bnd a_gap a_costs a_ways a_stc a_row hP a_ring hT a_byt a_ltr a_fir a_sec a_rfs a_shs ind tot pri q fr li sh low high ll lh bnd gap bq costs ways stc bc bw bs kn th row rows top sts len ord opn num fig rfs shs) sz) := by
  refine xm_l (by decide) (Nat.le_of_ble_eq_true rfl) (fun p e s m args below meth cX ls A Q E hr hnm hX hl hQ => ?_)
  have hl : lv_has ls 4 [(0, .ref hXo)] := hl
  have hq := H_I.q
  have hfr := H_I.fr
  have hli := H_I.li
  have hsh := H_I.sh
  refine xr_ldc2 (n := 1980) E kl_X5_195 dX5_digest_0 (by decide) ?_
  refine xr_lstore_n (lv' := [(1, .long (lI 1980)), (0, .ref hXo)]) E hl dX5_digest_3 rfl (by decide) rfl (fun ls hl => ?_)
  refine xr_iconst E dX5_digest_4 ?_
  refine xr_istore_n (lv' := [(3, .int (iI 0)), (1, .long (lI 1980)), (0, .ref hXo)]) E hl dX5_digest_5 rfl (by decide) rfl (fun ls hl => ?_)
  have L_6_1 : ∀ (nmu : Nat) (n : Nat) (h : Int) (w : Int) (rf1 : Int → Int), 5 - n < nmu → (w = n ∧ w ≤ 5) → (rfs = rf1) → (h = dgI (xTo rfs len sts) n 1980) → ∀ (H : Heap) (locs : List Loc) (ls : Array Slot), XW D A s.heap (W_Xdg y hXo hF a_ind a_tot a_pri hD hB a_low a_high a_ll a_lh a_bnd a_gap a_costs a_ways a_stc a_row hP a_ring hT a_byt a_ltr a_fir a_sec a_rfs a_shs ind tot pri q fr li sh low high ll lh bnd gap bq costs ways stc bc bw bs kn th row rows top sts len ord opn num fig rf1 shs) H locs → lv_has ls 4 [(0, .ref hXo), (1, .long (lI h)), (3, .int (iI w))] → W p l e rm_X5_digest s m args below meth cX H locs 0 0 Q (F0 m 6 ls []) := by
    intro nmu
    induction nmu with
    | zero =>
      intro n h w rf1 hmu
      exact absurd hmu (Nat.not_lt_zero _)
    | succ nmu ih =>
      intro n h w rf1 hmu hw hrf hh H locs ls hX hl
      have ih_6_1 := ih
      clear ih
      refine xr_iload_n E hl 2 rfl dX5_digest_6 rfl ?_
      refine xr_iconst E dX5_digest_7 ?_
      refine xr_icmp_gt (tgt := 30) E dX5_digest_8 (by decide) ⟨by omega, by omega⟩ (by decide) (fun c_8 => ?_) (fun c_8 => ?_)
      · have c_8 := c_8
        subst hrf
        refine xr_iconst E dX5_digest_30 ?_
        refine xr_istore_n (lv' := [(3, .int (iI 0)), (0, .ref hXo), (1, .long (lI h))]) E hl dX5_digest_31 rfl (by decide) rfl (fun ls hl => ?_)
        have L_32_2 : ∀ (nmu : Nat) (j : Nat) (h2 : Int) (w : Int), 6 - j < nmu → (w = j ∧ w ≤ 6) → (h2 = dgI (xAll tot pri q fr li sh) j h) → ∀ (H : Heap) (locs : List Loc) (ls : Array Slot), XW D A s.heap (W_Xdg y hXo hF a_ind a_tot a_pri hD hB a_low a_high a_ll a_lh a_bnd a_gap a_costs a_ways a_stc a_row hP a_ring hT a_byt a_ltr a_fir a_sec a_rfs a_shs ind tot pri q fr li sh low high ll lh bnd gap bq costs ways stc bc bw bs kn th row rows top sts len ord opn num fig rfs shs) H locs → lv_has ls 4 [(0, .ref hXo), (1, .long (lI h2)), (3, .int (iI w))] → W p l e rm_X5_digest s m args below meth cX H locs 0 0 Q (F0 m 32 ls []) := by
          intro nmu
          induction nmu with
          | zero =>
            intro j h2 w hmu
            exact absurd hmu (Nat.not_lt_zero _)
          | succ nmu ih =>
            intro j h2 w hmu hw h2h H locs ls hX hl
            have ih_32_2 := ih
            clear ih
            refine xr_iload_n E hl 2 rfl dX5_digest_32 rfl ?_
            refine xr_iconst E dX5_digest_33 ?_
            refine xr_icmp_gt (tgt := 59) E dX5_digest_34 (by decide) ⟨by omega, by omega⟩ (by decide) (fun c_34 => ?_) (fun c_34 => ?_)
            · have c_34 := c_34
              refine xr_aload_n E hl 0 rfl dX5_digest_59 rfl ?_
              refine xr_lload_n E hl 1 rfl dX5_digest_60 rfl ?_
              refine xk_rl E hX [0, 1, 2, 3, 4] rfl (xv_V (As := [.long (lI h2)]) E hX hl (c_X5_digestsFigures l D y z _ hXo hF a_ind a_tot a_pri hD hP hT a_rfs a_shs ind tot pri q fr li sh h2 H_I) ml_X5_202 im_X5_digestsFigures se_X5_digestsFigures in_X5 co_X5_digestsFigures 1 (by decide) ⟨rfl, rfl⟩ ⟨Nat.le_of_ble_eq_true rfl, Nat.le_of_ble_eq_true rfl⟩ [0, 1, 2, 3, 4] rfl rfl 0 rfl rfl rfl rfl rfl (Nat.le_of_ble_eq_true rfl) dX5_digest_61 ⟨Nat.le_refl _, Nat.le_refl _⟩) (fun r_61 H locs hw hX => ?_)
              subst hw
              refine xr_lstore_n (lv' := [(1, .long (lI (dgFg ind tot pri q fr h2))), (0, .ref hXo), (3, .int (iI w))]) E hl dX5_digest_64 rfl (by decide) rfl (fun ls hl => ?_)
              refine xr_aload_n E hl 1 rfl dX5_digest_65 rfl ?_
              refine xr_lload_n E hl 0 rfl dX5_digest_66 rfl ?_
              refine xk_l (W2 := fun uu => (W_Xdg y hXo hF a_ind a_tot a_pri hD hB a_low a_high a_ll a_lh a_bnd a_gap a_costs a_ways a_stc a_row hP a_ring hT a_byt a_ltr a_fir a_sec a_rfs a_shs ind tot pri q fr li sh uu.1 uu.2.1 uu.2.2.1 uu.2.2.2.1 uu.2.2.2.2.1 uu.2.2.2.2.2.1 uu.2.2.2.2.2.2.1 uu.2.2.2.2.2.2.2.1 uu.2.2.2.2.2.2.2.2.1 uu.2.2.2.2.2.2.2.2.2.1 uu.2.2.2.2.2.2.2.2.2.2.1 uu.2.2.2.2.2.2.2.2.2.2.2.1 uu.2.2.2.2.2.2.2.2.2.2.2.2.1 uu.2.2.2.2.2.2.2.2.2.2.2.2.2.1 uu.2.2.2.2.2.2.2.2.2.2.2.2.2.2.1 uu.2.2.2.2.2.2.2.2.2.2.2.2.2.2.2.1 uu.2.2.2.2.2.2.2.2.2.2.2.2.2.2.2.2 top sts len ord opn num fig rfs shs)) E hX [0, 1, 2, 3, 4, 5, 6, 7, 8, 9, 10, 11, 12, 13, 14, 15, 16, 19] rfl (xv_V (As := [.long (lI (dgFg ind tot pri q fr h2))]) E hX hl (c_X5_digestsBent l D y z _ hXo hF a_ind a_tot a_pri hD hB a_low a_high a_ll a_lh a_bnd a_gap a_costs a_ways a_stc a_row hP hT a_rfs a_shs ind tot pri q fr li sh low high ll lh bnd gap bq costs ways stc bc bw bs kn th row rows rfs (dgFg ind tot pri q fr h2) H_I H_K) ml_X5_206 im_X5_digestsBent se_X5_digestsBent in_X5 co_X5_digestsBent 1 (by decide) ⟨rfl, rfl⟩ ⟨Nat.le_of_ble_eq_true rfl, Nat.le_of_ble_eq_true rfl⟩ [0, 1, 2, 3, 4, 5, 6, 7, 8, 9, 10, 11, 12, 13, 14, 15, 16, 19] rfl rfl 0 rfl rfl rfl rfl rfl (Nat.le_of_ble_eq_true rfl) dX5_digest_67 ⟨Nat.le_refl _, Nat.le_refl _⟩) [0, 1, 2, 3, 4, 5, 6, 7, 8, 9, 10, 11, 12, 13, 14, 15, 16, 35, 36, 17, 38] 18 (fun _ => rfl) (fun _ => rfl) (by decide) (by decide) (fun r_67 uu H locs hw hX => ?_)
              obtain ⟨low_67, high_67, ll_67, lh_67, bnd_67, gap_67, bq_67, costs_67, ways_67, stc_67, bc_67, bw_67, bs_67, kn_67, th_67, row_67, rows_67⟩ := uu
              have hX : XW D A s.heap (W_Xdg y hXo hF a_ind a_tot a_pri hD hB a_low a_high a_ll a_lh a_bnd a_gap a_costs a_ways a_stc a_row hP a_ring hT a_byt a_ltr a_fir a_sec a_rfs a_shs ind tot pri q fr li sh low_67 high_67 ll_67 lh_67 bnd_67 gap_67 bq_67 costs_67 ways_67 stc_67 bc_67 bw_67 bs_67 kn_67 th_67 row_67 rows_67 top sts len ord opn num fig rfs shs) H locs := hX
              try dsimp only at hw
              obtain ⟨rfl, hp_67⟩ := hw
              refine xr_lstore_n (lv' := [(1, .long (lI (dgB ind tot pri q fr li sh (dgFg ind tot pri q fr h2)))), (0, .ref hXo), (3, .int (iI w))]) E hl dX5_digest_70 rfl (by decide) rfl (fun ls hl => ?_)
              refine xr_iconst E dX5_digest_71 ?_
              refine xr_istore_n (lv' := [(3, .int (iI 0)), (1, .long (lI (dgB ind tot pri q fr li sh (dgFg ind tot pri q fr h2)))), (0, .ref hXo)]) E hl dX5_digest_72 rfl (by decide) rfl (fun ls hl => ?_)
              have L_73_4 : ∀ (nmu : Nat) (i : Nat) (h3 : Int) (k : Int) (sh1 : Int → Int), 2 - i < nmu → (k = i ∧ k ≤ 2) → (h3 = dgI (fun k => xMoved ind (xShare ind tot q) q k) i (dgB ind tot pri q fr li sh (dgFg ind tot pri q fr h2))) → ∀ (H : Heap) (locs : List Loc) (ls : Array Slot), XW D A s.heap (W_Xdg y hXo hF a_ind a_tot a_pri hD hB a_low a_high a_ll a_lh a_bnd a_gap a_costs a_ways a_stc a_row hP a_ring hT a_byt a_ltr a_fir a_sec a_rfs a_shs ind tot pri q fr li sh low_67 high_67 ll_67 lh_67 bnd_67 gap_67 bq_67 costs_67 ways_67 stc_67 bc_67 bw_67 bs_67 kn_67 th_67 row_67 rows_67 top sts len ord opn num fig rfs sh1) H locs → lv_has ls 4 [(0, .ref hXo), (1, .long (lI h3)), (3, .int (iI k))] → W p l e rm_X5_digest s m args below meth cX H locs 0 0 Q (F0 m 73 ls []) := by
                intro nmu
                induction nmu with
                | zero =>
                  intro i h3 k sh1 hmu
                  exact absurd hmu (Nat.not_lt_zero _)
                | succ nmu ih =>
                  intro i h3 k sh1 hmu hki h3h H locs ls hX hl
                  have ih_73_4 := ih
                  clear ih
                  refine xr_iload_n E hl 2 rfl dX5_digest_73 rfl ?_
                  refine xr_iconst E dX5_digest_74 ?_
                  refine xr_icmp_ge (tgt := 96) E dX5_digest_75 (by decide) ⟨by omega, by omega⟩ (by decide) (fun c_75 => ?_) (fun c_75 => ?_)
                  · have c_75 := c_75
                    refine xr_lload_n E hl 1 rfl dX5_digest_96 rfl ?_
                    exact xr_lret E hX hQ (low_67, high_67, ll_67, lh_67, bnd_67, gap_67, bq_67, costs_67, ways_67, stc_67, bc_67, bw_67, bs_67, kn_67, th_67, row_67, rows_67, sh1) hr ⟨by unfold xDig; rw [h3h, h2h, hh, show i = 2 by omega, show j = 6 by omega, show n = 5 by omega], hp_67⟩ rfl dX5_digest_97
                  · have c_75 := c_75
                    refine xr_ldc2 (n := 31) E kl_X5_197 dX5_digest_78 (by decide) ?_
                    refine xr_lload_n E hl 1 rfl dX5_digest_81 rfl ?_
                    refine xr_lmul E dX5_digest_82 ?_
                    refine xr_aload_n E hl 0 rfl dX5_digest_83 rfl ?_
                    refine xr_iload_n E hl 2 rfl dX5_digest_84 rfl ?_
                    refine xk_l (W2 := fun uu => (W_Xdg y hXo hF a_ind a_tot a_pri hD hB a_low a_high a_ll a_lh a_bnd a_gap a_costs a_ways a_stc a_row hP a_ring hT a_byt a_ltr a_fir a_sec a_rfs a_shs ind tot pri q fr li sh low_67 high_67 ll_67 lh_67 bnd_67 gap_67 bq_67 costs_67 ways_67 stc_67 bc_67 bw_67 bs_67 kn_67 th_67 row_67 rows_67 top sts len ord opn num fig rfs uu)) E hX [0, 1, 2, 3, 4, 20] rfl (xv_V (As := [.int (iI k)]) E hX hl (c_X5_shareMovement l D y z _ hXo hF a_ind a_tot a_pri hD hP hT a_rfs a_shs ind tot pri q fr li sh sh1 k H_I ⟨by omega, by omega⟩) ml_X5_148 im_X5_shareMovement se_X5_shareMovement in_X5 co_X5_shareMovement 1 (by decide) ⟨rfl, rfl⟩ ⟨Nat.le_of_ble_eq_true rfl, Nat.le_of_ble_eq_true rfl⟩ [0, 1, 2, 3, 4, 20] rfl rfl 0 rfl rfl rfl rfl rfl (Nat.le_of_ble_eq_true rfl) dX5_digest_85 ⟨Nat.le_refl _, Nat.le_refl _⟩) [0, 1, 2, 3, 4, 11, 12, 13, 14, 15, 16, 17, 18, 19, 20, 21, 22, 23, 24, 25, 5] 6 (fun _ => rfl) (fun _ => rfl) (by decide) (by decide) (fun r_85 uu H locs hw hX => ?_)
                    obtain ⟨shs_85, rfl⟩ : ∃ q, q = uu := ⟨_, rfl⟩
                    have hX : XW D A s.heap (W_Xdg y hXo hF a_ind a_tot a_pri hD hB a_low a_high a_ll a_lh a_bnd a_gap a_costs a_ways a_stc a_row hP a_ring hT a_byt a_ltr a_fir a_sec a_rfs a_shs ind tot pri q fr li sh low_67 high_67 ll_67 lh_67 bnd_67 gap_67 bq_67 costs_67 ways_67 stc_67 bc_67 bw_67 bs_67 kn_67 th_67 row_67 rows_67 top sts len ord opn num fig rfs shs_85) H locs := hX
                    try dsimp only at hw
                    obtain ⟨rfl, hp_85⟩ := hw
                    refine xr_ladd E dX5_digest_88 ?_
                    refine xr_lstore_n (lv' := [(1, .long (lI ((31 * h3) + xMoved ind (xShare ind tot q) q k))), (0, .ref hXo), (3, .int (iI k))]) E hl dX5_digest_89 rfl (by decide) rfl (fun ls hl => ?_)
                    refine xr_iinc (k := 2) (lv' := [(3, .int (iI (k + 1))), (1, .long (lI ((31 * h3) + xMoved ind (xShare ind tot q) q k))), (0, .ref hXo)]) E hl rfl dX5_digest_90 (by decide) rfl (fun ls hl => ?_)
                    refine xr_goto (tgt := 73) E dX5_digest_93 (by decide) ?_
                    exact ih_73_4 (i + 1) ((31 * h3) + xMoved ind (xShare ind tot q) q k) (k + 1) shs_85 (by omega) (by omega) (by rw [dgI_s, ← h3h, ← hki.1]) _ _ _ hX (lv_sub hl [2, 1, 0] rfl)
              exact L_73_4 _ 0 (dgB ind tot pri q fr li sh (dgFg ind tot pri q fr h2)) 0 shs (Nat.lt_succ_self _) (by omega) rfl _ _ _ hX (lv_sub hl [2, 1, 0] rfl)
            · have c_34 := c_34
              refine xr_ldc2 (n := 31) E kl_X5_197 dX5_digest_37 (by decide) ?_
              refine xr_lload_n E hl 1 rfl dX5_digest_40 rfl ?_
              refine xr_lmul E dX5_digest_41 ?_
              refine xr_aload_n E hl 0 rfl dX5_digest_42 rfl ?_
              refine xr_get E hX 0 rfl rfl ly_X5 0 (by decide) fl_X5_12 rfl dX5_digest_43 ?_
              refine xr_iload_n E hl 2 rfl dX5_digest_46 rfl ?_
              refine xk_ri E hX [1, 2, 3, 4] rfl (xv_V (As := [.int (iI w)]) E hX hl (c_X2_toldOfAll l D y z _ hF a_ind a_tot a_pri ind tot pri q fr li sh w H_I ⟨by omega, by omega⟩) ml_X5_101 im_X2_toldOfAll se_X2_toldOfAll in_X2 co_X2_toldOfAll 1 (by decide) ⟨rfl, rfl⟩ ⟨Nat.le_of_ble_eq_true rfl, Nat.le_of_ble_eq_true rfl⟩ [1, 2, 3, 4] rfl rfl 1 rfl rfl rfl rfl rfl (Nat.le_of_ble_eq_true rfl) dX5_digest_47 ⟨Nat.le_refl _, Nat.le_refl _⟩) (fun r_47 H locs hw hX => ?_)
              subst hw
              have hab := xAll_bd H_I w
              refine xr_i2l E dX5_digest_50 ⟨by omega, by omega⟩ ?_
              refine xr_ladd E dX5_digest_51 ?_
              refine xr_lstore_n (lv' := [(1, .long (lI ((31 * h2) + xAll tot pri q fr li sh w))), (0, .ref hXo), (3, .int (iI w))]) E hl dX5_digest_52 rfl (by decide) rfl (fun ls hl => ?_)
              refine xr_iinc (k := 2) (lv' := [(3, .int (iI (w + 1))), (1, .long (lI ((31 * h2) + xAll tot pri q fr li sh w))), (0, .ref hXo)]) E hl rfl dX5_digest_53 (by decide) rfl (fun ls hl => ?_)
              refine xr_goto (tgt := 32) E dX5_digest_56 (by decide) ?_
              exact ih_32_2 (j + 1) ((31 * h2) + xAll tot pri q fr li sh w) (w + 1) (by omega) (by omega) (by rw [dgI_s, ← h2h, ← hw.1]) _ _ _ hX (lv_sub hl [2, 1, 0] rfl)
        exact L_32_2 _ 0 h 0 (Nat.lt_succ_self _) (by omega) rfl _ _ _ hX (lv_sub hl [1, 2, 0] rfl)
      · have c_8 := c_8
        refine xr_ldc2 (n := 31) E kl_X5_197 dX5_digest_11 (by decide) ?_
        refine xr_lload_n E hl 1 rfl dX5_digest_14 rfl ?_
        refine xr_lmul E dX5_digest_15 ?_
        refine xr_aload_n E hl 0 rfl dX5_digest_16 rfl ?_
        refine xr_iload_n E hl 2 rfl dX5_digest_17 rfl ?_
        refine xk_i (W2 := fun uu => (W_Xdg y hXo hF a_ind a_tot a_pri hD hB a_low a_high a_ll a_lh a_bnd a_gap a_costs a_ways a_stc a_row hP a_ring hT a_byt a_ltr a_fir a_sec a_rfs a_shs ind tot pri q fr li sh low high ll lh bnd gap bq costs ways stc bc bw bs kn th row rows top sts len ord opn num fig uu shs)) E hX [0, 17, 18, 19] rfl (xv_V (As := [.int (iI w)]) E hX hl (c_X5_told l D y z _ hXo hF hD hP a_ring hT a_byt a_ltr a_fir a_sec a_rfs a_shs top sts len ord opn num fig rf1 w ⟨by omega, by omega⟩) ml_X5_199 im_X5_told se_X5_told in_X5 co_X5_told 1 (by decide) ⟨rfl, rfl⟩ ⟨Nat.le_of_ble_eq_true rfl, Nat.le_of_ble_eq_true rfl⟩ [0, 17, 18, 19] rfl rfl 0 rfl rfl rfl rfl rfl (Nat.le_of_ble_eq_true rfl) dX5_digest_18 ⟨Nat.le_refl _, Nat.le_refl _⟩) [0, 5, 6, 7, 8, 9, 10, 11, 12, 13, 14, 15, 16, 17, 18, 19, 20, 1, 2, 3, 24] 4 (fun _ => rfl) (fun _ => rfl) (by decide) (by decide) (fun r_18 uu H locs hw hX => ?_)
        obtain ⟨rfl, rfl⟩ := hw
        have hX : XW D A s.heap (W_Xdg y hXo hF a_ind a_tot a_pri hD hB a_low a_high a_ll a_lh a_bnd a_gap a_costs a_ways a_stc a_row hP a_ring hT a_byt a_ltr a_fir a_sec a_rfs a_shs ind tot pri q fr li sh low high ll lh bnd gap bq costs ways stc bc bw bs kn th row rows top sts len ord opn num fig (rqTo rf1 w) shs) H locs := hX
        have hxt : -10 ≤ xqTo rf1 len sts w ∧ xqTo rf1 len sts w ≤ 100000000 := by rw [← hrf]; unfold xqTo xTo; (repeat' split) <;> first | omega | (have h9 := hrf0 w (by omega) (by omega); omega)
        refine xr_i2l E dX5_digest_21 ⟨by omega, by omega⟩ ?_
        refine xr_ladd E dX5_digest_22 ?_
        refine xr_lstore_n (lv' := [(1, .long (lI ((31 * h) + xqTo rf1 len sts w))), (0, .ref hXo), (3, .int (iI w))]) E hl dX5_digest_23 rfl (by decide) rfl (fun ls hl => ?_)
        refine xr_iinc (k := 2) (lv' := [(3, .int (iI (w + 1))), (1, .long (lI ((31 * h) + xqTo rf1 len sts w))), (0, .ref hXo)]) E hl rfl dX5_digest_24 (by decide) rfl (fun ls hl => ?_)
        refine xr_goto (tgt := 6) E dX5_digest_27 (by decide) ?_
        exact ih_6_1 (n + 1) ((31 * h) + xqTo rf1 len sts w) (w + 1) (rqTo rf1 w) (by omega) (by omega) (by unfold rqTo; rw [if_pos (by omega)]; exact hrf) (by rw [dgI_s, ← hh, ← hw.1, ← hrf]; unfold xqTo; rw [if_pos (by omega)]) _ _ _ hX (lv_sub hl [2, 1, 0] rfl)
  exact L_6_1 _ 0 1980 0 rfs (Nat.lt_succ_self _) (by omega) rfl rfl _ _ _ hX (lv_sub hl [2, 1, 0] rfl)
