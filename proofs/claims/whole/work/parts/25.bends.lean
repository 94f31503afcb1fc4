/-! Bender: BENT -/
abbrev rm_X0_traces : Room := { frames := 2, cells := 0, slots := 0, locals := 61 }
set_option maxHeartbeats 4000000 in
set_option maxRecDepth 100000 in
theorem c_X0_traces (l : Launch) (D : va_G) (y : CY) (z sz : Nat) (hD hB a_low a_high a_ll a_lh a_bnd a_gap a_costs a_ways a_stc a_row hF a_ind a_tot a_pri : Nat) (low : Int → Int) (high : Int → Int) (ll : Int → Int) (lh : Int → Int) (bnd : Int → Bool) (gap : Int → Int) (bq : Int) (costs : Int → Int) (ways : Int → Int) (stc : Int → Int) (bc : Int) (bw : Int) (bs : Int) (kn : Bool) (th : Bool) (row : Int → Int) (rows : Int) (ind : Int → Int) (tot : Int → Int) (pri : Int → Int) (q : Int) (fr : Int) (li : Int) (sh : Int) (H_I : FI ind tot pri q fr li sh) (hbq : bq = q) (H_B : BG q low high ll lh bnd gap) (hall : ∀ u : Int, 0 ≤ u → FilA ind sh q low high ll lh bnd gap costs ways u) : Met l yX0_traces (Cond.code yX0_traces cX0_traces 5 none :: TW) rm_X0_traces (va_Pc [.ref hD, .ref hF] (PX D y z (W_DF y hD hB a_low a_high a_ll a_lh a_bnd a_gap a_costs a_ways a_stc a_row hF a_ind a_tot a_pri low high ll lh bnd gap bq costs ways stc bc bw bs kn th row rows ind tot pri q fr li sh) sz)) (va_Qv (fun (uu : (Int → Int) × (Int) × (Int) × (Int) × (Int → Int)) => uu.2.2.2.2 = fillR row 0 q (fun t => ind t + (rdS ind sh q low high ll lh bnd gap (t + 1).toNat).1)) (fun uu t => BX D (W_DF y hD hB a_low a_high a_ll a_lh a_bnd a_gap a_costs a_ways a_stc a_row hF a_ind a_tot a_pri low high ll lh bnd gap bq costs ways uu.1 uu.2.1 uu.2.2.1 uu.2.2.2.1 kn th uu.2.2.2.2 rows ind tot pri q fr li sh) (va_A (W_DF y hD hB a_low a_high a_ll a_lh a_bnd a_gap a_costs a_ways a_stc a_row hF a_ind a_tot a_pri low high ll lh bnd gap bq costs ways stc bc bw bs kn th row rows ind tot pri q fr li sh) sz) t) (va_A (W_DF y hD hB a_low a_high a_ll a_lh a_bnd a_gap a_costs a_ways a_stc a_row hF a_ind a_tot a_pri low high ll lh bnd gap bq costs ways stc bc bw bs kn th row rows ind tot pri q fr li sh) sz)) 0 0 (va_A (W_DF y hD hB a_low a_high a_ll a_lh a_bnd a_gap a_costs a_ways a_stc a_row hF a_ind a_tot a_pri low high ll lh bnd gap bq costs ways stc bc bw bs kn th row rows ind tot pri q fr li sh) sz) := by
  refine xm_v (by decide) (Nat.le_of_ble_eq_true rfl) (fun p e s m args below meth cX ls A Q E hr hnm hX hl hQ => ?_)
  have hl : lv_has ls 5 [(0, .ref hD), (1, .ref hF)] := hl
  have hq := H_I.q
  have hfr := H_I.fr
  have hli := H_I.li
  have hsh := H_I.sh
  refine xr_iconst E dX0_traces_0 ?_
  refine xr_istore_n (lv' := [(2, .int (iI 0)), (0, .ref hD), (1, .ref hF)]) E hl dX0_traces_1 rfl (by decide) rfl (fun ls hl => ?_)
  refine xr_iconst E dX0_traces_2 ?_
  refine xr_istore_n (lv' := [(3, .int (iI 0)), (2, .int (iI 0)), (0, .ref hD), (1, .ref hF)]) E hl dX0_traces_3 rfl (by decide) rfl (fun ls hl => ?_)
  refine xr_iconst E dX0_traces_4 ?_
  refine xr_istore (lv' := [(4, .int (iI 0)), (3, .int (iI 0)), (2, .int (iI 0)), (0, .ref hD), (1, .ref hF)]) E hl dX0_traces_5 (by decide) rfl (fun ls hl => ?_)
  have L_7_1 : ∀ (nmu : Nat) (n : Nat) (lf : Int) (d : Int) (t : Int) (st1 : Int → Int) (bc1 : Int) (bw1 : Int) (bs1 : Int) (row1 : Int → Int), 12 - n < nmu → (t = n ∧ t ≤ q) → ((d, lf) = rdS ind sh q low high ll lh bnd gap n) → (AO ll lh t lf) → ((-8 ≤ d ∧ d ≤ 8) ∧ -20000 ≤ lf ∧ lf ≤ 20000) → (row1 = fillR row 0 n (fun t => ind t + (rdS ind sh q low high ll lh bnd gap (t + 1).toNat).1)) → ∀ (H : Heap) (locs : List Loc) (ls : Array Slot), XW D A s.heap (W_DF y hD hB a_low a_high a_ll a_lh a_bnd a_gap a_costs a_ways a_stc a_row hF a_ind a_tot a_pri low high ll lh bnd gap bq costs ways st1 bc1 bw1 bs1 kn th row1 rows ind tot pri q fr li sh) H locs → lv_has ls 5 [(0, .ref hD), (1, .ref hF), (2, .int (iI lf)), (3, .int (iI d)), (4, .int (iI t))] → W p l e rm_X0_traces s m args below meth cX H locs 0 0 Q (F0 m 7 ls []) := by
    intro nmu
    induction nmu with
    | zero =>
      intro n lf d t st1 bc1 bw1 bs1 row1 hmu
      exact absurd hmu (Nat.not_lt_zero _)
    | succ nmu ih =>
      intro n lf d t st1 bc1 bw1 bs1 row1 hmu ht hrd hao hbd hrow H locs ls hX hl
      have ih_7_1 := ih
      clear ih
      refine xr_iload E hl 4 rfl dX0_traces_7 ?_
      refine xr_aload_n E hl 1 rfl dX0_traces_9 rfl ?_
      refine xr_get E hX 12 rfl rfl ly_X2 3 (by decide) fl_X0_69 rfl dX0_traces_10 ?_
      refine xr_icmp_ge (tgt := 87) E dX0_traces_13 (by decide) ⟨by omega, by omega⟩ ⟨by omega, by omega⟩ (fun c_13 => ?_) (fun c_13 => ?_)
      · have c_13 := c_13
        exact xr_vret E hX hQ (st1, bc1, bw1, bs1, row1) hr (by rw [hrow, show (n : Int) = q by omega]) rfl dX0_traces_87
      · have c_13 := c_13
        obtain ⟨g1, g2, g3, g4, g5, g6⟩ := H_B t (by omega) c_13
        have hcs := ch_step (u := t) (d := d) (lf := lf) H_I H_B (by omega) hao hbd.1 hbd.2 (hall t (by omega)) (Wg_of (stc := st1))
        refine xr_aload_n E hl 0 rfl dX0_traces_16 rfl ?_
        refine xr_aload_n E hl 1 rfl dX0_traces_17 rfl ?_
        refine xr_iload E hl 4 rfl dX0_traces_18 ?_
        refine xr_iload_n E hl 3 rfl dX0_traces_20 rfl ?_
        refine xk_v (W2 := fun uu => (W_DF y hD hB a_low a_high a_ll a_lh a_bnd a_gap a_costs a_ways a_stc a_row hF a_ind a_tot a_pri low high ll lh bnd gap bq costs ways uu bc1 bw1 bs1 kn th row1 rows ind tot pri q fr li sh)) E hX [0, 1, 2, 3, 4, 5, 6, 7, 8, 9, 10, 11, 12, 13, 14, 15] rfl (xv_V (As := [.ref hF, .int (iI t), .int (iI d)]) E hX hl (c_X0_weighsSteps l D y z _ hD hB a_low a_high a_ll a_lh a_bnd a_gap a_costs a_ways a_stc a_row hF a_ind a_tot a_pri low high ll lh bnd gap bq costs ways st1 bc1 bw1 bs1 kn th row1 rows ind tot pri q fr li sh t d H_I (by omega) (by omega) (fun h => by have g := (H_B (t) (by omega) h).1; omega)) ml_X0_78 im_X0_weighsSteps se_X0_weighsSteps in_X0 co_X0_weighsSteps 3 (by decide) ⟨rfl, rfl⟩ ⟨Nat.le_of_ble_eq_true rfl, Nat.le_of_ble_eq_true rfl⟩ [0, 1, 2, 3, 4, 5, 6, 7, 8, 9, 10, 11, 12, 13, 14, 15] rfl rfl 0 rfl rfl rfl rfl rfl (Nat.le_of_ble_eq_true rfl) dX0_traces_21 ⟨Nat.le_refl _, Nat.le_refl _⟩) [0, 1, 2, 3, 4, 5, 6, 7, 8, 9, 10, 11, 12, 13, 14, 15] 16 (fun _ => rfl) (fun _ => rfl) (by decide) (by decide) (fun uu H locs hw hX => ?_)
        subst hw
        have hX : XW D A s.heap (W_DF y hD hB a_low a_high a_ll a_lh a_bnd a_gap a_costs a_ways a_stc a_row hF a_ind a_tot a_pri low high ll lh bnd gap bq costs ways (xWs ind st1 low high q sh t d) bc1 bw1 bs1 kn th row1 rows ind tot pri q fr li sh) H locs := hX
        refine xr_aload_n E hl 0 rfl dX0_traces_24 rfl ?_
        refine xr_iload E hl 4 rfl dX0_traces_25 ?_
        refine xr_iload_n E hl 2 rfl dX0_traces_27 rfl ?_
        refine xk_v (W2 := fun uu => (W_DF y hD hB a_low a_high a_ll a_lh a_bnd a_gap a_costs a_ways a_stc a_row hF a_ind a_tot a_pri low high ll lh bnd gap bq costs ways (xWs ind st1 low high q sh t d) uu.1 uu.2.1 uu.2.2 kn th row1 rows ind tot pri q fr li sh)) E hX [0, 1, 2, 3, 4, 5, 6, 7, 8, 9, 10, 11] rfl (xv_V (As := [.int (iI t), .int (iI lf)]) E hX hl (c_X0_choosesStep l D y z _ hD hB a_low a_high a_ll a_lh a_bnd a_gap a_costs a_ways a_stc a_row low high ll lh bnd gap bq costs ways (xWs ind st1 low high q sh t d) bc1 bw1 bs1 kn th row1 rows t lf (by omega) (by omega) (by rw [hbq]; exact hcs.1)) ml_X0_89 im_X0_choosesStep se_X0_choosesStep in_X0 co_X0_choosesStep 2 (by decide) ⟨rfl, rfl⟩ ⟨Nat.le_of_ble_eq_true rfl, Nat.le_of_ble_eq_true rfl⟩ [0, 1, 2, 3, 4, 5, 6, 7, 8, 9, 10, 11] rfl rfl 0 rfl rfl rfl rfl rfl (Nat.le_of_ble_eq_true rfl) dX0_traces_28 ⟨Nat.le_refl _, Nat.le_refl _⟩) [0, 1, 2, 3, 4, 5, 6, 7, 8, 9, 10, 11, 24, 25, 26, 27] 12 (fun _ => rfl) (fun _ => rfl) (by decide) (by decide) (fun uu H locs hw hX => ?_)
        subst hw
        have hX : XW D A s.heap (W_DF y hD hB a_low a_high a_ll a_lh a_bnd a_gap a_costs a_ways a_stc a_row hF a_ind a_tot a_pri low high ll lh bnd gap bq costs ways (xWs ind st1 low high q sh t d) ((chE bq low high ll lh bnd gap costs ways (xWs ind st1 low high q sh t d) t lf).1) ((chE bq low high ll lh bnd gap costs ways (xWs ind st1 low high q sh t d) t lf).2.1) ((chE bq low high ll lh bnd gap costs ways (xWs ind st1 low high q sh t d) t lf).2.2) kn th row1 rows ind tot pri q fr li sh) H locs := hX
        refine xr_aload_n E hl 0 rfl dX0_traces_31 rfl ?_
        refine xr_get E hX 0 rfl rfl ly_X0 6 (by decide) fl_X0_37 rfl dX0_traces_32 ?_
        refine xr_istore_n (lv' := [(3, .int (iI ((chE bq low high ll lh bnd gap costs ways (xWs ind st1 low high q sh t d) t lf).2.2))), (0, .ref hD), (1, .ref hF), (2, .int (iI lf)), (4, .int (iI t))]) E hl dX0_traces_35 rfl (by decide) rfl (fun ls hl => ?_)
        have L_36_2 : ∀ (d2 : Int), (d2 = (chs ind sh low high ll lh bnd gap (q - t).toNat t d lf).2.2) → ∀ (H : Heap) (locs : List Loc) (ls : Array Slot), XW D A s.heap (W_DF y hD hB a_low a_high a_ll a_lh a_bnd a_gap a_costs a_ways a_stc a_row hF a_ind a_tot a_pri low high ll lh bnd gap bq costs ways (xWs ind st1 low high q sh t d) ((chE bq low high ll lh bnd gap costs ways (xWs ind st1 low high q sh t d) t lf).1) ((chE bq low high ll lh bnd gap costs ways (xWs ind st1 low high q sh t d) t lf).2.1) ((chE bq low high ll lh bnd gap costs ways (xWs ind st1 low high q sh t d) t lf).2.2) kn th row1 rows ind tot pri q fr li sh) H locs → lv_has ls 5 [(0, .ref hD), (1, .ref hF), (2, .int (iI lf)), (3, .int (iI d2)), (4, .int (iI t))] → W p l e rm_X0_traces s m args below meth cX H locs 0 0 Q (F0 m 36 ls []) := by
          intro d2 hd2 H locs ls hX hl
          have hci := chs_in H_I H_B (d := d) (by omega) c_13 hbd.1 hao
          rw [← hd2] at hci
          have hnv := next_VL H_B (by omega) c_13 hao hci.1 hci.2
          have hnin := VL_in H_B (by omega) c_13 hnv.2
          have L_65_3 : ∀ (lf2 : Int), (lf2 = nL bnd gap t lf d2) → ∀ (H : Heap) (locs : List Loc) (ls : Array Slot), XW D A s.heap (W_DF y hD hB a_low a_high a_ll a_lh a_bnd a_gap a_costs a_ways a_stc a_row hF a_ind a_tot a_pri low high ll lh bnd gap bq costs ways (xWs ind st1 low high q sh t d) ((chE bq low high ll lh bnd gap costs ways (xWs ind st1 low high q sh t d) t lf).1) ((chE bq low high ll lh bnd gap costs ways (xWs ind st1 low high q sh t d) t lf).2.1) ((chE bq low high ll lh bnd gap costs ways (xWs ind st1 low high q sh t d) t lf).2.2) kn th row1 rows ind tot pri q fr li sh) H locs → lv_has ls 5 [(0, .ref hD), (1, .ref hF), (2, .int (iI lf2)), (3, .int (iI d2)), (4, .int (iI t))] → W p l e rm_X0_traces s m args below meth cX H locs 0 0 Q (F0 m 65 ls []) := by
            intro lf2 hlf2 H locs ls hX hl
            have hrd2 : (d2, lf2) = rdS ind sh q low high ll lh bnd gap (n + 1) := by rw [rdS_s, ← hrd]; dsimp only; rw [← ht.1, hlf2, hd2]
            have hbd2 : (-8 ≤ d2 ∧ d2 ≤ 8) ∧ -20000 ≤ lf2 ∧ lf2 ≤ 20000 := by rw [hlf2]; exact ⟨⟨by omega, by omega⟩, by omega, by omega⟩
            refine xr_aload_n E hl 0 rfl dX0_traces_65 rfl ?_
            refine xr_get E hX 0 rfl rfl ly_X0 9 (by decide) fl_X0_47 rfl dX0_traces_66 ?_
            refine xr_iload E hl 4 rfl dX0_traces_69 ?_
            refine xr_aload_n E hl 1 rfl dX0_traces_71 rfl ?_
            refine xr_get E hX 12 rfl rfl ly_X2 0 (by decide) fl_X0_111 rfl dX0_traces_72 ?_
            refine xr_iload E hl 4 rfl dX0_traces_75 ?_
            refine xr_iald E hX 13 rfl (by omega) (by omega) (by decide) dX0_traces_77 ?_
            refine xr_iload_n E hl 3 rfl dX0_traces_78 rfl ?_
            refine xr_iadd E dX0_traces_79 ?_
            refine xr_iast (W1 := (W_DF y hD hB a_low a_high a_ll a_lh a_bnd a_gap a_costs a_ways a_stc a_row hF a_ind a_tot a_pri low high ll lh bnd gap bq costs ways (xWs ind st1 low high q sh t d) ((chE bq low high ll lh bnd gap costs ways (xWs ind st1 low high q sh t d) t lf).1) ((chE bq low high ll lh bnd gap costs ways (xWs ind st1 low high q sh t d) t lf).2.1) ((chE bq low high ll lh bnd gap costs ways (xWs ind st1 low high q sh t d) t lf).2.2) kn th (up row1 t ((ind t) + d2)) rows ind tot pri q fr li sh)) E hX 11 rfl (by omega) (by omega) (by decide) rfl dX0_traces_80 (fun H locs hX => ?_)
            refine xr_iinc (k := 4) (lv' := [(4, .int (iI (t + 1))), (0, .ref hD), (1, .ref hF), (2, .int (iI lf2)), (3, .int (iI d2))]) E hl rfl dX0_traces_81 (by decide) rfl (fun ls hl => ?_)
            refine xr_goto (tgt := 7) E dX0_traces_84 (by decide) ?_
            exact ih_7_1 (n + 1) lf2 d2 (t + 1) (xWs ind st1 low high q sh t d) ((chE bq low high ll lh bnd gap costs ways (xWs ind st1 low high q sh t d) t lf).1) ((chE bq low high ll lh bnd gap costs ways (xWs ind st1 low high q sh t d) t lf).2.1) ((chE bq low high ll lh bnd gap costs ways (xWs ind st1 low high q sh t d) t lf).2.2) (up row1 t ((ind t) + d2)) (by omega) (by omega) hrd2 (by rw [hlf2]; exact next_AO H_B (by omega) (by omega) hao hci.1 hci.2) hbd2 (by rw [hrow]; exact fillR_upN ht.1 (by rw [show (t + 1).toNat = n + 1 by omega, ← hrd2])) _ _ _ hX (lv_sub hl [1, 2, 3, 4, 0] rfl)
          refine xr_aload_n E hl 0 rfl dX0_traces_36 rfl ?_
          refine xr_get E hX 0 rfl rfl ly_X0 0 (by decide) fl_X0_12 rfl dX0_traces_37 ?_
          refine xr_iload E hl 4 rfl dX0_traces_40 ?_
          refine xk_ri E hX [1, 2, 3, 4, 5, 6, 7] rfl (xv_V (As := [.int (iI t)]) E hX hl (c_X1_isBound l D y z _ hB a_low a_high a_ll a_lh a_bnd a_gap low high ll lh bnd gap bq t (by omega)) ml_X0_105 im_X1_isBound se_X1_isBound in_X1 co_X1_isBound 1 (by decide) ⟨rfl, rfl⟩ ⟨Nat.le_of_ble_eq_true rfl, Nat.le_of_ble_eq_true rfl⟩ [1, 2, 3, 4, 5, 6, 7] rfl rfl 1 rfl rfl rfl rfl rfl (Nat.le_of_ble_eq_true rfl) dX0_traces_42 ⟨Nat.le_refl _, Nat.le_refl _⟩) (fun r_42 H locs hw hX => ?_)
          subst hw
          refine xr_if_eqB (tgt := 63) E dX0_traces_45 (by decide) (fun c_45 => ?_) (fun c_45 => ?_)
          · have c_45 := c_45
            refine xr_iconst E dX0_traces_63 ?_
            refine xr_istore_n (lv' := [(2, .int (iI 0)), (0, .ref hD), (1, .ref hF), (3, .int (iI d2)), (4, .int (iI t))]) E hl dX0_traces_64 rfl (by decide) rfl (fun ls hl => ?_)
            exact L_65_3 0  (by unfold nL; first | rw [if_pos c_45] | rw [if_neg (by rw [c_45]; decide)]) _ _ _ hX (lv_sub hl [1, 2, 0, 3, 4] rfl)
          · have c_45 := c_45
            refine xr_aload_n E hl 0 rfl dX0_traces_48 rfl ?_
            refine xr_get E hX 0 rfl rfl ly_X0 0 (by decide) fl_X0_12 rfl dX0_traces_49 ?_
            refine xr_iload E hl 4 rfl dX0_traces_52 ?_
            refine xr_iload_n E hl 2 rfl dX0_traces_54 rfl ?_
            refine xk_ri E hX [1, 2, 3, 4, 5, 6, 7] rfl (xv_V (As := [.int (iI t), .int (iI lf)]) E hX hl (c_X1_leftAhead l D y z _ hB a_low a_high a_ll a_lh a_bnd a_gap low high ll lh bnd gap bq t lf (by omega)) ml_X0_108 im_X1_leftAhead se_X1_leftAhead in_X1 co_X1_leftAhead 2 (by decide) ⟨rfl, rfl⟩ ⟨Nat.le_of_ble_eq_true rfl, Nat.le_of_ble_eq_true rfl⟩ [1, 2, 3, 4, 5, 6, 7] rfl rfl 1 rfl rfl rfl rfl rfl (Nat.le_of_ble_eq_true rfl) dX0_traces_55 ⟨Nat.le_refl _, Nat.le_refl _⟩) (fun r_55 H locs hw hX => ?_)
            subst hw
            refine xr_iload_n E hl 3 rfl dX0_traces_58 rfl ?_
            refine xr_isub E dX0_traces_59 ?_
            refine xr_goto (tgt := 64) E dX0_traces_60 (by decide) ?_
            refine xr_istore_n (lv' := [(2, .int (iI (lAh gap t lf - d2))), (0, .ref hD), (1, .ref hF), (3, .int (iI d2)), (4, .int (iI t))]) E hl dX0_traces_64 rfl (by decide) rfl (fun ls hl => ?_)
            exact L_65_3 (lAh gap t lf - d2)  (by unfold nL; first | rw [if_pos c_45] | rw [if_neg (by rw [c_45]; decide)]) _ _ _ hX (lv_sub hl [1, 2, 0, 3, 4] rfl)
        exact L_36_2 ((chE bq low high ll lh bnd gap costs ways (xWs ind st1 low high q sh t d) t lf).2.2)  (by rw [hbq, hcs.2]) _ _ _ hX (lv_sub hl [1, 2, 3, 0, 4] rfl)
  exact L_7_1 _ 0 0 0 0 stc bc bw bs row (Nat.lt_succ_self _) (by omega) rfl (Or.inl rfl) (by omega) (fillR_0 _ _ _).symm _ _ _ hX (lv_sub hl [3, 4, 2, 1, 0] rfl)
abbrev rm_X0_meetsWithin : Room := { frames := 3, cells := 0, slots := 0, locals := 83 }
set_option maxHeartbeats 4000000 in
set_option maxRecDepth 100000 in
theorem c_X0_meetsWithin (l : Launch) (D : va_G) (y : CY) (z sz : Nat) (hD hB a_low a_high a_ll a_lh a_bnd a_gap a_costs a_ways a_stc a_row hF a_ind a_tot a_pri : Nat) (low : Int → Int) (high : Int → Int) (ll : Int → Int) (lh : Int → Int) (bnd : Int → Bool) (gap : Int → Int) (bq : Int) (costs : Int → Int) (ways : Int → Int) (stc : Int → Int) (bc : Int) (bw : Int) (bs : Int) (kn : Bool) (th : Bool) (row : Int → Int) (rows : Int) (ind : Int → Int) (tot : Int → Int) (pri : Int → Int) (q : Int) (fr : Int) (li : Int) (sh : Int) (lim : Int) (H_I : FI ind tot pri q fr li sh) (hlim : -1 ≤ lim ∧ lim ≤ 24) : Met l yX0_meetsWithin (Cond.code yX0_meetsWithin cX0_meetsWithin 3 (some .boolean) :: TW) rm_X0_meetsWithin (va_Pc [.ref hD, .ref hF, .int (iI lim)] (PX D y z (W_DF y hD hB a_low a_high a_ll a_lh a_bnd a_gap a_costs a_ways a_stc a_row hF a_ind a_tot a_pri low high ll lh bnd gap bq costs ways stc bc bw bs kn th row rows ind tot pri q fr li sh) sz)) (va_Qi (fun (r : Int32) (uu : (Int → Int) × (Int → Int) × (Int → Int) × (Int → Int) × (Int → Bool) × (Int → Int) × (Int)) => r = bB (xMt ind tot pri q fr lim (-1)) ∧ True) (fun uu t => BX D (W_DF y hD hB a_low a_high a_ll a_lh a_bnd a_gap a_costs a_ways a_stc a_row hF a_ind a_tot a_pri uu.1 uu.2.1 uu.2.2.1 uu.2.2.2.1 uu.2.2.2.2.1 uu.2.2.2.2.2.1 uu.2.2.2.2.2.2 costs ways stc bc bw bs kn th row rows ind tot pri q fr li sh) (va_A (W_DF y hD hB a_low a_high a_ll a_lh a_bnd a_gap a_costs a_ways a_stc a_row hF a_ind a_tot a_pri low high ll lh bnd gap bq costs ways stc bc bw bs kn th row rows ind tot pri q fr li sh) sz) t) (va_A (W_DF y hD hB a_low a_high a_ll a_lh a_bnd a_gap a_costs a_ways a_stc a_row hF a_ind a_tot a_pri low high ll lh bnd gap bq costs ways stc bc bw bs kn th row rows ind tot pri q fr li sh) sz)) 0 0 (va_A (W_DF y hD hB a_low a_high a_ll a_lh a_bnd a_gap a_costs a_ways a_stc a_row hF a_ind a_tot a_pri low high ll lh bnd gap bq costs ways stc bc bw bs kn th row rows ind tot pri q fr li sh) sz) := by
  refine xm_i (by decide) (Nat.le_of_ble_eq_true rfl) (fun p e s m args below meth cX ls A Q E hr hnm hX hl hQ => ?_)
  have hl : lv_has ls 3 [(0, .ref hD), (1, .ref hF), (2, .int (iI lim))] := hl
  refine xr_aload_n E hl 0 rfl dX0_meetsWithin_0 rfl ?_
  refine xr_get E hX 0 rfl rfl ly_X0 0 (by decide) fl_X0_12 rfl dX0_meetsWithin_1 ?_
  refine xr_aload_n E hl 1 rfl dX0_meetsWithin_4 rfl ?_
  refine xr_iload_n E hl 2 rfl dX0_meetsWithin_5 rfl ?_
  refine xr_iconst E dX0_meetsWithin_6 ?_
  refine xk_i (W2 := fun uu => (W_DF y hD hB a_low a_high a_ll a_lh a_bnd a_gap a_costs a_ways a_stc a_row hF a_ind a_tot a_pri uu.1 uu.2.1 uu.2.2.1 uu.2.2.2.1 uu.2.2.2.2.1 uu.2.2.2.2.2.1 uu.2.2.2.2.2.2 costs ways stc bc bw bs kn th row rows ind tot pri q fr li sh)) E hX [1, 2, 3, 4, 5, 6, 7, 12, 13, 14, 15] rfl (xv_V (As := [.ref hF, .int (iI lim), .int (iI (-1))]) E hX hl (c_X1_lays l D y z _ hB a_low a_high a_ll a_lh a_bnd a_gap hF a_ind a_tot a_pri low high ll lh bnd gap bq ind tot pri q fr li sh lim (-1) H_I (by omega) (by omega)) ml_X0_53 im_X1_lays se_X1_lays in_X1 co_X1_lays 3 (by decide) ⟨rfl, rfl⟩ ⟨Nat.le_of_ble_eq_true rfl, Nat.le_of_ble_eq_true rfl⟩ [1, 2, 3, 4, 5, 6, 7, 12, 13, 14, 15] rfl rfl 1 rfl rfl rfl rfl rfl (Nat.le_of_ble_eq_true rfl) dX0_meetsWithin_7 ⟨Nat.le_refl _, Nat.le_refl _⟩) [11, 0, 1, 2, 3, 4, 5, 6, 19, 20, 21, 22, 7, 8, 9, 10] 11 (fun _ => rfl) (fun _ => rfl) (by decide) (by decide) (fun r_7 uu H locs hw hX => ?_)
  obtain ⟨low_7, high_7, ll_7, lh_7, bnd_7, gap_7, bq_7⟩ := uu
  have hX : XW D A s.heap (W_DF y hD hB a_low a_high a_ll a_lh a_bnd a_gap a_costs a_ways a_stc a_row hF a_ind a_tot a_pri low_7 high_7 ll_7 lh_7 bnd_7 gap_7 bq_7 costs ways stc bc bw bs kn th row rows ind tot pri q fr li sh) H locs := hX
  dsimp only at hw
  obtain ⟨rfl, hp_7⟩ := hw
  exact xr_zret E hX hQ (low_7, high_7, ll_7, lh_7, bnd_7, gap_7, bq_7) hr rfl ⟨rfl, trivial⟩ rfl dX0_meetsWithin_10
abbrev rm_X0_bends : Room := { frames := 3, cells := 0, slots := 0, locals := 86 }
set_option maxHeartbeats 4000000 in
set_option maxRecDepth 100000 in
theorem c_X0_bends (l : Launch) (D : va_G) (y : CY) (z sz : Nat) (hD hB a_low a_high a_ll a_lh a_bnd a_gap a_costs a_ways a_stc a_row hF a_ind a_tot a_pri : Nat) (low : Int → Int) (high : Int → Int) (ll : Int → Int) (lh : Int → Int) (bnd : Int → Bool) (gap : Int → Int) (bq : Int) (costs : Int → Int) (ways : Int → Int) (stc : Int → Int) (bc : Int) (bw : Int) (bs : Int) (kn : Bool) (th : Bool) (row : Int → Int) (rows : Int) (ind : Int → Int) (tot : Int → Int) (pri : Int → Int) (q : Int) (fr : Int) (li : Int) (sh : Int) (H_I : FI ind tot pri q fr li sh) (H_K : KOk ind tot pri q fr li sh kn th row rows) : Met l yX0_bends (Cond.code yX0_bends cX0_bends 2 (some .boolean) :: TW) rm_X0_bends (va_Pc [.ref hD, .ref hF] (PX D y z (W_DF y hD hB a_low a_high a_ll a_lh a_bnd a_gap a_costs a_ways a_stc a_row hF a_ind a_tot a_pri low high ll lh bnd gap bq costs ways stc bc bw bs kn th row rows ind tot pri q fr li sh) sz)) (va_Qi (fun (r : Int32) (uu : (Int → Int) × (Int → Int) × (Int → Int) × (Int → Int) × (Int → Bool) × (Int → Int) × (Int) × (Int → Int) × (Int → Int) × (Int → Int) × (Int) × (Int) × (Int) × (Bool) × (Bool) × (Int → Int) × (Int)) => r = bB (xMt ind tot pri q fr li (-1)) ∧ (uu.2.2.2.2.2.2.2.2.2.2.2.2.2.1 = true ∧ uu.2.2.2.2.2.2.2.2.2.2.2.2.2.2.1 = xMt ind tot pri q fr li (-1) ∧ (xMt ind tot pri q fr li (-1) = true → RowOk ind tot pri q fr li sh uu.2.2.2.2.2.2.2.2.2.2.2.2.2.2.2.1 uu.2.2.2.2.2.2.2.2.2.2.2.2.2.2.2.2))) (fun uu t => BX D (W_DF y hD hB a_low a_high a_ll a_lh a_bnd a_gap a_costs a_ways a_stc a_row hF a_ind a_tot a_pri uu.1 uu.2.1 uu.2.2.1 uu.2.2.2.1 uu.2.2.2.2.1 uu.2.2.2.2.2.1 uu.2.2.2.2.2.2.1 uu.2.2.2.2.2.2.2.1 uu.2.2.2.2.2.2.2.2.1 uu.2.2.2.2.2.2.2.2.2.1 uu.2.2.2.2.2.2.2.2.2.2.1 uu.2.2.2.2.2.2.2.2.2.2.2.1 uu.2.2.2.2.2.2.2.2.2.2.2.2.1 uu.2.2.2.2.2.2.2.2.2.2.2.2.2.1 uu.2.2.2.2.2.2.2.2.2.2.2.2.2.2.1 uu.2.2.2.2.2.2.2.2.2.2.2.2.2.2.2.1 uu.2.2.2.2.2.2.2.2.2.2.2.2.2.2.2.2 ind tot pri q fr li sh) (va_A (W_DF y hD hB a_low a_high a_ll a_lh a_bnd a_gap a_costs a_ways a_stc a_row hF a_ind a_tot a_pri low high ll lh bnd gap bq costs ways stc bc bw bs kn th row rows ind tot pri q fr li sh) sz) t) (va_A (W_DF y hD hB a_low a_high a_ll a_lh a_bnd a_gap a_costs a_ways a_stc a_row hF a_ind a_tot a_pri low high ll lh bnd gap bq costs ways stc bc bw bs kn th row rows ind tot pri q fr li sh) sz)) 0 0 (va_A (W_DF y hD hB a_low a_high a_ll a_lh a_bnd a_gap a_costs a_ways a_stc a_row hF a_ind a_tot a_pri low high ll lh bnd gap bq costs ways stc bc bw bs kn th row rows ind tot pri q fr li sh) sz) := by
  refine xm_i (by decide) (Nat.le_of_ble_eq_true rfl) (fun p e s m args below meth cX ls A Q E hr hnm hX hl hQ => ?_)
  have hl : lv_has ls 2 [(0, .ref hD), (1, .ref hF)] := hl
  have hq := H_I.q
  have hfr := H_I.fr
  have hli := H_I.li
  have hsh := H_I.sh
  refine xr_aload_n E hl 0 rfl dX0_bends_0 rfl ?_
  refine xr_get E hX 0 rfl rfl ly_X0 7 (by decide) fl_X0_40 rfl dX0_bends_1 ?_
  refine xr_if_neB (tgt := 54) E dX0_bends_4 (by decide) (fun c_4 => ?_) (fun c_4 => ?_)
  · have c_4 := c_4
    refine xr_aload_n E hl 0 rfl dX0_bends_54 rfl ?_
    refine xr_get E hX 0 rfl rfl ly_X0 8 (by decide) fl_X0_44 rfl dX0_bends_55 ?_
    exact xr_zret E hX hQ (low, high, ll, lh, bnd, gap, bq, costs, ways, stc, bc, bw, bs, kn, th, row, rows) hr rfl (by first | (obtain ⟨k1, k2⟩ := H_K c_4; exact ⟨by rw [k1], c_4, k1, fun h => k2 (by rw [k1]; exact h)⟩) | exact ⟨rfl, rfl, rfl, fun h => absurd (c_33.symm.trans h) (by decide)⟩ | exact ⟨rfl, rfl, rfl, fun _ => ⟨fun t h0 h1 => (by dsimp only; rw [hp_51, fillR_in (by omega) (by omega), rdS_cong hq.2 (BGood_t hq.2 (hgood c_33)) (hgood c_33).2.1 _ (by omega)]; rfl), (by have e := congrArg (fun (x : I3) => x.2.1) hbest; dsimp only at e ⊢; rw [e, chs_cong hq.2 (BGood_t hq.2 (hgood c_33)) (hgood c_33).2.1 _ 0 _ _ (by omega) (by omega)]; rfl)⟩⟩) rfl dX0_bends_58
  · have c_4 := c_4
    refine xr_aload_n E hl 0 rfl dX0_bends_7 rfl ?_
    refine xr_iconst E dX0_bends_8 ?_
    refine xr_toB1 ?_
    refine xr_put (W1 := (W_DF y hD hB a_low a_high a_ll a_lh a_bnd a_gap a_costs a_ways a_stc a_row hF a_ind a_tot a_pri low high ll lh bnd gap bq costs ways stc bc bw bs true th row rows ind tot pri q fr li sh)) E hX 0 rfl rfl ly_X0 tyX0_ok nmX0 7 (by decide) fl_X0_40 rfl (bB_nr _) (bB_fit _) (Nat.le_of_ble_eq_true rfl) rfl dX0_bends_9 (fun H locs hX => ?_)
    refine xr_aload_n E hl 0 rfl dX0_bends_12 rfl ?_
    refine xr_aload_n E hl 0 rfl dX0_bends_13 rfl ?_
    refine xr_get E hX 0 rfl rfl ly_X0 0 (by decide) fl_X0_12 rfl dX0_bends_14 ?_
    refine xr_aload_n E hl 1 rfl dX0_bends_17 rfl ?_
    refine xr_aload_n E hl 1 rfl dX0_bends_18 rfl ?_
    refine xr_get E hX 12 rfl rfl ly_X2 5 (by decide) fl_X0_57 rfl dX0_bends_19 ?_
    refine xr_iconst E dX0_bends_22 ?_
    refine xk_i (W2 := fun uu => (W_DF y hD hB a_low a_high a_ll a_lh a_bnd a_gap a_costs a_ways a_stc a_row hF a_ind a_tot a_pri uu.1 uu.2.1 uu.2.2.1 uu.2.2.2.1 uu.2.2.2.2.1 uu.2.2.2.2.2.1 uu.2.2.2.2.2.2 costs ways stc bc bw bs true th row rows ind tot pri q fr li sh)) E hX [1, 2, 3, 4, 5, 6, 7, 12, 13, 14, 15] rfl (xv_V (As := [.ref hF, .int (iI li), .int (iI (-1))]) E hX hl (c_X1_lays l D y z _ hB a_low a_high a_ll a_lh a_bnd a_gap hF a_ind a_tot a_pri low high ll lh bnd gap bq ind tot pri q fr li sh li (-1) H_I (by omega) (by omega)) ml_X0_53 im_X1_lays se_X1_lays in_X1 co_X1_lays 3 (by decide) ⟨rfl, rfl⟩ ⟨Nat.le_of_ble_eq_true rfl, Nat.le_of_ble_eq_true rfl⟩ [1, 2, 3, 4, 5, 6, 7, 12, 13, 14, 15] rfl rfl 1 rfl rfl rfl rfl rfl (Nat.le_of_ble_eq_true rfl) dX0_bends_23 ⟨Nat.le_refl _, Nat.le_refl _⟩) [11, 0, 1, 2, 3, 4, 5, 6, 19, 20, 21, 22, 7, 8, 9, 10] 11 (fun _ => rfl) (fun _ => rfl) (by decide) (by decide) (fun r_23 uu H locs hw hX => ?_)
    obtain ⟨low_23, high_23, ll_23, lh_23, bnd_23, gap_23, bq_23⟩ := uu
    have hX : XW D A s.heap (W_DF y hD hB a_low a_high a_ll a_lh a_bnd a_gap a_costs a_ways a_stc a_row hF a_ind a_tot a_pri low_23 high_23 ll_23 lh_23 bnd_23 gap_23 bq_23 costs ways stc bc bw bs true th row rows ind tot pri q fr li sh) H locs := hX
    dsimp only at hw
    obtain ⟨rfl, hp_23⟩ := hw
    refine xr_put (W1 := (W_DF y hD hB a_low a_high a_ll a_lh a_bnd a_gap a_costs a_ways a_stc a_row hF a_ind a_tot a_pri low_23 high_23 ll_23 lh_23 bnd_23 gap_23 bq_23 costs ways stc bc bw bs true (xMt ind tot pri q fr li (-1)) row rows ind tot pri q fr li sh)) E hX 0 rfl rfl ly_X0 tyX0_ok nmX0 8 (by decide) fl_X0_44 rfl (bB_nr _) (bB_fit _) (Nat.le_of_ble_eq_true rfl) rfl dX0_bends_26 (fun H locs hX => ?_)
    obtain ⟨hbq, hgood⟩ := hp_23
    refine xr_aload_n E hl 0 rfl dX0_bends_29 rfl ?_
    refine xr_get E hX 0 rfl rfl ly_X0 8 (by decide) fl_X0_44 rfl dX0_bends_30 ?_
    refine xr_if_eqB (tgt := 54) E dX0_bends_33 (by decide) (fun c_33 => ?_) (fun c_33 => ?_)
    · have c_33 := c_33
      refine xr_aload_n E hl 0 rfl dX0_bends_54 rfl ?_
      refine xr_get E hX 0 rfl rfl ly_X0 8 (by decide) fl_X0_44 rfl dX0_bends_55 ?_
      exact xr_zret E hX hQ (low_23, high_23, ll_23, lh_23, bnd_23, gap_23, bq_23, costs, ways, stc, bc, bw, bs, true, xMt ind tot pri q fr li (-1), row, rows) hr rfl (by first | (obtain ⟨k1, k2⟩ := H_K c_4; exact ⟨by rw [k1], c_4, k1, fun h => k2 (by rw [k1]; exact h)⟩) | exact ⟨rfl, rfl, rfl, fun h => absurd (c_33.symm.trans h) (by decide)⟩ | exact ⟨rfl, rfl, rfl, fun _ => ⟨fun t h0 h1 => (by dsimp only; rw [hp_51, fillR_in (by omega) (by omega), rdS_cong hq.2 (BGood_t hq.2 (hgood c_33)) (hgood c_33).2.1 _ (by omega)]; rfl), (by have e := congrArg (fun (x : I3) => x.2.1) hbest; dsimp only at e ⊢; rw [e, chs_cong hq.2 (BGood_t hq.2 (hgood c_33)) (hgood c_33).2.1 _ 0 _ _ (by omega) (by omega)]; rfl)⟩⟩) rfl dX0_bends_58
    · have c_33 := c_33
      have hBG := BGood_BG H_I hli c_33 (hgood c_33)
      refine xr_aload_n E hl 0 rfl dX0_bends_36 rfl ?_
      refine xr_aload_n E hl 1 rfl dX0_bends_37 rfl ?_
      refine xk_v (W2 := fun uu => (W_DF y hD hB a_low a_high a_ll a_lh a_bnd a_gap a_costs a_ways a_stc a_row hF a_ind a_tot a_pri low_23 high_23 ll_23 lh_23 bnd_23 gap_23 bq_23 uu.1 uu.2.1 uu.2.2.1 uu.2.2.2.1 uu.2.2.2.2.1 uu.2.2.2.2.2 true (xMt ind tot pri q fr li (-1)) row rows ind tot pri q fr li sh)) E hX [0, 1, 2, 3, 4, 5, 6, 7, 8, 9, 10, 11, 12, 13, 14, 15] rfl (xv_V (As := [.ref hF]) E hX hl (c_X0_fills l D y z _ hD hB a_low a_high a_ll a_lh a_bnd a_gap a_costs a_ways a_stc a_row hF a_ind a_tot a_pri low_23 high_23 ll_23 lh_23 bnd_23 gap_23 bq_23 costs ways stc bc bw bs true (xMt ind tot pri q fr li (-1)) row rows ind tot pri q fr li sh H_I hbq hBG) ml_X0_62 im_X0_fills se_X0_fills in_X0 co_X0_fills 1 (by decide) ⟨rfl, rfl⟩ ⟨Nat.le_of_ble_eq_true rfl, Nat.le_of_ble_eq_true rfl⟩ [0, 1, 2, 3, 4, 5, 6, 7, 8, 9, 10, 11, 12, 13, 14, 15] rfl rfl 0 rfl rfl rfl rfl rfl (Nat.le_of_ble_eq_true rfl) dX0_bends_38 ⟨Nat.le_refl _, Nat.le_refl _⟩) [0, 1, 2, 3, 4, 5, 6, 7, 8, 9, 10, 11, 12, 13, 14, 15] 16 (fun _ => rfl) (fun _ => rfl) (by decide) (by decide) (fun uu H locs hw hX => ?_)
      obtain ⟨costs_38, ways_38, stc_38, bc_38, bw_38, bs_38⟩ := uu
      have hX : XW D A s.heap (W_DF y hD hB a_low a_high a_ll a_lh a_bnd a_gap a_costs a_ways a_stc a_row hF a_ind a_tot a_pri low_23 high_23 ll_23 lh_23 bnd_23 gap_23 bq_23 costs_38 ways_38 stc_38 bc_38 bw_38 bs_38 true (xMt ind tot pri q fr li (-1)) row rows ind tot pri q fr li sh) H locs := hX
      dsimp only at hw
      have hp_38 := hw
      obtain ⟨hbest, hfa⟩ := hp_38
      refine xr_aload_n E hl 0 rfl dX0_bends_41 rfl ?_
      refine xr_aload_n E hl 0 rfl dX0_bends_42 rfl ?_
      refine xr_get E hX 0 rfl rfl ly_X0 5 (by decide) fl_X0_33 rfl dX0_bends_43 ?_
      refine xr_put (W1 := (W_DF y hD hB a_low a_high a_ll a_lh a_bnd a_gap a_costs a_ways a_stc a_row hF a_ind a_tot a_pri low_23 high_23 ll_23 lh_23 bnd_23 gap_23 bq_23 costs_38 ways_38 stc_38 bc_38 bw_38 bs_38 true (xMt ind tot pri q fr li (-1)) row bw_38 ind tot pri q fr li sh)) E hX 0 rfl rfl ly_X0 tyX0_ok nmX0 10 (by decide) fl_X0_50 rfl rfl rfl (Nat.le_of_ble_eq_true rfl) rfl dX0_bends_46 (fun H locs hX => ?_)
      refine xr_aload_n E hl 0 rfl dX0_bends_49 rfl ?_
      refine xr_aload_n E hl 1 rfl dX0_bends_50 rfl ?_
      refine xk_v (W2 := fun uu => (W_DF y hD hB a_low a_high a_ll a_lh a_bnd a_gap a_costs a_ways a_stc a_row hF a_ind a_tot a_pri low_23 high_23 ll_23 lh_23 bnd_23 gap_23 bq_23 costs_38 ways_38 uu.1 uu.2.1 uu.2.2.1 uu.2.2.2.1 true (xMt ind tot pri q fr li (-1)) uu.2.2.2.2 bw_38 ind tot pri q fr li sh)) E hX [0, 1, 2, 3, 4, 5, 6, 7, 8, 9, 10, 11, 12, 13, 14, 15] rfl (xv_V (As := [.ref hF]) E hX hl (c_X0_traces l D y z _ hD hB a_low a_high a_ll a_lh a_bnd a_gap a_costs a_ways a_stc a_row hF a_ind a_tot a_pri low_23 high_23 ll_23 lh_23 bnd_23 gap_23 bq_23 costs_38 ways_38 stc_38 bc_38 bw_38 bs_38 true (xMt ind tot pri q fr li (-1)) row bw_38 ind tot pri q fr li sh H_I hbq hBG hfa) ml_X0_66 im_X0_traces se_X0_traces in_X0 co_X0_traces 1 (by decide) ⟨rfl, rfl⟩ ⟨Nat.le_of_ble_eq_true rfl, Nat.le_of_ble_eq_true rfl⟩ [0, 1, 2, 3, 4, 5, 6, 7, 8, 9, 10, 11, 12, 13, 14, 15] rfl rfl 0 rfl rfl rfl rfl rfl (Nat.le_of_ble_eq_true rfl) dX0_bends_51 ⟨Nat.le_refl _, Nat.le_refl _⟩) [0, 1, 2, 3, 4, 5, 6, 7, 8, 9, 10, 11, 12, 13, 14, 15] 16 (fun _ => rfl) (fun _ => rfl) (by decide) (by decide) (fun uu H locs hw hX => ?_)
      obtain ⟨stc_51, bc_51, bw_51, bs_51, row_51⟩ := uu
      have hX : XW D A s.heap (W_DF y hD hB a_low a_high a_ll a_lh a_bnd a_gap a_costs a_ways a_stc a_row hF a_ind a_tot a_pri low_23 high_23 ll_23 lh_23 bnd_23 gap_23 bq_23 costs_38 ways_38 stc_51 bc_51 bw_51 bs_51 true (xMt ind tot pri q fr li (-1)) row_51 bw_38 ind tot pri q fr li sh) H locs := hX
      dsimp only at hw
      have hp_51 := hw
      refine xr_aload_n E hl 0 rfl dX0_bends_54 rfl ?_
      refine xr_get E hX 0 rfl rfl ly_X0 8 (by decide) fl_X0_44 rfl dX0_bends_55 ?_
      exact xr_zret E hX hQ (low_23, high_23, ll_23, lh_23, bnd_23, gap_23, bq_23, costs_38, ways_38, stc_51, bc_51, bw_51, bs_51, true, xMt ind tot pri q fr li (-1), row_51, bw_38) hr rfl (by first | (obtain ⟨k1, k2⟩ := H_K c_4; exact ⟨by rw [k1], c_4, k1, fun h => k2 (by rw [k1]; exact h)⟩) | exact ⟨rfl, rfl, rfl, fun h => absurd (c_33.symm.trans h) (by decide)⟩ | exact ⟨rfl, rfl, rfl, fun _ => ⟨fun t h0 h1 => (by dsimp only; rw [hp_51, fillR_in (by omega) (by omega), rdS_cong hq.2 (BGood_t hq.2 (hgood c_33)) (hgood c_33).2.1 _ (by omega)]; rfl), (by have e := congrArg (fun (x : I3) => x.2.1) hbest; dsimp only at e ⊢; rw [e, chs_cong hq.2 (BGood_t hq.2 (hgood c_33)) (hgood c_33).2.1 _ 0 _ _ (by omega) (by omega)]; rfl)⟩⟩) rfl dX0_bends_58
def xLw (ind tot pri : Int → Int) (q fr li sh v : Int) : Int := if xMt ind tot pri q fr li v = true then xBest ind tot pri q fr li v sh / 1024 else 0
abbrev rm_X0_leastWithout : Room := { frames := 3, cells := 0, slots := 0, locals := 86 }
set_option maxHeartbeats 4000000 in
set_option maxRecDepth 100000 in
theorem c_X0_leastWithout (l : Launch) (D : va_G) (y : CY) (z sz : Nat) (hD hB a_low a_high a_ll a_lh a_bnd a_gap a_costs a_ways a_stc a_row hF a_ind a_tot a_pri : Nat) (low : Int → Int) (high : Int → Int) (ll : Int → Int) (lh : Int → Int) (bnd : Int → Bool) (gap : Int → Int) (bq : Int) (costs : Int → Int) (ways : Int → Int) (stc : Int → Int) (bc : Int) (bw : Int) (bs : Int) (kn : Bool) (th : Bool) (row : Int → Int) (rows : Int) (ind : Int → Int) (tot : Int → Int) (pri : Int → Int) (q : Int) (fr : Int) (li : Int) (sh : Int) (v : Int) (H_I : FI ind tot pri q fr li sh) (hv : 0 ≤ v ∧ v < 3) : Met l yX0_leastWithout (Cond.code yX0_leastWithout cX0_leastWithout 3 (some .long) :: TW) rm_X0_leastWithout (va_Pc [.ref hD, .ref hF, .int (iI v)] (PX D y z (W_DF y hD hB a_low a_high a_ll a_lh a_bnd a_gap a_costs a_ways a_stc a_row hF a_ind a_tot a_pri low high ll lh bnd gap bq costs ways stc bc bw bs kn th row rows ind tot pri q fr li sh) sz)) (va_Ql (fun (r : Int64) (uu : (Int → Int) × (Int → Int) × (Int → Int) × (Int → Int) × (Int → Bool) × (Int → Int) × (Int) × (Int → Int) × (Int → Int) × (Int → Int) × (Int) × (Int) × (Int)) => r = lI (xLw ind tot pri q fr li sh v) ∧ True) (fun uu t => BX D (W_DF y hD hB a_low a_high a_ll a_lh a_bnd a_gap a_costs a_ways a_stc a_row hF a_ind a_tot a_pri uu.1 uu.2.1 uu.2.2.1 uu.2.2.2.1 uu.2.2.2.2.1 uu.2.2.2.2.2.1 uu.2.2.2.2.2.2.1 uu.2.2.2.2.2.2.2.1 uu.2.2.2.2.2.2.2.2.1 uu.2.2.2.2.2.2.2.2.2.1 uu.2.2.2.2.2.2.2.2.2.2.1 uu.2.2.2.2.2.2.2.2.2.2.2.1 uu.2.2.2.2.2.2.2.2.2.2.2.2 kn th row rows ind tot pri q fr li sh) (va_A (W_DF y hD hB a_low a_high a_ll a_lh a_bnd a_gap a_costs a_ways a_stc a_row hF a_ind a_tot a_pri low high ll lh bnd gap bq costs ways stc bc bw bs kn th row rows ind tot pri q fr li sh) sz) t) (va_A (W_DF y hD hB a_low a_high a_ll a_lh a_bnd a_gap a_costs a_ways a_stc a_row hF a_ind a_tot a_pri low high ll lh bnd gap bq costs ways stc bc bw bs kn th row rows ind tot pri q fr li sh) sz)) 0 0 (va_A (W_DF y hD hB a_low a_high a_ll a_lh a_bnd a_gap a_costs a_ways a_stc a_row hF a_ind a_tot a_pri low high ll lh bnd gap bq costs ways stc bc bw bs kn th row rows ind tot pri q fr li sh) sz) := by
  refine xm_l (by decide) (Nat.le_of_ble_eq_true rfl) (fun p e s m args below meth cX ls A Q E hr hnm hX hl hQ => ?_)
  have hl : lv_has ls 3 [(0, .ref hD), (1, .ref hF), (2, .int (iI v))] := hl
  have hq := H_I.q
  have hfr := H_I.fr
  have hli := H_I.li
  have hsh := H_I.sh
  refine xr_aload_n E hl 0 rfl dX0_leastWithout_0 rfl ?_
  refine xr_get E hX 0 rfl rfl ly_X0 0 (by decide) fl_X0_12 rfl dX0_leastWithout_1 ?_
  refine xr_aload_n E hl 1 rfl dX0_leastWithout_4 rfl ?_
  refine xr_aload_n E hl 1 rfl dX0_leastWithout_5 rfl ?_
  refine xr_get E hX 12 rfl rfl ly_X2 5 (by decide) fl_X0_57 rfl dX0_leastWithout_6 ?_
  refine xr_iload_n E hl 2 rfl dX0_leastWithout_9 rfl ?_
  refine xk_i (W2 := fun uu => (W_DF y hD hB a_low a_high a_ll a_lh a_bnd a_gap a_costs a_ways a_stc a_row hF a_ind a_tot a_pri uu.1 uu.2.1 uu.2.2.1 uu.2.2.2.1 uu.2.2.2.2.1 uu.2.2.2.2.2.1 uu.2.2.2.2.2.2 costs ways stc bc bw bs kn th row rows ind tot pri q fr li sh)) E hX [1, 2, 3, 4, 5, 6, 7, 12, 13, 14, 15] rfl (xv_V (As := [.ref hF, .int (iI li), .int (iI v)]) E hX hl (c_X1_lays l D y z _ hB a_low a_high a_ll a_lh a_bnd a_gap hF a_ind a_tot a_pri low high ll lh bnd gap bq ind tot pri q fr li sh li v H_I (by omega) (by omega)) ml_X0_53 im_X1_lays se_X1_lays in_X1 co_X1_lays 3 (by decide) ⟨rfl, rfl⟩ ⟨Nat.le_of_ble_eq_true rfl, Nat.le_of_ble_eq_true rfl⟩ [1, 2, 3, 4, 5, 6, 7, 12, 13, 14, 15] rfl rfl 1 rfl rfl rfl rfl rfl (Nat.le_of_ble_eq_true rfl) dX0_leastWithout_10 ⟨Nat.le_refl _, Nat.le_refl _⟩) [11, 0, 1, 2, 3, 4, 5, 6, 19, 20, 21, 22, 7, 8, 9, 10] 11 (fun _ => rfl) (fun _ => rfl) (by decide) (by decide) (fun r_10 uu H locs hw hX => ?_)
  obtain ⟨low_10, high_10, ll_10, lh_10, bnd_10, gap_10, bq_10⟩ := uu
  have hX : XW D A s.heap (W_DF y hD hB a_low a_high a_ll a_lh a_bnd a_gap a_costs a_ways a_stc a_row hF a_ind a_tot a_pri low_10 high_10 ll_10 lh_10 bnd_10 gap_10 bq_10 costs ways stc bc bw bs kn th row rows ind tot pri q fr li sh) H locs := hX
  dsimp only at hw
  obtain ⟨rfl, hp_10⟩ := hw
  refine xr_if_neB (tgt := 18) E dX0_leastWithout_13 (by decide) (fun c_13 => ?_) (fun c_13 => ?_)
  · have c_13 := c_13
    obtain ⟨hbq, hgood⟩ := hp_10
    have hBG := BGood_BG H_I hli c_13 (hgood c_13)
    refine xr_aload_n E hl 0 rfl dX0_leastWithout_18 rfl ?_
    refine xr_aload_n E hl 1 rfl dX0_leastWithout_19 rfl ?_
    refine xk_v (W2 := fun uu => (W_DF y hD hB a_low a_high a_ll a_lh a_bnd a_gap a_costs a_ways a_stc a_row hF a_ind a_tot a_pri low_10 high_10 ll_10 lh_10 bnd_10 gap_10 bq_10 uu.1 uu.2.1 uu.2.2.1 uu.2.2.2.1 uu.2.2.2.2.1 uu.2.2.2.2.2 kn th row rows ind tot pri q fr li sh)) E hX [0, 1, 2, 3, 4, 5, 6, 7, 8, 9, 10, 11, 12, 13, 14, 15] rfl (xv_V (As := [.ref hF]) E hX hl (c_X0_fills l D y z _ hD hB a_low a_high a_ll a_lh a_bnd a_gap a_costs a_ways a_stc a_row hF a_ind a_tot a_pri low_10 high_10 ll_10 lh_10 bnd_10 gap_10 bq_10 costs ways stc bc bw bs kn th row rows ind tot pri q fr li sh H_I hbq hBG) ml_X0_62 im_X0_fills se_X0_fills in_X0 co_X0_fills 1 (by decide) ⟨rfl, rfl⟩ ⟨Nat.le_of_ble_eq_true rfl, Nat.le_of_ble_eq_true rfl⟩ [0, 1, 2, 3, 4, 5, 6, 7, 8, 9, 10, 11, 12, 13, 14, 15] rfl rfl 0 rfl rfl rfl rfl rfl (Nat.le_of_ble_eq_true rfl) dX0_leastWithout_20 ⟨Nat.le_refl _, Nat.le_refl _⟩) [0, 1, 2, 3, 4, 5, 6, 7, 8, 9, 10, 11, 12, 13, 14, 15] 16 (fun _ => rfl) (fun _ => rfl) (by decide) (by decide) (fun uu H locs hw hX => ?_)
    obtain ⟨costs_20, ways_20, stc_20, bc_20, bw_20, bs_20⟩ := uu
    have hX : XW D A s.heap (W_DF y hD hB a_low a_high a_ll a_lh a_bnd a_gap a_costs a_ways a_stc a_row hF a_ind a_tot a_pri low_10 high_10 ll_10 lh_10 bnd_10 gap_10 bq_10 costs_20 ways_20 stc_20 bc_20 bw_20 bs_20 kn th row rows ind tot pri q fr li sh) H locs := hX
    dsimp only at hw
    have hp_20 := hw
    have hb0 := xBest_bd (sh := sh) H_I hli c_13
    have hbest : bc_20 = xBest ind tot pri q fr li v sh := by have e := congrArg (fun (x : I3) => x.1) hp_20.1; dsimp only at e; rw [e, chs_cong hq.2 (BGood_t hq.2 (hgood c_13)) (hgood c_13).2.1 _ 0 _ _ (by omega) (by omega)]; rfl
    refine xr_aload_n E hl 0 rfl dX0_leastWithout_23 rfl ?_
    refine xr_get E hX 0 rfl rfl ly_X0 4 (by decide) fl_X0_29 rfl dX0_leastWithout_24 ?_
    refine xr_bipush E dX0_leastWithout_27 (by decide) ?_
    refine xr_lshr E dX0_leastWithout_29 (by omega) (by omega) ?_
    exact xr_lret E hX hQ (low_10, high_10, ll_10, lh_10, bnd_10, gap_10, bq_10, costs_20, ways_20, stc_20, bc_20, bw_20, bs_20) hr ⟨by unfold xLw; rw [if_pos c_13, hbest], trivial⟩ rfl dX0_leastWithout_30
  · have c_13 := c_13
    refine xr_lconst (v := 0) E dX0_leastWithout_16 (by decide) ?_
    exact xr_lret E hX hQ (low_10, high_10, ll_10, lh_10, bnd_10, gap_10, bq_10, costs, ways, stc, bc, bw, bs) hr ⟨by unfold xLw; rw [if_neg (by rw [c_13]; decide)], trivial⟩ rfl dX0_leastWithout_17
