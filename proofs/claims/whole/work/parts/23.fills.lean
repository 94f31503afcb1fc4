/-! Bender: filling the spots -/
abbrev rm_X0_fills : Room := { frames := 2, cells := 0, slots := 0, locals := 61 }
set_option maxHeartbeats 4000000 in
set_option maxRecDepth 100000 in
theorem c_X0_fills (l : Launch) (D : va_G) (y : CY) (z sz : Nat) (hD hB a_low a_high a_ll a_lh a_bnd a_gap a_costs a_ways a_stc a_row hF a_ind a_tot a_pri : Nat) (low : Int → Int) (high : Int → Int) (ll : Int → Int) (lh : Int → Int) (bnd : Int → Bool) (gap : Int → Int) (bq : Int) (costs : Int → Int) (ways : Int → Int) (stc : Int → Int) (bc : Int) (bw : Int) (bs : Int) (kn : Bool) (th : Bool) (row : Int → Int) (rows : Int) (ind : Int → Int) (tot : Int → Int) (pri : Int → Int) (q : Int) (fr : Int) (li : Int) (sh : Int) (H_I : FI ind tot pri q fr li sh) (hbq : bq = q) (H_B : BG q low high ll lh bnd gap) : Met l yX0_fills (Cond.code yX0_fills cX0_fills 6 none :: TW) rm_X0_fills (va_Pc [.ref hD, .ref hF] (PX D y z (W_DF y hD hB a_low a_high a_ll a_lh a_bnd a_gap a_costs a_ways a_stc a_row hF a_ind a_tot a_pri low high ll lh bnd gap bq costs ways stc bc bw bs kn th row rows ind tot pri q fr li sh) sz)) (va_Qv (fun (uu : (Int → Int) × (Int → Int) × (Int → Int) × (Int) × (Int) × (Int)) => (uu.2.2.2.1, uu.2.2.2.2.1, uu.2.2.2.2.2) = chs ind sh low high ll lh bnd gap q.toNat 0 0 0 ∧ ∀ u : Int, 0 ≤ u → FilA ind sh q low high ll lh bnd gap uu.1 uu.2.1 u) (fun uu t => BX D (W_DF y hD hB a_low a_high a_ll a_lh a_bnd a_gap a_costs a_ways a_stc a_row hF a_ind a_tot a_pri low high ll lh bnd gap bq uu.1 uu.2.1 uu.2.2.1 uu.2.2.2.1 uu.2.2.2.2.1 uu.2.2.2.2.2 kn th row rows ind tot pri q fr li sh) (va_A (W_DF y hD hB a_low a_high a_ll a_lh a_bnd a_gap a_costs a_ways a_stc a_row hF a_ind a_tot a_pri low high ll lh bnd gap bq costs ways stc bc bw bs kn th row rows ind tot pri q fr li sh) sz) t) (va_A (W_DF y hD hB a_low a_high a_ll a_lh a_bnd a_gap a_costs a_ways a_stc a_row hF a_ind a_tot a_pri low high ll lh bnd gap bq costs ways stc bc bw bs kn th row rows ind tot pri q fr li sh) sz)) 0 0 (va_A (W_DF y hD hB a_low a_high a_ll a_lh a_bnd a_gap a_costs a_ways a_stc a_row hF a_ind a_tot a_pri low high ll lh bnd gap bq costs ways stc bc bw bs kn th row rows ind tot pri q fr li sh) sz) := by
  refine xm_v (by decide) (Nat.le_of_ble_eq_true rfl) (fun p e s m args below meth cX ls A Q E hr hnm hX hl hQ => ?_)
  have hl : lv_has ls 6 [(0, .ref hD), (1, .ref hF)] := hl
  have hq := H_I.q
  have hfr := H_I.fr
  have hli := H_I.li
  have hsh := H_I.sh
  refine xr_aload_n E hl 1 rfl dX0_fills_0 rfl ?_
  refine xr_get E hX 12 rfl rfl ly_X2 3 (by decide) fl_X0_69 rfl dX0_fills_1 ?_
  refine xr_iconst E dX0_fills_4 ?_
  refine xr_isub E dX0_fills_5 ?_
  refine xr_istore_n (lv' := [(2, .int (iI (q - 1))), (0, .ref hD), (1, .ref hF)]) E hl dX0_fills_6 rfl (by decide) rfl (fun ls hl => ?_)
  have L_7_1 : ∀ (nmu : Nat) (t : Int) (co1 : Int → Int) (wa1 : Int → Int) (st1 : Int → Int) (bc1 : Int) (bw1 : Int) (bs1 : Int), (t + 1).toNat < nmu → (-1 ≤ t ∧ t ≤ q - 1) → (Fil ind sh q low high ll lh bnd gap co1 wa1 t (low t) (xLeast bnd gap ll t (low t))) → ∀ (H : Heap) (locs : List Loc) (ls : Array Slot), XW D A s.heap (W_DF y hD hB a_low a_high a_ll a_lh a_bnd a_gap a_costs a_ways a_stc a_row hF a_ind a_tot a_pri low high ll lh bnd gap bq co1 wa1 st1 bc1 bw1 bs1 kn th row rows ind tot pri q fr li sh) H locs → lv_has ls 6 [(0, .ref hD), (1, .ref hF), (2, .int (iI t))] → W p l e rm_X0_fills s m args below meth cX H locs 0 0 Q (F0 m 7 ls []) := by
    intro nmu
    induction nmu with
    | zero =>
      intro t co1 wa1 st1 bc1 bw1 bs1 hmu
      exact absurd hmu (Nat.not_lt_zero _)
    | succ nmu ih =>
      intro t co1 wa1 st1 bc1 bw1 bs1 hmu ht hFi H locs ls hX hl
      have ih_7_1 := ih
      clear ih
      refine xr_iload_n E hl 2 rfl dX0_fills_7 rfl ?_
      refine xr_if_lt (tgt := 111) E dX0_fills_8 (by decide) ⟨by omega, by omega⟩ (fun c_8 => ?_) (fun c_8 => ?_)
      · have c_8 := c_8
        have hall : ∀ u : Int, 0 ≤ u → FilA ind sh q low high ll lh bnd gap co1 wa1 u := fun u hu => Fil_A hFi (by omega) hu
        have hcs := ch_step (u := 0) (d := 0) (lf := 0) H_I H_B (by omega) (Or.inl rfl) ⟨by omega, by omega⟩ ⟨by omega, by omega⟩ (hall 0 (by omega)) (Wg_of (stc := st1))
        refine xr_aload_n E hl 0 rfl dX0_fills_111 rfl ?_
        refine xr_aload_n E hl 1 rfl dX0_fills_112 rfl ?_
        refine xr_iconst E dX0_fills_113 ?_
        refine xr_iconst E dX0_fills_114 ?_
        refine xk_v (W2 := fun uu => (W_DF y hD hB a_low a_high a_ll a_lh a_bnd a_gap a_costs a_ways a_stc a_row hF a_ind a_tot a_pri low high ll lh bnd gap bq co1 wa1 uu bc1 bw1 bs1 kn th row rows ind tot pri q fr li sh)) E hX [0, 1, 2, 3, 4, 5, 6, 7, 8, 9, 10, 11, 12, 13, 14, 15] rfl (xv_V (As := [.ref hF, .int (iI 0), .int (iI 0)]) E hX hl (c_X0_weighsSteps l D y z _ hD hB a_low a_high a_ll a_lh a_bnd a_gap a_costs a_ways a_stc a_row hF a_ind a_tot a_pri low high ll lh bnd gap bq co1 wa1 st1 bc1 bw1 bs1 kn th row rows ind tot pri q fr li sh 0 0 H_I (by omega) (by omega) (fun h => by have g := (H_B (0) (by omega) h).1; omega)) ml_X0_78 im_X0_weighsSteps se_X0_weighsSteps in_X0 co_X0_weighsSteps 3 (by decide) ⟨rfl, rfl⟩ ⟨Nat.le_of_ble_eq_true rfl, Nat.le_of_ble_eq_true rfl⟩ [0, 1, 2, 3, 4, 5, 6, 7, 8, 9, 10, 11, 12, 13, 14, 15] rfl rfl 0 rfl rfl rfl rfl rfl (Nat.le_of_ble_eq_true rfl) dX0_fills_115 ⟨Nat.le_refl _, Nat.le_refl _⟩) [0, 1, 2, 3, 4, 5, 6, 7, 8, 9, 10, 11, 12, 13, 14, 15] 16 (fun _ => rfl) (fun _ => rfl) (by decide) (by decide) (fun uu H locs hw hX => ?_)
        subst hw
        have hX : XW D A s.heap (W_DF y hD hB a_low a_high a_ll a_lh a_bnd a_gap a_costs a_ways a_stc a_row hF a_ind a_tot a_pri low high ll lh bnd gap bq co1 wa1 (xWs ind st1 low high q sh 0 0) bc1 bw1 bs1 kn th row rows ind tot pri q fr li sh) H locs := hX
        refine xr_aload_n E hl 0 rfl dX0_fills_118 rfl ?_
        refine xr_iconst E dX0_fills_119 ?_
        refine xr_iconst E dX0_fills_120 ?_
        refine xk_v (W2 := fun uu => (W_DF y hD hB a_low a_high a_ll a_lh a_bnd a_gap a_costs a_ways a_stc a_row hF a_ind a_tot a_pri low high ll lh bnd gap bq co1 wa1 (xWs ind st1 low high q sh 0 0) uu.1 uu.2.1 uu.2.2 kn th row rows ind tot pri q fr li sh)) E hX [0, 1, 2, 3, 4, 5, 6, 7, 8, 9, 10, 11] rfl (xv_V (As := [.int (iI 0), .int (iI 0)]) E hX hl (c_X0_choosesStep l D y z _ hD hB a_low a_high a_ll a_lh a_bnd a_gap a_costs a_ways a_stc a_row low high ll lh bnd gap bq co1 wa1 (xWs ind st1 low high q sh 0 0) bc1 bw1 bs1 kn th row rows 0 0 (by omega) (by omega) (by rw [hbq]; exact hcs.1)) ml_X0_89 im_X0_choosesStep se_X0_choosesStep in_X0 co_X0_choosesStep 2 (by decide) ⟨rfl, rfl⟩ ⟨Nat.le_of_ble_eq_true rfl, Nat.le_of_ble_eq_true rfl⟩ [0, 1, 2, 3, 4, 5, 6, 7, 8, 9, 10, 11] rfl rfl 0 rfl rfl rfl rfl rfl (Nat.le_of_ble_eq_true rfl) dX0_fills_121 ⟨Nat.le_refl _, Nat.le_refl _⟩) [0, 1, 2, 3, 4, 5, 6, 7, 8, 9, 10, 11, 24, 25, 26, 27] 12 (fun _ => rfl) (fun _ => rfl) (by decide) (by decide) (fun uu H locs hw hX => ?_)
        subst hw
        have hX : XW D A s.heap (W_DF y hD hB a_low a_high a_ll a_lh a_bnd a_gap a_costs a_ways a_stc a_row hF a_ind a_tot a_pri low high ll lh bnd gap bq co1 wa1 (xWs ind st1 low high q sh 0 0) ((chE bq low high ll lh bnd gap co1 wa1 (xWs ind st1 low high q sh 0 0) 0 0).1) ((chE bq low high ll lh bnd gap co1 wa1 (xWs ind st1 low high q sh 0 0) 0 0).2.1) ((chE bq low high ll lh bnd gap co1 wa1 (xWs ind st1 low high q sh 0 0) 0 0).2.2) kn th row rows ind tot pri q fr li sh) H locs := hX
        exact xr_vret E hX hQ (co1, wa1, xWs ind st1 low high q sh 0 0, (chE bq low high ll lh bnd gap co1 wa1 (xWs ind st1 low high q sh 0 0) 0 0).1, (chE bq low high ll lh bnd gap co1 wa1 (xWs ind st1 low high q sh 0 0) 0 0).2.1, (chE bq low high ll lh bnd gap co1 wa1 (xWs ind st1 low high q sh 0 0) 0 0).2.2) hr ⟨by rw [hbq, hcs.2, show (q - 0) = q by omega], hall⟩ rfl dX0_fills_124
      · have c_8 := c_8
        obtain ⟨g1, g2, g3, g4, g5, g6⟩ := H_B t (by omega) (by omega)
        refine xr_aload_n E hl 0 rfl dX0_fills_11 rfl ?_
        refine xr_get E hX 0 rfl rfl ly_X0 0 (by decide) fl_X0_12 rfl dX0_fills_12 ?_
        refine xr_get E hX 1 rfl rfl ly_X1 0 (by decide) fl_X0_72 rfl dX0_fills_15 ?_
        refine xr_iload_n E hl 2 rfl dX0_fills_18 rfl ?_
        refine xr_iald E hX 2 rfl (by omega) (by omega) (by decide) dX0_fills_19 ?_
        refine xr_istore_n (lv' := [(3, .int (iI (low t))), (0, .ref hD), (1, .ref hF), (2, .int (iI t))]) E hl dX0_fills_20 rfl (by decide) rfl (fun ls hl => ?_)
        have L_21_2 : ∀ (nmu : Nat) (d : Int) (co2 : Int → Int) (wa2 : Int → Int) (st2 : Int → Int) (bc2 : Int) (bw2 : Int) (bs2 : Int), (high t - d + 1).toNat < nmu → (low t ≤ d ∧ d ≤ high t + 1) → (Fil ind sh q low high ll lh bnd gap co2 wa2 t d (xLeast bnd gap ll t d)) → ∀ (H : Heap) (locs : List Loc) (ls : Array Slot), XW D A s.heap (W_DF y hD hB a_low a_high a_ll a_lh a_bnd a_gap a_costs a_ways a_stc a_row hF a_ind a_tot a_pri low high ll lh bnd gap bq co2 wa2 st2 bc2 bw2 bs2 kn th row rows ind tot pri q fr li sh) H locs → lv_has ls 6 [(0, .ref hD), (1, .ref hF), (2, .int (iI t)), (3, .int (iI d))] → W p l e rm_X0_fills s m args below meth cX H locs 0 0 Q (F0 m 21 ls []) := by
          intro nmu
          induction nmu with
          | zero =>
            intro d co2 wa2 st2 bc2 bw2 bs2 hmu
            exact absurd hmu (Nat.not_lt_zero _)
          | succ nmu ih =>
            intro d co2 wa2 st2 bc2 bw2 bs2 hmu hd hF2 H locs ls hX hl
            have ih_21_2 := ih
            clear ih
            refine xr_iload_n E hl 3 rfl dX0_fills_21 rfl ?_
            refine xr_aload_n E hl 0 rfl dX0_fills_22 rfl ?_
            refine xr_get E hX 0 rfl rfl ly_X0 0 (by decide) fl_X0_12 rfl dX0_fills_23 ?_
            refine xr_get E hX 1 rfl rfl ly_X1 1 (by decide) fl_X0_75 rfl dX0_fills_26 ?_
            refine xr_iload_n E hl 2 rfl dX0_fills_29 rfl ?_
            refine xr_iald E hX 3 rfl (by omega) (by omega) (by decide) dX0_fills_30 ?_
            refine xr_icmp_gt (tgt := 105) E dX0_fills_31 (by decide) ⟨by omega, by omega⟩ ⟨by omega, by omega⟩ (fun c_31 => ?_) (fun c_31 => ?_)
            · have c_31 := c_31
              refine xr_iinc (k := 2) (lv' := [(2, .int (iI (t + (-1)))), (0, .ref hD), (1, .ref hF), (3, .int (iI d))]) E hl rfl dX0_fills_105 (by decide) rfl (fun ls hl => ?_)
              refine xr_goto (tgt := 7) E dX0_fills_108 (by decide) ?_
              exact ih_7_1 (t + (-1)) co2 wa2 st2 bc2 bw2 bs2 (by omega) (by omega) (Fil_nextT hF2 (by omega)) _ _ _ hX (lv_sub hl [1, 2, 0] rfl)
            · have c_31 := c_31
              have hxl := xLM_bd H_B (t := t) (d := d) (by omega) (by omega) ⟨by omega, by omega⟩
              have hpv := lPrev_bd H_B (t := t) (by omega) (by omega)
              refine xr_aload_n E hl 0 rfl dX0_fills_34 rfl ?_
              refine xr_aload_n E hl 1 rfl dX0_fills_35 rfl ?_
              refine xr_iload_n E hl 2 rfl dX0_fills_36 rfl ?_
              refine xr_iconst E dX0_fills_37 ?_
              refine xr_iadd E dX0_fills_38 ?_
              refine xr_iload_n E hl 3 rfl dX0_fills_39 rfl ?_
              refine xk_v (W2 := fun uu => (W_DF y hD hB a_low a_high a_ll a_lh a_bnd a_gap a_costs a_ways a_stc a_row hF a_ind a_tot a_pri low high ll lh bnd gap bq co2 wa2 uu bc2 bw2 bs2 kn th row rows ind tot pri q fr li sh)) E hX [0, 1, 2, 3, 4, 5, 6, 7, 8, 9, 10, 11, 12, 13, 14, 15] rfl (xv_V (As := [.ref hF, .int (iI (t + 1)), .int (iI d)]) E hX hl (c_X0_weighsSteps l D y z _ hD hB a_low a_high a_ll a_lh a_bnd a_gap a_costs a_ways a_stc a_row hF a_ind a_tot a_pri low high ll lh bnd gap bq co2 wa2 st2 bc2 bw2 bs2 kn th row rows ind tot pri q fr li sh (t + 1) d H_I (by omega) (by omega) (fun h => by have g := (H_B (t + 1) (by omega) h).1; omega)) ml_X0_78 im_X0_weighsSteps se_X0_weighsSteps in_X0 co_X0_weighsSteps 3 (by decide) ⟨rfl, rfl⟩ ⟨Nat.le_of_ble_eq_true rfl, Nat.le_of_ble_eq_true rfl⟩ [0, 1, 2, 3, 4, 5, 6, 7, 8, 9, 10, 11, 12, 13, 14, 15] rfl rfl 0 rfl rfl rfl rfl rfl (Nat.le_of_ble_eq_true rfl) dX0_fills_40 ⟨Nat.le_refl _, Nat.le_refl _⟩) [0, 1, 2, 3, 4, 5, 6, 7, 8, 9, 10, 11, 12, 13, 14, 15] 16 (fun _ => rfl) (fun _ => rfl) (by decide) (by decide) (fun uu H locs hw hX => ?_)
              subst hw
              have hX : XW D A s.heap (W_DF y hD hB a_low a_high a_ll a_lh a_bnd a_gap a_costs a_ways a_stc a_row hF a_ind a_tot a_pri low high ll lh bnd gap bq co2 wa2 (xWs ind st2 low high q sh (t + 1) d) bc2 bw2 bs2 kn th row rows ind tot pri q fr li sh) H locs := hX
              refine xr_aload_n E hl 0 rfl dX0_fills_43 rfl ?_
              refine xr_get E hX 0 rfl rfl ly_X0 0 (by decide) fl_X0_12 rfl dX0_fills_44 ?_
              refine xr_iload_n E hl 2 rfl dX0_fills_47 rfl ?_
              refine xr_iload_n E hl 3 rfl dX0_fills_48 rfl ?_
              refine xk_ri E hX [1, 2, 3, 4, 5, 6, 7] rfl (xv_V (As := [.int (iI t), .int (iI d)]) E hX hl (c_X1_mostLeft l D y z _ hB a_low a_high a_ll a_lh a_bnd a_gap low high ll lh bnd gap bq t d (by omega) (by omega) (by omega) (by omega)) ml_X0_82 im_X1_mostLeft se_X1_mostLeft in_X1 co_X1_mostLeft 2 (by decide) ⟨rfl, rfl⟩ ⟨Nat.le_of_ble_eq_true rfl, Nat.le_of_ble_eq_true rfl⟩ [1, 2, 3, 4, 5, 6, 7] rfl rfl 1 rfl rfl rfl rfl rfl (Nat.le_of_ble_eq_true rfl) dX0_fills_49 ⟨Nat.le_refl _, Nat.le_refl _⟩) (fun r_49 H locs hw hX => ?_)
              subst hw
              refine xr_istore (lv' := [(4, .int (iI (xMost bnd gap lh t d))), (0, .ref hD), (1, .ref hF), (2, .int (iI t)), (3, .int (iI d))]) E hl dX0_fills_52 (by decide) rfl (fun ls hl => ?_)
              refine xr_aload_n E hl 1 rfl dX0_fills_54 rfl ?_
              refine xr_get E hX 0 rfl rfl ly_X0 0 (by decide) fl_X0_12 rfl dX0_fills_55 ?_
              refine xr_iload_n E hl 3 rfl dX0_fills_58 rfl ?_
              refine xr_iload_n E hl 4 rfl dX0_fills_59 rfl ?_
              refine xk_ri E hX [1, 2, 3, 4, 5, 6, 7] rfl (xv_V (As := [.int (iI t), .int (iI d)]) E hX hl (c_X1_leastLeft l D y z _ hB a_low a_high a_ll a_lh a_bnd a_gap low high ll lh bnd gap bq t d (by omega) (by omega) (by omega) (by omega)) ml_X0_86 im_X1_leastLeft se_X1_leastLeft in_X1 co_X1_leastLeft 2 (by decide) ⟨rfl, rfl⟩ ⟨Nat.le_of_ble_eq_true rfl, Nat.le_of_ble_eq_true rfl⟩ [1, 2, 3, 4, 5, 6, 7] rfl rfl 1 rfl rfl rfl rfl rfl (Nat.le_of_ble_eq_true rfl) dX0_fills_60 ⟨Nat.le_refl _, Nat.le_refl _⟩) (fun r_60 H locs hw hX => ?_)
              subst hw
              refine xr_istore (lv' := [(5, .int (iI (xLeast bnd gap ll t d))), (4, .int (iI (xMost bnd gap lh t d))), (0, .ref hD), (1, .ref hF), (2, .int (iI t)), (3, .int (iI d))]) E hl dX0_fills_63 (by decide) rfl (fun ls hl => ?_)
              have L_65_3 : ∀ (nmu : Nat) (lf : Int) (co3 : Int → Int) (wa3 : Int → Int) (bc3 : Int) (bw3 : Int) (bs3 : Int), (xMost bnd gap lh t d - lf + 1).toNat < nmu → (xLeast bnd gap ll t d ≤ lf ∧ (lf ≤ xMost bnd gap lh t d + 1 ∨ lf = xLeast bnd gap ll t d)) → (Fil ind sh q low high ll lh bnd gap co3 wa3 t d lf) → ∀ (H : Heap) (locs : List Loc) (ls : Array Slot), XW D A s.heap (W_DF y hD hB a_low a_high a_ll a_lh a_bnd a_gap a_costs a_ways a_stc a_row hF a_ind a_tot a_pri low high ll lh bnd gap bq co3 wa3 (xWs ind st2 low high q sh (t + 1) d) bc3 bw3 bs3 kn th row rows ind tot pri q fr li sh) H locs → lv_has ls 6 [(0, .ref hD), (1, .ref hF), (2, .int (iI t)), (3, .int (iI d)), (4, .int (iI (xMost bnd gap lh t d))), (5, .int (iI lf))] → W p l e rm_X0_fills s m args below meth cX H locs 0 0 Q (F0 m 65 ls []) := by
                intro nmu
                induction nmu with
                | zero =>
                  intro lf co3 wa3 bc3 bw3 bs3 hmu
                  exact absurd hmu (Nat.not_lt_zero _)
                | succ nmu ih =>
                  intro lf co3 wa3 bc3 bw3 bs3 hmu hlf hF3 H locs ls hX hl
                  have ih_65_3 := ih
                  clear ih
                  refine xr_iload E hl 5 rfl dX0_fills_65 ?_
                  refine xr_iload E hl 4 rfl dX0_fills_67 ?_
                  refine xr_icmp_gt (tgt := 99) E dX0_fills_69 (by decide) ⟨by omega, by omega⟩ ⟨by omega, by omega⟩ (fun c_69 => ?_) (fun c_69 => ?_)
                  · have c_69 := c_69
                    refine xr_iinc (k := 3) (lv' := [(3, .int (iI (d + 1))), (0, .ref hD), (1, .ref hF), (2, .int (iI t)), (4, .int (iI (xMost bnd gap lh t d))), (5, .int (iI lf))]) E hl rfl dX0_fills_99 (by decide) rfl (fun ls hl => ?_)
                    refine xr_goto (tgt := 21) E dX0_fills_102 (by decide) ?_
                    exact ih_21_2 (d + 1) co3 wa3 (xWs ind st2 low high q sh (t + 1) d) bc3 bw3 bs3 (by omega) (by omega) (Fil_nextD hF3 (by omega)) _ _ _ hX (lv_sub hl [1, 2, 3, 0] rfl)
                  · have c_69 := c_69
                    have hvl : VL bnd gap ll lh t d lf := ⟨hlf.1, by omega⟩
                    have hin := VL_in H_B (by omega) (by omega) hvl
                    have hcs := ch_step (u := t + 1) (d := d) (lf := lf) H_I H_B (by omega) (Or.inr (by rw [show t + 1 - 1 = t by omega]; exact hin)) ⟨by omega, by omega⟩ ⟨by omega, by omega⟩ (Fil_A hF3 (by omega) (by omega)) (Wg_of (stc := st2))
                    have hsb := xSpot_bd (d := d) (by omega) (by omega) hin.1 (by omega) ⟨by omega, by omega⟩
                    refine xr_aload_n E hl 0 rfl dX0_fills_72 rfl ?_
                    refine xr_iload_n E hl 2 rfl dX0_fills_73 rfl ?_
                    refine xr_iconst E dX0_fills_74 ?_
                    refine xr_iadd E dX0_fills_75 ?_
                    refine xr_iload E hl 5 rfl dX0_fills_76 ?_
                    refine xk_v (W2 := fun uu => (W_DF y hD hB a_low a_high a_ll a_lh a_bnd a_gap a_costs a_ways a_stc a_row hF a_ind a_tot a_pri low high ll lh bnd gap bq co3 wa3 (xWs ind st2 low high q sh (t + 1) d) uu.1 uu.2.1 uu.2.2 kn th row rows ind tot pri q fr li sh)) E hX [0, 1, 2, 3, 4, 5, 6, 7, 8, 9, 10, 11] rfl (xv_V (As := [.int (iI (t + 1)), .int (iI lf)]) E hX hl (c_X0_choosesStep l D y z _ hD hB a_low a_high a_ll a_lh a_bnd a_gap a_costs a_ways a_stc a_row low high ll lh bnd gap bq co3 wa3 (xWs ind st2 low high q sh (t + 1) d) bc3 bw3 bs3 kn th row rows (t + 1) lf (by omega) (by omega) (by rw [hbq]; exact hcs.1)) ml_X0_89 im_X0_choosesStep se_X0_choosesStep in_X0 co_X0_choosesStep 2 (by decide) ⟨rfl, rfl⟩ ⟨Nat.le_of_ble_eq_true rfl, Nat.le_of_ble_eq_true rfl⟩ [0, 1, 2, 3, 4, 5, 6, 7, 8, 9, 10, 11] rfl rfl 0 rfl rfl rfl rfl rfl (Nat.le_of_ble_eq_true rfl) dX0_fills_78 ⟨Nat.le_refl _, Nat.le_refl _⟩) [0, 1, 2, 3, 4, 5, 6, 7, 8, 9, 10, 11, 24, 25, 26, 27] 12 (fun _ => rfl) (fun _ => rfl) (by decide) (by decide) (fun uu H locs hw hX => ?_)
                    subst hw
                    have hX : XW D A s.heap (W_DF y hD hB a_low a_high a_ll a_lh a_bnd a_gap a_costs a_ways a_stc a_row hF a_ind a_tot a_pri low high ll lh bnd gap bq co3 wa3 (xWs ind st2 low high q sh (t + 1) d) ((chE bq low high ll lh bnd gap co3 wa3 (xWs ind st2 low high q sh (t + 1) d) (t + 1) lf).1) ((chE bq low high ll lh bnd gap co3 wa3 (xWs ind st2 low high q sh (t + 1) d) (t + 1) lf).2.1) ((chE bq low high ll lh bnd gap co3 wa3 (xWs ind st2 low high q sh (t + 1) d) (t + 1) lf).2.2) kn th row rows ind tot pri q fr li sh) H locs := hX
                    refine xr_aload_n E hl 0 rfl dX0_fills_81 rfl ?_
                    refine xr_aload_n E hl 0 rfl dX0_fills_82 rfl ?_
                    refine xr_iload_n E hl 2 rfl dX0_fills_83 rfl ?_
                    refine xr_iload E hl 5 rfl dX0_fills_84 ?_
                    refine xr_iload_n E hl 3 rfl dX0_fills_86 rfl ?_
                    refine xk_ri E hX [0, 1, 2, 3, 4, 5, 6, 7, 8, 9, 10, 11] rfl (xv_V (As := [.int (iI t), .int (iI lf), .int (iI d)]) E hX hl (c_X0_spot l D y z _ hD hB a_low a_high a_ll a_lh a_bnd a_gap a_costs a_ways a_stc a_row low high ll lh bnd gap bq co3 wa3 (xWs ind st2 low high q sh (t + 1) d) ((chE bq low high ll lh bnd gap co3 wa3 (xWs ind st2 low high q sh (t + 1) d) (t + 1) lf).1) ((chE bq low high ll lh bnd gap co3 wa3 (xWs ind st2 low high q sh (t + 1) d) (t + 1) lf).2.1) ((chE bq low high ll lh bnd gap co3 wa3 (xWs ind st2 low high q sh (t + 1) d) (t + 1) lf).2.2) kn th row rows t lf d (by omega)) ml_X0_93 im_X0_spot se_X0_spot in_X0 co_X0_spot 3 (by decide) ⟨rfl, rfl⟩ ⟨Nat.le_of_ble_eq_true rfl, Nat.le_of_ble_eq_true rfl⟩ [0, 1, 2, 3, 4, 5, 6, 7, 8, 9, 10, 11] rfl rfl 0 rfl rfl rfl rfl rfl (Nat.le_of_ble_eq_true rfl) dX0_fills_87 ⟨Nat.le_refl _, Nat.le_refl _⟩) (fun r_87 H locs hw hX => ?_)
                    subst hw
                    refine xk_v (W2 := fun uu => (W_DF y hD hB a_low a_high a_ll a_lh a_bnd a_gap a_costs a_ways a_stc a_row hF a_ind a_tot a_pri low high ll lh bnd gap bq uu.1 uu.2 (xWs ind st2 low high q sh (t + 1) d) ((chE bq low high ll lh bnd gap co3 wa3 (xWs ind st2 low high q sh (t + 1) d) (t + 1) lf).1) ((chE bq low high ll lh bnd gap co3 wa3 (xWs ind st2 low high q sh (t + 1) d) (t + 1) lf).2.1) ((chE bq low high ll lh bnd gap co3 wa3 (xWs ind st2 low high q sh (t + 1) d) (t + 1) lf).2.2) kn th row rows ind tot pri q fr li sh)) E hX [0, 1, 2, 3, 4, 5, 6, 7, 8, 9, 10, 11] rfl (xv_V (As := [.int (iI (xSpot ll t lf d))]) E hX hl (c_X0_keepsBest l D y z _ hD hB a_low a_high a_ll a_lh a_bnd a_gap a_costs a_ways a_stc a_row low high ll lh bnd gap bq co3 wa3 (xWs ind st2 low high q sh (t + 1) d) ((chE bq low high ll lh bnd gap co3 wa3 (xWs ind st2 low high q sh (t + 1) d) (t + 1) lf).1) ((chE bq low high ll lh bnd gap co3 wa3 (xWs ind st2 low high q sh (t + 1) d) (t + 1) lf).2.1) ((chE bq low high ll lh bnd gap co3 wa3 (xWs ind st2 low high q sh (t + 1) d) (t + 1) lf).2.2) kn th row rows (xSpot ll t lf d) (by omega)) ml_X0_97 im_X0_keepsBest se_X0_keepsBest in_X0 co_X0_keepsBest 1 (by decide) ⟨rfl, rfl⟩ ⟨Nat.le_of_ble_eq_true rfl, Nat.le_of_ble_eq_true rfl⟩ [0, 1, 2, 3, 4, 5, 6, 7, 8, 9, 10, 11] rfl rfl 0 rfl rfl rfl rfl rfl (Nat.le_of_ble_eq_true rfl) dX0_fills_90 ⟨Nat.le_refl _, Nat.le_refl _⟩) [0, 1, 2, 3, 4, 5, 6, 7, 8, 9, 10, 11, 24, 25, 26, 27] 12 (fun _ => rfl) (fun _ => rfl) (by decide) (by decide) (fun uu H locs hw hX => ?_)
                    subst hw
                    have hX : XW D A s.heap (W_DF y hD hB a_low a_high a_ll a_lh a_bnd a_gap a_costs a_ways a_stc a_row hF a_ind a_tot a_pri low high ll lh bnd gap bq (up co3 (xSpot ll t lf d) ((chE bq low high ll lh bnd gap co3 wa3 (xWs ind st2 low high q sh (t + 1) d) (t + 1) lf).1)) (up wa3 (xSpot ll t lf d) ((chE bq low high ll lh bnd gap co3 wa3 (xWs ind st2 low high q sh (t + 1) d) (t + 1) lf).2.1)) (xWs ind st2 low high q sh (t + 1) d) ((chE bq low high ll lh bnd gap co3 wa3 (xWs ind st2 low high q sh (t + 1) d) (t + 1) lf).1) ((chE bq low high ll lh bnd gap co3 wa3 (xWs ind st2 low high q sh (t + 1) d) (t + 1) lf).2.1) ((chE bq low high ll lh bnd gap co3 wa3 (xWs ind st2 low high q sh (t + 1) d) (t + 1) lf).2.2) kn th row rows ind tot pri q fr li sh) H locs := hX
                    refine xr_iinc (k := 5) (lv' := [(5, .int (iI (lf + 1))), (0, .ref hD), (1, .ref hF), (2, .int (iI t)), (3, .int (iI d)), (4, .int (iI (xMost bnd gap lh t d)))]) E hl rfl dX0_fills_93 (by decide) rfl (fun ls hl => ?_)
                    refine xr_goto (tgt := 65) E dX0_fills_96 (by decide) ?_
                    exact ih_65_3 (lf + 1) (up co3 (xSpot ll t lf d) ((chE bq low high ll lh bnd gap co3 wa3 (xWs ind st2 low high q sh (t + 1) d) (t + 1) lf).1)) (up wa3 (xSpot ll t lf d) ((chE bq low high ll lh bnd gap co3 wa3 (xWs ind st2 low high q sh (t + 1) d) (t + 1) lf).2.1)) ((chE bq low high ll lh bnd gap co3 wa3 (xWs ind st2 low high q sh (t + 1) d) (t + 1) lf).1) ((chE bq low high ll lh bnd gap co3 wa3 (xWs ind st2 low high q sh (t + 1) d) (t + 1) lf).2.1) ((chE bq low high ll lh bnd gap co3 wa3 (xWs ind st2 low high q sh (t + 1) d) (t + 1) lf).2.2) (by omega) (by omega) (Fil_step H_B hq.2 hF3 (by omega) (by omega) ⟨by omega, by omega⟩ hvl (by rw [hbq, hcs.2, show q - (t + 1) = q - 1 - t by omega]) (by rw [hbq, hcs.2, show q - (t + 1) = q - 1 - t by omega])) _ _ _ hX (lv_sub hl [1, 2, 3, 4, 5, 0] rfl)
              exact L_65_3 _ (xLeast bnd gap ll t d) co2 wa2 bc2 bw2 bs2 (Nat.lt_succ_self _) (by omega) hF2 _ _ _ hX (lv_sub hl [2, 3, 4, 5, 1, 0] rfl)
        exact L_21_2 _ (low t) co1 wa1 st1 bc1 bw1 bs1 (Nat.lt_succ_self _) (by omega) hFi _ _ _ hX (lv_sub hl [1, 2, 3, 0] rfl)
  exact L_7_1 _ (q - 1) costs ways stc bc bw bs (Nat.lt_succ_self _) (by omega) Fil_0 _ _ _ hX (lv_sub hl [1, 2, 0] rfl)
