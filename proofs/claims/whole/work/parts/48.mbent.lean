/-! the reference: what is bent -/
abbrev W_Mbr (y : CY) (hMo a_now a_asd a_pst a_mrf a_txt a_olt a_ofr a_nbs a_best a_wys a_rwx a_shx a_bef : Nat) (now : Int → Int) (msts : Int) (mrf : Int → Int) (mbyt : Int) (mord : Int) (best : Int → Int) (wys : Int → Int) (rwx : Int → Int) (alw : Int) (bco : Int) (alm : Int) (abt : Int) (mlt : Int) (beg : Int) (figm : Int) : va_W := [(hMo, .inr (6, [.ref a_now, .ref a_asd, .ref a_pst, .int (iI msts), .ref a_mrf, .ref a_txt, .int (iI mbyt), .ref a_olt, .ref a_ofr, .ref a_nbs, .int (iI mord), .ref a_best, .ref a_wys, .ref a_rwx, .int (iI alw), .long (lI bco), .int (iI alm), .int (iI abt), .ref a_shx, .int (iI mlt), .int (iI beg), .int (iI figm), .ref a_bef])), (a_now, .inl (y.1, 31, .inl (ia now))), (a_mrf, .inl (y.1, 3, .inl (ia mrf))), (a_best, .inl (y.2.1, 13260, .inr (.inl (la best)))), (a_wys, .inl (y.1, 13260, .inl (ia wys))), (a_rwx, .inl (y.1, 12, .inl (ia rwx)))]
abbrev W_Mnw (y : CY) (hMo a_now a_asd a_pst a_mrf a_txt a_olt a_ofr a_nbs a_best a_wys a_rwx a_shx a_bef : Nat) (now : Int → Int) (msts : Int) (mbyt : Int) (mord : Int) (rwx : Int → Int) (alw : Int) (bco : Int) (alm : Int) (abt : Int) (mlt : Int) (beg : Int) (figm : Int) : va_W := [(hMo, .inr (6, [.ref a_now, .ref a_asd, .ref a_pst, .int (iI msts), .ref a_mrf, .ref a_txt, .int (iI mbyt), .ref a_olt, .ref a_ofr, .ref a_nbs, .int (iI mord), .ref a_best, .ref a_wys, .ref a_rwx, .int (iI alw), .long (lI bco), .int (iI alm), .int (iI abt), .ref a_shx, .int (iI mlt), .int (iI beg), .int (iI figm), .ref a_bef])), (a_now, .inl (y.1, 31, .inl (ia now))), (a_rwx, .inl (y.1, 12, .inl (ia rwx)))]
abbrev W_Mnx (y : CY) (hMo a_now a_asd a_pst a_mrf a_txt a_olt a_ofr a_nbs a_best a_wys a_rwx a_shx a_bef a_x : Nat) (now : Int → Int) (msts : Int) (mbyt : Int) (mord : Int) (alw : Int) (bco : Int) (alm : Int) (abt : Int) (mlt : Int) (beg : Int) (figm : Int) (x : Int → Int) : va_W := [(hMo, .inr (6, [.ref a_now, .ref a_asd, .ref a_pst, .int (iI msts), .ref a_mrf, .ref a_txt, .int (iI mbyt), .ref a_olt, .ref a_ofr, .ref a_nbs, .int (iI mord), .ref a_best, .ref a_wys, .ref a_rwx, .int (iI alw), .long (lI bco), .int (iI alm), .int (iI abt), .ref a_shx, .int (iI mlt), .int (iI beg), .int (iI figm), .ref a_bef])), (a_now, .inl (y.1, 31, .inl (ia now))), (a_x, .inl (y.1, 12, .inl (ia x)))]
abbrev W_Mpu (y : CY) (hMo a_now a_asd a_pst a_mrf a_txt a_olt a_ofr a_nbs a_best a_wys a_rwx a_shx a_bef : Nat) (now : Int → Int) (asd : Int → Int) (pst : Int → Int) (msts : Int) (mrf : Int → Int) (mbyt : Int) (mord : Int) (best : Int → Int) (wys : Int → Int) (rwx : Int → Int) (alw : Int) (bco : Int) (alm : Int) (abt : Int) (mlt : Int) (beg : Int) (figm : Int) : va_W := [(hMo, .inr (6, [.ref a_now, .ref a_asd, .ref a_pst, .int (iI msts), .ref a_mrf, .ref a_txt, .int (iI mbyt), .ref a_olt, .ref a_ofr, .ref a_nbs, .int (iI mord), .ref a_best, .ref a_wys, .ref a_rwx, .int (iI alw), .long (lI bco), .int (iI alm), .int (iI abt), .ref a_shx, .int (iI mlt), .int (iI beg), .int (iI figm), .ref a_bef])), (a_now, .inl (y.1, 31, .inl (ia now))), (a_asd, .inl (y.1, 31, .inl (ia asd))), (a_pst, .inl (y.1, 155, .inl (ia pst))), (a_mrf, .inl (y.1, 3, .inl (ia mrf))), (a_best, .inl (y.2.1, 13260, .inr (.inl (la best)))), (a_wys, .inl (y.1, 13260, .inl (ia wys))), (a_rwx, .inl (y.1, 12, .inl (ia rwx)))]
abbrev rm_X6_movedBy : Room := { frames := 1, cells := 0, slots := 0, locals := 21 }
set_option maxHeartbeats 4000000 in
set_option maxRecDepth 100000 in
theorem c_X6_movedBy (l : Launch) (D : va_G) (y : CY) (z sz : Nat) (hMo a_now a_asd a_pst a_mrf a_txt a_olt a_ofr a_nbs a_best a_wys a_rwx a_shx a_bef a_x : Nat) (now : Int → Int) (msts : Int) (mbyt : Int) (mord : Int) (alw : Int) (bco : Int) (alm : Int) (abt : Int) (mlt : Int) (beg : Int) (figm : Int) (x : Int → Int) (k : Int) (H_M : FM now) (hx : ∀ t : Int, 0 ≤ t → t < now 0 → -2000 ≤ x t ∧ x t ≤ 2000) (hk : sm k) : Met l yX6_movedBy (Cond.code yX6_movedBy cX6_movedBy 8 (some .long) :: TW) rm_X6_movedBy (va_Pc [.ref hMo, .int (iI k), .ref a_x] (PX D y z (W_Mnx y hMo a_now a_asd a_pst a_mrf a_txt a_olt a_ofr a_nbs a_best a_wys a_rwx a_shx a_bef a_x now msts mbyt mord alw bco alm abt mlt beg figm x) sz)) (va_Ql (fun (r : Int64) (uu : Unit) => r = lI (xMoved (mI now) x (now 0) k)) (fun uu t => BX D (W_Mnx y hMo a_now a_asd a_pst a_mrf a_txt a_olt a_ofr a_nbs a_best a_wys a_rwx a_shx a_bef a_x now msts mbyt mord alw bco alm abt mlt beg figm x) (va_A (W_Mnx y hMo a_now a_asd a_pst a_mrf a_txt a_olt a_ofr a_nbs a_best a_wys a_rwx a_shx a_bef a_x now msts mbyt mord alw bco alm abt mlt beg figm x) sz) t) (va_A (W_Mnx y hMo a_now a_asd a_pst a_mrf a_txt a_olt a_ofr a_nbs a_best a_wys a_rwx a_shx a_bef a_x now msts mbyt mord alw bco alm abt mlt beg figm x) sz)) 0 0 (va_A (W_Mnx y hMo a_now a_asd a_pst a_mrf a_txt a_olt a_ofr a_nbs a_best a_wys a_rwx a_shx a_bef a_x now msts mbyt mord alw bco alm abt mlt beg figm x) sz) := by
  refine xm_l (by decide) (Nat.le_of_ble_eq_true rfl) (fun p e s m args below meth cX ls A Q E hr hnm hX hl hQ => ?_)
  have hl : lv_has ls 8 [(0, .ref hMo), (1, .int (iI k)), (2, .ref a_x)] := hl
  have hq := H_M.q
  have hfr := H_M.fr
  have hli := H_M.li
  have hsh := H_M.sh
  refine xr_lconst (v := 0) E dX6_movedBy_0 (by decide) ?_
  refine xr_lstore_n (lv' := [(3, .long (lI 0)), (0, .ref hMo), (1, .int (iI k)), (2, .ref a_x)]) E hl dX6_movedBy_1 rfl (by decide) rfl (fun ls hl => ?_)
  refine xr_iconst E dX6_movedBy_2 ?_
  refine xr_istore (lv' := [(5, .int (iI 1)), (3, .long (lI 0)), (0, .ref hMo), (1, .int (iI k)), (2, .ref a_x)]) E hl dX6_movedBy_3 (by decide) rfl (fun ls hl => ?_)
  have L_5_1 : ∀ (nmu : Nat) (n : Nat) (acc : Int) (t : Int), 12 - n < nmu → (t = 1 + n) → (acc = sumI (fun t => mvI (mI now) x k t * mvI (mI now) x k t) 1 n) → ((n : Int) ≤ now 0 ∧ (n = 0 ∨ (n : Int) + 1 ≤ now 0)) → ∀ (H : Heap) (locs : List Loc) (ls : Array Slot), XW D A s.heap (W_Mnx y hMo a_now a_asd a_pst a_mrf a_txt a_olt a_ofr a_nbs a_best a_wys a_rwx a_shx a_bef a_x now msts mbyt mord alw bco alm abt mlt beg figm x) H locs → lv_has ls 8 [(0, .ref hMo), (1, .int (iI k)), (2, .ref a_x), (3, .long (lI acc)), (5, .int (iI t))] → W p l e rm_X6_movedBy s m args below meth cX H locs 0 0 Q (F0 m 5 ls []) := by
    intro nmu
    induction nmu with
    | zero =>
      intro n acc t hmu
      exact absurd hmu (Nat.not_lt_zero _)
    | succ nmu ih =>
      intro n acc t hmu ht ha hn H locs ls hX hl
      have ih_5_1 := ih
      clear ih
      refine xr_iload E hl 4 rfl dX6_movedBy_5 ?_
      refine xr_aload_n E hl 0 rfl dX6_movedBy_7 rfl ?_
      refine xr_get E hX 0 rfl rfl ly_X6 0 (by decide) fl_X6_7 rfl dX6_movedBy_8 ?_
      refine xr_iconst E dX6_movedBy_11 ?_
      refine xr_iald E hX 1 rfl (by omega) (by omega) (by decide) dX6_movedBy_12 ?_
      refine xr_icmp_ge (tgt := 101) E dX6_movedBy_13 (by decide) ⟨by omega, by omega⟩ ⟨by omega, by omega⟩ (fun c_13 => ?_) (fun c_13 => ?_)
      · have c_13 := c_13
        refine xr_lload_n E hl 3 rfl dX6_movedBy_101 rfl ?_
        exact xr_lret E hX hQ () hr (by rw [ha, xMoved, show (now 0 - 1).toNat = n by omega]) rfl dX6_movedBy_102
      · have c_13 := c_13
        refine xr_aload_n E hl 0 rfl dX6_movedBy_16 rfl ?_
        refine xr_get E hX 0 rfl rfl ly_X6 0 (by decide) fl_X6_7 rfl dX6_movedBy_17 ?_
        refine xr_iconst E dX6_movedBy_20 ?_
        refine xr_iload E hl 4 rfl dX6_movedBy_21 ?_
        refine xr_iadd E dX6_movedBy_23 ?_
        refine xr_iconst E dX6_movedBy_24 ?_
        refine xr_isub E dX6_movedBy_25 ?_
        refine xr_iald E hX 1 rfl (by omega) (by omega) (by decide) dX6_movedBy_26 ?_
        refine xr_istore (lv' := [(6, .int (iI (now ((1 + t) - 1)))), (0, .ref hMo), (1, .int (iI k)), (2, .ref a_x), (3, .long (lI acc)), (5, .int (iI t))]) E hl dX6_movedBy_27 (by decide) rfl (fun ls hl => ?_)
        refine xr_aload_n E hl 1 rfl dX6_movedBy_29 rfl ?_
        refine xr_get E hX 0 rfl rfl ly_X6 0 (by decide) fl_X6_7 rfl dX6_movedBy_30 ?_
        refine xr_iconst E dX6_movedBy_33 ?_
        refine xr_iload E hl 5 rfl dX6_movedBy_34 ?_
        refine xr_iadd E dX6_movedBy_36 ?_
        refine xr_iald E hX 1 rfl (by omega) (by omega) (by decide) dX6_movedBy_37 ?_
        refine xr_istore (lv' := [(7, .int (iI (now (1 + t)))), (6, .int (iI (now ((1 + t) - 1)))), (0, .ref hMo), (1, .int (iI k)), (2, .ref a_x), (3, .long (lI acc)), (5, .int (iI t))]) E hl dX6_movedBy_38 (by decide) rfl (fun ls hl => ?_)
        have hx1 := hx t (by omega) (by omega)
        have hx2 := hx (t - 1) (by omega) (by omega)
        have hi1 := H_M.ind (t := t) (by omega) (by omega)
        have hi2 := H_M.ind (t := t - 1) (by omega) (by omega)
        rw [show 1 + (t - 1) = 1 + t - 1 by omega] at hi2
        refine xr_lload_n E hl 5 rfl dX6_movedBy_40 rfl ?_
        refine xr_iload_n E hl 3 rfl dX6_movedBy_41 rfl ?_
        refine xr_if_ne (tgt := 69) E dX6_movedBy_42 (by decide) ⟨by omega, by omega⟩ (fun c_42 => ?_) (fun c_42 => ?_)
        · have c_42 := c_42
          refine xr_aload_n E hl 4 rfl dX6_movedBy_69 rfl ?_
          refine xr_iload E hl 6 rfl dX6_movedBy_70 ?_
          refine xr_iald E hX 2 rfl (by omega) (by omega) (by decide) dX6_movedBy_72 ?_
          refine xr_i2l E dX6_movedBy_73 ⟨by omega, by omega⟩ ?_
          refine xr_iload E hl 1 rfl dX6_movedBy_74 ?_
          refine xr_i2l E dX6_movedBy_76 ⟨by omega, by omega⟩ ?_
          refine xr_lmul E dX6_movedBy_77 ?_
          refine xr_aload_n E hl 4 rfl dX6_movedBy_78 rfl ?_
          refine xr_iload E hl 6 rfl dX6_movedBy_79 ?_
          refine xr_iconst E dX6_movedBy_81 ?_
          refine xr_isub E dX6_movedBy_82 ?_
          refine xr_iald E hX 2 rfl (by omega) (by omega) (by decide) dX6_movedBy_83 ?_
          refine xr_i2l E dX6_movedBy_84 ⟨by omega, by omega⟩ ?_
          refine xr_iload E hl 0 rfl dX6_movedBy_85 ?_
          refine xr_i2l E dX6_movedBy_87 ⟨by omega, by omega⟩ ?_
          refine xr_lmul E dX6_movedBy_88 ?_
          refine xr_lsub E dX6_movedBy_89 ?_
          refine xk_rl E hX [] rfl (xv_S (As := [.long (lI (((x t) * (now ((1 + t) - 1))) - ((x (t - 1)) * (now (1 + t)))))]) E hX hl (c_X6_square l D y z _ (((x t) * (now ((1 + t) - 1))) - ((x (t - 1)) * (now (1 + t))))) ml_X6_147 st_X6_square in_X6 co_X6_square 1 (by decide) ⟨rfl, rfl⟩ ⟨Nat.le_of_ble_eq_true rfl, Nat.le_of_ble_eq_true rfl⟩ [] rfl rfl rfl rfl (Nat.le_of_ble_eq_true rfl) dX6_movedBy_90 ⟨Nat.le_refl _, Nat.le_refl _⟩) (fun r_90 H locs hw hX => ?_)
          subst hw
          refine xr_ladd E dX6_movedBy_93 ?_
          refine xr_lstore_n (lv' := [(3, .long (lI (acc + ((((x t) * (now ((1 + t) - 1))) - ((x (t - 1)) * (now (1 + t)))) * (((x t) * (now ((1 + t) - 1))) - ((x (t - 1)) * (now (1 + t)))))))), (7, .int (iI (now (1 + t)))), (6, .int (iI (now ((1 + t) - 1)))), (0, .ref hMo), (1, .int (iI k)), (2, .ref a_x), (5, .int (iI t))]) E hl dX6_movedBy_94 rfl (by decide) rfl (fun ls hl => ?_)
          refine xr_iinc (k := 6) (lv' := [(5, .int (iI (t + 1))), (3, .long (lI (acc + ((((x t) * (now ((1 + t) - 1))) - ((x (t - 1)) * (now (1 + t)))) * (((x t) * (now ((1 + t) - 1))) - ((x (t - 1)) * (now (1 + t)))))))), (7, .int (iI (now (1 + t)))), (6, .int (iI (now ((1 + t) - 1)))), (0, .ref hMo), (1, .int (iI k)), (2, .ref a_x)]) E hl rfl dX6_movedBy_95 (by decide) rfl (fun ls hl => ?_)
          refine xr_goto (tgt := 5) E dX6_movedBy_98 (by decide) ?_
          exact ih_5_1 (n + 1) (acc + ((((x t) * (now ((1 + t) - 1))) - ((x (t - 1)) * (now (1 + t)))) * (((x t) * (now ((1 + t) - 1))) - ((x (t - 1)) * (now (1 + t)))))) (t + 1) (by omega) (by omega) (by rw [sumI_s, ← ha, ← ht]; unfold mvI mI; rw [show 1 + (t - 1) = 1 + t - 1 by omega]; first | (rw [if_pos c_42, show x t - now (1 + t) - (x (t - 1) - now (1 + t - 1)) = x t - now (1 + t) - x (t - 1) + now (1 + t - 1) by omega]; done) | (rw [if_neg c_42]; done)) (by omega) _ _ _ hX (lv_sub hl [4, 5, 6, 1, 0] rfl)
        · have c_42 := c_42
          refine xr_aload_n E hl 4 rfl dX6_movedBy_45 rfl ?_
          refine xr_iload E hl 6 rfl dX6_movedBy_46 ?_
          refine xr_iald E hX 2 rfl (by omega) (by omega) (by decide) dX6_movedBy_48 ?_
          refine xr_iload E hl 0 rfl dX6_movedBy_49 ?_
          refine xr_isub E dX6_movedBy_51 ?_
          refine xr_aload_n E hl 4 rfl dX6_movedBy_52 rfl ?_
          refine xr_iload E hl 6 rfl dX6_movedBy_53 ?_
          refine xr_iconst E dX6_movedBy_55 ?_
          refine xr_isub E dX6_movedBy_56 ?_
          refine xr_iald E hX 2 rfl (by omega) (by omega) (by decide) dX6_movedBy_57 ?_
          refine xr_isub E dX6_movedBy_58 ?_
          refine xr_iload E hl 1 rfl dX6_movedBy_59 ?_
          refine xr_iadd E dX6_movedBy_61 ?_
          refine xr_i2l E dX6_movedBy_62 ⟨by omega, by omega⟩ ?_
          refine xk_rl E hX [] rfl (xv_S (As := [.long (lI ((((x t) - (now (1 + t))) - (x (t - 1))) + (now ((1 + t) - 1))))]) E hX hl (c_X6_square l D y z _ ((((x t) - (now (1 + t))) - (x (t - 1))) + (now ((1 + t) - 1)))) ml_X6_147 st_X6_square in_X6 co_X6_square 1 (by decide) ⟨rfl, rfl⟩ ⟨Nat.le_of_ble_eq_true rfl, Nat.le_of_ble_eq_true rfl⟩ [] rfl rfl rfl rfl (Nat.le_of_ble_eq_true rfl) dX6_movedBy_63 ⟨Nat.le_refl _, Nat.le_refl _⟩) (fun r_63 H locs hw hX => ?_)
          subst hw
          refine xr_goto (tgt := 93) E dX6_movedBy_66 (by decide) ?_
          refine xr_ladd E dX6_movedBy_93 ?_
          refine xr_lstore_n (lv' := [(3, .long (lI (acc + (((((x t) - (now (1 + t))) - (x (t - 1))) + (now ((1 + t) - 1))) * ((((x t) - (now (1 + t))) - (x (t - 1))) + (now ((1 + t) - 1))))))), (7, .int (iI (now (1 + t)))), (6, .int (iI (now ((1 + t) - 1)))), (0, .ref hMo), (1, .int (iI k)), (2, .ref a_x), (5, .int (iI t))]) E hl dX6_movedBy_94 rfl (by decide) rfl (fun ls hl => ?_)
          refine xr_iinc (k := 6) (lv' := [(5, .int (iI (t + 1))), (3, .long (lI (acc + (((((x t) - (now (1 + t))) - (x (t - 1))) + (now ((1 + t) - 1))) * ((((x t) - (now (1 + t))) - (x (t - 1))) + (now ((1 + t) - 1))))))), (7, .int (iI (now (1 + t)))), (6, .int (iI (now ((1 + t) - 1)))), (0, .ref hMo), (1, .int (iI k)), (2, .ref a_x)]) E hl rfl dX6_movedBy_95 (by decide) rfl (fun ls hl => ?_)
          refine xr_goto (tgt := 5) E dX6_movedBy_98 (by decide) ?_
          exact ih_5_1 (n + 1) (acc + (((((x t) - (now (1 + t))) - (x (t - 1))) + (now ((1 + t) - 1))) * ((((x t) - (now (1 + t))) - (x (t - 1))) + (now ((1 + t) - 1))))) (t + 1) (by omega) (by omega) (by rw [sumI_s, ← ha, ← ht]; unfold mvI mI; rw [show 1 + (t - 1) = 1 + t - 1 by omega]; first | (rw [if_pos c_42, show x t - now (1 + t) - (x (t - 1) - now (1 + t - 1)) = x t - now (1 + t) - x (t - 1) + now (1 + t - 1) by omega]; done) | (rw [if_neg c_42]; done)) (by omega) _ _ _ hX (lv_sub hl [4, 5, 6, 1, 0] rfl)
  exact L_5_1 _ 0 0 1 (Nat.lt_succ_self _) (by omega) rfl (by omega) _ _ _ hX (lv_sub hl [2, 3, 4, 1, 0] rfl)
abbrev rm_X6_bent : Room := { frames := 5, cells := 0, slots := 0, locals := 125 }
set_option maxHeartbeats 4000000 in
set_option maxRecDepth 100000 in
theorem c_X6_bent (l : Launch) (D : va_G) (y : CY) (z sz : Nat) (hMo a_now a_asd a_pst a_mrf a_txt a_olt a_ofr a_nbs a_best a_wys a_rwx a_shx a_bef : Nat) (now : Int → Int) (msts : Int) (mrf : Int → Int) (mbyt : Int) (mord : Int) (best : Int → Int) (wys : Int → Int) (rwx : Int → Int) (alw : Int) (bco : Int) (alm : Int) (abt : Int) (mlt : Int) (beg : Int) (figm : Int) (t : Int) (H_M : FM now) (ht : sm t) : Met l yX6_bent (Cond.code yX6_bent cX6_bent 2 (some .int) :: TW) rm_X6_bent (va_Pc [.ref hMo, .int (iI t)] (PX D y z (W_Mbr y hMo a_now a_asd a_pst a_mrf a_txt a_olt a_ofr a_nbs a_best a_wys a_rwx a_shx a_bef now msts mrf mbyt mord best wys rwx alw bco alm abt mlt beg figm) sz)) (va_Qi (fun (r : Int32) (uu : (Int → Int) × (Int → Int) × (Int → Int) × (Int) × (Int) × (Int) × (Int) × (Int → Int)) => r = iI (xqBe (mI now) (mT now) (mP now) (now 0) (now 28) (now 29) (now 30) t) ∧ uu.2.2.2.2.2.2.2 = rqBe (mI now) (mT now) (mP now) (now 0) (now 28) (now 29) mrf t) (fun uu t => BX D (W_Mbr y hMo a_now a_asd a_pst a_mrf a_txt a_olt a_ofr a_nbs a_best a_wys a_rwx a_shx a_bef now msts uu.2.2.2.2.2.2.2 mbyt mord uu.1 uu.2.1 uu.2.2.1 uu.2.2.2.1 uu.2.2.2.2.1 uu.2.2.2.2.2.1 uu.2.2.2.2.2.2.1 mlt beg figm) (va_A (W_Mbr y hMo a_now a_asd a_pst a_mrf a_txt a_olt a_ofr a_nbs a_best a_wys a_rwx a_shx a_bef now msts mrf mbyt mord best wys rwx alw bco alm abt mlt beg figm) sz) t) (va_A (W_Mbr y hMo a_now a_asd a_pst a_mrf a_txt a_olt a_ofr a_nbs a_best a_wys a_rwx a_shx a_bef now msts mrf mbyt mord best wys rwx alw bco alm abt mlt beg figm) sz)) 0 0 (va_A (W_Mbr y hMo a_now a_asd a_pst a_mrf a_txt a_olt a_ofr a_nbs a_best a_wys a_rwx a_shx a_bef now msts mrf mbyt mord best wys rwx alw bco alm abt mlt beg figm) sz) := by
  refine xm_i (by decide) (Nat.le_of_ble_eq_true rfl) (fun p e s m args below meth cX ls A Q E hr hnm hX hl hQ => ?_)
  have hl : lv_has ls 2 [(0, .ref hMo), (1, .int (iI t))] := hl
  have hq := H_M.q
  have hfr := H_M.fr
  have hli := H_M.li
  have hsh := H_M.sh
  refine xr_aload_n E hl 0 rfl dX6_bent_0 rfl ?_
  refine xr_iload_n E hl 1 rfl dX6_bent_1 rfl ?_
  refine xk_ri E hX [0, 1] rfl (xv_V (As := [.int (iI t)]) E hX hl (c_X6_isQuarter l D y z _ hMo a_now a_asd a_pst a_mrf a_txt a_olt a_ofr a_nbs a_best a_wys a_rwx a_shx a_bef now msts mbyt mord alw bco alm abt mlt beg figm t ⟨by omega, by omega⟩ (by omega)) ml_X6_70 im_X6_isQuarter se_X6_isQuarter in_X6 co_X6_isQuarter 1 (by decide) ⟨rfl, rfl⟩ ⟨Nat.le_of_ble_eq_true rfl, Nat.le_of_ble_eq_true rfl⟩ [0, 1] rfl rfl 0 rfl rfl rfl rfl rfl (Nat.le_of_ble_eq_true rfl) dX6_bent_2 ⟨Nat.le_refl _, Nat.le_refl _⟩) (fun r_2 H locs hw hX => ?_)
  subst hw
  refine xr_if_neB (tgt := 15) E dX6_bent_5 (by decide) (fun c_5 => ?_) (fun c_5 => ?_)
  · have c_5 := of_decide_eq_true c_5
    refine xr_aload_n E hl 0 rfl dX6_bent_15 rfl ?_
    refine xk_i (W2 := fun uu => (W_Mbr y hMo a_now a_asd a_pst a_mrf a_txt a_olt a_ofr a_nbs a_best a_wys a_rwx a_shx a_bef now msts mrf mbyt mord uu.1 uu.2.1 uu.2.2.1 uu.2.2.2.1 uu.2.2.2.2.1 uu.2.2.2.2.2.1 uu.2.2.2.2.2.2 mlt beg figm)) E hX [0, 1, 3, 4, 5] rfl (xv_V (As := []) E hX hl (c_X6_bend l D y z _ hMo a_now a_asd a_pst a_mrf a_txt a_olt a_ofr a_nbs a_best a_wys a_rwx a_shx a_bef now msts mbyt mord best wys rwx alw bco alm abt mlt beg figm H_M) ml_X6_86 im_X6_bend se_X6_bend in_X6 co_X6_bend 0 (by decide) ⟨rfl, rfl⟩ ⟨Nat.le_of_ble_eq_true rfl, Nat.le_of_ble_eq_true rfl⟩ [0, 1, 3, 4, 5] rfl rfl 0 rfl rfl rfl rfl rfl (Nat.le_of_ble_eq_true rfl) dX6_bent_16 ⟨Nat.le_refl _, Nat.le_refl _⟩) [0, 1, 7, 2, 3, 4] 5 (fun _ => rfl) (fun _ => rfl) (by decide) (by decide) (fun r_16 uu H locs hw hX => ?_)
    obtain ⟨best_16, wys_16, rwx_16, alw_16, bco_16, alm_16, abt_16⟩ := uu
    have hX : XW D A s.heap (W_Mbr y hMo a_now a_asd a_pst a_mrf a_txt a_olt a_ofr a_nbs a_best a_wys a_rwx a_shx a_bef now msts mrf mbyt mord best_16 wys_16 rwx_16 alw_16 bco_16 alm_16 abt_16 mlt beg figm) H locs := hX
    try dsimp only at hw
    obtain ⟨rfl, hp_16⟩ := hw
    refine xr_if_eqB (tgt := 34) E dX6_bent_19 (by decide) (fun c_19 => ?_) (fun c_19 => ?_)
    · have c_19 := c_19
      refine xr_aload_n E hl 0 rfl dX6_bent_34 rfl ?_
      refine xr_bipush E dX6_bent_35 (by decide) ?_
      refine xk_i (W2 := fun uu => (W_Mbr y hMo a_now a_asd a_pst a_mrf a_txt a_olt a_ofr a_nbs a_best a_wys a_rwx a_shx a_bef now msts uu mbyt mord best_16 wys_16 rwx_16 alw_16 bco_16 alm_16 abt_16 mlt beg figm)) E hX [0, 2] rfl (xv_V (As := [.int (iI (-3))]) E hX hl (c_X6_refuse l D y z _ hMo a_now a_asd a_pst a_mrf a_txt a_olt a_ofr a_nbs a_best a_wys a_rwx a_shx a_bef msts mrf mbyt mord alw_16 bco_16 alm_16 abt_16 mlt beg figm (-3) (by omega)) ml_X6_54 im_X6_refuse se_X6_refuse in_X6 co_X6_refuse 1 (by decide) ⟨rfl, rfl⟩ ⟨Nat.le_of_ble_eq_true rfl, Nat.le_of_ble_eq_true rfl⟩ [0, 2] rfl rfl 0 rfl rfl rfl rfl rfl (Nat.le_of_ble_eq_true rfl) dX6_bent_37 ⟨Nat.le_refl _, Nat.le_refl _⟩) [0, 3, 1, 5, 6, 7] 2 (fun _ => rfl) (fun _ => rfl) (by decide) (by decide) (fun r_37 uu H locs hw hX => ?_)
      obtain ⟨rfl, rfl⟩ := hw
      have hX : XW D A s.heap (W_Mbr y hMo a_now a_asd a_pst a_mrf a_txt a_olt a_ofr a_nbs a_best a_wys a_rwx a_shx a_bef now msts (rfU mrf (-3)) mbyt mord best_16 wys_16 rwx_16 alw_16 bco_16 alm_16 abt_16 mlt beg figm) H locs := hX
      exact xr_iret E hX hQ (best_16, wys_16, rwx_16, alw_16, bco_16, alm_16, abt_16, rfU mrf (-3)) hr (by first | exact ⟨by unfold xqBe; rw [if_pos (by omega), if_pos c_19, (hp_16 c_19).2.2 t (by omega) (by omega)], by unfold rqBe; rw [if_pos (by omega), if_pos c_19]⟩ | exact ⟨by unfold xqBe; rw [if_pos (by omega), if_neg (by rw [c_19]; decide)], by unfold rqBe; rw [if_pos (by omega), if_neg (by rw [c_19]; decide)]⟩) rfl dX6_bent_40
    · have c_19 := c_19
      refine xr_aload_n E hl 0 rfl dX6_bent_22 rfl ?_
      refine xr_get E hX 0 rfl rfl ly_X6 13 (by decide) fl_X6_41 rfl dX6_bent_23 ?_
      refine xr_iload_n E hl 1 rfl dX6_bent_26 rfl ?_
      refine xr_iald E hX 5 rfl (by omega) (by omega) (by decide) dX6_bent_27 ?_
      refine xr_bipush E dX6_bent_28 (by decide) ?_
      refine xr_iadd E dX6_bent_30 ?_
      refine xr_goto (tgt := 40) E dX6_bent_31 (by decide) ?_
      exact xr_iret E hX hQ (best_16, wys_16, rwx_16, alw_16, bco_16, alm_16, abt_16, mrf) hr (by first | exact ⟨by unfold xqBe; rw [if_pos (by omega), if_pos c_19, (hp_16 c_19).2.2 t (by omega) (by omega)], by unfold rqBe; rw [if_pos (by omega), if_pos c_19]⟩ | exact ⟨by unfold xqBe; rw [if_pos (by omega), if_neg (by rw [c_19]; decide)], by unfold rqBe; rw [if_pos (by omega), if_neg (by rw [c_19]; decide)]⟩) rfl dX6_bent_40
  · have c_5 := of_decide_eq_false c_5
    refine xr_aload_n E hl 0 rfl dX6_bent_8 rfl ?_
    refine xr_bipush E dX6_bent_9 (by decide) ?_
    refine xk_i (W2 := fun uu => (W_Mbr y hMo a_now a_asd a_pst a_mrf a_txt a_olt a_ofr a_nbs a_best a_wys a_rwx a_shx a_bef now msts uu mbyt mord best wys rwx alw bco alm abt mlt beg figm)) E hX [0, 2] rfl (xv_V (As := [.int (iI (-2))]) E hX hl (c_X6_refuse l D y z _ hMo a_now a_asd a_pst a_mrf a_txt a_olt a_ofr a_nbs a_best a_wys a_rwx a_shx a_bef msts mrf mbyt mord alw bco alm abt mlt beg figm (-2) (by omega)) ml_X6_54 im_X6_refuse se_X6_refuse in_X6 co_X6_refuse 1 (by decide) ⟨rfl, rfl⟩ ⟨Nat.le_of_ble_eq_true rfl, Nat.le_of_ble_eq_true rfl⟩ [0, 2] rfl rfl 0 rfl rfl rfl rfl rfl (Nat.le_of_ble_eq_true rfl) dX6_bent_11 ⟨Nat.le_refl _, Nat.le_refl _⟩) [0, 3, 1, 5, 6, 7] 2 (fun _ => rfl) (fun _ => rfl) (by decide) (by decide) (fun r_11 uu H locs hw hX => ?_)
    obtain ⟨rfl, rfl⟩ := hw
    have hX : XW D A s.heap (W_Mbr y hMo a_now a_asd a_pst a_mrf a_txt a_olt a_ofr a_nbs a_best a_wys a_rwx a_shx a_bef now msts (rfU mrf (-2)) mbyt mord best wys rwx alw bco alm abt mlt beg figm) H locs := hX
    exact xr_iret E hX hQ (best, wys, rwx, alw, bco, alm, abt, rfU mrf (-2)) hr ⟨by unfold xqBe; rw [if_neg (by omega)], by unfold rqBe; rw [if_neg (by omega)]⟩ rfl dX6_bent_14
abbrev rm_X6_moved : Room := { frames := 5, cells := 0, slots := 0, locals := 125 }
set_option maxHeartbeats 4000000 in
set_option maxRecDepth 100000 in
theorem c_X6_moved (l : Launch) (D : va_G) (y : CY) (z sz : Nat) (hMo a_now a_asd a_pst a_mrf a_txt a_olt a_ofr a_nbs a_best a_wys a_rwx a_shx a_bef : Nat) (now : Int → Int) (msts : Int) (mrf : Int → Int) (mbyt : Int) (mord : Int) (best : Int → Int) (wys : Int → Int) (rwx : Int → Int) (alw : Int) (bco : Int) (alm : Int) (abt : Int) (mlt : Int) (beg : Int) (figm : Int) (k : Int) (H_M : FM now) (hk : sm k) : Met l yX6_moved (Cond.code yX6_moved cX6_moved 2 (some .long) :: TW) rm_X6_moved (va_Pc [.ref hMo, .int (iI k)] (PX D y z (W_Mbr y hMo a_now a_asd a_pst a_mrf a_txt a_olt a_ofr a_nbs a_best a_wys a_rwx a_shx a_bef now msts mrf mbyt mord best wys rwx alw bco alm abt mlt beg figm) sz)) (va_Ql (fun (r : Int64) (uu : (Int → Int) × (Int → Int) × (Int → Int) × (Int) × (Int) × (Int) × (Int) × (Int → Int)) => r = lI (xqMo (mI now) (mT now) (mP now) (now 0) (now 28) (now 29) (now 30) k) ∧ uu.2.2.2.2.2.2.2 = rqMo (mI now) (mT now) (mP now) (now 0) (now 28) (now 29) mrf k) (fun uu t => BX D (W_Mbr y hMo a_now a_asd a_pst a_mrf a_txt a_olt a_ofr a_nbs a_best a_wys a_rwx a_shx a_bef now msts uu.2.2.2.2.2.2.2 mbyt mord uu.1 uu.2.1 uu.2.2.1 uu.2.2.2.1 uu.2.2.2.2.1 uu.2.2.2.2.2.1 uu.2.2.2.2.2.2.1 mlt beg figm) (va_A (W_Mbr y hMo a_now a_asd a_pst a_mrf a_txt a_olt a_ofr a_nbs a_best a_wys a_rwx a_shx a_bef now msts mrf mbyt mord best wys rwx alw bco alm abt mlt beg figm) sz) t) (va_A (W_Mbr y hMo a_now a_asd a_pst a_mrf a_txt a_olt a_ofr a_nbs a_best a_wys a_rwx a_shx a_bef now msts mrf mbyt mord best wys rwx alw bco alm abt mlt beg figm) sz)) 0 0 (va_A (W_Mbr y hMo a_now a_asd a_pst a_mrf a_txt a_olt a_ofr a_nbs a_best a_wys a_rwx a_shx a_bef now msts mrf mbyt mord best wys rwx alw bco alm abt mlt beg figm) sz) := by
  refine xm_l (by decide) (Nat.le_of_ble_eq_true rfl) (fun p e s m args below meth cX ls A Q E hr hnm hX hl hQ => ?_)
  have hl : lv_has ls 2 [(0, .ref hMo), (1, .int (iI k))] := hl
  have hq := H_M.q
  have hfr := H_M.fr
  have hli := H_M.li
  have hsh := H_M.sh
  refine xr_iload_n E hl 1 rfl dX6_moved_0 rfl ?_
  refine xr_i2l E dX6_moved_1 ⟨by omega, by omega⟩ ?_
  refine xr_lconst (v := 0) E dX6_moved_2 (by decide) ?_
  refine xr_lconst (v := 1) E dX6_moved_3 (by decide) ?_
  refine xk_ri E hX [] rfl (xv_S (As := [.long (lI k), .long (lI 0), .long (lI 1)]) E hX hl (c_X6_in l D y z _ k 0 1 ⟨by omega, by omega⟩ ⟨by omega, by omega⟩ ⟨by omega, by omega⟩) ml_X6_62 st_X6_in in_X6 co_X6_in 3 (by decide) ⟨rfl, rfl⟩ ⟨Nat.le_of_ble_eq_true rfl, Nat.le_of_ble_eq_true rfl⟩ [] rfl rfl rfl rfl (Nat.le_of_ble_eq_true rfl) dX6_moved_4 ⟨Nat.le_refl _, Nat.le_refl _⟩) (fun r_4 H locs hw hX => ?_)
  subst hw
  refine xr_if_neB (tgt := 18) E dX6_moved_7 (by decide) (fun c_7 => ?_) (fun c_7 => ?_)
  · have c_7 := of_decide_eq_true c_7
    refine xr_aload_n E hl 0 rfl dX6_moved_18 rfl ?_
    refine xk_i (W2 := fun uu => (W_Mbr y hMo a_now a_asd a_pst a_mrf a_txt a_olt a_ofr a_nbs a_best a_wys a_rwx a_shx a_bef now msts mrf mbyt mord uu.1 uu.2.1 uu.2.2.1 uu.2.2.2.1 uu.2.2.2.2.1 uu.2.2.2.2.2.1 uu.2.2.2.2.2.2 mlt beg figm)) E hX [0, 1, 3, 4, 5] rfl (xv_V (As := []) E hX hl (c_X6_bend l D y z _ hMo a_now a_asd a_pst a_mrf a_txt a_olt a_ofr a_nbs a_best a_wys a_rwx a_shx a_bef now msts mbyt mord best wys rwx alw bco alm abt mlt beg figm H_M) ml_X6_86 im_X6_bend se_X6_bend in_X6 co_X6_bend 0 (by decide) ⟨rfl, rfl⟩ ⟨Nat.le_of_ble_eq_true rfl, Nat.le_of_ble_eq_true rfl⟩ [0, 1, 3, 4, 5] rfl rfl 0 rfl rfl rfl rfl rfl (Nat.le_of_ble_eq_true rfl) dX6_moved_19 ⟨Nat.le_refl _, Nat.le_refl _⟩) [0, 1, 7, 2, 3, 4] 5 (fun _ => rfl) (fun _ => rfl) (by decide) (by decide) (fun r_19 uu H locs hw hX => ?_)
    obtain ⟨best_19, wys_19, rwx_19, alw_19, bco_19, alm_19, abt_19⟩ := uu
    have hX : XW D A s.heap (W_Mbr y hMo a_now a_asd a_pst a_mrf a_txt a_olt a_ofr a_nbs a_best a_wys a_rwx a_shx a_bef now msts mrf mbyt mord best_19 wys_19 rwx_19 alw_19 bco_19 alm_19 abt_19 mlt beg figm) H locs := hX
    try dsimp only at hw
    obtain ⟨rfl, hp_19⟩ := hw
    refine xr_if_eqB (tgt := 37) E dX6_moved_22 (by decide) (fun c_22 => ?_) (fun c_22 => ?_)
    · have c_22 := c_22
      refine xr_aload_n E hl 0 rfl dX6_moved_37 rfl ?_
      refine xr_bipush E dX6_moved_38 (by decide) ?_
      refine xk_i (W2 := fun uu => (W_Mbr y hMo a_now a_asd a_pst a_mrf a_txt a_olt a_ofr a_nbs a_best a_wys a_rwx a_shx a_bef now msts uu mbyt mord best_19 wys_19 rwx_19 alw_19 bco_19 alm_19 abt_19 mlt beg figm)) E hX [0, 2] rfl (xv_V (As := [.int (iI (-3))]) E hX hl (c_X6_refuse l D y z _ hMo a_now a_asd a_pst a_mrf a_txt a_olt a_ofr a_nbs a_best a_wys a_rwx a_shx a_bef msts mrf mbyt mord alw_19 bco_19 alm_19 abt_19 mlt beg figm (-3) (by omega)) ml_X6_54 im_X6_refuse se_X6_refuse in_X6 co_X6_refuse 1 (by decide) ⟨rfl, rfl⟩ ⟨Nat.le_of_ble_eq_true rfl, Nat.le_of_ble_eq_true rfl⟩ [0, 2] rfl rfl 0 rfl rfl rfl rfl rfl (Nat.le_of_ble_eq_true rfl) dX6_moved_40 ⟨Nat.le_refl _, Nat.le_refl _⟩) [0, 3, 1, 5, 6, 7] 2 (fun _ => rfl) (fun _ => rfl) (by decide) (by decide) (fun r_40 uu H locs hw hX => ?_)
      obtain ⟨rfl, rfl⟩ := hw
      have hX : XW D A s.heap (W_Mbr y hMo a_now a_asd a_pst a_mrf a_txt a_olt a_ofr a_nbs a_best a_wys a_rwx a_shx a_bef now msts (rfU mrf (-3)) mbyt mord best_19 wys_19 rwx_19 alw_19 bco_19 alm_19 abt_19 mlt beg figm) H locs := hX
      refine xr_i2l E dX6_moved_43 (by decide) ?_
      exact xr_lret E hX hQ (best_19, wys_19, rwx_19, alw_19, bco_19, alm_19, abt_19, rfU mrf (-3)) hr (by first | exact ⟨by unfold xqMo; rw [if_pos (by omega), if_pos c_22, xMoved_cong (hp_19 c_22).2.2], by unfold rqMo; rw [if_pos (by omega), if_pos c_22]⟩ | exact ⟨by unfold xqMo; rw [if_pos (by omega), if_neg (by rw [c_22]; decide)], by unfold rqMo; rw [if_pos (by omega), if_neg (by rw [c_22]; decide)]⟩) rfl dX6_moved_44
    · have c_22 := c_22
      refine xr_aload_n E hl 0 rfl dX6_moved_25 rfl ?_
      refine xr_iload_n E hl 1 rfl dX6_moved_26 rfl ?_
      refine xr_aload_n E hl 0 rfl dX6_moved_27 rfl ?_
      refine xr_get E hX 0 rfl rfl ly_X6 13 (by decide) fl_X6_41 rfl dX6_moved_28 ?_
      refine xk_rl E hX [0, 1, 5] rfl (xv_V (As := [.int (iI k), .ref a_rwx]) E hX hl (c_X6_movedBy l D y z _ hMo a_now a_asd a_pst a_mrf a_txt a_olt a_ofr a_nbs a_best a_wys a_rwx a_shx a_bef a_rwx now msts mbyt mord alw_19 bco_19 alm_19 abt_19 mlt beg figm rwx_19 k H_M (fun t h0 h1 => by have h9 := xRow_bd (sh := now 30) (t := t) H_M hli c_22 h0 h1; rw [(hp_19 c_22).2.2 t h0 h1]; omega) ⟨by omega, by omega⟩) ml_X6_194 im_X6_movedBy se_X6_movedBy in_X6 co_X6_movedBy 2 (by decide) ⟨rfl, rfl⟩ ⟨Nat.le_of_ble_eq_true rfl, Nat.le_of_ble_eq_true rfl⟩ [0, 1, 5] rfl rfl 0 rfl rfl rfl rfl rfl (Nat.le_of_ble_eq_true rfl) dX6_moved_31 ⟨Nat.le_refl _, Nat.le_refl _⟩) (fun r_31 H locs hw hX => ?_)
      subst hw
      refine xr_goto (tgt := 44) E dX6_moved_34 (by decide) ?_
      exact xr_lret E hX hQ (best_19, wys_19, rwx_19, alw_19, bco_19, alm_19, abt_19, mrf) hr (by first | exact ⟨by unfold xqMo; rw [if_pos (by omega), if_pos c_22, xMoved_cong (hp_19 c_22).2.2], by unfold rqMo; rw [if_pos (by omega), if_pos c_22]⟩ | exact ⟨by unfold xqMo; rw [if_pos (by omega), if_neg (by rw [c_22]; decide)], by unfold rqMo; rw [if_pos (by omega), if_neg (by rw [c_22]; decide)]⟩) rfl dX6_moved_44
  · have c_7 := of_decide_eq_false c_7
    refine xr_aload_n E hl 0 rfl dX6_moved_10 rfl ?_
    refine xr_bipush E dX6_moved_11 (by decide) ?_
    refine xk_i (W2 := fun uu => (W_Mbr y hMo a_now a_asd a_pst a_mrf a_txt a_olt a_ofr a_nbs a_best a_wys a_rwx a_shx a_bef now msts uu mbyt mord best wys rwx alw bco alm abt mlt beg figm)) E hX [0, 2] rfl (xv_V (As := [.int (iI (-2))]) E hX hl (c_X6_refuse l D y z _ hMo a_now a_asd a_pst a_mrf a_txt a_olt a_ofr a_nbs a_best a_wys a_rwx a_shx a_bef msts mrf mbyt mord alw bco alm abt mlt beg figm (-2) (by omega)) ml_X6_54 im_X6_refuse se_X6_refuse in_X6 co_X6_refuse 1 (by decide) ⟨rfl, rfl⟩ ⟨Nat.le_of_ble_eq_true rfl, Nat.le_of_ble_eq_true rfl⟩ [0, 2] rfl rfl 0 rfl rfl rfl rfl rfl (Nat.le_of_ble_eq_true rfl) dX6_moved_13 ⟨Nat.le_refl _, Nat.le_refl _⟩) [0, 3, 1, 5, 6, 7] 2 (fun _ => rfl) (fun _ => rfl) (by decide) (by decide) (fun r_13 uu H locs hw hX => ?_)
    obtain ⟨rfl, rfl⟩ := hw
    have hX : XW D A s.heap (W_Mbr y hMo a_now a_asd a_pst a_mrf a_txt a_olt a_ofr a_nbs a_best a_wys a_rwx a_shx a_bef now msts (rfU mrf (-2)) mbyt mord best wys rwx alw bco alm abt mlt beg figm) H locs := hX
    refine xr_i2l E dX6_moved_16 (by decide) ?_
    exact xr_lret E hX hQ (best, wys, rwx, alw, bco, alm, abt, rfU mrf (-2)) hr ⟨by unfold xqMo; rw [if_neg (by omega)], by unfold rqMo; rw [if_neg (by omega)]⟩ rfl dX6_moved_17
abbrev rm_X6_revisedOf : Room := { frames := 0, cells := 0, slots := 0, locals := 0 }
set_option maxHeartbeats 4000000 in
set_option maxRecDepth 100000 in
theorem c_X6_revisedOf (l : Launch) (D : va_G) (y : CY) (z sz : Nat) (hMo a_now a_asd a_pst a_mrf a_txt a_olt a_ofr a_nbs a_best a_wys a_rwx a_shx a_bef : Nat) (now : Int → Int) (msts : Int) (mbyt : Int) (mord : Int) (rwx : Int → Int) (alw : Int) (bco : Int) (alm : Int) (abt : Int) (mlt : Int) (beg : Int) (figm : Int) (t : Int) (H_M : FM now) (ht : 0 ≤ t ∧ t < 12) (hr1 : -2000 ≤ rwx t ∧ rwx t ≤ 2000) : Met l yX6_revisedOf (Cond.code yX6_revisedOf cX6_revisedOf 3 (some .int) :: TW) rm_X6_revisedOf (va_Pc [.ref hMo, .int (iI t)] (PX D y z (W_Mnw y hMo a_now a_asd a_pst a_mrf a_txt a_olt a_ofr a_nbs a_best a_wys a_rwx a_shx a_bef now msts mbyt mord rwx alw bco alm abt mlt beg figm) sz)) (va_Qi (fun (r : Int32) (uu : Unit) => r = iI (xRev rwx (mP now) t)) (fun uu t => BX D (W_Mnw y hMo a_now a_asd a_pst a_mrf a_txt a_olt a_ofr a_nbs a_best a_wys a_rwx a_shx a_bef now msts mbyt mord rwx alw bco alm abt mlt beg figm) (va_A (W_Mnw y hMo a_now a_asd a_pst a_mrf a_txt a_olt a_ofr a_nbs a_best a_wys a_rwx a_shx a_bef now msts mbyt mord rwx alw bco alm abt mlt beg figm) sz) t) (va_A (W_Mnw y hMo a_now a_asd a_pst a_mrf a_txt a_olt a_ofr a_nbs a_best a_wys a_rwx a_shx a_bef now msts mbyt mord rwx alw bco alm abt mlt beg figm) sz)) 0 0 (va_A (W_Mnw y hMo a_now a_asd a_pst a_mrf a_txt a_olt a_ofr a_nbs a_best a_wys a_rwx a_shx a_bef now msts mbyt mord rwx alw bco alm abt mlt beg figm) sz) := by
  refine xm_i (by decide) (Nat.le_of_ble_eq_true rfl) (fun p e s m args below meth cX ls A Q E hr hnm hX hl hQ => ?_)
  have hl : lv_has ls 3 [(0, .ref hMo), (1, .int (iI t))] := hl
  have hpp := H_M.pri ht.1 ht.2
  refine xr_aload_n E hl 0 rfl dX6_revisedOf_0 rfl ?_
  refine xr_get E hX 0 rfl rfl ly_X6 13 (by decide) fl_X6_41 rfl dX6_revisedOf_1 ?_
  refine xr_iload_n E hl 1 rfl dX6_revisedOf_4 rfl ?_
  refine xr_iald E hX 2 rfl (by omega) (by omega) (by decide) dX6_revisedOf_5 ?_
  refine xr_bipush E dX6_revisedOf_6 (by decide) ?_
  refine xr_iadd E dX6_revisedOf_8 ?_
  refine xr_aload_n E hl 0 rfl dX6_revisedOf_9 rfl ?_
  refine xr_get E hX 0 rfl rfl ly_X6 0 (by decide) fl_X6_7 rfl dX6_revisedOf_10 ?_
  refine xr_bipush E dX6_revisedOf_13 (by decide) ?_
  refine xr_iload_n E hl 1 rfl dX6_revisedOf_15 rfl ?_
  refine xr_iadd E dX6_revisedOf_16 ?_
  refine xr_iald E hX 1 rfl (by omega) (by omega) (by decide) dX6_revisedOf_17 ?_
  refine xr_isub E dX6_revisedOf_18 ?_
  refine xr_istore_n (lv' := [(2, .int (iI (((rwx t) + 8) - (now (16 + t))))), (0, .ref hMo), (1, .int (iI t))]) E hl dX6_revisedOf_19 rfl (by decide) rfl (fun ls hl => ?_)
  refine xr_iload_n E hl 0 rfl dX6_revisedOf_20 rfl ?_
  refine xr_if_ge (tgt := 29) E dX6_revisedOf_21 (by decide) ⟨by omega, by omega⟩ (fun c_21 => ?_) (fun c_21 => ?_)
  · have c_21 := c_21
    refine xr_iload_n E hl 0 rfl dX6_revisedOf_29 rfl ?_
    exact xr_iret E hX hQ () hr (by unfold xRev mP; (repeat' split) <;> first | (exfalso; omega) | rfl | (congr 1; omega)) rfl dX6_revisedOf_30
  · have c_21 := c_21
    refine xr_iload_n E hl 0 rfl dX6_revisedOf_24 rfl ?_
    refine xr_ineg E dX6_revisedOf_25 ?_
    refine xr_goto (tgt := 30) E dX6_revisedOf_26 (by decide) ?_
    exact xr_iret E hX hQ () hr (by unfold xRev mP; (repeat' split) <;> first | (exfalso; omega) | rfl | (congr 1; omega)) rfl dX6_revisedOf_30
abbrev rm_X6_revised : Room := { frames := 5, cells := 0, slots := 0, locals := 125 }
set_option maxHeartbeats 4000000 in
set_option maxRecDepth 100000 in
theorem c_X6_revised (l : Launch) (D : va_G) (y : CY) (z sz : Nat) (hMo a_now a_asd a_pst a_mrf a_txt a_olt a_ofr a_nbs a_best a_wys a_rwx a_shx a_bef : Nat) (now : Int → Int) (msts : Int) (mrf : Int → Int) (mbyt : Int) (mord : Int) (best : Int → Int) (wys : Int → Int) (rwx : Int → Int) (alw : Int) (bco : Int) (alm : Int) (abt : Int) (mlt : Int) (beg : Int) (figm : Int) (t : Int) (H_M : FM now) (ht : sm t) : Met l yX6_revised (Cond.code yX6_revised cX6_revised 2 (some .int) :: TW) rm_X6_revised (va_Pc [.ref hMo, .int (iI t)] (PX D y z (W_Mbr y hMo a_now a_asd a_pst a_mrf a_txt a_olt a_ofr a_nbs a_best a_wys a_rwx a_shx a_bef now msts mrf mbyt mord best wys rwx alw bco alm abt mlt beg figm) sz)) (va_Qi (fun (r : Int32) (uu : (Int → Int) × (Int → Int) × (Int → Int) × (Int) × (Int) × (Int) × (Int) × (Int → Int)) => r = iI (xqRv (mI now) (mT now) (mP now) (now 0) (now 28) (now 29) (now 30) t) ∧ uu.2.2.2.2.2.2.2 = rqRv (mI now) (mT now) (mP now) (now 0) (now 28) (now 29) mrf t) (fun uu t => BX D (W_Mbr y hMo a_now a_asd a_pst a_mrf a_txt a_olt a_ofr a_nbs a_best a_wys a_rwx a_shx a_bef now msts uu.2.2.2.2.2.2.2 mbyt mord uu.1 uu.2.1 uu.2.2.1 uu.2.2.2.1 uu.2.2.2.2.1 uu.2.2.2.2.2.1 uu.2.2.2.2.2.2.1 mlt beg figm) (va_A (W_Mbr y hMo a_now a_asd a_pst a_mrf a_txt a_olt a_ofr a_nbs a_best a_wys a_rwx a_shx a_bef now msts mrf mbyt mord best wys rwx alw bco alm abt mlt beg figm) sz) t) (va_A (W_Mbr y hMo a_now a_asd a_pst a_mrf a_txt a_olt a_ofr a_nbs a_best a_wys a_rwx a_shx a_bef now msts mrf mbyt mord best wys rwx alw bco alm abt mlt beg figm) sz)) 0 0 (va_A (W_Mbr y hMo a_now a_asd a_pst a_mrf a_txt a_olt a_ofr a_nbs a_best a_wys a_rwx a_shx a_bef now msts mrf mbyt mord best wys rwx alw bco alm abt mlt beg figm) sz) := by
  refine xm_i (by decide) (Nat.le_of_ble_eq_true rfl) (fun p e s m args below meth cX ls A Q E hr hnm hX hl hQ => ?_)
  have hl : lv_has ls 2 [(0, .ref hMo), (1, .int (iI t))] := hl
  have hq := H_M.q
  have hfr := H_M.fr
  have hli := H_M.li
  have hsh := H_M.sh
  refine xr_aload_n E hl 0 rfl dX6_revised_0 rfl ?_
  refine xr_iload_n E hl 1 rfl dX6_revised_1 rfl ?_
  refine xk_ri E hX [0, 1] rfl (xv_V (As := [.int (iI t)]) E hX hl (c_X6_isQuarter l D y z _ hMo a_now a_asd a_pst a_mrf a_txt a_olt a_ofr a_nbs a_best a_wys a_rwx a_shx a_bef now msts mbyt mord alw bco alm abt mlt beg figm t ⟨by omega, by omega⟩ (by omega)) ml_X6_70 im_X6_isQuarter se_X6_isQuarter in_X6 co_X6_isQuarter 1 (by decide) ⟨rfl, rfl⟩ ⟨Nat.le_of_ble_eq_true rfl, Nat.le_of_ble_eq_true rfl⟩ [0, 1] rfl rfl 0 rfl rfl rfl rfl rfl (Nat.le_of_ble_eq_true rfl) dX6_revised_2 ⟨Nat.le_refl _, Nat.le_refl _⟩) (fun r_2 H locs hw hX => ?_)
  subst hw
  refine xr_if_neB (tgt := 15) E dX6_revised_5 (by decide) (fun c_5 => ?_) (fun c_5 => ?_)
  · have c_5 := of_decide_eq_true c_5
    refine xr_aload_n E hl 0 rfl dX6_revised_15 rfl ?_
    refine xk_i (W2 := fun uu => (W_Mbr y hMo a_now a_asd a_pst a_mrf a_txt a_olt a_ofr a_nbs a_best a_wys a_rwx a_shx a_bef now msts mrf mbyt mord uu.1 uu.2.1 uu.2.2.1 uu.2.2.2.1 uu.2.2.2.2.1 uu.2.2.2.2.2.1 uu.2.2.2.2.2.2 mlt beg figm)) E hX [0, 1, 3, 4, 5] rfl (xv_V (As := []) E hX hl (c_X6_bend l D y z _ hMo a_now a_asd a_pst a_mrf a_txt a_olt a_ofr a_nbs a_best a_wys a_rwx a_shx a_bef now msts mbyt mord best wys rwx alw bco alm abt mlt beg figm H_M) ml_X6_86 im_X6_bend se_X6_bend in_X6 co_X6_bend 0 (by decide) ⟨rfl, rfl⟩ ⟨Nat.le_of_ble_eq_true rfl, Nat.le_of_ble_eq_true rfl⟩ [0, 1, 3, 4, 5] rfl rfl 0 rfl rfl rfl rfl rfl (Nat.le_of_ble_eq_true rfl) dX6_revised_16 ⟨Nat.le_refl _, Nat.le_refl _⟩) [0, 1, 7, 2, 3, 4] 5 (fun _ => rfl) (fun _ => rfl) (by decide) (by decide) (fun r_16 uu H locs hw hX => ?_)
    obtain ⟨best_16, wys_16, rwx_16, alw_16, bco_16, alm_16, abt_16⟩ := uu
    have hX : XW D A s.heap (W_Mbr y hMo a_now a_asd a_pst a_mrf a_txt a_olt a_ofr a_nbs a_best a_wys a_rwx a_shx a_bef now msts mrf mbyt mord best_16 wys_16 rwx_16 alw_16 bco_16 alm_16 abt_16 mlt beg figm) H locs := hX
    try dsimp only at hw
    obtain ⟨rfl, hp_16⟩ := hw
    refine xr_if_eqB (tgt := 43) E dX6_revised_19 (by decide) (fun c_19 => ?_) (fun c_19 => ?_)
    · have c_19 := c_19
      refine xr_aload_n E hl 0 rfl dX6_revised_43 rfl ?_
      refine xr_bipush E dX6_revised_44 (by decide) ?_
      refine xk_i (W2 := fun uu => (W_Mbr y hMo a_now a_asd a_pst a_mrf a_txt a_olt a_ofr a_nbs a_best a_wys a_rwx a_shx a_bef now msts uu mbyt mord best_16 wys_16 rwx_16 alw_16 bco_16 alm_16 abt_16 mlt beg figm)) E hX [0, 2] rfl (xv_V (As := [.int (iI (-3))]) E hX hl (c_X6_refuse l D y z _ hMo a_now a_asd a_pst a_mrf a_txt a_olt a_ofr a_nbs a_best a_wys a_rwx a_shx a_bef msts mrf mbyt mord alw_16 bco_16 alm_16 abt_16 mlt beg figm (-3) (by omega)) ml_X6_54 im_X6_refuse se_X6_refuse in_X6 co_X6_refuse 1 (by decide) ⟨rfl, rfl⟩ ⟨Nat.le_of_ble_eq_true rfl, Nat.le_of_ble_eq_true rfl⟩ [0, 2] rfl rfl 0 rfl rfl rfl rfl rfl (Nat.le_of_ble_eq_true rfl) dX6_revised_46 ⟨Nat.le_refl _, Nat.le_refl _⟩) [0, 3, 1, 5, 6, 7] 2 (fun _ => rfl) (fun _ => rfl) (by decide) (by decide) (fun r_46 uu H locs hw hX => ?_)
      obtain ⟨rfl, rfl⟩ := hw
      have hX : XW D A s.heap (W_Mbr y hMo a_now a_asd a_pst a_mrf a_txt a_olt a_ofr a_nbs a_best a_wys a_rwx a_shx a_bef now msts (rfU mrf (-3)) mbyt mord best_16 wys_16 rwx_16 alw_16 bco_16 alm_16 abt_16 mlt beg figm) H locs := hX
      exact xr_iret E hX hQ (best_16, wys_16, rwx_16, alw_16, bco_16, alm_16, abt_16, rfU mrf (-3)) hr (by first | exact ⟨by unfold xqRv; rw [if_pos (by omega), if_pos ⟨c_32, c_19⟩]; unfold xRev; rw [hre], by unfold rqRv; rw [if_pos (by omega), if_pos ⟨c_32, c_19⟩]⟩ | exact ⟨by unfold xqRv; rw [if_pos (by omega), if_neg (fun h => absurd (c_19.symm.trans h.2) (by decide))], by unfold rqRv; rw [if_pos (by omega), if_neg (fun h => absurd (c_19.symm.trans h.2) (by decide))]⟩ | exact ⟨by unfold xqRv; rw [if_pos (by omega), if_neg (fun h => h.1 c_32)], by unfold rqRv; rw [if_pos (by omega), if_neg (fun h => h.1 c_32)]⟩) rfl dX6_revised_49
    · have c_19 := c_19
      have hpp := H_M.pri (t := t) (by omega) (by omega)
      have hrb := xRow_bd (sh := now 30) (t := t) H_M hli c_19 (by omega) (by omega)
      have hre := (hp_16 c_19).2.2 t (by omega) (by omega)
      have epp : mP now t = now (16 + t) := rfl
      refine xr_aload_n E hl 0 rfl dX6_revised_22 rfl ?_
      refine xr_get E hX 0 rfl rfl ly_X6 0 (by decide) fl_X6_7 rfl dX6_revised_23 ?_
      refine xr_bipush E dX6_revised_26 (by decide) ?_
      refine xr_iload_n E hl 1 rfl dX6_revised_28 rfl ?_
      refine xr_iadd E dX6_revised_29 ?_
      refine xr_iald E hX 1 rfl (by omega) (by omega) (by decide) dX6_revised_30 ?_
      refine xr_iconst E dX6_revised_31 ?_
      refine xr_icmp_eq (tgt := 43) E dX6_revised_32 (by decide) ⟨by omega, by omega⟩ (by decide) (fun c_32 => ?_) (fun c_32 => ?_)
      · have c_32 := c_32
        refine xr_aload_n E hl 0 rfl dX6_revised_43 rfl ?_
        refine xr_bipush E dX6_revised_44 (by decide) ?_
        refine xk_i (W2 := fun uu => (W_Mbr y hMo a_now a_asd a_pst a_mrf a_txt a_olt a_ofr a_nbs a_best a_wys a_rwx a_shx a_bef now msts uu mbyt mord best_16 wys_16 rwx_16 alw_16 bco_16 alm_16 abt_16 mlt beg figm)) E hX [0, 2] rfl (xv_V (As := [.int (iI (-3))]) E hX hl (c_X6_refuse l D y z _ hMo a_now a_asd a_pst a_mrf a_txt a_olt a_ofr a_nbs a_best a_wys a_rwx a_shx a_bef msts mrf mbyt mord alw_16 bco_16 alm_16 abt_16 mlt beg figm (-3) (by omega)) ml_X6_54 im_X6_refuse se_X6_refuse in_X6 co_X6_refuse 1 (by decide) ⟨rfl, rfl⟩ ⟨Nat.le_of_ble_eq_true rfl, Nat.le_of_ble_eq_true rfl⟩ [0, 2] rfl rfl 0 rfl rfl rfl rfl rfl (Nat.le_of_ble_eq_true rfl) dX6_revised_46 ⟨Nat.le_refl _, Nat.le_refl _⟩) [0, 3, 1, 5, 6, 7] 2 (fun _ => rfl) (fun _ => rfl) (by decide) (by decide) (fun r_46 uu H locs hw hX => ?_)
        obtain ⟨rfl, rfl⟩ := hw
        have hX : XW D A s.heap (W_Mbr y hMo a_now a_asd a_pst a_mrf a_txt a_olt a_ofr a_nbs a_best a_wys a_rwx a_shx a_bef now msts (rfU mrf (-3)) mbyt mord best_16 wys_16 rwx_16 alw_16 bco_16 alm_16 abt_16 mlt beg figm) H locs := hX
        exact xr_iret E hX hQ (best_16, wys_16, rwx_16, alw_16, bco_16, alm_16, abt_16, rfU mrf (-3)) hr (by first | exact ⟨by unfold xqRv; rw [if_pos (by omega), if_pos ⟨c_32, c_19⟩]; unfold xRev; rw [hre], by unfold rqRv; rw [if_pos (by omega), if_pos ⟨c_32, c_19⟩]⟩ | exact ⟨by unfold xqRv; rw [if_pos (by omega), if_neg (fun h => absurd (c_19.symm.trans h.2) (by decide))], by unfold rqRv; rw [if_pos (by omega), if_neg (fun h => absurd (c_19.symm.trans h.2) (by decide))]⟩ | exact ⟨by unfold xqRv; rw [if_pos (by omega), if_neg (fun h => h.1 c_32)], by unfold rqRv; rw [if_pos (by omega), if_neg (fun h => h.1 c_32)]⟩) rfl dX6_revised_49
      · have c_32 := c_32
        refine xr_aload_n E hl 0 rfl dX6_revised_35 rfl ?_
        refine xr_iload_n E hl 1 rfl dX6_revised_36 rfl ?_
        refine xk_ri E hX [0, 1, 5] rfl (xv_V (As := [.int (iI t)]) E hX hl (c_X6_revisedOf l D y z _ hMo a_now a_asd a_pst a_mrf a_txt a_olt a_ofr a_nbs a_best a_wys a_rwx a_shx a_bef now msts mbyt mord rwx_16 alw_16 bco_16 alm_16 abt_16 mlt beg figm t H_M (by omega) (by omega)) ml_X6_198 im_X6_revisedOf se_X6_revisedOf in_X6 co_X6_revisedOf 1 (by decide) ⟨rfl, rfl⟩ ⟨Nat.le_of_ble_eq_true rfl, Nat.le_of_ble_eq_true rfl⟩ [0, 1, 5] rfl rfl 0 rfl rfl rfl rfl rfl (Nat.le_of_ble_eq_true rfl) dX6_revised_37 ⟨Nat.le_refl _, Nat.le_refl _⟩) (fun r_37 H locs hw hX => ?_)
        subst hw
        refine xr_goto (tgt := 49) E dX6_revised_40 (by decide) ?_
        exact xr_iret E hX hQ (best_16, wys_16, rwx_16, alw_16, bco_16, alm_16, abt_16, mrf) hr (by first | exact ⟨by unfold xqRv; rw [if_pos (by omega), if_pos ⟨c_32, c_19⟩]; unfold xRev; rw [hre], by unfold rqRv; rw [if_pos (by omega), if_pos ⟨c_32, c_19⟩]⟩ | exact ⟨by unfold xqRv; rw [if_pos (by omega), if_neg (fun h => absurd (c_19.symm.trans h.2) (by decide))], by unfold rqRv; rw [if_pos (by omega), if_neg (fun h => absurd (c_19.symm.trans h.2) (by decide))]⟩ | exact ⟨by unfold xqRv; rw [if_pos (by omega), if_neg (fun h => h.1 c_32)], by unfold rqRv; rw [if_pos (by omega), if_neg (fun h => h.1 c_32)]⟩) rfl dX6_revised_49
  · have c_5 := of_decide_eq_false c_5
    refine xr_aload_n E hl 0 rfl dX6_revised_8 rfl ?_
    refine xr_bipush E dX6_revised_9 (by decide) ?_
    refine xk_i (W2 := fun uu => (W_Mbr y hMo a_now a_asd a_pst a_mrf a_txt a_olt a_ofr a_nbs a_best a_wys a_rwx a_shx a_bef now msts uu mbyt mord best wys rwx alw bco alm abt mlt beg figm)) E hX [0, 2] rfl (xv_V (As := [.int (iI (-2))]) E hX hl (c_X6_refuse l D y z _ hMo a_now a_asd a_pst a_mrf a_txt a_olt a_ofr a_nbs a_best a_wys a_rwx a_shx a_bef msts mrf mbyt mord alw bco alm abt mlt beg figm (-2) (by omega)) ml_X6_54 im_X6_refuse se_X6_refuse in_X6 co_X6_refuse 1 (by decide) ⟨rfl, rfl⟩ ⟨Nat.le_of_ble_eq_true rfl, Nat.le_of_ble_eq_true rfl⟩ [0, 2] rfl rfl 0 rfl rfl rfl rfl rfl (Nat.le_of_ble_eq_true rfl) dX6_revised_11 ⟨Nat.le_refl _, Nat.le_refl _⟩) [0, 3, 1, 5, 6, 7] 2 (fun _ => rfl) (fun _ => rfl) (by decide) (by decide) (fun r_11 uu H locs hw hX => ?_)
    obtain ⟨rfl, rfl⟩ := hw
    have hX : XW D A s.heap (W_Mbr y hMo a_now a_asd a_pst a_mrf a_txt a_olt a_ofr a_nbs a_best a_wys a_rwx a_shx a_bef now msts (rfU mrf (-2)) mbyt mord best wys rwx alw bco alm abt mlt beg figm) H locs := hX
    exact xr_iret E hX hQ (best, wys, rwx, alw, bco, alm, abt, rfU mrf (-2)) hr ⟨by unfold xqRv; rw [if_neg (by omega)], by unfold rqRv; rw [if_neg (by omega)]⟩ rfl dX6_revised_14
/-- the farthest so far, told by its quarter alone -/
def FarI (x pri : Int → Int) (n : Nat) (f : Int) : Prop := f = (xFar x pri n).1 ∧ ((f = -1 ∧ (xFar x pri n).2 = -1) ∨ (0 ≤ f ∧ f < n ∧ (xFar x pri n).2 = xRev x pri f))
theorem xRev_nn (x pri : Int → Int) (t : Int) : 0 ≤ xRev x pri t := by unfold xRev; split <;> omega
theorem FarI_0 {x pri : Int → Int} : FarI x pri 0 (-1) := ⟨rfl, Or.inl ⟨rfl, rfl⟩⟩
theorem FarI_in {x pri : Int → Int} {n : Nat} {f : Int} (h : FarI x pri n f) (hf : f ≠ -1) : 0 ≤ f ∧ f < n := by
  rcases h.2 with g | g
  · exact absurd g.1 hf
  · exact ⟨g.1, g.2.1⟩
theorem FarI_no {x pri : Int → Int} {n : Nat} {f t : Int} (h : FarI x pri n f) (ht : t = n) (hc : pri t = -1 ∨ (f ≠ -1 ∧ xRev x pri t ≤ xRev x pri f)) : FarI x pri (n + 1) f := by
  have hn : ¬ (pri n ≠ -1 ∧ (xFar x pri n).2 < xRev x pri n) := by
    rw [← ht]
    rcases hc with g | ⟨g1, g2⟩
    · exact fun q => q.1 g
    · rcases h.2 with q | q
      · exact absurd q.1 g1
      · rw [q.2.2]; omega
  unfold FarI
  rw [xFar_s, if_neg hn]
  refine ⟨h.1, ?_⟩
  rcases h.2 with q | q
  · exact Or.inl q
  · exact Or.inr ⟨q.1, by omega, q.2.2⟩
theorem FarI_first {x pri : Int → Int} {n : Nat} {f t : Int} (h : FarI x pri n f) (ht : t = n) (hp : pri t ≠ -1) (hf : f = -1) (hr : 0 ≤ xRev x pri t) : FarI x pri (n + 1) t := by
  have hn : pri n ≠ -1 ∧ (xFar x pri n).2 < xRev x pri n := by
    rw [← ht]
    rcases h.2 with q | q
    · exact ⟨hp, by omega⟩
    · omega
  unfold FarI
  rw [xFar_s, if_pos hn]
  dsimp only
  rw [← ht]
  exact ⟨rfl, Or.inr ⟨by omega, by omega, rfl⟩⟩
theorem FarI_more {x pri : Int → Int} {n : Nat} {f t : Int} (h : FarI x pri n f) (ht : t = n) (hp : pri t ≠ -1) (hf : f ≠ -1) (hr : xRev x pri f < xRev x pri t) : FarI x pri (n + 1) t := by
  have hn : pri n ≠ -1 ∧ (xFar x pri n).2 < xRev x pri n := by
    rw [← ht]
    rcases h.2 with q | q
    · exact absurd q.1 hf
    · rw [q.2.2]; exact ⟨hp, hr⟩
  unfold FarI
  rw [xFar_s, if_pos hn]
  dsimp only
  rw [← ht]
  exact ⟨rfl, Or.inr ⟨by omega, by omega, rfl⟩⟩
abbrev rm_X6_farthest : Room := { frames := 5, cells := 0, slots := 0, locals := 125 }
set_option maxHeartbeats 4000000 in
set_option maxRecDepth 100000 in
theorem c_X6_farthest (l : Launch) (D : va_G) (y : CY) (z sz : Nat) (hMo a_now a_asd a_pst a_mrf a_txt a_olt a_ofr a_nbs a_best a_wys a_rwx a_shx a_bef : Nat) (now : Int → Int) (msts : Int) (mrf : Int → Int) (mbyt : Int) (mord : Int) (best : Int → Int) (wys : Int → Int) (rwx : Int → Int) (alw : Int) (bco : Int) (alm : Int) (abt : Int) (mlt : Int) (beg : Int) (figm : Int) (H_M : FM now) : Met l yX6_farthest (Cond.code yX6_farthest cX6_farthest 4 (some .int) :: TW) rm_X6_farthest (va_Pc [.ref hMo] (PX D y z (W_Mbr y hMo a_now a_asd a_pst a_mrf a_txt a_olt a_ofr a_nbs a_best a_wys a_rwx a_shx a_bef now msts mrf mbyt mord best wys rwx alw bco alm abt mlt beg figm) sz)) (va_Qi (fun (r : Int32) (uu : (Int → Int) × (Int → Int) × (Int → Int) × (Int) × (Int) × (Int) × (Int) × (Int → Int)) => r = iI (xqFa (mI now) (mT now) (mP now) (now 0) (now 28) (now 29) (now 30)) ∧ uu.2.2.2.2.2.2.2 = rqFa (mI now) (mT now) (mP now) (now 0) (now 28) (now 29) mrf) (fun uu t => BX D (W_Mbr y hMo a_now a_asd a_pst a_mrf a_txt a_olt a_ofr a_nbs a_best a_wys a_rwx a_shx a_bef now msts uu.2.2.2.2.2.2.2 mbyt mord uu.1 uu.2.1 uu.2.2.1 uu.2.2.2.1 uu.2.2.2.2.1 uu.2.2.2.2.2.1 uu.2.2.2.2.2.2.1 mlt beg figm) (va_A (W_Mbr y hMo a_now a_asd a_pst a_mrf a_txt a_olt a_ofr a_nbs a_best a_wys a_rwx a_shx a_bef now msts mrf mbyt mord best wys rwx alw bco alm abt mlt beg figm) sz) t) (va_A (W_Mbr y hMo a_now a_asd a_pst a_mrf a_txt a_olt a_ofr a_nbs a_best a_wys a_rwx a_shx a_bef now msts mrf mbyt mord best wys rwx alw bco alm abt mlt beg figm) sz)) 0 0 (va_A (W_Mbr y hMo a_now a_asd a_pst a_mrf a_txt a_olt a_ofr a_nbs a_best a_wys a_rwx a_shx a_bef now msts mrf mbyt mord best wys rwx alw bco alm abt mlt beg figm) sz) := by
  refine xm_i (by decide) (Nat.le_of_ble_eq_true rfl) (fun p e s m args below meth cX ls A Q E hr hnm hX hl hQ => ?_)
  have hl : lv_has ls 4 [(0, .ref hMo)] := hl
  have hq := H_M.q
  have hfr := H_M.fr
  have hli := H_M.li
  have hsh := H_M.sh
  refine xr_aload_n E hl 0 rfl dX6_farthest_0 rfl ?_
  refine xk_i (W2 := fun uu => (W_Mbr y hMo a_now a_asd a_pst a_mrf a_txt a_olt a_ofr a_nbs a_best a_wys a_rwx a_shx a_bef now msts mrf mbyt mord uu.1 uu.2.1 uu.2.2.1 uu.2.2.2.1 uu.2.2.2.2.1 uu.2.2.2.2.2.1 uu.2.2.2.2.2.2 mlt beg figm)) E hX [0, 1, 3, 4, 5] rfl (xv_V (As := []) E hX hl (c_X6_bend l D y z _ hMo a_now a_asd a_pst a_mrf a_txt a_olt a_ofr a_nbs a_best a_wys a_rwx a_shx a_bef now msts mbyt mord best wys rwx alw bco alm abt mlt beg figm H_M) ml_X6_86 im_X6_bend se_X6_bend in_X6 co_X6_bend 0 (by decide) ⟨rfl, rfl⟩ ⟨Nat.le_of_ble_eq_true rfl, Nat.le_of_ble_eq_true rfl⟩ [0, 1, 3, 4, 5] rfl rfl 0 rfl rfl rfl rfl rfl (Nat.le_of_ble_eq_true rfl) dX6_farthest_1 ⟨Nat.le_refl _, Nat.le_refl _⟩) [0, 1, 7, 2, 3, 4] 5 (fun _ => rfl) (fun _ => rfl) (by decide) (by decide) (fun r_1 uu H locs hw hX => ?_)
  obtain ⟨best_1, wys_1, rwx_1, alw_1, bco_1, alm_1, abt_1⟩ := uu
  have hX : XW D A s.heap (W_Mbr y hMo a_now a_asd a_pst a_mrf a_txt a_olt a_ofr a_nbs a_best a_wys a_rwx a_shx a_bef now msts mrf mbyt mord best_1 wys_1 rwx_1 alw_1 bco_1 alm_1 abt_1 mlt beg figm) H locs := hX
  try dsimp only at hw
  obtain ⟨rfl, hp_1⟩ := hw
  refine xr_if_neB (tgt := 14) E dX6_farthest_4 (by decide) (fun c_4 => ?_) (fun c_4 => ?_)
  · have c_4 := c_4
    refine xr_iconst E dX6_farthest_14 ?_
    refine xr_istore_n (lv' := [(1, .int (iI (-1))), (0, .ref hMo)]) E hl dX6_farthest_15 rfl (by decide) rfl (fun ls hl => ?_)
    refine xr_iconst E dX6_farthest_16 ?_
    refine xr_istore_n (lv' := [(2, .int (iI 0)), (1, .int (iI (-1))), (0, .ref hMo)]) E hl dX6_farthest_17 rfl (by decide) rfl (fun ls hl => ?_)
    have L_18_2 : ∀ (nmu : Nat) (n : Nat) (f1 : Int) (t : Int), 12 - n < nmu → (t = n ∧ t ≤ now 0) → (FarI rwx_1 (mP now) n f1) → ∀ (H : Heap) (locs : List Loc) (ls : Array Slot), XW D A s.heap (W_Mbr y hMo a_now a_asd a_pst a_mrf a_txt a_olt a_ofr a_nbs a_best a_wys a_rwx a_shx a_bef now msts mrf mbyt mord best_1 wys_1 rwx_1 alw_1 bco_1 alm_1 abt_1 mlt beg figm) H locs → lv_has ls 4 [(0, .ref hMo), (1, .int (iI f1)), (2, .int (iI t))] → W p l e rm_X6_farthest s m args below meth cX H locs 0 0 Q (F0 m 18 ls []) := by
      intro nmu
      induction nmu with
      | zero =>
        intro n f1 t hmu
        exact absurd hmu (Nat.not_lt_zero _)
      | succ nmu ih =>
        intro n f1 t hmu ht hf H locs ls hX hl
        have ih_18_2 := ih
        clear ih
        refine xr_iload_n E hl 2 rfl dX6_farthest_18 rfl ?_
        refine xr_aload_n E hl 0 rfl dX6_farthest_19 rfl ?_
        refine xr_get E hX 0 rfl rfl ly_X6 0 (by decide) fl_X6_7 rfl dX6_farthest_20 ?_
        refine xr_iconst E dX6_farthest_23 ?_
        refine xr_iald E hX 1 rfl (by omega) (by omega) (by decide) dX6_farthest_24 ?_
        refine xr_icmp_ge (tgt := 81) E dX6_farthest_25 (by decide) ⟨by omega, by omega⟩ ⟨by omega, by omega⟩ (fun c_25 => ?_) (fun c_25 => ?_)
        · have c_25 := c_25
          refine xr_iload_n E hl 1 rfl dX6_farthest_81 rfl ?_
          exact xr_iret E hX hQ (best_1, wys_1, rwx_1, alw_1, bco_1, alm_1, abt_1, mrf) hr ⟨by unfold xqFa; rw [if_pos c_4, show (now 0).toNat = n by omega, ← xFar_cong (fun t h0 h1 => (hp_1 c_4).2.2 t h0 (by omega)), hf.1], by unfold rqFa; rw [if_pos c_4]⟩ rfl dX6_farthest_82
        · have c_25 := c_25
          have hpp := H_M.pri (t := t) (by omega) (by omega)
          have hrb := xRow_bd (sh := now 30) (t := t) H_M hli c_4 (by omega) (by omega)
          have hre := (hp_1 c_4).2.2 t (by omega) (by omega)
          have hf1b : -1 ≤ f1 ∧ f1 ≤ 12 := by rcases hf.2 with h | h <;> omega
          refine xr_aload_n E hl 0 rfl dX6_farthest_28 rfl ?_
          refine xr_get E hX 0 rfl rfl ly_X6 0 (by decide) fl_X6_7 rfl dX6_farthest_29 ?_
          refine xr_bipush E dX6_farthest_32 (by decide) ?_
          refine xr_iload_n E hl 2 rfl dX6_farthest_34 rfl ?_
          refine xr_iadd E dX6_farthest_35 ?_
          refine xr_iald E hX 1 rfl (by omega) (by omega) (by decide) dX6_farthest_36 ?_
          refine xr_iconst E dX6_farthest_37 ?_
          refine xr_icmp_eq (tgt := 45) E dX6_farthest_38 (by decide) ⟨by omega, by omega⟩ (by decide) (fun c_38 => ?_) (fun c_38 => ?_)
          · have c_38 := c_38
            refine xr_iconst E dX6_farthest_45 ?_
            refine xr_toB0 ?_
            refine xr_istore_n (lv' := [(3, .int (bB false)), (0, .ref hMo), (1, .int (iI f1)), (2, .int (iI t))]) E hl dX6_farthest_46 rfl (by decide) rfl (fun ls hl => ?_)
            refine xr_iload_n E hl 0 rfl dX6_farthest_47 rfl ?_
            refine xr_if_eqB (tgt := 73) E dX6_farthest_48 (by decide) (fun c_48 => ?_) (fun c_48 => ?_)
            · have c_48 := c_48
              refine xr_iload_n E hl 2 rfl dX6_farthest_73 rfl ?_
              refine xr_istore_n (lv' := [(1, .int (iI f1)), (3, .int (bB false)), (0, .ref hMo), (2, .int (iI t))]) E hl dX6_farthest_74 rfl (by decide) rfl (fun ls hl => ?_)
              refine xr_iinc (k := 3) (lv' := [(2, .int (iI (t + 1))), (1, .int (iI f1)), (3, .int (bB false)), (0, .ref hMo)]) E hl rfl dX6_farthest_75 (by decide) rfl (fun ls hl => ?_)
              refine xr_goto (tgt := 18) E dX6_farthest_78 (by decide) ?_
              exact ih_18_2 (n + 1) f1 (t + 1) (by omega) (by omega) (by first | exact FarI_no hf ht.1 (Or.inl c_38) | exact FarI_first hf ht.1 c_38 c_53 (xRev_nn _ _ _) | exact FarI_more hf ht.1 c_38 c_53 c_66 | exact FarI_no hf ht.1 (Or.inr ⟨c_53, c_66⟩)) _ _ _ hX (lv_sub hl [3, 1, 0] rfl)
            · exact absurd c_48 (by decide)
          · have c_38 := c_38
            refine xr_iconst E dX6_farthest_41 ?_
            refine xr_goto (tgt := 46) E dX6_farthest_42 (by decide) ?_
            refine xr_toB1 ?_
            refine xr_istore_n (lv' := [(3, .int (bB true)), (0, .ref hMo), (1, .int (iI f1)), (2, .int (iI t))]) E hl dX6_farthest_46 rfl (by decide) rfl (fun ls hl => ?_)
            refine xr_iload_n E hl 0 rfl dX6_farthest_47 rfl ?_
            refine xr_if_eqB (tgt := 73) E dX6_farthest_48 (by decide) (fun c_48 => ?_) (fun c_48 => ?_)
            · exact absurd c_48 (by decide)
            · have c_48 := c_48
              refine xr_iload_n E hl 2 rfl dX6_farthest_51 rfl ?_
              refine xr_iconst E dX6_farthest_52 ?_
              refine xr_icmp_eq (tgt := 69) E dX6_farthest_53 (by decide) ⟨by omega, by omega⟩ (by decide) (fun c_53 => ?_) (fun c_53 => ?_)
              · have c_53 := c_53
                refine xr_iload_n E hl 3 rfl dX6_farthest_69 rfl ?_
                refine xr_goto (tgt := 74) E dX6_farthest_70 (by decide) ?_
                refine xr_istore_n (lv' := [(1, .int (iI t)), (3, .int (bB true)), (0, .ref hMo), (2, .int (iI t))]) E hl dX6_farthest_74 rfl (by decide) rfl (fun ls hl => ?_)
                refine xr_iinc (k := 3) (lv' := [(2, .int (iI (t + 1))), (1, .int (iI t)), (3, .int (bB true)), (0, .ref hMo)]) E hl rfl dX6_farthest_75 (by decide) rfl (fun ls hl => ?_)
                refine xr_goto (tgt := 18) E dX6_farthest_78 (by decide) ?_
                exact ih_18_2 (n + 1) t (t + 1) (by omega) (by omega) (by first | exact FarI_no hf ht.1 (Or.inl c_38) | exact FarI_first hf ht.1 c_38 c_53 (xRev_nn _ _ _) | exact FarI_more hf ht.1 c_38 c_53 c_66 | exact FarI_no hf ht.1 (Or.inr ⟨c_53, c_66⟩)) _ _ _ hX (lv_sub hl [3, 1, 0] rfl)
              · have c_53 := c_53
                have hfr1 := FarI_in hf c_53
                have hrb1 := xRow_bd (sh := now 30) (t := f1) H_M hli c_4 (by omega) (by omega)
                have hre1 := (hp_1 c_4).2.2 f1 (by omega) (by omega)
                have hpp1 := H_M.pri (t := f1) (by omega) (by omega)
                have hv1 : 0 ≤ xRev rwx_1 (mP now) t ∧ xRev rwx_1 (mP now) t ≤ 5000 := by unfold xRev mP; (repeat' split) <;> omega
                have hv2 : 0 ≤ xRev rwx_1 (mP now) f1 ∧ xRev rwx_1 (mP now) f1 ≤ 5000 := by unfold xRev mP; (repeat' split) <;> omega
                refine xr_aload_n E hl 1 rfl dX6_farthest_56 rfl ?_
                refine xr_iload_n E hl 3 rfl dX6_farthest_57 rfl ?_
                refine xk_ri E hX [0, 1, 5] rfl (xv_V (As := [.int (iI t)]) E hX hl (c_X6_revisedOf l D y z _ hMo a_now a_asd a_pst a_mrf a_txt a_olt a_ofr a_nbs a_best a_wys a_rwx a_shx a_bef now msts mbyt mord rwx_1 alw_1 bco_1 alm_1 abt_1 mlt beg figm t H_M (by omega) (by omega)) ml_X6_198 im_X6_revisedOf se_X6_revisedOf in_X6 co_X6_revisedOf 1 (by decide) ⟨rfl, rfl⟩ ⟨Nat.le_of_ble_eq_true rfl, Nat.le_of_ble_eq_true rfl⟩ [0, 1, 5] rfl rfl 0 rfl rfl rfl rfl rfl (Nat.le_of_ble_eq_true rfl) dX6_farthest_58 ⟨Nat.le_refl _, Nat.le_refl _⟩) (fun r_58 H locs hw hX => ?_)
                subst hw
                refine xr_aload_n E hl 1 rfl dX6_farthest_61 rfl ?_
                refine xr_iload_n E hl 2 rfl dX6_farthest_62 rfl ?_
                refine xk_ri E hX [0, 1, 5] rfl (xv_V (As := [.int (iI f1)]) E hX hl (c_X6_revisedOf l D y z _ hMo a_now a_asd a_pst a_mrf a_txt a_olt a_ofr a_nbs a_best a_wys a_rwx a_shx a_bef now msts mbyt mord rwx_1 alw_1 bco_1 alm_1 abt_1 mlt beg figm f1 H_M (by omega) (by omega)) ml_X6_198 im_X6_revisedOf se_X6_revisedOf in_X6 co_X6_revisedOf 1 (by decide) ⟨rfl, rfl⟩ ⟨Nat.le_of_ble_eq_true rfl, Nat.le_of_ble_eq_true rfl⟩ [0, 1, 5] rfl rfl 0 rfl rfl rfl rfl rfl (Nat.le_of_ble_eq_true rfl) dX6_farthest_63 ⟨Nat.le_refl _, Nat.le_refl _⟩) (fun r_63 H locs hw hX => ?_)
                subst hw
                refine xr_icmp_le (tgt := 73) E dX6_farthest_66 (by decide) ⟨by omega, by omega⟩ ⟨by omega, by omega⟩ (fun c_66 => ?_) (fun c_66 => ?_)
                · have c_66 := c_66
                  refine xr_iload_n E hl 2 rfl dX6_farthest_73 rfl ?_
                  refine xr_istore_n (lv' := [(1, .int (iI f1)), (3, .int (bB true)), (0, .ref hMo), (2, .int (iI t))]) E hl dX6_farthest_74 rfl (by decide) rfl (fun ls hl => ?_)
                  refine xr_iinc (k := 3) (lv' := [(2, .int (iI (t + 1))), (1, .int (iI f1)), (3, .int (bB true)), (0, .ref hMo)]) E hl rfl dX6_farthest_75 (by decide) rfl (fun ls hl => ?_)
                  refine xr_goto (tgt := 18) E dX6_farthest_78 (by decide) ?_
                  exact ih_18_2 (n + 1) f1 (t + 1) (by omega) (by omega) (by first | exact FarI_no hf ht.1 (Or.inl c_38) | exact FarI_first hf ht.1 c_38 c_53 (xRev_nn _ _ _) | exact FarI_more hf ht.1 c_38 c_53 c_66 | exact FarI_no hf ht.1 (Or.inr ⟨c_53, c_66⟩)) _ _ _ hX (lv_sub hl [3, 1, 0] rfl)
                · have c_66 := c_66
                  refine xr_iload_n E hl 3 rfl dX6_farthest_69 rfl ?_
                  refine xr_goto (tgt := 74) E dX6_farthest_70 (by decide) ?_
                  refine xr_istore_n (lv' := [(1, .int (iI t)), (3, .int (bB true)), (0, .ref hMo), (2, .int (iI t))]) E hl dX6_farthest_74 rfl (by decide) rfl (fun ls hl => ?_)
                  refine xr_iinc (k := 3) (lv' := [(2, .int (iI (t + 1))), (1, .int (iI t)), (3, .int (bB true)), (0, .ref hMo)]) E hl rfl dX6_farthest_75 (by decide) rfl (fun ls hl => ?_)
                  refine xr_goto (tgt := 18) E dX6_farthest_78 (by decide) ?_
                  exact ih_18_2 (n + 1) t (t + 1) (by omega) (by omega) (by first | exact FarI_no hf ht.1 (Or.inl c_38) | exact FarI_first hf ht.1 c_38 c_53 (xRev_nn _ _ _) | exact FarI_more hf ht.1 c_38 c_53 c_66 | exact FarI_no hf ht.1 (Or.inr ⟨c_53, c_66⟩)) _ _ _ hX (lv_sub hl [3, 1, 0] rfl)
    exact L_18_2 _ 0 (-1) 0 (Nat.lt_succ_self _) (by omega) FarI_0 _ _ _ hX (lv_sub hl [2, 1, 0] rfl)
  · have c_4 := c_4
    refine xr_aload_n E hl 0 rfl dX6_farthest_7 rfl ?_
    refine xr_bipush E dX6_farthest_8 (by decide) ?_
    refine xk_i (W2 := fun uu => (W_Mbr y hMo a_now a_asd a_pst a_mrf a_txt a_olt a_ofr a_nbs a_best a_wys a_rwx a_shx a_bef now msts uu mbyt mord best_1 wys_1 rwx_1 alw_1 bco_1 alm_1 abt_1 mlt beg figm)) E hX [0, 2] rfl (xv_V (As := [.int (iI (-3))]) E hX hl (c_X6_refuse l D y z _ hMo a_now a_asd a_pst a_mrf a_txt a_olt a_ofr a_nbs a_best a_wys a_rwx a_shx a_bef msts mrf mbyt mord alw_1 bco_1 alm_1 abt_1 mlt beg figm (-3) (by omega)) ml_X6_54 im_X6_refuse se_X6_refuse in_X6 co_X6_refuse 1 (by decide) ⟨rfl, rfl⟩ ⟨Nat.le_of_ble_eq_true rfl, Nat.le_of_ble_eq_true rfl⟩ [0, 2] rfl rfl 0 rfl rfl rfl rfl rfl (Nat.le_of_ble_eq_true rfl) dX6_farthest_10 ⟨Nat.le_refl _, Nat.le_refl _⟩) [0, 3, 1, 5, 6, 7] 2 (fun _ => rfl) (fun _ => rfl) (by decide) (by decide) (fun r_10 uu H locs hw hX => ?_)
    obtain ⟨rfl, rfl⟩ := hw
    have hX : XW D A s.heap (W_Mbr y hMo a_now a_asd a_pst a_mrf a_txt a_olt a_ofr a_nbs a_best a_wys a_rwx a_shx a_bef now msts (rfU mrf (-3)) mbyt mord best_1 wys_1 rwx_1 alw_1 bco_1 alm_1 abt_1 mlt beg figm) H locs := hX
    exact xr_iret E hX hQ (best_1, wys_1, rwx_1, alw_1, bco_1, alm_1, abt_1, rfU mrf (-3)) hr ⟨by unfold xqFa; rw [if_neg (by rw [c_4]; decide)], by unfold rqFa; rw [if_neg (by rw [c_4]; decide)]⟩ rfl dX6_farthest_13
abbrev rm_X6_least : Room := { frames := 4, cells := 0, slots := 0, locals := 105 }
set_option maxHeartbeats 4000000 in
set_option maxRecDepth 100000 in
theorem c_X6_least (l : Launch) (D : va_G) (y : CY) (z sz : Nat) (hMo a_now a_asd a_pst a_mrf a_txt a_olt a_ofr a_nbs a_best a_wys a_rwx a_shx a_bef : Nat) (now : Int → Int) (msts : Int) (mbyt : Int) (mord : Int) (best : Int → Int) (wys : Int → Int) (rwx : Int → Int) (alw : Int) (bco : Int) (alm : Int) (abt : Int) (mlt : Int) (beg : Int) (figm : Int) (H_M : FM now) : Met l yX6_least (Cond.code yX6_least cX6_least 2 (some .int) :: TW) rm_X6_least (va_Pc [.ref hMo] (PX D y z (W_Mfi y hMo a_now a_asd a_pst a_mrf a_txt a_olt a_ofr a_nbs a_best a_wys a_rwx a_shx a_bef now msts mbyt mord best wys rwx alw bco alm abt mlt beg figm) sz)) (va_Qi (fun (r : Int32) (uu : (Int → Int) × (Int → Int) × (Int → Int) × (Int) × (Int) × (Int) × (Int)) => r = iI (xLeastL (fun l => zM now l (-1)) 25 0) ∧ True) (fun uu t => BX D (W_Mfi y hMo a_now a_asd a_pst a_mrf a_txt a_olt a_ofr a_nbs a_best a_wys a_rwx a_shx a_bef now msts mbyt mord uu.1 uu.2.1 uu.2.2.1 uu.2.2.2.1 uu.2.2.2.2.1 uu.2.2.2.2.2.1 uu.2.2.2.2.2.2 mlt beg figm) (va_A (W_Mfi y hMo a_now a_asd a_pst a_mrf a_txt a_olt a_ofr a_nbs a_best a_wys a_rwx a_shx a_bef now msts mbyt mord best wys rwx alw bco alm abt mlt beg figm) sz) t) (va_A (W_Mfi y hMo a_now a_asd a_pst a_mrf a_txt a_olt a_ofr a_nbs a_best a_wys a_rwx a_shx a_bef now msts mbyt mord best wys rwx alw bco alm abt mlt beg figm) sz)) 0 0 (va_A (W_Mfi y hMo a_now a_asd a_pst a_mrf a_txt a_olt a_ofr a_nbs a_best a_wys a_rwx a_shx a_bef now msts mbyt mord best wys rwx alw bco alm abt mlt beg figm) sz) := by
  refine xm_i (by decide) (Nat.le_of_ble_eq_true rfl) (fun p e s m args below meth cX ls A Q E hr hnm hX hl hQ => ?_)
  have hl : lv_has ls 2 [(0, .ref hMo)] := hl
  have hq := H_M.q
  have hfr := H_M.fr
  have hli := H_M.li
  have hsh := H_M.sh
  refine xr_iconst E dX6_least_0 ?_
  refine xr_istore_n (lv' := [(1, .int (iI 0)), (0, .ref hMo)]) E hl dX6_least_1 rfl (by decide) rfl (fun ls hl => ?_)
  have L_2_1 : ∀ (nmu : Nat) (n : Nat) (lm : Int) (best1 : Int → Int) (wys1 : Int → Int) (rwx1 : Int → Int) (alw1 : Int) (bco1 : Int) (alm1 : Int) (abt1 : Int), n < nmu → (lm + n = 25 ∧ 0 ≤ lm) → (xLeastL (fun l => zM now l (-1)) 25 0 = xLeastL (fun l => zM now l (-1)) n lm) → ∀ (H : Heap) (locs : List Loc) (ls : Array Slot), XW D A s.heap (W_Mfi y hMo a_now a_asd a_pst a_mrf a_txt a_olt a_ofr a_nbs a_best a_wys a_rwx a_shx a_bef now msts mbyt mord best1 wys1 rwx1 alw1 bco1 alm1 abt1 mlt beg figm) H locs → lv_has ls 2 [(0, .ref hMo), (1, .int (iI lm))] → W p l e rm_X6_least s m args below meth cX H locs 0 0 Q (F0 m 2 ls []) := by
    intro nmu
    induction nmu with
    | zero =>
      intro n lm best1 wys1 rwx1 alw1 bco1 alm1 abt1 hmu
      exact absurd hmu (Nat.not_lt_zero _)
    | succ nmu ih =>
      intro n lm best1 wys1 rwx1 alw1 bco1 alm1 abt1 hmu hlm hre H locs ls hX hl
      have ih_2_1 := ih
      clear ih
      refine xr_iload_n E hl 1 rfl dX6_least_2 rfl ?_
      refine xr_bipush E dX6_least_3 (by decide) ?_
      refine xr_icmp_gt (tgt := 25) E dX6_least_5 (by decide) ⟨by omega, by omega⟩ (by decide) (fun c_5 => ?_) (fun c_5 => ?_)
      · have c_5 := c_5
        refine xr_iconst E dX6_least_25 ?_
        exact xr_iret E hX hQ (best1, wys1, rwx1, alw1, bco1, alm1, abt1) hr ⟨by rw [hre, show n = 0 by omega]; rfl, trivial⟩ rfl dX6_least_26
      · have c_5 := c_5
        refine xr_aload_n E hl 0 rfl dX6_least_8 rfl ?_
        refine xr_iload_n E hl 1 rfl dX6_least_9 rfl ?_
        refine xr_iconst E dX6_least_10 ?_
        refine xk_i (W2 := fun uu => (W_Mfi y hMo a_now a_asd a_pst a_mrf a_txt a_olt a_ofr a_nbs a_best a_wys a_rwx a_shx a_bef now msts mbyt mord uu.1 uu.2.1 uu.2.2.1 uu.2.2.2.1 uu.2.2.2.2.1 uu.2.2.2.2.2.1 uu.2.2.2.2.2.2 mlt beg figm)) E hX [0, 1, 2, 3, 4] rfl (xv_V (As := [.int (iI lm), .int (iI (-1))]) E hX hl (c_X6_find l D y z _ hMo a_now a_asd a_pst a_mrf a_txt a_olt a_ofr a_nbs a_best a_wys a_rwx a_shx a_bef now msts mbyt mord best1 wys1 rwx1 alw1 bco1 alm1 abt1 mlt beg figm lm (-1) H_M (by omega) (by omega)) ml_X6_191 im_X6_find se_X6_find in_X6 co_X6_find 2 (by decide) ⟨rfl, rfl⟩ ⟨Nat.le_of_ble_eq_true rfl, Nat.le_of_ble_eq_true rfl⟩ [0, 1, 2, 3, 4] rfl rfl 0 rfl rfl rfl rfl rfl (Nat.le_of_ble_eq_true rfl) dX6_least_11 ⟨Nat.le_refl _, Nat.le_refl _⟩) [0, 1, 2, 3, 4] 5 (fun _ => rfl) (fun _ => rfl) (by decide) (by decide) (fun r_11 uu H locs hw hX => ?_)
        obtain ⟨best_11, wys_11, rwx_11, alw_11, bco_11, alm_11, abt_11⟩ := uu
        have hX : XW D A s.heap (W_Mfi y hMo a_now a_asd a_pst a_mrf a_txt a_olt a_ofr a_nbs a_best a_wys a_rwx a_shx a_bef now msts mbyt mord best_11 wys_11 rwx_11 alw_11 bco_11 alm_11 abt_11 mlt beg figm) H locs := hX
        try dsimp only at hw
        obtain ⟨rfl, hp_11⟩ := hw
        refine xr_if_eqB (tgt := 19) E dX6_least_14 (by decide) (fun c_14 => ?_) (fun c_14 => ?_)
        · have c_14 := c_14
          refine xr_iinc (k := 1) (lv' := [(1, .int (iI (lm + 1))), (0, .ref hMo)]) E hl rfl dX6_least_19 (by decide) rfl (fun ls hl => ?_)
          refine xr_goto (tgt := 2) E dX6_least_22 (by decide) ?_
          exact ih_2_1 (n - 1) (lm + 1) best_11 wys_11 rwx_11 alw_11 bco_11 alm_11 abt_11 (by omega) (by omega) (by rw [hre, show n = (n - 1) + 1 by omega]; show (if _ then _ else _) = _; rw [if_neg (by dsimp only; rw [c_14]; decide)]; rfl) _ _ _ hX (lv_sub hl [1, 0] rfl)
        · have c_14 := c_14
          refine xr_iload_n E hl 1 rfl dX6_least_17 rfl ?_
          exact xr_iret E hX hQ (best_11, wys_11, rwx_11, alw_11, bco_11, alm_11, abt_11) hr ⟨by rw [hre, show n = (n - 1) + 1 by omega]; show _ = iI (if _ then _ else _); rw [if_pos c_14], trivial⟩ rfl dX6_least_18
  exact L_2_1 _ 25 0 best wys rwx alw bco alm abt (Nat.lt_succ_self _) (by omega) rfl _ _ _ hX (lv_sub hl [1, 0] rfl)
abbrev rm_X6_price : Room := { frames := 5, cells := 0, slots := 0, locals := 125 }
set_option maxHeartbeats 4000000 in
set_option maxRecDepth 100000 in
theorem c_X6_price (l : Launch) (D : va_G) (y : CY) (z sz : Nat) (hMo a_now a_asd a_pst a_mrf a_txt a_olt a_ofr a_nbs a_best a_wys a_rwx a_shx a_bef : Nat) (now : Int → Int) (msts : Int) (mrf : Int → Int) (mbyt : Int) (mord : Int) (best : Int → Int) (wys : Int → Int) (rwx : Int → Int) (alw : Int) (bco : Int) (alm : Int) (abt : Int) (mlt : Int) (beg : Int) (figm : Int) (v : Int) (H_M : FM now) (hv : sm v) : Met l yX6_price (Cond.code yX6_price cX6_price 5 (some .long) :: TW) rm_X6_price (va_Pc [.ref hMo, .int (iI v)] (PX D y z (W_Mbr y hMo a_now a_asd a_pst a_mrf a_txt a_olt a_ofr a_nbs a_best a_wys a_rwx a_shx a_bef now msts mrf mbyt mord best wys rwx alw bco alm abt mlt beg figm) sz)) (va_Ql (fun (r : Int64) (uu : (Int → Int) × (Int → Int) × (Int → Int) × (Int) × (Int) × (Int) × (Int) × (Int → Int)) => r = lI (xqPr (mI now) (mT now) (mP now) (now 0) (now 28) (now 29) (now 30) v) ∧ uu.2.2.2.2.2.2.2 = rqPr (mI now) (mT now) (mP now) (now 0) (now 28) (now 29) mrf v) (fun uu t => BX D (W_Mbr y hMo a_now a_asd a_pst a_mrf a_txt a_olt a_ofr a_nbs a_best a_wys a_rwx a_shx a_bef now msts uu.2.2.2.2.2.2.2 mbyt mord uu.1 uu.2.1 uu.2.2.1 uu.2.2.2.1 uu.2.2.2.2.1 uu.2.2.2.2.2.1 uu.2.2.2.2.2.2.1 mlt beg figm) (va_A (W_Mbr y hMo a_now a_asd a_pst a_mrf a_txt a_olt a_ofr a_nbs a_best a_wys a_rwx a_shx a_bef now msts mrf mbyt mord best wys rwx alw bco alm abt mlt beg figm) sz) t) (va_A (W_Mbr y hMo a_now a_asd a_pst a_mrf a_txt a_olt a_ofr a_nbs a_best a_wys a_rwx a_shx a_bef now msts mrf mbyt mord best wys rwx alw bco alm abt mlt beg figm) sz)) 0 0 (va_A (W_Mbr y hMo a_now a_asd a_pst a_mrf a_txt a_olt a_ofr a_nbs a_best a_wys a_rwx a_shx a_bef now msts mrf mbyt mord best wys rwx alw bco alm abt mlt beg figm) sz) := by
  refine xm_l (by decide) (Nat.le_of_ble_eq_true rfl) (fun p e s m args below meth cX ls A Q E hr hnm hX hl hQ => ?_)
  have hl : lv_has ls 5 [(0, .ref hMo), (1, .int (iI v))] := hl
  have hq := H_M.q
  have hfr := H_M.fr
  have hli := H_M.li
  have hsh := H_M.sh
  refine xr_iload_n E hl 1 rfl dX6_price_0 rfl ?_
  refine xk_ri E hX [] rfl (xv_S (As := [.int (iI v)]) E hX hl (c_X6_isYear l D y z _ v ⟨by omega, by omega⟩) ml_X6_74 st_X6_isYear in_X6 co_X6_isYear 1 (by decide) ⟨rfl, rfl⟩ ⟨Nat.le_of_ble_eq_true rfl, Nat.le_of_ble_eq_true rfl⟩ [] rfl rfl rfl rfl (Nat.le_of_ble_eq_true rfl) dX6_price_1 ⟨Nat.le_refl _, Nat.le_refl _⟩) (fun r_1 H locs hw hX => ?_)
  subst hw
  refine xr_if_neB (tgt := 15) E dX6_price_4 (by decide) (fun c_4 => ?_) (fun c_4 => ?_)
  · have c_4 := of_decide_eq_true c_4
    have htt := H_M.tot (v := v) (by omega) (by omega)
    have emt : mT now v = now (13 + v) := rfl
    refine xr_aload_n E hl 0 rfl dX6_price_15 rfl ?_
    refine xr_get E hX 0 rfl rfl ly_X6 0 (by decide) fl_X6_7 rfl dX6_price_16 ?_
    refine xr_bipush E dX6_price_19 (by decide) ?_
    refine xr_iload_n E hl 1 rfl dX6_price_21 rfl ?_
    refine xr_iadd E dX6_price_22 ?_
    refine xr_iald E hX 1 rfl (by omega) (by omega) (by decide) dX6_price_23 ?_
    refine xr_iconst E dX6_price_24 ?_
    refine xr_icmp_eq (tgt := 35) E dX6_price_25 (by decide) ⟨by omega, by omega⟩ (by decide) (fun c_25 => ?_) (fun c_25 => ?_)
    · have c_25 := c_25
      refine xr_aload_n E hl 0 rfl dX6_price_35 rfl ?_
      refine xr_bipush E dX6_price_36 (by decide) ?_
      refine xk_i (W2 := fun uu => (W_Mbr y hMo a_now a_asd a_pst a_mrf a_txt a_olt a_ofr a_nbs a_best a_wys a_rwx a_shx a_bef now msts uu mbyt mord best wys rwx alw bco alm abt mlt beg figm)) E hX [0, 2] rfl (xv_V (As := [.int (iI (-3))]) E hX hl (c_X6_refuse l D y z _ hMo a_now a_asd a_pst a_mrf a_txt a_olt a_ofr a_nbs a_best a_wys a_rwx a_shx a_bef msts mrf mbyt mord alw bco alm abt mlt beg figm (-3) (by omega)) ml_X6_54 im_X6_refuse se_X6_refuse in_X6 co_X6_refuse 1 (by decide) ⟨rfl, rfl⟩ ⟨Nat.le_of_ble_eq_true rfl, Nat.le_of_ble_eq_true rfl⟩ [0, 2] rfl rfl 0 rfl rfl rfl rfl rfl (Nat.le_of_ble_eq_true rfl) dX6_price_38 ⟨Nat.le_refl _, Nat.le_refl _⟩) [0, 3, 1, 5, 6, 7] 2 (fun _ => rfl) (fun _ => rfl) (by decide) (by decide) (fun r_38 uu H locs hw hX => ?_)
      obtain ⟨rfl, rfl⟩ := hw
      have hX : XW D A s.heap (W_Mbr y hMo a_now a_asd a_pst a_mrf a_txt a_olt a_ofr a_nbs a_best a_wys a_rwx a_shx a_bef now msts (rfU mrf (-3)) mbyt mord best wys rwx alw bco alm abt mlt beg figm) H locs := hX
      refine xr_i2l E dX6_price_41 (by decide) ?_
      exact xr_lret E hX hQ (best, wys, rwx, alw, bco, alm, abt, rfU mrf (-3)) hr (by first | exact ⟨by unfold xqPr; rw [if_pos (by omega), if_neg (fun h => absurd (c_32.symm.trans h.2) (by decide))], by unfold rqPr; rw [if_pos (by omega), if_neg (fun h => absurd (c_32.symm.trans h.2) (by decide))]⟩ | exact ⟨by unfold xqPr; rw [if_pos (by omega), if_neg (fun h => h.1 c_25)], by unfold rqPr; rw [if_pos (by omega), if_neg (fun h => h.1 c_25)]⟩) rfl dX6_price_42
    · have c_25 := c_25
      refine xr_aload_n E hl 0 rfl dX6_price_28 rfl ?_
      refine xk_i (W2 := fun uu => (W_Mbr y hMo a_now a_asd a_pst a_mrf a_txt a_olt a_ofr a_nbs a_best a_wys a_rwx a_shx a_bef now msts mrf mbyt mord uu.1 uu.2.1 uu.2.2.1 uu.2.2.2.1 uu.2.2.2.2.1 uu.2.2.2.2.2.1 uu.2.2.2.2.2.2 mlt beg figm)) E hX [0, 1, 3, 4, 5] rfl (xv_V (As := []) E hX hl (c_X6_bend l D y z _ hMo a_now a_asd a_pst a_mrf a_txt a_olt a_ofr a_nbs a_best a_wys a_rwx a_shx a_bef now msts mbyt mord best wys rwx alw bco alm abt mlt beg figm H_M) ml_X6_86 im_X6_bend se_X6_bend in_X6 co_X6_bend 0 (by decide) ⟨rfl, rfl⟩ ⟨Nat.le_of_ble_eq_true rfl, Nat.le_of_ble_eq_true rfl⟩ [0, 1, 3, 4, 5] rfl rfl 0 rfl rfl rfl rfl rfl (Nat.le_of_ble_eq_true rfl) dX6_price_29 ⟨Nat.le_refl _, Nat.le_refl _⟩) [0, 1, 7, 2, 3, 4] 5 (fun _ => rfl) (fun _ => rfl) (by decide) (by decide) (fun r_29 uu H locs hw hX => ?_)
      obtain ⟨best_29, wys_29, rwx_29, alw_29, bco_29, alm_29, abt_29⟩ := uu
      have hX : XW D A s.heap (W_Mbr y hMo a_now a_asd a_pst a_mrf a_txt a_olt a_ofr a_nbs a_best a_wys a_rwx a_shx a_bef now msts mrf mbyt mord best_29 wys_29 rwx_29 alw_29 bco_29 alm_29 abt_29 mlt beg figm) H locs := hX
      try dsimp only at hw
      obtain ⟨rfl, hp_29⟩ := hw
      refine xr_if_neB (tgt := 43) E dX6_price_32 (by decide) (fun c_32 => ?_) (fun c_32 => ?_)
      · have c_32 := c_32
        have hbb := xBest_bd (sh := now 30) H_M hli c_32
        have hb1 := (hp_29 c_32).1
        refine xr_aload_n E hl 0 rfl dX6_price_43 rfl ?_
        refine xr_get E hX 0 rfl rfl ly_X6 15 (by decide) fl_X6_181 rfl dX6_price_44 ?_
        refine xr_ldc2 (n := 1024) E kl_X6_171 dX6_price_47 (by decide) ?_
        refine xr_ldiv E dX6_price_50 ⟨by omega, by omega⟩ (by decide) (by omega) (by omega) ?_
        refine xr_lstore_n (lv' := [(2, .long (lI (bco_29 / 1024))), (0, .ref hMo), (1, .int (iI v))]) E hl dX6_price_51 rfl (by decide) rfl (fun ls hl => ?_)
        refine xr_aload_n E hl 1 rfl dX6_price_52 rfl ?_
        refine xr_aload_n E hl 1 rfl dX6_price_53 rfl ?_
        refine xr_get E hX 0 rfl rfl ly_X6 0 (by decide) fl_X6_7 rfl dX6_price_54 ?_
        refine xr_bipush E dX6_price_57 (by decide) ?_
        refine xr_iald E hX 1 rfl (by omega) (by omega) (by decide) dX6_price_59 ?_
        refine xr_iload_n E hl 2 rfl dX6_price_60 rfl ?_
        refine xk_i (W2 := fun uu => (W_Mbr y hMo a_now a_asd a_pst a_mrf a_txt a_olt a_ofr a_nbs a_best a_wys a_rwx a_shx a_bef now msts mrf mbyt mord uu.1 uu.2.1 uu.2.2.1 uu.2.2.2.1 uu.2.2.2.2.1 uu.2.2.2.2.2.1 uu.2.2.2.2.2.2 mlt beg figm)) E hX [0, 1, 3, 4, 5] rfl (xv_V (As := [.int (iI (now 29)), .int (iI v)]) E hX hl (c_X6_find l D y z _ hMo a_now a_asd a_pst a_mrf a_txt a_olt a_ofr a_nbs a_best a_wys a_rwx a_shx a_bef now msts mbyt mord best_29 wys_29 rwx_29 alw_29 bco_29 alm_29 abt_29 mlt beg figm (now 29) v H_M (by omega) (by omega)) ml_X6_191 im_X6_find se_X6_find in_X6 co_X6_find 2 (by decide) ⟨rfl, rfl⟩ ⟨Nat.le_of_ble_eq_true rfl, Nat.le_of_ble_eq_true rfl⟩ [0, 1, 3, 4, 5] rfl rfl 0 rfl rfl rfl rfl rfl (Nat.le_of_ble_eq_true rfl) dX6_price_61 ⟨Nat.le_refl _, Nat.le_refl _⟩) [0, 1, 7, 2, 3, 4] 5 (fun _ => rfl) (fun _ => rfl) (by decide) (by decide) (fun r_61 uu H locs hw hX => ?_)
        obtain ⟨best_61, wys_61, rwx_61, alw_61, bco_61, alm_61, abt_61⟩ := uu
        have hX : XW D A s.heap (W_Mbr y hMo a_now a_asd a_pst a_mrf a_txt a_olt a_ofr a_nbs a_best a_wys a_rwx a_shx a_bef now msts mrf mbyt mord best_61 wys_61 rwx_61 alw_61 bco_61 alm_61 abt_61 mlt beg figm) H locs := hX
        try dsimp only at hw
        obtain ⟨rfl, hp_61⟩ := hw
        refine xr_istore (lv' := [(4, .int (bB (zM now (now 29) v))), (2, .long (lI (bco_29 / 1024))), (0, .ref hMo), (1, .int (iI v))]) E hl dX6_price_64 (by decide) rfl (fun ls hl => ?_)
        have hm2 : zM now (now 29) v = true := xMt_un c_32 v
        have hb2 := (hp_61 hm2).1
        have hbb2 := xBest_bd (un := v) (sh := now 30) H_M hli hm2
        have eb2 : bco_61 = xBest (mI now) (mT now) (mP now) (now 0) (now 28) (now 29) v (now 30) := hb2
        refine xr_lload_n E hl 1 rfl dX6_price_66 rfl ?_
        refine xr_aload_n E hl 2 rfl dX6_price_67 rfl ?_
        refine xr_get E hX 0 rfl rfl ly_X6 15 (by decide) fl_X6_181 rfl dX6_price_68 ?_
        refine xr_ldc2 (n := 1024) E kl_X6_171 dX6_price_71 (by decide) ?_
        refine xr_ldiv E dX6_price_74 ⟨by omega, by omega⟩ (by decide) (by omega) (by omega) ?_
        refine xr_lsub E dX6_price_75 ?_
        exact xr_lret E hX hQ (best_61, wys_61, rwx_61, alw_61, bco_61, alm_61, abt_61, mrf) hr ⟨by unfold xqPr; rw [if_pos (by omega), if_pos ⟨c_25, c_32⟩, xMv_best H_M c_32]; unfold xLw; rw [if_pos (xMt_un c_32 v), hb1, eb2], by unfold rqPr; rw [if_pos (by omega), if_pos ⟨c_25, c_32⟩]⟩ rfl dX6_price_76
      · have c_32 := c_32
        refine xr_aload_n E hl 0 rfl dX6_price_35 rfl ?_
        refine xr_bipush E dX6_price_36 (by decide) ?_
        refine xk_i (W2 := fun uu => (W_Mbr y hMo a_now a_asd a_pst a_mrf a_txt a_olt a_ofr a_nbs a_best a_wys a_rwx a_shx a_bef now msts uu mbyt mord best_29 wys_29 rwx_29 alw_29 bco_29 alm_29 abt_29 mlt beg figm)) E hX [0, 2] rfl (xv_V (As := [.int (iI (-3))]) E hX hl (c_X6_refuse l D y z _ hMo a_now a_asd a_pst a_mrf a_txt a_olt a_ofr a_nbs a_best a_wys a_rwx a_shx a_bef msts mrf mbyt mord alw_29 bco_29 alm_29 abt_29 mlt beg figm (-3) (by omega)) ml_X6_54 im_X6_refuse se_X6_refuse in_X6 co_X6_refuse 1 (by decide) ⟨rfl, rfl⟩ ⟨Nat.le_of_ble_eq_true rfl, Nat.le_of_ble_eq_true rfl⟩ [0, 2] rfl rfl 0 rfl rfl rfl rfl rfl (Nat.le_of_ble_eq_true rfl) dX6_price_38 ⟨Nat.le_refl _, Nat.le_refl _⟩) [0, 3, 1, 5, 6, 7] 2 (fun _ => rfl) (fun _ => rfl) (by decide) (by decide) (fun r_38 uu H locs hw hX => ?_)
        obtain ⟨rfl, rfl⟩ := hw
        have hX : XW D A s.heap (W_Mbr y hMo a_now a_asd a_pst a_mrf a_txt a_olt a_ofr a_nbs a_best a_wys a_rwx a_shx a_bef now msts (rfU mrf (-3)) mbyt mord best_29 wys_29 rwx_29 alw_29 bco_29 alm_29 abt_29 mlt beg figm) H locs := hX
        refine xr_i2l E dX6_price_41 (by decide) ?_
        exact xr_lret E hX hQ (best_29, wys_29, rwx_29, alw_29, bco_29, alm_29, abt_29, rfU mrf (-3)) hr (by first | exact ⟨by unfold xqPr; rw [if_pos (by omega), if_neg (fun h => absurd (c_32.symm.trans h.2) (by decide))], by unfold rqPr; rw [if_pos (by omega), if_neg (fun h => absurd (c_32.symm.trans h.2) (by decide))]⟩ | exact ⟨by unfold xqPr; rw [if_pos (by omega), if_neg (fun h => h.1 c_25)], by unfold rqPr; rw [if_pos (by omega), if_neg (fun h => h.1 c_25)]⟩) rfl dX6_price_42
  · have c_4 := of_decide_eq_false c_4
    refine xr_aload_n E hl 0 rfl dX6_price_7 rfl ?_
    refine xr_bipush E dX6_price_8 (by decide) ?_
    refine xk_i (W2 := fun uu => (W_Mbr y hMo a_now a_asd a_pst a_mrf a_txt a_olt a_ofr a_nbs a_best a_wys a_rwx a_shx a_bef now msts uu mbyt mord best wys rwx alw bco alm abt mlt beg figm)) E hX [0, 2] rfl (xv_V (As := [.int (iI (-2))]) E hX hl (c_X6_refuse l D y z _ hMo a_now a_asd a_pst a_mrf a_txt a_olt a_ofr a_nbs a_best a_wys a_rwx a_shx a_bef msts mrf mbyt mord alw bco alm abt mlt beg figm (-2) (by omega)) ml_X6_54 im_X6_refuse se_X6_refuse in_X6 co_X6_refuse 1 (by decide) ⟨rfl, rfl⟩ ⟨Nat.le_of_ble_eq_true rfl, Nat.le_of_ble_eq_true rfl⟩ [0, 2] rfl rfl 0 rfl rfl rfl rfl rfl (Nat.le_of_ble_eq_true rfl) dX6_price_10 ⟨Nat.le_refl _, Nat.le_refl _⟩) [0, 3, 1, 5, 6, 7] 2 (fun _ => rfl) (fun _ => rfl) (by decide) (by decide) (fun r_10 uu H locs hw hX => ?_)
    obtain ⟨rfl, rfl⟩ := hw
    have hX : XW D A s.heap (W_Mbr y hMo a_now a_asd a_pst a_mrf a_txt a_olt a_ofr a_nbs a_best a_wys a_rwx a_shx a_bef now msts (rfU mrf (-2)) mbyt mord best wys rwx alw bco alm abt mlt beg figm) H locs := hX
    refine xr_i2l E dX6_price_13 (by decide) ?_
    exact xr_lret E hX hQ (best, wys, rwx, alw, bco, alm, abt, rfU mrf (-2)) hr ⟨by unfold xqPr; rw [if_neg (by omega)], by unfold rqPr; rw [if_neg (by omega)]⟩ rfl dX6_price_14
abbrev rm_X6_others : Room := { frames := 5, cells := 0, slots := 0, locals := 125 }
set_option maxHeartbeats 4000000 in
set_option maxRecDepth 100000 in
theorem c_X6_others (l : Launch) (D : va_G) (y : CY) (z sz : Nat) (hMo a_now a_asd a_pst a_mrf a_txt a_olt a_ofr a_nbs a_best a_wys a_rwx a_shx a_bef : Nat) (now : Int → Int) (msts : Int) (mbyt : Int) (mord : Int) (best : Int → Int) (wys : Int → Int) (rwx : Int → Int) (alw : Int) (bco : Int) (alm : Int) (abt : Int) (mlt : Int) (beg : Int) (figm : Int) (H_M : FM now) : Met l yX6_others (Cond.code yX6_others cX6_others 1 (some .int) :: TW) rm_X6_others (va_Pc [.ref hMo] (PX D y z (W_Mfi y hMo a_now a_asd a_pst a_mrf a_txt a_olt a_ofr a_nbs a_best a_wys a_rwx a_shx a_bef now msts mbyt mord best wys rwx alw bco alm abt mlt beg figm) sz)) (va_Qi (fun (r : Int32) (uu : (Int → Int) × (Int → Int) × (Int → Int) × (Int) × (Int) × (Int) × (Int)) => r = iI (xqOt (mI now) (mT now) (mP now) (now 0) (now 28) (now 29) (now 30)) ∧ True) (fun uu t => BX D (W_Mfi y hMo a_now a_asd a_pst a_mrf a_txt a_olt a_ofr a_nbs a_best a_wys a_rwx a_shx a_bef now msts mbyt mord uu.1 uu.2.1 uu.2.2.1 uu.2.2.2.1 uu.2.2.2.2.1 uu.2.2.2.2.2.1 uu.2.2.2.2.2.2 mlt beg figm) (va_A (W_Mfi y hMo a_now a_asd a_pst a_mrf a_txt a_olt a_ofr a_nbs a_best a_wys a_rwx a_shx a_bef now msts mbyt mord best wys rwx alw bco alm abt mlt beg figm) sz) t) (va_A (W_Mfi y hMo a_now a_asd a_pst a_mrf a_txt a_olt a_ofr a_nbs a_best a_wys a_rwx a_shx a_bef now msts mbyt mord best wys rwx alw bco alm abt mlt beg figm) sz)) 0 0 (va_A (W_Mfi y hMo a_now a_asd a_pst a_mrf a_txt a_olt a_ofr a_nbs a_best a_wys a_rwx a_shx a_bef now msts mbyt mord best wys rwx alw bco alm abt mlt beg figm) sz) := by
  refine xm_i (by decide) (Nat.le_of_ble_eq_true rfl) (fun p e s m args below meth cX ls A Q E hr hnm hX hl hQ => ?_)
  have hl : lv_has ls 1 [(0, .ref hMo)] := hl
  have hq := H_M.q
  have hfr := H_M.fr
  have hli := H_M.li
  have hsh := H_M.sh
  refine xr_aload_n E hl 0 rfl dX6_others_0 rfl ?_
  refine xk_i (W2 := fun uu => (W_Mfi y hMo a_now a_asd a_pst a_mrf a_txt a_olt a_ofr a_nbs a_best a_wys a_rwx a_shx a_bef now msts mbyt mord uu.1 uu.2.1 uu.2.2.1 uu.2.2.2.1 uu.2.2.2.2.1 uu.2.2.2.2.2.1 uu.2.2.2.2.2.2 mlt beg figm)) E hX [0, 1, 2, 3, 4] rfl (xv_V (As := []) E hX hl (c_X6_bend l D y z _ hMo a_now a_asd a_pst a_mrf a_txt a_olt a_ofr a_nbs a_best a_wys a_rwx a_shx a_bef now msts mbyt mord best wys rwx alw bco alm abt mlt beg figm H_M) ml_X6_86 im_X6_bend se_X6_bend in_X6 co_X6_bend 0 (by decide) ⟨rfl, rfl⟩ ⟨Nat.le_of_ble_eq_true rfl, Nat.le_of_ble_eq_true rfl⟩ [0, 1, 2, 3, 4] rfl rfl 0 rfl rfl rfl rfl rfl (Nat.le_of_ble_eq_true rfl) dX6_others_1 ⟨Nat.le_refl _, Nat.le_refl _⟩) [0, 1, 2, 3, 4] 5 (fun _ => rfl) (fun _ => rfl) (by decide) (by decide) (fun r_1 uu H locs hw hX => ?_)
  obtain ⟨best_1, wys_1, rwx_1, alw_1, bco_1, alm_1, abt_1⟩ := uu
  have hX : XW D A s.heap (W_Mfi y hMo a_now a_asd a_pst a_mrf a_txt a_olt a_ofr a_nbs a_best a_wys a_rwx a_shx a_bef now msts mbyt mord best_1 wys_1 rwx_1 alw_1 bco_1 alm_1 abt_1 mlt beg figm) H locs := hX
  try dsimp only at hw
  obtain ⟨rfl, hp_1⟩ := hw
  refine xr_if_eqB (tgt := 14) E dX6_others_4 (by decide) (fun c_4 => ?_) (fun c_4 => ?_)
  · have c_4 := c_4
    refine xr_iconst E dX6_others_14 ?_
    exact xr_iret E hX hQ (best_1, wys_1, rwx_1, alw_1, bco_1, alm_1, abt_1) hr (by unfold xqOt; first | exact ⟨by rw [if_pos c_4, (hp_1 c_4).2.1], trivial⟩ | exact ⟨by rw [if_neg (by rw [c_4]; decide)], trivial⟩) rfl dX6_others_15
  · have c_4 := c_4
    refine xr_aload_n E hl 0 rfl dX6_others_7 rfl ?_
    refine xr_get E hX 0 rfl rfl ly_X6 14 (by decide) fl_X6_185 rfl dX6_others_8 ?_
    refine xr_goto (tgt := 15) E dX6_others_11 (by decide) ?_
    exact xr_iret E hX hQ (best_1, wys_1, rwx_1, alw_1, bco_1, alm_1, abt_1) hr (by unfold xqOt; first | exact ⟨by rw [if_pos c_4, (hp_1 c_4).2.1], trivial⟩ | exact ⟨by rw [if_neg (by rw [c_4]; decide)], trivial⟩) rfl dX6_others_15
def mPub (now : Int → Int) : Int → Int := if xMt (mI now) (mT now) (mP now) (now 0) (now 28) (now 29) (-1) = true then fillR now 16 (now 0) (fun k => xRow (mI now) (mT now) (mP now) (now 0) (now 28) (now 29) (now 30) (k - 16) + 8) else now
abbrev rm_X6_publishAll : Room := { frames := 5, cells := 0, slots := 0, locals := 125 }
set_option maxHeartbeats 4000000 in
set_option maxRecDepth 100000 in
theorem c_X6_publishAll (l : Launch) (D : va_G) (y : CY) (z sz : Nat) (hMo a_now a_asd a_pst a_mrf a_txt a_olt a_ofr a_nbs a_best a_wys a_rwx a_shx a_bef : Nat) (now : Int → Int) (msts : Int) (mbyt : Int) (mord : Int) (best : Int → Int) (wys : Int → Int) (rwx : Int → Int) (alw : Int) (bco : Int) (alm : Int) (abt : Int) (mlt : Int) (beg : Int) (figm : Int) (H_M : FM now) : Met l yX6_publishAll (Cond.code yX6_publishAll cX6_publishAll 2 (some .int) :: TW) rm_X6_publishAll (va_Pc [.ref hMo] (PX D y z (W_Mfi y hMo a_now a_asd a_pst a_mrf a_txt a_olt a_ofr a_nbs a_best a_wys a_rwx a_shx a_bef now msts mbyt mord best wys rwx alw bco alm abt mlt beg figm) sz)) (va_Qi (fun (r : Int32) (uu : (Int → Int) × (Int → Int) × (Int → Int) × (Int → Int) × (Int) × (Int) × (Int) × (Int)) => r = iI (xPr_r (mI now) (mT now) (mP now) (now 0) (now 28) (now 29)) ∧ uu.1 = mPub now) (fun uu t => BX D (W_Mfi y hMo a_now a_asd a_pst a_mrf a_txt a_olt a_ofr a_nbs a_best a_wys a_rwx a_shx a_bef uu.1 msts mbyt mord uu.2.1 uu.2.2.1 uu.2.2.2.1 uu.2.2.2.2.1 uu.2.2.2.2.2.1 uu.2.2.2.2.2.2.1 uu.2.2.2.2.2.2.2 mlt beg figm) (va_A (W_Mfi y hMo a_now a_asd a_pst a_mrf a_txt a_olt a_ofr a_nbs a_best a_wys a_rwx a_shx a_bef now msts mbyt mord best wys rwx alw bco alm abt mlt beg figm) sz) t) (va_A (W_Mfi y hMo a_now a_asd a_pst a_mrf a_txt a_olt a_ofr a_nbs a_best a_wys a_rwx a_shx a_bef now msts mbyt mord best wys rwx alw bco alm abt mlt beg figm) sz)) 0 0 (va_A (W_Mfi y hMo a_now a_asd a_pst a_mrf a_txt a_olt a_ofr a_nbs a_best a_wys a_rwx a_shx a_bef now msts mbyt mord best wys rwx alw bco alm abt mlt beg figm) sz) := by
  refine xm_i (by decide) (Nat.le_of_ble_eq_true rfl) (fun p e s m args below meth cX ls A Q E hr hnm hX hl hQ => ?_)
  have hl : lv_has ls 2 [(0, .ref hMo)] := hl
  have hq := H_M.q
  have hfr := H_M.fr
  have hli := H_M.li
  have hsh := H_M.sh
  refine xr_aload_n E hl 0 rfl dX6_publishAll_0 rfl ?_
  refine xk_i (W2 := fun uu => (W_Mfi y hMo a_now a_asd a_pst a_mrf a_txt a_olt a_ofr a_nbs a_best a_wys a_rwx a_shx a_bef now msts mbyt mord uu.1 uu.2.1 uu.2.2.1 uu.2.2.2.1 uu.2.2.2.2.1 uu.2.2.2.2.2.1 uu.2.2.2.2.2.2 mlt beg figm)) E hX [0, 1, 2, 3, 4] rfl (xv_V (As := []) E hX hl (c_X6_bend l D y z _ hMo a_now a_asd a_pst a_mrf a_txt a_olt a_ofr a_nbs a_best a_wys a_rwx a_shx a_bef now msts mbyt mord best wys rwx alw bco alm abt mlt beg figm H_M) ml_X6_86 im_X6_bend se_X6_bend in_X6 co_X6_bend 0 (by decide) ⟨rfl, rfl⟩ ⟨Nat.le_of_ble_eq_true rfl, Nat.le_of_ble_eq_true rfl⟩ [0, 1, 2, 3, 4] rfl rfl 0 rfl rfl rfl rfl rfl (Nat.le_of_ble_eq_true rfl) dX6_publishAll_1 ⟨Nat.le_refl _, Nat.le_refl _⟩) [0, 1, 2, 3, 4] 5 (fun _ => rfl) (fun _ => rfl) (by decide) (by decide) (fun r_1 uu H locs hw hX => ?_)
  obtain ⟨best_1, wys_1, rwx_1, alw_1, bco_1, alm_1, abt_1⟩ := uu
  have hX : XW D A s.heap (W_Mfi y hMo a_now a_asd a_pst a_mrf a_txt a_olt a_ofr a_nbs a_best a_wys a_rwx a_shx a_bef now msts mbyt mord best_1 wys_1 rwx_1 alw_1 bco_1 alm_1 abt_1 mlt beg figm) H locs := hX
  try dsimp only at hw
  obtain ⟨rfl, hp_1⟩ := hw
  refine xr_if_neB (tgt := 10) E dX6_publishAll_4 (by decide) (fun c_4 => ?_) (fun c_4 => ?_)
  · have c_4 := c_4
    refine xr_iconst E dX6_publishAll_10 ?_
    refine xr_istore_n (lv' := [(1, .int (iI 0)), (0, .ref hMo)]) E hl dX6_publishAll_11 rfl (by decide) rfl (fun ls hl => ?_)
    have L_12_2 : ∀ (nmu : Nat) (n : Nat) (t : Int) (n1 : Int → Int), 12 - n < nmu → (t = n ∧ t ≤ now 0) → (n1 = fillR now 16 t (fun k => xRow (mI now) (mT now) (mP now) (now 0) (now 28) (now 29) (now 30) (k - 16) + 8)) → ∀ (H : Heap) (locs : List Loc) (ls : Array Slot), XW D A s.heap (W_Mfi y hMo a_now a_asd a_pst a_mrf a_txt a_olt a_ofr a_nbs a_best a_wys a_rwx a_shx a_bef n1 msts mbyt mord best_1 wys_1 rwx_1 alw_1 bco_1 alm_1 abt_1 mlt beg figm) H locs → lv_has ls 2 [(0, .ref hMo), (1, .int (iI t))] → W p l e rm_X6_publishAll s m args below meth cX H locs 0 0 Q (F0 m 12 ls []) := by
      intro nmu
      induction nmu with
      | zero =>
        intro n t n1 hmu
        exact absurd hmu (Nat.not_lt_zero _)
      | succ nmu ih =>
        intro n t n1 hmu ht hn1 H locs ls hX hl
        have ih_12_2 := ih
        clear ih
        have e0 : n1 0 = now 0 := by rw [hn1]; exact fillR_out (by omega)
        refine xr_iload_n E hl 1 rfl dX6_publishAll_12 rfl ?_
        refine xr_aload_n E hl 0 rfl dX6_publishAll_13 rfl ?_
        refine xr_get E hX 0 rfl rfl ly_X6 0 (by decide) fl_X6_7 rfl dX6_publishAll_14 ?_
        refine xr_iconst E dX6_publishAll_17 ?_
        refine xr_iald E hX 1 rfl (by omega) (by omega) (by decide) dX6_publishAll_18 ?_
        refine xr_icmp_ge (tgt := 46) E dX6_publishAll_19 (by decide) ⟨by omega, by omega⟩ ⟨by omega, by omega⟩ (fun c_19 => ?_) (fun c_19 => ?_)
        · have c_19 := c_19
          refine xr_aload_n E hl 0 rfl dX6_publishAll_46 rfl ?_
          refine xr_get E hX 0 rfl rfl ly_X6 0 (by decide) fl_X6_7 rfl dX6_publishAll_47 ?_
          refine xr_iconst E dX6_publishAll_50 ?_
          refine xr_iald E hX 1 rfl (by omega) (by omega) (by decide) dX6_publishAll_51 ?_
          exact xr_iret E hX hQ (n1, best_1, wys_1, rwx_1, alw_1, bco_1, alm_1, abt_1) hr ⟨by unfold xPr_r; rw [if_pos c_4, e0], by unfold mPub; rw [if_pos c_4, hn1, show t = now 0 by omega]⟩ rfl dX6_publishAll_52
        · have c_19 := c_19
          refine xr_aload_n E hl 0 rfl dX6_publishAll_22 rfl ?_
          refine xr_get E hX 0 rfl rfl ly_X6 0 (by decide) fl_X6_7 rfl dX6_publishAll_23 ?_
          refine xr_bipush E dX6_publishAll_26 (by decide) ?_
          refine xr_iload_n E hl 1 rfl dX6_publishAll_28 rfl ?_
          refine xr_iadd E dX6_publishAll_29 ?_
          refine xr_aload_n E hl 0 rfl dX6_publishAll_30 rfl ?_
          refine xr_get E hX 0 rfl rfl ly_X6 13 (by decide) fl_X6_41 rfl dX6_publishAll_31 ?_
          refine xr_iload_n E hl 1 rfl dX6_publishAll_34 rfl ?_
          refine xr_iald E hX 4 rfl (by omega) (by omega) (by decide) dX6_publishAll_35 ?_
          refine xr_bipush E dX6_publishAll_36 (by decide) ?_
          refine xr_iadd E dX6_publishAll_38 ?_
          refine xr_iast (W1 := (W_Mfi y hMo a_now a_asd a_pst a_mrf a_txt a_olt a_ofr a_nbs a_best a_wys a_rwx a_shx a_bef (up n1 (16 + t) ((rwx_1 t) + 8)) msts mbyt mord best_1 wys_1 rwx_1 alw_1 bco_1 alm_1 abt_1 mlt beg figm)) E hX 1 rfl (by omega) (by omega) (by decide) rfl dX6_publishAll_39 (fun H locs hX => ?_)
          refine xr_iinc (k := 1) (lv' := [(1, .int (iI (t + 1))), (0, .ref hMo)]) E hl rfl dX6_publishAll_40 (by decide) rfl (fun ls hl => ?_)
          refine xr_goto (tgt := 12) E dX6_publishAll_43 (by decide) ?_
          exact ih_12_2 (n + 1) (t + 1) (up n1 (16 + t) ((rwx_1 t) + 8)) (by omega) (by omega) (by rw [hn1]; exact fillR_up _ _ _ _ _ (by omega) (by rw [(hp_1 c_4).2.2 t (by omega) (by omega), show 16 + t - 16 = t by omega])) _ _ _ hX (lv_sub hl [1, 0] rfl)
    exact L_12_2 _ 0 0 now (Nat.lt_succ_self _) (by omega) (fillR_0 _ _ _).symm _ _ _ hX (lv_sub hl [1, 0] rfl)
  · have c_4 := c_4
    refine xr_bipush E dX6_publishAll_7 (by decide) ?_
    exact xr_iret E hX hQ (now, best_1, wys_1, rwx_1, alw_1, bco_1, alm_1, abt_1) hr ⟨by unfold xPr_r; rw [if_neg (by rw [c_4]; decide)], by unfold mPub; rw [if_neg (by rw [c_4]; decide)]⟩ rfl dX6_publishAll_9
abbrev rm_X6_publishes : Room := { frames := 6, cells := 0, slots := 0, locals := 146 }
set_option maxHeartbeats 4000000 in
set_option maxRecDepth 100000 in
theorem c_X6_publishes (l : Launch) (D : va_G) (y : CY) (z sz : Nat) (hMo a_now a_asd a_pst a_mrf a_txt a_olt a_ofr a_nbs a_best a_wys a_rwx a_shx a_bef : Nat) (now : Int → Int) (asd : Int → Int) (pst : Int → Int) (msts : Int) (mrf : Int → Int) (mbyt : Int) (mord : Int) (best : Int → Int) (wys : Int → Int) (rwx : Int → Int) (alw : Int) (bco : Int) (alm : Int) (abt : Int) (mlt : Int) (beg : Int) (figm : Int) (H_M : FM now) (hms : 0 ≤ msts ∧ msts ≤ 5) : Met l yX6_publishes (Cond.code yX6_publishes cX6_publishes 1 (some .int) :: TW) rm_X6_publishes (va_Pc [.ref hMo] (PX D y z (W_Mpu y hMo a_now a_asd a_pst a_mrf a_txt a_olt a_ofr a_nbs a_best a_wys a_rwx a_shx a_bef now asd pst msts mrf mbyt mord best wys rwx alw bco alm abt mlt beg figm) sz)) (va_Qi (fun (r : Int32) (uu : (Int → Int) × (Int → Int) × (Int → Int) × (Int → Int) × (Int) × (Int → Int) × (Int → Int) × (Int → Int) × (Int) × (Int) × (Int) × (Int)) => r = iI (xPr_r (mI now) (mT now) (mP now) (now 0) (now 28) (now 29)) ∧ uu.1 = cpR asd 0 now 0 ∧ uu.2.1 = mPub now ∧ uu.2.2.1 = mRf mrf (xPr_r (mI now) (mT now) (mP now) (now 0) (now 28) (now 29)) ∧ uu.2.2.2.1 = mPast pst (cpR asd 0 now 0) msts (xPr_r (mI now) (mT now) (mP now) (now 0) (now 28) (now 29)) ∧ uu.2.2.2.2.1 = mSts msts (xPr_r (mI now) (mT now) (mP now) (now 0) (now 28) (now 29))) (fun uu t => BX D (W_Mpu y hMo a_now a_asd a_pst a_mrf a_txt a_olt a_ofr a_nbs a_best a_wys a_rwx a_shx a_bef uu.2.1 uu.1 uu.2.2.2.1 uu.2.2.2.2.1 uu.2.2.1 mbyt mord uu.2.2.2.2.2.1 uu.2.2.2.2.2.2.1 uu.2.2.2.2.2.2.2.1 uu.2.2.2.2.2.2.2.2.1 uu.2.2.2.2.2.2.2.2.2.1 uu.2.2.2.2.2.2.2.2.2.2.1 uu.2.2.2.2.2.2.2.2.2.2.2 mlt beg figm) (va_A (W_Mpu y hMo a_now a_asd a_pst a_mrf a_txt a_olt a_ofr a_nbs a_best a_wys a_rwx a_shx a_bef now asd pst msts mrf mbyt mord best wys rwx alw bco alm abt mlt beg figm) sz) t) (va_A (W_Mpu y hMo a_now a_asd a_pst a_mrf a_txt a_olt a_ofr a_nbs a_best a_wys a_rwx a_shx a_bef now asd pst msts mrf mbyt mord best wys rwx alw bco alm abt mlt beg figm) sz)) 0 0 (va_A (W_Mpu y hMo a_now a_asd a_pst a_mrf a_txt a_olt a_ofr a_nbs a_best a_wys a_rwx a_shx a_bef now asd pst msts mrf mbyt mord best wys rwx alw bco alm abt mlt beg figm) sz) := by
  refine xm_i (by decide) (Nat.le_of_ble_eq_true rfl) (fun p e s m args below meth cX ls A Q E hr hnm hX hl hQ => ?_)
  have hl : lv_has ls 1 [(0, .ref hMo)] := hl
  have hq := H_M.q
  have hfr := H_M.fr
  have hli := H_M.li
  have hsh := H_M.sh
  have hrb : -4 ≤ (xPr_r (mI now) (mT now) (mP now) (now 0) (now 28) (now 29)) ∧ (xPr_r (mI now) (mT now) (mP now) (now 0) (now 28) (now 29)) ≤ 1000000 := by unfold xPr_r; split <;> omega
  refine xr_aload_n E hl 0 rfl dX6_publishes_0 rfl ?_
  refine xk_v (W2 := fun uu => (W_Mpu y hMo a_now a_asd a_pst a_mrf a_txt a_olt a_ofr a_nbs a_best a_wys a_rwx a_shx a_bef now uu pst msts mrf mbyt mord best wys rwx alw bco alm abt mlt beg figm)) E hX [0, 1, 2] rfl (xv_V (As := []) E hX hl (c_X6_save l D y z _ hMo a_now a_asd a_pst a_mrf a_txt a_olt a_ofr a_nbs a_best a_wys a_rwx a_shx a_bef now asd msts mbyt mord alw bco alm abt mlt beg figm) ml_X6_90 im_X6_save se_X6_save in_X6 co_X6_save 0 (by decide) ⟨rfl, rfl⟩ ⟨Nat.le_of_ble_eq_true rfl, Nat.le_of_ble_eq_true rfl⟩ [0, 1, 2] rfl rfl 0 rfl rfl rfl rfl rfl (Nat.le_of_ble_eq_true rfl) dX6_publishes_1 ⟨Nat.le_refl _, Nat.le_refl _⟩) [0, 1, 2, 6, 7, 8, 9, 10] 3 (fun _ => rfl) (fun _ => rfl) (by decide) (by decide) (fun uu H locs hw hX => ?_)
  subst hw
  have hX : XW D A s.heap (W_Mpu y hMo a_now a_asd a_pst a_mrf a_txt a_olt a_ofr a_nbs a_best a_wys a_rwx a_shx a_bef now (cpR asd 0 now 0) pst msts mrf mbyt mord best wys rwx alw bco alm abt mlt beg figm) H locs := hX
  refine xr_aload_n E hl 0 rfl dX6_publishes_4 rfl ?_
  refine xr_aload_n E hl 0 rfl dX6_publishes_5 rfl ?_
  refine xk_i (W2 := fun uu => (W_Mpu y hMo a_now a_asd a_pst a_mrf a_txt a_olt a_ofr a_nbs a_best a_wys a_rwx a_shx a_bef uu.1 (cpR asd 0 now 0) pst msts mrf mbyt mord uu.2.1 uu.2.2.1 uu.2.2.2.1 uu.2.2.2.2.1 uu.2.2.2.2.2.1 uu.2.2.2.2.2.2.1 uu.2.2.2.2.2.2.2 mlt beg figm)) E hX [0, 1, 5, 6, 7] rfl (xv_V (As := []) E hX hl (c_X6_publishAll l D y z _ hMo a_now a_asd a_pst a_mrf a_txt a_olt a_ofr a_nbs a_best a_wys a_rwx a_shx a_bef now msts mbyt mord best wys rwx alw bco alm abt mlt beg figm H_M) ml_X6_118 im_X6_publishAll se_X6_publishAll in_X6 co_X6_publishAll 0 (by decide) ⟨rfl, rfl⟩ ⟨Nat.le_of_ble_eq_true rfl, Nat.le_of_ble_eq_true rfl⟩ [0, 1, 5, 6, 7] rfl rfl 0 rfl rfl rfl rfl rfl (Nat.le_of_ble_eq_true rfl) dX6_publishes_6 ⟨Nat.le_refl _, Nat.le_refl _⟩) [0, 1, 7, 8, 9, 2, 3, 4] 5 (fun _ => rfl) (fun _ => rfl) (by decide) (by decide) (fun r_6 uu H locs hw hX => ?_)
  obtain ⟨now_6, best_6, wys_6, rwx_6, alw_6, bco_6, alm_6, abt_6⟩ := uu
  have hX : XW D A s.heap (W_Mpu y hMo a_now a_asd a_pst a_mrf a_txt a_olt a_ofr a_nbs a_best a_wys a_rwx a_shx a_bef now_6 (cpR asd 0 now 0) pst msts mrf mbyt mord best_6 wys_6 rwx_6 alw_6 bco_6 alm_6 abt_6 mlt beg figm) H locs := hX
  try dsimp only at hw
  obtain ⟨rfl, hp_6⟩ := hw
  refine xk_i (W2 := fun uu => (W_Mpu y hMo a_now a_asd a_pst a_mrf a_txt a_olt a_ofr a_nbs a_best a_wys a_rwx a_shx a_bef now_6 (cpR asd 0 now 0) uu.2.1 uu.2.2 uu.1 mbyt mord best_6 wys_6 rwx_6 alw_6 bco_6 alm_6 abt_6 mlt beg figm)) E hX [0, 2, 3, 4] rfl (xv_V (As := [.int (iI (xPr_r (mI now) (mT now) (mP now) (now 0) (now 28) (now 29)))]) E hX hl (c_X6_finish l D y z _ hMo a_now a_asd a_pst a_mrf a_txt a_olt a_ofr a_nbs a_best a_wys a_rwx a_shx a_bef (cpR asd 0 now 0) pst msts mrf mbyt mord alw_6 bco_6 alm_6 abt_6 mlt beg figm (xPr_r (mI now) (mT now) (mP now) (now 0) (now 28) (now 29)) (by omega) (by omega)) ml_X6_96 im_X6_finish se_X6_finish in_X6 co_X6_finish 1 (by decide) ⟨rfl, rfl⟩ ⟨Nat.le_of_ble_eq_true rfl, Nat.le_of_ble_eq_true rfl⟩ [0, 2, 3, 4] rfl rfl 0 rfl rfl rfl rfl rfl (Nat.le_of_ble_eq_true rfl) dX6_publishes_9 ⟨Nat.le_refl _, Nat.le_refl _⟩) [0, 5, 1, 2, 3, 9, 10, 11] 4 (fun _ => rfl) (fun _ => rfl) (by decide) (by decide) (fun r_9 uu H locs hw hX => ?_)
  obtain ⟨rfl, rfl⟩ := hw
  have hX : XW D A s.heap (W_Mpu y hMo a_now a_asd a_pst a_mrf a_txt a_olt a_ofr a_nbs a_best a_wys a_rwx a_shx a_bef now_6 (cpR asd 0 now 0) (mPast pst (cpR asd 0 now 0) msts (xPr_r (mI now) (mT now) (mP now) (now 0) (now 28) (now 29))) (mSts msts (xPr_r (mI now) (mT now) (mP now) (now 0) (now 28) (now 29))) (mRf mrf (xPr_r (mI now) (mT now) (mP now) (now 0) (now 28) (now 29))) mbyt mord best_6 wys_6 rwx_6 alw_6 bco_6 alm_6 abt_6 mlt beg figm) H locs := hX
  exact xr_iret E hX hQ (cpR asd 0 now 0, now_6, mRf mrf (xPr_r (mI now) (mT now) (mP now) (now 0) (now 28) (now 29)), mPast pst (cpR asd 0 now 0) msts (xPr_r (mI now) (mT now) (mP now) (now 0) (now 28) (now 29)), mSts msts (xPr_r (mI now) (mT now) (mP now) (now 0) (now 28) (now 29)), best_6, wys_6, rwx_6, alw_6, bco_6, alm_6, abt_6) hr ⟨rfl, rfl, hp_6, rfl, rfl, rfl⟩ rfl dX6_publishes_12
