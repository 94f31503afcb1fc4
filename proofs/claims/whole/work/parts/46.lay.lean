/-! the reference: a spot is laid -/
abbrev W_Ml (y : CY) (hMo a_now a_asd a_pst a_mrf a_txt a_olt a_ofr a_nbs a_best a_wys a_rwx a_shx a_bef : Nat) (now : Int → Int) (msts : Int) (mbyt : Int) (mord : Int) (best : Int → Int) (wys : Int → Int) (alw : Int) (bco : Int) (alm : Int) (abt : Int) (mlt : Int) (beg : Int) (figm : Int) : va_W := [(hMo, .inr (6, [.ref a_now, .ref a_asd, .ref a_pst, .int (iI msts), .ref a_mrf, .ref a_txt, .int (iI mbyt), .ref a_olt, .ref a_ofr, .ref a_nbs, .int (iI mord), .ref a_best, .ref a_wys, .ref a_rwx, .int (iI alw), .long (lI bco), .int (iI alm), .int (iI abt), .ref a_shx, .int (iI mlt), .int (iI beg), .int (iI figm), .ref a_bef])), (a_now, .inl (y.1, 31, .inl (ia now))), (a_best, .inl (y.2.1, 13260, .inr (.inl (la best)))), (a_wys, .inl (y.1, 13260, .inl (ia wys)))]
abbrev rm_X6_isBound : Room := { frames := 0, cells := 0, slots := 0, locals := 0 }
set_option maxHeartbeats 4000000 in
set_option maxRecDepth 100000 in
theorem c_X6_isBound (l : Launch) (D : va_G) (y : CY) (z sz : Nat) (hMo a_now a_asd a_pst a_mrf a_txt a_olt a_ofr a_nbs a_best a_wys a_rwx a_shx a_bef : Nat) (now : Int → Int) (msts : Int) (mbyt : Int) (mord : Int) (alw : Int) (bco : Int) (alm : Int) (abt : Int) (mlt : Int) (beg : Int) (figm : Int) (t : Int) (H_M : FM now) (hab : -1 ≤ abt ∧ abt ≤ 2) (ht : 0 ≤ t ∧ t < 12) : Met l yX6_isBound (Cond.code yX6_isBound cX6_isBound 3 (some .boolean) :: TW) rm_X6_isBound (va_Pc [.ref hMo, .int (iI t)] (PX D y z (W_Mn y hMo a_now a_asd a_pst a_mrf a_txt a_olt a_ofr a_nbs a_best a_wys a_rwx a_shx a_bef now msts mbyt mord alw bco alm abt mlt beg figm) sz)) (va_Qi (fun (r : Int32) (uu : Unit) => r = bB (xB (mT now) abt (t / 4))) (fun uu t => BX D (W_Mn y hMo a_now a_asd a_pst a_mrf a_txt a_olt a_ofr a_nbs a_best a_wys a_rwx a_shx a_bef now msts mbyt mord alw bco alm abt mlt beg figm) (va_A (W_Mn y hMo a_now a_asd a_pst a_mrf a_txt a_olt a_ofr a_nbs a_best a_wys a_rwx a_shx a_bef now msts mbyt mord alw bco alm abt mlt beg figm) sz) t) (va_A (W_Mn y hMo a_now a_asd a_pst a_mrf a_txt a_olt a_ofr a_nbs a_best a_wys a_rwx a_shx a_bef now msts mbyt mord alw bco alm abt mlt beg figm) sz)) 0 0 (va_A (W_Mn y hMo a_now a_asd a_pst a_mrf a_txt a_olt a_ofr a_nbs a_best a_wys a_rwx a_shx a_bef now msts mbyt mord alw bco alm abt mlt beg figm) sz) := by
  refine xm_i (by decide) (Nat.le_of_ble_eq_true rfl) (fun p e s m args below meth cX ls A Q E hr hnm hX hl hQ => ?_)
  have hl : lv_has ls 3 [(0, .ref hMo), (1, .int (iI t))] := hl
  have htt := H_M.tot (v := t / 4) (by omega) (by omega)
  have emt : mT now (t / 4) = now (13 + t / 4) := rfl
  refine xr_iload_n E hl 1 rfl dX6_isBound_0 rfl ?_
  refine xr_iconst E dX6_isBound_1 ?_
  refine xr_idiv E dX6_isBound_2 ⟨by omega, by omega⟩ (by decide) (by omega) (by omega) ?_
  refine xr_istore_n (lv' := [(2, .int (iI (t / 4))), (0, .ref hMo), (1, .int (iI t))]) E hl dX6_isBound_3 rfl (by decide) rfl (fun ls hl => ?_)
  refine xr_aload_n E hl 1 rfl dX6_isBound_4 rfl ?_
  refine xr_get E hX 0 rfl rfl ly_X6 0 (by decide) fl_X6_7 rfl dX6_isBound_5 ?_
  refine xr_bipush E dX6_isBound_8 (by decide) ?_
  refine xr_iload_n E hl 0 rfl dX6_isBound_10 rfl ?_
  refine xr_iadd E dX6_isBound_11 ?_
  refine xr_iald E hX 1 rfl (by omega) (by omega) (by decide) dX6_isBound_12 ?_
  refine xr_iconst E dX6_isBound_13 ?_
  refine xr_icmp_eq (tgt := 29) E dX6_isBound_14 (by decide) ⟨by omega, by omega⟩ (by decide) (fun c_14 => ?_) (fun c_14 => ?_)
  · have c_14 := c_14
    refine xr_iconst E dX6_isBound_29 ?_
    exact xr_zret E hX hQ () hr (iI_bB0 (b := false) rfl) (by first | exact iI_bB1 (decide_eq_true (by omega)) | exact iI_bB0 (decide_eq_false (by omega))) rfl dX6_isBound_30
  · have c_14 := c_14
    refine xr_iload_n E hl 0 rfl dX6_isBound_17 rfl ?_
    refine xr_aload_n E hl 1 rfl dX6_isBound_18 rfl ?_
    refine xr_get E hX 0 rfl rfl ly_X6 17 (by decide) fl_X6_141 rfl dX6_isBound_19 ?_
    refine xr_icmp_eq (tgt := 29) E dX6_isBound_22 (by decide) ⟨by omega, by omega⟩ ⟨by omega, by omega⟩ (fun c_22 => ?_) (fun c_22 => ?_)
    · have c_22 := c_22
      refine xr_iconst E dX6_isBound_29 ?_
      exact xr_zret E hX hQ () hr (iI_bB0 (b := false) rfl) (by first | exact iI_bB1 (decide_eq_true (by omega)) | exact iI_bB0 (decide_eq_false (by omega))) rfl dX6_isBound_30
    · have c_22 := c_22
      refine xr_iconst E dX6_isBound_25 ?_
      refine xr_goto (tgt := 30) E dX6_isBound_26 (by decide) ?_
      exact xr_zret E hX hQ () hr (iI_bB1 (b := true) rfl) (by first | exact iI_bB1 (decide_eq_true (by omega)) | exact iI_bB0 (decide_eq_false (by omega))) rfl dX6_isBound_30
abbrev rm_X6_may : Room := { frames := 0, cells := 0, slots := 0, locals := 0 }
set_option maxHeartbeats 4000000 in
set_option maxRecDepth 100000 in
theorem c_X6_may (l : Launch) (D : va_G) (y : CY) (z sz : Nat) (hMo a_now a_asd a_pst a_mrf a_txt a_olt a_ofr a_nbs a_best a_wys a_rwx a_shx a_bef : Nat) (now : Int → Int) (msts : Int) (mbyt : Int) (mord : Int) (alw : Int) (bco : Int) (alm : Int) (abt : Int) (mlt : Int) (beg : Int) (figm : Int) (t : Int) (d : Int) (H_M : FM now) (hal : -1 ≤ alm ∧ alm ≤ 24) (ht : 0 ≤ t ∧ t < 12) (hd : -8 ≤ d ∧ d ≤ 8) : Met l yX6_may (Cond.code yX6_may cX6_may 6 (some .boolean) :: TW) rm_X6_may (va_Pc [.ref hMo, .int (iI t), .int (iI d)] (PX D y z (W_Mn y hMo a_now a_asd a_pst a_mrf a_txt a_olt a_ofr a_nbs a_best a_wys a_rwx a_shx a_bef now msts mbyt mord alw bco alm abt mlt beg figm) sz)) (va_Qi (fun (r : Int32) (uu : Unit) => r = bB (decide (loQ (mI now) (mP now) (now 28) alm t ≤ d ∧ d ≤ hiQ (mI now) (mP now) (now 28) alm t))) (fun uu t => BX D (W_Mn y hMo a_now a_asd a_pst a_mrf a_txt a_olt a_ofr a_nbs a_best a_wys a_rwx a_shx a_bef now msts mbyt mord alw bco alm abt mlt beg figm) (va_A (W_Mn y hMo a_now a_asd a_pst a_mrf a_txt a_olt a_ofr a_nbs a_best a_wys a_rwx a_shx a_bef now msts mbyt mord alw bco alm abt mlt beg figm) sz) t) (va_A (W_Mn y hMo a_now a_asd a_pst a_mrf a_txt a_olt a_ofr a_nbs a_best a_wys a_rwx a_shx a_bef now msts mbyt mord alw bco alm abt mlt beg figm) sz)) 0 0 (va_A (W_Mn y hMo a_now a_asd a_pst a_mrf a_txt a_olt a_ofr a_nbs a_best a_wys a_rwx a_shx a_bef now msts mbyt mord alw bco alm abt mlt beg figm) sz) := by
  refine xm_i (by decide) (Nat.le_of_ble_eq_true rfl) (fun p e s m args below meth cX ls A Q E hr hnm hX hl hQ => ?_)
  have hl : lv_has ls 6 [(0, .ref hMo), (1, .int (iI t)), (2, .int (iI d))] := hl
  have hq := H_M.q
  have hfr := H_M.fr
  have hli := H_M.li
  have hsh := H_M.sh
  have hpp := H_M.pri ht.1 ht.2
  have hii := H_M.ind ht.1 ht.2
  have hb1 := bAnd1 (bShr (now 28) t)
  refine xr_aload_n E hl 0 rfl dX6_may_0 rfl ?_
  refine xr_get E hX 0 rfl rfl ly_X6 0 (by decide) fl_X6_7 rfl dX6_may_1 ?_
  refine xr_iconst E dX6_may_4 ?_
  refine xr_iload_n E hl 1 rfl dX6_may_5 rfl ?_
  refine xr_iadd E dX6_may_6 ?_
  refine xr_iald E hX 1 rfl (by omega) (by omega) (by decide) dX6_may_7 ?_
  refine xr_iload_n E hl 2 rfl dX6_may_8 rfl ?_
  refine xr_iadd E dX6_may_9 ?_
  refine xr_istore_n (lv' := [(3, .int (iI ((now (1 + t)) + d))), (0, .ref hMo), (1, .int (iI t)), (2, .int (iI d))]) E hl dX6_may_10 rfl (by decide) rfl (fun ls hl => ?_)
  refine xr_aload_n E hl 1 rfl dX6_may_11 rfl ?_
  refine xr_get E hX 0 rfl rfl ly_X6 0 (by decide) fl_X6_7 rfl dX6_may_12 ?_
  refine xr_bipush E dX6_may_15 (by decide) ?_
  refine xr_iload_n E hl 2 rfl dX6_may_17 rfl ?_
  refine xr_iadd E dX6_may_18 ?_
  refine xr_iald E hX 1 rfl (by omega) (by omega) (by decide) dX6_may_19 ?_
  refine xr_istore (lv' := [(4, .int (iI (now (16 + t)))), (3, .int (iI ((now (1 + t)) + d))), (0, .ref hMo), (1, .int (iI t)), (2, .int (iI d))]) E hl dX6_may_20 (by decide) rfl (fun ls hl => ?_)
  have L_60_1 : ∀ (off : Int), (off = if mP now t = -1 then 0 else if mP now t < mI now t + d + 8 then mI now t + d + 8 - mP now t else mP now t - (mI now t + d) - 8) → (0 ≤ off ∧ off ≤ 1000) → ∀ (H : Heap) (locs : List Loc) (ls : Array Slot), XW D A s.heap (W_Mn y hMo a_now a_asd a_pst a_mrf a_txt a_olt a_ofr a_nbs a_best a_wys a_rwx a_shx a_bef now msts mbyt mord alw bco alm abt mlt beg figm) H locs → lv_has ls 6 [(0, .ref hMo), (1, .int (iI t)), (2, .int (iI d)), (3, .int (iI ((now (1 + t)) + d))), (4, .int (iI (now (16 + t)))), (5, .int (iI off))] → W p l e rm_X6_may s m args below meth cX H locs 0 0 Q (F0 m 60 ls []) := by
    intro off ho hof H locs ls hX hl
    have hm := may_iff H_M hal ht.1 ht.2 hd ho
    refine xr_aload_n E hl 0 rfl dX6_may_60 rfl ?_
    refine xr_get E hX 0 rfl rfl ly_X6 0 (by decide) fl_X6_7 rfl dX6_may_61 ?_
    refine xr_bipush E dX6_may_64 (by decide) ?_
    refine xr_iald E hX 1 rfl (by omega) (by omega) (by decide) dX6_may_66 ?_
    refine xr_iload_n E hl 1 rfl dX6_may_67 rfl ?_
    refine xr_ishr E dX6_may_68 ?_
    refine xr_iconst E dX6_may_69 ?_
    refine xr_iand E dX6_may_70 ?_
    refine xr_iconst E dX6_may_71 ?_
    refine xr_icmp_ne (tgt := 80) E dX6_may_72 (by decide) ⟨by omega, by omega⟩ (by decide) (fun c_72 => ?_) (fun c_72 => ?_)
    · have c_72 := c_72
      refine xr_aload_n E hl 0 rfl dX6_may_80 rfl ?_
      refine xr_get E hX 0 rfl rfl ly_X6 16 (by decide) fl_X6_144 rfl dX6_may_81 ?_
      refine xr_iconst E dX6_may_84 ?_
      refine xr_icmp_eq (tgt := 97) E dX6_may_85 (by decide) ⟨by omega, by omega⟩ (by decide) (fun c_85 => ?_) (fun c_85 => ?_)
      · have c_85 := c_85
        refine xr_iconst E dX6_may_97 ?_
        refine xr_goto (tgt := 102) E dX6_may_98 (by decide) ?_
        exact xr_zret E hX hQ () hr (iI_bB1 (b := true) rfl) (by first | exact iI_bB1 (decide_eq_true (hm.mp ⟨by omega, by omega⟩)) | exact iI_bB0 (decide_eq_false (fun h => absurd (hm.mpr h) (by omega)))) rfl dX6_may_102
      · have c_85 := c_85
        refine xr_iload E hl 5 rfl dX6_may_88 ?_
        refine xr_aload_n E hl 0 rfl dX6_may_90 rfl ?_
        refine xr_get E hX 0 rfl rfl ly_X6 16 (by decide) fl_X6_144 rfl dX6_may_91 ?_
        refine xr_icmp_gt (tgt := 101) E dX6_may_94 (by decide) ⟨by omega, by omega⟩ ⟨by omega, by omega⟩ (fun c_94 => ?_) (fun c_94 => ?_)
        · have c_94 := c_94
          refine xr_iconst E dX6_may_101 ?_
          exact xr_zret E hX hQ () hr (iI_bB0 (b := false) rfl) (by first | exact iI_bB1 (decide_eq_true (hm.mp ⟨by omega, by omega⟩)) | exact iI_bB0 (decide_eq_false (fun h => absurd (hm.mpr h) (by omega)))) rfl dX6_may_102
        · have c_94 := c_94
          refine xr_iconst E dX6_may_97 ?_
          refine xr_goto (tgt := 102) E dX6_may_98 (by decide) ?_
          exact xr_zret E hX hQ () hr (iI_bB1 (b := true) rfl) (by first | exact iI_bB1 (decide_eq_true (hm.mp ⟨by omega, by omega⟩)) | exact iI_bB0 (decide_eq_false (fun h => absurd (hm.mpr h) (by omega)))) rfl dX6_may_102
    · have c_72 := c_72
      refine xr_iload E hl 5 rfl dX6_may_75 ?_
      refine xr_if_ne (tgt := 101) E dX6_may_77 (by decide) ⟨by omega, by omega⟩ (fun c_77 => ?_) (fun c_77 => ?_)
      · have c_77 := c_77
        refine xr_iconst E dX6_may_101 ?_
        exact xr_zret E hX hQ () hr (iI_bB0 (b := false) rfl) (by first | exact iI_bB1 (decide_eq_true (hm.mp ⟨by omega, by omega⟩)) | exact iI_bB0 (decide_eq_false (fun h => absurd (hm.mpr h) (by omega)))) rfl dX6_may_102
      · have c_77 := c_77
        refine xr_aload_n E hl 0 rfl dX6_may_80 rfl ?_
        refine xr_get E hX 0 rfl rfl ly_X6 16 (by decide) fl_X6_144 rfl dX6_may_81 ?_
        refine xr_iconst E dX6_may_84 ?_
        refine xr_icmp_eq (tgt := 97) E dX6_may_85 (by decide) ⟨by omega, by omega⟩ (by decide) (fun c_85 => ?_) (fun c_85 => ?_)
        · have c_85 := c_85
          refine xr_iconst E dX6_may_97 ?_
          refine xr_goto (tgt := 102) E dX6_may_98 (by decide) ?_
          exact xr_zret E hX hQ () hr (iI_bB1 (b := true) rfl) (by first | exact iI_bB1 (decide_eq_true (hm.mp ⟨by omega, by omega⟩)) | exact iI_bB0 (decide_eq_false (fun h => absurd (hm.mpr h) (by omega)))) rfl dX6_may_102
        · have c_85 := c_85
          refine xr_iload E hl 5 rfl dX6_may_88 ?_
          refine xr_aload_n E hl 0 rfl dX6_may_90 rfl ?_
          refine xr_get E hX 0 rfl rfl ly_X6 16 (by decide) fl_X6_144 rfl dX6_may_91 ?_
          refine xr_icmp_gt (tgt := 101) E dX6_may_94 (by decide) ⟨by omega, by omega⟩ ⟨by omega, by omega⟩ (fun c_94 => ?_) (fun c_94 => ?_)
          · have c_94 := c_94
            refine xr_iconst E dX6_may_101 ?_
            exact xr_zret E hX hQ () hr (iI_bB0 (b := false) rfl) (by first | exact iI_bB1 (decide_eq_true (hm.mp ⟨by omega, by omega⟩)) | exact iI_bB0 (decide_eq_false (fun h => absurd (hm.mpr h) (by omega)))) rfl dX6_may_102
          · have c_94 := c_94
            refine xr_iconst E dX6_may_97 ?_
            refine xr_goto (tgt := 102) E dX6_may_98 (by decide) ?_
            exact xr_zret E hX hQ () hr (iI_bB1 (b := true) rfl) (by first | exact iI_bB1 (decide_eq_true (hm.mp ⟨by omega, by omega⟩)) | exact iI_bB0 (decide_eq_false (fun h => absurd (hm.mpr h) (by omega)))) rfl dX6_may_102
  refine xr_iload E hl 0 rfl dX6_may_22 ?_
  refine xr_iconst E dX6_may_24 ?_
  refine xr_icmp_ne (tgt := 32) E dX6_may_25 (by decide) ⟨by omega, by omega⟩ (by decide) (fun c_25 => ?_) (fun c_25 => ?_)
  · have c_25 := c_25
    refine xr_iload_n E hl 1 rfl dX6_may_32 rfl ?_
    refine xr_bipush E dX6_may_33 (by decide) ?_
    refine xr_iadd E dX6_may_35 ?_
    refine xr_iload E hl 0 rfl dX6_may_36 ?_
    refine xr_icmp_le (tgt := 51) E dX6_may_38 (by decide) ⟨by omega, by omega⟩ ⟨by omega, by omega⟩ (fun c_38 => ?_) (fun c_38 => ?_)
    · have c_38 := c_38
      refine xr_iload E hl 0 rfl dX6_may_51 ?_
      refine xr_iload_n E hl 1 rfl dX6_may_53 rfl ?_
      refine xr_isub E dX6_may_54 ?_
      refine xr_bipush E dX6_may_55 (by decide) ?_
      refine xr_isub E dX6_may_57 ?_
      refine xr_istore (lv' := [(5, .int (iI (((now (16 + t)) - ((now (1 + t)) + d)) - 8))), (4, .int (iI (now (16 + t)))), (3, .int (iI ((now (1 + t)) + d))), (0, .ref hMo), (1, .int (iI t)), (2, .int (iI d))]) E hl dX6_may_58 (by decide) rfl (fun ls hl => ?_)
      exact L_60_1 (((now (16 + t)) - ((now (1 + t)) + d)) - 8)  (by unfold mP mI; (repeat' split) <;> omega) (by omega) _ _ _ hX (lv_sub hl [3, 4, 5, 2, 1, 0] rfl)
    · have c_38 := c_38
      refine xr_iload_n E hl 1 rfl dX6_may_41 rfl ?_
      refine xr_bipush E dX6_may_42 (by decide) ?_
      refine xr_iadd E dX6_may_44 ?_
      refine xr_iload E hl 0 rfl dX6_may_45 ?_
      refine xr_isub E dX6_may_47 ?_
      refine xr_goto (tgt := 58) E dX6_may_48 (by decide) ?_
      refine xr_istore (lv' := [(5, .int (iI ((((now (1 + t)) + d) + 8) - (now (16 + t))))), (4, .int (iI (now (16 + t)))), (3, .int (iI ((now (1 + t)) + d))), (0, .ref hMo), (1, .int (iI t)), (2, .int (iI d))]) E hl dX6_may_58 (by decide) rfl (fun ls hl => ?_)
      exact L_60_1 ((((now (1 + t)) + d) + 8) - (now (16 + t)))  (by unfold mP mI; (repeat' split) <;> omega) (by omega) _ _ _ hX (lv_sub hl [3, 4, 5, 2, 1, 0] rfl)
  · have c_25 := c_25
    refine xr_iconst E dX6_may_28 ?_
    refine xr_goto (tgt := 58) E dX6_may_29 (by decide) ?_
    refine xr_istore (lv' := [(5, .int (iI 0)), (4, .int (iI (now (16 + t)))), (3, .int (iI ((now (1 + t)) + d))), (0, .ref hMo), (1, .int (iI t)), (2, .int (iI d))]) E hl dX6_may_58 (by decide) rfl (fun ls hl => ?_)
    exact L_60_1 0  (by unfold mP mI; (repeat' split) <;> omega) (by omega) _ _ _ hX (lv_sub hl [3, 4, 5, 2, 1, 0] rfl)
abbrev rm_X6_step : Room := { frames := 1, cells := 0, slots := 0, locals := 21 }
set_option maxHeartbeats 4000000 in
set_option maxRecDepth 100000 in
theorem c_X6_step (l : Launch) (D : va_G) (y : CY) (z sz : Nat) (hMo a_now a_asd a_pst a_mrf a_txt a_olt a_ofr a_nbs a_best a_wys a_rwx a_shx a_bef : Nat) (now : Int → Int) (msts : Int) (mbyt : Int) (mord : Int) (alw : Int) (bco : Int) (alm : Int) (abt : Int) (mlt : Int) (beg : Int) (figm : Int) (t : Int) (d : Int) (d2 : Int) (H_M : FM now) (ht : 0 ≤ t ∧ t + 1 < 12) (hd : -8 ≤ d ∧ d ≤ 8) (hd2 : -8 ≤ d2 ∧ d2 ≤ 8) : Met l yX6_step (Cond.code yX6_step cX6_step 6 (some .long) :: TW) rm_X6_step (va_Pc [.ref hMo, .int (iI t), .int (iI d), .int (iI d2)] (PX D y z (W_Mn y hMo a_now a_asd a_pst a_mrf a_txt a_olt a_ofr a_nbs a_best a_wys a_rwx a_shx a_bef now msts mbyt mord alw bco alm abt mlt beg figm) sz)) (va_Ql (fun (r : Int64) (uu : Unit) => r = lI (zP now t d d2 * zP now t d d2)) (fun uu t => BX D (W_Mn y hMo a_now a_asd a_pst a_mrf a_txt a_olt a_ofr a_nbs a_best a_wys a_rwx a_shx a_bef now msts mbyt mord alw bco alm abt mlt beg figm) (va_A (W_Mn y hMo a_now a_asd a_pst a_mrf a_txt a_olt a_ofr a_nbs a_best a_wys a_rwx a_shx a_bef now msts mbyt mord alw bco alm abt mlt beg figm) sz) t) (va_A (W_Mn y hMo a_now a_asd a_pst a_mrf a_txt a_olt a_ofr a_nbs a_best a_wys a_rwx a_shx a_bef now msts mbyt mord alw bco alm abt mlt beg figm) sz)) 0 0 (va_A (W_Mn y hMo a_now a_asd a_pst a_mrf a_txt a_olt a_ofr a_nbs a_best a_wys a_rwx a_shx a_bef now msts mbyt mord alw bco alm abt mlt beg figm) sz) := by
  refine xm_l (by decide) (Nat.le_of_ble_eq_true rfl) (fun p e s m args below meth cX ls A Q E hr hnm hX hl hQ => ?_)
  have hl : lv_has ls 6 [(0, .ref hMo), (1, .int (iI t)), (2, .int (iI d)), (3, .int (iI d2))] := hl
  have hq := H_M.q
  have hfr := H_M.fr
  have hli := H_M.li
  have hsh := H_M.sh
  refine xr_aload_n E hl 0 rfl dX6_step_0 rfl ?_
  refine xr_get E hX 0 rfl rfl ly_X6 0 (by decide) fl_X6_7 rfl dX6_step_1 ?_
  refine xr_iconst E dX6_step_4 ?_
  refine xr_iload_n E hl 1 rfl dX6_step_5 rfl ?_
  refine xr_iadd E dX6_step_6 ?_
  refine xr_iald E hX 1 rfl (by omega) (by omega) (by decide) dX6_step_7 ?_
  refine xr_istore (lv' := [(4, .int (iI (now (1 + t)))), (0, .ref hMo), (1, .int (iI t)), (2, .int (iI d)), (3, .int (iI d2))]) E hl dX6_step_8 (by decide) rfl (fun ls hl => ?_)
  refine xr_aload_n E hl 1 rfl dX6_step_10 rfl ?_
  refine xr_get E hX 0 rfl rfl ly_X6 0 (by decide) fl_X6_7 rfl dX6_step_11 ?_
  refine xr_iconst E dX6_step_14 ?_
  refine xr_iload_n E hl 2 rfl dX6_step_15 rfl ?_
  refine xr_iadd E dX6_step_16 ?_
  refine xr_iconst E dX6_step_17 ?_
  refine xr_iadd E dX6_step_18 ?_
  refine xr_iald E hX 1 rfl (by omega) (by omega) (by decide) dX6_step_19 ?_
  refine xr_istore (lv' := [(5, .int (iI (now ((1 + t) + 1)))), (4, .int (iI (now (1 + t)))), (0, .ref hMo), (1, .int (iI t)), (2, .int (iI d)), (3, .int (iI d2))]) E hl dX6_step_20 (by decide) rfl (fun ls hl => ?_)
  refine xr_aload_n E hl 2 rfl dX6_step_22 rfl ?_
  refine xr_get E hX 0 rfl rfl ly_X6 0 (by decide) fl_X6_7 rfl dX6_step_23 ?_
  refine xr_bipush E dX6_step_26 (by decide) ?_
  refine xr_iald E hX 1 rfl (by omega) (by omega) (by decide) dX6_step_28 ?_
  refine xr_if_ne (tgt := 42) E dX6_step_29 (by decide) ⟨by omega, by omega⟩ (fun c_29 => ?_) (fun c_29 => ?_)
  · have c_29 := c_29
    have hi1 := H_M.ind (t := t) (by omega) (by omega)
    have hi2 := H_M.ind (t := t + 1) (by omega) (by omega)
    rw [show 1 + (t + 1) = 1 + t + 1 by omega] at hi2
    have hb1 := mul_bd2 (a := now (1 + t + 1) + d2) (b := now (1 + t)) (by omega) (by omega) (by omega) (by omega)
    have hb2 := mul_bd2 (a := now (1 + t) + d) (b := now (1 + t + 1)) (by omega) (by omega) (by omega) (by omega)
    have hst : (now (1 + t + 1) + d2) * now (1 + t) - (now (1 + t) + d) * now (1 + t + 1) = d2 * mI now (t + 1 - 1) - d * mI now (t + 1) := by unfold mI; rw [show 1 + (t + 1 - 1) = 1 + t by omega, show 1 + (t + 1) = 1 + t + 1 by omega, Int.add_mul, Int.add_mul, Int.mul_comm (now (1 + t)) (now (1 + t + 1))]; omega
    refine xr_iload E hl 0 rfl dX6_step_42 ?_
    refine xr_iload_n E hl 5 rfl dX6_step_44 rfl ?_
    refine xr_iadd E dX6_step_45 ?_
    refine xr_iload E hl 1 rfl dX6_step_46 ?_
    refine xr_imul E dX6_step_48 ?_
    refine xr_iload E hl 1 rfl dX6_step_49 ?_
    refine xr_iload_n E hl 4 rfl dX6_step_51 rfl ?_
    refine xr_iadd E dX6_step_52 ?_
    refine xr_iload E hl 0 rfl dX6_step_53 ?_
    refine xr_imul E dX6_step_55 ?_
    refine xr_isub E dX6_step_56 ?_
    refine xr_i2l E dX6_step_57 ⟨by omega, by omega⟩ ?_
    refine xk_rl E hX [] rfl (xv_S (As := [.long (lI ((((now ((1 + t) + 1)) + d2) * (now (1 + t))) - (((now (1 + t)) + d) * (now ((1 + t) + 1)))))]) E hX hl (c_X6_square l D y z _ ((((now ((1 + t) + 1)) + d2) * (now (1 + t))) - (((now (1 + t)) + d) * (now ((1 + t) + 1))))) ml_X6_147 st_X6_square in_X6 co_X6_square 1 (by decide) ⟨rfl, rfl⟩ ⟨Nat.le_of_ble_eq_true rfl, Nat.le_of_ble_eq_true rfl⟩ [] rfl rfl rfl rfl (Nat.le_of_ble_eq_true rfl) dX6_step_58 ⟨Nat.le_refl _, Nat.le_refl _⟩) (fun r_58 H locs hw hX => ?_)
    subst hw
    exact xr_lret E hX hQ () hr (by unfold zP stP; rw [if_pos (by omega)]; first | (rw [if_pos c_29]; done) | (rw [if_neg c_29, hst]; done)) rfl dX6_step_61
  · have c_29 := c_29
    refine xr_iload_n E hl 5 rfl dX6_step_32 rfl ?_
    refine xr_iload_n E hl 4 rfl dX6_step_33 rfl ?_
    refine xr_isub E dX6_step_34 ?_
    refine xr_i2l E dX6_step_35 ⟨by omega, by omega⟩ ?_
    refine xk_rl E hX [] rfl (xv_S (As := [.long (lI (d2 - d))]) E hX hl (c_X6_square l D y z _ (d2 - d)) ml_X6_147 st_X6_square in_X6 co_X6_square 1 (by decide) ⟨rfl, rfl⟩ ⟨Nat.le_of_ble_eq_true rfl, Nat.le_of_ble_eq_true rfl⟩ [] rfl rfl rfl rfl (Nat.le_of_ble_eq_true rfl) dX6_step_36 ⟨Nat.le_refl _, Nat.le_refl _⟩) (fun r_36 H locs hw hX => ?_)
    subst hw
    refine xr_goto (tgt := 61) E dX6_step_39 (by decide) ?_
    exact xr_lret E hX hQ () hr (by unfold zP stP; rw [if_pos (by omega)]; first | (rw [if_pos c_29]; done) | (rw [if_neg c_29, hst]; done)) rfl dX6_step_61
abbrev rm_X6_nextSum : Room := { frames := 1, cells := 0, slots := 0, locals := 22 }
set_option maxHeartbeats 4000000 in
set_option maxRecDepth 100000 in
theorem c_X6_nextSum (l : Launch) (D : va_G) (y : CY) (z sz : Nat) (hMo a_now a_asd a_pst a_mrf a_txt a_olt a_ofr a_nbs a_best a_wys a_rwx a_shx a_bef : Nat) (now : Int → Int) (msts : Int) (mbyt : Int) (mord : Int) (alw : Int) (bco : Int) (alm : Int) (abt : Int) (mlt : Int) (beg : Int) (figm : Int) (t : Int) (su : Int) (d2 : Int) (H_M : FM now) (hab : -1 ≤ abt ∧ abt ≤ 2) (ht : 0 ≤ t ∧ t + 1 < 12) : Met l yX6_nextSum (Cond.code yX6_nextSum cX6_nextSum 4 (some .int) :: TW) rm_X6_nextSum (va_Pc [.ref hMo, .int (iI t), .int (iI su), .int (iI d2)] (PX D y z (W_Mn y hMo a_now a_asd a_pst a_mrf a_txt a_olt a_ofr a_nbs a_best a_wys a_rwx a_shx a_bef now msts mbyt mord alw bco alm abt mlt beg figm) sz)) (va_Qi (fun (r : Int32) (uu : Unit) => r = iI (zN now abt (t + 1) su d2)) (fun uu t => BX D (W_Mn y hMo a_now a_asd a_pst a_mrf a_txt a_olt a_ofr a_nbs a_best a_wys a_rwx a_shx a_bef now msts mbyt mord alw bco alm abt mlt beg figm) (va_A (W_Mn y hMo a_now a_asd a_pst a_mrf a_txt a_olt a_ofr a_nbs a_best a_wys a_rwx a_shx a_bef now msts mbyt mord alw bco alm abt mlt beg figm) sz) t) (va_A (W_Mn y hMo a_now a_asd a_pst a_mrf a_txt a_olt a_ofr a_nbs a_best a_wys a_rwx a_shx a_bef now msts mbyt mord alw bco alm abt mlt beg figm) sz)) 0 0 (va_A (W_Mn y hMo a_now a_asd a_pst a_mrf a_txt a_olt a_ofr a_nbs a_best a_wys a_rwx a_shx a_bef now msts mbyt mord alw bco alm abt mlt beg figm) sz) := by
  refine xm_i (by decide) (Nat.le_of_ble_eq_true rfl) (fun p e s m args below meth cX ls A Q E hr hnm hX hl hQ => ?_)
  have hl : lv_has ls 4 [(0, .ref hMo), (1, .int (iI t)), (2, .int (iI su)), (3, .int (iI d2))] := hl
  refine xr_aload_n E hl 0 rfl dX6_nextSum_0 rfl ?_
  refine xr_iload_n E hl 1 rfl dX6_nextSum_1 rfl ?_
  refine xr_iconst E dX6_nextSum_2 ?_
  refine xr_iadd E dX6_nextSum_3 ?_
  refine xk_ri E hX [0, 1] rfl (xv_V (As := [.int (iI (t + 1))]) E hX hl (c_X6_isBound l D y z _ hMo a_now a_asd a_pst a_mrf a_txt a_olt a_ofr a_nbs a_best a_wys a_rwx a_shx a_bef now msts mbyt mord alw bco alm abt mlt beg figm (t + 1) H_M (by omega) (by omega)) ml_X6_151 im_X6_isBound se_X6_isBound in_X6 co_X6_isBound 1 (by decide) ⟨rfl, rfl⟩ ⟨Nat.le_of_ble_eq_true rfl, Nat.le_of_ble_eq_true rfl⟩ [0, 1] rfl rfl 0 rfl rfl rfl rfl rfl (Nat.le_of_ble_eq_true rfl) dX6_nextSum_4 ⟨Nat.le_refl _, Nat.le_refl _⟩) (fun r_4 H locs hw hX => ?_)
  subst hw
  refine xr_if_neB (tgt := 14) E dX6_nextSum_7 (by decide) (fun c_7 => ?_) (fun c_7 => ?_)
  · have c_7 := c_7
    refine xr_iload_n E hl 1 rfl dX6_nextSum_14 rfl ?_
    refine xr_iconst E dX6_nextSum_15 ?_
    refine xr_irem E dX6_nextSum_16 ⟨by omega, by omega⟩ (by decide) (by omega) (by omega) ?_
    refine xr_iconst E dX6_nextSum_17 ?_
    refine xr_icmp_ne (tgt := 25) E dX6_nextSum_18 (by decide) ⟨by omega, by omega⟩ (by decide) (fun c_18 => ?_) (fun c_18 => ?_)
    · have c_18 := c_18
      refine xr_iload_n E hl 2 rfl dX6_nextSum_25 rfl ?_
      refine xr_iload_n E hl 3 rfl dX6_nextSum_26 rfl ?_
      refine xr_iadd E dX6_nextSum_27 ?_
      exact xr_iret E hX hQ () hr (by unfold zN rNu; first | (rw [if_neg (by rw [c_7]; decide)]; done) | (rw [if_pos c_7, if_pos (by omega)]; done) | (rw [if_pos c_7, if_neg (by omega)]; done)) rfl dX6_nextSum_28
    · have c_18 := c_18
      refine xr_iload_n E hl 3 rfl dX6_nextSum_21 rfl ?_
      refine xr_goto (tgt := 28) E dX6_nextSum_22 (by decide) ?_
      exact xr_iret E hX hQ () hr (by unfold zN rNu; first | (rw [if_neg (by rw [c_7]; decide)]; done) | (rw [if_pos c_7, if_pos (by omega)]; done) | (rw [if_pos c_7, if_neg (by omega)]; done)) rfl dX6_nextSum_28
  · have c_7 := c_7
    refine xr_iconst E dX6_nextSum_10 ?_
    refine xr_goto (tgt := 28) E dX6_nextSum_11 (by decide) ?_
    exact xr_iret E hX hQ () hr (by unfold zN rNu; first | (rw [if_neg (by rw [c_7]; decide)]; done) | (rw [if_pos c_7, if_pos (by omega)]; done) | (rw [if_pos c_7, if_neg (by omega)]; done)) rfl dX6_nextSum_28
theorem lay_no {now : Int → Int} {lim un t d s : Int} {k : Nat} (h : zG now lim un t d s = false) : zR now lim un k t d s = (1000000000000000, 0) := by
  cases k with
  | zero => rw [zR_0, if_neg (by rw [h]; decide)]
  | succ k => rw [zR_s, if_neg (by rw [h]; decide)]
theorem lay_last {now : Int → Int} {lim un t d s : Int} (h : zG now lim un t d s = true) (ht : t = now 0 - 1) : zR now lim un (now 0 - 1 - t).toNat t d s = (d * d, 1) := by
  rw [show (now 0 - 1 - t).toNat = 0 by omega, zR_0, if_pos h]
theorem lay_all {now : Int → Int} {lim un t d s : Int} (h : zG now lim un t d s = true) (ht : t < now 0 - 1) : zR now lim un (now 0 - 1 - t).toNat t d s = zF now lim un (now 0 - 1 - (t + 1)).toNat t d s 17 := by
  rw [show (now 0 - 1 - t).toNat = (now 0 - 1 - (t + 1)).toNat + 1 by omega, zR_s, if_pos h]
section LB
variable {best best1 : Int → Int} {pt v w mo : Int} {S : I2P}
theorem lay_b0 (hmo : (v < S.1 ∧ mo = 0) ∨ (v = S.1 ∧ mo = S.2) ∨ (S.1 < v ∧ mo = -1)) (h : mo = -1 ∧ 0 ≤ S.2) (hb : best1 = up best pt S.1) : best1 = up best pt (if v < S.1 then (v, cap9 (0 + w)) else if v = S.1 then (v, cap9 (S.2 + w)) else S).1 := by
  rw [if_neg (by omega), if_neg (by omega)]
  exact hb
theorem lay_b (hmo : (v < S.1 ∧ mo = 0) ∨ (v = S.1 ∧ mo = S.2) ∨ (S.1 < v ∧ mo = -1)) (h : mo ≠ -1) (hb : best1 = up best pt S.1) : up best1 pt v = up best pt (if v < S.1 then (v, cap9 (0 + w)) else if v = S.1 then (v, cap9 (S.2 + w)) else S).1 := by
  rw [hb, up_up]
  congr 1
  by_cases g : v < S.1
  · rw [if_pos g]
  · rw [if_neg g, if_pos (by omega)]
theorem lay_w0 (hmo : (v < S.1 ∧ mo = 0) ∨ (v = S.1 ∧ mo = S.2) ∨ (S.1 < v ∧ mo = -1)) (h : mo = -1 ∧ 0 ≤ S.2) (hb : best1 = up best pt S.2) : best1 = up best pt (if v < S.1 then (v, cap9 (0 + w)) else if v = S.1 then (v, cap9 (S.2 + w)) else S).2 := by
  rw [if_neg (by omega), if_neg (by omega)]
  exact hb
theorem lay_w {r : Int} (hmo : (v < S.1 ∧ mo = 0) ∨ (v = S.1 ∧ mo = S.2) ∨ (S.1 < v ∧ mo = -1)) (h : mo ≠ -1) (hb : best1 = up best pt S.2) (hr : (9999 < mo + w ∧ r = 9999) ∨ (mo + w ≤ 9999 ∧ r = mo + w)) : up best1 pt r = up best pt (if v < S.1 then (v, cap9 (0 + w)) else if v = S.1 then (v, cap9 (S.2 + w)) else S).2 := by
  rw [hb, up_up]
  congr 1
  by_cases g : v < S.1
  · rw [if_pos g]
    unfold cap9
    dsimp only
    split <;> omega
  · rw [if_neg g, if_pos (by omega)]
    unfold cap9
    dsimp only
    split <;> omega
end LB
abbrev rm_X6_lay : Room := { frames := 2, cells := 0, slots := 0, locals := 46 }
set_option maxHeartbeats 4000000 in
set_option maxRecDepth 100000 in
theorem c_X6_lay (l : Launch) (D : va_G) (y : CY) (z sz : Nat) (hMo a_now a_asd a_pst a_mrf a_txt a_olt a_ofr a_nbs a_best a_wys a_rwx a_shx a_bef : Nat) (now : Int → Int) (msts : Int) (mbyt : Int) (mord : Int) (best : Int → Int) (wys : Int → Int) (alw : Int) (bco : Int) (alm : Int) (abt : Int) (mlt : Int) (beg : Int) (figm : Int) (t : Int) (d : Int) (su : Int) (H_M : FM now) (hab : -1 ≤ abt ∧ abt ≤ 2) (hal : -1 ≤ alm ∧ alm ≤ 24) (ht : 0 ≤ t ∧ t < now 0) (hd : -8 ≤ d ∧ d ≤ 8) (hsu : -32 ≤ su ∧ su ≤ 32) (hrow : TRow now alm abt best wys (t + 1)) : Met l yX6_lay (Cond.code yX6_lay cX6_lay 12 none :: TW) rm_X6_lay (va_Pc [.ref hMo, .int (iI t), .int (iI d), .int (iI su)] (PX D y z (W_Ml y hMo a_now a_asd a_pst a_mrf a_txt a_olt a_ofr a_nbs a_best a_wys a_rwx a_shx a_bef now msts mbyt mord best wys alw bco alm abt mlt beg figm) sz)) (va_Qv (fun (uu : (Int → Int) × (Int → Int)) => uu = (up best (pl t d su) (zR now alm abt (now 0 - 1 - t).toNat t d su).1, up wys (pl t d su) (zR now alm abt (now 0 - 1 - t).toNat t d su).2)) (fun uu t => BX D (W_Ml y hMo a_now a_asd a_pst a_mrf a_txt a_olt a_ofr a_nbs a_best a_wys a_rwx a_shx a_bef now msts mbyt mord uu.1 uu.2 alw bco alm abt mlt beg figm) (va_A (W_Ml y hMo a_now a_asd a_pst a_mrf a_txt a_olt a_ofr a_nbs a_best a_wys a_rwx a_shx a_bef now msts mbyt mord best wys alw bco alm abt mlt beg figm) sz) t) (va_A (W_Ml y hMo a_now a_asd a_pst a_mrf a_txt a_olt a_ofr a_nbs a_best a_wys a_rwx a_shx a_bef now msts mbyt mord best wys alw bco alm abt mlt beg figm) sz)) 0 0 (va_A (W_Ml y hMo a_now a_asd a_pst a_mrf a_txt a_olt a_ofr a_nbs a_best a_wys a_rwx a_shx a_bef now msts mbyt mord best wys alw bco alm abt mlt beg figm) sz) := by
  refine xm_v (by decide) (Nat.le_of_ble_eq_true rfl) (fun p e s m args below meth cX ls A Q E hr hnm hX hl hQ => ?_)
  have hl : lv_has ls 12 [(0, .ref hMo), (1, .int (iI t)), (2, .int (iI d)), (3, .int (iI su))] := hl
  have hq := H_M.q
  have hfr := H_M.fr
  have hli := H_M.li
  have hsh := H_M.sh
  have hpl := pl_bd (t := t) (d := d) (s := su) ⟨by omega, by omega⟩ hd hsu
  have hdd := sq_bd (B := 8) (a := d) (by omega) (by omega)
  have hdn := sq_nn d
  refine xr_iload_n E hl 1 rfl dX6_lay_0 rfl ?_
  refine xr_iload_n E hl 2 rfl dX6_lay_1 rfl ?_
  refine xr_iload_n E hl 3 rfl dX6_lay_2 rfl ?_
  refine xk_ri E hX [] rfl (xv_S (As := [.int (iI t), .int (iI d), .int (iI su)]) E hX hl (c_X6_place l D y z _ t d su) ml_X6_154 st_X6_place in_X6 co_X6_place 3 (by decide) ⟨rfl, rfl⟩ ⟨Nat.le_of_ble_eq_true rfl, Nat.le_of_ble_eq_true rfl⟩ [] rfl rfl rfl rfl (Nat.le_of_ble_eq_true rfl) dX6_lay_3 ⟨Nat.le_refl _, Nat.le_refl _⟩) (fun r_3 H locs hw hX => ?_)
  subst hw
  refine xr_istore (lv' := [(4, .int (iI (pl t d su))), (0, .ref hMo), (1, .int (iI t)), (2, .int (iI d)), (3, .int (iI su))]) E hl dX6_lay_6 (by decide) rfl (fun ls hl => ?_)
  refine xr_aload_n E hl 1 rfl dX6_lay_8 rfl ?_
  refine xr_get E hX 0 rfl rfl ly_X6 11 (by decide) fl_X6_34 rfl dX6_lay_9 ?_
  refine xr_iload E hl 0 rfl dX6_lay_12 ?_
  refine xr_ldc2 (n := 1000000000000000) E kl_X6_158 dX6_lay_14 (by decide) ?_
  refine xr_last (W1 := (W_Ml y hMo a_now a_asd a_pst a_mrf a_txt a_olt a_ofr a_nbs a_best a_wys a_rwx a_shx a_bef now msts mbyt mord (up best (pl t d su) 1000000000000000) wys alw bco alm abt mlt beg figm)) E hX 2 rfl (by omega) (by omega) (by decide) rfl dX6_lay_17 (fun H locs hX => ?_)
  refine xr_aload_n E hl 1 rfl dX6_lay_18 rfl ?_
  refine xr_get E hX 0 rfl rfl ly_X6 12 (by decide) fl_X6_38 rfl dX6_lay_19 ?_
  refine xr_iload E hl 0 rfl dX6_lay_22 ?_
  refine xr_iconst E dX6_lay_24 ?_
  refine xr_iast (W1 := (W_Ml y hMo a_now a_asd a_pst a_mrf a_txt a_olt a_ofr a_nbs a_best a_wys a_rwx a_shx a_bef now msts mbyt mord (up best (pl t d su) 1000000000000000) (up wys (pl t d su) 0) alw bco alm abt mlt beg figm)) E hX 3 rfl (by omega) (by omega) (by decide) rfl dX6_lay_25 (fun H locs hX => ?_)
  have L_80_1 : ∀ (gd : Bool), (gd = zG now alm abt t d su) → ∀ (H : Heap) (locs : List Loc) (ls : Array Slot), XW D A s.heap (W_Ml y hMo a_now a_asd a_pst a_mrf a_txt a_olt a_ofr a_nbs a_best a_wys a_rwx a_shx a_bef now msts mbyt mord (up best (pl t d su) 1000000000000000) (up wys (pl t d su) 0) alw bco alm abt mlt beg figm) H locs → lv_has ls 12 [(0, .ref hMo), (1, .int (iI t)), (2, .int (iI d)), (3, .int (iI su)), (4, .int (iI (pl t d su))), (5, .int (bB gd))] → W p l e rm_X6_lay s m args below meth cX H locs 0 0 Q (F0 m 80 ls []) := by
    intro gd hgd H locs ls hX hl
    refine xr_iload E hl 5 rfl dX6_lay_80 ?_
    refine xr_if_neB (tgt := 86) E dX6_lay_82 (by decide) (fun c_82 => ?_) (fun c_82 => ?_)
    · have c_82 := c_82
      refine xr_iload_n E hl 1 rfl dX6_lay_86 rfl ?_
      refine xr_aload_n E hl 0 rfl dX6_lay_87 rfl ?_
      refine xr_get E hX 0 rfl rfl ly_X6 0 (by decide) fl_X6_7 rfl dX6_lay_88 ?_
      refine xr_iconst E dX6_lay_91 ?_
      refine xr_iald E hX 1 rfl (by omega) (by omega) (by decide) dX6_lay_92 ?_
      refine xr_iconst E dX6_lay_93 ?_
      refine xr_isub E dX6_lay_94 ?_
      refine xr_icmp_ne (tgt := 118) E dX6_lay_95 (by decide) ⟨by omega, by omega⟩ ⟨by omega, by omega⟩ (fun c_95 => ?_) (fun c_95 => ?_)
      · have c_95 := c_95
        refine xr_bipush E dX6_lay_118 (by decide) ?_
        refine xr_istore (lv' := [(6, .int (iI (-8))), (0, .ref hMo), (1, .int (iI t)), (2, .int (iI d)), (3, .int (iI su)), (4, .int (iI (pl t d su))), (5, .int (bB gd))]) E hl dX6_lay_120 (by decide) rfl (fun ls hl => ?_)
        have L_122_2 : ∀ (nmu : Nat) (n : Nat) (ev : Int) (best1 : Int → Int) (wys1 : Int → Int), 17 - n < nmu → (ev = -8 + n ∧ n ≤ 17) → (best1 = up best (pl t d su) (zF now alm abt (now 0 - 1 - (t + 1)).toNat t d su n).1) → (wys1 = up wys (pl t d su) (zF now alm abt (now 0 - 1 - (t + 1)).toNat t d su n).2) → ∀ (H : Heap) (locs : List Loc) (ls : Array Slot), XW D A s.heap (W_Ml y hMo a_now a_asd a_pst a_mrf a_txt a_olt a_ofr a_nbs a_best a_wys a_rwx a_shx a_bef now msts mbyt mord best1 wys1 alw bco alm abt mlt beg figm) H locs → lv_has ls 12 [(0, .ref hMo), (1, .int (iI t)), (2, .int (iI d)), (3, .int (iI su)), (4, .int (iI (pl t d su))), (6, .int (iI ev))] → W p l e rm_X6_lay s m args below meth cX H locs 0 0 Q (F0 m 122 ls []) := by
          intro nmu
          induction nmu with
          | zero =>
            intro n ev best1 wys1 hmu
            exact absurd hmu (Nat.not_lt_zero _)
          | succ nmu ih =>
            intro n ev best1 wys1 hmu hev hb1 hw1 H locs ls hX hl
            have ih_122_2 := ih
            clear ih
            have hfb := zF_bd (un := abt) H_M hal (now 0 - 1 - (t + 1)).toNat t d su (by omega) (by omega) n hev.2
            have ea : best1 (pl t d su) = (zF now alm abt (now 0 - 1 - (t + 1)).toNat t d su n).1 := by rw [hb1, up_same]
            have ew : wys1 (pl t d su) = (zF now alm abt (now 0 - 1 - (t + 1)).toNat t d su n).2 := by rw [hw1, up_same]
            refine xr_iload E hl 5 rfl dX6_lay_122 ?_
            refine xr_bipush E dX6_lay_124 (by decide) ?_
            refine xr_icmp_gt (tgt := 320) E dX6_lay_126 (by decide) ⟨by omega, by omega⟩ (by decide) (fun c_126 => ?_) (fun c_126 => ?_)
            · have c_126 := c_126
              exact xr_vret E hX hQ (best1, wys1) hr (by have e : zR now alm abt (now 0 - 1 - t).toNat t d su = zF now alm abt (now 0 - 1 - (t + 1)).toNat t d su 17 := lay_all (by rw [← hgd]; exact c_82) (by omega); rw [e, hb1, hw1, show n = 17 by omega]) rfl dX6_lay_320
            · have c_126 := c_126
              have hkk : (now 0 - 1 - t).toNat = (now 0 - 1 - (t + 1)).toNat + 1 := by omega
              have hzs := zF_s (now := now) (lim := alm) (un := abt) (now 0 - 1 - (t + 1)).toNat t d su n
              rw [← hev.1] at hzs
              have hzb := zR_bd (un := abt) H_M hal (now 0 - 1 - (t + 1)).toNat (t + 1) ev (zN now abt (t + 1) su ev) (by omega) (by omega)
              have hzp := zP_bd H_M (t := t) (d := d) (e := ev) ⟨by omega, by omega⟩ hd ⟨by omega, by omega⟩
              have L_314_3 : ∀ (best2 : Int → Int) (wys2 : Int → Int), (best2 = up best (pl t d su) (zF now alm abt (now 0 - 1 - (t + 1)).toNat t d su (n + 1)).1) → (wys2 = up wys (pl t d su) (zF now alm abt (now 0 - 1 - (t + 1)).toNat t d su (n + 1)).2) → ∀ (H : Heap) (locs : List Loc) (ls : Array Slot), XW D A s.heap (W_Ml y hMo a_now a_asd a_pst a_mrf a_txt a_olt a_ofr a_nbs a_best a_wys a_rwx a_shx a_bef now msts mbyt mord best2 wys2 alw bco alm abt mlt beg figm) H locs → lv_has ls 12 [(0, .ref hMo), (1, .int (iI t)), (2, .int (iI d)), (3, .int (iI su)), (4, .int (iI (pl t d su))), (6, .int (iI ev))] → W p l e rm_X6_lay s m args below meth cX H locs 0 0 Q (F0 m 314 ls []) := by
                intro best2 wys2 hb2 hw2 H locs ls hX hl
                refine xr_iinc (k := 5) (lv' := [(6, .int (iI (ev + 1))), (0, .ref hMo), (1, .int (iI t)), (2, .int (iI d)), (3, .int (iI su)), (4, .int (iI (pl t d su)))]) E hl rfl dX6_lay_314 (by decide) rfl (fun ls hl => ?_)
                refine xr_goto (tgt := 122) E dX6_lay_317 (by decide) ?_
                exact ih_122_2 (n + 1) (ev + 1) best2 wys2 (by omega) (by omega) hb2 hw2 _ _ _ hX (lv_sub hl [1, 2, 3, 4, 5, 0] rfl)
              refine xr_aload_n E hl 0 rfl dX6_lay_129 rfl ?_
              refine xr_iload_n E hl 1 rfl dX6_lay_130 rfl ?_
              refine xr_iload_n E hl 3 rfl dX6_lay_131 rfl ?_
              refine xr_iload E hl 5 rfl dX6_lay_132 ?_
              refine xk_ri E hX [0, 1] rfl (xv_V (As := [.int (iI t), .int (iI su), .int (iI ev)]) E hX hl (c_X6_nextSum l D y z _ hMo a_now a_asd a_pst a_mrf a_txt a_olt a_ofr a_nbs a_best a_wys a_rwx a_shx a_bef now msts mbyt mord alw bco alm abt mlt beg figm t su ev H_M (by omega) (by omega)) ml_X6_164 im_X6_nextSum se_X6_nextSum in_X6 co_X6_nextSum 3 (by decide) ⟨rfl, rfl⟩ ⟨Nat.le_of_ble_eq_true rfl, Nat.le_of_ble_eq_true rfl⟩ [0, 1] rfl rfl 0 rfl rfl rfl rfl rfl (Nat.le_of_ble_eq_true rfl) dX6_lay_134 ⟨Nat.le_refl _, Nat.le_refl _⟩) (fun r_134 H locs hw hX => ?_)
              subst hw
              refine xr_istore (lv' := [(7, .int (iI (zN now abt (t + 1) su ev))), (0, .ref hMo), (1, .int (iI t)), (2, .int (iI d)), (3, .int (iI su)), (4, .int (iI (pl t d su))), (6, .int (iI ev))]) E hl dX6_lay_137 (by decide) rfl (fun ls hl => ?_)
              have hns : sm (zN now abt (t + 1) su ev) := by unfold zN rNu; (repeat' split) <;> (constructor <;> omega)
              have L_170_4 : ∀ (to : Int), ((to = -1 ∧ ¬ (-32 ≤ zN now abt (t + 1) su ev ∧ zN now abt (t + 1) su ev ≤ 32)) ∨ (0 ≤ to ∧ to < 13260 ∧ to = pl (t + 1) ev (zN now abt (t + 1) su ev) ∧ -32 ≤ zN now abt (t + 1) su ev ∧ zN now abt (t + 1) su ev ≤ 32)) → ∀ (H : Heap) (locs : List Loc) (ls : Array Slot), XW D A s.heap (W_Ml y hMo a_now a_asd a_pst a_mrf a_txt a_olt a_ofr a_nbs a_best a_wys a_rwx a_shx a_bef now msts mbyt mord best1 wys1 alw bco alm abt mlt beg figm) H locs → lv_has ls 12 [(0, .ref hMo), (1, .int (iI t)), (2, .int (iI d)), (3, .int (iI su)), (4, .int (iI (pl t d su))), (6, .int (iI ev)), (7, .int (iI (zN now abt (t + 1) su ev))), (8, .int (iI to))] → W p l e rm_X6_lay s m args below meth cX H locs 0 0 Q (F0 m 170 ls []) := by
                intro to hto H locs ls hX hl
                refine xr_iload E hl 7 rfl dX6_lay_170 ?_
                refine xr_iconst E dX6_lay_172 ?_
                refine xr_icmp_eq (tgt := 314) E dX6_lay_173 (by decide) ⟨by omega, by omega⟩ (by decide) (fun c_173 => ?_) (fun c_173 => ?_)
                · have c_173 := c_173
                  exact L_314_3 best1 wys1  (by rw [hzs]; first | (rw [rF1_no (by omega)]; exact hb1) | (rw [hyes, ← eb]; exact lay_b0 hmo (by omega) hb1) | (rw [hyes, ← eb]; exact lay_b hmo (by omega) hb1)) (by rw [hzs]; first | (rw [rF1_no (by omega)]; exact hw1) | (rw [hyes, ← eb, ← ewt]; exact lay_w0 hmo (by omega) hw1) | (rw [hyes, ← eb, ← ewt]; exact lay_w hmo (by omega) hw1 (by omega))) _ _ _ hX (lv_sub hl [0, 1, 2, 3, 4, 5] rfl)
                · have c_173 := c_173
                  have hto2 : to = pl (t + 1) ev (zN now abt (t + 1) su ev) ∧ -32 ≤ zN now abt (t + 1) su ev ∧ zN now abt (t + 1) su ev ≤ 32 := by rcases hto with ⟨h, _⟩ | h; exact absurd h c_173; exact h.2.2
                  have hne : to ≠ pl t d su := fun h => by have h9 := pl_inj ⟨by omega, by omega⟩ hto2.2 hd hsu (hto2.1.symm.trans h); omega
                  have hra := TRow_at hrow (s := su) (by omega) (e := ev) ⟨by omega, by omega⟩ hto2.2
                  have eb : best1 to = (zR now alm abt (now 0 - 1 - (t + 1)).toNat (t + 1) ev (zN now abt (t + 1) su ev)).1 := by rw [hb1, up_ne _ _ hne, hto2.1, hra.1]
                  have ewt : wys1 to = (zR now alm abt (now 0 - 1 - (t + 1)).toNat (t + 1) ev (zN now abt (t + 1) su ev)).2 := by rw [hw1, up_ne _ _ hne, hto2.1, hra.2]
                  refine xr_aload_n E hl 0 rfl dX6_lay_176 rfl ?_
                  refine xr_get E hX 0 rfl rfl ly_X6 11 (by decide) fl_X6_34 rfl dX6_lay_177 ?_
                  refine xr_iload E hl 7 rfl dX6_lay_180 ?_
                  refine xr_lald E hX 2 rfl (by omega) (by omega) (by decide) dX6_lay_182 ?_
                  refine xr_ldc2 (n := 1000000000000000) E kl_X6_158 dX6_lay_183 (by decide) ?_
                  refine xr_lc_ge (tgt := 314) E dX6_lay_186 dX6_lay_187 (by decide) ⟨by omega, by omega⟩ (by decide) (fun c_186 => ?_) (fun c_186 => ?_)
                  · have c_186 := c_186
                    exact L_314_3 best1 wys1  (by rw [hzs]; first | (rw [rF1_no (by omega)]; exact hb1) | (rw [hyes, ← eb]; exact lay_b0 hmo (by omega) hb1) | (rw [hyes, ← eb]; exact lay_b hmo (by omega) hb1)) (by rw [hzs]; first | (rw [rF1_no (by omega)]; exact hw1) | (rw [hyes, ← eb, ← ewt]; exact lay_w0 hmo (by omega) hw1) | (rw [hyes, ← eb, ← ewt]; exact lay_w hmo (by omega) hw1 (by omega))) _ _ _ hX (lv_sub hl [0, 1, 2, 3, 4, 5] rfl)
                  · have c_186 := c_186
                    have hyes := rF1_yes (R := zR now alm abt (now 0 - 1 - (t + 1)).toNat (t + 1) ev (zN now abt (t + 1) su ev)) (n := zN now abt (t + 1) su ev) (v := (zR now alm abt (now 0 - 1 - (t + 1)).toNat (t + 1) ev (zN now abt (t + 1) su ev)).1 + d * d + 1024 * (zP now t d ev * zP now t d ev)) (w := (zR now alm abt (now 0 - 1 - (t + 1)).toNat (t + 1) ev (zN now abt (t + 1) su ev)).2) (S := zF now alm abt (now 0 - 1 - (t + 1)).toNat t d su n) ⟨by omega, by omega, by omega⟩
                    refine xr_aload_n E hl 0 rfl dX6_lay_190 rfl ?_
                    refine xr_get E hX 0 rfl rfl ly_X6 11 (by decide) fl_X6_34 rfl dX6_lay_191 ?_
                    refine xr_iload E hl 7 rfl dX6_lay_194 ?_
                    refine xr_lald E hX 2 rfl (by omega) (by omega) (by decide) dX6_lay_196 ?_
                    refine xr_iload_n E hl 2 rfl dX6_lay_197 rfl ?_
                    refine xr_iload_n E hl 2 rfl dX6_lay_198 rfl ?_
                    refine xr_imul E dX6_lay_199 ?_
                    refine xr_i2l E dX6_lay_200 ⟨by omega, by omega⟩ ?_
                    refine xr_ladd E dX6_lay_201 ?_
                    refine xr_ldc2 (n := 1024) E kl_X6_171 dX6_lay_202 (by decide) ?_
                    refine xr_aload_n E hl 0 rfl dX6_lay_205 rfl ?_
                    refine xr_iload_n E hl 1 rfl dX6_lay_206 rfl ?_
                    refine xr_iload_n E hl 2 rfl dX6_lay_207 rfl ?_
                    refine xr_iload E hl 5 rfl dX6_lay_208 ?_
                    refine xk_rl E hX [0, 1] rfl (xv_V (As := [.int (iI t), .int (iI d), .int (iI ev)]) E hX hl (c_X6_step l D y z _ hMo a_now a_asd a_pst a_mrf a_txt a_olt a_ofr a_nbs a_best a_wys a_rwx a_shx a_bef now msts mbyt mord alw bco alm abt mlt beg figm t d ev H_M (by omega) (by omega) (by omega)) ml_X6_173 im_X6_step se_X6_step in_X6 co_X6_step 3 (by decide) ⟨rfl, rfl⟩ ⟨Nat.le_of_ble_eq_true rfl, Nat.le_of_ble_eq_true rfl⟩ [0, 1] rfl rfl 0 rfl rfl rfl rfl rfl (Nat.le_of_ble_eq_true rfl) dX6_lay_210 ⟨Nat.le_refl _, Nat.le_refl _⟩) (fun r_210 H locs hw hX => ?_)
                    subst hw
                    refine xr_lmul E dX6_lay_213 ?_
                    refine xr_ladd E dX6_lay_214 ?_
                    refine xr_lstore (lv' := [(9, .long (lI (((best1 to) + (d * d)) + (1024 * (zP now t d ev * zP now t d ev))))), (0, .ref hMo), (1, .int (iI t)), (2, .int (iI d)), (3, .int (iI su)), (4, .int (iI (pl t d su))), (6, .int (iI ev)), (7, .int (iI (zN now abt (t + 1) su ev))), (8, .int (iI to))]) E hl dX6_lay_215 (by decide) rfl (fun ls hl => ?_)
                    have L_260_5 : ∀ (mo : Int), (((best1 to + d * d + 1024 * (zP now t d ev * zP now t d ev)) < (zF now alm abt (now 0 - 1 - (t + 1)).toNat t d su n).1 ∧ mo = 0) ∨ ((best1 to + d * d + 1024 * (zP now t d ev * zP now t d ev)) = (zF now alm abt (now 0 - 1 - (t + 1)).toNat t d su n).1 ∧ mo = (zF now alm abt (now 0 - 1 - (t + 1)).toNat t d su n).2) ∨ ((zF now alm abt (now 0 - 1 - (t + 1)).toNat t d su n).1 < (best1 to + d * d + 1024 * (zP now t d ev * zP now t d ev)) ∧ mo = -1)) → ∀ (H : Heap) (locs : List Loc) (ls : Array Slot), XW D A s.heap (W_Ml y hMo a_now a_asd a_pst a_mrf a_txt a_olt a_ofr a_nbs a_best a_wys a_rwx a_shx a_bef now msts mbyt mord best1 wys1 alw bco alm abt mlt beg figm) H locs → lv_has ls 12 [(0, .ref hMo), (1, .int (iI t)), (2, .int (iI d)), (3, .int (iI su)), (4, .int (iI (pl t d su))), (6, .int (iI ev)), (7, .int (iI (zN now abt (t + 1) su ev))), (8, .int (iI to)), (9, .long (lI (((best1 to) + (d * d)) + (1024 * (zP now t d ev * zP now t d ev))))), (11, .int (iI mo))] → W p l e rm_X6_lay s m args below meth cX H locs 0 0 Q (F0 m 260 ls []) := by
                      intro mo hmo H locs ls hX hl
                      refine xr_iload E hl 9 rfl dX6_lay_260 ?_
                      refine xr_iconst E dX6_lay_262 ?_
                      refine xr_icmp_eq (tgt := 314) E dX6_lay_263 (by decide) ⟨by omega, by omega⟩ (by decide) (fun c_263 => ?_) (fun c_263 => ?_)
                      · have c_263 := c_263
                        exact L_314_3 best1 wys1  (by rw [hzs]; first | (rw [rF1_no (by omega)]; exact hb1) | (rw [hyes, ← eb]; exact lay_b0 hmo (by omega) hb1) | (rw [hyes, ← eb]; exact lay_b hmo (by omega) hb1)) (by rw [hzs]; first | (rw [rF1_no (by omega)]; exact hw1) | (rw [hyes, ← eb, ← ewt]; exact lay_w0 hmo (by omega) hw1) | (rw [hyes, ← eb, ← ewt]; exact lay_w hmo (by omega) hw1 (by omega))) _ _ _ hX (lv_sub hl [0, 1, 2, 3, 4, 5] rfl)
                      · have c_263 := c_263
                        refine xr_aload_n E hl 0 rfl dX6_lay_266 rfl ?_
                        refine xr_get E hX 0 rfl rfl ly_X6 11 (by decide) fl_X6_34 rfl dX6_lay_267 ?_
                        refine xr_iload E hl 4 rfl dX6_lay_270 ?_
                        refine xr_lload E hl 8 rfl dX6_lay_272 ?_
                        refine xr_last (W1 := (W_Ml y hMo a_now a_asd a_pst a_mrf a_txt a_olt a_ofr a_nbs a_best a_wys a_rwx a_shx a_bef now msts mbyt mord (up best1 (pl t d su) (((best1 to) + (d * d)) + (1024 * (zP now t d ev * zP now t d ev)))) wys1 alw bco alm abt mlt beg figm)) E hX 2 rfl (by omega) (by omega) (by decide) rfl dX6_lay_274 (fun H locs hX => ?_)
                        refine xr_aload_n E hl 0 rfl dX6_lay_275 rfl ?_
                        refine xr_get E hX 0 rfl rfl ly_X6 12 (by decide) fl_X6_38 rfl dX6_lay_276 ?_
                        refine xr_iload E hl 4 rfl dX6_lay_279 ?_
                        refine xr_iload E hl 9 rfl dX6_lay_281 ?_
                        refine xr_aload_n E hl 0 rfl dX6_lay_283 rfl ?_
                        refine xr_get E hX 0 rfl rfl ly_X6 12 (by decide) fl_X6_38 rfl dX6_lay_284 ?_
                        refine xr_iload E hl 7 rfl dX6_lay_287 ?_
                        refine xr_iald E hX 3 rfl (by omega) (by omega) (by decide) dX6_lay_289 ?_
                        refine xr_iadd E dX6_lay_290 ?_
                        refine xr_sipush E dX6_lay_291 (by decide) ?_
                        refine xr_icmp_le (tgt := 303) E dX6_lay_294 (by decide) ⟨by omega, by omega⟩ (by decide) (fun c_294 => ?_) (fun c_294 => ?_)
                        · have c_294 := c_294
                          refine xr_iload E hl 9 rfl dX6_lay_303 ?_
                          refine xr_aload_n E hl 0 rfl dX6_lay_305 rfl ?_
                          refine xr_get E hX 0 rfl rfl ly_X6 12 (by decide) fl_X6_38 rfl dX6_lay_306 ?_
                          refine xr_iload E hl 7 rfl dX6_lay_309 ?_
                          refine xr_iald E hX 3 rfl (by omega) (by omega) (by decide) dX6_lay_311 ?_
                          refine xr_iadd E dX6_lay_312 ?_
                          refine xr_iast (W1 := (W_Ml y hMo a_now a_asd a_pst a_mrf a_txt a_olt a_ofr a_nbs a_best a_wys a_rwx a_shx a_bef now msts mbyt mord (up best1 (pl t d su) (((best1 to) + (d * d)) + (1024 * (zP now t d ev * zP now t d ev)))) (up wys1 (pl t d su) (mo + (wys1 to))) alw bco alm abt mlt beg figm)) E hX 3 rfl (by omega) (by omega) (by decide) rfl dX6_lay_313 (fun H locs hX => ?_)
                          exact L_314_3 (up best1 (pl t d su) (((best1 to) + (d * d)) + (1024 * (zP now t d ev * zP now t d ev)))) (up wys1 (pl t d su) (mo + (wys1 to)))  (by rw [hzs]; first | (rw [rF1_no (by omega)]; exact hb1) | (rw [hyes, ← eb]; exact lay_b0 hmo (by omega) hb1) | (rw [hyes, ← eb]; exact lay_b hmo (by omega) hb1)) (by rw [hzs]; first | (rw [rF1_no (by omega)]; exact hw1) | (rw [hyes, ← eb, ← ewt]; exact lay_w0 hmo (by omega) hw1) | (rw [hyes, ← eb, ← ewt]; exact lay_w hmo (by omega) hw1 (by omega))) _ _ _ hX (lv_sub hl [0, 1, 2, 3, 4, 5] rfl)
                        · have c_294 := c_294
                          refine xr_sipush E dX6_lay_297 (by decide) ?_
                          refine xr_goto (tgt := 313) E dX6_lay_300 (by decide) ?_
                          refine xr_iast (W1 := (W_Ml y hMo a_now a_asd a_pst a_mrf a_txt a_olt a_ofr a_nbs a_best a_wys a_rwx a_shx a_bef now msts mbyt mord (up best1 (pl t d su) (((best1 to) + (d * d)) + (1024 * (zP now t d ev * zP now t d ev)))) (up wys1 (pl t d su) 9999) alw bco alm abt mlt beg figm)) E hX 3 rfl (by omega) (by omega) (by decide) rfl dX6_lay_313 (fun H locs hX => ?_)
                          exact L_314_3 (up best1 (pl t d su) (((best1 to) + (d * d)) + (1024 * (zP now t d ev * zP now t d ev)))) (up wys1 (pl t d su) 9999)  (by rw [hzs]; first | (rw [rF1_no (by omega)]; exact hb1) | (rw [hyes, ← eb]; exact lay_b0 hmo (by omega) hb1) | (rw [hyes, ← eb]; exact lay_b hmo (by omega) hb1)) (by rw [hzs]; first | (rw [rF1_no (by omega)]; exact hw1) | (rw [hyes, ← eb, ← ewt]; exact lay_w0 hmo (by omega) hw1) | (rw [hyes, ← eb, ← ewt]; exact lay_w hmo (by omega) hw1 (by omega))) _ _ _ hX (lv_sub hl [0, 1, 2, 3, 4, 5] rfl)
                    refine xr_lload E hl 0 rfl dX6_lay_217 ?_
                    refine xr_aload_n E hl 1 rfl dX6_lay_219 rfl ?_
                    refine xr_get E hX 0 rfl rfl ly_X6 11 (by decide) fl_X6_34 rfl dX6_lay_220 ?_
                    refine xr_iload E hl 5 rfl dX6_lay_223 ?_
                    refine xr_lald E hX 2 rfl (by omega) (by omega) (by decide) dX6_lay_225 ?_
                    refine xr_lc_ge (tgt := 234) E dX6_lay_226 dX6_lay_227 (by decide) ⟨by omega, by omega⟩ ⟨by omega, by omega⟩ (fun c_226 => ?_) (fun c_226 => ?_)
                    · have c_226 := c_226
                      refine xr_lload E hl 0 rfl dX6_lay_234 ?_
                      refine xr_aload_n E hl 1 rfl dX6_lay_236 rfl ?_
                      refine xr_get E hX 0 rfl rfl ly_X6 11 (by decide) fl_X6_34 rfl dX6_lay_237 ?_
                      refine xr_iload E hl 5 rfl dX6_lay_240 ?_
                      refine xr_lald E hX 2 rfl (by omega) (by omega) (by decide) dX6_lay_242 ?_
                      refine xr_lc_ne (tgt := 257) E dX6_lay_243 dX6_lay_244 (by decide) ⟨by omega, by omega⟩ ⟨by omega, by omega⟩ (fun c_243 => ?_) (fun c_243 => ?_)
                      · have c_243 := c_243
                        refine xr_iconst E dX6_lay_257 ?_
                        refine xr_istore (lv' := [(11, .int (iI (-1))), (9, .long (lI (((best1 to) + (d * d)) + (1024 * (zP now t d ev * zP now t d ev))))), (0, .ref hMo), (1, .int (iI t)), (2, .int (iI d)), (3, .int (iI su)), (4, .int (iI (pl t d su))), (6, .int (iI ev)), (7, .int (iI (zN now abt (t + 1) su ev))), (8, .int (iI to))]) E hl dX6_lay_258 (by decide) rfl (fun ls hl => ?_)
                        exact L_260_5 (-1)  (by first | exact Or.inl ⟨by omega, rfl⟩ | exact Or.inr (Or.inl ⟨by omega, ew⟩) | exact Or.inr (Or.inr ⟨by omega, rfl⟩)) _ _ _ hX (lv_sub hl [2, 3, 4, 5, 6, 7, 8, 9, 1, 0] rfl)
                      · have c_243 := c_243
                        refine xr_aload_n E hl 1 rfl dX6_lay_247 rfl ?_
                        refine xr_get E hX 0 rfl rfl ly_X6 12 (by decide) fl_X6_38 rfl dX6_lay_248 ?_
                        refine xr_iload E hl 5 rfl dX6_lay_251 ?_
                        refine xr_iald E hX 3 rfl (by omega) (by omega) (by decide) dX6_lay_253 ?_
                        refine xr_goto (tgt := 258) E dX6_lay_254 (by decide) ?_
                        refine xr_istore (lv' := [(11, .int (iI (wys1 (pl t d su)))), (9, .long (lI (((best1 to) + (d * d)) + (1024 * (zP now t d ev * zP now t d ev))))), (0, .ref hMo), (1, .int (iI t)), (2, .int (iI d)), (3, .int (iI su)), (4, .int (iI (pl t d su))), (6, .int (iI ev)), (7, .int (iI (zN now abt (t + 1) su ev))), (8, .int (iI to))]) E hl dX6_lay_258 (by decide) rfl (fun ls hl => ?_)
                        exact L_260_5 (wys1 (pl t d su))  (by first | exact Or.inl ⟨by omega, rfl⟩ | exact Or.inr (Or.inl ⟨by omega, ew⟩) | exact Or.inr (Or.inr ⟨by omega, rfl⟩)) _ _ _ hX (lv_sub hl [2, 3, 4, 5, 6, 7, 8, 9, 1, 0] rfl)
                    · have c_226 := c_226
                      refine xr_iconst E dX6_lay_230 ?_
                      refine xr_goto (tgt := 258) E dX6_lay_231 (by decide) ?_
                      refine xr_istore (lv' := [(11, .int (iI 0)), (9, .long (lI (((best1 to) + (d * d)) + (1024 * (zP now t d ev * zP now t d ev))))), (0, .ref hMo), (1, .int (iI t)), (2, .int (iI d)), (3, .int (iI su)), (4, .int (iI (pl t d su))), (6, .int (iI ev)), (7, .int (iI (zN now abt (t + 1) su ev))), (8, .int (iI to))]) E hl dX6_lay_258 (by decide) rfl (fun ls hl => ?_)
                      exact L_260_5 0  (by first | exact Or.inl ⟨by omega, rfl⟩ | exact Or.inr (Or.inl ⟨by omega, ew⟩) | exact Or.inr (Or.inr ⟨by omega, rfl⟩)) _ _ _ hX (lv_sub hl [2, 3, 4, 5, 6, 7, 8, 9, 1, 0] rfl)
              refine xr_iload E hl 0 rfl dX6_lay_139 ?_
              refine xr_i2l E dX6_lay_141 ⟨by omega, by omega⟩ ?_
              refine xr_ldc2 (n := -32) E kl_X6_167 dX6_lay_142 (by decide) ?_
              refine xr_ldc2 (n := 32) E kl_X6_169 dX6_lay_145 (by decide) ?_
              refine xk_ri E hX [] rfl (xv_S (As := [.long (lI (zN now abt (t + 1) su ev)), .long (lI (-32)), .long (lI 32)]) E hX hl (c_X6_in l D y z _ (zN now abt (t + 1) su ev) (-32) 32 ⟨by omega, by omega⟩ ⟨by omega, by omega⟩ ⟨by omega, by omega⟩) ml_X6_62 st_X6_in in_X6 co_X6_in 3 (by decide) ⟨rfl, rfl⟩ ⟨Nat.le_of_ble_eq_true rfl, Nat.le_of_ble_eq_true rfl⟩ [] rfl rfl rfl rfl (Nat.le_of_ble_eq_true rfl) dX6_lay_148 ⟨Nat.le_refl _, Nat.le_refl _⟩) (fun r_148 H locs hw hX => ?_)
              subst hw
              refine xr_if_eqB (tgt := 167) E dX6_lay_151 (by decide) (fun c_151 => ?_) (fun c_151 => ?_)
              · have c_151 := of_decide_eq_false c_151
                refine xr_iconst E dX6_lay_167 ?_
                refine xr_istore (lv' := [(8, .int (iI (-1))), (7, .int (iI (zN now abt (t + 1) su ev))), (0, .ref hMo), (1, .int (iI t)), (2, .int (iI d)), (3, .int (iI su)), (4, .int (iI (pl t d su))), (6, .int (iI ev))]) E hl dX6_lay_168 (by decide) rfl (fun ls hl => ?_)
                exact L_170_4 (-1)  (by first | exact Or.inl ⟨rfl, by omega⟩ | exact Or.inr ⟨(pl_bd ⟨by omega, by omega⟩ ⟨by omega, by omega⟩ ⟨by omega, by omega⟩).1, (pl_bd ⟨by omega, by omega⟩ ⟨by omega, by omega⟩ ⟨by omega, by omega⟩).2, rfl, by omega, by omega⟩) _ _ _ hX (lv_sub hl [2, 3, 4, 5, 6, 7, 1, 0] rfl)
              · have c_151 := of_decide_eq_true c_151
                refine xr_iload_n E hl 2 rfl dX6_lay_154 rfl ?_
                refine xr_iconst E dX6_lay_155 ?_
                refine xr_iadd E dX6_lay_156 ?_
                refine xr_iload E hl 6 rfl dX6_lay_157 ?_
                refine xr_iload E hl 0 rfl dX6_lay_159 ?_
                refine xk_ri E hX [] rfl (xv_S (As := [.int (iI (t + 1)), .int (iI ev), .int (iI (zN now abt (t + 1) su ev))]) E hX hl (c_X6_place l D y z _ (t + 1) ev (zN now abt (t + 1) su ev)) ml_X6_154 st_X6_place in_X6 co_X6_place 3 (by decide) ⟨rfl, rfl⟩ ⟨Nat.le_of_ble_eq_true rfl, Nat.le_of_ble_eq_true rfl⟩ [] rfl rfl rfl rfl (Nat.le_of_ble_eq_true rfl) dX6_lay_161 ⟨Nat.le_refl _, Nat.le_refl _⟩) (fun r_161 H locs hw hX => ?_)
                subst hw
                refine xr_goto (tgt := 168) E dX6_lay_164 (by decide) ?_
                refine xr_istore (lv' := [(8, .int (iI (pl (t + 1) ev (zN now abt (t + 1) su ev)))), (7, .int (iI (zN now abt (t + 1) su ev))), (0, .ref hMo), (1, .int (iI t)), (2, .int (iI d)), (3, .int (iI su)), (4, .int (iI (pl t d su))), (6, .int (iI ev))]) E hl dX6_lay_168 (by decide) rfl (fun ls hl => ?_)
                exact L_170_4 (pl (t + 1) ev (zN now abt (t + 1) su ev))  (by first | exact Or.inl ⟨rfl, by omega⟩ | exact Or.inr ⟨(pl_bd ⟨by omega, by omega⟩ ⟨by omega, by omega⟩ ⟨by omega, by omega⟩).1, (pl_bd ⟨by omega, by omega⟩ ⟨by omega, by omega⟩ ⟨by omega, by omega⟩).2, rfl, by omega, by omega⟩) _ _ _ hX (lv_sub hl [2, 3, 4, 5, 6, 7, 1, 0] rfl)
        exact L_122_2 _ 0 (-8) (up best (pl t d su) 1000000000000000) (up wys (pl t d su) 0) (Nat.lt_succ_self _) (by omega) rfl rfl _ _ _ hX (lv_sub hl [1, 2, 3, 4, 5, 0] rfl)
      · have c_95 := c_95
        refine xr_aload_n E hl 0 rfl dX6_lay_98 rfl ?_
        refine xr_get E hX 0 rfl rfl ly_X6 11 (by decide) fl_X6_34 rfl dX6_lay_99 ?_
        refine xr_iload E hl 4 rfl dX6_lay_102 ?_
        refine xr_iload_n E hl 2 rfl dX6_lay_104 rfl ?_
        refine xr_iload_n E hl 2 rfl dX6_lay_105 rfl ?_
        refine xr_imul E dX6_lay_106 ?_
        refine xr_i2l E dX6_lay_107 ⟨by omega, by omega⟩ ?_
        refine xr_last (W1 := (W_Ml y hMo a_now a_asd a_pst a_mrf a_txt a_olt a_ofr a_nbs a_best a_wys a_rwx a_shx a_bef now msts mbyt mord (up (up best (pl t d su) 1000000000000000) (pl t d su) (d * d)) (up wys (pl t d su) 0) alw bco alm abt mlt beg figm)) E hX 2 rfl (by omega) (by omega) (by decide) rfl dX6_lay_108 (fun H locs hX => ?_)
        refine xr_aload_n E hl 0 rfl dX6_lay_109 rfl ?_
        refine xr_get E hX 0 rfl rfl ly_X6 12 (by decide) fl_X6_38 rfl dX6_lay_110 ?_
        refine xr_iload E hl 4 rfl dX6_lay_113 ?_
        refine xr_iconst E dX6_lay_115 ?_
        refine xr_iast (W1 := (W_Ml y hMo a_now a_asd a_pst a_mrf a_txt a_olt a_ofr a_nbs a_best a_wys a_rwx a_shx a_bef now msts mbyt mord (up (up best (pl t d su) 1000000000000000) (pl t d su) (d * d)) (up (up wys (pl t d su) 0) (pl t d su) 1) alw bco alm abt mlt beg figm)) E hX 3 rfl (by omega) (by omega) (by decide) rfl dX6_lay_116 (fun H locs hX => ?_)
        exact xr_vret E hX hQ ((up (up best (pl t d su) 1000000000000000) (pl t d su) (d * d)), (up (up wys (pl t d su) 0) (pl t d su) 1)) hr (by have e : zR now alm abt (now 0 - 1 - t).toNat t d su = (d * d, 1) := lay_last (by rw [← hgd]; exact c_82) (by omega); rw [e, up_up, up_up]) rfl dX6_lay_117
    · have c_82 := c_82
      exact xr_vret E hX hQ ((up best (pl t d su) 1000000000000000), (up wys (pl t d su) 0)) hr (by have e : zR now alm abt (now 0 - 1 - t).toNat t d su = (1000000000000000, 0) := lay_no (by rw [← hgd]; exact c_82); rw [e]) rfl dX6_lay_85
  refine xr_aload_n E hl 1 rfl dX6_lay_26 rfl ?_
  refine xr_iload_n E hl 2 rfl dX6_lay_27 rfl ?_
  refine xr_iload_n E hl 3 rfl dX6_lay_28 rfl ?_
  refine xk_ri E hX [0, 1] rfl (xv_V (As := [.int (iI t), .int (iI d)]) E hX hl (c_X6_may l D y z _ hMo a_now a_asd a_pst a_mrf a_txt a_olt a_ofr a_nbs a_best a_wys a_rwx a_shx a_bef now msts mbyt mord alw bco alm abt mlt beg figm t d H_M (by omega) (by omega) (by omega)) ml_X6_160 im_X6_may se_X6_may in_X6 co_X6_may 2 (by decide) ⟨rfl, rfl⟩ ⟨Nat.le_of_ble_eq_true rfl, Nat.le_of_ble_eq_true rfl⟩ [0, 1] rfl rfl 0 rfl rfl rfl rfl rfl (Nat.le_of_ble_eq_true rfl) dX6_lay_29 ⟨Nat.le_refl _, Nat.le_refl _⟩) (fun r_29 H locs hw hX => ?_)
  subst hw
  refine xr_if_eqB (tgt := 77) E dX6_lay_32 (by decide) (fun c_32 => ?_) (fun c_32 => ?_)
  · have c_32 := of_decide_eq_false c_32
    refine xr_iconst E dX6_lay_77 ?_
    refine xr_toB0 ?_
    refine xr_istore (lv' := [(5, .int (bB false)), (4, .int (iI (pl t d su))), (0, .ref hMo), (1, .int (iI t)), (2, .int (iI d)), (3, .int (iI su))]) E hl dX6_lay_78 (by decide) rfl (fun ls hl => ?_)
    exact L_80_1 false  (by unfold zG rGd; first | exact (decide_eq_true ⟨c_32, fun h => absurd (c_40.symm.trans h.1) (by decide)⟩).symm | exact (decide_eq_true ⟨c_32, fun h => absurd h.2.1 (by omega)⟩).symm | exact (decide_eq_false (fun h => absurd h.1 (by omega))).symm | exact (decide_eq_false (fun h => h.2 ⟨c_40, by omega, by rw [hgp]; exact c_70⟩)).symm | exact (decide_eq_true ⟨c_32, by rw [hgp]; omega⟩).symm) _ _ _ hX (lv_sub hl [2, 3, 4, 5, 1, 0] rfl)
  · have c_32 := of_decide_eq_true c_32
    refine xr_aload_n E hl 1 rfl dX6_lay_35 rfl ?_
    refine xr_iload_n E hl 2 rfl dX6_lay_36 rfl ?_
    refine xk_ri E hX [0, 1] rfl (xv_V (As := [.int (iI t)]) E hX hl (c_X6_isBound l D y z _ hMo a_now a_asd a_pst a_mrf a_txt a_olt a_ofr a_nbs a_best a_wys a_rwx a_shx a_bef now msts mbyt mord alw bco alm abt mlt beg figm t H_M (by omega) (by omega)) ml_X6_151 im_X6_isBound se_X6_isBound in_X6 co_X6_isBound 1 (by decide) ⟨rfl, rfl⟩ ⟨Nat.le_of_ble_eq_true rfl, Nat.le_of_ble_eq_true rfl⟩ [0, 1] rfl rfl 0 rfl rfl rfl rfl rfl (Nat.le_of_ble_eq_true rfl) dX6_lay_37 ⟨Nat.le_refl _, Nat.le_refl _⟩) (fun r_37 H locs hw hX => ?_)
    subst hw
    refine xr_if_eqB (tgt := 73) E dX6_lay_40 (by decide) (fun c_40 => ?_) (fun c_40 => ?_)
    · have c_40 := c_40
      refine xr_iconst E dX6_lay_73 ?_
      refine xr_goto (tgt := 78) E dX6_lay_74 (by decide) ?_
      refine xr_toB1 ?_
      refine xr_istore (lv' := [(5, .int (bB true)), (4, .int (iI (pl t d su))), (0, .ref hMo), (1, .int (iI t)), (2, .int (iI d)), (3, .int (iI su))]) E hl dX6_lay_78 (by decide) rfl (fun ls hl => ?_)
      exact L_80_1 true  (by unfold zG rGd; first | exact (decide_eq_true ⟨c_32, fun h => absurd (c_40.symm.trans h.1) (by decide)⟩).symm | exact (decide_eq_true ⟨c_32, fun h => absurd h.2.1 (by omega)⟩).symm | exact (decide_eq_false (fun h => absurd h.1 (by omega))).symm | exact (decide_eq_false (fun h => h.2 ⟨c_40, by omega, by rw [hgp]; exact c_70⟩)).symm | exact (decide_eq_true ⟨c_32, by rw [hgp]; omega⟩).symm) _ _ _ hX (lv_sub hl [2, 3, 4, 5, 1, 0] rfl)
    · have c_40 := c_40
      refine xr_iload_n E hl 2 rfl dX6_lay_43 rfl ?_
      refine xr_iconst E dX6_lay_44 ?_
      refine xr_irem E dX6_lay_45 ⟨by omega, by omega⟩ (by decide) (by omega) (by omega) ?_
      refine xr_iconst E dX6_lay_46 ?_
      refine xr_icmp_ne (tgt := 73) E dX6_lay_47 (by decide) ⟨by omega, by omega⟩ (by decide) (fun c_47 => ?_) (fun c_47 => ?_)
      · have c_47 := c_47
        refine xr_iconst E dX6_lay_73 ?_
        refine xr_goto (tgt := 78) E dX6_lay_74 (by decide) ?_
        refine xr_toB1 ?_
        refine xr_istore (lv' := [(5, .int (bB true)), (4, .int (iI (pl t d su))), (0, .ref hMo), (1, .int (iI t)), (2, .int (iI d)), (3, .int (iI su))]) E hl dX6_lay_78 (by decide) rfl (fun ls hl => ?_)
        exact L_80_1 true  (by unfold zG rGd; first | exact (decide_eq_true ⟨c_32, fun h => absurd (c_40.symm.trans h.1) (by decide)⟩).symm | exact (decide_eq_true ⟨c_32, fun h => absurd h.2.1 (by omega)⟩).symm | exact (decide_eq_false (fun h => absurd h.1 (by omega))).symm | exact (decide_eq_false (fun h => h.2 ⟨c_40, by omega, by rw [hgp]; exact c_70⟩)).symm | exact (decide_eq_true ⟨c_32, by rw [hgp]; omega⟩).symm) _ _ _ hX (lv_sub hl [2, 3, 4, 5, 1, 0] rfl)
      · have c_47 := c_47
        have hgp : xGp (mI now) (mT now) (now 0) abt (t / 4) = now (13 + t / 4) - xInd (mI now) (now 0) (t / 4) := by unfold xGp; rw [if_pos c_40]; rfl
        have htt := H_M.tot (v := t / 4) (by omega) (by omega)
        have hib := xInd_bd (ind := mI now) (q := now 0) (v := t / 4) (fun t h0 h1 => ⟨(H_M.ind h0 h1).1, (H_M.ind h0 h1).2.1⟩) (by omega) (by omega) hq.2
        refine xr_iload_n E hl 4 rfl dX6_lay_50 rfl ?_
        refine xr_aload_n E hl 1 rfl dX6_lay_51 rfl ?_
        refine xr_get E hX 0 rfl rfl ly_X6 0 (by decide) fl_X6_7 rfl dX6_lay_52 ?_
        refine xr_bipush E dX6_lay_55 (by decide) ?_
        refine xr_iload_n E hl 2 rfl dX6_lay_57 rfl ?_
        refine xr_iconst E dX6_lay_58 ?_
        refine xr_idiv E dX6_lay_59 ⟨by omega, by omega⟩ (by decide) (by omega) (by omega) ?_
        refine xr_iadd E dX6_lay_60 ?_
        refine xr_iald E hX 1 rfl (by omega) (by omega) (by decide) dX6_lay_61 ?_
        refine xr_aload_n E hl 1 rfl dX6_lay_62 rfl ?_
        refine xr_iload_n E hl 2 rfl dX6_lay_63 rfl ?_
        refine xr_iconst E dX6_lay_64 ?_
        refine xr_idiv E dX6_lay_65 ⟨by omega, by omega⟩ (by decide) (by omega) (by omega) ?_
        refine xk_ri E hX [0, 1] rfl (xv_V (As := [.int (iI (t / 4))]) E hX hl (c_X6_together l D y z _ hMo a_now a_asd a_pst a_mrf a_txt a_olt a_ofr a_nbs a_best a_wys a_rwx a_shx a_bef now msts mbyt mord alw bco alm abt mlt beg figm (t / 4) H_M (by omega)) ml_X6_130 im_X6_together se_X6_together in_X6 co_X6_together 1 (by decide) ⟨rfl, rfl⟩ ⟨Nat.le_of_ble_eq_true rfl, Nat.le_of_ble_eq_true rfl⟩ [0, 1] rfl rfl 0 rfl rfl rfl rfl rfl (Nat.le_of_ble_eq_true rfl) dX6_lay_66 ⟨Nat.le_refl _, Nat.le_refl _⟩) (fun r_66 H locs hw hX => ?_)
        subst hw
        refine xr_isub E dX6_lay_69 ?_
        refine xr_icmp_ne (tgt := 77) E dX6_lay_70 (by decide) ⟨by omega, by omega⟩ ⟨by omega, by omega⟩ (fun c_70 => ?_) (fun c_70 => ?_)
        · have c_70 := c_70
          refine xr_iconst E dX6_lay_77 ?_
          refine xr_toB0 ?_
          refine xr_istore (lv' := [(5, .int (bB false)), (4, .int (iI (pl t d su))), (0, .ref hMo), (1, .int (iI t)), (2, .int (iI d)), (3, .int (iI su))]) E hl dX6_lay_78 (by decide) rfl (fun ls hl => ?_)
          exact L_80_1 false  (by unfold zG rGd; first | exact (decide_eq_true ⟨c_32, fun h => absurd (c_40.symm.trans h.1) (by decide)⟩).symm | exact (decide_eq_true ⟨c_32, fun h => absurd h.2.1 (by omega)⟩).symm | exact (decide_eq_false (fun h => absurd h.1 (by omega))).symm | exact (decide_eq_false (fun h => h.2 ⟨c_40, by omega, by rw [hgp]; exact c_70⟩)).symm | exact (decide_eq_true ⟨c_32, by rw [hgp]; omega⟩).symm) _ _ _ hX (lv_sub hl [2, 3, 4, 5, 1, 0] rfl)
        · have c_70 := c_70
          refine xr_iconst E dX6_lay_73 ?_
          refine xr_goto (tgt := 78) E dX6_lay_74 (by decide) ?_
          refine xr_toB1 ?_
          refine xr_istore (lv' := [(5, .int (bB true)), (4, .int (iI (pl t d su))), (0, .ref hMo), (1, .int (iI t)), (2, .int (iI d)), (3, .int (iI su))]) E hl dX6_lay_78 (by decide) rfl (fun ls hl => ?_)
          exact L_80_1 true  (by unfold zG rGd; first | exact (decide_eq_true ⟨c_32, fun h => absurd (c_40.symm.trans h.1) (by decide)⟩).symm | exact (decide_eq_true ⟨c_32, fun h => absurd h.2.1 (by omega)⟩).symm | exact (decide_eq_false (fun h => absurd h.1 (by omega))).symm | exact (decide_eq_false (fun h => h.2 ⟨c_40, by omega, by rw [hgp]; exact c_70⟩)).symm | exact (decide_eq_true ⟨c_32, by rw [hgp]; omega⟩).symm) _ _ _ hX (lv_sub hl [2, 3, 4, 5, 1, 0] rfl)
