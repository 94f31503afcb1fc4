/-! the reference: THE TEXT -/
abbrev W_Mrb (y : CY) (hMo a_now a_asd a_pst a_mrf a_txt a_olt a_ofr a_nbs a_best a_wys a_rwx a_shx a_bef : Nat) (msts : Int) (mbyt : Int) (olt : Int → Int) (ofr : Int → Int) (nbs : Int → Int) (mord : Int) (alw : Int) (bco : Int) (alm : Int) (abt : Int) (mlt : Int) (beg : Int) (figm : Int) : va_W := [(hMo, .inr (6, [.ref a_now, .ref a_asd, .ref a_pst, .int (iI msts), .ref a_mrf, .ref a_txt, .int (iI mbyt), .ref a_olt, .ref a_ofr, .ref a_nbs, .int (iI mord), .ref a_best, .ref a_wys, .ref a_rwx, .int (iI alw), .long (lI bco), .int (iI alm), .int (iI abt), .ref a_shx, .int (iI mlt), .int (iI beg), .int (iI figm), .ref a_bef])), (a_olt, .inl (y.1, 120, .inl (ia olt))), (a_ofr, .inl (y.1, 121, .inl (ia ofr))), (a_nbs, .inl (y.1, 120, .inl (ia nbs)))]
abbrev W_Mrt (y : CY) (hMo a_now a_asd a_pst a_mrf a_txt a_olt a_ofr a_nbs a_best a_wys a_rwx a_shx a_bef : Nat) (msts : Int) (txt : Int → Int) (mbyt : Int) (olt : Int → Int) (ofr : Int → Int) (nbs : Int → Int) (mord : Int) (alw : Int) (bco : Int) (alm : Int) (abt : Int) (mlt : Int) (beg : Int) (figm : Int) : va_W := [(hMo, .inr (6, [.ref a_now, .ref a_asd, .ref a_pst, .int (iI msts), .ref a_mrf, .ref a_txt, .int (iI mbyt), .ref a_olt, .ref a_ofr, .ref a_nbs, .int (iI mord), .ref a_best, .ref a_wys, .ref a_rwx, .int (iI alw), .long (lI bco), .int (iI alm), .int (iI abt), .ref a_shx, .int (iI mlt), .int (iI beg), .int (iI figm), .ref a_bef])), (a_txt, .inl (y.1, 120, .inl (ia txt))), (a_olt, .inl (y.1, 120, .inl (ia olt))), (a_ofr, .inl (y.1, 121, .inl (ia ofr))), (a_nbs, .inl (y.1, 120, .inl (ia nbs)))]
abbrev W_Mdo (y : CY) (hMo a_now a_asd a_pst a_mrf a_txt a_olt a_ofr a_nbs a_best a_wys a_rwx a_shx a_bef : Nat) (now : Int → Int) (msts : Int) (mbyt : Int) (olt : Int → Int) (ofr : Int → Int) (nbs : Int → Int) (mord : Int) (best : Int → Int) (wys : Int → Int) (rwx : Int → Int) (alw : Int) (bco : Int) (alm : Int) (abt : Int) (mlt : Int) (beg : Int) (figm : Int) : va_W := [(hMo, .inr (6, [.ref a_now, .ref a_asd, .ref a_pst, .int (iI msts), .ref a_mrf, .ref a_txt, .int (iI mbyt), .ref a_olt, .ref a_ofr, .ref a_nbs, .int (iI mord), .ref a_best, .ref a_wys, .ref a_rwx, .int (iI alw), .long (lI bco), .int (iI alm), .int (iI abt), .ref a_shx, .int (iI mlt), .int (iI beg), .int (iI figm), .ref a_bef])), (a_now, .inl (y.1, 31, .inl (ia now))), (a_olt, .inl (y.1, 120, .inl (ia olt))), (a_ofr, .inl (y.1, 121, .inl (ia ofr))), (a_nbs, .inl (y.1, 120, .inl (ia nbs))), (a_best, .inl (y.2.1, 13260, .inr (.inl (la best)))), (a_wys, .inl (y.1, 13260, .inl (ia wys))), (a_rwx, .inl (y.1, 12, .inl (ia rwx)))]
abbrev rm_X6_readByte : Room := { frames := 1, cells := 0, slots := 0, locals := 25 }
set_option maxHeartbeats 4000000 in
set_option maxRecDepth 100000 in
theorem c_X6_readByte (l : Launch) (D : va_G) (y : CY) (z sz : Nat) (hMo a_now a_asd a_pst a_mrf a_txt a_olt a_ofr a_nbs a_best a_wys a_rwx a_shx a_bef : Nat) (msts : Int) (mbyt : Int) (olt : Int → Int) (ofr : Int → Int) (nbs : Int → Int) (mord : Int) (alw : Int) (bco : Int) (alm : Int) (abt : Int) (mlt : Int) (beg : Int) (figm : Int) (c : Int) (n : Int) (S : PS) (hc : 0 ≤ c ∧ c ≤ 127) (hn : 0 ≤ n ∧ n < 120) (H_P : PIS n S) (H_S : SimS n S mlt beg figm mord olt ofr nbs) : Met l yX6_readByte (Cond.code yX6_readByte cX6_readByte 3 (some .boolean) :: TW) rm_X6_readByte (va_Pc [.ref hMo, .int (iI c)] (PX D y z (W_Mrb y hMo a_now a_asd a_pst a_mrf a_txt a_olt a_ofr a_nbs a_best a_wys a_rwx a_shx a_bef msts mbyt olt ofr nbs mord alw bco alm abt mlt beg figm) sz)) (va_Qi (fun (r : Int32) (uu : (Int) × (Int) × (Int) × (Int) × (Int → Int) × (Int → Int) × (Int → Int)) => r = bB ((pByteS c S).1) ∧ ((pByteS c S).1 = true → SimS (n + 1) (pByteS c S).2 uu.1 uu.2.1 uu.2.2.1 uu.2.2.2.1 uu.2.2.2.2.1 uu.2.2.2.2.2.1 uu.2.2.2.2.2.2)) (fun uu t => BX D (W_Mrb y hMo a_now a_asd a_pst a_mrf a_txt a_olt a_ofr a_nbs a_best a_wys a_rwx a_shx a_bef msts mbyt uu.2.2.2.2.1 uu.2.2.2.2.2.1 uu.2.2.2.2.2.2 uu.2.2.2.1 alw bco alm abt uu.1 uu.2.1 uu.2.2.1) (va_A (W_Mrb y hMo a_now a_asd a_pst a_mrf a_txt a_olt a_ofr a_nbs a_best a_wys a_rwx a_shx a_bef msts mbyt olt ofr nbs mord alw bco alm abt mlt beg figm) sz) t) (va_A (W_Mrb y hMo a_now a_asd a_pst a_mrf a_txt a_olt a_ofr a_nbs a_best a_wys a_rwx a_shx a_bef msts mbyt olt ofr nbs mord alw bco alm abt mlt beg figm) sz)) 0 0 (va_A (W_Mrb y hMo a_now a_asd a_pst a_mrf a_txt a_olt a_ofr a_nbs a_best a_wys a_rwx a_shx a_bef msts mbyt olt ofr nbs mord alw bco alm abt mlt beg figm) sz) := by
  refine xm_i (by decide) (Nat.le_of_ble_eq_true rfl) (fun p e s m args below meth cX ls A Q E hr hnm hX hl hQ => ?_)
  have hl : lv_has ls 3 [(0, .ref hMo), (1, .int (iI c))] := hl
  have hsb := sim_bd (by omega) H_P H_S
  have hnc := xNum_bd c
  have hnl := xNum_bd mlt
  refine xr_aload_n E hl 0 rfl dX6_readByte_0 rfl ?_
  refine xr_get E hX 0 rfl rfl ly_X6 19 (by decide) fl_X6_212 rfl dX6_readByte_1 ?_
  refine xr_if_ne (tgt := 54) E dX6_readByte_4 (by decide) ⟨by omega, by omega⟩ (fun c_4 => ?_) (fun c_4 => ?_)
  · have c_4 := c_4
    have hs2 := hsb.2.2 c_4
    refine xr_iload_n E hl 1 rfl dX6_readByte_54 rfl ?_
    refine xr_bipush E dX6_readByte_55 (by decide) ?_
    refine xr_icmp_ne (tgt := 67) E dX6_readByte_57 (by decide) ⟨by omega, by omega⟩ (by decide) (fun c_57 => ?_) (fun c_57 => ?_)
    · have c_57 := c_57
      refine xr_iload_n E hl 1 rfl dX6_readByte_67 rfl ?_
      refine xr_i2l E dX6_readByte_68 ⟨by omega, by omega⟩ ?_
      refine xr_ldc2 (n := 48) E kl_X6_227 dX6_readByte_69 (by decide) ?_
      refine xr_ldc2 (n := 57) E kl_X6_229 dX6_readByte_72 (by decide) ?_
      refine xk_ri E hX [] rfl (xv_S (As := [.long (lI c), .long (lI 48), .long (lI 57)]) E hX hl (c_X6_in l D y z _ c 48 57 ⟨by omega, by omega⟩ ⟨by omega, by omega⟩ ⟨by omega, by omega⟩) ml_X6_62 st_X6_in in_X6 co_X6_in 3 (by decide) ⟨rfl, rfl⟩ ⟨Nat.le_of_ble_eq_true rfl, Nat.le_of_ble_eq_true rfl⟩ [] rfl rfl rfl rfl (Nat.le_of_ble_eq_true rfl) dX6_readByte_75 ⟨Nat.le_refl _, Nat.le_refl _⟩) (fun r_75 H locs hw hX => ?_)
      subst hw
      refine xr_if_eqB (tgt := 204) E dX6_readByte_78 (by decide) (fun c_78 => ?_) (fun c_78 => ?_)
      · have c_78 := of_decide_eq_false c_78
        refine xr_iload_n E hl 1 rfl dX6_readByte_204 rfl ?_
        refine xr_bipush E dX6_readByte_205 (by decide) ?_
        refine xr_icmp_ne (tgt := 224) E dX6_readByte_207 (by decide) ⟨by omega, by omega⟩ (by decide) (fun c_207 => ?_) (fun c_207 => ?_)
        · have c_207 := c_207
          refine xr_iconst E dX6_readByte_224 ?_
          exact xr_zret E hX hQ (mlt, beg, figm, mord, olt, ofr, nbs) hr (iI_bB0 (b := false) rfl) (by have h9 := sim_clN H_S c_4 (by omega) (by omega) (by omega); exact ⟨iI_bB0 h9, fun hh => absurd (h9.symm.trans hh) (by decide)⟩) rfl dX6_readByte_225
        · have c_207 := c_207
          refine xr_aload_n E hl 0 rfl dX6_readByte_210 rfl ?_
          refine xr_get E hX 0 rfl rfl ly_X6 20 (by decide) fl_X6_215 rfl dX6_readByte_211 ?_
          refine xr_aload_n E hl 0 rfl dX6_readByte_214 rfl ?_
          refine xr_get E hX 0 rfl rfl ly_X6 19 (by decide) fl_X6_212 rfl dX6_readByte_215 ?_
          refine xk_ri E hX [] rfl (xv_S (As := [.int (iI mlt)]) E hX hl (c_X6_wantsOf l D y z _ mlt ⟨by omega, by omega⟩) ml_X6_224 st_X6_wantsOf in_X6 co_X6_wantsOf 1 (by decide) ⟨rfl, rfl⟩ ⟨Nat.le_of_ble_eq_true rfl, Nat.le_of_ble_eq_true rfl⟩ [] rfl rfl rfl rfl (Nat.le_of_ble_eq_true rfl) dX6_readByte_218 ⟨Nat.le_refl _, Nat.le_refl _⟩) (fun r_218 H locs hw hX => ?_)
          subst hw
          refine xr_icmp_ge (tgt := 226) E dX6_readByte_221 (by decide) ⟨by omega, by omega⟩ ⟨by omega, by omega⟩ (fun c_221 => ?_) (fun c_221 => ?_)
          · have c_221 := c_221
            refine xr_aload_n E hl 0 rfl dX6_readByte_226 rfl ?_
            refine xr_iconst E dX6_readByte_227 ?_
            refine xr_put (W1 := (W_Mrb y hMo a_now a_asd a_pst a_mrf a_txt a_olt a_ofr a_nbs a_best a_wys a_rwx a_shx a_bef msts mbyt olt ofr nbs mord alw bco alm abt 0 beg figm)) E hX 0 rfl rfl ly_X6 tyX6_ok nmX6 19 (by decide) fl_X6_212 rfl rfl rfl (Nat.le_of_ble_eq_true rfl) rfl dX6_readByte_228 (fun H locs hX => ?_)
            refine xr_aload_n E hl 0 rfl dX6_readByte_231 rfl ?_
            refine xr_get E hX 0 rfl rfl ly_X6 8 (by decide) fl_X6_28 rfl dX6_readByte_232 ?_
            refine xr_aload_n E hl 0 rfl dX6_readByte_235 rfl ?_
            refine xr_get E hX 0 rfl rfl ly_X6 10 (by decide) fl_X6_221 rfl dX6_readByte_236 ?_
            refine xr_iconst E dX6_readByte_239 ?_
            refine xr_iadd E dX6_readByte_240 ?_
            refine xr_aload_n E hl 0 rfl dX6_readByte_241 rfl ?_
            refine xr_get E hX 0 rfl rfl ly_X6 8 (by decide) fl_X6_28 rfl dX6_readByte_242 ?_
            refine xr_aload_n E hl 0 rfl dX6_readByte_245 rfl ?_
            refine xr_get E hX 0 rfl rfl ly_X6 10 (by decide) fl_X6_221 rfl dX6_readByte_246 ?_
            refine xr_iald E hX 2 rfl (by omega) (by omega) (by decide) dX6_readByte_249 ?_
            refine xr_aload_n E hl 0 rfl dX6_readByte_250 rfl ?_
            refine xr_get E hX 0 rfl rfl ly_X6 20 (by decide) fl_X6_215 rfl dX6_readByte_251 ?_
            refine xr_iadd E dX6_readByte_254 ?_
            refine xr_iast (W1 := (W_Mrb y hMo a_now a_asd a_pst a_mrf a_txt a_olt a_ofr a_nbs a_best a_wys a_rwx a_shx a_bef msts mbyt olt (up ofr (mord + 1) ((ofr mord) + beg)) nbs mord alw bco alm abt 0 beg figm)) E hX 2 rfl (by omega) (by omega) (by decide) rfl dX6_readByte_255 (fun H locs hX => ?_)
            refine xr_aload_n E hl 0 rfl dX6_readByte_256 rfl ?_
            refine xr_dup E dX6_readByte_257 rfl ?_
            refine xr_get E hX 0 rfl rfl ly_X6 10 (by decide) fl_X6_221 rfl dX6_readByte_258 ?_
            refine xr_iconst E dX6_readByte_261 ?_
            refine xr_iadd E dX6_readByte_262 ?_
            refine xr_put (W1 := (W_Mrb y hMo a_now a_asd a_pst a_mrf a_txt a_olt a_ofr a_nbs a_best a_wys a_rwx a_shx a_bef msts mbyt olt (up ofr (mord + 1) ((ofr mord) + beg)) nbs (mord + 1) alw bco alm abt 0 beg figm)) E hX 0 rfl rfl ly_X6 tyX6_ok nmX6 10 (by decide) fl_X6_221 rfl rfl rfl (Nat.le_of_ble_eq_true rfl) rfl dX6_readByte_263 (fun H locs hX => ?_)
            refine xr_iconst E dX6_readByte_266 ?_
            exact xr_zret E hX hQ (0, beg, figm, (mord + 1), olt, (up ofr (mord + 1) ((ofr mord) + beg)), nbs) hr (iI_bB1 (b := true) rfl) (by have h9 := sim_clY H_P H_S c_4 (by omega) (by omega); exact ⟨iI_bB1 h9.1, fun _ => h9.2⟩) rfl dX6_readByte_267
          · have c_221 := c_221
            refine xr_iconst E dX6_readByte_224 ?_
            exact xr_zret E hX hQ (mlt, beg, figm, mord, olt, ofr, nbs) hr (iI_bB0 (b := false) rfl) (by have h9 := sim_clN H_S c_4 (by omega) (by omega) (by omega); exact ⟨iI_bB0 h9, fun hh => absurd (h9.symm.trans hh) (by decide)⟩) rfl dX6_readByte_225
      · have c_78 := of_decide_eq_true c_78
        refine xr_aload_n E hl 0 rfl dX6_readByte_81 rfl ?_
        refine xr_get E hX 0 rfl rfl ly_X6 21 (by decide) fl_X6_218 rfl dX6_readByte_82 ?_
        refine xr_iconst E dX6_readByte_85 ?_
        refine xr_icmp_eq (tgt := 110) E dX6_readByte_86 (by decide) ⟨by omega, by omega⟩ (by decide) (fun c_86 => ?_) (fun c_86 => ?_)
        · have c_86 := c_86
          refine xr_iconst E dX6_readByte_110 ?_
          exact xr_zret E hX hQ (mlt, beg, figm, mord, olt, ofr, nbs) hr (iI_bB0 (b := false) rfl) (by have h9 := sim_fgN H_P H_S c_4 (by omega) (by omega); exact ⟨iI_bB0 h9, fun hh => absurd (h9.symm.trans hh) (by decide)⟩) rfl dX6_readByte_111
        · have c_86 := c_86
          refine xr_aload_n E hl 0 rfl dX6_readByte_89 rfl ?_
          refine xr_get E hX 0 rfl rfl ly_X6 21 (by decide) fl_X6_218 rfl dX6_readByte_90 ?_
          refine xr_if_ne (tgt := 112) E dX6_readByte_93 (by decide) ⟨by omega, by omega⟩ (fun c_93 => ?_) (fun c_93 => ?_)
          · have c_93 := c_93
            refine xr_aload_n E hl 0 rfl dX6_readByte_112 rfl ?_
            refine xr_get E hX 0 rfl rfl ly_X6 8 (by decide) fl_X6_28 rfl dX6_readByte_113 ?_
            refine xr_aload_n E hl 0 rfl dX6_readByte_116 rfl ?_
            refine xr_get E hX 0 rfl rfl ly_X6 10 (by decide) fl_X6_221 rfl dX6_readByte_117 ?_
            refine xr_iald E hX 2 rfl (by omega) (by omega) (by decide) dX6_readByte_120 ?_
            refine xr_aload_n E hl 0 rfl dX6_readByte_121 rfl ?_
            refine xr_get E hX 0 rfl rfl ly_X6 20 (by decide) fl_X6_215 rfl dX6_readByte_122 ?_
            refine xr_iadd E dX6_readByte_125 ?_
            refine xr_aload_n E hl 0 rfl dX6_readByte_126 rfl ?_
            refine xr_get E hX 0 rfl rfl ly_X6 21 (by decide) fl_X6_218 rfl dX6_readByte_127 ?_
            refine xr_if_ne (tgt := 137) E dX6_readByte_130 (by decide) ⟨by omega, by omega⟩ (fun c_130 => ?_) (fun c_130 => ?_)
            · have c_130 := c_130
              refine xr_iconst E dX6_readByte_137 ?_
              refine xr_isub E dX6_readByte_138 ?_
              refine xr_istore_n (lv' := [(2, .int (iI (((ofr mord) + beg) - 1))), (0, .ref hMo), (1, .int (iI c))]) E hl dX6_readByte_139 rfl (by decide) rfl (fun ls hl => ?_)
              refine xr_aload_n E hl 1 rfl dX6_readByte_140 rfl ?_
              refine xr_get E hX 0 rfl rfl ly_X6 9 (by decide) fl_X6_31 rfl dX6_readByte_141 ?_
              refine xr_iload_n E hl 0 rfl dX6_readByte_144 rfl ?_
              refine xr_aload_n E hl 1 rfl dX6_readByte_145 rfl ?_
              refine xr_get E hX 0 rfl rfl ly_X6 21 (by decide) fl_X6_218 rfl dX6_readByte_146 ?_
              refine xr_if_ne (tgt := 156) E dX6_readByte_149 (by decide) ⟨by omega, by omega⟩ (fun c_149 => ?_) (fun c_149 => ?_)
              · have c_149 := c_149
                refine xr_bipush E dX6_readByte_156 (by decide) ?_
                refine xr_aload_n E hl 1 rfl dX6_readByte_158 rfl ?_
                refine xr_get E hX 0 rfl rfl ly_X6 9 (by decide) fl_X6_31 rfl dX6_readByte_159 ?_
                refine xr_iload_n E hl 0 rfl dX6_readByte_162 rfl ?_
                refine xr_iald E hX 3 rfl (by omega) (by omega) (by decide) dX6_readByte_163 ?_
                refine xr_imul E dX6_readByte_164 ?_
                refine xr_iload_n E hl 2 rfl dX6_readByte_165 rfl ?_
                refine xr_iadd E dX6_readByte_166 ?_
                refine xr_bipush E dX6_readByte_167 (by decide) ?_
                refine xr_isub E dX6_readByte_169 ?_
                refine xr_iast (W1 := (W_Mrb y hMo a_now a_asd a_pst a_mrf a_txt a_olt a_ofr a_nbs a_best a_wys a_rwx a_shx a_bef msts mbyt olt ofr (up nbs (((ofr mord) + beg) - 1) (((10 * (nbs (((ofr mord) + beg) - 1))) + c) - 48)) mord alw bco alm abt mlt beg figm)) E hX 3 rfl (by omega) (by omega) (by decide) rfl dX6_readByte_170 (fun H locs hX => ?_)
                refine xr_aload_n E hl 1 rfl dX6_readByte_171 rfl ?_
                refine xr_dup E dX6_readByte_172 rfl ?_
                refine xr_get E hX 0 rfl rfl ly_X6 20 (by decide) fl_X6_215 rfl dX6_readByte_173 ?_
                refine xr_aload_n E hl 1 rfl dX6_readByte_176 rfl ?_
                refine xr_get E hX 0 rfl rfl ly_X6 21 (by decide) fl_X6_218 rfl dX6_readByte_177 ?_
                refine xr_if_ne (tgt := 187) E dX6_readByte_180 (by decide) ⟨by omega, by omega⟩ (fun c_180 => ?_) (fun c_180 => ?_)
                · have c_180 := c_180
                  refine xr_iconst E dX6_readByte_187 ?_
                  refine xr_iadd E dX6_readByte_188 ?_
                  refine xr_put (W1 := (W_Mrb y hMo a_now a_asd a_pst a_mrf a_txt a_olt a_ofr a_nbs a_best a_wys a_rwx a_shx a_bef msts mbyt olt ofr (up nbs (((ofr mord) + beg) - 1) (((10 * (nbs (((ofr mord) + beg) - 1))) + c) - 48)) mord alw bco alm abt mlt (beg + 0) figm)) E hX 0 rfl rfl ly_X6 tyX6_ok nmX6 20 (by decide) fl_X6_215 rfl rfl rfl (Nat.le_of_ble_eq_true rfl) rfl dX6_readByte_189 (fun H locs hX => ?_)
                  refine xr_aload_n E hl 1 rfl dX6_readByte_192 rfl ?_
                  refine xr_dup E dX6_readByte_193 rfl ?_
                  refine xr_get E hX 0 rfl rfl ly_X6 21 (by decide) fl_X6_218 rfl dX6_readByte_194 ?_
                  refine xr_iconst E dX6_readByte_197 ?_
                  refine xr_iadd E dX6_readByte_198 ?_
                  refine xr_put (W1 := (W_Mrb y hMo a_now a_asd a_pst a_mrf a_txt a_olt a_ofr a_nbs a_best a_wys a_rwx a_shx a_bef msts mbyt olt ofr (up nbs (((ofr mord) + beg) - 1) (((10 * (nbs (((ofr mord) + beg) - 1))) + c) - 48)) mord alw bco alm abt mlt (beg + 0) (figm + 1))) E hX 0 rfl rfl ly_X6 tyX6_ok nmX6 21 (by decide) fl_X6_218 rfl rfl rfl (Nat.le_of_ble_eq_true rfl) rfl dX6_readByte_199 (fun H locs hX => ?_)
                  refine xr_iconst E dX6_readByte_202 ?_
                  exact xr_zret E hX hQ (mlt, (beg + 0), (figm + 1), mord, olt, ofr, (up nbs (((ofr mord) + beg) - 1) (((10 * (nbs (((ofr mord) + beg) - 1))) + c) - 48))) hr (iI_bB1 (b := true) rfl) (by first | (exfalso; omega) | exact (by have h9 := sim_fgY (pos := ofr mord + beg - 0) (val := 0 + c - 48) (beg2 := beg + 1) (fig2 := figm + 1) H_P hn.2 H_S c_4 (by omega) (by omega) (by omega) (by rw [if_pos (by omega)]) (by rw [if_pos (by omega)]) (by rw [if_pos (by omega)]) rfl; exact ⟨iI_bB1 h9.1, fun _ => h9.2⟩) | exact (by have h9 := sim_fgY (pos := ofr mord + beg - 1) (val := 10 * nbs (ofr mord + beg - 1) + c - 48) (beg2 := beg + 0) (fig2 := figm + 1) H_P hn.2 H_S c_4 (by omega) (by omega) (by omega) (by rw [if_neg (by omega)]) (by rw [if_neg (by omega)]) (by rw [if_neg (by omega)]) rfl; exact ⟨iI_bB1 h9.1, fun _ => h9.2⟩)) rfl dX6_readByte_203
                · have c_180 := c_180
                  refine xr_iconst E dX6_readByte_183 ?_
                  refine xr_goto (tgt := 188) E dX6_readByte_184 (by decide) ?_
                  refine xr_iadd E dX6_readByte_188 ?_
                  refine xr_put (W1 := (W_Mrb y hMo a_now a_asd a_pst a_mrf a_txt a_olt a_ofr a_nbs a_best a_wys a_rwx a_shx a_bef msts mbyt olt ofr (up nbs (((ofr mord) + beg) - 1) (((10 * (nbs (((ofr mord) + beg) - 1))) + c) - 48)) mord alw bco alm abt mlt (beg + 1) figm)) E hX 0 rfl rfl ly_X6 tyX6_ok nmX6 20 (by decide) fl_X6_215 rfl rfl rfl (Nat.le_of_ble_eq_true rfl) rfl dX6_readByte_189 (fun H locs hX => ?_)
                  refine xr_aload_n E hl 1 rfl dX6_readByte_192 rfl ?_
                  refine xr_dup E dX6_readByte_193 rfl ?_
                  refine xr_get E hX 0 rfl rfl ly_X6 21 (by decide) fl_X6_218 rfl dX6_readByte_194 ?_
                  refine xr_iconst E dX6_readByte_197 ?_
                  refine xr_iadd E dX6_readByte_198 ?_
                  refine xr_put (W1 := (W_Mrb y hMo a_now a_asd a_pst a_mrf a_txt a_olt a_ofr a_nbs a_best a_wys a_rwx a_shx a_bef msts mbyt olt ofr (up nbs (((ofr mord) + beg) - 1) (((10 * (nbs (((ofr mord) + beg) - 1))) + c) - 48)) mord alw bco alm abt mlt (beg + 1) (figm + 1))) E hX 0 rfl rfl ly_X6 tyX6_ok nmX6 21 (by decide) fl_X6_218 rfl rfl rfl (Nat.le_of_ble_eq_true rfl) rfl dX6_readByte_199 (fun H locs hX => ?_)
                  refine xr_iconst E dX6_readByte_202 ?_
                  exact xr_zret E hX hQ (mlt, (beg + 1), (figm + 1), mord, olt, ofr, (up nbs (((ofr mord) + beg) - 1) (((10 * (nbs (((ofr mord) + beg) - 1))) + c) - 48))) hr (iI_bB1 (b := true) rfl) (by first | (exfalso; omega) | exact (by have h9 := sim_fgY (pos := ofr mord + beg - 0) (val := 0 + c - 48) (beg2 := beg + 1) (fig2 := figm + 1) H_P hn.2 H_S c_4 (by omega) (by omega) (by omega) (by rw [if_pos (by omega)]) (by rw [if_pos (by omega)]) (by rw [if_pos (by omega)]) rfl; exact ⟨iI_bB1 h9.1, fun _ => h9.2⟩) | exact (by have h9 := sim_fgY (pos := ofr mord + beg - 1) (val := 10 * nbs (ofr mord + beg - 1) + c - 48) (beg2 := beg + 0) (fig2 := figm + 1) H_P hn.2 H_S c_4 (by omega) (by omega) (by omega) (by rw [if_neg (by omega)]) (by rw [if_neg (by omega)]) (by rw [if_neg (by omega)]) rfl; exact ⟨iI_bB1 h9.1, fun _ => h9.2⟩)) rfl dX6_readByte_203
              · have c_149 := c_149
                refine xr_iconst E dX6_readByte_152 ?_
                refine xr_goto (tgt := 165) E dX6_readByte_153 (by decide) ?_
                refine xr_iload_n E hl 2 rfl dX6_readByte_165 rfl ?_
                refine xr_iadd E dX6_readByte_166 ?_
                refine xr_bipush E dX6_readByte_167 (by decide) ?_
                refine xr_isub E dX6_readByte_169 ?_
                refine xr_iast (W1 := (W_Mrb y hMo a_now a_asd a_pst a_mrf a_txt a_olt a_ofr a_nbs a_best a_wys a_rwx a_shx a_bef msts mbyt olt ofr (up nbs (((ofr mord) + beg) - 1) ((0 + c) - 48)) mord alw bco alm abt mlt beg figm)) E hX 3 rfl (by omega) (by omega) (by decide) rfl dX6_readByte_170 (fun H locs hX => ?_)
                refine xr_aload_n E hl 1 rfl dX6_readByte_171 rfl ?_
                refine xr_dup E dX6_readByte_172 rfl ?_
                refine xr_get E hX 0 rfl rfl ly_X6 20 (by decide) fl_X6_215 rfl dX6_readByte_173 ?_
                refine xr_aload_n E hl 1 rfl dX6_readByte_176 rfl ?_
                refine xr_get E hX 0 rfl rfl ly_X6 21 (by decide) fl_X6_218 rfl dX6_readByte_177 ?_
                refine xr_if_ne (tgt := 187) E dX6_readByte_180 (by decide) ⟨by omega, by omega⟩ (fun c_180 => ?_) (fun c_180 => ?_)
                · have c_180 := c_180
                  refine xr_iconst E dX6_readByte_187 ?_
                  refine xr_iadd E dX6_readByte_188 ?_
                  refine xr_put (W1 := (W_Mrb y hMo a_now a_asd a_pst a_mrf a_txt a_olt a_ofr a_nbs a_best a_wys a_rwx a_shx a_bef msts mbyt olt ofr (up nbs (((ofr mord) + beg) - 1) ((0 + c) - 48)) mord alw bco alm abt mlt (beg + 0) figm)) E hX 0 rfl rfl ly_X6 tyX6_ok nmX6 20 (by decide) fl_X6_215 rfl rfl rfl (Nat.le_of_ble_eq_true rfl) rfl dX6_readByte_189 (fun H locs hX => ?_)
                  refine xr_aload_n E hl 1 rfl dX6_readByte_192 rfl ?_
                  refine xr_dup E dX6_readByte_193 rfl ?_
                  refine xr_get E hX 0 rfl rfl ly_X6 21 (by decide) fl_X6_218 rfl dX6_readByte_194 ?_
                  refine xr_iconst E dX6_readByte_197 ?_
                  refine xr_iadd E dX6_readByte_198 ?_
                  refine xr_put (W1 := (W_Mrb y hMo a_now a_asd a_pst a_mrf a_txt a_olt a_ofr a_nbs a_best a_wys a_rwx a_shx a_bef msts mbyt olt ofr (up nbs (((ofr mord) + beg) - 1) ((0 + c) - 48)) mord alw bco alm abt mlt (beg + 0) (figm + 1))) E hX 0 rfl rfl ly_X6 tyX6_ok nmX6 21 (by decide) fl_X6_218 rfl rfl rfl (Nat.le_of_ble_eq_true rfl) rfl dX6_readByte_199 (fun H locs hX => ?_)
                  refine xr_iconst E dX6_readByte_202 ?_
                  exact xr_zret E hX hQ (mlt, (beg + 0), (figm + 1), mord, olt, ofr, (up nbs (((ofr mord) + beg) - 1) ((0 + c) - 48))) hr (iI_bB1 (b := true) rfl) (by first | (exfalso; omega) | exact (by have h9 := sim_fgY (pos := ofr mord + beg - 0) (val := 0 + c - 48) (beg2 := beg + 1) (fig2 := figm + 1) H_P hn.2 H_S c_4 (by omega) (by omega) (by omega) (by rw [if_pos (by omega)]) (by rw [if_pos (by omega)]) (by rw [if_pos (by omega)]) rfl; exact ⟨iI_bB1 h9.1, fun _ => h9.2⟩) | exact (by have h9 := sim_fgY (pos := ofr mord + beg - 1) (val := 10 * nbs (ofr mord + beg - 1) + c - 48) (beg2 := beg + 0) (fig2 := figm + 1) H_P hn.2 H_S c_4 (by omega) (by omega) (by omega) (by rw [if_neg (by omega)]) (by rw [if_neg (by omega)]) (by rw [if_neg (by omega)]) rfl; exact ⟨iI_bB1 h9.1, fun _ => h9.2⟩)) rfl dX6_readByte_203
                · have c_180 := c_180
                  refine xr_iconst E dX6_readByte_183 ?_
                  refine xr_goto (tgt := 188) E dX6_readByte_184 (by decide) ?_
                  refine xr_iadd E dX6_readByte_188 ?_
                  refine xr_put (W1 := (W_Mrb y hMo a_now a_asd a_pst a_mrf a_txt a_olt a_ofr a_nbs a_best a_wys a_rwx a_shx a_bef msts mbyt olt ofr (up nbs (((ofr mord) + beg) - 1) ((0 + c) - 48)) mord alw bco alm abt mlt (beg + 1) figm)) E hX 0 rfl rfl ly_X6 tyX6_ok nmX6 20 (by decide) fl_X6_215 rfl rfl rfl (Nat.le_of_ble_eq_true rfl) rfl dX6_readByte_189 (fun H locs hX => ?_)
                  refine xr_aload_n E hl 1 rfl dX6_readByte_192 rfl ?_
                  refine xr_dup E dX6_readByte_193 rfl ?_
                  refine xr_get E hX 0 rfl rfl ly_X6 21 (by decide) fl_X6_218 rfl dX6_readByte_194 ?_
                  refine xr_iconst E dX6_readByte_197 ?_
                  refine xr_iadd E dX6_readByte_198 ?_
                  refine xr_put (W1 := (W_Mrb y hMo a_now a_asd a_pst a_mrf a_txt a_olt a_ofr a_nbs a_best a_wys a_rwx a_shx a_bef msts mbyt olt ofr (up nbs (((ofr mord) + beg) - 1) ((0 + c) - 48)) mord alw bco alm abt mlt (beg + 1) (figm + 1))) E hX 0 rfl rfl ly_X6 tyX6_ok nmX6 21 (by decide) fl_X6_218 rfl rfl rfl (Nat.le_of_ble_eq_true rfl) rfl dX6_readByte_199 (fun H locs hX => ?_)
                  refine xr_iconst E dX6_readByte_202 ?_
                  exact xr_zret E hX hQ (mlt, (beg + 1), (figm + 1), mord, olt, ofr, (up nbs (((ofr mord) + beg) - 1) ((0 + c) - 48))) hr (iI_bB1 (b := true) rfl) (by first | (exfalso; omega) | exact (by have h9 := sim_fgY (pos := ofr mord + beg - 0) (val := 0 + c - 48) (beg2 := beg + 1) (fig2 := figm + 1) H_P hn.2 H_S c_4 (by omega) (by omega) (by omega) (by rw [if_pos (by omega)]) (by rw [if_pos (by omega)]) (by rw [if_pos (by omega)]) rfl; exact ⟨iI_bB1 h9.1, fun _ => h9.2⟩) | exact (by have h9 := sim_fgY (pos := ofr mord + beg - 1) (val := 10 * nbs (ofr mord + beg - 1) + c - 48) (beg2 := beg + 0) (fig2 := figm + 1) H_P hn.2 H_S c_4 (by omega) (by omega) (by omega) (by rw [if_neg (by omega)]) (by rw [if_neg (by omega)]) (by rw [if_neg (by omega)]) rfl; exact ⟨iI_bB1 h9.1, fun _ => h9.2⟩)) rfl dX6_readByte_203
            · have c_130 := c_130
              refine xr_iconst E dX6_readByte_133 ?_
              refine xr_goto (tgt := 138) E dX6_readByte_134 (by decide) ?_
              refine xr_isub E dX6_readByte_138 ?_
              refine xr_istore_n (lv' := [(2, .int (iI (((ofr mord) + beg) - 0))), (0, .ref hMo), (1, .int (iI c))]) E hl dX6_readByte_139 rfl (by decide) rfl (fun ls hl => ?_)
              refine xr_aload_n E hl 1 rfl dX6_readByte_140 rfl ?_
              refine xr_get E hX 0 rfl rfl ly_X6 9 (by decide) fl_X6_31 rfl dX6_readByte_141 ?_
              refine xr_iload_n E hl 0 rfl dX6_readByte_144 rfl ?_
              refine xr_aload_n E hl 1 rfl dX6_readByte_145 rfl ?_
              refine xr_get E hX 0 rfl rfl ly_X6 21 (by decide) fl_X6_218 rfl dX6_readByte_146 ?_
              refine xr_if_ne (tgt := 156) E dX6_readByte_149 (by decide) ⟨by omega, by omega⟩ (fun c_149 => ?_) (fun c_149 => ?_)
              · have c_149 := c_149
                refine xr_bipush E dX6_readByte_156 (by decide) ?_
                refine xr_aload_n E hl 1 rfl dX6_readByte_158 rfl ?_
                refine xr_get E hX 0 rfl rfl ly_X6 9 (by decide) fl_X6_31 rfl dX6_readByte_159 ?_
                refine xr_iload_n E hl 0 rfl dX6_readByte_162 rfl ?_
                refine xr_iald E hX 3 rfl (by omega) (by omega) (by decide) dX6_readByte_163 ?_
                refine xr_imul E dX6_readByte_164 ?_
                refine xr_iload_n E hl 2 rfl dX6_readByte_165 rfl ?_
                refine xr_iadd E dX6_readByte_166 ?_
                refine xr_bipush E dX6_readByte_167 (by decide) ?_
                refine xr_isub E dX6_readByte_169 ?_
                refine xr_iast (W1 := (W_Mrb y hMo a_now a_asd a_pst a_mrf a_txt a_olt a_ofr a_nbs a_best a_wys a_rwx a_shx a_bef msts mbyt olt ofr (up nbs (((ofr mord) + beg) - 0) (((10 * (nbs (((ofr mord) + beg) - 0))) + c) - 48)) mord alw bco alm abt mlt beg figm)) E hX 3 rfl (by omega) (by omega) (by decide) rfl dX6_readByte_170 (fun H locs hX => ?_)
                refine xr_aload_n E hl 1 rfl dX6_readByte_171 rfl ?_
                refine xr_dup E dX6_readByte_172 rfl ?_
                refine xr_get E hX 0 rfl rfl ly_X6 20 (by decide) fl_X6_215 rfl dX6_readByte_173 ?_
                refine xr_aload_n E hl 1 rfl dX6_readByte_176 rfl ?_
                refine xr_get E hX 0 rfl rfl ly_X6 21 (by decide) fl_X6_218 rfl dX6_readByte_177 ?_
                refine xr_if_ne (tgt := 187) E dX6_readByte_180 (by decide) ⟨by omega, by omega⟩ (fun c_180 => ?_) (fun c_180 => ?_)
                · have c_180 := c_180
                  refine xr_iconst E dX6_readByte_187 ?_
                  refine xr_iadd E dX6_readByte_188 ?_
                  refine xr_put (W1 := (W_Mrb y hMo a_now a_asd a_pst a_mrf a_txt a_olt a_ofr a_nbs a_best a_wys a_rwx a_shx a_bef msts mbyt olt ofr (up nbs (((ofr mord) + beg) - 0) (((10 * (nbs (((ofr mord) + beg) - 0))) + c) - 48)) mord alw bco alm abt mlt (beg + 0) figm)) E hX 0 rfl rfl ly_X6 tyX6_ok nmX6 20 (by decide) fl_X6_215 rfl rfl rfl (Nat.le_of_ble_eq_true rfl) rfl dX6_readByte_189 (fun H locs hX => ?_)
                  refine xr_aload_n E hl 1 rfl dX6_readByte_192 rfl ?_
                  refine xr_dup E dX6_readByte_193 rfl ?_
                  refine xr_get E hX 0 rfl rfl ly_X6 21 (by decide) fl_X6_218 rfl dX6_readByte_194 ?_
                  refine xr_iconst E dX6_readByte_197 ?_
                  refine xr_iadd E dX6_readByte_198 ?_
                  refine xr_put (W1 := (W_Mrb y hMo a_now a_asd a_pst a_mrf a_txt a_olt a_ofr a_nbs a_best a_wys a_rwx a_shx a_bef msts mbyt olt ofr (up nbs (((ofr mord) + beg) - 0) (((10 * (nbs (((ofr mord) + beg) - 0))) + c) - 48)) mord alw bco alm abt mlt (beg + 0) (figm + 1))) E hX 0 rfl rfl ly_X6 tyX6_ok nmX6 21 (by decide) fl_X6_218 rfl rfl rfl (Nat.le_of_ble_eq_true rfl) rfl dX6_readByte_199 (fun H locs hX => ?_)
                  refine xr_iconst E dX6_readByte_202 ?_
                  exact xr_zret E hX hQ (mlt, (beg + 0), (figm + 1), mord, olt, ofr, (up nbs (((ofr mord) + beg) - 0) (((10 * (nbs (((ofr mord) + beg) - 0))) + c) - 48))) hr (iI_bB1 (b := true) rfl) (by first | (exfalso; omega) | exact (by have h9 := sim_fgY (pos := ofr mord + beg - 0) (val := 0 + c - 48) (beg2 := beg + 1) (fig2 := figm + 1) H_P hn.2 H_S c_4 (by omega) (by omega) (by omega) (by rw [if_pos (by omega)]) (by rw [if_pos (by omega)]) (by rw [if_pos (by omega)]) rfl; exact ⟨iI_bB1 h9.1, fun _ => h9.2⟩) | exact (by have h9 := sim_fgY (pos := ofr mord + beg - 1) (val := 10 * nbs (ofr mord + beg - 1) + c - 48) (beg2 := beg + 0) (fig2 := figm + 1) H_P hn.2 H_S c_4 (by omega) (by omega) (by omega) (by rw [if_neg (by omega)]) (by rw [if_neg (by omega)]) (by rw [if_neg (by omega)]) rfl; exact ⟨iI_bB1 h9.1, fun _ => h9.2⟩)) rfl dX6_readByte_203
                · have c_180 := c_180
                  refine xr_iconst E dX6_readByte_183 ?_
                  refine xr_goto (tgt := 188) E dX6_readByte_184 (by decide) ?_
                  refine xr_iadd E dX6_readByte_188 ?_
                  refine xr_put (W1 := (W_Mrb y hMo a_now a_asd a_pst a_mrf a_txt a_olt a_ofr a_nbs a_best a_wys a_rwx a_shx a_bef msts mbyt olt ofr (up nbs (((ofr mord) + beg) - 0) (((10 * (nbs (((ofr mord) + beg) - 0))) + c) - 48)) mord alw bco alm abt mlt (beg + 1) figm)) E hX 0 rfl rfl ly_X6 tyX6_ok nmX6 20 (by decide) fl_X6_215 rfl rfl rfl (Nat.le_of_ble_eq_true rfl) rfl dX6_readByte_189 (fun H locs hX => ?_)
                  refine xr_aload_n E hl 1 rfl dX6_readByte_192 rfl ?_
                  refine xr_dup E dX6_readByte_193 rfl ?_
                  refine xr_get E hX 0 rfl rfl ly_X6 21 (by decide) fl_X6_218 rfl dX6_readByte_194 ?_
                  refine xr_iconst E dX6_readByte_197 ?_
                  refine xr_iadd E dX6_readByte_198 ?_
                  refine xr_put (W1 := (W_Mrb y hMo a_now a_asd a_pst a_mrf a_txt a_olt a_ofr a_nbs a_best a_wys a_rwx a_shx a_bef msts mbyt olt ofr (up nbs (((ofr mord) + beg) - 0) (((10 * (nbs (((ofr mord) + beg) - 0))) + c) - 48)) mord alw bco alm abt mlt (beg + 1) (figm + 1))) E hX 0 rfl rfl ly_X6 tyX6_ok nmX6 21 (by decide) fl_X6_218 rfl rfl rfl (Nat.le_of_ble_eq_true rfl) rfl dX6_readByte_199 (fun H locs hX => ?_)
                  refine xr_iconst E dX6_readByte_202 ?_
                  exact xr_zret E hX hQ (mlt, (beg + 1), (figm + 1), mord, olt, ofr, (up nbs (((ofr mord) + beg) - 0) (((10 * (nbs (((ofr mord) + beg) - 0))) + c) - 48))) hr (iI_bB1 (b := true) rfl) (by first | (exfalso; omega) | exact (by have h9 := sim_fgY (pos := ofr mord + beg - 0) (val := 0 + c - 48) (beg2 := beg + 1) (fig2 := figm + 1) H_P hn.2 H_S c_4 (by omega) (by omega) (by omega) (by rw [if_pos (by omega)]) (by rw [if_pos (by omega)]) (by rw [if_pos (by omega)]) rfl; exact ⟨iI_bB1 h9.1, fun _ => h9.2⟩) | exact (by have h9 := sim_fgY (pos := ofr mord + beg - 1) (val := 10 * nbs (ofr mord + beg - 1) + c - 48) (beg2 := beg + 0) (fig2 := figm + 1) H_P hn.2 H_S c_4 (by omega) (by omega) (by omega) (by rw [if_neg (by omega)]) (by rw [if_neg (by omega)]) (by rw [if_neg (by omega)]) rfl; exact ⟨iI_bB1 h9.1, fun _ => h9.2⟩)) rfl dX6_readByte_203
              · have c_149 := c_149
                refine xr_iconst E dX6_readByte_152 ?_
                refine xr_goto (tgt := 165) E dX6_readByte_153 (by decide) ?_
                refine xr_iload_n E hl 2 rfl dX6_readByte_165 rfl ?_
                refine xr_iadd E dX6_readByte_166 ?_
                refine xr_bipush E dX6_readByte_167 (by decide) ?_
                refine xr_isub E dX6_readByte_169 ?_
                refine xr_iast (W1 := (W_Mrb y hMo a_now a_asd a_pst a_mrf a_txt a_olt a_ofr a_nbs a_best a_wys a_rwx a_shx a_bef msts mbyt olt ofr (up nbs (((ofr mord) + beg) - 0) ((0 + c) - 48)) mord alw bco alm abt mlt beg figm)) E hX 3 rfl (by omega) (by omega) (by decide) rfl dX6_readByte_170 (fun H locs hX => ?_)
                refine xr_aload_n E hl 1 rfl dX6_readByte_171 rfl ?_
                refine xr_dup E dX6_readByte_172 rfl ?_
                refine xr_get E hX 0 rfl rfl ly_X6 20 (by decide) fl_X6_215 rfl dX6_readByte_173 ?_
                refine xr_aload_n E hl 1 rfl dX6_readByte_176 rfl ?_
                refine xr_get E hX 0 rfl rfl ly_X6 21 (by decide) fl_X6_218 rfl dX6_readByte_177 ?_
                refine xr_if_ne (tgt := 187) E dX6_readByte_180 (by decide) ⟨by omega, by omega⟩ (fun c_180 => ?_) (fun c_180 => ?_)
                · have c_180 := c_180
                  refine xr_iconst E dX6_readByte_187 ?_
                  refine xr_iadd E dX6_readByte_188 ?_
                  refine xr_put (W1 := (W_Mrb y hMo a_now a_asd a_pst a_mrf a_txt a_olt a_ofr a_nbs a_best a_wys a_rwx a_shx a_bef msts mbyt olt ofr (up nbs (((ofr mord) + beg) - 0) ((0 + c) - 48)) mord alw bco alm abt mlt (beg + 0) figm)) E hX 0 rfl rfl ly_X6 tyX6_ok nmX6 20 (by decide) fl_X6_215 rfl rfl rfl (Nat.le_of_ble_eq_true rfl) rfl dX6_readByte_189 (fun H locs hX => ?_)
                  refine xr_aload_n E hl 1 rfl dX6_readByte_192 rfl ?_
                  refine xr_dup E dX6_readByte_193 rfl ?_
                  refine xr_get E hX 0 rfl rfl ly_X6 21 (by decide) fl_X6_218 rfl dX6_readByte_194 ?_
                  refine xr_iconst E dX6_readByte_197 ?_
                  refine xr_iadd E dX6_readByte_198 ?_
                  refine xr_put (W1 := (W_Mrb y hMo a_now a_asd a_pst a_mrf a_txt a_olt a_ofr a_nbs a_best a_wys a_rwx a_shx a_bef msts mbyt olt ofr (up nbs (((ofr mord) + beg) - 0) ((0 + c) - 48)) mord alw bco alm abt mlt (beg + 0) (figm + 1))) E hX 0 rfl rfl ly_X6 tyX6_ok nmX6 21 (by decide) fl_X6_218 rfl rfl rfl (Nat.le_of_ble_eq_true rfl) rfl dX6_readByte_199 (fun H locs hX => ?_)
                  refine xr_iconst E dX6_readByte_202 ?_
                  exact xr_zret E hX hQ (mlt, (beg + 0), (figm + 1), mord, olt, ofr, (up nbs (((ofr mord) + beg) - 0) ((0 + c) - 48))) hr (iI_bB1 (b := true) rfl) (by first | (exfalso; omega) | exact (by have h9 := sim_fgY (pos := ofr mord + beg - 0) (val := 0 + c - 48) (beg2 := beg + 1) (fig2 := figm + 1) H_P hn.2 H_S c_4 (by omega) (by omega) (by omega) (by rw [if_pos (by omega)]) (by rw [if_pos (by omega)]) (by rw [if_pos (by omega)]) rfl; exact ⟨iI_bB1 h9.1, fun _ => h9.2⟩) | exact (by have h9 := sim_fgY (pos := ofr mord + beg - 1) (val := 10 * nbs (ofr mord + beg - 1) + c - 48) (beg2 := beg + 0) (fig2 := figm + 1) H_P hn.2 H_S c_4 (by omega) (by omega) (by omega) (by rw [if_neg (by omega)]) (by rw [if_neg (by omega)]) (by rw [if_neg (by omega)]) rfl; exact ⟨iI_bB1 h9.1, fun _ => h9.2⟩)) rfl dX6_readByte_203
                · have c_180 := c_180
                  refine xr_iconst E dX6_readByte_183 ?_
                  refine xr_goto (tgt := 188) E dX6_readByte_184 (by decide) ?_
                  refine xr_iadd E dX6_readByte_188 ?_
                  refine xr_put (W1 := (W_Mrb y hMo a_now a_asd a_pst a_mrf a_txt a_olt a_ofr a_nbs a_best a_wys a_rwx a_shx a_bef msts mbyt olt ofr (up nbs (((ofr mord) + beg) - 0) ((0 + c) - 48)) mord alw bco alm abt mlt (beg + 1) figm)) E hX 0 rfl rfl ly_X6 tyX6_ok nmX6 20 (by decide) fl_X6_215 rfl rfl rfl (Nat.le_of_ble_eq_true rfl) rfl dX6_readByte_189 (fun H locs hX => ?_)
                  refine xr_aload_n E hl 1 rfl dX6_readByte_192 rfl ?_
                  refine xr_dup E dX6_readByte_193 rfl ?_
                  refine xr_get E hX 0 rfl rfl ly_X6 21 (by decide) fl_X6_218 rfl dX6_readByte_194 ?_
                  refine xr_iconst E dX6_readByte_197 ?_
                  refine xr_iadd E dX6_readByte_198 ?_
                  refine xr_put (W1 := (W_Mrb y hMo a_now a_asd a_pst a_mrf a_txt a_olt a_ofr a_nbs a_best a_wys a_rwx a_shx a_bef msts mbyt olt ofr (up nbs (((ofr mord) + beg) - 0) ((0 + c) - 48)) mord alw bco alm abt mlt (beg + 1) (figm + 1))) E hX 0 rfl rfl ly_X6 tyX6_ok nmX6 21 (by decide) fl_X6_218 rfl rfl rfl (Nat.le_of_ble_eq_true rfl) rfl dX6_readByte_199 (fun H locs hX => ?_)
                  refine xr_iconst E dX6_readByte_202 ?_
                  exact xr_zret E hX hQ (mlt, (beg + 1), (figm + 1), mord, olt, ofr, (up nbs (((ofr mord) + beg) - 0) ((0 + c) - 48))) hr (iI_bB1 (b := true) rfl) (by first | (exfalso; omega) | exact (by have h9 := sim_fgY (pos := ofr mord + beg - 0) (val := 0 + c - 48) (beg2 := beg + 1) (fig2 := figm + 1) H_P hn.2 H_S c_4 (by omega) (by omega) (by omega) (by rw [if_pos (by omega)]) (by rw [if_pos (by omega)]) (by rw [if_pos (by omega)]) rfl; exact ⟨iI_bB1 h9.1, fun _ => h9.2⟩) | exact (by have h9 := sim_fgY (pos := ofr mord + beg - 1) (val := 10 * nbs (ofr mord + beg - 1) + c - 48) (beg2 := beg + 0) (fig2 := figm + 1) H_P hn.2 H_S c_4 (by omega) (by omega) (by omega) (by rw [if_neg (by omega)]) (by rw [if_neg (by omega)]) (by rw [if_neg (by omega)]) rfl; exact ⟨iI_bB1 h9.1, fun _ => h9.2⟩)) rfl dX6_readByte_203
          · have c_93 := c_93
            refine xr_aload_n E hl 0 rfl dX6_readByte_96 rfl ?_
            refine xr_get E hX 0 rfl rfl ly_X6 20 (by decide) fl_X6_215 rfl dX6_readByte_97 ?_
            refine xr_aload_n E hl 0 rfl dX6_readByte_100 rfl ?_
            refine xr_get E hX 0 rfl rfl ly_X6 19 (by decide) fl_X6_212 rfl dX6_readByte_101 ?_
            refine xk_ri E hX [] rfl (xv_S (As := [.int (iI mlt)]) E hX hl (c_X6_wantsOf l D y z _ mlt ⟨by omega, by omega⟩) ml_X6_224 st_X6_wantsOf in_X6 co_X6_wantsOf 1 (by decide) ⟨rfl, rfl⟩ ⟨Nat.le_of_ble_eq_true rfl, Nat.le_of_ble_eq_true rfl⟩ [] rfl rfl rfl rfl (Nat.le_of_ble_eq_true rfl) dX6_readByte_104 ⟨Nat.le_refl _, Nat.le_refl _⟩) (fun r_104 H locs hw hX => ?_)
            subst hw
            refine xr_icmp_ne (tgt := 112) E dX6_readByte_107 (by decide) ⟨by omega, by omega⟩ ⟨by omega, by omega⟩ (fun c_107 => ?_) (fun c_107 => ?_)
            · have c_107 := c_107
              refine xr_aload_n E hl 0 rfl dX6_readByte_112 rfl ?_
              refine xr_get E hX 0 rfl rfl ly_X6 8 (by decide) fl_X6_28 rfl dX6_readByte_113 ?_
              refine xr_aload_n E hl 0 rfl dX6_readByte_116 rfl ?_
              refine xr_get E hX 0 rfl rfl ly_X6 10 (by decide) fl_X6_221 rfl dX6_readByte_117 ?_
              refine xr_iald E hX 2 rfl (by omega) (by omega) (by decide) dX6_readByte_120 ?_
              refine xr_aload_n E hl 0 rfl dX6_readByte_121 rfl ?_
              refine xr_get E hX 0 rfl rfl ly_X6 20 (by decide) fl_X6_215 rfl dX6_readByte_122 ?_
              refine xr_iadd E dX6_readByte_125 ?_
              refine xr_aload_n E hl 0 rfl dX6_readByte_126 rfl ?_
              refine xr_get E hX 0 rfl rfl ly_X6 21 (by decide) fl_X6_218 rfl dX6_readByte_127 ?_
              refine xr_if_ne (tgt := 137) E dX6_readByte_130 (by decide) ⟨by omega, by omega⟩ (fun c_130 => ?_) (fun c_130 => ?_)
              · have c_130 := c_130
                refine xr_iconst E dX6_readByte_137 ?_
                refine xr_isub E dX6_readByte_138 ?_
                refine xr_istore_n (lv' := [(2, .int (iI (((ofr mord) + beg) - 1))), (0, .ref hMo), (1, .int (iI c))]) E hl dX6_readByte_139 rfl (by decide) rfl (fun ls hl => ?_)
                refine xr_aload_n E hl 1 rfl dX6_readByte_140 rfl ?_
                refine xr_get E hX 0 rfl rfl ly_X6 9 (by decide) fl_X6_31 rfl dX6_readByte_141 ?_
                refine xr_iload_n E hl 0 rfl dX6_readByte_144 rfl ?_
                refine xr_aload_n E hl 1 rfl dX6_readByte_145 rfl ?_
                refine xr_get E hX 0 rfl rfl ly_X6 21 (by decide) fl_X6_218 rfl dX6_readByte_146 ?_
                refine xr_if_ne (tgt := 156) E dX6_readByte_149 (by decide) ⟨by omega, by omega⟩ (fun c_149 => ?_) (fun c_149 => ?_)
                · have c_149 := c_149
                  refine xr_bipush E dX6_readByte_156 (by decide) ?_
                  refine xr_aload_n E hl 1 rfl dX6_readByte_158 rfl ?_
                  refine xr_get E hX 0 rfl rfl ly_X6 9 (by decide) fl_X6_31 rfl dX6_readByte_159 ?_
                  refine xr_iload_n E hl 0 rfl dX6_readByte_162 rfl ?_
                  refine xr_iald E hX 3 rfl (by omega) (by omega) (by decide) dX6_readByte_163 ?_
                  refine xr_imul E dX6_readByte_164 ?_
                  refine xr_iload_n E hl 2 rfl dX6_readByte_165 rfl ?_
                  refine xr_iadd E dX6_readByte_166 ?_
                  refine xr_bipush E dX6_readByte_167 (by decide) ?_
                  refine xr_isub E dX6_readByte_169 ?_
                  refine xr_iast (W1 := (W_Mrb y hMo a_now a_asd a_pst a_mrf a_txt a_olt a_ofr a_nbs a_best a_wys a_rwx a_shx a_bef msts mbyt olt ofr (up nbs (((ofr mord) + beg) - 1) (((10 * (nbs (((ofr mord) + beg) - 1))) + c) - 48)) mord alw bco alm abt mlt beg figm)) E hX 3 rfl (by omega) (by omega) (by decide) rfl dX6_readByte_170 (fun H locs hX => ?_)
                  refine xr_aload_n E hl 1 rfl dX6_readByte_171 rfl ?_
                  refine xr_dup E dX6_readByte_172 rfl ?_
                  refine xr_get E hX 0 rfl rfl ly_X6 20 (by decide) fl_X6_215 rfl dX6_readByte_173 ?_
                  refine xr_aload_n E hl 1 rfl dX6_readByte_176 rfl ?_
                  refine xr_get E hX 0 rfl rfl ly_X6 21 (by decide) fl_X6_218 rfl dX6_readByte_177 ?_
                  refine xr_if_ne (tgt := 187) E dX6_readByte_180 (by decide) ⟨by omega, by omega⟩ (fun c_180 => ?_) (fun c_180 => ?_)
                  · have c_180 := c_180
                    refine xr_iconst E dX6_readByte_187 ?_
                    refine xr_iadd E dX6_readByte_188 ?_
                    refine xr_put (W1 := (W_Mrb y hMo a_now a_asd a_pst a_mrf a_txt a_olt a_ofr a_nbs a_best a_wys a_rwx a_shx a_bef msts mbyt olt ofr (up nbs (((ofr mord) + beg) - 1) (((10 * (nbs (((ofr mord) + beg) - 1))) + c) - 48)) mord alw bco alm abt mlt (beg + 0) figm)) E hX 0 rfl rfl ly_X6 tyX6_ok nmX6 20 (by decide) fl_X6_215 rfl rfl rfl (Nat.le_of_ble_eq_true rfl) rfl dX6_readByte_189 (fun H locs hX => ?_)
                    refine xr_aload_n E hl 1 rfl dX6_readByte_192 rfl ?_
                    refine xr_dup E dX6_readByte_193 rfl ?_
                    refine xr_get E hX 0 rfl rfl ly_X6 21 (by decide) fl_X6_218 rfl dX6_readByte_194 ?_
                    refine xr_iconst E dX6_readByte_197 ?_
                    refine xr_iadd E dX6_readByte_198 ?_
                    refine xr_put (W1 := (W_Mrb y hMo a_now a_asd a_pst a_mrf a_txt a_olt a_ofr a_nbs a_best a_wys a_rwx a_shx a_bef msts mbyt olt ofr (up nbs (((ofr mord) + beg) - 1) (((10 * (nbs (((ofr mord) + beg) - 1))) + c) - 48)) mord alw bco alm abt mlt (beg + 0) (figm + 1))) E hX 0 rfl rfl ly_X6 tyX6_ok nmX6 21 (by decide) fl_X6_218 rfl rfl rfl (Nat.le_of_ble_eq_true rfl) rfl dX6_readByte_199 (fun H locs hX => ?_)
                    refine xr_iconst E dX6_readByte_202 ?_
                    exact xr_zret E hX hQ (mlt, (beg + 0), (figm + 1), mord, olt, ofr, (up nbs (((ofr mord) + beg) - 1) (((10 * (nbs (((ofr mord) + beg) - 1))) + c) - 48))) hr (iI_bB1 (b := true) rfl) (by first | (exfalso; omega) | exact (by have h9 := sim_fgY (pos := ofr mord + beg - 0) (val := 0 + c - 48) (beg2 := beg + 1) (fig2 := figm + 1) H_P hn.2 H_S c_4 (by omega) (by omega) (by omega) (by rw [if_pos (by omega)]) (by rw [if_pos (by omega)]) (by rw [if_pos (by omega)]) rfl; exact ⟨iI_bB1 h9.1, fun _ => h9.2⟩) | exact (by have h9 := sim_fgY (pos := ofr mord + beg - 1) (val := 10 * nbs (ofr mord + beg - 1) + c - 48) (beg2 := beg + 0) (fig2 := figm + 1) H_P hn.2 H_S c_4 (by omega) (by omega) (by omega) (by rw [if_neg (by omega)]) (by rw [if_neg (by omega)]) (by rw [if_neg (by omega)]) rfl; exact ⟨iI_bB1 h9.1, fun _ => h9.2⟩)) rfl dX6_readByte_203
                  · have c_180 := c_180
                    refine xr_iconst E dX6_readByte_183 ?_
                    refine xr_goto (tgt := 188) E dX6_readByte_184 (by decide) ?_
                    refine xr_iadd E dX6_readByte_188 ?_
                    refine xr_put (W1 := (W_Mrb y hMo a_now a_asd a_pst a_mrf a_txt a_olt a_ofr a_nbs a_best a_wys a_rwx a_shx a_bef msts mbyt olt ofr (up nbs (((ofr mord) + beg) - 1) (((10 * (nbs (((ofr mord) + beg) - 1))) + c) - 48)) mord alw bco alm abt mlt (beg + 1) figm)) E hX 0 rfl rfl ly_X6 tyX6_ok nmX6 20 (by decide) fl_X6_215 rfl rfl rfl (Nat.le_of_ble_eq_true rfl) rfl dX6_readByte_189 (fun H locs hX => ?_)
                    refine xr_aload_n E hl 1 rfl dX6_readByte_192 rfl ?_
                    refine xr_dup E dX6_readByte_193 rfl ?_
                    refine xr_get E hX 0 rfl rfl ly_X6 21 (by decide) fl_X6_218 rfl dX6_readByte_194 ?_
                    refine xr_iconst E dX6_readByte_197 ?_
                    refine xr_iadd E dX6_readByte_198 ?_
                    refine xr_put (W1 := (W_Mrb y hMo a_now a_asd a_pst a_mrf a_txt a_olt a_ofr a_nbs a_best a_wys a_rwx a_shx a_bef msts mbyt olt ofr (up nbs (((ofr mord) + beg) - 1) (((10 * (nbs (((ofr mord) + beg) - 1))) + c) - 48)) mord alw bco alm abt mlt (beg + 1) (figm + 1))) E hX 0 rfl rfl ly_X6 tyX6_ok nmX6 21 (by decide) fl_X6_218 rfl rfl rfl (Nat.le_of_ble_eq_true rfl) rfl dX6_readByte_199 (fun H locs hX => ?_)
                    refine xr_iconst E dX6_readByte_202 ?_
                    exact xr_zret E hX hQ (mlt, (beg + 1), (figm + 1), mord, olt, ofr, (up nbs (((ofr mord) + beg) - 1) (((10 * (nbs (((ofr mord) + beg) - 1))) + c) - 48))) hr (iI_bB1 (b := true) rfl) (by first | (exfalso; omega) | exact (by have h9 := sim_fgY (pos := ofr mord + beg - 0) (val := 0 + c - 48) (beg2 := beg + 1) (fig2 := figm + 1) H_P hn.2 H_S c_4 (by omega) (by omega) (by omega) (by rw [if_pos (by omega)]) (by rw [if_pos (by omega)]) (by rw [if_pos (by omega)]) rfl; exact ⟨iI_bB1 h9.1, fun _ => h9.2⟩) | exact (by have h9 := sim_fgY (pos := ofr mord + beg - 1) (val := 10 * nbs (ofr mord + beg - 1) + c - 48) (beg2 := beg + 0) (fig2 := figm + 1) H_P hn.2 H_S c_4 (by omega) (by omega) (by omega) (by rw [if_neg (by omega)]) (by rw [if_neg (by omega)]) (by rw [if_neg (by omega)]) rfl; exact ⟨iI_bB1 h9.1, fun _ => h9.2⟩)) rfl dX6_readByte_203
                · have c_149 := c_149
                  refine xr_iconst E dX6_readByte_152 ?_
                  refine xr_goto (tgt := 165) E dX6_readByte_153 (by decide) ?_
                  refine xr_iload_n E hl 2 rfl dX6_readByte_165 rfl ?_
                  refine xr_iadd E dX6_readByte_166 ?_
                  refine xr_bipush E dX6_readByte_167 (by decide) ?_
                  refine xr_isub E dX6_readByte_169 ?_
                  refine xr_iast (W1 := (W_Mrb y hMo a_now a_asd a_pst a_mrf a_txt a_olt a_ofr a_nbs a_best a_wys a_rwx a_shx a_bef msts mbyt olt ofr (up nbs (((ofr mord) + beg) - 1) ((0 + c) - 48)) mord alw bco alm abt mlt beg figm)) E hX 3 rfl (by omega) (by omega) (by decide) rfl dX6_readByte_170 (fun H locs hX => ?_)
                  refine xr_aload_n E hl 1 rfl dX6_readByte_171 rfl ?_
                  refine xr_dup E dX6_readByte_172 rfl ?_
                  refine xr_get E hX 0 rfl rfl ly_X6 20 (by decide) fl_X6_215 rfl dX6_readByte_173 ?_
                  refine xr_aload_n E hl 1 rfl dX6_readByte_176 rfl ?_
                  refine xr_get E hX 0 rfl rfl ly_X6 21 (by decide) fl_X6_218 rfl dX6_readByte_177 ?_
                  refine xr_if_ne (tgt := 187) E dX6_readByte_180 (by decide) ⟨by omega, by omega⟩ (fun c_180 => ?_) (fun c_180 => ?_)
                  · have c_180 := c_180
                    refine xr_iconst E dX6_readByte_187 ?_
                    refine xr_iadd E dX6_readByte_188 ?_
                    refine xr_put (W1 := (W_Mrb y hMo a_now a_asd a_pst a_mrf a_txt a_olt a_ofr a_nbs a_best a_wys a_rwx a_shx a_bef msts mbyt olt ofr (up nbs (((ofr mord) + beg) - 1) ((0 + c) - 48)) mord alw bco alm abt mlt (beg + 0) figm)) E hX 0 rfl rfl ly_X6 tyX6_ok nmX6 20 (by decide) fl_X6_215 rfl rfl rfl (Nat.le_of_ble_eq_true rfl) rfl dX6_readByte_189 (fun H locs hX => ?_)
                    refine xr_aload_n E hl 1 rfl dX6_readByte_192 rfl ?_
                    refine xr_dup E dX6_readByte_193 rfl ?_
                    refine xr_get E hX 0 rfl rfl ly_X6 21 (by decide) fl_X6_218 rfl dX6_readByte_194 ?_
                    refine xr_iconst E dX6_readByte_197 ?_
                    refine xr_iadd E dX6_readByte_198 ?_
                    refine xr_put (W1 := (W_Mrb y hMo a_now a_asd a_pst a_mrf a_txt a_olt a_ofr a_nbs a_best a_wys a_rwx a_shx a_bef msts mbyt olt ofr (up nbs (((ofr mord) + beg) - 1) ((0 + c) - 48)) mord alw bco alm abt mlt (beg + 0) (figm + 1))) E hX 0 rfl rfl ly_X6 tyX6_ok nmX6 21 (by decide) fl_X6_218 rfl rfl rfl (Nat.le_of_ble_eq_true rfl) rfl dX6_readByte_199 (fun H locs hX => ?_)
                    refine xr_iconst E dX6_readByte_202 ?_
                    exact xr_zret E hX hQ (mlt, (beg + 0), (figm + 1), mord, olt, ofr, (up nbs (((ofr mord) + beg) - 1) ((0 + c) - 48))) hr (iI_bB1 (b := true) rfl) (by first | (exfalso; omega) | exact (by have h9 := sim_fgY (pos := ofr mord + beg - 0) (val := 0 + c - 48) (beg2 := beg + 1) (fig2 := figm + 1) H_P hn.2 H_S c_4 (by omega) (by omega) (by omega) (by rw [if_pos (by omega)]) (by rw [if_pos (by omega)]) (by rw [if_pos (by omega)]) rfl; exact ⟨iI_bB1 h9.1, fun _ => h9.2⟩) | exact (by have h9 := sim_fgY (pos := ofr mord + beg - 1) (val := 10 * nbs (ofr mord + beg - 1) + c - 48) (beg2 := beg + 0) (fig2 := figm + 1) H_P hn.2 H_S c_4 (by omega) (by omega) (by omega) (by rw [if_neg (by omega)]) (by rw [if_neg (by omega)]) (by rw [if_neg (by omega)]) rfl; exact ⟨iI_bB1 h9.1, fun _ => h9.2⟩)) rfl dX6_readByte_203
                  · have c_180 := c_180
                    refine xr_iconst E dX6_readByte_183 ?_
                    refine xr_goto (tgt := 188) E dX6_readByte_184 (by decide) ?_
                    refine xr_iadd E dX6_readByte_188 ?_
                    refine xr_put (W1 := (W_Mrb y hMo a_now a_asd a_pst a_mrf a_txt a_olt a_ofr a_nbs a_best a_wys a_rwx a_shx a_bef msts mbyt olt ofr (up nbs (((ofr mord) + beg) - 1) ((0 + c) - 48)) mord alw bco alm abt mlt (beg + 1) figm)) E hX 0 rfl rfl ly_X6 tyX6_ok nmX6 20 (by decide) fl_X6_215 rfl rfl rfl (Nat.le_of_ble_eq_true rfl) rfl dX6_readByte_189 (fun H locs hX => ?_)
                    refine xr_aload_n E hl 1 rfl dX6_readByte_192 rfl ?_
                    refine xr_dup E dX6_readByte_193 rfl ?_
                    refine xr_get E hX 0 rfl rfl ly_X6 21 (by decide) fl_X6_218 rfl dX6_readByte_194 ?_
                    refine xr_iconst E dX6_readByte_197 ?_
                    refine xr_iadd E dX6_readByte_198 ?_
                    refine xr_put (W1 := (W_Mrb y hMo a_now a_asd a_pst a_mrf a_txt a_olt a_ofr a_nbs a_best a_wys a_rwx a_shx a_bef msts mbyt olt ofr (up nbs (((ofr mord) + beg) - 1) ((0 + c) - 48)) mord alw bco alm abt mlt (beg + 1) (figm + 1))) E hX 0 rfl rfl ly_X6 tyX6_ok nmX6 21 (by decide) fl_X6_218 rfl rfl rfl (Nat.le_of_ble_eq_true rfl) rfl dX6_readByte_199 (fun H locs hX => ?_)
                    refine xr_iconst E dX6_readByte_202 ?_
                    exact xr_zret E hX hQ (mlt, (beg + 1), (figm + 1), mord, olt, ofr, (up nbs (((ofr mord) + beg) - 1) ((0 + c) - 48))) hr (iI_bB1 (b := true) rfl) (by first | (exfalso; omega) | exact (by have h9 := sim_fgY (pos := ofr mord + beg - 0) (val := 0 + c - 48) (beg2 := beg + 1) (fig2 := figm + 1) H_P hn.2 H_S c_4 (by omega) (by omega) (by omega) (by rw [if_pos (by omega)]) (by rw [if_pos (by omega)]) (by rw [if_pos (by omega)]) rfl; exact ⟨iI_bB1 h9.1, fun _ => h9.2⟩) | exact (by have h9 := sim_fgY (pos := ofr mord + beg - 1) (val := 10 * nbs (ofr mord + beg - 1) + c - 48) (beg2 := beg + 0) (fig2 := figm + 1) H_P hn.2 H_S c_4 (by omega) (by omega) (by omega) (by rw [if_neg (by omega)]) (by rw [if_neg (by omega)]) (by rw [if_neg (by omega)]) rfl; exact ⟨iI_bB1 h9.1, fun _ => h9.2⟩)) rfl dX6_readByte_203
              · have c_130 := c_130
                refine xr_iconst E dX6_readByte_133 ?_
                refine xr_goto (tgt := 138) E dX6_readByte_134 (by decide) ?_
                refine xr_isub E dX6_readByte_138 ?_
                refine xr_istore_n (lv' := [(2, .int (iI (((ofr mord) + beg) - 0))), (0, .ref hMo), (1, .int (iI c))]) E hl dX6_readByte_139 rfl (by decide) rfl (fun ls hl => ?_)
                refine xr_aload_n E hl 1 rfl dX6_readByte_140 rfl ?_
                refine xr_get E hX 0 rfl rfl ly_X6 9 (by decide) fl_X6_31 rfl dX6_readByte_141 ?_
                refine xr_iload_n E hl 0 rfl dX6_readByte_144 rfl ?_
                refine xr_aload_n E hl 1 rfl dX6_readByte_145 rfl ?_
                refine xr_get E hX 0 rfl rfl ly_X6 21 (by decide) fl_X6_218 rfl dX6_readByte_146 ?_
                refine xr_if_ne (tgt := 156) E dX6_readByte_149 (by decide) ⟨by omega, by omega⟩ (fun c_149 => ?_) (fun c_149 => ?_)
                · have c_149 := c_149
                  refine xr_bipush E dX6_readByte_156 (by decide) ?_
                  refine xr_aload_n E hl 1 rfl dX6_readByte_158 rfl ?_
                  refine xr_get E hX 0 rfl rfl ly_X6 9 (by decide) fl_X6_31 rfl dX6_readByte_159 ?_
                  refine xr_iload_n E hl 0 rfl dX6_readByte_162 rfl ?_
                  refine xr_iald E hX 3 rfl (by omega) (by omega) (by decide) dX6_readByte_163 ?_
                  refine xr_imul E dX6_readByte_164 ?_
                  refine xr_iload_n E hl 2 rfl dX6_readByte_165 rfl ?_
                  refine xr_iadd E dX6_readByte_166 ?_
                  refine xr_bipush E dX6_readByte_167 (by decide) ?_
                  refine xr_isub E dX6_readByte_169 ?_
                  refine xr_iast (W1 := (W_Mrb y hMo a_now a_asd a_pst a_mrf a_txt a_olt a_ofr a_nbs a_best a_wys a_rwx a_shx a_bef msts mbyt olt ofr (up nbs (((ofr mord) + beg) - 0) (((10 * (nbs (((ofr mord) + beg) - 0))) + c) - 48)) mord alw bco alm abt mlt beg figm)) E hX 3 rfl (by omega) (by omega) (by decide) rfl dX6_readByte_170 (fun H locs hX => ?_)
                  refine xr_aload_n E hl 1 rfl dX6_readByte_171 rfl ?_
                  refine xr_dup E dX6_readByte_172 rfl ?_
                  refine xr_get E hX 0 rfl rfl ly_X6 20 (by decide) fl_X6_215 rfl dX6_readByte_173 ?_
                  refine xr_aload_n E hl 1 rfl dX6_readByte_176 rfl ?_
                  refine xr_get E hX 0 rfl rfl ly_X6 21 (by decide) fl_X6_218 rfl dX6_readByte_177 ?_
                  refine xr_if_ne (tgt := 187) E dX6_readByte_180 (by decide) ⟨by omega, by omega⟩ (fun c_180 => ?_) (fun c_180 => ?_)
                  · have c_180 := c_180
                    refine xr_iconst E dX6_readByte_187 ?_
                    refine xr_iadd E dX6_readByte_188 ?_
                    refine xr_put (W1 := (W_Mrb y hMo a_now a_asd a_pst a_mrf a_txt a_olt a_ofr a_nbs a_best a_wys a_rwx a_shx a_bef msts mbyt olt ofr (up nbs (((ofr mord) + beg) - 0) (((10 * (nbs (((ofr mord) + beg) - 0))) + c) - 48)) mord alw bco alm abt mlt (beg + 0) figm)) E hX 0 rfl rfl ly_X6 tyX6_ok nmX6 20 (by decide) fl_X6_215 rfl rfl rfl (Nat.le_of_ble_eq_true rfl) rfl dX6_readByte_189 (fun H locs hX => ?_)
                    refine xr_aload_n E hl 1 rfl dX6_readByte_192 rfl ?_
                    refine xr_dup E dX6_readByte_193 rfl ?_
                    refine xr_get E hX 0 rfl rfl ly_X6 21 (by decide) fl_X6_218 rfl dX6_readByte_194 ?_
                    refine xr_iconst E dX6_readByte_197 ?_
                    refine xr_iadd E dX6_readByte_198 ?_
                    refine xr_put (W1 := (W_Mrb y hMo a_now a_asd a_pst a_mrf a_txt a_olt a_ofr a_nbs a_best a_wys a_rwx a_shx a_bef msts mbyt olt ofr (up nbs (((ofr mord) + beg) - 0) (((10 * (nbs (((ofr mord) + beg) - 0))) + c) - 48)) mord alw bco alm abt mlt (beg + 0) (figm + 1))) E hX 0 rfl rfl ly_X6 tyX6_ok nmX6 21 (by decide) fl_X6_218 rfl rfl rfl (Nat.le_of_ble_eq_true rfl) rfl dX6_readByte_199 (fun H locs hX => ?_)
                    refine xr_iconst E dX6_readByte_202 ?_
                    exact xr_zret E hX hQ (mlt, (beg + 0), (figm + 1), mord, olt, ofr, (up nbs (((ofr mord) + beg) - 0) (((10 * (nbs (((ofr mord) + beg) - 0))) + c) - 48))) hr (iI_bB1 (b := true) rfl) (by first | (exfalso; omega) | exact (by have h9 := sim_fgY (pos := ofr mord + beg - 0) (val := 0 + c - 48) (beg2 := beg + 1) (fig2 := figm + 1) H_P hn.2 H_S c_4 (by omega) (by omega) (by omega) (by rw [if_pos (by omega)]) (by rw [if_pos (by omega)]) (by rw [if_pos (by omega)]) rfl; exact ⟨iI_bB1 h9.1, fun _ => h9.2⟩) | exact (by have h9 := sim_fgY (pos := ofr mord + beg - 1) (val := 10 * nbs (ofr mord + beg - 1) + c - 48) (beg2 := beg + 0) (fig2 := figm + 1) H_P hn.2 H_S c_4 (by omega) (by omega) (by omega) (by rw [if_neg (by omega)]) (by rw [if_neg (by omega)]) (by rw [if_neg (by omega)]) rfl; exact ⟨iI_bB1 h9.1, fun _ => h9.2⟩)) rfl dX6_readByte_203
                  · have c_180 := c_180
                    refine xr_iconst E dX6_readByte_183 ?_
                    refine xr_goto (tgt := 188) E dX6_readByte_184 (by decide) ?_
                    refine xr_iadd E dX6_readByte_188 ?_
                    refine xr_put (W1 := (W_Mrb y hMo a_now a_asd a_pst a_mrf a_txt a_olt a_ofr a_nbs a_best a_wys a_rwx a_shx a_bef msts mbyt olt ofr (up nbs (((ofr mord) + beg) - 0) (((10 * (nbs (((ofr mord) + beg) - 0))) + c) - 48)) mord alw bco alm abt mlt (beg + 1) figm)) E hX 0 rfl rfl ly_X6 tyX6_ok nmX6 20 (by decide) fl_X6_215 rfl rfl rfl (Nat.le_of_ble_eq_true rfl) rfl dX6_readByte_189 (fun H locs hX => ?_)
                    refine xr_aload_n E hl 1 rfl dX6_readByte_192 rfl ?_
                    refine xr_dup E dX6_readByte_193 rfl ?_
                    refine xr_get E hX 0 rfl rfl ly_X6 21 (by decide) fl_X6_218 rfl dX6_readByte_194 ?_
                    refine xr_iconst E dX6_readByte_197 ?_
                    refine xr_iadd E dX6_readByte_198 ?_
                    refine xr_put (W1 := (W_Mrb y hMo a_now a_asd a_pst a_mrf a_txt a_olt a_ofr a_nbs a_best a_wys a_rwx a_shx a_bef msts mbyt olt ofr (up nbs (((ofr mord) + beg) - 0) (((10 * (nbs (((ofr mord) + beg) - 0))) + c) - 48)) mord alw bco alm abt mlt (beg + 1) (figm + 1))) E hX 0 rfl rfl ly_X6 tyX6_ok nmX6 21 (by decide) fl_X6_218 rfl rfl rfl (Nat.le_of_ble_eq_true rfl) rfl dX6_readByte_199 (fun H locs hX => ?_)
                    refine xr_iconst E dX6_readByte_202 ?_
                    exact xr_zret E hX hQ (mlt, (beg + 1), (figm + 1), mord, olt, ofr, (up nbs (((ofr mord) + beg) - 0) (((10 * (nbs (((ofr mord) + beg) - 0))) + c) - 48))) hr (iI_bB1 (b := true) rfl) (by first | (exfalso; omega) | exact (by have h9 := sim_fgY (pos := ofr mord + beg - 0) (val := 0 + c - 48) (beg2 := beg + 1) (fig2 := figm + 1) H_P hn.2 H_S c_4 (by omega) (by omega) (by omega) (by rw [if_pos (by omega)]) (by rw [if_pos (by omega)]) (by rw [if_pos (by omega)]) rfl; exact ⟨iI_bB1 h9.1, fun _ => h9.2⟩) | exact (by have h9 := sim_fgY (pos := ofr mord + beg - 1) (val := 10 * nbs (ofr mord + beg - 1) + c - 48) (beg2 := beg + 0) (fig2 := figm + 1) H_P hn.2 H_S c_4 (by omega) (by omega) (by omega) (by rw [if_neg (by omega)]) (by rw [if_neg (by omega)]) (by rw [if_neg (by omega)]) rfl; exact ⟨iI_bB1 h9.1, fun _ => h9.2⟩)) rfl dX6_readByte_203
                · have c_149 := c_149
                  refine xr_iconst E dX6_readByte_152 ?_
                  refine xr_goto (tgt := 165) E dX6_readByte_153 (by decide) ?_
                  refine xr_iload_n E hl 2 rfl dX6_readByte_165 rfl ?_
                  refine xr_iadd E dX6_readByte_166 ?_
                  refine xr_bipush E dX6_readByte_167 (by decide) ?_
                  refine xr_isub E dX6_readByte_169 ?_
                  refine xr_iast (W1 := (W_Mrb y hMo a_now a_asd a_pst a_mrf a_txt a_olt a_ofr a_nbs a_best a_wys a_rwx a_shx a_bef msts mbyt olt ofr (up nbs (((ofr mord) + beg) - 0) ((0 + c) - 48)) mord alw bco alm abt mlt beg figm)) E hX 3 rfl (by omega) (by omega) (by decide) rfl dX6_readByte_170 (fun H locs hX => ?_)
                  refine xr_aload_n E hl 1 rfl dX6_readByte_171 rfl ?_
                  refine xr_dup E dX6_readByte_172 rfl ?_
                  refine xr_get E hX 0 rfl rfl ly_X6 20 (by decide) fl_X6_215 rfl dX6_readByte_173 ?_
                  refine xr_aload_n E hl 1 rfl dX6_readByte_176 rfl ?_
                  refine xr_get E hX 0 rfl rfl ly_X6 21 (by decide) fl_X6_218 rfl dX6_readByte_177 ?_
                  refine xr_if_ne (tgt := 187) E dX6_readByte_180 (by decide) ⟨by omega, by omega⟩ (fun c_180 => ?_) (fun c_180 => ?_)
                  · have c_180 := c_180
                    refine xr_iconst E dX6_readByte_187 ?_
                    refine xr_iadd E dX6_readByte_188 ?_
                    refine xr_put (W1 := (W_Mrb y hMo a_now a_asd a_pst a_mrf a_txt a_olt a_ofr a_nbs a_best a_wys a_rwx a_shx a_bef msts mbyt olt ofr (up nbs (((ofr mord) + beg) - 0) ((0 + c) - 48)) mord alw bco alm abt mlt (beg + 0) figm)) E hX 0 rfl rfl ly_X6 tyX6_ok nmX6 20 (by decide) fl_X6_215 rfl rfl rfl (Nat.le_of_ble_eq_true rfl) rfl dX6_readByte_189 (fun H locs hX => ?_)
                    refine xr_aload_n E hl 1 rfl dX6_readByte_192 rfl ?_
                    refine xr_dup E dX6_readByte_193 rfl ?_
                    refine xr_get E hX 0 rfl rfl ly_X6 21 (by decide) fl_X6_218 rfl dX6_readByte_194 ?_
                    refine xr_iconst E dX6_readByte_197 ?_
                    refine xr_iadd E dX6_readByte_198 ?_
                    refine xr_put (W1 := (W_Mrb y hMo a_now a_asd a_pst a_mrf a_txt a_olt a_ofr a_nbs a_best a_wys a_rwx a_shx a_bef msts mbyt olt ofr (up nbs (((ofr mord) + beg) - 0) ((0 + c) - 48)) mord alw bco alm abt mlt (beg + 0) (figm + 1))) E hX 0 rfl rfl ly_X6 tyX6_ok nmX6 21 (by decide) fl_X6_218 rfl rfl rfl (Nat.le_of_ble_eq_true rfl) rfl dX6_readByte_199 (fun H locs hX => ?_)
                    refine xr_iconst E dX6_readByte_202 ?_
                    exact xr_zret E hX hQ (mlt, (beg + 0), (figm + 1), mord, olt, ofr, (up nbs (((ofr mord) + beg) - 0) ((0 + c) - 48))) hr (iI_bB1 (b := true) rfl) (by first | (exfalso; omega) | exact (by have h9 := sim_fgY (pos := ofr mord + beg - 0) (val := 0 + c - 48) (beg2 := beg + 1) (fig2 := figm + 1) H_P hn.2 H_S c_4 (by omega) (by omega) (by omega) (by rw [if_pos (by omega)]) (by rw [if_pos (by omega)]) (by rw [if_pos (by omega)]) rfl; exact ⟨iI_bB1 h9.1, fun _ => h9.2⟩) | exact (by have h9 := sim_fgY (pos := ofr mord + beg - 1) (val := 10 * nbs (ofr mord + beg - 1) + c - 48) (beg2 := beg + 0) (fig2 := figm + 1) H_P hn.2 H_S c_4 (by omega) (by omega) (by omega) (by rw [if_neg (by omega)]) (by rw [if_neg (by omega)]) (by rw [if_neg (by omega)]) rfl; exact ⟨iI_bB1 h9.1, fun _ => h9.2⟩)) rfl dX6_readByte_203
                  · have c_180 := c_180
                    refine xr_iconst E dX6_readByte_183 ?_
                    refine xr_goto (tgt := 188) E dX6_readByte_184 (by decide) ?_
                    refine xr_iadd E dX6_readByte_188 ?_
                    refine xr_put (W1 := (W_Mrb y hMo a_now a_asd a_pst a_mrf a_txt a_olt a_ofr a_nbs a_best a_wys a_rwx a_shx a_bef msts mbyt olt ofr (up nbs (((ofr mord) + beg) - 0) ((0 + c) - 48)) mord alw bco alm abt mlt (beg + 1) figm)) E hX 0 rfl rfl ly_X6 tyX6_ok nmX6 20 (by decide) fl_X6_215 rfl rfl rfl (Nat.le_of_ble_eq_true rfl) rfl dX6_readByte_189 (fun H locs hX => ?_)
                    refine xr_aload_n E hl 1 rfl dX6_readByte_192 rfl ?_
                    refine xr_dup E dX6_readByte_193 rfl ?_
                    refine xr_get E hX 0 rfl rfl ly_X6 21 (by decide) fl_X6_218 rfl dX6_readByte_194 ?_
                    refine xr_iconst E dX6_readByte_197 ?_
                    refine xr_iadd E dX6_readByte_198 ?_
                    refine xr_put (W1 := (W_Mrb y hMo a_now a_asd a_pst a_mrf a_txt a_olt a_ofr a_nbs a_best a_wys a_rwx a_shx a_bef msts mbyt olt ofr (up nbs (((ofr mord) + beg) - 0) ((0 + c) - 48)) mord alw bco alm abt mlt (beg + 1) (figm + 1))) E hX 0 rfl rfl ly_X6 tyX6_ok nmX6 21 (by decide) fl_X6_218 rfl rfl rfl (Nat.le_of_ble_eq_true rfl) rfl dX6_readByte_199 (fun H locs hX => ?_)
                    refine xr_iconst E dX6_readByte_202 ?_
                    exact xr_zret E hX hQ (mlt, (beg + 1), (figm + 1), mord, olt, ofr, (up nbs (((ofr mord) + beg) - 0) ((0 + c) - 48))) hr (iI_bB1 (b := true) rfl) (by first | (exfalso; omega) | exact (by have h9 := sim_fgY (pos := ofr mord + beg - 0) (val := 0 + c - 48) (beg2 := beg + 1) (fig2 := figm + 1) H_P hn.2 H_S c_4 (by omega) (by omega) (by omega) (by rw [if_pos (by omega)]) (by rw [if_pos (by omega)]) (by rw [if_pos (by omega)]) rfl; exact ⟨iI_bB1 h9.1, fun _ => h9.2⟩) | exact (by have h9 := sim_fgY (pos := ofr mord + beg - 1) (val := 10 * nbs (ofr mord + beg - 1) + c - 48) (beg2 := beg + 0) (fig2 := figm + 1) H_P hn.2 H_S c_4 (by omega) (by omega) (by omega) (by rw [if_neg (by omega)]) (by rw [if_neg (by omega)]) (by rw [if_neg (by omega)]) rfl; exact ⟨iI_bB1 h9.1, fun _ => h9.2⟩)) rfl dX6_readByte_203
            · have c_107 := c_107
              refine xr_iconst E dX6_readByte_110 ?_
              exact xr_zret E hX hQ (mlt, beg, figm, mord, olt, ofr, nbs) hr (iI_bB0 (b := false) rfl) (by have h9 := sim_fgN H_P H_S c_4 (by omega) (by omega); exact ⟨iI_bB0 h9, fun hh => absurd (h9.symm.trans hh) (by decide)⟩) rfl dX6_readByte_111
    · have c_57 := c_57
      refine xr_aload_n E hl 0 rfl dX6_readByte_60 rfl ?_
      refine xr_iconst E dX6_readByte_61 ?_
      refine xr_put (W1 := (W_Mrb y hMo a_now a_asd a_pst a_mrf a_txt a_olt a_ofr a_nbs a_best a_wys a_rwx a_shx a_bef msts mbyt olt ofr nbs mord alw bco alm abt mlt beg 0)) E hX 0 rfl rfl ly_X6 tyX6_ok nmX6 21 (by decide) fl_X6_218 rfl rfl rfl (Nat.le_of_ble_eq_true rfl) rfl dX6_readByte_62 (fun H locs hX => ?_)
      refine xr_iconst E dX6_readByte_65 ?_
      exact xr_zret E hX hQ (mlt, beg, 0, mord, olt, ofr, nbs) hr (iI_bB1 (b := true) rfl) (by have h9 := sim_sp1 H_S c_4 c_57; exact ⟨iI_bB1 h9.1, fun _ => h9.2⟩) rfl dX6_readByte_66
  · have c_4 := c_4
    refine xr_iload_n E hl 1 rfl dX6_readByte_7 rfl ?_
    refine xr_bipush E dX6_readByte_8 (by decide) ?_
    refine xr_icmp_ne (tgt := 15) E dX6_readByte_10 (by decide) ⟨by omega, by omega⟩ (by decide) (fun c_10 => ?_) (fun c_10 => ?_)
    · have c_10 := c_10
      refine xr_aload_n E hl 0 rfl dX6_readByte_15 rfl ?_
      refine xr_iload_n E hl 1 rfl dX6_readByte_16 rfl ?_
      refine xr_put (W1 := (W_Mrb y hMo a_now a_asd a_pst a_mrf a_txt a_olt a_ofr a_nbs a_best a_wys a_rwx a_shx a_bef msts mbyt olt ofr nbs mord alw bco alm abt c beg figm)) E hX 0 rfl rfl ly_X6 tyX6_ok nmX6 19 (by decide) fl_X6_212 rfl rfl rfl (Nat.le_of_ble_eq_true rfl) rfl dX6_readByte_17 (fun H locs hX => ?_)
      refine xr_aload_n E hl 0 rfl dX6_readByte_20 rfl ?_
      refine xr_iconst E dX6_readByte_21 ?_
      refine xr_put (W1 := (W_Mrb y hMo a_now a_asd a_pst a_mrf a_txt a_olt a_ofr a_nbs a_best a_wys a_rwx a_shx a_bef msts mbyt olt ofr nbs mord alw bco alm abt c 0 figm)) E hX 0 rfl rfl ly_X6 tyX6_ok nmX6 20 (by decide) fl_X6_215 rfl rfl rfl (Nat.le_of_ble_eq_true rfl) rfl dX6_readByte_22 (fun H locs hX => ?_)
      refine xr_aload_n E hl 0 rfl dX6_readByte_25 rfl ?_
      refine xr_iconst E dX6_readByte_26 ?_
      refine xr_put (W1 := (W_Mrb y hMo a_now a_asd a_pst a_mrf a_txt a_olt a_ofr a_nbs a_best a_wys a_rwx a_shx a_bef msts mbyt olt ofr nbs mord alw bco alm abt c 0 0)) E hX 0 rfl rfl ly_X6 tyX6_ok nmX6 21 (by decide) fl_X6_218 rfl rfl rfl (Nat.le_of_ble_eq_true rfl) rfl dX6_readByte_27 (fun H locs hX => ?_)
      refine xr_aload_n E hl 0 rfl dX6_readByte_30 rfl ?_
      refine xr_get E hX 0 rfl rfl ly_X6 7 (by decide) fl_X6_25 rfl dX6_readByte_31 ?_
      refine xr_aload_n E hl 0 rfl dX6_readByte_34 rfl ?_
      refine xr_get E hX 0 rfl rfl ly_X6 10 (by decide) fl_X6_221 rfl dX6_readByte_35 ?_
      refine xr_iload_n E hl 1 rfl dX6_readByte_38 rfl ?_
      refine xr_iast (W1 := (W_Mrb y hMo a_now a_asd a_pst a_mrf a_txt a_olt a_ofr a_nbs a_best a_wys a_rwx a_shx a_bef msts mbyt (up olt mord c) ofr nbs mord alw bco alm abt c 0 0)) E hX 1 rfl (by omega) (by omega) (by decide) rfl dX6_readByte_39 (fun H locs hX => ?_)
      refine xr_iload_n E hl 1 rfl dX6_readByte_40 rfl ?_
      refine xk_ri E hX [] rfl (xv_S (As := [.int (iI c)]) E hX hl (c_X6_wantsOf l D y z _ c ⟨by omega, by omega⟩) ml_X6_224 st_X6_wantsOf in_X6 co_X6_wantsOf 1 (by decide) ⟨rfl, rfl⟩ ⟨Nat.le_of_ble_eq_true rfl, Nat.le_of_ble_eq_true rfl⟩ [] rfl rfl rfl rfl (Nat.le_of_ble_eq_true rfl) dX6_readByte_41 ⟨Nat.le_refl _, Nat.le_refl _⟩) (fun r_41 H locs hw hX => ?_)
      subst hw
      refine xr_iconst E dX6_readByte_44 ?_
      refine xr_icmp_eq (tgt := 52) E dX6_readByte_45 (by decide) ⟨by omega, by omega⟩ (by decide) (fun c_45 => ?_) (fun c_45 => ?_)
      · have c_45 := c_45
        refine xr_iconst E dX6_readByte_52 ?_
        exact xr_zret E hX hQ (c, 0, 0, mord, (up olt mord c), ofr, nbs) hr (iI_bB0 (b := false) rfl) (by first | exact (by have h9 := sim_opY H_P hn.2 H_S c_4 c_10 c_45; exact ⟨iI_bB1 h9.1, fun _ => h9.2⟩) | exact (by have h9 := sim_opN H_P hn.2 H_S c_4 c_10 c_45; exact ⟨iI_bB0 h9, fun hh => absurd (h9.symm.trans hh) (by decide)⟩)) rfl dX6_readByte_53
      · have c_45 := c_45
        refine xr_iconst E dX6_readByte_48 ?_
        refine xr_goto (tgt := 53) E dX6_readByte_49 (by decide) ?_
        exact xr_zret E hX hQ (c, 0, 0, mord, (up olt mord c), ofr, nbs) hr (iI_bB1 (b := true) rfl) (by first | exact (by have h9 := sim_opY H_P hn.2 H_S c_4 c_10 c_45; exact ⟨iI_bB1 h9.1, fun _ => h9.2⟩) | exact (by have h9 := sim_opN H_P hn.2 H_S c_4 c_10 c_45; exact ⟨iI_bB0 h9, fun hh => absurd (h9.symm.trans hh) (by decide)⟩)) rfl dX6_readByte_53
    · have c_10 := c_10
      refine xr_iconst E dX6_readByte_13 ?_
      exact xr_zret E hX hQ (mlt, beg, figm, mord, olt, ofr, nbs) hr (iI_bB1 (b := true) rfl) (by have h9 := sim_sp0 H_S c_4 c_10; exact ⟨iI_bB1 h9.1, fun _ => h9.2⟩) rfl dX6_readByte_14
abbrev rm_X6_readText : Room := { frames := 2, cells := 0, slots := 0, locals := 47 }
set_option maxHeartbeats 4000000 in
set_option maxRecDepth 100000 in
theorem c_X6_readText (l : Launch) (D : va_G) (y : CY) (z sz : Nat) (hMo a_now a_asd a_pst a_mrf a_txt a_olt a_ofr a_nbs a_best a_wys a_rwx a_shx a_bef : Nat) (msts : Int) (txt : Int → Int) (mbyt : Int) (olt : Int → Int) (ofr : Int → Int) (nbs : Int → Int) (mord : Int) (alw : Int) (bco : Int) (alm : Int) (abt : Int) (mlt : Int) (beg : Int) (figm : Int) (ltr : Int → Int) (fir : Int → Int) (sec : Int → Int) (num : Int) (fig : Int) (hl0 : 0 ≤ mbyt ∧ mbyt ≤ 120) (hby : ∀ k : Int, 0 ≤ k → k < 120 → 0 ≤ txt k ∧ txt k ≤ 127) (H_T : TJ ltr fir sec 0 num fig) : Met l yX6_readText (Cond.code yX6_readText cX6_readText 2 (some .int) :: TW) rm_X6_readText (va_Pc [.ref hMo] (PX D y z (W_Mrt y hMo a_now a_asd a_pst a_mrf a_txt a_olt a_ofr a_nbs a_best a_wys a_rwx a_shx a_bef msts txt mbyt olt ofr nbs mord alw bco alm abt mlt beg figm) sz)) (va_Qi (fun (r : Int32) (uu : (Int) × (Int) × (Int) × (Int) × (Int → Int) × (Int → Int) × (Int → Int)) => r = iI (xFault txt mbyt (ltr, fir, sec, 0, false, num, fig)) ∧ (xFault txt mbyt (ltr, fir, sec, 0, false, num, fig) = -1 → PIS mbyt (pSt txt (ltr, fir, sec, 0, false, num, fig) mbyt.toNat) ∧ SimS mbyt (pSt txt (ltr, fir, sec, 0, false, num, fig) mbyt.toNat) uu.1 uu.2.1 uu.2.2.1 uu.2.2.2.1 uu.2.2.2.2.1 uu.2.2.2.2.2.1 uu.2.2.2.2.2.2)) (fun uu t => BX D (W_Mrt y hMo a_now a_asd a_pst a_mrf a_txt a_olt a_ofr a_nbs a_best a_wys a_rwx a_shx a_bef msts txt mbyt uu.2.2.2.2.1 uu.2.2.2.2.2.1 uu.2.2.2.2.2.2 uu.2.2.2.1 alw bco alm abt uu.1 uu.2.1 uu.2.2.1) (va_A (W_Mrt y hMo a_now a_asd a_pst a_mrf a_txt a_olt a_ofr a_nbs a_best a_wys a_rwx a_shx a_bef msts txt mbyt olt ofr nbs mord alw bco alm abt mlt beg figm) sz) t) (va_A (W_Mrt y hMo a_now a_asd a_pst a_mrf a_txt a_olt a_ofr a_nbs a_best a_wys a_rwx a_shx a_bef msts txt mbyt olt ofr nbs mord alw bco alm abt mlt beg figm) sz)) 0 0 (va_A (W_Mrt y hMo a_now a_asd a_pst a_mrf a_txt a_olt a_ofr a_nbs a_best a_wys a_rwx a_shx a_bef msts txt mbyt olt ofr nbs mord alw bco alm abt mlt beg figm) sz) := by
  refine xm_i (by decide) (Nat.le_of_ble_eq_true rfl) (fun p e s m args below meth cX ls A Q E hr hnm hX hl hQ => ?_)
  have hl : lv_has ls 2 [(0, .ref hMo)] := hl
  refine xr_aload_n E hl 0 rfl dX6_readText_0 rfl ?_
  refine xr_iconst E dX6_readText_1 ?_
  refine xr_put (W1 := (W_Mrt y hMo a_now a_asd a_pst a_mrf a_txt a_olt a_ofr a_nbs a_best a_wys a_rwx a_shx a_bef msts txt mbyt olt ofr nbs 0 alw bco alm abt mlt beg figm)) E hX 0 rfl rfl ly_X6 tyX6_ok nmX6 10 (by decide) fl_X6_221 rfl rfl rfl (Nat.le_of_ble_eq_true rfl) rfl dX6_readText_2 (fun H locs hX => ?_)
  refine xr_aload_n E hl 0 rfl dX6_readText_5 rfl ?_
  refine xr_get E hX 0 rfl rfl ly_X6 8 (by decide) fl_X6_28 rfl dX6_readText_6 ?_
  refine xr_iconst E dX6_readText_9 ?_
  refine xr_iconst E dX6_readText_10 ?_
  refine xr_iast (W1 := (W_Mrt y hMo a_now a_asd a_pst a_mrf a_txt a_olt a_ofr a_nbs a_best a_wys a_rwx a_shx a_bef msts txt mbyt olt (up ofr 0 0) nbs 0 alw bco alm abt mlt beg figm)) E hX 3 rfl (by omega) (by omega) (by decide) rfl dX6_readText_11 (fun H locs hX => ?_)
  refine xr_aload_n E hl 0 rfl dX6_readText_12 rfl ?_
  refine xr_iconst E dX6_readText_13 ?_
  refine xr_put (W1 := (W_Mrt y hMo a_now a_asd a_pst a_mrf a_txt a_olt a_ofr a_nbs a_best a_wys a_rwx a_shx a_bef msts txt mbyt olt (up ofr 0 0) nbs 0 alw bco alm abt 0 beg figm)) E hX 0 rfl rfl ly_X6 tyX6_ok nmX6 19 (by decide) fl_X6_212 rfl rfl rfl (Nat.le_of_ble_eq_true rfl) rfl dX6_readText_14 (fun H locs hX => ?_)
  refine xr_iconst E dX6_readText_17 ?_
  refine xr_istore_n (lv' := [(1, .int (iI 0)), (0, .ref hMo)]) E hl dX6_readText_18 rfl (by decide) rfl (fun ls hl => ?_)
  have L_19_1 : ∀ (nmu : Nat) (n : Nat) (t : Int) (S : PS) (mlt1 : Int) (beg1 : Int) (figm1 : Int) (mord1 : Int) (olt1 : Int → Int) (ofr1 : Int → Int) (nbs1 : Int → Int), 120 - n < nmu → (t = n ∧ t ≤ mbyt) → (S = pSt txt (ltr, fir, sec, 0, false, num, fig) n) → (PIS n S) → (SimS n S mlt1 beg1 figm1 mord1 olt1 ofr1 nbs1) → (pF txt (ltr, fir, sec, 0, false, num, fig) n = -1) → ∀ (H : Heap) (locs : List Loc) (ls : Array Slot), XW D A s.heap (W_Mrt y hMo a_now a_asd a_pst a_mrf a_txt a_olt a_ofr a_nbs a_best a_wys a_rwx a_shx a_bef msts txt mbyt olt1 ofr1 nbs1 mord1 alw bco alm abt mlt1 beg1 figm1) H locs → lv_has ls 2 [(0, .ref hMo), (1, .int (iI t))] → W p l e rm_X6_readText s m args below meth cX H locs 0 0 Q (F0 m 19 ls []) := by
    intro nmu
    induction nmu with
    | zero =>
      intro n t S mlt1 beg1 figm1 mord1 olt1 ofr1 nbs1 hmu
      exact absurd hmu (Nat.not_lt_zero _)
    | succ nmu ih =>
      intro n t S mlt1 beg1 figm1 mord1 olt1 ofr1 nbs1 hmu ht hS hP hM hF H locs ls hX hl
      have ih_19_1 := ih
      clear ih
      have hsb := sim_bd (n := n) (by omega) hP hM
      refine xr_iload_n E hl 1 rfl dX6_readText_19 rfl ?_
      refine xr_aload_n E hl 0 rfl dX6_readText_20 rfl ?_
      refine xr_get E hX 0 rfl rfl ly_X6 6 (by decide) fl_X6_209 rfl dX6_readText_21 ?_
      refine xr_icmp_ge (tgt := 48) E dX6_readText_24 (by decide) ⟨by omega, by omega⟩ ⟨by omega, by omega⟩ (fun c_24 => ?_) (fun c_24 => ?_)
      · have c_24 := c_24
        have hsmm : sm mlt1 := by by_cases hz : mlt1 = 0; (rw [hz]; decide); (have h9 := hsb.2.2 hz; exact ⟨by omega, by omega⟩)
        have hop := hM.2.1
        refine xr_aload_n E hl 0 rfl dX6_readText_48 rfl ?_
        refine xr_get E hX 0 rfl rfl ly_X6 19 (by decide) fl_X6_212 rfl dX6_readText_49 ?_
        refine xr_if_ne (tgt := 62) E dX6_readText_52 (by decide) ⟨by omega, by omega⟩ (fun c_52 => ?_) (fun c_52 => ?_)
        · have c_52 := c_52
          refine xr_aload_n E hl 0 rfl dX6_readText_62 rfl ?_
          refine xr_get E hX 0 rfl rfl ly_X6 6 (by decide) fl_X6_209 rfl dX6_readText_63 ?_
          refine xr_goto (tgt := 70) E dX6_readText_66 (by decide) ?_
          exact xr_iret E hX hQ (mlt1, beg1, figm1, mord1, olt1, ofr1, nbs1) hr (by have e := rd_end (len := mbyt) hF (by omega); rw [← hS] at e; rw [e]; first | (rw [if_pos (Or.inl (hop.mpr c_52))]; exact ⟨rfl, fun h => by omega⟩) | (rw [if_pos (Or.inr (by omega))]; exact ⟨rfl, fun h => by omega⟩) | (rw [if_neg (by rintro (h | h); exact hop.mp h c_52; omega)]; exact ⟨rfl, fun _ => by rw [show mbyt.toNat = n by omega, ← hS, show mbyt = (n : Int) by omega]; exact ⟨hP, hM⟩⟩)) rfl dX6_readText_70
        · have c_52 := c_52
          refine xr_aload_n E hl 0 rfl dX6_readText_55 rfl ?_
          refine xr_get E hX 0 rfl rfl ly_X6 10 (by decide) fl_X6_221 rfl dX6_readText_56 ?_
          refine xr_if_ne (tgt := 69) E dX6_readText_59 (by decide) ⟨by omega, by omega⟩ (fun c_59 => ?_) (fun c_59 => ?_)
          · have c_59 := c_59
            refine xr_iconst E dX6_readText_69 ?_
            exact xr_iret E hX hQ (mlt1, beg1, figm1, mord1, olt1, ofr1, nbs1) hr (by have e := rd_end (len := mbyt) hF (by omega); rw [← hS] at e; rw [e]; first | (rw [if_pos (Or.inl (hop.mpr c_52))]; exact ⟨rfl, fun h => by omega⟩) | (rw [if_pos (Or.inr (by omega))]; exact ⟨rfl, fun h => by omega⟩) | (rw [if_neg (by rintro (h | h); exact hop.mp h c_52; omega)]; exact ⟨rfl, fun _ => by rw [show mbyt.toNat = n by omega, ← hS, show mbyt = (n : Int) by omega]; exact ⟨hP, hM⟩⟩)) rfl dX6_readText_70
          · have c_59 := c_59
            refine xr_aload_n E hl 0 rfl dX6_readText_62 rfl ?_
            refine xr_get E hX 0 rfl rfl ly_X6 6 (by decide) fl_X6_209 rfl dX6_readText_63 ?_
            refine xr_goto (tgt := 70) E dX6_readText_66 (by decide) ?_
            exact xr_iret E hX hQ (mlt1, beg1, figm1, mord1, olt1, ofr1, nbs1) hr (by have e := rd_end (len := mbyt) hF (by omega); rw [← hS] at e; rw [e]; first | (rw [if_pos (Or.inl (hop.mpr c_52))]; exact ⟨rfl, fun h => by omega⟩) | (rw [if_pos (Or.inr (by omega))]; exact ⟨rfl, fun h => by omega⟩) | (rw [if_neg (by rintro (h | h); exact hop.mp h c_52; omega)]; exact ⟨rfl, fun _ => by rw [show mbyt.toNat = n by omega, ← hS, show mbyt = (n : Int) by omega]; exact ⟨hP, hM⟩⟩)) rfl dX6_readText_70
      · have c_24 := c_24
        have hbt := hby t (by omega) (by omega)
        refine xr_aload_n E hl 0 rfl dX6_readText_27 rfl ?_
        refine xr_aload_n E hl 0 rfl dX6_readText_28 rfl ?_
        refine xr_get E hX 0 rfl rfl ly_X6 5 (by decide) fl_X6_22 rfl dX6_readText_29 ?_
        refine xr_iload_n E hl 1 rfl dX6_readText_32 rfl ?_
        refine xr_iald E hX 1 rfl (by omega) (by omega) (by decide) dX6_readText_33 ?_
        refine xk_i (W2 := fun uu => (W_Mrt y hMo a_now a_asd a_pst a_mrf a_txt a_olt a_ofr a_nbs a_best a_wys a_rwx a_shx a_bef msts txt mbyt uu.2.2.2.2.1 uu.2.2.2.2.2.1 uu.2.2.2.2.2.2 uu.2.2.2.1 alw bco alm abt uu.1 uu.2.1 uu.2.2.1)) E hX [0, 2, 3, 4] rfl (xv_V (As := [.int (iI (txt t))]) E hX hl (c_X6_readByte l D y z _ hMo a_now a_asd a_pst a_mrf a_txt a_olt a_ofr a_nbs a_best a_wys a_rwx a_shx a_bef msts mbyt olt1 ofr1 nbs1 mord1 alw bco alm abt mlt1 beg1 figm1 (txt t) n S (by omega) (by omega) hP hM) ml_X6_231 im_X6_readByte se_X6_readByte in_X6 co_X6_readByte 1 (by decide) ⟨rfl, rfl⟩ ⟨Nat.le_of_ble_eq_true rfl, Nat.le_of_ble_eq_true rfl⟩ [0, 2, 3, 4] rfl rfl 0 rfl rfl rfl rfl rfl (Nat.le_of_ble_eq_true rfl) dX6_readText_34 ⟨Nat.le_refl _, Nat.le_refl _⟩) [0, 5, 1, 2, 3] 4 (fun _ => rfl) (fun _ => rfl) (by decide) (by decide) (fun r_34 uu H locs hw hX => ?_)
        obtain ⟨mlt_34, beg_34, figm_34, mord_34, olt_34, ofr_34, nbs_34⟩ := uu
        have hX : XW D A s.heap (W_Mrt y hMo a_now a_asd a_pst a_mrf a_txt a_olt a_ofr a_nbs a_best a_wys a_rwx a_shx a_bef msts txt mbyt olt_34 ofr_34 nbs_34 mord_34 alw bco alm abt mlt_34 beg_34 figm_34) H locs := hX
        try dsimp only at hw
        obtain ⟨rfl, hp_34⟩ := hw
        refine xr_if_neB (tgt := 42) E dX6_readText_37 (by decide) (fun c_37 => ?_) (fun c_37 => ?_)
        · have c_37 := c_37
          refine xr_iinc (k := 1) (lv' := [(1, .int (iI (t + 1))), (0, .ref hMo)]) E hl rfl dX6_readText_42 (by decide) rfl (fun ls hl => ?_)
          refine xr_goto (tgt := 19) E dX6_readText_45 (by decide) ?_
          exact ih_19_1 (n + 1) (t + 1) ((pByteS (txt t) S).2) mlt_34 beg_34 figm_34 mord_34 olt_34 ofr_34 nbs_34 (by omega) (by omega) (by show _ = (pByteS (txt n) (pSt txt (ltr, fir, sec, 0, false, num, fig) n)).2; rw [← hS, ← ht.1]) (by rw [show ((n + 1 : Nat) : Int) = (n : Int) + 1 by omega]; exact PIS_s hP (by omega) hbt.1 hbt.2 c_37) (by rw [show ((n + 1 : Nat) : Int) = (n : Int) + 1 by omega]; exact hp_34 c_37) (by rw [pF_s _ _ _ hF, ← hS, ← ht.1]; exact if_pos c_37) _ _ _ hX (lv_sub hl [1, 0] rfl)
        · have c_37 := c_37
          refine xr_iload_n E hl 1 rfl dX6_readText_40 rfl ?_
          exact xr_iret E hX hQ (mlt_34, beg_34, figm_34, mord_34, olt_34, ofr_34, nbs_34) hr (by have e := rd_fault (len := mbyt) hF (by rw [← hS, ← ht.1]; exact c_37) (by omega); rw [e]; exact ⟨by rw [ht.1], fun h => by omega⟩) rfl dX6_readText_41
  exact L_19_1 _ 0 0 (ltr, fir, sec, 0, false, num, fig) 0 beg figm 0 olt (up ofr 0 0) nbs (Nat.lt_succ_self _) (by omega) rfl ⟨H_T, (by show (2 : Int) * 0 ≤ 0; decide), fun h => by cases h⟩ ⟨rfl, ⟨fun h => (by cases h), fun h => absurd rfl h⟩, fun h => (by cases h), by rw [up_same]; decide, by rw [up_same]; decide, fun k k0 k1 => by omega⟩ rfl _ _ _ hX (lv_sub hl [1, 0] rfl)
abbrev rm_X6_doOrder : Room := { frames := 6, cells := 0, slots := 0, locals := 146 }
set_option maxHeartbeats 4000000 in
set_option maxRecDepth 100000 in
theorem c_X6_doOrder (l : Launch) (D : va_G) (y : CY) (z sz : Nat) (hMo a_now a_asd a_pst a_mrf a_txt a_olt a_ofr a_nbs a_best a_wys a_rwx a_shx a_bef : Nat) (now : Int → Int) (msts : Int) (mbyt : Int) (olt : Int → Int) (ofr : Int → Int) (nbs : Int → Int) (mord : Int) (best : Int → Int) (wys : Int → Int) (rwx : Int → Int) (alw : Int) (bco : Int) (alm : Int) (abt : Int) (mlt : Int) (beg : Int) (figm : Int) (k : Int) (c : Int) (a : Int) (b : Int) (H_M : FM now) (hk : 0 ≤ k ∧ k < 120) (hoc : olt k = c) (hxc : xNum c ≠ -1) (hc7 : c ≤ 127) (hof : 0 ≤ ofr k ∧ ofr k < 120) (ha : 1 ≤ xNum c → nbs (ofr k) = a) (hb : 2 ≤ xNum c → nbs (ofr k + 1) = b ∧ ofr k + 1 < 120) (hab9 : (0 ≤ a ∧ a ≤ 999) ∧ 0 ≤ b ∧ b ≤ 999) : Met l yX6_doOrder (Cond.code yX6_doOrder cX6_doOrder 5 (some .int) :: TW) rm_X6_doOrder (va_Pc [.ref hMo, .int (iI k)] (PX D y z (W_Mdo y hMo a_now a_asd a_pst a_mrf a_txt a_olt a_ofr a_nbs a_best a_wys a_rwx a_shx a_bef now msts mbyt olt ofr nbs mord best wys rwx alw bco alm abt mlt beg figm) sz)) (va_Qi (fun (r : Int32) (uu : (Int → Int) × (Int → Int) × (Int → Int) × (Int → Int) × (Int) × (Int) × (Int) × (Int)) => r = iI ((mOb c a b now).1) ∧ uu.1 = (mOb c a b now).2) (fun uu t => BX D (W_Mdo y hMo a_now a_asd a_pst a_mrf a_txt a_olt a_ofr a_nbs a_best a_wys a_rwx a_shx a_bef uu.1 msts mbyt olt ofr nbs mord uu.2.1 uu.2.2.1 uu.2.2.2.1 uu.2.2.2.2.1 uu.2.2.2.2.2.1 uu.2.2.2.2.2.2.1 uu.2.2.2.2.2.2.2 mlt beg figm) (va_A (W_Mdo y hMo a_now a_asd a_pst a_mrf a_txt a_olt a_ofr a_nbs a_best a_wys a_rwx a_shx a_bef now msts mbyt olt ofr nbs mord best wys rwx alw bco alm abt mlt beg figm) sz) t) (va_A (W_Mdo y hMo a_now a_asd a_pst a_mrf a_txt a_olt a_ofr a_nbs a_best a_wys a_rwx a_shx a_bef now msts mbyt olt ofr nbs mord best wys rwx alw bco alm abt mlt beg figm) sz)) 0 0 (va_A (W_Mdo y hMo a_now a_asd a_pst a_mrf a_txt a_olt a_ofr a_nbs a_best a_wys a_rwx a_shx a_bef now msts mbyt olt ofr nbs mord best wys rwx alw bco alm abt mlt beg figm) sz) := by
  refine xm_i (by decide) (Nat.le_of_ble_eq_true rfl) (fun p e s m args below meth cX ls A Q E hr hnm hX hl hQ => ?_)
  have hl : lv_has ls 5 [(0, .ref hMo), (1, .int (iI k))] := hl
  have hq := H_M.q
  have hfr := H_M.fr
  have hli := H_M.li
  have hsh := H_M.sh
  have hx2 := xNum_pos hxc
  refine xr_aload_n E hl 0 rfl dX6_doOrder_0 rfl ?_
  refine xr_get E hX 0 rfl rfl ly_X6 8 (by decide) fl_X6_28 rfl dX6_doOrder_1 ?_
  refine xr_iload_n E hl 1 rfl dX6_doOrder_4 rfl ?_
  refine xr_iald E hX 3 rfl (by omega) (by omega) (by decide) dX6_doOrder_5 ?_
  refine xr_istore_n (lv' := [(2, .int (iI (ofr k))), (0, .ref hMo), (1, .int (iI k))]) E hl dX6_doOrder_6 rfl (by decide) rfl (fun ls hl => ?_)
  refine xr_aload_n E hl 1 rfl dX6_doOrder_7 rfl ?_
  refine xr_get E hX 0 rfl rfl ly_X6 9 (by decide) fl_X6_31 rfl dX6_doOrder_8 ?_
  refine xr_iload_n E hl 0 rfl dX6_doOrder_11 rfl ?_
  refine xr_iald E hX 4 rfl (by omega) (by omega) (by decide) dX6_doOrder_12 ?_
  refine xr_istore_n (lv' := [(3, .int (iI (nbs (ofr k)))), (2, .int (iI (ofr k))), (0, .ref hMo), (1, .int (iI k))]) E hl dX6_doOrder_13 rfl (by decide) rfl (fun ls hl => ?_)
  refine xr_iload_n E hl 1 rfl dX6_doOrder_14 rfl ?_
  refine xr_iconst E dX6_doOrder_15 ?_
  refine xr_iadd E dX6_doOrder_16 ?_
  refine xr_bipush E dX6_doOrder_17 (by decide) ?_
  refine xr_icmp_ge (tgt := 33) E dX6_doOrder_19 (by decide) ⟨by omega, by omega⟩ (by decide) (fun c_19 => ?_) (fun c_19 => ?_)
  · have c_19 := c_19
    refine xr_iconst E dX6_doOrder_33 ?_
    refine xr_istore (lv' := [(4, .int (iI 0)), (3, .int (iI (nbs (ofr k)))), (2, .int (iI (ofr k))), (0, .ref hMo), (1, .int (iI k))]) E hl dX6_doOrder_34 (by decide) rfl (fun ls hl => ?_)
    refine xr_aload_n E hl 3 rfl dX6_doOrder_36 rfl ?_
    refine xr_get E hX 0 rfl rfl ly_X6 7 (by decide) fl_X6_25 rfl dX6_doOrder_37 ?_
    refine xr_iload_n E hl 4 rfl dX6_doOrder_40 rfl ?_
    refine xr_iald E hX 2 rfl (by omega) (by omega) (by decide) dX6_doOrder_41 ?_
    by_cases k_42_102 : (olt k) = 102
    · refine xr_tabIn (tgt := 180) E dX6_doOrder_42 ⟨by omega, by omega⟩ 0 (by omega) (by omega) rfl (by decide) ?_
      have hcc : c = 102 := by omega
      have hv := ha (by rw [hcc]; decide)
      refine xr_aload_n E hl 3 rfl dX6_doOrder_180 rfl ?_
      refine xr_iload_n E hl 1 rfl dX6_doOrder_181 rfl ?_
      refine xk_i (W2 := fun uu => (W_Mdo y hMo a_now a_asd a_pst a_mrf a_txt a_olt a_ofr a_nbs a_best a_wys a_rwx a_shx a_bef uu msts mbyt olt ofr nbs mord best wys rwx alw bco alm abt mlt beg figm)) E hX [0, 1] rfl (xv_V (As := [.int (iI (nbs (ofr k)))]) E hX hl (c_X6_putForm l D y z _ hMo a_now a_asd a_pst a_mrf a_txt a_olt a_ofr a_nbs a_best a_wys a_rwx a_shx a_bef now msts mbyt mord alw bco alm abt mlt beg figm (nbs (ofr k)) ⟨by omega, by omega⟩ H_M) ml_X6_115 im_X6_putForm se_X6_putForm in_X6 co_X6_putForm 1 (by decide) ⟨rfl, rfl⟩ ⟨Nat.le_of_ble_eq_true rfl, Nat.le_of_ble_eq_true rfl⟩ [0, 1] rfl rfl 0 rfl rfl rfl rfl rfl (Nat.le_of_ble_eq_true rfl) dX6_doOrder_182 ⟨Nat.le_refl _, Nat.le_refl _⟩) [0, 1, 4, 5, 6, 7, 8, 9] 2 (fun _ => rfl) (fun _ => rfl) (by decide) (by decide) (fun r_182 uu H locs hw hX => ?_)
      obtain ⟨rfl, rfl⟩ := hw
      have hX : XW D A s.heap (W_Mdo y hMo a_now a_asd a_pst a_mrf a_txt a_olt a_ofr a_nbs a_best a_wys a_rwx a_shx a_bef (mSh (nbs (ofr k)) now) msts mbyt olt ofr nbs mord best wys rwx alw bco alm abt mlt beg figm) H locs := hX
      exact xr_iret E hX hQ (mSh (nbs (ofr k)) now, best, wys, rwx, alw, bco, alm, abt) hr (by first | (exfalso; omega) | (unfold mOb; rw [if_neg (by omega), if_neg (by omega), if_neg (by omega), if_neg (by omega), if_neg (by omega), if_neg (by omega), if_pos (by omega), hv]; exact ⟨rfl, rfl⟩)) rfl dX6_doOrder_185
    by_cases k_42_103 : (olt k) = 103
    · refine xr_tabIn (tgt := 186) E dX6_doOrder_42 ⟨by omega, by omega⟩ 1 (by omega) (by omega) rfl (by decide) ?_
      refine xr_aload_n E hl 3 rfl dX6_doOrder_186 rfl ?_
      refine xk_i (W2 := fun uu => (W_Mdo y hMo a_now a_asd a_pst a_mrf a_txt a_olt a_ofr a_nbs a_best a_wys a_rwx a_shx a_bef uu.1 msts mbyt olt ofr nbs mord uu.2.1 uu.2.2.1 uu.2.2.2.1 uu.2.2.2.2.1 uu.2.2.2.2.2.1 uu.2.2.2.2.2.2.1 uu.2.2.2.2.2.2.2 mlt beg figm)) E hX [0, 1, 5, 6, 7] rfl (xv_V (As := []) E hX hl (c_X6_publishAll l D y z _ hMo a_now a_asd a_pst a_mrf a_txt a_olt a_ofr a_nbs a_best a_wys a_rwx a_shx a_bef now msts mbyt mord best wys rwx alw bco alm abt mlt beg figm H_M) ml_X6_118 im_X6_publishAll se_X6_publishAll in_X6 co_X6_publishAll 0 (by decide) ⟨rfl, rfl⟩ ⟨Nat.le_of_ble_eq_true rfl, Nat.le_of_ble_eq_true rfl⟩ [0, 1, 5, 6, 7] rfl rfl 0 rfl rfl rfl rfl rfl (Nat.le_of_ble_eq_true rfl) dX6_doOrder_187 ⟨Nat.le_refl _, Nat.le_refl _⟩) [0, 1, 7, 8, 9, 2, 3, 4] 5 (fun _ => rfl) (fun _ => rfl) (by decide) (by decide) (fun r_187 uu H locs hw hX => ?_)
      obtain ⟨now_187, best_187, wys_187, rwx_187, alw_187, bco_187, alm_187, abt_187⟩ := uu
      have hX : XW D A s.heap (W_Mdo y hMo a_now a_asd a_pst a_mrf a_txt a_olt a_ofr a_nbs a_best a_wys a_rwx a_shx a_bef now_187 msts mbyt olt ofr nbs mord best_187 wys_187 rwx_187 alw_187 bco_187 alm_187 abt_187 mlt beg figm) H locs := hX
      try dsimp only at hw
      obtain ⟨rfl, hp_187⟩ := hw
      exact xr_iret E hX hQ (now_187, best_187, wys_187, rwx_187, alw_187, bco_187, alm_187, abt_187) hr (by unfold mOb; rw [if_neg (by omega), if_neg (by omega), if_neg (by omega), if_neg (by omega), if_neg (by omega), if_neg (by omega), if_neg (by omega)]; exact ⟨rfl, hp_187⟩) rfl dX6_doOrder_190
    by_cases k_42_104 : (olt k) = 104
    · refine xr_tabIn (tgt := 186) E dX6_doOrder_42 ⟨by omega, by omega⟩ 2 (by omega) (by omega) rfl (by decide) ?_
      refine xr_aload_n E hl 3 rfl dX6_doOrder_186 rfl ?_
      refine xk_i (W2 := fun uu => (W_Mdo y hMo a_now a_asd a_pst a_mrf a_txt a_olt a_ofr a_nbs a_best a_wys a_rwx a_shx a_bef uu.1 msts mbyt olt ofr nbs mord uu.2.1 uu.2.2.1 uu.2.2.2.1 uu.2.2.2.2.1 uu.2.2.2.2.2.1 uu.2.2.2.2.2.2.1 uu.2.2.2.2.2.2.2 mlt beg figm)) E hX [0, 1, 5, 6, 7] rfl (xv_V (As := []) E hX hl (c_X6_publishAll l D y z _ hMo a_now a_asd a_pst a_mrf a_txt a_olt a_ofr a_nbs a_best a_wys a_rwx a_shx a_bef now msts mbyt mord best wys rwx alw bco alm abt mlt beg figm H_M) ml_X6_118 im_X6_publishAll se_X6_publishAll in_X6 co_X6_publishAll 0 (by decide) ⟨rfl, rfl⟩ ⟨Nat.le_of_ble_eq_true rfl, Nat.le_of_ble_eq_true rfl⟩ [0, 1, 5, 6, 7] rfl rfl 0 rfl rfl rfl rfl rfl (Nat.le_of_ble_eq_true rfl) dX6_doOrder_187 ⟨Nat.le_refl _, Nat.le_refl _⟩) [0, 1, 7, 8, 9, 2, 3, 4] 5 (fun _ => rfl) (fun _ => rfl) (by decide) (by decide) (fun r_187 uu H locs hw hX => ?_)
      obtain ⟨now_187, best_187, wys_187, rwx_187, alw_187, bco_187, alm_187, abt_187⟩ := uu
      have hX : XW D A s.heap (W_Mdo y hMo a_now a_asd a_pst a_mrf a_txt a_olt a_ofr a_nbs a_best a_wys a_rwx a_shx a_bef now_187 msts mbyt olt ofr nbs mord best_187 wys_187 rwx_187 alw_187 bco_187 alm_187 abt_187 mlt beg figm) H locs := hX
      try dsimp only at hw
      obtain ⟨rfl, hp_187⟩ := hw
      exact xr_iret E hX hQ (now_187, best_187, wys_187, rwx_187, alw_187, bco_187, alm_187, abt_187) hr (by unfold mOb; rw [if_neg (by omega), if_neg (by omega), if_neg (by omega), if_neg (by omega), if_neg (by omega), if_neg (by omega), if_neg (by omega)]; exact ⟨rfl, hp_187⟩) rfl dX6_doOrder_190
    by_cases k_42_105 : (olt k) = 105
    · refine xr_tabIn (tgt := 186) E dX6_doOrder_42 ⟨by omega, by omega⟩ 3 (by omega) (by omega) rfl (by decide) ?_
      refine xr_aload_n E hl 3 rfl dX6_doOrder_186 rfl ?_
      refine xk_i (W2 := fun uu => (W_Mdo y hMo a_now a_asd a_pst a_mrf a_txt a_olt a_ofr a_nbs a_best a_wys a_rwx a_shx a_bef uu.1 msts mbyt olt ofr nbs mord uu.2.1 uu.2.2.1 uu.2.2.2.1 uu.2.2.2.2.1 uu.2.2.2.2.2.1 uu.2.2.2.2.2.2.1 uu.2.2.2.2.2.2.2 mlt beg figm)) E hX [0, 1, 5, 6, 7] rfl (xv_V (As := []) E hX hl (c_X6_publishAll l D y z _ hMo a_now a_asd a_pst a_mrf a_txt a_olt a_ofr a_nbs a_best a_wys a_rwx a_shx a_bef now msts mbyt mord best wys rwx alw bco alm abt mlt beg figm H_M) ml_X6_118 im_X6_publishAll se_X6_publishAll in_X6 co_X6_publishAll 0 (by decide) ⟨rfl, rfl⟩ ⟨Nat.le_of_ble_eq_true rfl, Nat.le_of_ble_eq_true rfl⟩ [0, 1, 5, 6, 7] rfl rfl 0 rfl rfl rfl rfl rfl (Nat.le_of_ble_eq_true rfl) dX6_doOrder_187 ⟨Nat.le_refl _, Nat.le_refl _⟩) [0, 1, 7, 8, 9, 2, 3, 4] 5 (fun _ => rfl) (fun _ => rfl) (by decide) (by decide) (fun r_187 uu H locs hw hX => ?_)
      obtain ⟨now_187, best_187, wys_187, rwx_187, alw_187, bco_187, alm_187, abt_187⟩ := uu
      have hX : XW D A s.heap (W_Mdo y hMo a_now a_asd a_pst a_mrf a_txt a_olt a_ofr a_nbs a_best a_wys a_rwx a_shx a_bef now_187 msts mbyt olt ofr nbs mord best_187 wys_187 rwx_187 alw_187 bco_187 alm_187 abt_187 mlt beg figm) H locs := hX
      try dsimp only at hw
      obtain ⟨rfl, hp_187⟩ := hw
      exact xr_iret E hX hQ (now_187, best_187, wys_187, rwx_187, alw_187, bco_187, alm_187, abt_187) hr (by unfold mOb; rw [if_neg (by omega), if_neg (by omega), if_neg (by omega), if_neg (by omega), if_neg (by omega), if_neg (by omega), if_neg (by omega)]; exact ⟨rfl, hp_187⟩) rfl dX6_doOrder_190
    by_cases k_42_106 : (olt k) = 106
    · refine xr_tabIn (tgt := 186) E dX6_doOrder_42 ⟨by omega, by omega⟩ 4 (by omega) (by omega) rfl (by decide) ?_
      refine xr_aload_n E hl 3 rfl dX6_doOrder_186 rfl ?_
      refine xk_i (W2 := fun uu => (W_Mdo y hMo a_now a_asd a_pst a_mrf a_txt a_olt a_ofr a_nbs a_best a_wys a_rwx a_shx a_bef uu.1 msts mbyt olt ofr nbs mord uu.2.1 uu.2.2.1 uu.2.2.2.1 uu.2.2.2.2.1 uu.2.2.2.2.2.1 uu.2.2.2.2.2.2.1 uu.2.2.2.2.2.2.2 mlt beg figm)) E hX [0, 1, 5, 6, 7] rfl (xv_V (As := []) E hX hl (c_X6_publishAll l D y z _ hMo a_now a_asd a_pst a_mrf a_txt a_olt a_ofr a_nbs a_best a_wys a_rwx a_shx a_bef now msts mbyt mord best wys rwx alw bco alm abt mlt beg figm H_M) ml_X6_118 im_X6_publishAll se_X6_publishAll in_X6 co_X6_publishAll 0 (by decide) ⟨rfl, rfl⟩ ⟨Nat.le_of_ble_eq_true rfl, Nat.le_of_ble_eq_true rfl⟩ [0, 1, 5, 6, 7] rfl rfl 0 rfl rfl rfl rfl rfl (Nat.le_of_ble_eq_true rfl) dX6_doOrder_187 ⟨Nat.le_refl _, Nat.le_refl _⟩) [0, 1, 7, 8, 9, 2, 3, 4] 5 (fun _ => rfl) (fun _ => rfl) (by decide) (by decide) (fun r_187 uu H locs hw hX => ?_)
      obtain ⟨now_187, best_187, wys_187, rwx_187, alw_187, bco_187, alm_187, abt_187⟩ := uu
      have hX : XW D A s.heap (W_Mdo y hMo a_now a_asd a_pst a_mrf a_txt a_olt a_ofr a_nbs a_best a_wys a_rwx a_shx a_bef now_187 msts mbyt olt ofr nbs mord best_187 wys_187 rwx_187 alw_187 bco_187 alm_187 abt_187 mlt beg figm) H locs := hX
      try dsimp only at hw
      obtain ⟨rfl, hp_187⟩ := hw
      exact xr_iret E hX hQ (now_187, best_187, wys_187, rwx_187, alw_187, bco_187, alm_187, abt_187) hr (by unfold mOb; rw [if_neg (by omega), if_neg (by omega), if_neg (by omega), if_neg (by omega), if_neg (by omega), if_neg (by omega), if_neg (by omega)]; exact ⟨rfl, hp_187⟩) rfl dX6_doOrder_190
    by_cases k_42_107 : (olt k) = 107
    · refine xr_tabIn (tgt := 186) E dX6_doOrder_42 ⟨by omega, by omega⟩ 5 (by omega) (by omega) rfl (by decide) ?_
      refine xr_aload_n E hl 3 rfl dX6_doOrder_186 rfl ?_
      refine xk_i (W2 := fun uu => (W_Mdo y hMo a_now a_asd a_pst a_mrf a_txt a_olt a_ofr a_nbs a_best a_wys a_rwx a_shx a_bef uu.1 msts mbyt olt ofr nbs mord uu.2.1 uu.2.2.1 uu.2.2.2.1 uu.2.2.2.2.1 uu.2.2.2.2.2.1 uu.2.2.2.2.2.2.1 uu.2.2.2.2.2.2.2 mlt beg figm)) E hX [0, 1, 5, 6, 7] rfl (xv_V (As := []) E hX hl (c_X6_publishAll l D y z _ hMo a_now a_asd a_pst a_mrf a_txt a_olt a_ofr a_nbs a_best a_wys a_rwx a_shx a_bef now msts mbyt mord best wys rwx alw bco alm abt mlt beg figm H_M) ml_X6_118 im_X6_publishAll se_X6_publishAll in_X6 co_X6_publishAll 0 (by decide) ⟨rfl, rfl⟩ ⟨Nat.le_of_ble_eq_true rfl, Nat.le_of_ble_eq_true rfl⟩ [0, 1, 5, 6, 7] rfl rfl 0 rfl rfl rfl rfl rfl (Nat.le_of_ble_eq_true rfl) dX6_doOrder_187 ⟨Nat.le_refl _, Nat.le_refl _⟩) [0, 1, 7, 8, 9, 2, 3, 4] 5 (fun _ => rfl) (fun _ => rfl) (by decide) (by decide) (fun r_187 uu H locs hw hX => ?_)
      obtain ⟨now_187, best_187, wys_187, rwx_187, alw_187, bco_187, alm_187, abt_187⟩ := uu
      have hX : XW D A s.heap (W_Mdo y hMo a_now a_asd a_pst a_mrf a_txt a_olt a_ofr a_nbs a_best a_wys a_rwx a_shx a_bef now_187 msts mbyt olt ofr nbs mord best_187 wys_187 rwx_187 alw_187 bco_187 alm_187 abt_187 mlt beg figm) H locs := hX
      try dsimp only at hw
      obtain ⟨rfl, hp_187⟩ := hw
      exact xr_iret E hX hQ (now_187, best_187, wys_187, rwx_187, alw_187, bco_187, alm_187, abt_187) hr (by unfold mOb; rw [if_neg (by omega), if_neg (by omega), if_neg (by omega), if_neg (by omega), if_neg (by omega), if_neg (by omega), if_neg (by omega)]; exact ⟨rfl, hp_187⟩) rfl dX6_doOrder_190
    by_cases k_42_108 : (olt k) = 108
    · refine xr_tabIn (tgt := 168) E dX6_doOrder_42 ⟨by omega, by omega⟩ 6 (by omega) (by omega) rfl (by decide) ?_
      have hcc : c = 108 := by omega
      have hv := ha (by rw [hcc]; decide)
      refine xr_aload_n E hl 3 rfl dX6_doOrder_168 rfl ?_
      refine xr_iload_n E hl 1 rfl dX6_doOrder_169 rfl ?_
      refine xk_i (W2 := fun uu => (W_Mdo y hMo a_now a_asd a_pst a_mrf a_txt a_olt a_ofr a_nbs a_best a_wys a_rwx a_shx a_bef uu msts mbyt olt ofr nbs mord best wys rwx alw bco alm abt mlt beg figm)) E hX [0, 1] rfl (xv_V (As := [.int (iI (nbs (ofr k)))]) E hX hl (c_X6_putLimit l D y z _ hMo a_now a_asd a_pst a_mrf a_txt a_olt a_ofr a_nbs a_best a_wys a_rwx a_shx a_bef now msts mbyt mord alw bco alm abt mlt beg figm (nbs (ofr k)) ⟨by omega, by omega⟩ H_M) ml_X6_112 im_X6_putLimit se_X6_putLimit in_X6 co_X6_putLimit 1 (by decide) ⟨rfl, rfl⟩ ⟨Nat.le_of_ble_eq_true rfl, Nat.le_of_ble_eq_true rfl⟩ [0, 1] rfl rfl 0 rfl rfl rfl rfl rfl (Nat.le_of_ble_eq_true rfl) dX6_doOrder_170 ⟨Nat.le_refl _, Nat.le_refl _⟩) [0, 1, 4, 5, 6, 7, 8, 9] 2 (fun _ => rfl) (fun _ => rfl) (by decide) (by decide) (fun r_170 uu H locs hw hX => ?_)
      obtain ⟨rfl, rfl⟩ := hw
      have hX : XW D A s.heap (W_Mdo y hMo a_now a_asd a_pst a_mrf a_txt a_olt a_ofr a_nbs a_best a_wys a_rwx a_shx a_bef (mBo (nbs (ofr k)) now) msts mbyt olt ofr nbs mord best wys rwx alw bco alm abt mlt beg figm) H locs := hX
      exact xr_iret E hX hQ (mBo (nbs (ofr k)) now, best, wys, rwx, alw, bco, alm, abt) hr (by first | (exfalso; omega) | (unfold mOb; rw [if_neg (by omega), if_neg (by omega), if_neg (by omega), if_neg (by omega), if_pos (by omega), hv]; exact ⟨rfl, rfl⟩)) rfl dX6_doOrder_173
    by_cases k_42_109 : (olt k) = 109
    · refine xr_tabIn (tgt := 186) E dX6_doOrder_42 ⟨by omega, by omega⟩ 7 (by omega) (by omega) rfl (by decide) ?_
      refine xr_aload_n E hl 3 rfl dX6_doOrder_186 rfl ?_
      refine xk_i (W2 := fun uu => (W_Mdo y hMo a_now a_asd a_pst a_mrf a_txt a_olt a_ofr a_nbs a_best a_wys a_rwx a_shx a_bef uu.1 msts mbyt olt ofr nbs mord uu.2.1 uu.2.2.1 uu.2.2.2.1 uu.2.2.2.2.1 uu.2.2.2.2.2.1 uu.2.2.2.2.2.2.1 uu.2.2.2.2.2.2.2 mlt beg figm)) E hX [0, 1, 5, 6, 7] rfl (xv_V (As := []) E hX hl (c_X6_publishAll l D y z _ hMo a_now a_asd a_pst a_mrf a_txt a_olt a_ofr a_nbs a_best a_wys a_rwx a_shx a_bef now msts mbyt mord best wys rwx alw bco alm abt mlt beg figm H_M) ml_X6_118 im_X6_publishAll se_X6_publishAll in_X6 co_X6_publishAll 0 (by decide) ⟨rfl, rfl⟩ ⟨Nat.le_of_ble_eq_true rfl, Nat.le_of_ble_eq_true rfl⟩ [0, 1, 5, 6, 7] rfl rfl 0 rfl rfl rfl rfl rfl (Nat.le_of_ble_eq_true rfl) dX6_doOrder_187 ⟨Nat.le_refl _, Nat.le_refl _⟩) [0, 1, 7, 8, 9, 2, 3, 4] 5 (fun _ => rfl) (fun _ => rfl) (by decide) (by decide) (fun r_187 uu H locs hw hX => ?_)
      obtain ⟨now_187, best_187, wys_187, rwx_187, alw_187, bco_187, alm_187, abt_187⟩ := uu
      have hX : XW D A s.heap (W_Mdo y hMo a_now a_asd a_pst a_mrf a_txt a_olt a_ofr a_nbs a_best a_wys a_rwx a_shx a_bef now_187 msts mbyt olt ofr nbs mord best_187 wys_187 rwx_187 alw_187 bco_187 alm_187 abt_187 mlt beg figm) H locs := hX
      try dsimp only at hw
      obtain ⟨rfl, hp_187⟩ := hw
      exact xr_iret E hX hQ (now_187, best_187, wys_187, rwx_187, alw_187, bco_187, alm_187, abt_187) hr (by unfold mOb; rw [if_neg (by omega), if_neg (by omega), if_neg (by omega), if_neg (by omega), if_neg (by omega), if_neg (by omega), if_neg (by omega)]; exact ⟨rfl, hp_187⟩) rfl dX6_doOrder_190
    by_cases k_42_110 : (olt k) = 110
    · refine xr_tabIn (tgt := 154) E dX6_doOrder_42 ⟨by omega, by omega⟩ 8 (by omega) (by omega) rfl (by decide) ?_
      have hcc : c = 110 := by omega
      have hv := ha (by rw [hcc]; decide)
      refine xr_aload_n E hl 3 rfl dX6_doOrder_154 rfl ?_
      refine xr_iload_n E hl 1 rfl dX6_doOrder_155 rfl ?_
      refine xk_i (W2 := fun uu => (W_Mdo y hMo a_now a_asd a_pst a_mrf a_txt a_olt a_ofr a_nbs a_best a_wys a_rwx a_shx a_bef uu msts mbyt olt ofr nbs mord best wys rwx alw bco alm abt mlt beg figm)) E hX [0, 1] rfl (xv_V (As := [.int (iI (nbs (ofr k)))]) E hX hl (c_X6_dropTotal l D y z _ hMo a_now a_asd a_pst a_mrf a_txt a_olt a_ofr a_nbs a_best a_wys a_rwx a_shx a_bef now msts mbyt mord alw bco alm abt mlt beg figm (nbs (ofr k)) ⟨by omega, by omega⟩ H_M) ml_X6_106 im_X6_dropTotal se_X6_dropTotal in_X6 co_X6_dropTotal 1 (by decide) ⟨rfl, rfl⟩ ⟨Nat.le_of_ble_eq_true rfl, Nat.le_of_ble_eq_true rfl⟩ [0, 1] rfl rfl 0 rfl rfl rfl rfl rfl (Nat.le_of_ble_eq_true rfl) dX6_doOrder_156 ⟨Nat.le_refl _, Nat.le_refl _⟩) [0, 1, 4, 5, 6, 7, 8, 9] 2 (fun _ => rfl) (fun _ => rfl) (by decide) (by decide) (fun r_156 uu H locs hw hX => ?_)
      obtain ⟨rfl, rfl⟩ := hw
      have hX : XW D A s.heap (W_Mdo y hMo a_now a_asd a_pst a_mrf a_txt a_olt a_ofr a_nbs a_best a_wys a_rwx a_shx a_bef (mUn (nbs (ofr k)) now) msts mbyt olt ofr nbs mord best wys rwx alw bco alm abt mlt beg figm) H locs := hX
      exact xr_iret E hX hQ (mUn (nbs (ofr k)) now, best, wys, rwx, alw, bco, alm, abt) hr (by first | (exfalso; omega) | (unfold mOb; rw [if_neg (by omega), if_neg (by omega), if_pos (by omega), hv]; exact ⟨rfl, rfl⟩)) rfl dX6_doOrder_159
    by_cases k_42_111 : (olt k) = 111
    · refine xr_tabIn (tgt := 174) E dX6_doOrder_42 ⟨by omega, by omega⟩ 9 (by omega) (by omega) rfl (by decide) ?_
      refine xr_aload_n E hl 3 rfl dX6_doOrder_174 rfl ?_
      refine xr_iconst E dX6_doOrder_175 ?_
      refine xk_i (W2 := fun uu => (W_Mdo y hMo a_now a_asd a_pst a_mrf a_txt a_olt a_ofr a_nbs a_best a_wys a_rwx a_shx a_bef uu msts mbyt olt ofr nbs mord best wys rwx alw bco alm abt mlt beg figm)) E hX [0, 1] rfl (xv_V (As := [.int (iI (-1))]) E hX hl (c_X6_putLimit l D y z _ hMo a_now a_asd a_pst a_mrf a_txt a_olt a_ofr a_nbs a_best a_wys a_rwx a_shx a_bef now msts mbyt mord alw bco alm abt mlt beg figm (-1) ⟨by omega, by omega⟩ H_M) ml_X6_112 im_X6_putLimit se_X6_putLimit in_X6 co_X6_putLimit 1 (by decide) ⟨rfl, rfl⟩ ⟨Nat.le_of_ble_eq_true rfl, Nat.le_of_ble_eq_true rfl⟩ [0, 1] rfl rfl 0 rfl rfl rfl rfl rfl (Nat.le_of_ble_eq_true rfl) dX6_doOrder_176 ⟨Nat.le_refl _, Nat.le_refl _⟩) [0, 1, 4, 5, 6, 7, 8, 9] 2 (fun _ => rfl) (fun _ => rfl) (by decide) (by decide) (fun r_176 uu H locs hw hX => ?_)
      obtain ⟨rfl, rfl⟩ := hw
      have hX : XW D A s.heap (W_Mdo y hMo a_now a_asd a_pst a_mrf a_txt a_olt a_ofr a_nbs a_best a_wys a_rwx a_shx a_bef (mBo (-1) now) msts mbyt olt ofr nbs mord best wys rwx alw bco alm abt mlt beg figm) H locs := hX
      exact xr_iret E hX hQ (mBo (-1) now, best, wys, rwx, alw, bco, alm, abt) hr (by first | (exfalso; omega) | (unfold mOb; rw [if_neg (by omega), if_neg (by omega), if_neg (by omega), if_neg (by omega), if_neg (by omega), if_pos (by omega)]; exact ⟨rfl, rfl⟩)) rfl dX6_doOrder_179
    by_cases k_42_112 : (olt k) = 112
    · refine xr_tabIn (tgt := 186) E dX6_doOrder_42 ⟨by omega, by omega⟩ 10 (by omega) (by omega) rfl (by decide) ?_
      refine xr_aload_n E hl 3 rfl dX6_doOrder_186 rfl ?_
      refine xk_i (W2 := fun uu => (W_Mdo y hMo a_now a_asd a_pst a_mrf a_txt a_olt a_ofr a_nbs a_best a_wys a_rwx a_shx a_bef uu.1 msts mbyt olt ofr nbs mord uu.2.1 uu.2.2.1 uu.2.2.2.1 uu.2.2.2.2.1 uu.2.2.2.2.2.1 uu.2.2.2.2.2.2.1 uu.2.2.2.2.2.2.2 mlt beg figm)) E hX [0, 1, 5, 6, 7] rfl (xv_V (As := []) E hX hl (c_X6_publishAll l D y z _ hMo a_now a_asd a_pst a_mrf a_txt a_olt a_ofr a_nbs a_best a_wys a_rwx a_shx a_bef now msts mbyt mord best wys rwx alw bco alm abt mlt beg figm H_M) ml_X6_118 im_X6_publishAll se_X6_publishAll in_X6 co_X6_publishAll 0 (by decide) ⟨rfl, rfl⟩ ⟨Nat.le_of_ble_eq_true rfl, Nat.le_of_ble_eq_true rfl⟩ [0, 1, 5, 6, 7] rfl rfl 0 rfl rfl rfl rfl rfl (Nat.le_of_ble_eq_true rfl) dX6_doOrder_187 ⟨Nat.le_refl _, Nat.le_refl _⟩) [0, 1, 7, 8, 9, 2, 3, 4] 5 (fun _ => rfl) (fun _ => rfl) (by decide) (by decide) (fun r_187 uu H locs hw hX => ?_)
      obtain ⟨now_187, best_187, wys_187, rwx_187, alw_187, bco_187, alm_187, abt_187⟩ := uu
      have hX : XW D A s.heap (W_Mdo y hMo a_now a_asd a_pst a_mrf a_txt a_olt a_ofr a_nbs a_best a_wys a_rwx a_shx a_bef now_187 msts mbyt olt ofr nbs mord best_187 wys_187 rwx_187 alw_187 bco_187 alm_187 abt_187 mlt beg figm) H locs := hX
      try dsimp only at hw
      obtain ⟨rfl, hp_187⟩ := hw
      exact xr_iret E hX hQ (now_187, best_187, wys_187, rwx_187, alw_187, bco_187, alm_187, abt_187) hr (by unfold mOb; rw [if_neg (by omega), if_neg (by omega), if_neg (by omega), if_neg (by omega), if_neg (by omega), if_neg (by omega), if_neg (by omega)]; exact ⟨rfl, hp_187⟩) rfl dX6_doOrder_190
    by_cases k_42_113 : (olt k) = 113
    · refine xr_tabIn (tgt := 140) E dX6_doOrder_42 ⟨by omega, by omega⟩ 11 (by omega) (by omega) rfl (by decide) ?_
      have hcc : c = 113 := by omega
      have hv := ha (by rw [hcc]; decide)
      refine xr_aload_n E hl 3 rfl dX6_doOrder_140 rfl ?_
      refine xr_iload_n E hl 1 rfl dX6_doOrder_141 rfl ?_
      refine xk_i (W2 := fun uu => (W_Mdo y hMo a_now a_asd a_pst a_mrf a_txt a_olt a_ofr a_nbs a_best a_wys a_rwx a_shx a_bef uu msts mbyt olt ofr nbs mord best wys rwx alw bco alm abt mlt beg figm)) E hX [0, 1] rfl (xv_V (As := [.int (iI (nbs (ofr k)))]) E hX hl (c_X6_putQuarter l D y z _ hMo a_now a_asd a_pst a_mrf a_txt a_olt a_ofr a_nbs a_best a_wys a_rwx a_shx a_bef now msts mbyt mord alw bco alm abt mlt beg figm (nbs (ofr k)) ⟨by omega, by omega⟩ H_M) ml_X6_93 im_X6_putQuarter se_X6_putQuarter in_X6 co_X6_putQuarter 1 (by decide) ⟨rfl, rfl⟩ ⟨Nat.le_of_ble_eq_true rfl, Nat.le_of_ble_eq_true rfl⟩ [0, 1] rfl rfl 0 rfl rfl rfl rfl rfl (Nat.le_of_ble_eq_true rfl) dX6_doOrder_142 ⟨Nat.le_refl _, Nat.le_refl _⟩) [0, 1, 4, 5, 6, 7, 8, 9] 2 (fun _ => rfl) (fun _ => rfl) (by decide) (by decide) (fun r_142 uu H locs hw hX => ?_)
      obtain ⟨rfl, rfl⟩ := hw
      have hX : XW D A s.heap (W_Mdo y hMo a_now a_asd a_pst a_mrf a_txt a_olt a_ofr a_nbs a_best a_wys a_rwx a_shx a_bef (mAdds (nbs (ofr k)) now) msts mbyt olt ofr nbs mord best wys rwx alw bco alm abt mlt beg figm) H locs := hX
      exact xr_iret E hX hQ (mAdds (nbs (ofr k)) now, best, wys, rwx, alw, bco, alm, abt) hr (by first | (exfalso; omega) | (unfold mOb; rw [if_pos (by omega), hv]; exact ⟨rfl, rfl⟩)) rfl dX6_doOrder_145
    by_cases k_42_114 : (olt k) = 114
    · refine xr_tabIn (tgt := 186) E dX6_doOrder_42 ⟨by omega, by omega⟩ 12 (by omega) (by omega) rfl (by decide) ?_
      refine xr_aload_n E hl 3 rfl dX6_doOrder_186 rfl ?_
      refine xk_i (W2 := fun uu => (W_Mdo y hMo a_now a_asd a_pst a_mrf a_txt a_olt a_ofr a_nbs a_best a_wys a_rwx a_shx a_bef uu.1 msts mbyt olt ofr nbs mord uu.2.1 uu.2.2.1 uu.2.2.2.1 uu.2.2.2.2.1 uu.2.2.2.2.2.1 uu.2.2.2.2.2.2.1 uu.2.2.2.2.2.2.2 mlt beg figm)) E hX [0, 1, 5, 6, 7] rfl (xv_V (As := []) E hX hl (c_X6_publishAll l D y z _ hMo a_now a_asd a_pst a_mrf a_txt a_olt a_ofr a_nbs a_best a_wys a_rwx a_shx a_bef now msts mbyt mord best wys rwx alw bco alm abt mlt beg figm H_M) ml_X6_118 im_X6_publishAll se_X6_publishAll in_X6 co_X6_publishAll 0 (by decide) ⟨rfl, rfl⟩ ⟨Nat.le_of_ble_eq_true rfl, Nat.le_of_ble_eq_true rfl⟩ [0, 1, 5, 6, 7] rfl rfl 0 rfl rfl rfl rfl rfl (Nat.le_of_ble_eq_true rfl) dX6_doOrder_187 ⟨Nat.le_refl _, Nat.le_refl _⟩) [0, 1, 7, 8, 9, 2, 3, 4] 5 (fun _ => rfl) (fun _ => rfl) (by decide) (by decide) (fun r_187 uu H locs hw hX => ?_)
      obtain ⟨now_187, best_187, wys_187, rwx_187, alw_187, bco_187, alm_187, abt_187⟩ := uu
      have hX : XW D A s.heap (W_Mdo y hMo a_now a_asd a_pst a_mrf a_txt a_olt a_ofr a_nbs a_best a_wys a_rwx a_shx a_bef now_187 msts mbyt olt ofr nbs mord best_187 wys_187 rwx_187 alw_187 bco_187 alm_187 abt_187 mlt beg figm) H locs := hX
      try dsimp only at hw
      obtain ⟨rfl, hp_187⟩ := hw
      exact xr_iret E hX hQ (now_187, best_187, wys_187, rwx_187, alw_187, bco_187, alm_187, abt_187) hr (by unfold mOb; rw [if_neg (by omega), if_neg (by omega), if_neg (by omega), if_neg (by omega), if_neg (by omega), if_neg (by omega), if_neg (by omega)]; exact ⟨rfl, hp_187⟩) rfl dX6_doOrder_190
    by_cases k_42_115 : (olt k) = 115
    · refine xr_tabIn (tgt := 186) E dX6_doOrder_42 ⟨by omega, by omega⟩ 13 (by omega) (by omega) rfl (by decide) ?_
      refine xr_aload_n E hl 3 rfl dX6_doOrder_186 rfl ?_
      refine xk_i (W2 := fun uu => (W_Mdo y hMo a_now a_asd a_pst a_mrf a_txt a_olt a_ofr a_nbs a_best a_wys a_rwx a_shx a_bef uu.1 msts mbyt olt ofr nbs mord uu.2.1 uu.2.2.1 uu.2.2.2.1 uu.2.2.2.2.1 uu.2.2.2.2.2.1 uu.2.2.2.2.2.2.1 uu.2.2.2.2.2.2.2 mlt beg figm)) E hX [0, 1, 5, 6, 7] rfl (xv_V (As := []) E hX hl (c_X6_publishAll l D y z _ hMo a_now a_asd a_pst a_mrf a_txt a_olt a_ofr a_nbs a_best a_wys a_rwx a_shx a_bef now msts mbyt mord best wys rwx alw bco alm abt mlt beg figm H_M) ml_X6_118 im_X6_publishAll se_X6_publishAll in_X6 co_X6_publishAll 0 (by decide) ⟨rfl, rfl⟩ ⟨Nat.le_of_ble_eq_true rfl, Nat.le_of_ble_eq_true rfl⟩ [0, 1, 5, 6, 7] rfl rfl 0 rfl rfl rfl rfl rfl (Nat.le_of_ble_eq_true rfl) dX6_doOrder_187 ⟨Nat.le_refl _, Nat.le_refl _⟩) [0, 1, 7, 8, 9, 2, 3, 4] 5 (fun _ => rfl) (fun _ => rfl) (by decide) (by decide) (fun r_187 uu H locs hw hX => ?_)
      obtain ⟨now_187, best_187, wys_187, rwx_187, alw_187, bco_187, alm_187, abt_187⟩ := uu
      have hX : XW D A s.heap (W_Mdo y hMo a_now a_asd a_pst a_mrf a_txt a_olt a_ofr a_nbs a_best a_wys a_rwx a_shx a_bef now_187 msts mbyt olt ofr nbs mord best_187 wys_187 rwx_187 alw_187 bco_187 alm_187 abt_187 mlt beg figm) H locs := hX
      try dsimp only at hw
      obtain ⟨rfl, hp_187⟩ := hw
      exact xr_iret E hX hQ (now_187, best_187, wys_187, rwx_187, alw_187, bco_187, alm_187, abt_187) hr (by unfold mOb; rw [if_neg (by omega), if_neg (by omega), if_neg (by omega), if_neg (by omega), if_neg (by omega), if_neg (by omega), if_neg (by omega)]; exact ⟨rfl, hp_187⟩) rfl dX6_doOrder_190
    by_cases k_42_116 : (olt k) = 116
    · refine xr_tabIn (tgt := 146) E dX6_doOrder_42 ⟨by omega, by omega⟩ 14 (by omega) (by omega) rfl (by decide) ?_
      have hcc : c = 116 := by omega
      have hv := ha (by rw [hcc]; decide)
      have hw := hb (by rw [hcc]; decide)
      refine xr_aload_n E hl 3 rfl dX6_doOrder_146 rfl ?_
      refine xr_iload_n E hl 1 rfl dX6_doOrder_147 rfl ?_
      refine xr_iload E hl 0 rfl dX6_doOrder_148 ?_
      refine xk_i (W2 := fun uu => (W_Mdo y hMo a_now a_asd a_pst a_mrf a_txt a_olt a_ofr a_nbs a_best a_wys a_rwx a_shx a_bef uu msts mbyt olt ofr nbs mord best wys rwx alw bco alm abt mlt beg figm)) E hX [0, 1] rfl (xv_V (As := [.int (iI (nbs (ofr k))), .int (iI 0)]) E hX hl (c_X6_putTotal l D y z _ hMo a_now a_asd a_pst a_mrf a_txt a_olt a_ofr a_nbs a_best a_wys a_rwx a_shx a_bef now msts mbyt mord alw bco alm abt mlt beg figm (nbs (ofr k)) 0 ⟨by omega, by omega⟩ ⟨by omega, by omega⟩ H_M) ml_X6_103 im_X6_putTotal se_X6_putTotal in_X6 co_X6_putTotal 2 (by decide) ⟨rfl, rfl⟩ ⟨Nat.le_of_ble_eq_true rfl, Nat.le_of_ble_eq_true rfl⟩ [0, 1] rfl rfl 0 rfl rfl rfl rfl rfl (Nat.le_of_ble_eq_true rfl) dX6_doOrder_150 ⟨Nat.le_refl _, Nat.le_refl _⟩) [0, 1, 4, 5, 6, 7, 8, 9] 2 (fun _ => rfl) (fun _ => rfl) (by decide) (by decide) (fun r_150 uu H locs hw hX => ?_)
      obtain ⟨rfl, rfl⟩ := hw
      have hX : XW D A s.heap (W_Mdo y hMo a_now a_asd a_pst a_mrf a_txt a_olt a_ofr a_nbs a_best a_wys a_rwx a_shx a_bef (mTl (nbs (ofr k)) 0 now) msts mbyt olt ofr nbs mord best wys rwx alw bco alm abt mlt beg figm) H locs := hX
      exact xr_iret E hX hQ (mTl (nbs (ofr k)) 0 now, best, wys, rwx, alw, bco, alm, abt) hr (by first | (exfalso; omega) | (unfold mOb; rw [if_neg (by omega), if_pos (by omega), hv, hw.1]; exact ⟨rfl, rfl⟩)) rfl dX6_doOrder_153
    by_cases k_42_117 : (olt k) = 117
    · refine xr_tabIn (tgt := 186) E dX6_doOrder_42 ⟨by omega, by omega⟩ 15 (by omega) (by omega) rfl (by decide) ?_
      refine xr_aload_n E hl 3 rfl dX6_doOrder_186 rfl ?_
      refine xk_i (W2 := fun uu => (W_Mdo y hMo a_now a_asd a_pst a_mrf a_txt a_olt a_ofr a_nbs a_best a_wys a_rwx a_shx a_bef uu.1 msts mbyt olt ofr nbs mord uu.2.1 uu.2.2.1 uu.2.2.2.1 uu.2.2.2.2.1 uu.2.2.2.2.2.1 uu.2.2.2.2.2.2.1 uu.2.2.2.2.2.2.2 mlt beg figm)) E hX [0, 1, 5, 6, 7] rfl (xv_V (As := []) E hX hl (c_X6_publishAll l D y z _ hMo a_now a_asd a_pst a_mrf a_txt a_olt a_ofr a_nbs a_best a_wys a_rwx a_shx a_bef now msts mbyt mord best wys rwx alw bco alm abt mlt beg figm H_M) ml_X6_118 im_X6_publishAll se_X6_publishAll in_X6 co_X6_publishAll 0 (by decide) ⟨rfl, rfl⟩ ⟨Nat.le_of_ble_eq_true rfl, Nat.le_of_ble_eq_true rfl⟩ [0, 1, 5, 6, 7] rfl rfl 0 rfl rfl rfl rfl rfl (Nat.le_of_ble_eq_true rfl) dX6_doOrder_187 ⟨Nat.le_refl _, Nat.le_refl _⟩) [0, 1, 7, 8, 9, 2, 3, 4] 5 (fun _ => rfl) (fun _ => rfl) (by decide) (by decide) (fun r_187 uu H locs hw hX => ?_)
      obtain ⟨now_187, best_187, wys_187, rwx_187, alw_187, bco_187, alm_187, abt_187⟩ := uu
      have hX : XW D A s.heap (W_Mdo y hMo a_now a_asd a_pst a_mrf a_txt a_olt a_ofr a_nbs a_best a_wys a_rwx a_shx a_bef now_187 msts mbyt olt ofr nbs mord best_187 wys_187 rwx_187 alw_187 bco_187 alm_187 abt_187 mlt beg figm) H locs := hX
      try dsimp only at hw
      obtain ⟨rfl, hp_187⟩ := hw
      exact xr_iret E hX hQ (now_187, best_187, wys_187, rwx_187, alw_187, bco_187, alm_187, abt_187) hr (by unfold mOb; rw [if_neg (by omega), if_neg (by omega), if_neg (by omega), if_neg (by omega), if_neg (by omega), if_neg (by omega), if_neg (by omega)]; exact ⟨rfl, hp_187⟩) rfl dX6_doOrder_190
    by_cases k_42_118 : (olt k) = 118
    · refine xr_tabIn (tgt := 186) E dX6_doOrder_42 ⟨by omega, by omega⟩ 16 (by omega) (by omega) rfl (by decide) ?_
      refine xr_aload_n E hl 3 rfl dX6_doOrder_186 rfl ?_
      refine xk_i (W2 := fun uu => (W_Mdo y hMo a_now a_asd a_pst a_mrf a_txt a_olt a_ofr a_nbs a_best a_wys a_rwx a_shx a_bef uu.1 msts mbyt olt ofr nbs mord uu.2.1 uu.2.2.1 uu.2.2.2.1 uu.2.2.2.2.1 uu.2.2.2.2.2.1 uu.2.2.2.2.2.2.1 uu.2.2.2.2.2.2.2 mlt beg figm)) E hX [0, 1, 5, 6, 7] rfl (xv_V (As := []) E hX hl (c_X6_publishAll l D y z _ hMo a_now a_asd a_pst a_mrf a_txt a_olt a_ofr a_nbs a_best a_wys a_rwx a_shx a_bef now msts mbyt mord best wys rwx alw bco alm abt mlt beg figm H_M) ml_X6_118 im_X6_publishAll se_X6_publishAll in_X6 co_X6_publishAll 0 (by decide) ⟨rfl, rfl⟩ ⟨Nat.le_of_ble_eq_true rfl, Nat.le_of_ble_eq_true rfl⟩ [0, 1, 5, 6, 7] rfl rfl 0 rfl rfl rfl rfl rfl (Nat.le_of_ble_eq_true rfl) dX6_doOrder_187 ⟨Nat.le_refl _, Nat.le_refl _⟩) [0, 1, 7, 8, 9, 2, 3, 4] 5 (fun _ => rfl) (fun _ => rfl) (by decide) (by decide) (fun r_187 uu H locs hw hX => ?_)
      obtain ⟨now_187, best_187, wys_187, rwx_187, alw_187, bco_187, alm_187, abt_187⟩ := uu
      have hX : XW D A s.heap (W_Mdo y hMo a_now a_asd a_pst a_mrf a_txt a_olt a_ofr a_nbs a_best a_wys a_rwx a_shx a_bef now_187 msts mbyt olt ofr nbs mord best_187 wys_187 rwx_187 alw_187 bco_187 alm_187 abt_187 mlt beg figm) H locs := hX
      try dsimp only at hw
      obtain ⟨rfl, hp_187⟩ := hw
      exact xr_iret E hX hQ (now_187, best_187, wys_187, rwx_187, alw_187, bco_187, alm_187, abt_187) hr (by unfold mOb; rw [if_neg (by omega), if_neg (by omega), if_neg (by omega), if_neg (by omega), if_neg (by omega), if_neg (by omega), if_neg (by omega)]; exact ⟨rfl, hp_187⟩) rfl dX6_doOrder_190
    by_cases k_42_119 : (olt k) = 119
    · refine xr_tabIn (tgt := 186) E dX6_doOrder_42 ⟨by omega, by omega⟩ 17 (by omega) (by omega) rfl (by decide) ?_
      refine xr_aload_n E hl 3 rfl dX6_doOrder_186 rfl ?_
      refine xk_i (W2 := fun uu => (W_Mdo y hMo a_now a_asd a_pst a_mrf a_txt a_olt a_ofr a_nbs a_best a_wys a_rwx a_shx a_bef uu.1 msts mbyt olt ofr nbs mord uu.2.1 uu.2.2.1 uu.2.2.2.1 uu.2.2.2.2.1 uu.2.2.2.2.2.1 uu.2.2.2.2.2.2.1 uu.2.2.2.2.2.2.2 mlt beg figm)) E hX [0, 1, 5, 6, 7] rfl (xv_V (As := []) E hX hl (c_X6_publishAll l D y z _ hMo a_now a_asd a_pst a_mrf a_txt a_olt a_ofr a_nbs a_best a_wys a_rwx a_shx a_bef now msts mbyt mord best wys rwx alw bco alm abt mlt beg figm H_M) ml_X6_118 im_X6_publishAll se_X6_publishAll in_X6 co_X6_publishAll 0 (by decide) ⟨rfl, rfl⟩ ⟨Nat.le_of_ble_eq_true rfl, Nat.le_of_ble_eq_true rfl⟩ [0, 1, 5, 6, 7] rfl rfl 0 rfl rfl rfl rfl rfl (Nat.le_of_ble_eq_true rfl) dX6_doOrder_187 ⟨Nat.le_refl _, Nat.le_refl _⟩) [0, 1, 7, 8, 9, 2, 3, 4] 5 (fun _ => rfl) (fun _ => rfl) (by decide) (by decide) (fun r_187 uu H locs hw hX => ?_)
      obtain ⟨now_187, best_187, wys_187, rwx_187, alw_187, bco_187, alm_187, abt_187⟩ := uu
      have hX : XW D A s.heap (W_Mdo y hMo a_now a_asd a_pst a_mrf a_txt a_olt a_ofr a_nbs a_best a_wys a_rwx a_shx a_bef now_187 msts mbyt olt ofr nbs mord best_187 wys_187 rwx_187 alw_187 bco_187 alm_187 abt_187 mlt beg figm) H locs := hX
      try dsimp only at hw
      obtain ⟨rfl, hp_187⟩ := hw
      exact xr_iret E hX hQ (now_187, best_187, wys_187, rwx_187, alw_187, bco_187, alm_187, abt_187) hr (by unfold mOb; rw [if_neg (by omega), if_neg (by omega), if_neg (by omega), if_neg (by omega), if_neg (by omega), if_neg (by omega), if_neg (by omega)]; exact ⟨rfl, hp_187⟩) rfl dX6_doOrder_190
    by_cases k_42_120 : (olt k) = 120
    · refine xr_tabIn (tgt := 186) E dX6_doOrder_42 ⟨by omega, by omega⟩ 18 (by omega) (by omega) rfl (by decide) ?_
      refine xr_aload_n E hl 3 rfl dX6_doOrder_186 rfl ?_
      refine xk_i (W2 := fun uu => (W_Mdo y hMo a_now a_asd a_pst a_mrf a_txt a_olt a_ofr a_nbs a_best a_wys a_rwx a_shx a_bef uu.1 msts mbyt olt ofr nbs mord uu.2.1 uu.2.2.1 uu.2.2.2.1 uu.2.2.2.2.1 uu.2.2.2.2.2.1 uu.2.2.2.2.2.2.1 uu.2.2.2.2.2.2.2 mlt beg figm)) E hX [0, 1, 5, 6, 7] rfl (xv_V (As := []) E hX hl (c_X6_publishAll l D y z _ hMo a_now a_asd a_pst a_mrf a_txt a_olt a_ofr a_nbs a_best a_wys a_rwx a_shx a_bef now msts mbyt mord best wys rwx alw bco alm abt mlt beg figm H_M) ml_X6_118 im_X6_publishAll se_X6_publishAll in_X6 co_X6_publishAll 0 (by decide) ⟨rfl, rfl⟩ ⟨Nat.le_of_ble_eq_true rfl, Nat.le_of_ble_eq_true rfl⟩ [0, 1, 5, 6, 7] rfl rfl 0 rfl rfl rfl rfl rfl (Nat.le_of_ble_eq_true rfl) dX6_doOrder_187 ⟨Nat.le_refl _, Nat.le_refl _⟩) [0, 1, 7, 8, 9, 2, 3, 4] 5 (fun _ => rfl) (fun _ => rfl) (by decide) (by decide) (fun r_187 uu H locs hw hX => ?_)
      obtain ⟨now_187, best_187, wys_187, rwx_187, alw_187, bco_187, alm_187, abt_187⟩ := uu
      have hX : XW D A s.heap (W_Mdo y hMo a_now a_asd a_pst a_mrf a_txt a_olt a_ofr a_nbs a_best a_wys a_rwx a_shx a_bef now_187 msts mbyt olt ofr nbs mord best_187 wys_187 rwx_187 alw_187 bco_187 alm_187 abt_187 mlt beg figm) H locs := hX
      try dsimp only at hw
      obtain ⟨rfl, hp_187⟩ := hw
      exact xr_iret E hX hQ (now_187, best_187, wys_187, rwx_187, alw_187, bco_187, alm_187, abt_187) hr (by unfold mOb; rw [if_neg (by omega), if_neg (by omega), if_neg (by omega), if_neg (by omega), if_neg (by omega), if_neg (by omega), if_neg (by omega)]; exact ⟨rfl, hp_187⟩) rfl dX6_doOrder_190
    by_cases k_42_121 : (olt k) = 121
    · refine xr_tabIn (tgt := 186) E dX6_doOrder_42 ⟨by omega, by omega⟩ 19 (by omega) (by omega) rfl (by decide) ?_
      refine xr_aload_n E hl 3 rfl dX6_doOrder_186 rfl ?_
      refine xk_i (W2 := fun uu => (W_Mdo y hMo a_now a_asd a_pst a_mrf a_txt a_olt a_ofr a_nbs a_best a_wys a_rwx a_shx a_bef uu.1 msts mbyt olt ofr nbs mord uu.2.1 uu.2.2.1 uu.2.2.2.1 uu.2.2.2.2.1 uu.2.2.2.2.2.1 uu.2.2.2.2.2.2.1 uu.2.2.2.2.2.2.2 mlt beg figm)) E hX [0, 1, 5, 6, 7] rfl (xv_V (As := []) E hX hl (c_X6_publishAll l D y z _ hMo a_now a_asd a_pst a_mrf a_txt a_olt a_ofr a_nbs a_best a_wys a_rwx a_shx a_bef now msts mbyt mord best wys rwx alw bco alm abt mlt beg figm H_M) ml_X6_118 im_X6_publishAll se_X6_publishAll in_X6 co_X6_publishAll 0 (by decide) ⟨rfl, rfl⟩ ⟨Nat.le_of_ble_eq_true rfl, Nat.le_of_ble_eq_true rfl⟩ [0, 1, 5, 6, 7] rfl rfl 0 rfl rfl rfl rfl rfl (Nat.le_of_ble_eq_true rfl) dX6_doOrder_187 ⟨Nat.le_refl _, Nat.le_refl _⟩) [0, 1, 7, 8, 9, 2, 3, 4] 5 (fun _ => rfl) (fun _ => rfl) (by decide) (by decide) (fun r_187 uu H locs hw hX => ?_)
      obtain ⟨now_187, best_187, wys_187, rwx_187, alw_187, bco_187, alm_187, abt_187⟩ := uu
      have hX : XW D A s.heap (W_Mdo y hMo a_now a_asd a_pst a_mrf a_txt a_olt a_ofr a_nbs a_best a_wys a_rwx a_shx a_bef now_187 msts mbyt olt ofr nbs mord best_187 wys_187 rwx_187 alw_187 bco_187 alm_187 abt_187 mlt beg figm) H locs := hX
      try dsimp only at hw
      obtain ⟨rfl, hp_187⟩ := hw
      exact xr_iret E hX hQ (now_187, best_187, wys_187, rwx_187, alw_187, bco_187, alm_187, abt_187) hr (by unfold mOb; rw [if_neg (by omega), if_neg (by omega), if_neg (by omega), if_neg (by omega), if_neg (by omega), if_neg (by omega), if_neg (by omega)]; exact ⟨rfl, hp_187⟩) rfl dX6_doOrder_190
    by_cases k_42_122 : (olt k) = 122
    · refine xr_tabIn (tgt := 160) E dX6_doOrder_42 ⟨by omega, by omega⟩ 20 (by omega) (by omega) rfl (by decide) ?_
      have hcc : c = 122 := by omega
      have hv := ha (by rw [hcc]; decide)
      have hw := hb (by rw [hcc]; decide)
      refine xr_aload_n E hl 3 rfl dX6_doOrder_160 rfl ?_
      refine xr_iload_n E hl 1 rfl dX6_doOrder_161 rfl ?_
      refine xr_iload E hl 0 rfl dX6_doOrder_162 ?_
      refine xk_i (W2 := fun uu => (W_Mdo y hMo a_now a_asd a_pst a_mrf a_txt a_olt a_ofr a_nbs a_best a_wys a_rwx a_shx a_bef uu msts mbyt olt ofr nbs mord best wys rwx alw bco alm abt mlt beg figm)) E hX [0, 1] rfl (xv_V (As := [.int (iI (nbs (ofr k))), .int (iI 0)]) E hX hl (c_X6_putFrozen l D y z _ hMo a_now a_asd a_pst a_mrf a_txt a_olt a_ofr a_nbs a_best a_wys a_rwx a_shx a_bef now msts mbyt mord alw bco alm abt mlt beg figm (nbs (ofr k)) 0 ⟨by omega, by omega⟩ ⟨by omega, by omega⟩ H_M) ml_X6_109 im_X6_putFrozen se_X6_putFrozen in_X6 co_X6_putFrozen 2 (by decide) ⟨rfl, rfl⟩ ⟨Nat.le_of_ble_eq_true rfl, Nat.le_of_ble_eq_true rfl⟩ [0, 1] rfl rfl 0 rfl rfl rfl rfl rfl (Nat.le_of_ble_eq_true rfl) dX6_doOrder_164 ⟨Nat.le_refl _, Nat.le_refl _⟩) [0, 1, 4, 5, 6, 7, 8, 9] 2 (fun _ => rfl) (fun _ => rfl) (by decide) (by decide) (fun r_164 uu H locs hw hX => ?_)
      obtain ⟨rfl, rfl⟩ := hw
      have hX : XW D A s.heap (W_Mdo y hMo a_now a_asd a_pst a_mrf a_txt a_olt a_ofr a_nbs a_best a_wys a_rwx a_shx a_bef (mIc (nbs (ofr k)) 0 now) msts mbyt olt ofr nbs mord best wys rwx alw bco alm abt mlt beg figm) H locs := hX
      exact xr_iret E hX hQ (mIc (nbs (ofr k)) 0 now, best, wys, rwx, alw, bco, alm, abt) hr (by first | (exfalso; omega) | (unfold mOb; rw [if_neg (by omega), if_neg (by omega), if_neg (by omega), if_pos (by omega), hv, hw.1]; exact ⟨rfl, rfl⟩)) rfl dX6_doOrder_167
    refine xr_tabOut (tgt := 186) E dX6_doOrder_42 ⟨by omega, by omega⟩ (by omega) (by decide) ?_
    refine xr_aload_n E hl 3 rfl dX6_doOrder_186 rfl ?_
    refine xk_i (W2 := fun uu => (W_Mdo y hMo a_now a_asd a_pst a_mrf a_txt a_olt a_ofr a_nbs a_best a_wys a_rwx a_shx a_bef uu.1 msts mbyt olt ofr nbs mord uu.2.1 uu.2.2.1 uu.2.2.2.1 uu.2.2.2.2.1 uu.2.2.2.2.2.1 uu.2.2.2.2.2.2.1 uu.2.2.2.2.2.2.2 mlt beg figm)) E hX [0, 1, 5, 6, 7] rfl (xv_V (As := []) E hX hl (c_X6_publishAll l D y z _ hMo a_now a_asd a_pst a_mrf a_txt a_olt a_ofr a_nbs a_best a_wys a_rwx a_shx a_bef now msts mbyt mord best wys rwx alw bco alm abt mlt beg figm H_M) ml_X6_118 im_X6_publishAll se_X6_publishAll in_X6 co_X6_publishAll 0 (by decide) ⟨rfl, rfl⟩ ⟨Nat.le_of_ble_eq_true rfl, Nat.le_of_ble_eq_true rfl⟩ [0, 1, 5, 6, 7] rfl rfl 0 rfl rfl rfl rfl rfl (Nat.le_of_ble_eq_true rfl) dX6_doOrder_187 ⟨Nat.le_refl _, Nat.le_refl _⟩) [0, 1, 7, 8, 9, 2, 3, 4] 5 (fun _ => rfl) (fun _ => rfl) (by decide) (by decide) (fun r_187 uu H locs hw hX => ?_)
    obtain ⟨now_187, best_187, wys_187, rwx_187, alw_187, bco_187, alm_187, abt_187⟩ := uu
    have hX : XW D A s.heap (W_Mdo y hMo a_now a_asd a_pst a_mrf a_txt a_olt a_ofr a_nbs a_best a_wys a_rwx a_shx a_bef now_187 msts mbyt olt ofr nbs mord best_187 wys_187 rwx_187 alw_187 bco_187 alm_187 abt_187 mlt beg figm) H locs := hX
    try dsimp only at hw
    obtain ⟨rfl, hp_187⟩ := hw
    exact xr_iret E hX hQ (now_187, best_187, wys_187, rwx_187, alw_187, bco_187, alm_187, abt_187) hr (by unfold mOb; rw [if_neg (by omega), if_neg (by omega), if_neg (by omega), if_neg (by omega), if_neg (by omega), if_neg (by omega), if_neg (by omega)]; exact ⟨rfl, hp_187⟩) rfl dX6_doOrder_190
  · have c_19 := c_19
    refine xr_aload_n E hl 2 rfl dX6_doOrder_22 rfl ?_
    refine xr_get E hX 0 rfl rfl ly_X6 9 (by decide) fl_X6_31 rfl dX6_doOrder_23 ?_
    refine xr_iload_n E hl 1 rfl dX6_doOrder_26 rfl ?_
    refine xr_iconst E dX6_doOrder_27 ?_
    refine xr_iadd E dX6_doOrder_28 ?_
    refine xr_iald E hX 4 rfl (by omega) (by omega) (by decide) dX6_doOrder_29 ?_
    refine xr_goto (tgt := 34) E dX6_doOrder_30 (by decide) ?_
    refine xr_istore (lv' := [(4, .int (iI (nbs ((ofr k) + 1)))), (3, .int (iI (nbs (ofr k)))), (2, .int (iI (ofr k))), (0, .ref hMo), (1, .int (iI k))]) E hl dX6_doOrder_34 (by decide) rfl (fun ls hl => ?_)
    refine xr_aload_n E hl 3 rfl dX6_doOrder_36 rfl ?_
    refine xr_get E hX 0 rfl rfl ly_X6 7 (by decide) fl_X6_25 rfl dX6_doOrder_37 ?_
    refine xr_iload_n E hl 4 rfl dX6_doOrder_40 rfl ?_
    refine xr_iald E hX 2 rfl (by omega) (by omega) (by decide) dX6_doOrder_41 ?_
    by_cases k_42_102 : (olt k) = 102
    · refine xr_tabIn (tgt := 180) E dX6_doOrder_42 ⟨by omega, by omega⟩ 0 (by omega) (by omega) rfl (by decide) ?_
      have hcc : c = 102 := by omega
      have hv := ha (by rw [hcc]; decide)
      refine xr_aload_n E hl 3 rfl dX6_doOrder_180 rfl ?_
      refine xr_iload_n E hl 1 rfl dX6_doOrder_181 rfl ?_
      refine xk_i (W2 := fun uu => (W_Mdo y hMo a_now a_asd a_pst a_mrf a_txt a_olt a_ofr a_nbs a_best a_wys a_rwx a_shx a_bef uu msts mbyt olt ofr nbs mord best wys rwx alw bco alm abt mlt beg figm)) E hX [0, 1] rfl (xv_V (As := [.int (iI (nbs (ofr k)))]) E hX hl (c_X6_putForm l D y z _ hMo a_now a_asd a_pst a_mrf a_txt a_olt a_ofr a_nbs a_best a_wys a_rwx a_shx a_bef now msts mbyt mord alw bco alm abt mlt beg figm (nbs (ofr k)) ⟨by omega, by omega⟩ H_M) ml_X6_115 im_X6_putForm se_X6_putForm in_X6 co_X6_putForm 1 (by decide) ⟨rfl, rfl⟩ ⟨Nat.le_of_ble_eq_true rfl, Nat.le_of_ble_eq_true rfl⟩ [0, 1] rfl rfl 0 rfl rfl rfl rfl rfl (Nat.le_of_ble_eq_true rfl) dX6_doOrder_182 ⟨Nat.le_refl _, Nat.le_refl _⟩) [0, 1, 4, 5, 6, 7, 8, 9] 2 (fun _ => rfl) (fun _ => rfl) (by decide) (by decide) (fun r_182 uu H locs hw hX => ?_)
      obtain ⟨rfl, rfl⟩ := hw
      have hX : XW D A s.heap (W_Mdo y hMo a_now a_asd a_pst a_mrf a_txt a_olt a_ofr a_nbs a_best a_wys a_rwx a_shx a_bef (mSh (nbs (ofr k)) now) msts mbyt olt ofr nbs mord best wys rwx alw bco alm abt mlt beg figm) H locs := hX
      exact xr_iret E hX hQ (mSh (nbs (ofr k)) now, best, wys, rwx, alw, bco, alm, abt) hr (by first | (exfalso; omega) | (unfold mOb; rw [if_neg (by omega), if_neg (by omega), if_neg (by omega), if_neg (by omega), if_neg (by omega), if_neg (by omega), if_pos (by omega), hv]; exact ⟨rfl, rfl⟩)) rfl dX6_doOrder_185
    by_cases k_42_103 : (olt k) = 103
    · refine xr_tabIn (tgt := 186) E dX6_doOrder_42 ⟨by omega, by omega⟩ 1 (by omega) (by omega) rfl (by decide) ?_
      refine xr_aload_n E hl 3 rfl dX6_doOrder_186 rfl ?_
      refine xk_i (W2 := fun uu => (W_Mdo y hMo a_now a_asd a_pst a_mrf a_txt a_olt a_ofr a_nbs a_best a_wys a_rwx a_shx a_bef uu.1 msts mbyt olt ofr nbs mord uu.2.1 uu.2.2.1 uu.2.2.2.1 uu.2.2.2.2.1 uu.2.2.2.2.2.1 uu.2.2.2.2.2.2.1 uu.2.2.2.2.2.2.2 mlt beg figm)) E hX [0, 1, 5, 6, 7] rfl (xv_V (As := []) E hX hl (c_X6_publishAll l D y z _ hMo a_now a_asd a_pst a_mrf a_txt a_olt a_ofr a_nbs a_best a_wys a_rwx a_shx a_bef now msts mbyt mord best wys rwx alw bco alm abt mlt beg figm H_M) ml_X6_118 im_X6_publishAll se_X6_publishAll in_X6 co_X6_publishAll 0 (by decide) ⟨rfl, rfl⟩ ⟨Nat.le_of_ble_eq_true rfl, Nat.le_of_ble_eq_true rfl⟩ [0, 1, 5, 6, 7] rfl rfl 0 rfl rfl rfl rfl rfl (Nat.le_of_ble_eq_true rfl) dX6_doOrder_187 ⟨Nat.le_refl _, Nat.le_refl _⟩) [0, 1, 7, 8, 9, 2, 3, 4] 5 (fun _ => rfl) (fun _ => rfl) (by decide) (by decide) (fun r_187 uu H locs hw hX => ?_)
      obtain ⟨now_187, best_187, wys_187, rwx_187, alw_187, bco_187, alm_187, abt_187⟩ := uu
      have hX : XW D A s.heap (W_Mdo y hMo a_now a_asd a_pst a_mrf a_txt a_olt a_ofr a_nbs a_best a_wys a_rwx a_shx a_bef now_187 msts mbyt olt ofr nbs mord best_187 wys_187 rwx_187 alw_187 bco_187 alm_187 abt_187 mlt beg figm) H locs := hX
      try dsimp only at hw
      obtain ⟨rfl, hp_187⟩ := hw
      exact xr_iret E hX hQ (now_187, best_187, wys_187, rwx_187, alw_187, bco_187, alm_187, abt_187) hr (by unfold mOb; rw [if_neg (by omega), if_neg (by omega), if_neg (by omega), if_neg (by omega), if_neg (by omega), if_neg (by omega), if_neg (by omega)]; exact ⟨rfl, hp_187⟩) rfl dX6_doOrder_190
    by_cases k_42_104 : (olt k) = 104
    · refine xr_tabIn (tgt := 186) E dX6_doOrder_42 ⟨by omega, by omega⟩ 2 (by omega) (by omega) rfl (by decide) ?_
      refine xr_aload_n E hl 3 rfl dX6_doOrder_186 rfl ?_
      refine xk_i (W2 := fun uu => (W_Mdo y hMo a_now a_asd a_pst a_mrf a_txt a_olt a_ofr a_nbs a_best a_wys a_rwx a_shx a_bef uu.1 msts mbyt olt ofr nbs mord uu.2.1 uu.2.2.1 uu.2.2.2.1 uu.2.2.2.2.1 uu.2.2.2.2.2.1 uu.2.2.2.2.2.2.1 uu.2.2.2.2.2.2.2 mlt beg figm)) E hX [0, 1, 5, 6, 7] rfl (xv_V (As := []) E hX hl (c_X6_publishAll l D y z _ hMo a_now a_asd a_pst a_mrf a_txt a_olt a_ofr a_nbs a_best a_wys a_rwx a_shx a_bef now msts mbyt mord best wys rwx alw bco alm abt mlt beg figm H_M) ml_X6_118 im_X6_publishAll se_X6_publishAll in_X6 co_X6_publishAll 0 (by decide) ⟨rfl, rfl⟩ ⟨Nat.le_of_ble_eq_true rfl, Nat.le_of_ble_eq_true rfl⟩ [0, 1, 5, 6, 7] rfl rfl 0 rfl rfl rfl rfl rfl (Nat.le_of_ble_eq_true rfl) dX6_doOrder_187 ⟨Nat.le_refl _, Nat.le_refl _⟩) [0, 1, 7, 8, 9, 2, 3, 4] 5 (fun _ => rfl) (fun _ => rfl) (by decide) (by decide) (fun r_187 uu H locs hw hX => ?_)
      obtain ⟨now_187, best_187, wys_187, rwx_187, alw_187, bco_187, alm_187, abt_187⟩ := uu
      have hX : XW D A s.heap (W_Mdo y hMo a_now a_asd a_pst a_mrf a_txt a_olt a_ofr a_nbs a_best a_wys a_rwx a_shx a_bef now_187 msts mbyt olt ofr nbs mord best_187 wys_187 rwx_187 alw_187 bco_187 alm_187 abt_187 mlt beg figm) H locs := hX
      try dsimp only at hw
      obtain ⟨rfl, hp_187⟩ := hw
      exact xr_iret E hX hQ (now_187, best_187, wys_187, rwx_187, alw_187, bco_187, alm_187, abt_187) hr (by unfold mOb; rw [if_neg (by omega), if_neg (by omega), if_neg (by omega), if_neg (by omega), if_neg (by omega), if_neg (by omega), if_neg (by omega)]; exact ⟨rfl, hp_187⟩) rfl dX6_doOrder_190
    by_cases k_42_105 : (olt k) = 105
    · refine xr_tabIn (tgt := 186) E dX6_doOrder_42 ⟨by omega, by omega⟩ 3 (by omega) (by omega) rfl (by decide) ?_
      refine xr_aload_n E hl 3 rfl dX6_doOrder_186 rfl ?_
      refine xk_i (W2 := fun uu => (W_Mdo y hMo a_now a_asd a_pst a_mrf a_txt a_olt a_ofr a_nbs a_best a_wys a_rwx a_shx a_bef uu.1 msts mbyt olt ofr nbs mord uu.2.1 uu.2.2.1 uu.2.2.2.1 uu.2.2.2.2.1 uu.2.2.2.2.2.1 uu.2.2.2.2.2.2.1 uu.2.2.2.2.2.2.2 mlt beg figm)) E hX [0, 1, 5, 6, 7] rfl (xv_V (As := []) E hX hl (c_X6_publishAll l D y z _ hMo a_now a_asd a_pst a_mrf a_txt a_olt a_ofr a_nbs a_best a_wys a_rwx a_shx a_bef now msts mbyt mord best wys rwx alw bco alm abt mlt beg figm H_M) ml_X6_118 im_X6_publishAll se_X6_publishAll in_X6 co_X6_publishAll 0 (by decide) ⟨rfl, rfl⟩ ⟨Nat.le_of_ble_eq_true rfl, Nat.le_of_ble_eq_true rfl⟩ [0, 1, 5, 6, 7] rfl rfl 0 rfl rfl rfl rfl rfl (Nat.le_of_ble_eq_true rfl) dX6_doOrder_187 ⟨Nat.le_refl _, Nat.le_refl _⟩) [0, 1, 7, 8, 9, 2, 3, 4] 5 (fun _ => rfl) (fun _ => rfl) (by decide) (by decide) (fun r_187 uu H locs hw hX => ?_)
      obtain ⟨now_187, best_187, wys_187, rwx_187, alw_187, bco_187, alm_187, abt_187⟩ := uu
      have hX : XW D A s.heap (W_Mdo y hMo a_now a_asd a_pst a_mrf a_txt a_olt a_ofr a_nbs a_best a_wys a_rwx a_shx a_bef now_187 msts mbyt olt ofr nbs mord best_187 wys_187 rwx_187 alw_187 bco_187 alm_187 abt_187 mlt beg figm) H locs := hX
      try dsimp only at hw
      obtain ⟨rfl, hp_187⟩ := hw
      exact xr_iret E hX hQ (now_187, best_187, wys_187, rwx_187, alw_187, bco_187, alm_187, abt_187) hr (by unfold mOb; rw [if_neg (by omega), if_neg (by omega), if_neg (by omega), if_neg (by omega), if_neg (by omega), if_neg (by omega), if_neg (by omega)]; exact ⟨rfl, hp_187⟩) rfl dX6_doOrder_190
    by_cases k_42_106 : (olt k) = 106
    · refine xr_tabIn (tgt := 186) E dX6_doOrder_42 ⟨by omega, by omega⟩ 4 (by omega) (by omega) rfl (by decide) ?_
      refine xr_aload_n E hl 3 rfl dX6_doOrder_186 rfl ?_
      refine xk_i (W2 := fun uu => (W_Mdo y hMo a_now a_asd a_pst a_mrf a_txt a_olt a_ofr a_nbs a_best a_wys a_rwx a_shx a_bef uu.1 msts mbyt olt ofr nbs mord uu.2.1 uu.2.2.1 uu.2.2.2.1 uu.2.2.2.2.1 uu.2.2.2.2.2.1 uu.2.2.2.2.2.2.1 uu.2.2.2.2.2.2.2 mlt beg figm)) E hX [0, 1, 5, 6, 7] rfl (xv_V (As := []) E hX hl (c_X6_publishAll l D y z _ hMo a_now a_asd a_pst a_mrf a_txt a_olt a_ofr a_nbs a_best a_wys a_rwx a_shx a_bef now msts mbyt mord best wys rwx alw bco alm abt mlt beg figm H_M) ml_X6_118 im_X6_publishAll se_X6_publishAll in_X6 co_X6_publishAll 0 (by decide) ⟨rfl, rfl⟩ ⟨Nat.le_of_ble_eq_true rfl, Nat.le_of_ble_eq_true rfl⟩ [0, 1, 5, 6, 7] rfl rfl 0 rfl rfl rfl rfl rfl (Nat.le_of_ble_eq_true rfl) dX6_doOrder_187 ⟨Nat.le_refl _, Nat.le_refl _⟩) [0, 1, 7, 8, 9, 2, 3, 4] 5 (fun _ => rfl) (fun _ => rfl) (by decide) (by decide) (fun r_187 uu H locs hw hX => ?_)
      obtain ⟨now_187, best_187, wys_187, rwx_187, alw_187, bco_187, alm_187, abt_187⟩ := uu
      have hX : XW D A s.heap (W_Mdo y hMo a_now a_asd a_pst a_mrf a_txt a_olt a_ofr a_nbs a_best a_wys a_rwx a_shx a_bef now_187 msts mbyt olt ofr nbs mord best_187 wys_187 rwx_187 alw_187 bco_187 alm_187 abt_187 mlt beg figm) H locs := hX
      try dsimp only at hw
      obtain ⟨rfl, hp_187⟩ := hw
      exact xr_iret E hX hQ (now_187, best_187, wys_187, rwx_187, alw_187, bco_187, alm_187, abt_187) hr (by unfold mOb; rw [if_neg (by omega), if_neg (by omega), if_neg (by omega), if_neg (by omega), if_neg (by omega), if_neg (by omega), if_neg (by omega)]; exact ⟨rfl, hp_187⟩) rfl dX6_doOrder_190
    by_cases k_42_107 : (olt k) = 107
    · refine xr_tabIn (tgt := 186) E dX6_doOrder_42 ⟨by omega, by omega⟩ 5 (by omega) (by omega) rfl (by decide) ?_
      refine xr_aload_n E hl 3 rfl dX6_doOrder_186 rfl ?_
      refine xk_i (W2 := fun uu => (W_Mdo y hMo a_now a_asd a_pst a_mrf a_txt a_olt a_ofr a_nbs a_best a_wys a_rwx a_shx a_bef uu.1 msts mbyt olt ofr nbs mord uu.2.1 uu.2.2.1 uu.2.2.2.1 uu.2.2.2.2.1 uu.2.2.2.2.2.1 uu.2.2.2.2.2.2.1 uu.2.2.2.2.2.2.2 mlt beg figm)) E hX [0, 1, 5, 6, 7] rfl (xv_V (As := []) E hX hl (c_X6_publishAll l D y z _ hMo a_now a_asd a_pst a_mrf a_txt a_olt a_ofr a_nbs a_best a_wys a_rwx a_shx a_bef now msts mbyt mord best wys rwx alw bco alm abt mlt beg figm H_M) ml_X6_118 im_X6_publishAll se_X6_publishAll in_X6 co_X6_publishAll 0 (by decide) ⟨rfl, rfl⟩ ⟨Nat.le_of_ble_eq_true rfl, Nat.le_of_ble_eq_true rfl⟩ [0, 1, 5, 6, 7] rfl rfl 0 rfl rfl rfl rfl rfl (Nat.le_of_ble_eq_true rfl) dX6_doOrder_187 ⟨Nat.le_refl _, Nat.le_refl _⟩) [0, 1, 7, 8, 9, 2, 3, 4] 5 (fun _ => rfl) (fun _ => rfl) (by decide) (by decide) (fun r_187 uu H locs hw hX => ?_)
      obtain ⟨now_187, best_187, wys_187, rwx_187, alw_187, bco_187, alm_187, abt_187⟩ := uu
      have hX : XW D A s.heap (W_Mdo y hMo a_now a_asd a_pst a_mrf a_txt a_olt a_ofr a_nbs a_best a_wys a_rwx a_shx a_bef now_187 msts mbyt olt ofr nbs mord best_187 wys_187 rwx_187 alw_187 bco_187 alm_187 abt_187 mlt beg figm) H locs := hX
      try dsimp only at hw
      obtain ⟨rfl, hp_187⟩ := hw
      exact xr_iret E hX hQ (now_187, best_187, wys_187, rwx_187, alw_187, bco_187, alm_187, abt_187) hr (by unfold mOb; rw [if_neg (by omega), if_neg (by omega), if_neg (by omega), if_neg (by omega), if_neg (by omega), if_neg (by omega), if_neg (by omega)]; exact ⟨rfl, hp_187⟩) rfl dX6_doOrder_190
    by_cases k_42_108 : (olt k) = 108
    · refine xr_tabIn (tgt := 168) E dX6_doOrder_42 ⟨by omega, by omega⟩ 6 (by omega) (by omega) rfl (by decide) ?_
      have hcc : c = 108 := by omega
      have hv := ha (by rw [hcc]; decide)
      refine xr_aload_n E hl 3 rfl dX6_doOrder_168 rfl ?_
      refine xr_iload_n E hl 1 rfl dX6_doOrder_169 rfl ?_
      refine xk_i (W2 := fun uu => (W_Mdo y hMo a_now a_asd a_pst a_mrf a_txt a_olt a_ofr a_nbs a_best a_wys a_rwx a_shx a_bef uu msts mbyt olt ofr nbs mord best wys rwx alw bco alm abt mlt beg figm)) E hX [0, 1] rfl (xv_V (As := [.int (iI (nbs (ofr k)))]) E hX hl (c_X6_putLimit l D y z _ hMo a_now a_asd a_pst a_mrf a_txt a_olt a_ofr a_nbs a_best a_wys a_rwx a_shx a_bef now msts mbyt mord alw bco alm abt mlt beg figm (nbs (ofr k)) ⟨by omega, by omega⟩ H_M) ml_X6_112 im_X6_putLimit se_X6_putLimit in_X6 co_X6_putLimit 1 (by decide) ⟨rfl, rfl⟩ ⟨Nat.le_of_ble_eq_true rfl, Nat.le_of_ble_eq_true rfl⟩ [0, 1] rfl rfl 0 rfl rfl rfl rfl rfl (Nat.le_of_ble_eq_true rfl) dX6_doOrder_170 ⟨Nat.le_refl _, Nat.le_refl _⟩) [0, 1, 4, 5, 6, 7, 8, 9] 2 (fun _ => rfl) (fun _ => rfl) (by decide) (by decide) (fun r_170 uu H locs hw hX => ?_)
      obtain ⟨rfl, rfl⟩ := hw
      have hX : XW D A s.heap (W_Mdo y hMo a_now a_asd a_pst a_mrf a_txt a_olt a_ofr a_nbs a_best a_wys a_rwx a_shx a_bef (mBo (nbs (ofr k)) now) msts mbyt olt ofr nbs mord best wys rwx alw bco alm abt mlt beg figm) H locs := hX
      exact xr_iret E hX hQ (mBo (nbs (ofr k)) now, best, wys, rwx, alw, bco, alm, abt) hr (by first | (exfalso; omega) | (unfold mOb; rw [if_neg (by omega), if_neg (by omega), if_neg (by omega), if_neg (by omega), if_pos (by omega), hv]; exact ⟨rfl, rfl⟩)) rfl dX6_doOrder_173
    by_cases k_42_109 : (olt k) = 109
    · refine xr_tabIn (tgt := 186) E dX6_doOrder_42 ⟨by omega, by omega⟩ 7 (by omega) (by omega) rfl (by decide) ?_
      refine xr_aload_n E hl 3 rfl dX6_doOrder_186 rfl ?_
      refine xk_i (W2 := fun uu => (W_Mdo y hMo a_now a_asd a_pst a_mrf a_txt a_olt a_ofr a_nbs a_best a_wys a_rwx a_shx a_bef uu.1 msts mbyt olt ofr nbs mord uu.2.1 uu.2.2.1 uu.2.2.2.1 uu.2.2.2.2.1 uu.2.2.2.2.2.1 uu.2.2.2.2.2.2.1 uu.2.2.2.2.2.2.2 mlt beg figm)) E hX [0, 1, 5, 6, 7] rfl (xv_V (As := []) E hX hl (c_X6_publishAll l D y z _ hMo a_now a_asd a_pst a_mrf a_txt a_olt a_ofr a_nbs a_best a_wys a_rwx a_shx a_bef now msts mbyt mord best wys rwx alw bco alm abt mlt beg figm H_M) ml_X6_118 im_X6_publishAll se_X6_publishAll in_X6 co_X6_publishAll 0 (by decide) ⟨rfl, rfl⟩ ⟨Nat.le_of_ble_eq_true rfl, Nat.le_of_ble_eq_true rfl⟩ [0, 1, 5, 6, 7] rfl rfl 0 rfl rfl rfl rfl rfl (Nat.le_of_ble_eq_true rfl) dX6_doOrder_187 ⟨Nat.le_refl _, Nat.le_refl _⟩) [0, 1, 7, 8, 9, 2, 3, 4] 5 (fun _ => rfl) (fun _ => rfl) (by decide) (by decide) (fun r_187 uu H locs hw hX => ?_)
      obtain ⟨now_187, best_187, wys_187, rwx_187, alw_187, bco_187, alm_187, abt_187⟩ := uu
      have hX : XW D A s.heap (W_Mdo y hMo a_now a_asd a_pst a_mrf a_txt a_olt a_ofr a_nbs a_best a_wys a_rwx a_shx a_bef now_187 msts mbyt olt ofr nbs mord best_187 wys_187 rwx_187 alw_187 bco_187 alm_187 abt_187 mlt beg figm) H locs := hX
      try dsimp only at hw
      obtain ⟨rfl, hp_187⟩ := hw
      exact xr_iret E hX hQ (now_187, best_187, wys_187, rwx_187, alw_187, bco_187, alm_187, abt_187) hr (by unfold mOb; rw [if_neg (by omega), if_neg (by omega), if_neg (by omega), if_neg (by omega), if_neg (by omega), if_neg (by omega), if_neg (by omega)]; exact ⟨rfl, hp_187⟩) rfl dX6_doOrder_190
    by_cases k_42_110 : (olt k) = 110
    · refine xr_tabIn (tgt := 154) E dX6_doOrder_42 ⟨by omega, by omega⟩ 8 (by omega) (by omega) rfl (by decide) ?_
      have hcc : c = 110 := by omega
      have hv := ha (by rw [hcc]; decide)
      refine xr_aload_n E hl 3 rfl dX6_doOrder_154 rfl ?_
      refine xr_iload_n E hl 1 rfl dX6_doOrder_155 rfl ?_
      refine xk_i (W2 := fun uu => (W_Mdo y hMo a_now a_asd a_pst a_mrf a_txt a_olt a_ofr a_nbs a_best a_wys a_rwx a_shx a_bef uu msts mbyt olt ofr nbs mord best wys rwx alw bco alm abt mlt beg figm)) E hX [0, 1] rfl (xv_V (As := [.int (iI (nbs (ofr k)))]) E hX hl (c_X6_dropTotal l D y z _ hMo a_now a_asd a_pst a_mrf a_txt a_olt a_ofr a_nbs a_best a_wys a_rwx a_shx a_bef now msts mbyt mord alw bco alm abt mlt beg figm (nbs (ofr k)) ⟨by omega, by omega⟩ H_M) ml_X6_106 im_X6_dropTotal se_X6_dropTotal in_X6 co_X6_dropTotal 1 (by decide) ⟨rfl, rfl⟩ ⟨Nat.le_of_ble_eq_true rfl, Nat.le_of_ble_eq_true rfl⟩ [0, 1] rfl rfl 0 rfl rfl rfl rfl rfl (Nat.le_of_ble_eq_true rfl) dX6_doOrder_156 ⟨Nat.le_refl _, Nat.le_refl _⟩) [0, 1, 4, 5, 6, 7, 8, 9] 2 (fun _ => rfl) (fun _ => rfl) (by decide) (by decide) (fun r_156 uu H locs hw hX => ?_)
      obtain ⟨rfl, rfl⟩ := hw
      have hX : XW D A s.heap (W_Mdo y hMo a_now a_asd a_pst a_mrf a_txt a_olt a_ofr a_nbs a_best a_wys a_rwx a_shx a_bef (mUn (nbs (ofr k)) now) msts mbyt olt ofr nbs mord best wys rwx alw bco alm abt mlt beg figm) H locs := hX
      exact xr_iret E hX hQ (mUn (nbs (ofr k)) now, best, wys, rwx, alw, bco, alm, abt) hr (by first | (exfalso; omega) | (unfold mOb; rw [if_neg (by omega), if_neg (by omega), if_pos (by omega), hv]; exact ⟨rfl, rfl⟩)) rfl dX6_doOrder_159
    by_cases k_42_111 : (olt k) = 111
    · refine xr_tabIn (tgt := 174) E dX6_doOrder_42 ⟨by omega, by omega⟩ 9 (by omega) (by omega) rfl (by decide) ?_
      refine xr_aload_n E hl 3 rfl dX6_doOrder_174 rfl ?_
      refine xr_iconst E dX6_doOrder_175 ?_
      refine xk_i (W2 := fun uu => (W_Mdo y hMo a_now a_asd a_pst a_mrf a_txt a_olt a_ofr a_nbs a_best a_wys a_rwx a_shx a_bef uu msts mbyt olt ofr nbs mord best wys rwx alw bco alm abt mlt beg figm)) E hX [0, 1] rfl (xv_V (As := [.int (iI (-1))]) E hX hl (c_X6_putLimit l D y z _ hMo a_now a_asd a_pst a_mrf a_txt a_olt a_ofr a_nbs a_best a_wys a_rwx a_shx a_bef now msts mbyt mord alw bco alm abt mlt beg figm (-1) ⟨by omega, by omega⟩ H_M) ml_X6_112 im_X6_putLimit se_X6_putLimit in_X6 co_X6_putLimit 1 (by decide) ⟨rfl, rfl⟩ ⟨Nat.le_of_ble_eq_true rfl, Nat.le_of_ble_eq_true rfl⟩ [0, 1] rfl rfl 0 rfl rfl rfl rfl rfl (Nat.le_of_ble_eq_true rfl) dX6_doOrder_176 ⟨Nat.le_refl _, Nat.le_refl _⟩) [0, 1, 4, 5, 6, 7, 8, 9] 2 (fun _ => rfl) (fun _ => rfl) (by decide) (by decide) (fun r_176 uu H locs hw hX => ?_)
      obtain ⟨rfl, rfl⟩ := hw
      have hX : XW D A s.heap (W_Mdo y hMo a_now a_asd a_pst a_mrf a_txt a_olt a_ofr a_nbs a_best a_wys a_rwx a_shx a_bef (mBo (-1) now) msts mbyt olt ofr nbs mord best wys rwx alw bco alm abt mlt beg figm) H locs := hX
      exact xr_iret E hX hQ (mBo (-1) now, best, wys, rwx, alw, bco, alm, abt) hr (by first | (exfalso; omega) | (unfold mOb; rw [if_neg (by omega), if_neg (by omega), if_neg (by omega), if_neg (by omega), if_neg (by omega), if_pos (by omega)]; exact ⟨rfl, rfl⟩)) rfl dX6_doOrder_179
    by_cases k_42_112 : (olt k) = 112
    · refine xr_tabIn (tgt := 186) E dX6_doOrder_42 ⟨by omega, by omega⟩ 10 (by omega) (by omega) rfl (by decide) ?_
      refine xr_aload_n E hl 3 rfl dX6_doOrder_186 rfl ?_
      refine xk_i (W2 := fun uu => (W_Mdo y hMo a_now a_asd a_pst a_mrf a_txt a_olt a_ofr a_nbs a_best a_wys a_rwx a_shx a_bef uu.1 msts mbyt olt ofr nbs mord uu.2.1 uu.2.2.1 uu.2.2.2.1 uu.2.2.2.2.1 uu.2.2.2.2.2.1 uu.2.2.2.2.2.2.1 uu.2.2.2.2.2.2.2 mlt beg figm)) E hX [0, 1, 5, 6, 7] rfl (xv_V (As := []) E hX hl (c_X6_publishAll l D y z _ hMo a_now a_asd a_pst a_mrf a_txt a_olt a_ofr a_nbs a_best a_wys a_rwx a_shx a_bef now msts mbyt mord best wys rwx alw bco alm abt mlt beg figm H_M) ml_X6_118 im_X6_publishAll se_X6_publishAll in_X6 co_X6_publishAll 0 (by decide) ⟨rfl, rfl⟩ ⟨Nat.le_of_ble_eq_true rfl, Nat.le_of_ble_eq_true rfl⟩ [0, 1, 5, 6, 7] rfl rfl 0 rfl rfl rfl rfl rfl (Nat.le_of_ble_eq_true rfl) dX6_doOrder_187 ⟨Nat.le_refl _, Nat.le_refl _⟩) [0, 1, 7, 8, 9, 2, 3, 4] 5 (fun _ => rfl) (fun _ => rfl) (by decide) (by decide) (fun r_187 uu H locs hw hX => ?_)
      obtain ⟨now_187, best_187, wys_187, rwx_187, alw_187, bco_187, alm_187, abt_187⟩ := uu
      have hX : XW D A s.heap (W_Mdo y hMo a_now a_asd a_pst a_mrf a_txt a_olt a_ofr a_nbs a_best a_wys a_rwx a_shx a_bef now_187 msts mbyt olt ofr nbs mord best_187 wys_187 rwx_187 alw_187 bco_187 alm_187 abt_187 mlt beg figm) H locs := hX
      try dsimp only at hw
      obtain ⟨rfl, hp_187⟩ := hw
      exact xr_iret E hX hQ (now_187, best_187, wys_187, rwx_187, alw_187, bco_187, alm_187, abt_187) hr (by unfold mOb; rw [if_neg (by omega), if_neg (by omega), if_neg (by omega), if_neg (by omega), if_neg (by omega), if_neg (by omega), if_neg (by omega)]; exact ⟨rfl, hp_187⟩) rfl dX6_doOrder_190
    by_cases k_42_113 : (olt k) = 113
    · refine xr_tabIn (tgt := 140) E dX6_doOrder_42 ⟨by omega, by omega⟩ 11 (by omega) (by omega) rfl (by decide) ?_
      have hcc : c = 113 := by omega
      have hv := ha (by rw [hcc]; decide)
      refine xr_aload_n E hl 3 rfl dX6_doOrder_140 rfl ?_
      refine xr_iload_n E hl 1 rfl dX6_doOrder_141 rfl ?_
      refine xk_i (W2 := fun uu => (W_Mdo y hMo a_now a_asd a_pst a_mrf a_txt a_olt a_ofr a_nbs a_best a_wys a_rwx a_shx a_bef uu msts mbyt olt ofr nbs mord best wys rwx alw bco alm abt mlt beg figm)) E hX [0, 1] rfl (xv_V (As := [.int (iI (nbs (ofr k)))]) E hX hl (c_X6_putQuarter l D y z _ hMo a_now a_asd a_pst a_mrf a_txt a_olt a_ofr a_nbs a_best a_wys a_rwx a_shx a_bef now msts mbyt mord alw bco alm abt mlt beg figm (nbs (ofr k)) ⟨by omega, by omega⟩ H_M) ml_X6_93 im_X6_putQuarter se_X6_putQuarter in_X6 co_X6_putQuarter 1 (by decide) ⟨rfl, rfl⟩ ⟨Nat.le_of_ble_eq_true rfl, Nat.le_of_ble_eq_true rfl⟩ [0, 1] rfl rfl 0 rfl rfl rfl rfl rfl (Nat.le_of_ble_eq_true rfl) dX6_doOrder_142 ⟨Nat.le_refl _, Nat.le_refl _⟩) [0, 1, 4, 5, 6, 7, 8, 9] 2 (fun _ => rfl) (fun _ => rfl) (by decide) (by decide) (fun r_142 uu H locs hw hX => ?_)
      obtain ⟨rfl, rfl⟩ := hw
      have hX : XW D A s.heap (W_Mdo y hMo a_now a_asd a_pst a_mrf a_txt a_olt a_ofr a_nbs a_best a_wys a_rwx a_shx a_bef (mAdds (nbs (ofr k)) now) msts mbyt olt ofr nbs mord best wys rwx alw bco alm abt mlt beg figm) H locs := hX
      exact xr_iret E hX hQ (mAdds (nbs (ofr k)) now, best, wys, rwx, alw, bco, alm, abt) hr (by first | (exfalso; omega) | (unfold mOb; rw [if_pos (by omega), hv]; exact ⟨rfl, rfl⟩)) rfl dX6_doOrder_145
    by_cases k_42_114 : (olt k) = 114
    · refine xr_tabIn (tgt := 186) E dX6_doOrder_42 ⟨by omega, by omega⟩ 12 (by omega) (by omega) rfl (by decide) ?_
      refine xr_aload_n E hl 3 rfl dX6_doOrder_186 rfl ?_
      refine xk_i (W2 := fun uu => (W_Mdo y hMo a_now a_asd a_pst a_mrf a_txt a_olt a_ofr a_nbs a_best a_wys a_rwx a_shx a_bef uu.1 msts mbyt olt ofr nbs mord uu.2.1 uu.2.2.1 uu.2.2.2.1 uu.2.2.2.2.1 uu.2.2.2.2.2.1 uu.2.2.2.2.2.2.1 uu.2.2.2.2.2.2.2 mlt beg figm)) E hX [0, 1, 5, 6, 7] rfl (xv_V (As := []) E hX hl (c_X6_publishAll l D y z _ hMo a_now a_asd a_pst a_mrf a_txt a_olt a_ofr a_nbs a_best a_wys a_rwx a_shx a_bef now msts mbyt mord best wys rwx alw bco alm abt mlt beg figm H_M) ml_X6_118 im_X6_publishAll se_X6_publishAll in_X6 co_X6_publishAll 0 (by decide) ⟨rfl, rfl⟩ ⟨Nat.le_of_ble_eq_true rfl, Nat.le_of_ble_eq_true rfl⟩ [0, 1, 5, 6, 7] rfl rfl 0 rfl rfl rfl rfl rfl (Nat.le_of_ble_eq_true rfl) dX6_doOrder_187 ⟨Nat.le_refl _, Nat.le_refl _⟩) [0, 1, 7, 8, 9, 2, 3, 4] 5 (fun _ => rfl) (fun _ => rfl) (by decide) (by decide) (fun r_187 uu H locs hw hX => ?_)
      obtain ⟨now_187, best_187, wys_187, rwx_187, alw_187, bco_187, alm_187, abt_187⟩ := uu
      have hX : XW D A s.heap (W_Mdo y hMo a_now a_asd a_pst a_mrf a_txt a_olt a_ofr a_nbs a_best a_wys a_rwx a_shx a_bef now_187 msts mbyt olt ofr nbs mord best_187 wys_187 rwx_187 alw_187 bco_187 alm_187 abt_187 mlt beg figm) H locs := hX
      try dsimp only at hw
      obtain ⟨rfl, hp_187⟩ := hw
      exact xr_iret E hX hQ (now_187, best_187, wys_187, rwx_187, alw_187, bco_187, alm_187, abt_187) hr (by unfold mOb; rw [if_neg (by omega), if_neg (by omega), if_neg (by omega), if_neg (by omega), if_neg (by omega), if_neg (by omega), if_neg (by omega)]; exact ⟨rfl, hp_187⟩) rfl dX6_doOrder_190
    by_cases k_42_115 : (olt k) = 115
    · refine xr_tabIn (tgt := 186) E dX6_doOrder_42 ⟨by omega, by omega⟩ 13 (by omega) (by omega) rfl (by decide) ?_
      refine xr_aload_n E hl 3 rfl dX6_doOrder_186 rfl ?_
      refine xk_i (W2 := fun uu => (W_Mdo y hMo a_now a_asd a_pst a_mrf a_txt a_olt a_ofr a_nbs a_best a_wys a_rwx a_shx a_bef uu.1 msts mbyt olt ofr nbs mord uu.2.1 uu.2.2.1 uu.2.2.2.1 uu.2.2.2.2.1 uu.2.2.2.2.2.1 uu.2.2.2.2.2.2.1 uu.2.2.2.2.2.2.2 mlt beg figm)) E hX [0, 1, 5, 6, 7] rfl (xv_V (As := []) E hX hl (c_X6_publishAll l D y z _ hMo a_now a_asd a_pst a_mrf a_txt a_olt a_ofr a_nbs a_best a_wys a_rwx a_shx a_bef now msts mbyt mord best wys rwx alw bco alm abt mlt beg figm H_M) ml_X6_118 im_X6_publishAll se_X6_publishAll in_X6 co_X6_publishAll 0 (by decide) ⟨rfl, rfl⟩ ⟨Nat.le_of_ble_eq_true rfl, Nat.le_of_ble_eq_true rfl⟩ [0, 1, 5, 6, 7] rfl rfl 0 rfl rfl rfl rfl rfl (Nat.le_of_ble_eq_true rfl) dX6_doOrder_187 ⟨Nat.le_refl _, Nat.le_refl _⟩) [0, 1, 7, 8, 9, 2, 3, 4] 5 (fun _ => rfl) (fun _ => rfl) (by decide) (by decide) (fun r_187 uu H locs hw hX => ?_)
      obtain ⟨now_187, best_187, wys_187, rwx_187, alw_187, bco_187, alm_187, abt_187⟩ := uu
      have hX : XW D A s.heap (W_Mdo y hMo a_now a_asd a_pst a_mrf a_txt a_olt a_ofr a_nbs a_best a_wys a_rwx a_shx a_bef now_187 msts mbyt olt ofr nbs mord best_187 wys_187 rwx_187 alw_187 bco_187 alm_187 abt_187 mlt beg figm) H locs := hX
      try dsimp only at hw
      obtain ⟨rfl, hp_187⟩ := hw
      exact xr_iret E hX hQ (now_187, best_187, wys_187, rwx_187, alw_187, bco_187, alm_187, abt_187) hr (by unfold mOb; rw [if_neg (by omega), if_neg (by omega), if_neg (by omega), if_neg (by omega), if_neg (by omega), if_neg (by omega), if_neg (by omega)]; exact ⟨rfl, hp_187⟩) rfl dX6_doOrder_190
    by_cases k_42_116 : (olt k) = 116
    · refine xr_tabIn (tgt := 146) E dX6_doOrder_42 ⟨by omega, by omega⟩ 14 (by omega) (by omega) rfl (by decide) ?_
      have hcc : c = 116 := by omega
      have hv := ha (by rw [hcc]; decide)
      have hw := hb (by rw [hcc]; decide)
      refine xr_aload_n E hl 3 rfl dX6_doOrder_146 rfl ?_
      refine xr_iload_n E hl 1 rfl dX6_doOrder_147 rfl ?_
      refine xr_iload E hl 0 rfl dX6_doOrder_148 ?_
      refine xk_i (W2 := fun uu => (W_Mdo y hMo a_now a_asd a_pst a_mrf a_txt a_olt a_ofr a_nbs a_best a_wys a_rwx a_shx a_bef uu msts mbyt olt ofr nbs mord best wys rwx alw bco alm abt mlt beg figm)) E hX [0, 1] rfl (xv_V (As := [.int (iI (nbs (ofr k))), .int (iI (nbs ((ofr k) + 1)))]) E hX hl (c_X6_putTotal l D y z _ hMo a_now a_asd a_pst a_mrf a_txt a_olt a_ofr a_nbs a_best a_wys a_rwx a_shx a_bef now msts mbyt mord alw bco alm abt mlt beg figm (nbs (ofr k)) (nbs ((ofr k) + 1)) ⟨by omega, by omega⟩ ⟨by omega, by omega⟩ H_M) ml_X6_103 im_X6_putTotal se_X6_putTotal in_X6 co_X6_putTotal 2 (by decide) ⟨rfl, rfl⟩ ⟨Nat.le_of_ble_eq_true rfl, Nat.le_of_ble_eq_true rfl⟩ [0, 1] rfl rfl 0 rfl rfl rfl rfl rfl (Nat.le_of_ble_eq_true rfl) dX6_doOrder_150 ⟨Nat.le_refl _, Nat.le_refl _⟩) [0, 1, 4, 5, 6, 7, 8, 9] 2 (fun _ => rfl) (fun _ => rfl) (by decide) (by decide) (fun r_150 uu H locs hw hX => ?_)
      obtain ⟨rfl, rfl⟩ := hw
      have hX : XW D A s.heap (W_Mdo y hMo a_now a_asd a_pst a_mrf a_txt a_olt a_ofr a_nbs a_best a_wys a_rwx a_shx a_bef (mTl (nbs (ofr k)) (nbs ((ofr k) + 1)) now) msts mbyt olt ofr nbs mord best wys rwx alw bco alm abt mlt beg figm) H locs := hX
      exact xr_iret E hX hQ (mTl (nbs (ofr k)) (nbs ((ofr k) + 1)) now, best, wys, rwx, alw, bco, alm, abt) hr (by first | (exfalso; omega) | (unfold mOb; rw [if_neg (by omega), if_pos (by omega), hv, hw.1]; exact ⟨rfl, rfl⟩)) rfl dX6_doOrder_153
    by_cases k_42_117 : (olt k) = 117
    · refine xr_tabIn (tgt := 186) E dX6_doOrder_42 ⟨by omega, by omega⟩ 15 (by omega) (by omega) rfl (by decide) ?_
      refine xr_aload_n E hl 3 rfl dX6_doOrder_186 rfl ?_
      refine xk_i (W2 := fun uu => (W_Mdo y hMo a_now a_asd a_pst a_mrf a_txt a_olt a_ofr a_nbs a_best a_wys a_rwx a_shx a_bef uu.1 msts mbyt olt ofr nbs mord uu.2.1 uu.2.2.1 uu.2.2.2.1 uu.2.2.2.2.1 uu.2.2.2.2.2.1 uu.2.2.2.2.2.2.1 uu.2.2.2.2.2.2.2 mlt beg figm)) E hX [0, 1, 5, 6, 7] rfl (xv_V (As := []) E hX hl (c_X6_publishAll l D y z _ hMo a_now a_asd a_pst a_mrf a_txt a_olt a_ofr a_nbs a_best a_wys a_rwx a_shx a_bef now msts mbyt mord best wys rwx alw bco alm abt mlt beg figm H_M) ml_X6_118 im_X6_publishAll se_X6_publishAll in_X6 co_X6_publishAll 0 (by decide) ⟨rfl, rfl⟩ ⟨Nat.le_of_ble_eq_true rfl, Nat.le_of_ble_eq_true rfl⟩ [0, 1, 5, 6, 7] rfl rfl 0 rfl rfl rfl rfl rfl (Nat.le_of_ble_eq_true rfl) dX6_doOrder_187 ⟨Nat.le_refl _, Nat.le_refl _⟩) [0, 1, 7, 8, 9, 2, 3, 4] 5 (fun _ => rfl) (fun _ => rfl) (by decide) (by decide) (fun r_187 uu H locs hw hX => ?_)
      obtain ⟨now_187, best_187, wys_187, rwx_187, alw_187, bco_187, alm_187, abt_187⟩ := uu
      have hX : XW D A s.heap (W_Mdo y hMo a_now a_asd a_pst a_mrf a_txt a_olt a_ofr a_nbs a_best a_wys a_rwx a_shx a_bef now_187 msts mbyt olt ofr nbs mord best_187 wys_187 rwx_187 alw_187 bco_187 alm_187 abt_187 mlt beg figm) H locs := hX
      try dsimp only at hw
      obtain ⟨rfl, hp_187⟩ := hw
      exact xr_iret E hX hQ (now_187, best_187, wys_187, rwx_187, alw_187, bco_187, alm_187, abt_187) hr (by unfold mOb; rw [if_neg (by omega), if_neg (by omega), if_neg (by omega), if_neg (by omega), if_neg (by omega), if_neg (by omega), if_neg (by omega)]; exact ⟨rfl, hp_187⟩) rfl dX6_doOrder_190
    by_cases k_42_118 : (olt k) = 118
    · refine xr_tabIn (tgt := 186) E dX6_doOrder_42 ⟨by omega, by omega⟩ 16 (by omega) (by omega) rfl (by decide) ?_
      refine xr_aload_n E hl 3 rfl dX6_doOrder_186 rfl ?_
      refine xk_i (W2 := fun uu => (W_Mdo y hMo a_now a_asd a_pst a_mrf a_txt a_olt a_ofr a_nbs a_best a_wys a_rwx a_shx a_bef uu.1 msts mbyt olt ofr nbs mord uu.2.1 uu.2.2.1 uu.2.2.2.1 uu.2.2.2.2.1 uu.2.2.2.2.2.1 uu.2.2.2.2.2.2.1 uu.2.2.2.2.2.2.2 mlt beg figm)) E hX [0, 1, 5, 6, 7] rfl (xv_V (As := []) E hX hl (c_X6_publishAll l D y z _ hMo a_now a_asd a_pst a_mrf a_txt a_olt a_ofr a_nbs a_best a_wys a_rwx a_shx a_bef now msts mbyt mord best wys rwx alw bco alm abt mlt beg figm H_M) ml_X6_118 im_X6_publishAll se_X6_publishAll in_X6 co_X6_publishAll 0 (by decide) ⟨rfl, rfl⟩ ⟨Nat.le_of_ble_eq_true rfl, Nat.le_of_ble_eq_true rfl⟩ [0, 1, 5, 6, 7] rfl rfl 0 rfl rfl rfl rfl rfl (Nat.le_of_ble_eq_true rfl) dX6_doOrder_187 ⟨Nat.le_refl _, Nat.le_refl _⟩) [0, 1, 7, 8, 9, 2, 3, 4] 5 (fun _ => rfl) (fun _ => rfl) (by decide) (by decide) (fun r_187 uu H locs hw hX => ?_)
      obtain ⟨now_187, best_187, wys_187, rwx_187, alw_187, bco_187, alm_187, abt_187⟩ := uu
      have hX : XW D A s.heap (W_Mdo y hMo a_now a_asd a_pst a_mrf a_txt a_olt a_ofr a_nbs a_best a_wys a_rwx a_shx a_bef now_187 msts mbyt olt ofr nbs mord best_187 wys_187 rwx_187 alw_187 bco_187 alm_187 abt_187 mlt beg figm) H locs := hX
      try dsimp only at hw
      obtain ⟨rfl, hp_187⟩ := hw
      exact xr_iret E hX hQ (now_187, best_187, wys_187, rwx_187, alw_187, bco_187, alm_187, abt_187) hr (by unfold mOb; rw [if_neg (by omega), if_neg (by omega), if_neg (by omega), if_neg (by omega), if_neg (by omega), if_neg (by omega), if_neg (by omega)]; exact ⟨rfl, hp_187⟩) rfl dX6_doOrder_190
    by_cases k_42_119 : (olt k) = 119
    · refine xr_tabIn (tgt := 186) E dX6_doOrder_42 ⟨by omega, by omega⟩ 17 (by omega) (by omega) rfl (by decide) ?_
      refine xr_aload_n E hl 3 rfl dX6_doOrder_186 rfl ?_
      refine xk_i (W2 := fun uu => (W_Mdo y hMo a_now a_asd a_pst a_mrf a_txt a_olt a_ofr a_nbs a_best a_wys a_rwx a_shx a_bef uu.1 msts mbyt olt ofr nbs mord uu.2.1 uu.2.2.1 uu.2.2.2.1 uu.2.2.2.2.1 uu.2.2.2.2.2.1 uu.2.2.2.2.2.2.1 uu.2.2.2.2.2.2.2 mlt beg figm)) E hX [0, 1, 5, 6, 7] rfl (xv_V (As := []) E hX hl (c_X6_publishAll l D y z _ hMo a_now a_asd a_pst a_mrf a_txt a_olt a_ofr a_nbs a_best a_wys a_rwx a_shx a_bef now msts mbyt mord best wys rwx alw bco alm abt mlt beg figm H_M) ml_X6_118 im_X6_publishAll se_X6_publishAll in_X6 co_X6_publishAll 0 (by decide) ⟨rfl, rfl⟩ ⟨Nat.le_of_ble_eq_true rfl, Nat.le_of_ble_eq_true rfl⟩ [0, 1, 5, 6, 7] rfl rfl 0 rfl rfl rfl rfl rfl (Nat.le_of_ble_eq_true rfl) dX6_doOrder_187 ⟨Nat.le_refl _, Nat.le_refl _⟩) [0, 1, 7, 8, 9, 2, 3, 4] 5 (fun _ => rfl) (fun _ => rfl) (by decide) (by decide) (fun r_187 uu H locs hw hX => ?_)
      obtain ⟨now_187, best_187, wys_187, rwx_187, alw_187, bco_187, alm_187, abt_187⟩ := uu
      have hX : XW D A s.heap (W_Mdo y hMo a_now a_asd a_pst a_mrf a_txt a_olt a_ofr a_nbs a_best a_wys a_rwx a_shx a_bef now_187 msts mbyt olt ofr nbs mord best_187 wys_187 rwx_187 alw_187 bco_187 alm_187 abt_187 mlt beg figm) H locs := hX
      try dsimp only at hw
      obtain ⟨rfl, hp_187⟩ := hw
      exact xr_iret E hX hQ (now_187, best_187, wys_187, rwx_187, alw_187, bco_187, alm_187, abt_187) hr (by unfold mOb; rw [if_neg (by omega), if_neg (by omega), if_neg (by omega), if_neg (by omega), if_neg (by omega), if_neg (by omega), if_neg (by omega)]; exact ⟨rfl, hp_187⟩) rfl dX6_doOrder_190
    by_cases k_42_120 : (olt k) = 120
    · refine xr_tabIn (tgt := 186) E dX6_doOrder_42 ⟨by omega, by omega⟩ 18 (by omega) (by omega) rfl (by decide) ?_
      refine xr_aload_n E hl 3 rfl dX6_doOrder_186 rfl ?_
      refine xk_i (W2 := fun uu => (W_Mdo y hMo a_now a_asd a_pst a_mrf a_txt a_olt a_ofr a_nbs a_best a_wys a_rwx a_shx a_bef uu.1 msts mbyt olt ofr nbs mord uu.2.1 uu.2.2.1 uu.2.2.2.1 uu.2.2.2.2.1 uu.2.2.2.2.2.1 uu.2.2.2.2.2.2.1 uu.2.2.2.2.2.2.2 mlt beg figm)) E hX [0, 1, 5, 6, 7] rfl (xv_V (As := []) E hX hl (c_X6_publishAll l D y z _ hMo a_now a_asd a_pst a_mrf a_txt a_olt a_ofr a_nbs a_best a_wys a_rwx a_shx a_bef now msts mbyt mord best wys rwx alw bco alm abt mlt beg figm H_M) ml_X6_118 im_X6_publishAll se_X6_publishAll in_X6 co_X6_publishAll 0 (by decide) ⟨rfl, rfl⟩ ⟨Nat.le_of_ble_eq_true rfl, Nat.le_of_ble_eq_true rfl⟩ [0, 1, 5, 6, 7] rfl rfl 0 rfl rfl rfl rfl rfl (Nat.le_of_ble_eq_true rfl) dX6_doOrder_187 ⟨Nat.le_refl _, Nat.le_refl _⟩) [0, 1, 7, 8, 9, 2, 3, 4] 5 (fun _ => rfl) (fun _ => rfl) (by decide) (by decide) (fun r_187 uu H locs hw hX => ?_)
      obtain ⟨now_187, best_187, wys_187, rwx_187, alw_187, bco_187, alm_187, abt_187⟩ := uu
      have hX : XW D A s.heap (W_Mdo y hMo a_now a_asd a_pst a_mrf a_txt a_olt a_ofr a_nbs a_best a_wys a_rwx a_shx a_bef now_187 msts mbyt olt ofr nbs mord best_187 wys_187 rwx_187 alw_187 bco_187 alm_187 abt_187 mlt beg figm) H locs := hX
      try dsimp only at hw
      obtain ⟨rfl, hp_187⟩ := hw
      exact xr_iret E hX hQ (now_187, best_187, wys_187, rwx_187, alw_187, bco_187, alm_187, abt_187) hr (by unfold mOb; rw [if_neg (by omega), if_neg (by omega), if_neg (by omega), if_neg (by omega), if_neg (by omega), if_neg (by omega), if_neg (by omega)]; exact ⟨rfl, hp_187⟩) rfl dX6_doOrder_190
    by_cases k_42_121 : (olt k) = 121
    · refine xr_tabIn (tgt := 186) E dX6_doOrder_42 ⟨by omega, by omega⟩ 19 (by omega) (by omega) rfl (by decide) ?_
      refine xr_aload_n E hl 3 rfl dX6_doOrder_186 rfl ?_
      refine xk_i (W2 := fun uu => (W_Mdo y hMo a_now a_asd a_pst a_mrf a_txt a_olt a_ofr a_nbs a_best a_wys a_rwx a_shx a_bef uu.1 msts mbyt olt ofr nbs mord uu.2.1 uu.2.2.1 uu.2.2.2.1 uu.2.2.2.2.1 uu.2.2.2.2.2.1 uu.2.2.2.2.2.2.1 uu.2.2.2.2.2.2.2 mlt beg figm)) E hX [0, 1, 5, 6, 7] rfl (xv_V (As := []) E hX hl (c_X6_publishAll l D y z _ hMo a_now a_asd a_pst a_mrf a_txt a_olt a_ofr a_nbs a_best a_wys a_rwx a_shx a_bef now msts mbyt mord best wys rwx alw bco alm abt mlt beg figm H_M) ml_X6_118 im_X6_publishAll se_X6_publishAll in_X6 co_X6_publishAll 0 (by decide) ⟨rfl, rfl⟩ ⟨Nat.le_of_ble_eq_true rfl, Nat.le_of_ble_eq_true rfl⟩ [0, 1, 5, 6, 7] rfl rfl 0 rfl rfl rfl rfl rfl (Nat.le_of_ble_eq_true rfl) dX6_doOrder_187 ⟨Nat.le_refl _, Nat.le_refl _⟩) [0, 1, 7, 8, 9, 2, 3, 4] 5 (fun _ => rfl) (fun _ => rfl) (by decide) (by decide) (fun r_187 uu H locs hw hX => ?_)
      obtain ⟨now_187, best_187, wys_187, rwx_187, alw_187, bco_187, alm_187, abt_187⟩ := uu
      have hX : XW D A s.heap (W_Mdo y hMo a_now a_asd a_pst a_mrf a_txt a_olt a_ofr a_nbs a_best a_wys a_rwx a_shx a_bef now_187 msts mbyt olt ofr nbs mord best_187 wys_187 rwx_187 alw_187 bco_187 alm_187 abt_187 mlt beg figm) H locs := hX
      try dsimp only at hw
      obtain ⟨rfl, hp_187⟩ := hw
      exact xr_iret E hX hQ (now_187, best_187, wys_187, rwx_187, alw_187, bco_187, alm_187, abt_187) hr (by unfold mOb; rw [if_neg (by omega), if_neg (by omega), if_neg (by omega), if_neg (by omega), if_neg (by omega), if_neg (by omega), if_neg (by omega)]; exact ⟨rfl, hp_187⟩) rfl dX6_doOrder_190
    by_cases k_42_122 : (olt k) = 122
    · refine xr_tabIn (tgt := 160) E dX6_doOrder_42 ⟨by omega, by omega⟩ 20 (by omega) (by omega) rfl (by decide) ?_
      have hcc : c = 122 := by omega
      have hv := ha (by rw [hcc]; decide)
      have hw := hb (by rw [hcc]; decide)
      refine xr_aload_n E hl 3 rfl dX6_doOrder_160 rfl ?_
      refine xr_iload_n E hl 1 rfl dX6_doOrder_161 rfl ?_
      refine xr_iload E hl 0 rfl dX6_doOrder_162 ?_
      refine xk_i (W2 := fun uu => (W_Mdo y hMo a_now a_asd a_pst a_mrf a_txt a_olt a_ofr a_nbs a_best a_wys a_rwx a_shx a_bef uu msts mbyt olt ofr nbs mord best wys rwx alw bco alm abt mlt beg figm)) E hX [0, 1] rfl (xv_V (As := [.int (iI (nbs (ofr k))), .int (iI (nbs ((ofr k) + 1)))]) E hX hl (c_X6_putFrozen l D y z _ hMo a_now a_asd a_pst a_mrf a_txt a_olt a_ofr a_nbs a_best a_wys a_rwx a_shx a_bef now msts mbyt mord alw bco alm abt mlt beg figm (nbs (ofr k)) (nbs ((ofr k) + 1)) ⟨by omega, by omega⟩ ⟨by omega, by omega⟩ H_M) ml_X6_109 im_X6_putFrozen se_X6_putFrozen in_X6 co_X6_putFrozen 2 (by decide) ⟨rfl, rfl⟩ ⟨Nat.le_of_ble_eq_true rfl, Nat.le_of_ble_eq_true rfl⟩ [0, 1] rfl rfl 0 rfl rfl rfl rfl rfl (Nat.le_of_ble_eq_true rfl) dX6_doOrder_164 ⟨Nat.le_refl _, Nat.le_refl _⟩) [0, 1, 4, 5, 6, 7, 8, 9] 2 (fun _ => rfl) (fun _ => rfl) (by decide) (by decide) (fun r_164 uu H locs hw hX => ?_)
      obtain ⟨rfl, rfl⟩ := hw
      have hX : XW D A s.heap (W_Mdo y hMo a_now a_asd a_pst a_mrf a_txt a_olt a_ofr a_nbs a_best a_wys a_rwx a_shx a_bef (mIc (nbs (ofr k)) (nbs ((ofr k) + 1)) now) msts mbyt olt ofr nbs mord best wys rwx alw bco alm abt mlt beg figm) H locs := hX
      exact xr_iret E hX hQ (mIc (nbs (ofr k)) (nbs ((ofr k) + 1)) now, best, wys, rwx, alw, bco, alm, abt) hr (by first | (exfalso; omega) | (unfold mOb; rw [if_neg (by omega), if_neg (by omega), if_neg (by omega), if_pos (by omega), hv, hw.1]; exact ⟨rfl, rfl⟩)) rfl dX6_doOrder_167
    refine xr_tabOut (tgt := 186) E dX6_doOrder_42 ⟨by omega, by omega⟩ (by omega) (by decide) ?_
    refine xr_aload_n E hl 3 rfl dX6_doOrder_186 rfl ?_
    refine xk_i (W2 := fun uu => (W_Mdo y hMo a_now a_asd a_pst a_mrf a_txt a_olt a_ofr a_nbs a_best a_wys a_rwx a_shx a_bef uu.1 msts mbyt olt ofr nbs mord uu.2.1 uu.2.2.1 uu.2.2.2.1 uu.2.2.2.2.1 uu.2.2.2.2.2.1 uu.2.2.2.2.2.2.1 uu.2.2.2.2.2.2.2 mlt beg figm)) E hX [0, 1, 5, 6, 7] rfl (xv_V (As := []) E hX hl (c_X6_publishAll l D y z _ hMo a_now a_asd a_pst a_mrf a_txt a_olt a_ofr a_nbs a_best a_wys a_rwx a_shx a_bef now msts mbyt mord best wys rwx alw bco alm abt mlt beg figm H_M) ml_X6_118 im_X6_publishAll se_X6_publishAll in_X6 co_X6_publishAll 0 (by decide) ⟨rfl, rfl⟩ ⟨Nat.le_of_ble_eq_true rfl, Nat.le_of_ble_eq_true rfl⟩ [0, 1, 5, 6, 7] rfl rfl 0 rfl rfl rfl rfl rfl (Nat.le_of_ble_eq_true rfl) dX6_doOrder_187 ⟨Nat.le_refl _, Nat.le_refl _⟩) [0, 1, 7, 8, 9, 2, 3, 4] 5 (fun _ => rfl) (fun _ => rfl) (by decide) (by decide) (fun r_187 uu H locs hw hX => ?_)
    obtain ⟨now_187, best_187, wys_187, rwx_187, alw_187, bco_187, alm_187, abt_187⟩ := uu
    have hX : XW D A s.heap (W_Mdo y hMo a_now a_asd a_pst a_mrf a_txt a_olt a_ofr a_nbs a_best a_wys a_rwx a_shx a_bef now_187 msts mbyt olt ofr nbs mord best_187 wys_187 rwx_187 alw_187 bco_187 alm_187 abt_187 mlt beg figm) H locs := hX
    try dsimp only at hw
    obtain ⟨rfl, hp_187⟩ := hw
    exact xr_iret E hX hQ (now_187, best_187, wys_187, rwx_187, alw_187, bco_187, alm_187, abt_187) hr (by unfold mOb; rw [if_neg (by omega), if_neg (by omega), if_neg (by omega), if_neg (by omega), if_neg (by omega), if_neg (by omega), if_neg (by omega)]; exact ⟨rfl, hp_187⟩) rfl dX6_doOrder_190
