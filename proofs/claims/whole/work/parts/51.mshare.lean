/-! the reference: sharing out -/
abbrev W_Msh (y : CY) (hMo a_now a_asd a_pst a_mrf a_txt a_olt a_ofr a_nbs a_best a_wys a_rwx a_shx a_bef : Nat) (now : Int → Int) (msts : Int) (mbyt : Int) (mord : Int) (alw : Int) (bco : Int) (alm : Int) (abt : Int) (shx : Int → Int) (mlt : Int) (beg : Int) (figm : Int) : va_W := [(hMo, .inr (6, [.ref a_now, .ref a_asd, .ref a_pst, .int (iI msts), .ref a_mrf, .ref a_txt, .int (iI mbyt), .ref a_olt, .ref a_ofr, .ref a_nbs, .int (iI mord), .ref a_best, .ref a_wys, .ref a_rwx, .int (iI alw), .long (lI bco), .int (iI alm), .int (iI abt), .ref a_shx, .int (iI mlt), .int (iI beg), .int (iI figm), .ref a_bef])), (a_now, .inl (y.1, 31, .inl (ia now))), (a_shx, .inl (y.1, 12, .inl (ia shx)))]
abbrev W_Mshr (y : CY) (hMo a_now a_asd a_pst a_mrf a_txt a_olt a_ofr a_nbs a_best a_wys a_rwx a_shx a_bef : Nat) (now : Int → Int) (msts : Int) (mrf : Int → Int) (mbyt : Int) (mord : Int) (alw : Int) (bco : Int) (alm : Int) (abt : Int) (shx : Int → Int) (mlt : Int) (beg : Int) (figm : Int) : va_W := [(hMo, .inr (6, [.ref a_now, .ref a_asd, .ref a_pst, .int (iI msts), .ref a_mrf, .ref a_txt, .int (iI mbyt), .ref a_olt, .ref a_ofr, .ref a_nbs, .int (iI mord), .ref a_best, .ref a_wys, .ref a_rwx, .int (iI alw), .long (lI bco), .int (iI alm), .int (iI abt), .ref a_shx, .int (iI mlt), .int (iI beg), .int (iI figm), .ref a_bef])), (a_now, .inl (y.1, 31, .inl (ia now))), (a_mrf, .inl (y.1, 3, .inl (ia mrf))), (a_shx, .inl (y.1, 12, .inl (ia shx)))]
theorem share_up {shx sh2 f : Int → Int} {v fs : Int} {g : Nat} (hg : g < 16) (h : 4 * v ≤ fs ∧ fs < 4 * v + 4) (h0 : gI g (fs - 4 * v) = 0) (hs : sh2 = fillR shx (4 * v) 4 (fun wt => f wt + gI g (wt - 4 * v))) : up sh2 fs (sh2 fs + 1) = fillR shx (4 * v) 4 (fun wt => f wt + gI (gU g (fs - 4 * v)) (wt - 4 * v)) := by
  funext j
  by_cases hj : j = fs
  · rw [hj, up_same, fillR_in h.1 h.2, hs, fillR_in h.1 h.2, gU_bit hg (by omega) (by omega), if_pos rfl, h0]
    omega
  · rw [up_ne _ _ hj, hs]
    by_cases hr : 4 * v ≤ j ∧ j < 4 * v + 4
    · rw [fillR_in hr.1 hr.2, fillR_in hr.1 hr.2, gU_bit hg (by omega) (by omega), if_neg (by omega)]
    · rw [fillR_out (by omega), fillR_out (by omega)]
theorem fillR_cg {f g h : Int → Int} {a n : Int} (he : ∀ t : Int, a ≤ t → t < a + n → g t = h t) : fillR f a n g = fillR f a n h := by
  funext j
  by_cases hr : a ≤ j ∧ j < a + n
  · rw [fillR_in hr.1 hr.2, fillR_in hr.1 hr.2, he j hr.1 hr.2]
  · rw [fillR_out (by omega), fillR_out (by omega)]
abbrev rm_X6_shareYear : Room := { frames := 0, cells := 0, slots := 0, locals := 0 }
set_option maxHeartbeats 4000000 in
set_option maxRecDepth 100000 in
theorem c_X6_shareYear (l : Launch) (D : va_G) (y : CY) (z sz : Nat) (hMo a_now a_asd a_pst a_mrf a_txt a_olt a_ofr a_nbs a_best a_wys a_rwx a_shx a_bef : Nat) (now : Int → Int) (msts : Int) (mbyt : Int) (mord : Int) (alw : Int) (bco : Int) (alm : Int) (abt : Int) (shx : Int → Int) (mlt : Int) (beg : Int) (figm : Int) (v : Int) (al : Int) (byy : Int) (H_M : FM now) (hv : 0 ≤ v ∧ v < 3) (hal : al = mT now v) (ha1 : al ≠ -1) (hby : byy = xInd (mI now) (now 0) v) : Met l yX6_shareYear (Cond.code yX6_shareYear cX6_shareYear 9 none :: TW) rm_X6_shareYear (va_Pc [.ref hMo, .int (iI v), .int (iI al), .int (iI byy)] (PX D y z (W_Msh y hMo a_now a_asd a_pst a_mrf a_txt a_olt a_ofr a_nbs a_best a_wys a_rwx a_shx a_bef now msts mbyt mord alw bco alm abt shx mlt beg figm) sz)) (va_Qv (fun (uu : (Int → Int)) => uu = fillR shx (4 * v) 4 (fun wt => xShare (mI now) (mT now) (now 0) wt)) (fun uu t => BX D (W_Msh y hMo a_now a_asd a_pst a_mrf a_txt a_olt a_ofr a_nbs a_best a_wys a_rwx a_shx a_bef now msts mbyt mord alw bco alm abt uu mlt beg figm) (va_A (W_Msh y hMo a_now a_asd a_pst a_mrf a_txt a_olt a_ofr a_nbs a_best a_wys a_rwx a_shx a_bef now msts mbyt mord alw bco alm abt shx mlt beg figm) sz) t) (va_A (W_Msh y hMo a_now a_asd a_pst a_mrf a_txt a_olt a_ofr a_nbs a_best a_wys a_rwx a_shx a_bef now msts mbyt mord alw bco alm abt shx mlt beg figm) sz)) 0 0 (va_A (W_Msh y hMo a_now a_asd a_pst a_mrf a_txt a_olt a_ofr a_nbs a_best a_wys a_rwx a_shx a_bef now msts mbyt mord alw bco alm abt shx mlt beg figm) sz) := by
  refine xm_v (by decide) (Nat.le_of_ble_eq_true rfl) (fun p e s m args below meth cX ls A Q E hr hnm hX hl hQ => ?_)
  have hl : lv_has ls 9 [(0, .ref hMo), (1, .int (iI v)), (2, .int (iI al)), (3, .int (iI byy))] := hl
  have hq := H_M.q
  have hfr := H_M.fr
  have hli := H_M.li
  have hsh := H_M.sh
  have htt := H_M.tot hv.1 hv.2
  have emt : mT now v = now (13 + v) := rfl
  have h4 : 4 * v + 4 ≤ now 0 := htt.2.2 (by omega)
  have hS4 : byy = sumI (mI now) (4 * v) 4 := by rw [hby]; unfold xInd; rw [yN4 h4]
  have hSb := sumI_bd (f := mI now) (a := 4 * v) (lo := 1) (hi := 99) (n := 4) (fun k k0 k1 => by have h9 := H_M.ind (t := 4 * v + k) (by omega) (by omega); unfold mI; omega)
  have hS0 : 4 ≤ byy ∧ byy ≤ 396 := by omega
  have hL3 := left_lt (ind := mI now) (T := al) (S := byy) (v := v) (by omega) hS4
  refine xr_iload_n E hl 2 rfl dX6_shareYear_0 rfl ?_
  refine xr_istore (lv' := [(4, .int (iI al)), (0, .ref hMo), (1, .int (iI v)), (2, .int (iI al)), (3, .int (iI byy))]) E hl dX6_shareYear_1 (by decide) rfl (fun ls hl => ?_)
  refine xr_iconst E dX6_shareYear_3 ?_
  refine xr_iload_n E hl 2 rfl dX6_shareYear_4 rfl ?_
  refine xr_imul E dX6_shareYear_5 ?_
  refine xr_istore (lv' := [(5, .int (iI (4 * v))), (4, .int (iI al)), (0, .ref hMo), (1, .int (iI v)), (2, .int (iI al)), (3, .int (iI byy))]) E hl dX6_shareYear_6 (by decide) rfl (fun ls hl => ?_)
  have L_8_1 : ∀ (nmu : Nat) (n : Nat) (lf : Int) (t : Int) (shx1 : Int → Int), 4 - n < nmu → (t = 4 * v + n ∧ n ≤ 4) → (lf = al - sumI (fun u => al * mI now u / byy) (4 * v) n) → (-1000 * (n : Int) ≤ lf ∧ lf ≤ 999) → (shx1 = fillR shx (4 * v) n (fun wt => al * mI now wt / byy)) → ∀ (H : Heap) (locs : List Loc) (ls : Array Slot), XW D A s.heap (W_Msh y hMo a_now a_asd a_pst a_mrf a_txt a_olt a_ofr a_nbs a_best a_wys a_rwx a_shx a_bef now msts mbyt mord alw bco alm abt shx1 mlt beg figm) H locs → lv_has ls 9 [(0, .ref hMo), (1, .int (iI v)), (2, .int (iI al)), (3, .int (iI byy)), (4, .int (iI lf)), (5, .int (iI t))] → W p l e rm_X6_shareYear s m args below meth cX H locs 0 0 Q (F0 m 8 ls []) := by
    intro nmu
    induction nmu with
    | zero =>
      intro n lf t shx1 hmu
      exact absurd hmu (Nat.not_lt_zero _)
    | succ nmu ih =>
      intro n lf t shx1 hmu ht hlf hlb hs1 H locs ls hX hl
      have ih_8_1 := ih
      clear ih
      refine xr_iload E hl 5 rfl dX6_shareYear_8 ?_
      refine xr_iconst E dX6_shareYear_10 ?_
      refine xr_iload_n E hl 1 rfl dX6_shareYear_11 rfl ?_
      refine xr_imul E dX6_shareYear_12 ?_
      refine xr_iconst E dX6_shareYear_13 ?_
      refine xr_iadd E dX6_shareYear_14 ?_
      refine xr_icmp_ge (tgt := 56) E dX6_shareYear_15 (by decide) ⟨by omega, by omega⟩ ⟨by omega, by omega⟩ (fun c_15 => ?_) (fun c_15 => ?_)
      · have c_15 := c_15
        refine xr_iconst E dX6_shareYear_56 ?_
        refine xr_istore (lv' := [(5, .int (iI 0)), (0, .ref hMo), (1, .int (iI v)), (2, .int (iI al)), (3, .int (iI byy)), (4, .int (iI lf))]) E hl dX6_shareYear_57 (by decide) rfl (fun ls hl => ?_)
        have L_59_2 : ∀ (nmu : Nat) (g : Nat) (lf2 : Int) (gv : Int) (shx2 : Int → Int), lf2.toNat < nmu → (g < 16) → (gv = gB v g) → (lf2 = al - sumI (fun u => al * mI now u / byy) (4 * v) 4 - gN g) → (g = 0 ∨ 0 ≤ lf2) → (-4000 ≤ lf2 ∧ lf2 ≤ 999) → (gCl (fun u => al * mI now u % byy) v g) → (shx2 = fillR shx (4 * v) 4 (fun wt => al * mI now wt / byy + gI g (wt - 4 * v))) → ∀ (H : Heap) (locs : List Loc) (ls : Array Slot), XW D A s.heap (W_Msh y hMo a_now a_asd a_pst a_mrf a_txt a_olt a_ofr a_nbs a_best a_wys a_rwx a_shx a_bef now msts mbyt mord alw bco alm abt shx2 mlt beg figm) H locs → lv_has ls 9 [(0, .ref hMo), (1, .int (iI v)), (2, .int (iI al)), (3, .int (iI byy)), (4, .int (iI lf2)), (5, .int (iI gv))] → W p l e rm_X6_shareYear s m args below meth cX H locs 0 0 Q (F0 m 59 ls []) := by
          intro nmu
          induction nmu with
          | zero =>
            intro g lf2 gv shx2 hmu
            exact absurd hmu (Nat.not_lt_zero _)
          | succ nmu ih =>
            intro g lf2 gv shx2 hmu hg hgv hl2 hz hlb2 hcl hs2 H locs ls hX hl
            have ih_59_2 := ih
            clear ih
            refine xr_iload E hl 4 rfl dX6_shareYear_59 ?_
            refine xr_if_le (tgt := 180) E dX6_shareYear_61 (by decide) ⟨by omega, by omega⟩ (fun c_61 => ?_) (fun c_61 => ?_)
            · have c_61 := c_61
              exact xr_vret E hX hQ shx2 hr (by rw [hs2]; exact fillR_cg (fun t h0 h1 => share_of hv.1 h4 hal ha1 hby (by omega) hcl hl2 (by omega) hz h0 h1)) rfl dX6_shareYear_180
            · have c_61 := c_61
              refine xr_iconst E dX6_shareYear_64 ?_
              refine xr_istore (lv' := [(6, .int (iI (-1))), (0, .ref hMo), (1, .int (iI v)), (2, .int (iI al)), (3, .int (iI byy)), (4, .int (iI lf2)), (5, .int (iI gv))]) E hl dX6_shareYear_65 (by decide) rfl (fun ls hl => ?_)
              refine xr_iconst E dX6_shareYear_67 ?_
              refine xr_iload_n E hl 2 rfl dX6_shareYear_68 rfl ?_
              refine xr_imul E dX6_shareYear_69 ?_
              refine xr_istore (lv' := [(7, .int (iI (4 * v))), (6, .int (iI (-1))), (0, .ref hMo), (1, .int (iI v)), (2, .int (iI al)), (3, .int (iI byy)), (4, .int (iI lf2)), (5, .int (iI gv))]) E hl dX6_shareYear_70 (by decide) rfl (fun ls hl => ?_)
              have L_72_3 : ∀ (nmu : Nat) (k : Nat) (fs : Int) (tv : Int), 4 - k < nmu → (tv = 4 * v + k ∧ k ≤ 4) → (sel (fun u => al * mI now u % byy) v g k fs) → (-1 ≤ fs ∧ fs < 12) → ∀ (H : Heap) (locs : List Loc) (ls : Array Slot), XW D A s.heap (W_Msh y hMo a_now a_asd a_pst a_mrf a_txt a_olt a_ofr a_nbs a_best a_wys a_rwx a_shx a_bef now msts mbyt mord alw bco alm abt shx2 mlt beg figm) H locs → lv_has ls 9 [(0, .ref hMo), (1, .int (iI v)), (2, .int (iI al)), (3, .int (iI byy)), (4, .int (iI lf2)), (5, .int (iI gv)), (6, .int (iI fs)), (7, .int (iI tv))] → W p l e rm_X6_shareYear s m args below meth cX H locs 0 0 Q (F0 m 72 ls []) := by
                intro nmu
                induction nmu with
                | zero =>
                  intro k fs tv hmu
                  exact absurd hmu (Nat.not_lt_zero _)
                | succ nmu ih =>
                  intro k fs tv hmu htv hse0 hfs H locs ls hX hl
                  have ih_72_3 := ih
                  clear ih
                  refine xr_iload E hl 7 rfl dX6_shareYear_72 ?_
                  refine xr_iconst E dX6_shareYear_74 ?_
                  refine xr_iload_n E hl 1 rfl dX6_shareYear_75 rfl ?_
                  refine xr_imul E dX6_shareYear_76 ?_
                  refine xr_iconst E dX6_shareYear_77 ?_
                  refine xr_iadd E dX6_shareYear_78 ?_
                  refine xr_icmp_ge (tgt := 154) E dX6_shareYear_79 (by decide) ⟨by omega, by omega⟩ ⟨by omega, by omega⟩ (fun c_79 => ?_) (fun c_79 => ?_)
                  · have c_79 := c_79
                    have hse := sel_end (show sel (fun u => al * mI now u % byy) v g 4 fs by rw [show (4 : Nat) = k by omega]; exact hse0) (by omega)
                    refine xr_iload E hl 5 rfl dX6_shareYear_154 ?_
                    refine xr_iconst E dX6_shareYear_156 ?_
                    refine xr_iload E hl 6 rfl dX6_shareYear_157 ?_
                    refine xr_ishl E dX6_shareYear_159 ?_
                    refine xr_ior E dX6_shareYear_160 ?_
                    refine xr_istore (lv' := [(5, .int (iI (bOr gv (bShl 1 fs)))), (0, .ref hMo), (1, .int (iI v)), (2, .int (iI al)), (3, .int (iI byy)), (4, .int (iI lf2)), (6, .int (iI fs)), (7, .int (iI tv))]) E hl dX6_shareYear_161 (by decide) rfl (fun ls hl => ?_)
                    refine xr_aload_n E hl 1 rfl dX6_shareYear_163 rfl ?_
                    refine xr_get E hX 0 rfl rfl ly_X6 18 (by decide) fl_X6_44 rfl dX6_shareYear_164 ?_
                    refine xr_iload E hl 6 rfl dX6_shareYear_167 ?_
                    refine xr_dup2 E dX6_shareYear_169 rfl rfl ?_
                    refine xr_iald E hX 2 rfl (by omega) (by omega) (by decide) dX6_shareYear_170 ?_
                    refine xr_iconst E dX6_shareYear_171 ?_
                    refine xr_iadd E dX6_shareYear_172 ?_
                    refine xr_iast (W1 := (W_Msh y hMo a_now a_asd a_pst a_mrf a_txt a_olt a_ofr a_nbs a_best a_wys a_rwx a_shx a_bef now msts mbyt mord alw bco alm abt (up shx2 fs ((shx2 fs) + 1)) mlt beg figm)) E hX 2 rfl (by omega) (by omega) (by decide) rfl dX6_shareYear_173 (fun H locs hX => ?_)
                    refine xr_iinc (k := 5) (lv' := [(4, .int (iI (lf2 + (-1)))), (5, .int (iI (bOr gv (bShl 1 fs)))), (0, .ref hMo), (1, .int (iI v)), (2, .int (iI al)), (3, .int (iI byy)), (6, .int (iI fs)), (7, .int (iI tv))]) E hl rfl dX6_shareYear_174 (by decide) rfl (fun ls hl => ?_)
                    refine xr_goto (tgt := 59) E dX6_shareYear_177 (by decide) ?_
                    exact ih_59_2 (gU g (fs - 4 * v)) (lf2 + (-1)) (bOr gv (bShl 1 fs)) (up shx2 fs ((shx2 fs) + 1)) (by omega) (gU_lt hg (by omega)) (by rw [hgv, show bShl 1 fs = bShl 1 (4 * v + (fs - 4 * v)) by rw [show 4 * v + (fs - 4 * v) = fs by omega]]; exact gB_or hv hg (by omega)) (by rw [gN_u hg (by omega) hse.2.1]; omega) (Or.inr (by omega)) (by omega) (gCl_u hg hcl hse) (share_up hg hse.1 hse.2.1 hs2) _ _ _ hX (lv_sub hl [2, 3, 4, 5, 0, 1] rfl)
                  · have c_79 := c_79
                    have hbit : bAnd (bShr gv tv) 1 = gI g k := by rw [hgv, htv.1]; exact gB_bit hv hg (by omega)
                    have hg01 := gI_01 g k
                    have hii := H_M.ind (t := tv) (by omega) (by omega)
                    have hm := mul_bd (a := al) (b := now (1 + tv)) (A := 999) (B := 99) (by omega) (by omega) (by omega) (by omega)
                    have hr1 := Int.emod_nonneg (al * now (1 + tv)) (show byy ≠ 0 by omega)
                    have hr2 := Int.emod_lt_of_pos (al * now (1 + tv)) (show 0 < byy by omega)
                    refine xr_iload E hl 5 rfl dX6_shareYear_82 ?_
                    refine xr_iload E hl 7 rfl dX6_shareYear_84 ?_
                    refine xr_ishr E dX6_shareYear_86 ?_
                    refine xr_iconst E dX6_shareYear_87 ?_
                    refine xr_iand E dX6_shareYear_88 ?_
                    refine xr_if_ne (tgt := 96) E dX6_shareYear_89 (by decide) ⟨by omega, by omega⟩ (fun c_89 => ?_) (fun c_89 => ?_)
                    · have c_89 := c_89
                      refine xr_iconst E dX6_shareYear_96 ?_
                      refine xr_toB0 ?_
                      refine xr_istore (lv' := [(8, .int (bB false)), (0, .ref hMo), (1, .int (iI v)), (2, .int (iI al)), (3, .int (iI byy)), (4, .int (iI lf2)), (5, .int (iI gv)), (6, .int (iI fs)), (7, .int (iI tv))]) E hl dX6_shareYear_97 (by decide) rfl (fun ls hl => ?_)
                      refine xr_iload E hl 0 rfl dX6_shareYear_99 ?_
                      refine xr_if_eqB (tgt := 144) E dX6_shareYear_101 (by decide) (fun c_101 => ?_) (fun c_101 => ?_)
                      · have c_101 := c_101
                        refine xr_iload E hl 7 rfl dX6_shareYear_144 ?_
                        refine xr_istore (lv' := [(6, .int (iI fs)), (8, .int (bB false)), (0, .ref hMo), (1, .int (iI v)), (2, .int (iI al)), (3, .int (iI byy)), (4, .int (iI lf2)), (5, .int (iI gv)), (7, .int (iI tv))]) E hl dX6_shareYear_146 (by decide) rfl (fun ls hl => ?_)
                        refine xr_iinc (k := 8) (lv' := [(7, .int (iI (tv + 1))), (6, .int (iI fs)), (8, .int (bB false)), (0, .ref hMo), (1, .int (iI v)), (2, .int (iI al)), (3, .int (iI byy)), (4, .int (iI lf2)), (5, .int (iI gv))]) E hl rfl dX6_shareYear_148 (by decide) rfl (fun ls hl => ?_)
                        refine xr_goto (tgt := 72) E dX6_shareYear_151 (by decide) ?_
                        exact ih_72_3 (k + 1) fs (tv + 1) (by omega) (by omega) (by first | exact sel_given hse0 htv.1 (by omega) | exact sel_first hse0 hv.1 htv.1 (by omega) c_107 | exact sel_more hse0 htv.1 (by omega) c_107 c_136 | exact sel_less hse0 htv.1 c_107 c_136) (by omega) _ _ _ hX (lv_sub hl [3, 4, 5, 6, 7, 8, 1, 0] rfl)
                      · exact absurd c_101 (by decide)
                    · have c_89 := c_89
                      refine xr_iconst E dX6_shareYear_92 ?_
                      refine xr_goto (tgt := 97) E dX6_shareYear_93 (by decide) ?_
                      refine xr_toB1 ?_
                      refine xr_istore (lv' := [(8, .int (bB true)), (0, .ref hMo), (1, .int (iI v)), (2, .int (iI al)), (3, .int (iI byy)), (4, .int (iI lf2)), (5, .int (iI gv)), (6, .int (iI fs)), (7, .int (iI tv))]) E hl dX6_shareYear_97 (by decide) rfl (fun ls hl => ?_)
                      refine xr_iload E hl 0 rfl dX6_shareYear_99 ?_
                      refine xr_if_eqB (tgt := 144) E dX6_shareYear_101 (by decide) (fun c_101 => ?_) (fun c_101 => ?_)
                      · exact absurd c_101 (by decide)
                      · have c_101 := c_101
                        refine xr_iload E hl 7 rfl dX6_shareYear_104 ?_
                        refine xr_iconst E dX6_shareYear_106 ?_
                        refine xr_icmp_eq (tgt := 139) E dX6_shareYear_107 (by decide) ⟨by omega, by omega⟩ (by decide) (fun c_107 => ?_) (fun c_107 => ?_)
                        · have c_107 := c_107
                          refine xr_iload E hl 8 rfl dX6_shareYear_139 ?_
                          refine xr_goto (tgt := 146) E dX6_shareYear_141 (by decide) ?_
                          refine xr_istore (lv' := [(6, .int (iI tv)), (8, .int (bB true)), (0, .ref hMo), (1, .int (iI v)), (2, .int (iI al)), (3, .int (iI byy)), (4, .int (iI lf2)), (5, .int (iI gv)), (7, .int (iI tv))]) E hl dX6_shareYear_146 (by decide) rfl (fun ls hl => ?_)
                          refine xr_iinc (k := 8) (lv' := [(7, .int (iI (tv + 1))), (6, .int (iI tv)), (8, .int (bB true)), (0, .ref hMo), (1, .int (iI v)), (2, .int (iI al)), (3, .int (iI byy)), (4, .int (iI lf2)), (5, .int (iI gv))]) E hl rfl dX6_shareYear_148 (by decide) rfl (fun ls hl => ?_)
                          refine xr_goto (tgt := 72) E dX6_shareYear_151 (by decide) ?_
                          exact ih_72_3 (k + 1) tv (tv + 1) (by omega) (by omega) (by first | exact sel_given hse0 htv.1 (by omega) | exact sel_first hse0 hv.1 htv.1 (by omega) c_107 | exact sel_more hse0 htv.1 (by omega) c_107 c_136 | exact sel_less hse0 htv.1 c_107 c_136) (by omega) _ _ _ hX (lv_sub hl [3, 4, 5, 6, 7, 8, 1, 0] rfl)
                        · have c_107 := c_107
                          have hii2 := H_M.ind (t := fs) (by omega) (by omega)
                          have hm2 := mul_bd (a := al) (b := now (1 + fs)) (A := 999) (B := 99) (by omega) (by omega) (by omega) (by omega)
                          have hr3 := Int.emod_nonneg (al * now (1 + fs)) (show byy ≠ 0 by omega)
                          have hr4 := Int.emod_lt_of_pos (al * now (1 + fs)) (show 0 < byy by omega)
                          refine xr_iload_n E hl 3 rfl dX6_shareYear_110 rfl ?_
                          refine xr_aload_n E hl 1 rfl dX6_shareYear_111 rfl ?_
                          refine xr_get E hX 0 rfl rfl ly_X6 0 (by decide) fl_X6_7 rfl dX6_shareYear_112 ?_
                          refine xr_iconst E dX6_shareYear_115 ?_
                          refine xr_iload E hl 8 rfl dX6_shareYear_116 ?_
                          refine xr_iadd E dX6_shareYear_118 ?_
                          refine xr_iald E hX 1 rfl (by omega) (by omega) (by decide) dX6_shareYear_119 ?_
                          refine xr_imul E dX6_shareYear_120 ?_
                          refine xr_iload_n E hl 4 rfl dX6_shareYear_121 rfl ?_
                          refine xr_irem E dX6_shareYear_122 ⟨by omega, by omega⟩ ⟨by omega, by omega⟩ (by omega) (by omega) ?_
                          refine xr_iload_n E hl 3 rfl dX6_shareYear_123 rfl ?_
                          refine xr_aload_n E hl 1 rfl dX6_shareYear_124 rfl ?_
                          refine xr_get E hX 0 rfl rfl ly_X6 0 (by decide) fl_X6_7 rfl dX6_shareYear_125 ?_
                          refine xr_iconst E dX6_shareYear_128 ?_
                          refine xr_iload E hl 7 rfl dX6_shareYear_129 ?_
                          refine xr_iadd E dX6_shareYear_131 ?_
                          refine xr_iald E hX 1 rfl (by omega) (by omega) (by decide) dX6_shareYear_132 ?_
                          refine xr_imul E dX6_shareYear_133 ?_
                          refine xr_iload_n E hl 4 rfl dX6_shareYear_134 rfl ?_
                          refine xr_irem E dX6_shareYear_135 ⟨by omega, by omega⟩ ⟨by omega, by omega⟩ (by omega) (by omega) ?_
                          refine xr_icmp_le (tgt := 144) E dX6_shareYear_136 (by decide) ⟨by omega, by omega⟩ ⟨by omega, by omega⟩ (fun c_136 => ?_) (fun c_136 => ?_)
                          · have c_136 := c_136
                            refine xr_iload E hl 7 rfl dX6_shareYear_144 ?_
                            refine xr_istore (lv' := [(6, .int (iI fs)), (8, .int (bB true)), (0, .ref hMo), (1, .int (iI v)), (2, .int (iI al)), (3, .int (iI byy)), (4, .int (iI lf2)), (5, .int (iI gv)), (7, .int (iI tv))]) E hl dX6_shareYear_146 (by decide) rfl (fun ls hl => ?_)
                            refine xr_iinc (k := 8) (lv' := [(7, .int (iI (tv + 1))), (6, .int (iI fs)), (8, .int (bB true)), (0, .ref hMo), (1, .int (iI v)), (2, .int (iI al)), (3, .int (iI byy)), (4, .int (iI lf2)), (5, .int (iI gv))]) E hl rfl dX6_shareYear_148 (by decide) rfl (fun ls hl => ?_)
                            refine xr_goto (tgt := 72) E dX6_shareYear_151 (by decide) ?_
                            exact ih_72_3 (k + 1) fs (tv + 1) (by omega) (by omega) (by first | exact sel_given hse0 htv.1 (by omega) | exact sel_first hse0 hv.1 htv.1 (by omega) c_107 | exact sel_more hse0 htv.1 (by omega) c_107 c_136 | exact sel_less hse0 htv.1 c_107 c_136) (by omega) _ _ _ hX (lv_sub hl [3, 4, 5, 6, 7, 8, 1, 0] rfl)
                          · have c_136 := c_136
                            refine xr_iload E hl 8 rfl dX6_shareYear_139 ?_
                            refine xr_goto (tgt := 146) E dX6_shareYear_141 (by decide) ?_
                            refine xr_istore (lv' := [(6, .int (iI tv)), (8, .int (bB true)), (0, .ref hMo), (1, .int (iI v)), (2, .int (iI al)), (3, .int (iI byy)), (4, .int (iI lf2)), (5, .int (iI gv)), (7, .int (iI tv))]) E hl dX6_shareYear_146 (by decide) rfl (fun ls hl => ?_)
                            refine xr_iinc (k := 8) (lv' := [(7, .int (iI (tv + 1))), (6, .int (iI tv)), (8, .int (bB true)), (0, .ref hMo), (1, .int (iI v)), (2, .int (iI al)), (3, .int (iI byy)), (4, .int (iI lf2)), (5, .int (iI gv))]) E hl rfl dX6_shareYear_148 (by decide) rfl (fun ls hl => ?_)
                            refine xr_goto (tgt := 72) E dX6_shareYear_151 (by decide) ?_
                            exact ih_72_3 (k + 1) tv (tv + 1) (by omega) (by omega) (by first | exact sel_given hse0 htv.1 (by omega) | exact sel_first hse0 hv.1 htv.1 (by omega) c_107 | exact sel_more hse0 htv.1 (by omega) c_107 c_136 | exact sel_less hse0 htv.1 c_107 c_136) (by omega) _ _ _ hX (lv_sub hl [3, 4, 5, 6, 7, 8, 1, 0] rfl)
              exact L_72_3 _ 0 (-1) (4 * v) (Nat.lt_succ_self _) (by omega) sel_0 (by omega) _ _ _ hX (lv_sub hl [2, 3, 4, 5, 6, 7, 1, 0] rfl)
        exact L_59_2 _ 0 lf 0 shx1 (Nat.lt_succ_self _) (by decide) (by unfold gB; rw [Nat.zero_mul]; rfl) (by rw [show gN 0 = 0 by unfold gN; rw [gI_z, gI_z, gI_z, gI_z]; rfl, hlf, show n = 4 by omega]; omega) (Or.inl rfl) (by omega) gCl_0 (by rw [hs1, show n = 4 by omega]; congr 1; funext wt; rw [gI_z]; omega) _ _ _ hX (lv_sub hl [1, 2, 3, 4, 5, 0] rfl)
      · have c_15 := c_15
        have hii := H_M.ind (t := t) (by omega) (by omega)
        have hm := mul_bd (a := al) (b := now (1 + t)) (A := 999) (B := 99) (by omega) (by omega) (by omega) (by omega)
        have hd0 := Int.ediv_nonneg hm.1 (show 0 ≤ byy by omega)
        have hle := sumI_part (f := mI now) (a := 4 * v) (n := 4) (fun j j0 j1 => (H_M.ind (t := 4 * v + j) (by omega) (by omega)).1) (j := n) (by omega) (by omega)
        rw [← ht.1, ← hS4] at hle
        have emi : mI now t = now (1 + t) := rfl
        have hd1 := Int.ediv_le_ediv (show 0 < byy by omega) (Int.mul_le_mul_of_nonneg_left (show now (1 + t) ≤ byy by omega) (show 0 ≤ al by omega))
        rw [Int.mul_ediv_cancel _ (show byy ≠ 0 by omega)] at hd1
        refine xr_aload_n E hl 0 rfl dX6_shareYear_18 rfl ?_
        refine xr_get E hX 0 rfl rfl ly_X6 18 (by decide) fl_X6_44 rfl dX6_shareYear_19 ?_
        refine xr_iload E hl 5 rfl dX6_shareYear_22 ?_
        refine xr_iload_n E hl 2 rfl dX6_shareYear_24 rfl ?_
        refine xr_aload_n E hl 0 rfl dX6_shareYear_25 rfl ?_
        refine xr_get E hX 0 rfl rfl ly_X6 0 (by decide) fl_X6_7 rfl dX6_shareYear_26 ?_
        refine xr_iconst E dX6_shareYear_29 ?_
        refine xr_iload E hl 5 rfl dX6_shareYear_30 ?_
        refine xr_iadd E dX6_shareYear_32 ?_
        refine xr_iald E hX 1 rfl (by omega) (by omega) (by decide) dX6_shareYear_33 ?_
        refine xr_imul E dX6_shareYear_34 ?_
        refine xr_iload_n E hl 3 rfl dX6_shareYear_35 rfl ?_
        refine xr_idiv E dX6_shareYear_36 ⟨by omega, by omega⟩ ⟨by omega, by omega⟩ (by omega) (by omega) ?_
        refine xr_iast (W1 := (W_Msh y hMo a_now a_asd a_pst a_mrf a_txt a_olt a_ofr a_nbs a_best a_wys a_rwx a_shx a_bef now msts mbyt mord alw bco alm abt (up shx1 t ((al * (now (1 + t))) / byy)) mlt beg figm)) E hX 2 rfl (by omega) (by omega) (by decide) rfl dX6_shareYear_37 (fun H locs hX => ?_)
        have e1 : up shx1 t (al * now (1 + t) / byy) t = al * now (1 + t) / byy := up_same _ _ _
        refine xr_iload E hl 4 rfl dX6_shareYear_38 ?_
        refine xr_aload_n E hl 0 rfl dX6_shareYear_40 rfl ?_
        refine xr_get E hX 0 rfl rfl ly_X6 18 (by decide) fl_X6_44 rfl dX6_shareYear_41 ?_
        refine xr_iload E hl 5 rfl dX6_shareYear_44 ?_
        refine xr_iald E hX 2 rfl (by omega) (by omega) (by decide) dX6_shareYear_46 ?_
        refine xr_isub E dX6_shareYear_47 ?_
        refine xr_istore (lv' := [(4, .int (iI (lf - ((up shx1 t ((al * (now (1 + t))) / byy)) t)))), (0, .ref hMo), (1, .int (iI v)), (2, .int (iI al)), (3, .int (iI byy)), (5, .int (iI t))]) E hl dX6_shareYear_48 (by decide) rfl (fun ls hl => ?_)
        refine xr_iinc (k := 5) (lv' := [(5, .int (iI (t + 1))), (4, .int (iI (lf - ((up shx1 t ((al * (now (1 + t))) / byy)) t)))), (0, .ref hMo), (1, .int (iI v)), (2, .int (iI al)), (3, .int (iI byy))]) E hl rfl dX6_shareYear_50 (by decide) rfl (fun ls hl => ?_)
        refine xr_goto (tgt := 8) E dX6_shareYear_53 (by decide) ?_
        exact ih_8_1 (n + 1) (lf - ((up shx1 t ((al * (now (1 + t))) / byy)) t)) (t + 1) (up shx1 t ((al * (now (1 + t))) / byy)) (by omega) (by omega) (by rw [sumI_s, ← ht.1, e1]; show _ = al - (_ + al * now (1 + t) / byy); omega) (by rw [e1]; omega) (by rw [hs1]; rw [ht.1]; exact fillR_up _ _ _ _ _ (by omega) rfl) _ _ _ hX (lv_sub hl [2, 3, 4, 5, 1, 0] rfl)
  exact L_8_1 _ 0 al (4 * v) shx (Nat.lt_succ_self _) (by omega) (by rw [sumI_0]; omega) (by omega) (fillR_0 _ _ _).symm _ _ _ hX (lv_sub hl [2, 3, 4, 5, 1, 0] rfl)
abbrev rm_X6_shareOut : Room := { frames := 1, cells := 0, slots := 0, locals := 28 }
set_option maxHeartbeats 4000000 in
set_option maxRecDepth 100000 in
theorem c_X6_shareOut (l : Launch) (D : va_G) (y : CY) (z sz : Nat) (hMo a_now a_asd a_pst a_mrf a_txt a_olt a_ofr a_nbs a_best a_wys a_rwx a_shx a_bef : Nat) (now : Int → Int) (msts : Int) (mbyt : Int) (mord : Int) (alw : Int) (bco : Int) (alm : Int) (abt : Int) (shx : Int → Int) (mlt : Int) (beg : Int) (figm : Int) (H_M : FM now) : Met l yX6_shareOut (Cond.code yX6_shareOut cX6_shareOut 2 none :: TW) rm_X6_shareOut (va_Pc [.ref hMo] (PX D y z (W_Msh y hMo a_now a_asd a_pst a_mrf a_txt a_olt a_ofr a_nbs a_best a_wys a_rwx a_shx a_bef now msts mbyt mord alw bco alm abt shx mlt beg figm) sz)) (va_Qv (fun (uu : (Int → Int)) => (∀ t : Int, 0 ≤ t → t < now 0 → uu t = xShare (mI now) (mT now) (now 0) t)) (fun uu t => BX D (W_Msh y hMo a_now a_asd a_pst a_mrf a_txt a_olt a_ofr a_nbs a_best a_wys a_rwx a_shx a_bef now msts mbyt mord alw bco alm abt uu mlt beg figm) (va_A (W_Msh y hMo a_now a_asd a_pst a_mrf a_txt a_olt a_ofr a_nbs a_best a_wys a_rwx a_shx a_bef now msts mbyt mord alw bco alm abt shx mlt beg figm) sz) t) (va_A (W_Msh y hMo a_now a_asd a_pst a_mrf a_txt a_olt a_ofr a_nbs a_best a_wys a_rwx a_shx a_bef now msts mbyt mord alw bco alm abt shx mlt beg figm) sz)) 0 0 (va_A (W_Msh y hMo a_now a_asd a_pst a_mrf a_txt a_olt a_ofr a_nbs a_best a_wys a_rwx a_shx a_bef now msts mbyt mord alw bco alm abt shx mlt beg figm) sz) := by
  refine xm_v (by decide) (Nat.le_of_ble_eq_true rfl) (fun p e s m args below meth cX ls A Q E hr hnm hX hl hQ => ?_)
  have hl : lv_has ls 2 [(0, .ref hMo)] := hl
  have hq := H_M.q
  have hfr := H_M.fr
  have hli := H_M.li
  have hsh := H_M.sh
  refine xr_iconst E dX6_shareOut_0 ?_
  refine xr_istore_n (lv' := [(1, .int (iI 0)), (0, .ref hMo)]) E hl dX6_shareOut_1 rfl (by decide) rfl (fun ls hl => ?_)
  have L_2_1 : ∀ (nmu : Nat) (n : Nat) (t : Int) (shx1 : Int → Int), 12 - n < nmu → (t = n ∧ t ≤ now 0) → (shx1 = fillR shx 0 n (mI now)) → ∀ (H : Heap) (locs : List Loc) (ls : Array Slot), XW D A s.heap (W_Msh y hMo a_now a_asd a_pst a_mrf a_txt a_olt a_ofr a_nbs a_best a_wys a_rwx a_shx a_bef now msts mbyt mord alw bco alm abt shx1 mlt beg figm) H locs → lv_has ls 2 [(0, .ref hMo), (1, .int (iI t))] → W p l e rm_X6_shareOut s m args below meth cX H locs 0 0 Q (F0 m 2 ls []) := by
    intro nmu
    induction nmu with
    | zero =>
      intro n t shx1 hmu
      exact absurd hmu (Nat.not_lt_zero _)
    | succ nmu ih =>
      intro n t shx1 hmu ht hs1 H locs ls hX hl
      have ih_2_1 := ih
      clear ih
      refine xr_iload_n E hl 1 rfl dX6_shareOut_2 rfl ?_
      refine xr_aload_n E hl 0 rfl dX6_shareOut_3 rfl ?_
      refine xr_get E hX 0 rfl rfl ly_X6 0 (by decide) fl_X6_7 rfl dX6_shareOut_4 ?_
      refine xr_iconst E dX6_shareOut_7 ?_
      refine xr_iald E hX 1 rfl (by omega) (by omega) (by decide) dX6_shareOut_8 ?_
      refine xr_icmp_ge (tgt := 32) E dX6_shareOut_9 (by decide) ⟨by omega, by omega⟩ ⟨by omega, by omega⟩ (fun c_9 => ?_) (fun c_9 => ?_)
      · have c_9 := c_9
        refine xr_iconst E dX6_shareOut_32 ?_
        refine xr_istore_n (lv' := [(1, .int (iI 0)), (0, .ref hMo)]) E hl dX6_shareOut_33 rfl (by decide) rfl (fun ls hl => ?_)
        have L_34_2 : ∀ (nmu : Nat) (k : Nat) (v : Int) (shx2 : Int → Int), 3 - k < nmu → (v = k ∧ v ≤ 3) → (∀ t : Int, 0 ≤ t → t < now 0 → shx2 t = if t < 4 * v then xShare (mI now) (mT now) (now 0) t else mI now t) → ∀ (H : Heap) (locs : List Loc) (ls : Array Slot), XW D A s.heap (W_Msh y hMo a_now a_asd a_pst a_mrf a_txt a_olt a_ofr a_nbs a_best a_wys a_rwx a_shx a_bef now msts mbyt mord alw bco alm abt shx2 mlt beg figm) H locs → lv_has ls 2 [(0, .ref hMo), (1, .int (iI v))] → W p l e rm_X6_shareOut s m args below meth cX H locs 0 0 Q (F0 m 34 ls []) := by
          intro nmu
          induction nmu with
          | zero =>
            intro k v shx2 hmu
            exact absurd hmu (Nat.not_lt_zero _)
          | succ nmu ih =>
            intro k v shx2 hmu hv hs2 H locs ls hX hl
            have ih_34_2 := ih
            clear ih
            refine xr_iload_n E hl 1 rfl dX6_shareOut_34 rfl ?_
            refine xr_iconst E dX6_shareOut_35 ?_
            refine xr_icmp_ge (tgt := 77) E dX6_shareOut_36 (by decide) ⟨by omega, by omega⟩ (by decide) (fun c_36 => ?_) (fun c_36 => ?_)
            · have c_36 := c_36
              exact xr_vret E hX hQ shx2 hr (fun t h0 h1 => by rw [hs2 t h0 h1, if_pos (by omega)]) rfl dX6_shareOut_77
            · have c_36 := c_36
              have htt := H_M.tot (v := v) (by omega) (by omega)
              refine xr_aload_n E hl 0 rfl dX6_shareOut_39 rfl ?_
              refine xr_get E hX 0 rfl rfl ly_X6 0 (by decide) fl_X6_7 rfl dX6_shareOut_40 ?_
              refine xr_bipush E dX6_shareOut_43 (by decide) ?_
              refine xr_iload_n E hl 1 rfl dX6_shareOut_45 rfl ?_
              refine xr_iadd E dX6_shareOut_46 ?_
              refine xr_iald E hX 1 rfl (by omega) (by omega) (by decide) dX6_shareOut_47 ?_
              refine xr_iconst E dX6_shareOut_48 ?_
              refine xr_icmp_eq (tgt := 71) E dX6_shareOut_49 (by decide) ⟨by omega, by omega⟩ (by decide) (fun c_49 => ?_) (fun c_49 => ?_)
              · have c_49 := c_49
                refine xr_iinc (k := 1) (lv' := [(1, .int (iI (v + 1))), (0, .ref hMo)]) E hl rfl dX6_shareOut_71 (by decide) rfl (fun ls hl => ?_)
                refine xr_goto (tgt := 34) E dX6_shareOut_74 (by decide) ?_
                exact ih_34_2 (k + 1) (v + 1) shx2 (by omega) (by omega) (by first | exact so_year hs2 | exact so_none (by omega) hs2 c_49) _ _ _ hX (lv_sub hl [1, 0] rfl)
              · have c_49 := c_49
                refine xr_aload_n E hl 0 rfl dX6_shareOut_52 rfl ?_
                refine xr_iload_n E hl 1 rfl dX6_shareOut_53 rfl ?_
                refine xr_aload_n E hl 0 rfl dX6_shareOut_54 rfl ?_
                refine xr_get E hX 0 rfl rfl ly_X6 0 (by decide) fl_X6_7 rfl dX6_shareOut_55 ?_
                refine xr_bipush E dX6_shareOut_58 (by decide) ?_
                refine xr_iload_n E hl 1 rfl dX6_shareOut_60 rfl ?_
                refine xr_iadd E dX6_shareOut_61 ?_
                refine xr_iald E hX 1 rfl (by omega) (by omega) (by decide) dX6_shareOut_62 ?_
                refine xr_aload_n E hl 0 rfl dX6_shareOut_63 rfl ?_
                refine xr_iload_n E hl 1 rfl dX6_shareOut_64 rfl ?_
                refine xk_ri E hX [0, 1] rfl (xv_V (As := [.int (iI v)]) E hX hl (c_X6_together l D y z _ hMo a_now a_asd a_pst a_mrf a_txt a_olt a_ofr a_nbs a_best a_wys a_rwx a_shx a_bef now msts mbyt mord alw bco alm abt mlt beg figm v H_M (by omega)) ml_X6_130 im_X6_together se_X6_together in_X6 co_X6_together 1 (by decide) ⟨rfl, rfl⟩ ⟨Nat.le_of_ble_eq_true rfl, Nat.le_of_ble_eq_true rfl⟩ [0, 1] rfl rfl 0 rfl rfl rfl rfl rfl (Nat.le_of_ble_eq_true rfl) dX6_shareOut_65 ⟨Nat.le_refl _, Nat.le_refl _⟩) (fun r_65 H locs hw hX => ?_)
                subst hw
                refine xk_v (W2 := fun uu => (W_Msh y hMo a_now a_asd a_pst a_mrf a_txt a_olt a_ofr a_nbs a_best a_wys a_rwx a_shx a_bef now msts mbyt mord alw bco alm abt uu mlt beg figm)) E hX [0, 1, 2] rfl (xv_V (As := [.int (iI v), .int (iI (now (13 + v))), .int (iI (xInd (mI now) (now 0) v))]) E hX hl (c_X6_shareYear l D y z _ hMo a_now a_asd a_pst a_mrf a_txt a_olt a_ofr a_nbs a_best a_wys a_rwx a_shx a_bef now msts mbyt mord alw bco alm abt shx2 mlt beg figm v (now (13 + v)) (xInd (mI now) (now 0) v) H_M (by omega) rfl c_49 rfl) ml_X6_201 im_X6_shareYear se_X6_shareYear in_X6 co_X6_shareYear 3 (by decide) ⟨rfl, rfl⟩ ⟨Nat.le_of_ble_eq_true rfl, Nat.le_of_ble_eq_true rfl⟩ [0, 1, 2] rfl rfl 0 rfl rfl rfl rfl rfl (Nat.le_of_ble_eq_true rfl) dX6_shareOut_68 ⟨Nat.le_refl _, Nat.le_refl _⟩) [0, 1, 2] 3 (fun _ => rfl) (fun _ => rfl) (by decide) (by decide) (fun uu H locs hw hX => ?_)
                subst hw
                have hX : XW D A s.heap (W_Msh y hMo a_now a_asd a_pst a_mrf a_txt a_olt a_ofr a_nbs a_best a_wys a_rwx a_shx a_bef now msts mbyt mord alw bco alm abt (fillR shx2 (4 * v) 4 (fun wt => xShare (mI now) (mT now) (now 0) wt)) mlt beg figm) H locs := hX
                refine xr_iinc (k := 1) (lv' := [(1, .int (iI (v + 1))), (0, .ref hMo)]) E hl rfl dX6_shareOut_71 (by decide) rfl (fun ls hl => ?_)
                refine xr_goto (tgt := 34) E dX6_shareOut_74 (by decide) ?_
                exact ih_34_2 (k + 1) (v + 1) (fillR shx2 (4 * v) 4 (fun wt => xShare (mI now) (mT now) (now 0) wt)) (by omega) (by omega) (by first | exact so_year hs2 | exact so_none (by omega) hs2 c_49) _ _ _ hX (lv_sub hl [1, 0] rfl)
        exact L_34_2 _ 0 0 shx1 (Nat.lt_succ_self _) (by omega) (fun t h0 h1 => by rw [if_neg (by omega), hs1, fillR_in h0 (by omega)]) _ _ _ hX (lv_sub hl [1, 0] rfl)
      · have c_9 := c_9
        refine xr_aload_n E hl 0 rfl dX6_shareOut_12 rfl ?_
        refine xr_get E hX 0 rfl rfl ly_X6 18 (by decide) fl_X6_44 rfl dX6_shareOut_13 ?_
        refine xr_iload_n E hl 1 rfl dX6_shareOut_16 rfl ?_
        refine xr_aload_n E hl 0 rfl dX6_shareOut_17 rfl ?_
        refine xr_get E hX 0 rfl rfl ly_X6 0 (by decide) fl_X6_7 rfl dX6_shareOut_18 ?_
        refine xr_iconst E dX6_shareOut_21 ?_
        refine xr_iload_n E hl 1 rfl dX6_shareOut_22 rfl ?_
        refine xr_iadd E dX6_shareOut_23 ?_
        refine xr_iald E hX 1 rfl (by omega) (by omega) (by decide) dX6_shareOut_24 ?_
        refine xr_iast (W1 := (W_Msh y hMo a_now a_asd a_pst a_mrf a_txt a_olt a_ofr a_nbs a_best a_wys a_rwx a_shx a_bef now msts mbyt mord alw bco alm abt (up shx1 t (now (1 + t))) mlt beg figm)) E hX 2 rfl (by omega) (by omega) (by decide) rfl dX6_shareOut_25 (fun H locs hX => ?_)
        refine xr_iinc (k := 1) (lv' := [(1, .int (iI (t + 1))), (0, .ref hMo)]) E hl rfl dX6_shareOut_26 (by decide) rfl (fun ls hl => ?_)
        refine xr_goto (tgt := 2) E dX6_shareOut_29 (by decide) ?_
        exact ih_2_1 (n + 1) (t + 1) (up shx1 t (now (1 + t))) (by omega) (by omega) (by rw [hs1]; exact fillR_upN ht.1 rfl) _ _ _ hX (lv_sub hl [1, 0] rfl)
  exact L_2_1 _ 0 0 shx (Nat.lt_succ_self _) (by omega) (fillR_0 _ _ _).symm _ _ _ hX (lv_sub hl [1, 0] rfl)
abbrev rm_X6_shared : Room := { frames := 2, cells := 0, slots := 0, locals := 49 }
set_option maxHeartbeats 4000000 in
set_option maxRecDepth 100000 in
theorem c_X6_shared (l : Launch) (D : va_G) (y : CY) (z sz : Nat) (hMo a_now a_asd a_pst a_mrf a_txt a_olt a_ofr a_nbs a_best a_wys a_rwx a_shx a_bef : Nat) (now : Int → Int) (msts : Int) (mrf : Int → Int) (mbyt : Int) (mord : Int) (alw : Int) (bco : Int) (alm : Int) (abt : Int) (shx : Int → Int) (mlt : Int) (beg : Int) (figm : Int) (t : Int) (H_M : FM now) (ht : sm t) : Met l yX6_shared (Cond.code yX6_shared cX6_shared 2 (some .int) :: TW) rm_X6_shared (va_Pc [.ref hMo, .int (iI t)] (PX D y z (W_Mshr y hMo a_now a_asd a_pst a_mrf a_txt a_olt a_ofr a_nbs a_best a_wys a_rwx a_shx a_bef now msts mrf mbyt mord alw bco alm abt shx mlt beg figm) sz)) (va_Qi (fun (r : Int32) (uu : (Int → Int) × (Int → Int)) => r = iI (xqSh (mI now) (mT now) (now 0) t) ∧ uu.2 = rqSh mrf (now 0) t) (fun uu t => BX D (W_Mshr y hMo a_now a_asd a_pst a_mrf a_txt a_olt a_ofr a_nbs a_best a_wys a_rwx a_shx a_bef now msts uu.2 mbyt mord alw bco alm abt uu.1 mlt beg figm) (va_A (W_Mshr y hMo a_now a_asd a_pst a_mrf a_txt a_olt a_ofr a_nbs a_best a_wys a_rwx a_shx a_bef now msts mrf mbyt mord alw bco alm abt shx mlt beg figm) sz) t) (va_A (W_Mshr y hMo a_now a_asd a_pst a_mrf a_txt a_olt a_ofr a_nbs a_best a_wys a_rwx a_shx a_bef now msts mrf mbyt mord alw bco alm abt shx mlt beg figm) sz)) 0 0 (va_A (W_Mshr y hMo a_now a_asd a_pst a_mrf a_txt a_olt a_ofr a_nbs a_best a_wys a_rwx a_shx a_bef now msts mrf mbyt mord alw bco alm abt shx mlt beg figm) sz) := by
  refine xm_i (by decide) (Nat.le_of_ble_eq_true rfl) (fun p e s m args below meth cX ls A Q E hr hnm hX hl hQ => ?_)
  have hl : lv_has ls 2 [(0, .ref hMo), (1, .int (iI t))] := hl
  have hq := H_M.q
  have hfr := H_M.fr
  have hli := H_M.li
  have hsh := H_M.sh
  refine xr_aload_n E hl 0 rfl dX6_shared_0 rfl ?_
  refine xr_iload_n E hl 1 rfl dX6_shared_1 rfl ?_
  refine xk_ri E hX [0, 1] rfl (xv_V (As := [.int (iI t)]) E hX hl (c_X6_isQuarter l D y z _ hMo a_now a_asd a_pst a_mrf a_txt a_olt a_ofr a_nbs a_best a_wys a_rwx a_shx a_bef now msts mbyt mord alw bco alm abt mlt beg figm t ⟨by omega, by omega⟩ (by omega)) ml_X6_70 im_X6_isQuarter se_X6_isQuarter in_X6 co_X6_isQuarter 1 (by decide) ⟨rfl, rfl⟩ ⟨Nat.le_of_ble_eq_true rfl, Nat.le_of_ble_eq_true rfl⟩ [0, 1] rfl rfl 0 rfl rfl rfl rfl rfl (Nat.le_of_ble_eq_true rfl) dX6_shared_2 ⟨Nat.le_refl _, Nat.le_refl _⟩) (fun r_2 H locs hw hX => ?_)
  subst hw
  refine xr_if_neB (tgt := 15) E dX6_shared_5 (by decide) (fun c_5 => ?_) (fun c_5 => ?_)
  · have c_5 := of_decide_eq_true c_5
    refine xr_aload_n E hl 0 rfl dX6_shared_15 rfl ?_
    refine xk_v (W2 := fun uu => (W_Mshr y hMo a_now a_asd a_pst a_mrf a_txt a_olt a_ofr a_nbs a_best a_wys a_rwx a_shx a_bef now msts mrf mbyt mord alw bco alm abt uu mlt beg figm)) E hX [0, 1, 3] rfl (xv_V (As := []) E hX hl (c_X6_shareOut l D y z _ hMo a_now a_asd a_pst a_mrf a_txt a_olt a_ofr a_nbs a_best a_wys a_rwx a_shx a_bef now msts mbyt mord alw bco alm abt shx mlt beg figm H_M) ml_X6_204 im_X6_shareOut se_X6_shareOut in_X6 co_X6_shareOut 0 (by decide) ⟨rfl, rfl⟩ ⟨Nat.le_of_ble_eq_true rfl, Nat.le_of_ble_eq_true rfl⟩ [0, 1, 3] rfl rfl 0 rfl rfl rfl rfl rfl (Nat.le_of_ble_eq_true rfl) dX6_shared_16 ⟨Nat.le_refl _, Nat.le_refl _⟩) [0, 1, 5, 2] 3 (fun _ => rfl) (fun _ => rfl) (by decide) (by decide) (fun uu H locs hw hX => ?_)
    obtain ⟨shx_16, rfl⟩ : ∃ q, q = uu := ⟨_, rfl⟩
    have hX : XW D A s.heap (W_Mshr y hMo a_now a_asd a_pst a_mrf a_txt a_olt a_ofr a_nbs a_best a_wys a_rwx a_shx a_bef now msts mrf mbyt mord alw bco alm abt shx_16 mlt beg figm) H locs := hX
    try dsimp only at hw
    have hp_16 := hw
    refine xr_aload_n E hl 0 rfl dX6_shared_19 rfl ?_
    refine xr_get E hX 0 rfl rfl ly_X6 18 (by decide) fl_X6_44 rfl dX6_shared_20 ?_
    refine xr_iload_n E hl 1 rfl dX6_shared_23 rfl ?_
    refine xr_iald E hX 3 rfl (by omega) (by omega) (by decide) dX6_shared_24 ?_
    exact xr_iret E hX hQ (shx_16, mrf) hr ⟨by unfold xqSh; rw [if_pos (by omega), hp_16 t (by omega) (by omega)], by unfold rqSh; rw [if_pos (by omega)]⟩ rfl dX6_shared_25
  · have c_5 := of_decide_eq_false c_5
    refine xr_aload_n E hl 0 rfl dX6_shared_8 rfl ?_
    refine xr_bipush E dX6_shared_9 (by decide) ?_
    refine xk_i (W2 := fun uu => (W_Mshr y hMo a_now a_asd a_pst a_mrf a_txt a_olt a_ofr a_nbs a_best a_wys a_rwx a_shx a_bef now msts uu mbyt mord alw bco alm abt shx mlt beg figm)) E hX [0, 2] rfl (xv_V (As := [.int (iI (-2))]) E hX hl (c_X6_refuse l D y z _ hMo a_now a_asd a_pst a_mrf a_txt a_olt a_ofr a_nbs a_best a_wys a_rwx a_shx a_bef msts mrf mbyt mord alw bco alm abt mlt beg figm (-2) (by omega)) ml_X6_54 im_X6_refuse se_X6_refuse in_X6 co_X6_refuse 1 (by decide) ⟨rfl, rfl⟩ ⟨Nat.le_of_ble_eq_true rfl, Nat.le_of_ble_eq_true rfl⟩ [0, 2] rfl rfl 0 rfl rfl rfl rfl rfl (Nat.le_of_ble_eq_true rfl) dX6_shared_11 ⟨Nat.le_refl _, Nat.le_refl _⟩) [0, 3, 1, 5] 2 (fun _ => rfl) (fun _ => rfl) (by decide) (by decide) (fun r_11 uu H locs hw hX => ?_)
    obtain ⟨rfl, rfl⟩ := hw
    have hX : XW D A s.heap (W_Mshr y hMo a_now a_asd a_pst a_mrf a_txt a_olt a_ofr a_nbs a_best a_wys a_rwx a_shx a_bef now msts (rfU mrf (-2)) mbyt mord alw bco alm abt shx mlt beg figm) H locs := hX
    exact xr_iret E hX hQ (shx, rfU mrf (-2)) hr ⟨by unfold xqSh; rw [if_neg (by omega)], by unfold rqSh; rw [if_neg (by omega)]⟩ rfl dX6_shared_14
abbrev rm_X6_stepped : Room := { frames := 2, cells := 0, slots := 0, locals := 49 }
set_option maxHeartbeats 4000000 in
set_option maxRecDepth 100000 in
theorem c_X6_stepped (l : Launch) (D : va_G) (y : CY) (z sz : Nat) (hMo a_now a_asd a_pst a_mrf a_txt a_olt a_ofr a_nbs a_best a_wys a_rwx a_shx a_bef : Nat) (now : Int → Int) (msts : Int) (mrf : Int → Int) (mbyt : Int) (mord : Int) (alw : Int) (bco : Int) (alm : Int) (abt : Int) (shx : Int → Int) (mlt : Int) (beg : Int) (figm : Int) (k : Int) (H_M : FM now) (hk : sm k) : Met l yX6_stepped (Cond.code yX6_stepped cX6_stepped 2 (some .long) :: TW) rm_X6_stepped (va_Pc [.ref hMo, .int (iI k)] (PX D y z (W_Mshr y hMo a_now a_asd a_pst a_mrf a_txt a_olt a_ofr a_nbs a_best a_wys a_rwx a_shx a_bef now msts mrf mbyt mord alw bco alm abt shx mlt beg figm) sz)) (va_Ql (fun (r : Int64) (uu : (Int → Int) × (Int → Int)) => r = lI (xqSt (mI now) (mT now) (now 0) k) ∧ uu.2 = rqSt mrf k) (fun uu t => BX D (W_Mshr y hMo a_now a_asd a_pst a_mrf a_txt a_olt a_ofr a_nbs a_best a_wys a_rwx a_shx a_bef now msts uu.2 mbyt mord alw bco alm abt uu.1 mlt beg figm) (va_A (W_Mshr y hMo a_now a_asd a_pst a_mrf a_txt a_olt a_ofr a_nbs a_best a_wys a_rwx a_shx a_bef now msts mrf mbyt mord alw bco alm abt shx mlt beg figm) sz) t) (va_A (W_Mshr y hMo a_now a_asd a_pst a_mrf a_txt a_olt a_ofr a_nbs a_best a_wys a_rwx a_shx a_bef now msts mrf mbyt mord alw bco alm abt shx mlt beg figm) sz)) 0 0 (va_A (W_Mshr y hMo a_now a_asd a_pst a_mrf a_txt a_olt a_ofr a_nbs a_best a_wys a_rwx a_shx a_bef now msts mrf mbyt mord alw bco alm abt shx mlt beg figm) sz) := by
  refine xm_l (by decide) (Nat.le_of_ble_eq_true rfl) (fun p e s m args below meth cX ls A Q E hr hnm hX hl hQ => ?_)
  have hl : lv_has ls 2 [(0, .ref hMo), (1, .int (iI k))] := hl
  have hq := H_M.q
  have hfr := H_M.fr
  have hli := H_M.li
  have hsh := H_M.sh
  refine xr_iload_n E hl 1 rfl dX6_stepped_0 rfl ?_
  refine xr_i2l E dX6_stepped_1 ⟨by omega, by omega⟩ ?_
  refine xr_lconst (v := 0) E dX6_stepped_2 (by decide) ?_
  refine xr_lconst (v := 1) E dX6_stepped_3 (by decide) ?_
  refine xk_ri E hX [] rfl (xv_S (As := [.long (lI k), .long (lI 0), .long (lI 1)]) E hX hl (c_X6_in l D y z _ k 0 1 ⟨by omega, by omega⟩ ⟨by omega, by omega⟩ ⟨by omega, by omega⟩) ml_X6_62 st_X6_in in_X6 co_X6_in 3 (by decide) ⟨rfl, rfl⟩ ⟨Nat.le_of_ble_eq_true rfl, Nat.le_of_ble_eq_true rfl⟩ [] rfl rfl rfl rfl (Nat.le_of_ble_eq_true rfl) dX6_stepped_4 ⟨Nat.le_refl _, Nat.le_refl _⟩) (fun r_4 H locs hw hX => ?_)
  subst hw
  refine xr_if_neB (tgt := 18) E dX6_stepped_7 (by decide) (fun c_7 => ?_) (fun c_7 => ?_)
  · have c_7 := of_decide_eq_true c_7
    refine xr_aload_n E hl 0 rfl dX6_stepped_18 rfl ?_
    refine xk_v (W2 := fun uu => (W_Mshr y hMo a_now a_asd a_pst a_mrf a_txt a_olt a_ofr a_nbs a_best a_wys a_rwx a_shx a_bef now msts mrf mbyt mord alw bco alm abt uu mlt beg figm)) E hX [0, 1, 3] rfl (xv_V (As := []) E hX hl (c_X6_shareOut l D y z _ hMo a_now a_asd a_pst a_mrf a_txt a_olt a_ofr a_nbs a_best a_wys a_rwx a_shx a_bef now msts mbyt mord alw bco alm abt shx mlt beg figm H_M) ml_X6_204 im_X6_shareOut se_X6_shareOut in_X6 co_X6_shareOut 0 (by decide) ⟨rfl, rfl⟩ ⟨Nat.le_of_ble_eq_true rfl, Nat.le_of_ble_eq_true rfl⟩ [0, 1, 3] rfl rfl 0 rfl rfl rfl rfl rfl (Nat.le_of_ble_eq_true rfl) dX6_stepped_19 ⟨Nat.le_refl _, Nat.le_refl _⟩) [0, 1, 5, 2] 3 (fun _ => rfl) (fun _ => rfl) (by decide) (by decide) (fun uu H locs hw hX => ?_)
    obtain ⟨shx_19, rfl⟩ : ∃ q, q = uu := ⟨_, rfl⟩
    have hX : XW D A s.heap (W_Mshr y hMo a_now a_asd a_pst a_mrf a_txt a_olt a_ofr a_nbs a_best a_wys a_rwx a_shx a_bef now msts mrf mbyt mord alw bco alm abt shx_19 mlt beg figm) H locs := hX
    try dsimp only at hw
    have hp_19 := hw
    refine xr_aload_n E hl 0 rfl dX6_stepped_22 rfl ?_
    refine xr_iload_n E hl 1 rfl dX6_stepped_23 rfl ?_
    refine xr_aload_n E hl 0 rfl dX6_stepped_24 rfl ?_
    refine xr_get E hX 0 rfl rfl ly_X6 18 (by decide) fl_X6_44 rfl dX6_stepped_25 ?_
    refine xk_rl E hX [0, 1, 3] rfl (xv_V (As := [.int (iI k), .ref a_shx]) E hX hl (c_X6_movedBy l D y z _ hMo a_now a_asd a_pst a_mrf a_txt a_olt a_ofr a_nbs a_best a_wys a_rwx a_shx a_bef a_shx now msts mbyt mord alw bco alm abt mlt beg figm shx_19 k H_M (fun t h0 h1 => by have h9 := xShare_bd H_M h0 h1; rw [hp_19 t h0 h1]; exact h9) ⟨by omega, by omega⟩) ml_X6_194 im_X6_movedBy se_X6_movedBy in_X6 co_X6_movedBy 2 (by decide) ⟨rfl, rfl⟩ ⟨Nat.le_of_ble_eq_true rfl, Nat.le_of_ble_eq_true rfl⟩ [0, 1, 3] rfl rfl 0 rfl rfl rfl rfl rfl (Nat.le_of_ble_eq_true rfl) dX6_stepped_28 ⟨Nat.le_refl _, Nat.le_refl _⟩) (fun r_28 H locs hw hX => ?_)
    subst hw
    exact xr_lret E hX hQ (shx_19, mrf) hr ⟨by unfold xqSt; rw [if_pos (by omega), xMoved_cong hp_19], by unfold rqSt; rw [if_pos (by omega)]⟩ rfl dX6_stepped_31
  · have c_7 := of_decide_eq_false c_7
    refine xr_aload_n E hl 0 rfl dX6_stepped_10 rfl ?_
    refine xr_bipush E dX6_stepped_11 (by decide) ?_
    refine xk_i (W2 := fun uu => (W_Mshr y hMo a_now a_asd a_pst a_mrf a_txt a_olt a_ofr a_nbs a_best a_wys a_rwx a_shx a_bef now msts uu mbyt mord alw bco alm abt shx mlt beg figm)) E hX [0, 2] rfl (xv_V (As := [.int (iI (-2))]) E hX hl (c_X6_refuse l D y z _ hMo a_now a_asd a_pst a_mrf a_txt a_olt a_ofr a_nbs a_best a_wys a_rwx a_shx a_bef msts mrf mbyt mord alw bco alm abt mlt beg figm (-2) (by omega)) ml_X6_54 im_X6_refuse se_X6_refuse in_X6 co_X6_refuse 1 (by decide) ⟨rfl, rfl⟩ ⟨Nat.le_of_ble_eq_true rfl, Nat.le_of_ble_eq_true rfl⟩ [0, 2] rfl rfl 0 rfl rfl rfl rfl rfl (Nat.le_of_ble_eq_true rfl) dX6_stepped_13 ⟨Nat.le_refl _, Nat.le_refl _⟩) [0, 3, 1, 5] 2 (fun _ => rfl) (fun _ => rfl) (by decide) (by decide) (fun r_13 uu H locs hw hX => ?_)
    obtain ⟨rfl, rfl⟩ := hw
    have hX : XW D A s.heap (W_Mshr y hMo a_now a_asd a_pst a_mrf a_txt a_olt a_ofr a_nbs a_best a_wys a_rwx a_shx a_bef now msts (rfU mrf (-2)) mbyt mord alw bco alm abt shx mlt beg figm) H locs := hX
    refine xr_i2l E dX6_stepped_16 (by decide) ?_
    exact xr_lret E hX hQ (shx, rfU mrf (-2)) hr ⟨by unfold xqSt; rw [if_neg (by omega)], by unfold rqSt; rw [if_neg (by omega)]⟩ rfl dX6_stepped_17
