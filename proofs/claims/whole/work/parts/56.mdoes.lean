/-! the reference: orders, the digest -/
abbrev W_Mds (y : CY) (hMo a_now a_asd a_pst a_mrf a_txt a_olt a_ofr a_nbs a_best a_wys a_rwx a_shx a_bef : Nat) (now : Int → Int) (asd : Int → Int) (pst : Int → Int) (msts : Int) (mrf : Int → Int) (txt : Int → Int) (mbyt : Int) (olt : Int → Int) (ofr : Int → Int) (nbs : Int → Int) (mord : Int) (best : Int → Int) (wys : Int → Int) (rwx : Int → Int) (alw : Int) (bco : Int) (alm : Int) (abt : Int) (mlt : Int) (beg : Int) (figm : Int) (bef : Int → Int) : va_W := [(hMo, .inr (6, [.ref a_now, .ref a_asd, .ref a_pst, .int (iI msts), .ref a_mrf, .ref a_txt, .int (iI mbyt), .ref a_olt, .ref a_ofr, .ref a_nbs, .int (iI mord), .ref a_best, .ref a_wys, .ref a_rwx, .int (iI alw), .long (lI bco), .int (iI alm), .int (iI abt), .ref a_shx, .int (iI mlt), .int (iI beg), .int (iI figm), .ref a_bef])), (a_now, .inl (y.1, 31, .inl (ia now))), (a_asd, .inl (y.1, 31, .inl (ia asd))), (a_pst, .inl (y.1, 155, .inl (ia pst))), (a_mrf, .inl (y.1, 3, .inl (ia mrf))), (a_txt, .inl (y.1, 120, .inl (ia txt))), (a_olt, .inl (y.1, 120, .inl (ia olt))), (a_ofr, .inl (y.1, 121, .inl (ia ofr))), (a_nbs, .inl (y.1, 120, .inl (ia nbs))), (a_best, .inl (y.2.1, 13260, .inr (.inl (la best)))), (a_wys, .inl (y.1, 13260, .inl (ia wys))), (a_rwx, .inl (y.1, 12, .inl (ia rwx))), (a_bef, .inl (y.1, 31, .inl (ia bef)))]
abbrev W_Mdg (y : CY) (hMo a_now a_asd a_pst a_mrf a_txt a_olt a_ofr a_nbs a_best a_wys a_rwx a_shx a_bef : Nat) (now : Int → Int) (msts : Int) (mrf : Int → Int) (mbyt : Int) (mord : Int) (best : Int → Int) (wys : Int → Int) (rwx : Int → Int) (alw : Int) (bco : Int) (alm : Int) (abt : Int) (shx : Int → Int) (mlt : Int) (beg : Int) (figm : Int) : va_W := [(hMo, .inr (6, [.ref a_now, .ref a_asd, .ref a_pst, .int (iI msts), .ref a_mrf, .ref a_txt, .int (iI mbyt), .ref a_olt, .ref a_ofr, .ref a_nbs, .int (iI mord), .ref a_best, .ref a_wys, .ref a_rwx, .int (iI alw), .long (lI bco), .int (iI alm), .int (iI abt), .ref a_shx, .int (iI mlt), .int (iI beg), .int (iI figm), .ref a_bef])), (a_now, .inl (y.1, 31, .inl (ia now))), (a_mrf, .inl (y.1, 3, .inl (ia mrf))), (a_best, .inl (y.2.1, 13260, .inr (.inl (la best)))), (a_wys, .inl (y.1, 13260, .inl (ia wys))), (a_rwx, .inl (y.1, 12, .inl (ia rwx))), (a_shx, .inl (y.1, 12, .inl (ia shx)))]
theorem xDo_suc {byt : Int → Int} {len : Int} {P0 : PS} {S : FSt} (hf : xFault byt len P0 = -1) (h : ∀ a b : Int, xDoI byt len P0 S a b = a) : xFault byt len P0 = -1 ∧ xDoX byt len P0 S = -1 := by
  have h1 := h 1 0
  unfold xDoI at h1
  split at h1
  · rename_i g; exact g
  · omega
abbrev rm_X6_does : Room := { frames := 7, cells := 0, slots := 0, locals := 170 }
set_option maxHeartbeats 4000000 in
set_option maxRecDepth 100000 in
theorem c_X6_does (l : Launch) (D : va_G) (y : CY) (z sz : Nat) (hMo a_now a_asd a_pst a_mrf a_txt a_olt a_ofr a_nbs a_best a_wys a_rwx a_shx a_bef : Nat) (now : Int → Int) (asd : Int → Int) (pst : Int → Int) (msts : Int) (mrf : Int → Int) (txt : Int → Int) (mbyt : Int) (olt : Int → Int) (ofr : Int → Int) (nbs : Int → Int) (mord : Int) (best : Int → Int) (wys : Int → Int) (rwx : Int → Int) (alw : Int) (bco : Int) (alm : Int) (abt : Int) (mlt : Int) (beg : Int) (figm : Int) (bef : Int → Int) (ltr : Int → Int) (fir : Int → Int) (sec : Int → Int) (num : Int) (fig : Int) (H_M : FM now) (hms : 0 ≤ msts ∧ msts ≤ 5) (hl0 : 0 ≤ mbyt ∧ mbyt ≤ 120) (hby : ∀ k : Int, 0 ≤ k → k < 120 → 0 ≤ txt k ∧ txt k ≤ 127) (H_T : TJ ltr fir sec 0 num fig) : Met l yX6_does (Cond.code yX6_does cX6_does 3 (some .int) :: TW) rm_X6_does (va_Pc [.ref hMo] (PX D y z (W_Mds y hMo a_now a_asd a_pst a_mrf a_txt a_olt a_ofr a_nbs a_best a_wys a_rwx a_shx a_bef now asd pst msts mrf txt mbyt olt ofr nbs mord best wys rwx alw bco alm abt mlt beg figm bef) sz)) (va_Qi (fun (r : Int32) (uu : (Int) × (Int) × (Int) × (Int) × (Int → Int) × (Int → Int) × (Int → Int) × (Int → Int) × (Int → Int) × (Int → Int) × (Int → Int) × (Int) × (Int → Int) × (Int → Int) × (Int → Int) × (Int → Int) × (Int) × (Int) × (Int) × (Int)) => r = iI (xDoR txt mbyt (ltr, fir, sec, 0, false, num, fig) (mI now, mT now, mP now, now 0, now 28, now 29, now 30)) ∧ RNe (xDoS txt mbyt (ltr, fir, sec, 0, false, num, fig) (mI now, mT now, mP now, now 0, now 28, now 29, now 30)) uu.2.2.2.2.2.2.2.1 ∧ uu.2.2.2.2.2.2.2.2.2.2.1 = mrf ∧ ((xFault txt mbyt (ltr, fir, sec, 0, false, num, fig) = -1 ∧ xDoX txt mbyt (ltr, fir, sec, 0, false, num, fig) (mI now, mT now, mP now, now 0, now 28, now 29, now 30) = -1) → uu.2.2.2.2.2.2.2.2.2.1 = mPast pst uu.2.2.2.2.2.2.2.2.1 msts 0 ∧ uu.2.2.2.2.2.2.2.2.2.2.2.1 = mSts msts 0 ∧ ∀ k : Int, 0 ≤ k → k < 31 → uu.2.2.2.2.2.2.2.2.1 k = now k) ∧ (¬ (xFault txt mbyt (ltr, fir, sec, 0, false, num, fig) = -1 ∧ xDoX txt mbyt (ltr, fir, sec, 0, false, num, fig) (mI now, mT now, mP now, now 0, now 28, now 29, now 30) = -1) → uu.2.2.2.2.2.2.2.2.2.1 = pst ∧ uu.2.2.2.2.2.2.2.2.2.2.2.1 = msts)) (fun uu t => BX D (W_Mds y hMo a_now a_asd a_pst a_mrf a_txt a_olt a_ofr a_nbs a_best a_wys a_rwx a_shx a_bef uu.2.2.2.2.2.2.2.1 uu.2.2.2.2.2.2.2.2.1 uu.2.2.2.2.2.2.2.2.2.1 uu.2.2.2.2.2.2.2.2.2.2.2.1 uu.2.2.2.2.2.2.2.2.2.2.1 txt mbyt uu.2.2.2.2.1 uu.2.2.2.2.2.1 uu.2.2.2.2.2.2.1 uu.2.2.2.1 uu.2.2.2.2.2.2.2.2.2.2.2.2.2.1 uu.2.2.2.2.2.2.2.2.2.2.2.2.2.2.1 uu.2.2.2.2.2.2.2.2.2.2.2.2.2.2.2.1 uu.2.2.2.2.2.2.2.2.2.2.2.2.2.2.2.2.1 uu.2.2.2.2.2.2.2.2.2.2.2.2.2.2.2.2.2.1 uu.2.2.2.2.2.2.2.2.2.2.2.2.2.2.2.2.2.2.1 uu.2.2.2.2.2.2.2.2.2.2.2.2.2.2.2.2.2.2.2 uu.1 uu.2.1 uu.2.2.1 uu.2.2.2.2.2.2.2.2.2.2.2.2.1) (va_A (W_Mds y hMo a_now a_asd a_pst a_mrf a_txt a_olt a_ofr a_nbs a_best a_wys a_rwx a_shx a_bef now asd pst msts mrf txt mbyt olt ofr nbs mord best wys rwx alw bco alm abt mlt beg figm bef) sz) t) (va_A (W_Mds y hMo a_now a_asd a_pst a_mrf a_txt a_olt a_ofr a_nbs a_best a_wys a_rwx a_shx a_bef now asd pst msts mrf txt mbyt olt ofr nbs mord best wys rwx alw bco alm abt mlt beg figm bef) sz)) 0 0 (va_A (W_Mds y hMo a_now a_asd a_pst a_mrf a_txt a_olt a_ofr a_nbs a_best a_wys a_rwx a_shx a_bef now asd pst msts mrf txt mbyt olt ofr nbs mord best wys rwx alw bco alm abt mlt beg figm bef) sz) := by
  refine xm_i (by decide) (Nat.le_of_ble_eq_true rfl) (fun p e s m args below meth cX ls A Q E hr hnm hX hl hQ => ?_)
  have hl : lv_has ls 3 [(0, .ref hMo)] := hl
  have hq := H_M.q
  have hfr := H_M.fr
  have hli := H_M.li
  have hsh := H_M.sh
  refine xr_aload_n E hl 0 rfl dX6_does_0 rfl ?_
  refine xk_i (W2 := fun uu => (W_Mds y hMo a_now a_asd a_pst a_mrf a_txt a_olt a_ofr a_nbs a_best a_wys a_rwx a_shx a_bef now asd pst msts mrf txt mbyt uu.2.2.2.2.1 uu.2.2.2.2.2.1 uu.2.2.2.2.2.2 uu.2.2.2.1 best wys rwx alw bco alm abt uu.1 uu.2.1 uu.2.2.1 bef)) E hX [0, 5, 6, 7, 8] rfl (xv_V (As := []) E hX hl (c_X6_readText l D y z _ hMo a_now a_asd a_pst a_mrf a_txt a_olt a_ofr a_nbs a_best a_wys a_rwx a_shx a_bef msts txt mbyt olt ofr nbs mord alw bco alm abt mlt beg figm ltr fir sec num fig (by omega) (by omega) H_T) ml_X6_234 im_X6_readText se_X6_readText in_X6 co_X6_readText 0 (by decide) ⟨rfl, rfl⟩ ⟨Nat.le_of_ble_eq_true rfl, Nat.le_of_ble_eq_true rfl⟩ [0, 5, 6, 7, 8] rfl rfl 0 rfl rfl rfl rfl rfl (Nat.le_of_ble_eq_true rfl) dX6_does_1 ⟨Nat.le_refl _, Nat.le_refl _⟩) [0, 6, 7, 8, 9, 1, 2, 3, 4, 14, 15, 16, 17] 5 (fun _ => rfl) (fun _ => rfl) (by decide) (by decide) (fun r_1 uu H locs hw hX => ?_)
  obtain ⟨mlt_1, beg_1, figm_1, mord_1, olt_1, ofr_1, nbs_1⟩ := uu
  have hX : XW D A s.heap (W_Mds y hMo a_now a_asd a_pst a_mrf a_txt a_olt a_ofr a_nbs a_best a_wys a_rwx a_shx a_bef now asd pst msts mrf txt mbyt olt_1 ofr_1 nbs_1 mord_1 best wys rwx alw bco alm abt mlt_1 beg_1 figm_1 bef) H locs := hX
  try dsimp only at hw
  obtain ⟨rfl, hp_1⟩ := hw
  refine xr_istore_n (lv' := [(1, .int (iI (xFault txt mbyt (ltr, fir, sec, 0, false, num, fig)))), (0, .ref hMo)]) E hl dX6_does_4 rfl (by decide) rfl (fun ls hl => ?_)
  have hfb := xFault_bd (P0 := (ltr, fir, sec, 0, false, num, fig)) (byt := txt) hl0.1 hl0.2
  refine xr_iload_n E hl 0 rfl dX6_does_5 rfl ?_
  refine xr_iconst E dX6_does_6 ?_
  refine xr_icmp_eq (tgt := 15) E dX6_does_7 (by decide) ⟨by omega, by omega⟩ (by decide) (fun c_7 => ?_) (fun c_7 => ?_)
  · have c_7 := c_7
    obtain ⟨hPs, hSm⟩ := hp_1 c_7
    have hsb := sim_bd hl0.2 hPs hSm
    have hlt := (lt_ok (byt := txt) (S0 := (ltr, fir, sec, 0, false, num, fig)) hby ⟨H_T, (by show (2 : Int) * 0 ≤ 0; decide), fun h => by cases h⟩ (fun k k0 k1 => absurd k1 (by show ¬ k < 0; omega)) mbyt.toNat (by omega) (fault_ok c_7 hl0.1)).2
    have hPk := hPs.1.1
    refine xr_aload_n E hl 1 rfl dX6_does_15 rfl ?_
    refine xr_get E hX 0 rfl rfl ly_X6 0 (by decide) fl_X6_7 rfl dX6_does_16 ?_
    refine xr_iconst E dX6_does_19 ?_
    refine xr_aload_n E hl 1 rfl dX6_does_20 rfl ?_
    refine xr_get E hX 0 rfl rfl ly_X6 22 (by decide) fl_X6_47 rfl dX6_does_21 ?_
    refine xr_iconst E dX6_does_24 ?_
    refine xk_v (W2 := fun uu => (W_Mds y hMo a_now a_asd a_pst a_mrf a_txt a_olt a_ofr a_nbs a_best a_wys a_rwx a_shx a_bef now asd pst msts mrf txt mbyt olt_1 ofr_1 nbs_1 mord_1 best wys rwx alw bco alm abt mlt_1 beg_1 figm_1 uu)) E hX [1, 12] rfl (xv_S (As := [.ref a_now, .int (iI 0), .ref a_bef, .int (iI 0)]) E hX hl (c_X6_bring l D y z _ a_now a_bef now bef 0 0 (by omega) (by omega)) ml_X6_50 st_X6_bring in_X6 co_X6_bring 4 (by decide) ⟨rfl, rfl⟩ ⟨Nat.le_of_ble_eq_true rfl, Nat.le_of_ble_eq_true rfl⟩ [1, 12] rfl rfl rfl rfl (Nat.le_of_ble_eq_true rfl) dX6_does_25 ⟨Nat.le_refl _, Nat.le_refl _⟩) [2, 0, 4, 5, 6, 7, 8, 9, 10, 11, 12, 13, 1] 2 (fun _ => rfl) (fun _ => rfl) (by decide) (by decide) (fun uu H locs hw hX => ?_)
    subst hw
    have hX : XW D A s.heap (W_Mds y hMo a_now a_asd a_pst a_mrf a_txt a_olt a_ofr a_nbs a_best a_wys a_rwx a_shx a_bef now asd pst msts mrf txt mbyt olt_1 ofr_1 nbs_1 mord_1 best wys rwx alw bco alm abt mlt_1 beg_1 figm_1 (cpR bef 0 now 0)) H locs := hX
    refine xr_iconst E dX6_does_28 ?_
    refine xr_istore_n (lv' := [(2, .int (iI 0)), (1, .int (iI (xFault txt mbyt (ltr, fir, sec, 0, false, num, fig)))), (0, .ref hMo)]) E hl dX6_does_29 rfl (by decide) rfl (fun ls hl => ?_)
    have L_30_2 : ∀ (nmu : Nat) (n : Nat) (k : Int) (now1 : Int → Int) (best1 : Int → Int) (wys1 : Int → Int) (rwx1 : Int → Int) (alw1 : Int) (bco1 : Int) (alm1 : Int) (abt1 : Int), 60 - n < nmu → (k = n ∧ k ≤ mord_1) → (RNe (xRun (pSt txt (ltr, fir, sec, 0, false, num, fig) mbyt.toNat).1 (pSt txt (ltr, fir, sec, 0, false, num, fig) mbyt.toNat).2.1 (pSt txt (ltr, fir, sec, 0, false, num, fig) mbyt.toNat).2.2.1 (mI now, mT now, mP now, now 0, now 28, now 29, now 30) n) now1) → (xRef (pSt txt (ltr, fir, sec, 0, false, num, fig) mbyt.toNat).1 (pSt txt (ltr, fir, sec, 0, false, num, fig) mbyt.toNat).2.1 (pSt txt (ltr, fir, sec, 0, false, num, fig) mbyt.toNat).2.2.1 (mI now, mT now, mP now, now 0, now 28, now 29, now 30) n = -1) → ∀ (H : Heap) (locs : List Loc) (ls : Array Slot), XW D A s.heap (W_Mds y hMo a_now a_asd a_pst a_mrf a_txt a_olt a_ofr a_nbs a_best a_wys a_rwx a_shx a_bef now1 asd pst msts mrf txt mbyt olt_1 ofr_1 nbs_1 mord_1 best1 wys1 rwx1 alw1 bco1 alm1 abt1 mlt_1 beg_1 figm_1 (cpR bef 0 now 0)) H locs → lv_has ls 3 [(0, .ref hMo), (2, .int (iI k))] → W p l e rm_X6_does s m args below meth cX H locs 0 0 Q (F0 m 30 ls []) := by
      intro nmu
      induction nmu with
      | zero =>
        intro n k now1 best1 wys1 rwx1 alw1 bco1 alm1 abt1 hmu
        exact absurd hmu (Nat.not_lt_zero _)
      | succ nmu ih =>
        intro n k now1 best1 wys1 rwx1 alw1 bco1 alm1 abt1 hmu hkn hS hRf H locs ls hX hl
        have ih_30_2 := ih
        clear ih
        have hFI := xRun_FI (ltr := (pSt txt (ltr, fir, sec, 0, false, num, fig) mbyt.toNat).1) (fir := (pSt txt (ltr, fir, sec, 0, false, num, fig) mbyt.toNat).2.1) (sec := (pSt txt (ltr, fir, sec, 0, false, num, fig) mbyt.toNat).2.2.1) (S := (mI now, mT now, mP now, now 0, now 28, now 29, now 30)) H_M n
        have hM1 := RNe_FM hS hFI
        refine xr_iload_n E hl 1 rfl dX6_does_30 rfl ?_
        refine xr_aload_n E hl 0 rfl dX6_does_31 rfl ?_
        refine xr_get E hX 0 rfl rfl ly_X6 10 (by decide) fl_X6_221 rfl dX6_does_32 ?_
        refine xr_icmp_ge (tgt := 73) E dX6_does_35 (by decide) ⟨by omega, by omega⟩ ⟨by omega, by omega⟩ (fun c_35 => ?_) (fun c_35 => ?_)
        · have c_35 := c_35
          refine xr_aload_n E hl 0 rfl dX6_does_73 rfl ?_
          refine xr_get E hX 0 rfl rfl ly_X6 22 (by decide) fl_X6_47 rfl dX6_does_74 ?_
          refine xr_iconst E dX6_does_77 ?_
          refine xr_aload_n E hl 0 rfl dX6_does_78 rfl ?_
          refine xr_get E hX 0 rfl rfl ly_X6 1 (by decide) fl_X6_13 rfl dX6_does_79 ?_
          refine xr_iconst E dX6_does_82 ?_
          refine xk_v (W2 := fun uu => (W_Mds y hMo a_now a_asd a_pst a_mrf a_txt a_olt a_ofr a_nbs a_best a_wys a_rwx a_shx a_bef now1 uu pst msts mrf txt mbyt olt_1 ofr_1 nbs_1 mord_1 best1 wys1 rwx1 alw1 bco1 alm1 abt1 mlt_1 beg_1 figm_1 (cpR bef 0 now 0))) E hX [12, 2] rfl (xv_S (As := [.ref a_bef, .int (iI 0), .ref a_asd, .int (iI 0)]) E hX hl (c_X6_bring l D y z _ a_bef a_asd (cpR bef 0 now 0) asd 0 0 (by omega) (by omega)) ml_X6_50 st_X6_bring in_X6 co_X6_bring 4 (by decide) ⟨rfl, rfl⟩ ⟨Nat.le_of_ble_eq_true rfl, Nat.le_of_ble_eq_true rfl⟩ [12, 2] rfl rfl rfl rfl (Nat.le_of_ble_eq_true rfl) dX6_does_83 ⟨Nat.le_refl _, Nat.le_refl _⟩) [2, 3, 1, 5, 6, 7, 8, 9, 10, 11, 12, 13, 0] 2 (fun _ => rfl) (fun _ => rfl) (by decide) (by decide) (fun uu H locs hw hX => ?_)
          subst hw
          have hX : XW D A s.heap (W_Mds y hMo a_now a_asd a_pst a_mrf a_txt a_olt a_ofr a_nbs a_best a_wys a_rwx a_shx a_bef now1 (cpR asd 0 (cpR bef 0 now 0) 0) pst msts mrf txt mbyt olt_1 ofr_1 nbs_1 mord_1 best1 wys1 rwx1 alw1 bco1 alm1 abt1 mlt_1 beg_1 figm_1 (cpR bef 0 now 0)) H locs := hX
          refine xr_aload_n E hl 0 rfl dX6_does_86 rfl ?_
          refine xr_aload_n E hl 0 rfl dX6_does_87 rfl ?_
          refine xr_get E hX 0 rfl rfl ly_X6 10 (by decide) fl_X6_221 rfl dX6_does_88 ?_
          refine xk_i (W2 := fun uu => (W_Mds y hMo a_now a_asd a_pst a_mrf a_txt a_olt a_ofr a_nbs a_best a_wys a_rwx a_shx a_bef now1 (cpR asd 0 (cpR bef 0 now 0) 0) uu.2.1 uu.2.2 uu.1 txt mbyt olt_1 ofr_1 nbs_1 mord_1 best1 wys1 rwx1 alw1 bco1 alm1 abt1 mlt_1 beg_1 figm_1 (cpR bef 0 now 0))) E hX [0, 2, 3, 4] rfl (xv_V (As := [.int (iI mord_1)]) E hX hl (c_X6_finish l D y z _ hMo a_now a_asd a_pst a_mrf a_txt a_olt a_ofr a_nbs a_best a_wys a_rwx a_shx a_bef (cpR asd 0 (cpR bef 0 now 0) 0) pst msts mrf mbyt mord_1 alw1 bco1 alm1 abt1 mlt_1 beg_1 figm_1 mord_1 (by omega) (by omega)) ml_X6_96 im_X6_finish se_X6_finish in_X6 co_X6_finish 1 (by decide) ⟨rfl, rfl⟩ ⟨Nat.le_of_ble_eq_true rfl, Nat.le_of_ble_eq_true rfl⟩ [0, 2, 3, 4] rfl rfl 0 rfl rfl rfl rfl rfl (Nat.le_of_ble_eq_true rfl) dX6_does_91 ⟨Nat.le_refl _, Nat.le_refl _⟩) [0, 5, 1, 2, 3, 9, 10, 11, 12, 13, 14, 15, 16] 4 (fun _ => rfl) (fun _ => rfl) (by decide) (by decide) (fun r_91 uu H locs hw hX => ?_)
          obtain ⟨rfl, rfl⟩ := hw
          have hX : XW D A s.heap (W_Mds y hMo a_now a_asd a_pst a_mrf a_txt a_olt a_ofr a_nbs a_best a_wys a_rwx a_shx a_bef now1 (cpR asd 0 (cpR bef 0 now 0) 0) (mPast pst (cpR asd 0 (cpR bef 0 now 0) 0) msts mord_1) (mSts msts mord_1) (mRf mrf mord_1) txt mbyt olt_1 ofr_1 nbs_1 mord_1 best1 wys1 rwx1 alw1 bco1 alm1 abt1 mlt_1 beg_1 figm_1 (cpR bef 0 now 0)) H locs := hX
          exact xr_iret E hX hQ (mlt_1, beg_1, figm_1, mord_1, olt_1, ofr_1, nbs_1, now1, cpR asd 0 (cpR bef 0 now 0) 0, mPast pst (cpR asd 0 (cpR bef 0 now 0) 0) msts mord_1, mRf mrf mord_1, mSts msts mord_1, cpR bef 0 now 0, best1, wys1, rwx1, alw1, bco1, alm1, abt1) hr (by have e := xDo_all (n := n) (S := (mI now, mT now, mP now, now 0, now 28, now 29, now 30)) c_7 (show ((pSt txt (ltr, fir, sec, 0, false, num, fig) mbyt.toNat).1, (pSt txt (ltr, fir, sec, 0, false, num, fig) mbyt.toNat).2.1, (pSt txt (ltr, fir, sec, 0, false, num, fig) mbyt.toNat).2.2.1, (pSt txt (ltr, fir, sec, 0, false, num, fig) mbyt.toNat).2.2.2.1, (pSt txt (ltr, fir, sec, 0, false, num, fig) mbyt.toNat).2.2.2.2.1, (pSt txt (ltr, fir, sec, 0, false, num, fig) mbyt.toNat).2.2.2.2.2.1, (pSt txt (ltr, fir, sec, 0, false, num, fig) mbyt.toNat).2.2.2.2.2.2) = (pSt txt (ltr, fir, sec, 0, false, num, fig) mbyt.toNat) from rfl) (by rw [← hsb.1.2.2]; omega) hRf; have f := mFin_ok (pst := pst) (asd := cpR asd 0 (cpR bef 0 now 0) 0) (mrf := mrf) (ms := msts) (w := mord_1) (by omega); rw [e.1, e.2.1]; exact ⟨by rw [hsb.1.2.2], hS, f.1, fun _ => ⟨f.2.1, f.2.2, fun k k0 k1 => by show cpR _ 0 _ 0 k = _; rw [cpR_at k0 k1, cpR_at k0 k1]⟩, fun h => absurd (xDo_suc c_7 e.2.2) h⟩) rfl dX6_does_94
        · have c_35 := c_35
          have hcl := hSm.2.2.2.2.2 k (by omega) (by omega)
          have hkb := hPk k (by omega) (by omega)
          have hxk := hlt k (by omega) (by rw [← hsb.1.2.2]; omega)
          have hof2 := hSm.2.2.2.2.1
          have hob := RN_ob (c := (pSt txt (ltr, fir, sec, 0, false, num, fig) mbyt.toNat).1 k) (a := (pSt txt (ltr, fir, sec, 0, false, num, fig) mbyt.toNat).2.1 k) (b := (pSt txt (ltr, fir, sec, 0, false, num, fig) mbyt.toNat).2.2.1 k) hFI hS hxk
          have hobd := xOb_bd (c := (pSt txt (ltr, fir, sec, 0, false, num, fig) mbyt.toNat).1 k) (a := (pSt txt (ltr, fir, sec, 0, false, num, fig) mbyt.toNat).2.1 k) (b := (pSt txt (ltr, fir, sec, 0, false, num, fig) mbyt.toNat).2.2.1 k) hFI
          have hobe : (xObS ((pSt txt (ltr, fir, sec, 0, false, num, fig) mbyt.toNat).1 k) ((pSt txt (ltr, fir, sec, 0, false, num, fig) mbyt.toNat).2.1 k) ((pSt txt (ltr, fir, sec, 0, false, num, fig) mbyt.toNat).2.2.1 k) (xRun (pSt txt (ltr, fir, sec, 0, false, num, fig) mbyt.toNat).1 (pSt txt (ltr, fir, sec, 0, false, num, fig) mbyt.toNat).2.1 (pSt txt (ltr, fir, sec, 0, false, num, fig) mbyt.toNat).2.2.1 (mI now, mT now, mP now, now 0, now 28, now 29, now 30) n)).1 = (mOb ((pSt txt (ltr, fir, sec, 0, false, num, fig) mbyt.toNat).1 k) ((pSt txt (ltr, fir, sec, 0, false, num, fig) mbyt.toNat).2.1 k) ((pSt txt (ltr, fir, sec, 0, false, num, fig) mbyt.toNat).2.2.1 k) now1).1 := hob.1
          unfold xObS at hobe
          rw [hobe] at hobd
          refine xr_aload_n E hl 0 rfl dX6_does_38 rfl ?_
          refine xr_iload_n E hl 1 rfl dX6_does_39 rfl ?_
          refine xk_i (W2 := fun uu => (W_Mds y hMo a_now a_asd a_pst a_mrf a_txt a_olt a_ofr a_nbs a_best a_wys a_rwx a_shx a_bef uu.1 asd pst msts mrf txt mbyt olt_1 ofr_1 nbs_1 mord_1 uu.2.1 uu.2.2.1 uu.2.2.2.1 uu.2.2.2.2.1 uu.2.2.2.2.2.1 uu.2.2.2.2.2.2.1 uu.2.2.2.2.2.2.2 mlt_1 beg_1 figm_1 (cpR bef 0 now 0))) E hX [0, 1, 6, 7, 8, 9, 10, 11] rfl (xv_V (As := [.int (iI k)]) E hX hl (c_X6_doOrder l D y z _ hMo a_now a_asd a_pst a_mrf a_txt a_olt a_ofr a_nbs a_best a_wys a_rwx a_shx a_bef now1 msts mbyt olt_1 ofr_1 nbs_1 mord_1 best1 wys1 rwx1 alw1 bco1 alm1 abt1 mlt_1 beg_1 figm_1 k ((pSt txt (ltr, fir, sec, 0, false, num, fig) mbyt.toNat).1 k) ((pSt txt (ltr, fir, sec, 0, false, num, fig) mbyt.toNat).2.1 k) ((pSt txt (ltr, fir, sec, 0, false, num, fig) mbyt.toNat).2.2.1 k) hM1 (by omega) hcl.1 hxk (by omega) (by omega) (fun h => (hcl.2.2.1 h).1) (fun h => ⟨(hcl.2.2.2 h).1, by have h9 := (hcl.2.2.2 h).2; omega⟩) (by omega)) ml_X6_237 im_X6_doOrder se_X6_doOrder in_X6 co_X6_doOrder 1 (by decide) ⟨rfl, rfl⟩ ⟨Nat.le_of_ble_eq_true rfl, Nat.le_of_ble_eq_true rfl⟩ [0, 1, 6, 7, 8, 9, 10, 11] rfl rfl 0 rfl rfl rfl rfl rfl (Nat.le_of_ble_eq_true rfl) dX6_does_40 ⟨Nat.le_refl _, Nat.le_refl _⟩) [0, 1, 10, 11, 12, 13, 2, 3, 4, 5, 6, 7, 20] 8 (fun _ => rfl) (fun _ => rfl) (by decide) (by decide) (fun r_40 uu H locs hw hX => ?_)
          obtain ⟨now_40, best_40, wys_40, rwx_40, alw_40, bco_40, alm_40, abt_40⟩ := uu
          have hX : XW D A s.heap (W_Mds y hMo a_now a_asd a_pst a_mrf a_txt a_olt a_ofr a_nbs a_best a_wys a_rwx a_shx a_bef now_40 asd pst msts mrf txt mbyt olt_1 ofr_1 nbs_1 mord_1 best_40 wys_40 rwx_40 alw_40 bco_40 alm_40 abt_40 mlt_1 beg_1 figm_1 (cpR bef 0 now 0)) H locs := hX
          try dsimp only at hw
          obtain ⟨rfl, hp_40⟩ := hw
          have hS2 : RNe (xRun (pSt txt (ltr, fir, sec, 0, false, num, fig) mbyt.toNat).1 (pSt txt (ltr, fir, sec, 0, false, num, fig) mbyt.toNat).2.1 (pSt txt (ltr, fir, sec, 0, false, num, fig) mbyt.toNat).2.2.1 (mI now, mT now, mP now, now 0, now 28, now 29, now 30) (n + 1)) now_40 := by rw [hp_40]; show RNe (xObS ((pSt txt (ltr, fir, sec, 0, false, num, fig) mbyt.toNat).1 n) ((pSt txt (ltr, fir, sec, 0, false, num, fig) mbyt.toNat).2.1 n) ((pSt txt (ltr, fir, sec, 0, false, num, fig) mbyt.toNat).2.2.1 n) (xRun (pSt txt (ltr, fir, sec, 0, false, num, fig) mbyt.toNat).1 (pSt txt (ltr, fir, sec, 0, false, num, fig) mbyt.toNat).2.1 (pSt txt (ltr, fir, sec, 0, false, num, fig) mbyt.toNat).2.2.1 (mI now, mT now, mP now, now 0, now 28, now 29, now 30) n)).2 _; rw [← hkn.1]; exact hob.2
          refine xr_bipush E dX6_does_43 (by decide) ?_
          refine xr_icmp_gt (tgt := 67) E dX6_does_45 (by decide) ⟨by omega, by omega⟩ (by decide) (fun c_45 => ?_) (fun c_45 => ?_)
          · have c_45 := c_45
            refine xr_iinc (k := 1) (lv' := [(2, .int (iI (k + 1))), (0, .ref hMo)]) E hl rfl dX6_does_67 (by decide) rfl (fun ls hl => ?_)
            refine xr_goto (tgt := 30) E dX6_does_70 (by decide) ?_
            exact ih_30_2 (n + 1) (k + 1) now_40 best_40 wys_40 rwx_40 alw_40 bco_40 alm_40 abt_40 (by omega) (by omega) hS2 (by rw [xRef_s _ _ _ _ _ hRf, ← hkn.1, hob.1]; exact if_neg (by omega)) _ _ _ hX (lv_sub hl [1, 0] rfl)
          · have c_45 := c_45
            refine xr_aload_n E hl 0 rfl dX6_does_48 rfl ?_
            refine xr_get E hX 0 rfl rfl ly_X6 22 (by decide) fl_X6_47 rfl dX6_does_49 ?_
            refine xr_iconst E dX6_does_52 ?_
            refine xr_aload_n E hl 0 rfl dX6_does_53 rfl ?_
            refine xr_get E hX 0 rfl rfl ly_X6 0 (by decide) fl_X6_7 rfl dX6_does_54 ?_
            refine xr_iconst E dX6_does_57 ?_
            refine xk_v (W2 := fun uu => (W_Mds y hMo a_now a_asd a_pst a_mrf a_txt a_olt a_ofr a_nbs a_best a_wys a_rwx a_shx a_bef uu asd pst msts mrf txt mbyt olt_1 ofr_1 nbs_1 mord_1 best_40 wys_40 rwx_40 alw_40 bco_40 alm_40 abt_40 mlt_1 beg_1 figm_1 (cpR bef 0 now 0))) E hX [12, 1] rfl (xv_S (As := [.ref a_bef, .int (iI 0), .ref a_now, .int (iI 0)]) E hX hl (c_X6_bring l D y z _ a_bef a_now (cpR bef 0 now 0) now_40 0 0 (by omega) (by omega)) ml_X6_50 st_X6_bring in_X6 co_X6_bring 4 (by decide) ⟨rfl, rfl⟩ ⟨Nat.le_of_ble_eq_true rfl, Nat.le_of_ble_eq_true rfl⟩ [12, 1] rfl rfl rfl rfl (Nat.le_of_ble_eq_true rfl) dX6_does_58 ⟨Nat.le_refl _, Nat.le_refl _⟩) [2, 1, 4, 5, 6, 7, 8, 9, 10, 11, 12, 13, 0] 2 (fun _ => rfl) (fun _ => rfl) (by decide) (by decide) (fun uu H locs hw hX => ?_)
            subst hw
            have hX : XW D A s.heap (W_Mds y hMo a_now a_asd a_pst a_mrf a_txt a_olt a_ofr a_nbs a_best a_wys a_rwx a_shx a_bef (cpR now_40 0 (cpR bef 0 now 0) 0) asd pst msts mrf txt mbyt olt_1 ofr_1 nbs_1 mord_1 best_40 wys_40 rwx_40 alw_40 bco_40 alm_40 abt_40 mlt_1 beg_1 figm_1 (cpR bef 0 now 0)) H locs := hX
            refine xr_sipush E dX6_does_61 (by decide) ?_
            refine xr_iload_n E hl 1 rfl dX6_does_64 rfl ?_
            refine xr_isub E dX6_does_65 ?_
            exact xr_iret E hX hQ (mlt_1, beg_1, figm_1, mord_1, olt_1, ofr_1, nbs_1, cpR now_40 0 (cpR bef 0 now 0) 0, asd, pst, mrf, msts, cpR bef 0 now 0, best_40, wys_40, rwx_40, alw_40, bco_40, alm_40, abt_40) hr (by have e := xDo_ref (n := n) (S := (mI now, mT now, mP now, now 0, now 28, now 29, now 30)) c_7 (show ((pSt txt (ltr, fir, sec, 0, false, num, fig) mbyt.toNat).1, (pSt txt (ltr, fir, sec, 0, false, num, fig) mbyt.toNat).2.1, (pSt txt (ltr, fir, sec, 0, false, num, fig) mbyt.toNat).2.2.1, (pSt txt (ltr, fir, sec, 0, false, num, fig) mbyt.toNat).2.2.2.1, (pSt txt (ltr, fir, sec, 0, false, num, fig) mbyt.toNat).2.2.2.2.1, (pSt txt (ltr, fir, sec, 0, false, num, fig) mbyt.toNat).2.2.2.2.2.1, (pSt txt (ltr, fir, sec, 0, false, num, fig) mbyt.toNat).2.2.2.2.2.2) = (pSt txt (ltr, fir, sec, 0, false, num, fig) mbyt.toNat) from rfl) (by rw [← hsb.1.2.2]; omega) hRf (by rw [← hkn.1, hob.1]; omega); rw [e.2.1, e.2.2.1]; exact ⟨by rw [hkn.1], RNe_row (RNe_self now) (fun k k0 k1 => by show cpR _ 0 _ 0 k = _; rw [cpR_at k0 k1, cpR_at k0 k1]), rfl, fun h => absurd h.2 (by rw [e.1]; omega), fun _ => ⟨rfl, rfl⟩⟩) rfl dX6_does_66
    exact L_30_2 _ 0 0 now best wys rwx alw bco alm abt (Nat.lt_succ_self _) ⟨rfl, by omega⟩ (RNe_self now) rfl _ _ _ hX (lv_sub hl [2, 0] rfl)
  · have c_7 := c_7
    refine xr_bipush E dX6_does_10 (by decide) ?_
    refine xr_iload_n E hl 0 rfl dX6_does_12 rfl ?_
    refine xr_isub E dX6_does_13 ?_
    exact xr_iret E hX hQ (mlt_1, beg_1, figm_1, mord_1, olt_1, ofr_1, nbs_1, now, asd, pst, mrf, msts, bef, best, wys, rwx, alw, bco, alm, abt) hr (by have e := xDo_flt (S := (mI now, mT now, mP now, now 0, now 28, now 29, now 30)) c_7; rw [e.1, e.2.1]; exact ⟨rfl, RNe_self now, rfl, fun h => absurd h.1 c_7, fun _ => ⟨rfl, rfl⟩⟩) rfl dX6_does_14
abbrev rm_X6_digest : Room := { frames := 5, cells := 0, slots := 0, locals := 125 }
set_option maxHeartbeats 4000000 in
set_option maxRecDepth 100000 in
theorem c_X6_digest (l : Launch) (D : va_G) (y : CY) (z sz : Nat) (hMo a_now a_asd a_pst a_mrf a_txt a_olt a_ofr a_nbs a_best a_wys a_rwx a_shx a_bef : Nat) (now : Int → Int) (msts : Int) (mrf : Int → Int) (mbyt : Int) (mord : Int) (best : Int → Int) (wys : Int → Int) (rwx : Int → Int) (alw : Int) (bco : Int) (alm : Int) (abt : Int) (shx : Int → Int) (mlt : Int) (beg : Int) (figm : Int) (H_M : FM now) (hrf0 : ∀ k : Int, 0 ≤ k → k < 3 → 0 ≤ mrf k ∧ mrf k ≤ 100000000) (hl0 : 0 ≤ mbyt ∧ mbyt ≤ 120) (hs0 : 0 ≤ msts ∧ msts ≤ 5) : Met l yX6_digest (Cond.code yX6_digest cX6_digest 5 (some .long) :: TW) rm_X6_digest (va_Pc [.ref hMo] (PX D y z (W_Mdg y hMo a_now a_asd a_pst a_mrf a_txt a_olt a_ofr a_nbs a_best a_wys a_rwx a_shx a_bef now msts mrf mbyt mord best wys rwx alw bco alm abt shx mlt beg figm) sz)) (va_Ql (fun (r : Int64) (uu : (Int → Int) × (Int → Int) × (Int → Int) × (Int) × (Int) × (Int) × (Int) × (Int → Int)) => r = lI (xDig (mI now) (mT now) (mP now) (now 0) (now 28) (now 29) (now 30) mrf mbyt msts) ∧ True) (fun uu t => BX D (W_Mdg y hMo a_now a_asd a_pst a_mrf a_txt a_olt a_ofr a_nbs a_best a_wys a_rwx a_shx a_bef now msts mrf mbyt mord uu.1 uu.2.1 uu.2.2.1 uu.2.2.2.1 uu.2.2.2.2.1 uu.2.2.2.2.2.1 uu.2.2.2.2.2.2.1 uu.2.2.2.2.2.2.2 mlt beg figm) (va_A (W_Mdg y hMo a_now a_asd a_pst a_mrf a_txt a_olt a_ofr a_nbs a_best a_wys a_rwx a_shx a_bef now msts mrf mbyt mord best wys rwx alw bco alm abt shx mlt beg figm) sz) t) (va_A (W_Mdg y hMo a_now a_asd a_pst a_mrf a_txt a_olt a_ofr a_nbs a_best a_wys a_rwx a_shx a_bef now msts mrf mbyt mord best wys rwx alw bco alm abt shx mlt beg figm) sz)) 0 0 (va_A (W_Mdg y hMo a_now a_asd a_pst a_mrf a_txt a_olt a_ofr a_nbs a_best a_wys a_rwx a_shx a_bef now msts mrf mbyt mord best wys rwx alw bco alm abt shx mlt beg figm) sz) := by
  refine xm_l (by decide) (Nat.le_of_ble_eq_true rfl) (fun p e s m args below meth cX ls A Q E hr hnm hX hl hQ => ?_)
  have hl : lv_has ls 5 [(0, .ref hMo)] := hl
  have hq := H_M.q
  have hfr := H_M.fr
  have hli := H_M.li
  have hsh := H_M.sh
  refine xr_ldc2 (n := 1980) E kl_X6_245 dX6_digest_0 (by decide) ?_
  refine xr_lstore_n (lv' := [(1, .long (lI 1980)), (0, .ref hMo)]) E hl dX6_digest_3 rfl (by decide) rfl (fun ls hl => ?_)
  refine xr_iconst E dX6_digest_4 ?_
  refine xr_istore_n (lv' := [(3, .int (iI 0)), (1, .long (lI 1980)), (0, .ref hMo)]) E hl dX6_digest_5 rfl (by decide) rfl (fun ls hl => ?_)
  have L_6_1 : ∀ (nmu : Nat) (n : Nat) (h : Int) (w : Int), 5 - n < nmu → (w = n ∧ w ≤ 5) → (h = dgI (xTo mrf mbyt msts) n 1980) → ∀ (H : Heap) (locs : List Loc) (ls : Array Slot), XW D A s.heap (W_Mdg y hMo a_now a_asd a_pst a_mrf a_txt a_olt a_ofr a_nbs a_best a_wys a_rwx a_shx a_bef now msts mrf mbyt mord best wys rwx alw bco alm abt shx mlt beg figm) H locs → lv_has ls 5 [(0, .ref hMo), (1, .long (lI h)), (3, .int (iI w))] → W p l e rm_X6_digest s m args below meth cX H locs 0 0 Q (F0 m 6 ls []) := by
    intro nmu
    induction nmu with
    | zero =>
      intro n h w hmu
      exact absurd hmu (Nat.not_lt_zero _)
    | succ nmu ih =>
      intro n h w hmu hw hh H locs ls hX hl
      have ih_6_1 := ih
      clear ih
      refine xr_iload_n E hl 2 rfl dX6_digest_6 rfl ?_
      refine xr_iconst E dX6_digest_7 ?_
      refine xr_icmp_ge (tgt := 30) E dX6_digest_8 (by decide) ⟨by omega, by omega⟩ (by decide) (fun c_8 => ?_) (fun c_8 => ?_)
      · have c_8 := c_8
        refine xr_iconst E dX6_digest_30 ?_
        refine xr_istore_n (lv' := [(3, .int (iI 0)), (0, .ref hMo), (1, .long (lI h))]) E hl dX6_digest_31 rfl (by decide) rfl (fun ls hl => ?_)
        have L_32_2 : ∀ (nmu : Nat) (j : Nat) (h2 : Int) (w : Int), 6 - j < nmu → (w = j ∧ w ≤ 6) → (h2 = dgI (xAll (mT now) (mP now) (now 0) (now 28) (now 29) (now 30)) j h) → ∀ (H : Heap) (locs : List Loc) (ls : Array Slot), XW D A s.heap (W_Mdg y hMo a_now a_asd a_pst a_mrf a_txt a_olt a_ofr a_nbs a_best a_wys a_rwx a_shx a_bef now msts mrf mbyt mord best wys rwx alw bco alm abt shx mlt beg figm) H locs → lv_has ls 5 [(0, .ref hMo), (1, .long (lI h2)), (3, .int (iI w))] → W p l e rm_X6_digest s m args below meth cX H locs 0 0 Q (F0 m 32 ls []) := by
          intro nmu
          induction nmu with
          | zero =>
            intro j h2 w hmu
            exact absurd hmu (Nat.not_lt_zero _)
          | succ nmu ih =>
            intro j h2 w hmu hw h2h H locs ls hX hl
            have ih_32_2 := ih
            clear ih
            refine xr_iload_n E hl 2 rfl dX6_digest_32 rfl ?_
            refine xr_bipush E dX6_digest_33 (by decide) ?_
            refine xr_icmp_ge (tgt := 57) E dX6_digest_35 (by decide) ⟨by omega, by omega⟩ (by decide) (fun c_35 => ?_) (fun c_35 => ?_)
            · have c_35 := c_35
              refine xr_aload_n E hl 0 rfl dX6_digest_57 rfl ?_
              refine xk_v (W2 := fun uu => (W_Mdg y hMo a_now a_asd a_pst a_mrf a_txt a_olt a_ofr a_nbs a_best a_wys a_rwx a_shx a_bef now msts mrf mbyt mord best wys rwx alw bco alm abt uu mlt beg figm)) E hX [0, 1, 6] rfl (xv_V (As := []) E hX hl (c_X6_shareOut l D y z _ hMo a_now a_asd a_pst a_mrf a_txt a_olt a_ofr a_nbs a_best a_wys a_rwx a_shx a_bef now msts mbyt mord alw bco alm abt shx mlt beg figm H_M) ml_X6_204 im_X6_shareOut se_X6_shareOut in_X6 co_X6_shareOut 0 (by decide) ⟨rfl, rfl⟩ ⟨Nat.le_of_ble_eq_true rfl, Nat.le_of_ble_eq_true rfl⟩ [0, 1, 6] rfl rfl 0 rfl rfl rfl rfl rfl (Nat.le_of_ble_eq_true rfl) dX6_digest_58 ⟨Nat.le_refl _, Nat.le_refl _⟩) [0, 1, 5, 6, 7, 8, 2] 3 (fun _ => rfl) (fun _ => rfl) (by decide) (by decide) (fun uu H locs hw hX => ?_)
              obtain ⟨shx_58, rfl⟩ : ∃ q, q = uu := ⟨_, rfl⟩
              have hX : XW D A s.heap (W_Mdg y hMo a_now a_asd a_pst a_mrf a_txt a_olt a_ofr a_nbs a_best a_wys a_rwx a_shx a_bef now msts mrf mbyt mord best wys rwx alw bco alm abt shx_58 mlt beg figm) H locs := hX
              try dsimp only at hw
              have hp_58 := hw
              refine xr_iconst E dX6_digest_61 ?_
              refine xr_istore_n (lv' := [(3, .int (iI 0)), (0, .ref hMo), (1, .long (lI h2))]) E hl dX6_digest_62 rfl (by decide) rfl (fun ls hl => ?_)
              have L_63_4 : ∀ (nmu : Nat) (n1 : Nat) (h3 : Int) (t : Int), 12 - n1 < nmu → (t = n1 ∧ t ≤ now 0) → (h3 = dgF (mI now) (mT now) (mP now) (now 0) (now 28) n1 h2) → ∀ (H : Heap) (locs : List Loc) (ls : Array Slot), XW D A s.heap (W_Mdg y hMo a_now a_asd a_pst a_mrf a_txt a_olt a_ofr a_nbs a_best a_wys a_rwx a_shx a_bef now msts mrf mbyt mord best wys rwx alw bco alm abt shx_58 mlt beg figm) H locs → lv_has ls 5 [(0, .ref hMo), (1, .long (lI h3)), (3, .int (iI t))] → W p l e rm_X6_digest s m args below meth cX H locs 0 0 Q (F0 m 63 ls []) := by
                intro nmu
                induction nmu with
                | zero =>
                  intro n1 h3 t hmu
                  exact absurd hmu (Nat.not_lt_zero _)
                | succ nmu ih =>
                  intro n1 h3 t hmu ht h3h H locs ls hX hl
                  have ih_63_4 := ih
                  clear ih
                  refine xr_iload_n E hl 2 rfl dX6_digest_63 rfl ?_
                  refine xr_aload_n E hl 0 rfl dX6_digest_64 rfl ?_
                  refine xr_get E hX 0 rfl rfl ly_X6 0 (by decide) fl_X6_7 rfl dX6_digest_65 ?_
                  refine xr_iconst E dX6_digest_68 ?_
                  refine xr_iald E hX 1 rfl (by omega) (by omega) (by decide) dX6_digest_69 ?_
                  refine xr_icmp_ge (tgt := 123) E dX6_digest_70 (by decide) ⟨by omega, by omega⟩ ⟨by omega, by omega⟩ (fun c_70 => ?_) (fun c_70 => ?_)
                  · have c_70 := c_70
                    refine xr_iconst E dX6_digest_123 ?_
                    refine xr_istore_n (lv' := [(3, .int (iI 0)), (0, .ref hMo), (1, .long (lI h3))]) E hl dX6_digest_124 rfl (by decide) rfl (fun ls hl => ?_)
                    have L_125_5 : ∀ (nmu : Nat) (k : Nat) (h5 : Int) (v : Int), 3 - k < nmu → (v = k ∧ v ≤ 3) → (h5 = dgY (mI now) (mT now) (now 0) k h3) → ∀ (H : Heap) (locs : List Loc) (ls : Array Slot), XW D A s.heap (W_Mdg y hMo a_now a_asd a_pst a_mrf a_txt a_olt a_ofr a_nbs a_best a_wys a_rwx a_shx a_bef now msts mrf mbyt mord best wys rwx alw bco alm abt shx_58 mlt beg figm) H locs → lv_has ls 5 [(0, .ref hMo), (1, .long (lI h5)), (3, .int (iI v))] → W p l e rm_X6_digest s m args below meth cX H locs 0 0 Q (F0 m 125 ls []) := by
                      intro nmu
                      induction nmu with
                      | zero =>
                        intro k h5 v hmu
                        exact absurd hmu (Nat.not_lt_zero _)
                      | succ nmu ih =>
                        intro k h5 v hmu hv h5h H locs ls hX hl
                        have ih_125_5 := ih
                        clear ih
                        refine xr_iload_n E hl 2 rfl dX6_digest_125 rfl ?_
                        refine xr_iconst E dX6_digest_126 ?_
                        refine xr_icmp_ge (tgt := 166) E dX6_digest_127 (by decide) ⟨by omega, by omega⟩ (by decide) (fun c_127 => ?_) (fun c_127 => ?_)
                        · have c_127 := c_127
                          refine xr_aload_n E hl 0 rfl dX6_digest_166 rfl ?_
                          refine xk_i (W2 := fun uu => (W_Mdg y hMo a_now a_asd a_pst a_mrf a_txt a_olt a_ofr a_nbs a_best a_wys a_rwx a_shx a_bef now msts mrf mbyt mord uu.1 uu.2.1 uu.2.2.1 uu.2.2.2.1 uu.2.2.2.2.1 uu.2.2.2.2.2.1 uu.2.2.2.2.2.2 shx_58 mlt beg figm)) E hX [0, 1, 3, 4, 5] rfl (xv_V (As := []) E hX hl (c_X6_bend l D y z _ hMo a_now a_asd a_pst a_mrf a_txt a_olt a_ofr a_nbs a_best a_wys a_rwx a_shx a_bef now msts mbyt mord best wys rwx alw bco alm abt mlt beg figm H_M) ml_X6_86 im_X6_bend se_X6_bend in_X6 co_X6_bend 0 (by decide) ⟨rfl, rfl⟩ ⟨Nat.le_of_ble_eq_true rfl, Nat.le_of_ble_eq_true rfl⟩ [0, 1, 3, 4, 5] rfl rfl 0 rfl rfl rfl rfl rfl (Nat.le_of_ble_eq_true rfl) dX6_digest_167 ⟨Nat.le_refl _, Nat.le_refl _⟩) [0, 1, 7, 2, 3, 4, 11] 5 (fun _ => rfl) (fun _ => rfl) (by decide) (by decide) (fun r_167 uu H locs hw hX => ?_)
                          obtain ⟨best_167, wys_167, rwx_167, alw_167, bco_167, alm_167, abt_167⟩ := uu
                          have hX : XW D A s.heap (W_Mdg y hMo a_now a_asd a_pst a_mrf a_txt a_olt a_ofr a_nbs a_best a_wys a_rwx a_shx a_bef now msts mrf mbyt mord best_167 wys_167 rwx_167 alw_167 bco_167 alm_167 abt_167 shx_58 mlt beg figm) H locs := hX
                          try dsimp only at hw
                          obtain ⟨rfl, hp_167⟩ := hw
                          refine xr_istore_n (lv' := [(3, .int (bB (xMt (mI now) (mT now) (mP now) (now 0) (now 28) (now 29) (-1)))), (0, .ref hMo), (1, .long (lI h5))]) E hl dX6_digest_170 rfl (by decide) rfl (fun ls hl => ?_)
                          refine xr_ldc2 (n := 31) E kl_X6_247 dX6_digest_171 (by decide) ?_
                          refine xr_lload_n E hl 2 rfl dX6_digest_174 rfl ?_
                          refine xr_lmul E dX6_digest_175 ?_
                          refine xr_iload_n E hl 0 rfl dX6_digest_176 rfl ?_
                          refine xr_if_eqB (tgt := 184) E dX6_digest_177 (by decide) (fun c_177 => ?_) (fun c_177 => ?_)
                          · have c_177 := c_177
                            refine xr_iconst E dX6_digest_184 ?_
                            refine xr_i2l E dX6_digest_185 (by decide) ?_
                            refine xr_ladd E dX6_digest_186 ?_
                            refine xr_lstore_n (lv' := [(1, .long (lI ((31 * h5) + 0))), (3, .int (bB (xMt (mI now) (mT now) (mP now) (now 0) (now 28) (now 29) (-1)))), (0, .ref hMo)]) E hl dX6_digest_187 rfl (by decide) rfl (fun ls hl => ?_)
                            refine xr_iconst E dX6_digest_188 ?_
                            refine xr_istore (lv' := [(4, .int (iI 0)), (1, .long (lI ((31 * h5) + 0))), (3, .int (bB (xMt (mI now) (mT now) (mP now) (now 0) (now 28) (now 29) (-1)))), (0, .ref hMo)]) E hl dX6_digest_189 (by decide) rfl (fun ls hl => ?_)
                            have L_191_7 : ∀ (nmu : Nat) (n2 : Nat) (h7 : Int) (t : Int), 12 - n2 < nmu → (t = n2 ∧ t ≤ now 0) → (n2 = 0 ∨ xMt (mI now) (mT now) (mP now) (now 0) (now 28) (now 29) (-1) = true) → (h7 = dgI (fun t => xRow (mI now) (mT now) (mP now) (now 0) (now 28) (now 29) (now 30) t + 8) n2 (31 * h5 + (if xMt (mI now) (mT now) (mP now) (now 0) (now 28) (now 29) (-1) = true then 1 else 0))) → ∀ (H : Heap) (locs : List Loc) (ls : Array Slot), XW D A s.heap (W_Mdg y hMo a_now a_asd a_pst a_mrf a_txt a_olt a_ofr a_nbs a_best a_wys a_rwx a_shx a_bef now msts mrf mbyt mord best_167 wys_167 rwx_167 alw_167 bco_167 alm_167 abt_167 shx_58 mlt beg figm) H locs → lv_has ls 5 [(0, .ref hMo), (1, .long (lI h7)), (3, .int (bB (xMt (mI now) (mT now) (mP now) (now 0) (now 28) (now 29) (-1)))), (4, .int (iI t))] → W p l e rm_X6_digest s m args below meth cX H locs 0 0 Q (F0 m 191 ls []) := by
                              intro nmu
                              induction nmu with
                              | zero =>
                                intro n2 h7 t hmu
                                exact absurd hmu (Nat.not_lt_zero _)
                              | succ nmu ih =>
                                intro n2 h7 t hmu ht hn2 h7h H locs ls hX hl
                                have ih_191_7 := ih
                                clear ih
                                refine xr_iload E hl 3 rfl dX6_digest_191 ?_
                                refine xr_aload_n E hl 0 rfl dX6_digest_193 rfl ?_
                                refine xr_get E hX 0 rfl rfl ly_X6 0 (by decide) fl_X6_7 rfl dX6_digest_194 ?_
                                refine xr_iconst E dX6_digest_197 ?_
                                refine xr_iald E hX 1 rfl (by omega) (by omega) (by decide) dX6_digest_198 ?_
                                refine xr_icmp_ge (tgt := 231) E dX6_digest_199 (by decide) ⟨by omega, by omega⟩ ⟨by omega, by omega⟩ (fun c_199 => ?_) (fun c_199 => ?_)
                                · have c_199 := c_199
                                  refine xr_iconst E dX6_digest_231 ?_
                                  refine xr_istore (lv' := [(4, .int (iI 0)), (0, .ref hMo), (1, .long (lI h7)), (3, .int (bB (xMt (mI now) (mT now) (mP now) (now 0) (now 28) (now 29) (-1))))]) E hl dX6_digest_232 (by decide) rfl (fun ls hl => ?_)
                                  have L_234_8 : ∀ (nmu : Nat) (j2 : Nat) (h8 : Int) (k2 : Int), 2 - j2 < nmu → (k2 = j2 ∧ k2 ≤ 2) → (j2 = 0 ∨ xMt (mI now) (mT now) (mP now) (now 0) (now 28) (now 29) (-1) = true) → (h8 = dgI (fun k => xMoved (mI now) (xRow (mI now) (mT now) (mP now) (now 0) (now 28) (now 29) (now 30)) (now 0) k) j2 h7) → ∀ (H : Heap) (locs : List Loc) (ls : Array Slot), XW D A s.heap (W_Mdg y hMo a_now a_asd a_pst a_mrf a_txt a_olt a_ofr a_nbs a_best a_wys a_rwx a_shx a_bef now msts mrf mbyt mord best_167 wys_167 rwx_167 alw_167 bco_167 alm_167 abt_167 shx_58 mlt beg figm) H locs → lv_has ls 5 [(0, .ref hMo), (1, .long (lI h8)), (3, .int (bB (xMt (mI now) (mT now) (mP now) (now 0) (now 28) (now 29) (-1)))), (4, .int (iI k2))] → W p l e rm_X6_digest s m args below meth cX H locs 0 0 Q (F0 m 234 ls []) := by
                                    intro nmu
                                    induction nmu with
                                    | zero =>
                                      intro j2 h8 k2 hmu
                                      exact absurd hmu (Nat.not_lt_zero _)
                                    | succ nmu ih =>
                                      intro j2 h8 k2 hmu hk2 hj2 h8h H locs ls hX hl
                                      have ih_234_8 := ih
                                      clear ih
                                      refine xr_iload E hl 3 rfl dX6_digest_234 ?_
                                      refine xr_iconst E dX6_digest_236 ?_
                                      refine xr_icmp_ge (tgt := 267) E dX6_digest_237 (by decide) ⟨by omega, by omega⟩ (by decide) (fun c_237 => ?_) (fun c_237 => ?_)
                                      · have c_237 := c_237
                                        refine xr_iconst E dX6_digest_267 ?_
                                        refine xr_istore (lv' := [(4, .int (iI 0)), (0, .ref hMo), (1, .long (lI h8)), (3, .int (bB (xMt (mI now) (mT now) (mP now) (now 0) (now 28) (now 29) (-1))))]) E hl dX6_digest_268 (by decide) rfl (fun ls hl => ?_)
                                        have L_270_9 : ∀ (nmu : Nat) (j3 : Nat) (h9 : Int) (k3 : Int), 2 - j3 < nmu → (k3 = j3 ∧ k3 ≤ 2) → (h9 = dgI (fun k => xMoved (mI now) (xShare (mI now) (mT now) (now 0)) (now 0) k) j3 (dgB (mI now) (mT now) (mP now) (now 0) (now 28) (now 29) (now 30) h5)) → ∀ (H : Heap) (locs : List Loc) (ls : Array Slot), XW D A s.heap (W_Mdg y hMo a_now a_asd a_pst a_mrf a_txt a_olt a_ofr a_nbs a_best a_wys a_rwx a_shx a_bef now msts mrf mbyt mord best_167 wys_167 rwx_167 alw_167 bco_167 alm_167 abt_167 shx_58 mlt beg figm) H locs → lv_has ls 5 [(0, .ref hMo), (1, .long (lI h9)), (4, .int (iI k3))] → W p l e rm_X6_digest s m args below meth cX H locs 0 0 Q (F0 m 270 ls []) := by
                                          intro nmu
                                          induction nmu with
                                          | zero =>
                                            intro j3 h9 k3 hmu
                                            exact absurd hmu (Nat.not_lt_zero _)
                                          | succ nmu ih =>
                                            intro j3 h9 k3 hmu hk3 h9h H locs ls hX hl
                                            have ih_270_9 := ih
                                            clear ih
                                            refine xr_iload E hl 2 rfl dX6_digest_270 ?_
                                            refine xr_iconst E dX6_digest_272 ?_
                                            refine xr_icmp_ge (tgt := 299) E dX6_digest_273 (by decide) ⟨by omega, by omega⟩ (by decide) (fun c_273 => ?_) (fun c_273 => ?_)
                                            · have c_273 := c_273
                                              refine xr_lload_n E hl 1 rfl dX6_digest_299 rfl ?_
                                              exact xr_lret E hX hQ (best_167, wys_167, rwx_167, alw_167, bco_167, alm_167, abt_167, shx_58) hr ⟨by unfold xDig dgFg; rw [h9h, h5h, h3h, h2h, hh, show j3 = 2 by omega, show k = 3 by omega, show (now 0).toNat = n1 by omega, show j = 6 by omega, show n = 5 by omega], trivial⟩ rfl dX6_digest_300
                                            · have c_273 := c_273
                                              refine xr_ldc2 (n := 31) E kl_X6_247 dX6_digest_276 (by decide) ?_
                                              refine xr_lload_n E hl 1 rfl dX6_digest_279 rfl ?_
                                              refine xr_lmul E dX6_digest_280 ?_
                                              refine xr_aload_n E hl 0 rfl dX6_digest_281 rfl ?_
                                              refine xr_iload E hl 2 rfl dX6_digest_282 ?_
                                              refine xr_aload_n E hl 0 rfl dX6_digest_284 rfl ?_
                                              refine xr_get E hX 0 rfl rfl ly_X6 18 (by decide) fl_X6_44 rfl dX6_digest_285 ?_
                                              refine xk_rl E hX [0, 1, 6] rfl (xv_V (As := [.int (iI k3), .ref a_shx]) E hX hl (c_X6_movedBy l D y z _ hMo a_now a_asd a_pst a_mrf a_txt a_olt a_ofr a_nbs a_best a_wys a_rwx a_shx a_bef a_shx now msts mbyt mord alw_167 bco_167 alm_167 abt_167 mlt beg figm shx_58 k3 H_M (fun t h0 h1 => by have h9 := xShare_bd H_M h0 h1; rw [hp_58 t h0 h1]; exact h9) ⟨by omega, by omega⟩) ml_X6_194 im_X6_movedBy se_X6_movedBy in_X6 co_X6_movedBy 2 (by decide) ⟨rfl, rfl⟩ ⟨Nat.le_of_ble_eq_true rfl, Nat.le_of_ble_eq_true rfl⟩ [0, 1, 6] rfl rfl 0 rfl rfl rfl rfl rfl (Nat.le_of_ble_eq_true rfl) dX6_digest_288 ⟨Nat.le_refl _, Nat.le_refl _⟩) (fun r_288 H locs hw hX => ?_)
                                              subst hw
                                              refine xr_ladd E dX6_digest_291 ?_
                                              refine xr_lstore_n (lv' := [(1, .long (lI ((31 * h9) + xMoved (mI now) shx_58 (now 0) k3))), (0, .ref hMo), (4, .int (iI k3))]) E hl dX6_digest_292 rfl (by decide) rfl (fun ls hl => ?_)
                                              refine xr_iinc (k := 2) (lv' := [(4, .int (iI (k3 + 1))), (1, .long (lI ((31 * h9) + xMoved (mI now) shx_58 (now 0) k3))), (0, .ref hMo)]) E hl rfl dX6_digest_293 (by decide) rfl (fun ls hl => ?_)
                                              refine xr_goto (tgt := 270) E dX6_digest_296 (by decide) ?_
                                              exact ih_270_9 (j3 + 1) ((31 * h9) + xMoved (mI now) shx_58 (now 0) k3) (k3 + 1) (by omega) (by omega) (by rw [dgI_s, ← h9h, ← hk3.1, xMoved_cong hp_58]) _ _ _ hX (lv_sub hl [2, 1, 0] rfl)
                                        exact L_270_9 _ 0 h8 0 (Nat.lt_succ_self _) (by omega) (by show _ = dgB (mI now) (mT now) (mP now) (now 0) (now 28) (now 29) (now 30) h5; unfold dgB; refine (Classical.em (xMt (mI now) (mT now) (mP now) (now 0) (now 28) (now 29) (-1) = true)).elim (fun hm => ?_) (fun hm => ?_); (first | exact absurd (c_203.symm.trans hm) (by decide) | exact absurd (c_241.symm.trans hm) (by decide) | (rw [if_pos hm, h8h, show j2 = 2 by omega, h7h, show (now 0).toNat = n2 by omega, if_pos hm])); (rw [if_neg hm, h8h, show j2 = 0 by (rcases hj2 with h | h; exact h; exact absurd h hm), h7h, show n2 = 0 by (rcases hn2 with h | h; exact h; exact absurd h hm), if_neg hm]; show 31 * h5 + 0 = 31 * h5; omega)) _ _ _ hX (lv_sub hl [1, 2, 0] rfl)
                                      · have c_237 := c_237
                                        refine xr_iload_n E hl 2 rfl dX6_digest_240 rfl ?_
                                        refine xr_if_eqB (tgt := 267) E dX6_digest_241 (by decide) (fun c_241 => ?_) (fun c_241 => ?_)
                                        · have c_241 := c_241
                                          refine xr_iconst E dX6_digest_267 ?_
                                          refine xr_istore (lv' := [(4, .int (iI 0)), (0, .ref hMo), (1, .long (lI h8)), (3, .int (bB (xMt (mI now) (mT now) (mP now) (now 0) (now 28) (now 29) (-1))))]) E hl dX6_digest_268 (by decide) rfl (fun ls hl => ?_)
                                          have L_270_10 : ∀ (nmu : Nat) (j3 : Nat) (h9 : Int) (k3 : Int), 2 - j3 < nmu → (k3 = j3 ∧ k3 ≤ 2) → (h9 = dgI (fun k => xMoved (mI now) (xShare (mI now) (mT now) (now 0)) (now 0) k) j3 (dgB (mI now) (mT now) (mP now) (now 0) (now 28) (now 29) (now 30) h5)) → ∀ (H : Heap) (locs : List Loc) (ls : Array Slot), XW D A s.heap (W_Mdg y hMo a_now a_asd a_pst a_mrf a_txt a_olt a_ofr a_nbs a_best a_wys a_rwx a_shx a_bef now msts mrf mbyt mord best_167 wys_167 rwx_167 alw_167 bco_167 alm_167 abt_167 shx_58 mlt beg figm) H locs → lv_has ls 5 [(0, .ref hMo), (1, .long (lI h9)), (4, .int (iI k3))] → W p l e rm_X6_digest s m args below meth cX H locs 0 0 Q (F0 m 270 ls []) := by
                                            intro nmu
                                            induction nmu with
                                            | zero =>
                                              intro j3 h9 k3 hmu
                                              exact absurd hmu (Nat.not_lt_zero _)
                                            | succ nmu ih =>
                                              intro j3 h9 k3 hmu hk3 h9h H locs ls hX hl
                                              have ih_270_10 := ih
                                              clear ih
                                              refine xr_iload E hl 2 rfl dX6_digest_270 ?_
                                              refine xr_iconst E dX6_digest_272 ?_
                                              refine xr_icmp_ge (tgt := 299) E dX6_digest_273 (by decide) ⟨by omega, by omega⟩ (by decide) (fun c_273 => ?_) (fun c_273 => ?_)
                                              · have c_273 := c_273
                                                refine xr_lload_n E hl 1 rfl dX6_digest_299 rfl ?_
                                                exact xr_lret E hX hQ (best_167, wys_167, rwx_167, alw_167, bco_167, alm_167, abt_167, shx_58) hr ⟨by unfold xDig dgFg; rw [h9h, h5h, h3h, h2h, hh, show j3 = 2 by omega, show k = 3 by omega, show (now 0).toNat = n1 by omega, show j = 6 by omega, show n = 5 by omega], trivial⟩ rfl dX6_digest_300
                                              · have c_273 := c_273
                                                refine xr_ldc2 (n := 31) E kl_X6_247 dX6_digest_276 (by decide) ?_
                                                refine xr_lload_n E hl 1 rfl dX6_digest_279 rfl ?_
                                                refine xr_lmul E dX6_digest_280 ?_
                                                refine xr_aload_n E hl 0 rfl dX6_digest_281 rfl ?_
                                                refine xr_iload E hl 2 rfl dX6_digest_282 ?_
                                                refine xr_aload_n E hl 0 rfl dX6_digest_284 rfl ?_
                                                refine xr_get E hX 0 rfl rfl ly_X6 18 (by decide) fl_X6_44 rfl dX6_digest_285 ?_
                                                refine xk_rl E hX [0, 1, 6] rfl (xv_V (As := [.int (iI k3), .ref a_shx]) E hX hl (c_X6_movedBy l D y z _ hMo a_now a_asd a_pst a_mrf a_txt a_olt a_ofr a_nbs a_best a_wys a_rwx a_shx a_bef a_shx now msts mbyt mord alw_167 bco_167 alm_167 abt_167 mlt beg figm shx_58 k3 H_M (fun t h0 h1 => by have h9 := xShare_bd H_M h0 h1; rw [hp_58 t h0 h1]; exact h9) ⟨by omega, by omega⟩) ml_X6_194 im_X6_movedBy se_X6_movedBy in_X6 co_X6_movedBy 2 (by decide) ⟨rfl, rfl⟩ ⟨Nat.le_of_ble_eq_true rfl, Nat.le_of_ble_eq_true rfl⟩ [0, 1, 6] rfl rfl 0 rfl rfl rfl rfl rfl (Nat.le_of_ble_eq_true rfl) dX6_digest_288 ⟨Nat.le_refl _, Nat.le_refl _⟩) (fun r_288 H locs hw hX => ?_)
                                                subst hw
                                                refine xr_ladd E dX6_digest_291 ?_
                                                refine xr_lstore_n (lv' := [(1, .long (lI ((31 * h9) + xMoved (mI now) shx_58 (now 0) k3))), (0, .ref hMo), (4, .int (iI k3))]) E hl dX6_digest_292 rfl (by decide) rfl (fun ls hl => ?_)
                                                refine xr_iinc (k := 2) (lv' := [(4, .int (iI (k3 + 1))), (1, .long (lI ((31 * h9) + xMoved (mI now) shx_58 (now 0) k3))), (0, .ref hMo)]) E hl rfl dX6_digest_293 (by decide) rfl (fun ls hl => ?_)
                                                refine xr_goto (tgt := 270) E dX6_digest_296 (by decide) ?_
                                                exact ih_270_10 (j3 + 1) ((31 * h9) + xMoved (mI now) shx_58 (now 0) k3) (k3 + 1) (by omega) (by omega) (by rw [dgI_s, ← h9h, ← hk3.1, xMoved_cong hp_58]) _ _ _ hX (lv_sub hl [2, 1, 0] rfl)
                                          exact L_270_10 _ 0 h8 0 (Nat.lt_succ_self _) (by omega) (by show _ = dgB (mI now) (mT now) (mP now) (now 0) (now 28) (now 29) (now 30) h5; unfold dgB; refine (Classical.em (xMt (mI now) (mT now) (mP now) (now 0) (now 28) (now 29) (-1) = true)).elim (fun hm => ?_) (fun hm => ?_); (first | exact absurd (c_203.symm.trans hm) (by decide) | exact absurd (c_241.symm.trans hm) (by decide) | (rw [if_pos hm, h8h, show j2 = 2 by omega, h7h, show (now 0).toNat = n2 by omega, if_pos hm])); (rw [if_neg hm, h8h, show j2 = 0 by (rcases hj2 with h | h; exact h; exact absurd h hm), h7h, show n2 = 0 by (rcases hn2 with h | h; exact h; exact absurd h hm), if_neg hm]; show 31 * h5 + 0 = 31 * h5; omega)) _ _ _ hX (lv_sub hl [1, 2, 0] rfl)
                                        · have c_241 := c_241
                                          refine xr_ldc2 (n := 31) E kl_X6_247 dX6_digest_244 (by decide) ?_
                                          refine xr_lload_n E hl 1 rfl dX6_digest_247 rfl ?_
                                          refine xr_lmul E dX6_digest_248 ?_
                                          refine xr_aload_n E hl 0 rfl dX6_digest_249 rfl ?_
                                          refine xr_iload E hl 3 rfl dX6_digest_250 ?_
                                          refine xr_aload_n E hl 0 rfl dX6_digest_252 rfl ?_
                                          refine xr_get E hX 0 rfl rfl ly_X6 13 (by decide) fl_X6_41 rfl dX6_digest_253 ?_
                                          refine xk_rl E hX [0, 1, 5] rfl (xv_V (As := [.int (iI k2), .ref a_rwx]) E hX hl (c_X6_movedBy l D y z _ hMo a_now a_asd a_pst a_mrf a_txt a_olt a_ofr a_nbs a_best a_wys a_rwx a_shx a_bef a_rwx now msts mbyt mord alw_167 bco_167 alm_167 abt_167 mlt beg figm rwx_167 k2 H_M (fun t h0 h1 => by have h9 := xRow_bd (sh := now 30) (t := t) H_M hli c_241 h0 h1; rw [(hp_167 c_241).2.2 t h0 h1]; omega) ⟨by omega, by omega⟩) ml_X6_194 im_X6_movedBy se_X6_movedBy in_X6 co_X6_movedBy 2 (by decide) ⟨rfl, rfl⟩ ⟨Nat.le_of_ble_eq_true rfl, Nat.le_of_ble_eq_true rfl⟩ [0, 1, 5] rfl rfl 0 rfl rfl rfl rfl rfl (Nat.le_of_ble_eq_true rfl) dX6_digest_256 ⟨Nat.le_refl _, Nat.le_refl _⟩) (fun r_256 H locs hw hX => ?_)
                                          subst hw
                                          refine xr_ladd E dX6_digest_259 ?_
                                          refine xr_lstore_n (lv' := [(1, .long (lI ((31 * h8) + xMoved (mI now) rwx_167 (now 0) k2))), (0, .ref hMo), (3, .int (bB (xMt (mI now) (mT now) (mP now) (now 0) (now 28) (now 29) (-1)))), (4, .int (iI k2))]) E hl dX6_digest_260 rfl (by decide) rfl (fun ls hl => ?_)
                                          refine xr_iinc (k := 3) (lv' := [(4, .int (iI (k2 + 1))), (1, .long (lI ((31 * h8) + xMoved (mI now) rwx_167 (now 0) k2))), (0, .ref hMo), (3, .int (bB (xMt (mI now) (mT now) (mP now) (now 0) (now 28) (now 29) (-1))))]) E hl rfl dX6_digest_261 (by decide) rfl (fun ls hl => ?_)
                                          refine xr_goto (tgt := 234) E dX6_digest_264 (by decide) ?_
                                          exact ih_234_8 (j2 + 1) ((31 * h8) + xMoved (mI now) rwx_167 (now 0) k2) (k2 + 1) (by omega) (by omega) (Or.inr c_241) (by rw [dgI_s, ← h8h, ← hk2.1, xMoved_cong (hp_167 c_241).2.2]) _ _ _ hX (lv_sub hl [2, 1, 3, 0] rfl)
                                  exact L_234_8 _ 0 h7 0 (Nat.lt_succ_self _) (by omega) (Or.inl rfl) rfl _ _ _ hX (lv_sub hl [1, 2, 3, 0] rfl)
                                · have c_199 := c_199
                                  refine xr_iload_n E hl 2 rfl dX6_digest_202 rfl ?_
                                  refine xr_if_eqB (tgt := 231) E dX6_digest_203 (by decide) (fun c_203 => ?_) (fun c_203 => ?_)
                                  · have c_203 := c_203
                                    refine xr_iconst E dX6_digest_231 ?_
                                    refine xr_istore (lv' := [(4, .int (iI 0)), (0, .ref hMo), (1, .long (lI h7)), (3, .int (bB (xMt (mI now) (mT now) (mP now) (now 0) (now 28) (now 29) (-1))))]) E hl dX6_digest_232 (by decide) rfl (fun ls hl => ?_)
                                    have L_234_11 : ∀ (nmu : Nat) (j2 : Nat) (h8 : Int) (k2 : Int), 2 - j2 < nmu → (k2 = j2 ∧ k2 ≤ 2) → (j2 = 0 ∨ xMt (mI now) (mT now) (mP now) (now 0) (now 28) (now 29) (-1) = true) → (h8 = dgI (fun k => xMoved (mI now) (xRow (mI now) (mT now) (mP now) (now 0) (now 28) (now 29) (now 30)) (now 0) k) j2 h7) → ∀ (H : Heap) (locs : List Loc) (ls : Array Slot), XW D A s.heap (W_Mdg y hMo a_now a_asd a_pst a_mrf a_txt a_olt a_ofr a_nbs a_best a_wys a_rwx a_shx a_bef now msts mrf mbyt mord best_167 wys_167 rwx_167 alw_167 bco_167 alm_167 abt_167 shx_58 mlt beg figm) H locs → lv_has ls 5 [(0, .ref hMo), (1, .long (lI h8)), (3, .int (bB (xMt (mI now) (mT now) (mP now) (now 0) (now 28) (now 29) (-1)))), (4, .int (iI k2))] → W p l e rm_X6_digest s m args below meth cX H locs 0 0 Q (F0 m 234 ls []) := by
                                      intro nmu
                                      induction nmu with
                                      | zero =>
                                        intro j2 h8 k2 hmu
                                        exact absurd hmu (Nat.not_lt_zero _)
                                      | succ nmu ih =>
                                        intro j2 h8 k2 hmu hk2 hj2 h8h H locs ls hX hl
                                        have ih_234_11 := ih
                                        clear ih
                                        refine xr_iload E hl 3 rfl dX6_digest_234 ?_
                                        refine xr_iconst E dX6_digest_236 ?_
                                        refine xr_icmp_ge (tgt := 267) E dX6_digest_237 (by decide) ⟨by omega, by omega⟩ (by decide) (fun c_237 => ?_) (fun c_237 => ?_)
                                        · have c_237 := c_237
                                          refine xr_iconst E dX6_digest_267 ?_
                                          refine xr_istore (lv' := [(4, .int (iI 0)), (0, .ref hMo), (1, .long (lI h8)), (3, .int (bB (xMt (mI now) (mT now) (mP now) (now 0) (now 28) (now 29) (-1))))]) E hl dX6_digest_268 (by decide) rfl (fun ls hl => ?_)
                                          have L_270_12 : ∀ (nmu : Nat) (j3 : Nat) (h9 : Int) (k3 : Int), 2 - j3 < nmu → (k3 = j3 ∧ k3 ≤ 2) → (h9 = dgI (fun k => xMoved (mI now) (xShare (mI now) (mT now) (now 0)) (now 0) k) j3 (dgB (mI now) (mT now) (mP now) (now 0) (now 28) (now 29) (now 30) h5)) → ∀ (H : Heap) (locs : List Loc) (ls : Array Slot), XW D A s.heap (W_Mdg y hMo a_now a_asd a_pst a_mrf a_txt a_olt a_ofr a_nbs a_best a_wys a_rwx a_shx a_bef now msts mrf mbyt mord best_167 wys_167 rwx_167 alw_167 bco_167 alm_167 abt_167 shx_58 mlt beg figm) H locs → lv_has ls 5 [(0, .ref hMo), (1, .long (lI h9)), (4, .int (iI k3))] → W p l e rm_X6_digest s m args below meth cX H locs 0 0 Q (F0 m 270 ls []) := by
                                            intro nmu
                                            induction nmu with
                                            | zero =>
                                              intro j3 h9 k3 hmu
                                              exact absurd hmu (Nat.not_lt_zero _)
                                            | succ nmu ih =>
                                              intro j3 h9 k3 hmu hk3 h9h H locs ls hX hl
                                              have ih_270_12 := ih
                                              clear ih
                                              refine xr_iload E hl 2 rfl dX6_digest_270 ?_
                                              refine xr_iconst E dX6_digest_272 ?_
                                              refine xr_icmp_ge (tgt := 299) E dX6_digest_273 (by decide) ⟨by omega, by omega⟩ (by decide) (fun c_273 => ?_) (fun c_273 => ?_)
                                              · have c_273 := c_273
                                                refine xr_lload_n E hl 1 rfl dX6_digest_299 rfl ?_
                                                exact xr_lret E hX hQ (best_167, wys_167, rwx_167, alw_167, bco_167, alm_167, abt_167, shx_58) hr ⟨by unfold xDig dgFg; rw [h9h, h5h, h3h, h2h, hh, show j3 = 2 by omega, show k = 3 by omega, show (now 0).toNat = n1 by omega, show j = 6 by omega, show n = 5 by omega], trivial⟩ rfl dX6_digest_300
                                              · have c_273 := c_273
                                                refine xr_ldc2 (n := 31) E kl_X6_247 dX6_digest_276 (by decide) ?_
                                                refine xr_lload_n E hl 1 rfl dX6_digest_279 rfl ?_
                                                refine xr_lmul E dX6_digest_280 ?_
                                                refine xr_aload_n E hl 0 rfl dX6_digest_281 rfl ?_
                                                refine xr_iload E hl 2 rfl dX6_digest_282 ?_
                                                refine xr_aload_n E hl 0 rfl dX6_digest_284 rfl ?_
                                                refine xr_get E hX 0 rfl rfl ly_X6 18 (by decide) fl_X6_44 rfl dX6_digest_285 ?_
                                                refine xk_rl E hX [0, 1, 6] rfl (xv_V (As := [.int (iI k3), .ref a_shx]) E hX hl (c_X6_movedBy l D y z _ hMo a_now a_asd a_pst a_mrf a_txt a_olt a_ofr a_nbs a_best a_wys a_rwx a_shx a_bef a_shx now msts mbyt mord alw_167 bco_167 alm_167 abt_167 mlt beg figm shx_58 k3 H_M (fun t h0 h1 => by have h9 := xShare_bd H_M h0 h1; rw [hp_58 t h0 h1]; exact h9) ⟨by omega, by omega⟩) ml_X6_194 im_X6_movedBy se_X6_movedBy in_X6 co_X6_movedBy 2 (by decide) ⟨rfl, rfl⟩ ⟨Nat.le_of_ble_eq_true rfl, Nat.le_of_ble_eq_true rfl⟩ [0, 1, 6] rfl rfl 0 rfl rfl rfl rfl rfl (Nat.le_of_ble_eq_true rfl) dX6_digest_288 ⟨Nat.le_refl _, Nat.le_refl _⟩) (fun r_288 H locs hw hX => ?_)
                                                subst hw
                                                refine xr_ladd E dX6_digest_291 ?_
                                                refine xr_lstore_n (lv' := [(1, .long (lI ((31 * h9) + xMoved (mI now) shx_58 (now 0) k3))), (0, .ref hMo), (4, .int (iI k3))]) E hl dX6_digest_292 rfl (by decide) rfl (fun ls hl => ?_)
                                                refine xr_iinc (k := 2) (lv' := [(4, .int (iI (k3 + 1))), (1, .long (lI ((31 * h9) + xMoved (mI now) shx_58 (now 0) k3))), (0, .ref hMo)]) E hl rfl dX6_digest_293 (by decide) rfl (fun ls hl => ?_)
                                                refine xr_goto (tgt := 270) E dX6_digest_296 (by decide) ?_
                                                exact ih_270_12 (j3 + 1) ((31 * h9) + xMoved (mI now) shx_58 (now 0) k3) (k3 + 1) (by omega) (by omega) (by rw [dgI_s, ← h9h, ← hk3.1, xMoved_cong hp_58]) _ _ _ hX (lv_sub hl [2, 1, 0] rfl)
                                          exact L_270_12 _ 0 h8 0 (Nat.lt_succ_self _) (by omega) (by show _ = dgB (mI now) (mT now) (mP now) (now 0) (now 28) (now 29) (now 30) h5; unfold dgB; refine (Classical.em (xMt (mI now) (mT now) (mP now) (now 0) (now 28) (now 29) (-1) = true)).elim (fun hm => ?_) (fun hm => ?_); (first | exact absurd (c_203.symm.trans hm) (by decide) | exact absurd (c_241.symm.trans hm) (by decide) | (rw [if_pos hm, h8h, show j2 = 2 by omega, h7h, show (now 0).toNat = n2 by omega, if_pos hm])); (rw [if_neg hm, h8h, show j2 = 0 by (rcases hj2 with h | h; exact h; exact absurd h hm), h7h, show n2 = 0 by (rcases hn2 with h | h; exact h; exact absurd h hm), if_neg hm]; show 31 * h5 + 0 = 31 * h5; omega)) _ _ _ hX (lv_sub hl [1, 2, 0] rfl)
                                        · have c_237 := c_237
                                          refine xr_iload_n E hl 2 rfl dX6_digest_240 rfl ?_
                                          refine xr_if_eqB (tgt := 267) E dX6_digest_241 (by decide) (fun c_241 => ?_) (fun c_241 => ?_)
                                          · have c_241 := c_241
                                            refine xr_iconst E dX6_digest_267 ?_
                                            refine xr_istore (lv' := [(4, .int (iI 0)), (0, .ref hMo), (1, .long (lI h8)), (3, .int (bB (xMt (mI now) (mT now) (mP now) (now 0) (now 28) (now 29) (-1))))]) E hl dX6_digest_268 (by decide) rfl (fun ls hl => ?_)
                                            have L_270_13 : ∀ (nmu : Nat) (j3 : Nat) (h9 : Int) (k3 : Int), 2 - j3 < nmu → (k3 = j3 ∧ k3 ≤ 2) → (h9 = dgI (fun k => xMoved (mI now) (xShare (mI now) (mT now) (now 0)) (now 0) k) j3 (dgB (mI now) (mT now) (mP now) (now 0) (now 28) (now 29) (now 30) h5)) → ∀ (H : Heap) (locs : List Loc) (ls : Array Slot), XW D A s.heap (W_Mdg y hMo a_now a_asd a_pst a_mrf a_txt a_olt a_ofr a_nbs a_best a_wys a_rwx a_shx a_bef now msts mrf mbyt mord best_167 wys_167 rwx_167 alw_167 bco_167 alm_167 abt_167 shx_58 mlt beg figm) H locs → lv_has ls 5 [(0, .ref hMo), (1, .long (lI h9)), (4, .int (iI k3))] → W p l e rm_X6_digest s m args below meth cX H locs 0 0 Q (F0 m 270 ls []) := by
                                              intro nmu
                                              induction nmu with
                                              | zero =>
                                                intro j3 h9 k3 hmu
                                                exact absurd hmu (Nat.not_lt_zero _)
                                              | succ nmu ih =>
                                                intro j3 h9 k3 hmu hk3 h9h H locs ls hX hl
                                                have ih_270_13 := ih
                                                clear ih
                                                refine xr_iload E hl 2 rfl dX6_digest_270 ?_
                                                refine xr_iconst E dX6_digest_272 ?_
                                                refine xr_icmp_ge (tgt := 299) E dX6_digest_273 (by decide) ⟨by omega, by omega⟩ (by decide) (fun c_273 => ?_) (fun c_273 => ?_)
                                                · have c_273 := c_273
                                                  refine xr_lload_n E hl 1 rfl dX6_digest_299 rfl ?_
                                                  exact xr_lret E hX hQ (best_167, wys_167, rwx_167, alw_167, bco_167, alm_167, abt_167, shx_58) hr ⟨by unfold xDig dgFg; rw [h9h, h5h, h3h, h2h, hh, show j3 = 2 by omega, show k = 3 by omega, show (now 0).toNat = n1 by omega, show j = 6 by omega, show n = 5 by omega], trivial⟩ rfl dX6_digest_300
                                                · have c_273 := c_273
                                                  refine xr_ldc2 (n := 31) E kl_X6_247 dX6_digest_276 (by decide) ?_
                                                  refine xr_lload_n E hl 1 rfl dX6_digest_279 rfl ?_
                                                  refine xr_lmul E dX6_digest_280 ?_
                                                  refine xr_aload_n E hl 0 rfl dX6_digest_281 rfl ?_
                                                  refine xr_iload E hl 2 rfl dX6_digest_282 ?_
                                                  refine xr_aload_n E hl 0 rfl dX6_digest_284 rfl ?_
                                                  refine xr_get E hX 0 rfl rfl ly_X6 18 (by decide) fl_X6_44 rfl dX6_digest_285 ?_
                                                  refine xk_rl E hX [0, 1, 6] rfl (xv_V (As := [.int (iI k3), .ref a_shx]) E hX hl (c_X6_movedBy l D y z _ hMo a_now a_asd a_pst a_mrf a_txt a_olt a_ofr a_nbs a_best a_wys a_rwx a_shx a_bef a_shx now msts mbyt mord alw_167 bco_167 alm_167 abt_167 mlt beg figm shx_58 k3 H_M (fun t h0 h1 => by have h9 := xShare_bd H_M h0 h1; rw [hp_58 t h0 h1]; exact h9) ⟨by omega, by omega⟩) ml_X6_194 im_X6_movedBy se_X6_movedBy in_X6 co_X6_movedBy 2 (by decide) ⟨rfl, rfl⟩ ⟨Nat.le_of_ble_eq_true rfl, Nat.le_of_ble_eq_true rfl⟩ [0, 1, 6] rfl rfl 0 rfl rfl rfl rfl rfl (Nat.le_of_ble_eq_true rfl) dX6_digest_288 ⟨Nat.le_refl _, Nat.le_refl _⟩) (fun r_288 H locs hw hX => ?_)
                                                  subst hw
                                                  refine xr_ladd E dX6_digest_291 ?_
                                                  refine xr_lstore_n (lv' := [(1, .long (lI ((31 * h9) + xMoved (mI now) shx_58 (now 0) k3))), (0, .ref hMo), (4, .int (iI k3))]) E hl dX6_digest_292 rfl (by decide) rfl (fun ls hl => ?_)
                                                  refine xr_iinc (k := 2) (lv' := [(4, .int (iI (k3 + 1))), (1, .long (lI ((31 * h9) + xMoved (mI now) shx_58 (now 0) k3))), (0, .ref hMo)]) E hl rfl dX6_digest_293 (by decide) rfl (fun ls hl => ?_)
                                                  refine xr_goto (tgt := 270) E dX6_digest_296 (by decide) ?_
                                                  exact ih_270_13 (j3 + 1) ((31 * h9) + xMoved (mI now) shx_58 (now 0) k3) (k3 + 1) (by omega) (by omega) (by rw [dgI_s, ← h9h, ← hk3.1, xMoved_cong hp_58]) _ _ _ hX (lv_sub hl [2, 1, 0] rfl)
                                            exact L_270_13 _ 0 h8 0 (Nat.lt_succ_self _) (by omega) (by show _ = dgB (mI now) (mT now) (mP now) (now 0) (now 28) (now 29) (now 30) h5; unfold dgB; refine (Classical.em (xMt (mI now) (mT now) (mP now) (now 0) (now 28) (now 29) (-1) = true)).elim (fun hm => ?_) (fun hm => ?_); (first | exact absurd (c_203.symm.trans hm) (by decide) | exact absurd (c_241.symm.trans hm) (by decide) | (rw [if_pos hm, h8h, show j2 = 2 by omega, h7h, show (now 0).toNat = n2 by omega, if_pos hm])); (rw [if_neg hm, h8h, show j2 = 0 by (rcases hj2 with h | h; exact h; exact absurd h hm), h7h, show n2 = 0 by (rcases hn2 with h | h; exact h; exact absurd h hm), if_neg hm]; show 31 * h5 + 0 = 31 * h5; omega)) _ _ _ hX (lv_sub hl [1, 2, 0] rfl)
                                          · have c_241 := c_241
                                            refine xr_ldc2 (n := 31) E kl_X6_247 dX6_digest_244 (by decide) ?_
                                            refine xr_lload_n E hl 1 rfl dX6_digest_247 rfl ?_
                                            refine xr_lmul E dX6_digest_248 ?_
                                            refine xr_aload_n E hl 0 rfl dX6_digest_249 rfl ?_
                                            refine xr_iload E hl 3 rfl dX6_digest_250 ?_
                                            refine xr_aload_n E hl 0 rfl dX6_digest_252 rfl ?_
                                            refine xr_get E hX 0 rfl rfl ly_X6 13 (by decide) fl_X6_41 rfl dX6_digest_253 ?_
                                            refine xk_rl E hX [0, 1, 5] rfl (xv_V (As := [.int (iI k2), .ref a_rwx]) E hX hl (c_X6_movedBy l D y z _ hMo a_now a_asd a_pst a_mrf a_txt a_olt a_ofr a_nbs a_best a_wys a_rwx a_shx a_bef a_rwx now msts mbyt mord alw_167 bco_167 alm_167 abt_167 mlt beg figm rwx_167 k2 H_M (fun t h0 h1 => by have h9 := xRow_bd (sh := now 30) (t := t) H_M hli c_241 h0 h1; rw [(hp_167 c_241).2.2 t h0 h1]; omega) ⟨by omega, by omega⟩) ml_X6_194 im_X6_movedBy se_X6_movedBy in_X6 co_X6_movedBy 2 (by decide) ⟨rfl, rfl⟩ ⟨Nat.le_of_ble_eq_true rfl, Nat.le_of_ble_eq_true rfl⟩ [0, 1, 5] rfl rfl 0 rfl rfl rfl rfl rfl (Nat.le_of_ble_eq_true rfl) dX6_digest_256 ⟨Nat.le_refl _, Nat.le_refl _⟩) (fun r_256 H locs hw hX => ?_)
                                            subst hw
                                            refine xr_ladd E dX6_digest_259 ?_
                                            refine xr_lstore_n (lv' := [(1, .long (lI ((31 * h8) + xMoved (mI now) rwx_167 (now 0) k2))), (0, .ref hMo), (3, .int (bB (xMt (mI now) (mT now) (mP now) (now 0) (now 28) (now 29) (-1)))), (4, .int (iI k2))]) E hl dX6_digest_260 rfl (by decide) rfl (fun ls hl => ?_)
                                            refine xr_iinc (k := 3) (lv' := [(4, .int (iI (k2 + 1))), (1, .long (lI ((31 * h8) + xMoved (mI now) rwx_167 (now 0) k2))), (0, .ref hMo), (3, .int (bB (xMt (mI now) (mT now) (mP now) (now 0) (now 28) (now 29) (-1))))]) E hl rfl dX6_digest_261 (by decide) rfl (fun ls hl => ?_)
                                            refine xr_goto (tgt := 234) E dX6_digest_264 (by decide) ?_
                                            exact ih_234_11 (j2 + 1) ((31 * h8) + xMoved (mI now) rwx_167 (now 0) k2) (k2 + 1) (by omega) (by omega) (Or.inr c_241) (by rw [dgI_s, ← h8h, ← hk2.1, xMoved_cong (hp_167 c_241).2.2]) _ _ _ hX (lv_sub hl [2, 1, 3, 0] rfl)
                                    exact L_234_11 _ 0 h7 0 (Nat.lt_succ_self _) (by omega) (Or.inl rfl) rfl _ _ _ hX (lv_sub hl [1, 2, 3, 0] rfl)
                                  · have c_203 := c_203
                                    have hrb := xRow_bd (sh := now 30) (t := t) H_M hli c_203 (by omega) (by omega)
                                    have hre := (hp_167 c_203).2.2 t (by omega) (by omega)
                                    refine xr_ldc2 (n := 31) E kl_X6_247 dX6_digest_206 (by decide) ?_
                                    refine xr_lload_n E hl 1 rfl dX6_digest_209 rfl ?_
                                    refine xr_lmul E dX6_digest_210 ?_
                                    refine xr_aload_n E hl 0 rfl dX6_digest_211 rfl ?_
                                    refine xr_get E hX 0 rfl rfl ly_X6 13 (by decide) fl_X6_41 rfl dX6_digest_212 ?_
                                    refine xr_iload E hl 3 rfl dX6_digest_215 ?_
                                    refine xr_iald E hX 5 rfl (by omega) (by omega) (by decide) dX6_digest_217 ?_
                                    refine xr_i2l E dX6_digest_218 ⟨by omega, by omega⟩ ?_
                                    refine xr_ladd E dX6_digest_219 ?_
                                    refine xr_ldc2 (n := 8) E kl_X6_249 dX6_digest_220 (by decide) ?_
                                    refine xr_ladd E dX6_digest_223 ?_
                                    refine xr_lstore_n (lv' := [(1, .long (lI (((31 * h7) + (rwx_167 t)) + 8))), (0, .ref hMo), (3, .int (bB (xMt (mI now) (mT now) (mP now) (now 0) (now 28) (now 29) (-1)))), (4, .int (iI t))]) E hl dX6_digest_224 rfl (by decide) rfl (fun ls hl => ?_)
                                    refine xr_iinc (k := 3) (lv' := [(4, .int (iI (t + 1))), (1, .long (lI (((31 * h7) + (rwx_167 t)) + 8))), (0, .ref hMo), (3, .int (bB (xMt (mI now) (mT now) (mP now) (now 0) (now 28) (now 29) (-1))))]) E hl rfl dX6_digest_225 (by decide) rfl (fun ls hl => ?_)
                                    refine xr_goto (tgt := 191) E dX6_digest_228 (by decide) ?_
                                    exact ih_191_7 (n2 + 1) (((31 * h7) + (rwx_167 t)) + 8) (t + 1) (by omega) (by omega) (Or.inr c_203) (by rw [dgI_s, ← h7h, ← ht.1, (hp_167 c_203).2.2 t (by omega) (by omega)]; omega) _ _ _ hX (lv_sub hl [2, 1, 3, 0] rfl)
                            exact L_191_7 _ 0 ((31 * h5) + 0) 0 (Nat.lt_succ_self _) (by omega) (Or.inl rfl) (by first | rw [if_pos c_177]; rfl | rw [if_neg (by rw [c_177]; decide)]; rfl) _ _ _ hX (lv_sub hl [3, 1, 2, 0] rfl)
                          · have c_177 := c_177
                            refine xr_iconst E dX6_digest_180 ?_
                            refine xr_goto (tgt := 185) E dX6_digest_181 (by decide) ?_
                            refine xr_i2l E dX6_digest_185 (by decide) ?_
                            refine xr_ladd E dX6_digest_186 ?_
                            refine xr_lstore_n (lv' := [(1, .long (lI ((31 * h5) + 1))), (3, .int (bB (xMt (mI now) (mT now) (mP now) (now 0) (now 28) (now 29) (-1)))), (0, .ref hMo)]) E hl dX6_digest_187 rfl (by decide) rfl (fun ls hl => ?_)
                            refine xr_iconst E dX6_digest_188 ?_
                            refine xr_istore (lv' := [(4, .int (iI 0)), (1, .long (lI ((31 * h5) + 1))), (3, .int (bB (xMt (mI now) (mT now) (mP now) (now 0) (now 28) (now 29) (-1)))), (0, .ref hMo)]) E hl dX6_digest_189 (by decide) rfl (fun ls hl => ?_)
                            have L_191_14 : ∀ (nmu : Nat) (n2 : Nat) (h7 : Int) (t : Int), 12 - n2 < nmu → (t = n2 ∧ t ≤ now 0) → (n2 = 0 ∨ xMt (mI now) (mT now) (mP now) (now 0) (now 28) (now 29) (-1) = true) → (h7 = dgI (fun t => xRow (mI now) (mT now) (mP now) (now 0) (now 28) (now 29) (now 30) t + 8) n2 (31 * h5 + (if xMt (mI now) (mT now) (mP now) (now 0) (now 28) (now 29) (-1) = true then 1 else 0))) → ∀ (H : Heap) (locs : List Loc) (ls : Array Slot), XW D A s.heap (W_Mdg y hMo a_now a_asd a_pst a_mrf a_txt a_olt a_ofr a_nbs a_best a_wys a_rwx a_shx a_bef now msts mrf mbyt mord best_167 wys_167 rwx_167 alw_167 bco_167 alm_167 abt_167 shx_58 mlt beg figm) H locs → lv_has ls 5 [(0, .ref hMo), (1, .long (lI h7)), (3, .int (bB (xMt (mI now) (mT now) (mP now) (now 0) (now 28) (now 29) (-1)))), (4, .int (iI t))] → W p l e rm_X6_digest s m args below meth cX H locs 0 0 Q (F0 m 191 ls []) := by
                              intro nmu
                              induction nmu with
                              | zero =>
                                intro n2 h7 t hmu
                                exact absurd hmu (Nat.not_lt_zero _)
                              | succ nmu ih =>
                                intro n2 h7 t hmu ht hn2 h7h H locs ls hX hl
                                have ih_191_14 := ih
                                clear ih
                                refine xr_iload E hl 3 rfl dX6_digest_191 ?_
                                refine xr_aload_n E hl 0 rfl dX6_digest_193 rfl ?_
                                refine xr_get E hX 0 rfl rfl ly_X6 0 (by decide) fl_X6_7 rfl dX6_digest_194 ?_
                                refine xr_iconst E dX6_digest_197 ?_
                                refine xr_iald E hX 1 rfl (by omega) (by omega) (by decide) dX6_digest_198 ?_
                                refine xr_icmp_ge (tgt := 231) E dX6_digest_199 (by decide) ⟨by omega, by omega⟩ ⟨by omega, by omega⟩ (fun c_199 => ?_) (fun c_199 => ?_)
                                · have c_199 := c_199
                                  refine xr_iconst E dX6_digest_231 ?_
                                  refine xr_istore (lv' := [(4, .int (iI 0)), (0, .ref hMo), (1, .long (lI h7)), (3, .int (bB (xMt (mI now) (mT now) (mP now) (now 0) (now 28) (now 29) (-1))))]) E hl dX6_digest_232 (by decide) rfl (fun ls hl => ?_)
                                  have L_234_15 : ∀ (nmu : Nat) (j2 : Nat) (h8 : Int) (k2 : Int), 2 - j2 < nmu → (k2 = j2 ∧ k2 ≤ 2) → (j2 = 0 ∨ xMt (mI now) (mT now) (mP now) (now 0) (now 28) (now 29) (-1) = true) → (h8 = dgI (fun k => xMoved (mI now) (xRow (mI now) (mT now) (mP now) (now 0) (now 28) (now 29) (now 30)) (now 0) k) j2 h7) → ∀ (H : Heap) (locs : List Loc) (ls : Array Slot), XW D A s.heap (W_Mdg y hMo a_now a_asd a_pst a_mrf a_txt a_olt a_ofr a_nbs a_best a_wys a_rwx a_shx a_bef now msts mrf mbyt mord best_167 wys_167 rwx_167 alw_167 bco_167 alm_167 abt_167 shx_58 mlt beg figm) H locs → lv_has ls 5 [(0, .ref hMo), (1, .long (lI h8)), (3, .int (bB (xMt (mI now) (mT now) (mP now) (now 0) (now 28) (now 29) (-1)))), (4, .int (iI k2))] → W p l e rm_X6_digest s m args below meth cX H locs 0 0 Q (F0 m 234 ls []) := by
                                    intro nmu
                                    induction nmu with
                                    | zero =>
                                      intro j2 h8 k2 hmu
                                      exact absurd hmu (Nat.not_lt_zero _)
                                    | succ nmu ih =>
                                      intro j2 h8 k2 hmu hk2 hj2 h8h H locs ls hX hl
                                      have ih_234_15 := ih
                                      clear ih
                                      refine xr_iload E hl 3 rfl dX6_digest_234 ?_
                                      refine xr_iconst E dX6_digest_236 ?_
                                      refine xr_icmp_ge (tgt := 267) E dX6_digest_237 (by decide) ⟨by omega, by omega⟩ (by decide) (fun c_237 => ?_) (fun c_237 => ?_)
                                      · have c_237 := c_237
                                        refine xr_iconst E dX6_digest_267 ?_
                                        refine xr_istore (lv' := [(4, .int (iI 0)), (0, .ref hMo), (1, .long (lI h8)), (3, .int (bB (xMt (mI now) (mT now) (mP now) (now 0) (now 28) (now 29) (-1))))]) E hl dX6_digest_268 (by decide) rfl (fun ls hl => ?_)
                                        have L_270_16 : ∀ (nmu : Nat) (j3 : Nat) (h9 : Int) (k3 : Int), 2 - j3 < nmu → (k3 = j3 ∧ k3 ≤ 2) → (h9 = dgI (fun k => xMoved (mI now) (xShare (mI now) (mT now) (now 0)) (now 0) k) j3 (dgB (mI now) (mT now) (mP now) (now 0) (now 28) (now 29) (now 30) h5)) → ∀ (H : Heap) (locs : List Loc) (ls : Array Slot), XW D A s.heap (W_Mdg y hMo a_now a_asd a_pst a_mrf a_txt a_olt a_ofr a_nbs a_best a_wys a_rwx a_shx a_bef now msts mrf mbyt mord best_167 wys_167 rwx_167 alw_167 bco_167 alm_167 abt_167 shx_58 mlt beg figm) H locs → lv_has ls 5 [(0, .ref hMo), (1, .long (lI h9)), (4, .int (iI k3))] → W p l e rm_X6_digest s m args below meth cX H locs 0 0 Q (F0 m 270 ls []) := by
                                          intro nmu
                                          induction nmu with
                                          | zero =>
                                            intro j3 h9 k3 hmu
                                            exact absurd hmu (Nat.not_lt_zero _)
                                          | succ nmu ih =>
                                            intro j3 h9 k3 hmu hk3 h9h H locs ls hX hl
                                            have ih_270_16 := ih
                                            clear ih
                                            refine xr_iload E hl 2 rfl dX6_digest_270 ?_
                                            refine xr_iconst E dX6_digest_272 ?_
                                            refine xr_icmp_ge (tgt := 299) E dX6_digest_273 (by decide) ⟨by omega, by omega⟩ (by decide) (fun c_273 => ?_) (fun c_273 => ?_)
                                            · have c_273 := c_273
                                              refine xr_lload_n E hl 1 rfl dX6_digest_299 rfl ?_
                                              exact xr_lret E hX hQ (best_167, wys_167, rwx_167, alw_167, bco_167, alm_167, abt_167, shx_58) hr ⟨by unfold xDig dgFg; rw [h9h, h5h, h3h, h2h, hh, show j3 = 2 by omega, show k = 3 by omega, show (now 0).toNat = n1 by omega, show j = 6 by omega, show n = 5 by omega], trivial⟩ rfl dX6_digest_300
                                            · have c_273 := c_273
                                              refine xr_ldc2 (n := 31) E kl_X6_247 dX6_digest_276 (by decide) ?_
                                              refine xr_lload_n E hl 1 rfl dX6_digest_279 rfl ?_
                                              refine xr_lmul E dX6_digest_280 ?_
                                              refine xr_aload_n E hl 0 rfl dX6_digest_281 rfl ?_
                                              refine xr_iload E hl 2 rfl dX6_digest_282 ?_
                                              refine xr_aload_n E hl 0 rfl dX6_digest_284 rfl ?_
                                              refine xr_get E hX 0 rfl rfl ly_X6 18 (by decide) fl_X6_44 rfl dX6_digest_285 ?_
                                              refine xk_rl E hX [0, 1, 6] rfl (xv_V (As := [.int (iI k3), .ref a_shx]) E hX hl (c_X6_movedBy l D y z _ hMo a_now a_asd a_pst a_mrf a_txt a_olt a_ofr a_nbs a_best a_wys a_rwx a_shx a_bef a_shx now msts mbyt mord alw_167 bco_167 alm_167 abt_167 mlt beg figm shx_58 k3 H_M (fun t h0 h1 => by have h9 := xShare_bd H_M h0 h1; rw [hp_58 t h0 h1]; exact h9) ⟨by omega, by omega⟩) ml_X6_194 im_X6_movedBy se_X6_movedBy in_X6 co_X6_movedBy 2 (by decide) ⟨rfl, rfl⟩ ⟨Nat.le_of_ble_eq_true rfl, Nat.le_of_ble_eq_true rfl⟩ [0, 1, 6] rfl rfl 0 rfl rfl rfl rfl rfl (Nat.le_of_ble_eq_true rfl) dX6_digest_288 ⟨Nat.le_refl _, Nat.le_refl _⟩) (fun r_288 H locs hw hX => ?_)
                                              subst hw
                                              refine xr_ladd E dX6_digest_291 ?_
                                              refine xr_lstore_n (lv' := [(1, .long (lI ((31 * h9) + xMoved (mI now) shx_58 (now 0) k3))), (0, .ref hMo), (4, .int (iI k3))]) E hl dX6_digest_292 rfl (by decide) rfl (fun ls hl => ?_)
                                              refine xr_iinc (k := 2) (lv' := [(4, .int (iI (k3 + 1))), (1, .long (lI ((31 * h9) + xMoved (mI now) shx_58 (now 0) k3))), (0, .ref hMo)]) E hl rfl dX6_digest_293 (by decide) rfl (fun ls hl => ?_)
                                              refine xr_goto (tgt := 270) E dX6_digest_296 (by decide) ?_
                                              exact ih_270_16 (j3 + 1) ((31 * h9) + xMoved (mI now) shx_58 (now 0) k3) (k3 + 1) (by omega) (by omega) (by rw [dgI_s, ← h9h, ← hk3.1, xMoved_cong hp_58]) _ _ _ hX (lv_sub hl [2, 1, 0] rfl)
                                        exact L_270_16 _ 0 h8 0 (Nat.lt_succ_self _) (by omega) (by show _ = dgB (mI now) (mT now) (mP now) (now 0) (now 28) (now 29) (now 30) h5; unfold dgB; refine (Classical.em (xMt (mI now) (mT now) (mP now) (now 0) (now 28) (now 29) (-1) = true)).elim (fun hm => ?_) (fun hm => ?_); (first | exact absurd (c_203.symm.trans hm) (by decide) | exact absurd (c_241.symm.trans hm) (by decide) | (rw [if_pos hm, h8h, show j2 = 2 by omega, h7h, show (now 0).toNat = n2 by omega, if_pos hm])); (rw [if_neg hm, h8h, show j2 = 0 by (rcases hj2 with h | h; exact h; exact absurd h hm), h7h, show n2 = 0 by (rcases hn2 with h | h; exact h; exact absurd h hm), if_neg hm]; show 31 * h5 + 0 = 31 * h5; omega)) _ _ _ hX (lv_sub hl [1, 2, 0] rfl)
                                      · have c_237 := c_237
                                        refine xr_iload_n E hl 2 rfl dX6_digest_240 rfl ?_
                                        refine xr_if_eqB (tgt := 267) E dX6_digest_241 (by decide) (fun c_241 => ?_) (fun c_241 => ?_)
                                        · have c_241 := c_241
                                          refine xr_iconst E dX6_digest_267 ?_
                                          refine xr_istore (lv' := [(4, .int (iI 0)), (0, .ref hMo), (1, .long (lI h8)), (3, .int (bB (xMt (mI now) (mT now) (mP now) (now 0) (now 28) (now 29) (-1))))]) E hl dX6_digest_268 (by decide) rfl (fun ls hl => ?_)
                                          have L_270_17 : ∀ (nmu : Nat) (j3 : Nat) (h9 : Int) (k3 : Int), 2 - j3 < nmu → (k3 = j3 ∧ k3 ≤ 2) → (h9 = dgI (fun k => xMoved (mI now) (xShare (mI now) (mT now) (now 0)) (now 0) k) j3 (dgB (mI now) (mT now) (mP now) (now 0) (now 28) (now 29) (now 30) h5)) → ∀ (H : Heap) (locs : List Loc) (ls : Array Slot), XW D A s.heap (W_Mdg y hMo a_now a_asd a_pst a_mrf a_txt a_olt a_ofr a_nbs a_best a_wys a_rwx a_shx a_bef now msts mrf mbyt mord best_167 wys_167 rwx_167 alw_167 bco_167 alm_167 abt_167 shx_58 mlt beg figm) H locs → lv_has ls 5 [(0, .ref hMo), (1, .long (lI h9)), (4, .int (iI k3))] → W p l e rm_X6_digest s m args below meth cX H locs 0 0 Q (F0 m 270 ls []) := by
                                            intro nmu
                                            induction nmu with
                                            | zero =>
                                              intro j3 h9 k3 hmu
                                              exact absurd hmu (Nat.not_lt_zero _)
                                            | succ nmu ih =>
                                              intro j3 h9 k3 hmu hk3 h9h H locs ls hX hl
                                              have ih_270_17 := ih
                                              clear ih
                                              refine xr_iload E hl 2 rfl dX6_digest_270 ?_
                                              refine xr_iconst E dX6_digest_272 ?_
                                              refine xr_icmp_ge (tgt := 299) E dX6_digest_273 (by decide) ⟨by omega, by omega⟩ (by decide) (fun c_273 => ?_) (fun c_273 => ?_)
                                              · have c_273 := c_273
                                                refine xr_lload_n E hl 1 rfl dX6_digest_299 rfl ?_
                                                exact xr_lret E hX hQ (best_167, wys_167, rwx_167, alw_167, bco_167, alm_167, abt_167, shx_58) hr ⟨by unfold xDig dgFg; rw [h9h, h5h, h3h, h2h, hh, show j3 = 2 by omega, show k = 3 by omega, show (now 0).toNat = n1 by omega, show j = 6 by omega, show n = 5 by omega], trivial⟩ rfl dX6_digest_300
                                              · have c_273 := c_273
                                                refine xr_ldc2 (n := 31) E kl_X6_247 dX6_digest_276 (by decide) ?_
                                                refine xr_lload_n E hl 1 rfl dX6_digest_279 rfl ?_
                                                refine xr_lmul E dX6_digest_280 ?_
                                                refine xr_aload_n E hl 0 rfl dX6_digest_281 rfl ?_
                                                refine xr_iload E hl 2 rfl dX6_digest_282 ?_
                                                refine xr_aload_n E hl 0 rfl dX6_digest_284 rfl ?_
                                                refine xr_get E hX 0 rfl rfl ly_X6 18 (by decide) fl_X6_44 rfl dX6_digest_285 ?_
                                                refine xk_rl E hX [0, 1, 6] rfl (xv_V (As := [.int (iI k3), .ref a_shx]) E hX hl (c_X6_movedBy l D y z _ hMo a_now a_asd a_pst a_mrf a_txt a_olt a_ofr a_nbs a_best a_wys a_rwx a_shx a_bef a_shx now msts mbyt mord alw_167 bco_167 alm_167 abt_167 mlt beg figm shx_58 k3 H_M (fun t h0 h1 => by have h9 := xShare_bd H_M h0 h1; rw [hp_58 t h0 h1]; exact h9) ⟨by omega, by omega⟩) ml_X6_194 im_X6_movedBy se_X6_movedBy in_X6 co_X6_movedBy 2 (by decide) ⟨rfl, rfl⟩ ⟨Nat.le_of_ble_eq_true rfl, Nat.le_of_ble_eq_true rfl⟩ [0, 1, 6] rfl rfl 0 rfl rfl rfl rfl rfl (Nat.le_of_ble_eq_true rfl) dX6_digest_288 ⟨Nat.le_refl _, Nat.le_refl _⟩) (fun r_288 H locs hw hX => ?_)
                                                subst hw
                                                refine xr_ladd E dX6_digest_291 ?_
                                                refine xr_lstore_n (lv' := [(1, .long (lI ((31 * h9) + xMoved (mI now) shx_58 (now 0) k3))), (0, .ref hMo), (4, .int (iI k3))]) E hl dX6_digest_292 rfl (by decide) rfl (fun ls hl => ?_)
                                                refine xr_iinc (k := 2) (lv' := [(4, .int (iI (k3 + 1))), (1, .long (lI ((31 * h9) + xMoved (mI now) shx_58 (now 0) k3))), (0, .ref hMo)]) E hl rfl dX6_digest_293 (by decide) rfl (fun ls hl => ?_)
                                                refine xr_goto (tgt := 270) E dX6_digest_296 (by decide) ?_
                                                exact ih_270_17 (j3 + 1) ((31 * h9) + xMoved (mI now) shx_58 (now 0) k3) (k3 + 1) (by omega) (by omega) (by rw [dgI_s, ← h9h, ← hk3.1, xMoved_cong hp_58]) _ _ _ hX (lv_sub hl [2, 1, 0] rfl)
                                          exact L_270_17 _ 0 h8 0 (Nat.lt_succ_self _) (by omega) (by show _ = dgB (mI now) (mT now) (mP now) (now 0) (now 28) (now 29) (now 30) h5; unfold dgB; refine (Classical.em (xMt (mI now) (mT now) (mP now) (now 0) (now 28) (now 29) (-1) = true)).elim (fun hm => ?_) (fun hm => ?_); (first | exact absurd (c_203.symm.trans hm) (by decide) | exact absurd (c_241.symm.trans hm) (by decide) | (rw [if_pos hm, h8h, show j2 = 2 by omega, h7h, show (now 0).toNat = n2 by omega, if_pos hm])); (rw [if_neg hm, h8h, show j2 = 0 by (rcases hj2 with h | h; exact h; exact absurd h hm), h7h, show n2 = 0 by (rcases hn2 with h | h; exact h; exact absurd h hm), if_neg hm]; show 31 * h5 + 0 = 31 * h5; omega)) _ _ _ hX (lv_sub hl [1, 2, 0] rfl)
                                        · have c_241 := c_241
                                          refine xr_ldc2 (n := 31) E kl_X6_247 dX6_digest_244 (by decide) ?_
                                          refine xr_lload_n E hl 1 rfl dX6_digest_247 rfl ?_
                                          refine xr_lmul E dX6_digest_248 ?_
                                          refine xr_aload_n E hl 0 rfl dX6_digest_249 rfl ?_
                                          refine xr_iload E hl 3 rfl dX6_digest_250 ?_
                                          refine xr_aload_n E hl 0 rfl dX6_digest_252 rfl ?_
                                          refine xr_get E hX 0 rfl rfl ly_X6 13 (by decide) fl_X6_41 rfl dX6_digest_253 ?_
                                          refine xk_rl E hX [0, 1, 5] rfl (xv_V (As := [.int (iI k2), .ref a_rwx]) E hX hl (c_X6_movedBy l D y z _ hMo a_now a_asd a_pst a_mrf a_txt a_olt a_ofr a_nbs a_best a_wys a_rwx a_shx a_bef a_rwx now msts mbyt mord alw_167 bco_167 alm_167 abt_167 mlt beg figm rwx_167 k2 H_M (fun t h0 h1 => by have h9 := xRow_bd (sh := now 30) (t := t) H_M hli c_241 h0 h1; rw [(hp_167 c_241).2.2 t h0 h1]; omega) ⟨by omega, by omega⟩) ml_X6_194 im_X6_movedBy se_X6_movedBy in_X6 co_X6_movedBy 2 (by decide) ⟨rfl, rfl⟩ ⟨Nat.le_of_ble_eq_true rfl, Nat.le_of_ble_eq_true rfl⟩ [0, 1, 5] rfl rfl 0 rfl rfl rfl rfl rfl (Nat.le_of_ble_eq_true rfl) dX6_digest_256 ⟨Nat.le_refl _, Nat.le_refl _⟩) (fun r_256 H locs hw hX => ?_)
                                          subst hw
                                          refine xr_ladd E dX6_digest_259 ?_
                                          refine xr_lstore_n (lv' := [(1, .long (lI ((31 * h8) + xMoved (mI now) rwx_167 (now 0) k2))), (0, .ref hMo), (3, .int (bB (xMt (mI now) (mT now) (mP now) (now 0) (now 28) (now 29) (-1)))), (4, .int (iI k2))]) E hl dX6_digest_260 rfl (by decide) rfl (fun ls hl => ?_)
                                          refine xr_iinc (k := 3) (lv' := [(4, .int (iI (k2 + 1))), (1, .long (lI ((31 * h8) + xMoved (mI now) rwx_167 (now 0) k2))), (0, .ref hMo), (3, .int (bB (xMt (mI now) (mT now) (mP now) (now 0) (now 28) (now 29) (-1))))]) E hl rfl dX6_digest_261 (by decide) rfl (fun ls hl => ?_)
                                          refine xr_goto (tgt := 234) E dX6_digest_264 (by decide) ?_
                                          exact ih_234_15 (j2 + 1) ((31 * h8) + xMoved (mI now) rwx_167 (now 0) k2) (k2 + 1) (by omega) (by omega) (Or.inr c_241) (by rw [dgI_s, ← h8h, ← hk2.1, xMoved_cong (hp_167 c_241).2.2]) _ _ _ hX (lv_sub hl [2, 1, 3, 0] rfl)
                                  exact L_234_15 _ 0 h7 0 (Nat.lt_succ_self _) (by omega) (Or.inl rfl) rfl _ _ _ hX (lv_sub hl [1, 2, 3, 0] rfl)
                                · have c_199 := c_199
                                  refine xr_iload_n E hl 2 rfl dX6_digest_202 rfl ?_
                                  refine xr_if_eqB (tgt := 231) E dX6_digest_203 (by decide) (fun c_203 => ?_) (fun c_203 => ?_)
                                  · have c_203 := c_203
                                    refine xr_iconst E dX6_digest_231 ?_
                                    refine xr_istore (lv' := [(4, .int (iI 0)), (0, .ref hMo), (1, .long (lI h7)), (3, .int (bB (xMt (mI now) (mT now) (mP now) (now 0) (now 28) (now 29) (-1))))]) E hl dX6_digest_232 (by decide) rfl (fun ls hl => ?_)
                                    have L_234_18 : ∀ (nmu : Nat) (j2 : Nat) (h8 : Int) (k2 : Int), 2 - j2 < nmu → (k2 = j2 ∧ k2 ≤ 2) → (j2 = 0 ∨ xMt (mI now) (mT now) (mP now) (now 0) (now 28) (now 29) (-1) = true) → (h8 = dgI (fun k => xMoved (mI now) (xRow (mI now) (mT now) (mP now) (now 0) (now 28) (now 29) (now 30)) (now 0) k) j2 h7) → ∀ (H : Heap) (locs : List Loc) (ls : Array Slot), XW D A s.heap (W_Mdg y hMo a_now a_asd a_pst a_mrf a_txt a_olt a_ofr a_nbs a_best a_wys a_rwx a_shx a_bef now msts mrf mbyt mord best_167 wys_167 rwx_167 alw_167 bco_167 alm_167 abt_167 shx_58 mlt beg figm) H locs → lv_has ls 5 [(0, .ref hMo), (1, .long (lI h8)), (3, .int (bB (xMt (mI now) (mT now) (mP now) (now 0) (now 28) (now 29) (-1)))), (4, .int (iI k2))] → W p l e rm_X6_digest s m args below meth cX H locs 0 0 Q (F0 m 234 ls []) := by
                                      intro nmu
                                      induction nmu with
                                      | zero =>
                                        intro j2 h8 k2 hmu
                                        exact absurd hmu (Nat.not_lt_zero _)
                                      | succ nmu ih =>
                                        intro j2 h8 k2 hmu hk2 hj2 h8h H locs ls hX hl
                                        have ih_234_18 := ih
                                        clear ih
                                        refine xr_iload E hl 3 rfl dX6_digest_234 ?_
                                        refine xr_iconst E dX6_digest_236 ?_
                                        refine xr_icmp_ge (tgt := 267) E dX6_digest_237 (by decide) ⟨by omega, by omega⟩ (by decide) (fun c_237 => ?_) (fun c_237 => ?_)
                                        · have c_237 := c_237
                                          refine xr_iconst E dX6_digest_267 ?_
                                          refine xr_istore (lv' := [(4, .int (iI 0)), (0, .ref hMo), (1, .long (lI h8)), (3, .int (bB (xMt (mI now) (mT now) (mP now) (now 0) (now 28) (now 29) (-1))))]) E hl dX6_digest_268 (by decide) rfl (fun ls hl => ?_)
                                          have L_270_19 : ∀ (nmu : Nat) (j3 : Nat) (h9 : Int) (k3 : Int), 2 - j3 < nmu → (k3 = j3 ∧ k3 ≤ 2) → (h9 = dgI (fun k => xMoved (mI now) (xShare (mI now) (mT now) (now 0)) (now 0) k) j3 (dgB (mI now) (mT now) (mP now) (now 0) (now 28) (now 29) (now 30) h5)) → ∀ (H : Heap) (locs : List Loc) (ls : Array Slot), XW D A s.heap (W_Mdg y hMo a_now a_asd a_pst a_mrf a_txt a_olt a_ofr a_nbs a_best a_wys a_rwx a_shx a_bef now msts mrf mbyt mord best_167 wys_167 rwx_167 alw_167 bco_167 alm_167 abt_167 shx_58 mlt beg figm) H locs → lv_has ls 5 [(0, .ref hMo), (1, .long (lI h9)), (4, .int (iI k3))] → W p l e rm_X6_digest s m args below meth cX H locs 0 0 Q (F0 m 270 ls []) := by
                                            intro nmu
                                            induction nmu with
                                            | zero =>
                                              intro j3 h9 k3 hmu
                                              exact absurd hmu (Nat.not_lt_zero _)
                                            | succ nmu ih =>
                                              intro j3 h9 k3 hmu hk3 h9h H locs ls hX hl
                                              have ih_270_19 := ih
                                              clear ih
                                              refine xr_iload E hl 2 rfl dX6_digest_270 ?_
                                              refine xr_iconst E dX6_digest_272 ?_
                                              refine xr_icmp_ge (tgt := 299) E dX6_digest_273 (by decide) ⟨by omega, by omega⟩ (by decide) (fun c_273 => ?_) (fun c_273 => ?_)
                                              · have c_273 := c_273
                                                refine xr_lload_n E hl 1 rfl dX6_digest_299 rfl ?_
                                                exact xr_lret E hX hQ (best_167, wys_167, rwx_167, alw_167, bco_167, alm_167, abt_167, shx_58) hr ⟨by unfold xDig dgFg; rw [h9h, h5h, h3h, h2h, hh, show j3 = 2 by omega, show k = 3 by omega, show (now 0).toNat = n1 by omega, show j = 6 by omega, show n = 5 by omega], trivial⟩ rfl dX6_digest_300
                                              · have c_273 := c_273
                                                refine xr_ldc2 (n := 31) E kl_X6_247 dX6_digest_276 (by decide) ?_
                                                refine xr_lload_n E hl 1 rfl dX6_digest_279 rfl ?_
                                                refine xr_lmul E dX6_digest_280 ?_
                                                refine xr_aload_n E hl 0 rfl dX6_digest_281 rfl ?_
                                                refine xr_iload E hl 2 rfl dX6_digest_282 ?_
                                                refine xr_aload_n E hl 0 rfl dX6_digest_284 rfl ?_
                                                refine xr_get E hX 0 rfl rfl ly_X6 18 (by decide) fl_X6_44 rfl dX6_digest_285 ?_
                                                refine xk_rl E hX [0, 1, 6] rfl (xv_V (As := [.int (iI k3), .ref a_shx]) E hX hl (c_X6_movedBy l D y z _ hMo a_now a_asd a_pst a_mrf a_txt a_olt a_ofr a_nbs a_best a_wys a_rwx a_shx a_bef a_shx now msts mbyt mord alw_167 bco_167 alm_167 abt_167 mlt beg figm shx_58 k3 H_M (fun t h0 h1 => by have h9 := xShare_bd H_M h0 h1; rw [hp_58 t h0 h1]; exact h9) ⟨by omega, by omega⟩) ml_X6_194 im_X6_movedBy se_X6_movedBy in_X6 co_X6_movedBy 2 (by decide) ⟨rfl, rfl⟩ ⟨Nat.le_of_ble_eq_true rfl, Nat.le_of_ble_eq_true rfl⟩ [0, 1, 6] rfl rfl 0 rfl rfl rfl rfl rfl (Nat.le_of_ble_eq_true rfl) dX6_digest_288 ⟨Nat.le_refl _, Nat.le_refl _⟩) (fun r_288 H locs hw hX => ?_)
                                                subst hw
                                                refine xr_ladd E dX6_digest_291 ?_
                                                refine xr_lstore_n (lv' := [(1, .long (lI ((31 * h9) + xMoved (mI now) shx_58 (now 0) k3))), (0, .ref hMo), (4, .int (iI k3))]) E hl dX6_digest_292 rfl (by decide) rfl (fun ls hl => ?_)
                                                refine xr_iinc (k := 2) (lv' := [(4, .int (iI (k3 + 1))), (1, .long (lI ((31 * h9) + xMoved (mI now) shx_58 (now 0) k3))), (0, .ref hMo)]) E hl rfl dX6_digest_293 (by decide) rfl (fun ls hl => ?_)
                                                refine xr_goto (tgt := 270) E dX6_digest_296 (by decide) ?_
                                                exact ih_270_19 (j3 + 1) ((31 * h9) + xMoved (mI now) shx_58 (now 0) k3) (k3 + 1) (by omega) (by omega) (by rw [dgI_s, ← h9h, ← hk3.1, xMoved_cong hp_58]) _ _ _ hX (lv_sub hl [2, 1, 0] rfl)
                                          exact L_270_19 _ 0 h8 0 (Nat.lt_succ_self _) (by omega) (by show _ = dgB (mI now) (mT now) (mP now) (now 0) (now 28) (now 29) (now 30) h5; unfold dgB; refine (Classical.em (xMt (mI now) (mT now) (mP now) (now 0) (now 28) (now 29) (-1) = true)).elim (fun hm => ?_) (fun hm => ?_); (first | exact absurd (c_203.symm.trans hm) (by decide) | exact absurd (c_241.symm.trans hm) (by decide) | (rw [if_pos hm, h8h, show j2 = 2 by omega, h7h, show (now 0).toNat = n2 by omega, if_pos hm])); (rw [if_neg hm, h8h, show j2 = 0 by (rcases hj2 with h | h; exact h; exact absurd h hm), h7h, show n2 = 0 by (rcases hn2 with h | h; exact h; exact absurd h hm), if_neg hm]; show 31 * h5 + 0 = 31 * h5; omega)) _ _ _ hX (lv_sub hl [1, 2, 0] rfl)
                                        · have c_237 := c_237
                                          refine xr_iload_n E hl 2 rfl dX6_digest_240 rfl ?_
                                          refine xr_if_eqB (tgt := 267) E dX6_digest_241 (by decide) (fun c_241 => ?_) (fun c_241 => ?_)
                                          · have c_241 := c_241
                                            refine xr_iconst E dX6_digest_267 ?_
                                            refine xr_istore (lv' := [(4, .int (iI 0)), (0, .ref hMo), (1, .long (lI h8)), (3, .int (bB (xMt (mI now) (mT now) (mP now) (now 0) (now 28) (now 29) (-1))))]) E hl dX6_digest_268 (by decide) rfl (fun ls hl => ?_)
                                            have L_270_20 : ∀ (nmu : Nat) (j3 : Nat) (h9 : Int) (k3 : Int), 2 - j3 < nmu → (k3 = j3 ∧ k3 ≤ 2) → (h9 = dgI (fun k => xMoved (mI now) (xShare (mI now) (mT now) (now 0)) (now 0) k) j3 (dgB (mI now) (mT now) (mP now) (now 0) (now 28) (now 29) (now 30) h5)) → ∀ (H : Heap) (locs : List Loc) (ls : Array Slot), XW D A s.heap (W_Mdg y hMo a_now a_asd a_pst a_mrf a_txt a_olt a_ofr a_nbs a_best a_wys a_rwx a_shx a_bef now msts mrf mbyt mord best_167 wys_167 rwx_167 alw_167 bco_167 alm_167 abt_167 shx_58 mlt beg figm) H locs → lv_has ls 5 [(0, .ref hMo), (1, .long (lI h9)), (4, .int (iI k3))] → W p l e rm_X6_digest s m args below meth cX H locs 0 0 Q (F0 m 270 ls []) := by
                                              intro nmu
                                              induction nmu with
                                              | zero =>
                                                intro j3 h9 k3 hmu
                                                exact absurd hmu (Nat.not_lt_zero _)
                                              | succ nmu ih =>
                                                intro j3 h9 k3 hmu hk3 h9h H locs ls hX hl
                                                have ih_270_20 := ih
                                                clear ih
                                                refine xr_iload E hl 2 rfl dX6_digest_270 ?_
                                                refine xr_iconst E dX6_digest_272 ?_
                                                refine xr_icmp_ge (tgt := 299) E dX6_digest_273 (by decide) ⟨by omega, by omega⟩ (by decide) (fun c_273 => ?_) (fun c_273 => ?_)
                                                · have c_273 := c_273
                                                  refine xr_lload_n E hl 1 rfl dX6_digest_299 rfl ?_
                                                  exact xr_lret E hX hQ (best_167, wys_167, rwx_167, alw_167, bco_167, alm_167, abt_167, shx_58) hr ⟨by unfold xDig dgFg; rw [h9h, h5h, h3h, h2h, hh, show j3 = 2 by omega, show k = 3 by omega, show (now 0).toNat = n1 by omega, show j = 6 by omega, show n = 5 by omega], trivial⟩ rfl dX6_digest_300
                                                · have c_273 := c_273
                                                  refine xr_ldc2 (n := 31) E kl_X6_247 dX6_digest_276 (by decide) ?_
                                                  refine xr_lload_n E hl 1 rfl dX6_digest_279 rfl ?_
                                                  refine xr_lmul E dX6_digest_280 ?_
                                                  refine xr_aload_n E hl 0 rfl dX6_digest_281 rfl ?_
                                                  refine xr_iload E hl 2 rfl dX6_digest_282 ?_
                                                  refine xr_aload_n E hl 0 rfl dX6_digest_284 rfl ?_
                                                  refine xr_get E hX 0 rfl rfl ly_X6 18 (by decide) fl_X6_44 rfl dX6_digest_285 ?_
                                                  refine xk_rl E hX [0, 1, 6] rfl (xv_V (As := [.int (iI k3), .ref a_shx]) E hX hl (c_X6_movedBy l D y z _ hMo a_now a_asd a_pst a_mrf a_txt a_olt a_ofr a_nbs a_best a_wys a_rwx a_shx a_bef a_shx now msts mbyt mord alw_167 bco_167 alm_167 abt_167 mlt beg figm shx_58 k3 H_M (fun t h0 h1 => by have h9 := xShare_bd H_M h0 h1; rw [hp_58 t h0 h1]; exact h9) ⟨by omega, by omega⟩) ml_X6_194 im_X6_movedBy se_X6_movedBy in_X6 co_X6_movedBy 2 (by decide) ⟨rfl, rfl⟩ ⟨Nat.le_of_ble_eq_true rfl, Nat.le_of_ble_eq_true rfl⟩ [0, 1, 6] rfl rfl 0 rfl rfl rfl rfl rfl (Nat.le_of_ble_eq_true rfl) dX6_digest_288 ⟨Nat.le_refl _, Nat.le_refl _⟩) (fun r_288 H locs hw hX => ?_)
                                                  subst hw
                                                  refine xr_ladd E dX6_digest_291 ?_
                                                  refine xr_lstore_n (lv' := [(1, .long (lI ((31 * h9) + xMoved (mI now) shx_58 (now 0) k3))), (0, .ref hMo), (4, .int (iI k3))]) E hl dX6_digest_292 rfl (by decide) rfl (fun ls hl => ?_)
                                                  refine xr_iinc (k := 2) (lv' := [(4, .int (iI (k3 + 1))), (1, .long (lI ((31 * h9) + xMoved (mI now) shx_58 (now 0) k3))), (0, .ref hMo)]) E hl rfl dX6_digest_293 (by decide) rfl (fun ls hl => ?_)
                                                  refine xr_goto (tgt := 270) E dX6_digest_296 (by decide) ?_
                                                  exact ih_270_20 (j3 + 1) ((31 * h9) + xMoved (mI now) shx_58 (now 0) k3) (k3 + 1) (by omega) (by omega) (by rw [dgI_s, ← h9h, ← hk3.1, xMoved_cong hp_58]) _ _ _ hX (lv_sub hl [2, 1, 0] rfl)
                                            exact L_270_20 _ 0 h8 0 (Nat.lt_succ_self _) (by omega) (by show _ = dgB (mI now) (mT now) (mP now) (now 0) (now 28) (now 29) (now 30) h5; unfold dgB; refine (Classical.em (xMt (mI now) (mT now) (mP now) (now 0) (now 28) (now 29) (-1) = true)).elim (fun hm => ?_) (fun hm => ?_); (first | exact absurd (c_203.symm.trans hm) (by decide) | exact absurd (c_241.symm.trans hm) (by decide) | (rw [if_pos hm, h8h, show j2 = 2 by omega, h7h, show (now 0).toNat = n2 by omega, if_pos hm])); (rw [if_neg hm, h8h, show j2 = 0 by (rcases hj2 with h | h; exact h; exact absurd h hm), h7h, show n2 = 0 by (rcases hn2 with h | h; exact h; exact absurd h hm), if_neg hm]; show 31 * h5 + 0 = 31 * h5; omega)) _ _ _ hX (lv_sub hl [1, 2, 0] rfl)
                                          · have c_241 := c_241
                                            refine xr_ldc2 (n := 31) E kl_X6_247 dX6_digest_244 (by decide) ?_
                                            refine xr_lload_n E hl 1 rfl dX6_digest_247 rfl ?_
                                            refine xr_lmul E dX6_digest_248 ?_
                                            refine xr_aload_n E hl 0 rfl dX6_digest_249 rfl ?_
                                            refine xr_iload E hl 3 rfl dX6_digest_250 ?_
                                            refine xr_aload_n E hl 0 rfl dX6_digest_252 rfl ?_
                                            refine xr_get E hX 0 rfl rfl ly_X6 13 (by decide) fl_X6_41 rfl dX6_digest_253 ?_
                                            refine xk_rl E hX [0, 1, 5] rfl (xv_V (As := [.int (iI k2), .ref a_rwx]) E hX hl (c_X6_movedBy l D y z _ hMo a_now a_asd a_pst a_mrf a_txt a_olt a_ofr a_nbs a_best a_wys a_rwx a_shx a_bef a_rwx now msts mbyt mord alw_167 bco_167 alm_167 abt_167 mlt beg figm rwx_167 k2 H_M (fun t h0 h1 => by have h9 := xRow_bd (sh := now 30) (t := t) H_M hli c_241 h0 h1; rw [(hp_167 c_241).2.2 t h0 h1]; omega) ⟨by omega, by omega⟩) ml_X6_194 im_X6_movedBy se_X6_movedBy in_X6 co_X6_movedBy 2 (by decide) ⟨rfl, rfl⟩ ⟨Nat.le_of_ble_eq_true rfl, Nat.le_of_ble_eq_true rfl⟩ [0, 1, 5] rfl rfl 0 rfl rfl rfl rfl rfl (Nat.le_of_ble_eq_true rfl) dX6_digest_256 ⟨Nat.le_refl _, Nat.le_refl _⟩) (fun r_256 H locs hw hX => ?_)
                                            subst hw
                                            refine xr_ladd E dX6_digest_259 ?_
                                            refine xr_lstore_n (lv' := [(1, .long (lI ((31 * h8) + xMoved (mI now) rwx_167 (now 0) k2))), (0, .ref hMo), (3, .int (bB (xMt (mI now) (mT now) (mP now) (now 0) (now 28) (now 29) (-1)))), (4, .int (iI k2))]) E hl dX6_digest_260 rfl (by decide) rfl (fun ls hl => ?_)
                                            refine xr_iinc (k := 3) (lv' := [(4, .int (iI (k2 + 1))), (1, .long (lI ((31 * h8) + xMoved (mI now) rwx_167 (now 0) k2))), (0, .ref hMo), (3, .int (bB (xMt (mI now) (mT now) (mP now) (now 0) (now 28) (now 29) (-1))))]) E hl rfl dX6_digest_261 (by decide) rfl (fun ls hl => ?_)
                                            refine xr_goto (tgt := 234) E dX6_digest_264 (by decide) ?_
                                            exact ih_234_18 (j2 + 1) ((31 * h8) + xMoved (mI now) rwx_167 (now 0) k2) (k2 + 1) (by omega) (by omega) (Or.inr c_241) (by rw [dgI_s, ← h8h, ← hk2.1, xMoved_cong (hp_167 c_241).2.2]) _ _ _ hX (lv_sub hl [2, 1, 3, 0] rfl)
                                    exact L_234_18 _ 0 h7 0 (Nat.lt_succ_self _) (by omega) (Or.inl rfl) rfl _ _ _ hX (lv_sub hl [1, 2, 3, 0] rfl)
                                  · have c_203 := c_203
                                    have hrb := xRow_bd (sh := now 30) (t := t) H_M hli c_203 (by omega) (by omega)
                                    have hre := (hp_167 c_203).2.2 t (by omega) (by omega)
                                    refine xr_ldc2 (n := 31) E kl_X6_247 dX6_digest_206 (by decide) ?_
                                    refine xr_lload_n E hl 1 rfl dX6_digest_209 rfl ?_
                                    refine xr_lmul E dX6_digest_210 ?_
                                    refine xr_aload_n E hl 0 rfl dX6_digest_211 rfl ?_
                                    refine xr_get E hX 0 rfl rfl ly_X6 13 (by decide) fl_X6_41 rfl dX6_digest_212 ?_
                                    refine xr_iload E hl 3 rfl dX6_digest_215 ?_
                                    refine xr_iald E hX 5 rfl (by omega) (by omega) (by decide) dX6_digest_217 ?_
                                    refine xr_i2l E dX6_digest_218 ⟨by omega, by omega⟩ ?_
                                    refine xr_ladd E dX6_digest_219 ?_
                                    refine xr_ldc2 (n := 8) E kl_X6_249 dX6_digest_220 (by decide) ?_
                                    refine xr_ladd E dX6_digest_223 ?_
                                    refine xr_lstore_n (lv' := [(1, .long (lI (((31 * h7) + (rwx_167 t)) + 8))), (0, .ref hMo), (3, .int (bB (xMt (mI now) (mT now) (mP now) (now 0) (now 28) (now 29) (-1)))), (4, .int (iI t))]) E hl dX6_digest_224 rfl (by decide) rfl (fun ls hl => ?_)
                                    refine xr_iinc (k := 3) (lv' := [(4, .int (iI (t + 1))), (1, .long (lI (((31 * h7) + (rwx_167 t)) + 8))), (0, .ref hMo), (3, .int (bB (xMt (mI now) (mT now) (mP now) (now 0) (now 28) (now 29) (-1))))]) E hl rfl dX6_digest_225 (by decide) rfl (fun ls hl => ?_)
                                    refine xr_goto (tgt := 191) E dX6_digest_228 (by decide) ?_
                                    exact ih_191_14 (n2 + 1) (((31 * h7) + (rwx_167 t)) + 8) (t + 1) (by omega) (by omega) (Or.inr c_203) (by rw [dgI_s, ← h7h, ← ht.1, (hp_167 c_203).2.2 t (by omega) (by omega)]; omega) _ _ _ hX (lv_sub hl [2, 1, 3, 0] rfl)
                            exact L_191_14 _ 0 ((31 * h5) + 1) 0 (Nat.lt_succ_self _) (by omega) (Or.inl rfl) (by first | rw [if_pos c_177]; rfl | rw [if_neg (by rw [c_177]; decide)]; rfl) _ _ _ hX (lv_sub hl [3, 1, 2, 0] rfl)
                        · have c_127 := c_127
                          refine xr_iconst E dX6_digest_130 ?_
                          refine xr_istore (lv' := [(4, .int (iI 0)), (0, .ref hMo), (1, .long (lI h5)), (3, .int (iI v))]) E hl dX6_digest_131 (by decide) rfl (fun ls hl => ?_)
                          have L_133_21 : ∀ (nmu : Nat) (i : Nat) (h6 : Int) (w : Int), 3 - i < nmu → (w = i ∧ w ≤ 3) → (h6 = dgI (xYr (mI now) (mT now) (now 0) v) i h5) → ∀ (H : Heap) (locs : List Loc) (ls : Array Slot), XW D A s.heap (W_Mdg y hMo a_now a_asd a_pst a_mrf a_txt a_olt a_ofr a_nbs a_best a_wys a_rwx a_shx a_bef now msts mrf mbyt mord best wys rwx alw bco alm abt shx_58 mlt beg figm) H locs → lv_has ls 5 [(0, .ref hMo), (1, .long (lI h6)), (3, .int (iI v)), (4, .int (iI w))] → W p l e rm_X6_digest s m args below meth cX H locs 0 0 Q (F0 m 133 ls []) := by
                            intro nmu
                            induction nmu with
                            | zero =>
                              intro i h6 w hmu
                              exact absurd hmu (Nat.not_lt_zero _)
                            | succ nmu ih =>
                              intro i h6 w hmu hw h6h H locs ls hX hl
                              have ih_133_21 := ih
                              clear ih
                              refine xr_iload E hl 3 rfl dX6_digest_133 ?_
                              refine xr_iconst E dX6_digest_135 ?_
                              refine xr_icmp_ge (tgt := 160) E dX6_digest_136 (by decide) ⟨by omega, by omega⟩ (by decide) (fun c_136 => ?_) (fun c_136 => ?_)
                              · have c_136 := c_136
                                refine xr_iinc (k := 2) (lv' := [(3, .int (iI (v + 1))), (0, .ref hMo), (1, .long (lI h6)), (4, .int (iI w))]) E hl rfl dX6_digest_160 (by decide) rfl (fun ls hl => ?_)
                                refine xr_goto (tgt := 125) E dX6_digest_163 (by decide) ?_
                                exact ih_125_5 (k + 1) h6 (v + 1) (by omega) (by omega) (by rw [dgY_s, ← h5h, ← hv.1, h6h, show i = 3 by omega]) _ _ _ hX (lv_sub hl [1, 2, 0] rfl)
                              · have c_136 := c_136
                                refine xr_ldc2 (n := 31) E kl_X6_247 dX6_digest_139 (by decide) ?_
                                refine xr_lload_n E hl 1 rfl dX6_digest_142 rfl ?_
                                refine xr_lmul E dX6_digest_143 ?_
                                refine xr_aload_n E hl 0 rfl dX6_digest_144 rfl ?_
                                refine xr_iload_n E hl 2 rfl dX6_digest_145 rfl ?_
                                refine xr_iload E hl 3 rfl dX6_digest_146 ?_
                                refine xk_ri E hX [0, 1] rfl (xv_V (As := [.int (iI v), .int (iI w)]) E hX hl (c_X6_ofYear l D y z _ hMo a_now a_asd a_pst a_mrf a_txt a_olt a_ofr a_nbs a_best a_wys a_rwx a_shx a_bef now msts mbyt mord alw bco alm abt mlt beg figm v w H_M (by omega) ⟨by omega, by omega⟩) ml_X6_133 im_X6_ofYear se_X6_ofYear in_X6 co_X6_ofYear 2 (by decide) ⟨rfl, rfl⟩ ⟨Nat.le_of_ble_eq_true rfl, Nat.le_of_ble_eq_true rfl⟩ [0, 1] rfl rfl 0 rfl rfl rfl rfl rfl (Nat.le_of_ble_eq_true rfl) dX6_digest_148 ⟨Nat.le_refl _, Nat.le_refl _⟩) (fun r_148 H locs hw hX => ?_)
                                subst hw
                                have hyb := xYr_bd H_M (v := v) (by omega) (by omega) w
                                refine xr_i2l E dX6_digest_151 ⟨by omega, by omega⟩ ?_
                                refine xr_ladd E dX6_digest_152 ?_
                                refine xr_lstore_n (lv' := [(1, .long (lI ((31 * h6) + xYr (mI now) (mT now) (now 0) v w))), (0, .ref hMo), (3, .int (iI v)), (4, .int (iI w))]) E hl dX6_digest_153 rfl (by decide) rfl (fun ls hl => ?_)
                                refine xr_iinc (k := 3) (lv' := [(4, .int (iI (w + 1))), (1, .long (lI ((31 * h6) + xYr (mI now) (mT now) (now 0) v w))), (0, .ref hMo), (3, .int (iI v))]) E hl rfl dX6_digest_154 (by decide) rfl (fun ls hl => ?_)
                                refine xr_goto (tgt := 133) E dX6_digest_157 (by decide) ?_
                                exact ih_133_21 (i + 1) ((31 * h6) + xYr (mI now) (mT now) (now 0) v w) (w + 1) (by omega) (by omega) (by rw [dgI_s, ← h6h, ← hw.1]) _ _ _ hX (lv_sub hl [2, 1, 3, 0] rfl)
                          exact L_133_21 _ 0 h5 0 (Nat.lt_succ_self _) (by omega) rfl _ _ _ hX (lv_sub hl [1, 2, 3, 0] rfl)
                    exact L_125_5 _ 0 h3 0 (Nat.lt_succ_self _) (by omega) rfl _ _ _ hX (lv_sub hl [1, 2, 0] rfl)
                  · have c_70 := c_70
                    refine xr_iconst E dX6_digest_73 ?_
                    refine xr_istore (lv' := [(4, .int (iI 0)), (0, .ref hMo), (1, .long (lI h3)), (3, .int (iI t))]) E hl dX6_digest_74 (by decide) rfl (fun ls hl => ?_)
                    have L_76_22 : ∀ (nmu : Nat) (i : Nat) (h4 : Int) (w : Int), 4 - i < nmu → (w = i ∧ w ≤ 4) → (h4 = dgI (xOf (mI now) (mP now) (now 28) t) i h3) → ∀ (H : Heap) (locs : List Loc) (ls : Array Slot), XW D A s.heap (W_Mdg y hMo a_now a_asd a_pst a_mrf a_txt a_olt a_ofr a_nbs a_best a_wys a_rwx a_shx a_bef now msts mrf mbyt mord best wys rwx alw bco alm abt shx_58 mlt beg figm) H locs → lv_has ls 5 [(0, .ref hMo), (1, .long (lI h4)), (3, .int (iI t)), (4, .int (iI w))] → W p l e rm_X6_digest s m args below meth cX H locs 0 0 Q (F0 m 76 ls []) := by
                      intro nmu
                      induction nmu with
                      | zero =>
                        intro i h4 w hmu
                        exact absurd hmu (Nat.not_lt_zero _)
                      | succ nmu ih =>
                        intro i h4 w hmu hw h4h H locs ls hX hl
                        have ih_76_22 := ih
                        clear ih
                        refine xr_iload E hl 3 rfl dX6_digest_76 ?_
                        refine xr_iconst E dX6_digest_78 ?_
                        refine xr_icmp_ge (tgt := 103) E dX6_digest_79 (by decide) ⟨by omega, by omega⟩ (by decide) (fun c_79 => ?_) (fun c_79 => ?_)
                        · have c_79 := c_79
                          have hsb := xShare_bd H_M (t := t) (by omega) (by omega)
                          have hse := hp_58 t (by omega) (by omega)
                          refine xr_ldc2 (n := 31) E kl_X6_247 dX6_digest_103 (by decide) ?_
                          refine xr_lload_n E hl 1 rfl dX6_digest_106 rfl ?_
                          refine xr_lmul E dX6_digest_107 ?_
                          refine xr_aload_n E hl 0 rfl dX6_digest_108 rfl ?_
                          refine xr_get E hX 0 rfl rfl ly_X6 18 (by decide) fl_X6_44 rfl dX6_digest_109 ?_
                          refine xr_iload_n E hl 2 rfl dX6_digest_112 rfl ?_
                          refine xr_iald E hX 6 rfl (by omega) (by omega) (by decide) dX6_digest_113 ?_
                          refine xr_i2l E dX6_digest_114 ⟨by omega, by omega⟩ ?_
                          refine xr_ladd E dX6_digest_115 ?_
                          refine xr_lstore_n (lv' := [(1, .long (lI ((31 * h4) + (shx_58 t)))), (0, .ref hMo), (3, .int (iI t)), (4, .int (iI w))]) E hl dX6_digest_116 rfl (by decide) rfl (fun ls hl => ?_)
                          refine xr_iinc (k := 2) (lv' := [(3, .int (iI (t + 1))), (1, .long (lI ((31 * h4) + (shx_58 t)))), (0, .ref hMo), (4, .int (iI w))]) E hl rfl dX6_digest_117 (by decide) rfl (fun ls hl => ?_)
                          refine xr_goto (tgt := 63) E dX6_digest_120 (by decide) ?_
                          exact ih_63_4 (n1 + 1) ((31 * h4) + (shx_58 t)) (t + 1) (by omega) (by omega) (by rw [dgF_s, ← h3h, ← ht.1, h4h, hp_58 t (by omega) (by omega), show i = 4 by omega]) _ _ _ hX (lv_sub hl [2, 1, 0] rfl)
                        · have c_79 := c_79
                          refine xr_ldc2 (n := 31) E kl_X6_247 dX6_digest_82 (by decide) ?_
                          refine xr_lload_n E hl 1 rfl dX6_digest_85 rfl ?_
                          refine xr_lmul E dX6_digest_86 ?_
                          refine xr_aload_n E hl 0 rfl dX6_digest_87 rfl ?_
                          refine xr_iload_n E hl 2 rfl dX6_digest_88 rfl ?_
                          refine xr_iload E hl 3 rfl dX6_digest_89 ?_
                          refine xk_ri E hX [0, 1] rfl (xv_V (As := [.int (iI t), .int (iI w)]) E hX hl (c_X6_ofQuarter l D y z _ hMo a_now a_asd a_pst a_mrf a_txt a_olt a_ofr a_nbs a_best a_wys a_rwx a_shx a_bef now msts mbyt mord alw bco alm abt mlt beg figm t w H_M (by omega) ⟨by omega, by omega⟩) ml_X6_127 im_X6_ofQuarter se_X6_ofQuarter in_X6 co_X6_ofQuarter 2 (by decide) ⟨rfl, rfl⟩ ⟨Nat.le_of_ble_eq_true rfl, Nat.le_of_ble_eq_true rfl⟩ [0, 1] rfl rfl 0 rfl rfl rfl rfl rfl (Nat.le_of_ble_eq_true rfl) dX6_digest_91 ⟨Nat.le_refl _, Nat.le_refl _⟩) (fun r_91 H locs hw hX => ?_)
                          subst hw
                          have hob := xOf_bd H_M (t := t) (by omega) (by omega) w
                          refine xr_i2l E dX6_digest_94 ⟨by omega, by omega⟩ ?_
                          refine xr_ladd E dX6_digest_95 ?_
                          refine xr_lstore_n (lv' := [(1, .long (lI ((31 * h4) + xOf (mI now) (mP now) (now 28) t w))), (0, .ref hMo), (3, .int (iI t)), (4, .int (iI w))]) E hl dX6_digest_96 rfl (by decide) rfl (fun ls hl => ?_)
                          refine xr_iinc (k := 3) (lv' := [(4, .int (iI (w + 1))), (1, .long (lI ((31 * h4) + xOf (mI now) (mP now) (now 28) t w))), (0, .ref hMo), (3, .int (iI t))]) E hl rfl dX6_digest_97 (by decide) rfl (fun ls hl => ?_)
                          refine xr_goto (tgt := 76) E dX6_digest_100 (by decide) ?_
                          exact ih_76_22 (i + 1) ((31 * h4) + xOf (mI now) (mP now) (now 28) t w) (w + 1) (by omega) (by omega) (by rw [dgI_s, ← h4h, ← hw.1]) _ _ _ hX (lv_sub hl [2, 1, 3, 0] rfl)
                    exact L_76_22 _ 0 h3 0 (Nat.lt_succ_self _) (by omega) rfl _ _ _ hX (lv_sub hl [1, 2, 3, 0] rfl)
              exact L_63_4 _ 0 h2 0 (Nat.lt_succ_self _) (by omega) rfl _ _ _ hX (lv_sub hl [1, 2, 0] rfl)
            · have c_35 := c_35
              refine xr_ldc2 (n := 31) E kl_X6_247 dX6_digest_38 (by decide) ?_
              refine xr_lload_n E hl 1 rfl dX6_digest_41 rfl ?_
              refine xr_lmul E dX6_digest_42 ?_
              refine xr_aload_n E hl 0 rfl dX6_digest_43 rfl ?_
              refine xr_iload_n E hl 2 rfl dX6_digest_44 rfl ?_
              refine xk_ri E hX [0, 1] rfl (xv_V (As := [.int (iI w)]) E hX hl (c_X6_countOf l D y z _ hMo a_now a_asd a_pst a_mrf a_txt a_olt a_ofr a_nbs a_best a_wys a_rwx a_shx a_bef now msts mbyt mord alw bco alm abt mlt beg figm w H_M ⟨by omega, by omega⟩) ml_X6_138 im_X6_countOf se_X6_countOf in_X6 co_X6_countOf 1 (by decide) ⟨rfl, rfl⟩ ⟨Nat.le_of_ble_eq_true rfl, Nat.le_of_ble_eq_true rfl⟩ [0, 1] rfl rfl 0 rfl rfl rfl rfl rfl (Nat.le_of_ble_eq_true rfl) dX6_digest_45 ⟨Nat.le_refl _, Nat.le_refl _⟩) (fun r_45 H locs hw hX => ?_)
              subst hw
              have hab := xAll_bd H_M w
              refine xr_i2l E dX6_digest_48 ⟨by omega, by omega⟩ ?_
              refine xr_ladd E dX6_digest_49 ?_
              refine xr_lstore_n (lv' := [(1, .long (lI ((31 * h2) + xAll (mT now) (mP now) (now 0) (now 28) (now 29) (now 30) w))), (0, .ref hMo), (3, .int (iI w))]) E hl dX6_digest_50 rfl (by decide) rfl (fun ls hl => ?_)
              refine xr_iinc (k := 2) (lv' := [(3, .int (iI (w + 1))), (1, .long (lI ((31 * h2) + xAll (mT now) (mP now) (now 0) (now 28) (now 29) (now 30) w))), (0, .ref hMo)]) E hl rfl dX6_digest_51 (by decide) rfl (fun ls hl => ?_)
              refine xr_goto (tgt := 32) E dX6_digest_54 (by decide) ?_
              exact ih_32_2 (j + 1) ((31 * h2) + xAll (mT now) (mP now) (now 0) (now 28) (now 29) (now 30) w) (w + 1) (by omega) (by omega) (by rw [dgI_s, ← h2h, ← hw.1]) _ _ _ hX (lv_sub hl [2, 1, 0] rfl)
        exact L_32_2 _ 0 h 0 (Nat.lt_succ_self _) (by omega) rfl _ _ _ hX (lv_sub hl [1, 2, 0] rfl)
      · have c_8 := c_8
        refine xr_ldc2 (n := 31) E kl_X6_247 dX6_digest_11 (by decide) ?_
        refine xr_lload_n E hl 1 rfl dX6_digest_14 rfl ?_
        refine xr_lmul E dX6_digest_15 ?_
        refine xr_aload_n E hl 0 rfl dX6_digest_16 rfl ?_
        refine xr_iload_n E hl 2 rfl dX6_digest_17 rfl ?_
        refine xk_ri E hX [0, 2] rfl (xv_V (As := [.int (iI w)]) E hX hl (c_X6_toldOf l D y z _ hMo a_now a_asd a_pst a_mrf a_txt a_olt a_ofr a_nbs a_best a_wys a_rwx a_shx a_bef msts mrf mbyt mord alw bco alm abt mlt beg figm w (by omega)) ml_X6_242 im_X6_toldOf se_X6_toldOf in_X6 co_X6_toldOf 1 (by decide) ⟨rfl, rfl⟩ ⟨Nat.le_of_ble_eq_true rfl, Nat.le_of_ble_eq_true rfl⟩ [0, 2] rfl rfl 0 rfl rfl rfl rfl rfl (Nat.le_of_ble_eq_true rfl) dX6_digest_18 ⟨Nat.le_refl _, Nat.le_refl _⟩) (fun r_18 H locs hw hX => ?_)
        subst hw
        have hxt : 0 ≤ xTo mrf mbyt msts w ∧ xTo mrf mbyt msts w ≤ 100000000 := by unfold xTo; (repeat' split) <;> first | omega | (have h9 := hrf0 w (by omega) (by omega); omega)
        refine xr_i2l E dX6_digest_21 ⟨by omega, by omega⟩ ?_
        refine xr_ladd E dX6_digest_22 ?_
        refine xr_lstore_n (lv' := [(1, .long (lI ((31 * h) + xTo mrf mbyt msts w))), (0, .ref hMo), (3, .int (iI w))]) E hl dX6_digest_23 rfl (by decide) rfl (fun ls hl => ?_)
        refine xr_iinc (k := 2) (lv' := [(3, .int (iI (w + 1))), (1, .long (lI ((31 * h) + xTo mrf mbyt msts w))), (0, .ref hMo)]) E hl rfl dX6_digest_24 (by decide) rfl (fun ls hl => ?_)
        refine xr_goto (tgt := 6) E dX6_digest_27 (by decide) ?_
        exact ih_6_1 (n + 1) ((31 * h) + xTo mrf mbyt msts w) (w + 1) (by omega) (by omega) (by rw [dgI_s, ← hh, ← hw.1]) _ _ _ hX (lv_sub hl [2, 1, 0] rfl)
  exact L_6_1 _ 0 1980 0 (Nat.lt_succ_self _) (by omega) rfl _ _ _ hX (lv_sub hl [2, 1, 0] rfl)
