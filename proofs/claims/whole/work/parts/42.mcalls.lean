/-! the reference: calls told S, what is told -/
abbrev W_Ms (y : CY) (hMo a_now a_asd a_pst a_mrf a_txt a_olt a_ofr a_nbs a_best a_wys a_rwx a_shx a_bef : Nat) (now : Int → Int) (asd : Int → Int) (pst : Int → Int) (msts : Int) (mrf : Int → Int) (mbyt : Int) (mord : Int) (alw : Int) (bco : Int) (alm : Int) (abt : Int) (mlt : Int) (beg : Int) (figm : Int) : va_W := [(hMo, .inr (6, [.ref a_now, .ref a_asd, .ref a_pst, .int (iI msts), .ref a_mrf, .ref a_txt, .int (iI mbyt), .ref a_olt, .ref a_ofr, .ref a_nbs, .int (iI mord), .ref a_best, .ref a_wys, .ref a_rwx, .int (iI alw), .long (lI bco), .int (iI alm), .int (iI abt), .ref a_shx, .int (iI mlt), .int (iI beg), .int (iI figm), .ref a_bef])), (a_now, .inl (y.1, 31, .inl (ia now))), (a_asd, .inl (y.1, 31, .inl (ia asd))), (a_pst, .inl (y.1, 155, .inl (ia pst))), (a_mrf, .inl (y.1, 3, .inl (ia mrf)))]
abbrev W_Mnr (y : CY) (hMo a_now a_asd a_pst a_mrf a_txt a_olt a_ofr a_nbs a_best a_wys a_rwx a_shx a_bef : Nat) (now : Int → Int) (msts : Int) (mrf : Int → Int) (mbyt : Int) (mord : Int) (alw : Int) (bco : Int) (alm : Int) (abt : Int) (mlt : Int) (beg : Int) (figm : Int) : va_W := [(hMo, .inr (6, [.ref a_now, .ref a_asd, .ref a_pst, .int (iI msts), .ref a_mrf, .ref a_txt, .int (iI mbyt), .ref a_olt, .ref a_ofr, .ref a_nbs, .int (iI mord), .ref a_best, .ref a_wys, .ref a_rwx, .int (iI alw), .long (lI bco), .int (iI alm), .int (iI abt), .ref a_shx, .int (iI mlt), .int (iI beg), .int (iI figm), .ref a_bef])), (a_now, .inl (y.1, 31, .inl (ia now))), (a_mrf, .inl (y.1, 3, .inl (ia mrf)))]
abbrev W_Mt (y : CY) (hMo a_now a_asd a_pst a_mrf a_txt a_olt a_ofr a_nbs a_best a_wys a_rwx a_shx a_bef : Nat) (msts : Int) (mrf : Int → Int) (txt : Int → Int) (mbyt : Int) (mord : Int) (alw : Int) (bco : Int) (alm : Int) (abt : Int) (mlt : Int) (beg : Int) (figm : Int) : va_W := [(hMo, .inr (6, [.ref a_now, .ref a_asd, .ref a_pst, .int (iI msts), .ref a_mrf, .ref a_txt, .int (iI mbyt), .ref a_olt, .ref a_ofr, .ref a_nbs, .int (iI mord), .ref a_best, .ref a_wys, .ref a_rwx, .int (iI alw), .long (lI bco), .int (iI alm), .int (iI abt), .ref a_shx, .int (iI mlt), .int (iI beg), .int (iI figm), .ref a_bef])), (a_mrf, .inl (y.1, 3, .inl (ia mrf))), (a_txt, .inl (y.1, 120, .inl (ia txt)))]
abbrev W_M0 (y : CY) (hMo a_now a_asd a_pst a_mrf a_txt a_olt a_ofr a_nbs a_best a_wys a_rwx a_shx a_bef : Nat) (msts : Int) (mbyt : Int) (mord : Int) (alw : Int) (bco : Int) (alm : Int) (abt : Int) (mlt : Int) (beg : Int) (figm : Int) : va_W := [(hMo, .inr (6, [.ref a_now, .ref a_asd, .ref a_pst, .int (iI msts), .ref a_mrf, .ref a_txt, .int (iI mbyt), .ref a_olt, .ref a_ofr, .ref a_nbs, .int (iI mord), .ref a_best, .ref a_wys, .ref a_rwx, .int (iI alw), .long (lI bco), .int (iI alm), .int (iI abt), .ref a_shx, .int (iI mlt), .int (iI beg), .int (iI figm), .ref a_bef]))]
abbrev W_Mb (y : CY) (hMo a_now a_asd a_pst a_mrf a_txt a_olt a_ofr a_nbs a_best a_wys a_rwx a_shx a_bef : Nat) (now : Int → Int) (pst : Int → Int) (msts : Int) (mrf : Int → Int) (mbyt : Int) (mord : Int) (alw : Int) (bco : Int) (alm : Int) (abt : Int) (mlt : Int) (beg : Int) (figm : Int) : va_W := [(hMo, .inr (6, [.ref a_now, .ref a_asd, .ref a_pst, .int (iI msts), .ref a_mrf, .ref a_txt, .int (iI mbyt), .ref a_olt, .ref a_ofr, .ref a_nbs, .int (iI mord), .ref a_best, .ref a_wys, .ref a_rwx, .int (iI alw), .long (lI bco), .int (iI alm), .int (iI abt), .ref a_shx, .int (iI mlt), .int (iI beg), .int (iI figm), .ref a_bef])), (a_now, .inl (y.1, 31, .inl (ia now))), (a_pst, .inl (y.1, 155, .inl (ia pst))), (a_mrf, .inl (y.1, 3, .inl (ia mrf)))]
abbrev rm_X6_quarter : Room := { frames := 2, cells := 0, slots := 0, locals := 47 }
set_option maxHeartbeats 4000000 in
set_option maxRecDepth 100000 in
theorem c_X6_quarter (l : Launch) (D : va_G) (y : CY) (z sz : Nat) (hMo a_now a_asd a_pst a_mrf a_txt a_olt a_ofr a_nbs a_best a_wys a_rwx a_shx a_bef : Nat) (now : Int → Int) (asd : Int → Int) (pst : Int → Int) (msts : Int) (mrf : Int → Int) (mbyt : Int) (mord : Int) (alw : Int) (bco : Int) (alm : Int) (abt : Int) (mlt : Int) (beg : Int) (figm : Int) (i : Int) (H_M : FM now) (hms : 0 ≤ msts ∧ msts ≤ 5) (hi : sm i) : Met l yX6_quarter (Cond.code yX6_quarter cX6_quarter 2 (some .int) :: TW) rm_X6_quarter (va_Pc [.ref hMo, .int (iI i)] (PX D y z (W_Ms y hMo a_now a_asd a_pst a_mrf a_txt a_olt a_ofr a_nbs a_best a_wys a_rwx a_shx a_bef now asd pst msts mrf mbyt mord alw bco alm abt mlt beg figm) sz)) (va_Qi (fun (r : Int32) (uu : (Int → Int) × (Int → Int) × (Int → Int) × (Int → Int) × (Int)) => r = iI (xAdds_r i (now 0)) ∧ uu = (cpR asd 0 now 0, mAdds i now, mRf mrf (xAdds_r i (now 0)), mPast pst (cpR asd 0 now 0) msts (xAdds_r i (now 0)), mSts msts (xAdds_r i (now 0)))) (fun uu t => BX D (W_Ms y hMo a_now a_asd a_pst a_mrf a_txt a_olt a_ofr a_nbs a_best a_wys a_rwx a_shx a_bef uu.2.1 uu.1 uu.2.2.2.1 uu.2.2.2.2 uu.2.2.1 mbyt mord alw bco alm abt mlt beg figm) (va_A (W_Ms y hMo a_now a_asd a_pst a_mrf a_txt a_olt a_ofr a_nbs a_best a_wys a_rwx a_shx a_bef now asd pst msts mrf mbyt mord alw bco alm abt mlt beg figm) sz) t) (va_A (W_Ms y hMo a_now a_asd a_pst a_mrf a_txt a_olt a_ofr a_nbs a_best a_wys a_rwx a_shx a_bef now asd pst msts mrf mbyt mord alw bco alm abt mlt beg figm) sz)) 0 0 (va_A (W_Ms y hMo a_now a_asd a_pst a_mrf a_txt a_olt a_ofr a_nbs a_best a_wys a_rwx a_shx a_bef now asd pst msts mrf mbyt mord alw bco alm abt mlt beg figm) sz) := by
  refine xm_i (by decide) (Nat.le_of_ble_eq_true rfl) (fun p e s m args below meth cX ls A Q E hr hnm hX hl hQ => ?_)
  have hl : lv_has ls 2 [(0, .ref hMo), (1, .int (iI i))] := hl
  have hq := H_M.q
  have hfr := H_M.fr
  have hli := H_M.li
  have hsh := H_M.sh
  have hrb : -4 ≤ xAdds_r i (now 0) ∧ xAdds_r i (now 0) ≤ 1000000 := by unfold xAdds_r; (repeat' split) <;> omega
  refine xr_aload_n E hl 0 rfl dX6_quarter_0 rfl ?_
  refine xk_v (W2 := fun uu => (W_Ms y hMo a_now a_asd a_pst a_mrf a_txt a_olt a_ofr a_nbs a_best a_wys a_rwx a_shx a_bef now uu pst msts mrf mbyt mord alw bco alm abt mlt beg figm)) E hX [0, 1, 2] rfl (xv_V (As := []) E hX hl (c_X6_save l D y z _ hMo a_now a_asd a_pst a_mrf a_txt a_olt a_ofr a_nbs a_best a_wys a_rwx a_shx a_bef now asd msts mbyt mord alw bco alm abt mlt beg figm) ml_X6_90 im_X6_save se_X6_save in_X6 co_X6_save 0 (by decide) ⟨rfl, rfl⟩ ⟨Nat.le_of_ble_eq_true rfl, Nat.le_of_ble_eq_true rfl⟩ [0, 1, 2] rfl rfl 0 rfl rfl rfl rfl rfl (Nat.le_of_ble_eq_true rfl) dX6_quarter_1 ⟨Nat.le_refl _, Nat.le_refl _⟩) [0, 1, 2, 6, 7] 3 (fun _ => rfl) (fun _ => rfl) (by decide) (by decide) (fun uu H locs hw hX => ?_)
  subst hw
  have hX : XW D A s.heap (W_Ms y hMo a_now a_asd a_pst a_mrf a_txt a_olt a_ofr a_nbs a_best a_wys a_rwx a_shx a_bef now (cpR asd 0 now 0) pst msts mrf mbyt mord alw bco alm abt mlt beg figm) H locs := hX
  refine xr_aload_n E hl 0 rfl dX6_quarter_4 rfl ?_
  refine xr_aload_n E hl 0 rfl dX6_quarter_5 rfl ?_
  refine xr_iload_n E hl 1 rfl dX6_quarter_6 rfl ?_
  refine xk_i (W2 := fun uu => (W_Ms y hMo a_now a_asd a_pst a_mrf a_txt a_olt a_ofr a_nbs a_best a_wys a_rwx a_shx a_bef uu (cpR asd 0 now 0) pst msts mrf mbyt mord alw bco alm abt mlt beg figm)) E hX [0, 1] rfl (xv_V (As := [.int (iI i)]) E hX hl (c_X6_putQuarter l D y z _ hMo a_now a_asd a_pst a_mrf a_txt a_olt a_ofr a_nbs a_best a_wys a_rwx a_shx a_bef now msts mbyt mord alw bco alm abt mlt beg figm i (by omega) H_M) ml_X6_93 im_X6_putQuarter se_X6_putQuarter in_X6 co_X6_putQuarter 1 (by decide) ⟨rfl, rfl⟩ ⟨Nat.le_of_ble_eq_true rfl, Nat.le_of_ble_eq_true rfl⟩ [0, 1] rfl rfl 0 rfl rfl rfl rfl rfl (Nat.le_of_ble_eq_true rfl) dX6_quarter_7 ⟨Nat.le_refl _, Nat.le_refl _⟩) [0, 1, 4, 5, 6] 2 (fun _ => rfl) (fun _ => rfl) (by decide) (by decide) (fun r_7 uu H locs hw hX => ?_)
  obtain ⟨rfl, rfl⟩ := hw
  have hX : XW D A s.heap (W_Ms y hMo a_now a_asd a_pst a_mrf a_txt a_olt a_ofr a_nbs a_best a_wys a_rwx a_shx a_bef (mAdds i now) (cpR asd 0 now 0) pst msts mrf mbyt mord alw bco alm abt mlt beg figm) H locs := hX
  refine xk_i (W2 := fun uu => (W_Ms y hMo a_now a_asd a_pst a_mrf a_txt a_olt a_ofr a_nbs a_best a_wys a_rwx a_shx a_bef (mAdds i now) (cpR asd 0 now 0) uu.2.1 uu.2.2 uu.1 mbyt mord alw bco alm abt mlt beg figm)) E hX [0, 2, 3, 4] rfl (xv_V (As := [.int (iI (xAdds_r i (now 0)))]) E hX hl (c_X6_finish l D y z _ hMo a_now a_asd a_pst a_mrf a_txt a_olt a_ofr a_nbs a_best a_wys a_rwx a_shx a_bef (cpR asd 0 now 0) pst msts mrf mbyt mord alw bco alm abt mlt beg figm (xAdds_r i (now 0)) (by omega) (by omega)) ml_X6_96 im_X6_finish se_X6_finish in_X6 co_X6_finish 1 (by decide) ⟨rfl, rfl⟩ ⟨Nat.le_of_ble_eq_true rfl, Nat.le_of_ble_eq_true rfl⟩ [0, 2, 3, 4] rfl rfl 0 rfl rfl rfl rfl rfl (Nat.le_of_ble_eq_true rfl) dX6_quarter_10 ⟨Nat.le_refl _, Nat.le_refl _⟩) [0, 5, 1, 2, 3] 4 (fun _ => rfl) (fun _ => rfl) (by decide) (by decide) (fun r_10 uu H locs hw hX => ?_)
  obtain ⟨rfl, rfl⟩ := hw
  have hX : XW D A s.heap (W_Ms y hMo a_now a_asd a_pst a_mrf a_txt a_olt a_ofr a_nbs a_best a_wys a_rwx a_shx a_bef (mAdds i now) (cpR asd 0 now 0) (mPast pst (cpR asd 0 now 0) msts (xAdds_r i (now 0))) (mSts msts (xAdds_r i (now 0))) (mRf mrf (xAdds_r i (now 0))) mbyt mord alw bco alm abt mlt beg figm) H locs := hX
  exact xr_iret E hX hQ (cpR asd 0 now 0, mAdds i now, mRf mrf (xAdds_r i (now 0)), mPast pst (cpR asd 0 now 0) msts (xAdds_r i (now 0)), mSts msts (xAdds_r i (now 0))) hr ⟨rfl, rfl⟩ rfl dX6_quarter_13
abbrev rm_X6_indicates : Room := { frames := 3, cells := 0, slots := 0, locals := 69 }
set_option maxHeartbeats 4000000 in
set_option maxRecDepth 100000 in
theorem c_X6_indicates (l : Launch) (D : va_G) (y : CY) (z sz : Nat) (hMo a_now a_asd a_pst a_mrf a_txt a_olt a_ofr a_nbs a_best a_wys a_rwx a_shx a_bef : Nat) (now : Int → Int) (asd : Int → Int) (pst : Int → Int) (msts : Int) (mrf : Int → Int) (mbyt : Int) (mord : Int) (alw : Int) (bco : Int) (alm : Int) (abt : Int) (mlt : Int) (beg : Int) (figm : Int) (t : Int) (i : Int) (H_M : FM now) (hms : 0 ≤ msts ∧ msts ≤ 5) (ht : sm t) (hi : sm i) : Met l yX6_indicates (Cond.code yX6_indicates cX6_indicates 3 (some .int) :: TW) rm_X6_indicates (va_Pc [.ref hMo, .int (iI t), .int (iI i)] (PX D y z (W_Ms y hMo a_now a_asd a_pst a_mrf a_txt a_olt a_ofr a_nbs a_best a_wys a_rwx a_shx a_bef now asd pst msts mrf mbyt mord alw bco alm abt mlt beg figm) sz)) (va_Qi (fun (r : Int32) (uu : (Int → Int) × (Int → Int) × (Int → Int) × (Int → Int) × (Int)) => r = iI (xRe_r t i (mI now) (now 0)) ∧ uu = (cpR asd 0 now 0, mRe t i now, mRf mrf (xRe_r t i (mI now) (now 0)), mPast pst (cpR asd 0 now 0) msts (xRe_r t i (mI now) (now 0)), mSts msts (xRe_r t i (mI now) (now 0)))) (fun uu t => BX D (W_Ms y hMo a_now a_asd a_pst a_mrf a_txt a_olt a_ofr a_nbs a_best a_wys a_rwx a_shx a_bef uu.2.1 uu.1 uu.2.2.2.1 uu.2.2.2.2 uu.2.2.1 mbyt mord alw bco alm abt mlt beg figm) (va_A (W_Ms y hMo a_now a_asd a_pst a_mrf a_txt a_olt a_ofr a_nbs a_best a_wys a_rwx a_shx a_bef now asd pst msts mrf mbyt mord alw bco alm abt mlt beg figm) sz) t) (va_A (W_Ms y hMo a_now a_asd a_pst a_mrf a_txt a_olt a_ofr a_nbs a_best a_wys a_rwx a_shx a_bef now asd pst msts mrf mbyt mord alw bco alm abt mlt beg figm) sz)) 0 0 (va_A (W_Ms y hMo a_now a_asd a_pst a_mrf a_txt a_olt a_ofr a_nbs a_best a_wys a_rwx a_shx a_bef now asd pst msts mrf mbyt mord alw bco alm abt mlt beg figm) sz) := by
  refine xm_i (by decide) (Nat.le_of_ble_eq_true rfl) (fun p e s m args below meth cX ls A Q E hr hnm hX hl hQ => ?_)
  have hl : lv_has ls 3 [(0, .ref hMo), (1, .int (iI t)), (2, .int (iI i))] := hl
  have hq := H_M.q
  have hfr := H_M.fr
  have hli := H_M.li
  have hsh := H_M.sh
  have hrb : -4 ≤ xRe_r t i (mI now) (now 0) ∧ xRe_r t i (mI now) (now 0) ≤ 1000000 := by unfold xRe_r mI; split <;> first | omega | (rename_i h; have h9 := H_M.ind (t := t) (by omega) (by omega); omega)
  refine xr_aload_n E hl 0 rfl dX6_indicates_0 rfl ?_
  refine xk_v (W2 := fun uu => (W_Ms y hMo a_now a_asd a_pst a_mrf a_txt a_olt a_ofr a_nbs a_best a_wys a_rwx a_shx a_bef now uu pst msts mrf mbyt mord alw bco alm abt mlt beg figm)) E hX [0, 1, 2] rfl (xv_V (As := []) E hX hl (c_X6_save l D y z _ hMo a_now a_asd a_pst a_mrf a_txt a_olt a_ofr a_nbs a_best a_wys a_rwx a_shx a_bef now asd msts mbyt mord alw bco alm abt mlt beg figm) ml_X6_90 im_X6_save se_X6_save in_X6 co_X6_save 0 (by decide) ⟨rfl, rfl⟩ ⟨Nat.le_of_ble_eq_true rfl, Nat.le_of_ble_eq_true rfl⟩ [0, 1, 2] rfl rfl 0 rfl rfl rfl rfl rfl (Nat.le_of_ble_eq_true rfl) dX6_indicates_1 ⟨Nat.le_refl _, Nat.le_refl _⟩) [0, 1, 2, 6, 7] 3 (fun _ => rfl) (fun _ => rfl) (by decide) (by decide) (fun uu H locs hw hX => ?_)
  subst hw
  have hX : XW D A s.heap (W_Ms y hMo a_now a_asd a_pst a_mrf a_txt a_olt a_ofr a_nbs a_best a_wys a_rwx a_shx a_bef now (cpR asd 0 now 0) pst msts mrf mbyt mord alw bco alm abt mlt beg figm) H locs := hX
  refine xr_aload_n E hl 0 rfl dX6_indicates_4 rfl ?_
  refine xr_aload_n E hl 0 rfl dX6_indicates_5 rfl ?_
  refine xr_iload_n E hl 1 rfl dX6_indicates_6 rfl ?_
  refine xr_iload_n E hl 2 rfl dX6_indicates_7 rfl ?_
  refine xk_i (W2 := fun uu => (W_Ms y hMo a_now a_asd a_pst a_mrf a_txt a_olt a_ofr a_nbs a_best a_wys a_rwx a_shx a_bef uu (cpR asd 0 now 0) pst msts mrf mbyt mord alw bco alm abt mlt beg figm)) E hX [0, 1] rfl (xv_V (As := [.int (iI t), .int (iI i)]) E hX hl (c_X6_putIndicator l D y z _ hMo a_now a_asd a_pst a_mrf a_txt a_olt a_ofr a_nbs a_best a_wys a_rwx a_shx a_bef now msts mbyt mord alw bco alm abt mlt beg figm t i (by omega) (by omega) H_M) ml_X6_99 im_X6_putIndicator se_X6_putIndicator in_X6 co_X6_putIndicator 2 (by decide) ⟨rfl, rfl⟩ ⟨Nat.le_of_ble_eq_true rfl, Nat.le_of_ble_eq_true rfl⟩ [0, 1] rfl rfl 0 rfl rfl rfl rfl rfl (Nat.le_of_ble_eq_true rfl) dX6_indicates_8 ⟨Nat.le_refl _, Nat.le_refl _⟩) [0, 1, 4, 5, 6] 2 (fun _ => rfl) (fun _ => rfl) (by decide) (by decide) (fun r_8 uu H locs hw hX => ?_)
  obtain ⟨rfl, rfl⟩ := hw
  have hX : XW D A s.heap (W_Ms y hMo a_now a_asd a_pst a_mrf a_txt a_olt a_ofr a_nbs a_best a_wys a_rwx a_shx a_bef (mRe t i now) (cpR asd 0 now 0) pst msts mrf mbyt mord alw bco alm abt mlt beg figm) H locs := hX
  refine xk_i (W2 := fun uu => (W_Ms y hMo a_now a_asd a_pst a_mrf a_txt a_olt a_ofr a_nbs a_best a_wys a_rwx a_shx a_bef (mRe t i now) (cpR asd 0 now 0) uu.2.1 uu.2.2 uu.1 mbyt mord alw bco alm abt mlt beg figm)) E hX [0, 2, 3, 4] rfl (xv_V (As := [.int (iI (xRe_r t i (mI now) (now 0)))]) E hX hl (c_X6_finish l D y z _ hMo a_now a_asd a_pst a_mrf a_txt a_olt a_ofr a_nbs a_best a_wys a_rwx a_shx a_bef (cpR asd 0 now 0) pst msts mrf mbyt mord alw bco alm abt mlt beg figm (xRe_r t i (mI now) (now 0)) (by omega) (by omega)) ml_X6_96 im_X6_finish se_X6_finish in_X6 co_X6_finish 1 (by decide) ⟨rfl, rfl⟩ ⟨Nat.le_of_ble_eq_true rfl, Nat.le_of_ble_eq_true rfl⟩ [0, 2, 3, 4] rfl rfl 0 rfl rfl rfl rfl rfl (Nat.le_of_ble_eq_true rfl) dX6_indicates_11 ⟨Nat.le_refl _, Nat.le_refl _⟩) [0, 5, 1, 2, 3] 4 (fun _ => rfl) (fun _ => rfl) (by decide) (by decide) (fun r_11 uu H locs hw hX => ?_)
  obtain ⟨rfl, rfl⟩ := hw
  have hX : XW D A s.heap (W_Ms y hMo a_now a_asd a_pst a_mrf a_txt a_olt a_ofr a_nbs a_best a_wys a_rwx a_shx a_bef (mRe t i now) (cpR asd 0 now 0) (mPast pst (cpR asd 0 now 0) msts (xRe_r t i (mI now) (now 0))) (mSts msts (xRe_r t i (mI now) (now 0))) (mRf mrf (xRe_r t i (mI now) (now 0))) mbyt mord alw bco alm abt mlt beg figm) H locs := hX
  exact xr_iret E hX hQ (cpR asd 0 now 0, mRe t i now, mRf mrf (xRe_r t i (mI now) (now 0)), mPast pst (cpR asd 0 now 0) msts (xRe_r t i (mI now) (now 0)), mSts msts (xRe_r t i (mI now) (now 0))) hr ⟨rfl, rfl⟩ rfl dX6_indicates_14
abbrev rm_X6_total : Room := { frames := 3, cells := 0, slots := 0, locals := 68 }
set_option maxHeartbeats 4000000 in
set_option maxRecDepth 100000 in
theorem c_X6_total (l : Launch) (D : va_G) (y : CY) (z sz : Nat) (hMo a_now a_asd a_pst a_mrf a_txt a_olt a_ofr a_nbs a_best a_wys a_rwx a_shx a_bef : Nat) (now : Int → Int) (asd : Int → Int) (pst : Int → Int) (msts : Int) (mrf : Int → Int) (mbyt : Int) (mord : Int) (alw : Int) (bco : Int) (alm : Int) (abt : Int) (mlt : Int) (beg : Int) (figm : Int) (v : Int) (w : Int) (H_M : FM now) (hms : 0 ≤ msts ∧ msts ≤ 5) (hv : sm v) (hw : sm w) : Met l yX6_total (Cond.code yX6_total cX6_total 3 (some .int) :: TW) rm_X6_total (va_Pc [.ref hMo, .int (iI v), .int (iI w)] (PX D y z (W_Ms y hMo a_now a_asd a_pst a_mrf a_txt a_olt a_ofr a_nbs a_best a_wys a_rwx a_shx a_bef now asd pst msts mrf mbyt mord alw bco alm abt mlt beg figm) sz)) (va_Qi (fun (r : Int32) (uu : (Int → Int) × (Int → Int) × (Int → Int) × (Int → Int) × (Int)) => r = iI (xTl_r v w (mT now) (now 0)) ∧ uu = (cpR asd 0 now 0, mTl v w now, mRf mrf (xTl_r v w (mT now) (now 0)), mPast pst (cpR asd 0 now 0) msts (xTl_r v w (mT now) (now 0)), mSts msts (xTl_r v w (mT now) (now 0)))) (fun uu t => BX D (W_Ms y hMo a_now a_asd a_pst a_mrf a_txt a_olt a_ofr a_nbs a_best a_wys a_rwx a_shx a_bef uu.2.1 uu.1 uu.2.2.2.1 uu.2.2.2.2 uu.2.2.1 mbyt mord alw bco alm abt mlt beg figm) (va_A (W_Ms y hMo a_now a_asd a_pst a_mrf a_txt a_olt a_ofr a_nbs a_best a_wys a_rwx a_shx a_bef now asd pst msts mrf mbyt mord alw bco alm abt mlt beg figm) sz) t) (va_A (W_Ms y hMo a_now a_asd a_pst a_mrf a_txt a_olt a_ofr a_nbs a_best a_wys a_rwx a_shx a_bef now asd pst msts mrf mbyt mord alw bco alm abt mlt beg figm) sz)) 0 0 (va_A (W_Ms y hMo a_now a_asd a_pst a_mrf a_txt a_olt a_ofr a_nbs a_best a_wys a_rwx a_shx a_bef now asd pst msts mrf mbyt mord alw bco alm abt mlt beg figm) sz) := by
  refine xm_i (by decide) (Nat.le_of_ble_eq_true rfl) (fun p e s m args below meth cX ls A Q E hr hnm hX hl hQ => ?_)
  have hl : lv_has ls 3 [(0, .ref hMo), (1, .int (iI v)), (2, .int (iI w))] := hl
  have hq := H_M.q
  have hfr := H_M.fr
  have hli := H_M.li
  have hsh := H_M.sh
  have hrb : -4 ≤ xTl_r v w (mT now) (now 0) ∧ xTl_r v w (mT now) (now 0) ≤ 1000000 := by unfold xTl_r mT; split <;> first | omega | (rename_i h; have h9 := H_M.tot (v := v) (by omega) (by omega); split <;> omega)
  refine xr_aload_n E hl 0 rfl dX6_total_0 rfl ?_
  refine xk_v (W2 := fun uu => (W_Ms y hMo a_now a_asd a_pst a_mrf a_txt a_olt a_ofr a_nbs a_best a_wys a_rwx a_shx a_bef now uu pst msts mrf mbyt mord alw bco alm abt mlt beg figm)) E hX [0, 1, 2] rfl (xv_V (As := []) E hX hl (c_X6_save l D y z _ hMo a_now a_asd a_pst a_mrf a_txt a_olt a_ofr a_nbs a_best a_wys a_rwx a_shx a_bef now asd msts mbyt mord alw bco alm abt mlt beg figm) ml_X6_90 im_X6_save se_X6_save in_X6 co_X6_save 0 (by decide) ⟨rfl, rfl⟩ ⟨Nat.le_of_ble_eq_true rfl, Nat.le_of_ble_eq_true rfl⟩ [0, 1, 2] rfl rfl 0 rfl rfl rfl rfl rfl (Nat.le_of_ble_eq_true rfl) dX6_total_1 ⟨Nat.le_refl _, Nat.le_refl _⟩) [0, 1, 2, 6, 7] 3 (fun _ => rfl) (fun _ => rfl) (by decide) (by decide) (fun uu H locs hw hX => ?_)
  subst hw
  have hX : XW D A s.heap (W_Ms y hMo a_now a_asd a_pst a_mrf a_txt a_olt a_ofr a_nbs a_best a_wys a_rwx a_shx a_bef now (cpR asd 0 now 0) pst msts mrf mbyt mord alw bco alm abt mlt beg figm) H locs := hX
  refine xr_aload_n E hl 0 rfl dX6_total_4 rfl ?_
  refine xr_aload_n E hl 0 rfl dX6_total_5 rfl ?_
  refine xr_iload_n E hl 1 rfl dX6_total_6 rfl ?_
  refine xr_iload_n E hl 2 rfl dX6_total_7 rfl ?_
  refine xk_i (W2 := fun uu => (W_Ms y hMo a_now a_asd a_pst a_mrf a_txt a_olt a_ofr a_nbs a_best a_wys a_rwx a_shx a_bef uu (cpR asd 0 now 0) pst msts mrf mbyt mord alw bco alm abt mlt beg figm)) E hX [0, 1] rfl (xv_V (As := [.int (iI v), .int (iI w)]) E hX hl (c_X6_putTotal l D y z _ hMo a_now a_asd a_pst a_mrf a_txt a_olt a_ofr a_nbs a_best a_wys a_rwx a_shx a_bef now msts mbyt mord alw bco alm abt mlt beg figm v w (by omega) (by omega) H_M) ml_X6_103 im_X6_putTotal se_X6_putTotal in_X6 co_X6_putTotal 2 (by decide) ⟨rfl, rfl⟩ ⟨Nat.le_of_ble_eq_true rfl, Nat.le_of_ble_eq_true rfl⟩ [0, 1] rfl rfl 0 rfl rfl rfl rfl rfl (Nat.le_of_ble_eq_true rfl) dX6_total_8 ⟨Nat.le_refl _, Nat.le_refl _⟩) [0, 1, 4, 5, 6] 2 (fun _ => rfl) (fun _ => rfl) (by decide) (by decide) (fun r_8 uu H locs hw hX => ?_)
  obtain ⟨rfl, rfl⟩ := hw
  have hX : XW D A s.heap (W_Ms y hMo a_now a_asd a_pst a_mrf a_txt a_olt a_ofr a_nbs a_best a_wys a_rwx a_shx a_bef (mTl v w now) (cpR asd 0 now 0) pst msts mrf mbyt mord alw bco alm abt mlt beg figm) H locs := hX
  refine xk_i (W2 := fun uu => (W_Ms y hMo a_now a_asd a_pst a_mrf a_txt a_olt a_ofr a_nbs a_best a_wys a_rwx a_shx a_bef (mTl v w now) (cpR asd 0 now 0) uu.2.1 uu.2.2 uu.1 mbyt mord alw bco alm abt mlt beg figm)) E hX [0, 2, 3, 4] rfl (xv_V (As := [.int (iI (xTl_r v w (mT now) (now 0)))]) E hX hl (c_X6_finish l D y z _ hMo a_now a_asd a_pst a_mrf a_txt a_olt a_ofr a_nbs a_best a_wys a_rwx a_shx a_bef (cpR asd 0 now 0) pst msts mrf mbyt mord alw bco alm abt mlt beg figm (xTl_r v w (mT now) (now 0)) (by omega) (by omega)) ml_X6_96 im_X6_finish se_X6_finish in_X6 co_X6_finish 1 (by decide) ⟨rfl, rfl⟩ ⟨Nat.le_of_ble_eq_true rfl, Nat.le_of_ble_eq_true rfl⟩ [0, 2, 3, 4] rfl rfl 0 rfl rfl rfl rfl rfl (Nat.le_of_ble_eq_true rfl) dX6_total_11 ⟨Nat.le_refl _, Nat.le_refl _⟩) [0, 5, 1, 2, 3] 4 (fun _ => rfl) (fun _ => rfl) (by decide) (by decide) (fun r_11 uu H locs hw hX => ?_)
  obtain ⟨rfl, rfl⟩ := hw
  have hX : XW D A s.heap (W_Ms y hMo a_now a_asd a_pst a_mrf a_txt a_olt a_ofr a_nbs a_best a_wys a_rwx a_shx a_bef (mTl v w now) (cpR asd 0 now 0) (mPast pst (cpR asd 0 now 0) msts (xTl_r v w (mT now) (now 0))) (mSts msts (xTl_r v w (mT now) (now 0))) (mRf mrf (xTl_r v w (mT now) (now 0))) mbyt mord alw bco alm abt mlt beg figm) H locs := hX
  exact xr_iret E hX hQ (cpR asd 0 now 0, mTl v w now, mRf mrf (xTl_r v w (mT now) (now 0)), mPast pst (cpR asd 0 now 0) msts (xTl_r v w (mT now) (now 0)), mSts msts (xTl_r v w (mT now) (now 0))) hr ⟨rfl, rfl⟩ rfl dX6_total_14
abbrev rm_X6_untold : Room := { frames := 3, cells := 0, slots := 0, locals := 67 }
set_option maxHeartbeats 4000000 in
set_option maxRecDepth 100000 in
theorem c_X6_untold (l : Launch) (D : va_G) (y : CY) (z sz : Nat) (hMo a_now a_asd a_pst a_mrf a_txt a_olt a_ofr a_nbs a_best a_wys a_rwx a_shx a_bef : Nat) (now : Int → Int) (asd : Int → Int) (pst : Int → Int) (msts : Int) (mrf : Int → Int) (mbyt : Int) (mord : Int) (alw : Int) (bco : Int) (alm : Int) (abt : Int) (mlt : Int) (beg : Int) (figm : Int) (v : Int) (H_M : FM now) (hms : 0 ≤ msts ∧ msts ≤ 5) (hv : sm v) : Met l yX6_untold (Cond.code yX6_untold cX6_untold 2 (some .int) :: TW) rm_X6_untold (va_Pc [.ref hMo, .int (iI v)] (PX D y z (W_Ms y hMo a_now a_asd a_pst a_mrf a_txt a_olt a_ofr a_nbs a_best a_wys a_rwx a_shx a_bef now asd pst msts mrf mbyt mord alw bco alm abt mlt beg figm) sz)) (va_Qi (fun (r : Int32) (uu : (Int → Int) × (Int → Int) × (Int → Int) × (Int → Int) × (Int)) => r = iI (xUn_r v (mT now)) ∧ uu = (cpR asd 0 now 0, mUn v now, mRf mrf (xUn_r v (mT now)), mPast pst (cpR asd 0 now 0) msts (xUn_r v (mT now)), mSts msts (xUn_r v (mT now)))) (fun uu t => BX D (W_Ms y hMo a_now a_asd a_pst a_mrf a_txt a_olt a_ofr a_nbs a_best a_wys a_rwx a_shx a_bef uu.2.1 uu.1 uu.2.2.2.1 uu.2.2.2.2 uu.2.2.1 mbyt mord alw bco alm abt mlt beg figm) (va_A (W_Ms y hMo a_now a_asd a_pst a_mrf a_txt a_olt a_ofr a_nbs a_best a_wys a_rwx a_shx a_bef now asd pst msts mrf mbyt mord alw bco alm abt mlt beg figm) sz) t) (va_A (W_Ms y hMo a_now a_asd a_pst a_mrf a_txt a_olt a_ofr a_nbs a_best a_wys a_rwx a_shx a_bef now asd pst msts mrf mbyt mord alw bco alm abt mlt beg figm) sz)) 0 0 (va_A (W_Ms y hMo a_now a_asd a_pst a_mrf a_txt a_olt a_ofr a_nbs a_best a_wys a_rwx a_shx a_bef now asd pst msts mrf mbyt mord alw bco alm abt mlt beg figm) sz) := by
  refine xm_i (by decide) (Nat.le_of_ble_eq_true rfl) (fun p e s m args below meth cX ls A Q E hr hnm hX hl hQ => ?_)
  have hl : lv_has ls 2 [(0, .ref hMo), (1, .int (iI v))] := hl
  have hq := H_M.q
  have hfr := H_M.fr
  have hli := H_M.li
  have hsh := H_M.sh
  have hrb : -4 ≤ xUn_r v (mT now) ∧ xUn_r v (mT now) ≤ 1000000 := by unfold xUn_r mT; split <;> first | omega | (rename_i h; have h9 := H_M.tot (v := v) (by omega) (by omega); split <;> omega)
  refine xr_aload_n E hl 0 rfl dX6_untold_0 rfl ?_
  refine xk_v (W2 := fun uu => (W_Ms y hMo a_now a_asd a_pst a_mrf a_txt a_olt a_ofr a_nbs a_best a_wys a_rwx a_shx a_bef now uu pst msts mrf mbyt mord alw bco alm abt mlt beg figm)) E hX [0, 1, 2] rfl (xv_V (As := []) E hX hl (c_X6_save l D y z _ hMo a_now a_asd a_pst a_mrf a_txt a_olt a_ofr a_nbs a_best a_wys a_rwx a_shx a_bef now asd msts mbyt mord alw bco alm abt mlt beg figm) ml_X6_90 im_X6_save se_X6_save in_X6 co_X6_save 0 (by decide) ⟨rfl, rfl⟩ ⟨Nat.le_of_ble_eq_true rfl, Nat.le_of_ble_eq_true rfl⟩ [0, 1, 2] rfl rfl 0 rfl rfl rfl rfl rfl (Nat.le_of_ble_eq_true rfl) dX6_untold_1 ⟨Nat.le_refl _, Nat.le_refl _⟩) [0, 1, 2, 6, 7] 3 (fun _ => rfl) (fun _ => rfl) (by decide) (by decide) (fun uu H locs hw hX => ?_)
  subst hw
  have hX : XW D A s.heap (W_Ms y hMo a_now a_asd a_pst a_mrf a_txt a_olt a_ofr a_nbs a_best a_wys a_rwx a_shx a_bef now (cpR asd 0 now 0) pst msts mrf mbyt mord alw bco alm abt mlt beg figm) H locs := hX
  refine xr_aload_n E hl 0 rfl dX6_untold_4 rfl ?_
  refine xr_aload_n E hl 0 rfl dX6_untold_5 rfl ?_
  refine xr_iload_n E hl 1 rfl dX6_untold_6 rfl ?_
  refine xk_i (W2 := fun uu => (W_Ms y hMo a_now a_asd a_pst a_mrf a_txt a_olt a_ofr a_nbs a_best a_wys a_rwx a_shx a_bef uu (cpR asd 0 now 0) pst msts mrf mbyt mord alw bco alm abt mlt beg figm)) E hX [0, 1] rfl (xv_V (As := [.int (iI v)]) E hX hl (c_X6_dropTotal l D y z _ hMo a_now a_asd a_pst a_mrf a_txt a_olt a_ofr a_nbs a_best a_wys a_rwx a_shx a_bef now msts mbyt mord alw bco alm abt mlt beg figm v (by omega) H_M) ml_X6_106 im_X6_dropTotal se_X6_dropTotal in_X6 co_X6_dropTotal 1 (by decide) ⟨rfl, rfl⟩ ⟨Nat.le_of_ble_eq_true rfl, Nat.le_of_ble_eq_true rfl⟩ [0, 1] rfl rfl 0 rfl rfl rfl rfl rfl (Nat.le_of_ble_eq_true rfl) dX6_untold_7 ⟨Nat.le_refl _, Nat.le_refl _⟩) [0, 1, 4, 5, 6] 2 (fun _ => rfl) (fun _ => rfl) (by decide) (by decide) (fun r_7 uu H locs hw hX => ?_)
  obtain ⟨rfl, rfl⟩ := hw
  have hX : XW D A s.heap (W_Ms y hMo a_now a_asd a_pst a_mrf a_txt a_olt a_ofr a_nbs a_best a_wys a_rwx a_shx a_bef (mUn v now) (cpR asd 0 now 0) pst msts mrf mbyt mord alw bco alm abt mlt beg figm) H locs := hX
  refine xk_i (W2 := fun uu => (W_Ms y hMo a_now a_asd a_pst a_mrf a_txt a_olt a_ofr a_nbs a_best a_wys a_rwx a_shx a_bef (mUn v now) (cpR asd 0 now 0) uu.2.1 uu.2.2 uu.1 mbyt mord alw bco alm abt mlt beg figm)) E hX [0, 2, 3, 4] rfl (xv_V (As := [.int (iI (xUn_r v (mT now)))]) E hX hl (c_X6_finish l D y z _ hMo a_now a_asd a_pst a_mrf a_txt a_olt a_ofr a_nbs a_best a_wys a_rwx a_shx a_bef (cpR asd 0 now 0) pst msts mrf mbyt mord alw bco alm abt mlt beg figm (xUn_r v (mT now)) (by omega) (by omega)) ml_X6_96 im_X6_finish se_X6_finish in_X6 co_X6_finish 1 (by decide) ⟨rfl, rfl⟩ ⟨Nat.le_of_ble_eq_true rfl, Nat.le_of_ble_eq_true rfl⟩ [0, 2, 3, 4] rfl rfl 0 rfl rfl rfl rfl rfl (Nat.le_of_ble_eq_true rfl) dX6_untold_10 ⟨Nat.le_refl _, Nat.le_refl _⟩) [0, 5, 1, 2, 3] 4 (fun _ => rfl) (fun _ => rfl) (by decide) (by decide) (fun r_10 uu H locs hw hX => ?_)
  obtain ⟨rfl, rfl⟩ := hw
  have hX : XW D A s.heap (W_Ms y hMo a_now a_asd a_pst a_mrf a_txt a_olt a_ofr a_nbs a_best a_wys a_rwx a_shx a_bef (mUn v now) (cpR asd 0 now 0) (mPast pst (cpR asd 0 now 0) msts (xUn_r v (mT now))) (mSts msts (xUn_r v (mT now))) (mRf mrf (xUn_r v (mT now))) mbyt mord alw bco alm abt mlt beg figm) H locs := hX
  exact xr_iret E hX hQ (cpR asd 0 now 0, mUn v now, mRf mrf (xUn_r v (mT now)), mPast pst (cpR asd 0 now 0) msts (xUn_r v (mT now)), mSts msts (xUn_r v (mT now))) hr ⟨rfl, rfl⟩ rfl dX6_untold_13
abbrev rm_X6_freezes : Room := { frames := 3, cells := 0, slots := 0, locals := 68 }
set_option maxHeartbeats 4000000 in
set_option maxRecDepth 100000 in
theorem c_X6_freezes (l : Launch) (D : va_G) (y : CY) (z sz : Nat) (hMo a_now a_asd a_pst a_mrf a_txt a_olt a_ofr a_nbs a_best a_wys a_rwx a_shx a_bef : Nat) (now : Int → Int) (asd : Int → Int) (pst : Int → Int) (msts : Int) (mrf : Int → Int) (mbyt : Int) (mord : Int) (alw : Int) (bco : Int) (alm : Int) (abt : Int) (mlt : Int) (beg : Int) (figm : Int) (t : Int) (on : Int) (H_M : FM now) (hms : 0 ≤ msts ∧ msts ≤ 5) (ht : sm t) (ho : sm on) : Met l yX6_freezes (Cond.code yX6_freezes cX6_freezes 3 (some .int) :: TW) rm_X6_freezes (va_Pc [.ref hMo, .int (iI t), .int (iI on)] (PX D y z (W_Ms y hMo a_now a_asd a_pst a_mrf a_txt a_olt a_ofr a_nbs a_best a_wys a_rwx a_shx a_bef now asd pst msts mrf mbyt mord alw bco alm abt mlt beg figm) sz)) (va_Qi (fun (r : Int32) (uu : (Int → Int) × (Int → Int) × (Int → Int) × (Int → Int) × (Int)) => r = iI (mIcR t on now) ∧ uu = (cpR asd 0 now 0, mIc t on now, mRf mrf (mIcR t on now), mPast pst (cpR asd 0 now 0) msts (mIcR t on now), mSts msts (mIcR t on now))) (fun uu t => BX D (W_Ms y hMo a_now a_asd a_pst a_mrf a_txt a_olt a_ofr a_nbs a_best a_wys a_rwx a_shx a_bef uu.2.1 uu.1 uu.2.2.2.1 uu.2.2.2.2 uu.2.2.1 mbyt mord alw bco alm abt mlt beg figm) (va_A (W_Ms y hMo a_now a_asd a_pst a_mrf a_txt a_olt a_ofr a_nbs a_best a_wys a_rwx a_shx a_bef now asd pst msts mrf mbyt mord alw bco alm abt mlt beg figm) sz) t) (va_A (W_Ms y hMo a_now a_asd a_pst a_mrf a_txt a_olt a_ofr a_nbs a_best a_wys a_rwx a_shx a_bef now asd pst msts mrf mbyt mord alw bco alm abt mlt beg figm) sz)) 0 0 (va_A (W_Ms y hMo a_now a_asd a_pst a_mrf a_txt a_olt a_ofr a_nbs a_best a_wys a_rwx a_shx a_bef now asd pst msts mrf mbyt mord alw bco alm abt mlt beg figm) sz) := by
  refine xm_i (by decide) (Nat.le_of_ble_eq_true rfl) (fun p e s m args below meth cX ls A Q E hr hnm hX hl hQ => ?_)
  have hl : lv_has ls 3 [(0, .ref hMo), (1, .int (iI t)), (2, .int (iI on))] := hl
  have hq := H_M.q
  have hfr := H_M.fr
  have hli := H_M.li
  have hsh := H_M.sh
  have hrb : -4 ≤ mIcR t on now ∧ mIcR t on now ≤ 1000000 := by have h9 := xOn_bd (xIcF (now 28) t on) 12; unfold mIcR; (repeat' split) <;> omega
  refine xr_aload_n E hl 0 rfl dX6_freezes_0 rfl ?_
  refine xk_v (W2 := fun uu => (W_Ms y hMo a_now a_asd a_pst a_mrf a_txt a_olt a_ofr a_nbs a_best a_wys a_rwx a_shx a_bef now uu pst msts mrf mbyt mord alw bco alm abt mlt beg figm)) E hX [0, 1, 2] rfl (xv_V (As := []) E hX hl (c_X6_save l D y z _ hMo a_now a_asd a_pst a_mrf a_txt a_olt a_ofr a_nbs a_best a_wys a_rwx a_shx a_bef now asd msts mbyt mord alw bco alm abt mlt beg figm) ml_X6_90 im_X6_save se_X6_save in_X6 co_X6_save 0 (by decide) ⟨rfl, rfl⟩ ⟨Nat.le_of_ble_eq_true rfl, Nat.le_of_ble_eq_true rfl⟩ [0, 1, 2] rfl rfl 0 rfl rfl rfl rfl rfl (Nat.le_of_ble_eq_true rfl) dX6_freezes_1 ⟨Nat.le_refl _, Nat.le_refl _⟩) [0, 1, 2, 6, 7] 3 (fun _ => rfl) (fun _ => rfl) (by decide) (by decide) (fun uu H locs hw hX => ?_)
  subst hw
  have hX : XW D A s.heap (W_Ms y hMo a_now a_asd a_pst a_mrf a_txt a_olt a_ofr a_nbs a_best a_wys a_rwx a_shx a_bef now (cpR asd 0 now 0) pst msts mrf mbyt mord alw bco alm abt mlt beg figm) H locs := hX
  refine xr_aload_n E hl 0 rfl dX6_freezes_4 rfl ?_
  refine xr_aload_n E hl 0 rfl dX6_freezes_5 rfl ?_
  refine xr_iload_n E hl 1 rfl dX6_freezes_6 rfl ?_
  refine xr_iload_n E hl 2 rfl dX6_freezes_7 rfl ?_
  refine xk_i (W2 := fun uu => (W_Ms y hMo a_now a_asd a_pst a_mrf a_txt a_olt a_ofr a_nbs a_best a_wys a_rwx a_shx a_bef uu (cpR asd 0 now 0) pst msts mrf mbyt mord alw bco alm abt mlt beg figm)) E hX [0, 1] rfl (xv_V (As := [.int (iI t), .int (iI on)]) E hX hl (c_X6_putFrozen l D y z _ hMo a_now a_asd a_pst a_mrf a_txt a_olt a_ofr a_nbs a_best a_wys a_rwx a_shx a_bef now msts mbyt mord alw bco alm abt mlt beg figm t on (by omega) (by omega) H_M) ml_X6_109 im_X6_putFrozen se_X6_putFrozen in_X6 co_X6_putFrozen 2 (by decide) ⟨rfl, rfl⟩ ⟨Nat.le_of_ble_eq_true rfl, Nat.le_of_ble_eq_true rfl⟩ [0, 1] rfl rfl 0 rfl rfl rfl rfl rfl (Nat.le_of_ble_eq_true rfl) dX6_freezes_8 ⟨Nat.le_refl _, Nat.le_refl _⟩) [0, 1, 4, 5, 6] 2 (fun _ => rfl) (fun _ => rfl) (by decide) (by decide) (fun r_8 uu H locs hw hX => ?_)
  obtain ⟨rfl, rfl⟩ := hw
  have hX : XW D A s.heap (W_Ms y hMo a_now a_asd a_pst a_mrf a_txt a_olt a_ofr a_nbs a_best a_wys a_rwx a_shx a_bef (mIc t on now) (cpR asd 0 now 0) pst msts mrf mbyt mord alw bco alm abt mlt beg figm) H locs := hX
  refine xk_i (W2 := fun uu => (W_Ms y hMo a_now a_asd a_pst a_mrf a_txt a_olt a_ofr a_nbs a_best a_wys a_rwx a_shx a_bef (mIc t on now) (cpR asd 0 now 0) uu.2.1 uu.2.2 uu.1 mbyt mord alw bco alm abt mlt beg figm)) E hX [0, 2, 3, 4] rfl (xv_V (As := [.int (iI (mIcR t on now))]) E hX hl (c_X6_finish l D y z _ hMo a_now a_asd a_pst a_mrf a_txt a_olt a_ofr a_nbs a_best a_wys a_rwx a_shx a_bef (cpR asd 0 now 0) pst msts mrf mbyt mord alw bco alm abt mlt beg figm (mIcR t on now) (by omega) (by omega)) ml_X6_96 im_X6_finish se_X6_finish in_X6 co_X6_finish 1 (by decide) ⟨rfl, rfl⟩ ⟨Nat.le_of_ble_eq_true rfl, Nat.le_of_ble_eq_true rfl⟩ [0, 2, 3, 4] rfl rfl 0 rfl rfl rfl rfl rfl (Nat.le_of_ble_eq_true rfl) dX6_freezes_11 ⟨Nat.le_refl _, Nat.le_refl _⟩) [0, 5, 1, 2, 3] 4 (fun _ => rfl) (fun _ => rfl) (by decide) (by decide) (fun r_11 uu H locs hw hX => ?_)
  obtain ⟨rfl, rfl⟩ := hw
  have hX : XW D A s.heap (W_Ms y hMo a_now a_asd a_pst a_mrf a_txt a_olt a_ofr a_nbs a_best a_wys a_rwx a_shx a_bef (mIc t on now) (cpR asd 0 now 0) (mPast pst (cpR asd 0 now 0) msts (mIcR t on now)) (mSts msts (mIcR t on now)) (mRf mrf (mIcR t on now)) mbyt mord alw bco alm abt mlt beg figm) H locs := hX
  exact xr_iret E hX hQ (cpR asd 0 now 0, mIc t on now, mRf mrf (mIcR t on now), mPast pst (cpR asd 0 now 0) msts (mIcR t on now), mSts msts (mIcR t on now)) hr ⟨rfl, rfl⟩ rfl dX6_freezes_14
abbrev rm_X6_limits : Room := { frames := 2, cells := 0, slots := 0, locals := 47 }
set_option maxHeartbeats 4000000 in
set_option maxRecDepth 100000 in
theorem c_X6_limits (l : Launch) (D : va_G) (y : CY) (z sz : Nat) (hMo a_now a_asd a_pst a_mrf a_txt a_olt a_ofr a_nbs a_best a_wys a_rwx a_shx a_bef : Nat) (now : Int → Int) (asd : Int → Int) (pst : Int → Int) (msts : Int) (mrf : Int → Int) (mbyt : Int) (mord : Int) (alw : Int) (bco : Int) (alm : Int) (abt : Int) (mlt : Int) (beg : Int) (figm : Int) (v : Int) (H_M : FM now) (hms : 0 ≤ msts ∧ msts ≤ 5) (hv : sm v) : Met l yX6_limits (Cond.code yX6_limits cX6_limits 2 (some .int) :: TW) rm_X6_limits (va_Pc [.ref hMo, .int (iI v)] (PX D y z (W_Ms y hMo a_now a_asd a_pst a_mrf a_txt a_olt a_ofr a_nbs a_best a_wys a_rwx a_shx a_bef now asd pst msts mrf mbyt mord alw bco alm abt mlt beg figm) sz)) (va_Qi (fun (r : Int32) (uu : (Int → Int) × (Int → Int) × (Int → Int) × (Int → Int) × (Int)) => r = iI (xBo_r v (now 29)) ∧ uu = (cpR asd 0 now 0, mBo v now, mRf mrf (xBo_r v (now 29)), mPast pst (cpR asd 0 now 0) msts (xBo_r v (now 29)), mSts msts (xBo_r v (now 29)))) (fun uu t => BX D (W_Ms y hMo a_now a_asd a_pst a_mrf a_txt a_olt a_ofr a_nbs a_best a_wys a_rwx a_shx a_bef uu.2.1 uu.1 uu.2.2.2.1 uu.2.2.2.2 uu.2.2.1 mbyt mord alw bco alm abt mlt beg figm) (va_A (W_Ms y hMo a_now a_asd a_pst a_mrf a_txt a_olt a_ofr a_nbs a_best a_wys a_rwx a_shx a_bef now asd pst msts mrf mbyt mord alw bco alm abt mlt beg figm) sz) t) (va_A (W_Ms y hMo a_now a_asd a_pst a_mrf a_txt a_olt a_ofr a_nbs a_best a_wys a_rwx a_shx a_bef now asd pst msts mrf mbyt mord alw bco alm abt mlt beg figm) sz)) 0 0 (va_A (W_Ms y hMo a_now a_asd a_pst a_mrf a_txt a_olt a_ofr a_nbs a_best a_wys a_rwx a_shx a_bef now asd pst msts mrf mbyt mord alw bco alm abt mlt beg figm) sz) := by
  refine xm_i (by decide) (Nat.le_of_ble_eq_true rfl) (fun p e s m args below meth cX ls A Q E hr hnm hX hl hQ => ?_)
  have hl : lv_has ls 2 [(0, .ref hMo), (1, .int (iI v))] := hl
  have hq := H_M.q
  have hfr := H_M.fr
  have hli := H_M.li
  have hsh := H_M.sh
  have hrb : -4 ≤ xBo_r v (now 29) ∧ xBo_r v (now 29) ≤ 1000000 := by unfold xBo_r; split <;> omega
  refine xr_aload_n E hl 0 rfl dX6_limits_0 rfl ?_
  refine xk_v (W2 := fun uu => (W_Ms y hMo a_now a_asd a_pst a_mrf a_txt a_olt a_ofr a_nbs a_best a_wys a_rwx a_shx a_bef now uu pst msts mrf mbyt mord alw bco alm abt mlt beg figm)) E hX [0, 1, 2] rfl (xv_V (As := []) E hX hl (c_X6_save l D y z _ hMo a_now a_asd a_pst a_mrf a_txt a_olt a_ofr a_nbs a_best a_wys a_rwx a_shx a_bef now asd msts mbyt mord alw bco alm abt mlt beg figm) ml_X6_90 im_X6_save se_X6_save in_X6 co_X6_save 0 (by decide) ⟨rfl, rfl⟩ ⟨Nat.le_of_ble_eq_true rfl, Nat.le_of_ble_eq_true rfl⟩ [0, 1, 2] rfl rfl 0 rfl rfl rfl rfl rfl (Nat.le_of_ble_eq_true rfl) dX6_limits_1 ⟨Nat.le_refl _, Nat.le_refl _⟩) [0, 1, 2, 6, 7] 3 (fun _ => rfl) (fun _ => rfl) (by decide) (by decide) (fun uu H locs hw hX => ?_)
  subst hw
  have hX : XW D A s.heap (W_Ms y hMo a_now a_asd a_pst a_mrf a_txt a_olt a_ofr a_nbs a_best a_wys a_rwx a_shx a_bef now (cpR asd 0 now 0) pst msts mrf mbyt mord alw bco alm abt mlt beg figm) H locs := hX
  refine xr_aload_n E hl 0 rfl dX6_limits_4 rfl ?_
  refine xr_aload_n E hl 0 rfl dX6_limits_5 rfl ?_
  refine xr_iload_n E hl 1 rfl dX6_limits_6 rfl ?_
  refine xk_i (W2 := fun uu => (W_Ms y hMo a_now a_asd a_pst a_mrf a_txt a_olt a_ofr a_nbs a_best a_wys a_rwx a_shx a_bef uu (cpR asd 0 now 0) pst msts mrf mbyt mord alw bco alm abt mlt beg figm)) E hX [0, 1] rfl (xv_V (As := [.int (iI v)]) E hX hl (c_X6_putLimit l D y z _ hMo a_now a_asd a_pst a_mrf a_txt a_olt a_ofr a_nbs a_best a_wys a_rwx a_shx a_bef now msts mbyt mord alw bco alm abt mlt beg figm v (by omega) H_M) ml_X6_112 im_X6_putLimit se_X6_putLimit in_X6 co_X6_putLimit 1 (by decide) ⟨rfl, rfl⟩ ⟨Nat.le_of_ble_eq_true rfl, Nat.le_of_ble_eq_true rfl⟩ [0, 1] rfl rfl 0 rfl rfl rfl rfl rfl (Nat.le_of_ble_eq_true rfl) dX6_limits_7 ⟨Nat.le_refl _, Nat.le_refl _⟩) [0, 1, 4, 5, 6] 2 (fun _ => rfl) (fun _ => rfl) (by decide) (by decide) (fun r_7 uu H locs hw hX => ?_)
  obtain ⟨rfl, rfl⟩ := hw
  have hX : XW D A s.heap (W_Ms y hMo a_now a_asd a_pst a_mrf a_txt a_olt a_ofr a_nbs a_best a_wys a_rwx a_shx a_bef (mBo v now) (cpR asd 0 now 0) pst msts mrf mbyt mord alw bco alm abt mlt beg figm) H locs := hX
  refine xk_i (W2 := fun uu => (W_Ms y hMo a_now a_asd a_pst a_mrf a_txt a_olt a_ofr a_nbs a_best a_wys a_rwx a_shx a_bef (mBo v now) (cpR asd 0 now 0) uu.2.1 uu.2.2 uu.1 mbyt mord alw bco alm abt mlt beg figm)) E hX [0, 2, 3, 4] rfl (xv_V (As := [.int (iI (xBo_r v (now 29)))]) E hX hl (c_X6_finish l D y z _ hMo a_now a_asd a_pst a_mrf a_txt a_olt a_ofr a_nbs a_best a_wys a_rwx a_shx a_bef (cpR asd 0 now 0) pst msts mrf mbyt mord alw bco alm abt mlt beg figm (xBo_r v (now 29)) (by omega) (by omega)) ml_X6_96 im_X6_finish se_X6_finish in_X6 co_X6_finish 1 (by decide) ⟨rfl, rfl⟩ ⟨Nat.le_of_ble_eq_true rfl, Nat.le_of_ble_eq_true rfl⟩ [0, 2, 3, 4] rfl rfl 0 rfl rfl rfl rfl rfl (Nat.le_of_ble_eq_true rfl) dX6_limits_10 ⟨Nat.le_refl _, Nat.le_refl _⟩) [0, 5, 1, 2, 3] 4 (fun _ => rfl) (fun _ => rfl) (by decide) (by decide) (fun r_10 uu H locs hw hX => ?_)
  obtain ⟨rfl, rfl⟩ := hw
  have hX : XW D A s.heap (W_Ms y hMo a_now a_asd a_pst a_mrf a_txt a_olt a_ofr a_nbs a_best a_wys a_rwx a_shx a_bef (mBo v now) (cpR asd 0 now 0) (mPast pst (cpR asd 0 now 0) msts (xBo_r v (now 29))) (mSts msts (xBo_r v (now 29))) (mRf mrf (xBo_r v (now 29))) mbyt mord alw bco alm abt mlt beg figm) H locs := hX
  exact xr_iret E hX hQ (cpR asd 0 now 0, mBo v now, mRf mrf (xBo_r v (now 29)), mPast pst (cpR asd 0 now 0) msts (xBo_r v (now 29)), mSts msts (xBo_r v (now 29))) hr ⟨rfl, rfl⟩ rfl dX6_limits_13
abbrev rm_X6_form : Room := { frames := 2, cells := 0, slots := 0, locals := 47 }
set_option maxHeartbeats 4000000 in
set_option maxRecDepth 100000 in
theorem c_X6_form (l : Launch) (D : va_G) (y : CY) (z sz : Nat) (hMo a_now a_asd a_pst a_mrf a_txt a_olt a_ofr a_nbs a_best a_wys a_rwx a_shx a_bef : Nat) (now : Int → Int) (asd : Int → Int) (pst : Int → Int) (msts : Int) (mrf : Int → Int) (mbyt : Int) (mord : Int) (alw : Int) (bco : Int) (alm : Int) (abt : Int) (mlt : Int) (beg : Int) (figm : Int) (v : Int) (H_M : FM now) (hms : 0 ≤ msts ∧ msts ≤ 5) (hv : sm v) : Met l yX6_form (Cond.code yX6_form cX6_form 2 (some .int) :: TW) rm_X6_form (va_Pc [.ref hMo, .int (iI v)] (PX D y z (W_Ms y hMo a_now a_asd a_pst a_mrf a_txt a_olt a_ofr a_nbs a_best a_wys a_rwx a_shx a_bef now asd pst msts mrf mbyt mord alw bco alm abt mlt beg figm) sz)) (va_Qi (fun (r : Int32) (uu : (Int → Int) × (Int → Int) × (Int → Int) × (Int → Int) × (Int)) => r = iI (xSh_r v (now 30)) ∧ uu = (cpR asd 0 now 0, mSh v now, mRf mrf (xSh_r v (now 30)), mPast pst (cpR asd 0 now 0) msts (xSh_r v (now 30)), mSts msts (xSh_r v (now 30)))) (fun uu t => BX D (W_Ms y hMo a_now a_asd a_pst a_mrf a_txt a_olt a_ofr a_nbs a_best a_wys a_rwx a_shx a_bef uu.2.1 uu.1 uu.2.2.2.1 uu.2.2.2.2 uu.2.2.1 mbyt mord alw bco alm abt mlt beg figm) (va_A (W_Ms y hMo a_now a_asd a_pst a_mrf a_txt a_olt a_ofr a_nbs a_best a_wys a_rwx a_shx a_bef now asd pst msts mrf mbyt mord alw bco alm abt mlt beg figm) sz) t) (va_A (W_Ms y hMo a_now a_asd a_pst a_mrf a_txt a_olt a_ofr a_nbs a_best a_wys a_rwx a_shx a_bef now asd pst msts mrf mbyt mord alw bco alm abt mlt beg figm) sz)) 0 0 (va_A (W_Ms y hMo a_now a_asd a_pst a_mrf a_txt a_olt a_ofr a_nbs a_best a_wys a_rwx a_shx a_bef now asd pst msts mrf mbyt mord alw bco alm abt mlt beg figm) sz) := by
  refine xm_i (by decide) (Nat.le_of_ble_eq_true rfl) (fun p e s m args below meth cX ls A Q E hr hnm hX hl hQ => ?_)
  have hl : lv_has ls 2 [(0, .ref hMo), (1, .int (iI v))] := hl
  have hq := H_M.q
  have hfr := H_M.fr
  have hli := H_M.li
  have hsh := H_M.sh
  have hrb : -4 ≤ xSh_r v (now 30) ∧ xSh_r v (now 30) ≤ 1000000 := by unfold xSh_r; split <;> omega
  refine xr_aload_n E hl 0 rfl dX6_form_0 rfl ?_
  refine xk_v (W2 := fun uu => (W_Ms y hMo a_now a_asd a_pst a_mrf a_txt a_olt a_ofr a_nbs a_best a_wys a_rwx a_shx a_bef now uu pst msts mrf mbyt mord alw bco alm abt mlt beg figm)) E hX [0, 1, 2] rfl (xv_V (As := []) E hX hl (c_X6_save l D y z _ hMo a_now a_asd a_pst a_mrf a_txt a_olt a_ofr a_nbs a_best a_wys a_rwx a_shx a_bef now asd msts mbyt mord alw bco alm abt mlt beg figm) ml_X6_90 im_X6_save se_X6_save in_X6 co_X6_save 0 (by decide) ⟨rfl, rfl⟩ ⟨Nat.le_of_ble_eq_true rfl, Nat.le_of_ble_eq_true rfl⟩ [0, 1, 2] rfl rfl 0 rfl rfl rfl rfl rfl (Nat.le_of_ble_eq_true rfl) dX6_form_1 ⟨Nat.le_refl _, Nat.le_refl _⟩) [0, 1, 2, 6, 7] 3 (fun _ => rfl) (fun _ => rfl) (by decide) (by decide) (fun uu H locs hw hX => ?_)
  subst hw
  have hX : XW D A s.heap (W_Ms y hMo a_now a_asd a_pst a_mrf a_txt a_olt a_ofr a_nbs a_best a_wys a_rwx a_shx a_bef now (cpR asd 0 now 0) pst msts mrf mbyt mord alw bco alm abt mlt beg figm) H locs := hX
  refine xr_aload_n E hl 0 rfl dX6_form_4 rfl ?_
  refine xr_aload_n E hl 0 rfl dX6_form_5 rfl ?_
  refine xr_iload_n E hl 1 rfl dX6_form_6 rfl ?_
  refine xk_i (W2 := fun uu => (W_Ms y hMo a_now a_asd a_pst a_mrf a_txt a_olt a_ofr a_nbs a_best a_wys a_rwx a_shx a_bef uu (cpR asd 0 now 0) pst msts mrf mbyt mord alw bco alm abt mlt beg figm)) E hX [0, 1] rfl (xv_V (As := [.int (iI v)]) E hX hl (c_X6_putForm l D y z _ hMo a_now a_asd a_pst a_mrf a_txt a_olt a_ofr a_nbs a_best a_wys a_rwx a_shx a_bef now msts mbyt mord alw bco alm abt mlt beg figm v (by omega) H_M) ml_X6_115 im_X6_putForm se_X6_putForm in_X6 co_X6_putForm 1 (by decide) ⟨rfl, rfl⟩ ⟨Nat.le_of_ble_eq_true rfl, Nat.le_of_ble_eq_true rfl⟩ [0, 1] rfl rfl 0 rfl rfl rfl rfl rfl (Nat.le_of_ble_eq_true rfl) dX6_form_7 ⟨Nat.le_refl _, Nat.le_refl _⟩) [0, 1, 4, 5, 6] 2 (fun _ => rfl) (fun _ => rfl) (by decide) (by decide) (fun r_7 uu H locs hw hX => ?_)
  obtain ⟨rfl, rfl⟩ := hw
  have hX : XW D A s.heap (W_Ms y hMo a_now a_asd a_pst a_mrf a_txt a_olt a_ofr a_nbs a_best a_wys a_rwx a_shx a_bef (mSh v now) (cpR asd 0 now 0) pst msts mrf mbyt mord alw bco alm abt mlt beg figm) H locs := hX
  refine xk_i (W2 := fun uu => (W_Ms y hMo a_now a_asd a_pst a_mrf a_txt a_olt a_ofr a_nbs a_best a_wys a_rwx a_shx a_bef (mSh v now) (cpR asd 0 now 0) uu.2.1 uu.2.2 uu.1 mbyt mord alw bco alm abt mlt beg figm)) E hX [0, 2, 3, 4] rfl (xv_V (As := [.int (iI (xSh_r v (now 30)))]) E hX hl (c_X6_finish l D y z _ hMo a_now a_asd a_pst a_mrf a_txt a_olt a_ofr a_nbs a_best a_wys a_rwx a_shx a_bef (cpR asd 0 now 0) pst msts mrf mbyt mord alw bco alm abt mlt beg figm (xSh_r v (now 30)) (by omega) (by omega)) ml_X6_96 im_X6_finish se_X6_finish in_X6 co_X6_finish 1 (by decide) ⟨rfl, rfl⟩ ⟨Nat.le_of_ble_eq_true rfl, Nat.le_of_ble_eq_true rfl⟩ [0, 2, 3, 4] rfl rfl 0 rfl rfl rfl rfl rfl (Nat.le_of_ble_eq_true rfl) dX6_form_10 ⟨Nat.le_refl _, Nat.le_refl _⟩) [0, 5, 1, 2, 3] 4 (fun _ => rfl) (fun _ => rfl) (by decide) (by decide) (fun r_10 uu H locs hw hX => ?_)
  obtain ⟨rfl, rfl⟩ := hw
  have hX : XW D A s.heap (W_Ms y hMo a_now a_asd a_pst a_mrf a_txt a_olt a_ofr a_nbs a_best a_wys a_rwx a_shx a_bef (mSh v now) (cpR asd 0 now 0) (mPast pst (cpR asd 0 now 0) msts (xSh_r v (now 30))) (mSts msts (xSh_r v (now 30))) (mRf mrf (xSh_r v (now 30))) mbyt mord alw bco alm abt mlt beg figm) H locs := hX
  exact xr_iret E hX hQ (cpR asd 0 now 0, mSh v now, mRf mrf (xSh_r v (now 30)), mPast pst (cpR asd 0 now 0) msts (xSh_r v (now 30)), mSts msts (xSh_r v (now 30))) hr ⟨rfl, rfl⟩ rfl dX6_form_13
abbrev rm_X6_recalls : Room := { frames := 2, cells := 0, slots := 0, locals := 46 }
set_option maxHeartbeats 4000000 in
set_option maxRecDepth 100000 in
theorem c_X6_recalls (l : Launch) (D : va_G) (y : CY) (z sz : Nat) (hMo a_now a_asd a_pst a_mrf a_txt a_olt a_ofr a_nbs a_best a_wys a_rwx a_shx a_bef : Nat) (now : Int → Int) (asd : Int → Int) (pst : Int → Int) (msts : Int) (mrf : Int → Int) (mbyt : Int) (mord : Int) (alw : Int) (bco : Int) (alm : Int) (abt : Int) (mlt : Int) (beg : Int) (figm : Int) (H_M : FM now) (hms : 0 ≤ msts ∧ msts ≤ 5) : Met l yX6_recalls (Cond.code yX6_recalls cX6_recalls 3 (some .int) :: TW) rm_X6_recalls (va_Pc [.ref hMo] (PX D y z (W_Ms y hMo a_now a_asd a_pst a_mrf a_txt a_olt a_ofr a_nbs a_best a_wys a_rwx a_shx a_bef now asd pst msts mrf mbyt mord alw bco alm abt mlt beg figm) sz)) (va_Qi (fun (r : Int32) (uu : (Int → Int) × (Int → Int) × (Int → Int) × (Int → Int) × (Int)) => r = iI (xOnes (mP now) (now 0)) ∧ uu = (cpR asd 0 now 0, up (fillR now 16 12 (fun wt => -1)) 28 0, mRf mrf (xOnes (mP now) (now 0)), mPast pst (cpR asd 0 now 0) msts (xOnes (mP now) (now 0)), mSts msts (xOnes (mP now) (now 0)))) (fun uu t => BX D (W_Ms y hMo a_now a_asd a_pst a_mrf a_txt a_olt a_ofr a_nbs a_best a_wys a_rwx a_shx a_bef uu.2.1 uu.1 uu.2.2.2.1 uu.2.2.2.2 uu.2.2.1 mbyt mord alw bco alm abt mlt beg figm) (va_A (W_Ms y hMo a_now a_asd a_pst a_mrf a_txt a_olt a_ofr a_nbs a_best a_wys a_rwx a_shx a_bef now asd pst msts mrf mbyt mord alw bco alm abt mlt beg figm) sz) t) (va_A (W_Ms y hMo a_now a_asd a_pst a_mrf a_txt a_olt a_ofr a_nbs a_best a_wys a_rwx a_shx a_bef now asd pst msts mrf mbyt mord alw bco alm abt mlt beg figm) sz)) 0 0 (va_A (W_Ms y hMo a_now a_asd a_pst a_mrf a_txt a_olt a_ofr a_nbs a_best a_wys a_rwx a_shx a_bef now asd pst msts mrf mbyt mord alw bco alm abt mlt beg figm) sz) := by
  refine xm_i (by decide) (Nat.le_of_ble_eq_true rfl) (fun p e s m args below meth cX ls A Q E hr hnm hX hl hQ => ?_)
  have hl : lv_has ls 3 [(0, .ref hMo)] := hl
  have hq := H_M.q
  have hfr := H_M.fr
  have hli := H_M.li
  have hsh := H_M.sh
  have hrb : -4 ≤ xOnes (mP now) (now 0) ∧ xOnes (mP now) (now 0) ≤ 1000000 := by have h9 := xOnes_bd (mP now) (now 0) hq.1; omega
  refine xr_aload_n E hl 0 rfl dX6_recalls_0 rfl ?_
  refine xk_v (W2 := fun uu => (W_Ms y hMo a_now a_asd a_pst a_mrf a_txt a_olt a_ofr a_nbs a_best a_wys a_rwx a_shx a_bef now uu pst msts mrf mbyt mord alw bco alm abt mlt beg figm)) E hX [0, 1, 2] rfl (xv_V (As := []) E hX hl (c_X6_save l D y z _ hMo a_now a_asd a_pst a_mrf a_txt a_olt a_ofr a_nbs a_best a_wys a_rwx a_shx a_bef now asd msts mbyt mord alw bco alm abt mlt beg figm) ml_X6_90 im_X6_save se_X6_save in_X6 co_X6_save 0 (by decide) ⟨rfl, rfl⟩ ⟨Nat.le_of_ble_eq_true rfl, Nat.le_of_ble_eq_true rfl⟩ [0, 1, 2] rfl rfl 0 rfl rfl rfl rfl rfl (Nat.le_of_ble_eq_true rfl) dX6_recalls_1 ⟨Nat.le_refl _, Nat.le_refl _⟩) [0, 1, 2, 6, 7] 3 (fun _ => rfl) (fun _ => rfl) (by decide) (by decide) (fun uu H locs hw hX => ?_)
  subst hw
  have hX : XW D A s.heap (W_Ms y hMo a_now a_asd a_pst a_mrf a_txt a_olt a_ofr a_nbs a_best a_wys a_rwx a_shx a_bef now (cpR asd 0 now 0) pst msts mrf mbyt mord alw bco alm abt mlt beg figm) H locs := hX
  refine xr_aload_n E hl 0 rfl dX6_recalls_4 rfl ?_
  refine xk_ri E hX [0, 1] rfl (xv_V (As := []) E hX hl (c_X6_publishedMany l D y z _ hMo a_now a_asd a_pst a_mrf a_txt a_olt a_ofr a_nbs a_best a_wys a_rwx a_shx a_bef now msts mbyt mord alw bco alm abt mlt beg figm H_M) ml_X6_122 im_X6_publishedMany se_X6_publishedMany in_X6 co_X6_publishedMany 0 (by decide) ⟨rfl, rfl⟩ ⟨Nat.le_of_ble_eq_true rfl, Nat.le_of_ble_eq_true rfl⟩ [0, 1] rfl rfl 0 rfl rfl rfl rfl rfl (Nat.le_of_ble_eq_true rfl) dX6_recalls_5 ⟨Nat.le_refl _, Nat.le_refl _⟩) (fun r_5 H locs hw hX => ?_)
  subst hw
  refine xr_istore_n (lv' := [(1, .int (iI (xOnes (mP now) (now 0)))), (0, .ref hMo)]) E hl dX6_recalls_8 rfl (by decide) rfl (fun ls hl => ?_)
  refine xr_iconst E dX6_recalls_9 ?_
  refine xr_istore_n (lv' := [(2, .int (iI 0)), (1, .int (iI (xOnes (mP now) (now 0)))), (0, .ref hMo)]) E hl dX6_recalls_10 rfl (by decide) rfl (fun ls hl => ?_)
  have L_11_1 : ∀ (nmu : Nat) (t : Int) (n1 : Int → Int), (12 - t).toNat < nmu → (0 ≤ t ∧ t ≤ 12) → (n1 = fillR now 16 t (fun wt => -1)) → ∀ (H : Heap) (locs : List Loc) (ls : Array Slot), XW D A s.heap (W_Ms y hMo a_now a_asd a_pst a_mrf a_txt a_olt a_ofr a_nbs a_best a_wys a_rwx a_shx a_bef n1 (cpR asd 0 now 0) pst msts mrf mbyt mord alw bco alm abt mlt beg figm) H locs → lv_has ls 3 [(0, .ref hMo), (1, .int (iI (xOnes (mP now) (now 0)))), (2, .int (iI t))] → W p l e rm_X6_recalls s m args below meth cX H locs 0 0 Q (F0 m 11 ls []) := by
    intro nmu
    induction nmu with
    | zero =>
      intro t n1 hmu
      exact absurd hmu (Nat.not_lt_zero _)
    | succ nmu ih =>
      intro t n1 hmu ht hn1 H locs ls hX hl
      have ih_11_1 := ih
      clear ih
      refine xr_iload_n E hl 2 rfl dX6_recalls_11 rfl ?_
      refine xr_bipush E dX6_recalls_12 (by decide) ?_
      refine xr_icmp_ge (tgt := 33) E dX6_recalls_14 (by decide) ⟨by omega, by omega⟩ (by decide) (fun c_14 => ?_) (fun c_14 => ?_)
      · have c_14 := c_14
        refine xr_aload_n E hl 0 rfl dX6_recalls_33 rfl ?_
        refine xr_get E hX 0 rfl rfl ly_X6 0 (by decide) fl_X6_7 rfl dX6_recalls_34 ?_
        refine xr_bipush E dX6_recalls_37 (by decide) ?_
        refine xr_iconst E dX6_recalls_39 ?_
        refine xr_iast (W1 := (W_Ms y hMo a_now a_asd a_pst a_mrf a_txt a_olt a_ofr a_nbs a_best a_wys a_rwx a_shx a_bef (up n1 28 0) (cpR asd 0 now 0) pst msts mrf mbyt mord alw bco alm abt mlt beg figm)) E hX 1 rfl (by omega) (by omega) (by decide) rfl dX6_recalls_40 (fun H locs hX => ?_)
        refine xr_aload_n E hl 0 rfl dX6_recalls_41 rfl ?_
        refine xr_iload_n E hl 1 rfl dX6_recalls_42 rfl ?_
        refine xk_i (W2 := fun uu => (W_Ms y hMo a_now a_asd a_pst a_mrf a_txt a_olt a_ofr a_nbs a_best a_wys a_rwx a_shx a_bef (up n1 28 0) (cpR asd 0 now 0) uu.2.1 uu.2.2 uu.1 mbyt mord alw bco alm abt mlt beg figm)) E hX [0, 2, 3, 4] rfl (xv_V (As := [.int (iI (xOnes (mP now) (now 0)))]) E hX hl (c_X6_finish l D y z _ hMo a_now a_asd a_pst a_mrf a_txt a_olt a_ofr a_nbs a_best a_wys a_rwx a_shx a_bef (cpR asd 0 now 0) pst msts mrf mbyt mord alw bco alm abt mlt beg figm (xOnes (mP now) (now 0)) (by omega) (by omega)) ml_X6_96 im_X6_finish se_X6_finish in_X6 co_X6_finish 1 (by decide) ⟨rfl, rfl⟩ ⟨Nat.le_of_ble_eq_true rfl, Nat.le_of_ble_eq_true rfl⟩ [0, 2, 3, 4] rfl rfl 0 rfl rfl rfl rfl rfl (Nat.le_of_ble_eq_true rfl) dX6_recalls_43 ⟨Nat.le_refl _, Nat.le_refl _⟩) [0, 5, 1, 2, 3] 4 (fun _ => rfl) (fun _ => rfl) (by decide) (by decide) (fun r_43 uu H locs hw hX => ?_)
        obtain ⟨rfl, rfl⟩ := hw
        have hX : XW D A s.heap (W_Ms y hMo a_now a_asd a_pst a_mrf a_txt a_olt a_ofr a_nbs a_best a_wys a_rwx a_shx a_bef (up n1 28 0) (cpR asd 0 now 0) (mPast pst (cpR asd 0 now 0) msts (xOnes (mP now) (now 0))) (mSts msts (xOnes (mP now) (now 0))) (mRf mrf (xOnes (mP now) (now 0))) mbyt mord alw bco alm abt mlt beg figm) H locs := hX
        exact xr_iret E hX hQ (cpR asd 0 now 0, (up n1 28 0), mRf mrf (xOnes (mP now) (now 0)), mPast pst (cpR asd 0 now 0) msts (xOnes (mP now) (now 0)), mSts msts (xOnes (mP now) (now 0))) hr ⟨rfl, by rw [hn1, show t = 12 by omega]⟩ rfl dX6_recalls_46
      · have c_14 := c_14
        refine xr_aload_n E hl 0 rfl dX6_recalls_17 rfl ?_
        refine xr_get E hX 0 rfl rfl ly_X6 0 (by decide) fl_X6_7 rfl dX6_recalls_18 ?_
        refine xr_bipush E dX6_recalls_21 (by decide) ?_
        refine xr_iload_n E hl 2 rfl dX6_recalls_23 rfl ?_
        refine xr_iadd E dX6_recalls_24 ?_
        refine xr_iconst E dX6_recalls_25 ?_
        refine xr_iast (W1 := (W_Ms y hMo a_now a_asd a_pst a_mrf a_txt a_olt a_ofr a_nbs a_best a_wys a_rwx a_shx a_bef (up n1 (16 + t) (-1)) (cpR asd 0 now 0) pst msts mrf mbyt mord alw bco alm abt mlt beg figm)) E hX 1 rfl (by omega) (by omega) (by decide) rfl dX6_recalls_26 (fun H locs hX => ?_)
        refine xr_iinc (k := 2) (lv' := [(2, .int (iI (t + 1))), (0, .ref hMo), (1, .int (iI (xOnes (mP now) (now 0))))]) E hl rfl dX6_recalls_27 (by decide) rfl (fun ls hl => ?_)
        refine xr_goto (tgt := 11) E dX6_recalls_30 (by decide) ?_
        exact ih_11_1 (t + 1) (up n1 (16 + t) (-1)) (by omega) (by omega) (by rw [hn1]; exact fillR_up _ _ _ _ _ ht.1 rfl) _ _ _ hX (lv_sub hl [1, 2, 0] rfl)
  exact L_11_1 _ 0 now (Nat.lt_succ_self _) (by omega) (fillR_0 _ _ _).symm _ _ _ hX (lv_sub hl [2, 1, 0] rfl)
abbrev rm_X6_of : Room := { frames := 2, cells := 0, slots := 0, locals := 46 }
set_option maxHeartbeats 4000000 in
set_option maxRecDepth 100000 in
theorem c_X6_of (l : Launch) (D : va_G) (y : CY) (z sz : Nat) (hMo a_now a_asd a_pst a_mrf a_txt a_olt a_ofr a_nbs a_best a_wys a_rwx a_shx a_bef : Nat) (now : Int → Int) (msts : Int) (mrf : Int → Int) (mbyt : Int) (mord : Int) (alw : Int) (bco : Int) (alm : Int) (abt : Int) (mlt : Int) (beg : Int) (figm : Int) (t : Int) (w : Int) (H_M : FM now) (ht : sm t) (hw : sm w) : Met l yX6_of (Cond.code yX6_of cX6_of 3 (some .int) :: TW) rm_X6_of (va_Pc [.ref hMo, .int (iI t), .int (iI w)] (PX D y z (W_Mnr y hMo a_now a_asd a_pst a_mrf a_txt a_olt a_ofr a_nbs a_best a_wys a_rwx a_shx a_bef now msts mrf mbyt mord alw bco alm abt mlt beg figm) sz)) (va_Qi (fun (r : Int32) (uu : (Int → Int)) => r = iI (xqOf (mI now) (mP now) (now 0) (now 28) t w) ∧ uu = rqOf mrf (now 0) t w) (fun uu t => BX D (W_Mnr y hMo a_now a_asd a_pst a_mrf a_txt a_olt a_ofr a_nbs a_best a_wys a_rwx a_shx a_bef now msts uu mbyt mord alw bco alm abt mlt beg figm) (va_A (W_Mnr y hMo a_now a_asd a_pst a_mrf a_txt a_olt a_ofr a_nbs a_best a_wys a_rwx a_shx a_bef now msts mrf mbyt mord alw bco alm abt mlt beg figm) sz) t) (va_A (W_Mnr y hMo a_now a_asd a_pst a_mrf a_txt a_olt a_ofr a_nbs a_best a_wys a_rwx a_shx a_bef now msts mrf mbyt mord alw bco alm abt mlt beg figm) sz)) 0 0 (va_A (W_Mnr y hMo a_now a_asd a_pst a_mrf a_txt a_olt a_ofr a_nbs a_best a_wys a_rwx a_shx a_bef now msts mrf mbyt mord alw bco alm abt mlt beg figm) sz) := by
  refine xm_i (by decide) (Nat.le_of_ble_eq_true rfl) (fun p e s m args below meth cX ls A Q E hr hnm hX hl hQ => ?_)
  have hl : lv_has ls 3 [(0, .ref hMo), (1, .int (iI t)), (2, .int (iI w))] := hl
  have hq := H_M.q
  have hfr := H_M.fr
  have hli := H_M.li
  have hsh := H_M.sh
  refine xr_aload_n E hl 0 rfl dX6_of_0 rfl ?_
  refine xr_iload_n E hl 1 rfl dX6_of_1 rfl ?_
  refine xk_ri E hX [0, 1] rfl (xv_V (As := [.int (iI t)]) E hX hl (c_X6_isQuarter l D y z _ hMo a_now a_asd a_pst a_mrf a_txt a_olt a_ofr a_nbs a_best a_wys a_rwx a_shx a_bef now msts mbyt mord alw bco alm abt mlt beg figm t ⟨by omega, by omega⟩ (by omega)) ml_X6_70 im_X6_isQuarter se_X6_isQuarter in_X6 co_X6_isQuarter 1 (by decide) ⟨rfl, rfl⟩ ⟨Nat.le_of_ble_eq_true rfl, Nat.le_of_ble_eq_true rfl⟩ [0, 1] rfl rfl 0 rfl rfl rfl rfl rfl (Nat.le_of_ble_eq_true rfl) dX6_of_2 ⟨Nat.le_refl _, Nat.le_refl _⟩) (fun r_2 H locs hw hX => ?_)
  subst hw
  refine xr_if_eqB (tgt := 29) E dX6_of_5 (by decide) (fun c_5 => ?_) (fun c_5 => ?_)
  · have c_5 := of_decide_eq_false c_5
    refine xr_aload_n E hl 0 rfl dX6_of_29 rfl ?_
    refine xr_bipush E dX6_of_30 (by decide) ?_
    refine xk_i (W2 := fun uu => (W_Mnr y hMo a_now a_asd a_pst a_mrf a_txt a_olt a_ofr a_nbs a_best a_wys a_rwx a_shx a_bef now msts uu mbyt mord alw bco alm abt mlt beg figm)) E hX [0, 2] rfl (xv_V (As := [.int (iI (-2))]) E hX hl (c_X6_refuse l D y z _ hMo a_now a_asd a_pst a_mrf a_txt a_olt a_ofr a_nbs a_best a_wys a_rwx a_shx a_bef msts mrf mbyt mord alw bco alm abt mlt beg figm (-2) (by omega)) ml_X6_54 im_X6_refuse se_X6_refuse in_X6 co_X6_refuse 1 (by decide) ⟨rfl, rfl⟩ ⟨Nat.le_of_ble_eq_true rfl, Nat.le_of_ble_eq_true rfl⟩ [0, 2] rfl rfl 0 rfl rfl rfl rfl rfl (Nat.le_of_ble_eq_true rfl) dX6_of_32 ⟨Nat.le_refl _, Nat.le_refl _⟩) [0, 3, 1] 2 (fun _ => rfl) (fun _ => rfl) (by decide) (by decide) (fun r_32 uu H locs hw hX => ?_)
    obtain ⟨rfl, rfl⟩ := hw
    have hX : XW D A s.heap (W_Mnr y hMo a_now a_asd a_pst a_mrf a_txt a_olt a_ofr a_nbs a_best a_wys a_rwx a_shx a_bef now msts (rfU mrf (-2)) mbyt mord alw bco alm abt mlt beg figm) H locs := hX
    exact xr_iret E hX hQ (rfU mrf (-2)) hr ⟨by unfold xqOf; (repeat' split) <;> first | (exfalso; omega) | rfl | (congr 1; omega) | (congr 2; omega), by unfold rqOf; (repeat' split) <;> first | (exfalso; omega) | rfl | (congr 1; omega) | (congr 2; omega)⟩ rfl dX6_of_35
  · have c_5 := of_decide_eq_true c_5
    refine xr_iload_n E hl 2 rfl dX6_of_8 rfl ?_
    refine xr_i2l E dX6_of_9 ⟨by omega, by omega⟩ ?_
    refine xr_lconst (v := 0) E dX6_of_10 (by decide) ?_
    refine xr_ldc2 (n := 3) E kl_X6_125 dX6_of_11 (by decide) ?_
    refine xk_ri E hX [] rfl (xv_S (As := [.long (lI w), .long (lI 0), .long (lI 3)]) E hX hl (c_X6_in l D y z _ w 0 3 ⟨by omega, by omega⟩ ⟨by omega, by omega⟩ ⟨by omega, by omega⟩) ml_X6_62 st_X6_in in_X6 co_X6_in 3 (by decide) ⟨rfl, rfl⟩ ⟨Nat.le_of_ble_eq_true rfl, Nat.le_of_ble_eq_true rfl⟩ [] rfl rfl rfl rfl (Nat.le_of_ble_eq_true rfl) dX6_of_14 ⟨Nat.le_refl _, Nat.le_refl _⟩) (fun r_14 H locs hw hX => ?_)
    subst hw
    refine xr_if_eqB (tgt := 29) E dX6_of_17 (by decide) (fun c_17 => ?_) (fun c_17 => ?_)
    · have c_17 := of_decide_eq_false c_17
      refine xr_aload_n E hl 0 rfl dX6_of_29 rfl ?_
      refine xr_bipush E dX6_of_30 (by decide) ?_
      refine xk_i (W2 := fun uu => (W_Mnr y hMo a_now a_asd a_pst a_mrf a_txt a_olt a_ofr a_nbs a_best a_wys a_rwx a_shx a_bef now msts uu mbyt mord alw bco alm abt mlt beg figm)) E hX [0, 2] rfl (xv_V (As := [.int (iI (-2))]) E hX hl (c_X6_refuse l D y z _ hMo a_now a_asd a_pst a_mrf a_txt a_olt a_ofr a_nbs a_best a_wys a_rwx a_shx a_bef msts mrf mbyt mord alw bco alm abt mlt beg figm (-2) (by omega)) ml_X6_54 im_X6_refuse se_X6_refuse in_X6 co_X6_refuse 1 (by decide) ⟨rfl, rfl⟩ ⟨Nat.le_of_ble_eq_true rfl, Nat.le_of_ble_eq_true rfl⟩ [0, 2] rfl rfl 0 rfl rfl rfl rfl rfl (Nat.le_of_ble_eq_true rfl) dX6_of_32 ⟨Nat.le_refl _, Nat.le_refl _⟩) [0, 3, 1] 2 (fun _ => rfl) (fun _ => rfl) (by decide) (by decide) (fun r_32 uu H locs hw hX => ?_)
      obtain ⟨rfl, rfl⟩ := hw
      have hX : XW D A s.heap (W_Mnr y hMo a_now a_asd a_pst a_mrf a_txt a_olt a_ofr a_nbs a_best a_wys a_rwx a_shx a_bef now msts (rfU mrf (-2)) mbyt mord alw bco alm abt mlt beg figm) H locs := hX
      exact xr_iret E hX hQ (rfU mrf (-2)) hr ⟨by unfold xqOf; (repeat' split) <;> first | (exfalso; omega) | rfl | (congr 1; omega) | (congr 2; omega), by unfold rqOf; (repeat' split) <;> first | (exfalso; omega) | rfl | (congr 1; omega) | (congr 2; omega)⟩ rfl dX6_of_35
    · have c_17 := of_decide_eq_true c_17
      refine xr_aload_n E hl 0 rfl dX6_of_20 rfl ?_
      refine xr_iload_n E hl 1 rfl dX6_of_21 rfl ?_
      refine xr_iload_n E hl 2 rfl dX6_of_22 rfl ?_
      refine xk_ri E hX [0, 1] rfl (xv_V (As := [.int (iI t), .int (iI w)]) E hX hl (c_X6_ofQuarter l D y z _ hMo a_now a_asd a_pst a_mrf a_txt a_olt a_ofr a_nbs a_best a_wys a_rwx a_shx a_bef now msts mbyt mord alw bco alm abt mlt beg figm t w H_M (by omega) (by omega)) ml_X6_127 im_X6_ofQuarter se_X6_ofQuarter in_X6 co_X6_ofQuarter 2 (by decide) ⟨rfl, rfl⟩ ⟨Nat.le_of_ble_eq_true rfl, Nat.le_of_ble_eq_true rfl⟩ [0, 1] rfl rfl 0 rfl rfl rfl rfl rfl (Nat.le_of_ble_eq_true rfl) dX6_of_23 ⟨Nat.le_refl _, Nat.le_refl _⟩) (fun r_23 H locs hw hX => ?_)
      subst hw
      refine xr_goto (tgt := 35) E dX6_of_26 (by decide) ?_
      exact xr_iret E hX hQ mrf hr ⟨by unfold xqOf; (repeat' split) <;> first | (exfalso; omega) | rfl | (congr 1; omega) | (congr 2; omega), by unfold rqOf; (repeat' split) <;> first | (exfalso; omega) | rfl | (congr 1; omega) | (congr 2; omega)⟩ rfl dX6_of_35
abbrev rm_X6_year : Room := { frames := 2, cells := 0, slots := 0, locals := 45 }
set_option maxHeartbeats 4000000 in
set_option maxRecDepth 100000 in
theorem c_X6_year (l : Launch) (D : va_G) (y : CY) (z sz : Nat) (hMo a_now a_asd a_pst a_mrf a_txt a_olt a_ofr a_nbs a_best a_wys a_rwx a_shx a_bef : Nat) (now : Int → Int) (msts : Int) (mrf : Int → Int) (mbyt : Int) (mord : Int) (alw : Int) (bco : Int) (alm : Int) (abt : Int) (mlt : Int) (beg : Int) (figm : Int) (v : Int) (w : Int) (H_M : FM now) (hv : sm v) (hw : sm w) : Met l yX6_year (Cond.code yX6_year cX6_year 3 (some .int) :: TW) rm_X6_year (va_Pc [.ref hMo, .int (iI v), .int (iI w)] (PX D y z (W_Mnr y hMo a_now a_asd a_pst a_mrf a_txt a_olt a_ofr a_nbs a_best a_wys a_rwx a_shx a_bef now msts mrf mbyt mord alw bco alm abt mlt beg figm) sz)) (va_Qi (fun (r : Int32) (uu : (Int → Int)) => r = iI (xqYr (mI now) (mT now) (now 0) v w) ∧ uu = rqYr mrf v w) (fun uu t => BX D (W_Mnr y hMo a_now a_asd a_pst a_mrf a_txt a_olt a_ofr a_nbs a_best a_wys a_rwx a_shx a_bef now msts uu mbyt mord alw bco alm abt mlt beg figm) (va_A (W_Mnr y hMo a_now a_asd a_pst a_mrf a_txt a_olt a_ofr a_nbs a_best a_wys a_rwx a_shx a_bef now msts mrf mbyt mord alw bco alm abt mlt beg figm) sz) t) (va_A (W_Mnr y hMo a_now a_asd a_pst a_mrf a_txt a_olt a_ofr a_nbs a_best a_wys a_rwx a_shx a_bef now msts mrf mbyt mord alw bco alm abt mlt beg figm) sz)) 0 0 (va_A (W_Mnr y hMo a_now a_asd a_pst a_mrf a_txt a_olt a_ofr a_nbs a_best a_wys a_rwx a_shx a_bef now msts mrf mbyt mord alw bco alm abt mlt beg figm) sz) := by
  refine xm_i (by decide) (Nat.le_of_ble_eq_true rfl) (fun p e s m args below meth cX ls A Q E hr hnm hX hl hQ => ?_)
  have hl : lv_has ls 3 [(0, .ref hMo), (1, .int (iI v)), (2, .int (iI w))] := hl
  have hq := H_M.q
  have hfr := H_M.fr
  have hli := H_M.li
  have hsh := H_M.sh
  refine xr_iload_n E hl 1 rfl dX6_year_0 rfl ?_
  refine xk_ri E hX [] rfl (xv_S (As := [.int (iI v)]) E hX hl (c_X6_isYear l D y z _ v ⟨by omega, by omega⟩) ml_X6_74 st_X6_isYear in_X6 co_X6_isYear 1 (by decide) ⟨rfl, rfl⟩ ⟨Nat.le_of_ble_eq_true rfl, Nat.le_of_ble_eq_true rfl⟩ [] rfl rfl rfl rfl (Nat.le_of_ble_eq_true rfl) dX6_year_1 ⟨Nat.le_refl _, Nat.le_refl _⟩) (fun r_1 H locs hw hX => ?_)
  subst hw
  refine xr_if_eqB (tgt := 28) E dX6_year_4 (by decide) (fun c_4 => ?_) (fun c_4 => ?_)
  · have c_4 := of_decide_eq_false c_4
    refine xr_aload_n E hl 0 rfl dX6_year_28 rfl ?_
    refine xr_bipush E dX6_year_29 (by decide) ?_
    refine xk_i (W2 := fun uu => (W_Mnr y hMo a_now a_asd a_pst a_mrf a_txt a_olt a_ofr a_nbs a_best a_wys a_rwx a_shx a_bef now msts uu mbyt mord alw bco alm abt mlt beg figm)) E hX [0, 2] rfl (xv_V (As := [.int (iI (-2))]) E hX hl (c_X6_refuse l D y z _ hMo a_now a_asd a_pst a_mrf a_txt a_olt a_ofr a_nbs a_best a_wys a_rwx a_shx a_bef msts mrf mbyt mord alw bco alm abt mlt beg figm (-2) (by omega)) ml_X6_54 im_X6_refuse se_X6_refuse in_X6 co_X6_refuse 1 (by decide) ⟨rfl, rfl⟩ ⟨Nat.le_of_ble_eq_true rfl, Nat.le_of_ble_eq_true rfl⟩ [0, 2] rfl rfl 0 rfl rfl rfl rfl rfl (Nat.le_of_ble_eq_true rfl) dX6_year_31 ⟨Nat.le_refl _, Nat.le_refl _⟩) [0, 3, 1] 2 (fun _ => rfl) (fun _ => rfl) (by decide) (by decide) (fun r_31 uu H locs hw hX => ?_)
    obtain ⟨rfl, rfl⟩ := hw
    have hX : XW D A s.heap (W_Mnr y hMo a_now a_asd a_pst a_mrf a_txt a_olt a_ofr a_nbs a_best a_wys a_rwx a_shx a_bef now msts (rfU mrf (-2)) mbyt mord alw bco alm abt mlt beg figm) H locs := hX
    exact xr_iret E hX hQ (rfU mrf (-2)) hr ⟨by unfold xqYr; (repeat' split) <;> first | (exfalso; omega) | rfl | (congr 1; omega) | (congr 2; omega), by unfold rqYr; (repeat' split) <;> first | (exfalso; omega) | rfl | (congr 1; omega) | (congr 2; omega)⟩ rfl dX6_year_34
  · have c_4 := of_decide_eq_true c_4
    refine xr_iload_n E hl 2 rfl dX6_year_7 rfl ?_
    refine xr_i2l E dX6_year_8 ⟨by omega, by omega⟩ ?_
    refine xr_lconst (v := 0) E dX6_year_9 (by decide) ?_
    refine xr_ldc2 (n := 2) E kl_X6_66 dX6_year_10 (by decide) ?_
    refine xk_ri E hX [] rfl (xv_S (As := [.long (lI w), .long (lI 0), .long (lI 2)]) E hX hl (c_X6_in l D y z _ w 0 2 ⟨by omega, by omega⟩ ⟨by omega, by omega⟩ ⟨by omega, by omega⟩) ml_X6_62 st_X6_in in_X6 co_X6_in 3 (by decide) ⟨rfl, rfl⟩ ⟨Nat.le_of_ble_eq_true rfl, Nat.le_of_ble_eq_true rfl⟩ [] rfl rfl rfl rfl (Nat.le_of_ble_eq_true rfl) dX6_year_13 ⟨Nat.le_refl _, Nat.le_refl _⟩) (fun r_13 H locs hw hX => ?_)
    subst hw
    refine xr_if_eqB (tgt := 28) E dX6_year_16 (by decide) (fun c_16 => ?_) (fun c_16 => ?_)
    · have c_16 := of_decide_eq_false c_16
      refine xr_aload_n E hl 0 rfl dX6_year_28 rfl ?_
      refine xr_bipush E dX6_year_29 (by decide) ?_
      refine xk_i (W2 := fun uu => (W_Mnr y hMo a_now a_asd a_pst a_mrf a_txt a_olt a_ofr a_nbs a_best a_wys a_rwx a_shx a_bef now msts uu mbyt mord alw bco alm abt mlt beg figm)) E hX [0, 2] rfl (xv_V (As := [.int (iI (-2))]) E hX hl (c_X6_refuse l D y z _ hMo a_now a_asd a_pst a_mrf a_txt a_olt a_ofr a_nbs a_best a_wys a_rwx a_shx a_bef msts mrf mbyt mord alw bco alm abt mlt beg figm (-2) (by omega)) ml_X6_54 im_X6_refuse se_X6_refuse in_X6 co_X6_refuse 1 (by decide) ⟨rfl, rfl⟩ ⟨Nat.le_of_ble_eq_true rfl, Nat.le_of_ble_eq_true rfl⟩ [0, 2] rfl rfl 0 rfl rfl rfl rfl rfl (Nat.le_of_ble_eq_true rfl) dX6_year_31 ⟨Nat.le_refl _, Nat.le_refl _⟩) [0, 3, 1] 2 (fun _ => rfl) (fun _ => rfl) (by decide) (by decide) (fun r_31 uu H locs hw hX => ?_)
      obtain ⟨rfl, rfl⟩ := hw
      have hX : XW D A s.heap (W_Mnr y hMo a_now a_asd a_pst a_mrf a_txt a_olt a_ofr a_nbs a_best a_wys a_rwx a_shx a_bef now msts (rfU mrf (-2)) mbyt mord alw bco alm abt mlt beg figm) H locs := hX
      exact xr_iret E hX hQ (rfU mrf (-2)) hr ⟨by unfold xqYr; (repeat' split) <;> first | (exfalso; omega) | rfl | (congr 1; omega) | (congr 2; omega), by unfold rqYr; (repeat' split) <;> first | (exfalso; omega) | rfl | (congr 1; omega) | (congr 2; omega)⟩ rfl dX6_year_34
    · have c_16 := of_decide_eq_true c_16
      refine xr_aload_n E hl 0 rfl dX6_year_19 rfl ?_
      refine xr_iload_n E hl 1 rfl dX6_year_20 rfl ?_
      refine xr_iload_n E hl 2 rfl dX6_year_21 rfl ?_
      refine xk_ri E hX [0, 1] rfl (xv_V (As := [.int (iI v), .int (iI w)]) E hX hl (c_X6_ofYear l D y z _ hMo a_now a_asd a_pst a_mrf a_txt a_olt a_ofr a_nbs a_best a_wys a_rwx a_shx a_bef now msts mbyt mord alw bco alm abt mlt beg figm v w H_M (by omega) (by omega)) ml_X6_133 im_X6_ofYear se_X6_ofYear in_X6 co_X6_ofYear 2 (by decide) ⟨rfl, rfl⟩ ⟨Nat.le_of_ble_eq_true rfl, Nat.le_of_ble_eq_true rfl⟩ [0, 1] rfl rfl 0 rfl rfl rfl rfl rfl (Nat.le_of_ble_eq_true rfl) dX6_year_22 ⟨Nat.le_refl _, Nat.le_refl _⟩) (fun r_22 H locs hw hX => ?_)
      subst hw
      refine xr_goto (tgt := 34) E dX6_year_25 (by decide) ?_
      exact xr_iret E hX hQ mrf hr ⟨by unfold xqYr; (repeat' split) <;> first | (exfalso; omega) | rfl | (congr 1; omega) | (congr 2; omega), by unfold rqYr; (repeat' split) <;> first | (exfalso; omega) | rfl | (congr 1; omega) | (congr 2; omega)⟩ rfl dX6_year_34
abbrev rm_X6_count : Room := { frames := 2, cells := 0, slots := 0, locals := 45 }
set_option maxHeartbeats 4000000 in
set_option maxRecDepth 100000 in
theorem c_X6_count (l : Launch) (D : va_G) (y : CY) (z sz : Nat) (hMo a_now a_asd a_pst a_mrf a_txt a_olt a_ofr a_nbs a_best a_wys a_rwx a_shx a_bef : Nat) (now : Int → Int) (msts : Int) (mrf : Int → Int) (mbyt : Int) (mord : Int) (alw : Int) (bco : Int) (alm : Int) (abt : Int) (mlt : Int) (beg : Int) (figm : Int) (w : Int) (H_M : FM now) (hw : sm w) : Met l yX6_count (Cond.code yX6_count cX6_count 2 (some .int) :: TW) rm_X6_count (va_Pc [.ref hMo, .int (iI w)] (PX D y z (W_Mnr y hMo a_now a_asd a_pst a_mrf a_txt a_olt a_ofr a_nbs a_best a_wys a_rwx a_shx a_bef now msts mrf mbyt mord alw bco alm abt mlt beg figm) sz)) (va_Qi (fun (r : Int32) (uu : (Int → Int)) => r = iI (xqCo (mT now) (mP now) (now 0) (now 28) (now 29) (now 30) w) ∧ uu = rqCo mrf w) (fun uu t => BX D (W_Mnr y hMo a_now a_asd a_pst a_mrf a_txt a_olt a_ofr a_nbs a_best a_wys a_rwx a_shx a_bef now msts uu mbyt mord alw bco alm abt mlt beg figm) (va_A (W_Mnr y hMo a_now a_asd a_pst a_mrf a_txt a_olt a_ofr a_nbs a_best a_wys a_rwx a_shx a_bef now msts mrf mbyt mord alw bco alm abt mlt beg figm) sz) t) (va_A (W_Mnr y hMo a_now a_asd a_pst a_mrf a_txt a_olt a_ofr a_nbs a_best a_wys a_rwx a_shx a_bef now msts mrf mbyt mord alw bco alm abt mlt beg figm) sz)) 0 0 (va_A (W_Mnr y hMo a_now a_asd a_pst a_mrf a_txt a_olt a_ofr a_nbs a_best a_wys a_rwx a_shx a_bef now msts mrf mbyt mord alw bco alm abt mlt beg figm) sz) := by
  refine xm_i (by decide) (Nat.le_of_ble_eq_true rfl) (fun p e s m args below meth cX ls A Q E hr hnm hX hl hQ => ?_)
  have hl : lv_has ls 2 [(0, .ref hMo), (1, .int (iI w))] := hl
  have hq := H_M.q
  have hfr := H_M.fr
  have hli := H_M.li
  have hsh := H_M.sh
  refine xr_iload_n E hl 1 rfl dX6_count_0 rfl ?_
  refine xr_i2l E dX6_count_1 ⟨by omega, by omega⟩ ?_
  refine xr_lconst (v := 0) E dX6_count_2 (by decide) ?_
  refine xr_ldc2 (n := 5) E kl_X6_136 dX6_count_3 (by decide) ?_
  refine xk_ri E hX [] rfl (xv_S (As := [.long (lI w), .long (lI 0), .long (lI 5)]) E hX hl (c_X6_in l D y z _ w 0 5 ⟨by omega, by omega⟩ ⟨by omega, by omega⟩ ⟨by omega, by omega⟩) ml_X6_62 st_X6_in in_X6 co_X6_in 3 (by decide) ⟨rfl, rfl⟩ ⟨Nat.le_of_ble_eq_true rfl, Nat.le_of_ble_eq_true rfl⟩ [] rfl rfl rfl rfl (Nat.le_of_ble_eq_true rfl) dX6_count_6 ⟨Nat.le_refl _, Nat.le_refl _⟩) (fun r_6 H locs hw hX => ?_)
  subst hw
  refine xr_if_eqB (tgt := 20) E dX6_count_9 (by decide) (fun c_9 => ?_) (fun c_9 => ?_)
  · have c_9 := of_decide_eq_false c_9
    refine xr_aload_n E hl 0 rfl dX6_count_20 rfl ?_
    refine xr_bipush E dX6_count_21 (by decide) ?_
    refine xk_i (W2 := fun uu => (W_Mnr y hMo a_now a_asd a_pst a_mrf a_txt a_olt a_ofr a_nbs a_best a_wys a_rwx a_shx a_bef now msts uu mbyt mord alw bco alm abt mlt beg figm)) E hX [0, 2] rfl (xv_V (As := [.int (iI (-2))]) E hX hl (c_X6_refuse l D y z _ hMo a_now a_asd a_pst a_mrf a_txt a_olt a_ofr a_nbs a_best a_wys a_rwx a_shx a_bef msts mrf mbyt mord alw bco alm abt mlt beg figm (-2) (by omega)) ml_X6_54 im_X6_refuse se_X6_refuse in_X6 co_X6_refuse 1 (by decide) ⟨rfl, rfl⟩ ⟨Nat.le_of_ble_eq_true rfl, Nat.le_of_ble_eq_true rfl⟩ [0, 2] rfl rfl 0 rfl rfl rfl rfl rfl (Nat.le_of_ble_eq_true rfl) dX6_count_23 ⟨Nat.le_refl _, Nat.le_refl _⟩) [0, 3, 1] 2 (fun _ => rfl) (fun _ => rfl) (by decide) (by decide) (fun r_23 uu H locs hw hX => ?_)
    obtain ⟨rfl, rfl⟩ := hw
    have hX : XW D A s.heap (W_Mnr y hMo a_now a_asd a_pst a_mrf a_txt a_olt a_ofr a_nbs a_best a_wys a_rwx a_shx a_bef now msts (rfU mrf (-2)) mbyt mord alw bco alm abt mlt beg figm) H locs := hX
    exact xr_iret E hX hQ (rfU mrf (-2)) hr ⟨by unfold xqCo; (repeat' split) <;> first | (exfalso; omega) | rfl | (congr 1; omega) | (congr 2; omega), by unfold rqCo; (repeat' split) <;> first | (exfalso; omega) | rfl | (congr 1; omega) | (congr 2; omega)⟩ rfl dX6_count_26
  · have c_9 := of_decide_eq_true c_9
    refine xr_aload_n E hl 0 rfl dX6_count_12 rfl ?_
    refine xr_iload_n E hl 1 rfl dX6_count_13 rfl ?_
    refine xk_ri E hX [0, 1] rfl (xv_V (As := [.int (iI w)]) E hX hl (c_X6_countOf l D y z _ hMo a_now a_asd a_pst a_mrf a_txt a_olt a_ofr a_nbs a_best a_wys a_rwx a_shx a_bef now msts mbyt mord alw bco alm abt mlt beg figm w H_M (by omega)) ml_X6_138 im_X6_countOf se_X6_countOf in_X6 co_X6_countOf 1 (by decide) ⟨rfl, rfl⟩ ⟨Nat.le_of_ble_eq_true rfl, Nat.le_of_ble_eq_true rfl⟩ [0, 1] rfl rfl 0 rfl rfl rfl rfl rfl (Nat.le_of_ble_eq_true rfl) dX6_count_14 ⟨Nat.le_refl _, Nat.le_refl _⟩) (fun r_14 H locs hw hX => ?_)
    subst hw
    refine xr_goto (tgt := 26) E dX6_count_17 (by decide) ?_
    exact xr_iret E hX hQ mrf hr ⟨by unfold xqCo; (repeat' split) <;> first | (exfalso; omega) | rfl | (congr 1; omega) | (congr 2; omega), by unfold rqCo; (repeat' split) <;> first | (exfalso; omega) | rfl | (congr 1; omega) | (congr 2; omega)⟩ rfl dX6_count_26
abbrev rm_X6_toldOf : Room := { frames := 0, cells := 0, slots := 0, locals := 0 }
set_option maxHeartbeats 4000000 in
set_option maxRecDepth 100000 in
theorem c_X6_toldOf (l : Launch) (D : va_G) (y : CY) (z sz : Nat) (hMo a_now a_asd a_pst a_mrf a_txt a_olt a_ofr a_nbs a_best a_wys a_rwx a_shx a_bef : Nat) (msts : Int) (mrf : Int → Int) (mbyt : Int) (mord : Int) (alw : Int) (bco : Int) (alm : Int) (abt : Int) (mlt : Int) (beg : Int) (figm : Int) (w : Int) (hw : 0 ≤ w ∧ w ≤ 4) : Met l yX6_toldOf (Cond.code yX6_toldOf cX6_toldOf 2 (some .int) :: TW) rm_X6_toldOf (va_Pc [.ref hMo, .int (iI w)] (PX D y z (W_Mr y hMo a_now a_asd a_pst a_mrf a_txt a_olt a_ofr a_nbs a_best a_wys a_rwx a_shx a_bef msts mrf mbyt mord alw bco alm abt mlt beg figm) sz)) (va_Qi (fun (r : Int32) (uu : Unit) => r = iI (xTo mrf mbyt msts w)) (fun uu t => BX D (W_Mr y hMo a_now a_asd a_pst a_mrf a_txt a_olt a_ofr a_nbs a_best a_wys a_rwx a_shx a_bef msts mrf mbyt mord alw bco alm abt mlt beg figm) (va_A (W_Mr y hMo a_now a_asd a_pst a_mrf a_txt a_olt a_ofr a_nbs a_best a_wys a_rwx a_shx a_bef msts mrf mbyt mord alw bco alm abt mlt beg figm) sz) t) (va_A (W_Mr y hMo a_now a_asd a_pst a_mrf a_txt a_olt a_ofr a_nbs a_best a_wys a_rwx a_shx a_bef msts mrf mbyt mord alw bco alm abt mlt beg figm) sz)) 0 0 (va_A (W_Mr y hMo a_now a_asd a_pst a_mrf a_txt a_olt a_ofr a_nbs a_best a_wys a_rwx a_shx a_bef msts mrf mbyt mord alw bco alm abt mlt beg figm) sz) := by
  refine xm_i (by decide) (Nat.le_of_ble_eq_true rfl) (fun p e s m args below meth cX ls A Q E hr hnm hX hl hQ => ?_)
  have hl : lv_has ls 2 [(0, .ref hMo), (1, .int (iI w))] := hl
  refine xr_iload_n E hl 1 rfl dX6_toldOf_0 rfl ?_
  refine xr_iconst E dX6_toldOf_1 ?_
  refine xr_icmp_ge (tgt := 14) E dX6_toldOf_2 (by decide) ⟨by omega, by omega⟩ (by decide) (fun c_2 => ?_) (fun c_2 => ?_)
  · have c_2 := c_2
    refine xr_iload_n E hl 1 rfl dX6_toldOf_14 rfl ?_
    refine xr_iconst E dX6_toldOf_15 ?_
    refine xr_icmp_ne (tgt := 26) E dX6_toldOf_16 (by decide) ⟨by omega, by omega⟩ (by decide) (fun c_16 => ?_) (fun c_16 => ?_)
    · have c_16 := c_16
      refine xr_aload_n E hl 0 rfl dX6_toldOf_26 rfl ?_
      refine xr_get E hX 0 rfl rfl ly_X6 3 (by decide) fl_X6_58 rfl dX6_toldOf_27 ?_
      exact xr_iret E hX hQ () hr (by unfold xTo; (repeat' split) <;> first | (exfalso; omega) | rfl | (congr 1; omega) | (congr 2; omega)) rfl dX6_toldOf_30
    · have c_16 := c_16
      refine xr_aload_n E hl 0 rfl dX6_toldOf_19 rfl ?_
      refine xr_get E hX 0 rfl rfl ly_X6 6 (by decide) fl_X6_209 rfl dX6_toldOf_20 ?_
      refine xr_goto (tgt := 30) E dX6_toldOf_23 (by decide) ?_
      exact xr_iret E hX hQ () hr (by unfold xTo; (repeat' split) <;> first | (exfalso; omega) | rfl | (congr 1; omega) | (congr 2; omega)) rfl dX6_toldOf_30
  · have c_2 := c_2
    refine xr_aload_n E hl 0 rfl dX6_toldOf_5 rfl ?_
    refine xr_get E hX 0 rfl rfl ly_X6 4 (by decide) fl_X6_19 rfl dX6_toldOf_6 ?_
    refine xr_iload_n E hl 1 rfl dX6_toldOf_9 rfl ?_
    refine xr_iald E hX 1 rfl (by omega) (by omega) (by decide) dX6_toldOf_10 ?_
    refine xr_goto (tgt := 30) E dX6_toldOf_11 (by decide) ?_
    exact xr_iret E hX hQ () hr (by unfold xTo; (repeat' split) <;> first | (exfalso; omega) | rfl | (congr 1; omega) | (congr 2; omega)) rfl dX6_toldOf_30
abbrev rm_X6_told : Room := { frames := 1, cells := 0, slots := 0, locals := 25 }
set_option maxHeartbeats 4000000 in
set_option maxRecDepth 100000 in
theorem c_X6_told (l : Launch) (D : va_G) (y : CY) (z sz : Nat) (hMo a_now a_asd a_pst a_mrf a_txt a_olt a_ofr a_nbs a_best a_wys a_rwx a_shx a_bef : Nat) (msts : Int) (mrf : Int → Int) (mbyt : Int) (mord : Int) (alw : Int) (bco : Int) (alm : Int) (abt : Int) (mlt : Int) (beg : Int) (figm : Int) (w : Int) (hw : sm w) : Met l yX6_told (Cond.code yX6_told cX6_told 2 (some .int) :: TW) rm_X6_told (va_Pc [.ref hMo, .int (iI w)] (PX D y z (W_Mr y hMo a_now a_asd a_pst a_mrf a_txt a_olt a_ofr a_nbs a_best a_wys a_rwx a_shx a_bef msts mrf mbyt mord alw bco alm abt mlt beg figm) sz)) (va_Qi (fun (r : Int32) (uu : (Int → Int)) => r = iI (xqTo mrf mbyt msts w) ∧ uu = rqTo mrf w) (fun uu t => BX D (W_Mr y hMo a_now a_asd a_pst a_mrf a_txt a_olt a_ofr a_nbs a_best a_wys a_rwx a_shx a_bef msts uu mbyt mord alw bco alm abt mlt beg figm) (va_A (W_Mr y hMo a_now a_asd a_pst a_mrf a_txt a_olt a_ofr a_nbs a_best a_wys a_rwx a_shx a_bef msts mrf mbyt mord alw bco alm abt mlt beg figm) sz) t) (va_A (W_Mr y hMo a_now a_asd a_pst a_mrf a_txt a_olt a_ofr a_nbs a_best a_wys a_rwx a_shx a_bef msts mrf mbyt mord alw bco alm abt mlt beg figm) sz)) 0 0 (va_A (W_Mr y hMo a_now a_asd a_pst a_mrf a_txt a_olt a_ofr a_nbs a_best a_wys a_rwx a_shx a_bef msts mrf mbyt mord alw bco alm abt mlt beg figm) sz) := by
  refine xm_i (by decide) (Nat.le_of_ble_eq_true rfl) (fun p e s m args below meth cX ls A Q E hr hnm hX hl hQ => ?_)
  have hl : lv_has ls 2 [(0, .ref hMo), (1, .int (iI w))] := hl
  refine xr_iload_n E hl 1 rfl dX6_told_0 rfl ?_
  refine xr_i2l E dX6_told_1 ⟨by omega, by omega⟩ ?_
  refine xr_lconst (v := 0) E dX6_told_2 (by decide) ?_
  refine xr_ldc2 (n := 4) E kl_X6_240 dX6_told_3 (by decide) ?_
  refine xk_ri E hX [] rfl (xv_S (As := [.long (lI w), .long (lI 0), .long (lI 4)]) E hX hl (c_X6_in l D y z _ w 0 4 ⟨by omega, by omega⟩ ⟨by omega, by omega⟩ ⟨by omega, by omega⟩) ml_X6_62 st_X6_in in_X6 co_X6_in 3 (by decide) ⟨rfl, rfl⟩ ⟨Nat.le_of_ble_eq_true rfl, Nat.le_of_ble_eq_true rfl⟩ [] rfl rfl rfl rfl (Nat.le_of_ble_eq_true rfl) dX6_told_6 ⟨Nat.le_refl _, Nat.le_refl _⟩) (fun r_6 H locs hw hX => ?_)
  subst hw
  refine xr_if_eqB (tgt := 20) E dX6_told_9 (by decide) (fun c_9 => ?_) (fun c_9 => ?_)
  · have c_9 := of_decide_eq_false c_9
    refine xr_aload_n E hl 0 rfl dX6_told_20 rfl ?_
    refine xr_bipush E dX6_told_21 (by decide) ?_
    refine xk_i (W2 := fun uu => (W_Mr y hMo a_now a_asd a_pst a_mrf a_txt a_olt a_ofr a_nbs a_best a_wys a_rwx a_shx a_bef msts uu mbyt mord alw bco alm abt mlt beg figm)) E hX [0, 1] rfl (xv_V (As := [.int (iI (-2))]) E hX hl (c_X6_refuse l D y z _ hMo a_now a_asd a_pst a_mrf a_txt a_olt a_ofr a_nbs a_best a_wys a_rwx a_shx a_bef msts mrf mbyt mord alw bco alm abt mlt beg figm (-2) (by omega)) ml_X6_54 im_X6_refuse se_X6_refuse in_X6 co_X6_refuse 1 (by decide) ⟨rfl, rfl⟩ ⟨Nat.le_of_ble_eq_true rfl, Nat.le_of_ble_eq_true rfl⟩ [0, 1] rfl rfl 0 rfl rfl rfl rfl rfl (Nat.le_of_ble_eq_true rfl) dX6_told_23 ⟨Nat.le_refl _, Nat.le_refl _⟩) [0, 1] 2 (fun _ => rfl) (fun _ => rfl) (by decide) (by decide) (fun r_23 uu H locs hw hX => ?_)
    obtain ⟨rfl, rfl⟩ := hw
    have hX : XW D A s.heap (W_Mr y hMo a_now a_asd a_pst a_mrf a_txt a_olt a_ofr a_nbs a_best a_wys a_rwx a_shx a_bef msts (rfU mrf (-2)) mbyt mord alw bco alm abt mlt beg figm) H locs := hX
    exact xr_iret E hX hQ (rfU mrf (-2)) hr ⟨by unfold xqTo; (repeat' split) <;> first | (exfalso; omega) | rfl | (congr 1; omega) | (congr 2; omega), by unfold rqTo; (repeat' split) <;> first | (exfalso; omega) | rfl | (congr 1; omega) | (congr 2; omega)⟩ rfl dX6_told_26
  · have c_9 := of_decide_eq_true c_9
    refine xr_aload_n E hl 0 rfl dX6_told_12 rfl ?_
    refine xr_iload_n E hl 1 rfl dX6_told_13 rfl ?_
    refine xk_ri E hX [0, 1] rfl (xv_V (As := [.int (iI w)]) E hX hl (c_X6_toldOf l D y z _ hMo a_now a_asd a_pst a_mrf a_txt a_olt a_ofr a_nbs a_best a_wys a_rwx a_shx a_bef msts mrf mbyt mord alw bco alm abt mlt beg figm w (by omega)) ml_X6_242 im_X6_toldOf se_X6_toldOf in_X6 co_X6_toldOf 1 (by decide) ⟨rfl, rfl⟩ ⟨Nat.le_of_ble_eq_true rfl, Nat.le_of_ble_eq_true rfl⟩ [0, 1] rfl rfl 0 rfl rfl rfl rfl rfl (Nat.le_of_ble_eq_true rfl) dX6_told_14 ⟨Nat.le_refl _, Nat.le_refl _⟩) (fun r_14 H locs hw hX => ?_)
    subst hw
    refine xr_goto (tgt := 26) E dX6_told_17 (by decide) ?_
    exact xr_iret E hX hQ mrf hr ⟨by unfold xqTo; (repeat' split) <;> first | (exfalso; omega) | rfl | (congr 1; omega) | (congr 2; omega), by unfold rqTo; (repeat' split) <;> first | (exfalso; omega) | rfl | (congr 1; omega) | (congr 2; omega)⟩ rfl dX6_told_26
abbrev rm_X6_type : Room := { frames := 1, cells := 0, slots := 0, locals := 25 }
set_option maxHeartbeats 4000000 in
set_option maxRecDepth 100000 in
theorem c_X6_type (l : Launch) (D : va_G) (y : CY) (z sz : Nat) (hMo a_now a_asd a_pst a_mrf a_txt a_olt a_ofr a_nbs a_best a_wys a_rwx a_shx a_bef : Nat) (msts : Int) (mrf : Int → Int) (txt : Int → Int) (mbyt : Int) (mord : Int) (alw : Int) (bco : Int) (alm : Int) (abt : Int) (mlt : Int) (beg : Int) (figm : Int) (c : Int) (hc : sm c) (hl0 : 0 ≤ mbyt ∧ mbyt ≤ 120) : Met l yX6_type (Cond.code yX6_type cX6_type 2 (some .int) :: TW) rm_X6_type (va_Pc [.ref hMo, .int (iI c)] (PX D y z (W_Mt y hMo a_now a_asd a_pst a_mrf a_txt a_olt a_ofr a_nbs a_best a_wys a_rwx a_shx a_bef msts mrf txt mbyt mord alw bco alm abt mlt beg figm) sz)) (va_Qi (fun (r : Int32) (uu : (Int → Int) × (Int) × (Int → Int)) => r = iI (xqTy mbyt c) ∧ uu = (tqTy txt mbyt c, lqTy mbyt c, rqTy mrf mbyt c)) (fun uu t => BX D (W_Mt y hMo a_now a_asd a_pst a_mrf a_txt a_olt a_ofr a_nbs a_best a_wys a_rwx a_shx a_bef msts uu.2.2 uu.1 uu.2.1 mord alw bco alm abt mlt beg figm) (va_A (W_Mt y hMo a_now a_asd a_pst a_mrf a_txt a_olt a_ofr a_nbs a_best a_wys a_rwx a_shx a_bef msts mrf txt mbyt mord alw bco alm abt mlt beg figm) sz) t) (va_A (W_Mt y hMo a_now a_asd a_pst a_mrf a_txt a_olt a_ofr a_nbs a_best a_wys a_rwx a_shx a_bef msts mrf txt mbyt mord alw bco alm abt mlt beg figm) sz)) 0 0 (va_A (W_Mt y hMo a_now a_asd a_pst a_mrf a_txt a_olt a_ofr a_nbs a_best a_wys a_rwx a_shx a_bef msts mrf txt mbyt mord alw bco alm abt mlt beg figm) sz) := by
  refine xm_i (by decide) (Nat.le_of_ble_eq_true rfl) (fun p e s m args below meth cX ls A Q E hr hnm hX hl hQ => ?_)
  have hl : lv_has ls 2 [(0, .ref hMo), (1, .int (iI c))] := hl
  refine xr_iload_n E hl 1 rfl dX6_type_0 rfl ?_
  refine xr_i2l E dX6_type_1 ⟨by omega, by omega⟩ ?_
  refine xr_lconst (v := 0) E dX6_type_2 (by decide) ?_
  refine xr_ldc2 (n := 127) E kl_X6_207 dX6_type_3 (by decide) ?_
  refine xk_ri E hX [] rfl (xv_S (As := [.long (lI c), .long (lI 0), .long (lI 127)]) E hX hl (c_X6_in l D y z _ c 0 127 ⟨by omega, by omega⟩ ⟨by omega, by omega⟩ ⟨by omega, by omega⟩) ml_X6_62 st_X6_in in_X6 co_X6_in 3 (by decide) ⟨rfl, rfl⟩ ⟨Nat.le_of_ble_eq_true rfl, Nat.le_of_ble_eq_true rfl⟩ [] rfl rfl rfl rfl (Nat.le_of_ble_eq_true rfl) dX6_type_6 ⟨Nat.le_refl _, Nat.le_refl _⟩) (fun r_6 H locs hw hX => ?_)
  subst hw
  refine xr_if_neB (tgt := 19) E dX6_type_9 (by decide) (fun c_9 => ?_) (fun c_9 => ?_)
  · have c_9 := of_decide_eq_true c_9
    refine xr_aload_n E hl 0 rfl dX6_type_19 rfl ?_
    refine xr_get E hX 0 rfl rfl ly_X6 6 (by decide) fl_X6_209 rfl dX6_type_20 ?_
    refine xr_bipush E dX6_type_23 (by decide) ?_
    refine xr_icmp_ne (tgt := 35) E dX6_type_25 (by decide) ⟨by omega, by omega⟩ (by decide) (fun c_25 => ?_) (fun c_25 => ?_)
    · have c_25 := c_25
      refine xr_aload_n E hl 0 rfl dX6_type_35 rfl ?_
      refine xr_get E hX 0 rfl rfl ly_X6 5 (by decide) fl_X6_22 rfl dX6_type_36 ?_
      refine xr_aload_n E hl 0 rfl dX6_type_39 rfl ?_
      refine xr_get E hX 0 rfl rfl ly_X6 6 (by decide) fl_X6_209 rfl dX6_type_40 ?_
      refine xr_iload_n E hl 1 rfl dX6_type_43 rfl ?_
      refine xr_iast (W1 := (W_Mt y hMo a_now a_asd a_pst a_mrf a_txt a_olt a_ofr a_nbs a_best a_wys a_rwx a_shx a_bef msts mrf (up txt mbyt c) mbyt mord alw bco alm abt mlt beg figm)) E hX 2 rfl (by omega) (by omega) (by decide) rfl dX6_type_44 (fun H locs hX => ?_)
      refine xr_aload_n E hl 0 rfl dX6_type_45 rfl ?_
      refine xr_dup E dX6_type_46 rfl ?_
      refine xr_get E hX 0 rfl rfl ly_X6 6 (by decide) fl_X6_209 rfl dX6_type_47 ?_
      refine xr_iconst E dX6_type_50 ?_
      refine xr_iadd E dX6_type_51 ?_
      refine xr_put (W1 := (W_Mt y hMo a_now a_asd a_pst a_mrf a_txt a_olt a_ofr a_nbs a_best a_wys a_rwx a_shx a_bef msts mrf (up txt mbyt c) (mbyt + 1) mord alw bco alm abt mlt beg figm)) E hX 0 rfl rfl ly_X6 tyX6_ok nmX6 6 (by decide) fl_X6_209 rfl rfl rfl (Nat.le_of_ble_eq_true rfl) rfl dX6_type_52 (fun H locs hX => ?_)
      refine xr_aload_n E hl 0 rfl dX6_type_55 rfl ?_
      refine xr_get E hX 0 rfl rfl ly_X6 6 (by decide) fl_X6_209 rfl dX6_type_56 ?_
      exact xr_iret E hX hQ ((up txt mbyt c), (mbyt + 1), mrf) hr ⟨by unfold xqTy; (repeat' split) <;> first | (exfalso; omega) | rfl | (congr 1; omega) | (congr 2; omega), by unfold tqTy lqTy rqTy; (repeat' split) <;> first | (exfalso; omega) | rfl | (congr 1; omega) | (congr 2; omega)⟩ rfl dX6_type_59
    · have c_25 := c_25
      refine xr_aload_n E hl 0 rfl dX6_type_28 rfl ?_
      refine xr_bipush E dX6_type_29 (by decide) ?_
      refine xk_i (W2 := fun uu => (W_Mt y hMo a_now a_asd a_pst a_mrf a_txt a_olt a_ofr a_nbs a_best a_wys a_rwx a_shx a_bef msts uu txt mbyt mord alw bco alm abt mlt beg figm)) E hX [0, 1] rfl (xv_V (As := [.int (iI (-4))]) E hX hl (c_X6_refuse l D y z _ hMo a_now a_asd a_pst a_mrf a_txt a_olt a_ofr a_nbs a_best a_wys a_rwx a_shx a_bef msts mrf mbyt mord alw bco alm abt mlt beg figm (-4) (by omega)) ml_X6_54 im_X6_refuse se_X6_refuse in_X6 co_X6_refuse 1 (by decide) ⟨rfl, rfl⟩ ⟨Nat.le_of_ble_eq_true rfl, Nat.le_of_ble_eq_true rfl⟩ [0, 1] rfl rfl 0 rfl rfl rfl rfl rfl (Nat.le_of_ble_eq_true rfl) dX6_type_31 ⟨Nat.le_refl _, Nat.le_refl _⟩) [0, 1, 4] 2 (fun _ => rfl) (fun _ => rfl) (by decide) (by decide) (fun r_31 uu H locs hw hX => ?_)
      obtain ⟨rfl, rfl⟩ := hw
      have hX : XW D A s.heap (W_Mt y hMo a_now a_asd a_pst a_mrf a_txt a_olt a_ofr a_nbs a_best a_wys a_rwx a_shx a_bef msts (rfU mrf (-4)) txt mbyt mord alw bco alm abt mlt beg figm) H locs := hX
      exact xr_iret E hX hQ (txt, mbyt, rfU mrf (-4)) hr ⟨by unfold xqTy; (repeat' split) <;> first | (exfalso; omega) | rfl | (congr 1; omega) | (congr 2; omega), by unfold tqTy lqTy rqTy; (repeat' split) <;> first | (exfalso; omega) | rfl | (congr 1; omega) | (congr 2; omega)⟩ rfl dX6_type_34
  · have c_9 := of_decide_eq_false c_9
    refine xr_aload_n E hl 0 rfl dX6_type_12 rfl ?_
    refine xr_bipush E dX6_type_13 (by decide) ?_
    refine xk_i (W2 := fun uu => (W_Mt y hMo a_now a_asd a_pst a_mrf a_txt a_olt a_ofr a_nbs a_best a_wys a_rwx a_shx a_bef msts uu txt mbyt mord alw bco alm abt mlt beg figm)) E hX [0, 1] rfl (xv_V (As := [.int (iI (-2))]) E hX hl (c_X6_refuse l D y z _ hMo a_now a_asd a_pst a_mrf a_txt a_olt a_ofr a_nbs a_best a_wys a_rwx a_shx a_bef msts mrf mbyt mord alw bco alm abt mlt beg figm (-2) (by omega)) ml_X6_54 im_X6_refuse se_X6_refuse in_X6 co_X6_refuse 1 (by decide) ⟨rfl, rfl⟩ ⟨Nat.le_of_ble_eq_true rfl, Nat.le_of_ble_eq_true rfl⟩ [0, 1] rfl rfl 0 rfl rfl rfl rfl rfl (Nat.le_of_ble_eq_true rfl) dX6_type_15 ⟨Nat.le_refl _, Nat.le_refl _⟩) [0, 1, 4] 2 (fun _ => rfl) (fun _ => rfl) (by decide) (by decide) (fun r_15 uu H locs hw hX => ?_)
    obtain ⟨rfl, rfl⟩ := hw
    have hX : XW D A s.heap (W_Mt y hMo a_now a_asd a_pst a_mrf a_txt a_olt a_ofr a_nbs a_best a_wys a_rwx a_shx a_bef msts (rfU mrf (-2)) txt mbyt mord alw bco alm abt mlt beg figm) H locs := hX
    exact xr_iret E hX hQ (txt, mbyt, rfU mrf (-2)) hr ⟨by unfold xqTy; (repeat' split) <;> first | (exfalso; omega) | rfl | (congr 1; omega) | (congr 2; omega), by unfold tqTy lqTy rqTy; (repeat' split) <;> first | (exfalso; omega) | rfl | (congr 1; omega) | (congr 2; omega)⟩ rfl dX6_type_18
abbrev rm_X6_clear : Room := { frames := 0, cells := 0, slots := 0, locals := 0 }
set_option maxHeartbeats 4000000 in
set_option maxRecDepth 100000 in
theorem c_X6_clear (l : Launch) (D : va_G) (y : CY) (z sz : Nat) (hMo a_now a_asd a_pst a_mrf a_txt a_olt a_ofr a_nbs a_best a_wys a_rwx a_shx a_bef : Nat) (msts : Int) (mbyt : Int) (mord : Int) (alw : Int) (bco : Int) (alm : Int) (abt : Int) (mlt : Int) (beg : Int) (figm : Int) : Met l yX6_clear (Cond.code yX6_clear cX6_clear 2 (some .int) :: TW) rm_X6_clear (va_Pc [.ref hMo] (PX D y z (W_M0 y hMo a_now a_asd a_pst a_mrf a_txt a_olt a_ofr a_nbs a_best a_wys a_rwx a_shx a_bef msts mbyt mord alw bco alm abt mlt beg figm) sz)) (va_Qi (fun (r : Int32) (uu : (Int)) => r = iI mbyt ∧ uu = 0) (fun uu t => BX D (W_M0 y hMo a_now a_asd a_pst a_mrf a_txt a_olt a_ofr a_nbs a_best a_wys a_rwx a_shx a_bef msts uu mord alw bco alm abt mlt beg figm) (va_A (W_M0 y hMo a_now a_asd a_pst a_mrf a_txt a_olt a_ofr a_nbs a_best a_wys a_rwx a_shx a_bef msts mbyt mord alw bco alm abt mlt beg figm) sz) t) (va_A (W_M0 y hMo a_now a_asd a_pst a_mrf a_txt a_olt a_ofr a_nbs a_best a_wys a_rwx a_shx a_bef msts mbyt mord alw bco alm abt mlt beg figm) sz)) 0 0 (va_A (W_M0 y hMo a_now a_asd a_pst a_mrf a_txt a_olt a_ofr a_nbs a_best a_wys a_rwx a_shx a_bef msts mbyt mord alw bco alm abt mlt beg figm) sz) := by
  refine xm_i (by decide) (Nat.le_of_ble_eq_true rfl) (fun p e s m args below meth cX ls A Q E hr hnm hX hl hQ => ?_)
  have hl : lv_has ls 2 [(0, .ref hMo)] := hl
  refine xr_aload_n E hl 0 rfl dX6_clear_0 rfl ?_
  refine xr_get E hX 0 rfl rfl ly_X6 6 (by decide) fl_X6_209 rfl dX6_clear_1 ?_
  refine xr_istore_n (lv' := [(1, .int (iI mbyt)), (0, .ref hMo)]) E hl dX6_clear_4 rfl (by decide) rfl (fun ls hl => ?_)
  refine xr_aload_n E hl 1 rfl dX6_clear_5 rfl ?_
  refine xr_iconst E dX6_clear_6 ?_
  refine xr_put (W1 := (W_M0 y hMo a_now a_asd a_pst a_mrf a_txt a_olt a_ofr a_nbs a_best a_wys a_rwx a_shx a_bef msts 0 mord alw bco alm abt mlt beg figm)) E hX 0 rfl rfl ly_X6 tyX6_ok nmX6 6 (by decide) fl_X6_209 rfl rfl rfl (Nat.le_of_ble_eq_true rfl) rfl dX6_clear_7 (fun H locs hX => ?_)
  refine xr_iload_n E hl 0 rfl dX6_clear_10 rfl ?_
  exact xr_iret E hX hQ 0 hr ⟨rfl, rfl⟩ rfl dX6_clear_11
abbrev rm_X6_back : Room := { frames := 1, cells := 0, slots := 0, locals := 24 }
set_option maxHeartbeats 4000000 in
set_option maxRecDepth 100000 in
theorem c_X6_back (l : Launch) (D : va_G) (y : CY) (z sz : Nat) (hMo a_now a_asd a_pst a_mrf a_txt a_olt a_ofr a_nbs a_best a_wys a_rwx a_shx a_bef : Nat) (now : Int → Int) (pst : Int → Int) (msts : Int) (mrf : Int → Int) (mbyt : Int) (mord : Int) (alw : Int) (bco : Int) (alm : Int) (abt : Int) (mlt : Int) (beg : Int) (figm : Int) (hms : 0 ≤ msts ∧ msts ≤ 5) : Met l yX6_back (Cond.code yX6_back cX6_back 1 (some .int) :: TW) rm_X6_back (va_Pc [.ref hMo] (PX D y z (W_Mb y hMo a_now a_asd a_pst a_mrf a_txt a_olt a_ofr a_nbs a_best a_wys a_rwx a_shx a_bef now pst msts mrf mbyt mord alw bco alm abt mlt beg figm) sz)) (va_Qi (fun (r : Int32) (uu : (Int → Int) × (Int) × (Int → Int)) => r = iI (xqBk msts) ∧ uu = (bkF msts (rfU mrf (-3)) mrf, bkI msts msts (msts - 1), mBkN now pst msts)) (fun uu t => BX D (W_Mb y hMo a_now a_asd a_pst a_mrf a_txt a_olt a_ofr a_nbs a_best a_wys a_rwx a_shx a_bef uu.2.2 pst uu.2.1 uu.1 mbyt mord alw bco alm abt mlt beg figm) (va_A (W_Mb y hMo a_now a_asd a_pst a_mrf a_txt a_olt a_ofr a_nbs a_best a_wys a_rwx a_shx a_bef now pst msts mrf mbyt mord alw bco alm abt mlt beg figm) sz) t) (va_A (W_Mb y hMo a_now a_asd a_pst a_mrf a_txt a_olt a_ofr a_nbs a_best a_wys a_rwx a_shx a_bef now pst msts mrf mbyt mord alw bco alm abt mlt beg figm) sz)) 0 0 (va_A (W_Mb y hMo a_now a_asd a_pst a_mrf a_txt a_olt a_ofr a_nbs a_best a_wys a_rwx a_shx a_bef now pst msts mrf mbyt mord alw bco alm abt mlt beg figm) sz) := by
  refine xm_i (by decide) (Nat.le_of_ble_eq_true rfl) (fun p e s m args below meth cX ls A Q E hr hnm hX hl hQ => ?_)
  have hl : lv_has ls 1 [(0, .ref hMo)] := hl
  refine xr_aload_n E hl 0 rfl dX6_back_0 rfl ?_
  refine xr_get E hX 0 rfl rfl ly_X6 3 (by decide) fl_X6_58 rfl dX6_back_1 ?_
  refine xr_if_ne (tgt := 14) E dX6_back_4 (by decide) ⟨by omega, by omega⟩ (fun c_4 => ?_) (fun c_4 => ?_)
  · have c_4 := c_4
    refine xr_aload_n E hl 0 rfl dX6_back_14 rfl ?_
    refine xr_dup E dX6_back_15 rfl ?_
    refine xr_get E hX 0 rfl rfl ly_X6 3 (by decide) fl_X6_58 rfl dX6_back_16 ?_
    refine xr_iconst E dX6_back_19 ?_
    refine xr_isub E dX6_back_20 ?_
    refine xr_put (W1 := (W_Mb y hMo a_now a_asd a_pst a_mrf a_txt a_olt a_ofr a_nbs a_best a_wys a_rwx a_shx a_bef now pst (msts - 1) mrf mbyt mord alw bco alm abt mlt beg figm)) E hX 0 rfl rfl ly_X6 tyX6_ok nmX6 3 (by decide) fl_X6_58 rfl rfl rfl (Nat.le_of_ble_eq_true rfl) rfl dX6_back_21 (fun H locs hX => ?_)
    refine xr_aload_n E hl 0 rfl dX6_back_24 rfl ?_
    refine xr_get E hX 0 rfl rfl ly_X6 2 (by decide) fl_X6_16 rfl dX6_back_25 ?_
    refine xr_bipush E dX6_back_28 (by decide) ?_
    refine xr_aload_n E hl 0 rfl dX6_back_30 rfl ?_
    refine xr_get E hX 0 rfl rfl ly_X6 3 (by decide) fl_X6_58 rfl dX6_back_31 ?_
    refine xr_imul E dX6_back_34 ?_
    refine xr_aload_n E hl 0 rfl dX6_back_35 rfl ?_
    refine xr_get E hX 0 rfl rfl ly_X6 0 (by decide) fl_X6_7 rfl dX6_back_36 ?_
    refine xr_iconst E dX6_back_39 ?_
    refine xk_v (W2 := fun uu => (W_Mb y hMo a_now a_asd a_pst a_mrf a_txt a_olt a_ofr a_nbs a_best a_wys a_rwx a_shx a_bef uu pst (msts - 1) mrf mbyt mord alw bco alm abt mlt beg figm)) E hX [2, 1] rfl (xv_S (As := [.ref a_pst, .int (iI (31 * (msts - 1))), .ref a_now, .int (iI 0)]) E hX hl (c_X6_bring_c l D y z _ a_pst a_now pst now (31 * (msts - 1)) 0 (by omega) (by omega)) ml_X6_50 st_X6_bring in_X6 co_X6_bring 4 (by decide) ⟨rfl, rfl⟩ ⟨Nat.le_of_ble_eq_true rfl, Nat.le_of_ble_eq_true rfl⟩ [2, 1] rfl rfl rfl rfl (Nat.le_of_ble_eq_true rfl) dX6_back_40 ⟨Nat.le_refl _, Nat.le_refl _⟩) [2, 1, 0, 5] 2 (fun _ => rfl) (fun _ => rfl) (by decide) (by decide) (fun uu H locs hw hX => ?_)
    subst hw
    have hX : XW D A s.heap (W_Mb y hMo a_now a_asd a_pst a_mrf a_txt a_olt a_ofr a_nbs a_best a_wys a_rwx a_shx a_bef (cpR now 0 pst (31 * (msts - 1))) pst (msts - 1) mrf mbyt mord alw bco alm abt mlt beg figm) H locs := hX
    refine xr_aload_n E hl 0 rfl dX6_back_43 rfl ?_
    refine xr_get E hX 0 rfl rfl ly_X6 3 (by decide) fl_X6_58 rfl dX6_back_44 ?_
    exact xr_iret E hX hQ (mrf, (msts - 1), cpR now 0 pst (31 * (msts - 1))) hr ⟨by unfold xqBk; (repeat' split) <;> first | (exfalso; omega) | rfl | (congr 1; omega) | (congr 2; omega), by unfold bkF bkI mBkN; (repeat' split) <;> first | (exfalso; omega) | rfl | (congr 1; omega) | (congr 2; omega)⟩ rfl dX6_back_47
  · have c_4 := c_4
    refine xr_aload_n E hl 0 rfl dX6_back_7 rfl ?_
    refine xr_bipush E dX6_back_8 (by decide) ?_
    refine xk_i (W2 := fun uu => (W_Mb y hMo a_now a_asd a_pst a_mrf a_txt a_olt a_ofr a_nbs a_best a_wys a_rwx a_shx a_bef now pst msts uu mbyt mord alw bco alm abt mlt beg figm)) E hX [0, 3] rfl (xv_V (As := [.int (iI (-3))]) E hX hl (c_X6_refuse l D y z _ hMo a_now a_asd a_pst a_mrf a_txt a_olt a_ofr a_nbs a_best a_wys a_rwx a_shx a_bef msts mrf mbyt mord alw bco alm abt mlt beg figm (-3) (by omega)) ml_X6_54 im_X6_refuse se_X6_refuse in_X6 co_X6_refuse 1 (by decide) ⟨rfl, rfl⟩ ⟨Nat.le_of_ble_eq_true rfl, Nat.le_of_ble_eq_true rfl⟩ [0, 3] rfl rfl 0 rfl rfl rfl rfl rfl (Nat.le_of_ble_eq_true rfl) dX6_back_10 ⟨Nat.le_refl _, Nat.le_refl _⟩) [0, 3, 4, 1] 2 (fun _ => rfl) (fun _ => rfl) (by decide) (by decide) (fun r_10 uu H locs hw hX => ?_)
    obtain ⟨rfl, rfl⟩ := hw
    have hX : XW D A s.heap (W_Mb y hMo a_now a_asd a_pst a_mrf a_txt a_olt a_ofr a_nbs a_best a_wys a_rwx a_shx a_bef now pst msts (rfU mrf (-3)) mbyt mord alw bco alm abt mlt beg figm) H locs := hX
    exact xr_iret E hX hQ (rfU mrf (-3), msts, now) hr ⟨by unfold xqBk; (repeat' split) <;> first | (exfalso; omega) | rfl | (congr 1; omega) | (congr 2; omega), by unfold bkF bkI mBkN; (repeat' split) <;> first | (exfalso; omega) | rfl | (congr 1; omega) | (congr 2; omega)⟩ rfl dX6_back_13
