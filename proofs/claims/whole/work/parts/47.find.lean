/-! the reference: what is found -/
abbrev W_Mfi (y : CY) (hMo a_now a_asd a_pst a_mrf a_txt a_olt a_ofr a_nbs a_best a_wys a_rwx a_shx a_bef : Nat) (now : Int → Int) (msts : Int) (mbyt : Int) (mord : Int) (best : Int → Int) (wys : Int → Int) (rwx : Int → Int) (alw : Int) (bco : Int) (alm : Int) (abt : Int) (mlt : Int) (beg : Int) (figm : Int) : va_W := [(hMo, .inr (6, [.ref a_now, .ref a_asd, .ref a_pst, .int (iI msts), .ref a_mrf, .ref a_txt, .int (iI mbyt), .ref a_olt, .ref a_ofr, .ref a_nbs, .int (iI mord), .ref a_best, .ref a_wys, .ref a_rwx, .int (iI alw), .long (lI bco), .int (iI alm), .int (iI abt), .ref a_shx, .int (iI mlt), .int (iI beg), .int (iI figm), .ref a_bef])), (a_now, .inl (y.1, 31, .inl (ia now))), (a_best, .inl (y.2.1, 13260, .inr (.inl (la best)))), (a_wys, .inl (y.1, 13260, .inl (ia wys))), (a_rwx, .inl (y.1, 12, .inl (ia rwx)))]
abbrev rm_X6_nextBest : Room := { frames := 2, cells := 0, slots := 0, locals := 46 }
set_option maxHeartbeats 4000000 in
set_option maxRecDepth 100000 in
theorem c_X6_nextBest (l : Launch) (D : va_G) (y : CY) (z sz : Nat) (hMo a_now a_asd a_pst a_mrf a_txt a_olt a_ofr a_nbs a_best a_wys a_rwx a_shx a_bef : Nat) (now : Int → Int) (msts : Int) (mbyt : Int) (mord : Int) (best : Int → Int) (wys : Int → Int) (alw : Int) (bco : Int) (alm : Int) (abt : Int) (mlt : Int) (beg : Int) (figm : Int) (t : Int) (d : Int) (su : Int) (n : Nat) (H_M : FM now) (hab : -1 ≤ abt ∧ abt ≤ 2) (hal : -1 ≤ alm ∧ alm ≤ 24) (hm : zM now alm abt = true) (ht : t = n) (hn : t + 1 < now 0) (hd : d = zD now alm abt (n + 1)) (hsu : su = zS now alm abt (n + 1)) (hrow : TRow now alm abt best wys (t + 1)) (hrow0 : TRow now alm abt best wys t) : Met l yX6_nextBest (Cond.code yX6_nextBest cX6_nextBest 6 (some .int) :: TW) rm_X6_nextBest (va_Pc [.ref hMo, .int (iI t), .int (iI d), .int (iI su)] (PX D y z (W_Ml y hMo a_now a_asd a_pst a_mrf a_txt a_olt a_ofr a_nbs a_best a_wys a_rwx a_shx a_bef now msts mbyt mord best wys alw bco alm abt mlt beg figm) sz)) (va_Qi (fun (r : Int32) (uu : Unit) => r = iI (zD now alm abt (n + 2))) (fun uu t => BX D (W_Ml y hMo a_now a_asd a_pst a_mrf a_txt a_olt a_ofr a_nbs a_best a_wys a_rwx a_shx a_bef now msts mbyt mord best wys alw bco alm abt mlt beg figm) (va_A (W_Ml y hMo a_now a_asd a_pst a_mrf a_txt a_olt a_ofr a_nbs a_best a_wys a_rwx a_shx a_bef now msts mbyt mord best wys alw bco alm abt mlt beg figm) sz) t) (va_A (W_Ml y hMo a_now a_asd a_pst a_mrf a_txt a_olt a_ofr a_nbs a_best a_wys a_rwx a_shx a_bef now msts mbyt mord best wys alw bco alm abt mlt beg figm) sz)) 0 0 (va_A (W_Ml y hMo a_now a_asd a_pst a_mrf a_txt a_olt a_ofr a_nbs a_best a_wys a_rwx a_shx a_bef now msts mbyt mord best wys alw bco alm abt mlt beg figm) sz) := by
  refine xm_i (by decide) (Nat.le_of_ble_eq_true rfl) (fun p e s m args below meth cX ls A Q E hr hnm hX hl hQ => ?_)
  have hl : lv_has ls 6 [(0, .ref hMo), (1, .int (iI t)), (2, .int (iI d)), (3, .int (iI su))] := hl
  have hq := H_M.q
  have hfr := H_M.fr
  have hli := H_M.li
  have hsh := H_M.sh
  obtain ⟨hE, hEn, hEe, hEl⟩ := zNb (E := zD now alm abt (n + 2)) H_M hal hm ht hn hd hsu rfl
  have hdb := zD_bd H_M hal hm (n := n + 1) (by omega)
  have hsb := zS_bd H_M hal hm (n := n) (by omega)
  rw [← hd] at hdb
  rw [← hsu] at hsb
  have hsu2 : su = zN now abt t (zS now alm abt n) d := by rw [hsu, zS_s, ← hd, ht]
  have hra0 := TRow_at hrow0 (s := zS now alm abt n) (by omega) (e := d) hdb (by rw [← hsu2]; exact hsb)
  rw [← hsu2] at hra0
  have hpl0 := pl_bd (t := t) (d := d) (s := su) ⟨by omega, by omega⟩ hdb hsb
  have hdd := sq_bd (B := 8) (a := d) (by omega) (by omega)
  have hdn := sq_nn d
  have hzb0 := zR_bd (un := abt) H_M hal (now 0 - 1 - t).toNat t d su (by omega) (by omega)
  refine xr_bipush E dX6_nextBest_0 (by decide) ?_
  refine xr_istore (lv' := [(4, .int (iI (-8))), (0, .ref hMo), (1, .int (iI t)), (2, .int (iI d)), (3, .int (iI su))]) E hl dX6_nextBest_2 (by decide) rfl (fun ls hl => ?_)
  have L_4_1 : ∀ (nmu : Nat) (ev : Int), (zD now alm abt (n + 2) - ev).toNat < nmu → (-8 ≤ ev ∧ ev ≤ zD now alm abt (n + 2)) → ∀ (H : Heap) (locs : List Loc) (ls : Array Slot), XW D A s.heap (W_Ml y hMo a_now a_asd a_pst a_mrf a_txt a_olt a_ofr a_nbs a_best a_wys a_rwx a_shx a_bef now msts mbyt mord best wys alw bco alm abt mlt beg figm) H locs → lv_has ls 6 [(0, .ref hMo), (1, .int (iI t)), (2, .int (iI d)), (3, .int (iI su)), (4, .int (iI ev))] → W p l e rm_X6_nextBest s m args below meth cX H locs 0 0 Q (F0 m 4 ls []) := by
    intro nmu
    induction nmu with
    | zero =>
      intro ev hmu
      exact absurd hmu (Nat.not_lt_zero _)
    | succ nmu ih =>
      intro ev hmu hev H locs ls hX hl
      have ih_4_1 := ih
      clear ih
      have hzb := zR_bd (un := abt) H_M hal (now 0 - 1 - (t + 1)).toNat (t + 1) ev (zN now abt (t + 1) su ev) (by omega) (by omega)
      have hzp := zP_bd H_M (t := t) (d := d) (e := ev) ⟨by omega, by omega⟩ hdb ⟨by omega, by omega⟩
      have hns : sm (zN now abt (t + 1) su ev) := by unfold zN rNu; (repeat' split) <;> (constructor <;> omega)
      have L_102_2 : (ev ≠ zD now alm abt (n + 2)) → ∀ (H : Heap) (locs : List Loc) (ls : Array Slot), XW D A s.heap (W_Ml y hMo a_now a_asd a_pst a_mrf a_txt a_olt a_ofr a_nbs a_best a_wys a_rwx a_shx a_bef now msts mbyt mord best wys alw bco alm abt mlt beg figm) H locs → lv_has ls 6 [(0, .ref hMo), (1, .int (iI t)), (2, .int (iI d)), (3, .int (iI su)), (4, .int (iI ev))] → W p l e rm_X6_nextBest s m args below meth cX H locs 0 0 Q (F0 m 102 ls []) := by
        intro  hne H locs ls hX hl
        refine xr_iinc (k := 4) (lv' := [(4, .int (iI (ev + 1))), (0, .ref hMo), (1, .int (iI t)), (2, .int (iI d)), (3, .int (iI su))]) E hl rfl dX6_nextBest_102 (by decide) rfl (fun ls hl => ?_)
        refine xr_goto (tgt := 4) E dX6_nextBest_105 (by decide) ?_
        exact ih_4_1 (ev + 1) (by omega) (by omega) _ _ _ hX (lv_sub hl [1, 2, 3, 4, 0] rfl)
      refine xr_aload_n E hl 0 rfl dX6_nextBest_4 rfl ?_
      refine xr_iload_n E hl 1 rfl dX6_nextBest_5 rfl ?_
      refine xr_iload_n E hl 3 rfl dX6_nextBest_6 rfl ?_
      refine xr_iload E hl 4 rfl dX6_nextBest_7 ?_
      refine xk_ri E hX [0, 1] rfl (xv_V (As := [.int (iI t), .int (iI su), .int (iI ev)]) E hX hl (c_X6_nextSum l D y z _ hMo a_now a_asd a_pst a_mrf a_txt a_olt a_ofr a_nbs a_best a_wys a_rwx a_shx a_bef now msts mbyt mord alw bco alm abt mlt beg figm t su ev H_M (by omega) (by omega)) ml_X6_164 im_X6_nextSum se_X6_nextSum in_X6 co_X6_nextSum 3 (by decide) ⟨rfl, rfl⟩ ⟨Nat.le_of_ble_eq_true rfl, Nat.le_of_ble_eq_true rfl⟩ [0, 1] rfl rfl 0 rfl rfl rfl rfl rfl (Nat.le_of_ble_eq_true rfl) dX6_nextBest_9 ⟨Nat.le_refl _, Nat.le_refl _⟩) (fun r_9 H locs hw hX => ?_)
      subst hw
      refine xr_istore (lv' := [(5, .int (iI (zN now abt (t + 1) su ev))), (0, .ref hMo), (1, .int (iI t)), (2, .int (iI d)), (3, .int (iI su)), (4, .int (iI ev))]) E hl dX6_nextBest_12 (by decide) rfl (fun ls hl => ?_)
      refine xr_iload E hl 0 rfl dX6_nextBest_14 ?_
      refine xr_i2l E dX6_nextBest_16 ⟨by omega, by omega⟩ ?_
      refine xr_ldc2 (n := -32) E kl_X6_167 dX6_nextBest_17 (by decide) ?_
      refine xr_ldc2 (n := 32) E kl_X6_169 dX6_nextBest_20 (by decide) ?_
      refine xk_ri E hX [] rfl (xv_S (As := [.long (lI (zN now abt (t + 1) su ev)), .long (lI (-32)), .long (lI 32)]) E hX hl (c_X6_in l D y z _ (zN now abt (t + 1) su ev) (-32) 32 ⟨by omega, by omega⟩ ⟨by omega, by omega⟩ ⟨by omega, by omega⟩) ml_X6_62 st_X6_in in_X6 co_X6_in 3 (by decide) ⟨rfl, rfl⟩ ⟨Nat.le_of_ble_eq_true rfl, Nat.le_of_ble_eq_true rfl⟩ [] rfl rfl rfl rfl (Nat.le_of_ble_eq_true rfl) dX6_nextBest_23 ⟨Nat.le_refl _, Nat.le_refl _⟩) (fun r_23 H locs hw hX => ?_)
      subst hw
      refine xr_if_eqB (tgt := 102) E dX6_nextBest_26 (by decide) (fun c_26 => ?_) (fun c_26 => ?_)
      · have c_26 := of_decide_eq_false c_26
        exact L_102_2   (fun hh => by have h9 := hEe; rw [← hh] at h9; have h8 := hEn; rw [← hh] at h8; omega) _ _ _ hX (lv_sub hl [1, 2, 3, 4, 5] rfl)
      · have c_26 := of_decide_eq_true c_26
        have hra := TRow_at hrow (s := su) (by omega) (e := ev) ⟨by omega, by omega⟩ ⟨by omega, by omega⟩
        have hpl := pl_bd (t := t + 1) (d := ev) (s := zN now abt (t + 1) su ev) ⟨by omega, by omega⟩ ⟨by omega, by omega⟩ ⟨by omega, by omega⟩
        refine xr_aload_n E hl 1 rfl dX6_nextBest_29 rfl ?_
        refine xr_get E hX 0 rfl rfl ly_X6 11 (by decide) fl_X6_34 rfl dX6_nextBest_30 ?_
        refine xr_iload_n E hl 2 rfl dX6_nextBest_33 rfl ?_
        refine xr_iconst E dX6_nextBest_34 ?_
        refine xr_iadd E dX6_nextBest_35 ?_
        refine xr_iload E hl 5 rfl dX6_nextBest_36 ?_
        refine xr_iload E hl 0 rfl dX6_nextBest_38 ?_
        refine xk_ri E hX [] rfl (xv_S (As := [.int (iI (t + 1)), .int (iI ev), .int (iI (zN now abt (t + 1) su ev))]) E hX hl (c_X6_place l D y z _ (t + 1) ev (zN now abt (t + 1) su ev)) ml_X6_154 st_X6_place in_X6 co_X6_place 3 (by decide) ⟨rfl, rfl⟩ ⟨Nat.le_of_ble_eq_true rfl, Nat.le_of_ble_eq_true rfl⟩ [] rfl rfl rfl rfl (Nat.le_of_ble_eq_true rfl) dX6_nextBest_40 ⟨Nat.le_refl _, Nat.le_refl _⟩) (fun r_40 H locs hw hX => ?_)
        subst hw
        refine xr_lald E hX 2 rfl (by omega) (by omega) (by decide) dX6_nextBest_43 ?_
        refine xr_ldc2 (n := 1000000000000000) E kl_X6_158 dX6_nextBest_44 (by decide) ?_
        refine xr_lc_ge (tgt := 102) E dX6_nextBest_47 dX6_nextBest_48 (by decide) ⟨by omega, by omega⟩ (by decide) (fun c_47 => ?_) (fun c_47 => ?_)
        · have c_47 := c_47
          exact L_102_2   (fun hh => by have h9 := hEe; rw [← hh] at h9; have h8 := hEn; rw [← hh] at h8; omega) _ _ _ hX (lv_sub hl [1, 2, 3, 4, 5] rfl)
        · have c_47 := c_47
          refine xr_aload_n E hl 1 rfl dX6_nextBest_51 rfl ?_
          refine xr_get E hX 0 rfl rfl ly_X6 11 (by decide) fl_X6_34 rfl dX6_nextBest_52 ?_
          refine xr_iload_n E hl 2 rfl dX6_nextBest_55 rfl ?_
          refine xr_iconst E dX6_nextBest_56 ?_
          refine xr_iadd E dX6_nextBest_57 ?_
          refine xr_iload E hl 5 rfl dX6_nextBest_58 ?_
          refine xr_iload E hl 0 rfl dX6_nextBest_60 ?_
          refine xk_ri E hX [] rfl (xv_S (As := [.int (iI (t + 1)), .int (iI ev), .int (iI (zN now abt (t + 1) su ev))]) E hX hl (c_X6_place l D y z _ (t + 1) ev (zN now abt (t + 1) su ev)) ml_X6_154 st_X6_place in_X6 co_X6_place 3 (by decide) ⟨rfl, rfl⟩ ⟨Nat.le_of_ble_eq_true rfl, Nat.le_of_ble_eq_true rfl⟩ [] rfl rfl rfl rfl (Nat.le_of_ble_eq_true rfl) dX6_nextBest_62 ⟨Nat.le_refl _, Nat.le_refl _⟩) (fun r_62 H locs hw hX => ?_)
          subst hw
          refine xr_lald E hX 2 rfl (by omega) (by omega) (by decide) dX6_nextBest_65 ?_
          refine xr_iload_n E hl 3 rfl dX6_nextBest_66 rfl ?_
          refine xr_iload_n E hl 3 rfl dX6_nextBest_67 rfl ?_
          refine xr_imul E dX6_nextBest_68 ?_
          refine xr_i2l E dX6_nextBest_69 ⟨by omega, by omega⟩ ?_
          refine xr_ladd E dX6_nextBest_70 ?_
          refine xr_ldc2 (n := 1024) E kl_X6_171 dX6_nextBest_71 (by decide) ?_
          refine xr_aload_n E hl 1 rfl dX6_nextBest_74 rfl ?_
          refine xr_iload_n E hl 2 rfl dX6_nextBest_75 rfl ?_
          refine xr_iload_n E hl 3 rfl dX6_nextBest_76 rfl ?_
          refine xr_iload E hl 5 rfl dX6_nextBest_77 ?_
          refine xk_rl E hX [0, 1] rfl (xv_V (As := [.int (iI t), .int (iI d), .int (iI ev)]) E hX hl (c_X6_step l D y z _ hMo a_now a_asd a_pst a_mrf a_txt a_olt a_ofr a_nbs a_best a_wys a_rwx a_shx a_bef now msts mbyt mord alw bco alm abt mlt beg figm t d ev H_M (by omega) (by omega) (by omega)) ml_X6_173 im_X6_step se_X6_step in_X6 co_X6_step 3 (by decide) ⟨rfl, rfl⟩ ⟨Nat.le_of_ble_eq_true rfl, Nat.le_of_ble_eq_true rfl⟩ [0, 1] rfl rfl 0 rfl rfl rfl rfl rfl (Nat.le_of_ble_eq_true rfl) dX6_nextBest_79 ⟨Nat.le_refl _, Nat.le_refl _⟩) (fun r_79 H locs hw hX => ?_)
          subst hw
          refine xr_lmul E dX6_nextBest_82 ?_
          refine xr_ladd E dX6_nextBest_83 ?_
          refine xr_aload_n E hl 1 rfl dX6_nextBest_84 rfl ?_
          refine xr_get E hX 0 rfl rfl ly_X6 11 (by decide) fl_X6_34 rfl dX6_nextBest_85 ?_
          refine xr_iload_n E hl 2 rfl dX6_nextBest_88 rfl ?_
          refine xr_iload_n E hl 3 rfl dX6_nextBest_89 rfl ?_
          refine xr_iload_n E hl 4 rfl dX6_nextBest_90 rfl ?_
          refine xk_ri E hX [] rfl (xv_S (As := [.int (iI t), .int (iI d), .int (iI su)]) E hX hl (c_X6_place l D y z _ t d su) ml_X6_154 st_X6_place in_X6 co_X6_place 3 (by decide) ⟨rfl, rfl⟩ ⟨Nat.le_of_ble_eq_true rfl, Nat.le_of_ble_eq_true rfl⟩ [] rfl rfl rfl rfl (Nat.le_of_ble_eq_true rfl) dX6_nextBest_91 ⟨Nat.le_refl _, Nat.le_refl _⟩) (fun r_91 H locs hw hX => ?_)
          subst hw
          refine xr_lald E hX 2 rfl (by omega) (by omega) (by decide) dX6_nextBest_94 ?_
          refine xr_lc_ne (tgt := 102) E dX6_nextBest_95 dX6_nextBest_96 (by decide) ⟨by omega, by omega⟩ ⟨by omega, by omega⟩ (fun c_95 => ?_) (fun c_95 => ?_)
          · have c_95 := c_95
            exact L_102_2   (fun hh => by have h9 := hEe; rw [← hh] at h9; have h8 := hEn; rw [← hh] at h8; omega) _ _ _ hX (lv_sub hl [1, 2, 3, 4, 5] rfl)
          · have c_95 := c_95
            refine xr_iload E hl 5 rfl dX6_nextBest_99 ?_
            exact xr_iret E hX hQ () hr (by have h9 : ¬ ev < zD now alm abt (n + 2) := fun h => hEl ev (by omega) h (by omega) (by omega); rw [show ev = zD now alm abt (n + 2) by omega]) rfl dX6_nextBest_101
  exact L_4_1 _ (-8) (Nat.lt_succ_self _) (by omega) _ _ _ hX (lv_sub hl [1, 2, 3, 4, 0] rfl)
theorem zT_c {now : Int → Int} {lim un : Int} (h : now 0 = 0) (a b : Nat) : zT now lim un a = zT now lim un b := by
  unfold zT
  rw [if_pos h, if_pos h]
theorem zT_s {now : Int → Int} {lim un : Int} (h : now 0 ≠ 0) {dv : Int} {j : Nat} (hd : dv = -8 + j) : zT now lim un (j + 1) = rT1 (zR now lim un (now 0 - 1).toNat 0 dv (zN now un 0 0 dv)).1 (zR now lim un (now 0 - 1).toNat 0 dv (zN now un 0 0 dv)).2 dv (zT now lim un j) := by
  unfold zT
  rw [if_neg h, if_neg h, rT_s, hd]
abbrev rm_X6_find : Room := { frames := 3, cells := 0, slots := 0, locals := 77 }
set_option maxHeartbeats 4000000 in
set_option maxRecDepth 100000 in
theorem c_X6_find (l : Launch) (D : va_G) (y : CY) (z sz : Nat) (hMo a_now a_asd a_pst a_mrf a_txt a_olt a_ofr a_nbs a_best a_wys a_rwx a_shx a_bef : Nat) (now : Int → Int) (msts : Int) (mbyt : Int) (mord : Int) (best : Int → Int) (wys : Int → Int) (rwx : Int → Int) (alw : Int) (bco : Int) (alm : Int) (abt : Int) (mlt : Int) (beg : Int) (figm : Int) (lim : Int) (un : Int) (H_M : FM now) (hlim : -1 ≤ lim ∧ lim ≤ 24) (hun : -1 ≤ un ∧ un ≤ 2) : Met l yX6_find (Cond.code yX6_find cX6_find 9 (some .boolean) :: TW) rm_X6_find (va_Pc [.ref hMo, .int (iI lim), .int (iI un)] (PX D y z (W_Mfi y hMo a_now a_asd a_pst a_mrf a_txt a_olt a_ofr a_nbs a_best a_wys a_rwx a_shx a_bef now msts mbyt mord best wys rwx alw bco alm abt mlt beg figm) sz)) (va_Qi (fun (r : Int32) (uu : (Int → Int) × (Int → Int) × (Int → Int) × (Int) × (Int) × (Int) × (Int)) => r = bB (zM now lim un) ∧ (zM now lim un = true → uu.2.2.2.2.1 = zB now lim un ∧ uu.2.2.2.1 = zW now lim un ∧ ∀ t : Int, 0 ≤ t → t < now 0 → uu.2.2.1 t = mI now t + zD now lim un (t + 1).toNat)) (fun uu t => BX D (W_Mfi y hMo a_now a_asd a_pst a_mrf a_txt a_olt a_ofr a_nbs a_best a_wys a_rwx a_shx a_bef now msts mbyt mord uu.1 uu.2.1 uu.2.2.1 uu.2.2.2.1 uu.2.2.2.2.1 uu.2.2.2.2.2.1 uu.2.2.2.2.2.2 mlt beg figm) (va_A (W_Mfi y hMo a_now a_asd a_pst a_mrf a_txt a_olt a_ofr a_nbs a_best a_wys a_rwx a_shx a_bef now msts mbyt mord best wys rwx alw bco alm abt mlt beg figm) sz) t) (va_A (W_Mfi y hMo a_now a_asd a_pst a_mrf a_txt a_olt a_ofr a_nbs a_best a_wys a_rwx a_shx a_bef now msts mbyt mord best wys rwx alw bco alm abt mlt beg figm) sz)) 0 0 (va_A (W_Mfi y hMo a_now a_asd a_pst a_mrf a_txt a_olt a_ofr a_nbs a_best a_wys a_rwx a_shx a_bef now msts mbyt mord best wys rwx alw bco alm abt mlt beg figm) sz) := by
  refine xm_i (by decide) (Nat.le_of_ble_eq_true rfl) (fun p e s m args below meth cX ls A Q E hr hnm hX hl hQ => ?_)
  have hl : lv_has ls 9 [(0, .ref hMo), (1, .int (iI lim)), (2, .int (iI un))] := hl
  have hq := H_M.q
  have hfr := H_M.fr
  have hli := H_M.li
  have hsh := H_M.sh
  refine xr_aload_n E hl 0 rfl dX6_find_0 rfl ?_
  refine xr_iload_n E hl 1 rfl dX6_find_1 rfl ?_
  refine xr_put (W1 := (W_Mfi y hMo a_now a_asd a_pst a_mrf a_txt a_olt a_ofr a_nbs a_best a_wys a_rwx a_shx a_bef now msts mbyt mord best wys rwx alw bco lim abt mlt beg figm)) E hX 0 rfl rfl ly_X6 tyX6_ok nmX6 16 (by decide) fl_X6_144 rfl rfl rfl (Nat.le_of_ble_eq_true rfl) rfl dX6_find_2 (fun H locs hX => ?_)
  refine xr_aload_n E hl 0 rfl dX6_find_5 rfl ?_
  refine xr_iload_n E hl 2 rfl dX6_find_6 rfl ?_
  refine xr_put (W1 := (W_Mfi y hMo a_now a_asd a_pst a_mrf a_txt a_olt a_ofr a_nbs a_best a_wys a_rwx a_shx a_bef now msts mbyt mord best wys rwx alw bco lim un mlt beg figm)) E hX 0 rfl rfl ly_X6 tyX6_ok nmX6 17 (by decide) fl_X6_141 rfl rfl rfl (Nat.le_of_ble_eq_true rfl) rfl dX6_find_7 (fun H locs hX => ?_)
  refine xr_aload_n E hl 0 rfl dX6_find_10 rfl ?_
  refine xr_get E hX 0 rfl rfl ly_X6 0 (by decide) fl_X6_7 rfl dX6_find_11 ?_
  refine xr_iconst E dX6_find_14 ?_
  refine xr_iald E hX 1 rfl (by omega) (by omega) (by decide) dX6_find_15 ?_
  refine xr_istore_n (lv' := [(3, .int (iI (now 0))), (0, .ref hMo), (1, .int (iI lim)), (2, .int (iI un))]) E hl dX6_find_16 rfl (by decide) rfl (fun ls hl => ?_)
  refine xr_iload_n E hl 0 rfl dX6_find_17 rfl ?_
  refine xr_iconst E dX6_find_18 ?_
  refine xr_isub E dX6_find_19 ?_
  refine xr_istore (lv' := [(4, .int (iI ((now 0) - 1))), (3, .int (iI (now 0))), (0, .ref hMo), (1, .int (iI lim)), (2, .int (iI un))]) E hl dX6_find_20 (by decide) rfl (fun ls hl => ?_)
  have L_22_1 : ∀ (nmu : Nat) (T : Int) (best1 : Int → Int) (wys1 : Int → Int), (T + 1).toNat < nmu → (-1 ≤ T ∧ T ≤ now 0 - 1) → (TAll now lim un best1 wys1 T (-8) (-32)) → ∀ (H : Heap) (locs : List Loc) (ls : Array Slot), XW D A s.heap (W_Mfi y hMo a_now a_asd a_pst a_mrf a_txt a_olt a_ofr a_nbs a_best a_wys a_rwx a_shx a_bef now msts mbyt mord best1 wys1 rwx alw bco lim un mlt beg figm) H locs → lv_has ls 9 [(0, .ref hMo), (1, .int (iI lim)), (2, .int (iI un)), (3, .int (iI (now 0))), (4, .int (iI T))] → W p l e rm_X6_find s m args below meth cX H locs 0 0 Q (F0 m 22 ls []) := by
    intro nmu
    induction nmu with
    | zero =>
      intro T best1 wys1 hmu
      exact absurd hmu (Nat.not_lt_zero _)
    | succ nmu ih =>
      intro T best1 wys1 hmu hT hA H locs ls hX hl
      have ih_22_1 := ih
      clear ih
      refine xr_iload E hl 4 rfl dX6_find_22 ?_
      refine xr_if_lt (tgt := 91) E dX6_find_24 (by decide) ⟨by omega, by omega⟩ (fun c_24 => ?_) (fun c_24 => ?_)
      · have c_24 := c_24
        have hr0 : ∀ u : Int, 0 ≤ u → TRow now lim un best1 wys1 u := fun u hu => TAll_row hA hu (by omega)
        have L_119_2 : ∀ (alw1 : Int) (bco1 : Int), ((bco1, alw1, (-1 : Int)) = zT now lim un 0) → (0 ≤ bco1 ∧ bco1 ≤ 1000000000000000 ∧ 0 ≤ alw1 ∧ alw1 ≤ 9999) → ∀ (H : Heap) (locs : List Loc) (ls : Array Slot), XW D A s.heap (W_Mfi y hMo a_now a_asd a_pst a_mrf a_txt a_olt a_ofr a_nbs a_best a_wys a_rwx a_shx a_bef now msts mbyt mord best1 wys1 rwx alw1 bco1 lim un mlt beg figm) H locs → lv_has ls 9 [(0, .ref hMo), (3, .int (iI (now 0)))] → W p l e rm_X6_find s m args below meth cX H locs 0 0 Q (F0 m 119 ls []) := by
          intro alw1 bco1 h0 hB0 H locs ls hX hl
          refine xr_iconst E dX6_find_119 ?_
          refine xr_istore (lv' := [(4, .int (iI (-1))), (0, .ref hMo), (3, .int (iI (now 0)))]) E hl dX6_find_120 (by decide) rfl (fun ls hl => ?_)
          refine xr_bipush E dX6_find_122 (by decide) ?_
          refine xr_istore (lv' := [(5, .int (iI (-8))), (4, .int (iI (-1))), (0, .ref hMo), (3, .int (iI (now 0)))]) E hl dX6_find_124 (by decide) rfl (fun ls hl => ?_)
          have L_126_3 : ∀ (nmu : Nat) (j : Nat) (dv : Int) (fst : Int) (alw2 : Int) (bco2 : Int), 17 - j < nmu → (dv = -8 + j ∧ j ≤ 17) → ((bco2, alw2, fst) = zT now lim un j) → (0 ≤ bco2 ∧ bco2 ≤ 1000000000000000 ∧ 0 ≤ alw2 ∧ alw2 ≤ 9999) → ∀ (H : Heap) (locs : List Loc) (ls : Array Slot), XW D A s.heap (W_Mfi y hMo a_now a_asd a_pst a_mrf a_txt a_olt a_ofr a_nbs a_best a_wys a_rwx a_shx a_bef now msts mbyt mord best1 wys1 rwx alw2 bco2 lim un mlt beg figm) H locs → lv_has ls 9 [(0, .ref hMo), (3, .int (iI (now 0))), (4, .int (iI fst)), (5, .int (iI dv))] → W p l e rm_X6_find s m args below meth cX H locs 0 0 Q (F0 m 126 ls []) := by
            intro nmu
            induction nmu with
            | zero =>
              intro j dv fst alw2 bco2 hmu
              exact absurd hmu (Nat.not_lt_zero _)
            | succ nmu ih =>
              intro j dv fst alw2 bco2 hmu hd hS hB H locs ls hX hl
              have ih_126_3 := ih
              clear ih
              have L_275_4 : ((zM now lim un = true → bco2 = zB now lim un ∧ alw2 = zW now lim un ∧ bco2 < 1000000000000000 ∧ (0 < now 0 → fst = zD now lim un 1)) ∧ (zM now lim un = false → bco2 = 1000000000000000)) → ∀ (H : Heap) (locs : List Loc) (ls : Array Slot), XW D A s.heap (W_Mfi y hMo a_now a_asd a_pst a_mrf a_txt a_olt a_ofr a_nbs a_best a_wys a_rwx a_shx a_bef now msts mbyt mord best1 wys1 rwx alw2 bco2 lim un mlt beg figm) H locs → lv_has ls 9 [(0, .ref hMo), (3, .int (iI (now 0))), (4, .int (iI fst))] → W p l e rm_X6_find s m args below meth cX H locs 0 0 Q (F0 m 275 ls []) := by
                intro  hfin H locs ls hX hl
                refine xr_iload E hl 2 rfl dX6_find_275 ?_
                refine xr_istore (lv' := [(5, .int (iI fst)), (0, .ref hMo), (3, .int (iI (now 0))), (4, .int (iI fst))]) E hl dX6_find_277 (by decide) rfl (fun ls hl => ?_)
                have L_299_5 : ∀ (su0 : Int), (zM now lim un = true → 0 < now 0 → su0 = zS now lim un 1) → ∀ (H : Heap) (locs : List Loc) (ls : Array Slot), XW D A s.heap (W_Mfi y hMo a_now a_asd a_pst a_mrf a_txt a_olt a_ofr a_nbs a_best a_wys a_rwx a_shx a_bef now msts mbyt mord best1 wys1 rwx alw2 bco2 lim un mlt beg figm) H locs → lv_has ls 9 [(0, .ref hMo), (3, .int (iI (now 0))), (5, .int (iI fst)), (6, .int (iI su0))] → W p l e rm_X6_find s m args below meth cX H locs 0 0 Q (F0 m 299 ls []) := by
                  intro su0 hsu0 H locs ls hX hl
                  refine xr_iconst E dX6_find_299 ?_
                  refine xr_istore (lv' := [(7, .int (iI 0)), (0, .ref hMo), (3, .int (iI (now 0))), (5, .int (iI fst)), (6, .int (iI su0))]) E hl dX6_find_300 (by decide) rfl (fun ls hl => ?_)
                  have L_302_6 : ∀ (nmu : Nat) (n : Nat) (tv : Int) (dv2 : Int) (su2 : Int) (rwx1 : Int → Int), 12 - n < nmu → (tv = n ∧ tv ≤ now 0) → (zM now lim un = true → tv < now 0 → dv2 = zD now lim un (n + 1) ∧ su2 = zS now lim un (n + 1)) → (zM now lim un = true → ∀ k : Int, 0 ≤ k → k < n → rwx1 k = mI now k + zD now lim un (k + 1).toNat) → ∀ (H : Heap) (locs : List Loc) (ls : Array Slot), XW D A s.heap (W_Mfi y hMo a_now a_asd a_pst a_mrf a_txt a_olt a_ofr a_nbs a_best a_wys a_rwx a_shx a_bef now msts mbyt mord best1 wys1 rwx1 alw2 bco2 lim un mlt beg figm) H locs → lv_has ls 9 [(0, .ref hMo), (3, .int (iI (now 0))), (5, .int (iI dv2)), (6, .int (iI su2)), (7, .int (iI tv))] → W p l e rm_X6_find s m args below meth cX H locs 0 0 Q (F0 m 302 ls []) := by
                    intro nmu
                    induction nmu with
                    | zero =>
                      intro n tv dv2 su2 rwx1 hmu
                      exact absurd hmu (Nat.not_lt_zero _)
                    | succ nmu ih =>
                      intro n tv dv2 su2 rwx1 hmu ht hdv hrw H locs ls hX hl
                      have ih_302_6 := ih
                      clear ih
                      refine xr_iload E hl 4 rfl dX6_find_302 ?_
                      refine xr_iload_n E hl 1 rfl dX6_find_304 rfl ?_
                      refine xr_icmp_ge (tgt := 380) E dX6_find_305 (by decide) ⟨by omega, by omega⟩ ⟨by omega, by omega⟩ (fun c_305 => ?_) (fun c_305 => ?_)
                      · have c_305 := c_305
                        have hmt : bco2 < 1000000000000000 → zM now lim un = true := fun h => eq_true_of_ne_false (fun hh => absurd (hfin.2 hh) (by omega))
                        have hmf : ¬ bco2 < 1000000000000000 → zM now lim un = false := fun h => eq_false_of_ne_true (fun hh => h (hfin.1 hh).2.2.1)
                        refine xr_aload_n E hl 0 rfl dX6_find_380 rfl ?_
                        refine xr_get E hX 0 rfl rfl ly_X6 15 (by decide) fl_X6_181 rfl dX6_find_381 ?_
                        refine xr_ldc2 (n := 1000000000000000) E kl_X6_158 dX6_find_384 (by decide) ?_
                        refine xr_lc_ge (tgt := 395) E dX6_find_387 dX6_find_388 (by decide) ⟨by omega, by omega⟩ (by decide) (fun c_387 => ?_) (fun c_387 => ?_)
                        · have c_387 := c_387
                          refine xr_iconst E dX6_find_395 ?_
                          exact xr_zret E hX hQ (best1, wys1, rwx1, alw2, bco2, lim, un) hr (iI_bB0 (b := false) rfl) (by first | exact ⟨iI_bB1 (hmt (by omega)), fun hm => ⟨(hfin.1 hm).1, (hfin.1 hm).2.1, fun t h0 h1 => hrw hm t h0 (by omega)⟩⟩ | exact ⟨iI_bB0 (hmf (by omega)), fun hm => absurd ((hmf (by omega)).symm.trans hm) (by decide)⟩ | (exfalso; omega)) rfl dX6_find_396
                        · have c_387 := c_387
                          refine xr_iconst E dX6_find_391 ?_
                          refine xr_goto (tgt := 396) E dX6_find_392 (by decide) ?_
                          exact xr_zret E hX hQ (best1, wys1, rwx1, alw2, bco2, lim, un) hr (iI_bB1 (b := true) rfl) (by first | exact ⟨iI_bB1 (hmt (by omega)), fun hm => ⟨(hfin.1 hm).1, (hfin.1 hm).2.1, fun t h0 h1 => hrw hm t h0 (by omega)⟩⟩ | exact ⟨iI_bB0 (hmf (by omega)), fun hm => absurd ((hmf (by omega)).symm.trans hm) (by decide)⟩ | (exfalso; omega)) rfl dX6_find_396
                      · have c_305 := c_305
                        refine xr_aload_n E hl 0 rfl dX6_find_308 rfl ?_
                        refine xr_get E hX 0 rfl rfl ly_X6 15 (by decide) fl_X6_181 rfl dX6_find_309 ?_
                        refine xr_ldc2 (n := 1000000000000000) E kl_X6_158 dX6_find_312 (by decide) ?_
                        refine xr_lc_ge (tgt := 380) E dX6_find_315 dX6_find_316 (by decide) ⟨by omega, by omega⟩ (by decide) (fun c_315 => ?_) (fun c_315 => ?_)
                        · have c_315 := c_315
                          have hmt : bco2 < 1000000000000000 → zM now lim un = true := fun h => eq_true_of_ne_false (fun hh => absurd (hfin.2 hh) (by omega))
                          have hmf : ¬ bco2 < 1000000000000000 → zM now lim un = false := fun h => eq_false_of_ne_true (fun hh => h (hfin.1 hh).2.2.1)
                          refine xr_aload_n E hl 0 rfl dX6_find_380 rfl ?_
                          refine xr_get E hX 0 rfl rfl ly_X6 15 (by decide) fl_X6_181 rfl dX6_find_381 ?_
                          refine xr_ldc2 (n := 1000000000000000) E kl_X6_158 dX6_find_384 (by decide) ?_
                          refine xr_lc_ge (tgt := 395) E dX6_find_387 dX6_find_388 (by decide) ⟨by omega, by omega⟩ (by decide) (fun c_387 => ?_) (fun c_387 => ?_)
                          · have c_387 := c_387
                            refine xr_iconst E dX6_find_395 ?_
                            exact xr_zret E hX hQ (best1, wys1, rwx1, alw2, bco2, lim, un) hr (iI_bB0 (b := false) rfl) (by first | exact ⟨iI_bB1 (hmt (by omega)), fun hm => ⟨(hfin.1 hm).1, (hfin.1 hm).2.1, fun t h0 h1 => hrw hm t h0 (by omega)⟩⟩ | exact ⟨iI_bB0 (hmf (by omega)), fun hm => absurd ((hmf (by omega)).symm.trans hm) (by decide)⟩ | (exfalso; omega)) rfl dX6_find_396
                          · have c_387 := c_387
                            refine xr_iconst E dX6_find_391 ?_
                            refine xr_goto (tgt := 396) E dX6_find_392 (by decide) ?_
                            exact xr_zret E hX hQ (best1, wys1, rwx1, alw2, bco2, lim, un) hr (iI_bB1 (b := true) rfl) (by first | exact ⟨iI_bB1 (hmt (by omega)), fun hm => ⟨(hfin.1 hm).1, (hfin.1 hm).2.1, fun t h0 h1 => hrw hm t h0 (by omega)⟩⟩ | exact ⟨iI_bB0 (hmf (by omega)), fun hm => absurd ((hmf (by omega)).symm.trans hm) (by decide)⟩ | (exfalso; omega)) rfl dX6_find_396
                        · have c_315 := c_315
                          have hm : zM now lim un = true := eq_true_of_ne_false (fun hh => absurd (hfin.2 hh) (by omega))
                          have hdd := hdv hm (by omega)
                          have hdb := zD_bd H_M hlim hm (n := n + 1) (by omega)
                          have hii := H_M.ind (t := tv) (by omega) (by omega)
                          refine xr_aload_n E hl 0 rfl dX6_find_319 rfl ?_
                          refine xr_get E hX 0 rfl rfl ly_X6 13 (by decide) fl_X6_41 rfl dX6_find_320 ?_
                          refine xr_iload E hl 4 rfl dX6_find_323 ?_
                          refine xr_aload_n E hl 0 rfl dX6_find_325 rfl ?_
                          refine xr_get E hX 0 rfl rfl ly_X6 0 (by decide) fl_X6_7 rfl dX6_find_326 ?_
                          refine xr_iconst E dX6_find_329 ?_
                          refine xr_iload E hl 4 rfl dX6_find_330 ?_
                          refine xr_iadd E dX6_find_332 ?_
                          refine xr_iald E hX 1 rfl (by omega) (by omega) (by decide) dX6_find_333 ?_
                          refine xr_iload E hl 2 rfl dX6_find_334 ?_
                          refine xr_iadd E dX6_find_336 ?_
                          refine xr_iast (W1 := (W_Mfi y hMo a_now a_asd a_pst a_mrf a_txt a_olt a_ofr a_nbs a_best a_wys a_rwx a_shx a_bef now msts mbyt mord best1 wys1 (up rwx1 tv ((now (1 + tv)) + dv2)) alw2 bco2 lim un mlt beg figm)) E hX 4 rfl (by omega) (by omega) (by decide) rfl dX6_find_337 (fun H locs hX => ?_)
                          refine xr_iload E hl 4 rfl dX6_find_338 ?_
                          refine xr_iconst E dX6_find_340 ?_
                          refine xr_iadd E dX6_find_341 ?_
                          refine xr_iload_n E hl 1 rfl dX6_find_342 rfl ?_
                          refine xr_icmp_ge (tgt := 374) E dX6_find_343 (by decide) ⟨by omega, by omega⟩ ⟨by omega, by omega⟩ (fun c_343 => ?_) (fun c_343 => ?_)
                          · have c_343 := c_343
                            refine xr_iinc (k := 4) (lv' := [(7, .int (iI (tv + 1))), (0, .ref hMo), (3, .int (iI (now 0))), (5, .int (iI dv2)), (6, .int (iI su2))]) E hl rfl dX6_find_374 (by decide) rfl (fun ls hl => ?_)
                            refine xr_goto (tgt := 302) E dX6_find_377 (by decide) ?_
                            exact ih_302_6 (n + 1) (tv + 1) dv2 su2 (up rwx1 tv ((now (1 + tv)) + dv2)) (by omega) (by omega) (by first | exact (fun _ h => ⟨rfl, by rw [zS_s, ← hdd.2, show ((n + 1 : Nat) : Int) = tv + 1 by omega]⟩) | exact (fun _ h => absurd h (by omega))) (fun hm2 k h0 h1 => by by_cases hk : k = tv; (rw [hk, up_same, hdd.1, show (tv + 1).toNat = n + 1 by omega]; rfl); (rw [up_ne _ _ hk]; exact hrw hm2 k h0 (by omega))) _ _ _ hX (lv_sub hl [1, 2, 3, 4, 0] rfl)
                          · have c_343 := c_343
                            refine xr_aload_n E hl 0 rfl dX6_find_346 rfl ?_
                            refine xr_iload E hl 4 rfl dX6_find_347 ?_
                            refine xr_iload E hl 2 rfl dX6_find_349 ?_
                            refine xr_iload E hl 3 rfl dX6_find_351 ?_
                            refine xk_ri E hX [0, 1, 2, 3] rfl (xv_V (As := [.int (iI tv), .int (iI dv2), .int (iI su2)]) E hX hl (c_X6_nextBest l D y z _ hMo a_now a_asd a_pst a_mrf a_txt a_olt a_ofr a_nbs a_best a_wys a_rwx a_shx a_bef now msts mbyt mord best1 wys1 alw2 bco2 lim un mlt beg figm tv dv2 su2 n H_M (by omega) (by omega) hm ht.1 (by omega) hdd.1 hdd.2 (hr0 _ (by omega)) (hr0 _ (by omega))) ml_X6_188 im_X6_nextBest se_X6_nextBest in_X6 co_X6_nextBest 3 (by decide) ⟨rfl, rfl⟩ ⟨Nat.le_of_ble_eq_true rfl, Nat.le_of_ble_eq_true rfl⟩ [0, 1, 2, 3] rfl rfl 0 rfl rfl rfl rfl rfl (Nat.le_of_ble_eq_true rfl) dX6_find_353 ⟨Nat.le_refl _, Nat.le_refl _⟩) (fun r_353 H locs hw hX => ?_)
                            subst hw
                            refine xr_istore (lv' := [(8, .int (iI (zD now lim un (n + 2)))), (0, .ref hMo), (3, .int (iI (now 0))), (5, .int (iI dv2)), (6, .int (iI su2)), (7, .int (iI tv))]) E hl dX6_find_356 (by decide) rfl (fun ls hl => ?_)
                            refine xr_aload_n E hl 1 rfl dX6_find_358 rfl ?_
                            refine xr_iload E hl 5 rfl dX6_find_359 ?_
                            refine xr_iload E hl 4 rfl dX6_find_361 ?_
                            refine xr_iload E hl 0 rfl dX6_find_363 ?_
                            refine xk_ri E hX [0, 1] rfl (xv_V (As := [.int (iI tv), .int (iI su2), .int (iI (zD now lim un (n + 2)))]) E hX hl (c_X6_nextSum l D y z _ hMo a_now a_asd a_pst a_mrf a_txt a_olt a_ofr a_nbs a_best a_wys a_rwx a_shx a_bef now msts mbyt mord alw2 bco2 lim un mlt beg figm tv su2 (zD now lim un (n + 2)) H_M (by omega) (by omega)) ml_X6_164 im_X6_nextSum se_X6_nextSum in_X6 co_X6_nextSum 3 (by decide) ⟨rfl, rfl⟩ ⟨Nat.le_of_ble_eq_true rfl, Nat.le_of_ble_eq_true rfl⟩ [0, 1] rfl rfl 0 rfl rfl rfl rfl rfl (Nat.le_of_ble_eq_true rfl) dX6_find_365 ⟨Nat.le_refl _, Nat.le_refl _⟩) (fun r_365 H locs hw hX => ?_)
                            subst hw
                            refine xr_istore (lv' := [(6, .int (iI (zN now un (tv + 1) su2 (zD now lim un (n + 2))))), (8, .int (iI (zD now lim un (n + 2)))), (0, .ref hMo), (3, .int (iI (now 0))), (5, .int (iI dv2)), (7, .int (iI tv))]) E hl dX6_find_368 (by decide) rfl (fun ls hl => ?_)
                            refine xr_iload E hl 1 rfl dX6_find_370 ?_
                            refine xr_istore (lv' := [(5, .int (iI (zD now lim un (n + 2)))), (6, .int (iI (zN now un (tv + 1) su2 (zD now lim un (n + 2))))), (8, .int (iI (zD now lim un (n + 2)))), (0, .ref hMo), (3, .int (iI (now 0))), (7, .int (iI tv))]) E hl dX6_find_372 (by decide) rfl (fun ls hl => ?_)
                            refine xr_iinc (k := 5) (lv' := [(7, .int (iI (tv + 1))), (5, .int (iI (zD now lim un (n + 2)))), (6, .int (iI (zN now un (tv + 1) su2 (zD now lim un (n + 2))))), (8, .int (iI (zD now lim un (n + 2)))), (0, .ref hMo), (3, .int (iI (now 0)))]) E hl rfl dX6_find_374 (by decide) rfl (fun ls hl => ?_)
                            refine xr_goto (tgt := 302) E dX6_find_377 (by decide) ?_
                            exact ih_302_6 (n + 1) (tv + 1) (zD now lim un (n + 2)) (zN now un (tv + 1) su2 (zD now lim un (n + 2))) (up rwx1 tv ((now (1 + tv)) + dv2)) (by omega) (by omega) (by first | exact (fun _ h => ⟨rfl, by rw [zS_s, ← hdd.2, show ((n + 1 : Nat) : Int) = tv + 1 by omega]⟩) | exact (fun _ h => absurd h (by omega))) (fun hm2 k h0 h1 => by by_cases hk : k = tv; (rw [hk, up_same, hdd.1, show (tv + 1).toNat = n + 1 by omega]; rfl); (rw [up_ne _ _ hk]; exact hrw hm2 k h0 (by omega))) _ _ _ hX (lv_sub hl [4, 5, 1, 2, 0] rfl)
                  exact L_302_6 _ 0 0 fst su0 rwx (Nat.lt_succ_self _) (by omega) (fun hm h => ⟨(hfin.1 hm).2.2.2 h, hsu0 hm h⟩) (fun _ k h0 h1 => by omega) _ _ _ hX (lv_sub hl [1, 2, 3, 4, 0] rfl)
                refine xr_iload_n E hl 2 rfl dX6_find_279 rfl ?_
                refine xr_if_le (tgt := 296) E dX6_find_280 (by decide) ⟨by omega, by omega⟩ (fun c_280 => ?_) (fun c_280 => ?_)
                · have c_280 := c_280
                  refine xr_iconst E dX6_find_296 ?_
                  refine xr_istore (lv' := [(6, .int (iI 0)), (5, .int (iI fst)), (0, .ref hMo), (3, .int (iI (now 0))), (4, .int (iI fst))]) E hl dX6_find_297 (by decide) rfl (fun ls hl => ?_)
                  exact L_299_5 0  (fun hm h0 => by rw [zS_s]; show _ = zN now un 0 0 _; rw [← (hfin.1 hm).2.2.2 h0]; unfold zN rNu; first | (rw [if_pos c_288, if_pos (by decide)]; done) | (rw [if_neg (by rw [c_288]; decide)]; done) | (exfalso; omega)) _ _ _ hX (lv_sub hl [2, 3, 1, 0] rfl)
                · have c_280 := c_280
                  refine xr_aload_n E hl 1 rfl dX6_find_283 rfl ?_
                  refine xr_iconst E dX6_find_284 ?_
                  refine xk_ri E hX [0, 1] rfl (xv_V (As := [.int (iI 0)]) E hX hl (c_X6_isBound l D y z _ hMo a_now a_asd a_pst a_mrf a_txt a_olt a_ofr a_nbs a_best a_wys a_rwx a_shx a_bef now msts mbyt mord alw2 bco2 lim un mlt beg figm 0 H_M (by omega) (by omega)) ml_X6_151 im_X6_isBound se_X6_isBound in_X6 co_X6_isBound 1 (by decide) ⟨rfl, rfl⟩ ⟨Nat.le_of_ble_eq_true rfl, Nat.le_of_ble_eq_true rfl⟩ [0, 1] rfl rfl 0 rfl rfl rfl rfl rfl (Nat.le_of_ble_eq_true rfl) dX6_find_285 ⟨Nat.le_refl _, Nat.le_refl _⟩) (fun r_285 H locs hw hX => ?_)
                  subst hw
                  refine xr_if_eqB (tgt := 296) E dX6_find_288 (by decide) (fun c_288 => ?_) (fun c_288 => ?_)
                  · have c_288 := c_288
                    refine xr_iconst E dX6_find_296 ?_
                    refine xr_istore (lv' := [(6, .int (iI 0)), (5, .int (iI fst)), (0, .ref hMo), (3, .int (iI (now 0))), (4, .int (iI fst))]) E hl dX6_find_297 (by decide) rfl (fun ls hl => ?_)
                    exact L_299_5 0  (fun hm h0 => by rw [zS_s]; show _ = zN now un 0 0 _; rw [← (hfin.1 hm).2.2.2 h0]; unfold zN rNu; first | (rw [if_pos c_288, if_pos (by decide)]; done) | (rw [if_neg (by rw [c_288]; decide)]; done) | (exfalso; omega)) _ _ _ hX (lv_sub hl [2, 3, 1, 0] rfl)
                  · have c_288 := c_288
                    refine xr_iload E hl 0 rfl dX6_find_291 ?_
                    refine xr_goto (tgt := 297) E dX6_find_293 (by decide) ?_
                    refine xr_istore (lv' := [(6, .int (iI fst)), (5, .int (iI fst)), (0, .ref hMo), (3, .int (iI (now 0))), (4, .int (iI fst))]) E hl dX6_find_297 (by decide) rfl (fun ls hl => ?_)
                    exact L_299_5 fst  (fun hm h0 => by rw [zS_s]; show _ = zN now un 0 0 _; rw [← (hfin.1 hm).2.2.2 h0]; unfold zN rNu; first | (rw [if_pos c_288, if_pos (by decide)]; done) | (rw [if_neg (by rw [c_288]; decide)]; done) | (exfalso; omega)) _ _ _ hX (lv_sub hl [2, 3, 1, 0] rfl)
              refine xr_iload E hl 3 rfl dX6_find_126 ?_
              refine xr_bipush E dX6_find_128 (by decide) ?_
              refine xr_icmp_gt (tgt := 275) E dX6_find_130 (by decide) ⟨by omega, by omega⟩ (by decide) (fun c_130 => ?_) (fun c_130 => ?_)
              · have c_130 := c_130
                exact L_275_4   (zT_end H_M hlim (by first | (rw [show 17 = j by omega]; exact hS) | exact hS.trans (zT_c (by omega) _ _))) _ _ _ hX (lv_sub hl [0, 1, 2] rfl)
              · have c_130 := c_130
                refine xr_iload_n E hl 1 rfl dX6_find_133 rfl ?_
                refine xr_if_le (tgt := 275) E dX6_find_134 (by decide) ⟨by omega, by omega⟩ (fun c_134 => ?_) (fun c_134 => ?_)
                · have c_134 := c_134
                  exact L_275_4   (zT_end H_M hlim (by first | (rw [show 17 = j by omega]; exact hS) | exact hS.trans (zT_c (by omega) _ _))) _ _ _ hX (lv_sub hl [0, 1, 2] rfl)
                · have c_134 := c_134
                  have hz0 := zT_s (now := now) (lim := lim) (un := un) (by omega) hd.1
                  have L_159_7 : ∀ (at0 : Int), (at0 = pl 0 dv (zN now un 0 0 dv)) → ∀ (H : Heap) (locs : List Loc) (ls : Array Slot), XW D A s.heap (W_Mfi y hMo a_now a_asd a_pst a_mrf a_txt a_olt a_ofr a_nbs a_best a_wys a_rwx a_shx a_bef now msts mbyt mord best1 wys1 rwx alw2 bco2 lim un mlt beg figm) H locs → lv_has ls 9 [(0, .ref hMo), (3, .int (iI (now 0))), (4, .int (iI fst)), (5, .int (iI dv)), (6, .int (iI at0))] → W p l e rm_X6_find s m args below meth cX H locs 0 0 Q (F0 m 159 ls []) := by
                    intro at0 hat H locs ls hX hl
                    have hzn : -32 ≤ zN now un 0 0 dv ∧ zN now un 0 0 dv ≤ 32 := by unfold zN rNu; (repeat' split) <;> omega
                    have hra := TRow_at (hr0 0 (by omega)) (s := 0) (by omega) (e := dv) ⟨by omega, by omega⟩ hzn
                    rw [← hat, show now 0 - 1 - 0 = now 0 - 1 by omega] at hra
                    have eb := hra.1
                    have ew := hra.2
                    have hzb := zR_bd (un := un) H_M hlim (now 0 - 1).toNat 0 dv (zN now un 0 0 dv) (by omega) (by omega)
                    have hpl := pl_bd (t := 0) (d := dv) (s := zN now un 0 0 dv) ⟨by omega, by omega⟩ ⟨by omega, by omega⟩ hzn
                    have L_269_8 : ∀ (fst3 : Int) (alw3 : Int) (bco3 : Int), ((bco3, alw3, fst3) = zT now lim un (j + 1)) → (0 ≤ bco3 ∧ bco3 ≤ 1000000000000000 ∧ 0 ≤ alw3 ∧ alw3 ≤ 9999) → ∀ (H : Heap) (locs : List Loc) (ls : Array Slot), XW D A s.heap (W_Mfi y hMo a_now a_asd a_pst a_mrf a_txt a_olt a_ofr a_nbs a_best a_wys a_rwx a_shx a_bef now msts mbyt mord best1 wys1 rwx alw3 bco3 lim un mlt beg figm) H locs → lv_has ls 9 [(0, .ref hMo), (3, .int (iI (now 0))), (4, .int (iI fst3)), (5, .int (iI dv))] → W p l e rm_X6_find s m args below meth cX H locs 0 0 Q (F0 m 269 ls []) := by
                      intro fst3 alw3 bco3 hS3 hB3 H locs ls hX hl
                      refine xr_iinc (k := 3) (lv' := [(5, .int (iI (dv + 1))), (0, .ref hMo), (3, .int (iI (now 0))), (4, .int (iI fst3))]) E hl rfl dX6_find_269 (by decide) rfl (fun ls hl => ?_)
                      refine xr_goto (tgt := 126) E dX6_find_272 (by decide) ?_
                      exact ih_126_3 (j + 1) (dv + 1) fst3 alw3 bco3 (by omega) (by omega) hS3 (by omega) _ _ _ hX (lv_sub hl [1, 2, 3, 0] rfl)
                    refine xr_aload_n E hl 0 rfl dX6_find_159 rfl ?_
                    refine xr_get E hX 0 rfl rfl ly_X6 11 (by decide) fl_X6_34 rfl dX6_find_160 ?_
                    refine xr_iload E hl 4 rfl dX6_find_163 ?_
                    refine xr_lald E hX 2 rfl (by omega) (by omega) (by decide) dX6_find_165 ?_
                    refine xr_aload_n E hl 0 rfl dX6_find_166 rfl ?_
                    refine xr_get E hX 0 rfl rfl ly_X6 15 (by decide) fl_X6_181 rfl dX6_find_167 ?_
                    refine xr_lc_ge (tgt := 203) E dX6_find_170 dX6_find_171 (by decide) ⟨by omega, by omega⟩ ⟨by omega, by omega⟩ (fun c_170 => ?_) (fun c_170 => ?_)
                    · have c_170 := c_170
                      refine xr_aload_n E hl 0 rfl dX6_find_203 rfl ?_
                      refine xr_get E hX 0 rfl rfl ly_X6 11 (by decide) fl_X6_34 rfl dX6_find_204 ?_
                      refine xr_iload E hl 4 rfl dX6_find_207 ?_
                      refine xr_lald E hX 2 rfl (by omega) (by omega) (by decide) dX6_find_209 ?_
                      refine xr_aload_n E hl 0 rfl dX6_find_210 rfl ?_
                      refine xr_get E hX 0 rfl rfl ly_X6 15 (by decide) fl_X6_181 rfl dX6_find_211 ?_
                      refine xr_lc_ne (tgt := 269) E dX6_find_214 dX6_find_215 (by decide) ⟨by omega, by omega⟩ ⟨by omega, by omega⟩ (fun c_214 => ?_) (fun c_214 => ?_)
                      · have c_214 := c_214
                        exact L_269_8 fst alw2 bco2  (by rw [hz0, ← hS, ← eb, ← ew]; unfold rT1 cap9; dsimp only; (repeat' split) <;> first | rfl | (exfalso; omega)) (by omega) _ _ _ hX (lv_sub hl [0, 1, 2, 3] rfl)
                      · have c_214 := c_214
                        refine xr_aload_n E hl 0 rfl dX6_find_218 rfl ?_
                        refine xr_get E hX 0 rfl rfl ly_X6 15 (by decide) fl_X6_181 rfl dX6_find_219 ?_
                        refine xr_ldc2 (n := 1000000000000000) E kl_X6_158 dX6_find_222 (by decide) ?_
                        refine xr_lc_ge (tgt := 269) E dX6_find_225 dX6_find_226 (by decide) ⟨by omega, by omega⟩ (by decide) (fun c_225 => ?_) (fun c_225 => ?_)
                        · have c_225 := c_225
                          exact L_269_8 fst alw2 bco2  (by rw [hz0, ← hS, ← eb, ← ew]; unfold rT1 cap9; dsimp only; (repeat' split) <;> first | rfl | (exfalso; omega)) (by omega) _ _ _ hX (lv_sub hl [0, 1, 2, 3] rfl)
                        · have c_225 := c_225
                          refine xr_aload_n E hl 0 rfl dX6_find_229 rfl ?_
                          refine xr_aload_n E hl 0 rfl dX6_find_230 rfl ?_
                          refine xr_get E hX 0 rfl rfl ly_X6 14 (by decide) fl_X6_185 rfl dX6_find_231 ?_
                          refine xr_aload_n E hl 0 rfl dX6_find_234 rfl ?_
                          refine xr_get E hX 0 rfl rfl ly_X6 12 (by decide) fl_X6_38 rfl dX6_find_235 ?_
                          refine xr_iload E hl 4 rfl dX6_find_238 ?_
                          refine xr_iald E hX 3 rfl (by omega) (by omega) (by decide) dX6_find_240 ?_
                          refine xr_iadd E dX6_find_241 ?_
                          refine xr_sipush E dX6_find_242 (by decide) ?_
                          refine xr_icmp_le (tgt := 254) E dX6_find_245 (by decide) ⟨by omega, by omega⟩ (by decide) (fun c_245 => ?_) (fun c_245 => ?_)
                          · have c_245 := c_245
                            refine xr_aload_n E hl 0 rfl dX6_find_254 rfl ?_
                            refine xr_get E hX 0 rfl rfl ly_X6 14 (by decide) fl_X6_185 rfl dX6_find_255 ?_
                            refine xr_aload_n E hl 0 rfl dX6_find_258 rfl ?_
                            refine xr_get E hX 0 rfl rfl ly_X6 12 (by decide) fl_X6_38 rfl dX6_find_259 ?_
                            refine xr_iload E hl 4 rfl dX6_find_262 ?_
                            refine xr_iald E hX 3 rfl (by omega) (by omega) (by decide) dX6_find_264 ?_
                            refine xr_iadd E dX6_find_265 ?_
                            refine xr_put (W1 := (W_Mfi y hMo a_now a_asd a_pst a_mrf a_txt a_olt a_ofr a_nbs a_best a_wys a_rwx a_shx a_bef now msts mbyt mord best1 wys1 rwx (alw2 + (wys1 at0)) bco2 lim un mlt beg figm)) E hX 0 rfl rfl ly_X6 tyX6_ok nmX6 14 (by decide) fl_X6_185 rfl rfl rfl (Nat.le_of_ble_eq_true rfl) rfl dX6_find_266 (fun H locs hX => ?_)
                            exact L_269_8 fst (alw2 + (wys1 at0)) bco2  (by rw [hz0, ← hS, ← eb, ← ew]; unfold rT1 cap9; dsimp only; (repeat' split) <;> first | rfl | (exfalso; omega)) (by omega) _ _ _ hX (lv_sub hl [0, 1, 2, 3] rfl)
                          · have c_245 := c_245
                            refine xr_sipush E dX6_find_248 (by decide) ?_
                            refine xr_goto (tgt := 266) E dX6_find_251 (by decide) ?_
                            refine xr_put (W1 := (W_Mfi y hMo a_now a_asd a_pst a_mrf a_txt a_olt a_ofr a_nbs a_best a_wys a_rwx a_shx a_bef now msts mbyt mord best1 wys1 rwx 9999 bco2 lim un mlt beg figm)) E hX 0 rfl rfl ly_X6 tyX6_ok nmX6 14 (by decide) fl_X6_185 rfl rfl rfl (Nat.le_of_ble_eq_true rfl) rfl dX6_find_266 (fun H locs hX => ?_)
                            exact L_269_8 fst 9999 bco2  (by rw [hz0, ← hS, ← eb, ← ew]; unfold rT1 cap9; dsimp only; (repeat' split) <;> first | rfl | (exfalso; omega)) (by omega) _ _ _ hX (lv_sub hl [0, 1, 2, 3] rfl)
                    · have c_170 := c_170
                      refine xr_aload_n E hl 0 rfl dX6_find_174 rfl ?_
                      refine xr_aload_n E hl 0 rfl dX6_find_175 rfl ?_
                      refine xr_get E hX 0 rfl rfl ly_X6 11 (by decide) fl_X6_34 rfl dX6_find_176 ?_
                      refine xr_iload E hl 4 rfl dX6_find_179 ?_
                      refine xr_lald E hX 2 rfl (by omega) (by omega) (by decide) dX6_find_181 ?_
                      refine xr_put (W1 := (W_Mfi y hMo a_now a_asd a_pst a_mrf a_txt a_olt a_ofr a_nbs a_best a_wys a_rwx a_shx a_bef now msts mbyt mord best1 wys1 rwx alw2 (best1 at0) lim un mlt beg figm)) E hX 0 rfl rfl ly_X6 tyX6_ok nmX6 15 (by decide) fl_X6_181 rfl rfl rfl (Nat.le_of_ble_eq_true rfl) rfl dX6_find_182 (fun H locs hX => ?_)
                      refine xr_aload_n E hl 0 rfl dX6_find_185 rfl ?_
                      refine xr_aload_n E hl 0 rfl dX6_find_186 rfl ?_
                      refine xr_get E hX 0 rfl rfl ly_X6 12 (by decide) fl_X6_38 rfl dX6_find_187 ?_
                      refine xr_iload E hl 4 rfl dX6_find_190 ?_
                      refine xr_iald E hX 3 rfl (by omega) (by omega) (by decide) dX6_find_192 ?_
                      refine xr_put (W1 := (W_Mfi y hMo a_now a_asd a_pst a_mrf a_txt a_olt a_ofr a_nbs a_best a_wys a_rwx a_shx a_bef now msts mbyt mord best1 wys1 rwx (wys1 at0) (best1 at0) lim un mlt beg figm)) E hX 0 rfl rfl ly_X6 tyX6_ok nmX6 14 (by decide) fl_X6_185 rfl rfl rfl (Nat.le_of_ble_eq_true rfl) rfl dX6_find_193 (fun H locs hX => ?_)
                      refine xr_iload E hl 3 rfl dX6_find_196 ?_
                      refine xr_istore (lv' := [(4, .int (iI dv)), (0, .ref hMo), (3, .int (iI (now 0))), (5, .int (iI dv)), (6, .int (iI at0))]) E hl dX6_find_198 (by decide) rfl (fun ls hl => ?_)
                      refine xr_goto (tgt := 269) E dX6_find_200 (by decide) ?_
                      exact L_269_8 dv (wys1 at0) (best1 at0)  (by rw [hz0, ← hS, ← eb, ← ew]; unfold rT1 cap9; dsimp only; (repeat' split) <;> first | rfl | (exfalso; omega)) (by omega) _ _ _ hX (lv_sub hl [1, 2, 0, 3] rfl)
                  refine xr_iconst E dX6_find_137 ?_
                  refine xr_iload E hl 3 rfl dX6_find_138 ?_
                  refine xr_aload_n E hl 0 rfl dX6_find_140 rfl ?_
                  refine xr_iconst E dX6_find_141 ?_
                  refine xk_ri E hX [0, 1] rfl (xv_V (As := [.int (iI 0)]) E hX hl (c_X6_isBound l D y z _ hMo a_now a_asd a_pst a_mrf a_txt a_olt a_ofr a_nbs a_best a_wys a_rwx a_shx a_bef now msts mbyt mord alw2 bco2 lim un mlt beg figm 0 H_M (by omega) (by omega)) ml_X6_151 im_X6_isBound se_X6_isBound in_X6 co_X6_isBound 1 (by decide) ⟨rfl, rfl⟩ ⟨Nat.le_of_ble_eq_true rfl, Nat.le_of_ble_eq_true rfl⟩ [0, 1] rfl rfl 0 rfl rfl rfl rfl rfl (Nat.le_of_ble_eq_true rfl) dX6_find_142 ⟨Nat.le_refl _, Nat.le_refl _⟩) (fun r_142 H locs hw hX => ?_)
                  subst hw
                  refine xr_if_eqB (tgt := 153) E dX6_find_145 (by decide) (fun c_145 => ?_) (fun c_145 => ?_)
                  · have c_145 := c_145
                    refine xr_iconst E dX6_find_153 ?_
                    refine xk_ri E hX [] rfl (xv_S (As := [.int (iI 0), .int (iI dv), .int (iI 0)]) E hX hl (c_X6_place l D y z _ 0 dv 0) ml_X6_154 st_X6_place in_X6 co_X6_place 3 (by decide) ⟨rfl, rfl⟩ ⟨Nat.le_of_ble_eq_true rfl, Nat.le_of_ble_eq_true rfl⟩ [] rfl rfl rfl rfl (Nat.le_of_ble_eq_true rfl) dX6_find_154 ⟨Nat.le_refl _, Nat.le_refl _⟩) (fun r_154 H locs hw hX => ?_)
                    subst hw
                    refine xr_istore (lv' := [(6, .int (iI (pl 0 dv 0))), (0, .ref hMo), (3, .int (iI (now 0))), (4, .int (iI fst)), (5, .int (iI dv))]) E hl dX6_find_157 (by decide) rfl (fun ls hl => ?_)
                    exact L_159_7 (pl 0 dv 0)  (by unfold zN rNu; first | (rw [if_pos c_145, if_pos (by decide)]; done) | (rw [if_neg (by rw [c_145]; decide)]; done)) _ _ _ hX (lv_sub hl [1, 2, 3, 4, 0] rfl)
                  · have c_145 := c_145
                    refine xr_iload E hl 3 rfl dX6_find_148 ?_
                    refine xr_goto (tgt := 154) E dX6_find_150 (by decide) ?_
                    refine xk_ri E hX [] rfl (xv_S (As := [.int (iI 0), .int (iI dv), .int (iI dv)]) E hX hl (c_X6_place l D y z _ 0 dv dv) ml_X6_154 st_X6_place in_X6 co_X6_place 3 (by decide) ⟨rfl, rfl⟩ ⟨Nat.le_of_ble_eq_true rfl, Nat.le_of_ble_eq_true rfl⟩ [] rfl rfl rfl rfl (Nat.le_of_ble_eq_true rfl) dX6_find_154 ⟨Nat.le_refl _, Nat.le_refl _⟩) (fun r_154 H locs hw hX => ?_)
                    subst hw
                    refine xr_istore (lv' := [(6, .int (iI (pl 0 dv dv))), (0, .ref hMo), (3, .int (iI (now 0))), (4, .int (iI fst)), (5, .int (iI dv))]) E hl dX6_find_157 (by decide) rfl (fun ls hl => ?_)
                    exact L_159_7 (pl 0 dv dv)  (by unfold zN rNu; first | (rw [if_pos c_145, if_pos (by decide)]; done) | (rw [if_neg (by rw [c_145]; decide)]; done)) _ _ _ hX (lv_sub hl [1, 2, 3, 4, 0] rfl)
          exact L_126_3 _ 0 (-8) (-1) alw1 bco1 (Nat.lt_succ_self _) (by omega) h0 (by omega) _ _ _ hX (lv_sub hl [2, 3, 1, 0] rfl)
        refine xr_aload_n E hl 0 rfl dX6_find_91 rfl ?_
        refine xr_iload_n E hl 3 rfl dX6_find_92 rfl ?_
        refine xr_if_ne (tgt := 100) E dX6_find_93 (by decide) ⟨by omega, by omega⟩ (fun c_93 => ?_) (fun c_93 => ?_)
        · have c_93 := c_93
          refine xr_ldc2 (n := 1000000000000000) E kl_X6_158 dX6_find_100 (by decide) ?_
          refine xr_put (W1 := (W_Mfi y hMo a_now a_asd a_pst a_mrf a_txt a_olt a_ofr a_nbs a_best a_wys a_rwx a_shx a_bef now msts mbyt mord best1 wys1 rwx alw 1000000000000000 lim un mlt beg figm)) E hX 0 rfl rfl ly_X6 tyX6_ok nmX6 15 (by decide) fl_X6_181 rfl rfl rfl (Nat.le_of_ble_eq_true rfl) rfl dX6_find_103 (fun H locs hX => ?_)
          refine xr_aload_n E hl 0 rfl dX6_find_106 rfl ?_
          refine xr_iload_n E hl 3 rfl dX6_find_107 rfl ?_
          refine xr_if_ne (tgt := 115) E dX6_find_108 (by decide) ⟨by omega, by omega⟩ (fun c_108 => ?_) (fun c_108 => ?_)
          · have c_108 := c_108
            refine xr_iconst E dX6_find_115 ?_
            refine xr_put (W1 := (W_Mfi y hMo a_now a_asd a_pst a_mrf a_txt a_olt a_ofr a_nbs a_best a_wys a_rwx a_shx a_bef now msts mbyt mord best1 wys1 rwx 0 1000000000000000 lim un mlt beg figm)) E hX 0 rfl rfl ly_X6 tyX6_ok nmX6 14 (by decide) fl_X6_185 rfl rfl rfl (Nat.le_of_ble_eq_true rfl) rfl dX6_find_116 (fun H locs hX => ?_)
            exact L_119_2 0 1000000000000000  (by unfold zT; split <;> first | rfl | (exfalso; omega)) (by omega) _ _ _ hX (lv_sub hl [0, 3] rfl)
          · have c_108 := c_108
            refine xr_iconst E dX6_find_111 ?_
            refine xr_goto (tgt := 116) E dX6_find_112 (by decide) ?_
            refine xr_put (W1 := (W_Mfi y hMo a_now a_asd a_pst a_mrf a_txt a_olt a_ofr a_nbs a_best a_wys a_rwx a_shx a_bef now msts mbyt mord best1 wys1 rwx 1 1000000000000000 lim un mlt beg figm)) E hX 0 rfl rfl ly_X6 tyX6_ok nmX6 14 (by decide) fl_X6_185 rfl rfl rfl (Nat.le_of_ble_eq_true rfl) rfl dX6_find_116 (fun H locs hX => ?_)
            exact L_119_2 1 1000000000000000  (by unfold zT; split <;> first | rfl | (exfalso; omega)) (by omega) _ _ _ hX (lv_sub hl [0, 3] rfl)
        · have c_93 := c_93
          refine xr_lconst (v := 0) E dX6_find_96 (by decide) ?_
          refine xr_goto (tgt := 103) E dX6_find_97 (by decide) ?_
          refine xr_put (W1 := (W_Mfi y hMo a_now a_asd a_pst a_mrf a_txt a_olt a_ofr a_nbs a_best a_wys a_rwx a_shx a_bef now msts mbyt mord best1 wys1 rwx alw 0 lim un mlt beg figm)) E hX 0 rfl rfl ly_X6 tyX6_ok nmX6 15 (by decide) fl_X6_181 rfl rfl rfl (Nat.le_of_ble_eq_true rfl) rfl dX6_find_103 (fun H locs hX => ?_)
          refine xr_aload_n E hl 0 rfl dX6_find_106 rfl ?_
          refine xr_iload_n E hl 3 rfl dX6_find_107 rfl ?_
          refine xr_if_ne (tgt := 115) E dX6_find_108 (by decide) ⟨by omega, by omega⟩ (fun c_108 => ?_) (fun c_108 => ?_)
          · have c_108 := c_108
            refine xr_iconst E dX6_find_115 ?_
            refine xr_put (W1 := (W_Mfi y hMo a_now a_asd a_pst a_mrf a_txt a_olt a_ofr a_nbs a_best a_wys a_rwx a_shx a_bef now msts mbyt mord best1 wys1 rwx 0 0 lim un mlt beg figm)) E hX 0 rfl rfl ly_X6 tyX6_ok nmX6 14 (by decide) fl_X6_185 rfl rfl rfl (Nat.le_of_ble_eq_true rfl) rfl dX6_find_116 (fun H locs hX => ?_)
            exact L_119_2 0 0  (by unfold zT; split <;> first | rfl | (exfalso; omega)) (by omega) _ _ _ hX (lv_sub hl [0, 3] rfl)
          · have c_108 := c_108
            refine xr_iconst E dX6_find_111 ?_
            refine xr_goto (tgt := 116) E dX6_find_112 (by decide) ?_
            refine xr_put (W1 := (W_Mfi y hMo a_now a_asd a_pst a_mrf a_txt a_olt a_ofr a_nbs a_best a_wys a_rwx a_shx a_bef now msts mbyt mord best1 wys1 rwx 1 0 lim un mlt beg figm)) E hX 0 rfl rfl ly_X6 tyX6_ok nmX6 14 (by decide) fl_X6_185 rfl rfl rfl (Nat.le_of_ble_eq_true rfl) rfl dX6_find_116 (fun H locs hX => ?_)
            exact L_119_2 1 0  (by unfold zT; split <;> first | rfl | (exfalso; omega)) (by omega) _ _ _ hX (lv_sub hl [0, 3] rfl)
      · have c_24 := c_24
        refine xr_bipush E dX6_find_27 (by decide) ?_
        refine xr_istore (lv' := [(5, .int (iI (-8))), (0, .ref hMo), (1, .int (iI lim)), (2, .int (iI un)), (3, .int (iI (now 0))), (4, .int (iI T))]) E hl dX6_find_29 (by decide) rfl (fun ls hl => ?_)
        have L_31_9 : ∀ (nmu : Nat) (dv : Int) (best2 : Int → Int) (wys2 : Int → Int), (9 - dv).toNat < nmu → (-8 ≤ dv ∧ dv ≤ 9) → (TAll now lim un best2 wys2 T dv (-32)) → ∀ (H : Heap) (locs : List Loc) (ls : Array Slot), XW D A s.heap (W_Mfi y hMo a_now a_asd a_pst a_mrf a_txt a_olt a_ofr a_nbs a_best a_wys a_rwx a_shx a_bef now msts mbyt mord best2 wys2 rwx alw bco lim un mlt beg figm) H locs → lv_has ls 9 [(0, .ref hMo), (1, .int (iI lim)), (2, .int (iI un)), (3, .int (iI (now 0))), (4, .int (iI T)), (5, .int (iI dv))] → W p l e rm_X6_find s m args below meth cX H locs 0 0 Q (F0 m 31 ls []) := by
          intro nmu
          induction nmu with
          | zero =>
            intro dv best2 wys2 hmu
            exact absurd hmu (Nat.not_lt_zero _)
          | succ nmu ih =>
            intro dv best2 wys2 hmu hdv0 hA2 H locs ls hX hl
            have ih_31_9 := ih
            clear ih
            refine xr_iload E hl 5 rfl dX6_find_31 ?_
            refine xr_bipush E dX6_find_33 (by decide) ?_
            refine xr_icmp_gt (tgt := 85) E dX6_find_35 (by decide) ⟨by omega, by omega⟩ (by decide) (fun c_35 => ?_) (fun c_35 => ?_)
            · have c_35 := c_35
              refine xr_iinc (k := 4) (lv' := [(4, .int (iI (T + (-1)))), (0, .ref hMo), (1, .int (iI lim)), (2, .int (iI un)), (3, .int (iI (now 0))), (5, .int (iI dv))]) E hl rfl dX6_find_85 (by decide) rfl (fun ls hl => ?_)
              refine xr_goto (tgt := 22) E dX6_find_88 (by decide) ?_
              exact ih_22_1 (T + (-1)) best2 wys2 (by omega) (by omega) (TAll_nextT hA2 (by omega)) _ _ _ hX (lv_sub hl [1, 2, 3, 4, 0] rfl)
            · have c_35 := c_35
              refine xr_bipush E dX6_find_38 (by decide) ?_
              refine xr_istore (lv' := [(6, .int (iI (-32))), (0, .ref hMo), (1, .int (iI lim)), (2, .int (iI un)), (3, .int (iI (now 0))), (4, .int (iI T)), (5, .int (iI dv))]) E hl dX6_find_40 (by decide) rfl (fun ls hl => ?_)
              have L_42_10 : ∀ (nmu : Nat) (sv : Int) (best3 : Int → Int) (wys3 : Int → Int), (33 - sv).toNat < nmu → (-32 ≤ sv ∧ sv ≤ 33) → (TAll now lim un best3 wys3 T dv sv) → ∀ (H : Heap) (locs : List Loc) (ls : Array Slot), XW D A s.heap (W_Mfi y hMo a_now a_asd a_pst a_mrf a_txt a_olt a_ofr a_nbs a_best a_wys a_rwx a_shx a_bef now msts mbyt mord best3 wys3 rwx alw bco lim un mlt beg figm) H locs → lv_has ls 9 [(0, .ref hMo), (1, .int (iI lim)), (2, .int (iI un)), (3, .int (iI (now 0))), (4, .int (iI T)), (5, .int (iI dv)), (6, .int (iI sv))] → W p l e rm_X6_find s m args below meth cX H locs 0 0 Q (F0 m 42 ls []) := by
                intro nmu
                induction nmu with
                | zero =>
                  intro sv best3 wys3 hmu
                  exact absurd hmu (Nat.not_lt_zero _)
                | succ nmu ih =>
                  intro sv best3 wys3 hmu hsv hA3 H locs ls hX hl
                  have ih_42_10 := ih
                  clear ih
                  refine xr_iload E hl 6 rfl dX6_find_42 ?_
                  refine xr_bipush E dX6_find_44 (by decide) ?_
                  refine xr_icmp_gt (tgt := 79) E dX6_find_46 (by decide) ⟨by omega, by omega⟩ (by decide) (fun c_46 => ?_) (fun c_46 => ?_)
                  · have c_46 := c_46
                    refine xr_iinc (k := 5) (lv' := [(5, .int (iI (dv + 1))), (0, .ref hMo), (1, .int (iI lim)), (2, .int (iI un)), (3, .int (iI (now 0))), (4, .int (iI T)), (6, .int (iI sv))]) E hl rfl dX6_find_79 (by decide) rfl (fun ls hl => ?_)
                    refine xr_goto (tgt := 31) E dX6_find_82 (by decide) ?_
                    exact ih_31_9 (dv + 1) best3 wys3 (by omega) (by omega) (TAll_nextD hA3 (by omega)) _ _ _ hX (lv_sub hl [1, 2, 3, 4, 5, 0] rfl)
                  · have c_46 := c_46
                    refine xr_aload_n E hl 0 rfl dX6_find_49 rfl ?_
                    refine xr_iload E hl 4 rfl dX6_find_50 ?_
                    refine xk_ri E hX [0, 1] rfl (xv_V (As := [.int (iI T)]) E hX hl (c_X6_isBound l D y z _ hMo a_now a_asd a_pst a_mrf a_txt a_olt a_ofr a_nbs a_best a_wys a_rwx a_shx a_bef now msts mbyt mord alw bco lim un mlt beg figm T H_M (by omega) (by omega)) ml_X6_151 im_X6_isBound se_X6_isBound in_X6 co_X6_isBound 1 (by decide) ⟨rfl, rfl⟩ ⟨Nat.le_of_ble_eq_true rfl, Nat.le_of_ble_eq_true rfl⟩ [0, 1] rfl rfl 0 rfl rfl rfl rfl rfl (Nat.le_of_ble_eq_true rfl) dX6_find_52 ⟨Nat.le_refl _, Nat.le_refl _⟩) (fun r_52 H locs hw hX => ?_)
                    subst hw
                    refine xr_if_neB (tgt := 63) E dX6_find_55 (by decide) (fun c_55 => ?_) (fun c_55 => ?_)
                    · have c_55 := c_55
                      refine xr_aload_n E hl 0 rfl dX6_find_63 rfl ?_
                      refine xr_iload E hl 4 rfl dX6_find_64 ?_
                      refine xr_iload E hl 5 rfl dX6_find_66 ?_
                      refine xr_iload E hl 6 rfl dX6_find_68 ?_
                      refine xk_v (W2 := fun uu => (W_Mfi y hMo a_now a_asd a_pst a_mrf a_txt a_olt a_ofr a_nbs a_best a_wys a_rwx a_shx a_bef now msts mbyt mord uu.1 uu.2 rwx alw bco lim un mlt beg figm)) E hX [0, 1, 2, 3] rfl (xv_V (As := [.int (iI T), .int (iI dv), .int (iI sv)]) E hX hl (c_X6_lay l D y z _ hMo a_now a_asd a_pst a_mrf a_txt a_olt a_ofr a_nbs a_best a_wys a_rwx a_shx a_bef now msts mbyt mord best3 wys3 alw bco lim un mlt beg figm T dv sv H_M (by omega) (by omega) (by omega) (by omega) (by omega) (TAll_row hA3 (by omega) (by omega))) ml_X6_177 im_X6_lay se_X6_lay in_X6 co_X6_lay 3 (by decide) ⟨rfl, rfl⟩ ⟨Nat.le_of_ble_eq_true rfl, Nat.le_of_ble_eq_true rfl⟩ [0, 1, 2, 3] rfl rfl 0 rfl rfl rfl rfl rfl (Nat.le_of_ble_eq_true rfl) dX6_find_70 ⟨Nat.le_refl _, Nat.le_refl _⟩) [0, 1, 2, 3, 8] 4 (fun _ => rfl) (fun _ => rfl) (by decide) (by decide) (fun uu H locs hw hX => ?_)
                      subst hw
                      have hX : XW D A s.heap (W_Mfi y hMo a_now a_asd a_pst a_mrf a_txt a_olt a_ofr a_nbs a_best a_wys a_rwx a_shx a_bef now msts mbyt mord (up best3 (pl T dv sv) (zR now lim un (now 0 - 1 - T).toNat T dv sv).1) (up wys3 (pl T dv sv) (zR now lim un (now 0 - 1 - T).toNat T dv sv).2) rwx alw bco lim un mlt beg figm) H locs := hX
                      refine xr_iinc (k := 6) (lv' := [(6, .int (iI (sv + 1))), (0, .ref hMo), (1, .int (iI lim)), (2, .int (iI un)), (3, .int (iI (now 0))), (4, .int (iI T)), (5, .int (iI dv))]) E hl rfl dX6_find_73 (by decide) rfl (fun ls hl => ?_)
                      refine xr_goto (tgt := 42) E dX6_find_76 (by decide) ?_
                      exact ih_42_10 (sv + 1) (up best3 (pl T dv sv) (zR now lim un (now 0 - 1 - T).toNat T dv sv).1) (up wys3 (pl T dv sv) (zR now lim un (now 0 - 1 - T).toNat T dv sv).2) (by omega) (by omega) (by first | exact TAll_lay hA3 (by omega) ⟨by omega, by omega⟩ ⟨by omega, by omega⟩ | exact TAll_skip hA3 c_55 c_60) _ _ _ hX (lv_sub hl [1, 2, 3, 4, 5, 6, 0] rfl)
                    · have c_55 := c_55
                      refine xr_iload E hl 6 rfl dX6_find_58 ?_
                      refine xr_if_ne (tgt := 73) E dX6_find_60 (by decide) ⟨by omega, by omega⟩ (fun c_60 => ?_) (fun c_60 => ?_)
                      · have c_60 := c_60
                        refine xr_iinc (k := 6) (lv' := [(6, .int (iI (sv + 1))), (0, .ref hMo), (1, .int (iI lim)), (2, .int (iI un)), (3, .int (iI (now 0))), (4, .int (iI T)), (5, .int (iI dv))]) E hl rfl dX6_find_73 (by decide) rfl (fun ls hl => ?_)
                        refine xr_goto (tgt := 42) E dX6_find_76 (by decide) ?_
                        exact ih_42_10 (sv + 1) best3 wys3 (by omega) (by omega) (by first | exact TAll_lay hA3 (by omega) ⟨by omega, by omega⟩ ⟨by omega, by omega⟩ | exact TAll_skip hA3 c_55 c_60) _ _ _ hX (lv_sub hl [1, 2, 3, 4, 5, 6, 0] rfl)
                      · have c_60 := c_60
                        refine xr_aload_n E hl 0 rfl dX6_find_63 rfl ?_
                        refine xr_iload E hl 4 rfl dX6_find_64 ?_
                        refine xr_iload E hl 5 rfl dX6_find_66 ?_
                        refine xr_iload E hl 6 rfl dX6_find_68 ?_
                        refine xk_v (W2 := fun uu => (W_Mfi y hMo a_now a_asd a_pst a_mrf a_txt a_olt a_ofr a_nbs a_best a_wys a_rwx a_shx a_bef now msts mbyt mord uu.1 uu.2 rwx alw bco lim un mlt beg figm)) E hX [0, 1, 2, 3] rfl (xv_V (As := [.int (iI T), .int (iI dv), .int (iI sv)]) E hX hl (c_X6_lay l D y z _ hMo a_now a_asd a_pst a_mrf a_txt a_olt a_ofr a_nbs a_best a_wys a_rwx a_shx a_bef now msts mbyt mord best3 wys3 alw bco lim un mlt beg figm T dv sv H_M (by omega) (by omega) (by omega) (by omega) (by omega) (TAll_row hA3 (by omega) (by omega))) ml_X6_177 im_X6_lay se_X6_lay in_X6 co_X6_lay 3 (by decide) ⟨rfl, rfl⟩ ⟨Nat.le_of_ble_eq_true rfl, Nat.le_of_ble_eq_true rfl⟩ [0, 1, 2, 3] rfl rfl 0 rfl rfl rfl rfl rfl (Nat.le_of_ble_eq_true rfl) dX6_find_70 ⟨Nat.le_refl _, Nat.le_refl _⟩) [0, 1, 2, 3, 8] 4 (fun _ => rfl) (fun _ => rfl) (by decide) (by decide) (fun uu H locs hw hX => ?_)
                        subst hw
                        have hX : XW D A s.heap (W_Mfi y hMo a_now a_asd a_pst a_mrf a_txt a_olt a_ofr a_nbs a_best a_wys a_rwx a_shx a_bef now msts mbyt mord (up best3 (pl T dv sv) (zR now lim un (now 0 - 1 - T).toNat T dv sv).1) (up wys3 (pl T dv sv) (zR now lim un (now 0 - 1 - T).toNat T dv sv).2) rwx alw bco lim un mlt beg figm) H locs := hX
                        refine xr_iinc (k := 6) (lv' := [(6, .int (iI (sv + 1))), (0, .ref hMo), (1, .int (iI lim)), (2, .int (iI un)), (3, .int (iI (now 0))), (4, .int (iI T)), (5, .int (iI dv))]) E hl rfl dX6_find_73 (by decide) rfl (fun ls hl => ?_)
                        refine xr_goto (tgt := 42) E dX6_find_76 (by decide) ?_
                        exact ih_42_10 (sv + 1) (up best3 (pl T dv sv) (zR now lim un (now 0 - 1 - T).toNat T dv sv).1) (up wys3 (pl T dv sv) (zR now lim un (now 0 - 1 - T).toNat T dv sv).2) (by omega) (by omega) (by first | exact TAll_lay hA3 (by omega) ⟨by omega, by omega⟩ ⟨by omega, by omega⟩ | exact TAll_skip hA3 c_55 c_60) _ _ _ hX (lv_sub hl [1, 2, 3, 4, 5, 6, 0] rfl)
              exact L_42_10 _ (-32) best2 wys2 (Nat.lt_succ_self _) (by omega) hA2 _ _ _ hX (lv_sub hl [1, 2, 3, 4, 5, 6, 0] rfl)
        exact L_31_9 _ (-8) best1 wys1 (Nat.lt_succ_self _) (by omega) hA _ _ _ hX (lv_sub hl [1, 2, 3, 4, 5, 0] rfl)
  exact L_22_1 _ ((now 0) - 1) best wys (Nat.lt_succ_self _) (by omega) TAll_0 _ _ _ hX (lv_sub hl [2, 3, 4, 1, 0] rfl)
abbrev rm_X6_bend : Room := { frames := 4, cells := 0, slots := 0, locals := 105 }
set_option maxHeartbeats 4000000 in
set_option maxRecDepth 100000 in
theorem c_X6_bend (l : Launch) (D : va_G) (y : CY) (z sz : Nat) (hMo a_now a_asd a_pst a_mrf a_txt a_olt a_ofr a_nbs a_best a_wys a_rwx a_shx a_bef : Nat) (now : Int → Int) (msts : Int) (mbyt : Int) (mord : Int) (best : Int → Int) (wys : Int → Int) (rwx : Int → Int) (alw : Int) (bco : Int) (alm : Int) (abt : Int) (mlt : Int) (beg : Int) (figm : Int) (H_M : FM now) : Met l yX6_bend (Cond.code yX6_bend cX6_bend 1 (some .boolean) :: TW) rm_X6_bend (va_Pc [.ref hMo] (PX D y z (W_Mfi y hMo a_now a_asd a_pst a_mrf a_txt a_olt a_ofr a_nbs a_best a_wys a_rwx a_shx a_bef now msts mbyt mord best wys rwx alw bco alm abt mlt beg figm) sz)) (va_Qi (fun (r : Int32) (uu : (Int → Int) × (Int → Int) × (Int → Int) × (Int) × (Int) × (Int) × (Int)) => r = bB (xMt (mI now) (mT now) (mP now) (now 0) (now 28) (now 29) (-1)) ∧ (xMt (mI now) (mT now) (mP now) (now 0) (now 28) (now 29) (-1) = true → uu.2.2.2.2.1 = xBest (mI now) (mT now) (mP now) (now 0) (now 28) (now 29) (-1) (now 30) ∧ uu.2.2.2.1 = xWays (mI now) (mT now) (mP now) (now 0) (now 28) (now 29) (now 30) ∧ ∀ t : Int, 0 ≤ t → t < now 0 → uu.2.2.1 t = xRow (mI now) (mT now) (mP now) (now 0) (now 28) (now 29) (now 30) t)) (fun uu t => BX D (W_Mfi y hMo a_now a_asd a_pst a_mrf a_txt a_olt a_ofr a_nbs a_best a_wys a_rwx a_shx a_bef now msts mbyt mord uu.1 uu.2.1 uu.2.2.1 uu.2.2.2.1 uu.2.2.2.2.1 uu.2.2.2.2.2.1 uu.2.2.2.2.2.2 mlt beg figm) (va_A (W_Mfi y hMo a_now a_asd a_pst a_mrf a_txt a_olt a_ofr a_nbs a_best a_wys a_rwx a_shx a_bef now msts mbyt mord best wys rwx alw bco alm abt mlt beg figm) sz) t) (va_A (W_Mfi y hMo a_now a_asd a_pst a_mrf a_txt a_olt a_ofr a_nbs a_best a_wys a_rwx a_shx a_bef now msts mbyt mord best wys rwx alw bco alm abt mlt beg figm) sz)) 0 0 (va_A (W_Mfi y hMo a_now a_asd a_pst a_mrf a_txt a_olt a_ofr a_nbs a_best a_wys a_rwx a_shx a_bef now msts mbyt mord best wys rwx alw bco alm abt mlt beg figm) sz) := by
  refine xm_i (by decide) (Nat.le_of_ble_eq_true rfl) (fun p e s m args below meth cX ls A Q E hr hnm hX hl hQ => ?_)
  have hl : lv_has ls 1 [(0, .ref hMo)] := hl
  have hq := H_M.q
  have hfr := H_M.fr
  have hli := H_M.li
  have hsh := H_M.sh
  refine xr_aload_n E hl 0 rfl dX6_bend_0 rfl ?_
  refine xr_aload_n E hl 0 rfl dX6_bend_1 rfl ?_
  refine xr_get E hX 0 rfl rfl ly_X6 0 (by decide) fl_X6_7 rfl dX6_bend_2 ?_
  refine xr_bipush E dX6_bend_5 (by decide) ?_
  refine xr_iald E hX 1 rfl (by omega) (by omega) (by decide) dX6_bend_7 ?_
  refine xr_iconst E dX6_bend_8 ?_
  refine xk_i (W2 := fun uu => (W_Mfi y hMo a_now a_asd a_pst a_mrf a_txt a_olt a_ofr a_nbs a_best a_wys a_rwx a_shx a_bef now msts mbyt mord uu.1 uu.2.1 uu.2.2.1 uu.2.2.2.1 uu.2.2.2.2.1 uu.2.2.2.2.2.1 uu.2.2.2.2.2.2 mlt beg figm)) E hX [0, 1, 2, 3, 4] rfl (xv_V (As := [.int (iI (now 29)), .int (iI (-1))]) E hX hl (c_X6_find l D y z _ hMo a_now a_asd a_pst a_mrf a_txt a_olt a_ofr a_nbs a_best a_wys a_rwx a_shx a_bef now msts mbyt mord best wys rwx alw bco alm abt mlt beg figm (now 29) (-1) H_M (by omega) (by omega)) ml_X6_191 im_X6_find se_X6_find in_X6 co_X6_find 2 (by decide) ⟨rfl, rfl⟩ ⟨Nat.le_of_ble_eq_true rfl, Nat.le_of_ble_eq_true rfl⟩ [0, 1, 2, 3, 4] rfl rfl 0 rfl rfl rfl rfl rfl (Nat.le_of_ble_eq_true rfl) dX6_bend_9 ⟨Nat.le_refl _, Nat.le_refl _⟩) [0, 1, 2, 3, 4] 5 (fun _ => rfl) (fun _ => rfl) (by decide) (by decide) (fun r_9 uu H locs hw hX => ?_)
  obtain ⟨best_9, wys_9, rwx_9, alw_9, bco_9, alm_9, abt_9⟩ := uu
  have hX : XW D A s.heap (W_Mfi y hMo a_now a_asd a_pst a_mrf a_txt a_olt a_ofr a_nbs a_best a_wys a_rwx a_shx a_bef now msts mbyt mord best_9 wys_9 rwx_9 alw_9 bco_9 alm_9 abt_9 mlt beg figm) H locs := hX
  try dsimp only at hw
  obtain ⟨rfl, hp_9⟩ := hw
  exact xr_zret E hX hQ (best_9, wys_9, rwx_9, alw_9, bco_9, alm_9, abt_9) hr rfl ⟨rfl, hp_9⟩ rfl dX6_bend_12
