/-! Text: reading it whole -/
abbrev rm_X4_reads : Room := { frames := 3, cells := 0, slots := 0, locals := 63 }
set_option maxHeartbeats 4000000 in
set_option maxRecDepth 100000 in
theorem c_X4_reads (l : Launch) (D : va_G) (y : CY) (z sz : Nat) (hT a_byt a_ltr a_fir a_sec : Nat) (byt : Int → Int) (len : Int) (ltr : Int → Int) (fir : Int → Int) (sec : Int → Int) (ord : Int) (opn : Bool) (num : Int) (fig : Int) (hl0 : 0 ≤ len ∧ len ≤ 120) (hby : ∀ k : Int, 0 ≤ k → k < 120 → 0 ≤ byt k ∧ byt k ≤ 127) (H_T : TJ ltr fir sec ord num fig) : Met l yX4_reads (Cond.code yX4_reads cX4_reads 2 (some .int) :: TW) rm_X4_reads (va_Pc [.ref hT] (PX D y z (W_T y hT a_byt a_ltr a_fir a_sec byt len ltr fir sec ord opn num fig) sz)) (va_Qi (fun (r : Int32) (uu : (Int → Int) × (Int → Int) × (Int → Int) × (Int) × (Bool) × (Int) × (Int)) => r = iI (xFault byt len (ltr, fir, sec, 0, false, num, fig)) ∧ (xFault byt len (ltr, fir, sec, 0, false, num, fig) = -1 → (uu.1, uu.2.1, uu.2.2.1, uu.2.2.2.1, uu.2.2.2.2.1, uu.2.2.2.2.2.1, uu.2.2.2.2.2.2) = pSt byt (ltr, fir, sec, 0, false, num, fig) len.toNat) ∧ TJ uu.1 uu.2.1 uu.2.2.1 uu.2.2.2.1 uu.2.2.2.2.2.1 uu.2.2.2.2.2.2) (fun uu t => BX D (W_T y hT a_byt a_ltr a_fir a_sec byt len uu.1 uu.2.1 uu.2.2.1 uu.2.2.2.1 uu.2.2.2.2.1 uu.2.2.2.2.2.1 uu.2.2.2.2.2.2) (va_A (W_T y hT a_byt a_ltr a_fir a_sec byt len ltr fir sec ord opn num fig) sz) t) (va_A (W_T y hT a_byt a_ltr a_fir a_sec byt len ltr fir sec ord opn num fig) sz)) 0 0 (va_A (W_T y hT a_byt a_ltr a_fir a_sec byt len ltr fir sec ord opn num fig) sz) := by
  refine xm_i (by decide) (Nat.le_of_ble_eq_true rfl) (fun p e s m args below meth cX ls A Q E hr hnm hX hl hQ => ?_)
  have hl : lv_has ls 2 [(0, .ref hT)] := hl
  refine xr_aload_n E hl 0 rfl dX4_reads_0 rfl ?_
  refine xr_iconst E dX4_reads_1 ?_
  refine xr_put (W1 := (W_T y hT a_byt a_ltr a_fir a_sec byt len ltr fir sec 0 opn num fig)) E hX 0 rfl rfl ly_X4 tyX4_ok nmX4 5 (by decide) fl_X4_28 rfl rfl rfl (Nat.le_of_ble_eq_true rfl) rfl dX4_reads_2 (fun H locs hX => ?_)
  refine xr_aload_n E hl 0 rfl dX4_reads_5 rfl ?_
  refine xr_iconst E dX4_reads_6 ?_
  refine xr_toB0 ?_
  refine xr_put (W1 := (W_T y hT a_byt a_ltr a_fir a_sec byt len ltr fir sec 0 false num fig)) E hX 0 rfl rfl ly_X4 tyX4_ok nmX4 6 (by decide) fl_X4_31 rfl (bB_nr _) (bB_fit _) (Nat.le_of_ble_eq_true rfl) rfl dX4_reads_7 (fun H locs hX => ?_)
  refine xr_iconst E dX4_reads_10 ?_
  refine xr_istore_n (lv' := [(1, .int (iI 0)), (0, .ref hT)]) E hl dX4_reads_11 rfl (by decide) rfl (fun ls hl => ?_)
  have L_12_1 : ∀ (nmu : Nat) (n : Nat) (t : Int) (ltr1 : Int → Int) (fir1 : Int → Int) (sec1 : Int → Int) (ord1 : Int) (opn1 : Bool) (num1 : Int) (fig1 : Int), 120 - n < nmu → (t = n ∧ t ≤ len) → ((ltr1, fir1, sec1, ord1, opn1, num1, fig1) = pSt byt (ltr, fir, sec, 0, false, num, fig) n) → (PI n ltr1 fir1 sec1 ord1 opn1 num1 fig1) → (pF byt (ltr, fir, sec, 0, false, num, fig) n = -1) → ∀ (H : Heap) (locs : List Loc) (ls : Array Slot), XW D A s.heap (W_T y hT a_byt a_ltr a_fir a_sec byt len ltr1 fir1 sec1 ord1 opn1 num1 fig1) H locs → lv_has ls 2 [(0, .ref hT), (1, .int (iI t))] → W p l e rm_X4_reads s m args below meth cX H locs 0 0 Q (F0 m 12 ls []) := by
    intro nmu
    induction nmu with
    | zero =>
      intro n t ltr1 fir1 sec1 ord1 opn1 num1 fig1 hmu
      exact absurd hmu (Nat.not_lt_zero _)
    | succ nmu ih =>
      intro n t ltr1 fir1 sec1 ord1 opn1 num1 fig1 hmu ht hS hP hF H locs ls hX hl
      have ih_12_1 := ih
      clear ih
      obtain ⟨⟨hk1, ho1, hn1, hf1⟩, hP2, hP3⟩ := id hP
      refine xr_iload_n E hl 1 rfl dX4_reads_12 rfl ?_
      refine xr_aload_n E hl 0 rfl dX4_reads_13 rfl ?_
      refine xr_get E hX 0 rfl rfl ly_X4 1 (by decide) fl_X4_15 rfl dX4_reads_14 ?_
      refine xr_icmp_ge (tgt := 41) E dX4_reads_17 (by decide) ⟨by omega, by omega⟩ ⟨by omega, by omega⟩ (fun c_17 => ?_) (fun c_17 => ?_)
      · have c_17 := c_17
        refine xr_aload_n E hl 0 rfl dX4_reads_41 rfl ?_
        refine xr_get E hX 0 rfl rfl ly_X4 6 (by decide) fl_X4_31 rfl dX4_reads_42 ?_
        refine xr_if_neB (tgt := 55) E dX4_reads_45 (by decide) (fun c_45 => ?_) (fun c_45 => ?_)
        · have c_45 := c_45
          refine xr_aload_n E hl 0 rfl dX4_reads_55 rfl ?_
          refine xr_get E hX 0 rfl rfl ly_X4 1 (by decide) fl_X4_15 rfl dX4_reads_56 ?_
          refine xr_goto (tgt := 63) E dX4_reads_59 (by decide) ?_
          exact xr_iret E hX hQ (ltr1, fir1, sec1, ord1, opn1, num1, fig1) hr (by have e := rd_end (len := len) hF (by omega); rw [← hS] at e; dsimp only at e; rw [e]; first | (rw [if_pos (Or.inl c_45)]; exact ⟨rfl, fun h => by omega, hP.1⟩) | (rw [if_pos (Or.inr c_52)]; exact ⟨rfl, fun h => by omega, hP.1⟩) | (rw [if_neg (by rw [c_45]; omega)]; exact ⟨rfl, fun _ => by rw [show len.toNat = n by omega]; exact hS, hP.1⟩) | (rw [if_neg (by rw [c_45]; rintro (h | h); cases h; exact c_52 h)]; exact ⟨rfl, fun _ => by rw [show len.toNat = n by omega]; exact hS, hP.1⟩)) rfl dX4_reads_63
        · have c_45 := c_45
          refine xr_aload_n E hl 0 rfl dX4_reads_48 rfl ?_
          refine xr_get E hX 0 rfl rfl ly_X4 5 (by decide) fl_X4_28 rfl dX4_reads_49 ?_
          refine xr_if_ne (tgt := 62) E dX4_reads_52 (by decide) ⟨by omega, by omega⟩ (fun c_52 => ?_) (fun c_52 => ?_)
          · have c_52 := c_52
            refine xr_iconst E dX4_reads_62 ?_
            exact xr_iret E hX hQ (ltr1, fir1, sec1, ord1, opn1, num1, fig1) hr (by have e := rd_end (len := len) hF (by omega); rw [← hS] at e; dsimp only at e; rw [e]; first | (rw [if_pos (Or.inl c_45)]; exact ⟨rfl, fun h => by omega, hP.1⟩) | (rw [if_pos (Or.inr c_52)]; exact ⟨rfl, fun h => by omega, hP.1⟩) | (rw [if_neg (by rw [c_45]; omega)]; exact ⟨rfl, fun _ => by rw [show len.toNat = n by omega]; exact hS, hP.1⟩) | (rw [if_neg (by rw [c_45]; rintro (h | h); cases h; exact c_52 h)]; exact ⟨rfl, fun _ => by rw [show len.toNat = n by omega]; exact hS, hP.1⟩)) rfl dX4_reads_63
          · have c_52 := c_52
            refine xr_aload_n E hl 0 rfl dX4_reads_55 rfl ?_
            refine xr_get E hX 0 rfl rfl ly_X4 1 (by decide) fl_X4_15 rfl dX4_reads_56 ?_
            refine xr_goto (tgt := 63) E dX4_reads_59 (by decide) ?_
            exact xr_iret E hX hQ (ltr1, fir1, sec1, ord1, opn1, num1, fig1) hr (by have e := rd_end (len := len) hF (by omega); rw [← hS] at e; dsimp only at e; rw [e]; first | (rw [if_pos (Or.inl c_45)]; exact ⟨rfl, fun h => by omega, hP.1⟩) | (rw [if_pos (Or.inr c_52)]; exact ⟨rfl, fun h => by omega, hP.1⟩) | (rw [if_neg (by rw [c_45]; omega)]; exact ⟨rfl, fun _ => by rw [show len.toNat = n by omega]; exact hS, hP.1⟩) | (rw [if_neg (by rw [c_45]; rintro (h | h); cases h; exact c_52 h)]; exact ⟨rfl, fun _ => by rw [show len.toNat = n by omega]; exact hS, hP.1⟩)) rfl dX4_reads_63
      · have c_17 := c_17
        have hbt := hby t (by omega) (by omega)
        refine xr_aload_n E hl 0 rfl dX4_reads_20 rfl ?_
        refine xr_aload_n E hl 0 rfl dX4_reads_21 rfl ?_
        refine xr_get E hX 0 rfl rfl ly_X4 0 (by decide) fl_X4_9 rfl dX4_reads_22 ?_
        refine xr_iload_n E hl 1 rfl dX4_reads_25 rfl ?_
        refine xr_iald E hX 1 rfl (by omega) (by omega) (by decide) dX4_reads_26 ?_
        refine xk_i (W2 := fun uu => (W_T y hT a_byt a_ltr a_fir a_sec byt len uu.1 uu.2.1 uu.2.2.1 uu.2.2.2.1 uu.2.2.2.2.1 uu.2.2.2.2.2.1 uu.2.2.2.2.2.2)) E hX [0, 1, 2, 3, 4] rfl (xv_V (As := [.int (iI (byt t))]) E hX hl (c_X4_readsByte l D y z _ hT a_byt a_ltr a_fir a_sec byt len ltr1 fir1 sec1 ord1 opn1 num1 fig1 (byt t) ⟨by omega, by omega⟩ (by omega) (fun h => ⟨by have := (hP3 h).1; omega, by have := (hk1 ord1 (by omega) (by have := (hP3 h).1; omega)).1; omega, by have := (hk1 ord1 (by omega) (by have := (hP3 h).1; omega)).1; omega⟩) (by omega) (by omega)) ml_X4_41 im_X4_readsByte se_X4_readsByte in_X4 co_X4_readsByte 1 (by decide) ⟨rfl, rfl⟩ ⟨Nat.le_of_ble_eq_true rfl, Nat.le_of_ble_eq_true rfl⟩ [0, 1, 2, 3, 4] rfl rfl 0 rfl rfl rfl rfl rfl (Nat.le_of_ble_eq_true rfl) dX4_reads_27 ⟨Nat.le_refl _, Nat.le_refl _⟩) [0, 1, 2, 3, 4] 5 (fun _ => rfl) (fun _ => rfl) (by decide) (by decide) (fun r_27 uu H locs hw hX => ?_)
        obtain ⟨rfl, rfl⟩ := hw
        have hX : XW D A s.heap (W_T y hT a_byt a_ltr a_fir a_sec byt len ((pByte (byt t) ltr1 fir1 sec1 ord1 opn1 num1 fig1).2.1) ((pByte (byt t) ltr1 fir1 sec1 ord1 opn1 num1 fig1).2.2.1) ((pByte (byt t) ltr1 fir1 sec1 ord1 opn1 num1 fig1).2.2.2.1) ((pByte (byt t) ltr1 fir1 sec1 ord1 opn1 num1 fig1).2.2.2.2.1) ((pByte (byt t) ltr1 fir1 sec1 ord1 opn1 num1 fig1).2.2.2.2.2.1) ((pByte (byt t) ltr1 fir1 sec1 ord1 opn1 num1 fig1).2.2.2.2.2.2.1) ((pByte (byt t) ltr1 fir1 sec1 ord1 opn1 num1 fig1).2.2.2.2.2.2.2)) H locs := hX
        refine xr_if_neB (tgt := 35) E dX4_reads_30 (by decide) (fun c_30 => ?_) (fun c_30 => ?_)
        · have c_30 := c_30
          refine xr_iinc (k := 1) (lv' := [(1, .int (iI (t + 1))), (0, .ref hT)]) E hl rfl dX4_reads_35 (by decide) rfl (fun ls hl => ?_)
          refine xr_goto (tgt := 12) E dX4_reads_38 (by decide) ?_
          exact ih_12_1 (n + 1) (t + 1) ((pByte (byt t) ltr1 fir1 sec1 ord1 opn1 num1 fig1).2.1) ((pByte (byt t) ltr1 fir1 sec1 ord1 opn1 num1 fig1).2.2.1) ((pByte (byt t) ltr1 fir1 sec1 ord1 opn1 num1 fig1).2.2.2.1) ((pByte (byt t) ltr1 fir1 sec1 ord1 opn1 num1 fig1).2.2.2.2.1) ((pByte (byt t) ltr1 fir1 sec1 ord1 opn1 num1 fig1).2.2.2.2.2.1) ((pByte (byt t) ltr1 fir1 sec1 ord1 opn1 num1 fig1).2.2.2.2.2.2.1) ((pByte (byt t) ltr1 fir1 sec1 ord1 opn1 num1 fig1).2.2.2.2.2.2.2) (by omega) (by omega) (by show _ = (pByteS (byt n) (pSt byt (ltr, fir, sec, 0, false, num, fig) n)).2; rw [← hS, ← ht.1]; rfl) (pByte_PI hP (by omega) hbt.1 hbt.2 c_30) (by rw [pF_s _ _ _ hF, ← hS, ← ht.1]; exact if_pos c_30) _ _ _ hX (lv_sub hl [1, 0] rfl)
        · have c_30 := c_30
          refine xr_iload_n E hl 1 rfl dX4_reads_33 rfl ?_
          exact xr_iret E hX hQ ((pByte (byt t) ltr1 fir1 sec1 ord1 opn1 num1 fig1).2.1, (pByte (byt t) ltr1 fir1 sec1 ord1 opn1 num1 fig1).2.2.1, (pByte (byt t) ltr1 fir1 sec1 ord1 opn1 num1 fig1).2.2.2.1, (pByte (byt t) ltr1 fir1 sec1 ord1 opn1 num1 fig1).2.2.2.2.1, (pByte (byt t) ltr1 fir1 sec1 ord1 opn1 num1 fig1).2.2.2.2.2.1, (pByte (byt t) ltr1 fir1 sec1 ord1 opn1 num1 fig1).2.2.2.2.2.2.1, (pByte (byt t) ltr1 fir1 sec1 ord1 opn1 num1 fig1).2.2.2.2.2.2.2) hr (by have e := rd_fault (len := len) hF (by rw [← hS, ← ht.1]; exact c_30) (by omega); rw [e]; refine ⟨by rw [ht.1], fun h => by omega, ?_⟩; have e2 := pByte_no c_30; rw [e2]; exact hP.1) rfl dX4_reads_34
  exact L_12_1 _ 0 0 ltr fir sec 0 false num fig (Nat.lt_succ_self _) (by omega) rfl ⟨⟨H_T.1, ⟨by omega, by omega⟩, H_T.2.2⟩, by omega, fun h => by cases h⟩ rfl _ _ _ hX (lv_sub hl [1, 0] rfl)
