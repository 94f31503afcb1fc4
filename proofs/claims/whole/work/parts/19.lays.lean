/-! Bounds: lays -/
abbrev rm_X1_lays : Room := { frames := 2, cells := 0, slots := 0, locals := 58 }
set_option maxHeartbeats 4000000 in
set_option maxRecDepth 100000 in
theorem c_X1_lays (l : Launch) (D : va_G) (y : CY) (z sz : Nat) (hB a_low a_high a_ll a_lh a_bnd a_gap hF a_ind a_tot a_pri : Nat) (low : Int → Int) (high : Int → Int) (ll : Int → Int) (lh : Int → Int) (bnd : Int → Bool) (gap : Int → Int) (bq : Int) (ind : Int → Int) (tot : Int → Int) (pri : Int → Int) (q : Int) (fr : Int) (li : Int) (sh : Int) (lim : Int) (un : Int) (H_I : FI ind tot pri q fr li sh) (hlim : -1 ≤ lim ∧ lim ≤ 24) (hun : -1 ≤ un ∧ un ≤ 2) : Met l yX1_lays (Cond.code yX1_lays cX1_lays 6 (some .boolean) :: TW) rm_X1_lays (va_Pc [.ref hB, .ref hF, .int (iI lim), .int (iI un)] (PX D y z (W_BF y hB a_low a_high a_ll a_lh a_bnd a_gap hF a_ind a_tot a_pri low high ll lh bnd gap bq ind tot pri q fr li sh) sz)) (va_Qi (fun (r : Int32) (uu : (Int → Int) × (Int → Int) × (Int → Int) × (Int → Int) × (Int → Bool) × (Int → Int) × (Int)) => r = bB (xMt ind tot pri q fr lim un) ∧ uu.2.2.2.2.2.2 = q ∧ (xMt ind tot pri q fr lim un = true → BGood ind tot pri q fr lim un uu.1 uu.2.1 uu.2.2.1 uu.2.2.2.1 uu.2.2.2.2.1 uu.2.2.2.2.2.1)) (fun uu t => BX D (W_BF y hB a_low a_high a_ll a_lh a_bnd a_gap hF a_ind a_tot a_pri uu.1 uu.2.1 uu.2.2.1 uu.2.2.2.1 uu.2.2.2.2.1 uu.2.2.2.2.2.1 uu.2.2.2.2.2.2 ind tot pri q fr li sh) (va_A (W_BF y hB a_low a_high a_ll a_lh a_bnd a_gap hF a_ind a_tot a_pri low high ll lh bnd gap bq ind tot pri q fr li sh) sz) t) (va_A (W_BF y hB a_low a_high a_ll a_lh a_bnd a_gap hF a_ind a_tot a_pri low high ll lh bnd gap bq ind tot pri q fr li sh) sz)) 0 0 (va_A (W_BF y hB a_low a_high a_ll a_lh a_bnd a_gap hF a_ind a_tot a_pri low high ll lh bnd gap bq ind tot pri q fr li sh) sz) := by
  refine xm_i (by decide) (Nat.le_of_ble_eq_true rfl) (fun p e s m args below meth cX ls A Q E hr hnm hX hl hQ => ?_)
  have hl : lv_has ls 6 [(0, .ref hB), (1, .ref hF), (2, .int (iI lim)), (3, .int (iI un))] := hl
  have hq := H_I.q
  have hfr := H_I.fr
  have hli := H_I.li
  have hsh := H_I.sh
  refine xr_aload_n E hl 0 rfl dX1_lays_0 rfl ?_
  refine xr_aload_n E hl 1 rfl dX1_lays_1 rfl ?_
  refine xr_get E hX 7 rfl rfl ly_X2 3 (by decide) fl_X1_35 rfl dX1_lays_2 ?_
  refine xr_put (W1 := (W_BF y hB a_low a_high a_ll a_lh a_bnd a_gap hF a_ind a_tot a_pri low high ll lh bnd gap q ind tot pri q fr li sh)) E hX 0 rfl rfl ly_X1 tyX1_ok nmX1 6 (by decide) fl_X1_31 rfl rfl rfl (Nat.le_of_ble_eq_true rfl) rfl dX1_lays_5 (fun H locs hX => ?_)
  refine xr_iconst E dX1_lays_8 ?_
  refine xr_toB1 ?_
  refine xr_istore (lv' := [(4, .int (bB true)), (0, .ref hB), (1, .ref hF), (2, .int (iI lim)), (3, .int (iI un))]) E hl dX1_lays_9 (by decide) rfl (fun ls hl => ?_)
  refine xr_iconst E dX1_lays_11 ?_
  refine xr_istore (lv' := [(5, .int (iI 0)), (4, .int (bB true)), (0, .ref hB), (1, .ref hF), (2, .int (iI lim)), (3, .int (iI un))]) E hl dX1_lays_12 (by decide) rfl (fun ls hl => ?_)
  have L_14_1 : ∀ (nmu : Nat) (n : Nat) (bb : Bool) (t : Int) (low1 : Int → Int) (high1 : Int → Int), 12 - n < nmu → (t = n ∧ t ≤ q) → (bb = allN (xQok ind pri fr lim) n) → (low1 = fillR low 0 n (loQ ind pri fr lim)) → (high1 = fillR high 0 n (hiQ ind pri fr lim)) → ∀ (H : Heap) (locs : List Loc) (ls : Array Slot), XW D A s.heap (W_BF y hB a_low a_high a_ll a_lh a_bnd a_gap hF a_ind a_tot a_pri low1 high1 ll lh bnd gap q ind tot pri q fr li sh) H locs → lv_has ls 6 [(0, .ref hB), (1, .ref hF), (2, .int (iI lim)), (3, .int (iI un)), (4, .int (bB bb)), (5, .int (iI t))] → W p l e rm_X1_lays s m args below meth cX H locs 0 0 Q (F0 m 14 ls []) := by
    intro nmu
    induction nmu with
    | zero =>
      intro n bb t low1 high1 hmu
      exact absurd hmu (Nat.not_lt_zero _)
    | succ nmu ih =>
      intro n bb t low1 high1 hmu ht hb hlo hhi H locs ls hX hl
      have ih_14_1 := ih
      clear ih
      refine xr_iload E hl 5 rfl dX1_lays_14 ?_
      refine xr_aload_n E hl 0 rfl dX1_lays_16 rfl ?_
      refine xr_get E hX 0 rfl rfl ly_X1 6 (by decide) fl_X1_31 rfl dX1_lays_17 ?_
      refine xr_icmp_ge (tgt := 66) E dX1_lays_20 (by decide) ⟨by omega, by omega⟩ ⟨by omega, by omega⟩ (fun c_20 => ?_) (fun c_20 => ?_)
      · have c_20 := c_20
        refine xr_iconst E dX1_lays_66 ?_
        refine xr_istore (lv' := [(5, .int (iI 0)), (0, .ref hB), (1, .ref hF), (2, .int (iI lim)), (3, .int (iI un)), (4, .int (bB bb))]) E hl dX1_lays_67 (by decide) rfl (fun ls hl => ?_)
        have L_69_2 : ∀ (nmu : Nat) (bb : Bool) (t : Int) (k : Nat) (ll1 : Int → Int) (lh1 : Int → Int) (bnd1 : Int → Bool) (gap1 : Int → Int), 3 - k < nmu → (t = k ∧ t ≤ 3) → (bb = (allN (xQok ind pri fr lim) q.toNat && allN (xY ind tot pri q fr lim un) k)) → (bnd1 = fillR bnd 0 k (xB tot un)) → (gap1 = fillR gap 0 k (xGp ind tot q un)) → (bb = true → ∀ u : Int, 0 ≤ u → u < 4 * (k : Int) → ll1 u = xLL ind tot pri q fr lim un u ∧ lh1 u = xLH ind tot pri q fr lim un u) → ∀ (H : Heap) (locs : List Loc) (ls : Array Slot), XW D A s.heap (W_BF y hB a_low a_high a_ll a_lh a_bnd a_gap hF a_ind a_tot a_pri low1 high1 ll1 lh1 bnd1 gap1 q ind tot pri q fr li sh) H locs → lv_has ls 6 [(0, .ref hB), (1, .ref hF), (2, .int (iI lim)), (3, .int (iI un)), (4, .int (bB bb)), (5, .int (iI t))] → W p l e rm_X1_lays s m args below meth cX H locs 0 0 Q (F0 m 69 ls []) := by
          intro nmu
          induction nmu with
          | zero =>
            intro bb t k ll1 lh1 bnd1 gap1 hmu
            exact absurd hmu (Nat.not_lt_zero _)
          | succ nmu ih =>
            intro bb t k ll1 lh1 bnd1 gap1 hmu ht2 hb2 hbn hga hll H locs ls hX hl
            have ih_69_2 := ih
            clear ih
            refine xr_iload E hl 5 rfl dX1_lays_69 ?_
            refine xr_iconst E dX1_lays_71 ?_
            refine xr_icmp_ge (tgt := 158) E dX1_lays_72 (by decide) ⟨by omega, by omega⟩ (by decide) (fun c_72 => ?_) (fun c_72 => ?_)
            · have c_72 := c_72
              refine xr_iload E hl 4 rfl dX1_lays_158 ?_
              exact xr_zret E hX hQ (low1, high1, ll1, lh1, bnd1, gap1, q) hr rfl (by have ek : k = 3 := (by omega); subst ek; exact ⟨by rw [hb2]; rfl, rfl, fun hm => ⟨fun u h0 h1 => (by dsimp only; rw [hlo, hhi, fillR_in (by omega) (by omega), fillR_in (by omega) (by omega)]; exact ⟨rfl, rfl⟩), fun v h0 h1 => (by dsimp only; rw [hbn, hga, fillR_in (by omega) (by omega), fillR_in (by omega) (by omega)]; exact ⟨rfl, rfl⟩), fun u h0 h1 => hll (by rw [hb2]; exact hm) u h0 (by omega)⟩⟩) rfl dX1_lays_160
            · have c_72 := c_72
              have L_104_3 : ∀ (bnd2 : Int → Bool), (bnd2 = fillR bnd 0 ((k + 1 : Nat) : Int) (xB tot un)) → ∀ (H : Heap) (locs : List Loc) (ls : Array Slot), XW D A s.heap (W_BF y hB a_low a_high a_ll a_lh a_bnd a_gap hF a_ind a_tot a_pri low1 high1 ll1 lh1 bnd2 gap1 q ind tot pri q fr li sh) H locs → lv_has ls 6 [(0, .ref hB), (1, .ref hF), (2, .int (iI lim)), (3, .int (iI un)), (4, .int (bB bb)), (5, .int (iI t))] → W p l e rm_X1_lays s m args below meth cX H locs 0 0 Q (F0 m 104 ls []) := by
                intro bnd2 hbn2 H locs ls hX hl
                have eb : bnd2 t = xB tot un t := by rw [hbn2]; exact fillR_in (by omega) (by omega)
                have L_131_4 : ∀ (gap2 : Int → Int), (gap2 = fillR gap 0 ((k + 1 : Nat) : Int) (xGp ind tot q un)) → ∀ (H : Heap) (locs : List Loc) (ls : Array Slot), XW D A s.heap (W_BF y hB a_low a_high a_ll a_lh a_bnd a_gap hF a_ind a_tot a_pri low1 high1 ll1 lh1 bnd2 gap2 q ind tot pri q fr li sh) H locs → lv_has ls 6 [(0, .ref hB), (1, .ref hF), (2, .int (iI lim)), (3, .int (iI un)), (4, .int (bB bb)), (5, .int (iI t))] → W p l e rm_X1_lays s m args below meth cX H locs 0 0 Q (F0 m 131 ls []) := by
                  intro gap2 hga2 H locs ls hX hl
                  have eg : gap2 t = xGp ind tot q un t := by rw [hga2]; exact fillR_in (by omega) (by omega)
                  have heq := lays_eq (un := un) (t := t) (b := bnd2 t) H_I hlo hhi (by omega) (by omega) (by omega) eb
                  have hY : xY ind tot pri q fr lim un t = xLy low1 high1 (bnd2 t) (gap2 t) t := by unfold xY; rw [← eb, ← eg]; exact (xLy_cong heq).symm
                  have L_152_5 : ∀ (bb3 : Bool) (ll3 : Int → Int) (lh3 : Int → Int), (bb3 = (allN (xQok ind pri fr lim) q.toNat && allN (xY ind tot pri q fr lim un) (k + 1))) → (bb3 = true → ∀ u : Int, 0 ≤ u → u < 4 * ((k + 1 : Nat) : Int) → ll3 u = xLL ind tot pri q fr lim un u ∧ lh3 u = xLH ind tot pri q fr lim un u) → ∀ (H : Heap) (locs : List Loc) (ls : Array Slot), XW D A s.heap (W_BF y hB a_low a_high a_ll a_lh a_bnd a_gap hF a_ind a_tot a_pri low1 high1 ll3 lh3 bnd2 gap2 q ind tot pri q fr li sh) H locs → lv_has ls 6 [(0, .ref hB), (1, .ref hF), (2, .int (iI lim)), (3, .int (iI un)), (4, .int (bB bb3)), (5, .int (iI t))] → W p l e rm_X1_lays s m args below meth cX H locs 0 0 Q (F0 m 152 ls []) := by
                    intro bb3 ll3 lh3 hb3 hll3 H locs ls hX hl
                    refine xr_iinc (k := 5) (lv' := [(5, .int (iI (t + 1))), (0, .ref hB), (1, .ref hF), (2, .int (iI lim)), (3, .int (iI un)), (4, .int (bB bb3))]) E hl rfl dX1_lays_152 (by decide) rfl (fun ls hl => ?_)
                    refine xr_goto (tgt := 69) E dX1_lays_155 (by decide) ?_
                    exact ih_69_2 bb3 (t + 1) (k + 1) ll3 lh3 bnd2 gap2 (by omega) (by omega) hb3 hbn2 hga2 hll3 _ _ _ hX (lv_sub hl [1, 2, 3, 4, 5, 0] rfl)
                  refine xr_iload E hl 4 rfl dX1_lays_131 ?_
                  refine xr_if_eqB (tgt := 149) E dX1_lays_133 (by decide) (fun c_133 => ?_) (fun c_133 => ?_)
                  · have c_133 := c_133
                    refine xr_iconst E dX1_lays_149 ?_
                    refine xr_toB0 ?_
                    refine xr_istore (lv' := [(4, .int (bB false)), (0, .ref hB), (1, .ref hF), (2, .int (iI lim)), (3, .int (iI un)), (5, .int (iI t))]) E hl dX1_lays_150 (by decide) rfl (fun ls hl => ?_)
                    exact L_152_5 false ll1 lh1  (by rw [allN_s, ← Bool.and_assoc, ← hb2, c_133]; first | rfl | (rw [← ht2.1, hY, c_142]; rfl)) (fun hbt u h0 h1 => by first | (cases hbt; done) | (rcases Int.lt_or_le u (4 * t) with hu | hu <;> first | (rw [fillR_out (Or.inl hu), fillR_out (Or.inl hu)]; exact hll c_133 u h0 (by omega)) | (rw [fillR_in (by omega) (by omega), fillR_in (by omega) (by omega)]; exact lays_ll (by omega) eb eg heq (by omega) (by omega)))) _ _ _ hX (lv_sub hl [1, 2, 3, 4, 0, 5] rfl)
                  · have c_133 := c_133
                    refine xr_aload_n E hl 0 rfl dX1_lays_136 rfl ?_
                    refine xr_iload E hl 5 rfl dX1_lays_137 ?_
                    refine xk_i (W2 := fun uu => (W_BF y hB a_low a_high a_ll a_lh a_bnd a_gap hF a_ind a_tot a_pri low1 high1 uu.1 uu.2 bnd2 gap2 q ind tot pri q fr li sh)) E hX [0, 1, 2, 3, 4, 5, 6] rfl (xv_V (As := [.int (iI t)]) E hX hl (c_X1_laysYear l D y z _ hB a_low a_high a_ll a_lh a_bnd a_gap low1 high1 ll1 lh1 bnd2 gap2 q t (by omega) (fun hb => lays_bd (un := un) H_I hlim (by omega) (by omega) (heq hb) eg)) ml_X1_49 im_X1_laysYear se_X1_laysYear in_X1 co_X1_laysYear 1 (by decide) ⟨rfl, rfl⟩ ⟨Nat.le_of_ble_eq_true rfl, Nat.le_of_ble_eq_true rfl⟩ [0, 1, 2, 3, 4, 5, 6] rfl rfl 0 rfl rfl rfl rfl rfl (Nat.le_of_ble_eq_true rfl) dX1_lays_139 ⟨Nat.le_refl _, Nat.le_refl _⟩) [0, 1, 2, 3, 4, 5, 6, 14, 15, 16, 17] 7 (fun _ => rfl) (fun _ => rfl) (by decide) (by decide) (fun r_139 uu H locs hw hX => ?_)
                    obtain ⟨rfl, rfl⟩ := hw
                    have hX : XW D A s.heap (W_BF y hB a_low a_high a_ll a_lh a_bnd a_gap hF a_ind a_tot a_pri low1 high1 (fillR ll1 (4 * t) 4 (fun wt => aL low1 high1 (bnd2 t) (gap2 t) t (wt - 4 * t + 1).toNat)) (fillR lh1 (4 * t) 4 (fun wt => aH low1 high1 (bnd2 t) (gap2 t) t (wt - 4 * t + 1).toNat)) bnd2 gap2 q ind tot pri q fr li sh) H locs := hX
                    refine xr_if_eqB (tgt := 149) E dX1_lays_142 (by decide) (fun c_142 => ?_) (fun c_142 => ?_)
                    · have c_142 := c_142
                      refine xr_iconst E dX1_lays_149 ?_
                      refine xr_toB0 ?_
                      refine xr_istore (lv' := [(4, .int (bB false)), (0, .ref hB), (1, .ref hF), (2, .int (iI lim)), (3, .int (iI un)), (5, .int (iI t))]) E hl dX1_lays_150 (by decide) rfl (fun ls hl => ?_)
                      exact L_152_5 false (fillR ll1 (4 * t) 4 (fun wt => aL low1 high1 (bnd2 t) (gap2 t) t (wt - 4 * t + 1).toNat)) (fillR lh1 (4 * t) 4 (fun wt => aH low1 high1 (bnd2 t) (gap2 t) t (wt - 4 * t + 1).toNat))  (by rw [allN_s, ← Bool.and_assoc, ← hb2, c_133]; first | rfl | (rw [← ht2.1, hY, c_142]; rfl)) (fun hbt u h0 h1 => by first | (cases hbt; done) | (rcases Int.lt_or_le u (4 * t) with hu | hu <;> first | (rw [fillR_out (Or.inl hu), fillR_out (Or.inl hu)]; exact hll c_133 u h0 (by omega)) | (rw [fillR_in (by omega) (by omega), fillR_in (by omega) (by omega)]; exact lays_ll (by omega) eb eg heq (by omega) (by omega)))) _ _ _ hX (lv_sub hl [1, 2, 3, 4, 0, 5] rfl)
                    · have c_142 := c_142
                      refine xr_iconst E dX1_lays_145 ?_
                      refine xr_goto (tgt := 150) E dX1_lays_146 (by decide) ?_
                      refine xr_toB1 ?_
                      refine xr_istore (lv' := [(4, .int (bB true)), (0, .ref hB), (1, .ref hF), (2, .int (iI lim)), (3, .int (iI un)), (5, .int (iI t))]) E hl dX1_lays_150 (by decide) rfl (fun ls hl => ?_)
                      exact L_152_5 true (fillR ll1 (4 * t) 4 (fun wt => aL low1 high1 (bnd2 t) (gap2 t) t (wt - 4 * t + 1).toNat)) (fillR lh1 (4 * t) 4 (fun wt => aH low1 high1 (bnd2 t) (gap2 t) t (wt - 4 * t + 1).toNat))  (by rw [allN_s, ← Bool.and_assoc, ← hb2, c_133]; first | rfl | (rw [← ht2.1, hY, c_142]; rfl)) (fun hbt u h0 h1 => by first | (cases hbt; done) | (rcases Int.lt_or_le u (4 * t) with hu | hu <;> first | (rw [fillR_out (Or.inl hu), fillR_out (Or.inl hu)]; exact hll c_133 u h0 (by omega)) | (rw [fillR_in (by omega) (by omega), fillR_in (by omega) (by omega)]; exact lays_ll (by omega) eb eg heq (by omega) (by omega)))) _ _ _ hX (lv_sub hl [1, 2, 3, 4, 0, 5] rfl)
                refine xr_aload_n E hl 0 rfl dX1_lays_104 rfl ?_
                refine xr_get E hX 0 rfl rfl ly_X1 5 (by decide) fl_X1_28 rfl dX1_lays_105 ?_
                refine xr_iload E hl 5 rfl dX1_lays_108 ?_
                refine xr_aload_n E hl 0 rfl dX1_lays_110 rfl ?_
                refine xr_get E hX 0 rfl rfl ly_X1 4 (by decide) fl_X1_24 rfl dX1_lays_111 ?_
                refine xr_iload E hl 5 rfl dX1_lays_114 ?_
                refine xr_zald E hX 5 rfl (by omega) (by omega) (by decide) dX1_lays_116 ?_
                refine xr_if_eqB (tgt := 129) E dX1_lays_117 (by decide) (fun c_117 => ?_) (fun c_117 => ?_)
                · have c_117 := c_117
                  refine xr_iconst E dX1_lays_129 ?_
                  refine xr_iast (W1 := (W_BF y hB a_low a_high a_ll a_lh a_bnd a_gap hF a_ind a_tot a_pri low1 high1 ll1 lh1 bnd2 (up gap1 t 0) q ind tot pri q fr li sh)) E hX 6 rfl (by omega) (by omega) (by decide) rfl dX1_lays_130 (fun H locs hX => ?_)
                  exact L_131_4 (up gap1 t 0)  (by rw [hga]; exact fillR_upN ht2.1 (by unfold xGp; rw [← eb, c_117]; rfl)) _ _ _ hX (lv_sub hl [0, 1, 2, 3, 4, 5] rfl)
                · have c_117 := c_117
                  refine xr_aload_n E hl 1 rfl dX1_lays_120 rfl ?_
                  refine xr_iload E hl 5 rfl dX1_lays_121 ?_
                  refine xk_ri E hX [7, 8, 9, 10] rfl (xv_V (As := [.int (iI t)]) E hX hl (c_X2_gap l D y z _ hF a_ind a_tot a_pri ind tot pri q fr li sh t H_I (by omega)) ml_X1_45 im_X2_gap se_X2_gap in_X2 co_X2_gap 1 (by decide) ⟨rfl, rfl⟩ ⟨Nat.le_of_ble_eq_true rfl, Nat.le_of_ble_eq_true rfl⟩ [7, 8, 9, 10] rfl rfl 7 rfl rfl rfl rfl rfl (Nat.le_of_ble_eq_true rfl) dX1_lays_123 ⟨Nat.le_refl _, Nat.le_refl _⟩) (fun r_123 H locs hw hX => ?_)
                  subst hw
                  refine xr_goto (tgt := 130) E dX1_lays_126 (by decide) ?_
                  refine xr_iast (W1 := (W_BF y hB a_low a_high a_ll a_lh a_bnd a_gap hF a_ind a_tot a_pri low1 high1 ll1 lh1 bnd2 (up gap1 t (xGap ind tot q t)) q ind tot pri q fr li sh)) E hX 6 rfl (by omega) (by omega) (by decide) rfl dX1_lays_130 (fun H locs hX => ?_)
                  exact L_131_4 (up gap1 t (xGap ind tot q t))  (by rw [hga]; exact fillR_upN ht2.1 (by unfold xGp; rw [← eb, c_117]; rfl)) _ _ _ hX (lv_sub hl [0, 1, 2, 3, 4, 5] rfl)
              refine xr_aload_n E hl 0 rfl dX1_lays_75 rfl ?_
              refine xr_get E hX 0 rfl rfl ly_X1 4 (by decide) fl_X1_24 rfl dX1_lays_76 ?_
              refine xr_iload E hl 5 rfl dX1_lays_79 ?_
              refine xr_iload E hl 5 rfl dX1_lays_81 ?_
              refine xr_iload_n E hl 3 rfl dX1_lays_83 rfl ?_
              refine xr_icmp_eq (tgt := 102) E dX1_lays_84 (by decide) ⟨by omega, by omega⟩ ⟨by omega, by omega⟩ (fun c_84 => ?_) (fun c_84 => ?_)
              · have c_84 := c_84
                refine xr_iconst E dX1_lays_102 ?_
                refine xr_toB0 ?_
                refine xr_zast (W1 := (W_BF y hB a_low a_high a_ll a_lh a_bnd a_gap hF a_ind a_tot a_pri low1 high1 ll1 lh1 (up bnd1 t false) gap1 q ind tot pri q fr li sh)) E hX 5 rfl (by omega) (by omega) (by decide) rfl dX1_lays_103 (fun H locs hX => ?_)
                exact L_104_3 (up bnd1 t false)  (by rw [hbn]; exact fillR_upN ht2.1 (by unfold xB; first | exact (decide_eq_false (by omega)).symm | exact (decide_eq_true (by omega)).symm)) _ _ _ hX (lv_sub hl [0, 1, 2, 3, 4, 5] rfl)
              · have c_84 := c_84
                have htt := H_I.tot (v := t) (by omega) (by omega)
                refine xr_aload_n E hl 1 rfl dX1_lays_87 rfl ?_
                refine xr_get E hX 7 rfl rfl ly_X2 1 (by decide) fl_X1_42 rfl dX1_lays_88 ?_
                refine xr_iload E hl 5 rfl dX1_lays_91 ?_
                refine xr_iald E hX 9 rfl (by omega) (by omega) (by decide) dX1_lays_93 ?_
                refine xr_iconst E dX1_lays_94 ?_
                refine xr_icmp_eq (tgt := 102) E dX1_lays_95 (by decide) ⟨by omega, by omega⟩ (by decide) (fun c_95 => ?_) (fun c_95 => ?_)
                · have c_95 := c_95
                  refine xr_iconst E dX1_lays_102 ?_
                  refine xr_toB0 ?_
                  refine xr_zast (W1 := (W_BF y hB a_low a_high a_ll a_lh a_bnd a_gap hF a_ind a_tot a_pri low1 high1 ll1 lh1 (up bnd1 t false) gap1 q ind tot pri q fr li sh)) E hX 5 rfl (by omega) (by omega) (by decide) rfl dX1_lays_103 (fun H locs hX => ?_)
                  exact L_104_3 (up bnd1 t false)  (by rw [hbn]; exact fillR_upN ht2.1 (by unfold xB; first | exact (decide_eq_false (by omega)).symm | exact (decide_eq_true (by omega)).symm)) _ _ _ hX (lv_sub hl [0, 1, 2, 3, 4, 5] rfl)
                · have c_95 := c_95
                  refine xr_iconst E dX1_lays_98 ?_
                  refine xr_goto (tgt := 103) E dX1_lays_99 (by decide) ?_
                  refine xr_toB1 ?_
                  refine xr_zast (W1 := (W_BF y hB a_low a_high a_ll a_lh a_bnd a_gap hF a_ind a_tot a_pri low1 high1 ll1 lh1 (up bnd1 t true) gap1 q ind tot pri q fr li sh)) E hX 5 rfl (by omega) (by omega) (by decide) rfl dX1_lays_103 (fun H locs hX => ?_)
                  exact L_104_3 (up bnd1 t true)  (by rw [hbn]; exact fillR_upN ht2.1 (by unfold xB; first | exact (decide_eq_false (by omega)).symm | exact (decide_eq_true (by omega)).symm)) _ _ _ hX (lv_sub hl [0, 1, 2, 3, 4, 5] rfl)
        exact L_69_2 _ bb 0 0 ll lh bnd gap (Nat.lt_succ_self _) (by omega) (by rw [hb, show q.toNat = n by omega]; exact (Bool.and_true _).symm) (fillR_0 _ _ _).symm (fillR_0 _ _ _).symm (fun _ u h0 h1 => by omega) _ _ _ hX (lv_sub hl [1, 2, 3, 4, 5, 0] rfl)
      · have c_20 := c_20
        refine xr_aload_n E hl 0 rfl dX1_lays_23 rfl ?_
        refine xr_aload_n E hl 1 rfl dX1_lays_24 rfl ?_
        refine xr_iload_n E hl 2 rfl dX1_lays_25 rfl ?_
        refine xr_iload E hl 5 rfl dX1_lays_26 ?_
        refine xk_v (W2 := fun uu => (W_BF y hB a_low a_high a_ll a_lh a_bnd a_gap hF a_ind a_tot a_pri uu.1 uu.2 ll lh bnd gap q ind tot pri q fr li sh)) E hX [0, 1, 2, 3, 4, 5, 6, 7, 8, 9, 10] rfl (xv_V (As := [.ref hF, .int (iI lim), .int (iI t)]) E hX hl (c_X1_laysQuarter l D y z _ hB a_low a_high a_ll a_lh a_bnd a_gap hF a_ind a_tot a_pri low1 high1 ll lh bnd gap q ind tot pri q fr li sh lim t H_I (by omega) (by omega)) ml_X1_38 im_X1_laysQuarter se_X1_laysQuarter in_X1 co_X1_laysQuarter 3 (by decide) ⟨rfl, rfl⟩ ⟨Nat.le_of_ble_eq_true rfl, Nat.le_of_ble_eq_true rfl⟩ [0, 1, 2, 3, 4, 5, 6, 7, 8, 9, 10] rfl rfl 0 rfl rfl rfl rfl rfl (Nat.le_of_ble_eq_true rfl) dX1_lays_28 ⟨Nat.le_refl _, Nat.le_refl _⟩) [0, 1, 2, 3, 4, 5, 6, 7, 8, 9, 10] 11 (fun _ => rfl) (fun _ => rfl) (by decide) (by decide) (fun uu H locs hw hX => ?_)
        subst hw
        have hX : XW D A s.heap (W_BF y hB a_low a_high a_ll a_lh a_bnd a_gap hF a_ind a_tot a_pri (up low1 t (loQ ind pri fr lim t)) (up high1 t (hiQ ind pri fr lim t)) ll lh bnd gap q ind tot pri q fr li sh) H locs := hX
        have hlo2 : up low1 t (loQ ind pri fr lim t) = fillR low 0 ((n + 1 : Nat) : Int) (loQ ind pri fr lim) := by rw [hlo]; exact fillR_upN ht.1 rfl
        have hhi2 : up high1 t (hiQ ind pri fr lim t) = fillR high 0 ((n + 1 : Nat) : Int) (hiQ ind pri fr lim) := by rw [hhi]; exact fillR_upN ht.1 rfl
        refine xr_iload E hl 4 rfl dX1_lays_31 ?_
        refine xr_if_eqB (tgt := 57) E dX1_lays_33 (by decide) (fun c_33 => ?_) (fun c_33 => ?_)
        · have c_33 := c_33
          refine xr_iconst E dX1_lays_57 ?_
          refine xr_toB0 ?_
          refine xr_istore (lv' := [(4, .int (bB false)), (0, .ref hB), (1, .ref hF), (2, .int (iI lim)), (3, .int (iI un)), (5, .int (iI t))]) E hl dX1_lays_58 (by decide) rfl (fun ls hl => ?_)
          refine xr_iinc (k := 5) (lv' := [(5, .int (iI (t + 1))), (4, .int (bB false)), (0, .ref hB), (1, .ref hF), (2, .int (iI lim)), (3, .int (iI un))]) E hl rfl dX1_lays_60 (by decide) rfl (fun ls hl => ?_)
          refine xr_goto (tgt := 14) E dX1_lays_63 (by decide) ?_
          exact ih_14_1 (n + 1) false (t + 1) (up low1 t (loQ ind pri fr lim t)) (up high1 t (hiQ ind pri fr lim t)) (by omega) (by omega) (by rw [allN_s, ← hb, ← ht.1]; unfold xQok; first | (rw [c_33]; rfl) | (rw [c_33, decide_eq_true (by omega)]; rfl) | (rw [c_33, decide_eq_false (by omega)]; rfl)) hlo2 hhi2 _ _ _ hX (lv_sub hl [2, 3, 4, 5, 1, 0] rfl)
        · have c_33 := c_33
          have hlt := loQ_bd (lim := lim) (t := t) H_I hlim (by omega) (by omega)
          have el : up low1 t (loQ ind pri fr lim t) t = loQ ind pri fr lim t := up_same _ _ _
          have eh : up high1 t (hiQ ind pri fr lim t) t = hiQ ind pri fr lim t := up_same _ _ _
          refine xr_aload_n E hl 0 rfl dX1_lays_36 rfl ?_
          refine xr_get E hX 0 rfl rfl ly_X1 0 (by decide) fl_X1_9 rfl dX1_lays_37 ?_
          refine xr_iload E hl 5 rfl dX1_lays_40 ?_
          refine xr_iald E hX 1 rfl (by omega) (by omega) (by decide) dX1_lays_42 ?_
          refine xr_aload_n E hl 0 rfl dX1_lays_43 rfl ?_
          refine xr_get E hX 0 rfl rfl ly_X1 1 (by decide) fl_X1_15 rfl dX1_lays_44 ?_
          refine xr_iload E hl 5 rfl dX1_lays_47 ?_
          refine xr_iald E hX 2 rfl (by omega) (by omega) (by decide) dX1_lays_49 ?_
          refine xr_icmp_gt (tgt := 57) E dX1_lays_50 (by decide) ⟨by omega, by omega⟩ ⟨by omega, by omega⟩ (fun c_50 => ?_) (fun c_50 => ?_)
          · have c_50 := c_50
            refine xr_iconst E dX1_lays_57 ?_
            refine xr_toB0 ?_
            refine xr_istore (lv' := [(4, .int (bB false)), (0, .ref hB), (1, .ref hF), (2, .int (iI lim)), (3, .int (iI un)), (5, .int (iI t))]) E hl dX1_lays_58 (by decide) rfl (fun ls hl => ?_)
            refine xr_iinc (k := 5) (lv' := [(5, .int (iI (t + 1))), (4, .int (bB false)), (0, .ref hB), (1, .ref hF), (2, .int (iI lim)), (3, .int (iI un))]) E hl rfl dX1_lays_60 (by decide) rfl (fun ls hl => ?_)
            refine xr_goto (tgt := 14) E dX1_lays_63 (by decide) ?_
            exact ih_14_1 (n + 1) false (t + 1) (up low1 t (loQ ind pri fr lim t)) (up high1 t (hiQ ind pri fr lim t)) (by omega) (by omega) (by rw [allN_s, ← hb, ← ht.1]; unfold xQok; first | (rw [c_33]; rfl) | (rw [c_33, decide_eq_true (by omega)]; rfl) | (rw [c_33, decide_eq_false (by omega)]; rfl)) hlo2 hhi2 _ _ _ hX (lv_sub hl [2, 3, 4, 5, 1, 0] rfl)
          · have c_50 := c_50
            refine xr_iconst E dX1_lays_53 ?_
            refine xr_goto (tgt := 58) E dX1_lays_54 (by decide) ?_
            refine xr_toB1 ?_
            refine xr_istore (lv' := [(4, .int (bB true)), (0, .ref hB), (1, .ref hF), (2, .int (iI lim)), (3, .int (iI un)), (5, .int (iI t))]) E hl dX1_lays_58 (by decide) rfl (fun ls hl => ?_)
            refine xr_iinc (k := 5) (lv' := [(5, .int (iI (t + 1))), (4, .int (bB true)), (0, .ref hB), (1, .ref hF), (2, .int (iI lim)), (3, .int (iI un))]) E hl rfl dX1_lays_60 (by decide) rfl (fun ls hl => ?_)
            refine xr_goto (tgt := 14) E dX1_lays_63 (by decide) ?_
            exact ih_14_1 (n + 1) true (t + 1) (up low1 t (loQ ind pri fr lim t)) (up high1 t (hiQ ind pri fr lim t)) (by omega) (by omega) (by rw [allN_s, ← hb, ← ht.1]; unfold xQok; first | (rw [c_33]; rfl) | (rw [c_33, decide_eq_true (by omega)]; rfl) | (rw [c_33, decide_eq_false (by omega)]; rfl)) hlo2 hhi2 _ _ _ hX (lv_sub hl [2, 3, 4, 5, 1, 0] rfl)
  exact L_14_1 _ 0 true 0 low high (Nat.lt_succ_self _) (by omega) rfl (fillR_0 _ _ _).symm (fillR_0 _ _ _).symm _ _ _ hX (lv_sub hl [2, 3, 4, 5, 1, 0] rfl)
