/-! the letters of the orders that were read; a row brought aside and back -/
def LtrOk (S : PS) : Prop := ∀ k : Int, 0 ≤ k → k < S.2.2.2.1 → xNum (S.1 k) ≠ -1
theorem LtrOk_s {n c : Int} {S : PS} (hP : PIS n S) (h : LtrOk S) (hr : (pByteS c S).1 = true) : LtrOk (pByteS c S).2 := by
  obtain ⟨ltr, fir, sec, ord, opn, num, fig⟩ := S
  obtain ⟨p1, p2, p3⟩ := hP
  unfold LtrOk at h ⊢
  unfold pByteS pByte at hr ⊢
  dsimp only at h hr p1 p2 p3 ⊢
  by_cases c1 : c = 32
  · rw [if_pos c1]; exact h
  · rw [if_neg c1] at hr ⊢
    by_cases c2 : opn = false
    · rw [if_pos c2] at hr ⊢
      unfold pOpen at hr ⊢
      split at hr
      · cases hr
      · rename_i g
        rw [if_neg g]
        dsimp only
        intro k k0 k1
        rw [up_ne _ _ (show k ≠ ord by omega)]
        exact h k k0 k1
    · have ho : opn = true := by cases opn with | false => exact absurd rfl c2 | true => rfl
      have hx := (p3 ho).2.1
      rw [if_neg c2] at hr ⊢
      by_cases c3 : c = 59
      · rw [if_pos c3] at hr ⊢
        unfold pClose at hr ⊢
        split at hr
        · cases hr
        · rename_i g
          rw [if_neg g]
          dsimp only
          intro k k0 k1
          by_cases e : k = ord
          · rw [e]; exact hx
          · exact h k k0 (by omega)
      · rw [if_neg c3] at hr ⊢
        by_cases c4 : 48 ≤ c ∧ c ≤ 57
        · rw [if_pos c4]
          have e := pFig_o (c - 48) ltr fir sec ord opn num fig
          rw [e.1, e.2.1]
          exact h
        · rw [if_neg c4] at hr
          cases hr
theorem lt_ok {byt : Int → Int} {S0 : PS} (hby : ∀ k : Int, 0 ≤ k → k < 120 → 0 ≤ byt k ∧ byt k ≤ 127) (hP : PIS 0 S0) (hL : LtrOk S0) : ∀ n : Nat, n ≤ 120 → pF byt S0 n = -1 → PIS n (pSt byt S0 n) ∧ LtrOk (pSt byt S0 n)
  | 0, _, _ => ⟨hP, hL⟩
  | n + 1, hn, hf => by
    have h1 : pF byt S0 n = -1 := Classical.byContradiction (fun h => by
      have := pF_stay byt S0 n h 1
      rw [hf] at this
      exact h this.symm)
    obtain ⟨i1, i2⟩ := lt_ok hby hP hL n (by omega) h1
    rw [pF_s _ _ _ h1] at hf
    have hr : (pByteS (byt n) (pSt byt S0 n)).1 = true := Classical.byContradiction (fun h => by rw [if_neg h] at hf; omega)
    have hb := hby n (by omega) (by omega)
    have a := PIS_s i1 (by omega) hb.1 hb.2 hr
    refine ⟨?_, LtrOk_s i1 i2 hr⟩
    rw [show ((n + 1 : Nat) : Int) = (n : Int) + 1 by omega]
    exact a
theorem fault_ok {byt : Int → Int} {S0 : PS} {len : Int} (h : xFault byt len S0 = -1) (hl : 0 ≤ len) : pF byt S0 len.toNat = -1 := by
  unfold xFault at h
  by_cases g : pF byt S0 len.toNat = -1
  · exact g
  · rw [if_pos g] at h
    exact absurd h g
theorem cpR_at {d s : Int → Int} {k : Int} (h0 : 0 ≤ k) (h1 : k < 31) : cpR d 0 s 0 k = s k := by
  unfold cpR
  rw [fillR_in (by omega) (by omega), show 0 + (k - 0) = k by omega]
theorem RNe_row {S : FSt} {now now2 : Int → Int} (h : RNe S now) (e : ∀ k : Int, 0 ≤ k → k < 31 → now2 k = now k) : RNe S now2 := by
  obtain ⟨r1, r2, r3, r4, r5, r6, r7⟩ := h
  exact ⟨fun t t0 t1 => by rw [r1 t t0 t1]; exact (e (1 + t) (by omega) (by omega)).symm, fun t t0 t1 => by rw [r2 t t0 t1]; exact (e (13 + t) (by omega) (by omega)).symm, fun t t0 t1 => by rw [r3 t t0 t1]; exact (e (16 + t) (by omega) (by omega)).symm, by rw [e 0 (by omega) (by omega)]; exact r4, by rw [e 28 (by omega) (by omega)]; exact r5, by rw [e 29 (by omega) (by omega)]; exact r6, by rw [e 30 (by omega) (by omega)]; exact r7⟩
theorem mFin_ok {pst asd mrf : Int → Int} {ms w : Int} (h : 0 ≤ w) : mRf mrf w = mrf ∧ mPast pst asd ms w = mPast pst asd ms 0 ∧ mSts ms w = mSts ms 0 := by
  have h1 : ¬ w ≤ -2 := by omega
  have h0 : ¬ (0 : Int) ≤ -2 := by omega
  unfold mRf mPast mSts
  refine ⟨if_neg h1, ?_, ?_⟩
  · rw [if_neg h1, if_neg h0]
  · rw [if_neg h1, if_neg h0]
