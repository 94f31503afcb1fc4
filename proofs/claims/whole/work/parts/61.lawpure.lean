/-! the law's calls: how small an answer is, what becomes of the states -/
theorem rb_adds {i q : Int} (h : 0 ≤ q) : -4 ≤ xAdds_r i q := by
  unfold xAdds_r
  (repeat' split) <;> omega
theorem rb_re {ind tot pri : Int → Int} {q fr li sh t i : Int} (H : FI ind tot pri q fr li sh) : -4 ≤ xRe_r t i ind q := by
  have hq := H.q
  unfold xRe_r
  split
  · have := H.ind (t := t) (by omega) (by omega)
    omega
  · omega
theorem rb_tl {ind tot pri : Int → Int} {q fr li sh v w : Int} (H : FI ind tot pri q fr li sh) : -4 ≤ xTl_r v w tot q := by
  unfold xTl_r
  split
  · have := H.tot (v := v) (by omega) (by omega)
    split <;> omega
  · omega
theorem rb_un {ind tot pri : Int → Int} {q fr li sh v : Int} (H : FI ind tot pri q fr li sh) : -4 ≤ xUn_r v tot := by
  unfold xUn_r
  split
  · have := H.tot (v := v) (by omega) (by omega)
    split <;> omega
  · omega
theorem rb_ic {pri : Int → Int} {q fr t on : Int} : -4 ≤ xIc_r t on pri q fr := by
  have := bCnt_bd (xIcF fr t on)
  unfold xIc_r
  (repeat' split) <;> omega
theorem rb_bo {v li : Int} (h : -1 ≤ li) : -4 ≤ xBo_r v li := by
  unfold xBo_r
  split <;> omega
theorem rb_sh {v sh : Int} (h : 0 ≤ sh) : -4 ≤ xSh_r v sh := by
  unfold xSh_r
  split <;> omega
theorem rb_on {pri : Int → Int} {q : Int} (h : 0 ≤ q) : -1 ≤ xOnes pri q := by
  have := xOnes_bd pri q h
  omega
theorem rb_pr {ind tot pri : Int → Int} {q fr li : Int} (h : 0 ≤ q) : -4 ≤ xPr_r ind tot pri q fr li := by
  unfold xPr_r
  split <;> omega
theorem xDoS_FI {byt : Int → Int} {len : Int} {P0 : PS} {S : FSt} (H : FIS S) : FIS (xDoS byt len P0 S) := by
  unfold xDoS
  split
  · exact xRun_FI H _
  · exact H
section LP
variable {ri rt rp ri2 rt2 rp2 : Int → Int → Int} {rq rf rl rs rq2 rf2 rl2 rs2 : Int → Int} {top sts top2 sts2 msts2 : Int} {pst pst2 asd2 now byt : Int → Int} {len : Int} {P0 : PS} {S : FSt}
theorem does_P (h : PRel ri rt rp rq rf rl rs top sts pst) (hM : FM now) (ht : top2 = xDoI byt len P0 S (tUp top) top) (hs : sts2 = xDoI byt len P0 S (sUp sts) sts)
    (hy : xFault byt len P0 = -1 → ri2 = up ri top (mI now) ∧ rt2 = up rt top (mT now) ∧ rp2 = up rp top (mP now) ∧ rq2 = up rq top (now 0) ∧ rf2 = up rf top (now 28) ∧ rl2 = up rl top (now 29) ∧ rs2 = up rs top (now 30))
    (hn : xFault byt len P0 ≠ -1 → ri2 = ri ∧ rt2 = rt ∧ rp2 = rp ∧ rq2 = rq ∧ rf2 = rf ∧ rl2 = rl ∧ rs2 = rs)
    (gy : (xFault byt len P0 = -1 ∧ xDoX byt len P0 S = -1) → pst2 = mPast pst asd2 sts 0 ∧ msts2 = mSts sts 0 ∧ ∀ k : Int, 0 ≤ k → k < 31 → asd2 k = now k)
    (gn : ¬ (xFault byt len P0 = -1 ∧ xDoX byt len P0 S = -1) → pst2 = pst ∧ msts2 = sts) : PRel ri2 rt2 rp2 rq2 rf2 rl2 rs2 top2 sts2 pst2 ∧ msts2 = sts2 := by
  by_cases hd : xFault byt len P0 = -1 ∧ xDoX byt len P0 S = -1
  · obtain ⟨a1, a2, a3, a4, a5, a6, a7⟩ := hy hd.1
    obtain ⟨b1, b2, b3⟩ := gy hd
    have e1 : top2 = tUp top := by rw [ht]; unfold xDoI; rw [if_pos hd]
    have e2 : sts2 = sUp sts := by rw [hs]; unfold xDoI; rw [if_pos hd]
    rw [a1, a2, a3, a4, a5, a6, a7, e1, e2, b1, b2]
    refine ⟨PRel_keep h hM b3, ?_⟩
    rw [mSts_eq h.2.1]
    unfold sSts
    rw [if_neg (by omega)]
  · obtain ⟨b1, b2⟩ := gn hd
    have e1 : top2 = top := by rw [ht]; unfold xDoI; rw [if_neg hd]
    have e2 : sts2 = sts := by rw [hs]; unfold xDoI; rw [if_neg hd]
    rw [e1, e2, b1, b2]
    by_cases hf : xFault byt len P0 = -1
    · obtain ⟨a1, a2, a3, a4, a5, a6, a7⟩ := hy hf
      rw [a1, a2, a3, a4, a5, a6, a7]
      exact ⟨PRel_hold h, rfl⟩
    · obtain ⟨a1, a2, a3, a4, a5, a6, a7⟩ := hn hf
      rw [a1, a2, a3, a4, a5, a6, a7]
      exact ⟨h, rfl⟩
end LP
theorem KOk_bk {a1 a2 a3 b1 b2 b3 : Int → Int} {q fr li sh q2 fr2 li2 sh2 sts : Int} {kn th : Bool} {row : Int → Int} {rows : Int} (h : KOk a1 a2 a3 q fr li sh kn th row rows) : KOk (bkF sts a1 b1) (bkF sts a2 b2) (bkF sts a3 b3) (bkI sts q q2) (bkI sts fr fr2) (bkI sts li li2) (bkI sts sh sh2) (bkB sts kn) th row rows := by
  unfold bkF bkI bkB
  by_cases h0 : sts = 0
  · simp only [if_pos h0]
    exact h
  · simp only [if_neg h0]
    intro hh
    cases hh
theorem TJ_0 {ltr fir sec : Int → Int} {ord num fig : Int} (h : TJ ltr fir sec ord num fig) : TJ ltr fir sec 0 num fig := ⟨h.1, ⟨by omega, by omega⟩, h.2.2⟩
