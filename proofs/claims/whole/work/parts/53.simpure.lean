/-! the reference reads THE TEXT as the class does -/
def PIS (n : Int) (S : PS) : Prop := PI n S.1 S.2.1 S.2.2.1 S.2.2.2.1 S.2.2.2.2.1 S.2.2.2.2.2.1 S.2.2.2.2.2.2
def SimS (n : Int) (S : PS) (mlt beg figm mord : Int) (olt ofr nbs : Int → Int) : Prop :=
  mord = S.2.2.2.1 ∧ (S.2.2.2.2.1 = true ↔ mlt ≠ 0) ∧ (S.2.2.2.2.1 = true → mlt = S.1 mord ∧ beg = S.2.2.2.2.2.1 ∧ figm = S.2.2.2.2.2.2 ∧ olt mord = S.1 mord ∧ (1 ≤ beg → nbs (ofr mord) = S.2.1 mord) ∧ (2 ≤ beg → nbs (ofr mord + 1) = S.2.2.1 mord) ∧ ofr mord + beg + 2 * mord + 1 ≤ n) ∧ 0 ≤ ofr mord ∧ ofr mord + 2 * mord ≤ n ∧
  ∀ k : Int, 0 ≤ k → k < mord → olt k = S.1 k ∧ (0 ≤ ofr k ∧ ofr k ≤ ofr mord) ∧ (1 ≤ xNum (S.1 k) → nbs (ofr k) = S.2.1 k ∧ ofr k < ofr mord) ∧ (2 ≤ xNum (S.1 k) → nbs (ofr k + 1) = S.2.2.1 k ∧ ofr k + 1 < ofr mord)
section SP
variable {n c mlt beg figm mord : Int} {S : PS} {olt ofr nbs : Int → Int}
theorem xNum_pos {c : Int} (h : xNum c ≠ -1) : 102 ≤ c := by
  unfold xNum at h
  (repeat' split at h) <;> omega
theorem sim_sp0 (h : SimS n S mlt beg figm mord olt ofr nbs) (hm : mlt = 0) (hc : c = 32) : (pByteS c S).1 = true ∧ SimS (n + 1) (pByteS c S).2 mlt beg figm mord olt ofr nbs := by
  obtain ⟨ltr, fir, sec, ord, opn, num, fig⟩ := S
  obtain ⟨h1, h2, h3, h4, h5, h6⟩ := h
  have ho : ¬ opn = true := fun g => h2.mp g hm
  unfold pByteS pByte
  dsimp only
  rw [if_pos hc]
  exact ⟨rfl, h1, h2, fun g => absurd g ho, h4, by omega, h6⟩
theorem sim_opN (hP : PIS n S) (hn : n < 120) (h : SimS n S mlt beg figm mord olt ofr nbs) (hm : mlt = 0) (hc : c ≠ 32) (hx : xNum c = -1) : (pByteS c S).1 = false := by
  obtain ⟨ltr, fir, sec, ord, opn, num, fig⟩ := S
  obtain ⟨h1, h2, h3, h4, h5, h6⟩ := h
  have ho : opn = false := by
    cases hh : opn with
    | false => rfl
    | true => exact absurd hm (h2.mp hh)
  unfold pByteS pByte
  dsimp only
  rw [if_neg hc, if_pos ho]
  unfold pOpen
  rw [if_pos (Or.inl hx)]
theorem sim_opY (hP : PIS n S) (hn : n < 120) (h : SimS n S mlt beg figm mord olt ofr nbs) (hm : mlt = 0) (hc : c ≠ 32) (hx : xNum c ≠ -1) : (pByteS c S).1 = true ∧ SimS (n + 1) (pByteS c S).2 c 0 0 mord (up olt mord c) ofr nbs := by
  obtain ⟨ltr, fir, sec, ord, opn, num, fig⟩ := S
  obtain ⟨h1, h2, h3, h4, h5, h6⟩ := h
  obtain ⟨p1, p2, p3⟩ := hP
  dsimp only at h1 h2 h3 h4 h5 h6 p1 p2 p3
  have ho : opn = false := by
    cases hh : opn with
    | false => rfl
    | true => exact absurd hm (h2.mp hh)
  have hcp := xNum_pos hx
  unfold pByteS pByte
  dsimp only
  rw [if_neg hc, if_pos ho]
  unfold pOpen
  rw [if_neg (by omega)]
  dsimp only
  refine ⟨rfl, h1, ⟨fun _ => by omega, fun _ => rfl⟩, fun _ => ⟨?_, rfl, rfl, ?_, fun g => by omega, fun g => by omega, by omega⟩, h4, by omega, fun k k0 k1 => ?_⟩
  · dsimp only; rw [h1, up_same]
  · dsimp only; rw [h1, up_same, up_same]
  · dsimp only
    rw [up_ne olt _ (show k ≠ mord by omega), up_ne ltr _ (show k ≠ ord by omega), up_ne fir _ (show k ≠ ord by omega), up_ne sec _ (show k ≠ ord by omega)]
    exact h6 k k0 k1
theorem sim_op (h : SimS n S mlt beg figm mord olt ofr nbs) (hm : mlt ≠ 0) : S.2.2.2.2.1 = true := h.2.1.mpr hm
theorem sim_sp1 (h : SimS n S mlt beg figm mord olt ofr nbs) (hm : mlt ≠ 0) (hc : c = 32) : (pByteS c S).1 = true ∧ SimS (n + 1) (pByteS c S).2 mlt beg 0 mord olt ofr nbs := by
  obtain ⟨ltr, fir, sec, ord, opn, num, fig⟩ := S
  have ho := sim_op h hm
  obtain ⟨h1, h2, h3, h4, h5, h6⟩ := h
  dsimp only at ho
  obtain ⟨g1, g2, g3, g4, g5, g6, g7⟩ := h3 ho
  unfold pByteS pByte
  dsimp only
  rw [if_pos hc]
  exact ⟨rfl, h1, h2, fun _ => ⟨g1, g2, rfl, g4, g5, g6, by omega⟩, h4, by omega, h6⟩
theorem sim_fgN (hP : PIS n S) (h : SimS n S mlt beg figm mord olt ofr nbs) (hm : mlt ≠ 0) (hc : 48 ≤ c ∧ c ≤ 57) (hx : figm = 3 ∨ (figm = 0 ∧ beg = xNum mlt)) : (pByteS c S).1 = false := by
  obtain ⟨ltr, fir, sec, ord, opn, num, fig⟩ := S
  have ho := sim_op h hm
  obtain ⟨h1, h2, h3, h4, h5, h6⟩ := h
  dsimp only at ho
  obtain ⟨g1, g2, g3, g4, g5, g6, g7⟩ := h3 ho
  dsimp only at h1 g1 g2 g3
  unfold pByteS pByte
  dsimp only
  rw [if_neg (by omega), if_neg (by rw [ho]; decide), if_neg (by omega), if_pos hc]
  unfold pFig
  rw [h1] at g1
  rw [if_pos (by rw [← g1, ← g2, ← g3]; omega)]
theorem sim_fgY {pos val beg2 fig2 : Int} (hP : PIS n S) (hn : n < 120) (h : SimS n S mlt beg figm mord olt ofr nbs) (hm : mlt ≠ 0) (hc : 48 ≤ c ∧ c ≤ 57) (hx1 : figm ≠ 3) (hx2 : ¬ (figm = 0 ∧ beg = xNum mlt)) (hpos : pos = ofr mord + beg - (if figm = 0 then 0 else 1)) (hval : val = (if figm = 0 then 0 else 10 * nbs pos) + c - 48) (hb2 : beg2 = beg + (if figm = 0 then 1 else 0)) (hf2 : fig2 = figm + 1) : (pByteS c S).1 = true ∧ SimS (n + 1) (pByteS c S).2 mlt beg2 fig2 mord olt ofr (up nbs pos val) := by
  obtain ⟨ltr, fir, sec, ord, opn, num, fig⟩ := S
  have ho := sim_op h hm
  obtain ⟨h1, h2, h3, h4, h5, h6⟩ := h
  obtain ⟨⟨pk, po, pn, pf⟩, p2, p3⟩ := hP
  dsimp only at ho p3 pn pf po
  obtain ⟨g1, g2, g3, g4, g5, g6, g7⟩ := h3 ho
  obtain ⟨q1, q2, q3, q4, q5, q6, q7⟩ := p3 ho
  dsimp only at h1 g1 g2 g3 g4 g5 g6 h6
  subst h1 g2 g3
  rw [g1] at hx2
  have hxb := xNum_bd (ltr mord)
  unfold pByteS pByte
  dsimp only
  rw [if_neg (by omega), if_neg (by rw [ho]; decide), if_neg (by omega), if_pos hc]
  unfold pFig
  rw [if_neg (by omega)]
  have hcl : ∀ k : Int, 0 ≤ k → k < mord → olt k = ltr k ∧ (0 ≤ ofr k ∧ ofr k ≤ ofr mord) ∧ (1 ≤ xNum (ltr k) → up nbs pos val (ofr k) = fir k ∧ ofr k < ofr mord) ∧ (2 ≤ xNum (ltr k) → up nbs pos val (ofr k + 1) = sec k ∧ ofr k + 1 < ofr mord) := by
    intro k k0 k1
    obtain ⟨a1, a2, a3, a4⟩ := h6 k k0 k1
    have hpp : ofr mord ≤ pos := by
      rw [hpos]
      split
      · omega
      · have : beg ≠ 0 := fun e => by have := (q4 e).1; omega
        omega
    refine ⟨a1, a2, fun e => ?_, fun e => ?_⟩
    · have := a3 e
      rw [up_ne _ _ (by omega)]
      exact this
    · have := a4 e
      rw [up_ne _ _ (by omega)]
      exact this
  by_cases hf : figm = 0
  · rw [if_pos hf] at hpos hval hb2
    rw [if_pos hf]
    by_cases hb : beg + 1 = 1
    · have hb0 : beg = 0 := by omega
      have := q4 hb0
      rw [if_pos hb]
      dsimp only
      refine ⟨rfl, rfl, h2, fun _ => ⟨g1, by omega, by omega, g4, fun _ => ?_, fun e => by omega, by omega⟩, h4, by omega, fun k k0 k1 => ?_⟩
      · dsimp only
        rw [show ofr mord = pos by omega, up_same, up_same, this.2, hval]
        omega
      · obtain ⟨b1, b2, b3, b4⟩ := hcl k k0 k1
        dsimp only
        rw [up_ne fir _ (show k ≠ mord by omega)]
        exact ⟨b1, b2, b3, b4⟩
    · rw [if_neg hb]
      have hb1 : beg = 1 := by omega
      have := q7 (by omega)
      dsimp only
      refine ⟨rfl, rfl, h2, fun _ => ⟨g1, by omega, by omega, g4, fun _ => ?_, fun e => ?_, by omega⟩, h4, by omega, fun k k0 k1 => ?_⟩
      · dsimp only
        rw [up_ne _ _ (by omega)]
        exact g5 (by omega)
      · dsimp only
        rw [show ofr mord + 1 = pos by omega, up_same, up_same, this, hval]
        omega
      · obtain ⟨b1, b2, b3, b4⟩ := hcl k k0 k1
        dsimp only
        rw [up_ne sec _ (show k ≠ mord by omega)]
        exact ⟨b1, b2, b3, b4⟩
  · rw [if_neg hf] at hpos hval hb2
    rw [if_neg hf]
    have hb0 : beg ≠ 0 := fun e => by have := (q4 e).1; omega
    by_cases hb : beg + 0 = 1
    · rw [if_pos hb]
      dsimp only
      refine ⟨rfl, rfl, h2, fun _ => ⟨g1, by omega, by omega, g4, fun _ => ?_, fun e => by omega, by omega⟩, h4, by omega, fun k k0 k1 => ?_⟩
      · dsimp only
        have e5 := g5 (by omega)
        rw [show ofr mord = pos by omega] at e5
        rw [show ofr mord = pos by omega, up_same, up_same, ← e5, hval]
        omega
      · obtain ⟨b1, b2, b3, b4⟩ := hcl k k0 k1
        dsimp only
        rw [up_ne fir _ (show k ≠ mord by omega)]
        exact ⟨b1, b2, b3, b4⟩
    · rw [if_neg hb]
      dsimp only
      refine ⟨rfl, rfl, h2, fun _ => ⟨g1, by omega, by omega, g4, fun _ => ?_, fun e => ?_, by omega⟩, h4, by omega, fun k k0 k1 => ?_⟩
      · dsimp only
        rw [up_ne _ _ (by omega)]
        exact g5 (by omega)
      · dsimp only
        have e6 := g6 (by omega)
        rw [show ofr mord + 1 = pos by omega] at e6
        rw [show ofr mord + 1 = pos by omega, up_same, up_same, ← e6, hval]
        omega
      · obtain ⟨b1, b2, b3, b4⟩ := hcl k k0 k1
        dsimp only
        rw [up_ne sec _ (show k ≠ mord by omega)]
        exact ⟨b1, b2, b3, b4⟩
theorem sim_clN (h : SimS n S mlt beg figm mord olt ofr nbs) (hm : mlt ≠ 0) (hc : c ≠ 32) (hc2 : ¬ (48 ≤ c ∧ c ≤ 57)) (hx : c ≠ 59 ∨ beg < xNum mlt) : (pByteS c S).1 = false := by
  obtain ⟨ltr, fir, sec, ord, opn, num, fig⟩ := S
  have ho := sim_op h hm
  obtain ⟨h1, h2, h3, h4, h5, h6⟩ := h
  dsimp only at ho
  obtain ⟨g1, g2, g3, g4, g5, g6, g7⟩ := h3 ho
  dsimp only at h1 g1 g2 g3
  unfold pByteS pByte
  dsimp only
  rw [if_neg hc, if_neg (by rw [ho]; decide)]
  by_cases h59 : c = 59
  · rw [if_pos h59]
    unfold pClose
    rw [h1] at g1
    rw [if_pos (by rw [← g1, ← g2]; omega)]
  · rw [if_neg h59, if_neg hc2]
theorem sim_clY (hP : PIS n S) (h : SimS n S mlt beg figm mord olt ofr nbs) (hm : mlt ≠ 0) (hc : c = 59) (hx : xNum mlt ≤ beg) : (pByteS c S).1 = true ∧ SimS (n + 1) (pByteS c S).2 0 beg figm (mord + 1) olt (up ofr (mord + 1) (ofr mord + beg)) nbs := by
  obtain ⟨ltr, fir, sec, ord, opn, num, fig⟩ := S
  have ho := sim_op h hm
  obtain ⟨h1, h2, h3, h4, h5, h6⟩ := h
  obtain ⟨⟨pk, po, pn, pf⟩, p2, p3⟩ := hP
  dsimp only at ho p3 pn pf po
  obtain ⟨g1, g2, g3, g4, g5, g6, g7⟩ := h3 ho
  obtain ⟨q1, q2, q3, q4, q5, q6, q7⟩ := p3 ho
  dsimp only at h1 g1 g2 g3 g4 g5 g6 h6
  subst h1 g2 g3
  rw [g1] at hx
  unfold pByteS pByte
  dsimp only
  rw [if_neg (by omega), if_neg (by rw [ho]; decide), if_pos hc]
  unfold pClose
  rw [if_neg (by omega)]
  dsimp only
  refine ⟨rfl, rfl, ⟨fun e => (by cases e), fun e => absurd rfl e⟩, fun e => (by cases e), ?_, ?_, fun k k0 k1 => ?_⟩
  · rw [up_same]; omega
  · rw [up_same]; omega
  · dsimp only
    rw [up_same, up_ne _ _ (show k ≠ mord + 1 by omega)]
    by_cases e : k = mord
    · subst e
      exact ⟨g4, by omega, fun e => ⟨g5 (by omega), by omega⟩, fun e => ⟨g6 (by omega), by omega⟩⟩
    · obtain ⟨a1, a2, a3, a4⟩ := h6 k k0 (by omega)
      exact ⟨a1, by omega, fun e => ⟨(a3 e).1, by have := (a3 e).2; omega⟩, fun e => ⟨(a4 e).1, by have := (a4 e).2; omega⟩⟩
theorem PIS_s (hP : PIS n S) (hn : n < 120) (h0 : 0 ≤ c) (h1 : c ≤ 127) (hr : (pByteS c S).1 = true) : PIS (n + 1) (pByteS c S).2 := by
  obtain ⟨ltr, fir, sec, ord, opn, num, fig⟩ := S
  exact pByte_PI hP hn h0 h1 hr
theorem sim_bd (hn : n ≤ 120) (hP : PIS n S) (h : SimS n S mlt beg figm mord olt ofr nbs) : (0 ≤ mord ∧ 2 * mord ≤ n ∧ mord = S.2.2.2.1) ∧ 0 ≤ ofr mord ∧ (mlt ≠ 0 → (102 ≤ mlt ∧ mlt ≤ 127) ∧ (0 ≤ beg ∧ beg ≤ 2) ∧ (0 ≤ figm ∧ figm ≤ 3) ∧ ofr mord + beg + 2 * mord + 1 ≤ n ∧ (figm ≠ 0 → 1 ≤ beg) ∧ beg ≤ xNum mlt) := by
  obtain ⟨ltr, fir, sec, ord, opn, num, fig⟩ := S
  obtain ⟨⟨pk, po, pn, pf⟩, p2, p3⟩ := hP
  have ho := sim_op h
  obtain ⟨h1, h2, h3, h4, h5, h6⟩ := h
  dsimp only at ho p2 p3 pn pf po h1 h3
  refine ⟨⟨by omega, by omega, h1⟩, h4, fun hm => ?_⟩
  obtain ⟨g1, g2, g3, g4, g5, g6, g7⟩ := h3 (ho hm)
  obtain ⟨q1, q2, q3, q4, q5, q6, q7⟩ := p3 (ho hm)
  subst h1 g2 g3
  have hx := xNum_pos q2
  have hk := (pk mord (by omega) (by omega)).1
  rw [g1]
  exact ⟨⟨hx, hk.2⟩, pn, pf, g7, fun e => Classical.byContradiction (fun e2 => e (q4 (by omega)).1), q3⟩
end SP
