/-! what is found depends on the figures that there are, and on no others -/
section CGR
variable {ind tot pri ind2 tot2 pri2 : Int → Int} {q fr lim un sh : Int}
def SmF (n : Int) (f g : Int → Int) : Prop := ∀ t : Int, 0 ≤ t → t < n → f t = g t
theorem loQ_cg (hi : SmF 12 ind ind2) (hp : SmF 12 pri pri2) {t : Int} (h0 : 0 ≤ t) (h1 : t < 12) : loQ ind pri fr lim t = loQ ind2 pri2 fr lim t ∧ hiQ ind pri fr lim t = hiQ ind2 pri2 fr lim t := by
  unfold loQ hiQ
  rw [hi t h0 h1, hp t h0 h1]
  exact ⟨rfl, rfl⟩
theorem yN_le (q v : Int) : yN q v ≤ 4 := by unfold yN; split <;> omega
theorem xInd_cg (hi : SmF 12 ind ind2) {v : Int} (h0 : 0 ≤ v) (h1 : v < 3) : xInd ind q v = xInd ind2 q v := by
  have hy := yN_le q v
  exact sumI_cong (fun k k0 k1 => hi _ (by omega) (by omega))
theorem xB_cg (ht : SmF 3 tot tot2) {v : Int} (h0 : 0 ≤ v) (h1 : v < 3) : xB tot un v = xB tot2 un v := by unfold xB; rw [ht v h0 h1]
theorem xGp_cg (hi : SmF 12 ind ind2) (ht : SmF 3 tot tot2) {v : Int} (h0 : 0 ≤ v) (h1 : v < 3) : xGp ind tot q un v = xGp ind2 tot2 q un v := by
  unfold xGp xGap
  rw [xB_cg ht h0 h1, xInd_cg hi h0 h1, ht v h0 h1]
theorem allN_cg {P Q : Int → Bool} : ∀ {n : Nat}, (∀ k : Int, 0 ≤ k → k < n → P k = Q k) → allN P n = allN Q n
  | 0, _ => rfl
  | n + 1, h => by rw [allN_s, allN_s, allN_cg (n := n) (fun k h0 h1 => h k h0 (by omega)), h n (by omega) (by omega)]
theorem xMt_cg (hi : SmF 12 ind ind2) (ht : SmF 3 tot tot2) (hp : SmF 12 pri pri2) (hq : q ≤ 12) : xMt ind tot pri q fr lim un = xMt ind2 tot2 pri2 q fr lim un := by
  unfold xMt
  rw [allN_cg (P := xQok ind pri fr lim) (Q := xQok ind2 pri2 fr lim) (fun k h0 h1 => by unfold xQok; rw [(loQ_cg hi hp h0 (by omega)).1, (loQ_cg hi hp h0 (by omega)).2]), allN_cg (P := xY ind tot pri q fr lim un) (Q := xY ind2 tot2 pri2 q fr lim un) (fun k h0 h1 => ?_)]
  unfold xY
  rw [xB_cg ht h0 (by omega), xGp_cg hi ht h0 (by omega)]
  exact xLy_cong (fun _ j j0 j1 => loQ_cg hi hp (by omega) (by omega))
theorem xLL_cg (hi : SmF 12 ind ind2) (ht : SmF 3 tot tot2) (hp : SmF 12 pri pri2) {t : Int} (h0 : 0 ≤ t) (h1 : t < 12) : xLL ind tot pri q fr lim un t = xLL ind2 tot2 pri2 q fr lim un t ∧ xLH ind tot pri q fr lim un t = xLH ind2 tot2 pri2 q fr lim un t := by
  unfold xLL xLH
  rw [xB_cg ht (show 0 ≤ t / 4 by omega) (by omega), xGp_cg hi ht (show 0 ≤ t / 4 by omega) (by omega)]
  exact aL_cong (fun _ j j0 j1 => loQ_cg hi hp (by omega) (by omega)) _ (by omega)
theorem chs_ind {low high ll lh : Int → Int} {bnd : Int → Bool} {gap : Int → Int} (hi : SmF 12 ind ind2) : ∀ (k : Nat) (u d lf : Int), 0 ≤ u → u + k ≤ 12 → chs ind sh low high ll lh bnd gap k u d lf = chs ind2 sh low high ll lh bnd gap k u d lf
  | 0, _, _, _, _, _ => rfl
  | k + 1, u, d, lf, h0, h1 => by
    rw [chs_s, chs_s]
    refine chF_cong (fun e _ _ => ?_)
    have es : stC ind sh u d e = stC ind2 sh u d e := by
      unfold stC stP
      by_cases hu : 0 < u
      · rw [if_pos hu, if_pos hu, hi (u - 1) (by omega) (by omega), hi u (by omega) (by omega)]
      · rw [if_neg hu, if_neg hu]
    rw [es, chs_ind hi k (u + 1) e _ (by omega) (by omega)]
    exact ⟨rfl, rfl⟩
theorem xCh_cg (hi : SmF 12 ind ind2) (ht : SmF 3 tot tot2) (hp : SmF 12 pri pri2) (hq : q ≤ 12) (k : Nat) (u d lf : Int) (h0 : 0 ≤ u) (h1 : u + k ≤ q) : xCh ind tot pri q fr lim un sh k u d lf = xCh ind2 tot2 pri2 q fr lim un sh k u d lf := by
  unfold xCh
  rw [chs_ind hi k u d lf h0 (by omega)]
  exact chs_cong hq (fun t t0 t1 => ⟨(loQ_cg hi hp t0 (by omega)).1, (loQ_cg hi hp t0 (by omega)).2, (xLL_cg hi ht hp t0 (by omega)).1, (xLL_cg hi ht hp t0 (by omega)).2⟩) (fun v v0 v1 => ⟨xB_cg ht v0 v1, xGp_cg hi ht v0 v1⟩) k u d lf h0 h1
theorem xRd_cg (hi : SmF 12 ind ind2) (ht : SmF 3 tot tot2) (hp : SmF 12 pri pri2) (hq : q ≤ 12) : ∀ n : Nat, (n : Int) ≤ q → xRd ind tot pri q fr lim un sh n = xRd ind2 tot2 pri2 q fr lim un sh n
  | 0, _ => rfl
  | n + 1, h => by
    rw [xRd_s, xRd_s, xRd_cg hi ht hp hq n (by omega), xCh_cg hi ht hp hq _ n _ _ (by omega) (by omega)]
    unfold nL lAh
    rw [xB_cg ht (show 0 ≤ (n : Int) / 4 by omega) (by omega), xGp_cg hi ht (show 0 ≤ (n : Int) / 4 by omega) (by omega)]
theorem xRow_cg (hi : SmF 12 ind ind2) (ht : SmF 3 tot tot2) (hp : SmF 12 pri pri2) (hq : q ≤ 12) {t : Int} (h0 : 0 ≤ t) (h1 : t < q) : xRow ind tot pri q fr lim sh t = xRow ind2 tot2 pri2 q fr lim sh t := by
  unfold xRow
  rw [hi t h0 (by omega), xRd_cg hi ht hp hq _ (by omega)]
theorem xWays_cg (hi : SmF 12 ind ind2) (ht : SmF 3 tot tot2) (hp : SmF 12 pri pri2) (h0 : 0 ≤ q) (hq : q ≤ 12) : xWays ind tot pri q fr lim sh = xWays ind2 tot2 pri2 q fr lim sh := by
  unfold xWays
  rw [xCh_cg hi ht hp hq _ 0 0 0 (by omega) (by omega)]
theorem KOk_cg {kn th : Bool} {row : Int → Int} {rows : Int} (hi : SmF 12 ind ind2) (ht : SmF 3 tot tot2) (hp : SmF 12 pri pri2) (h0 : 0 ≤ q) (hq : q ≤ 12) (h : KOk ind tot pri q fr lim sh kn th row rows) : KOk ind2 tot2 pri2 q fr lim sh kn th row rows := by
  intro hk
  obtain ⟨h1, h2⟩ := h hk
  refine ⟨by rw [h1]; exact xMt_cg hi ht hp hq, fun hth => ?_⟩
  obtain ⟨h3, h4⟩ := h2 hth
  exact ⟨fun t t0 t1 => by rw [h3 t t0 t1]; exact xRow_cg hi ht hp hq t0 t1, by rw [h4]; exact xWays_cg hi ht hp h0 hq⟩
end CGR
/-- the reference's row tells these figures -/
def RNe (S : FSt) (now : Int → Int) : Prop := SmF 12 S.1 (mI now) ∧ SmF 3 S.2.1 (mT now) ∧ SmF 12 S.2.2.1 (mP now) ∧ S.2.2.2.1 = now 0 ∧ S.2.2.2.2.1 = now 28 ∧ S.2.2.2.2.2.1 = now 29 ∧ S.2.2.2.2.2.2 = now 30
theorem RNe_self (now : Int → Int) : RNe (mI now, mT now, mP now, now 0, now 28, now 29, now 30) now := ⟨fun _ _ _ => rfl, fun _ _ _ => rfl, fun _ _ _ => rfl, rfl, rfl, rfl, rfl⟩
theorem RNe_FM {S : FSt} {now : Int → Int} (h : RNe S now) (H : FIS S) : FM now := by
  obtain ⟨r1, r2, r3, r4, r5, r6, r7⟩ := h
  obtain ⟨h1, h2, h3, h4, h5, h6, h7⟩ := H
  rw [r4] at h1 h2 h3
  rw [r5] at h5
  rw [r6] at h6
  rw [r7] at h7
  exact ⟨h1, fun t t0 t1 => by rw [← r1 t t0 t1]; exact h2 t t0 t1, fun v v0 v1 => by rw [← r2 v v0 v1]; exact h3 v v0 v1, fun t t0 t1 => by rw [← r3 t t0 t1]; exact h4 t t0 t1, h5, h6, h7⟩
/-- an order to the reference -/
def mOb (c a b : Int) (now : Int → Int) : Int × (Int → Int) :=
  if c = 113 then (xAdds_r a (now 0), mAdds a now) else
  if c = 116 then (xTl_r a b (mT now) (now 0), mTl a b now) else
  if c = 110 then (xUn_r a (mT now), mUn a now) else
  if c = 122 then (mIcR a b now, mIc a b now) else
  if c = 108 then (xBo_r a (now 29), mBo a now) else
  if c = 111 then (xBo_r (-1) (now 29), mBo (-1) now) else
  if c = 102 then (xSh_r a (now 30), mSh a now) else
  (xPr_r (mI now) (mT now) (mP now) (now 0) (now 28) (now 29), mPub now)
theorem mI_up {now : Int → Int} {k v : Int} (h : k < 1 ∨ 13 ≤ k) : SmF 12 (mI (up now k v)) (mI now) := fun t h0 h1 => by unfold mI; exact up_ne _ _ (by omega)
theorem mT_up {now : Int → Int} {k v : Int} (h : k < 13 ∨ 16 ≤ k) : SmF 3 (mT (up now k v)) (mT now) := fun t h0 h1 => by unfold mT; exact up_ne _ _ (by omega)
theorem mP_up {now : Int → Int} {k v : Int} (h : k < 16 ∨ 28 ≤ k) : SmF 12 (mP (up now k v)) (mP now) := fun t h0 h1 => by unfold mP; exact up_ne _ _ (by omega)
theorem SmF.tr {n : Int} {f g h : Int → Int} (a : SmF n f g) (b : SmF n g h) : SmF n f h := fun t h0 h1 => (a t h0 h1).trans (b t h0 h1)
theorem SmF.sy {n : Int} {f g : Int → Int} (a : SmF n f g) : SmF n g f := fun t h0 h1 => (a t h0 h1).symm
section RNP
variable {ind tot pri now : Int → Int} {q fr li sh : Int}
theorem RN_adds {i : Int} (H : FI ind tot pri q fr li sh) (h : RNe (ind, tot, pri, q, fr, li, sh) now) : xAdds_r i q = xAdds_r i (now 0) ∧ RNe (xAdds_ind i ind q, tot, pri, xAdds_q i q, fr, li, sh) (mAdds i now) := by
  obtain ⟨r1, r2, r3, r4, r5, r6, r7⟩ := h
  dsimp only at r1 r2 r3 r4 r5 r6 r7
  have hq := H.q
  refine ⟨by rw [r4], ?_⟩
  unfold xAdds_ind xAdds_q mAdds RNe
  dsimp only
  by_cases h1 : 1 ≤ i ∧ i ≤ 99
  · rw [if_pos h1, if_pos h1, if_pos h1]
    by_cases h2 : 12 ≤ q
    · rw [if_pos h2, if_pos h2, if_pos (by omega)]
      exact ⟨r1, r2, r3, r4, r5, r6, r7⟩
    · rw [if_neg h2, if_neg h2, if_neg (by omega)]
      refine ⟨fun t t0 t1 => ?_, r2.tr ((mT_up (by omega)).tr (mT_up (by omega))).sy, r3.tr ((mP_up (by omega)).tr (mP_up (by omega))).sy, ?_, ?_, ?_, ?_⟩
      · rw [← r4]
        unfold mI
        rw [show up (up now (1 + q) i) 0 (q + 1) (1 + t) = up now (1 + q) i (1 + t) from up_ne _ _ (by omega)]
        by_cases e : t = q
        · rw [e, up_same, up_same]
        · rw [up_ne _ _ e, up_ne _ _ (by omega)]
          exact r1 t t0 t1
      · rw [up_same, r4]
      · rw [up_ne _ _ (by omega), up_ne _ _ (by omega), r5]
      · rw [up_ne _ _ (by omega), up_ne _ _ (by omega), r6]
      · rw [up_ne _ _ (by omega), up_ne _ _ (by omega), r7]
  · rw [if_neg h1, if_neg h1, if_neg h1]
    exact ⟨r1, r2, r3, r4, r5, r6, r7⟩
theorem RN_re {t i : Int} (H : FI ind tot pri q fr li sh) (h : RNe (ind, tot, pri, q, fr, li, sh) now) : xRe_r t i ind q = xRe_r t i (mI now) (now 0) ∧ RNe (xRe_ind t i ind q, tot, pri, q, fr, li, sh) (mRe t i now) := by
  obtain ⟨r1, r2, r3, r4, r5, r6, r7⟩ := h
  dsimp only at r1 r2 r3 r4 r5 r6 r7
  have hq := H.q
  unfold xRe_r xRe_ind mRe RNe
  dsimp only
  rw [← r4]
  by_cases h1 : (0 ≤ t ∧ t ≤ q - 1) ∧ 1 ≤ i ∧ i ≤ 99
  · rw [if_pos h1, if_pos h1, if_pos h1, if_pos h1]
    refine ⟨r1 t (by omega) (by omega), fun u t0 t1 => ?_, r2.tr (mT_up (by omega)).sy, r3.tr (mP_up (by omega)).sy, ?_, ?_, ?_, ?_⟩
    · unfold mI
      by_cases e : u = t
      · rw [e, up_same, up_same]
      · rw [up_ne _ _ e, up_ne _ _ (by omega)]
        exact r1 u t0 t1
    · rw [up_ne _ _ (by omega), r4]
    · rw [up_ne _ _ (by omega), r5]
    · rw [up_ne _ _ (by omega), r6]
    · rw [up_ne _ _ (by omega), r7]
  · rw [if_neg h1, if_neg h1, if_neg h1, if_neg h1]
    exact ⟨rfl, r1, r2, r3, r4, r5, r6, r7⟩
theorem RN_tl {v w : Int} (H : FI ind tot pri q fr li sh) (h : RNe (ind, tot, pri, q, fr, li, sh) now) : xTl_r v w tot q = xTl_r v w (mT now) (now 0) ∧ RNe (ind, xTl_tot v w tot q, pri, q, fr, li, sh) (mTl v w now) := by
  obtain ⟨r1, r2, r3, r4, r5, r6, r7⟩ := h
  dsimp only at r1 r2 r3 r4 r5 r6 r7
  have hq := H.q
  unfold xTl_r xTl_tot mTl RNe
  dsimp only
  rw [← r4]
  by_cases h1 : (0 ≤ v ∧ v ≤ 2) ∧ 0 ≤ w ∧ w ≤ 999
  · rw [if_pos h1, if_pos h1, if_pos h1, if_pos h1]
    by_cases h2 : q < 4 * (v + 1)
    · rw [if_pos h2, if_pos h2, if_pos h2, if_pos (by omega)]
      exact ⟨rfl, r1, r2, r3, r4, r5, r6, r7⟩
    · rw [if_neg h2, if_neg h2, if_neg h2, if_neg (by omega)]
      refine ⟨r2 v (by omega) (by omega), r1.tr (mI_up (by omega)).sy, fun u t0 t1 => ?_, r3.tr (mP_up (by omega)).sy, ?_, ?_, ?_, ?_⟩
      · unfold mT
        by_cases e : u = v
        · rw [e, up_same, up_same]
        · rw [up_ne _ _ e, up_ne _ _ (by omega)]
          exact r2 u t0 t1
      · rw [up_ne _ _ (by omega), r4]
      · rw [up_ne _ _ (by omega), r5]
      · rw [up_ne _ _ (by omega), r6]
      · rw [up_ne _ _ (by omega), r7]
  · rw [if_neg h1, if_neg h1, if_neg h1, if_neg h1]
    exact ⟨rfl, r1, r2, r3, r4, r5, r6, r7⟩
theorem RN_un {v : Int} (h : RNe (ind, tot, pri, q, fr, li, sh) now) : xUn_r v tot = xUn_r v (mT now) ∧ RNe (ind, xUn_tot v tot, pri, q, fr, li, sh) (mUn v now) := by
  obtain ⟨r1, r2, r3, r4, r5, r6, r7⟩ := h
  dsimp only at r1 r2 r3 r4 r5 r6 r7
  unfold xUn_r xUn_tot mUn RNe
  dsimp only
  by_cases h1 : 0 ≤ v ∧ v ≤ 2
  · rw [if_pos h1, if_pos h1, if_pos h1, if_pos h1, ← r2 v (by omega) (by omega)]
    refine ⟨rfl, r1.tr (mI_up (by omega)).sy, fun u t0 t1 => ?_, r3.tr (mP_up (by omega)).sy, ?_, ?_, ?_, ?_⟩
    · by_cases e : u = v
      · rw [e]
        unfold mT
        rw [up_same]
        split
        · rename_i g; exact g
        · rw [up_same]
      · have e2 : mT (up now (13 + v) (-1)) u = mT now u := by unfold mT; exact up_ne _ _ (by omega)
        rw [e2, ← r2 u t0 t1]
        split
        · rfl
        · rw [up_ne _ _ e]
    · rw [up_ne _ _ (by omega), r4]
    · rw [up_ne _ _ (by omega), r5]
    · rw [up_ne _ _ (by omega), r6]
    · rw [up_ne _ _ (by omega), r7]
  · rw [if_neg h1, if_neg h1, if_neg h1, if_neg h1]
    exact ⟨rfl, r1, r2, r3, r4, r5, r6, r7⟩
theorem RN_ic {t on : Int} (H : FI ind tot pri q fr li sh) (h : RNe (ind, tot, pri, q, fr, li, sh) now) : xIc_r t on pri q fr = mIcR t on now ∧ RNe (ind, tot, pri, q, xIc_fr t on pri q fr, li, sh) (mIc t on now) := by
  have H2 := FI_ic (t := t) (on := on) H
  obtain ⟨r1, r2, r3, r4, r5, r6, r7⟩ := h
  dsimp only at r1 r2 r3 r4 r5 r6 r7
  have hq := H.q
  have hfr := H2.fr
  unfold xIc_fr at hfr
  unfold xIc_r xIc_fr mIcR mIc RNe
  dsimp only
  rw [← r4, ← r5]
  by_cases h1 : (0 ≤ t ∧ t ≤ q - 1) ∧ 0 ≤ on ∧ on ≤ 1
  · rw [if_pos h1] at hfr
    rw [if_pos h1, if_pos h1, if_pos h1, if_pos h1]
    have e : pri t = now (16 + t) := r3 t (by omega) (by omega)
    rw [← e]
    by_cases h2 : pri t = -1
    · rw [if_pos h2, if_pos h2, if_pos h2, if_pos h2]
      exact ⟨rfl, r1, r2, r3, r4, r5, r6, r7⟩
    · rw [if_neg h2] at hfr
      rw [if_neg h2, if_neg h2, if_neg h2, if_neg h2]
      refine ⟨bCnt_on hfr.1 hfr.2, r1.tr (mI_up (by omega)).sy, r2.tr (mT_up (by omega)).sy, r3.tr (mP_up (by omega)).sy, ?_, ?_, ?_, ?_⟩
      · rw [up_ne _ _ (by omega), r4]
      · rw [up_same]
      · rw [up_ne _ _ (by omega), r6]
      · rw [up_ne _ _ (by omega), r7]
  · rw [if_neg h1, if_neg h1, if_neg h1, if_neg h1]
    exact ⟨rfl, r1, r2, r3, r4, r5, r6, r7⟩
theorem RN_bo {v : Int} (h : RNe (ind, tot, pri, q, fr, li, sh) now) : xBo_r v li = xBo_r v (now 29) ∧ RNe (ind, tot, pri, q, fr, xBo_l v li, sh) (mBo v now) := by
  obtain ⟨r1, r2, r3, r4, r5, r6, r7⟩ := h
  dsimp only at r1 r2 r3 r4 r5 r6 r7
  refine ⟨by rw [r6], ?_⟩
  unfold xBo_l mBo RNe
  dsimp only
  split
  · refine ⟨r1.tr (mI_up (by omega)).sy, r2.tr (mT_up (by omega)).sy, r3.tr (mP_up (by omega)).sy, ?_, ?_, ?_, ?_⟩
    · rw [up_ne _ _ (by omega), r4]
    · rw [up_ne _ _ (by omega), r5]
    · rw [up_same]
    · rw [up_ne _ _ (by omega), r7]
  · exact ⟨r1, r2, r3, r4, r5, r6, r7⟩
theorem RN_sh {v : Int} (h : RNe (ind, tot, pri, q, fr, li, sh) now) : xSh_r v sh = xSh_r v (now 30) ∧ RNe (ind, tot, pri, q, fr, li, xSh_s v sh) (mSh v now) := by
  obtain ⟨r1, r2, r3, r4, r5, r6, r7⟩ := h
  dsimp only at r1 r2 r3 r4 r5 r6 r7
  refine ⟨by rw [r7], ?_⟩
  unfold xSh_s mSh RNe
  dsimp only
  split
  · refine ⟨r1.tr (mI_up (by omega)).sy, r2.tr (mT_up (by omega)).sy, r3.tr (mP_up (by omega)).sy, ?_, ?_, ?_, ?_⟩
    · rw [up_ne _ _ (by omega), r4]
    · rw [up_ne _ _ (by omega), r5]
    · rw [up_ne _ _ (by omega), r6]
    · rw [up_same]
  · exact ⟨r1, r2, r3, r4, r5, r6, r7⟩
theorem RN_pr (H : FI ind tot pri q fr li sh) (h : RNe (ind, tot, pri, q, fr, li, sh) now) : xPr_r ind tot pri q fr li = xPr_r (mI now) (mT now) (mP now) (now 0) (now 28) (now 29) ∧ RNe (ind, tot, xPr_p ind tot pri q fr li sh, q, fr, li, sh) (mPub now) := by
  obtain ⟨r1, r2, r3, r4, r5, r6, r7⟩ := h
  dsimp only at r1 r2 r3 r4 r5 r6 r7
  have hq := H.q
  have hm := xMt_cg (q := q) (fr := fr) (lim := li) (un := -1) r1 r2 r3 hq.2
  unfold xPr_r xPr_p mPub RNe
  dsimp only
  rw [hm, ← r4, ← r5, ← r6, ← r7]
  refine ⟨rfl, ?_⟩
  split
  · rename_i g
    refine ⟨fun t t0 t1 => ?_, fun v t0 t1 => ?_, fun t t0 t1 => ?_, ?_, ?_, ?_, ?_⟩
    · unfold mI; rw [fillR_out (by omega)]; exact r1 t t0 t1
    · unfold mT; rw [fillR_out (by omega)]; exact r2 v t0 t1
    · unfold mP
      by_cases e : t < q
      · rw [fillR_in t0 (by omega), fillR_in (by omega) (by omega), show 16 + t - 16 = t by omega, xRow_cg r1 r2 r3 hq.2 t0 e]
        rfl
      · rw [fillR_out (by omega), fillR_out (by omega)]; exact r3 t t0 t1
    · rw [fillR_out (by omega), r4]
    · rw [fillR_out (by omega), r5]
    · rw [fillR_out (by omega), r6]
    · rw [fillR_out (by omega), r7]
  · exact ⟨r1, r2, r3, r4, r5, r6, r7⟩
end RNP
theorem RN_ob {c a b : Int} {S : FSt} {now : Int → Int} (H : FIS S) (h : RNe S now) (hc : xNum c ≠ -1) : (xObS c a b S).1 = (mOb c a b now).1 ∧ RNe (xObS c a b S).2 (mOb c a b now).2 := by
  obtain ⟨ind, tot, pri, q, fr, li, sh⟩ := S
  unfold xObS xOb mOb
  dsimp only
  by_cases c1 : c = 113
  · rw [if_pos c1, if_pos c1]; exact RN_adds H h
  rw [if_neg c1, if_neg c1]
  by_cases c2 : c = 116
  · rw [if_pos c2, if_pos c2]; exact RN_tl H h
  rw [if_neg c2, if_neg c2]
  by_cases c3 : c = 110
  · rw [if_pos c3, if_pos c3]; exact RN_un h
  rw [if_neg c3, if_neg c3]
  by_cases c4 : c = 122
  · rw [if_pos c4, if_pos c4]; exact RN_ic H h
  rw [if_neg c4, if_neg c4]
  by_cases c5 : c = 108
  · rw [if_pos c5, if_pos c5]; exact RN_bo h
  rw [if_neg c5, if_neg c5]
  by_cases c6 : c = 111
  · rw [if_pos c6, if_pos c6]; exact RN_bo (v := -1) h
  rw [if_neg c6, if_neg c6]
  by_cases c7 : c = 102
  · rw [if_pos c7, if_pos c7]; exact RN_sh h
  rw [if_neg c7, if_neg c7]
  have c8 : c = 112 := by
    unfold xNum at hc
    (repeat' split at hc) <;> omega
  rw [if_pos c8]; exact RN_pr H h
