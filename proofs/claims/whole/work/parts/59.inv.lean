/-! what holds between two calls: the states to go back to, the text, how often refused -/
def RG (ri rt rp : Int → Int → Int) (rq rf rl rs : Int → Int) (k : Int) : FSt := (ri k, rt k, rp k, rq k, rf k, rl k, rs k)
/-- the place of the ring that is k states back -/
def bkk (top k : Int) : Int := if k ≤ top then top - k else top - k + 6
def PRel (ri rt rp : Int → Int → Int) (rq rf rl rs : Int → Int) (top sts : Int) (pst : Int → Int) : Prop :=
  (0 ≤ top ∧ top ≤ 5) ∧ (0 ≤ sts ∧ sts ≤ 5) ∧ ∀ k : Int, 1 ≤ k → k ≤ sts → FIS (RG ri rt rp rq rf rl rs (bkk top k)) ∧ RNe (RG ri rt rp rq rf rl rs (bkk top k)) (fun j => pst (31 * (sts - k) + j))
def TXo (byt : Int → Int) (len : Int) : Prop := (0 ≤ len ∧ len ≤ 120) ∧ ∀ k : Int, 0 ≤ k → k < 120 → 0 ≤ byt k ∧ byt k ≤ 127
def RFo (n : Int) (rfs : Int → Int) : Prop := ∀ k : Int, 0 ≤ k → k < 3 → 0 ≤ rfs k ∧ rfs k ≤ n
theorem bkk_1 {top : Int} : bkk top 1 = tDn top ∨ ¬ (0 ≤ top ∧ top ≤ 5) := by
  unfold bkk tDn
  (repeat' split) <;> omega
theorem bkk_ne {top k : Int} (h0 : 1 ≤ k) (h1 : k ≤ 5) : bkk top k ≠ top := by
  unfold bkk
  split <;> omega
theorem bkk_up1 {top : Int} (h : 0 ≤ top ∧ top ≤ 5) : bkk (tUp top) 1 = top := by
  unfold bkk tUp
  (repeat' split) <;> omega
theorem bkk_up {top k : Int} (h : 0 ≤ top ∧ top ≤ 5) (h0 : 2 ≤ k) (h1 : k ≤ 5) : bkk (tUp top) k = bkk top (k - 1) := by
  unfold bkk tUp
  (repeat' split) <;> omega
theorem bkk_dn {top k : Int} (h : 0 ≤ top ∧ top ≤ 5) (h0 : 1 ≤ k) (h1 : k ≤ 4) : bkk (tDn top) k = bkk top (k + 1) := by
  unfold bkk tDn
  (repeat' split) <;> omega
theorem cpR_in {d s : Int → Int} {i j k : Int} (h0 : j ≤ k) (h1 : k < j + 31) : cpR d j s i k = s (i + (k - j)) := by
  unfold cpR
  rw [fillR_in h0 h1]
theorem cpR_out {d s : Int → Int} {i j k : Int} (h : k < j ∨ j + 31 ≤ k) : cpR d j s i k = d k := by
  unfold cpR
  rw [fillR_out h]
section IV
variable {ri rt rp : Int → Int → Int} {rq rf rl rs : Int → Int} {top sts : Int} {pst asd now : Int → Int}
theorem RG_top {a1 a2 a3 : Int → Int} {b1 b2 b3 b4 k : Int} (h : k = top) : RG (up ri top a1) (up rt top a2) (up rp top a3) (up rq top b1) (up rf top b2) (up rl top b3) (up rs top b4) k = (a1, a2, a3, b1, b2, b3, b4) := by
  subst h
  unfold RG
  rw [up_same, up_same, up_same, up_same, up_same, up_same, up_same]
theorem RG_ne {a1 a2 a3 : Int → Int} {b1 b2 b3 b4 k : Int} (h : k ≠ top) : RG (up ri top a1) (up rt top a2) (up rp top a3) (up rq top b1) (up rf top b2) (up rl top b3) (up rs top b4) k = RG ri rt rp rq rf rl rs k := by
  unfold RG
  rw [up_ne _ _ h, up_ne _ _ h, up_ne _ _ h, up_ne _ _ h, up_ne _ _ h, up_ne _ _ h, up_ne _ _ h]
theorem PRel_hold {a1 a2 a3 : Int → Int} {b1 b2 b3 b4 : Int} (h : PRel ri rt rp rq rf rl rs top sts pst) : PRel (up ri top a1) (up rt top a2) (up rp top a3) (up rq top b1) (up rf top b2) (up rl top b3) (up rs top b4) top sts pst := by
  obtain ⟨h1, h2, h3⟩ := h
  refine ⟨h1, h2, fun k k0 k1 => ?_⟩
  rw [RG_ne (bkk_ne k0 (by omega))]
  exact h3 k k0 k1
theorem sUp_eq (h : 0 ≤ sts ∧ sts ≤ 5) : sUp sts = if sts = 5 then 5 else sts + 1 := by
  unfold sUp
  (repeat' split) <;> omega
/-- a state is left -/
theorem PRel_keep {a : Int → Int} (h : PRel ri rt rp rq rf rl rs top sts pst) (hM : FM now) (ha : ∀ k : Int, 0 ≤ k → k < 31 → a k = now k) : PRel (up ri top (mI now)) (up rt top (mT now)) (up rp top (mP now)) (up rq top (now 0)) (up rf top (now 28)) (up rl top (now 29)) (up rs top (now 30)) (tUp top) (sUp sts) (mPast pst a sts 0) := by
  obtain ⟨h1, h2, h3⟩ := h
  have hs := sUp_eq h2
  have ht : 0 ≤ tUp top ∧ tUp top ≤ 5 := by unfold tUp; split <;> omega
  have hs2 : 0 ≤ sUp sts ∧ sUp sts ≤ 5 := by rw [hs]; split <;> omega
  have hp : mPast pst a sts 0 = if sts = 5 then cpR (fillR pst 0 124 (fun k => pst (k + 31))) 124 a 0 else cpR pst (31 * sts) a 0 := by
    unfold mPast
    rw [if_neg (by omega)]
  refine ⟨ht, hs2, fun k k0 k1 => ?_⟩
  by_cases hk : k = 1
  · rw [hk, RG_top (bkk_up1 h1)]
    refine ⟨hM, RNe_row (RNe_self now) (fun j j0 j1 => ?_)⟩
    show mPast pst a sts 0 (31 * (sUp sts - 1) + j) = now j
    rw [hp, hs, ← ha j j0 j1]
    by_cases h5 : sts = 5
    · rw [if_pos h5, if_pos h5, cpR_in (by omega) (by omega)]
      congr 1
      omega
    · rw [if_neg h5, if_neg h5, cpR_in (by omega) (by omega)]
      congr 1
      omega
  · have hb : bkk (tUp top) k = bkk top (k - 1) := bkk_up h1 (by omega) (by omega)
    have hk1 : k - 1 ≤ sts := by rw [hs] at k1; split at k1 <;> omega
    rw [hb, RG_ne (bkk_ne (by omega) (by omega))]
    obtain ⟨g1, g2⟩ := h3 (k - 1) (by omega) hk1
    refine ⟨g1, RNe_row g2 (fun j j0 j1 => ?_)⟩
    show mPast pst a sts 0 (31 * (sUp sts - k) + j) = pst (31 * (sts - (k - 1)) + j)
    rw [hp, hs]
    by_cases h5 : sts = 5
    · rw [if_pos h5, if_pos h5, cpR_out (by omega), fillR_in (by omega) (by omega)]
      congr 1
      omega
    · rw [if_neg h5, if_neg h5, cpR_out (by omega)]
      congr 1
      omega
theorem PRel_S {w : Int} (h : PRel ri rt rp rq rf rl rs top sts pst) (hM : FM now) : PRel (up ri top (mI now)) (up rt top (mT now)) (up rp top (mP now)) (up rq top (now 0)) (up rf top (now 28)) (up rl top (now 29)) (up rs top (now 30)) (sTop top w) (sSts sts w) (mPast pst (cpR asd 0 now 0) sts w) := by
  by_cases hw : w < -1
  · have e1 : sTop top w = top := by unfold sTop; rw [if_pos hw]
    have e2 : sSts sts w = sts := by unfold sSts; rw [if_pos hw]
    have e3 : mPast pst (cpR asd 0 now 0) sts w = pst := by unfold mPast; rw [if_pos (by omega)]
    rw [e1, e2, e3]
    exact PRel_hold h
  · have e1 : sTop top w = tUp top := by unfold sTop; rw [if_neg hw]
    have e2 : sSts sts w = sUp sts := by unfold sSts; rw [if_neg hw]
    have e3 : mPast pst (cpR asd 0 now 0) sts w = mPast pst (cpR asd 0 now 0) sts 0 := by unfold mPast; rw [if_neg (by omega), if_neg (by omega : ¬ (0 : Int) ≤ -2)]
    rw [e1, e2, e3]
    exact PRel_keep h hM (fun k k0 k1 => cpR_at k0 k1)
theorem mSts_eq {w : Int} (h : 0 ≤ sts ∧ sts ≤ 5) : mSts sts w = sSts sts w := by
  unfold mSts sSts
  rw [sUp_eq h]
  by_cases hw : w < -1
  · rw [if_pos hw, if_pos (by omega)]
  · rw [if_neg hw, if_neg (by omega)]
theorem mRf_eq {rfs : Int → Int} {w : Int} : mRf rfs w = sRf rfs w := by
  unfold mRf sRf
  by_cases hw : w < -1
  · rw [if_pos hw, if_pos (by omega)]
  · rw [if_neg hw, if_neg (by omega)]
/-- a state back -/
theorem PRel_back (h : PRel ri rt rp rq rf rl rs top sts pst) : PRel ri rt rp rq rf rl rs (bkI sts top (tDn top)) (bkI sts sts (sts - 1)) pst := by
  obtain ⟨h1, h2, h3⟩ := id h
  unfold bkI
  by_cases h0 : sts = 0
  · rw [if_pos h0, if_pos h0]
    exact h
  · rw [if_neg h0, if_neg h0]
    refine ⟨by unfold tDn; split <;> omega, by omega, fun k k0 k1 => ?_⟩
    rw [bkk_dn h1 k0 (by omega)]
    obtain ⟨g1, g2⟩ := h3 (k + 1) (by omega) (by omega)
    refine ⟨g1, RNe_row g2 (fun j j0 j1 => ?_)⟩
    show pst (31 * (sts - 1 - k) + j) = pst (31 * (sts - (k + 1)) + j)
    congr 1
    omega
theorem RN_back (h : PRel ri rt rp rq rf rl rs top sts pst) (hM : FM now) : FI (bkF sts (mI now) (ri (tDn top))) (bkF sts (mT now) (rt (tDn top))) (bkF sts (mP now) (rp (tDn top))) (bkI sts (now 0) (rq (tDn top))) (bkI sts (now 28) (rf (tDn top))) (bkI sts (now 29) (rl (tDn top))) (bkI sts (now 30) (rs (tDn top))) ∧ RNe (bkF sts (mI now) (ri (tDn top)), bkF sts (mT now) (rt (tDn top)), bkF sts (mP now) (rp (tDn top)), bkI sts (now 0) (rq (tDn top)), bkI sts (now 28) (rf (tDn top)), bkI sts (now 29) (rl (tDn top)), bkI sts (now 30) (rs (tDn top))) (mBkN now pst sts) := by
  obtain ⟨h1, h2, h3⟩ := id h
  unfold bkF bkI mBkN
  by_cases h0 : sts = 0
  · simp only [if_pos h0]
    exact ⟨hM, RNe_self now⟩
  · simp only [if_neg h0]
    obtain ⟨g1, g2⟩ := h3 1 (by omega) (by omega)
    have e : bkk top 1 = tDn top := by
      rcases bkk_1 (top := top) with q | q
      · exact q
      · exact absurd h1 q
    rw [e] at g1 g2
    refine ⟨g1, RNe_row g2 (fun j j0 j1 => ?_)⟩
    rw [cpR_in (by omega) (by omega)]
    congr 1
    omega
end IV
theorem RFo_w {n m : Int} {rfs : Int → Int} (h : RFo n rfs) (hm : n ≤ m) : RFo m rfs := fun k k0 k1 => by
  have := h k k0 k1
  omega
theorem RFo_u {n : Int} {rfs : Int → Int} {w : Int} (h : RFo n rfs) (hw : -4 ≤ w ∧ w ≤ -2) : RFo (n + 3) (rfU rfs w) := fun k k0 k1 => by
  have h1 := h k k0 k1
  have h2 := h (-2 - w) (by omega) (by omega)
  unfold rfU
  by_cases e : k = -2 - w
  · rw [e, up_same]
    omega
  · rw [up_ne _ _ e]
    omega
theorem RFo_S {n : Int} {rfs : Int → Int} {w : Int} (h : RFo n rfs) (hw : -4 ≤ w) : RFo (n + 3) (sRf rfs w) := by
  unfold sRf
  split
  · exact RFo_u h (by omega)
  · exact RFo_w h (by omega)
theorem RFo_if {n : Int} {f g : Int → Int} {c : Prop} {d : Decidable c} (hf : RFo n f) (hg : RFo n g) : RFo n (@ite _ c d f g) := by
  split
  · exact hf
  · exact hg
theorem KOk_S {ind ind2 tot tot2 pri pri2 : Int → Int} {q q2 fr fr2 li li2 sh sh2 r : Int} {kn th : Bool} {row : Int → Int} {rows : Int} (h : KOk ind tot pri q fr li sh kn th row rows) (e : r < -1 → ind2 = ind ∧ tot2 = tot ∧ pri2 = pri ∧ q2 = q ∧ fr2 = fr ∧ li2 = li ∧ sh2 = sh) : KOk ind2 tot2 pri2 q2 fr2 li2 sh2 (sKn kn r) th row rows := by
  unfold sKn
  by_cases g : r < -1
  · obtain ⟨rfl, rfl, rfl, rfl, rfl, rfl, rfl⟩ := e g
    rw [if_pos g]
    exact h
  · rw [if_neg g]
    intro hh
    cases hh
theorem un_adds {i q : Int} {ind : Int → Int} (hq : 0 ≤ q) (g : xAdds_r i q < -1) : xAdds_ind i ind q = ind ∧ xAdds_q i q = q := by
  unfold xAdds_r at g
  unfold xAdds_ind xAdds_q
  by_cases h1 : 1 ≤ i ∧ i ≤ 99
  · by_cases h2 : 12 ≤ q
    · exact ⟨by rw [if_pos h1, if_pos h2], by rw [if_pos h1, if_pos h2]⟩
    · rw [if_pos h1, if_neg h2] at g
      omega
  · exact ⟨if_neg h1, if_neg h1⟩
theorem un_re {ind tot pri : Int → Int} {q fr li sh t i : Int} (H : FI ind tot pri q fr li sh) (g : xRe_r t i ind q < -1) : xRe_ind t i ind q = ind := by
  unfold xRe_r at g
  unfold xRe_ind
  have hq := H.q
  by_cases h1 : (0 ≤ t ∧ t ≤ q - 1) ∧ 1 ≤ i ∧ i ≤ 99
  · rw [if_pos h1] at g
    have := H.ind (t := t) (by omega) (by omega)
    omega
  · exact if_neg h1
theorem un_tl {ind tot pri : Int → Int} {q fr li sh v w : Int} (H : FI ind tot pri q fr li sh) (g : xTl_r v w tot q < -1) : xTl_tot v w tot q = tot := by
  unfold xTl_r at g
  unfold xTl_tot
  by_cases h1 : (0 ≤ v ∧ v ≤ 2) ∧ 0 ≤ w ∧ w ≤ 999
  · by_cases h2 : q < 4 * (v + 1)
    · rw [if_pos h1, if_pos h2]
    · rw [if_pos h1, if_neg h2] at g
      have := H.tot (v := v) (by omega) (by omega)
      omega
  · exact if_neg h1
theorem un_un {ind tot pri : Int → Int} {q fr li sh v : Int} (H : FI ind tot pri q fr li sh) (g : xUn_r v tot < -1) : xUn_tot v tot = tot := by
  unfold xUn_r at g
  unfold xUn_tot
  by_cases h1 : 0 ≤ v ∧ v ≤ 2
  · by_cases h2 : tot v = -1
    · rw [if_pos h1, if_pos h2]
    · rw [if_pos h1, if_neg h2] at g
      have := H.tot (v := v) (by omega) (by omega)
      omega
  · exact if_neg h1
theorem un_ic {pri : Int → Int} {q fr t on : Int} (g : xIc_r t on pri q fr < -1) : xIc_fr t on pri q fr = fr := by
  unfold xIc_r at g
  unfold xIc_fr
  by_cases h1 : (0 ≤ t ∧ t ≤ q - 1) ∧ 0 ≤ on ∧ on ≤ 1
  · by_cases h2 : pri t = -1
    · rw [if_pos h1, if_pos h2]
    · rw [if_pos h1, if_neg h2] at g
      have := bCnt_bd (xIcF fr t on)
      omega
  · exact if_neg h1
theorem un_bo {v li : Int} (hl : -1 ≤ li) (g : xBo_r v li < -1) : xBo_l v li = li := by
  unfold xBo_r at g
  unfold xBo_l
  by_cases h1 : -1 ≤ v ∧ v ≤ 24
  · rw [if_pos h1] at g
    omega
  · exact if_neg h1
theorem un_sh {v sh : Int} (hl : 0 ≤ sh) (g : xSh_r v sh < -1) : xSh_s v sh = sh := by
  unfold xSh_r at g
  unfold xSh_s
  by_cases h1 : 0 ≤ v ∧ v ≤ 1
  · rw [if_pos h1] at g
    omega
  · exact if_neg h1
theorem RN_unp (now : Int → Int) : RNe (mI now, mT now, fillI (mP now) (-1) 12, now 0, 0, now 29, now 30) (up (fillR now 16 12 (fun _ => -1)) 28 0) := by
  have e : ∀ k : Int, (k < 16 ∨ 28 < k) → up (fillR now 16 12 (fun _ => -1)) 28 0 k = now k := fun k hk => by
    rw [up_ne _ _ (by omega), fillR_out (by omega)]
  refine ⟨fun t t0 t1 => (e (1 + t) (by omega)).symm, fun t t0 t1 => (e (13 + t) (by omega)).symm, fun t t0 t1 => ?_, (e 0 (by omega)).symm, (up_same _ _ _).symm, (e 29 (by omega)).symm, (e 30 (by omega)).symm⟩
  show fillI (mP now) (-1) 12 t = up (fillR now 16 12 (fun _ => -1)) 28 0 (16 + t)
  rw [up_ne _ _ (by omega), fillR_in (by omega) (by omega)]
  unfold fillI
  rw [if_pos ⟨t0, t1⟩]
theorem TXo_ty {byt : Int → Int} {len c : Int} (h : TXo byt len) : TXo (tqTy byt len c) (lqTy len c) := by
  obtain ⟨h1, h2⟩ := id h
  unfold tqTy lqTy
  by_cases g : 0 ≤ c ∧ c ≤ 127
  · rw [if_pos g, if_pos g]
    by_cases g2 : 120 ≤ len
    · rw [if_pos g2, if_pos g2]
      exact h
    · rw [if_neg g2, if_neg g2]
      refine ⟨by omega, fun k k0 k1 => ?_⟩
      by_cases e : k = len
      · rw [e, up_same]
        omega
      · rw [up_ne _ _ e]
        exact h2 k k0 k1
  · rw [if_neg g, if_neg g]
    exact h
