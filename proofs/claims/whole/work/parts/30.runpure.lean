/-! the figures keep to what they keep to; orders; the digest -/
theorem FI_adds {ind tot pri : Int → Int} {q fr li sh i : Int} (H : FI ind tot pri q fr li sh) : FI (xAdds_ind i ind q) tot pri (xAdds_q i q) fr li sh := by
  obtain ⟨h1, h2, h3, h4, h5, h6, h7⟩ := H
  unfold xAdds_ind xAdds_q
  by_cases c : 1 ≤ i ∧ i ≤ 99
  · rw [if_pos c, if_pos c]
    by_cases c2 : 12 ≤ q
    · rw [if_pos c2, if_pos c2]; exact ⟨h1, h2, h3, h4, h5, h6, h7⟩
    · rw [if_neg c2, if_neg c2]
      refine ⟨⟨by omega, by omega⟩, fun t t0 t1 => ?_, fun v v0 v1 => ?_, h4, h5, h6, h7⟩
      · by_cases e : t = q
        · subst e; rw [up_same]; exact ⟨by omega, by omega, fun _ => by omega⟩
        · rw [up_ne ind i e]
          have := h2 t t0 t1
          exact ⟨this.1, this.2.1, fun h => this.2.2 (by omega)⟩
      · have := h3 v v0 v1
        exact ⟨this.1, this.2.1, fun h => by have := this.2.2 h; omega⟩
  · rw [if_neg c, if_neg c]; exact ⟨h1, h2, h3, h4, h5, h6, h7⟩
theorem FI_re {ind tot pri : Int → Int} {q fr li sh t i : Int} (H : FI ind tot pri q fr li sh) : FI (xRe_ind t i ind q) tot pri q fr li sh := by
  obtain ⟨h1, h2, h3, h4, h5, h6, h7⟩ := H
  unfold xRe_ind
  split
  · rename_i c
    refine ⟨h1, fun u u0 u1 => ?_, h3, h4, h5, h6, h7⟩
    by_cases e : u = t
    · subst e; rw [up_same]; exact ⟨by omega, by omega, fun _ => by omega⟩
    · rw [up_ne ind i e]; exact h2 u u0 u1
  · exact ⟨h1, h2, h3, h4, h5, h6, h7⟩
theorem FI_tl {ind tot pri : Int → Int} {q fr li sh v w : Int} (H : FI ind tot pri q fr li sh) : FI ind (xTl_tot v w tot q) pri q fr li sh := by
  obtain ⟨h1, h2, h3, h4, h5, h6, h7⟩ := H
  unfold xTl_tot
  split
  · split
    · exact ⟨h1, h2, h3, h4, h5, h6, h7⟩
    · refine ⟨h1, h2, fun u u0 u1 => ?_, h4, h5, h6, h7⟩
      by_cases e : u = v
      · subst e; rw [up_same]; exact ⟨by omega, by omega, fun _ => by omega⟩
      · rw [up_ne tot w e]; exact h3 u u0 u1
  · exact ⟨h1, h2, h3, h4, h5, h6, h7⟩
theorem FI_un {ind tot pri : Int → Int} {q fr li sh v : Int} (H : FI ind tot pri q fr li sh) : FI ind (xUn_tot v tot) pri q fr li sh := by
  obtain ⟨h1, h2, h3, h4, h5, h6, h7⟩ := H
  unfold xUn_tot
  split
  · split
    · exact ⟨h1, h2, h3, h4, h5, h6, h7⟩
    · refine ⟨h1, h2, fun u u0 u1 => ?_, h4, h5, h6, h7⟩
      by_cases e : u = v
      · subst e; rw [up_same]; exact ⟨by omega, by omega, fun h => absurd rfl h⟩
      · rw [up_ne tot (-1) e]; exact h3 u u0 u1
  · exact ⟨h1, h2, h3, h4, h5, h6, h7⟩
theorem i32_small {x : Int32} (h : x.toBitVec.toNat < 4096) : 0 ≤ x.toInt ∧ x.toInt < 4096 := by
  have e : x.toInt = (x.toBitVec.toNat : Int) := BitVec.toInt_eq_toNat_of_lt (by omega)
  omega
theorem iI_bv {a : Int} (h0 : 0 ≤ a) (h1 : a < 4096) : (iI a).toBitVec.toNat < 4096 := by
  have e : iI a = nI a.toNat := by
    have : a = ((a.toNat : Nat) : Int) := by omega
    rw [this]
    exact Int32.ofInt_eq_ofNat
  rw [e, pk_tn (by omega)]
  omega
theorem bAnd_lt {a b : Int} (h0 : 0 ≤ a) (h1 : a < 4096) : 0 ≤ bAnd a b ∧ bAnd a b < 4096 := by
  refine i32_small ?_
  show ((iI a).toBitVec &&& (iI b).toBitVec).toNat < 4096
  rw [BitVec.toNat_and]
  exact Nat.lt_of_le_of_lt Nat.and_le_left (iI_bv h0 h1)
theorem bOr_lt {a b : Int} (h0 : 0 ≤ a) (h1 : a < 4096) (h2 : 0 ≤ b) (h3 : b < 4096) : 0 ≤ bOr a b ∧ bOr a b < 4096 := by
  refine i32_small ?_
  show ((iI a).toBitVec ||| (iI b).toBitVec).toNat < 4096
  rw [BitVec.toNat_or]
  exact Nat.or_lt_two_pow (n := 12) (iI_bv h0 h1) (iI_bv h2 h3)
theorem bShl_12 : ∀ t : Nat, t < 12 → 0 ≤ bShl 1 t ∧ bShl 1 t < 4096 := by decide +kernel
theorem icF_bd {t fr : Int} (h0 : 0 ≤ t) (h1 : t < 12) (h2 : 0 ≤ fr) (h3 : fr < 4096) : (0 ≤ xIcF fr t 1 ∧ xIcF fr t 1 < 4096) ∧ (0 ≤ xIcF fr t 0 ∧ xIcF fr t 0 < 4096) := by
  have h := bShl_12 t.toNat (by omega)
  rw [show ((t.toNat : Nat) : Int) = t by omega] at h
  unfold xIcF
  rw [if_pos rfl, if_neg (by decide)]
  exact ⟨bOr_lt h2 h3 h.1 h.2, bAnd_lt h2 h3⟩
theorem FI_ic {ind tot pri : Int → Int} {q fr li sh t on : Int} (H : FI ind tot pri q fr li sh) : FI ind tot pri q (xIc_fr t on pri q fr) li sh := by
  obtain ⟨h1, h2, h3, h4, h5, h6, h7⟩ := H
  refine ⟨h1, h2, h3, h4, ?_, h6, h7⟩
  unfold xIc_fr
  split
  · split
    · exact h5
    · rename_i c c2
      have h := icF_bd (t := t) (fr := fr) (by omega) (by omega) h5.1 h5.2
      rcases (show on = 1 ∨ on = 0 by omega) with rfl | rfl
      · exact h.1
      · exact h.2
  · exact h5
theorem FI_bo {ind tot pri : Int → Int} {q fr li sh v : Int} (H : FI ind tot pri q fr li sh) : FI ind tot pri q fr (xBo_l v li) sh := by
  obtain ⟨h1, h2, h3, h4, h5, h6, h7⟩ := H
  refine ⟨h1, h2, h3, h4, h5, ?_, h7⟩
  unfold xBo_l
  split <;> omega
theorem FI_sh {ind tot pri : Int → Int} {q fr li sh v : Int} (H : FI ind tot pri q fr li sh) : FI ind tot pri q fr li (xSh_s v sh) := by
  obtain ⟨h1, h2, h3, h4, h5, h6, h7⟩ := H
  refine ⟨h1, h2, h3, h4, h5, h6, ?_⟩
  unfold xSh_s
  split <;> omega
theorem FI_unp {ind tot pri : Int → Int} {q fr li sh : Int} (H : FI ind tot pri q fr li sh) : FI ind tot (fillI pri (-1) 12) q 0 li sh := by
  obtain ⟨h1, h2, h3, h4, h5, h6, h7⟩ := H
  exact ⟨h1, h2, h3, fun t t0 t1 => Or.inl (by unfold fillI; rw [if_pos ⟨t0, t1⟩]), ⟨by omega, by omega⟩, h6, h7⟩
/-- publishing -/
def xPr_r (ind tot pri : Int → Int) (q fr li : Int) : Int := if xMt ind tot pri q fr li (-1) = true then q else -3
def xPr_p (ind tot pri : Int → Int) (q fr li sh : Int) : Int → Int := if xMt ind tot pri q fr li (-1) = true then fillR pri 0 q (fun t => xRow ind tot pri q fr li sh t + 8) else pri
theorem FI_pr {ind tot pri : Int → Int} {q fr li sh : Int} (H : FI ind tot pri q fr li sh) : FI ind tot (xPr_p ind tot pri q fr li sh) q fr li sh := by
  have H' := H
  obtain ⟨h1, h2, h3, h4, h5, h6, h7⟩ := H
  refine ⟨h1, h2, h3, fun t t0 t1 => ?_, h5, h6, h7⟩
  unfold xPr_p
  split
  · rename_i hm
    by_cases c : t < q
    · rw [fillR_in t0 (by omega)]
      have := xRow_bd (sh := sh) H' h6 hm t0 c
      exact Or.inr ⟨by omega, by omega⟩
    · rw [fillR_out (by omega)]; exact h4 t t0 t1
  · exact h4 t t0 t1
/-- an order -/
abbrev FSt : Type := (Int → Int) × (Int → Int) × (Int → Int) × Int × Int × Int × Int
def xOb (c a b : Int) (ind tot pri : Int → Int) (q fr li sh : Int) : Int × FSt :=
  if c = 113 then (xAdds_r a q, (xAdds_ind a ind q, tot, pri, xAdds_q a q, fr, li, sh)) else
  if c = 116 then (xTl_r a b tot q, (ind, xTl_tot a b tot q, pri, q, fr, li, sh)) else
  if c = 110 then (xUn_r a tot, (ind, xUn_tot a tot, pri, q, fr, li, sh)) else
  if c = 122 then (xIc_r a b pri q fr, (ind, tot, pri, q, xIc_fr a b pri q fr, li, sh)) else
  if c = 108 then (xBo_r a li, (ind, tot, pri, q, fr, xBo_l a li, sh)) else
  if c = 111 then (xBo_r (-1) li, (ind, tot, pri, q, fr, xBo_l (-1) li, sh)) else
  if c = 102 then (xSh_r a sh, (ind, tot, pri, q, fr, li, xSh_s a sh)) else
  if c = 112 then (xPr_r ind tot pri q fr li, (ind, tot, xPr_p ind tot pri q fr li sh, q, fr, li, sh)) else
  (-2, (ind, tot, pri, q, fr, li, sh))
def FIS (S : FSt) : Prop := FI S.1 S.2.1 S.2.2.1 S.2.2.2.1 S.2.2.2.2.1 S.2.2.2.2.2.1 S.2.2.2.2.2.2
def xObS (c a b : Int) (S : FSt) : Int × FSt := xOb c a b S.1 S.2.1 S.2.2.1 S.2.2.2.1 S.2.2.2.2.1 S.2.2.2.2.2.1 S.2.2.2.2.2.2
theorem FI_ob {c a b : Int} {ind tot pri : Int → Int} {q fr li sh : Int} (H : FI ind tot pri q fr li sh) : FIS (xOb c a b ind tot pri q fr li sh).2 := by
  unfold xOb FIS
  by_cases c1 : c = 113
  · rw [if_pos c1]; exact FI_adds H
  rw [if_neg c1]
  by_cases c2 : c = 116
  · rw [if_pos c2]; exact FI_tl H
  rw [if_neg c2]
  by_cases c3 : c = 110
  · rw [if_pos c3]; exact FI_un H
  rw [if_neg c3]
  by_cases c4 : c = 122
  · rw [if_pos c4]; exact FI_ic H
  rw [if_neg c4]
  by_cases c5 : c = 108
  · rw [if_pos c5]; exact FI_bo H
  rw [if_neg c5]
  by_cases c6 : c = 111
  · rw [if_pos c6]; exact FI_bo (v := -1) H
  rw [if_neg c6]
  by_cases c7 : c = 102
  · rw [if_pos c7]; exact FI_sh H
  rw [if_neg c7]
  by_cases c8 : c = 112
  · rw [if_pos c8]; exact FI_pr H
  rw [if_neg c8]; exact H
theorem xOb_bd {c a b : Int} {ind tot pri : Int → Int} {q fr li sh : Int} (H : FI ind tot pri q fr li sh) : -4 ≤ (xOb c a b ind tot pri q fr li sh).1 ∧ (xOb c a b ind tot pri q fr li sh).1 ≤ 1000000 := by
  have hq := H.q
  have hli := H.li
  have hsh := H.sh
  have hb := bCnt_bd (xIcF fr a b)
  unfold xOb xAdds_r xTl_r xUn_r xIc_r xBo_r xSh_r xPr_r
  (repeat' split) <;> first | omega | (dsimp only; omega) | (rename_i h _; have h9 := H.tot (v := a) (by omega) (by omega); dsimp only; omega) | (rename_i h; have h9 := H.tot (v := a) (by omega) (by omega); dsimp only; omega)
/-- orders one behind the other -/
def xRun (ltr fir sec : Int → Int) (S : FSt) : Nat → FSt
  | 0 => S
  | n + 1 => (xObS (ltr n) (fir n) (sec n) (xRun ltr fir sec S n)).2
def xRef (ltr fir sec : Int → Int) (S : FSt) : Nat → Int
  | 0 => -1
  | n + 1 => if xRef ltr fir sec S n ≠ -1 then xRef ltr fir sec S n else if (xObS (ltr n) (fir n) (sec n) (xRun ltr fir sec S n)).1 < -1 then n else -1
theorem xRef_s (ltr fir sec : Int → Int) (S : FSt) (n : Nat) (h : xRef ltr fir sec S n = -1) : xRef ltr fir sec S (n + 1) = if (xObS (ltr n) (fir n) (sec n) (xRun ltr fir sec S n)).1 < -1 then (n : Int) else -1 := by
  show (if xRef ltr fir sec S n ≠ -1 then _ else _) = _
  rw [if_neg (by omega)]
theorem xRef_stay (ltr fir sec : Int → Int) (S : FSt) (n : Nat) (h : xRef ltr fir sec S n ≠ -1) : ∀ k : Nat, xRef ltr fir sec S (n + k) = xRef ltr fir sec S n
  | 0 => rfl
  | k + 1 => by
    have := xRef_stay ltr fir sec S n h k
    show (if xRef ltr fir sec S (n + k) ≠ -1 then xRef ltr fir sec S (n + k) else _) = _
    rw [this, if_pos h]
theorem xRun_FI {ltr fir sec : Int → Int} {S : FSt} (H : FIS S) : ∀ n : Nat, FIS (xRun ltr fir sec S n)
  | 0 => H
  | n + 1 => FI_ob (xRun_FI H n)
/-- the digest -/
def dgI (f : Int → Int) : Nat → Int → Int
  | 0, h => h
  | n + 1, h => 31 * dgI f n h + f n
theorem dgI_s (f : Int → Int) (n : Nat) (h : Int) : dgI f (n + 1) h = 31 * dgI f n h + f n := rfl
theorem dgI_cong {f g : Int → Int} : ∀ {n : Nat} {h : Int}, (∀ k : Int, 0 ≤ k → k < n → f k = g k) → dgI f n h = dgI g n h
  | 0, _, _ => rfl
  | n + 1, h, hh => by rw [dgI_s, dgI_s, dgI_cong (n := n) (fun k h0 h1 => hh k h0 (by omega)), hh n (by omega) (by omega)]
def dgF (ind tot pri : Int → Int) (q fr : Int) : Nat → Int → Int
  | 0, h => h
  | n + 1, h => 31 * dgI (xOf ind pri fr n) 4 (dgF ind tot pri q fr n h) + xShare ind tot q n
theorem dgF_s (ind tot pri : Int → Int) (q fr : Int) (n : Nat) (h : Int) : dgF ind tot pri q fr (n + 1) h = 31 * dgI (xOf ind pri fr n) 4 (dgF ind tot pri q fr n h) + xShare ind tot q n := rfl
def dgY (ind tot : Int → Int) (q : Int) : Nat → Int → Int
  | 0, h => h
  | n + 1, h => dgI (xYr ind tot q n) 3 (dgY ind tot q n h)
theorem dgY_s (ind tot : Int → Int) (q : Int) (n : Nat) (h : Int) : dgY ind tot q (n + 1) h = dgI (xYr ind tot q n) 3 (dgY ind tot q n h) := rfl
def dgFg (ind tot pri : Int → Int) (q fr : Int) (h : Int) : Int := dgY ind tot q 3 (dgF ind tot pri q fr q.toNat h)
def dgB (ind tot pri : Int → Int) (q fr li sh : Int) (h : Int) : Int := if xMt ind tot pri q fr li (-1) = true then dgI (fun k => xMoved ind (xRow ind tot pri q fr li sh) q k) 2 (dgI (fun t => xRow ind tot pri q fr li sh t + 8) q.toNat (31 * h + 1)) else 31 * h
def xDig (ind tot pri : Int → Int) (q fr li sh : Int) (rfs : Int → Int) (len sts : Int) : Int := dgI (fun k => xMoved ind (xShare ind tot q) q k) 2 (dgB ind tot pri q fr li sh (dgFg ind tot pri q fr (dgI (xAll tot pri q fr li sh) 6 (dgI (xTo rfs len sts) 5 1980))))
theorem xAll_bd {ind tot pri : Int → Int} {q fr li sh : Int} (H : FI ind tot pri q fr li sh) (w : Int) : -1 ≤ xAll tot pri q fr li sh w ∧ xAll tot pri q fr li sh w ≤ 4096 := by
  have hq := H.q
  have hfr := H.fr
  have hli := H.li
  have hsh := H.sh
  have h1 := sumI_bd (f := pr1 pri) (a := 0) (lo := 0) (hi := 1) (n := q.toNat) (fun k _ _ => by unfold pr1; split <;> omega)
  have h2 := sumI_bd (f := pr1 tot) (a := 0) (lo := 0) (hi := 1) (n := 3) (fun k _ _ => by unfold pr1; split <;> omega)
  unfold xAll xOnes xYears
  (repeat' split) <;> omega
theorem xOf_bd {ind tot pri : Int → Int} {q fr li sh t : Int} (H : FI ind tot pri q fr li sh) (h0 : 0 ≤ t) (h1 : t < 12) (w : Int) : -1 ≤ xOf ind pri fr t w ∧ xOf ind pri fr t w ≤ 4096 := by
  have hi := H.ind h0 h1
  have hp := H.pri h0 h1
  have hb := bAnd1 (bShr fr t)
  unfold xOf
  (repeat' split) <;> omega
theorem xYr_bd {ind tot pri : Int → Int} {q fr li sh v : Int} (H : FI ind tot pri q fr li sh) (h0 : 0 ≤ v) (h1 : v < 3) (w : Int) : -5000 ≤ xYr ind tot q v w ∧ xYr ind tot q v w ≤ 5000 := by
  have ht := H.tot h0 h1
  have hg := xGap_bd H h0 h1
  have hi := xInd_bd (ind := ind) (q := q) (v := v) (fun t h0 h1 => ⟨(H.ind h0 h1).1, (H.ind h0 h1).2.1⟩) h0 h1 H.q.2
  unfold xYr
  (repeat' split) <;> omega
