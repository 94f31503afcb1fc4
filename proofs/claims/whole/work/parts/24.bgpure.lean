/-! that some row meets makes the rows of Bounds good; the search over the figures alone -/
theorem sumI_split (f : Int → Int) (a : Int) (m : Nat) : ∀ n : Nat, sumI f a (m + n) = sumI f a m + sumI f (a + m) n
  | 0 => by rw [sumI_0]; simp
  | n + 1 => by
    rw [show m + (n + 1) = (m + n) + 1 by omega, sumI_s, sumI_s, sumI_split f a m n, show a + (m : Int) + (n : Int) = a + ((m + n : Nat) : Int) by omega]
    omega
theorem sumI_mono {f g : Int → Int} {a : Int} : ∀ {n : Nat}, (∀ k : Int, 0 ≤ k → k < n → f (a + k) ≤ g (a + k)) → sumI f a n ≤ sumI g a n
  | 0, _ => Int.le_refl _
  | n + 1, h => by
    have h1 := sumI_mono (n := n) (fun k h0 h1 => h k h0 (by omega))
    have h2 := h n (by omega) (by omega)
    rw [sumI_s, sumI_s]
    omega
theorem rS_le {lo hi : Int → Int} {v : Int} (h : ∀ k : Int, 0 ≤ k → k < 4 → lo (4 * v + k) ≤ hi (4 * v + k)) {n : Nat} (hn : n ≤ 4) : rS lo v n ≤ rS hi v n := by
  have e1 := sumI_split lo (4 * v) n (4 - n)
  have e2 := sumI_split hi (4 * v) n (4 - n)
  rw [show n + (4 - n) = 4 by omega] at e1 e2
  have e3 := sumI_mono (f := lo) (g := hi) (a := 4 * v + n) (n := 4 - n) (fun k h0 h1 => by rw [Int.add_assoc]; exact h _ (by omega) (by omega))
  unfold rS
  omega
theorem aLH {lo hi : Int → Int} {g v : Int} (h : ∀ k : Int, 0 ≤ k → k < 4 → lo (4 * v + k) ≤ hi (4 * v + k)) (h1 : sumI lo (4 * v) 4 ≤ g) (h2 : g ≤ sumI hi (4 * v) 4) : ∀ n : Nat, n ≤ 4 → rS lo v n ≤ aL lo hi true g v n ∧ aL lo hi true g v n ≤ aH lo hi true g v n ∧ aH lo hi true g v n ≤ rS hi v n
  | 0, _ => by
    unfold aL aH rS
    rw [sumI_0, sumI_0]
    omega
  | n + 1, hn => by
    have ih := aLH h h1 h2 n (by omega)
    have r := rS_le h hn
    have s1 := rS_s (f := lo) (v := v) (n := n)
    have s2 := rS_s (f := hi) (v := v) (n := n)
    have hh := h n (by omega) (by omega)
    rw [aL_t rfl, aH_t rfl]
    (repeat' split) <;> omega
theorem aLH_sp {lo hi : Int → Int} {g v : Int} (h : ∀ k : Int, 0 ≤ k → k < 4 → (-8 ≤ lo (4 * v + k) ∧ lo (4 * v + k) ≤ hi (4 * v + k)) ∧ hi (4 * v + k) ≤ 8) (j : Int) (h0 : 0 ≤ j) (h4 : j < 4) : aH lo hi true g v (j + 1).toNat - aL lo hi true g v (j + 1).toNat ≤ wS j := by
  have k0 := h 0 (by omega) (by omega)
  have k1 := h 1 (by omega) (by omega)
  have k3 := h 3 (by omega) (by omega)
  have a1 : aL lo hi true g v 1 = if rS lo v 1 < aL lo hi true g v 0 - hi (4 * v + 0) then aL lo hi true g v 0 - hi (4 * v + 0) else rS lo v 1 := aL_t (n := 0) rfl
  have b1 : aH lo hi true g v 1 = if aH lo hi true g v 0 - lo (4 * v + 0) < rS hi v 1 then aH lo hi true g v 0 - lo (4 * v + 0) else rS hi v 1 := aH_t (n := 0) rfl
  have a2 : aL lo hi true g v 2 = if rS lo v 2 < aL lo hi true g v 1 - hi (4 * v + 1) then aL lo hi true g v 1 - hi (4 * v + 1) else rS lo v 2 := aL_t (n := 1) rfl
  have b2 : aH lo hi true g v 2 = if aH lo hi true g v 1 - lo (4 * v + 1) < rS hi v 2 then aH lo hi true g v 1 - lo (4 * v + 1) else rS hi v 2 := aH_t (n := 1) rfl
  have a3 : aL lo hi true g v 3 = if rS lo v 3 < aL lo hi true g v 2 - hi (4 * v + 2) then aL lo hi true g v 2 - hi (4 * v + 2) else rS lo v 3 := aL_t (n := 2) rfl
  have b3 : aH lo hi true g v 3 = if aH lo hi true g v 2 - lo (4 * v + 2) < rS hi v 3 then aH lo hi true g v 2 - lo (4 * v + 2) else rS hi v 3 := aH_t (n := 2) rfl
  have a4 : aL lo hi true g v 4 = if rS lo v 4 < aL lo hi true g v 3 - hi (4 * v + 3) then aL lo hi true g v 3 - hi (4 * v + 3) else rS lo v 4 := aL_t (n := 3) rfl
  have b4 : aH lo hi true g v 4 = if aH lo hi true g v 3 - lo (4 * v + 3) < rS hi v 4 then aH lo hi true g v 3 - lo (4 * v + 3) else rS hi v 4 := aH_t (n := 3) rfl
  have r3 : rS lo v 4 = rS lo v 3 - lo (4 * v + 3) := rS_s (n := 3)
  have r3h : rS hi v 4 = rS hi v 3 - hi (4 * v + 3) := rS_s (n := 3)
  have z1 : rS lo v 4 = 0 := by unfold rS; omega
  have z2 : rS hi v 4 = 0 := by unfold rS; omega
  have c0 : aL lo hi true g v 0 = g := rfl
  have c1 : aH lo hi true g v 0 = g := rfl
  unfold wS
  rcases (show j = 0 ∨ j = 1 ∨ j = 2 ∨ j = 3 by omega) with rfl | rfl | rfl | rfl
  · rw [if_pos rfl, show ((0 : Int) + 1).toNat = 1 by decide, a1, b1]
    (repeat' split) <;> omega
  · rw [if_neg (by decide), if_pos rfl, show ((1 : Int) + 1).toNat = 2 by decide, a2, b2]
    have q1 : aH lo hi true g v 1 - aL lo hi true g v 1 ≤ 16 := by
      rw [a1, b1]
      (repeat' split) <;> omega
    (repeat' split) <;> omega
  · rw [if_neg (by decide), if_neg (by decide), if_pos rfl, show ((2 : Int) + 1).toNat = 3 by decide, a3, b3]
    (repeat' split) <;> omega
  · rw [if_neg (by decide), if_neg (by decide), if_neg (by decide), show ((3 : Int) + 1).toNat = 4 by decide, a4, b4, z1, z2]
    (repeat' split) <;> omega
section BGP
variable {ind tot pri : Int → Int} {q fr li sh lim un : Int}
theorem xMt_q (h : xMt ind tot pri q fr lim un = true) {t : Int} (h0 : 0 ≤ t) (h1 : t < q) : loQ ind pri fr lim t ≤ hiQ ind pri fr lim t := by
  unfold xMt at h
  rw [Bool.and_eq_true] at h
  exact of_decide_eq_true ((allN_iff _ _).mp h.1 t h0 (by omega))
theorem xMt_y (h : xMt ind tot pri q fr lim un = true) {v : Int} (h0 : 0 ≤ v) (h1 : v < 3) : xY ind tot pri q fr lim un v = true := by
  unfold xMt at h
  rw [Bool.and_eq_true] at h
  exact (allN_iff _ _).mp h.2 v h0 (by omega)
theorem xB_q (H_I : FI ind tot pri q fr li sh) {v : Int} (h0 : 0 ≤ v) (h1 : v < 3) (hb : xB tot un v = true) : 4 * v + 4 ≤ q := (H_I.tot h0 h1).2.2 (of_decide_eq_true hb).2
theorem xLh_b (H_I : FI ind tot pri q fr li sh) (h : xMt ind tot pri q fr lim un = true) {v : Int} (h0 : 0 ≤ v) (h1 : v < 3) (hb : xB tot un v = true) : sumI (loQ ind pri fr lim) (4 * v) 4 ≤ xGp ind tot q un v ∧ xGp ind tot q un v ≤ sumI (hiQ ind pri fr lim) (4 * v) 4 := by
  have hy := xMt_y h h0 h1
  unfold xY xLy at hy
  rw [hb] at hy
  simp only [Bool.not_true, Bool.false_or, Bool.and_eq_true, decide_eq_true_eq] at hy
  exact hy
theorem BGp (H_I : FI ind tot pri q fr li sh) (hlim : -1 ≤ lim ∧ lim ≤ 24) (h : xMt ind tot pri q fr lim un = true) : BG q (loQ ind pri fr lim) (hiQ ind pri fr lim) (xLL ind tot pri q fr lim un) (xLH ind tot pri q fr lim un) (xB tot un) (xGp ind tot q un) := by
  intro t t0 t1
  have hq := H_I.q
  have hb := loQ_bd (lim := lim) H_I hlim t0 (show t < 12 by omega)
  have hqt := xMt_q h t0 t1
  have hv0 : 0 ≤ t / 4 := by omega
  have hv3 : t / 4 < 3 := by omega
  have hg := xGp_bd (un := un) H_I hv0 hv3
  have bdl : ∀ k : Int, 0 ≤ k → k < 4 → -200 ≤ loQ ind pri fr lim (4 * (t / 4) + k) ∧ loQ ind pri fr lim (4 * (t / 4) + k) ≤ 200 := fun k k0 k1 => by
    have := loQ_bd (lim := lim) (t := 4 * (t / 4) + k) H_I hlim (by omega) (by omega)
    omega
  have bdh : ∀ k : Int, 0 ≤ k → k < 4 → -200 ≤ hiQ ind pri fr lim (4 * (t / 4) + k) ∧ hiQ ind pri fr lim (4 * (t / 4) + k) ≤ 200 := fun k k0 k1 => by
    have := loQ_bd (lim := lim) (t := 4 * (t / 4) + k) H_I hlim (by omega) (by omega)
    omega
  have b1 := aL_bd (b := xB tot un (t / 4)) bdl bdh hg (t % 4 + 1).toNat (by omega)
  have b2 := aH_bd (b := xB tot un (t / 4)) bdl bdh hg (t % 4 + 1).toNat (by omega)
  refine ⟨⟨by omega, hqt, by omega⟩, ?_, ?_, ⟨by unfold xLL; omega, by unfold xLL; omega, by unfold xLH; omega, by unfold xLH; omega⟩, hg, ?_⟩
  · unfold xLL xLH
    by_cases hB : xB tot un (t / 4) = true
    · rw [hB]
      have h4 := xB_q H_I hv0 hv3 hB
      exact aLH_sp (fun k k0 k1 => by
        have := loQ_bd (lim := lim) (t := 4 * (t / 4) + k) H_I hlim (by omega) (by omega)
        have := xMt_q h (t := 4 * (t / 4) + k) (by omega) (by omega)
        omega) (t % 4) (by omega) (by omega)
    · have hB : xB tot un (t / 4) = false := by cases hh : xB tot un (t / 4) with | false => rfl | true => exact absurd hh hB
      rw [hB, show (t % 4 + 1).toNat = (t % 4).toNat + 1 by omega, aL_f rfl, aH_f rfl]
      unfold wS
      (repeat' split) <;> omega
  · intro hB
    unfold xLL xLH
    rw [hB, show (t % 4 + 1).toNat = (t % 4).toNat + 1 by omega, aL_f rfl, aH_f rfl]
    exact ⟨rfl, rfl⟩
  · intro hB a ha ha2
    have h4 := xB_q H_I hv0 hv3 hB
    have hs := xLh_b H_I h hv0 hv3 hB
    have hle : ∀ k : Int, 0 ≤ k → k < 4 → loQ ind pri fr lim (4 * (t / 4) + k) ≤ hiQ ind pri fr lim (4 * (t / 4) + k) := fun k k0 k1 => xMt_q h (by omega) (by omega)
    have p0 := aLH hle hs.1 hs.2 (t % 4).toNat (by omega)
    have p1 := aLH hle hs.1 hs.2 ((t % 4).toNat + 1) (by omega)
    have pl : lPrev (xGp ind tot q un) (xLL ind tot pri q fr lim un) t = aL (loQ ind pri fr lim) (hiQ ind pri fr lim) true (xGp ind tot q un (t / 4)) (t / 4) (t % 4).toNat ∧ lPrev (xGp ind tot q un) (xLH ind tot pri q fr lim un) t = aH (loQ ind pri fr lim) (hiQ ind pri fr lim) true (xGp ind tot q un (t / 4)) (t / 4) (t % 4).toNat := by
      unfold lPrev lAh
      by_cases ht : 0 < t
      · rw [if_pos ht, if_pos ht]
        by_cases hm : t % 4 = 0
        · rw [if_pos hm, if_pos hm, hm]
          exact ⟨rfl, rfl⟩
        · rw [if_neg hm, if_neg hm]
          unfold xLL xLH
          rw [show (t - 1) / 4 = t / 4 by omega, hB, show ((t - 1) % 4 + 1).toNat = (t % 4).toNat by omega]
          exact ⟨rfl, rfl⟩
      · have : t = 0 := by omega
        subst this
        exact ⟨rfl, rfl⟩
    rw [pl.1] at ha
    rw [pl.2] at ha2
    have e : 4 * (t / 4) + ((t % 4).toNat : Int) = t := by omega
    have s1 := rS_s (f := loQ ind pri fr lim) (v := t / 4) (n := (t % 4).toNat)
    have s2 := rS_s (f := hiQ ind pri fr lim) (v := t / 4) (n := (t % 4).toNat)
    have al := aL_t (low := loQ ind pri fr lim) (high := hiQ ind pri fr lim) (g := xGp ind tot q un (t / 4)) (v := t / 4) (n := (t % 4).toNat) (b := true) rfl
    have ah := aH_t (low := loQ ind pri fr lim) (high := hiQ ind pri fr lim) (g := xGp ind tot q un (t / 4)) (v := t / 4) (n := (t % 4).toNat) (b := true) rfl
    rw [e] at s1 s2 al ah
    have el : xLL ind tot pri q fr lim un t = aL (loQ ind pri fr lim) (hiQ ind pri fr lim) true (xGp ind tot q un (t / 4)) (t / 4) ((t % 4).toNat + 1) := by
      unfold xLL
      rw [hB, show (t % 4 + 1).toNat = (t % 4).toNat + 1 by omega]
    have eh : xLH ind tot pri q fr lim un t = aH (loQ ind pri fr lim) (hiQ ind pri fr lim) true (xGp ind tot q un (t / 4)) (t / 4) ((t % 4).toNat + 1) := by
      unfold xLH
      rw [hB, show (t % 4 + 1).toNat = (t % 4).toNat + 1 by omega]
    rw [el, eh]
    have l1 : loQ ind pri fr lim t ≤ a - aL (loQ ind pri fr lim) (hiQ ind pri fr lim) true (xGp ind tot q un (t / 4)) (t / 4) ((t % 4).toNat + 1) := by
      rw [al]
      split <;> omega
    have l2 : a - aH (loQ ind pri fr lim) (hiQ ind pri fr lim) true (xGp ind tot q un (t / 4)) (t / 4) ((t % 4).toNat + 1) ≤ hiQ ind pri fr lim t := by
      rw [ah]
      split <;> omega
    (repeat' split) <;> omega
end BGP
section CG
variable {ind : Int → Int} {sh q : Int} {low high ll lh low2 high2 ll2 lh2 : Int → Int} {bnd bnd2 : Int → Bool} {gap gap2 : Int → Int}
theorem lAh_cong (hv : ∀ v : Int, 0 ≤ v → v < 3 → bnd v = bnd2 v ∧ gap v = gap2 v) {u lf : Int} (h0 : 0 ≤ u) (h1 : u < 12) : lAh gap u lf = lAh gap2 u lf := by
  unfold lAh
  rw [(hv (u / 4) (by omega) (by omega)).2]
theorem nL_cong (hv : ∀ v : Int, 0 ≤ v → v < 3 → bnd v = bnd2 v ∧ gap v = gap2 v) {u lf : Int} (h0 : 0 ≤ u) (h1 : u < 12) (e : Int) : nL bnd gap u lf e = nL bnd2 gap2 u lf e := by
  unfold nL
  rw [lAh_cong hv h0 h1, (hv (u / 4) (by omega) (by omega)).1]
theorem chs_cong (hq : q ≤ 12) (ht : ∀ t : Int, 0 ≤ t → t < q → low t = low2 t ∧ high t = high2 t ∧ ll t = ll2 t ∧ lh t = lh2 t) (hv : ∀ v : Int, 0 ≤ v → v < 3 → bnd v = bnd2 v ∧ gap v = gap2 v) : ∀ (k : Nat) (u d lf : Int), 0 ≤ u → u + k ≤ q → chs ind sh low high ll lh bnd gap k u d lf = chs ind sh low2 high2 ll2 lh2 bnd2 gap2 k u d lf
  | 0, u, d, lf, _, _ => rfl
  | k + 1, u, d, lf, h0, h1 => by
    obtain ⟨e1, e2, e3, e4⟩ := ht u h0 (by omega)
    have hb := (hv (u / 4) (by omega) (by omega)).1
    have hl := lAh_cong (lf := lf) hv h0 (show u < 12 by omega)
    have ef : chFr bnd low lh gap u lf = chFr bnd2 low2 lh2 gap2 u lf := by unfold chFr; rw [e1, e4, hb, hl]
    have et : chTo bnd high ll gap u lf = chTo bnd2 high2 ll2 gap2 u lf := by unfold chTo; rw [e2, e3, hb, hl]
    rw [chs_s, chs_s, ef, et]
    refine chF_cong (fun e _ _ => ?_)
    rw [nL_cong hv h0 (by omega), chs_cong hq ht hv k (u + 1) e _ (by omega) (by omega)]
    exact ⟨rfl, rfl⟩
theorem rdS_s (n : Nat) : rdS ind sh q low high ll lh bnd gap (n + 1) = ((chs ind sh low high ll lh bnd gap (q - n).toNat n (rdS ind sh q low high ll lh bnd gap n).1 (rdS ind sh q low high ll lh bnd gap n).2).2.2, nL bnd gap n (rdS ind sh q low high ll lh bnd gap n).2 (chs ind sh low high ll lh bnd gap (q - n).toNat n (rdS ind sh q low high ll lh bnd gap n).1 (rdS ind sh q low high ll lh bnd gap n).2).2.2) := rfl
theorem rdS_cong (hq : q ≤ 12) (ht : ∀ t : Int, 0 ≤ t → t < q → low t = low2 t ∧ high t = high2 t ∧ ll t = ll2 t ∧ lh t = lh2 t) (hv : ∀ v : Int, 0 ≤ v → v < 3 → bnd v = bnd2 v ∧ gap v = gap2 v) : ∀ n : Nat, (n : Int) ≤ q → rdS ind sh q low high ll lh bnd gap n = rdS ind sh q low2 high2 ll2 lh2 bnd2 gap2 n
  | 0, _ => rfl
  | n + 1, h => by
    rw [rdS_s, rdS_s, rdS_cong hq ht hv n (by omega), chs_cong hq ht hv _ n _ _ (by omega) (by omega), nL_cong hv (by omega) (by omega)]
theorem BG_cong (hq : q ≤ 12) (ht : ∀ t : Int, 0 ≤ t → t < q → low t = low2 t ∧ high t = high2 t ∧ ll t = ll2 t ∧ lh t = lh2 t) (hv : ∀ v : Int, 0 ≤ v → v < 3 → bnd v = bnd2 v ∧ gap v = gap2 v) (H : BG q low2 high2 ll2 lh2 bnd2 gap2) : BG q low high ll lh bnd gap := by
  intro t h0 h1
  obtain ⟨e1, e2, e3, e4⟩ := ht t h0 h1
  obtain ⟨v1, v2⟩ := hv (t / 4) (by omega) (by omega)
  have pl : lPrev gap ll t = lPrev gap2 ll2 t ∧ lPrev gap lh t = lPrev gap2 lh2 t := by
    unfold lPrev
    by_cases hh : 0 < t
    · rw [if_pos hh, if_pos hh, if_pos hh, if_pos hh, lAh_cong hv h0 (by omega), lAh_cong hv h0 (by omega), (ht (t - 1) (by omega) (by omega)).2.2.1, (ht (t - 1) (by omega) (by omega)).2.2.2]
      exact ⟨rfl, rfl⟩
    · rw [if_neg hh, if_neg hh, if_neg hh, if_neg hh, (hv 0 (by omega) (by omega)).2]
      exact ⟨rfl, rfl⟩
  rw [e1, e2, e3, e4, v1, v2, pl.1, pl.2]
  exact H t h0 h1
end CG
/-- the search over the figures alone -/
def xCh (ind tot pri : Int → Int) (q fr lim un sh : Int) (k : Nat) (u d lf : Int) : I3 := chs ind sh (loQ ind pri fr lim) (hiQ ind pri fr lim) (xLL ind tot pri q fr lim un) (xLH ind tot pri q fr lim un) (xB tot un) (xGp ind tot q un) k u d lf
def xRd (ind tot pri : Int → Int) (q fr lim un sh : Int) (n : Nat) : Int × Int := rdS ind sh q (loQ ind pri fr lim) (hiQ ind pri fr lim) (xLL ind tot pri q fr lim un) (xLH ind tot pri q fr lim un) (xB tot un) (xGp ind tot q un) n
/-- x of a quarter in BENT -/
def xRow (ind tot pri : Int → Int) (q fr lim sh t : Int) : Int := ind t + (xRd ind tot pri q fr lim (-1) sh (t + 1).toNat).1
def xWays (ind tot pri : Int → Int) (q fr lim sh : Int) : Int := (xCh ind tot pri q fr lim (-1) sh q.toNat 0 0 0).2.1
def xBest (ind tot pri : Int → Int) (q fr lim un sh : Int) : Int := (xCh ind tot pri q fr lim un sh q.toNat 0 0 0).1
/-- what is kept of BENT is right -/
def RowOk (ind tot pri : Int → Int) (q fr li sh : Int) (row : Int → Int) (rows : Int) : Prop := (∀ t : Int, 0 ≤ t → t < q → row t = xRow ind tot pri q fr li sh t) ∧ rows = xWays ind tot pri q fr li sh
def KOk (ind tot pri : Int → Int) (q fr li sh : Int) (kn th : Bool) (row : Int → Int) (rows : Int) : Prop := kn = true → th = xMt ind tot pri q fr li (-1) ∧ (th = true → RowOk ind tot pri q fr li sh row rows)
theorem BGood_t {ind tot pri : Int → Int} {q fr lim un : Int} {low high ll lh : Int → Int} {bnd : Int → Bool} {gap : Int → Int} (hq : q ≤ 12) (G : BGood ind tot pri q fr lim un low high ll lh bnd gap) : ∀ t : Int, 0 ≤ t → t < q → low t = loQ ind pri fr lim t ∧ high t = hiQ ind pri fr lim t ∧ ll t = xLL ind tot pri q fr lim un t ∧ lh t = xLH ind tot pri q fr lim un t := fun t h0 h1 => ⟨(G.1 t h0 h1).1, (G.1 t h0 h1).2, (G.2.2 t h0 (by omega)).1, (G.2.2 t h0 (by omega)).2⟩
theorem BGood_BG {ind tot pri : Int → Int} {q fr li sh lim un : Int} {low high ll lh : Int → Int} {bnd : Int → Bool} {gap : Int → Int} (H_I : FI ind tot pri q fr li sh) (hlim : -1 ≤ lim ∧ lim ≤ 24) (h : xMt ind tot pri q fr lim un = true) (G : BGood ind tot pri q fr lim un low high ll lh bnd gap) : BG q low high ll lh bnd gap := BG_cong H_I.q.2 (BGood_t H_I.q.2 G) G.2.1 (BGp H_I hlim h)
theorem xBest_bd {ind tot pri : Int → Int} {q fr li sh lim un : Int} (H_I : FI ind tot pri q fr li sh) (hlim : -1 ≤ lim ∧ lim ≤ 24) (h : xMt ind tot pri q fr lim un = true) : 0 ≤ xBest ind tot pri q fr lim un sh ∧ xBest ind tot pri q fr lim un sh ≤ 31200000000 := by
  have hq := H_I.q
  have h1 := chs_bd ind sh (loQ ind pri fr lim) (hiQ ind pri fr lim) (xLL ind tot pri q fr lim un) (xLH ind tot pri q fr lim un) (xB tot un) (xGp ind tot q un) q.toNat 0 0 0
  have h2 := chs_small H_I (BGp H_I hlim h) q.toNat 0 0 0 (by omega) (by omega) ⟨by omega, by omega⟩ (Or.inl rfl)
  unfold xBest xCh
  omega
