/-! the reference's search over the figures -/
section DF
variable {ind tot pri : Int → Int} {q fr li sh lim un : Int}
/-- the reference's search over the figures alone -/
def xR (ind tot pri : Int → Int) (q fr lim un sh : Int) (k : Nat) (t d s : Int) : I2P := rR ind sh (loQ ind pri fr lim) (hiQ ind pri fr lim) (xB tot un) (xGp ind tot q un) k t d s
theorem xLp {t : Int} (h0 : 0 ≤ t) (hB : xB tot un (t / 4) = true) : lPrev (xGp ind tot q un) (xLL ind tot pri q fr lim un) t = aL (loQ ind pri fr lim) (hiQ ind pri fr lim) true (xGp ind tot q un (t / 4)) (t / 4) (t % 4).toNat ∧ lPrev (xGp ind tot q un) (xLH ind tot pri q fr lim un) t = aH (loQ ind pri fr lim) (hiQ ind pri fr lim) true (xGp ind tot q un (t / 4)) (t / 4) (t % 4).toNat := by
  unfold lPrev lAh
  by_cases ht : 0 < t
  · rw [if_pos ht, if_pos ht]
    by_cases hm : t % 4 = 0
    · rw [if_pos hm, if_pos hm, hm]
      exact ⟨rfl, rfl⟩
    · rw [if_neg hm, if_neg hm]
      unfold xLL xLH
      rw [show (t - 1) / 4 = t / 4 by omega, hB, show ((t - 1) % 4 + 1).toNat = (t % 4).toNat by omega]
      exact ⟨rfl, rfl⟩
  · have : t = 0 := by omega
    subst this
    exact ⟨rfl, rfl⟩
theorem xHL : HLs q (loQ ind pri fr lim) (hiQ ind pri fr lim) (xLL ind tot pri q fr lim un) (xLH ind tot pri q fr lim un) (xB tot un) (xGp ind tot q un) := by
  intro t h0 h1 hB
  obtain ⟨p1, p2⟩ := xLp (ind := ind) (pri := pri) (q := q) (fr := fr) (lim := lim) h0 hB
  have al := aL_t (low := loQ ind pri fr lim) (high := hiQ ind pri fr lim) (g := xGp ind tot q un (t / 4)) (v := t / 4) (n := (t % 4).toNat) (b := true) rfl
  have ah := aH_t (low := loQ ind pri fr lim) (high := hiQ ind pri fr lim) (g := xGp ind tot q un (t / 4)) (v := t / 4) (n := (t % 4).toNat) (b := true) rfl
  rw [show 4 * (t / 4) + (((t % 4).toNat : Nat) : Int) = t by omega, ← p1] at al
  rw [show 4 * (t / 4) + (((t % 4).toNat : Nat) : Int) = t by omega, ← p2] at ah
  rw [show (t % 4 + 1).toNat = (t % 4).toNat + 1 by omega]
  constructor
  · rw [← al]
    unfold xLL
    rw [hB, show (t % 4 + 1).toNat = (t % 4).toNat + 1 by omega]
  · rw [← ah]
    unfold xLH
    rw [hB, show (t % 4 + 1).toNat = (t % 4).toNat + 1 by omega]
theorem xBq (H_I : FI ind tot pri q fr li sh) : ∀ v : Int, 0 ≤ v → v < 3 → xB tot un v = true → 4 * v + 4 ≤ q := fun v h0 h1 hb => xB_q H_I h0 h1 hb
/-- no row goes on from there -/
def xDead (ind tot pri : Int → Int) (q fr lim un sh u : Int) : Prop := ∀ e s : Int, xR ind tot pri q fr lim un sh (q - 1 - u).toNat u e (rNu (xB tot un) u s e) = (1000000000000000, 0)
theorem xDead_p {u : Int} (h0 : 0 ≤ u) (h1 : u + 1 < q) (h : xDead ind tot pri q fr lim un sh (u + 1)) : xDead ind tot pri q fr lim un sh u := by
  intro e s
  unfold xR
  rw [show (q - 1 - u).toNat = (q - 1 - (u + 1)).toNat + 1 by omega]
  show (if _ then _ else _) = _
  split
  · refine rFo_none (fun e2 _ _ => ?_)
    have := h e2 (rNu (xB tot un) u s e)
    unfold xR at this
    try dsimp only
    rw [this]
    exact decide_eq_false (fun h => absurd h.2.2 (by decide))
  · rfl
theorem xDead_0 : ∀ u : Nat, (u : Int) < q → xDead ind tot pri q fr lim un sh u → xDead ind tot pri q fr lim un sh 0
  | 0, _, h => h
  | u + 1, h1, h => xDead_0 u (by omega) (xDead_p (by omega) (by omega) (by rw [show ((u : Int) + 1) = ((u + 1 : Nat) : Int) by omega]; exact h))
theorem xDead_f (H_I : FI ind tot pri q fr li sh) (h : xMt ind tot pri q fr lim un = false) : 0 < q ∧ xDead ind tot pri q fr lim un sh 0 := by
  have hq := H_I.q
  by_cases h1 : allN (xQok ind pri fr lim) q.toNat = true
  · have h2 : ¬ allN (xY ind tot pri q fr lim un) 3 = true := fun h2 => by unfold xMt at h; rw [h1, h2] at h; exact absurd h (by decide)
    rw [allN_iff] at h2
    have h3 : ∃ v : Int, 0 ≤ v ∧ v < 3 ∧ ¬ xY ind tot pri q fr lim un v = true := Classical.byContradiction (fun hc => h2 (fun k k0 k1 => Classical.byContradiction (fun hk => hc ⟨k, k0, by omega, hk⟩)))
    obtain ⟨v, v0, v1, hv⟩ := h3
    unfold xY xLy at hv
    cases hB : xB tot un v with
    | false => rw [hB] at hv; exact absurd rfl hv
    | true =>
      rw [hB] at hv
      have h4 := xB_q H_I v0 v1 hB
      have hv2 : ¬ (sumI (loQ ind pri fr lim) (4 * v) 4 ≤ xGp ind tot q un v ∧ xGp ind tot q un v ≤ sumI (hiQ ind pri fr lim) (4 * v) 4) := by
        intro hc
        rw [decide_eq_true hc.1, decide_eq_true hc.2] at hv
        exact hv rfl
      refine ⟨by omega, ?_⟩
      refine xDead_0 (4 * v).toNat (by omega) (fun e s => ?_)
      rw [show (((4 * v).toNat : Nat) : Int) = 4 * v by omega]
      have hn : rNu (xB tot un) (4 * v) s e = e := by
        unfold rNu
        rw [show 4 * v / 4 = v by omega, if_pos hB, if_pos (by omega)]
      rw [hn]
      unfold xR
      refine rR_none (xBq H_I) hq.2 _ _ _ _ (by omega) (by omega) (fun hf => hv2 ?_)
      obtain ⟨f1, f2⟩ := hf
      rw [show 4 * v / 4 = v by omega] at f2
      have f3 := f2 hB
      rw [show (4 * v % 4 + 1).toNat = 0 + 1 by omega, rS_s, rS_s] at f3
      have r1 : rS (loQ ind pri fr lim) v 0 = sumI (loQ ind pri fr lim) (4 * v) 4 := by unfold rS; rw [sumI_0]; omega
      have r2 : rS (hiQ ind pri fr lim) v 0 = sumI (hiQ ind pri fr lim) (4 * v) 4 := by unfold rS; rw [sumI_0]; omega
      rw [r1, r2, show 4 * v + ((0 : Nat) : Int) = 4 * v by omega] at f3
      exact ⟨by omega, by omega⟩
  · rw [allN_iff] at h1
    have h3 : ∃ t : Int, 0 ≤ t ∧ t < q ∧ ¬ xQok ind pri fr lim t = true := Classical.byContradiction (fun hc => h1 (fun k k0 k1 => Classical.byContradiction (fun hk => hc ⟨k, k0, by omega, hk⟩)))
    obtain ⟨t, t0, t1, ht⟩ := h3
    refine ⟨by omega, ?_⟩
    refine xDead_0 t.toNat (by omega) (fun e s => ?_)
    rw [show ((t.toNat : Nat) : Int) = t by omega]
    unfold xR
    refine rR_none (xBq H_I) hq.2 _ _ _ _ (by omega) (by omega) (fun hf => ht ?_)
    exact decide_eq_true (by have := hf.1; omega)
theorem stC_0 (ind : Int → Int) (sh e : Int) : stC ind sh 0 0 e = e * e := by
  unfold stC stP
  rw [if_neg (by omega)]
  omega
theorem xFirst (H_I : FI ind tot pri q fr li sh) (hlim : -1 ≤ lim ∧ lim ≤ 24) (h : xMt ind tot pri q fr lim un = true) (hq0 : 0 < q) : rT (fun e => (xR ind tot pri q fr lim un sh (q - 1).toNat 0 e (rNu (xB tot un) 0 0 e)).1) (fun e => (xR ind tot pri q fr lim un sh (q - 1).toNat 0 e (rNu (xB tot un) 0 0 e)).2) 17 = xCh ind tot pri q fr lim un sh q.toNat 0 0 0 := by
  have hq := H_I.q
  have H := BGp (sh := sh) (un := un) H_I hlim h
  have hat : rAt (xLL ind tot pri q fr lim un) (xLH ind tot pri q fr lim un) (xB tot un) (xGp ind tot q un) 0 0 0 := ⟨Or.inl rfl, fun hc => absurd rfl hc⟩
  obtain ⟨s1, s2⟩ := rSt H_I H xHL (xBq H_I) (k := (q - 1).toNat) (u := 0) (by omega) (by omega) hat (fun e s2 h2 => rR_chs H_I H xHL (xBq H_I) _ 0 e s2 (by omega) (by omega) h2)
  have hne := ch_ne H (u := 0) (by omega) (by omega) hat.1
  obtain ⟨g1, -⟩ := H 0 (by omega) (by omega)
  have nf := (next_VL H (u := 0) (by omega) (by omega) hat.1 (Int.le_refl _) hne).1
  have nt := (next_VL H (u := 0) (by omega) (by omega) hat.1 hne (Int.le_refl _)).1
  unfold xCh
  rw [show q.toNat = (q - 1).toNat + 1 by omega, chs_s]
  refine rT_chF (by omega) (by omega) hne (fun e e0 e1 => ?_) (fun e he => ?_)
  · obtain ⟨p1, p2, p3, p4, p5, p6⟩ := s1 e e0 e1
    have sq1 := sq_bd (B := 8) (a := e) (by omega) (by omega)
    rw [stC_0]
    unfold xR
    rw [p5]
    exact ⟨rfl, by omega, rfl⟩
  · unfold xR
    rw [s2 e he]
/-- the sums along BENT -/
def xSm (ind tot pri : Int → Int) (q fr lim un sh : Int) : Nat → Int
  | 0 => 0
  | n + 1 => rNu (xB tot un) n (xSm ind tot pri q fr lim un sh n) (xRd ind tot pri q fr lim un sh (n + 1)).1
theorem xSm_s (n : Nat) : xSm ind tot pri q fr lim un sh (n + 1) = rNu (xB tot un) n (xSm ind tot pri q fr lim un sh n) (xRd ind tot pri q fr lim un sh (n + 1)).1 := rfl
theorem xRd_s (n : Nat) : xRd ind tot pri q fr lim un sh (n + 1) = ((xCh ind tot pri q fr lim un sh (q - n).toNat n (xRd ind tot pri q fr lim un sh n).1 (xRd ind tot pri q fr lim un sh n).2).2.2, nL (xB tot un) (xGp ind tot q un) n (xRd ind tot pri q fr lim un sh n).2 (xCh ind tot pri q fr lim un sh (q - n).toNat n (xRd ind tot pri q fr lim un sh n).1 (xRd ind tot pri q fr lim un sh n).2).2.2) := rfl
def xOk (ind tot pri : Int → Int) (q fr lim un t d s : Int) : Prop := rOk (loQ ind pri fr lim) (hiQ ind pri fr lim) (xLL ind tot pri q fr lim un) (xLH ind tot pri q fr lim un) (xB tot un) (xGp ind tot q un) t d s
theorem xTr (H_I : FI ind tot pri q fr li sh) (hlim : -1 ≤ lim ∧ lim ≤ 24) (h : xMt ind tot pri q fr lim un = true) : ∀ n : Nat, (n : Int) < q → xOk ind tot pri q fr lim un n (xRd ind tot pri q fr lim un sh (n + 1)).1 (xSm ind tot pri q fr lim un sh (n + 1)) ∧ (xRd ind tot pri q fr lim un sh (n + 1)).2 = Lf (xB tot un) (xGp ind tot q un) n (xSm ind tot pri q fr lim un sh (n + 1))
  | 0, hn => by
    have hq := H_I.q
    have H := BGp (sh := sh) (un := un) H_I hlim h
    have hat : rAt (xLL ind tot pri q fr lim un) (xLH ind tot pri q fr lim un) (xB tot un) (xGp ind tot q un) 0 0 0 := ⟨Or.inl rfl, fun hc => absurd rfl hc⟩
    obtain ⟨s1, s2⟩ := rSt H_I H xHL (xBq H_I) (k := (q - 1).toNat) (u := 0) (by omega) (by omega) hat (fun e s2 h2 => rR_chs H_I H xHL (xBq H_I) _ 0 e s2 (by omega) (by omega) h2)
    have hc := chs_in H_I H (u := 0) (d := 0) (lf := 0) (by omega) (by omega) ⟨by omega, by omega⟩ hat.1
    obtain ⟨p1, p2, -⟩ := s1 _ hc.1 hc.2
    have e1 : xRd ind tot pri q fr lim un sh (0 + 1) = ((xCh ind tot pri q fr lim un sh (q - 0).toNat 0 0 0).2.2, nL (xB tot un) (xGp ind tot q un) 0 0 (xCh ind tot pri q fr lim un sh (q - 0).toNat 0 0 0).2.2) := rfl
    rw [xSm_s, e1]
    exact ⟨p1, p2⟩
  | n + 1, hn => by
    have hq := H_I.q
    have H := BGp (sh := sh) (un := un) H_I hlim h
    obtain ⟨i1, i2⟩ := xTr H_I hlim h n (by omega)
    have hb := rNb H_I H xHL (xBq H_I) (k := (q - 1 - (n : Int) - 1).toNat) (t := n) (E := (xRd ind tot pri q fr lim un sh (n + 1 + 1)).1) (by omega) (by omega) i1 (by rw [← i2, xRd_s (n + 1), show (q - ((n + 1 : Nat) : Int)).toNat = (q - 1 - (n : Int) - 1).toNat + 1 by omega]; rfl)
    obtain ⟨b1, b2, b3, -⟩ := hb
    rw [xSm_s (n + 1)]
    refine ⟨b2, ?_⟩
    rw [← i2] at b3
    refine Eq.trans ?_ b3
    rw [xRd_s (n + 1)]
    rfl
/-- without a total there is a row too -/
theorem xMt_un (h : xMt ind tot pri q fr lim (-1) = true) (v : Int) : xMt ind tot pri q fr lim v = true := by
  have h2 : ∀ w : Int, 0 ≤ w → w < 3 → xY ind tot pri q fr lim v w = true := by
    intro w w0 w1
    have := xMt_y h w0 w1
    unfold xY xLy xGp at this ⊢
    by_cases hw : xB tot v w = true
    · have h3 : xB tot (-1) w = true := decide_eq_true ⟨by omega, (of_decide_eq_true hw).2⟩
      rw [h3] at this
      rw [hw]
      exact this
    · have h3 : xB tot v w = false := by cases hh : xB tot v w with | false => rfl | true => exact absurd hh hw
      rw [h3]
      rfl
  unfold xMt at h ⊢
  rw [Bool.and_eq_true] at h ⊢
  exact ⟨h.1, (allN_iff _ _).mpr (fun k k0 k1 => h2 k k0 (by omega))⟩
/-- what BENT costs -/
theorem xCost (H_I : FI ind tot pri q fr li sh) (hlim : -1 ≤ lim ∧ lim ≤ 24) (h : xMt ind tot pri q fr lim un = true) : ∀ n : Nat, (n : Int) ≤ q → xBest ind tot pri q fr lim un sh = sumI (fun t => stC ind sh t (xRd ind tot pri q fr lim un sh t.toNat).1 (xRd ind tot pri q fr lim un sh (t.toNat + 1)).1) 0 n + (xCh ind tot pri q fr lim un sh (q - n).toNat n (xRd ind tot pri q fr lim un sh n).1 (xRd ind tot pri q fr lim un sh n).2).1
  | 0, _ => by
    rw [sumI_0, show q - ((0 : Nat) : Int) = q by omega]
    unfold xBest
    show _ = 0 + (xCh ind tot pri q fr lim un sh q.toNat 0 0 0).1
    omega
  | n + 1, hn => by
    have hq := H_I.q
    have H := BGp (sh := sh) (un := un) H_I hlim h
    obtain ⟨ha, hd⟩ := xRd_ok (sh := sh) H_I hlim h n (by omega)
    have hne := ch_ne H (u := n) (by omega) (by omega) ha
    rw [xCost H_I hlim h n (by omega), sumI_s]
    have e1 : (xRd ind tot pri q fr lim un sh (n + 1)).1 = (xCh ind tot pri q fr lim un sh ((q - ((n + 1 : Nat) : Int)).toNat + 1) n (xRd ind tot pri q fr lim un sh n).1 (xRd ind tot pri q fr lim un sh n).2).2.2 := by
      rw [xRd_s n, show (q - (n : Int)).toNat = (q - ((n + 1 : Nat) : Int)).toNat + 1 by omega]
    have e2 : (xRd ind tot pri q fr lim un sh (n + 1)).2 = nL (xB tot un) (xGp ind tot q un) n (xRd ind tot pri q fr lim un sh n).2 (xRd ind tot pri q fr lim un sh (n + 1)).1 := by rw [xRd_s n]
    rw [show (q - (n : Int)).toNat = (q - ((n + 1 : Nat) : Int)).toNat + 1 by omega]
    rw [show (0 : Int) + (n : Int) = n by omega, show ((n : Int)).toNat = n by omega]
    rw [e2]
    generalize hdd : (xRd ind tot pri q fr lim un sh n).1 = d at *
    generalize hll : (xRd ind tot pri q fr lim un sh n).2 = lf at *
    generalize hee : (xRd ind tot pri q fr lim un sh (n + 1)).1 = E at *
    unfold xCh at e1 ⊢
    rw [chs_s] at e1 ⊢
    have hn1 : (chTo (xB tot un) (hiQ ind pri fr lim) (xLL ind tot pri q fr lim un) (xGp ind tot q un) n lf - chFr (xB tot un) (loQ ind pri fr lim) (xLH ind tot pri q fr lim un) (xGp ind tot q un) n lf + 1).toNat = (chTo (xB tot un) (hiQ ind pri fr lim) (xLL ind tot pri q fr lim un) (xGp ind tot q un) n lf - chFr (xB tot un) (loQ ind pri fr lim) (xLH ind tot pri q fr lim un) (xGp ind tot q un) n lf).toNat + 1 := by omega
    rw [hn1] at e1 ⊢
    have hf := chF_first (c := fun e => stC ind sh n d e + (chs ind sh (loQ ind pri fr lim) (hiQ ind pri fr lim) (xLL ind tot pri q fr lim un) (xLH ind tot pri q fr lim un) (xB tot un) (xGp ind tot q un) (q - ((n + 1 : Nat) : Int)).toNat ((n : Int) + 1) e (nL (xB tot un) (xGp ind tot q un) n lf e)).1) (w := fun e => (chs ind sh (loQ ind pri fr lim) (hiQ ind pri fr lim) (xLL ind tot pri q fr lim un) (xLH ind tot pri q fr lim un) (xB tot un) (xGp ind tot q un) (q - ((n + 1 : Nat) : Int)).toNat ((n : Int) + 1) e (nL (xB tot un) (xGp ind tot q un) n lf e)).2.1) (fr := chFr (xB tot un) (loQ ind pri fr lim) (xLH ind tot pri q fr lim un) (xGp ind tot q un) n lf) (chTo (xB tot un) (hiQ ind pri fr lim) (xLL ind tot pri q fr lim un) (xGp ind tot q un) n lf - chFr (xB tot un) (loQ ind pri fr lim) (xLH ind tot pri q fr lim un) (xGp ind tot q un) n lf).toNat (fun e e0 e3 => by
      have nv := next_VL H (u := n) (by omega) (by omega) ha e0 (show e ≤ chTo (xB tot un) (hiQ ind pri fr lim) (xLL ind tot pri q fr lim un) (xGp ind tot q un) n lf by omega)
      obtain ⟨g1, -⟩ := H n (by omega) (by omega)
      have sc := stC_bd (sh := sh) (u := n) (ad := d) (d := e) (fun t a b => ⟨(H_I.ind a b).1, (H_I.ind a b).2.1⟩) ⟨by omega, by omega⟩ hd ⟨by omega, by omega⟩
      have sml := chs_small H_I H (q - ((n + 1 : Nat) : Int)).toNat (n + 1) e (nL (xB tot un) (xGp ind tot q un) n lf e) (by omega) (by omega) ⟨by omega, by omega⟩ (next_AO H (by omega) (by omega) ha e0 (show e ≤ chTo (xB tot un) (hiQ ind pri fr lim) (xLL ind tot pri q fr lim un) (xGp ind tot q un) n lf by omega))
      try dsimp only
      omega)
    rw [← e1] at hf
    rw [← hf.1]
    rw [show ((n + 1 : Nat) : Int) = (n : Int) + 1 by omega]
    omega
theorem mv_st {x : Int → Int} {t a b : Int} (ht : 0 < t) (ha : x (t - 1) = ind (t - 1) + a) (hb : x t = ind t + b) (hs : sh = 0 ∨ sh = 1) : mvI ind x sh t = stP ind sh t a b := by
  unfold mvI stP
  rw [if_pos ht, ha, hb]
  rcases hs with rfl | rfl
  · rw [if_pos rfl, if_pos rfl]; omega
  · rw [if_neg (by decide), if_neg (by decide), Int.add_mul, Int.add_mul, Int.mul_comm (ind t) (ind (t - 1))]
    omega
theorem sumI_add (f g : Int → Int) (a : Int) : ∀ n : Nat, sumI (fun t => f t + g t) a n = sumI f a n + sumI g a n
  | 0 => rfl
  | n + 1 => by rw [sumI_s, sumI_s, sumI_s, sumI_add f g a n]; omega
theorem sumI_mulr (f : Int → Int) (c a : Int) : ∀ n : Nat, sumI (fun t => f t * c) a n = sumI f a n * c
  | 0 => by rw [sumI_0, sumI_0, Int.zero_mul]
  | n + 1 => by rw [sumI_s, sumI_s, sumI_mulr f c a n, Int.add_mul]
theorem xMv_best (H_I : FI ind tot pri q fr li sh) (h : xMt ind tot pri q fr li (-1) = true) : xMoved ind (xRow ind tot pri q fr li sh) q sh = xBest ind tot pri q fr li (-1) sh / 1024 := by
  have hq := H_I.q
  have hli := H_I.li
  by_cases hq0 : q = 0
  · subst hq0
    rfl
  · have hc := xCost (sh := sh) H_I hli h q.toNat (by omega)
    have e0 : (xCh ind tot pri q fr li (-1) sh (q - (q.toNat : Int)).toNat q.toNat (xRd ind tot pri q fr li (-1) sh q.toNat).1 (xRd ind tot pri q fr li (-1) sh q.toNat).2).1 = 0 := by
      rw [show (q - (q.toNat : Int)).toNat = 0 by omega]
      rfl
    rw [e0] at hc
    have e1 := sumI_add (fun t => stP ind sh t (xRd ind tot pri q fr li (-1) sh t.toNat).1 (xRd ind tot pri q fr li (-1) sh (t.toNat + 1)).1 * stP ind sh t (xRd ind tot pri q fr li (-1) sh t.toNat).1 (xRd ind tot pri q fr li (-1) sh (t.toNat + 1)).1 * 1024) (fun t => (xRd ind tot pri q fr li (-1) sh (t.toNat + 1)).1 * (xRd ind tot pri q fr li (-1) sh (t.toNat + 1)).1) 0 q.toNat
    have e2 := sumI_mulr (fun t => stP ind sh t (xRd ind tot pri q fr li (-1) sh t.toNat).1 (xRd ind tot pri q fr li (-1) sh (t.toNat + 1)).1 * stP ind sh t (xRd ind tot pri q fr li (-1) sh t.toNat).1 (xRd ind tot pri q fr li (-1) sh (t.toNat + 1)).1) 1024 0 q.toNat
    have e3 := sumI_bd (f := fun t => (xRd ind tot pri q fr li (-1) sh (t.toNat + 1)).1 * (xRd ind tot pri q fr li (-1) sh (t.toNat + 1)).1) (a := 0) (lo := 0) (hi := 64) (n := q.toNat) (fun k k0 k1 => by
      have hr := (xRd_ok (sh := sh) H_I hli h ((0 + k).toNat + 1) (by omega)).2
      exact ⟨sq_nn _, sq_bd (B := 8) hr.1 hr.2⟩)
    have e4 := sumI_split (fun t => stP ind sh t (xRd ind tot pri q fr li (-1) sh t.toNat).1 (xRd ind tot pri q fr li (-1) sh (t.toNat + 1)).1 * stP ind sh t (xRd ind tot pri q fr li (-1) sh t.toNat).1 (xRd ind tot pri q fr li (-1) sh (t.toNat + 1)).1) 0 1 (q.toNat - 1)
    rw [show 1 + (q.toNat - 1) = q.toNat by omega, sumI_s, sumI_0] at e4
    have e5 : stP ind sh ((0 : Int) + ((0 : Nat) : Int)) (xRd ind tot pri q fr li (-1) sh ((0 : Int) + ((0 : Nat) : Int)).toNat).1 (xRd ind tot pri q fr li (-1) sh (((0 : Int) + ((0 : Nat) : Int)).toNat + 1)).1 = 0 := by
      unfold stP
      rw [if_neg (by omega)]
    have e6 : xMoved ind (xRow ind tot pri q fr li sh) q sh = sumI (fun t => stP ind sh t (xRd ind tot pri q fr li (-1) sh t.toNat).1 (xRd ind tot pri q fr li (-1) sh (t.toNat + 1)).1 * stP ind sh t (xRd ind tot pri q fr li (-1) sh t.toNat).1 (xRd ind tot pri q fr li (-1) sh (t.toNat + 1)).1) (0 + ((1 : Nat) : Int)) (q.toNat - 1) := by
      unfold xMoved
      rw [show (q - 1).toNat = q.toNat - 1 by omega]
      refine sumI_cong (fun k k0 k1 => ?_)
      have e7 := mv_st (ind := ind) (sh := sh) (x := xRow ind tot pri q fr li sh) (t := 1 + k) (a := (xRd ind tot pri q fr li (-1) sh (1 + k).toNat).1) (b := (xRd ind tot pri q fr li (-1) sh ((1 + k).toNat + 1)).1) (by omega) (by unfold xRow; rw [show (1 + k - 1 + 1).toNat = (1 + k).toNat by omega]) (by unfold xRow; rw [show (1 + k + 1).toNat = (1 + k).toNat + 1 by omega]) H_I.sh
      try dsimp only
      rw [e7, show (0 : Int) + ((1 : Nat) : Int) + k = 1 + k by omega]
    have e8 : sumI (fun t => stC ind sh t (xRd ind tot pri q fr li (-1) sh t.toNat).1 (xRd ind tot pri q fr li (-1) sh (t.toNat + 1)).1) 0 q.toNat = sumI (fun t => stP ind sh t (xRd ind tot pri q fr li (-1) sh t.toNat).1 (xRd ind tot pri q fr li (-1) sh (t.toNat + 1)).1 * stP ind sh t (xRd ind tot pri q fr li (-1) sh t.toNat).1 (xRd ind tot pri q fr li (-1) sh (t.toNat + 1)).1 * 1024 + (xRd ind tot pri q fr li (-1) sh (t.toNat + 1)).1 * (xRd ind tot pri q fr li (-1) sh (t.toNat + 1)).1) 0 q.toNat := rfl
    rw [e5, ← e6] at e4
    rw [e8, e1, e2, e4] at hc
    omega
end DF
/-- may is: between how low and how high -/
theorem may_iff {ind tot pri : Int → Int} {q fr li sh lim t d off : Int} (H_I : FI ind tot pri q fr li sh) (hlim : -1 ≤ lim ∧ lim ≤ 24) (h0 : 0 ≤ t) (h1 : t < 12) (hd : -8 ≤ d ∧ d ≤ 8) (ho : off = if pri t = -1 then 0 else if pri t < ind t + d + 8 then ind t + d + 8 - pri t else pri t - (ind t + d) - 8) : (¬ (bAnd (bShr fr t) 1 = 1 ∧ off ≠ 0) ∧ (lim = -1 ∨ off ≤ lim)) ↔ (loQ ind pri fr lim t ≤ d ∧ d ≤ hiQ ind pri fr lim t) := by
  have hp := H_I.pri h0 h1
  have hi := H_I.ind h0 h1
  subst ho
  unfold loQ hiQ rmQ
  (repeat' split) <;> omega
