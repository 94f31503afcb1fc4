/-! the search from behind, as a function; what the spots hold -/
def chs (ind : Int → Int) (sh : Int) (low high ll lh : Int → Int) (bnd : Int → Bool) (gap : Int → Int) : Nat → Int → Int → Int → I3
  | 0, _, _, _ => (0, 1, 0)
  | k + 1, u, d, lf => chF (fun e => stC ind sh u d e + (chs ind sh low high ll lh bnd gap k (u + 1) e (nL bnd gap u lf e)).1) (fun e => (chs ind sh low high ll lh bnd gap k (u + 1) e (nL bnd gap u lf e)).2.1) (chFr bnd low lh gap u lf) (chTo bnd high ll gap u lf - chFr bnd low lh gap u lf + 1).toNat
theorem chs_s (ind : Int → Int) (sh : Int) (low high ll lh : Int → Int) (bnd : Int → Bool) (gap : Int → Int) (k : Nat) (u d lf : Int) : chs ind sh low high ll lh bnd gap (k + 1) u d lf = chF (fun e => stC ind sh u d e + (chs ind sh low high ll lh bnd gap k (u + 1) e (nL bnd gap u lf e)).1) (fun e => (chs ind sh low high ll lh bnd gap k (u + 1) e (nL bnd gap u lf e)).2.1) (chFr bnd low lh gap u lf) (chTo bnd high ll gap u lf - chFr bnd low lh gap u lf + 1).toNat := rfl
def wS (j : Int) : Int := if j = 0 then 16 else if j = 1 then 32 else if j = 2 then 16 else 0
/-- what the rows of Bounds are when some row meets -/
def BG (q : Int) (low high ll lh : Int → Int) (bnd : Int → Bool) (gap : Int → Int) : Prop :=
  ∀ t : Int, 0 ≤ t → t < q → (-8 ≤ low t ∧ low t ≤ high t ∧ high t ≤ 8) ∧ (lh t - ll t ≤ wS (t % 4)) ∧ (bnd (t / 4) = false → ll t = 0 ∧ lh t = 0) ∧ (-20000 ≤ ll t ∧ ll t ≤ 20000 ∧ -20000 ≤ lh t ∧ lh t ≤ 20000) ∧ (-2000 ≤ gap (t / 4) ∧ gap (t / 4) ≤ 2000) ∧ (bnd (t / 4) = true → ∀ a : Int, lPrev gap ll t ≤ a → a ≤ lPrev gap lh t → (if low t < a - lh t then a - lh t else low t) ≤ (if a - ll t < high t then a - ll t else high t))
theorem sq_stC (ind : Int → Int) (sh u ad d : Int) : 0 ≤ stC ind sh u ad d := by
  have h2 := sq_nn (stP ind sh u ad d)
  have h4 := sq_nn d
  unfold stC
  omega
theorem chs_bd (ind : Int → Int) (sh : Int) (low high ll lh : Int → Int) (bnd : Int → Bool) (gap : Int → Int) : ∀ (k : Nat) (u d lf : Int), (0 ≤ (chs ind sh low high ll lh bnd gap k u d lf).1 ∧ (chs ind sh low high ll lh bnd gap k u d lf).1 ≤ 1152921504606846976) ∧ 0 ≤ (chs ind sh low high ll lh bnd gap k u d lf).2.1 ∧ (chs ind sh low high ll lh bnd gap k u d lf).2.1 ≤ 9999
  | 0, u, d, lf => by unfold chs; dsimp only; omega
  | k + 1, u, d, lf => by
    rw [chs_s]
    refine chF_bd (fun e _ _ => ?_)
    have h1 := chs_bd ind sh low high ll lh bnd gap k (u + 1) e (nL bnd gap u lf e)
    have h2 := sq_stC ind sh u d e
    exact ⟨by omega, h1.2.1, h1.2.2⟩
theorem xSpot_bd {ll : Int → Int} {t lf d : Int} (h0 : 0 ≤ t) (h1 : t < 12) (hl : ll t ≤ lf) (hw : lf - ll t ≤ wS (t % 4)) (hd : -8 ≤ d ∧ d ≤ 8) : 0 ≤ xSpot ll t lf d ∧ xSpot ll t lf d < 3468 := by
  unfold xSpot spB
  unfold wS at hw
  rcases (show t % 4 = 0 ∨ t % 4 = 1 ∨ t % 4 = 2 ∨ t % 4 = 3 by omega) with e | e | e | e <;> rw [e] at hw ⊢ <;> simp only [if_pos, if_neg, show (1 : Int) ≠ 0 by decide, show (2 : Int) ≠ 0 by decide, show (2 : Int) ≠ 1 by decide, show (3 : Int) ≠ 0 by decide, show (3 : Int) ≠ 1 by decide, show (3 : Int) ≠ 2 by decide, ↓reduceIte] at hw ⊢ <;> omega
theorem xSpot_inj {ll : Int → Int} {t lf d t2 lf2 d2 : Int} (h0 : 0 ≤ t) (h1 : t < 12) (hl : ll t ≤ lf) (hw : lf - ll t ≤ wS (t % 4)) (hd : -8 ≤ d ∧ d ≤ 8) (h02 : 0 ≤ t2) (h12 : t2 < 12) (hl2 : ll t2 ≤ lf2) (hw2 : lf2 - ll t2 ≤ wS (t2 % 4)) (hd2 : -8 ≤ d2 ∧ d2 ≤ 8) (e : xSpot ll t lf d = xSpot ll t2 lf2 d2) : t = t2 ∧ lf = lf2 ∧ d = d2 := by
  have ht : t = t2 := by
    unfold xSpot spB at e
    unfold wS at hw hw2
    rcases (show t % 4 = 0 ∨ t % 4 = 1 ∨ t % 4 = 2 ∨ t % 4 = 3 by omega) with a | a | a | a <;> rcases (show t2 % 4 = 0 ∨ t2 % 4 = 1 ∨ t2 % 4 = 2 ∨ t2 % 4 = 3 by omega) with b | b | b | b <;> rw [a] at hw <;> rw [b] at hw2 <;> rw [a, b] at e <;> simp only [show (1 : Int) ≠ 0 by decide, show (2 : Int) ≠ 0 by decide, show (2 : Int) ≠ 1 by decide, show (3 : Int) ≠ 0 by decide, show (3 : Int) ≠ 1 by decide, show (3 : Int) ≠ 2 by decide, ↓reduceIte] at hw hw2 e <;> omega
  subst ht
  unfold xSpot at e
  omega
def VL (bnd : Int → Bool) (gap ll lh : Int → Int) (t d lf : Int) : Prop := xLeast bnd gap ll t d ≤ lf ∧ lf ≤ xMost bnd gap lh t d
def AO (ll lh : Int → Int) (u lf : Int) : Prop := u = 0 ∨ (ll (u - 1) ≤ lf ∧ lf ≤ lh (u - 1))
section FP
variable {ind : Int → Int} {sh q : Int} {low high ll lh : Int → Int} {bnd : Int → Bool} {gap : Int → Int}
theorem VL_in (H : BG q low high ll lh bnd gap) {t d lf : Int} (h0 : 0 ≤ t) (h1 : t < q) (h : VL bnd gap ll lh t d lf) : ll t ≤ lf ∧ lf ≤ lh t := by
  obtain ⟨-, -, h3, -⟩ := H t h0 h1
  obtain ⟨a, b⟩ := h
  unfold xLeast at a
  unfold xMost at b
  by_cases hb : bnd (t / 4) = true
  · rw [if_pos hb] at a b
    split at a <;> split at b <;> omega
  · rw [if_neg hb] at a b
    have := h3 (by cases hh : bnd (t / 4) with | false => rfl | true => exact absurd hh hb)
    omega
theorem AO_pr {u lf : Int} (h0 : 0 ≤ u) (h : AO ll lh u lf) : lPrev gap ll u ≤ lAh gap u lf ∧ lAh gap u lf ≤ lPrev gap lh u := by
  unfold lPrev lAh
  rcases h with rfl | ⟨a, b⟩
  · simp
  · by_cases hu : 0 < u
    · rw [if_pos hu, if_pos hu]
      split <;> omega
    · have : u = 0 := by omega
      subst this
      simp
theorem next_VL (H : BG q low high ll lh bnd gap) {u lf e : Int} (h0 : 0 ≤ u) (h1 : u < q) (ha : AO ll lh u lf) (he : chFr bnd low lh gap u lf ≤ e) (he2 : e ≤ chTo bnd high ll gap u lf) : (low u ≤ e ∧ e ≤ high u) ∧ VL bnd gap ll lh u e (nL bnd gap u lf e) := by
  have hp := AO_pr (gap := gap) h0 ha
  unfold chFr at he
  unfold chTo at he2
  unfold VL xLeast xMost nL
  by_cases hb : bnd (u / 4) = true
  · rw [if_pos hb] at he he2
    rw [if_pos hb, if_pos hb, if_pos hb]
    split at he <;> split at he2 <;> refine ⟨⟨by omega, by omega⟩, ?_, ?_⟩ <;> split <;> omega
  · rw [if_neg hb] at he he2
    rw [if_neg hb, if_neg hb, if_neg hb]
    exact ⟨⟨he, he2⟩, Int.le_refl _, Int.le_refl _⟩
theorem ch_ne (H : BG q low high ll lh bnd gap) {u lf : Int} (h0 : 0 ≤ u) (h1 : u < q) (ha : AO ll lh u lf) : chFr bnd low lh gap u lf ≤ chTo bnd high ll gap u lf := by
  have hp := AO_pr (gap := gap) h0 ha
  obtain ⟨g1, -, -, -, -, g6⟩ := H u h0 h1
  unfold chFr chTo
  by_cases hb : bnd (u / 4) = true
  · rw [if_pos hb, if_pos hb]
    exact g6 hb _ hp.1 hp.2
  · rw [if_neg hb, if_neg hb]
    exact g1.2.1
theorem next_AO (H : BG q low high ll lh bnd gap) {u lf e : Int} (h0 : 0 ≤ u) (h1 : u < q) (ha : AO ll lh u lf) (he : chFr bnd low lh gap u lf ≤ e) (he2 : e ≤ chTo bnd high ll gap u lf) : AO ll lh (u + 1) (nL bnd gap u lf e) := by
  have h := VL_in H h0 h1 (next_VL H h0 h1 ha he he2).2
  exact Or.inr (by rw [show u + 1 - 1 = u by omega]; exact h)
/-- what is done: (t, d, left) ahead of those in their order -/
def Fil (ind : Int → Int) (sh q : Int) (low high ll lh : Int → Int) (bnd : Int → Bool) (gap costs ways : Int → Int) (T Dd Lf : Int) : Prop :=
  ∀ t d lf : Int, 0 ≤ t → t < q → low t ≤ d → d ≤ high t → VL bnd gap ll lh t d lf → (T < t ∨ (t = T ∧ (d < Dd ∨ (d = Dd ∧ lf < Lf)))) →
    costs (xSpot ll t lf d) = (chs ind sh low high ll lh bnd gap (q - 1 - t).toNat (t + 1) d lf).1 ∧ ways (xSpot ll t lf d) = (chs ind sh low high ll lh bnd gap (q - 1 - t).toNat (t + 1) d lf).2.1
theorem Fil_step {costs ways : Int → Int} {T Dd Lf bc bw : Int} (H : BG q low high ll lh bnd gap) (hq : q ≤ 12) (F : Fil ind sh q low high ll lh bnd gap costs ways T Dd Lf) (h0 : 0 ≤ T) (h1 : T < q) (hd : low T ≤ Dd ∧ Dd ≤ high T) (hv : VL bnd gap ll lh T Dd Lf) (e1 : bc = (chs ind sh low high ll lh bnd gap (q - 1 - T).toNat (T + 1) Dd Lf).1) (e2 : bw = (chs ind sh low high ll lh bnd gap (q - 1 - T).toNat (T + 1) Dd Lf).2.1) :
    Fil ind sh q low high ll lh bnd gap (up costs (xSpot ll T Lf Dd) bc) (up ways (xSpot ll T Lf Dd) bw) T Dd (Lf + 1) := by
  intro t d lf t0 t1 d0 d1 v hdone
  by_cases e : xSpot ll t lf d = xSpot ll T Lf Dd
  · obtain ⟨g1, g2, -⟩ := H t t0 t1
    obtain ⟨k1, k2, -⟩ := H T h0 h1
    have vt := VL_in H t0 t1 v
    have vT := VL_in H h0 h1 hv
    obtain ⟨rfl, rfl, rfl⟩ := xSpot_inj t0 (by omega) vt.1 (by omega) ⟨by omega, by omega⟩ h0 (by omega) vT.1 (by omega) ⟨by omega, by omega⟩ e
    rw [up_same, up_same]
    exact ⟨e1, e2⟩
  · rw [up_ne _ _ e, up_ne _ _ e]
    refine F t d lf t0 t1 d0 d1 v ?_
    rcases hdone with h | ⟨rfl, h | ⟨rfl, h⟩⟩
    · exact Or.inl h
    · exact Or.inr ⟨rfl, Or.inl h⟩
    · by_cases hl : lf < Lf
      · exact Or.inr ⟨rfl, Or.inr ⟨rfl, hl⟩⟩
      · have : lf = Lf := by omega
        exact absurd (by rw [this]) e
theorem Fil_row0 {costs ways : Int → Int} {T Dd Lf : Int} (F : Fil ind sh q low high ll lh bnd gap costs ways T Dd Lf) (h : xMost bnd gap lh T Dd < Lf) (L2 : Int) : Fil ind sh q low high ll lh bnd gap costs ways T (Dd + 1) L2 → True := fun _ => trivial
theorem Fil_nextD {costs ways : Int → Int} {T Dd Lf : Int} (F : Fil ind sh q low high ll lh bnd gap costs ways T Dd Lf) (h : xMost bnd gap lh T Dd < Lf) : Fil ind sh q low high ll lh bnd gap costs ways T (Dd + 1) (xLeast bnd gap ll T (Dd + 1)) := by
  intro t d lf t0 t1 d0 d1 v hdone
  refine F t d lf t0 t1 d0 d1 v ?_
  rcases hdone with h2 | ⟨rfl, h2 | ⟨rfl, h2⟩⟩
  · exact Or.inl h2
  · by_cases hd : d < Dd
    · exact Or.inr ⟨rfl, Or.inl hd⟩
    · have : d = Dd := by omega
      subst this
      exact Or.inr ⟨rfl, Or.inr ⟨rfl, by have := v.2; omega⟩⟩
  · have := v.1
    omega
theorem Fil_nextT {costs ways : Int → Int} {T Dd Lf : Int} (F : Fil ind sh q low high ll lh bnd gap costs ways T Dd Lf) (h : high T < Dd) : Fil ind sh q low high ll lh bnd gap costs ways (T - 1) (low (T - 1)) (xLeast bnd gap ll (T - 1) (low (T - 1))) := by
  intro t d lf t0 t1 d0 d1 v hdone
  refine F t d lf t0 t1 d0 d1 v ?_
  rcases hdone with h2 | ⟨rfl, h2 | ⟨rfl, h2⟩⟩
  · by_cases ht : T < t
    · exact Or.inl ht
    · have : t = T := by omega
      subst this
      exact Or.inr ⟨rfl, Or.inl (by omega)⟩
  · omega
  · have := v.1
    omega
theorem Fil_0 {costs ways : Int → Int} : Fil ind sh q low high ll lh bnd gap costs ways (q - 1) (low (q - 1)) (xLeast bnd gap ll (q - 1) (low (q - 1))) := by
  intro t d lf t0 t1 d0 d1 v hdone
  rcases hdone with h2 | ⟨rfl, h2 | ⟨rfl, h2⟩⟩
  · omega
  · omega
  · have := v.1
    omega
theorem lPrev_bd (H : BG q low high ll lh bnd gap) {t : Int} (h0 : 0 ≤ t) (h1 : t < q) : (-20000 ≤ lPrev gap ll t ∧ lPrev gap ll t ≤ 20000) ∧ -20000 ≤ lPrev gap lh t ∧ lPrev gap lh t ≤ 20000 := by
  obtain ⟨-, -, -, -, g5, -⟩ := H t h0 h1
  unfold lPrev lAh
  by_cases ht : 0 < t
  · obtain ⟨-, -, -, k4, -⟩ := H (t - 1) (by omega) (by omega)
    rw [if_pos ht, if_pos ht]
    split <;> omega
  · have : t = 0 := by omega
    subst this
    have e : gap (0 / 4) = gap 0 := by rw [show (0 : Int) / 4 = 0 by decide]
    rw [if_neg ht, if_neg ht]
    omega
theorem xLM_bd (H : BG q low high ll lh bnd gap) {t d : Int} (h0 : 0 ≤ t) (h1 : t < q) (hd : -8 ≤ d ∧ d ≤ 8) : (-30000 ≤ xLeast bnd gap ll t d ∧ xLeast bnd gap ll t d ≤ 30000) ∧ -30000 ≤ xMost bnd gap lh t d ∧ xMost bnd gap lh t d ≤ 30000 := by
  obtain ⟨-, -, -, g4, -⟩ := H t h0 h1
  have hp := lPrev_bd H h0 h1
  unfold xLeast xMost
  (repeat' split) <;> omega
/-- the spots behind u are right: then a step at u is -/
def FilA (ind : Int → Int) (sh q : Int) (low high ll lh : Int → Int) (bnd : Int → Bool) (gap costs ways : Int → Int) (u : Int) : Prop :=
  ∀ d lf : Int, u < q → low u ≤ d → d ≤ high u → VL bnd gap ll lh u d lf →
    costs (xSpot ll u lf d) = (chs ind sh low high ll lh bnd gap (q - 1 - u).toNat (u + 1) d lf).1 ∧ ways (xSpot ll u lf d) = (chs ind sh low high ll lh bnd gap (q - 1 - u).toNat (u + 1) d lf).2.1
theorem Fil_A {costs ways : Int → Int} {T Dd Lf : Int} (F : Fil ind sh q low high ll lh bnd gap costs ways T Dd Lf) {u : Int} (hu : T < u) (h0 : 0 ≤ u) : FilA ind sh q low high ll lh bnd gap costs ways u := fun d lf h1 d0 d1 v => F u d lf h0 h1 d0 d1 v (Or.inl hu)
/-- the steps to u are weighed -/
def Wg (ind : Int → Int) (sh q : Int) (low high stc : Int → Int) (u ad : Int) : Prop := u < q → ∀ d : Int, low u ≤ d → d ≤ high u → stc (d + 8) = stC ind sh u ad d
theorem Wg_of {stc : Int → Int} {u ad : Int} : Wg ind sh q low high (xWs ind stc low high q sh u ad) u ad := by
  intro hu d d0 d1
  unfold xWs
  rw [if_pos hu, fillR_in (by omega) (by omega)]
  rw [show d + 8 - 8 = d by omega]
theorem ch_step {pri tot : Int → Int} {fr li : Int} (H_I : FI ind tot pri q fr li sh) (H : BG q low high ll lh bnd gap) {costs ways stc : Int → Int} {u d lf : Int} (h0 : 0 ≤ u) (ha : AO ll lh u lf) (hd : -8 ≤ d ∧ d ≤ 8) (hlf : -20000 ≤ lf ∧ lf ≤ 20000) (F : FilA ind sh q low high ll lh bnd gap costs ways u) (Wt : Wg ind sh q low high stc u d) :
    CPre q low high ll lh bnd gap costs ways stc u lf ∧ chE q low high ll lh bnd gap costs ways stc u lf = chs ind sh low high ll lh bnd gap (q - u).toNat u d lf := by
  have hq := H_I.q
  by_cases hu : u < q
  · obtain ⟨g1, g2, g3, g4, g5, g6⟩ := H u h0 hu
    have key : ∀ e : Int, chFr bnd low lh gap u lf ≤ e → e ≤ chTo bnd high ll gap u lf → (0 ≤ xSpot ll u (nL bnd gap u lf e) e ∧ xSpot ll u (nL bnd gap u lf e) e < 3468) ∧ costs (xSpot ll u (nL bnd gap u lf e) e) = (chs ind sh low high ll lh bnd gap (q - 1 - u).toNat (u + 1) e (nL bnd gap u lf e)).1 ∧ ways (xSpot ll u (nL bnd gap u lf e) e) = (chs ind sh low high ll lh bnd gap (q - 1 - u).toNat (u + 1) e (nL bnd gap u lf e)).2.1 ∧ stc (e + 8) = stC ind sh u d e ∧ -8 ≤ e ∧ e ≤ 8 := by
      intro e e0 e1
      obtain ⟨n1, n2⟩ := next_VL H h0 hu ha e0 e1
      have n3 := VL_in H h0 hu n2
      obtain ⟨f1, f2⟩ := F e _ hu n1.1 n1.2 n2
      exact ⟨xSpot_bd h0 (by omega) n3.1 (by omega) ⟨by omega, by omega⟩, f1, f2, Wt hu e n1.1 n1.2, by omega, by omega⟩
    constructor
    · intro _
      refine ⟨⟨by omega, by omega, by omega, by omega⟩, g5, g4, hlf, fun e e0 e1 => ?_⟩
      obtain ⟨k1, k2, k3, k4, k5, k6⟩ := key e e0 e1
      have b := chs_bd ind sh low high ll lh bnd gap (q - 1 - u).toNat (u + 1) e (nL bnd gap u lf e)
      have s := stC_bd (sh := sh) (u := u) (ad := d) (d := e) (fun t a b => ⟨(H_I.ind a b).1, (H_I.ind a b).2.1⟩) ⟨h0, by omega⟩ hd ⟨k5, k6⟩
      rw [k2, k3, k4]
      exact ⟨k1, b.1, b.2, by omega, by omega⟩
    · unfold chE
      rw [if_pos hu, show (q - u).toNat = (q - 1 - u).toNat + 1 by omega, chs_s]
      have hne := ch_ne H h0 hu ha
      refine chF_cong (fun e e0 e1 => ?_)
      obtain ⟨k1, k2, k3, k4, k5, k6⟩ := key e e0 (by omega)
      rw [k2, k3, k4]
      exact ⟨rfl, rfl⟩
  · constructor
    · intro h; exact absurd h hu
    · unfold chE
      rw [if_neg hu, show (q - u).toNat = 0 by omega]
      rfl
theorem chF_le {c w : Int → Int} {fr : Int} : ∀ {n : Nat} (d : Int), fr ≤ d → d < fr + n → (chF c w fr n).1 ≤ c d
  | 0, d, h0, h1 => by omega
  | n + 1, d, h0, h1 => by
    rw [chF_s]
    by_cases e : d = fr + n
    · subst e
      unfold chF1
      (repeat' split) <;> ((try dsimp only); omega)
    · have ih := chF_le (c := c) (w := w) (fr := fr) (n := n) d h0 (by omega)
      unfold chF1
      (repeat' split) <;> ((try dsimp only); omega)
theorem chF_in {c w : Int → Int} {fr : Int} (hc : c fr < 1152921504606846976) : ∀ n : Nat, fr ≤ (chF c w fr (n + 1)).2.2 ∧ (chF c w fr (n + 1)).2.2 < fr + ((n + 1 : Nat) : Int)
  | 0 => by
    rw [chF_s]
    unfold chF1 chF
    rw [show fr + ((0 : Nat) : Int) = fr by omega, if_pos hc]
    dsimp only
    omega
  | n + 1 => by
    have ih := chF_in hc n (w := w)
    rw [chF_s]
    unfold chF1
    (repeat' split) <;> ((try dsimp only); omega)
theorem chs_small {pri tot : Int → Int} {fr li : Int} (H_I : FI ind tot pri q fr li sh) (H : BG q low high ll lh bnd gap) : ∀ (k : Nat) (u d lf : Int), 0 ≤ u → u + k = q → -8 ≤ d ∧ d ≤ 8 → AO ll lh u lf → (chs ind sh low high ll lh bnd gap k u d lf).1 ≤ 2600000000 * k
  | 0, u, d, lf, _, _, _, _ => by unfold chs; dsimp only; omega
  | k + 1, u, d, lf, h0, hk, hd, ha => by
    have hq := H_I.q
    have hne := ch_ne H h0 (by omega) ha
    obtain ⟨n1, n2⟩ := next_VL H h0 (by omega) ha (Int.le_refl _) hne
    obtain ⟨g1, -⟩ := H u h0 (by omega)
    have s := stC_bd (sh := sh) (u := u) (ad := d) (d := chFr bnd low lh gap u lf) (fun t a b => ⟨(H_I.ind a b).1, (H_I.ind a b).2.1⟩) ⟨h0, by omega⟩ hd ⟨by omega, by omega⟩
    have ih := chs_small H_I H k (u + 1) (chFr bnd low lh gap u lf) (nL bnd gap u lf (chFr bnd low lh gap u lf)) (by omega) (by omega) ⟨by omega, by omega⟩ (next_AO H h0 (by omega) ha (Int.le_refl _) hne)
    rw [chs_s]
    refine Int.le_trans (chF_le (chFr bnd low lh gap u lf) (Int.le_refl _) (by omega)) ?_
    omega
theorem chs_in {pri tot : Int → Int} {fr li : Int} (H_I : FI ind tot pri q fr li sh) (H : BG q low high ll lh bnd gap) {u d lf : Int} (h0 : 0 ≤ u) (h1 : u < q) (hd : -8 ≤ d ∧ d ≤ 8) (ha : AO ll lh u lf) : chFr bnd low lh gap u lf ≤ (chs ind sh low high ll lh bnd gap (q - u).toNat u d lf).2.2 ∧ (chs ind sh low high ll lh bnd gap (q - u).toNat u d lf).2.2 ≤ chTo bnd high ll gap u lf := by
  have hq := H_I.q
  have hne := ch_ne H h0 h1 ha
  obtain ⟨n1, n2⟩ := next_VL H h0 h1 ha (Int.le_refl _) hne
  obtain ⟨g1, -⟩ := H u h0 h1
  have s := stC_bd (sh := sh) (u := u) (ad := d) (d := chFr bnd low lh gap u lf) (fun t a b => ⟨(H_I.ind a b).1, (H_I.ind a b).2.1⟩) ⟨h0, by omega⟩ hd ⟨by omega, by omega⟩
  have sml := chs_small H_I H (q - 1 - u).toNat (u + 1) (chFr bnd low lh gap u lf) (nL bnd gap u lf (chFr bnd low lh gap u lf)) (by omega) (by omega) ⟨by omega, by omega⟩ (next_AO H h0 h1 ha (Int.le_refl _) hne)
  rw [show (q - u).toNat = (q - 1 - u).toNat + 1 by omega, chs_s]
  have hn : (chTo bnd high ll gap u lf - chFr bnd low lh gap u lf + 1).toNat = (chTo bnd high ll gap u lf - chFr bnd low lh gap u lf).toNat + 1 := by omega
  rw [hn]
  have := chF_in (c := fun e => stC ind sh u d e + (chs ind sh low high ll lh bnd gap (q - 1 - u).toNat (u + 1) e (nL bnd gap u lf e)).1) (w := fun e => (chs ind sh low high ll lh bnd gap (q - 1 - u).toNat (u + 1) e (nL bnd gap u lf e)).2.1) (fr := chFr bnd low lh gap u lf) (by omega) (chTo bnd high ll gap u lf - chFr bnd low lh gap u lf).toNat
  omega
end FP
/-- the row, traced: d and what is left, behind so many quarters -/
def rdS (ind : Int → Int) (sh q : Int) (low high ll lh : Int → Int) (bnd : Int → Bool) (gap : Int → Int) : Nat → Int × Int
  | 0 => (0, 0)
  | n + 1 => ((chs ind sh low high ll lh bnd gap (q - n).toNat n (rdS ind sh q low high ll lh bnd gap n).1 (rdS ind sh q low high ll lh bnd gap n).2).2.2, nL bnd gap n (rdS ind sh q low high ll lh bnd gap n).2 (chs ind sh low high ll lh bnd gap (q - n).toNat n (rdS ind sh q low high ll lh bnd gap n).1 (rdS ind sh q low high ll lh bnd gap n).2).2.2)
