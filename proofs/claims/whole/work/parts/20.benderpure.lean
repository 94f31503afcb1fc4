/-! the search from behind: its words -/
def stP (ind : Int → Int) (sh u ad d : Int) : Int := if 0 < u then (if sh = 0 then d - ad else d * ind (u - 1) - ad * ind u) else 0
def stC (ind : Int → Int) (sh u ad d : Int) : Int := stP ind sh u ad d * stP ind sh u ad d * 1024 + d * d
def xSpot (ll : Int → Int) (t lf d : Int) : Int := 1156 * (t / 4) + spB (t % 4) + (lf - ll t) * 17 + d + 8
def nL (bnd : Int → Bool) (gap : Int → Int) (u lf d : Int) : Int := if bnd (u / 4) = true then lAh gap u lf - d else 0
def chFr (bnd : Int → Bool) (low lh gap : Int → Int) (u lf : Int) : Int := if bnd (u / 4) = true then (if low u < lAh gap u lf - lh u then lAh gap u lf - lh u else low u) else low u
def chTo (bnd : Int → Bool) (high ll gap : Int → Int) (u lf : Int) : Int := if bnd (u / 4) = true then (if lAh gap u lf - ll u < high u then lAh gap u lf - ll u else high u) else high u
abbrev I3 : Type := Int × Int × Int
def chF1 (c w d : Int) (S : I3) : I3 := if c < S.1 then (c, w, d) else if c = S.1 then (S.1, (if S.2.1 + w < 9999 then S.2.1 + w else 9999), S.2.2) else S
def chF (c w : Int → Int) (fr : Int) : Nat → I3
  | 0 => (1152921504606846976, 0, 0)
  | n + 1 => chF1 (c (fr + n)) (w (fr + n)) (fr + n) (chF c w fr n)
theorem chF_s (c w : Int → Int) (fr : Int) (n : Nat) : chF c w fr (n + 1) = chF1 (c (fr + n)) (w (fr + n)) (fr + n) (chF c w fr n) := rfl
theorem chF_cong {c w c2 w2 : Int → Int} {fr : Int} : ∀ {n : Nat}, (∀ d : Int, fr ≤ d → d < fr + n → c d = c2 d ∧ w d = w2 d) → chF c w fr n = chF c2 w2 fr n
  | 0, _ => rfl
  | n + 1, h => by
    have e := h (fr + n) (by omega) (by omega)
    rw [chF_s, chF_s, chF_cong (n := n) (fun d h0 h1 => h d h0 (by omega)), e.1, e.2]
theorem chF1_bd {c w d : Int} {S : I3} (hc : 0 ≤ c) (hw : 0 ≤ w ∧ w ≤ 9999) (hS : (0 ≤ S.1 ∧ S.1 ≤ 1152921504606846976) ∧ 0 ≤ S.2.1 ∧ S.2.1 ≤ 9999) : (0 ≤ (chF1 c w d S).1 ∧ (chF1 c w d S).1 ≤ 1152921504606846976) ∧ 0 ≤ (chF1 c w d S).2.1 ∧ (chF1 c w d S).2.1 ≤ 9999 := by
  unfold chF1
  (repeat' split) <;> ((try dsimp only); omega)
theorem chF_bd {c w : Int → Int} {fr : Int} : ∀ {n : Nat}, (∀ d : Int, fr ≤ d → d < fr + n → 0 ≤ c d ∧ 0 ≤ w d ∧ w d ≤ 9999) → (0 ≤ (chF c w fr n).1 ∧ (chF c w fr n).1 ≤ 1152921504606846976) ∧ 0 ≤ (chF c w fr n).2.1 ∧ (chF c w fr n).2.1 ≤ 9999
  | 0, _ => by unfold chF; dsimp only; omega
  | n + 1, h => by
    have e := h (fr + n) (by omega) (by omega)
    rw [chF_s]
    exact chF1_bd e.1 e.2 (chF_bd (fun d h0 h1 => h d h0 (by omega)))
/-- what a step of the search asks of the rows -/
def CPre (bq : Int) (low high ll lh : Int → Int) (bnd : Int → Bool) (gap costs ways stc : Int → Int) (u lf : Int) : Prop :=
  u < bq → (-8 ≤ low u ∧ low u ≤ 8 ∧ -8 ≤ high u ∧ high u ≤ 8) ∧ (-2000 ≤ gap (u / 4) ∧ gap (u / 4) ≤ 2000) ∧ (-20000 ≤ ll u ∧ ll u ≤ 20000 ∧ -20000 ≤ lh u ∧ lh u ≤ 20000) ∧ (-20000 ≤ lf ∧ lf ≤ 20000) ∧
    ∀ d : Int, chFr bnd low lh gap u lf ≤ d → d ≤ chTo bnd high ll gap u lf → (0 ≤ xSpot ll u (nL bnd gap u lf d) d ∧ xSpot ll u (nL bnd gap u lf d) d < 3468) ∧ (0 ≤ costs (xSpot ll u (nL bnd gap u lf d) d) ∧ costs (xSpot ll u (nL bnd gap u lf d) d) ≤ 1152921504606846976) ∧ (0 ≤ ways (xSpot ll u (nL bnd gap u lf d) d) ∧ ways (xSpot ll u (nL bnd gap u lf d) d) ≤ 9999) ∧ 0 ≤ stc (d + 8) ∧ stc (d + 8) ≤ 1152921504606846976
def chE (bq : Int) (low high ll lh : Int → Int) (bnd : Int → Bool) (gap costs ways stc : Int → Int) (u lf : Int) : I3 :=
  if u < bq then chF (fun d => stc (d + 8) + costs (xSpot ll u (nL bnd gap u lf d) d)) (fun d => ways (xSpot ll u (nL bnd gap u lf d) d)) (chFr bnd low lh gap u lf) (chTo bnd high ll gap u lf - chFr bnd low lh gap u lf + 1).toNat else (0, 1, 0)
theorem mul_bd3 {a b : Int} (h0 : -8 ≤ a) (h1 : a ≤ 8) (h2 : 0 ≤ b) (h3 : b ≤ 99) : -792 ≤ a * b ∧ a * b ≤ 792 := by
  have e1 : (a + 8) * b = a * b + 8 * b := Int.add_mul _ _ _
  have e2 : (8 - a) * b = 8 * b - a * b := Int.sub_mul _ _ _
  have q1 := Int.mul_nonneg (show 0 ≤ a + 8 by omega) h2
  have q2 := Int.mul_nonneg (show 0 ≤ 8 - a by omega) h2
  omega
theorem sq_nn (a : Int) : 0 ≤ a * a := by
  rcases Int.le_total 0 a with h | h
  · exact Int.mul_nonneg h h
  · have := Int.mul_nonneg (show 0 ≤ -a by omega) (show 0 ≤ -a by omega)
    rw [Int.neg_mul_neg] at this
    exact this
theorem sq_bd {a B : Int} (h0 : -B ≤ a) (h1 : a ≤ B) : a * a ≤ B * B := by
  have q := Int.mul_nonneg (show 0 ≤ B - a by omega) (show 0 ≤ B + a by omega)
  have e : (B - a) * (B + a) = B * B - a * a := by
    rw [Int.sub_mul, Int.mul_add, Int.mul_add, Int.mul_comm B a]
    omega
  omega
theorem stP_bd {ind : Int → Int} {sh u ad d : Int} (hi : ∀ t : Int, 0 ≤ t → t < 12 → 0 ≤ ind t ∧ ind t ≤ 99) (hu : 0 ≤ u ∧ u < 12) (ha : -8 ≤ ad ∧ ad ≤ 8) (hd : -8 ≤ d ∧ d ≤ 8) : -1584 ≤ stP ind sh u ad d ∧ stP ind sh u ad d ≤ 1584 := by
  unfold stP
  split
  · split
    · omega
    · have h1 := hi (u - 1) (by omega) (by omega)
      have h2 := hi u (by omega) (by omega)
      have h3 := mul_bd3 hd.1 hd.2 h1.1 h1.2
      have h4 := mul_bd3 ha.1 ha.2 h2.1 h2.2
      omega
  · omega
theorem stC_bd {ind : Int → Int} {sh u ad d : Int} (hi : ∀ t : Int, 0 ≤ t → t < 12 → 0 ≤ ind t ∧ ind t ≤ 99) (hu : 0 ≤ u ∧ u < 12) (ha : -8 ≤ ad ∧ ad ≤ 8) (hd : -8 ≤ d ∧ d ≤ 8) : 0 ≤ stC ind sh u ad d ∧ stC ind sh u ad d ≤ 2600000000 := by
  have h1 := stP_bd (sh := sh) hi hu ha hd
  have h2 := sq_nn (stP ind sh u ad d)
  have h3 := sq_bd (B := 1584) h1.1 h1.2
  have h4 := sq_nn d
  have h5 := sq_bd (B := 8) hd.1 hd.2
  unfold stC
  omega
def xWs (ind stc low high : Int → Int) (q sh u ad : Int) : Int → Int := if u < q then fillR stc (low u + 8) (high u - low u + 1) (fun j => stC ind sh u ad (j - 8)) else stc
