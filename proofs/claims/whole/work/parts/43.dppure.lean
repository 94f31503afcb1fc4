/-! the reference's search, as a function; it is the class's -/
abbrev I2P : Type := Int × Int
def rNu (bnd : Int → Bool) (u s e : Int) : Int := if bnd (u / 4) = true then (if u % 4 = 0 then e else s + e) else 0
def rGd (low high : Int → Int) (bnd : Int → Bool) (gap : Int → Int) (t d s : Int) : Bool := decide ((low t ≤ d ∧ d ≤ high t) ∧ ¬ (bnd (t / 4) = true ∧ t % 4 = 3 ∧ s ≠ gap (t / 4)))
def cap9 (w : Int) : Int := if 9999 < w then 9999 else w
def rF1 (ok : Bool) (v w : Int) (S : I2P) : I2P := if ok = true then (if v < S.1 then (v, cap9 (0 + w)) else if v = S.1 then (v, cap9 (S.2 + w)) else S) else S
def rFo (ok : Int → Bool) (v w : Int → Int) : Nat → I2P
  | 0 => (1000000000000000, 0)
  | n + 1 => rF1 (ok (-8 + n)) (v (-8 + n)) (w (-8 + n)) (rFo ok v w n)
theorem rFo_s (ok : Int → Bool) (v w : Int → Int) (n : Nat) : rFo ok v w (n + 1) = rF1 (ok (-8 + n)) (v (-8 + n)) (w (-8 + n)) (rFo ok v w n) := rfl
def rOkk (R : I2P) (n : Int) : Bool := decide (-32 ≤ n ∧ n ≤ 32 ∧ R.1 < 1000000000000000)
def rR (ind : Int → Int) (sh : Int) (low high : Int → Int) (bnd : Int → Bool) (gap : Int → Int) : Nat → Int → Int → Int → I2P
  | 0, t, d, s => if rGd low high bnd gap t d s = true then (d * d, 1) else (1000000000000000, 0)
  | k + 1, t, d, s => if rGd low high bnd gap t d s = true then rFo (fun e => rOkk (rR ind sh low high bnd gap k (t + 1) e (rNu bnd (t + 1) s e)) (rNu bnd (t + 1) s e)) (fun e => (rR ind sh low high bnd gap k (t + 1) e (rNu bnd (t + 1) s e)).1 + d * d + 1024 * (stP ind sh (t + 1) d e * stP ind sh (t + 1) d e)) (fun e => (rR ind sh low high bnd gap k (t + 1) e (rNu bnd (t + 1) s e)).2) 17 else (1000000000000000, 0)
theorem rFo_none {ok : Int → Bool} {v w : Int → Int} : ∀ {n : Nat}, (∀ e : Int, -8 ≤ e → e < -8 + n → ok e = false) → rFo ok v w n = (1000000000000000, 0)
  | 0, _ => rfl
  | n + 1, h => by
    rw [rFo_s, rFo_none (fun e h0 h1 => h e h0 (by omega)), h (-8 + n) (by omega) (by omega)]
    rfl
theorem cap9_eq (a : Int) : cap9 a = if a < 9999 then a else 9999 := by
  unfold cap9
  (repeat' split) <;> omega
theorem rF1_f (v w : Int) (S : I2P) : rF1 false v w S = S := rfl
theorem rF1_t (v w : Int) (S : I2P) : rF1 true v w S = if v < S.1 then (v, cap9 (0 + w)) else if v = S.1 then (v, cap9 (S.2 + w)) else S := rfl
theorem rFo_chF {ok : Int → Bool} {v w c w2 : Int → Int} {A fr to : Int} (hf : -8 ≤ fr) (ht : to ≤ 8) (hne : fr ≤ to) (hin : ∀ e : Int, fr ≤ e → e ≤ to → ok e = true ∧ v e = A + c e ∧ v e < 1000000000000000 ∧ c e < 1152921504606846976 ∧ w e = w2 e ∧ w2 e ≤ 9999) (hout : ∀ e : Int, (e < fr ∨ to < e) → ok e = false) :
    rFo ok v w 17 = (A + (chF c w2 fr (to - fr + 1).toNat).1, (chF c w2 fr (to - fr + 1).toNat).2.1) := by
  have s1 : rFo ok v w (fr + 8).toNat = (1000000000000000, 0) := rFo_none (fun e h0 h1 => hout e (Or.inl (by omega)))
  have s2 : ∀ m : Nat, (m : Int) ≤ to - fr → rFo ok v w ((fr + 8).toNat + (m + 1)) = (A + (chF c w2 fr (m + 1)).1, (chF c w2 fr (m + 1)).2.1) := by
    intro m
    induction m with
    | zero =>
      intro _
      obtain ⟨h1, h2, h3, h4, h5, h6⟩ := hin fr (Int.le_refl _) hne
      rw [show (fr + 8).toNat + (0 + 1) = (fr + 8).toNat + 1 from rfl, rFo_s, s1, show -8 + (((fr + 8).toNat : Nat) : Int) = fr by omega, h1, rF1_t, if_pos h3, chF_s]
      unfold chF1 chF
      rw [show fr + ((0 : Nat) : Int) = fr by omega, if_pos h4, h2, h5, cap9_eq]
      dsimp only
      congr 1
      split <;> omega
    | succ m ih =>
      intro hm
      have ih := ih (by omega)
      obtain ⟨h1, h2, h3, h4, h5, h6⟩ := hin (fr + ((m + 1 : Nat) : Int)) (by omega) (by omega)
      rw [show (fr + 8).toNat + (m + 1 + 1) = ((fr + 8).toNat + (m + 1)) + 1 from rfl, rFo_s, ih, show -8 + (((fr + 8).toNat + (m + 1) : Nat) : Int) = fr + ((m + 1 : Nat) : Int) by omega, h1, rF1_t, chF_s c w2 fr (m + 1)]
      unfold chF1
      rw [h2, h5]
      dsimp only
      by_cases g1 : c (fr + ((m + 1 : Nat) : Int)) < (chF c w2 fr (m + 1)).1
      · rw [if_pos (by omega), if_pos g1, cap9_eq]
        dsimp only
        congr 1
        split <;> omega
      · rw [if_neg (by omega), if_neg g1]
        by_cases g2 : c (fr + ((m + 1 : Nat) : Int)) = (chF c w2 fr (m + 1)).1
        · rw [if_pos (by omega), if_pos g2, cap9_eq, g2]
        · rw [if_neg (by omega), if_neg g2]
  have s3 : ∀ j : Nat, to + 9 + j ≤ 17 → rFo ok v w ((to + 9).toNat + j) = rFo ok v w (to + 9).toNat := by
    intro j
    induction j with
    | zero => intro _; rfl
    | succ j ih =>
      intro hj
      rw [show (to + 9).toNat + (j + 1) = ((to + 9).toNat + j) + 1 from rfl, rFo_s, hout (-8 + (((to + 9).toNat + j : Nat) : Int)) (Or.inr (by omega)), rF1_f]
      exact ih (by omega)
  have e3 := s3 (8 - to).toNat (by omega)
  rw [show (to + 9).toNat + (8 - to).toNat = 17 by omega] at e3
  have e2 := s2 (to - fr).toNat (by omega)
  rw [show (fr + 8).toNat + ((to - fr).toNat + 1) = (to + 9).toNat by omega, show (to - fr).toNat + 1 = (to - fr + 1).toNat by omega] at e2
  rw [e3, e2]
/-- the last fold: the best of all, from the first quarter -/
def rT1 (b w d : Int) (S : I3) : I3 := if b < S.1 then (b, w, d) else if b = S.1 ∧ S.1 < 1000000000000000 then (S.1, cap9 (S.2.1 + w), S.2.2) else S
def rT (b w : Int → Int) : Nat → I3
  | 0 => (1000000000000000, 0, -1)
  | n + 1 => rT1 (b (-8 + n)) (w (-8 + n)) (-8 + n) (rT b w n)
theorem rT_s (b w : Int → Int) (n : Nat) : rT b w (n + 1) = rT1 (b (-8 + n)) (w (-8 + n)) (-8 + n) (rT b w n) := rfl
theorem rT_none {b w : Int → Int} : ∀ {n : Nat}, (∀ e : Int, -8 ≤ e → e < -8 + n → b e = 1000000000000000) → rT b w n = (1000000000000000, 0, -1)
  | 0, _ => rfl
  | n + 1, h => by
    rw [rT_s, rT_none (fun e h0 h1 => h e h0 (by omega)), h (-8 + n) (by omega) (by omega)]
    rfl
theorem rT_chF {b w c w2 : Int → Int} {fr to : Int} (hf : -8 ≤ fr) (ht : to ≤ 8) (hne : fr ≤ to) (hin : ∀ e : Int, fr ≤ e → e ≤ to → b e = c e ∧ c e < 1000000000000000 ∧ w e = w2 e) (hout : ∀ e : Int, (e < fr ∨ to < e) → b e = 1000000000000000) :
    rT b w 17 = chF c w2 fr (to - fr + 1).toNat := by
  have s1 : rT b w (fr + 8).toNat = (1000000000000000, 0, -1) := rT_none (fun e h0 h1 => hout e (Or.inl (by omega)))
  have s2 : ∀ m : Nat, (m : Int) ≤ to - fr → rT b w ((fr + 8).toNat + (m + 1)) = chF c w2 fr (m + 1) ∧ (chF c w2 fr (m + 1)).1 < 1000000000000000 := by
    intro m
    induction m with
    | zero =>
      intro _
      obtain ⟨h1, h2, h3⟩ := hin fr (Int.le_refl _) hne
      rw [show (fr + 8).toNat + (0 + 1) = (fr + 8).toNat + 1 from rfl, rT_s, s1, show -8 + (((fr + 8).toNat : Nat) : Int) = fr by omega, h1, h3, chF_s]
      unfold rT1 chF1 chF
      rw [show fr + ((0 : Nat) : Int) = fr by omega, if_pos h2, if_pos (by dsimp only; omega)]
      exact ⟨rfl, h2⟩
    | succ m ih =>
      intro hm
      have ih := ih (by omega)
      obtain ⟨h1, h2, h3⟩ := hin (fr + ((m + 1 : Nat) : Int)) (by omega) (by omega)
      rw [show (fr + 8).toNat + (m + 1 + 1) = ((fr + 8).toNat + (m + 1)) + 1 from rfl, rT_s, ih.1, show -8 + (((fr + 8).toNat + (m + 1) : Nat) : Int) = fr + ((m + 1 : Nat) : Int) by omega, h1, h3, chF_s c w2 fr (m + 1)]
      unfold rT1 chF1
      rw [cap9_eq]
      by_cases g1 : c (fr + ((m + 1 : Nat) : Int)) < (chF c w2 fr (m + 1)).1
      · rw [if_pos g1, if_pos g1]
        exact ⟨rfl, h2⟩
      · rw [if_neg g1, if_neg g1]
        by_cases g2 : c (fr + ((m + 1 : Nat) : Int)) = (chF c w2 fr (m + 1)).1
        · rw [if_pos ⟨g2, ih.2⟩, if_pos g2]
          exact ⟨rfl, ih.2⟩
        · rw [if_neg (fun h => g2 h.1), if_neg g2]
          exact ⟨rfl, ih.2⟩
  have s3 : ∀ j : Nat, to + 9 + j ≤ 17 → rT b w ((to + 9).toNat + j) = rT b w (to + 9).toNat := by
    have e2 := s2 (to - fr).toNat (by omega)
    rw [show (fr + 8).toNat + ((to - fr).toNat + 1) = (to + 9).toNat by omega] at e2
    intro j
    induction j with
    | zero => intro _; rfl
    | succ j ih =>
      intro hj
      rw [show (to + 9).toNat + (j + 1) = ((to + 9).toNat + j) + 1 from rfl, rT_s, hout (-8 + (((to + 9).toNat + j : Nat) : Int)) (Or.inr (by omega)), ih (by omega)]
      unfold rT1
      rw [e2.1, if_neg (by omega), if_neg (by omega)]
  have e3 := s3 (8 - to).toNat (by omega)
  rw [show (to + 9).toNat + (8 - to).toNat = 17 by omega] at e3
  have e2 := s2 (to - fr).toNat (by omega)
  rw [show (fr + 8).toNat + ((to - fr).toNat + 1) = (to + 9).toNat by omega, show (to - fr).toNat + 1 = (to - fr + 1).toNat by omega] at e2
  rw [e3, e2.1]
/-- the best step: it is the least of those that cost so little -/
theorem chF_first {c w : Int → Int} {fr : Int} : ∀ n : Nat, (∀ e : Int, fr ≤ e → e < fr + ((n + 1 : Nat) : Int) → c e < 1152921504606846976) → c (chF c w fr (n + 1)).2.2 = (chF c w fr (n + 1)).1 ∧ ∀ e : Int, fr ≤ e → e < (chF c w fr (n + 1)).2.2 → (chF c w fr (n + 1)).1 < c e
  | 0, h => by
    have h0 := h fr (Int.le_refl _) (by omega)
    rw [chF_s]
    unfold chF1 chF
    rw [show fr + ((0 : Nat) : Int) = fr by omega, if_pos h0]
    exact ⟨rfl, fun e h1 h2 => by dsimp only at h2; omega⟩
  | n + 1, h => by
    obtain ⟨i1, i2⟩ := chF_first (c := c) (w := w) (fr := fr) n (fun e h0 h1 => h e h0 (by omega))
    have hin := chF_in (c := c) (w := w) (fr := fr) (h fr (Int.le_refl _) (by omega)) n
    have hle : ∀ e : Int, fr ≤ e → e < fr + ((n + 1 : Nat) : Int) → (chF c w fr (n + 1)).1 ≤ c e := fun e h0 h1 => chF_le e h0 h1
    rw [chF_s c w fr (n + 1)]
    unfold chF1
    split
    · rename_i g
      refine ⟨rfl, fun e h0 h1 => ?_⟩
      dsimp only at h1 ⊢
      have := hle e h0 (by omega)
      omega
    · split
      · exact ⟨i1, i2⟩
      · exact ⟨i1, i2⟩
section RP
variable {ind : Int → Int} {sh q : Int} {low high ll lh : Int → Int} {bnd : Int → Bool} {gap : Int → Int}
def rFe (low high : Int → Int) (bnd : Int → Bool) (gap : Int → Int) (t d s : Int) : Prop := (low t ≤ d ∧ d ≤ high t) ∧ (bnd (t / 4) = true → rS low (t / 4) (t % 4 + 1).toNat ≤ gap (t / 4) - s ∧ gap (t / 4) - s ≤ rS high (t / 4) (t % 4 + 1).toNat)
theorem rS4 (f : Int → Int) (v : Int) : rS f v 4 = 0 := by unfold rS; omega
theorem rGd_f {t d s : Int} (h : ¬ ((low t ≤ d ∧ d ≤ high t) ∧ ¬ (bnd (t / 4) = true ∧ t % 4 = 3 ∧ s ≠ gap (t / 4)))) : ¬ rGd low high bnd gap t d s = true := fun h2 => h (of_decide_eq_true h2)
theorem rR_none (hb : ∀ v : Int, 0 ≤ v → v < 3 → bnd v = true → 4 * v + 4 ≤ q) (hq : q ≤ 12) : ∀ (k : Nat) (t d s : Int), 0 ≤ t → t + k = q - 1 → ¬ rFe low high bnd gap t d s → rR ind sh low high bnd gap k t d s = (1000000000000000, 0)
  | 0, t, d, s, h0, hk, hf => by
    unfold rR
    refine if_neg (rGd_f (fun h => hf ⟨h.1, fun h1 => ?_⟩))
    have h2 := hb (t / 4) (by omega) (by omega) h1
    have h3 : t % 4 = 3 := by omega
    rw [show (t % 4 + 1).toNat = 4 by omega, rS4, rS4]
    have h4 : s = gap (t / 4) := Classical.byContradiction (fun h4 => h.2 ⟨h1, h3, h4⟩)
    omega
  | k + 1, t, d, s, h0, hk, hf => by
    unfold rR
    by_cases hg : rGd low high bnd gap t d s = true
    · rw [if_pos hg]
      have hg2 := of_decide_eq_true hg
      have h1 : bnd (t / 4) = true := Classical.byContradiction (fun h1 => hf ⟨hg2.1, fun h => absurd h h1⟩)
      have hv : ¬ (rS low (t / 4) (t % 4 + 1).toNat ≤ gap (t / 4) - s ∧ gap (t / 4) - s ≤ rS high (t / 4) (t % 4 + 1).toNat) := fun h => hf ⟨hg2.1, fun _ => h⟩
      have h3 : t % 4 ≠ 3 := fun h3 => by
        rw [show (t % 4 + 1).toNat = 4 by omega, rS4, rS4] at hv
        have h4 : s = gap (t / 4) := Classical.byContradiction (fun h4 => hg2.2 ⟨h1, h3, h4⟩)
        omega
      have hy : (t + 1) / 4 = t / 4 := by omega
      refine rFo_none (fun e e0 e1 => ?_)
      have hn : rNu bnd (t + 1) s e = s + e := by
        unfold rNu
        rw [hy, if_pos h1, if_neg (by omega)]
      try dsimp only
      rw [hn, rR_none hb hq k (t + 1) e (s + e) (by omega) (by omega) (fun h => ?_)]
      · exact decide_eq_false (fun h => absurd h.2.2 (by decide))
      · obtain ⟨g1, g2⟩ := h
        rw [hy] at g2
        have g3 := g2 h1
        have r1 := rS_s (f := low) (v := t / 4) (n := (t % 4 + 1).toNat)
        have r2 := rS_s (f := high) (v := t / 4) (n := (t % 4 + 1).toNat)
        rw [show 4 * (t / 4) + (((t % 4 + 1).toNat : Nat) : Int) = t + 1 by omega] at r1 r2
        rw [show ((t + 1) % 4 + 1).toNat = (t % 4 + 1).toNat + 1 by omega, r1, r2] at g3
        exact hv ⟨by omega, by omega⟩
    · rw [if_neg hg]
def Lf (bnd : Int → Bool) (gap : Int → Int) (t s : Int) : Int := if bnd (t / 4) = true then gap (t / 4) - s else 0
def rOk (low high ll lh : Int → Int) (bnd : Int → Bool) (gap : Int → Int) (t d s : Int) : Prop := (low t ≤ d ∧ d ≤ high t) ∧ (ll t ≤ Lf bnd gap t s ∧ Lf bnd gap t s ≤ lh t) ∧ (-(8 * (t % 4 + 1)) ≤ s ∧ s ≤ 8 * (t % 4 + 1)) ∧ (bnd (t / 4) = true ∨ s = 0)
/-- what is left lies between what was left and what the rest can take -/
def HLs (q : Int) (low high ll lh : Int → Int) (bnd : Int → Bool) (gap : Int → Int) : Prop := ∀ t : Int, 0 ≤ t → t < q → bnd (t / 4) = true → (ll t = if rS low (t / 4) (t % 4 + 1).toNat < lPrev gap ll t - high t then lPrev gap ll t - high t else rS low (t / 4) (t % 4 + 1).toNat) ∧ lh t = if lPrev gap lh t - low t < rS high (t / 4) (t % 4 + 1).toNat then lPrev gap lh t - low t else rS high (t / 4) (t % 4 + 1).toNat
def rAt (ll lh : Int → Int) (bnd : Int → Bool) (gap : Int → Int) (u s lf : Int) : Prop := AO ll lh u lf ∧ (u % 4 ≠ 0 → bnd (u / 4) = true → lf = gap (u / 4) - s ∧ -(8 * (u % 4)) ≤ s ∧ s ≤ 8 * (u % 4))
theorem rSt {pri tot : Int → Int} {fr li : Int} (H_I : FI ind tot pri q fr li sh) (H : BG q low high ll lh bnd gap) (HL : HLs q low high ll lh bnd gap) (hb : ∀ v : Int, 0 ≤ v → v < 3 → bnd v = true → 4 * v + 4 ≤ q) {k : Nat} {u s lf : Int} (h0 : 0 ≤ u) (hk : u + k = q - 1) (ha : rAt ll lh bnd gap u s lf) (IH : ∀ e s2 : Int, rOk low high ll lh bnd gap u e s2 → rR ind sh low high bnd gap k u e s2 = (e * e + (chs ind sh low high ll lh bnd gap k (u + 1) e (Lf bnd gap u s2)).1, (chs ind sh low high ll lh bnd gap k (u + 1) e (Lf bnd gap u s2)).2.1)) :
    (∀ e : Int, chFr bnd low lh gap u lf ≤ e → e ≤ chTo bnd high ll gap u lf → rOk low high ll lh bnd gap u e (rNu bnd u s e) ∧ nL bnd gap u lf e = Lf bnd gap u (rNu bnd u s e) ∧ (-32 ≤ rNu bnd u s e ∧ rNu bnd u s e ≤ 32) ∧ (-8 ≤ e ∧ e ≤ 8) ∧ rR ind sh low high bnd gap k u e (rNu bnd u s e) = (e * e + (chs ind sh low high ll lh bnd gap k (u + 1) e (nL bnd gap u lf e)).1, (chs ind sh low high ll lh bnd gap k (u + 1) e (nL bnd gap u lf e)).2.1) ∧ (chs ind sh low high ll lh bnd gap k (u + 1) e (nL bnd gap u lf e)).1 ≤ 31200000000) ∧ (∀ e : Int, (e < chFr bnd low lh gap u lf ∨ chTo bnd high ll gap u lf < e) → rR ind sh low high bnd gap k u e (rNu bnd u s e) = (1000000000000000, 0)) := by
  have hq := H_I.q
  obtain ⟨hao, hs⟩ := ha
  obtain ⟨g1, -⟩ := H u h0 (by omega)
  have hnL : ∀ e : Int, nL bnd gap u lf e = Lf bnd gap u (rNu bnd u s e) := by
    intro e
    unfold nL Lf rNu lAh
    by_cases hbu : bnd (u / 4) = true
    · rw [if_pos hbu, if_pos hbu, if_pos hbu]
      by_cases hu : u % 4 = 0
      · rw [if_pos hu, if_pos hu]
      · rw [if_neg hu, if_neg hu, (hs hu hbu).1]
        omega
    · rw [if_neg hbu, if_neg hbu]
  constructor
  · intro e e0 e1
    obtain ⟨n1, n2⟩ := next_VL H h0 (by omega) hao e0 e1
    have n3 := VL_in H h0 (by omega) n2
    have sml := chs_small H_I H k (u + 1) e (nL bnd gap u lf e) (by omega) (by omega) ⟨by omega, by omega⟩ (next_AO H h0 (by omega) hao e0 e1)
    have hr : (-(8 * (u % 4 + 1)) ≤ rNu bnd u s e ∧ rNu bnd u s e ≤ 8 * (u % 4 + 1)) ∧ (bnd (u / 4) = true ∨ rNu bnd u s e = 0) := by
      unfold rNu
      by_cases hbu : bnd (u / 4) = true
      · rw [if_pos hbu]
        refine ⟨?_, Or.inl hbu⟩
        by_cases hu : u % 4 = 0
        · rw [if_pos hu]; omega
        · rw [if_neg hu]
          have := hs hu hbu
          omega
      · rw [if_neg hbu]
        exact ⟨by omega, Or.inr rfl⟩
    have hok : rOk low high ll lh bnd gap u e (rNu bnd u s e) := ⟨n1, by rw [← hnL]; exact n3, hr.1, hr.2⟩
    refine ⟨hok, hnL e, ⟨by omega, by omega⟩, ⟨by omega, by omega⟩, ?_, by omega⟩
    rw [IH e _ hok, ← hnL]
  · intro e he
    refine rR_none hb hq.2 k u e _ h0 hk (fun h => ?_)
    obtain ⟨f1, f2⟩ := h
    have hp := AO_pr (gap := gap) h0 hao
    unfold chFr chTo at he
    by_cases hbu : bnd (u / 4) = true
    · rw [if_pos hbu, if_pos hbu] at he
      have f3 := f2 hbu
      have f4 := hnL e
      unfold nL Lf at f4
      rw [if_pos hbu, if_pos hbu] at f4
      rw [← f4] at f3
      obtain ⟨l1, l2⟩ := HL u h0 (by omega) hbu
      rw [l1, l2] at he
      rcases he with he | he
      · split at he
        · split at he <;> omega
        · omega
      · split at he
        · split at he <;> omega
        · omega
    · rw [if_neg hbu, if_neg hbu] at he
      omega
theorem rGd_ok (HL : HLs q low high ll lh bnd gap) {t d s : Int} (h0 : 0 ≤ t) (h1 : t < q) (h : rOk low high ll lh bnd gap t d s) : rGd low high bnd gap t d s = true := by
  obtain ⟨h2, h3, h4, h5⟩ := h
  refine decide_eq_true ⟨h2, fun hc => ?_⟩
  obtain ⟨l1, l2⟩ := HL t h0 h1 hc.1
  unfold Lf at h3
  rw [if_pos hc.1, l1, l2, show (t % 4 + 1).toNat = 4 by omega, rS4, rS4] at h3
  have := hc.2.2
  split at h3 <;> split at h3 <;> omega
theorem rAt_next {t d s : Int} (h0 : 0 ≤ t) (h : rOk low high ll lh bnd gap t d s) : rAt ll lh bnd gap (t + 1) s (Lf bnd gap t s) := by
  obtain ⟨h2, h3, h4, h5⟩ := h
  refine ⟨Or.inr (by rw [show t + 1 - 1 = t by omega]; exact h3), fun hu hb => ?_⟩
  rw [show (t + 1) / 4 = t / 4 by omega] at hb ⊢
  unfold Lf
  rw [if_pos hb]
  exact ⟨rfl, by omega, by omega⟩
theorem rR_chs {pri tot : Int → Int} {fr li : Int} (H_I : FI ind tot pri q fr li sh) (H : BG q low high ll lh bnd gap) (HL : HLs q low high ll lh bnd gap) (hb : ∀ v : Int, 0 ≤ v → v < 3 → bnd v = true → 4 * v + 4 ≤ q) : ∀ (k : Nat) (t d s : Int), 0 ≤ t → t + k = q - 1 → rOk low high ll lh bnd gap t d s → rR ind sh low high bnd gap k t d s = (d * d + (chs ind sh low high ll lh bnd gap k (t + 1) d (Lf bnd gap t s)).1, (chs ind sh low high ll lh bnd gap k (t + 1) d (Lf bnd gap t s)).2.1)
  | 0, t, d, s, h0, hk, h => by
    unfold rR chs
    rw [if_pos (rGd_ok HL h0 (by omega) h)]
    dsimp only
    rw [Int.add_zero]
  | k + 1, t, d, s, h0, hk, h => by
    have hq := H_I.q
    obtain ⟨s1, s2⟩ := rSt H_I H HL hb (k := k) (u := t + 1) (by omega) (by omega) (rAt_next h0 h) (fun e s2 h2 => rR_chs H_I H HL hb k (t + 1) e s2 (by omega) (by omega) h2)
    have hao := (rAt_next h0 h).1
    have hne := ch_ne H (u := t + 1) (by omega) (by omega) hao
    obtain ⟨g1, -⟩ := H (t + 1) (by omega) (by omega)
    have nf := (next_VL H (u := t + 1) (by omega) (by omega) hao (Int.le_refl _) hne).1
    have nt := (next_VL H (u := t + 1) (by omega) (by omega) hao hne (Int.le_refl _)).1
    obtain ⟨g0, -⟩ := H t h0 (by omega)
    have hd := h.1
    have e1 : rR ind sh low high bnd gap (k + 1) t d s = rFo (fun e => rOkk (rR ind sh low high bnd gap k (t + 1) e (rNu bnd (t + 1) s e)) (rNu bnd (t + 1) s e)) (fun e => (rR ind sh low high bnd gap k (t + 1) e (rNu bnd (t + 1) s e)).1 + d * d + 1024 * (stP ind sh (t + 1) d e * stP ind sh (t + 1) d e)) (fun e => (rR ind sh low high bnd gap k (t + 1) e (rNu bnd (t + 1) s e)).2) 17 := by
      show (if rGd low high bnd gap t d s = true then _ else _) = _
      rw [if_pos (rGd_ok HL h0 (by omega) h)]
    rw [e1, chs_s]
    refine rFo_chF (by omega) (by omega) hne (fun e e0 e2 => ?_) (fun e he => ?_)
    · obtain ⟨p1, p2, p3, p4, p5, p6⟩ := s1 e e0 e2
      have b := chs_bd ind sh low high ll lh bnd gap k (t + 1 + 1) e (nL bnd gap (t + 1) (Lf bnd gap t s) e)
      have sc := stC_bd (sh := sh) (u := t + 1) (ad := d) (d := e) (fun t a b => ⟨(H_I.ind a b).1, (H_I.ind a b).2.1⟩) ⟨by omega, by omega⟩ ⟨by omega, by omega⟩ p4
      have sq1 := sq_bd (B := 8) (a := e) (by omega) (by omega)
      have sq2 := sq_bd (B := 8) (a := d) (by omega) (by omega)
      have hv : (rR ind sh low high bnd gap k (t + 1) e (rNu bnd (t + 1) s e)).1 + d * d + 1024 * (stP ind sh (t + 1) d e * stP ind sh (t + 1) d e) = d * d + (stC ind sh (t + 1) d e + (chs ind sh low high ll lh bnd gap k (t + 1 + 1) e (nL bnd gap (t + 1) (Lf bnd gap t s) e)).1) := by
        rw [p5]
        unfold stC
        dsimp only
        omega
      try dsimp only
      rw [hv]
      refine ⟨decide_eq_true ⟨p3.1, p3.2, ?_⟩, rfl, by omega, by omega, ?_, b.2.2⟩
      · rw [p5]; dsimp only; omega
      · rw [p5]
    · try dsimp only
      rw [s2 e he]
      exact decide_eq_false (fun h => absurd h.2.2 (by decide))
/-- the best next step, and none before it -/
theorem rNb {pri tot : Int → Int} {fr li : Int} (H_I : FI ind tot pri q fr li sh) (H : BG q low high ll lh bnd gap) (HL : HLs q low high ll lh bnd gap) (hb : ∀ v : Int, 0 ≤ v → v < 3 → bnd v = true → 4 * v + 4 ≤ q) {k : Nat} {t d s E : Int} (h0 : 0 ≤ t) (hk : t + k + 1 = q - 1) (h : rOk low high ll lh bnd gap t d s) (hE : E = (chs ind sh low high ll lh bnd gap (k + 1) (t + 1) d (Lf bnd gap t s)).2.2) :
    (-8 ≤ E ∧ E ≤ 8) ∧ rOk low high ll lh bnd gap (t + 1) E (rNu bnd (t + 1) s E) ∧ nL bnd gap (t + 1) (Lf bnd gap t s) E = Lf bnd gap (t + 1) (rNu bnd (t + 1) s E) ∧ (-32 ≤ rNu bnd (t + 1) s E ∧ rNu bnd (t + 1) s E ≤ 32) ∧ ((rR ind sh low high bnd gap k (t + 1) E (rNu bnd (t + 1) s E)).1 < 1000000000000000 ∧ (rR ind sh low high bnd gap k (t + 1) E (rNu bnd (t + 1) s E)).1 + d * d + 1024 * (stP ind sh (t + 1) d E * stP ind sh (t + 1) d E) = (rR ind sh low high bnd gap (k + 1) t d s).1) ∧ ∀ e : Int, -8 ≤ e → e < E → (rR ind sh low high bnd gap k (t + 1) e (rNu bnd (t + 1) s e)).1 < 1000000000000000 → (rR ind sh low high bnd gap k (t + 1) e (rNu bnd (t + 1) s e)).1 + d * d + 1024 * (stP ind sh (t + 1) d e * stP ind sh (t + 1) d e) ≠ (rR ind sh low high bnd gap (k + 1) t d s).1 := by
  have hq := H_I.q
  obtain ⟨s1, s2⟩ := rSt H_I H HL hb (k := k) (u := t + 1) (by omega) (by omega) (rAt_next h0 h) (fun e s2 h2 => rR_chs H_I H HL hb k (t + 1) e s2 (by omega) (by omega) h2)
  have hR := rR_chs H_I H HL hb (k + 1) t d s h0 (by omega) h
  have hao := (rAt_next h0 h).1
  have hne := ch_ne H (u := t + 1) (by omega) (by omega) hao
  obtain ⟨g0, -⟩ := H t h0 (by omega)
  have hd := h.1
  have hsc : ∀ e : Int, -8 ≤ e → e ≤ 8 → 0 ≤ stC ind sh (t + 1) d e ∧ stC ind sh (t + 1) d e ≤ 2600000000 := fun e e0 e1 => stC_bd (sh := sh) (u := t + 1) (ad := d) (d := e) (fun t a b => ⟨(H_I.ind a b).1, (H_I.ind a b).2.1⟩) ⟨by omega, by omega⟩ ⟨by omega, by omega⟩ ⟨e0, e1⟩
  have hvv : ∀ e : Int, chFr bnd low lh gap (t + 1) (Lf bnd gap t s) ≤ e → e ≤ chTo bnd high ll gap (t + 1) (Lf bnd gap t s) → (rR ind sh low high bnd gap k (t + 1) e (rNu bnd (t + 1) s e)).1 + d * d + 1024 * (stP ind sh (t + 1) d e * stP ind sh (t + 1) d e) = d * d + (stC ind sh (t + 1) d e + (chs ind sh low high ll lh bnd gap k (t + 1 + 1) e (nL bnd gap (t + 1) (Lf bnd gap t s) e)).1) := by
    intro e e0 e1
    obtain ⟨p1, p2, p3, p4, p5, p6⟩ := s1 e e0 e1
    rw [p5]
    unfold stC
    dsimp only
    omega
  rw [chs_s] at hE hR
  have hn : (chTo bnd high ll gap (t + 1) (Lf bnd gap t s) - chFr bnd low lh gap (t + 1) (Lf bnd gap t s) + 1).toNat = (chTo bnd high ll gap (t + 1) (Lf bnd gap t s) - chFr bnd low lh gap (t + 1) (Lf bnd gap t s)).toNat + 1 := by omega
  rw [hn] at hE hR
  have hcs : ∀ e : Int, chFr bnd low lh gap (t + 1) (Lf bnd gap t s) ≤ e → e ≤ chTo bnd high ll gap (t + 1) (Lf bnd gap t s) → stC ind sh (t + 1) d e + (chs ind sh low high ll lh bnd gap k (t + 1 + 1) e (nL bnd gap (t + 1) (Lf bnd gap t s) e)).1 < 1152921504606846976 := by
    intro e e0 e1
    obtain ⟨p1, p2, p3, p4, p5, p6⟩ := s1 e e0 e1
    have := hsc e p4.1 p4.2
    omega
  obtain ⟨f1, f2⟩ := chF_first (c := fun e => stC ind sh (t + 1) d e + (chs ind sh low high ll lh bnd gap k (t + 1 + 1) e (nL bnd gap (t + 1) (Lf bnd gap t s) e)).1) (w := fun e => (chs ind sh low high ll lh bnd gap k (t + 1 + 1) e (nL bnd gap (t + 1) (Lf bnd gap t s) e)).2.1) (fr := chFr bnd low lh gap (t + 1) (Lf bnd gap t s)) (chTo bnd high ll gap (t + 1) (Lf bnd gap t s) - chFr bnd low lh gap (t + 1) (Lf bnd gap t s)).toNat (fun e e0 e1 => hcs e e0 (by omega))
  have f3 := chF_in (c := fun e => stC ind sh (t + 1) d e + (chs ind sh low high ll lh bnd gap k (t + 1 + 1) e (nL bnd gap (t + 1) (Lf bnd gap t s) e)).1) (w := fun e => (chs ind sh low high ll lh bnd gap k (t + 1 + 1) e (nL bnd gap (t + 1) (Lf bnd gap t s) e)).2.1) (fr := chFr bnd low lh gap (t + 1) (Lf bnd gap t s)) (hcs _ (Int.le_refl _) hne) (chTo bnd high ll gap (t + 1) (Lf bnd gap t s) - chFr bnd low lh gap (t + 1) (Lf bnd gap t s)).toNat
  rw [← hE] at f1 f2 f3
  try dsimp only at f1 f2
  have hE0 : chFr bnd low lh gap (t + 1) (Lf bnd gap t s) ≤ E := by omega
  have hE1 : E ≤ chTo bnd high ll gap (t + 1) (Lf bnd gap t s) := by omega
  obtain ⟨p1, p2, p3, p4, p5, p6⟩ := s1 E hE0 hE1
  have hEE := hvv E hE0 hE1
  have sq1 := sq_bd (B := 8) (a := E) (by omega) (by omega)
  refine ⟨p4, p1, p2, p3, ⟨by rw [p5]; dsimp only; omega, by rw [hEE, hR, f1]⟩, fun e e0 e1 e2 => ?_⟩
  by_cases hc : chFr bnd low lh gap (t + 1) (Lf bnd gap t s) ≤ e
  · rw [hvv e hc (by omega), hR]
    dsimp only
    have := f2 e hc e1
    omega
  · rw [s2 e (Or.inl (by omega))] at e2
    exact absurd e2 (by decide)
end RP
