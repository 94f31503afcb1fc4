/-! how far each quarter may go, what may be left of a year's gap -/
def rmQ (fr lim t : Int) : Int := if bAnd (bShr fr t) 1 = 1 then 0 else lim
def loQ (ind pri : Int → Int) (fr lim t : Int) : Int := if pri t ≠ -1 ∧ rmQ fr lim t ≠ -1 then (if -8 < pri t - 8 - ind t - rmQ fr lim t then pri t - 8 - ind t - rmQ fr lim t else -8) else -8
def hiQ (ind pri : Int → Int) (fr lim t : Int) : Int := if pri t ≠ -1 ∧ rmQ fr lim t ≠ -1 then (if pri t - 8 - ind t + rmQ fr lim t < 8 then pri t - 8 - ind t + rmQ fr lim t else 8) else 8
def rS (f : Int → Int) (v : Int) (n : Nat) : Int := sumI f (4 * v) 4 - sumI f (4 * v) n
def aL (low high : Int → Int) (b : Bool) (g v : Int) : Nat → Int
  | 0 => g
  | n + 1 => if b = true then (if rS low v (n + 1) < aL low high b g v n - high (4 * v + n) then aL low high b g v n - high (4 * v + n) else rS low v (n + 1)) else 0
def aH (low high : Int → Int) (b : Bool) (g v : Int) : Nat → Int
  | 0 => g
  | n + 1 => if b = true then (if aH low high b g v n - low (4 * v + n) < rS high v (n + 1) then aH low high b g v n - low (4 * v + n) else rS high v (n + 1)) else 0
def xLy (low high : Int → Int) (b : Bool) (g v : Int) : Bool := !b || (decide (sumI low (4 * v) 4 ≤ g) && decide (g ≤ sumI high (4 * v) 4))
def fillR {α : Type} (f : Int → α) (a n : Int) (g : Int → α) : Int → α := fun t => if a ≤ t ∧ t < a + n then g t else f t
theorem fillR_0 {α : Type} (f : Int → α) (a : Int) (g : Int → α) : fillR f a 0 g = f := by
  funext j
  unfold fillR
  rw [if_neg (by omega)]
theorem fillR_up {α : Type} (f : Int → α) (a n : Int) (g : Int → α) (v : α) (h : 0 ≤ n) (hv : v = g (a + n)) : up (fillR f a n g) (a + n) v = fillR f a (n + 1) g := by
  funext j
  unfold up fillR
  by_cases h1 : j = a + n
  · rw [if_pos h1, if_pos (by omega), hv, h1]
  · rw [if_neg h1]
    by_cases h2 : a ≤ j ∧ j < a + n
    · rw [if_pos h2, if_pos (by omega)]
    · rw [if_neg h2, if_neg (by omega)]
theorem fillR_in {α : Type} {f : Int → α} {a n : Int} {g : Int → α} {t : Int} (h0 : a ≤ t) (h1 : t < a + n) : fillR f a n g t = g t := by unfold fillR; rw [if_pos ⟨h0, h1⟩]
theorem fillR_out {α : Type} {f : Int → α} {a n : Int} {g : Int → α} {t : Int} (h0 : t < a ∨ a + n ≤ t) : fillR f a n g t = f t := by unfold fillR; rw [if_neg (by omega)]
theorem up_up {α : Type} (f : Int → α) (k : Int) (v w : α) : up (up f k v) k w = up f k w := by
  funext j
  unfold up
  by_cases h : j = k
  · rw [if_pos h, if_pos h]
  · rw [if_neg h, if_neg h, if_neg h]
def allN (P : Int → Bool) : Nat → Bool
  | 0 => true
  | n + 1 => allN P n && P n
theorem allN_s (P : Int → Bool) (n : Nat) : allN P (n + 1) = (allN P n && P n) := rfl
theorem allN_iff (P : Int → Bool) : ∀ n : Nat, allN P n = true ↔ ∀ k : Int, 0 ≤ k → k < n → P k = true
  | 0 => ⟨fun _ k h0 h1 => by omega, fun _ => rfl⟩
  | n + 1 => by
    rw [allN_s, Bool.and_eq_true, allN_iff P n]
    constructor
    · intro ⟨h1, h2⟩ k h3 h4
      by_cases h : k = n
      · rw [h]; exact h2
      · exact h1 k h3 (by omega)
    · intro h
      exact ⟨fun k h3 h4 => h k h3 (by omega), h n (by omega) (by omega)⟩
def xB (tot : Int → Int) (un v : Int) : Bool := decide (v ≠ un ∧ tot v ≠ -1)
def xGp (ind tot : Int → Int) (q un v : Int) : Int := if xB tot un v = true then xGap ind tot q v else 0
def xQok (ind pri : Int → Int) (fr lim t : Int) : Bool := decide (loQ ind pri fr lim t ≤ hiQ ind pri fr lim t)
def xY (ind tot pri : Int → Int) (q fr lim un v : Int) : Bool := xLy (loQ ind pri fr lim) (hiQ ind pri fr lim) (xB tot un v) (xGp ind tot q un v) v
def xLL (ind tot pri : Int → Int) (q fr lim un t : Int) : Int := aL (loQ ind pri fr lim) (hiQ ind pri fr lim) (xB tot un (t / 4)) (xGp ind tot q un (t / 4)) (t / 4) (t % 4 + 1).toNat
def xLH (ind tot pri : Int → Int) (q fr lim un t : Int) : Int := aH (loQ ind pri fr lim) (hiQ ind pri fr lim) (xB tot un (t / 4)) (xGp ind tot q un (t / 4)) (t / 4) (t % 4 + 1).toNat
/-- whether some row meets -/
def xMt (ind tot pri : Int → Int) (q fr lim un : Int) : Bool := allN (xQok ind pri fr lim) q.toNat && allN (xY ind tot pri q fr lim un) 3
theorem loQ_bd {ind tot pri : Int → Int} {q fr li sh lim t : Int} (H_I : FI ind tot pri q fr li sh) (hl : -1 ≤ lim ∧ lim ≤ 24) (h0 : 0 ≤ t) (h1 : t < 12) : (-8 ≤ loQ ind pri fr lim t ∧ loQ ind pri fr lim t ≤ 200) ∧ -200 ≤ hiQ ind pri fr lim t ∧ hiQ ind pri fr lim t ≤ 8 := by
  have hp := H_I.pri h0 h1
  have hi := H_I.ind h0 h1
  unfold loQ hiQ rmQ
  (repeat' split) <;> omega
theorem rS_bd {f : Int → Int} {v : Int} (h : ∀ k : Int, 0 ≤ k → k < 4 → -200 ≤ f (4 * v + k) ∧ f (4 * v + k) ≤ 200) {n : Nat} (hn : n ≤ 4) : -2000 ≤ rS f v n ∧ rS f v n ≤ 2000 := by
  have h1 := sumI_bd (f := f) (a := 4 * v) (lo := -200) (hi := 200) (n := 4) (fun k k0 k1 => h k k0 (by omega))
  have h2 := sumI_bd (f := f) (a := 4 * v) (lo := -200) (hi := 200) (n := n) (fun k k0 k1 => h k k0 (by omega))
  unfold rS
  omega
theorem aL_bd {low high : Int → Int} {b : Bool} {g v : Int} (h : ∀ k : Int, 0 ≤ k → k < 4 → -200 ≤ low (4 * v + k) ∧ low (4 * v + k) ≤ 200) (h2 : ∀ k : Int, 0 ≤ k → k < 4 → -200 ≤ high (4 * v + k) ∧ high (4 * v + k) ≤ 200) (hg : -2000 ≤ g ∧ g ≤ 2000) : ∀ n : Nat, n ≤ 4 → -10000 - 200 * (n : Int) ≤ aL low high b g v n ∧ aL low high b g v n ≤ 10000 + 200 * (n : Int)
  | 0, _ => by unfold aL; omega
  | n + 1, hn => by
    have ih := aL_bd h h2 hg (b := b) n (by omega)
    have r := rS_bd h (n := n + 1) hn
    have e := h2 n (by omega) (by omega)
    unfold aL
    (repeat' split) <;> omega
theorem aH_bd {low high : Int → Int} {b : Bool} {g v : Int} (h : ∀ k : Int, 0 ≤ k → k < 4 → -200 ≤ low (4 * v + k) ∧ low (4 * v + k) ≤ 200) (h2 : ∀ k : Int, 0 ≤ k → k < 4 → -200 ≤ high (4 * v + k) ∧ high (4 * v + k) ≤ 200) (hg : -2000 ≤ g ∧ g ≤ 2000) : ∀ n : Nat, n ≤ 4 → -10000 - 200 * (n : Int) ≤ aH low high b g v n ∧ aH low high b g v n ≤ 10000 + 200 * (n : Int)
  | 0, _ => by unfold aH; omega
  | n + 1, hn => by
    have ih := aH_bd h h2 hg (b := b) n (by omega)
    have r := rS_bd h2 (n := n + 1) hn
    have e := h n (by omega) (by omega)
    unfold aH
    (repeat' split) <;> omega
theorem sumI_cong4 {f g : Int → Int} {v : Int} (h : ∀ k : Int, 0 ≤ k → k < 4 → f (4 * v + k) = g (4 * v + k)) (n : Nat) (hn : n ≤ 4) : sumI f (4 * v) n = sumI g (4 * v) n := sumI_cong (fun k h0 h1 => h k h0 (by omega))
theorem rS_cong {f g : Int → Int} {v : Int} (h : ∀ k : Int, 0 ≤ k → k < 4 → f (4 * v + k) = g (4 * v + k)) (n : Nat) (hn : n ≤ 4) : rS f v n = rS g v n := by
  unfold rS
  rw [sumI_cong4 h 4 (Nat.le_refl _), sumI_cong4 h n hn]
theorem aL_cong {low high low2 high2 : Int → Int} {b : Bool} {g v : Int} (h : b = true → ∀ k : Int, 0 ≤ k → k < 4 → low (4 * v + k) = low2 (4 * v + k) ∧ high (4 * v + k) = high2 (4 * v + k)) : ∀ n : Nat, n ≤ 4 → aL low high b g v n = aL low2 high2 b g v n ∧ aH low high b g v n = aH low2 high2 b g v n
  | 0, _ => ⟨rfl, rfl⟩
  | n + 1, hn => by
    have ih := aL_cong (g := g) h n (by omega)
    unfold aL aH
    by_cases hb : b = true
    · have e := h hb
      rw [if_pos hb, if_pos hb, if_pos hb, if_pos hb, ih.1, ih.2, (e n (by omega) (by omega)).1, (e n (by omega) (by omega)).2, rS_cong (fun k h0 h1 => (e k h0 h1).1) (n + 1) hn, rS_cong (fun k h0 h1 => (e k h0 h1).2) (n + 1) hn]
      exact ⟨rfl, rfl⟩
    · rw [if_neg hb, if_neg hb, if_neg hb, if_neg hb]
      exact ⟨rfl, rfl⟩
theorem xLy_cong {low high low2 high2 : Int → Int} {b : Bool} {g v : Int} (h : b = true → ∀ k : Int, 0 ≤ k → k < 4 → low (4 * v + k) = low2 (4 * v + k) ∧ high (4 * v + k) = high2 (4 * v + k)) : xLy low high b g v = xLy low2 high2 b g v := by
  unfold xLy
  cases b with
  | false => rfl
  | true => rw [sumI_cong4 (fun k h0 h1 => (h rfl k h0 h1).1) 4 (Nat.le_refl _), sumI_cong4 (fun k h0 h1 => (h rfl k h0 h1).2) 4 (Nat.le_refl _)]
theorem aL_t {low high : Int → Int} {b : Bool} {g v : Int} {n : Nat} (hb : b = true) : aL low high b g v (n + 1) = if rS low v (n + 1) < aL low high b g v n - high (4 * v + n) then aL low high b g v n - high (4 * v + n) else rS low v (n + 1) := by
  show (if b = true then _ else _) = _
  rw [if_pos hb]
theorem aL_f {low high : Int → Int} {b : Bool} {g v : Int} {n : Nat} (hb : b = false) : aL low high b g v (n + 1) = 0 := by
  show (if b = true then _ else _) = _
  rw [if_neg (by rw [hb]; decide)]
theorem aH_t {low high : Int → Int} {b : Bool} {g v : Int} {n : Nat} (hb : b = true) : aH low high b g v (n + 1) = if aH low high b g v n - low (4 * v + n) < rS high v (n + 1) then aH low high b g v n - low (4 * v + n) else rS high v (n + 1) := by
  show (if b = true then _ else _) = _
  rw [if_pos hb]
theorem aH_f {low high : Int → Int} {b : Bool} {g v : Int} {n : Nat} (hb : b = false) : aH low high b g v (n + 1) = 0 := by
  show (if b = true then _ else _) = _
  rw [if_neg (by rw [hb]; decide)]
theorem rS_s {f : Int → Int} {v : Int} {n : Nat} : rS f v (n + 1) = rS f v n - f (4 * v + n) := by
  have e := sumI_s f (4 * v) n
  unfold rS
  omega
/-- the rows of Bounds, when some row meets -/
def BGood (ind tot pri : Int → Int) (q fr lim un : Int) (low high ll lh : Int → Int) (bnd : Int → Bool) (gap : Int → Int) : Prop :=
  (∀ t : Int, 0 ≤ t → t < q → low t = loQ ind pri fr lim t ∧ high t = hiQ ind pri fr lim t) ∧ (∀ v : Int, 0 ≤ v → v < 3 → bnd v = xB tot un v ∧ gap v = xGp ind tot q un v) ∧ (∀ t : Int, 0 ≤ t → t < 12 → ll t = xLL ind tot pri q fr lim un t ∧ lh t = xLH ind tot pri q fr lim un t)
theorem fillR_upN {α : Type} {f : Int → α} {n : Nat} {g : Int → α} {v : α} {t : Int} (ht : t = n) (hv : v = g t) : up (fillR f 0 n g) t v = fillR f 0 ((n + 1 : Nat) : Int) g := by
  have e : t = 0 + (n : Int) := by omega
  rw [e] at hv ⊢
  exact fillR_up _ _ _ _ _ (by omega) hv
theorem lays_eq {ind tot pri : Int → Int} {q fr li sh lim un : Int} {low high low1 high1 : Int → Int} {n : Nat} {t : Int} {b : Bool} (H_I : FI ind tot pri q fr li sh) (hlo : low1 = fillR low 0 n (loQ ind pri fr lim)) (hhi : high1 = fillR high 0 n (hiQ ind pri fr lim)) (hn : (n : Int) = q) (h0 : 0 ≤ t) (h1 : t < 3) (eb : b = xB tot un t) (hb : b = true) : ∀ k : Int, 0 ≤ k → k < 4 → low1 (4 * t + k) = loQ ind pri fr lim (4 * t + k) ∧ high1 (4 * t + k) = hiQ ind pri fr lim (4 * t + k) := by
  intro k k0 k1
  rw [hb] at eb
  have h2 := of_decide_eq_true eb.symm
  have h3 := (H_I.tot h0 h1).2.2 h2.2
  rw [hlo, hhi, fillR_in (by omega) (by omega), fillR_in (by omega) (by omega)]
  exact ⟨rfl, rfl⟩
theorem xGap_bd {ind tot pri : Int → Int} {q fr li sh : Int} (H_I : FI ind tot pri q fr li sh) {t : Int} (h0 : 0 ≤ t) (h1 : t < 3) : -2000 ≤ xGap ind tot q t ∧ xGap ind tot q t ≤ 2000 := by
  have h2 := H_I.tot h0 h1
  have h3 := xInd_bd (ind := ind) (q := q) (v := t) (fun t h0 h1 => ⟨(H_I.ind h0 h1).1, (H_I.ind h0 h1).2.1⟩) h0 h1 H_I.q.2
  unfold xGap
  omega
theorem xGp_bd {ind tot pri : Int → Int} {q fr li sh : Int} (H_I : FI ind tot pri q fr li sh) {t un : Int} (h0 : 0 ≤ t) (h1 : t < 3) : -2000 ≤ xGp ind tot q un t ∧ xGp ind tot q un t ≤ 2000 := by
  have := xGap_bd H_I h0 h1
  unfold xGp
  split <;> omega
theorem lays_bd {ind tot pri : Int → Int} {q fr li sh lim un : Int} {low1 high1 : Int → Int} {t g : Int} (H_I : FI ind tot pri q fr li sh) (hl : -1 ≤ lim ∧ lim ≤ 24) (h0 : 0 ≤ t) (h1 : t < 3) (he : ∀ k : Int, 0 ≤ k → k < 4 → low1 (4 * t + k) = loQ ind pri fr lim (4 * t + k) ∧ high1 (4 * t + k) = hiQ ind pri fr lim (4 * t + k)) (eg : g = xGp ind tot q un t) :
    (∀ k : Int, 0 ≤ k → k < 4 → -200 ≤ low1 (4 * t + k) ∧ low1 (4 * t + k) ≤ 200) ∧ (∀ k : Int, 0 ≤ k → k < 4 → -200 ≤ high1 (4 * t + k) ∧ high1 (4 * t + k) ≤ 200) ∧ -2000 ≤ g ∧ g ≤ 2000 := by
  refine ⟨fun k k0 k1 => ?_, fun k k0 k1 => ?_, by rw [eg]; exact xGp_bd H_I h0 h1⟩
  · have := loQ_bd (lim := lim) (t := 4 * t + k) H_I hl (by omega) (by omega)
    rw [(he k k0 k1).1]
    omega
  · have := loQ_bd (lim := lim) (t := 4 * t + k) H_I hl (by omega) (by omega)
    rw [(he k k0 k1).2]
    omega
theorem lays_ll {ind tot pri : Int → Int} {q fr lim un : Int} {low1 high1 : Int → Int} {t g : Int} {b : Bool} (h0 : 0 ≤ t) (eb : b = xB tot un t) (eg : g = xGp ind tot q un t) (he : b = true → ∀ k : Int, 0 ≤ k → k < 4 → low1 (4 * t + k) = loQ ind pri fr lim (4 * t + k) ∧ high1 (4 * t + k) = hiQ ind pri fr lim (4 * t + k)) {u : Int} (hu : 4 * t ≤ u) (hu2 : u < 4 * t + 4) :
    aL low1 high1 b g t (u - 4 * t + 1).toNat = xLL ind tot pri q fr lim un u ∧ aH low1 high1 b g t (u - 4 * t + 1).toNat = xLH ind tot pri q fr lim un u := by
  have e1 : u / 4 = t := by omega
  have e2 : (u % 4 + 1).toNat = (u - 4 * t + 1).toNat := by omega
  unfold xLL xLH
  rw [e1, e2, ← eb, ← eg]
  exact aL_cong he _ (by omega)
