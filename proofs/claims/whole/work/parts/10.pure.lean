/-! sums and the small words of the figures -/
def sumI (f : Int → Int) (a : Int) : Nat → Int
  | 0 => 0
  | n + 1 => sumI f a n + f (a + n)
theorem sumI_0 (f : Int → Int) (a : Int) : sumI f a 0 = 0 := rfl
theorem sumI_s (f : Int → Int) (a : Int) (n : Nat) : sumI f a (n + 1) = sumI f a n + f (a + n) := rfl
theorem sumI_cong {f g : Int → Int} {a b : Int} : ∀ {n : Nat}, (∀ k : Int, 0 ≤ k → k < n → f (a + k) = g (b + k)) → sumI f a n = sumI g b n
  | 0, _ => rfl
  | n + 1, h => by rw [sumI_s, sumI_s, sumI_cong (n := n) (fun k h0 h1 => h k h0 (by omega)), h n (by omega) (by omega)]
theorem sumI_bd {f : Int → Int} {a lo hi : Int} : ∀ {n : Nat}, (∀ k : Int, 0 ≤ k → k < n → lo ≤ f (a + k) ∧ f (a + k) ≤ hi) → n * lo ≤ sumI f a n ∧ sumI f a n ≤ n * hi
  | 0, _ => by simp [sumI]
  | n + 1, h => by
    have h1 := sumI_bd (n := n) (fun k h0 h1 => h k h0 (by omega))
    have h2 := h n (by omega) (by omega)
    rw [sumI_s]
    have e1 : ((n + 1 : Nat) : Int) * lo = n * lo + lo := by rw [Int.natCast_add, Int.add_mul]; omega
    have e2 : ((n + 1 : Nat) : Int) * hi = n * hi + hi := by rw [Int.natCast_add, Int.add_mul]; omega
    omega
/-- how many quarters of a year are there -/
def yN (q y : Int) : Nat := (if 4 * y + 4 ≤ q then 4 else q - 4 * y).toNat
def xInd (ind : Int → Int) (q y : Int) : Int := sumI ind (4 * y) (yN q y)
def xGap (ind tot : Int → Int) (q y : Int) : Int := tot y - xInd ind q y
def pr1 (pri : Int → Int) (t : Int) : Int := if pri t = -1 then 0 else 1
def xOnes (pri : Int → Int) (q : Int) : Int := sumI (pr1 pri) 0 q.toNat
def xYears (tot : Int → Int) : Int := sumI (pr1 tot) 0 3
def fillI (f : Int → Int) (v n : Int) : Int → Int := fun t => if 0 ≤ t ∧ t < n then v else f t
theorem fillI_up (f : Int → Int) (v : Int) (n : Int) (h : 0 ≤ n) : up (fillI f v n) n v = fillI f v (n + 1) := by
  funext j
  unfold up fillI
  by_cases h1 : j = n
  · rw [if_pos h1, if_pos (by omega)]
  · rw [if_neg h1]
    by_cases h2 : 0 ≤ j ∧ j < n
    · rw [if_pos h2, if_pos (by omega)]
    · rw [if_neg h2, if_neg (by omega)]
theorem fillI_0 (f : Int → Int) (v : Int) : fillI f v 0 = f := by
  funext j
  unfold fillI
  rw [if_neg (by omega)]
/-- what the figures keep to -/
def FI (ind tot pri : Int → Int) (q fr li sh : Int) : Prop :=
  (0 ≤ q ∧ q ≤ 12) ∧ (∀ t : Int, 0 ≤ t → t < 12 → 0 ≤ ind t ∧ ind t ≤ 99 ∧ (t < q → 1 ≤ ind t)) ∧ (∀ v : Int, 0 ≤ v → v < 3 → -1 ≤ tot v ∧ tot v ≤ 999 ∧ (tot v ≠ -1 → 4 * v + 4 ≤ q)) ∧ (∀ t : Int, 0 ≤ t → t < 12 → pri t = -1 ∨ 1 ≤ pri t ∧ pri t ≤ 115) ∧ (0 ≤ fr ∧ fr < 4096) ∧ (-1 ≤ li ∧ li ≤ 24) ∧ (sh = 0 ∨ sh = 1)
theorem FI.q {ind tot pri : Int → Int} {q fr li sh : Int} (h : FI ind tot pri q fr li sh) : 0 ≤ q ∧ q ≤ 12 := h.1
theorem FI.ind {ind tot pri : Int → Int} {q fr li sh : Int} (h : FI ind tot pri q fr li sh) {t : Int} (h0 : 0 ≤ t) (h1 : t < 12) : 0 ≤ ind t ∧ ind t ≤ 99 ∧ (t < q → 1 ≤ ind t) := h.2.1 t h0 h1
theorem FI.tot {ind tot pri : Int → Int} {q fr li sh : Int} (h : FI ind tot pri q fr li sh) {v : Int} (h0 : 0 ≤ v) (h1 : v < 3) : -1 ≤ tot v ∧ tot v ≤ 999 ∧ (tot v ≠ -1 → 4 * v + 4 ≤ q) := h.2.2.1 v h0 h1
theorem FI.pri {ind tot pri : Int → Int} {q fr li sh : Int} (h : FI ind tot pri q fr li sh) {t : Int} (h0 : 0 ≤ t) (h1 : t < 12) : pri t = -1 ∨ 1 ≤ pri t ∧ pri t ≤ 115 := h.2.2.2.1 t h0 h1
theorem FI.fr {ind tot pri : Int → Int} {q fr li sh : Int} (h : FI ind tot pri q fr li sh) : 0 ≤ fr ∧ fr < 4096 := h.2.2.2.2.1
theorem FI.li {ind tot pri : Int → Int} {q fr li sh : Int} (h : FI ind tot pri q fr li sh) : -1 ≤ li ∧ li ≤ 24 := h.2.2.2.2.2.1
theorem FI.sh {ind tot pri : Int → Int} {q fr li sh : Int} (h : FI ind tot pri q fr li sh) : sh = 0 ∨ sh = 1 := h.2.2.2.2.2.2
theorem bAnd1 (a : Int) : bAnd a 1 = 0 ∨ bAnd a 1 = 1 := by
  unfold bAnd
  have h : ∀ x : Int32, (x &&& 1).toInt = 0 ∨ (x &&& 1).toInt = 1 := by
    intro x
    have h1 : (x &&& 1) = nI (x.toBitVec.toNat % 2 ^ 1) := pk_and x (m := 1) 1 (by decide)
    rw [h1]
    rcases Nat.mod_two_eq_zero_or_one x.toBitVec.toNat with h2 | h2
    · left; rw [show (2 : Nat) ^ 1 = 2 from rfl, h2]; decide
    · right; rw [show (2 : Nat) ^ 1 = 2 from rfl, h2]; decide
  exact h (iI a)
theorem xInd_bd {ind : Int → Int} {q v : Int} (h : ∀ t : Int, 0 ≤ t → t < 12 → 0 ≤ ind t ∧ ind t ≤ 99) (h0 : 0 ≤ v) (h1 : v < 3) (hq : q ≤ 12) : 0 ≤ xInd ind q v ∧ xInd ind q v ≤ 396 := by
  have hn : yN q v ≤ 4 := by unfold yN; split <;> omega
  have := sumI_bd (f := ind) (a := 4 * v) (lo := 0) (hi := 99) (n := yN q v) (fun k k0 k1 => h _ (by omega) (by omega))
  unfold xInd
  omega
/-- sharing out, and how much a row is moved -/
def xShare (ind tot : Int → Int) (q t : Int) : Int :=
  if tot (t / 4) = -1 ∨ xInd ind q (t / 4) ≤ 0 then ind t else
    tot (t / 4) * ind t / xInd ind q (t / 4) + (if sumI (fun u => if tot (t / 4) * ind u % xInd ind q (t / 4) > tot (t / 4) * ind t % xInd ind q (t / 4) ∨ (tot (t / 4) * ind u % xInd ind q (t / 4) = tot (t / 4) * ind t % xInd ind q (t / 4) ∧ u < t) then 1 else 0) (4 * (t / 4)) (yN q (t / 4)) < tot (t / 4) - sumI (fun u => tot (t / 4) * ind u / xInd ind q (t / 4)) (4 * (t / 4)) (yN q (t / 4)) then 1 else 0)
def mvI (ind x : Int → Int) (k t : Int) : Int := if k = 0 then x t - ind t - (x (t - 1) - ind (t - 1)) else x t * ind (t - 1) - x (t - 1) * ind t
def xMoved (ind x : Int → Int) (q k : Int) : Int := sumI (fun t => mvI ind x k t * mvI ind x k t) 1 (q - 1).toNat
