/-! bounds of what is shared out and of BENT -/
theorem mvI_cong {ind x x2 : Int → Int} {k t : Int} (h1 : x t = x2 t) (h2 : x (t - 1) = x2 (t - 1)) : mvI ind x k t = mvI ind x2 k t := by
  unfold mvI
  rw [h1, h2]
theorem xMoved_cong {ind x x2 : Int → Int} {q k : Int} (h : ∀ t : Int, 0 ≤ t → t < q → x t = x2 t) : xMoved ind x q k = xMoved ind x2 q k := by
  unfold xMoved
  refine sumI_cong (fun j h0 h1 => ?_)
  rw [mvI_cong (h (1 + j) (by omega) (by omega)) (h (1 + j - 1) (by omega) (by omega))]
theorem sumI_nn {f : Int → Int} {a : Int} {n : Nat} (h : ∀ k : Int, 0 ≤ k → k < n → 0 ≤ f (a + k)) : 0 ≤ sumI f a n := by
  have := sumI_mono (f := fun _ => 0) (g := f) (a := a) (n := n) h
  have e : ∀ m : Nat, sumI (fun _ => 0) a m = 0 := by
    intro m
    induction m with
    | zero => rfl
    | succ m ih => rw [sumI_s, ih]; rfl
  rw [e] at this
  exact this
theorem sumI_part {f : Int → Int} {a : Int} {n : Nat} (h : ∀ k : Int, 0 ≤ k → k < n → 0 ≤ f (a + k)) {j : Int} (h0 : 0 ≤ j) (h1 : j < n) : f (a + j) ≤ sumI f a n := by
  have e := sumI_split f a j.toNat (n - j.toNat)
  rw [show j.toNat + (n - j.toNat) = n by omega] at e
  have e2 := sumI_split f (a + j.toNat) 1 (n - j.toNat - 1)
  rw [show 1 + (n - j.toNat - 1) = n - j.toNat by omega] at e2
  have e3 : sumI f (a + (j.toNat : Int)) 1 = f (a + j) := by
    rw [sumI_s, sumI_0, show a + (j.toNat : Int) + ((0 : Nat) : Int) = a + j by omega]
    omega
  have p1 := sumI_nn (f := f) (a := a) (n := j.toNat) (fun k k0 k1 => h k k0 (by omega))
  have p2 := sumI_nn (f := f) (a := a + (j.toNat : Int) + ((1 : Nat) : Int)) (n := n - j.toNat - 1) (fun k k0 k1 => by
    have := h (j + 1 + k) (by omega) (by omega)
    rw [show a + (j.toNat : Int) + ((1 : Nat) : Int) + k = a + (j + 1 + k) by omega]
    exact this)
  omega
theorem ind_le {ind tot pri : Int → Int} {q fr li sh : Int} (H_I : FI ind tot pri q fr li sh) {t : Int} (h0 : 0 ≤ t) (h1 : t < q) : ind t ≤ xInd ind q (t / 4) := by
  have hq := H_I.q
  have hn : (t % 4 : Int) < yN q (t / 4) := by unfold yN; split <;> omega
  have hn4 : yN q (t / 4) ≤ 4 := by unfold yN; split <;> omega
  have := sumI_part (f := ind) (a := 4 * (t / 4)) (n := yN q (t / 4)) (fun k k0 k1 => (H_I.ind (t := 4 * (t / 4) + k) (by omega) (by omega)).1) (j := t % 4) (by omega) hn
  rw [show 4 * (t / 4) + t % 4 = t by omega] at this
  exact this
theorem xShare_bd {ind tot pri : Int → Int} {q fr li sh : Int} (H_I : FI ind tot pri q fr li sh) {t : Int} (h0 : 0 ≤ t) (h1 : t < q) : -2000 ≤ xShare ind tot q t ∧ xShare ind tot q t ≤ 2000 := by
  have hq := H_I.q
  have hi := H_I.ind h0 (show t < 12 by omega)
  have hl := ind_le H_I h0 h1
  have ht := H_I.tot (v := t / 4) (by omega) (by omega)
  unfold xShare
  by_cases hc : tot (t / 4) = -1 ∨ xInd ind q (t / 4) ≤ 0
  · rw [if_pos hc]; omega
  · rw [if_neg hc]
    have p0 : 0 ≤ tot (t / 4) * ind t := Int.mul_nonneg (by omega) (by omega)
    have p1 : tot (t / 4) * ind t ≤ tot (t / 4) * xInd ind q (t / 4) := Int.mul_le_mul_of_nonneg_left hl (by omega)
    have d0 := Int.ediv_nonneg p0 (show 0 ≤ xInd ind q (t / 4) by omega)
    have d1 := Int.ediv_le_ediv (show 0 < xInd ind q (t / 4) by omega) p1
    rw [Int.mul_ediv_cancel _ (show xInd ind q (t / 4) ≠ 0 by omega)] at d1
    split <;> omega
section XB
variable {ind tot pri : Int → Int} {q fr li sh lim un : Int}
theorem xRd_ok (H_I : FI ind tot pri q fr li sh) (hlim : -1 ≤ lim ∧ lim ≤ 24) (h : xMt ind tot pri q fr lim un = true) : ∀ n : Nat, (n : Int) ≤ q → AO (xLL ind tot pri q fr lim un) (xLH ind tot pri q fr lim un) n (xRd ind tot pri q fr lim un sh n).2 ∧ -8 ≤ (xRd ind tot pri q fr lim un sh n).1 ∧ (xRd ind tot pri q fr lim un sh n).1 ≤ 8
  | 0, _ => by
    refine ⟨Or.inl rfl, ?_, ?_⟩
    · show (-8 : Int) ≤ 0; omega
    · show (0 : Int) ≤ 8; omega
  | n + 1, hn => by
    obtain ⟨ih1, ih2⟩ := xRd_ok H_I hlim h n (by omega)
    have H := BGp H_I hlim h
    have hci := chs_in H_I H (u := n) (d := (xRd ind tot pri q fr lim un sh n).1) (by omega) (by omega) ih2 ih1
    have hv := next_VL H (by omega) (by omega) ih1 hci.1 hci.2
    have ha := next_AO H (by omega) (by omega) ih1 hci.1 hci.2
    have hb := loQ_bd (lim := lim) (t := n) H_I hlim (by omega) (by have := H_I.q; omega)
    unfold xRd at *
    rw [rdS_s]
    dsimp only
    refine ⟨?_, by omega, by omega⟩
    rw [show ((n + 1 : Nat) : Int) = (n : Int) + 1 by omega]
    exact ha
theorem xRow_bd (H_I : FI ind tot pri q fr li sh) (hlim : -1 ≤ lim ∧ lim ≤ 24) (h : xMt ind tot pri q fr lim (-1) = true) {t : Int} (h0 : 0 ≤ t) (h1 : t < q) : -7 ≤ xRow ind tot pri q fr lim sh t ∧ xRow ind tot pri q fr lim sh t ≤ 107 := by
  have hq := H_I.q
  have hi := H_I.ind h0 (show t < 12 by omega)
  have := (xRd_ok H_I hlim h (t + 1).toNat (by omega)).2
  unfold xRow
  omega
end XB
/-- how far a quarter is revised, which is revised farthest -/
def xRev (x pri : Int → Int) (t : Int) : Int := if 0 ≤ x t + 8 - pri t then x t + 8 - pri t else 0 - (x t + 8 - pri t)
def xFar (x pri : Int → Int) : Nat → Int × Int
  | 0 => (-1, -1)
  | n + 1 => if pri n ≠ -1 ∧ (xFar x pri n).2 < xRev x pri n then ((n : Int), xRev x pri n) else xFar x pri n
theorem xFar_s (x pri : Int → Int) (n : Nat) : xFar x pri (n + 1) = if pri n ≠ -1 ∧ (xFar x pri n).2 < xRev x pri n then ((n : Int), xRev x pri n) else xFar x pri n := rfl
theorem xFar_cong {x x2 pri : Int → Int} : ∀ {n : Nat}, (∀ t : Int, 0 ≤ t → t < n → x t = x2 t) → xFar x pri n = xFar x2 pri n
  | 0, _ => rfl
  | n + 1, h => by
    have e : xRev x pri n = xRev x2 pri n := by unfold xRev; rw [h n (by omega) (by omega)]
    rw [xFar_s, xFar_s, xFar_cong (n := n) (fun t h0 h1 => h t h0 (by omega)), e]
/-- the first limit that will do -/
def xLeastL (P : Int → Bool) : Nat → Int → Int
  | 0, _ => -1
  | n + 1, l => if P l = true then l else xLeastL P n (l + 1)
