/-! sharing out one after another is sharing out by rank -/
/-- the quarters of a year that were given one -/
def gB (v : Int) (g : Nat) : Int := ((g * 16 ^ v.toNat : Nat) : Int)
def gI (g : Nat) (i : Int) : Int := if g.testBit i.toNat = true then 1 else 0
def gU (g : Nat) (i : Int) : Nat := g ||| 2 ^ i.toNat
theorem gB_bit {v i : Int} {g : Nat} (hv : 0 ≤ v ∧ v < 3) (hg : g < 16) (hi : 0 ≤ i ∧ i < 4) : bAnd (bShr (gB v g) (4 * v + i)) 1 = gI g i := by
  have h := sy_b1 ⟨v.toNat, by omega⟩ ⟨g, hg⟩ ⟨i.toNat, by omega⟩
  dsimp only at h
  rw [show ((4 * v.toNat + i.toNat : Nat) : Int) = 4 * v + i by omega] at h
  exact h
theorem gB_or {v i : Int} {g : Nat} (hv : 0 ≤ v ∧ v < 3) (hg : g < 16) (hi : 0 ≤ i ∧ i < 4) : bOr (gB v g) (bShl 1 (4 * v + i)) = gB v (gU g i) := by
  have h := sy_b2 ⟨v.toNat, by omega⟩ ⟨g, hg⟩ ⟨i.toNat, by omega⟩
  dsimp only at h
  rw [show ((4 * v.toNat + i.toNat : Nat) : Int) = 4 * v + i by omega] at h
  exact h
theorem gU_lt {i : Int} {g : Nat} (hg : g < 16) (hi : 0 ≤ i ∧ i < 4) : gU g i < 16 := (sy_b3 ⟨g, hg⟩ ⟨i.toNat, by omega⟩ ⟨0, by omega⟩).1
theorem gU_bit {i j : Int} {g : Nat} (hg : g < 16) (hi : 0 ≤ i ∧ i < 4) (hj : 0 ≤ j ∧ j < 4) : gI (gU g i) j = if i = j then 1 else gI g j := by
  have h := (sy_b3 ⟨g, hg⟩ ⟨i.toNat, by omega⟩ ⟨j.toNat, by omega⟩).2
  dsimp only at h
  unfold gI gU
  rw [h]
  by_cases e : i = j
  · subst e
    rw [if_pos rfl, decide_eq_true rfl, Bool.or_true, if_pos rfl]
  · rw [if_neg e, decide_eq_false (fun hc => e (by injection hc with hc; omega)), Bool.or_false]
theorem gI_01 (g : Nat) (i : Int) : gI g i = 0 ∨ gI g i = 1 := by unfold gI; split <;> omega
theorem gI_z (i : Int) : gI 0 i = 0 := by unfold gI; rw [Nat.zero_testBit]; rfl
def gN (g : Nat) : Int := gI g 0 + gI g 1 + gI g 2 + gI g 3
theorem gN_u {i : Int} {g : Nat} (hg : g < 16) (hi : 0 ≤ i ∧ i < 4) (h0 : gI g i = 0) : gN (gU g i) = gN g + 1 := by
  unfold gN
  rw [gU_bit hg hi (by omega), gU_bit hg hi (by omega), gU_bit hg hi (by omega), gU_bit hg hi (by omega)]
  rcases (show i = 0 ∨ i = 1 ∨ i = 2 ∨ i = 3 by omega) with rfl | rfl | rfl | rfl
  · rw [if_pos rfl, if_neg (by decide), if_neg (by decide), if_neg (by decide)]; omega
  · rw [if_neg (by decide), if_pos rfl, if_neg (by decide), if_neg (by decide)]; omega
  · rw [if_neg (by decide), if_neg (by decide), if_pos rfl, if_neg (by decide)]; omega
  · rw [if_neg (by decide), if_neg (by decide), if_neg (by decide), if_pos rfl]; omega
/-- u is ahead of t -/
def ahd (r : Int → Int) (u t : Int) : Prop := r u > r t ∨ (r u = r t ∧ u < t)
/-- those that were given one are ahead of the others -/
def gCl (r : Int → Int) (v : Int) (g : Nat) : Prop := ∀ i j : Int, 0 ≤ i → i < 4 → 0 ≤ j → j < 4 → gI g i = 1 → gI g j = 0 → ahd r (4 * v + i) (4 * v + j)
/-- the first of the greatest, of those looked at -/
def sel (r : Int → Int) (v : Int) (g n : Nat) (f : Int) : Prop := (f = -1 ∧ ∀ i : Int, 0 ≤ i → i < n → gI g i = 1) ∨ ((4 * v ≤ f ∧ f < 4 * v + n) ∧ gI g (f - 4 * v) = 0 ∧ ∀ i : Int, 0 ≤ i → i < n → gI g i = 0 → 4 * v + i = f ∨ ahd r f (4 * v + i))
theorem sel_0 {r : Int → Int} {v : Int} {g : Nat} : sel r v g 0 (-1) := Or.inl ⟨rfl, fun i h0 h1 => by omega⟩
theorem sel_given {r : Int → Int} {v f t : Int} {g n : Nat} (h : sel r v g n f) (ht : t = 4 * v + n) (hg : gI g n = 1) : sel r v g (n + 1) f := by
  rcases h with ⟨h1, h2⟩ | ⟨h1, h2, h3⟩
  · refine Or.inl ⟨h1, fun i i0 i1 => ?_⟩
    by_cases e : i = n
    · rw [e]; exact hg
    · exact h2 i i0 (by omega)
  · refine Or.inr ⟨by omega, h2, fun i i0 i1 hi => ?_⟩
    by_cases e : i = n
    · rw [e] at hi; omega
    · exact h3 i i0 (by omega) hi
theorem sel_first {r : Int → Int} {v f t : Int} {g n : Nat} (h : sel r v g n f) (hv : 0 ≤ v) (ht : t = 4 * v + n) (hg : gI g n = 0) (hf : f = -1) : sel r v g (n + 1) t := by
  rcases h with ⟨h1, h2⟩ | ⟨h1, h2, h3⟩
  · refine Or.inr ⟨by omega, by rw [show t - 4 * v = n by omega]; exact hg, fun i i0 i1 hi => ?_⟩
    by_cases e : i = n
    · left; omega
    · have := h2 i i0 (by omega); omega
  · omega
theorem sel_more {r : Int → Int} {v f t : Int} {g n : Nat} (h : sel r v g n f) (ht : t = 4 * v + n) (hg : gI g n = 0) (hf : f ≠ -1) (hr : r f < r t) : sel r v g (n + 1) t := by
  rcases h with ⟨h1, h2⟩ | ⟨h1, h2, h3⟩
  · exact absurd h1 hf
  · refine Or.inr ⟨by omega, by rw [show t - 4 * v = n by omega]; exact hg, fun i i0 i1 hi => ?_⟩
    by_cases e : i = n
    · left; omega
    · right; left
      rcases h3 i i0 (by omega) hi with q | q | q
      · rw [q]; exact hr
      · omega
      · omega
theorem sel_less {r : Int → Int} {v f t : Int} {g n : Nat} (h : sel r v g n f) (ht : t = 4 * v + n) (hf : f ≠ -1) (hr : r t ≤ r f) : sel r v g (n + 1) f := by
  rcases h with ⟨h1, h2⟩ | ⟨h1, h2, h3⟩
  · exact absurd h1 hf
  · refine Or.inr ⟨by omega, h2, fun i i0 i1 hi => ?_⟩
    by_cases e : i = n
    · right
      rw [e, ← ht]
      unfold ahd
      omega
    · exact h3 i i0 (by omega) hi
theorem sel_end {r : Int → Int} {v f : Int} {g : Nat} (h : sel r v g 4 f) (hn : gN g < 4) : (4 * v ≤ f ∧ f < 4 * v + 4) ∧ gI g (f - 4 * v) = 0 ∧ ∀ i : Int, 0 ≤ i → i < 4 → gI g i = 0 → 4 * v + i = f ∨ ahd r f (4 * v + i) := by
  rcases h with ⟨h1, h2⟩ | h
  · have a := h2 0 (by omega) (by omega)
    have b := h2 1 (by omega) (by omega)
    have c := h2 2 (by omega) (by omega)
    have d := h2 3 (by omega) (by omega)
    unfold gN at hn
    omega
  · exact h
theorem gCl_0 {r : Int → Int} {v : Int} : gCl r v 0 := fun i j _ _ _ _ h => by rw [gI_z] at h; omega
theorem gCl_u {r : Int → Int} {v f : Int} {g : Nat} (hg : g < 16) (h : gCl r v g) (hs : (4 * v ≤ f ∧ f < 4 * v + 4) ∧ gI g (f - 4 * v) = 0 ∧ ∀ i : Int, 0 ≤ i → i < 4 → gI g i = 0 → 4 * v + i = f ∨ ahd r f (4 * v + i)) : gCl r v (gU g (f - 4 * v)) := by
  obtain ⟨s1, s2, s3⟩ := hs
  intro i j i0 i1 j0 j1 hi hj
  rw [gU_bit hg (by omega) ⟨i0, i1⟩] at hi
  rw [gU_bit hg (by omega) ⟨j0, j1⟩] at hj
  by_cases ej : f - 4 * v = j
  · rw [if_pos ej] at hj; omega
  · rw [if_neg ej] at hj
    by_cases ei : f - 4 * v = i
    · rcases s3 j j0 j1 hj with q | q
      · omega
      · rw [show 4 * v + i = f by omega]; exact q
    · rw [if_neg ei] at hi
      exact h i j i0 i1 j0 j1 hi hj
/-- a rank below how many were given is to have been given -/
theorem gCl_rank {r : Int → Int} {v : Int} {g : Nat} (h : gCl r v g) {j : Int} (j0 : 0 ≤ j) (j1 : j < 4) : (sumI (fun u => if r u > r (4 * v + j) ∨ (r u = r (4 * v + j) ∧ u < 4 * v + j) then 1 else 0) (4 * v) 4 < gN g) ↔ gI g j = 1 := by
  have e : ∀ f : Int → Int, sumI f (4 * v) 4 = f (4 * v + 0) + f (4 * v + 1) + f (4 * v + 2) + f (4 * v + 3) := by
    intro f
    rw [sumI_s, sumI_s, sumI_s, sumI_s, sumI_0]
    show 0 + f (4 * v + ((0 : Nat) : Int)) + f (4 * v + ((1 : Nat) : Int)) + f (4 * v + ((2 : Nat) : Int)) + f (4 * v + ((3 : Nat) : Int)) = _
    rw [Int.zero_add]
    rfl
  rw [e]
  have key : ∀ i : Int, 0 ≤ i → i < 4 → (gI g j = 1 → (if r (4 * v + i) > r (4 * v + j) ∨ (r (4 * v + i) = r (4 * v + j) ∧ 4 * v + i < 4 * v + j) then (1 : Int) else 0) ≤ gI g i ∧ (i = j → (if r (4 * v + i) > r (4 * v + j) ∨ (r (4 * v + i) = r (4 * v + j) ∧ 4 * v + i < 4 * v + j) then (1 : Int) else 0) = 0)) ∧ (gI g j = 0 → gI g i ≤ (if r (4 * v + i) > r (4 * v + j) ∨ (r (4 * v + i) = r (4 * v + j) ∧ 4 * v + i < 4 * v + j) then (1 : Int) else 0)) := by
    intro i i0 i1
    have g1 := gI_01 g i
    refine ⟨fun hj => ⟨?_, fun ij => ?_⟩, fun hj => ?_⟩
    · split
      · rename_i hc
        rcases g1 with q | q
        · have := h j i j0 j1 i0 i1 hj q
          unfold ahd at this
          omega
        · omega
      · omega
    · rw [ij, if_neg (by omega)]
    · rcases g1 with q | q
      · rw [q]; split <;> omega
      · have := h i j i0 i1 j0 j1 q hj
        unfold ahd at this
        rw [q, if_pos this]
        exact Int.le_refl _
  have k0 := key 0 (by omega) (by omega)
  have k1 := key 1 (by omega) (by omega)
  have k2 := key 2 (by omega) (by omega)
  have k3 := key 3 (by omega) (by omega)
  have gj := gI_01 g j
  unfold gN
  rcases gj with q | q
  · have a0 := k0.2 q
    have a1 := k1.2 q
    have a2 := k2.2 q
    have a3 := k3.2 q
    omega
  · have a0 := k0.1 q
    have a1 := k1.1 q
    have a2 := k2.1 q
    have a3 := k3.1 q
    rcases (show j = 0 ∨ j = 1 ∨ j = 2 ∨ j = 3 by omega) with hj | hj | hj | hj
    · have q2 := q; rw [hj] at q2; have := a0.2 hj.symm; omega
    · have q2 := q; rw [hj] at q2; have := a1.2 hj.symm; omega
    · have q2 := q; rw [hj] at q2; have := a2.2 hj.symm; omega
    · have q2 := q; rw [hj] at q2; have := a3.2 hj.symm; omega
theorem sumI_div {a : Int → Int} {S b : Int} (hS : 0 < S) : ∀ n : Nat, sumI (fun u => a u / S) b n * S + sumI (fun u => a u % S) b n = sumI a b n
  | 0 => by rw [sumI_0, sumI_0, sumI_0]; omega
  | n + 1 => by
    have ih := sumI_div (a := a) (b := b) hS n
    have := Int.emod_add_mul_ediv (a (b + n)) S
    rw [sumI_s, sumI_s, sumI_s, Int.add_mul]
    try dsimp only
    rw [Int.mul_comm S] at this
    omega
theorem sumI_mull (f : Int → Int) (c a : Int) : ∀ n : Nat, sumI (fun t => c * f t) a n = c * sumI f a n
  | 0 => by rw [sumI_0, sumI_0, Int.mul_zero]
  | n + 1 => by rw [sumI_s, sumI_s, sumI_mull f c a n, Int.mul_add]
/-- what is left is less than four -/
theorem left_lt {ind : Int → Int} {T S v : Int} (hS : 0 < S) (hs : S = sumI ind (4 * v) 4) : T - sumI (fun u => T * ind u / S) (4 * v) 4 ≤ 3 := by
  have h1 := sumI_div (a := fun u => T * ind u) (b := 4 * v) hS 4
  have h2 := sumI_mull ind T (4 * v) 4
  have h3 := sumI_bd (f := fun u => T * ind u % S) (a := 4 * v) (lo := 0) (hi := S - 1) (n := 4) (fun k _ _ => ⟨Int.emod_nonneg _ (by omega), by have := Int.emod_lt_of_pos (T * ind (4 * v + k)) hS; omega⟩)
  rw [h2, ← hs] at h1
  generalize sumI (fun u => T * ind u / S) (4 * v) 4 = F at *
  generalize sumI (fun u => T * ind u % S) (4 * v) 4 = R at *
  have h4 : (T - F) * S = R := by rw [Int.sub_mul]; omega
  by_cases hc : T - F ≤ 3
  · exact hc
  · have h5 : 4 * S ≤ (T - F) * S := Int.mul_le_mul_of_nonneg_right (by omega) (by omega)
    omega
theorem yN4 {q v : Int} (h : 4 * v + 4 ≤ q) : yN q v = 4 := by unfold yN; rw [if_pos h]; rfl
theorem share_of {ind tot : Int → Int} {q v : Int} {g : Nat} {T S lf : Int} (hv : 0 ≤ v) (h4 : 4 * v + 4 ≤ q) (hT : T = tot v) (hT1 : T ≠ -1) (hS : S = xInd ind q v) (hS0 : 0 < S) (hc : gCl (fun u => T * ind u % S) v g) (hl : lf = T - sumI (fun u => T * ind u / S) (4 * v) 4 - gN g) (hle : lf ≤ 0) (hz : g = 0 ∨ 0 ≤ lf) {t : Int} (t0 : 4 * v ≤ t) (t1 : t < 4 * v + 4) : T * ind t / S + gI g (t - 4 * v) = xShare ind tot q t := by
  unfold xShare
  rw [show t / 4 = v by omega, ← hS, ← hT, if_neg (by omega), yN4 h4]
  have hr := gCl_rank hc (j := t - 4 * v) (by omega) (by omega)
  rw [show 4 * v + (t - 4 * v) = t by omega] at hr
  try dsimp only at hr
  have gj := gI_01 g (t - 4 * v)
  congr 1
  rcases hz with hz | hz
  · subst hz
    rw [gI_z]
    have n0 : gN 0 = 0 := by unfold gN; rw [gI_z, gI_z, gI_z, gI_z]; rfl
    have nn := sumI_bd (f := fun u => if T * ind u % S > T * ind t % S ∨ (T * ind u % S = T * ind t % S ∧ u < t) then (1 : Int) else 0) (a := 4 * v) (lo := 0) (hi := 1) (n := 4) (fun k _ _ => by split <;> omega)
    rw [if_neg (by omega)]
  · rcases gj with q1 | q1
    · rw [q1, if_neg (fun hh => ?_)]
      have := hr.mp (by omega)
      omega
    · rw [q1, if_pos]
      have := hr.mpr q1
      omega
theorem so_none {ind tot sh2 : Int → Int} {q v : Int} (hv : 0 ≤ v) (hs : ∀ t : Int, 0 ≤ t → t < q → sh2 t = if t < 4 * v then xShare ind tot q t else ind t) (hc : tot v = -1) : ∀ t : Int, 0 ≤ t → t < q → sh2 t = if t < 4 * (v + 1) then xShare ind tot q t else ind t := by
  intro t h0 h1
  rw [hs t h0 h1]
  by_cases g1 : t < 4 * v
  · rw [if_pos g1, if_pos (by omega)]
  · rw [if_neg g1]
    by_cases g2 : t < 4 * (v + 1)
    · rw [if_pos g2]
      unfold xShare
      rw [if_pos (Or.inl (by rw [show t / 4 = v by omega]; exact hc))]
    · rw [if_neg g2]
theorem so_year {ind tot sh2 : Int → Int} {q v : Int} (hs : ∀ t : Int, 0 ≤ t → t < q → sh2 t = if t < 4 * v then xShare ind tot q t else ind t) : ∀ t : Int, 0 ≤ t → t < q → fillR sh2 (4 * v) 4 (fun wt => xShare ind tot q wt) t = if t < 4 * (v + 1) then xShare ind tot q t else ind t := by
  intro t h0 h1
  by_cases g1 : t < 4 * v
  · rw [if_pos (by omega), fillR_out (by omega), hs t h0 h1, if_pos g1]
  · by_cases g2 : t < 4 * (v + 1)
    · rw [if_pos g2, fillR_in (by omega) (by omega)]
    · rw [if_neg g2, fillR_out (by omega), hs t h0 h1, if_neg g1]
