/-! the reading of THE TEXT, byte by byte -/
/-- what the rows of the orders keep to -/
def TJ (ltr fir sec : Int → Int) (ord : Int) (num fig : Int) : Prop := (∀ k : Int, 0 ≤ k → k < 60 → (0 ≤ ltr k ∧ ltr k ≤ 127) ∧ (0 ≤ fir k ∧ fir k ≤ 999) ∧ 0 ≤ sec k ∧ sec k ≤ 999) ∧ (0 ≤ ord ∧ ord ≤ 60) ∧ (0 ≤ num ∧ num ≤ 2) ∧ 0 ≤ fig ∧ fig ≤ 3
/-- and what they keep to within an order -/
def PI (n : Int) (ltr fir sec : Int → Int) (ord : Int) (opn : Bool) (num fig : Int) : Prop := TJ ltr fir sec ord num fig ∧ 2 * ord ≤ n ∧ (opn = true → 2 * ord + 1 ≤ n ∧ xNum (ltr ord) ≠ -1 ∧ num ≤ xNum (ltr ord) ∧ (num = 0 → fig = 0 ∧ fir ord = 0) ∧ (num = 1 → (fig = 1 → fir ord ≤ 9) ∧ (fig = 2 → fir ord ≤ 99)) ∧ (num = 2 → (fig = 1 → sec ord ≤ 9) ∧ (fig = 2 → sec ord ≤ 99)) ∧ (num ≤ 1 → sec ord = 0))
theorem up_all {P : Int → Int → Prop} {f : Int → Int} {a v : Int} (h : ∀ k : Int, 0 ≤ k → k < 60 → P k (f k)) (hv : P a v) : ∀ k : Int, 0 ≤ k → k < 60 → P k (up f a v k) := by
  intro k h0 h1
  by_cases e : k = a
  · subst e; rw [up_same]; exact hv
  · rw [up_ne f v e]; exact h k h0 h1
theorem pOpen_PI {n c : Int} {ltr fir sec : Int → Int} {ord : Int} {opn : Bool} {num fig : Int} (h : PI n ltr fir sec ord opn num fig) (h0 : 0 ≤ c) (h1 : c ≤ 127) (hr : (pOpen c ltr fir sec ord opn num fig).1 = true) :
    PI (n + 1) (pOpen c ltr fir sec ord opn num fig).2.1 (pOpen c ltr fir sec ord opn num fig).2.2.1 (pOpen c ltr fir sec ord opn num fig).2.2.2.1 (pOpen c ltr fir sec ord opn num fig).2.2.2.2.1 (pOpen c ltr fir sec ord opn num fig).2.2.2.2.2.1 (pOpen c ltr fir sec ord opn num fig).2.2.2.2.2.2.1 (pOpen c ltr fir sec ord opn num fig).2.2.2.2.2.2.2 := by
  unfold pOpen at hr ⊢
  split at hr
  · cases hr
  · rename_i hn
    rw [if_neg hn]
    dsimp only
    obtain ⟨⟨hk, ho, hnu, hf⟩, h2, h3⟩ := h
    have hb := xNum_bd c
    refine ⟨⟨fun k k0 k1 => ⟨up_all (P := fun _ v => 0 ≤ v ∧ v ≤ 127) (fun k a b => (hk k a b).1) ⟨h0, h1⟩ k k0 k1, up_all (P := fun _ v => 0 ≤ v ∧ v ≤ 999) (fun k a b => (hk k a b).2.1) ⟨by omega, by omega⟩ k k0 k1, up_all (P := fun _ v => 0 ≤ v ∧ v ≤ 999) (fun k a b => (hk k a b).2.2) ⟨by omega, by omega⟩ k k0 k1⟩, ho, ⟨by omega, by omega⟩, by omega, by omega⟩, by omega, fun _ => ?_⟩
    rw [up_same, up_same, up_same]
    exact ⟨by omega, by omega, by omega, fun _ => ⟨rfl, rfl⟩, fun h => by omega, fun h => by omega, fun _ => rfl⟩
theorem pClose_PI {n : Int} {ltr fir sec : Int → Int} {ord : Int} {opn : Bool} {num fig : Int} (h : PI n ltr fir sec ord opn num fig) (hn : n < 120) (hop : opn = true) (hr : (pClose ltr fir sec ord opn num fig).1 = true) :
    PI (n + 1) (pClose ltr fir sec ord opn num fig).2.1 (pClose ltr fir sec ord opn num fig).2.2.1 (pClose ltr fir sec ord opn num fig).2.2.2.1 (pClose ltr fir sec ord opn num fig).2.2.2.2.1 (pClose ltr fir sec ord opn num fig).2.2.2.2.2.1 (pClose ltr fir sec ord opn num fig).2.2.2.2.2.2.1 (pClose ltr fir sec ord opn num fig).2.2.2.2.2.2.2 := by
  unfold pClose at hr ⊢
  split at hr
  · cases hr
  · rename_i hnn
    rw [if_neg hnn]
    dsimp only
    obtain ⟨⟨hk, ho, hnu, hf⟩, h2, h3⟩ := h
    have h4 := (h3 hop).1
    exact ⟨⟨hk, ⟨by omega, by omega⟩, hnu, hf⟩, by omega, fun h => by cases h⟩
theorem pFig_PI {n v : Int} {ltr fir sec : Int → Int} {ord : Int} {opn : Bool} {num fig : Int} (h : PI n ltr fir sec ord opn num fig) (hn : n < 120) (h0 : 0 ≤ v) (h1 : v ≤ 9) (hop : opn = true) (hr : (pFig v ltr fir sec ord opn num fig).1 = true) :
    PI (n + 1) (pFig v ltr fir sec ord opn num fig).2.1 (pFig v ltr fir sec ord opn num fig).2.2.1 (pFig v ltr fir sec ord opn num fig).2.2.2.1 (pFig v ltr fir sec ord opn num fig).2.2.2.2.1 (pFig v ltr fir sec ord opn num fig).2.2.2.2.2.1 (pFig v ltr fir sec ord opn num fig).2.2.2.2.2.2.1 (pFig v ltr fir sec ord opn num fig).2.2.2.2.2.2.2 := by
  obtain ⟨⟨hk, ho, hnu, hf⟩, h2, h3⟩ := h
  obtain ⟨g1, g2, g3, g4, g5, g6, g7⟩ := h3 hop
  have hbd := xNum_bd (ltr ord)
  have hko := hk ord (by omega) (by omega)
  unfold pFig at hr ⊢
  split at hr
  · cases hr
  · rename_i hnn
    rw [if_neg hnn]
    split
    · split <;> dsimp only
      · have : num = 0 := by omega
        have e := g4 this
        refine ⟨⟨fun k k0 k1 => ⟨(hk k k0 k1).1, up_all (P := fun _ v => 0 ≤ v ∧ v ≤ 999) (fun k a b => (hk k a b).2.1) ⟨by omega, by omega⟩ k k0 k1, (hk k k0 k1).2.2⟩, ho, ⟨by omega, by omega⟩, by omega, by omega⟩, by omega, fun _ => ?_⟩
        rw [up_same]
        exact ⟨by omega, g2, by omega, fun h => by omega, fun _ => ⟨fun _ => by omega, fun _ => by omega⟩, fun h => by omega, fun _ => g7 (by omega)⟩
      · have : num = 1 := by omega
        have e := g7 (by omega)
        refine ⟨⟨fun k k0 k1 => ⟨(hk k k0 k1).1, (hk k k0 k1).2.1, up_all (P := fun _ v => 0 ≤ v ∧ v ≤ 999) (fun k a b => (hk k a b).2.2) ⟨by omega, by omega⟩ k k0 k1⟩, ho, ⟨by omega, by omega⟩, by omega, by omega⟩, by omega, fun _ => ?_⟩
        rw [up_same]
        exact ⟨by omega, g2, by omega, fun h => by omega, fun h => by omega, fun _ => ⟨fun _ => by omega, fun _ => by omega⟩, fun h => by omega⟩
    · split <;> dsimp only
      · have : num = 1 := by omega
        have e := g5 this
        have e1 : fir ord ≤ 99 := by
          rcases (show fig = 1 ∨ fig = 2 by omega) with q | q
          · have := e.1 q; omega
          · exact e.2 q
        refine ⟨⟨fun k k0 k1 => ⟨(hk k k0 k1).1, up_all (P := fun _ v => 0 ≤ v ∧ v ≤ 999) (fun k a b => (hk k a b).2.1) ⟨by omega, by omega⟩ k k0 k1, (hk k k0 k1).2.2⟩, ho, ⟨by omega, by omega⟩, by omega, by omega⟩, by omega, fun _ => ?_⟩
        rw [up_same]
        exact ⟨by omega, g2, by omega, fun h => by omega, fun _ => ⟨fun _ => by omega, fun q => by have := e.1 (by omega); omega⟩, fun h => by omega, fun _ => g7 (by omega)⟩
      · have : num = 2 := by
          have : num ≠ 0 := fun q => by have := (g4 q).1; omega
          omega
        have e := g6 this
        have e1 : sec ord ≤ 99 := by
          rcases (show fig = 1 ∨ fig = 2 by omega) with q | q
          · have := e.1 q; omega
          · exact e.2 q
        refine ⟨⟨fun k k0 k1 => ⟨(hk k k0 k1).1, (hk k k0 k1).2.1, up_all (P := fun _ v => 0 ≤ v ∧ v ≤ 999) (fun k a b => (hk k a b).2.2) ⟨by omega, by omega⟩ k k0 k1⟩, ho, ⟨by omega, by omega⟩, by omega, by omega⟩, by omega, fun _ => ?_⟩
        rw [up_same]
        exact ⟨by omega, g2, by omega, fun h => by omega, fun h => by omega, fun _ => ⟨fun _ => by omega, fun q => by have := e.1 (by omega); omega⟩, fun h => by omega⟩
theorem pByte_PI {n c : Int} {ltr fir sec : Int → Int} {ord : Int} {opn : Bool} {num fig : Int} (h : PI n ltr fir sec ord opn num fig) (hn : n < 120) (h0 : 0 ≤ c) (h1 : c ≤ 127) (hr : (pByte c ltr fir sec ord opn num fig).1 = true) :
    PI (n + 1) (pByte c ltr fir sec ord opn num fig).2.1 (pByte c ltr fir sec ord opn num fig).2.2.1 (pByte c ltr fir sec ord opn num fig).2.2.2.1 (pByte c ltr fir sec ord opn num fig).2.2.2.2.1 (pByte c ltr fir sec ord opn num fig).2.2.2.2.2.1 (pByte c ltr fir sec ord opn num fig).2.2.2.2.2.2.1 (pByte c ltr fir sec ord opn num fig).2.2.2.2.2.2.2 := by
  unfold pByte at hr ⊢
  by_cases c1 : c = 32
  · rw [if_pos c1]
    dsimp only
    obtain ⟨⟨hk, ho, hnu, hf⟩, h2, h3⟩ := h
    refine ⟨⟨hk, ho, hnu, by omega, by omega⟩, by omega, fun hop => ?_⟩
    obtain ⟨g1, g2, g3, g4, g5, g6, g7⟩ := h3 hop
    exact ⟨by omega, g2, g3, fun q => ⟨rfl, (g4 q).2⟩, fun _ => ⟨fun q => by omega, fun q => by omega⟩, fun _ => ⟨fun q => by omega, fun q => by omega⟩, g7⟩
  · rw [if_neg c1] at hr ⊢
    by_cases c2 : opn = false
    · rw [if_pos c2] at hr ⊢
      exact pOpen_PI h h0 h1 hr
    · rw [if_neg c2] at hr ⊢
      have hop : opn = true := by cases opn with | false => exact absurd rfl c2 | true => rfl
      by_cases c3 : c = 59
      · rw [if_pos c3] at hr ⊢
        exact pClose_PI h hn hop hr
      · rw [if_neg c3] at hr ⊢
        by_cases c4 : 48 ≤ c ∧ c ≤ 57
        · rw [if_pos c4] at hr ⊢
          exact pFig_PI h hn (by omega) (by omega) hop hr
        · rw [if_neg c4] at hr
          cases hr
theorem pFig_no {v : Int} {ltr fir sec : Int → Int} {ord : Int} {opn : Bool} {num fig : Int} (hr : (pFig v ltr fir sec ord opn num fig).1 = false) : (pFig v ltr fir sec ord opn num fig).2 = (ltr, fir, sec, ord, opn, num, fig) := by
  unfold pFig at hr ⊢
  by_cases h : (fig = 0 ∧ xNum (ltr ord) ≤ num) ∨ 3 ≤ fig
  · rw [if_pos h]
  · rw [if_neg h] at hr
    exfalso
    revert hr
    split <;> split <;> (intro hr; cases hr)
theorem pByte_no {c : Int} {ltr fir sec : Int → Int} {ord : Int} {opn : Bool} {num fig : Int} (hr : (pByte c ltr fir sec ord opn num fig).1 = false) : (pByte c ltr fir sec ord opn num fig).2 = (ltr, fir, sec, ord, opn, num, fig) := by
  unfold pByte at hr ⊢
  by_cases c1 : c = 32
  · rw [if_pos c1] at hr; cases hr
  · rw [if_neg c1] at hr ⊢
    by_cases c2 : opn = false
    · rw [if_pos c2] at hr ⊢
      unfold pOpen at hr ⊢
      split at hr
      · rename_i h; rw [if_pos h]
      · cases hr
    · rw [if_neg c2] at hr ⊢
      by_cases c3 : c = 59
      · rw [if_pos c3] at hr ⊢
        unfold pClose at hr ⊢
        split at hr
        · rename_i h; rw [if_pos h]
        · cases hr
      · rw [if_neg c3] at hr ⊢
        by_cases c4 : 48 ≤ c ∧ c ≤ 57
        · rw [if_pos c4] at hr ⊢
          exact pFig_no hr
        · rw [if_neg c4]
def pByteS (c : Int) (S : PS) : Bool × PS := pByte c S.1 S.2.1 S.2.2.1 S.2.2.2.1 S.2.2.2.2.1 S.2.2.2.2.2.1 S.2.2.2.2.2.2
def pSt (byt : Int → Int) (S : PS) : Nat → PS
  | 0 => S
  | n + 1 => (pByteS (byt n) (pSt byt S n)).2
def pF (byt : Int → Int) (S : PS) : Nat → Int
  | 0 => -1
  | n + 1 => if pF byt S n ≠ -1 then pF byt S n else if (pByteS (byt n) (pSt byt S n)).1 then -1 else n
theorem pF_s (byt : Int → Int) (S : PS) (n : Nat) (h : pF byt S n = -1) : pF byt S (n + 1) = if (pByteS (byt n) (pSt byt S n)).1 then -1 else (n : Int) := by
  show (if pF byt S n ≠ -1 then _ else _) = _
  rw [if_neg (by omega)]
theorem pF_stay (byt : Int → Int) (S : PS) (n : Nat) (h : pF byt S n ≠ -1) : ∀ k : Nat, pF byt S (n + k) = pF byt S n
  | 0 => rfl
  | k + 1 => by
    have := pF_stay byt S n h k
    show (if pF byt S (n + k) ≠ -1 then pF byt S (n + k) else _) = _
    rw [this, if_pos h]
/-- the fault (NONE: none) of a text of that many bytes -/
def xFault (byt : Int → Int) (len : Int) (S : PS) : Int := if pF byt S len.toNat ≠ -1 then pF byt S len.toNat else if (pSt byt S len.toNat).2.2.2.2.1 = true ∨ (pSt byt S len.toNat).2.2.2.1 = 0 then len else -1
theorem rd_fault {byt : Int → Int} {S : PS} {n : Nat} {len : Int} (hF : pF byt S n = -1) (hno : (pByteS (byt n) (pSt byt S n)).1 = false) (hn : (n : Int) < len) : xFault byt len S = n := by
  have e1 : pF byt S (n + 1) = n := by rw [pF_s _ _ _ hF, hno]; rfl
  have e2 : pF byt S len.toNat = n := by
    have := pF_stay byt S (n + 1) (by omega) (len.toNat - (n + 1))
    rw [show n + 1 + (len.toNat - (n + 1)) = len.toNat by omega] at this
    rw [this, e1]
  unfold xFault
  rw [e2, if_pos (by omega)]
theorem rd_end {byt : Int → Int} {S : PS} {n : Nat} {len : Int} (hF : pF byt S n = -1) (hn : (n : Int) = len) : xFault byt len S = if (pSt byt S n).2.2.2.2.1 = true ∨ (pSt byt S n).2.2.2.1 = 0 then len else -1 := by
  have e : len.toNat = n := by omega
  unfold xFault
  rw [e, if_neg (by omega)]
