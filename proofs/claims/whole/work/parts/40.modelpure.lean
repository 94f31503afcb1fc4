/-! the reference's figures: one row -/
def mI (now : Int → Int) : Int → Int := fun t => now (1 + t)
def mT (now : Int → Int) : Int → Int := fun v => now (13 + v)
def mP (now : Int → Int) : Int → Int := fun t => now (16 + t)
def FM (now : Int → Int) : Prop := FI (mI now) (mT now) (mP now) (now 0) (now 28) (now 29) (now 30)
theorem FM.q {now : Int → Int} (h : FM now) : 0 ≤ now 0 ∧ now 0 ≤ 12 := FI.q h
theorem FM.ind {now : Int → Int} (h : FM now) {t : Int} (h0 : 0 ≤ t) (h1 : t < 12) : 0 ≤ now (1 + t) ∧ now (1 + t) ≤ 99 ∧ (t < now 0 → 1 ≤ now (1 + t)) := FI.ind h h0 h1
theorem FM.tot {now : Int → Int} (h : FM now) {v : Int} (h0 : 0 ≤ v) (h1 : v < 3) : -1 ≤ now (13 + v) ∧ now (13 + v) ≤ 999 ∧ (now (13 + v) ≠ -1 → 4 * v + 4 ≤ now 0) := FI.tot h h0 h1
theorem FM.pri {now : Int → Int} (h : FM now) {t : Int} (h0 : 0 ≤ t) (h1 : t < 12) : now (16 + t) = -1 ∨ 1 ≤ now (16 + t) ∧ now (16 + t) ≤ 115 := FI.pri h h0 h1
theorem FM.fr {now : Int → Int} (h : FM now) : 0 ≤ now 28 ∧ now 28 < 4096 := FI.fr h
theorem FM.li {now : Int → Int} (h : FM now) : -1 ≤ now 29 ∧ now 29 ≤ 24 := FI.li h
theorem FM.sh {now : Int → Int} (h : FM now) : now 30 = 0 ∨ now 30 = 1 := FI.sh h
/-- a row brought to another -/
def cpR (dst : Int → Int) (j : Int) (src : Int → Int) (i : Int) : Int → Int := fillR dst j 31 (fun k => src (i + (k - j)))
def xOn (x : Int) : Nat → Int
  | 0 => 0
  | n + 1 => xOn x n + bAnd (bShr x n) 1
theorem xOn_s (x : Int) (n : Nat) : xOn x (n + 1) = xOn x n + bAnd (bShr x n) 1 := rfl
def mAdds (i : Int) (now : Int → Int) : Int → Int := if 1 ≤ i ∧ i ≤ 99 then (if now 0 = 12 then now else up (up now (1 + now 0) i) 0 (now 0 + 1)) else now
def mRe (t i : Int) (now : Int → Int) : Int → Int := if (0 ≤ t ∧ t ≤ now 0 - 1) ∧ 1 ≤ i ∧ i ≤ 99 then up now (1 + t) i else now
def mTl (v w : Int) (now : Int → Int) : Int → Int := if (0 ≤ v ∧ v ≤ 2) ∧ 0 ≤ w ∧ w ≤ 999 then (if now 0 < 4 * v + 4 then now else up now (13 + v) w) else now
def mUn (v : Int) (now : Int → Int) : Int → Int := if 0 ≤ v ∧ v ≤ 2 then up now (13 + v) (-1) else now
def mIcR (t on : Int) (now : Int → Int) : Int := if (0 ≤ t ∧ t ≤ now 0 - 1) ∧ 0 ≤ on ∧ on ≤ 1 then (if now (16 + t) = -1 then -3 else xOn (xIcF (now 28) t on) 12) else -2
def mIc (t on : Int) (now : Int → Int) : Int → Int := if (0 ≤ t ∧ t ≤ now 0 - 1) ∧ 0 ≤ on ∧ on ≤ 1 then (if now (16 + t) = -1 then now else up now 28 (xIcF (now 28) t on)) else now
def mBo (v : Int) (now : Int → Int) : Int → Int := if -1 ≤ v ∧ v ≤ 24 then up now 29 v else now
def mSh (v : Int) (now : Int → Int) : Int → Int := if 0 ≤ v ∧ v ≤ 1 then up now 30 v else now
/-- what was done leaves a state -/
def mPast (pst asd : Int → Int) (ms w : Int) : Int → Int := if w ≤ -2 then pst else if ms = 5 then cpR (fillR pst 0 124 (fun k => pst (k + 31))) 124 asd 0 else cpR pst (31 * ms) asd 0
def mSts (ms w : Int) : Int := if w ≤ -2 then ms else if ms = 5 then 5 else ms + 1
def mRf (mrf : Int → Int) (w : Int) : Int → Int := if w ≤ -2 then rfU mrf w else mrf
theorem mFin5 {pst asd p1 mrf : Int → Int} {ms k w : Int} (h5 : ms = 5) (hw : ¬ w ≤ -2) (hk : k = 124) (hp : p1 = fillR pst 0 k (fun k => pst (k + 31))) : (mrf, cpR p1 (31 * (ms - 1)) asd 0, ms - 1 + 1) = (mRf mrf w, mPast pst asd ms w, mSts ms w) := by
  subst h5 hk hp
  unfold mRf mPast mSts
  simp only [if_neg hw, if_true]
  rfl
theorem xOn_bd (x : Int) : ∀ n : Nat, 0 ≤ xOn x n ∧ xOn x n ≤ n
  | 0 => by show (0 : Int) ≤ 0 ∧ (0 : Int) ≤ 0; omega
  | n + 1 => by
    have h := xOn_bd x n
    have h1 := bAnd1 (bShr x n)
    rw [xOn_s]
    omega
theorem xOnes_bd (pri : Int → Int) (q : Int) (h0 : 0 ≤ q) : 0 ≤ xOnes pri q ∧ xOnes pri q ≤ q := by
  have h := sumI_bd (f := pr1 pri) (a := 0) (lo := 0) (hi := 1) (n := q.toNat) (fun k _ _ => by unfold pr1; split <;> omega)
  unfold xOnes
  omega
def mBkN (now pst : Int → Int) (ms : Int) : Int → Int := if ms = 0 then now else cpR now 0 pst (31 * (ms - 1))
