/-! the reference's tables: what they hold -/
theorem pl_bd {t d s : Int} (h0 : 0 ≤ t ∧ t < 12) (hd : -8 ≤ d ∧ d ≤ 8) (hs : -32 ≤ s ∧ s ≤ 32) : 0 ≤ pl t d s ∧ pl t d s < 13260 := by
  unfold pl
  omega
theorem pl_inj {t d s t2 d2 s2 : Int} (hd : -8 ≤ d ∧ d ≤ 8) (hs : -32 ≤ s ∧ s ≤ 32) (hd2 : -8 ≤ d2 ∧ d2 ≤ 8) (hs2 : -32 ≤ s2 ∧ s2 ≤ 32) (h : pl t d s = pl t2 d2 s2) : t = t2 ∧ d = d2 ∧ s = s2 := by
  unfold pl at h
  omega
theorem rF1_bd {ok : Bool} {v w : Int} {S : I2P} (hv : 0 ≤ v) (hw : 0 ≤ w) (hS : (0 ≤ S.1 ∧ S.1 ≤ 1000000000000000) ∧ 0 ≤ S.2 ∧ S.2 ≤ 9999) : (0 ≤ (rF1 ok v w S).1 ∧ (rF1 ok v w S).1 ≤ 1000000000000000) ∧ 0 ≤ (rF1 ok v w S).2 ∧ (rF1 ok v w S).2 ≤ 9999 := by
  unfold rF1 cap9
  (repeat' split) <;> ((try dsimp only); omega)
theorem rFo_bd {ok : Int → Bool} {v w : Int → Int} (hv : ∀ e : Int, -8 ≤ e → e ≤ 8 → 0 ≤ v e ∧ 0 ≤ w e) : ∀ n : Nat, n ≤ 17 → (0 ≤ (rFo ok v w n).1 ∧ (rFo ok v w n).1 ≤ 1000000000000000) ∧ 0 ≤ (rFo ok v w n).2 ∧ (rFo ok v w n).2 ≤ 9999
  | 0, _ => by unfold rFo; dsimp only; omega
  | n + 1, hn => by
    rw [rFo_s]
    have h := hv (-8 + n) (by omega) (by omega)
    exact rF1_bd h.1 h.2 (rFo_bd hv n (by omega))
theorem rR_bd {ind : Int → Int} {sh : Int} {low high : Int → Int} {bnd : Int → Bool} {gap : Int → Int} (hl : ∀ t : Int, 0 ≤ t → t < 12 → -8 ≤ low t ∧ high t ≤ 8) : ∀ (k : Nat) (t d s : Int), 0 ≤ t → t + k < 12 → (0 ≤ (rR ind sh low high bnd gap k t d s).1 ∧ (rR ind sh low high bnd gap k t d s).1 ≤ 1000000000000000) ∧ 0 ≤ (rR ind sh low high bnd gap k t d s).2 ∧ (rR ind sh low high bnd gap k t d s).2 ≤ 9999
  | 0, t, d, s, h0, h1 => by
    unfold rR
    split
    · rename_i hg
      have h2 := (of_decide_eq_true hg).1
      have h3 := hl t h0 (by omega)
      have h4 := sq_nn d
      have h5 := sq_bd (B := 8) (a := d) (by omega) (by omega)
      dsimp only
      omega
    · dsimp only
      omega
  | k + 1, t, d, s, h0, h1 => by
    unfold rR
    split
    · refine rFo_bd (fun e _ _ => ?_) 17 (Nat.le_refl _)
      have ih := rR_bd hl k (t + 1) e (rNu bnd (t + 1) s e) (by omega) (by omega) (ind := ind) (sh := sh) (bnd := bnd) (gap := gap)
      have h4 := sq_nn d
      have h5 := sq_nn (stP ind sh (t + 1) d e)
      try dsimp only
      exact ⟨by omega, ih.2.1⟩
    · dsimp only
      omega
/-- the search over the reference's row -/
def zR (now : Int → Int) (lim un : Int) (k : Nat) (t d s : Int) : I2P := xR (mI now) (mT now) (mP now) (now 0) (now 28) lim un (now 30) k t d s
def zN (now : Int → Int) (un u s e : Int) : Int := rNu (xB (mT now) un) u s e
def zG (now : Int → Int) (lim un t d s : Int) : Bool := rGd (loQ (mI now) (mP now) (now 28) lim) (hiQ (mI now) (mP now) (now 28) lim) (xB (mT now) un) (xGp (mI now) (mT now) (now 0) un) t d s
def zP (now : Int → Int) (t d e : Int) : Int := stP (mI now) (now 30) (t + 1) d e
def zF (now : Int → Int) (lim un : Int) (k : Nat) (t d s : Int) (n : Nat) : I2P := rFo (fun e => rOkk (zR now lim un k (t + 1) e (zN now un (t + 1) s e)) (zN now un (t + 1) s e)) (fun e => (zR now lim un k (t + 1) e (zN now un (t + 1) s e)).1 + d * d + 1024 * (zP now t d e * zP now t d e)) (fun e => (zR now lim un k (t + 1) e (zN now un (t + 1) s e)).2) n
def zM (now : Int → Int) (lim un : Int) : Bool := xMt (mI now) (mT now) (mP now) (now 0) (now 28) lim un
section ZP
variable {now : Int → Int} {lim un : Int}
theorem zR_0 (t d s : Int) : zR now lim un 0 t d s = if zG now lim un t d s = true then (d * d, 1) else (1000000000000000, 0) := rfl
theorem zR_s (k : Nat) (t d s : Int) : zR now lim un (k + 1) t d s = if zG now lim un t d s = true then zF now lim un k t d s 17 else (1000000000000000, 0) := rfl
theorem zF_s (k : Nat) (t d s : Int) (n : Nat) : zF now lim un k t d s (n + 1) = rF1 (rOkk (zR now lim un k (t + 1) (-8 + n) (zN now un (t + 1) s (-8 + n))) (zN now un (t + 1) s (-8 + n))) ((zR now lim un k (t + 1) (-8 + n) (zN now un (t + 1) s (-8 + n))).1 + d * d + 1024 * (zP now t d (-8 + n) * zP now t d (-8 + n))) (zR now lim un k (t + 1) (-8 + n) (zN now un (t + 1) s (-8 + n))).2 (zF now lim un k t d s n) := rfl
theorem zR_bd (H_M : FM now) (hlim : -1 ≤ lim ∧ lim ≤ 24) (k : Nat) (t d s : Int) (h0 : 0 ≤ t) (h1 : t + k < 12) : (0 ≤ (zR now lim un k t d s).1 ∧ (zR now lim un k t d s).1 ≤ 1000000000000000) ∧ 0 ≤ (zR now lim un k t d s).2 ∧ (zR now lim un k t d s).2 ≤ 9999 := by
  unfold zR xR
  refine rR_bd (fun u u0 u1 => ?_) k t d s h0 h1
  have := loQ_bd (lim := lim) (t := u) H_M hlim u0 u1
  omega
theorem zF_bd (H_M : FM now) (hlim : -1 ≤ lim ∧ lim ≤ 24) (k : Nat) (t d s : Int) (h0 : 0 ≤ t) (h1 : t + 1 + k < 12) (n : Nat) (hn : n ≤ 17) : (0 ≤ (zF now lim un k t d s n).1 ∧ (zF now lim un k t d s n).1 ≤ 1000000000000000) ∧ 0 ≤ (zF now lim un k t d s n).2 ∧ (zF now lim un k t d s n).2 ≤ 9999 := by
  unfold zF
  refine rFo_bd (fun e _ _ => ?_) n hn
  have ih := zR_bd (un := un) H_M hlim k (t + 1) e (zN now un (t + 1) s e) (by omega) (by omega)
  have h4 := sq_nn d
  have h5 := sq_nn (zP now t d e)
  try dsimp only
  exact ⟨by omega, ih.2.1⟩
theorem zP_bd (H_M : FM now) {t d e : Int} (h0 : 0 ≤ t ∧ t + 1 < 12) (hd : -8 ≤ d ∧ d ≤ 8) (he : -8 ≤ e ∧ e ≤ 8) : 0 ≤ zP now t d e * zP now t d e ∧ zP now t d e * zP now t d e ≤ 2509056 := by
  have h := stP_bd (sh := now 30) (u := t + 1) (ad := d) (d := e) (fun t a b => ⟨(FI.ind H_M a b).1, (FI.ind H_M a b).2.1⟩) ⟨by omega, h0.2⟩ hd he
  exact ⟨sq_nn _, sq_bd (B := 1584) h.1 h.2⟩
/-- the row behind is laid -/
def TRow (now : Int → Int) (lim un : Int) (best wys : Int → Int) (u : Int) : Prop := u < now 0 → ∀ e s : Int, -8 ≤ e → e ≤ 8 → -32 ≤ s → s ≤ 32 → (xB (mT now) un (u / 4) = true ∨ s = 0) → best (pl u e s) = (zR now lim un (now 0 - 1 - u).toNat u e s).1 ∧ wys (pl u e s) = (zR now lim un (now 0 - 1 - u).toNat u e s).2
/-- what is laid: (t, d, sum) ahead of those in their order -/
def TAll (now : Int → Int) (lim un : Int) (best wys : Int → Int) (T Dd Ss : Int) : Prop := ∀ t d s : Int, 0 ≤ t → t < now 0 → -8 ≤ d → d ≤ 8 → -32 ≤ s → s ≤ 32 → (xB (mT now) un (t / 4) = true ∨ s = 0) → (T < t ∨ (t = T ∧ (d < Dd ∨ (d = Dd ∧ s < Ss)))) → best (pl t d s) = (zR now lim un (now 0 - 1 - t).toNat t d s).1 ∧ wys (pl t d s) = (zR now lim un (now 0 - 1 - t).toNat t d s).2
theorem TAll_row {best wys : Int → Int} {T Dd Ss : Int} (h : TAll now lim un best wys T Dd Ss) {u : Int} (h0 : 0 ≤ u) (h1 : T < u) : TRow now lim un best wys u := fun hu e s e0 e1 s0 s1 hb => h u e s h0 hu e0 e1 s0 s1 hb (Or.inl h1)
theorem TAll_lay {best wys : Int → Int} {T Dd Ss : Int} (h : TAll now lim un best wys T Dd Ss) (h0 : 0 ≤ T) (hd : -8 ≤ Dd ∧ Dd ≤ 8) (hs : -32 ≤ Ss ∧ Ss ≤ 32) : TAll now lim un (up best (pl T Dd Ss) (zR now lim un (now 0 - 1 - T).toNat T Dd Ss).1) (up wys (pl T Dd Ss) (zR now lim un (now 0 - 1 - T).toNat T Dd Ss).2) T Dd (Ss + 1) := by
  intro t d s t0 t1 d0 d1 s0 s1 hb hdone
  by_cases e : pl t d s = pl T Dd Ss
  · obtain ⟨rfl, rfl, rfl⟩ := pl_inj ⟨d0, d1⟩ ⟨s0, s1⟩ hd hs e
    rw [up_same, up_same]
    exact ⟨rfl, rfl⟩
  · rw [up_ne _ _ e, up_ne _ _ e]
    refine h t d s t0 t1 d0 d1 s0 s1 hb ?_
    rcases hdone with g | ⟨rfl, g | ⟨rfl, g⟩⟩
    · exact Or.inl g
    · exact Or.inr ⟨rfl, Or.inl g⟩
    · by_cases hl : s < Ss
      · exact Or.inr ⟨rfl, Or.inr ⟨rfl, hl⟩⟩
      · have : s = Ss := by omega
        exact absurd (by rw [this]) e
theorem TAll_skip {best wys : Int → Int} {T Dd Ss : Int} (h : TAll now lim un best wys T Dd Ss) (hb : xB (mT now) un (T / 4) = false) (hs : Ss ≠ 0) : TAll now lim un best wys T Dd (Ss + 1) := by
  intro t d s t0 t1 d0 d1 s0 s1 hb2 hdone
  refine h t d s t0 t1 d0 d1 s0 s1 hb2 ?_
  rcases hdone with g | ⟨rfl, g | ⟨rfl, g⟩⟩
  · exact Or.inl g
  · exact Or.inr ⟨rfl, Or.inl g⟩
  · by_cases hl : s < Ss
    · exact Or.inr ⟨rfl, Or.inr ⟨rfl, hl⟩⟩
    · have : s = Ss := by omega
      rcases hb2 with q | q
      · rw [hb] at q; cases q
      · omega
theorem TAll_nextD {best wys : Int → Int} {T Dd Ss : Int} (h : TAll now lim un best wys T Dd Ss) (hs : 32 < Ss) : TAll now lim un best wys T (Dd + 1) (-32) := by
  intro t d s t0 t1 d0 d1 s0 s1 hb2 hdone
  refine h t d s t0 t1 d0 d1 s0 s1 hb2 ?_
  rcases hdone with g | ⟨rfl, g | ⟨rfl, g⟩⟩
  · exact Or.inl g
  · by_cases hl : d < Dd
    · exact Or.inr ⟨rfl, Or.inl hl⟩
    · have : d = Dd := by omega
      exact Or.inr ⟨rfl, Or.inr ⟨this, by omega⟩⟩
  · omega
theorem TAll_nextT {best wys : Int → Int} {T Dd Ss : Int} (h : TAll now lim un best wys T Dd Ss) (hs : 8 < Dd) : TAll now lim un best wys (T - 1) (-8) (-32) := by
  intro t d s t0 t1 d0 d1 s0 s1 hb2 hdone
  refine h t d s t0 t1 d0 d1 s0 s1 hb2 ?_
  rcases hdone with g | ⟨rfl, g | ⟨rfl, g⟩⟩
  · by_cases hl : T < t
    · exact Or.inl hl
    · exact Or.inr ⟨by omega, Or.inl (by omega)⟩
  · omega
  · omega
theorem TAll_0 {best wys : Int → Int} : TAll now lim un best wys (now 0 - 1) (-8) (-32) := by
  intro t d s t0 t1 d0 d1 s0 s1 hb2 hdone
  rcases hdone with g | ⟨rfl, g | ⟨rfl, g⟩⟩ <;> omega
theorem zN_in {u s e : Int} (_h : True) : xB (mT now) un (u / 4) = true ∨ zN now un u s e = 0 := by
  unfold zN rNu
  by_cases h : xB (mT now) un (u / 4) = true
  · exact Or.inl h
  · rw [if_neg h]
    exact Or.inr rfl
/-- a spot behind, read -/
theorem TRow_at {best wys : Int → Int} {u s e : Int} (h : TRow now lim un best wys u) (hu : u < now 0) (he : -8 ≤ e ∧ e ≤ 8) (hn : -32 ≤ zN now un u s e ∧ zN now un u s e ≤ 32) : best (pl u e (zN now un u s e)) = (zR now lim un (now 0 - 1 - u).toNat u e (zN now un u s e)).1 ∧ wys (pl u e (zN now un u s e)) = (zR now lim un (now 0 - 1 - u).toNat u e (zN now un u s e)).2 := h hu e _ he.1 he.2 hn.1 hn.2 (zN_in trivial)
/-- a fold's step, by what was found -/
theorem rF1_no {R : I2P} {n v w : Int} {S : I2P} (h : ¬ (-32 ≤ n ∧ n ≤ 32 ∧ R.1 < 1000000000000000)) : rF1 (rOkk R n) v w S = S := by
  unfold rOkk
  rw [decide_eq_false h]
  rfl
theorem rF1_yes {R : I2P} {n v w : Int} {S : I2P} (h : -32 ≤ n ∧ n ≤ 32 ∧ R.1 < 1000000000000000) : rF1 (rOkk R n) v w S = if v < S.1 then (v, cap9 (0 + w)) else if v = S.1 then (v, cap9 (S.2 + w)) else S := by
  unfold rOkk
  rw [decide_eq_true h]
  rfl
/-- the last fold and what comes of it -/
def zT (now : Int → Int) (lim un : Int) (n : Nat) : I3 := if now 0 = 0 then (0, 1, -1) else rT (fun e => (zR now lim un (now 0 - 1).toNat 0 e (zN now un 0 0 e)).1) (fun e => (zR now lim un (now 0 - 1).toNat 0 e (zN now un 0 0 e)).2) n
def zD (now : Int → Int) (lim un : Int) (n : Nat) : Int := (xRd (mI now) (mT now) (mP now) (now 0) (now 28) lim un (now 30) n).1
def zS (now : Int → Int) (lim un : Int) (n : Nat) : Int := xSm (mI now) (mT now) (mP now) (now 0) (now 28) lim un (now 30) n
def zW (now : Int → Int) (lim un : Int) : Int := (xCh (mI now) (mT now) (mP now) (now 0) (now 28) lim un (now 30) (now 0).toNat 0 0 0).2.1
def zB (now : Int → Int) (lim un : Int) : Int := xBest (mI now) (mT now) (mP now) (now 0) (now 28) lim un (now 30)
theorem zT_end (H_M : FM now) (hlim : -1 ≤ lim ∧ lim ≤ 24) {b w f : Int} (h : (b, w, f) = zT now lim un 17) : (zM now lim un = true → b = zB now lim un ∧ w = zW now lim un ∧ b < 1000000000000000 ∧ (0 < now 0 → f = zD now lim un 1)) ∧ (zM now lim un = false → b = 1000000000000000) := by
  have hq := H_M.q
  unfold zT at h
  constructor
  · intro hm
    have hb := xBest_bd (sh := now 30) H_M hlim hm
    by_cases h0 : now 0 = 0
    · rw [if_pos h0] at h
      injection h with h1 h2
      injection h2 with h2 h3
      have e : xCh (mI now) (mT now) (mP now) (now 0) (now 28) lim un (now 30) (now 0).toNat 0 0 0 = (0, 1, 0) := by
        rw [h0]; rfl
      refine ⟨?_, ?_, by omega, fun hc => by omega⟩
      · unfold zB xBest; rw [e, h1]
      · unfold zW; rw [e, h2]
    · rw [if_neg h0] at h
      have e := xFirst H_M hlim hm (by omega)
      have h2 : (b, w, f) = xCh (mI now) (mT now) (mP now) (now 0) (now 28) lim un (now 30) (now 0).toNat 0 0 0 := h.trans e
      have h3 : b = zB now lim un := by unfold zB xBest; rw [← h2]
      refine ⟨h3, by unfold zW; rw [← h2], by unfold zB at h3; omega, fun _ => ?_⟩
      show f = (xCh (mI now) (mT now) (mP now) (now 0) (now 28) lim un (now 30) (now 0 - 0).toNat 0 0 0).2.2
      rw [show now 0 - 0 = now 0 by omega, ← h2]
  · intro hm
    obtain ⟨h0, hd⟩ := xDead_f (sh := now 30) H_M hm
    rw [if_neg (by omega), rT_none (fun e _ _ => ?_)] at h
    · injection h
    · have h9 := hd e 0
      rw [show now 0 - 1 - 0 = now 0 - 1 by omega] at h9
      have h8 : zR now lim un (now 0 - 1).toNat 0 e (zN now un 0 0 e) = (1000000000000000, 0) := h9
      rw [h8]
/-- at a quarter of the row that is traced -/
theorem zTr (H_M : FM now) (hlim : -1 ≤ lim ∧ lim ≤ 24) (hm : zM now lim un = true) {n : Nat} (hn : (n : Int) < now 0) : xOk (mI now) (mT now) (mP now) (now 0) (now 28) lim un n (zD now lim un (n + 1)) (zS now lim un (n + 1)) := (xTr (sh := now 30) H_M hlim hm n hn).1
theorem zD_bd (H_M : FM now) (hlim : -1 ≤ lim ∧ lim ≤ 24) (hm : zM now lim un = true) {n : Nat} (hn : (n : Int) ≤ now 0) : -8 ≤ zD now lim un n ∧ zD now lim un n ≤ 8 := (xRd_ok (sh := now 30) H_M hlim hm n hn).2
theorem zS_s (n : Nat) : zS now lim un (n + 1) = zN now un n (zS now lim un n) (zD now lim un (n + 1)) := rfl
theorem zS_bd (H_M : FM now) (hlim : -1 ≤ lim ∧ lim ≤ 24) (hm : zM now lim un = true) {n : Nat} (hn : (n : Int) < now 0) : -32 ≤ zS now lim un (n + 1) ∧ zS now lim un (n + 1) ≤ 32 := by
  have h := (zTr H_M hlim hm hn).2.2.1
  omega
theorem zNb (H_M : FM now) (hlim : -1 ≤ lim ∧ lim ≤ 24) (hm : zM now lim un = true) {n : Nat} {t d s E : Int} (ht : t = n) (hn : t + 1 < now 0) (hd : d = zD now lim un (n + 1)) (hs : s = zS now lim un (n + 1)) (hE : E = zD now lim un (n + 2)) :
    (-8 ≤ E ∧ E ≤ 8) ∧ (-32 ≤ zN now un (t + 1) s E ∧ zN now un (t + 1) s E ≤ 32) ∧ ((zR now lim un (now 0 - 1 - (t + 1)).toNat (t + 1) E (zN now un (t + 1) s E)).1 < 1000000000000000 ∧ (zR now lim un (now 0 - 1 - (t + 1)).toNat (t + 1) E (zN now un (t + 1) s E)).1 + d * d + 1024 * (zP now t d E * zP now t d E) = (zR now lim un (now 0 - 1 - t).toNat t d s).1) ∧ ∀ e : Int, -8 ≤ e → e < E → (zR now lim un (now 0 - 1 - (t + 1)).toNat (t + 1) e (zN now un (t + 1) s e)).1 < 1000000000000000 → (zR now lim un (now 0 - 1 - (t + 1)).toNat (t + 1) e (zN now un (t + 1) s e)).1 + d * d + 1024 * (zP now t d e * zP now t d e) ≠ (zR now lim un (now 0 - 1 - t).toNat t d s).1 := by
  have hq := H_M.q
  subst ht hd hs
  have H := BGp (sh := now 30) (un := un) H_M hlim hm
  obtain ⟨i1, i2⟩ := xTr (sh := now 30) H_M hlim hm n (by omega)
  have hb := rNb H_M H xHL (xBq H_M) (k := (now 0 - 1 - ((n : Int) + 1)).toNat) (t := n) (E := E) (by omega) (by omega) i1 (by
    rw [hE, ← i2]
    unfold zD
    rw [xRd_s (n + 1), show (now 0 - ((n + 1 : Nat) : Int)).toNat = (now 0 - 1 - ((n : Int) + 1)).toNat + 1 by omega]
    rfl)
  obtain ⟨b1, b2, b3, b4, b5, b6⟩ := hb
  rw [show (now 0 - 1 - ((n : Int) + 1)).toNat + 1 = (now 0 - 1 - (n : Int)).toNat by omega] at b5 b6
  exact ⟨b1, b4, b5, b6⟩
end ZP
