/-! the static row, shifts of longs, the copy of a row, the bits' own -/
def spB (i : Int) : Int := if i = 0 then 0 else if i = 1 then 289 else if i = 2 then 850 else 1139
def bUshr (a b : Int) : Int := ((iI a).toUInt32 >>> ((iI b).toUInt32 &&& Int32.toUInt32 31)).toInt32.toInt
theorem lI_lN {a : Int} (h : 0 ≤ a) : lI a = lN a.toNat := by
  obtain ⟨n, rfl⟩ := Int.eq_ofNat_of_zero_le h
  exact Int64.ofInt_eq_ofNat
theorem ia_ext {f g : Int → Int} {n : Nat} {cA : ClassId} (h : ∀ j : Int, 0 ≤ j → j < n → f j = g j) : vp_cell cA (n, .inl (ia f)) = vp_cell cA (n, .inl (ia g)) := by
  rw [vp_cell_i, vp_cell_i]
  have e : (Array.ofFn (n := n) fun j => (Value.int (ia f j.val))) = Array.ofFn (n := n) fun j => Value.int (ia g j.val) := by
    congr 1
    funext j
    have := h (j.val : Int) (by omega) (by have := j.isLt; omega)
    show Value.int (iI (f _)) = Value.int (iI (g _))
    rw [this]
  unfold arrV
  rw [e]
section XR2
variable {p : Program} {l : Launch} {e : Env} {R : Room} {s : State} {m : MethodId} {args : Array Value} {below : List Frame} {meth : Method} {c : Code} {H : Heap} {locs : List Loc} {cells slots : Nat} {Q : State → Prop} {pc : Nat} {ls : Array Slot} {rest : List Value} {cc : ByteArray} {nL : Nat} {own : String} {D : va_G} {y : CY} {z : Nat} {A : Nat → Prop} {W0 : va_W}
theorem xr_static (E : XE p s m args meth c cc nL RX0 D y z A) (hX : XW D A s.heap W0 H locs) (hd : decode cc pc = .ok (.getstatic 134, 3)) (k : W p l e R s m args below meth c H locs cells slots Q (F0 m (pc + 3) ls (.ref z :: rest))) : W p l e R s m args below meth c H locs cells slots Q (F0 m pc ls rest) :=
  va_getsN E.1 E.2.1 E.2.2.2.2.2.2.2.1.1 hX.2.2 E.2.2.2.1 (va_Nw.use rfl E.2.2.2.2.2.2.1.2.2.2.2.2.2.2.2) (fun _ h => h) hd k
theorem xr_spots (E : XE p s m args meth c cc nL own D y z A) (hX : XW D A s.heap W0 H locs) {i : Int} (h0 : 0 ≤ i) (h1 : i < 4) (hd : decode cc pc = .ok (.iaload, 1)) (k : W p l e R s m args below meth c H locs cells slots Q (F0 m (pc + 1) ls (.int (iI (spB i)) :: rest))) : W p l e R s m args below meth c H locs cells slots Q (F0 m pc ls (.int (iI i) :: .ref z :: rest)) := by
  refine va_ti E.1 E.2.1 E.2.2.2.2.2.2.2.1.2 hX.2.2 (iI_in (n := 4) h0 (by omega) (by decide)) (v := .int (iI (spB i))) ?_ hd k
  have e := iI_cl (n := 4) h0 (by omega) (by decide)
  have hk : (iI i).toNatClampNeg = i.toNat := by omega
  rw [hk]
  rcases (show i = 0 ∨ i = 1 ∨ i = 2 ∨ i = 3 by omega) with rfl | rfl | rfl | rfl <;> rfl
theorem xr_lshl (E : XE p s m args meth c cc nL own D y z A) {a : Int} (hd : decode cc pc = .ok (.lshl, 1)) (h0 : 0 ≤ a) (k : W p l e R s m args below meth c H locs cells slots Q (F0 m (pc + 1) ls (.long (lI (a * 1024)) :: rest))) : W p l e R s m args below meth c H locs cells slots Q (F0 m pc ls (.int (iI 10) :: .long (lI a) :: rest)) := by
  refine lv_lshl E.1 E.2.1 (v := lI (a * 1024)) hd ?_ k
  have e : ((iI 10).toInt64 &&& 63) = 10 := by decide
  rw [e, ← Int64.toBitVec_inj]
  show (lI a).toBitVec <<< _ = _
  rw [← lI_mul]
  show _ = (lI a).toBitVec * (lI 1024).toBitVec
  have e2 : ((10 : Int64).toBitVec.smod 64) = 10#64 := by decide
  have e3 : (lI 1024).toBitVec = BitVec.twoPow 64 10 := by decide
  rw [e3, BitVec.mul_twoPow_eq_shiftLeft]
  rfl
theorem xr_lshr (E : XE p s m args meth c cc nL own D y z A) {a : Int} (hd : decode cc pc = .ok (.lshr, 1)) (h0 : 0 ≤ a) (h1 : a < 4611686018427387904) (k : W p l e R s m args below meth c H locs cells slots Q (F0 m (pc + 1) ls (.long (lI (a / 1024)) :: rest))) : W p l e R s m args below meth c H locs cells slots Q (F0 m pc ls (.int (iI 10) :: .long (lI a) :: rest)) := by
  refine lv_lshr E.1 E.2.1 (v := lI (a / 1024)) hd ?_ k
  have e : ((iI 10).toInt64 &&& 63) = 10 := by decide
  rw [e, ← Int64.toInt_inj, lI_toInt ⟨by omega, by omega⟩]
  show ((lI a).toBitVec.sshiftRight' _).toInt = _
  have e2 : ((10 : Int64).toBitVec.smod 64) = 10#64 := by decide
  rw [e2]
  show ((lI a).toBitVec.sshiftRight 10).toInt = _
  rw [BitVec.toInt_sshiftRight]
  show (lI a).toInt >>> 10 = _
  rw [lI_toInt ⟨by omega, by omega⟩, Int.shiftRight_eq_div_pow]
  rfl
theorem xr_iushr (E : XE p s m args meth c cc nL own D y z A) {a b : Int} (hd : decode cc pc = .ok (.iushr, 1)) (k : W p l e R s m args below meth c H locs cells slots Q (F0 m (pc + 1) ls (.int (iI (bUshr a b)) :: rest))) : W p l e R s m args below meth c H locs cells slots Q (F0 m pc ls (.int (iI b) :: .int (iI a) :: rest)) := lv_iushr E.1 E.2.1 hd (iI_of _) k
theorem xr_ldcw (E : XE p s m args meth c cc nL own D y z A) {i : Nat} {v : Int32} {n : Int} (hw : Cond.constant own i v ∈ TW) (hd : decode cc pc = .ok (.ldc_w i, 3)) (hv : v = iI n) (k : W p l e R s m args below meth c H locs cells slots Q (F0 m (pc + 3) ls (.int (iI n) :: rest))) : W p l e R s m args below meth c H locs cells slots Q (F0 m pc ls rest) := lv_ldcw E.1 E.2.1 E.2.2.2.1 (E.2.2.2.2.1 _ hw) hd (by rw [hv]; exact k)
theorem xr_copy (E : XE p s m args meth c cc nL own D y z A) (hX : XW D A s.heap W0 H locs) {lv : List (Nat × Value)} (hl : lv_has ls nL lv) {i a0 a n : Nat} {f g : Int → Int} {W1 : va_W} {w : Int} (hml : Cond.methodLink own i arraycopyName ∈ TW) (q0 q1 : Nat) (ha0 : W0[q0]? = some (a0, .inl (y.1, n, .inl (ia f)))) (ha1 : W0[q1]? = some (a, .inl (y.1, n, .inl (ia g)))) (hw : w = n) (hn : n < 2147483648) (hW : W0.set q1 (a, .inl (y.1, n, .inl (ia f))) = W1) (hR : 1 ≤ R.frames ∧ (rest.map fun v => v.category).sum + (nativeFrameWords "java/lang/System" "arraycopy" 5 + 11) ≤ R.locals) (hd : decode cc pc = .ok (.invokestatic i, 3)) (kk : ∀ (H1 : Heap) (locs1 : List Loc), XW D A s.heap W1 H1 locs1 → W p l e R s m args below meth c H1 locs1 cells slots Q (F0 m (pc + 3) ls rest)) : W p l e R s m args below meth c H locs cells slots Q (F0 m pc ls (.int (iI w) :: .int (iI 0) :: .ref a :: .int (iI 0) :: .ref a0 :: rest)) := by
  subst hw
  have en : (iI (n : Int)).toNatClampNeg = n := by
    show (iI (n : Int)).toInt.toNat = n
    rw [iI_toInt ⟨by omega, by omega⟩]
    omega
  have e0 : (iI 0).toNatClampNeg = 0 := by decide
  refine va_copyi E.1 E.2.1 (E.2.2.1.trans hl.1.symm) E.2.2.2.1 (E.2.2.2.2.1 _ hml) (E.2.2.2.2.1 _ tna_ACP) (E.2.2.2.2.1 _ st_ACP) (E.2.2.2.2.1 _ in_J10) E.2.2.2.2.2.2.1.1 hX.1 hX.2.1 hX.2.2 q0 q1 0 0 ha0 ha1 rfl rfl rfl (by decide) (by decide) (by rw [Int32.lt_iff_toInt_lt, iI_toInt ⟨by omega, by omega⟩]; show ¬ (n : Int) < 0; omega) (by rw [en, e0]; omega) (by rw [en, e0]; omega) (fun j _ => rfl) hR.1 hR.2 hd ?_
  intro H1 locs1 h1 h2 h3
  rw [e0, en] at h1 h2
  have hX1 : XW D A s.heap (W0.set q1 (a, .inl (y.1, n, .inl (va_cpy (ia f) (ia g) 0 0 n)))) H1 locs1 := ⟨h1, h2, h3⟩
  refine kk H1 locs1 (xw_ext hX1 (fun k q hk => ?_))
  rw [← hW] at hk
  have hq1 : q1 < W0.length := (List.getElem?_eq_some_iff.mp ha1).1
  by_cases hkq : k = q1
  · subst hkq
    rw [List.getElem?_set_self hq1] at hk
    refine ⟨_, List.getElem?_set_self hq1, ?_, ?_⟩
    · rw [← Option.some.inj hk]
    · rw [← Option.some.inj hk]
      intro h
      show H1[a]? = some (vp_cell y.1 (n, .inl (ia f)))
      have h' : H1[a]? = some (vp_cell y.1 (n, .inl (va_cpy (ia f) (ia g) 0 0 n))) := h
      rw [h']
      congr 1
      rw [vp_cell_i, vp_cell_i]
      unfold arrV
      congr 2
      funext j
      have := j.isLt
      show Value.int (va_cpy (ia f) (ia g) 0 0 n j.val) = Value.int (ia f j.val)
      rw [pk_cpy_in (Nat.zero_le _) (by omega)]
      simp
  · rw [List.getElem?_set_ne (Ne.symm hkq)] at hk
    exact ⟨q, by rw [List.getElem?_set_ne (Ne.symm hkq)]; exact hk, rfl, fun h => h⟩
theorem xr_aald (E : XE p s m args meth c cc nL own D y z A) (hX : XW D A s.heap W0 H locs) {a n b : Nat} {f : Nat → Option Nat} {i : Int} (q0 : Nat) (ha : W0[q0]? = some (a, .inl (y.2.2.2, n, .inr (.inr (.inr (.inr f)))))) (h0 : 0 ≤ i) (h1 : i < n) (hn : n < 2147483648) (hf : f i.toNat = some b) (hd : decode cc pc = .ok (.aaload, 1)) (k : W p l e R s m args below meth c H locs cells slots Q (F0 m (pc + 1) ls (.ref b :: rest))) : W p l e R s m args below meth c H locs cells slots Q (F0 m pc ls (.int (iI i) :: .ref a :: rest)) := by
  refine va_aldq E.1 E.2.1 E.2.2.2.2.2.2.1.1 hX.1 q0 3 ha rfl (iI_in h0 h1 hn) hd ?_
  have e := iI_cl h0 h1 hn
  rw [show (iI i).toNatClampNeg = i.toNat by omega, hf]
  exact k
end XR2
