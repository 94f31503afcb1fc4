/-! ints and longs as integers; arrays as functions of integers -/
def iI (z : Int) : Int32 := Int32.ofInt z
def lI (z : Int) : Int64 := Int64.ofInt z
def bB (b : Bool) : Int32 := if b then 1 else 0
def ia (f : Int → Int) : Nat → Int32 := fun k => iI (f (k : Int))
def la (f : Int → Int) : Nat → Int64 := fun k => lI (f (k : Int))
def ba (f : Int → Bool) : Nat → Int32 := fun k => bB (f (k : Int))
def up {α : Type} (f : Int → α) (k : Int) (v : α) : Int → α := fun j => if j = k then v else f j
abbrev sm (z : Int) : Prop := -2147483648 ≤ z ∧ z < 2147483648
abbrev sl (z : Int) : Prop := -9223372036854775808 ≤ z ∧ z < 9223372036854775808
theorem up_same {α : Type} (f : Int → α) (k : Int) (v : α) : up f k v k = v := by simp [up]
theorem up_ne {α : Type} (f : Int → α) {k j : Int} (v : α) (h : j ≠ k) : up f k v j = f j := by simp [up, h]
theorem iI_toInt {z : Int} (h : sm z) : (iI z).toInt = z := Int32.toInt_ofInt_of_le h.1 h.2
theorem lI_toInt {z : Int} (h : sl z) : (lI z).toInt = z := Int64.toInt_ofInt_of_le h.1 h.2
theorem iI_of (x : Int32) : x = iI x.toInt := (Int32.ofInt_toInt x).symm
theorem iI_sm (x : Int32) : sm x.toInt := ⟨Int32.le_toInt x, Int32.toInt_lt x⟩
theorem iI_add (a b : Int) : iI a + iI b = iI (a + b) := (Int32.ofInt_add a b).symm
theorem iI_sub (a b : Int) : iI a - iI b = iI (a - b) := (Int32.ofInt_sub a b).symm
theorem iI_mul (a b : Int) : iI a * iI b = iI (a * b) := (Int32.ofInt_mul a b).symm
theorem iI_neg (a : Int) : -iI a = iI (-a) := (Int32.ofInt_neg a).symm
theorem lI_add (a b : Int) : lI a + lI b = lI (a + b) := (Int64.ofInt_add a b).symm
theorem lI_sub (a b : Int) : lI a - lI b = lI (a - b) := (Int64.ofInt_sub a b).symm
theorem lI_mul (a b : Int) : lI a * lI b = lI (a * b) := (Int64.ofInt_mul a b).symm
theorem iI_le {a b : Int} (ha : sm a) (hb : sm b) : iI a ≤ iI b ↔ a ≤ b := by rw [Int32.le_iff_toInt_le, iI_toInt ha, iI_toInt hb]
theorem iI_lt {a b : Int} (ha : sm a) (hb : sm b) : iI a < iI b ↔ a < b := by rw [Int32.lt_iff_toInt_lt, iI_toInt ha, iI_toInt hb]
theorem iI_eq {a b : Int} (ha : sm a) (hb : sm b) : iI a = iI b ↔ a = b := by rw [← Int32.toInt_inj, iI_toInt ha, iI_toInt hb]
theorem lI_le {a b : Int} (ha : sl a) (hb : sl b) : lI a ≤ lI b ↔ a ≤ b := by rw [Int64.le_iff_toInt_le, lI_toInt ha, lI_toInt hb]
theorem lI_lt {a b : Int} (ha : sl a) (hb : sl b) : lI a < lI b ↔ a < b := by rw [Int64.lt_iff_toInt_lt, lI_toInt ha, lI_toInt hb]
theorem lI_eq {a b : Int} (ha : sl a) (hb : sl b) : lI a = lI b ↔ a = b := by rw [← Int64.toInt_inj, lI_toInt ha, lI_toInt hb]
theorem sm0 : sm 0 := by decide
theorem iI_0 : iI 0 = 0 := by decide
theorem lI_0 : lI 0 = 0 := by decide
theorem iI_l {a : Int} (h : sm a) : (iI a).toInt64 = lI a := by
  rw [← Int64.toInt_inj, Int32.toInt_toInt64, iI_toInt h, lI_toInt ⟨by omega, by omega⟩]
theorem iI_div {a b : Int} (ha : sm a) (hb : sm b) (h0 : 0 ≤ a) (h1 : 0 < b) : iI a / iI b = iI (a / b) := by
  rw [← Int32.toInt_inj]
  have hb1 : iI b ≠ -1 := fun h => by
    have := congrArg Int32.toInt h
    rw [iI_toInt hb] at this
    have e : (-1 : Int32).toInt = -1 := by decide
    omega
  have hd : a / b ≤ a := Int.ediv_le_self b h0
  have hd0 : 0 ≤ a / b := Int.ediv_nonneg h0 (by omega)
  rw [Int32.toInt_div_of_ne_right _ _ hb1, iI_toInt ha, iI_toInt hb, iI_toInt ⟨by omega, by omega⟩, Int.tdiv_eq_ediv_of_nonneg h0]
theorem iI_rem {a b : Int} (ha : sm a) (hb : sm b) (h0 : 0 ≤ a) (h1 : 0 < b) : iI a - iI a / iI b * iI b = iI (a % b) := by
  rw [iI_div ha hb h0 h1, iI_mul, iI_sub]
  have := Int.emod_add_mul_ediv a b
  congr 1
  rw [Int.mul_comm]
  omega
theorem lI_div {a b : Int} (ha : sl a) (hb : sl b) (h0 : 0 ≤ a) (h1 : 0 < b) : lI a / lI b = lI (a / b) := by
  rw [← Int64.toInt_inj]
  have hb1 : lI b ≠ -1 := fun h => by
    have := congrArg Int64.toInt h
    rw [lI_toInt hb] at this
    have e : (-1 : Int64).toInt = -1 := by decide
    omega
  have hd : a / b ≤ a := Int.ediv_le_self b h0
  have hd0 : 0 ≤ a / b := Int.ediv_nonneg h0 (by omega)
  rw [Int64.toInt_div_of_ne_right _ _ hb1, lI_toInt ha, lI_toInt hb, lI_toInt ⟨by omega, by omega⟩, Int.tdiv_eq_ediv_of_nonneg h0]
theorem iI_in {i : Int} {n : Nat} (h0 : 0 ≤ i) (h1 : i < n) (hn : n < 2147483648) : vp_in (iI i) n := by
  rw [vp_in_iff, iI_toInt ⟨by omega, by omega⟩]
  exact ⟨h0, h1⟩
theorem iI_cl {i : Int} {n : Nat} (h0 : 0 ≤ i) (h1 : i < n) (hn : n < 2147483648) : (((iI i).toNatClampNeg : Nat) : Int) = i := by
  show (((iI i).toInt.toNat : Nat) : Int) = i
  rw [iI_toInt ⟨by omega, by omega⟩]
  omega
theorem ia_at {f : Int → Int} {i : Int} {n : Nat} (h0 : 0 ≤ i) (h1 : i < n) (hn : n < 2147483648) : ia f (iI i).toNatClampNeg = iI (f i) := by
  show iI (f _) = _
  rw [iI_cl h0 h1 hn]
theorem la_at {f : Int → Int} {i : Int} {n : Nat} (h0 : 0 ≤ i) (h1 : i < n) (hn : n < 2147483648) : la f (iI i).toNatClampNeg = lI (f i) := by
  show lI (f _) = _
  rw [iI_cl h0 h1 hn]
theorem ba_at {f : Int → Bool} {i : Int} {n : Nat} (h0 : 0 ≤ i) (h1 : i < n) (hn : n < 2147483648) : ba f (iI i).toNatClampNeg = bB (f i) := by
  show bB (f _) = _
  rw [iI_cl h0 h1 hn]
theorem ia_up {f : Int → Int} {i v : Int} {n : Nat} (h0 : 0 ≤ i) (h1 : i < n) (hn : n < 2147483648) : upd (ia f) (iI i).toNatClampNeg (iI v) = ia (up f i v) := by
  funext j
  have e := iI_cl h0 h1 hn
  by_cases h : j = (iI i).toNatClampNeg
  · have : (j : Int) = i := by omega
    simp [upd, h, ia, up, e]
  · have : (j : Int) ≠ i := by omega
    simp [upd, h, ia, up, this]
theorem la_up {f : Int → Int} {i v : Int} {n : Nat} (h0 : 0 ≤ i) (h1 : i < n) (hn : n < 2147483648) : vp_updL (la f) (iI i).toNatClampNeg (lI v) = la (up f i v) := by
  funext j
  have e := iI_cl h0 h1 hn
  by_cases h : j = (iI i).toNatClampNeg
  · have : (j : Int) = i := by omega
    simp [vp_updL, h, la, up, e]
  · have : (j : Int) ≠ i := by omega
    simp [vp_updL, h, la, up, this]
theorem bB_nar (b : Bool) : vp_nar .boolean (bB b) = bB b := by cases b <;> rfl
theorem bB_nr (b : Bool) : narrow .boolean (.int (bB b)) = .int (bB b) := by cases b <;> rfl
theorem bB_fit (b : Bool) : fits .boolean (.int (bB b)) = true := by cases b <;> rfl
theorem ba_up {f : Int → Bool} {i : Int} {v : Bool} {n : Nat} (h0 : 0 ≤ i) (h1 : i < n) (hn : n < 2147483648) : upd (ba f) (iI i).toNatClampNeg (vp_nar .boolean (bB v)) = ba (up f i v) := by
  rw [bB_nar]
  funext j
  have e := iI_cl h0 h1 hn
  by_cases h : j = (iI i).toNatClampNeg
  · have : (j : Int) = i := by omega
    simp [upd, h, ba, up, e]
  · have : (j : Int) ≠ i := by omega
    simp [upd, h, ba, up, this]
theorem bB_f (b : Bool) : bB b = 0 ↔ b = false := by cases b <;> simp [bB]
theorem bB_t (b : Bool) : ¬ bB b = 0 ↔ b = true := by cases b <;> simp [bB]
theorem iI_bB1 {b : Bool} (h : b = true) : iI 1 = bB b := by rw [h]; decide
theorem iI_bB0 {b : Bool} (h : b = false) : iI 0 = bB b := by rw [h]; decide
theorem lc_lt {a b : Int} (ha : sl a) (hb : sl b) : lg_cmp (lI a) (lI b) < 0 ↔ a < b := by
  unfold lg_cmp
  simp only [gt_iff_lt, lI_lt hb ha, lI_eq ha hb]
  split
  · exact ⟨fun h => absurd h (by decide), fun h => by omega⟩
  · split
    · exact ⟨fun h => absurd h (by decide), fun h => by omega⟩
    · exact ⟨fun _ => by omega, fun _ => by decide⟩
theorem lc_eq {a b : Int} (ha : sl a) (hb : sl b) : lg_cmp (lI a) (lI b) = 0 ↔ a = b := by
  unfold lg_cmp
  simp only [gt_iff_lt, lI_lt hb ha, lI_eq ha hb]
  split
  · exact ⟨fun h => absurd h (by decide), fun h => by omega⟩
  · split
    · exact ⟨fun h => by assumption, fun h => rfl⟩
    · exact ⟨fun h => absurd h (by decide), fun h => by omega⟩
theorem lc_gt {a b : Int} (ha : sl a) (hb : sl b) : 0 < lg_cmp (lI a) (lI b) ↔ b < a := by
  unfold lg_cmp
  simp only [gt_iff_lt, lI_lt hb ha, lI_eq ha hb]
  split
  · exact ⟨fun _ => by assumption, fun _ => by decide⟩
  · split
    · exact ⟨fun h => absurd h (by decide), fun h => by omega⟩
    · exact ⟨fun h => absurd h (by decide), fun h => by omega⟩
theorem i32_nlt {a b : Int32} : ¬ a < b ↔ b ≤ a := Int32.not_lt
theorem i32_nle {a b : Int32} : ¬ a ≤ b ↔ b < a := Int32.not_le
