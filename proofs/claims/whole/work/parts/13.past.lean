/-! Past -/
abbrev W_P0 (y : CY) (hP a_ring : Nat) (top : Int) (sts : Int) : va_W := [(hP, .inr (3, [.ref a_ring, .int (iI top), .int (iI sts)]))]
abbrev W_PF (y : CY) (hP a_ring p0hF p0a_ind p0a_tot p0a_pri p1hF p1a_ind p1a_tot p1a_pri p2hF p2a_ind p2a_tot p2a_pri p3hF p3a_ind p3a_tot p3a_pri p4hF p4a_ind p4a_tot p4a_pri p5hF p5a_ind p5a_tot p5a_pri hF a_ind a_tot a_pri : Nat) (rind : Int → Int → Int) (rtot : Int → Int → Int) (rpri : Int → Int → Int) (rq : Int → Int) (rfr : Int → Int) (rli : Int → Int) (rsh : Int → Int) (top : Int) (sts : Int) (ind : Int → Int) (tot : Int → Int) (pri : Int → Int) (q : Int) (fr : Int) (li : Int) (sh : Int) : va_W := [(hP, .inr (3, [.ref a_ring, .int (iI top), .int (iI sts)])), (a_ring, .inl (y.2.2.2, 6, .inr (.inr (.inr (.inr (fun k => if k = 0 then some p0hF else if k = 1 then some p1hF else if k = 2 then some p2hF else if k = 3 then some p3hF else if k = 4 then some p4hF else if k = 5 then some p5hF else none)))))), (p0hF, .inr (2, [.ref p0a_ind, .ref p0a_tot, .ref p0a_pri, .int (iI (rq 0)), .int (iI (rfr 0)), .int (iI (rli 0)), .int (iI (rsh 0))])), (p0a_ind, .inl (y.1, 12, .inl (ia (rind 0)))), (p0a_tot, .inl (y.1, 3, .inl (ia (rtot 0)))), (p0a_pri, .inl (y.1, 12, .inl (ia (rpri 0)))), (p1hF, .inr (2, [.ref p1a_ind, .ref p1a_tot, .ref p1a_pri, .int (iI (rq 1)), .int (iI (rfr 1)), .int (iI (rli 1)), .int (iI (rsh 1))])), (p1a_ind, .inl (y.1, 12, .inl (ia (rind 1)))), (p1a_tot, .inl (y.1, 3, .inl (ia (rtot 1)))), (p1a_pri, .inl (y.1, 12, .inl (ia (rpri 1)))), (p2hF, .inr (2, [.ref p2a_ind, .ref p2a_tot, .ref p2a_pri, .int (iI (rq 2)), .int (iI (rfr 2)), .int (iI (rli 2)), .int (iI (rsh 2))])), (p2a_ind, .inl (y.1, 12, .inl (ia (rind 2)))), (p2a_tot, .inl (y.1, 3, .inl (ia (rtot 2)))), (p2a_pri, .inl (y.1, 12, .inl (ia (rpri 2)))), (p3hF, .inr (2, [.ref p3a_ind, .ref p3a_tot, .ref p3a_pri, .int (iI (rq 3)), .int (iI (rfr 3)), .int (iI (rli 3)), .int (iI (rsh 3))])), (p3a_ind, .inl (y.1, 12, .inl (ia (rind 3)))), (p3a_tot, .inl (y.1, 3, .inl (ia (rtot 3)))), (p3a_pri, .inl (y.1, 12, .inl (ia (rpri 3)))), (p4hF, .inr (2, [.ref p4a_ind, .ref p4a_tot, .ref p4a_pri, .int (iI (rq 4)), .int (iI (rfr 4)), .int (iI (rli 4)), .int (iI (rsh 4))])), (p4a_ind, .inl (y.1, 12, .inl (ia (rind 4)))), (p4a_tot, .inl (y.1, 3, .inl (ia (rtot 4)))), (p4a_pri, .inl (y.1, 12, .inl (ia (rpri 4)))), (p5hF, .inr (2, [.ref p5a_ind, .ref p5a_tot, .ref p5a_pri, .int (iI (rq 5)), .int (iI (rfr 5)), .int (iI (rli 5)), .int (iI (rsh 5))])), (p5a_ind, .inl (y.1, 12, .inl (ia (rind 5)))), (p5a_tot, .inl (y.1, 3, .inl (ia (rtot 5)))), (p5a_pri, .inl (y.1, 12, .inl (ia (rpri 5)))), (hF, .inr (2, [.ref a_ind, .ref a_tot, .ref a_pri, .int (iI q), .int (iI fr), .int (iI li), .int (iI sh)])), (a_ind, .inl (y.1, 12, .inl (ia ind))), (a_tot, .inl (y.1, 3, .inl (ia tot))), (a_pri, .inl (y.1, 12, .inl (ia pri)))]
def tUp (top : Int) : Int := if top = 5 then 0 else top + 1
def tDn (top : Int) : Int := if top = 0 then 5 else top - 1
def sUp (sts : Int) : Int := if sts + 1 < 5 then sts + 1 else 5
abbrev rm_X3_keeps : Room := { frames := 1, cells := 0, slots := 0, locals := 30 }
set_option maxHeartbeats 4000000 in
set_option maxRecDepth 100000 in
theorem c_X3_keeps (l : Launch) (D : va_G) (y : CY) (z sz : Nat) (hP a_ring : Nat) (top : Int) (sts : Int) (htop : 0 ≤ top ∧ top ≤ 5) (hsts : 0 ≤ sts ∧ sts ≤ 5) : Met l yX3_keeps (Cond.code yX3_keeps cX3_keeps 1 none :: TW) rm_X3_keeps (va_Pc [.ref hP] (PX D y z (W_P0 y hP a_ring top sts) sz)) (va_Qv (fun (uu : (Int) × (Int)) => uu = (tUp top, sUp sts)) (fun uu t => BX D (W_P0 y hP a_ring uu.1 uu.2) (va_A (W_P0 y hP a_ring top sts) sz) t) (va_A (W_P0 y hP a_ring top sts) sz)) 0 0 (va_A (W_P0 y hP a_ring top sts) sz) := by
  refine xm_v (by decide) (Nat.le_of_ble_eq_true rfl) (fun p e s m args below meth cX ls A Q E hr hnm hX hl hQ => ?_)
  have hl : lv_has ls 1 [(0, .ref hP)] := hl
  refine xr_aload_n E hl 0 rfl dX3_keeps_0 rfl ?_
  refine xr_aload_n E hl 0 rfl dX3_keeps_1 rfl ?_
  refine xr_get E hX 0 rfl rfl ly_X3 1 (by decide) fl_X3_17 rfl dX3_keeps_2 ?_
  refine xr_iconst E dX3_keeps_5 ?_
  refine xr_icmp_ne (tgt := 13) E dX3_keeps_6 (by decide) ⟨by omega, by omega⟩ (by decide) (fun c_6 => ?_) (fun c_6 => ?_)
  · have c_6 := c_6
    refine xr_aload_n E hl 0 rfl dX3_keeps_13 rfl ?_
    refine xr_get E hX 0 rfl rfl ly_X3 1 (by decide) fl_X3_17 rfl dX3_keeps_14 ?_
    refine xr_iconst E dX3_keeps_17 ?_
    refine xr_iadd E dX3_keeps_18 ?_
    refine xr_put (W1 := (W_P0 y hP a_ring (top + 1) sts)) E hX 0 rfl rfl ly_X3 tyX3_ok nmX3 1 (by decide) fl_X3_17 rfl rfl rfl (Nat.le_of_ble_eq_true rfl) rfl dX3_keeps_19 (fun H locs hX => ?_)
    refine xr_aload_n E hl 0 rfl dX3_keeps_22 rfl ?_
    refine xr_iconst E dX3_keeps_23 ?_
    refine xr_aload_n E hl 0 rfl dX3_keeps_24 rfl ?_
    refine xr_get E hX 0 rfl rfl ly_X3 2 (by decide) fl_X3_21 rfl dX3_keeps_25 ?_
    refine xr_iconst E dX3_keeps_28 ?_
    refine xr_iadd E dX3_keeps_29 ?_
    refine xr_min E hl ml_X3_29 dX3_keeps_30 ⟨Nat.le_of_ble_eq_true rfl, Nat.le_of_ble_eq_true rfl, Nat.zero_le _, Nat.zero_le _⟩ (by decide) ⟨by omega, by omega⟩ ?_
    refine xr_put (W1 := (W_P0 y hP a_ring (top + 1) (if (sts + 1) < 5 then (sts + 1) else 5))) E hX 0 rfl rfl ly_X3 tyX3_ok nmX3 2 (by decide) fl_X3_21 rfl rfl rfl (Nat.le_of_ble_eq_true rfl) rfl dX3_keeps_33 (fun H locs hX => ?_)
    exact xr_vret E hX hQ ((top + 1), (if (sts + 1) < 5 then (sts + 1) else 5)) hr (by unfold tUp sUp; (repeat' split) <;> first | (exfalso; omega) | rfl | (congr 1; omega) | (congr 2; omega)) rfl dX3_keeps_36
  · have c_6 := c_6
    refine xr_iconst E dX3_keeps_9 ?_
    refine xr_goto (tgt := 19) E dX3_keeps_10 (by decide) ?_
    refine xr_put (W1 := (W_P0 y hP a_ring 0 sts)) E hX 0 rfl rfl ly_X3 tyX3_ok nmX3 1 (by decide) fl_X3_17 rfl rfl rfl (Nat.le_of_ble_eq_true rfl) rfl dX3_keeps_19 (fun H locs hX => ?_)
    refine xr_aload_n E hl 0 rfl dX3_keeps_22 rfl ?_
    refine xr_iconst E dX3_keeps_23 ?_
    refine xr_aload_n E hl 0 rfl dX3_keeps_24 rfl ?_
    refine xr_get E hX 0 rfl rfl ly_X3 2 (by decide) fl_X3_21 rfl dX3_keeps_25 ?_
    refine xr_iconst E dX3_keeps_28 ?_
    refine xr_iadd E dX3_keeps_29 ?_
    refine xr_min E hl ml_X3_29 dX3_keeps_30 ⟨Nat.le_of_ble_eq_true rfl, Nat.le_of_ble_eq_true rfl, Nat.zero_le _, Nat.zero_le _⟩ (by decide) ⟨by omega, by omega⟩ ?_
    refine xr_put (W1 := (W_P0 y hP a_ring 0 (if (sts + 1) < 5 then (sts + 1) else 5))) E hX 0 rfl rfl ly_X3 tyX3_ok nmX3 2 (by decide) fl_X3_21 rfl rfl rfl (Nat.le_of_ble_eq_true rfl) rfl dX3_keeps_33 (fun H locs hX => ?_)
    exact xr_vret E hX hQ (0, (if (sts + 1) < 5 then (sts + 1) else 5)) hr (by unfold tUp sUp; (repeat' split) <;> first | (exfalso; omega) | rfl | (congr 1; omega) | (congr 2; omega)) rfl dX3_keeps_36
abbrev rm_X3_holds : Room := { frames := 2, cells := 0, slots := 0, locals := 81 }
set_option maxHeartbeats 4000000 in
set_option maxRecDepth 100000 in
theorem c_X3_holds (l : Launch) (D : va_G) (y : CY) (z sz : Nat) (hP a_ring p0hF p0a_ind p0a_tot p0a_pri p1hF p1a_ind p1a_tot p1a_pri p2hF p2a_ind p2a_tot p2a_pri p3hF p3a_ind p3a_tot p3a_pri p4hF p4a_ind p4a_tot p4a_pri p5hF p5a_ind p5a_tot p5a_pri hF a_ind a_tot a_pri : Nat) (rind : Int → Int → Int) (rtot : Int → Int → Int) (rpri : Int → Int → Int) (rq : Int → Int) (rfr : Int → Int) (rli : Int → Int) (rsh : Int → Int) (top : Int) (sts : Int) (ind : Int → Int) (tot : Int → Int) (pri : Int → Int) (q : Int) (fr : Int) (li : Int) (sh : Int) (htop : 0 ≤ top ∧ top ≤ 5) : Met l yX3_holds (Cond.code yX3_holds cX3_holds 2 none :: TW) rm_X3_holds (va_Pc [.ref hP, .ref hF] (PX D y z (W_PF y hP a_ring p0hF p0a_ind p0a_tot p0a_pri p1hF p1a_ind p1a_tot p1a_pri p2hF p2a_ind p2a_tot p2a_pri p3hF p3a_ind p3a_tot p3a_pri p4hF p4a_ind p4a_tot p4a_pri p5hF p5a_ind p5a_tot p5a_pri hF a_ind a_tot a_pri rind rtot rpri rq rfr rli rsh top sts ind tot pri q fr li sh) sz)) (va_Qv (fun (uu : (Int → Int → Int) × (Int → Int → Int) × (Int → Int → Int) × (Int → Int) × (Int → Int) × (Int → Int) × (Int → Int)) => uu = (up rind top ind, up rtot top tot, up rpri top pri, up rq top q, up rfr top fr, up rli top li, up rsh top sh)) (fun uu t => BX D (W_PF y hP a_ring p0hF p0a_ind p0a_tot p0a_pri p1hF p1a_ind p1a_tot p1a_pri p2hF p2a_ind p2a_tot p2a_pri p3hF p3a_ind p3a_tot p3a_pri p4hF p4a_ind p4a_tot p4a_pri p5hF p5a_ind p5a_tot p5a_pri hF a_ind a_tot a_pri uu.1 uu.2.1 uu.2.2.1 uu.2.2.2.1 uu.2.2.2.2.1 uu.2.2.2.2.2.1 uu.2.2.2.2.2.2 top sts ind tot pri q fr li sh) (va_A (W_PF y hP a_ring p0hF p0a_ind p0a_tot p0a_pri p1hF p1a_ind p1a_tot p1a_pri p2hF p2a_ind p2a_tot p2a_pri p3hF p3a_ind p3a_tot p3a_pri p4hF p4a_ind p4a_tot p4a_pri p5hF p5a_ind p5a_tot p5a_pri hF a_ind a_tot a_pri rind rtot rpri rq rfr rli rsh top sts ind tot pri q fr li sh) sz) t) (va_A (W_PF y hP a_ring p0hF p0a_ind p0a_tot p0a_pri p1hF p1a_ind p1a_tot p1a_pri p2hF p2a_ind p2a_tot p2a_pri p3hF p3a_ind p3a_tot p3a_pri p4hF p4a_ind p4a_tot p4a_pri p5hF p5a_ind p5a_tot p5a_pri hF a_ind a_tot a_pri rind rtot rpri rq rfr rli rsh top sts ind tot pri q fr li sh) sz)) 0 0 (va_A (W_PF y hP a_ring p0hF p0a_ind p0a_tot p0a_pri p1hF p1a_ind p1a_tot p1a_pri p2hF p2a_ind p2a_tot p2a_pri p3hF p3a_ind p3a_tot p3a_pri p4hF p4a_ind p4a_tot p4a_pri p5hF p5a_ind p5a_tot p5a_pri hF a_ind a_tot a_pri rind rtot rpri rq rfr rli rsh top sts ind tot pri q fr li sh) sz) := by
  refine xm_v (by decide) (Nat.le_of_ble_eq_true rfl) (fun p e s m args below meth cX ls A Q E hr hnm hX hl hQ => ?_)
  have hl : lv_has ls 2 [(0, .ref hP), (1, .ref hF)] := hl
  rcases (show top = 0 ∨ top = 1 ∨ top = 2 ∨ top = 3 ∨ top = 4 ∨ top = 5 by omega) with rfl | rfl | rfl | rfl | rfl | rfl
  · refine xr_aload_n E hl 0 rfl dX3_holds_0 rfl ?_
    refine xr_get E hX 0 rfl rfl ly_X3 0 (by decide) fl_X3_11 rfl dX3_holds_1 ?_
    refine xr_aload_n E hl 0 rfl dX3_holds_4 rfl ?_
    refine xr_get E hX 0 rfl rfl ly_X3 1 (by decide) fl_X3_17 rfl dX3_holds_5 ?_
    refine xr_aald E hX 1 rfl (by decide) (by decide) (by decide) rfl dX3_holds_8 ?_
    refine xr_aload_n E hl 1 rfl dX3_holds_9 rfl ?_
    refine xk_v (W2 := fun uu => (W_PF y hP a_ring p0hF p0a_ind p0a_tot p0a_pri p1hF p1a_ind p1a_tot p1a_pri p2hF p2a_ind p2a_tot p2a_pri p3hF p3a_ind p3a_tot p3a_pri p4hF p4a_ind p4a_tot p4a_pri p5hF p5a_ind p5a_tot p5a_pri hF a_ind a_tot a_pri (up rind 0 uu.1) (up rtot 0 uu.2.1) (up rpri 0 uu.2.2.1) (up rq 0 uu.2.2.2.1) (up rfr 0 uu.2.2.2.2.1) (up rli 0 uu.2.2.2.2.2.1) (up rsh 0 uu.2.2.2.2.2.2) 0 sts ind tot pri q fr li sh)) E hX [2, 3, 4, 5, 26, 27, 28, 29] rfl (xv_V (As := [.ref hF]) E hX hl (c_X2_becomes l D y z _ p0hF p0a_ind p0a_tot p0a_pri hF a_ind a_tot a_pri (rind 0) (rtot 0) (rpri 0) (rq 0) (rfr 0) (rli 0) (rsh 0) ind tot pri q fr li sh) ml_X3_25 im_X2_becomes se_X2_becomes in_X2 co_X2_becomes 1 (by decide) ⟨rfl, rfl⟩ ⟨Nat.le_of_ble_eq_true rfl, Nat.le_of_ble_eq_true rfl⟩ [2, 3, 4, 5, 26, 27, 28, 29] rfl rfl 2 rfl rfl rfl rfl rfl (Nat.le_of_ble_eq_true rfl) dX3_holds_10 ⟨Nat.le_refl _, Nat.le_refl _⟩) [8, 9, 0, 1, 2, 3, 14, 15, 16, 17, 18, 19, 20, 21, 22, 23, 24, 25, 26, 27, 28, 29, 30, 31, 32, 33, 4, 5, 6, 7] 8 (fun _ => rfl) (fun _ => rfl) (by decide) (by decide) (fun uu H locs hw hX => ?_)
    subst hw
    have hX : XW D A s.heap (W_PF y hP a_ring p0hF p0a_ind p0a_tot p0a_pri p1hF p1a_ind p1a_tot p1a_pri p2hF p2a_ind p2a_tot p2a_pri p3hF p3a_ind p3a_tot p3a_pri p4hF p4a_ind p4a_tot p4a_pri p5hF p5a_ind p5a_tot p5a_pri hF a_ind a_tot a_pri (up rind 0 ind) (up rtot 0 tot) (up rpri 0 pri) (up rq 0 q) (up rfr 0 fr) (up rli 0 li) (up rsh 0 sh) 0 sts ind tot pri q fr li sh) H locs := hX
    exact xr_vret E hX hQ ((up rind 0 ind), (up rtot 0 tot), (up rpri 0 pri), (up rq 0 q), (up rfr 0 fr), (up rli 0 li), (up rsh 0 sh)) hr rfl rfl dX3_holds_13
  · refine xr_aload_n E hl 0 rfl dX3_holds_0 rfl ?_
    refine xr_get E hX 0 rfl rfl ly_X3 0 (by decide) fl_X3_11 rfl dX3_holds_1 ?_
    refine xr_aload_n E hl 0 rfl dX3_holds_4 rfl ?_
    refine xr_get E hX 0 rfl rfl ly_X3 1 (by decide) fl_X3_17 rfl dX3_holds_5 ?_
    refine xr_aald E hX 1 rfl (by decide) (by decide) (by decide) rfl dX3_holds_8 ?_
    refine xr_aload_n E hl 1 rfl dX3_holds_9 rfl ?_
    refine xk_v (W2 := fun uu => (W_PF y hP a_ring p0hF p0a_ind p0a_tot p0a_pri p1hF p1a_ind p1a_tot p1a_pri p2hF p2a_ind p2a_tot p2a_pri p3hF p3a_ind p3a_tot p3a_pri p4hF p4a_ind p4a_tot p4a_pri p5hF p5a_ind p5a_tot p5a_pri hF a_ind a_tot a_pri (up rind 1 uu.1) (up rtot 1 uu.2.1) (up rpri 1 uu.2.2.1) (up rq 1 uu.2.2.2.1) (up rfr 1 uu.2.2.2.2.1) (up rli 1 uu.2.2.2.2.2.1) (up rsh 1 uu.2.2.2.2.2.2) 1 sts ind tot pri q fr li sh)) E hX [6, 7, 8, 9, 26, 27, 28, 29] rfl (xv_V (As := [.ref hF]) E hX hl (c_X2_becomes l D y z _ p1hF p1a_ind p1a_tot p1a_pri hF a_ind a_tot a_pri (rind 1) (rtot 1) (rpri 1) (rq 1) (rfr 1) (rli 1) (rsh 1) ind tot pri q fr li sh) ml_X3_25 im_X2_becomes se_X2_becomes in_X2 co_X2_becomes 1 (by decide) ⟨rfl, rfl⟩ ⟨Nat.le_of_ble_eq_true rfl, Nat.le_of_ble_eq_true rfl⟩ [6, 7, 8, 9, 26, 27, 28, 29] rfl rfl 6 rfl rfl rfl rfl rfl (Nat.le_of_ble_eq_true rfl) dX3_holds_10 ⟨Nat.le_refl _, Nat.le_refl _⟩) [8, 9, 10, 11, 12, 13, 0, 1, 2, 3, 18, 19, 20, 21, 22, 23, 24, 25, 26, 27, 28, 29, 30, 31, 32, 33, 4, 5, 6, 7] 8 (fun _ => rfl) (fun _ => rfl) (by decide) (by decide) (fun uu H locs hw hX => ?_)
    subst hw
    have hX : XW D A s.heap (W_PF y hP a_ring p0hF p0a_ind p0a_tot p0a_pri p1hF p1a_ind p1a_tot p1a_pri p2hF p2a_ind p2a_tot p2a_pri p3hF p3a_ind p3a_tot p3a_pri p4hF p4a_ind p4a_tot p4a_pri p5hF p5a_ind p5a_tot p5a_pri hF a_ind a_tot a_pri (up rind 1 ind) (up rtot 1 tot) (up rpri 1 pri) (up rq 1 q) (up rfr 1 fr) (up rli 1 li) (up rsh 1 sh) 1 sts ind tot pri q fr li sh) H locs := hX
    exact xr_vret E hX hQ ((up rind 1 ind), (up rtot 1 tot), (up rpri 1 pri), (up rq 1 q), (up rfr 1 fr), (up rli 1 li), (up rsh 1 sh)) hr rfl rfl dX3_holds_13
  · refine xr_aload_n E hl 0 rfl dX3_holds_0 rfl ?_
    refine xr_get E hX 0 rfl rfl ly_X3 0 (by decide) fl_X3_11 rfl dX3_holds_1 ?_
    refine xr_aload_n E hl 0 rfl dX3_holds_4 rfl ?_
    refine xr_get E hX 0 rfl rfl ly_X3 1 (by decide) fl_X3_17 rfl dX3_holds_5 ?_
    refine xr_aald E hX 1 rfl (by decide) (by decide) (by decide) rfl dX3_holds_8 ?_
    refine xr_aload_n E hl 1 rfl dX3_holds_9 rfl ?_
    refine xk_v (W2 := fun uu => (W_PF y hP a_ring p0hF p0a_ind p0a_tot p0a_pri p1hF p1a_ind p1a_tot p1a_pri p2hF p2a_ind p2a_tot p2a_pri p3hF p3a_ind p3a_tot p3a_pri p4hF p4a_ind p4a_tot p4a_pri p5hF p5a_ind p5a_tot p5a_pri hF a_ind a_tot a_pri (up rind 2 uu.1) (up rtot 2 uu.2.1) (up rpri 2 uu.2.2.1) (up rq 2 uu.2.2.2.1) (up rfr 2 uu.2.2.2.2.1) (up rli 2 uu.2.2.2.2.2.1) (up rsh 2 uu.2.2.2.2.2.2) 2 sts ind tot pri q fr li sh)) E hX [10, 11, 12, 13, 26, 27, 28, 29] rfl (xv_V (As := [.ref hF]) E hX hl (c_X2_becomes l D y z _ p2hF p2a_ind p2a_tot p2a_pri hF a_ind a_tot a_pri (rind 2) (rtot 2) (rpri 2) (rq 2) (rfr 2) (rli 2) (rsh 2) ind tot pri q fr li sh) ml_X3_25 im_X2_becomes se_X2_becomes in_X2 co_X2_becomes 1 (by decide) ⟨rfl, rfl⟩ ⟨Nat.le_of_ble_eq_true rfl, Nat.le_of_ble_eq_true rfl⟩ [10, 11, 12, 13, 26, 27, 28, 29] rfl rfl 10 rfl rfl rfl rfl rfl (Nat.le_of_ble_eq_true rfl) dX3_holds_10 ⟨Nat.le_refl _, Nat.le_refl _⟩) [8, 9, 10, 11, 12, 13, 14, 15, 16, 17, 0, 1, 2, 3, 22, 23, 24, 25, 26, 27, 28, 29, 30, 31, 32, 33, 4, 5, 6, 7] 8 (fun _ => rfl) (fun _ => rfl) (by decide) (by decide) (fun uu H locs hw hX => ?_)
    subst hw
    have hX : XW D A s.heap (W_PF y hP a_ring p0hF p0a_ind p0a_tot p0a_pri p1hF p1a_ind p1a_tot p1a_pri p2hF p2a_ind p2a_tot p2a_pri p3hF p3a_ind p3a_tot p3a_pri p4hF p4a_ind p4a_tot p4a_pri p5hF p5a_ind p5a_tot p5a_pri hF a_ind a_tot a_pri (up rind 2 ind) (up rtot 2 tot) (up rpri 2 pri) (up rq 2 q) (up rfr 2 fr) (up rli 2 li) (up rsh 2 sh) 2 sts ind tot pri q fr li sh) H locs := hX
    exact xr_vret E hX hQ ((up rind 2 ind), (up rtot 2 tot), (up rpri 2 pri), (up rq 2 q), (up rfr 2 fr), (up rli 2 li), (up rsh 2 sh)) hr rfl rfl dX3_holds_13
  · refine xr_aload_n E hl 0 rfl dX3_holds_0 rfl ?_
    refine xr_get E hX 0 rfl rfl ly_X3 0 (by decide) fl_X3_11 rfl dX3_holds_1 ?_
    refine xr_aload_n E hl 0 rfl dX3_holds_4 rfl ?_
    refine xr_get E hX 0 rfl rfl ly_X3 1 (by decide) fl_X3_17 rfl dX3_holds_5 ?_
    refine xr_aald E hX 1 rfl (by decide) (by decide) (by decide) rfl dX3_holds_8 ?_
    refine xr_aload_n E hl 1 rfl dX3_holds_9 rfl ?_
    refine xk_v (W2 := fun uu => (W_PF y hP a_ring p0hF p0a_ind p0a_tot p0a_pri p1hF p1a_ind p1a_tot p1a_pri p2hF p2a_ind p2a_tot p2a_pri p3hF p3a_ind p3a_tot p3a_pri p4hF p4a_ind p4a_tot p4a_pri p5hF p5a_ind p5a_tot p5a_pri hF a_ind a_tot a_pri (up rind 3 uu.1) (up rtot 3 uu.2.1) (up rpri 3 uu.2.2.1) (up rq 3 uu.2.2.2.1) (up rfr 3 uu.2.2.2.2.1) (up rli 3 uu.2.2.2.2.2.1) (up rsh 3 uu.2.2.2.2.2.2) 3 sts ind tot pri q fr li sh)) E hX [14, 15, 16, 17, 26, 27, 28, 29] rfl (xv_V (As := [.ref hF]) E hX hl (c_X2_becomes l D y z _ p3hF p3a_ind p3a_tot p3a_pri hF a_ind a_tot a_pri (rind 3) (rtot 3) (rpri 3) (rq 3) (rfr 3) (rli 3) (rsh 3) ind tot pri q fr li sh) ml_X3_25 im_X2_becomes se_X2_becomes in_X2 co_X2_becomes 1 (by decide) ⟨rfl, rfl⟩ ⟨Nat.le_of_ble_eq_true rfl, Nat.le_of_ble_eq_true rfl⟩ [14, 15, 16, 17, 26, 27, 28, 29] rfl rfl 14 rfl rfl rfl rfl rfl (Nat.le_of_ble_eq_true rfl) dX3_holds_10 ⟨Nat.le_refl _, Nat.le_refl _⟩) [8, 9, 10, 11, 12, 13, 14, 15, 16, 17, 18, 19, 20, 21, 0, 1, 2, 3, 26, 27, 28, 29, 30, 31, 32, 33, 4, 5, 6, 7] 8 (fun _ => rfl) (fun _ => rfl) (by decide) (by decide) (fun uu H locs hw hX => ?_)
    subst hw
    have hX : XW D A s.heap (W_PF y hP a_ring p0hF p0a_ind p0a_tot p0a_pri p1hF p1a_ind p1a_tot p1a_pri p2hF p2a_ind p2a_tot p2a_pri p3hF p3a_ind p3a_tot p3a_pri p4hF p4a_ind p4a_tot p4a_pri p5hF p5a_ind p5a_tot p5a_pri hF a_ind a_tot a_pri (up rind 3 ind) (up rtot 3 tot) (up rpri 3 pri) (up rq 3 q) (up rfr 3 fr) (up rli 3 li) (up rsh 3 sh) 3 sts ind tot pri q fr li sh) H locs := hX
    exact xr_vret E hX hQ ((up rind 3 ind), (up rtot 3 tot), (up rpri 3 pri), (up rq 3 q), (up rfr 3 fr), (up rli 3 li), (up rsh 3 sh)) hr rfl rfl dX3_holds_13
  · refine xr_aload_n E hl 0 rfl dX3_holds_0 rfl ?_
    refine xr_get E hX 0 rfl rfl ly_X3 0 (by decide) fl_X3_11 rfl dX3_holds_1 ?_
    refine xr_aload_n E hl 0 rfl dX3_holds_4 rfl ?_
    refine xr_get E hX 0 rfl rfl ly_X3 1 (by decide) fl_X3_17 rfl dX3_holds_5 ?_
    refine xr_aald E hX 1 rfl (by decide) (by decide) (by decide) rfl dX3_holds_8 ?_
    refine xr_aload_n E hl 1 rfl dX3_holds_9 rfl ?_
    refine xk_v (W2 := fun uu => (W_PF y hP a_ring p0hF p0a_ind p0a_tot p0a_pri p1hF p1a_ind p1a_tot p1a_pri p2hF p2a_ind p2a_tot p2a_pri p3hF p3a_ind p3a_tot p3a_pri p4hF p4a_ind p4a_tot p4a_pri p5hF p5a_ind p5a_tot p5a_pri hF a_ind a_tot a_pri (up rind 4 uu.1) (up rtot 4 uu.2.1) (up rpri 4 uu.2.2.1) (up rq 4 uu.2.2.2.1) (up rfr 4 uu.2.2.2.2.1) (up rli 4 uu.2.2.2.2.2.1) (up rsh 4 uu.2.2.2.2.2.2) 4 sts ind tot pri q fr li sh)) E hX [18, 19, 20, 21, 26, 27, 28, 29] rfl (xv_V (As := [.ref hF]) E hX hl (c_X2_becomes l D y z _ p4hF p4a_ind p4a_tot p4a_pri hF a_ind a_tot a_pri (rind 4) (rtot 4) (rpri 4) (rq 4) (rfr 4) (rli 4) (rsh 4) ind tot pri q fr li sh) ml_X3_25 im_X2_becomes se_X2_becomes in_X2 co_X2_becomes 1 (by decide) ⟨rfl, rfl⟩ ⟨Nat.le_of_ble_eq_true rfl, Nat.le_of_ble_eq_true rfl⟩ [18, 19, 20, 21, 26, 27, 28, 29] rfl rfl 18 rfl rfl rfl rfl rfl (Nat.le_of_ble_eq_true rfl) dX3_holds_10 ⟨Nat.le_refl _, Nat.le_refl _⟩) [8, 9, 10, 11, 12, 13, 14, 15, 16, 17, 18, 19, 20, 21, 22, 23, 24, 25, 0, 1, 2, 3, 30, 31, 32, 33, 4, 5, 6, 7] 8 (fun _ => rfl) (fun _ => rfl) (by decide) (by decide) (fun uu H locs hw hX => ?_)
    subst hw
    have hX : XW D A s.heap (W_PF y hP a_ring p0hF p0a_ind p0a_tot p0a_pri p1hF p1a_ind p1a_tot p1a_pri p2hF p2a_ind p2a_tot p2a_pri p3hF p3a_ind p3a_tot p3a_pri p4hF p4a_ind p4a_tot p4a_pri p5hF p5a_ind p5a_tot p5a_pri hF a_ind a_tot a_pri (up rind 4 ind) (up rtot 4 tot) (up rpri 4 pri) (up rq 4 q) (up rfr 4 fr) (up rli 4 li) (up rsh 4 sh) 4 sts ind tot pri q fr li sh) H locs := hX
    exact xr_vret E hX hQ ((up rind 4 ind), (up rtot 4 tot), (up rpri 4 pri), (up rq 4 q), (up rfr 4 fr), (up rli 4 li), (up rsh 4 sh)) hr rfl rfl dX3_holds_13
  · refine xr_aload_n E hl 0 rfl dX3_holds_0 rfl ?_
    refine xr_get E hX 0 rfl rfl ly_X3 0 (by decide) fl_X3_11 rfl dX3_holds_1 ?_
    refine xr_aload_n E hl 0 rfl dX3_holds_4 rfl ?_
    refine xr_get E hX 0 rfl rfl ly_X3 1 (by decide) fl_X3_17 rfl dX3_holds_5 ?_
    refine xr_aald E hX 1 rfl (by decide) (by decide) (by decide) rfl dX3_holds_8 ?_
    refine xr_aload_n E hl 1 rfl dX3_holds_9 rfl ?_
    refine xk_v (W2 := fun uu => (W_PF y hP a_ring p0hF p0a_ind p0a_tot p0a_pri p1hF p1a_ind p1a_tot p1a_pri p2hF p2a_ind p2a_tot p2a_pri p3hF p3a_ind p3a_tot p3a_pri p4hF p4a_ind p4a_tot p4a_pri p5hF p5a_ind p5a_tot p5a_pri hF a_ind a_tot a_pri (up rind 5 uu.1) (up rtot 5 uu.2.1) (up rpri 5 uu.2.2.1) (up rq 5 uu.2.2.2.1) (up rfr 5 uu.2.2.2.2.1) (up rli 5 uu.2.2.2.2.2.1) (up rsh 5 uu.2.2.2.2.2.2) 5 sts ind tot pri q fr li sh)) E hX [22, 23, 24, 25, 26, 27, 28, 29] rfl (xv_V (As := [.ref hF]) E hX hl (c_X2_becomes l D y z _ p5hF p5a_ind p5a_tot p5a_pri hF a_ind a_tot a_pri (rind 5) (rtot 5) (rpri 5) (rq 5) (rfr 5) (rli 5) (rsh 5) ind tot pri q fr li sh) ml_X3_25 im_X2_becomes se_X2_becomes in_X2 co_X2_becomes 1 (by decide) ⟨rfl, rfl⟩ ⟨Nat.le_of_ble_eq_true rfl, Nat.le_of_ble_eq_true rfl⟩ [22, 23, 24, 25, 26, 27, 28, 29] rfl rfl 22 rfl rfl rfl rfl rfl (Nat.le_of_ble_eq_true rfl) dX3_holds_10 ⟨Nat.le_refl _, Nat.le_refl _⟩) [8, 9, 10, 11, 12, 13, 14, 15, 16, 17, 18, 19, 20, 21, 22, 23, 24, 25, 26, 27, 28, 29, 0, 1, 2, 3, 4, 5, 6, 7] 8 (fun _ => rfl) (fun _ => rfl) (by decide) (by decide) (fun uu H locs hw hX => ?_)
    subst hw
    have hX : XW D A s.heap (W_PF y hP a_ring p0hF p0a_ind p0a_tot p0a_pri p1hF p1a_ind p1a_tot p1a_pri p2hF p2a_ind p2a_tot p2a_pri p3hF p3a_ind p3a_tot p3a_pri p4hF p4a_ind p4a_tot p4a_pri p5hF p5a_ind p5a_tot p5a_pri hF a_ind a_tot a_pri (up rind 5 ind) (up rtot 5 tot) (up rpri 5 pri) (up rq 5 q) (up rfr 5 fr) (up rli 5 li) (up rsh 5 sh) 5 sts ind tot pri q fr li sh) H locs := hX
    exact xr_vret E hX hQ ((up rind 5 ind), (up rtot 5 tot), (up rpri 5 pri), (up rq 5 q), (up rfr 5 fr), (up rli 5 li), (up rsh 5 sh)) hr rfl rfl dX3_holds_13
abbrev rm_X3_restores : Room := { frames := 2, cells := 0, slots := 0, locals := 81 }
set_option maxHeartbeats 4000000 in
set_option maxRecDepth 100000 in
theorem c_X3_restores (l : Launch) (D : va_G) (y : CY) (z sz : Nat) (hP a_ring p0hF p0a_ind p0a_tot p0a_pri p1hF p1a_ind p1a_tot p1a_pri p2hF p2a_ind p2a_tot p2a_pri p3hF p3a_ind p3a_tot p3a_pri p4hF p4a_ind p4a_tot p4a_pri p5hF p5a_ind p5a_tot p5a_pri hF a_ind a_tot a_pri : Nat) (rind : Int → Int → Int) (rtot : Int → Int → Int) (rpri : Int → Int → Int) (rq : Int → Int) (rfr : Int → Int) (rli : Int → Int) (rsh : Int → Int) (top : Int) (sts : Int) (ind : Int → Int) (tot : Int → Int) (pri : Int → Int) (q : Int) (fr : Int) (li : Int) (sh : Int) (htop : 0 ≤ top ∧ top ≤ 5) : Met l yX3_restores (Cond.code yX3_restores cX3_restores 2 none :: TW) rm_X3_restores (va_Pc [.ref hP, .ref hF] (PX D y z (W_PF y hP a_ring p0hF p0a_ind p0a_tot p0a_pri p1hF p1a_ind p1a_tot p1a_pri p2hF p2a_ind p2a_tot p2a_pri p3hF p3a_ind p3a_tot p3a_pri p4hF p4a_ind p4a_tot p4a_pri p5hF p5a_ind p5a_tot p5a_pri hF a_ind a_tot a_pri rind rtot rpri rq rfr rli rsh top sts ind tot pri q fr li sh) sz)) (va_Qv (fun (uu : (Int → Int) × (Int → Int) × (Int → Int) × (Int) × (Int) × (Int) × (Int)) => uu = (rind top, rtot top, rpri top, rq top, rfr top, rli top, rsh top)) (fun uu t => BX D (W_PF y hP a_ring p0hF p0a_ind p0a_tot p0a_pri p1hF p1a_ind p1a_tot p1a_pri p2hF p2a_ind p2a_tot p2a_pri p3hF p3a_ind p3a_tot p3a_pri p4hF p4a_ind p4a_tot p4a_pri p5hF p5a_ind p5a_tot p5a_pri hF a_ind a_tot a_pri rind rtot rpri rq rfr rli rsh top sts uu.1 uu.2.1 uu.2.2.1 uu.2.2.2.1 uu.2.2.2.2.1 uu.2.2.2.2.2.1 uu.2.2.2.2.2.2) (va_A (W_PF y hP a_ring p0hF p0a_ind p0a_tot p0a_pri p1hF p1a_ind p1a_tot p1a_pri p2hF p2a_ind p2a_tot p2a_pri p3hF p3a_ind p3a_tot p3a_pri p4hF p4a_ind p4a_tot p4a_pri p5hF p5a_ind p5a_tot p5a_pri hF a_ind a_tot a_pri rind rtot rpri rq rfr rli rsh top sts ind tot pri q fr li sh) sz) t) (va_A (W_PF y hP a_ring p0hF p0a_ind p0a_tot p0a_pri p1hF p1a_ind p1a_tot p1a_pri p2hF p2a_ind p2a_tot p2a_pri p3hF p3a_ind p3a_tot p3a_pri p4hF p4a_ind p4a_tot p4a_pri p5hF p5a_ind p5a_tot p5a_pri hF a_ind a_tot a_pri rind rtot rpri rq rfr rli rsh top sts ind tot pri q fr li sh) sz)) 0 0 (va_A (W_PF y hP a_ring p0hF p0a_ind p0a_tot p0a_pri p1hF p1a_ind p1a_tot p1a_pri p2hF p2a_ind p2a_tot p2a_pri p3hF p3a_ind p3a_tot p3a_pri p4hF p4a_ind p4a_tot p4a_pri p5hF p5a_ind p5a_tot p5a_pri hF a_ind a_tot a_pri rind rtot rpri rq rfr rli rsh top sts ind tot pri q fr li sh) sz) := by
  refine xm_v (by decide) (Nat.le_of_ble_eq_true rfl) (fun p e s m args below meth cX ls A Q E hr hnm hX hl hQ => ?_)
  have hl : lv_has ls 2 [(0, .ref hP), (1, .ref hF)] := hl
  rcases (show top = 0 ∨ top = 1 ∨ top = 2 ∨ top = 3 ∨ top = 4 ∨ top = 5 by omega) with rfl | rfl | rfl | rfl | rfl | rfl
  · refine xr_aload_n E hl 1 rfl dX3_restores_0 rfl ?_
    refine xr_aload_n E hl 0 rfl dX3_restores_1 rfl ?_
    refine xr_get E hX 0 rfl rfl ly_X3 0 (by decide) fl_X3_11 rfl dX3_restores_2 ?_
    refine xr_aload_n E hl 0 rfl dX3_restores_5 rfl ?_
    refine xr_get E hX 0 rfl rfl ly_X3 1 (by decide) fl_X3_17 rfl dX3_restores_6 ?_
    refine xr_aald E hX 1 rfl (by decide) (by decide) (by decide) rfl dX3_restores_9 ?_
    refine xk_v (W2 := fun uu => (W_PF y hP a_ring p0hF p0a_ind p0a_tot p0a_pri p1hF p1a_ind p1a_tot p1a_pri p2hF p2a_ind p2a_tot p2a_pri p3hF p3a_ind p3a_tot p3a_pri p4hF p4a_ind p4a_tot p4a_pri p5hF p5a_ind p5a_tot p5a_pri hF a_ind a_tot a_pri rind rtot rpri rq rfr rli rsh 0 sts uu.1 uu.2.1 uu.2.2.1 uu.2.2.2.1 uu.2.2.2.2.1 uu.2.2.2.2.2.1 uu.2.2.2.2.2.2)) E hX [26, 27, 28, 29, 2, 3, 4, 5] rfl (xv_V (As := [.ref p0hF]) E hX hl (c_X2_becomes l D y z _ hF a_ind a_tot a_pri p0hF p0a_ind p0a_tot p0a_pri ind tot pri q fr li sh (rind 0) (rtot 0) (rpri 0) (rq 0) (rfr 0) (rli 0) (rsh 0)) ml_X3_25 im_X2_becomes se_X2_becomes in_X2 co_X2_becomes 1 (by decide) ⟨rfl, rfl⟩ ⟨Nat.le_of_ble_eq_true rfl, Nat.le_of_ble_eq_true rfl⟩ [26, 27, 28, 29, 2, 3, 4, 5] rfl rfl 26 rfl rfl rfl rfl rfl (Nat.le_of_ble_eq_true rfl) dX3_restores_10 ⟨Nat.le_refl _, Nat.le_refl _⟩) [8, 9, 4, 5, 6, 7, 14, 15, 16, 17, 18, 19, 20, 21, 22, 23, 24, 25, 26, 27, 28, 29, 30, 31, 32, 33, 0, 1, 2, 3] 8 (fun _ => rfl) (fun _ => rfl) (by decide) (by decide) (fun uu H locs hw hX => ?_)
    subst hw
    have hX : XW D A s.heap (W_PF y hP a_ring p0hF p0a_ind p0a_tot p0a_pri p1hF p1a_ind p1a_tot p1a_pri p2hF p2a_ind p2a_tot p2a_pri p3hF p3a_ind p3a_tot p3a_pri p4hF p4a_ind p4a_tot p4a_pri p5hF p5a_ind p5a_tot p5a_pri hF a_ind a_tot a_pri rind rtot rpri rq rfr rli rsh 0 sts (rind 0) (rtot 0) (rpri 0) (rq 0) (rfr 0) (rli 0) (rsh 0)) H locs := hX
    exact xr_vret E hX hQ ((rind 0), (rtot 0), (rpri 0), (rq 0), (rfr 0), (rli 0), (rsh 0)) hr rfl rfl dX3_restores_13
  · refine xr_aload_n E hl 1 rfl dX3_restores_0 rfl ?_
    refine xr_aload_n E hl 0 rfl dX3_restores_1 rfl ?_
    refine xr_get E hX 0 rfl rfl ly_X3 0 (by decide) fl_X3_11 rfl dX3_restores_2 ?_
    refine xr_aload_n E hl 0 rfl dX3_restores_5 rfl ?_
    refine xr_get E hX 0 rfl rfl ly_X3 1 (by decide) fl_X3_17 rfl dX3_restores_6 ?_
    refine xr_aald E hX 1 rfl (by decide) (by decide) (by decide) rfl dX3_restores_9 ?_
    refine xk_v (W2 := fun uu => (W_PF y hP a_ring p0hF p0a_ind p0a_tot p0a_pri p1hF p1a_ind p1a_tot p1a_pri p2hF p2a_ind p2a_tot p2a_pri p3hF p3a_ind p3a_tot p3a_pri p4hF p4a_ind p4a_tot p4a_pri p5hF p5a_ind p5a_tot p5a_pri hF a_ind a_tot a_pri rind rtot rpri rq rfr rli rsh 1 sts uu.1 uu.2.1 uu.2.2.1 uu.2.2.2.1 uu.2.2.2.2.1 uu.2.2.2.2.2.1 uu.2.2.2.2.2.2)) E hX [26, 27, 28, 29, 6, 7, 8, 9] rfl (xv_V (As := [.ref p1hF]) E hX hl (c_X2_becomes l D y z _ hF a_ind a_tot a_pri p1hF p1a_ind p1a_tot p1a_pri ind tot pri q fr li sh (rind 1) (rtot 1) (rpri 1) (rq 1) (rfr 1) (rli 1) (rsh 1)) ml_X3_25 im_X2_becomes se_X2_becomes in_X2 co_X2_becomes 1 (by decide) ⟨rfl, rfl⟩ ⟨Nat.le_of_ble_eq_true rfl, Nat.le_of_ble_eq_true rfl⟩ [26, 27, 28, 29, 6, 7, 8, 9] rfl rfl 26 rfl rfl rfl rfl rfl (Nat.le_of_ble_eq_true rfl) dX3_restores_10 ⟨Nat.le_refl _, Nat.le_refl _⟩) [8, 9, 10, 11, 12, 13, 4, 5, 6, 7, 18, 19, 20, 21, 22, 23, 24, 25, 26, 27, 28, 29, 30, 31, 32, 33, 0, 1, 2, 3] 8 (fun _ => rfl) (fun _ => rfl) (by decide) (by decide) (fun uu H locs hw hX => ?_)
    subst hw
    have hX : XW D A s.heap (W_PF y hP a_ring p0hF p0a_ind p0a_tot p0a_pri p1hF p1a_ind p1a_tot p1a_pri p2hF p2a_ind p2a_tot p2a_pri p3hF p3a_ind p3a_tot p3a_pri p4hF p4a_ind p4a_tot p4a_pri p5hF p5a_ind p5a_tot p5a_pri hF a_ind a_tot a_pri rind rtot rpri rq rfr rli rsh 1 sts (rind 1) (rtot 1) (rpri 1) (rq 1) (rfr 1) (rli 1) (rsh 1)) H locs := hX
    exact xr_vret E hX hQ ((rind 1), (rtot 1), (rpri 1), (rq 1), (rfr 1), (rli 1), (rsh 1)) hr rfl rfl dX3_restores_13
  · refine xr_aload_n E hl 1 rfl dX3_restores_0 rfl ?_
    refine xr_aload_n E hl 0 rfl dX3_restores_1 rfl ?_
    refine xr_get E hX 0 rfl rfl ly_X3 0 (by decide) fl_X3_11 rfl dX3_restores_2 ?_
    refine xr_aload_n E hl 0 rfl dX3_restores_5 rfl ?_
    refine xr_get E hX 0 rfl rfl ly_X3 1 (by decide) fl_X3_17 rfl dX3_restores_6 ?_
    refine xr_aald E hX 1 rfl (by decide) (by decide) (by decide) rfl dX3_restores_9 ?_
    refine xk_v (W2 := fun uu => (W_PF y hP a_ring p0hF p0a_ind p0a_tot p0a_pri p1hF p1a_ind p1a_tot p1a_pri p2hF p2a_ind p2a_tot p2a_pri p3hF p3a_ind p3a_tot p3a_pri p4hF p4a_ind p4a_tot p4a_pri p5hF p5a_ind p5a_tot p5a_pri hF a_ind a_tot a_pri rind rtot rpri rq rfr rli rsh 2 sts uu.1 uu.2.1 uu.2.2.1 uu.2.2.2.1 uu.2.2.2.2.1 uu.2.2.2.2.2.1 uu.2.2.2.2.2.2)) E hX [26, 27, 28, 29, 10, 11, 12, 13] rfl (xv_V (As := [.ref p2hF]) E hX hl (c_X2_becomes l D y z _ hF a_ind a_tot a_pri p2hF p2a_ind p2a_tot p2a_pri ind tot pri q fr li sh (rind 2) (rtot 2) (rpri 2) (rq 2) (rfr 2) (rli 2) (rsh 2)) ml_X3_25 im_X2_becomes se_X2_becomes in_X2 co_X2_becomes 1 (by decide) ⟨rfl, rfl⟩ ⟨Nat.le_of_ble_eq_true rfl, Nat.le_of_ble_eq_true rfl⟩ [26, 27, 28, 29, 10, 11, 12, 13] rfl rfl 26 rfl rfl rfl rfl rfl (Nat.le_of_ble_eq_true rfl) dX3_restores_10 ⟨Nat.le_refl _, Nat.le_refl _⟩) [8, 9, 10, 11, 12, 13, 14, 15, 16, 17, 4, 5, 6, 7, 22, 23, 24, 25, 26, 27, 28, 29, 30, 31, 32, 33, 0, 1, 2, 3] 8 (fun _ => rfl) (fun _ => rfl) (by decide) (by decide) (fun uu H locs hw hX => ?_)
    subst hw
    have hX : XW D A s.heap (W_PF y hP a_ring p0hF p0a_ind p0a_tot p0a_pri p1hF p1a_ind p1a_tot p1a_pri p2hF p2a_ind p2a_tot p2a_pri p3hF p3a_ind p3a_tot p3a_pri p4hF p4a_ind p4a_tot p4a_pri p5hF p5a_ind p5a_tot p5a_pri hF a_ind a_tot a_pri rind rtot rpri rq rfr rli rsh 2 sts (rind 2) (rtot 2) (rpri 2) (rq 2) (rfr 2) (rli 2) (rsh 2)) H locs := hX
    exact xr_vret E hX hQ ((rind 2), (rtot 2), (rpri 2), (rq 2), (rfr 2), (rli 2), (rsh 2)) hr rfl rfl dX3_restores_13
  · refine xr_aload_n E hl 1 rfl dX3_restores_0 rfl ?_
    refine xr_aload_n E hl 0 rfl dX3_restores_1 rfl ?_
    refine xr_get E hX 0 rfl rfl ly_X3 0 (by decide) fl_X3_11 rfl dX3_restores_2 ?_
    refine xr_aload_n E hl 0 rfl dX3_restores_5 rfl ?_
    refine xr_get E hX 0 rfl rfl ly_X3 1 (by decide) fl_X3_17 rfl dX3_restores_6 ?_
    refine xr_aald E hX 1 rfl (by decide) (by decide) (by decide) rfl dX3_restores_9 ?_
    refine xk_v (W2 := fun uu => (W_PF y hP a_ring p0hF p0a_ind p0a_tot p0a_pri p1hF p1a_ind p1a_tot p1a_pri p2hF p2a_ind p2a_tot p2a_pri p3hF p3a_ind p3a_tot p3a_pri p4hF p4a_ind p4a_tot p4a_pri p5hF p5a_ind p5a_tot p5a_pri hF a_ind a_tot a_pri rind rtot rpri rq rfr rli rsh 3 sts uu.1 uu.2.1 uu.2.2.1 uu.2.2.2.1 uu.2.2.2.2.1 uu.2.2.2.2.2.1 uu.2.2.2.2.2.2)) E hX [26, 27, 28, 29, 14, 15, 16, 17] rfl (xv_V (As := [.ref p3hF]) E hX hl (c_X2_becomes l D y z _ hF a_ind a_tot a_pri p3hF p3a_ind p3a_tot p3a_pri ind tot pri q fr li sh (rind 3) (rtot 3) (rpri 3) (rq 3) (rfr 3) (rli 3) (rsh 3)) ml_X3_25 im_X2_becomes se_X2_becomes in_X2 co_X2_becomes 1 (by decide) ⟨rfl, rfl⟩ ⟨Nat.le_of_ble_eq_true rfl, Nat.le_of_ble_eq_true rfl⟩ [26, 27, 28, 29, 14, 15, 16, 17] rfl rfl 26 rfl rfl rfl rfl rfl (Nat.le_of_ble_eq_true rfl) dX3_restores_10 ⟨Nat.le_refl _, Nat.le_refl _⟩) [8, 9, 10, 11, 12, 13, 14, 15, 16, 17, 18, 19, 20, 21, 4, 5, 6, 7, 26, 27, 28, 29, 30, 31, 32, 33, 0, 1, 2, 3] 8 (fun _ => rfl) (fun _ => rfl) (by decide) (by decide) (fun uu H locs hw hX => ?_)
    subst hw
    have hX : XW D A s.heap (W_PF y hP a_ring p0hF p0a_ind p0a_tot p0a_pri p1hF p1a_ind p1a_tot p1a_pri p2hF p2a_ind p2a_tot p2a_pri p3hF p3a_ind p3a_tot p3a_pri p4hF p4a_ind p4a_tot p4a_pri p5hF p5a_ind p5a_tot p5a_pri hF a_ind a_tot a_pri rind rtot rpri rq rfr rli rsh 3 sts (rind 3) (rtot 3) (rpri 3) (rq 3) (rfr 3) (rli 3) (rsh 3)) H locs := hX
    exact xr_vret E hX hQ ((rind 3), (rtot 3), (rpri 3), (rq 3), (rfr 3), (rli 3), (rsh 3)) hr rfl rfl dX3_restores_13
  · refine xr_aload_n E hl 1 rfl dX3_restores_0 rfl ?_
    refine xr_aload_n E hl 0 rfl dX3_restores_1 rfl ?_
    refine xr_get E hX 0 rfl rfl ly_X3 0 (by decide) fl_X3_11 rfl dX3_restores_2 ?_
    refine xr_aload_n E hl 0 rfl dX3_restores_5 rfl ?_
    refine xr_get E hX 0 rfl rfl ly_X3 1 (by decide) fl_X3_17 rfl dX3_restores_6 ?_
    refine xr_aald E hX 1 rfl (by decide) (by decide) (by decide) rfl dX3_restores_9 ?_
    refine xk_v (W2 := fun uu => (W_PF y hP a_ring p0hF p0a_ind p0a_tot p0a_pri p1hF p1a_ind p1a_tot p1a_pri p2hF p2a_ind p2a_tot p2a_pri p3hF p3a_ind p3a_tot p3a_pri p4hF p4a_ind p4a_tot p4a_pri p5hF p5a_ind p5a_tot p5a_pri hF a_ind a_tot a_pri rind rtot rpri rq rfr rli rsh 4 sts uu.1 uu.2.1 uu.2.2.1 uu.2.2.2.1 uu.2.2.2.2.1 uu.2.2.2.2.2.1 uu.2.2.2.2.2.2)) E hX [26, 27, 28, 29, 18, 19, 20, 21] rfl (xv_V (As := [.ref p4hF]) E hX hl (c_X2_becomes l D y z _ hF a_ind a_tot a_pri p4hF p4a_ind p4a_tot p4a_pri ind tot pri q fr li sh (rind 4) (rtot 4) (rpri 4) (rq 4) (rfr 4) (rli 4) (rsh 4)) ml_X3_25 im_X2_becomes se_X2_becomes in_X2 co_X2_becomes 1 (by decide) ⟨rfl, rfl⟩ ⟨Nat.le_of_ble_eq_true rfl, Nat.le_of_ble_eq_true rfl⟩ [26, 27, 28, 29, 18, 19, 20, 21] rfl rfl 26 rfl rfl rfl rfl rfl (Nat.le_of_ble_eq_true rfl) dX3_restores_10 ⟨Nat.le_refl _, Nat.le_refl _⟩) [8, 9, 10, 11, 12, 13, 14, 15, 16, 17, 18, 19, 20, 21, 22, 23, 24, 25, 4, 5, 6, 7, 30, 31, 32, 33, 0, 1, 2, 3] 8 (fun _ => rfl) (fun _ => rfl) (by decide) (by decide) (fun uu H locs hw hX => ?_)
    subst hw
    have hX : XW D A s.heap (W_PF y hP a_ring p0hF p0a_ind p0a_tot p0a_pri p1hF p1a_ind p1a_tot p1a_pri p2hF p2a_ind p2a_tot p2a_pri p3hF p3a_ind p3a_tot p3a_pri p4hF p4a_ind p4a_tot p4a_pri p5hF p5a_ind p5a_tot p5a_pri hF a_ind a_tot a_pri rind rtot rpri rq rfr rli rsh 4 sts (rind 4) (rtot 4) (rpri 4) (rq 4) (rfr 4) (rli 4) (rsh 4)) H locs := hX
    exact xr_vret E hX hQ ((rind 4), (rtot 4), (rpri 4), (rq 4), (rfr 4), (rli 4), (rsh 4)) hr rfl rfl dX3_restores_13
  · refine xr_aload_n E hl 1 rfl dX3_restores_0 rfl ?_
    refine xr_aload_n E hl 0 rfl dX3_restores_1 rfl ?_
    refine xr_get E hX 0 rfl rfl ly_X3 0 (by decide) fl_X3_11 rfl dX3_restores_2 ?_
    refine xr_aload_n E hl 0 rfl dX3_restores_5 rfl ?_
    refine xr_get E hX 0 rfl rfl ly_X3 1 (by decide) fl_X3_17 rfl dX3_restores_6 ?_
    refine xr_aald E hX 1 rfl (by decide) (by decide) (by decide) rfl dX3_restores_9 ?_
    refine xk_v (W2 := fun uu => (W_PF y hP a_ring p0hF p0a_ind p0a_tot p0a_pri p1hF p1a_ind p1a_tot p1a_pri p2hF p2a_ind p2a_tot p2a_pri p3hF p3a_ind p3a_tot p3a_pri p4hF p4a_ind p4a_tot p4a_pri p5hF p5a_ind p5a_tot p5a_pri hF a_ind a_tot a_pri rind rtot rpri rq rfr rli rsh 5 sts uu.1 uu.2.1 uu.2.2.1 uu.2.2.2.1 uu.2.2.2.2.1 uu.2.2.2.2.2.1 uu.2.2.2.2.2.2)) E hX [26, 27, 28, 29, 22, 23, 24, 25] rfl (xv_V (As := [.ref p5hF]) E hX hl (c_X2_becomes l D y z _ hF a_ind a_tot a_pri p5hF p5a_ind p5a_tot p5a_pri ind tot pri q fr li sh (rind 5) (rtot 5) (rpri 5) (rq 5) (rfr 5) (rli 5) (rsh 5)) ml_X3_25 im_X2_becomes se_X2_becomes in_X2 co_X2_becomes 1 (by decide) ⟨rfl, rfl⟩ ⟨Nat.le_of_ble_eq_true rfl, Nat.le_of_ble_eq_true rfl⟩ [26, 27, 28, 29, 22, 23, 24, 25] rfl rfl 26 rfl rfl rfl rfl rfl (Nat.le_of_ble_eq_true rfl) dX3_restores_10 ⟨Nat.le_refl _, Nat.le_refl _⟩) [8, 9, 10, 11, 12, 13, 14, 15, 16, 17, 18, 19, 20, 21, 22, 23, 24, 25, 26, 27, 28, 29, 4, 5, 6, 7, 0, 1, 2, 3] 8 (fun _ => rfl) (fun _ => rfl) (by decide) (by decide) (fun uu H locs hw hX => ?_)
    subst hw
    have hX : XW D A s.heap (W_PF y hP a_ring p0hF p0a_ind p0a_tot p0a_pri p1hF p1a_ind p1a_tot p1a_pri p2hF p2a_ind p2a_tot p2a_pri p3hF p3a_ind p3a_tot p3a_pri p4hF p4a_ind p4a_tot p4a_pri p5hF p5a_ind p5a_tot p5a_pri hF a_ind a_tot a_pri rind rtot rpri rq rfr rli rsh 5 sts (rind 5) (rtot 5) (rpri 5) (rq 5) (rfr 5) (rli 5) (rsh 5)) H locs := hX
    exact xr_vret E hX hQ ((rind 5), (rtot 5), (rpri 5), (rq 5), (rfr 5), (rli 5), (rsh 5)) hr rfl rfl dX3_restores_13
abbrev rm_X3_returns : Room := { frames := 2, cells := 0, slots := 0, locals := 81 }
set_option maxHeartbeats 4000000 in
set_option maxRecDepth 100000 in
theorem c_X3_returns (l : Launch) (D : va_G) (y : CY) (z sz : Nat) (hP a_ring p0hF p0a_ind p0a_tot p0a_pri p1hF p1a_ind p1a_tot p1a_pri p2hF p2a_ind p2a_tot p2a_pri p3hF p3a_ind p3a_tot p3a_pri p4hF p4a_ind p4a_tot p4a_pri p5hF p5a_ind p5a_tot p5a_pri hF a_ind a_tot a_pri : Nat) (rind : Int → Int → Int) (rtot : Int → Int → Int) (rpri : Int → Int → Int) (rq : Int → Int) (rfr : Int → Int) (rli : Int → Int) (rsh : Int → Int) (top : Int) (sts : Int) (ind : Int → Int) (tot : Int → Int) (pri : Int → Int) (q : Int) (fr : Int) (li : Int) (sh : Int) (htop : 0 ≤ top ∧ top ≤ 5) (hsts : 0 < sts ∧ sts ≤ 5) : Met l yX3_returns (Cond.code yX3_returns cX3_returns 2 none :: TW) rm_X3_returns (va_Pc [.ref hP, .ref hF] (PX D y z (W_PF y hP a_ring p0hF p0a_ind p0a_tot p0a_pri p1hF p1a_ind p1a_tot p1a_pri p2hF p2a_ind p2a_tot p2a_pri p3hF p3a_ind p3a_tot p3a_pri p4hF p4a_ind p4a_tot p4a_pri p5hF p5a_ind p5a_tot p5a_pri hF a_ind a_tot a_pri rind rtot rpri rq rfr rli rsh top sts ind tot pri q fr li sh) sz)) (va_Qv (fun (uu : (Int) × (Int) × (Int → Int) × (Int → Int) × (Int → Int) × (Int) × (Int) × (Int) × (Int)) => uu = (tDn top, sts - 1, rind (tDn top), rtot (tDn top), rpri (tDn top), rq (tDn top), rfr (tDn top), rli (tDn top), rsh (tDn top))) (fun uu t => BX D (W_PF y hP a_ring p0hF p0a_ind p0a_tot p0a_pri p1hF p1a_ind p1a_tot p1a_pri p2hF p2a_ind p2a_tot p2a_pri p3hF p3a_ind p3a_tot p3a_pri p4hF p4a_ind p4a_tot p4a_pri p5hF p5a_ind p5a_tot p5a_pri hF a_ind a_tot a_pri rind rtot rpri rq rfr rli rsh uu.1 uu.2.1 uu.2.2.1 uu.2.2.2.1 uu.2.2.2.2.1 uu.2.2.2.2.2.1 uu.2.2.2.2.2.2.1 uu.2.2.2.2.2.2.2.1 uu.2.2.2.2.2.2.2.2) (va_A (W_PF y hP a_ring p0hF p0a_ind p0a_tot p0a_pri p1hF p1a_ind p1a_tot p1a_pri p2hF p2a_ind p2a_tot p2a_pri p3hF p3a_ind p3a_tot p3a_pri p4hF p4a_ind p4a_tot p4a_pri p5hF p5a_ind p5a_tot p5a_pri hF a_ind a_tot a_pri rind rtot rpri rq rfr rli rsh top sts ind tot pri q fr li sh) sz) t) (va_A (W_PF y hP a_ring p0hF p0a_ind p0a_tot p0a_pri p1hF p1a_ind p1a_tot p1a_pri p2hF p2a_ind p2a_tot p2a_pri p3hF p3a_ind p3a_tot p3a_pri p4hF p4a_ind p4a_tot p4a_pri p5hF p5a_ind p5a_tot p5a_pri hF a_ind a_tot a_pri rind rtot rpri rq rfr rli rsh top sts ind tot pri q fr li sh) sz)) 0 0 (va_A (W_PF y hP a_ring p0hF p0a_ind p0a_tot p0a_pri p1hF p1a_ind p1a_tot p1a_pri p2hF p2a_ind p2a_tot p2a_pri p3hF p3a_ind p3a_tot p3a_pri p4hF p4a_ind p4a_tot p4a_pri p5hF p5a_ind p5a_tot p5a_pri hF a_ind a_tot a_pri rind rtot rpri rq rfr rli rsh top sts ind tot pri q fr li sh) sz) := by
  refine xm_v (by decide) (Nat.le_of_ble_eq_true rfl) (fun p e s m args below meth cX ls A Q E hr hnm hX hl hQ => ?_)
  have hl : lv_has ls 2 [(0, .ref hP), (1, .ref hF)] := hl
  rcases (show top = 0 ∨ top = 1 ∨ top = 2 ∨ top = 3 ∨ top = 4 ∨ top = 5 by omega) with rfl | rfl | rfl | rfl | rfl | rfl
  · refine xr_aload_n E hl 0 rfl dX3_returns_0 rfl ?_
    refine xr_get E hX 0 rfl rfl ly_X3 2 (by decide) fl_X3_21 rfl dX3_returns_1 ?_
    refine xr_if_le (tgt := 51) E dX3_returns_4 (by decide) ⟨by omega, by omega⟩ (fun c_4 => ?_) (fun c_4 => ?_)
    · have c_4 := c_4
      exact xr_vret E hX hQ (0, sts, ind, tot, pri, q, fr, li, sh) hr (by first | rfl | (exfalso; omega)) rfl dX3_returns_51
    · have c_4 := c_4
      refine xr_aload_n E hl 0 rfl dX3_returns_7 rfl ?_
      refine xr_aload_n E hl 0 rfl dX3_returns_8 rfl ?_
      refine xr_get E hX 0 rfl rfl ly_X3 1 (by decide) fl_X3_17 rfl dX3_returns_9 ?_
      refine xr_if_ne (tgt := 19) E dX3_returns_12 (by decide) (by decide) (fun c_12 => ?_) (fun c_12 => ?_)
      · exact absurd c_12 (by decide)
      · have c_12 := c_12
        refine xr_iconst E dX3_returns_15 ?_
        refine xr_goto (tgt := 25) E dX3_returns_16 (by decide) ?_
        refine xr_put (W1 := (W_PF y hP a_ring p0hF p0a_ind p0a_tot p0a_pri p1hF p1a_ind p1a_tot p1a_pri p2hF p2a_ind p2a_tot p2a_pri p3hF p3a_ind p3a_tot p3a_pri p4hF p4a_ind p4a_tot p4a_pri p5hF p5a_ind p5a_tot p5a_pri hF a_ind a_tot a_pri rind rtot rpri rq rfr rli rsh 5 sts ind tot pri q fr li sh)) E hX 0 rfl rfl ly_X3 tyX3_ok nmX3 1 (by decide) fl_X3_17 rfl rfl rfl (Nat.le_of_ble_eq_true rfl) rfl dX3_returns_25 (fun H locs hX => ?_)
        refine xr_aload_n E hl 0 rfl dX3_returns_28 rfl ?_
        refine xr_dup E dX3_returns_29 rfl ?_
        refine xr_get E hX 0 rfl rfl ly_X3 2 (by decide) fl_X3_21 rfl dX3_returns_30 ?_
        refine xr_iconst E dX3_returns_33 ?_
        refine xr_isub E dX3_returns_34 ?_
        refine xr_put (W1 := (W_PF y hP a_ring p0hF p0a_ind p0a_tot p0a_pri p1hF p1a_ind p1a_tot p1a_pri p2hF p2a_ind p2a_tot p2a_pri p3hF p3a_ind p3a_tot p3a_pri p4hF p4a_ind p4a_tot p4a_pri p5hF p5a_ind p5a_tot p5a_pri hF a_ind a_tot a_pri rind rtot rpri rq rfr rli rsh 5 (sts - 1) ind tot pri q fr li sh)) E hX 0 rfl rfl ly_X3 tyX3_ok nmX3 2 (by decide) fl_X3_21 rfl rfl rfl (Nat.le_of_ble_eq_true rfl) rfl dX3_returns_35 (fun H locs hX => ?_)
        refine xr_aload_n E hl 1 rfl dX3_returns_38 rfl ?_
        refine xr_aload_n E hl 0 rfl dX3_returns_39 rfl ?_
        refine xr_get E hX 0 rfl rfl ly_X3 0 (by decide) fl_X3_11 rfl dX3_returns_40 ?_
        refine xr_aload_n E hl 0 rfl dX3_returns_43 rfl ?_
        refine xr_get E hX 0 rfl rfl ly_X3 1 (by decide) fl_X3_17 rfl dX3_returns_44 ?_
        refine xr_aald E hX 1 rfl (by decide) (by decide) (by decide) rfl dX3_returns_47 ?_
        refine xk_v (W2 := fun uu => (W_PF y hP a_ring p0hF p0a_ind p0a_tot p0a_pri p1hF p1a_ind p1a_tot p1a_pri p2hF p2a_ind p2a_tot p2a_pri p3hF p3a_ind p3a_tot p3a_pri p4hF p4a_ind p4a_tot p4a_pri p5hF p5a_ind p5a_tot p5a_pri hF a_ind a_tot a_pri rind rtot rpri rq rfr rli rsh 5 (sts - 1) uu.1 uu.2.1 uu.2.2.1 uu.2.2.2.1 uu.2.2.2.2.1 uu.2.2.2.2.2.1 uu.2.2.2.2.2.2)) E hX [26, 27, 28, 29, 22, 23, 24, 25] rfl (xv_V (As := [.ref p5hF]) E hX hl (c_X2_becomes l D y z _ hF a_ind a_tot a_pri p5hF p5a_ind p5a_tot p5a_pri ind tot pri q fr li sh (rind 5) (rtot 5) (rpri 5) (rq 5) (rfr 5) (rli 5) (rsh 5)) ml_X3_25 im_X2_becomes se_X2_becomes in_X2 co_X2_becomes 1 (by decide) ⟨rfl, rfl⟩ ⟨Nat.le_of_ble_eq_true rfl, Nat.le_of_ble_eq_true rfl⟩ [26, 27, 28, 29, 22, 23, 24, 25] rfl rfl 26 rfl rfl rfl rfl rfl (Nat.le_of_ble_eq_true rfl) dX3_returns_48 ⟨Nat.le_refl _, Nat.le_refl _⟩) [8, 9, 10, 11, 12, 13, 14, 15, 16, 17, 18, 19, 20, 21, 22, 23, 24, 25, 26, 27, 28, 29, 4, 5, 6, 7, 0, 1, 2, 3] 8 (fun _ => rfl) (fun _ => rfl) (by decide) (by decide) (fun uu H locs hw hX => ?_)
        subst hw
        have hX : XW D A s.heap (W_PF y hP a_ring p0hF p0a_ind p0a_tot p0a_pri p1hF p1a_ind p1a_tot p1a_pri p2hF p2a_ind p2a_tot p2a_pri p3hF p3a_ind p3a_tot p3a_pri p4hF p4a_ind p4a_tot p4a_pri p5hF p5a_ind p5a_tot p5a_pri hF a_ind a_tot a_pri rind rtot rpri rq rfr rli rsh 5 (sts - 1) (rind 5) (rtot 5) (rpri 5) (rq 5) (rfr 5) (rli 5) (rsh 5)) H locs := hX
        exact xr_vret E hX hQ (5, (sts - 1), (rind 5), (rtot 5), (rpri 5), (rq 5), (rfr 5), (rli 5), (rsh 5)) hr (by first | rfl | (exfalso; omega)) rfl dX3_returns_51
  · refine xr_aload_n E hl 0 rfl dX3_returns_0 rfl ?_
    refine xr_get E hX 0 rfl rfl ly_X3 2 (by decide) fl_X3_21 rfl dX3_returns_1 ?_
    refine xr_if_le (tgt := 51) E dX3_returns_4 (by decide) ⟨by omega, by omega⟩ (fun c_4 => ?_) (fun c_4 => ?_)
    · have c_4 := c_4
      exact xr_vret E hX hQ (1, sts, ind, tot, pri, q, fr, li, sh) hr (by first | rfl | (exfalso; omega)) rfl dX3_returns_51
    · have c_4 := c_4
      refine xr_aload_n E hl 0 rfl dX3_returns_7 rfl ?_
      refine xr_aload_n E hl 0 rfl dX3_returns_8 rfl ?_
      refine xr_get E hX 0 rfl rfl ly_X3 1 (by decide) fl_X3_17 rfl dX3_returns_9 ?_
      refine xr_if_ne (tgt := 19) E dX3_returns_12 (by decide) (by decide) (fun c_12 => ?_) (fun c_12 => ?_)
      · have c_12 := c_12
        refine xr_aload_n E hl 0 rfl dX3_returns_19 rfl ?_
        refine xr_get E hX 0 rfl rfl ly_X3 1 (by decide) fl_X3_17 rfl dX3_returns_20 ?_
        refine xr_iconst E dX3_returns_23 ?_
        refine xr_isub E dX3_returns_24 ?_
        refine xr_put (W1 := (W_PF y hP a_ring p0hF p0a_ind p0a_tot p0a_pri p1hF p1a_ind p1a_tot p1a_pri p2hF p2a_ind p2a_tot p2a_pri p3hF p3a_ind p3a_tot p3a_pri p4hF p4a_ind p4a_tot p4a_pri p5hF p5a_ind p5a_tot p5a_pri hF a_ind a_tot a_pri rind rtot rpri rq rfr rli rsh 0 sts ind tot pri q fr li sh)) E hX 0 rfl rfl ly_X3 tyX3_ok nmX3 1 (by decide) fl_X3_17 rfl rfl rfl (Nat.le_of_ble_eq_true rfl) rfl dX3_returns_25 (fun H locs hX => ?_)
        refine xr_aload_n E hl 0 rfl dX3_returns_28 rfl ?_
        refine xr_dup E dX3_returns_29 rfl ?_
        refine xr_get E hX 0 rfl rfl ly_X3 2 (by decide) fl_X3_21 rfl dX3_returns_30 ?_
        refine xr_iconst E dX3_returns_33 ?_
        refine xr_isub E dX3_returns_34 ?_
        refine xr_put (W1 := (W_PF y hP a_ring p0hF p0a_ind p0a_tot p0a_pri p1hF p1a_ind p1a_tot p1a_pri p2hF p2a_ind p2a_tot p2a_pri p3hF p3a_ind p3a_tot p3a_pri p4hF p4a_ind p4a_tot p4a_pri p5hF p5a_ind p5a_tot p5a_pri hF a_ind a_tot a_pri rind rtot rpri rq rfr rli rsh 0 (sts - 1) ind tot pri q fr li sh)) E hX 0 rfl rfl ly_X3 tyX3_ok nmX3 2 (by decide) fl_X3_21 rfl rfl rfl (Nat.le_of_ble_eq_true rfl) rfl dX3_returns_35 (fun H locs hX => ?_)
        refine xr_aload_n E hl 1 rfl dX3_returns_38 rfl ?_
        refine xr_aload_n E hl 0 rfl dX3_returns_39 rfl ?_
        refine xr_get E hX 0 rfl rfl ly_X3 0 (by decide) fl_X3_11 rfl dX3_returns_40 ?_
        refine xr_aload_n E hl 0 rfl dX3_returns_43 rfl ?_
        refine xr_get E hX 0 rfl rfl ly_X3 1 (by decide) fl_X3_17 rfl dX3_returns_44 ?_
        refine xr_aald E hX 1 rfl (by decide) (by decide) (by decide) rfl dX3_returns_47 ?_
        refine xk_v (W2 := fun uu => (W_PF y hP a_ring p0hF p0a_ind p0a_tot p0a_pri p1hF p1a_ind p1a_tot p1a_pri p2hF p2a_ind p2a_tot p2a_pri p3hF p3a_ind p3a_tot p3a_pri p4hF p4a_ind p4a_tot p4a_pri p5hF p5a_ind p5a_tot p5a_pri hF a_ind a_tot a_pri rind rtot rpri rq rfr rli rsh 0 (sts - 1) uu.1 uu.2.1 uu.2.2.1 uu.2.2.2.1 uu.2.2.2.2.1 uu.2.2.2.2.2.1 uu.2.2.2.2.2.2)) E hX [26, 27, 28, 29, 2, 3, 4, 5] rfl (xv_V (As := [.ref p0hF]) E hX hl (c_X2_becomes l D y z _ hF a_ind a_tot a_pri p0hF p0a_ind p0a_tot p0a_pri ind tot pri q fr li sh (rind 0) (rtot 0) (rpri 0) (rq 0) (rfr 0) (rli 0) (rsh 0)) ml_X3_25 im_X2_becomes se_X2_becomes in_X2 co_X2_becomes 1 (by decide) ⟨rfl, rfl⟩ ⟨Nat.le_of_ble_eq_true rfl, Nat.le_of_ble_eq_true rfl⟩ [26, 27, 28, 29, 2, 3, 4, 5] rfl rfl 26 rfl rfl rfl rfl rfl (Nat.le_of_ble_eq_true rfl) dX3_returns_48 ⟨Nat.le_refl _, Nat.le_refl _⟩) [8, 9, 4, 5, 6, 7, 14, 15, 16, 17, 18, 19, 20, 21, 22, 23, 24, 25, 26, 27, 28, 29, 30, 31, 32, 33, 0, 1, 2, 3] 8 (fun _ => rfl) (fun _ => rfl) (by decide) (by decide) (fun uu H locs hw hX => ?_)
        subst hw
        have hX : XW D A s.heap (W_PF y hP a_ring p0hF p0a_ind p0a_tot p0a_pri p1hF p1a_ind p1a_tot p1a_pri p2hF p2a_ind p2a_tot p2a_pri p3hF p3a_ind p3a_tot p3a_pri p4hF p4a_ind p4a_tot p4a_pri p5hF p5a_ind p5a_tot p5a_pri hF a_ind a_tot a_pri rind rtot rpri rq rfr rli rsh 0 (sts - 1) (rind 0) (rtot 0) (rpri 0) (rq 0) (rfr 0) (rli 0) (rsh 0)) H locs := hX
        exact xr_vret E hX hQ (0, (sts - 1), (rind 0), (rtot 0), (rpri 0), (rq 0), (rfr 0), (rli 0), (rsh 0)) hr (by first | rfl | (exfalso; omega)) rfl dX3_returns_51
      · exact absurd c_12 (by decide)
  · refine xr_aload_n E hl 0 rfl dX3_returns_0 rfl ?_
    refine xr_get E hX 0 rfl rfl ly_X3 2 (by decide) fl_X3_21 rfl dX3_returns_1 ?_
    refine xr_if_le (tgt := 51) E dX3_returns_4 (by decide) ⟨by omega, by omega⟩ (fun c_4 => ?_) (fun c_4 => ?_)
    · have c_4 := c_4
      exact xr_vret E hX hQ (2, sts, ind, tot, pri, q, fr, li, sh) hr (by first | rfl | (exfalso; omega)) rfl dX3_returns_51
    · have c_4 := c_4
      refine xr_aload_n E hl 0 rfl dX3_returns_7 rfl ?_
      refine xr_aload_n E hl 0 rfl dX3_returns_8 rfl ?_
      refine xr_get E hX 0 rfl rfl ly_X3 1 (by decide) fl_X3_17 rfl dX3_returns_9 ?_
      refine xr_if_ne (tgt := 19) E dX3_returns_12 (by decide) (by decide) (fun c_12 => ?_) (fun c_12 => ?_)
      · have c_12 := c_12
        refine xr_aload_n E hl 0 rfl dX3_returns_19 rfl ?_
        refine xr_get E hX 0 rfl rfl ly_X3 1 (by decide) fl_X3_17 rfl dX3_returns_20 ?_
        refine xr_iconst E dX3_returns_23 ?_
        refine xr_isub E dX3_returns_24 ?_
        refine xr_put (W1 := (W_PF y hP a_ring p0hF p0a_ind p0a_tot p0a_pri p1hF p1a_ind p1a_tot p1a_pri p2hF p2a_ind p2a_tot p2a_pri p3hF p3a_ind p3a_tot p3a_pri p4hF p4a_ind p4a_tot p4a_pri p5hF p5a_ind p5a_tot p5a_pri hF a_ind a_tot a_pri rind rtot rpri rq rfr rli rsh 1 sts ind tot pri q fr li sh)) E hX 0 rfl rfl ly_X3 tyX3_ok nmX3 1 (by decide) fl_X3_17 rfl rfl rfl (Nat.le_of_ble_eq_true rfl) rfl dX3_returns_25 (fun H locs hX => ?_)
        refine xr_aload_n E hl 0 rfl dX3_returns_28 rfl ?_
        refine xr_dup E dX3_returns_29 rfl ?_
        refine xr_get E hX 0 rfl rfl ly_X3 2 (by decide) fl_X3_21 rfl dX3_returns_30 ?_
        refine xr_iconst E dX3_returns_33 ?_
        refine xr_isub E dX3_returns_34 ?_
        refine xr_put (W1 := (W_PF y hP a_ring p0hF p0a_ind p0a_tot p0a_pri p1hF p1a_ind p1a_tot p1a_pri p2hF p2a_ind p2a_tot p2a_pri p3hF p3a_ind p3a_tot p3a_pri p4hF p4a_ind p4a_tot p4a_pri p5hF p5a_ind p5a_tot p5a_pri hF a_ind a_tot a_pri rind rtot rpri rq rfr rli rsh 1 (sts - 1) ind tot pri q fr li sh)) E hX 0 rfl rfl ly_X3 tyX3_ok nmX3 2 (by decide) fl_X3_21 rfl rfl rfl (Nat.le_of_ble_eq_true rfl) rfl dX3_returns_35 (fun H locs hX => ?_)
        refine xr_aload_n E hl 1 rfl dX3_returns_38 rfl ?_
        refine xr_aload_n E hl 0 rfl dX3_returns_39 rfl ?_
        refine xr_get E hX 0 rfl rfl ly_X3 0 (by decide) fl_X3_11 rfl dX3_returns_40 ?_
        refine xr_aload_n E hl 0 rfl dX3_returns_43 rfl ?_
        refine xr_get E hX 0 rfl rfl ly_X3 1 (by decide) fl_X3_17 rfl dX3_returns_44 ?_
        refine xr_aald E hX 1 rfl (by decide) (by decide) (by decide) rfl dX3_returns_47 ?_
        refine xk_v (W2 := fun uu => (W_PF y hP a_ring p0hF p0a_ind p0a_tot p0a_pri p1hF p1a_ind p1a_tot p1a_pri p2hF p2a_ind p2a_tot p2a_pri p3hF p3a_ind p3a_tot p3a_pri p4hF p4a_ind p4a_tot p4a_pri p5hF p5a_ind p5a_tot p5a_pri hF a_ind a_tot a_pri rind rtot rpri rq rfr rli rsh 1 (sts - 1) uu.1 uu.2.1 uu.2.2.1 uu.2.2.2.1 uu.2.2.2.2.1 uu.2.2.2.2.2.1 uu.2.2.2.2.2.2)) E hX [26, 27, 28, 29, 6, 7, 8, 9] rfl (xv_V (As := [.ref p1hF]) E hX hl (c_X2_becomes l D y z _ hF a_ind a_tot a_pri p1hF p1a_ind p1a_tot p1a_pri ind tot pri q fr li sh (rind 1) (rtot 1) (rpri 1) (rq 1) (rfr 1) (rli 1) (rsh 1)) ml_X3_25 im_X2_becomes se_X2_becomes in_X2 co_X2_becomes 1 (by decide) ⟨rfl, rfl⟩ ⟨Nat.le_of_ble_eq_true rfl, Nat.le_of_ble_eq_true rfl⟩ [26, 27, 28, 29, 6, 7, 8, 9] rfl rfl 26 rfl rfl rfl rfl rfl (Nat.le_of_ble_eq_true rfl) dX3_returns_48 ⟨Nat.le_refl _, Nat.le_refl _⟩) [8, 9, 10, 11, 12, 13, 4, 5, 6, 7, 18, 19, 20, 21, 22, 23, 24, 25, 26, 27, 28, 29, 30, 31, 32, 33, 0, 1, 2, 3] 8 (fun _ => rfl) (fun _ => rfl) (by decide) (by decide) (fun uu H locs hw hX => ?_)
        subst hw
        have hX : XW D A s.heap (W_PF y hP a_ring p0hF p0a_ind p0a_tot p0a_pri p1hF p1a_ind p1a_tot p1a_pri p2hF p2a_ind p2a_tot p2a_pri p3hF p3a_ind p3a_tot p3a_pri p4hF p4a_ind p4a_tot p4a_pri p5hF p5a_ind p5a_tot p5a_pri hF a_ind a_tot a_pri rind rtot rpri rq rfr rli rsh 1 (sts - 1) (rind 1) (rtot 1) (rpri 1) (rq 1) (rfr 1) (rli 1) (rsh 1)) H locs := hX
        exact xr_vret E hX hQ (1, (sts - 1), (rind 1), (rtot 1), (rpri 1), (rq 1), (rfr 1), (rli 1), (rsh 1)) hr (by first | rfl | (exfalso; omega)) rfl dX3_returns_51
      · exact absurd c_12 (by decide)
  · refine xr_aload_n E hl 0 rfl dX3_returns_0 rfl ?_
    refine xr_get E hX 0 rfl rfl ly_X3 2 (by decide) fl_X3_21 rfl dX3_returns_1 ?_
    refine xr_if_le (tgt := 51) E dX3_returns_4 (by decide) ⟨by omega, by omega⟩ (fun c_4 => ?_) (fun c_4 => ?_)
    · have c_4 := c_4
      exact xr_vret E hX hQ (3, sts, ind, tot, pri, q, fr, li, sh) hr (by first | rfl | (exfalso; omega)) rfl dX3_returns_51
    · have c_4 := c_4
      refine xr_aload_n E hl 0 rfl dX3_returns_7 rfl ?_
      refine xr_aload_n E hl 0 rfl dX3_returns_8 rfl ?_
      refine xr_get E hX 0 rfl rfl ly_X3 1 (by decide) fl_X3_17 rfl dX3_returns_9 ?_
      refine xr_if_ne (tgt := 19) E dX3_returns_12 (by decide) (by decide) (fun c_12 => ?_) (fun c_12 => ?_)
      · have c_12 := c_12
        refine xr_aload_n E hl 0 rfl dX3_returns_19 rfl ?_
        refine xr_get E hX 0 rfl rfl ly_X3 1 (by decide) fl_X3_17 rfl dX3_returns_20 ?_
        refine xr_iconst E dX3_returns_23 ?_
        refine xr_isub E dX3_returns_24 ?_
        refine xr_put (W1 := (W_PF y hP a_ring p0hF p0a_ind p0a_tot p0a_pri p1hF p1a_ind p1a_tot p1a_pri p2hF p2a_ind p2a_tot p2a_pri p3hF p3a_ind p3a_tot p3a_pri p4hF p4a_ind p4a_tot p4a_pri p5hF p5a_ind p5a_tot p5a_pri hF a_ind a_tot a_pri rind rtot rpri rq rfr rli rsh 2 sts ind tot pri q fr li sh)) E hX 0 rfl rfl ly_X3 tyX3_ok nmX3 1 (by decide) fl_X3_17 rfl rfl rfl (Nat.le_of_ble_eq_true rfl) rfl dX3_returns_25 (fun H locs hX => ?_)
        refine xr_aload_n E hl 0 rfl dX3_returns_28 rfl ?_
        refine xr_dup E dX3_returns_29 rfl ?_
        refine xr_get E hX 0 rfl rfl ly_X3 2 (by decide) fl_X3_21 rfl dX3_returns_30 ?_
        refine xr_iconst E dX3_returns_33 ?_
        refine xr_isub E dX3_returns_34 ?_
        refine xr_put (W1 := (W_PF y hP a_ring p0hF p0a_ind p0a_tot p0a_pri p1hF p1a_ind p1a_tot p1a_pri p2hF p2a_ind p2a_tot p2a_pri p3hF p3a_ind p3a_tot p3a_pri p4hF p4a_ind p4a_tot p4a_pri p5hF p5a_ind p5a_tot p5a_pri hF a_ind a_tot a_pri rind rtot rpri rq rfr rli rsh 2 (sts - 1) ind tot pri q fr li sh)) E hX 0 rfl rfl ly_X3 tyX3_ok nmX3 2 (by decide) fl_X3_21 rfl rfl rfl (Nat.le_of_ble_eq_true rfl) rfl dX3_returns_35 (fun H locs hX => ?_)
        refine xr_aload_n E hl 1 rfl dX3_returns_38 rfl ?_
        refine xr_aload_n E hl 0 rfl dX3_returns_39 rfl ?_
        refine xr_get E hX 0 rfl rfl ly_X3 0 (by decide) fl_X3_11 rfl dX3_returns_40 ?_
        refine xr_aload_n E hl 0 rfl dX3_returns_43 rfl ?_
        refine xr_get E hX 0 rfl rfl ly_X3 1 (by decide) fl_X3_17 rfl dX3_returns_44 ?_
        refine xr_aald E hX 1 rfl (by decide) (by decide) (by decide) rfl dX3_returns_47 ?_
        refine xk_v (W2 := fun uu => (W_PF y hP a_ring p0hF p0a_ind p0a_tot p0a_pri p1hF p1a_ind p1a_tot p1a_pri p2hF p2a_ind p2a_tot p2a_pri p3hF p3a_ind p3a_tot p3a_pri p4hF p4a_ind p4a_tot p4a_pri p5hF p5a_ind p5a_tot p5a_pri hF a_ind a_tot a_pri rind rtot rpri rq rfr rli rsh 2 (sts - 1) uu.1 uu.2.1 uu.2.2.1 uu.2.2.2.1 uu.2.2.2.2.1 uu.2.2.2.2.2.1 uu.2.2.2.2.2.2)) E hX [26, 27, 28, 29, 10, 11, 12, 13] rfl (xv_V (As := [.ref p2hF]) E hX hl (c_X2_becomes l D y z _ hF a_ind a_tot a_pri p2hF p2a_ind p2a_tot p2a_pri ind tot pri q fr li sh (rind 2) (rtot 2) (rpri 2) (rq 2) (rfr 2) (rli 2) (rsh 2)) ml_X3_25 im_X2_becomes se_X2_becomes in_X2 co_X2_becomes 1 (by decide) ⟨rfl, rfl⟩ ⟨Nat.le_of_ble_eq_true rfl, Nat.le_of_ble_eq_true rfl⟩ [26, 27, 28, 29, 10, 11, 12, 13] rfl rfl 26 rfl rfl rfl rfl rfl (Nat.le_of_ble_eq_true rfl) dX3_returns_48 ⟨Nat.le_refl _, Nat.le_refl _⟩) [8, 9, 10, 11, 12, 13, 14, 15, 16, 17, 4, 5, 6, 7, 22, 23, 24, 25, 26, 27, 28, 29, 30, 31, 32, 33, 0, 1, 2, 3] 8 (fun _ => rfl) (fun _ => rfl) (by decide) (by decide) (fun uu H locs hw hX => ?_)
        subst hw
        have hX : XW D A s.heap (W_PF y hP a_ring p0hF p0a_ind p0a_tot p0a_pri p1hF p1a_ind p1a_tot p1a_pri p2hF p2a_ind p2a_tot p2a_pri p3hF p3a_ind p3a_tot p3a_pri p4hF p4a_ind p4a_tot p4a_pri p5hF p5a_ind p5a_tot p5a_pri hF a_ind a_tot a_pri rind rtot rpri rq rfr rli rsh 2 (sts - 1) (rind 2) (rtot 2) (rpri 2) (rq 2) (rfr 2) (rli 2) (rsh 2)) H locs := hX
        exact xr_vret E hX hQ (2, (sts - 1), (rind 2), (rtot 2), (rpri 2), (rq 2), (rfr 2), (rli 2), (rsh 2)) hr (by first | rfl | (exfalso; omega)) rfl dX3_returns_51
      · exact absurd c_12 (by decide)
  · refine xr_aload_n E hl 0 rfl dX3_returns_0 rfl ?_
    refine xr_get E hX 0 rfl rfl ly_X3 2 (by decide) fl_X3_21 rfl dX3_returns_1 ?_
    refine xr_if_le (tgt := 51) E dX3_returns_4 (by decide) ⟨by omega, by omega⟩ (fun c_4 => ?_) (fun c_4 => ?_)
    · have c_4 := c_4
      exact xr_vret E hX hQ (4, sts, ind, tot, pri, q, fr, li, sh) hr (by first | rfl | (exfalso; omega)) rfl dX3_returns_51
    · have c_4 := c_4
      refine xr_aload_n E hl 0 rfl dX3_returns_7 rfl ?_
      refine xr_aload_n E hl 0 rfl dX3_returns_8 rfl ?_
      refine xr_get E hX 0 rfl rfl ly_X3 1 (by decide) fl_X3_17 rfl dX3_returns_9 ?_
      refine xr_if_ne (tgt := 19) E dX3_returns_12 (by decide) (by decide) (fun c_12 => ?_) (fun c_12 => ?_)
      · have c_12 := c_12
        refine xr_aload_n E hl 0 rfl dX3_returns_19 rfl ?_
        refine xr_get E hX 0 rfl rfl ly_X3 1 (by decide) fl_X3_17 rfl dX3_returns_20 ?_
        refine xr_iconst E dX3_returns_23 ?_
        refine xr_isub E dX3_returns_24 ?_
        refine xr_put (W1 := (W_PF y hP a_ring p0hF p0a_ind p0a_tot p0a_pri p1hF p1a_ind p1a_tot p1a_pri p2hF p2a_ind p2a_tot p2a_pri p3hF p3a_ind p3a_tot p3a_pri p4hF p4a_ind p4a_tot p4a_pri p5hF p5a_ind p5a_tot p5a_pri hF a_ind a_tot a_pri rind rtot rpri rq rfr rli rsh 3 sts ind tot pri q fr li sh)) E hX 0 rfl rfl ly_X3 tyX3_ok nmX3 1 (by decide) fl_X3_17 rfl rfl rfl (Nat.le_of_ble_eq_true rfl) rfl dX3_returns_25 (fun H locs hX => ?_)
        refine xr_aload_n E hl 0 rfl dX3_returns_28 rfl ?_
        refine xr_dup E dX3_returns_29 rfl ?_
        refine xr_get E hX 0 rfl rfl ly_X3 2 (by decide) fl_X3_21 rfl dX3_returns_30 ?_
        refine xr_iconst E dX3_returns_33 ?_
        refine xr_isub E dX3_returns_34 ?_
        refine xr_put (W1 := (W_PF y hP a_ring p0hF p0a_ind p0a_tot p0a_pri p1hF p1a_ind p1a_tot p1a_pri p2hF p2a_ind p2a_tot p2a_pri p3hF p3a_ind p3a_tot p3a_pri p4hF p4a_ind p4a_tot p4a_pri p5hF p5a_ind p5a_tot p5a_pri hF a_ind a_tot a_pri rind rtot rpri rq rfr rli rsh 3 (sts - 1) ind tot pri q fr li sh)) E hX 0 rfl rfl ly_X3 tyX3_ok nmX3 2 (by decide) fl_X3_21 rfl rfl rfl (Nat.le_of_ble_eq_true rfl) rfl dX3_returns_35 (fun H locs hX => ?_)
        refine xr_aload_n E hl 1 rfl dX3_returns_38 rfl ?_
        refine xr_aload_n E hl 0 rfl dX3_returns_39 rfl ?_
        refine xr_get E hX 0 rfl rfl ly_X3 0 (by decide) fl_X3_11 rfl dX3_returns_40 ?_
        refine xr_aload_n E hl 0 rfl dX3_returns_43 rfl ?_
        refine xr_get E hX 0 rfl rfl ly_X3 1 (by decide) fl_X3_17 rfl dX3_returns_44 ?_
        refine xr_aald E hX 1 rfl (by decide) (by decide) (by decide) rfl dX3_returns_47 ?_
        refine xk_v (W2 := fun uu => (W_PF y hP a_ring p0hF p0a_ind p0a_tot p0a_pri p1hF p1a_ind p1a_tot p1a_pri p2hF p2a_ind p2a_tot p2a_pri p3hF p3a_ind p3a_tot p3a_pri p4hF p4a_ind p4a_tot p4a_pri p5hF p5a_ind p5a_tot p5a_pri hF a_ind a_tot a_pri rind rtot rpri rq rfr rli rsh 3 (sts - 1) uu.1 uu.2.1 uu.2.2.1 uu.2.2.2.1 uu.2.2.2.2.1 uu.2.2.2.2.2.1 uu.2.2.2.2.2.2)) E hX [26, 27, 28, 29, 14, 15, 16, 17] rfl (xv_V (As := [.ref p3hF]) E hX hl (c_X2_becomes l D y z _ hF a_ind a_tot a_pri p3hF p3a_ind p3a_tot p3a_pri ind tot pri q fr li sh (rind 3) (rtot 3) (rpri 3) (rq 3) (rfr 3) (rli 3) (rsh 3)) ml_X3_25 im_X2_becomes se_X2_becomes in_X2 co_X2_becomes 1 (by decide) ⟨rfl, rfl⟩ ⟨Nat.le_of_ble_eq_true rfl, Nat.le_of_ble_eq_true rfl⟩ [26, 27, 28, 29, 14, 15, 16, 17] rfl rfl 26 rfl rfl rfl rfl rfl (Nat.le_of_ble_eq_true rfl) dX3_returns_48 ⟨Nat.le_refl _, Nat.le_refl _⟩) [8, 9, 10, 11, 12, 13, 14, 15, 16, 17, 18, 19, 20, 21, 4, 5, 6, 7, 26, 27, 28, 29, 30, 31, 32, 33, 0, 1, 2, 3] 8 (fun _ => rfl) (fun _ => rfl) (by decide) (by decide) (fun uu H locs hw hX => ?_)
        subst hw
        have hX : XW D A s.heap (W_PF y hP a_ring p0hF p0a_ind p0a_tot p0a_pri p1hF p1a_ind p1a_tot p1a_pri p2hF p2a_ind p2a_tot p2a_pri p3hF p3a_ind p3a_tot p3a_pri p4hF p4a_ind p4a_tot p4a_pri p5hF p5a_ind p5a_tot p5a_pri hF a_ind a_tot a_pri rind rtot rpri rq rfr rli rsh 3 (sts - 1) (rind 3) (rtot 3) (rpri 3) (rq 3) (rfr 3) (rli 3) (rsh 3)) H locs := hX
        exact xr_vret E hX hQ (3, (sts - 1), (rind 3), (rtot 3), (rpri 3), (rq 3), (rfr 3), (rli 3), (rsh 3)) hr (by first | rfl | (exfalso; omega)) rfl dX3_returns_51
      · exact absurd c_12 (by decide)
  · refine xr_aload_n E hl 0 rfl dX3_returns_0 rfl ?_
    refine xr_get E hX 0 rfl rfl ly_X3 2 (by decide) fl_X3_21 rfl dX3_returns_1 ?_
    refine xr_if_le (tgt := 51) E dX3_returns_4 (by decide) ⟨by omega, by omega⟩ (fun c_4 => ?_) (fun c_4 => ?_)
    · have c_4 := c_4
      exact xr_vret E hX hQ (5, sts, ind, tot, pri, q, fr, li, sh) hr (by first | rfl | (exfalso; omega)) rfl dX3_returns_51
    · have c_4 := c_4
      refine xr_aload_n E hl 0 rfl dX3_returns_7 rfl ?_
      refine xr_aload_n E hl 0 rfl dX3_returns_8 rfl ?_
      refine xr_get E hX 0 rfl rfl ly_X3 1 (by decide) fl_X3_17 rfl dX3_returns_9 ?_
      refine xr_if_ne (tgt := 19) E dX3_returns_12 (by decide) (by decide) (fun c_12 => ?_) (fun c_12 => ?_)
      · have c_12 := c_12
        refine xr_aload_n E hl 0 rfl dX3_returns_19 rfl ?_
        refine xr_get E hX 0 rfl rfl ly_X3 1 (by decide) fl_X3_17 rfl dX3_returns_20 ?_
        refine xr_iconst E dX3_returns_23 ?_
        refine xr_isub E dX3_returns_24 ?_
        refine xr_put (W1 := (W_PF y hP a_ring p0hF p0a_ind p0a_tot p0a_pri p1hF p1a_ind p1a_tot p1a_pri p2hF p2a_ind p2a_tot p2a_pri p3hF p3a_ind p3a_tot p3a_pri p4hF p4a_ind p4a_tot p4a_pri p5hF p5a_ind p5a_tot p5a_pri hF a_ind a_tot a_pri rind rtot rpri rq rfr rli rsh 4 sts ind tot pri q fr li sh)) E hX 0 rfl rfl ly_X3 tyX3_ok nmX3 1 (by decide) fl_X3_17 rfl rfl rfl (Nat.le_of_ble_eq_true rfl) rfl dX3_returns_25 (fun H locs hX => ?_)
        refine xr_aload_n E hl 0 rfl dX3_returns_28 rfl ?_
        refine xr_dup E dX3_returns_29 rfl ?_
        refine xr_get E hX 0 rfl rfl ly_X3 2 (by decide) fl_X3_21 rfl dX3_returns_30 ?_
        refine xr_iconst E dX3_returns_33 ?_
        refine xr_isub E dX3_returns_34 ?_
        refine xr_put (W1 := (W_PF y hP a_ring p0hF p0a_ind p0a_tot p0a_pri p1hF p1a_ind p1a_tot p1a_pri p2hF p2a_ind p2a_tot p2a_pri p3hF p3a_ind p3a_tot p3a_pri p4hF p4a_ind p4a_tot p4a_pri p5hF p5a_ind p5a_tot p5a_pri hF a_ind a_tot a_pri rind rtot rpri rq rfr rli rsh 4 (sts - 1) ind tot pri q fr li sh)) E hX 0 rfl rfl ly_X3 tyX3_ok nmX3 2 (by decide) fl_X3_21 rfl rfl rfl (Nat.le_of_ble_eq_true rfl) rfl dX3_returns_35 (fun H locs hX => ?_)
        refine xr_aload_n E hl 1 rfl dX3_returns_38 rfl ?_
        refine xr_aload_n E hl 0 rfl dX3_returns_39 rfl ?_
        refine xr_get E hX 0 rfl rfl ly_X3 0 (by decide) fl_X3_11 rfl dX3_returns_40 ?_
        refine xr_aload_n E hl 0 rfl dX3_returns_43 rfl ?_
        refine xr_get E hX 0 rfl rfl ly_X3 1 (by decide) fl_X3_17 rfl dX3_returns_44 ?_
        refine xr_aald E hX 1 rfl (by decide) (by decide) (by decide) rfl dX3_returns_47 ?_
        refine xk_v (W2 := fun uu => (W_PF y hP a_ring p0hF p0a_ind p0a_tot p0a_pri p1hF p1a_ind p1a_tot p1a_pri p2hF p2a_ind p2a_tot p2a_pri p3hF p3a_ind p3a_tot p3a_pri p4hF p4a_ind p4a_tot p4a_pri p5hF p5a_ind p5a_tot p5a_pri hF a_ind a_tot a_pri rind rtot rpri rq rfr rli rsh 4 (sts - 1) uu.1 uu.2.1 uu.2.2.1 uu.2.2.2.1 uu.2.2.2.2.1 uu.2.2.2.2.2.1 uu.2.2.2.2.2.2)) E hX [26, 27, 28, 29, 18, 19, 20, 21] rfl (xv_V (As := [.ref p4hF]) E hX hl (c_X2_becomes l D y z _ hF a_ind a_tot a_pri p4hF p4a_ind p4a_tot p4a_pri ind tot pri q fr li sh (rind 4) (rtot 4) (rpri 4) (rq 4) (rfr 4) (rli 4) (rsh 4)) ml_X3_25 im_X2_becomes se_X2_becomes in_X2 co_X2_becomes 1 (by decide) ⟨rfl, rfl⟩ ⟨Nat.le_of_ble_eq_true rfl, Nat.le_of_ble_eq_true rfl⟩ [26, 27, 28, 29, 18, 19, 20, 21] rfl rfl 26 rfl rfl rfl rfl rfl (Nat.le_of_ble_eq_true rfl) dX3_returns_48 ⟨Nat.le_refl _, Nat.le_refl _⟩) [8, 9, 10, 11, 12, 13, 14, 15, 16, 17, 18, 19, 20, 21, 22, 23, 24, 25, 4, 5, 6, 7, 30, 31, 32, 33, 0, 1, 2, 3] 8 (fun _ => rfl) (fun _ => rfl) (by decide) (by decide) (fun uu H locs hw hX => ?_)
        subst hw
        have hX : XW D A s.heap (W_PF y hP a_ring p0hF p0a_ind p0a_tot p0a_pri p1hF p1a_ind p1a_tot p1a_pri p2hF p2a_ind p2a_tot p2a_pri p3hF p3a_ind p3a_tot p3a_pri p4hF p4a_ind p4a_tot p4a_pri p5hF p5a_ind p5a_tot p5a_pri hF a_ind a_tot a_pri rind rtot rpri rq rfr rli rsh 4 (sts - 1) (rind 4) (rtot 4) (rpri 4) (rq 4) (rfr 4) (rli 4) (rsh 4)) H locs := hX
        exact xr_vret E hX hQ (4, (sts - 1), (rind 4), (rtot 4), (rpri 4), (rq 4), (rfr 4), (rli 4), (rsh 4)) hr (by first | rfl | (exfalso; omega)) rfl dX3_returns_51
      · exact absurd c_12 (by decide)
