/-! the law: its loop -/
def R_law : String := "BentQuartersLaw"
def lw_P (b : Addr) (xs : List Int32) (args : Array Value) (s : State) : Prop := args = #[.ref b] ∧ s.IntsAt b xs ∧ xs.length ≤ 1536 ∧ (Jvm.Cond.and given_1 narrow_1).before args s = true
def lw_Q (_ : Array Value) (s : State) (o : Outcome) (t : State) : Prop := o = .returned (some (.int 1)) ∧ Framed s o t [] 600000 7302250
def lw_Z (below : List Frame) (a : Array Value) (s : State) : State → Prop := fun t => ∃ o, t.status = .running ∧ Ended t below o ∧ lw_Q a s o t
/-- the law's own end, with 1 on the stack, nothing written that was there before, its room as the claim has it -/
theorem lw_ret {p : Program} {l : Launch} {e : Env} {s : State} {m : MethodId} {below : List Frame} {meth : Method} {c : Code} {b : Nat} (hx : p.tables.exec = Jvm.exec) (hb : c.code = code) (hr : meth.sig.returnType = ret) (hlocks : meth.locks = false) {pc : Nat} {H : Heap} {ls : Array Slot} (hdg : decode code pc = .ok (.ireturn, 1)) : W p l e room_1 s m #[Value.ref b] below meth c H [] 600000 7302250 (lw_Z below #[Value.ref b] s) (F0 m pc ls [.int 1]) := by
  intro T hT X
  obtain ⟨fs, hret, hrun, hended, hW, hframe⟩ := X.leave (v := some (.int 1)) (hlocks := hlocks) (fun h => by rw [hr] at h; cases h)
  have hmeth' : T.vm.method? m = some meth := X.method'
  refine ⟨T.setFrames fs, ?_, .returned (some (.int 1)), hrun, hended, rfl, ⟨_, rfl⟩, hW, hframe⟩
  jvm_step X.here [X.here.top, hx, hb, hdg, hmeth', hr, ret, narrow_b1]
  (try refine ⟨rfl, ?_⟩); (try refine ⟨rfl, ?_⟩)
  first | (intro acts; rw [hret _ acts rfl rfl rfl]) | rw [hret _ _ rfl rfl rfl]
  exact Steps.refl _
/-- what holds at the law's entry: the machine, the code, the tables' words (any of lw_tbl by 'hts w (by decide +kernel)'), the script of L ints xs at the cell b, what the Statement gives of the start (any of its parts by flat_of_before) -/
def lw_At (p : Program) (s : State) (m : MethodId) (meth : Method) (c : Code) (b L : Nat) (xs : Nat → Int32) : Prop :=
  p.tables.exec = Jvm.exec ∧ c.code = code ∧ meth.sig.returnType = ret ∧ c.maxLocals = 4 ∧ s.vm.findClass R_law = some m.cls ∧ (∀ w ∈ lw_tbl, w.before #[Value.ref b] s = true) ∧ va_X b L xs s s.heap ∧ b < s.heap.size ∧ meth.locks = false ∧ (Jvm.Cond.and given_1 narrow_1).before #[Value.ref b] s = true
theorem ao_X2 : Cond.arrayOver (.object RX2) ∈ lw_tbl := lw_mem 198 (by decide +kernel)
section LL
variable {p : Program} {l : Launch} {e : Env} {s : State} {m : MethodId} {below : List Frame} {meth : Method} {cX : Code} {D : va_G} {y : CY} {z b : Nat} {A : Nat → Prop} {hXo hF a_ind a_tot a_pri hD hB a_low a_high a_ll a_lh a_bnd a_gap a_costs a_ways a_stc a_row hP a_ring p0hF p0a_ind p0a_tot p0a_pri p1hF p1a_ind p1a_tot p1a_pri p2hF p2a_ind p2a_tot p2a_pri p3hF p3a_ind p3a_tot p3a_pri p4hF p4a_ind p4a_tot p4a_pri p5hF p5a_ind p5a_tot p5a_pri hT a_byt a_ltr a_fir a_sec a_rfs a_shs hMo a_now a_asd a_pst a_mrf a_txt a_olt a_ofr a_nbs a_best a_wys a_rwx a_shx a_bef : Nat} {xs : Nat → Int32} {Ln : Nat}
set_option maxHeartbeats 4000000 in
set_option maxRecDepth 100000 in
theorem xw_L {H : Heap} {locs : List Loc} {ind : Int → Int} {tot : Int → Int} {pri : Int → Int} {q : Int} {fr : Int} {li : Int} {sh : Int} {low : Int → Int} {high : Int → Int} {ll : Int → Int} {lh : Int → Int} {bnd : Int → Bool} {gap : Int → Int} {bq : Int} {costs : Int → Int} {ways : Int → Int} {stc : Int → Int} {bc : Int} {bw : Int} {bs : Int} {kn : Bool} {th : Bool} {row : Int → Int} {rows : Int} {rind : Int → Int → Int} {rtot : Int → Int → Int} {rpri : Int → Int → Int} {rq : Int → Int} {rfr : Int → Int} {rli : Int → Int} {rsh : Int → Int} {top : Int} {sts : Int} {byt : Int → Int} {len : Int} {ltr : Int → Int} {fir : Int → Int} {sec : Int → Int} {ord : Int} {opn : Bool} {num : Int} {fig : Int} {rfs : Int → Int} {shs : Int → Int} {now : Int → Int} {asd : Int → Int} {pst : Int → Int} {msts : Int} {mrf : Int → Int} {txt : Int → Int} {mbyt : Int} {olt : Int → Int} {ofr : Int → Int} {nbs : Int → Int} {mord : Int} {best : Int → Int} {wys : Int → Int} {rwx : Int → Int} {alw : Int} {bco : Int} {alm : Int} {abt : Int} {shx : Int → Int} {mlt : Int} {beg : Int} {figm : Int} {bef : Int → Int} (hX : XW D A s.heap (W_L y hXo hF a_ind a_tot a_pri hD hB a_low a_high a_ll a_lh a_bnd a_gap a_costs a_ways a_stc a_row hP a_ring p0hF p0a_ind p0a_tot p0a_pri p1hF p1a_ind p1a_tot p1a_pri p2hF p2a_ind p2a_tot p2a_pri p3hF p3a_ind p3a_tot p3a_pri p4hF p4a_ind p4a_tot p4a_pri p5hF p5a_ind p5a_tot p5a_pri hT a_byt a_ltr a_fir a_sec a_rfs a_shs hMo a_now a_asd a_pst a_mrf a_txt a_olt a_ofr a_nbs a_best a_wys a_rwx a_shx a_bef ind tot pri q fr li sh low high ll lh bnd gap bq costs ways stc bc bw bs kn th row rows rind rtot rpri rq rfr rli rsh top sts byt len ltr fir sec ord opn num fig rfs shs now asd pst msts mrf txt mbyt olt ofr nbs mord best wys rwx alw bco alm abt shx mlt beg figm bef) H locs) (hR : RNe (ind, tot, pri, q, fr, li, sh) now) : XW D A s.heap (W_L y hXo hF a_ind a_tot a_pri hD hB a_low a_high a_ll a_lh a_bnd a_gap a_costs a_ways a_stc a_row hP a_ring p0hF p0a_ind p0a_tot p0a_pri p1hF p1a_ind p1a_tot p1a_pri p2hF p2a_ind p2a_tot p2a_pri p3hF p3a_ind p3a_tot p3a_pri p4hF p4a_ind p4a_tot p4a_pri p5hF p5a_ind p5a_tot p5a_pri hT a_byt a_ltr a_fir a_sec a_rfs a_shs hMo a_now a_asd a_pst a_mrf a_txt a_olt a_ofr a_nbs a_best a_wys a_rwx a_shx a_bef (mI now) (mT now) (mP now) (now 0) (now 28) (now 29) (now 30) low high ll lh bnd gap bq costs ways stc bc bw bs kn th row rows rind rtot rpri rq rfr rli rsh top sts byt len ltr fir sec ord opn num fig rfs shs now asd pst msts mrf txt mbyt olt ofr nbs mord best wys rwx alw bco alm abt shx mlt beg figm bef) H locs := by
  obtain ⟨r1, r2, r3, r4, r5, r6, r7⟩ := hR
  dsimp only at r1 r2 r3 r4 r5 r6 r7
  subst r4 r5 r6 r7
  have h1 := xw_arr hX (k := 2) rfl (g := mI now) (fun j h0 h1 => r1 j h0 (by omega))
  have h2 := xw_arr h1 (k := 3) rfl (g := mT now) (fun j h0 h1 => r2 j h0 (by omega))
  have h3 := xw_arr h2 (k := 4) rfl (g := mP now) (fun j h0 h1 => r3 j h0 (by omega))
  exact h3
theorem LI_w {n k : Int} {now : Int → Int} {kn : Bool} {th : Bool} {row : Int → Int} {rows : Int} {rind : Int → Int → Int} {rtot : Int → Int → Int} {rpri : Int → Int → Int} {rq : Int → Int} {rfr : Int → Int} {rli : Int → Int} {rsh : Int → Int} {top : Int} {sts : Int} {pst : Int → Int} {byt : Int → Int} {len : Int} {ltr : Int → Int} {fir : Int → Int} {sec : Int → Int} {ord : Int} {num : Int} {fig : Int} {rfs : Int → Int} (h : LI n now kn th row rows rind rtot rpri rq rfr rli rsh top sts pst byt len ltr fir sec ord num fig rfs) (hk : n ≤ k) : LI k now kn th row rows rind rtot rpri rq rfr rli rsh top sts pst byt len ltr fir sec ord num fig rfs := by
  obtain ⟨h1, h2, h3, h4, h5, h6⟩ := h
  exact ⟨h1, h2, h3, h4, h5, RFo_w h6 hk⟩
set_option maxHeartbeats 8000000 in
set_option maxRecDepth 100000 in
theorem law_loop (E : XE p s m #[Value.ref b] meth cX cL_law 4 RL D y z A) (hr : meth.sig.returnType = ret) (hA : ∀ q, A q → s.heap.size ≤ q) (hS : SCR s b A xs Ln) : ∀ (nmu : Nat) (iv : Int) (low : Int → Int) (high : Int → Int) (ll : Int → Int) (lh : Int → Int) (bnd : Int → Bool) (gap : Int → Int) (bq : Int) (costs : Int → Int) (ways : Int → Int) (stc : Int → Int) (bc : Int) (bw : Int) (bs : Int) (kn : Bool) (th : Bool) (row : Int → Int) (rows : Int) (rind : Int → Int → Int) (rtot : Int → Int → Int) (rpri : Int → Int → Int) (rq : Int → Int) (rfr : Int → Int) (rli : Int → Int) (rsh : Int → Int) (top : Int) (sts : Int) (byt : Int → Int) (len : Int) (ltr : Int → Int) (fir : Int → Int) (sec : Int → Int) (ord : Int) (opn : Bool) (num : Int) (fig : Int) (rfs : Int → Int) (shs : Int → Int) (now : Int → Int) (asd : Int → Int) (pst : Int → Int) (olt : Int → Int) (ofr : Int → Int) (nbs : Int → Int) (mord : Int) (best : Int → Int) (wys : Int → Int) (rwx : Int → Int) (alw : Int) (bco : Int) (alm : Int) (abt : Int) (shx : Int → Int) (mlt : Int) (beg : Int) (figm : Int) (bef : Int → Int), ((Ln : Int) - iv).toNat < nmu → (0 ≤ iv ∧ iv ≤ 2000) → LI iv now kn th row rows rind rtot rpri rq rfr rli rsh top sts pst byt len ltr fir sec ord num fig rfs → ∀ (H : Heap) (locs : List Loc) (ls : Array Slot), XW D A s.heap (W_L y hXo hF a_ind a_tot a_pri hD hB a_low a_high a_ll a_lh a_bnd a_gap a_costs a_ways a_stc a_row hP a_ring p0hF p0a_ind p0a_tot p0a_pri p1hF p1a_ind p1a_tot p1a_pri p2hF p2a_ind p2a_tot p2a_pri p3hF p3a_ind p3a_tot p3a_pri p4hF p4a_ind p4a_tot p4a_pri p5hF p5a_ind p5a_tot p5a_pri hT a_byt a_ltr a_fir a_sec a_rfs a_shs hMo a_now a_asd a_pst a_mrf a_txt a_olt a_ofr a_nbs a_best a_wys a_rwx a_shx a_bef (mI now) (mT now) (mP now) (now 0) (now 28) (now 29) (now 30) low high ll lh bnd gap bq costs ways stc bc bw bs kn th row rows rind rtot rpri rq rfr rli rsh top sts byt len ltr fir sec ord opn num fig rfs shs now asd pst sts rfs byt len olt ofr nbs mord best wys rwx alw bco alm abt shx mlt beg figm bef) H locs → lv_has ls 4 [(0, .ref b), (1, .ref hXo), (2, .ref hMo), (3, .int (iI iv))] → W p l e room_1 s m #[Value.ref b] below meth cX H locs 64 34913 (lw_Z below #[Value.ref b] s) (F0 m 18 ls []) := by
  intro nmu
  induction nmu with
  | zero =>
    intro iv low high ll lh bnd gap bq costs ways stc bc bw bs kn th row rows rind rtot rpri rq rfr rli rsh top sts byt len ltr fir sec ord opn num fig rfs shs now asd pst olt ofr nbs mord best wys rwx alw bco alm abt shx mlt beg figm bef hmu
    exact absurd hmu (Nat.not_lt_zero _)
  | succ nmu ih =>
    intro iv low high ll lh bnd gap bq costs ways stc bc bw bs kn th row rows rind rtot rpri rq rfr rli rsh top sts byt len ltr fir sec ord opn num fig rfs shs now asd pst olt ofr nbs mord best wys rwx alw bco alm abt shx mlt beg figm bef hmu hv I H locs ls hX hl
    have hLn := hS.2.2.2
    refine xr_iload_n E hl 3 rfl dL_law_18 rfl ?_
    refine xr_aload_n E hl 0 rfl dL_law_19 rfl ?_
    refine xr_slen E hX hS dL_law_20 ?_
    refine xr_iconst E dL_law_21 ?_
    refine xr_isub E dL_law_22 ?_
    refine xr_icmp_gt (tgt := 747) E dL_law_23 (by decide) ⟨by omega, by omega⟩ ⟨by omega, by omega⟩ (fun c_23 => ?_) (fun c_23 => ?_)
    · refine xr_iconst E dL_law_747 ?_
      refine va_forget (fun q hq => hA _ (hX.2.2.2.2 q hq)) ?_
      refine W.widen (k := 600000) (n := 7302250) (Nat.le_of_ble_eq_true rfl) (Nat.le_of_ble_eq_true rfl) ?_
      rw [show iI 1 = (1 : Int32) by decide]
      exact lw_ret E.1 E.2.1 hr E.2.2.2.2.2.2.2.2 dL_law_748
    · have hi : 0 ≤ iv ∧ iv + 3 ≤ Ln := ⟨by omega, by omega⟩
      have K : LK p l e s m #[Value.ref b] below meth cX (lw_Z below #[Value.ref b] s) D y b A hXo hF a_ind a_tot a_pri hD hB a_low a_high a_ll a_lh a_bnd a_gap a_costs a_ways a_stc a_row hP a_ring p0hF p0a_ind p0a_tot p0a_pri p1hF p1a_ind p1a_tot p1a_pri p2hF p2a_ind p2a_tot p2a_pri p3hF p3a_ind p3a_tot p3a_pri p4hF p4a_ind p4a_tot p4a_pri p5hF p5a_ind p5a_tot p5a_pri hT a_byt a_ltr a_fir a_sec a_rfs a_shs hMo a_now a_asd a_pst a_mrf a_txt a_olt a_ofr a_nbs a_best a_wys a_rwx a_shx a_bef iv := by
        intro low high ll lh bnd gap bq costs ways stc bc bw bs kn th row rows rind rtot rpri rq rfr rli rsh top sts byt len ltr fir sec ord opn num fig rfs shs now asd pst olt ofr nbs mord best wys rwx alw bco alm abt shx mlt beg figm bef I H locs ls hX hl
        refine xr_iinc (k := 3) (lv' := [(3, .int (iI (iv + 3))), (0, .ref b), (1, .ref hXo), (2, .ref hMo)]) E hl rfl dL_law_741 (by decide) rfl (fun ls hl => ?_)
        refine xr_goto (tgt := 18) E dL_law_744 (by decide) ?_
        exact ih (iv + 3) low high ll lh bnd gap bq costs ways stc bc bw bs kn th row rows rind rtot rpri rq rfr rli rsh top sts byt len ltr fir sec ord opn num fig rfs shs now asd pst olt ofr nbs mord best wys rwx alw bco alm abt shx mlt beg figm bef (by omega) ⟨by omega, by omega⟩ I H locs ls hX (lv_sub hl [1, 2, 3, 0] rfl)
      refine xr_aload_n E hl 0 rfl dL_law_26 rfl ?_
      refine xr_iload_n E hl 3 rfl dL_law_27 rfl ?_
      refine xr_sld E hX hS (by omega) (by omega) dL_law_28 ?_
      refine xr_bipush E dL_law_29 (by decide) ?_
      refine xr_iand E dL_law_31 ?_
      have hsm := bAnd_sm (sX xs iv) 31
      generalize bAnd (sX xs iv) 31 = kv at hsm ⊢
      by_cases k_0 : kv = 0
      · refine xr_tabIn (tgt := 156) E dL_law_32 hsm 0 (by omega) (by omega) rfl (by decide) ?_
        exact law_0 E hS hi K I hX hl
      by_cases k_1 : kv = 1
      · refine xr_tabIn (tgt := 179) E dL_law_32 hsm 1 (by omega) (by omega) rfl (by decide) ?_
        exact law_1 E hS hi K I hX hl
      by_cases k_2 : kv = 2
      · refine xr_tabIn (tgt := 212) E dL_law_32 hsm 2 (by omega) (by omega) rfl (by decide) ?_
        exact law_2 E hS hi K I hX hl
      by_cases k_3 : kv = 3
      · refine xr_tabIn (tgt := 245) E dL_law_32 hsm 3 (by omega) (by omega) rfl (by decide) ?_
        exact law_3 E hS hi K I hX hl
      by_cases k_4 : kv = 4
      · refine xr_tabIn (tgt := 268) E dL_law_32 hsm 4 (by omega) (by omega) rfl (by decide) ?_
        exact law_4 E hS hi K I hX hl
      by_cases k_5 : kv = 5
      · refine xr_tabIn (tgt := 301) E dL_law_32 hsm 5 (by omega) (by omega) rfl (by decide) ?_
        exact law_5 E hS hi K I hX hl
      by_cases k_6 : kv = 6
      · refine xr_tabIn (tgt := 324) E dL_law_32 hsm 6 (by omega) (by omega) rfl (by decide) ?_
        exact law_6 E hS hi K I hX hl
      by_cases k_7 : kv = 7
      · refine xr_tabIn (tgt := 347) E dL_law_32 hsm 7 (by omega) (by omega) rfl (by decide) ?_
        exact law_7 E hS hi K I hX hl
      by_cases k_8 : kv = 8
      · refine xr_tabIn (tgt := 360) E dL_law_32 hsm 8 (by omega) (by omega) rfl (by decide) ?_
        exact law_8 E hS hi K I hX hl
      by_cases k_9 : kv = 9
      · refine xr_tabIn (tgt := 373) E dL_law_32 hsm 9 (by omega) (by omega) rfl (by decide) ?_
        exact law_9 E hS hi K I hX hl
      by_cases k_10 : kv = 10
      · refine xr_tabIn (tgt := 406) E dL_law_32 hsm 10 (by omega) (by omega) rfl (by decide) ?_
        exact law_10 E hS hi K I hX hl
      by_cases k_11 : kv = 11
      · refine xr_tabIn (tgt := 439) E dL_law_32 hsm 11 (by omega) (by omega) rfl (by decide) ?_
        exact law_11 E hS hi K I hX hl
      by_cases k_12 : kv = 12
      · refine xr_tabIn (tgt := 462) E dL_law_32 hsm 12 (by omega) (by omega) rfl (by decide) ?_
        exact law_12 E hS hi K I hX hl
      by_cases k_13 : kv = 13
      · refine xr_tabIn (tgt := 485) E dL_law_32 hsm 13 (by omega) (by omega) rfl (by decide) ?_
        exact law_13 E hS hi K I hX hl
      by_cases k_14 : kv = 14
      · refine xr_tabIn (tgt := 509) E dL_law_32 hsm 14 (by omega) (by omega) rfl (by decide) ?_
        exact law_14 E hS hi K I hX hl
      by_cases k_15 : kv = 15
      · refine xr_tabIn (tgt := 532) E dL_law_32 hsm 15 (by omega) (by omega) rfl (by decide) ?_
        exact law_15 E hS hi K I hX hl
      by_cases k_16 : kv = 16
      · refine xr_tabIn (tgt := 545) E dL_law_32 hsm 16 (by omega) (by omega) rfl (by decide) ?_
        exact law_16 E hS hi K I hX hl
      by_cases k_17 : kv = 17
      · refine xr_tabIn (tgt := 558) E dL_law_32 hsm 17 (by omega) (by omega) rfl (by decide) ?_
        exact law_17 E hS hi K I hX hl
      by_cases k_18 : kv = 18
      · refine xr_tabIn (tgt := 582) E dL_law_32 hsm 18 (by omega) (by omega) rfl (by decide) ?_
        exact law_18 E hS hi K I hX hl
      by_cases k_19 : kv = 19
      · refine xr_tabIn (tgt := 595) E dL_law_32 hsm 19 (by omega) (by omega) rfl (by decide) ?_
        exact law_19 E hS hi K I hX hl
      by_cases k_20 : kv = 20
      · refine xr_tabIn (tgt := 618) E dL_law_32 hsm 20 (by omega) (by omega) rfl (by decide) ?_
        exact law_20 E hS hi K I hX hl
      by_cases k_21 : kv = 21
      · refine xr_tabIn (tgt := 642) E dL_law_32 hsm 21 (by omega) (by omega) rfl (by decide) ?_
        exact law_21 E hS hi K I hX hl
      by_cases k_22 : kv = 22
      · refine xr_tabIn (tgt := 665) E dL_law_32 hsm 22 (by omega) (by omega) rfl (by decide) ?_
        exact law_22 E hS hi K I hX hl
      by_cases k_23 : kv = 23
      · refine xr_tabIn (tgt := 678) E dL_law_32 hsm 23 (by omega) (by omega) rfl (by decide) ?_
        exact law_23 E hS hi K I hX hl
      by_cases k_24 : kv = 24
      · refine xr_tabIn (tgt := 691) E dL_law_32 hsm 24 (by omega) (by omega) rfl (by decide) ?_
        exact law_24 E hS hi K I hX hl
      by_cases k_25 : kv = 25
      · refine xr_tabIn (tgt := 704) E dL_law_32 hsm 25 (by omega) (by omega) rfl (by decide) ?_
        exact law_25 E hS hi K I hX hl
      by_cases k_26 : kv = 26
      · refine xr_tabIn (tgt := 727) E dL_law_32 hsm 26 (by omega) (by omega) rfl (by decide) ?_
        exact law_26 E hS hi K I hX hl
      refine xr_tabOut (tgt := 741) E dL_law_32 hsm (by omega) (by decide) ?_
      exact K low high ll lh bnd gap bq costs ways stc bc bw bs kn th row rows rind rtot rpri rq rfr rli rsh top sts byt len ltr fir sec ord opn num fig rfs shs now asd pst olt ofr nbs mord best wys rwx alw bco alm abt shx mlt beg figm bef (LI_w I (by omega)) H locs ls hX hl
end LL
/-! the start -/
theorem FI_init : FI z0 (fillI z0 (-1) 3) (fillI z0 (-1) 12) 0 0 (-1) 0 := by
  have e3 : ∀ v : Int, 0 ≤ v → v < 3 → fillI z0 (-1) 3 v = -1 := fun v h0 h1 => by unfold fillI; rw [if_pos ⟨h0, h1⟩]
  have e12 : ∀ v : Int, 0 ≤ v → v < 12 → fillI z0 (-1) 12 v = -1 := fun v h0 h1 => by unfold fillI; rw [if_pos ⟨h0, h1⟩]
  refine ⟨by omega, fun t h0 h1 => ?_, fun v h0 h1 => ?_, fun t h0 h1 => Or.inl (e12 t h0 h1), by omega, by omega, Or.inl rfl⟩
  · show 0 ≤ (0 : Int) ∧ (0 : Int) ≤ 99 ∧ (t < 0 → 1 ≤ (0 : Int))
    omega
  · rw [e3 v h0 h1]
    omega
theorem now_init {k : Int} (h0 : 0 ≤ k) (h1 : k < 31) : fillR z0 0 31 mN0 k = if k < 13 ∨ k = 28 ∨ k = 30 then 0 else -1 := by
  rw [fillR_in h0 (by omega)]
  rfl
theorem RN_init : RNe (z0, fillI z0 (-1) 3, fillI z0 (-1) 12, 0, 0, -1, 0) (fillR z0 0 31 mN0) := by
  refine ⟨fun t h0 h1 => ?_, fun t h0 h1 => ?_, fun t h0 h1 => ?_, ?_, ?_, ?_, ?_⟩
  · show (0 : Int) = fillR z0 0 31 mN0 (1 + t)
    rw [now_init (by omega) (by omega), if_pos (by omega)]
  · show fillI z0 (-1) 3 t = fillR z0 0 31 mN0 (13 + t)
    rw [now_init (by omega) (by omega), if_neg (by omega)]
    unfold fillI
    rw [if_pos ⟨h0, h1⟩]
  · show fillI z0 (-1) 12 t = fillR z0 0 31 mN0 (16 + t)
    rw [now_init (by omega) (by omega), if_neg (by omega)]
    unfold fillI
    rw [if_pos ⟨h0, h1⟩]
  · show (0 : Int) = fillR z0 0 31 mN0 0
    rw [now_init (by omega) (by omega), if_pos (by omega)]
  · show (0 : Int) = fillR z0 0 31 mN0 28
    rw [now_init (by omega) (by omega), if_pos (by omega)]
  · show (-1 : Int) = fillR z0 0 31 mN0 29
    rw [now_init (by omega) (by omega), if_neg (by omega)]
  · show (0 : Int) = fillR z0 0 31 mN0 30
    rw [now_init (by omega) (by omega), if_pos (by omega)]
theorem LI_init : LI 0 (fillR z0 0 31 mN0) false false z0 0 (kF z0) (kF (fillI z0 (-1) 3)) (kF (fillI z0 (-1) 12)) (kF 0) (kF 0) (kF (-1)) (kF 0) 0 0 z0 z0 0 z0 z0 z0 0 0 0 z0 := by
  refine ⟨RNe_FM RN_init FI_init, fun h => (by cases h), ⟨by omega, by omega, fun k k0 k1 => by omega⟩, ⟨by omega, fun k k0 k1 => ?_⟩, ⟨fun k k0 k1 => ?_, by omega, by omega, by omega⟩, fun k k0 k1 => ?_⟩
  · show 0 ≤ (0 : Int) ∧ (0 : Int) ≤ 127
    omega
  · show (0 ≤ (0 : Int) ∧ (0 : Int) ≤ 127) ∧ (0 ≤ (0 : Int) ∧ (0 : Int) ≤ 999) ∧ 0 ≤ (0 : Int) ∧ (0 : Int) ≤ 999
    omega
  · show 0 ≤ (0 : Int) ∧ (0 : Int) ≤ 0
    omega
theorem arr_known {args : Array Value} {s : State} {ty : FieldType} (h : (Cond.arrayClass ty).before args s = true) : ∃ cA : ClassId, ArrOfT s cA ty ∧ s.vm.findClass ("[" ++ ty.toString) = some cA := by
  obtain ⟨c, k, comp, h1, h2, h3⟩ := Cond.arrayClass_spec h
  exact ⟨c, fun n z => ⟨fun k h => (by cases h), k, h2, comp, h3⟩, h1⟩
theorem SB_known {args : Array Value} {s : State} {A : Nat → Prop} (hA : ∀ a : Nat, a < s.heap.size → ¬ A a) (hl : (Cond.laysStatic "BentQuarters" "SPOTS_BEGIN" "[I").before args s = true) (hini : (Cond.initialized RX5).before args s = true) (hg : (Jvm.Cond.and given_1 narrow_1).before args s = true) : ∃ z : Nat, SB z A s s.heap := by
  have hs := flat_of_before _ hg
  have h1 : (Cond.arrayOf (.static "BentQuarters" "SPOTS_BEGIN" "[I") .int).before args s = true := hs _ (by decide +kernel)
  have h2 : (Cond.eq (.length (.static "BentQuarters" "SPOTS_BEGIN" "[I")) (.int 4)).before args s = true := hs _ (by decide +kernel)
  have g0 : (Cond.eq (.elem (.static "BentQuarters" "SPOTS_BEGIN" "[I") (.int 0)) (.int 0)).before args s = true := hs _ (by decide +kernel)
  have g1 : (Cond.eq (.elem (.static "BentQuarters" "SPOTS_BEGIN" "[I") (.int 1)) (.int 289)).before args s = true := hs _ (by decide +kernel)
  have g2 : (Cond.eq (.elem (.static "BentQuarters" "SPOTS_BEGIN" "[I") (.int 2)) (.int 850)).before args s = true := hs _ (by decide +kernel)
  have g3 : (Cond.eq (.elem (.static "BentQuarters" "SPOTS_BEGIN" "[I") (.int 3)) (.int 1139)).before args s = true := hs _ (by decide +kernel)
  have i0 : iI 0 = (0 : Int32) := by decide
  have i1 : iI 289 = (289 : Int32) := by decide
  have i2 : iI 850 = (850 : Int32) := by decide
  have i3 : iI 1139 = (1139 : Int32) := by decide
  obtain ⟨t, ht, hT⟩ := va_Tof (N := 4) (f := sbF) (A := A) (by decide) h1 (va_eqt h2) (fun j hj => by
    rcases (show j = 0 ∨ j = 1 ∨ j = 2 ∨ j = 3 by omega) with rfl | rfl | rfl | rfl
    · show _ = some (Value.int (iI 0)); rw [i0]; exact va_eqt g0
    · show _ = some (Value.int (iI 289)); rw [i1]; exact va_eqt g1
    · show _ = some (Value.int (iI 850)); rw [i2]; exact va_eqt g2
    · show _ = some (Value.int (iI 1139)); rw [i3]; exact va_eqt g3) hA
  exact ⟨t, va_Zof hl hini ht hA, hT⟩
