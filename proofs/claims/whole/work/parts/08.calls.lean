/-! a contract from a walk, and the calls -/
theorem tw_good : ∀ w ∈ TW, goodWord w = true := fun _ h => (List.mem_filter.mp h).2
theorem tw_in {a : Cond} {y : MethodName} {b : ByteArray} {n : Nat} {r : Option FieldType} (hco : Cond.code y b n r ∈ TW) : GoodIn (a :: TW) (Cond.code y b n r :: TW) := by
  intro w hw
  have h1 : w ∈ TW := by
    rcases List.mem_cons.mp hw with h | h
    · rw [h]; exact hco
    · exact h
  exact ⟨List.mem_cons_of_mem _ h1, good_of_word (tw_good w h1)⟩
theorem tw_in0 {y : MethodName} {b : ByteArray} {n : Nat} {r : Option FieldType} (hco : Cond.code y b n r ∈ TW) : GoodIn TW (Cond.code y b n r :: TW) := by
  intro w hw
  have h1 : w ∈ TW := by
    rcases List.mem_cons.mp hw with h | h
    · rw [h]; exact hco
    · exact h
  exact ⟨h1, good_of_word (tw_good w h1)⟩
theorem xm_start {l : Launch} {yM : MethodName} {cc : ByteArray} {maxL : Nat} {ret : Option FieldType} {rm : Room} {D : va_G} {y : CY} {z sz : Nat} {av : List Value} {W0 : va_W} {Qc : Array Value → State → Outcome → State → Prop} {mc ms : Nat}
    (hy : plainName yM.cls = true) (hlen : (lg_sl av).length ≤ maxL)
    (body : ∀ (p : Program) (e : Env) (s : State) (m : MethodId) (below : List Frame) (meth : Method) (c : Code) (ls : Array Slot), sz = s.heap.size → XE p s m av.toArray meth c cc maxL yM.cls D y z (va_A W0 sz) → meth.sig.returnType = ret → meth.name = yM.name → XW D (va_A W0 sz) s.heap W0 s.heap [] → lv_has ls maxL (lv_args 0 av) →
      W p l e rm s m av.toArray below meth c s.heap [] 0 0 (MQ below Qc av.toArray s mc ms (va_A W0 sz)) (F0 m 0 ls [])) :
    Met l yM (Cond.code yM cc maxL ret :: TW) rm (va_Pc av (PX D y z W0 sz)) Qc mc ms (va_A W0 sz) := by
  refine Met.ofW (cc := cc) (maxL := maxL) (ret := ret) hy rfl ?_
  intro p e s m args below meth c s₁ B hml hv
  obtain ⟨rfl, hsz, hP, hK, hD0, hZ⟩ := hv
  have hts := atoms_spec (ws := Cond.code yM cc maxL ret :: TW) B.pre
  have hown : s.vm.findClass yM.cls = some m.cls := findClass_of_methodNamed B.named
  have hin : meth.name = yM.name := (name_of_methodNamed B.named B.method).1
  rw [lg_entry_eq]
  exact body p e s m below meth c _ hsz.symm ⟨B.exec, B.bytes, hml, hown, fun w h => hts w (List.mem_cons_of_mem _ h), fun q h => Or.inr (by rw [← hsz]; exact h), hK, hZ, B.notSynchronized⟩ B.returns hin ⟨hP, hD0.self, va_S.rf⟩ (lv_entry av hlen)
theorem xm_i {l : Launch} {yM : MethodName} {cc : ByteArray} {maxL : Nat} {ret : Option FieldType} {rm : Room} {D : va_G} {y : CY} {z sz : Nat} {av : List Value} {W0 : va_W} {S : Type} {post : Int32 → S → Prop} {W1 : S → va_W} {mc ms : Nat}
    (hy : plainName yM.cls = true) (hlen : (lg_sl av).length ≤ maxL)
    (body : ∀ (p : Program) (e : Env) (s : State) (m : MethodId) (args : Array Value) (below : List Frame) (meth : Method) (c : Code) (ls : Array Slot) (A : Nat → Prop) (Q : State → Prop), XE p s m args meth c cc maxL yM.cls D y z A → meth.sig.returnType = ret → meth.name = yM.name → XW D A s.heap W0 s.heap [] → lv_has ls maxL (lv_args 0 av) → MQ below (va_Qi post (fun u t => BX D (W1 u) A t) A) args s mc ms A = Q →
      W p l e rm s m args below meth c s.heap [] 0 0 Q (F0 m 0 ls [])) :
    Met l yM (Cond.code yM cc maxL ret :: TW) rm (va_Pc av (PX D y z W0 sz)) (va_Qi post (fun u t => BX D (W1 u) (va_A W0 sz) t) (va_A W0 sz)) mc ms (va_A W0 sz) :=
  xm_start hy hlen (fun p e s m below meth c ls _ E hr hn hX hl => body p e s m av.toArray below meth c ls (va_A W0 sz) _ E hr hn hX hl rfl)
theorem xm_l {l : Launch} {yM : MethodName} {cc : ByteArray} {maxL : Nat} {ret : Option FieldType} {rm : Room} {D : va_G} {y : CY} {z sz : Nat} {av : List Value} {W0 : va_W} {S : Type} {post : Int64 → S → Prop} {W1 : S → va_W} {mc ms : Nat}
    (hy : plainName yM.cls = true) (hlen : (lg_sl av).length ≤ maxL)
    (body : ∀ (p : Program) (e : Env) (s : State) (m : MethodId) (args : Array Value) (below : List Frame) (meth : Method) (c : Code) (ls : Array Slot) (A : Nat → Prop) (Q : State → Prop), XE p s m args meth c cc maxL yM.cls D y z A → meth.sig.returnType = ret → meth.name = yM.name → XW D A s.heap W0 s.heap [] → lv_has ls maxL (lv_args 0 av) → MQ below (va_Ql post (fun u t => BX D (W1 u) A t) A) args s mc ms A = Q →
      W p l e rm s m args below meth c s.heap [] 0 0 Q (F0 m 0 ls [])) :
    Met l yM (Cond.code yM cc maxL ret :: TW) rm (va_Pc av (PX D y z W0 sz)) (va_Ql post (fun u t => BX D (W1 u) (va_A W0 sz) t) (va_A W0 sz)) mc ms (va_A W0 sz) :=
  xm_start hy hlen (fun p e s m below meth c ls _ E hr hn hX hl => body p e s m av.toArray below meth c ls (va_A W0 sz) _ E hr hn hX hl rfl)
theorem xm_v {l : Launch} {yM : MethodName} {cc : ByteArray} {maxL : Nat} {ret : Option FieldType} {rm : Room} {D : va_G} {y : CY} {z sz : Nat} {av : List Value} {W0 : va_W} {S : Type} {post : S → Prop} {W1 : S → va_W} {mc ms : Nat}
    (hy : plainName yM.cls = true) (hlen : (lg_sl av).length ≤ maxL)
    (body : ∀ (p : Program) (e : Env) (s : State) (m : MethodId) (args : Array Value) (below : List Frame) (meth : Method) (c : Code) (ls : Array Slot) (A : Nat → Prop) (Q : State → Prop), XE p s m args meth c cc maxL yM.cls D y z A → meth.sig.returnType = ret → meth.name = yM.name → XW D A s.heap W0 s.heap [] → lv_has ls maxL (lv_args 0 av) → MQ below (va_Qv post (fun u t => BX D (W1 u) A t) A) args s mc ms A = Q →
      W p l e rm s m args below meth c s.heap [] 0 0 Q (F0 m 0 ls [])) :
    Met l yM (Cond.code yM cc maxL ret :: TW) rm (va_Pc av (PX D y z W0 sz)) (va_Qv post (fun u t => BX D (W1 u) (va_A W0 sz) t) (va_A W0 sz)) mc ms (va_A W0 sz) :=
  xm_start hy hlen (fun p e s m below meth c ls _ E hr hn hX hl => body p e s m av.toArray below meth c ls (va_A W0 sz) _ E hr hn hX hl rfl)
theorem xw_call {D : va_G} {A : Nat → Prop} {H0 H H1 : Heap} {W0 Wc W1 W2 : va_W} {locs1 : List Loc} (hP : va_P D vwCl W0 H) (hD : va_D A W0) (isC : List Nat) (hC : isC.map (fun i => W0[i]?) = Wc.map some) (ps : List Nat) (n1 : Nat) (hn1 : W1.length = n1) (hps : ps.map (fun i => (W1 ++ W0)[i]?) = W2.map some) (hnd : va_nd ps = true) (hdis : ∀ i ∈ ps, n1 ≤ i → i - n1 ∉ isC)
    (hF : ∀ q, va_A Wc H.size q → A q) (hk : ∀ q : Nat, q < H.size → ¬ va_A Wc H.size q → H1[q]? = H[q]?) (hP1 : va_P D vwCl W1 H1) (hD1 : va_D (va_A Wc H.size) W1) (hS : va_S A H0 H1 locs1) : XW D A H0 W2 H1 locs1 := by
  have at' : ∀ {is : List Nat} {w w' : va_W}, is.map (fun i => w[i]?) = w'.map some → ∀ (k : Nat) (q : Nat × va_E), w'[k]? = some q → ∃ i, is[k]? = some i ∧ w[i]? = some q := by
    intro is w w' hs k q hq
    have h1 : (is.map (fun i => w[i]?))[k]? = some (some q) := by rw [hs, List.getElem?_map, hq]; rfl
    rw [List.getElem?_map] at h1
    cases hi : is[k]? with
    | none => rw [hi] at h1; cases h1
    | some i => rw [hi] at h1; exact ⟨i, rfl, Option.some.inj h1⟩
  have apart : ∀ (i : Nat) (q : Nat × va_E), W0[i]? = some q → i ∉ isC → q.1 < H.size ∧ ¬ va_A Wc H.size q.1 := by
    intro i q hq hi
    have hl := (hP i q hq).lt
    refine ⟨hl, fun h => ?_⟩
    rcases h with ⟨k2, e, h⟩ | h
    · obtain ⟨j, h3, h4⟩ := at' hC k2 (q.1, e) h
      have hij := hD.1 i j q (q.1, e) hq h4 rfl
      subst hij
      exact hi (List.mem_of_getElem? h3)
    · omega
  have src : ∀ (k : Nat) (q : Nat × va_E), W2[k]? = some q → ∃ i, ps[k]? = some i ∧ ((i < n1 ∧ W1[i]? = some q) ∨ (n1 ≤ i ∧ i - n1 ∉ isC ∧ W0[i - n1]? = some q)) := by
    intro k q hq
    obtain ⟨i, h1, h2⟩ := at' hps k q hq
    refine ⟨i, h1, ?_⟩
    rcases Nat.lt_or_ge i n1 with h | h
    · rw [List.getElem?_append_left (by rw [hn1]; exact h)] at h2
      exact Or.inl ⟨h, h2⟩
    · rw [List.getElem?_append_right (by rw [hn1]; exact h), hn1] at h2
      exact Or.inr ⟨h, hdis i (List.mem_of_getElem? h1) h, h2⟩
  refine ⟨fun k q hq => ?_, ⟨fun i j p q hi hj hpq => ?_, fun k q hq => ?_⟩, hS⟩
  · obtain ⟨i, -, h | h⟩ := src k q hq
    · exact hP1 i q h.2
    · obtain ⟨g1, g2⟩ := apart _ q h.2.2 h.2.1
      exact (hP _ q h.2.2).kept (hk q.1 g1 g2)
  · obtain ⟨i1, e1, h1⟩ := src i p hi
    obtain ⟨j1, e2, h2⟩ := src j q hj
    have e : i1 = j1 := by
      rcases h1 with h1 | h1 <;> rcases h2 with h2 | h2
      · exact hD1.1 i1 j1 p q h1.2 h2.2 hpq
      · exact absurd (hD1.2 i1 p h1.2) (by rw [hpq]; exact (apart _ q h2.2.2 h2.2.1).2)
      · exact absurd (hD1.2 j1 q h2.2) (by rw [← hpq]; exact (apart _ p h1.2.2 h1.2.1).2)
      · have := hD.1 _ _ p q h1.2.2 h2.2.2 hpq
        omega
    subst e
    exact va_nd_inj ps hnd i j _ e1 e2
  · obtain ⟨i, -, h | h⟩ := src k q hq
    · exact hF _ (hD1.2 i q h.2)
    · exact hD.2 _ q h.2.2
theorem xw_read {D : va_G} {A : Nat → Prop} {H0 H H1 : Heap} {W0 Wc : va_W} {locs1 : List Loc} (hP : va_P D vwCl W0 H) (hD : va_D A W0) (isC : List Nat) (hC : isC.map (fun i => W0[i]?) = Wc.map some)
    (hk : ∀ q : Nat, q < H.size → ¬ va_A Wc H.size q → H1[q]? = H[q]?) (hP1 : va_P D vwCl Wc H1) (hS : va_S A H0 H1 locs1) : XW D A H0 W0 H1 locs1 := by
  refine ⟨fun k q hq => ?_, hD, hS⟩
  have hl := (hP k q hq).lt
  by_cases h : va_A Wc H.size q.1
  · rcases h with ⟨k2, e, h⟩ | h
    · have h1 : (isC.map (fun i => W0[i]?))[k2]? = some (some (q.1, e)) := by rw [hC, List.getElem?_map, h]; rfl
      rw [List.getElem?_map] at h1
      cases hi : isC[k2]? with
      | none => rw [hi] at h1; cases h1
      | some i =>
        rw [hi] at h1
        have h2 : W0[i]? = some (q.1, e) := Option.some.inj h1
        have e1 := hD.1 k i q (q.1, e) hq h2 rfl
        subst e1
        have e2 : q = (q.1, e) := Option.some.inj (hq.symm.trans h2)
        rw [e2]
        exact hP1 k2 _ h
    · omega
  · exact (hP k q hq).kept (hk q.1 hl h)
section XC
variable {p : Program} {l : Launch} {e : Env} {R : Room} {s : State} {m : MethodId} {args : Array Value} {below : List Frame} {meth : Method} {c : Code} {H : Heap} {locs : List Loc} {cells slots : Nat} {Q : State → Prop} {pc : Nat} {ls : Array Slot} {rest st0 : List Value} {cc : ByteArray} {nL : Nat} {own : String} {D : va_G} {y : CY} {z : Nat} {A : Nat → Prop} {W0 Wc : va_W} {lv : List (Nat × Value)}
theorem xw_free (E : XE p s m args meth c cc nL own D y z A) (hX : XW D A s.heap W0 H locs) (isC : List Nat) (hC : isC.map (fun i => W0[i]?) = Wc.map some) : ∀ q, va_A Wc H.size q → A q := va_free hX.2.1 hX.2.2 E.2.2.2.2.2.1 isC hC
theorem px_of (E : XE p s m args meth c cc nL own D y z A) (hX : XW D A s.heap W0 H locs) (isC : List Nat) (hC : isC.map (fun i => W0[i]?) = Wc.map some) (hnd : va_nd isC = true) {av : List Value} : ∀ U : State, U.heap = H → s.WarmedH U.vm → va_Pc av (PX D y z Wc H.size) av.toArray U := by
  intro U hU hW
  refine ⟨rfl, by rw [hU], ?_, EK.warm hW E.2.2.2.2.2.2.1, (hX.2.1.sub isC hnd hC).weaken (fun _ _ _ _ => trivial), ?_⟩
  · rw [hU]
    intro k q hk
    have h1 : (isC.map (fun i => W0[i]?))[k]? = some (some q) := by rw [hC, List.getElem?_map, hk]; rfl
    rw [List.getElem?_map] at h1
    cases hi : isC[k]? with
    | none => rw [hi] at h1; cases h1
    | some i => rw [hi] at h1; exact hX.1 i q (Option.some.inj h1)
  · have h := E.2.2.2.2.2.2.2.1
    rw [hU]
    exact ((h.kept (H1 := H) (fun a h1 h2 => hX.2.2.2.1 a h1 h2)).narrow (xw_free E hX isC hC)).moved hW.alike
variable {yM : MethodName} {bytes : ByteArray} {maxL mc ms n index b : Nat} {ret : Option FieldType} {rm : Room} {Qc : Array Value → State → Outcome → State → Prop} {free : Addr → Prop} {As : List Value}
theorem xv_V (E : XE p s m args meth c cc nL own D y z A) (hX : XW D A s.heap W0 H locs) (hl : lv_has ls nL lv) (hM : Met l yM (Cond.code yM bytes maxL ret :: TW) rm (va_Pc (.ref b :: As) (PX D y z Wc H.size)) Qc mc ms free)
    (hml : Cond.methodLink own index yM ∈ TW) (him : Cond.instanceMethod yM ∈ TW) (hse : Cond.selects yM.cls yM yM ∈ TW) (hin : Cond.initialized yM.cls ∈ TW) (hco : Cond.code yM bytes maxL ret ∈ TW) (n : Nat)
    (hd : yM.cls ≠ "java/lang/invoke/MethodHandle" ∧ yM.cls ≠ "java/lang/invoke/VarHandle" ∧ (parseMethodDescriptor yM.desc).map (fun d => d.parameters.length) = some n) (hrm : rm.cells = mc ∧ rm.slots = ms) (hR : rm.frames + 1 ≤ R.frames ∧ 8 + (maxL + 11) + rm.locals ≤ R.locals)
    (isC : List Nat) (hC : isC.map (fun i => W0[i]?) = Wc.map some) (hnd : va_nd isC = true) (q0 : Nat) {ci : Nat} {q : vw_C} {fs : List Value} (he : W0[q0]? = some (b, .inr (ci, fs))) (hc : vwCl[ci]? = some q) (hq : q.1 = yM.cls)
    (hn : As.length = n) (hst : st0 = As.reverse ++ .ref b :: rest) (hcat : (rest.map fun v => v.category).sum ≤ 8) (hdec : decode cc pc = .ok (.invokevirtual index, 3)) (hf : cells + mc ≤ R.cells ∧ slots + ms ≤ R.slots) :
    va_Run p l e R s m args below meth c H locs cells slots mc ms (F0 m pc ls st0) rest (Qc (Value.ref b :: As).toArray) free := by
  refine va_runV (C := yM.cls) (Ts := TW) (ret := ret) (maxL := maxL) (bytes := bytes) (n := n) ⟨E.1, E.2.1, E.2.2.1, E.2.2.2.1, E.2.2.2.2.1⟩ hM ?_ ⟨PX.blind, ?_, px_of E hX isC hC hnd⟩ rfl hn hl.1 hst (lv_room hcat) hdec hf
  · refine cwV n E.2.2.2.2.1 ?_ rfl hrm.1 hrm.2 ⟨rfl, hd.1, hd.2.1, hd.2.2⟩ hR
    intro w hw
    rcases List.mem_append.mp hw with h | h
    · have hT : w ∈ TW := by
        simp only [List.mem_cons, List.not_mem_nil, or_false] at h
        rcases h with rfl | rfl | rfl | rfl <;> assumption
      exact ⟨hT, good_of_word (tw_good w hT)⟩
    · exact tw_in0 hco w h
  · have h := va_recv E.2.2.2.2.2.2.1.1 hX.1 hc he
    rw [hq] at h
    exact h
theorem xv_S (E : XE p s m args meth c cc nL own D y z A) (hX : XW D A s.heap W0 H locs) (hl : lv_has ls nL lv) (hM : Met l yM (Cond.code yM bytes maxL ret :: TW) rm (va_Pc As (PX D y z Wc H.size)) Qc mc ms free)
    (hml : Cond.methodLink own index yM ∈ TW) (hst2 : Cond.static yM ∈ TW) (hin : Cond.initialized yM.cls ∈ TW) (hco : Cond.code yM bytes maxL ret ∈ TW) (n : Nat)
    (hd : yM.cls ≠ "java/lang/invoke/MethodHandle" ∧ yM.cls ≠ "java/lang/invoke/VarHandle" ∧ (parseMethodDescriptor yM.desc).map (fun d => d.parameters.length) = some n) (hrm : rm.cells = mc ∧ rm.slots = ms) (hR : rm.frames + 1 ≤ R.frames ∧ 8 + (maxL + 11) + rm.locals ≤ R.locals)
    (isC : List Nat) (hC : isC.map (fun i => W0[i]?) = Wc.map some) (hnd : va_nd isC = true)
    (hn : As.length = n) (hst : st0 = As.reverse ++ rest) (hcat : (rest.map fun v => v.category).sum ≤ 8) (hdec : decode cc pc = .ok (.invokestatic index, 3)) (hf : cells + mc ≤ R.cells ∧ slots + ms ≤ R.slots) :
    va_Run p l e R s m args below meth c H locs cells slots mc ms (F0 m pc ls st0) rest (Qc As.toArray) free :=
  va_runS (Ts := TW) (ret := ret) (maxL := maxL) (bytes := bytes) (n := n) ⟨E.1, E.2.1, E.2.2.1, E.2.2.2.1, E.2.2.2.2.1⟩ hM ⟨callB_of n E.2.2.2.2.1 (tw_in0 hco) rfl hrm.1 hrm.2 (E.2.2.2.2.1 _ hin) (E.2.2.2.2.1 _ hml) hd hR, E.2.2.2.2.1 _ hst2⟩ ⟨PX.blind, px_of E hX isC hC hnd⟩ rfl hn hl.1 hst (lv_room hcat) hdec hf
theorem xv_SN (E : XE p s m args meth c cc nL own D y z A) (hX : XW D A s.heap W0 H locs) (hl : lv_has ls nL lv) (hM : Met l yM (Cond.code yM bytes maxL ret :: TW) rm (va_Pc As (PX D y z Wc H.size)) Qc mc ms free)
    {host : String} (hml : va_Nw (.methodLinkNest own index yM host) s) (hst2 : Cond.static yM ∈ TW) (hin : Cond.initialized yM.cls ∈ TW) (hco : Cond.code yM bytes maxL ret ∈ TW) (n : Nat)
    (hd : yM.cls ≠ "java/lang/invoke/MethodHandle" ∧ yM.cls ≠ "java/lang/invoke/VarHandle" ∧ (parseMethodDescriptor yM.desc).map (fun d => d.parameters.length) = some n) (hrm : rm.cells = mc ∧ rm.slots = ms) (hR : rm.frames + 1 ≤ R.frames ∧ 8 + (maxL + 11) + rm.locals ≤ R.locals)
    (isC : List Nat) (hC : isC.map (fun i => W0[i]?) = Wc.map some) (hnd : va_nd isC = true)
    (hn : As.length = n) (hst : st0 = As.reverse ++ rest) (hcat : (rest.map fun v => v.category).sum ≤ 8) (hdec : decode cc pc = .ok (.invokestatic index, 3)) (hf : cells + mc ≤ R.cells ∧ slots + ms ≤ R.slots) :
    va_Run p l e R s m args below meth c H locs cells slots mc ms (F0 m pc ls st0) rest (Qc As.toArray) free :=
  va_runSN (Ts := TW) (ret := ret) (maxL := maxL) (bytes := bytes) (n := n) ⟨E.1, E.2.1, E.2.2.1, E.2.2.2.1, E.2.2.2.2.1⟩ hM ⟨va_cnB n E.2.2.2.2.1 (tw_in0 hco) rfl hrm.1 hrm.2 hml (E.2.2.2.2.1 _ hin) hd hR, E.2.2.2.2.1 _ hst2, trivial⟩ ⟨PX.blind, px_of E hX isC hC hnd⟩ rfl hn hl.1 hst (lv_room hcat) hdec hf
variable {S : Type} {W1 W2 : S → va_W}
theorem xk_i (E : XE p s m args meth c cc nL own D y z A) (hX : XW D A s.heap W0 H locs) (isC : List Nat) (hC : isC.map (fun i => W0[i]?) = Wc.map some) {post : Int32 → S → Prop} {av : Array Value}
    (hr : va_Run p l e R s m args below meth c H locs cells slots mc ms (F0 m pc ls st0) rest (va_Qi post (fun u t => BX D (W1 u) (va_A Wc H.size) t) (va_A Wc H.size) av) (va_A Wc H.size))
    (ps : List Nat) (n1 : Nat) (hn1 : ∀ u, (W1 u).length = n1) (hps : ∀ u, ps.map (fun i => (W1 u ++ W0)[i]?) = (W2 u).map some) (hnd : va_nd ps = true) (hdis : ∀ i ∈ ps, n1 ≤ i → i - n1 ∉ isC)
    (kk : ∀ (r : Int32) (u : S) (H1 : Heap) (locs1 : List Loc), post r u → XW D A s.heap (W2 u) H1 locs1 → W p l e R s m args below meth c H1 locs1 (cells + mc) (slots + ms) Q (F0 m (pc + 3) ls (.int r :: rest))) : W p l e R s m args below meth c H locs cells slots Q (F0 m pc ls st0) :=
  va_calli hr hX.2.2 (fun q _ h => xw_free E hX isC hC q h) (xw_free E hX isC hC) (fun r u t H1 locs1 ht _ hp hB _ hk hS => kk r u H1 locs1 hp (xw_call hX.1 hX.2.1 isC hC ps n1 (hn1 u) (hps u) hnd hdis (xw_free E hX isC hC) hk (by rw [← ht]; exact hB.1) hB.2 hS))
theorem xk_l (E : XE p s m args meth c cc nL own D y z A) (hX : XW D A s.heap W0 H locs) (isC : List Nat) (hC : isC.map (fun i => W0[i]?) = Wc.map some) {post : Int64 → S → Prop} {av : Array Value}
    (hr : va_Run p l e R s m args below meth c H locs cells slots mc ms (F0 m pc ls st0) rest (va_Ql post (fun u t => BX D (W1 u) (va_A Wc H.size) t) (va_A Wc H.size) av) (va_A Wc H.size))
    (ps : List Nat) (n1 : Nat) (hn1 : ∀ u, (W1 u).length = n1) (hps : ∀ u, ps.map (fun i => (W1 u ++ W0)[i]?) = (W2 u).map some) (hnd : va_nd ps = true) (hdis : ∀ i ∈ ps, n1 ≤ i → i - n1 ∉ isC)
    (kk : ∀ (r : Int64) (u : S) (H1 : Heap) (locs1 : List Loc), post r u → XW D A s.heap (W2 u) H1 locs1 → W p l e R s m args below meth c H1 locs1 (cells + mc) (slots + ms) Q (F0 m (pc + 3) ls (.long r :: rest))) : W p l e R s m args below meth c H locs cells slots Q (F0 m pc ls st0) :=
  va_calll hr hX.2.2 (fun q _ h => xw_free E hX isC hC q h) (xw_free E hX isC hC) (fun r u t H1 locs1 ht _ hp hB _ hk hS => kk r u H1 locs1 hp (xw_call hX.1 hX.2.1 isC hC ps n1 (hn1 u) (hps u) hnd hdis (xw_free E hX isC hC) hk (by rw [← ht]; exact hB.1) hB.2 hS))
theorem xk_v (E : XE p s m args meth c cc nL own D y z A) (hX : XW D A s.heap W0 H locs) (isC : List Nat) (hC : isC.map (fun i => W0[i]?) = Wc.map some) {post : S → Prop} {av : Array Value}
    (hr : va_Run p l e R s m args below meth c H locs cells slots mc ms (F0 m pc ls st0) rest (va_Qv post (fun u t => BX D (W1 u) (va_A Wc H.size) t) (va_A Wc H.size) av) (va_A Wc H.size))
    (ps : List Nat) (n1 : Nat) (hn1 : ∀ u, (W1 u).length = n1) (hps : ∀ u, ps.map (fun i => (W1 u ++ W0)[i]?) = (W2 u).map some) (hnd : va_nd ps = true) (hdis : ∀ i ∈ ps, n1 ≤ i → i - n1 ∉ isC)
    (kk : ∀ (u : S) (H1 : Heap) (locs1 : List Loc), post u → XW D A s.heap (W2 u) H1 locs1 → W p l e R s m args below meth c H1 locs1 (cells + mc) (slots + ms) Q (F0 m (pc + 3) ls rest)) : W p l e R s m args below meth c H locs cells slots Q (F0 m pc ls st0) :=
  va_callv hr hX.2.2 (fun q _ h => xw_free E hX isC hC q h) (xw_free E hX isC hC) (fun u t H1 locs1 ht _ hp hB _ hk hS => kk u H1 locs1 hp (xw_call hX.1 hX.2.1 isC hC ps n1 (hn1 u) (hps u) hnd hdis (xw_free E hX isC hC) hk (by rw [← ht]; exact hB.1) hB.2 hS))
theorem xk_ri (E : XE p s m args meth c cc nL own D y z A) (hX : XW D A s.heap W0 H locs) (isC : List Nat) (hC : isC.map (fun i => W0[i]?) = Wc.map some) {post : Int32 → Unit → Prop} {av : Array Value}
    (hr : va_Run p l e R s m args below meth c H locs cells slots mc ms (F0 m pc ls st0) rest (va_Qi post (fun _ t => BX D Wc (va_A Wc H.size) t) (va_A Wc H.size) av) (va_A Wc H.size))
    (kk : ∀ (r : Int32) (H1 : Heap) (locs1 : List Loc), post r () → XW D A s.heap W0 H1 locs1 → W p l e R s m args below meth c H1 locs1 (cells + mc) (slots + ms) Q (F0 m (pc + 3) ls (.int r :: rest))) : W p l e R s m args below meth c H locs cells slots Q (F0 m pc ls st0) :=
  va_calli hr hX.2.2 (fun q _ h => xw_free E hX isC hC q h) (xw_free E hX isC hC) (fun r _ t H1 locs1 ht _ hp hB _ hk hS => kk r H1 locs1 hp (xw_read hX.1 hX.2.1 isC hC hk (by rw [← ht]; exact hB.1) hS))
theorem xk_rl (E : XE p s m args meth c cc nL own D y z A) (hX : XW D A s.heap W0 H locs) (isC : List Nat) (hC : isC.map (fun i => W0[i]?) = Wc.map some) {post : Int64 → Unit → Prop} {av : Array Value}
    (hr : va_Run p l e R s m args below meth c H locs cells slots mc ms (F0 m pc ls st0) rest (va_Ql post (fun _ t => BX D Wc (va_A Wc H.size) t) (va_A Wc H.size) av) (va_A Wc H.size))
    (kk : ∀ (r : Int64) (H1 : Heap) (locs1 : List Loc), post r () → XW D A s.heap W0 H1 locs1 → W p l e R s m args below meth c H1 locs1 (cells + mc) (slots + ms) Q (F0 m (pc + 3) ls (.long r :: rest))) : W p l e R s m args below meth c H locs cells slots Q (F0 m pc ls st0) :=
  va_calll hr hX.2.2 (fun q _ h => xw_free E hX isC hC q h) (xw_free E hX isC hC) (fun r _ t H1 locs1 ht _ hp hB _ hk hS => kk r H1 locs1 hp (xw_read hX.1 hX.2.1 isC hC hk (by rw [← ht]; exact hB.1) hS))
end XC
