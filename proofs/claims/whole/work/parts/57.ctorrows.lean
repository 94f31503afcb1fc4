/-! rows for constructors: objects and rows are made, final fields, calls of constructors -/
def z0 : Int → Int := fun _ => 0
def zBo : Int → Bool := fun _ => false
def kF {α : Type} (a : α) : Int → α := fun _ => a
/-- a start where the array class over Figures is known too -/
def PXq (D : va_G) (y : CY) (z : Nat) (W0 : va_W) (sz : Nat) (U : State) : Prop := PX D y z W0 sz U ∧ va_AO RX2 U
theorem PXq.blind {D : va_G} {y : CY} {z sz : Nat} {W0 : va_W} {av : List Value} : FrameBlind (va_Pc av (PXq D y z W0 sz)) := by
  intro a U g mk h
  obtain ⟨h0, h1, h2⟩ := h
  exact ⟨h0, (PX.blind (av := av) a U g mk ⟨h0, h1⟩).2, va_AO.moved (u := U) (U := U.calling g mk a) (Vm.Alike.refl U.vm) h2⟩
theorem xm_vq {l : Launch} {yM : MethodName} {cc : ByteArray} {maxL : Nat} {ret : Option FieldType} {rm : Room} {D : va_G} {y : CY} {z sz : Nat} {av : List Value} {W0 : va_W} {S : Type} {post : S → Prop} {W1 : S → va_W} {mc ms : Nat}
    (hy : plainName yM.cls = true) (hlen : (lg_sl av).length ≤ maxL)
    (body : ∀ (p : Program) (e : Env) (s : State) (m : MethodId) (args : Array Value) (below : List Frame) (meth : Method) (c : Code) (ls : Array Slot) (A : Nat → Prop) (Q : State → Prop), XE p s m args meth c cc maxL yM.cls D y z A → va_AO RX2 s → meth.sig.returnType = ret → meth.name = yM.name → XW D A s.heap W0 s.heap [] → lv_has ls maxL (lv_args 0 av) → MQ below (va_Qv post (fun u t => BX D (W1 u) A t) A) args s mc ms A = Q →
      W p l e rm s m args below meth c s.heap [] 0 0 Q (F0 m 0 ls [])) :
    Met l yM (Cond.code yM cc maxL ret :: TW) rm (va_Pc av (PXq D y z W0 sz)) (va_Qv post (fun u t => BX D (W1 u) (va_A W0 sz) t) (va_A W0 sz)) mc ms (va_A W0 sz) := by
  refine Met.ofW (cc := cc) (maxL := maxL) (ret := ret) hy rfl ?_
  intro p e s m args below meth c s₁ B hml hv
  obtain ⟨rfl, ⟨hsz, hP, hK, hD0, hZ⟩, hao⟩ := hv
  have hts := atoms_spec (ws := Cond.code yM cc maxL ret :: TW) B.pre
  have hown : s.vm.findClass yM.cls = some m.cls := findClass_of_methodNamed B.named
  have hin : meth.name = yM.name := (name_of_methodNamed B.named B.method).1
  rw [lg_entry_eq]
  exact body p e s m _ below meth c _ (va_A W0 sz) _ ⟨B.exec, B.bytes, hml, hown, fun w h => hts w (List.mem_cons_of_mem _ h), fun q h => Or.inr (by rw [← hsz]; exact h), hK, hZ, B.notSynchronized⟩ hao B.returns hin ⟨hP, hD0.self, va_S.rf⟩ (lv_entry av hlen) rfl
section XN
variable {p : Program} {l : Launch} {e : Env} {R : Room} {s : State} {m : MethodId} {args : Array Value} {below : List Frame} {meth : Method} {c : Code} {H : Heap} {locs : List Loc} {cells slots : Nat} {Q : State → Prop} {pc : Nat} {ls : Array Slot} {rest : List Value} {cc : ByteArray} {nL : Nat} {own : String} {D : va_G} {y : CY} {z : Nat} {A : Nat → Prop} {W0 : va_W}
theorem xr_oinit (E : XE p s m args meth c cc nL own D y z A) {lv : List (Nat × Value)} (hl : lv_has ls nL lv) {idx a : Nat} (hml : Cond.methodLink own idx objectInit ∈ TW) (hR : 1 ≤ R.frames ∧ (rest.map fun v => v.category).sum + 12 ≤ R.locals) (hd : decode cc pc = .ok (.invokespecial idx, 3)) (kk : W p l e R s m args below meth c H locs cells slots Q (F0 m (pc + 3) ls rest)) : W p l e R s m args below meth c H locs cells slots Q (F0 m pc ls (.ref a :: rest)) :=
  W.objInit E.1 E.2.1 E.2.2.2.1 (E.2.2.2.2.1 _ hml) (E.2.2.2.2.1 _ im_OI) (E.2.2.2.2.1 _ co_OI) rfl (hl.1.trans E.2.2.1.symm) rfl hd hR.1 (by have h2 := hR.2; show 2 * 0 + _ + 12 ≤ _; omega) kk
theorem xr_new (E : XE p s m args meth c cc nL own D y z A) (hX : XW D A s.heap W0 H locs) {C : String} {T : u_T} {N ci index : Nat} {ty : Nat → FieldType} {fs : List Value} (hin : ∀ w ∈ u_ws C T N, w ∈ TW) (hty : ∀ k, k < N → parseFieldDescriptor (T k).2.2.1 = some (ty k)) (hcl : Cond.classLink own index C ∈ TW) (hit : Cond.instantiable C N ∈ TW) (hini : Cond.initialized C ∈ TW) (hc : vwCl[ci]? = some (C, T, N)) (hfs : ∀ j, j < N → defaultValue (ty j) = vp_V fs j) (hR : cells + 1 ≤ R.cells ∧ slots + N ≤ R.slots) (hd : decode cc pc = .ok (.new index, 3)) (kk : ∀ (q : Nat) (H1 : Heap), XW D A s.heap (W0 ++ [(q, .inr (ci, fs))]) H1 locs → W p l e R s m args below meth c H1 locs (cells + 1) (slots + N) Q (F0 m (pc + 3) ls (.ref q :: rest))) : W p l e R s m args below meth c H locs cells slots Q (F0 m pc ls rest) :=
  va_new E.1 E.2.1 E.2.2.2.2.1 hin ty hty E.2.2.2.1 (E.2.2.2.2.1 _ hcl) (E.2.2.2.2.1 _ hit) (E.2.2.2.2.1 _ hini) E.2.2.2.2.2.2.1.1 hX.1 hX.2.1 hX.2.2 E.2.2.2.2.2.1 hc hfs hR.1 hR.2 hd (fun q H1 h1 h2 h3 => kk q H1 ⟨h1, h2, h3⟩)
theorem iI_len {N : Nat} (h : N < 2147483648) : ¬ iI (N : Int) < 0 ∧ (iI (N : Int)).toNatClampNeg = N := by
  constructor
  · rw [Int32.lt_iff_toInt_lt, iI_toInt ⟨by omega, by omega⟩]
    show ¬ (N : Int) < 0
    omega
  · show (iI (N : Int)).toInt.toNat = N
    rw [iI_toInt ⟨by omega, by omega⟩]
    omega
theorem xr_newi (E : XE p s m args meth c cc nL own D y z A) (hX : XW D A s.heap W0 H locs) {n : Int} {N : Nat} (hn : n = N) (hb : N * 4 ≤ 536870912) (hR : cells + 1 ≤ R.cells ∧ slots + N ≤ R.slots) (hd : decode cc pc = .ok (.newarray .int, 2)) (kk : ∀ (q : Nat) (H1 : Heap), XW D A s.heap (W0 ++ [(q, .inl (y.1, N, .inl (ia z0)))]) H1 locs → W p l e R s m args below meth c H1 locs (cells + 1) (slots + N) Q (F0 m (pc + 2) ls (.ref q :: rest))) : W p l e R s m args below meth c H locs cells slots Q (F0 m pc ls (.int (iI n) :: rest)) := by
  subst hn
  have hL := iI_len (N := N) (by omega)
  refine va_newa (atype := .int) (ty := .int) (N' := N) (a0 := (N, .inl (ia z0))) E.1 E.2.1 (E.2.2.2.2.1 _ ac_int) rfl E.2.2.2.2.2.2.1.1 hX.1 hX.2.1 hX.2.2 E.2.2.2.2.2.1 (fun cA => ?_) hL.1 hL.2 hb hR.1 hR.2 hd (fun q cA H1 hK h1 h2 h3 => ?_)
  · rw [vp_cell_i]
    have e1 : (fun j => Value.int (ia z0 j)) = (fun _ => defaultValue FieldType.int) := by
      funext j
      exact congrArg Value.int iI_0
    rw [e1]
  · have e1 : cA = y.1 := Option.some.inj ((va_nm_int (hK.2 4 (cA, .int) rfl).2).symm.trans (va_nm_int (E.2.2.2.2.2.2.1.1.2 0 (y.1, .int) rfl).2))
    subst e1
    exact kk q H1 ⟨h1, h2, h3⟩
theorem xr_newl (E : XE p s m args meth c cc nL own D y z A) (hX : XW D A s.heap W0 H locs) {n : Int} {N : Nat} (hn : n = N) (hb : N * 8 ≤ 536870912) (hR : cells + 1 ≤ R.cells ∧ slots + N ≤ R.slots) (hd : decode cc pc = .ok (.newarray .long, 2)) (kk : ∀ (q : Nat) (H1 : Heap), XW D A s.heap (W0 ++ [(q, .inl (y.2.1, N, .inr (.inl (la z0))))]) H1 locs → W p l e R s m args below meth c H1 locs (cells + 1) (slots + N) Q (F0 m (pc + 2) ls (.ref q :: rest))) : W p l e R s m args below meth c H locs cells slots Q (F0 m pc ls (.int (iI n) :: rest)) := by
  subst hn
  have hL := iI_len (N := N) (by omega)
  refine va_newa (atype := .long) (ty := .long) (N' := N) (a0 := (N, .inr (.inl (la z0)))) E.1 E.2.1 (E.2.2.2.2.1 _ ac_long) rfl E.2.2.2.2.2.2.1.1 hX.1 hX.2.1 hX.2.2 E.2.2.2.2.2.1 (fun cA => ?_) hL.1 hL.2 hb hR.1 hR.2 hd (fun q cA H1 hK h1 h2 h3 => ?_)
  · rw [vp_cell_l]
    have e1 : (fun j => Value.long (la z0 j)) = (fun _ => defaultValue FieldType.long) := by
      funext j
      exact congrArg Value.long lI_0
    rw [e1]
  · have e1 : cA = y.2.1 := Option.some.inj ((va_nm_long (hK.2 4 (cA, .long) rfl).2).symm.trans (va_nm_long (E.2.2.2.2.2.2.1.1.2 1 (y.2.1, .long) rfl).2))
    subst e1
    exact kk q H1 ⟨h1, h2, h3⟩
theorem xr_newz (E : XE p s m args meth c cc nL own D y z A) (hX : XW D A s.heap W0 H locs) {n : Int} {N : Nat} (hn : n = N) (hb : N * 1 ≤ 536870912) (hR : cells + 1 ≤ R.cells ∧ slots + N ≤ R.slots) (hd : decode cc pc = .ok (.newarray .boolean, 2)) (kk : ∀ (q : Nat) (H1 : Heap), XW D A s.heap (W0 ++ [(q, .inl (y.2.2.1, N, .inl (ba zBo)))]) H1 locs → W p l e R s m args below meth c H1 locs (cells + 1) (slots + N) Q (F0 m (pc + 2) ls (.ref q :: rest))) : W p l e R s m args below meth c H locs cells slots Q (F0 m pc ls (.int (iI n) :: rest)) := by
  subst hn
  have hL := iI_len (N := N) (by omega)
  refine va_newa (atype := .boolean) (ty := .boolean) (N' := N) (a0 := (N, .inl (ba zBo))) E.1 E.2.1 (E.2.2.2.2.1 _ ac_boolean) rfl E.2.2.2.2.2.2.1.1 hX.1 hX.2.1 hX.2.2 E.2.2.2.2.2.1 (fun cA => ?_) hL.1 hL.2 hb hR.1 hR.2 hd (fun q cA H1 hK h1 h2 h3 => ?_)
  · rw [vp_cell_i]
    rfl
  · have e1 : cA = y.2.2.1 := Option.some.inj ((va_nm_boolean (hK.2 4 (cA, .boolean) rfl).2).symm.trans (va_nm_boolean (E.2.2.2.2.2.2.1.1.2 2 (y.2.2.1, .boolean) rfl).2))
    subst e1
    exact kk q H1 ⟨h1, h2, h3⟩
theorem xr_newq (E : XE p s m args meth c cc nL own D y z A) (hao : va_AO RX2 s) (hX : XW D A s.heap W0 H locs) {n : Int} {N index : Nat} (hn : n = N) (hb : N * 4 ≤ 536870912) (hcl : Cond.classLink own index RX2 ∈ TW) (hR : cells + 1 ≤ R.cells ∧ slots + N ≤ R.slots) (hd : decode cc pc = .ok (.anewarray index, 3)) (kk : ∀ (q : Nat) (H1 : Heap), XW D A s.heap (W0 ++ [(q, .inl (y.2.2.2, N, .inr (.inr (.inr (.inr (fun _ => none))))))]) H1 locs → W p l e R s m args below meth c H1 locs (cells + 1) (slots + N) Q (F0 m (pc + 3) ls (.ref q :: rest))) : W p l e R s m args below meth c H locs cells slots Q (F0 m pc ls (.int (iI n) :: rest)) := by
  subst hn
  have hL := iI_len (N := N) (by omega)
  refine va_newq (N' := N) E.1 E.2.1 E.2.2.2.1 (E.2.2.2.2.1 _ hcl) hao E.2.2.2.2.2.2.1.1 hX.1 hX.2.1 hX.2.2 E.2.2.2.2.2.1 hL.1 hL.2 hb hR.1 hR.2 hd (fun q cA H1 hK h1 h2 h3 => ?_)
  have e1 : cA = y.2.2.2 := Option.some.inj ((va_nmO (hK.2 4 (cA, .object RX2) rfl).2 rfl).symm.trans (va_nmO (E.2.2.2.2.2.2.1.1.2 3 (y.2.2.2, .object RX2) rfl).2 rfl))
  subst e1
  exact kk q H1 ⟨h1, h2, h3⟩
theorem xr_aast (E : XE p s m args meth c cc nL own D y z A) (hX : XW D A s.heap W0 H locs) {a n v : Nat} {i : Int} {f : Nat → Option Nat} {vs : List Value} {W1 : va_W} (q0 qk : Nat) (ha : W0[q0]? = some (a, .inl (y.2.2.2, n, .inr (.inr (.inr (.inr f)))))) (hv : W0[qk]? = some (v, .inr (2, vs))) (h0 : 0 ≤ i) (h1 : i < n) (hn : n < 2147483648) (hW : W0.set q0 (a, .inl (y.2.2.2, n, .inr (.inr (.inr (.inr (va_up f i.toNat (some v))))))) = W1) (hd : decode cc pc = .ok (.aastore, 1)) (kk : ∀ (H1 : Heap) (locs1 : List Loc), XW D A s.heap W1 H1 locs1 → W p l e R s m args below meth c H1 locs1 cells slots Q (F0 m (pc + 1) ls rest)) : W p l e R s m args below meth c H locs cells slots Q (F0 m pc ls (.ref v :: .int (iI i) :: .ref a :: rest)) := by
  refine va_astq E.1 E.2.1 E.2.2.2.2.2.2.1.1 hX.1 hX.2.1 hX.2.2 q0 3 qk 2 ha rfl hv rfl (iI_in h0 h1 hn) hd (fun H1 locs1 k1 k2 k3 => kk H1 locs1 ?_)
  have e0 := iI_cl h0 h1 hn
  have e1 : (iI i).toNatClampNeg = i.toNat := by omega
  rw [e1, hW] at k1 k2
  exact ⟨k1, k2, k3⟩
theorem xr_putF (E : XE p s m args meth c cc nL own D y z A) (hX : XW D A s.heap W0 H locs) {C : String} {T : u_T} {N ci index a : Nat} {ty : Nat → FieldType} {fs : List Value} {v : Value} {W1 : va_W} (q0 : Nat) (he : W0[q0]? = some (a, .inr (ci, fs))) (hc : vwCl[ci]? = some (C, T, N)) (hin : ∀ w ∈ u_ws C T N, w ∈ TW) (hty : ∀ k, k < N → parseFieldDescriptor (T k).2.2.1 = some (ty k)) (hnm : ∀ a, a < N → ∀ b, b < N → a ≠ b → (T a).2.1 ≠ (T b).2.1) (k : Nat) (hk : k < N) (hl : Cond.fieldLink own index (T k).1 (T k).2.1 (T k).2.2.1 ∈ TW) (hfin : (T k).2.2.2 = true) (hmn : meth.name = "<init>") (hdecl : (T k).1 = own) (hn : narrow (ty k) v = v) (hf : fits (ty k) v = true) (hlen : k < fs.length) (hW : W0.set q0 (a, .inr (ci, fs.set k v)) = W1) (hd : decode cc pc = .ok (.putfield index, 3)) (kk : ∀ (H1 : Heap) (locs1 : List Loc), XW D A s.heap W1 H1 locs1 → W p l e R s m args below meth c H1 locs1 cells slots Q (F0 m (pc + 3) ls rest)) : W p l e R s m args below meth c H locs cells slots Q (F0 m pc ls (v :: .ref a :: rest)) :=
  va_putF E.1 E.2.1 E.2.2.2.2.1 hin ty hty hnm E.2.2.2.1 E.2.2.2.2.2.2.1.1 hX.1 hX.2.1 hX.2.2 q0 he hc k hk (E.2.2.2.2.1 _ hl) (fun _ h => h) hfin hmn hdecl (hty k hk) hn hf hlen hd (fun H1 locs1 h1 h2 h3 => kk H1 locs1 (by rw [hW] at h1 h2; exact ⟨h1, h2, h3⟩))
end XN
section XI
variable {p : Program} {l : Launch} {e : Env} {R : Room} {s : State} {m : MethodId} {args : Array Value} {below : List Frame} {meth : Method} {c : Code} {H : Heap} {locs : List Loc} {cells slots : Nat} {Q : State → Prop} {pc : Nat} {ls : Array Slot} {rest st0 : List Value} {cc : ByteArray} {nL : Nat} {own : String} {D : va_G} {y : CY} {z : Nat} {A : Nat → Prop} {W0 Wc : va_W} {lv : List (Nat × Value)} {yM : MethodName} {bytes : ByteArray} {maxL mc ms n index b : Nat} {rm : Room} {Qc : Array Value → State → Outcome → State → Prop} {free : Addr → Prop}
theorem xv_I (E : XE p s m args meth c cc nL own D y z A) (hX : XW D A s.heap W0 H locs) (hl : lv_has ls nL lv) (hM : Met l yM (Cond.code yM bytes maxL none :: TW) rm (va_Pc [.ref b] (PX D y z Wc H.size)) Qc mc ms free)
    (hml : Cond.methodLink own index yM ∈ TW) (him : Cond.instanceMethod yM ∈ TW) (hin : Cond.initialized yM.cls ∈ TW) (hco : Cond.code yM bytes maxL none ∈ TW) (hy1 : yM.name = "<init>")
    (hd : yM.cls ≠ "java/lang/invoke/MethodHandle" ∧ yM.cls ≠ "java/lang/invoke/VarHandle" ∧ (parseMethodDescriptor yM.desc).map (fun d => d.parameters.length) = some 0) (hrm : rm.cells = mc ∧ rm.slots = ms) (hR : rm.frames + 1 ≤ R.frames ∧ 8 + (maxL + 11) + rm.locals ≤ R.locals)
    (isC : List Nat) (hC : isC.map (fun i => W0[i]?) = Wc.map some) (hnd : va_nd isC = true)
    (hst : st0 = .ref b :: rest) (hcat : (rest.map fun v => v.category).sum ≤ 8) (hdec : decode cc pc = .ok (.invokespecial index, 3)) (hf : cells + mc ≤ R.cells ∧ slots + ms ≤ R.slots) :
    va_Run p l e R s m args below meth c H locs cells slots mc ms (F0 m pc ls st0) rest (Qc [Value.ref b].toArray) free :=
  va_runI (As := []) (Ts := TW) (maxL := maxL) (bytes := bytes) (n := 0) ⟨E.1, E.2.1, E.2.2.1, E.2.2.2.1, E.2.2.2.2.1⟩ hM (cwI 0 E.2.2.2.2.1 (tw_in0 hco) rfl hrm.1 hrm.2 (E.2.2.2.2.1 _ hin) (E.2.2.2.2.1 _ hml) (E.2.2.2.2.1 _ him) hy1 hd hR) ⟨PX.blind, px_of E hX isC hC hnd⟩ rfl rfl hl.1 hst (lv_room hcat) hdec hf
theorem xv_IN (E : XE p s m args meth c cc nL own D y z A) (hX : XW D A s.heap W0 H locs) (hl : lv_has ls nL lv) (hM : Met l yM (Cond.code yM bytes maxL none :: TW) rm (va_Pc [.ref b] (PX D y z Wc H.size)) Qc mc ms free)
    {host : String} (hml : va_Nw (.methodLinkNest own index yM host) s) (him : Cond.instanceMethod yM ∈ TW) (hin : Cond.initialized yM.cls ∈ TW) (hco : Cond.code yM bytes maxL none ∈ TW) (hy1 : yM.name = "<init>")
    (hd : yM.cls ≠ "java/lang/invoke/MethodHandle" ∧ yM.cls ≠ "java/lang/invoke/VarHandle" ∧ (parseMethodDescriptor yM.desc).map (fun d => d.parameters.length) = some 0) (hrm : rm.cells = mc ∧ rm.slots = ms) (hR : rm.frames + 1 ≤ R.frames ∧ 8 + (maxL + 11) + rm.locals ≤ R.locals)
    (isC : List Nat) (hC : isC.map (fun i => W0[i]?) = Wc.map some) (hnd : va_nd isC = true)
    (hst : st0 = .ref b :: rest) (hcat : (rest.map fun v => v.category).sum ≤ 8) (hdec : decode cc pc = .ok (.invokespecial index, 3)) (hf : cells + mc ≤ R.cells ∧ slots + ms ≤ R.slots) :
    va_Run p l e R s m args below meth c H locs cells slots mc ms (F0 m pc ls st0) rest (Qc [Value.ref b].toArray) free :=
  va_runIN (As := []) (Ts := TW) (maxL := maxL) (bytes := bytes) (n := 0) ⟨E.1, E.2.1, E.2.2.1, E.2.2.2.1, E.2.2.2.2.1⟩ hM ⟨va_cnB 0 E.2.2.2.2.1 (tw_in0 hco) rfl hrm.1 hrm.2 hml (E.2.2.2.2.1 _ hin) hd hR, hy1, E.2.2.2.2.1 _ him⟩ ⟨PX.blind, px_of E hX isC hC hnd⟩ rfl rfl hl.1 hst (lv_room hcat) hdec hf
theorem xv_Iq (E : XE p s m args meth c cc nL own D y z A) (hao : va_AO RX2 s) (hX : XW D A s.heap W0 H locs) (hl : lv_has ls nL lv) (hM : Met l yM (Cond.code yM bytes maxL none :: TW) rm (va_Pc [.ref b] (PXq D y z Wc H.size)) Qc mc ms free)
    (hml : Cond.methodLink own index yM ∈ TW) (him : Cond.instanceMethod yM ∈ TW) (hin : Cond.initialized yM.cls ∈ TW) (hco : Cond.code yM bytes maxL none ∈ TW) (hy1 : yM.name = "<init>")
    (hd : yM.cls ≠ "java/lang/invoke/MethodHandle" ∧ yM.cls ≠ "java/lang/invoke/VarHandle" ∧ (parseMethodDescriptor yM.desc).map (fun d => d.parameters.length) = some 0) (hrm : rm.cells = mc ∧ rm.slots = ms) (hR : rm.frames + 1 ≤ R.frames ∧ 8 + (maxL + 11) + rm.locals ≤ R.locals)
    (isC : List Nat) (hC : isC.map (fun i => W0[i]?) = Wc.map some) (hnd : va_nd isC = true)
    (hst : st0 = .ref b :: rest) (hcat : (rest.map fun v => v.category).sum ≤ 8) (hdec : decode cc pc = .ok (.invokespecial index, 3)) (hf : cells + mc ≤ R.cells ∧ slots + ms ≤ R.slots) :
    va_Run p l e R s m args below meth c H locs cells slots mc ms (F0 m pc ls st0) rest (Qc [Value.ref b].toArray) free :=
  va_runI (As := []) (Ts := TW) (maxL := maxL) (bytes := bytes) (n := 0) ⟨E.1, E.2.1, E.2.2.1, E.2.2.2.1, E.2.2.2.2.1⟩ hM (cwI 0 E.2.2.2.2.1 (tw_in0 hco) rfl hrm.1 hrm.2 (E.2.2.2.2.1 _ hin) (E.2.2.2.2.1 _ hml) (E.2.2.2.2.1 _ him) hy1 hd hR) ⟨PXq.blind, fun U hU hW => ⟨rfl, (px_of E hX isC hC hnd (av := [.ref b]) U hU hW).2, hao.moved hW.alike⟩⟩ rfl rfl hl.1 hst (lv_room hcat) hdec hf
end XI
