/-! constructors: rows that make cells -/
def PCN (dC : Nat → ClassId) (dI : Nat → Nat → Nat) (cI cJ : ClassId) (av : List Value) (ws : va_W) (sz : Nat) : Array Value → State → Prop := va_Pc av (fun U => U.heap.size = sz ∧ PB dC dI cI cJ ws U)
def QN (dC : Nat → ClassId) (dI : Nat → Nat → Nat) (ws : va_W) (w1 : (Nat → Nat) → va_W) (sz : Nat) : Array Value → State → Outcome → State → Prop := va_Qv (fun _ : Nat → Nat => True) (fun u t => va_P (dC, dI) vwCl (w1 u) t.heap ∧ va_D (va_A ws sz) (w1 u)) (va_A ws sz)
def RMC (f k mc ms : Nat) : Room := { frames := f, cells := mc, slots := ms, locals := k }
theorem PCN.blind {dC : Nat → ClassId} {dI : Nat → Nat → Nat} {cI cJ : ClassId} {av : List Value} {ws : va_W} {sz : Nat} : FrameBlind (PCN dC dI cI cJ av ws sz) := fun a U g mk q => ⟨q.1, q.2.1, q.2.2.1, KW.same (s := U) (U := U.calling g mk a) rfl q.2.2.2.1, q.2.2.2.2⟩
section MAKE
variable {p : Program} {l : Launch} {e : Env} {R : Room} {s : State} {m : MethodId} {args : Array Value} {below : List Frame} {meth : Method} {c : Code} {H : Heap} {locs : List Loc} {cells slots : Nat} {Q : State → Prop}
variable {cc : ByteArray} {nL : Nat} {own : String} {ret : Option FieldType} {dC : Nat → ClassId} {dI : Nat → Nat → Nat} {cI cJ : ClassId} {pc : Nat} {ls : Array Slot} {rest st0 : List Value} {A : Nat → Prop} {H0 : Heap} {ws ws' wc wr : va_W} {a : Array Value}
theorem r_new (X : Cx p m c cc nL s args own dC dI cI cJ meth ret) (hG : G dC dI A H0 ws H locs) (hA : ∀ q, H0.size ≤ q → A q) {C : String} {T : u_T} {N ci index : Nat} (hin : ∀ w ∈ u_ws C T N, w ∈ BIG) (ty : Nat → FieldType) (hty : ∀ k, k < N → parseFieldDescriptor (T k).2.2.1 = some (ty k)) (hc : vwCl[ci]? = some (C, T, N)) {fs : List Value} (hfs : ∀ j, j < N → defaultValue (ty j) = vp_V fs j)
    (hcl : Cond.classLink own index C ∈ BIG) (hinst : Cond.instantiable C N ∈ BIG) (hini : Cond.initialized C ∈ BIG) (hcells : cells + 1 ≤ R.cells) (hslots : slots + N ≤ R.slots) (hdg : decode cc pc = .ok (.new index, 3))
    (kk : ∀ (q : Nat) (H1 : Heap), G dC dI A H0 (ws ++ [(q, .inr (ci, fs))]) H1 locs → W p l e R s m args below meth c H1 locs (cells + 1) (slots + N) Q (F0 m (pc + 3) ls (.ref q :: rest))) : W p l e R s m args below meth c H locs cells slots Q (F0 m pc ls rest) :=
  va_new (D := (dC, dI)) (cl := vwCl) X.1.1 X.1.2.1 X.1.2.2.2.2 hin ty hty X.1.2.2.2.1 (X.1.2.2.2.2 _ hcl) (X.1.2.2.2.2 _ hinst) (X.1.2.2.2.2 _ hini) X.2.1.1 hG.1 hG.2.1 hG.2.2 hA hc hfs hcells hslots hdg (fun q H1 h1 h2 h3 => kk q H1 ⟨h1, h2, h3⟩)
theorem r_newI (X : Cx p m c cc nL s args own dC dI cI cJ meth ret) (hG : G dC dI A H0 ws H locs) (hA : ∀ q, H0.size ≤ q → A q) (harr : Cond.arrayClass (newarray.typeOf .int) ∈ BIG) {n : Int32} {N' : Nat} (hn : ¬ n < 0) (hN : n.toNatClampNeg = N') (hbytes : N' * componentBytes .int ≤ 536870912) (hcells : cells + 1 ≤ R.cells) (hslots : slots + N' ≤ R.slots) (hdg : decode cc pc = .ok (.newarray .int, 2))
    (kk : ∀ (q : Nat) (H1 : Heap), G dC dI A H0 (ws ++ [(q, .inl (cI, N', .inl (fun _ => 0)))]) H1 locs → W p l e R s m args below meth c H1 locs (cells + 1) (slots + N') Q (F0 m (pc + 2) ls (.ref q :: rest))) : W p l e R s m args below meth c H locs cells slots Q (F0 m pc ls (.int n :: rest)) := by
  refine va_newa (D := (dC, dI)) (cl := vwCl) (tys := [(cI, .int), (cJ, .long)]) (atype := .int) (ty := .int) X.1.1 X.1.2.1 (X.1.2.2.2.2 _ harr) rfl X.2.1.1 hG.1 hG.2.1 hG.2.2 hA (a0 := (N', .inl (fun _ => 0))) (fun _ => rfl) hn hN hbytes hcells hslots hdg (fun q cA H1 hK h1 h2 h3 => ?_)
  have e1 : s.vm.findClass ("[" ++ (FieldType.int).toString) = some cA := (hK.2 2 (cA, .int) rfl).2
  have e0 : s.vm.findClass ("[" ++ (FieldType.int).toString) = some cI := (X.2.1.1.2 0 (cI, .int) rfl).2
  cases e0.symm.trans e1
  exact kk q H1 ⟨h1, h2, h3⟩
theorem r_newJ (X : Cx p m c cc nL s args own dC dI cI cJ meth ret) (hG : G dC dI A H0 ws H locs) (hA : ∀ q, H0.size ≤ q → A q) (harr : Cond.arrayClass (newarray.typeOf .long) ∈ BIG) {n : Int32} {N' : Nat} (hn : ¬ n < 0) (hN : n.toNatClampNeg = N') (hbytes : N' * componentBytes .long ≤ 536870912) (hcells : cells + 1 ≤ R.cells) (hslots : slots + N' ≤ R.slots) (hdg : decode cc pc = .ok (.newarray .long, 2))
    (kk : ∀ (q : Nat) (H1 : Heap), G dC dI A H0 (ws ++ [(q, .inl (cJ, N', .inr (.inl (fun _ => 0))))]) H1 locs → W p l e R s m args below meth c H1 locs (cells + 1) (slots + N') Q (F0 m (pc + 2) ls (.ref q :: rest))) : W p l e R s m args below meth c H locs cells slots Q (F0 m pc ls (.int n :: rest)) := by
  refine va_newa (D := (dC, dI)) (cl := vwCl) (tys := [(cI, .int), (cJ, .long)]) (atype := .long) (ty := .long) X.1.1 X.1.2.1 (X.1.2.2.2.2 _ harr) rfl X.2.1.1 hG.1 hG.2.1 hG.2.2 hA (a0 := (N', .inr (.inl (fun _ => 0)))) (fun _ => rfl) hn hN hbytes hcells hslots hdg (fun q cA H1 hK h1 h2 h3 => ?_)
  have e1 : s.vm.findClass ("[" ++ (FieldType.long).toString) = some cA := (hK.2 2 (cA, .long) rfl).2
  have e0 : s.vm.findClass ("[" ++ (FieldType.long).toString) = some cJ := (X.2.1.1.2 1 (cJ, .long) rfl).2
  cases e0.symm.trans e1
  exact kk q H1 ⟨h1, h2, h3⟩
/-- a final field, in its class's constructor -/
theorem r_putF (X : Cx p m c cc nL s args own dC dI cI cJ meth ret) (hG : G dC dI A H0 ws H locs) (hin2 : meth.name = "<init>") {C : String} {T : u_T} {N ci index b : Nat} (hin : ∀ w ∈ u_ws C T N, w ∈ BIG) (hc : vwCl[ci]? = some (C, T, N)) (ty0 : Nat → FieldType) (hty : ∀ k, k < N → parseFieldDescriptor (T k).2.2.1 = some (ty0 k)) (hnm : ∀ a, a < N → ∀ b, b < N → a ≠ b → (T a).2.1 ≠ (T b).2.1) (k : Nat) (hk : k < N) (hfin : (T k).2.2.2 = true) (hdecl : (T k).1 = own) {ty : FieldType} {v : Value} (hd : parseFieldDescriptor (T k).2.2.1 = some ty) (hnv : narrow ty v = v) (hfit : fits ty v = true) (hlink : Cond.fieldLink own index (T k).1 (T k).2.1 (T k).2.2.1 ∈ BIG) (q0 : Nat) {fs : List Value} (he : ws[q0]? = some (b, .inr (ci, fs))) (hl : k < fs.length) (hw : ws.set q0 (b, .inr (ci, fs.set k v)) = ws') (hdg : decode cc pc = .ok (.putfield index, 3))
    (kk : ∀ (H1 : Heap) (locs1 : List Loc), G dC dI A H0 ws' H1 locs1 → W p l e R s m args below meth c H1 locs1 cells slots Q (F0 m (pc + 3) ls rest)) : W p l e R s m args below meth c H locs cells slots Q (F0 m pc ls (v :: .ref b :: rest)) :=
  va_putF (D := (dC, dI)) X.1.1 X.1.2.1 X.1.2.2.2.2 hin ty0 hty hnm X.1.2.2.2.1 X.2.1.1 hG.1 hG.2.1 hG.2.2 q0 he hc k hk (X.1.2.2.2.2 _ hlink) (fun _ h => h) hfin hin2 hdecl hd hnv hfit hl hdg (fun H1 locs1 h1 h2 h3 => kk H1 locs1 (hw ▸ ⟨h1, h2, h3⟩))
theorem r_obj (X : Cx p m c cc nL s args own dC dI cI cJ meth ret) (hsz : ls.size = nL) {idx b : Nat} (h1 : Cond.methodLink own idx objectInit ∈ BIG) (h2 : Cond.instanceMethod objectInit ∈ BIG) (h3 : Cond.code objectInit ⟨#[0xb1]⟩ 1 none ∈ BIG) (hdg : decode cc pc = .ok (.invokespecial idx, 3)) (hframes : 1 ≤ R.frames) (hlocals : (rest.map fun v => v.category).sum + 12 ≤ R.locals)
    (kk : W p l e R s m args below meth c H locs cells slots Q (F0 m (pc + 3) ls rest)) : W p l e R s m args below meth c H locs cells slots Q (F0 m pc ls (.ref b :: rest)) :=
  W.objInit X.1.1 X.1.2.1 X.1.2.2.2.1 (X.1.2.2.2.2 _ h1) (X.1.2.2.2.2 _ h2) (X.1.2.2.2.2 _ h3) rfl (by rw [X.1.2.2.1]; exact hsz) rfl hdg hframes (by show 2 * 0 + _ + 12 ≤ _; omega) kk
variable {y : MethodName} {bytes : ByteArray} {maxL n index mc ms : Nat} {rm : Room} {Qc : Array Value → State → Outcome → State → Prop} {host : String} {b : Addr} {As : List Value} {free : Addr → Prop}
theorem gi_I {y : MethodName} {cc : ByteArray} {nL : Nat} {ret : Option FieldType} (h5 : Cond.code y cc nL ret ∈ BIG) : GoodIn BIG (WZ y cc nL ret) := gi_N h5
theorem run_I (X : Cx p m c cc nL s args own dC dI cI cJ meth ret) (hG : G dC dI A H0 ws H locs) (hsz : ls.size = nL) (hM : Met l y (WZ y bytes maxL none) rm (PCN dC dI cI cJ (.ref b :: As) wc H.size) Qc mc ms free) (gi : GoodIn BIG (WZ y bytes maxL none)) (hl : Cond.methodLink own index y ∈ BIG) (hin : Cond.instanceMethod y ∈ BIG) (hini : Cond.initialized y.cls ∈ BIG) (hy : y.name = "<init>")
    (hd : y.cls ≠ "java/lang/invoke/MethodHandle" ∧ y.cls ≠ "java/lang/invoke/VarHandle" ∧ (parseMethodDescriptor y.desc).map (fun d => d.parameters.length) = some n) (hrm : rm.cells = mc ∧ rm.slots = ms) (hn : As.length = n) (hR : rm.frames + 1 ≤ R.frames ∧ 8 + (maxL + 11) + rm.locals ≤ R.locals)
    (is : List Nat) (hnd : va_nd is = true) (hC : is.map (fun i => ws[i]?) = wc.map some)
    (hst : st0 = As.reverse ++ .ref b :: rest) (hrest : (rest.map fun v => v.category).sum ≤ 8) (hcs : cells + mc ≤ R.cells ∧ slots + ms ≤ R.slots) (hdg : decode cc pc = .ok (.invokespecial index, 3)) :
    va_Run p l e R s m args below meth c H locs cells slots mc ms (F0 m pc ls st0) rest (Qc (Value.ref b :: As).toArray) free :=
  va_runI (Ts := BIG) X.1 hM (cwI n X.1.2.2.2.2 gi rfl hrm.1 hrm.2 (X.1.2.2.2.2 _ hini) (X.1.2.2.2.2 _ hl) (X.1.2.2.2.2 _ hin) hy hd hR) ⟨PCN.blind, fun U hU hW => ⟨rfl, by rw [hU], hG.sub X.2.1 is hnd hC hU hW⟩⟩ rfl hn hsz hst (lv_room hrest) hdg hcs
theorem run_IN (X : Cx p m c cc nL s args own dC dI cI cJ meth ret) (hG : G dC dI A H0 ws H locs) (hsz : ls.size = nL) (hM : Met l y (WZ y bytes maxL none) rm (PCN dC dI cI cJ (.ref b :: As) wc H.size) Qc mc ms free) (gi : GoodIn BIG (WZ y bytes maxL none)) (hl : Cond.methodLinkNest own index y host ∈ NEST) (hin : Cond.instanceMethod y ∈ BIG) (hini : Cond.initialized y.cls ∈ BIG) (hy : y.name = "<init>")
    (hd : y.cls ≠ "java/lang/invoke/MethodHandle" ∧ y.cls ≠ "java/lang/invoke/VarHandle" ∧ (parseMethodDescriptor y.desc).map (fun d => d.parameters.length) = some n) (hrm : rm.cells = mc ∧ rm.slots = ms) (hn : As.length = n) (hR : rm.frames + 1 ≤ R.frames ∧ 8 + (maxL + 11) + rm.locals ≤ R.locals)
    (is : List Nat) (hnd : va_nd is = true) (hC : is.map (fun i => ws[i]?) = wc.map some)
    (hst : st0 = As.reverse ++ .ref b :: rest) (hrest : (rest.map fun v => v.category).sum ≤ 8) (hcs : cells + mc ≤ R.cells ∧ slots + ms ≤ R.slots) (hdg : decode cc pc = .ok (.invokespecial index, 3)) :
    va_Run p l e R s m args below meth c H locs cells slots mc ms (F0 m pc ls st0) rest (Qc (Value.ref b :: As).toArray) free :=
  va_runIN (Ts := BIG) X.1 hM ⟨va_cnB n X.1.2.2.2.2 gi rfl hrm.1 hrm.2 (X.2.1.2 _ hl) (X.1.2.2.2.2 _ hini) hd hR, hy, X.1.2.2.2.2 _ hin⟩ ⟨PCN.blind, fun U hU hW => ⟨rfl, by rw [hU], hG.sub X.2.1 is hnd hC hU hW⟩⟩ rfl hn hsz hst (lv_room hrest) hdg hcs
theorem aft_c {w1 : (Nat → Nat) → va_W} (hr : va_Run p l e R s m args below meth c H locs cells slots mc ms (F0 m pc ls st0) rest (QN dC dI wc w1 H.size a) (va_A wc H.size)) (hG : G dC dI A H0 ws H locs) (hA : ∀ q, H0.size ≤ q → A q) (isC isR : List Nat) (hC : isC.map (fun i => ws[i]?) = wc.map some) (hR : isR.map (fun i => ws[i]?) = wr.map some) (hn : va_nd isR = true) (hdis : ∀ i ∈ isR, i ∉ isC)
    (kk : ∀ (u : Nat → Nat) (H1 : Heap) (locs1 : List Loc), G dC dI A H0 (wr ++ w1 u) H1 locs1 → W p l e R s m args below meth c H1 locs1 (cells + mc) (slots + ms) Q (F0 m (pc + 3) ls rest)) : W p l e R s m args below meth c H locs cells slots Q (F0 m pc ls st0) :=
  va_callv hr hG.2.2 (fun q _ h => va_free hG.2.1 hG.2.2 hA isC hC q h) (va_free hG.2.1 hG.2.2 hA isC hC) (fun u t H1 locs1 ht _ _ hB _ hk hS => by
    subst ht
    have hj := va_join hG.1 hG.2.1 isC isR hC hR hn hdis hk (va_free hG.2.1 hG.2.2 hA isC hC) hB.1 hB.2
    exact kk u _ locs1 ⟨hj.1, hj.2, hS⟩)
theorem G.perm (hG : G dC dI A H0 ws H locs) (is : List Nat) (hnd : va_nd is = true) (hC : is.map (fun i => ws[i]?) = wc.map some) : G dC dI A H0 wc H locs := by
  refine ⟨fun k q hk => ?_, hG.2.1.sub is hnd hC, hG.2.2⟩
  have h1 : (is.map (fun i => ws[i]?))[k]? = some (some q) := by rw [hC, List.getElem?_map, hk]; rfl
  rw [List.getElem?_map] at h1
  cases hi : is[k]? with
  | none => rw [hi] at h1; cases h1
  | some i => rw [hi] at h1; exact hG.1 i q (Option.some.inj h1)
end MAKE
theorem r_metC {l : Launch} {y : MethodName} {cc : ByteArray} {nL : Nat} {rm : Room} {dC : Nat → ClassId} {dI : Nat → Nat → Nat} {cI cJ : ClassId} {av : List Value} {ws : va_W} {w1 : (Nat → Nat) → va_W} {sz mc ms : Nat} (hy : plainFor y = true) (hnm : y.name = "<init>") (hn : (lg_sl av).length ≤ nL)
    (body : ∀ (p : Program) (e : Env) (s : State) (m : MethodId) (args : Array Value) (below : List Frame) (meth : Method) (c : Code) (A : Nat → Prop) (H0 : Heap) (QQ : State → Prop), Cx p m c cc nL s args y.cls dC dI cI cJ meth none → meth.name = "<init>" → (∀ q, H0.size ≤ q → A q) →
      (∀ (pc : Nat) (ls : Array Slot) (H : Heap) (locs : List Loc) (u : Nat → Nat), decode cc pc = .ok (.return_, 1) → G dC dI A H0 (w1 u) H locs → W p l e rm s m args below meth c H locs mc ms QQ (F0 m pc ls [])) →
      ∀ ls : Array Slot, lv_has ls nL (lv_args 0 av) → G dC dI A H0 ws H0 [] → W p l e rm s m args below meth c H0 [] 0 0 QQ (F0 m 0 ls [])) : Met l y (WZ y cc nL none) rm (PCN dC dI cI cJ av ws sz) (QN dC dI ws w1 sz) mc ms (va_A ws sz) := by
  refine va_MetF (cc := cc) (maxL := nL) (ret := none) hy rfl ?_
  intro p e s m args below meth c s₁ B hml hv
  obtain ⟨rfl, hsz, hP, hK, hD0⟩ := hv
  subst hsz
  have hts := atoms_spec (ws := WZ y cc nL none) B.pre
  rw [lg_entry_eq]
  have X : Cx p m c cc nL s av.toArray y.cls dC dI cI cJ meth none := ⟨⟨B.exec, B.bytes, hml, findClass_of_methodNamed B.named, fun w hw => hts w (List.mem_cons_of_mem _ hw)⟩, hK, B.returns, B.notSynchronized⟩
  refine body p e s m av.toArray below meth c (va_A ws s.heap.size) s.heap _ X ((name_of_methodNamed B.named B.method).1.trans hnm) (fun q h => Or.inr h) (fun pc ls H locs u hd hG => ?_) _ (lv_entry av hn) ⟨hP, hD0.self, va_S.rf⟩
  exact W.vret X.1.1 X.1.2.1 X.2.2.1 (fun t ht _ => ⟨⟨u, rfl, trivial, by show va_P (dC, dI) vwCl (w1 u) t.heap ∧ va_D _ (w1 u); rw [ht]; exact ⟨hG.1, hG.2.1⟩⟩, hG.2.2.F ht⟩) hG.2.2.2.2 hd X.2.2.2
