/-! calls -/
theorem gi_V {own C : String} {idx nL : Nat} {y : MethodName} {cc : ByteArray} {ret : Option FieldType} (h1 : Cond.methodLink own idx y ∈ BIG) (h2 : Cond.instanceMethod y ∈ BIG) (h3 : Cond.selects C y y ∈ BIG) (h4 : Cond.initialized C ∈ BIG) (h5 : Cond.code y cc nL ret ∈ BIG) : GoodIn BIG (wsV own idx C y (WZ y cc nL ret)) := by
  intro w hw
  refine big_ok ?_
  rcases List.mem_append.mp hw with h | h
  · simp only [List.mem_cons, List.not_mem_nil, or_false] at h
    rcases h with rfl | rfl | rfl | rfl
    · exact h1
    · exact h2
    · exact h3
    · exact h4
  · rcases List.mem_cons.mp h with rfl | h
    · exact h5
    · exact h
theorem gi_S {own : String} {idx nL : Nat} {y : MethodName} {cc : ByteArray} {ret : Option FieldType} (h1 : Cond.methodLink own idx y ∈ BIG) (h2 : Cond.static y ∈ BIG) (h4 : Cond.initialized y.cls ∈ BIG) (h5 : Cond.code y cc nL ret ∈ BIG) : GoodIn BIG (va_wsS own idx y (WZ y cc nL ret)) := by
  intro w hw
  refine big_ok ?_
  rcases List.mem_append.mp hw with h | h
  · simp only [List.mem_cons, List.not_mem_nil, or_false] at h
    rcases h with rfl | rfl | rfl
    · exact h1
    · exact h2
    · exact h4
  · rcases List.mem_cons.mp h with rfl | h
    · exact h5
    · exact h
theorem gi_N {nL : Nat} {y : MethodName} {cc : ByteArray} {ret : Option FieldType} (h5 : Cond.code y cc nL ret ∈ BIG) : GoodIn BIG (WZ y cc nL ret) := by
  intro w hw
  refine big_ok ?_
  rcases List.mem_cons.mp hw with rfl | h
  · exact h5
  · exact h
section CALLS
variable {p : Program} {l : Launch} {e : Env} {R : Room} {s : State} {m : MethodId} {args : Array Value} {below : List Frame} {meth : Method} {c : Code} {H : Heap} {locs : List Loc} {cells slots : Nat} {Q : State → Prop}
variable {cc : ByteArray} {nL : Nat} {own : String} {ret : Option FieldType} {dC : Nat → ClassId} {dI : Nat → Nat → Nat} {cI cJ : ClassId} {pc : Nat} {ls : Array Slot} {rest st0 : List Value} {A : Nat → Prop} {H0 : Heap} {ws ws' wc w1 : va_W} {a : Array Value}
variable {y : MethodName} {bytes : ByteArray} {maxL n index : Nat} {rty : Option FieldType} {rm : Room} {Qc : Array Value → State → Outcome → State → Prop} {C host : String} {b : Addr} {As : List Value}
theorem run_V (X : Cx p m c cc nL s args own dC dI cI cJ meth ret) (hG : G dC dI A H0 ws H locs) (hsz : ls.size = nL) (hM : Met l y (WZ y bytes maxL rty) rm (PC dC dI cI cJ (.ref b :: As) wc) Qc 0 0 (FA wc)) (gi : GoodIn BIG (wsV own index C y (WZ y bytes maxL rty)))
    (hd : y.cls = C ∧ y.cls ≠ "java/lang/invoke/MethodHandle" ∧ y.cls ≠ "java/lang/invoke/VarHandle" ∧ (parseMethodDescriptor y.desc).map (fun d => d.parameters.length) = some n) (hrm : rm.cells = 0 ∧ rm.slots = 0) (hn : As.length = n) (hR : rm.frames + 1 ≤ R.frames ∧ 8 + (maxL + 11) + rm.locals ≤ R.locals)
    (is : List Nat) (hnd : va_nd is = true) (hC : is.map (fun i => ws[i]?) = wc.map some) (q0 : Nat) {ci : Nat} {cq : vw_C} {fs : List Value} (he : ws[q0]? = some (b, .inr (ci, fs))) (hc : vwCl[ci]? = some cq) (hcC : cq.1 = C)
    (hst : st0 = As.reverse ++ .ref b :: rest) (hrest : (rest.map fun v => v.category).sum ≤ 8) (hcs : cells ≤ R.cells ∧ slots ≤ R.slots) (hdg : decode cc pc = .ok (.invokevirtual index, 3)) :
    va_Run p l e R s m args below meth c H locs cells slots 0 0 (F0 m pc ls st0) rest (Qc (Value.ref b :: As).toArray) (FA wc) :=
  va_runV (Ts := BIG) X.1 hM (cwV n X.1.2.2.2.2 gi rfl hrm.1 hrm.2 hd hR) ⟨PC.blind, hcC ▸ va_recv X.2.1.1 hG.1 hc he, fun U hU hW => ⟨rfl, hG.sub X.2.1 is hnd hC hU hW⟩⟩ rfl hn hsz hst (lv_room hrest) hdg hcs
theorem run_S (X : Cx p m c cc nL s args own dC dI cI cJ meth ret) (hG : G dC dI A H0 ws H locs) (hsz : ls.size = nL) (hM : Met l y (WZ y bytes maxL rty) rm (PC dC dI cI cJ As wc) Qc 0 0 (FA wc)) (gi : GoodIn BIG (va_wsS own index y (WZ y bytes maxL rty)))
    (hd : y.cls ≠ "java/lang/invoke/MethodHandle" ∧ y.cls ≠ "java/lang/invoke/VarHandle" ∧ (parseMethodDescriptor y.desc).map (fun d => d.parameters.length) = some n) (hrm : rm.cells = 0 ∧ rm.slots = 0) (hn : As.length = n) (hR : rm.frames + 1 ≤ R.frames ∧ 8 + (maxL + 11) + rm.locals ≤ R.locals)
    (is : List Nat) (hnd : va_nd is = true) (hC : is.map (fun i => ws[i]?) = wc.map some)
    (hst : st0 = As.reverse ++ rest) (hrest : (rest.map fun v => v.category).sum ≤ 8) (hcs : cells ≤ R.cells ∧ slots ≤ R.slots) (hdg : decode cc pc = .ok (.invokestatic index, 3)) :
    va_Run p l e R s m args below meth c H locs cells slots 0 0 (F0 m pc ls st0) rest (Qc As.toArray) (FA wc) :=
  va_runS (Ts := BIG) X.1 hM (va_cwS n X.1.2.2.2.2 gi rfl hrm.1 hrm.2 hd hR) ⟨PC.blind, fun U hU hW => ⟨rfl, hG.sub X.2.1 is hnd hC hU hW⟩⟩ rfl hn hsz hst (lv_room hrest) hdg hcs
theorem run_SN (X : Cx p m c cc nL s args own dC dI cI cJ meth ret) (hG : G dC dI A H0 ws H locs) (hsz : ls.size = nL) (hM : Met l y (WZ y bytes maxL rty) rm (PC dC dI cI cJ As wc) Qc 0 0 (FA wc)) (gi : GoodIn BIG (WZ y bytes maxL rty)) (hl : Cond.methodLinkNest own index y host ∈ NEST) (hst2 : Cond.static y ∈ BIG) (hini : Cond.initialized y.cls ∈ BIG)
    (hd : y.cls ≠ "java/lang/invoke/MethodHandle" ∧ y.cls ≠ "java/lang/invoke/VarHandle" ∧ (parseMethodDescriptor y.desc).map (fun d => d.parameters.length) = some n) (hrm : rm.cells = 0 ∧ rm.slots = 0) (hn : As.length = n) (hR : rm.frames + 1 ≤ R.frames ∧ 8 + (maxL + 11) + rm.locals ≤ R.locals)
    (is : List Nat) (hnd : va_nd is = true) (hC : is.map (fun i => ws[i]?) = wc.map some)
    (hst : st0 = As.reverse ++ rest) (hrest : (rest.map fun v => v.category).sum ≤ 8) (hcs : cells ≤ R.cells ∧ slots ≤ R.slots) (hdg : decode cc pc = .ok (.invokestatic index, 3)) :
    va_Run p l e R s m args below meth c H locs cells slots 0 0 (F0 m pc ls st0) rest (Qc As.toArray) (FA wc) :=
  va_runSN (Ts := BIG) X.1 hM ⟨va_cnB n X.1.2.2.2.2 gi rfl hrm.1 hrm.2 (X.2.1.2 _ hl) (X.1.2.2.2.2 _ hini) hd hR, X.1.2.2.2.2 _ hst2, trivial⟩ ⟨PC.blind, fun U hU hW => ⟨rfl, hG.sub X.2.1 is hnd hC hU hW⟩⟩ rfl hn hsz hst (lv_room hrest) hdg hcs
theorem aft_i {r : Int32} (hr : va_Run p l e R s m args below meth c H locs cells slots 0 0 (F0 m pc ls st0) rest (QI dC dI wc w1 r a) (FA wc)) (hG : G dC dI A H0 ws H locs) (is : List Nat) (hC : is.map (fun i => ws[i]?) = wc.map some) (hf : w1.map (·.1) = wc.map (·.1)) (hw : puts ws is w1 = ws')
    (kk : ∀ (H1 : Heap) (locs1 : List Loc), G dC dI A H0 ws' H1 locs1 → W p l e R s m args below meth c H1 locs1 cells slots Q (F0 m (pc + 3) ls (.int r :: rest))) : W p l e R s m args below meth c H locs cells slots Q (F0 m pc ls st0) :=
  va_calli hr hG.2.2 (fun q _ h => fa_free hG.2.1 is hC q h) (fa_free hG.2.1 is hC) (fun r' u t H1 locs1 ht _ hp hB _ hk hS => by subst hp; subst ht; exact kk _ locs1 (hG.call is hC hf hw hk hB hS))
theorem aft_l {r : Int64} (hr : va_Run p l e R s m args below meth c H locs cells slots 0 0 (F0 m pc ls st0) rest (QL dC dI wc w1 r a) (FA wc)) (hG : G dC dI A H0 ws H locs) (is : List Nat) (hC : is.map (fun i => ws[i]?) = wc.map some) (hf : w1.map (·.1) = wc.map (·.1)) (hw : puts ws is w1 = ws')
    (kk : ∀ (H1 : Heap) (locs1 : List Loc), G dC dI A H0 ws' H1 locs1 → W p l e R s m args below meth c H1 locs1 cells slots Q (F0 m (pc + 3) ls (.long r :: rest))) : W p l e R s m args below meth c H locs cells slots Q (F0 m pc ls st0) :=
  va_calll hr hG.2.2 (fun q _ h => fa_free hG.2.1 is hC q h) (fa_free hG.2.1 is hC) (fun r' u t H1 locs1 ht _ hp hB _ hk hS => by subst hp; subst ht; exact kk _ locs1 (hG.call is hC hf hw hk hB hS))
theorem aft_v (hr : va_Run p l e R s m args below meth c H locs cells slots 0 0 (F0 m pc ls st0) rest (QV dC dI wc w1 a) (FA wc)) (hG : G dC dI A H0 ws H locs) (is : List Nat) (hC : is.map (fun i => ws[i]?) = wc.map some) (hf : w1.map (·.1) = wc.map (·.1)) (hw : puts ws is w1 = ws')
    (kk : ∀ (H1 : Heap) (locs1 : List Loc), G dC dI A H0 ws' H1 locs1 → W p l e R s m args below meth c H1 locs1 cells slots Q (F0 m (pc + 3) ls rest)) : W p l e R s m args below meth c H locs cells slots Q (F0 m pc ls st0) :=
  va_callv hr hG.2.2 (fun q _ h => fa_free hG.2.1 is hC q h) (fa_free hG.2.1 is hC) (fun u t H1 locs1 ht _ _ hB _ hk hS => by subst ht; exact kk _ locs1 (hG.call is hC hf hw hk hB hS))
/-- a callee whose world is the whole world of its caller -/
theorem run_V1 (X : Cx p m c cc nL s args own dC dI cI cJ meth ret) (hG : G dC dI A H0 ws H locs) (hsz : ls.size = nL) (hM : Met l y (WZ y bytes maxL rty) rm (PC dC dI cI cJ (.ref b :: As) ws) Qc 0 0 (FA ws)) (gi : GoodIn BIG (wsV own index C y (WZ y bytes maxL rty)))
    (hd : y.cls = C ∧ y.cls ≠ "java/lang/invoke/MethodHandle" ∧ y.cls ≠ "java/lang/invoke/VarHandle" ∧ (parseMethodDescriptor y.desc).map (fun d => d.parameters.length) = some n) (hrm : rm.cells = 0 ∧ rm.slots = 0) (hn : As.length = n) (hR : rm.frames + 1 ≤ R.frames ∧ 8 + (maxL + 11) + rm.locals ≤ R.locals)
    (q0 : Nat) {ci : Nat} {cq : vw_C} {fs : List Value} (he : ws[q0]? = some (b, .inr (ci, fs))) (hc : vwCl[ci]? = some cq) (hcC : cq.1 = C)
    (hst : st0 = As.reverse ++ .ref b :: rest) (hrest : (rest.map fun v => v.category).sum ≤ 8) (hcs : cells ≤ R.cells ∧ slots ≤ R.slots) (hdg : decode cc pc = .ok (.invokevirtual index, 3)) :
    va_Run p l e R s m args below meth c H locs cells slots 0 0 (F0 m pc ls st0) rest (Qc (Value.ref b :: As).toArray) (FA ws) :=
  va_runV (Ts := BIG) X.1 hM (cwV n X.1.2.2.2.2 gi rfl hrm.1 hrm.2 hd hR) ⟨PC.blind, hcC ▸ va_recv X.2.1.1 hG.1 hc he, fun U hU hW => ⟨rfl, by rw [hU]; exact hG.1, X.2.1.moved hW, hG.2.1.weaken (fun _ _ _ _ => trivial)⟩⟩ rfl hn hsz hst (lv_room hrest) hdg hcs
theorem G.all (hG : G dC dI A H0 ws H locs) (hf : w1.map (·.1) = ws.map (·.1)) {H1 : Heap} {locs1 : List Loc} (hP : va_P (dC, dI) vwCl w1 H1) (hS : va_S A H0 H1 locs1) : G dC dI A H0 w1 H1 locs1 := by
  have g : ∀ (k : Nat) (q : Nat × va_E), w1[k]? = some q → ∃ q', ws[k]? = some q' ∧ q'.1 = q.1 := by
    intro k q hq
    have h1 : (w1.map (·.1))[k]? = (ws.map (·.1))[k]? := by rw [hf]
    rw [List.getElem?_map, List.getElem?_map, hq] at h1
    cases hw : ws[k]? with
    | none => rw [hw] at h1; cases h1
    | some q' => rw [hw] at h1; exact ⟨q', rfl, (Option.some.inj h1).symm⟩
  refine ⟨hP, ⟨fun i j x z hx hz hxz => ?_, fun k q hq => ?_⟩, hS⟩
  · obtain ⟨x', h1, h2⟩ := g i x hx
    obtain ⟨z', h3, h4⟩ := g j z hz
    exact hG.2.1.1 i j x' z' h1 h3 (by rw [h2, h4]; exact hxz)
  · obtain ⟨q', h1, h2⟩ := g k q hq
    rw [← h2]; exact hG.2.1.2 k q' h1
theorem fa_self (hG : G dC dI A H0 ws H locs) : ∀ q, FA ws q → A q := fun q ⟨k, e, h⟩ => hG.2.1.2 k (q, e) h
theorem aft_i1 {r : Int32} (hr : va_Run p l e R s m args below meth c H locs cells slots 0 0 (F0 m pc ls st0) rest (QI dC dI ws w1 r a) (FA ws)) (hG : G dC dI A H0 ws H locs) (hf : w1.map (·.1) = ws.map (·.1))
    (kk : ∀ (H1 : Heap) (locs1 : List Loc), G dC dI A H0 w1 H1 locs1 → W p l e R s m args below meth c H1 locs1 cells slots Q (F0 m (pc + 3) ls (.int r :: rest))) : W p l e R s m args below meth c H locs cells slots Q (F0 m pc ls st0) :=
  va_calli hr hG.2.2 (fun q _ h => fa_self hG q h) (fa_self hG) (fun r' u t H1 locs1 ht _ hp hB _ hk hS => by subst hp; subst ht; exact kk _ locs1 (hG.all hf hB hS))
theorem aft_l1 {r : Int64} (hr : va_Run p l e R s m args below meth c H locs cells slots 0 0 (F0 m pc ls st0) rest (QL dC dI ws w1 r a) (FA ws)) (hG : G dC dI A H0 ws H locs) (hf : w1.map (·.1) = ws.map (·.1))
    (kk : ∀ (H1 : Heap) (locs1 : List Loc), G dC dI A H0 w1 H1 locs1 → W p l e R s m args below meth c H1 locs1 cells slots Q (F0 m (pc + 3) ls (.long r :: rest))) : W p l e R s m args below meth c H locs cells slots Q (F0 m pc ls st0) :=
  va_calll hr hG.2.2 (fun q _ h => fa_self hG q h) (fa_self hG) (fun r' u t H1 locs1 ht _ hp hB _ hk hS => by subst hp; subst ht; exact kk _ locs1 (hG.all hf hB hS))
theorem aft_v1 (hr : va_Run p l e R s m args below meth c H locs cells slots 0 0 (F0 m pc ls st0) rest (QV dC dI ws w1 a) (FA ws)) (hG : G dC dI A H0 ws H locs) (hf : w1.map (·.1) = ws.map (·.1))
    (kk : ∀ (H1 : Heap) (locs1 : List Loc), G dC dI A H0 w1 H1 locs1 → W p l e R s m args below meth c H1 locs1 cells slots Q (F0 m (pc + 3) ls rest)) : W p l e R s m args below meth c H locs cells slots Q (F0 m pc ls st0) :=
  va_callv hr hG.2.2 (fun q _ h => fa_self hG q h) (fa_self hG) (fun u t H1 locs1 ht _ _ hB _ hk hS => by subst ht; exact kk _ locs1 (hG.all hf hB hS))
end CALLS
