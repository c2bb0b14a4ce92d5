/-! constructors -/
def bo_yI : MethodName := ⟨"BoxFlow$Interval", "<init>", "()V"⟩
/-- words on nest mates and on the array of polynomials -/
def bo_cs (U : State) : Prop := va_AO "BoxFlow$Polynomial" U ∧ va_Nw (.methodLinkNest "BoxFlow$Coefficients" 25 bo_yI "BoxFlow") U ∧ va_Nw (.methodLinkNest "BoxFlow$Trial" 38 bo_yI "BoxFlow") U ∧ va_Nw (.methodLinkNest "BoxFlow$Run" 65 bo_yI "BoxFlow") U
theorem bo_cs.warm {s U : State} (hW : s.WarmedH U.vm) (h : bo_cs s) : bo_cs U := ⟨va_AO.moved hW.alike h.1, va_Nw.warmM hW h.2.1, va_Nw.warmM hW h.2.2.1, va_Nw.warmM hW h.2.2.2⟩
abbrev bo_prc (D : va_G) (cl : List vw_C) (tys : List (ClassId × FieldType)) (av : List Value) (sz : Nat) (W0 : va_W) : Array Value → State → Prop := fun a U => bo_pre D cl tys av sz W0 a U ∧ bo_cs U
def bo_k {S : Type} (l : Launch) (D : va_G) (cl : List vw_C) (tys : List (ClassId × FieldType)) (y : MethodName) (ws : List Cond) (rm : Room) (av : List Value) (W0 : va_W) (post : S → Prop) (W1 : S → va_W) : Prop :=
  ∀ sz : Nat, Met l y ws rm (bo_prc D cl tys av sz W0) (bo_Qv D cl tys (va_A W0 sz) post W1) rm.cells rm.slots (va_A W0 sz)
theorem bo_blindc (D : va_G) (cl : List vw_C) (tys : List (ClassId × FieldType)) (av : List Value) (sz : Nat) (W0 : va_W) : FrameBlind (bo_prc D cl tys av sz W0) := by
  intro a U g mk q
  exact ⟨bo_blind D cl tys av sz W0 a U g mk q.1, bo_cs.warm (s := U) (U := U.calling g mk a) (State.WarmedH.refl U) q.2⟩
abbrev bo_RETc {S : Type} (l : Launch) (D : va_G) (cl : List vw_C) (R : Room) (cc : ByteArray) (post : S → Prop) (W1 : S → va_W) (p : Program) (e : Env) (s : State) (m : MethodId) (args : Array Value) (below : List Frame) (meth : Method) (c : Code) (A : Nat → Prop) (Q : State → Prop) : Prop :=
  ∀ (u : S) (H : Heap) (locs : List Loc) (pc : Nat) (ls : Array Slot), va_P D cl (W1 u) H → va_D A (W1 u) → va_S A s.heap H locs → post u → decode cc pc = .ok (.return_, 1) → W p l e R s m args below meth c H locs R.cells R.slots Q (F0 m pc ls [])
theorem bo_enter_c {l : Launch} {D : va_G} {cl : List vw_C} {tys : List (ClassId × FieldType)} {y : MethodName} {ws ws' : List Cond} {av : List Value} {W0 : va_W} {cc : ByteArray} {maxL : Nat} {S : Type} {post : S → Prop} {W1 : S → va_W} {R : Room} (hy : plainName y.cls = true) (hw : ws = Cond.code y cc maxL none :: ws') (hmax : (lg_sl av).length ≤ maxL) (hnm0 : y.name = "<init>")
    (body : ∀ (p : Program) (e : Env) (s : State) (m : MethodId) (args : Array Value) (below : List Frame) (meth : Method) (c : Code) (A : Nat → Prop) (ls : Array Slot) (Q : State → Prop), p.tables.exec = Jvm.exec → c.code = cc → (∀ w ∈ ws, w.before args s = true) → s.vm.findClass y.cls = some m.cls → c.maxLocals = maxL → meth.name = "<init>" → bo_cs s → va_K D cl tys s → va_P D cl W0 s.heap → va_D A W0 → va_S A s.heap s.heap [] → (∀ q : Nat, s.heap.size ≤ q → A q) → lv_has ls maxL (lv_args 0 av) → bo_RETc l D cl R cc post W1 p e s m args below meth c A Q → W p l e R s m args below meth c s.heap [] 0 0 Q (F0 m 0 ls [])) : bo_k l D cl tys y ws R av W0 post W1 := by
  intro sz
  refine Met.ofW (cc := cc) (maxL := maxL) (ret := none) hy hw ?_
  intro p e s m args below meth c s₁ B hml hv
  obtain ⟨⟨rfl, hsz, hP, hK, hD0⟩, hcs⟩ := hv
  have hts := atoms_spec (ws := ws) B.pre
  have hown : s.vm.findClass y.cls = some m.cls := findClass_of_methodNamed B.named
  subst hsz
  have hD := hD0.self (sz := s.heap.size)
  have hl := lv_entry av (n := maxL) hmax
  rw [lg_entry_eq]
  exact body p e s m _ below meth c _ _ _ B.exec B.bytes hts hown hml ((name_of_methodNamed B.named B.method).1.trans hnm0) hcs hK hP hD va_S.rf (fun q h => Or.inr h) hl (fun u H locs pc ls hP hD hS hu d => W.vret B.exec B.bytes B.returns (fun t ht hW => ⟨⟨u, rfl, hu, by rw [ht]; exact hP, va_K.moved hW.alike hK, hD⟩, hS.F ht⟩) hS.2.2 d B.notSynchronized)
section CT
variable {p : Program} {l : Launch} {e : Env} {R : Room} {s : State} {m : MethodId} {args : Array Value} {below : List Frame} {meth : Method} {c : Code} {H : Heap} {locs : List Loc} {cells slots : Nat} {Q : State → Prop}
variable {cc : ByteArray} {pc : Nat} {ls : Array Slot} {rest : List Value} {D : va_G} {cl : List vw_C} {tys : List (ClassId × FieldType)} {A : Nat → Prop} {H0 : Heap} {ws : va_W} {a : Nat}
theorem bo_newa (hexec : p.tables.exec = Jvm.exec) (hb : c.code = cc) {atype : ArrayType} (harr : (Cond.arrayClass (newarray.typeOf atype)).before args s = true) {ty : FieldType} (hty : newarray.typeOf atype = ty) (hK : va_K D cl tys s) (t0 : Nat) {cX : ClassId} (ht : tys[t0]? = some (cX, ty)) {nm : String} (hra : ∀ (U : State) (c : ClassId), va_RA U c ty → U.vm.findClass nm = some c) (hP : va_P D cl ws H) (hD : va_D A ws) (hS : va_S A H0 H locs) (hA : ∀ q, H0.size ≤ q → A q)
    {n : Nat} (hn : n < 2 ^ 31) {a0 : vp_A} (ha : ∀ cA : ClassId, vp_cell cA a0 = arrV cA n (fun _ => defaultValue ty)) (hbytes : n * componentBytes ty ≤ 536870912) (hcells : cells + 1 ≤ R.cells) (hslots : slots + n ≤ R.slots) (hdg : decode cc pc = .ok (.newarray atype, 2))
    (kk : ∀ (q : Nat) (H1 : Heap), va_P D cl (ws ++ [(q, .inl (cX, a0))]) H1 → va_D A (ws ++ [(q, .inl (cX, a0))]) → va_S A H0 H1 locs → W p l e R s m args below meth c H1 locs (cells + 1) (slots + n) Q (F0 m (pc + 2) ls (.ref q :: rest))) : W p l e R s m args below meth c H locs cells slots Q (F0 m pc ls (.int (nI n) :: rest)) := by
  refine va_newa hexec hb harr hty hK hP hD hS hA ha (nI_pos hn) (nI_clamp hn) hbytes hcells hslots hdg (fun q cA H1 hK1 hP1 hD1 hS1 => ?_)
  have h1 := hra _ _ (hK.2 t0 _ ht).2
  have h2 := hra _ _ (hK1.2 tys.length (cA, ty) (by simp)).2
  have e9 : cA = cX := Option.some.inj (h2.symm.trans h1)
  subst e9
  exact kk q H1 hP1 hD1 hS1
theorem bo_newq (hexec : p.tables.exec = Jvm.exec) (hb : c.code = cc) {own C : String} {index : Nat} (hown : s.vm.findClass own = some m.cls) (hclink : (Cond.classLink own index C).before args s = true) (hover : va_AO C s) (hK : va_K D cl tys s) (t0 : Nat) {cX : ClassId} (ht : tys[t0]? = some (cX, .object C)) (hP : va_P D cl ws H) (hD : va_D A ws) (hS : va_S A H0 H locs) (hA : ∀ q, H0.size ≤ q → A q)
    {n : Nat} (hn : n < 2 ^ 31) (hbytes : n * 4 ≤ 536870912) (hcells : cells + 1 ≤ R.cells) (hslots : slots + n ≤ R.slots) (hdg : decode cc pc = .ok (.anewarray index, 3))
    (kk : ∀ (q : Nat) (H1 : Heap), va_P D cl (ws ++ [(q, .inl (cX, n, .inr (.inr (.inr (.inr (fun _ => none))))))]) H1 → va_D A (ws ++ [(q, .inl (cX, n, .inr (.inr (.inr (.inr (fun _ => none))))))]) → va_S A H0 H1 locs → W p l e R s m args below meth c H1 locs (cells + 1) (slots + n) Q (F0 m (pc + 3) ls (.ref q :: rest))) : W p l e R s m args below meth c H locs cells slots Q (F0 m pc ls (.int (nI n) :: rest)) := by
  refine va_newq hexec hb hown hclink hover hK hP hD hS hA (nI_pos hn) (nI_clamp hn) hbytes hcells hslots hdg (fun q cA H1 hK1 hP1 hD1 hS1 => ?_)
  obtain ⟨-, -, -, -, -, h1⟩ := (hK.2 t0 _ ht).2
  obtain ⟨-, -, -, -, -, h2⟩ := (hK1.2 tys.length (cA, .object C) (by simp)).2
  have e9 : cA = cX := Option.some.inj (h2.symm.trans h1)
  subst e9
  exact kk q H1 hP1 hD1 hS1
theorem bo_preC {W0 : va_W} {av : List Value} (hcs : bo_cs s) (hK : va_K D cl tys s) (hP : va_P D cl ws H) (hD : va_D A ws) (isC : List Nat) (hC : isC.map (fun i => ws[i]?) = W0.map some) (hnd : va_nd isC = true) : PreS s H (bo_prc D cl tys av H.size W0) av :=
  ⟨bo_blindc D cl tys av H.size W0, fun U hU hW => ⟨(bo_preS (av := av) hK hP hD isC hC hnd).2 U hU hW, bo_cs.warm hW hcs⟩⟩
theorem bo_rK {y : MethodName} {wsc : List Cond} {rm : Room} {W0 : va_W} {QQ : Array Value → State → Outcome → State → Prop} {Ts : List Cond} {own : String} {index maxL nL n : Nat} {bytes : ByteArray} {As st0 : List Value} {b : Nat} (hM : Met l y wsc rm (bo_prc D cl tys (.ref b :: As) H.size W0) QQ rm.cells rm.slots (va_A W0 H.size)) (S : CallFix p m c cc nL s args Ts own) (hcs : bo_cs s) (cw : CallB R s args own index y bytes maxL none wsc rm rm.cells rm.slots n ∧ y.name = "<init>" ∧ (Cond.instanceMethod y).before args s = true)
    (hK : va_K D cl tys s) (hP : va_P D cl ws H) (hD : va_D A ws) (isC : List Nat) (hC : isC.map (fun i => ws[i]?) = W0.map some) (hnd : va_nd isC = true)
    (hn : As.length = n) (hsize : ls.size = nL) (hst : st0 = As.reverse ++ .ref b :: rest) (hW : (rest.map fun v => v.category).sum ≤ 8) (d : decode cc pc = .ok (.invokespecial index, 3)) (hf : cells + rm.cells ≤ R.cells ∧ slots + rm.slots ≤ R.slots) :
    va_Run p l e R s m args below meth c H locs cells slots rm.cells rm.slots (F0 m pc ls st0) rest (QQ (Value.ref b :: As).toArray) (va_A W0 H.size) :=
  va_runI S hM cw (bo_preC (av := .ref b :: As) hcs hK hP hD isC hC hnd) rfl hn hsize hst (lv_room hW) d hf
theorem bo_rKN {y : MethodName} {wsc : List Cond} {rm : Room} {W0 : va_W} {QQ : Array Value → State → Outcome → State → Prop} {Ts : List Cond} {own host : String} {index maxL nL n : Nat} {bytes : ByteArray} {As st0 : List Value} {b : Nat} (hM : Met l y wsc rm (bo_prc D cl tys (.ref b :: As) H.size W0) QQ rm.cells rm.slots (va_A W0 H.size)) (S : CallFix p m c cc nL s args Ts own) (hcs : bo_cs s) (cw : va_CN R s args own index y host bytes maxL none wsc rm rm.cells rm.slots n ∧ y.name = "<init>" ∧ (Cond.instanceMethod y).before args s = true)
    (hK : va_K D cl tys s) (hP : va_P D cl ws H) (hD : va_D A ws) (isC : List Nat) (hC : isC.map (fun i => ws[i]?) = W0.map some) (hnd : va_nd isC = true)
    (hn : As.length = n) (hsize : ls.size = nL) (hst : st0 = As.reverse ++ .ref b :: rest) (hW : (rest.map fun v => v.category).sum ≤ 8) (d : decode cc pc = .ok (.invokespecial index, 3)) (hf : cells + rm.cells ≤ R.cells ∧ slots + rm.slots ≤ R.slots) :
    va_Run p l e R s m args below meth c H locs cells slots rm.cells rm.slots (F0 m pc ls st0) rest (QQ (Value.ref b :: As).toArray) (va_A W0 H.size) :=
  va_runIN S hM cw (bo_preC (av := .ref b :: As) hcs hK hP hD isC hC hnd) rfl hn hsize hst (lv_room hW) d hf
theorem bo_cwK {y0 y : MethodName} {c0 bytes : ByteArray} {n0 maxL index : Nat} {r0 : Option FieldType} {own : String} {rm : Room} (n : Nat) (ht : ∀ w ∈ bo_w y0 c0 n0 r0, w.before args s = true) (h1 : Cond.methodLink own index y ∈ bo_tb) (h2 : Cond.instanceMethod y ∈ bo_tb) (h4 : Cond.initialized y.cls ∈ bo_tb) (h5 : Cond.code y bytes maxL none ∈ bo_tb) (hn : y.name = "<init>")
    (hd : y.cls ≠ "java/lang/invoke/MethodHandle" ∧ y.cls ≠ "java/lang/invoke/VarHandle" ∧ (parseMethodDescriptor y.desc).map (fun d => d.parameters.length) = some n) (hR : rm.frames + 1 ≤ R.frames ∧ 8 + (maxL + 11) + rm.locals ≤ R.locals) : CallB R s args own index y bytes maxL none (bo_w y bytes maxL none) rm rm.cells rm.slots n ∧ y.name = "<init>" ∧ (Cond.instanceMethod y).before args s = true :=
  ⟨callB_of n ht (fun w h => bo_gw h5 w h) rfl rfl rfl (ht _ (List.mem_cons_of_mem _ h4)) (ht _ (List.mem_cons_of_mem _ h1)) hd hR, hn, ht _ (List.mem_cons_of_mem _ h2)⟩
theorem bo_cwKN {y0 y : MethodName} {c0 bytes : ByteArray} {n0 maxL index : Nat} {r0 : Option FieldType} {own host : String} {rm : Room} (n : Nat) (ht : ∀ w ∈ bo_w y0 c0 n0 r0, w.before args s = true) (h1 : va_Nw (.methodLinkNest own index y host) s) (h2 : Cond.instanceMethod y ∈ bo_tb) (h4 : Cond.initialized y.cls ∈ bo_tb) (h5 : Cond.code y bytes maxL none ∈ bo_tb) (hn : y.name = "<init>")
    (hd : y.cls ≠ "java/lang/invoke/MethodHandle" ∧ y.cls ≠ "java/lang/invoke/VarHandle" ∧ (parseMethodDescriptor y.desc).map (fun d => d.parameters.length) = some n) (hR : rm.frames + 1 ≤ R.frames ∧ 8 + (maxL + 11) + rm.locals ≤ R.locals) : va_CN R s args own index y host bytes maxL none (bo_w y bytes maxL none) rm rm.cells rm.slots n ∧ y.name = "<init>" ∧ (Cond.instanceMethod y).before args s = true :=
  ⟨va_cnB n ht (fun w h => bo_gw h5 w h) rfl rfl rfl h1 (ht _ (List.mem_cons_of_mem _ h4)) hd hR, hn, ht _ (List.mem_cons_of_mem _ h2)⟩
theorem bo_oinit (hexec : p.tables.exec = Jvm.exec) (hb : c.code = cc) {own : String} (hown : s.vm.findClass own = some m.cls) {idx : Nat} (hlink : (Cond.methodLink own idx Lib.objectInit).before args s = true) (hinst : (Cond.instanceMethod Lib.objectInit).before args s = true) (hcode : (Cond.code Lib.objectInit ⟨#[0xb1]⟩ 1 none).before args s = true)
    (hsize : ls.size = c.maxLocals) (hd : decode cc pc = .ok (.invokespecial idx, 3)) (hframes : 1 ≤ R.frames) (hcat : (rest.map fun v => v.category).sum ≤ 8) (hlocals : 20 ≤ R.locals)
    (kk : W p l e R s m args below meth c H locs cells slots Q (F0 m (pc + 3) ls rest)) : W p l e R s m args below meth c H locs cells slots Q (F0 m pc ls (.ref a :: rest)) :=
  W.objInit hexec hb hown hlink hinst hcode (g := F0 m pc ls (.ref a :: rest)) rfl hsize rfl hd hframes (by show 0 + (rest.map fun v => v.category).sum + 12 ≤ R.locals; omega) kk
end CT
theorem bo_raJ (U : State) (c : ClassId) (h : va_RA U c .long) : U.vm.findClass "[J" = some c := h
theorem bo_raI (U : State) (c : ClassId) (h : va_RA U c .int) : U.vm.findClass "[I" = some c := h
theorem bo_raB (U : State) (c : ClassId) (h : va_RA U c .byte) : U.vm.findClass "[B" = some c := h
