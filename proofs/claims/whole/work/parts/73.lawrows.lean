/-! rows for the law: worlds by parts, helpers with an exception table, catching -/
theorem va_A_of {ws : va_W} {sz : Nat} {q : Nat × va_E} (h : q ∈ ws) : va_A ws sz q.1 := by
  obtain ⟨k, hk⟩ := List.mem_iff_getElem?.mp h
  exact Or.inl ⟨k, q.2, hk⟩
theorem va_A_sub {w1 w2 : va_W} {sz : Nat} (h : ∀ q, q ∈ w1 → q ∈ w2) : ∀ q, va_A w1 sz q → va_A w2 sz q := by
  rintro q (⟨k, e, hk⟩ | hq)
  · exact va_A_of (q := (q, e)) (h _ (List.mem_of_getElem? hk))
  · exact Or.inr hq
section LWF
variable {l : Launch} {D : va_G} {cl : List vw_C} {tys : List (ClassId × FieldType)} {y : MethodName} {ws : List Cond} {rm : Room} {av : List Value} {W0 Z : va_W} {S : Type}
theorem bo_ap_at {w1 : va_W} {st t : State} (hP : va_P D cl (W0 ++ Z) st.heap) (hD0 : va_D (fun _ => True) (W0 ++ Z)) (hF : va_F (va_A W0 st.heap.size) st t) (h1 : bo_at D cl tys (va_A W0 st.heap.size) w1 t) : bo_at D cl tys (va_A (W0 ++ Z) st.heap.size) (w1 ++ Z) t ∧ va_F (va_A (W0 ++ Z) st.heap.size) st t := by
  have sub : ∀ q, va_A W0 st.heap.size q → va_A (W0 ++ Z) st.heap.size q := va_A_sub (fun q h => List.mem_append_left _ h)
  have at' : ∀ (k : Nat) (q : Nat × va_E), Z[k]? = some q → (W0 ++ Z)[W0.length + k]? = some q := by
    intro k q hq
    rw [List.getElem?_append_right (by omega), Nat.add_sub_cancel_left]
    exact hq
  have hz : ∀ (k : Nat) (q : Nat × va_E), Z[k]? = some q → q.1 < st.heap.size ∧ ¬ va_A W0 st.heap.size q.1 := by
    intro k q hq
    have hq' := at' k q hq
    have hl := (hP _ q hq').lt
    refine ⟨hl, ?_⟩
    rintro (⟨j, e, hj⟩ | h)
    · have hj0 := (List.getElem?_eq_some_iff.mp hj).1
      have hj' : (W0 ++ Z)[j]? = some (q.1, e) := by rw [List.getElem?_append_left hj0]; exact hj
      have := hD0.1 _ _ _ _ hq' hj' rfl
      omega
    · omega
  obtain ⟨hP1, hK1, hD1⟩ := h1
  refine ⟨⟨hP1.app (fun k q hq => ?_), hK1, (hD1.weaken (fun k q _ h => sub q.1 h)).app ⟨fun i j x z hx hz2 e => ?_, fun k q hk => ?_⟩ (fun i j x z hx hz2 e => ?_)⟩, hF.1, fun q hq hn => hF.2 q hq (fun z => hn (sub q z))⟩
  · exact (hP _ q (at' k q hq)).kept (hF.2 q.1 (hz k q hq).1 (hz k q hq).2)
  · have := hD0.1 _ _ _ _ (at' i x hx) (at' j z hz2) e
    omega
  · exact va_A_of (List.mem_append_right _ (List.mem_of_getElem? hk))
  · exact (hz j z hz2).2 (by rw [← e]; exact hD1.2 i x hx)
theorem va_P_left {H : Heap} (h : va_P D cl (W0 ++ Z) H) : va_P D cl W0 H := fun k q hk => h k q (by rw [List.getElem?_append_left (List.getElem?_eq_some_iff.mp hk).1]; exact hk)
theorem va_D_left {A : Nat → Prop} (h : va_D A (W0 ++ Z)) : va_D A W0 := by
  have up : ∀ (k : Nat) (q : Nat × va_E), W0[k]? = some q → (W0 ++ Z)[k]? = some q := fun k q hk => by rw [List.getElem?_append_left (List.getElem?_eq_some_iff.mp hk).1]; exact hk
  exact ⟨fun i j p q hp hq e => h.1 i j p q (up i p hp) (up j q hq) e, fun k q hk => h.2 k q (up k q hk)⟩
theorem va_P_rot {H : Heap} (h : va_P D cl (Z ++ W0) H) : va_P D cl (W0 ++ Z) H := va_P.swap (a := []) (b := Z) (c := W0) h
theorem va_D_rot {A : Nat → Prop} (h : va_D A (Z ++ W0)) : va_D A (W0 ++ Z) := va_D.swap (a := []) (b := Z) (c := W0) h
theorem va_A_rot {sz : Nat} : ∀ q, va_A (W0 ++ Z) sz q → va_A (Z ++ W0) sz q := va_A_sub (fun q h => by rcases List.mem_append.mp h with h | h; exact List.mem_append_right _ h; exact List.mem_append_left _ h)
/-- a contract over a world with more behind -/
theorem bo_frL_i {post : Int32 → S → Prop} {W1 : S → va_W} (h : bo_i l D cl tys y ws rm av W0 post W1) (Z : va_W) : bo_i l D cl tys y ws rm av (W0 ++ Z) post (fun u => W1 u ++ Z) := by
  intro sz p e ha hc hk s m args below hf happ hP hK'
  obtain ⟨q0, q1, hPX, hK, hD⟩ := hP
  obtain ⟨n, o, h1, h2, h3, hQ, L, hF, hL⟩ := h sz p e ha hc hk s m args below hf happ ⟨q0, q1, va_P_left hPX, hK, va_D_left hD⟩ hK'
  obtain ⟨⟨r, u, e1, hu, hat⟩, hva⟩ := hQ
  subst q1
  have h9 := bo_ap_at hPX hD hva hat
  exact ⟨n, o, h1, h2, h3, ⟨⟨r, u, e1, hu, h9.1⟩, h9.2⟩, L, hF, fun q hq => va_A_sub (fun q h => List.mem_append_left _ h) _ (hL q hq)⟩
theorem bo_frL_x {Xn : String} {post : S → Prop} {W1 : S → va_W} (h : bo_x Xn l D cl tys y ws rm av W0 post W1) (Z : va_W) : bo_x Xn l D cl tys y ws rm av (W0 ++ Z) post (fun u => W1 u ++ Z) := by
  intro sz p e ha hc hk s m args below hf happ hP hK'
  obtain ⟨⟨q0, q1, hPX, hK, hD⟩, hxs⟩ := hP
  obtain ⟨n, o, h1, h2, h3, hQ, L, hF, hL⟩ := h sz p e ha hc hk s m args below hf happ ⟨⟨q0, q1, va_P_left hPX, hK, va_D_left hD⟩, hxs⟩ hK'
  obtain ⟨⟨x, u, ce, e1, hu, hat, e2⟩, hva⟩ := hQ
  subst q1
  have h9 := bo_ap_at hPX hD hva hat
  exact ⟨n, o, h1, h2, h3, ⟨⟨x, u, ce, e1, hu, h9.1, e2⟩, h9.2⟩, L, hF, fun q hq => va_A_sub (fun q h => List.mem_append_left _ h) _ (hL q hq)⟩
/-- a contract over a world with more ahead -/
theorem bo_frR_i {post : Int32 → S → Prop} {W1 : S → va_W} (h : bo_i l D cl tys y ws rm av W0 post W1) (Z : va_W) : bo_i l D cl tys y ws rm av (Z ++ W0) post (fun u => Z ++ W1 u) := by
  intro sz p e ha hc hk s m args below hf happ hP hK'
  obtain ⟨q0, q1, hPX, hK, hD⟩ := hP
  obtain ⟨n, o, h1, h2, h3, hQ, L, hF, hL⟩ := bo_frL_i h Z sz p e ha hc hk s m args below hf happ ⟨q0, q1, va_P_rot hPX, hK, va_D_rot hD⟩ hK'
  obtain ⟨⟨r, u, e1, hu, hat⟩, hva⟩ := hQ
  obtain ⟨a1, a2, a3⟩ := hat
  exact ⟨n, o, h1, h2, h3, ⟨⟨r, u, e1, hu, va_P_rot a1, a2, (va_D_rot a3).weaken (fun k q _ h => va_A_rot _ h)⟩, hva.1, fun q hq hn => hva.2 q hq (fun z => hn (va_A_rot _ z))⟩, L, hF, fun q hq => va_A_rot _ (hL q hq)⟩
theorem bo_frR_k {post : S → Prop} {W1 : S → va_W} (h : bo_k l D cl tys y ws rm av W0 post W1) (Z : va_W) : bo_k l D cl tys y ws rm av (Z ++ W0) post (fun u => Z ++ W1 u) := by
  intro sz p e ha hc hk s m args below hf happ hP hK'
  obtain ⟨⟨q0, q1, hPX, hK, hD⟩, hcs⟩ := hP
  obtain ⟨n, o, h1, h2, h3, hQ, L, hF, hL⟩ := h sz p e ha hc hk s m args below hf happ ⟨⟨q0, q1, va_P_left (va_P_rot hPX), hK, va_D_left (va_D_rot hD)⟩, hcs⟩ hK'
  obtain ⟨⟨u, e1, hu, hat⟩, hva⟩ := hQ
  subst q1
  obtain ⟨⟨a1, a2, a3⟩, h92⟩ := bo_ap_at (va_P_rot hPX) (va_D_rot hD) hva hat
  exact ⟨n, o, h1, h2, h3, ⟨⟨u, e1, hu, va_P_rot a1, a2, (va_D_rot a3).weaken (fun k q _ h => va_A_rot _ h)⟩, h92.1, fun q hq hn => h92.2 q hq (fun z => hn (va_A_rot _ z))⟩, L, hF, fun q hq => va_A_rot _ (va_A_sub (fun q h => List.mem_append_left _ h) _ (hL q hq))⟩
theorem bo_fr_k {S' : Type} {post : S → Prop} {W1 : S → va_W} {post' : S' → Prop} {W1' : S' → va_W} (h : bo_k l D cl tys y ws rm av W0 post W1) (isP : List Nat) (hnP : va_nd isP = true)
    (f : ∀ u, post u → ∃ u' : S', post' u' ∧ isP.map (fun i => (W1 u)[i]?) = (W1' u').map some) : bo_k l D cl tys y ws rm av W0 post' W1' := by
  intro sz p e ha hc hk s m args below hf happ hP hK'
  obtain ⟨n, o, h1, h2, h3, hQ, L, hF, hL⟩ := h sz p e ha hc hk s m args below hf happ hP hK'
  obtain ⟨⟨u, e1, hu, hat⟩, hva⟩ := hQ
  obtain ⟨u', hu', hp⟩ := f u hu
  exact ⟨n, o, h1, h2, h3, ⟨⟨u', e1, hu', bo_at.sub hat isP hnP hp⟩, hva⟩, L, hF, hL⟩
end LWF
/-! words that the helpers want beside the tables' -/
def bo_ncl : List (String × String) := [("java/lang/ArithmeticException", "java/lang/IllegalStateException"), ("java/lang/IllegalArgumentException", "java/lang/IllegalStateException"), ("java/lang/IllegalArgumentException", "java/lang/ArithmeticException"), ("java/lang/ArithmeticException", "java/lang/IndexOutOfBoundsException")]
def bo_nc (U : State) : Prop := ∀ q ∈ bo_ncl, ∀ c d : ClassId, U.vm.findClass q.1 = some c → U.vm.findClass q.2 = some d → U.vm.assignable c d = false
def bo_hs (U : State) : Prop := bo_xs U ∧ bo_nc U ∧ ∃ cF : ClassId, U.vm.findClass "BoxFlow" = some cF
theorem bo_nc.of {s : State} {a : Array Value} (h : ∀ q ∈ bo_ncl, (Cond.not (.castable q.1 q.2)).before a s = true) : bo_nc s := by
  intro q hq c d h1 h2
  have hv := Cond.holds_not_iff.mp (h q hq)
  simp only [Cond.value, h1, h2] at hv
  exact Option.some.inj hv
theorem bo_hs.keep {s U : State} (hW : s.WarmedH U.vm) (hk : StaticsKept s U) (h : bo_hs s) : bo_hs U := by
  obtain ⟨h1, h2, cF, h3⟩ := h
  refine ⟨bo_xs.keep hW hk h3 h1, fun q hq c d e1 e2 => ?_, cF, by rw [hW.alike.findClass]; exact h3⟩
  rw [hW.alike.findClass] at e1 e2
  rw [hW.alike.assignable]
  exact h2 q hq c d e1 e2
abbrev bo_prh (D : va_G) (cl : List vw_C) (tys : List (ClassId × FieldType)) (av : List Value) (sz : Nat) (W0 : va_W) : Array Value → State → Prop := fun a U => bo_pre D cl tys av sz W0 a U ∧ bo_hs U
theorem bo_blindh (D : va_G) (cl : List vw_C) (tys : List (ClassId × FieldType)) (av : List Value) (sz : Nat) (W0 : va_W) : FrameBlind (bo_prh D cl tys av sz W0) := by
  intro a U g mk q
  exact ⟨bo_blind D cl tys av sz W0 a U g mk q.1, bo_hs.keep (s := U) (U := U.calling g mk a) (State.WarmedH.refl U) (fun a c h _ => h) q.2⟩
theorem bo_blindx (D : va_G) (cl : List vw_C) (tys : List (ClassId × FieldType)) (av : List Value) (sz : Nat) (W0 : va_W) {cF : ClassId} (a : Array Value) (U : State) (g : JFrame) (mk : MethodId) (hF : U.vm.findClass "BoxFlow" = some cF) (q : bo_prx D cl tys av sz W0 a U) : bo_prx D cl tys av sz W0 a (U.calling g mk a) :=
  ⟨bo_blind D cl tys av sz W0 a U g mk q.1, bo_xs.keep (s := U) (U := U.calling g mk a) (State.WarmedH.refl U) (fun a c h _ => h) hF q.2⟩
abbrev bo_hh : Type := List (Nat × Nat × Nat × Nat)
abbrev bo_wh (y : MethodName) (c : ByteArray) (n : Nat) (r : Option FieldType) (hh : bo_hh) : List Cond := Cond.codeWith y c n r hh :: bo_tb
def bo_h {S : Type} (l : Launch) (D : va_G) (cl : List vw_C) (tys : List (ClassId × FieldType)) (y : MethodName) (ws : List Cond) (rm : Room) (av : List Value) (W0 : va_W) (post : Int32 → S → Prop) (W1 : S → va_W) : Prop :=
  ∀ sz : Nat, Met l y ws rm (bo_prh D cl tys av sz W0) (bo_Qi D cl tys (va_A W0 sz) post W1) rm.cells rm.slots (va_A W0 sz)
theorem bo_frL_h {S : Type} {l : Launch} {D : va_G} {cl : List vw_C} {tys : List (ClassId × FieldType)} {y : MethodName} {ws : List Cond} {rm : Room} {av : List Value} {W0 : va_W} {post : Int32 → S → Prop} {W1 : S → va_W} (h : bo_h l D cl tys y ws rm av W0 post W1) (Z : va_W) : bo_h l D cl tys y ws rm av (W0 ++ Z) post (fun u => W1 u ++ Z) := by
  intro sz p e ha hc hk s m args below hf happ hP hK'
  obtain ⟨⟨q0, q1, hPX, hK, hD⟩, hxs⟩ := hP
  obtain ⟨n, o, h1, h2, h3, hQ, L, hF, hL⟩ := h sz p e ha hc hk s m args below hf happ ⟨⟨q0, q1, va_P_left hPX, hK, va_D_left hD⟩, hxs⟩ hK'
  obtain ⟨⟨r, u, e1, hu, hat⟩, hva⟩ := hQ
  subst q1
  have h9 := bo_ap_at hPX hD hva hat
  exact ⟨n, o, h1, h2, h3, ⟨⟨r, u, e1, hu, h9.1⟩, h9.2⟩, L, hF, fun q hq => va_A_sub (fun q h => List.mem_append_left _ h) _ (hL q hq)⟩
def bo_xt (q : Nat × Nat × Nat × Nat) : ExceptionTableEntry := ⟨q.1, q.2.1, q.2.2.1, q.2.2.2⟩
theorem bo_xt_of {t : List ExceptionTableEntry} {hh : bo_hh} (h : t.map (fun h => (h.startPc, h.endPc, h.handlerPc, h.catchType)) = hh) : t = hh.map bo_xt := by
  rw [← h, List.map_map]
  induction t generalizing hh with
  | nil => rfl
  | cons a r ih => rw [List.map_cons, ← ih rfl]; rfl
abbrev bo_RETh {S : Type} (l : Launch) (D : va_G) (cl : List vw_C) (R : Room) (cc : ByteArray) (post : Int32 → S → Prop) (W1 : S → va_W) (p : Program) (e : Env) (s : State) (m : MethodId) (args : Array Value) (below : List Frame) (meth : Method) (c : Code) (A : Nat → Prop) (Q : State → Prop) : Prop :=
  ∀ (u : S) (v : Int32) (H : Heap) (locs : List Loc) (pc : Nat) (ls : Array Slot), va_P D cl (W1 u) H → va_D A (W1 u) → va_S A s.heap H locs → post v u → decode cc pc = .ok (.ireturn, 1) → W p l e R s m args below meth c H locs R.cells R.slots Q (F0 m pc ls [.int v])
theorem bo_enter_h {l : Launch} {D : va_G} {cl : List vw_C} {tys : List (ClassId × FieldType)} {y : MethodName} {ws ws' : List Cond} {av : List Value} {W0 : va_W} {cc : ByteArray} {maxL : Nat} {hh : bo_hh} {S : Type} {post : Int32 → S → Prop} {W1 : S → va_W} {R : Room} (hy : plainName y.cls = true) (hw : ws = Cond.codeWith y cc maxL (some .int) hh :: ws') (hmax : (lg_sl av).length ≤ maxL)
    (body : ∀ (p : Program) (e : Env) (s : State) (m : MethodId) (args : Array Value) (below : List Frame) (meth : Method) (c : Code) (A : Nat → Prop) (ls : Array Slot) (Q : State → Prop), p.tables.exec = Jvm.exec → c.code = cc → (∀ w ∈ ws, w.before args s = true) → s.vm.findClass y.cls = some m.cls → c.maxLocals = maxL → c.exceptionTable.toList = hh.map bo_xt → bo_hs s → va_K D cl tys s → va_P D cl W0 s.heap → va_D A W0 → va_S A s.heap s.heap [] → (∀ q : Nat, s.heap.size ≤ q → A q) → lv_has ls maxL (lv_args 0 av) → bo_RETh l D cl R cc post W1 p e s m args below meth c A Q → W p l e R s m args below meth c s.heap [] 0 0 Q (F0 m 0 ls [])) : bo_h l D cl tys y ws R av W0 post W1 := by
  intro sz
  refine va_MetW (cc := cc) (maxL := maxL) (ret := some .int) (hh := hh) hy hw ?_
  intro p e s m args below meth c s₁ B hml hv
  obtain ⟨⟨rfl, hsz, hP, hK, hD0⟩, hcs⟩ := hv
  have hts := atoms_spec (ws := ws) B.pre
  have hown : s.vm.findClass y.cls = some m.cls := findClass_of_methodNamed B.named
  have hT : c.exceptionTable.toList = hh.map bo_xt := by
    obtain ⟨m9, meth9, c9, hn9, g1, g2, -, -, g3, -⟩ := Cond.codeWith_spec (hts _ (show Cond.codeWith y cc maxL (some .int) hh ∈ ws by rw [hw]; exact List.mem_cons_self))
    cases B.named.symm.trans hn9
    cases B.method.symm.trans g1
    have hcc : c9 = c := by
      have h1 := (Stand.of_body B).code
      rw [g2] at h1
      exact Option.some.inj h1
    rw [← hcc]
    exact bo_xt_of g3
  subst hsz
  have hD := hD0.self (sz := s.heap.size)
  have hl := lv_entry av (n := maxL) hmax
  rw [lg_entry_eq]
  exact body p e s m _ below meth c _ _ _ B.exec B.bytes hts hown hml hT hcs hK hP hD va_S.rf (fun q h => Or.inr h) hl (fun u v H locs pc ls hP hD hS hu d => W.iret B.exec B.bytes B.returns (fun t ht hW => ⟨⟨v, u, rfl, hu, by rw [ht]; exact hP, va_K.moved hW.alike hK, hD⟩, hS.F ht⟩) hS.2.2 d B.notSynchronized)
/-- a throwing callee, as its caller sees it -/
theorem bo_callVT {p : Program} {l : Launch} {e : Env} {R : Room} {s : State} {m : MethodId} {args : Array Value} {below : List Frame} {meth : Method} {c : Code} {T : State} {locs : List Loc} {cells slots : Nat} (X : Stand p l e R s m args below meth c T locs cells slots) (hexec : p.tables.exec = Jvm.exec) {own C : String} {index : Nat} {y : MethodName} {bytes : ByteArray} {maxL : Nat} {ret : Option FieldType}
    (hown : s.vm.findClass own = some m.cls) (hlink : (Cond.methodLink own index y).before args s = true) (hinst : (Cond.instanceMethod y).before args s = true) (hsel : (Cond.selects C y y).before args s = true)
    (hcode : (Cond.code y bytes maxL ret).before args s = true) (hy : y.cls ≠ "java/lang/invoke/MethodHandle" ∧ y.cls ≠ "java/lang/invoke/VarHandle")
    {W : Nat} {Pre : Pt → Array Value → Prop} {Post : Pt → Array Value → Addr → Pt → Prop} (hK : BackT l R p e below s args y 3 W Pre Post)
    {b : Addr} {cellB : Cell} (hcell : T.heap[b]? = some cellB) (hobj : cellB.vm.isStatics = false) (hcls : s.vm.findClass C = some cellB.cls)
    {g : JFrame} (hg : g.method = m) (hsize : g.locals.size = c.maxLocals) {argsL rest : List Value} (hlen : ∀ sig, parseMethodDescriptor y.desc = some sig → argsL.length = sig.parameters.length)
    (hstack : g.stack = argsL.reverse ++ .ref b :: rest) (hW : 2 * g.monitorRoom + (rest.map fun v => v.category).sum ≤ W) (hdg : decode c.code g.pc = .ok (.invokevirtual index, 3))
    (hpre : ∀ vm₁, s.WarmedH vm₁ → Pre ⟨T.setVm vm₁, locs, cells, slots⟩ (Value.ref b :: argsL).toArray) :
    ∃ (v : Addr) (vm₁ : Vm) (B : Pt), s.WarmedH vm₁ ∧ Stand p l e R s m args below meth c B.U B.locs B.cells B.slots ∧ Post ⟨T.setVm vm₁, locs, cells, slots⟩ (Value.ref b :: argsL).toArray v B ∧
      Steps p.tables e below (T.setTop g) ((B.U.setTop { g with stack := rest }).pushFrame (.throwing v)) := by
  obtain ⟨mk, methM, hnamed, hmethM, hstM, habM⟩ := Cond.instanceMethod_spec hinst
  obtain ⟨methM', cM, hmethM', -, -, -, -, -, -, hsigM⟩ := Cond.code_spec hnamed hcode
  cases hmethM.symm.trans hmethM'
  obtain ⟨c2, r2, m2, q1, q2, q3, q4, kP, hkP, hkPi⟩ := Cond.selects_spec hsel
  cases hcls.symm.trans q1
  cases (State.methodFound?_of_named hnamed hy).symm.trans q2
  cases hnamed.symm.trans q3
  have hselP : selectMethod e.platform s.vm cellB.cls mk = .method mk := by rw [Launch.admits_selectMethod X.admits]; exact q4
  obtain ⟨vm₁, X₁, hstep₁⟩ := X.invokevirtual hexec hown hlink hnamed hmethM hstM hkP hkPi hy (a := b) (cell := cellB) hcell
    (fun z h => by rw [h] at hobj; cases hobj) hselP hmethM habM hkP hkPi (g := g) hg (argsL := argsL) (rest := rest) (hlen _ hsigM) hstack hdg
  obtain ⟨v, B, X', hpost, hsteps⟩ := hK m meth c ⟨T.setVm vm₁, locs, cells, slots⟩ { g with stack := rest } (.invokevirtual index) mk (Value.ref b :: argsL).toArray X₁ hg hsize hdg hW (X₁.named hnamed) (hpre vm₁ X₁.warmed)
  exact ⟨v, vm₁, B, X₁.warmed, X', hpost, hstep₁ _ fun acts => by rw [doInvoke_state]; exact hsteps⟩
section LWC
variable {p : Program} {l : Launch} {e : Env} {R : Room} {s : State} {m : MethodId} {args : Array Value} {below : List Frame} {meth : Method} {c : Code} {H : Heap} {locs : List Loc} {cells slots : Nat} {Q : State → Prop}
variable {cc bytes : ByteArray} {pc nL maxL n index : Nat} {ls : Array Slot} {rest st0 : List Value} {D : va_G} {cl : List vw_C} {tys : List (ClassId × FieldType)} {A : Nat → Prop} {H0 : Heap} {ws : va_W}
variable {y : MethodName} {ret : Option FieldType} {wsc Ts : List Cond} {rm : Room} {own C : String} {b : Addr} {As : List Value} {S : Type}
theorem bo_fre (hD : va_D A ws) (hS : va_S A H0 H locs) (hA : ∀ q, H0.size ≤ q → A q) : ∀ q, va_A ws H.size q → A q := fun q h => h.elim (fun ⟨k, e, hk⟩ => hD.2 k _ hk) (fun h => hA q (Nat.le_trans hS.1 h))
/-- a call over the whole world -/
theorem bo_cV {post : Int32 → S → Prop} {W1 : S → va_W} (hM : bo_i l D cl tys y wsc rm (.ref b :: As) ws post W1) (F : CallFix p m c cc nL s args Ts own) (cw : CallW R s args own C index y bytes maxL ret wsc rm rm.cells rm.slots n)
    (hK : va_K D cl tys s) (hP : va_P D cl ws H) (hD : va_D A ws) (hS : va_S A H0 H locs) (hA : ∀ q, H0.size ≤ q → A q) {ci : Nat} {r : vw_C} (he : ∃ (q0 : Nat) (fs : List Value), ws[q0]? = some (b, .inr (ci, fs))) (hc : cl[ci]? = some r) (hrC : r.1 = C)
    (hn : As.length = n) (hsize : ls.size = nL) (hst : st0 = As.reverse ++ .ref b :: rest) (hW : (rest.map fun v => v.category).sum ≤ 8) (d : decode cc pc = .ok (.invokevirtual index, 3)) (hf : cells + rm.cells ≤ R.cells ∧ slots + rm.slots ≤ R.slots)
    (kk : ∀ (r : Int32) (u : S) (H1 : Heap) (locs1 : List Loc), post r u → va_P D cl (W1 u) H1 → va_D A (W1 u) → va_S A H0 H1 locs1 → W p l e R s m args below meth c H1 locs1 (cells + rm.cells) (slots + rm.slots) Q (F0 m (pc + 3) ls (.int r :: rest))) : W p l e R s m args below meth c H locs cells slots Q (F0 m pc ls st0) := by
  obtain ⟨q0, fs, he⟩ := he
  subst hrC
  have hfree := bo_fre hD hS hA
  have hr := va_runV F (hM H.size) cw ⟨bo_blind D cl tys (.ref b :: As) H.size ws, va_recv hK hP hc he, fun U hU hWm => ⟨rfl, by rw [hU], by rw [hU]; exact hP, va_K.moved hWm.alike hK, hD.weaken (fun _ _ _ _ => trivial)⟩⟩ rfl hn hsize hst (lv_room hW) d hf (p := p) (e := e) (below := below) (meth := meth) (locs := locs) (cells := cells) (slots := slots)
  refine va_calli hr hS (fun q _ h => hfree q h) hfree (fun r u t H1 locs1 ht hvm hp hB hz hk hS1 => ?_)
  obtain ⟨hP1, hK1, hD1⟩ := hB
  rw [ht] at hP1
  exact kk r u H1 locs1 hp hP1 (hD1.weaken (fun k q _ h => hfree q.1 h)) hS1
theorem bo_cK {post : S → Prop} {W1 : S → va_W} (hM : bo_k l D cl tys y wsc rm (.ref b :: As) ws post W1) (F : CallFix p m c cc nL s args Ts own) (hcs : bo_cs s) (cw : CallB R s args own index y bytes maxL none wsc rm rm.cells rm.slots n ∧ y.name = "<init>" ∧ (Cond.instanceMethod y).before args s = true)
    (hK : va_K D cl tys s) (hP : va_P D cl ws H) (hD : va_D A ws) (hS : va_S A H0 H locs) (hA : ∀ q, H0.size ≤ q → A q)
    (hn : As.length = n) (hsize : ls.size = nL) (hst : st0 = As.reverse ++ .ref b :: rest) (hW : (rest.map fun v => v.category).sum ≤ 8) (d : decode cc pc = .ok (.invokespecial index, 3)) (hf : cells + rm.cells ≤ R.cells ∧ slots + rm.slots ≤ R.slots)
    (kk : ∀ (u : S) (H1 : Heap) (locs1 : List Loc), post u → va_P D cl (W1 u) H1 → va_D A (W1 u) → va_S A H0 H1 locs1 → W p l e R s m args below meth c H1 locs1 (cells + rm.cells) (slots + rm.slots) Q (F0 m (pc + 3) ls rest)) : W p l e R s m args below meth c H locs cells slots Q (F0 m pc ls st0) := by
  have hfree := bo_fre hD hS hA
  have hr := va_runI F (hM H.size) cw ⟨bo_blindc D cl tys (.ref b :: As) H.size ws, fun U hU hWm => ⟨⟨rfl, by rw [hU], by rw [hU]; exact hP, va_K.moved hWm.alike hK, hD.weaken (fun _ _ _ _ => trivial)⟩, bo_cs.warm hWm hcs⟩⟩ rfl hn hsize hst (lv_room hW) d hf (p := p) (e := e) (below := below) (meth := meth) (locs := locs) (cells := cells) (slots := slots)
  refine va_callv hr hS (fun q _ h => hfree q h) hfree (fun u t H1 locs1 ht hvm hp hB hz hk hS1 => ?_)
  obtain ⟨hP1, hK1, hD1⟩ := hB
  rw [ht] at hP1
  exact kk u H1 locs1 hp hP1 (hD1.weaken (fun k q _ h => hfree q.1 h)) hS1
theorem bo_kept2 {W0 : va_W} {T : State} (hP : va_P D cl W0 s.heap) (hS : va_S (va_A W0 s.heap.size) s.heap T.heap locs) : StaticsKept s T := bo_kept hP hS rfl
/-- what the caller of a helper knows of statics: nothing that is kept apart has changed -/
theorem bo_hs.at {T : State} (h : bo_hs s) (hW : s.WarmedH T.vm) (hT : T.heap = H) (hkp : ∀ (a : Addr) (cell : Cell), s.heap[a]? = some cell → cell.vm.isStatics = true → H[a]? = some cell) : bo_hs T := bo_hs.keep hW (fun a c h1 h2 => by rw [hT]; exact hkp a c h1 h2) h
/-- a helper with an exception table, called -/
theorem bo_cH {post : Int32 → S → Prop} {W1 : S → va_W} {hh : bo_hh} (hM : bo_h l D cl tys y (bo_wh y bytes maxL (some .int) hh) rm As ws post W1) (F : CallFix p m c cc nL s args Ts own) (hws : ∀ w ∈ bo_wh y bytes maxL (some .int) hh, ∀ (a' : Array Value) (U : State), s.WarmedH U.vm → w.before a' U = true)
    (hlink : (Cond.methodLink own index y).before args s = true) (hstt : (Cond.static y).before args s = true) (hini : (Cond.initialized y.cls).before args s = true) (hy : y.cls ≠ "java/lang/invoke/MethodHandle" ∧ y.cls ≠ "java/lang/invoke/VarHandle" ∧ (parseMethodDescriptor y.desc).map (fun d => d.parameters.length) = some n) (hfr : rm.frames + 1 ≤ R.frames) (hlo : 8 + (maxL + 11) + rm.locals ≤ R.locals)
    (hhs : bo_hs s) (hkp : ∀ (a : Addr) (cell : Cell), s.heap[a]? = some cell → cell.vm.isStatics = true → H[a]? = some cell)
    (hK : va_K D cl tys s) (hP : va_P D cl ws H) (hD : va_D A ws) (hS : va_S A H0 H locs) (hA : ∀ q, H0.size ≤ q → A q)
    (hn : As.length = n) (hsize : ls.size = nL) (hst : st0 = As.reverse ++ rest) (hW : (rest.map fun v => v.category).sum ≤ 8) (d : decode cc pc = .ok (.invokestatic index, 3)) (hf : cells + rm.cells ≤ R.cells ∧ slots + rm.slots ≤ R.slots)
    (kk : ∀ (r : Int32) (u : S) (H1 : Heap) (locs1 : List Loc), post r u → va_P D cl (W1 u) H1 → va_D A (W1 u) → va_S A H0 H1 locs1 → (∀ q : Nat, q < H.size → ¬ va_A ws H.size q → H1[q]? = H[q]?) → W p l e R s m args below meth c H1 locs1 (cells + rm.cells) (slots + rm.slots) Q (F0 m (pc + 3) ls (.int r :: rest))) : W p l e R s m args below meth c H locs cells slots Q (F0 m pc ls st0) := by
  have hfree := bo_fre hD hS hA
  have hKB : Back l R p e below s args y 3 8 (PreOf R rm.cells rm.slots (bo_prh D cl tys As H.size ws)) (PostOf (bo_Qi D cl tys (va_A ws H.size) post W1) rm.cells rm.slots (va_A ws H.size)) :=
    va_backW (bytes := bytes) (maxL := maxL) (ret := some .int) (hh := hh) (hM H.size) (bo_blindh D cl tys As H.size ws) rfl rfl hfr hlo hws List.mem_cons_self (fun a' U hW => word_at hW (Or.inl rfl) hini)
  obtain ⟨hx, hb, hml, ho, -⟩ := F
  have hr : va_Run p l e R s m args below meth c H locs cells slots rm.cells rm.slots (F0 m pc ls st0) rest (bo_Qi D cl tys (va_A ws H.size) post W1 As.toArray) (va_A ws H.size) := by
    intro T hT X
    obtain ⟨mk, methM, cM, hnamed, hmethM, -, -, -, -, -, -, hsigM⟩ := Cond.codeWith_spec (hws _ List.mem_cons_self args s (State.WarmedH.refl s))
    have hstatic : methM.isStatic = true := Cond.static_spec hnamed hmethM hstt
    obtain ⟨kP, hkP, -⟩ := className_of_methodNamed hnamed
    have hinitP : kP.init = .initialized := Cond.initialized_spec (findClass_of_methodNamed hnamed) hkP hini
    have hlen : As.length = methM.sig.parameters.length := by
      have h2 := hy.2.2
      rw [hsigM] at h2
      exact hn.trans (Option.some.inj h2).symm
    obtain ⟨vm₁, X₁, hstep₁⟩ := X.invokestatic hx ho hlink hnamed hmethM hstatic hkP hinitP ⟨hy.1, hy.2.1⟩ (g := F0 m pc ls st0) rfl (argsL := As) (rest := rest) hlen hst (by rw [hb]; exact d)
    obtain ⟨v, ⟨U', l2, c2, s2⟩, X', ⟨g', mk', t, L, e1, e2, hq, h1, hL, h2, h3⟩, hsteps⟩ := hKB m meth c ⟨T.setVm vm₁, locs, cells, slots⟩ { F0 m pc ls st0 with stack := rest } (.invokestatic index) mk As.toArray X₁ rfl (hsize.trans hml.symm) (by rw [hb]; exact d) (lv_room hW) (X₁.named hnamed) ⟨hf.1, hf.2, ⟨rfl, by show T.heap.size = _; rw [hT], by show va_P D cl ws T.heap; rw [hT]; exact hP, va_K.moved X₁.warmed.alike hK, hD.weaken (fun _ _ _ _ => trivial)⟩, bo_hs.at (T := T.setVm vm₁) hhs X₁.warmed hT hkp⟩
    dsimp only [Pt.U, Pt.locs, Pt.cells, Pt.slots] at X' e1 e2 h1 h2 h3 hsteps
    subst h1; subst h2; subst h3
    exact ⟨v, (T.setVm vm₁).calling g' mk' As.toArray, t, U', L, hT, X', hL, e1, e2, hq, fun target h => hstep₁ _ fun acts => by rw [doInvoke_state]; exact hsteps.trans h⟩
  refine va_calli hr hS (fun q _ h => hfree q h) hfree (fun r u t H1 locs1 ht hvm hp hB hz hk hS1 => ?_)
  obtain ⟨hP1, hK1, hD1⟩ := hB
  rw [ht] at hP1
  exact kk r u H1 locs1 hp hP1 (hD1.weaken (fun k q _ h => hfree q.1 h)) hS1 hk
/-- a call that throws what a row of the table catches -/
theorem bo_cX {Xn : String} {post : S → Prop} {W1 : S → va_W} (hM : bo_x Xn l D cl tys y wsc rm (.ref b :: As) ws post W1) (F : CallFix p m c cc nL s args Ts own) (cw : CallW R s args own C index y bytes maxL ret wsc rm rm.cells rm.slots n)
    (hhs : bo_hs s) (hkp : ∀ (a : Addr) (cell : Cell), s.heap[a]? = some cell → cell.vm.isStatics = true → H[a]? = some cell)
    (hK : va_K D cl tys s) (hP : va_P D cl ws H) (hD : va_D A ws) (hS : va_S A H0 H locs) (hA : ∀ q, H0.size ≤ q → A q) {ci : Nat} {r : vw_C} (he : ∃ (q0 : Nat) (fs : List Value), ws[q0]? = some (b, .inr (ci, fs))) (hc : cl[ci]? = some r) (hrC : r.1 = C)
    (hn : As.length = n) (hsize : ls.size = nL) (hst : st0 = As.reverse ++ .ref b :: rest) (hW : (rest.map fun v => v.category).sum ≤ 8) (d : decode cc pc = .ok (.invokevirtual index, 3)) (hf : cells + rm.cells ≤ R.cells ∧ slots + rm.slots ≤ R.slots)
    (pre : bo_hh) (x0 : Nat × Nat × Nat × Nat) (post0 : bo_hh) (hsp : c.exceptionTable.toList = (pre ++ x0 :: post0).map bo_xt) (hcov : covers (bo_xt x0) pc = true) (h0 : x0.2.2.2 ≠ 0) (hlk : (Cond.classLink own x0.2.2.2 Xn).before args s = true)
    (hpass : ∀ q ∈ pre, q.2.2.2 ≠ 0 ∧ ∃ nm, (Cond.classLink own q.2.2.2 nm).before args s = true ∧ (Xn, nm) ∈ bo_ncl)
    (kk : ∀ (x : Addr) (u : S) (H1 : Heap) (locs1 : List Loc), post u → va_P D cl (W1 u) H1 → va_D A (W1 u) → va_S A H0 H1 locs1 → W p l e R s m args below meth c H1 locs1 (cells + rm.cells) (slots + rm.slots) Q (F0 m x0.2.2.1 ls [.ref x])) : W p l e R s m args below meth c H locs cells slots Q (F0 m pc ls st0) := by
  obtain ⟨q0, fs, he⟩ := he
  subst hrC
  obtain ⟨cF, hcF⟩ := hhs.2.2
  have hfree := bo_fre hD hS hA
  obtain ⟨cellB, hcB, hoB, hclB⟩ := va_recv hK hP hc he
  obtain ⟨⟨hrc, hrs, hfr, hlo, hws, hcw, hcode, hini, hy, hlen, hl⟩, hin, hse⟩ := cw
  obtain ⟨hx, hb, hml, ho, -⟩ := F
  have hBT : BackT l R p e below s args y 3 8 (fun (P : Pt) a => P.U.vm.findClass "BoxFlow" = some cF ∧ PreOf R rm.cells rm.slots (bo_prx D cl tys (.ref b :: As) H.size ws) P a) (fun P a v B => ∃ (g : JFrame) (mk : MethodId) (t : State) (L : List Loc), B.U.heap = t.heap ∧ B.U.vm = t.vm ∧ bo_Qx Xn D cl tys (va_A ws H.size) post W1 a (P.U.calling g mk a) (.threw v) t ∧ B.locs = P.locs ++ L ∧ (∀ q ∈ L, va_A ws H.size q.base) ∧ B.cells = P.cells + rm.cells ∧ B.slots = P.slots + rm.slots) := by
    refine BackT.of_free (S := headSpec wsc rm) (bytes := bytes) (maxL := maxL) (ret := ret) (E := fun a st o t L k n => k = rm.cells ∧ n = rm.slots ∧ ∀ q ∈ L, va_A ws H.size q.base) (hM H.size) hfr hlo ?_ ?_ (fun _ _ _ _ _ _ _ _ _ => trivial) ?_ ?_
    · intro m meth c A a X hp
      exact ⟨atoms_intro fun w hw => hws w hw _ _ X.warmed, hws _ hcw _ _ X.warmed, word_at X.warmed (Or.inl rfl) hini, hp.2.1, hp.2.2.1⟩
    · intro m meth c A a g mk X hp
      exact bo_blindx D cl tys (.ref b :: As) H.size ws a A.U g mk hp.1 hp.2.2.2
    · intro a st o t ⟨hq, L, hF, hL⟩
      exact ⟨L, _, _, hF, rfl, rfl, hL⟩
    · intro m meth c A a g mk v t L k n X hp hq hF ⟨e1, e2, hL⟩
      subst e1; subst e2
      exact ⟨g, mk, t, L, rfl, rfl, hq.1, rfl, hL, rfl, rfl⟩
  intro T hT X
  obtain ⟨v, vm₁, ⟨U', l2, c2, s2⟩, hW₁, X', ⟨g', mk, t, L, e1, e2, hq, h1, hL, h2, h3⟩, st⟩ := bo_callVT X hx (C := r.1) (bytes := bytes) (maxL := maxL) (ret := ret) ho hl hin hse hcode hy hBT (b := b) (cellB := cellB) (by rw [hT]; exact hcB) hoB hclB (g := F0 m pc ls st0) rfl (hsize.trans hml.symm) (argsL := As) (rest := rest) (fun sig h => hn.trans (hlen sig h)) hst (lv_room hW) (by rw [hb]; exact d)
    (fun vm₁ hW₁ => ⟨by show vm₁.findClass "BoxFlow" = some cF; rw [hW₁.alike.findClass]; exact hcF, hf.1, hf.2, ⟨rfl, by show T.heap.size = _; rw [hT], by show va_P D cl ws T.heap; rw [hT]; exact hP, va_K.moved hW₁.alike hK, hD.weaken (fun _ _ _ _ => trivial)⟩, (bo_hs.at (T := T.setVm vm₁) hhs hW₁ hT hkp).1⟩)
  dsimp only [Pt.U, Pt.locs, Pt.cells, Pt.slots] at X' e1 e2 h1 h2 h3 st
  subst h1; subst h2; subst h3
  obtain ⟨⟨x, u, ce, ev, hu, ⟨hP1, hK1, hD1⟩, hce, hcl, hvm⟩, hz, hk⟩ := hq
  cases ev
  have hcl0 : s.vm.findClass Xn = some ce.cls := by rw [← X'.warmed.alike.findClass, e2]; exact hcl
  have hpl : e.platform.magicAccessors = ({} : Platform).magicAccessors := by rw [X.admits.platform]
  obtain ⟨hend, hk0⟩ := X'.catches_of_link ho (x := bo_xt x0) h0 hlk hcl0 (thrown := ce.cls) (Vm.assignable_self _ _)
  obtain ⟨vm', XV, stV⟩ := X'.thenCaughtThrough v (g := F0 m pc ls rest) rfl st (cell := ce) (by rw [e1]; exact hce) (by rw [hvm]; rfl) hk0 (pre.map bo_xt) (bo_xt x0) (post0.map bo_xt) (by rw [hsp, List.map_append, List.map_cons]) (fun z hz => by
    obtain ⟨q, hq, rfl⟩ := List.mem_map.mp hz
    obtain ⟨a1, nm, a2, a3⟩ := hpass q hq
    obtain ⟨c', hc', hcl'⟩ := Cond.classLink_spec ho a2 e.platform hpl
    exact Or.inr ⟨a1, c', hcl', hhs.2.1 _ a3 _ _ hcl0 hc'⟩) hcov hend
  have hsz : H.size = (T.setVm vm₁).heap.size := by show H.size = T.heap.size; rw [hT]
  rw [show ((T.setVm vm₁).calling g' mk (Value.ref b :: As).toArray).heap = H from hT] at hz hk
  have hS1 : va_S A H0 t.heap (locs ++ L) := ⟨Nat.le_trans hS.1 hz, fun q h1 h2 => by rw [hk q (Nat.lt_of_lt_of_le h1 hS.1) (fun z => h2 (hfree q z))]; exact hS.2.1 q h1 h2, fun q hq => by
    rcases List.mem_append.mp hq with h | h
    · exact hS.2.2 q h
    · exact hfree _ (hL q h)⟩
  obtain ⟨t2, a1, b1⟩ := kk v u t.heap (locs ++ L) hu hP1 (hD1.weaken (fun k q _ h => hfree q.1 h)) hS1 (U'.setVm vm') (by show U'.heap = _; exact e1) XV
  exact ⟨t2, stV.trans a1, b1⟩
end LWC
