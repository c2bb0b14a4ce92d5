/-! what throws -/
section THROW
variable {p : Program} {l : Launch} {e : Env} {R : Room} {s : State} {m : MethodId} {args : Array Value} {below : List Frame} {meth : Method} {c : Code} {T : State} {locs : List Loc} {cells slots : Nat}
theorem bo_rebase (X : Stand p l e R s m args below meth c T locs cells slots) {R' : Room} (hf : R'.frames ≤ R.frames) (hl : R'.locals ≤ R.locals) (hc : cells + R'.cells ≤ R.cells) (hs : slots + R'.slots ≤ R.slots) :
    Stand p l e R' (T.setFrames s.frames) m args below meth c T [] 0 0 := by
  have hcur : T.cur < T.threads.size := by
    have h := X.here.top
    obtain ⟨g, hg⟩ := Option.isSome_iff_exists.mp h
    obtain ⟨r, hr⟩ := State.topJava?_eq_some.mp hg
    exact State.cur_lt_of_frames hr
  have hA : s.vm.Akin T.vm := Vm.Akin.of_alike X.warmed.alike
  have hmeth : ∀ mm : MethodId, (T.setFrames s.frames).vm.method? mm = s.vm.method? mm := fun mm => hA.method? mm
  have hcode : ∀ mm : MethodId, (T.setFrames s.frames).code? mm = s.code? mm := fun mm => by
    rw [State.code?_eq, State.code?_eq, hmeth]
  have hF0 : (T.setFrames s.frames).frames = s.frames := State.frames_setFrames _ hcur
  have hF : (T.setFrames s.frames).frames = .invoking m args :: below := hF0.trans X.frames
  have hm' : (T.setFrames s.frames).vm.method? m = some meth := by rw [hmeth]; exact X.method
  have hU : (T.setFrames s.frames).localsInUse = s.localsInUse := by
    rw [State.localsInUse_invoking hF hm' X.code, State.localsInUse_invoking X.frames X.method X.code]
  have hme : e.platform.stackLimits (T.setFrames s.frames).me = e.platform.stackLimits s.me := (State.stackLimits_setFrames _ _ _).trans X.limits
  have hby : (T.setFrames s.frames).me.stackBytes = s.me.stackBytes := (State.stackBytes_setFrames _ _).trans X.bytes
  have hroom : (T.setFrames s.frames).hasRoom e.platform R' = true := by
    have h := X.room
    have h1 := X.heapSize
    have h2 := X.used
    unfold State.hasRoom at h ⊢
    rw [hU, hF0, hme, hby]
    simp only [Bool.and_eq_true, decide_eq_true_eq] at h ⊢
    obtain ⟨⟨⟨⟨a1, a2, a3, a4, a5, a6⟩, a7⟩, a8⟩, a9⟩ := h
    refine ⟨⟨⟨⟨by omega, by omega, by omega, by omega, by omega, a6⟩, ?_⟩, ?_⟩, ?_⟩
    · show T.heap.size + _ ≤ _; omega
    · show T.slotsUsed + _ ≤ _; omega
    · exact X.book
  have hhears : (T.setFrames s.frames).hears m below = true := by
    have h := X.hears
    cases hb : below with
    | nil => rw [hb] at h; simp only [State.hears] at h ⊢; rw [hmeth]; exact h
    | cons f r =>
      rw [hb] at h
      cases f <;> simp only [State.hears] at h ⊢ <;> first | (rw [hcode]; exact h) | (rw [hmeth]; exact h) | exact h
  refine ⟨X.admits, X.cas, X.clock, hF, hroom, hhears, hm', X.code, X.here, X.tail, State.WarmedH.refl _, ?_, ?_, ?_⟩
  · exact (State.stackLimits_setFrames _ _ _).symm
  · exact (State.stackBytes_setFrames _ _).symm
  · refine ⟨?_, Nat.le_refl _, Nat.le_refl _, ?_, ?_, fun a c h => ⟨c, h, rfl, rfl, fun i _ => rfl⟩⟩
    · obtain ⟨t, ht⟩ : ∃ t, T.threads[T.cur]? = some t := ⟨T.threads[T.cur], Array.getElem?_eq_some_iff.mpr ⟨hcur, rfl⟩⟩
      show T.setVm T.vm = { (T.setFrames s.frames).setFrames T.frames with heap := T.heap, slotsUsed := T.slotsUsed }
      rw [State.setFrames_setFrames, State.setFrames_self ht, State.setVm_self]
    · show T.slotsUsed = T.slotsUsed + ((T.heap.toList.drop T.heap.size).map (·.slots.size)).sum
      rw [List.drop_of_length_le (by simp)]
      rfl
    · show ((T.heap.toList.drop T.heap.size).map (·.slots.size)).sum ≤ 0
      rw [List.drop_of_length_le (by simp)]
      exact Nat.le_refl _
theorem bo_unframe {s U : State} {fs : List Frame} {locs : List Loc} {k n : Nat} (h : (s.setFrames fs).sameButNew U locs k n) : s.sameButNew U locs k n := by
  obtain ⟨q1, q2, q3, q4, q5, q6⟩ := h
  rw [State.setFrames_setFrames] at q1
  exact ⟨q1, q2, q3, q4, q5, q6⟩
theorem bo_throwS (X : Stand p l e R s m args below meth c T locs cells slots) (hexec : p.tables.exec = Jvm.exec) (hl : l.stackTraces = false) {own cls text : String} {names : List String} {i0 ik ic : Nat}
    (hown : s.vm.findClass own = some m.cls) (hcls : Bundle.fit cls = true) (hnames : ∀ n ∈ names, Bundle.fit n = true) (hrk : (Bundle.ownAtoms own ic cls names).all Cond.ridesK = true) (hw : ∀ w ∈ Bundle.ownAtoms own ic cls names, w.before args s = true)
    (hcl : (Cond.classLink own i0 cls).before args s = true) (hini : (Cond.initialized cls).before args s = true) (hstr : (Cond.stringRef own ik text).before args s = true) (hkept : StaticsKept s T)
    {g : JFrame} (hg : g.method = m) (hsize : g.locals.size = c.maxLocals) (hlocked : g.locked = none) (hentered : g.entered = [])
    (d0 : decode c.code g.pc = .ok (.new i0, 3)) (d1 : decode c.code (g.pc + 3) = .ok (.dup, 1)) (d2 : decode c.code (g.pc + 3 + 1) = .ok (.ldc ik, 2)) (d3 : decode c.code (g.pc + 3 + 1 + 2) = .ok (.invokespecial ic, 3)) (d4 : decode c.code (g.pc + 3 + 1 + 2 + 3) = .ok (.athrow, 1))
    (hout : ∀ x ∈ c.exceptionTable.toList, covers x (g.pc + 3 + 1 + 2 + 3) = false) (hRf : names.length + 3 < R.frames) (hRl : 2 * g.monitorRoom + ((g.stack).map fun v => v.category).sum + (13 * (names.length + 1) + 43) ≤ R.locals) (hRc : cells + 1 ≤ R.cells) (hRs : slots + 6 ≤ R.slots) (hlocks : meth.locks = false) :
    ∃ (t : State) (a : Addr) (ce : Cell), Steps p.tables e below (T.setTop g) t ∧ t.status = .running ∧ Ended t below (.threw a) ∧ s.WarmedH t.vm ∧ s.sameButNew ({ t with vm := s.vm } : State) locs (cells + 1) (slots + 6) ∧
      (∀ (x : Addr) (cell : Cell), T.heap[x]? = some cell → t.heap[x]? = some cell) ∧ t.heap[a]? = some ce ∧ s.vm.findClass cls = some ce.cls ∧ ce.vm = .none ∧ T.heap.size ≤ a := by
  have htr : e.platform.stackTraces = false := by rw [Jvm.Example.NoTraceControls.admits_follows X.admits]; exact hl
  have X0 := bo_rebase X (R' := { frames := R.frames, locals := R.locals, cells := 1, slots := 6 }) (Nat.le_refl _) (Nat.le_refl _) hRc hRs
  generalize hS' : T.setFrames s.frames = s' at X0
  have hW' : s.WarmedH s'.vm := by rw [← hS']; exact X.warmed
  have hk' : StaticsKept s s' := by rw [← hS']; exact hkept
  have ride : ∀ w : Cond, w.ridesK = true → w.before args s = true → w.before args s' = true := fun w h1 h2 => Cond.rideK hW' hk' w h1 h2
  have hown' : s'.vm.findClass own = some m.cls := by rw [hW'.alike.findClass]; exact hown
  have hin : Cond.instantiable cls 6 ∈ Bundle.ownAtoms own ic cls names := by simp [Bundle.ownAtoms]
  obtain ⟨vm₁, cX, kX, hfX, hkX, -, -, X₁, st1⟩ := X0.newCold hexec (own := own) (C := cls) (index := i0) (n := 6) hown' (ride _ rfl hcl) (ride _ (List.all_eq_true.mp hrk _ hin) (hw _ hin)) (ride _ rfl hini) (g := g) hg d0 (Nat.le_refl _) (Nat.le_refl _)
  have hh0 : s'.heap = T.heap := by rw [← hS']; rfl
  generalize hT1 : (T.setVm vm₁).pushCell { cls := cX, slots := kX.instanceTypes.map defaultValue, vm := .none } = T1 at X₁ st1
  have hcellA : T1.heap[T.heap.size]? = some (freshCell cX kX) := by rw [← hT1]; exact State.heap_pushCell_size _ _
  obtain ⟨-, -, -, sa, -, -, -, -, -, hev⟩ := Cond.stringRef_spec hown hstr
  have hT1v : T1.vm = vm₁ := by rw [← hT1]; rfl
  have hTW : T.WarmedH T1.vm := by have := X₁.warmed; rw [← hS'] at this; exact this
  have XC : Stand p l e R s m args below meth c T1 locs (cells + 1) (slots + 6) := by
    have hs1 : T.sameButNew (T1.setVm T.vm) [] (0 + 1) (0 + 6) := by
      have h9 := X₁.same
      rw [← hS'] at h9
      exact bo_unframe h9
    exact ⟨X.admits, X.cas, X.clock, X.frames, X.room, X.hears, X.method, X.code, X₁.here, X₁.tail, State.WarmedH.trans X.warmed hTW, by have h1 := X₁.limits; rw [← hS', State.stackLimits_setFrames] at h1; exact h1.trans X.limits, by have h1 := X₁.bytes; rw [← hS', State.stackBytes_setFrames] at h1; exact h1.trans X.bytes, by have h9 := X.same.trans (hs1.setVm s.vm); rw [List.append_nil] at h9; exact h9⟩
  obtain ⟨U, hsteps, hrun, hend, hWU, hsame, ce, hce, K⟩ := X₁.ctorThrowS hexec htr (own := own) (cls := cls) (names := names) (ic := ic) hown' hcls hnames
    (fun y hy => ride y (List.all_eq_true.mp hrk y hy) (hw y hy)) (fun y hy => by cases hy) hfX hkX hcellA (by rw [hh0]; exact Nat.le_refl _) (msg := .ref sa) rfl
    (g := { g with pc := g.pc + 3 + 1 + 2, stack := .ref sa :: .ref T.heap.size :: .ref T.heap.size :: g.stack }) hg hsize hlocked hentered (rest := g.stack) rfl d3 d4 hout hRf (by simp only [List.map_cons, List.sum_cons, Value.category] at hRl ⊢; show 2 * g.monitorRoom + _ + _ ≤ R.locals; omega) hlocks
  have hTU : T.sameButNew ({ U with vm := T.vm } : State) [] (0 + 1) (0 + 6) := by
    rw [← hS'] at hsame
    exact bo_unframe hsame
  refine ⟨U, T.heap.size, ce, ?_, hrun, hend, ?_, ?_, ?_, hce, ?_, K.vm, Nat.le_refl _⟩
  · refine st1 _ ?_
    subst hg
    show Steps p.tables e below (T1.setTop { g with pc := g.pc + 3, stack := .ref T.heap.size :: g.stack }) U
    jvm_step X₁.here [X₁.here.top, hexec, d1, Value.category]
    exact XC.ldcString hexec (own := own) (text := text) (index := ik) (a := sa) hown hstr hev (g := { g with pc := g.pc + 3 + 1, stack := .ref T.heap.size :: .ref T.heap.size :: g.stack }) rfl d2 _ hsteps
  · rw [← hS'] at hWU
    exact State.WarmedH.trans X.warmed hWU
  · have h9 := X.same.trans (hTU.setVm s.vm)
    rw [List.append_nil] at h9
    exact h9
  · intro x cell hx
    obtain ⟨c', h1, h2, h3, h4⟩ := hTU.2.2.2.2.2 x cell hx
    have hsl : c'.slots = cell.slots := Array.ext_getElem? (fun i => h4 i (by simp))
    rw [hsl] at h2
    rw [h2] at h1
    exact h1
  · have h9 := K.cls
    rw [hW'.alike.findClass] at h9
    exact h9
end THROW
def bo_up : List String := ["java/lang/RuntimeException", "java/lang/Exception"]
def bo_isS : Cond → Bool
  | .stringRef _ _ _ => true
  | _ => false
def bo_sw : List Cond := lw_tbl.filter bo_isS
def bo_xw : List Cond := lw_tbl.filter (fun c => c.ridesK && !goodWord c) ++ [.isRef (.static "java/lang/Throwable" "UNASSIGNED_STACK" "[Ljava/lang/StackTraceElement;"), .isRef (.static "java/lang/Throwable" "SUPPRESSED_SENTINEL" "Ljava/util/List;")]
/-- words that are no tables' words: they ride on what is kept -/
def bo_xs (U : State) : Prop := (∀ w ∈ bo_xw, w.before #[] U = true) ∧ ∀ w ∈ bo_sw, w.before #[] U = true
theorem bo_xw_k : bo_xw.all Cond.ridesK = true := by
  unfold bo_xw
  rw [List.all_append, Bool.and_eq_true]
  refine ⟨List.all_eq_true.mpr fun w hw => ?_, by decide⟩
  have := (List.mem_filter.mp hw).2
  rw [Bool.and_eq_true] at this
  exact this.1
theorem bo_str {own tx : String} {k : Nat} {a a' : Array Value} {s U : State} (hW : s.WarmedH U.vm) {cls : ClassId} (hcur : s.vm.findClass own = some cls) (h : (Cond.stringRef own k tx).before a s = true) : (Cond.stringRef own k tx).before a' U = true := by
  obtain ⟨-, -, -, sa, -, -, -, -, -, hev⟩ := Cond.stringRef_spec hcur h
  have h1 := (vk_R.warm hW (vk_R.of h hev)).1
  exact h1
def bo_isB : Cond → Bool
  | .stringRef o _ _ => o == "BoxFlow"
  | _ => false
theorem bo_sw_B : bo_sw.all bo_isB = true := by decide +kernel
theorem bo_xs.keep {s U : State} (hW : s.WarmedH U.vm) (hk : StaticsKept s U) {cF : ClassId} (hF : s.vm.findClass "BoxFlow" = some cF) (h : bo_xs s) : bo_xs U := by
  refine ⟨rideK_all hW hk bo_xw_k h.1, fun w hw => ?_⟩
  have h1 := List.all_eq_true.mp bo_sw_B w hw
  have h2 := h.2 w hw
  cases w with
  | stringRef o k tx =>
    have ho : o = "BoxFlow" := by simpa [bo_isB] using h1
    subst ho
    exact bo_str hW hF h2
  | _ => simp [bo_isB] at h1
abbrev bo_rmx (fr lo : Nat) : Room := { frames := fr, cells := 1, slots := 6, locals := lo }
abbrev bo_prx (D : va_G) (cl : List vw_C) (tys : List (ClassId × FieldType)) (av : List Value) (sz : Nat) (W0 : va_W) : Array Value → State → Prop := fun a U => bo_pre D cl tys av sz W0 a U ∧ bo_xs U
abbrev bo_Qx {S : Type} (X : String) (D : va_G) (cl : List vw_C) (tys : List (ClassId × FieldType)) (A : Nat → Prop) (post : S → Prop) (W1 : S → va_W) : Array Value → State → Outcome → State → Prop := fun _ st o t => (∃ (x : Addr) (u : S) (ce : Cell), o = .threw x ∧ post u ∧ bo_at D cl tys A (W1 u) t ∧ t.heap[x]? = some ce ∧ t.vm.findClass X = some ce.cls ∧ ce.vm = .none) ∧ va_F A st t
def bo_x {S : Type} (X : String) (l : Launch) (D : va_G) (cl : List vw_C) (tys : List (ClassId × FieldType)) (y : MethodName) (ws : List Cond) (rm : Room) (av : List Value) (W0 : va_W) (post : S → Prop) (W1 : S → va_W) : Prop :=
  ∀ sz : Nat, MetFree l y (headSpec ws rm) (bo_prx D cl tys av sz W0) (fun _ _ _ _ _ => True) (fun a st o t => bo_Qx X D cl tys (va_A W0 sz) post W1 a st o t ∧ ∃ L, FrameEndT st o t L rm.cells rm.slots ∧ ∀ q ∈ L, va_A W0 sz q.base)
theorem bo_Pkeep {D : va_G} {cl : List vw_C} {ws : va_W} {H H1 : Heap} (hk : ∀ (x : Addr) (cell : Cell), H[x]? = some cell → H1[x]? = some cell) (h : va_P D cl ws H) : va_P D cl ws H1 := by
  intro k q hq
  have h1 := h k q hq
  refine h1.kept ?_
  have hc : ∃ cell, H[q.1]? = some cell := by
    unfold va_at at h1
    split at h1
    · exact ⟨_, h1⟩
    · obtain ⟨-, -, cell, h2, -⟩ := h1
      exact ⟨cell, h2⟩
  obtain ⟨cell, hc⟩ := hc
  rw [hc, hk _ _ hc]
theorem bo_nst {D : va_G} {cl : List vw_C} {ws : va_W} {H : Heap} (h : va_P D cl ws H) {k a : Nat} {e : va_E} (hq : ws[k]? = some (a, e)) {cell : Cell} (hc : H[a]? = some cell) : cell.vm.isStatics = false := by
  have h1 := h k _ hq
  unfold va_at at h1
  split at h1
  · rename_i z hz
    have : cell = vp_cell z.1 z.2 := Option.some.inj (hc.symm.trans h1)
    rw [this]
    unfold vp_cell
    split <;> rfl
  · obtain ⟨-, -, cell2, h2, -, h3, -⟩ := h1
    have : cell = cell2 := Option.some.inj (hc.symm.trans h2)
    rw [this, h3]
    rfl
theorem bo_kept {D : va_G} {cl : List vw_C} {W0 : va_W} {s T : State} {H : Heap} {locs : List Loc} (hP : va_P D cl W0 s.heap) (hS : va_S (va_A W0 s.heap.size) s.heap H locs) (hT : T.heap = H) : StaticsKept s T := by
  intro a cell hc hst
  have hlt : a < s.heap.size := (Array.getElem?_eq_some_iff.mp hc).1
  rw [hT, hS.2.1 a hlt ?_]
  · exact hc
  · rintro (⟨k, e, hk⟩ | h)
    · rw [bo_nst hP hk hc] at hst
      exact absurd hst (by decide)
    · exact absurd hlt (Nat.not_lt.mpr h)
abbrev bo_RETx {S : Type} (l : Launch) (D : va_G) (cl : List vw_C) (fr lo : Nat) (cc : ByteArray) (maxL i0 ik ic : Nat) (post : S → Prop) (W1 : S → va_W) (p : Program) (e : Env) (s : State) (m : MethodId) (args : Array Value) (below : List Frame) (meth : Method) (c : Code) (A : Nat → Prop) (Q : State → Prop) : Prop :=
  ∀ (u : S) (H : Heap) (locs : List Loc) (pc : Nat) (ls : Array Slot) (rest : List Value), va_P D cl (W1 u) H → va_D A (W1 u) → va_S A s.heap H locs → post u → ls.size = maxL → (rest.map fun v => v.category).sum ≤ 8 → decode cc pc = .ok (.new i0, 3) → decode cc (pc + 3) = .ok (.dup, 1) → decode cc (pc + 3 + 1) = .ok (.ldc ik, 2) → decode cc (pc + 3 + 1 + 2) = .ok (.invokespecial ic, 3) → decode cc (pc + 3 + 1 + 2 + 3) = .ok (.athrow, 1) → W p l e (bo_rmx fr lo) s m args below meth c H locs 0 0 Q (F0 m pc ls rest)
theorem bo_enter_x {l : Launch} {D : va_G} {cl : List vw_C} {tys : List (ClassId × FieldType)} {y : MethodName} {ws ws' : List Cond} {fr lo : Nat} {av : List Value} {W0 : va_W} {cc : ByteArray} {maxL : Nat} {ret : Option FieldType} {S : Type} {X tx : String} {i0 ik ic : Nat} {post : S → Prop} {W1 : S → va_W}
    (hl : l.stackTraces = false) (hcl0 : y.cls = "BoxFlow") (hy : plainName y.cls = true) (hw : ws = Cond.code y cc maxL ret :: ws') (htb : ∀ w ∈ bo_tb, w ∈ ws) (hmax : (lg_sl av).length ≤ maxL)
    (hfit : Bundle.fit X = true) (hrk : (Bundle.ownAtoms "BoxFlow" ic X bo_up).all Cond.ridesK = true) (hwo : ∀ w ∈ Bundle.ownAtoms "BoxFlow" ic X bo_up, w ∈ bo_tb ∨ w ∈ bo_xw) (hc0 : Cond.classLink "BoxFlow" i0 X ∈ bo_tb) (hi0 : Cond.initialized X ∈ bo_tb) (hs0 : Cond.stringRef "BoxFlow" ik tx ∈ bo_sw) (hfr : 5 < fr) (hlo : 100 ≤ lo)
    (body : ∀ (p : Program) (e : Env) (s : State) (m : MethodId) (args : Array Value) (below : List Frame) (meth : Method) (c : Code) (A : Nat → Prop) (ls : Array Slot) (Q : State → Prop), p.tables.exec = Jvm.exec → c.code = cc → (∀ w ∈ ws, w.before args s = true) → s.vm.findClass y.cls = some m.cls → c.maxLocals = maxL → va_K D cl tys s → va_P D cl W0 s.heap → va_D A W0 → va_S A s.heap s.heap [] → (∀ q : Nat, s.heap.size ≤ q → A q) → lv_has ls maxL (lv_args 0 av) → bo_RETx l D cl fr lo cc maxL i0 ik ic post W1 p e s m args below meth c A Q → W p l e (bo_rmx fr lo) s m args below meth c s.heap [] 0 0 Q (F0 m 0 ls [])) :
    bo_x X l D cl tys y ws (bo_rmx fr lo) av W0 post W1 := by
  intro sz
  refine MetFree.of_bodyS (code := cc) (maxLocals := maxL) (ret := ret) hy ?_ ?_
  · intro args s m h hn
    obtain ⟨meth, c, h1, h2, h3, h4, h5, h6, -, -⟩ := Cond.code_spec hn (atoms_spec (ws := ws) h _ (by rw [hw]; exact List.mem_cons_self))
    exact ⟨meth, c, h1, h2, h3, h4, h5, h6⟩
  · intro p e s m args below meth c s₁ B hml hPP _
    obtain ⟨⟨rfl, hsz, hP, hK, hD0⟩, hxs⟩ := hPP
    have hts := atoms_spec (ws := ws) B.pre
    have hown : s.vm.findClass y.cls = some m.cls := findClass_of_methodNamed B.named
    have hown2 : s.vm.findClass "BoxFlow" = some m.cls := by rw [← hcl0]; exact hown
    have hh0 : s₁.heap = s.heap := by rw [B.state]; rfl
    have hcodeV := hts _ (show Cond.code y cc maxL ret ∈ ws by rw [hw]; exact List.mem_cons_self)
    subst hsz
    have hD := hD0.self (sz := s.heap.size)
    have hl9 := lv_entry av (n := maxL) hmax
    rw [lg_entry_eq]
    have hbody := body p e s m _ below meth c (va_A W0 s.heap.size) _ (fun t => ∃ o, t.status = .running ∧ Ended t below o ∧ (bo_Qx X D cl tys (va_A W0 s.heap.size) post W1 av.toArray s o t ∧ ∃ L, FrameEndT s o t L 1 6 ∧ ∀ q ∈ L, va_A W0 s.heap.size q.base)) B.exec B.bytes hts hown hml hK hP hD va_S.rf (fun q h => Or.inr h) hl9 (by
      intro u H locs pc ls rest hPu hDu hS hu hsz9 hcat d0 d1 d2 d3 d4 T hT X
      have hb := B.bytes
      have hkept : StaticsKept s T := bo_kept hP hS hT
      obtain ⟨t, a, ce, st, run, en, hW, hsame, hk, hce, hcl, hvm, ha⟩ := bo_throwS X B.exec hl (own := "BoxFlow") (cls := _) (text := tx) (names := bo_up) (i0 := i0) (ik := ik) (ic := ic) hown2 hfit (by decide +kernel) hrk
        (fun w hw9 => (hwo w hw9).elim (fun h => hts w (htb w h)) (fun h => Cond.rideK (State.WarmedH.refl s) (fun y cy q _ => q) w (List.all_eq_true.mp bo_xw_k w h) (hxs.1 w h)))
        (hts _ (htb _ hc0)) (hts _ (htb _ hi0)) (bo_str (State.WarmedH.refl s) hown2 (hxs.2 _ hs0)) hkept (g := F0 m pc ls rest) rfl (by rw [hml]; exact hsz9) rfl rfl (by rw [hb]; exact d0) (by rw [hb]; exact d1) (by rw [hb]; exact d2) (by rw [hb]; exact d3) (by rw [hb]; exact d4)
        (covers_of_empty (B.noHandlers hcodeV) _) (by show 2 + 3 < fr; omega) (by show 0 + (List.map (fun v => v.category) rest).sum + (13 * (2 + 1) + 43) ≤ lo; omega) (Nat.le_refl _) (Nat.le_refl _) B.notSynchronized
      refine ⟨t, st, .threw a, run, en, ⟨⟨a, u, ce, rfl, hu, ⟨bo_Pkeep (by rw [← hT]; exact hk) hPu, va_K.moved hW.alike hK, hDu⟩, hce, by rw [hW.alike.findClass]; exact hcl, hvm⟩, ?_⟩, locs, ⟨⟨a, rfl⟩, hW, hsame⟩, hS.2.2⟩
      refine ⟨hsame.2.1, fun q hq hA => ?_⟩
      have h1 := hS.2.1 q hq hA
      have h2 : s.heap[q]? = some s.heap[q] := Array.getElem?_eq_some_iff.mpr ⟨hq, rfl⟩
      rw [h2]
      exact hk q _ (by rw [hT, h1, h2]))
    obtain ⟨t, a1, o, b1, b2, b3⟩ := hbody s₁ hh0 (Stand.of_body B)
    exact ⟨t, o, a1, b1, b2, b3⟩
