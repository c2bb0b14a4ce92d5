/-! the start -/
theorem bo_arr {a : Array Value} {s : State} {ty : FieldType} (h : (Cond.arrayClass ty).before a s = true) : ∃ cA : ClassId, ArrOfT s cA ty ∧ s.vm.findClass ("[" ++ ty.toString) = some cA := by
  obtain ⟨cA, kA, comp, h1, h2, h3⟩ := Cond.arrayClass_spec h
  exact ⟨cA, fun n z => ⟨fun k h => (by cases h), kA, h2, comp, h3⟩, h1⟩
theorem bo_arq {s : State} {C : String} (h : va_AO C s) : ∃ cA : ClassId, ArrOfT s cA (.object C) ∧ va_RA s cA (.object C) := by
  obtain ⟨comp, cA, kA, h1, h2, h3, h4, h5⟩ := Cond.arrayOver_spec h
  exact ⟨cA, fun n z => ⟨fun k h => (by cases h), kA, h3, comp, h4⟩, kA, comp, h3, h4, h1, h5⟩
theorem bo_K0 {a : Array Value} {s : State} (hts : ∀ w ∈ bo_tb, w.before a s = true) (hao : va_AO "BoxFlow$Polynomial" s) : ∃ (D : va_G) (cJ cI cB cY : ClassId), va_K D bo_cl (bo_ty cJ cI cB cY) s := by
  obtain ⟨c0, i0, k0⟩ := u_known (n := 5) hts in_F (hts _ wd_22)
  obtain ⟨c1, i1, k1⟩ := u_known (n := 3) hts in_C (hts _ wd_185)
  obtain ⟨c2, i2, k2⟩ := u_known (n := 6) hts in_H (hts _ wd_146)
  obtain ⟨c3, i3, k3⟩ := u_known (n := 3) hts in_I (hts _ wd_193)
  obtain ⟨c4, i4, k4⟩ := u_known (n := 7) hts in_P (hts _ wd_30)
  obtain ⟨c5, i5, k5⟩ := u_known (n := 3) hts in_Y (hts _ wd_67)
  obtain ⟨c6, i6, k6⟩ := u_known (n := 4) hts in_B (hts _ wd_60)
  obtain ⟨c7, i7, k7⟩ := u_known (n := 2) hts in_R (hts _ wd_73)
  obtain ⟨c8, i8, k8⟩ := u_known (n := 13) hts in_U (hts _ wd_137)
  obtain ⟨c9, i9, k9⟩ := u_known (n := 6) hts in_T (hts _ wd_177)
  obtain ⟨c10, i10, k10⟩ := u_known (n := 53) hts in_M (hts _ wd_784)
  obtain ⟨cJ, j1, j2⟩ := bo_arr (ty := .long) (hts _ wd_97)
  obtain ⟨cI, l1, l2⟩ := bo_arr (ty := .int) (hts _ wd_58)
  obtain ⟨cB, b1, b2⟩ := bo_arr (ty := .byte) (hts _ wd_57)
  obtain ⟨cY, y1, y2⟩ := bo_arq hao
  refine ⟨(fun c => match c with | 0 => c0 | 1 => c1 | 2 => c2 | 3 => c3 | 4 => c4 | 5 => c5 | 6 => c6 | 7 => c7 | 8 => c8 | 9 => c9 | 10 => c10 | _ => c0, fun c => match c with | 0 => i0 | 1 => i1 | 2 => i2 | 3 => i3 | 4 => i4 | 5 => i5 | 6 => i6 | 7 => i7 | 8 => i8 | 9 => i9 | 10 => i10 | _ => i0), cJ, cI, cB, cY, fun c q hq => ?_, fun k q hq => ?_⟩
  · have hc : c < 11 := (List.getElem?_eq_some_iff.mp hq).1
    rcases (show c = 0 ∨ c = 1 ∨ c = 2 ∨ c = 3 ∨ c = 4 ∨ c = 5 ∨ c = 6 ∨ c = 7 ∨ c = 8 ∨ c = 9 ∨ c = 10 by omega) with rfl | rfl | rfl | rfl | rfl | rfl | rfl | rfl | rfl | rfl | rfl
    · cases hq
      exact k0
    · cases hq
      exact k1
    · cases hq
      exact k2
    · cases hq
      exact k3
    · cases hq
      exact k4
    · cases hq
      exact k5
    · cases hq
      exact k6
    · cases hq
      exact k7
    · cases hq
      exact k8
    · cases hq
      exact k9
    · cases hq
      exact k10
  · have hc : k < 4 := (List.getElem?_eq_some_iff.mp hq).1
    rcases (show k = 0 ∨ k = 1 ∨ k = 2 ∨ k = 3 by omega) with rfl | rfl | rfl | rfl
    · cases hq
      exact ⟨j1, j2⟩
    · cases hq
      exact ⟨l1, l2⟩
    · cases hq
      exact ⟨b1, b2⟩
    · cases hq
      exact ⟨y1, y2⟩
theorem bo_hs0 {a : Array Value} {s : State} (hts : ∀ w ∈ lw_tbl, w.before a s = true) (hgv : (Jvm.Cond.and given_1 narrow_1).before a s = true) : bo_hs s := by
  have hs := flat_of_before _ hgv
  obtain ⟨cF, -, hF, -⟩ := Cond.instantiable_spec (hts _ (List.mem_filter.mp wd_22).1)
  refine ⟨⟨?_, fun w hw => ?_⟩, bo_nc.of (a := a) (fun q hq => ?_), cF, hF⟩
  · refine rideK_all (a := a) (State.WarmedH.refl s) (fun _ _ h _ => h) bo_xw_k (fun w hw => ?_)
    unfold bo_xw at hw
    rcases List.mem_append.mp hw with hw | hw
    · exact hts w (List.mem_filter.mp hw).1
    · simp only [List.mem_cons, List.not_mem_nil, or_false] at hw
      rcases hw with rfl | rfl
      · exact hs _ (by decide +kernel)
      · exact hs _ (by decide +kernel)
  · have h1 := List.all_eq_true.mp bo_sw_B w hw
    have h2 := hts w (List.mem_filter.mp hw).1
    cases w with
    | stringRef o k tx =>
      have ho : o = "BoxFlow" := by simpa [bo_isB] using h1
      subst ho
      exact bo_str (State.WarmedH.refl s) hF h2
    | _ => simp [bo_isB] at h1
  · unfold bo_ncl at hq
    simp only [List.mem_cons, List.not_mem_nil, or_false] at hq
    rcases hq with rfl | rfl | rfl | rfl
    · exact hs _ (by decide +kernel)
    · exact hs _ (by decide +kernel)
    · exact hs _ (by decide +kernel)
    · exact hs _ (by decide +kernel)
theorem hd8_F_init : yy_F_init.cls ≠ "java/lang/invoke/MethodHandle" ∧ yy_F_init.cls ≠ "java/lang/invoke/VarHandle" ∧ (parseMethodDescriptor yy_F_init.desc).map (fun d => d.parameters.length) = some 0 := by decide +kernel
theorem hd8_M_init : yy_M_init.cls ≠ "java/lang/invoke/MethodHandle" ∧ yy_M_init.cls ≠ "java/lang/invoke/VarHandle" ∧ (parseMethodDescriptor yy_M_init.desc).map (fun d => d.parameters.length) = some 0 := by decide +kernel
/-! THE CLAIM OUT OF ONE WALK OF THE LAW'S BODY. Your part is whole_start (and what it stands on); all else here is the same for every law, but numbers. -/
def R_law : String := "BoxFlowLaw"
def lw_P (b : Addr) (xs : List Int32) (args : Array Value) (s : State) : Prop := args = #[.ref b] ∧ s.IntsAt b xs ∧ xs.length ≤ 2048 ∧ (Jvm.Cond.and given_1 narrow_1).before args s = true
def lw_Q (_ : Array Value) (s : State) (o : Outcome) (t : State) : Prop := o = .returned (some (.int 1)) ∧ Framed s o t [] 601024 7293034
def lw_Z (below : List Frame) (a : Array Value) (s : State) : State → Prop := fun t => ∃ o, t.status = .running ∧ Ended t below o ∧ lw_Q a s o t
/-- the law's own end, with 1 on the stack, nothing written that was there before, its room as the claim has it -/
theorem lw_ret {p : Program} {l : Launch} {e : Env} {s : State} {m : MethodId} {below : List Frame} {meth : Method} {c : Code} {b : Nat} (hx : p.tables.exec = Jvm.exec) (hb : c.code = code) (hr : meth.sig.returnType = ret) (hlocks : meth.locks = false) {pc : Nat} {H : Heap} {ls : Array Slot} (hdg : decode code pc = .ok (.ireturn, 1)) : W p l e room_1 s m #[Value.ref b] below meth c H [] 601024 7293034 (lw_Z below #[Value.ref b] s) (F0 m pc ls [.int 1]) := by
  intro T hT X
  obtain ⟨fs, hret, hrun, hended, hW, hframe⟩ := X.leave (v := some (.int 1)) (hlocks := hlocks) (fun h => by rw [hr] at h; cases h)
  have hmeth' : T.vm.method? m = some meth := X.method'
  refine ⟨T.setFrames fs, ?_, .returned (some (.int 1)), hrun, hended, rfl, ⟨_, rfl⟩, hW, hframe⟩
  jvm_step X.here [X.here.top, hx, hb, hdg, hmeth', hr, ret, narrow_b1]
  (try refine ⟨rfl, ?_⟩); (try refine ⟨rfl, ?_⟩)
  first | (intro acts; rw [hret _ acts rfl rfl rfl]) | rw [hret _ _ rfl rfl rfl]
  exact Steps.refl _
/-- what holds at the law's entry: the machine, the code, the tables' words (any of lw_tbl by 'hts w (by decide +kernel)'), the script of L ints xs at the cell b, what the Statement gives of the start (any of its parts by flat_of_before) -/
def lw_At (p : Program) (s : State) (m : MethodId) (meth : Method) (c : Code) (b L : Nat) (xs : Nat → Int32) : Prop :=
  p.tables.exec = Jvm.exec ∧ c.code = code ∧ meth.sig.returnType = ret ∧ c.maxLocals = 7 ∧ s.vm.findClass R_law = some m.cls ∧ (∀ w ∈ lw_tbl, w.before #[Value.ref b] s = true) ∧ va_X b L xs s s.heap ∧ b < s.heap.size ∧ meth.locks = false ∧ (Jvm.Cond.and given_1 narrow_1).before #[Value.ref b] s = true

set_option maxHeartbeats 4000000 in
set_option maxRecDepth 100000 in
theorem lw_start {p : Program} {l : Launch} {e : Env} {s : State} {m : MethodId} {below : List Frame} {meth : Method} {c : Code} {Q : State → Prop} {b L : Nat} {xs : Nat → Int32} {D : va_G} {cJ cI cB cY : ClassId} {ls : Array Slot} (C0 : LC p l s m c b L xs D cJ cI cB cY) (hcs : bo_cs s) (nx : ∀ fo mo oa : Nat, lw_z p l e s m below meth c Q b D cJ cI cB cY fo mo oa 23 0 0) (hl : lv_has ls 7 [(0, .ref b)]) : W p l e room_1 s m #[Value.ref b] below meth c s.heap [] 0 0 Q (F0 m 0 ls []) := by
  obtain ⟨hx, hb, hml, hown, hts, hX0, hbl, hhs, hK, hlst, hL⟩ := C0
  have hP : va_P D bo_cl [] s.heap := fun k q h => absurd h (by simp)
  have hD : va_D (fun q => s.heap.size ≤ q) [] := ⟨fun i j p q h => absurd h (by simp), fun k q h => absurd h (by simp)⟩
  have hS : va_S (fun q => s.heap.size ≤ q) s.heap s.heap [] := va_S.rf
  refine va_new (D := D) (C := RR_F) (T := TT_F) (N := 5) (ci := 0) (fs := [.int (nI 0), .null, .null, .null, .null]) hx hb hts (fun w h => List.mem_cons_of_mem _ (in_F w h)) tt_F ty_F hown (hts _ (List.mem_cons_of_mem _ wd_21)) (hts _ (List.mem_cons_of_mem _ wd_22)) (hts _ (List.mem_cons_of_mem _ wd_1)) hK hP hD hS (fun _ h => h) rfl (fun j hj => by rcases (show j = 0 ∨ j = 1 ∨ j = 2 ∨ j = 3 ∨ j = 4 by omega) with rfl | rfl | rfl | rfl | rfl <;> rfl) (Nat.le_of_ble_eq_true rfl) (Nat.le_of_ble_eq_true rfl) dd_W_0 (fun fo H hP hD hS => ?_)
  have hP : va_P D bo_cl [(fo, .inr (0, [.int (nI 0), .null, .null, .null, .null]))] H := hP
  have hD : va_D (fun q => s.heap.size ≤ q) [(fo, .inr (0, [.int (nI 0), .null, .null, .null, .null]))] := hD
  refine lv_dup hx hb dd_W_3 rfl ?_
  refine bo_cK (k_F_init (l := l) (D := D) (cJ := cJ) (cI := cI) (cB := cB) (cY := cY) fo) ⟨hx, hb, hml, hown, hts⟩ hcs (bo_cwK 0 hts wd_23 wd_24 wd_1 wd_25 rfl hd8_F_init (by decide)) hK hP hD hS (fun _ h => h) rfl hl.1 rfl (Nat.le_of_ble_eq_true rfl) dd_W_4 (by decide) (fun X H locs hXR hP hD hS => ?_)
  have hP : va_P D bo_cl X H := hP
  have hD : va_D (fun q => s.heap.size ≤ q) X := hD
  refine lv_astore_n (lv' := [(1, .ref fo), (0, .ref b)]) hx hb dd_W_7 rfl hl (by decide) rfl (fun ls hl => ?_)
  refine va_new (D := D) (C := RR_M) (T := TT_M) (N := 53) (ci := 10) (fs := [.int (nI 0), .int (nI 0), .int (nI 0), .int (nI 0), .int (nI 0), .int (nI 0), .int (nI 0), .int (nI 0), .int (nI 0), .int (nI 0), .int (nI 0), .int (nI 0), .int (nI 0), .int (nI 0), .int (nI 0), .int (nI 0), .int (nI 0), .int (nI 0), .int (nI 0), .int (nI 0), .int (nI 0), .long 0, .long 0, .int (nI 0), .null, .null, .null, .null, .null, .null, .null, .null, .null, .null, .null, .null, .null, .null, .null, .null, .null, .null, .null, .null, .null, .null, .null, .null, .null, .null, .null, .null, .null]) hx hb hts (fun w h => List.mem_cons_of_mem _ (in_M w h)) tt_M ty_M hown (hts _ (List.mem_cons_of_mem _ wd_783)) (hts _ (List.mem_cons_of_mem _ wd_784)) (hts _ (List.mem_cons_of_mem _ wd_11)) hK hP hD hS (fun _ h => h) rfl (fun j hj => by rcases (show j = 0 ∨ j = 1 ∨ j = 2 ∨ j = 3 ∨ j = 4 ∨ j = 5 ∨ j = 6 ∨ j = 7 ∨ j = 8 ∨ j = 9 ∨ j = 10 ∨ j = 11 ∨ j = 12 ∨ j = 13 ∨ j = 14 ∨ j = 15 ∨ j = 16 ∨ j = 17 ∨ j = 18 ∨ j = 19 ∨ j = 20 ∨ j = 21 ∨ j = 22 ∨ j = 23 ∨ j = 24 ∨ j = 25 ∨ j = 26 ∨ j = 27 ∨ j = 28 ∨ j = 29 ∨ j = 30 ∨ j = 31 ∨ j = 32 ∨ j = 33 ∨ j = 34 ∨ j = 35 ∨ j = 36 ∨ j = 37 ∨ j = 38 ∨ j = 39 ∨ j = 40 ∨ j = 41 ∨ j = 42 ∨ j = 43 ∨ j = 44 ∨ j = 45 ∨ j = 46 ∨ j = 47 ∨ j = 48 ∨ j = 49 ∨ j = 50 ∨ j = 51 ∨ j = 52 by omega) with rfl | rfl | rfl | rfl | rfl | rfl | rfl | rfl | rfl | rfl | rfl | rfl | rfl | rfl | rfl | rfl | rfl | rfl | rfl | rfl | rfl | rfl | rfl | rfl | rfl | rfl | rfl | rfl | rfl | rfl | rfl | rfl | rfl | rfl | rfl | rfl | rfl | rfl | rfl | rfl | rfl | rfl | rfl | rfl | rfl | rfl | rfl | rfl | rfl | rfl | rfl | rfl | rfl <;> rfl) (Nat.le_of_ble_eq_true rfl) (Nat.le_of_ble_eq_true rfl) dd_W_8 (fun mo H hP hD hS => ?_)
  refine lv_dup hx hb dd_W_11 rfl ?_
  refine bo_cK (bo_frR_k (k_M_init (l := l) (D := D) (cJ := cJ) (cI := cI) (cB := cB) (cY := cY) mo) X) ⟨hx, hb, hml, hown, hts⟩ hcs (bo_cwK 0 hts wd_785 wd_786 wd_11 wd_787 rfl hd8_M_init (by decide)) hK hP hD hS (fun _ h => h) rfl hl.1 rfl (Nat.le_of_ble_eq_true rfl) dd_W_12 (by decide) (fun Y H locs hMR hP hD hS => ?_)
  have hP : va_P D bo_cl (X ++ Y) H := hP
  have hD : va_D (fun q => s.heap.size ≤ q) (X ++ Y) := hD
  refine lv_astore_n (lv' := [(2, .ref mo), (1, .ref fo), (0, .ref b)]) hx hb dd_W_15 rfl hl (by decide) rfl (fun ls hl => ?_)
  refine lv_iconst (v := nI 1) hx hb dd_W_16 (by decide) ?_
  refine bo_newa (atype := .long) (ty := .long) (a0 := (1, .inr (.inl (fun _ => 0)))) hx hb (hts _ (List.mem_cons_of_mem _ wd_97)) rfl hK 0 rfl bo_raJ hP hD hS (fun _ h => h) (by decide) (fun _ => rfl) (by decide) (Nat.le_of_ble_eq_true rfl) (Nat.le_of_ble_eq_true rfl) dd_W_17 (fun oa H hP hD hS => ?_)
  have hP : va_P D bo_cl (bo_out cJ oa (fun _ => 0) :: (X ++ Y)) H := va_P_rot hP
  have hD : va_D (fun q => s.heap.size ≤ q) (bo_out cJ oa (fun _ => 0) :: (X ++ Y)) := va_D_rot hD
  refine lv_astore_n (lv' := [(3, .ref oa), (2, .ref mo), (1, .ref fo), (0, .ref b)]) hx hb dd_W_19 rfl hl (by decide) rfl (fun ls hl => ?_)
  refine lv_iconst (v := nI 0) hx hb dd_W_20 (by decide) ?_
  refine lv_istore (lv' := [(4, .int (nI 0)), (3, .ref oa), (2, .ref mo), (1, .ref fo), (0, .ref b)]) hx hb dd_W_21 hl (by decide) rfl (fun ls hl => ?_)
  exact nx fo mo oa X Y _ _ _ _ (GJ0 hXR hMR) hP hD hS (lv_sub hl [4, 3, 2, 1, 0] rfl)
theorem lw_out {p : Program} {l : Launch} {e : Env} {s : State} {m : MethodId} {below : List Frame} {meth : Method} {c : Code} {b L : Nat} {xs : Nat → Int32} {D : va_G} {cJ cI cB cY : ClassId} {fo mo oa k : Nat} (C0 : LC p l s m c b L xs D cJ cI cB cY) (hr : meth.sig.returnType = ret) (hlk : meth.locks = false) (hk : k ≤ 512) : lw_z p l e s m below meth c (lw_Z below #[Value.ref b] s) b D cJ cI cB cY fo mo oa 647 k k := by
  obtain ⟨hx, hb, hml, hown, hts, hX0, hbl, hhs, hK, hlst, hL⟩ := C0
  intro X Y f H locs ls hJ hP hD hS hl
  refine lv_iconst (v := 1) hx hb dd_W_647 (by decide) ?_
  refine va_forget hS.2.2 ?_
  refine W.widen (k := 601024) (n := 7293034) (by omega) (by omega) ?_
  exact lw_ret hx hb hr hlk dd_W_648
/-- from the entry, for every script of at most 2048 ints, the law comes to its end with true -/
theorem whole_start {p : Program} {e : Env} {s : State} {m : MethodId} {below : List Frame} {meth : Method} {c : Code} (l : Launch) (hlst : l.stackTraces = false) {b L : Nat} {xs : Nat → Int32} (hL : L ≤ 2048) (hcw : (Jvm.Cond.code x code maxLocals ret).before #[Value.ref b] s = true) (C0 : lw_At p s m meth c b L xs) : W p l e room_1 s m #[Value.ref b] below meth c s.heap [] 0 0 (lw_Z below #[Value.ref b] s) (entryFrame m ([Value.ref b] : List Value).toArray 7) := by
  obtain ⟨hx, hb, hr, hml, hown, hts9, hX0, hbl, hlk, hgv⟩ := C0
  have h8 : ∀ w ∈ bo_tb, w.before #[Value.ref b] s = true := fun w h => hts9 w (List.mem_filter.mp h).1
  have hts : ∀ w ∈ bo_w x code 7 ret, w.before #[Value.ref b] s = true := by
    intro w hw
    rcases List.mem_cons.mp hw with rfl | hw
    · exact hcw
    · exact h8 w hw
  have hao : va_AO "BoxFlow$Polynomial" s := va_AO.of (hts9 _ wn_66)
  have hcs : bo_cs s := ⟨hao, va_Nw.of rfl (hts9 _ wn_194), va_Nw.of rfl (hts9 _ wn_234), va_Nw.of rfl (hts9 _ wn_258)⟩
  have hhs : bo_hs s := bo_hs0 hts9 hgv
  obtain ⟨D, cJ, cI, cB, cY, hK⟩ := bo_K0 h8 hao
  have C : LC p l s m c b L xs D cJ cI cB cY := ⟨hx, hb, hml, hown, hts, hX0, hbl, hhs, hK, hlst, hL⟩
  have hl := lv_entry [Value.ref b] (n := 7) (Nat.le_of_ble_eq_true rfl)
  rw [lg_entry_eq]
  exact lw_start C hcs (fun fo mo oa => lw_loop C (fun k hk => lw_out C hr hlk hk) 512 0 (by omega)) hl
set_option maxHeartbeats 4000000 in
theorem lw_walk (l : Launch) (hlst : l.stackTraces = false) (b : Addr) (xs : List Int32) : MetFree l x (headSpec (Jvm.Cond.code x code maxLocals ret :: tables_1) room_1) (lw_P b xs) (fun _ _ _ _ _ => True) lw_Q := by
  refine MetFree.of_bodyS (code := code) (maxLocals := maxLocals) (ret := ret) (by decide) ?_ ?_
  · intro args s m h hn
    obtain ⟨meth, c, h1, h2, h3, h4, h5, h6, -, -⟩ := Cond.code_spec hn (atoms_spec (ws := Jvm.Cond.code x code maxLocals ret :: tables_1) h _ List.mem_cons_self)
    exact ⟨meth, c, h1, h2, h3, h4, h5, h6⟩
  · intro p e s m args below meth c s₁ B hml0 hP _
    obtain ⟨rfl, hx, hbd, hgv⟩ := hP
    obtain ⟨scr, harrAt, hlist, hof, hsmall⟩ := hx
    obtain ⟨hcb, hkn, -, -⟩ := State.arrayAt?_spec harrAt
    have hown : s.vm.findClass R_law = some m.cls := findClass_of_methodNamed B.named
    have hts0 : ∀ c ∈ (Jvm.Cond.code x code maxLocals ret :: tables_1), c.before #[Value.ref b] s = true := atoms_spec (ws := Jvm.Cond.code x code maxLocals ret :: tables_1) B.pre
    have hts : ∀ w ∈ lw_tbl, w.before #[Value.ref b] s = true := k2_hts_sels lw_privs (fun w hw => hts0 w (List.mem_cons_of_mem _ hw)) lw_privs_ok
    have hml : c.maxLocals = 7 := B.maxLocals_eq (hts0 _ List.mem_cons_self)
    have X₀ : Stand p l e room_1 s m #[Value.ref b] below meth c s₁ [] 0 0 := Stand.of_body B
    have hh0 : s₁.heap = s.heap := by rw [B.state]; rfl
    have hsz : scr.slots.size = xs.length := by rw [← Array.length_toList, hlist, List.length_map]
    have hval : ∀ j : Nat, j < xs.length → scr.slots[j]? = some (.int (xs.getD j 0)) := fun j hj => by
      rw [← Array.getElem?_toList, hlist]
      simp [hj]
    have hbl : b < s.heap.size := (Array.getElem?_eq_some_iff.mp hcb).1
    have hX : va_X b xs.length (fun j => xs.getD j 0) s s.heap := ⟨scr, hcb, hof, hkn, hsz, hval⟩
    have K : W p l e room_1 s m #[Value.ref b] below meth c s₁.heap [] 0 0 (lw_Z below #[Value.ref b] s) (entryFrame m ([Value.ref b] : List Value).toArray 7) := by
      rw [hh0]
      exact whole_start l hlst hbd (hts0 _ List.mem_cons_self) ⟨B.exec, B.bytes, B.returns, hml, hown, hts, hX, hbl, B.notSynchronized, hgv⟩
    obtain ⟨t, a1, o, b1, b2, b3⟩ := K s₁ rfl X₀
    exact ⟨t, o, a1, b1, b2, b3⟩
theorem lw_pre_spec {args : Array Value} {s : State} (h : (Jvm.Cond.and given_1 narrow_1).before args s = true) (hr : rest_1_c.before args s = true) : ∃ (b : Addr) (xs : List Int32), lw_P b xs args s := by
  have hs := flat_of_before _ h
  have hq := flat_of_before _ hr
  have hc : (Cond.count 1).before args s = true := hs _ (by decide +kernel)
  have harr : (Cond.arrayOf (.arg 0) .int).before args s = true := hs _ (by decide +kernel)
  have hle : (Cond.le (.length (.arg 0)) (.int 2048)).before args s = true := hs _ (by decide +kernel)
  have hlen : (Cond.isInt (.length (.arg 0))).before args s = true := hq _ (by decide +kernel)
  have hall : (Cond.all (.arg 0) (.isInt (.elem (.arg 0) (.index 0)))).before args s = true := hq _ (by decide +kernel)
  obtain ⟨b, xs, hb, hx⟩ := State.ints_of_pre rfl harr hlen hall
  have hsm : xs.length < 2 ^ 31 := hx.choose_spec.2.2.2
  have hev : (Term.length (.arg 0)).eval args s none [] s = some (.int xs.length.toInt32) := hx.length_eval hb
  have hv := Cond.le_ints hev (show (Term.int 2048).eval args s none [] s = some (.int 2048) from rfl)
  have hd : xs.length.toInt32 ≤ 2048 := by
    simpa [Cond.before, Cond.holds, hv] using hle
  have hN : xs.length ≤ 2048 := (Int32.ofNat_le_ofNat hsm (by decide)).mp (show Int32.ofNat xs.length ≤ Int32.ofNat 2048 from hd)
  exact ⟨b, xs, Cond.one_arg hc (show args[0]? = some (.ref b) from hb), hx, hN, h⟩
theorem lw_comes (l : Launch) (hlst : l.stackTraces = false) : Comes l x (Jvm.Cond.code x code maxLocals ret :: tables_1) room_1 (fun tb e args s => Calls_1 tb e args s ∧ rest_1 tb e args s ∧ Pre_1 tb e args s)
    (fun _ _ args s o t => lw_Q args s o t) := by
  intro p e ha hc hk s m args below hf hfit hheap happ hpre
  obtain ⟨b, xs, hP⟩ := lw_pre_spec hpre.2.2 hpre.2.1
  obtain ⟨k, o, h1, h2, h3, hQ⟩ := lw_walk l hlst b xs p e ha hc hk s m args below hf ((Spec.applies_iff_loose hf).mp happ).1 hP trivial
  exact ⟨k, o, h1, h2, h3, hQ⟩
theorem lw_frame {s t : State} {o : Outcome} {args : Array Value} (h : Framed s o t [] 601024 7293034) :
    Framed s o t (fieldLocs frame_1_writes args s ++ arrayLocs frame_1_arrays args s ++ staticLocs frame_1_statics s) 601024 7293034 := h
theorem lw_flag {l : Launch} (h : l.flags = flags0) : l.stackTraces = false := by
  unfold Launch.stackTraces
  rw [h]
  decide +kernel
theorem lw_limb (L : Cond) (hL : ∀ (args : Array Value) (s t : State), L.after args s (.returned (some (.int 1))) t = true) :
    ArmFor flags0 classFile x code maxLocals ret World_1 tables_1 room_1 Calls_1 rest_1 Pre_1
      (fun tb e a s o t => postC L tb e a s o t ∧ Framed s o t (fieldLocs frame_1_writes a s ++ arrayLocs frame_1_arrays a s ++ staticLocs frame_1_statics s) 601024 7293034) := by
  intro l hfl _ _ p e ha hc hk s m args below hf hfit hheap happ hpre
  obtain ⟨k, o, h1, h2, h3, rfl, hF⟩ := lw_comes l (lw_flag hfl) p e ha hc hk s m args below hf hfit hheap happ hpre
  exact ⟨k, _, h1, h2, h3, hL args s _, lw_frame hF⟩
theorem i_vc : Claimed_1_1 ∧ Claimed_1_2 := ⟨lw_limb limb_1_1 (fun args s t => by simp [limb_1_1, Cond.after, Cond.holds, Cond.value]), lw_limb limb_1_2 (fun args s t => Cond.after_iff.mpr (by
  first | (rw [show limb_1_2 = Cond.eq .result (.int 1) from rfl, Cond.eq_ints (x := 1) (y := 1) rfl rfl]; simp; done) | (simp [limb_1_2, Cond.value, Term.eval]; done)))⟩
