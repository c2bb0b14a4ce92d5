/-! the law's helpers -/
theorem bo_gV9 {w0 : Cond} {y : MethodName} {c : ByteArray} {n idx : Nat} {r : Option FieldType} {own C : String} (h1 : Cond.methodLink own idx y ∈ bo_tb) (h2 : Cond.instanceMethod y ∈ bo_tb) (h3 : Cond.selects C y y ∈ bo_tb) (h4 : Cond.initialized C ∈ bo_tb) (h5 : Cond.code y c n r ∈ bo_tb) : GoodIn (w0 :: bo_tb) (wsV own idx C y (bo_w y c n r)) := by
  have key : ∀ w, w ∈ bo_tb → w ∈ w0 :: bo_tb ∧ ((w.onTables && w.keeps) = true ∨ ∃ ty, w = .arrayClass ty) := fun w h => ⟨List.mem_cons_of_mem _ h, bo_goodw h⟩
  intro w hw
  unfold wsV at hw
  rcases List.mem_append.mp hw with hw | hw
  · simp only [List.mem_cons, List.not_mem_nil, or_false] at hw
    rcases hw with rfl | rfl | rfl | rfl
    · exact key _ h1
    · exact key _ h2
    · exact key _ h3
    · exact key _ h4
  · rcases List.mem_cons.mp hw with rfl | hw
    · exact key _ h5
    · exact key _ hw
theorem bo_frR_x {Xn : String} {l : Launch} {D : va_G} {cl : List vw_C} {tys : List (ClassId × FieldType)} {y : MethodName} {ws : List Cond} {rm : Room} {av : List Value} {W0 : va_W} {S : Type} {post : S → Prop} {W1 : S → va_W} (h : bo_x Xn l D cl tys y ws rm av W0 post W1) (Z : va_W) : bo_x Xn l D cl tys y ws rm av (Z ++ W0) post (fun u => Z ++ W1 u) := by
  intro sz p e ha hc hk s m args below hf happ hP hK'
  obtain ⟨⟨q0, q1, hPX, hK, hD⟩, hxs⟩ := hP
  obtain ⟨n, o, h1, h2, h3, hQ, L, hF, hL⟩ := bo_frL_x h Z sz p e ha hc hk s m args below hf happ ⟨⟨q0, q1, va_P_rot hPX, hK, va_D_rot hD⟩, hxs⟩ hK'
  obtain ⟨⟨x, u, ce, e1, hu, hat, e2⟩, hva⟩ := hQ
  obtain ⟨a1, a2, a3⟩ := hat
  exact ⟨n, o, h1, h2, h3, ⟨⟨x, u, ce, e1, hu, ⟨va_P_rot a1, a2, (va_D_rot a3).weaken (fun k q _ h => va_A_rot _ h)⟩, e2⟩, hva.1, fun q hq hn => hva.2 q hq (fun z => hn (va_A_rot _ z))⟩, L, hF, fun q hq => va_A_rot _ (hL q hq)⟩
abbrev bo_rmh : Room := { frames := 8, cells := 1, slots := 6, locals := 230 }
abbrev bo_out (cJ : ClassId) (oa : Nat) (g : Nat → Int64) : Nat × va_E := (oa, .inl (cJ, 1, .inr (.inl g)))
def hpost (cJ : ClassId) (oa : Nat) (kv rv : Int32) (PX : va_W → Prop) (r : Int32) (w : va_W) : Prop := r = kv ∧ ∃ (w1 : va_W) (g : Nat → Int64), PX w1 ∧ (kv = nI 0 → g 0 = rv.toInt64) ∧ w = bo_out cJ oa g :: w1
abbrev bo_at0 (fo ci : Nat) (X : va_W) : Prop := ∃ (q0 : Nat) (fs : List Value), X[q0]? = some (fo, .inr (ci, fs))
theorem bo_at0.cons {fo ci : Nat} {X : va_W} {z : Nat × va_E} (h : bo_at0 fo ci X) : bo_at0 fo ci (z :: X) := by
  obtain ⟨q0, fs, h⟩ := h
  exact ⟨q0 + 1, fs, h⟩
theorem bo_at0.app {fo ci : Nat} {X Y : va_W} (h : bo_at0 fo ci X) : bo_at0 fo ci (X ++ Y) := by
  obtain ⟨q0, fs, h⟩ := h
  exact ⟨q0, fs, by rw [List.getElem?_append_left (List.getElem?_eq_some_iff.mp h).1]; exact h⟩
theorem bo_at0.app2 {fo ci : Nat} {X Y : va_W} (h : bo_at0 fo ci Y) : bo_at0 fo ci (X ++ Y) := by
  obtain ⟨q0, fs, h⟩ := h
  exact ⟨X.length + q0, fs, by rw [List.getElem?_append_right (by omega), Nat.add_sub_cancel_left]; exact h⟩
theorem updL_0 (f : Nat → Int64) (x : Int64) : vp_updL f 0 x 0 = x := by unfold vp_updL; rw [if_pos rfl]

theorem hd9_F_type : yy_F_type.cls = RR_F ∧ yy_F_type.cls ≠ "java/lang/invoke/MethodHandle" ∧ yy_F_type.cls ≠ "java/lang/invoke/VarHandle" ∧ (parseMethodDescriptor yy_F_type.desc).map (fun d => d.parameters.length) = some 2 := by decide +kernel
theorem hd9_F_compile : yy_F_compile.cls = RR_F ∧ yy_F_compile.cls ≠ "java/lang/invoke/MethodHandle" ∧ yy_F_compile.cls ≠ "java/lang/invoke/VarHandle" ∧ (parseMethodDescriptor yy_F_compile.desc).map (fun d => d.parameters.length) = some 0 := by decide +kernel
theorem hd9_F_fault : yy_F_fault.cls = RR_F ∧ yy_F_fault.cls ≠ "java/lang/invoke/MethodHandle" ∧ yy_F_fault.cls ≠ "java/lang/invoke/VarHandle" ∧ (parseMethodDescriptor yy_F_fault.desc).map (fun d => d.parameters.length) = some 0 := by decide +kernel
theorem hd9_F_begin : yy_F_begin.cls = RR_F ∧ yy_F_begin.cls ≠ "java/lang/invoke/MethodHandle" ∧ yy_F_begin.cls ≠ "java/lang/invoke/VarHandle" ∧ (parseMethodDescriptor yy_F_begin.desc).map (fun d => d.parameters.length) = some 3 := by decide +kernel
theorem hd9_F_settle : yy_F_settle.cls = RR_F ∧ yy_F_settle.cls ≠ "java/lang/invoke/MethodHandle" ∧ yy_F_settle.cls ≠ "java/lang/invoke/VarHandle" ∧ (parseMethodDescriptor yy_F_settle.desc).map (fun d => d.parameters.length) = some 3 := by decide +kernel
theorem hd9_F_step : yy_F_step.cls = RR_F ∧ yy_F_step.cls ≠ "java/lang/invoke/MethodHandle" ∧ yy_F_step.cls ≠ "java/lang/invoke/VarHandle" ∧ (parseMethodDescriptor yy_F_step.desc).map (fun d => d.parameters.length) = some 1 := by decide +kernel
theorem hd9_F_state : yy_F_state.cls = RR_F ∧ yy_F_state.cls ≠ "java/lang/invoke/MethodHandle" ∧ yy_F_state.cls ≠ "java/lang/invoke/VarHandle" ∧ (parseMethodDescriptor yy_F_state.desc).map (fun d => d.parameters.length) = some 1 := by decide +kernel
theorem hd9_F_box : yy_F_box.cls = RR_F ∧ yy_F_box.cls ≠ "java/lang/invoke/MethodHandle" ∧ yy_F_box.cls ≠ "java/lang/invoke/VarHandle" ∧ (parseMethodDescriptor yy_F_box.desc).map (fun d => d.parameters.length) = some 3 := by decide +kernel
theorem hd9_F_crossing : yy_F_crossing.cls = RR_F ∧ yy_F_crossing.cls ≠ "java/lang/invoke/MethodHandle" ∧ yy_F_crossing.cls ≠ "java/lang/invoke/VarHandle" ∧ (parseMethodDescriptor yy_F_crossing.desc).map (fun d => d.parameters.length) = some 2 := by decide +kernel
theorem hd9_F_coefficient : yy_F_coefficient.cls = RR_F ∧ yy_F_coefficient.cls ≠ "java/lang/invoke/MethodHandle" ∧ yy_F_coefficient.cls ≠ "java/lang/invoke/VarHandle" ∧ (parseMethodDescriptor yy_F_coefficient.desc).map (fun d => d.parameters.length) = some 3 := by decide +kernel
theorem hd9_M_type : yy_M_type.cls = RR_M ∧ yy_M_type.cls ≠ "java/lang/invoke/MethodHandle" ∧ yy_M_type.cls ≠ "java/lang/invoke/VarHandle" ∧ (parseMethodDescriptor yy_M_type.desc).map (fun d => d.parameters.length) = some 2 := by decide +kernel
theorem hd9_M_compile : yy_M_compile.cls = RR_M ∧ yy_M_compile.cls ≠ "java/lang/invoke/MethodHandle" ∧ yy_M_compile.cls ≠ "java/lang/invoke/VarHandle" ∧ (parseMethodDescriptor yy_M_compile.desc).map (fun d => d.parameters.length) = some 0 := by decide +kernel
theorem hd9_M_fault : yy_M_fault.cls = RR_M ∧ yy_M_fault.cls ≠ "java/lang/invoke/MethodHandle" ∧ yy_M_fault.cls ≠ "java/lang/invoke/VarHandle" ∧ (parseMethodDescriptor yy_M_fault.desc).map (fun d => d.parameters.length) = some 0 := by decide +kernel
theorem hd9_M_begin : yy_M_begin.cls = RR_M ∧ yy_M_begin.cls ≠ "java/lang/invoke/MethodHandle" ∧ yy_M_begin.cls ≠ "java/lang/invoke/VarHandle" ∧ (parseMethodDescriptor yy_M_begin.desc).map (fun d => d.parameters.length) = some 3 := by decide +kernel
theorem hd9_M_settle : yy_M_settle.cls = RR_M ∧ yy_M_settle.cls ≠ "java/lang/invoke/MethodHandle" ∧ yy_M_settle.cls ≠ "java/lang/invoke/VarHandle" ∧ (parseMethodDescriptor yy_M_settle.desc).map (fun d => d.parameters.length) = some 3 := by decide +kernel
theorem hd9_M_step : yy_M_step.cls = RR_M ∧ yy_M_step.cls ≠ "java/lang/invoke/MethodHandle" ∧ yy_M_step.cls ≠ "java/lang/invoke/VarHandle" ∧ (parseMethodDescriptor yy_M_step.desc).map (fun d => d.parameters.length) = some 1 := by decide +kernel
theorem hd9_M_state : yy_M_state.cls = RR_M ∧ yy_M_state.cls ≠ "java/lang/invoke/MethodHandle" ∧ yy_M_state.cls ≠ "java/lang/invoke/VarHandle" ∧ (parseMethodDescriptor yy_M_state.desc).map (fun d => d.parameters.length) = some 1 := by decide +kernel
theorem hd9_M_box : yy_M_box.cls = RR_M ∧ yy_M_box.cls ≠ "java/lang/invoke/MethodHandle" ∧ yy_M_box.cls ≠ "java/lang/invoke/VarHandle" ∧ (parseMethodDescriptor yy_M_box.desc).map (fun d => d.parameters.length) = some 3 := by decide +kernel
theorem hd9_M_crossing : yy_M_crossing.cls = RR_M ∧ yy_M_crossing.cls ≠ "java/lang/invoke/MethodHandle" ∧ yy_M_crossing.cls ≠ "java/lang/invoke/VarHandle" ∧ (parseMethodDescriptor yy_M_crossing.desc).map (fun d => d.parameters.length) = some 2 := by decide +kernel
theorem hd9_M_coefficient : yy_M_coefficient.cls = RR_M ∧ yy_M_coefficient.cls ≠ "java/lang/invoke/MethodHandle" ∧ yy_M_coefficient.cls ≠ "java/lang/invoke/VarHandle" ∧ (parseMethodDescriptor yy_M_coefficient.desc).map (fun d => d.parameters.length) = some 3 := by decide +kernel
theorem hd9_M_thrown : yy_M_thrown.cls = RR_M ∧ yy_M_thrown.cls ≠ "java/lang/invoke/MethodHandle" ∧ yy_M_thrown.cls ≠ "java/lang/invoke/VarHandle" ∧ (parseMethodDescriptor yy_M_thrown.desc).map (fun d => d.parameters.length) = some 0 := by decide +kernel

set_option maxHeartbeats 2000000 in
theorem h_compileOk {l : Launch} {D : va_G} {cJ cI cB cY : ClassId} {fo oa : Nat} {f : Nat → Int64} {X : va_W} {rv : Int32} {PX : va_W → Prop} (he : bo_at0 fo 0 X) (hM : bo_i (S := va_W) l D bo_cl (bo_ty cJ cI cB cY) yy_F_compile (bo_w yy_F_compile bb_F_compile 2 (some .int)) (bo_rm 7 160) [.ref fo] X (fun r w1 => r = rv ∧ PX w1) id) :
    bo_h (S := va_W) l D bo_cl (bo_ty cJ cI cB cY) yy_L_compile (bo_wh yy_L_compile bb_L_compile 3 (some .int) [(0, 8, 11, 13)]) bo_rmh [.ref fo, .ref oa] (bo_out cJ oa f :: X) (hpost cJ oa (nI 0) rv PX) id := by
  refine bo_enter_h (cc := bb_L_compile) (maxL := 3) (hh := [(0, 8, 11, 13)]) (by decide) rfl (Nat.le_of_ble_eq_true rfl) ?_
  intro p e s m args below meth c A ls Q hx hb hts hown hml hxt hhs hK hP hD hS hA hl hret
  have hl : lv_has ls 3 [(0, .ref fo), (1, .ref oa)] := hl
  refine lv_aload_n hx hb dd_L_compile_0 rfl (lv_at hl 1 rfl) ?_
  refine lv_iconst (v := nI 0) hx hb dd_L_compile_1 (by decide) ?_
  refine lv_aload_n hx hb dd_L_compile_2 rfl (lv_at hl 0 rfl) ?_
  refine bo_cV (bo_frR_i hM [bo_out cJ oa f]) ⟨hx, hb, hml, hown, hts⟩ (cwV 0 hts (bo_gV9 wd_431 wd_432 wd_433 wd_1 wd_434) rfl rfl rfl hd9_F_compile (by decide)) hK hP hD hS hA (bo_at0.cons he) rfl rfl rfl hl.1 rfl (Nat.le_of_ble_eq_true rfl) dd_L_compile_3 (by decide) (fun r w8 H locs hu hP hD hS => ?_)
  obtain ⟨hr, hu⟩ := hu
  subst hr
  have hP : va_P D bo_cl (bo_out cJ oa f :: w8) H := hP
  have hD : va_D A (bo_out cJ oa f :: w8) := hD
  refine lv_i2l (v := r.toInt64) hx hb dd_L_compile_6 rfl ?_
  refine bo_last hx hb hK hP hD hS 0 0 rfl rfl (by decide) (by decide) dd_L_compile_7 (fun H locs hP hD hS => ?_)
  refine lv_goto (tgt := 14) hx hb dd_L_compile_8 rfl ?_
  refine lv_iconst (v := nI 0) hx hb dd_L_compile_14 (by decide) ?_
  refine W.widen (k := bo_rmh.cells) (n := bo_rmh.slots) (by decide) (by decide) ?_
  exact hret (bo_out cJ oa (vp_updL f 0 r.toInt64) :: w8) _ _ _ _ _ hP hD hS ⟨rfl, w8, _, hu, fun _ => updL_0 _ _, rfl⟩ dd_L_compile_15

set_option maxHeartbeats 2000000 in
theorem h_compileIAE {l : Launch} {D : va_G} {cJ cI cB cY : ClassId} {fo oa : Nat} {f : Nat → Int64} {X : va_W} {PX : va_W → Prop} (he : bo_at0 fo 0 X) (hM : bo_x (S := va_W) "java/lang/IllegalArgumentException" l D bo_cl (bo_ty cJ cI cB cY) yy_F_compile (bo_w yy_F_compile bb_F_compile 2 (some .int)) (bo_rmx 7 160) [.ref fo] X (fun w1 => PX w1) id) :
    bo_h (S := va_W) l D bo_cl (bo_ty cJ cI cB cY) yy_L_compile (bo_wh yy_L_compile bb_L_compile 3 (some .int) [(0, 8, 11, 13)]) bo_rmh [.ref fo, .ref oa] (bo_out cJ oa f :: X) (hpost cJ oa (nI 1) (nI 0) PX) id := by
  refine bo_enter_h (cc := bb_L_compile) (maxL := 3) (hh := [(0, 8, 11, 13)]) (by decide) rfl (Nat.le_of_ble_eq_true rfl) ?_
  intro p e s m args below meth c A ls Q hx hb hts hown hml hxt hhs hK hP hD hS hA hl hret
  have hl : lv_has ls 3 [(0, .ref fo), (1, .ref oa)] := hl
  refine lv_aload_n hx hb dd_L_compile_0 rfl (lv_at hl 1 rfl) ?_
  refine lv_iconst (v := nI 0) hx hb dd_L_compile_1 (by decide) ?_
  refine lv_aload_n hx hb dd_L_compile_2 rfl (lv_at hl 0 rfl) ?_
  refine bo_cX (bo_frR_x hM [bo_out cJ oa f]) ⟨hx, hb, hml, hown, hts⟩ (cwV 0 hts (bo_gV9 wd_431 wd_432 wd_433 wd_1 wd_434) rfl rfl rfl hd9_F_compile (by decide)) hhs (fun a c h _ => h) hK hP hD hS hA (bo_at0.cons he) rfl rfl rfl hl.1 rfl (Nat.le_of_ble_eq_true rfl) dd_L_compile_3 (by decide) [] (0, 8, 11, 13) [] hxt (by decide) (by decide) (hts _ (List.mem_cons_of_mem _ wd_430)) (fun q hq => absurd hq List.not_mem_nil) (fun x w8 H locs hu hP hD hS => ?_)
  have hP : va_P D bo_cl (bo_out cJ oa f :: w8) H := hP
  have hD : va_D A (bo_out cJ oa f :: w8) := hD
  refine lv_astore_n (lv' := [(2, .ref x), (0, .ref fo), (1, .ref oa)]) hx hb dd_L_compile_11 rfl hl (by decide) rfl (fun ls hl => ?_)
  refine lv_iconst (v := nI 1) hx hb dd_L_compile_12 (by decide) ?_
  exact hret (bo_out cJ oa f :: w8) _ _ _ _ _ hP hD hS ⟨rfl, w8, _, hu, fun q => absurd q (by decide), rfl⟩ dd_L_compile_13

set_option maxHeartbeats 2000000 in
theorem h_stepOk {l : Launch} {D : va_G} {cJ cI cB cY : ClassId} {fo oa : Nat} {n : Int32} {f : Nat → Int64} {X : va_W} {rv : Int32} {PX : va_W → Prop} (he : bo_at0 fo 0 X) (hM : bo_i (S := va_W) l D bo_cl (bo_ty cJ cI cB cY) yy_F_step (bo_w yy_F_step bb_F_step 3 (some .int)) (bo_rm 7 197) [.ref fo, .int n] X (fun r w1 => r = rv ∧ PX w1) id) :
    bo_h (S := va_W) l D bo_cl (bo_ty cJ cI cB cY) yy_L_step (bo_wh yy_L_step bb_L_step 4 (some .int) [(0, 9, 12, 19), (0, 9, 15, 21), (0, 9, 18, 13)]) bo_rmh [.ref fo, .int n, .ref oa] (bo_out cJ oa f :: X) (hpost cJ oa (nI 0) rv PX) id := by
  refine bo_enter_h (cc := bb_L_step) (maxL := 4) (hh := [(0, 9, 12, 19), (0, 9, 15, 21), (0, 9, 18, 13)]) (by decide) rfl (Nat.le_of_ble_eq_true rfl) ?_
  intro p e s m args below meth c A ls Q hx hb hts hown hml hxt hhs hK hP hD hS hA hl hret
  have hl : lv_has ls 4 [(0, .ref fo), (1, .int n), (2, .ref oa)] := hl
  refine lv_aload_n hx hb dd_L_step_0 rfl (lv_at hl 2 rfl) ?_
  refine lv_iconst (v := nI 0) hx hb dd_L_step_1 (by decide) ?_
  refine lv_aload_n hx hb dd_L_step_2 rfl (lv_at hl 0 rfl) ?_
  refine lv_iload_n hx hb dd_L_step_3 rfl (lv_at hl 1 rfl) ?_
  refine bo_cV (bo_frR_i hM [bo_out cJ oa f]) ⟨hx, hb, hml, hown, hts⟩ (cwV 1 hts (bo_gV9 wd_595 wd_596 wd_597 wd_1 wd_598) rfl rfl rfl hd9_F_step (by decide)) hK hP hD hS hA (bo_at0.cons he) rfl rfl rfl hl.1 rfl (Nat.le_of_ble_eq_true rfl) dd_L_step_4 (by decide) (fun r w8 H locs hu hP hD hS => ?_)
  obtain ⟨hr, hu⟩ := hu
  subst hr
  have hP : va_P D bo_cl (bo_out cJ oa f :: w8) H := hP
  have hD : va_D A (bo_out cJ oa f :: w8) := hD
  refine lv_i2l (v := r.toInt64) hx hb dd_L_step_7 rfl ?_
  refine bo_last hx hb hK hP hD hS 0 0 rfl rfl (by decide) (by decide) dd_L_step_8 (fun H locs hP hD hS => ?_)
  refine lv_goto (tgt := 21) hx hb dd_L_step_9 rfl ?_
  refine lv_iconst (v := nI 0) hx hb dd_L_step_21 (by decide) ?_
  refine W.widen (k := bo_rmh.cells) (n := bo_rmh.slots) (by decide) (by decide) ?_
  exact hret (bo_out cJ oa (vp_updL f 0 r.toInt64) :: w8) _ _ _ _ _ hP hD hS ⟨rfl, w8, _, hu, fun _ => updL_0 _ _, rfl⟩ dd_L_step_22

set_option maxHeartbeats 2000000 in
theorem h_stepISE {l : Launch} {D : va_G} {cJ cI cB cY : ClassId} {fo oa : Nat} {n : Int32} {f : Nat → Int64} {X : va_W} {PX : va_W → Prop} (he : bo_at0 fo 0 X) (hM : bo_x (S := va_W) "java/lang/IllegalStateException" l D bo_cl (bo_ty cJ cI cB cY) yy_F_step (bo_w yy_F_step bb_F_step 3 (some .int)) (bo_rmx 7 197) [.ref fo, .int n] X (fun w1 => PX w1) id) :
    bo_h (S := va_W) l D bo_cl (bo_ty cJ cI cB cY) yy_L_step (bo_wh yy_L_step bb_L_step 4 (some .int) [(0, 9, 12, 19), (0, 9, 15, 21), (0, 9, 18, 13)]) bo_rmh [.ref fo, .int n, .ref oa] (bo_out cJ oa f :: X) (hpost cJ oa (nI 1) (nI 0) PX) id := by
  refine bo_enter_h (cc := bb_L_step) (maxL := 4) (hh := [(0, 9, 12, 19), (0, 9, 15, 21), (0, 9, 18, 13)]) (by decide) rfl (Nat.le_of_ble_eq_true rfl) ?_
  intro p e s m args below meth c A ls Q hx hb hts hown hml hxt hhs hK hP hD hS hA hl hret
  have hl : lv_has ls 4 [(0, .ref fo), (1, .int n), (2, .ref oa)] := hl
  refine lv_aload_n hx hb dd_L_step_0 rfl (lv_at hl 2 rfl) ?_
  refine lv_iconst (v := nI 0) hx hb dd_L_step_1 (by decide) ?_
  refine lv_aload_n hx hb dd_L_step_2 rfl (lv_at hl 0 rfl) ?_
  refine lv_iload_n hx hb dd_L_step_3 rfl (lv_at hl 1 rfl) ?_
  refine bo_cX (bo_frR_x hM [bo_out cJ oa f]) ⟨hx, hb, hml, hown, hts⟩ (cwV 1 hts (bo_gV9 wd_595 wd_596 wd_597 wd_1 wd_598) rfl rfl rfl hd9_F_step (by decide)) hhs (fun a c h _ => h) hK hP hD hS hA (bo_at0.cons he) rfl rfl rfl hl.1 rfl (Nat.le_of_ble_eq_true rfl) dd_L_step_4 (by decide) [] (0, 9, 12, 19) [(0, 9, 15, 21), (0, 9, 18, 13)] hxt (by decide) (by decide) (hts _ (List.mem_cons_of_mem _ wd_593)) (fun q hq => absurd hq List.not_mem_nil) (fun x w8 H locs hu hP hD hS => ?_)
  have hP : va_P D bo_cl (bo_out cJ oa f :: w8) H := hP
  have hD : va_D A (bo_out cJ oa f :: w8) := hD
  refine lv_astore_n (lv' := [(3, .ref x), (0, .ref fo), (1, .int n), (2, .ref oa)]) hx hb dd_L_step_12 rfl hl (by decide) rfl (fun ls hl => ?_)
  refine lv_iconst (v := nI 1) hx hb dd_L_step_13 (by decide) ?_
  exact hret (bo_out cJ oa f :: w8) _ _ _ _ _ hP hD hS ⟨rfl, w8, _, hu, fun q => absurd q (by decide), rfl⟩ dd_L_step_14

set_option maxHeartbeats 2000000 in
theorem h_stepARE {l : Launch} {D : va_G} {cJ cI cB cY : ClassId} {fo oa : Nat} {n : Int32} {f : Nat → Int64} {X : va_W} {PX : va_W → Prop} (he : bo_at0 fo 0 X) (hM : bo_x (S := va_W) "java/lang/ArithmeticException" l D bo_cl (bo_ty cJ cI cB cY) yy_F_step (bo_w yy_F_step bb_F_step 3 (some .int)) (bo_rmx 7 197) [.ref fo, .int n] X (fun w1 => PX w1) id) :
    bo_h (S := va_W) l D bo_cl (bo_ty cJ cI cB cY) yy_L_step (bo_wh yy_L_step bb_L_step 4 (some .int) [(0, 9, 12, 19), (0, 9, 15, 21), (0, 9, 18, 13)]) bo_rmh [.ref fo, .int n, .ref oa] (bo_out cJ oa f :: X) (hpost cJ oa (nI 2) (nI 0) PX) id := by
  refine bo_enter_h (cc := bb_L_step) (maxL := 4) (hh := [(0, 9, 12, 19), (0, 9, 15, 21), (0, 9, 18, 13)]) (by decide) rfl (Nat.le_of_ble_eq_true rfl) ?_
  intro p e s m args below meth c A ls Q hx hb hts hown hml hxt hhs hK hP hD hS hA hl hret
  have hl : lv_has ls 4 [(0, .ref fo), (1, .int n), (2, .ref oa)] := hl
  refine lv_aload_n hx hb dd_L_step_0 rfl (lv_at hl 2 rfl) ?_
  refine lv_iconst (v := nI 0) hx hb dd_L_step_1 (by decide) ?_
  refine lv_aload_n hx hb dd_L_step_2 rfl (lv_at hl 0 rfl) ?_
  refine lv_iload_n hx hb dd_L_step_3 rfl (lv_at hl 1 rfl) ?_
  refine bo_cX (bo_frR_x hM [bo_out cJ oa f]) ⟨hx, hb, hml, hown, hts⟩ (cwV 1 hts (bo_gV9 wd_595 wd_596 wd_597 wd_1 wd_598) rfl rfl rfl hd9_F_step (by decide)) hhs (fun a c h _ => h) hK hP hD hS hA (bo_at0.cons he) rfl rfl rfl hl.1 rfl (Nat.le_of_ble_eq_true rfl) dd_L_step_4 (by decide) [(0, 9, 12, 19)] (0, 9, 15, 21) [(0, 9, 18, 13)] hxt (by decide) (by decide) (hts _ (List.mem_cons_of_mem _ wd_594)) (fun q hq => by
    simp only [List.mem_cons, List.not_mem_nil, or_false] at hq
    subst hq
    exact ⟨by decide, _, (hts _ (List.mem_cons_of_mem _ wd_593)), by decide⟩) (fun x w8 H locs hu hP hD hS => ?_)
  have hP : va_P D bo_cl (bo_out cJ oa f :: w8) H := hP
  have hD : va_D A (bo_out cJ oa f :: w8) := hD
  refine lv_astore_n (lv' := [(3, .ref x), (0, .ref fo), (1, .int n), (2, .ref oa)]) hx hb dd_L_step_15 rfl hl (by decide) rfl (fun ls hl => ?_)
  refine lv_iconst (v := nI 2) hx hb dd_L_step_16 (by decide) ?_
  exact hret (bo_out cJ oa f :: w8) _ _ _ _ _ hP hD hS ⟨rfl, w8, _, hu, fun q => absurd q (by decide), rfl⟩ dd_L_step_17

set_option maxHeartbeats 2000000 in
theorem h_stepIAE {l : Launch} {D : va_G} {cJ cI cB cY : ClassId} {fo oa : Nat} {n : Int32} {f : Nat → Int64} {X : va_W} {PX : va_W → Prop} (he : bo_at0 fo 0 X) (hM : bo_x (S := va_W) "java/lang/IllegalArgumentException" l D bo_cl (bo_ty cJ cI cB cY) yy_F_step (bo_w yy_F_step bb_F_step 3 (some .int)) (bo_rmx 7 197) [.ref fo, .int n] X (fun w1 => PX w1) id) :
    bo_h (S := va_W) l D bo_cl (bo_ty cJ cI cB cY) yy_L_step (bo_wh yy_L_step bb_L_step 4 (some .int) [(0, 9, 12, 19), (0, 9, 15, 21), (0, 9, 18, 13)]) bo_rmh [.ref fo, .int n, .ref oa] (bo_out cJ oa f :: X) (hpost cJ oa (nI 3) (nI 0) PX) id := by
  refine bo_enter_h (cc := bb_L_step) (maxL := 4) (hh := [(0, 9, 12, 19), (0, 9, 15, 21), (0, 9, 18, 13)]) (by decide) rfl (Nat.le_of_ble_eq_true rfl) ?_
  intro p e s m args below meth c A ls Q hx hb hts hown hml hxt hhs hK hP hD hS hA hl hret
  have hl : lv_has ls 4 [(0, .ref fo), (1, .int n), (2, .ref oa)] := hl
  refine lv_aload_n hx hb dd_L_step_0 rfl (lv_at hl 2 rfl) ?_
  refine lv_iconst (v := nI 0) hx hb dd_L_step_1 (by decide) ?_
  refine lv_aload_n hx hb dd_L_step_2 rfl (lv_at hl 0 rfl) ?_
  refine lv_iload_n hx hb dd_L_step_3 rfl (lv_at hl 1 rfl) ?_
  refine bo_cX (bo_frR_x hM [bo_out cJ oa f]) ⟨hx, hb, hml, hown, hts⟩ (cwV 1 hts (bo_gV9 wd_595 wd_596 wd_597 wd_1 wd_598) rfl rfl rfl hd9_F_step (by decide)) hhs (fun a c h _ => h) hK hP hD hS hA (bo_at0.cons he) rfl rfl rfl hl.1 rfl (Nat.le_of_ble_eq_true rfl) dd_L_step_4 (by decide) [(0, 9, 12, 19), (0, 9, 15, 21)] (0, 9, 18, 13) [] hxt (by decide) (by decide) (hts _ (List.mem_cons_of_mem _ wd_430)) (fun q hq => by
    simp only [List.mem_cons, List.not_mem_nil, or_false] at hq
    rcases hq with rfl | rfl
    · exact ⟨by decide, _, (hts _ (List.mem_cons_of_mem _ wd_593)), by decide⟩
    · exact ⟨by decide, _, (hts _ (List.mem_cons_of_mem _ wd_594)), by decide⟩) (fun x w8 H locs hu hP hD hS => ?_)
  have hP : va_P D bo_cl (bo_out cJ oa f :: w8) H := hP
  have hD : va_D A (bo_out cJ oa f :: w8) := hD
  refine lv_astore_n (lv' := [(3, .ref x), (0, .ref fo), (1, .int n), (2, .ref oa)]) hx hb dd_L_step_18 rfl hl (by decide) rfl (fun ls hl => ?_)
  refine lv_iconst (v := nI 3) hx hb dd_L_step_19 (by decide) ?_
  exact hret (bo_out cJ oa f :: w8) _ _ _ _ _ hP hD hS ⟨rfl, w8, _, hu, fun q => absurd q (by decide), rfl⟩ dd_L_step_20

set_option maxHeartbeats 2000000 in
theorem h_boxOk {l : Launch} {D : va_G} {cJ cI cB cY : ClassId} {fo oa : Nat} {i v w : Int32} {f : Nat → Int64} {X : va_W} {rv : Int32} {PX : va_W → Prop} (he : bo_at0 fo 0 X) (hM : bo_i (S := va_W) l D bo_cl (bo_ty cJ cI cB cY) yy_F_box (bo_w yy_F_box bb_F_box 4 (some .int)) (bo_rm 1 23) [.ref fo, .int i, .int v, .int w] X (fun r w1 => r = rv ∧ PX w1) id) :
    bo_h (S := va_W) l D bo_cl (bo_ty cJ cI cB cY) yy_L_box (bo_wh yy_L_box bb_L_box 6 (some .int) [(0, 12, 15, 27)]) bo_rmh [.ref fo, .int i, .int v, .int w, .ref oa] (bo_out cJ oa f :: X) (hpost cJ oa (nI 0) rv PX) id := by
  refine bo_enter_h (cc := bb_L_box) (maxL := 6) (hh := [(0, 12, 15, 27)]) (by decide) rfl (Nat.le_of_ble_eq_true rfl) ?_
  intro p e s m args below meth c A ls Q hx hb hts hown hml hxt hhs hK hP hD hS hA hl hret
  have hl : lv_has ls 6 [(0, .ref fo), (1, .int i), (2, .int v), (3, .int w), (4, .ref oa)] := hl
  refine lv_aload hx hb dd_L_box_0 (lv_at hl 4 rfl) ?_
  refine lv_iconst (v := nI 0) hx hb dd_L_box_2 (by decide) ?_
  refine lv_aload_n hx hb dd_L_box_3 rfl (lv_at hl 0 rfl) ?_
  refine lv_iload_n hx hb dd_L_box_4 rfl (lv_at hl 1 rfl) ?_
  refine lv_iload_n hx hb dd_L_box_5 rfl (lv_at hl 2 rfl) ?_
  refine lv_iload_n hx hb dd_L_box_6 rfl (lv_at hl 3 rfl) ?_
  refine bo_cV (bo_frR_i hM [bo_out cJ oa f]) ⟨hx, hb, hml, hown, hts⟩ (cwV 3 hts (bo_gV9 wd_724 wd_725 wd_726 wd_1 wd_727) rfl rfl rfl hd9_F_box (by decide)) hK hP hD hS hA (bo_at0.cons he) rfl rfl rfl hl.1 rfl (Nat.le_of_ble_eq_true rfl) dd_L_box_7 (by decide) (fun r w8 H locs hu hP hD hS => ?_)
  obtain ⟨hr, hu⟩ := hu
  subst hr
  have hP : va_P D bo_cl (bo_out cJ oa f :: w8) H := hP
  have hD : va_D A (bo_out cJ oa f :: w8) := hD
  refine lv_i2l (v := r.toInt64) hx hb dd_L_box_10 rfl ?_
  refine bo_last hx hb hK hP hD hS 0 0 rfl rfl (by decide) (by decide) dd_L_box_11 (fun H locs hP hD hS => ?_)
  refine lv_goto (tgt := 19) hx hb dd_L_box_12 rfl ?_
  refine lv_iconst (v := nI 0) hx hb dd_L_box_19 (by decide) ?_
  refine W.widen (k := bo_rmh.cells) (n := bo_rmh.slots) (by decide) (by decide) ?_
  exact hret (bo_out cJ oa (vp_updL f 0 r.toInt64) :: w8) _ _ _ _ _ hP hD hS ⟨rfl, w8, _, hu, fun _ => updL_0 _ _, rfl⟩ dd_L_box_20

set_option maxHeartbeats 2000000 in
theorem h_boxIOB {l : Launch} {D : va_G} {cJ cI cB cY : ClassId} {fo oa : Nat} {i v w : Int32} {f : Nat → Int64} {X : va_W} {PX : va_W → Prop} (he : bo_at0 fo 0 X) (hM : bo_x (S := va_W) "java/lang/IndexOutOfBoundsException" l D bo_cl (bo_ty cJ cI cB cY) yy_F_box (bo_w yy_F_box bb_F_box 4 (some .int)) (bo_rmx 6 100) [.ref fo, .int i, .int v, .int w] X (fun w1 => PX w1) id) :
    bo_h (S := va_W) l D bo_cl (bo_ty cJ cI cB cY) yy_L_box (bo_wh yy_L_box bb_L_box 6 (some .int) [(0, 12, 15, 27)]) bo_rmh [.ref fo, .int i, .int v, .int w, .ref oa] (bo_out cJ oa f :: X) (hpost cJ oa (nI 1) (nI 0) PX) id := by
  refine bo_enter_h (cc := bb_L_box) (maxL := 6) (hh := [(0, 12, 15, 27)]) (by decide) rfl (Nat.le_of_ble_eq_true rfl) ?_
  intro p e s m args below meth c A ls Q hx hb hts hown hml hxt hhs hK hP hD hS hA hl hret
  have hl : lv_has ls 6 [(0, .ref fo), (1, .int i), (2, .int v), (3, .int w), (4, .ref oa)] := hl
  refine lv_aload hx hb dd_L_box_0 (lv_at hl 4 rfl) ?_
  refine lv_iconst (v := nI 0) hx hb dd_L_box_2 (by decide) ?_
  refine lv_aload_n hx hb dd_L_box_3 rfl (lv_at hl 0 rfl) ?_
  refine lv_iload_n hx hb dd_L_box_4 rfl (lv_at hl 1 rfl) ?_
  refine lv_iload_n hx hb dd_L_box_5 rfl (lv_at hl 2 rfl) ?_
  refine lv_iload_n hx hb dd_L_box_6 rfl (lv_at hl 3 rfl) ?_
  refine bo_cX (bo_frR_x hM [bo_out cJ oa f]) ⟨hx, hb, hml, hown, hts⟩ (cwV 3 hts (bo_gV9 wd_724 wd_725 wd_726 wd_1 wd_727) rfl rfl rfl hd9_F_box (by decide)) hhs (fun a c h _ => h) hK hP hD hS hA (bo_at0.cons he) rfl rfl rfl hl.1 rfl (Nat.le_of_ble_eq_true rfl) dd_L_box_7 (by decide) [] (0, 12, 15, 27) [] hxt (by decide) (by decide) (hts _ (List.mem_cons_of_mem _ wd_723)) (fun q hq => absurd hq List.not_mem_nil) (fun x w8 H locs hu hP hD hS => ?_)
  have hP : va_P D bo_cl (bo_out cJ oa f :: w8) H := hP
  have hD : va_D A (bo_out cJ oa f :: w8) := hD
  refine lv_astore (lv' := [(5, .ref x), (0, .ref fo), (1, .int i), (2, .int v), (3, .int w), (4, .ref oa)]) hx hb dd_L_box_15 hl (by decide) rfl (fun ls hl => ?_)
  refine lv_iconst (v := nI 1) hx hb dd_L_box_17 (by decide) ?_
  exact hret (bo_out cJ oa f :: w8) _ _ _ _ _ hP hD hS ⟨rfl, w8, _, hu, fun q => absurd q (by decide), rfl⟩ dd_L_box_18

set_option maxHeartbeats 2000000 in
theorem h_crossingOk {l : Launch} {D : va_G} {cJ cI cB cY : ClassId} {fo oa : Nat} {i w : Int32} {f : Nat → Int64} {X : va_W} {rv : Int32} {PX : va_W → Prop} (he : bo_at0 fo 0 X) (hM : bo_i (S := va_W) l D bo_cl (bo_ty cJ cI cB cY) yy_F_crossing (bo_w yy_F_crossing bb_F_crossing 3 (some .int)) (bo_rm 1 22) [.ref fo, .int i, .int w] X (fun r w1 => r = rv ∧ PX w1) id) :
    bo_h (S := va_W) l D bo_cl (bo_ty cJ cI cB cY) yy_L_crossing (bo_wh yy_L_crossing bb_L_crossing 5 (some .int) [(0, 10, 13, 27)]) bo_rmh [.ref fo, .int i, .int w, .ref oa] (bo_out cJ oa f :: X) (hpost cJ oa (nI 0) rv PX) id := by
  refine bo_enter_h (cc := bb_L_crossing) (maxL := 5) (hh := [(0, 10, 13, 27)]) (by decide) rfl (Nat.le_of_ble_eq_true rfl) ?_
  intro p e s m args below meth c A ls Q hx hb hts hown hml hxt hhs hK hP hD hS hA hl hret
  have hl : lv_has ls 5 [(0, .ref fo), (1, .int i), (2, .int w), (3, .ref oa)] := hl
  refine lv_aload_n hx hb dd_L_crossing_0 rfl (lv_at hl 3 rfl) ?_
  refine lv_iconst (v := nI 0) hx hb dd_L_crossing_1 (by decide) ?_
  refine lv_aload_n hx hb dd_L_crossing_2 rfl (lv_at hl 0 rfl) ?_
  refine lv_iload_n hx hb dd_L_crossing_3 rfl (lv_at hl 1 rfl) ?_
  refine lv_iload_n hx hb dd_L_crossing_4 rfl (lv_at hl 2 rfl) ?_
  refine bo_cV (bo_frR_i hM [bo_out cJ oa f]) ⟨hx, hb, hml, hown, hts⟩ (cwV 2 hts (bo_gV9 wd_759 wd_760 wd_761 wd_1 wd_762) rfl rfl rfl hd9_F_crossing (by decide)) hK hP hD hS hA (bo_at0.cons he) rfl rfl rfl hl.1 rfl (Nat.le_of_ble_eq_true rfl) dd_L_crossing_5 (by decide) (fun r w8 H locs hu hP hD hS => ?_)
  obtain ⟨hr, hu⟩ := hu
  subst hr
  have hP : va_P D bo_cl (bo_out cJ oa f :: w8) H := hP
  have hD : va_D A (bo_out cJ oa f :: w8) := hD
  refine lv_i2l (v := r.toInt64) hx hb dd_L_crossing_8 rfl ?_
  refine bo_last hx hb hK hP hD hS 0 0 rfl rfl (by decide) (by decide) dd_L_crossing_9 (fun H locs hP hD hS => ?_)
  refine lv_goto (tgt := 17) hx hb dd_L_crossing_10 rfl ?_
  refine lv_iconst (v := nI 0) hx hb dd_L_crossing_17 (by decide) ?_
  refine W.widen (k := bo_rmh.cells) (n := bo_rmh.slots) (by decide) (by decide) ?_
  exact hret (bo_out cJ oa (vp_updL f 0 r.toInt64) :: w8) _ _ _ _ _ hP hD hS ⟨rfl, w8, _, hu, fun _ => updL_0 _ _, rfl⟩ dd_L_crossing_18

set_option maxHeartbeats 2000000 in
theorem h_crossingIOB {l : Launch} {D : va_G} {cJ cI cB cY : ClassId} {fo oa : Nat} {i w : Int32} {f : Nat → Int64} {X : va_W} {PX : va_W → Prop} (he : bo_at0 fo 0 X) (hM : bo_x (S := va_W) "java/lang/IndexOutOfBoundsException" l D bo_cl (bo_ty cJ cI cB cY) yy_F_crossing (bo_w yy_F_crossing bb_F_crossing 3 (some .int)) (bo_rmx 6 100) [.ref fo, .int i, .int w] X (fun w1 => PX w1) id) :
    bo_h (S := va_W) l D bo_cl (bo_ty cJ cI cB cY) yy_L_crossing (bo_wh yy_L_crossing bb_L_crossing 5 (some .int) [(0, 10, 13, 27)]) bo_rmh [.ref fo, .int i, .int w, .ref oa] (bo_out cJ oa f :: X) (hpost cJ oa (nI 1) (nI 0) PX) id := by
  refine bo_enter_h (cc := bb_L_crossing) (maxL := 5) (hh := [(0, 10, 13, 27)]) (by decide) rfl (Nat.le_of_ble_eq_true rfl) ?_
  intro p e s m args below meth c A ls Q hx hb hts hown hml hxt hhs hK hP hD hS hA hl hret
  have hl : lv_has ls 5 [(0, .ref fo), (1, .int i), (2, .int w), (3, .ref oa)] := hl
  refine lv_aload_n hx hb dd_L_crossing_0 rfl (lv_at hl 3 rfl) ?_
  refine lv_iconst (v := nI 0) hx hb dd_L_crossing_1 (by decide) ?_
  refine lv_aload_n hx hb dd_L_crossing_2 rfl (lv_at hl 0 rfl) ?_
  refine lv_iload_n hx hb dd_L_crossing_3 rfl (lv_at hl 1 rfl) ?_
  refine lv_iload_n hx hb dd_L_crossing_4 rfl (lv_at hl 2 rfl) ?_
  refine bo_cX (bo_frR_x hM [bo_out cJ oa f]) ⟨hx, hb, hml, hown, hts⟩ (cwV 2 hts (bo_gV9 wd_759 wd_760 wd_761 wd_1 wd_762) rfl rfl rfl hd9_F_crossing (by decide)) hhs (fun a c h _ => h) hK hP hD hS hA (bo_at0.cons he) rfl rfl rfl hl.1 rfl (Nat.le_of_ble_eq_true rfl) dd_L_crossing_5 (by decide) [] (0, 10, 13, 27) [] hxt (by decide) (by decide) (hts _ (List.mem_cons_of_mem _ wd_723)) (fun q hq => absurd hq List.not_mem_nil) (fun x w8 H locs hu hP hD hS => ?_)
  have hP : va_P D bo_cl (bo_out cJ oa f :: w8) H := hP
  have hD : va_D A (bo_out cJ oa f :: w8) := hD
  refine lv_astore (lv' := [(4, .ref x), (0, .ref fo), (1, .int i), (2, .int w), (3, .ref oa)]) hx hb dd_L_crossing_13 hl (by decide) rfl (fun ls hl => ?_)
  refine lv_iconst (v := nI 1) hx hb dd_L_crossing_15 (by decide) ?_
  exact hret (bo_out cJ oa f :: w8) _ _ _ _ _ hP hD hS ⟨rfl, w8, _, hu, fun q => absurd q (by decide), rfl⟩ dd_L_crossing_16

set_option maxHeartbeats 2000000 in
theorem h_coefficientOk {l : Launch} {D : va_G} {cJ cI cB cY : ClassId} {fo oa : Nat} {v k hg : Int32} {f : Nat → Int64} {X : va_W} {rv : Int32} {PX : va_W → Prop} (he : bo_at0 fo 0 X) (hM : bo_i (S := va_W) l D bo_cl (bo_ty cJ cI cB cY) yy_F_coefficient (bo_w yy_F_coefficient bb_F_coefficient 6 (some .int)) (bo_rm 5 148) [.ref fo, .int v, .int k, .int hg] X (fun r w1 => r = rv ∧ PX w1) id) :
    bo_h (S := va_W) l D bo_cl (bo_ty cJ cI cB cY) yy_L_coefficient (bo_wh yy_L_coefficient bb_L_coefficient 6 (some .int) [(0, 12, 15, 27), (0, 12, 19, 21)]) bo_rmh [.ref fo, .int v, .int k, .int hg, .ref oa] (bo_out cJ oa f :: X) (hpost cJ oa (nI 0) rv PX) id := by
  refine bo_enter_h (cc := bb_L_coefficient) (maxL := 6) (hh := [(0, 12, 15, 27), (0, 12, 19, 21)]) (by decide) rfl (Nat.le_of_ble_eq_true rfl) ?_
  intro p e s m args below meth c A ls Q hx hb hts hown hml hxt hhs hK hP hD hS hA hl hret
  have hl : lv_has ls 6 [(0, .ref fo), (1, .int v), (2, .int k), (3, .int hg), (4, .ref oa)] := hl
  refine lv_aload hx hb dd_L_coefficient_0 (lv_at hl 4 rfl) ?_
  refine lv_iconst (v := nI 0) hx hb dd_L_coefficient_2 (by decide) ?_
  refine lv_aload_n hx hb dd_L_coefficient_3 rfl (lv_at hl 0 rfl) ?_
  refine lv_iload_n hx hb dd_L_coefficient_4 rfl (lv_at hl 1 rfl) ?_
  refine lv_iload_n hx hb dd_L_coefficient_5 rfl (lv_at hl 2 rfl) ?_
  refine lv_iload_n hx hb dd_L_coefficient_6 rfl (lv_at hl 3 rfl) ?_
  refine bo_cV (bo_frR_i hM [bo_out cJ oa f]) ⟨hx, hb, hml, hown, hts⟩ (cwV 3 hts (bo_gV9 wd_775 wd_776 wd_777 wd_1 wd_778) rfl rfl rfl hd9_F_coefficient (by decide)) hK hP hD hS hA (bo_at0.cons he) rfl rfl rfl hl.1 rfl (Nat.le_of_ble_eq_true rfl) dd_L_coefficient_7 (by decide) (fun r w8 H locs hu hP hD hS => ?_)
  obtain ⟨hr, hu⟩ := hu
  subst hr
  have hP : va_P D bo_cl (bo_out cJ oa f :: w8) H := hP
  have hD : va_D A (bo_out cJ oa f :: w8) := hD
  refine lv_i2l (v := r.toInt64) hx hb dd_L_coefficient_10 rfl ?_
  refine bo_last hx hb hK hP hD hS 0 0 rfl rfl (by decide) (by decide) dd_L_coefficient_11 (fun H locs hP hD hS => ?_)
  refine lv_goto (tgt := 23) hx hb dd_L_coefficient_12 rfl ?_
  refine lv_iconst (v := nI 0) hx hb dd_L_coefficient_23 (by decide) ?_
  refine W.widen (k := bo_rmh.cells) (n := bo_rmh.slots) (by decide) (by decide) ?_
  exact hret (bo_out cJ oa (vp_updL f 0 r.toInt64) :: w8) _ _ _ _ _ hP hD hS ⟨rfl, w8, _, hu, fun _ => updL_0 _ _, rfl⟩ dd_L_coefficient_24

set_option maxHeartbeats 2000000 in
theorem h_coefficientIOB {l : Launch} {D : va_G} {cJ cI cB cY : ClassId} {fo oa : Nat} {v k hg : Int32} {f : Nat → Int64} {X : va_W} {PX : va_W → Prop} (he : bo_at0 fo 0 X) (hM : bo_x (S := va_W) "java/lang/IndexOutOfBoundsException" l D bo_cl (bo_ty cJ cI cB cY) yy_F_coefficient (bo_w yy_F_coefficient bb_F_coefficient 6 (some .int)) (bo_rmx 6 148) [.ref fo, .int v, .int k, .int hg] X (fun w1 => PX w1) id) :
    bo_h (S := va_W) l D bo_cl (bo_ty cJ cI cB cY) yy_L_coefficient (bo_wh yy_L_coefficient bb_L_coefficient 6 (some .int) [(0, 12, 15, 27), (0, 12, 19, 21)]) bo_rmh [.ref fo, .int v, .int k, .int hg, .ref oa] (bo_out cJ oa f :: X) (hpost cJ oa (nI 1) (nI 0) PX) id := by
  refine bo_enter_h (cc := bb_L_coefficient) (maxL := 6) (hh := [(0, 12, 15, 27), (0, 12, 19, 21)]) (by decide) rfl (Nat.le_of_ble_eq_true rfl) ?_
  intro p e s m args below meth c A ls Q hx hb hts hown hml hxt hhs hK hP hD hS hA hl hret
  have hl : lv_has ls 6 [(0, .ref fo), (1, .int v), (2, .int k), (3, .int hg), (4, .ref oa)] := hl
  refine lv_aload hx hb dd_L_coefficient_0 (lv_at hl 4 rfl) ?_
  refine lv_iconst (v := nI 0) hx hb dd_L_coefficient_2 (by decide) ?_
  refine lv_aload_n hx hb dd_L_coefficient_3 rfl (lv_at hl 0 rfl) ?_
  refine lv_iload_n hx hb dd_L_coefficient_4 rfl (lv_at hl 1 rfl) ?_
  refine lv_iload_n hx hb dd_L_coefficient_5 rfl (lv_at hl 2 rfl) ?_
  refine lv_iload_n hx hb dd_L_coefficient_6 rfl (lv_at hl 3 rfl) ?_
  refine bo_cX (bo_frR_x hM [bo_out cJ oa f]) ⟨hx, hb, hml, hown, hts⟩ (cwV 3 hts (bo_gV9 wd_775 wd_776 wd_777 wd_1 wd_778) rfl rfl rfl hd9_F_coefficient (by decide)) hhs (fun a c h _ => h) hK hP hD hS hA (bo_at0.cons he) rfl rfl rfl hl.1 rfl (Nat.le_of_ble_eq_true rfl) dd_L_coefficient_7 (by decide) [] (0, 12, 15, 27) [(0, 12, 19, 21)] hxt (by decide) (by decide) (hts _ (List.mem_cons_of_mem _ wd_723)) (fun q hq => absurd hq List.not_mem_nil) (fun x w8 H locs hu hP hD hS => ?_)
  have hP : va_P D bo_cl (bo_out cJ oa f :: w8) H := hP
  have hD : va_D A (bo_out cJ oa f :: w8) := hD
  refine lv_astore (lv' := [(5, .ref x), (0, .ref fo), (1, .int v), (2, .int k), (3, .int hg), (4, .ref oa)]) hx hb dd_L_coefficient_15 hl (by decide) rfl (fun ls hl => ?_)
  refine lv_iconst (v := nI 1) hx hb dd_L_coefficient_17 (by decide) ?_
  exact hret (bo_out cJ oa f :: w8) _ _ _ _ _ hP hD hS ⟨rfl, w8, _, hu, fun q => absurd q (by decide), rfl⟩ dd_L_coefficient_18

set_option maxHeartbeats 2000000 in
theorem h_coefficientARE {l : Launch} {D : va_G} {cJ cI cB cY : ClassId} {fo oa : Nat} {v k hg : Int32} {f : Nat → Int64} {X : va_W} {PX : va_W → Prop} (he : bo_at0 fo 0 X) (hM : bo_x (S := va_W) "java/lang/ArithmeticException" l D bo_cl (bo_ty cJ cI cB cY) yy_F_coefficient (bo_w yy_F_coefficient bb_F_coefficient 6 (some .int)) (bo_rmx 6 148) [.ref fo, .int v, .int k, .int hg] X (fun w1 => PX w1) id) :
    bo_h (S := va_W) l D bo_cl (bo_ty cJ cI cB cY) yy_L_coefficient (bo_wh yy_L_coefficient bb_L_coefficient 6 (some .int) [(0, 12, 15, 27), (0, 12, 19, 21)]) bo_rmh [.ref fo, .int v, .int k, .int hg, .ref oa] (bo_out cJ oa f :: X) (hpost cJ oa (nI 2) (nI 0) PX) id := by
  refine bo_enter_h (cc := bb_L_coefficient) (maxL := 6) (hh := [(0, 12, 15, 27), (0, 12, 19, 21)]) (by decide) rfl (Nat.le_of_ble_eq_true rfl) ?_
  intro p e s m args below meth c A ls Q hx hb hts hown hml hxt hhs hK hP hD hS hA hl hret
  have hl : lv_has ls 6 [(0, .ref fo), (1, .int v), (2, .int k), (3, .int hg), (4, .ref oa)] := hl
  refine lv_aload hx hb dd_L_coefficient_0 (lv_at hl 4 rfl) ?_
  refine lv_iconst (v := nI 0) hx hb dd_L_coefficient_2 (by decide) ?_
  refine lv_aload_n hx hb dd_L_coefficient_3 rfl (lv_at hl 0 rfl) ?_
  refine lv_iload_n hx hb dd_L_coefficient_4 rfl (lv_at hl 1 rfl) ?_
  refine lv_iload_n hx hb dd_L_coefficient_5 rfl (lv_at hl 2 rfl) ?_
  refine lv_iload_n hx hb dd_L_coefficient_6 rfl (lv_at hl 3 rfl) ?_
  refine bo_cX (bo_frR_x hM [bo_out cJ oa f]) ⟨hx, hb, hml, hown, hts⟩ (cwV 3 hts (bo_gV9 wd_775 wd_776 wd_777 wd_1 wd_778) rfl rfl rfl hd9_F_coefficient (by decide)) hhs (fun a c h _ => h) hK hP hD hS hA (bo_at0.cons he) rfl rfl rfl hl.1 rfl (Nat.le_of_ble_eq_true rfl) dd_L_coefficient_7 (by decide) [(0, 12, 15, 27)] (0, 12, 19, 21) [] hxt (by decide) (by decide) (hts _ (List.mem_cons_of_mem _ wd_594)) (fun q hq => by
    simp only [List.mem_cons, List.not_mem_nil, or_false] at hq
    subst hq
    exact ⟨by decide, _, (hts _ (List.mem_cons_of_mem _ wd_723)), by decide⟩) (fun x w8 H locs hu hP hD hS => ?_)
  have hP : va_P D bo_cl (bo_out cJ oa f :: w8) H := hP
  have hD : va_D A (bo_out cJ oa f :: w8) := hD
  refine lv_astore (lv' := [(5, .ref x), (0, .ref fo), (1, .int v), (2, .int k), (3, .int hg), (4, .ref oa)]) hx hb dd_L_coefficient_19 hl (by decide) rfl (fun ls hl => ?_)
  refine lv_iconst (v := nI 2) hx hb dd_L_coefficient_21 (by decide) ?_
  exact hret (bo_out cJ oa f :: w8) _ _ _ _ _ hP hD hS ⟨rfl, w8, _, hu, fun q => absurd q (by decide), rfl⟩ dd_L_coefficient_22
