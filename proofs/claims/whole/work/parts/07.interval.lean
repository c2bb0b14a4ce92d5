set_option maxHeartbeats 4000000 in
set_option maxRecDepth 100000 in
theorem c_J_floorDiv {l : Launch} {D : va_G} {cJ cI cB cY : ClassId} (x : Int64) (y : Int64) (hy : ¬ y = 0) :
    bo_l (S := Unit) l D bo_cl (bo_ty cJ cI cB cY) yy_J_floorDiv (bo_w yy_J_floorDiv bb_J_floorDiv 6 (some .long)) (bo_rm 0 0) [.long x, .long y] [] (fun r u => r = fdiv x y) (fun u => []) := by
  refine bo_enter_lF (cc := bb_J_floorDiv) (maxL := 6) (by decide +kernel) rfl (Nat.le_of_ble_eq_true rfl) ?_
  intro p e s m args below meth c A ls Q hx hb hts hown hml hK hP hD hS hA hl hret
  have hl : lv_has ls 6 [(0, .long x), (2, .long y)] := hl
  refine lv_lload_n hx hb dd_J_floorDiv_0 rfl (lv_at hl 0 rfl) ?_
  refine lv_lload_n hx hb dd_J_floorDiv_1 rfl (lv_at hl 1 rfl) ?_
  refine lv_ldiv hx hb dd_J_floorDiv_2 hy ?_
  refine lv_topl (fun v3 e3 => ?_)
  refine lv_lstore (lv' := [(4, .long v3), (0, .long x), (2, .long y)]) hx hb dd_J_floorDiv_3 hl (by decide) rfl (fun ls hl => ?_)
  refine lv_lload_n hx hb dd_J_floorDiv_5 rfl (lv_at hl 1 rfl) ?_
  refine lv_lload_n hx hb dd_J_floorDiv_6 rfl (lv_at hl 2 rfl) ?_
  refine lv_lxor hx hb dd_J_floorDiv_7 ?_
  refine lv_lconst (v := 0) hx hb dd_J_floorDiv_8 (by decide) ?_
  refine W.lcmp hx hb dd_J_floorDiv_9 ?_
  refine bo_lif_ge (tgt := 27) hx hb dd_J_floorDiv_10 rfl (fun h10 => ?_) (fun h10 => ?_)
  · refine lv_lload hx hb dd_J_floorDiv_27 (lv_at hl 0 rfl) ?_
    have hP9 := hP.sub (ws' := []) [] rfl
    have hD9 := hD.sub (ws' := []) [] (by decide) rfl
    exact hret () _ _ _ _ _ hP9 hD9 hS (by subst e3; first | exact (if_neg (fun q => h10 q.1)).symm | exact (if_neg (fun q => q.2 h19)).symm) dd_J_floorDiv_29
  · refine lv_lload hx hb dd_J_floorDiv_13 (lv_at hl 0 rfl) ?_
    refine lv_lload_n hx hb dd_J_floorDiv_15 rfl (lv_at hl 2 rfl) ?_
    refine lv_lmul hx hb dd_J_floorDiv_16 ?_
    refine lv_lload_n hx hb dd_J_floorDiv_17 rfl (lv_at hl 1 rfl) ?_
    refine W.lcmp hx hb dd_J_floorDiv_18 ?_
    refine bo_lif_eq (tgt := 27) hx hb dd_J_floorDiv_19 rfl (fun h19 => ?_) (fun h19 => ?_)
    · refine lv_lload hx hb dd_J_floorDiv_27 (lv_at hl 0 rfl) ?_
      have hP9 := hP.sub (ws' := []) [] rfl
      have hD9 := hD.sub (ws' := []) [] (by decide) rfl
      exact hret () _ _ _ _ _ hP9 hD9 hS (by subst e3; first | exact (if_neg (fun q => h10 q.1)).symm | exact (if_neg (fun q => q.2 h19)).symm) dd_J_floorDiv_29
    · refine lv_lload hx hb dd_J_floorDiv_22 (lv_at hl 0 rfl) ?_
      refine lv_lconst (v := 1) hx hb dd_J_floorDiv_24 (by decide) ?_
      refine lv_lsub hx hb dd_J_floorDiv_25 ?_
      have hP9 := hP.sub (ws' := []) [] rfl
      have hD9 := hD.sub (ws' := []) [] (by decide) rfl
      exact hret () _ _ _ _ _ hP9 hD9 hS (by subst e3; exact (if_pos ⟨h10, h19⟩).symm) dd_J_floorDiv_26

set_option maxHeartbeats 4000000 in
set_option maxRecDepth 100000 in
theorem c_I_look {l : Launch} {D : va_G} {cJ cI cB cY : ClassId} (h : Nat) (lo : Int64) (hi : Int64) (be : Int32) :
    bo_v (S := Int64 × Int64 × Int32) l D bo_cl (bo_ty cJ cI cB cY) yy_I_look (bo_w yy_I_look bb_I_look 1 none) (bo_rm 0 0) [.ref h] [(h, .inr (3, [.long lo, .long hi, .int be]))] (fun u => (u.1, u.2.1, u.2.2) = iv_look lo hi be) (fun u => [(h, .inr (3, [.long u.1, .long u.2.1, .int u.2.2]))]) := by
  refine bo_enter_v (cc := bb_I_look) (maxL := 1) (by decide) rfl (Nat.le_of_ble_eq_true rfl) ?_
  intro p e s m args below meth c A ls Q hx hb hts hown hml hK hP hD hS hA hl hret
  have hl : lv_has ls 1 [(0, .ref h)] := hl
  refine lv_aload_n hx hb dd_I_look_0 rfl (lv_at hl 0 rfl) ?_
  refine va_get (D := D) (ci := 3) (v := .long lo) (C := RR_I) (T := TT_I) (N := 3) hx hb hts (fun w h => List.mem_cons_of_mem _ (in_I w h)) hown hK hP 0 rfl rfl 0 (by decide) (hts _ (List.mem_cons_of_mem _ wd_199)) (fun _ h9 => h9) rfl dd_I_look_1 ?_
  refine lv_ldc2 (v := -1073741824) hx hb hown (hts _ (List.mem_cons_of_mem _ wd_400)) dd_I_look_4 ?_
  refine W.lcmp hx hb dd_I_look_7 ?_
  refine bo_lif_lt (tgt := 22) hx hb dd_I_look_8 rfl (fun h8 => ?_) (fun h8 => ?_)
  · refine lv_aload_n hx hb dd_I_look_22 rfl (lv_at hl 0 rfl) ?_
    refine lv_iconst (v := nI 1) hx hb dd_I_look_23 (by decide) ?_
    refine va_put (D := D) (ci := 3) (v := .int (nI 1)) (ty := .boolean) (C := RR_I) (T := TT_I) (N := 3) hx hb hts (fun w h => List.mem_cons_of_mem _ (in_I w h)) tt_I ty_I nm_I hown hK hP hD hS 0 rfl rfl 2 (by decide) (hts _ (List.mem_cons_of_mem _ wd_210)) (fun _ h9 => h9) rfl (by decide +kernel) (by decide +kernel) (by decide +kernel) (Nat.le_of_ble_eq_true rfl) dd_I_look_24 (fun H locs hP hD hS => ?_)
    have hP : va_P D bo_cl [(h, .inr (3, [.long lo, .long hi, .int (nI 1)]))] H := hP
    have hD : va_D A [(h, .inr (3, [.long lo, .long hi, .int (nI 1)]))] := hD
    refine lv_aload_n hx hb dd_I_look_27 rfl (lv_at hl 0 rfl) ?_
    refine lv_lconst (v := 0) hx hb dd_I_look_28 (by decide) ?_
    refine va_put (D := D) (ci := 3) (v := .long 0) (ty := .long) (C := RR_I) (T := TT_I) (N := 3) hx hb hts (fun w h => List.mem_cons_of_mem _ (in_I w h)) tt_I ty_I nm_I hown hK hP hD hS 0 rfl rfl 0 (by decide) (hts _ (List.mem_cons_of_mem _ wd_199)) (fun _ h9 => h9) rfl (by decide +kernel) rfl rfl (Nat.le_of_ble_eq_true rfl) dd_I_look_29 (fun H locs hP hD hS => ?_)
    have hP : va_P D bo_cl [(h, .inr (3, [.long 0, .long hi, .int (nI 1)]))] H := hP
    have hD : va_D A [(h, .inr (3, [.long 0, .long hi, .int (nI 1)]))] := hD
    refine lv_aload_n hx hb dd_I_look_32 rfl (lv_at hl 0 rfl) ?_
    refine lv_lconst (v := 0) hx hb dd_I_look_33 (by decide) ?_
    refine va_put (D := D) (ci := 3) (v := .long 0) (ty := .long) (C := RR_I) (T := TT_I) (N := 3) hx hb hts (fun w h => List.mem_cons_of_mem _ (in_I w h)) tt_I ty_I nm_I hown hK hP hD hS 0 rfl rfl 1 (by decide) (hts _ (List.mem_cons_of_mem _ wd_205)) (fun _ h9 => h9) rfl (by decide +kernel) rfl rfl (Nat.le_of_ble_eq_true rfl) dd_I_look_34 (fun H locs hP hD hS => ?_)
    have hP : va_P D bo_cl [(h, .inr (3, [.long 0, .long 0, .int (nI 1)]))] H := hP
    have hD : va_D A [(h, .inr (3, [.long 0, .long 0, .int (nI 1)]))] := hD
    have hP9 := hP.sub (ws' := [(h, .inr (3, [.long 0, .long 0, .int (nI 1)]))]) [0] rfl
    have hD9 := hD.sub (ws' := [(h, .inr (3, [.long 0, .long 0, .int (nI 1)]))]) [0] (by decide) rfl
    exact hret (0, 0, nI 1) _ _ _ _ hP9 hD9 hS (by first | rw [iv_look, if_pos (Or.inl h8)] | rw [iv_look, if_pos (Or.inr h19)] | rw [iv_look, if_neg (fun q => q.elim h8 h19)]) dd_I_look_37
  · refine lv_aload_n hx hb dd_I_look_11 rfl (lv_at hl 0 rfl) ?_
    refine va_get (D := D) (ci := 3) (v := .long hi) (C := RR_I) (T := TT_I) (N := 3) hx hb hts (fun w h => List.mem_cons_of_mem _ (in_I w h)) hown hK hP 0 rfl rfl 1 (by decide) (hts _ (List.mem_cons_of_mem _ wd_205)) (fun _ h9 => h9) rfl dd_I_look_12 ?_
    refine lv_ldc2 (v := 1073741824) hx hb hown (hts _ (List.mem_cons_of_mem _ wd_401)) dd_I_look_15 ?_
    refine W.lcmp hx hb dd_I_look_18 ?_
    refine bo_lif_le (tgt := 37) hx hb dd_I_look_19 rfl (fun h19 => ?_) (fun h19 => ?_)
    · have hP9 := hP.sub (ws' := [(h, .inr (3, [.long lo, .long hi, .int be]))]) [0] rfl
      have hD9 := hD.sub (ws' := [(h, .inr (3, [.long lo, .long hi, .int be]))]) [0] (by decide) rfl
      exact hret (lo, hi, be) _ _ _ _ hP9 hD9 hS (by first | rw [iv_look, if_pos (Or.inl h8)] | rw [iv_look, if_pos (Or.inr h19)] | rw [iv_look, if_neg (fun q => q.elim h8 h19)]) dd_I_look_37
    · refine lv_aload_n hx hb dd_I_look_22 rfl (lv_at hl 0 rfl) ?_
      refine lv_iconst (v := nI 1) hx hb dd_I_look_23 (by decide) ?_
      refine va_put (D := D) (ci := 3) (v := .int (nI 1)) (ty := .boolean) (C := RR_I) (T := TT_I) (N := 3) hx hb hts (fun w h => List.mem_cons_of_mem _ (in_I w h)) tt_I ty_I nm_I hown hK hP hD hS 0 rfl rfl 2 (by decide) (hts _ (List.mem_cons_of_mem _ wd_210)) (fun _ h9 => h9) rfl (by decide +kernel) (by decide +kernel) (by decide +kernel) (Nat.le_of_ble_eq_true rfl) dd_I_look_24 (fun H locs hP hD hS => ?_)
      have hP : va_P D bo_cl [(h, .inr (3, [.long lo, .long hi, .int (nI 1)]))] H := hP
      have hD : va_D A [(h, .inr (3, [.long lo, .long hi, .int (nI 1)]))] := hD
      refine lv_aload_n hx hb dd_I_look_27 rfl (lv_at hl 0 rfl) ?_
      refine lv_lconst (v := 0) hx hb dd_I_look_28 (by decide) ?_
      refine va_put (D := D) (ci := 3) (v := .long 0) (ty := .long) (C := RR_I) (T := TT_I) (N := 3) hx hb hts (fun w h => List.mem_cons_of_mem _ (in_I w h)) tt_I ty_I nm_I hown hK hP hD hS 0 rfl rfl 0 (by decide) (hts _ (List.mem_cons_of_mem _ wd_199)) (fun _ h9 => h9) rfl (by decide +kernel) rfl rfl (Nat.le_of_ble_eq_true rfl) dd_I_look_29 (fun H locs hP hD hS => ?_)
      have hP : va_P D bo_cl [(h, .inr (3, [.long 0, .long hi, .int (nI 1)]))] H := hP
      have hD : va_D A [(h, .inr (3, [.long 0, .long hi, .int (nI 1)]))] := hD
      refine lv_aload_n hx hb dd_I_look_32 rfl (lv_at hl 0 rfl) ?_
      refine lv_lconst (v := 0) hx hb dd_I_look_33 (by decide) ?_
      refine va_put (D := D) (ci := 3) (v := .long 0) (ty := .long) (C := RR_I) (T := TT_I) (N := 3) hx hb hts (fun w h => List.mem_cons_of_mem _ (in_I w h)) tt_I ty_I nm_I hown hK hP hD hS 0 rfl rfl 1 (by decide) (hts _ (List.mem_cons_of_mem _ wd_205)) (fun _ h9 => h9) rfl (by decide +kernel) rfl rfl (Nat.le_of_ble_eq_true rfl) dd_I_look_34 (fun H locs hP hD hS => ?_)
      have hP : va_P D bo_cl [(h, .inr (3, [.long 0, .long 0, .int (nI 1)]))] H := hP
      have hD : va_D A [(h, .inr (3, [.long 0, .long 0, .int (nI 1)]))] := hD
      have hP9 := hP.sub (ws' := [(h, .inr (3, [.long 0, .long 0, .int (nI 1)]))]) [0] rfl
      have hD9 := hD.sub (ws' := [(h, .inr (3, [.long 0, .long 0, .int (nI 1)]))]) [0] (by decide) rfl
      exact hret (0, 0, nI 1) _ _ _ _ hP9 hD9 hS (by first | rw [iv_look, if_pos (Or.inl h8)] | rw [iv_look, if_pos (Or.inr h19)] | rw [iv_look, if_neg (fun q => q.elim h8 h19)]) dd_I_look_37

set_option maxHeartbeats 4000000 in
set_option maxRecDepth 100000 in
theorem c_I_forgetBeyond {l : Launch} {D : va_G} {cJ cI cB cY : ClassId} (h : Nat) (lo : Int64) (hi : Int64) (be : Int32) :
    bo_v (S := Unit) l D bo_cl (bo_ty cJ cI cB cY) yy_I_forgetBeyond (bo_w yy_I_forgetBeyond bb_I_forgetBeyond 1 none) (bo_rm 0 0) [.ref h] [(h, .inr (3, [.long lo, .long hi, .int be]))] (fun u => True) (fun u => [(h, .inr (3, [.long lo, .long hi, .int (nI 0)]))]) := by
  refine bo_enter_v (cc := bb_I_forgetBeyond) (maxL := 1) (by decide) rfl (Nat.le_of_ble_eq_true rfl) ?_
  intro p e s m args below meth c A ls Q hx hb hts hown hml hK hP hD hS hA hl hret
  have hl : lv_has ls 1 [(0, .ref h)] := hl
  refine lv_aload_n hx hb dd_I_forgetBeyond_0 rfl (lv_at hl 0 rfl) ?_
  refine lv_iconst (v := nI 0) hx hb dd_I_forgetBeyond_1 (by decide) ?_
  refine va_put (D := D) (ci := 3) (v := .int (nI 0)) (ty := .boolean) (C := RR_I) (T := TT_I) (N := 3) hx hb hts (fun w h => List.mem_cons_of_mem _ (in_I w h)) tt_I ty_I nm_I hown hK hP hD hS 0 rfl rfl 2 (by decide) (hts _ (List.mem_cons_of_mem _ wd_210)) (fun _ h9 => h9) rfl (by decide +kernel) (by decide +kernel) (by decide +kernel) (Nat.le_of_ble_eq_true rfl) dd_I_forgetBeyond_2 (fun H locs hP hD hS => ?_)
  have hP : va_P D bo_cl [(h, .inr (3, [.long lo, .long hi, .int (nI 0)]))] H := hP
  have hD : va_D A [(h, .inr (3, [.long lo, .long hi, .int (nI 0)]))] := hD
  have hP9 := hP.sub (ws' := [(h, .inr (3, [.long lo, .long hi, .int (nI 0)]))]) [0] rfl
  have hD9 := hD.sub (ws' := [(h, .inr (3, [.long lo, .long hi, .int (nI 0)]))]) [0] (by decide) rfl
  exact hret () _ _ _ _ hP9 hD9 hS (trivial) dd_I_forgetBeyond_5

set_option maxHeartbeats 4000000 in
set_option maxRecDepth 100000 in
theorem c_I_set {l : Launch} {D : va_G} {cJ cI cB cY : ClassId} (h : Nat) (lo : Int64) (hi : Int64) (be : Int32) (nl : Int64) (nh : Int64) :
    bo_v (S := Int64 × Int64 × Int32) l D bo_cl (bo_ty cJ cI cB cY) yy_I_set (bo_w yy_I_set bb_I_set 5 none) (bo_rm 1 20) [.ref h, .long nl, .long nh] [(h, .inr (3, [.long lo, .long hi, .int be]))] (fun u => (u.1, u.2.1, u.2.2) = iv_look nl nh be) (fun u => [(h, .inr (3, [.long u.1, .long u.2.1, .int u.2.2]))]) := by
  refine bo_enter_v (cc := bb_I_set) (maxL := 5) (by decide) rfl (Nat.le_of_ble_eq_true rfl) ?_
  intro p e s m args below meth c A ls Q hx hb hts hown hml hK hP hD hS hA hl hret
  have hl : lv_has ls 5 [(0, .ref h), (1, .long nl), (3, .long nh)] := hl
  refine lv_aload_n hx hb dd_I_set_0 rfl (lv_at hl 0 rfl) ?_
  refine lv_lload_n hx hb dd_I_set_1 rfl (lv_at hl 1 rfl) ?_
  refine va_put (D := D) (ci := 3) (v := .long nl) (ty := .long) (C := RR_I) (T := TT_I) (N := 3) hx hb hts (fun w h => List.mem_cons_of_mem _ (in_I w h)) tt_I ty_I nm_I hown hK hP hD hS 0 rfl rfl 0 (by decide) (hts _ (List.mem_cons_of_mem _ wd_199)) (fun _ h9 => h9) rfl (by decide +kernel) rfl rfl (Nat.le_of_ble_eq_true rfl) dd_I_set_2 (fun H locs hP hD hS => ?_)
  have hP : va_P D bo_cl [(h, .inr (3, [.long nl, .long hi, .int be]))] H := hP
  have hD : va_D A [(h, .inr (3, [.long nl, .long hi, .int be]))] := hD
  refine lv_aload_n hx hb dd_I_set_5 rfl (lv_at hl 0 rfl) ?_
  refine lv_lload_n hx hb dd_I_set_6 rfl (lv_at hl 2 rfl) ?_
  refine va_put (D := D) (ci := 3) (v := .long nh) (ty := .long) (C := RR_I) (T := TT_I) (N := 3) hx hb hts (fun w h => List.mem_cons_of_mem _ (in_I w h)) tt_I ty_I nm_I hown hK hP hD hS 0 rfl rfl 1 (by decide) (hts _ (List.mem_cons_of_mem _ wd_205)) (fun _ h9 => h9) rfl (by decide +kernel) rfl rfl (Nat.le_of_ble_eq_true rfl) dd_I_set_7 (fun H locs hP hD hS => ?_)
  have hP : va_P D bo_cl [(h, .inr (3, [.long nl, .long nh, .int be]))] H := hP
  have hD : va_D A [(h, .inr (3, [.long nl, .long nh, .int be]))] := hD
  refine lv_aload_n hx hb dd_I_set_10 rfl (lv_at hl 0 rfl) ?_
  refine bo_gov (wr := []) (bo_rV (c_I_look (l := l) (D := D) (cJ := cJ) (cI := cI) (cB := cB) (cY := cY) h nl nh be  _) ⟨hx, hb, hml, hown, hts⟩ (cwV 0 hts (bo_gV wd_396 wd_398 wp_1 wd_10 wd_399) rfl rfl rfl hd_I_look (by decide)) hK hP hD [0] rfl (by decide) 0 3 rfl rfl rfl rfl hl.1 rfl (Nat.le_of_ble_eq_true rfl) dd_I_set_11 (by decide)) hP hD hS hA [0] [] rfl rfl (by decide) (by decide) (fun u H locs hu_11 hP hD hS => ?_)
  obtain ⟨lo1_11, hi1_11, be1_11⟩ := u
  have hu_11 : (lo1_11, hi1_11, be1_11) = iv_look nl nh be := hu_11
  have hP : va_P D bo_cl [(h, .inr (3, [.long lo1_11, .long hi1_11, .int be1_11]))] H := hP
  have hD : va_D A [(h, .inr (3, [.long lo1_11, .long hi1_11, .int be1_11]))] := hD
  have hP9 := hP.sub (ws' := [(h, .inr (3, [.long lo1_11, .long hi1_11, .int be1_11]))]) [0] rfl
  have hD9 := hD.sub (ws' := [(h, .inr (3, [.long lo1_11, .long hi1_11, .int be1_11]))]) [0] (by decide) rfl
  exact hret (lo1_11, hi1_11, be1_11) _ _ _ _ hP9 hD9 hS (by exact hu_11) dd_I_set_14

set_option maxHeartbeats 4000000 in
set_option maxRecDepth 100000 in
theorem c_I_sum {l : Launch} {D : va_G} {cJ cI cB cY : ClassId} (h : Nat) (lo : Int64) (hi : Int64) (be : Int32) (ol : Int64) (oh : Int64) :
    bo_v (S := Int64 × Int64 × Int32) l D bo_cl (bo_ty cJ cI cB cY) yy_I_sum (bo_w yy_I_sum bb_I_sum 5 none) (bo_rm 1 20) [.ref h, .long ol, .long oh] [(h, .inr (3, [.long lo, .long hi, .int be]))] (fun u => (u.1, u.2.1, u.2.2) = iv_look (lo + ol) (hi + oh) be) (fun u => [(h, .inr (3, [.long u.1, .long u.2.1, .int u.2.2]))]) := by
  refine bo_enter_v (cc := bb_I_sum) (maxL := 5) (by decide) rfl (Nat.le_of_ble_eq_true rfl) ?_
  intro p e s m args below meth c A ls Q hx hb hts hown hml hK hP hD hS hA hl hret
  have hl : lv_has ls 5 [(0, .ref h), (1, .long ol), (3, .long oh)] := hl
  refine lv_aload_n hx hb dd_I_sum_0 rfl (lv_at hl 0 rfl) ?_
  refine lv_dup hx hb dd_I_sum_1 rfl ?_
  refine va_get (D := D) (ci := 3) (v := .long lo) (C := RR_I) (T := TT_I) (N := 3) hx hb hts (fun w h => List.mem_cons_of_mem _ (in_I w h)) hown hK hP 0 rfl rfl 0 (by decide) (hts _ (List.mem_cons_of_mem _ wd_199)) (fun _ h9 => h9) rfl dd_I_sum_2 ?_
  refine lv_lload_n hx hb dd_I_sum_5 rfl (lv_at hl 1 rfl) ?_
  refine lv_ladd hx hb dd_I_sum_6 ?_
  refine lv_topl (fun v7 e7 => ?_)
  refine va_put (D := D) (ci := 3) (v := .long v7) (ty := .long) (C := RR_I) (T := TT_I) (N := 3) hx hb hts (fun w h => List.mem_cons_of_mem _ (in_I w h)) tt_I ty_I nm_I hown hK hP hD hS 0 rfl rfl 0 (by decide) (hts _ (List.mem_cons_of_mem _ wd_199)) (fun _ h9 => h9) rfl (by decide +kernel) rfl rfl (Nat.le_of_ble_eq_true rfl) dd_I_sum_7 (fun H locs hP hD hS => ?_)
  have hP : va_P D bo_cl [(h, .inr (3, [.long v7, .long hi, .int be]))] H := hP
  have hD : va_D A [(h, .inr (3, [.long v7, .long hi, .int be]))] := hD
  refine lv_aload_n hx hb dd_I_sum_10 rfl (lv_at hl 0 rfl) ?_
  refine lv_dup hx hb dd_I_sum_11 rfl ?_
  refine va_get (D := D) (ci := 3) (v := .long hi) (C := RR_I) (T := TT_I) (N := 3) hx hb hts (fun w h => List.mem_cons_of_mem _ (in_I w h)) hown hK hP 0 rfl rfl 1 (by decide) (hts _ (List.mem_cons_of_mem _ wd_205)) (fun _ h9 => h9) rfl dd_I_sum_12 ?_
  refine lv_lload_n hx hb dd_I_sum_15 rfl (lv_at hl 2 rfl) ?_
  refine lv_ladd hx hb dd_I_sum_16 ?_
  refine lv_topl (fun v17 e17 => ?_)
  refine va_put (D := D) (ci := 3) (v := .long v17) (ty := .long) (C := RR_I) (T := TT_I) (N := 3) hx hb hts (fun w h => List.mem_cons_of_mem _ (in_I w h)) tt_I ty_I nm_I hown hK hP hD hS 0 rfl rfl 1 (by decide) (hts _ (List.mem_cons_of_mem _ wd_205)) (fun _ h9 => h9) rfl (by decide +kernel) rfl rfl (Nat.le_of_ble_eq_true rfl) dd_I_sum_17 (fun H locs hP hD hS => ?_)
  have hP : va_P D bo_cl [(h, .inr (3, [.long v7, .long v17, .int be]))] H := hP
  have hD : va_D A [(h, .inr (3, [.long v7, .long v17, .int be]))] := hD
  refine lv_aload_n hx hb dd_I_sum_20 rfl (lv_at hl 0 rfl) ?_
  refine bo_gov (wr := []) (bo_rV (c_I_look (l := l) (D := D) (cJ := cJ) (cI := cI) (cB := cB) (cY := cY) h v7 v17 be  _) ⟨hx, hb, hml, hown, hts⟩ (cwV 0 hts (bo_gV wd_396 wd_398 wp_1 wd_10 wd_399) rfl rfl rfl hd_I_look (by decide)) hK hP hD [0] rfl (by decide) 0 3 rfl rfl rfl rfl hl.1 rfl (Nat.le_of_ble_eq_true rfl) dd_I_sum_21 (by decide)) hP hD hS hA [0] [] rfl rfl (by decide) (by decide) (fun u H locs hu_21 hP hD hS => ?_)
  obtain ⟨lo1_21, hi1_21, be1_21⟩ := u
  have hu_21 : (lo1_21, hi1_21, be1_21) = iv_look v7 v17 be := hu_21
  have hP : va_P D bo_cl [(h, .inr (3, [.long lo1_21, .long hi1_21, .int be1_21]))] H := hP
  have hD : va_D A [(h, .inr (3, [.long lo1_21, .long hi1_21, .int be1_21]))] := hD
  have hP9 := hP.sub (ws' := [(h, .inr (3, [.long lo1_21, .long hi1_21, .int be1_21]))]) [0] rfl
  have hD9 := hD.sub (ws' := [(h, .inr (3, [.long lo1_21, .long hi1_21, .int be1_21]))]) [0] (by decide) rfl
  exact hret (lo1_21, hi1_21, be1_21) _ _ _ _ hP9 hD9 hS (by subst_vars; exact hu_21) dd_I_sum_24

set_option maxHeartbeats 4000000 in
set_option maxRecDepth 100000 in
theorem c_I_times {l : Launch} {D : va_G} {cJ cI cB cY : ClassId} (h : Nat) (lo : Int64) (hi : Int64) (be : Int32) (ol : Int64) (oh : Int64) :
    bo_v (S := Int64 × Int64 × Int32) l D bo_cl (bo_ty cJ cI cB cY) yy_I_times (bo_w yy_I_times bb_I_times 17 none) (bo_rm 1 25) [.ref h, .long ol, .long oh] [(h, .inr (3, [.long lo, .long hi, .int be]))] (fun u => (u.1, u.2.1, u.2.2) = iv_look (tm_lo lo hi ol oh) (tm_hi lo hi ol oh) be) (fun u => [(h, .inr (3, [.long u.1, .long u.2.1, .int u.2.2]))]) := by
  refine bo_enter_v (cc := bb_I_times) (maxL := 17) (by decide) rfl (Nat.le_of_ble_eq_true rfl) ?_
  intro p e s m args below meth c A ls Q hx hb hts hown hml hK hP hD hS hA hl hret
  have hl : lv_has ls 17 [(0, .ref h), (1, .long ol), (3, .long oh)] := hl
  refine lv_aload_n hx hb dd_I_times_0 rfl (lv_at hl 0 rfl) ?_
  refine va_get (D := D) (ci := 3) (v := .long lo) (C := RR_I) (T := TT_I) (N := 3) hx hb hts (fun w h => List.mem_cons_of_mem _ (in_I w h)) hown hK hP 0 rfl rfl 0 (by decide) (hts _ (List.mem_cons_of_mem _ wd_199)) (fun _ h9 => h9) rfl dd_I_times_1 ?_
  refine lv_lload_n hx hb dd_I_times_4 rfl (lv_at hl 1 rfl) ?_
  refine lv_lmul hx hb dd_I_times_5 ?_
  refine lv_topl (fun v6 e6 => ?_)
  refine lv_lstore (lv' := [(5, .long v6), (0, .ref h), (1, .long ol), (3, .long oh)]) hx hb dd_I_times_6 hl (by decide) rfl (fun ls hl => ?_)
  refine lv_aload_n hx hb dd_I_times_8 rfl (lv_at hl 1 rfl) ?_
  refine va_get (D := D) (ci := 3) (v := .long lo) (C := RR_I) (T := TT_I) (N := 3) hx hb hts (fun w h => List.mem_cons_of_mem _ (in_I w h)) hown hK hP 0 rfl rfl 0 (by decide) (hts _ (List.mem_cons_of_mem _ wd_199)) (fun _ h9 => h9) rfl dd_I_times_9 ?_
  refine lv_lload_n hx hb dd_I_times_12 rfl (lv_at hl 3 rfl) ?_
  refine lv_lmul hx hb dd_I_times_13 ?_
  refine lv_topl (fun v14 e14 => ?_)
  refine lv_lstore (lv' := [(7, .long v14), (5, .long v6), (0, .ref h), (1, .long ol), (3, .long oh)]) hx hb dd_I_times_14 hl (by decide) rfl (fun ls hl => ?_)
  refine lv_aload_n hx hb dd_I_times_16 rfl (lv_at hl 2 rfl) ?_
  refine va_get (D := D) (ci := 3) (v := .long hi) (C := RR_I) (T := TT_I) (N := 3) hx hb hts (fun w h => List.mem_cons_of_mem _ (in_I w h)) hown hK hP 0 rfl rfl 1 (by decide) (hts _ (List.mem_cons_of_mem _ wd_205)) (fun _ h9 => h9) rfl dd_I_times_17 ?_
  refine lv_lload_n hx hb dd_I_times_20 rfl (lv_at hl 3 rfl) ?_
  refine lv_lmul hx hb dd_I_times_21 ?_
  refine lv_topl (fun v22 e22 => ?_)
  refine lv_lstore (lv' := [(9, .long v22), (7, .long v14), (5, .long v6), (0, .ref h), (1, .long ol), (3, .long oh)]) hx hb dd_I_times_22 hl (by decide) rfl (fun ls hl => ?_)
  refine lv_aload_n hx hb dd_I_times_24 rfl (lv_at hl 3 rfl) ?_
  refine va_get (D := D) (ci := 3) (v := .long hi) (C := RR_I) (T := TT_I) (N := 3) hx hb hts (fun w h => List.mem_cons_of_mem _ (in_I w h)) hown hK hP 0 rfl rfl 1 (by decide) (hts _ (List.mem_cons_of_mem _ wd_205)) (fun _ h9 => h9) rfl dd_I_times_25 ?_
  refine lv_lload_n hx hb dd_I_times_28 rfl (lv_at hl 5 rfl) ?_
  refine lv_lmul hx hb dd_I_times_29 ?_
  refine lv_topl (fun v30 e30 => ?_)
  refine lv_lstore (lv' := [(11, .long v30), (9, .long v22), (7, .long v14), (5, .long v6), (0, .ref h), (1, .long ol), (3, .long oh)]) hx hb dd_I_times_30 hl (by decide) rfl (fun ls hl => ?_)
  refine lv_lload hx hb dd_I_times_32 (lv_at hl 3 rfl) ?_
  refine lv_lload hx hb dd_I_times_34 (lv_at hl 2 rfl) ?_
  refine va_mmin_long hx hb (hml.trans hl.1.symm) hown (hts _ (List.mem_cons_of_mem _ wd_390)) (hts _ (List.mem_cons_of_mem _ wd_391)) (hts _ (List.mem_cons_of_mem _ wd_12)) (hts _ (List.mem_cons_of_mem _ wd_392)) (by decide) (Nat.le_of_ble_eq_true rfl) (by decide) (by decide) dd_I_times_36 ?_
  refine lv_lload hx hb dd_I_times_39 (lv_at hl 1 rfl) ?_
  refine lv_lload hx hb dd_I_times_41 (lv_at hl 0 rfl) ?_
  refine va_mmin_long hx hb (hml.trans hl.1.symm) hown (hts _ (List.mem_cons_of_mem _ wd_390)) (hts _ (List.mem_cons_of_mem _ wd_391)) (hts _ (List.mem_cons_of_mem _ wd_12)) (hts _ (List.mem_cons_of_mem _ wd_392)) (by decide) (Nat.le_of_ble_eq_true rfl) (by decide) (by decide) dd_I_times_43 ?_
  refine va_mmin_long hx hb (hml.trans hl.1.symm) hown (hts _ (List.mem_cons_of_mem _ wd_390)) (hts _ (List.mem_cons_of_mem _ wd_391)) (hts _ (List.mem_cons_of_mem _ wd_12)) (hts _ (List.mem_cons_of_mem _ wd_392)) (by decide) (Nat.le_of_ble_eq_true rfl) (by decide) (by decide) dd_I_times_46 ?_
  refine lv_topl (fun v49 e49 => ?_)
  refine lv_lstore (lv' := [(13, .long v49), (11, .long v30), (9, .long v22), (7, .long v14), (5, .long v6), (0, .ref h), (1, .long ol), (3, .long oh)]) hx hb dd_I_times_49 hl (by decide) rfl (fun ls hl => ?_)
  refine lv_lload hx hb dd_I_times_51 (lv_at hl 4 rfl) ?_
  refine lv_lload hx hb dd_I_times_53 (lv_at hl 3 rfl) ?_
  refine va_mmax_long hx hb (hml.trans hl.1.symm) hown (hts _ (List.mem_cons_of_mem _ wd_393)) (hts _ (List.mem_cons_of_mem _ wd_394)) (hts _ (List.mem_cons_of_mem _ wd_12)) (hts _ (List.mem_cons_of_mem _ wd_395)) (by decide) (Nat.le_of_ble_eq_true rfl) (by decide) (by decide) dd_I_times_55 ?_
  refine lv_lload hx hb dd_I_times_58 (lv_at hl 2 rfl) ?_
  refine lv_lload hx hb dd_I_times_60 (lv_at hl 1 rfl) ?_
  refine va_mmax_long hx hb (hml.trans hl.1.symm) hown (hts _ (List.mem_cons_of_mem _ wd_393)) (hts _ (List.mem_cons_of_mem _ wd_394)) (hts _ (List.mem_cons_of_mem _ wd_12)) (hts _ (List.mem_cons_of_mem _ wd_395)) (by decide) (Nat.le_of_ble_eq_true rfl) (by decide) (by decide) dd_I_times_62 ?_
  refine va_mmax_long hx hb (hml.trans hl.1.symm) hown (hts _ (List.mem_cons_of_mem _ wd_393)) (hts _ (List.mem_cons_of_mem _ wd_394)) (hts _ (List.mem_cons_of_mem _ wd_12)) (hts _ (List.mem_cons_of_mem _ wd_395)) (by decide) (Nat.le_of_ble_eq_true rfl) (by decide) (by decide) dd_I_times_65 ?_
  refine lv_topl (fun v68 e68 => ?_)
  refine lv_lstore (lv' := [(15, .long v68), (13, .long v49), (11, .long v30), (9, .long v22), (7, .long v14), (5, .long v6), (0, .ref h), (1, .long ol), (3, .long oh)]) hx hb dd_I_times_68 hl (by decide) rfl (fun ls hl => ?_)
  refine lv_aload_n hx hb dd_I_times_70 rfl (lv_at hl 6 rfl) ?_
  refine lv_lload hx hb dd_I_times_71 (lv_at hl 1 rfl) ?_
  refine lv_bipush (v := nI 20) hx hb dd_I_times_73 (by decide) ?_
  refine lv_lshr (v := v49 >>> ((nI 20).toInt64 &&& 63)) hx hb dd_I_times_75 rfl ?_
  refine lv_topl (fun v76 e76 => ?_)
  refine va_put (D := D) (ci := 3) (v := .long v76) (ty := .long) (C := RR_I) (T := TT_I) (N := 3) hx hb hts (fun w h => List.mem_cons_of_mem _ (in_I w h)) tt_I ty_I nm_I hown hK hP hD hS 0 rfl rfl 0 (by decide) (hts _ (List.mem_cons_of_mem _ wd_199)) (fun _ h9 => h9) rfl (by decide +kernel) rfl rfl (Nat.le_of_ble_eq_true rfl) dd_I_times_76 (fun H locs hP hD hS => ?_)
  have hP : va_P D bo_cl [(h, .inr (3, [.long v76, .long hi, .int be]))] H := hP
  have hD : va_D A [(h, .inr (3, [.long v76, .long hi, .int be]))] := hD
  refine lv_aload_n hx hb dd_I_times_79 rfl (lv_at hl 6 rfl) ?_
  refine lv_lload hx hb dd_I_times_80 (lv_at hl 0 rfl) ?_
  refine lv_lneg hx hb dd_I_times_82 ?_
  refine lv_bipush (v := nI 20) hx hb dd_I_times_83 (by decide) ?_
  refine lv_lshr (v := (-v68) >>> ((nI 20).toInt64 &&& 63)) hx hb dd_I_times_85 rfl ?_
  refine lv_lneg hx hb dd_I_times_86 ?_
  refine lv_topl (fun v87 e87 => ?_)
  refine va_put (D := D) (ci := 3) (v := .long v87) (ty := .long) (C := RR_I) (T := TT_I) (N := 3) hx hb hts (fun w h => List.mem_cons_of_mem _ (in_I w h)) tt_I ty_I nm_I hown hK hP hD hS 0 rfl rfl 1 (by decide) (hts _ (List.mem_cons_of_mem _ wd_205)) (fun _ h9 => h9) rfl (by decide +kernel) rfl rfl (Nat.le_of_ble_eq_true rfl) dd_I_times_87 (fun H locs hP hD hS => ?_)
  have hP : va_P D bo_cl [(h, .inr (3, [.long v76, .long v87, .int be]))] H := hP
  have hD : va_D A [(h, .inr (3, [.long v76, .long v87, .int be]))] := hD
  refine lv_aload_n hx hb dd_I_times_90 rfl (lv_at hl 6 rfl) ?_
  refine bo_gov (wr := []) (bo_rV (c_I_look (l := l) (D := D) (cJ := cJ) (cI := cI) (cB := cB) (cY := cY) h v76 v87 be  _) ⟨hx, hb, hml, hown, hts⟩ (cwV 0 hts (bo_gV wd_396 wd_398 wp_1 wd_10 wd_399) rfl rfl rfl hd_I_look (by decide)) hK hP hD [0] rfl (by decide) 0 3 rfl rfl rfl rfl hl.1 rfl (Nat.le_of_ble_eq_true rfl) dd_I_times_91 (by decide)) hP hD hS hA [0] [] rfl rfl (by decide) (by decide) (fun u H locs hu_91 hP hD hS => ?_)
  obtain ⟨lo1_91, hi1_91, be1_91⟩ := u
  have hu_91 : (lo1_91, hi1_91, be1_91) = iv_look v76 v87 be := hu_91
  have hP : va_P D bo_cl [(h, .inr (3, [.long lo1_91, .long hi1_91, .int be1_91]))] H := hP
  have hD : va_D A [(h, .inr (3, [.long lo1_91, .long hi1_91, .int be1_91]))] := hD
  have hP9 := hP.sub (ws' := [(h, .inr (3, [.long lo1_91, .long hi1_91, .int be1_91]))]) [0] rfl
  have hD9 := hD.sub (ws' := [(h, .inr (3, [.long lo1_91, .long hi1_91, .int be1_91]))]) [0] (by decide) rfl
  exact hret (lo1_91, hi1_91, be1_91) _ _ _ _ hP9 hD9 hS (by subst_vars; exact hu_91) dd_I_times_94

set_option maxHeartbeats 4000000 in
set_option maxRecDepth 100000 in
theorem c_I_over {l : Launch} {D : va_G} {cJ cI cB cY : ClassId} (h : Nat) (lo : Int64) (hi : Int64) (be : Int32) (k : Nat) (hk : ¬ (nI k).toInt64 = 0) :
    bo_v (S := Unit) l D bo_cl (bo_ty cJ cI cB cY) yy_I_over (bo_w yy_I_over bb_I_over 2 none) (bo_rm 1 25) [.ref h, .int (nI k)] [(h, .inr (3, [.long lo, .long hi, .int be]))] (fun u => True) (fun u => [(h, .inr (3, [.long (fdiv lo (nI k).toInt64), .long (-fdiv (-hi) (nI k).toInt64), .int be]))]) := by
  refine bo_enter_v (cc := bb_I_over) (maxL := 2) (by decide) rfl (Nat.le_of_ble_eq_true rfl) ?_
  intro p e s m args below meth c A ls Q hx hb hts hown hml hK hP hD hS hA hl hret
  have hl : lv_has ls 2 [(0, .ref h), (1, .int (nI k))] := hl
  refine lv_aload_n hx hb dd_I_over_0 rfl (lv_at hl 0 rfl) ?_
  refine lv_aload_n hx hb dd_I_over_1 rfl (lv_at hl 0 rfl) ?_
  refine va_get (D := D) (ci := 3) (v := .long lo) (C := RR_I) (T := TT_I) (N := 3) hx hb hts (fun w h => List.mem_cons_of_mem _ (in_I w h)) hown hK hP 0 rfl rfl 0 (by decide) (hts _ (List.mem_cons_of_mem _ wd_199)) (fun _ h9 => h9) rfl dd_I_over_2 ?_
  refine lv_iload_n hx hb dd_I_over_5 rfl (lv_at hl 1 rfl) ?_
  refine lv_i2l (v := (nI k).toInt64) hx hb dd_I_over_6 rfl ?_
  refine bo_gol (wr := [(h, .inr (3, [.long lo, .long hi, .int be]))]) (bo_rS (c_J_floorDiv (l := l) (D := D) (cJ := cJ) (cI := cI) (cB := cB) (cY := cY) lo ((nI k).toInt64) hk _) ⟨hx, hb, hml, hown, hts⟩ (va_cwS 2 hts (bo_gS2 wd_689 wd_488 wd_12 wd_489) rfl rfl rfl hd_J_floorDiv.2 (by decide)) hK hP hD [] rfl (by decide) rfl hl.1 rfl (Nat.le_of_ble_eq_true rfl) dd_I_over_7 (by decide)) hP hD hS hA [] [0] rfl rfl (by decide) (by decide) (fun r_7 u H locs hu_7 hP hD hS => ?_)
  have hu_7 : r_7 = fdiv lo ((nI k).toInt64) := hu_7
  have hP : va_P D bo_cl [(h, .inr (3, [.long lo, .long hi, .int be]))] H := hP
  have hD : va_D A [(h, .inr (3, [.long lo, .long hi, .int be]))] := hD
  subst hu_7
  refine va_put (D := D) (ci := 3) (v := .long (fdiv lo ((nI k).toInt64))) (ty := .long) (C := RR_I) (T := TT_I) (N := 3) hx hb hts (fun w h => List.mem_cons_of_mem _ (in_I w h)) tt_I ty_I nm_I hown hK hP hD hS 0 rfl rfl 0 (by decide) (hts _ (List.mem_cons_of_mem _ wd_199)) (fun _ h9 => h9) rfl (by decide +kernel) rfl rfl (Nat.le_of_ble_eq_true rfl) dd_I_over_10 (fun H locs hP hD hS => ?_)
  have hP : va_P D bo_cl [(h, .inr (3, [.long (fdiv lo ((nI k).toInt64)), .long hi, .int be]))] H := hP
  have hD : va_D A [(h, .inr (3, [.long (fdiv lo ((nI k).toInt64)), .long hi, .int be]))] := hD
  refine lv_aload_n hx hb dd_I_over_13 rfl (lv_at hl 0 rfl) ?_
  refine lv_aload_n hx hb dd_I_over_14 rfl (lv_at hl 0 rfl) ?_
  refine va_get (D := D) (ci := 3) (v := .long hi) (C := RR_I) (T := TT_I) (N := 3) hx hb hts (fun w h => List.mem_cons_of_mem _ (in_I w h)) hown hK hP 0 rfl rfl 1 (by decide) (hts _ (List.mem_cons_of_mem _ wd_205)) (fun _ h9 => h9) rfl dd_I_over_15 ?_
  refine lv_lneg hx hb dd_I_over_18 ?_
  refine lv_iload_n hx hb dd_I_over_19 rfl (lv_at hl 1 rfl) ?_
  refine lv_i2l (v := (nI k).toInt64) hx hb dd_I_over_20 rfl ?_
  refine bo_gol (wr := [(h, .inr (3, [.long (fdiv lo ((nI k).toInt64)), .long hi, .int be]))]) (bo_rS (c_J_floorDiv (l := l) (D := D) (cJ := cJ) (cI := cI) (cB := cB) (cY := cY) (-hi) ((nI k).toInt64) hk _) ⟨hx, hb, hml, hown, hts⟩ (va_cwS 2 hts (bo_gS2 wd_689 wd_488 wd_12 wd_489) rfl rfl rfl hd_J_floorDiv.2 (by decide)) hK hP hD [] rfl (by decide) rfl hl.1 rfl (Nat.le_of_ble_eq_true rfl) dd_I_over_21 (by decide)) hP hD hS hA [] [0] rfl rfl (by decide) (by decide) (fun r_21 u H locs hu_21 hP hD hS => ?_)
  have hu_21 : r_21 = fdiv (-hi) ((nI k).toInt64) := hu_21
  have hP : va_P D bo_cl [(h, .inr (3, [.long (fdiv lo ((nI k).toInt64)), .long hi, .int be]))] H := hP
  have hD : va_D A [(h, .inr (3, [.long (fdiv lo ((nI k).toInt64)), .long hi, .int be]))] := hD
  subst hu_21
  refine lv_lneg hx hb dd_I_over_24 ?_
  refine va_put (D := D) (ci := 3) (v := .long (-(fdiv (-hi) ((nI k).toInt64)))) (ty := .long) (C := RR_I) (T := TT_I) (N := 3) hx hb hts (fun w h => List.mem_cons_of_mem _ (in_I w h)) tt_I ty_I nm_I hown hK hP hD hS 0 rfl rfl 1 (by decide) (hts _ (List.mem_cons_of_mem _ wd_205)) (fun _ h9 => h9) rfl (by decide +kernel) rfl rfl (Nat.le_of_ble_eq_true rfl) dd_I_over_25 (fun H locs hP hD hS => ?_)
  have hP : va_P D bo_cl [(h, .inr (3, [.long (fdiv lo ((nI k).toInt64)), .long (-(fdiv (-hi) ((nI k).toInt64))), .int be]))] H := hP
  have hD : va_D A [(h, .inr (3, [.long (fdiv lo ((nI k).toInt64)), .long (-(fdiv (-hi) ((nI k).toInt64))), .int be]))] := hD
  have hP9 := hP.sub (ws' := [(h, .inr (3, [.long (fdiv lo (nI k).toInt64), .long (-fdiv (-hi) (nI k).toInt64), .int be]))]) [0] rfl
  have hD9 := hD.sub (ws' := [(h, .inr (3, [.long (fdiv lo (nI k).toInt64), .long (-fdiv (-hi) (nI k).toInt64), .int be]))]) [0] (by decide) rfl
  exact hret () _ _ _ _ hP9 hD9 hS (trivial) dd_I_over_28

set_option maxHeartbeats 4000000 in
set_option maxRecDepth 100000 in
theorem c_I_take {l : Launch} {D : va_G} {cJ cI cB cY : ClassId} (h : Nat) (lo : Int64) (hi : Int64) (be : Int32) (a : Nat) (la : Nat) (ha : Nat) (n : Nat) (k : Nat) (f : Nat → Int64) (g : Nat → Int64) (hk : k < n) (hn : n < 2 ^ 31) :
    bo_v (S := Unit) l D bo_cl (bo_ty cJ cI cB cY) yy_I_take (bo_w yy_I_take bb_I_take 3 none) (bo_rm 0 0) [.ref h, .ref a, .int (nI k)] [(h, .inr (3, [.long lo, .long hi, .int be])), (a, .inr (7, [.ref la, .ref ha])), (la, .inl (cJ, n, .inr (.inl f))), (ha, .inl (cJ, n, .inr (.inl g)))] (fun u => True) (fun u => [(h, .inr (3, [.long (f k), .long (g k), .int be])), (a, .inr (7, [.ref la, .ref ha])), (la, .inl (cJ, n, .inr (.inl f))), (ha, .inl (cJ, n, .inr (.inl g)))]) := by
  refine bo_enter_v (cc := bb_I_take) (maxL := 3) (by decide) rfl (Nat.le_of_ble_eq_true rfl) ?_
  intro p e s m args below meth c A ls Q hx hb hts hown hml hK hP hD hS hA hl hret
  have hl : lv_has ls 3 [(0, .ref h), (1, .ref a), (2, .int (nI k))] := hl
  refine lv_aload_n hx hb dd_I_take_0 rfl (lv_at hl 0 rfl) ?_
  refine lv_aload_n hx hb dd_I_take_1 rfl (lv_at hl 1 rfl) ?_
  refine va_get (D := D) (ci := 7) (v := .ref la) (C := RR_R) (T := TT_R) (N := 2) hx hb hts (fun w h => List.mem_cons_of_mem _ (in_R w h)) hown hK hP 1 rfl rfl 0 (by decide) (hts _ (List.mem_cons_of_mem _ wd_82)) (fun _ h9 => h9) rfl dd_I_take_2 ?_
  refine lv_iload_n hx hb dd_I_take_5 rfl (lv_at hl 2 rfl) ?_
  refine bo_lald hx hb hK hP 2 0 rfl rfl hk hn dd_I_take_6 ?_
  refine va_put (D := D) (ci := 3) (v := .long (f k)) (ty := .long) (C := RR_I) (T := TT_I) (N := 3) hx hb hts (fun w h => List.mem_cons_of_mem _ (in_I w h)) tt_I ty_I nm_I hown hK hP hD hS 0 rfl rfl 0 (by decide) (hts _ (List.mem_cons_of_mem _ wd_199)) (fun _ h9 => h9) rfl (by decide +kernel) rfl rfl (Nat.le_of_ble_eq_true rfl) dd_I_take_7 (fun H locs hP hD hS => ?_)
  have hP : va_P D bo_cl [(h, .inr (3, [.long (f k), .long hi, .int be])), (a, .inr (7, [.ref la, .ref ha])), (la, .inl (cJ, n, .inr (.inl f))), (ha, .inl (cJ, n, .inr (.inl g)))] H := hP
  have hD : va_D A [(h, .inr (3, [.long (f k), .long hi, .int be])), (a, .inr (7, [.ref la, .ref ha])), (la, .inl (cJ, n, .inr (.inl f))), (ha, .inl (cJ, n, .inr (.inl g)))] := hD
  refine lv_aload_n hx hb dd_I_take_10 rfl (lv_at hl 0 rfl) ?_
  refine lv_aload_n hx hb dd_I_take_11 rfl (lv_at hl 1 rfl) ?_
  refine va_get (D := D) (ci := 7) (v := .ref ha) (C := RR_R) (T := TT_R) (N := 2) hx hb hts (fun w h => List.mem_cons_of_mem _ (in_R w h)) hown hK hP 1 rfl rfl 1 (by decide) (hts _ (List.mem_cons_of_mem _ wd_89)) (fun _ h9 => h9) rfl dd_I_take_12 ?_
  refine lv_iload_n hx hb dd_I_take_15 rfl (lv_at hl 2 rfl) ?_
  refine bo_lald hx hb hK hP 3 0 rfl rfl hk hn dd_I_take_16 ?_
  refine va_put (D := D) (ci := 3) (v := .long (g k)) (ty := .long) (C := RR_I) (T := TT_I) (N := 3) hx hb hts (fun w h => List.mem_cons_of_mem _ (in_I w h)) tt_I ty_I nm_I hown hK hP hD hS 0 rfl rfl 1 (by decide) (hts _ (List.mem_cons_of_mem _ wd_205)) (fun _ h9 => h9) rfl (by decide +kernel) rfl rfl (Nat.le_of_ble_eq_true rfl) dd_I_take_17 (fun H locs hP hD hS => ?_)
  have hP : va_P D bo_cl [(h, .inr (3, [.long (f k), .long (g k), .int be])), (a, .inr (7, [.ref la, .ref ha])), (la, .inl (cJ, n, .inr (.inl f))), (ha, .inl (cJ, n, .inr (.inl g)))] H := hP
  have hD : va_D A [(h, .inr (3, [.long (f k), .long (g k), .int be])), (a, .inr (7, [.ref la, .ref ha])), (la, .inl (cJ, n, .inr (.inl f))), (ha, .inl (cJ, n, .inr (.inl g)))] := hD
  have hP9 := hP.sub (ws' := [(h, .inr (3, [.long (f k), .long (g k), .int be])), (a, .inr (7, [.ref la, .ref ha])), (la, .inl (cJ, n, .inr (.inl f))), (ha, .inl (cJ, n, .inr (.inl g)))]) [0, 1, 2, 3] rfl
  have hD9 := hD.sub (ws' := [(h, .inr (3, [.long (f k), .long (g k), .int be])), (a, .inr (7, [.ref la, .ref ha])), (la, .inl (cJ, n, .inr (.inl f))), (ha, .inl (cJ, n, .inr (.inl g)))]) [0, 1, 2, 3] (by decide) rfl
  exact hret () _ _ _ _ hP9 hD9 hS (trivial) dd_I_take_20

set_option maxHeartbeats 4000000 in
set_option maxRecDepth 100000 in
theorem c_R_put {l : Launch} {D : va_G} {cJ cI cB cY : ClassId} (a : Nat) (la : Nat) (ha : Nat) (n : Nat) (k : Nat) (f : Nat → Int64) (g : Nat → Int64) (h : Nat) (lo : Int64) (hi : Int64) (be : Int32) (hk : k < n) (hn : n < 2 ^ 31) :
    bo_v (S := Unit) l D bo_cl (bo_ty cJ cI cB cY) yy_R_put (bo_w yy_R_put bb_R_put 3 none) (bo_rm 0 0) [.ref a, .int (nI k), .ref h] [(a, .inr (7, [.ref la, .ref ha])), (la, .inl (cJ, n, .inr (.inl f))), (ha, .inl (cJ, n, .inr (.inl g))), (h, .inr (3, [.long lo, .long hi, .int be]))] (fun u => True) (fun u => [(a, .inr (7, [.ref la, .ref ha])), (la, .inl (cJ, n, .inr (.inl (vp_updL f k lo)))), (ha, .inl (cJ, n, .inr (.inl (vp_updL g k hi)))), (h, .inr (3, [.long lo, .long hi, .int be]))]) := by
  refine bo_enter_v (cc := bb_R_put) (maxL := 3) (by decide) rfl (Nat.le_of_ble_eq_true rfl) ?_
  intro p e s m args below meth c A ls Q hx hb hts hown hml hK hP hD hS hA hl hret
  have hl : lv_has ls 3 [(0, .ref a), (1, .int (nI k)), (2, .ref h)] := hl
  refine lv_aload_n hx hb dd_R_put_0 rfl (lv_at hl 0 rfl) ?_
  refine va_get (D := D) (ci := 7) (v := .ref la) (C := RR_R) (T := TT_R) (N := 2) hx hb hts (fun w h => List.mem_cons_of_mem _ (in_R w h)) hown hK hP 0 rfl rfl 0 (by decide) (hts _ (List.mem_cons_of_mem _ wd_78)) (fun _ h9 => h9) rfl dd_R_put_1 ?_
  refine lv_iload_n hx hb dd_R_put_4 rfl (lv_at hl 1 rfl) ?_
  refine lv_aload_n hx hb dd_R_put_5 rfl (lv_at hl 2 rfl) ?_
  refine va_get (D := D) (ci := 3) (v := .long lo) (C := RR_I) (T := TT_I) (N := 3) hx hb hts (fun w h => List.mem_cons_of_mem _ (in_I w h)) hown hK hP 3 rfl rfl 0 (by decide) (hts _ (List.mem_cons_of_mem _ wd_198)) (fun _ h9 => h9) rfl dd_R_put_6 ?_
  refine bo_last hx hb hK hP hD hS 1 0 rfl rfl hk hn dd_R_put_9 (fun H locs hP hD hS => ?_)
  have hP : va_P D bo_cl [(a, .inr (7, [.ref la, .ref ha])), (la, .inl (cJ, n, .inr (.inl (vp_updL f k lo)))), (ha, .inl (cJ, n, .inr (.inl g))), (h, .inr (3, [.long lo, .long hi, .int be]))] H := hP
  have hD : va_D A [(a, .inr (7, [.ref la, .ref ha])), (la, .inl (cJ, n, .inr (.inl (vp_updL f k lo)))), (ha, .inl (cJ, n, .inr (.inl g))), (h, .inr (3, [.long lo, .long hi, .int be]))] := hD
  refine lv_aload_n hx hb dd_R_put_10 rfl (lv_at hl 0 rfl) ?_
  refine va_get (D := D) (ci := 7) (v := .ref ha) (C := RR_R) (T := TT_R) (N := 2) hx hb hts (fun w h => List.mem_cons_of_mem _ (in_R w h)) hown hK hP 0 rfl rfl 1 (by decide) (hts _ (List.mem_cons_of_mem _ wd_85)) (fun _ h9 => h9) rfl dd_R_put_11 ?_
  refine lv_iload_n hx hb dd_R_put_14 rfl (lv_at hl 1 rfl) ?_
  refine lv_aload_n hx hb dd_R_put_15 rfl (lv_at hl 2 rfl) ?_
  refine va_get (D := D) (ci := 3) (v := .long hi) (C := RR_I) (T := TT_I) (N := 3) hx hb hts (fun w h => List.mem_cons_of_mem _ (in_I w h)) hown hK hP 3 rfl rfl 1 (by decide) (hts _ (List.mem_cons_of_mem _ wd_204)) (fun _ h9 => h9) rfl dd_R_put_16 ?_
  refine bo_last hx hb hK hP hD hS 2 0 rfl rfl hk hn dd_R_put_19 (fun H locs hP hD hS => ?_)
  have hP : va_P D bo_cl [(a, .inr (7, [.ref la, .ref ha])), (la, .inl (cJ, n, .inr (.inl (vp_updL f k lo)))), (ha, .inl (cJ, n, .inr (.inl (vp_updL g k hi)))), (h, .inr (3, [.long lo, .long hi, .int be]))] H := hP
  have hD : va_D A [(a, .inr (7, [.ref la, .ref ha])), (la, .inl (cJ, n, .inr (.inl (vp_updL f k lo)))), (ha, .inl (cJ, n, .inr (.inl (vp_updL g k hi)))), (h, .inr (3, [.long lo, .long hi, .int be]))] := hD
  have hP9 := hP.sub (ws' := [(a, .inr (7, [.ref la, .ref ha])), (la, .inl (cJ, n, .inr (.inl (vp_updL f k lo)))), (ha, .inl (cJ, n, .inr (.inl (vp_updL g k hi)))), (h, .inr (3, [.long lo, .long hi, .int be]))]) [0, 1, 2, 3] rfl
  have hD9 := hD.sub (ws' := [(a, .inr (7, [.ref la, .ref ha])), (la, .inl (cJ, n, .inr (.inl (vp_updL f k lo)))), (ha, .inl (cJ, n, .inr (.inl (vp_updL g k hi)))), (h, .inr (3, [.long lo, .long hi, .int be]))]) [0, 1, 2, 3] (by decide) rfl
  exact hret () _ _ _ _ hP9 hD9 hS (trivial) dd_R_put_20
