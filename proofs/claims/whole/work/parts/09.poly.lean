set_option maxHeartbeats 4000000 in
set_option maxRecDepth 100000 in
theorem c_R_copyFrom {l : Launch} {D : va_G} {cJ cI cB cY : ClassId} (a : Nat) (la : Nat) (ha : Nat) (n : Nat) (f : Nat → Int64) (g : Nat → Int64) (b : Nat) (lb : Nat) (kb : Nat) (f2 : Nat → Int64) (g2 : Nat → Int64) (hn : n < 2 ^ 31) :
    bo_v (S := Unit) l D bo_cl (bo_ty cJ cI cB cY) yy_R_copyFrom (bo_w yy_R_copyFrom bb_R_copyFrom 3 none) (bo_rm 1 60) [.ref a, .ref b] [(a, .inr (7, [.ref la, .ref ha])), (la, .inl (cJ, n, .inr (.inl f))), (ha, .inl (cJ, n, .inr (.inl g))), (b, .inr (7, [.ref lb, .ref kb])), (lb, .inl (cJ, n, .inr (.inl f2))), (kb, .inl (cJ, n, .inr (.inl g2)))] (fun u => True) (fun u => [(a, .inr (7, [.ref la, .ref ha])), (la, .inl (cJ, n, .inr (.inl f2))), (ha, .inl (cJ, n, .inr (.inl g2))), (b, .inr (7, [.ref lb, .ref kb])), (lb, .inl (cJ, n, .inr (.inl f2))), (kb, .inl (cJ, n, .inr (.inl g2)))]) := by
  refine bo_enter_v (cc := bb_R_copyFrom) (maxL := 3) (by decide) rfl (Nat.le_of_ble_eq_true rfl) ?_
  intro p e s m args below meth c A ls Q hx hb hts hown hml hK hP hD hS hA hl hret
  have hl : lv_has ls 3 [(0, .ref a), (1, .ref b)] := hl
  refine lv_aload_n hx hb dd_R_copyFrom_0 rfl (lv_at hl 0 rfl) ?_
  refine va_get (D := D) (ci := 7) (v := .ref la) (C := RR_R) (T := TT_R) (N := 2) hx hb hts (fun w h => List.mem_cons_of_mem _ (in_R w h)) hown hK hP 0 rfl rfl 0 (by decide) (hts _ (List.mem_cons_of_mem _ wd_78)) (fun _ h9 => h9) rfl dd_R_copyFrom_1 ?_
  refine va_alen (v := nI n) hx hb hK hP 1 0 rfl rfl rfl dd_R_copyFrom_4 ?_
  refine lv_aload_n hx hb dd_R_copyFrom_5 rfl (lv_at hl 1 rfl) ?_
  refine va_get (D := D) (ci := 7) (v := .ref lb) (C := RR_R) (T := TT_R) (N := 2) hx hb hts (fun w h => List.mem_cons_of_mem _ (in_R w h)) hown hK hP 3 rfl rfl 0 (by decide) (hts _ (List.mem_cons_of_mem _ wd_78)) (fun _ h9 => h9) rfl dd_R_copyFrom_6 ?_
  refine va_alen (v := nI n) hx hb hK hP 4 0 rfl rfl rfl dd_R_copyFrom_9 ?_
  refine va_mmin hx hb (hml.trans hl.1.symm) hown (hts _ (List.mem_cons_of_mem _ wd_359)) (hts _ (List.mem_cons_of_mem _ wd_360)) (hts _ (List.mem_cons_of_mem _ wd_12)) (hts _ (List.mem_cons_of_mem _ wd_361)) (by decide) (Nat.le_of_ble_eq_true rfl) (by decide) (by decide) dd_R_copyFrom_10 ?_
  rw [ite_self]
  refine lv_istore_n (lv' := [(2, .int (nI n)), (0, .ref a), (1, .ref b)]) hx hb dd_R_copyFrom_13 rfl hl (by decide) rfl (fun ls hl => ?_)
  refine lv_aload_n hx hb dd_R_copyFrom_14 rfl (lv_at hl 2 rfl) ?_
  refine va_get (D := D) (ci := 7) (v := .ref lb) (C := RR_R) (T := TT_R) (N := 2) hx hb hts (fun w h => List.mem_cons_of_mem _ (in_R w h)) hown hK hP 3 rfl rfl 0 (by decide) (hts _ (List.mem_cons_of_mem _ wd_78)) (fun _ h9 => h9) rfl dd_R_copyFrom_15 ?_
  refine lv_iconst (v := nI 0) hx hb dd_R_copyFrom_18 (by decide) ?_
  refine lv_aload_n hx hb dd_R_copyFrom_19 rfl (lv_at hl 1 rfl) ?_
  refine va_get (D := D) (ci := 7) (v := .ref la) (C := RR_R) (T := TT_R) (N := 2) hx hb hts (fun w h => List.mem_cons_of_mem _ (in_R w h)) hown hK hP 0 rfl rfl 0 (by decide) (hts _ (List.mem_cons_of_mem _ wd_78)) (fun _ h9 => h9) rfl dd_R_copyFrom_20 ?_
  refine lv_iconst (v := nI 0) hx hb dd_R_copyFrom_23 (by decide) ?_
  refine lv_iload_n hx hb dd_R_copyFrom_24 rfl (lv_at hl 0 rfl) ?_
  refine bo_copyl hx hb (hml.trans hl.1.symm) hown (hts _ (List.mem_cons_of_mem _ wd_362)) (hts _ (List.mem_cons_of_mem _ wd_364)) (hts _ (List.mem_cons_of_mem _ wd_363)) (hts _ (List.mem_cons_of_mem _ wd_17)) hK hP hD hS 4 1 0 0 rfl rfl rfl rfl (Nat.le_refl _) (Nat.le_refl _) hn (by decide) (Nat.le_of_ble_eq_true rfl) dd_R_copyFrom_25 (fun H locs hP hD hS => ?_)
  have hP : va_P D bo_cl [(a, .inr (7, [.ref la, .ref ha])), (la, .inl (cJ, n, .inr (.inl (va_cpy f2 f 0 0 n)))), (ha, .inl (cJ, n, .inr (.inl g))), (b, .inr (7, [.ref lb, .ref kb])), (lb, .inl (cJ, n, .inr (.inl f2))), (kb, .inl (cJ, n, .inr (.inl g2)))] H := hP
  have hD : va_D A [(a, .inr (7, [.ref la, .ref ha])), (la, .inl (cJ, n, .inr (.inl (va_cpy f2 f 0 0 n)))), (ha, .inl (cJ, n, .inr (.inl g))), (b, .inr (7, [.ref lb, .ref kb])), (lb, .inl (cJ, n, .inr (.inl f2))), (kb, .inl (cJ, n, .inr (.inl g2)))] := hD
  have hP := bo_extJ hP 1 rfl (f2) (bo_cp)
  have hD := hD.set (e := .inl (cJ, n, .inr (.inl f2))) (p := 1) rfl
  have hP : va_P D bo_cl [(a, .inr (7, [.ref la, .ref ha])), (la, .inl (cJ, n, .inr (.inl f2))), (ha, .inl (cJ, n, .inr (.inl g))), (b, .inr (7, [.ref lb, .ref kb])), (lb, .inl (cJ, n, .inr (.inl f2))), (kb, .inl (cJ, n, .inr (.inl g2)))] H := hP
  have hD : va_D A [(a, .inr (7, [.ref la, .ref ha])), (la, .inl (cJ, n, .inr (.inl f2))), (ha, .inl (cJ, n, .inr (.inl g))), (b, .inr (7, [.ref lb, .ref kb])), (lb, .inl (cJ, n, .inr (.inl f2))), (kb, .inl (cJ, n, .inr (.inl g2)))] := hD
  refine lv_aload_n hx hb dd_R_copyFrom_28 rfl (lv_at hl 2 rfl) ?_
  refine va_get (D := D) (ci := 7) (v := .ref kb) (C := RR_R) (T := TT_R) (N := 2) hx hb hts (fun w h => List.mem_cons_of_mem _ (in_R w h)) hown hK hP 3 rfl rfl 1 (by decide) (hts _ (List.mem_cons_of_mem _ wd_85)) (fun _ h9 => h9) rfl dd_R_copyFrom_29 ?_
  refine lv_iconst (v := nI 0) hx hb dd_R_copyFrom_32 (by decide) ?_
  refine lv_aload_n hx hb dd_R_copyFrom_33 rfl (lv_at hl 1 rfl) ?_
  refine va_get (D := D) (ci := 7) (v := .ref ha) (C := RR_R) (T := TT_R) (N := 2) hx hb hts (fun w h => List.mem_cons_of_mem _ (in_R w h)) hown hK hP 0 rfl rfl 1 (by decide) (hts _ (List.mem_cons_of_mem _ wd_85)) (fun _ h9 => h9) rfl dd_R_copyFrom_34 ?_
  refine lv_iconst (v := nI 0) hx hb dd_R_copyFrom_37 (by decide) ?_
  refine lv_iload_n hx hb dd_R_copyFrom_38 rfl (lv_at hl 0 rfl) ?_
  refine bo_copyl hx hb (hml.trans hl.1.symm) hown (hts _ (List.mem_cons_of_mem _ wd_362)) (hts _ (List.mem_cons_of_mem _ wd_364)) (hts _ (List.mem_cons_of_mem _ wd_363)) (hts _ (List.mem_cons_of_mem _ wd_17)) hK hP hD hS 5 2 0 0 rfl rfl rfl rfl (Nat.le_refl _) (Nat.le_refl _) hn (by decide) (Nat.le_of_ble_eq_true rfl) dd_R_copyFrom_39 (fun H locs hP hD hS => ?_)
  have hP : va_P D bo_cl [(a, .inr (7, [.ref la, .ref ha])), (la, .inl (cJ, n, .inr (.inl f2))), (ha, .inl (cJ, n, .inr (.inl (va_cpy g2 g 0 0 n)))), (b, .inr (7, [.ref lb, .ref kb])), (lb, .inl (cJ, n, .inr (.inl f2))), (kb, .inl (cJ, n, .inr (.inl g2)))] H := hP
  have hD : va_D A [(a, .inr (7, [.ref la, .ref ha])), (la, .inl (cJ, n, .inr (.inl f2))), (ha, .inl (cJ, n, .inr (.inl (va_cpy g2 g 0 0 n)))), (b, .inr (7, [.ref lb, .ref kb])), (lb, .inl (cJ, n, .inr (.inl f2))), (kb, .inl (cJ, n, .inr (.inl g2)))] := hD
  have hP := bo_extJ hP 2 rfl (g2) (bo_cp)
  have hD := hD.set (e := .inl (cJ, n, .inr (.inl g2))) (p := 2) rfl
  have hP : va_P D bo_cl [(a, .inr (7, [.ref la, .ref ha])), (la, .inl (cJ, n, .inr (.inl f2))), (ha, .inl (cJ, n, .inr (.inl g2))), (b, .inr (7, [.ref lb, .ref kb])), (lb, .inl (cJ, n, .inr (.inl f2))), (kb, .inl (cJ, n, .inr (.inl g2)))] H := hP
  have hD : va_D A [(a, .inr (7, [.ref la, .ref ha])), (la, .inl (cJ, n, .inr (.inl f2))), (ha, .inl (cJ, n, .inr (.inl g2))), (b, .inr (7, [.ref lb, .ref kb])), (lb, .inl (cJ, n, .inr (.inl f2))), (kb, .inl (cJ, n, .inr (.inl g2)))] := hD
  have hP9 := hP.sub (ws' := [(a, .inr (7, [.ref la, .ref ha])), (la, .inl (cJ, n, .inr (.inl f2))), (ha, .inl (cJ, n, .inr (.inl g2))), (b, .inr (7, [.ref lb, .ref kb])), (lb, .inl (cJ, n, .inr (.inl f2))), (kb, .inl (cJ, n, .inr (.inl g2)))]) [0, 1, 2, 3, 4, 5] rfl
  have hD9 := hD.sub (ws' := [(a, .inr (7, [.ref la, .ref ha])), (la, .inl (cJ, n, .inr (.inl f2))), (ha, .inl (cJ, n, .inr (.inl g2))), (b, .inr (7, [.ref lb, .ref kb])), (lb, .inl (cJ, n, .inr (.inl f2))), (kb, .inl (cJ, n, .inr (.inl g2)))]) [0, 1, 2, 3, 4, 5] (by decide) rfl
  exact hret () _ _ _ _ hP9 hD9 hS (trivial) dd_R_copyFrom_42

set_option maxHeartbeats 4000000 in
set_option maxRecDepth 100000 in
theorem c_R_clear {l : Launch} {D : va_G} {cJ cI cB cY : ClassId} (a : Nat) (la : Nat) (ha : Nat) (n : Nat) (f : Nat → Int64) (g : Nat → Int64) (hn : n < 2 ^ 31) :
    bo_v (S := Unit) l D bo_cl (bo_ty cJ cI cB cY) yy_R_clear (bo_w yy_R_clear bb_R_clear 2 none) (bo_rm 0 0) [.ref a] [(a, .inr (7, [.ref la, .ref ha])), (la, .inl (cJ, n, .inr (.inl f))), (ha, .inl (cJ, n, .inr (.inl g)))] (fun u => True) (fun u => [(a, .inr (7, [.ref la, .ref ha])), (la, .inl (cJ, n, .inr (.inl (fun _ => 0)))), (ha, .inl (cJ, n, .inr (.inl (fun _ => 0))))]) := by
  refine bo_enter_v (cc := bb_R_clear) (maxL := 2) (by decide) rfl (Nat.le_of_ble_eq_true rfl) ?_
  intro p e s m args below meth c A ls Q hx hb hts hown hml hK hP hD hS hA hl hret
  have hl : lv_has ls 2 [(0, .ref a)] := hl
  refine lv_iconst (v := nI 0) hx hb dd_R_clear_0 (by decide) ?_
  refine lv_istore_n (lv' := [(1, .int (nI 0)), (0, .ref a)]) hx hb dd_R_clear_1 rfl hl (by decide) rfl (fun ls hl => ?_)
  have lo2 : ∀ (fu : Nat) (i : Nat) (f1 : Nat → Int64) (g1 : Nat → Int64) (hi : i ≤ n) (hf : ∀ j, j < i → f1 j = 0) (hg : ∀ j, j < i → g1 j = 0) (ls : Array Slot) (H : Heap) (locs : List Loc), (n - i) < fu → lv_has ls 2 [(0, .ref a), (1, .int (nI i))] → va_P D bo_cl [(a, .inr (7, [.ref la, .ref ha])), (la, .inl (cJ, n, .inr (.inl f1))), (ha, .inl (cJ, n, .inr (.inl g1)))] H → va_D A [(a, .inr (7, [.ref la, .ref ha])), (la, .inl (cJ, n, .inr (.inl f1))), (ha, .inl (cJ, n, .inr (.inl g1)))] → va_S A s.heap H locs → W p l e (bo_rm 0 0) s m args below meth c H locs 0 0 Q (F0 m 2 ls []) := by
    intro fu2
    induction fu2 with
    | zero => intro i f1 g1 hi hf hg ls H locs hfu; exact absurd hfu (Nat.not_lt_zero _)
    | succ fu2 ih2 =>
      intro i f1 g1 hi hf hg ls H locs hfu2 hl hP hD hS
      refine lv_iload_n hx hb dd_R_clear_2 rfl (lv_at hl 1 rfl) ?_
      refine lv_aload_n hx hb dd_R_clear_3 rfl (lv_at hl 0 rfl) ?_
      refine va_get (D := D) (ci := 7) (v := .ref la) (C := RR_R) (T := TT_R) (N := 2) hx hb hts (fun w h => List.mem_cons_of_mem _ (in_R w h)) hown hK hP 0 rfl rfl 0 (by decide) (hts _ (List.mem_cons_of_mem _ wd_78)) (fun _ h9 => h9) rfl dd_R_clear_4 ?_
      refine va_alen (v := nI n) hx hb hK hP 1 0 rfl rfl rfl dd_R_clear_7 ?_
      refine bo_icmp_ge (tgt := 31) hx hb dd_R_clear_8 rfl (by omega) (by omega) (fun h8 => ?_) (fun h8 => ?_)
      · have hP := bo_extJ hP 1 rfl (fun _ => 0) (fun j hj => hf j (by omega))
        have hD := hD.set (e := .inl (cJ, n, .inr (.inl (fun _ => 0)))) (p := 1) rfl
        have hP : va_P D bo_cl [(a, .inr (7, [.ref la, .ref ha])), (la, .inl (cJ, n, .inr (.inl (fun _ => 0)))), (ha, .inl (cJ, n, .inr (.inl g1)))] H := hP
        have hD : va_D A [(a, .inr (7, [.ref la, .ref ha])), (la, .inl (cJ, n, .inr (.inl (fun _ => 0)))), (ha, .inl (cJ, n, .inr (.inl g1)))] := hD
        have hP := bo_extJ hP 2 rfl (fun _ => 0) (fun j hj => hg j (by omega))
        have hD := hD.set (e := .inl (cJ, n, .inr (.inl (fun _ => 0)))) (p := 2) rfl
        have hP : va_P D bo_cl [(a, .inr (7, [.ref la, .ref ha])), (la, .inl (cJ, n, .inr (.inl (fun _ => 0)))), (ha, .inl (cJ, n, .inr (.inl (fun _ => 0))))] H := hP
        have hD : va_D A [(a, .inr (7, [.ref la, .ref ha])), (la, .inl (cJ, n, .inr (.inl (fun _ => 0)))), (ha, .inl (cJ, n, .inr (.inl (fun _ => 0))))] := hD
        have hP9 := hP.sub (ws' := [(a, .inr (7, [.ref la, .ref ha])), (la, .inl (cJ, n, .inr (.inl (fun _ => 0)))), (ha, .inl (cJ, n, .inr (.inl (fun _ => 0))))]) [0, 1, 2] rfl
        have hD9 := hD.sub (ws' := [(a, .inr (7, [.ref la, .ref ha])), (la, .inl (cJ, n, .inr (.inl (fun _ => 0)))), (ha, .inl (cJ, n, .inr (.inl (fun _ => 0))))]) [0, 1, 2] (by decide) rfl
        exact hret () _ _ _ _ hP9 hD9 hS (trivial) dd_R_clear_31
      · refine lv_aload_n hx hb dd_R_clear_11 rfl (lv_at hl 0 rfl) ?_
        refine va_get (D := D) (ci := 7) (v := .ref la) (C := RR_R) (T := TT_R) (N := 2) hx hb hts (fun w h => List.mem_cons_of_mem _ (in_R w h)) hown hK hP 0 rfl rfl 0 (by decide) (hts _ (List.mem_cons_of_mem _ wd_78)) (fun _ h9 => h9) rfl dd_R_clear_12 ?_
        refine lv_iload_n hx hb dd_R_clear_15 rfl (lv_at hl 1 rfl) ?_
        refine lv_lconst (v := 0) hx hb dd_R_clear_16 (by decide) ?_
        refine bo_last hx hb hK hP hD hS 1 0 rfl rfl (by omega) hn dd_R_clear_17 (fun H locs hP hD hS => ?_)
        have hP : va_P D bo_cl [(a, .inr (7, [.ref la, .ref ha])), (la, .inl (cJ, n, .inr (.inl (vp_updL f1 i 0)))), (ha, .inl (cJ, n, .inr (.inl g1)))] H := hP
        have hD : va_D A [(a, .inr (7, [.ref la, .ref ha])), (la, .inl (cJ, n, .inr (.inl (vp_updL f1 i 0)))), (ha, .inl (cJ, n, .inr (.inl g1)))] := hD
        refine lv_aload_n hx hb dd_R_clear_18 rfl (lv_at hl 0 rfl) ?_
        refine va_get (D := D) (ci := 7) (v := .ref ha) (C := RR_R) (T := TT_R) (N := 2) hx hb hts (fun w h => List.mem_cons_of_mem _ (in_R w h)) hown hK hP 0 rfl rfl 1 (by decide) (hts _ (List.mem_cons_of_mem _ wd_85)) (fun _ h9 => h9) rfl dd_R_clear_19 ?_
        refine lv_iload_n hx hb dd_R_clear_22 rfl (lv_at hl 1 rfl) ?_
        refine lv_lconst (v := 0) hx hb dd_R_clear_23 (by decide) ?_
        refine bo_last hx hb hK hP hD hS 2 0 rfl rfl (by omega) hn dd_R_clear_24 (fun H locs hP hD hS => ?_)
        have hP : va_P D bo_cl [(a, .inr (7, [.ref la, .ref ha])), (la, .inl (cJ, n, .inr (.inl (vp_updL f1 i 0)))), (ha, .inl (cJ, n, .inr (.inl (vp_updL g1 i 0))))] H := hP
        have hD : va_D A [(a, .inr (7, [.ref la, .ref ha])), (la, .inl (cJ, n, .inr (.inl (vp_updL f1 i 0)))), (ha, .inl (cJ, n, .inr (.inl (vp_updL g1 i 0))))] := hD
        refine lv_iinc (k := 1) (x := nI i) (v := nI (i + 1)) (lv' := [(1, .int (nI (i + 1))), (0, .ref a)]) hx hb dd_R_clear_25 hl rfl (nI_add _ 1) (by decide) rfl (fun ls hl => ?_)
        refine lv_goto (tgt := 2) hx hb dd_R_clear_28 rfl ?_
        have hl8 := lv_sub (l' := [(0, .ref a), (1, .int (nI (i + 1)))]) hl [1, 0] rfl
        have hP8 := hP.sub (ws' := [(a, .inr (7, [.ref la, .ref ha])), (la, .inl (cJ, n, .inr (.inl (vp_updL f1 i 0)))), (ha, .inl (cJ, n, .inr (.inl (vp_updL g1 i 0))))]) [0, 1, 2] rfl
        have hD8 := hD.sub (ws' := [(a, .inr (7, [.ref la, .ref ha])), (la, .inl (cJ, n, .inr (.inl (vp_updL f1 i 0)))), (ha, .inl (cJ, n, .inr (.inl (vp_updL g1 i 0))))]) [0, 1, 2] (by decide) rfl
        exact ih2 (i + 1) (vp_updL f1 i 0) (vp_updL g1 i 0) (by omega) (by exact up0_J hf) (by exact up0_J hg) _ _ _ (by omega) hl8 hP8 hD8 hS
  have hl8 := lv_sub (l' := [(0, .ref a), (1, .int (nI 0))]) hl [1, 0] rfl
  have hP8 := hP.sub (ws' := [(a, .inr (7, [.ref la, .ref ha])), (la, .inl (cJ, n, .inr (.inl f))), (ha, .inl (cJ, n, .inr (.inl g)))]) [0, 1, 2] rfl
  have hD8 := hD.sub (ws' := [(a, .inr (7, [.ref la, .ref ha])), (la, .inl (cJ, n, .inr (.inl f))), (ha, .inl (cJ, n, .inr (.inl g)))]) [0, 1, 2] (by decide) rfl
  exact lo2 ((n - 0) + 1) 0 f g (by omega) (by intro j hj; omega) (by intro j hj; omega) _ _ _ (Nat.lt_succ_self _) hl8 hP8 hD8 hS

set_option maxHeartbeats 4000000 in
set_option maxRecDepth 100000 in
theorem c_Y_power {l : Launch} {D : va_G} {cJ cI cB cY : ClassId} (y : Nat) (yr : Nat) (yl : Nat) (yh : Nat) (yp : Nat) (nt : Nat) (f : Nat → Int64) (g : Nat → Int64) (pw : Nat → Nat) (t : Nat) (v : Nat) (ht : t * 3 + v < 36) :
    bo_i (S := Unit) l D bo_cl (bo_ty cJ cI cB cY) yy_Y_power (bo_w yy_Y_power bb_Y_power 3 (some .int)) (bo_rm 0 0) [.ref y, .int (nI t), .int (nI v)] [(y, .inr (5, [.ref yr, .ref yp, .int (nI nt)])), (yr, .inr (7, [.ref yl, .ref yh])), (yl, .inl (cJ, 12, .inr (.inl f))), (yh, .inl (cJ, 12, .inr (.inl g))), (yp, .inl (cI, 36, .inl (fun i => nI (pw i))))] (fun r u => r = nI (pw (t * 3 + v))) (fun u => [(y, .inr (5, [.ref yr, .ref yp, .int (nI nt)])), (yr, .inr (7, [.ref yl, .ref yh])), (yl, .inl (cJ, 12, .inr (.inl f))), (yh, .inl (cJ, 12, .inr (.inl g))), (yp, .inl (cI, 36, .inl (fun i => nI (pw i))))]) := by
  refine bo_enter_i (cc := bb_Y_power) (maxL := 3) (by decide) rfl (Nat.le_of_ble_eq_true rfl) ?_
  intro p e s m args below meth c A ls Q hx hb hts hown hml hK hP hD hS hA hl hret
  have hl : lv_has ls 3 [(0, .ref y), (1, .int (nI t)), (2, .int (nI v))] := hl
  refine lv_aload_n hx hb dd_Y_power_0 rfl (lv_at hl 0 rfl) ?_
  refine va_get (D := D) (ci := 5) (v := .ref yp) (C := RR_Y) (T := TT_Y) (N := 3) hx hb hts (fun w h => List.mem_cons_of_mem _ (in_Y w h)) hown hK hP 0 rfl rfl 1 (by decide) (hts _ (List.mem_cons_of_mem _ wd_100)) (fun _ h9 => h9) rfl dd_Y_power_1 ?_
  refine lv_iload_n hx hb dd_Y_power_4 rfl (lv_at hl 1 rfl) ?_
  refine lv_iconst (v := nI 3) hx hb dd_Y_power_5 (by decide) ?_
  refine bo_imul hx hb dd_Y_power_6 ?_
  refine lv_iload_n hx hb dd_Y_power_7 rfl (lv_at hl 2 rfl) ?_
  refine bo_iadd hx hb dd_Y_power_8 ?_
  refine bo_iald hx hb hK hP 4 1 rfl rfl (by omega) (by decide) dd_Y_power_9 ?_
  have hP9 := hP.sub (ws' := [(y, .inr (5, [.ref yr, .ref yp, .int (nI nt)])), (yr, .inr (7, [.ref yl, .ref yh])), (yl, .inl (cJ, 12, .inr (.inl f))), (yh, .inl (cJ, 12, .inr (.inl g))), (yp, .inl (cI, 36, .inl (fun i => nI (pw i))))]) [0, 1, 2, 3, 4] rfl
  have hD9 := hD.sub (ws' := [(y, .inr (5, [.ref yr, .ref yp, .int (nI nt)])), (yr, .inr (7, [.ref yl, .ref yh])), (yl, .inl (cJ, 12, .inr (.inl f))), (yh, .inl (cJ, 12, .inr (.inl g))), (yp, .inl (cI, 36, .inl (fun i => nI (pw i))))]) [0, 1, 2, 3, 4] (by decide) rfl
  exact hret () _ _ _ _ _ hP9 hD9 hS (by rfl) dd_Y_power_10

set_option maxHeartbeats 4000000 in
set_option maxRecDepth 100000 in
theorem c_Y_multiplyLastTerm {l : Launch} {D : va_G} {cJ cI cB cY : ClassId} (y : Nat) (yr : Nat) (yl : Nat) (yh : Nat) (yp : Nat) (nt : Nat) (f : Nat → Int64) (g : Nat → Int64) (pw : Nat → Nat) (v : Nat) (k : Nat) (ht : 0 < nt) (hv : (nt - 1) * 3 + v < 36) :
    bo_v (S := Unit) l D bo_cl (bo_ty cJ cI cB cY) yy_Y_multiplyLastTerm (bo_w yy_Y_multiplyLastTerm bb_Y_multiplyLastTerm 3 none) (bo_rm 0 0) [.ref y, .int (nI v), .int (nI k)] [(y, .inr (5, [.ref yr, .ref yp, .int (nI nt)])), (yr, .inr (7, [.ref yl, .ref yh])), (yl, .inl (cJ, 12, .inr (.inl f))), (yh, .inl (cJ, 12, .inr (.inl g))), (yp, .inl (cI, 36, .inl (fun i => nI (pw i))))] (fun u => True) (fun u => [(y, .inr (5, [.ref yr, .ref yp, .int (nI nt)])), (yr, .inr (7, [.ref yl, .ref yh])), (yl, .inl (cJ, 12, .inr (.inl f))), (yh, .inl (cJ, 12, .inr (.inl g))), (yp, .inl (cI, 36, .inl (fun i => nI (va_up pw ((nt - 1) * 3 + v) (pw ((nt - 1) * 3 + v) + k) i))))]) := by
  refine bo_enter_v (cc := bb_Y_multiplyLastTerm) (maxL := 3) (by decide) rfl (Nat.le_of_ble_eq_true rfl) ?_
  intro p e s m args below meth c A ls Q hx hb hts hown hml hK hP hD hS hA hl hret
  have hl : lv_has ls 3 [(0, .ref y), (1, .int (nI v)), (2, .int (nI k))] := hl
  refine lv_aload_n hx hb dd_Y_multiplyLastTerm_0 rfl (lv_at hl 0 rfl) ?_
  refine va_get (D := D) (ci := 5) (v := .ref yp) (C := RR_Y) (T := TT_Y) (N := 3) hx hb hts (fun w h => List.mem_cons_of_mem _ (in_Y w h)) hown hK hP 0 rfl rfl 1 (by decide) (hts _ (List.mem_cons_of_mem _ wd_100)) (fun _ h9 => h9) rfl dd_Y_multiplyLastTerm_1 ?_
  refine lv_aload_n hx hb dd_Y_multiplyLastTerm_4 rfl (lv_at hl 0 rfl) ?_
  refine va_get (D := D) (ci := 5) (v := .int (nI nt)) (C := RR_Y) (T := TT_Y) (N := 3) hx hb hts (fun w h => List.mem_cons_of_mem _ (in_Y w h)) hown hK hP 0 rfl rfl 2 (by decide) (hts _ (List.mem_cons_of_mem _ wd_101)) (fun _ h9 => h9) rfl dd_Y_multiplyLastTerm_5 ?_
  refine lv_iconst (v := nI 1) hx hb dd_Y_multiplyLastTerm_8 (by decide) ?_
  refine bo_isub hx hb (by omega) dd_Y_multiplyLastTerm_9 ?_
  refine lv_iconst (v := nI 3) hx hb dd_Y_multiplyLastTerm_10 (by decide) ?_
  refine bo_imul hx hb dd_Y_multiplyLastTerm_11 ?_
  refine lv_iload_n hx hb dd_Y_multiplyLastTerm_12 rfl (lv_at hl 1 rfl) ?_
  refine bo_iadd hx hb dd_Y_multiplyLastTerm_13 ?_
  refine lv_dup2_11 hx hb dd_Y_multiplyLastTerm_14 rfl rfl ?_
  refine bo_iald hx hb hK hP 4 1 rfl rfl (by omega) (by decide) dd_Y_multiplyLastTerm_15 ?_
  refine lv_iload_n hx hb dd_Y_multiplyLastTerm_16 rfl (lv_at hl 2 rfl) ?_
  refine bo_iadd hx hb dd_Y_multiplyLastTerm_17 ?_
  refine bo_iast hx hb hK hP hD hS 4 1 rfl rfl (by omega) (by decide) dd_Y_multiplyLastTerm_18 (fun H locs hP hD hS => ?_)
  have hP : va_P D bo_cl [(y, .inr (5, [.ref yr, .ref yp, .int (nI nt)])), (yr, .inr (7, [.ref yl, .ref yh])), (yl, .inl (cJ, 12, .inr (.inl f))), (yh, .inl (cJ, 12, .inr (.inl g))), (yp, .inl (cI, 36, .inl (upd (fun i => nI (pw i)) (((nt - 1) * 3) + v) (nI ((pw (((nt - 1) * 3) + v)) + k)))))] H := hP
  have hD : va_D A [(y, .inr (5, [.ref yr, .ref yp, .int (nI nt)])), (yr, .inr (7, [.ref yl, .ref yh])), (yl, .inl (cJ, 12, .inr (.inl f))), (yh, .inl (cJ, 12, .inr (.inl g))), (yp, .inl (cI, 36, .inl (upd (fun i => nI (pw i)) (((nt - 1) * 3) + v) (nI ((pw (((nt - 1) * 3) + v)) + k)))))] := hD
  have hP := bo_extI hP 4 rfl (fun i => nI (va_up pw ((nt - 1) * 3 + v) (pw ((nt - 1) * 3 + v) + k) i)) (fun j _ => bo_updN _ _ _ j)
  have hD := hD.set (e := .inl (cI, 36, .inl (fun i => nI (va_up pw ((nt - 1) * 3 + v) (pw ((nt - 1) * 3 + v) + k) i)))) (p := 4) rfl
  have hP : va_P D bo_cl [(y, .inr (5, [.ref yr, .ref yp, .int (nI nt)])), (yr, .inr (7, [.ref yl, .ref yh])), (yl, .inl (cJ, 12, .inr (.inl f))), (yh, .inl (cJ, 12, .inr (.inl g))), (yp, .inl (cI, 36, .inl (fun i => nI (va_up pw ((nt - 1) * 3 + v) (pw ((nt - 1) * 3 + v) + k) i))))] H := hP
  have hD : va_D A [(y, .inr (5, [.ref yr, .ref yp, .int (nI nt)])), (yr, .inr (7, [.ref yl, .ref yh])), (yl, .inl (cJ, 12, .inr (.inl f))), (yh, .inl (cJ, 12, .inr (.inl g))), (yp, .inl (cI, 36, .inl (fun i => nI (va_up pw ((nt - 1) * 3 + v) (pw ((nt - 1) * 3 + v) + k) i))))] := hD
  have hP9 := hP.sub (ws' := [(y, .inr (5, [.ref yr, .ref yp, .int (nI nt)])), (yr, .inr (7, [.ref yl, .ref yh])), (yl, .inl (cJ, 12, .inr (.inl f))), (yh, .inl (cJ, 12, .inr (.inl g))), (yp, .inl (cI, 36, .inl (fun i => nI (va_up pw ((nt - 1) * 3 + v) (pw ((nt - 1) * 3 + v) + k) i))))]) [0, 1, 2, 3, 4] rfl
  have hD9 := hD.sub (ws' := [(y, .inr (5, [.ref yr, .ref yp, .int (nI nt)])), (yr, .inr (7, [.ref yl, .ref yh])), (yl, .inl (cJ, 12, .inr (.inl f))), (yh, .inl (cJ, 12, .inr (.inl g))), (yp, .inl (cI, 36, .inl (fun i => nI (va_up pw ((nt - 1) * 3 + v) (pw ((nt - 1) * 3 + v) + k) i))))]) [0, 1, 2, 3, 4] (by decide) rfl
  exact hret () _ _ _ _ hP9 hD9 hS (trivial) dd_Y_multiplyLastTerm_19

set_option maxHeartbeats 4000000 in
set_option maxRecDepth 100000 in
theorem c_Y_addTerm {l : Launch} {D : va_G} {cJ cI cB cY : ClassId} (y : Nat) (yr : Nat) (yl : Nat) (yh : Nat) (yp : Nat) (nt : Nat) (f : Nat → Int64) (g : Nat → Int64) (pw : Nat → Nat) (x : Nat) (y2 : Nat) (ng : Int32) (ht : nt < 12) (hy2 : ¬ (nI y2).toInt64 = 0) :
    bo_v (S := Unit) l D bo_cl (bo_ty cJ cI cB cY) yy_Y_addTerm (bo_w yy_Y_addTerm bb_Y_addTerm 9 none) (bo_rm 1 25) [.ref y, .int (nI x), .int (nI y2), .int ng] [(y, .inr (5, [.ref yr, .ref yp, .int (nI nt)])), (yr, .inr (7, [.ref yl, .ref yh])), (yl, .inl (cJ, 12, .inr (.inl f))), (yh, .inl (cJ, 12, .inr (.inl g))), (yp, .inl (cI, 36, .inl (fun i => nI (pw i))))] (fun u => True) (fun u => [(y, .inr (5, [.ref yr, .ref yp, .int (nI (nt + 1))])), (yr, .inr (7, [.ref yl, .ref yh])), (yl, .inl (cJ, 12, .inr (.inl (vp_updL f nt (if ng = 0 then tn_lo x y2 else -tn_hi x y2))))), (yh, .inl (cJ, 12, .inr (.inl (vp_updL g nt (if ng = 0 then tn_hi x y2 else -tn_lo x y2))))), (yp, .inl (cI, 36, .inl (fun i => nI (pw_new pw nt i))))]) := by
  refine bo_enter_v (cc := bb_Y_addTerm) (maxL := 9) (by decide) rfl (Nat.le_of_ble_eq_true rfl) ?_
  intro p e s m args below meth c A ls Q hx hb hts hown hml hK hP hD hS hA hl hret
  have hl : lv_has ls 9 [(0, .ref y), (1, .int (nI x)), (2, .int (nI y2)), (3, .int ng)] := hl
  refine lv_iload_n hx hb dd_Y_addTerm_0 rfl (lv_at hl 1 rfl) ?_
  refine lv_i2l (v := (nI x).toInt64) hx hb dd_Y_addTerm_1 rfl ?_
  refine lv_ldc2 (v := 1048576) hx hb hown (hts _ (List.mem_cons_of_mem _ wd_486)) dd_Y_addTerm_2 ?_
  refine lv_lmul hx hb dd_Y_addTerm_5 ?_
  refine lv_iload_n hx hb dd_Y_addTerm_6 rfl (lv_at hl 2 rfl) ?_
  refine lv_i2l (v := (nI y2).toInt64) hx hb dd_Y_addTerm_7 rfl ?_
  refine bo_gol (wr := [(y, .inr (5, [.ref yr, .ref yp, .int (nI nt)])), (yr, .inr (7, [.ref yl, .ref yh])), (yl, .inl (cJ, 12, .inr (.inl f))), (yh, .inl (cJ, 12, .inr (.inl g))), (yp, .inl (cI, 36, .inl (fun i => nI (pw i))))]) (bo_rS (c_J_floorDiv (l := l) (D := D) (cJ := cJ) (cI := cI) (cB := cB) (cY := cY) (((nI x).toInt64) * 1048576) ((nI y2).toInt64) hy2 _) ⟨hx, hb, hml, hown, hts⟩ (va_cwS 2 hts (bo_gS2 wd_487 wd_488 wd_12 wd_489) rfl rfl rfl hd_J_floorDiv.2 (by decide)) hK hP hD [] rfl (by decide) rfl hl.1 rfl (Nat.le_of_ble_eq_true rfl) dd_Y_addTerm_8 (by decide)) hP hD hS hA [] [0, 1, 2, 3, 4] rfl rfl (by decide) (by decide) (fun r_8 u H locs hu_8 hP hD hS => ?_)
  have hu_8 : r_8 = fdiv (((nI x).toInt64) * 1048576) ((nI y2).toInt64) := hu_8
  have hP : va_P D bo_cl [(y, .inr (5, [.ref yr, .ref yp, .int (nI nt)])), (yr, .inr (7, [.ref yl, .ref yh])), (yl, .inl (cJ, 12, .inr (.inl f))), (yh, .inl (cJ, 12, .inr (.inl g))), (yp, .inl (cI, 36, .inl (fun i => nI (pw i))))] H := hP
  have hD : va_D A [(y, .inr (5, [.ref yr, .ref yp, .int (nI nt)])), (yr, .inr (7, [.ref yl, .ref yh])), (yl, .inl (cJ, 12, .inr (.inl f))), (yh, .inl (cJ, 12, .inr (.inl g))), (yp, .inl (cI, 36, .inl (fun i => nI (pw i))))] := hD
  subst hu_8
  refine lv_topl (fun v11 e11 => ?_)
  refine lv_lstore (lv' := [(4, .long v11), (0, .ref y), (1, .int (nI x)), (2, .int (nI y2)), (3, .int ng)]) hx hb dd_Y_addTerm_11 hl (by decide) rfl (fun ls hl => ?_)
  refine lv_iload_n hx hb dd_Y_addTerm_13 rfl (lv_at hl 2 rfl) ?_
  refine lv_ineg hx hb dd_Y_addTerm_14 ?_
  refine lv_i2l (v := (-(nI x)).toInt64) hx hb dd_Y_addTerm_15 rfl ?_
  refine lv_ldc2 (v := 1048576) hx hb hown (hts _ (List.mem_cons_of_mem _ wd_486)) dd_Y_addTerm_16 ?_
  refine lv_lmul hx hb dd_Y_addTerm_19 ?_
  refine lv_iload_n hx hb dd_Y_addTerm_20 rfl (lv_at hl 3 rfl) ?_
  refine lv_i2l (v := (nI y2).toInt64) hx hb dd_Y_addTerm_21 rfl ?_
  refine bo_gol (wr := [(y, .inr (5, [.ref yr, .ref yp, .int (nI nt)])), (yr, .inr (7, [.ref yl, .ref yh])), (yl, .inl (cJ, 12, .inr (.inl f))), (yh, .inl (cJ, 12, .inr (.inl g))), (yp, .inl (cI, 36, .inl (fun i => nI (pw i))))]) (bo_rS (c_J_floorDiv (l := l) (D := D) (cJ := cJ) (cI := cI) (cB := cB) (cY := cY) (((-(nI x)).toInt64) * 1048576) ((nI y2).toInt64) hy2 _) ⟨hx, hb, hml, hown, hts⟩ (va_cwS 2 hts (bo_gS2 wd_487 wd_488 wd_12 wd_489) rfl rfl rfl hd_J_floorDiv.2 (by decide)) hK hP hD [] rfl (by decide) rfl hl.1 rfl (Nat.le_of_ble_eq_true rfl) dd_Y_addTerm_22 (by decide)) hP hD hS hA [] [0, 1, 2, 3, 4] rfl rfl (by decide) (by decide) (fun r_22 u H locs hu_22 hP hD hS => ?_)
  have hu_22 : r_22 = fdiv (((-(nI x)).toInt64) * 1048576) ((nI y2).toInt64) := hu_22
  have hP : va_P D bo_cl [(y, .inr (5, [.ref yr, .ref yp, .int (nI nt)])), (yr, .inr (7, [.ref yl, .ref yh])), (yl, .inl (cJ, 12, .inr (.inl f))), (yh, .inl (cJ, 12, .inr (.inl g))), (yp, .inl (cI, 36, .inl (fun i => nI (pw i))))] H := hP
  have hD : va_D A [(y, .inr (5, [.ref yr, .ref yp, .int (nI nt)])), (yr, .inr (7, [.ref yl, .ref yh])), (yl, .inl (cJ, 12, .inr (.inl f))), (yh, .inl (cJ, 12, .inr (.inl g))), (yp, .inl (cI, 36, .inl (fun i => nI (pw i))))] := hD
  subst hu_22
  refine lv_lneg hx hb dd_Y_addTerm_25 ?_
  refine lv_topl (fun v26 e26 => ?_)
  refine lv_lstore (lv' := [(6, .long v26), (4, .long v11), (0, .ref y), (1, .int (nI x)), (2, .int (nI y2)), (3, .int ng)]) hx hb dd_Y_addTerm_26 hl (by decide) rfl (fun ls hl => ?_)
  refine lv_aload_n hx hb dd_Y_addTerm_28 rfl (lv_at hl 2 rfl) ?_
  refine va_get (D := D) (ci := 5) (v := .ref yr) (C := RR_Y) (T := TT_Y) (N := 3) hx hb hts (fun w h => List.mem_cons_of_mem _ (in_Y w h)) hown hK hP 0 rfl rfl 0 (by decide) (hts _ (List.mem_cons_of_mem _ wd_98)) (fun _ h9 => h9) rfl dd_Y_addTerm_29 ?_
  refine va_get (D := D) (ci := 7) (v := .ref yl) (C := RR_R) (T := TT_R) (N := 2) hx hb hts (fun w h => List.mem_cons_of_mem _ (in_R w h)) hown hK hP 1 rfl rfl 0 (by decide) (hts _ (List.mem_cons_of_mem _ wd_79)) (fun _ h9 => h9) rfl dd_Y_addTerm_32 ?_
  refine lv_aload_n hx hb dd_Y_addTerm_35 rfl (lv_at hl 2 rfl) ?_
  refine va_get (D := D) (ci := 5) (v := .int (nI nt)) (C := RR_Y) (T := TT_Y) (N := 3) hx hb hts (fun w h => List.mem_cons_of_mem _ (in_Y w h)) hown hK hP 0 rfl rfl 2 (by decide) (hts _ (List.mem_cons_of_mem _ wd_101)) (fun _ h9 => h9) rfl dd_Y_addTerm_36 ?_
  refine lv_iload_n hx hb dd_Y_addTerm_39 rfl (lv_at hl 5 rfl) ?_
  have jn51 : ∀ (x51 : Int64) (e51 : x51 = if ng = 0 then tn_lo x y2 else -tn_hi x y2) (ls : Array Slot) (H : Heap) (locs : List Loc), lv_has ls 9 [(6, .long v26), (4, .long v11), (0, .ref y), (1, .int (nI x)), (2, .int (nI y2)), (3, .int ng)] → va_P D bo_cl [(y, .inr (5, [.ref yr, .ref yp, .int (nI nt)])), (yr, .inr (7, [.ref yl, .ref yh])), (yl, .inl (cJ, 12, .inr (.inl f))), (yh, .inl (cJ, 12, .inr (.inl g))), (yp, .inl (cI, 36, .inl (fun i => nI (pw i))))] H → va_D A [(y, .inr (5, [.ref yr, .ref yp, .int (nI nt)])), (yr, .inr (7, [.ref yl, .ref yh])), (yl, .inl (cJ, 12, .inr (.inl f))), (yh, .inl (cJ, 12, .inr (.inl g))), (yp, .inl (cI, 36, .inl (fun i => nI (pw i))))] → va_S A s.heap H locs → W p l e (bo_rm 1 25) s m args below meth c H locs 0 0 Q (F0 m 51 ls [.long x51, .int (nI nt), .ref yl]) := by
    intro x51 e51 ls H locs hl hP hD hS
    refine bo_last hx hb hK hP hD hS 2 0 rfl rfl (by omega) (by decide) dd_Y_addTerm_51 (fun H locs hP hD hS => ?_)
    have hP : va_P D bo_cl [(y, .inr (5, [.ref yr, .ref yp, .int (nI nt)])), (yr, .inr (7, [.ref yl, .ref yh])), (yl, .inl (cJ, 12, .inr (.inl (vp_updL f nt x51)))), (yh, .inl (cJ, 12, .inr (.inl g))), (yp, .inl (cI, 36, .inl (fun i => nI (pw i))))] H := hP
    have hD : va_D A [(y, .inr (5, [.ref yr, .ref yp, .int (nI nt)])), (yr, .inr (7, [.ref yl, .ref yh])), (yl, .inl (cJ, 12, .inr (.inl (vp_updL f nt x51)))), (yh, .inl (cJ, 12, .inr (.inl g))), (yp, .inl (cI, 36, .inl (fun i => nI (pw i))))] := hD
    refine lv_aload_n hx hb dd_Y_addTerm_52 rfl (lv_at hl 2 rfl) ?_
    refine va_get (D := D) (ci := 5) (v := .ref yr) (C := RR_Y) (T := TT_Y) (N := 3) hx hb hts (fun w h => List.mem_cons_of_mem _ (in_Y w h)) hown hK hP 0 rfl rfl 0 (by decide) (hts _ (List.mem_cons_of_mem _ wd_98)) (fun _ h9 => h9) rfl dd_Y_addTerm_53 ?_
    refine va_get (D := D) (ci := 7) (v := .ref yh) (C := RR_R) (T := TT_R) (N := 2) hx hb hts (fun w h => List.mem_cons_of_mem _ (in_R w h)) hown hK hP 1 rfl rfl 1 (by decide) (hts _ (List.mem_cons_of_mem _ wd_86)) (fun _ h9 => h9) rfl dd_Y_addTerm_56 ?_
    refine lv_aload_n hx hb dd_Y_addTerm_59 rfl (lv_at hl 2 rfl) ?_
    refine va_get (D := D) (ci := 5) (v := .int (nI nt)) (C := RR_Y) (T := TT_Y) (N := 3) hx hb hts (fun w h => List.mem_cons_of_mem _ (in_Y w h)) hown hK hP 0 rfl rfl 2 (by decide) (hts _ (List.mem_cons_of_mem _ wd_101)) (fun _ h9 => h9) rfl dd_Y_addTerm_60 ?_
    refine lv_iload_n hx hb dd_Y_addTerm_63 rfl (lv_at hl 5 rfl) ?_
    have jn75 : ∀ (x75 : Int64) (e75 : x75 = if ng = 0 then tn_hi x y2 else -tn_lo x y2) (ls : Array Slot) (H : Heap) (locs : List Loc), lv_has ls 9 [(6, .long v26), (4, .long v11), (0, .ref y), (1, .int (nI x)), (2, .int (nI y2)), (3, .int ng)] → va_P D bo_cl [(y, .inr (5, [.ref yr, .ref yp, .int (nI nt)])), (yr, .inr (7, [.ref yl, .ref yh])), (yl, .inl (cJ, 12, .inr (.inl (vp_updL f nt x51)))), (yh, .inl (cJ, 12, .inr (.inl g))), (yp, .inl (cI, 36, .inl (fun i => nI (pw i))))] H → va_D A [(y, .inr (5, [.ref yr, .ref yp, .int (nI nt)])), (yr, .inr (7, [.ref yl, .ref yh])), (yl, .inl (cJ, 12, .inr (.inl (vp_updL f nt x51)))), (yh, .inl (cJ, 12, .inr (.inl g))), (yp, .inl (cI, 36, .inl (fun i => nI (pw i))))] → va_S A s.heap H locs → W p l e (bo_rm 1 25) s m args below meth c H locs 0 0 Q (F0 m 75 ls [.long x75, .int (nI nt), .ref yh]) := by
      intro x75 e75 ls H locs hl hP hD hS
      refine bo_last hx hb hK hP hD hS 3 0 rfl rfl (by omega) (by decide) dd_Y_addTerm_75 (fun H locs hP hD hS => ?_)
      have hP : va_P D bo_cl [(y, .inr (5, [.ref yr, .ref yp, .int (nI nt)])), (yr, .inr (7, [.ref yl, .ref yh])), (yl, .inl (cJ, 12, .inr (.inl (vp_updL f nt x51)))), (yh, .inl (cJ, 12, .inr (.inl (vp_updL g nt x75)))), (yp, .inl (cI, 36, .inl (fun i => nI (pw i))))] H := hP
      have hD : va_D A [(y, .inr (5, [.ref yr, .ref yp, .int (nI nt)])), (yr, .inr (7, [.ref yl, .ref yh])), (yl, .inl (cJ, 12, .inr (.inl (vp_updL f nt x51)))), (yh, .inl (cJ, 12, .inr (.inl (vp_updL g nt x75)))), (yp, .inl (cI, 36, .inl (fun i => nI (pw i))))] := hD
      refine lv_iconst (v := nI 0) hx hb dd_Y_addTerm_76 (by decide) ?_
      refine lv_istore (lv' := [(8, .int (nI 0)), (6, .long v26), (4, .long v11), (0, .ref y), (1, .int (nI x)), (2, .int (nI y2)), (3, .int ng)]) hx hb dd_Y_addTerm_77 hl (by decide) rfl (fun ls hl => ?_)
      have lo79 : ∀ (fu : Nat) (v : Nat) (pf : Nat → Int32) (hv : v ≤ 3) (hpf : ∀ j, pf j = nI (if nt * 3 ≤ j ∧ j < nt * 3 + v then 0 else pw j)) (ls : Array Slot) (H : Heap) (locs : List Loc), (3 - v) < fu → lv_has ls 9 [(0, .ref y), (8, .int (nI v))] → va_P D bo_cl [(y, .inr (5, [.ref yr, .ref yp, .int (nI nt)])), (yr, .inr (7, [.ref yl, .ref yh])), (yl, .inl (cJ, 12, .inr (.inl (vp_updL f nt x51)))), (yh, .inl (cJ, 12, .inr (.inl (vp_updL g nt x75)))), (yp, .inl (cI, 36, .inl pf))] H → va_D A [(y, .inr (5, [.ref yr, .ref yp, .int (nI nt)])), (yr, .inr (7, [.ref yl, .ref yh])), (yl, .inl (cJ, 12, .inr (.inl (vp_updL f nt x51)))), (yh, .inl (cJ, 12, .inr (.inl (vp_updL g nt x75)))), (yp, .inl (cI, 36, .inl pf))] → va_S A s.heap H locs → W p l e (bo_rm 1 25) s m args below meth c H locs 0 0 Q (F0 m 79 ls []) := by
        intro fu79
        induction fu79 with
        | zero => intro v pf hv hpf ls H locs hfu; exact absurd hfu (Nat.not_lt_zero _)
        | succ fu79 ih79 =>
          intro v pf hv hpf ls H locs hfu79 hl hP hD hS
          refine lv_iload hx hb dd_Y_addTerm_79 (lv_at hl 1 rfl) ?_
          refine lv_iconst (v := nI 3) hx hb dd_Y_addTerm_81 (by decide) ?_
          refine bo_icmp_ge (tgt := 106) hx hb dd_Y_addTerm_82 rfl (by omega) (by omega) (fun h82 => ?_) (fun h82 => ?_)
          · have hP := bo_extI hP 4 rfl (fun i => nI (pw_new pw nt i)) (fun j _ => pf_end hpf (by omega) (by omega) j)
            have hD := hD.set (e := .inl (cI, 36, .inl (fun i => nI (pw_new pw nt i)))) (p := 4) rfl
            have hP : va_P D bo_cl [(y, .inr (5, [.ref yr, .ref yp, .int (nI nt)])), (yr, .inr (7, [.ref yl, .ref yh])), (yl, .inl (cJ, 12, .inr (.inl (vp_updL f nt x51)))), (yh, .inl (cJ, 12, .inr (.inl (vp_updL g nt x75)))), (yp, .inl (cI, 36, .inl (fun i => nI (pw_new pw nt i))))] H := hP
            have hD : va_D A [(y, .inr (5, [.ref yr, .ref yp, .int (nI nt)])), (yr, .inr (7, [.ref yl, .ref yh])), (yl, .inl (cJ, 12, .inr (.inl (vp_updL f nt x51)))), (yh, .inl (cJ, 12, .inr (.inl (vp_updL g nt x75)))), (yp, .inl (cI, 36, .inl (fun i => nI (pw_new pw nt i))))] := hD
            refine lv_aload_n hx hb dd_Y_addTerm_106 rfl (lv_at hl 0 rfl) ?_
            refine lv_dup hx hb dd_Y_addTerm_107 rfl ?_
            refine va_get (D := D) (ci := 5) (v := .int (nI nt)) (C := RR_Y) (T := TT_Y) (N := 3) hx hb hts (fun w h => List.mem_cons_of_mem _ (in_Y w h)) hown hK hP 0 rfl rfl 2 (by decide) (hts _ (List.mem_cons_of_mem _ wd_101)) (fun _ h9 => h9) rfl dd_Y_addTerm_108 ?_
            refine lv_iconst (v := nI 1) hx hb dd_Y_addTerm_111 (by decide) ?_
            refine bo_iadd hx hb dd_Y_addTerm_112 ?_
            refine va_put (D := D) (ci := 5) (v := .int (nI (nt + 1))) (ty := .int) (C := RR_Y) (T := TT_Y) (N := 3) hx hb hts (fun w h => List.mem_cons_of_mem _ (in_Y w h)) tt_Y ty_Y nm_Y hown hK hP hD hS 0 rfl rfl 2 (by decide) (hts _ (List.mem_cons_of_mem _ wd_101)) (fun _ h9 => h9) rfl (by decide +kernel) rfl rfl (Nat.le_of_ble_eq_true rfl) dd_Y_addTerm_113 (fun H locs hP hD hS => ?_)
            have hP : va_P D bo_cl [(y, .inr (5, [.ref yr, .ref yp, .int (nI (nt + 1))])), (yr, .inr (7, [.ref yl, .ref yh])), (yl, .inl (cJ, 12, .inr (.inl (vp_updL f nt x51)))), (yh, .inl (cJ, 12, .inr (.inl (vp_updL g nt x75)))), (yp, .inl (cI, 36, .inl (fun i => nI (pw_new pw nt i))))] H := hP
            have hD : va_D A [(y, .inr (5, [.ref yr, .ref yp, .int (nI (nt + 1))])), (yr, .inr (7, [.ref yl, .ref yh])), (yl, .inl (cJ, 12, .inr (.inl (vp_updL f nt x51)))), (yh, .inl (cJ, 12, .inr (.inl (vp_updL g nt x75)))), (yp, .inl (cI, 36, .inl (fun i => nI (pw_new pw nt i))))] := hD
            subst e51; subst e75
            have hP9 := hP.sub (ws' := [(y, .inr (5, [.ref yr, .ref yp, .int (nI (nt + 1))])), (yr, .inr (7, [.ref yl, .ref yh])), (yl, .inl (cJ, 12, .inr (.inl (vp_updL f nt (if ng = 0 then tn_lo x y2 else -tn_hi x y2))))), (yh, .inl (cJ, 12, .inr (.inl (vp_updL g nt (if ng = 0 then tn_hi x y2 else -tn_lo x y2))))), (yp, .inl (cI, 36, .inl (fun i => nI (pw_new pw nt i))))]) [0, 1, 2, 3, 4] rfl
            have hD9 := hD.sub (ws' := [(y, .inr (5, [.ref yr, .ref yp, .int (nI (nt + 1))])), (yr, .inr (7, [.ref yl, .ref yh])), (yl, .inl (cJ, 12, .inr (.inl (vp_updL f nt (if ng = 0 then tn_lo x y2 else -tn_hi x y2))))), (yh, .inl (cJ, 12, .inr (.inl (vp_updL g nt (if ng = 0 then tn_hi x y2 else -tn_lo x y2))))), (yp, .inl (cI, 36, .inl (fun i => nI (pw_new pw nt i))))]) [0, 1, 2, 3, 4] (by decide) rfl
            exact hret () _ _ _ _ hP9 hD9 hS (trivial) dd_Y_addTerm_116
          · refine lv_aload_n hx hb dd_Y_addTerm_85 rfl (lv_at hl 0 rfl) ?_
            refine va_get (D := D) (ci := 5) (v := .ref yp) (C := RR_Y) (T := TT_Y) (N := 3) hx hb hts (fun w h => List.mem_cons_of_mem _ (in_Y w h)) hown hK hP 0 rfl rfl 1 (by decide) (hts _ (List.mem_cons_of_mem _ wd_100)) (fun _ h9 => h9) rfl dd_Y_addTerm_86 ?_
            refine lv_aload_n hx hb dd_Y_addTerm_89 rfl (lv_at hl 0 rfl) ?_
            refine va_get (D := D) (ci := 5) (v := .int (nI nt)) (C := RR_Y) (T := TT_Y) (N := 3) hx hb hts (fun w h => List.mem_cons_of_mem _ (in_Y w h)) hown hK hP 0 rfl rfl 2 (by decide) (hts _ (List.mem_cons_of_mem _ wd_101)) (fun _ h9 => h9) rfl dd_Y_addTerm_90 ?_
            refine lv_iconst (v := nI 3) hx hb dd_Y_addTerm_93 (by decide) ?_
            refine bo_imul hx hb dd_Y_addTerm_94 ?_
            refine lv_iload hx hb dd_Y_addTerm_95 (lv_at hl 1 rfl) ?_
            refine bo_iadd hx hb dd_Y_addTerm_97 ?_
            refine lv_iconst (v := nI 0) hx hb dd_Y_addTerm_98 (by decide) ?_
            refine bo_iast hx hb hK hP hD hS 4 1 rfl rfl (by omega) (by decide) dd_Y_addTerm_99 (fun H locs hP hD hS => ?_)
            have hP : va_P D bo_cl [(y, .inr (5, [.ref yr, .ref yp, .int (nI nt)])), (yr, .inr (7, [.ref yl, .ref yh])), (yl, .inl (cJ, 12, .inr (.inl (vp_updL f nt x51)))), (yh, .inl (cJ, 12, .inr (.inl (vp_updL g nt x75)))), (yp, .inl (cI, 36, .inl (upd pf ((nt * 3) + v) (nI 0))))] H := hP
            have hD : va_D A [(y, .inr (5, [.ref yr, .ref yp, .int (nI nt)])), (yr, .inr (7, [.ref yl, .ref yh])), (yl, .inl (cJ, 12, .inr (.inl (vp_updL f nt x51)))), (yh, .inl (cJ, 12, .inr (.inl (vp_updL g nt x75)))), (yp, .inl (cI, 36, .inl (upd pf ((nt * 3) + v) (nI 0))))] := hD
            refine lv_iinc (k := 1) (x := nI v) (v := nI (v + 1)) (lv' := [(8, .int (nI (v + 1))), (0, .ref y)]) hx hb dd_Y_addTerm_100 hl rfl (nI_add _ 1) (by decide) rfl (fun ls hl => ?_)
            refine lv_goto (tgt := 79) hx hb dd_Y_addTerm_103 rfl ?_
            have hl8 := lv_sub (l' := [(0, .ref y), (8, .int (nI (v + 1)))]) hl [1, 0] rfl
            have hP8 := hP.sub (ws' := [(y, .inr (5, [.ref yr, .ref yp, .int (nI nt)])), (yr, .inr (7, [.ref yl, .ref yh])), (yl, .inl (cJ, 12, .inr (.inl (vp_updL f nt x51)))), (yh, .inl (cJ, 12, .inr (.inl (vp_updL g nt x75)))), (yp, .inl (cI, 36, .inl (upd pf ((nt * 3) + v) (nI 0))))]) [0, 1, 2, 3, 4] rfl
            have hD8 := hD.sub (ws' := [(y, .inr (5, [.ref yr, .ref yp, .int (nI nt)])), (yr, .inr (7, [.ref yl, .ref yh])), (yl, .inl (cJ, 12, .inr (.inl (vp_updL f nt x51)))), (yh, .inl (cJ, 12, .inr (.inl (vp_updL g nt x75)))), (yp, .inl (cI, 36, .inl (upd pf ((nt * 3) + v) (nI 0))))]) [0, 1, 2, 3, 4] (by decide) rfl
            exact ih79 (v + 1) (upd pf ((nt * 3) + v) (nI 0)) (by omega) (by exact pf_step hpf) _ _ _ (by omega) hl8 hP8 hD8 hS
      have hl8 := lv_sub (l' := [(0, .ref y), (8, .int (nI 0))]) hl [3, 0] rfl
      have hP8 := hP.sub (ws' := [(y, .inr (5, [.ref yr, .ref yp, .int (nI nt)])), (yr, .inr (7, [.ref yl, .ref yh])), (yl, .inl (cJ, 12, .inr (.inl (vp_updL f nt x51)))), (yh, .inl (cJ, 12, .inr (.inl (vp_updL g nt x75)))), (yp, .inl (cI, 36, .inl (fun i => nI (pw i))))]) [0, 1, 2, 3, 4] rfl
      have hD8 := hD.sub (ws' := [(y, .inr (5, [.ref yr, .ref yp, .int (nI nt)])), (yr, .inr (7, [.ref yl, .ref yh])), (yl, .inl (cJ, 12, .inr (.inl (vp_updL f nt x51)))), (yh, .inl (cJ, 12, .inr (.inl (vp_updL g nt x75)))), (yp, .inl (cI, 36, .inl (fun i => nI (pw i))))]) [0, 1, 2, 3, 4] (by decide) rfl
      exact lo79 ((3 - 0) + 1) 0 (fun i => nI (pw i)) (by omega) (by intro j; rw [if_neg (by omega)]) _ _ _ (Nat.lt_succ_self _) hl8 hP8 hD8 hS
    refine lv_if_eq (tgt := 73) hx hb dd_Y_addTerm_64 rfl (fun h64 => ?_) (fun h64 => ?_)
    · refine lv_lload hx hb dd_Y_addTerm_73 (lv_at hl 0 rfl) ?_
      have hl8 := lv_sub (l' := [(6, .long v26), (4, .long v11), (0, .ref y), (1, .int (nI x)), (2, .int (nI y2)), (3, .int ng)]) hl [0, 1, 2, 3, 4, 5] rfl
      have hP8 := hP.sub (ws' := [(y, .inr (5, [.ref yr, .ref yp, .int (nI nt)])), (yr, .inr (7, [.ref yl, .ref yh])), (yl, .inl (cJ, 12, .inr (.inl (vp_updL f nt x51)))), (yh, .inl (cJ, 12, .inr (.inl g))), (yp, .inl (cI, 36, .inl (fun i => nI (pw i))))]) [0, 1, 2, 3, 4] rfl
      have hD8 := hD.sub (ws' := [(y, .inr (5, [.ref yr, .ref yp, .int (nI nt)])), (yr, .inr (7, [.ref yl, .ref yh])), (yl, .inl (cJ, 12, .inr (.inl (vp_updL f nt x51)))), (yh, .inl (cJ, 12, .inr (.inl g))), (yp, .inl (cI, 36, .inl (fun i => nI (pw i))))]) [0, 1, 2, 3, 4] (by decide) rfl
      exact jn75 _ (by subst e11; subst e26; first | exact (if_pos h64).symm | exact (if_neg h64).symm) _ _ _ hl8 hP8 hD8 hS
    · refine lv_lload hx hb dd_Y_addTerm_67 (lv_at hl 1 rfl) ?_
      refine lv_lneg hx hb dd_Y_addTerm_69 ?_
      refine lv_goto (tgt := 75) hx hb dd_Y_addTerm_70 rfl ?_
      have hl8 := lv_sub (l' := [(6, .long v26), (4, .long v11), (0, .ref y), (1, .int (nI x)), (2, .int (nI y2)), (3, .int ng)]) hl [0, 1, 2, 3, 4, 5] rfl
      have hP8 := hP.sub (ws' := [(y, .inr (5, [.ref yr, .ref yp, .int (nI nt)])), (yr, .inr (7, [.ref yl, .ref yh])), (yl, .inl (cJ, 12, .inr (.inl (vp_updL f nt x51)))), (yh, .inl (cJ, 12, .inr (.inl g))), (yp, .inl (cI, 36, .inl (fun i => nI (pw i))))]) [0, 1, 2, 3, 4] rfl
      have hD8 := hD.sub (ws' := [(y, .inr (5, [.ref yr, .ref yp, .int (nI nt)])), (yr, .inr (7, [.ref yl, .ref yh])), (yl, .inl (cJ, 12, .inr (.inl (vp_updL f nt x51)))), (yh, .inl (cJ, 12, .inr (.inl g))), (yp, .inl (cI, 36, .inl (fun i => nI (pw i))))]) [0, 1, 2, 3, 4] (by decide) rfl
      exact jn75 _ (by subst e11; subst e26; first | exact (if_pos h64).symm | exact (if_neg h64).symm) _ _ _ hl8 hP8 hD8 hS
  refine lv_if_eq (tgt := 49) hx hb dd_Y_addTerm_40 rfl (fun h40 => ?_) (fun h40 => ?_)
  · refine lv_lload hx hb dd_Y_addTerm_49 (lv_at hl 1 rfl) ?_
    have hl8 := lv_sub (l' := [(6, .long v26), (4, .long v11), (0, .ref y), (1, .int (nI x)), (2, .int (nI y2)), (3, .int ng)]) hl [0, 1, 2, 3, 4, 5] rfl
    have hP8 := hP.sub (ws' := [(y, .inr (5, [.ref yr, .ref yp, .int (nI nt)])), (yr, .inr (7, [.ref yl, .ref yh])), (yl, .inl (cJ, 12, .inr (.inl f))), (yh, .inl (cJ, 12, .inr (.inl g))), (yp, .inl (cI, 36, .inl (fun i => nI (pw i))))]) [0, 1, 2, 3, 4] rfl
    have hD8 := hD.sub (ws' := [(y, .inr (5, [.ref yr, .ref yp, .int (nI nt)])), (yr, .inr (7, [.ref yl, .ref yh])), (yl, .inl (cJ, 12, .inr (.inl f))), (yh, .inl (cJ, 12, .inr (.inl g))), (yp, .inl (cI, 36, .inl (fun i => nI (pw i))))]) [0, 1, 2, 3, 4] (by decide) rfl
    exact jn51 _ (by subst e11; subst e26; first | exact (if_pos h40).symm | exact (if_neg h40).symm) _ _ _ hl8 hP8 hD8 hS
  · refine lv_lload hx hb dd_Y_addTerm_43 (lv_at hl 0 rfl) ?_
    refine lv_lneg hx hb dd_Y_addTerm_45 ?_
    refine lv_goto (tgt := 51) hx hb dd_Y_addTerm_46 rfl ?_
    have hl8 := lv_sub (l' := [(6, .long v26), (4, .long v11), (0, .ref y), (1, .int (nI x)), (2, .int (nI y2)), (3, .int ng)]) hl [0, 1, 2, 3, 4, 5] rfl
    have hP8 := hP.sub (ws' := [(y, .inr (5, [.ref yr, .ref yp, .int (nI nt)])), (yr, .inr (7, [.ref yl, .ref yh])), (yl, .inl (cJ, 12, .inr (.inl f))), (yh, .inl (cJ, 12, .inr (.inl g))), (yp, .inl (cI, 36, .inl (fun i => nI (pw i))))]) [0, 1, 2, 3, 4] rfl
    have hD8 := hD.sub (ws' := [(y, .inr (5, [.ref yr, .ref yp, .int (nI nt)])), (yr, .inr (7, [.ref yl, .ref yh])), (yl, .inl (cJ, 12, .inr (.inl f))), (yh, .inl (cJ, 12, .inr (.inl g))), (yp, .inl (cI, 36, .inl (fun i => nI (pw i))))]) [0, 1, 2, 3, 4] (by decide) rfl
    exact jn51 _ (by subst e11; subst e26; first | exact (if_pos h40).symm | exact (if_neg h40).symm) _ _ _ hl8 hP8 hD8 hS

set_option maxHeartbeats 4000000 in
set_option maxRecDepth 100000 in
theorem c_Y_value {l : Launch} {D : va_G} {cJ cI cB cY : ClassId} (y : Nat) (yr : Nat) (yl : Nat) (yh : Nat) (yp : Nat) (nt : Nat) (f : Nat → Int64) (g : Nat → Int64) (pw : Nat → Nat) (b : Nat) (lb : Nat) (kb : Nat) (bl : Nat → Int64) (bh : Nat → Int64) (h : Nat) (lo : Int64) (hi : Int64) (be : Int32) (h0 : 0 < nt) (h12 : nt ≤ 12) (hpw : ∀ t, t < nt → pSum pw t 3 ≤ 6) :
    bo_v (S := Int64 × Int64 × Int32) l D bo_cl (bo_ty cJ cI cB cY) yy_Y_value (bo_w yy_Y_value bb_Y_value 10 none) (bo_rm 2 61) [.ref y, .ref b, .ref h] [(y, .inr (5, [.ref yr, .ref yp, .int (nI nt)])), (yr, .inr (7, [.ref yl, .ref yh])), (yl, .inl (cJ, 12, .inr (.inl f))), (yh, .inl (cJ, 12, .inr (.inl g))), (yp, .inl (cI, 36, .inl (fun i => nI (pw i)))), (b, .inr (7, [.ref lb, .ref kb])), (lb, .inl (cJ, 3, .inr (.inl bl))), (kb, .inl (cJ, 3, .inr (.inl bh))), (h, .inr (3, [.long lo, .long hi, .int be]))] (fun u => (u.1, u.2.1, u.2.2) = vS iv_look f g pw bl bh be nt) (fun u => [(y, .inr (5, [.ref yr, .ref yp, .int (nI nt)])), (yr, .inr (7, [.ref yl, .ref yh])), (yl, .inl (cJ, 12, .inr (.inl f))), (yh, .inl (cJ, 12, .inr (.inl g))), (yp, .inl (cI, 36, .inl (fun i => nI (pw i)))), (b, .inr (7, [.ref lb, .ref kb])), (lb, .inl (cJ, 3, .inr (.inl bl))), (kb, .inl (cJ, 3, .inr (.inl bh))), (h, .inr (3, [.long u.1, .long u.2.1, .int u.2.2]))]) := by
  refine bo_enter_v (cc := bb_Y_value) (maxL := 10) (by decide) rfl (Nat.le_of_ble_eq_true rfl) ?_
  intro p e s m args below meth c A ls Q hx hb hts hown hml hK hP hD hS hA hl hret
  have hl : lv_has ls 10 [(0, .ref y), (1, .ref b), (2, .ref h)] := hl
  refine lv_lconst (v := 0) hx hb dd_Y_value_0 (by decide) ?_
  refine lv_lstore_n (lv' := [(3, .long 0), (0, .ref y), (1, .ref b), (2, .ref h)]) hx hb dd_Y_value_1 rfl hl (by decide) rfl (fun ls hl => ?_)
  refine lv_lconst (v := 0) hx hb dd_Y_value_2 (by decide) ?_
  refine lv_lstore (lv' := [(5, .long 0), (3, .long 0), (0, .ref y), (1, .ref b), (2, .ref h)]) hx hb dd_Y_value_3 hl (by decide) rfl (fun ls hl => ?_)
  refine lv_iconst (v := nI 0) hx hb dd_Y_value_5 (by decide) ?_
  refine lv_istore (lv' := [(7, .int (nI 0)), (5, .long 0), (3, .long 0), (0, .ref y), (1, .ref b), (2, .ref h)]) hx hb dd_Y_value_6 hl (by decide) rfl (fun ls hl => ?_)
  have lo8 : ∀ (fu : Nat) (t : Nat) (sl : Int64) (sh : Int64) (lo2 : Int64) (hi2 : Int64) (be2 : Int32) (ht : t ≤ nt) (hz : (sl, sh, be2) = vS iv_look f g pw bl bh be t) (hs : 0 < t → lo2 = sl ∧ hi2 = sh) (ls : Array Slot) (H : Heap) (locs : List Loc), (nt - t) < fu → lv_has ls 10 [(0, .ref y), (1, .ref b), (2, .ref h), (3, .long sl), (5, .long sh), (7, .int (nI t))] → va_P D bo_cl [(y, .inr (5, [.ref yr, .ref yp, .int (nI nt)])), (yr, .inr (7, [.ref yl, .ref yh])), (yl, .inl (cJ, 12, .inr (.inl f))), (yh, .inl (cJ, 12, .inr (.inl g))), (yp, .inl (cI, 36, .inl (fun i => nI (pw i)))), (b, .inr (7, [.ref lb, .ref kb])), (lb, .inl (cJ, 3, .inr (.inl bl))), (kb, .inl (cJ, 3, .inr (.inl bh))), (h, .inr (3, [.long lo2, .long hi2, .int be2]))] H → va_D A [(y, .inr (5, [.ref yr, .ref yp, .int (nI nt)])), (yr, .inr (7, [.ref yl, .ref yh])), (yl, .inl (cJ, 12, .inr (.inl f))), (yh, .inl (cJ, 12, .inr (.inl g))), (yp, .inl (cI, 36, .inl (fun i => nI (pw i)))), (b, .inr (7, [.ref lb, .ref kb])), (lb, .inl (cJ, 3, .inr (.inl bl))), (kb, .inl (cJ, 3, .inr (.inl bh))), (h, .inr (3, [.long lo2, .long hi2, .int be2]))] → va_S A s.heap H locs → W p l e (bo_rm 2 61) s m args below meth c H locs 0 0 Q (F0 m 8 ls []) := by
    intro fu8
    induction fu8 with
    | zero => intro t sl sh lo2 hi2 be2 ht hz hs ls H locs hfu; exact absurd hfu (Nat.not_lt_zero _)
    | succ fu8 ih8 =>
      intro t sl sh lo2 hi2 be2 ht hz hs ls H locs hfu8 hl hP hD hS
      refine lv_iload hx hb dd_Y_value_8 (lv_at hl 5 rfl) ?_
      refine lv_aload_n hx hb dd_Y_value_10 rfl (lv_at hl 0 rfl) ?_
      refine va_get (D := D) (ci := 5) (v := .int (nI nt)) (C := RR_Y) (T := TT_Y) (N := 3) hx hb hts (fun w h => List.mem_cons_of_mem _ (in_Y w h)) hown hK hP 0 rfl rfl 2 (by decide) (hts _ (List.mem_cons_of_mem _ wd_101)) (fun _ h9 => h9) rfl dd_Y_value_11 ?_
      refine bo_icmp_ge (tgt := 105) hx hb dd_Y_value_14 rfl (by omega) (by omega) (fun h14 => ?_) (fun h14 => ?_)
      · have hP9 := hP.sub (ws' := [(y, .inr (5, [.ref yr, .ref yp, .int (nI nt)])), (yr, .inr (7, [.ref yl, .ref yh])), (yl, .inl (cJ, 12, .inr (.inl f))), (yh, .inl (cJ, 12, .inr (.inl g))), (yp, .inl (cI, 36, .inl (fun i => nI (pw i)))), (b, .inr (7, [.ref lb, .ref kb])), (lb, .inl (cJ, 3, .inr (.inl bl))), (kb, .inl (cJ, 3, .inr (.inl bh))), (h, .inr (3, [.long lo2, .long hi2, .int be2]))]) [0, 1, 2, 3, 4, 5, 6, 7, 8] rfl
        have hD9 := hD.sub (ws' := [(y, .inr (5, [.ref yr, .ref yp, .int (nI nt)])), (yr, .inr (7, [.ref yl, .ref yh])), (yl, .inl (cJ, 12, .inr (.inl f))), (yh, .inl (cJ, 12, .inr (.inl g))), (yp, .inl (cI, 36, .inl (fun i => nI (pw i)))), (b, .inr (7, [.ref lb, .ref kb])), (lb, .inl (cJ, 3, .inr (.inl bl))), (kb, .inl (cJ, 3, .inr (.inl bh))), (h, .inr (3, [.long lo2, .long hi2, .int be2]))]) [0, 1, 2, 3, 4, 5, 6, 7, 8] (by decide) rfl
        exact hret (lo2, hi2, be2) _ _ _ _ hP9 hD9 hS (by have htn : t = nt := (by omega); subst htn; obtain ⟨e1, e2⟩ := hs (by omega); subst e1; subst e2; exact hz) dd_Y_value_105
      · refine lv_aload_n hx hb dd_Y_value_17 rfl (lv_at hl 2 rfl) ?_
        refine lv_aload_n hx hb dd_Y_value_18 rfl (lv_at hl 0 rfl) ?_
        refine va_get (D := D) (ci := 5) (v := .ref yr) (C := RR_Y) (T := TT_Y) (N := 3) hx hb hts (fun w h => List.mem_cons_of_mem _ (in_Y w h)) hown hK hP 0 rfl rfl 0 (by decide) (hts _ (List.mem_cons_of_mem _ wd_98)) (fun _ h9 => h9) rfl dd_Y_value_19 ?_
        refine lv_iload hx hb dd_Y_value_22 (lv_at hl 5 rfl) ?_
        refine bo_gov (wr := [(y, .inr (5, [.ref yr, .ref yp, .int (nI nt)])), (yp, .inl (cI, 36, .inl (fun i => nI (pw i)))), (b, .inr (7, [.ref lb, .ref kb])), (lb, .inl (cJ, 3, .inr (.inl bl))), (kb, .inl (cJ, 3, .inr (.inl bh)))]) (bo_rV (c_I_take (l := l) (D := D) (cJ := cJ) (cI := cI) (cB := cB) (cY := cY) h lo2 hi2 be2 yr yl yh 12 t f g (by omega) (by decide) _) ⟨hx, hb, hml, hown, hts⟩ (cwV 2 hts (bo_gV wd_378 wd_379 wd_380 wd_10 wd_381) rfl rfl rfl hd_I_take (by decide)) hK hP hD [8, 1, 2, 3] rfl (by decide) 8 3 rfl rfl rfl rfl hl.1 rfl (Nat.le_of_ble_eq_true rfl) dd_Y_value_24 (by decide)) hP hD hS hA [8, 1, 2, 3] [0, 4, 5, 6, 7] rfl rfl (by decide) (by decide) (fun u H locs hu_24 hP hD hS => ?_)
        have hP : va_P D bo_cl [(y, .inr (5, [.ref yr, .ref yp, .int (nI nt)])), (yp, .inl (cI, 36, .inl (fun i => nI (pw i)))), (b, .inr (7, [.ref lb, .ref kb])), (lb, .inl (cJ, 3, .inr (.inl bl))), (kb, .inl (cJ, 3, .inr (.inl bh))), (h, .inr (3, [.long (f t), .long (g t), .int be2])), (yr, .inr (7, [.ref yl, .ref yh])), (yl, .inl (cJ, 12, .inr (.inl f))), (yh, .inl (cJ, 12, .inr (.inl g)))] H := hP
        have hD : va_D A [(y, .inr (5, [.ref yr, .ref yp, .int (nI nt)])), (yp, .inl (cI, 36, .inl (fun i => nI (pw i)))), (b, .inr (7, [.ref lb, .ref kb])), (lb, .inl (cJ, 3, .inr (.inl bl))), (kb, .inl (cJ, 3, .inr (.inl bh))), (h, .inr (3, [.long (f t), .long (g t), .int be2])), (yr, .inr (7, [.ref yl, .ref yh])), (yl, .inl (cJ, 12, .inr (.inl f))), (yh, .inl (cJ, 12, .inr (.inl g)))] := hD
        refine lv_iconst (v := nI 0) hx hb dd_Y_value_27 (by decide) ?_
        refine lv_istore (lv' := [(8, .int (nI 0)), (0, .ref y), (1, .ref b), (2, .ref h), (3, .long sl), (5, .long sh), (7, .int (nI t))]) hx hb dd_Y_value_28 hl (by decide) rfl (fun ls hl => ?_)
        have lo30 : ∀ (fu : Nat) (v : Nat) (lo3 : Int64) (hi3 : Int64) (be3 : Int32) (hv : v ≤ 3) (hz3 : (lo3, hi3, be3) = tV iv_look pw t bl bh v (f t, g t, be2)) (ls : Array Slot) (H : Heap) (locs : List Loc), (3 - v) < fu → lv_has ls 10 [(0, .ref y), (1, .ref b), (2, .ref h), (3, .long sl), (5, .long sh), (7, .int (nI t)), (8, .int (nI v))] → va_P D bo_cl [(y, .inr (5, [.ref yr, .ref yp, .int (nI nt)])), (yr, .inr (7, [.ref yl, .ref yh])), (yl, .inl (cJ, 12, .inr (.inl f))), (yh, .inl (cJ, 12, .inr (.inl g))), (yp, .inl (cI, 36, .inl (fun i => nI (pw i)))), (b, .inr (7, [.ref lb, .ref kb])), (lb, .inl (cJ, 3, .inr (.inl bl))), (kb, .inl (cJ, 3, .inr (.inl bh))), (h, .inr (3, [.long lo3, .long hi3, .int be3]))] H → va_D A [(y, .inr (5, [.ref yr, .ref yp, .int (nI nt)])), (yr, .inr (7, [.ref yl, .ref yh])), (yl, .inl (cJ, 12, .inr (.inl f))), (yh, .inl (cJ, 12, .inr (.inl g))), (yp, .inl (cI, 36, .inl (fun i => nI (pw i)))), (b, .inr (7, [.ref lb, .ref kb])), (lb, .inl (cJ, 3, .inr (.inl bl))), (kb, .inl (cJ, 3, .inr (.inl bh))), (h, .inr (3, [.long lo3, .long hi3, .int be3]))] → va_S A s.heap H locs → W p l e (bo_rm 2 61) s m args below meth c H locs 0 0 Q (F0 m 30 ls []) := by
          intro fu30
          induction fu30 with
          | zero => intro v lo3 hi3 be3 hv hz3 ls H locs hfu; exact absurd hfu (Nat.not_lt_zero _)
          | succ fu30 ih30 =>
            intro v lo3 hi3 be3 hv hz3 ls H locs hfu30 hl hP hD hS
            refine lv_iload hx hb dd_Y_value_30 (lv_at hl 6 rfl) ?_
            refine lv_iconst (v := nI 3) hx hb dd_Y_value_32 (by decide) ?_
            refine bo_icmp_ge (tgt := 81) hx hb dd_Y_value_33 rfl (by omega) (by omega) (fun h33 => ?_) (fun h33 => ?_)
            · have hv3 : v = 3 := by omega
              rw [hv3] at hz3
              refine lv_aload_n hx hb dd_Y_value_81 rfl (lv_at hl 2 rfl) ?_
              refine lv_lload_n hx hb dd_Y_value_82 rfl (lv_at hl 3 rfl) ?_
              refine lv_lload hx hb dd_Y_value_83 (lv_at hl 4 rfl) ?_
              refine bo_gov (wr := [(y, .inr (5, [.ref yr, .ref yp, .int (nI nt)])), (yr, .inr (7, [.ref yl, .ref yh])), (yl, .inl (cJ, 12, .inr (.inl f))), (yh, .inl (cJ, 12, .inr (.inl g))), (yp, .inl (cI, 36, .inl (fun i => nI (pw i)))), (b, .inr (7, [.ref lb, .ref kb])), (lb, .inl (cJ, 3, .inr (.inl bl))), (kb, .inl (cJ, 3, .inr (.inl bh)))]) (bo_rV (c_I_sum (l := l) (D := D) (cJ := cJ) (cI := cI) (cB := cB) (cY := cY) h lo3 hi3 be3 sl sh  _) ⟨hx, hb, hml, hown, hts⟩ (cwV 2 hts (bo_gV wd_402 wd_403 wd_404 wd_10 wd_405) rfl rfl rfl hd_I_sum (by decide)) hK hP hD [8] rfl (by decide) 8 3 rfl rfl rfl rfl hl.1 rfl (Nat.le_of_ble_eq_true rfl) dd_Y_value_85 (by decide)) hP hD hS hA [8] [0, 1, 2, 3, 4, 5, 6, 7] rfl rfl (by decide) (by decide) (fun u H locs hu_85 hP hD hS => ?_)
              obtain ⟨lo1_85, hi1_85, be1_85⟩ := u
              have hu_85 : (lo1_85, hi1_85, be1_85) = iv_look (lo3 + sl) (hi3 + sh) be3 := hu_85
              have hP : va_P D bo_cl [(y, .inr (5, [.ref yr, .ref yp, .int (nI nt)])), (yr, .inr (7, [.ref yl, .ref yh])), (yl, .inl (cJ, 12, .inr (.inl f))), (yh, .inl (cJ, 12, .inr (.inl g))), (yp, .inl (cI, 36, .inl (fun i => nI (pw i)))), (b, .inr (7, [.ref lb, .ref kb])), (lb, .inl (cJ, 3, .inr (.inl bl))), (kb, .inl (cJ, 3, .inr (.inl bh))), (h, .inr (3, [.long lo1_85, .long hi1_85, .int be1_85]))] H := hP
              have hD : va_D A [(y, .inr (5, [.ref yr, .ref yp, .int (nI nt)])), (yr, .inr (7, [.ref yl, .ref yh])), (yl, .inl (cJ, 12, .inr (.inl f))), (yh, .inl (cJ, 12, .inr (.inl g))), (yp, .inl (cI, 36, .inl (fun i => nI (pw i)))), (b, .inr (7, [.ref lb, .ref kb])), (lb, .inl (cJ, 3, .inr (.inl bl))), (kb, .inl (cJ, 3, .inr (.inl bh))), (h, .inr (3, [.long lo1_85, .long hi1_85, .int be1_85]))] := hD
              refine lv_aload_n hx hb dd_Y_value_88 rfl (lv_at hl 2 rfl) ?_
              refine va_get (D := D) (ci := 3) (v := .long lo1_85) (C := RR_I) (T := TT_I) (N := 3) hx hb hts (fun w h => List.mem_cons_of_mem _ (in_I w h)) hown hK hP 8 rfl rfl 0 (by decide) (hts _ (List.mem_cons_of_mem _ wd_202)) (fun _ h9 => h9) rfl dd_Y_value_89 ?_
              refine lv_lstore_n (lv' := [(3, .long lo1_85), (0, .ref y), (1, .ref b), (2, .ref h), (5, .long sh), (7, .int (nI t)), (8, .int (nI v))]) hx hb dd_Y_value_92 rfl hl (by decide) rfl (fun ls hl => ?_)
              refine lv_aload_n hx hb dd_Y_value_93 rfl (lv_at hl 3 rfl) ?_
              refine va_get (D := D) (ci := 3) (v := .long hi1_85) (C := RR_I) (T := TT_I) (N := 3) hx hb hts (fun w h => List.mem_cons_of_mem _ (in_I w h)) hown hK hP 8 rfl rfl 1 (by decide) (hts _ (List.mem_cons_of_mem _ wd_208)) (fun _ h9 => h9) rfl dd_Y_value_94 ?_
              refine lv_lstore (lv' := [(5, .long hi1_85), (3, .long lo1_85), (0, .ref y), (1, .ref b), (2, .ref h), (7, .int (nI t)), (8, .int (nI v))]) hx hb dd_Y_value_97 hl (by decide) rfl (fun ls hl => ?_)
              refine lv_iinc (k := 5) (x := nI t) (v := nI (t + 1)) (lv' := [(7, .int (nI (t + 1))), (5, .long hi1_85), (3, .long lo1_85), (0, .ref y), (1, .ref b), (2, .ref h), (8, .int (nI v))]) hx hb dd_Y_value_99 hl rfl (nI_add _ 1) (by decide) rfl (fun ls hl => ?_)
              refine lv_goto (tgt := 8) hx hb dd_Y_value_102 rfl ?_
              have hl8 := lv_sub (l' := [(0, .ref y), (1, .ref b), (2, .ref h), (3, .long lo1_85), (5, .long hi1_85), (7, .int (nI (t + 1)))]) hl [3, 4, 5, 2, 1, 0] rfl
              have hP8 := hP.sub (ws' := [(y, .inr (5, [.ref yr, .ref yp, .int (nI nt)])), (yr, .inr (7, [.ref yl, .ref yh])), (yl, .inl (cJ, 12, .inr (.inl f))), (yh, .inl (cJ, 12, .inr (.inl g))), (yp, .inl (cI, 36, .inl (fun i => nI (pw i)))), (b, .inr (7, [.ref lb, .ref kb])), (lb, .inl (cJ, 3, .inr (.inl bl))), (kb, .inl (cJ, 3, .inr (.inl bh))), (h, .inr (3, [.long lo1_85, .long hi1_85, .int be1_85]))]) [0, 1, 2, 3, 4, 5, 6, 7, 8] rfl
              have hD8 := hD.sub (ws' := [(y, .inr (5, [.ref yr, .ref yp, .int (nI nt)])), (yr, .inr (7, [.ref yl, .ref yh])), (yl, .inl (cJ, 12, .inr (.inl f))), (yh, .inl (cJ, 12, .inr (.inl g))), (yp, .inl (cI, 36, .inl (fun i => nI (pw i)))), (b, .inr (7, [.ref lb, .ref kb])), (lb, .inl (cJ, 3, .inr (.inl bl))), (kb, .inl (cJ, 3, .inr (.inl bh))), (h, .inr (3, [.long lo1_85, .long hi1_85, .int be1_85]))]) [0, 1, 2, 3, 4, 5, 6, 7, 8] (by decide) rfl
              exact ih8 (t + 1) lo1_85 hi1_85 lo1_85 hi1_85 be1_85 (by omega) (by rw [vS, ← hz, ← hz3, hu_85]; rfl) (by intro _; exact ⟨rfl, rfl⟩) _ _ _ (by omega) hl8 hP8 hD8 hS
            · have hps := pSum_le pw t (show v < 3 by omega)
              have hps6 := hpw t (by omega)
              refine lv_aload_n hx hb dd_Y_value_36 rfl (lv_at hl 0 rfl) ?_
              refine lv_iload hx hb dd_Y_value_37 (lv_at hl 5 rfl) ?_
              refine lv_iload hx hb dd_Y_value_39 (lv_at hl 6 rfl) ?_
              refine bo_goi (wr := [(b, .inr (7, [.ref lb, .ref kb])), (lb, .inl (cJ, 3, .inr (.inl bl))), (kb, .inl (cJ, 3, .inr (.inl bh))), (h, .inr (3, [.long lo3, .long hi3, .int be3]))]) (bo_rV (c_Y_power (l := l) (D := D) (cJ := cJ) (cI := cI) (cB := cB) (cY := cY) y yr yl yh yp nt f g pw t v (by omega) _) ⟨hx, hb, hml, hown, hts⟩ (cwV 2 hts (bo_gV wd_382 wd_383 wd_384 wd_4 wd_385) rfl rfl rfl hd_Y_power (by decide)) hK hP hD [0, 1, 2, 3, 4] rfl (by decide) 0 5 rfl rfl rfl rfl hl.1 rfl (Nat.le_of_ble_eq_true rfl) dd_Y_value_41 (by decide)) hP hD hS hA [0, 1, 2, 3, 4] [5, 6, 7, 8] rfl rfl (by decide) (by decide) (fun r_41 u H locs hu_41 hP hD hS => ?_)
              have hu_41 : r_41 = nI (pw (t * 3 + v)) := hu_41
              have hP : va_P D bo_cl [(b, .inr (7, [.ref lb, .ref kb])), (lb, .inl (cJ, 3, .inr (.inl bl))), (kb, .inl (cJ, 3, .inr (.inl bh))), (h, .inr (3, [.long lo3, .long hi3, .int be3])), (y, .inr (5, [.ref yr, .ref yp, .int (nI nt)])), (yr, .inr (7, [.ref yl, .ref yh])), (yl, .inl (cJ, 12, .inr (.inl f))), (yh, .inl (cJ, 12, .inr (.inl g))), (yp, .inl (cI, 36, .inl (fun i => nI (pw i))))] H := hP
              have hD : va_D A [(b, .inr (7, [.ref lb, .ref kb])), (lb, .inl (cJ, 3, .inr (.inl bl))), (kb, .inl (cJ, 3, .inr (.inl bh))), (h, .inr (3, [.long lo3, .long hi3, .int be3])), (y, .inr (5, [.ref yr, .ref yp, .int (nI nt)])), (yr, .inr (7, [.ref yl, .ref yh])), (yl, .inl (cJ, 12, .inr (.inl f))), (yh, .inl (cJ, 12, .inr (.inl g))), (yp, .inl (cI, 36, .inl (fun i => nI (pw i))))] := hD
              subst hu_41
              refine lv_istore (lv' := [(9, .int (nI (pw (t * 3 + v)))), (0, .ref y), (1, .ref b), (2, .ref h), (3, .long sl), (5, .long sh), (7, .int (nI t)), (8, .int (nI v))]) hx hb dd_Y_value_44 hl (by decide) rfl (fun ls hl => ?_)
              have lo46 : ∀ (fu : Nat) (k : Nat) (lo4 : Int64) (hi4 : Int64) (be4 : Int32) (hk : k < 2 ^ 31) (hz4 : pT iv_look k (lo4, hi4, be4) (bl v) (bh v) = pT iv_look (pw (t * 3 + v)) (lo3, hi3, be3) (bl v) (bh v)) (ls : Array Slot) (H : Heap) (locs : List Loc), k < fu → lv_has ls 10 [(0, .ref y), (1, .ref b), (2, .ref h), (3, .long sl), (5, .long sh), (7, .int (nI t)), (8, .int (nI v)), (9, .int (nI k))] → va_P D bo_cl [(y, .inr (5, [.ref yr, .ref yp, .int (nI nt)])), (yr, .inr (7, [.ref yl, .ref yh])), (yl, .inl (cJ, 12, .inr (.inl f))), (yh, .inl (cJ, 12, .inr (.inl g))), (yp, .inl (cI, 36, .inl (fun i => nI (pw i)))), (b, .inr (7, [.ref lb, .ref kb])), (lb, .inl (cJ, 3, .inr (.inl bl))), (kb, .inl (cJ, 3, .inr (.inl bh))), (h, .inr (3, [.long lo4, .long hi4, .int be4]))] H → va_D A [(y, .inr (5, [.ref yr, .ref yp, .int (nI nt)])), (yr, .inr (7, [.ref yl, .ref yh])), (yl, .inl (cJ, 12, .inr (.inl f))), (yh, .inl (cJ, 12, .inr (.inl g))), (yp, .inl (cI, 36, .inl (fun i => nI (pw i)))), (b, .inr (7, [.ref lb, .ref kb])), (lb, .inl (cJ, 3, .inr (.inl bl))), (kb, .inl (cJ, 3, .inr (.inl bh))), (h, .inr (3, [.long lo4, .long hi4, .int be4]))] → va_S A s.heap H locs → W p l e (bo_rm 2 61) s m args below meth c H locs 0 0 Q (F0 m 46 ls []) := by
                intro fu46
                induction fu46 with
                | zero => intro k lo4 hi4 be4 hk hz4 ls H locs hfu; exact absurd hfu (Nat.not_lt_zero _)
                | succ fu46 ih46 =>
                  intro k lo4 hi4 be4 hk hz4 ls H locs hfu46 hl hP hD hS
                  refine lv_iload hx hb dd_Y_value_46 (lv_at hl 7 rfl) ?_
                  refine bo_if_le (tgt := 75) hx hb dd_Y_value_48 rfl (by omega) (fun h48 => ?_) (fun h48 => ?_)
                  · refine lv_iinc (k := 6) (x := nI v) (v := nI (v + 1)) (lv' := [(8, .int (nI (v + 1))), (0, .ref y), (1, .ref b), (2, .ref h), (3, .long sl), (5, .long sh), (7, .int (nI t)), (9, .int (nI k))]) hx hb dd_Y_value_75 hl rfl (nI_add _ 1) (by decide) rfl (fun ls hl => ?_)
                    refine lv_goto (tgt := 30) hx hb dd_Y_value_78 rfl ?_
                    have hl8 := lv_sub (l' := [(0, .ref y), (1, .ref b), (2, .ref h), (3, .long sl), (5, .long sh), (7, .int (nI t)), (8, .int (nI (v + 1)))]) hl [1, 2, 3, 4, 5, 6, 0] rfl
                    have hP8 := hP.sub (ws' := [(y, .inr (5, [.ref yr, .ref yp, .int (nI nt)])), (yr, .inr (7, [.ref yl, .ref yh])), (yl, .inl (cJ, 12, .inr (.inl f))), (yh, .inl (cJ, 12, .inr (.inl g))), (yp, .inl (cI, 36, .inl (fun i => nI (pw i)))), (b, .inr (7, [.ref lb, .ref kb])), (lb, .inl (cJ, 3, .inr (.inl bl))), (kb, .inl (cJ, 3, .inr (.inl bh))), (h, .inr (3, [.long lo4, .long hi4, .int be4]))]) [0, 1, 2, 3, 4, 5, 6, 7, 8] rfl
                    have hD8 := hD.sub (ws' := [(y, .inr (5, [.ref yr, .ref yp, .int (nI nt)])), (yr, .inr (7, [.ref yl, .ref yh])), (yl, .inl (cJ, 12, .inr (.inl f))), (yh, .inl (cJ, 12, .inr (.inl g))), (yp, .inl (cI, 36, .inl (fun i => nI (pw i)))), (b, .inr (7, [.ref lb, .ref kb])), (lb, .inl (cJ, 3, .inr (.inl bl))), (kb, .inl (cJ, 3, .inr (.inl bh))), (h, .inr (3, [.long lo4, .long hi4, .int be4]))]) [0, 1, 2, 3, 4, 5, 6, 7, 8] (by decide) rfl
                    exact ih30 (v + 1) lo4 hi4 be4 (by omega) (by rw [tV, ← hz3, ← hz4, h48]; rfl) _ _ _ (by omega) hl8 hP8 hD8 hS
                  · refine lv_aload_n hx hb dd_Y_value_51 rfl (lv_at hl 2 rfl) ?_
                    refine lv_aload_n hx hb dd_Y_value_52 rfl (lv_at hl 1 rfl) ?_
                    refine va_get (D := D) (ci := 7) (v := .ref lb) (C := RR_R) (T := TT_R) (N := 2) hx hb hts (fun w h => List.mem_cons_of_mem _ (in_R w h)) hown hK hP 5 rfl rfl 0 (by decide) (hts _ (List.mem_cons_of_mem _ wd_79)) (fun _ h9 => h9) rfl dd_Y_value_53 ?_
                    refine lv_iload hx hb dd_Y_value_56 (lv_at hl 6 rfl) ?_
                    refine bo_lald hx hb hK hP 6 0 rfl rfl (by omega) (by decide) dd_Y_value_58 ?_
                    refine lv_aload_n hx hb dd_Y_value_59 rfl (lv_at hl 1 rfl) ?_
                    refine va_get (D := D) (ci := 7) (v := .ref kb) (C := RR_R) (T := TT_R) (N := 2) hx hb hts (fun w h => List.mem_cons_of_mem _ (in_R w h)) hown hK hP 5 rfl rfl 1 (by decide) (hts _ (List.mem_cons_of_mem _ wd_86)) (fun _ h9 => h9) rfl dd_Y_value_60 ?_
                    refine lv_iload hx hb dd_Y_value_63 (lv_at hl 6 rfl) ?_
                    refine bo_lald hx hb hK hP 7 0 rfl rfl (by omega) (by decide) dd_Y_value_65 ?_
                    refine bo_gov (wr := [(y, .inr (5, [.ref yr, .ref yp, .int (nI nt)])), (yr, .inr (7, [.ref yl, .ref yh])), (yl, .inl (cJ, 12, .inr (.inl f))), (yh, .inl (cJ, 12, .inr (.inl g))), (yp, .inl (cI, 36, .inl (fun i => nI (pw i)))), (b, .inr (7, [.ref lb, .ref kb])), (lb, .inl (cJ, 3, .inr (.inl bl))), (kb, .inl (cJ, 3, .inr (.inl bh)))]) (bo_rV (c_I_times (l := l) (D := D) (cJ := cJ) (cI := cI) (cB := cB) (cY := cY) h lo4 hi4 be4 (bl v) (bh v)  _) ⟨hx, hb, hml, hown, hts⟩ (cwV 2 hts (bo_gV wd_386 wd_387 wd_388 wd_10 wd_389) rfl rfl rfl hd_I_times (by decide)) hK hP hD [8] rfl (by decide) 8 3 rfl rfl rfl rfl hl.1 rfl (Nat.le_of_ble_eq_true rfl) dd_Y_value_66 (by decide)) hP hD hS hA [8] [0, 1, 2, 3, 4, 5, 6, 7] rfl rfl (by decide) (by decide) (fun u H locs hu_66 hP hD hS => ?_)
                    obtain ⟨lo1_66, hi1_66, be1_66⟩ := u
                    have hu_66 : (lo1_66, hi1_66, be1_66) = iv_look (tm_lo lo4 hi4 (bl v) (bh v)) (tm_hi lo4 hi4 (bl v) (bh v)) be4 := hu_66
                    have hP : va_P D bo_cl [(y, .inr (5, [.ref yr, .ref yp, .int (nI nt)])), (yr, .inr (7, [.ref yl, .ref yh])), (yl, .inl (cJ, 12, .inr (.inl f))), (yh, .inl (cJ, 12, .inr (.inl g))), (yp, .inl (cI, 36, .inl (fun i => nI (pw i)))), (b, .inr (7, [.ref lb, .ref kb])), (lb, .inl (cJ, 3, .inr (.inl bl))), (kb, .inl (cJ, 3, .inr (.inl bh))), (h, .inr (3, [.long lo1_66, .long hi1_66, .int be1_66]))] H := hP
                    have hD : va_D A [(y, .inr (5, [.ref yr, .ref yp, .int (nI nt)])), (yr, .inr (7, [.ref yl, .ref yh])), (yl, .inl (cJ, 12, .inr (.inl f))), (yh, .inl (cJ, 12, .inr (.inl g))), (yp, .inl (cI, 36, .inl (fun i => nI (pw i)))), (b, .inr (7, [.ref lb, .ref kb])), (lb, .inl (cJ, 3, .inr (.inl bl))), (kb, .inl (cJ, 3, .inr (.inl bh))), (h, .inr (3, [.long lo1_66, .long hi1_66, .int be1_66]))] := hD
                    refine lv_iinc (k := 7) (x := nI k) (v := nI (k - 1)) (lv' := [(9, .int (nI (k - 1))), (0, .ref y), (1, .ref b), (2, .ref h), (3, .long sl), (5, .long sh), (7, .int (nI t)), (8, .int (nI v))]) hx hb dd_Y_value_69 hl rfl (bo_dec (by omega)) (by decide) rfl (fun ls hl => ?_)
                    refine lv_goto (tgt := 46) hx hb dd_Y_value_72 rfl ?_
                    have hl8 := lv_sub (l' := [(0, .ref y), (1, .ref b), (2, .ref h), (3, .long sl), (5, .long sh), (7, .int (nI t)), (8, .int (nI v)), (9, .int (nI (k - 1)))]) hl [1, 2, 3, 4, 5, 6, 7, 0] rfl
                    have hP8 := hP.sub (ws' := [(y, .inr (5, [.ref yr, .ref yp, .int (nI nt)])), (yr, .inr (7, [.ref yl, .ref yh])), (yl, .inl (cJ, 12, .inr (.inl f))), (yh, .inl (cJ, 12, .inr (.inl g))), (yp, .inl (cI, 36, .inl (fun i => nI (pw i)))), (b, .inr (7, [.ref lb, .ref kb])), (lb, .inl (cJ, 3, .inr (.inl bl))), (kb, .inl (cJ, 3, .inr (.inl bh))), (h, .inr (3, [.long lo1_66, .long hi1_66, .int be1_66]))]) [0, 1, 2, 3, 4, 5, 6, 7, 8] rfl
                    have hD8 := hD.sub (ws' := [(y, .inr (5, [.ref yr, .ref yp, .int (nI nt)])), (yr, .inr (7, [.ref yl, .ref yh])), (yl, .inl (cJ, 12, .inr (.inl f))), (yh, .inl (cJ, 12, .inr (.inl g))), (yp, .inl (cI, 36, .inl (fun i => nI (pw i)))), (b, .inr (7, [.ref lb, .ref kb])), (lb, .inl (cJ, 3, .inr (.inl bl))), (kb, .inl (cJ, 3, .inr (.inl bh))), (h, .inr (3, [.long lo1_66, .long hi1_66, .int be1_66]))]) [0, 1, 2, 3, 4, 5, 6, 7, 8] (by decide) rfl
                    exact ih46 (k - 1) lo1_66 hi1_66 be1_66 (by omega) (by rw [← hz4, hu_66]; obtain ⟨k1, rfl⟩ : ∃ k1, k = k1 + 1 := ⟨k - 1, by omega⟩; rfl) _ _ _ (by omega) hl8 hP8 hD8 hS
              have hl8 := lv_sub (l' := [(0, .ref y), (1, .ref b), (2, .ref h), (3, .long sl), (5, .long sh), (7, .int (nI t)), (8, .int (nI v)), (9, .int (nI (pw (t * 3 + v))))]) hl [1, 2, 3, 4, 5, 6, 7, 0] rfl
              have hP8 := hP.sub (ws' := [(y, .inr (5, [.ref yr, .ref yp, .int (nI nt)])), (yr, .inr (7, [.ref yl, .ref yh])), (yl, .inl (cJ, 12, .inr (.inl f))), (yh, .inl (cJ, 12, .inr (.inl g))), (yp, .inl (cI, 36, .inl (fun i => nI (pw i)))), (b, .inr (7, [.ref lb, .ref kb])), (lb, .inl (cJ, 3, .inr (.inl bl))), (kb, .inl (cJ, 3, .inr (.inl bh))), (h, .inr (3, [.long lo3, .long hi3, .int be3]))]) [4, 5, 6, 7, 8, 0, 1, 2, 3] rfl
              have hD8 := hD.sub (ws' := [(y, .inr (5, [.ref yr, .ref yp, .int (nI nt)])), (yr, .inr (7, [.ref yl, .ref yh])), (yl, .inl (cJ, 12, .inr (.inl f))), (yh, .inl (cJ, 12, .inr (.inl g))), (yp, .inl (cI, 36, .inl (fun i => nI (pw i)))), (b, .inr (7, [.ref lb, .ref kb])), (lb, .inl (cJ, 3, .inr (.inl bl))), (kb, .inl (cJ, 3, .inr (.inl bh))), (h, .inr (3, [.long lo3, .long hi3, .int be3]))]) [4, 5, 6, 7, 8, 0, 1, 2, 3] (by decide) rfl
              exact lo46 ((pw (t * 3 + v)) + 1) (pw (t * 3 + v)) lo3 hi3 be3 (by omega) (by rfl) _ _ _ (Nat.lt_succ_self _) hl8 hP8 hD8 hS
        have hl8 := lv_sub (l' := [(0, .ref y), (1, .ref b), (2, .ref h), (3, .long sl), (5, .long sh), (7, .int (nI t)), (8, .int (nI 0))]) hl [1, 2, 3, 4, 5, 6, 0] rfl
        have hP8 := hP.sub (ws' := [(y, .inr (5, [.ref yr, .ref yp, .int (nI nt)])), (yr, .inr (7, [.ref yl, .ref yh])), (yl, .inl (cJ, 12, .inr (.inl f))), (yh, .inl (cJ, 12, .inr (.inl g))), (yp, .inl (cI, 36, .inl (fun i => nI (pw i)))), (b, .inr (7, [.ref lb, .ref kb])), (lb, .inl (cJ, 3, .inr (.inl bl))), (kb, .inl (cJ, 3, .inr (.inl bh))), (h, .inr (3, [.long (f t), .long (g t), .int be2]))]) [0, 6, 7, 8, 1, 2, 3, 4, 5] rfl
        have hD8 := hD.sub (ws' := [(y, .inr (5, [.ref yr, .ref yp, .int (nI nt)])), (yr, .inr (7, [.ref yl, .ref yh])), (yl, .inl (cJ, 12, .inr (.inl f))), (yh, .inl (cJ, 12, .inr (.inl g))), (yp, .inl (cI, 36, .inl (fun i => nI (pw i)))), (b, .inr (7, [.ref lb, .ref kb])), (lb, .inl (cJ, 3, .inr (.inl bl))), (kb, .inl (cJ, 3, .inr (.inl bh))), (h, .inr (3, [.long (f t), .long (g t), .int be2]))]) [0, 6, 7, 8, 1, 2, 3, 4, 5] (by decide) rfl
        exact lo30 ((3 - 0) + 1) 0 (f t) (g t) be2 (by omega) (by rfl) _ _ _ (Nat.lt_succ_self _) hl8 hP8 hD8 hS
  have hl8 := lv_sub (l' := [(0, .ref y), (1, .ref b), (2, .ref h), (3, .long 0), (5, .long 0), (7, .int (nI 0))]) hl [3, 4, 5, 2, 1, 0] rfl
  have hP8 := hP.sub (ws' := [(y, .inr (5, [.ref yr, .ref yp, .int (nI nt)])), (yr, .inr (7, [.ref yl, .ref yh])), (yl, .inl (cJ, 12, .inr (.inl f))), (yh, .inl (cJ, 12, .inr (.inl g))), (yp, .inl (cI, 36, .inl (fun i => nI (pw i)))), (b, .inr (7, [.ref lb, .ref kb])), (lb, .inl (cJ, 3, .inr (.inl bl))), (kb, .inl (cJ, 3, .inr (.inl bh))), (h, .inr (3, [.long lo, .long hi, .int be]))]) [0, 1, 2, 3, 4, 5, 6, 7, 8] rfl
  have hD8 := hD.sub (ws' := [(y, .inr (5, [.ref yr, .ref yp, .int (nI nt)])), (yr, .inr (7, [.ref yl, .ref yh])), (yl, .inl (cJ, 12, .inr (.inl f))), (yh, .inl (cJ, 12, .inr (.inl g))), (yp, .inl (cI, 36, .inl (fun i => nI (pw i)))), (b, .inr (7, [.ref lb, .ref kb])), (lb, .inl (cJ, 3, .inr (.inl bl))), (kb, .inl (cJ, 3, .inr (.inl bh))), (h, .inr (3, [.long lo, .long hi, .int be]))]) [0, 1, 2, 3, 4, 5, 6, 7, 8] (by decide) rfl
  exact lo8 ((nt - 0) + 1) 0 0 0 lo hi be (by omega) (by rfl) (by intro h9; omega) _ _ _ (Nat.lt_succ_self _) hl8 hP8 hD8 hS
