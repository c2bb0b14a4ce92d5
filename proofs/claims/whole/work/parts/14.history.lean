/-! the tape of boxes -/
def xC (X : Nat → Int32) (ncr nb : Nat) (lsd sg : Int32) : Nat → Int32 := if ncr < 100 then upd (upd (upd X (ncr * 3) lsd) (ncr * 3 + 1) (nI nb)) (ncr * 3 + 2) sg else X
def bL (B : Nat → Int32) (nb : Nat) (xl xh pf pg : Nat → Int64) : Nat → (Nat → Int32)
  | 0 => B
  | v + 1 => upd (upd (upd (upd (bL B nb xl xh pf pg v) (nb * 14 + v * 4) (xl v).toInt32) (nb * 14 + v * 4 + 1) (xh v).toInt32) (nb * 14 + v * 4 + 2) (pf v).toInt32) (nb * 14 + v * 4 + 3) (pg v).toInt32
def bAdd (B : Nat → Int32) (nb : Nat) (xl xh pf pg : Nat → Int64) (tm sg : Int32) : Nat → Int32 := if nb < 400 then upd (upd (bL B nb xl xh pf pg 3) (nb * 14 + 12) tm) (nb * 14 + 12 + 1) sg else B
def hX (ncr : Nat) (X : Nat → Int32) (ls lsd : Int32) (nb : Nat) (sg : Int32) : Nat × (Nat → Int32) := if ls = -sg then (ncr + 1, xC X ncr nb lsd sg) else (ncr, X)
def hN (ncr : Nat) (X : Nat → Int32) (ls lsd : Int32) (nb : Nat) (sg : Int32) : Nat × (Nat → Int32) × Int32 × Int32 := if sg = 0 then (ncr, X, ls, lsd) else ((hX ncr X ls lsd nb sg).1, (hX ncr X ls lsd nb sg).2, sg, nI nb)
def inB (i : Int32) (n k : Nat) : Int32 := if i < 0 ∨ nI n ≤ i ∨ nI k ≤ i then nI 0 else nI 1
def fit (tm hz : Nat) : Nat → Nat → Nat
  | 0, q => q
  | n + 1, q => if tm + 2 ^ (20 - q) ≤ hz then q else fit tm hz n (q + 1)
theorem p20 (q : Nat) : 2 ^ (20 - q) ≤ 1048576 := by
  have h := Nat.pow_le_pow_right (show 0 < 2 by omega) (show 20 - q ≤ 20 by omega)
  exact h
theorem len_eq {q : Nat} (h : q ≤ 20) : nI 1 <<< (nI (20 - q) &&& 31) = nI (2 ^ (20 - q)) := by
  have h1 : ∀ k : Fin 21, nI 1 <<< (nI k.val &&& 31) = nI (2 ^ k.val) := by decide
  exact h1 ⟨20 - q, by omega⟩
def sgO (z : zz) : Int32 := if z.2.2 = 0 then (if 0 < z.1 then nI 1 else if z.2.1 < 0 then -1 else nI 0) else nI 0
def sgR (hc : Int32) (cn : Nat) (cf cg : Nat → Int64) (cpw : Nat → Nat) (xl xh : Nat → Int64) : Int32 := if hc = 0 then nI 0 else sgO (vS iv_look cf cg cpw xl xh (nI 0) cn)
def cOk (hc : Int32) (cn : Nat) (cpw : Nat → Nat) : Prop := ¬ hc = 0 → 0 < cn ∧ cn ≤ 12 ∧ ∀ t, t < cn → pSum cpw t 3 ≤ 6
/-- calm steps and shift behind a step with the shift used -/
def adC (used sf cm co : Nat) : Nat × Nat := if (if sf < used then 0 else cm + 1) = 3 then (0, if co < used then used - 1 else used) else ((if sf < used then 0 else cm + 1), used)
theorem adC_1 {used sf cm co : Nat} (h : sf < used) : adC used sf cm co = (0, used) := by
  unfold adC
  rw [if_pos h, if_neg (by decide)]
theorem adC_2 {used sf cm co : Nat} (h : used ≤ sf) (h3 : ¬ cm + 1 = 3) : adC used sf cm co = (cm + 1, used) := by
  unfold adC
  rw [if_neg (show ¬ sf < used by omega), if_neg h3]
theorem adC_3 {used sf cm co : Nat} (h : used ≤ sf) (h3 : cm + 1 = 3) (h4 : used ≤ co) : adC used sf cm co = (0, used) := by
  unfold adC
  rw [if_neg (show ¬ sf < used by omega), if_pos h3, if_neg (show ¬ co < used by omega)]
theorem adC_4 {used sf cm co : Nat} (h : used ≤ sf) (h3 : cm + 1 = 3) (h4 : co < used) : adC used sf cm co = (0, used - 1) := by
  unfold adC
  rw [if_neg (show ¬ sf < used by omega), if_pos h3, if_pos h4]
set_option maxHeartbeats 4000000 in
set_option maxRecDepth 100000 in
theorem c_H_clear {l : Launch} {D : va_G} {cJ cI cB cY : ClassId} (hh : Nat) (nb : Nat) (ncr : Nat) (bf : Nat) (xf : Nat) (ls0 : Int32) (lsd : Int32) :
    bo_v (S := Unit) l D bo_cl (bo_ty cJ cI cB cY) yy_H_clear (bo_w yy_H_clear bb_H_clear 1 none) (bo_rm 0 0) [.ref hh] [(hh, .inr (2, [.int (nI nb), .int (nI ncr), .ref bf, .ref xf, .int ls0, .int lsd]))] (fun u => True) (fun u => [(hh, .inr (2, [.int (nI 0), .int (nI 0), .ref bf, .ref xf, .int (nI 0), .int (-1)]))]) := by
  refine bo_enter_v (cc := bb_H_clear) (maxL := 1) (by decide) rfl (Nat.le_of_ble_eq_true rfl) ?_
  intro p e s m args below meth c A ls Q hx hb hts hown hml hK hP hD hS hA hl hret
  have hl : lv_has ls 1 [(0, .ref hh)] := hl
  refine lv_aload_n hx hb dd_H_clear_0 rfl (lv_at hl 0 rfl) ?_
  refine lv_iconst (v := nI 0) hx hb dd_H_clear_1 (by decide) ?_
  refine va_put (D := D) (ci := 2) (v := .int (nI 0)) (ty := .int) (C := RR_H) (T := TT_H) (N := 6) hx hb hts (fun w h => List.mem_cons_of_mem _ (in_H w h)) tt_H ty_H nm_H hown hK hP hD hS 0 rfl rfl 0 (by decide) (hts _ (List.mem_cons_of_mem _ wd_155)) (fun _ h9 => h9) rfl (by decide +kernel) rfl rfl (Nat.le_of_ble_eq_true rfl) dd_H_clear_2 (fun H locs hP hD hS => ?_)
  have hP : va_P D bo_cl [(hh, .inr (2, [.int (nI 0), .int (nI ncr), .ref bf, .ref xf, .int ls0, .int lsd]))] H := hP
  have hD : va_D A [(hh, .inr (2, [.int (nI 0), .int (nI ncr), .ref bf, .ref xf, .int ls0, .int lsd]))] := hD
  refine lv_aload_n hx hb dd_H_clear_5 rfl (lv_at hl 0 rfl) ?_
  refine lv_iconst (v := nI 0) hx hb dd_H_clear_6 (by decide) ?_
  refine va_put (D := D) (ci := 2) (v := .int (nI 0)) (ty := .int) (C := RR_H) (T := TT_H) (N := 6) hx hb hts (fun w h => List.mem_cons_of_mem _ (in_H w h)) tt_H ty_H nm_H hown hK hP hD hS 0 rfl rfl 1 (by decide) (hts _ (List.mem_cons_of_mem _ wd_157)) (fun _ h9 => h9) rfl (by decide +kernel) rfl rfl (Nat.le_of_ble_eq_true rfl) dd_H_clear_7 (fun H locs hP hD hS => ?_)
  have hP : va_P D bo_cl [(hh, .inr (2, [.int (nI 0), .int (nI 0), .ref bf, .ref xf, .int ls0, .int lsd]))] H := hP
  have hD : va_D A [(hh, .inr (2, [.int (nI 0), .int (nI 0), .ref bf, .ref xf, .int ls0, .int lsd]))] := hD
  refine lv_aload_n hx hb dd_H_clear_10 rfl (lv_at hl 0 rfl) ?_
  refine lv_iconst (v := nI 0) hx hb dd_H_clear_11 (by decide) ?_
  refine va_put (D := D) (ci := 2) (v := .int (nI 0)) (ty := .int) (C := RR_H) (T := TT_H) (N := 6) hx hb hts (fun w h => List.mem_cons_of_mem _ (in_H w h)) tt_H ty_H nm_H hown hK hP hD hS 0 rfl rfl 4 (by decide) (hts _ (List.mem_cons_of_mem _ wd_161)) (fun _ h9 => h9) rfl (by decide +kernel) rfl rfl (Nat.le_of_ble_eq_true rfl) dd_H_clear_12 (fun H locs hP hD hS => ?_)
  have hP : va_P D bo_cl [(hh, .inr (2, [.int (nI 0), .int (nI 0), .ref bf, .ref xf, .int (nI 0), .int lsd]))] H := hP
  have hD : va_D A [(hh, .inr (2, [.int (nI 0), .int (nI 0), .ref bf, .ref xf, .int (nI 0), .int lsd]))] := hD
  refine lv_aload_n hx hb dd_H_clear_15 rfl (lv_at hl 0 rfl) ?_
  refine lv_iconst (v := -1) hx hb dd_H_clear_16 (by decide) ?_
  refine va_put (D := D) (ci := 2) (v := .int (-1)) (ty := .int) (C := RR_H) (T := TT_H) (N := 6) hx hb hts (fun w h => List.mem_cons_of_mem _ (in_H w h)) tt_H ty_H nm_H hown hK hP hD hS 0 rfl rfl 5 (by decide) (hts _ (List.mem_cons_of_mem _ wd_162)) (fun _ h9 => h9) rfl (by decide +kernel) rfl rfl (Nat.le_of_ble_eq_true rfl) dd_H_clear_17 (fun H locs hP hD hS => ?_)
  have hP : va_P D bo_cl [(hh, .inr (2, [.int (nI 0), .int (nI 0), .ref bf, .ref xf, .int (nI 0), .int (-1)]))] H := hP
  have hD : va_D A [(hh, .inr (2, [.int (nI 0), .int (nI 0), .ref bf, .ref xf, .int (nI 0), .int (-1)]))] := hD
  have hP9 := hP.sub (ws' := [(hh, .inr (2, [.int (nI 0), .int (nI 0), .ref bf, .ref xf, .int (nI 0), .int (-1)]))]) [0] rfl
  have hD9 := hD.sub (ws' := [(hh, .inr (2, [.int (nI 0), .int (nI 0), .ref bf, .ref xf, .int (nI 0), .int (-1)]))]) [0] (by decide) rfl
  exact hret () _ _ _ _ hP9 hD9 hS (trivial) dd_H_clear_20

set_option maxHeartbeats 4000000 in
set_option maxRecDepth 100000 in
theorem c_H_addCrossing {l : Launch} {D : va_G} {cJ cI cB cY : ClassId} (hh : Nat) (nb : Nat) (ncr : Nat) (bf : Nat) (xf : Nat) (ls0 : Int32) (lsd : Int32) (X : Nat → Int32) (sg : Int32) (hn : nb < 2 ^ 30) (hc : ncr < 2 ^ 30) :
    bo_v (S := Unit) l D bo_cl (bo_ty cJ cI cB cY) yy_H_addCrossing (bo_w yy_H_addCrossing bb_H_addCrossing 3 none) (bo_rm 0 0) [.ref hh, .int sg] [(hh, .inr (2, [.int (nI nb), .int (nI ncr), .ref bf, .ref xf, .int ls0, .int lsd])), (xf, .inl (cI, 300, .inl X))] (fun u => True) (fun u => [(hh, .inr (2, [.int (nI nb), .int (nI (ncr + 1)), .ref bf, .ref xf, .int ls0, .int lsd])), (xf, .inl (cI, 300, .inl (xC X ncr nb lsd sg)))]) := by
  refine bo_enter_v (cc := bb_H_addCrossing) (maxL := 3) (by decide) rfl (Nat.le_of_ble_eq_true rfl) ?_
  intro p e s m args below meth c A ls Q hx hb hts hown hml hK hP hD hS hA hl hret
  have hl : lv_has ls 3 [(0, .ref hh), (1, .int sg)] := hl
  refine lv_aload_n hx hb dd_H_addCrossing_0 rfl (lv_at hl 0 rfl) ?_
  refine va_get (D := D) (ci := 2) (v := .int (nI ncr)) (C := RR_H) (T := TT_H) (N := 6) hx hb hts (fun w h => List.mem_cons_of_mem _ (in_H w h)) hown hK hP 0 rfl rfl 1 (by decide) (hts _ (List.mem_cons_of_mem _ wd_157)) (fun _ h9 => h9) rfl dd_H_addCrossing_1 ?_
  refine lv_bipush (v := nI 100) hx hb dd_H_addCrossing_4 (by decide) ?_
  have jn47 : ∀ (X9 : Nat → Int32) (e9 : X9 = xC X ncr nb lsd sg) (ls : Array Slot) (H : Heap) (locs : List Loc), lv_has ls 3 [(0, .ref hh), (1, .int sg)] → va_P D bo_cl [(hh, .inr (2, [.int (nI nb), .int (nI ncr), .ref bf, .ref xf, .int ls0, .int lsd])), (xf, .inl (cI, 300, .inl X9))] H → va_D A [(hh, .inr (2, [.int (nI nb), .int (nI ncr), .ref bf, .ref xf, .int ls0, .int lsd])), (xf, .inl (cI, 300, .inl X9))] → va_S A s.heap H locs → W p l e (bo_rm 0 0) s m args below meth c H locs 0 0 Q (F0 m 47 ls []) := by
    intro X9 e9 ls H locs hl hP hD hS
    refine lv_aload_n hx hb dd_H_addCrossing_47 rfl (lv_at hl 0 rfl) ?_
    refine lv_dup hx hb dd_H_addCrossing_48 rfl ?_
    refine va_get (D := D) (ci := 2) (v := .int (nI ncr)) (C := RR_H) (T := TT_H) (N := 6) hx hb hts (fun w h => List.mem_cons_of_mem _ (in_H w h)) hown hK hP 0 rfl rfl 1 (by decide) (hts _ (List.mem_cons_of_mem _ wd_157)) (fun _ h9 => h9) rfl dd_H_addCrossing_49 ?_
    refine lv_iconst (v := nI 1) hx hb dd_H_addCrossing_52 (by decide) ?_
    refine bo_iadd hx hb dd_H_addCrossing_53 ?_
    refine va_put (D := D) (ci := 2) (v := .int (nI (ncr + 1))) (ty := .int) (C := RR_H) (T := TT_H) (N := 6) hx hb hts (fun w h => List.mem_cons_of_mem _ (in_H w h)) tt_H ty_H nm_H hown hK hP hD hS 0 rfl rfl 1 (by decide) (hts _ (List.mem_cons_of_mem _ wd_157)) (fun _ h9 => h9) rfl (by decide +kernel) rfl rfl (Nat.le_of_ble_eq_true rfl) dd_H_addCrossing_54 (fun H locs hP hD hS => ?_)
    have hP : va_P D bo_cl [(hh, .inr (2, [.int (nI nb), .int (nI (ncr + 1)), .ref bf, .ref xf, .int ls0, .int lsd])), (xf, .inl (cI, 300, .inl X9))] H := hP
    have hD : va_D A [(hh, .inr (2, [.int (nI nb), .int (nI (ncr + 1)), .ref bf, .ref xf, .int ls0, .int lsd])), (xf, .inl (cI, 300, .inl X9))] := hD
    subst e9
    have hP9 := hP.sub (ws' := [(hh, .inr (2, [.int (nI nb), .int (nI (ncr + 1)), .ref bf, .ref xf, .int ls0, .int lsd])), (xf, .inl (cI, 300, .inl (xC X ncr nb lsd sg)))]) [0, 1] rfl
    have hD9 := hD.sub (ws' := [(hh, .inr (2, [.int (nI nb), .int (nI (ncr + 1)), .ref bf, .ref xf, .int ls0, .int lsd])), (xf, .inl (cI, 300, .inl (xC X ncr nb lsd sg)))]) [0, 1] (by decide) rfl
    exact hret () _ _ _ _ hP9 hD9 hS (trivial) dd_H_addCrossing_57
  refine bo_icmp_ge (tgt := 47) hx hb dd_H_addCrossing_6 rfl (by omega) (by omega) (fun h6 => ?_) (fun h6 => ?_)
  · have hl8 := lv_sub (l' := [(0, .ref hh), (1, .int sg)]) hl [0, 1] rfl
    have hP8 := hP.sub (ws' := [(hh, .inr (2, [.int (nI nb), .int (nI ncr), .ref bf, .ref xf, .int ls0, .int lsd])), (xf, .inl (cI, 300, .inl X))]) [0, 1] rfl
    have hD8 := hD.sub (ws' := [(hh, .inr (2, [.int (nI nb), .int (nI ncr), .ref bf, .ref xf, .int ls0, .int lsd])), (xf, .inl (cI, 300, .inl X))]) [0, 1] (by decide) rfl
    exact jn47 X (by first | exact (if_neg (by omega)).symm | exact (if_pos (by omega)).symm) _ _ _ hl8 hP8 hD8 hS
  · refine lv_aload_n hx hb dd_H_addCrossing_9 rfl (lv_at hl 0 rfl) ?_
    refine va_get (D := D) (ci := 2) (v := .int (nI ncr)) (C := RR_H) (T := TT_H) (N := 6) hx hb hts (fun w h => List.mem_cons_of_mem _ (in_H w h)) hown hK hP 0 rfl rfl 1 (by decide) (hts _ (List.mem_cons_of_mem _ wd_157)) (fun _ h9 => h9) rfl dd_H_addCrossing_10 ?_
    refine lv_iconst (v := nI 3) hx hb dd_H_addCrossing_13 (by decide) ?_
    refine bo_imul hx hb dd_H_addCrossing_14 ?_
    refine lv_istore_n (lv' := [(2, .int (nI (ncr * 3))), (0, .ref hh), (1, .int sg)]) hx hb dd_H_addCrossing_15 rfl hl (by decide) rfl (fun ls hl => ?_)
    refine lv_aload_n hx hb dd_H_addCrossing_16 rfl (lv_at hl 1 rfl) ?_
    refine va_get (D := D) (ci := 2) (v := .ref xf) (C := RR_H) (T := TT_H) (N := 6) hx hb hts (fun w h => List.mem_cons_of_mem _ (in_H w h)) hown hK hP 0 rfl rfl 3 (by decide) (hts _ (List.mem_cons_of_mem _ wd_160)) (fun _ h9 => h9) rfl dd_H_addCrossing_17 ?_
    refine lv_iload_n hx hb dd_H_addCrossing_20 rfl (lv_at hl 0 rfl) ?_
    refine lv_aload_n hx hb dd_H_addCrossing_21 rfl (lv_at hl 1 rfl) ?_
    refine va_get (D := D) (ci := 2) (v := .int lsd) (C := RR_H) (T := TT_H) (N := 6) hx hb hts (fun w h => List.mem_cons_of_mem _ (in_H w h)) hown hK hP 0 rfl rfl 5 (by decide) (hts _ (List.mem_cons_of_mem _ wd_162)) (fun _ h9 => h9) rfl dd_H_addCrossing_22 ?_
    refine bo_iast hx hb hK hP hD hS 1 1 rfl rfl (by omega) (by decide) dd_H_addCrossing_25 (fun H locs hP hD hS => ?_)
    have hP : va_P D bo_cl [(hh, .inr (2, [.int (nI nb), .int (nI ncr), .ref bf, .ref xf, .int ls0, .int lsd])), (xf, .inl (cI, 300, .inl (upd X (ncr * 3) lsd)))] H := hP
    have hD : va_D A [(hh, .inr (2, [.int (nI nb), .int (nI ncr), .ref bf, .ref xf, .int ls0, .int lsd])), (xf, .inl (cI, 300, .inl (upd X (ncr * 3) lsd)))] := hD
    refine lv_aload_n hx hb dd_H_addCrossing_26 rfl (lv_at hl 1 rfl) ?_
    refine va_get (D := D) (ci := 2) (v := .ref xf) (C := RR_H) (T := TT_H) (N := 6) hx hb hts (fun w h => List.mem_cons_of_mem _ (in_H w h)) hown hK hP 0 rfl rfl 3 (by decide) (hts _ (List.mem_cons_of_mem _ wd_160)) (fun _ h9 => h9) rfl dd_H_addCrossing_27 ?_
    refine lv_iload_n hx hb dd_H_addCrossing_30 rfl (lv_at hl 0 rfl) ?_
    refine lv_iconst (v := nI 1) hx hb dd_H_addCrossing_31 (by decide) ?_
    refine bo_iadd hx hb dd_H_addCrossing_32 ?_
    refine lv_aload_n hx hb dd_H_addCrossing_33 rfl (lv_at hl 1 rfl) ?_
    refine va_get (D := D) (ci := 2) (v := .int (nI nb)) (C := RR_H) (T := TT_H) (N := 6) hx hb hts (fun w h => List.mem_cons_of_mem _ (in_H w h)) hown hK hP 0 rfl rfl 0 (by decide) (hts _ (List.mem_cons_of_mem _ wd_155)) (fun _ h9 => h9) rfl dd_H_addCrossing_34 ?_
    refine bo_iast hx hb hK hP hD hS 1 1 rfl rfl (by omega) (by decide) dd_H_addCrossing_37 (fun H locs hP hD hS => ?_)
    have hP : va_P D bo_cl [(hh, .inr (2, [.int (nI nb), .int (nI ncr), .ref bf, .ref xf, .int ls0, .int lsd])), (xf, .inl (cI, 300, .inl (upd (upd X (ncr * 3) lsd) ((ncr * 3) + 1) (nI nb))))] H := hP
    have hD : va_D A [(hh, .inr (2, [.int (nI nb), .int (nI ncr), .ref bf, .ref xf, .int ls0, .int lsd])), (xf, .inl (cI, 300, .inl (upd (upd X (ncr * 3) lsd) ((ncr * 3) + 1) (nI nb))))] := hD
    refine lv_aload_n hx hb dd_H_addCrossing_38 rfl (lv_at hl 1 rfl) ?_
    refine va_get (D := D) (ci := 2) (v := .ref xf) (C := RR_H) (T := TT_H) (N := 6) hx hb hts (fun w h => List.mem_cons_of_mem _ (in_H w h)) hown hK hP 0 rfl rfl 3 (by decide) (hts _ (List.mem_cons_of_mem _ wd_160)) (fun _ h9 => h9) rfl dd_H_addCrossing_39 ?_
    refine lv_iload_n hx hb dd_H_addCrossing_42 rfl (lv_at hl 0 rfl) ?_
    refine lv_iconst (v := nI 2) hx hb dd_H_addCrossing_43 (by decide) ?_
    refine bo_iadd hx hb dd_H_addCrossing_44 ?_
    refine lv_iload_n hx hb dd_H_addCrossing_45 rfl (lv_at hl 2 rfl) ?_
    refine bo_iast hx hb hK hP hD hS 1 1 rfl rfl (by omega) (by decide) dd_H_addCrossing_46 (fun H locs hP hD hS => ?_)
    have hP : va_P D bo_cl [(hh, .inr (2, [.int (nI nb), .int (nI ncr), .ref bf, .ref xf, .int ls0, .int lsd])), (xf, .inl (cI, 300, .inl (upd (upd (upd X (ncr * 3) lsd) ((ncr * 3) + 1) (nI nb)) ((ncr * 3) + 2) sg)))] H := hP
    have hD : va_D A [(hh, .inr (2, [.int (nI nb), .int (nI ncr), .ref bf, .ref xf, .int ls0, .int lsd])), (xf, .inl (cI, 300, .inl (upd (upd (upd X (ncr * 3) lsd) ((ncr * 3) + 1) (nI nb)) ((ncr * 3) + 2) sg)))] := hD
    have hl8 := lv_sub (l' := [(0, .ref hh), (1, .int sg)]) hl [1, 2] rfl
    have hP8 := hP.sub (ws' := [(hh, .inr (2, [.int (nI nb), .int (nI ncr), .ref bf, .ref xf, .int ls0, .int lsd])), (xf, .inl (cI, 300, .inl (upd (upd (upd X (ncr * 3) lsd) ((ncr * 3) + 1) (nI nb)) ((ncr * 3) + 2) sg)))]) [0, 1] rfl
    have hD8 := hD.sub (ws' := [(hh, .inr (2, [.int (nI nb), .int (nI ncr), .ref bf, .ref xf, .int ls0, .int lsd])), (xf, .inl (cI, 300, .inl (upd (upd (upd X (ncr * 3) lsd) ((ncr * 3) + 1) (nI nb)) ((ncr * 3) + 2) sg)))]) [0, 1] (by decide) rfl
    exact jn47 (upd (upd (upd X (ncr * 3) lsd) ((ncr * 3) + 1) (nI nb)) ((ncr * 3) + 2) sg) (by first | exact (if_neg (by omega)).symm | exact (if_pos (by omega)).symm) _ _ _ hl8 hP8 hD8 hS

set_option maxHeartbeats 4000000 in
set_option maxRecDepth 100000 in
theorem c_H_noteSign {l : Launch} {D : va_G} {cJ cI cB cY : ClassId} (hh : Nat) (nb : Nat) (ncr : Nat) (bf : Nat) (xf : Nat) (ls0 : Int32) (lsd : Int32) (X : Nat → Int32) (sg : Int32) (hn : nb < 2 ^ 30) (hc : ncr < 2 ^ 30) :
    bo_v (S := Nat × (Nat → Int32)) l D bo_cl (bo_ty cJ cI cB cY) yy_H_noteSign (bo_w yy_H_noteSign bb_H_noteSign 2 none) (bo_rm 1 22) [.ref hh, .int sg] [(hh, .inr (2, [.int (nI nb), .int (nI ncr), .ref bf, .ref xf, .int ls0, .int lsd])), (xf, .inl (cI, 300, .inl X))] (fun u => (u.1, u.2) = hX ncr X ls0 lsd nb sg) (fun u => [(hh, .inr (2, [.int (nI nb), .int (nI u.1), .ref bf, .ref xf, .int sg, .int (nI nb)])), (xf, .inl (cI, 300, .inl u.2))]) := by
  refine bo_enter_v (cc := bb_H_noteSign) (maxL := 2) (by decide) rfl (Nat.le_of_ble_eq_true rfl) ?_
  intro p e s m args below meth c A ls Q hx hb hts hown hml hK hP hD hS hA hl hret
  have hl : lv_has ls 2 [(0, .ref hh), (1, .int sg)] := hl
  refine lv_aload_n hx hb dd_H_noteSign_0 rfl (lv_at hl 0 rfl) ?_
  refine va_get (D := D) (ci := 2) (v := .int ls0) (C := RR_H) (T := TT_H) (N := 6) hx hb hts (fun w h => List.mem_cons_of_mem _ (in_H w h)) hown hK hP 0 rfl rfl 4 (by decide) (hts _ (List.mem_cons_of_mem _ wd_161)) (fun _ h9 => h9) rfl dd_H_noteSign_1 ?_
  refine lv_iload_n hx hb dd_H_noteSign_4 rfl (lv_at hl 1 rfl) ?_
  refine lv_ineg hx hb dd_H_noteSign_5 ?_
  refine lv_icmp_ne (tgt := 14) hx hb dd_H_noteSign_6 rfl (fun h6 => ?_) (fun h6 => ?_)
  · refine lv_aload_n hx hb dd_H_noteSign_14 rfl (lv_at hl 0 rfl) ?_
    refine lv_iload_n hx hb dd_H_noteSign_15 rfl (lv_at hl 1 rfl) ?_
    refine va_put (D := D) (ci := 2) (v := .int sg) (ty := .int) (C := RR_H) (T := TT_H) (N := 6) hx hb hts (fun w h => List.mem_cons_of_mem _ (in_H w h)) tt_H ty_H nm_H hown hK hP hD hS 0 rfl rfl 4 (by decide) (hts _ (List.mem_cons_of_mem _ wd_161)) (fun _ h9 => h9) rfl (by decide +kernel) rfl rfl (Nat.le_of_ble_eq_true rfl) dd_H_noteSign_16 (fun H locs hP hD hS => ?_)
    have hP : va_P D bo_cl [(hh, .inr (2, [.int (nI nb), .int (nI ncr), .ref bf, .ref xf, .int sg, .int lsd])), (xf, .inl (cI, 300, .inl X))] H := hP
    have hD : va_D A [(hh, .inr (2, [.int (nI nb), .int (nI ncr), .ref bf, .ref xf, .int sg, .int lsd])), (xf, .inl (cI, 300, .inl X))] := hD
    refine lv_aload_n hx hb dd_H_noteSign_19 rfl (lv_at hl 0 rfl) ?_
    refine lv_aload_n hx hb dd_H_noteSign_20 rfl (lv_at hl 0 rfl) ?_
    refine va_get (D := D) (ci := 2) (v := .int (nI nb)) (C := RR_H) (T := TT_H) (N := 6) hx hb hts (fun w h => List.mem_cons_of_mem _ (in_H w h)) hown hK hP 0 rfl rfl 0 (by decide) (hts _ (List.mem_cons_of_mem _ wd_155)) (fun _ h9 => h9) rfl dd_H_noteSign_21 ?_
    refine va_put (D := D) (ci := 2) (v := .int (nI nb)) (ty := .int) (C := RR_H) (T := TT_H) (N := 6) hx hb hts (fun w h => List.mem_cons_of_mem _ (in_H w h)) tt_H ty_H nm_H hown hK hP hD hS 0 rfl rfl 5 (by decide) (hts _ (List.mem_cons_of_mem _ wd_162)) (fun _ h9 => h9) rfl (by decide +kernel) rfl rfl (Nat.le_of_ble_eq_true rfl) dd_H_noteSign_24 (fun H locs hP hD hS => ?_)
    have hP : va_P D bo_cl [(hh, .inr (2, [.int (nI nb), .int (nI ncr), .ref bf, .ref xf, .int sg, .int (nI nb)])), (xf, .inl (cI, 300, .inl X))] H := hP
    have hD : va_D A [(hh, .inr (2, [.int (nI nb), .int (nI ncr), .ref bf, .ref xf, .int sg, .int (nI nb)])), (xf, .inl (cI, 300, .inl X))] := hD
    have hP9 := hP.sub (ws' := [(hh, .inr (2, [.int (nI nb), .int (nI ncr), .ref bf, .ref xf, .int sg, .int (nI nb)])), (xf, .inl (cI, 300, .inl X))]) [0, 1] rfl
    have hD9 := hD.sub (ws' := [(hh, .inr (2, [.int (nI nb), .int (nI ncr), .ref bf, .ref xf, .int sg, .int (nI nb)])), (xf, .inl (cI, 300, .inl X))]) [0, 1] (by decide) rfl
    exact hret (ncr, X) _ _ _ _ hP9 hD9 hS (by first | exact (if_neg h6).symm | exact (if_pos h6).symm) dd_H_noteSign_27
  · refine lv_aload_n hx hb dd_H_noteSign_9 rfl (lv_at hl 0 rfl) ?_
    refine lv_iload_n hx hb dd_H_noteSign_10 rfl (lv_at hl 1 rfl) ?_
    refine bo_gov (wr := []) (bo_rV (c_H_addCrossing (l := l) (D := D) (cJ := cJ) (cI := cI) (cB := cB) (cY := cY) hh nb ncr bf xf ls0 lsd X sg (by omega) (by omega) _) ⟨hx, hb, hml, hown, hts⟩ (cwV 1 hts (bo_gV wd_414 wd_416 wp_3 wd_7 wd_417) rfl rfl rfl hd_H_addCrossing (by decide)) hK hP hD [0, 1] rfl (by decide) 0 2 rfl rfl rfl rfl hl.1 rfl (Nat.le_of_ble_eq_true rfl) dd_H_noteSign_11 (by decide)) hP hD hS hA [0, 1] [] rfl rfl (by decide) (by decide) (fun u H locs hu_11 hP hD hS => ?_)
    have hP : va_P D bo_cl [(hh, .inr (2, [.int (nI nb), .int (nI (ncr + 1)), .ref bf, .ref xf, .int ls0, .int lsd])), (xf, .inl (cI, 300, .inl (xC X ncr nb lsd sg)))] H := hP
    have hD : va_D A [(hh, .inr (2, [.int (nI nb), .int (nI (ncr + 1)), .ref bf, .ref xf, .int ls0, .int lsd])), (xf, .inl (cI, 300, .inl (xC X ncr nb lsd sg)))] := hD
    refine lv_aload_n hx hb dd_H_noteSign_14 rfl (lv_at hl 0 rfl) ?_
    refine lv_iload_n hx hb dd_H_noteSign_15 rfl (lv_at hl 1 rfl) ?_
    refine va_put (D := D) (ci := 2) (v := .int sg) (ty := .int) (C := RR_H) (T := TT_H) (N := 6) hx hb hts (fun w h => List.mem_cons_of_mem _ (in_H w h)) tt_H ty_H nm_H hown hK hP hD hS 0 rfl rfl 4 (by decide) (hts _ (List.mem_cons_of_mem _ wd_161)) (fun _ h9 => h9) rfl (by decide +kernel) rfl rfl (Nat.le_of_ble_eq_true rfl) dd_H_noteSign_16 (fun H locs hP hD hS => ?_)
    have hP : va_P D bo_cl [(hh, .inr (2, [.int (nI nb), .int (nI (ncr + 1)), .ref bf, .ref xf, .int sg, .int lsd])), (xf, .inl (cI, 300, .inl (xC X ncr nb lsd sg)))] H := hP
    have hD : va_D A [(hh, .inr (2, [.int (nI nb), .int (nI (ncr + 1)), .ref bf, .ref xf, .int sg, .int lsd])), (xf, .inl (cI, 300, .inl (xC X ncr nb lsd sg)))] := hD
    refine lv_aload_n hx hb dd_H_noteSign_19 rfl (lv_at hl 0 rfl) ?_
    refine lv_aload_n hx hb dd_H_noteSign_20 rfl (lv_at hl 0 rfl) ?_
    refine va_get (D := D) (ci := 2) (v := .int (nI nb)) (C := RR_H) (T := TT_H) (N := 6) hx hb hts (fun w h => List.mem_cons_of_mem _ (in_H w h)) hown hK hP 0 rfl rfl 0 (by decide) (hts _ (List.mem_cons_of_mem _ wd_155)) (fun _ h9 => h9) rfl dd_H_noteSign_21 ?_
    refine va_put (D := D) (ci := 2) (v := .int (nI nb)) (ty := .int) (C := RR_H) (T := TT_H) (N := 6) hx hb hts (fun w h => List.mem_cons_of_mem _ (in_H w h)) tt_H ty_H nm_H hown hK hP hD hS 0 rfl rfl 5 (by decide) (hts _ (List.mem_cons_of_mem _ wd_162)) (fun _ h9 => h9) rfl (by decide +kernel) rfl rfl (Nat.le_of_ble_eq_true rfl) dd_H_noteSign_24 (fun H locs hP hD hS => ?_)
    have hP : va_P D bo_cl [(hh, .inr (2, [.int (nI nb), .int (nI (ncr + 1)), .ref bf, .ref xf, .int sg, .int (nI nb)])), (xf, .inl (cI, 300, .inl (xC X ncr nb lsd sg)))] H := hP
    have hD : va_D A [(hh, .inr (2, [.int (nI nb), .int (nI (ncr + 1)), .ref bf, .ref xf, .int sg, .int (nI nb)])), (xf, .inl (cI, 300, .inl (xC X ncr nb lsd sg)))] := hD
    have hP9 := hP.sub (ws' := [(hh, .inr (2, [.int (nI nb), .int (nI (ncr + 1)), .ref bf, .ref xf, .int sg, .int (nI nb)])), (xf, .inl (cI, 300, .inl (xC X ncr nb lsd sg)))]) [0, 1] rfl
    have hD9 := hD.sub (ws' := [(hh, .inr (2, [.int (nI nb), .int (nI (ncr + 1)), .ref bf, .ref xf, .int sg, .int (nI nb)])), (xf, .inl (cI, 300, .inl (xC X ncr nb lsd sg)))]) [0, 1] (by decide) rfl
    exact hret (ncr + 1, xC X ncr nb lsd sg) _ _ _ _ hP9 hD9 hS (by first | exact (if_neg h6).symm | exact (if_pos h6).symm) dd_H_noteSign_27

set_option maxHeartbeats 4000000 in
set_option maxRecDepth 100000 in
theorem c_H_addBox {l : Launch} {D : va_G} {cJ cI cB cY : ClassId} (hh : Nat) (nb : Nat) (ncr : Nat) (bf : Nat) (xf : Nat) (ls0 : Int32) (lsd : Int32) (B : Nat → Int32) (X : Nat → Int32) (x : Nat) (xla : Nat) (xha : Nat) (xl : Nat → Int64) (xh : Nat → Int64) (pv : Nat) (pvl : Nat) (pvh : Nat) (pf : Nat → Int64) (pg : Nat → Int64) (tm : Int32) (sg : Int32) (hn : nb < 2 ^ 30) (hc : ncr < 2 ^ 30) :
    bo_v (S := (Nat → Int32) × (Nat → Int32) × Nat × Int32 × Int32) l D bo_cl (bo_ty cJ cI cB cY) yy_H_addBox (bo_w yy_H_addBox bb_H_addBox 8 none) (bo_rm 2 43) [.ref hh, .ref x, .ref pv, .int tm, .int sg] [(hh, .inr (2, [.int (nI nb), .int (nI ncr), .ref bf, .ref xf, .int ls0, .int lsd])), (bf, .inl (cI, 5600, .inl B)), (xf, .inl (cI, 300, .inl X)), (x, .inr (7, [.ref xla, .ref xha])), (xla, .inl (cJ, 3, .inr (.inl xl))), (xha, .inl (cJ, 3, .inr (.inl xh))), (pv, .inr (7, [.ref pvl, .ref pvh])), (pvl, .inl (cJ, 3, .inr (.inl pf))), (pvh, .inl (cJ, 3, .inr (.inl pg)))] (fun u => u.1 = bAdd B nb xl xh pf pg tm sg ∧ (u.2.2.1, u.2.1, u.2.2.2.1, u.2.2.2.2) = hN ncr X ls0 lsd nb sg) (fun u => [(hh, .inr (2, [.int (nI (nb + 1)), .int (nI u.2.2.1), .ref bf, .ref xf, .int u.2.2.2.1, .int u.2.2.2.2])), (bf, .inl (cI, 5600, .inl u.1)), (xf, .inl (cI, 300, .inl u.2.1)), (x, .inr (7, [.ref xla, .ref xha])), (xla, .inl (cJ, 3, .inr (.inl xl))), (xha, .inl (cJ, 3, .inr (.inl xh))), (pv, .inr (7, [.ref pvl, .ref pvh])), (pvl, .inl (cJ, 3, .inr (.inl pf))), (pvh, .inl (cJ, 3, .inr (.inl pg)))]) := by
  refine bo_enter_v (cc := bb_H_addBox) (maxL := 8) (by decide) rfl (Nat.le_of_ble_eq_true rfl) ?_
  intro p e s m args below meth c A ls Q hx hb hts hown hml hK hP hD hS hA hl hret
  have hl : lv_has ls 8 [(0, .ref hh), (1, .ref x), (2, .ref pv), (3, .int tm), (4, .int sg)] := hl
  refine lv_aload_n hx hb dd_H_addBox_0 rfl (lv_at hl 0 rfl) ?_
  refine va_get (D := D) (ci := 2) (v := .int (nI nb)) (C := RR_H) (T := TT_H) (N := 6) hx hb hts (fun w h => List.mem_cons_of_mem _ (in_H w h)) hown hK hP 0 rfl rfl 0 (by decide) (hts _ (List.mem_cons_of_mem _ wd_155)) (fun _ h9 => h9) rfl dd_H_addBox_1 ?_
  refine lv_sipush (v := nI 400) hx hb dd_H_addBox_4 (by decide) ?_
  have jn134 : ∀ (B9 : Nat → Int32) (e9 : B9 = bAdd B nb xl xh pf pg tm sg) (ls : Array Slot) (H : Heap) (locs : List Loc), lv_has ls 8 [(0, .ref hh), (1, .ref x), (2, .ref pv), (3, .int tm), (4, .int sg)] → va_P D bo_cl [(hh, .inr (2, [.int (nI nb), .int (nI ncr), .ref bf, .ref xf, .int ls0, .int lsd])), (bf, .inl (cI, 5600, .inl B9)), (xf, .inl (cI, 300, .inl X)), (x, .inr (7, [.ref xla, .ref xha])), (xla, .inl (cJ, 3, .inr (.inl xl))), (xha, .inl (cJ, 3, .inr (.inl xh))), (pv, .inr (7, [.ref pvl, .ref pvh])), (pvl, .inl (cJ, 3, .inr (.inl pf))), (pvh, .inl (cJ, 3, .inr (.inl pg)))] H → va_D A [(hh, .inr (2, [.int (nI nb), .int (nI ncr), .ref bf, .ref xf, .int ls0, .int lsd])), (bf, .inl (cI, 5600, .inl B9)), (xf, .inl (cI, 300, .inl X)), (x, .inr (7, [.ref xla, .ref xha])), (xla, .inl (cJ, 3, .inr (.inl xl))), (xha, .inl (cJ, 3, .inr (.inl xh))), (pv, .inr (7, [.ref pvl, .ref pvh])), (pvl, .inl (cJ, 3, .inr (.inl pf))), (pvh, .inl (cJ, 3, .inr (.inl pg)))] → va_S A s.heap H locs → W p l e (bo_rm 2 43) s m args below meth c H locs 0 0 Q (F0 m 134 ls []) := by
    intro B9 e9 ls H locs hl hP hD hS
    refine lv_iload hx hb dd_H_addBox_134 (lv_at hl 4 rfl) ?_
    have jn145 : ∀ (X8 : Nat → Int32) (ncr8 : Nat) (ls8 : Int32) (lsd8 : Int32) (e8 : (ncr8, X8, ls8, lsd8) = hN ncr X ls0 lsd nb sg) (ls : Array Slot) (H : Heap) (locs : List Loc), lv_has ls 8 [(0, .ref hh), (1, .ref x), (2, .ref pv), (3, .int tm), (4, .int sg)] → va_P D bo_cl [(hh, .inr (2, [.int (nI nb), .int (nI ncr8), .ref bf, .ref xf, .int ls8, .int lsd8])), (bf, .inl (cI, 5600, .inl B9)), (xf, .inl (cI, 300, .inl X8)), (x, .inr (7, [.ref xla, .ref xha])), (xla, .inl (cJ, 3, .inr (.inl xl))), (xha, .inl (cJ, 3, .inr (.inl xh))), (pv, .inr (7, [.ref pvl, .ref pvh])), (pvl, .inl (cJ, 3, .inr (.inl pf))), (pvh, .inl (cJ, 3, .inr (.inl pg)))] H → va_D A [(hh, .inr (2, [.int (nI nb), .int (nI ncr8), .ref bf, .ref xf, .int ls8, .int lsd8])), (bf, .inl (cI, 5600, .inl B9)), (xf, .inl (cI, 300, .inl X8)), (x, .inr (7, [.ref xla, .ref xha])), (xla, .inl (cJ, 3, .inr (.inl xl))), (xha, .inl (cJ, 3, .inr (.inl xh))), (pv, .inr (7, [.ref pvl, .ref pvh])), (pvl, .inl (cJ, 3, .inr (.inl pf))), (pvh, .inl (cJ, 3, .inr (.inl pg)))] → va_S A s.heap H locs → W p l e (bo_rm 2 43) s m args below meth c H locs 0 0 Q (F0 m 145 ls []) := by
      intro X8 ncr8 ls8 lsd8 e8 ls H locs hl hP hD hS
      refine lv_aload_n hx hb dd_H_addBox_145 rfl (lv_at hl 0 rfl) ?_
      refine lv_dup hx hb dd_H_addBox_146 rfl ?_
      refine va_get (D := D) (ci := 2) (v := .int (nI nb)) (C := RR_H) (T := TT_H) (N := 6) hx hb hts (fun w h => List.mem_cons_of_mem _ (in_H w h)) hown hK hP 0 rfl rfl 0 (by decide) (hts _ (List.mem_cons_of_mem _ wd_155)) (fun _ h9 => h9) rfl dd_H_addBox_147 ?_
      refine lv_iconst (v := nI 1) hx hb dd_H_addBox_150 (by decide) ?_
      refine bo_iadd hx hb dd_H_addBox_151 ?_
      refine va_put (D := D) (ci := 2) (v := .int (nI (nb + 1))) (ty := .int) (C := RR_H) (T := TT_H) (N := 6) hx hb hts (fun w h => List.mem_cons_of_mem _ (in_H w h)) tt_H ty_H nm_H hown hK hP hD hS 0 rfl rfl 0 (by decide) (hts _ (List.mem_cons_of_mem _ wd_155)) (fun _ h9 => h9) rfl (by decide +kernel) rfl rfl (Nat.le_of_ble_eq_true rfl) dd_H_addBox_152 (fun H locs hP hD hS => ?_)
      have hP : va_P D bo_cl [(hh, .inr (2, [.int (nI (nb + 1)), .int (nI ncr8), .ref bf, .ref xf, .int ls8, .int lsd8])), (bf, .inl (cI, 5600, .inl B9)), (xf, .inl (cI, 300, .inl X8)), (x, .inr (7, [.ref xla, .ref xha])), (xla, .inl (cJ, 3, .inr (.inl xl))), (xha, .inl (cJ, 3, .inr (.inl xh))), (pv, .inr (7, [.ref pvl, .ref pvh])), (pvl, .inl (cJ, 3, .inr (.inl pf))), (pvh, .inl (cJ, 3, .inr (.inl pg)))] H := hP
      have hD : va_D A [(hh, .inr (2, [.int (nI (nb + 1)), .int (nI ncr8), .ref bf, .ref xf, .int ls8, .int lsd8])), (bf, .inl (cI, 5600, .inl B9)), (xf, .inl (cI, 300, .inl X8)), (x, .inr (7, [.ref xla, .ref xha])), (xla, .inl (cJ, 3, .inr (.inl xl))), (xha, .inl (cJ, 3, .inr (.inl xh))), (pv, .inr (7, [.ref pvl, .ref pvh])), (pvl, .inl (cJ, 3, .inr (.inl pf))), (pvh, .inl (cJ, 3, .inr (.inl pg)))] := hD
      have hP9 := hP.sub (ws' := [(hh, .inr (2, [.int (nI (nb + 1)), .int (nI ncr8), .ref bf, .ref xf, .int ls8, .int lsd8])), (bf, .inl (cI, 5600, .inl B9)), (xf, .inl (cI, 300, .inl X8)), (x, .inr (7, [.ref xla, .ref xha])), (xla, .inl (cJ, 3, .inr (.inl xl))), (xha, .inl (cJ, 3, .inr (.inl xh))), (pv, .inr (7, [.ref pvl, .ref pvh])), (pvl, .inl (cJ, 3, .inr (.inl pf))), (pvh, .inl (cJ, 3, .inr (.inl pg)))]) [0, 1, 2, 3, 4, 5, 6, 7, 8] rfl
      have hD9 := hD.sub (ws' := [(hh, .inr (2, [.int (nI (nb + 1)), .int (nI ncr8), .ref bf, .ref xf, .int ls8, .int lsd8])), (bf, .inl (cI, 5600, .inl B9)), (xf, .inl (cI, 300, .inl X8)), (x, .inr (7, [.ref xla, .ref xha])), (xla, .inl (cJ, 3, .inr (.inl xl))), (xha, .inl (cJ, 3, .inr (.inl xh))), (pv, .inr (7, [.ref pvl, .ref pvh])), (pvl, .inl (cJ, 3, .inr (.inl pf))), (pvh, .inl (cJ, 3, .inr (.inl pg)))]) [0, 1, 2, 3, 4, 5, 6, 7, 8] (by decide) rfl
      exact hret (B9, X8, ncr8, ls8, lsd8) _ _ _ _ hP9 hD9 hS (by exact ⟨e9, e8⟩) dd_H_addBox_155
    refine lv_if_eq (tgt := 145) hx hb dd_H_addBox_136 rfl (fun h136 => ?_) (fun h136 => ?_)
    · have hl8 := lv_sub (l' := [(0, .ref hh), (1, .ref x), (2, .ref pv), (3, .int tm), (4, .int sg)]) hl [0, 1, 2, 3, 4] rfl
      have hP8 := hP.sub (ws' := [(hh, .inr (2, [.int (nI nb), .int (nI ncr), .ref bf, .ref xf, .int ls0, .int lsd])), (bf, .inl (cI, 5600, .inl B9)), (xf, .inl (cI, 300, .inl X)), (x, .inr (7, [.ref xla, .ref xha])), (xla, .inl (cJ, 3, .inr (.inl xl))), (xha, .inl (cJ, 3, .inr (.inl xh))), (pv, .inr (7, [.ref pvl, .ref pvh])), (pvl, .inl (cJ, 3, .inr (.inl pf))), (pvh, .inl (cJ, 3, .inr (.inl pg)))]) [0, 1, 2, 3, 4, 5, 6, 7, 8] rfl
      have hD8 := hD.sub (ws' := [(hh, .inr (2, [.int (nI nb), .int (nI ncr), .ref bf, .ref xf, .int ls0, .int lsd])), (bf, .inl (cI, 5600, .inl B9)), (xf, .inl (cI, 300, .inl X)), (x, .inr (7, [.ref xla, .ref xha])), (xla, .inl (cJ, 3, .inr (.inl xl))), (xha, .inl (cJ, 3, .inr (.inl xh))), (pv, .inr (7, [.ref pvl, .ref pvh])), (pvl, .inl (cJ, 3, .inr (.inl pf))), (pvh, .inl (cJ, 3, .inr (.inl pg)))]) [0, 1, 2, 3, 4, 5, 6, 7, 8] (by decide) rfl
      exact jn145 X ncr ls0 lsd (by first | exact (if_pos h136).symm | (unfold hN; rw [if_neg h136, ← hu_142])) _ _ _ hl8 hP8 hD8 hS
    · refine lv_aload_n hx hb dd_H_addBox_139 rfl (lv_at hl 0 rfl) ?_
      refine lv_iload hx hb dd_H_addBox_140 (lv_at hl 4 rfl) ?_
      refine bo_gov (wr := [(bf, .inl (cI, 5600, .inl B9)), (x, .inr (7, [.ref xla, .ref xha])), (xla, .inl (cJ, 3, .inr (.inl xl))), (xha, .inl (cJ, 3, .inr (.inl xh))), (pv, .inr (7, [.ref pvl, .ref pvh])), (pvl, .inl (cJ, 3, .inr (.inl pf))), (pvh, .inl (cJ, 3, .inr (.inl pg)))]) (bo_rV (c_H_noteSign (l := l) (D := D) (cJ := cJ) (cI := cI) (cB := cB) (cY := cY) hh nb ncr bf xf ls0 lsd X sg (by omega) (by omega) _) ⟨hx, hb, hml, hown, hts⟩ (cwV 1 hts (bo_gV wd_410 wd_412 wp_2 wd_7 wd_413) rfl rfl rfl hd_H_noteSign (by decide)) hK hP hD [0, 2] rfl (by decide) 0 2 rfl rfl rfl rfl hl.1 rfl (Nat.le_of_ble_eq_true rfl) dd_H_addBox_142 (by decide)) hP hD hS hA [0, 2] [1, 3, 4, 5, 6, 7, 8] rfl rfl (by decide) (by decide) (fun u H locs hu_142 hP hD hS => ?_)
      obtain ⟨ncr1_142, X1_142⟩ := u
      have hu_142 : (ncr1_142, X1_142) = hX ncr X ls0 lsd nb sg := hu_142
      have hP : va_P D bo_cl [(bf, .inl (cI, 5600, .inl B9)), (x, .inr (7, [.ref xla, .ref xha])), (xla, .inl (cJ, 3, .inr (.inl xl))), (xha, .inl (cJ, 3, .inr (.inl xh))), (pv, .inr (7, [.ref pvl, .ref pvh])), (pvl, .inl (cJ, 3, .inr (.inl pf))), (pvh, .inl (cJ, 3, .inr (.inl pg))), (hh, .inr (2, [.int (nI nb), .int (nI ncr1_142), .ref bf, .ref xf, .int sg, .int (nI nb)])), (xf, .inl (cI, 300, .inl X1_142))] H := hP
      have hD : va_D A [(bf, .inl (cI, 5600, .inl B9)), (x, .inr (7, [.ref xla, .ref xha])), (xla, .inl (cJ, 3, .inr (.inl xl))), (xha, .inl (cJ, 3, .inr (.inl xh))), (pv, .inr (7, [.ref pvl, .ref pvh])), (pvl, .inl (cJ, 3, .inr (.inl pf))), (pvh, .inl (cJ, 3, .inr (.inl pg))), (hh, .inr (2, [.int (nI nb), .int (nI ncr1_142), .ref bf, .ref xf, .int sg, .int (nI nb)])), (xf, .inl (cI, 300, .inl X1_142))] := hD
      have hl8 := lv_sub (l' := [(0, .ref hh), (1, .ref x), (2, .ref pv), (3, .int tm), (4, .int sg)]) hl [0, 1, 2, 3, 4] rfl
      have hP8 := hP.sub (ws' := [(hh, .inr (2, [.int (nI nb), .int (nI ncr1_142), .ref bf, .ref xf, .int sg, .int (nI nb)])), (bf, .inl (cI, 5600, .inl B9)), (xf, .inl (cI, 300, .inl X1_142)), (x, .inr (7, [.ref xla, .ref xha])), (xla, .inl (cJ, 3, .inr (.inl xl))), (xha, .inl (cJ, 3, .inr (.inl xh))), (pv, .inr (7, [.ref pvl, .ref pvh])), (pvl, .inl (cJ, 3, .inr (.inl pf))), (pvh, .inl (cJ, 3, .inr (.inl pg)))]) [7, 0, 8, 1, 2, 3, 4, 5, 6] rfl
      have hD8 := hD.sub (ws' := [(hh, .inr (2, [.int (nI nb), .int (nI ncr1_142), .ref bf, .ref xf, .int sg, .int (nI nb)])), (bf, .inl (cI, 5600, .inl B9)), (xf, .inl (cI, 300, .inl X1_142)), (x, .inr (7, [.ref xla, .ref xha])), (xla, .inl (cJ, 3, .inr (.inl xl))), (xha, .inl (cJ, 3, .inr (.inl xh))), (pv, .inr (7, [.ref pvl, .ref pvh])), (pvl, .inl (cJ, 3, .inr (.inl pf))), (pvh, .inl (cJ, 3, .inr (.inl pg)))]) [7, 0, 8, 1, 2, 3, 4, 5, 6] (by decide) rfl
      exact jn145 X1_142 ncr1_142 sg (nI nb) (by first | exact (if_pos h136).symm | (unfold hN; rw [if_neg h136, ← hu_142])) _ _ _ hl8 hP8 hD8 hS
  refine bo_icmp_ge (tgt := 134) hx hb dd_H_addBox_7 rfl (by omega) (by omega) (fun h7 => ?_) (fun h7 => ?_)
  · have hl8 := lv_sub (l' := [(0, .ref hh), (1, .ref x), (2, .ref pv), (3, .int tm), (4, .int sg)]) hl [0, 1, 2, 3, 4] rfl
    have hP8 := hP.sub (ws' := [(hh, .inr (2, [.int (nI nb), .int (nI ncr), .ref bf, .ref xf, .int ls0, .int lsd])), (bf, .inl (cI, 5600, .inl B)), (xf, .inl (cI, 300, .inl X)), (x, .inr (7, [.ref xla, .ref xha])), (xla, .inl (cJ, 3, .inr (.inl xl))), (xha, .inl (cJ, 3, .inr (.inl xh))), (pv, .inr (7, [.ref pvl, .ref pvh])), (pvl, .inl (cJ, 3, .inr (.inl pf))), (pvh, .inl (cJ, 3, .inr (.inl pg)))]) [0, 1, 2, 3, 4, 5, 6, 7, 8] rfl
    have hD8 := hD.sub (ws' := [(hh, .inr (2, [.int (nI nb), .int (nI ncr), .ref bf, .ref xf, .int ls0, .int lsd])), (bf, .inl (cI, 5600, .inl B)), (xf, .inl (cI, 300, .inl X)), (x, .inr (7, [.ref xla, .ref xha])), (xla, .inl (cJ, 3, .inr (.inl xl))), (xha, .inl (cJ, 3, .inr (.inl xh))), (pv, .inr (7, [.ref pvl, .ref pvh])), (pvl, .inl (cJ, 3, .inr (.inl pf))), (pvh, .inl (cJ, 3, .inr (.inl pg)))]) [0, 1, 2, 3, 4, 5, 6, 7, 8] (by decide) rfl
    exact jn134 B (by first | exact (if_neg (by omega)).symm | (have hv3 : v = 3 := (by omega); subst hv3; subst hz; exact (if_pos (by omega)).symm)) _ _ _ hl8 hP8 hD8 hS
  · refine lv_aload_n hx hb dd_H_addBox_10 rfl (lv_at hl 0 rfl) ?_
    refine va_get (D := D) (ci := 2) (v := .int (nI nb)) (C := RR_H) (T := TT_H) (N := 6) hx hb hts (fun w h => List.mem_cons_of_mem _ (in_H w h)) hown hK hP 0 rfl rfl 0 (by decide) (hts _ (List.mem_cons_of_mem _ wd_155)) (fun _ h9 => h9) rfl dd_H_addBox_11 ?_
    refine lv_bipush (v := nI 14) hx hb dd_H_addBox_14 (by decide) ?_
    refine bo_imul hx hb dd_H_addBox_16 ?_
    refine lv_istore (lv' := [(5, .int (nI (nb * 14))), (0, .ref hh), (1, .ref x), (2, .ref pv), (3, .int tm), (4, .int sg)]) hx hb dd_H_addBox_17 hl (by decide) rfl (fun ls hl => ?_)
    refine lv_iconst (v := nI 0) hx hb dd_H_addBox_19 (by decide) ?_
    refine lv_istore (lv' := [(6, .int (nI 0)), (5, .int (nI (nb * 14))), (0, .ref hh), (1, .ref x), (2, .ref pv), (3, .int tm), (4, .int sg)]) hx hb dd_H_addBox_20 hl (by decide) rfl (fun ls hl => ?_)
    have lo22 : ∀ (fu : Nat) (v : Nat) (B2 : Nat → Int32) (hv : v ≤ 3) (hz : B2 = bL B nb xl xh pf pg v) (ls : Array Slot) (H : Heap) (locs : List Loc), (3 - v) < fu → lv_has ls 8 [(0, .ref hh), (1, .ref x), (2, .ref pv), (3, .int tm), (4, .int sg), (5, .int (nI (nb * 14))), (6, .int (nI v))] → va_P D bo_cl [(hh, .inr (2, [.int (nI nb), .int (nI ncr), .ref bf, .ref xf, .int ls0, .int lsd])), (bf, .inl (cI, 5600, .inl B2)), (xf, .inl (cI, 300, .inl X)), (x, .inr (7, [.ref xla, .ref xha])), (xla, .inl (cJ, 3, .inr (.inl xl))), (xha, .inl (cJ, 3, .inr (.inl xh))), (pv, .inr (7, [.ref pvl, .ref pvh])), (pvl, .inl (cJ, 3, .inr (.inl pf))), (pvh, .inl (cJ, 3, .inr (.inl pg)))] H → va_D A [(hh, .inr (2, [.int (nI nb), .int (nI ncr), .ref bf, .ref xf, .int ls0, .int lsd])), (bf, .inl (cI, 5600, .inl B2)), (xf, .inl (cI, 300, .inl X)), (x, .inr (7, [.ref xla, .ref xha])), (xla, .inl (cJ, 3, .inr (.inl xl))), (xha, .inl (cJ, 3, .inr (.inl xh))), (pv, .inr (7, [.ref pvl, .ref pvh])), (pvl, .inl (cJ, 3, .inr (.inl pf))), (pvh, .inl (cJ, 3, .inr (.inl pg)))] → va_S A s.heap H locs → W p l e (bo_rm 2 43) s m args below meth c H locs 0 0 Q (F0 m 22 ls []) := by
      intro fu22
      induction fu22 with
      | zero => intro v B2 hv hz ls H locs hfu; exact absurd hfu (Nat.not_lt_zero _)
      | succ fu22 ih22 =>
        intro v B2 hv hz ls H locs hfu22 hl hP hD hS
        refine lv_iload hx hb dd_H_addBox_22 (lv_at hl 6 rfl) ?_
        refine lv_iconst (v := nI 3) hx hb dd_H_addBox_24 (by decide) ?_
        refine bo_icmp_ge (tgt := 109) hx hb dd_H_addBox_25 rfl (by omega) (by omega) (fun h25 => ?_) (fun h25 => ?_)
        · refine lv_aload_n hx hb dd_H_addBox_109 rfl (lv_at hl 0 rfl) ?_
          refine va_get (D := D) (ci := 2) (v := .ref bf) (C := RR_H) (T := TT_H) (N := 6) hx hb hts (fun w h => List.mem_cons_of_mem _ (in_H w h)) hown hK hP 0 rfl rfl 2 (by decide) (hts _ (List.mem_cons_of_mem _ wd_159)) (fun _ h9 => h9) rfl dd_H_addBox_110 ?_
          refine lv_iload hx hb dd_H_addBox_113 (lv_at hl 5 rfl) ?_
          refine lv_bipush (v := nI 12) hx hb dd_H_addBox_115 (by decide) ?_
          refine bo_iadd hx hb dd_H_addBox_117 ?_
          refine lv_iload_n hx hb dd_H_addBox_118 rfl (lv_at hl 3 rfl) ?_
          refine bo_iast hx hb hK hP hD hS 1 1 rfl rfl (by omega) (by decide) dd_H_addBox_119 (fun H locs hP hD hS => ?_)
          have hP : va_P D bo_cl [(hh, .inr (2, [.int (nI nb), .int (nI ncr), .ref bf, .ref xf, .int ls0, .int lsd])), (bf, .inl (cI, 5600, .inl (upd B2 ((nb * 14) + 12) tm))), (xf, .inl (cI, 300, .inl X)), (x, .inr (7, [.ref xla, .ref xha])), (xla, .inl (cJ, 3, .inr (.inl xl))), (xha, .inl (cJ, 3, .inr (.inl xh))), (pv, .inr (7, [.ref pvl, .ref pvh])), (pvl, .inl (cJ, 3, .inr (.inl pf))), (pvh, .inl (cJ, 3, .inr (.inl pg)))] H := hP
          have hD : va_D A [(hh, .inr (2, [.int (nI nb), .int (nI ncr), .ref bf, .ref xf, .int ls0, .int lsd])), (bf, .inl (cI, 5600, .inl (upd B2 ((nb * 14) + 12) tm))), (xf, .inl (cI, 300, .inl X)), (x, .inr (7, [.ref xla, .ref xha])), (xla, .inl (cJ, 3, .inr (.inl xl))), (xha, .inl (cJ, 3, .inr (.inl xh))), (pv, .inr (7, [.ref pvl, .ref pvh])), (pvl, .inl (cJ, 3, .inr (.inl pf))), (pvh, .inl (cJ, 3, .inr (.inl pg)))] := hD
          refine lv_aload_n hx hb dd_H_addBox_120 rfl (lv_at hl 0 rfl) ?_
          refine va_get (D := D) (ci := 2) (v := .ref bf) (C := RR_H) (T := TT_H) (N := 6) hx hb hts (fun w h => List.mem_cons_of_mem _ (in_H w h)) hown hK hP 0 rfl rfl 2 (by decide) (hts _ (List.mem_cons_of_mem _ wd_159)) (fun _ h9 => h9) rfl dd_H_addBox_121 ?_
          refine lv_iload hx hb dd_H_addBox_124 (lv_at hl 5 rfl) ?_
          refine lv_bipush (v := nI 12) hx hb dd_H_addBox_126 (by decide) ?_
          refine bo_iadd hx hb dd_H_addBox_128 ?_
          refine lv_iconst (v := nI 1) hx hb dd_H_addBox_129 (by decide) ?_
          refine bo_iadd hx hb dd_H_addBox_130 ?_
          refine lv_iload hx hb dd_H_addBox_131 (lv_at hl 4 rfl) ?_
          refine bo_iast hx hb hK hP hD hS 1 1 rfl rfl (by omega) (by decide) dd_H_addBox_133 (fun H locs hP hD hS => ?_)
          have hP : va_P D bo_cl [(hh, .inr (2, [.int (nI nb), .int (nI ncr), .ref bf, .ref xf, .int ls0, .int lsd])), (bf, .inl (cI, 5600, .inl (upd (upd B2 ((nb * 14) + 12) tm) (((nb * 14) + 12) + 1) sg))), (xf, .inl (cI, 300, .inl X)), (x, .inr (7, [.ref xla, .ref xha])), (xla, .inl (cJ, 3, .inr (.inl xl))), (xha, .inl (cJ, 3, .inr (.inl xh))), (pv, .inr (7, [.ref pvl, .ref pvh])), (pvl, .inl (cJ, 3, .inr (.inl pf))), (pvh, .inl (cJ, 3, .inr (.inl pg)))] H := hP
          have hD : va_D A [(hh, .inr (2, [.int (nI nb), .int (nI ncr), .ref bf, .ref xf, .int ls0, .int lsd])), (bf, .inl (cI, 5600, .inl (upd (upd B2 ((nb * 14) + 12) tm) (((nb * 14) + 12) + 1) sg))), (xf, .inl (cI, 300, .inl X)), (x, .inr (7, [.ref xla, .ref xha])), (xla, .inl (cJ, 3, .inr (.inl xl))), (xha, .inl (cJ, 3, .inr (.inl xh))), (pv, .inr (7, [.ref pvl, .ref pvh])), (pvl, .inl (cJ, 3, .inr (.inl pf))), (pvh, .inl (cJ, 3, .inr (.inl pg)))] := hD
          have hl8 := lv_sub (l' := [(0, .ref hh), (1, .ref x), (2, .ref pv), (3, .int tm), (4, .int sg)]) hl [0, 1, 2, 3, 4] rfl
          have hP8 := hP.sub (ws' := [(hh, .inr (2, [.int (nI nb), .int (nI ncr), .ref bf, .ref xf, .int ls0, .int lsd])), (bf, .inl (cI, 5600, .inl (upd (upd B2 ((nb * 14) + 12) tm) (((nb * 14) + 12) + 1) sg))), (xf, .inl (cI, 300, .inl X)), (x, .inr (7, [.ref xla, .ref xha])), (xla, .inl (cJ, 3, .inr (.inl xl))), (xha, .inl (cJ, 3, .inr (.inl xh))), (pv, .inr (7, [.ref pvl, .ref pvh])), (pvl, .inl (cJ, 3, .inr (.inl pf))), (pvh, .inl (cJ, 3, .inr (.inl pg)))]) [0, 1, 2, 3, 4, 5, 6, 7, 8] rfl
          have hD8 := hD.sub (ws' := [(hh, .inr (2, [.int (nI nb), .int (nI ncr), .ref bf, .ref xf, .int ls0, .int lsd])), (bf, .inl (cI, 5600, .inl (upd (upd B2 ((nb * 14) + 12) tm) (((nb * 14) + 12) + 1) sg))), (xf, .inl (cI, 300, .inl X)), (x, .inr (7, [.ref xla, .ref xha])), (xla, .inl (cJ, 3, .inr (.inl xl))), (xha, .inl (cJ, 3, .inr (.inl xh))), (pv, .inr (7, [.ref pvl, .ref pvh])), (pvl, .inl (cJ, 3, .inr (.inl pf))), (pvh, .inl (cJ, 3, .inr (.inl pg)))]) [0, 1, 2, 3, 4, 5, 6, 7, 8] (by decide) rfl
          exact jn134 (upd (upd B2 ((nb * 14) + 12) tm) (((nb * 14) + 12) + 1) sg) (by first | exact (if_neg (by omega)).symm | (have hv3 : v = 3 := (by omega); subst hv3; subst hz; exact (if_pos (by omega)).symm)) _ _ _ hl8 hP8 hD8 hS
        · refine lv_iload hx hb dd_H_addBox_28 (lv_at hl 5 rfl) ?_
          refine lv_iload hx hb dd_H_addBox_30 (lv_at hl 6 rfl) ?_
          refine lv_iconst (v := nI 4) hx hb dd_H_addBox_32 (by decide) ?_
          refine bo_imul hx hb dd_H_addBox_33 ?_
          refine bo_iadd hx hb dd_H_addBox_34 ?_
          refine lv_istore (lv' := [(7, .int (nI ((nb * 14) + (v * 4)))), (0, .ref hh), (1, .ref x), (2, .ref pv), (3, .int tm), (4, .int sg), (5, .int (nI (nb * 14))), (6, .int (nI v))]) hx hb dd_H_addBox_35 hl (by decide) rfl (fun ls hl => ?_)
          refine lv_aload_n hx hb dd_H_addBox_37 rfl (lv_at hl 1 rfl) ?_
          refine va_get (D := D) (ci := 2) (v := .ref bf) (C := RR_H) (T := TT_H) (N := 6) hx hb hts (fun w h => List.mem_cons_of_mem _ (in_H w h)) hown hK hP 0 rfl rfl 2 (by decide) (hts _ (List.mem_cons_of_mem _ wd_159)) (fun _ h9 => h9) rfl dd_H_addBox_38 ?_
          refine lv_iload hx hb dd_H_addBox_41 (lv_at hl 0 rfl) ?_
          refine lv_aload_n hx hb dd_H_addBox_43 rfl (lv_at hl 2 rfl) ?_
          refine va_get (D := D) (ci := 7) (v := .ref xla) (C := RR_R) (T := TT_R) (N := 2) hx hb hts (fun w h => List.mem_cons_of_mem _ (in_R w h)) hown hK hP 3 rfl rfl 0 (by decide) (hts _ (List.mem_cons_of_mem _ wd_80)) (fun _ h9 => h9) rfl dd_H_addBox_44 ?_
          refine lv_iload hx hb dd_H_addBox_47 (lv_at hl 7 rfl) ?_
          refine bo_lald hx hb hK hP 4 0 rfl rfl (by omega) (by decide) dd_H_addBox_49 ?_
          refine lv_l2i (v := (xl v).toInt32) hx hb dd_H_addBox_50 rfl ?_
          refine bo_iast hx hb hK hP hD hS 1 1 rfl rfl (by omega) (by decide) dd_H_addBox_51 (fun H locs hP hD hS => ?_)
          have hP : va_P D bo_cl [(hh, .inr (2, [.int (nI nb), .int (nI ncr), .ref bf, .ref xf, .int ls0, .int lsd])), (bf, .inl (cI, 5600, .inl (upd B2 ((nb * 14) + (v * 4)) ((xl v).toInt32)))), (xf, .inl (cI, 300, .inl X)), (x, .inr (7, [.ref xla, .ref xha])), (xla, .inl (cJ, 3, .inr (.inl xl))), (xha, .inl (cJ, 3, .inr (.inl xh))), (pv, .inr (7, [.ref pvl, .ref pvh])), (pvl, .inl (cJ, 3, .inr (.inl pf))), (pvh, .inl (cJ, 3, .inr (.inl pg)))] H := hP
          have hD : va_D A [(hh, .inr (2, [.int (nI nb), .int (nI ncr), .ref bf, .ref xf, .int ls0, .int lsd])), (bf, .inl (cI, 5600, .inl (upd B2 ((nb * 14) + (v * 4)) ((xl v).toInt32)))), (xf, .inl (cI, 300, .inl X)), (x, .inr (7, [.ref xla, .ref xha])), (xla, .inl (cJ, 3, .inr (.inl xl))), (xha, .inl (cJ, 3, .inr (.inl xh))), (pv, .inr (7, [.ref pvl, .ref pvh])), (pvl, .inl (cJ, 3, .inr (.inl pf))), (pvh, .inl (cJ, 3, .inr (.inl pg)))] := hD
          refine lv_aload_n hx hb dd_H_addBox_52 rfl (lv_at hl 1 rfl) ?_
          refine va_get (D := D) (ci := 2) (v := .ref bf) (C := RR_H) (T := TT_H) (N := 6) hx hb hts (fun w h => List.mem_cons_of_mem _ (in_H w h)) hown hK hP 0 rfl rfl 2 (by decide) (hts _ (List.mem_cons_of_mem _ wd_159)) (fun _ h9 => h9) rfl dd_H_addBox_53 ?_
          refine lv_iload hx hb dd_H_addBox_56 (lv_at hl 0 rfl) ?_
          refine lv_iconst (v := nI 1) hx hb dd_H_addBox_58 (by decide) ?_
          refine bo_iadd hx hb dd_H_addBox_59 ?_
          refine lv_aload_n hx hb dd_H_addBox_60 rfl (lv_at hl 2 rfl) ?_
          refine va_get (D := D) (ci := 7) (v := .ref xha) (C := RR_R) (T := TT_R) (N := 2) hx hb hts (fun w h => List.mem_cons_of_mem _ (in_R w h)) hown hK hP 3 rfl rfl 1 (by decide) (hts _ (List.mem_cons_of_mem _ wd_88)) (fun _ h9 => h9) rfl dd_H_addBox_61 ?_
          refine lv_iload hx hb dd_H_addBox_64 (lv_at hl 7 rfl) ?_
          refine bo_lald hx hb hK hP 5 0 rfl rfl (by omega) (by decide) dd_H_addBox_66 ?_
          refine lv_l2i (v := (xh v).toInt32) hx hb dd_H_addBox_67 rfl ?_
          refine bo_iast hx hb hK hP hD hS 1 1 rfl rfl (by omega) (by decide) dd_H_addBox_68 (fun H locs hP hD hS => ?_)
          have hP : va_P D bo_cl [(hh, .inr (2, [.int (nI nb), .int (nI ncr), .ref bf, .ref xf, .int ls0, .int lsd])), (bf, .inl (cI, 5600, .inl (upd (upd B2 ((nb * 14) + (v * 4)) ((xl v).toInt32)) (((nb * 14) + (v * 4)) + 1) ((xh v).toInt32)))), (xf, .inl (cI, 300, .inl X)), (x, .inr (7, [.ref xla, .ref xha])), (xla, .inl (cJ, 3, .inr (.inl xl))), (xha, .inl (cJ, 3, .inr (.inl xh))), (pv, .inr (7, [.ref pvl, .ref pvh])), (pvl, .inl (cJ, 3, .inr (.inl pf))), (pvh, .inl (cJ, 3, .inr (.inl pg)))] H := hP
          have hD : va_D A [(hh, .inr (2, [.int (nI nb), .int (nI ncr), .ref bf, .ref xf, .int ls0, .int lsd])), (bf, .inl (cI, 5600, .inl (upd (upd B2 ((nb * 14) + (v * 4)) ((xl v).toInt32)) (((nb * 14) + (v * 4)) + 1) ((xh v).toInt32)))), (xf, .inl (cI, 300, .inl X)), (x, .inr (7, [.ref xla, .ref xha])), (xla, .inl (cJ, 3, .inr (.inl xl))), (xha, .inl (cJ, 3, .inr (.inl xh))), (pv, .inr (7, [.ref pvl, .ref pvh])), (pvl, .inl (cJ, 3, .inr (.inl pf))), (pvh, .inl (cJ, 3, .inr (.inl pg)))] := hD
          refine lv_aload_n hx hb dd_H_addBox_69 rfl (lv_at hl 1 rfl) ?_
          refine va_get (D := D) (ci := 2) (v := .ref bf) (C := RR_H) (T := TT_H) (N := 6) hx hb hts (fun w h => List.mem_cons_of_mem _ (in_H w h)) hown hK hP 0 rfl rfl 2 (by decide) (hts _ (List.mem_cons_of_mem _ wd_159)) (fun _ h9 => h9) rfl dd_H_addBox_70 ?_
          refine lv_iload hx hb dd_H_addBox_73 (lv_at hl 0 rfl) ?_
          refine lv_iconst (v := nI 2) hx hb dd_H_addBox_75 (by decide) ?_
          refine bo_iadd hx hb dd_H_addBox_76 ?_
          refine lv_aload_n hx hb dd_H_addBox_77 rfl (lv_at hl 3 rfl) ?_
          refine va_get (D := D) (ci := 7) (v := .ref pvl) (C := RR_R) (T := TT_R) (N := 2) hx hb hts (fun w h => List.mem_cons_of_mem _ (in_R w h)) hown hK hP 6 rfl rfl 0 (by decide) (hts _ (List.mem_cons_of_mem _ wd_80)) (fun _ h9 => h9) rfl dd_H_addBox_78 ?_
          refine lv_iload hx hb dd_H_addBox_81 (lv_at hl 7 rfl) ?_
          refine bo_lald hx hb hK hP 7 0 rfl rfl (by omega) (by decide) dd_H_addBox_83 ?_
          refine lv_l2i (v := (pf v).toInt32) hx hb dd_H_addBox_84 rfl ?_
          refine bo_iast hx hb hK hP hD hS 1 1 rfl rfl (by omega) (by decide) dd_H_addBox_85 (fun H locs hP hD hS => ?_)
          have hP : va_P D bo_cl [(hh, .inr (2, [.int (nI nb), .int (nI ncr), .ref bf, .ref xf, .int ls0, .int lsd])), (bf, .inl (cI, 5600, .inl (upd (upd (upd B2 ((nb * 14) + (v * 4)) ((xl v).toInt32)) (((nb * 14) + (v * 4)) + 1) ((xh v).toInt32)) (((nb * 14) + (v * 4)) + 2) ((pf v).toInt32)))), (xf, .inl (cI, 300, .inl X)), (x, .inr (7, [.ref xla, .ref xha])), (xla, .inl (cJ, 3, .inr (.inl xl))), (xha, .inl (cJ, 3, .inr (.inl xh))), (pv, .inr (7, [.ref pvl, .ref pvh])), (pvl, .inl (cJ, 3, .inr (.inl pf))), (pvh, .inl (cJ, 3, .inr (.inl pg)))] H := hP
          have hD : va_D A [(hh, .inr (2, [.int (nI nb), .int (nI ncr), .ref bf, .ref xf, .int ls0, .int lsd])), (bf, .inl (cI, 5600, .inl (upd (upd (upd B2 ((nb * 14) + (v * 4)) ((xl v).toInt32)) (((nb * 14) + (v * 4)) + 1) ((xh v).toInt32)) (((nb * 14) + (v * 4)) + 2) ((pf v).toInt32)))), (xf, .inl (cI, 300, .inl X)), (x, .inr (7, [.ref xla, .ref xha])), (xla, .inl (cJ, 3, .inr (.inl xl))), (xha, .inl (cJ, 3, .inr (.inl xh))), (pv, .inr (7, [.ref pvl, .ref pvh])), (pvl, .inl (cJ, 3, .inr (.inl pf))), (pvh, .inl (cJ, 3, .inr (.inl pg)))] := hD
          refine lv_aload_n hx hb dd_H_addBox_86 rfl (lv_at hl 1 rfl) ?_
          refine va_get (D := D) (ci := 2) (v := .ref bf) (C := RR_H) (T := TT_H) (N := 6) hx hb hts (fun w h => List.mem_cons_of_mem _ (in_H w h)) hown hK hP 0 rfl rfl 2 (by decide) (hts _ (List.mem_cons_of_mem _ wd_159)) (fun _ h9 => h9) rfl dd_H_addBox_87 ?_
          refine lv_iload hx hb dd_H_addBox_90 (lv_at hl 0 rfl) ?_
          refine lv_iconst (v := nI 3) hx hb dd_H_addBox_92 (by decide) ?_
          refine bo_iadd hx hb dd_H_addBox_93 ?_
          refine lv_aload_n hx hb dd_H_addBox_94 rfl (lv_at hl 3 rfl) ?_
          refine va_get (D := D) (ci := 7) (v := .ref pvh) (C := RR_R) (T := TT_R) (N := 2) hx hb hts (fun w h => List.mem_cons_of_mem _ (in_R w h)) hown hK hP 6 rfl rfl 1 (by decide) (hts _ (List.mem_cons_of_mem _ wd_88)) (fun _ h9 => h9) rfl dd_H_addBox_95 ?_
          refine lv_iload hx hb dd_H_addBox_98 (lv_at hl 7 rfl) ?_
          refine bo_lald hx hb hK hP 8 0 rfl rfl (by omega) (by decide) dd_H_addBox_100 ?_
          refine lv_l2i (v := (pg v).toInt32) hx hb dd_H_addBox_101 rfl ?_
          refine bo_iast hx hb hK hP hD hS 1 1 rfl rfl (by omega) (by decide) dd_H_addBox_102 (fun H locs hP hD hS => ?_)
          have hP : va_P D bo_cl [(hh, .inr (2, [.int (nI nb), .int (nI ncr), .ref bf, .ref xf, .int ls0, .int lsd])), (bf, .inl (cI, 5600, .inl (upd (upd (upd (upd B2 ((nb * 14) + (v * 4)) ((xl v).toInt32)) (((nb * 14) + (v * 4)) + 1) ((xh v).toInt32)) (((nb * 14) + (v * 4)) + 2) ((pf v).toInt32)) (((nb * 14) + (v * 4)) + 3) ((pg v).toInt32)))), (xf, .inl (cI, 300, .inl X)), (x, .inr (7, [.ref xla, .ref xha])), (xla, .inl (cJ, 3, .inr (.inl xl))), (xha, .inl (cJ, 3, .inr (.inl xh))), (pv, .inr (7, [.ref pvl, .ref pvh])), (pvl, .inl (cJ, 3, .inr (.inl pf))), (pvh, .inl (cJ, 3, .inr (.inl pg)))] H := hP
          have hD : va_D A [(hh, .inr (2, [.int (nI nb), .int (nI ncr), .ref bf, .ref xf, .int ls0, .int lsd])), (bf, .inl (cI, 5600, .inl (upd (upd (upd (upd B2 ((nb * 14) + (v * 4)) ((xl v).toInt32)) (((nb * 14) + (v * 4)) + 1) ((xh v).toInt32)) (((nb * 14) + (v * 4)) + 2) ((pf v).toInt32)) (((nb * 14) + (v * 4)) + 3) ((pg v).toInt32)))), (xf, .inl (cI, 300, .inl X)), (x, .inr (7, [.ref xla, .ref xha])), (xla, .inl (cJ, 3, .inr (.inl xl))), (xha, .inl (cJ, 3, .inr (.inl xh))), (pv, .inr (7, [.ref pvl, .ref pvh])), (pvl, .inl (cJ, 3, .inr (.inl pf))), (pvh, .inl (cJ, 3, .inr (.inl pg)))] := hD
          refine lv_iinc (k := 7) (x := nI v) (v := nI (v + 1)) (lv' := [(6, .int (nI (v + 1))), (7, .int (nI ((nb * 14) + (v * 4)))), (0, .ref hh), (1, .ref x), (2, .ref pv), (3, .int tm), (4, .int sg), (5, .int (nI (nb * 14)))]) hx hb dd_H_addBox_103 hl rfl (nI_add _ 1) (by decide) rfl (fun ls hl => ?_)
          refine lv_goto (tgt := 22) hx hb dd_H_addBox_106 rfl ?_
          have hl8 := lv_sub (l' := [(0, .ref hh), (1, .ref x), (2, .ref pv), (3, .int tm), (4, .int sg), (5, .int (nI (nb * 14))), (6, .int (nI (v + 1)))]) hl [2, 3, 4, 5, 6, 7, 0] rfl
          have hP8 := hP.sub (ws' := [(hh, .inr (2, [.int (nI nb), .int (nI ncr), .ref bf, .ref xf, .int ls0, .int lsd])), (bf, .inl (cI, 5600, .inl (upd (upd (upd (upd B2 ((nb * 14) + (v * 4)) ((xl v).toInt32)) (((nb * 14) + (v * 4)) + 1) ((xh v).toInt32)) (((nb * 14) + (v * 4)) + 2) ((pf v).toInt32)) (((nb * 14) + (v * 4)) + 3) ((pg v).toInt32)))), (xf, .inl (cI, 300, .inl X)), (x, .inr (7, [.ref xla, .ref xha])), (xla, .inl (cJ, 3, .inr (.inl xl))), (xha, .inl (cJ, 3, .inr (.inl xh))), (pv, .inr (7, [.ref pvl, .ref pvh])), (pvl, .inl (cJ, 3, .inr (.inl pf))), (pvh, .inl (cJ, 3, .inr (.inl pg)))]) [0, 1, 2, 3, 4, 5, 6, 7, 8] rfl
          have hD8 := hD.sub (ws' := [(hh, .inr (2, [.int (nI nb), .int (nI ncr), .ref bf, .ref xf, .int ls0, .int lsd])), (bf, .inl (cI, 5600, .inl (upd (upd (upd (upd B2 ((nb * 14) + (v * 4)) ((xl v).toInt32)) (((nb * 14) + (v * 4)) + 1) ((xh v).toInt32)) (((nb * 14) + (v * 4)) + 2) ((pf v).toInt32)) (((nb * 14) + (v * 4)) + 3) ((pg v).toInt32)))), (xf, .inl (cI, 300, .inl X)), (x, .inr (7, [.ref xla, .ref xha])), (xla, .inl (cJ, 3, .inr (.inl xl))), (xha, .inl (cJ, 3, .inr (.inl xh))), (pv, .inr (7, [.ref pvl, .ref pvh])), (pvl, .inl (cJ, 3, .inr (.inl pf))), (pvh, .inl (cJ, 3, .inr (.inl pg)))]) [0, 1, 2, 3, 4, 5, 6, 7, 8] (by decide) rfl
          exact ih22 (v + 1) (upd (upd (upd (upd B2 ((nb * 14) + (v * 4)) ((xl v).toInt32)) (((nb * 14) + (v * 4)) + 1) ((xh v).toInt32)) (((nb * 14) + (v * 4)) + 2) ((pf v).toInt32)) (((nb * 14) + (v * 4)) + 3) ((pg v).toInt32)) (by omega) (by subst hz; rfl) _ _ _ (by omega) hl8 hP8 hD8 hS
    have hl8 := lv_sub (l' := [(0, .ref hh), (1, .ref x), (2, .ref pv), (3, .int tm), (4, .int sg), (5, .int (nI (nb * 14))), (6, .int (nI 0))]) hl [2, 3, 4, 5, 6, 1, 0] rfl
    have hP8 := hP.sub (ws' := [(hh, .inr (2, [.int (nI nb), .int (nI ncr), .ref bf, .ref xf, .int ls0, .int lsd])), (bf, .inl (cI, 5600, .inl B)), (xf, .inl (cI, 300, .inl X)), (x, .inr (7, [.ref xla, .ref xha])), (xla, .inl (cJ, 3, .inr (.inl xl))), (xha, .inl (cJ, 3, .inr (.inl xh))), (pv, .inr (7, [.ref pvl, .ref pvh])), (pvl, .inl (cJ, 3, .inr (.inl pf))), (pvh, .inl (cJ, 3, .inr (.inl pg)))]) [0, 1, 2, 3, 4, 5, 6, 7, 8] rfl
    have hD8 := hD.sub (ws' := [(hh, .inr (2, [.int (nI nb), .int (nI ncr), .ref bf, .ref xf, .int ls0, .int lsd])), (bf, .inl (cI, 5600, .inl B)), (xf, .inl (cI, 300, .inl X)), (x, .inr (7, [.ref xla, .ref xha])), (xla, .inl (cJ, 3, .inr (.inl xl))), (xha, .inl (cJ, 3, .inr (.inl xh))), (pv, .inr (7, [.ref pvl, .ref pvh])), (pvl, .inl (cJ, 3, .inr (.inl pf))), (pvh, .inl (cJ, 3, .inr (.inl pg)))]) [0, 1, 2, 3, 4, 5, 6, 7, 8] (by decide) rfl
    exact lo22 ((3 - 0) + 1) 0 B (by omega) (by rfl) _ _ _ (Nat.lt_succ_self _) hl8 hP8 hD8 hS

set_option maxHeartbeats 4000000 in
set_option maxRecDepth 100000 in
theorem c_H_addBox2 {l : Launch} {D : va_G} {cJ cI cB cY : ClassId} (hh : Nat) (nb : Nat) (ncr : Nat) (bf : Nat) (xf : Nat) (ls0 : Int32) (lsd : Int32) (B : Nat → Int32) (X : Nat → Int32) (x : Nat) (xla : Nat) (xha : Nat) (xl : Nat → Int64) (xh : Nat → Int64) (tm : Int32) (sg : Int32) (hn : nb < 2 ^ 30) (hc : ncr < 2 ^ 30) :
    bo_v (S := (Nat → Int32) × (Nat → Int32) × Nat × Int32 × Int32) l D bo_cl (bo_ty cJ cI cB cY) yy_H_addBox (bo_w yy_H_addBox bb_H_addBox 8 none) (bo_rm 2 43) [.ref hh, .ref x, .ref x, .int tm, .int sg] [(hh, .inr (2, [.int (nI nb), .int (nI ncr), .ref bf, .ref xf, .int ls0, .int lsd])), (bf, .inl (cI, 5600, .inl B)), (xf, .inl (cI, 300, .inl X)), (x, .inr (7, [.ref xla, .ref xha])), (xla, .inl (cJ, 3, .inr (.inl xl))), (xha, .inl (cJ, 3, .inr (.inl xh)))] (fun u => u.1 = bAdd B nb xl xh xl xh tm sg ∧ (u.2.2.1, u.2.1, u.2.2.2.1, u.2.2.2.2) = hN ncr X ls0 lsd nb sg) (fun u => [(hh, .inr (2, [.int (nI (nb + 1)), .int (nI u.2.2.1), .ref bf, .ref xf, .int u.2.2.2.1, .int u.2.2.2.2])), (bf, .inl (cI, 5600, .inl u.1)), (xf, .inl (cI, 300, .inl u.2.1)), (x, .inr (7, [.ref xla, .ref xha])), (xla, .inl (cJ, 3, .inr (.inl xl))), (xha, .inl (cJ, 3, .inr (.inl xh)))]) := by
  refine bo_enter_v (cc := bb_H_addBox) (maxL := 8) (by decide) rfl (Nat.le_of_ble_eq_true rfl) ?_
  intro p e s m args below meth c A ls Q hx hb hts hown hml hK hP hD hS hA hl hret
  have hl : lv_has ls 8 [(0, .ref hh), (1, .ref x), (2, .ref x), (3, .int tm), (4, .int sg)] := hl
  refine lv_aload_n hx hb dd_H_addBox_0 rfl (lv_at hl 0 rfl) ?_
  refine va_get (D := D) (ci := 2) (v := .int (nI nb)) (C := RR_H) (T := TT_H) (N := 6) hx hb hts (fun w h => List.mem_cons_of_mem _ (in_H w h)) hown hK hP 0 rfl rfl 0 (by decide) (hts _ (List.mem_cons_of_mem _ wd_155)) (fun _ h9 => h9) rfl dd_H_addBox_1 ?_
  refine lv_sipush (v := nI 400) hx hb dd_H_addBox_4 (by decide) ?_
  have jn134 : ∀ (B9 : Nat → Int32) (e9 : B9 = bAdd B nb xl xh xl xh tm sg) (ls : Array Slot) (H : Heap) (locs : List Loc), lv_has ls 8 [(0, .ref hh), (1, .ref x), (2, .ref x), (3, .int tm), (4, .int sg)] → va_P D bo_cl [(hh, .inr (2, [.int (nI nb), .int (nI ncr), .ref bf, .ref xf, .int ls0, .int lsd])), (bf, .inl (cI, 5600, .inl B9)), (xf, .inl (cI, 300, .inl X)), (x, .inr (7, [.ref xla, .ref xha])), (xla, .inl (cJ, 3, .inr (.inl xl))), (xha, .inl (cJ, 3, .inr (.inl xh)))] H → va_D A [(hh, .inr (2, [.int (nI nb), .int (nI ncr), .ref bf, .ref xf, .int ls0, .int lsd])), (bf, .inl (cI, 5600, .inl B9)), (xf, .inl (cI, 300, .inl X)), (x, .inr (7, [.ref xla, .ref xha])), (xla, .inl (cJ, 3, .inr (.inl xl))), (xha, .inl (cJ, 3, .inr (.inl xh)))] → va_S A s.heap H locs → W p l e (bo_rm 2 43) s m args below meth c H locs 0 0 Q (F0 m 134 ls []) := by
    intro B9 e9 ls H locs hl hP hD hS
    refine lv_iload hx hb dd_H_addBox_134 (lv_at hl 4 rfl) ?_
    have jn145 : ∀ (X8 : Nat → Int32) (ncr8 : Nat) (ls8 : Int32) (lsd8 : Int32) (e8 : (ncr8, X8, ls8, lsd8) = hN ncr X ls0 lsd nb sg) (ls : Array Slot) (H : Heap) (locs : List Loc), lv_has ls 8 [(0, .ref hh), (1, .ref x), (2, .ref x), (3, .int tm), (4, .int sg)] → va_P D bo_cl [(hh, .inr (2, [.int (nI nb), .int (nI ncr8), .ref bf, .ref xf, .int ls8, .int lsd8])), (bf, .inl (cI, 5600, .inl B9)), (xf, .inl (cI, 300, .inl X8)), (x, .inr (7, [.ref xla, .ref xha])), (xla, .inl (cJ, 3, .inr (.inl xl))), (xha, .inl (cJ, 3, .inr (.inl xh)))] H → va_D A [(hh, .inr (2, [.int (nI nb), .int (nI ncr8), .ref bf, .ref xf, .int ls8, .int lsd8])), (bf, .inl (cI, 5600, .inl B9)), (xf, .inl (cI, 300, .inl X8)), (x, .inr (7, [.ref xla, .ref xha])), (xla, .inl (cJ, 3, .inr (.inl xl))), (xha, .inl (cJ, 3, .inr (.inl xh)))] → va_S A s.heap H locs → W p l e (bo_rm 2 43) s m args below meth c H locs 0 0 Q (F0 m 145 ls []) := by
      intro X8 ncr8 ls8 lsd8 e8 ls H locs hl hP hD hS
      refine lv_aload_n hx hb dd_H_addBox_145 rfl (lv_at hl 0 rfl) ?_
      refine lv_dup hx hb dd_H_addBox_146 rfl ?_
      refine va_get (D := D) (ci := 2) (v := .int (nI nb)) (C := RR_H) (T := TT_H) (N := 6) hx hb hts (fun w h => List.mem_cons_of_mem _ (in_H w h)) hown hK hP 0 rfl rfl 0 (by decide) (hts _ (List.mem_cons_of_mem _ wd_155)) (fun _ h9 => h9) rfl dd_H_addBox_147 ?_
      refine lv_iconst (v := nI 1) hx hb dd_H_addBox_150 (by decide) ?_
      refine bo_iadd hx hb dd_H_addBox_151 ?_
      refine va_put (D := D) (ci := 2) (v := .int (nI (nb + 1))) (ty := .int) (C := RR_H) (T := TT_H) (N := 6) hx hb hts (fun w h => List.mem_cons_of_mem _ (in_H w h)) tt_H ty_H nm_H hown hK hP hD hS 0 rfl rfl 0 (by decide) (hts _ (List.mem_cons_of_mem _ wd_155)) (fun _ h9 => h9) rfl (by decide +kernel) rfl rfl (Nat.le_of_ble_eq_true rfl) dd_H_addBox_152 (fun H locs hP hD hS => ?_)
      have hP : va_P D bo_cl [(hh, .inr (2, [.int (nI (nb + 1)), .int (nI ncr8), .ref bf, .ref xf, .int ls8, .int lsd8])), (bf, .inl (cI, 5600, .inl B9)), (xf, .inl (cI, 300, .inl X8)), (x, .inr (7, [.ref xla, .ref xha])), (xla, .inl (cJ, 3, .inr (.inl xl))), (xha, .inl (cJ, 3, .inr (.inl xh)))] H := hP
      have hD : va_D A [(hh, .inr (2, [.int (nI (nb + 1)), .int (nI ncr8), .ref bf, .ref xf, .int ls8, .int lsd8])), (bf, .inl (cI, 5600, .inl B9)), (xf, .inl (cI, 300, .inl X8)), (x, .inr (7, [.ref xla, .ref xha])), (xla, .inl (cJ, 3, .inr (.inl xl))), (xha, .inl (cJ, 3, .inr (.inl xh)))] := hD
      have hP9 := hP.sub (ws' := [(hh, .inr (2, [.int (nI (nb + 1)), .int (nI ncr8), .ref bf, .ref xf, .int ls8, .int lsd8])), (bf, .inl (cI, 5600, .inl B9)), (xf, .inl (cI, 300, .inl X8)), (x, .inr (7, [.ref xla, .ref xha])), (xla, .inl (cJ, 3, .inr (.inl xl))), (xha, .inl (cJ, 3, .inr (.inl xh)))]) [0, 1, 2, 3, 4, 5] rfl
      have hD9 := hD.sub (ws' := [(hh, .inr (2, [.int (nI (nb + 1)), .int (nI ncr8), .ref bf, .ref xf, .int ls8, .int lsd8])), (bf, .inl (cI, 5600, .inl B9)), (xf, .inl (cI, 300, .inl X8)), (x, .inr (7, [.ref xla, .ref xha])), (xla, .inl (cJ, 3, .inr (.inl xl))), (xha, .inl (cJ, 3, .inr (.inl xh)))]) [0, 1, 2, 3, 4, 5] (by decide) rfl
      exact hret (B9, X8, ncr8, ls8, lsd8) _ _ _ _ hP9 hD9 hS (by exact ⟨e9, e8⟩) dd_H_addBox_155
    refine lv_if_eq (tgt := 145) hx hb dd_H_addBox_136 rfl (fun h136 => ?_) (fun h136 => ?_)
    · have hl8 := lv_sub (l' := [(0, .ref hh), (1, .ref x), (2, .ref x), (3, .int tm), (4, .int sg)]) hl [0, 1, 2, 3, 4] rfl
      have hP8 := hP.sub (ws' := [(hh, .inr (2, [.int (nI nb), .int (nI ncr), .ref bf, .ref xf, .int ls0, .int lsd])), (bf, .inl (cI, 5600, .inl B9)), (xf, .inl (cI, 300, .inl X)), (x, .inr (7, [.ref xla, .ref xha])), (xla, .inl (cJ, 3, .inr (.inl xl))), (xha, .inl (cJ, 3, .inr (.inl xh)))]) [0, 1, 2, 3, 4, 5] rfl
      have hD8 := hD.sub (ws' := [(hh, .inr (2, [.int (nI nb), .int (nI ncr), .ref bf, .ref xf, .int ls0, .int lsd])), (bf, .inl (cI, 5600, .inl B9)), (xf, .inl (cI, 300, .inl X)), (x, .inr (7, [.ref xla, .ref xha])), (xla, .inl (cJ, 3, .inr (.inl xl))), (xha, .inl (cJ, 3, .inr (.inl xh)))]) [0, 1, 2, 3, 4, 5] (by decide) rfl
      exact jn145 X ncr ls0 lsd (by first | exact (if_pos h136).symm | (unfold hN; rw [if_neg h136, ← hu_142])) _ _ _ hl8 hP8 hD8 hS
    · refine lv_aload_n hx hb dd_H_addBox_139 rfl (lv_at hl 0 rfl) ?_
      refine lv_iload hx hb dd_H_addBox_140 (lv_at hl 4 rfl) ?_
      refine bo_gov (wr := [(bf, .inl (cI, 5600, .inl B9)), (x, .inr (7, [.ref xla, .ref xha])), (xla, .inl (cJ, 3, .inr (.inl xl))), (xha, .inl (cJ, 3, .inr (.inl xh)))]) (bo_rV (c_H_noteSign (l := l) (D := D) (cJ := cJ) (cI := cI) (cB := cB) (cY := cY) hh nb ncr bf xf ls0 lsd X sg (by omega) (by omega) _) ⟨hx, hb, hml, hown, hts⟩ (cwV 1 hts (bo_gV wd_410 wd_412 wp_2 wd_7 wd_413) rfl rfl rfl hd_H_noteSign (by decide)) hK hP hD [0, 2] rfl (by decide) 0 2 rfl rfl rfl rfl hl.1 rfl (Nat.le_of_ble_eq_true rfl) dd_H_addBox_142 (by decide)) hP hD hS hA [0, 2] [1, 3, 4, 5] rfl rfl (by decide) (by decide) (fun u H locs hu_142 hP hD hS => ?_)
      obtain ⟨ncr1_142, X1_142⟩ := u
      have hu_142 : (ncr1_142, X1_142) = hX ncr X ls0 lsd nb sg := hu_142
      have hP : va_P D bo_cl [(bf, .inl (cI, 5600, .inl B9)), (x, .inr (7, [.ref xla, .ref xha])), (xla, .inl (cJ, 3, .inr (.inl xl))), (xha, .inl (cJ, 3, .inr (.inl xh))), (hh, .inr (2, [.int (nI nb), .int (nI ncr1_142), .ref bf, .ref xf, .int sg, .int (nI nb)])), (xf, .inl (cI, 300, .inl X1_142))] H := hP
      have hD : va_D A [(bf, .inl (cI, 5600, .inl B9)), (x, .inr (7, [.ref xla, .ref xha])), (xla, .inl (cJ, 3, .inr (.inl xl))), (xha, .inl (cJ, 3, .inr (.inl xh))), (hh, .inr (2, [.int (nI nb), .int (nI ncr1_142), .ref bf, .ref xf, .int sg, .int (nI nb)])), (xf, .inl (cI, 300, .inl X1_142))] := hD
      have hl8 := lv_sub (l' := [(0, .ref hh), (1, .ref x), (2, .ref x), (3, .int tm), (4, .int sg)]) hl [0, 1, 2, 3, 4] rfl
      have hP8 := hP.sub (ws' := [(hh, .inr (2, [.int (nI nb), .int (nI ncr1_142), .ref bf, .ref xf, .int sg, .int (nI nb)])), (bf, .inl (cI, 5600, .inl B9)), (xf, .inl (cI, 300, .inl X1_142)), (x, .inr (7, [.ref xla, .ref xha])), (xla, .inl (cJ, 3, .inr (.inl xl))), (xha, .inl (cJ, 3, .inr (.inl xh)))]) [4, 0, 5, 1, 2, 3] rfl
      have hD8 := hD.sub (ws' := [(hh, .inr (2, [.int (nI nb), .int (nI ncr1_142), .ref bf, .ref xf, .int sg, .int (nI nb)])), (bf, .inl (cI, 5600, .inl B9)), (xf, .inl (cI, 300, .inl X1_142)), (x, .inr (7, [.ref xla, .ref xha])), (xla, .inl (cJ, 3, .inr (.inl xl))), (xha, .inl (cJ, 3, .inr (.inl xh)))]) [4, 0, 5, 1, 2, 3] (by decide) rfl
      exact jn145 X1_142 ncr1_142 sg (nI nb) (by first | exact (if_pos h136).symm | (unfold hN; rw [if_neg h136, ← hu_142])) _ _ _ hl8 hP8 hD8 hS
  refine bo_icmp_ge (tgt := 134) hx hb dd_H_addBox_7 rfl (by omega) (by omega) (fun h7 => ?_) (fun h7 => ?_)
  · have hl8 := lv_sub (l' := [(0, .ref hh), (1, .ref x), (2, .ref x), (3, .int tm), (4, .int sg)]) hl [0, 1, 2, 3, 4] rfl
    have hP8 := hP.sub (ws' := [(hh, .inr (2, [.int (nI nb), .int (nI ncr), .ref bf, .ref xf, .int ls0, .int lsd])), (bf, .inl (cI, 5600, .inl B)), (xf, .inl (cI, 300, .inl X)), (x, .inr (7, [.ref xla, .ref xha])), (xla, .inl (cJ, 3, .inr (.inl xl))), (xha, .inl (cJ, 3, .inr (.inl xh)))]) [0, 1, 2, 3, 4, 5] rfl
    have hD8 := hD.sub (ws' := [(hh, .inr (2, [.int (nI nb), .int (nI ncr), .ref bf, .ref xf, .int ls0, .int lsd])), (bf, .inl (cI, 5600, .inl B)), (xf, .inl (cI, 300, .inl X)), (x, .inr (7, [.ref xla, .ref xha])), (xla, .inl (cJ, 3, .inr (.inl xl))), (xha, .inl (cJ, 3, .inr (.inl xh)))]) [0, 1, 2, 3, 4, 5] (by decide) rfl
    exact jn134 B (by first | exact (if_neg (by omega)).symm | (have hv3 : v = 3 := (by omega); subst hv3; subst hz; exact (if_pos (by omega)).symm)) _ _ _ hl8 hP8 hD8 hS
  · refine lv_aload_n hx hb dd_H_addBox_10 rfl (lv_at hl 0 rfl) ?_
    refine va_get (D := D) (ci := 2) (v := .int (nI nb)) (C := RR_H) (T := TT_H) (N := 6) hx hb hts (fun w h => List.mem_cons_of_mem _ (in_H w h)) hown hK hP 0 rfl rfl 0 (by decide) (hts _ (List.mem_cons_of_mem _ wd_155)) (fun _ h9 => h9) rfl dd_H_addBox_11 ?_
    refine lv_bipush (v := nI 14) hx hb dd_H_addBox_14 (by decide) ?_
    refine bo_imul hx hb dd_H_addBox_16 ?_
    refine lv_istore (lv' := [(5, .int (nI (nb * 14))), (0, .ref hh), (1, .ref x), (2, .ref x), (3, .int tm), (4, .int sg)]) hx hb dd_H_addBox_17 hl (by decide) rfl (fun ls hl => ?_)
    refine lv_iconst (v := nI 0) hx hb dd_H_addBox_19 (by decide) ?_
    refine lv_istore (lv' := [(6, .int (nI 0)), (5, .int (nI (nb * 14))), (0, .ref hh), (1, .ref x), (2, .ref x), (3, .int tm), (4, .int sg)]) hx hb dd_H_addBox_20 hl (by decide) rfl (fun ls hl => ?_)
    have lo22 : ∀ (fu : Nat) (v : Nat) (B2 : Nat → Int32) (hv : v ≤ 3) (hz : B2 = bL B nb xl xh xl xh v) (ls : Array Slot) (H : Heap) (locs : List Loc), (3 - v) < fu → lv_has ls 8 [(0, .ref hh), (1, .ref x), (2, .ref x), (3, .int tm), (4, .int sg), (5, .int (nI (nb * 14))), (6, .int (nI v))] → va_P D bo_cl [(hh, .inr (2, [.int (nI nb), .int (nI ncr), .ref bf, .ref xf, .int ls0, .int lsd])), (bf, .inl (cI, 5600, .inl B2)), (xf, .inl (cI, 300, .inl X)), (x, .inr (7, [.ref xla, .ref xha])), (xla, .inl (cJ, 3, .inr (.inl xl))), (xha, .inl (cJ, 3, .inr (.inl xh)))] H → va_D A [(hh, .inr (2, [.int (nI nb), .int (nI ncr), .ref bf, .ref xf, .int ls0, .int lsd])), (bf, .inl (cI, 5600, .inl B2)), (xf, .inl (cI, 300, .inl X)), (x, .inr (7, [.ref xla, .ref xha])), (xla, .inl (cJ, 3, .inr (.inl xl))), (xha, .inl (cJ, 3, .inr (.inl xh)))] → va_S A s.heap H locs → W p l e (bo_rm 2 43) s m args below meth c H locs 0 0 Q (F0 m 22 ls []) := by
      intro fu22
      induction fu22 with
      | zero => intro v B2 hv hz ls H locs hfu; exact absurd hfu (Nat.not_lt_zero _)
      | succ fu22 ih22 =>
        intro v B2 hv hz ls H locs hfu22 hl hP hD hS
        refine lv_iload hx hb dd_H_addBox_22 (lv_at hl 6 rfl) ?_
        refine lv_iconst (v := nI 3) hx hb dd_H_addBox_24 (by decide) ?_
        refine bo_icmp_ge (tgt := 109) hx hb dd_H_addBox_25 rfl (by omega) (by omega) (fun h25 => ?_) (fun h25 => ?_)
        · refine lv_aload_n hx hb dd_H_addBox_109 rfl (lv_at hl 0 rfl) ?_
          refine va_get (D := D) (ci := 2) (v := .ref bf) (C := RR_H) (T := TT_H) (N := 6) hx hb hts (fun w h => List.mem_cons_of_mem _ (in_H w h)) hown hK hP 0 rfl rfl 2 (by decide) (hts _ (List.mem_cons_of_mem _ wd_159)) (fun _ h9 => h9) rfl dd_H_addBox_110 ?_
          refine lv_iload hx hb dd_H_addBox_113 (lv_at hl 5 rfl) ?_
          refine lv_bipush (v := nI 12) hx hb dd_H_addBox_115 (by decide) ?_
          refine bo_iadd hx hb dd_H_addBox_117 ?_
          refine lv_iload_n hx hb dd_H_addBox_118 rfl (lv_at hl 3 rfl) ?_
          refine bo_iast hx hb hK hP hD hS 1 1 rfl rfl (by omega) (by decide) dd_H_addBox_119 (fun H locs hP hD hS => ?_)
          have hP : va_P D bo_cl [(hh, .inr (2, [.int (nI nb), .int (nI ncr), .ref bf, .ref xf, .int ls0, .int lsd])), (bf, .inl (cI, 5600, .inl (upd B2 ((nb * 14) + 12) tm))), (xf, .inl (cI, 300, .inl X)), (x, .inr (7, [.ref xla, .ref xha])), (xla, .inl (cJ, 3, .inr (.inl xl))), (xha, .inl (cJ, 3, .inr (.inl xh)))] H := hP
          have hD : va_D A [(hh, .inr (2, [.int (nI nb), .int (nI ncr), .ref bf, .ref xf, .int ls0, .int lsd])), (bf, .inl (cI, 5600, .inl (upd B2 ((nb * 14) + 12) tm))), (xf, .inl (cI, 300, .inl X)), (x, .inr (7, [.ref xla, .ref xha])), (xla, .inl (cJ, 3, .inr (.inl xl))), (xha, .inl (cJ, 3, .inr (.inl xh)))] := hD
          refine lv_aload_n hx hb dd_H_addBox_120 rfl (lv_at hl 0 rfl) ?_
          refine va_get (D := D) (ci := 2) (v := .ref bf) (C := RR_H) (T := TT_H) (N := 6) hx hb hts (fun w h => List.mem_cons_of_mem _ (in_H w h)) hown hK hP 0 rfl rfl 2 (by decide) (hts _ (List.mem_cons_of_mem _ wd_159)) (fun _ h9 => h9) rfl dd_H_addBox_121 ?_
          refine lv_iload hx hb dd_H_addBox_124 (lv_at hl 5 rfl) ?_
          refine lv_bipush (v := nI 12) hx hb dd_H_addBox_126 (by decide) ?_
          refine bo_iadd hx hb dd_H_addBox_128 ?_
          refine lv_iconst (v := nI 1) hx hb dd_H_addBox_129 (by decide) ?_
          refine bo_iadd hx hb dd_H_addBox_130 ?_
          refine lv_iload hx hb dd_H_addBox_131 (lv_at hl 4 rfl) ?_
          refine bo_iast hx hb hK hP hD hS 1 1 rfl rfl (by omega) (by decide) dd_H_addBox_133 (fun H locs hP hD hS => ?_)
          have hP : va_P D bo_cl [(hh, .inr (2, [.int (nI nb), .int (nI ncr), .ref bf, .ref xf, .int ls0, .int lsd])), (bf, .inl (cI, 5600, .inl (upd (upd B2 ((nb * 14) + 12) tm) (((nb * 14) + 12) + 1) sg))), (xf, .inl (cI, 300, .inl X)), (x, .inr (7, [.ref xla, .ref xha])), (xla, .inl (cJ, 3, .inr (.inl xl))), (xha, .inl (cJ, 3, .inr (.inl xh)))] H := hP
          have hD : va_D A [(hh, .inr (2, [.int (nI nb), .int (nI ncr), .ref bf, .ref xf, .int ls0, .int lsd])), (bf, .inl (cI, 5600, .inl (upd (upd B2 ((nb * 14) + 12) tm) (((nb * 14) + 12) + 1) sg))), (xf, .inl (cI, 300, .inl X)), (x, .inr (7, [.ref xla, .ref xha])), (xla, .inl (cJ, 3, .inr (.inl xl))), (xha, .inl (cJ, 3, .inr (.inl xh)))] := hD
          have hl8 := lv_sub (l' := [(0, .ref hh), (1, .ref x), (2, .ref x), (3, .int tm), (4, .int sg)]) hl [0, 1, 2, 3, 4] rfl
          have hP8 := hP.sub (ws' := [(hh, .inr (2, [.int (nI nb), .int (nI ncr), .ref bf, .ref xf, .int ls0, .int lsd])), (bf, .inl (cI, 5600, .inl (upd (upd B2 ((nb * 14) + 12) tm) (((nb * 14) + 12) + 1) sg))), (xf, .inl (cI, 300, .inl X)), (x, .inr (7, [.ref xla, .ref xha])), (xla, .inl (cJ, 3, .inr (.inl xl))), (xha, .inl (cJ, 3, .inr (.inl xh)))]) [0, 1, 2, 3, 4, 5] rfl
          have hD8 := hD.sub (ws' := [(hh, .inr (2, [.int (nI nb), .int (nI ncr), .ref bf, .ref xf, .int ls0, .int lsd])), (bf, .inl (cI, 5600, .inl (upd (upd B2 ((nb * 14) + 12) tm) (((nb * 14) + 12) + 1) sg))), (xf, .inl (cI, 300, .inl X)), (x, .inr (7, [.ref xla, .ref xha])), (xla, .inl (cJ, 3, .inr (.inl xl))), (xha, .inl (cJ, 3, .inr (.inl xh)))]) [0, 1, 2, 3, 4, 5] (by decide) rfl
          exact jn134 (upd (upd B2 ((nb * 14) + 12) tm) (((nb * 14) + 12) + 1) sg) (by first | exact (if_neg (by omega)).symm | (have hv3 : v = 3 := (by omega); subst hv3; subst hz; exact (if_pos (by omega)).symm)) _ _ _ hl8 hP8 hD8 hS
        · refine lv_iload hx hb dd_H_addBox_28 (lv_at hl 5 rfl) ?_
          refine lv_iload hx hb dd_H_addBox_30 (lv_at hl 6 rfl) ?_
          refine lv_iconst (v := nI 4) hx hb dd_H_addBox_32 (by decide) ?_
          refine bo_imul hx hb dd_H_addBox_33 ?_
          refine bo_iadd hx hb dd_H_addBox_34 ?_
          refine lv_istore (lv' := [(7, .int (nI ((nb * 14) + (v * 4)))), (0, .ref hh), (1, .ref x), (2, .ref x), (3, .int tm), (4, .int sg), (5, .int (nI (nb * 14))), (6, .int (nI v))]) hx hb dd_H_addBox_35 hl (by decide) rfl (fun ls hl => ?_)
          refine lv_aload_n hx hb dd_H_addBox_37 rfl (lv_at hl 1 rfl) ?_
          refine va_get (D := D) (ci := 2) (v := .ref bf) (C := RR_H) (T := TT_H) (N := 6) hx hb hts (fun w h => List.mem_cons_of_mem _ (in_H w h)) hown hK hP 0 rfl rfl 2 (by decide) (hts _ (List.mem_cons_of_mem _ wd_159)) (fun _ h9 => h9) rfl dd_H_addBox_38 ?_
          refine lv_iload hx hb dd_H_addBox_41 (lv_at hl 0 rfl) ?_
          refine lv_aload_n hx hb dd_H_addBox_43 rfl (lv_at hl 2 rfl) ?_
          refine va_get (D := D) (ci := 7) (v := .ref xla) (C := RR_R) (T := TT_R) (N := 2) hx hb hts (fun w h => List.mem_cons_of_mem _ (in_R w h)) hown hK hP 3 rfl rfl 0 (by decide) (hts _ (List.mem_cons_of_mem _ wd_80)) (fun _ h9 => h9) rfl dd_H_addBox_44 ?_
          refine lv_iload hx hb dd_H_addBox_47 (lv_at hl 7 rfl) ?_
          refine bo_lald hx hb hK hP 4 0 rfl rfl (by omega) (by decide) dd_H_addBox_49 ?_
          refine lv_l2i (v := (xl v).toInt32) hx hb dd_H_addBox_50 rfl ?_
          refine bo_iast hx hb hK hP hD hS 1 1 rfl rfl (by omega) (by decide) dd_H_addBox_51 (fun H locs hP hD hS => ?_)
          have hP : va_P D bo_cl [(hh, .inr (2, [.int (nI nb), .int (nI ncr), .ref bf, .ref xf, .int ls0, .int lsd])), (bf, .inl (cI, 5600, .inl (upd B2 ((nb * 14) + (v * 4)) ((xl v).toInt32)))), (xf, .inl (cI, 300, .inl X)), (x, .inr (7, [.ref xla, .ref xha])), (xla, .inl (cJ, 3, .inr (.inl xl))), (xha, .inl (cJ, 3, .inr (.inl xh)))] H := hP
          have hD : va_D A [(hh, .inr (2, [.int (nI nb), .int (nI ncr), .ref bf, .ref xf, .int ls0, .int lsd])), (bf, .inl (cI, 5600, .inl (upd B2 ((nb * 14) + (v * 4)) ((xl v).toInt32)))), (xf, .inl (cI, 300, .inl X)), (x, .inr (7, [.ref xla, .ref xha])), (xla, .inl (cJ, 3, .inr (.inl xl))), (xha, .inl (cJ, 3, .inr (.inl xh)))] := hD
          refine lv_aload_n hx hb dd_H_addBox_52 rfl (lv_at hl 1 rfl) ?_
          refine va_get (D := D) (ci := 2) (v := .ref bf) (C := RR_H) (T := TT_H) (N := 6) hx hb hts (fun w h => List.mem_cons_of_mem _ (in_H w h)) hown hK hP 0 rfl rfl 2 (by decide) (hts _ (List.mem_cons_of_mem _ wd_159)) (fun _ h9 => h9) rfl dd_H_addBox_53 ?_
          refine lv_iload hx hb dd_H_addBox_56 (lv_at hl 0 rfl) ?_
          refine lv_iconst (v := nI 1) hx hb dd_H_addBox_58 (by decide) ?_
          refine bo_iadd hx hb dd_H_addBox_59 ?_
          refine lv_aload_n hx hb dd_H_addBox_60 rfl (lv_at hl 2 rfl) ?_
          refine va_get (D := D) (ci := 7) (v := .ref xha) (C := RR_R) (T := TT_R) (N := 2) hx hb hts (fun w h => List.mem_cons_of_mem _ (in_R w h)) hown hK hP 3 rfl rfl 1 (by decide) (hts _ (List.mem_cons_of_mem _ wd_88)) (fun _ h9 => h9) rfl dd_H_addBox_61 ?_
          refine lv_iload hx hb dd_H_addBox_64 (lv_at hl 7 rfl) ?_
          refine bo_lald hx hb hK hP 5 0 rfl rfl (by omega) (by decide) dd_H_addBox_66 ?_
          refine lv_l2i (v := (xh v).toInt32) hx hb dd_H_addBox_67 rfl ?_
          refine bo_iast hx hb hK hP hD hS 1 1 rfl rfl (by omega) (by decide) dd_H_addBox_68 (fun H locs hP hD hS => ?_)
          have hP : va_P D bo_cl [(hh, .inr (2, [.int (nI nb), .int (nI ncr), .ref bf, .ref xf, .int ls0, .int lsd])), (bf, .inl (cI, 5600, .inl (upd (upd B2 ((nb * 14) + (v * 4)) ((xl v).toInt32)) (((nb * 14) + (v * 4)) + 1) ((xh v).toInt32)))), (xf, .inl (cI, 300, .inl X)), (x, .inr (7, [.ref xla, .ref xha])), (xla, .inl (cJ, 3, .inr (.inl xl))), (xha, .inl (cJ, 3, .inr (.inl xh)))] H := hP
          have hD : va_D A [(hh, .inr (2, [.int (nI nb), .int (nI ncr), .ref bf, .ref xf, .int ls0, .int lsd])), (bf, .inl (cI, 5600, .inl (upd (upd B2 ((nb * 14) + (v * 4)) ((xl v).toInt32)) (((nb * 14) + (v * 4)) + 1) ((xh v).toInt32)))), (xf, .inl (cI, 300, .inl X)), (x, .inr (7, [.ref xla, .ref xha])), (xla, .inl (cJ, 3, .inr (.inl xl))), (xha, .inl (cJ, 3, .inr (.inl xh)))] := hD
          refine lv_aload_n hx hb dd_H_addBox_69 rfl (lv_at hl 1 rfl) ?_
          refine va_get (D := D) (ci := 2) (v := .ref bf) (C := RR_H) (T := TT_H) (N := 6) hx hb hts (fun w h => List.mem_cons_of_mem _ (in_H w h)) hown hK hP 0 rfl rfl 2 (by decide) (hts _ (List.mem_cons_of_mem _ wd_159)) (fun _ h9 => h9) rfl dd_H_addBox_70 ?_
          refine lv_iload hx hb dd_H_addBox_73 (lv_at hl 0 rfl) ?_
          refine lv_iconst (v := nI 2) hx hb dd_H_addBox_75 (by decide) ?_
          refine bo_iadd hx hb dd_H_addBox_76 ?_
          refine lv_aload_n hx hb dd_H_addBox_77 rfl (lv_at hl 3 rfl) ?_
          refine va_get (D := D) (ci := 7) (v := .ref xla) (C := RR_R) (T := TT_R) (N := 2) hx hb hts (fun w h => List.mem_cons_of_mem _ (in_R w h)) hown hK hP 3 rfl rfl 0 (by decide) (hts _ (List.mem_cons_of_mem _ wd_80)) (fun _ h9 => h9) rfl dd_H_addBox_78 ?_
          refine lv_iload hx hb dd_H_addBox_81 (lv_at hl 7 rfl) ?_
          refine bo_lald hx hb hK hP 4 0 rfl rfl (by omega) (by decide) dd_H_addBox_83 ?_
          refine lv_l2i (v := (xl v).toInt32) hx hb dd_H_addBox_84 rfl ?_
          refine bo_iast hx hb hK hP hD hS 1 1 rfl rfl (by omega) (by decide) dd_H_addBox_85 (fun H locs hP hD hS => ?_)
          have hP : va_P D bo_cl [(hh, .inr (2, [.int (nI nb), .int (nI ncr), .ref bf, .ref xf, .int ls0, .int lsd])), (bf, .inl (cI, 5600, .inl (upd (upd (upd B2 ((nb * 14) + (v * 4)) ((xl v).toInt32)) (((nb * 14) + (v * 4)) + 1) ((xh v).toInt32)) (((nb * 14) + (v * 4)) + 2) ((xl v).toInt32)))), (xf, .inl (cI, 300, .inl X)), (x, .inr (7, [.ref xla, .ref xha])), (xla, .inl (cJ, 3, .inr (.inl xl))), (xha, .inl (cJ, 3, .inr (.inl xh)))] H := hP
          have hD : va_D A [(hh, .inr (2, [.int (nI nb), .int (nI ncr), .ref bf, .ref xf, .int ls0, .int lsd])), (bf, .inl (cI, 5600, .inl (upd (upd (upd B2 ((nb * 14) + (v * 4)) ((xl v).toInt32)) (((nb * 14) + (v * 4)) + 1) ((xh v).toInt32)) (((nb * 14) + (v * 4)) + 2) ((xl v).toInt32)))), (xf, .inl (cI, 300, .inl X)), (x, .inr (7, [.ref xla, .ref xha])), (xla, .inl (cJ, 3, .inr (.inl xl))), (xha, .inl (cJ, 3, .inr (.inl xh)))] := hD
          refine lv_aload_n hx hb dd_H_addBox_86 rfl (lv_at hl 1 rfl) ?_
          refine va_get (D := D) (ci := 2) (v := .ref bf) (C := RR_H) (T := TT_H) (N := 6) hx hb hts (fun w h => List.mem_cons_of_mem _ (in_H w h)) hown hK hP 0 rfl rfl 2 (by decide) (hts _ (List.mem_cons_of_mem _ wd_159)) (fun _ h9 => h9) rfl dd_H_addBox_87 ?_
          refine lv_iload hx hb dd_H_addBox_90 (lv_at hl 0 rfl) ?_
          refine lv_iconst (v := nI 3) hx hb dd_H_addBox_92 (by decide) ?_
          refine bo_iadd hx hb dd_H_addBox_93 ?_
          refine lv_aload_n hx hb dd_H_addBox_94 rfl (lv_at hl 3 rfl) ?_
          refine va_get (D := D) (ci := 7) (v := .ref xha) (C := RR_R) (T := TT_R) (N := 2) hx hb hts (fun w h => List.mem_cons_of_mem _ (in_R w h)) hown hK hP 3 rfl rfl 1 (by decide) (hts _ (List.mem_cons_of_mem _ wd_88)) (fun _ h9 => h9) rfl dd_H_addBox_95 ?_
          refine lv_iload hx hb dd_H_addBox_98 (lv_at hl 7 rfl) ?_
          refine bo_lald hx hb hK hP 5 0 rfl rfl (by omega) (by decide) dd_H_addBox_100 ?_
          refine lv_l2i (v := (xh v).toInt32) hx hb dd_H_addBox_101 rfl ?_
          refine bo_iast hx hb hK hP hD hS 1 1 rfl rfl (by omega) (by decide) dd_H_addBox_102 (fun H locs hP hD hS => ?_)
          have hP : va_P D bo_cl [(hh, .inr (2, [.int (nI nb), .int (nI ncr), .ref bf, .ref xf, .int ls0, .int lsd])), (bf, .inl (cI, 5600, .inl (upd (upd (upd (upd B2 ((nb * 14) + (v * 4)) ((xl v).toInt32)) (((nb * 14) + (v * 4)) + 1) ((xh v).toInt32)) (((nb * 14) + (v * 4)) + 2) ((xl v).toInt32)) (((nb * 14) + (v * 4)) + 3) ((xh v).toInt32)))), (xf, .inl (cI, 300, .inl X)), (x, .inr (7, [.ref xla, .ref xha])), (xla, .inl (cJ, 3, .inr (.inl xl))), (xha, .inl (cJ, 3, .inr (.inl xh)))] H := hP
          have hD : va_D A [(hh, .inr (2, [.int (nI nb), .int (nI ncr), .ref bf, .ref xf, .int ls0, .int lsd])), (bf, .inl (cI, 5600, .inl (upd (upd (upd (upd B2 ((nb * 14) + (v * 4)) ((xl v).toInt32)) (((nb * 14) + (v * 4)) + 1) ((xh v).toInt32)) (((nb * 14) + (v * 4)) + 2) ((xl v).toInt32)) (((nb * 14) + (v * 4)) + 3) ((xh v).toInt32)))), (xf, .inl (cI, 300, .inl X)), (x, .inr (7, [.ref xla, .ref xha])), (xla, .inl (cJ, 3, .inr (.inl xl))), (xha, .inl (cJ, 3, .inr (.inl xh)))] := hD
          refine lv_iinc (k := 7) (x := nI v) (v := nI (v + 1)) (lv' := [(6, .int (nI (v + 1))), (7, .int (nI ((nb * 14) + (v * 4)))), (0, .ref hh), (1, .ref x), (2, .ref x), (3, .int tm), (4, .int sg), (5, .int (nI (nb * 14)))]) hx hb dd_H_addBox_103 hl rfl (nI_add _ 1) (by decide) rfl (fun ls hl => ?_)
          refine lv_goto (tgt := 22) hx hb dd_H_addBox_106 rfl ?_
          have hl8 := lv_sub (l' := [(0, .ref hh), (1, .ref x), (2, .ref x), (3, .int tm), (4, .int sg), (5, .int (nI (nb * 14))), (6, .int (nI (v + 1)))]) hl [2, 3, 4, 5, 6, 7, 0] rfl
          have hP8 := hP.sub (ws' := [(hh, .inr (2, [.int (nI nb), .int (nI ncr), .ref bf, .ref xf, .int ls0, .int lsd])), (bf, .inl (cI, 5600, .inl (upd (upd (upd (upd B2 ((nb * 14) + (v * 4)) ((xl v).toInt32)) (((nb * 14) + (v * 4)) + 1) ((xh v).toInt32)) (((nb * 14) + (v * 4)) + 2) ((xl v).toInt32)) (((nb * 14) + (v * 4)) + 3) ((xh v).toInt32)))), (xf, .inl (cI, 300, .inl X)), (x, .inr (7, [.ref xla, .ref xha])), (xla, .inl (cJ, 3, .inr (.inl xl))), (xha, .inl (cJ, 3, .inr (.inl xh)))]) [0, 1, 2, 3, 4, 5] rfl
          have hD8 := hD.sub (ws' := [(hh, .inr (2, [.int (nI nb), .int (nI ncr), .ref bf, .ref xf, .int ls0, .int lsd])), (bf, .inl (cI, 5600, .inl (upd (upd (upd (upd B2 ((nb * 14) + (v * 4)) ((xl v).toInt32)) (((nb * 14) + (v * 4)) + 1) ((xh v).toInt32)) (((nb * 14) + (v * 4)) + 2) ((xl v).toInt32)) (((nb * 14) + (v * 4)) + 3) ((xh v).toInt32)))), (xf, .inl (cI, 300, .inl X)), (x, .inr (7, [.ref xla, .ref xha])), (xla, .inl (cJ, 3, .inr (.inl xl))), (xha, .inl (cJ, 3, .inr (.inl xh)))]) [0, 1, 2, 3, 4, 5] (by decide) rfl
          exact ih22 (v + 1) (upd (upd (upd (upd B2 ((nb * 14) + (v * 4)) ((xl v).toInt32)) (((nb * 14) + (v * 4)) + 1) ((xh v).toInt32)) (((nb * 14) + (v * 4)) + 2) ((xl v).toInt32)) (((nb * 14) + (v * 4)) + 3) ((xh v).toInt32)) (by omega) (by subst hz; rfl) _ _ _ (by omega) hl8 hP8 hD8 hS
    have hl8 := lv_sub (l' := [(0, .ref hh), (1, .ref x), (2, .ref x), (3, .int tm), (4, .int sg), (5, .int (nI (nb * 14))), (6, .int (nI 0))]) hl [2, 3, 4, 5, 6, 1, 0] rfl
    have hP8 := hP.sub (ws' := [(hh, .inr (2, [.int (nI nb), .int (nI ncr), .ref bf, .ref xf, .int ls0, .int lsd])), (bf, .inl (cI, 5600, .inl B)), (xf, .inl (cI, 300, .inl X)), (x, .inr (7, [.ref xla, .ref xha])), (xla, .inl (cJ, 3, .inr (.inl xl))), (xha, .inl (cJ, 3, .inr (.inl xh)))]) [0, 1, 2, 3, 4, 5] rfl
    have hD8 := hD.sub (ws' := [(hh, .inr (2, [.int (nI nb), .int (nI ncr), .ref bf, .ref xf, .int ls0, .int lsd])), (bf, .inl (cI, 5600, .inl B)), (xf, .inl (cI, 300, .inl X)), (x, .inr (7, [.ref xla, .ref xha])), (xla, .inl (cJ, 3, .inr (.inl xl))), (xha, .inl (cJ, 3, .inr (.inl xh)))]) [0, 1, 2, 3, 4, 5] (by decide) rfl
    exact lo22 ((3 - 0) + 1) 0 B (by omega) (by rfl) _ _ _ (Nat.lt_succ_self _) hl8 hP8 hD8 hS

set_option maxHeartbeats 4000000 in
set_option maxRecDepth 100000 in
theorem c_H_hasBox {l : Launch} {D : va_G} {cJ cI cB cY : ClassId} (hh : Nat) (nb : Nat) (ncr : Nat) (bf : Nat) (xf : Nat) (ls0 : Int32) (lsd : Int32) (i : Int32) :
    bo_i (S := Unit) l D bo_cl (bo_ty cJ cI cB cY) yy_H_hasBox (bo_w yy_H_hasBox bb_H_hasBox 2 (some .boolean)) (bo_rm 0 0) [.ref hh, .int i] [(hh, .inr (2, [.int (nI nb), .int (nI ncr), .ref bf, .ref xf, .int ls0, .int lsd]))] (fun r u => r = inB i nb 400) (fun u => [(hh, .inr (2, [.int (nI nb), .int (nI ncr), .ref bf, .ref xf, .int ls0, .int lsd]))]) := by
  refine bo_enter_z (cc := bb_H_hasBox) (maxL := 2) (by decide) rfl (Nat.le_of_ble_eq_true rfl) ?_
  intro p e s m args below meth c A ls Q hx hb hts hown hml hK hP hD hS hA hl hret
  have hl : lv_has ls 2 [(0, .ref hh), (1, .int i)] := hl
  refine lv_iload_n hx hb dd_H_hasBox_0 rfl (lv_at hl 1 rfl) ?_
  refine lv_if_lt (tgt := 23) hx hb dd_H_hasBox_1 rfl (fun h1 => ?_) (fun h1 => ?_)
  · refine lv_iconst (v := nI 0) hx hb dd_H_hasBox_23 (by decide) ?_
    have hP9 := hP.sub (ws' := [(hh, .inr (2, [.int (nI nb), .int (nI ncr), .ref bf, .ref xf, .int ls0, .int lsd]))]) [0] rfl
    have hD9 := hD.sub (ws' := [(hh, .inr (2, [.int (nI nb), .int (nI ncr), .ref bf, .ref xf, .int ls0, .int lsd]))]) [0] (by decide) rfl
    exact hret () _ _ _ _ _ (Or.inl rfl) hP9 hD9 hS (by unfold inB; first | exact (if_pos (Or.inl h1)).symm | exact (if_pos (Or.inr (Or.inl h9))).symm | exact (if_pos (Or.inr (Or.inr h16))).symm | exact (if_neg (fun q => q.elim h1 (fun q => q.elim h9 h16))).symm) dd_H_hasBox_24
  · refine lv_iload_n hx hb dd_H_hasBox_4 rfl (lv_at hl 1 rfl) ?_
    refine lv_aload_n hx hb dd_H_hasBox_5 rfl (lv_at hl 0 rfl) ?_
    refine va_get (D := D) (ci := 2) (v := .int (nI nb)) (C := RR_H) (T := TT_H) (N := 6) hx hb hts (fun w h => List.mem_cons_of_mem _ (in_H w h)) hown hK hP 0 rfl rfl 0 (by decide) (hts _ (List.mem_cons_of_mem _ wd_155)) (fun _ h9 => h9) rfl dd_H_hasBox_6 ?_
    refine lv_icmp_ge (tgt := 23) hx hb dd_H_hasBox_9 rfl (fun h9 => ?_) (fun h9 => ?_)
    · refine lv_iconst (v := nI 0) hx hb dd_H_hasBox_23 (by decide) ?_
      have hP9 := hP.sub (ws' := [(hh, .inr (2, [.int (nI nb), .int (nI ncr), .ref bf, .ref xf, .int ls0, .int lsd]))]) [0] rfl
      have hD9 := hD.sub (ws' := [(hh, .inr (2, [.int (nI nb), .int (nI ncr), .ref bf, .ref xf, .int ls0, .int lsd]))]) [0] (by decide) rfl
      exact hret () _ _ _ _ _ (Or.inl rfl) hP9 hD9 hS (by unfold inB; first | exact (if_pos (Or.inl h1)).symm | exact (if_pos (Or.inr (Or.inl h9))).symm | exact (if_pos (Or.inr (Or.inr h16))).symm | exact (if_neg (fun q => q.elim h1 (fun q => q.elim h9 h16))).symm) dd_H_hasBox_24
    · refine lv_iload_n hx hb dd_H_hasBox_12 rfl (lv_at hl 1 rfl) ?_
      refine lv_sipush (v := nI 400) hx hb dd_H_hasBox_13 (by decide) ?_
      refine lv_icmp_ge (tgt := 23) hx hb dd_H_hasBox_16 rfl (fun h16 => ?_) (fun h16 => ?_)
      · refine lv_iconst (v := nI 0) hx hb dd_H_hasBox_23 (by decide) ?_
        have hP9 := hP.sub (ws' := [(hh, .inr (2, [.int (nI nb), .int (nI ncr), .ref bf, .ref xf, .int ls0, .int lsd]))]) [0] rfl
        have hD9 := hD.sub (ws' := [(hh, .inr (2, [.int (nI nb), .int (nI ncr), .ref bf, .ref xf, .int ls0, .int lsd]))]) [0] (by decide) rfl
        exact hret () _ _ _ _ _ (Or.inl rfl) hP9 hD9 hS (by unfold inB; first | exact (if_pos (Or.inl h1)).symm | exact (if_pos (Or.inr (Or.inl h9))).symm | exact (if_pos (Or.inr (Or.inr h16))).symm | exact (if_neg (fun q => q.elim h1 (fun q => q.elim h9 h16))).symm) dd_H_hasBox_24
      · refine lv_iconst (v := nI 1) hx hb dd_H_hasBox_19 (by decide) ?_
        refine lv_goto (tgt := 24) hx hb dd_H_hasBox_20 rfl ?_
        have hP9 := hP.sub (ws' := [(hh, .inr (2, [.int (nI nb), .int (nI ncr), .ref bf, .ref xf, .int ls0, .int lsd]))]) [0] rfl
        have hD9 := hD.sub (ws' := [(hh, .inr (2, [.int (nI nb), .int (nI ncr), .ref bf, .ref xf, .int ls0, .int lsd]))]) [0] (by decide) rfl
        exact hret () _ _ _ _ _ (Or.inr rfl) hP9 hD9 hS (by unfold inB; first | exact (if_pos (Or.inl h1)).symm | exact (if_pos (Or.inr (Or.inl h9))).symm | exact (if_pos (Or.inr (Or.inr h16))).symm | exact (if_neg (fun q => q.elim h1 (fun q => q.elim h9 h16))).symm) dd_H_hasBox_24

set_option maxHeartbeats 4000000 in
set_option maxRecDepth 100000 in
theorem c_H_hasCrossing {l : Launch} {D : va_G} {cJ cI cB cY : ClassId} (hh : Nat) (nb : Nat) (ncr : Nat) (bf : Nat) (xf : Nat) (ls0 : Int32) (lsd : Int32) (i : Int32) :
    bo_i (S := Unit) l D bo_cl (bo_ty cJ cI cB cY) yy_H_hasCrossing (bo_w yy_H_hasCrossing bb_H_hasCrossing 2 (some .boolean)) (bo_rm 0 0) [.ref hh, .int i] [(hh, .inr (2, [.int (nI nb), .int (nI ncr), .ref bf, .ref xf, .int ls0, .int lsd]))] (fun r u => r = inB i ncr 100) (fun u => [(hh, .inr (2, [.int (nI nb), .int (nI ncr), .ref bf, .ref xf, .int ls0, .int lsd]))]) := by
  refine bo_enter_z (cc := bb_H_hasCrossing) (maxL := 2) (by decide) rfl (Nat.le_of_ble_eq_true rfl) ?_
  intro p e s m args below meth c A ls Q hx hb hts hown hml hK hP hD hS hA hl hret
  have hl : lv_has ls 2 [(0, .ref hh), (1, .int i)] := hl
  refine lv_iload_n hx hb dd_H_hasCrossing_0 rfl (lv_at hl 1 rfl) ?_
  refine lv_if_lt (tgt := 22) hx hb dd_H_hasCrossing_1 rfl (fun h1 => ?_) (fun h1 => ?_)
  · refine lv_iconst (v := nI 0) hx hb dd_H_hasCrossing_22 (by decide) ?_
    have hP9 := hP.sub (ws' := [(hh, .inr (2, [.int (nI nb), .int (nI ncr), .ref bf, .ref xf, .int ls0, .int lsd]))]) [0] rfl
    have hD9 := hD.sub (ws' := [(hh, .inr (2, [.int (nI nb), .int (nI ncr), .ref bf, .ref xf, .int ls0, .int lsd]))]) [0] (by decide) rfl
    exact hret () _ _ _ _ _ (Or.inl rfl) hP9 hD9 hS (by unfold inB; first | exact (if_pos (Or.inl h1)).symm | exact (if_pos (Or.inr (Or.inl h9))).symm | exact (if_pos (Or.inr (Or.inr h15))).symm | exact (if_neg (fun q => q.elim h1 (fun q => q.elim h9 h15))).symm) dd_H_hasCrossing_23
  · refine lv_iload_n hx hb dd_H_hasCrossing_4 rfl (lv_at hl 1 rfl) ?_
    refine lv_aload_n hx hb dd_H_hasCrossing_5 rfl (lv_at hl 0 rfl) ?_
    refine va_get (D := D) (ci := 2) (v := .int (nI ncr)) (C := RR_H) (T := TT_H) (N := 6) hx hb hts (fun w h => List.mem_cons_of_mem _ (in_H w h)) hown hK hP 0 rfl rfl 1 (by decide) (hts _ (List.mem_cons_of_mem _ wd_157)) (fun _ h9 => h9) rfl dd_H_hasCrossing_6 ?_
    refine lv_icmp_ge (tgt := 22) hx hb dd_H_hasCrossing_9 rfl (fun h9 => ?_) (fun h9 => ?_)
    · refine lv_iconst (v := nI 0) hx hb dd_H_hasCrossing_22 (by decide) ?_
      have hP9 := hP.sub (ws' := [(hh, .inr (2, [.int (nI nb), .int (nI ncr), .ref bf, .ref xf, .int ls0, .int lsd]))]) [0] rfl
      have hD9 := hD.sub (ws' := [(hh, .inr (2, [.int (nI nb), .int (nI ncr), .ref bf, .ref xf, .int ls0, .int lsd]))]) [0] (by decide) rfl
      exact hret () _ _ _ _ _ (Or.inl rfl) hP9 hD9 hS (by unfold inB; first | exact (if_pos (Or.inl h1)).symm | exact (if_pos (Or.inr (Or.inl h9))).symm | exact (if_pos (Or.inr (Or.inr h15))).symm | exact (if_neg (fun q => q.elim h1 (fun q => q.elim h9 h15))).symm) dd_H_hasCrossing_23
    · refine lv_iload_n hx hb dd_H_hasCrossing_12 rfl (lv_at hl 1 rfl) ?_
      refine lv_bipush (v := nI 100) hx hb dd_H_hasCrossing_13 (by decide) ?_
      refine lv_icmp_ge (tgt := 22) hx hb dd_H_hasCrossing_15 rfl (fun h15 => ?_) (fun h15 => ?_)
      · refine lv_iconst (v := nI 0) hx hb dd_H_hasCrossing_22 (by decide) ?_
        have hP9 := hP.sub (ws' := [(hh, .inr (2, [.int (nI nb), .int (nI ncr), .ref bf, .ref xf, .int ls0, .int lsd]))]) [0] rfl
        have hD9 := hD.sub (ws' := [(hh, .inr (2, [.int (nI nb), .int (nI ncr), .ref bf, .ref xf, .int ls0, .int lsd]))]) [0] (by decide) rfl
        exact hret () _ _ _ _ _ (Or.inl rfl) hP9 hD9 hS (by unfold inB; first | exact (if_pos (Or.inl h1)).symm | exact (if_pos (Or.inr (Or.inl h9))).symm | exact (if_pos (Or.inr (Or.inr h15))).symm | exact (if_neg (fun q => q.elim h1 (fun q => q.elim h9 h15))).symm) dd_H_hasCrossing_23
      · refine lv_iconst (v := nI 1) hx hb dd_H_hasCrossing_18 (by decide) ?_
        refine lv_goto (tgt := 23) hx hb dd_H_hasCrossing_19 rfl ?_
        have hP9 := hP.sub (ws' := [(hh, .inr (2, [.int (nI nb), .int (nI ncr), .ref bf, .ref xf, .int ls0, .int lsd]))]) [0] rfl
        have hD9 := hD.sub (ws' := [(hh, .inr (2, [.int (nI nb), .int (nI ncr), .ref bf, .ref xf, .int ls0, .int lsd]))]) [0] (by decide) rfl
        exact hret () _ _ _ _ _ (Or.inr rfl) hP9 hD9 hS (by unfold inB; first | exact (if_pos (Or.inl h1)).symm | exact (if_pos (Or.inr (Or.inl h9))).symm | exact (if_pos (Or.inr (Or.inr h15))).symm | exact (if_neg (fun q => q.elim h1 (fun q => q.elim h9 h15))).symm) dd_H_hasCrossing_23

set_option maxHeartbeats 4000000 in
set_option maxRecDepth 100000 in
theorem c_H_boxField {l : Launch} {D : va_G} {cJ cI cB cY : ClassId} (hh : Nat) (nb : Nat) (ncr : Nat) (bf : Nat) (xf : Nat) (ls0 : Int32) (lsd : Int32) (B : Nat → Int32) (i : Nat) (v : Nat) (w : Nat) (hi : i * 14 + v * 4 + w < 5600) :
    bo_i (S := Unit) l D bo_cl (bo_ty cJ cI cB cY) yy_H_boxField (bo_w yy_H_boxField bb_H_boxField 4 (some .int)) (bo_rm 0 0) [.ref hh, .int (nI i), .int (nI v), .int (nI w)] [(hh, .inr (2, [.int (nI nb), .int (nI ncr), .ref bf, .ref xf, .int ls0, .int lsd])), (bf, .inl (cI, 5600, .inl B))] (fun r u => r = B (i * 14 + v * 4 + w)) (fun u => [(hh, .inr (2, [.int (nI nb), .int (nI ncr), .ref bf, .ref xf, .int ls0, .int lsd])), (bf, .inl (cI, 5600, .inl B))]) := by
  refine bo_enter_i (cc := bb_H_boxField) (maxL := 4) (by decide) rfl (Nat.le_of_ble_eq_true rfl) ?_
  intro p e s m args below meth c A ls Q hx hb hts hown hml hK hP hD hS hA hl hret
  have hl : lv_has ls 4 [(0, .ref hh), (1, .int (nI i)), (2, .int (nI v)), (3, .int (nI w))] := hl
  refine lv_aload_n hx hb dd_H_boxField_0 rfl (lv_at hl 0 rfl) ?_
  refine va_get (D := D) (ci := 2) (v := .ref bf) (C := RR_H) (T := TT_H) (N := 6) hx hb hts (fun w h => List.mem_cons_of_mem _ (in_H w h)) hown hK hP 0 rfl rfl 2 (by decide) (hts _ (List.mem_cons_of_mem _ wd_159)) (fun _ h9 => h9) rfl dd_H_boxField_1 ?_
  refine lv_iload_n hx hb dd_H_boxField_4 rfl (lv_at hl 1 rfl) ?_
  refine lv_bipush (v := nI 14) hx hb dd_H_boxField_5 (by decide) ?_
  refine bo_imul hx hb dd_H_boxField_7 ?_
  refine lv_iload_n hx hb dd_H_boxField_8 rfl (lv_at hl 2 rfl) ?_
  refine lv_iconst (v := nI 4) hx hb dd_H_boxField_9 (by decide) ?_
  refine bo_imul hx hb dd_H_boxField_10 ?_
  refine bo_iadd hx hb dd_H_boxField_11 ?_
  refine lv_iload_n hx hb dd_H_boxField_12 rfl (lv_at hl 3 rfl) ?_
  refine bo_iadd hx hb dd_H_boxField_13 ?_
  refine bo_iald hx hb hK hP 1 1 rfl rfl (by omega) (by decide) dd_H_boxField_14 ?_
  have hP9 := hP.sub (ws' := [(hh, .inr (2, [.int (nI nb), .int (nI ncr), .ref bf, .ref xf, .int ls0, .int lsd])), (bf, .inl (cI, 5600, .inl B))]) [0, 1] rfl
  have hD9 := hD.sub (ws' := [(hh, .inr (2, [.int (nI nb), .int (nI ncr), .ref bf, .ref xf, .int ls0, .int lsd])), (bf, .inl (cI, 5600, .inl B))]) [0, 1] (by decide) rfl
  exact hret () _ _ _ _ _ hP9 hD9 hS (by rfl) dd_H_boxField_15

set_option maxHeartbeats 4000000 in
set_option maxRecDepth 100000 in
theorem c_H_crossingField {l : Launch} {D : va_G} {cJ cI cB cY : ClassId} (hh : Nat) (nb : Nat) (ncr : Nat) (bf : Nat) (xf : Nat) (ls0 : Int32) (lsd : Int32) (X : Nat → Int32) (i : Nat) (w : Nat) (hi : i * 3 + w < 300) :
    bo_i (S := Unit) l D bo_cl (bo_ty cJ cI cB cY) yy_H_crossingField (bo_w yy_H_crossingField bb_H_crossingField 3 (some .int)) (bo_rm 0 0) [.ref hh, .int (nI i), .int (nI w)] [(hh, .inr (2, [.int (nI nb), .int (nI ncr), .ref bf, .ref xf, .int ls0, .int lsd])), (xf, .inl (cI, 300, .inl X))] (fun r u => r = X (i * 3 + w)) (fun u => [(hh, .inr (2, [.int (nI nb), .int (nI ncr), .ref bf, .ref xf, .int ls0, .int lsd])), (xf, .inl (cI, 300, .inl X))]) := by
  refine bo_enter_i (cc := bb_H_crossingField) (maxL := 3) (by decide) rfl (Nat.le_of_ble_eq_true rfl) ?_
  intro p e s m args below meth c A ls Q hx hb hts hown hml hK hP hD hS hA hl hret
  have hl : lv_has ls 3 [(0, .ref hh), (1, .int (nI i)), (2, .int (nI w))] := hl
  refine lv_aload_n hx hb dd_H_crossingField_0 rfl (lv_at hl 0 rfl) ?_
  refine va_get (D := D) (ci := 2) (v := .ref xf) (C := RR_H) (T := TT_H) (N := 6) hx hb hts (fun w h => List.mem_cons_of_mem _ (in_H w h)) hown hK hP 0 rfl rfl 3 (by decide) (hts _ (List.mem_cons_of_mem _ wd_160)) (fun _ h9 => h9) rfl dd_H_crossingField_1 ?_
  refine lv_iload_n hx hb dd_H_crossingField_4 rfl (lv_at hl 1 rfl) ?_
  refine lv_iconst (v := nI 3) hx hb dd_H_crossingField_5 (by decide) ?_
  refine bo_imul hx hb dd_H_crossingField_6 ?_
  refine lv_iload_n hx hb dd_H_crossingField_7 rfl (lv_at hl 2 rfl) ?_
  refine bo_iadd hx hb dd_H_crossingField_8 ?_
  refine bo_iald hx hb hK hP 1 1 rfl rfl (by omega) (by decide) dd_H_crossingField_9 ?_
  have hP9 := hP.sub (ws' := [(hh, .inr (2, [.int (nI nb), .int (nI ncr), .ref bf, .ref xf, .int ls0, .int lsd])), (xf, .inl (cI, 300, .inl X))]) [0, 1] rfl
  have hD9 := hD.sub (ws' := [(hh, .inr (2, [.int (nI nb), .int (nI ncr), .ref bf, .ref xf, .int ls0, .int lsd])), (xf, .inl (cI, 300, .inl X))]) [0, 1] (by decide) rfl
  exact hret () _ _ _ _ _ hP9 hD9 hS (by rfl) dd_H_crossingField_10

set_option maxHeartbeats 4000000 in
set_option maxRecDepth 100000 in
theorem c_U_lengthOf {l : Launch} {D : va_G} {cJ cI cB cY : ClassId} (q : Nat) (hq : q ≤ 20) :
    bo_i (S := Unit) l D bo_cl (bo_ty cJ cI cB cY) yy_U_lengthOf (bo_w yy_U_lengthOf bb_U_lengthOf 1 (some .int)) (bo_rm 0 0) [.int (nI q)] [] (fun r u => r = nI (2 ^ (20 - q))) (fun u => []) := by
  refine bo_enter_i (cc := bb_U_lengthOf) (maxL := 1) (by decide) rfl (Nat.le_of_ble_eq_true rfl) ?_
  intro p e s m args below meth c A ls Q hx hb hts hown hml hK hP hD hS hA hl hret
  have hl : lv_has ls 1 [(0, .int (nI q))] := hl
  refine lv_iconst (v := nI 1) hx hb dd_U_lengthOf_0 (by decide) ?_
  refine lv_bipush (v := nI 20) hx hb dd_U_lengthOf_1 (by decide) ?_
  refine lv_iload_n hx hb dd_U_lengthOf_3 rfl (lv_at hl 0 rfl) ?_
  refine bo_isub hx hb (by omega) dd_U_lengthOf_4 ?_
  refine lv_ishl hx hb dd_U_lengthOf_5 ?_
  have hP9 := hP.sub (ws' := []) [] rfl
  have hD9 := hD.sub (ws' := []) [] (by decide) rfl
  exact hret () _ _ _ _ _ hP9 hD9 hS (by exact len_eq hq) dd_U_lengthOf_6

set_option maxHeartbeats 4000000 in
set_option maxRecDepth 100000 in
theorem c_U_beginAtZero {l : Launch} {D : va_G} {cJ cI cB cY : ClassId} (ua : Nat) (od : Nat) (hz : Nat) (co : Nat) (tm : Nat) (sf : Nat) (tr : Nat) (fi : Nat) (x : Nat) (hh : Nat) (ta : Nat) (cm : Nat) (ut : Nat) (rf : Int32) (fil : Nat) (fih : Nat) (fl : Nat → Int64) (fh : Nat → Int64) :
    bo_v (S := Unit) l D bo_cl (bo_ty cJ cI cB cY) yy_U_beginAtZero (bo_w yy_U_beginAtZero bb_U_beginAtZero 1 none) (bo_rm 1 21) [.ref ua] [(ua, .inr (8, [.int (nI od), .int (nI hz), .int (nI co), .int (nI tm), .int (nI sf), .int (nI tr), .int rf, .ref fi, .ref x, .ref hh, .ref ta, .int (nI cm), .ref ut])), (fi, .inr (7, [.ref fil, .ref fih])), (fil, .inl (cJ, 3, .inr (.inl fl))), (fih, .inl (cJ, 3, .inr (.inl fh)))] (fun u => True) (fun u => [(ua, .inr (8, [.int (nI od), .int (nI hz), .int (nI co), .int (nI tm), .int (nI sf), .int (nI tr), .int rf, .ref fi, .ref x, .ref hh, .ref ta, .int (nI cm), .ref ut])), (fi, .inr (7, [.ref fil, .ref fih])), (fil, .inl (cJ, 3, .inr (.inl (fun _ => 0)))), (fih, .inl (cJ, 3, .inr (.inl (fun _ => 0))))]) := by
  refine bo_enter_v (cc := bb_U_beginAtZero) (maxL := 1) (by decide) rfl (Nat.le_of_ble_eq_true rfl) ?_
  intro p e s m args below meth c A ls Q hx hb hts hown hml hK hP hD hS hA hl hret
  have hl : lv_has ls 1 [(0, .ref ua)] := hl
  refine lv_aload_n hx hb dd_U_beginAtZero_0 rfl (lv_at hl 0 rfl) ?_
  refine va_get (D := D) (ci := 8) (v := .ref fi) (C := RR_U) (T := TT_U) (N := 13) hx hb hts (fun w h => List.mem_cons_of_mem _ (in_U w h)) hown hK hP 0 rfl rfl 7 (by decide) (hts _ (List.mem_cons_of_mem _ wd_273)) (fun _ h9 => h9) rfl dd_U_beginAtZero_1 ?_
  refine bo_gov (wr := [(ua, .inr (8, [.int (nI od), .int (nI hz), .int (nI co), .int (nI tm), .int (nI sf), .int (nI tr), .int rf, .ref fi, .ref x, .ref hh, .ref ta, .int (nI cm), .ref ut]))]) (bo_rV (c_R_clear (l := l) (D := D) (cJ := cJ) (cI := cI) (cB := cB) (cY := cY) fi fil fih 3 fl fh (by decide) _) ⟨hx, hb, hml, hown, hts⟩ (cwV 0 hts (bo_gV wd_586 wd_587 wd_588 wd_5 wd_589) rfl rfl rfl hd_R_clear (by decide)) hK hP hD [1, 2, 3] rfl (by decide) 1 7 rfl rfl rfl rfl hl.1 rfl (Nat.le_of_ble_eq_true rfl) dd_U_beginAtZero_4 (by decide)) hP hD hS hA [1, 2, 3] [0] rfl rfl (by decide) (by decide) (fun u H locs hu_4 hP hD hS => ?_)
  have hP : va_P D bo_cl [(ua, .inr (8, [.int (nI od), .int (nI hz), .int (nI co), .int (nI tm), .int (nI sf), .int (nI tr), .int rf, .ref fi, .ref x, .ref hh, .ref ta, .int (nI cm), .ref ut])), (fi, .inr (7, [.ref fil, .ref fih])), (fil, .inl (cJ, 3, .inr (.inl (fun _ => 0)))), (fih, .inl (cJ, 3, .inr (.inl (fun _ => 0))))] H := hP
  have hD : va_D A [(ua, .inr (8, [.int (nI od), .int (nI hz), .int (nI co), .int (nI tm), .int (nI sf), .int (nI tr), .int rf, .ref fi, .ref x, .ref hh, .ref ta, .int (nI cm), .ref ut])), (fi, .inr (7, [.ref fil, .ref fih])), (fil, .inl (cJ, 3, .inr (.inl (fun _ => 0)))), (fih, .inl (cJ, 3, .inr (.inl (fun _ => 0))))] := hD
  have hP9 := hP.sub (ws' := [(ua, .inr (8, [.int (nI od), .int (nI hz), .int (nI co), .int (nI tm), .int (nI sf), .int (nI tr), .int rf, .ref fi, .ref x, .ref hh, .ref ta, .int (nI cm), .ref ut])), (fi, .inr (7, [.ref fil, .ref fih])), (fil, .inl (cJ, 3, .inr (.inl (fun _ => 0)))), (fih, .inl (cJ, 3, .inr (.inl (fun _ => 0))))]) [0, 1, 2, 3] rfl
  have hD9 := hD.sub (ws' := [(ua, .inr (8, [.int (nI od), .int (nI hz), .int (nI co), .int (nI tm), .int (nI sf), .int (nI tr), .int rf, .ref fi, .ref x, .ref hh, .ref ta, .int (nI cm), .ref ut])), (fi, .inr (7, [.ref fil, .ref fih])), (fil, .inl (cJ, 3, .inr (.inl (fun _ => 0)))), (fih, .inl (cJ, 3, .inr (.inl (fun _ => 0))))]) [0, 1, 2, 3] (by decide) rfl
  exact hret () _ _ _ _ hP9 hD9 hS (trivial) dd_U_beginAtZero_7

set_option maxHeartbeats 4000000 in
set_option maxRecDepth 100000 in
theorem c_U_shiftToHorizon {l : Launch} {D : va_G} {cJ cI cB cY : ClassId} (ua : Nat) (od : Nat) (hz : Nat) (co : Nat) (tm : Nat) (sf : Nat) (tr : Nat) (fi : Nat) (x : Nat) (hh : Nat) (ta : Nat) (cm : Nat) (ut : Nat) (rf : Int32) (hs : sf ≤ 16) (ht : tm ≤ 134217728) (hh2 : hz ≤ 134217728) :
    bo_i (S := Unit) l D bo_cl (bo_ty cJ cI cB cY) yy_U_shiftToHorizon (bo_w yy_U_shiftToHorizon bb_U_shiftToHorizon 2 (some .int)) (bo_rm 1 20) [.ref ua] [(ua, .inr (8, [.int (nI od), .int (nI hz), .int (nI co), .int (nI tm), .int (nI sf), .int (nI tr), .int rf, .ref fi, .ref x, .ref hh, .ref ta, .int (nI cm), .ref ut]))] (fun r u => r = nI (fit tm hz (16 - sf) sf) ∧ sf ≤ fit tm hz (16 - sf) sf ∧ fit tm hz (16 - sf) sf ≤ 16) (fun u => [(ua, .inr (8, [.int (nI od), .int (nI hz), .int (nI co), .int (nI tm), .int (nI sf), .int (nI tr), .int rf, .ref fi, .ref x, .ref hh, .ref ta, .int (nI cm), .ref ut]))]) := by
  refine bo_enter_i (cc := bb_U_shiftToHorizon) (maxL := 2) (by decide) rfl (Nat.le_of_ble_eq_true rfl) ?_
  intro p e s m args below meth c A ls Q hx hb hts hown hml hK hP hD hS hA hl hret
  have hl : lv_has ls 2 [(0, .ref ua)] := hl
  refine lv_aload_n hx hb dd_U_shiftToHorizon_0 rfl (lv_at hl 0 rfl) ?_
  refine va_get (D := D) (ci := 8) (v := .int (nI sf)) (C := RR_U) (T := TT_U) (N := 13) hx hb hts (fun w h => List.mem_cons_of_mem _ (in_U w h)) hown hK hP 0 rfl rfl 4 (by decide) (hts _ (List.mem_cons_of_mem _ wd_267)) (fun _ h9 => h9) rfl dd_U_shiftToHorizon_1 ?_
  refine lv_istore_n (lv' := [(1, .int (nI sf)), (0, .ref ua)]) hx hb dd_U_shiftToHorizon_4 rfl hl (by decide) rfl (fun ls hl => ?_)
  have lo5 : ∀ (fu : Nat) (q : Nat) (hq : sf ≤ q ∧ q ≤ 16) (hz1 : fit tm hz (16 - q) q = fit tm hz (16 - sf) sf) (ls : Array Slot) (H : Heap) (locs : List Loc), (16 - q) < fu → lv_has ls 2 [(0, .ref ua), (1, .int (nI q))] → va_P D bo_cl [(ua, .inr (8, [.int (nI od), .int (nI hz), .int (nI co), .int (nI tm), .int (nI sf), .int (nI tr), .int rf, .ref fi, .ref x, .ref hh, .ref ta, .int (nI cm), .ref ut]))] H → va_D A [(ua, .inr (8, [.int (nI od), .int (nI hz), .int (nI co), .int (nI tm), .int (nI sf), .int (nI tr), .int rf, .ref fi, .ref x, .ref hh, .ref ta, .int (nI cm), .ref ut]))] → va_S A s.heap H locs → W p l e (bo_rm 1 20) s m args below meth c H locs 0 0 Q (F0 m 5 ls []) := by
    intro fu5
    induction fu5 with
    | zero => intro q hq hz1 ls H locs hfu; exact absurd hfu (Nat.not_lt_zero _)
    | succ fu5 ih5 =>
      intro q hq hz1 ls H locs hfu5 hl hP hD hS
      refine lv_iload_n hx hb dd_U_shiftToHorizon_5 rfl (lv_at hl 1 rfl) ?_
      refine lv_bipush (v := nI 16) hx hb dd_U_shiftToHorizon_6 (by decide) ?_
      refine bo_icmp_ge (tgt := 33) hx hb dd_U_shiftToHorizon_8 rfl (by omega) (by omega) (fun h8 => ?_) (fun h8 => ?_)
      · refine lv_iload_n hx hb dd_U_shiftToHorizon_33 rfl (lv_at hl 1 rfl) ?_
        have hP9 := hP.sub (ws' := [(ua, .inr (8, [.int (nI od), .int (nI hz), .int (nI co), .int (nI tm), .int (nI sf), .int (nI tr), .int rf, .ref fi, .ref x, .ref hh, .ref ta, .int (nI cm), .ref ut]))]) [0] rfl
        have hD9 := hD.sub (ws' := [(ua, .inr (8, [.int (nI od), .int (nI hz), .int (nI co), .int (nI tm), .int (nI sf), .int (nI tr), .int rf, .ref fi, .ref x, .ref hh, .ref ta, .int (nI cm), .ref ut]))]) [0] (by decide) rfl
        exact hret () _ _ _ _ _ hP9 hD9 hS (by first | (have h0 : 16 - q = 0 := (by omega); rw [h0] at hz1; rw [← hz1]; exact ⟨rfl, hq.1, hq.2⟩) | (rw [hnn] at hz1; have h1 : (if tm + 2 ^ (20 - q) ≤ hz then q else fit tm hz nn (q + 1)) = fit tm hz (16 - sf) sf := hz1; rw [if_pos h24] at h1; rw [← h1]; exact ⟨rfl, hq.1, hq.2⟩)) dd_U_shiftToHorizon_34
      · have hp := p20 q
        obtain ⟨nn, hnn⟩ : ∃ nn, 16 - q = nn + 1 := ⟨15 - q, by omega⟩
        refine lv_aload_n hx hb dd_U_shiftToHorizon_11 rfl (lv_at hl 0 rfl) ?_
        refine va_get (D := D) (ci := 8) (v := .int (nI tm)) (C := RR_U) (T := TT_U) (N := 13) hx hb hts (fun w h => List.mem_cons_of_mem _ (in_U w h)) hown hK hP 0 rfl rfl 3 (by decide) (hts _ (List.mem_cons_of_mem _ wd_265)) (fun _ h9 => h9) rfl dd_U_shiftToHorizon_12 ?_
        refine lv_iload_n hx hb dd_U_shiftToHorizon_15 rfl (lv_at hl 1 rfl) ?_
        refine bo_goi (wr := [(ua, .inr (8, [.int (nI od), .int (nI hz), .int (nI co), .int (nI tm), .int (nI sf), .int (nI tr), .int rf, .ref fi, .ref x, .ref hh, .ref ta, .int (nI cm), .ref ut]))]) (bo_rS (c_U_lengthOf (l := l) (D := D) (cJ := cJ) (cI := cI) (cB := cB) (cY := cY) q (by omega) _) ⟨hx, hb, hml, hown, hts⟩ (cwS 1 hts (bo_gS wd_624 wd_625 wd_6 wd_626) rfl rfl rfl hd_U_lengthOf (by decide)) hK hP hD [] rfl (by decide) rfl hl.1 rfl (Nat.le_of_ble_eq_true rfl) dd_U_shiftToHorizon_16 (by decide)) hP hD hS hA [] [0] rfl rfl (by decide) (by decide) (fun r_16 u H locs hu_16 hP hD hS => ?_)
        have hu_16 : r_16 = nI (2 ^ (20 - q)) := hu_16
        have hP : va_P D bo_cl [(ua, .inr (8, [.int (nI od), .int (nI hz), .int (nI co), .int (nI tm), .int (nI sf), .int (nI tr), .int rf, .ref fi, .ref x, .ref hh, .ref ta, .int (nI cm), .ref ut]))] H := hP
        have hD : va_D A [(ua, .inr (8, [.int (nI od), .int (nI hz), .int (nI co), .int (nI tm), .int (nI sf), .int (nI tr), .int rf, .ref fi, .ref x, .ref hh, .ref ta, .int (nI cm), .ref ut]))] := hD
        subst hu_16
        refine bo_iadd hx hb dd_U_shiftToHorizon_19 ?_
        refine lv_aload_n hx hb dd_U_shiftToHorizon_20 rfl (lv_at hl 0 rfl) ?_
        refine va_get (D := D) (ci := 8) (v := .int (nI hz)) (C := RR_U) (T := TT_U) (N := 13) hx hb hts (fun w h => List.mem_cons_of_mem _ (in_U w h)) hown hK hP 0 rfl rfl 1 (by decide) (hts _ (List.mem_cons_of_mem _ wd_261)) (fun _ h9 => h9) rfl dd_U_shiftToHorizon_21 ?_
        refine bo_icmp_le (tgt := 33) hx hb dd_U_shiftToHorizon_24 rfl (by omega) (by omega) (fun h24 => ?_) (fun h24 => ?_)
        · refine lv_iload_n hx hb dd_U_shiftToHorizon_33 rfl (lv_at hl 1 rfl) ?_
          have hP9 := hP.sub (ws' := [(ua, .inr (8, [.int (nI od), .int (nI hz), .int (nI co), .int (nI tm), .int (nI sf), .int (nI tr), .int rf, .ref fi, .ref x, .ref hh, .ref ta, .int (nI cm), .ref ut]))]) [0] rfl
          have hD9 := hD.sub (ws' := [(ua, .inr (8, [.int (nI od), .int (nI hz), .int (nI co), .int (nI tm), .int (nI sf), .int (nI tr), .int rf, .ref fi, .ref x, .ref hh, .ref ta, .int (nI cm), .ref ut]))]) [0] (by decide) rfl
          exact hret () _ _ _ _ _ hP9 hD9 hS (by first | (have h0 : 16 - q = 0 := (by omega); rw [h0] at hz1; rw [← hz1]; exact ⟨rfl, hq.1, hq.2⟩) | (rw [hnn] at hz1; have h1 : (if tm + 2 ^ (20 - q) ≤ hz then q else fit tm hz nn (q + 1)) = fit tm hz (16 - sf) sf := hz1; rw [if_pos h24] at h1; rw [← h1]; exact ⟨rfl, hq.1, hq.2⟩)) dd_U_shiftToHorizon_34
        · refine lv_iinc (k := 1) (x := nI q) (v := nI (q + 1)) (lv' := [(1, .int (nI (q + 1))), (0, .ref ua)]) hx hb dd_U_shiftToHorizon_27 hl rfl (nI_add _ 1) (by decide) rfl (fun ls hl => ?_)
          refine lv_goto (tgt := 5) hx hb dd_U_shiftToHorizon_30 rfl ?_
          have hl8 := lv_sub (l' := [(0, .ref ua), (1, .int (nI (q + 1)))]) hl [1, 0] rfl
          have hP8 := hP.sub (ws' := [(ua, .inr (8, [.int (nI od), .int (nI hz), .int (nI co), .int (nI tm), .int (nI sf), .int (nI tr), .int rf, .ref fi, .ref x, .ref hh, .ref ta, .int (nI cm), .ref ut]))]) [0] rfl
          have hD8 := hD.sub (ws' := [(ua, .inr (8, [.int (nI od), .int (nI hz), .int (nI co), .int (nI tm), .int (nI sf), .int (nI tr), .int rf, .ref fi, .ref x, .ref hh, .ref ta, .int (nI cm), .ref ut]))]) [0] (by decide) rfl
          exact ih5 (q + 1) (by omega) (by rw [← hz1, hnn]; show _ = if tm + 2 ^ (20 - q) ≤ hz then q else _; rw [if_neg (by omega), show 16 - (q + 1) = nn by omega]) _ _ _ (by omega) hl8 hP8 hD8 hS
  have hl8 := lv_sub (l' := [(0, .ref ua), (1, .int (nI sf))]) hl [1, 0] rfl
  have hP8 := hP.sub (ws' := [(ua, .inr (8, [.int (nI od), .int (nI hz), .int (nI co), .int (nI tm), .int (nI sf), .int (nI tr), .int rf, .ref fi, .ref x, .ref hh, .ref ta, .int (nI cm), .ref ut]))]) [0] rfl
  have hD8 := hD.sub (ws' := [(ua, .inr (8, [.int (nI od), .int (nI hz), .int (nI co), .int (nI tm), .int (nI sf), .int (nI tr), .int rf, .ref fi, .ref x, .ref hh, .ref ta, .int (nI cm), .ref ut]))]) [0] (by decide) rfl
  exact lo5 ((16 - sf) + 1) sf (by omega) (by rfl) _ _ _ (Nat.lt_succ_self _) hl8 hP8 hD8 hS

set_option maxHeartbeats 4000000 in
set_option maxRecDepth 100000 in
theorem c_U_adaptShift {l : Launch} {D : va_G} {cJ cI cB cY : ClassId} (ua : Nat) (od : Nat) (hz : Nat) (co : Nat) (tm : Nat) (sf : Nat) (tr : Nat) (fi : Nat) (x : Nat) (hh : Nat) (ta : Nat) (cm : Nat) (ut : Nat) (rf : Int32) (us : Nat) (hu : us < 2 ^ 30) (hs : sf < 2 ^ 30) (hc : cm < 2 ^ 30) (ho : co < 2 ^ 30) :
    bo_v (S := Nat × Nat) l D bo_cl (bo_ty cJ cI cB cY) yy_U_adaptShift (bo_w yy_U_adaptShift bb_U_adaptShift 2 none) (bo_rm 0 0) [.ref ua, .int (nI us)] [(ua, .inr (8, [.int (nI od), .int (nI hz), .int (nI co), .int (nI tm), .int (nI sf), .int (nI tr), .int rf, .ref fi, .ref x, .ref hh, .ref ta, .int (nI cm), .ref ut]))] (fun u => (u.1, u.2) = adC us sf cm co) (fun u => [(ua, .inr (8, [.int (nI od), .int (nI hz), .int (nI co), .int (nI tm), .int (nI u.2), .int (nI tr), .int rf, .ref fi, .ref x, .ref hh, .ref ta, .int (nI u.1), .ref ut]))]) := by
  refine bo_enter_v (cc := bb_U_adaptShift) (maxL := 2) (by decide) rfl (Nat.le_of_ble_eq_true rfl) ?_
  intro p e s m args below meth c A ls Q hx hb hts hown hml hK hP hD hS hA hl hret
  have hl : lv_has ls 2 [(0, .ref ua), (1, .int (nI us))] := hl
  refine lv_aload_n hx hb dd_U_adaptShift_0 rfl (lv_at hl 0 rfl) ?_
  refine lv_iload_n hx hb dd_U_adaptShift_1 rfl (lv_at hl 1 rfl) ?_
  refine lv_aload_n hx hb dd_U_adaptShift_2 rfl (lv_at hl 0 rfl) ?_
  refine va_get (D := D) (ci := 8) (v := .int (nI sf)) (C := RR_U) (T := TT_U) (N := 13) hx hb hts (fun w h => List.mem_cons_of_mem _ (in_U w h)) hown hK hP 0 rfl rfl 4 (by decide) (hts _ (List.mem_cons_of_mem _ wd_267)) (fun _ h9 => h9) rfl dd_U_adaptShift_3 ?_
  refine bo_icmp_le (tgt := 13) hx hb dd_U_adaptShift_6 rfl (by omega) (by omega) (fun h6 => ?_) (fun h6 => ?_)
  · refine lv_aload_n hx hb dd_U_adaptShift_13 rfl (lv_at hl 0 rfl) ?_
    refine va_get (D := D) (ci := 8) (v := .int (nI cm)) (C := RR_U) (T := TT_U) (N := 13) hx hb hts (fun w h => List.mem_cons_of_mem _ (in_U w h)) hown hK hP 0 rfl rfl 11 (by decide) (hts _ (List.mem_cons_of_mem _ wd_281)) (fun _ h9 => h9) rfl dd_U_adaptShift_14 ?_
    refine lv_iconst (v := nI 1) hx hb dd_U_adaptShift_17 (by decide) ?_
    refine bo_iadd hx hb dd_U_adaptShift_18 ?_
    refine va_put (D := D) (ci := 8) (v := .int (nI (cm + 1))) (ty := .int) (C := RR_U) (T := TT_U) (N := 13) hx hb hts (fun w h => List.mem_cons_of_mem _ (in_U w h)) tt_U ty_U nm_U hown hK hP hD hS 0 rfl rfl 11 (by decide) (hts _ (List.mem_cons_of_mem _ wd_281)) (fun _ h9 => h9) rfl (by decide +kernel) rfl rfl (Nat.le_of_ble_eq_true rfl) dd_U_adaptShift_19 (fun H locs hP hD hS => ?_)
    have hP : va_P D bo_cl [(ua, .inr (8, [.int (nI od), .int (nI hz), .int (nI co), .int (nI tm), .int (nI sf), .int (nI tr), .int rf, .ref fi, .ref x, .ref hh, .ref ta, .int (nI (cm + 1)), .ref ut]))] H := hP
    have hD : va_D A [(ua, .inr (8, [.int (nI od), .int (nI hz), .int (nI co), .int (nI tm), .int (nI sf), .int (nI tr), .int rf, .ref fi, .ref x, .ref hh, .ref ta, .int (nI (cm + 1)), .ref ut]))] := hD
    refine lv_aload_n hx hb dd_U_adaptShift_22 rfl (lv_at hl 0 rfl) ?_
    refine lv_iload_n hx hb dd_U_adaptShift_23 rfl (lv_at hl 1 rfl) ?_
    refine va_put (D := D) (ci := 8) (v := .int (nI us)) (ty := .int) (C := RR_U) (T := TT_U) (N := 13) hx hb hts (fun w h => List.mem_cons_of_mem _ (in_U w h)) tt_U ty_U nm_U hown hK hP hD hS 0 rfl rfl 4 (by decide) (hts _ (List.mem_cons_of_mem _ wd_267)) (fun _ h9 => h9) rfl (by decide +kernel) rfl rfl (Nat.le_of_ble_eq_true rfl) dd_U_adaptShift_24 (fun H locs hP hD hS => ?_)
    have hP : va_P D bo_cl [(ua, .inr (8, [.int (nI od), .int (nI hz), .int (nI co), .int (nI tm), .int (nI us), .int (nI tr), .int rf, .ref fi, .ref x, .ref hh, .ref ta, .int (nI (cm + 1)), .ref ut]))] H := hP
    have hD : va_D A [(ua, .inr (8, [.int (nI od), .int (nI hz), .int (nI co), .int (nI tm), .int (nI us), .int (nI tr), .int rf, .ref fi, .ref x, .ref hh, .ref ta, .int (nI (cm + 1)), .ref ut]))] := hD
    refine lv_aload_n hx hb dd_U_adaptShift_27 rfl (lv_at hl 0 rfl) ?_
    refine va_get (D := D) (ci := 8) (v := .int (nI (cm + 1))) (C := RR_U) (T := TT_U) (N := 13) hx hb hts (fun w h => List.mem_cons_of_mem _ (in_U w h)) hown hK hP 0 rfl rfl 11 (by decide) (hts _ (List.mem_cons_of_mem _ wd_281)) (fun _ h9 => h9) rfl dd_U_adaptShift_28 ?_
    refine lv_iconst (v := nI 3) hx hb dd_U_adaptShift_31 (by decide) ?_
    refine bo_icmp_ne (tgt := 61) hx hb dd_U_adaptShift_32 rfl (by omega) (by omega) (fun h32 => ?_) (fun h32 => ?_)
    · have hP9 := hP.sub (ws' := [(ua, .inr (8, [.int (nI od), .int (nI hz), .int (nI co), .int (nI tm), .int (nI us), .int (nI tr), .int rf, .ref fi, .ref x, .ref hh, .ref ta, .int (nI (cm + 1)), .ref ut]))]) [0] rfl
      have hD9 := hD.sub (ws' := [(ua, .inr (8, [.int (nI od), .int (nI hz), .int (nI co), .int (nI tm), .int (nI us), .int (nI tr), .int rf, .ref fi, .ref x, .ref hh, .ref ta, .int (nI (cm + 1)), .ref ut]))]) [0] (by decide) rfl
      exact hret (cm + 1, us) _ _ _ _ hP9 hD9 hS (by first | exact absurd h32 (by decide) | exact (adC_1 h6).symm | exact (adC_2 h6 h32).symm | exact (adC_3 h6 h32 h48).symm | exact (adC_4 h6 h32 h48).symm) dd_U_adaptShift_61
    · refine lv_aload_n hx hb dd_U_adaptShift_35 rfl (lv_at hl 0 rfl) ?_
      refine lv_iconst (v := nI 0) hx hb dd_U_adaptShift_36 (by decide) ?_
      refine va_put (D := D) (ci := 8) (v := .int (nI 0)) (ty := .int) (C := RR_U) (T := TT_U) (N := 13) hx hb hts (fun w h => List.mem_cons_of_mem _ (in_U w h)) tt_U ty_U nm_U hown hK hP hD hS 0 rfl rfl 11 (by decide) (hts _ (List.mem_cons_of_mem _ wd_281)) (fun _ h9 => h9) rfl (by decide +kernel) rfl rfl (Nat.le_of_ble_eq_true rfl) dd_U_adaptShift_37 (fun H locs hP hD hS => ?_)
      have hP : va_P D bo_cl [(ua, .inr (8, [.int (nI od), .int (nI hz), .int (nI co), .int (nI tm), .int (nI us), .int (nI tr), .int rf, .ref fi, .ref x, .ref hh, .ref ta, .int (nI 0), .ref ut]))] H := hP
      have hD : va_D A [(ua, .inr (8, [.int (nI od), .int (nI hz), .int (nI co), .int (nI tm), .int (nI us), .int (nI tr), .int rf, .ref fi, .ref x, .ref hh, .ref ta, .int (nI 0), .ref ut]))] := hD
      refine lv_aload_n hx hb dd_U_adaptShift_40 rfl (lv_at hl 0 rfl) ?_
      refine va_get (D := D) (ci := 8) (v := .int (nI us)) (C := RR_U) (T := TT_U) (N := 13) hx hb hts (fun w h => List.mem_cons_of_mem _ (in_U w h)) hown hK hP 0 rfl rfl 4 (by decide) (hts _ (List.mem_cons_of_mem _ wd_267)) (fun _ h9 => h9) rfl dd_U_adaptShift_41 ?_
      refine lv_aload_n hx hb dd_U_adaptShift_44 rfl (lv_at hl 0 rfl) ?_
      refine va_get (D := D) (ci := 8) (v := .int (nI co)) (C := RR_U) (T := TT_U) (N := 13) hx hb hts (fun w h => List.mem_cons_of_mem _ (in_U w h)) hown hK hP 0 rfl rfl 2 (by decide) (hts _ (List.mem_cons_of_mem _ wd_263)) (fun _ h9 => h9) rfl dd_U_adaptShift_45 ?_
      refine bo_icmp_le (tgt := 61) hx hb dd_U_adaptShift_48 rfl (by omega) (by omega) (fun h48 => ?_) (fun h48 => ?_)
      · have hP9 := hP.sub (ws' := [(ua, .inr (8, [.int (nI od), .int (nI hz), .int (nI co), .int (nI tm), .int (nI us), .int (nI tr), .int rf, .ref fi, .ref x, .ref hh, .ref ta, .int (nI 0), .ref ut]))]) [0] rfl
        have hD9 := hD.sub (ws' := [(ua, .inr (8, [.int (nI od), .int (nI hz), .int (nI co), .int (nI tm), .int (nI us), .int (nI tr), .int rf, .ref fi, .ref x, .ref hh, .ref ta, .int (nI 0), .ref ut]))]) [0] (by decide) rfl
        exact hret (0, us) _ _ _ _ hP9 hD9 hS (by first | exact absurd h32 (by decide) | exact (adC_1 h6).symm | exact (adC_2 h6 h32).symm | exact (adC_3 h6 h32 h48).symm | exact (adC_4 h6 h32 h48).symm) dd_U_adaptShift_61
      · refine lv_aload_n hx hb dd_U_adaptShift_51 rfl (lv_at hl 0 rfl) ?_
        refine lv_dup hx hb dd_U_adaptShift_52 rfl ?_
        refine va_get (D := D) (ci := 8) (v := .int (nI us)) (C := RR_U) (T := TT_U) (N := 13) hx hb hts (fun w h => List.mem_cons_of_mem _ (in_U w h)) hown hK hP 0 rfl rfl 4 (by decide) (hts _ (List.mem_cons_of_mem _ wd_267)) (fun _ h9 => h9) rfl dd_U_adaptShift_53 ?_
        refine lv_iconst (v := nI 1) hx hb dd_U_adaptShift_56 (by decide) ?_
        refine bo_isub hx hb (by omega) dd_U_adaptShift_57 ?_
        refine va_put (D := D) (ci := 8) (v := .int (nI (us - 1))) (ty := .int) (C := RR_U) (T := TT_U) (N := 13) hx hb hts (fun w h => List.mem_cons_of_mem _ (in_U w h)) tt_U ty_U nm_U hown hK hP hD hS 0 rfl rfl 4 (by decide) (hts _ (List.mem_cons_of_mem _ wd_267)) (fun _ h9 => h9) rfl (by decide +kernel) rfl rfl (Nat.le_of_ble_eq_true rfl) dd_U_adaptShift_58 (fun H locs hP hD hS => ?_)
        have hP : va_P D bo_cl [(ua, .inr (8, [.int (nI od), .int (nI hz), .int (nI co), .int (nI tm), .int (nI (us - 1)), .int (nI tr), .int rf, .ref fi, .ref x, .ref hh, .ref ta, .int (nI 0), .ref ut]))] H := hP
        have hD : va_D A [(ua, .inr (8, [.int (nI od), .int (nI hz), .int (nI co), .int (nI tm), .int (nI (us - 1)), .int (nI tr), .int rf, .ref fi, .ref x, .ref hh, .ref ta, .int (nI 0), .ref ut]))] := hD
        have hP9 := hP.sub (ws' := [(ua, .inr (8, [.int (nI od), .int (nI hz), .int (nI co), .int (nI tm), .int (nI (us - 1)), .int (nI tr), .int rf, .ref fi, .ref x, .ref hh, .ref ta, .int (nI 0), .ref ut]))]) [0] rfl
        have hD9 := hD.sub (ws' := [(ua, .inr (8, [.int (nI od), .int (nI hz), .int (nI co), .int (nI tm), .int (nI (us - 1)), .int (nI tr), .int rf, .ref fi, .ref x, .ref hh, .ref ta, .int (nI 0), .ref ut]))]) [0] (by decide) rfl
        exact hret (0, us - 1) _ _ _ _ hP9 hD9 hS (by first | exact absurd h32 (by decide) | exact (adC_1 h6).symm | exact (adC_2 h6 h32).symm | exact (adC_3 h6 h32 h48).symm | exact (adC_4 h6 h32 h48).symm) dd_U_adaptShift_61
  · refine lv_iconst (v := nI 0) hx hb dd_U_adaptShift_9 (by decide) ?_
    refine lv_goto (tgt := 19) hx hb dd_U_adaptShift_10 rfl ?_
    refine va_put (D := D) (ci := 8) (v := .int (nI 0)) (ty := .int) (C := RR_U) (T := TT_U) (N := 13) hx hb hts (fun w h => List.mem_cons_of_mem _ (in_U w h)) tt_U ty_U nm_U hown hK hP hD hS 0 rfl rfl 11 (by decide) (hts _ (List.mem_cons_of_mem _ wd_281)) (fun _ h9 => h9) rfl (by decide +kernel) rfl rfl (Nat.le_of_ble_eq_true rfl) dd_U_adaptShift_19 (fun H locs hP hD hS => ?_)
    have hP : va_P D bo_cl [(ua, .inr (8, [.int (nI od), .int (nI hz), .int (nI co), .int (nI tm), .int (nI sf), .int (nI tr), .int rf, .ref fi, .ref x, .ref hh, .ref ta, .int (nI 0), .ref ut]))] H := hP
    have hD : va_D A [(ua, .inr (8, [.int (nI od), .int (nI hz), .int (nI co), .int (nI tm), .int (nI sf), .int (nI tr), .int rf, .ref fi, .ref x, .ref hh, .ref ta, .int (nI 0), .ref ut]))] := hD
    refine lv_aload_n hx hb dd_U_adaptShift_22 rfl (lv_at hl 0 rfl) ?_
    refine lv_iload_n hx hb dd_U_adaptShift_23 rfl (lv_at hl 1 rfl) ?_
    refine va_put (D := D) (ci := 8) (v := .int (nI us)) (ty := .int) (C := RR_U) (T := TT_U) (N := 13) hx hb hts (fun w h => List.mem_cons_of_mem _ (in_U w h)) tt_U ty_U nm_U hown hK hP hD hS 0 rfl rfl 4 (by decide) (hts _ (List.mem_cons_of_mem _ wd_267)) (fun _ h9 => h9) rfl (by decide +kernel) rfl rfl (Nat.le_of_ble_eq_true rfl) dd_U_adaptShift_24 (fun H locs hP hD hS => ?_)
    have hP : va_P D bo_cl [(ua, .inr (8, [.int (nI od), .int (nI hz), .int (nI co), .int (nI tm), .int (nI us), .int (nI tr), .int rf, .ref fi, .ref x, .ref hh, .ref ta, .int (nI 0), .ref ut]))] H := hP
    have hD : va_D A [(ua, .inr (8, [.int (nI od), .int (nI hz), .int (nI co), .int (nI tm), .int (nI us), .int (nI tr), .int rf, .ref fi, .ref x, .ref hh, .ref ta, .int (nI 0), .ref ut]))] := hD
    refine lv_aload_n hx hb dd_U_adaptShift_27 rfl (lv_at hl 0 rfl) ?_
    refine va_get (D := D) (ci := 8) (v := .int (nI 0)) (C := RR_U) (T := TT_U) (N := 13) hx hb hts (fun w h => List.mem_cons_of_mem _ (in_U w h)) hown hK hP 0 rfl rfl 11 (by decide) (hts _ (List.mem_cons_of_mem _ wd_281)) (fun _ h9 => h9) rfl dd_U_adaptShift_28 ?_
    refine lv_iconst (v := nI 3) hx hb dd_U_adaptShift_31 (by decide) ?_
    refine bo_icmp_ne (tgt := 61) hx hb dd_U_adaptShift_32 rfl (by omega) (by omega) (fun h32 => ?_) (fun h32 => ?_)
    · have hP9 := hP.sub (ws' := [(ua, .inr (8, [.int (nI od), .int (nI hz), .int (nI co), .int (nI tm), .int (nI us), .int (nI tr), .int rf, .ref fi, .ref x, .ref hh, .ref ta, .int (nI 0), .ref ut]))]) [0] rfl
      have hD9 := hD.sub (ws' := [(ua, .inr (8, [.int (nI od), .int (nI hz), .int (nI co), .int (nI tm), .int (nI us), .int (nI tr), .int rf, .ref fi, .ref x, .ref hh, .ref ta, .int (nI 0), .ref ut]))]) [0] (by decide) rfl
      exact hret (0, us) _ _ _ _ hP9 hD9 hS (by first | exact absurd h32 (by decide) | exact (adC_1 h6).symm | exact (adC_2 h6 h32).symm | exact (adC_3 h6 h32 h48).symm | exact (adC_4 h6 h32 h48).symm) dd_U_adaptShift_61
    · refine lv_aload_n hx hb dd_U_adaptShift_35 rfl (lv_at hl 0 rfl) ?_
      refine lv_iconst (v := nI 0) hx hb dd_U_adaptShift_36 (by decide) ?_
      refine va_put (D := D) (ci := 8) (v := .int (nI 0)) (ty := .int) (C := RR_U) (T := TT_U) (N := 13) hx hb hts (fun w h => List.mem_cons_of_mem _ (in_U w h)) tt_U ty_U nm_U hown hK hP hD hS 0 rfl rfl 11 (by decide) (hts _ (List.mem_cons_of_mem _ wd_281)) (fun _ h9 => h9) rfl (by decide +kernel) rfl rfl (Nat.le_of_ble_eq_true rfl) dd_U_adaptShift_37 (fun H locs hP hD hS => ?_)
      have hP : va_P D bo_cl [(ua, .inr (8, [.int (nI od), .int (nI hz), .int (nI co), .int (nI tm), .int (nI us), .int (nI tr), .int rf, .ref fi, .ref x, .ref hh, .ref ta, .int (nI 0), .ref ut]))] H := hP
      have hD : va_D A [(ua, .inr (8, [.int (nI od), .int (nI hz), .int (nI co), .int (nI tm), .int (nI us), .int (nI tr), .int rf, .ref fi, .ref x, .ref hh, .ref ta, .int (nI 0), .ref ut]))] := hD
      refine lv_aload_n hx hb dd_U_adaptShift_40 rfl (lv_at hl 0 rfl) ?_
      refine va_get (D := D) (ci := 8) (v := .int (nI us)) (C := RR_U) (T := TT_U) (N := 13) hx hb hts (fun w h => List.mem_cons_of_mem _ (in_U w h)) hown hK hP 0 rfl rfl 4 (by decide) (hts _ (List.mem_cons_of_mem _ wd_267)) (fun _ h9 => h9) rfl dd_U_adaptShift_41 ?_
      refine lv_aload_n hx hb dd_U_adaptShift_44 rfl (lv_at hl 0 rfl) ?_
      refine va_get (D := D) (ci := 8) (v := .int (nI co)) (C := RR_U) (T := TT_U) (N := 13) hx hb hts (fun w h => List.mem_cons_of_mem _ (in_U w h)) hown hK hP 0 rfl rfl 2 (by decide) (hts _ (List.mem_cons_of_mem _ wd_263)) (fun _ h9 => h9) rfl dd_U_adaptShift_45 ?_
      refine bo_icmp_le (tgt := 61) hx hb dd_U_adaptShift_48 rfl (by omega) (by omega) (fun h48 => ?_) (fun h48 => ?_)
      · have hP9 := hP.sub (ws' := [(ua, .inr (8, [.int (nI od), .int (nI hz), .int (nI co), .int (nI tm), .int (nI us), .int (nI tr), .int rf, .ref fi, .ref x, .ref hh, .ref ta, .int (nI 0), .ref ut]))]) [0] rfl
        have hD9 := hD.sub (ws' := [(ua, .inr (8, [.int (nI od), .int (nI hz), .int (nI co), .int (nI tm), .int (nI us), .int (nI tr), .int rf, .ref fi, .ref x, .ref hh, .ref ta, .int (nI 0), .ref ut]))]) [0] (by decide) rfl
        exact hret (0, us) _ _ _ _ hP9 hD9 hS (by first | exact absurd h32 (by decide) | exact (adC_1 h6).symm | exact (adC_2 h6 h32).symm | exact (adC_3 h6 h32 h48).symm | exact (adC_4 h6 h32 h48).symm) dd_U_adaptShift_61
      · refine lv_aload_n hx hb dd_U_adaptShift_51 rfl (lv_at hl 0 rfl) ?_
        refine lv_dup hx hb dd_U_adaptShift_52 rfl ?_
        refine va_get (D := D) (ci := 8) (v := .int (nI us)) (C := RR_U) (T := TT_U) (N := 13) hx hb hts (fun w h => List.mem_cons_of_mem _ (in_U w h)) hown hK hP 0 rfl rfl 4 (by decide) (hts _ (List.mem_cons_of_mem _ wd_267)) (fun _ h9 => h9) rfl dd_U_adaptShift_53 ?_
        refine lv_iconst (v := nI 1) hx hb dd_U_adaptShift_56 (by decide) ?_
        refine bo_isub hx hb (by omega) dd_U_adaptShift_57 ?_
        refine va_put (D := D) (ci := 8) (v := .int (nI (us - 1))) (ty := .int) (C := RR_U) (T := TT_U) (N := 13) hx hb hts (fun w h => List.mem_cons_of_mem _ (in_U w h)) tt_U ty_U nm_U hown hK hP hD hS 0 rfl rfl 4 (by decide) (hts _ (List.mem_cons_of_mem _ wd_267)) (fun _ h9 => h9) rfl (by decide +kernel) rfl rfl (Nat.le_of_ble_eq_true rfl) dd_U_adaptShift_58 (fun H locs hP hD hS => ?_)
        have hP : va_P D bo_cl [(ua, .inr (8, [.int (nI od), .int (nI hz), .int (nI co), .int (nI tm), .int (nI (us - 1)), .int (nI tr), .int rf, .ref fi, .ref x, .ref hh, .ref ta, .int (nI 0), .ref ut]))] H := hP
        have hD : va_D A [(ua, .inr (8, [.int (nI od), .int (nI hz), .int (nI co), .int (nI tm), .int (nI (us - 1)), .int (nI tr), .int rf, .ref fi, .ref x, .ref hh, .ref ta, .int (nI 0), .ref ut]))] := hD
        have hP9 := hP.sub (ws' := [(ua, .inr (8, [.int (nI od), .int (nI hz), .int (nI co), .int (nI tm), .int (nI (us - 1)), .int (nI tr), .int rf, .ref fi, .ref x, .ref hh, .ref ta, .int (nI 0), .ref ut]))]) [0] rfl
        have hD9 := hD.sub (ws' := [(ua, .inr (8, [.int (nI od), .int (nI hz), .int (nI co), .int (nI tm), .int (nI (us - 1)), .int (nI tr), .int rf, .ref fi, .ref x, .ref hh, .ref ta, .int (nI 0), .ref ut]))]) [0] (by decide) rfl
        exact hret (0, us - 1) _ _ _ _ hP9 hD9 hS (by first | exact absurd h32 (by decide) | exact (adC_1 h6).symm | exact (adC_2 h6 h32).symm | exact (adC_3 h6 h32 h48).symm | exact (adC_4 h6 h32 h48).symm) dd_U_adaptShift_61

set_option maxHeartbeats 4000000 in
set_option maxRecDepth 100000 in
theorem c_U_signOver {l : Launch} {D : va_G} {cJ cI cB cY : ClassId} (ua : Nat) (od : Nat) (hz : Nat) (co : Nat) (tm : Nat) (sf : Nat) (tr : Nat) (fi : Nat) (x : Nat) (hh : Nat) (ta : Nat) (cm : Nat) (ut : Nat) (rf : Int32) (xla : Nat) (xha : Nat) (xl : Nat → Int64) (xh : Nat → Int64) (lo : Int64) (hi : Int64) (be : Int32) (ba : Nat) (sa : Nat) (ns : Nat) (hc : Int32) (cr : Nat) (crr : Nat) (crl : Nat) (crh : Nat) (crp : Nat) (cn : Nat) (cf : Nat → Int64) (cg : Nat → Int64) (cpw : Nat → Nat) (hcr : cOk hc cn cpw) :
    bo_i (S := Int64 × Int64 × Int32) l D bo_cl (bo_ty cJ cI cB cY) yy_U_signOver (bo_w yy_U_signOver bb_U_signOver 2 (some .int)) (bo_rm 3 90) [.ref ua, .ref ba] [(ua, .inr (8, [.int (nI od), .int (nI hz), .int (nI co), .int (nI tm), .int (nI sf), .int (nI tr), .int rf, .ref fi, .ref x, .ref hh, .ref ta, .int (nI cm), .ref ut])), (x, .inr (7, [.ref xla, .ref xha])), (xla, .inl (cJ, 3, .inr (.inl xl))), (xha, .inl (cJ, 3, .inr (.inl xh))), (ut, .inr (3, [.long lo, .long hi, .int be])), (ba, .inr (6, [.ref sa, .ref cr, .int (nI ns), .int hc])), (cr, .inr (5, [.ref crr, .ref crp, .int (nI cn)])), (crr, .inr (7, [.ref crl, .ref crh])), (crl, .inl (cJ, 12, .inr (.inl cf))), (crh, .inl (cJ, 12, .inr (.inl cg))), (crp, .inl (cI, 36, .inl (fun i => nI (cpw i))))] (fun r u => r = sgR hc cn cf cg cpw xl xh) (fun u => [(ua, .inr (8, [.int (nI od), .int (nI hz), .int (nI co), .int (nI tm), .int (nI sf), .int (nI tr), .int rf, .ref fi, .ref x, .ref hh, .ref ta, .int (nI cm), .ref ut])), (x, .inr (7, [.ref xla, .ref xha])), (xla, .inl (cJ, 3, .inr (.inl xl))), (xha, .inl (cJ, 3, .inr (.inl xh))), (ut, .inr (3, [.long u.1, .long u.2.1, .int u.2.2])), (ba, .inr (6, [.ref sa, .ref cr, .int (nI ns), .int hc])), (cr, .inr (5, [.ref crr, .ref crp, .int (nI cn)])), (crr, .inr (7, [.ref crl, .ref crh])), (crl, .inl (cJ, 12, .inr (.inl cf))), (crh, .inl (cJ, 12, .inr (.inl cg))), (crp, .inl (cI, 36, .inl (fun i => nI (cpw i))))]) := by
  refine bo_enter_i (cc := bb_U_signOver) (maxL := 2) (by decide) rfl (Nat.le_of_ble_eq_true rfl) ?_
  intro p e s m args below meth c A ls Q hx hb hts hown hml hK hP hD hS hA hl hret
  have hl : lv_has ls 2 [(0, .ref ua), (1, .ref ba)] := hl
  refine lv_aload_n hx hb dd_U_signOver_0 rfl (lv_at hl 1 rfl) ?_
  refine va_get (D := D) (ci := 6) (v := .int hc) (C := RR_B) (T := TT_B) (N := 4) hx hb hts (fun w h => List.mem_cons_of_mem _ (in_B w h)) hown hK hP 5 rfl rfl 3 (by decide) (hts _ (List.mem_cons_of_mem _ wd_126)) (fun _ h9 => h9) rfl dd_U_signOver_1 ?_
  refine lv_if_ne (tgt := 9) hx hb dd_U_signOver_4 rfl (fun h4 => ?_) (fun h4 => ?_)
  · refine lv_aload_n hx hb dd_U_signOver_9 rfl (lv_at hl 0 rfl) ?_
    refine va_get (D := D) (ci := 8) (v := .ref ut) (C := RR_U) (T := TT_U) (N := 13) hx hb hts (fun w h => List.mem_cons_of_mem _ (in_U w h)) hown hK hP 0 rfl rfl 12 (by decide) (hts _ (List.mem_cons_of_mem _ wd_282)) (fun _ h9 => h9) rfl dd_U_signOver_10 ?_
    refine bo_gov (wr := [(ua, .inr (8, [.int (nI od), .int (nI hz), .int (nI co), .int (nI tm), .int (nI sf), .int (nI tr), .int rf, .ref fi, .ref x, .ref hh, .ref ta, .int (nI cm), .ref ut])), (x, .inr (7, [.ref xla, .ref xha])), (xla, .inl (cJ, 3, .inr (.inl xl))), (xha, .inl (cJ, 3, .inr (.inl xh))), (ba, .inr (6, [.ref sa, .ref cr, .int (nI ns), .int hc])), (cr, .inr (5, [.ref crr, .ref crp, .int (nI cn)])), (crr, .inr (7, [.ref crl, .ref crh])), (crl, .inl (cJ, 12, .inr (.inl cf))), (crh, .inl (cJ, 12, .inr (.inl cg))), (crp, .inl (cI, 36, .inl (fun i => nI (cpw i))))]) (bo_rV (c_I_forgetBeyond (l := l) (D := D) (cJ := cJ) (cI := cI) (cB := cB) (cY := cY) ut lo hi be  _) ⟨hx, hb, hml, hown, hts⟩ (cwV 0 hts (bo_gV wd_370 wd_371 wd_372 wd_10 wd_373) rfl rfl rfl hd_I_forgetBeyond (by decide)) hK hP hD [4] rfl (by decide) 4 3 rfl rfl rfl rfl hl.1 rfl (Nat.le_of_ble_eq_true rfl) dd_U_signOver_13 (by decide)) hP hD hS hA [4] [0, 1, 2, 3, 5, 6, 7, 8, 9, 10] rfl rfl (by decide) (by decide) (fun u H locs hu_13 hP hD hS => ?_)
    have hP : va_P D bo_cl [(ua, .inr (8, [.int (nI od), .int (nI hz), .int (nI co), .int (nI tm), .int (nI sf), .int (nI tr), .int rf, .ref fi, .ref x, .ref hh, .ref ta, .int (nI cm), .ref ut])), (x, .inr (7, [.ref xla, .ref xha])), (xla, .inl (cJ, 3, .inr (.inl xl))), (xha, .inl (cJ, 3, .inr (.inl xh))), (ba, .inr (6, [.ref sa, .ref cr, .int (nI ns), .int hc])), (cr, .inr (5, [.ref crr, .ref crp, .int (nI cn)])), (crr, .inr (7, [.ref crl, .ref crh])), (crl, .inl (cJ, 12, .inr (.inl cf))), (crh, .inl (cJ, 12, .inr (.inl cg))), (crp, .inl (cI, 36, .inl (fun i => nI (cpw i)))), (ut, .inr (3, [.long lo, .long hi, .int (nI 0)]))] H := hP
    have hD : va_D A [(ua, .inr (8, [.int (nI od), .int (nI hz), .int (nI co), .int (nI tm), .int (nI sf), .int (nI tr), .int rf, .ref fi, .ref x, .ref hh, .ref ta, .int (nI cm), .ref ut])), (x, .inr (7, [.ref xla, .ref xha])), (xla, .inl (cJ, 3, .inr (.inl xl))), (xha, .inl (cJ, 3, .inr (.inl xh))), (ba, .inr (6, [.ref sa, .ref cr, .int (nI ns), .int hc])), (cr, .inr (5, [.ref crr, .ref crp, .int (nI cn)])), (crr, .inr (7, [.ref crl, .ref crh])), (crl, .inl (cJ, 12, .inr (.inl cf))), (crh, .inl (cJ, 12, .inr (.inl cg))), (crp, .inl (cI, 36, .inl (fun i => nI (cpw i)))), (ut, .inr (3, [.long lo, .long hi, .int (nI 0)]))] := hD
    refine lv_aload_n hx hb dd_U_signOver_16 rfl (lv_at hl 1 rfl) ?_
    refine va_get (D := D) (ci := 6) (v := .ref cr) (C := RR_B) (T := TT_B) (N := 4) hx hb hts (fun w h => List.mem_cons_of_mem _ (in_B w h)) hown hK hP 4 rfl rfl 1 (by decide) (hts _ (List.mem_cons_of_mem _ wd_117)) (fun _ h9 => h9) rfl dd_U_signOver_17 ?_
    refine lv_aload_n hx hb dd_U_signOver_20 rfl (lv_at hl 0 rfl) ?_
    refine va_get (D := D) (ci := 8) (v := .ref x) (C := RR_U) (T := TT_U) (N := 13) hx hb hts (fun w h => List.mem_cons_of_mem _ (in_U w h)) hown hK hP 0 rfl rfl 8 (by decide) (hts _ (List.mem_cons_of_mem _ wd_275)) (fun _ h9 => h9) rfl dd_U_signOver_21 ?_
    refine lv_aload_n hx hb dd_U_signOver_24 rfl (lv_at hl 0 rfl) ?_
    refine va_get (D := D) (ci := 8) (v := .ref ut) (C := RR_U) (T := TT_U) (N := 13) hx hb hts (fun w h => List.mem_cons_of_mem _ (in_U w h)) hown hK hP 0 rfl rfl 12 (by decide) (hts _ (List.mem_cons_of_mem _ wd_282)) (fun _ h9 => h9) rfl dd_U_signOver_25 ?_
    refine bo_gov (wr := [(ua, .inr (8, [.int (nI od), .int (nI hz), .int (nI co), .int (nI tm), .int (nI sf), .int (nI tr), .int rf, .ref fi, .ref x, .ref hh, .ref ta, .int (nI cm), .ref ut])), (ba, .inr (6, [.ref sa, .ref cr, .int (nI ns), .int hc]))]) (bo_rV (c_Y_value (l := l) (D := D) (cJ := cJ) (cI := cI) (cB := cB) (cY := cY) cr crr crl crh crp cn cf cg cpw x xla xha xl xh ut lo hi (nI 0) (hcr h4).1 (hcr h4).2.1 (hcr h4).2.2 _) ⟨hx, hb, hml, hown, hts⟩ (cwV 2 hts (bo_gV wd_374 wd_375 wd_376 wd_4 wd_377) rfl rfl rfl hd_Y_value (by decide)) hK hP hD [5, 6, 7, 8, 9, 1, 2, 3, 10] rfl (by decide) 5 5 rfl rfl rfl rfl hl.1 rfl (Nat.le_of_ble_eq_true rfl) dd_U_signOver_28 (by decide)) hP hD hS hA [5, 6, 7, 8, 9, 1, 2, 3, 10] [0, 4] rfl rfl (by decide) (by decide) (fun u H locs hu_28 hP hD hS => ?_)
    obtain ⟨lo1_28, hi1_28, be1_28⟩ := u
    have hu_28 : (lo1_28, hi1_28, be1_28) = vS iv_look cf cg cpw xl xh (nI 0) cn := hu_28
    have hP : va_P D bo_cl [(ua, .inr (8, [.int (nI od), .int (nI hz), .int (nI co), .int (nI tm), .int (nI sf), .int (nI tr), .int rf, .ref fi, .ref x, .ref hh, .ref ta, .int (nI cm), .ref ut])), (ba, .inr (6, [.ref sa, .ref cr, .int (nI ns), .int hc])), (cr, .inr (5, [.ref crr, .ref crp, .int (nI cn)])), (crr, .inr (7, [.ref crl, .ref crh])), (crl, .inl (cJ, 12, .inr (.inl cf))), (crh, .inl (cJ, 12, .inr (.inl cg))), (crp, .inl (cI, 36, .inl (fun i => nI (cpw i)))), (x, .inr (7, [.ref xla, .ref xha])), (xla, .inl (cJ, 3, .inr (.inl xl))), (xha, .inl (cJ, 3, .inr (.inl xh))), (ut, .inr (3, [.long lo1_28, .long hi1_28, .int be1_28]))] H := hP
    have hD : va_D A [(ua, .inr (8, [.int (nI od), .int (nI hz), .int (nI co), .int (nI tm), .int (nI sf), .int (nI tr), .int rf, .ref fi, .ref x, .ref hh, .ref ta, .int (nI cm), .ref ut])), (ba, .inr (6, [.ref sa, .ref cr, .int (nI ns), .int hc])), (cr, .inr (5, [.ref crr, .ref crp, .int (nI cn)])), (crr, .inr (7, [.ref crl, .ref crh])), (crl, .inl (cJ, 12, .inr (.inl cf))), (crh, .inl (cJ, 12, .inr (.inl cg))), (crp, .inl (cI, 36, .inl (fun i => nI (cpw i)))), (x, .inr (7, [.ref xla, .ref xha])), (xla, .inl (cJ, 3, .inr (.inl xl))), (xha, .inl (cJ, 3, .inr (.inl xh))), (ut, .inr (3, [.long lo1_28, .long hi1_28, .int be1_28]))] := hD
    refine lv_aload_n hx hb dd_U_signOver_31 rfl (lv_at hl 0 rfl) ?_
    refine va_get (D := D) (ci := 8) (v := .ref ut) (C := RR_U) (T := TT_U) (N := 13) hx hb hts (fun w h => List.mem_cons_of_mem _ (in_U w h)) hown hK hP 0 rfl rfl 12 (by decide) (hts _ (List.mem_cons_of_mem _ wd_282)) (fun _ h9 => h9) rfl dd_U_signOver_32 ?_
    refine va_get (D := D) (ci := 3) (v := .int be1_28) (C := RR_I) (T := TT_I) (N := 3) hx hb hts (fun w h => List.mem_cons_of_mem _ (in_I w h)) hown hK hP 10 rfl rfl 2 (by decide) (hts _ (List.mem_cons_of_mem _ wd_213)) (fun _ h9 => h9) rfl dd_U_signOver_35 ?_
    refine lv_if_eq (tgt := 43) hx hb dd_U_signOver_38 rfl (fun h38 => ?_) (fun h38 => ?_)
    · refine lv_aload_n hx hb dd_U_signOver_43 rfl (lv_at hl 0 rfl) ?_
      refine va_get (D := D) (ci := 8) (v := .ref ut) (C := RR_U) (T := TT_U) (N := 13) hx hb hts (fun w h => List.mem_cons_of_mem _ (in_U w h)) hown hK hP 0 rfl rfl 12 (by decide) (hts _ (List.mem_cons_of_mem _ wd_282)) (fun _ h9 => h9) rfl dd_U_signOver_44 ?_
      refine va_get (D := D) (ci := 3) (v := .long lo1_28) (C := RR_I) (T := TT_I) (N := 3) hx hb hts (fun w h => List.mem_cons_of_mem _ (in_I w h)) hown hK hP 10 rfl rfl 0 (by decide) (hts _ (List.mem_cons_of_mem _ wd_203)) (fun _ h9 => h9) rfl dd_U_signOver_47 ?_
      refine lv_lconst (v := 0) hx hb dd_U_signOver_50 (by decide) ?_
      refine W.lcmp hx hb dd_U_signOver_51 ?_
      refine bo_lif_le (tgt := 57) hx hb dd_U_signOver_52 rfl (fun h52 => ?_) (fun h52 => ?_)
      · refine lv_aload_n hx hb dd_U_signOver_57 rfl (lv_at hl 0 rfl) ?_
        refine va_get (D := D) (ci := 8) (v := .ref ut) (C := RR_U) (T := TT_U) (N := 13) hx hb hts (fun w h => List.mem_cons_of_mem _ (in_U w h)) hown hK hP 0 rfl rfl 12 (by decide) (hts _ (List.mem_cons_of_mem _ wd_282)) (fun _ h9 => h9) rfl dd_U_signOver_58 ?_
        refine va_get (D := D) (ci := 3) (v := .long hi1_28) (C := RR_I) (T := TT_I) (N := 3) hx hb hts (fun w h => List.mem_cons_of_mem _ (in_I w h)) hown hK hP 10 rfl rfl 1 (by decide) (hts _ (List.mem_cons_of_mem _ wd_209)) (fun _ h9 => h9) rfl dd_U_signOver_61 ?_
        refine lv_lconst (v := 0) hx hb dd_U_signOver_64 (by decide) ?_
        refine W.lcmp hx hb dd_U_signOver_65 ?_
        refine bo_lif_ge (tgt := 73) hx hb dd_U_signOver_66 rfl (fun h66 => ?_) (fun h66 => ?_)
        · refine lv_iconst (v := nI 0) hx hb dd_U_signOver_73 (by decide) ?_
          have hP9 := hP.sub (ws' := [(ua, .inr (8, [.int (nI od), .int (nI hz), .int (nI co), .int (nI tm), .int (nI sf), .int (nI tr), .int rf, .ref fi, .ref x, .ref hh, .ref ta, .int (nI cm), .ref ut])), (x, .inr (7, [.ref xla, .ref xha])), (xla, .inl (cJ, 3, .inr (.inl xl))), (xha, .inl (cJ, 3, .inr (.inl xh))), (ut, .inr (3, [.long lo1_28, .long hi1_28, .int be1_28])), (ba, .inr (6, [.ref sa, .ref cr, .int (nI ns), .int hc])), (cr, .inr (5, [.ref crr, .ref crp, .int (nI cn)])), (crr, .inr (7, [.ref crl, .ref crh])), (crl, .inl (cJ, 12, .inr (.inl cf))), (crh, .inl (cJ, 12, .inr (.inl cg))), (crp, .inl (cI, 36, .inl (fun i => nI (cpw i))))]) [0, 7, 8, 9, 10, 1, 2, 3, 4, 5, 6] rfl
          have hD9 := hD.sub (ws' := [(ua, .inr (8, [.int (nI od), .int (nI hz), .int (nI co), .int (nI tm), .int (nI sf), .int (nI tr), .int rf, .ref fi, .ref x, .ref hh, .ref ta, .int (nI cm), .ref ut])), (x, .inr (7, [.ref xla, .ref xha])), (xla, .inl (cJ, 3, .inr (.inl xl))), (xha, .inl (cJ, 3, .inr (.inl xh))), (ut, .inr (3, [.long lo1_28, .long hi1_28, .int be1_28])), (ba, .inr (6, [.ref sa, .ref cr, .int (nI ns), .int hc])), (cr, .inr (5, [.ref crr, .ref crp, .int (nI cn)])), (crr, .inr (7, [.ref crl, .ref crh])), (crl, .inl (cJ, 12, .inr (.inl cf))), (crh, .inl (cJ, 12, .inr (.inl cg))), (crp, .inl (cI, 36, .inl (fun i => nI (cpw i))))]) [0, 7, 8, 9, 10, 1, 2, 3, 4, 5, 6] (by decide) rfl
          exact hret (lo1_28, hi1_28, be1_28) _ _ _ _ _ hP9 hD9 hS (by rw [sgR, if_neg h4, ← hu_28]; unfold sgO; first | exact (if_neg h38).symm | (rw [if_pos h38]; first | exact (if_pos h52).symm | (rw [if_neg h52]; first | exact (if_pos h66).symm | exact (if_neg h66).symm))) dd_U_signOver_74
        · refine lv_iconst (v := -1) hx hb dd_U_signOver_69 (by decide) ?_
          refine lv_goto (tgt := 74) hx hb dd_U_signOver_70 rfl ?_
          have hP9 := hP.sub (ws' := [(ua, .inr (8, [.int (nI od), .int (nI hz), .int (nI co), .int (nI tm), .int (nI sf), .int (nI tr), .int rf, .ref fi, .ref x, .ref hh, .ref ta, .int (nI cm), .ref ut])), (x, .inr (7, [.ref xla, .ref xha])), (xla, .inl (cJ, 3, .inr (.inl xl))), (xha, .inl (cJ, 3, .inr (.inl xh))), (ut, .inr (3, [.long lo1_28, .long hi1_28, .int be1_28])), (ba, .inr (6, [.ref sa, .ref cr, .int (nI ns), .int hc])), (cr, .inr (5, [.ref crr, .ref crp, .int (nI cn)])), (crr, .inr (7, [.ref crl, .ref crh])), (crl, .inl (cJ, 12, .inr (.inl cf))), (crh, .inl (cJ, 12, .inr (.inl cg))), (crp, .inl (cI, 36, .inl (fun i => nI (cpw i))))]) [0, 7, 8, 9, 10, 1, 2, 3, 4, 5, 6] rfl
          have hD9 := hD.sub (ws' := [(ua, .inr (8, [.int (nI od), .int (nI hz), .int (nI co), .int (nI tm), .int (nI sf), .int (nI tr), .int rf, .ref fi, .ref x, .ref hh, .ref ta, .int (nI cm), .ref ut])), (x, .inr (7, [.ref xla, .ref xha])), (xla, .inl (cJ, 3, .inr (.inl xl))), (xha, .inl (cJ, 3, .inr (.inl xh))), (ut, .inr (3, [.long lo1_28, .long hi1_28, .int be1_28])), (ba, .inr (6, [.ref sa, .ref cr, .int (nI ns), .int hc])), (cr, .inr (5, [.ref crr, .ref crp, .int (nI cn)])), (crr, .inr (7, [.ref crl, .ref crh])), (crl, .inl (cJ, 12, .inr (.inl cf))), (crh, .inl (cJ, 12, .inr (.inl cg))), (crp, .inl (cI, 36, .inl (fun i => nI (cpw i))))]) [0, 7, 8, 9, 10, 1, 2, 3, 4, 5, 6] (by decide) rfl
          exact hret (lo1_28, hi1_28, be1_28) _ _ _ _ _ hP9 hD9 hS (by rw [sgR, if_neg h4, ← hu_28]; unfold sgO; first | exact (if_neg h38).symm | (rw [if_pos h38]; first | exact (if_pos h52).symm | (rw [if_neg h52]; first | exact (if_pos h66).symm | exact (if_neg h66).symm))) dd_U_signOver_74
      · refine lv_iconst (v := nI 1) hx hb dd_U_signOver_55 (by decide) ?_
        have hP9 := hP.sub (ws' := [(ua, .inr (8, [.int (nI od), .int (nI hz), .int (nI co), .int (nI tm), .int (nI sf), .int (nI tr), .int rf, .ref fi, .ref x, .ref hh, .ref ta, .int (nI cm), .ref ut])), (x, .inr (7, [.ref xla, .ref xha])), (xla, .inl (cJ, 3, .inr (.inl xl))), (xha, .inl (cJ, 3, .inr (.inl xh))), (ut, .inr (3, [.long lo1_28, .long hi1_28, .int be1_28])), (ba, .inr (6, [.ref sa, .ref cr, .int (nI ns), .int hc])), (cr, .inr (5, [.ref crr, .ref crp, .int (nI cn)])), (crr, .inr (7, [.ref crl, .ref crh])), (crl, .inl (cJ, 12, .inr (.inl cf))), (crh, .inl (cJ, 12, .inr (.inl cg))), (crp, .inl (cI, 36, .inl (fun i => nI (cpw i))))]) [0, 7, 8, 9, 10, 1, 2, 3, 4, 5, 6] rfl
        have hD9 := hD.sub (ws' := [(ua, .inr (8, [.int (nI od), .int (nI hz), .int (nI co), .int (nI tm), .int (nI sf), .int (nI tr), .int rf, .ref fi, .ref x, .ref hh, .ref ta, .int (nI cm), .ref ut])), (x, .inr (7, [.ref xla, .ref xha])), (xla, .inl (cJ, 3, .inr (.inl xl))), (xha, .inl (cJ, 3, .inr (.inl xh))), (ut, .inr (3, [.long lo1_28, .long hi1_28, .int be1_28])), (ba, .inr (6, [.ref sa, .ref cr, .int (nI ns), .int hc])), (cr, .inr (5, [.ref crr, .ref crp, .int (nI cn)])), (crr, .inr (7, [.ref crl, .ref crh])), (crl, .inl (cJ, 12, .inr (.inl cf))), (crh, .inl (cJ, 12, .inr (.inl cg))), (crp, .inl (cI, 36, .inl (fun i => nI (cpw i))))]) [0, 7, 8, 9, 10, 1, 2, 3, 4, 5, 6] (by decide) rfl
        exact hret (lo1_28, hi1_28, be1_28) _ _ _ _ _ hP9 hD9 hS (by rw [sgR, if_neg h4, ← hu_28]; unfold sgO; first | exact (if_neg h38).symm | (rw [if_pos h38]; first | exact (if_pos h52).symm | (rw [if_neg h52]; first | exact (if_pos h66).symm | exact (if_neg h66).symm))) dd_U_signOver_56
    · refine lv_iconst (v := nI 0) hx hb dd_U_signOver_41 (by decide) ?_
      have hP9 := hP.sub (ws' := [(ua, .inr (8, [.int (nI od), .int (nI hz), .int (nI co), .int (nI tm), .int (nI sf), .int (nI tr), .int rf, .ref fi, .ref x, .ref hh, .ref ta, .int (nI cm), .ref ut])), (x, .inr (7, [.ref xla, .ref xha])), (xla, .inl (cJ, 3, .inr (.inl xl))), (xha, .inl (cJ, 3, .inr (.inl xh))), (ut, .inr (3, [.long lo1_28, .long hi1_28, .int be1_28])), (ba, .inr (6, [.ref sa, .ref cr, .int (nI ns), .int hc])), (cr, .inr (5, [.ref crr, .ref crp, .int (nI cn)])), (crr, .inr (7, [.ref crl, .ref crh])), (crl, .inl (cJ, 12, .inr (.inl cf))), (crh, .inl (cJ, 12, .inr (.inl cg))), (crp, .inl (cI, 36, .inl (fun i => nI (cpw i))))]) [0, 7, 8, 9, 10, 1, 2, 3, 4, 5, 6] rfl
      have hD9 := hD.sub (ws' := [(ua, .inr (8, [.int (nI od), .int (nI hz), .int (nI co), .int (nI tm), .int (nI sf), .int (nI tr), .int rf, .ref fi, .ref x, .ref hh, .ref ta, .int (nI cm), .ref ut])), (x, .inr (7, [.ref xla, .ref xha])), (xla, .inl (cJ, 3, .inr (.inl xl))), (xha, .inl (cJ, 3, .inr (.inl xh))), (ut, .inr (3, [.long lo1_28, .long hi1_28, .int be1_28])), (ba, .inr (6, [.ref sa, .ref cr, .int (nI ns), .int hc])), (cr, .inr (5, [.ref crr, .ref crp, .int (nI cn)])), (crr, .inr (7, [.ref crl, .ref crh])), (crl, .inl (cJ, 12, .inr (.inl cf))), (crh, .inl (cJ, 12, .inr (.inl cg))), (crp, .inl (cI, 36, .inl (fun i => nI (cpw i))))]) [0, 7, 8, 9, 10, 1, 2, 3, 4, 5, 6] (by decide) rfl
      exact hret (lo1_28, hi1_28, be1_28) _ _ _ _ _ hP9 hD9 hS (by rw [sgR, if_neg h4, ← hu_28]; unfold sgO; first | exact (if_neg h38).symm | (rw [if_pos h38]; first | exact (if_pos h52).symm | (rw [if_neg h52]; first | exact (if_pos h66).symm | exact (if_neg h66).symm))) dd_U_signOver_42
  · refine lv_iconst (v := nI 0) hx hb dd_U_signOver_7 (by decide) ?_
    have hP9 := hP.sub (ws' := [(ua, .inr (8, [.int (nI od), .int (nI hz), .int (nI co), .int (nI tm), .int (nI sf), .int (nI tr), .int rf, .ref fi, .ref x, .ref hh, .ref ta, .int (nI cm), .ref ut])), (x, .inr (7, [.ref xla, .ref xha])), (xla, .inl (cJ, 3, .inr (.inl xl))), (xha, .inl (cJ, 3, .inr (.inl xh))), (ut, .inr (3, [.long lo, .long hi, .int be])), (ba, .inr (6, [.ref sa, .ref cr, .int (nI ns), .int hc])), (cr, .inr (5, [.ref crr, .ref crp, .int (nI cn)])), (crr, .inr (7, [.ref crl, .ref crh])), (crl, .inl (cJ, 12, .inr (.inl cf))), (crh, .inl (cJ, 12, .inr (.inl cg))), (crp, .inl (cI, 36, .inl (fun i => nI (cpw i))))]) [0, 1, 2, 3, 4, 5, 6, 7, 8, 9, 10] rfl
    have hD9 := hD.sub (ws' := [(ua, .inr (8, [.int (nI od), .int (nI hz), .int (nI co), .int (nI tm), .int (nI sf), .int (nI tr), .int rf, .ref fi, .ref x, .ref hh, .ref ta, .int (nI cm), .ref ut])), (x, .inr (7, [.ref xla, .ref xha])), (xla, .inl (cJ, 3, .inr (.inl xl))), (xha, .inl (cJ, 3, .inr (.inl xh))), (ut, .inr (3, [.long lo, .long hi, .int be])), (ba, .inr (6, [.ref sa, .ref cr, .int (nI ns), .int hc])), (cr, .inr (5, [.ref crr, .ref crp, .int (nI cn)])), (crr, .inr (7, [.ref crl, .ref crh])), (crl, .inl (cJ, 12, .inr (.inl cf))), (crh, .inl (cJ, 12, .inr (.inl cg))), (crp, .inl (cI, 36, .inl (fun i => nI (cpw i))))]) [0, 1, 2, 3, 4, 5, 6, 7, 8, 9, 10] (by decide) rfl
    exact hret (lo, hi, be) _ _ _ _ _ hP9 hD9 hS (by exact (if_pos h4).symm) dd_U_signOver_8
