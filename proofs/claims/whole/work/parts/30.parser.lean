/-! the tape, read -/
def see (tb : Nat → Nat) (ln i : Nat) : Nat := if i < ln then tb i else 0
theorem see_lt {tb : Nat → Nat} {ln i : Nat} (h : ¬ see tb ln i = 0) : i < ln := by
  unfold see at h
  by_cases hi : i < ln
  · exact hi
  · rw [if_neg hi] at h; exact absurd rfl h
theorem see_128 {tb : Nat → Nat} (htb : ∀ i, tb i < 128) (ln i : Nat) : see tb ln i < 128 := by
  unfold see
  split
  · exact htb i
  · decide
def dig (x : Nat) : Bool := decide (48 ≤ x ∧ x ≤ 57)
def ltI (x : Nat) : Int32 := if 120 ≤ x ∧ x ≤ 122 then nI (x - 120) else -1
theorem let_a {x : Nat} (hx : x < 128) {w : Int32} (hw : w = nI x - nI 120) (h : w < 0 ∨ nI 3 ≤ w) : -1 = ltI x := by
  have h1 : ∀ k : Fin 128, (nI k.val - nI 120 < 0 ∨ nI 3 ≤ nI k.val - nI 120) → -1 = ltI k.val := by decide +kernel
  exact h1 ⟨x, hx⟩ (hw ▸ h)
theorem let_b {x : Nat} (hx : x < 128) {w : Int32} (hw : w = nI x - nI 120) (h : ¬ (w < 0 ∨ nI 3 ≤ w)) : w = ltI x := by
  have h1 : ∀ k : Fin 128, ¬ (nI k.val - nI 120 < 0 ∨ nI 3 ≤ nI k.val - nI 120) → nI k.val - nI 120 = ltI k.val := by decide +kernel
  rw [hw] at h ⊢
  exact h1 ⟨x, hx⟩ h
theorem by_eq {x : Nat} (hx : x < 128) : vp_nar .byte ((nI x).toInt8.toInt32) = nI x := by
  have h1 : ∀ k : Fin 128, vp_nar .byte ((nI k.val).toInt8.toInt32) = nI k.val := by decide +kernel
  exact h1 ⟨x, hx⟩
def fwS (fp : Nat → Int32) : Nat → Nat → Int32 → Int32
  | 0, _, a => a
  | k + 1, v, a => fwS fp k (v + 1) (if ¬ fp v = -1 ∧ (a = -1 ∨ fp v < a) then fp v else a)
def dgs (sv : Nat → Nat) : Nat → Nat → Nat → Nat × Nat
  | 0, pl, x => (pl, x)
  | k + 1, pl, x => if 48 ≤ sv pl ∧ sv pl ≤ 57 then dgs sv k (pl + 1) (x * 10 + (sv pl - 48)) else (pl, x)
def rN (sv : Nat → Nat) (pl : Nat) : Except Nat (Nat × Nat × Nat) :=
  if sv (dgs sv 3 pl 0).1 = 47 then
    if dig (sv ((dgs sv 3 pl 0).1 + 1)) = true then
      if (dgs sv 2 ((dgs sv 3 pl 0).1 + 1) 0).2 = 0 then .error ((dgs sv 3 pl 0).1 + 1) else .ok ((dgs sv 2 ((dgs sv 3 pl 0).1 + 1) 0).1, (dgs sv 3 pl 0).2, (dgs sv 2 ((dgs sv 3 pl 0).1 + 1) 0).2)
    else .error ((dgs sv 3 pl 0).1 + 1)
  else .ok ((dgs sv 3 pl 0).1, (dgs sv 3 pl 0).2, 1)
def rnQ (res : Except Nat (Nat × Nat × Nat)) (ln : Nat) (fl r : Int32) (pl1 ab1 bw1 : Nat) (fl1 : Int32) : Prop := match res with
  | .ok (p1, a1, b1) => r = nI 1 ∧ pl1 = p1 ∧ ab1 = a1 ∧ bw1 = b1 ∧ fl1 = fl ∧ p1 ≤ ln
  | .error e1 => r = nI 0 ∧ fl1 = nI e1
theorem rnQ_a {sv : Nat → Nat} {pl ln x1 y1 : Nat} {fl : Int32} (h1 : (x1, y1) = dgs sv 3 pl 0) (h2 : ¬ sv x1 = 47) (hl : x1 ≤ ln) : rnQ (rN sv pl) ln fl (nI 1) x1 y1 1 fl := by
  unfold rN
  rw [← h1]
  rw [if_neg h2]
  exact ⟨rfl, rfl, rfl, rfl, rfl, hl⟩
theorem rnQ_b {sv : Nat → Nat} {pl ln x1 y1 pl1 ab1 bw1 : Nat} {fl : Int32} (h1 : (x1, y1) = dgs sv 3 pl 0) (h2 : sv x1 = 47) (h3 : ¬ dig (sv (x1 + 1)) = true) : rnQ (rN sv pl) ln fl (nI 0) pl1 ab1 bw1 (nI (x1 + 1)) := by
  unfold rN
  rw [← h1]
  rw [if_pos h2, if_neg h3]
  exact ⟨rfl, rfl⟩
theorem rnQ_c {sv : Nat → Nat} {pl ln x1 y1 x2 y2 pl1 ab1 bw1 : Nat} {fl : Int32} (h1 : (x1, y1) = dgs sv 3 pl 0) (h2 : sv x1 = 47) (h3 : dig (sv (x1 + 1)) = true) (h4 : (x2, y2) = dgs sv 2 (x1 + 1) 0) (h5 : y2 = 0) : rnQ (rN sv pl) ln fl (nI 0) pl1 ab1 bw1 (nI (x1 + 1)) := by
  unfold rN
  rw [← h1]
  rw [if_pos h2, if_pos h3, ← h4]
  rw [if_pos h5]
  exact ⟨rfl, rfl⟩
theorem rnQ_d {sv : Nat → Nat} {pl ln x1 y1 x2 y2 : Nat} {fl : Int32} (h1 : (x1, y1) = dgs sv 3 pl 0) (h2 : sv x1 = 47) (h3 : dig (sv (x1 + 1)) = true) (h4 : (x2, y2) = dgs sv 2 (x1 + 1) 0) (h5 : ¬ y2 = 0) (hl : x2 ≤ ln) : rnQ (rN sv pl) ln fl (nI 1) x2 y1 y2 fl := by
  unfold rN
  rw [← h1]
  rw [if_pos h2, if_pos h3, ← h4]
  rw [if_neg h5]
  exact ⟨rfl, rfl, rfl, rfl, rfl, hl⟩
theorem dgs_lt {tb : Nat → Nat} {ln : Nat} : ∀ (k pl x : Nat), x < 10 ^ (8 - k) → k ≤ 8 → (dgs (see tb ln) k pl x).2 < 10 ^ 8
  | 0, pl, x, h, _ => h
  | k + 1, pl, x, h, hk => by
    unfold dgs
    split
    · rename_i h1
      refine dgs_lt k (pl + 1) _ ?_ (by omega)
      rw [show 8 - k = (8 - (k + 1)) + 1 by omega, Nat.pow_succ]
      omega
    · exact Nat.lt_of_lt_of_le h (Nat.pow_le_pow_right (by decide) (by omega))
def rP (sv : Nat → Nat) (pl room : Nat) : Except Nat (Nat × Nat) := if sv pl = 94 then (if 49 ≤ sv (pl + 1) ∧ sv (pl + 1) ≤ 52 ∧ sv (pl + 1) - 48 ≤ room then .ok (pl + 2, sv (pl + 1) - 48) else .error (pl + 1)) else .ok (pl, 1)
def rpQ (res : Except Nat (Nat × Nat)) (ln : Nat) (fl r : Int32) (pl1 : Nat) (fl1 : Int32) : Prop := match res with
  | .ok (p1, q1) => r = nI q1 ∧ pl1 = p1 ∧ fl1 = fl ∧ p1 ≤ ln
  | .error e1 => r = -1 ∧ fl1 = nI e1
theorem rp_n {x room : Nat} (hx : x < 128) (hr : room < 7) {w : Int32} (hw : w = nI x - nI 48) : ((w < nI 1 ∨ nI 4 < w ∨ ¬ w ≤ nI room) ↔ ¬ (49 ≤ x ∧ x ≤ 52 ∧ x - 48 ≤ room)) ∧ ((49 ≤ x ∧ x ≤ 52 ∧ x - 48 ≤ room) → w = nI (x - 48)) := by
  have h1 : ∀ k : Fin 128, ∀ j : Fin 7, ((nI k.val - nI 48 < nI 1 ∨ nI 4 < nI k.val - nI 48 ∨ ¬ nI k.val - nI 48 ≤ nI j.val) ↔ ¬ (49 ≤ k.val ∧ k.val ≤ 52 ∧ k.val - 48 ≤ j.val)) ∧ ((49 ≤ k.val ∧ k.val ≤ 52 ∧ k.val - 48 ≤ j.val) → nI k.val - nI 48 = nI (k.val - 48)) := by decide +kernel
  rw [hw]
  exact h1 ⟨x, hx⟩ ⟨room, hr⟩
theorem rpQ_1 {sv : Nat → Nat} {pl room ln : Nat} {fl : Int32} (h : ¬ sv pl = 94) (hl : pl ≤ ln) : rpQ (rP sv pl room) ln fl (nI 1) pl fl := by
  unfold rP
  rw [if_neg h]
  exact ⟨rfl, rfl, rfl, hl⟩
theorem rpQ_2 {sv : Nat → Nat} {pl room ln pl1 : Nat} {fl w : Int32} (h : sv pl = 94) (hx : sv (pl + 1) < 128) (hr : room < 7) (hw : w = nI (sv (pl + 1)) - nI 48) (hb : w < nI 1 ∨ nI 4 < w ∨ ¬ w ≤ nI room) : rpQ (rP sv pl room) ln fl (-1) pl1 (nI (pl + 1)) := by
  unfold rP
  rw [if_pos h, if_neg ((rp_n hx hr hw).1.mp hb)]
  exact ⟨rfl, rfl⟩
theorem rpQ_3 {sv : Nat → Nat} {pl room ln : Nat} {fl w : Int32} (h : sv pl = 94) (hx : sv (pl + 1) < 128) (hr : room < 7) (hw : w = nI (sv (pl + 1)) - nI 48) (hb : ¬ (w < nI 1 ∨ nI 4 < w ∨ ¬ w ≤ nI room)) (hl : pl + 1 + 1 ≤ ln) : rpQ (rP sv pl room) ln fl w (pl + 1 + 1) fl := by
  have h1 := Classical.not_not.mp (fun q => hb ((rp_n hx hr hw).1.mpr q))
  unfold rP
  rw [if_pos h, if_pos h1]
  exact ⟨(rp_n hx hr hw).2 h1, rfl, rfl, hl⟩
theorem rp_ok {x room : Nat} (hx : x < 128) (hr : room < 7) {w : Int32} (hw : w = nI x - nI 48) (hb : ¬ (w < nI 1 ∨ nI 4 < w ∨ ¬ w ≤ nI room)) : ¬ x = 0 := by
  have h1 := Classical.not_not.mp (fun q => hb ((rp_n hx hr hw).1.mpr q))
  omega
theorem upm_I {f : Nat → Int32} {i : Nat} (hf : ∀ j, j < i → f j = -1) : ∀ j, j < i + 1 → upd f i (-1) j = -1 := by
  intro j hj
  by_cases hji : j = i
  · subst hji
    exact pk_us
  · rw [pk_un hji]
    exact hf j (by omega)
theorem fw_lt {x y : Int32} (h : ¬ y ≤ x) : x < y := by
  rw [Int32.le_iff_toInt_le] at h
  rw [Int32.lt_iff_toInt_lt]
  omega
theorem fw_1 {x a : Int32} (h16 : ¬ x = -1) (h21 : a = -1) : x = (if ¬ x = -1 ∧ (a = -1 ∨ x < a) then x else a) := (if_pos ⟨h16, Or.inl h21⟩).symm
theorem fw_2 {x a : Int32} (h16 : ¬ x = -1) (h31 : ¬ a ≤ x) : x = (if ¬ x = -1 ∧ (a = -1 ∨ x < a) then x else a) := (if_pos ⟨h16, Or.inr (fw_lt h31)⟩).symm
theorem fw_3 {x a : Int32} (h16 : x = -1) : a = (if ¬ x = -1 ∧ (a = -1 ∨ x < a) then x else a) := (if_neg (fun q => q.1 h16)).symm
theorem fw_4 {x a : Int32} (h21 : ¬ a = -1) (h31 : a ≤ x) : a = (if ¬ x = -1 ∧ (a = -1 ∨ x < a) then x else a) := by
  refine (if_neg (fun q => q.2.elim h21 (fun z => ?_))).symm
  rw [Int32.lt_iff_toInt_lt] at z
  rw [Int32.le_iff_toInt_le] at h31
  omega
theorem fw_le {x y : Int32} (h : x < y) (h2 : y ≤ x) : False := by
  rw [Int32.lt_iff_toInt_lt] at h
  rw [Int32.le_iff_toInt_le] at h2
  omega
set_option maxHeartbeats 4000000 in
set_option maxRecDepth 100000 in
theorem c_P_room {l : Launch} {D : va_G} {cJ cI cB cY : ClassId} (pa : Nat) (tp : Nat) (ln : Nat) (pl : Nat) (ab : Nat) (bw : Nat) (fpa : Nat) (fl : Int32) (hln : ln ≤ 240) :
    bo_i (S := Unit) l D bo_cl (bo_ty cJ cI cB cY) yy_P_room (bo_w yy_P_room bb_P_room 1 (some .int)) (bo_rm 0 0) [.ref pa] [(pa, .inr (4, [.ref tp, .int (nI ln), .int (nI pl), .int fl, .int (nI ab), .int (nI bw), .ref fpa]))] (fun r u => r = nI (240 - ln)) (fun u => [(pa, .inr (4, [.ref tp, .int (nI ln), .int (nI pl), .int fl, .int (nI ab), .int (nI bw), .ref fpa]))]) := by
  refine bo_enter_i (cc := bb_P_room) (maxL := 1) (by decide) rfl (Nat.le_of_ble_eq_true rfl) ?_
  intro p e s m args below meth c A ls Q hx hb hts hown hml hK hP hD hS hA hl hret
  have hl : lv_has ls 1 [(0, .ref pa)] := hl
  refine lv_sipush (v := nI 240) hx hb dd_P_room_0 (by decide) ?_
  refine lv_aload_n hx hb dd_P_room_3 rfl (lv_at hl 0 rfl) ?_
  refine va_get (D := D) (ci := 4) (v := .int (nI ln)) (C := RR_P) (T := TT_P) (N := 7) hx hb hts (fun w h => List.mem_cons_of_mem _ (in_P w h)) hown hK hP 0 rfl rfl 1 (by decide) (hts _ (List.mem_cons_of_mem _ wd_36)) (fun _ h9 => h9) rfl dd_P_room_4 ?_
  refine bo_isub hx hb (by omega) dd_P_room_7 ?_
  have hP9 := hP.sub (ws' := [(pa, .inr (4, [.ref tp, .int (nI ln), .int (nI pl), .int fl, .int (nI ab), .int (nI bw), .ref fpa]))]) [0] rfl
  have hD9 := hD.sub (ws' := [(pa, .inr (4, [.ref tp, .int (nI ln), .int (nI pl), .int fl, .int (nI ab), .int (nI bw), .ref fpa]))]) [0] (by decide) rfl
  exact hret () _ _ _ _ _ hP9 hD9 hS (by rfl) dd_P_room_8

set_option maxHeartbeats 4000000 in
set_option maxRecDepth 100000 in
theorem c_P_add {l : Launch} {D : va_G} {cJ cI cB cY : ClassId} (pa : Nat) (tp : Nat) (ln : Nat) (pl : Nat) (ab : Nat) (bw : Nat) (fpa : Nat) (fl : Int32) (tb : Nat → Nat) (ch : Nat) (hln : ln < 240) (hch : ch < 128) :
    bo_v (S := Unit) l D bo_cl (bo_ty cJ cI cB cY) yy_P_add (bo_w yy_P_add bb_P_add 2 none) (bo_rm 0 0) [.ref pa, .int (nI ch)] [(pa, .inr (4, [.ref tp, .int (nI ln), .int (nI pl), .int fl, .int (nI ab), .int (nI bw), .ref fpa])), (tp, .inl (cB, 240, .inl (fun i => nI (tb i))))] (fun u => True) (fun u => [(pa, .inr (4, [.ref tp, .int (nI (ln + 1)), .int (nI pl), .int fl, .int (nI ab), .int (nI bw), .ref fpa])), (tp, .inl (cB, 240, .inl (fun i => nI (va_up tb ln ch i))))]) := by
  refine bo_enter_v (cc := bb_P_add) (maxL := 2) (by decide) rfl (Nat.le_of_ble_eq_true rfl) ?_
  intro p e s m args below meth c A ls Q hx hb hts hown hml hK hP hD hS hA hl hret
  have hl : lv_has ls 2 [(0, .ref pa), (1, .int (nI ch))] := hl
  refine lv_aload_n hx hb dd_P_add_0 rfl (lv_at hl 0 rfl) ?_
  refine va_get (D := D) (ci := 4) (v := .int (nI ln)) (C := RR_P) (T := TT_P) (N := 7) hx hb hts (fun w h => List.mem_cons_of_mem _ (in_P w h)) hown hK hP 0 rfl rfl 1 (by decide) (hts _ (List.mem_cons_of_mem _ wd_36)) (fun _ h9 => h9) rfl dd_P_add_1 ?_
  refine lv_sipush (v := nI 240) hx hb dd_P_add_4 (by decide) ?_
  refine bo_icmp_ge (tgt := 31) hx hb dd_P_add_7 rfl (by omega) (by omega) (fun h7 => absurd h7 (by omega)) (fun h7 => ?_)
  refine lv_aload_n hx hb dd_P_add_10 rfl (lv_at hl 0 rfl) ?_
  refine va_get (D := D) (ci := 4) (v := .ref tp) (C := RR_P) (T := TT_P) (N := 7) hx hb hts (fun w h => List.mem_cons_of_mem _ (in_P w h)) hown hK hP 0 rfl rfl 0 (by decide) (hts _ (List.mem_cons_of_mem _ wd_35)) (fun _ h9 => h9) rfl dd_P_add_11 ?_
  refine lv_aload_n hx hb dd_P_add_14 rfl (lv_at hl 0 rfl) ?_
  refine va_get (D := D) (ci := 4) (v := .int (nI ln)) (C := RR_P) (T := TT_P) (N := 7) hx hb hts (fun w h => List.mem_cons_of_mem _ (in_P w h)) hown hK hP 0 rfl rfl 1 (by decide) (hts _ (List.mem_cons_of_mem _ wd_36)) (fun _ h9 => h9) rfl dd_P_add_15 ?_
  refine lv_iload_n hx hb dd_P_add_18 rfl (lv_at hl 1 rfl) ?_
  refine lv_i2b (v := (nI ch).toInt8.toInt32) hx hb dd_P_add_19 rfl ?_
  refine bo_bast hx hb hK hP hD hS 1 2 rfl rfl (by omega) (by decide) dd_P_add_20 (fun H locs hP hD hS => ?_)
  have hP : va_P D bo_cl [(pa, .inr (4, [.ref tp, .int (nI ln), .int (nI pl), .int fl, .int (nI ab), .int (nI bw), .ref fpa])), (tp, .inl (cB, 240, .inl (upd (fun i => nI (tb i)) ln (vp_nar .byte ((nI ch).toInt8.toInt32)))))] H := hP
  have hD : va_D A [(pa, .inr (4, [.ref tp, .int (nI ln), .int (nI pl), .int fl, .int (nI ab), .int (nI bw), .ref fpa])), (tp, .inl (cB, 240, .inl (upd (fun i => nI (tb i)) ln (vp_nar .byte ((nI ch).toInt8.toInt32)))))] := hD
  have hP := bo_extI hP 1 rfl (fun i => nI (va_up tb ln ch i)) (fun j _ => by rw [by_eq hch]; exact bo_updN _ _ _ j)
  have hD := hD.set (e := .inl (cB, 240, .inl (fun i => nI (va_up tb ln ch i)))) (p := 1) rfl
  have hP : va_P D bo_cl [(pa, .inr (4, [.ref tp, .int (nI ln), .int (nI pl), .int fl, .int (nI ab), .int (nI bw), .ref fpa])), (tp, .inl (cB, 240, .inl (fun i => nI (va_up tb ln ch i))))] H := hP
  have hD : va_D A [(pa, .inr (4, [.ref tp, .int (nI ln), .int (nI pl), .int fl, .int (nI ab), .int (nI bw), .ref fpa])), (tp, .inl (cB, 240, .inl (fun i => nI (va_up tb ln ch i))))] := hD
  refine lv_aload_n hx hb dd_P_add_21 rfl (lv_at hl 0 rfl) ?_
  refine lv_dup hx hb dd_P_add_22 rfl ?_
  refine va_get (D := D) (ci := 4) (v := .int (nI ln)) (C := RR_P) (T := TT_P) (N := 7) hx hb hts (fun w h => List.mem_cons_of_mem _ (in_P w h)) hown hK hP 0 rfl rfl 1 (by decide) (hts _ (List.mem_cons_of_mem _ wd_36)) (fun _ h9 => h9) rfl dd_P_add_23 ?_
  refine lv_iconst (v := nI 1) hx hb dd_P_add_26 (by decide) ?_
  refine bo_iadd hx hb dd_P_add_27 ?_
  refine va_put (D := D) (ci := 4) (v := .int (nI (ln + 1))) (ty := .int) (C := RR_P) (T := TT_P) (N := 7) hx hb hts (fun w h => List.mem_cons_of_mem _ (in_P w h)) tt_P ty_P nm_P hown hK hP hD hS 0 rfl rfl 1 (by decide) (hts _ (List.mem_cons_of_mem _ wd_36)) (fun _ h9 => h9) rfl (by decide +kernel) rfl rfl (Nat.le_of_ble_eq_true rfl) dd_P_add_28 (fun H locs hP hD hS => ?_)
  have hP : va_P D bo_cl [(pa, .inr (4, [.ref tp, .int (nI (ln + 1)), .int (nI pl), .int fl, .int (nI ab), .int (nI bw), .ref fpa])), (tp, .inl (cB, 240, .inl (fun i => nI (va_up tb ln ch i))))] H := hP
  have hD : va_D A [(pa, .inr (4, [.ref tp, .int (nI (ln + 1)), .int (nI pl), .int fl, .int (nI ab), .int (nI bw), .ref fpa])), (tp, .inl (cB, 240, .inl (fun i => nI (va_up tb ln ch i))))] := hD
  have hP9 := hP.sub (ws' := [(pa, .inr (4, [.ref tp, .int (nI (ln + 1)), .int (nI pl), .int fl, .int (nI ab), .int (nI bw), .ref fpa])), (tp, .inl (cB, 240, .inl (fun i => nI (va_up tb ln ch i))))]) [0, 1] rfl
  have hD9 := hD.sub (ws' := [(pa, .inr (4, [.ref tp, .int (nI (ln + 1)), .int (nI pl), .int fl, .int (nI ab), .int (nI bw), .ref fpa])), (tp, .inl (cB, 240, .inl (fun i => nI (va_up tb ln ch i))))]) [0, 1] (by decide) rfl
  exact hret () _ _ _ _ hP9 hD9 hS (trivial) dd_P_add_31

set_option maxHeartbeats 4000000 in
set_option maxRecDepth 100000 in
theorem c_P_emptyTape {l : Launch} {D : va_G} {cJ cI cB cY : ClassId} (pa : Nat) (tp : Nat) (ln : Nat) (pl : Nat) (ab : Nat) (bw : Nat) (fpa : Nat) (fl : Int32) :
    bo_v (S := Unit) l D bo_cl (bo_ty cJ cI cB cY) yy_P_emptyTape (bo_w yy_P_emptyTape bb_P_emptyTape 1 none) (bo_rm 0 0) [.ref pa] [(pa, .inr (4, [.ref tp, .int (nI ln), .int (nI pl), .int fl, .int (nI ab), .int (nI bw), .ref fpa]))] (fun u => True) (fun u => [(pa, .inr (4, [.ref tp, .int (nI 0), .int (nI pl), .int fl, .int (nI ab), .int (nI bw), .ref fpa]))]) := by
  refine bo_enter_v (cc := bb_P_emptyTape) (maxL := 1) (by decide) rfl (Nat.le_of_ble_eq_true rfl) ?_
  intro p e s m args below meth c A ls Q hx hb hts hown hml hK hP hD hS hA hl hret
  have hl : lv_has ls 1 [(0, .ref pa)] := hl
  refine lv_aload_n hx hb dd_P_emptyTape_0 rfl (lv_at hl 0 rfl) ?_
  refine lv_iconst (v := nI 0) hx hb dd_P_emptyTape_1 (by decide) ?_
  refine va_put (D := D) (ci := 4) (v := .int (nI 0)) (ty := .int) (C := RR_P) (T := TT_P) (N := 7) hx hb hts (fun w h => List.mem_cons_of_mem _ (in_P w h)) tt_P ty_P nm_P hown hK hP hD hS 0 rfl rfl 1 (by decide) (hts _ (List.mem_cons_of_mem _ wd_36)) (fun _ h9 => h9) rfl (by decide +kernel) rfl rfl (Nat.le_of_ble_eq_true rfl) dd_P_emptyTape_2 (fun H locs hP hD hS => ?_)
  have hP : va_P D bo_cl [(pa, .inr (4, [.ref tp, .int (nI 0), .int (nI pl), .int fl, .int (nI ab), .int (nI bw), .ref fpa]))] H := hP
  have hD : va_D A [(pa, .inr (4, [.ref tp, .int (nI 0), .int (nI pl), .int fl, .int (nI ab), .int (nI bw), .ref fpa]))] := hD
  have hP9 := hP.sub (ws' := [(pa, .inr (4, [.ref tp, .int (nI 0), .int (nI pl), .int fl, .int (nI ab), .int (nI bw), .ref fpa]))]) [0] rfl
  have hD9 := hD.sub (ws' := [(pa, .inr (4, [.ref tp, .int (nI 0), .int (nI pl), .int fl, .int (nI ab), .int (nI bw), .ref fpa]))]) [0] (by decide) rfl
  exact hret () _ _ _ _ hP9 hD9 hS (trivial) dd_P_emptyTape_5

set_option maxHeartbeats 4000000 in
set_option maxRecDepth 100000 in
theorem c_P_startOver {l : Launch} {D : va_G} {cJ cI cB cY : ClassId} (pa : Nat) (tp : Nat) (ln : Nat) (pl : Nat) (ab : Nat) (bw : Nat) (fpa : Nat) (fl : Int32) (fp : Nat → Int32) :
    bo_v (S := Unit) l D bo_cl (bo_ty cJ cI cB cY) yy_P_startOver (bo_w yy_P_startOver bb_P_startOver 2 none) (bo_rm 0 0) [.ref pa] [(pa, .inr (4, [.ref tp, .int (nI ln), .int (nI pl), .int fl, .int (nI ab), .int (nI bw), .ref fpa])), (fpa, .inl (cI, 3, .inl fp))] (fun u => True) (fun u => [(pa, .inr (4, [.ref tp, .int (nI ln), .int (nI 0), .int (-1), .int (nI ab), .int (nI bw), .ref fpa])), (fpa, .inl (cI, 3, .inl (fun _ => -1)))]) := by
  refine bo_enter_v (cc := bb_P_startOver) (maxL := 2) (by decide) rfl (Nat.le_of_ble_eq_true rfl) ?_
  intro p e s m args below meth c A ls Q hx hb hts hown hml hK hP hD hS hA hl hret
  have hl : lv_has ls 2 [(0, .ref pa)] := hl
  refine lv_aload_n hx hb dd_P_startOver_0 rfl (lv_at hl 0 rfl) ?_
  refine lv_iconst (v := nI 0) hx hb dd_P_startOver_1 (by decide) ?_
  refine va_put (D := D) (ci := 4) (v := .int (nI 0)) (ty := .int) (C := RR_P) (T := TT_P) (N := 7) hx hb hts (fun w h => List.mem_cons_of_mem _ (in_P w h)) tt_P ty_P nm_P hown hK hP hD hS 0 rfl rfl 2 (by decide) (hts _ (List.mem_cons_of_mem _ wd_37)) (fun _ h9 => h9) rfl (by decide +kernel) rfl rfl (Nat.le_of_ble_eq_true rfl) dd_P_startOver_2 (fun H locs hP hD hS => ?_)
  have hP : va_P D bo_cl [(pa, .inr (4, [.ref tp, .int (nI ln), .int (nI 0), .int fl, .int (nI ab), .int (nI bw), .ref fpa])), (fpa, .inl (cI, 3, .inl fp))] H := hP
  have hD : va_D A [(pa, .inr (4, [.ref tp, .int (nI ln), .int (nI 0), .int fl, .int (nI ab), .int (nI bw), .ref fpa])), (fpa, .inl (cI, 3, .inl fp))] := hD
  refine lv_aload_n hx hb dd_P_startOver_5 rfl (lv_at hl 0 rfl) ?_
  refine lv_iconst (v := -1) hx hb dd_P_startOver_6 (by decide) ?_
  refine va_put (D := D) (ci := 4) (v := .int (-1)) (ty := .int) (C := RR_P) (T := TT_P) (N := 7) hx hb hts (fun w h => List.mem_cons_of_mem _ (in_P w h)) tt_P ty_P nm_P hown hK hP hD hS 0 rfl rfl 3 (by decide) (hts _ (List.mem_cons_of_mem _ wd_38)) (fun _ h9 => h9) rfl (by decide +kernel) rfl rfl (Nat.le_of_ble_eq_true rfl) dd_P_startOver_7 (fun H locs hP hD hS => ?_)
  have hP : va_P D bo_cl [(pa, .inr (4, [.ref tp, .int (nI ln), .int (nI 0), .int (-1), .int (nI ab), .int (nI bw), .ref fpa])), (fpa, .inl (cI, 3, .inl fp))] H := hP
  have hD : va_D A [(pa, .inr (4, [.ref tp, .int (nI ln), .int (nI 0), .int (-1), .int (nI ab), .int (nI bw), .ref fpa])), (fpa, .inl (cI, 3, .inl fp))] := hD
  refine lv_iconst (v := nI 0) hx hb dd_P_startOver_10 (by decide) ?_
  refine lv_istore_n (lv' := [(1, .int (nI 0)), (0, .ref pa)]) hx hb dd_P_startOver_11 rfl hl (by decide) rfl (fun ls hl => ?_)
  have lo12 : ∀ (fu : Nat) (v : Nat) (fp2 : Nat → Int32) (hv : v ≤ 3) (hf : ∀ j, j < v → fp2 j = -1) (ls : Array Slot) (H : Heap) (locs : List Loc), (3 - v) < fu → lv_has ls 2 [(0, .ref pa), (1, .int (nI v))] → va_P D bo_cl [(pa, .inr (4, [.ref tp, .int (nI ln), .int (nI 0), .int (-1), .int (nI ab), .int (nI bw), .ref fpa])), (fpa, .inl (cI, 3, .inl fp2))] H → va_D A [(pa, .inr (4, [.ref tp, .int (nI ln), .int (nI 0), .int (-1), .int (nI ab), .int (nI bw), .ref fpa])), (fpa, .inl (cI, 3, .inl fp2))] → va_S A s.heap H locs → W p l e (bo_rm 0 0) s m args below meth c H locs 0 0 Q (F0 m 12 ls []) := by
    intro fu12
    induction fu12 with
    | zero => intro v fp2 hv hf ls H locs hfu; exact absurd hfu (Nat.not_lt_zero _)
    | succ fu12 ih12 =>
      intro v fp2 hv hf ls H locs hfu12 hl hP hD hS
      refine lv_iload_n hx hb dd_P_startOver_12 rfl (lv_at hl 1 rfl) ?_
      refine lv_iconst (v := nI 3) hx hb dd_P_startOver_13 (by decide) ?_
      refine bo_icmp_ge (tgt := 30) hx hb dd_P_startOver_14 rfl (by omega) (by omega) (fun h14 => ?_) (fun h14 => ?_)
      · have hP := bo_extI hP 1 rfl (fun _ => -1) (fun j hj => hf j (by omega))
        have hD := hD.set (e := .inl (cI, 3, .inl (fun _ => -1))) (p := 1) rfl
        have hP : va_P D bo_cl [(pa, .inr (4, [.ref tp, .int (nI ln), .int (nI 0), .int (-1), .int (nI ab), .int (nI bw), .ref fpa])), (fpa, .inl (cI, 3, .inl (fun _ => -1)))] H := hP
        have hD : va_D A [(pa, .inr (4, [.ref tp, .int (nI ln), .int (nI 0), .int (-1), .int (nI ab), .int (nI bw), .ref fpa])), (fpa, .inl (cI, 3, .inl (fun _ => -1)))] := hD
        have hP9 := hP.sub (ws' := [(pa, .inr (4, [.ref tp, .int (nI ln), .int (nI 0), .int (-1), .int (nI ab), .int (nI bw), .ref fpa])), (fpa, .inl (cI, 3, .inl (fun _ => -1)))]) [0, 1] rfl
        have hD9 := hD.sub (ws' := [(pa, .inr (4, [.ref tp, .int (nI ln), .int (nI 0), .int (-1), .int (nI ab), .int (nI bw), .ref fpa])), (fpa, .inl (cI, 3, .inl (fun _ => -1)))]) [0, 1] (by decide) rfl
        exact hret () _ _ _ _ hP9 hD9 hS (trivial) dd_P_startOver_30
      · refine lv_aload_n hx hb dd_P_startOver_17 rfl (lv_at hl 0 rfl) ?_
        refine va_get (D := D) (ci := 4) (v := .ref fpa) (C := RR_P) (T := TT_P) (N := 7) hx hb hts (fun w h => List.mem_cons_of_mem _ (in_P w h)) hown hK hP 0 rfl rfl 6 (by decide) (hts _ (List.mem_cons_of_mem _ wd_41)) (fun _ h9 => h9) rfl dd_P_startOver_18 ?_
        refine lv_iload_n hx hb dd_P_startOver_21 rfl (lv_at hl 1 rfl) ?_
        refine lv_iconst (v := -1) hx hb dd_P_startOver_22 (by decide) ?_
        refine bo_iast hx hb hK hP hD hS 1 1 rfl rfl (by omega) (by decide) dd_P_startOver_23 (fun H locs hP hD hS => ?_)
        have hP : va_P D bo_cl [(pa, .inr (4, [.ref tp, .int (nI ln), .int (nI 0), .int (-1), .int (nI ab), .int (nI bw), .ref fpa])), (fpa, .inl (cI, 3, .inl (upd fp2 v (-1))))] H := hP
        have hD : va_D A [(pa, .inr (4, [.ref tp, .int (nI ln), .int (nI 0), .int (-1), .int (nI ab), .int (nI bw), .ref fpa])), (fpa, .inl (cI, 3, .inl (upd fp2 v (-1))))] := hD
        refine lv_iinc (k := 1) (x := nI v) (v := nI (v + 1)) (lv' := [(1, .int (nI (v + 1))), (0, .ref pa)]) hx hb dd_P_startOver_24 hl rfl (nI_add _ 1) (by decide) rfl (fun ls hl => ?_)
        refine lv_goto (tgt := 12) hx hb dd_P_startOver_27 rfl ?_
        have hl8 := lv_sub (l' := [(0, .ref pa), (1, .int (nI (v + 1)))]) hl [1, 0] rfl
        have hP8 := hP.sub (ws' := [(pa, .inr (4, [.ref tp, .int (nI ln), .int (nI 0), .int (-1), .int (nI ab), .int (nI bw), .ref fpa])), (fpa, .inl (cI, 3, .inl (upd fp2 v (-1))))]) [0, 1] rfl
        have hD8 := hD.sub (ws' := [(pa, .inr (4, [.ref tp, .int (nI ln), .int (nI 0), .int (-1), .int (nI ab), .int (nI bw), .ref fpa])), (fpa, .inl (cI, 3, .inl (upd fp2 v (-1))))]) [0, 1] (by decide) rfl
        exact ih12 (v + 1) (upd fp2 v (-1)) (by omega) (by exact upm_I hf) _ _ _ (by omega) hl8 hP8 hD8 hS
  have hl8 := lv_sub (l' := [(0, .ref pa), (1, .int (nI 0))]) hl [1, 0] rfl
  have hP8 := hP.sub (ws' := [(pa, .inr (4, [.ref tp, .int (nI ln), .int (nI 0), .int (-1), .int (nI ab), .int (nI bw), .ref fpa])), (fpa, .inl (cI, 3, .inl fp))]) [0, 1] rfl
  have hD8 := hD.sub (ws' := [(pa, .inr (4, [.ref tp, .int (nI ln), .int (nI 0), .int (-1), .int (nI ab), .int (nI bw), .ref fpa])), (fpa, .inl (cI, 3, .inl fp))]) [0, 1] (by decide) rfl
  exact lo12 ((3 - 0) + 1) 0 fp (by omega) (by intro j hj; omega) _ _ _ (Nat.lt_succ_self _) hl8 hP8 hD8 hS

set_option maxHeartbeats 4000000 in
set_option maxRecDepth 100000 in
theorem c_P_here {l : Launch} {D : va_G} {cJ cI cB cY : ClassId} (pa : Nat) (tp : Nat) (ln : Nat) (pl : Nat) (ab : Nat) (bw : Nat) (fpa : Nat) (fl : Int32) (tb : Nat → Nat) (hpl : pl ≤ ln) (hln : ln ≤ 240) (htb : ∀ i, tb i < 128) :
    bo_i (S := Unit) l D bo_cl (bo_ty cJ cI cB cY) yy_P_here (bo_w yy_P_here bb_P_here 1 (some .int)) (bo_rm 0 0) [.ref pa] [(pa, .inr (4, [.ref tp, .int (nI ln), .int (nI pl), .int fl, .int (nI ab), .int (nI bw), .ref fpa])), (tp, .inl (cB, 240, .inl (fun i => nI (tb i))))] (fun r u => r = nI (see tb ln pl)) (fun u => [(pa, .inr (4, [.ref tp, .int (nI ln), .int (nI pl), .int fl, .int (nI ab), .int (nI bw), .ref fpa])), (tp, .inl (cB, 240, .inl (fun i => nI (tb i))))]) := by
  refine bo_enter_i (cc := bb_P_here) (maxL := 1) (by decide) rfl (Nat.le_of_ble_eq_true rfl) ?_
  intro p e s m args below meth c A ls Q hx hb hts hown hml hK hP hD hS hA hl hret
  have hl : lv_has ls 1 [(0, .ref pa)] := hl
  refine lv_aload_n hx hb dd_P_here_0 rfl (lv_at hl 0 rfl) ?_
  refine va_get (D := D) (ci := 4) (v := .int (nI pl)) (C := RR_P) (T := TT_P) (N := 7) hx hb hts (fun w h => List.mem_cons_of_mem _ (in_P w h)) hown hK hP 0 rfl rfl 2 (by decide) (hts _ (List.mem_cons_of_mem _ wd_37)) (fun _ h9 => h9) rfl dd_P_here_1 ?_
  refine lv_aload_n hx hb dd_P_here_4 rfl (lv_at hl 0 rfl) ?_
  refine va_get (D := D) (ci := 4) (v := .int (nI ln)) (C := RR_P) (T := TT_P) (N := 7) hx hb hts (fun w h => List.mem_cons_of_mem _ (in_P w h)) hown hK hP 0 rfl rfl 1 (by decide) (hts _ (List.mem_cons_of_mem _ wd_36)) (fun _ h9 => h9) rfl dd_P_here_5 ?_
  refine bo_icmp_ge (tgt := 23) hx hb dd_P_here_8 rfl (by omega) (by omega) (fun h8 => ?_) (fun h8 => ?_)
  · refine lv_iconst (v := nI 0) hx hb dd_P_here_23 (by decide) ?_
    have hP9 := hP.sub (ws' := [(pa, .inr (4, [.ref tp, .int (nI ln), .int (nI pl), .int fl, .int (nI ab), .int (nI bw), .ref fpa])), (tp, .inl (cB, 240, .inl (fun i => nI (tb i))))]) [0, 1] rfl
    have hD9 := hD.sub (ws' := [(pa, .inr (4, [.ref tp, .int (nI ln), .int (nI pl), .int fl, .int (nI ab), .int (nI bw), .ref fpa])), (tp, .inl (cB, 240, .inl (fun i => nI (tb i))))]) [0, 1] (by decide) rfl
    exact hret () _ _ _ _ _ hP9 hD9 hS (by unfold see; first | rw [if_neg (show ¬ pl < ln by omega)] | rw [if_pos (show pl < ln by omega)]) dd_P_here_24
  · refine lv_aload_n hx hb dd_P_here_11 rfl (lv_at hl 0 rfl) ?_
    refine va_get (D := D) (ci := 4) (v := .ref tp) (C := RR_P) (T := TT_P) (N := 7) hx hb hts (fun w h => List.mem_cons_of_mem _ (in_P w h)) hown hK hP 0 rfl rfl 0 (by decide) (hts _ (List.mem_cons_of_mem _ wd_35)) (fun _ h9 => h9) rfl dd_P_here_12 ?_
    refine lv_aload_n hx hb dd_P_here_15 rfl (lv_at hl 0 rfl) ?_
    refine va_get (D := D) (ci := 4) (v := .int (nI pl)) (C := RR_P) (T := TT_P) (N := 7) hx hb hts (fun w h => List.mem_cons_of_mem _ (in_P w h)) hown hK hP 0 rfl rfl 2 (by decide) (hts _ (List.mem_cons_of_mem _ wd_37)) (fun _ h9 => h9) rfl dd_P_here_16 ?_
    refine bo_bald hx hb hK hP 1 2 rfl rfl (by omega) (by decide) dd_P_here_19 ?_
    refine lv_goto (tgt := 24) hx hb dd_P_here_20 rfl ?_
    have hP9 := hP.sub (ws' := [(pa, .inr (4, [.ref tp, .int (nI ln), .int (nI pl), .int fl, .int (nI ab), .int (nI bw), .ref fpa])), (tp, .inl (cB, 240, .inl (fun i => nI (tb i))))]) [0, 1] rfl
    have hD9 := hD.sub (ws' := [(pa, .inr (4, [.ref tp, .int (nI ln), .int (nI pl), .int fl, .int (nI ab), .int (nI bw), .ref fpa])), (tp, .inl (cB, 240, .inl (fun i => nI (tb i))))]) [0, 1] (by decide) rfl
    exact hret () _ _ _ _ _ hP9 hD9 hS (by unfold see; first | rw [if_neg (show ¬ pl < ln by omega)] | rw [if_pos (show pl < ln by omega)]) dd_P_here_24

set_option maxHeartbeats 4000000 in
set_option maxRecDepth 100000 in
theorem c_P_isDigit {l : Launch} {D : va_G} {cJ cI cB cY : ClassId} (ch : Nat) (hch : ch < 2 ^ 31) :
    bo_i (S := Unit) l D bo_cl (bo_ty cJ cI cB cY) yy_P_isDigit (bo_w yy_P_isDigit bb_P_isDigit 1 (some .boolean)) (bo_rm 0 0) [.int (nI ch)] [] (fun r u => r = bI (dig ch)) (fun u => []) := by
  refine bo_enter_z (cc := bb_P_isDigit) (maxL := 1) (by decide) rfl (Nat.le_of_ble_eq_true rfl) ?_
  intro p e s m args below meth c A ls Q hx hb hts hown hml hK hP hD hS hA hl hret
  have hl : lv_has ls 1 [(0, .int (nI ch))] := hl
  refine lv_iload_n hx hb dd_P_isDigit_0 rfl (lv_at hl 0 rfl) ?_
  refine lv_bipush (v := nI 48) hx hb dd_P_isDigit_1 (by decide) ?_
  refine bo_icmp_lt (tgt := 16) hx hb dd_P_isDigit_3 rfl (by omega) (by omega) (fun h3 => ?_) (fun h3 => ?_)
  · refine lv_iconst (v := nI 0) hx hb dd_P_isDigit_16 (by decide) ?_
    have hP9 := hP.sub (ws' := []) [] rfl
    have hD9 := hD.sub (ws' := []) [] (by decide) rfl
    exact hret () _ _ _ _ _ (Or.inl rfl) hP9 hD9 hS (by unfold dig; first | (rw [decide_eq_false (show ¬ (48 ≤ ch ∧ ch ≤ 57) by omega)]; rfl) | (rw [decide_eq_true (show 48 ≤ ch ∧ ch ≤ 57 by omega)]; rfl)) dd_P_isDigit_17
  · refine lv_iload_n hx hb dd_P_isDigit_6 rfl (lv_at hl 0 rfl) ?_
    refine lv_bipush (v := nI 57) hx hb dd_P_isDigit_7 (by decide) ?_
    refine bo_icmp_gt (tgt := 16) hx hb dd_P_isDigit_9 rfl (by omega) (by omega) (fun h9 => ?_) (fun h9 => ?_)
    · refine lv_iconst (v := nI 0) hx hb dd_P_isDigit_16 (by decide) ?_
      have hP9 := hP.sub (ws' := []) [] rfl
      have hD9 := hD.sub (ws' := []) [] (by decide) rfl
      exact hret () _ _ _ _ _ (Or.inl rfl) hP9 hD9 hS (by unfold dig; first | (rw [decide_eq_false (show ¬ (48 ≤ ch ∧ ch ≤ 57) by omega)]; rfl) | (rw [decide_eq_true (show 48 ≤ ch ∧ ch ≤ 57 by omega)]; rfl)) dd_P_isDigit_17
    · refine lv_iconst (v := nI 1) hx hb dd_P_isDigit_12 (by decide) ?_
      refine lv_goto (tgt := 17) hx hb dd_P_isDigit_13 rfl ?_
      have hP9 := hP.sub (ws' := []) [] rfl
      have hD9 := hD.sub (ws' := []) [] (by decide) rfl
      exact hret () _ _ _ _ _ (Or.inr rfl) hP9 hD9 hS (by unfold dig; first | (rw [decide_eq_false (show ¬ (48 ≤ ch ∧ ch ≤ 57) by omega)]; rfl) | (rw [decide_eq_true (show 48 ≤ ch ∧ ch ≤ 57 by omega)]; rfl)) dd_P_isDigit_17

set_option maxHeartbeats 4000000 in
set_option maxRecDepth 100000 in
theorem c_P_letterHere {l : Launch} {D : va_G} {cJ cI cB cY : ClassId} (pa : Nat) (tp : Nat) (ln : Nat) (pl : Nat) (ab : Nat) (bw : Nat) (fpa : Nat) (fl : Int32) (tb : Nat → Nat) (hpl : pl ≤ ln) (hln : ln ≤ 240) (htb : ∀ i, tb i < 128) :
    bo_i (S := Unit) l D bo_cl (bo_ty cJ cI cB cY) yy_P_letterHere (bo_w yy_P_letterHere bb_P_letterHere 2 (some .int)) (bo_rm 1 20) [.ref pa] [(pa, .inr (4, [.ref tp, .int (nI ln), .int (nI pl), .int fl, .int (nI ab), .int (nI bw), .ref fpa])), (tp, .inl (cB, 240, .inl (fun i => nI (tb i))))] (fun r u => r = ltI (see tb ln pl)) (fun u => [(pa, .inr (4, [.ref tp, .int (nI ln), .int (nI pl), .int fl, .int (nI ab), .int (nI bw), .ref fpa])), (tp, .inl (cB, 240, .inl (fun i => nI (tb i))))]) := by
  refine bo_enter_i (cc := bb_P_letterHere) (maxL := 2) (by decide) rfl (Nat.le_of_ble_eq_true rfl) ?_
  intro p e s m args below meth c A ls Q hx hb hts hown hml hK hP hD hS hA hl hret
  have hl : lv_has ls 2 [(0, .ref pa)] := hl
  refine lv_aload_n hx hb dd_P_letterHere_0 rfl (lv_at hl 0 rfl) ?_
  refine bo_goi (wr := []) (bo_rV (c_P_here (l := l) (D := D) (cJ := cJ) (cI := cI) (cB := cB) (cY := cY) pa tp ln pl ab bw fpa fl tb hpl hln htb _) ⟨hx, hb, hml, hown, hts⟩ (cwV 0 hts (bo_gV wd_451 wd_453 wp_7 wd_2 wd_454) rfl rfl rfl hd_P_here (by decide)) hK hP hD [0, 1] rfl (by decide) 0 4 rfl rfl rfl rfl hl.1 rfl (Nat.le_of_ble_eq_true rfl) dd_P_letterHere_1 (by decide)) hP hD hS hA [0, 1] [] rfl rfl (by decide) (by decide) (fun r_1 u H locs hu_1 hP hD hS => ?_)
  have hu_1 : r_1 = nI (see tb ln pl) := hu_1
  have hP : va_P D bo_cl [(pa, .inr (4, [.ref tp, .int (nI ln), .int (nI pl), .int fl, .int (nI ab), .int (nI bw), .ref fpa])), (tp, .inl (cB, 240, .inl (fun i => nI (tb i))))] H := hP
  have hD : va_D A [(pa, .inr (4, [.ref tp, .int (nI ln), .int (nI pl), .int fl, .int (nI ab), .int (nI bw), .ref fpa])), (tp, .inl (cB, 240, .inl (fun i => nI (tb i))))] := hD
  subst hu_1
  refine lv_bipush (v := nI 120) hx hb dd_P_letterHere_4 (by decide) ?_
  refine lv_isub hx hb dd_P_letterHere_6 ?_
  refine lv_topi (fun v7 e7 => ?_)
  refine lv_istore_n (lv' := [(1, .int v7), (0, .ref pa)]) hx hb dd_P_letterHere_7 rfl hl (by decide) rfl (fun ls hl => ?_)
  refine lv_iload_n hx hb dd_P_letterHere_8 rfl (lv_at hl 0 rfl) ?_
  refine lv_if_lt (tgt := 21) hx hb dd_P_letterHere_9 rfl (fun h9 => ?_) (fun h9 => ?_)
  · refine lv_iconst (v := -1) hx hb dd_P_letterHere_21 (by decide) ?_
    have hP9 := hP.sub (ws' := [(pa, .inr (4, [.ref tp, .int (nI ln), .int (nI pl), .int fl, .int (nI ab), .int (nI bw), .ref fpa])), (tp, .inl (cB, 240, .inl (fun i => nI (tb i))))]) [0, 1] rfl
    have hD9 := hD.sub (ws' := [(pa, .inr (4, [.ref tp, .int (nI ln), .int (nI pl), .int fl, .int (nI ab), .int (nI bw), .ref fpa])), (tp, .inl (cB, 240, .inl (fun i => nI (tb i))))]) [0, 1] (by decide) rfl
    exact hret () _ _ _ _ _ hP9 hD9 hS (by first | exact let_a (see_128 htb _ _) e7 (Or.inl h9) | exact let_a (see_128 htb _ _) e7 (Or.inr h14) | exact let_b (see_128 htb _ _) e7 (fun q => q.elim h9 h14)) dd_P_letterHere_22
  · refine lv_iload_n hx hb dd_P_letterHere_12 rfl (lv_at hl 0 rfl) ?_
    refine lv_iconst (v := nI 3) hx hb dd_P_letterHere_13 (by decide) ?_
    refine lv_icmp_ge (tgt := 21) hx hb dd_P_letterHere_14 rfl (fun h14 => ?_) (fun h14 => ?_)
    · refine lv_iconst (v := -1) hx hb dd_P_letterHere_21 (by decide) ?_
      have hP9 := hP.sub (ws' := [(pa, .inr (4, [.ref tp, .int (nI ln), .int (nI pl), .int fl, .int (nI ab), .int (nI bw), .ref fpa])), (tp, .inl (cB, 240, .inl (fun i => nI (tb i))))]) [0, 1] rfl
      have hD9 := hD.sub (ws' := [(pa, .inr (4, [.ref tp, .int (nI ln), .int (nI pl), .int fl, .int (nI ab), .int (nI bw), .ref fpa])), (tp, .inl (cB, 240, .inl (fun i => nI (tb i))))]) [0, 1] (by decide) rfl
      exact hret () _ _ _ _ _ hP9 hD9 hS (by first | exact let_a (see_128 htb _ _) e7 (Or.inl h9) | exact let_a (see_128 htb _ _) e7 (Or.inr h14) | exact let_b (see_128 htb _ _) e7 (fun q => q.elim h9 h14)) dd_P_letterHere_22
    · refine lv_iload_n hx hb dd_P_letterHere_17 rfl (lv_at hl 0 rfl) ?_
      refine lv_goto (tgt := 22) hx hb dd_P_letterHere_18 rfl ?_
      have hP9 := hP.sub (ws' := [(pa, .inr (4, [.ref tp, .int (nI ln), .int (nI pl), .int fl, .int (nI ab), .int (nI bw), .ref fpa])), (tp, .inl (cB, 240, .inl (fun i => nI (tb i))))]) [0, 1] rfl
      have hD9 := hD.sub (ws' := [(pa, .inr (4, [.ref tp, .int (nI ln), .int (nI pl), .int fl, .int (nI ab), .int (nI bw), .ref fpa])), (tp, .inl (cB, 240, .inl (fun i => nI (tb i))))]) [0, 1] (by decide) rfl
      exact hret () _ _ _ _ _ hP9 hD9 hS (by first | exact let_a (see_128 htb _ _) e7 (Or.inl h9) | exact let_a (see_128 htb _ _) e7 (Or.inr h14) | exact let_b (see_128 htb _ _) e7 (fun q => q.elim h9 h14)) dd_P_letterHere_22

set_option maxHeartbeats 4000000 in
set_option maxRecDepth 100000 in
theorem c_P_faultAt {l : Launch} {D : va_G} {cJ cI cB cY : ClassId} (pa : Nat) (tp : Nat) (ln : Nat) (pl : Nat) (ab : Nat) (bw : Nat) (fpa : Nat) (fl : Int32) (wr : Int32) :
    bo_i (S := Unit) l D bo_cl (bo_ty cJ cI cB cY) yy_P_faultAt (bo_w yy_P_faultAt bb_P_faultAt 2 (some .boolean)) (bo_rm 0 0) [.ref pa, .int wr] [(pa, .inr (4, [.ref tp, .int (nI ln), .int (nI pl), .int fl, .int (nI ab), .int (nI bw), .ref fpa]))] (fun r u => r = nI 0) (fun u => [(pa, .inr (4, [.ref tp, .int (nI ln), .int (nI pl), .int wr, .int (nI ab), .int (nI bw), .ref fpa]))]) := by
  refine bo_enter_z (cc := bb_P_faultAt) (maxL := 2) (by decide) rfl (Nat.le_of_ble_eq_true rfl) ?_
  intro p e s m args below meth c A ls Q hx hb hts hown hml hK hP hD hS hA hl hret
  have hl : lv_has ls 2 [(0, .ref pa), (1, .int wr)] := hl
  refine lv_aload_n hx hb dd_P_faultAt_0 rfl (lv_at hl 0 rfl) ?_
  refine lv_iload_n hx hb dd_P_faultAt_1 rfl (lv_at hl 1 rfl) ?_
  refine va_put (D := D) (ci := 4) (v := .int wr) (ty := .int) (C := RR_P) (T := TT_P) (N := 7) hx hb hts (fun w h => List.mem_cons_of_mem _ (in_P w h)) tt_P ty_P nm_P hown hK hP hD hS 0 rfl rfl 3 (by decide) (hts _ (List.mem_cons_of_mem _ wd_38)) (fun _ h9 => h9) rfl (by decide +kernel) rfl rfl (Nat.le_of_ble_eq_true rfl) dd_P_faultAt_2 (fun H locs hP hD hS => ?_)
  have hP : va_P D bo_cl [(pa, .inr (4, [.ref tp, .int (nI ln), .int (nI pl), .int wr, .int (nI ab), .int (nI bw), .ref fpa]))] H := hP
  have hD : va_D A [(pa, .inr (4, [.ref tp, .int (nI ln), .int (nI pl), .int wr, .int (nI ab), .int (nI bw), .ref fpa]))] := hD
  refine lv_iconst (v := nI 0) hx hb dd_P_faultAt_5 (by decide) ?_
  have hP9 := hP.sub (ws' := [(pa, .inr (4, [.ref tp, .int (nI ln), .int (nI pl), .int wr, .int (nI ab), .int (nI bw), .ref fpa]))]) [0] rfl
  have hD9 := hD.sub (ws' := [(pa, .inr (4, [.ref tp, .int (nI ln), .int (nI pl), .int wr, .int (nI ab), .int (nI bw), .ref fpa]))]) [0] (by decide) rfl
  exact hret () _ _ _ _ _ (Or.inl rfl) hP9 hD9 hS (by rfl) dd_P_faultAt_6

set_option maxHeartbeats 4000000 in
set_option maxRecDepth 100000 in
theorem c_P_expect {l : Launch} {D : va_G} {cJ cI cB cY : ClassId} (pa : Nat) (tp : Nat) (ln : Nat) (pl : Nat) (ab : Nat) (bw : Nat) (fpa : Nat) (fl : Int32) (tb : Nat → Nat) (ch : Nat) (hpl : pl ≤ ln) (hln : ln ≤ 240) (htb : ∀ i, tb i < 128) (hch : ch < 128) :
    bo_i (S := Nat × Int32) l D bo_cl (bo_ty cJ cI cB cY) yy_P_expect (bo_w yy_P_expect bb_P_expect 2 (some .boolean)) (bo_rm 1 21) [.ref pa, .int (nI ch)] [(pa, .inr (4, [.ref tp, .int (nI ln), .int (nI pl), .int fl, .int (nI ab), .int (nI bw), .ref fpa])), (tp, .inl (cB, 240, .inl (fun i => nI (tb i))))] (fun r u => (see tb ln pl = ch ∧ ¬ ch = 0 → r = nI 1 ∧ u.1 = pl + 1 ∧ u.2 = fl ∧ u.1 ≤ ln) ∧ (¬ see tb ln pl = ch → r = nI 0 ∧ u.2 = nI pl)) (fun u => [(pa, .inr (4, [.ref tp, .int (nI ln), .int (nI u.1), .int u.2, .int (nI ab), .int (nI bw), .ref fpa])), (tp, .inl (cB, 240, .inl (fun i => nI (tb i))))]) := by
  refine bo_enter_z (cc := bb_P_expect) (maxL := 2) (by decide) rfl (Nat.le_of_ble_eq_true rfl) ?_
  intro p e s m args below meth c A ls Q hx hb hts hown hml hK hP hD hS hA hl hret
  have hl : lv_has ls 2 [(0, .ref pa), (1, .int (nI ch))] := hl
  refine lv_aload_n hx hb dd_P_expect_0 rfl (lv_at hl 0 rfl) ?_
  refine bo_goi (wr := []) (bo_rV (c_P_here (l := l) (D := D) (cJ := cJ) (cI := cI) (cB := cB) (cY := cY) pa tp ln pl ab bw fpa fl tb hpl hln htb _) ⟨hx, hb, hml, hown, hts⟩ (cwV 0 hts (bo_gV wd_451 wd_453 wp_7 wd_2 wd_454) rfl rfl rfl hd_P_here (by decide)) hK hP hD [0, 1] rfl (by decide) 0 4 rfl rfl rfl rfl hl.1 rfl (Nat.le_of_ble_eq_true rfl) dd_P_expect_1 (by decide)) hP hD hS hA [0, 1] [] rfl rfl (by decide) (by decide) (fun r_1 u H locs hu_1 hP hD hS => ?_)
  have hu_1 : r_1 = nI (see tb ln pl) := hu_1
  have hP : va_P D bo_cl [(pa, .inr (4, [.ref tp, .int (nI ln), .int (nI pl), .int fl, .int (nI ab), .int (nI bw), .ref fpa])), (tp, .inl (cB, 240, .inl (fun i => nI (tb i))))] H := hP
  have hD : va_D A [(pa, .inr (4, [.ref tp, .int (nI ln), .int (nI pl), .int fl, .int (nI ab), .int (nI bw), .ref fpa])), (tp, .inl (cB, 240, .inl (fun i => nI (tb i))))] := hD
  subst hu_1
  refine lv_iload_n hx hb dd_P_expect_4 rfl (lv_at hl 1 rfl) ?_
  refine bo_icmp_eq (tgt := 17) hx hb dd_P_expect_5 rfl (Nat.lt_trans (see_128 htb _ _) (by decide)) (Nat.lt_trans hch (by decide)) (fun h5 => ?_) (fun h5 => ?_)
  · refine lv_aload_n hx hb dd_P_expect_17 rfl (lv_at hl 0 rfl) ?_
    refine lv_dup hx hb dd_P_expect_18 rfl ?_
    refine va_get (D := D) (ci := 4) (v := .int (nI pl)) (C := RR_P) (T := TT_P) (N := 7) hx hb hts (fun w h => List.mem_cons_of_mem _ (in_P w h)) hown hK hP 0 rfl rfl 2 (by decide) (hts _ (List.mem_cons_of_mem _ wd_37)) (fun _ h9 => h9) rfl dd_P_expect_19 ?_
    refine lv_iconst (v := nI 1) hx hb dd_P_expect_22 (by decide) ?_
    refine bo_iadd hx hb dd_P_expect_23 ?_
    refine va_put (D := D) (ci := 4) (v := .int (nI (pl + 1))) (ty := .int) (C := RR_P) (T := TT_P) (N := 7) hx hb hts (fun w h => List.mem_cons_of_mem _ (in_P w h)) tt_P ty_P nm_P hown hK hP hD hS 0 rfl rfl 2 (by decide) (hts _ (List.mem_cons_of_mem _ wd_37)) (fun _ h9 => h9) rfl (by decide +kernel) rfl rfl (Nat.le_of_ble_eq_true rfl) dd_P_expect_24 (fun H locs hP hD hS => ?_)
    have hP : va_P D bo_cl [(pa, .inr (4, [.ref tp, .int (nI ln), .int (nI (pl + 1)), .int fl, .int (nI ab), .int (nI bw), .ref fpa])), (tp, .inl (cB, 240, .inl (fun i => nI (tb i))))] H := hP
    have hD : va_D A [(pa, .inr (4, [.ref tp, .int (nI ln), .int (nI (pl + 1)), .int fl, .int (nI ab), .int (nI bw), .ref fpa])), (tp, .inl (cB, 240, .inl (fun i => nI (tb i))))] := hD
    refine lv_iconst (v := nI 1) hx hb dd_P_expect_27 (by decide) ?_
    have hP9 := hP.sub (ws' := [(pa, .inr (4, [.ref tp, .int (nI ln), .int (nI (pl + 1)), .int fl, .int (nI ab), .int (nI bw), .ref fpa])), (tp, .inl (cB, 240, .inl (fun i => nI (tb i))))]) [0, 1] rfl
    have hD9 := hD.sub (ws' := [(pa, .inr (4, [.ref tp, .int (nI ln), .int (nI (pl + 1)), .int fl, .int (nI ab), .int (nI bw), .ref fpa])), (tp, .inl (cB, 240, .inl (fun i => nI (tb i))))]) [0, 1] (by decide) rfl
    exact hret (pl + 1, fl) _ _ _ _ _ (Or.inr rfl) hP9 hD9 hS (by first | exact ⟨fun q => ⟨rfl, rfl, rfl, see_lt (tb := tb) (by rw [h5]; exact q.2)⟩, fun q => absurd h5 q⟩ | exact ⟨fun q => absurd q.1 h5, fun _ => ⟨rfl, rfl⟩⟩) dd_P_expect_28
  · refine lv_aload_n hx hb dd_P_expect_8 rfl (lv_at hl 0 rfl) ?_
    refine lv_aload_n hx hb dd_P_expect_9 rfl (lv_at hl 0 rfl) ?_
    refine va_get (D := D) (ci := 4) (v := .int (nI pl)) (C := RR_P) (T := TT_P) (N := 7) hx hb hts (fun w h => List.mem_cons_of_mem _ (in_P w h)) hown hK hP 0 rfl rfl 2 (by decide) (hts _ (List.mem_cons_of_mem _ wd_37)) (fun _ h9 => h9) rfl dd_P_expect_10 ?_
    refine bo_goi (wr := [(tp, .inl (cB, 240, .inl (fun i => nI (tb i))))]) (bo_rV (c_P_faultAt (l := l) (D := D) (cJ := cJ) (cI := cI) (cB := cB) (cY := cY) pa tp ln pl ab bw fpa fl (nI pl)  _) ⟨hx, hb, hml, hown, hts⟩ (cwV 1 hts (bo_gV wd_455 wd_457 wp_8 wd_2 wd_458) rfl rfl rfl hd_P_faultAt (by decide)) hK hP hD [0] rfl (by decide) 0 4 rfl rfl rfl rfl hl.1 rfl (Nat.le_of_ble_eq_true rfl) dd_P_expect_13 (by decide)) hP hD hS hA [0] [1] rfl rfl (by decide) (by decide) (fun r_13 u H locs hu_13 hP hD hS => ?_)
    have hu_13 : r_13 = nI 0 := hu_13
    have hP : va_P D bo_cl [(tp, .inl (cB, 240, .inl (fun i => nI (tb i)))), (pa, .inr (4, [.ref tp, .int (nI ln), .int (nI pl), .int (nI pl), .int (nI ab), .int (nI bw), .ref fpa]))] H := hP
    have hD : va_D A [(tp, .inl (cB, 240, .inl (fun i => nI (tb i)))), (pa, .inr (4, [.ref tp, .int (nI ln), .int (nI pl), .int (nI pl), .int (nI ab), .int (nI bw), .ref fpa]))] := hD
    subst hu_13
    have hP9 := hP.sub (ws' := [(pa, .inr (4, [.ref tp, .int (nI ln), .int (nI pl), .int (nI pl), .int (nI ab), .int (nI bw), .ref fpa])), (tp, .inl (cB, 240, .inl (fun i => nI (tb i))))]) [1, 0] rfl
    have hD9 := hD.sub (ws' := [(pa, .inr (4, [.ref tp, .int (nI ln), .int (nI pl), .int (nI pl), .int (nI ab), .int (nI bw), .ref fpa])), (tp, .inl (cB, 240, .inl (fun i => nI (tb i))))]) [1, 0] (by decide) rfl
    exact hret (pl, nI pl) _ _ _ _ _ (Or.inl rfl) hP9 hD9 hS (by first | exact ⟨fun q => ⟨rfl, rfl, rfl, see_lt (tb := tb) (by rw [h5]; exact q.2)⟩, fun q => absurd h5 q⟩ | exact ⟨fun q => absurd q.1 h5, fun _ => ⟨rfl, rfl⟩⟩) dd_P_expect_16

set_option maxHeartbeats 4000000 in
set_option maxRecDepth 100000 in
theorem c_P_noteLetter {l : Launch} {D : va_G} {cJ cI cB cY : ClassId} (pa : Nat) (tp : Nat) (ln : Nat) (pl : Nat) (ab : Nat) (bw : Nat) (fpa : Nat) (fl : Int32) (fp : Nat → Int32) (v : Nat) (hv : v < 3) :
    bo_v (S := (Nat → Int32)) l D bo_cl (bo_ty cJ cI cB cY) yy_P_noteLetter (bo_w yy_P_noteLetter bb_P_noteLetter 2 none) (bo_rm 0 0) [.ref pa, .int (nI v)] [(pa, .inr (4, [.ref tp, .int (nI ln), .int (nI pl), .int fl, .int (nI ab), .int (nI bw), .ref fpa])), (fpa, .inl (cI, 3, .inl fp))] (fun u => u = if fp v = -1 then upd fp v (nI pl) else fp) (fun u => [(pa, .inr (4, [.ref tp, .int (nI ln), .int (nI pl), .int fl, .int (nI ab), .int (nI bw), .ref fpa])), (fpa, .inl (cI, 3, .inl u))]) := by
  refine bo_enter_v (cc := bb_P_noteLetter) (maxL := 2) (by decide) rfl (Nat.le_of_ble_eq_true rfl) ?_
  intro p e s m args below meth c A ls Q hx hb hts hown hml hK hP hD hS hA hl hret
  have hl : lv_has ls 2 [(0, .ref pa), (1, .int (nI v))] := hl
  refine lv_aload_n hx hb dd_P_noteLetter_0 rfl (lv_at hl 0 rfl) ?_
  refine va_get (D := D) (ci := 4) (v := .ref fpa) (C := RR_P) (T := TT_P) (N := 7) hx hb hts (fun w h => List.mem_cons_of_mem _ (in_P w h)) hown hK hP 0 rfl rfl 6 (by decide) (hts _ (List.mem_cons_of_mem _ wd_41)) (fun _ h9 => h9) rfl dd_P_noteLetter_1 ?_
  refine lv_iload_n hx hb dd_P_noteLetter_4 rfl (lv_at hl 1 rfl) ?_
  refine bo_iald hx hb hK hP 1 1 rfl rfl (by omega) (by decide) dd_P_noteLetter_5 ?_
  refine lv_iconst (v := -1) hx hb dd_P_noteLetter_6 (by decide) ?_
  refine lv_icmp_ne (tgt := 20) hx hb dd_P_noteLetter_7 rfl (fun h7 => ?_) (fun h7 => ?_)
  · have hP9 := hP.sub (ws' := [(pa, .inr (4, [.ref tp, .int (nI ln), .int (nI pl), .int fl, .int (nI ab), .int (nI bw), .ref fpa])), (fpa, .inl (cI, 3, .inl fp))]) [0, 1] rfl
    have hD9 := hD.sub (ws' := [(pa, .inr (4, [.ref tp, .int (nI ln), .int (nI pl), .int fl, .int (nI ab), .int (nI bw), .ref fpa])), (fpa, .inl (cI, 3, .inl fp))]) [0, 1] (by decide) rfl
    exact hret (fp) _ _ _ _ hP9 hD9 hS (by first | exact (if_neg h7).symm | exact (if_pos h7).symm) dd_P_noteLetter_20
  · refine lv_aload_n hx hb dd_P_noteLetter_10 rfl (lv_at hl 0 rfl) ?_
    refine va_get (D := D) (ci := 4) (v := .ref fpa) (C := RR_P) (T := TT_P) (N := 7) hx hb hts (fun w h => List.mem_cons_of_mem _ (in_P w h)) hown hK hP 0 rfl rfl 6 (by decide) (hts _ (List.mem_cons_of_mem _ wd_41)) (fun _ h9 => h9) rfl dd_P_noteLetter_11 ?_
    refine lv_iload_n hx hb dd_P_noteLetter_14 rfl (lv_at hl 1 rfl) ?_
    refine lv_aload_n hx hb dd_P_noteLetter_15 rfl (lv_at hl 0 rfl) ?_
    refine va_get (D := D) (ci := 4) (v := .int (nI pl)) (C := RR_P) (T := TT_P) (N := 7) hx hb hts (fun w h => List.mem_cons_of_mem _ (in_P w h)) hown hK hP 0 rfl rfl 2 (by decide) (hts _ (List.mem_cons_of_mem _ wd_37)) (fun _ h9 => h9) rfl dd_P_noteLetter_16 ?_
    refine bo_iast hx hb hK hP hD hS 1 1 rfl rfl (by omega) (by decide) dd_P_noteLetter_19 (fun H locs hP hD hS => ?_)
    have hP : va_P D bo_cl [(pa, .inr (4, [.ref tp, .int (nI ln), .int (nI pl), .int fl, .int (nI ab), .int (nI bw), .ref fpa])), (fpa, .inl (cI, 3, .inl (upd fp v (nI pl))))] H := hP
    have hD : va_D A [(pa, .inr (4, [.ref tp, .int (nI ln), .int (nI pl), .int fl, .int (nI ab), .int (nI bw), .ref fpa])), (fpa, .inl (cI, 3, .inl (upd fp v (nI pl))))] := hD
    have hP9 := hP.sub (ws' := [(pa, .inr (4, [.ref tp, .int (nI ln), .int (nI pl), .int fl, .int (nI ab), .int (nI bw), .ref fpa])), (fpa, .inl (cI, 3, .inl (upd fp v (nI pl))))]) [0, 1] rfl
    have hD9 := hD.sub (ws' := [(pa, .inr (4, [.ref tp, .int (nI ln), .int (nI pl), .int fl, .int (nI ab), .int (nI bw), .ref fpa])), (fpa, .inl (cI, 3, .inl (upd fp v (nI pl))))]) [0, 1] (by decide) rfl
    exact hret (upd fp v (nI pl)) _ _ _ _ hP9 hD9 hS (by first | exact (if_neg h7).symm | exact (if_pos h7).symm) dd_P_noteLetter_20

set_option maxHeartbeats 4000000 in
set_option maxRecDepth 100000 in
theorem c_P_firstWithoutSide {l : Launch} {D : va_G} {cJ cI cB cY : ClassId} (pa : Nat) (tp : Nat) (ln : Nat) (pl : Nat) (ab : Nat) (bw : Nat) (fpa : Nat) (fl : Int32) (fp : Nat → Int32) (ns : Nat) (hns : ns ≤ 3) :
    bo_i (S := Unit) l D bo_cl (bo_ty cJ cI cB cY) yy_P_firstWithoutSide (bo_w yy_P_firstWithoutSide bb_P_firstWithoutSide 4 (some .int)) (bo_rm 0 0) [.ref pa, .int (nI ns)] [(pa, .inr (4, [.ref tp, .int (nI ln), .int (nI pl), .int fl, .int (nI ab), .int (nI bw), .ref fpa])), (fpa, .inl (cI, 3, .inl fp))] (fun r u => r = fwS fp (3 - ns) ns (-1)) (fun u => [(pa, .inr (4, [.ref tp, .int (nI ln), .int (nI pl), .int fl, .int (nI ab), .int (nI bw), .ref fpa])), (fpa, .inl (cI, 3, .inl fp))]) := by
  refine bo_enter_i (cc := bb_P_firstWithoutSide) (maxL := 4) (by decide) rfl (Nat.le_of_ble_eq_true rfl) ?_
  intro p e s m args below meth c A ls Q hx hb hts hown hml hK hP hD hS hA hl hret
  have hl : lv_has ls 4 [(0, .ref pa), (1, .int (nI ns))] := hl
  refine lv_iconst (v := -1) hx hb dd_P_firstWithoutSide_0 (by decide) ?_
  refine lv_istore_n (lv' := [(2, .int (-1)), (0, .ref pa), (1, .int (nI ns))]) hx hb dd_P_firstWithoutSide_1 rfl hl (by decide) rfl (fun ls hl => ?_)
  refine lv_iload_n hx hb dd_P_firstWithoutSide_2 rfl (lv_at hl 2 rfl) ?_
  refine lv_istore_n (lv' := [(3, .int (nI ns)), (2, .int (-1)), (0, .ref pa), (1, .int (nI ns))]) hx hb dd_P_firstWithoutSide_3 rfl hl (by decide) rfl (fun ls hl => ?_)
  have lo4 : ∀ (fu : Nat) (v : Nat) (a : Int32) (hv : v ≤ 3) (hz : fwS fp (3 - v) v a = fwS fp (3 - ns) ns (-1)) (ls : Array Slot) (H : Heap) (locs : List Loc), (3 - v) < fu → lv_has ls 4 [(0, .ref pa), (1, .int (nI ns)), (2, .int a), (3, .int (nI v))] → va_P D bo_cl [(pa, .inr (4, [.ref tp, .int (nI ln), .int (nI pl), .int fl, .int (nI ab), .int (nI bw), .ref fpa])), (fpa, .inl (cI, 3, .inl fp))] H → va_D A [(pa, .inr (4, [.ref tp, .int (nI ln), .int (nI pl), .int fl, .int (nI ab), .int (nI bw), .ref fpa])), (fpa, .inl (cI, 3, .inl fp))] → va_S A s.heap H locs → W p l e (bo_rm 0 0) s m args below meth c H locs 0 0 Q (F0 m 4 ls []) := by
    intro fu4
    induction fu4 with
    | zero => intro v a hv hz ls H locs hfu; exact absurd hfu (Nat.not_lt_zero _)
    | succ fu4 ih4 =>
      intro v a hv hz ls H locs hfu4 hl hP hD hS
      refine lv_iload_n hx hb dd_P_firstWithoutSide_4 rfl (lv_at hl 3 rfl) ?_
      refine lv_iconst (v := nI 3) hx hb dd_P_firstWithoutSide_5 (by decide) ?_
      refine bo_icmp_ge (tgt := 47) hx hb dd_P_firstWithoutSide_6 rfl (by omega) (by omega) (fun h6 => ?_) (fun h6 => ?_)
      · refine lv_iload_n hx hb dd_P_firstWithoutSide_47 rfl (lv_at hl 2 rfl) ?_
        have hP9 := hP.sub (ws' := [(pa, .inr (4, [.ref tp, .int (nI ln), .int (nI pl), .int fl, .int (nI ab), .int (nI bw), .ref fpa])), (fpa, .inl (cI, 3, .inl fp))]) [0, 1] rfl
        have hD9 := hD.sub (ws' := [(pa, .inr (4, [.ref tp, .int (nI ln), .int (nI pl), .int fl, .int (nI ab), .int (nI bw), .ref fpa])), (fpa, .inl (cI, 3, .inl fp))]) [0, 1] (by decide) rfl
        exact hret () _ _ _ _ _ hP9 hD9 hS (by have h0 : 3 - v = 0 := (by omega); rw [h0] at hz; exact hz) dd_P_firstWithoutSide_48
      · obtain ⟨nn, hnn⟩ : ∃ nn, 3 - v = nn + 1 := ⟨2 - v, by omega⟩
        refine lv_aload_n hx hb dd_P_firstWithoutSide_9 rfl (lv_at hl 0 rfl) ?_
        refine va_get (D := D) (ci := 4) (v := .ref fpa) (C := RR_P) (T := TT_P) (N := 7) hx hb hts (fun w h => List.mem_cons_of_mem _ (in_P w h)) hown hK hP 0 rfl rfl 6 (by decide) (hts _ (List.mem_cons_of_mem _ wd_41)) (fun _ h9 => h9) rfl dd_P_firstWithoutSide_10 ?_
        refine lv_iload_n hx hb dd_P_firstWithoutSide_13 rfl (lv_at hl 3 rfl) ?_
        refine bo_iald hx hb hK hP 1 1 rfl rfl (by omega) (by decide) dd_P_firstWithoutSide_14 ?_
        refine lv_iconst (v := -1) hx hb dd_P_firstWithoutSide_15 (by decide) ?_
        refine lv_icmp_eq (tgt := 41) hx hb dd_P_firstWithoutSide_16 rfl (fun h16 => ?_) (fun h16 => ?_)
        · refine lv_iinc (k := 3) (x := nI v) (v := nI (v + 1)) (lv' := [(3, .int (nI (v + 1))), (0, .ref pa), (1, .int (nI ns)), (2, .int a)]) hx hb dd_P_firstWithoutSide_41 hl rfl (nI_add _ 1) (by decide) rfl (fun ls hl => ?_)
          refine lv_goto (tgt := 4) hx hb dd_P_firstWithoutSide_44 rfl ?_
          have hl8 := lv_sub (l' := [(0, .ref pa), (1, .int (nI ns)), (2, .int a), (3, .int (nI (v + 1)))]) hl [1, 2, 3, 0] rfl
          have hP8 := hP.sub (ws' := [(pa, .inr (4, [.ref tp, .int (nI ln), .int (nI pl), .int fl, .int (nI ab), .int (nI bw), .ref fpa])), (fpa, .inl (cI, 3, .inl fp))]) [0, 1] rfl
          have hD8 := hD.sub (ws' := [(pa, .inr (4, [.ref tp, .int (nI ln), .int (nI pl), .int fl, .int (nI ab), .int (nI bw), .ref fpa])), (fpa, .inl (cI, 3, .inl fp))]) [0, 1] (by decide) rfl
          exact ih4 (v + 1) a (by omega) (by rw [← hz, hnn]; show _ = fwS fp nn (v + 1) (if _ then _ else _); rw [show 3 - (v + 1) = nn by omega]; first | exact congrArg (fwS fp nn (v + 1)) (fw_1 h16 h21) | exact congrArg (fwS fp nn (v + 1)) (fw_2 h16 h31) | exact congrArg (fwS fp nn (v + 1)) (fw_3 h16) | exact congrArg (fwS fp nn (v + 1)) (fw_4 h21 h31)) _ _ _ (by omega) hl8 hP8 hD8 hS
        · refine lv_iload_n hx hb dd_P_firstWithoutSide_19 rfl (lv_at hl 2 rfl) ?_
          refine lv_iconst (v := -1) hx hb dd_P_firstWithoutSide_20 (by decide) ?_
          refine lv_icmp_eq (tgt := 34) hx hb dd_P_firstWithoutSide_21 rfl (fun h21 => ?_) (fun h21 => ?_)
          · refine lv_aload_n hx hb dd_P_firstWithoutSide_34 rfl (lv_at hl 0 rfl) ?_
            refine va_get (D := D) (ci := 4) (v := .ref fpa) (C := RR_P) (T := TT_P) (N := 7) hx hb hts (fun w h => List.mem_cons_of_mem _ (in_P w h)) hown hK hP 0 rfl rfl 6 (by decide) (hts _ (List.mem_cons_of_mem _ wd_41)) (fun _ h9 => h9) rfl dd_P_firstWithoutSide_35 ?_
            refine lv_iload_n hx hb dd_P_firstWithoutSide_38 rfl (lv_at hl 3 rfl) ?_
            refine bo_iald hx hb hK hP 1 1 rfl rfl (by omega) (by decide) dd_P_firstWithoutSide_39 ?_
            refine lv_istore_n (lv' := [(2, .int (fp v)), (0, .ref pa), (1, .int (nI ns)), (3, .int (nI v))]) hx hb dd_P_firstWithoutSide_40 rfl hl (by decide) rfl (fun ls hl => ?_)
            refine lv_iinc (k := 3) (x := nI v) (v := nI (v + 1)) (lv' := [(3, .int (nI (v + 1))), (2, .int (fp v)), (0, .ref pa), (1, .int (nI ns))]) hx hb dd_P_firstWithoutSide_41 hl rfl (nI_add _ 1) (by decide) rfl (fun ls hl => ?_)
            refine lv_goto (tgt := 4) hx hb dd_P_firstWithoutSide_44 rfl ?_
            have hl8 := lv_sub (l' := [(0, .ref pa), (1, .int (nI ns)), (2, .int (fp v)), (3, .int (nI (v + 1)))]) hl [2, 3, 1, 0] rfl
            have hP8 := hP.sub (ws' := [(pa, .inr (4, [.ref tp, .int (nI ln), .int (nI pl), .int fl, .int (nI ab), .int (nI bw), .ref fpa])), (fpa, .inl (cI, 3, .inl fp))]) [0, 1] rfl
            have hD8 := hD.sub (ws' := [(pa, .inr (4, [.ref tp, .int (nI ln), .int (nI pl), .int fl, .int (nI ab), .int (nI bw), .ref fpa])), (fpa, .inl (cI, 3, .inl fp))]) [0, 1] (by decide) rfl
            exact ih4 (v + 1) (fp v) (by omega) (by rw [← hz, hnn]; show _ = fwS fp nn (v + 1) (if _ then _ else _); rw [show 3 - (v + 1) = nn by omega]; first | exact congrArg (fwS fp nn (v + 1)) (fw_1 h16 h21) | exact congrArg (fwS fp nn (v + 1)) (fw_2 h16 h31) | exact congrArg (fwS fp nn (v + 1)) (fw_3 h16) | exact congrArg (fwS fp nn (v + 1)) (fw_4 h21 h31)) _ _ _ (by omega) hl8 hP8 hD8 hS
          · refine lv_aload_n hx hb dd_P_firstWithoutSide_24 rfl (lv_at hl 0 rfl) ?_
            refine va_get (D := D) (ci := 4) (v := .ref fpa) (C := RR_P) (T := TT_P) (N := 7) hx hb hts (fun w h => List.mem_cons_of_mem _ (in_P w h)) hown hK hP 0 rfl rfl 6 (by decide) (hts _ (List.mem_cons_of_mem _ wd_41)) (fun _ h9 => h9) rfl dd_P_firstWithoutSide_25 ?_
            refine lv_iload_n hx hb dd_P_firstWithoutSide_28 rfl (lv_at hl 3 rfl) ?_
            refine bo_iald hx hb hK hP 1 1 rfl rfl (by omega) (by decide) dd_P_firstWithoutSide_29 ?_
            refine lv_iload_n hx hb dd_P_firstWithoutSide_30 rfl (lv_at hl 2 rfl) ?_
            refine lv_icmp_ge (tgt := 41) hx hb dd_P_firstWithoutSide_31 rfl (fun h31 => ?_) (fun h31 => ?_)
            · refine lv_iinc (k := 3) (x := nI v) (v := nI (v + 1)) (lv' := [(3, .int (nI (v + 1))), (0, .ref pa), (1, .int (nI ns)), (2, .int a)]) hx hb dd_P_firstWithoutSide_41 hl rfl (nI_add _ 1) (by decide) rfl (fun ls hl => ?_)
              refine lv_goto (tgt := 4) hx hb dd_P_firstWithoutSide_44 rfl ?_
              have hl8 := lv_sub (l' := [(0, .ref pa), (1, .int (nI ns)), (2, .int a), (3, .int (nI (v + 1)))]) hl [1, 2, 3, 0] rfl
              have hP8 := hP.sub (ws' := [(pa, .inr (4, [.ref tp, .int (nI ln), .int (nI pl), .int fl, .int (nI ab), .int (nI bw), .ref fpa])), (fpa, .inl (cI, 3, .inl fp))]) [0, 1] rfl
              have hD8 := hD.sub (ws' := [(pa, .inr (4, [.ref tp, .int (nI ln), .int (nI pl), .int fl, .int (nI ab), .int (nI bw), .ref fpa])), (fpa, .inl (cI, 3, .inl fp))]) [0, 1] (by decide) rfl
              exact ih4 (v + 1) a (by omega) (by rw [← hz, hnn]; show _ = fwS fp nn (v + 1) (if _ then _ else _); rw [show 3 - (v + 1) = nn by omega]; first | exact congrArg (fwS fp nn (v + 1)) (fw_1 h16 h21) | exact congrArg (fwS fp nn (v + 1)) (fw_2 h16 h31) | exact congrArg (fwS fp nn (v + 1)) (fw_3 h16) | exact congrArg (fwS fp nn (v + 1)) (fw_4 h21 h31)) _ _ _ (by omega) hl8 hP8 hD8 hS
            · refine lv_aload_n hx hb dd_P_firstWithoutSide_34 rfl (lv_at hl 0 rfl) ?_
              refine va_get (D := D) (ci := 4) (v := .ref fpa) (C := RR_P) (T := TT_P) (N := 7) hx hb hts (fun w h => List.mem_cons_of_mem _ (in_P w h)) hown hK hP 0 rfl rfl 6 (by decide) (hts _ (List.mem_cons_of_mem _ wd_41)) (fun _ h9 => h9) rfl dd_P_firstWithoutSide_35 ?_
              refine lv_iload_n hx hb dd_P_firstWithoutSide_38 rfl (lv_at hl 3 rfl) ?_
              refine bo_iald hx hb hK hP 1 1 rfl rfl (by omega) (by decide) dd_P_firstWithoutSide_39 ?_
              refine lv_istore_n (lv' := [(2, .int (fp v)), (0, .ref pa), (1, .int (nI ns)), (3, .int (nI v))]) hx hb dd_P_firstWithoutSide_40 rfl hl (by decide) rfl (fun ls hl => ?_)
              refine lv_iinc (k := 3) (x := nI v) (v := nI (v + 1)) (lv' := [(3, .int (nI (v + 1))), (2, .int (fp v)), (0, .ref pa), (1, .int (nI ns))]) hx hb dd_P_firstWithoutSide_41 hl rfl (nI_add _ 1) (by decide) rfl (fun ls hl => ?_)
              refine lv_goto (tgt := 4) hx hb dd_P_firstWithoutSide_44 rfl ?_
              have hl8 := lv_sub (l' := [(0, .ref pa), (1, .int (nI ns)), (2, .int (fp v)), (3, .int (nI (v + 1)))]) hl [2, 3, 1, 0] rfl
              have hP8 := hP.sub (ws' := [(pa, .inr (4, [.ref tp, .int (nI ln), .int (nI pl), .int fl, .int (nI ab), .int (nI bw), .ref fpa])), (fpa, .inl (cI, 3, .inl fp))]) [0, 1] rfl
              have hD8 := hD.sub (ws' := [(pa, .inr (4, [.ref tp, .int (nI ln), .int (nI pl), .int fl, .int (nI ab), .int (nI bw), .ref fpa])), (fpa, .inl (cI, 3, .inl fp))]) [0, 1] (by decide) rfl
              exact ih4 (v + 1) (fp v) (by omega) (by rw [← hz, hnn]; show _ = fwS fp nn (v + 1) (if _ then _ else _); rw [show 3 - (v + 1) = nn by omega]; first | exact congrArg (fwS fp nn (v + 1)) (fw_1 h16 h21) | exact congrArg (fwS fp nn (v + 1)) (fw_2 h16 h31) | exact congrArg (fwS fp nn (v + 1)) (fw_3 h16) | exact congrArg (fwS fp nn (v + 1)) (fw_4 h21 h31)) _ _ _ (by omega) hl8 hP8 hD8 hS
  have hl8 := lv_sub (l' := [(0, .ref pa), (1, .int (nI ns)), (2, .int (-1)), (3, .int (nI ns))]) hl [2, 3, 1, 0] rfl
  have hP8 := hP.sub (ws' := [(pa, .inr (4, [.ref tp, .int (nI ln), .int (nI pl), .int fl, .int (nI ab), .int (nI bw), .ref fpa])), (fpa, .inl (cI, 3, .inl fp))]) [0, 1] rfl
  have hD8 := hD.sub (ws' := [(pa, .inr (4, [.ref tp, .int (nI ln), .int (nI pl), .int fl, .int (nI ab), .int (nI bw), .ref fpa])), (fpa, .inl (cI, 3, .inl fp))]) [0, 1] (by decide) rfl
  exact lo4 ((3 - ns) + 1) ns (-1) (by omega) (by rfl) _ _ _ (Nat.lt_succ_self _) hl8 hP8 hD8 hS

set_option maxHeartbeats 4000000 in
set_option maxRecDepth 100000 in
theorem c_P_readDigits {l : Launch} {D : va_G} {cJ cI cB cY : ClassId} (pa : Nat) (tp : Nat) (ln : Nat) (pl : Nat) (ab : Nat) (bw : Nat) (fpa : Nat) (fl : Int32) (tb : Nat → Nat) (mo : Nat) (hpl : pl ≤ ln) (hln : ln ≤ 240) (htb : ∀ i, tb i < 128) (hmo : mo < 10) :
    bo_i (S := Nat) l D bo_cl (bo_ty cJ cI cB cY) yy_P_readDigits (bo_w yy_P_readDigits bb_P_readDigits 5 (some .int)) (bo_rm 1 20) [.ref pa, .int (nI mo)] [(pa, .inr (4, [.ref tp, .int (nI ln), .int (nI pl), .int fl, .int (nI ab), .int (nI bw), .ref fpa])), (tp, .inl (cB, 240, .inl (fun i => nI (tb i))))] (fun r u => r = nI (dgs (see tb ln) mo pl 0).2 ∧ u = (dgs (see tb ln) mo pl 0).1 ∧ u ≤ ln) (fun u => [(pa, .inr (4, [.ref tp, .int (nI ln), .int (nI u), .int fl, .int (nI ab), .int (nI bw), .ref fpa])), (tp, .inl (cB, 240, .inl (fun i => nI (tb i))))]) := by
  refine bo_enter_i (cc := bb_P_readDigits) (maxL := 5) (by decide) rfl (Nat.le_of_ble_eq_true rfl) ?_
  intro p e s m args below meth c A ls Q hx hb hts hown hml hK hP hD hS hA hl hret
  have hl : lv_has ls 5 [(0, .ref pa), (1, .int (nI mo))] := hl
  refine lv_iconst (v := nI 0) hx hb dd_P_readDigits_0 (by decide) ?_
  refine lv_istore_n (lv' := [(2, .int (nI 0)), (0, .ref pa), (1, .int (nI mo))]) hx hb dd_P_readDigits_1 rfl hl (by decide) rfl (fun ls hl => ?_)
  refine lv_iconst (v := nI 0) hx hb dd_P_readDigits_2 (by decide) ?_
  refine lv_istore_n (lv' := [(3, .int (nI 0)), (2, .int (nI 0)), (0, .ref pa), (1, .int (nI mo))]) hx hb dd_P_readDigits_3 rfl hl (by decide) rfl (fun ls hl => ?_)
  have lo4 : ∀ (fu : Nat) (k : Nat) (x : Nat) (pl2 : Nat) (hk : k ≤ mo) (hpl2 : pl2 ≤ ln) (hz : dgs (see tb ln) (mo - k) pl2 x = dgs (see tb ln) mo pl 0) (ls : Array Slot) (H : Heap) (locs : List Loc), (mo - k) < fu → lv_has ls 5 [(0, .ref pa), (1, .int (nI mo)), (2, .int (nI x)), (3, .int (nI k))] → va_P D bo_cl [(pa, .inr (4, [.ref tp, .int (nI ln), .int (nI pl2), .int fl, .int (nI ab), .int (nI bw), .ref fpa])), (tp, .inl (cB, 240, .inl (fun i => nI (tb i))))] H → va_D A [(pa, .inr (4, [.ref tp, .int (nI ln), .int (nI pl2), .int fl, .int (nI ab), .int (nI bw), .ref fpa])), (tp, .inl (cB, 240, .inl (fun i => nI (tb i))))] → va_S A s.heap H locs → W p l e (bo_rm 1 20) s m args below meth c H locs 0 0 Q (F0 m 4 ls []) := by
    intro fu4
    induction fu4 with
    | zero => intro k x pl2 hk hpl2 hz ls H locs hfu; exact absurd hfu (Nat.not_lt_zero _)
    | succ fu4 ih4 =>
      intro k x pl2 hk hpl2 hz ls H locs hfu4 hl hP hD hS
      refine lv_iload_n hx hb dd_P_readDigits_4 rfl (lv_at hl 3 rfl) ?_
      refine lv_iload_n hx hb dd_P_readDigits_5 rfl (lv_at hl 1 rfl) ?_
      refine bo_icmp_ge (tgt := 58) hx hb dd_P_readDigits_6 rfl (by omega) (by omega) (fun h6 => ?_) (fun h6 => ?_)
      · refine lv_iload_n hx hb dd_P_readDigits_58 rfl (lv_at hl 2 rfl) ?_
        have hP9 := hP.sub (ws' := [(pa, .inr (4, [.ref tp, .int (nI ln), .int (nI pl2), .int fl, .int (nI ab), .int (nI bw), .ref fpa])), (tp, .inl (cB, 240, .inl (fun i => nI (tb i))))]) [0, 1] rfl
        have hD9 := hD.sub (ws' := [(pa, .inr (4, [.ref tp, .int (nI ln), .int (nI pl2), .int fl, .int (nI ab), .int (nI bw), .ref fpa])), (tp, .inl (cB, 240, .inl (fun i => nI (tb i))))]) [0, 1] (by decide) rfl
        exact hret (pl2) _ _ _ _ _ hP9 hD9 hS (by rw [← hz, show mo - k = 0 by omega]; exact ⟨rfl, rfl, hpl2⟩) dd_P_readDigits_59
      · obtain ⟨nn, hnn⟩ : ∃ nn, mo - k = nn + 1 := ⟨mo - k - 1, by omega⟩
        have hs8 := see_128 htb ln pl2
        refine lv_aload_n hx hb dd_P_readDigits_9 rfl (lv_at hl 0 rfl) ?_
        refine bo_goi (wr := []) (bo_rV (c_P_here (l := l) (D := D) (cJ := cJ) (cI := cI) (cB := cB) (cY := cY) pa tp ln pl2 ab bw fpa fl tb hpl2 hln htb _) ⟨hx, hb, hml, hown, hts⟩ (cwV 0 hts (bo_gV wd_451 wd_453 wp_7 wd_2 wd_454) rfl rfl rfl hd_P_here (by decide)) hK hP hD [0, 1] rfl (by decide) 0 4 rfl rfl rfl rfl hl.1 rfl (Nat.le_of_ble_eq_true rfl) dd_P_readDigits_10 (by decide)) hP hD hS hA [0, 1] [] rfl rfl (by decide) (by decide) (fun r_10 u H locs hu_10 hP hD hS => ?_)
        have hu_10 : r_10 = nI (see tb ln pl2) := hu_10
        have hP : va_P D bo_cl [(pa, .inr (4, [.ref tp, .int (nI ln), .int (nI pl2), .int fl, .int (nI ab), .int (nI bw), .ref fpa])), (tp, .inl (cB, 240, .inl (fun i => nI (tb i))))] H := hP
        have hD : va_D A [(pa, .inr (4, [.ref tp, .int (nI ln), .int (nI pl2), .int fl, .int (nI ab), .int (nI bw), .ref fpa])), (tp, .inl (cB, 240, .inl (fun i => nI (tb i))))] := hD
        subst hu_10
        refine lv_istore (lv' := [(4, .int (nI (see tb ln pl2))), (0, .ref pa), (1, .int (nI mo)), (2, .int (nI x)), (3, .int (nI k))]) hx hb dd_P_readDigits_13 hl (by decide) rfl (fun ls hl => ?_)
        refine lv_iload hx hb dd_P_readDigits_15 (lv_at hl 0 rfl) ?_
        refine lv_bipush (v := nI 48) hx hb dd_P_readDigits_17 (by decide) ?_
        refine bo_icmp_lt (tgt := 29) hx hb dd_P_readDigits_19 rfl (by omega) (by omega) (fun h19 => ?_) (fun h19 => ?_)
        · refine lv_iload_n hx hb dd_P_readDigits_29 rfl (lv_at hl 3 rfl) ?_
          have hP9 := hP.sub (ws' := [(pa, .inr (4, [.ref tp, .int (nI ln), .int (nI pl2), .int fl, .int (nI ab), .int (nI bw), .ref fpa])), (tp, .inl (cB, 240, .inl (fun i => nI (tb i))))]) [0, 1] rfl
          have hD9 := hD.sub (ws' := [(pa, .inr (4, [.ref tp, .int (nI ln), .int (nI pl2), .int fl, .int (nI ab), .int (nI bw), .ref fpa])), (tp, .inl (cB, 240, .inl (fun i => nI (tb i))))]) [0, 1] (by decide) rfl
          exact hret (pl2) _ _ _ _ _ hP9 hD9 hS (by rw [← hz, hnn, dgs, if_neg (by omega)]; exact ⟨rfl, rfl, hpl2⟩) dd_P_readDigits_30
        · refine lv_iload hx hb dd_P_readDigits_22 (lv_at hl 0 rfl) ?_
          refine lv_bipush (v := nI 57) hx hb dd_P_readDigits_24 (by decide) ?_
          refine bo_icmp_le (tgt := 31) hx hb dd_P_readDigits_26 rfl (by omega) (by omega) (fun h26 => ?_) (fun h26 => ?_)
          · refine lv_iload_n hx hb dd_P_readDigits_31 rfl (lv_at hl 3 rfl) ?_
            refine lv_bipush (v := nI 10) hx hb dd_P_readDigits_32 (by decide) ?_
            refine bo_imul hx hb dd_P_readDigits_34 ?_
            refine lv_iload hx hb dd_P_readDigits_35 (lv_at hl 0 rfl) ?_
            refine lv_bipush (v := nI 48) hx hb dd_P_readDigits_37 (by decide) ?_
            refine bo_isub hx hb (by omega) dd_P_readDigits_39 ?_
            refine bo_iadd hx hb dd_P_readDigits_40 ?_
            refine lv_istore_n (lv' := [(2, .int (nI ((x * 10) + ((see tb ln pl2) - 48)))), (4, .int (nI (see tb ln pl2))), (0, .ref pa), (1, .int (nI mo)), (3, .int (nI k))]) hx hb dd_P_readDigits_41 rfl hl (by decide) rfl (fun ls hl => ?_)
            refine lv_aload_n hx hb dd_P_readDigits_42 rfl (lv_at hl 2 rfl) ?_
            refine lv_dup hx hb dd_P_readDigits_43 rfl ?_
            refine va_get (D := D) (ci := 4) (v := .int (nI pl2)) (C := RR_P) (T := TT_P) (N := 7) hx hb hts (fun w h => List.mem_cons_of_mem _ (in_P w h)) hown hK hP 0 rfl rfl 2 (by decide) (hts _ (List.mem_cons_of_mem _ wd_37)) (fun _ h9 => h9) rfl dd_P_readDigits_44 ?_
            refine lv_iconst (v := nI 1) hx hb dd_P_readDigits_47 (by decide) ?_
            refine bo_iadd hx hb dd_P_readDigits_48 ?_
            refine va_put (D := D) (ci := 4) (v := .int (nI (pl2 + 1))) (ty := .int) (C := RR_P) (T := TT_P) (N := 7) hx hb hts (fun w h => List.mem_cons_of_mem _ (in_P w h)) tt_P ty_P nm_P hown hK hP hD hS 0 rfl rfl 2 (by decide) (hts _ (List.mem_cons_of_mem _ wd_37)) (fun _ h9 => h9) rfl (by decide +kernel) rfl rfl (Nat.le_of_ble_eq_true rfl) dd_P_readDigits_49 (fun H locs hP hD hS => ?_)
            have hP : va_P D bo_cl [(pa, .inr (4, [.ref tp, .int (nI ln), .int (nI (pl2 + 1)), .int fl, .int (nI ab), .int (nI bw), .ref fpa])), (tp, .inl (cB, 240, .inl (fun i => nI (tb i))))] H := hP
            have hD : va_D A [(pa, .inr (4, [.ref tp, .int (nI ln), .int (nI (pl2 + 1)), .int fl, .int (nI ab), .int (nI bw), .ref fpa])), (tp, .inl (cB, 240, .inl (fun i => nI (tb i))))] := hD
            refine lv_iinc (k := 4) (x := nI k) (v := nI (k + 1)) (lv' := [(3, .int (nI (k + 1))), (2, .int (nI ((x * 10) + ((see tb ln pl2) - 48)))), (4, .int (nI (see tb ln pl2))), (0, .ref pa), (1, .int (nI mo))]) hx hb dd_P_readDigits_52 hl rfl (nI_add _ 1) (by decide) rfl (fun ls hl => ?_)
            refine lv_goto (tgt := 4) hx hb dd_P_readDigits_55 rfl ?_
            have hl8 := lv_sub (l' := [(0, .ref pa), (1, .int (nI mo)), (2, .int (nI ((x * 10) + ((see tb ln pl2) - 48)))), (3, .int (nI (k + 1)))]) hl [3, 4, 1, 0] rfl
            have hP8 := hP.sub (ws' := [(pa, .inr (4, [.ref tp, .int (nI ln), .int (nI (pl2 + 1)), .int fl, .int (nI ab), .int (nI bw), .ref fpa])), (tp, .inl (cB, 240, .inl (fun i => nI (tb i))))]) [0, 1] rfl
            have hD8 := hD.sub (ws' := [(pa, .inr (4, [.ref tp, .int (nI ln), .int (nI (pl2 + 1)), .int fl, .int (nI ab), .int (nI bw), .ref fpa])), (tp, .inl (cB, 240, .inl (fun i => nI (tb i))))]) [0, 1] (by decide) rfl
            exact ih4 (k + 1) ((x * 10) + ((see tb ln pl2) - 48)) (pl2 + 1) (by omega) (by exact see_lt (tb := tb) (by omega)) (by rw [← hz, hnn, dgs, if_pos (by omega), show mo - (k + 1) = nn by omega]) _ _ _ (by omega) hl8 hP8 hD8 hS
          · refine lv_iload_n hx hb dd_P_readDigits_29 rfl (lv_at hl 3 rfl) ?_
            have hP9 := hP.sub (ws' := [(pa, .inr (4, [.ref tp, .int (nI ln), .int (nI pl2), .int fl, .int (nI ab), .int (nI bw), .ref fpa])), (tp, .inl (cB, 240, .inl (fun i => nI (tb i))))]) [0, 1] rfl
            have hD9 := hD.sub (ws' := [(pa, .inr (4, [.ref tp, .int (nI ln), .int (nI pl2), .int fl, .int (nI ab), .int (nI bw), .ref fpa])), (tp, .inl (cB, 240, .inl (fun i => nI (tb i))))]) [0, 1] (by decide) rfl
            exact hret (pl2) _ _ _ _ _ hP9 hD9 hS (by rw [← hz, hnn, dgs, if_neg (by omega)]; exact ⟨rfl, rfl, hpl2⟩) dd_P_readDigits_30
  have hl8 := lv_sub (l' := [(0, .ref pa), (1, .int (nI mo)), (2, .int (nI 0)), (3, .int (nI 0))]) hl [2, 3, 1, 0] rfl
  have hP8 := hP.sub (ws' := [(pa, .inr (4, [.ref tp, .int (nI ln), .int (nI pl), .int fl, .int (nI ab), .int (nI bw), .ref fpa])), (tp, .inl (cB, 240, .inl (fun i => nI (tb i))))]) [0, 1] rfl
  have hD8 := hD.sub (ws' := [(pa, .inr (4, [.ref tp, .int (nI ln), .int (nI pl), .int fl, .int (nI ab), .int (nI bw), .ref fpa])), (tp, .inl (cB, 240, .inl (fun i => nI (tb i))))]) [0, 1] (by decide) rfl
  exact lo4 ((mo - 0) + 1) 0 0 pl (by omega) (by exact hpl) (by rfl) _ _ _ (Nat.lt_succ_self _) hl8 hP8 hD8 hS

set_option maxHeartbeats 4000000 in
set_option maxRecDepth 100000 in
theorem c_P_readPower {l : Launch} {D : va_G} {cJ cI cB cY : ClassId} (pa : Nat) (tp : Nat) (ln : Nat) (pl : Nat) (ab : Nat) (bw : Nat) (fpa : Nat) (fl : Int32) (tb : Nat → Nat) (ro : Nat) (hpl : pl ≤ ln) (hln : ln ≤ 240) (htb : ∀ i, tb i < 128) (hro : ro < 7) :
    bo_i (S := Nat × Int32) l D bo_cl (bo_ty cJ cI cB cY) yy_P_readPower (bo_w yy_P_readPower bb_P_readPower 3 (some .int)) (bo_rm 1 21) [.ref pa, .int (nI ro)] [(pa, .inr (4, [.ref tp, .int (nI ln), .int (nI pl), .int fl, .int (nI ab), .int (nI bw), .ref fpa])), (tp, .inl (cB, 240, .inl (fun i => nI (tb i))))] (fun r u => rpQ (rP (see tb ln) pl ro) ln fl r u.1 u.2) (fun u => [(pa, .inr (4, [.ref tp, .int (nI ln), .int (nI u.1), .int u.2, .int (nI ab), .int (nI bw), .ref fpa])), (tp, .inl (cB, 240, .inl (fun i => nI (tb i))))]) := by
  refine bo_enter_i (cc := bb_P_readPower) (maxL := 3) (by decide) rfl (Nat.le_of_ble_eq_true rfl) ?_
  intro p e s m args below meth c A ls Q hx hb hts hown hml hK hP hD hS hA hl hret
  have hl : lv_has ls 3 [(0, .ref pa), (1, .int (nI ro))] := hl
  refine lv_aload_n hx hb dd_P_readPower_0 rfl (lv_at hl 0 rfl) ?_
  refine bo_goi (wr := []) (bo_rV (c_P_here (l := l) (D := D) (cJ := cJ) (cI := cI) (cB := cB) (cY := cY) pa tp ln pl ab bw fpa fl tb hpl hln htb _) ⟨hx, hb, hml, hown, hts⟩ (cwV 0 hts (bo_gV wd_451 wd_453 wp_7 wd_2 wd_454) rfl rfl rfl hd_P_here (by decide)) hK hP hD [0, 1] rfl (by decide) 0 4 rfl rfl rfl rfl hl.1 rfl (Nat.le_of_ble_eq_true rfl) dd_P_readPower_1 (by decide)) hP hD hS hA [0, 1] [] rfl rfl (by decide) (by decide) (fun r_1 u H locs hu_1 hP hD hS => ?_)
  have hu_1 : r_1 = nI (see tb ln pl) := hu_1
  have hP : va_P D bo_cl [(pa, .inr (4, [.ref tp, .int (nI ln), .int (nI pl), .int fl, .int (nI ab), .int (nI bw), .ref fpa])), (tp, .inl (cB, 240, .inl (fun i => nI (tb i))))] H := hP
  have hD : va_D A [(pa, .inr (4, [.ref tp, .int (nI ln), .int (nI pl), .int fl, .int (nI ab), .int (nI bw), .ref fpa])), (tp, .inl (cB, 240, .inl (fun i => nI (tb i))))] := hD
  subst hu_1
  refine lv_bipush (v := nI 94) hx hb dd_P_readPower_4 (by decide) ?_
  refine bo_icmp_eq (tgt := 11) hx hb dd_P_readPower_6 rfl (Nat.lt_trans (see_128 htb _ _) (by decide)) (by omega) (fun h6 => ?_) (fun h6 => ?_)
  · refine lv_aload_n hx hb dd_P_readPower_11 rfl (lv_at hl 0 rfl) ?_
    refine lv_dup hx hb dd_P_readPower_12 rfl ?_
    refine va_get (D := D) (ci := 4) (v := .int (nI pl)) (C := RR_P) (T := TT_P) (N := 7) hx hb hts (fun w h => List.mem_cons_of_mem _ (in_P w h)) hown hK hP 0 rfl rfl 2 (by decide) (hts _ (List.mem_cons_of_mem _ wd_37)) (fun _ h9 => h9) rfl dd_P_readPower_13 ?_
    refine lv_iconst (v := nI 1) hx hb dd_P_readPower_16 (by decide) ?_
    refine bo_iadd hx hb dd_P_readPower_17 ?_
    refine va_put (D := D) (ci := 4) (v := .int (nI (pl + 1))) (ty := .int) (C := RR_P) (T := TT_P) (N := 7) hx hb hts (fun w h => List.mem_cons_of_mem _ (in_P w h)) tt_P ty_P nm_P hown hK hP hD hS 0 rfl rfl 2 (by decide) (hts _ (List.mem_cons_of_mem _ wd_37)) (fun _ h9 => h9) rfl (by decide +kernel) rfl rfl (Nat.le_of_ble_eq_true rfl) dd_P_readPower_18 (fun H locs hP hD hS => ?_)
    have hP : va_P D bo_cl [(pa, .inr (4, [.ref tp, .int (nI ln), .int (nI (pl + 1)), .int fl, .int (nI ab), .int (nI bw), .ref fpa])), (tp, .inl (cB, 240, .inl (fun i => nI (tb i))))] H := hP
    have hD : va_D A [(pa, .inr (4, [.ref tp, .int (nI ln), .int (nI (pl + 1)), .int fl, .int (nI ab), .int (nI bw), .ref fpa])), (tp, .inl (cB, 240, .inl (fun i => nI (tb i))))] := hD
    have hs8 := see_128 htb ln (pl + 1)
    refine lv_aload_n hx hb dd_P_readPower_21 rfl (lv_at hl 0 rfl) ?_
    refine bo_goi (wr := []) (bo_rV (c_P_here (l := l) (D := D) (cJ := cJ) (cI := cI) (cB := cB) (cY := cY) pa tp ln (pl + 1) ab bw fpa fl tb (see_lt (tb := tb) (by omega)) hln htb _) ⟨hx, hb, hml, hown, hts⟩ (cwV 0 hts (bo_gV wd_451 wd_453 wp_7 wd_2 wd_454) rfl rfl rfl hd_P_here (by decide)) hK hP hD [0, 1] rfl (by decide) 0 4 rfl rfl rfl rfl hl.1 rfl (Nat.le_of_ble_eq_true rfl) dd_P_readPower_22 (by decide)) hP hD hS hA [0, 1] [] rfl rfl (by decide) (by decide) (fun r_22 u H locs hu_22 hP hD hS => ?_)
    have hu_22 : r_22 = nI (see tb ln (pl + 1)) := hu_22
    have hP : va_P D bo_cl [(pa, .inr (4, [.ref tp, .int (nI ln), .int (nI (pl + 1)), .int fl, .int (nI ab), .int (nI bw), .ref fpa])), (tp, .inl (cB, 240, .inl (fun i => nI (tb i))))] H := hP
    have hD : va_D A [(pa, .inr (4, [.ref tp, .int (nI ln), .int (nI (pl + 1)), .int fl, .int (nI ab), .int (nI bw), .ref fpa])), (tp, .inl (cB, 240, .inl (fun i => nI (tb i))))] := hD
    subst hu_22
    refine lv_bipush (v := nI 48) hx hb dd_P_readPower_25 (by decide) ?_
    refine lv_isub hx hb dd_P_readPower_27 ?_
    refine lv_topi (fun v28 e28 => ?_)
    refine lv_istore_n (lv' := [(2, .int v28), (0, .ref pa), (1, .int (nI ro))]) hx hb dd_P_readPower_28 rfl hl (by decide) rfl (fun ls hl => ?_)
    refine lv_iload_n hx hb dd_P_readPower_29 rfl (lv_at hl 0 rfl) ?_
    refine lv_iconst (v := nI 1) hx hb dd_P_readPower_30 (by decide) ?_
    refine lv_icmp_lt (tgt := 44) hx hb dd_P_readPower_31 rfl (fun h31 => ?_) (fun h31 => ?_)
    · refine lv_aload_n hx hb dd_P_readPower_44 rfl (lv_at hl 1 rfl) ?_
      refine lv_aload_n hx hb dd_P_readPower_45 rfl (lv_at hl 1 rfl) ?_
      refine va_get (D := D) (ci := 4) (v := .int (nI (pl + 1))) (C := RR_P) (T := TT_P) (N := 7) hx hb hts (fun w h => List.mem_cons_of_mem _ (in_P w h)) hown hK hP 0 rfl rfl 2 (by decide) (hts _ (List.mem_cons_of_mem _ wd_37)) (fun _ h9 => h9) rfl dd_P_readPower_46 ?_
      refine bo_goi (wr := [(tp, .inl (cB, 240, .inl (fun i => nI (tb i))))]) (bo_rV (c_P_faultAt (l := l) (D := D) (cJ := cJ) (cI := cI) (cB := cB) (cY := cY) pa tp ln (pl + 1) ab bw fpa fl (nI (pl + 1))  _) ⟨hx, hb, hml, hown, hts⟩ (cwV 1 hts (bo_gV wd_455 wd_457 wp_8 wd_2 wd_458) rfl rfl rfl hd_P_faultAt (by decide)) hK hP hD [0] rfl (by decide) 0 4 rfl rfl rfl rfl hl.1 rfl (Nat.le_of_ble_eq_true rfl) dd_P_readPower_49 (by decide)) hP hD hS hA [0] [1] rfl rfl (by decide) (by decide) (fun r_49 u H locs hu_49 hP hD hS => ?_)
      have hu_49 : r_49 = nI 0 := hu_49
      have hP : va_P D bo_cl [(tp, .inl (cB, 240, .inl (fun i => nI (tb i)))), (pa, .inr (4, [.ref tp, .int (nI ln), .int (nI (pl + 1)), .int (nI (pl + 1)), .int (nI ab), .int (nI bw), .ref fpa]))] H := hP
      have hD : va_D A [(tp, .inl (cB, 240, .inl (fun i => nI (tb i)))), (pa, .inr (4, [.ref tp, .int (nI ln), .int (nI (pl + 1)), .int (nI (pl + 1)), .int (nI ab), .int (nI bw), .ref fpa]))] := hD
      subst hu_49
      refine lv_pop hx hb dd_P_readPower_52 rfl ?_
      refine lv_iconst (v := -1) hx hb dd_P_readPower_53 (by decide) ?_
      have hP9 := hP.sub (ws' := [(pa, .inr (4, [.ref tp, .int (nI ln), .int (nI (pl + 1)), .int (nI (pl + 1)), .int (nI ab), .int (nI bw), .ref fpa])), (tp, .inl (cB, 240, .inl (fun i => nI (tb i))))]) [1, 0] rfl
      have hD9 := hD.sub (ws' := [(pa, .inr (4, [.ref tp, .int (nI ln), .int (nI (pl + 1)), .int (nI (pl + 1)), .int (nI ab), .int (nI bw), .ref fpa])), (tp, .inl (cB, 240, .inl (fun i => nI (tb i))))]) [1, 0] (by decide) rfl
      exact hret (pl + 1, nI (pl + 1)) _ _ _ _ _ hP9 hD9 hS (by first | exact rpQ_2 h6 hs8 hro e28 (Or.inl h31) | exact rpQ_2 h6 hs8 hro e28 (Or.inr (Or.inl h36)) | exact rpQ_2 h6 hs8 hro e28 (Or.inr (Or.inr h41))) dd_P_readPower_54
    · refine lv_iload_n hx hb dd_P_readPower_34 rfl (lv_at hl 0 rfl) ?_
      refine lv_iconst (v := nI 4) hx hb dd_P_readPower_35 (by decide) ?_
      refine lv_icmp_gt (tgt := 44) hx hb dd_P_readPower_36 rfl (fun h36 => ?_) (fun h36 => ?_)
      · refine lv_aload_n hx hb dd_P_readPower_44 rfl (lv_at hl 1 rfl) ?_
        refine lv_aload_n hx hb dd_P_readPower_45 rfl (lv_at hl 1 rfl) ?_
        refine va_get (D := D) (ci := 4) (v := .int (nI (pl + 1))) (C := RR_P) (T := TT_P) (N := 7) hx hb hts (fun w h => List.mem_cons_of_mem _ (in_P w h)) hown hK hP 0 rfl rfl 2 (by decide) (hts _ (List.mem_cons_of_mem _ wd_37)) (fun _ h9 => h9) rfl dd_P_readPower_46 ?_
        refine bo_goi (wr := [(tp, .inl (cB, 240, .inl (fun i => nI (tb i))))]) (bo_rV (c_P_faultAt (l := l) (D := D) (cJ := cJ) (cI := cI) (cB := cB) (cY := cY) pa tp ln (pl + 1) ab bw fpa fl (nI (pl + 1))  _) ⟨hx, hb, hml, hown, hts⟩ (cwV 1 hts (bo_gV wd_455 wd_457 wp_8 wd_2 wd_458) rfl rfl rfl hd_P_faultAt (by decide)) hK hP hD [0] rfl (by decide) 0 4 rfl rfl rfl rfl hl.1 rfl (Nat.le_of_ble_eq_true rfl) dd_P_readPower_49 (by decide)) hP hD hS hA [0] [1] rfl rfl (by decide) (by decide) (fun r_49 u H locs hu_49 hP hD hS => ?_)
        have hu_49 : r_49 = nI 0 := hu_49
        have hP : va_P D bo_cl [(tp, .inl (cB, 240, .inl (fun i => nI (tb i)))), (pa, .inr (4, [.ref tp, .int (nI ln), .int (nI (pl + 1)), .int (nI (pl + 1)), .int (nI ab), .int (nI bw), .ref fpa]))] H := hP
        have hD : va_D A [(tp, .inl (cB, 240, .inl (fun i => nI (tb i)))), (pa, .inr (4, [.ref tp, .int (nI ln), .int (nI (pl + 1)), .int (nI (pl + 1)), .int (nI ab), .int (nI bw), .ref fpa]))] := hD
        subst hu_49
        refine lv_pop hx hb dd_P_readPower_52 rfl ?_
        refine lv_iconst (v := -1) hx hb dd_P_readPower_53 (by decide) ?_
        have hP9 := hP.sub (ws' := [(pa, .inr (4, [.ref tp, .int (nI ln), .int (nI (pl + 1)), .int (nI (pl + 1)), .int (nI ab), .int (nI bw), .ref fpa])), (tp, .inl (cB, 240, .inl (fun i => nI (tb i))))]) [1, 0] rfl
        have hD9 := hD.sub (ws' := [(pa, .inr (4, [.ref tp, .int (nI ln), .int (nI (pl + 1)), .int (nI (pl + 1)), .int (nI ab), .int (nI bw), .ref fpa])), (tp, .inl (cB, 240, .inl (fun i => nI (tb i))))]) [1, 0] (by decide) rfl
        exact hret (pl + 1, nI (pl + 1)) _ _ _ _ _ hP9 hD9 hS (by first | exact rpQ_2 h6 hs8 hro e28 (Or.inl h31) | exact rpQ_2 h6 hs8 hro e28 (Or.inr (Or.inl h36)) | exact rpQ_2 h6 hs8 hro e28 (Or.inr (Or.inr h41))) dd_P_readPower_54
      · refine lv_iload_n hx hb dd_P_readPower_39 rfl (lv_at hl 0 rfl) ?_
        refine lv_iload_n hx hb dd_P_readPower_40 rfl (lv_at hl 2 rfl) ?_
        refine lv_icmp_le (tgt := 55) hx hb dd_P_readPower_41 rfl (fun h41 => ?_) (fun h41 => ?_)
        · refine lv_aload_n hx hb dd_P_readPower_55 rfl (lv_at hl 1 rfl) ?_
          refine lv_dup hx hb dd_P_readPower_56 rfl ?_
          refine va_get (D := D) (ci := 4) (v := .int (nI (pl + 1))) (C := RR_P) (T := TT_P) (N := 7) hx hb hts (fun w h => List.mem_cons_of_mem _ (in_P w h)) hown hK hP 0 rfl rfl 2 (by decide) (hts _ (List.mem_cons_of_mem _ wd_37)) (fun _ h9 => h9) rfl dd_P_readPower_57 ?_
          refine lv_iconst (v := nI 1) hx hb dd_P_readPower_60 (by decide) ?_
          refine bo_iadd hx hb dd_P_readPower_61 ?_
          refine va_put (D := D) (ci := 4) (v := .int (nI ((pl + 1) + 1))) (ty := .int) (C := RR_P) (T := TT_P) (N := 7) hx hb hts (fun w h => List.mem_cons_of_mem _ (in_P w h)) tt_P ty_P nm_P hown hK hP hD hS 0 rfl rfl 2 (by decide) (hts _ (List.mem_cons_of_mem _ wd_37)) (fun _ h9 => h9) rfl (by decide +kernel) rfl rfl (Nat.le_of_ble_eq_true rfl) dd_P_readPower_62 (fun H locs hP hD hS => ?_)
          have hP : va_P D bo_cl [(pa, .inr (4, [.ref tp, .int (nI ln), .int (nI ((pl + 1) + 1)), .int fl, .int (nI ab), .int (nI bw), .ref fpa])), (tp, .inl (cB, 240, .inl (fun i => nI (tb i))))] H := hP
          have hD : va_D A [(pa, .inr (4, [.ref tp, .int (nI ln), .int (nI ((pl + 1) + 1)), .int fl, .int (nI ab), .int (nI bw), .ref fpa])), (tp, .inl (cB, 240, .inl (fun i => nI (tb i))))] := hD
          refine lv_iload_n hx hb dd_P_readPower_65 rfl (lv_at hl 0 rfl) ?_
          have hP9 := hP.sub (ws' := [(pa, .inr (4, [.ref tp, .int (nI ln), .int (nI ((pl + 1) + 1)), .int fl, .int (nI ab), .int (nI bw), .ref fpa])), (tp, .inl (cB, 240, .inl (fun i => nI (tb i))))]) [0, 1] rfl
          have hD9 := hD.sub (ws' := [(pa, .inr (4, [.ref tp, .int (nI ln), .int (nI ((pl + 1) + 1)), .int fl, .int (nI ab), .int (nI bw), .ref fpa])), (tp, .inl (cB, 240, .inl (fun i => nI (tb i))))]) [0, 1] (by decide) rfl
          exact hret ((pl + 1) + 1, fl) _ _ _ _ _ hP9 hD9 hS (by exact rpQ_3 h6 hs8 hro e28 (fun q => q.elim h31 (fun q => q.elim h36 (fun q => q h41))) (see_lt (tb := tb) (rp_ok hs8 hro e28 (fun q => q.elim h31 (fun q => q.elim h36 (fun q => q h41)))))) dd_P_readPower_66
        · refine lv_aload_n hx hb dd_P_readPower_44 rfl (lv_at hl 1 rfl) ?_
          refine lv_aload_n hx hb dd_P_readPower_45 rfl (lv_at hl 1 rfl) ?_
          refine va_get (D := D) (ci := 4) (v := .int (nI (pl + 1))) (C := RR_P) (T := TT_P) (N := 7) hx hb hts (fun w h => List.mem_cons_of_mem _ (in_P w h)) hown hK hP 0 rfl rfl 2 (by decide) (hts _ (List.mem_cons_of_mem _ wd_37)) (fun _ h9 => h9) rfl dd_P_readPower_46 ?_
          refine bo_goi (wr := [(tp, .inl (cB, 240, .inl (fun i => nI (tb i))))]) (bo_rV (c_P_faultAt (l := l) (D := D) (cJ := cJ) (cI := cI) (cB := cB) (cY := cY) pa tp ln (pl + 1) ab bw fpa fl (nI (pl + 1))  _) ⟨hx, hb, hml, hown, hts⟩ (cwV 1 hts (bo_gV wd_455 wd_457 wp_8 wd_2 wd_458) rfl rfl rfl hd_P_faultAt (by decide)) hK hP hD [0] rfl (by decide) 0 4 rfl rfl rfl rfl hl.1 rfl (Nat.le_of_ble_eq_true rfl) dd_P_readPower_49 (by decide)) hP hD hS hA [0] [1] rfl rfl (by decide) (by decide) (fun r_49 u H locs hu_49 hP hD hS => ?_)
          have hu_49 : r_49 = nI 0 := hu_49
          have hP : va_P D bo_cl [(tp, .inl (cB, 240, .inl (fun i => nI (tb i)))), (pa, .inr (4, [.ref tp, .int (nI ln), .int (nI (pl + 1)), .int (nI (pl + 1)), .int (nI ab), .int (nI bw), .ref fpa]))] H := hP
          have hD : va_D A [(tp, .inl (cB, 240, .inl (fun i => nI (tb i)))), (pa, .inr (4, [.ref tp, .int (nI ln), .int (nI (pl + 1)), .int (nI (pl + 1)), .int (nI ab), .int (nI bw), .ref fpa]))] := hD
          subst hu_49
          refine lv_pop hx hb dd_P_readPower_52 rfl ?_
          refine lv_iconst (v := -1) hx hb dd_P_readPower_53 (by decide) ?_
          have hP9 := hP.sub (ws' := [(pa, .inr (4, [.ref tp, .int (nI ln), .int (nI (pl + 1)), .int (nI (pl + 1)), .int (nI ab), .int (nI bw), .ref fpa])), (tp, .inl (cB, 240, .inl (fun i => nI (tb i))))]) [1, 0] rfl
          have hD9 := hD.sub (ws' := [(pa, .inr (4, [.ref tp, .int (nI ln), .int (nI (pl + 1)), .int (nI (pl + 1)), .int (nI ab), .int (nI bw), .ref fpa])), (tp, .inl (cB, 240, .inl (fun i => nI (tb i))))]) [1, 0] (by decide) rfl
          exact hret (pl + 1, nI (pl + 1)) _ _ _ _ _ hP9 hD9 hS (by first | exact rpQ_2 h6 hs8 hro e28 (Or.inl h31) | exact rpQ_2 h6 hs8 hro e28 (Or.inr (Or.inl h36)) | exact rpQ_2 h6 hs8 hro e28 (Or.inr (Or.inr h41))) dd_P_readPower_54
  · refine lv_iconst (v := nI 1) hx hb dd_P_readPower_9 (by decide) ?_
    have hP9 := hP.sub (ws' := [(pa, .inr (4, [.ref tp, .int (nI ln), .int (nI pl), .int fl, .int (nI ab), .int (nI bw), .ref fpa])), (tp, .inl (cB, 240, .inl (fun i => nI (tb i))))]) [0, 1] rfl
    have hD9 := hD.sub (ws' := [(pa, .inr (4, [.ref tp, .int (nI ln), .int (nI pl), .int fl, .int (nI ab), .int (nI bw), .ref fpa])), (tp, .inl (cB, 240, .inl (fun i => nI (tb i))))]) [0, 1] (by decide) rfl
    exact hret (pl, fl) _ _ _ _ _ hP9 hD9 hS (by exact rpQ_1 h6 hpl) dd_P_readPower_10

set_option maxHeartbeats 4000000 in
set_option maxRecDepth 100000 in
theorem c_P_readNumber {l : Launch} {D : va_G} {cJ cI cB cY : ClassId} (pa : Nat) (tp : Nat) (ln : Nat) (pl : Nat) (ab : Nat) (bw : Nat) (fpa : Nat) (fl : Int32) (tb : Nat → Nat) (hpl : pl ≤ ln) (hln : ln ≤ 240) (htb : ∀ i, tb i < 128) (hbw : bw = 1) :
    bo_i (S := Nat × Nat × Nat × Int32) l D bo_cl (bo_ty cJ cI cB cY) yy_P_readNumber (bo_w yy_P_readNumber bb_P_readNumber 2 (some .boolean)) (bo_rm 2 44) [.ref pa] [(pa, .inr (4, [.ref tp, .int (nI ln), .int (nI pl), .int fl, .int (nI ab), .int (nI bw), .ref fpa])), (tp, .inl (cB, 240, .inl (fun i => nI (tb i))))] (fun r u => rnQ (rN (see tb ln) pl) ln fl r u.1 u.2.1 u.2.2.1 u.2.2.2) (fun u => [(pa, .inr (4, [.ref tp, .int (nI ln), .int (nI u.1), .int u.2.2.2, .int (nI u.2.1), .int (nI u.2.2.1), .ref fpa])), (tp, .inl (cB, 240, .inl (fun i => nI (tb i))))]) := by
  refine bo_enter_z (cc := bb_P_readNumber) (maxL := 2) (by decide) rfl (Nat.le_of_ble_eq_true rfl) ?_
  intro p e s m args below meth c A ls Q hx hb hts hown hml hK hP hD hS hA hl hret
  have hl : lv_has ls 2 [(0, .ref pa)] := hl
  refine lv_aload_n hx hb dd_P_readNumber_0 rfl (lv_at hl 0 rfl) ?_
  refine lv_aload_n hx hb dd_P_readNumber_1 rfl (lv_at hl 0 rfl) ?_
  refine lv_iconst (v := nI 3) hx hb dd_P_readNumber_2 (by decide) ?_
  refine bo_goi (wr := []) (bo_rV (c_P_readDigits (l := l) (D := D) (cJ := cJ) (cI := cI) (cB := cB) (cY := cY) pa tp ln pl ab bw fpa fl tb 3 hpl hln htb (by decide) _) ⟨hx, hb, hml, hown, hts⟩ (cwV 1 hts (bo_gV wd_474 wd_476 wp_12 wd_2 wd_477) rfl rfl rfl hd_P_readDigits (by decide)) hK hP hD [0, 1] rfl (by decide) 0 4 rfl rfl rfl rfl hl.1 rfl (Nat.le_of_ble_eq_true rfl) dd_P_readNumber_3 (by decide)) hP hD hS hA [0, 1] [] rfl rfl (by decide) (by decide) (fun r_3 u H locs hu_3 hP hD hS => ?_)
  obtain ⟨pl1_3, rfl⟩ : ∃ z, z = u := ⟨_, rfl⟩
  have hu_3 : r_3 = nI (dgs (see tb ln) 3 pl 0).2 ∧ pl1_3 = (dgs (see tb ln) 3 pl 0).1 ∧ pl1_3 ≤ ln := hu_3
  have hP : va_P D bo_cl [(pa, .inr (4, [.ref tp, .int (nI ln), .int (nI pl1_3), .int fl, .int (nI ab), .int (nI bw), .ref fpa])), (tp, .inl (cB, 240, .inl (fun i => nI (tb i))))] H := hP
  have hD : va_D A [(pa, .inr (4, [.ref tp, .int (nI ln), .int (nI pl1_3), .int fl, .int (nI ab), .int (nI bw), .ref fpa])), (tp, .inl (cB, 240, .inl (fun i => nI (tb i))))] := hD
  obtain ⟨hr_3, hp_3, hq_3⟩ := hu_3
  have hy_3 : (dgs (see tb ln) 3 pl 0).2 < 10 ^ 8 := dgs_lt 3 _ _ (by decide) (by decide)
  obtain ⟨y3, ey_3⟩ : ∃ y, y = (dgs (see tb ln) 3 pl 0).2 := ⟨_, rfl⟩
  rw [← ey_3] at hr_3 hy_3
  subst hr_3
  have hd_3 : (pl1_3, y3) = dgs (see tb ln) 3 pl 0 := by rw [hp_3, ey_3]
  refine va_put (D := D) (ci := 4) (v := .int (nI y3)) (ty := .int) (C := RR_P) (T := TT_P) (N := 7) hx hb hts (fun w h => List.mem_cons_of_mem _ (in_P w h)) tt_P ty_P nm_P hown hK hP hD hS 0 rfl rfl 4 (by decide) (hts _ (List.mem_cons_of_mem _ wd_39)) (fun _ h9 => h9) rfl (by decide +kernel) rfl rfl (Nat.le_of_ble_eq_true rfl) dd_P_readNumber_6 (fun H locs hP hD hS => ?_)
  have hP : va_P D bo_cl [(pa, .inr (4, [.ref tp, .int (nI ln), .int (nI pl1_3), .int fl, .int (nI y3), .int (nI bw), .ref fpa])), (tp, .inl (cB, 240, .inl (fun i => nI (tb i))))] H := hP
  have hD : va_D A [(pa, .inr (4, [.ref tp, .int (nI ln), .int (nI pl1_3), .int fl, .int (nI y3), .int (nI bw), .ref fpa])), (tp, .inl (cB, 240, .inl (fun i => nI (tb i))))] := hD
  refine lv_aload_n hx hb dd_P_readNumber_9 rfl (lv_at hl 0 rfl) ?_
  refine bo_goi (wr := []) (bo_rV (c_P_here (l := l) (D := D) (cJ := cJ) (cI := cI) (cB := cB) (cY := cY) pa tp ln pl1_3 y3 bw fpa fl tb hq_3 hln htb _) ⟨hx, hb, hml, hown, hts⟩ (cwV 0 hts (bo_gV wd_451 wd_453 wp_7 wd_2 wd_454) rfl rfl rfl hd_P_here (by decide)) hK hP hD [0, 1] rfl (by decide) 0 4 rfl rfl rfl rfl hl.1 rfl (Nat.le_of_ble_eq_true rfl) dd_P_readNumber_10 (by decide)) hP hD hS hA [0, 1] [] rfl rfl (by decide) (by decide) (fun r_10 u H locs hu_10 hP hD hS => ?_)
  have hu_10 : r_10 = nI (see tb ln pl1_3) := hu_10
  have hP : va_P D bo_cl [(pa, .inr (4, [.ref tp, .int (nI ln), .int (nI pl1_3), .int fl, .int (nI y3), .int (nI bw), .ref fpa])), (tp, .inl (cB, 240, .inl (fun i => nI (tb i))))] H := hP
  have hD : va_D A [(pa, .inr (4, [.ref tp, .int (nI ln), .int (nI pl1_3), .int fl, .int (nI y3), .int (nI bw), .ref fpa])), (tp, .inl (cB, 240, .inl (fun i => nI (tb i))))] := hD
  subst hu_10
  refine lv_bipush (v := nI 47) hx hb dd_P_readNumber_13 (by decide) ?_
  refine bo_icmp_eq (tgt := 20) hx hb dd_P_readNumber_15 rfl (Nat.lt_trans (see_128 htb _ _) (by decide)) (by omega) (fun h15 => ?_) (fun h15 => ?_)
  · refine lv_aload_n hx hb dd_P_readNumber_20 rfl (lv_at hl 0 rfl) ?_
    refine lv_dup hx hb dd_P_readNumber_21 rfl ?_
    refine va_get (D := D) (ci := 4) (v := .int (nI pl1_3)) (C := RR_P) (T := TT_P) (N := 7) hx hb hts (fun w h => List.mem_cons_of_mem _ (in_P w h)) hown hK hP 0 rfl rfl 2 (by decide) (hts _ (List.mem_cons_of_mem _ wd_37)) (fun _ h9 => h9) rfl dd_P_readNumber_22 ?_
    refine lv_iconst (v := nI 1) hx hb dd_P_readNumber_25 (by decide) ?_
    refine bo_iadd hx hb dd_P_readNumber_26 ?_
    refine va_put (D := D) (ci := 4) (v := .int (nI (pl1_3 + 1))) (ty := .int) (C := RR_P) (T := TT_P) (N := 7) hx hb hts (fun w h => List.mem_cons_of_mem _ (in_P w h)) tt_P ty_P nm_P hown hK hP hD hS 0 rfl rfl 2 (by decide) (hts _ (List.mem_cons_of_mem _ wd_37)) (fun _ h9 => h9) rfl (by decide +kernel) rfl rfl (Nat.le_of_ble_eq_true rfl) dd_P_readNumber_27 (fun H locs hP hD hS => ?_)
    have hP : va_P D bo_cl [(pa, .inr (4, [.ref tp, .int (nI ln), .int (nI (pl1_3 + 1)), .int fl, .int (nI y3), .int (nI bw), .ref fpa])), (tp, .inl (cB, 240, .inl (fun i => nI (tb i))))] H := hP
    have hD : va_D A [(pa, .inr (4, [.ref tp, .int (nI ln), .int (nI (pl1_3 + 1)), .int fl, .int (nI y3), .int (nI bw), .ref fpa])), (tp, .inl (cB, 240, .inl (fun i => nI (tb i))))] := hD
    refine lv_aload_n hx hb dd_P_readNumber_30 rfl (lv_at hl 0 rfl) ?_
    refine va_get (D := D) (ci := 4) (v := .int (nI (pl1_3 + 1))) (C := RR_P) (T := TT_P) (N := 7) hx hb hts (fun w h => List.mem_cons_of_mem _ (in_P w h)) hown hK hP 0 rfl rfl 2 (by decide) (hts _ (List.mem_cons_of_mem _ wd_37)) (fun _ h9 => h9) rfl dd_P_readNumber_31 ?_
    refine lv_istore_n (lv' := [(1, .int (nI (pl1_3 + 1))), (0, .ref pa)]) hx hb dd_P_readNumber_34 rfl hl (by decide) rfl (fun ls hl => ?_)
    refine lv_aload_n hx hb dd_P_readNumber_35 rfl (lv_at hl 1 rfl) ?_
    refine bo_goi (wr := []) (bo_rV (c_P_here (l := l) (D := D) (cJ := cJ) (cI := cI) (cB := cB) (cY := cY) pa tp ln (pl1_3 + 1) y3 bw fpa fl tb (see_lt (tb := tb) (by omega)) hln htb _) ⟨hx, hb, hml, hown, hts⟩ (cwV 0 hts (bo_gV wd_451 wd_453 wp_7 wd_2 wd_454) rfl rfl rfl hd_P_here (by decide)) hK hP hD [0, 1] rfl (by decide) 0 4 rfl rfl rfl rfl hl.1 rfl (Nat.le_of_ble_eq_true rfl) dd_P_readNumber_36 (by decide)) hP hD hS hA [0, 1] [] rfl rfl (by decide) (by decide) (fun r_36 u H locs hu_36 hP hD hS => ?_)
    have hu_36 : r_36 = nI (see tb ln (pl1_3 + 1)) := hu_36
    have hP : va_P D bo_cl [(pa, .inr (4, [.ref tp, .int (nI ln), .int (nI (pl1_3 + 1)), .int fl, .int (nI y3), .int (nI bw), .ref fpa])), (tp, .inl (cB, 240, .inl (fun i => nI (tb i))))] H := hP
    have hD : va_D A [(pa, .inr (4, [.ref tp, .int (nI ln), .int (nI (pl1_3 + 1)), .int fl, .int (nI y3), .int (nI bw), .ref fpa])), (tp, .inl (cB, 240, .inl (fun i => nI (tb i))))] := hD
    subst hu_36
    refine bo_goi (wr := [(pa, .inr (4, [.ref tp, .int (nI ln), .int (nI (pl1_3 + 1)), .int fl, .int (nI y3), .int (nI bw), .ref fpa])), (tp, .inl (cB, 240, .inl (fun i => nI (tb i))))]) (bo_rS (c_P_isDigit (l := l) (D := D) (cJ := cJ) (cI := cI) (cB := cB) (cY := cY) (see tb ln (pl1_3 + 1)) (Nat.lt_trans (see_128 htb _ _) (by decide)) _) ⟨hx, hb, hml, hown, hts⟩ (cwS 1 hts (bo_gS wd_467 wd_468 wd_2 wd_469) rfl rfl rfl hd_P_isDigit (by decide)) hK hP hD [] rfl (by decide) rfl hl.1 rfl (Nat.le_of_ble_eq_true rfl) dd_P_readNumber_39 (by decide)) hP hD hS hA [] [0, 1] rfl rfl (by decide) (by decide) (fun r_39 u H locs hu_39 hP hD hS => ?_)
    have hu_39 : r_39 = bI (dig (see tb ln (pl1_3 + 1))) := hu_39
    have hP : va_P D bo_cl [(pa, .inr (4, [.ref tp, .int (nI ln), .int (nI (pl1_3 + 1)), .int fl, .int (nI y3), .int (nI bw), .ref fpa])), (tp, .inl (cB, 240, .inl (fun i => nI (tb i))))] H := hP
    have hD : va_D A [(pa, .inr (4, [.ref tp, .int (nI ln), .int (nI (pl1_3 + 1)), .int fl, .int (nI y3), .int (nI bw), .ref fpa])), (tp, .inl (cB, 240, .inl (fun i => nI (tb i))))] := hD
    subst hu_39
    refine lv_if_ne (tgt := 54) hx hb dd_P_readNumber_42 rfl (fun h42 => ?_) (fun h42 => ?_)
    · refine lv_aload_n hx hb dd_P_readNumber_54 rfl (lv_at hl 1 rfl) ?_
      refine lv_aload_n hx hb dd_P_readNumber_55 rfl (lv_at hl 1 rfl) ?_
      refine lv_iconst (v := nI 2) hx hb dd_P_readNumber_56 (by decide) ?_
      refine bo_goi (wr := []) (bo_rV (c_P_readDigits (l := l) (D := D) (cJ := cJ) (cI := cI) (cB := cB) (cY := cY) pa tp ln (pl1_3 + 1) y3 bw fpa fl tb 2 (see_lt (tb := tb) (by omega)) hln htb (by decide) _) ⟨hx, hb, hml, hown, hts⟩ (cwV 1 hts (bo_gV wd_474 wd_476 wp_12 wd_2 wd_477) rfl rfl rfl hd_P_readDigits (by decide)) hK hP hD [0, 1] rfl (by decide) 0 4 rfl rfl rfl rfl hl.1 rfl (Nat.le_of_ble_eq_true rfl) dd_P_readNumber_57 (by decide)) hP hD hS hA [0, 1] [] rfl rfl (by decide) (by decide) (fun r_57 u H locs hu_57 hP hD hS => ?_)
      obtain ⟨pl1_57, rfl⟩ : ∃ z, z = u := ⟨_, rfl⟩
      have hu_57 : r_57 = nI (dgs (see tb ln) 2 (pl1_3 + 1) 0).2 ∧ pl1_57 = (dgs (see tb ln) 2 (pl1_3 + 1) 0).1 ∧ pl1_57 ≤ ln := hu_57
      have hP : va_P D bo_cl [(pa, .inr (4, [.ref tp, .int (nI ln), .int (nI pl1_57), .int fl, .int (nI y3), .int (nI bw), .ref fpa])), (tp, .inl (cB, 240, .inl (fun i => nI (tb i))))] H := hP
      have hD : va_D A [(pa, .inr (4, [.ref tp, .int (nI ln), .int (nI pl1_57), .int fl, .int (nI y3), .int (nI bw), .ref fpa])), (tp, .inl (cB, 240, .inl (fun i => nI (tb i))))] := hD
      obtain ⟨hr_57, hp_57, hq_57⟩ := hu_57
      have hy_57 : (dgs (see tb ln) 2 (pl1_3 + 1) 0).2 < 10 ^ 8 := dgs_lt 2 _ _ (by decide) (by decide)
      obtain ⟨y57, ey_57⟩ : ∃ y, y = (dgs (see tb ln) 2 (pl1_3 + 1) 0).2 := ⟨_, rfl⟩
      rw [← ey_57] at hr_57 hy_57
      subst hr_57
      have hd_57 : (pl1_57, y57) = dgs (see tb ln) 2 (pl1_3 + 1) 0 := by rw [hp_57, ey_57]
      refine va_put (D := D) (ci := 4) (v := .int (nI y57)) (ty := .int) (C := RR_P) (T := TT_P) (N := 7) hx hb hts (fun w h => List.mem_cons_of_mem _ (in_P w h)) tt_P ty_P nm_P hown hK hP hD hS 0 rfl rfl 5 (by decide) (hts _ (List.mem_cons_of_mem _ wd_40)) (fun _ h9 => h9) rfl (by decide +kernel) rfl rfl (Nat.le_of_ble_eq_true rfl) dd_P_readNumber_60 (fun H locs hP hD hS => ?_)
      have hP : va_P D bo_cl [(pa, .inr (4, [.ref tp, .int (nI ln), .int (nI pl1_57), .int fl, .int (nI y3), .int (nI y57), .ref fpa])), (tp, .inl (cB, 240, .inl (fun i => nI (tb i))))] H := hP
      have hD : va_D A [(pa, .inr (4, [.ref tp, .int (nI ln), .int (nI pl1_57), .int fl, .int (nI y3), .int (nI y57), .ref fpa])), (tp, .inl (cB, 240, .inl (fun i => nI (tb i))))] := hD
      refine lv_aload_n hx hb dd_P_readNumber_63 rfl (lv_at hl 1 rfl) ?_
      refine va_get (D := D) (ci := 4) (v := .int (nI y57)) (C := RR_P) (T := TT_P) (N := 7) hx hb hts (fun w h => List.mem_cons_of_mem _ (in_P w h)) hown hK hP 0 rfl rfl 5 (by decide) (hts _ (List.mem_cons_of_mem _ wd_40)) (fun _ h9 => h9) rfl dd_P_readNumber_64 ?_
      refine bo_if_ne (tgt := 78) hx hb dd_P_readNumber_67 rfl (by omega) (fun h67 => ?_) (fun h67 => ?_)
      · refine lv_iconst (v := nI 1) hx hb dd_P_readNumber_78 (by decide) ?_
        refine lv_goto (tgt := 83) hx hb dd_P_readNumber_79 rfl ?_
        have hP9 := hP.sub (ws' := [(pa, .inr (4, [.ref tp, .int (nI ln), .int (nI pl1_57), .int fl, .int (nI y3), .int (nI y57), .ref fpa])), (tp, .inl (cB, 240, .inl (fun i => nI (tb i))))]) [0, 1] rfl
        have hD9 := hD.sub (ws' := [(pa, .inr (4, [.ref tp, .int (nI ln), .int (nI pl1_57), .int fl, .int (nI y3), .int (nI y57), .ref fpa])), (tp, .inl (cB, 240, .inl (fun i => nI (tb i))))]) [0, 1] (by decide) rfl
        exact hret (pl1_57, y3, y57, fl) _ _ _ _ _ (Or.inr rfl) hP9 hD9 hS (by have hdg : dig (see tb ln (pl1_3 + 1)) = true := (by cases hq : dig (see tb ln (pl1_3 + 1)) with | true => rfl | false => exact absurd (by rw [hq]; rfl) h42); first | exact absurd rfl h75 | exact rnQ_d hd_3 h15 hdg hd_57 h67 hq_57 | exact rnQ_c hd_3 h15 hdg hd_57 h67) dd_P_readNumber_83
      · refine lv_aload_n hx hb dd_P_readNumber_70 rfl (lv_at hl 1 rfl) ?_
        refine lv_iload_n hx hb dd_P_readNumber_71 rfl (lv_at hl 0 rfl) ?_
        refine bo_goi (wr := [(tp, .inl (cB, 240, .inl (fun i => nI (tb i))))]) (bo_rV (c_P_faultAt (l := l) (D := D) (cJ := cJ) (cI := cI) (cB := cB) (cY := cY) pa tp ln pl1_57 y3 y57 fpa fl (nI (pl1_3 + 1))  _) ⟨hx, hb, hml, hown, hts⟩ (cwV 1 hts (bo_gV wd_455 wd_457 wp_8 wd_2 wd_458) rfl rfl rfl hd_P_faultAt (by decide)) hK hP hD [0] rfl (by decide) 0 4 rfl rfl rfl rfl hl.1 rfl (Nat.le_of_ble_eq_true rfl) dd_P_readNumber_72 (by decide)) hP hD hS hA [0] [1] rfl rfl (by decide) (by decide) (fun r_72 u H locs hu_72 hP hD hS => ?_)
        have hu_72 : r_72 = nI 0 := hu_72
        have hP : va_P D bo_cl [(tp, .inl (cB, 240, .inl (fun i => nI (tb i)))), (pa, .inr (4, [.ref tp, .int (nI ln), .int (nI pl1_57), .int (nI (pl1_3 + 1)), .int (nI y3), .int (nI y57), .ref fpa]))] H := hP
        have hD : va_D A [(tp, .inl (cB, 240, .inl (fun i => nI (tb i)))), (pa, .inr (4, [.ref tp, .int (nI ln), .int (nI pl1_57), .int (nI (pl1_3 + 1)), .int (nI y3), .int (nI y57), .ref fpa]))] := hD
        subst hu_72
        refine bo_if_eq (tgt := 82) hx hb dd_P_readNumber_75 rfl (by omega) (fun h75 => ?_) (fun h75 => ?_)
        · refine lv_iconst (v := nI 0) hx hb dd_P_readNumber_82 (by decide) ?_
          have hP9 := hP.sub (ws' := [(pa, .inr (4, [.ref tp, .int (nI ln), .int (nI pl1_57), .int (nI (pl1_3 + 1)), .int (nI y3), .int (nI y57), .ref fpa])), (tp, .inl (cB, 240, .inl (fun i => nI (tb i))))]) [1, 0] rfl
          have hD9 := hD.sub (ws' := [(pa, .inr (4, [.ref tp, .int (nI ln), .int (nI pl1_57), .int (nI (pl1_3 + 1)), .int (nI y3), .int (nI y57), .ref fpa])), (tp, .inl (cB, 240, .inl (fun i => nI (tb i))))]) [1, 0] (by decide) rfl
          exact hret (pl1_57, y3, y57, nI (pl1_3 + 1)) _ _ _ _ _ (Or.inl rfl) hP9 hD9 hS (by have hdg : dig (see tb ln (pl1_3 + 1)) = true := (by cases hq : dig (see tb ln (pl1_3 + 1)) with | true => rfl | false => exact absurd (by rw [hq]; rfl) h42); first | exact absurd rfl h75 | exact rnQ_d hd_3 h15 hdg hd_57 h67 hq_57 | exact rnQ_c hd_3 h15 hdg hd_57 h67) dd_P_readNumber_83
        · refine lv_iconst (v := nI 1) hx hb dd_P_readNumber_78 (by decide) ?_
          refine lv_goto (tgt := 83) hx hb dd_P_readNumber_79 rfl ?_
          have hP9 := hP.sub (ws' := [(pa, .inr (4, [.ref tp, .int (nI ln), .int (nI pl1_57), .int (nI (pl1_3 + 1)), .int (nI y3), .int (nI y57), .ref fpa])), (tp, .inl (cB, 240, .inl (fun i => nI (tb i))))]) [1, 0] rfl
          have hD9 := hD.sub (ws' := [(pa, .inr (4, [.ref tp, .int (nI ln), .int (nI pl1_57), .int (nI (pl1_3 + 1)), .int (nI y3), .int (nI y57), .ref fpa])), (tp, .inl (cB, 240, .inl (fun i => nI (tb i))))]) [1, 0] (by decide) rfl
          exact hret (pl1_57, y3, y57, nI (pl1_3 + 1)) _ _ _ _ _ (Or.inr rfl) hP9 hD9 hS (by have hdg : dig (see tb ln (pl1_3 + 1)) = true := (by cases hq : dig (see tb ln (pl1_3 + 1)) with | true => rfl | false => exact absurd (by rw [hq]; rfl) h42); first | exact absurd rfl h75 | exact rnQ_d hd_3 h15 hdg hd_57 h67 hq_57 | exact rnQ_c hd_3 h15 hdg hd_57 h67) dd_P_readNumber_83
    · refine lv_aload_n hx hb dd_P_readNumber_45 rfl (lv_at hl 1 rfl) ?_
      refine lv_aload_n hx hb dd_P_readNumber_46 rfl (lv_at hl 1 rfl) ?_
      refine va_get (D := D) (ci := 4) (v := .int (nI (pl1_3 + 1))) (C := RR_P) (T := TT_P) (N := 7) hx hb hts (fun w h => List.mem_cons_of_mem _ (in_P w h)) hown hK hP 0 rfl rfl 2 (by decide) (hts _ (List.mem_cons_of_mem _ wd_37)) (fun _ h9 => h9) rfl dd_P_readNumber_47 ?_
      refine bo_goi (wr := [(tp, .inl (cB, 240, .inl (fun i => nI (tb i))))]) (bo_rV (c_P_faultAt (l := l) (D := D) (cJ := cJ) (cI := cI) (cB := cB) (cY := cY) pa tp ln (pl1_3 + 1) y3 bw fpa fl (nI (pl1_3 + 1))  _) ⟨hx, hb, hml, hown, hts⟩ (cwV 1 hts (bo_gV wd_455 wd_457 wp_8 wd_2 wd_458) rfl rfl rfl hd_P_faultAt (by decide)) hK hP hD [0] rfl (by decide) 0 4 rfl rfl rfl rfl hl.1 rfl (Nat.le_of_ble_eq_true rfl) dd_P_readNumber_50 (by decide)) hP hD hS hA [0] [1] rfl rfl (by decide) (by decide) (fun r_50 u H locs hu_50 hP hD hS => ?_)
      have hu_50 : r_50 = nI 0 := hu_50
      have hP : va_P D bo_cl [(tp, .inl (cB, 240, .inl (fun i => nI (tb i)))), (pa, .inr (4, [.ref tp, .int (nI ln), .int (nI (pl1_3 + 1)), .int (nI (pl1_3 + 1)), .int (nI y3), .int (nI bw), .ref fpa]))] H := hP
      have hD : va_D A [(tp, .inl (cB, 240, .inl (fun i => nI (tb i)))), (pa, .inr (4, [.ref tp, .int (nI ln), .int (nI (pl1_3 + 1)), .int (nI (pl1_3 + 1)), .int (nI y3), .int (nI bw), .ref fpa]))] := hD
      subst hu_50
      have hP9 := hP.sub (ws' := [(pa, .inr (4, [.ref tp, .int (nI ln), .int (nI (pl1_3 + 1)), .int (nI (pl1_3 + 1)), .int (nI y3), .int (nI bw), .ref fpa])), (tp, .inl (cB, 240, .inl (fun i => nI (tb i))))]) [1, 0] rfl
      have hD9 := hD.sub (ws' := [(pa, .inr (4, [.ref tp, .int (nI ln), .int (nI (pl1_3 + 1)), .int (nI (pl1_3 + 1)), .int (nI y3), .int (nI bw), .ref fpa])), (tp, .inl (cB, 240, .inl (fun i => nI (tb i))))]) [1, 0] (by decide) rfl
      exact hret (pl1_3 + 1, y3, bw, nI (pl1_3 + 1)) _ _ _ _ _ (Or.inl rfl) hP9 hD9 hS (by exact rnQ_b hd_3 h15 (fun q => by rw [q] at h42; exact absurd h42 (by decide))) dd_P_readNumber_53
  · refine lv_iconst (v := nI 1) hx hb dd_P_readNumber_18 (by decide) ?_
    have hP9 := hP.sub (ws' := [(pa, .inr (4, [.ref tp, .int (nI ln), .int (nI pl1_3), .int fl, .int (nI y3), .int (nI bw), .ref fpa])), (tp, .inl (cB, 240, .inl (fun i => nI (tb i))))]) [0, 1] rfl
    have hD9 := hD.sub (ws' := [(pa, .inr (4, [.ref tp, .int (nI ln), .int (nI pl1_3), .int fl, .int (nI y3), .int (nI bw), .ref fpa])), (tp, .inl (cB, 240, .inl (fun i => nI (tb i))))]) [0, 1] (by decide) rfl
    exact hret (pl1_3, y3, bw, fl) _ _ _ _ _ (Or.inr rfl) hP9 hD9 hS (by rw [hbw]; exact rnQ_a hd_3 h15 hq_3) dd_P_readNumber_19
