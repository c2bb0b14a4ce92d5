def rH (sv : Nat → Nat) (pl : Nat) : Except Nat (Nat × Nat × Nat) := if dig (sv pl) = true then rN sv pl else if 120 ≤ sv pl ∧ sv pl ≤ 122 then .ok (pl, 1, 1) else .error pl
abbrev rtT : Type := Except Nat (Nat × (Nat → Int64) × (Nat → Int64) × (Nat → Nat) × (Nat → Int32))
def rT (sv : Nat → Nat) (pl : Nat) (ng : Int32) (nt : Nat) (f g : Nat → Int64) (pw : Nat → Nat) (fp : Nat → Int32) : rtT := match rH sv pl with
  | .error e1 => .error e1
  | .ok (p1, a1, b1) => match rF sv ((nt + 1 - 1) * 3) 7 p1 6 (pw_new pw nt) fp with
    | .error e1 => .error e1
    | .ok (p2, w2, f2) => .ok (p2, vp_updL f nt (if ng = 0 then tn_lo a1 b1 else -tn_hi a1 b1), vp_updL g nt (if ng = 0 then tn_hi a1 b1 else -tn_lo a1 b1), w2, f2)
def rtQ (res : rtT) (ln nt : Nat) (fl r : Int32) (pl1 : Nat) (fl1 : Int32) (nt1 : Nat) (f1 g1 : Nat → Int64) (pw1 : Nat → Nat) (fp1 : Nat → Int32) : Prop := match res with
  | .ok (p2, x2, y2, w2, z2) => r = nI 1 ∧ pl1 = p2 ∧ fl1 = fl ∧ nt1 = nt + 1 ∧ f1 = x2 ∧ g1 = y2 ∧ pw1 = w2 ∧ fp1 = z2 ∧ p2 ≤ ln
  | .error e1 => r = nI 0 ∧ fl1 = nI e1
theorem toL_ne0 {k : Nat} (h : 0 < k ∧ k < 2 ^ 31) : ¬ (nI k).toInt64 = 0 := by
  rw [nI_l h.2]
  intro q
  have h1 := lN_toInt h.2
  rw [q] at h1
  have h2 : (0 : Int64).toInt = 0 := by decide
  omega
theorem rN_ok {tb : Nat → Nat} {ln pl p1 a1 b1 : Nat} (h : rN (see tb ln) pl = .ok (p1, a1, b1)) : 0 < b1 ∧ b1 < 2 ^ 31 := by
  unfold rN at h
  split at h
  · split at h
    · split at h
      · cases h
      · rename_i h3
        have h4 : (dgs (see tb ln) 2 ((dgs (see tb ln) 3 pl 0).1 + 1) 0).2 < 10 ^ 8 := dgs_lt 2 _ _ (by decide) (by decide)
        cases h
        omega
    · cases h
  · cases h
    omega
theorem bI_f {w : Int32} {b : Bool} (h : w = bI b) (h0 : w = 0) : b = false := (bI_eq0 b).mp (h ▸ h0)
theorem bI_t {w : Int32} {b : Bool} (h : w = bI b) (h0 : ¬ w = 0) : b = true := by
  cases hb : b with
  | true => rfl
  | false => exact absurd (h.trans ((bI_eq0 b).mpr hb)) h0
theorem rH_a {sv : Nat → Nat} {pl : Nat} {w : Int32} (h : w = bI (dig (sv pl))) (h0 : w = 0) (hl : ¬ ltI (sv pl) = -1) : rH sv pl = .ok (pl, 1, 1) := by
  obtain ⟨v, h1, h2, -⟩ := lt_n rfl hl
  unfold rH
  rw [if_neg (by rw [bI_f h h0]; decide), if_pos (by omega)]
theorem rH_e {sv : Nat → Nat} {pl : Nat} {w : Int32} (h : w = bI (dig (sv pl))) (h0 : w = 0) (hl : ltI (sv pl) = -1) : rH sv pl = .error pl := by
  unfold rH
  rw [if_neg (by rw [bI_f h h0]; decide), if_neg (lt_no rfl hl)]
theorem rH_b {tb : Nat → Nat} {ln pl pl1 ab1 bw1 : Nat} {w fl r fl1 : Int32} (h : w = bI (dig (see tb ln pl))) (h0 : ¬ w = 0) (hq : rnQ (rN (see tb ln) pl) ln fl r pl1 ab1 bw1 fl1) (hr : ¬ r = 0) : rH (see tb ln) pl = .ok (pl1, ab1, bw1) ∧ fl1 = fl ∧ pl1 ≤ ln ∧ (0 < bw1 ∧ bw1 < 2 ^ 31) := by
  unfold rH
  rw [if_pos (bI_t h h0)]
  cases hres : rN (see tb ln) pl with
  | error e1 =>
    rw [hres] at hq
    exact absurd (hq.1.trans nI_0) hr
  | ok z =>
    obtain ⟨p1, a1, b1⟩ := z
    have hb := rN_ok hres
    rw [hres] at hq
    obtain ⟨-, q1, q2, q3, q4, q5⟩ := hq
    subst q1; subst q2; subst q3
    exact ⟨rfl, q4, q5, hb⟩
theorem rH_c {sv : Nat → Nat} {ln pl pl1 ab1 bw1 : Nat} {w fl r fl1 : Int32} (h : w = bI (dig (sv pl))) (h0 : ¬ w = 0) (hq : rnQ (rN sv pl) ln fl r pl1 ab1 bw1 fl1) (hr : r = 0) : ∃ e1, rH sv pl = .error e1 ∧ fl1 = nI e1 := by
  unfold rH
  rw [if_pos (bI_t h h0)]
  cases hres : rN sv pl with
  | error e1 =>
    rw [hres] at hq
    exact ⟨e1, rfl, hq.2⟩
  | ok z =>
    obtain ⟨p1, a1, b1⟩ := z
    rw [hres] at hq
    exact absurd (hq.1.symm.trans hr) (by decide)
theorem rtQ_e {sv : Nat → Nat} {pl nt ln pl1 nt1 e1 : Nat} {ng fl : Int32} {f g f1 g1 : Nat → Int64} {pw pw1 : Nat → Nat} {fp fp1 : Nat → Int32} (h : rH sv pl = .error e1) : rtQ (rT sv pl ng nt f g pw fp) ln nt fl (nI 0) pl1 (nI e1) nt1 f1 g1 pw1 fp1 := by
  unfold rT
  rw [h]
  exact ⟨rfl, rfl⟩
theorem rfQ_01 {T : rfT} {ln pl1 : Nat} {fl r fl1 : Int32} {pw1 : Nat → Nat} {fp1 : Nat → Int32} (h : rfQ T ln fl r pl1 fl1 pw1 fp1) : r = 0 ∨ r = 1 := by
  cases T with
  | error e1 => exact Or.inl h.1
  | ok z => obtain ⟨a1, a2, a3⟩ := z; exact Or.inr h.1
theorem rtQ_f {sv : Nat → Nat} {pl nt ln p1 a1 b1 pl1 : Nat} {ng fl r fl1 : Int32} {f g : Nat → Int64} {pw pw1 : Nat → Nat} {fp fp1 : Nat → Int32} (h : rH sv pl = .ok (p1, a1, b1)) (hq : rfQ (rF sv ((nt + 1 - 1) * 3) 7 p1 6 (pw_new pw nt) fp) ln fl r pl1 fl1 pw1 fp1) :
    rtQ (rT sv pl ng nt f g pw fp) ln nt fl r pl1 fl1 (nt + 1) (vp_updL f nt (if ng = 0 then tn_lo a1 b1 else -tn_hi a1 b1)) (vp_updL g nt (if ng = 0 then tn_hi a1 b1 else -tn_lo a1 b1)) pw1 fp1 := by
  unfold rT
  rw [h]
  simp only
  cases hres : rF sv ((nt + 1 - 1) * 3) 7 p1 6 (pw_new pw nt) fp with
  | error e1 =>
    rw [hres] at hq
    exact hq
  | ok z =>
    obtain ⟨z1, z2, z3⟩ := z
    rw [hres] at hq
    obtain ⟨q1, q2, q3, q4, q5, q6⟩ := hq
    exact ⟨q1, q2, q3, rfl, rfl, rfl, q4, q5, q6⟩
set_option maxHeartbeats 4000000 in
set_option maxRecDepth 100000 in
theorem c_P_readTerm {l : Launch} {D : va_G} {cJ cI cB cY : ClassId} (pa : Nat) (tp : Nat) (ln : Nat) (pl : Nat) (ab : Nat) (bw : Nat) (fpa : Nat) (fl : Int32) (tb : Nat → Nat) (fp : Nat → Int32) (y : Nat) (yr : Nat) (yl : Nat) (yh : Nat) (yp : Nat) (nt : Nat) (f : Nat → Int64) (g : Nat → Int64) (pw : Nat → Nat) (ng : Int32) (hpl : pl ≤ ln) (hln : ln ≤ 240) (htb : ∀ i, tb i < 128) (hnt : nt < 12) :
    bo_i (S := Nat × Int32 × Nat × Nat × Nat × (Nat → Int64) × (Nat → Int64) × (Nat → Nat) × (Nat → Int32)) l D bo_cl (bo_ty cJ cI cB cY) yy_P_readTerm (bo_w yy_P_readTerm bb_P_readTerm 4 (some .boolean)) (bo_rm 3 68) [.ref pa, .ref y, .int ng] [(pa, .inr (4, [.ref tp, .int (nI ln), .int (nI pl), .int fl, .int (nI ab), .int (nI bw), .ref fpa])), (tp, .inl (cB, 240, .inl (fun i => nI (tb i)))), (fpa, .inl (cI, 3, .inl fp)), (y, .inr (5, [.ref yr, .ref yp, .int (nI nt)])), (yr, .inr (7, [.ref yl, .ref yh])), (yl, .inl (cJ, 12, .inr (.inl f))), (yh, .inl (cJ, 12, .inr (.inl g))), (yp, .inl (cI, 36, .inl (fun i => nI (pw i))))] (fun r u => rtQ (rT (see tb ln) pl ng nt f g pw fp) ln nt fl r u.1 u.2.1 u.2.2.2.2.1 u.2.2.2.2.2.1 u.2.2.2.2.2.2.1 u.2.2.2.2.2.2.2.1 u.2.2.2.2.2.2.2.2) (fun u => [(pa, .inr (4, [.ref tp, .int (nI ln), .int (nI u.1), .int u.2.1, .int (nI u.2.2.1), .int (nI u.2.2.2.1), .ref fpa])), (tp, .inl (cB, 240, .inl (fun i => nI (tb i)))), (fpa, .inl (cI, 3, .inl u.2.2.2.2.2.2.2.2)), (y, .inr (5, [.ref yr, .ref yp, .int (nI u.2.2.2.2.1)])), (yr, .inr (7, [.ref yl, .ref yh])), (yl, .inl (cJ, 12, .inr (.inl u.2.2.2.2.2.1))), (yh, .inl (cJ, 12, .inr (.inl u.2.2.2.2.2.2.1))), (yp, .inl (cI, 36, .inl (fun i => nI (u.2.2.2.2.2.2.2.1 i))))]) := by
  refine bo_enter_z (cc := bb_P_readTerm) (maxL := 4) (by decide) rfl (Nat.le_of_ble_eq_true rfl) ?_
  intro p e s m args below meth c A ls Q hx hb hts hown hml hK hP hD hS hA hl hret
  have hl : lv_has ls 4 [(0, .ref pa), (1, .ref y), (2, .int ng)] := hl
  refine lv_aload_n hx hb dd_P_readTerm_0 rfl (lv_at hl 0 rfl) ?_
  refine lv_iconst (v := nI 1) hx hb dd_P_readTerm_1 (by decide) ?_
  refine va_put (D := D) (ci := 4) (v := .int (nI 1)) (ty := .int) (C := RR_P) (T := TT_P) (N := 7) hx hb hts (fun w h => List.mem_cons_of_mem _ (in_P w h)) tt_P ty_P nm_P hown hK hP hD hS 0 rfl rfl 4 (by decide) (hts _ (List.mem_cons_of_mem _ wd_39)) (fun _ h9 => h9) rfl (by decide +kernel) rfl rfl (Nat.le_of_ble_eq_true rfl) dd_P_readTerm_2 (fun H locs hP hD hS => ?_)
  have hP : va_P D bo_cl [(pa, .inr (4, [.ref tp, .int (nI ln), .int (nI pl), .int fl, .int (nI 1), .int (nI bw), .ref fpa])), (tp, .inl (cB, 240, .inl (fun i => nI (tb i)))), (fpa, .inl (cI, 3, .inl fp)), (y, .inr (5, [.ref yr, .ref yp, .int (nI nt)])), (yr, .inr (7, [.ref yl, .ref yh])), (yl, .inl (cJ, 12, .inr (.inl f))), (yh, .inl (cJ, 12, .inr (.inl g))), (yp, .inl (cI, 36, .inl (fun i => nI (pw i))))] H := hP
  have hD : va_D A [(pa, .inr (4, [.ref tp, .int (nI ln), .int (nI pl), .int fl, .int (nI 1), .int (nI bw), .ref fpa])), (tp, .inl (cB, 240, .inl (fun i => nI (tb i)))), (fpa, .inl (cI, 3, .inl fp)), (y, .inr (5, [.ref yr, .ref yp, .int (nI nt)])), (yr, .inr (7, [.ref yl, .ref yh])), (yl, .inl (cJ, 12, .inr (.inl f))), (yh, .inl (cJ, 12, .inr (.inl g))), (yp, .inl (cI, 36, .inl (fun i => nI (pw i))))] := hD
  refine lv_aload_n hx hb dd_P_readTerm_5 rfl (lv_at hl 0 rfl) ?_
  refine lv_iconst (v := nI 1) hx hb dd_P_readTerm_6 (by decide) ?_
  refine va_put (D := D) (ci := 4) (v := .int (nI 1)) (ty := .int) (C := RR_P) (T := TT_P) (N := 7) hx hb hts (fun w h => List.mem_cons_of_mem _ (in_P w h)) tt_P ty_P nm_P hown hK hP hD hS 0 rfl rfl 5 (by decide) (hts _ (List.mem_cons_of_mem _ wd_40)) (fun _ h9 => h9) rfl (by decide +kernel) rfl rfl (Nat.le_of_ble_eq_true rfl) dd_P_readTerm_7 (fun H locs hP hD hS => ?_)
  have hP : va_P D bo_cl [(pa, .inr (4, [.ref tp, .int (nI ln), .int (nI pl), .int fl, .int (nI 1), .int (nI 1), .ref fpa])), (tp, .inl (cB, 240, .inl (fun i => nI (tb i)))), (fpa, .inl (cI, 3, .inl fp)), (y, .inr (5, [.ref yr, .ref yp, .int (nI nt)])), (yr, .inr (7, [.ref yl, .ref yh])), (yl, .inl (cJ, 12, .inr (.inl f))), (yh, .inl (cJ, 12, .inr (.inl g))), (yp, .inl (cI, 36, .inl (fun i => nI (pw i))))] H := hP
  have hD : va_D A [(pa, .inr (4, [.ref tp, .int (nI ln), .int (nI pl), .int fl, .int (nI 1), .int (nI 1), .ref fpa])), (tp, .inl (cB, 240, .inl (fun i => nI (tb i)))), (fpa, .inl (cI, 3, .inl fp)), (y, .inr (5, [.ref yr, .ref yp, .int (nI nt)])), (yr, .inr (7, [.ref yl, .ref yh])), (yl, .inl (cJ, 12, .inr (.inl f))), (yh, .inl (cJ, 12, .inr (.inl g))), (yp, .inl (cI, 36, .inl (fun i => nI (pw i))))] := hD
  refine lv_aload_n hx hb dd_P_readTerm_10 rfl (lv_at hl 0 rfl) ?_
  refine bo_goi (wr := [(fpa, .inl (cI, 3, .inl fp)), (y, .inr (5, [.ref yr, .ref yp, .int (nI nt)])), (yr, .inr (7, [.ref yl, .ref yh])), (yl, .inl (cJ, 12, .inr (.inl f))), (yh, .inl (cJ, 12, .inr (.inl g))), (yp, .inl (cI, 36, .inl (fun i => nI (pw i))))]) (bo_rV (c_P_here (l := l) (D := D) (cJ := cJ) (cI := cI) (cB := cB) (cY := cY) pa tp ln pl 1 1 fpa fl tb hpl hln htb _) ⟨hx, hb, hml, hown, hts⟩ (cwV 0 hts (bo_gV wd_451 wd_453 wp_7 wd_2 wd_454) rfl rfl rfl hd_P_here (by decide)) hK hP hD [0, 1] rfl (by decide) 0 4 rfl rfl rfl rfl hl.1 rfl (Nat.le_of_ble_eq_true rfl) dd_P_readTerm_11 (by decide)) hP hD hS hA [0, 1] [2, 3, 4, 5, 6, 7] rfl rfl (by decide) (by decide) (fun r_11 u H locs hu_11 hP hD hS => ?_)
  have hu_11 : r_11 = nI (see tb ln pl) := hu_11
  have hP : va_P D bo_cl [(fpa, .inl (cI, 3, .inl fp)), (y, .inr (5, [.ref yr, .ref yp, .int (nI nt)])), (yr, .inr (7, [.ref yl, .ref yh])), (yl, .inl (cJ, 12, .inr (.inl f))), (yh, .inl (cJ, 12, .inr (.inl g))), (yp, .inl (cI, 36, .inl (fun i => nI (pw i)))), (pa, .inr (4, [.ref tp, .int (nI ln), .int (nI pl), .int fl, .int (nI 1), .int (nI 1), .ref fpa])), (tp, .inl (cB, 240, .inl (fun i => nI (tb i))))] H := hP
  have hD : va_D A [(fpa, .inl (cI, 3, .inl fp)), (y, .inr (5, [.ref yr, .ref yp, .int (nI nt)])), (yr, .inr (7, [.ref yl, .ref yh])), (yl, .inl (cJ, 12, .inr (.inl f))), (yh, .inl (cJ, 12, .inr (.inl g))), (yp, .inl (cI, 36, .inl (fun i => nI (pw i)))), (pa, .inr (4, [.ref tp, .int (nI ln), .int (nI pl), .int fl, .int (nI 1), .int (nI 1), .ref fpa])), (tp, .inl (cB, 240, .inl (fun i => nI (tb i))))] := hD
  subst hu_11
  refine bo_goi (wr := [(fpa, .inl (cI, 3, .inl fp)), (y, .inr (5, [.ref yr, .ref yp, .int (nI nt)])), (yr, .inr (7, [.ref yl, .ref yh])), (yl, .inl (cJ, 12, .inr (.inl f))), (yh, .inl (cJ, 12, .inr (.inl g))), (yp, .inl (cI, 36, .inl (fun i => nI (pw i)))), (pa, .inr (4, [.ref tp, .int (nI ln), .int (nI pl), .int fl, .int (nI 1), .int (nI 1), .ref fpa])), (tp, .inl (cB, 240, .inl (fun i => nI (tb i))))]) (bo_rS (c_P_isDigit (l := l) (D := D) (cJ := cJ) (cI := cI) (cB := cB) (cY := cY) (see tb ln pl) (Nat.lt_trans (see_128 htb _ _) (by decide)) _) ⟨hx, hb, hml, hown, hts⟩ (cwS 1 hts (bo_gS wd_467 wd_468 wd_2 wd_469) rfl rfl rfl hd_P_isDigit (by decide)) hK hP hD [] rfl (by decide) rfl hl.1 rfl (Nat.le_of_ble_eq_true rfl) dd_P_readTerm_14 (by decide)) hP hD hS hA [] [0, 1, 2, 3, 4, 5, 6, 7] rfl rfl (by decide) (by decide) (fun r_14 u H locs hu_14 hP hD hS => ?_)
  have hu_14 : r_14 = bI (dig (see tb ln pl)) := hu_14
  have hP : va_P D bo_cl [(fpa, .inl (cI, 3, .inl fp)), (y, .inr (5, [.ref yr, .ref yp, .int (nI nt)])), (yr, .inr (7, [.ref yl, .ref yh])), (yl, .inl (cJ, 12, .inr (.inl f))), (yh, .inl (cJ, 12, .inr (.inl g))), (yp, .inl (cI, 36, .inl (fun i => nI (pw i)))), (pa, .inr (4, [.ref tp, .int (nI ln), .int (nI pl), .int fl, .int (nI 1), .int (nI 1), .ref fpa])), (tp, .inl (cB, 240, .inl (fun i => nI (tb i))))] H := hP
  have hD : va_D A [(fpa, .inl (cI, 3, .inl fp)), (y, .inr (5, [.ref yr, .ref yp, .int (nI nt)])), (yr, .inr (7, [.ref yl, .ref yh])), (yl, .inl (cJ, 12, .inr (.inl f))), (yh, .inl (cJ, 12, .inr (.inl g))), (yp, .inl (cI, 36, .inl (fun i => nI (pw i)))), (pa, .inr (4, [.ref tp, .int (nI ln), .int (nI pl), .int fl, .int (nI 1), .int (nI 1), .ref fpa])), (tp, .inl (cB, 240, .inl (fun i => nI (tb i))))] := hD
  subst hu_14
  refine lv_topi (fun v17 e17 => ?_)
  refine lv_istore_n (lv' := [(3, .int v17), (0, .ref pa), (1, .ref y), (2, .int ng)]) hx hb dd_P_readTerm_17 rfl hl (by decide) rfl (fun ls hl => ?_)
  refine lv_iload_n hx hb dd_P_readTerm_18 rfl (lv_at hl 0 rfl) ?_
  have jn52 : ∀ (pl5 : Nat) (ab5 : Nat) (bw5 : Nat) (fl5 : Int32) (hH : rH (see tb ln) pl = .ok (pl5, ab5, bw5)) (hf5 : fl5 = fl) (hl5 : pl5 ≤ ln) (hb5 : 0 < bw5 ∧ bw5 < 2 ^ 31) (ls : Array Slot) (H : Heap) (locs : List Loc), lv_has ls 4 [(0, .ref pa), (1, .ref y), (2, .int ng)] → va_P D bo_cl [(pa, .inr (4, [.ref tp, .int (nI ln), .int (nI pl5), .int fl5, .int (nI ab5), .int (nI bw5), .ref fpa])), (tp, .inl (cB, 240, .inl (fun i => nI (tb i)))), (fpa, .inl (cI, 3, .inl fp)), (y, .inr (5, [.ref yr, .ref yp, .int (nI nt)])), (yr, .inr (7, [.ref yl, .ref yh])), (yl, .inl (cJ, 12, .inr (.inl f))), (yh, .inl (cJ, 12, .inr (.inl g))), (yp, .inl (cI, 36, .inl (fun i => nI (pw i))))] H → va_D A [(pa, .inr (4, [.ref tp, .int (nI ln), .int (nI pl5), .int fl5, .int (nI ab5), .int (nI bw5), .ref fpa])), (tp, .inl (cB, 240, .inl (fun i => nI (tb i)))), (fpa, .inl (cI, 3, .inl fp)), (y, .inr (5, [.ref yr, .ref yp, .int (nI nt)])), (yr, .inr (7, [.ref yl, .ref yh])), (yl, .inl (cJ, 12, .inr (.inl f))), (yh, .inl (cJ, 12, .inr (.inl g))), (yp, .inl (cI, 36, .inl (fun i => nI (pw i))))] → va_S A s.heap H locs → W p l e (bo_rm 3 68) s m args below meth c H locs 0 0 Q (F0 m 52 ls []) := by
    intro pl5 ab5 bw5 fl5 hH hf5 hl5 hb5 ls H locs hl hP hD hS
    refine lv_aload_n hx hb dd_P_readTerm_52 rfl (lv_at hl 1 rfl) ?_
    refine lv_aload_n hx hb dd_P_readTerm_53 rfl (lv_at hl 0 rfl) ?_
    refine va_get (D := D) (ci := 4) (v := .int (nI ab5)) (C := RR_P) (T := TT_P) (N := 7) hx hb hts (fun w h => List.mem_cons_of_mem _ (in_P w h)) hown hK hP 0 rfl rfl 4 (by decide) (hts _ (List.mem_cons_of_mem _ wd_39)) (fun _ h9 => h9) rfl dd_P_readTerm_54 ?_
    refine lv_aload_n hx hb dd_P_readTerm_57 rfl (lv_at hl 0 rfl) ?_
    refine va_get (D := D) (ci := 4) (v := .int (nI bw5)) (C := RR_P) (T := TT_P) (N := 7) hx hb hts (fun w h => List.mem_cons_of_mem _ (in_P w h)) hown hK hP 0 rfl rfl 5 (by decide) (hts _ (List.mem_cons_of_mem _ wd_40)) (fun _ h9 => h9) rfl dd_P_readTerm_58 ?_
    refine lv_iload_n hx hb dd_P_readTerm_61 rfl (lv_at hl 2 rfl) ?_
    refine bo_gov (wr := [(pa, .inr (4, [.ref tp, .int (nI ln), .int (nI pl5), .int fl5, .int (nI ab5), .int (nI bw5), .ref fpa])), (tp, .inl (cB, 240, .inl (fun i => nI (tb i)))), (fpa, .inl (cI, 3, .inl fp))]) (bo_rV (c_Y_addTerm (l := l) (D := D) (cJ := cJ) (cI := cI) (cB := cB) (cY := cY) y yr yl yh yp nt f g pw ab5 bw5 ng hnt (toL_ne0 hb5) _) ⟨hx, hb, hml, hown, hts⟩ (cwV 3 hts (bo_gV wd_482 wd_483 wd_484 wd_4 wd_485) rfl rfl rfl hd_Y_addTerm (by decide)) hK hP hD [3, 4, 5, 6, 7] rfl (by decide) 3 5 rfl rfl rfl rfl hl.1 rfl (Nat.le_of_ble_eq_true rfl) dd_P_readTerm_62 (by decide)) hP hD hS hA [3, 4, 5, 6, 7] [0, 1, 2] rfl rfl (by decide) (by decide) (fun u H locs hu_62 hP hD hS => ?_)
    have hP : va_P D bo_cl [(pa, .inr (4, [.ref tp, .int (nI ln), .int (nI pl5), .int fl5, .int (nI ab5), .int (nI bw5), .ref fpa])), (tp, .inl (cB, 240, .inl (fun i => nI (tb i)))), (fpa, .inl (cI, 3, .inl fp)), (y, .inr (5, [.ref yr, .ref yp, .int (nI (nt + 1))])), (yr, .inr (7, [.ref yl, .ref yh])), (yl, .inl (cJ, 12, .inr (.inl (vp_updL f nt (if ng = 0 then tn_lo ab5 bw5 else -tn_hi ab5 bw5))))), (yh, .inl (cJ, 12, .inr (.inl (vp_updL g nt (if ng = 0 then tn_hi ab5 bw5 else -tn_lo ab5 bw5))))), (yp, .inl (cI, 36, .inl (fun i => nI (pw_new pw nt i))))] H := hP
    have hD : va_D A [(pa, .inr (4, [.ref tp, .int (nI ln), .int (nI pl5), .int fl5, .int (nI ab5), .int (nI bw5), .ref fpa])), (tp, .inl (cB, 240, .inl (fun i => nI (tb i)))), (fpa, .inl (cI, 3, .inl fp)), (y, .inr (5, [.ref yr, .ref yp, .int (nI (nt + 1))])), (yr, .inr (7, [.ref yl, .ref yh])), (yl, .inl (cJ, 12, .inr (.inl (vp_updL f nt (if ng = 0 then tn_lo ab5 bw5 else -tn_hi ab5 bw5))))), (yh, .inl (cJ, 12, .inr (.inl (vp_updL g nt (if ng = 0 then tn_hi ab5 bw5 else -tn_lo ab5 bw5))))), (yp, .inl (cI, 36, .inl (fun i => nI (pw_new pw nt i))))] := hD
    refine lv_aload_n hx hb dd_P_readTerm_65 rfl (lv_at hl 0 rfl) ?_
    refine lv_aload_n hx hb dd_P_readTerm_66 rfl (lv_at hl 1 rfl) ?_
    refine bo_goi (wr := []) (bo_rV (c_P_readFactors (l := l) (D := D) (cJ := cJ) (cI := cI) (cB := cB) (cY := cY) pa tp ln pl5 ab5 bw5 fpa fl5 tb fp y yr yl yh yp (nt + 1) (vp_updL f nt (if ng = 0 then tn_lo ab5 bw5 else -tn_hi ab5 bw5)) (vp_updL g nt (if ng = 0 then tn_hi ab5 bw5 else -tn_lo ab5 bw5)) (pw_new pw nt) hl5 hln htb (by omega) (by omega) _) ⟨hx, hb, hml, hown, hts⟩ (cwV 1 hts (bo_gV wd_490 wd_492 wp_14 wd_2 wd_493) rfl rfl rfl hd_P_readFactors (by decide)) hK hP hD [0, 1, 2, 3, 4, 5, 6, 7] rfl (by decide) 0 4 rfl rfl rfl rfl hl.1 rfl (Nat.le_of_ble_eq_true rfl) dd_P_readTerm_67 (by decide)) hP hD hS hA [0, 1, 2, 3, 4, 5, 6, 7] [] rfl rfl (by decide) (by decide) (fun r_67 u H locs hu_67 hP hD hS => ?_)
    obtain ⟨pl1_67, fl1_67, pw1_67, fp1_67⟩ := u
    have hu_67 : rfQ (rF (see tb ln) (((nt + 1) - 1) * 3) 7 pl5 6 (pw_new pw nt) fp) ln fl5 r_67 pl1_67 fl1_67 pw1_67 fp1_67 := hu_67
    have hP : va_P D bo_cl [(pa, .inr (4, [.ref tp, .int (nI ln), .int (nI pl1_67), .int fl1_67, .int (nI ab5), .int (nI bw5), .ref fpa])), (tp, .inl (cB, 240, .inl (fun i => nI (tb i)))), (fpa, .inl (cI, 3, .inl fp1_67)), (y, .inr (5, [.ref yr, .ref yp, .int (nI (nt + 1))])), (yr, .inr (7, [.ref yl, .ref yh])), (yl, .inl (cJ, 12, .inr (.inl (vp_updL f nt (if ng = 0 then tn_lo ab5 bw5 else -tn_hi ab5 bw5))))), (yh, .inl (cJ, 12, .inr (.inl (vp_updL g nt (if ng = 0 then tn_hi ab5 bw5 else -tn_lo ab5 bw5))))), (yp, .inl (cI, 36, .inl (fun i => nI (pw1_67 i))))] H := hP
    have hD : va_D A [(pa, .inr (4, [.ref tp, .int (nI ln), .int (nI pl1_67), .int fl1_67, .int (nI ab5), .int (nI bw5), .ref fpa])), (tp, .inl (cB, 240, .inl (fun i => nI (tb i)))), (fpa, .inl (cI, 3, .inl fp1_67)), (y, .inr (5, [.ref yr, .ref yp, .int (nI (nt + 1))])), (yr, .inr (7, [.ref yl, .ref yh])), (yl, .inl (cJ, 12, .inr (.inl (vp_updL f nt (if ng = 0 then tn_lo ab5 bw5 else -tn_hi ab5 bw5))))), (yh, .inl (cJ, 12, .inr (.inl (vp_updL g nt (if ng = 0 then tn_hi ab5 bw5 else -tn_lo ab5 bw5))))), (yp, .inl (cI, 36, .inl (fun i => nI (pw1_67 i))))] := hD
    have hP9 := hP.sub (ws' := [(pa, .inr (4, [.ref tp, .int (nI ln), .int (nI pl1_67), .int fl1_67, .int (nI ab5), .int (nI bw5), .ref fpa])), (tp, .inl (cB, 240, .inl (fun i => nI (tb i)))), (fpa, .inl (cI, 3, .inl fp1_67)), (y, .inr (5, [.ref yr, .ref yp, .int (nI (nt + 1))])), (yr, .inr (7, [.ref yl, .ref yh])), (yl, .inl (cJ, 12, .inr (.inl (vp_updL f nt (if ng = 0 then tn_lo ab5 bw5 else -tn_hi ab5 bw5))))), (yh, .inl (cJ, 12, .inr (.inl (vp_updL g nt (if ng = 0 then tn_hi ab5 bw5 else -tn_lo ab5 bw5))))), (yp, .inl (cI, 36, .inl (fun i => nI (pw1_67 i))))]) [0, 1, 2, 3, 4, 5, 6, 7] rfl
    have hD9 := hD.sub (ws' := [(pa, .inr (4, [.ref tp, .int (nI ln), .int (nI pl1_67), .int fl1_67, .int (nI ab5), .int (nI bw5), .ref fpa])), (tp, .inl (cB, 240, .inl (fun i => nI (tb i)))), (fpa, .inl (cI, 3, .inl fp1_67)), (y, .inr (5, [.ref yr, .ref yp, .int (nI (nt + 1))])), (yr, .inr (7, [.ref yl, .ref yh])), (yl, .inl (cJ, 12, .inr (.inl (vp_updL f nt (if ng = 0 then tn_lo ab5 bw5 else -tn_hi ab5 bw5))))), (yh, .inl (cJ, 12, .inr (.inl (vp_updL g nt (if ng = 0 then tn_hi ab5 bw5 else -tn_lo ab5 bw5))))), (yp, .inl (cI, 36, .inl (fun i => nI (pw1_67 i))))]) [0, 1, 2, 3, 4, 5, 6, 7] (by decide) rfl
    exact hret (pl1_67, fl1_67, ab5, bw5, nt + 1, vp_updL f nt (if ng = 0 then tn_lo ab5 bw5 else -tn_hi ab5 bw5), vp_updL g nt (if ng = 0 then tn_hi ab5 bw5 else -tn_lo ab5 bw5), pw1_67, fp1_67) _ _ _ _ _ (rfQ_01 hu_67) hP9 hD9 hS (by rw [hf5] at hu_67; exact rtQ_f hH hu_67) dd_P_readTerm_70
  refine lv_if_eq (tgt := 31) hx hb dd_P_readTerm_19 rfl (fun h19 => ?_) (fun h19 => ?_)
  · refine lv_iload_n hx hb dd_P_readTerm_31 rfl (lv_at hl 0 rfl) ?_
    refine lv_if_ne (tgt := 52) hx hb dd_P_readTerm_32 rfl (fun h32 => ?_) (fun h32 => ?_)
    · have hl8 := lv_sub (l' := [(0, .ref pa), (1, .ref y), (2, .int ng)]) hl [1, 2, 3] rfl
      have hP8 := hP.sub (ws' := [(pa, .inr (4, [.ref tp, .int (nI ln), .int (nI pl), .int fl, .int (nI 1), .int (nI 1), .ref fpa])), (tp, .inl (cB, 240, .inl (fun i => nI (tb i)))), (fpa, .inl (cI, 3, .inl fp)), (y, .inr (5, [.ref yr, .ref yp, .int (nI nt)])), (yr, .inr (7, [.ref yl, .ref yh])), (yl, .inl (cJ, 12, .inr (.inl f))), (yh, .inl (cJ, 12, .inr (.inl g))), (yp, .inl (cI, 36, .inl (fun i => nI (pw i))))]) [6, 7, 0, 1, 2, 3, 4, 5] rfl
      have hD8 := hD.sub (ws' := [(pa, .inr (4, [.ref tp, .int (nI ln), .int (nI pl), .int fl, .int (nI 1), .int (nI 1), .ref fpa])), (tp, .inl (cB, 240, .inl (fun i => nI (tb i)))), (fpa, .inl (cI, 3, .inl fp)), (y, .inr (5, [.ref yr, .ref yp, .int (nI nt)])), (yr, .inr (7, [.ref yl, .ref yh])), (yl, .inl (cJ, 12, .inr (.inl f))), (yh, .inl (cJ, 12, .inr (.inl g))), (yp, .inl (cI, 36, .inl (fun i => nI (pw i))))]) [6, 7, 0, 1, 2, 3, 4, 5] (by decide) rfl
      exact jn52 pl 1 1 fl (by first | exact absurd h19 h32 | exact absurd h32 h19 | exact (rH_b e17 h19 hu_23 h26).1 | exact rH_a e17 h19 h40) (by first | exact absurd h19 h32 | exact absurd h32 h19 | exact (rH_b e17 h19 hu_23 h26).2.1 | rfl) (by first | exact absurd h19 h32 | exact absurd h32 h19 | exact (rH_b e17 h19 hu_23 h26).2.2.1 | exact hpl) (by first | exact absurd h19 h32 | exact absurd h32 h19 | exact (rH_b e17 h19 hu_23 h26).2.2.2 | decide) _ _ _ hl8 hP8 hD8 hS
    · refine lv_aload_n hx hb dd_P_readTerm_35 rfl (lv_at hl 1 rfl) ?_
      refine bo_goi (wr := [(fpa, .inl (cI, 3, .inl fp)), (y, .inr (5, [.ref yr, .ref yp, .int (nI nt)])), (yr, .inr (7, [.ref yl, .ref yh])), (yl, .inl (cJ, 12, .inr (.inl f))), (yh, .inl (cJ, 12, .inr (.inl g))), (yp, .inl (cI, 36, .inl (fun i => nI (pw i))))]) (bo_rV (c_P_letterHere (l := l) (D := D) (cJ := cJ) (cI := cI) (cB := cB) (cY := cY) pa tp ln pl 1 1 fpa fl tb (by first | exact hpl | exact absurd h32 h19) hln htb _) ⟨hx, hb, hml, hown, hts⟩ (cwV 0 hts (bo_gV wd_478 wd_480 wp_13 wd_2 wd_481) rfl rfl rfl hd_P_letterHere (by decide)) hK hP hD [6, 7] rfl (by decide) 6 4 rfl rfl rfl rfl hl.1 rfl (Nat.le_of_ble_eq_true rfl) dd_P_readTerm_36 (by decide)) hP hD hS hA [6, 7] [0, 1, 2, 3, 4, 5] rfl rfl (by decide) (by decide) (fun r_36 u H locs hu_36 hP hD hS => ?_)
      have hu_36 : r_36 = ltI (see tb ln pl) := hu_36
      have hP : va_P D bo_cl [(fpa, .inl (cI, 3, .inl fp)), (y, .inr (5, [.ref yr, .ref yp, .int (nI nt)])), (yr, .inr (7, [.ref yl, .ref yh])), (yl, .inl (cJ, 12, .inr (.inl f))), (yh, .inl (cJ, 12, .inr (.inl g))), (yp, .inl (cI, 36, .inl (fun i => nI (pw i)))), (pa, .inr (4, [.ref tp, .int (nI ln), .int (nI pl), .int fl, .int (nI 1), .int (nI 1), .ref fpa])), (tp, .inl (cB, 240, .inl (fun i => nI (tb i))))] H := hP
      have hD : va_D A [(fpa, .inl (cI, 3, .inl fp)), (y, .inr (5, [.ref yr, .ref yp, .int (nI nt)])), (yr, .inr (7, [.ref yl, .ref yh])), (yl, .inl (cJ, 12, .inr (.inl f))), (yh, .inl (cJ, 12, .inr (.inl g))), (yp, .inl (cI, 36, .inl (fun i => nI (pw i)))), (pa, .inr (4, [.ref tp, .int (nI ln), .int (nI pl), .int fl, .int (nI 1), .int (nI 1), .ref fpa])), (tp, .inl (cB, 240, .inl (fun i => nI (tb i))))] := hD
      subst hu_36
      refine lv_iconst (v := -1) hx hb dd_P_readTerm_39 (by decide) ?_
      refine lv_icmp_ne (tgt := 52) hx hb dd_P_readTerm_40 rfl (fun h40 => ?_) (fun h40 => ?_)
      · have hl8 := lv_sub (l' := [(0, .ref pa), (1, .ref y), (2, .int ng)]) hl [1, 2, 3] rfl
        have hP8 := hP.sub (ws' := [(pa, .inr (4, [.ref tp, .int (nI ln), .int (nI pl), .int fl, .int (nI 1), .int (nI 1), .ref fpa])), (tp, .inl (cB, 240, .inl (fun i => nI (tb i)))), (fpa, .inl (cI, 3, .inl fp)), (y, .inr (5, [.ref yr, .ref yp, .int (nI nt)])), (yr, .inr (7, [.ref yl, .ref yh])), (yl, .inl (cJ, 12, .inr (.inl f))), (yh, .inl (cJ, 12, .inr (.inl g))), (yp, .inl (cI, 36, .inl (fun i => nI (pw i))))]) [6, 7, 0, 1, 2, 3, 4, 5] rfl
        have hD8 := hD.sub (ws' := [(pa, .inr (4, [.ref tp, .int (nI ln), .int (nI pl), .int fl, .int (nI 1), .int (nI 1), .ref fpa])), (tp, .inl (cB, 240, .inl (fun i => nI (tb i)))), (fpa, .inl (cI, 3, .inl fp)), (y, .inr (5, [.ref yr, .ref yp, .int (nI nt)])), (yr, .inr (7, [.ref yl, .ref yh])), (yl, .inl (cJ, 12, .inr (.inl f))), (yh, .inl (cJ, 12, .inr (.inl g))), (yp, .inl (cI, 36, .inl (fun i => nI (pw i))))]) [6, 7, 0, 1, 2, 3, 4, 5] (by decide) rfl
        exact jn52 pl 1 1 fl (by first | exact absurd h19 h32 | exact absurd h32 h19 | exact (rH_b e17 h19 hu_23 h26).1 | exact rH_a e17 h19 h40) (by first | exact absurd h19 h32 | exact absurd h32 h19 | exact (rH_b e17 h19 hu_23 h26).2.1 | rfl) (by first | exact absurd h19 h32 | exact absurd h32 h19 | exact (rH_b e17 h19 hu_23 h26).2.2.1 | exact hpl) (by first | exact absurd h19 h32 | exact absurd h32 h19 | exact (rH_b e17 h19 hu_23 h26).2.2.2 | decide) _ _ _ hl8 hP8 hD8 hS
      · refine lv_aload_n hx hb dd_P_readTerm_43 rfl (lv_at hl 1 rfl) ?_
        refine lv_aload_n hx hb dd_P_readTerm_44 rfl (lv_at hl 1 rfl) ?_
        refine va_get (D := D) (ci := 4) (v := .int (nI pl)) (C := RR_P) (T := TT_P) (N := 7) hx hb hts (fun w h => List.mem_cons_of_mem _ (in_P w h)) hown hK hP 6 rfl rfl 2 (by decide) (hts _ (List.mem_cons_of_mem _ wd_37)) (fun _ h9 => h9) rfl dd_P_readTerm_45 ?_
        refine bo_goi (wr := [(fpa, .inl (cI, 3, .inl fp)), (y, .inr (5, [.ref yr, .ref yp, .int (nI nt)])), (yr, .inr (7, [.ref yl, .ref yh])), (yl, .inl (cJ, 12, .inr (.inl f))), (yh, .inl (cJ, 12, .inr (.inl g))), (yp, .inl (cI, 36, .inl (fun i => nI (pw i)))), (tp, .inl (cB, 240, .inl (fun i => nI (tb i))))]) (bo_rV (c_P_faultAt (l := l) (D := D) (cJ := cJ) (cI := cI) (cB := cB) (cY := cY) pa tp ln pl 1 1 fpa fl (nI pl)  _) ⟨hx, hb, hml, hown, hts⟩ (cwV 1 hts (bo_gV wd_455 wd_457 wp_8 wd_2 wd_458) rfl rfl rfl hd_P_faultAt (by decide)) hK hP hD [6] rfl (by decide) 6 4 rfl rfl rfl rfl hl.1 rfl (Nat.le_of_ble_eq_true rfl) dd_P_readTerm_48 (by decide)) hP hD hS hA [6] [0, 1, 2, 3, 4, 5, 7] rfl rfl (by decide) (by decide) (fun r_48 u H locs hu_48 hP hD hS => ?_)
        have hu_48 : r_48 = nI 0 := hu_48
        have hP : va_P D bo_cl [(fpa, .inl (cI, 3, .inl fp)), (y, .inr (5, [.ref yr, .ref yp, .int (nI nt)])), (yr, .inr (7, [.ref yl, .ref yh])), (yl, .inl (cJ, 12, .inr (.inl f))), (yh, .inl (cJ, 12, .inr (.inl g))), (yp, .inl (cI, 36, .inl (fun i => nI (pw i)))), (tp, .inl (cB, 240, .inl (fun i => nI (tb i)))), (pa, .inr (4, [.ref tp, .int (nI ln), .int (nI pl), .int (nI pl), .int (nI 1), .int (nI 1), .ref fpa]))] H := hP
        have hD : va_D A [(fpa, .inl (cI, 3, .inl fp)), (y, .inr (5, [.ref yr, .ref yp, .int (nI nt)])), (yr, .inr (7, [.ref yl, .ref yh])), (yl, .inl (cJ, 12, .inr (.inl f))), (yh, .inl (cJ, 12, .inr (.inl g))), (yp, .inl (cI, 36, .inl (fun i => nI (pw i)))), (tp, .inl (cB, 240, .inl (fun i => nI (tb i)))), (pa, .inr (4, [.ref tp, .int (nI ln), .int (nI pl), .int (nI pl), .int (nI 1), .int (nI 1), .ref fpa]))] := hD
        subst hu_48
        have hP9 := hP.sub (ws' := [(pa, .inr (4, [.ref tp, .int (nI ln), .int (nI pl), .int (nI pl), .int (nI 1), .int (nI 1), .ref fpa])), (tp, .inl (cB, 240, .inl (fun i => nI (tb i)))), (fpa, .inl (cI, 3, .inl fp)), (y, .inr (5, [.ref yr, .ref yp, .int (nI nt)])), (yr, .inr (7, [.ref yl, .ref yh])), (yl, .inl (cJ, 12, .inr (.inl f))), (yh, .inl (cJ, 12, .inr (.inl g))), (yp, .inl (cI, 36, .inl (fun i => nI (pw i))))]) [7, 6, 0, 1, 2, 3, 4, 5] rfl
        have hD9 := hD.sub (ws' := [(pa, .inr (4, [.ref tp, .int (nI ln), .int (nI pl), .int (nI pl), .int (nI 1), .int (nI 1), .ref fpa])), (tp, .inl (cB, 240, .inl (fun i => nI (tb i)))), (fpa, .inl (cI, 3, .inl fp)), (y, .inr (5, [.ref yr, .ref yp, .int (nI nt)])), (yr, .inr (7, [.ref yl, .ref yh])), (yl, .inl (cJ, 12, .inr (.inl f))), (yh, .inl (cJ, 12, .inr (.inl g))), (yp, .inl (cI, 36, .inl (fun i => nI (pw i))))]) [7, 6, 0, 1, 2, 3, 4, 5] (by decide) rfl
        exact hret (pl, nI pl, 1, 1, nt, f, g, pw, fp) _ _ _ _ _ (Or.inl rfl) hP9 hD9 hS (by first | exact absurd h32 h19 | exact rtQ_e (rH_e e17 h19 h40)) dd_P_readTerm_51
  · refine lv_aload_n hx hb dd_P_readTerm_22 rfl (lv_at hl 1 rfl) ?_
    refine bo_goi (wr := [(fpa, .inl (cI, 3, .inl fp)), (y, .inr (5, [.ref yr, .ref yp, .int (nI nt)])), (yr, .inr (7, [.ref yl, .ref yh])), (yl, .inl (cJ, 12, .inr (.inl f))), (yh, .inl (cJ, 12, .inr (.inl g))), (yp, .inl (cI, 36, .inl (fun i => nI (pw i))))]) (bo_rV (c_P_readNumber (l := l) (D := D) (cJ := cJ) (cI := cI) (cB := cB) (cY := cY) pa tp ln pl 1 1 fpa fl tb hpl hln htb rfl _) ⟨hx, hb, hml, hown, hts⟩ (cwV 0 hts (bo_gV wd_470 wd_472 wp_11 wd_2 wd_473) rfl rfl rfl hd_P_readNumber (by decide)) hK hP hD [6, 7] rfl (by decide) 6 4 rfl rfl rfl rfl hl.1 rfl (Nat.le_of_ble_eq_true rfl) dd_P_readTerm_23 (by decide)) hP hD hS hA [6, 7] [0, 1, 2, 3, 4, 5] rfl rfl (by decide) (by decide) (fun r_23 u H locs hu_23 hP hD hS => ?_)
    obtain ⟨pl1_23, ab1_23, bw1_23, fl1_23⟩ := u
    have hu_23 : rnQ (rN (see tb ln) pl) ln fl r_23 pl1_23 ab1_23 bw1_23 fl1_23 := hu_23
    have hP : va_P D bo_cl [(fpa, .inl (cI, 3, .inl fp)), (y, .inr (5, [.ref yr, .ref yp, .int (nI nt)])), (yr, .inr (7, [.ref yl, .ref yh])), (yl, .inl (cJ, 12, .inr (.inl f))), (yh, .inl (cJ, 12, .inr (.inl g))), (yp, .inl (cI, 36, .inl (fun i => nI (pw i)))), (pa, .inr (4, [.ref tp, .int (nI ln), .int (nI pl1_23), .int fl1_23, .int (nI ab1_23), .int (nI bw1_23), .ref fpa])), (tp, .inl (cB, 240, .inl (fun i => nI (tb i))))] H := hP
    have hD : va_D A [(fpa, .inl (cI, 3, .inl fp)), (y, .inr (5, [.ref yr, .ref yp, .int (nI nt)])), (yr, .inr (7, [.ref yl, .ref yh])), (yl, .inl (cJ, 12, .inr (.inl f))), (yh, .inl (cJ, 12, .inr (.inl g))), (yp, .inl (cI, 36, .inl (fun i => nI (pw i)))), (pa, .inr (4, [.ref tp, .int (nI ln), .int (nI pl1_23), .int fl1_23, .int (nI ab1_23), .int (nI bw1_23), .ref fpa])), (tp, .inl (cB, 240, .inl (fun i => nI (tb i))))] := hD
    refine lv_if_ne (tgt := 31) hx hb dd_P_readTerm_26 rfl (fun h26 => ?_) (fun h26 => ?_)
    · refine lv_iload_n hx hb dd_P_readTerm_31 rfl (lv_at hl 0 rfl) ?_
      refine lv_if_ne (tgt := 52) hx hb dd_P_readTerm_32 rfl (fun h32 => ?_) (fun h32 => ?_)
      · have hl8 := lv_sub (l' := [(0, .ref pa), (1, .ref y), (2, .int ng)]) hl [1, 2, 3] rfl
        have hP8 := hP.sub (ws' := [(pa, .inr (4, [.ref tp, .int (nI ln), .int (nI pl1_23), .int fl1_23, .int (nI ab1_23), .int (nI bw1_23), .ref fpa])), (tp, .inl (cB, 240, .inl (fun i => nI (tb i)))), (fpa, .inl (cI, 3, .inl fp)), (y, .inr (5, [.ref yr, .ref yp, .int (nI nt)])), (yr, .inr (7, [.ref yl, .ref yh])), (yl, .inl (cJ, 12, .inr (.inl f))), (yh, .inl (cJ, 12, .inr (.inl g))), (yp, .inl (cI, 36, .inl (fun i => nI (pw i))))]) [6, 7, 0, 1, 2, 3, 4, 5] rfl
        have hD8 := hD.sub (ws' := [(pa, .inr (4, [.ref tp, .int (nI ln), .int (nI pl1_23), .int fl1_23, .int (nI ab1_23), .int (nI bw1_23), .ref fpa])), (tp, .inl (cB, 240, .inl (fun i => nI (tb i)))), (fpa, .inl (cI, 3, .inl fp)), (y, .inr (5, [.ref yr, .ref yp, .int (nI nt)])), (yr, .inr (7, [.ref yl, .ref yh])), (yl, .inl (cJ, 12, .inr (.inl f))), (yh, .inl (cJ, 12, .inr (.inl g))), (yp, .inl (cI, 36, .inl (fun i => nI (pw i))))]) [6, 7, 0, 1, 2, 3, 4, 5] (by decide) rfl
        exact jn52 pl1_23 ab1_23 bw1_23 fl1_23 (by first | exact absurd h19 h32 | exact absurd h32 h19 | exact (rH_b e17 h19 hu_23 h26).1 | exact rH_a e17 h19 h40) (by first | exact absurd h19 h32 | exact absurd h32 h19 | exact (rH_b e17 h19 hu_23 h26).2.1 | rfl) (by first | exact absurd h19 h32 | exact absurd h32 h19 | exact (rH_b e17 h19 hu_23 h26).2.2.1 | exact hpl) (by first | exact absurd h19 h32 | exact absurd h32 h19 | exact (rH_b e17 h19 hu_23 h26).2.2.2 | decide) _ _ _ hl8 hP8 hD8 hS
      · refine lv_aload_n hx hb dd_P_readTerm_35 rfl (lv_at hl 1 rfl) ?_
        refine bo_goi (wr := [(fpa, .inl (cI, 3, .inl fp)), (y, .inr (5, [.ref yr, .ref yp, .int (nI nt)])), (yr, .inr (7, [.ref yl, .ref yh])), (yl, .inl (cJ, 12, .inr (.inl f))), (yh, .inl (cJ, 12, .inr (.inl g))), (yp, .inl (cI, 36, .inl (fun i => nI (pw i))))]) (bo_rV (c_P_letterHere (l := l) (D := D) (cJ := cJ) (cI := cI) (cB := cB) (cY := cY) pa tp ln pl1_23 ab1_23 bw1_23 fpa fl1_23 tb (by first | exact hpl | exact absurd h32 h19) hln htb _) ⟨hx, hb, hml, hown, hts⟩ (cwV 0 hts (bo_gV wd_478 wd_480 wp_13 wd_2 wd_481) rfl rfl rfl hd_P_letterHere (by decide)) hK hP hD [6, 7] rfl (by decide) 6 4 rfl rfl rfl rfl hl.1 rfl (Nat.le_of_ble_eq_true rfl) dd_P_readTerm_36 (by decide)) hP hD hS hA [6, 7] [0, 1, 2, 3, 4, 5] rfl rfl (by decide) (by decide) (fun r_36 u H locs hu_36 hP hD hS => ?_)
        have hu_36 : r_36 = ltI (see tb ln pl1_23) := hu_36
        have hP : va_P D bo_cl [(fpa, .inl (cI, 3, .inl fp)), (y, .inr (5, [.ref yr, .ref yp, .int (nI nt)])), (yr, .inr (7, [.ref yl, .ref yh])), (yl, .inl (cJ, 12, .inr (.inl f))), (yh, .inl (cJ, 12, .inr (.inl g))), (yp, .inl (cI, 36, .inl (fun i => nI (pw i)))), (pa, .inr (4, [.ref tp, .int (nI ln), .int (nI pl1_23), .int fl1_23, .int (nI ab1_23), .int (nI bw1_23), .ref fpa])), (tp, .inl (cB, 240, .inl (fun i => nI (tb i))))] H := hP
        have hD : va_D A [(fpa, .inl (cI, 3, .inl fp)), (y, .inr (5, [.ref yr, .ref yp, .int (nI nt)])), (yr, .inr (7, [.ref yl, .ref yh])), (yl, .inl (cJ, 12, .inr (.inl f))), (yh, .inl (cJ, 12, .inr (.inl g))), (yp, .inl (cI, 36, .inl (fun i => nI (pw i)))), (pa, .inr (4, [.ref tp, .int (nI ln), .int (nI pl1_23), .int fl1_23, .int (nI ab1_23), .int (nI bw1_23), .ref fpa])), (tp, .inl (cB, 240, .inl (fun i => nI (tb i))))] := hD
        subst hu_36
        refine lv_iconst (v := -1) hx hb dd_P_readTerm_39 (by decide) ?_
        refine lv_icmp_ne (tgt := 52) hx hb dd_P_readTerm_40 rfl (fun h40 => ?_) (fun h40 => ?_)
        · have hl8 := lv_sub (l' := [(0, .ref pa), (1, .ref y), (2, .int ng)]) hl [1, 2, 3] rfl
          have hP8 := hP.sub (ws' := [(pa, .inr (4, [.ref tp, .int (nI ln), .int (nI pl1_23), .int fl1_23, .int (nI ab1_23), .int (nI bw1_23), .ref fpa])), (tp, .inl (cB, 240, .inl (fun i => nI (tb i)))), (fpa, .inl (cI, 3, .inl fp)), (y, .inr (5, [.ref yr, .ref yp, .int (nI nt)])), (yr, .inr (7, [.ref yl, .ref yh])), (yl, .inl (cJ, 12, .inr (.inl f))), (yh, .inl (cJ, 12, .inr (.inl g))), (yp, .inl (cI, 36, .inl (fun i => nI (pw i))))]) [6, 7, 0, 1, 2, 3, 4, 5] rfl
          have hD8 := hD.sub (ws' := [(pa, .inr (4, [.ref tp, .int (nI ln), .int (nI pl1_23), .int fl1_23, .int (nI ab1_23), .int (nI bw1_23), .ref fpa])), (tp, .inl (cB, 240, .inl (fun i => nI (tb i)))), (fpa, .inl (cI, 3, .inl fp)), (y, .inr (5, [.ref yr, .ref yp, .int (nI nt)])), (yr, .inr (7, [.ref yl, .ref yh])), (yl, .inl (cJ, 12, .inr (.inl f))), (yh, .inl (cJ, 12, .inr (.inl g))), (yp, .inl (cI, 36, .inl (fun i => nI (pw i))))]) [6, 7, 0, 1, 2, 3, 4, 5] (by decide) rfl
          exact jn52 pl1_23 ab1_23 bw1_23 fl1_23 (by first | exact absurd h19 h32 | exact absurd h32 h19 | exact (rH_b e17 h19 hu_23 h26).1 | exact rH_a e17 h19 h40) (by first | exact absurd h19 h32 | exact absurd h32 h19 | exact (rH_b e17 h19 hu_23 h26).2.1 | rfl) (by first | exact absurd h19 h32 | exact absurd h32 h19 | exact (rH_b e17 h19 hu_23 h26).2.2.1 | exact hpl) (by first | exact absurd h19 h32 | exact absurd h32 h19 | exact (rH_b e17 h19 hu_23 h26).2.2.2 | decide) _ _ _ hl8 hP8 hD8 hS
        · refine lv_aload_n hx hb dd_P_readTerm_43 rfl (lv_at hl 1 rfl) ?_
          refine lv_aload_n hx hb dd_P_readTerm_44 rfl (lv_at hl 1 rfl) ?_
          refine va_get (D := D) (ci := 4) (v := .int (nI pl1_23)) (C := RR_P) (T := TT_P) (N := 7) hx hb hts (fun w h => List.mem_cons_of_mem _ (in_P w h)) hown hK hP 6 rfl rfl 2 (by decide) (hts _ (List.mem_cons_of_mem _ wd_37)) (fun _ h9 => h9) rfl dd_P_readTerm_45 ?_
          refine bo_goi (wr := [(fpa, .inl (cI, 3, .inl fp)), (y, .inr (5, [.ref yr, .ref yp, .int (nI nt)])), (yr, .inr (7, [.ref yl, .ref yh])), (yl, .inl (cJ, 12, .inr (.inl f))), (yh, .inl (cJ, 12, .inr (.inl g))), (yp, .inl (cI, 36, .inl (fun i => nI (pw i)))), (tp, .inl (cB, 240, .inl (fun i => nI (tb i))))]) (bo_rV (c_P_faultAt (l := l) (D := D) (cJ := cJ) (cI := cI) (cB := cB) (cY := cY) pa tp ln pl1_23 ab1_23 bw1_23 fpa fl1_23 (nI pl1_23)  _) ⟨hx, hb, hml, hown, hts⟩ (cwV 1 hts (bo_gV wd_455 wd_457 wp_8 wd_2 wd_458) rfl rfl rfl hd_P_faultAt (by decide)) hK hP hD [6] rfl (by decide) 6 4 rfl rfl rfl rfl hl.1 rfl (Nat.le_of_ble_eq_true rfl) dd_P_readTerm_48 (by decide)) hP hD hS hA [6] [0, 1, 2, 3, 4, 5, 7] rfl rfl (by decide) (by decide) (fun r_48 u H locs hu_48 hP hD hS => ?_)
          have hu_48 : r_48 = nI 0 := hu_48
          have hP : va_P D bo_cl [(fpa, .inl (cI, 3, .inl fp)), (y, .inr (5, [.ref yr, .ref yp, .int (nI nt)])), (yr, .inr (7, [.ref yl, .ref yh])), (yl, .inl (cJ, 12, .inr (.inl f))), (yh, .inl (cJ, 12, .inr (.inl g))), (yp, .inl (cI, 36, .inl (fun i => nI (pw i)))), (tp, .inl (cB, 240, .inl (fun i => nI (tb i)))), (pa, .inr (4, [.ref tp, .int (nI ln), .int (nI pl1_23), .int (nI pl1_23), .int (nI ab1_23), .int (nI bw1_23), .ref fpa]))] H := hP
          have hD : va_D A [(fpa, .inl (cI, 3, .inl fp)), (y, .inr (5, [.ref yr, .ref yp, .int (nI nt)])), (yr, .inr (7, [.ref yl, .ref yh])), (yl, .inl (cJ, 12, .inr (.inl f))), (yh, .inl (cJ, 12, .inr (.inl g))), (yp, .inl (cI, 36, .inl (fun i => nI (pw i)))), (tp, .inl (cB, 240, .inl (fun i => nI (tb i)))), (pa, .inr (4, [.ref tp, .int (nI ln), .int (nI pl1_23), .int (nI pl1_23), .int (nI ab1_23), .int (nI bw1_23), .ref fpa]))] := hD
          subst hu_48
          have hP9 := hP.sub (ws' := [(pa, .inr (4, [.ref tp, .int (nI ln), .int (nI pl1_23), .int (nI pl1_23), .int (nI ab1_23), .int (nI bw1_23), .ref fpa])), (tp, .inl (cB, 240, .inl (fun i => nI (tb i)))), (fpa, .inl (cI, 3, .inl fp)), (y, .inr (5, [.ref yr, .ref yp, .int (nI nt)])), (yr, .inr (7, [.ref yl, .ref yh])), (yl, .inl (cJ, 12, .inr (.inl f))), (yh, .inl (cJ, 12, .inr (.inl g))), (yp, .inl (cI, 36, .inl (fun i => nI (pw i))))]) [7, 6, 0, 1, 2, 3, 4, 5] rfl
          have hD9 := hD.sub (ws' := [(pa, .inr (4, [.ref tp, .int (nI ln), .int (nI pl1_23), .int (nI pl1_23), .int (nI ab1_23), .int (nI bw1_23), .ref fpa])), (tp, .inl (cB, 240, .inl (fun i => nI (tb i)))), (fpa, .inl (cI, 3, .inl fp)), (y, .inr (5, [.ref yr, .ref yp, .int (nI nt)])), (yr, .inr (7, [.ref yl, .ref yh])), (yl, .inl (cJ, 12, .inr (.inl f))), (yh, .inl (cJ, 12, .inr (.inl g))), (yp, .inl (cI, 36, .inl (fun i => nI (pw i))))]) [7, 6, 0, 1, 2, 3, 4, 5] (by decide) rfl
          exact hret (pl1_23, nI pl1_23, ab1_23, bw1_23, nt, f, g, pw, fp) _ _ _ _ _ (Or.inl rfl) hP9 hD9 hS (by first | exact absurd h32 h19 | exact rtQ_e (rH_e e17 h19 h40)) dd_P_readTerm_51
    · refine lv_iconst (v := nI 0) hx hb dd_P_readTerm_29 (by decide) ?_
      have hP9 := hP.sub (ws' := [(pa, .inr (4, [.ref tp, .int (nI ln), .int (nI pl1_23), .int fl1_23, .int (nI ab1_23), .int (nI bw1_23), .ref fpa])), (tp, .inl (cB, 240, .inl (fun i => nI (tb i)))), (fpa, .inl (cI, 3, .inl fp)), (y, .inr (5, [.ref yr, .ref yp, .int (nI nt)])), (yr, .inr (7, [.ref yl, .ref yh])), (yl, .inl (cJ, 12, .inr (.inl f))), (yh, .inl (cJ, 12, .inr (.inl g))), (yp, .inl (cI, 36, .inl (fun i => nI (pw i))))]) [6, 7, 0, 1, 2, 3, 4, 5] rfl
      have hD9 := hD.sub (ws' := [(pa, .inr (4, [.ref tp, .int (nI ln), .int (nI pl1_23), .int fl1_23, .int (nI ab1_23), .int (nI bw1_23), .ref fpa])), (tp, .inl (cB, 240, .inl (fun i => nI (tb i)))), (fpa, .inl (cI, 3, .inl fp)), (y, .inr (5, [.ref yr, .ref yp, .int (nI nt)])), (yr, .inr (7, [.ref yl, .ref yh])), (yl, .inl (cJ, 12, .inr (.inl f))), (yh, .inl (cJ, 12, .inr (.inl g))), (yp, .inl (cI, 36, .inl (fun i => nI (pw i))))]) [6, 7, 0, 1, 2, 3, 4, 5] (by decide) rfl
      exact hret (pl1_23, fl1_23, ab1_23, bw1_23, nt, f, g, pw, fp) _ _ _ _ _ (Or.inl rfl) hP9 hD9 hS (by obtain ⟨e1, he1, he2⟩ := rH_c e17 h19 hu_23 h26; rw [he2]; exact rtQ_e he1) dd_P_readTerm_30
