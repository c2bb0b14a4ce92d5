def rE (sv : Nat → Nat) (pl nm : Nat) (f g : Nat → Int64) (pw : Nat → Nat) (fp : Nat → Int32) : rqT :=
  if sv pl = nm then
    if sv (pl + 1) = 61 then match rPo sv (pl + 1 + 1) f g pw fp with
      | .error e1 => .error e1
      | .ok (p2, n2, x2, y2, w2, z2) => if sv p2 = 59 then .ok (p2 + 1, n2, x2, y2, w2, z2) else .error p2
    else .error (pl + 1)
  else .error pl
abbrev exQ (tb : Nat → Nat) (ln pl ch : Nat) (fl r : Int32) (pl1 : Nat) (fl1 : Int32) : Prop := (see tb ln pl = ch ∧ ¬ ch = 0 → r = nI 1 ∧ pl1 = pl + 1 ∧ fl1 = fl ∧ pl1 ≤ ln) ∧ (¬ see tb ln pl = ch → r = nI 0 ∧ fl1 = nI pl)
theorem ex_t {tb : Nat → Nat} {ln pl ch pl1 : Nat} {fl r fl1 : Int32} (h : exQ tb ln pl ch fl r pl1 fl1) (hr : ¬ r = 0) (hc : ¬ ch = 0) : see tb ln pl = ch ∧ pl1 = pl + 1 ∧ fl = fl1 ∧ pl1 ≤ ln := by
  by_cases hs : see tb ln pl = ch
  · obtain ⟨-, q2, q3, q4⟩ := h.1 ⟨hs, hc⟩
    exact ⟨hs, q2, q3.symm, q4⟩
  · exact absurd ((h.2 hs).1.trans nI_0) hr
theorem ex_f {tb : Nat → Nat} {ln pl ch pl1 : Nat} {fl r fl1 : Int32} (h : exQ tb ln pl ch fl r pl1 fl1) (hr : r = 0) (hc : ¬ ch = 0) : ¬ see tb ln pl = ch ∧ fl1 = nI pl := by
  by_cases hs : see tb ln pl = ch
  · exact absurd ((h.1 ⟨hs, hc⟩).1.symm.trans hr) (by decide)
  · exact ⟨hs, (h.2 hs).2⟩
theorem rqQ_ok {res : rqT} {ln pl1 nt1 : Nat} {fl r fl1 : Int32} {f1 g1 : Nat → Int64} {pw1 : Nat → Nat} {fp1 : Nat → Int32} (h : rqQ res ln fl r pl1 fl1 nt1 f1 g1 pw1 fp1) (hr : ¬ r = 0) : res = .ok (pl1, nt1, f1, g1, pw1, fp1) ∧ fl = fl1 ∧ pl1 ≤ ln := by
  cases res with
  | error e1 => exact absurd (h.1.trans nI_0) hr
  | ok z =>
    obtain ⟨a1, a2, a3, a4, a5, a6⟩ := z
    obtain ⟨-, q1, q2, q3, q4, q5, q6, q7, q8⟩ := h
    subst q1; subst q3; subst q4; subst q5; subst q6; subst q7
    exact ⟨rfl, q2.symm, q8⟩
theorem rqQ_er {res : rqT} {ln pl1 nt1 : Nat} {fl r fl1 : Int32} {f1 g1 : Nat → Int64} {pw1 : Nat → Nat} {fp1 : Nat → Int32} (h : rqQ res ln fl r pl1 fl1 nt1 f1 g1 pw1 fp1) (hr : r = 0) : ∃ e1, res = .error e1 ∧ fl1 = nI e1 := by
  cases res with
  | error e1 => exact ⟨e1, rfl, h.2⟩
  | ok z =>
    obtain ⟨a1, a2, a3, a4, a5, a6⟩ := z
    exact absurd (h.1.symm.trans hr) (by decide)
section RE
variable {tb : Nat → Nat} {ln pl nm pl1 pl3 nt1 nt3 nt9 pl9 : Nat} {fl r fl1 : Int32} {f g f1 g1 f3 g3 f9 g9 : Nat → Int64} {pw pw1 pw3 pw9 : Nat → Nat} {fp fp1 fp3 fp9 : Nat → Int32}
theorem rE_1 (h : exQ tb ln pl nm fl r pl1 fl1) (hr : r = 0) (hc : ¬ nm = 0) : rqQ (rE (see tb ln) pl nm f g pw fp) ln fl (nI 0) pl9 fl1 nt9 f9 g9 pw9 fp9 := by
  obtain ⟨h1, h2⟩ := ex_f h hr hc
  rw [h2]
  exact rqQ_e (if_neg h1)
theorem rE_2 (h0 : see tb ln pl = nm) (h : exQ tb ln (pl + 1) 61 fl r pl1 fl1) (hr : r = 0) : rqQ (rE (see tb ln) pl nm f g pw fp) ln fl (nI 0) pl9 fl1 nt9 f9 g9 pw9 fp9 := by
  obtain ⟨h1, h2⟩ := ex_f h hr (by decide)
  rw [h2]
  refine rqQ_e ?_
  unfold rE
  rw [if_pos h0, if_neg h1]
theorem rE_3 (h0 : see tb ln pl = nm) (h1 : see tb ln (pl + 1) = 61) (h : rqQ (rPo (see tb ln) (pl + 1 + 1) f g pw fp) ln fl r pl1 fl1 nt1 f1 g1 pw1 fp1) (hr : r = 0) : rqQ (rE (see tb ln) pl nm f g pw fp) ln fl (nI 0) pl9 fl1 nt9 f9 g9 pw9 fp9 := by
  obtain ⟨e1, h2, h3⟩ := rqQ_er h hr
  rw [h3]
  refine rqQ_e ?_
  unfold rE
  rw [if_pos h0, if_pos h1, h2]
theorem rE_4 (h0 : see tb ln pl = nm) (h1 : see tb ln (pl + 1) = 61) (h2 : rPo (see tb ln) (pl + 1 + 1) f g pw fp = .ok (pl3, nt3, f3, g3, pw3, fp3)) (h : exQ tb ln pl3 59 fl r pl1 fl1) (hr : r = 0) : rqQ (rE (see tb ln) pl nm f g pw fp) ln fl (nI 0) pl9 fl1 nt9 f9 g9 pw9 fp9 := by
  obtain ⟨h3, h4⟩ := ex_f h hr (by decide)
  rw [h4]
  refine rqQ_e ?_
  unfold rE
  rw [if_pos h0, if_pos h1, h2]
  exact if_neg h3
theorem rE_5 (h0 : see tb ln pl = nm) (h1 : see tb ln (pl + 1) = 61) (h2 : rPo (see tb ln) (pl + 1 + 1) f g pw fp = .ok (pl3, nt3, f3, g3, pw3, fp3)) (h : exQ tb ln pl3 59 fl r pl1 fl1) (hr : ¬ r = 0) : rqQ (rE (see tb ln) pl nm f g pw fp) ln fl (nI 1) pl1 fl1 nt3 f3 g3 pw3 fp3 := by
  obtain ⟨h3, h4, h5, h6⟩ := ex_t h hr (by decide)
  subst h4; subst h5
  refine rqQ_o ?_ h6
  unfold rE
  rw [if_pos h0, if_pos h1, h2]
  exact if_pos h3
end RE
set_option maxHeartbeats 4000000 in
set_option maxRecDepth 100000 in
theorem c_P_readEquation {l : Launch} {D : va_G} {cJ cI cB cY : ClassId} (pa : Nat) (tp : Nat) (ln : Nat) (pl : Nat) (ab : Nat) (bw : Nat) (fpa : Nat) (fl : Int32) (tb : Nat → Nat) (fp : Nat → Int32) (y : Nat) (yr : Nat) (yl : Nat) (yh : Nat) (yp : Nat) (nt : Nat) (f : Nat → Int64) (g : Nat → Int64) (pw : Nat → Nat) (nm : Nat) (hpl : pl ≤ ln) (hln : ln ≤ 240) (htb : ∀ i, tb i < 128) (hnm : 0 < nm ∧ nm < 128) :
    bo_i (S := Nat × Int32 × Nat × Nat × Nat × (Nat → Int64) × (Nat → Int64) × (Nat → Nat) × (Nat → Int32)) l D bo_cl (bo_ty cJ cI cB cY) yy_P_readEquation (bo_w yy_P_readEquation bb_P_readEquation 3 (some .boolean)) (bo_rm 5 115) [.ref pa, .int (nI nm), .ref y] [(pa, .inr (4, [.ref tp, .int (nI ln), .int (nI pl), .int fl, .int (nI ab), .int (nI bw), .ref fpa])), (tp, .inl (cB, 240, .inl (fun i => nI (tb i)))), (fpa, .inl (cI, 3, .inl fp)), (y, .inr (5, [.ref yr, .ref yp, .int (nI nt)])), (yr, .inr (7, [.ref yl, .ref yh])), (yl, .inl (cJ, 12, .inr (.inl f))), (yh, .inl (cJ, 12, .inr (.inl g))), (yp, .inl (cI, 36, .inl (fun i => nI (pw i))))] (fun r u => rqQ (rE (see tb ln) pl nm f g pw fp) ln fl r u.1 u.2.1 u.2.2.2.2.1 u.2.2.2.2.2.1 u.2.2.2.2.2.2.1 u.2.2.2.2.2.2.2.1 u.2.2.2.2.2.2.2.2) (fun u => [(pa, .inr (4, [.ref tp, .int (nI ln), .int (nI u.1), .int u.2.1, .int (nI u.2.2.1), .int (nI u.2.2.2.1), .ref fpa])), (tp, .inl (cB, 240, .inl (fun i => nI (tb i)))), (fpa, .inl (cI, 3, .inl u.2.2.2.2.2.2.2.2)), (y, .inr (5, [.ref yr, .ref yp, .int (nI u.2.2.2.2.1)])), (yr, .inr (7, [.ref yl, .ref yh])), (yl, .inl (cJ, 12, .inr (.inl u.2.2.2.2.2.1))), (yh, .inl (cJ, 12, .inr (.inl u.2.2.2.2.2.2.1))), (yp, .inl (cI, 36, .inl (fun i => nI (u.2.2.2.2.2.2.2.1 i))))]) := by
  refine bo_enter_z (cc := bb_P_readEquation) (maxL := 3) (by decide) rfl (Nat.le_of_ble_eq_true rfl) ?_
  intro p e s m args below meth c A ls Q hx hb hts hown hml hK hP hD hS hA hl hret
  have hl : lv_has ls 3 [(0, .ref pa), (1, .int (nI nm)), (2, .ref y)] := hl
  refine lv_aload_n hx hb dd_P_readEquation_0 rfl (lv_at hl 0 rfl) ?_
  refine lv_iload_n hx hb dd_P_readEquation_1 rfl (lv_at hl 1 rfl) ?_
  refine bo_goi (wr := [(fpa, .inl (cI, 3, .inl fp)), (y, .inr (5, [.ref yr, .ref yp, .int (nI nt)])), (yr, .inr (7, [.ref yl, .ref yh])), (yl, .inl (cJ, 12, .inr (.inl f))), (yh, .inl (cJ, 12, .inr (.inl g))), (yp, .inl (cI, 36, .inl (fun i => nI (pw i))))]) (bo_rV (c_P_expect (l := l) (D := D) (cJ := cJ) (cI := cI) (cB := cB) (cY := cY) pa tp ln pl ab bw fpa fl tb nm hpl hln htb hnm.2 _) ⟨hx, hb, hml, hown, hts⟩ (cwV 1 hts (bo_gV wd_447 wd_449 wp_6 wd_2 wd_450) rfl rfl rfl hd_P_expect (by decide)) hK hP hD [0, 1] rfl (by decide) 0 4 rfl rfl rfl rfl hl.1 rfl (Nat.le_of_ble_eq_true rfl) dd_P_readEquation_2 (by decide)) hP hD hS hA [0, 1] [2, 3, 4, 5, 6, 7] rfl rfl (by decide) (by decide) (fun r_2 u H locs hu_2 hP hD hS => ?_)
  obtain ⟨pl1_2, fl1_2⟩ := u
  have hu_2 : (see tb ln pl = nm ∧ ¬ nm = 0 → r_2 = nI 1 ∧ pl1_2 = pl + 1 ∧ fl1_2 = fl ∧ pl1_2 ≤ ln) ∧ (¬ see tb ln pl = nm → r_2 = nI 0 ∧ fl1_2 = nI pl) := hu_2
  have hP : va_P D bo_cl [(fpa, .inl (cI, 3, .inl fp)), (y, .inr (5, [.ref yr, .ref yp, .int (nI nt)])), (yr, .inr (7, [.ref yl, .ref yh])), (yl, .inl (cJ, 12, .inr (.inl f))), (yh, .inl (cJ, 12, .inr (.inl g))), (yp, .inl (cI, 36, .inl (fun i => nI (pw i)))), (pa, .inr (4, [.ref tp, .int (nI ln), .int (nI pl1_2), .int fl1_2, .int (nI ab), .int (nI bw), .ref fpa])), (tp, .inl (cB, 240, .inl (fun i => nI (tb i))))] H := hP
  have hD : va_D A [(fpa, .inl (cI, 3, .inl fp)), (y, .inr (5, [.ref yr, .ref yp, .int (nI nt)])), (yr, .inr (7, [.ref yl, .ref yh])), (yl, .inl (cJ, 12, .inr (.inl f))), (yh, .inl (cJ, 12, .inr (.inl g))), (yp, .inl (cI, 36, .inl (fun i => nI (pw i)))), (pa, .inr (4, [.ref tp, .int (nI ln), .int (nI pl1_2), .int fl1_2, .int (nI ab), .int (nI bw), .ref fpa])), (tp, .inl (cB, 240, .inl (fun i => nI (tb i))))] := hD
  refine lv_if_eq (tgt := 38) hx hb dd_P_readEquation_5 rfl (fun h5 => ?_) (fun h5 => ?_)
  · refine lv_iconst (v := nI 0) hx hb dd_P_readEquation_38 (by decide) ?_
    have hP9 := hP.sub (ws' := [(pa, .inr (4, [.ref tp, .int (nI ln), .int (nI pl1_2), .int fl1_2, .int (nI ab), .int (nI bw), .ref fpa])), (tp, .inl (cB, 240, .inl (fun i => nI (tb i)))), (fpa, .inl (cI, 3, .inl fp)), (y, .inr (5, [.ref yr, .ref yp, .int (nI nt)])), (yr, .inr (7, [.ref yl, .ref yh])), (yl, .inl (cJ, 12, .inr (.inl f))), (yh, .inl (cJ, 12, .inr (.inl g))), (yp, .inl (cI, 36, .inl (fun i => nI (pw i))))]) [6, 7, 0, 1, 2, 3, 4, 5] rfl
    have hD9 := hD.sub (ws' := [(pa, .inr (4, [.ref tp, .int (nI ln), .int (nI pl1_2), .int fl1_2, .int (nI ab), .int (nI bw), .ref fpa])), (tp, .inl (cB, 240, .inl (fun i => nI (tb i)))), (fpa, .inl (cI, 3, .inl fp)), (y, .inr (5, [.ref yr, .ref yp, .int (nI nt)])), (yr, .inr (7, [.ref yl, .ref yh])), (yl, .inl (cJ, 12, .inr (.inl f))), (yh, .inl (cJ, 12, .inr (.inl g))), (yp, .inl (cI, 36, .inl (fun i => nI (pw i))))]) [6, 7, 0, 1, 2, 3, 4, 5] (by decide) rfl
    exact hret (pl1_2, fl1_2, ab, bw, nt, f, g, pw, fp) _ _ _ _ _ (Or.inl rfl) hP9 hD9 hS (by first | exact rE_1 hu_2 h5 (by omega) | exact rE_2 hs_2 hu_11 h14 | exact rE_3 hs_2 hs_11 hu_19 h22 | exact rE_4 hs_2 hs_11 ho_19 hu_28 h31 | exact rE_5 hs_2 hs_11 ho_19 hu_28 h31) dd_P_readEquation_39
  · obtain ⟨hs_2, hp_2, hf_2, hl_2⟩ := ex_t hu_2 h5 (by omega)
    subst hp_2
    subst hf_2
    refine lv_aload_n hx hb dd_P_readEquation_8 rfl (lv_at hl 0 rfl) ?_
    refine lv_bipush (v := nI 61) hx hb dd_P_readEquation_9 (by decide) ?_
    refine bo_goi (wr := [(fpa, .inl (cI, 3, .inl fp)), (y, .inr (5, [.ref yr, .ref yp, .int (nI nt)])), (yr, .inr (7, [.ref yl, .ref yh])), (yl, .inl (cJ, 12, .inr (.inl f))), (yh, .inl (cJ, 12, .inr (.inl g))), (yp, .inl (cI, 36, .inl (fun i => nI (pw i))))]) (bo_rV (c_P_expect (l := l) (D := D) (cJ := cJ) (cI := cI) (cB := cB) (cY := cY) pa tp ln (pl + 1) ab bw fpa fl tb 61 hl_2 hln htb (by decide) _) ⟨hx, hb, hml, hown, hts⟩ (cwV 1 hts (bo_gV wd_447 wd_449 wp_6 wd_2 wd_450) rfl rfl rfl hd_P_expect (by decide)) hK hP hD [6, 7] rfl (by decide) 6 4 rfl rfl rfl rfl hl.1 rfl (Nat.le_of_ble_eq_true rfl) dd_P_readEquation_11 (by decide)) hP hD hS hA [6, 7] [0, 1, 2, 3, 4, 5] rfl rfl (by decide) (by decide) (fun r_11 u H locs hu_11 hP hD hS => ?_)
    obtain ⟨pl1_11, fl1_11⟩ := u
    have hu_11 : (see tb ln (pl + 1) = 61 ∧ ¬ 61 = 0 → r_11 = nI 1 ∧ pl1_11 = (pl + 1) + 1 ∧ fl1_11 = fl ∧ pl1_11 ≤ ln) ∧ (¬ see tb ln (pl + 1) = 61 → r_11 = nI 0 ∧ fl1_11 = nI (pl + 1)) := hu_11
    have hP : va_P D bo_cl [(fpa, .inl (cI, 3, .inl fp)), (y, .inr (5, [.ref yr, .ref yp, .int (nI nt)])), (yr, .inr (7, [.ref yl, .ref yh])), (yl, .inl (cJ, 12, .inr (.inl f))), (yh, .inl (cJ, 12, .inr (.inl g))), (yp, .inl (cI, 36, .inl (fun i => nI (pw i)))), (pa, .inr (4, [.ref tp, .int (nI ln), .int (nI pl1_11), .int fl1_11, .int (nI ab), .int (nI bw), .ref fpa])), (tp, .inl (cB, 240, .inl (fun i => nI (tb i))))] H := hP
    have hD : va_D A [(fpa, .inl (cI, 3, .inl fp)), (y, .inr (5, [.ref yr, .ref yp, .int (nI nt)])), (yr, .inr (7, [.ref yl, .ref yh])), (yl, .inl (cJ, 12, .inr (.inl f))), (yh, .inl (cJ, 12, .inr (.inl g))), (yp, .inl (cI, 36, .inl (fun i => nI (pw i)))), (pa, .inr (4, [.ref tp, .int (nI ln), .int (nI pl1_11), .int fl1_11, .int (nI ab), .int (nI bw), .ref fpa])), (tp, .inl (cB, 240, .inl (fun i => nI (tb i))))] := hD
    refine lv_if_eq (tgt := 38) hx hb dd_P_readEquation_14 rfl (fun h14 => ?_) (fun h14 => ?_)
    · refine lv_iconst (v := nI 0) hx hb dd_P_readEquation_38 (by decide) ?_
      have hP9 := hP.sub (ws' := [(pa, .inr (4, [.ref tp, .int (nI ln), .int (nI pl1_11), .int fl1_11, .int (nI ab), .int (nI bw), .ref fpa])), (tp, .inl (cB, 240, .inl (fun i => nI (tb i)))), (fpa, .inl (cI, 3, .inl fp)), (y, .inr (5, [.ref yr, .ref yp, .int (nI nt)])), (yr, .inr (7, [.ref yl, .ref yh])), (yl, .inl (cJ, 12, .inr (.inl f))), (yh, .inl (cJ, 12, .inr (.inl g))), (yp, .inl (cI, 36, .inl (fun i => nI (pw i))))]) [6, 7, 0, 1, 2, 3, 4, 5] rfl
      have hD9 := hD.sub (ws' := [(pa, .inr (4, [.ref tp, .int (nI ln), .int (nI pl1_11), .int fl1_11, .int (nI ab), .int (nI bw), .ref fpa])), (tp, .inl (cB, 240, .inl (fun i => nI (tb i)))), (fpa, .inl (cI, 3, .inl fp)), (y, .inr (5, [.ref yr, .ref yp, .int (nI nt)])), (yr, .inr (7, [.ref yl, .ref yh])), (yl, .inl (cJ, 12, .inr (.inl f))), (yh, .inl (cJ, 12, .inr (.inl g))), (yp, .inl (cI, 36, .inl (fun i => nI (pw i))))]) [6, 7, 0, 1, 2, 3, 4, 5] (by decide) rfl
      exact hret (pl1_11, fl1_11, ab, bw, nt, f, g, pw, fp) _ _ _ _ _ (Or.inl rfl) hP9 hD9 hS (by first | exact rE_1 hu_2 h5 (by omega) | exact rE_2 hs_2 hu_11 h14 | exact rE_3 hs_2 hs_11 hu_19 h22 | exact rE_4 hs_2 hs_11 ho_19 hu_28 h31 | exact rE_5 hs_2 hs_11 ho_19 hu_28 h31) dd_P_readEquation_39
    · obtain ⟨hs_11, hp_11, hf_11, hl_11⟩ := ex_t hu_11 h14 (by decide)
      subst hp_11
      subst hf_11
      refine lv_aload_n hx hb dd_P_readEquation_17 rfl (lv_at hl 0 rfl) ?_
      refine lv_aload_n hx hb dd_P_readEquation_18 rfl (lv_at hl 2 rfl) ?_
      refine bo_goi (wr := []) (bo_rV (c_P_readPolynomial (l := l) (D := D) (cJ := cJ) (cI := cI) (cB := cB) (cY := cY) pa tp ln (pl + 1 + 1) ab bw fpa fl tb fp y yr yl yh yp nt f g pw hl_11 hln htb _) ⟨hx, hb, hml, hown, hts⟩ (cwV 1 hts (bo_gV wd_459 wd_461 wp_9 wd_2 wd_462) rfl rfl rfl hd_P_readPolynomial (by decide)) hK hP hD [6, 7, 0, 1, 2, 3, 4, 5] rfl (by decide) 6 4 rfl rfl rfl rfl hl.1 rfl (Nat.le_of_ble_eq_true rfl) dd_P_readEquation_19 (by decide)) hP hD hS hA [6, 7, 0, 1, 2, 3, 4, 5] [] rfl rfl (by decide) (by decide) (fun r_19 u H locs hu_19 hP hD hS => ?_)
      obtain ⟨pl1_19, fl1_19, ab1_19, bw1_19, nt1_19, f1_19, g1_19, pw1_19, fp1_19⟩ := u
      have hu_19 : rqQ (rPo (see tb ln) (pl + 1 + 1) f g pw fp) ln fl r_19 pl1_19 fl1_19 nt1_19 f1_19 g1_19 pw1_19 fp1_19 := hu_19
      have hP : va_P D bo_cl [(pa, .inr (4, [.ref tp, .int (nI ln), .int (nI pl1_19), .int fl1_19, .int (nI ab1_19), .int (nI bw1_19), .ref fpa])), (tp, .inl (cB, 240, .inl (fun i => nI (tb i)))), (fpa, .inl (cI, 3, .inl fp1_19)), (y, .inr (5, [.ref yr, .ref yp, .int (nI nt1_19)])), (yr, .inr (7, [.ref yl, .ref yh])), (yl, .inl (cJ, 12, .inr (.inl f1_19))), (yh, .inl (cJ, 12, .inr (.inl g1_19))), (yp, .inl (cI, 36, .inl (fun i => nI (pw1_19 i))))] H := hP
      have hD : va_D A [(pa, .inr (4, [.ref tp, .int (nI ln), .int (nI pl1_19), .int fl1_19, .int (nI ab1_19), .int (nI bw1_19), .ref fpa])), (tp, .inl (cB, 240, .inl (fun i => nI (tb i)))), (fpa, .inl (cI, 3, .inl fp1_19)), (y, .inr (5, [.ref yr, .ref yp, .int (nI nt1_19)])), (yr, .inr (7, [.ref yl, .ref yh])), (yl, .inl (cJ, 12, .inr (.inl f1_19))), (yh, .inl (cJ, 12, .inr (.inl g1_19))), (yp, .inl (cI, 36, .inl (fun i => nI (pw1_19 i))))] := hD
      refine lv_if_eq (tgt := 38) hx hb dd_P_readEquation_22 rfl (fun h22 => ?_) (fun h22 => ?_)
      · refine lv_iconst (v := nI 0) hx hb dd_P_readEquation_38 (by decide) ?_
        have hP9 := hP.sub (ws' := [(pa, .inr (4, [.ref tp, .int (nI ln), .int (nI pl1_19), .int fl1_19, .int (nI ab1_19), .int (nI bw1_19), .ref fpa])), (tp, .inl (cB, 240, .inl (fun i => nI (tb i)))), (fpa, .inl (cI, 3, .inl fp1_19)), (y, .inr (5, [.ref yr, .ref yp, .int (nI nt1_19)])), (yr, .inr (7, [.ref yl, .ref yh])), (yl, .inl (cJ, 12, .inr (.inl f1_19))), (yh, .inl (cJ, 12, .inr (.inl g1_19))), (yp, .inl (cI, 36, .inl (fun i => nI (pw1_19 i))))]) [0, 1, 2, 3, 4, 5, 6, 7] rfl
        have hD9 := hD.sub (ws' := [(pa, .inr (4, [.ref tp, .int (nI ln), .int (nI pl1_19), .int fl1_19, .int (nI ab1_19), .int (nI bw1_19), .ref fpa])), (tp, .inl (cB, 240, .inl (fun i => nI (tb i)))), (fpa, .inl (cI, 3, .inl fp1_19)), (y, .inr (5, [.ref yr, .ref yp, .int (nI nt1_19)])), (yr, .inr (7, [.ref yl, .ref yh])), (yl, .inl (cJ, 12, .inr (.inl f1_19))), (yh, .inl (cJ, 12, .inr (.inl g1_19))), (yp, .inl (cI, 36, .inl (fun i => nI (pw1_19 i))))]) [0, 1, 2, 3, 4, 5, 6, 7] (by decide) rfl
        exact hret (pl1_19, fl1_19, ab1_19, bw1_19, nt1_19, f1_19, g1_19, pw1_19, fp1_19) _ _ _ _ _ (Or.inl rfl) hP9 hD9 hS (by first | exact rE_1 hu_2 h5 (by omega) | exact rE_2 hs_2 hu_11 h14 | exact rE_3 hs_2 hs_11 hu_19 h22 | exact rE_4 hs_2 hs_11 ho_19 hu_28 h31 | exact rE_5 hs_2 hs_11 ho_19 hu_28 h31) dd_P_readEquation_39
      · obtain ⟨ho_19, hf_19, hl_19⟩ := rqQ_ok hu_19 h22
        subst hf_19
        refine lv_aload_n hx hb dd_P_readEquation_25 rfl (lv_at hl 0 rfl) ?_
        refine lv_bipush (v := nI 59) hx hb dd_P_readEquation_26 (by decide) ?_
        refine bo_goi (wr := [(fpa, .inl (cI, 3, .inl fp1_19)), (y, .inr (5, [.ref yr, .ref yp, .int (nI nt1_19)])), (yr, .inr (7, [.ref yl, .ref yh])), (yl, .inl (cJ, 12, .inr (.inl f1_19))), (yh, .inl (cJ, 12, .inr (.inl g1_19))), (yp, .inl (cI, 36, .inl (fun i => nI (pw1_19 i))))]) (bo_rV (c_P_expect (l := l) (D := D) (cJ := cJ) (cI := cI) (cB := cB) (cY := cY) pa tp ln pl1_19 ab1_19 bw1_19 fpa fl tb 59 hl_19 hln htb (by decide) _) ⟨hx, hb, hml, hown, hts⟩ (cwV 1 hts (bo_gV wd_447 wd_449 wp_6 wd_2 wd_450) rfl rfl rfl hd_P_expect (by decide)) hK hP hD [0, 1] rfl (by decide) 0 4 rfl rfl rfl rfl hl.1 rfl (Nat.le_of_ble_eq_true rfl) dd_P_readEquation_28 (by decide)) hP hD hS hA [0, 1] [2, 3, 4, 5, 6, 7] rfl rfl (by decide) (by decide) (fun r_28 u H locs hu_28 hP hD hS => ?_)
        obtain ⟨pl1_28, fl1_28⟩ := u
        have hu_28 : (see tb ln pl1_19 = 59 ∧ ¬ 59 = 0 → r_28 = nI 1 ∧ pl1_28 = pl1_19 + 1 ∧ fl1_28 = fl ∧ pl1_28 ≤ ln) ∧ (¬ see tb ln pl1_19 = 59 → r_28 = nI 0 ∧ fl1_28 = nI pl1_19) := hu_28
        have hP : va_P D bo_cl [(fpa, .inl (cI, 3, .inl fp1_19)), (y, .inr (5, [.ref yr, .ref yp, .int (nI nt1_19)])), (yr, .inr (7, [.ref yl, .ref yh])), (yl, .inl (cJ, 12, .inr (.inl f1_19))), (yh, .inl (cJ, 12, .inr (.inl g1_19))), (yp, .inl (cI, 36, .inl (fun i => nI (pw1_19 i)))), (pa, .inr (4, [.ref tp, .int (nI ln), .int (nI pl1_28), .int fl1_28, .int (nI ab1_19), .int (nI bw1_19), .ref fpa])), (tp, .inl (cB, 240, .inl (fun i => nI (tb i))))] H := hP
        have hD : va_D A [(fpa, .inl (cI, 3, .inl fp1_19)), (y, .inr (5, [.ref yr, .ref yp, .int (nI nt1_19)])), (yr, .inr (7, [.ref yl, .ref yh])), (yl, .inl (cJ, 12, .inr (.inl f1_19))), (yh, .inl (cJ, 12, .inr (.inl g1_19))), (yp, .inl (cI, 36, .inl (fun i => nI (pw1_19 i)))), (pa, .inr (4, [.ref tp, .int (nI ln), .int (nI pl1_28), .int fl1_28, .int (nI ab1_19), .int (nI bw1_19), .ref fpa])), (tp, .inl (cB, 240, .inl (fun i => nI (tb i))))] := hD
        refine lv_if_eq (tgt := 38) hx hb dd_P_readEquation_31 rfl (fun h31 => ?_) (fun h31 => ?_)
        · refine lv_iconst (v := nI 0) hx hb dd_P_readEquation_38 (by decide) ?_
          have hP9 := hP.sub (ws' := [(pa, .inr (4, [.ref tp, .int (nI ln), .int (nI pl1_28), .int fl1_28, .int (nI ab1_19), .int (nI bw1_19), .ref fpa])), (tp, .inl (cB, 240, .inl (fun i => nI (tb i)))), (fpa, .inl (cI, 3, .inl fp1_19)), (y, .inr (5, [.ref yr, .ref yp, .int (nI nt1_19)])), (yr, .inr (7, [.ref yl, .ref yh])), (yl, .inl (cJ, 12, .inr (.inl f1_19))), (yh, .inl (cJ, 12, .inr (.inl g1_19))), (yp, .inl (cI, 36, .inl (fun i => nI (pw1_19 i))))]) [6, 7, 0, 1, 2, 3, 4, 5] rfl
          have hD9 := hD.sub (ws' := [(pa, .inr (4, [.ref tp, .int (nI ln), .int (nI pl1_28), .int fl1_28, .int (nI ab1_19), .int (nI bw1_19), .ref fpa])), (tp, .inl (cB, 240, .inl (fun i => nI (tb i)))), (fpa, .inl (cI, 3, .inl fp1_19)), (y, .inr (5, [.ref yr, .ref yp, .int (nI nt1_19)])), (yr, .inr (7, [.ref yl, .ref yh])), (yl, .inl (cJ, 12, .inr (.inl f1_19))), (yh, .inl (cJ, 12, .inr (.inl g1_19))), (yp, .inl (cI, 36, .inl (fun i => nI (pw1_19 i))))]) [6, 7, 0, 1, 2, 3, 4, 5] (by decide) rfl
          exact hret (pl1_28, fl1_28, ab1_19, bw1_19, nt1_19, f1_19, g1_19, pw1_19, fp1_19) _ _ _ _ _ (Or.inl rfl) hP9 hD9 hS (by first | exact rE_1 hu_2 h5 (by omega) | exact rE_2 hs_2 hu_11 h14 | exact rE_3 hs_2 hs_11 hu_19 h22 | exact rE_4 hs_2 hs_11 ho_19 hu_28 h31 | exact rE_5 hs_2 hs_11 ho_19 hu_28 h31) dd_P_readEquation_39
        · refine lv_iconst (v := nI 1) hx hb dd_P_readEquation_34 (by decide) ?_
          refine lv_goto (tgt := 39) hx hb dd_P_readEquation_35 rfl ?_
          have hP9 := hP.sub (ws' := [(pa, .inr (4, [.ref tp, .int (nI ln), .int (nI pl1_28), .int fl1_28, .int (nI ab1_19), .int (nI bw1_19), .ref fpa])), (tp, .inl (cB, 240, .inl (fun i => nI (tb i)))), (fpa, .inl (cI, 3, .inl fp1_19)), (y, .inr (5, [.ref yr, .ref yp, .int (nI nt1_19)])), (yr, .inr (7, [.ref yl, .ref yh])), (yl, .inl (cJ, 12, .inr (.inl f1_19))), (yh, .inl (cJ, 12, .inr (.inl g1_19))), (yp, .inl (cI, 36, .inl (fun i => nI (pw1_19 i))))]) [6, 7, 0, 1, 2, 3, 4, 5] rfl
          have hD9 := hD.sub (ws' := [(pa, .inr (4, [.ref tp, .int (nI ln), .int (nI pl1_28), .int fl1_28, .int (nI ab1_19), .int (nI bw1_19), .ref fpa])), (tp, .inl (cB, 240, .inl (fun i => nI (tb i)))), (fpa, .inl (cI, 3, .inl fp1_19)), (y, .inr (5, [.ref yr, .ref yp, .int (nI nt1_19)])), (yr, .inr (7, [.ref yl, .ref yh])), (yl, .inl (cJ, 12, .inr (.inl f1_19))), (yh, .inl (cJ, 12, .inr (.inl g1_19))), (yp, .inl (cI, 36, .inl (fun i => nI (pw1_19 i))))]) [6, 7, 0, 1, 2, 3, 4, 5] (by decide) rfl
          exact hret (pl1_28, fl1_28, ab1_19, bw1_19, nt1_19, f1_19, g1_19, pw1_19, fp1_19) _ _ _ _ _ (Or.inr rfl) hP9 hD9 hS (by first | exact rE_1 hu_2 h5 (by omega) | exact rE_2 hs_2 hu_11 h14 | exact rE_3 hs_2 hs_11 hu_19 h22 | exact rE_4 hs_2 hs_11 ho_19 hu_28 h31 | exact rE_5 hs_2 hs_11 ho_19 hu_28 h31) dd_P_readEquation_39
