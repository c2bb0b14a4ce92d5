/-! factors, terms, polynomials -/
def fpN (fp : Nat → Int32) (v pl : Nat) : Nat → Int32 := if fp v = -1 then upd fp v (nI pl) else fp
abbrev rfT : Type := Except Nat (Nat × (Nat → Nat) × (Nat → Int32))
def rF (sv : Nat → Nat) (b : Nat) : Nat → Nat → Nat → (Nat → Nat) → (Nat → Int32) → rfT
  | 0, pl, _, _, _ => .error pl
  | k + 1, pl, ro, pw, fp =>
    if 120 ≤ sv pl ∧ sv pl ≤ 122 then
      if ro = 0 then .error pl
      else match rP sv (pl + 1) ro with
        | .error e1 => .error e1
        | .ok (p1, q1) => rF sv b k p1 (ro - q1) (va_up pw (b + (sv pl - 120)) (pw (b + (sv pl - 120)) + q1)) (fpN fp (sv pl - 120) pl)
    else .ok (pl, pw, fp)
def rfQ (res : rfT) (ln : Nat) (fl r : Int32) (pl1 : Nat) (fl1 : Int32) (pw1 : Nat → Nat) (fp1 : Nat → Int32) : Prop := match res with
  | .ok (p1, w1, f1) => r = nI 1 ∧ pl1 = p1 ∧ fl1 = fl ∧ pw1 = w1 ∧ fp1 = f1 ∧ p1 ≤ ln
  | .error e1 => r = nI 0 ∧ fl1 = nI e1
theorem lt_n {x : Nat} {r : Int32} (h : r = ltI x) (h1 : ¬ r = -1) : ∃ v, v < 3 ∧ x = v + 120 ∧ r = nI v := by
  unfold ltI at h
  by_cases hx : 120 ≤ x ∧ x ≤ 122
  · rw [if_pos hx] at h
    exact ⟨x - 120, by omega, by omega, h⟩
  · rw [if_neg hx] at h
    exact absurd h h1
theorem lt_no {x : Nat} {r : Int32} (h : r = ltI x) (h1 : r = -1) : ¬ (120 ≤ x ∧ x ≤ 122) := by
  intro hx
  unfold ltI at h
  rw [if_pos hx, h1] at h
  rcases (show x = 120 ∨ x = 121 ∨ x = 122 by omega) with rfl | rfl | rfl <;> exact absurd h (by decide)
theorem rP_q {sv : Nat → Nat} {pl ro p1 q1 : Nat} (h : rP sv pl ro = .ok (p1, q1)) (hr : 0 < ro) : 1 ≤ q1 ∧ q1 ≤ ro ∧ q1 ≤ 4 := by
  unfold rP at h
  split at h
  · split at h
    · rename_i h1
      cases h
      omega
    · cases h
  · cases h
    omega
theorem rpQ_ok {sv : Nat → Nat} {pl ro ln pl1 : Nat} {fl r fl1 : Int32} (h : rpQ (rP sv pl ro) ln fl r pl1 fl1) (h1 : ¬ r = -1) : ∃ q1, rP sv pl ro = .ok (pl1, q1) ∧ r = nI q1 ∧ fl1 = fl ∧ pl1 ≤ ln := by
  cases hres : rP sv pl ro with
  | error e1 =>
    rw [hres] at h
    exact absurd h.1 h1
  | ok z =>
    obtain ⟨p1, q1⟩ := z
    rw [hres] at h
    obtain ⟨a1, a2, a3, a4⟩ := h
    subst a2
    exact ⟨q1, rfl, a1, a3, a4⟩
theorem rpQ_er {sv : Nat → Nat} {pl ro ln pl1 : Nat} {fl r fl1 : Int32} (h : rpQ (rP sv pl ro) ln fl r pl1 fl1) (hr : 0 < ro) (h1 : r = -1) : ∃ e1, rP sv pl ro = .error e1 ∧ fl1 = nI e1 := by
  cases hres : rP sv pl ro with
  | error e1 =>
    rw [hres] at h
    exact ⟨e1, rfl, h.2⟩
  | ok z =>
    obtain ⟨p1, q1⟩ := z
    have hq := rP_q hres hr
    rw [hres] at h
    have h2 : nI q1 = -1 := h.1.symm.trans h1
    rcases (show q1 = 1 ∨ q1 = 2 ∨ q1 = 3 ∨ q1 = 4 by omega) with rfl | rfl | rfl | rfl <;> exact absurd h2 (by decide)
section RF
variable {sv : Nat → Nat} {b n pl2 ro : Nat} {pw2 : Nat → Nat} {fp2 : Nat → Int32} {T : rfT}
theorem rF_no (hz : rF sv b (n + 1) pl2 ro pw2 fp2 = T) (h : ¬ (120 ≤ sv pl2 ∧ sv pl2 ≤ 122)) : T = .ok (pl2, pw2, fp2) := by
  rw [rF, if_neg h] at hz
  exact hz.symm
theorem rF_full (hz : rF sv b (n + 1) pl2 ro pw2 fp2 = T) {v : Nat} (hv : v < 3) (hx : sv pl2 = v + 120) (h : ro = 0) : T = .error pl2 := by
  rw [rF, if_pos (by omega), if_pos h] at hz
  exact hz.symm
theorem rF_err (hz : rF sv b (n + 1) pl2 ro pw2 fp2 = T) {v e1 : Nat} (hv : v < 3) (hx : sv pl2 = v + 120) (h : ¬ ro = 0) (hp : rP sv (pl2 + 1) ro = .error e1) : T = .error e1 := by
  rw [rF, if_pos (by omega), if_neg h, hp] at hz
  exact hz.symm
theorem rF_step (hz : rF sv b (n + 1) pl2 ro pw2 fp2 = T) {v p1 q1 : Nat} {fp3 : Nat → Int32} (hv : v < 3) (hx : sv pl2 = v + 120) (h : ¬ ro = 0) (hp : rP sv (pl2 + 1) ro = .ok (p1, q1)) (hf : fp3 = if fp2 v = -1 then upd fp2 v (nI pl2) else fp2) : rF sv b n p1 (ro - q1) (va_up pw2 (b + v) (pw2 (b + v) + q1)) fp3 = T := by
  rw [rF, if_pos (by omega), if_neg h, hp, hx] at hz
  have hf2 : fp3 = fpN fp2 v pl2 := hf
  rw [hf2]
  rw [show v + 120 - 120 = v by omega] at hz
  exact hz
end RF
theorem rfQ_e {T : rfT} {e1 ln pl1 : Nat} {fl : Int32} {pw1 : Nat → Nat} {fp1 : Nat → Int32} (h : T = .error e1) : rfQ T ln fl (nI 0) pl1 (nI e1) pw1 fp1 := by rw [h]; exact ⟨rfl, rfl⟩
theorem rfQ_o {T : rfT} {ln pl1 : Nat} {fl : Int32} {pw1 : Nat → Nat} {fp1 : Nat → Int32} (h : T = .ok (pl1, pw1, fp1)) (hl : pl1 ≤ ln) : rfQ T ln fl (nI 1) pl1 fl pw1 fp1 := by rw [h]; exact ⟨rfl, rfl, rfl, rfl, rfl, hl⟩
set_option maxHeartbeats 4000000 in
set_option maxRecDepth 100000 in
theorem c_P_readFactors {l : Launch} {D : va_G} {cJ cI cB cY : ClassId} (pa : Nat) (tp : Nat) (ln : Nat) (pl : Nat) (ab : Nat) (bw : Nat) (fpa : Nat) (fl : Int32) (tb : Nat → Nat) (fp : Nat → Int32) (y : Nat) (yr : Nat) (yl : Nat) (yh : Nat) (yp : Nat) (nt : Nat) (f : Nat → Int64) (g : Nat → Int64) (pw : Nat → Nat) (hpl : pl ≤ ln) (hln : ln ≤ 240) (htb : ∀ i, tb i < 128) (hnt : 0 < nt) (hn12 : nt ≤ 12) :
    bo_i (S := Nat × Int32 × (Nat → Nat) × (Nat → Int32)) l D bo_cl (bo_ty cJ cI cB cY) yy_P_readFactors (bo_w yy_P_readFactors bb_P_readFactors 6 (some .boolean)) (bo_rm 2 43) [.ref pa, .ref y] [(pa, .inr (4, [.ref tp, .int (nI ln), .int (nI pl), .int fl, .int (nI ab), .int (nI bw), .ref fpa])), (tp, .inl (cB, 240, .inl (fun i => nI (tb i)))), (fpa, .inl (cI, 3, .inl fp)), (y, .inr (5, [.ref yr, .ref yp, .int (nI nt)])), (yr, .inr (7, [.ref yl, .ref yh])), (yl, .inl (cJ, 12, .inr (.inl f))), (yh, .inl (cJ, 12, .inr (.inl g))), (yp, .inl (cI, 36, .inl (fun i => nI (pw i))))] (fun r u => rfQ (rF (see tb ln) ((nt - 1) * 3) 7 pl 6 pw fp) ln fl r u.1 u.2.1 u.2.2.1 u.2.2.2) (fun u => [(pa, .inr (4, [.ref tp, .int (nI ln), .int (nI u.1), .int u.2.1, .int (nI ab), .int (nI bw), .ref fpa])), (tp, .inl (cB, 240, .inl (fun i => nI (tb i)))), (fpa, .inl (cI, 3, .inl u.2.2.2)), (y, .inr (5, [.ref yr, .ref yp, .int (nI nt)])), (yr, .inr (7, [.ref yl, .ref yh])), (yl, .inl (cJ, 12, .inr (.inl f))), (yh, .inl (cJ, 12, .inr (.inl g))), (yp, .inl (cI, 36, .inl (fun i => nI (u.2.2.1 i))))]) := by
  refine bo_enter_z (cc := bb_P_readFactors) (maxL := 6) (by decide) rfl (Nat.le_of_ble_eq_true rfl) ?_
  intro p e s m args below meth c A ls Q hx hb hts hown hml hK hP hD hS hA hl hret
  have hl : lv_has ls 6 [(0, .ref pa), (1, .ref y)] := hl
  refine lv_bipush (v := nI 6) hx hb dd_P_readFactors_0 (by decide) ?_
  refine lv_istore_n (lv' := [(2, .int (nI 6)), (0, .ref pa), (1, .ref y)]) hx hb dd_P_readFactors_2 rfl hl (by decide) rfl (fun ls hl => ?_)
  refine lv_iconst (v := nI 0) hx hb dd_P_readFactors_3 (by decide) ?_
  refine lv_istore_n (lv' := [(3, .int (nI 0)), (2, .int (nI 6)), (0, .ref pa), (1, .ref y)]) hx hb dd_P_readFactors_4 rfl hl (by decide) rfl (fun ls hl => ?_)
  have lo5 : ∀ (fu : Nat) (k : Nat) (ro : Nat) (pl2 : Nat) (pw2 : Nat → Nat) (fp2 : Nat → Int32) (hk : k ≤ 7) (hro : ro ≤ 6) (hpl2 : pl2 ≤ ln) (hz : rF (see tb ln) ((nt - 1) * 3) (7 - k) pl2 ro pw2 fp2 = (rF (see tb ln) ((nt - 1) * 3) 7 pl 6 pw fp)) (ls : Array Slot) (H : Heap) (locs : List Loc), (7 - k) < fu → lv_has ls 6 [(0, .ref pa), (1, .ref y), (2, .int (nI ro)), (3, .int (nI k))] → va_P D bo_cl [(pa, .inr (4, [.ref tp, .int (nI ln), .int (nI pl2), .int fl, .int (nI ab), .int (nI bw), .ref fpa])), (tp, .inl (cB, 240, .inl (fun i => nI (tb i)))), (fpa, .inl (cI, 3, .inl fp2)), (y, .inr (5, [.ref yr, .ref yp, .int (nI nt)])), (yr, .inr (7, [.ref yl, .ref yh])), (yl, .inl (cJ, 12, .inr (.inl f))), (yh, .inl (cJ, 12, .inr (.inl g))), (yp, .inl (cI, 36, .inl (fun i => nI (pw2 i))))] H → va_D A [(pa, .inr (4, [.ref tp, .int (nI ln), .int (nI pl2), .int fl, .int (nI ab), .int (nI bw), .ref fpa])), (tp, .inl (cB, 240, .inl (fun i => nI (tb i)))), (fpa, .inl (cI, 3, .inl fp2)), (y, .inr (5, [.ref yr, .ref yp, .int (nI nt)])), (yr, .inr (7, [.ref yl, .ref yh])), (yl, .inl (cJ, 12, .inr (.inl f))), (yh, .inl (cJ, 12, .inr (.inl g))), (yp, .inl (cI, 36, .inl (fun i => nI (pw2 i))))] → va_S A s.heap H locs → W p l e (bo_rm 2 43) s m args below meth c H locs 0 0 Q (F0 m 5 ls []) := by
    intro fu5
    induction fu5 with
    | zero => intro k ro pl2 pw2 fp2 hk hro hpl2 hz ls H locs hfu; exact absurd hfu (Nat.not_lt_zero _)
    | succ fu5 ih5 =>
      intro k ro pl2 pw2 fp2 hk hro hpl2 hz ls H locs hfu5 hl hP hD hS
      refine lv_iload_n hx hb dd_P_readFactors_5 rfl (lv_at hl 3 rfl) ?_
      refine lv_bipush (v := nI 6) hx hb dd_P_readFactors_6 (by decide) ?_
      refine bo_icmp_gt (tgt := 88) hx hb dd_P_readFactors_8 rfl (by omega) (by omega) (fun h8 => ?_) (fun h8 => ?_)
      · refine lv_aload_n hx hb dd_P_readFactors_88 rfl (lv_at hl 0 rfl) ?_
        refine lv_aload_n hx hb dd_P_readFactors_89 rfl (lv_at hl 0 rfl) ?_
        refine va_get (D := D) (ci := 4) (v := .int (nI pl2)) (C := RR_P) (T := TT_P) (N := 7) hx hb hts (fun w h => List.mem_cons_of_mem _ (in_P w h)) hown hK hP 0 rfl rfl 2 (by decide) (hts _ (List.mem_cons_of_mem _ wd_37)) (fun _ h9 => h9) rfl dd_P_readFactors_90 ?_
        refine bo_goi (wr := [(tp, .inl (cB, 240, .inl (fun i => nI (tb i)))), (fpa, .inl (cI, 3, .inl fp2)), (y, .inr (5, [.ref yr, .ref yp, .int (nI nt)])), (yr, .inr (7, [.ref yl, .ref yh])), (yl, .inl (cJ, 12, .inr (.inl f))), (yh, .inl (cJ, 12, .inr (.inl g))), (yp, .inl (cI, 36, .inl (fun i => nI (pw2 i))))]) (bo_rV (c_P_faultAt (l := l) (D := D) (cJ := cJ) (cI := cI) (cB := cB) (cY := cY) pa tp ln pl2 ab bw fpa fl (nI pl2)  _) ⟨hx, hb, hml, hown, hts⟩ (cwV 1 hts (bo_gV wd_455 wd_457 wp_8 wd_2 wd_458) rfl rfl rfl hd_P_faultAt (by decide)) hK hP hD [0] rfl (by decide) 0 4 rfl rfl rfl rfl hl.1 rfl (Nat.le_of_ble_eq_true rfl) dd_P_readFactors_93 (by decide)) hP hD hS hA [0] [1, 2, 3, 4, 5, 6, 7] rfl rfl (by decide) (by decide) (fun r_93 u H locs hu_93 hP hD hS => ?_)
        have hu_93 : r_93 = nI 0 := hu_93
        have hP : va_P D bo_cl [(tp, .inl (cB, 240, .inl (fun i => nI (tb i)))), (fpa, .inl (cI, 3, .inl fp2)), (y, .inr (5, [.ref yr, .ref yp, .int (nI nt)])), (yr, .inr (7, [.ref yl, .ref yh])), (yl, .inl (cJ, 12, .inr (.inl f))), (yh, .inl (cJ, 12, .inr (.inl g))), (yp, .inl (cI, 36, .inl (fun i => nI (pw2 i)))), (pa, .inr (4, [.ref tp, .int (nI ln), .int (nI pl2), .int (nI pl2), .int (nI ab), .int (nI bw), .ref fpa]))] H := hP
        have hD : va_D A [(tp, .inl (cB, 240, .inl (fun i => nI (tb i)))), (fpa, .inl (cI, 3, .inl fp2)), (y, .inr (5, [.ref yr, .ref yp, .int (nI nt)])), (yr, .inr (7, [.ref yl, .ref yh])), (yl, .inl (cJ, 12, .inr (.inl f))), (yh, .inl (cJ, 12, .inr (.inl g))), (yp, .inl (cI, 36, .inl (fun i => nI (pw2 i)))), (pa, .inr (4, [.ref tp, .int (nI ln), .int (nI pl2), .int (nI pl2), .int (nI ab), .int (nI bw), .ref fpa]))] := hD
        subst hu_93
        have hP9 := hP.sub (ws' := [(pa, .inr (4, [.ref tp, .int (nI ln), .int (nI pl2), .int (nI pl2), .int (nI ab), .int (nI bw), .ref fpa])), (tp, .inl (cB, 240, .inl (fun i => nI (tb i)))), (fpa, .inl (cI, 3, .inl fp2)), (y, .inr (5, [.ref yr, .ref yp, .int (nI nt)])), (yr, .inr (7, [.ref yl, .ref yh])), (yl, .inl (cJ, 12, .inr (.inl f))), (yh, .inl (cJ, 12, .inr (.inl g))), (yp, .inl (cI, 36, .inl (fun i => nI (pw2 i))))]) [7, 0, 1, 2, 3, 4, 5, 6] rfl
        have hD9 := hD.sub (ws' := [(pa, .inr (4, [.ref tp, .int (nI ln), .int (nI pl2), .int (nI pl2), .int (nI ab), .int (nI bw), .ref fpa])), (tp, .inl (cB, 240, .inl (fun i => nI (tb i)))), (fpa, .inl (cI, 3, .inl fp2)), (y, .inr (5, [.ref yr, .ref yp, .int (nI nt)])), (yr, .inr (7, [.ref yl, .ref yh])), (yl, .inl (cJ, 12, .inr (.inl f))), (yh, .inl (cJ, 12, .inr (.inl g))), (yp, .inl (cI, 36, .inl (fun i => nI (pw2 i))))]) [7, 0, 1, 2, 3, 4, 5, 6] (by decide) rfl
        exact hret (pl2, nI pl2, pw2, fp2) _ _ _ _ _ (Or.inl rfl) hP9 hD9 hS (by rw [show 7 - k = 0 by omega] at hz; exact rfQ_e hz.symm) dd_P_readFactors_96
      · obtain ⟨nn, hnn⟩ : ∃ nn, 7 - k = nn + 1 := ⟨6 - k, by omega⟩
        rw [hnn] at hz
        refine lv_aload_n hx hb dd_P_readFactors_11 rfl (lv_at hl 0 rfl) ?_
        refine bo_goi (wr := [(fpa, .inl (cI, 3, .inl fp2)), (y, .inr (5, [.ref yr, .ref yp, .int (nI nt)])), (yr, .inr (7, [.ref yl, .ref yh])), (yl, .inl (cJ, 12, .inr (.inl f))), (yh, .inl (cJ, 12, .inr (.inl g))), (yp, .inl (cI, 36, .inl (fun i => nI (pw2 i))))]) (bo_rV (c_P_letterHere (l := l) (D := D) (cJ := cJ) (cI := cI) (cB := cB) (cY := cY) pa tp ln pl2 ab bw fpa fl tb hpl2 hln htb _) ⟨hx, hb, hml, hown, hts⟩ (cwV 0 hts (bo_gV wd_478 wd_480 wp_13 wd_2 wd_481) rfl rfl rfl hd_P_letterHere (by decide)) hK hP hD [0, 1] rfl (by decide) 0 4 rfl rfl rfl rfl hl.1 rfl (Nat.le_of_ble_eq_true rfl) dd_P_readFactors_12 (by decide)) hP hD hS hA [0, 1] [2, 3, 4, 5, 6, 7] rfl rfl (by decide) (by decide) (fun r_12 u H locs hu_12 hP hD hS => ?_)
        have hu_12 : r_12 = ltI (see tb ln pl2) := hu_12
        have hP : va_P D bo_cl [(fpa, .inl (cI, 3, .inl fp2)), (y, .inr (5, [.ref yr, .ref yp, .int (nI nt)])), (yr, .inr (7, [.ref yl, .ref yh])), (yl, .inl (cJ, 12, .inr (.inl f))), (yh, .inl (cJ, 12, .inr (.inl g))), (yp, .inl (cI, 36, .inl (fun i => nI (pw2 i)))), (pa, .inr (4, [.ref tp, .int (nI ln), .int (nI pl2), .int fl, .int (nI ab), .int (nI bw), .ref fpa])), (tp, .inl (cB, 240, .inl (fun i => nI (tb i))))] H := hP
        have hD : va_D A [(fpa, .inl (cI, 3, .inl fp2)), (y, .inr (5, [.ref yr, .ref yp, .int (nI nt)])), (yr, .inr (7, [.ref yl, .ref yh])), (yl, .inl (cJ, 12, .inr (.inl f))), (yh, .inl (cJ, 12, .inr (.inl g))), (yp, .inl (cI, 36, .inl (fun i => nI (pw2 i)))), (pa, .inr (4, [.ref tp, .int (nI ln), .int (nI pl2), .int fl, .int (nI ab), .int (nI bw), .ref fpa])), (tp, .inl (cB, 240, .inl (fun i => nI (tb i))))] := hD
        refine lv_istore (lv' := [(4, .int r_12), (0, .ref pa), (1, .ref y), (2, .int (nI ro)), (3, .int (nI k))]) hx hb dd_P_readFactors_15 hl (by decide) rfl (fun ls hl => ?_)
        refine lv_iload hx hb dd_P_readFactors_17 (lv_at hl 0 rfl) ?_
        refine lv_iconst (v := -1) hx hb dd_P_readFactors_19 (by decide) ?_
        refine lv_icmp_ne (tgt := 25) hx hb dd_P_readFactors_20 rfl (fun h20 => ?_) (fun h20 => ?_)
        · obtain ⟨v, hv3, hvx, hvr⟩ := lt_n hu_12 h20
          subst hvr
          refine lv_iload_n hx hb dd_P_readFactors_25 rfl (lv_at hl 3 rfl) ?_
          refine bo_if_ne (tgt := 38) hx hb dd_P_readFactors_26 rfl (by omega) (fun h26 => ?_) (fun h26 => ?_)
          · refine lv_aload_n hx hb dd_P_readFactors_38 rfl (lv_at hl 1 rfl) ?_
            refine lv_iload hx hb dd_P_readFactors_39 (lv_at hl 0 rfl) ?_
            refine bo_gov (wr := [(y, .inr (5, [.ref yr, .ref yp, .int (nI nt)])), (yr, .inr (7, [.ref yl, .ref yh])), (yl, .inl (cJ, 12, .inr (.inl f))), (yh, .inl (cJ, 12, .inr (.inl g))), (yp, .inl (cI, 36, .inl (fun i => nI (pw2 i)))), (tp, .inl (cB, 240, .inl (fun i => nI (tb i))))]) (bo_rV (c_P_noteLetter (l := l) (D := D) (cJ := cJ) (cI := cI) (cB := cB) (cY := cY) pa tp ln pl2 ab bw fpa fl fp2 v hv3 _) ⟨hx, hb, hml, hown, hts⟩ (cwV 1 hts (bo_gV wd_494 wd_496 wp_15 wd_2 wd_497) rfl rfl rfl hd_P_noteLetter (by decide)) hK hP hD [6, 0] rfl (by decide) 6 4 rfl rfl rfl rfl hl.1 rfl (Nat.le_of_ble_eq_true rfl) dd_P_readFactors_41 (by decide)) hP hD hS hA [6, 0] [1, 2, 3, 4, 5, 7] rfl rfl (by decide) (by decide) (fun u H locs hu_41 hP hD hS => ?_)
            obtain ⟨fp1_41, rfl⟩ : ∃ z, z = u := ⟨_, rfl⟩
            have hu_41 : fp1_41 = if fp2 v = -1 then upd fp2 v (nI pl2) else fp2 := hu_41
            have hP : va_P D bo_cl [(y, .inr (5, [.ref yr, .ref yp, .int (nI nt)])), (yr, .inr (7, [.ref yl, .ref yh])), (yl, .inl (cJ, 12, .inr (.inl f))), (yh, .inl (cJ, 12, .inr (.inl g))), (yp, .inl (cI, 36, .inl (fun i => nI (pw2 i)))), (tp, .inl (cB, 240, .inl (fun i => nI (tb i)))), (pa, .inr (4, [.ref tp, .int (nI ln), .int (nI pl2), .int fl, .int (nI ab), .int (nI bw), .ref fpa])), (fpa, .inl (cI, 3, .inl fp1_41))] H := hP
            have hD : va_D A [(y, .inr (5, [.ref yr, .ref yp, .int (nI nt)])), (yr, .inr (7, [.ref yl, .ref yh])), (yl, .inl (cJ, 12, .inr (.inl f))), (yh, .inl (cJ, 12, .inr (.inl g))), (yp, .inl (cI, 36, .inl (fun i => nI (pw2 i)))), (tp, .inl (cB, 240, .inl (fun i => nI (tb i)))), (pa, .inr (4, [.ref tp, .int (nI ln), .int (nI pl2), .int fl, .int (nI ab), .int (nI bw), .ref fpa])), (fpa, .inl (cI, 3, .inl fp1_41))] := hD
            refine lv_aload_n hx hb dd_P_readFactors_44 rfl (lv_at hl 1 rfl) ?_
            refine lv_dup hx hb dd_P_readFactors_45 rfl ?_
            refine va_get (D := D) (ci := 4) (v := .int (nI pl2)) (C := RR_P) (T := TT_P) (N := 7) hx hb hts (fun w h => List.mem_cons_of_mem _ (in_P w h)) hown hK hP 6 rfl rfl 2 (by decide) (hts _ (List.mem_cons_of_mem _ wd_37)) (fun _ h9 => h9) rfl dd_P_readFactors_46 ?_
            refine lv_iconst (v := nI 1) hx hb dd_P_readFactors_49 (by decide) ?_
            refine bo_iadd hx hb dd_P_readFactors_50 ?_
            refine va_put (D := D) (ci := 4) (v := .int (nI (pl2 + 1))) (ty := .int) (C := RR_P) (T := TT_P) (N := 7) hx hb hts (fun w h => List.mem_cons_of_mem _ (in_P w h)) tt_P ty_P nm_P hown hK hP hD hS 6 rfl rfl 2 (by decide) (hts _ (List.mem_cons_of_mem _ wd_37)) (fun _ h9 => h9) rfl (by decide +kernel) rfl rfl (Nat.le_of_ble_eq_true rfl) dd_P_readFactors_51 (fun H locs hP hD hS => ?_)
            have hP : va_P D bo_cl [(y, .inr (5, [.ref yr, .ref yp, .int (nI nt)])), (yr, .inr (7, [.ref yl, .ref yh])), (yl, .inl (cJ, 12, .inr (.inl f))), (yh, .inl (cJ, 12, .inr (.inl g))), (yp, .inl (cI, 36, .inl (fun i => nI (pw2 i)))), (tp, .inl (cB, 240, .inl (fun i => nI (tb i)))), (pa, .inr (4, [.ref tp, .int (nI ln), .int (nI (pl2 + 1)), .int fl, .int (nI ab), .int (nI bw), .ref fpa])), (fpa, .inl (cI, 3, .inl fp1_41))] H := hP
            have hD : va_D A [(y, .inr (5, [.ref yr, .ref yp, .int (nI nt)])), (yr, .inr (7, [.ref yl, .ref yh])), (yl, .inl (cJ, 12, .inr (.inl f))), (yh, .inl (cJ, 12, .inr (.inl g))), (yp, .inl (cI, 36, .inl (fun i => nI (pw2 i)))), (tp, .inl (cB, 240, .inl (fun i => nI (tb i)))), (pa, .inr (4, [.ref tp, .int (nI ln), .int (nI (pl2 + 1)), .int fl, .int (nI ab), .int (nI bw), .ref fpa])), (fpa, .inl (cI, 3, .inl fp1_41))] := hD
            refine lv_aload_n hx hb dd_P_readFactors_54 rfl (lv_at hl 1 rfl) ?_
            refine lv_iload_n hx hb dd_P_readFactors_55 rfl (lv_at hl 3 rfl) ?_
            refine bo_goi (wr := [(y, .inr (5, [.ref yr, .ref yp, .int (nI nt)])), (yr, .inr (7, [.ref yl, .ref yh])), (yl, .inl (cJ, 12, .inr (.inl f))), (yh, .inl (cJ, 12, .inr (.inl g))), (yp, .inl (cI, 36, .inl (fun i => nI (pw2 i)))), (fpa, .inl (cI, 3, .inl fp1_41))]) (bo_rV (c_P_readPower (l := l) (D := D) (cJ := cJ) (cI := cI) (cB := cB) (cY := cY) pa tp ln (pl2 + 1) ab bw fpa fl tb ro (see_lt (tb := tb) (by omega)) hln htb (by omega) _) ⟨hx, hb, hml, hown, hts⟩ (cwV 1 hts (bo_gV wd_498 wd_500 wp_16 wd_2 wd_501) rfl rfl rfl hd_P_readPower (by decide)) hK hP hD [6, 5] rfl (by decide) 6 4 rfl rfl rfl rfl hl.1 rfl (Nat.le_of_ble_eq_true rfl) dd_P_readFactors_56 (by decide)) hP hD hS hA [6, 5] [0, 1, 2, 3, 4, 7] rfl rfl (by decide) (by decide) (fun r_56 u H locs hu_56 hP hD hS => ?_)
            obtain ⟨pl1_56, fl1_56⟩ := u
            have hu_56 : rpQ (rP (see tb ln) (pl2 + 1) ro) ln fl r_56 pl1_56 fl1_56 := hu_56
            have hP : va_P D bo_cl [(y, .inr (5, [.ref yr, .ref yp, .int (nI nt)])), (yr, .inr (7, [.ref yl, .ref yh])), (yl, .inl (cJ, 12, .inr (.inl f))), (yh, .inl (cJ, 12, .inr (.inl g))), (yp, .inl (cI, 36, .inl (fun i => nI (pw2 i)))), (fpa, .inl (cI, 3, .inl fp1_41)), (pa, .inr (4, [.ref tp, .int (nI ln), .int (nI pl1_56), .int fl1_56, .int (nI ab), .int (nI bw), .ref fpa])), (tp, .inl (cB, 240, .inl (fun i => nI (tb i))))] H := hP
            have hD : va_D A [(y, .inr (5, [.ref yr, .ref yp, .int (nI nt)])), (yr, .inr (7, [.ref yl, .ref yh])), (yl, .inl (cJ, 12, .inr (.inl f))), (yh, .inl (cJ, 12, .inr (.inl g))), (yp, .inl (cI, 36, .inl (fun i => nI (pw2 i)))), (fpa, .inl (cI, 3, .inl fp1_41)), (pa, .inr (4, [.ref tp, .int (nI ln), .int (nI pl1_56), .int fl1_56, .int (nI ab), .int (nI bw), .ref fpa])), (tp, .inl (cB, 240, .inl (fun i => nI (tb i))))] := hD
            refine lv_istore (lv' := [(5, .int r_56), (4, .int (nI v)), (0, .ref pa), (1, .ref y), (2, .int (nI ro)), (3, .int (nI k))]) hx hb dd_P_readFactors_59 hl (by decide) rfl (fun ls hl => ?_)
            refine lv_iload hx hb dd_P_readFactors_61 (lv_at hl 0 rfl) ?_
            refine lv_iconst (v := -1) hx hb dd_P_readFactors_63 (by decide) ?_
            refine lv_icmp_ne (tgt := 69) hx hb dd_P_readFactors_64 rfl (fun h64 => ?_) (fun h64 => ?_)
            · obtain ⟨q, hqp, hqr, hqf, hql⟩ := rpQ_ok hu_56 h64
              have hqq := rP_q hqp (by omega)
              subst hqr
              have hqf := hqf.symm
              subst hqf
              refine lv_aload_n hx hb dd_P_readFactors_69 rfl (lv_at hl 3 rfl) ?_
              refine lv_iload hx hb dd_P_readFactors_70 (lv_at hl 1 rfl) ?_
              refine lv_iload hx hb dd_P_readFactors_72 (lv_at hl 0 rfl) ?_
              refine bo_gov (wr := [(fpa, .inl (cI, 3, .inl fp1_41)), (pa, .inr (4, [.ref tp, .int (nI ln), .int (nI pl1_56), .int fl, .int (nI ab), .int (nI bw), .ref fpa])), (tp, .inl (cB, 240, .inl (fun i => nI (tb i))))]) (bo_rV (c_Y_multiplyLastTerm (l := l) (D := D) (cJ := cJ) (cI := cI) (cB := cB) (cY := cY) y yr yl yh yp nt f g pw2 v q hnt (by omega) _) ⟨hx, hb, hml, hown, hts⟩ (cwV 2 hts (bo_gV wd_502 wd_503 wd_504 wd_4 wd_505) rfl rfl rfl hd_Y_multiplyLastTerm (by decide)) hK hP hD [0, 1, 2, 3, 4] rfl (by decide) 0 5 rfl rfl rfl rfl hl.1 rfl (Nat.le_of_ble_eq_true rfl) dd_P_readFactors_74 (by decide)) hP hD hS hA [0, 1, 2, 3, 4] [5, 6, 7] rfl rfl (by decide) (by decide) (fun u H locs hu_74 hP hD hS => ?_)
              have hP : va_P D bo_cl [(fpa, .inl (cI, 3, .inl fp1_41)), (pa, .inr (4, [.ref tp, .int (nI ln), .int (nI pl1_56), .int fl, .int (nI ab), .int (nI bw), .ref fpa])), (tp, .inl (cB, 240, .inl (fun i => nI (tb i)))), (y, .inr (5, [.ref yr, .ref yp, .int (nI nt)])), (yr, .inr (7, [.ref yl, .ref yh])), (yl, .inl (cJ, 12, .inr (.inl f))), (yh, .inl (cJ, 12, .inr (.inl g))), (yp, .inl (cI, 36, .inl (fun i => nI (va_up pw2 ((nt - 1) * 3 + v) (pw2 ((nt - 1) * 3 + v) + q) i))))] H := hP
              have hD : va_D A [(fpa, .inl (cI, 3, .inl fp1_41)), (pa, .inr (4, [.ref tp, .int (nI ln), .int (nI pl1_56), .int fl, .int (nI ab), .int (nI bw), .ref fpa])), (tp, .inl (cB, 240, .inl (fun i => nI (tb i)))), (y, .inr (5, [.ref yr, .ref yp, .int (nI nt)])), (yr, .inr (7, [.ref yl, .ref yh])), (yl, .inl (cJ, 12, .inr (.inl f))), (yh, .inl (cJ, 12, .inr (.inl g))), (yp, .inl (cI, 36, .inl (fun i => nI (va_up pw2 ((nt - 1) * 3 + v) (pw2 ((nt - 1) * 3 + v) + q) i))))] := hD
              refine lv_iload_n hx hb dd_P_readFactors_77 rfl (lv_at hl 4 rfl) ?_
              refine lv_iload hx hb dd_P_readFactors_78 (lv_at hl 0 rfl) ?_
              refine bo_isub hx hb (by omega) dd_P_readFactors_80 ?_
              refine lv_istore_n (lv' := [(2, .int (nI (ro - q))), (5, .int (nI q)), (4, .int (nI v)), (0, .ref pa), (1, .ref y), (3, .int (nI k))]) hx hb dd_P_readFactors_81 rfl hl (by decide) rfl (fun ls hl => ?_)
              refine lv_iinc (k := 5) (x := nI k) (v := nI (k + 1)) (lv' := [(3, .int (nI (k + 1))), (2, .int (nI (ro - q))), (5, .int (nI q)), (4, .int (nI v)), (0, .ref pa), (1, .ref y)]) hx hb dd_P_readFactors_82 hl rfl (nI_add _ 1) (by decide) rfl (fun ls hl => ?_)
              refine lv_goto (tgt := 5) hx hb dd_P_readFactors_85 rfl ?_
              have hl8 := lv_sub (l' := [(0, .ref pa), (1, .ref y), (2, .int (nI (ro - q))), (3, .int (nI (k + 1)))]) hl [4, 5, 1, 0] rfl
              have hP8 := hP.sub (ws' := [(pa, .inr (4, [.ref tp, .int (nI ln), .int (nI pl1_56), .int fl, .int (nI ab), .int (nI bw), .ref fpa])), (tp, .inl (cB, 240, .inl (fun i => nI (tb i)))), (fpa, .inl (cI, 3, .inl fp1_41)), (y, .inr (5, [.ref yr, .ref yp, .int (nI nt)])), (yr, .inr (7, [.ref yl, .ref yh])), (yl, .inl (cJ, 12, .inr (.inl f))), (yh, .inl (cJ, 12, .inr (.inl g))), (yp, .inl (cI, 36, .inl (fun i => nI ((va_up pw2 ((nt - 1) * 3 + v) (pw2 ((nt - 1) * 3 + v) + q)) i))))]) [1, 2, 0, 3, 4, 5, 6, 7] rfl
              have hD8 := hD.sub (ws' := [(pa, .inr (4, [.ref tp, .int (nI ln), .int (nI pl1_56), .int fl, .int (nI ab), .int (nI bw), .ref fpa])), (tp, .inl (cB, 240, .inl (fun i => nI (tb i)))), (fpa, .inl (cI, 3, .inl fp1_41)), (y, .inr (5, [.ref yr, .ref yp, .int (nI nt)])), (yr, .inr (7, [.ref yl, .ref yh])), (yl, .inl (cJ, 12, .inr (.inl f))), (yh, .inl (cJ, 12, .inr (.inl g))), (yp, .inl (cI, 36, .inl (fun i => nI ((va_up pw2 ((nt - 1) * 3 + v) (pw2 ((nt - 1) * 3 + v) + q)) i))))]) [1, 2, 0, 3, 4, 5, 6, 7] (by decide) rfl
              exact ih5 (k + 1) (ro - q) pl1_56 (va_up pw2 ((nt - 1) * 3 + v) (pw2 ((nt - 1) * 3 + v) + q)) fp1_41 (by omega) (by omega) (by exact hql) (by rw [show 7 - (k + 1) = nn by omega]; exact rF_step hz hv3 hvx h26 hqp hu_41) _ _ _ (by omega) hl8 hP8 hD8 hS
            · refine lv_iconst (v := nI 0) hx hb dd_P_readFactors_67 (by decide) ?_
              have hP9 := hP.sub (ws' := [(pa, .inr (4, [.ref tp, .int (nI ln), .int (nI pl1_56), .int fl1_56, .int (nI ab), .int (nI bw), .ref fpa])), (tp, .inl (cB, 240, .inl (fun i => nI (tb i)))), (fpa, .inl (cI, 3, .inl fp1_41)), (y, .inr (5, [.ref yr, .ref yp, .int (nI nt)])), (yr, .inr (7, [.ref yl, .ref yh])), (yl, .inl (cJ, 12, .inr (.inl f))), (yh, .inl (cJ, 12, .inr (.inl g))), (yp, .inl (cI, 36, .inl (fun i => nI (pw2 i))))]) [6, 7, 5, 0, 1, 2, 3, 4] rfl
              have hD9 := hD.sub (ws' := [(pa, .inr (4, [.ref tp, .int (nI ln), .int (nI pl1_56), .int fl1_56, .int (nI ab), .int (nI bw), .ref fpa])), (tp, .inl (cB, 240, .inl (fun i => nI (tb i)))), (fpa, .inl (cI, 3, .inl fp1_41)), (y, .inr (5, [.ref yr, .ref yp, .int (nI nt)])), (yr, .inr (7, [.ref yl, .ref yh])), (yl, .inl (cJ, 12, .inr (.inl f))), (yh, .inl (cJ, 12, .inr (.inl g))), (yp, .inl (cI, 36, .inl (fun i => nI (pw2 i))))]) [6, 7, 5, 0, 1, 2, 3, 4] (by decide) rfl
              exact hret (pl1_56, fl1_56, pw2, fp1_41) _ _ _ _ _ (Or.inl rfl) hP9 hD9 hS (by obtain ⟨e1, he1, he2⟩ := rpQ_er hu_56 (by omega) h64; rw [he2]; exact rfQ_e (rF_err hz hv3 hvx h26 he1)) dd_P_readFactors_68
          · refine lv_aload_n hx hb dd_P_readFactors_29 rfl (lv_at hl 1 rfl) ?_
            refine lv_aload_n hx hb dd_P_readFactors_30 rfl (lv_at hl 1 rfl) ?_
            refine va_get (D := D) (ci := 4) (v := .int (nI pl2)) (C := RR_P) (T := TT_P) (N := 7) hx hb hts (fun w h => List.mem_cons_of_mem _ (in_P w h)) hown hK hP 6 rfl rfl 2 (by decide) (hts _ (List.mem_cons_of_mem _ wd_37)) (fun _ h9 => h9) rfl dd_P_readFactors_31 ?_
            refine bo_goi (wr := [(fpa, .inl (cI, 3, .inl fp2)), (y, .inr (5, [.ref yr, .ref yp, .int (nI nt)])), (yr, .inr (7, [.ref yl, .ref yh])), (yl, .inl (cJ, 12, .inr (.inl f))), (yh, .inl (cJ, 12, .inr (.inl g))), (yp, .inl (cI, 36, .inl (fun i => nI (pw2 i)))), (tp, .inl (cB, 240, .inl (fun i => nI (tb i))))]) (bo_rV (c_P_faultAt (l := l) (D := D) (cJ := cJ) (cI := cI) (cB := cB) (cY := cY) pa tp ln pl2 ab bw fpa fl (nI pl2)  _) ⟨hx, hb, hml, hown, hts⟩ (cwV 1 hts (bo_gV wd_455 wd_457 wp_8 wd_2 wd_458) rfl rfl rfl hd_P_faultAt (by decide)) hK hP hD [6] rfl (by decide) 6 4 rfl rfl rfl rfl hl.1 rfl (Nat.le_of_ble_eq_true rfl) dd_P_readFactors_34 (by decide)) hP hD hS hA [6] [0, 1, 2, 3, 4, 5, 7] rfl rfl (by decide) (by decide) (fun r_34 u H locs hu_34 hP hD hS => ?_)
            have hu_34 : r_34 = nI 0 := hu_34
            have hP : va_P D bo_cl [(fpa, .inl (cI, 3, .inl fp2)), (y, .inr (5, [.ref yr, .ref yp, .int (nI nt)])), (yr, .inr (7, [.ref yl, .ref yh])), (yl, .inl (cJ, 12, .inr (.inl f))), (yh, .inl (cJ, 12, .inr (.inl g))), (yp, .inl (cI, 36, .inl (fun i => nI (pw2 i)))), (tp, .inl (cB, 240, .inl (fun i => nI (tb i)))), (pa, .inr (4, [.ref tp, .int (nI ln), .int (nI pl2), .int (nI pl2), .int (nI ab), .int (nI bw), .ref fpa]))] H := hP
            have hD : va_D A [(fpa, .inl (cI, 3, .inl fp2)), (y, .inr (5, [.ref yr, .ref yp, .int (nI nt)])), (yr, .inr (7, [.ref yl, .ref yh])), (yl, .inl (cJ, 12, .inr (.inl f))), (yh, .inl (cJ, 12, .inr (.inl g))), (yp, .inl (cI, 36, .inl (fun i => nI (pw2 i)))), (tp, .inl (cB, 240, .inl (fun i => nI (tb i)))), (pa, .inr (4, [.ref tp, .int (nI ln), .int (nI pl2), .int (nI pl2), .int (nI ab), .int (nI bw), .ref fpa]))] := hD
            subst hu_34
            have hP9 := hP.sub (ws' := [(pa, .inr (4, [.ref tp, .int (nI ln), .int (nI pl2), .int (nI pl2), .int (nI ab), .int (nI bw), .ref fpa])), (tp, .inl (cB, 240, .inl (fun i => nI (tb i)))), (fpa, .inl (cI, 3, .inl fp2)), (y, .inr (5, [.ref yr, .ref yp, .int (nI nt)])), (yr, .inr (7, [.ref yl, .ref yh])), (yl, .inl (cJ, 12, .inr (.inl f))), (yh, .inl (cJ, 12, .inr (.inl g))), (yp, .inl (cI, 36, .inl (fun i => nI (pw2 i))))]) [7, 6, 0, 1, 2, 3, 4, 5] rfl
            have hD9 := hD.sub (ws' := [(pa, .inr (4, [.ref tp, .int (nI ln), .int (nI pl2), .int (nI pl2), .int (nI ab), .int (nI bw), .ref fpa])), (tp, .inl (cB, 240, .inl (fun i => nI (tb i)))), (fpa, .inl (cI, 3, .inl fp2)), (y, .inr (5, [.ref yr, .ref yp, .int (nI nt)])), (yr, .inr (7, [.ref yl, .ref yh])), (yl, .inl (cJ, 12, .inr (.inl f))), (yh, .inl (cJ, 12, .inr (.inl g))), (yp, .inl (cI, 36, .inl (fun i => nI (pw2 i))))]) [7, 6, 0, 1, 2, 3, 4, 5] (by decide) rfl
            exact hret (pl2, nI pl2, pw2, fp2) _ _ _ _ _ (Or.inl rfl) hP9 hD9 hS (by exact rfQ_e (rF_full hz hv3 hvx h26)) dd_P_readFactors_37
        · refine lv_iconst (v := nI 1) hx hb dd_P_readFactors_23 (by decide) ?_
          have hP9 := hP.sub (ws' := [(pa, .inr (4, [.ref tp, .int (nI ln), .int (nI pl2), .int fl, .int (nI ab), .int (nI bw), .ref fpa])), (tp, .inl (cB, 240, .inl (fun i => nI (tb i)))), (fpa, .inl (cI, 3, .inl fp2)), (y, .inr (5, [.ref yr, .ref yp, .int (nI nt)])), (yr, .inr (7, [.ref yl, .ref yh])), (yl, .inl (cJ, 12, .inr (.inl f))), (yh, .inl (cJ, 12, .inr (.inl g))), (yp, .inl (cI, 36, .inl (fun i => nI (pw2 i))))]) [6, 7, 0, 1, 2, 3, 4, 5] rfl
          have hD9 := hD.sub (ws' := [(pa, .inr (4, [.ref tp, .int (nI ln), .int (nI pl2), .int fl, .int (nI ab), .int (nI bw), .ref fpa])), (tp, .inl (cB, 240, .inl (fun i => nI (tb i)))), (fpa, .inl (cI, 3, .inl fp2)), (y, .inr (5, [.ref yr, .ref yp, .int (nI nt)])), (yr, .inr (7, [.ref yl, .ref yh])), (yl, .inl (cJ, 12, .inr (.inl f))), (yh, .inl (cJ, 12, .inr (.inl g))), (yp, .inl (cI, 36, .inl (fun i => nI (pw2 i))))]) [6, 7, 0, 1, 2, 3, 4, 5] (by decide) rfl
          exact hret (pl2, fl, pw2, fp2) _ _ _ _ _ (Or.inr rfl) hP9 hD9 hS (by exact rfQ_o (rF_no hz (lt_no hu_12 h20)) hpl2) dd_P_readFactors_24
  have hl8 := lv_sub (l' := [(0, .ref pa), (1, .ref y), (2, .int (nI 6)), (3, .int (nI 0))]) hl [2, 3, 1, 0] rfl
  have hP8 := hP.sub (ws' := [(pa, .inr (4, [.ref tp, .int (nI ln), .int (nI pl), .int fl, .int (nI ab), .int (nI bw), .ref fpa])), (tp, .inl (cB, 240, .inl (fun i => nI (tb i)))), (fpa, .inl (cI, 3, .inl fp)), (y, .inr (5, [.ref yr, .ref yp, .int (nI nt)])), (yr, .inr (7, [.ref yl, .ref yh])), (yl, .inl (cJ, 12, .inr (.inl f))), (yh, .inl (cJ, 12, .inr (.inl g))), (yp, .inl (cI, 36, .inl (fun i => nI (pw i))))]) [0, 1, 2, 3, 4, 5, 6, 7] rfl
  have hD8 := hD.sub (ws' := [(pa, .inr (4, [.ref tp, .int (nI ln), .int (nI pl), .int fl, .int (nI ab), .int (nI bw), .ref fpa])), (tp, .inl (cB, 240, .inl (fun i => nI (tb i)))), (fpa, .inl (cI, 3, .inl fp)), (y, .inr (5, [.ref yr, .ref yp, .int (nI nt)])), (yr, .inr (7, [.ref yl, .ref yh])), (yl, .inl (cJ, 12, .inr (.inl f))), (yh, .inl (cJ, 12, .inr (.inl g))), (yp, .inl (cI, 36, .inl (fun i => nI (pw i))))]) [0, 1, 2, 3, 4, 5, 6, 7] (by decide) rfl
  exact lo5 ((7 - 0) + 1) 0 6 pl pw fp (by omega) (by omega) (by exact hpl) (by rfl) _ _ _ (Nat.lt_succ_self _) hl8 hP8 hD8 hS
