/-! bytes of a word -/
def byN (w : Int64) (k : Nat) : Nat := (w.toBitVec.toNat >>> (8 * k)) % 256
theorem byN_lt (w : Int64) (k : Nat) : byN w k < 256 := Nat.mod_lt _ (by decide)
theorem nat_255 {a b : Nat} (h : ∀ i, i < 8 → a.testBit i = b.testBit i) : a &&& 255 = b % 256 := by
  rw [show 255 = 2 ^ 8 - 1 from rfl, Nat.and_two_pow_sub_one_eq_mod]
  apply Nat.eq_of_testBit_eq
  intro i
  rw [show 256 = 2 ^ 8 from rfl, Nat.testBit_mod_two_pow, Nat.testBit_mod_two_pow]
  by_cases hi : i < 8
  · rw [h i hi]
  · simp [hi]
theorem by_bv (x : BitVec 64) {n : Nat} (hn : n + 8 ≤ 64) : (x.sshiftRight n).toNat &&& 255 = (x.toNat >>> n) % 256 := by
  apply nat_255
  intro i hi
  rw [BitVec.testBit_toNat, BitVec.getLsbD_sshiftRight, Nat.testBit_shiftRight, BitVec.testBit_toNat]
  have h1 : i < 64 := by omega
  have h2 : n + i < 64 := by omega
  simp [h1, h2]
theorem by_m (w : Int64) {k : Nat} (hk : k < 8) : ((w >>> ((nI (8 * k)).toInt64 &&& 63)) &&& 255).toInt32 = nI (byN w k) := by
  have key : ∀ n : Nat, ∀ s : Int64, s.toBitVec.smod 64 = BitVec.ofNat 64 n → n + 8 ≤ 64 → ((w >>> s) &&& 255).toInt32 = nI ((w.toBitVec.toNat >>> n) % 256) := by
    intro n s hs hn
    apply Int32.toBitVec_inj.mp
    apply BitVec.eq_of_toNat_eq
    have e1 : ((w >>> s) &&& 255).toBitVec.toNat = (w.toBitVec.toNat >>> n) % 256 := by
      rw [Int64.toBitVec_and, Int64.toBitVec_shiftRight, hs, BitVec.toNat_and]
      show (w.toBitVec.sshiftRight' (BitVec.ofNat 64 n)).toNat &&& 255 = _
      rw [BitVec.sshiftRight', BitVec.toNat_ofNat, Nat.mod_eq_of_lt (show n < 2 ^ 64 by omega)]
      exact by_bv _ hn
    show (((w >>> s) &&& 255).toBitVec.signExtend 32).toNat = (BitVec.ofNat 32 _).toNat
    rw [BitVec.signExtend_eq_setWidth_of_le _ (by decide), BitVec.toNat_setWidth, e1, BitVec.toNat_ofNat]
  have hs : ∀ k : Fin 8, ((nI (8 * k.val)).toInt64 &&& 63).toBitVec.smod 64 = BitVec.ofNat 64 (8 * k.val) := by decide
  exact key (8 * k) _ (hs ⟨k, hk⟩) (by omega)
theorem by_c (w : Int64) {k : Nat} (hk : k < 8) : ((w.toUInt64 >>> ((nI (8 * k)).toInt64.toUInt64 &&& Int64.toUInt64 63)).toInt64).toInt32 &&& nI 255 = nI (byN w k) := by
  have key : ∀ n : Nat, ∀ s : UInt64, s.toNat % 64 = n → n + 8 ≤ 64 → ((w.toUInt64 >>> s).toInt64).toInt32 &&& nI 255 = nI ((w.toBitVec.toNat >>> n) % 256) := by
    intro n s hs hn
    apply Int32.toBitVec_inj.mp
    apply BitVec.eq_of_toNat_eq
    rw [Int32.toBitVec_and, BitVec.toNat_and]
    have e1 : (w.toUInt64 >>> s).toInt64.toBitVec.toNat = w.toBitVec.toNat >>> n := by
      show (w.toUInt64 >>> s).toNat = _
      rw [UInt64.toNat_shiftRight, hs]
      rfl
    show (((w.toUInt64 >>> s).toInt64.toBitVec.signExtend 32).toNat &&& 255) = (BitVec.ofNat 32 _).toNat
    rw [BitVec.signExtend_eq_setWidth_of_le _ (by decide), BitVec.toNat_setWidth, e1, BitVec.toNat_ofNat, Nat.mod_eq_of_lt (show w.toBitVec.toNat >>> n % 256 < 2 ^ 32 from Nat.lt_trans (Nat.mod_lt _ (by decide)) (by decide))]
    apply nat_255
    intro i hi
    rw [Nat.testBit_mod_two_pow]
    simp
    intro h
    omega
  have hs : ∀ k : Fin 8, ((nI (8 * k.val)).toInt64.toUInt64 &&& Int64.toUInt64 63).toNat % 64 = 8 * k.val := by decide
  exact key (8 * k) _ (hs ⟨k, hk⟩) (by omega)
def tyB (tb : Nat → Nat) (w : Int64) (ln N : Nat) : Nat → (Nat → Nat)
  | 0 => tb
  | d + 1 => va_up (tyB tb w ln N d) (ln + d) (byN w (N - 1 - d))
def tyP (w : Int64) (n : Int32) (ln : Nat) : Prop := ∃ N : Nat, n = nI N ∧ 1 ≤ N ∧ N ≤ 8 ∧ ln + N ≤ 240 ∧ ∀ k, k < N → 33 ≤ byN w k ∧ byN w k ≤ 126
theorem ty_n {n : Int32} (h1 : ¬ n < nI 1) (h2 : ¬ nI 8 < n) : ∃ N : Nat, n = nI N ∧ 1 ≤ N ∧ N ≤ 8 := by
  have h1 : nI 1 ≤ n := Int32.not_lt.mp h1
  have h2 : n ≤ nI 8 := Int32.not_lt.mp h2
  rw [Int32.le_iff_toInt_le, nI_toInt (by omega)] at h1 h2
  refine ⟨n.toInt.toNat, Int32.toInt_inj.mp ?_, by omega, by omega⟩
  rw [nI_toInt (by omega)]
  omega
theorem ty_q {N : Nat} (h : 1 ≤ N) : nI (N - 1) = nI (N - 0) + (-1) := by
  obtain ⟨M, rfl⟩ : ∃ M, N = M + 1 := ⟨N - 1, by omega⟩
  rw [Nat.sub_zero, pk_m1, Nat.add_sub_cancel]
theorem ty_k {N d : Nat} {q : Int32} (hq : q = nI (N - d) + (-1)) (h : ¬ q < 0) : ∃ k, N - d = k + 1 ∧ q = nI k := by
  cases hk : N - d with
  | zero => rw [hk] at hq; exact absurd (show q < 0 by rw [hq]; decide) h
  | succ k => exact ⟨k, rfl, by rw [hq, hk, pk_m1]⟩
theorem ty_e {N d : Nat} {q : Int32} (hq : q = nI (N - d) + (-1)) (h : q < 0) (hN : N ≤ 8) (hd : d ≤ N) : d = N := by
  cases hk : N - d with
  | zero => omega
  | succ k => rw [hk, pk_m1] at hq; exact absurd h (by rw [hq]; exact nI_pos (by omega))
theorem ty_s {tb tb2 : Nat → Nat} {w : Int64} {ln N d k : Nat} (h : tb2 = tyB tb w ln N d) (hk : N - d = k + 1) : va_up tb2 (ln + d) (byN w k) = tyB tb w ln N (d + 1) := by
  rw [tyB, ← h, show N - 1 - d = k by omega]
set_option maxHeartbeats 4000000 in
set_option maxRecDepth 100000 in
theorem c_M_typeBad {l : Launch} {D : va_G} {cJ cI cB cY : ClassId} (mo : Nat) (ma : Nat → Nat) (thr : Int32) (tpd : Nat) (att : Int32) (wrg : Int32) (flt : Int32) (ns : Nat) (crs : Int32) (nws : Int32) (nwc : Int32) (od : Int32) (hor : Int32) (coa : Int32) (tim : Int32) (shf : Int32) (clm : Int32) (rfd : Int32) (tri : Int32) (bxs : Int32) (lsg : Int32) (lbx : Int32) (crg : Int32) (lo : Int64) (hi : Int64) (be : Int32) (tb : Nat → Nat) (w : Int64) (n : Int32) (htp : tpd ≤ 240) (hb9 : ¬ tyP w n tpd) :
    bo_i (S := Unit) l D bo_cl (bo_ty cJ cI cB cY) yy_M_type (bo_w yy_M_type bb_M_type 6 (some .boolean)) (bo_rm 0 0) [.ref mo, .long w, .int n] [(mo, .inr (10, [.int thr, .int (nI tpd), .int att, .int wrg, .int flt, .int (nI ns), .int crs, .int nws, .int nwc, .int od, .int hor, .int coa, .int tim, .int shf, .int clm, .int rfd, .int tri, .int bxs, .int lsg, .int lbx, .int crg, .long lo, .long hi, .int be, .ref (ma 0), .ref (ma 1), .ref (ma 2), .ref (ma 3), .ref (ma 4), .ref (ma 5), .ref (ma 6), .ref (ma 7), .ref (ma 8), .ref (ma 9), .ref (ma 10), .ref (ma 11), .ref (ma 12), .ref (ma 13), .ref (ma 14), .ref (ma 15), .ref (ma 16), .ref (ma 17), .ref (ma 18), .ref (ma 19), .ref (ma 20), .ref (ma 21), .ref (ma 22), .ref (ma 23), .ref (ma 24), .ref (ma 25), .ref (ma 26), .ref (ma 27), .ref (ma 28)])), (ma 0, .inl (cI, 240, .inl (fun i => nI (tb i))))] (fun r u => r = nI 0) (fun u => [(mo, .inr (10, [.int (nI 0), .int (nI tpd), .int att, .int wrg, .int flt, .int (nI ns), .int crs, .int nws, .int nwc, .int od, .int hor, .int coa, .int tim, .int shf, .int clm, .int rfd, .int tri, .int bxs, .int lsg, .int lbx, .int crg, .long lo, .long hi, .int be, .ref (ma 0), .ref (ma 1), .ref (ma 2), .ref (ma 3), .ref (ma 4), .ref (ma 5), .ref (ma 6), .ref (ma 7), .ref (ma 8), .ref (ma 9), .ref (ma 10), .ref (ma 11), .ref (ma 12), .ref (ma 13), .ref (ma 14), .ref (ma 15), .ref (ma 16), .ref (ma 17), .ref (ma 18), .ref (ma 19), .ref (ma 20), .ref (ma 21), .ref (ma 22), .ref (ma 23), .ref (ma 24), .ref (ma 25), .ref (ma 26), .ref (ma 27), .ref (ma 28)])), (ma 0, .inl (cI, 240, .inl (fun i => nI (tb i))))]) := by
  refine bo_enter_z (cc := bb_M_type) (maxL := 6) (by decide) rfl (Nat.le_of_ble_eq_true rfl) ?_
  intro p e s m args below meth c A ls Q hx hb hts hown hml hK hP hD hS hA hl hret
  have hl : lv_has ls 6 [(0, .ref mo), (1, .long w), (3, .int n)] := hl
  refine lv_aload_n hx hb dd_M_type_0 rfl (lv_at hl 0 rfl) ?_
  refine lv_iconst (v := nI 0) hx hb dd_M_type_1 (by decide) ?_
  refine va_put (D := D) (ci := 10) (v := .int (nI 0)) (ty := .int) (C := RR_M) (T := TT_M) (N := 53) hx hb hts (fun w h => List.mem_cons_of_mem _ (in_M w h)) tt_M ty_M nm_M hown hK hP hD hS 0 rfl rfl 0 (by decide) (hts _ (List.mem_cons_of_mem _ wd_790)) (fun _ h9 => h9) rfl (by decide +kernel) rfl rfl (Nat.le_of_ble_eq_true rfl) dd_M_type_2 (fun H locs hP hD hS => ?_)
  have hP : va_P D bo_cl [(mo, .inr (10, [.int (nI 0), .int (nI tpd), .int att, .int wrg, .int flt, .int (nI ns), .int crs, .int nws, .int nwc, .int od, .int hor, .int coa, .int tim, .int shf, .int clm, .int rfd, .int tri, .int bxs, .int lsg, .int lbx, .int crg, .long lo, .long hi, .int be, .ref (ma 0), .ref (ma 1), .ref (ma 2), .ref (ma 3), .ref (ma 4), .ref (ma 5), .ref (ma 6), .ref (ma 7), .ref (ma 8), .ref (ma 9), .ref (ma 10), .ref (ma 11), .ref (ma 12), .ref (ma 13), .ref (ma 14), .ref (ma 15), .ref (ma 16), .ref (ma 17), .ref (ma 18), .ref (ma 19), .ref (ma 20), .ref (ma 21), .ref (ma 22), .ref (ma 23), .ref (ma 24), .ref (ma 25), .ref (ma 26), .ref (ma 27), .ref (ma 28)])), (ma 0, .inl (cI, 240, .inl (fun i => nI (tb i))))] H := hP
  have hD : va_D A [(mo, .inr (10, [.int (nI 0), .int (nI tpd), .int att, .int wrg, .int flt, .int (nI ns), .int crs, .int nws, .int nwc, .int od, .int hor, .int coa, .int tim, .int shf, .int clm, .int rfd, .int tri, .int bxs, .int lsg, .int lbx, .int crg, .long lo, .long hi, .int be, .ref (ma 0), .ref (ma 1), .ref (ma 2), .ref (ma 3), .ref (ma 4), .ref (ma 5), .ref (ma 6), .ref (ma 7), .ref (ma 8), .ref (ma 9), .ref (ma 10), .ref (ma 11), .ref (ma 12), .ref (ma 13), .ref (ma 14), .ref (ma 15), .ref (ma 16), .ref (ma 17), .ref (ma 18), .ref (ma 19), .ref (ma 20), .ref (ma 21), .ref (ma 22), .ref (ma 23), .ref (ma 24), .ref (ma 25), .ref (ma 26), .ref (ma 27), .ref (ma 28)])), (ma 0, .inl (cI, 240, .inl (fun i => nI (tb i))))] := hD
  refine lv_iload_n hx hb dd_M_type_5 rfl (lv_at hl 2 rfl) ?_
  refine lv_iconst (v := nI 1) hx hb dd_M_type_6 (by decide) ?_
  refine lv_icmp_lt (tgt := 28) hx hb dd_M_type_7 rfl (fun h7 => ?_) (fun h7 => ?_)
  · refine lv_iconst (v := nI 0) hx hb dd_M_type_28 (by decide) ?_
    have hP9 := hP.sub (ws' := [(mo, .inr (10, [.int (nI 0), .int (nI tpd), .int att, .int wrg, .int flt, .int (nI ns), .int crs, .int nws, .int nwc, .int od, .int hor, .int coa, .int tim, .int shf, .int clm, .int rfd, .int tri, .int bxs, .int lsg, .int lbx, .int crg, .long lo, .long hi, .int be, .ref (ma 0), .ref (ma 1), .ref (ma 2), .ref (ma 3), .ref (ma 4), .ref (ma 5), .ref (ma 6), .ref (ma 7), .ref (ma 8), .ref (ma 9), .ref (ma 10), .ref (ma 11), .ref (ma 12), .ref (ma 13), .ref (ma 14), .ref (ma 15), .ref (ma 16), .ref (ma 17), .ref (ma 18), .ref (ma 19), .ref (ma 20), .ref (ma 21), .ref (ma 22), .ref (ma 23), .ref (ma 24), .ref (ma 25), .ref (ma 26), .ref (ma 27), .ref (ma 28)])), (ma 0, .inl (cI, 240, .inl (fun i => nI (tb i))))]) [0, 1] rfl
    have hD9 := hD.sub (ws' := [(mo, .inr (10, [.int (nI 0), .int (nI tpd), .int att, .int wrg, .int flt, .int (nI ns), .int crs, .int nws, .int nwc, .int od, .int hor, .int coa, .int tim, .int shf, .int clm, .int rfd, .int tri, .int bxs, .int lsg, .int lbx, .int crg, .long lo, .long hi, .int be, .ref (ma 0), .ref (ma 1), .ref (ma 2), .ref (ma 3), .ref (ma 4), .ref (ma 5), .ref (ma 6), .ref (ma 7), .ref (ma 8), .ref (ma 9), .ref (ma 10), .ref (ma 11), .ref (ma 12), .ref (ma 13), .ref (ma 14), .ref (ma 15), .ref (ma 16), .ref (ma 17), .ref (ma 18), .ref (ma 19), .ref (ma 20), .ref (ma 21), .ref (ma 22), .ref (ma 23), .ref (ma 24), .ref (ma 25), .ref (ma 26), .ref (ma 27), .ref (ma 28)])), (ma 0, .inl (cI, 240, .inl (fun i => nI (tb i))))]) [0, 1] (by decide) rfl
    exact hret () _ _ _ _ _ (Or.inl rfl) hP9 hD9 hS (by rfl) dd_M_type_29
  · refine lv_iload_n hx hb dd_M_type_10 rfl (lv_at hl 2 rfl) ?_
    refine lv_bipush (v := nI 8) hx hb dd_M_type_11 (by decide) ?_
    refine lv_icmp_gt (tgt := 28) hx hb dd_M_type_13 rfl (fun h13 => ?_) (fun h13 => ?_)
    · refine lv_iconst (v := nI 0) hx hb dd_M_type_28 (by decide) ?_
      have hP9 := hP.sub (ws' := [(mo, .inr (10, [.int (nI 0), .int (nI tpd), .int att, .int wrg, .int flt, .int (nI ns), .int crs, .int nws, .int nwc, .int od, .int hor, .int coa, .int tim, .int shf, .int clm, .int rfd, .int tri, .int bxs, .int lsg, .int lbx, .int crg, .long lo, .long hi, .int be, .ref (ma 0), .ref (ma 1), .ref (ma 2), .ref (ma 3), .ref (ma 4), .ref (ma 5), .ref (ma 6), .ref (ma 7), .ref (ma 8), .ref (ma 9), .ref (ma 10), .ref (ma 11), .ref (ma 12), .ref (ma 13), .ref (ma 14), .ref (ma 15), .ref (ma 16), .ref (ma 17), .ref (ma 18), .ref (ma 19), .ref (ma 20), .ref (ma 21), .ref (ma 22), .ref (ma 23), .ref (ma 24), .ref (ma 25), .ref (ma 26), .ref (ma 27), .ref (ma 28)])), (ma 0, .inl (cI, 240, .inl (fun i => nI (tb i))))]) [0, 1] rfl
      have hD9 := hD.sub (ws' := [(mo, .inr (10, [.int (nI 0), .int (nI tpd), .int att, .int wrg, .int flt, .int (nI ns), .int crs, .int nws, .int nwc, .int od, .int hor, .int coa, .int tim, .int shf, .int clm, .int rfd, .int tri, .int bxs, .int lsg, .int lbx, .int crg, .long lo, .long hi, .int be, .ref (ma 0), .ref (ma 1), .ref (ma 2), .ref (ma 3), .ref (ma 4), .ref (ma 5), .ref (ma 6), .ref (ma 7), .ref (ma 8), .ref (ma 9), .ref (ma 10), .ref (ma 11), .ref (ma 12), .ref (ma 13), .ref (ma 14), .ref (ma 15), .ref (ma 16), .ref (ma 17), .ref (ma 18), .ref (ma 19), .ref (ma 20), .ref (ma 21), .ref (ma 22), .ref (ma 23), .ref (ma 24), .ref (ma 25), .ref (ma 26), .ref (ma 27), .ref (ma 28)])), (ma 0, .inl (cI, 240, .inl (fun i => nI (tb i))))]) [0, 1] (by decide) rfl
      exact hret () _ _ _ _ _ (Or.inl rfl) hP9 hD9 hS (by rfl) dd_M_type_29
    · obtain ⟨N, hN, hN1, hN8⟩ := ty_n h7 h13
      subst hN
      refine lv_aload_n hx hb dd_M_type_16 rfl (lv_at hl 0 rfl) ?_
      refine va_get (D := D) (ci := 10) (v := .int (nI tpd)) (C := RR_M) (T := TT_M) (N := 53) hx hb hts (fun w h => List.mem_cons_of_mem _ (in_M w h)) hown hK hP 0 rfl rfl 1 (by decide) (hts _ (List.mem_cons_of_mem _ wd_792)) (fun _ h9 => h9) rfl dd_M_type_17 ?_
      refine lv_iload_n hx hb dd_M_type_20 rfl (lv_at hl 2 rfl) ?_
      refine bo_iadd hx hb dd_M_type_21 ?_
      refine lv_sipush (v := nI 240) hx hb dd_M_type_22 (by decide) ?_
      refine bo_icmp_le (tgt := 30) hx hb dd_M_type_25 rfl (by omega) (by omega) (fun h25 => ?_) (fun h25 => ?_)
      · refine lv_iconst (v := nI 0) hx hb dd_M_type_30 (by decide) ?_
        refine lv_istore (lv' := [(4, .int (nI 0)), (0, .ref mo), (1, .long w), (3, .int (nI N))]) hx hb dd_M_type_31 hl (by decide) rfl (fun ls hl => ?_)
        have lo33 : ∀ (fu : Nat) (k : Nat) (hk : k ≤ N) (hbk : ∀ j, j < k → 33 ≤ byN w j ∧ byN w j ≤ 126) (ls : Array Slot) (H : Heap) (locs : List Loc), (N - k) < fu → lv_has ls 6 [(0, .ref mo), (1, .long w), (3, .int (nI N)), (4, .int (nI k))] → va_P D bo_cl [(mo, .inr (10, [.int (nI 0), .int (nI tpd), .int att, .int wrg, .int flt, .int (nI ns), .int crs, .int nws, .int nwc, .int od, .int hor, .int coa, .int tim, .int shf, .int clm, .int rfd, .int tri, .int bxs, .int lsg, .int lbx, .int crg, .long lo, .long hi, .int be, .ref (ma 0), .ref (ma 1), .ref (ma 2), .ref (ma 3), .ref (ma 4), .ref (ma 5), .ref (ma 6), .ref (ma 7), .ref (ma 8), .ref (ma 9), .ref (ma 10), .ref (ma 11), .ref (ma 12), .ref (ma 13), .ref (ma 14), .ref (ma 15), .ref (ma 16), .ref (ma 17), .ref (ma 18), .ref (ma 19), .ref (ma 20), .ref (ma 21), .ref (ma 22), .ref (ma 23), .ref (ma 24), .ref (ma 25), .ref (ma 26), .ref (ma 27), .ref (ma 28)])), (ma 0, .inl (cI, 240, .inl (fun i => nI (tb i))))] H → va_D A [(mo, .inr (10, [.int (nI 0), .int (nI tpd), .int att, .int wrg, .int flt, .int (nI ns), .int crs, .int nws, .int nwc, .int od, .int hor, .int coa, .int tim, .int shf, .int clm, .int rfd, .int tri, .int bxs, .int lsg, .int lbx, .int crg, .long lo, .long hi, .int be, .ref (ma 0), .ref (ma 1), .ref (ma 2), .ref (ma 3), .ref (ma 4), .ref (ma 5), .ref (ma 6), .ref (ma 7), .ref (ma 8), .ref (ma 9), .ref (ma 10), .ref (ma 11), .ref (ma 12), .ref (ma 13), .ref (ma 14), .ref (ma 15), .ref (ma 16), .ref (ma 17), .ref (ma 18), .ref (ma 19), .ref (ma 20), .ref (ma 21), .ref (ma 22), .ref (ma 23), .ref (ma 24), .ref (ma 25), .ref (ma 26), .ref (ma 27), .ref (ma 28)])), (ma 0, .inl (cI, 240, .inl (fun i => nI (tb i))))] → va_S A s.heap H locs → W p l e (bo_rm 0 0) s m args below meth c H locs 0 0 Q (F0 m 33 ls []) := by
          intro fu33
          induction fu33 with
          | zero => intro k hk hbk ls H locs hfu; exact absurd hfu (Nat.not_lt_zero _)
          | succ fu33 ih33 =>
            intro k hk hbk ls H locs hfu33 hl hP hD hS
            refine lv_iload hx hb dd_M_type_33 (lv_at hl 3 rfl) ?_
            refine lv_iload_n hx hb dd_M_type_35 rfl (lv_at hl 2 rfl) ?_
            refine bo_icmp_ge (tgt := 75) hx hb dd_M_type_36 rfl (by omega) (by omega) (fun h36 => ?_) (fun h36 => ?_)
            · exact (hb9 ⟨N, rfl, hN1, hN8, by omega, fun j hj => hbk j (by omega)⟩).elim
            · refine lv_lload_n hx hb dd_M_type_39 rfl (lv_at hl 1 rfl) ?_
              refine lv_bipush (v := nI 8) hx hb dd_M_type_40 (by decide) ?_
              refine lv_iload hx hb dd_M_type_42 (lv_at hl 3 rfl) ?_
              refine bo_imul hx hb dd_M_type_44 ?_
              refine lv_lshr (v := w >>> ((nI (8 * k)).toInt64 &&& 63)) hx hb dd_M_type_45 rfl ?_
              refine lv_ldc2 (v := 255) hx hb hown (hts _ (List.mem_cons_of_mem _ wd_958)) dd_M_type_46 ?_
              refine lv_land hx hb dd_M_type_49 ?_
              refine lv_l2i (v := ((w >>> ((nI (8 * k)).toInt64 &&& 63)) &&& 255).toInt32) hx hb dd_M_type_50 rfl ?_
              refine lv_topi (fun vv ee => ?_)
              rw [by_m w (show k < 8 by omega)] at ee
              subst ee
              refine lv_istore (lv' := [(5, .int (nI (byN w k))), (0, .ref mo), (1, .long w), (3, .int (nI N)), (4, .int (nI k))]) hx hb dd_M_type_51 hl (by decide) rfl (fun ls hl => ?_)
              refine lv_iload hx hb dd_M_type_53 (lv_at hl 0 rfl) ?_
              refine lv_bipush (v := nI 33) hx hb dd_M_type_55 (by decide) ?_
              refine bo_icmp_lt (tgt := 67) hx hb dd_M_type_57 rfl (Nat.lt_trans (byN_lt w k) (by decide)) (by omega) (fun h57 => ?_) (fun h57 => ?_)
              · refine lv_iconst (v := nI 0) hx hb dd_M_type_67 (by decide) ?_
                have hP9 := hP.sub (ws' := [(mo, .inr (10, [.int (nI 0), .int (nI tpd), .int att, .int wrg, .int flt, .int (nI ns), .int crs, .int nws, .int nwc, .int od, .int hor, .int coa, .int tim, .int shf, .int clm, .int rfd, .int tri, .int bxs, .int lsg, .int lbx, .int crg, .long lo, .long hi, .int be, .ref (ma 0), .ref (ma 1), .ref (ma 2), .ref (ma 3), .ref (ma 4), .ref (ma 5), .ref (ma 6), .ref (ma 7), .ref (ma 8), .ref (ma 9), .ref (ma 10), .ref (ma 11), .ref (ma 12), .ref (ma 13), .ref (ma 14), .ref (ma 15), .ref (ma 16), .ref (ma 17), .ref (ma 18), .ref (ma 19), .ref (ma 20), .ref (ma 21), .ref (ma 22), .ref (ma 23), .ref (ma 24), .ref (ma 25), .ref (ma 26), .ref (ma 27), .ref (ma 28)])), (ma 0, .inl (cI, 240, .inl (fun i => nI (tb i))))]) [0, 1] rfl
                have hD9 := hD.sub (ws' := [(mo, .inr (10, [.int (nI 0), .int (nI tpd), .int att, .int wrg, .int flt, .int (nI ns), .int crs, .int nws, .int nwc, .int od, .int hor, .int coa, .int tim, .int shf, .int clm, .int rfd, .int tri, .int bxs, .int lsg, .int lbx, .int crg, .long lo, .long hi, .int be, .ref (ma 0), .ref (ma 1), .ref (ma 2), .ref (ma 3), .ref (ma 4), .ref (ma 5), .ref (ma 6), .ref (ma 7), .ref (ma 8), .ref (ma 9), .ref (ma 10), .ref (ma 11), .ref (ma 12), .ref (ma 13), .ref (ma 14), .ref (ma 15), .ref (ma 16), .ref (ma 17), .ref (ma 18), .ref (ma 19), .ref (ma 20), .ref (ma 21), .ref (ma 22), .ref (ma 23), .ref (ma 24), .ref (ma 25), .ref (ma 26), .ref (ma 27), .ref (ma 28)])), (ma 0, .inl (cI, 240, .inl (fun i => nI (tb i))))]) [0, 1] (by decide) rfl
                exact hret () _ _ _ _ _ (Or.inl rfl) hP9 hD9 hS (by rfl) dd_M_type_68
              · refine lv_iload hx hb dd_M_type_60 (lv_at hl 0 rfl) ?_
                refine lv_bipush (v := nI 126) hx hb dd_M_type_62 (by decide) ?_
                refine bo_icmp_le (tgt := 69) hx hb dd_M_type_64 rfl (Nat.lt_trans (byN_lt w k) (by decide)) (by omega) (fun h64 => ?_) (fun h64 => ?_)
                · refine lv_iinc (k := 4) (x := nI k) (v := nI (k + 1)) (lv' := [(4, .int (nI (k + 1))), (5, .int (nI (byN w k))), (0, .ref mo), (1, .long w), (3, .int (nI N))]) hx hb dd_M_type_69 hl rfl (nI_add _ 1) (by decide) rfl (fun ls hl => ?_)
                  refine lv_goto (tgt := 33) hx hb dd_M_type_72 rfl ?_
                  have hl8 := lv_sub (l' := [(0, .ref mo), (1, .long w), (3, .int (nI N)), (4, .int (nI (k + 1)))]) hl [2, 3, 4, 0] rfl
                  have hP8 := hP.sub (ws' := [(mo, .inr (10, [.int (nI 0), .int (nI tpd), .int att, .int wrg, .int flt, .int (nI ns), .int crs, .int nws, .int nwc, .int od, .int hor, .int coa, .int tim, .int shf, .int clm, .int rfd, .int tri, .int bxs, .int lsg, .int lbx, .int crg, .long lo, .long hi, .int be, .ref (ma 0), .ref (ma 1), .ref (ma 2), .ref (ma 3), .ref (ma 4), .ref (ma 5), .ref (ma 6), .ref (ma 7), .ref (ma 8), .ref (ma 9), .ref (ma 10), .ref (ma 11), .ref (ma 12), .ref (ma 13), .ref (ma 14), .ref (ma 15), .ref (ma 16), .ref (ma 17), .ref (ma 18), .ref (ma 19), .ref (ma 20), .ref (ma 21), .ref (ma 22), .ref (ma 23), .ref (ma 24), .ref (ma 25), .ref (ma 26), .ref (ma 27), .ref (ma 28)])), (ma 0, .inl (cI, 240, .inl (fun i => nI (tb i))))]) [0, 1] rfl
                  have hD8 := hD.sub (ws' := [(mo, .inr (10, [.int (nI 0), .int (nI tpd), .int att, .int wrg, .int flt, .int (nI ns), .int crs, .int nws, .int nwc, .int od, .int hor, .int coa, .int tim, .int shf, .int clm, .int rfd, .int tri, .int bxs, .int lsg, .int lbx, .int crg, .long lo, .long hi, .int be, .ref (ma 0), .ref (ma 1), .ref (ma 2), .ref (ma 3), .ref (ma 4), .ref (ma 5), .ref (ma 6), .ref (ma 7), .ref (ma 8), .ref (ma 9), .ref (ma 10), .ref (ma 11), .ref (ma 12), .ref (ma 13), .ref (ma 14), .ref (ma 15), .ref (ma 16), .ref (ma 17), .ref (ma 18), .ref (ma 19), .ref (ma 20), .ref (ma 21), .ref (ma 22), .ref (ma 23), .ref (ma 24), .ref (ma 25), .ref (ma 26), .ref (ma 27), .ref (ma 28)])), (ma 0, .inl (cI, 240, .inl (fun i => nI (tb i))))]) [0, 1] (by decide) rfl
                  exact ih33 (k + 1) (by omega) (by intro j hj; by_cases hq : j = k; (rw [hq]; omega); exact hbk j (by omega)) _ _ _ (by omega) hl8 hP8 hD8 hS
                · refine lv_iconst (v := nI 0) hx hb dd_M_type_67 (by decide) ?_
                  have hP9 := hP.sub (ws' := [(mo, .inr (10, [.int (nI 0), .int (nI tpd), .int att, .int wrg, .int flt, .int (nI ns), .int crs, .int nws, .int nwc, .int od, .int hor, .int coa, .int tim, .int shf, .int clm, .int rfd, .int tri, .int bxs, .int lsg, .int lbx, .int crg, .long lo, .long hi, .int be, .ref (ma 0), .ref (ma 1), .ref (ma 2), .ref (ma 3), .ref (ma 4), .ref (ma 5), .ref (ma 6), .ref (ma 7), .ref (ma 8), .ref (ma 9), .ref (ma 10), .ref (ma 11), .ref (ma 12), .ref (ma 13), .ref (ma 14), .ref (ma 15), .ref (ma 16), .ref (ma 17), .ref (ma 18), .ref (ma 19), .ref (ma 20), .ref (ma 21), .ref (ma 22), .ref (ma 23), .ref (ma 24), .ref (ma 25), .ref (ma 26), .ref (ma 27), .ref (ma 28)])), (ma 0, .inl (cI, 240, .inl (fun i => nI (tb i))))]) [0, 1] rfl
                  have hD9 := hD.sub (ws' := [(mo, .inr (10, [.int (nI 0), .int (nI tpd), .int att, .int wrg, .int flt, .int (nI ns), .int crs, .int nws, .int nwc, .int od, .int hor, .int coa, .int tim, .int shf, .int clm, .int rfd, .int tri, .int bxs, .int lsg, .int lbx, .int crg, .long lo, .long hi, .int be, .ref (ma 0), .ref (ma 1), .ref (ma 2), .ref (ma 3), .ref (ma 4), .ref (ma 5), .ref (ma 6), .ref (ma 7), .ref (ma 8), .ref (ma 9), .ref (ma 10), .ref (ma 11), .ref (ma 12), .ref (ma 13), .ref (ma 14), .ref (ma 15), .ref (ma 16), .ref (ma 17), .ref (ma 18), .ref (ma 19), .ref (ma 20), .ref (ma 21), .ref (ma 22), .ref (ma 23), .ref (ma 24), .ref (ma 25), .ref (ma 26), .ref (ma 27), .ref (ma 28)])), (ma 0, .inl (cI, 240, .inl (fun i => nI (tb i))))]) [0, 1] (by decide) rfl
                  exact hret () _ _ _ _ _ (Or.inl rfl) hP9 hD9 hS (by rfl) dd_M_type_68
        have hl8 := lv_sub (l' := [(0, .ref mo), (1, .long w), (3, .int (nI N)), (4, .int (nI 0))]) hl [1, 2, 3, 0] rfl
        have hP8 := hP.sub (ws' := [(mo, .inr (10, [.int (nI 0), .int (nI tpd), .int att, .int wrg, .int flt, .int (nI ns), .int crs, .int nws, .int nwc, .int od, .int hor, .int coa, .int tim, .int shf, .int clm, .int rfd, .int tri, .int bxs, .int lsg, .int lbx, .int crg, .long lo, .long hi, .int be, .ref (ma 0), .ref (ma 1), .ref (ma 2), .ref (ma 3), .ref (ma 4), .ref (ma 5), .ref (ma 6), .ref (ma 7), .ref (ma 8), .ref (ma 9), .ref (ma 10), .ref (ma 11), .ref (ma 12), .ref (ma 13), .ref (ma 14), .ref (ma 15), .ref (ma 16), .ref (ma 17), .ref (ma 18), .ref (ma 19), .ref (ma 20), .ref (ma 21), .ref (ma 22), .ref (ma 23), .ref (ma 24), .ref (ma 25), .ref (ma 26), .ref (ma 27), .ref (ma 28)])), (ma 0, .inl (cI, 240, .inl (fun i => nI (tb i))))]) [0, 1] rfl
        have hD8 := hD.sub (ws' := [(mo, .inr (10, [.int (nI 0), .int (nI tpd), .int att, .int wrg, .int flt, .int (nI ns), .int crs, .int nws, .int nwc, .int od, .int hor, .int coa, .int tim, .int shf, .int clm, .int rfd, .int tri, .int bxs, .int lsg, .int lbx, .int crg, .long lo, .long hi, .int be, .ref (ma 0), .ref (ma 1), .ref (ma 2), .ref (ma 3), .ref (ma 4), .ref (ma 5), .ref (ma 6), .ref (ma 7), .ref (ma 8), .ref (ma 9), .ref (ma 10), .ref (ma 11), .ref (ma 12), .ref (ma 13), .ref (ma 14), .ref (ma 15), .ref (ma 16), .ref (ma 17), .ref (ma 18), .ref (ma 19), .ref (ma 20), .ref (ma 21), .ref (ma 22), .ref (ma 23), .ref (ma 24), .ref (ma 25), .ref (ma 26), .ref (ma 27), .ref (ma 28)])), (ma 0, .inl (cI, 240, .inl (fun i => nI (tb i))))]) [0, 1] (by decide) rfl
        exact lo33 ((N - 0) + 1) 0 (by omega) (by intro j hj; omega) _ _ _ (Nat.lt_succ_self _) hl8 hP8 hD8 hS
      · refine lv_iconst (v := nI 0) hx hb dd_M_type_28 (by decide) ?_
        have hP9 := hP.sub (ws' := [(mo, .inr (10, [.int (nI 0), .int (nI tpd), .int att, .int wrg, .int flt, .int (nI ns), .int crs, .int nws, .int nwc, .int od, .int hor, .int coa, .int tim, .int shf, .int clm, .int rfd, .int tri, .int bxs, .int lsg, .int lbx, .int crg, .long lo, .long hi, .int be, .ref (ma 0), .ref (ma 1), .ref (ma 2), .ref (ma 3), .ref (ma 4), .ref (ma 5), .ref (ma 6), .ref (ma 7), .ref (ma 8), .ref (ma 9), .ref (ma 10), .ref (ma 11), .ref (ma 12), .ref (ma 13), .ref (ma 14), .ref (ma 15), .ref (ma 16), .ref (ma 17), .ref (ma 18), .ref (ma 19), .ref (ma 20), .ref (ma 21), .ref (ma 22), .ref (ma 23), .ref (ma 24), .ref (ma 25), .ref (ma 26), .ref (ma 27), .ref (ma 28)])), (ma 0, .inl (cI, 240, .inl (fun i => nI (tb i))))]) [0, 1] rfl
        have hD9 := hD.sub (ws' := [(mo, .inr (10, [.int (nI 0), .int (nI tpd), .int att, .int wrg, .int flt, .int (nI ns), .int crs, .int nws, .int nwc, .int od, .int hor, .int coa, .int tim, .int shf, .int clm, .int rfd, .int tri, .int bxs, .int lsg, .int lbx, .int crg, .long lo, .long hi, .int be, .ref (ma 0), .ref (ma 1), .ref (ma 2), .ref (ma 3), .ref (ma 4), .ref (ma 5), .ref (ma 6), .ref (ma 7), .ref (ma 8), .ref (ma 9), .ref (ma 10), .ref (ma 11), .ref (ma 12), .ref (ma 13), .ref (ma 14), .ref (ma 15), .ref (ma 16), .ref (ma 17), .ref (ma 18), .ref (ma 19), .ref (ma 20), .ref (ma 21), .ref (ma 22), .ref (ma 23), .ref (ma 24), .ref (ma 25), .ref (ma 26), .ref (ma 27), .ref (ma 28)])), (ma 0, .inl (cI, 240, .inl (fun i => nI (tb i))))]) [0, 1] (by decide) rfl
        exact hret () _ _ _ _ _ (Or.inl rfl) hP9 hD9 hS (by rfl) dd_M_type_29

set_option maxHeartbeats 4000000 in
set_option maxRecDepth 100000 in
theorem c_M_typeOk {l : Launch} {D : va_G} {cJ cI cB cY : ClassId} (mo : Nat) (ma : Nat → Nat) (thr : Int32) (tpd : Nat) (att : Int32) (wrg : Int32) (flt : Int32) (ns : Nat) (crs : Int32) (nws : Int32) (nwc : Int32) (od : Int32) (hor : Int32) (coa : Int32) (tim : Int32) (shf : Int32) (clm : Int32) (rfd : Int32) (tri : Int32) (bxs : Int32) (lsg : Int32) (lbx : Int32) (crg : Int32) (lo : Int64) (hi : Int64) (be : Int32) (tb : Nat → Nat) (w : Int64) (N : Nat) (htp : tpd ≤ 240) (hN1 : 1 ≤ N) (hN8 : N ≤ 8) (hN2 : tpd + N ≤ 240) (hby : ∀ k, k < N → 33 ≤ byN w k ∧ byN w k ≤ 126) :
    bo_i (S := Unit) l D bo_cl (bo_ty cJ cI cB cY) yy_M_type (bo_w yy_M_type bb_M_type 6 (some .boolean)) (bo_rm 0 0) [.ref mo, .long w, .int (nI N)] [(mo, .inr (10, [.int thr, .int (nI tpd), .int att, .int wrg, .int flt, .int (nI ns), .int crs, .int nws, .int nwc, .int od, .int hor, .int coa, .int tim, .int shf, .int clm, .int rfd, .int tri, .int bxs, .int lsg, .int lbx, .int crg, .long lo, .long hi, .int be, .ref (ma 0), .ref (ma 1), .ref (ma 2), .ref (ma 3), .ref (ma 4), .ref (ma 5), .ref (ma 6), .ref (ma 7), .ref (ma 8), .ref (ma 9), .ref (ma 10), .ref (ma 11), .ref (ma 12), .ref (ma 13), .ref (ma 14), .ref (ma 15), .ref (ma 16), .ref (ma 17), .ref (ma 18), .ref (ma 19), .ref (ma 20), .ref (ma 21), .ref (ma 22), .ref (ma 23), .ref (ma 24), .ref (ma 25), .ref (ma 26), .ref (ma 27), .ref (ma 28)])), (ma 0, .inl (cI, 240, .inl (fun i => nI (tb i))))] (fun r u => r = nI 1) (fun u => [(mo, .inr (10, [.int (nI 0), .int (nI (tpd + N)), .int att, .int wrg, .int flt, .int (nI ns), .int crs, .int nws, .int nwc, .int od, .int hor, .int coa, .int tim, .int shf, .int clm, .int rfd, .int tri, .int bxs, .int lsg, .int lbx, .int crg, .long lo, .long hi, .int be, .ref (ma 0), .ref (ma 1), .ref (ma 2), .ref (ma 3), .ref (ma 4), .ref (ma 5), .ref (ma 6), .ref (ma 7), .ref (ma 8), .ref (ma 9), .ref (ma 10), .ref (ma 11), .ref (ma 12), .ref (ma 13), .ref (ma 14), .ref (ma 15), .ref (ma 16), .ref (ma 17), .ref (ma 18), .ref (ma 19), .ref (ma 20), .ref (ma 21), .ref (ma 22), .ref (ma 23), .ref (ma 24), .ref (ma 25), .ref (ma 26), .ref (ma 27), .ref (ma 28)])), (ma 0, .inl (cI, 240, .inl (fun i => nI (tyB tb w tpd N N i))))]) := by
  refine bo_enter_z (cc := bb_M_type) (maxL := 6) (by decide) rfl (Nat.le_of_ble_eq_true rfl) ?_
  intro p e s m args below meth c A ls Q hx hb hts hown hml hK hP hD hS hA hl hret
  have hl : lv_has ls 6 [(0, .ref mo), (1, .long w), (3, .int (nI N))] := hl
  refine lv_aload_n hx hb dd_M_type_0 rfl (lv_at hl 0 rfl) ?_
  refine lv_iconst (v := nI 0) hx hb dd_M_type_1 (by decide) ?_
  refine va_put (D := D) (ci := 10) (v := .int (nI 0)) (ty := .int) (C := RR_M) (T := TT_M) (N := 53) hx hb hts (fun w h => List.mem_cons_of_mem _ (in_M w h)) tt_M ty_M nm_M hown hK hP hD hS 0 rfl rfl 0 (by decide) (hts _ (List.mem_cons_of_mem _ wd_790)) (fun _ h9 => h9) rfl (by decide +kernel) rfl rfl (Nat.le_of_ble_eq_true rfl) dd_M_type_2 (fun H locs hP hD hS => ?_)
  have hP : va_P D bo_cl [(mo, .inr (10, [.int (nI 0), .int (nI tpd), .int att, .int wrg, .int flt, .int (nI ns), .int crs, .int nws, .int nwc, .int od, .int hor, .int coa, .int tim, .int shf, .int clm, .int rfd, .int tri, .int bxs, .int lsg, .int lbx, .int crg, .long lo, .long hi, .int be, .ref (ma 0), .ref (ma 1), .ref (ma 2), .ref (ma 3), .ref (ma 4), .ref (ma 5), .ref (ma 6), .ref (ma 7), .ref (ma 8), .ref (ma 9), .ref (ma 10), .ref (ma 11), .ref (ma 12), .ref (ma 13), .ref (ma 14), .ref (ma 15), .ref (ma 16), .ref (ma 17), .ref (ma 18), .ref (ma 19), .ref (ma 20), .ref (ma 21), .ref (ma 22), .ref (ma 23), .ref (ma 24), .ref (ma 25), .ref (ma 26), .ref (ma 27), .ref (ma 28)])), (ma 0, .inl (cI, 240, .inl (fun i => nI (tb i))))] H := hP
  have hD : va_D A [(mo, .inr (10, [.int (nI 0), .int (nI tpd), .int att, .int wrg, .int flt, .int (nI ns), .int crs, .int nws, .int nwc, .int od, .int hor, .int coa, .int tim, .int shf, .int clm, .int rfd, .int tri, .int bxs, .int lsg, .int lbx, .int crg, .long lo, .long hi, .int be, .ref (ma 0), .ref (ma 1), .ref (ma 2), .ref (ma 3), .ref (ma 4), .ref (ma 5), .ref (ma 6), .ref (ma 7), .ref (ma 8), .ref (ma 9), .ref (ma 10), .ref (ma 11), .ref (ma 12), .ref (ma 13), .ref (ma 14), .ref (ma 15), .ref (ma 16), .ref (ma 17), .ref (ma 18), .ref (ma 19), .ref (ma 20), .ref (ma 21), .ref (ma 22), .ref (ma 23), .ref (ma 24), .ref (ma 25), .ref (ma 26), .ref (ma 27), .ref (ma 28)])), (ma 0, .inl (cI, 240, .inl (fun i => nI (tb i))))] := hD
  refine lv_iload_n hx hb dd_M_type_5 rfl (lv_at hl 2 rfl) ?_
  refine lv_iconst (v := nI 1) hx hb dd_M_type_6 (by decide) ?_
  refine bo_icmp_lt (tgt := 28) hx hb dd_M_type_7 rfl (by omega) (by omega) (fun h7 => absurd h7 (by omega)) (fun h7 => ?_)
  refine lv_iload_n hx hb dd_M_type_10 rfl (lv_at hl 2 rfl) ?_
  refine lv_bipush (v := nI 8) hx hb dd_M_type_11 (by decide) ?_
  refine bo_icmp_gt (tgt := 28) hx hb dd_M_type_13 rfl (by omega) (by omega) (fun h13 => absurd h13 (by omega)) (fun h13 => ?_)
  refine lv_aload_n hx hb dd_M_type_16 rfl (lv_at hl 0 rfl) ?_
  refine va_get (D := D) (ci := 10) (v := .int (nI tpd)) (C := RR_M) (T := TT_M) (N := 53) hx hb hts (fun w h => List.mem_cons_of_mem _ (in_M w h)) hown hK hP 0 rfl rfl 1 (by decide) (hts _ (List.mem_cons_of_mem _ wd_792)) (fun _ h9 => h9) rfl dd_M_type_17 ?_
  refine lv_iload_n hx hb dd_M_type_20 rfl (lv_at hl 2 rfl) ?_
  refine bo_iadd hx hb dd_M_type_21 ?_
  refine lv_sipush (v := nI 240) hx hb dd_M_type_22 (by decide) ?_
  refine bo_icmp_le (tgt := 30) hx hb dd_M_type_25 rfl (by omega) (by omega) (fun h25 => ?_) (fun h25 => absurd h25 (by omega))
  refine lv_iconst (v := nI 0) hx hb dd_M_type_30 (by decide) ?_
  refine lv_istore (lv' := [(4, .int (nI 0)), (0, .ref mo), (1, .long w), (3, .int (nI N))]) hx hb dd_M_type_31 hl (by decide) rfl (fun ls hl => ?_)
  have lo33 : ∀ (fu : Nat) (k : Nat) (hk : k ≤ N) (ls : Array Slot) (H : Heap) (locs : List Loc), (N - k) < fu → lv_has ls 6 [(0, .ref mo), (1, .long w), (3, .int (nI N)), (4, .int (nI k))] → va_P D bo_cl [(mo, .inr (10, [.int (nI 0), .int (nI tpd), .int att, .int wrg, .int flt, .int (nI ns), .int crs, .int nws, .int nwc, .int od, .int hor, .int coa, .int tim, .int shf, .int clm, .int rfd, .int tri, .int bxs, .int lsg, .int lbx, .int crg, .long lo, .long hi, .int be, .ref (ma 0), .ref (ma 1), .ref (ma 2), .ref (ma 3), .ref (ma 4), .ref (ma 5), .ref (ma 6), .ref (ma 7), .ref (ma 8), .ref (ma 9), .ref (ma 10), .ref (ma 11), .ref (ma 12), .ref (ma 13), .ref (ma 14), .ref (ma 15), .ref (ma 16), .ref (ma 17), .ref (ma 18), .ref (ma 19), .ref (ma 20), .ref (ma 21), .ref (ma 22), .ref (ma 23), .ref (ma 24), .ref (ma 25), .ref (ma 26), .ref (ma 27), .ref (ma 28)])), (ma 0, .inl (cI, 240, .inl (fun i => nI (tb i))))] H → va_D A [(mo, .inr (10, [.int (nI 0), .int (nI tpd), .int att, .int wrg, .int flt, .int (nI ns), .int crs, .int nws, .int nwc, .int od, .int hor, .int coa, .int tim, .int shf, .int clm, .int rfd, .int tri, .int bxs, .int lsg, .int lbx, .int crg, .long lo, .long hi, .int be, .ref (ma 0), .ref (ma 1), .ref (ma 2), .ref (ma 3), .ref (ma 4), .ref (ma 5), .ref (ma 6), .ref (ma 7), .ref (ma 8), .ref (ma 9), .ref (ma 10), .ref (ma 11), .ref (ma 12), .ref (ma 13), .ref (ma 14), .ref (ma 15), .ref (ma 16), .ref (ma 17), .ref (ma 18), .ref (ma 19), .ref (ma 20), .ref (ma 21), .ref (ma 22), .ref (ma 23), .ref (ma 24), .ref (ma 25), .ref (ma 26), .ref (ma 27), .ref (ma 28)])), (ma 0, .inl (cI, 240, .inl (fun i => nI (tb i))))] → va_S A s.heap H locs → W p l e (bo_rm 0 0) s m args below meth c H locs 0 0 Q (F0 m 33 ls []) := by
    intro fu33
    induction fu33 with
    | zero => intro k hk ls H locs hfu; exact absurd hfu (Nat.not_lt_zero _)
    | succ fu33 ih33 =>
      intro k hk ls H locs hfu33 hl hP hD hS
      refine lv_iload hx hb dd_M_type_33 (lv_at hl 3 rfl) ?_
      refine lv_iload_n hx hb dd_M_type_35 rfl (lv_at hl 2 rfl) ?_
      refine bo_icmp_ge (tgt := 75) hx hb dd_M_type_36 rfl (by omega) (by omega) (fun h36 => ?_) (fun h36 => ?_)
      · refine lv_iload_n hx hb dd_M_type_75 rfl (lv_at hl 2 rfl) ?_
        refine lv_iconst (v := nI 1) hx hb dd_M_type_76 (by decide) ?_
        refine bo_isub hx hb (by omega) dd_M_type_77 ?_
        refine lv_istore (lv' := [(4, .int (nI (N - 1))), (0, .ref mo), (1, .long w), (3, .int (nI N))]) hx hb dd_M_type_78 hl (by decide) rfl (fun ls hl => ?_)
        have lo80 : ∀ (fu : Nat) (d : Nat) (q : Int32) (tb2 : Nat → Nat) (hd : d ≤ N) (hq : q = nI (N - d) + (-1)) (hz : tb2 = tyB tb w tpd N d) (ls : Array Slot) (H : Heap) (locs : List Loc), (N - d) < fu → lv_has ls 6 [(0, .ref mo), (1, .long w), (3, .int (nI N)), (4, .int q)] → va_P D bo_cl [(mo, .inr (10, [.int (nI 0), .int (nI (tpd + d)), .int att, .int wrg, .int flt, .int (nI ns), .int crs, .int nws, .int nwc, .int od, .int hor, .int coa, .int tim, .int shf, .int clm, .int rfd, .int tri, .int bxs, .int lsg, .int lbx, .int crg, .long lo, .long hi, .int be, .ref (ma 0), .ref (ma 1), .ref (ma 2), .ref (ma 3), .ref (ma 4), .ref (ma 5), .ref (ma 6), .ref (ma 7), .ref (ma 8), .ref (ma 9), .ref (ma 10), .ref (ma 11), .ref (ma 12), .ref (ma 13), .ref (ma 14), .ref (ma 15), .ref (ma 16), .ref (ma 17), .ref (ma 18), .ref (ma 19), .ref (ma 20), .ref (ma 21), .ref (ma 22), .ref (ma 23), .ref (ma 24), .ref (ma 25), .ref (ma 26), .ref (ma 27), .ref (ma 28)])), (ma 0, .inl (cI, 240, .inl (fun i => nI (tb2 i))))] H → va_D A [(mo, .inr (10, [.int (nI 0), .int (nI (tpd + d)), .int att, .int wrg, .int flt, .int (nI ns), .int crs, .int nws, .int nwc, .int od, .int hor, .int coa, .int tim, .int shf, .int clm, .int rfd, .int tri, .int bxs, .int lsg, .int lbx, .int crg, .long lo, .long hi, .int be, .ref (ma 0), .ref (ma 1), .ref (ma 2), .ref (ma 3), .ref (ma 4), .ref (ma 5), .ref (ma 6), .ref (ma 7), .ref (ma 8), .ref (ma 9), .ref (ma 10), .ref (ma 11), .ref (ma 12), .ref (ma 13), .ref (ma 14), .ref (ma 15), .ref (ma 16), .ref (ma 17), .ref (ma 18), .ref (ma 19), .ref (ma 20), .ref (ma 21), .ref (ma 22), .ref (ma 23), .ref (ma 24), .ref (ma 25), .ref (ma 26), .ref (ma 27), .ref (ma 28)])), (ma 0, .inl (cI, 240, .inl (fun i => nI (tb2 i))))] → va_S A s.heap H locs → W p l e (bo_rm 0 0) s m args below meth c H locs 0 0 Q (F0 m 80 ls []) := by
          intro fu80
          induction fu80 with
          | zero => intro d q tb2 hd hq hz ls H locs hfu; exact absurd hfu (Nat.not_lt_zero _)
          | succ fu80 ih80 =>
            intro d q tb2 hd hq hz ls H locs hfu80 hl hP hD hS
            refine lv_iload hx hb dd_M_type_80 (lv_at hl 3 rfl) ?_
            refine lv_if_lt (tgt := 122) hx hb dd_M_type_82 rfl (fun h82 => ?_) (fun h82 => ?_)
            · have hdN := (ty_e hq h82 hN8 hd).symm
              subst hdN
              subst hz
              refine lv_iconst (v := nI 1) hx hb dd_M_type_122 (by decide) ?_
              have hP9 := hP.sub (ws' := [(mo, .inr (10, [.int (nI 0), .int (nI (tpd + N)), .int att, .int wrg, .int flt, .int (nI ns), .int crs, .int nws, .int nwc, .int od, .int hor, .int coa, .int tim, .int shf, .int clm, .int rfd, .int tri, .int bxs, .int lsg, .int lbx, .int crg, .long lo, .long hi, .int be, .ref (ma 0), .ref (ma 1), .ref (ma 2), .ref (ma 3), .ref (ma 4), .ref (ma 5), .ref (ma 6), .ref (ma 7), .ref (ma 8), .ref (ma 9), .ref (ma 10), .ref (ma 11), .ref (ma 12), .ref (ma 13), .ref (ma 14), .ref (ma 15), .ref (ma 16), .ref (ma 17), .ref (ma 18), .ref (ma 19), .ref (ma 20), .ref (ma 21), .ref (ma 22), .ref (ma 23), .ref (ma 24), .ref (ma 25), .ref (ma 26), .ref (ma 27), .ref (ma 28)])), (ma 0, .inl (cI, 240, .inl (fun i => nI (tyB tb w tpd N N i))))]) [0, 1] rfl
              have hD9 := hD.sub (ws' := [(mo, .inr (10, [.int (nI 0), .int (nI (tpd + N)), .int att, .int wrg, .int flt, .int (nI ns), .int crs, .int nws, .int nwc, .int od, .int hor, .int coa, .int tim, .int shf, .int clm, .int rfd, .int tri, .int bxs, .int lsg, .int lbx, .int crg, .long lo, .long hi, .int be, .ref (ma 0), .ref (ma 1), .ref (ma 2), .ref (ma 3), .ref (ma 4), .ref (ma 5), .ref (ma 6), .ref (ma 7), .ref (ma 8), .ref (ma 9), .ref (ma 10), .ref (ma 11), .ref (ma 12), .ref (ma 13), .ref (ma 14), .ref (ma 15), .ref (ma 16), .ref (ma 17), .ref (ma 18), .ref (ma 19), .ref (ma 20), .ref (ma 21), .ref (ma 22), .ref (ma 23), .ref (ma 24), .ref (ma 25), .ref (ma 26), .ref (ma 27), .ref (ma 28)])), (ma 0, .inl (cI, 240, .inl (fun i => nI (tyB tb w tpd N N i))))]) [0, 1] (by decide) rfl
              exact hret () _ _ _ _ _ (Or.inr rfl) hP9 hD9 hS (by rfl) dd_M_type_123
            · obtain ⟨k1, hk1, hq1⟩ := ty_k hq h82
              subst hq1
              refine lv_aload_n hx hb dd_M_type_85 rfl (lv_at hl 0 rfl) ?_
              refine va_get (D := D) (ci := 10) (v := .ref (ma 0)) (C := RR_M) (T := TT_M) (N := 53) hx hb hts (fun w h => List.mem_cons_of_mem _ (in_M w h)) hown hK hP 0 rfl rfl 24 (by decide) (hts _ (List.mem_cons_of_mem _ wd_791)) (fun _ h9 => h9) rfl dd_M_type_86 ?_
              refine lv_aload_n hx hb dd_M_type_89 rfl (lv_at hl 0 rfl) ?_
              refine va_get (D := D) (ci := 10) (v := .int (nI (tpd + d))) (C := RR_M) (T := TT_M) (N := 53) hx hb hts (fun w h => List.mem_cons_of_mem _ (in_M w h)) hown hK hP 0 rfl rfl 1 (by decide) (hts _ (List.mem_cons_of_mem _ wd_792)) (fun _ h9 => h9) rfl dd_M_type_90 ?_
              refine lv_lload_n hx hb dd_M_type_93 rfl (lv_at hl 1 rfl) ?_
              refine lv_bipush (v := nI 8) hx hb dd_M_type_94 (by decide) ?_
              refine lv_iload hx hb dd_M_type_96 (lv_at hl 3 rfl) ?_
              refine bo_imul hx hb dd_M_type_98 ?_
              refine lv_lshr (v := w >>> ((nI (8 * k1)).toInt64 &&& 63)) hx hb dd_M_type_99 rfl ?_
              refine lv_ldc2 (v := 255) hx hb hown (hts _ (List.mem_cons_of_mem _ wd_958)) dd_M_type_100 ?_
              refine lv_land hx hb dd_M_type_103 ?_
              refine lv_l2i (v := ((w >>> ((nI (8 * k1)).toInt64 &&& 63)) &&& 255).toInt32) hx hb dd_M_type_104 rfl ?_
              refine lv_topi (fun vv ee => ?_)
              rw [by_m w (show k1 < 8 by omega)] at ee
              subst ee
              refine bo_iast hx hb hK hP hD hS 1 1 rfl rfl (by omega) (by decide) dd_M_type_105 (fun H locs hP hD hS => ?_)
              have hP : va_P D bo_cl [(mo, .inr (10, [.int (nI 0), .int (nI (tpd + d)), .int att, .int wrg, .int flt, .int (nI ns), .int crs, .int nws, .int nwc, .int od, .int hor, .int coa, .int tim, .int shf, .int clm, .int rfd, .int tri, .int bxs, .int lsg, .int lbx, .int crg, .long lo, .long hi, .int be, .ref (ma 0), .ref (ma 1), .ref (ma 2), .ref (ma 3), .ref (ma 4), .ref (ma 5), .ref (ma 6), .ref (ma 7), .ref (ma 8), .ref (ma 9), .ref (ma 10), .ref (ma 11), .ref (ma 12), .ref (ma 13), .ref (ma 14), .ref (ma 15), .ref (ma 16), .ref (ma 17), .ref (ma 18), .ref (ma 19), .ref (ma 20), .ref (ma 21), .ref (ma 22), .ref (ma 23), .ref (ma 24), .ref (ma 25), .ref (ma 26), .ref (ma 27), .ref (ma 28)])), (ma 0, .inl (cI, 240, .inl (upd (fun i => nI (tb2 i)) (tpd + d) (nI (byN w k1)))))] H := hP
              have hD : va_D A [(mo, .inr (10, [.int (nI 0), .int (nI (tpd + d)), .int att, .int wrg, .int flt, .int (nI ns), .int crs, .int nws, .int nwc, .int od, .int hor, .int coa, .int tim, .int shf, .int clm, .int rfd, .int tri, .int bxs, .int lsg, .int lbx, .int crg, .long lo, .long hi, .int be, .ref (ma 0), .ref (ma 1), .ref (ma 2), .ref (ma 3), .ref (ma 4), .ref (ma 5), .ref (ma 6), .ref (ma 7), .ref (ma 8), .ref (ma 9), .ref (ma 10), .ref (ma 11), .ref (ma 12), .ref (ma 13), .ref (ma 14), .ref (ma 15), .ref (ma 16), .ref (ma 17), .ref (ma 18), .ref (ma 19), .ref (ma 20), .ref (ma 21), .ref (ma 22), .ref (ma 23), .ref (ma 24), .ref (ma 25), .ref (ma 26), .ref (ma 27), .ref (ma 28)])), (ma 0, .inl (cI, 240, .inl (upd (fun i => nI (tb2 i)) (tpd + d) (nI (byN w k1)))))] := hD
              have hP := bo_extI hP 1 rfl (fun i => nI (va_up tb2 (tpd + d) (byN w k1) i)) (fun j _ => bo_updN _ _ _ j)
              have hD := hD.set (e := .inl (cI, 240, .inl (fun i => nI (va_up tb2 (tpd + d) (byN w k1) i)))) (p := 1) rfl
              have hP : va_P D bo_cl [(mo, .inr (10, [.int (nI 0), .int (nI (tpd + d)), .int att, .int wrg, .int flt, .int (nI ns), .int crs, .int nws, .int nwc, .int od, .int hor, .int coa, .int tim, .int shf, .int clm, .int rfd, .int tri, .int bxs, .int lsg, .int lbx, .int crg, .long lo, .long hi, .int be, .ref (ma 0), .ref (ma 1), .ref (ma 2), .ref (ma 3), .ref (ma 4), .ref (ma 5), .ref (ma 6), .ref (ma 7), .ref (ma 8), .ref (ma 9), .ref (ma 10), .ref (ma 11), .ref (ma 12), .ref (ma 13), .ref (ma 14), .ref (ma 15), .ref (ma 16), .ref (ma 17), .ref (ma 18), .ref (ma 19), .ref (ma 20), .ref (ma 21), .ref (ma 22), .ref (ma 23), .ref (ma 24), .ref (ma 25), .ref (ma 26), .ref (ma 27), .ref (ma 28)])), (ma 0, .inl (cI, 240, .inl (fun i => nI (va_up tb2 (tpd + d) (byN w k1) i))))] H := hP
              have hD : va_D A [(mo, .inr (10, [.int (nI 0), .int (nI (tpd + d)), .int att, .int wrg, .int flt, .int (nI ns), .int crs, .int nws, .int nwc, .int od, .int hor, .int coa, .int tim, .int shf, .int clm, .int rfd, .int tri, .int bxs, .int lsg, .int lbx, .int crg, .long lo, .long hi, .int be, .ref (ma 0), .ref (ma 1), .ref (ma 2), .ref (ma 3), .ref (ma 4), .ref (ma 5), .ref (ma 6), .ref (ma 7), .ref (ma 8), .ref (ma 9), .ref (ma 10), .ref (ma 11), .ref (ma 12), .ref (ma 13), .ref (ma 14), .ref (ma 15), .ref (ma 16), .ref (ma 17), .ref (ma 18), .ref (ma 19), .ref (ma 20), .ref (ma 21), .ref (ma 22), .ref (ma 23), .ref (ma 24), .ref (ma 25), .ref (ma 26), .ref (ma 27), .ref (ma 28)])), (ma 0, .inl (cI, 240, .inl (fun i => nI (va_up tb2 (tpd + d) (byN w k1) i))))] := hD
              refine lv_aload_n hx hb dd_M_type_106 rfl (lv_at hl 0 rfl) ?_
              refine lv_dup hx hb dd_M_type_107 rfl ?_
              refine va_get (D := D) (ci := 10) (v := .int (nI (tpd + d))) (C := RR_M) (T := TT_M) (N := 53) hx hb hts (fun w h => List.mem_cons_of_mem _ (in_M w h)) hown hK hP 0 rfl rfl 1 (by decide) (hts _ (List.mem_cons_of_mem _ wd_792)) (fun _ h9 => h9) rfl dd_M_type_108 ?_
              refine lv_iconst (v := nI 1) hx hb dd_M_type_111 (by decide) ?_
              refine bo_iadd hx hb dd_M_type_112 ?_
              refine va_put (D := D) (ci := 10) (v := .int (nI ((tpd + d) + 1))) (ty := .int) (C := RR_M) (T := TT_M) (N := 53) hx hb hts (fun w h => List.mem_cons_of_mem _ (in_M w h)) tt_M ty_M nm_M hown hK hP hD hS 0 rfl rfl 1 (by decide) (hts _ (List.mem_cons_of_mem _ wd_792)) (fun _ h9 => h9) rfl (by decide +kernel) rfl rfl (Nat.le_of_ble_eq_true rfl) dd_M_type_113 (fun H locs hP hD hS => ?_)
              have hP : va_P D bo_cl [(mo, .inr (10, [.int (nI 0), .int (nI ((tpd + d) + 1)), .int att, .int wrg, .int flt, .int (nI ns), .int crs, .int nws, .int nwc, .int od, .int hor, .int coa, .int tim, .int shf, .int clm, .int rfd, .int tri, .int bxs, .int lsg, .int lbx, .int crg, .long lo, .long hi, .int be, .ref (ma 0), .ref (ma 1), .ref (ma 2), .ref (ma 3), .ref (ma 4), .ref (ma 5), .ref (ma 6), .ref (ma 7), .ref (ma 8), .ref (ma 9), .ref (ma 10), .ref (ma 11), .ref (ma 12), .ref (ma 13), .ref (ma 14), .ref (ma 15), .ref (ma 16), .ref (ma 17), .ref (ma 18), .ref (ma 19), .ref (ma 20), .ref (ma 21), .ref (ma 22), .ref (ma 23), .ref (ma 24), .ref (ma 25), .ref (ma 26), .ref (ma 27), .ref (ma 28)])), (ma 0, .inl (cI, 240, .inl (fun i => nI (va_up tb2 (tpd + d) (byN w k1) i))))] H := hP
              have hD : va_D A [(mo, .inr (10, [.int (nI 0), .int (nI ((tpd + d) + 1)), .int att, .int wrg, .int flt, .int (nI ns), .int crs, .int nws, .int nwc, .int od, .int hor, .int coa, .int tim, .int shf, .int clm, .int rfd, .int tri, .int bxs, .int lsg, .int lbx, .int crg, .long lo, .long hi, .int be, .ref (ma 0), .ref (ma 1), .ref (ma 2), .ref (ma 3), .ref (ma 4), .ref (ma 5), .ref (ma 6), .ref (ma 7), .ref (ma 8), .ref (ma 9), .ref (ma 10), .ref (ma 11), .ref (ma 12), .ref (ma 13), .ref (ma 14), .ref (ma 15), .ref (ma 16), .ref (ma 17), .ref (ma 18), .ref (ma 19), .ref (ma 20), .ref (ma 21), .ref (ma 22), .ref (ma 23), .ref (ma 24), .ref (ma 25), .ref (ma 26), .ref (ma 27), .ref (ma 28)])), (ma 0, .inl (cI, 240, .inl (fun i => nI (va_up tb2 (tpd + d) (byN w k1) i))))] := hD
              refine lv_iinc (k := 3) (x := nI k1) (v := nI k1 + (-1)) (lv' := [(4, .int (nI k1 + (-1))), (0, .ref mo), (1, .long w), (3, .int (nI N))]) hx hb dd_M_type_116 hl rfl (by rw [show Int32.ofInt (-1) = -1 from by decide]) (by decide) rfl (fun ls hl => ?_)
              refine lv_goto (tgt := 80) hx hb dd_M_type_119 rfl ?_
              have hl8 := lv_sub (l' := [(0, .ref mo), (1, .long w), (3, .int (nI N)), (4, .int (nI k1 + (-1)))]) hl [1, 2, 3, 0] rfl
              have hP8 := hP.sub (ws' := [(mo, .inr (10, [.int (nI 0), .int (nI (tpd + (d + 1))), .int att, .int wrg, .int flt, .int (nI ns), .int crs, .int nws, .int nwc, .int od, .int hor, .int coa, .int tim, .int shf, .int clm, .int rfd, .int tri, .int bxs, .int lsg, .int lbx, .int crg, .long lo, .long hi, .int be, .ref (ma 0), .ref (ma 1), .ref (ma 2), .ref (ma 3), .ref (ma 4), .ref (ma 5), .ref (ma 6), .ref (ma 7), .ref (ma 8), .ref (ma 9), .ref (ma 10), .ref (ma 11), .ref (ma 12), .ref (ma 13), .ref (ma 14), .ref (ma 15), .ref (ma 16), .ref (ma 17), .ref (ma 18), .ref (ma 19), .ref (ma 20), .ref (ma 21), .ref (ma 22), .ref (ma 23), .ref (ma 24), .ref (ma 25), .ref (ma 26), .ref (ma 27), .ref (ma 28)])), (ma 0, .inl (cI, 240, .inl (fun i => nI ((va_up tb2 (tpd + d) (byN w k1)) i))))]) [0, 1] rfl
              have hD8 := hD.sub (ws' := [(mo, .inr (10, [.int (nI 0), .int (nI (tpd + (d + 1))), .int att, .int wrg, .int flt, .int (nI ns), .int crs, .int nws, .int nwc, .int od, .int hor, .int coa, .int tim, .int shf, .int clm, .int rfd, .int tri, .int bxs, .int lsg, .int lbx, .int crg, .long lo, .long hi, .int be, .ref (ma 0), .ref (ma 1), .ref (ma 2), .ref (ma 3), .ref (ma 4), .ref (ma 5), .ref (ma 6), .ref (ma 7), .ref (ma 8), .ref (ma 9), .ref (ma 10), .ref (ma 11), .ref (ma 12), .ref (ma 13), .ref (ma 14), .ref (ma 15), .ref (ma 16), .ref (ma 17), .ref (ma 18), .ref (ma 19), .ref (ma 20), .ref (ma 21), .ref (ma 22), .ref (ma 23), .ref (ma 24), .ref (ma 25), .ref (ma 26), .ref (ma 27), .ref (ma 28)])), (ma 0, .inl (cI, 240, .inl (fun i => nI ((va_up tb2 (tpd + d) (byN w k1)) i))))]) [0, 1] (by decide) rfl
              exact ih80 (d + 1) (nI k1 + (-1)) (va_up tb2 (tpd + d) (byN w k1)) (by omega) (by rw [show N - (d + 1) = k1 by omega]) (by exact ty_s hz hk1) _ _ _ (by omega) hl8 hP8 hD8 hS
        have hl8 := lv_sub (l' := [(0, .ref mo), (1, .long w), (3, .int (nI N)), (4, .int (nI (N - 1)))]) hl [1, 2, 3, 0] rfl
        have hP8 := hP.sub (ws' := [(mo, .inr (10, [.int (nI 0), .int (nI (tpd + 0)), .int att, .int wrg, .int flt, .int (nI ns), .int crs, .int nws, .int nwc, .int od, .int hor, .int coa, .int tim, .int shf, .int clm, .int rfd, .int tri, .int bxs, .int lsg, .int lbx, .int crg, .long lo, .long hi, .int be, .ref (ma 0), .ref (ma 1), .ref (ma 2), .ref (ma 3), .ref (ma 4), .ref (ma 5), .ref (ma 6), .ref (ma 7), .ref (ma 8), .ref (ma 9), .ref (ma 10), .ref (ma 11), .ref (ma 12), .ref (ma 13), .ref (ma 14), .ref (ma 15), .ref (ma 16), .ref (ma 17), .ref (ma 18), .ref (ma 19), .ref (ma 20), .ref (ma 21), .ref (ma 22), .ref (ma 23), .ref (ma 24), .ref (ma 25), .ref (ma 26), .ref (ma 27), .ref (ma 28)])), (ma 0, .inl (cI, 240, .inl (fun i => nI (tb i))))]) [0, 1] rfl
        have hD8 := hD.sub (ws' := [(mo, .inr (10, [.int (nI 0), .int (nI (tpd + 0)), .int att, .int wrg, .int flt, .int (nI ns), .int crs, .int nws, .int nwc, .int od, .int hor, .int coa, .int tim, .int shf, .int clm, .int rfd, .int tri, .int bxs, .int lsg, .int lbx, .int crg, .long lo, .long hi, .int be, .ref (ma 0), .ref (ma 1), .ref (ma 2), .ref (ma 3), .ref (ma 4), .ref (ma 5), .ref (ma 6), .ref (ma 7), .ref (ma 8), .ref (ma 9), .ref (ma 10), .ref (ma 11), .ref (ma 12), .ref (ma 13), .ref (ma 14), .ref (ma 15), .ref (ma 16), .ref (ma 17), .ref (ma 18), .ref (ma 19), .ref (ma 20), .ref (ma 21), .ref (ma 22), .ref (ma 23), .ref (ma 24), .ref (ma 25), .ref (ma 26), .ref (ma 27), .ref (ma 28)])), (ma 0, .inl (cI, 240, .inl (fun i => nI (tb i))))]) [0, 1] (by decide) rfl
        exact lo80 ((N - 0) + 1) 0 (nI (N - 1)) tb (by omega) (by exact ty_q hN1) (by rfl) _ _ _ (Nat.lt_succ_self _) hl8 hP8 hD8 hS
      · refine lv_lload_n hx hb dd_M_type_39 rfl (lv_at hl 1 rfl) ?_
        refine lv_bipush (v := nI 8) hx hb dd_M_type_40 (by decide) ?_
        refine lv_iload hx hb dd_M_type_42 (lv_at hl 3 rfl) ?_
        refine bo_imul hx hb dd_M_type_44 ?_
        refine lv_lshr (v := w >>> ((nI (8 * k)).toInt64 &&& 63)) hx hb dd_M_type_45 rfl ?_
        refine lv_ldc2 (v := 255) hx hb hown (hts _ (List.mem_cons_of_mem _ wd_958)) dd_M_type_46 ?_
        refine lv_land hx hb dd_M_type_49 ?_
        refine lv_l2i (v := ((w >>> ((nI (8 * k)).toInt64 &&& 63)) &&& 255).toInt32) hx hb dd_M_type_50 rfl ?_
        refine lv_topi (fun vv ee => ?_)
        rw [by_m w (show k < 8 by omega)] at ee
        subst ee
        refine lv_istore (lv' := [(5, .int (nI (byN w k))), (0, .ref mo), (1, .long w), (3, .int (nI N)), (4, .int (nI k))]) hx hb dd_M_type_51 hl (by decide) rfl (fun ls hl => ?_)
        refine lv_iload hx hb dd_M_type_53 (lv_at hl 0 rfl) ?_
        refine lv_bipush (v := nI 33) hx hb dd_M_type_55 (by decide) ?_
        refine bo_icmp_lt (tgt := 67) hx hb dd_M_type_57 rfl (Nat.lt_trans (byN_lt w k) (by decide)) (by omega) (fun h57 => absurd h57 (by have := hby k (by omega); omega)) (fun h57 => ?_)
        refine lv_iload hx hb dd_M_type_60 (lv_at hl 0 rfl) ?_
        refine lv_bipush (v := nI 126) hx hb dd_M_type_62 (by decide) ?_
        refine bo_icmp_le (tgt := 69) hx hb dd_M_type_64 rfl (Nat.lt_trans (byN_lt w k) (by decide)) (by omega) (fun h64 => ?_) (fun h64 => absurd h64 (by have := hby k (by omega); omega))
        refine lv_iinc (k := 4) (x := nI k) (v := nI (k + 1)) (lv' := [(4, .int (nI (k + 1))), (5, .int (nI (byN w k))), (0, .ref mo), (1, .long w), (3, .int (nI N))]) hx hb dd_M_type_69 hl rfl (nI_add _ 1) (by decide) rfl (fun ls hl => ?_)
        refine lv_goto (tgt := 33) hx hb dd_M_type_72 rfl ?_
        have hl8 := lv_sub (l' := [(0, .ref mo), (1, .long w), (3, .int (nI N)), (4, .int (nI (k + 1)))]) hl [2, 3, 4, 0] rfl
        have hP8 := hP.sub (ws' := [(mo, .inr (10, [.int (nI 0), .int (nI tpd), .int att, .int wrg, .int flt, .int (nI ns), .int crs, .int nws, .int nwc, .int od, .int hor, .int coa, .int tim, .int shf, .int clm, .int rfd, .int tri, .int bxs, .int lsg, .int lbx, .int crg, .long lo, .long hi, .int be, .ref (ma 0), .ref (ma 1), .ref (ma 2), .ref (ma 3), .ref (ma 4), .ref (ma 5), .ref (ma 6), .ref (ma 7), .ref (ma 8), .ref (ma 9), .ref (ma 10), .ref (ma 11), .ref (ma 12), .ref (ma 13), .ref (ma 14), .ref (ma 15), .ref (ma 16), .ref (ma 17), .ref (ma 18), .ref (ma 19), .ref (ma 20), .ref (ma 21), .ref (ma 22), .ref (ma 23), .ref (ma 24), .ref (ma 25), .ref (ma 26), .ref (ma 27), .ref (ma 28)])), (ma 0, .inl (cI, 240, .inl (fun i => nI (tb i))))]) [0, 1] rfl
        have hD8 := hD.sub (ws' := [(mo, .inr (10, [.int (nI 0), .int (nI tpd), .int att, .int wrg, .int flt, .int (nI ns), .int crs, .int nws, .int nwc, .int od, .int hor, .int coa, .int tim, .int shf, .int clm, .int rfd, .int tri, .int bxs, .int lsg, .int lbx, .int crg, .long lo, .long hi, .int be, .ref (ma 0), .ref (ma 1), .ref (ma 2), .ref (ma 3), .ref (ma 4), .ref (ma 5), .ref (ma 6), .ref (ma 7), .ref (ma 8), .ref (ma 9), .ref (ma 10), .ref (ma 11), .ref (ma 12), .ref (ma 13), .ref (ma 14), .ref (ma 15), .ref (ma 16), .ref (ma 17), .ref (ma 18), .ref (ma 19), .ref (ma 20), .ref (ma 21), .ref (ma 22), .ref (ma 23), .ref (ma 24), .ref (ma 25), .ref (ma 26), .ref (ma 27), .ref (ma 28)])), (ma 0, .inl (cI, 240, .inl (fun i => nI (tb i))))]) [0, 1] (by decide) rfl
        exact ih33 (k + 1) (by omega) _ _ _ (by omega) hl8 hP8 hD8 hS
  have hl8 := lv_sub (l' := [(0, .ref mo), (1, .long w), (3, .int (nI N)), (4, .int (nI 0))]) hl [1, 2, 3, 0] rfl
  have hP8 := hP.sub (ws' := [(mo, .inr (10, [.int (nI 0), .int (nI tpd), .int att, .int wrg, .int flt, .int (nI ns), .int crs, .int nws, .int nwc, .int od, .int hor, .int coa, .int tim, .int shf, .int clm, .int rfd, .int tri, .int bxs, .int lsg, .int lbx, .int crg, .long lo, .long hi, .int be, .ref (ma 0), .ref (ma 1), .ref (ma 2), .ref (ma 3), .ref (ma 4), .ref (ma 5), .ref (ma 6), .ref (ma 7), .ref (ma 8), .ref (ma 9), .ref (ma 10), .ref (ma 11), .ref (ma 12), .ref (ma 13), .ref (ma 14), .ref (ma 15), .ref (ma 16), .ref (ma 17), .ref (ma 18), .ref (ma 19), .ref (ma 20), .ref (ma 21), .ref (ma 22), .ref (ma 23), .ref (ma 24), .ref (ma 25), .ref (ma 26), .ref (ma 27), .ref (ma 28)])), (ma 0, .inl (cI, 240, .inl (fun i => nI (tb i))))]) [0, 1] rfl
  have hD8 := hD.sub (ws' := [(mo, .inr (10, [.int (nI 0), .int (nI tpd), .int att, .int wrg, .int flt, .int (nI ns), .int crs, .int nws, .int nwc, .int od, .int hor, .int coa, .int tim, .int shf, .int clm, .int rfd, .int tri, .int bxs, .int lsg, .int lbx, .int crg, .long lo, .long hi, .int be, .ref (ma 0), .ref (ma 1), .ref (ma 2), .ref (ma 3), .ref (ma 4), .ref (ma 5), .ref (ma 6), .ref (ma 7), .ref (ma 8), .ref (ma 9), .ref (ma 10), .ref (ma 11), .ref (ma 12), .ref (ma 13), .ref (ma 14), .ref (ma 15), .ref (ma 16), .ref (ma 17), .ref (ma 18), .ref (ma 19), .ref (ma 20), .ref (ma 21), .ref (ma 22), .ref (ma 23), .ref (ma 24), .ref (ma 25), .ref (ma 26), .ref (ma 27), .ref (ma 28)])), (ma 0, .inl (cI, 240, .inl (fun i => nI (tb i))))]) [0, 1] (by decide) rfl
  exact lo33 ((N - 0) + 1) 0 (by omega) _ _ _ (Nat.lt_succ_self _) hl8 hP8 hD8 hS

set_option maxHeartbeats 4000000 in
set_option maxRecDepth 100000 in
theorem c_F_byteOf {l : Launch} {D : va_G} {cJ cI cB cY : ClassId} (w : Int64) (k : Nat) (hk : k < 8) :
    bo_i (S := Unit) l D bo_cl (bo_ty cJ cI cB cY) yy_F_byteOf (bo_w yy_F_byteOf bb_F_byteOf 3 (some .int)) (bo_rm 0 0) [.long w, .int (nI k)] [] (fun r u => r = nI (byN w k)) (fun u => []) := by
  refine bo_enter_i (cc := bb_F_byteOf) (maxL := 3) (by decide) rfl (Nat.le_of_ble_eq_true rfl) ?_
  intro p e s m args below meth c A ls Q hx hb hts hown hml hK hP hD hS hA hl hret
  have hl : lv_has ls 3 [(0, .long w), (2, .int (nI k))] := hl
  refine lv_lload_n hx hb dd_F_byteOf_0 rfl (lv_at hl 0 rfl) ?_
  refine lv_bipush (v := nI 8) hx hb dd_F_byteOf_1 (by decide) ?_
  refine lv_iload_n hx hb dd_F_byteOf_3 rfl (lv_at hl 1 rfl) ?_
  refine bo_imul hx hb dd_F_byteOf_4 ?_
  refine lv_lushr (v := (w.toUInt64 >>> ((nI (8 * k)).toInt64.toUInt64 &&& Int64.toUInt64 63)).toInt64) hx hb dd_F_byteOf_5 rfl ?_
  refine lv_l2i (v := ((w.toUInt64 >>> ((nI (8 * k)).toInt64.toUInt64 &&& Int64.toUInt64 63)).toInt64).toInt32) hx hb dd_F_byteOf_6 rfl ?_
  refine lv_sipush (v := nI 255) hx hb dd_F_byteOf_7 (by decide) ?_
  refine lv_iand hx hb dd_F_byteOf_10 ?_
  have hP9 := hP.sub (ws' := []) [] rfl
  have hD9 := hD.sub (ws' := []) [] (by decide) rfl
  exact hret () _ _ _ _ _ hP9 hD9 hS (by exact by_c w hk) dd_F_byteOf_11

set_option maxHeartbeats 4000000 in
set_option maxRecDepth 100000 in
theorem c_F_typeBad {l : Launch} {D : va_G} {cJ cI cB cY : ClassId} (fo : Nat) (ba : Nat) (sp : Nat) (ua : Nat) (fpl : Int32) (pa : Nat) (tp : Nat) (ln : Nat) (pl : Nat) (ab : Nat) (bw : Nat) (fpa : Nat) (fl : Int32) (tb : Nat → Nat) (w : Int64) (n : Int32) (hln : ln ≤ 240) (hb9 : ¬ tyP w n ln) :
    bo_i (S := Unit) l D bo_cl (bo_ty cJ cI cB cY) yy_F_type (bo_w yy_F_type bb_F_type 6 (some .boolean)) (bo_rm 1 22) [.ref fo, .long w, .int n] [(fo, .inr (0, [.int fpl, .ref pa, .ref ba, .ref sp, .ref ua])), (pa, .inr (4, [.ref tp, .int (nI ln), .int (nI pl), .int fl, .int (nI ab), .int (nI bw), .ref fpa])), (tp, .inl (cB, 240, .inl (fun i => nI (tb i))))] (fun r u => r = nI 0) (fun u => [(fo, .inr (0, [.int fpl, .ref pa, .ref ba, .ref sp, .ref ua])), (pa, .inr (4, [.ref tp, .int (nI ln), .int (nI pl), .int fl, .int (nI ab), .int (nI bw), .ref fpa])), (tp, .inl (cB, 240, .inl (fun i => nI (tb i))))]) := by
  refine bo_enter_z (cc := bb_F_type) (maxL := 6) (by decide) rfl (Nat.le_of_ble_eq_true rfl) ?_
  intro p e s m args below meth c A ls Q hx hb hts hown hml hK hP hD hS hA hl hret
  have hl : lv_has ls 6 [(0, .ref fo), (1, .long w), (3, .int n)] := hl
  refine lv_iload_n hx hb dd_F_type_0 rfl (lv_at hl 2 rfl) ?_
  refine lv_iconst (v := nI 1) hx hb dd_F_type_1 (by decide) ?_
  refine lv_icmp_lt (tgt := 22) hx hb dd_F_type_2 rfl (fun h2 => ?_) (fun h2 => ?_)
  · refine lv_iconst (v := nI 0) hx hb dd_F_type_22 (by decide) ?_
    have hP9 := hP.sub (ws' := [(fo, .inr (0, [.int fpl, .ref pa, .ref ba, .ref sp, .ref ua])), (pa, .inr (4, [.ref tp, .int (nI ln), .int (nI pl), .int fl, .int (nI ab), .int (nI bw), .ref fpa])), (tp, .inl (cB, 240, .inl (fun i => nI (tb i))))]) [0, 1, 2] rfl
    have hD9 := hD.sub (ws' := [(fo, .inr (0, [.int fpl, .ref pa, .ref ba, .ref sp, .ref ua])), (pa, .inr (4, [.ref tp, .int (nI ln), .int (nI pl), .int fl, .int (nI ab), .int (nI bw), .ref fpa])), (tp, .inl (cB, 240, .inl (fun i => nI (tb i))))]) [0, 1, 2] (by decide) rfl
    exact hret () _ _ _ _ _ (Or.inl rfl) hP9 hD9 hS (by rfl) dd_F_type_23
  · refine lv_iload_n hx hb dd_F_type_5 rfl (lv_at hl 2 rfl) ?_
    refine lv_bipush (v := nI 8) hx hb dd_F_type_6 (by decide) ?_
    refine lv_icmp_gt (tgt := 22) hx hb dd_F_type_8 rfl (fun h8 => ?_) (fun h8 => ?_)
    · refine lv_iconst (v := nI 0) hx hb dd_F_type_22 (by decide) ?_
      have hP9 := hP.sub (ws' := [(fo, .inr (0, [.int fpl, .ref pa, .ref ba, .ref sp, .ref ua])), (pa, .inr (4, [.ref tp, .int (nI ln), .int (nI pl), .int fl, .int (nI ab), .int (nI bw), .ref fpa])), (tp, .inl (cB, 240, .inl (fun i => nI (tb i))))]) [0, 1, 2] rfl
      have hD9 := hD.sub (ws' := [(fo, .inr (0, [.int fpl, .ref pa, .ref ba, .ref sp, .ref ua])), (pa, .inr (4, [.ref tp, .int (nI ln), .int (nI pl), .int fl, .int (nI ab), .int (nI bw), .ref fpa])), (tp, .inl (cB, 240, .inl (fun i => nI (tb i))))]) [0, 1, 2] (by decide) rfl
      exact hret () _ _ _ _ _ (Or.inl rfl) hP9 hD9 hS (by rfl) dd_F_type_23
    · obtain ⟨N, hN, hN1, hN8⟩ := ty_n h2 h8
      subst hN
      refine lv_iload_n hx hb dd_F_type_11 rfl (lv_at hl 2 rfl) ?_
      refine lv_aload_n hx hb dd_F_type_12 rfl (lv_at hl 0 rfl) ?_
      refine va_get (D := D) (ci := 0) (v := .ref pa) (C := RR_F) (T := TT_F) (N := 5) hx hb hts (fun w h => List.mem_cons_of_mem _ (in_F w h)) hown hK hP 0 rfl rfl 1 (by decide) (hts _ (List.mem_cons_of_mem _ wd_311)) (fun _ h9 => h9) rfl dd_F_type_13 ?_
      refine bo_goi (wr := [(fo, .inr (0, [.int fpl, .ref pa, .ref ba, .ref sp, .ref ua])), (tp, .inl (cB, 240, .inl (fun i => nI (tb i))))]) (bo_rV (c_P_room (l := l) (D := D) (cJ := cJ) (cI := cI) (cB := cB) (cY := cY) pa tp ln pl ab bw fpa fl hln _) ⟨hx, hb, hml, hown, hts⟩ (cwV 0 hts (bo_gV wd_330 wd_331 wd_332 wd_2 wd_333) rfl rfl rfl hd_P_room (by decide)) hK hP hD [1] rfl (by decide) 1 4 rfl rfl rfl rfl hl.1 rfl (Nat.le_of_ble_eq_true rfl) dd_F_type_16 (by decide)) hP hD hS hA [1] [0, 2] rfl rfl (by decide) (by decide) (fun r_16 u H locs hu_16 hP hD hS => ?_)
      have hu_16 : r_16 = nI (240 - ln) := hu_16
      have hP : va_P D bo_cl [(fo, .inr (0, [.int fpl, .ref pa, .ref ba, .ref sp, .ref ua])), (tp, .inl (cB, 240, .inl (fun i => nI (tb i)))), (pa, .inr (4, [.ref tp, .int (nI ln), .int (nI pl), .int fl, .int (nI ab), .int (nI bw), .ref fpa]))] H := hP
      have hD : va_D A [(fo, .inr (0, [.int fpl, .ref pa, .ref ba, .ref sp, .ref ua])), (tp, .inl (cB, 240, .inl (fun i => nI (tb i)))), (pa, .inr (4, [.ref tp, .int (nI ln), .int (nI pl), .int fl, .int (nI ab), .int (nI bw), .ref fpa]))] := hD
      subst hu_16
      refine bo_icmp_le (tgt := 24) hx hb dd_F_type_19 rfl (by omega) (by omega) (fun h19 => ?_) (fun h19 => ?_)
      · refine lv_iconst (v := nI 0) hx hb dd_F_type_24 (by decide) ?_
        refine lv_istore (lv' := [(4, .int (nI 0)), (0, .ref fo), (1, .long w), (3, .int (nI N))]) hx hb dd_F_type_25 hl (by decide) rfl (fun ls hl => ?_)
        have lo27 : ∀ (fu : Nat) (k : Nat) (hk : k ≤ N) (hbk : ∀ j, j < k → 33 ≤ byN w j ∧ byN w j ≤ 126) (ls : Array Slot) (H : Heap) (locs : List Loc), (N - k) < fu → lv_has ls 6 [(0, .ref fo), (1, .long w), (3, .int (nI N)), (4, .int (nI k))] → va_P D bo_cl [(fo, .inr (0, [.int fpl, .ref pa, .ref ba, .ref sp, .ref ua])), (pa, .inr (4, [.ref tp, .int (nI ln), .int (nI pl), .int fl, .int (nI ab), .int (nI bw), .ref fpa])), (tp, .inl (cB, 240, .inl (fun i => nI (tb i))))] H → va_D A [(fo, .inr (0, [.int fpl, .ref pa, .ref ba, .ref sp, .ref ua])), (pa, .inr (4, [.ref tp, .int (nI ln), .int (nI pl), .int fl, .int (nI ab), .int (nI bw), .ref fpa])), (tp, .inl (cB, 240, .inl (fun i => nI (tb i))))] → va_S A s.heap H locs → W p l e (bo_rm 1 22) s m args below meth c H locs 0 0 Q (F0 m 27 ls []) := by
          intro fu27
          induction fu27 with
          | zero => intro k hk hbk ls H locs hfu; exact absurd hfu (Nat.not_lt_zero _)
          | succ fu27 ih27 =>
            intro k hk hbk ls H locs hfu27 hl hP hD hS
            refine lv_iload hx hb dd_F_type_27 (lv_at hl 3 rfl) ?_
            refine lv_iload_n hx hb dd_F_type_29 rfl (lv_at hl 2 rfl) ?_
            refine bo_icmp_ge (tgt := 63) hx hb dd_F_type_30 rfl (by omega) (by omega) (fun h30 => ?_) (fun h30 => ?_)
            · exact (hb9 ⟨N, rfl, hN1, hN8, by omega, fun j hj => hbk j (by omega)⟩).elim
            · refine lv_lload_n hx hb dd_F_type_33 rfl (lv_at hl 1 rfl) ?_
              refine lv_iload hx hb dd_F_type_34 (lv_at hl 3 rfl) ?_
              refine bo_goi (wr := [(fo, .inr (0, [.int fpl, .ref pa, .ref ba, .ref sp, .ref ua])), (pa, .inr (4, [.ref tp, .int (nI ln), .int (nI pl), .int fl, .int (nI ab), .int (nI bw), .ref fpa])), (tp, .inl (cB, 240, .inl (fun i => nI (tb i))))]) (bo_rS (c_F_byteOf (l := l) (D := D) (cJ := cJ) (cI := cI) (cB := cB) (cY := cY) w k (by omega) _) ⟨hx, hb, hml, hown, hts⟩ (cwS 2 hts (bo_gS wd_334 wd_335 wd_1 wd_336) rfl rfl rfl hd_F_byteOf (by decide)) hK hP hD [] rfl (by decide) rfl hl.1 rfl (Nat.le_of_ble_eq_true rfl) dd_F_type_36 (by decide)) hP hD hS hA [] [0, 1, 2] rfl rfl (by decide) (by decide) (fun r_36 u H locs hu_36 hP hD hS => ?_)
              have hu_36 : r_36 = nI (byN w k) := hu_36
              have hP : va_P D bo_cl [(fo, .inr (0, [.int fpl, .ref pa, .ref ba, .ref sp, .ref ua])), (pa, .inr (4, [.ref tp, .int (nI ln), .int (nI pl), .int fl, .int (nI ab), .int (nI bw), .ref fpa])), (tp, .inl (cB, 240, .inl (fun i => nI (tb i))))] H := hP
              have hD : va_D A [(fo, .inr (0, [.int fpl, .ref pa, .ref ba, .ref sp, .ref ua])), (pa, .inr (4, [.ref tp, .int (nI ln), .int (nI pl), .int fl, .int (nI ab), .int (nI bw), .ref fpa])), (tp, .inl (cB, 240, .inl (fun i => nI (tb i))))] := hD
              subst hu_36
              refine lv_istore (lv' := [(5, .int (nI (byN w k))), (0, .ref fo), (1, .long w), (3, .int (nI N)), (4, .int (nI k))]) hx hb dd_F_type_39 hl (by decide) rfl (fun ls hl => ?_)
              refine lv_iload hx hb dd_F_type_41 (lv_at hl 0 rfl) ?_
              refine lv_bipush (v := nI 33) hx hb dd_F_type_43 (by decide) ?_
              refine bo_icmp_lt (tgt := 55) hx hb dd_F_type_45 rfl (Nat.lt_trans (byN_lt w k) (by decide)) (by omega) (fun h45 => ?_) (fun h45 => ?_)
              · refine lv_iconst (v := nI 0) hx hb dd_F_type_55 (by decide) ?_
                have hP9 := hP.sub (ws' := [(fo, .inr (0, [.int fpl, .ref pa, .ref ba, .ref sp, .ref ua])), (pa, .inr (4, [.ref tp, .int (nI ln), .int (nI pl), .int fl, .int (nI ab), .int (nI bw), .ref fpa])), (tp, .inl (cB, 240, .inl (fun i => nI (tb i))))]) [0, 1, 2] rfl
                have hD9 := hD.sub (ws' := [(fo, .inr (0, [.int fpl, .ref pa, .ref ba, .ref sp, .ref ua])), (pa, .inr (4, [.ref tp, .int (nI ln), .int (nI pl), .int fl, .int (nI ab), .int (nI bw), .ref fpa])), (tp, .inl (cB, 240, .inl (fun i => nI (tb i))))]) [0, 1, 2] (by decide) rfl
                exact hret () _ _ _ _ _ (Or.inl rfl) hP9 hD9 hS (by rfl) dd_F_type_56
              · refine lv_iload hx hb dd_F_type_48 (lv_at hl 0 rfl) ?_
                refine lv_bipush (v := nI 126) hx hb dd_F_type_50 (by decide) ?_
                refine bo_icmp_le (tgt := 57) hx hb dd_F_type_52 rfl (Nat.lt_trans (byN_lt w k) (by decide)) (by omega) (fun h52 => ?_) (fun h52 => ?_)
                · refine lv_iinc (k := 4) (x := nI k) (v := nI (k + 1)) (lv' := [(4, .int (nI (k + 1))), (5, .int (nI (byN w k))), (0, .ref fo), (1, .long w), (3, .int (nI N))]) hx hb dd_F_type_57 hl rfl (nI_add _ 1) (by decide) rfl (fun ls hl => ?_)
                  refine lv_goto (tgt := 27) hx hb dd_F_type_60 rfl ?_
                  have hl8 := lv_sub (l' := [(0, .ref fo), (1, .long w), (3, .int (nI N)), (4, .int (nI (k + 1)))]) hl [2, 3, 4, 0] rfl
                  have hP8 := hP.sub (ws' := [(fo, .inr (0, [.int fpl, .ref pa, .ref ba, .ref sp, .ref ua])), (pa, .inr (4, [.ref tp, .int (nI ln), .int (nI pl), .int fl, .int (nI ab), .int (nI bw), .ref fpa])), (tp, .inl (cB, 240, .inl (fun i => nI (tb i))))]) [0, 1, 2] rfl
                  have hD8 := hD.sub (ws' := [(fo, .inr (0, [.int fpl, .ref pa, .ref ba, .ref sp, .ref ua])), (pa, .inr (4, [.ref tp, .int (nI ln), .int (nI pl), .int fl, .int (nI ab), .int (nI bw), .ref fpa])), (tp, .inl (cB, 240, .inl (fun i => nI (tb i))))]) [0, 1, 2] (by decide) rfl
                  exact ih27 (k + 1) (by omega) (by intro j hj; by_cases hq : j = k; (rw [hq]; omega); exact hbk j (by omega)) _ _ _ (by omega) hl8 hP8 hD8 hS
                · refine lv_iconst (v := nI 0) hx hb dd_F_type_55 (by decide) ?_
                  have hP9 := hP.sub (ws' := [(fo, .inr (0, [.int fpl, .ref pa, .ref ba, .ref sp, .ref ua])), (pa, .inr (4, [.ref tp, .int (nI ln), .int (nI pl), .int fl, .int (nI ab), .int (nI bw), .ref fpa])), (tp, .inl (cB, 240, .inl (fun i => nI (tb i))))]) [0, 1, 2] rfl
                  have hD9 := hD.sub (ws' := [(fo, .inr (0, [.int fpl, .ref pa, .ref ba, .ref sp, .ref ua])), (pa, .inr (4, [.ref tp, .int (nI ln), .int (nI pl), .int fl, .int (nI ab), .int (nI bw), .ref fpa])), (tp, .inl (cB, 240, .inl (fun i => nI (tb i))))]) [0, 1, 2] (by decide) rfl
                  exact hret () _ _ _ _ _ (Or.inl rfl) hP9 hD9 hS (by rfl) dd_F_type_56
        have hl8 := lv_sub (l' := [(0, .ref fo), (1, .long w), (3, .int (nI N)), (4, .int (nI 0))]) hl [1, 2, 3, 0] rfl
        have hP8 := hP.sub (ws' := [(fo, .inr (0, [.int fpl, .ref pa, .ref ba, .ref sp, .ref ua])), (pa, .inr (4, [.ref tp, .int (nI ln), .int (nI pl), .int fl, .int (nI ab), .int (nI bw), .ref fpa])), (tp, .inl (cB, 240, .inl (fun i => nI (tb i))))]) [0, 2, 1] rfl
        have hD8 := hD.sub (ws' := [(fo, .inr (0, [.int fpl, .ref pa, .ref ba, .ref sp, .ref ua])), (pa, .inr (4, [.ref tp, .int (nI ln), .int (nI pl), .int fl, .int (nI ab), .int (nI bw), .ref fpa])), (tp, .inl (cB, 240, .inl (fun i => nI (tb i))))]) [0, 2, 1] (by decide) rfl
        exact lo27 ((N - 0) + 1) 0 (by omega) (by intro j hj; omega) _ _ _ (Nat.lt_succ_self _) hl8 hP8 hD8 hS
      · refine lv_iconst (v := nI 0) hx hb dd_F_type_22 (by decide) ?_
        have hP9 := hP.sub (ws' := [(fo, .inr (0, [.int fpl, .ref pa, .ref ba, .ref sp, .ref ua])), (pa, .inr (4, [.ref tp, .int (nI ln), .int (nI pl), .int fl, .int (nI ab), .int (nI bw), .ref fpa])), (tp, .inl (cB, 240, .inl (fun i => nI (tb i))))]) [0, 2, 1] rfl
        have hD9 := hD.sub (ws' := [(fo, .inr (0, [.int fpl, .ref pa, .ref ba, .ref sp, .ref ua])), (pa, .inr (4, [.ref tp, .int (nI ln), .int (nI pl), .int fl, .int (nI ab), .int (nI bw), .ref fpa])), (tp, .inl (cB, 240, .inl (fun i => nI (tb i))))]) [0, 2, 1] (by decide) rfl
        exact hret () _ _ _ _ _ (Or.inl rfl) hP9 hD9 hS (by rfl) dd_F_type_23

set_option maxHeartbeats 4000000 in
set_option maxRecDepth 100000 in
theorem c_F_typeOk {l : Launch} {D : va_G} {cJ cI cB cY : ClassId} (fo : Nat) (ba : Nat) (sp : Nat) (ua : Nat) (fpl : Int32) (pa : Nat) (tp : Nat) (ln : Nat) (pl : Nat) (ab : Nat) (bw : Nat) (fpa : Nat) (fl : Int32) (tb : Nat → Nat) (w : Int64) (N : Nat) (hln : ln ≤ 240) (hN1 : 1 ≤ N) (hN8 : N ≤ 8) (hN2 : ln + N ≤ 240) (hby : ∀ k, k < N → 33 ≤ byN w k ∧ byN w k ≤ 126) :
    bo_i (S := Unit) l D bo_cl (bo_ty cJ cI cB cY) yy_F_type (bo_w yy_F_type bb_F_type 6 (some .boolean)) (bo_rm 1 22) [.ref fo, .long w, .int (nI N)] [(fo, .inr (0, [.int fpl, .ref pa, .ref ba, .ref sp, .ref ua])), (pa, .inr (4, [.ref tp, .int (nI ln), .int (nI pl), .int fl, .int (nI ab), .int (nI bw), .ref fpa])), (tp, .inl (cB, 240, .inl (fun i => nI (tb i))))] (fun r u => r = nI 1) (fun u => [(fo, .inr (0, [.int fpl, .ref pa, .ref ba, .ref sp, .ref ua])), (pa, .inr (4, [.ref tp, .int (nI (ln + N)), .int (nI pl), .int fl, .int (nI ab), .int (nI bw), .ref fpa])), (tp, .inl (cB, 240, .inl (fun i => nI (tyB tb w ln N N i))))]) := by
  refine bo_enter_z (cc := bb_F_type) (maxL := 6) (by decide) rfl (Nat.le_of_ble_eq_true rfl) ?_
  intro p e s m args below meth c A ls Q hx hb hts hown hml hK hP hD hS hA hl hret
  have hl : lv_has ls 6 [(0, .ref fo), (1, .long w), (3, .int (nI N))] := hl
  refine lv_iload_n hx hb dd_F_type_0 rfl (lv_at hl 2 rfl) ?_
  refine lv_iconst (v := nI 1) hx hb dd_F_type_1 (by decide) ?_
  refine bo_icmp_lt (tgt := 22) hx hb dd_F_type_2 rfl (by omega) (by omega) (fun h2 => absurd h2 (by omega)) (fun h2 => ?_)
  refine lv_iload_n hx hb dd_F_type_5 rfl (lv_at hl 2 rfl) ?_
  refine lv_bipush (v := nI 8) hx hb dd_F_type_6 (by decide) ?_
  refine bo_icmp_gt (tgt := 22) hx hb dd_F_type_8 rfl (by omega) (by omega) (fun h8 => absurd h8 (by omega)) (fun h8 => ?_)
  refine lv_iload_n hx hb dd_F_type_11 rfl (lv_at hl 2 rfl) ?_
  refine lv_aload_n hx hb dd_F_type_12 rfl (lv_at hl 0 rfl) ?_
  refine va_get (D := D) (ci := 0) (v := .ref pa) (C := RR_F) (T := TT_F) (N := 5) hx hb hts (fun w h => List.mem_cons_of_mem _ (in_F w h)) hown hK hP 0 rfl rfl 1 (by decide) (hts _ (List.mem_cons_of_mem _ wd_311)) (fun _ h9 => h9) rfl dd_F_type_13 ?_
  refine bo_goi (wr := [(fo, .inr (0, [.int fpl, .ref pa, .ref ba, .ref sp, .ref ua])), (tp, .inl (cB, 240, .inl (fun i => nI (tb i))))]) (bo_rV (c_P_room (l := l) (D := D) (cJ := cJ) (cI := cI) (cB := cB) (cY := cY) pa tp ln pl ab bw fpa fl hln _) ⟨hx, hb, hml, hown, hts⟩ (cwV 0 hts (bo_gV wd_330 wd_331 wd_332 wd_2 wd_333) rfl rfl rfl hd_P_room (by decide)) hK hP hD [1] rfl (by decide) 1 4 rfl rfl rfl rfl hl.1 rfl (Nat.le_of_ble_eq_true rfl) dd_F_type_16 (by decide)) hP hD hS hA [1] [0, 2] rfl rfl (by decide) (by decide) (fun r_16 u H locs hu_16 hP hD hS => ?_)
  have hu_16 : r_16 = nI (240 - ln) := hu_16
  have hP : va_P D bo_cl [(fo, .inr (0, [.int fpl, .ref pa, .ref ba, .ref sp, .ref ua])), (tp, .inl (cB, 240, .inl (fun i => nI (tb i)))), (pa, .inr (4, [.ref tp, .int (nI ln), .int (nI pl), .int fl, .int (nI ab), .int (nI bw), .ref fpa]))] H := hP
  have hD : va_D A [(fo, .inr (0, [.int fpl, .ref pa, .ref ba, .ref sp, .ref ua])), (tp, .inl (cB, 240, .inl (fun i => nI (tb i)))), (pa, .inr (4, [.ref tp, .int (nI ln), .int (nI pl), .int fl, .int (nI ab), .int (nI bw), .ref fpa]))] := hD
  subst hu_16
  refine bo_icmp_le (tgt := 24) hx hb dd_F_type_19 rfl (by omega) (by omega) (fun h19 => ?_) (fun h19 => absurd h19 (by omega))
  refine lv_iconst (v := nI 0) hx hb dd_F_type_24 (by decide) ?_
  refine lv_istore (lv' := [(4, .int (nI 0)), (0, .ref fo), (1, .long w), (3, .int (nI N))]) hx hb dd_F_type_25 hl (by decide) rfl (fun ls hl => ?_)
  have lo27 : ∀ (fu : Nat) (k : Nat) (hk : k ≤ N) (ls : Array Slot) (H : Heap) (locs : List Loc), (N - k) < fu → lv_has ls 6 [(0, .ref fo), (1, .long w), (3, .int (nI N)), (4, .int (nI k))] → va_P D bo_cl [(fo, .inr (0, [.int fpl, .ref pa, .ref ba, .ref sp, .ref ua])), (pa, .inr (4, [.ref tp, .int (nI ln), .int (nI pl), .int fl, .int (nI ab), .int (nI bw), .ref fpa])), (tp, .inl (cB, 240, .inl (fun i => nI (tb i))))] H → va_D A [(fo, .inr (0, [.int fpl, .ref pa, .ref ba, .ref sp, .ref ua])), (pa, .inr (4, [.ref tp, .int (nI ln), .int (nI pl), .int fl, .int (nI ab), .int (nI bw), .ref fpa])), (tp, .inl (cB, 240, .inl (fun i => nI (tb i))))] → va_S A s.heap H locs → W p l e (bo_rm 1 22) s m args below meth c H locs 0 0 Q (F0 m 27 ls []) := by
    intro fu27
    induction fu27 with
    | zero => intro k hk ls H locs hfu; exact absurd hfu (Nat.not_lt_zero _)
    | succ fu27 ih27 =>
      intro k hk ls H locs hfu27 hl hP hD hS
      refine lv_iload hx hb dd_F_type_27 (lv_at hl 3 rfl) ?_
      refine lv_iload_n hx hb dd_F_type_29 rfl (lv_at hl 2 rfl) ?_
      refine bo_icmp_ge (tgt := 63) hx hb dd_F_type_30 rfl (by omega) (by omega) (fun h30 => ?_) (fun h30 => ?_)
      · refine lv_iload_n hx hb dd_F_type_63 rfl (lv_at hl 2 rfl) ?_
        refine lv_iconst (v := nI 1) hx hb dd_F_type_64 (by decide) ?_
        refine bo_isub hx hb (by omega) dd_F_type_65 ?_
        refine lv_istore (lv' := [(4, .int (nI (N - 1))), (0, .ref fo), (1, .long w), (3, .int (nI N))]) hx hb dd_F_type_66 hl (by decide) rfl (fun ls hl => ?_)
        have lo68 : ∀ (fu : Nat) (d : Nat) (q : Int32) (tb2 : Nat → Nat) (hd : d ≤ N) (hq : q = nI (N - d) + (-1)) (hz : tb2 = tyB tb w ln N d) (ls : Array Slot) (H : Heap) (locs : List Loc), (N - d) < fu → lv_has ls 6 [(0, .ref fo), (1, .long w), (3, .int (nI N)), (4, .int q)] → va_P D bo_cl [(fo, .inr (0, [.int fpl, .ref pa, .ref ba, .ref sp, .ref ua])), (pa, .inr (4, [.ref tp, .int (nI (ln + d)), .int (nI pl), .int fl, .int (nI ab), .int (nI bw), .ref fpa])), (tp, .inl (cB, 240, .inl (fun i => nI (tb2 i))))] H → va_D A [(fo, .inr (0, [.int fpl, .ref pa, .ref ba, .ref sp, .ref ua])), (pa, .inr (4, [.ref tp, .int (nI (ln + d)), .int (nI pl), .int fl, .int (nI ab), .int (nI bw), .ref fpa])), (tp, .inl (cB, 240, .inl (fun i => nI (tb2 i))))] → va_S A s.heap H locs → W p l e (bo_rm 1 22) s m args below meth c H locs 0 0 Q (F0 m 68 ls []) := by
          intro fu68
          induction fu68 with
          | zero => intro d q tb2 hd hq hz ls H locs hfu; exact absurd hfu (Nat.not_lt_zero _)
          | succ fu68 ih68 =>
            intro d q tb2 hd hq hz ls H locs hfu68 hl hP hD hS
            refine lv_iload hx hb dd_F_type_68 (lv_at hl 3 rfl) ?_
            refine lv_if_lt (tgt := 92) hx hb dd_F_type_70 rfl (fun h70 => ?_) (fun h70 => ?_)
            · have hdN := (ty_e hq h70 hN8 hd).symm
              subst hdN
              subst hz
              refine lv_iconst (v := nI 1) hx hb dd_F_type_92 (by decide) ?_
              have hP9 := hP.sub (ws' := [(fo, .inr (0, [.int fpl, .ref pa, .ref ba, .ref sp, .ref ua])), (pa, .inr (4, [.ref tp, .int (nI (ln + N)), .int (nI pl), .int fl, .int (nI ab), .int (nI bw), .ref fpa])), (tp, .inl (cB, 240, .inl (fun i => nI (tyB tb w ln N N i))))]) [0, 1, 2] rfl
              have hD9 := hD.sub (ws' := [(fo, .inr (0, [.int fpl, .ref pa, .ref ba, .ref sp, .ref ua])), (pa, .inr (4, [.ref tp, .int (nI (ln + N)), .int (nI pl), .int fl, .int (nI ab), .int (nI bw), .ref fpa])), (tp, .inl (cB, 240, .inl (fun i => nI (tyB tb w ln N N i))))]) [0, 1, 2] (by decide) rfl
              exact hret () _ _ _ _ _ (Or.inr rfl) hP9 hD9 hS (by rfl) dd_F_type_93
            · obtain ⟨k1, hk1, hq1⟩ := ty_k hq h70
              subst hq1
              refine lv_aload_n hx hb dd_F_type_73 rfl (lv_at hl 0 rfl) ?_
              refine va_get (D := D) (ci := 0) (v := .ref pa) (C := RR_F) (T := TT_F) (N := 5) hx hb hts (fun w h => List.mem_cons_of_mem _ (in_F w h)) hown hK hP 0 rfl rfl 1 (by decide) (hts _ (List.mem_cons_of_mem _ wd_311)) (fun _ h9 => h9) rfl dd_F_type_74 ?_
              refine lv_lload_n hx hb dd_F_type_77 rfl (lv_at hl 1 rfl) ?_
              refine lv_iload hx hb dd_F_type_78 (lv_at hl 3 rfl) ?_
              refine bo_goi (wr := [(fo, .inr (0, [.int fpl, .ref pa, .ref ba, .ref sp, .ref ua])), (pa, .inr (4, [.ref tp, .int (nI (ln + d)), .int (nI pl), .int fl, .int (nI ab), .int (nI bw), .ref fpa])), (tp, .inl (cB, 240, .inl (fun i => nI (tb2 i))))]) (bo_rS (c_F_byteOf (l := l) (D := D) (cJ := cJ) (cI := cI) (cB := cB) (cY := cY) w k1 (by omega) _) ⟨hx, hb, hml, hown, hts⟩ (cwS 2 hts (bo_gS wd_334 wd_335 wd_1 wd_336) rfl rfl rfl hd_F_byteOf (by decide)) hK hP hD [] rfl (by decide) rfl hl.1 rfl (Nat.le_of_ble_eq_true rfl) dd_F_type_80 (by decide)) hP hD hS hA [] [0, 1, 2] rfl rfl (by decide) (by decide) (fun r_80 u H locs hu_80 hP hD hS => ?_)
              have hu_80 : r_80 = nI (byN w k1) := hu_80
              have hP : va_P D bo_cl [(fo, .inr (0, [.int fpl, .ref pa, .ref ba, .ref sp, .ref ua])), (pa, .inr (4, [.ref tp, .int (nI (ln + d)), .int (nI pl), .int fl, .int (nI ab), .int (nI bw), .ref fpa])), (tp, .inl (cB, 240, .inl (fun i => nI (tb2 i))))] H := hP
              have hD : va_D A [(fo, .inr (0, [.int fpl, .ref pa, .ref ba, .ref sp, .ref ua])), (pa, .inr (4, [.ref tp, .int (nI (ln + d)), .int (nI pl), .int fl, .int (nI ab), .int (nI bw), .ref fpa])), (tp, .inl (cB, 240, .inl (fun i => nI (tb2 i))))] := hD
              subst hu_80
              refine bo_gov (wr := [(fo, .inr (0, [.int fpl, .ref pa, .ref ba, .ref sp, .ref ua]))]) (bo_rV (c_P_add (l := l) (D := D) (cJ := cJ) (cI := cI) (cB := cB) (cY := cY) pa tp (ln + d) pl ab bw fpa fl tb2 (byN w k1) (by omega) (by have := hby k1 (by omega); omega) _) ⟨hx, hb, hml, hown, hts⟩ (cwV 1 hts (bo_gV wd_337 wd_338 wd_339 wd_2 wd_340) rfl rfl rfl hd_P_add (by decide)) hK hP hD [1, 2] rfl (by decide) 1 4 rfl rfl rfl rfl hl.1 rfl (Nat.le_of_ble_eq_true rfl) dd_F_type_83 (by decide)) hP hD hS hA [1, 2] [0] rfl rfl (by decide) (by decide) (fun u H locs hu_83 hP hD hS => ?_)
              have hP : va_P D bo_cl [(fo, .inr (0, [.int fpl, .ref pa, .ref ba, .ref sp, .ref ua])), (pa, .inr (4, [.ref tp, .int (nI ((ln + d) + 1)), .int (nI pl), .int fl, .int (nI ab), .int (nI bw), .ref fpa])), (tp, .inl (cB, 240, .inl (fun i => nI (va_up tb2 (ln + d) (byN w k1) i))))] H := hP
              have hD : va_D A [(fo, .inr (0, [.int fpl, .ref pa, .ref ba, .ref sp, .ref ua])), (pa, .inr (4, [.ref tp, .int (nI ((ln + d) + 1)), .int (nI pl), .int fl, .int (nI ab), .int (nI bw), .ref fpa])), (tp, .inl (cB, 240, .inl (fun i => nI (va_up tb2 (ln + d) (byN w k1) i))))] := hD
              refine lv_iinc (k := 3) (x := nI k1) (v := nI k1 + (-1)) (lv' := [(4, .int (nI k1 + (-1))), (0, .ref fo), (1, .long w), (3, .int (nI N))]) hx hb dd_F_type_86 hl rfl (by rw [show Int32.ofInt (-1) = -1 from by decide]) (by decide) rfl (fun ls hl => ?_)
              refine lv_goto (tgt := 68) hx hb dd_F_type_89 rfl ?_
              have hl8 := lv_sub (l' := [(0, .ref fo), (1, .long w), (3, .int (nI N)), (4, .int (nI k1 + (-1)))]) hl [1, 2, 3, 0] rfl
              have hP8 := hP.sub (ws' := [(fo, .inr (0, [.int fpl, .ref pa, .ref ba, .ref sp, .ref ua])), (pa, .inr (4, [.ref tp, .int (nI (ln + (d + 1))), .int (nI pl), .int fl, .int (nI ab), .int (nI bw), .ref fpa])), (tp, .inl (cB, 240, .inl (fun i => nI ((va_up tb2 (ln + d) (byN w k1)) i))))]) [0, 1, 2] rfl
              have hD8 := hD.sub (ws' := [(fo, .inr (0, [.int fpl, .ref pa, .ref ba, .ref sp, .ref ua])), (pa, .inr (4, [.ref tp, .int (nI (ln + (d + 1))), .int (nI pl), .int fl, .int (nI ab), .int (nI bw), .ref fpa])), (tp, .inl (cB, 240, .inl (fun i => nI ((va_up tb2 (ln + d) (byN w k1)) i))))]) [0, 1, 2] (by decide) rfl
              exact ih68 (d + 1) (nI k1 + (-1)) (va_up tb2 (ln + d) (byN w k1)) (by omega) (by rw [show N - (d + 1) = k1 by omega]) (by exact ty_s hz hk1) _ _ _ (by omega) hl8 hP8 hD8 hS
        have hl8 := lv_sub (l' := [(0, .ref fo), (1, .long w), (3, .int (nI N)), (4, .int (nI (N - 1)))]) hl [1, 2, 3, 0] rfl
        have hP8 := hP.sub (ws' := [(fo, .inr (0, [.int fpl, .ref pa, .ref ba, .ref sp, .ref ua])), (pa, .inr (4, [.ref tp, .int (nI (ln + 0)), .int (nI pl), .int fl, .int (nI ab), .int (nI bw), .ref fpa])), (tp, .inl (cB, 240, .inl (fun i => nI (tb i))))]) [0, 1, 2] rfl
        have hD8 := hD.sub (ws' := [(fo, .inr (0, [.int fpl, .ref pa, .ref ba, .ref sp, .ref ua])), (pa, .inr (4, [.ref tp, .int (nI (ln + 0)), .int (nI pl), .int fl, .int (nI ab), .int (nI bw), .ref fpa])), (tp, .inl (cB, 240, .inl (fun i => nI (tb i))))]) [0, 1, 2] (by decide) rfl
        exact lo68 ((N - 0) + 1) 0 (nI (N - 1)) tb (by omega) (by exact ty_q hN1) (by rfl) _ _ _ (Nat.lt_succ_self _) hl8 hP8 hD8 hS
      · refine lv_lload_n hx hb dd_F_type_33 rfl (lv_at hl 1 rfl) ?_
        refine lv_iload hx hb dd_F_type_34 (lv_at hl 3 rfl) ?_
        refine bo_goi (wr := [(fo, .inr (0, [.int fpl, .ref pa, .ref ba, .ref sp, .ref ua])), (pa, .inr (4, [.ref tp, .int (nI ln), .int (nI pl), .int fl, .int (nI ab), .int (nI bw), .ref fpa])), (tp, .inl (cB, 240, .inl (fun i => nI (tb i))))]) (bo_rS (c_F_byteOf (l := l) (D := D) (cJ := cJ) (cI := cI) (cB := cB) (cY := cY) w k (by omega) _) ⟨hx, hb, hml, hown, hts⟩ (cwS 2 hts (bo_gS wd_334 wd_335 wd_1 wd_336) rfl rfl rfl hd_F_byteOf (by decide)) hK hP hD [] rfl (by decide) rfl hl.1 rfl (Nat.le_of_ble_eq_true rfl) dd_F_type_36 (by decide)) hP hD hS hA [] [0, 1, 2] rfl rfl (by decide) (by decide) (fun r_36 u H locs hu_36 hP hD hS => ?_)
        have hu_36 : r_36 = nI (byN w k) := hu_36
        have hP : va_P D bo_cl [(fo, .inr (0, [.int fpl, .ref pa, .ref ba, .ref sp, .ref ua])), (pa, .inr (4, [.ref tp, .int (nI ln), .int (nI pl), .int fl, .int (nI ab), .int (nI bw), .ref fpa])), (tp, .inl (cB, 240, .inl (fun i => nI (tb i))))] H := hP
        have hD : va_D A [(fo, .inr (0, [.int fpl, .ref pa, .ref ba, .ref sp, .ref ua])), (pa, .inr (4, [.ref tp, .int (nI ln), .int (nI pl), .int fl, .int (nI ab), .int (nI bw), .ref fpa])), (tp, .inl (cB, 240, .inl (fun i => nI (tb i))))] := hD
        subst hu_36
        refine lv_istore (lv' := [(5, .int (nI (byN w k))), (0, .ref fo), (1, .long w), (3, .int (nI N)), (4, .int (nI k))]) hx hb dd_F_type_39 hl (by decide) rfl (fun ls hl => ?_)
        refine lv_iload hx hb dd_F_type_41 (lv_at hl 0 rfl) ?_
        refine lv_bipush (v := nI 33) hx hb dd_F_type_43 (by decide) ?_
        refine bo_icmp_lt (tgt := 55) hx hb dd_F_type_45 rfl (Nat.lt_trans (byN_lt w k) (by decide)) (by omega) (fun h45 => absurd h45 (by have := hby k (by omega); omega)) (fun h45 => ?_)
        refine lv_iload hx hb dd_F_type_48 (lv_at hl 0 rfl) ?_
        refine lv_bipush (v := nI 126) hx hb dd_F_type_50 (by decide) ?_
        refine bo_icmp_le (tgt := 57) hx hb dd_F_type_52 rfl (Nat.lt_trans (byN_lt w k) (by decide)) (by omega) (fun h52 => ?_) (fun h52 => absurd h52 (by have := hby k (by omega); omega))
        refine lv_iinc (k := 4) (x := nI k) (v := nI (k + 1)) (lv' := [(4, .int (nI (k + 1))), (5, .int (nI (byN w k))), (0, .ref fo), (1, .long w), (3, .int (nI N))]) hx hb dd_F_type_57 hl rfl (nI_add _ 1) (by decide) rfl (fun ls hl => ?_)
        refine lv_goto (tgt := 27) hx hb dd_F_type_60 rfl ?_
        have hl8 := lv_sub (l' := [(0, .ref fo), (1, .long w), (3, .int (nI N)), (4, .int (nI (k + 1)))]) hl [2, 3, 4, 0] rfl
        have hP8 := hP.sub (ws' := [(fo, .inr (0, [.int fpl, .ref pa, .ref ba, .ref sp, .ref ua])), (pa, .inr (4, [.ref tp, .int (nI ln), .int (nI pl), .int fl, .int (nI ab), .int (nI bw), .ref fpa])), (tp, .inl (cB, 240, .inl (fun i => nI (tb i))))]) [0, 1, 2] rfl
        have hD8 := hD.sub (ws' := [(fo, .inr (0, [.int fpl, .ref pa, .ref ba, .ref sp, .ref ua])), (pa, .inr (4, [.ref tp, .int (nI ln), .int (nI pl), .int fl, .int (nI ab), .int (nI bw), .ref fpa])), (tp, .inl (cB, 240, .inl (fun i => nI (tb i))))]) [0, 1, 2] (by decide) rfl
        exact ih27 (k + 1) (by omega) _ _ _ (by omega) hl8 hP8 hD8 hS
  have hl8 := lv_sub (l' := [(0, .ref fo), (1, .long w), (3, .int (nI N)), (4, .int (nI 0))]) hl [1, 2, 3, 0] rfl
  have hP8 := hP.sub (ws' := [(fo, .inr (0, [.int fpl, .ref pa, .ref ba, .ref sp, .ref ua])), (pa, .inr (4, [.ref tp, .int (nI ln), .int (nI pl), .int fl, .int (nI ab), .int (nI bw), .ref fpa])), (tp, .inl (cB, 240, .inl (fun i => nI (tb i))))]) [0, 2, 1] rfl
  have hD8 := hD.sub (ws' := [(fo, .inr (0, [.int fpl, .ref pa, .ref ba, .ref sp, .ref ua])), (pa, .inr (4, [.ref tp, .int (nI ln), .int (nI pl), .int fl, .int (nI ab), .int (nI bw), .ref fpa])), (tp, .inl (cB, 240, .inl (fun i => nI (tb i))))]) [0, 2, 1] (by decide) rfl
  exact lo27 ((N - 0) + 1) 0 (by omega) _ _ _ (Nat.lt_succ_self _) hl8 hP8 hD8 hS
