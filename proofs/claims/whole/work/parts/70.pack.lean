/-! the whole world of the class, of the reference: one abstract state -/
def XR (cJ cI cB cY : ClassId) (P : PB) (A : AS) (od hz co : Nat) (sl sh : Nat → Int64) (ln : Nat) (tb : Nat → Nat) (flt : Int32) (fo : Nat) (w9 : va_W) : Prop :=
  ∀ C9 : Prop, (∀ (pa : Nat) (ba : Nat) (sp : Nat) (ua : Nat) (tp : Nat) (ppl : Nat) (pfl : Int32) (ab : Nat) (bw : Nat) (fpa : Nat) (fp : Nat → Int32) (tm : Nat) (sf : Nat) (tr : Nat) (rf : Int32) (fi : Nat) (x : Nat) (hh : Nat) (ta : Nat) (cm : Nat) (ut : Nat) (xla : Nat) (xha : Nat) (xl : Nat → Int64) (xh : Nat → Int64) (nb : Nat) (ncr : Nat) (bf : Nat) (xf : Nat) (ls0 : Int32) (lsd : Int32) (B : Nat → Int32) (XX : Nat → Int32) (pv : Nat) (nx : Nat) (ca : Nat) (gs : Nat) (rs : Nat) (tt : Nat) (pvl : Nat) (pvh : Nat) (pf : Nat → Int64) (pg : Nat → Int64) (nxl : Nat) (nxh : Nat) (nl : Nat → Int64) (nh : Nat → Int64) (gsl : Nat) (gsh : Nat) (gl : Nat → Int64) (gh : Nat → Int64) (rsl : Nat) (rsh : Nat) (rl : Nat → Int64) (rh : Nat → Int64) (tl : Int64) (th : Int64) (ttb : Int32) (sr : Nat) (pr : Nat) (ct : Nat) (sla : Nat) (sha : Nat) (srl : Nat → Int64) (srh : Nat → Int64) (pla : Nat) (pha : Nat) (pl : Nat → Int64) (ph : Nat → Int64) (cl : Int64) (ch : Int64) (cb : Int32) (ulo : Int64) (uhi : Int64) (ube : Int32) (sa : Nat) (cr : Nat) (ns : Nat) (hc : Int32) (ya : Nat → Nat) (yr : Nat → Nat) (yp : Nat → Nat) (nt : Nat → Nat) (yl : Nat → Nat) (yh : Nat → Nat) (F : Nat → Nat → Int64) (G : Nat → Nat → Int64) (PW : Nat → Nat → Nat) (crr : Nat) (crp : Nat) (cn : Nat) (crl : Nat) (crh : Nat) (cf : Nat → Int64) (cg : Nat → Int64) (cpw : Nat → Nat) (fil : Nat) (fih : Nat) (fl : Nat → Int64) (fh : Nat → Int64) (sa2 : Nat) (cr2 : Nat) (sd2 : Nat) (hc2 : Int32) (ya2 : Nat → Nat) (yr2 : Nat → Nat) (yp2 : Nat → Nat) (nt2 : Nat → Nat) (yl2 : Nat → Nat) (yh2 : Nat → Nat) (F2 : Nat → Nat → Int64) (G2 : Nat → Nat → Int64) (PW2 : Nat → Nat → Nat) (crr2 : Nat) (crp2 : Nat) (cn2 : Nat) (crl2 : Nat) (crh2 : Nat) (cf2 : Nat → Int64) (cg2 : Nat → Int64) (cpw2 : Nat → Nat), w9 = [(fo, .inr (0, [.int flt, .ref pa, .ref ba, .ref sp, .ref ua])), (pa, .inr (4, [.ref tp, .int (nI ln), .int (nI ppl), .int pfl, .int (nI ab), .int (nI bw), .ref fpa])), (tp, .inl (cB, 240, .inl (fun i => nI (tb i)))), (fpa, .inl (cI, 3, .inl fp)), (ua, .inr (8, [.int (nI od), .int (nI hz), .int (nI co), .int (nI tm), .int (nI sf), .int (nI tr), .int rf, .ref fi, .ref x, .ref hh, .ref ta, .int (nI cm), .ref ut])), (x, .inr (7, [.ref xla, .ref xha])), (xla, .inl (cJ, 3, .inr (.inl xl))), (xha, .inl (cJ, 3, .inr (.inl xh))), (hh, .inr (2, [.int (nI nb), .int (nI ncr), .ref bf, .ref xf, .int ls0, .int lsd])), (bf, .inl (cI, 5600, .inl B)), (xf, .inl (cI, 300, .inl XX)), (ta, .inr (9, [.ref pv, .ref nx, .ref ca, .ref gs, .ref rs, .ref tt])), (pv, .inr (7, [.ref pvl, .ref pvh])), (pvl, .inl (cJ, 3, .inr (.inl pf))), (pvh, .inl (cJ, 3, .inr (.inl pg))), (nx, .inr (7, [.ref nxl, .ref nxh])), (nxl, .inl (cJ, 3, .inr (.inl nl))), (nxh, .inl (cJ, 3, .inr (.inl nh))), (gs, .inr (7, [.ref gsl, .ref gsh])), (gsl, .inl (cJ, 3, .inr (.inl gl))), (gsh, .inl (cJ, 3, .inr (.inl gh))), (rs, .inr (7, [.ref rsl, .ref rsh])), (rsl, .inl (cJ, 3, .inr (.inl rl))), (rsh, .inl (cJ, 3, .inr (.inl rh))), (tt, .inr (3, [.long tl, .long th, .int ttb])), (ca, .inr (1, [.ref sr, .ref pr, .ref ct])), (sr, .inr (7, [.ref sla, .ref sha])), (sla, .inl (cJ, 30, .inr (.inl srl))), (sha, .inl (cJ, 30, .inr (.inl srh))), (pr, .inr (7, [.ref pla, .ref pha])), (pla, .inl (cJ, 2520, .inr (.inl pl))), (pha, .inl (cJ, 2520, .inr (.inl ph))), (ct, .inr (3, [.long cl, .long ch, .int cb])), (ut, .inr (3, [.long ulo, .long uhi, .int ube])), (ba, .inr (6, [.ref sa, .ref cr, .int (nI ns), .int hc])), (sa, .inl (cY, 3, .inr (.inr (.inr (.inr (fun i => some (ya i))))))), (ya 0, .inr (5, [.ref (yr 0), .ref (yp 0), .int (nI (nt 0))])), (yr 0, .inr (7, [.ref (yl 0), .ref (yh 0)])), (yl 0, .inl (cJ, 12, .inr (.inl (F 0)))), (yh 0, .inl (cJ, 12, .inr (.inl (G 0)))), (yp 0, .inl (cI, 36, .inl (fun i => nI (PW 0 i)))), (ya 1, .inr (5, [.ref (yr 1), .ref (yp 1), .int (nI (nt 1))])), (yr 1, .inr (7, [.ref (yl 1), .ref (yh 1)])), (yl 1, .inl (cJ, 12, .inr (.inl (F 1)))), (yh 1, .inl (cJ, 12, .inr (.inl (G 1)))), (yp 1, .inl (cI, 36, .inl (fun i => nI (PW 1 i)))), (ya 2, .inr (5, [.ref (yr 2), .ref (yp 2), .int (nI (nt 2))])), (yr 2, .inr (7, [.ref (yl 2), .ref (yh 2)])), (yl 2, .inl (cJ, 12, .inr (.inl (F 2)))), (yh 2, .inl (cJ, 12, .inr (.inl (G 2)))), (yp 2, .inl (cI, 36, .inl (fun i => nI (PW 2 i)))), (cr, .inr (5, [.ref crr, .ref crp, .int (nI cn)])), (crr, .inr (7, [.ref crl, .ref crh])), (crl, .inl (cJ, 12, .inr (.inl cf))), (crh, .inl (cJ, 12, .inr (.inl cg))), (crp, .inl (cI, 36, .inl (fun i => nI (cpw i)))), (fi, .inr (7, [.ref fil, .ref fih])), (fil, .inl (cJ, 3, .inr (.inl fl))), (fih, .inl (cJ, 3, .inr (.inl fh))), (sp, .inr (6, [.ref sa2, .ref cr2, .int (nI sd2), .int hc2])), (sa2, .inl (cY, 3, .inr (.inr (.inr (.inr (fun i => some (ya2 i))))))), (ya2 0, .inr (5, [.ref (yr2 0), .ref (yp2 0), .int (nI (nt2 0))])), (yr2 0, .inr (7, [.ref (yl2 0), .ref (yh2 0)])), (yl2 0, .inl (cJ, 12, .inr (.inl (F2 0)))), (yh2 0, .inl (cJ, 12, .inr (.inl (G2 0)))), (yp2 0, .inl (cI, 36, .inl (fun i => nI (PW2 0 i)))), (ya2 1, .inr (5, [.ref (yr2 1), .ref (yp2 1), .int (nI (nt2 1))])), (yr2 1, .inr (7, [.ref (yl2 1), .ref (yh2 1)])), (yl2 1, .inl (cJ, 12, .inr (.inl (F2 1)))), (yh2 1, .inl (cJ, 12, .inr (.inl (G2 1)))), (yp2 1, .inl (cI, 36, .inl (fun i => nI (PW2 1 i)))), (ya2 2, .inr (5, [.ref (yr2 2), .ref (yp2 2), .int (nI (nt2 2))])), (yr2 2, .inr (7, [.ref (yl2 2), .ref (yh2 2)])), (yl2 2, .inl (cJ, 12, .inr (.inl (F2 2)))), (yh2 2, .inl (cJ, 12, .inr (.inl (G2 2)))), (yp2 2, .inl (cI, 36, .inl (fun i => nI (PW2 2 i)))), (cr2, .inr (5, [.ref crr2, .ref crp2, .int (nI cn2)])), (crr2, .inr (7, [.ref crl2, .ref crh2])), (crl2, .inl (cJ, 12, .inr (.inl cf2))), (crh2, .inl (cJ, 12, .inr (.inl cg2))), (crp2, .inl (cI, 36, .inl (fun i => nI (cpw2 i))))] → pbC P ns hc nt F G PW cn cf cg cpw → RC P.ns A tm sf cm tr rf xl xh B XX nb ncr ls0 lsd → aR P.ns fl fh sl sh → C9) → C9
def MR (cJ cI cB cY : ClassId) (P : PB) (A : AS) (od hz co : Nat) (sl sh : Nat → Int64) (ln : Nat) (tb : Nat → Nat) (flt thn : Int32) (mo : Nat) (w9 : va_W) : Prop :=
  ∀ C9 : Prop, (∀ (att : Nat) (wrg : Int32) (ns : Nat) (crs : Int32) (nws : Int32) (nwc : Int32) (tim : Nat) (shf : Nat) (clm : Nat) (rfd : Int32) (tri : Nat) (bxs : Nat) (lsg : Int32) (lbx : Int32) (crg : Nat) (lo : Int64) (hi : Int64) (be : Int32) (ma : Nat → Nat) (fp : Nat → Int32) (mn : Nat → Nat) (fl : Nat → Int64) (fh : Nat → Int64) (pw : Nat → Nat) (NM : Nat → Int32) (NL : Nat → Int64) (NH : Nat → Int64) (NP : Nat → Int32) (sL : Nat → Int64) (sH : Nat → Int64) (xl : Nat → Int64) (xh : Nat → Int64) (KL : Nat → Int32) (KH : Nat → Int32) (QL : Nat → Int32) (QH : Nat → Int32) (KT : Nat → Int32) (KS : Nat → Int32) (XX : Nat → Int32) (al : Nat → Int64) (ah : Nat → Int64) (pf : Nat → Int64) (pg : Nat → Int64) (msl : Nat → Int64) (msh : Nat → Int64) (mpl : Nat → Int64) (mph : Nat → Int64), w9 = [(mo, .inr (10, [.int thn, .int (nI ln), .int (nI att), .int wrg, .int flt, .int (nI ns), .int crs, .int nws, .int nwc, .int (nI od), .int (nI hz), .int (nI co), .int (nI tim), .int (nI shf), .int (nI clm), .int rfd, .int (nI tri), .int (nI bxs), .int lsg, .int lbx, .int (nI crg), .long lo, .long hi, .int be, .ref (ma 0), .ref (ma 1), .ref (ma 2), .ref (ma 3), .ref (ma 4), .ref (ma 5), .ref (ma 6), .ref (ma 7), .ref (ma 8), .ref (ma 9), .ref (ma 10), .ref (ma 11), .ref (ma 12), .ref (ma 13), .ref (ma 14), .ref (ma 15), .ref (ma 16), .ref (ma 17), .ref (ma 18), .ref (ma 19), .ref (ma 20), .ref (ma 21), .ref (ma 22), .ref (ma 23), .ref (ma 24), .ref (ma 25), .ref (ma 26), .ref (ma 27), .ref (ma 28)])), (ma 0, .inl (cI, 240, .inl (fun i => nI (tb i)))), (ma 1, .inl (cI, 3, .inl fp)), (ma 2, .inl (cI, 4, .inl (fun i => nI (mn i)))), (ma 3, .inl (cJ, 48, .inr (.inl fl))), (ma 4, .inl (cJ, 48, .inr (.inl fh))), (ma 5, .inl (cI, 144, .inl (fun i => nI (pw i)))), (ma 6, .inl (cI, 4, .inl NM)), (ma 7, .inl (cJ, 48, .inr (.inl NL))), (ma 8, .inl (cJ, 48, .inr (.inl NH))), (ma 9, .inl (cI, 144, .inl NP)), (ma 10, .inl (cJ, 3, .inr (.inl sL))), (ma 11, .inl (cJ, 3, .inr (.inl sH))), (ma 12, .inl (cJ, 3, .inr (.inl xl))), (ma 13, .inl (cJ, 3, .inr (.inl xh))), (ma 14, .inl (cI, 1200, .inl KL)), (ma 15, .inl (cI, 1200, .inl KH)), (ma 16, .inl (cI, 1200, .inl QL)), (ma 17, .inl (cI, 1200, .inl QH)), (ma 18, .inl (cI, 400, .inl KT)), (ma 19, .inl (cI, 400, .inl KS)), (ma 20, .inl (cI, 300, .inl XX)), (ma 21, .inl (cJ, 3, .inr (.inl al))), (ma 22, .inl (cJ, 3, .inr (.inl ah))), (ma 23, .inl (cJ, 3, .inr (.inl pf))), (ma 24, .inl (cJ, 3, .inr (.inl pg))), (ma 25, .inl (cJ, 60, .inr (.inl msl))), (ma 26, .inl (cJ, 60, .inr (.inl msh))), (ma 27, .inl (cJ, 2520, .inr (.inl mpl))), (ma 28, .inl (cJ, 2520, .inr (.inl mph)))] → pbM P ns crs mn fl fh pw → RM P.ns A tim shf clm tri rfd xl xh KL KH QL QH KT KS XX bxs crg lsg lbx → aR P.ns sL sH sl sh → C9) → C9
/-! what the face answers, by the abstract state -/
theorem aR_z {n : Nat} : aR n (fun _ => 0) (fun _ => 0) z0 z0 := fun _ _ => ⟨rfl, rfl, okI_0⟩
theorem bg_aR {n : Nat} {fl fh sl sh : Nat → Int64} (hf : aR n fl fh sl sh) {v y1 y2 : Int32} (hb : ¬ bgBad n v y1 y2) : aR n (vp_updL fl v.toNatClampNeg y1.toInt64) (vp_updL fh v.toNatClampNeg y2.toInt64) (vp_updL sl v.toNatClampNeg y1.toInt64) (vp_updL sh v.toNatClampNeg y2.toInt64) := by
  intro u hu
  unfold vp_updL
  by_cases h : u = v.toNatClampNeg
  · rw [if_pos h, if_pos h, if_pos h, if_pos h]
    refine ⟨rfl, rfl, ?_⟩
    have a1 : ¬ y2 < y1 := fun q => hb (Or.inr (Or.inr (Or.inl q)))
    have a2 : ¬ y1.toInt64 < -1073741824 := fun q => hb (Or.inr (Or.inr (Or.inr (Or.inl q))))
    have a3 : ¬ 1073741824 < y2.toInt64 := fun q => hb (Or.inr (Or.inr (Or.inr (Or.inr q))))
    rw [Int32.lt_iff_toInt_lt] at a1
    rw [Int64.lt_iff_toInt_lt] at a2 a3
    rw [show (-1073741824 : Int64).toInt = -1073741824 from by decide] at a2
    rw [show (1073741824 : Int64).toInt = 1073741824 from by decide] at a3
    unfold okI
    rw [Int32.toInt_toInt64] at a2 a3 ⊢
    rw [Int32.toInt_toInt64]
    omega
  · rw [if_neg h, if_neg h, if_neg h, if_neg h]
    exact hf u hu
theorem nI_ne {a b : Nat} (ha : a < 2 ^ 31) (hb : b < 2 ^ 31) (h : ¬ a = b) : ¬ nI a = nI b := fun q => h ((nI_eq ha hb).mp q)
theorem bx_C {n : Nat} {h : hA} {B : Nat → Int32} {nb i v w : Nat} (hh : hRc n h B nb) (hi : i < nb) (h4 : i < 400) (hn : n ≤ 3) (hvw : (v < n ∧ w < 4) ∨ (v = 3 ∧ w < 2)) : B (i * 14 + v * 4 + w) = bxR h.KL h.KH h.QL h.QH h.KT h.KS i (nI v) (nI w) := by
  unfold bxR
  rcases hvw with ⟨h1, h2⟩ | ⟨h1, h2⟩
  · rw [if_neg (nI_ne (by omega) (by omega) (by omega)), nI_clamp (show v < 2 ^ 31 by omega)]
    obtain ⟨a1, a2, a3, a4⟩ := hh.1 i v hi h4 h1
    rcases (show w = 0 ∨ w = 1 ∨ w = 2 ∨ w = 3 by omega) with rfl | rfl | rfl | rfl
    · rw [if_pos (by decide)]; exact a1
    · rw [if_neg (by decide), if_pos rfl]; exact a2
    · rw [if_neg (by decide), if_neg (by decide), if_pos rfl]; exact a3
    · rw [if_neg (by decide), if_neg (by decide), if_neg (by decide)]; exact a4
  · subst h1
    rw [if_pos rfl]
    obtain ⟨a1, a2⟩ := hh.2 i hi h4
    rcases (show w = 0 ∨ w = 1 by omega) with rfl | rfl
    · rw [if_pos (by decide)]; exact a1
    · rw [if_neg (by decide)]; exact a2
theorem bx_M {n : Nat} {h : hA} {KL KH QL QH KT KS : Nat → Int32} {nb : Nat} {i v w : Int32} (hh : hRm n h KL KH QL QH KT KS nb) (hn : n ≤ 3) (hnb : nb < 2 ^ 30) (hb : ¬ (bxBad i nb ∨ hbf n v w = nI 0)) : bxR KL KH QL QH KT KS i.toNatClampNeg v w = bxR h.KL h.KH h.QL h.QH h.KT h.KS i.toNatClampNeg v w := by
  have a1 : ¬ i < 0 := fun q => hb (Or.inl (Or.inl q))
  have a2 : ¬ nI nb ≤ i := fun q => hb (Or.inl (Or.inr (Or.inl q)))
  have a3 : ¬ nI 400 ≤ i := fun q => hb (Or.inl (Or.inr (Or.inr q)))
  obtain ⟨j, hj, rfl⟩ := nI_of a1
  rw [nI_leI (by omega) hj] at a2 a3
  rw [nI_clamp hj]
  unfold bxR
  by_cases hv : v = nI 3
  · rw [if_pos hv, if_pos hv, (hh.2 j (by omega) (by omega)).1, (hh.2 j (by omega) (by omega)).2]
  · rw [if_neg hv, if_neg hv]
    have hf : ¬ (v < 0 ∨ nI n ≤ v ∨ w < 0 ∨ nI 4 ≤ w) := fun q => hb (Or.inr (by unfold hbf; rw [if_neg hv, if_pos q]))
    have b1 : ¬ v < 0 := fun q => hf (Or.inl q)
    have b2 : ¬ nI n ≤ v := fun q => hf (Or.inr (Or.inl q))
    obtain ⟨k, hk, rfl⟩ := nI_of b1
    rw [nI_leI (by omega) hk] at b2
    rw [nI_clamp hk]
    obtain ⟨c1, c2, c3, c4⟩ := hh.1 j k (by omega) (by omega) (by omega)
    rw [c1, c2, c3, c4]
theorem in_no {i : Int32} {n k : Nat} (hn : n < 2 ^ 31) (hk : k < 2 ^ 31) (h : ¬ inB i n k = 0) : ∃ j, j < n ∧ j < k ∧ i = nI j := by
  unfold inB at h
  by_cases q : i < 0 ∨ nI n ≤ i ∨ nI k ≤ i
  · rw [if_pos q] at h; exact absurd nI_0 h
  · have a1 : ¬ i < 0 := fun z => q (Or.inl z)
    obtain ⟨j, hj, rfl⟩ := nI_of a1
    have a2 : ¬ nI n ≤ nI j := fun z => q (Or.inr (Or.inl z))
    have a3 : ¬ nI k ≤ nI j := fun z => q (Or.inr (Or.inr z))
    rw [nI_leI (by omega) hj] at a2 a3
    exact ⟨j, by omega, by omega, rfl⟩
theorem st_eq (k1 k2 k3 : Int32) : stBad k1 k2 k3 ↔ (k1 < nI 1 ∨ nI 8 < k1 ∨ k2 < 0 ∨ nI 67108864 < k2 ∨ ¬ k2 - k2 / nI 16 * nI 16 = 0 ∨ k3 < 0 ∨ ¬ k3 ≤ nI 10) := by
  unfold stBad
  constructor
  · rintro (h | h | h | h | h | h | h)
    · exact Or.inl h
    · exact Or.inr (Or.inl h)
    · exact Or.inr (Or.inr (Or.inr (Or.inr (Or.inr (Or.inl h)))))
    · exact Or.inr (Or.inr (Or.inr (Or.inr (Or.inr (Or.inr h)))))
    · exact Or.inr (Or.inr (Or.inl h))
    · exact Or.inr (Or.inr (Or.inr (Or.inl h)))
    · exact Or.inr (Or.inr (Or.inr (Or.inr (Or.inl h))))
  · rintro (h | h | h | h | h | h | h)
    · exact Or.inl h
    · exact Or.inr (Or.inl h)
    · exact Or.inr (Or.inr (Or.inr (Or.inr (Or.inl h))))
    · exact Or.inr (Or.inr (Or.inr (Or.inr (Or.inr (Or.inl h)))))
    · exact Or.inr (Or.inr (Or.inr (Or.inr (Or.inr (Or.inr h)))))
    · exact Or.inr (Or.inr (Or.inl h))
    · exact Or.inr (Or.inr (Or.inr (Or.inl h)))
