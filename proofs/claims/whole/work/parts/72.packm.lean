set_option maxHeartbeats 4000000 in
set_option maxRecDepth 100000 in
theorem k_M_fault {l : Launch} {D : va_G} {cJ cI cB cY : ClassId} {P : PB} {A : AS} {od hz co : Nat} {sl sh : Nat → Int64} {ln : Nat} {tb : Nat → Nat} {flt thn : Int32} {mo : Nat} {w9 : va_W} (h9 : MR cJ cI cB cY P A od hz co sl sh ln tb flt thn mo w9) :
    bo_i (S := va_W) l D bo_cl (bo_ty cJ cI cB cY) yy_M_fault (bo_w yy_M_fault bb_M_fault 1 (some .int)) (bo_rm 0 0) [.ref mo] w9 (fun r w1 => r = flt ∧ MR cJ cI cB cY P A od hz co sl sh ln tb flt (nI 0) mo w1) id := by
  refine h9 _ ?_
  intro att wrg ns crs nws nwc tim shf clm rfd tri bxs lsg lbx crg lo hi be ma fp mn fl fh pw NM NL NH NP sL sH xl xh KL KH QL QH KT KS XX al ah pf pg msl msh mpl mph e9 hpc hrc hfi
  subst e9
  refine bo_fr_i (wr := [(ma 0, .inl (cI, 240, .inl (fun i => nI (tb i)))), (ma 1, .inl (cI, 3, .inl fp)), (ma 2, .inl (cI, 4, .inl (fun i => nI (mn i)))), (ma 3, .inl (cJ, 48, .inr (.inl fl))), (ma 4, .inl (cJ, 48, .inr (.inl fh))), (ma 5, .inl (cI, 144, .inl (fun i => nI (pw i)))), (ma 6, .inl (cI, 4, .inl NM)), (ma 7, .inl (cJ, 48, .inr (.inl NL))), (ma 8, .inl (cJ, 48, .inr (.inl NH))), (ma 9, .inl (cI, 144, .inl NP)), (ma 10, .inl (cJ, 3, .inr (.inl sL))), (ma 11, .inl (cJ, 3, .inr (.inl sH))), (ma 12, .inl (cJ, 3, .inr (.inl xl))), (ma 13, .inl (cJ, 3, .inr (.inl xh))), (ma 14, .inl (cI, 1200, .inl KL)), (ma 15, .inl (cI, 1200, .inl KH)), (ma 16, .inl (cI, 1200, .inl QL)), (ma 17, .inl (cI, 1200, .inl QH)), (ma 18, .inl (cI, 400, .inl KT)), (ma 19, .inl (cI, 400, .inl KS)), (ma 20, .inl (cI, 300, .inl XX)), (ma 21, .inl (cJ, 3, .inr (.inl al))), (ma 22, .inl (cJ, 3, .inr (.inl ah))), (ma 23, .inl (cJ, 3, .inr (.inl pf))), (ma 24, .inl (cJ, 3, .inr (.inl pg))), (ma 25, .inl (cJ, 60, .inr (.inl msl))), (ma 26, .inl (cJ, 60, .inr (.inl msh))), (ma 27, .inl (cJ, 2520, .inr (.inl mpl))), (ma 28, .inl (cJ, 2520, .inr (.inl mph)))]) (c_M_fault mo ma thn (nI ln) (nI att) wrg flt ns crs nws nwc (nI od) (nI hz) (nI co) (nI tim) (nI shf) (nI clm) rfd (nI tri) (nI bxs) lsg lbx (nI crg) lo hi be) [0] [1, 2, 3, 4, 5, 6, 7, 8, 9, 10, 11, 12, 13, 14, 15, 16, 17, 18, 19, 20, 21, 22, 23, 24, 25, 26, 27, 28, 29] [29, 0, 1, 2, 3, 4, 5, 6, 7, 8, 9, 10, 11, 12, 13, 14, 15, 16, 17, 18, 19, 20, 21, 22, 23, 24, 25, 26, 27, 28] rfl rfl (by decide +kernel) (by decide +kernel) (by decide +kernel) (by decide +kernel) ?_
  intro r u hu
  have hu : r = flt := hu
  exact ⟨_, ⟨(hu), fun C9 k9 => k9 att wrg ns crs nws nwc tim shf clm rfd tri bxs lsg lbx crg lo hi be ma fp mn fl fh pw NM NL NH NP sL sH xl xh KL KH QL QH KT KS XX al ah pf pg msl msh mpl mph rfl (hpc) (hrc) (hfi)⟩, rfl⟩

set_option maxHeartbeats 4000000 in
set_option maxRecDepth 100000 in
theorem k_M_thrown {l : Launch} {D : va_G} {cJ cI cB cY : ClassId} {P : PB} {A : AS} {od hz co : Nat} {sl sh : Nat → Int64} {ln : Nat} {tb : Nat → Nat} {flt thn : Int32} {mo : Nat} {w9 : va_W} (h9 : MR cJ cI cB cY P A od hz co sl sh ln tb flt thn mo w9) :
    bo_i (S := va_W) l D bo_cl (bo_ty cJ cI cB cY) yy_M_thrown (bo_w yy_M_thrown bb_M_thrown 1 (some .int)) (bo_rm 0 0) [.ref mo] w9 (fun r w1 => r = thn ∧ MR cJ cI cB cY P A od hz co sl sh ln tb flt thn mo w1) id := by
  refine h9 _ ?_
  intro att wrg ns crs nws nwc tim shf clm rfd tri bxs lsg lbx crg lo hi be ma fp mn fl fh pw NM NL NH NP sL sH xl xh KL KH QL QH KT KS XX al ah pf pg msl msh mpl mph e9 hpc hrc hfi
  subst e9
  refine bo_fr_i (wr := [(ma 0, .inl (cI, 240, .inl (fun i => nI (tb i)))), (ma 1, .inl (cI, 3, .inl fp)), (ma 2, .inl (cI, 4, .inl (fun i => nI (mn i)))), (ma 3, .inl (cJ, 48, .inr (.inl fl))), (ma 4, .inl (cJ, 48, .inr (.inl fh))), (ma 5, .inl (cI, 144, .inl (fun i => nI (pw i)))), (ma 6, .inl (cI, 4, .inl NM)), (ma 7, .inl (cJ, 48, .inr (.inl NL))), (ma 8, .inl (cJ, 48, .inr (.inl NH))), (ma 9, .inl (cI, 144, .inl NP)), (ma 10, .inl (cJ, 3, .inr (.inl sL))), (ma 11, .inl (cJ, 3, .inr (.inl sH))), (ma 12, .inl (cJ, 3, .inr (.inl xl))), (ma 13, .inl (cJ, 3, .inr (.inl xh))), (ma 14, .inl (cI, 1200, .inl KL)), (ma 15, .inl (cI, 1200, .inl KH)), (ma 16, .inl (cI, 1200, .inl QL)), (ma 17, .inl (cI, 1200, .inl QH)), (ma 18, .inl (cI, 400, .inl KT)), (ma 19, .inl (cI, 400, .inl KS)), (ma 20, .inl (cI, 300, .inl XX)), (ma 21, .inl (cJ, 3, .inr (.inl al))), (ma 22, .inl (cJ, 3, .inr (.inl ah))), (ma 23, .inl (cJ, 3, .inr (.inl pf))), (ma 24, .inl (cJ, 3, .inr (.inl pg))), (ma 25, .inl (cJ, 60, .inr (.inl msl))), (ma 26, .inl (cJ, 60, .inr (.inl msh))), (ma 27, .inl (cJ, 2520, .inr (.inl mpl))), (ma 28, .inl (cJ, 2520, .inr (.inl mph)))]) (c_M_thrown mo ma thn (nI ln) (nI att) wrg flt ns crs nws nwc (nI od) (nI hz) (nI co) (nI tim) (nI shf) (nI clm) rfd (nI tri) (nI bxs) lsg lbx (nI crg) lo hi be) [0] [1, 2, 3, 4, 5, 6, 7, 8, 9, 10, 11, 12, 13, 14, 15, 16, 17, 18, 19, 20, 21, 22, 23, 24, 25, 26, 27, 28, 29] [29, 0, 1, 2, 3, 4, 5, 6, 7, 8, 9, 10, 11, 12, 13, 14, 15, 16, 17, 18, 19, 20, 21, 22, 23, 24, 25, 26, 27, 28] rfl rfl (by decide +kernel) (by decide +kernel) (by decide +kernel) (by decide +kernel) ?_
  intro r u hu
  have hu : r = thn := hu
  exact ⟨_, ⟨(hu), fun C9 k9 => k9 att wrg ns crs nws nwc tim shf clm rfd tri bxs lsg lbx crg lo hi be ma fp mn fl fh pw NM NL NH NP sL sH xl xh KL KH QL QH KT KS XX al ah pf pg msl msh mpl mph rfl (hpc) (hrc) (hfi)⟩, rfl⟩

set_option maxHeartbeats 4000000 in
set_option maxRecDepth 100000 in
theorem k_M_state {l : Launch} {D : va_G} {cJ cI cB cY : ClassId} {P : PB} {A : AS} {od hz co : Nat} {sl sh : Nat → Int64} {ln : Nat} {tb : Nat → Nat} {flt thn : Int32} {mo : Nat} {w9 : va_W} (wh : Int32) (h9 : MR cJ cI cB cY P A od hz co sl sh ln tb flt thn mo w9) :
    bo_i (S := va_W) l D bo_cl (bo_ty cJ cI cB cY) yy_M_state (bo_w yy_M_state bb_M_state 2 (some .int)) (bo_rm 0 0) [.ref mo, .int wh] w9 (fun r w1 => r = stM wh (nI A.tim) (nI A.shf) (nI A.h.bxs) A.rfd (nI A.tri) (nI A.h.crg) ∧ MR cJ cI cB cY P A od hz co sl sh ln tb flt (nI 0) mo w1) id := by
  refine h9 _ ?_
  intro att wrg ns crs nws nwc tim shf clm rfd tri bxs lsg lbx crg lo hi be ma fp mn fl fh pw NM NL NH NP sL sH xl xh KL KH QL QH KT KS XX al ah pf pg msl msh mpl mph e9 hpc hrc hfi
  subst e9
  refine bo_fr_i (wr := [(ma 0, .inl (cI, 240, .inl (fun i => nI (tb i)))), (ma 1, .inl (cI, 3, .inl fp)), (ma 2, .inl (cI, 4, .inl (fun i => nI (mn i)))), (ma 3, .inl (cJ, 48, .inr (.inl fl))), (ma 4, .inl (cJ, 48, .inr (.inl fh))), (ma 5, .inl (cI, 144, .inl (fun i => nI (pw i)))), (ma 6, .inl (cI, 4, .inl NM)), (ma 7, .inl (cJ, 48, .inr (.inl NL))), (ma 8, .inl (cJ, 48, .inr (.inl NH))), (ma 9, .inl (cI, 144, .inl NP)), (ma 10, .inl (cJ, 3, .inr (.inl sL))), (ma 11, .inl (cJ, 3, .inr (.inl sH))), (ma 12, .inl (cJ, 3, .inr (.inl xl))), (ma 13, .inl (cJ, 3, .inr (.inl xh))), (ma 14, .inl (cI, 1200, .inl KL)), (ma 15, .inl (cI, 1200, .inl KH)), (ma 16, .inl (cI, 1200, .inl QL)), (ma 17, .inl (cI, 1200, .inl QH)), (ma 18, .inl (cI, 400, .inl KT)), (ma 19, .inl (cI, 400, .inl KS)), (ma 20, .inl (cI, 300, .inl XX)), (ma 21, .inl (cJ, 3, .inr (.inl al))), (ma 22, .inl (cJ, 3, .inr (.inl ah))), (ma 23, .inl (cJ, 3, .inr (.inl pf))), (ma 24, .inl (cJ, 3, .inr (.inl pg))), (ma 25, .inl (cJ, 60, .inr (.inl msl))), (ma 26, .inl (cJ, 60, .inr (.inl msh))), (ma 27, .inl (cJ, 2520, .inr (.inl mpl))), (ma 28, .inl (cJ, 2520, .inr (.inl mph)))]) (c_M_state mo ma thn (nI ln) (nI att) wrg flt ns crs nws nwc (nI od) (nI hz) (nI co) (nI tim) (nI shf) (nI clm) rfd (nI tri) (nI bxs) lsg lbx (nI crg) lo hi be wh) [0] [1, 2, 3, 4, 5, 6, 7, 8, 9, 10, 11, 12, 13, 14, 15, 16, 17, 18, 19, 20, 21, 22, 23, 24, 25, 26, 27, 28, 29] [29, 0, 1, 2, 3, 4, 5, 6, 7, 8, 9, 10, 11, 12, 13, 14, 15, 16, 17, 18, 19, 20, 21, 22, 23, 24, 25, 26, 27, 28] rfl rfl (by decide +kernel) (by decide +kernel) (by decide +kernel) (by decide +kernel) ?_
  intro r u hu
  have hu : r = stM wh (nI tim) (nI shf) (nI bxs) rfd (nI tri) (nI crg) := hu
  exact ⟨_, ⟨(by rw [hu, ← hrc.1.1, ← hrc.1.2.1, ← hrc.1.2.2.2.1, ← hrc.1.2.2.2.2, ← hrc.2.2.1.1, ← hrc.2.2.1.2.1]), fun C9 k9 => k9 att wrg ns crs nws nwc tim shf clm rfd tri bxs lsg lbx crg lo hi be ma fp mn fl fh pw NM NL NH NP sL sH xl xh KL KH QL QH KT KS XX al ah pf pg msl msh mpl mph rfl (hpc) (hrc) (hfi)⟩, rfl⟩

set_option maxHeartbeats 4000000 in
set_option maxRecDepth 100000 in
theorem k_M_typeBad {l : Launch} {D : va_G} {cJ cI cB cY : ClassId} {P : PB} {A : AS} {od hz co : Nat} {sl sh : Nat → Int64} {ln : Nat} {tb : Nat → Nat} {flt thn : Int32} {mo : Nat} {w9 : va_W} (w : Int64) (n : Int32) (hln : ln ≤ 240) (hb9 : ¬ tyP w n ln) (h9 : MR cJ cI cB cY P A od hz co sl sh ln tb flt thn mo w9) :
    bo_i (S := va_W) l D bo_cl (bo_ty cJ cI cB cY) yy_M_type (bo_w yy_M_type bb_M_type 6 (some .boolean)) (bo_rm 0 0) [.ref mo, .long w, .int n] w9 (fun r w1 => r = nI 0 ∧ MR cJ cI cB cY P A od hz co sl sh ln tb flt (nI 0) mo w1) id := by
  refine h9 _ ?_
  intro att wrg ns crs nws nwc tim shf clm rfd tri bxs lsg lbx crg lo hi be ma fp mn fl fh pw NM NL NH NP sL sH xl xh KL KH QL QH KT KS XX al ah pf pg msl msh mpl mph e9 hpc hrc hfi
  subst e9
  refine bo_fr_i (wr := [(ma 1, .inl (cI, 3, .inl fp)), (ma 2, .inl (cI, 4, .inl (fun i => nI (mn i)))), (ma 3, .inl (cJ, 48, .inr (.inl fl))), (ma 4, .inl (cJ, 48, .inr (.inl fh))), (ma 5, .inl (cI, 144, .inl (fun i => nI (pw i)))), (ma 6, .inl (cI, 4, .inl NM)), (ma 7, .inl (cJ, 48, .inr (.inl NL))), (ma 8, .inl (cJ, 48, .inr (.inl NH))), (ma 9, .inl (cI, 144, .inl NP)), (ma 10, .inl (cJ, 3, .inr (.inl sL))), (ma 11, .inl (cJ, 3, .inr (.inl sH))), (ma 12, .inl (cJ, 3, .inr (.inl xl))), (ma 13, .inl (cJ, 3, .inr (.inl xh))), (ma 14, .inl (cI, 1200, .inl KL)), (ma 15, .inl (cI, 1200, .inl KH)), (ma 16, .inl (cI, 1200, .inl QL)), (ma 17, .inl (cI, 1200, .inl QH)), (ma 18, .inl (cI, 400, .inl KT)), (ma 19, .inl (cI, 400, .inl KS)), (ma 20, .inl (cI, 300, .inl XX)), (ma 21, .inl (cJ, 3, .inr (.inl al))), (ma 22, .inl (cJ, 3, .inr (.inl ah))), (ma 23, .inl (cJ, 3, .inr (.inl pf))), (ma 24, .inl (cJ, 3, .inr (.inl pg))), (ma 25, .inl (cJ, 60, .inr (.inl msl))), (ma 26, .inl (cJ, 60, .inr (.inl msh))), (ma 27, .inl (cJ, 2520, .inr (.inl mpl))), (ma 28, .inl (cJ, 2520, .inr (.inl mph)))]) (c_M_typeBad mo ma thn ln (nI att) wrg flt ns crs nws nwc (nI od) (nI hz) (nI co) (nI tim) (nI shf) (nI clm) rfd (nI tri) (nI bxs) lsg lbx (nI crg) lo hi be tb w n (hln) (hb9)) [0, 1] [2, 3, 4, 5, 6, 7, 8, 9, 10, 11, 12, 13, 14, 15, 16, 17, 18, 19, 20, 21, 22, 23, 24, 25, 26, 27, 28, 29] [28, 29, 0, 1, 2, 3, 4, 5, 6, 7, 8, 9, 10, 11, 12, 13, 14, 15, 16, 17, 18, 19, 20, 21, 22, 23, 24, 25, 26, 27] rfl rfl (by decide +kernel) (by decide +kernel) (by decide +kernel) (by decide +kernel) ?_
  intro r u hu
  have hu : r = nI 0 := hu
  exact ⟨_, ⟨(hu), fun C9 k9 => k9 att wrg ns crs nws nwc tim shf clm rfd tri bxs lsg lbx crg lo hi be ma fp mn fl fh pw NM NL NH NP sL sH xl xh KL KH QL QH KT KS XX al ah pf pg msl msh mpl mph rfl (hpc) (hrc) (hfi)⟩, rfl⟩

set_option maxHeartbeats 4000000 in
set_option maxRecDepth 100000 in
theorem k_M_typeOk {l : Launch} {D : va_G} {cJ cI cB cY : ClassId} {P : PB} {A : AS} {od hz co : Nat} {sl sh : Nat → Int64} {ln : Nat} {tb : Nat → Nat} {flt thn : Int32} {mo : Nat} {w9 : va_W} (w : Int64) (N : Nat) (hln : ln ≤ 240) (hN1 : 1 ≤ N) (hN8 : N ≤ 8) (hN2 : ln + N ≤ 240) (hby : ∀ k, k < N → 33 ≤ byN w k ∧ byN w k ≤ 126) (h9 : MR cJ cI cB cY P A od hz co sl sh ln tb flt thn mo w9) :
    bo_i (S := va_W) l D bo_cl (bo_ty cJ cI cB cY) yy_M_type (bo_w yy_M_type bb_M_type 6 (some .boolean)) (bo_rm 0 0) [.ref mo, .long w, .int (nI N)] w9 (fun r w1 => r = nI 1 ∧ MR cJ cI cB cY P A od hz co sl sh (ln + N) (tyB tb w ln N N) flt (nI 0) mo w1) id := by
  refine h9 _ ?_
  intro att wrg ns crs nws nwc tim shf clm rfd tri bxs lsg lbx crg lo hi be ma fp mn fl fh pw NM NL NH NP sL sH xl xh KL KH QL QH KT KS XX al ah pf pg msl msh mpl mph e9 hpc hrc hfi
  subst e9
  refine bo_fr_i (wr := [(ma 1, .inl (cI, 3, .inl fp)), (ma 2, .inl (cI, 4, .inl (fun i => nI (mn i)))), (ma 3, .inl (cJ, 48, .inr (.inl fl))), (ma 4, .inl (cJ, 48, .inr (.inl fh))), (ma 5, .inl (cI, 144, .inl (fun i => nI (pw i)))), (ma 6, .inl (cI, 4, .inl NM)), (ma 7, .inl (cJ, 48, .inr (.inl NL))), (ma 8, .inl (cJ, 48, .inr (.inl NH))), (ma 9, .inl (cI, 144, .inl NP)), (ma 10, .inl (cJ, 3, .inr (.inl sL))), (ma 11, .inl (cJ, 3, .inr (.inl sH))), (ma 12, .inl (cJ, 3, .inr (.inl xl))), (ma 13, .inl (cJ, 3, .inr (.inl xh))), (ma 14, .inl (cI, 1200, .inl KL)), (ma 15, .inl (cI, 1200, .inl KH)), (ma 16, .inl (cI, 1200, .inl QL)), (ma 17, .inl (cI, 1200, .inl QH)), (ma 18, .inl (cI, 400, .inl KT)), (ma 19, .inl (cI, 400, .inl KS)), (ma 20, .inl (cI, 300, .inl XX)), (ma 21, .inl (cJ, 3, .inr (.inl al))), (ma 22, .inl (cJ, 3, .inr (.inl ah))), (ma 23, .inl (cJ, 3, .inr (.inl pf))), (ma 24, .inl (cJ, 3, .inr (.inl pg))), (ma 25, .inl (cJ, 60, .inr (.inl msl))), (ma 26, .inl (cJ, 60, .inr (.inl msh))), (ma 27, .inl (cJ, 2520, .inr (.inl mpl))), (ma 28, .inl (cJ, 2520, .inr (.inl mph)))]) (c_M_typeOk mo ma thn ln (nI att) wrg flt ns crs nws nwc (nI od) (nI hz) (nI co) (nI tim) (nI shf) (nI clm) rfd (nI tri) (nI bxs) lsg lbx (nI crg) lo hi be tb w N (hln) (hN1) (hN8) (hN2) (hby)) [0, 1] [2, 3, 4, 5, 6, 7, 8, 9, 10, 11, 12, 13, 14, 15, 16, 17, 18, 19, 20, 21, 22, 23, 24, 25, 26, 27, 28, 29] [28, 29, 0, 1, 2, 3, 4, 5, 6, 7, 8, 9, 10, 11, 12, 13, 14, 15, 16, 17, 18, 19, 20, 21, 22, 23, 24, 25, 26, 27] rfl rfl (by decide +kernel) (by decide +kernel) (by decide +kernel) (by decide +kernel) ?_
  intro r u hu
  have hu : r = nI 1 := hu
  exact ⟨_, ⟨(hu), fun C9 k9 => k9 att wrg ns crs nws nwc tim shf clm rfd tri bxs lsg lbx crg lo hi be ma fp mn fl fh pw NM NL NH NP sL sH xl xh KL KH QL QH KT KS XX al ah pf pg msl msh mpl mph rfl (hpc) (hrc) (hfi)⟩, rfl⟩

set_option maxHeartbeats 4000000 in
set_option maxRecDepth 100000 in
theorem k_M_compileBad {l : Launch} {D : va_G} {cJ cI cB cY : ClassId} {P : PB} {A : AS} {od hz co : Nat} {sl sh : Nat → Int64} {ln : Nat} {tb : Nat → Nat} {flt thn : Int32} {mo : Nat} {w9 : va_W} (er : Int32) (hln : ln ≤ 240) (htb : ∀ i, tb i < 128) (hs1 : ∀ i, i < ln → ¬ see tb ln i = 0) (hT : rdS (see tb ln) fp0 cD0 = .error er) (h9 : MR cJ cI cB cY P A od hz co sl sh ln tb flt thn mo w9) :
    bo_i (S := va_W) l D bo_cl (bo_ty cJ cI cB cY) yy_M_compile (bo_w yy_M_compile bb_M_compile 2 (some .int)) (bo_rm 7 178) [.ref mo] w9 (fun r w1 => r = nI 0 ∧ MR cJ cI cB cY P A od hz co sl sh 0 tb er (nI 1) mo w1) id := by
  refine h9 _ ?_
  intro att wrg ns crs nws nwc tim shf clm rfd tri bxs lsg lbx crg lo hi be ma fp mn fl fh pw NM NL NH NP sL sH xl xh KL KH QL QH KT KS XX al ah pf pg msl msh mpl mph e9 hpc hrc hfi
  subst e9
  obtain ⟨PW, rfl⟩ : ∃ PW : Nat → Nat, NP = fun i => nI (PW i) := ⟨fun i => unI (NP i), funext fun i => (nI_unI _).symm⟩
  refine bo_fr_i (wr := [(ma 2, .inl (cI, 4, .inl (fun i => nI (mn i)))), (ma 3, .inl (cJ, 48, .inr (.inl fl))), (ma 4, .inl (cJ, 48, .inr (.inl fh))), (ma 5, .inl (cI, 144, .inl (fun i => nI (pw i)))), (ma 10, .inl (cJ, 3, .inr (.inl sL))), (ma 11, .inl (cJ, 3, .inr (.inl sH))), (ma 12, .inl (cJ, 3, .inr (.inl xl))), (ma 13, .inl (cJ, 3, .inr (.inl xh))), (ma 14, .inl (cI, 1200, .inl KL)), (ma 15, .inl (cI, 1200, .inl KH)), (ma 16, .inl (cI, 1200, .inl QL)), (ma 17, .inl (cI, 1200, .inl QH)), (ma 18, .inl (cI, 400, .inl KT)), (ma 19, .inl (cI, 400, .inl KS)), (ma 20, .inl (cI, 300, .inl XX)), (ma 21, .inl (cJ, 3, .inr (.inl al))), (ma 22, .inl (cJ, 3, .inr (.inl ah))), (ma 23, .inl (cJ, 3, .inr (.inl pf))), (ma 24, .inl (cJ, 3, .inr (.inl pg))), (ma 25, .inl (cJ, 60, .inr (.inl msl))), (ma 26, .inl (cJ, 60, .inr (.inl msh))), (ma 27, .inl (cJ, 2520, .inr (.inl mpl))), (ma 28, .inl (cJ, 2520, .inr (.inl mph)))]) (c_M_compileBad mo ma thn ln att wrg flt ns crs nws nwc od hz co tim shf clm rfd tri bxs lsg lbx crg lo hi be tb fp NM NL NH PW er (hln) (htb) (hs1) (hT)) [0, 1, 2, 7, 8, 9, 10] [3, 4, 5, 6, 11, 12, 13, 14, 15, 16, 17, 18, 19, 20, 21, 22, 23, 24, 25, 26, 27, 28, 29] [23, 24, 25, 0, 1, 2, 3, 26, 27, 28, 29, 4, 5, 6, 7, 8, 9, 10, 11, 12, 13, 14, 15, 16, 17, 18, 19, 20, 21, 22] rfl rfl (by decide +kernel) (by decide +kernel) (by decide +kernel) (by decide +kernel) ?_
  intro r u hu
  obtain ⟨o_att1, o_nws1, o_nwc1, o_fp1, o_NM1, o_NL1, o_NH1, o_NP1⟩ := u
  have hu : r = nI 0 ∧ ¬ er < 0 := hu
  exact ⟨_, ⟨(hu.1), fun C9 k9 => k9 o_att1 er ns crs (nI o_nws1) o_nwc1 tim shf clm rfd tri bxs lsg lbx crg lo hi be ma o_fp1 mn fl fh pw o_NM1 o_NL1 o_NH1 o_NP1 sL sH xl xh KL KH QL QH KT KS XX al ah pf pg msl msh mpl mph rfl (hpc) (hrc) (hfi)⟩, rfl⟩

set_option maxHeartbeats 4000000 in
set_option maxRecDepth 100000 in
theorem k_M_compileOk {l : Launch} {D : va_G} {cJ cI cB cY : ClassId} {P : PB} {A : AS} {od hz co : Nat} {sl sh : Nat → Int64} {ln : Nat} {tb : Nat → Nat} {flt thn : Int32} {mo : Nat} {w9 : va_W} (v : Nat) (hc9 : Bool) (DD : cD) (hln : ln ≤ 240) (htb : ∀ i, tb i < 128) (hs1 : ∀ i, i < ln → ¬ see tb ln i = 0) (hT : rdS (see tb ln) fp0 cD0 = .ok (v, hc9, DD)) (h9 : MR cJ cI cB cY P A od hz co sl sh ln tb flt thn mo w9) :
    bo_i (S := va_W) l D bo_cl (bo_ty cJ cI cB cY) yy_M_compile (bo_w yy_M_compile bb_M_compile 2 (some .int)) (bo_rm 7 178) [.ref mo] w9 (fun r w1 => r = nI v ∧ MR cJ cI cB cY (mkPB v hc9 DD) (anA (mkPB v hc9 DD) co z0 z0) od hz co z0 z0 0 tb (-1) (nI 0) mo w1) id := by
  refine h9 _ ?_
  intro att wrg ns crs nws nwc tim shf clm rfd tri bxs lsg lbx crg lo hi be ma fp mn fl fh pw NM NL NH NP sL sH xl xh KL KH QL QH KT KS XX al ah pf pg msl msh mpl mph e9 hpc hrc hfi
  subst e9
  obtain ⟨PW, rfl⟩ : ∃ PW : Nat → Nat, NP = fun i => nI (PW i) := ⟨fun i => unI (NP i), funext fun i => (nI_unI _).symm⟩
  refine bo_fr_i (wr := [(ma 25, .inl (cJ, 60, .inr (.inl msl))), (ma 26, .inl (cJ, 60, .inr (.inl msh))), (ma 27, .inl (cJ, 2520, .inr (.inl mpl))), (ma 28, .inl (cJ, 2520, .inr (.inl mph)))]) (c_M_compileOk mo ma thn ln att wrg flt ns crs nws nwc od hz co tim shf clm rfd tri bxs lsg lbx crg lo hi be tb fp NM NL NH PW mn fl fh pw al ah xl xh pf pg sL sH KL KH QL QH KT KS XX v hc9 DD (hln) (htb) (hs1) (hT)) [0, 1, 2, 7, 8, 9, 10, 3, 4, 5, 6, 11, 12, 22, 23, 13, 14, 24, 25, 15, 16, 17, 18, 19, 20, 21] [26, 27, 28, 29] [4, 5, 6, 11, 12, 13, 14, 7, 8, 9, 10, 15, 16, 19, 20, 23, 24, 25, 26, 27, 28, 29, 17, 18, 21, 22, 0, 1, 2, 3] rfl rfl (by decide +kernel) (by decide +kernel) (by decide +kernel) (by decide +kernel) ?_
  intro r u hu
  obtain ⟨o_att9, o_fp9, o_NM9, o_NL9, o_NH9, o_NP9, o_mn9, o_fl9, o_fh9, o_pw9, o_al9, o_ah9, o_xl9, o_xh9, o_pf9, o_pg9, o_KL9, o_KH9, o_QL9, o_QH9, o_KT9, o_KS9, o_X9, o_bxs9, o_crg9, o_lsg9, o_lbx9, o_lo9, o_hi9, o_be9⟩ := u
  have hu : r = nI v ∧ pbM (mkPB v hc9 DD) v (bI hc9) o_mn9 o_fl9 o_fh9 o_pw9 ∧ RM v (anA (mkPB v hc9 DD) co z0 z0) 0 co 0 0 (nI 0) o_xl9 o_xh9 o_KL9 o_KH9 o_QL9 o_QH9 o_KT9 o_KS9 o_X9 o_bxs9 o_crg9 o_lsg9 o_lbx9 := hu
  exact ⟨_, ⟨(hu.1), fun C9 k9 => k9 o_att9 (-1) v (bI hc9) (nI v) (bI hc9) 0 co 0 (nI 0) 0 o_bxs9 o_lsg9 o_lbx9 o_crg9 o_lo9 o_hi9 o_be9 ma o_fp9 o_mn9 o_fl9 o_fh9 o_pw9 o_NM9 o_NL9 o_NH9 o_NP9 z0 z0 o_xl9 o_xh9 o_KL9 o_KH9 o_QL9 o_QH9 o_KT9 o_KS9 o_X9 o_al9 o_ah9 o_pf9 o_pg9 msl msh mpl mph rfl (hu.2.1) (hu.2.2) (aR_z)⟩, rfl⟩

set_option maxHeartbeats 4000000 in
set_option maxRecDepth 100000 in
theorem k_M_beginBad {l : Launch} {D : va_G} {cJ cI cB cY : ClassId} {P : PB} {A : AS} {od hz co : Nat} {sl sh : Nat → Int64} {ln : Nat} {tb : Nat → Nat} {flt thn : Int32} {mo : Nat} {w9 : va_W} (v y1 y2 : Int32) (hok : P.ok) (hb : bgBad P.ns v y1 y2) (h9 : MR cJ cI cB cY P A od hz co sl sh ln tb flt thn mo w9) :
    bo_i (S := va_W) l D bo_cl (bo_ty cJ cI cB cY) yy_M_begin (bo_w yy_M_begin bb_M_begin 4 (some .boolean)) (bo_rm 7 178) [.ref mo, .int v, .int y1, .int y2] w9 (fun r w1 => r = nI 0 ∧ MR cJ cI cB cY P A od hz co sl sh ln tb flt (nI 0) mo w1) id := by
  refine h9 _ ?_
  intro att wrg ns crs nws nwc tim shf clm rfd tri bxs lsg lbx crg lo hi be ma fp mn fl fh pw NM NL NH NP sL sH xl xh KL KH QL QH KT KS XX al ah pf pg msl msh mpl mph e9 hpc hrc hfi
  subst e9
  refine bo_fr_i (wr := [(ma 0, .inl (cI, 240, .inl (fun i => nI (tb i)))), (ma 1, .inl (cI, 3, .inl fp)), (ma 6, .inl (cI, 4, .inl NM)), (ma 7, .inl (cJ, 48, .inr (.inl NL))), (ma 8, .inl (cJ, 48, .inr (.inl NH))), (ma 9, .inl (cI, 144, .inl NP)), (ma 25, .inl (cJ, 60, .inr (.inl msl))), (ma 26, .inl (cJ, 60, .inr (.inl msh))), (ma 27, .inl (cJ, 2520, .inr (.inl mpl))), (ma 28, .inl (cJ, 2520, .inr (.inl mph)))]) (c_M_begin mo ma thn (nI ln) (nI att) wrg flt ns crs nws nwc (nI od) (nI hz) (nI co) (nI tim) (nI shf) (nI clm) rfd (nI tri) bxs lsg lbx crg lo hi be mn fl fh pw al ah xl xh pf pg sL sH KL KH QL QH KT KS XX v y1 y2 (by rw [hpc.1]; exact hok.1) (hpc.2.2.2.2.2)) [0, 3, 4, 5, 6, 22, 23, 13, 14, 24, 25, 15, 16, 17, 18, 19, 20, 11, 12, 21] [1, 2, 7, 8, 9, 10, 26, 27, 28, 29] [10, 0, 1, 11, 12, 13, 14, 2, 3, 4, 5, 27, 28, 17, 18, 21, 22, 23, 24, 25, 26, 29, 15, 16, 19, 20, 6, 7, 8, 9] rfl rfl (by decide +kernel) (by decide +kernel) (by decide +kernel) (by decide +kernel) ?_
  intro r u hu
  obtain ⟨o_xl1, o_xh1, o_pf1, o_pg1, o_al1, o_ah1, o_KL1, o_KH1, o_QL1, o_QH1, o_KT1, o_KS1, o_X1, o_bxs1, o_crg1, o_lsg1, o_lbx1, o_lo1, o_hi1, o_be1, o_tim1, o_shf1, o_clm1, o_rfd1, o_tri1, o_sL1, o_sH1⟩ := u
  have hu : (bgBad ns v y1 y2 → r = nI 0 ∧ o_sL1 = sL ∧ o_sH1 = sH ∧ o_xl1 = xl ∧ o_xh1 = xh ∧ o_pf1 = pf ∧ o_pg1 = pg ∧ o_al1 = al ∧ o_ah1 = ah ∧ o_KL1 = KL ∧ o_KH1 = KH ∧ o_QL1 = QL ∧ o_QH1 = QH ∧ o_KT1 = KT ∧ o_KS1 = KS ∧ o_X1 = XX ∧ o_bxs1 = bxs ∧ o_crg1 = crg ∧ o_lsg1 = lsg ∧ o_lbx1 = lbx ∧ o_tim1 = (nI tim) ∧ o_shf1 = (nI shf) ∧ o_clm1 = (nI clm) ∧ o_rfd1 = rfd ∧ o_tri1 = (nI tri)) ∧ (¬ bgBad ns v y1 y2 → r = nI 1 ∧ o_sL1 = vp_updL sL v.toNatClampNeg y1.toInt64 ∧ o_sH1 = vp_updL sH v.toNatClampNeg y2.toInt64 ∧ o_tim1 = nI 0 ∧ o_shf1 = (nI co) ∧ o_clm1 = nI 0 ∧ o_rfd1 = nI 0 ∧ o_tri1 = nI 0 ∧ ((ns = 0 → o_bxs1 = 0 ∧ o_crg1 = 0 ∧ o_lsg1 = nI 0 ∧ o_X1 = XX) ∧ (¬ ns = 0 → o_bxs1 = 1 ∧ o_xl1 = cpN o_sL1 xl ns ∧ o_xh1 = cpN o_sH1 xh ns ∧ o_KL1 = kA KL 0 (cpN o_sL1 xl ns) ns ∧ o_KH1 = kA KH 0 (cpN o_sH1 xh ns) ns ∧ o_QL1 = kA QL 0 (cpN o_sL1 pf ns) ns ∧ o_QH1 = kA QH 0 (cpN o_sH1 pg ns) ns ∧ o_KT1 = kT KT 0 (nI 0) ∧ o_KS1 = kT KS 0 (sgM crs mn fl fh pw ns (cpN o_sL1 xl ns) (cpN o_sH1 xh ns) al ah) ∧ (o_crg1, o_X1, o_lsg1, o_lbx1) = hN 0 XX (nI 0) lbx 0 (sgM crs mn fl fh pw ns (cpN o_sL1 xl ns) (cpN o_sH1 xh ns) al ah)))) := hu
  obtain ⟨hr, e1, e2, e3, e4, e5, e6, e7, e8, e9, e10, e11, e12, e13, e14, e15, e16, e17, e18, e19, e20, e21, e22, e23, e24⟩ := hu.1 (by rw [hpc.1]; exact hb)
  replace e1 := e1.symm
  subst e1
  replace e2 := e2.symm
  subst e2
  replace e3 := e3.symm
  subst e3
  replace e4 := e4.symm
  subst e4
  replace e5 := e5.symm
  subst e5
  replace e6 := e6.symm
  subst e6
  replace e7 := e7.symm
  subst e7
  replace e8 := e8.symm
  subst e8
  replace e9 := e9.symm
  subst e9
  replace e10 := e10.symm
  subst e10
  replace e11 := e11.symm
  subst e11
  replace e12 := e12.symm
  subst e12
  replace e13 := e13.symm
  subst e13
  replace e14 := e14.symm
  subst e14
  replace e15 := e15.symm
  subst e15
  replace e16 := e16.symm
  subst e16
  replace e17 := e17.symm
  subst e17
  replace e18 := e18.symm
  subst e18
  replace e19 := e19.symm
  subst e19
  replace e20 := e20.symm
  subst e20
  replace e21 := e21.symm
  subst e21
  replace e22 := e22.symm
  subst e22
  replace e23 := e23.symm
  subst e23
  replace e24 := e24.symm
  subst e24
  exact ⟨_, ⟨(hr), fun C9 k9 => k9 att wrg ns crs nws nwc tim shf clm rfd tri bxs lsg lbx crg o_lo1 o_hi1 o_be1 ma fp mn fl fh pw NM NL NH NP sL sH xl xh KL KH QL QH KT KS XX al ah pf pg msl msh mpl mph rfl (hpc) (hrc) (hfi)⟩, rfl⟩

set_option maxHeartbeats 4000000 in
set_option maxRecDepth 100000 in
theorem k_M_beginOk {l : Launch} {D : va_G} {cJ cI cB cY : ClassId} {P : PB} {A : AS} {od hz co : Nat} {sl sh : Nat → Int64} {ln : Nat} {tb : Nat → Nat} {flt thn : Int32} {mo : Nat} {w9 : va_W} (v y1 y2 : Int32) (hok : P.ok) (hb : ¬ bgBad P.ns v y1 y2) (h9 : MR cJ cI cB cY P A od hz co sl sh ln tb flt thn mo w9) :
    bo_i (S := va_W) l D bo_cl (bo_ty cJ cI cB cY) yy_M_begin (bo_w yy_M_begin bb_M_begin 4 (some .boolean)) (bo_rm 7 178) [.ref mo, .int v, .int y1, .int y2] w9 (fun r w1 => r = nI 1 ∧ MR cJ cI cB cY P (anA P co (vp_updL sl v.toNatClampNeg y1.toInt64) (vp_updL sh v.toNatClampNeg y2.toInt64)) od hz co (vp_updL sl v.toNatClampNeg y1.toInt64) (vp_updL sh v.toNatClampNeg y2.toInt64) ln tb flt (nI 0) mo w1) id := by
  refine h9 _ ?_
  intro att wrg ns crs nws nwc tim shf clm rfd tri bxs lsg lbx crg lo hi be ma fp mn fl fh pw NM NL NH NP sL sH xl xh KL KH QL QH KT KS XX al ah pf pg msl msh mpl mph e9 hpc hrc hfi
  subst e9
  refine bo_fr_i (wr := [(ma 0, .inl (cI, 240, .inl (fun i => nI (tb i)))), (ma 1, .inl (cI, 3, .inl fp)), (ma 6, .inl (cI, 4, .inl NM)), (ma 7, .inl (cJ, 48, .inr (.inl NL))), (ma 8, .inl (cJ, 48, .inr (.inl NH))), (ma 9, .inl (cI, 144, .inl NP)), (ma 25, .inl (cJ, 60, .inr (.inl msl))), (ma 26, .inl (cJ, 60, .inr (.inl msh))), (ma 27, .inl (cJ, 2520, .inr (.inl mpl))), (ma 28, .inl (cJ, 2520, .inr (.inl mph)))]) (c_M_begin mo ma thn (nI ln) (nI att) wrg flt ns crs nws nwc (nI od) (nI hz) (nI co) (nI tim) (nI shf) (nI clm) rfd (nI tri) bxs lsg lbx crg lo hi be mn fl fh pw al ah xl xh pf pg sL sH KL KH QL QH KT KS XX v y1 y2 (by rw [hpc.1]; exact hok.1) (hpc.2.2.2.2.2)) [0, 3, 4, 5, 6, 22, 23, 13, 14, 24, 25, 15, 16, 17, 18, 19, 20, 11, 12, 21] [1, 2, 7, 8, 9, 10, 26, 27, 28, 29] [10, 0, 1, 11, 12, 13, 14, 2, 3, 4, 5, 27, 28, 17, 18, 21, 22, 23, 24, 25, 26, 29, 15, 16, 19, 20, 6, 7, 8, 9] rfl rfl (by decide +kernel) (by decide +kernel) (by decide +kernel) (by decide +kernel) ?_
  intro r u hu
  obtain ⟨o_xl1, o_xh1, o_pf1, o_pg1, o_al1, o_ah1, o_KL1, o_KH1, o_QL1, o_QH1, o_KT1, o_KS1, o_X1, o_bxs1, o_crg1, o_lsg1, o_lbx1, o_lo1, o_hi1, o_be1, o_tim1, o_shf1, o_clm1, o_rfd1, o_tri1, o_sL1, o_sH1⟩ := u
  have hu : (bgBad ns v y1 y2 → r = nI 0 ∧ o_sL1 = sL ∧ o_sH1 = sH ∧ o_xl1 = xl ∧ o_xh1 = xh ∧ o_pf1 = pf ∧ o_pg1 = pg ∧ o_al1 = al ∧ o_ah1 = ah ∧ o_KL1 = KL ∧ o_KH1 = KH ∧ o_QL1 = QL ∧ o_QH1 = QH ∧ o_KT1 = KT ∧ o_KS1 = KS ∧ o_X1 = XX ∧ o_bxs1 = bxs ∧ o_crg1 = crg ∧ o_lsg1 = lsg ∧ o_lbx1 = lbx ∧ o_tim1 = (nI tim) ∧ o_shf1 = (nI shf) ∧ o_clm1 = (nI clm) ∧ o_rfd1 = rfd ∧ o_tri1 = (nI tri)) ∧ (¬ bgBad ns v y1 y2 → r = nI 1 ∧ o_sL1 = vp_updL sL v.toNatClampNeg y1.toInt64 ∧ o_sH1 = vp_updL sH v.toNatClampNeg y2.toInt64 ∧ o_tim1 = nI 0 ∧ o_shf1 = (nI co) ∧ o_clm1 = nI 0 ∧ o_rfd1 = nI 0 ∧ o_tri1 = nI 0 ∧ ((ns = 0 → o_bxs1 = 0 ∧ o_crg1 = 0 ∧ o_lsg1 = nI 0 ∧ o_X1 = XX) ∧ (¬ ns = 0 → o_bxs1 = 1 ∧ o_xl1 = cpN o_sL1 xl ns ∧ o_xh1 = cpN o_sH1 xh ns ∧ o_KL1 = kA KL 0 (cpN o_sL1 xl ns) ns ∧ o_KH1 = kA KH 0 (cpN o_sH1 xh ns) ns ∧ o_QL1 = kA QL 0 (cpN o_sL1 pf ns) ns ∧ o_QH1 = kA QH 0 (cpN o_sH1 pg ns) ns ∧ o_KT1 = kT KT 0 (nI 0) ∧ o_KS1 = kT KS 0 (sgM crs mn fl fh pw ns (cpN o_sL1 xl ns) (cpN o_sH1 xh ns) al ah) ∧ (o_crg1, o_X1, o_lsg1, o_lbx1) = hN 0 XX (nI 0) lbx 0 (sgM crs mn fl fh pw ns (cpN o_sL1 xl ns) (cpN o_sH1 xh ns) al ah)))) := hu
  obtain ⟨hr, e1, e2, e3, e4, e5, e6, e7, e⟩ := hu.2 (by rw [hpc.1]; exact hb)
  replace e1 := e1.symm
  subst e1
  replace e2 := e2.symm
  subst e2
  replace e3 := e3.symm
  subst e3
  replace e4 := e4.symm
  subst e4
  replace e5 := e5.symm
  subst e5
  replace e6 := e6.symm
  subst e6
  replace e7 := e7.symm
  subst e7
  exact ⟨_, ⟨(hr), fun C9 k9 => k9 att wrg ns crs nws nwc 0 co 0 (nI 0) 0 o_bxs1 o_lsg1 o_lbx1 o_crg1 o_lo1 o_hi1 o_be1 ma fp mn fl fh pw NM NL NH NP (vp_updL sL v.toNatClampNeg y1.toInt64) (vp_updL sH v.toNatClampNeg y2.toInt64) o_xl1 o_xh1 o_KL1 o_KH1 o_QL1 o_QH1 o_KT1 o_KS1 o_X1 o_al1 o_ah1 o_pf1 o_pg1 msl msh mpl mph rfl (hpc) (anM hok hpc (bg_aR hfi hb) e) (bg_aR hfi hb)⟩, rfl⟩

set_option maxHeartbeats 4000000 in
set_option maxRecDepth 100000 in
theorem k_M_settleBad {l : Launch} {D : va_G} {cJ cI cB cY : ClassId} {P : PB} {A : AS} {od hz co : Nat} {sl sh : Nat → Int64} {ln : Nat} {tb : Nat → Nat} {flt thn : Int32} {mo : Nat} {w9 : va_W} (k1 k2 k3 : Int32) (hok : P.ok) (hb : stBad k1 k2 k3) (h9 : MR cJ cI cB cY P A od hz co sl sh ln tb flt thn mo w9) :
    bo_i (S := va_W) l D bo_cl (bo_ty cJ cI cB cY) yy_M_settle (bo_w yy_M_settle bb_M_settle 4 (some .boolean)) (bo_rm 7 178) [.ref mo, .int k1, .int k2, .int k3] w9 (fun r w1 => r = nI 0 ∧ MR cJ cI cB cY P A od hz co sl sh ln tb flt (nI 0) mo w1) id := by
  refine h9 _ ?_
  intro att wrg ns crs nws nwc tim shf clm rfd tri bxs lsg lbx crg lo hi be ma fp mn fl fh pw NM NL NH NP sL sH xl xh KL KH QL QH KT KS XX al ah pf pg msl msh mpl mph e9 hpc hrc hfi
  subst e9
  refine bo_fr_i (wr := [(ma 0, .inl (cI, 240, .inl (fun i => nI (tb i)))), (ma 1, .inl (cI, 3, .inl fp)), (ma 6, .inl (cI, 4, .inl NM)), (ma 7, .inl (cJ, 48, .inr (.inl NL))), (ma 8, .inl (cJ, 48, .inr (.inl NH))), (ma 9, .inl (cI, 144, .inl NP)), (ma 25, .inl (cJ, 60, .inr (.inl msl))), (ma 26, .inl (cJ, 60, .inr (.inl msh))), (ma 27, .inl (cJ, 2520, .inr (.inl mpl))), (ma 28, .inl (cJ, 2520, .inr (.inl mph)))]) (c_M_settle mo ma thn (nI ln) (nI att) wrg flt ns crs nws nwc (nI od) (nI hz) (nI co) (nI tim) (nI shf) (nI clm) rfd (nI tri) bxs lsg lbx crg lo hi be mn fl fh pw al ah xl xh pf pg sL sH KL KH QL QH KT KS XX k1 k2 k3 (by rw [hpc.1]; exact hok.1) (hpc.2.2.2.2.2)) [0, 3, 4, 5, 6, 22, 23, 13, 14, 24, 25, 15, 16, 17, 18, 19, 20, 11, 12, 21] [1, 2, 7, 8, 9, 10, 26, 27, 28, 29] [10, 0, 1, 11, 12, 13, 14, 2, 3, 4, 5, 27, 28, 17, 18, 21, 22, 23, 24, 25, 26, 29, 15, 16, 19, 20, 6, 7, 8, 9] rfl rfl (by decide +kernel) (by decide +kernel) (by decide +kernel) (by decide +kernel) ?_
  intro r u hu
  obtain ⟨o_xl1, o_xh1, o_pf1, o_pg1, o_al1, o_ah1, o_KL1, o_KH1, o_QL1, o_QH1, o_KT1, o_KS1, o_X1, o_bxs1, o_crg1, o_lsg1, o_lbx1, o_lo1, o_hi1, o_be1, o_tim1, o_shf1, o_clm1, o_rfd1, o_tri1, o_od1, o_hor1, o_coa1⟩ := u
  have hu : ((k1 < nI 1 ∨ nI 8 < k1 ∨ k2 < 0 ∨ nI 67108864 < k2 ∨ ¬ k2 - k2 / nI 16 * nI 16 = 0 ∨ k3 < 0 ∨ ¬ k3 ≤ nI 10) → r = nI 0 ∧ o_od1 = (nI od) ∧ o_hor1 = (nI hz) ∧ o_coa1 = (nI co) ∧ o_xl1 = xl ∧ o_xh1 = xh ∧ o_pf1 = pf ∧ o_pg1 = pg ∧ o_al1 = al ∧ o_ah1 = ah ∧ o_KL1 = KL ∧ o_KH1 = KH ∧ o_QL1 = QL ∧ o_QH1 = QH ∧ o_KT1 = KT ∧ o_KS1 = KS ∧ o_X1 = XX ∧ o_bxs1 = bxs ∧ o_crg1 = crg ∧ o_lsg1 = lsg ∧ o_lbx1 = lbx ∧ o_tim1 = (nI tim) ∧ o_shf1 = (nI shf) ∧ o_clm1 = (nI clm) ∧ o_rfd1 = rfd ∧ o_tri1 = (nI tri)) ∧ (¬ (k1 < nI 1 ∨ nI 8 < k1 ∨ k2 < 0 ∨ nI 67108864 < k2 ∨ ¬ k2 - k2 / nI 16 * nI 16 = 0 ∨ k3 < 0 ∨ ¬ k3 ≤ nI 10) → r = nI 1 ∧ o_od1 = k1 ∧ o_hor1 = k2 ∧ o_coa1 = k3 ∧ o_tim1 = nI 0 ∧ o_shf1 = k3 ∧ o_clm1 = nI 0 ∧ o_rfd1 = nI 0 ∧ o_tri1 = nI 0 ∧ ((ns = 0 → o_bxs1 = 0 ∧ o_crg1 = 0 ∧ o_lsg1 = nI 0 ∧ o_X1 = XX) ∧ (¬ ns = 0 → o_bxs1 = 1 ∧ o_xl1 = cpN sL xl ns ∧ o_xh1 = cpN sH xh ns ∧ o_KL1 = kA KL 0 (cpN sL xl ns) ns ∧ o_KH1 = kA KH 0 (cpN sH xh ns) ns ∧ o_QL1 = kA QL 0 (cpN sL pf ns) ns ∧ o_QH1 = kA QH 0 (cpN sH pg ns) ns ∧ o_KT1 = kT KT 0 (nI 0) ∧ o_KS1 = kT KS 0 (sgM crs mn fl fh pw ns (cpN sL xl ns) (cpN sH xh ns) al ah) ∧ (o_crg1, o_X1, o_lsg1, o_lbx1) = hN 0 XX (nI 0) lbx 0 (sgM crs mn fl fh pw ns (cpN sL xl ns) (cpN sH xh ns) al ah)))) := hu
  obtain ⟨hr, e1, e2, e3, e4, e5, e6, e7, e8, e9, e10, e11, e12, e13, e14, e15, e16, e17, e18, e19, e20, e21, e22, e23, e24, e25⟩ := hu.1 ((st_eq k1 k2 k3).mp hb)
  replace e1 := e1.symm
  subst e1
  replace e2 := e2.symm
  subst e2
  replace e3 := e3.symm
  subst e3
  replace e4 := e4.symm
  subst e4
  replace e5 := e5.symm
  subst e5
  replace e6 := e6.symm
  subst e6
  replace e7 := e7.symm
  subst e7
  replace e8 := e8.symm
  subst e8
  replace e9 := e9.symm
  subst e9
  replace e10 := e10.symm
  subst e10
  replace e11 := e11.symm
  subst e11
  replace e12 := e12.symm
  subst e12
  replace e13 := e13.symm
  subst e13
  replace e14 := e14.symm
  subst e14
  replace e15 := e15.symm
  subst e15
  replace e16 := e16.symm
  subst e16
  replace e17 := e17.symm
  subst e17
  replace e18 := e18.symm
  subst e18
  replace e19 := e19.symm
  subst e19
  replace e20 := e20.symm
  subst e20
  replace e21 := e21.symm
  subst e21
  replace e22 := e22.symm
  subst e22
  replace e23 := e23.symm
  subst e23
  replace e24 := e24.symm
  subst e24
  replace e25 := e25.symm
  subst e25
  exact ⟨_, ⟨(hr), fun C9 k9 => k9 att wrg ns crs nws nwc tim shf clm rfd tri bxs lsg lbx crg o_lo1 o_hi1 o_be1 ma fp mn fl fh pw NM NL NH NP sL sH xl xh KL KH QL QH KT KS XX al ah pf pg msl msh mpl mph rfl (hpc) (hrc) (hfi)⟩, rfl⟩

set_option maxHeartbeats 4000000 in
set_option maxRecDepth 100000 in
theorem k_M_settleOk {l : Launch} {D : va_G} {cJ cI cB cY : ClassId} {P : PB} {A : AS} {od hz co : Nat} {sl sh : Nat → Int64} {ln : Nat} {tb : Nat → Nat} {flt thn : Int32} {mo : Nat} {w9 : va_W} (o h c9 : Nat) (hok : P.ok) (ho : o ≤ 8) (hh9 : h ≤ 67108864) (hc9 : c9 ≤ 10) (hb : ¬ stBad (nI o) (nI h) (nI c9)) (h9 : MR cJ cI cB cY P A od hz co sl sh ln tb flt thn mo w9) :
    bo_i (S := va_W) l D bo_cl (bo_ty cJ cI cB cY) yy_M_settle (bo_w yy_M_settle bb_M_settle 4 (some .boolean)) (bo_rm 7 178) [.ref mo, .int (nI o), .int (nI h), .int (nI c9)] w9 (fun r w1 => r = nI 1 ∧ MR cJ cI cB cY P (anA P c9 sl sh) o h c9 sl sh ln tb flt (nI 0) mo w1) id := by
  refine h9 _ ?_
  intro att wrg ns crs nws nwc tim shf clm rfd tri bxs lsg lbx crg lo hi be ma fp mn fl fh pw NM NL NH NP sL sH xl xh KL KH QL QH KT KS XX al ah pf pg msl msh mpl mph e9 hpc hrc hfi
  subst e9
  refine bo_fr_i (wr := [(ma 0, .inl (cI, 240, .inl (fun i => nI (tb i)))), (ma 1, .inl (cI, 3, .inl fp)), (ma 6, .inl (cI, 4, .inl NM)), (ma 7, .inl (cJ, 48, .inr (.inl NL))), (ma 8, .inl (cJ, 48, .inr (.inl NH))), (ma 9, .inl (cI, 144, .inl NP)), (ma 25, .inl (cJ, 60, .inr (.inl msl))), (ma 26, .inl (cJ, 60, .inr (.inl msh))), (ma 27, .inl (cJ, 2520, .inr (.inl mpl))), (ma 28, .inl (cJ, 2520, .inr (.inl mph)))]) (c_M_settle mo ma thn (nI ln) (nI att) wrg flt ns crs nws nwc (nI od) (nI hz) (nI co) (nI tim) (nI shf) (nI clm) rfd (nI tri) bxs lsg lbx crg lo hi be mn fl fh pw al ah xl xh pf pg sL sH KL KH QL QH KT KS XX (nI o) (nI h) (nI c9) (by rw [hpc.1]; exact hok.1) (hpc.2.2.2.2.2)) [0, 3, 4, 5, 6, 22, 23, 13, 14, 24, 25, 15, 16, 17, 18, 19, 20, 11, 12, 21] [1, 2, 7, 8, 9, 10, 26, 27, 28, 29] [10, 0, 1, 11, 12, 13, 14, 2, 3, 4, 5, 27, 28, 17, 18, 21, 22, 23, 24, 25, 26, 29, 15, 16, 19, 20, 6, 7, 8, 9] rfl rfl (by decide +kernel) (by decide +kernel) (by decide +kernel) (by decide +kernel) ?_
  intro r u hu
  obtain ⟨o_xl1, o_xh1, o_pf1, o_pg1, o_al1, o_ah1, o_KL1, o_KH1, o_QL1, o_QH1, o_KT1, o_KS1, o_X1, o_bxs1, o_crg1, o_lsg1, o_lbx1, o_lo1, o_hi1, o_be1, o_tim1, o_shf1, o_clm1, o_rfd1, o_tri1, o_od1, o_hor1, o_coa1⟩ := u
  have hu : (((nI o) < nI 1 ∨ nI 8 < (nI o) ∨ (nI h) < 0 ∨ nI 67108864 < (nI h) ∨ ¬ (nI h) - (nI h) / nI 16 * nI 16 = 0 ∨ (nI c9) < 0 ∨ ¬ (nI c9) ≤ nI 10) → r = nI 0 ∧ o_od1 = (nI od) ∧ o_hor1 = (nI hz) ∧ o_coa1 = (nI co) ∧ o_xl1 = xl ∧ o_xh1 = xh ∧ o_pf1 = pf ∧ o_pg1 = pg ∧ o_al1 = al ∧ o_ah1 = ah ∧ o_KL1 = KL ∧ o_KH1 = KH ∧ o_QL1 = QL ∧ o_QH1 = QH ∧ o_KT1 = KT ∧ o_KS1 = KS ∧ o_X1 = XX ∧ o_bxs1 = bxs ∧ o_crg1 = crg ∧ o_lsg1 = lsg ∧ o_lbx1 = lbx ∧ o_tim1 = (nI tim) ∧ o_shf1 = (nI shf) ∧ o_clm1 = (nI clm) ∧ o_rfd1 = rfd ∧ o_tri1 = (nI tri)) ∧ (¬ ((nI o) < nI 1 ∨ nI 8 < (nI o) ∨ (nI h) < 0 ∨ nI 67108864 < (nI h) ∨ ¬ (nI h) - (nI h) / nI 16 * nI 16 = 0 ∨ (nI c9) < 0 ∨ ¬ (nI c9) ≤ nI 10) → r = nI 1 ∧ o_od1 = (nI o) ∧ o_hor1 = (nI h) ∧ o_coa1 = (nI c9) ∧ o_tim1 = nI 0 ∧ o_shf1 = (nI c9) ∧ o_clm1 = nI 0 ∧ o_rfd1 = nI 0 ∧ o_tri1 = nI 0 ∧ ((ns = 0 → o_bxs1 = 0 ∧ o_crg1 = 0 ∧ o_lsg1 = nI 0 ∧ o_X1 = XX) ∧ (¬ ns = 0 → o_bxs1 = 1 ∧ o_xl1 = cpN sL xl ns ∧ o_xh1 = cpN sH xh ns ∧ o_KL1 = kA KL 0 (cpN sL xl ns) ns ∧ o_KH1 = kA KH 0 (cpN sH xh ns) ns ∧ o_QL1 = kA QL 0 (cpN sL pf ns) ns ∧ o_QH1 = kA QH 0 (cpN sH pg ns) ns ∧ o_KT1 = kT KT 0 (nI 0) ∧ o_KS1 = kT KS 0 (sgM crs mn fl fh pw ns (cpN sL xl ns) (cpN sH xh ns) al ah) ∧ (o_crg1, o_X1, o_lsg1, o_lbx1) = hN 0 XX (nI 0) lbx 0 (sgM crs mn fl fh pw ns (cpN sL xl ns) (cpN sH xh ns) al ah)))) := hu
  obtain ⟨hr, e1, e2, e3, e4, e5, e6, e7, e8, e⟩ := hu.2 (fun q => hb ((st_eq _ _ _).mpr q))
  replace e1 := e1.symm
  subst e1
  replace e2 := e2.symm
  subst e2
  replace e3 := e3.symm
  subst e3
  replace e4 := e4.symm
  subst e4
  replace e5 := e5.symm
  subst e5
  replace e6 := e6.symm
  subst e6
  replace e7 := e7.symm
  subst e7
  replace e8 := e8.symm
  subst e8
  exact ⟨_, ⟨(hr), fun C9 k9 => k9 att wrg ns crs nws nwc 0 c9 0 (nI 0) 0 o_bxs1 o_lsg1 o_lbx1 o_crg1 o_lo1 o_hi1 o_be1 ma fp mn fl fh pw NM NL NH NP sL sH o_xl1 o_xh1 o_KL1 o_KH1 o_QL1 o_QH1 o_KT1 o_KS1 o_X1 o_al1 o_ah1 o_pf1 o_pg1 msl msh mpl mph rfl (hpc) (anM hok hpc hfi e) (hfi)⟩, rfl⟩

set_option maxHeartbeats 4000000 in
set_option maxRecDepth 100000 in
theorem k_M_step {l : Launch} {D : va_G} {cJ cI cB cY : ClassId} {P : PB} {A : AS} {od hz co : Nat} {sl sh : Nat → Int64} {ln : Nat} {tb : Nat → Nat} {flt thn : Int32} {mo : Nat} {w9 : va_W} (n : Int32) (hok : P.ok) (hg : runG hz co A) (hz16 : hz % 16 = 0) (hz2 : hz ≤ 67108864) (hod : od < 9) (hnb : A.h.bxs < 2 ^ 28) (htr : A.tri < 2 ^ 28) (h9 : MR cJ cI cB cY P A od hz co sl sh ln tb flt thn mo w9) :
    bo_i (S := va_W) l D bo_cl (bo_ty cJ cI cB cY) yy_M_step (bo_w yy_M_step bb_M_step 3 (some .int)) (bo_rm 9 242) [.ref mo, .int n] w9 (fun r w1 => r = (stF P od hz co n A).2.2 ∧ MR cJ cI cB cY P ((stF P od hz co n A).1) od hz co sl sh ln tb flt ((stF P od hz co n A).2.1) mo w1) id := by
  refine h9 _ ?_
  intro att wrg ns crs nws nwc tim shf clm rfd tri bxs lsg lbx crg lo hi be ma fp mn fl fh pw NM NL NH NP sL sH xl xh KL KH QL QH KT KS XX al ah pf pg msl msh mpl mph e9 hpc hrc hfi
  subst e9
  refine bo_fr_i (wr := [(ma 0, .inl (cI, 240, .inl (fun i => nI (tb i)))), (ma 1, .inl (cI, 3, .inl fp)), (ma 6, .inl (cI, 4, .inl NM)), (ma 7, .inl (cJ, 48, .inr (.inl NL))), (ma 8, .inl (cJ, 48, .inr (.inl NH))), (ma 9, .inl (cI, 144, .inl NP)), (ma 10, .inl (cJ, 3, .inr (.inl sL))), (ma 11, .inl (cJ, 3, .inr (.inl sH)))]) (c_M_step mo ma thn ln att wrg flt ns crs nws nwc od hz co tim shf clm rfd tri bxs lsg lbx crg lo hi be mn fl fh pw al ah xl xh pf pg msl msh mpl mph KL KH QL QH KT KS XX P A n (hok) (hpc) (hrc) (hg) (hz16) (hz2) (hod) (by rw [hrc.2.2.1.1]; exact hnb) (by rw [hrc.1.2.2.2.1]; exact htr)) [0, 3, 4, 5, 6, 22, 23, 13, 14, 24, 25, 26, 27, 28, 29, 15, 16, 17, 18, 19, 20, 21] [1, 2, 7, 8, 9, 10, 11, 12] [8, 0, 1, 9, 10, 11, 12, 2, 3, 4, 5, 6, 7, 15, 16, 23, 24, 25, 26, 27, 28, 29, 13, 14, 17, 18, 19, 20, 21, 22] rfl rfl (by decide +kernel) (by decide +kernel) (by decide +kernel) (by decide +kernel) ?_
  intro r u hu
  obtain ⟨o_al1, o_ah1, o_xl1, o_xh1, o_pf1, o_pg1, o_sl1, o_sh1, o_pl1, o_ph1, o_KL1, o_KH1, o_QL1, o_QH1, o_KT1, o_KS1, o_X1, o_tim1, o_shf1, o_clm1, o_tri1, o_rfd1, o_bxs1, o_crg1, o_lsg1, o_lbx1, o_lo1, o_hi1, o_be1, o_thr1⟩ := u
  have hu : RM P.ns (stF P od hz co n A).1 o_tim1 o_shf1 o_clm1 o_tri1 o_rfd1 o_xl1 o_xh1 o_KL1 o_KH1 o_QL1 o_QH1 o_KT1 o_KS1 o_X1 o_bxs1 o_crg1 o_lsg1 o_lbx1 ∧ o_thr1 = (stF P od hz co n A).2.1 ∧ r = (stF P od hz co n A).2.2 := hu
  obtain ⟨q1, q2, q3⟩ := hu
  subst q2
  exact ⟨_, ⟨(q3), fun C9 k9 => k9 att wrg ns crs nws nwc o_tim1 o_shf1 o_clm1 o_rfd1 o_tri1 o_bxs1 o_lsg1 o_lbx1 o_crg1 o_lo1 o_hi1 o_be1 ma fp mn fl fh pw NM NL NH NP sL sH o_xl1 o_xh1 o_KL1 o_KH1 o_QL1 o_QH1 o_KT1 o_KS1 o_X1 o_al1 o_ah1 o_pf1 o_pg1 o_sl1 o_sh1 o_pl1 o_ph1 rfl (hpc) (q1) (hfi)⟩, rfl⟩

set_option maxHeartbeats 4000000 in
set_option maxRecDepth 100000 in
theorem k_M_boxBad {l : Launch} {D : va_G} {cJ cI cB cY : ClassId} {P : PB} {A : AS} {od hz co : Nat} {sl sh : Nat → Int64} {ln : Nat} {tb : Nat → Nat} {flt thn : Int32} {mo : Nat} {w9 : va_W} (i v w : Int32) (hok : P.ok) (hnb : A.h.bxs < 2 ^ 30) (hb : bxBad i A.h.bxs ∨ hbf P.ns v w = nI 0) (h9 : MR cJ cI cB cY P A od hz co sl sh ln tb flt thn mo w9) :
    bo_i (S := va_W) l D bo_cl (bo_ty cJ cI cB cY) yy_M_box (bo_w yy_M_box bb_M_box 7 (some .int)) (bo_rm 0 0) [.ref mo, .int i, .int v, .int w] w9 (fun r w1 => r = nI 0 ∧ MR cJ cI cB cY P A od hz co sl sh ln tb flt (nI 1) mo w1) id := by
  refine h9 _ ?_
  intro att wrg ns crs nws nwc tim shf clm rfd tri bxs lsg lbx crg lo hi be ma fp mn fl fh pw NM NL NH NP sL sH xl xh KL KH QL QH KT KS XX al ah pf pg msl msh mpl mph e9 hpc hrc hfi
  subst e9
  refine bo_fr_i (wr := [(ma 0, .inl (cI, 240, .inl (fun i => nI (tb i)))), (ma 1, .inl (cI, 3, .inl fp)), (ma 2, .inl (cI, 4, .inl (fun i => nI (mn i)))), (ma 3, .inl (cJ, 48, .inr (.inl fl))), (ma 4, .inl (cJ, 48, .inr (.inl fh))), (ma 5, .inl (cI, 144, .inl (fun i => nI (pw i)))), (ma 6, .inl (cI, 4, .inl NM)), (ma 7, .inl (cJ, 48, .inr (.inl NL))), (ma 8, .inl (cJ, 48, .inr (.inl NH))), (ma 9, .inl (cI, 144, .inl NP)), (ma 10, .inl (cJ, 3, .inr (.inl sL))), (ma 11, .inl (cJ, 3, .inr (.inl sH))), (ma 12, .inl (cJ, 3, .inr (.inl xl))), (ma 13, .inl (cJ, 3, .inr (.inl xh))), (ma 20, .inl (cI, 300, .inl XX)), (ma 21, .inl (cJ, 3, .inr (.inl al))), (ma 22, .inl (cJ, 3, .inr (.inl ah))), (ma 23, .inl (cJ, 3, .inr (.inl pf))), (ma 24, .inl (cJ, 3, .inr (.inl pg))), (ma 25, .inl (cJ, 60, .inr (.inl msl))), (ma 26, .inl (cJ, 60, .inr (.inl msh))), (ma 27, .inl (cJ, 2520, .inr (.inl mpl))), (ma 28, .inl (cJ, 2520, .inr (.inl mph)))]) (c_M_box mo ma thn (nI ln) (nI att) wrg flt ns crs nws nwc (nI od) (nI hz) (nI co) (nI tim) (nI shf) (nI clm) rfd (nI tri) bxs lsg lbx crg lo hi be KL KH QL QH KT KS i v w (by rw [hpc.1]; exact hok.1) (by rw [hrc.2.2.1.1]; exact hnb)) [0, 15, 16, 17, 18, 19, 20] [1, 2, 3, 4, 5, 6, 7, 8, 9, 10, 11, 12, 13, 14, 21, 22, 23, 24, 25, 26, 27, 28, 29] [23, 0, 1, 2, 3, 4, 5, 6, 7, 8, 9, 10, 11, 12, 13, 24, 25, 26, 27, 28, 29, 14, 15, 16, 17, 18, 19, 20, 21, 22] rfl rfl (by decide +kernel) (by decide +kernel) (by decide +kernel) (by decide +kernel) ?_
  intro r u hu
  obtain ⟨o_thr1, rfl⟩ : ∃ z, z = u := ⟨_, rfl⟩
  have hu : ((bxBad i bxs ∨ hbf ns v w = nI 0) → o_thr1 = nI 1 ∧ r = nI 0) ∧ (¬ (bxBad i bxs ∨ hbf ns v w = nI 0) → o_thr1 = nI 0 ∧ r = bxR KL KH QL QH KT KS i.toNatClampNeg v w) := hu
  obtain ⟨q1, q2⟩ := hu.1 (by rw [hrc.2.2.1.1, hpc.1]; exact hb)
  subst q1
  exact ⟨_, ⟨(q2), fun C9 k9 => k9 att wrg ns crs nws nwc tim shf clm rfd tri bxs lsg lbx crg lo hi be ma fp mn fl fh pw NM NL NH NP sL sH xl xh KL KH QL QH KT KS XX al ah pf pg msl msh mpl mph rfl (hpc) (hrc) (hfi)⟩, rfl⟩

set_option maxHeartbeats 4000000 in
set_option maxRecDepth 100000 in
theorem k_M_boxOk {l : Launch} {D : va_G} {cJ cI cB cY : ClassId} {P : PB} {A : AS} {od hz co : Nat} {sl sh : Nat → Int64} {ln : Nat} {tb : Nat → Nat} {flt thn : Int32} {mo : Nat} {w9 : va_W} (i v w : Int32) (hok : P.ok) (hnb : A.h.bxs < 2 ^ 30) (hb : ¬ (bxBad i A.h.bxs ∨ hbf P.ns v w = nI 0)) (h9 : MR cJ cI cB cY P A od hz co sl sh ln tb flt thn mo w9) :
    bo_i (S := va_W) l D bo_cl (bo_ty cJ cI cB cY) yy_M_box (bo_w yy_M_box bb_M_box 7 (some .int)) (bo_rm 0 0) [.ref mo, .int i, .int v, .int w] w9 (fun r w1 => r = bxR A.h.KL A.h.KH A.h.QL A.h.QH A.h.KT A.h.KS i.toNatClampNeg v w ∧ MR cJ cI cB cY P A od hz co sl sh ln tb flt (nI 0) mo w1) id := by
  refine h9 _ ?_
  intro att wrg ns crs nws nwc tim shf clm rfd tri bxs lsg lbx crg lo hi be ma fp mn fl fh pw NM NL NH NP sL sH xl xh KL KH QL QH KT KS XX al ah pf pg msl msh mpl mph e9 hpc hrc hfi
  subst e9
  refine bo_fr_i (wr := [(ma 0, .inl (cI, 240, .inl (fun i => nI (tb i)))), (ma 1, .inl (cI, 3, .inl fp)), (ma 2, .inl (cI, 4, .inl (fun i => nI (mn i)))), (ma 3, .inl (cJ, 48, .inr (.inl fl))), (ma 4, .inl (cJ, 48, .inr (.inl fh))), (ma 5, .inl (cI, 144, .inl (fun i => nI (pw i)))), (ma 6, .inl (cI, 4, .inl NM)), (ma 7, .inl (cJ, 48, .inr (.inl NL))), (ma 8, .inl (cJ, 48, .inr (.inl NH))), (ma 9, .inl (cI, 144, .inl NP)), (ma 10, .inl (cJ, 3, .inr (.inl sL))), (ma 11, .inl (cJ, 3, .inr (.inl sH))), (ma 12, .inl (cJ, 3, .inr (.inl xl))), (ma 13, .inl (cJ, 3, .inr (.inl xh))), (ma 20, .inl (cI, 300, .inl XX)), (ma 21, .inl (cJ, 3, .inr (.inl al))), (ma 22, .inl (cJ, 3, .inr (.inl ah))), (ma 23, .inl (cJ, 3, .inr (.inl pf))), (ma 24, .inl (cJ, 3, .inr (.inl pg))), (ma 25, .inl (cJ, 60, .inr (.inl msl))), (ma 26, .inl (cJ, 60, .inr (.inl msh))), (ma 27, .inl (cJ, 2520, .inr (.inl mpl))), (ma 28, .inl (cJ, 2520, .inr (.inl mph)))]) (c_M_box mo ma thn (nI ln) (nI att) wrg flt ns crs nws nwc (nI od) (nI hz) (nI co) (nI tim) (nI shf) (nI clm) rfd (nI tri) bxs lsg lbx crg lo hi be KL KH QL QH KT KS i v w (by rw [hpc.1]; exact hok.1) (by rw [hrc.2.2.1.1]; exact hnb)) [0, 15, 16, 17, 18, 19, 20] [1, 2, 3, 4, 5, 6, 7, 8, 9, 10, 11, 12, 13, 14, 21, 22, 23, 24, 25, 26, 27, 28, 29] [23, 0, 1, 2, 3, 4, 5, 6, 7, 8, 9, 10, 11, 12, 13, 24, 25, 26, 27, 28, 29, 14, 15, 16, 17, 18, 19, 20, 21, 22] rfl rfl (by decide +kernel) (by decide +kernel) (by decide +kernel) (by decide +kernel) ?_
  intro r u hu
  obtain ⟨o_thr1, rfl⟩ : ∃ z, z = u := ⟨_, rfl⟩
  have hu : ((bxBad i bxs ∨ hbf ns v w = nI 0) → o_thr1 = nI 1 ∧ r = nI 0) ∧ (¬ (bxBad i bxs ∨ hbf ns v w = nI 0) → o_thr1 = nI 0 ∧ r = bxR KL KH QL QH KT KS i.toNatClampNeg v w) := hu
  obtain ⟨q1, q2⟩ := hu.2 (by rw [hrc.2.2.1.1, hpc.1]; exact hb)
  subst q1
  exact ⟨_, ⟨(q2.trans (bx_M hrc.2.2.2 hok.1 (by rw [hrc.2.2.1.1]; exact hnb) (by rw [hrc.2.2.1.1]; exact hb))), fun C9 k9 => k9 att wrg ns crs nws nwc tim shf clm rfd tri bxs lsg lbx crg lo hi be ma fp mn fl fh pw NM NL NH NP sL sH xl xh KL KH QL QH KT KS XX al ah pf pg msl msh mpl mph rfl (hpc) (hrc) (hfi)⟩, rfl⟩

set_option maxHeartbeats 4000000 in
set_option maxRecDepth 100000 in
theorem k_M_crossingBad {l : Launch} {D : va_G} {cJ cI cB cY : ClassId} {P : PB} {A : AS} {od hz co : Nat} {sl sh : Nat → Int64} {ln : Nat} {tb : Nat → Nat} {flt thn : Int32} {mo : Nat} {w9 : va_W} (i w : Int32) (hnc : A.h.crg < 2 ^ 30) (hb : xgBad i A.h.crg 100 w 3) (h9 : MR cJ cI cB cY P A od hz co sl sh ln tb flt thn mo w9) :
    bo_i (S := va_W) l D bo_cl (bo_ty cJ cI cB cY) yy_M_crossing (bo_w yy_M_crossing bb_M_crossing 3 (some .int)) (bo_rm 0 0) [.ref mo, .int i, .int w] w9 (fun r w1 => r = nI 0 ∧ MR cJ cI cB cY P A od hz co sl sh ln tb flt (nI 1) mo w1) id := by
  refine h9 _ ?_
  intro att wrg ns crs nws nwc tim shf clm rfd tri bxs lsg lbx crg lo hi be ma fp mn fl fh pw NM NL NH NP sL sH xl xh KL KH QL QH KT KS XX al ah pf pg msl msh mpl mph e9 hpc hrc hfi
  subst e9
  refine bo_fr_i (wr := [(ma 0, .inl (cI, 240, .inl (fun i => nI (tb i)))), (ma 1, .inl (cI, 3, .inl fp)), (ma 2, .inl (cI, 4, .inl (fun i => nI (mn i)))), (ma 3, .inl (cJ, 48, .inr (.inl fl))), (ma 4, .inl (cJ, 48, .inr (.inl fh))), (ma 5, .inl (cI, 144, .inl (fun i => nI (pw i)))), (ma 6, .inl (cI, 4, .inl NM)), (ma 7, .inl (cJ, 48, .inr (.inl NL))), (ma 8, .inl (cJ, 48, .inr (.inl NH))), (ma 9, .inl (cI, 144, .inl NP)), (ma 10, .inl (cJ, 3, .inr (.inl sL))), (ma 11, .inl (cJ, 3, .inr (.inl sH))), (ma 12, .inl (cJ, 3, .inr (.inl xl))), (ma 13, .inl (cJ, 3, .inr (.inl xh))), (ma 14, .inl (cI, 1200, .inl KL)), (ma 15, .inl (cI, 1200, .inl KH)), (ma 16, .inl (cI, 1200, .inl QL)), (ma 17, .inl (cI, 1200, .inl QH)), (ma 18, .inl (cI, 400, .inl KT)), (ma 19, .inl (cI, 400, .inl KS)), (ma 21, .inl (cJ, 3, .inr (.inl al))), (ma 22, .inl (cJ, 3, .inr (.inl ah))), (ma 23, .inl (cJ, 3, .inr (.inl pf))), (ma 24, .inl (cJ, 3, .inr (.inl pg))), (ma 25, .inl (cJ, 60, .inr (.inl msl))), (ma 26, .inl (cJ, 60, .inr (.inl msh))), (ma 27, .inl (cJ, 2520, .inr (.inl mpl))), (ma 28, .inl (cJ, 2520, .inr (.inl mph)))]) (c_M_crossing mo ma thn (nI ln) (nI att) wrg flt ns crs nws nwc (nI od) (nI hz) (nI co) (nI tim) (nI shf) (nI clm) rfd (nI tri) bxs lsg lbx crg lo hi be XX i w (by rw [hrc.2.2.1.2.1]; exact hnc)) [0, 21] [1, 2, 3, 4, 5, 6, 7, 8, 9, 10, 11, 12, 13, 14, 15, 16, 17, 18, 19, 20, 22, 23, 24, 25, 26, 27, 28, 29] [28, 0, 1, 2, 3, 4, 5, 6, 7, 8, 9, 10, 11, 12, 13, 14, 15, 16, 17, 18, 19, 29, 20, 21, 22, 23, 24, 25, 26, 27] rfl rfl (by decide +kernel) (by decide +kernel) (by decide +kernel) (by decide +kernel) ?_
  intro r u hu
  obtain ⟨o_thr1, rfl⟩ : ∃ z, z = u := ⟨_, rfl⟩
  have hu : (xgBad i crg 100 w 3 → o_thr1 = nI 1 ∧ r = nI 0) ∧ (¬ xgBad i crg 100 w 3 → o_thr1 = nI 0 ∧ r = XX (3 * i.toNatClampNeg + w.toNatClampNeg)) := hu
  obtain ⟨q1, q2⟩ := hu.1 (by rw [hrc.2.2.1.2.1]; exact hb)
  subst q1
  exact ⟨_, ⟨(q2), fun C9 k9 => k9 att wrg ns crs nws nwc tim shf clm rfd tri bxs lsg lbx crg lo hi be ma fp mn fl fh pw NM NL NH NP sL sH xl xh KL KH QL QH KT KS XX al ah pf pg msl msh mpl mph rfl (hpc) (hrc) (hfi)⟩, rfl⟩

set_option maxHeartbeats 4000000 in
set_option maxRecDepth 100000 in
theorem k_M_crossingOk {l : Launch} {D : va_G} {cJ cI cB cY : ClassId} {P : PB} {A : AS} {od hz co : Nat} {sl sh : Nat → Int64} {ln : Nat} {tb : Nat → Nat} {flt thn : Int32} {mo : Nat} {w9 : va_W} (i w : Nat) (hnc : A.h.crg < 2 ^ 30) (hi0 : i < A.h.crg) (hi1 : i < 100) (hw : w < 3) (hb : ¬ xgBad (nI i) A.h.crg 100 (nI w) 3) (h9 : MR cJ cI cB cY P A od hz co sl sh ln tb flt thn mo w9) :
    bo_i (S := va_W) l D bo_cl (bo_ty cJ cI cB cY) yy_M_crossing (bo_w yy_M_crossing bb_M_crossing 3 (some .int)) (bo_rm 0 0) [.ref mo, .int (nI i), .int (nI w)] w9 (fun r w1 => r = A.h.X (i * 3 + w) ∧ MR cJ cI cB cY P A od hz co sl sh ln tb flt (nI 0) mo w1) id := by
  refine h9 _ ?_
  intro att wrg ns crs nws nwc tim shf clm rfd tri bxs lsg lbx crg lo hi be ma fp mn fl fh pw NM NL NH NP sL sH xl xh KL KH QL QH KT KS XX al ah pf pg msl msh mpl mph e9 hpc hrc hfi
  subst e9
  refine bo_fr_i (wr := [(ma 0, .inl (cI, 240, .inl (fun i => nI (tb i)))), (ma 1, .inl (cI, 3, .inl fp)), (ma 2, .inl (cI, 4, .inl (fun i => nI (mn i)))), (ma 3, .inl (cJ, 48, .inr (.inl fl))), (ma 4, .inl (cJ, 48, .inr (.inl fh))), (ma 5, .inl (cI, 144, .inl (fun i => nI (pw i)))), (ma 6, .inl (cI, 4, .inl NM)), (ma 7, .inl (cJ, 48, .inr (.inl NL))), (ma 8, .inl (cJ, 48, .inr (.inl NH))), (ma 9, .inl (cI, 144, .inl NP)), (ma 10, .inl (cJ, 3, .inr (.inl sL))), (ma 11, .inl (cJ, 3, .inr (.inl sH))), (ma 12, .inl (cJ, 3, .inr (.inl xl))), (ma 13, .inl (cJ, 3, .inr (.inl xh))), (ma 14, .inl (cI, 1200, .inl KL)), (ma 15, .inl (cI, 1200, .inl KH)), (ma 16, .inl (cI, 1200, .inl QL)), (ma 17, .inl (cI, 1200, .inl QH)), (ma 18, .inl (cI, 400, .inl KT)), (ma 19, .inl (cI, 400, .inl KS)), (ma 21, .inl (cJ, 3, .inr (.inl al))), (ma 22, .inl (cJ, 3, .inr (.inl ah))), (ma 23, .inl (cJ, 3, .inr (.inl pf))), (ma 24, .inl (cJ, 3, .inr (.inl pg))), (ma 25, .inl (cJ, 60, .inr (.inl msl))), (ma 26, .inl (cJ, 60, .inr (.inl msh))), (ma 27, .inl (cJ, 2520, .inr (.inl mpl))), (ma 28, .inl (cJ, 2520, .inr (.inl mph)))]) (c_M_crossing mo ma thn (nI ln) (nI att) wrg flt ns crs nws nwc (nI od) (nI hz) (nI co) (nI tim) (nI shf) (nI clm) rfd (nI tri) bxs lsg lbx crg lo hi be XX (nI i) (nI w) (by rw [hrc.2.2.1.2.1]; exact hnc)) [0, 21] [1, 2, 3, 4, 5, 6, 7, 8, 9, 10, 11, 12, 13, 14, 15, 16, 17, 18, 19, 20, 22, 23, 24, 25, 26, 27, 28, 29] [28, 0, 1, 2, 3, 4, 5, 6, 7, 8, 9, 10, 11, 12, 13, 14, 15, 16, 17, 18, 19, 29, 20, 21, 22, 23, 24, 25, 26, 27] rfl rfl (by decide +kernel) (by decide +kernel) (by decide +kernel) (by decide +kernel) ?_
  intro r u hu
  obtain ⟨o_thr1, rfl⟩ : ∃ z, z = u := ⟨_, rfl⟩
  have hu : (xgBad (nI i) crg 100 (nI w) 3 → o_thr1 = nI 1 ∧ r = nI 0) ∧ (¬ xgBad (nI i) crg 100 (nI w) 3 → o_thr1 = nI 0 ∧ r = XX (3 * (nI i).toNatClampNeg + (nI w).toNatClampNeg)) := hu
  obtain ⟨q1, q2⟩ := hu.2 (by rw [hrc.2.2.1.2.1]; exact hb)
  subst q1
  rw [nI_clamp (by omega), nI_clamp (by omega), Nat.mul_comm 3 i] at q2
  exact ⟨_, ⟨(q2.trans (hrc.2.2.1.2.2.2.2.1 i w (by rw [hrc.2.2.1.2.1]; exact hi0) hi1 hw)), fun C9 k9 => k9 att wrg ns crs nws nwc tim shf clm rfd tri bxs lsg lbx crg lo hi be ma fp mn fl fh pw NM NL NH NP sL sH xl xh KL KH QL QH KT KS XX al ah pf pg msl msh mpl mph rfl (hpc) (hrc) (hfi)⟩, rfl⟩

set_option maxHeartbeats 4000000 in
set_option maxRecDepth 100000 in
theorem k_M_coefBad {l : Launch} {D : va_G} {cJ cI cB cY : ClassId} {P : PB} {A : AS} {od hz co : Nat} {sl sh : Nat → Int64} {ln : Nat} {tb : Nat → Nat} {flt thn : Int32} {mo : Nat} {w9 : va_W} (v k hg : Int32) (hb9 : cfBad v P.ns k) (h9 : MR cJ cI cB cY P A od hz co sl sh ln tb flt thn mo w9) :
    bo_i (S := va_W) l D bo_cl (bo_ty cJ cI cB cY) yy_M_coefficient (bo_w yy_M_coefficient bb_M_coefficient 4 (some .int)) (bo_rm 6 168) [.ref mo, .int v, .int k, .int hg] w9 (fun r w1 => r = nI 0 ∧ MR cJ cI cB cY P A od hz co sl sh ln tb flt (nI 1) mo w1) id := by
  refine h9 _ ?_
  intro att wrg ns crs nws nwc tim shf clm rfd tri bxs lsg lbx crg lo hi be ma fp mn fl fh pw NM NL NH NP sL sH xl xh KL KH QL QH KT KS XX al ah pf pg msl msh mpl mph e9 hpc hrc hfi
  subst e9
  refine bo_fr_i (wr := [(ma 0, .inl (cI, 240, .inl (fun i => nI (tb i)))), (ma 1, .inl (cI, 3, .inl fp)), (ma 6, .inl (cI, 4, .inl NM)), (ma 7, .inl (cJ, 48, .inr (.inl NL))), (ma 8, .inl (cJ, 48, .inr (.inl NH))), (ma 9, .inl (cI, 144, .inl NP)), (ma 10, .inl (cJ, 3, .inr (.inl sL))), (ma 11, .inl (cJ, 3, .inr (.inl sH))), (ma 14, .inl (cI, 1200, .inl KL)), (ma 15, .inl (cI, 1200, .inl KH)), (ma 16, .inl (cI, 1200, .inl QL)), (ma 17, .inl (cI, 1200, .inl QH)), (ma 18, .inl (cI, 400, .inl KT)), (ma 19, .inl (cI, 400, .inl KS)), (ma 20, .inl (cI, 300, .inl XX)), (ma 21, .inl (cJ, 3, .inr (.inl al))), (ma 22, .inl (cJ, 3, .inr (.inl ah)))]) (c_M_coefficient mo ma thn (nI ln) (nI att) wrg flt ns crs nws nwc (nI od) (nI hz) (nI co) (nI tim) (nI shf) (nI clm) rfd (nI tri) (nI bxs) lsg lbx (nI crg) lo hi be mn fl fh pw xl xh pf pg msl msh mpl mph v k hg (by rw [hpc.1]; exact hpc.2.2.1)) [0, 3, 4, 5, 6, 13, 14, 24, 25, 26, 27, 28, 29] [1, 2, 7, 8, 9, 10, 11, 12, 15, 16, 17, 18, 19, 20, 21, 22, 23] [17, 0, 1, 18, 19, 20, 21, 2, 3, 4, 5, 6, 7, 22, 23, 8, 9, 10, 11, 12, 13, 14, 15, 16, 24, 25, 26, 27, 28, 29] rfl rfl (by decide +kernel) (by decide +kernel) (by decide +kernel) (by decide +kernel) ?_
  intro r u hu
  obtain ⟨o_thr1, o_sl1, o_sh1, o_pl1, o_ph1, o_lo1, o_hi1, o_be1⟩ := u
  have hu : (cfBad v ns k → o_thr1 = nI 1 ∧ r = nI 0 ∧ o_be1 = be) ∧ (¬ cfBad v ns k → (o_sl1, o_sh1, o_pl1, o_ph1, o_be1) = mcS mn fl fh pw ns k.toNatClampNeg xl xh pf pg msl msh mpl mph ∧ (¬ o_be1 = 0 → o_thr1 = nI 2 ∧ r = nI 0) ∧ (o_be1 = 0 → o_thr1 = nI 0 ∧ r = (if hg = 0 then o_sl1 (10 * v.toNatClampNeg + k.toNatClampNeg) else o_sh1 (10 * v.toNatClampNeg + k.toNatClampNeg)).toInt32)) := hu
  obtain ⟨q1, q2, -⟩ := hu.1 (by rw [hpc.1]; exact hb9)
  subst q1
  exact ⟨_, ⟨(q2), fun C9 k9 => k9 att wrg ns crs nws nwc tim shf clm rfd tri bxs lsg lbx crg o_lo1 o_hi1 o_be1 ma fp mn fl fh pw NM NL NH NP sL sH xl xh KL KH QL QH KT KS XX al ah pf pg o_sl1 o_sh1 o_pl1 o_ph1 rfl (hpc) (hrc) (hfi)⟩, rfl⟩

set_option maxHeartbeats 4000000 in
set_option maxRecDepth 100000 in
theorem k_M_coefARE {l : Launch} {D : va_G} {cJ cI cB cY : ClassId} {P : PB} {A : AS} {od hz co : Nat} {sl sh : Nat → Int64} {ln : Nat} {tb : Nat → Nat} {flt thn : Int32} {mo : Nat} {w9 : va_W} (v k : Nat) (hg : Int32) (hok : P.ok) (hv : v < P.ns) (hk : k < 10) (hb9 : ¬ cfBad (nI v) P.ns (nI k)) (hbe : ¬ (cfB P A k).2.2.2.2 = 0) (h9 : MR cJ cI cB cY P A od hz co sl sh ln tb flt thn mo w9) :
    bo_i (S := va_W) l D bo_cl (bo_ty cJ cI cB cY) yy_M_coefficient (bo_w yy_M_coefficient bb_M_coefficient 4 (some .int)) (bo_rm 6 168) [.ref mo, .int (nI v), .int (nI k), .int hg] w9 (fun r w1 => r = nI 0 ∧ MR cJ cI cB cY P A od hz co sl sh ln tb flt (nI 2) mo w1) id := by
  refine h9 _ ?_
  intro att wrg ns crs nws nwc tim shf clm rfd tri bxs lsg lbx crg lo hi be ma fp mn fl fh pw NM NL NH NP sL sH xl xh KL KH QL QH KT KS XX al ah pf pg msl msh mpl mph e9 hpc hrc hfi
  subst e9
  refine bo_fr_i (wr := [(ma 0, .inl (cI, 240, .inl (fun i => nI (tb i)))), (ma 1, .inl (cI, 3, .inl fp)), (ma 6, .inl (cI, 4, .inl NM)), (ma 7, .inl (cJ, 48, .inr (.inl NL))), (ma 8, .inl (cJ, 48, .inr (.inl NH))), (ma 9, .inl (cI, 144, .inl NP)), (ma 10, .inl (cJ, 3, .inr (.inl sL))), (ma 11, .inl (cJ, 3, .inr (.inl sH))), (ma 14, .inl (cI, 1200, .inl KL)), (ma 15, .inl (cI, 1200, .inl KH)), (ma 16, .inl (cI, 1200, .inl QL)), (ma 17, .inl (cI, 1200, .inl QH)), (ma 18, .inl (cI, 400, .inl KT)), (ma 19, .inl (cI, 400, .inl KS)), (ma 20, .inl (cI, 300, .inl XX)), (ma 21, .inl (cJ, 3, .inr (.inl al))), (ma 22, .inl (cJ, 3, .inr (.inl ah)))]) (c_M_coefficient mo ma thn (nI ln) (nI att) wrg flt ns crs nws nwc (nI od) (nI hz) (nI co) (nI tim) (nI shf) (nI clm) rfd (nI tri) (nI bxs) lsg lbx (nI crg) lo hi be mn fl fh pw xl xh pf pg msl msh mpl mph (nI v) (nI k) hg (by rw [hpc.1]; exact hpc.2.2.1)) [0, 3, 4, 5, 6, 13, 14, 24, 25, 26, 27, 28, 29] [1, 2, 7, 8, 9, 10, 11, 12, 15, 16, 17, 18, 19, 20, 21, 22, 23] [17, 0, 1, 18, 19, 20, 21, 2, 3, 4, 5, 6, 7, 22, 23, 8, 9, 10, 11, 12, 13, 14, 15, 16, 24, 25, 26, 27, 28, 29] rfl rfl (by decide +kernel) (by decide +kernel) (by decide +kernel) (by decide +kernel) ?_
  intro r u hu
  obtain ⟨o_thr1, o_sl1, o_sh1, o_pl1, o_ph1, o_lo1, o_hi1, o_be1⟩ := u
  have hu : (cfBad (nI v) ns (nI k) → o_thr1 = nI 1 ∧ r = nI 0 ∧ o_be1 = be) ∧ (¬ cfBad (nI v) ns (nI k) → (o_sl1, o_sh1, o_pl1, o_ph1, o_be1) = mcS mn fl fh pw ns (nI k).toNatClampNeg xl xh pf pg msl msh mpl mph ∧ (¬ o_be1 = 0 → o_thr1 = nI 2 ∧ r = nI 0) ∧ (o_be1 = 0 → o_thr1 = nI 0 ∧ r = (if hg = 0 then o_sl1 (10 * (nI v).toNatClampNeg + (nI k).toNatClampNeg) else o_sh1 (10 * (nI v).toNatClampNeg + (nI k).toNatClampNeg)).toInt32)) := hu
  have q8 := hu.2 (by rw [hpc.1]; exact hb9)
  rw [nI_clamp (show v < 2 ^ 31 by have := hok.1; omega), nI_clamp (show k < 2 ^ 31 by omega)] at q8
  obtain ⟨q1, q2, q3⟩ := q8
  have q9 := cfM hok hpc hrc.2.1 hk q1
  obtain ⟨q4, q5⟩ := q2 (fun z => hbe (q9.1.mp z))
  subst q4
  exact ⟨_, ⟨(q5), fun C9 k9 => k9 att wrg ns crs nws nwc tim shf clm rfd tri bxs lsg lbx crg o_lo1 o_hi1 o_be1 ma fp mn fl fh pw NM NL NH NP sL sH xl xh KL KH QL QH KT KS XX al ah pf pg o_sl1 o_sh1 o_pl1 o_ph1 rfl (hpc) (hrc) (hfi)⟩, rfl⟩

set_option maxHeartbeats 4000000 in
set_option maxRecDepth 100000 in
theorem k_M_coefOk {l : Launch} {D : va_G} {cJ cI cB cY : ClassId} {P : PB} {A : AS} {od hz co : Nat} {sl sh : Nat → Int64} {ln : Nat} {tb : Nat → Nat} {flt thn : Int32} {mo : Nat} {w9 : va_W} (v k : Nat) (hg : Int32) (hok : P.ok) (hv : v < P.ns) (hk : k < 10) (hb9 : ¬ cfBad (nI v) P.ns (nI k)) (hbe : (cfB P A k).2.2.2.2 = 0) (h9 : MR cJ cI cB cY P A od hz co sl sh ln tb flt thn mo w9) :
    bo_i (S := va_W) l D bo_cl (bo_ty cJ cI cB cY) yy_M_coefficient (bo_w yy_M_coefficient bb_M_coefficient 4 (some .int)) (bo_rm 6 168) [.ref mo, .int (nI v), .int (nI k), .int hg] w9 (fun r w1 => r = (if hg = 0 then (cfB P A k).1 (10 * v + k) else (cfB P A k).2.1 (10 * v + k)).toInt32 ∧ MR cJ cI cB cY P A od hz co sl sh ln tb flt (nI 0) mo w1) id := by
  refine h9 _ ?_
  intro att wrg ns crs nws nwc tim shf clm rfd tri bxs lsg lbx crg lo hi be ma fp mn fl fh pw NM NL NH NP sL sH xl xh KL KH QL QH KT KS XX al ah pf pg msl msh mpl mph e9 hpc hrc hfi
  subst e9
  refine bo_fr_i (wr := [(ma 0, .inl (cI, 240, .inl (fun i => nI (tb i)))), (ma 1, .inl (cI, 3, .inl fp)), (ma 6, .inl (cI, 4, .inl NM)), (ma 7, .inl (cJ, 48, .inr (.inl NL))), (ma 8, .inl (cJ, 48, .inr (.inl NH))), (ma 9, .inl (cI, 144, .inl NP)), (ma 10, .inl (cJ, 3, .inr (.inl sL))), (ma 11, .inl (cJ, 3, .inr (.inl sH))), (ma 14, .inl (cI, 1200, .inl KL)), (ma 15, .inl (cI, 1200, .inl KH)), (ma 16, .inl (cI, 1200, .inl QL)), (ma 17, .inl (cI, 1200, .inl QH)), (ma 18, .inl (cI, 400, .inl KT)), (ma 19, .inl (cI, 400, .inl KS)), (ma 20, .inl (cI, 300, .inl XX)), (ma 21, .inl (cJ, 3, .inr (.inl al))), (ma 22, .inl (cJ, 3, .inr (.inl ah)))]) (c_M_coefficient mo ma thn (nI ln) (nI att) wrg flt ns crs nws nwc (nI od) (nI hz) (nI co) (nI tim) (nI shf) (nI clm) rfd (nI tri) (nI bxs) lsg lbx (nI crg) lo hi be mn fl fh pw xl xh pf pg msl msh mpl mph (nI v) (nI k) hg (by rw [hpc.1]; exact hpc.2.2.1)) [0, 3, 4, 5, 6, 13, 14, 24, 25, 26, 27, 28, 29] [1, 2, 7, 8, 9, 10, 11, 12, 15, 16, 17, 18, 19, 20, 21, 22, 23] [17, 0, 1, 18, 19, 20, 21, 2, 3, 4, 5, 6, 7, 22, 23, 8, 9, 10, 11, 12, 13, 14, 15, 16, 24, 25, 26, 27, 28, 29] rfl rfl (by decide +kernel) (by decide +kernel) (by decide +kernel) (by decide +kernel) ?_
  intro r u hu
  obtain ⟨o_thr1, o_sl1, o_sh1, o_pl1, o_ph1, o_lo1, o_hi1, o_be1⟩ := u
  have hu : (cfBad (nI v) ns (nI k) → o_thr1 = nI 1 ∧ r = nI 0 ∧ o_be1 = be) ∧ (¬ cfBad (nI v) ns (nI k) → (o_sl1, o_sh1, o_pl1, o_ph1, o_be1) = mcS mn fl fh pw ns (nI k).toNatClampNeg xl xh pf pg msl msh mpl mph ∧ (¬ o_be1 = 0 → o_thr1 = nI 2 ∧ r = nI 0) ∧ (o_be1 = 0 → o_thr1 = nI 0 ∧ r = (if hg = 0 then o_sl1 (10 * (nI v).toNatClampNeg + (nI k).toNatClampNeg) else o_sh1 (10 * (nI v).toNatClampNeg + (nI k).toNatClampNeg)).toInt32)) := hu
  have q8 := hu.2 (by rw [hpc.1]; exact hb9)
  rw [nI_clamp (show v < 2 ^ 31 by have := hok.1; omega), nI_clamp (show k < 2 ^ 31 by omega)] at q8
  obtain ⟨q1, q2, q3⟩ := q8
  have q9 := cfM hok hpc hrc.2.1 hk q1
  obtain ⟨q4, q5⟩ := q3 (q9.1.mpr hbe)
  subst q4
  have q7 := q9.2 (q9.1.mpr hbe) v hv
  dsimp only at q7
  have hr : r = (if hg = 0 then (cfB P A k).1 (10 * v + k) else (cfB P A k).2.1 (10 * v + k)).toInt32 := by rw [q5, q7.1, q7.2]
  exact ⟨_, ⟨(hr), fun C9 k9 => k9 att wrg ns crs nws nwc tim shf clm rfd tri bxs lsg lbx crg o_lo1 o_hi1 o_be1 ma fp mn fl fh pw NM NL NH NP sL sH xl xh KL KH QL QH KT KS XX al ah pf pg o_sl1 o_sh1 o_pl1 o_ph1 rfl (hpc) (hrc) (hfi)⟩, rfl⟩
