/-! contracts over larger worlds, in another order -/
section FRM
variable {l : Launch} {D : va_G} {cl : List vw_C} {tys : List (ClassId × FieldType)} {y : MethodName} {ws : List Cond} {rm : Room} {av : List Value} {W0 X wr : va_W} {S S' : Type}
theorem bo_fr_at {w1 : va_W} {st t : State} (hP : va_P D cl X st.heap) (hD0 : va_D (fun _ => True) X) (isC isR : List Nat) (hC : isC.map (fun i => X[i]?) = W0.map some) (hR : isR.map (fun i => X[i]?) = wr.map some) (hnR : va_nd isR = true) (hdis : ∀ i ∈ isR, i ∉ isC)
    (hF : va_F (va_A W0 st.heap.size) st t) (h1 : bo_at D cl tys (va_A W0 st.heap.size) w1 t) : bo_at D cl tys (va_A X st.heap.size) (wr ++ w1) t ∧ va_F (va_A X st.heap.size) st t := by
  have hD := hD0.self (sz := st.heap.size)
  have hfr := va_free (wc := W0) hD (va_S.rf (A := va_A X st.heap.size) (H0 := st.heap)) (fun q h => Or.inr h) isC hC
  obtain ⟨hP1, hK1, hD1⟩ := h1
  obtain ⟨hP2, hD2⟩ := va_join (wr := wr) (w1 := w1) hP hD isC isR hC hR hnR hdis (fun q hq hn => hF.2 q hq hn) hfr hP1 hD1
  exact ⟨⟨hP2, hK1, hD2⟩, hF.1, fun q hq hn => hF.2 q hq (fun z => hn (hfr q z))⟩
theorem bo_at.sub {w w2 : va_W} {A : Nat → Prop} {t : State} (h : bo_at D cl tys A w t) (isP : List Nat) (hnP : va_nd isP = true) (hp : isP.map (fun i => w[i]?) = w2.map some) : bo_at D cl tys A w2 t := ⟨h.1.sub isP (bo_fm hp), h.2.1, h.2.2.sub isP hnP hp⟩
theorem bo_fr_i {post : Int32 → S → Prop} {W1 : S → va_W} {post' : Int32 → S' → Prop} {W1' : S' → va_W} (h : bo_i l D cl tys y ws rm av W0 post W1) (isC isR isP : List Nat) (hC : isC.map (fun i => X[i]?) = W0.map some) (hR : isR.map (fun i => X[i]?) = wr.map some) (hnC : va_nd isC = true) (hnR : va_nd isR = true) (hnP : va_nd isP = true) (hdis : ∀ i ∈ isR, i ∉ isC)
    (f : ∀ r u, post r u → ∃ u' : S', post' r u' ∧ isP.map (fun i => (wr ++ W1 u)[i]?) = (W1' u').map some) : bo_i l D cl tys y ws rm av X post' W1' := by
  intro sz p e ha hc hk s m args below hf happ hP hK'
  obtain ⟨q0, q1, hPX, hK, hD⟩ := hP
  obtain ⟨n, o, h1, h2, h3, hQ, L, hF, hL⟩ := h sz p e ha hc hk s m args below hf happ ⟨q0, q1, hPX.sub isC (bo_fm hC), hK, hD.sub isC hnC hC⟩ hK'
  obtain ⟨⟨r, u, e1, hu, hat⟩, hva⟩ := hQ
  subst q1
  obtain ⟨u', hu', hp⟩ := f r u hu
  have h9 := bo_fr_at hPX hD isC isR hC hR hnR hdis hva hat
  exact ⟨n, o, h1, h2, h3, ⟨⟨r, u', e1, hu', bo_at.sub h9.1 isP hnP hp⟩, h9.2⟩, L, hF, fun q hq => va_free (wc := W0) (hD.self (sz := s.heap.size)) (va_S.rf (A := va_A X s.heap.size) (H0 := s.heap)) (fun q h => Or.inr h) isC hC _ (hL q hq)⟩
theorem bo_fr_x {Xn : String} {post : S → Prop} {W1 : S → va_W} {post' : S' → Prop} {W1' : S' → va_W} (h : bo_x Xn l D cl tys y ws rm av W0 post W1) (isC isR isP : List Nat) (hC : isC.map (fun i => X[i]?) = W0.map some) (hR : isR.map (fun i => X[i]?) = wr.map some) (hnC : va_nd isC = true) (hnR : va_nd isR = true) (hnP : va_nd isP = true) (hdis : ∀ i ∈ isR, i ∉ isC)
    (f : ∀ u, post u → ∃ u' : S', post' u' ∧ isP.map (fun i => (wr ++ W1 u)[i]?) = (W1' u').map some) : bo_x Xn l D cl tys y ws rm av X post' W1' := by
  intro sz p e ha hc hk s m args below hf happ hP hK'
  obtain ⟨⟨q0, q1, hPX, hK, hD⟩, hxs⟩ := hP
  obtain ⟨n, o, h1, h2, h3, hQ, L, hF, hL⟩ := h sz p e ha hc hk s m args below hf happ ⟨⟨q0, q1, hPX.sub isC (bo_fm hC), hK, hD.sub isC hnC hC⟩, hxs⟩ hK'
  obtain ⟨⟨x, u, ce, e1, hu, hat, e2⟩, hva⟩ := hQ
  subst q1
  obtain ⟨u', hu', hp⟩ := f u hu
  have h9 := bo_fr_at hPX hD isC isR hC hR hnR hdis hva hat
  exact ⟨n, o, h1, h2, h3, ⟨⟨x, u', ce, e1, hu', bo_at.sub h9.1 isP hnP hp, e2⟩, h9.2⟩, L, hF, fun q hq => va_free (wc := W0) (hD.self (sz := s.heap.size)) (va_S.rf (A := va_A X s.heap.size) (H0 := s.heap)) (fun q h => Or.inr h) isC hC _ (hL q hq)⟩
end FRM
