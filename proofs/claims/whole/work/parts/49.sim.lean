/-! the class's intervals and the reference's: beyond on both sides, or equal and ordered within the limit -/
def okI (x y : Int64) : Prop := -1073741824 ≤ x.toInt ∧ x.toInt ≤ y.toInt ∧ y.toInt ≤ 1073741824
def zR (a b : zz) : Prop := (¬ a.2.2 = 0 ∧ ¬ b.2.2 = 0) ∨ (a.2.2 = 0 ∧ b.2.2 = 0 ∧ a.1 = b.1 ∧ a.2.1 = b.2.1 ∧ okI a.1 a.2.1)
def stk (mk : mkT) : Prop := ∀ x y be, ¬ be = 0 → ¬ (mk x y be).2.2 = 0
theorem stk_l : stk iv_look := by
  intro x y be h
  unfold iv_look
  split
  · decide
  · exact h
theorem stk_m : stk m_mk := by
  intro x y be h
  show ¬ (if _ then _ else _) = _
  rw [if_neg (fun q => h q.1)]
  decide
theorem i64_big : (1073741824 : Int64).toInt = 1073741824 ∧ (-1073741824 : Int64).toInt = -1073741824 := by decide
theorem mk_l {x y : Int64} (h : okI x y) (be : Int32) : iv_look x y be = (x, y, be) := by
  unfold iv_look
  rw [if_neg]
  rintro (q | q)
  · have := Int64.lt_iff_toInt_lt.mp q; have := h.1; have := i64_big.2; omega
  · have := Int64.lt_iff_toInt_lt.mp q; have := h.2.2; have := i64_big.1; omega
theorem clip_ok {x : Int64} (h1 : -1073741824 ≤ x.toInt) (h2 : x.toInt ≤ 1073741824) : m_clip x = x := by
  unfold m_clip
  rw [if_neg, if_neg]
  · intro q; have := Int64.lt_iff_toInt_lt.mp q; have := i64_big.2; omega
  · intro q; have := Int64.lt_iff_toInt_lt.mp q; have := i64_big.1; omega
theorem mk_m {x y : Int64} (h : okI x y) : m_mk x y 0 = (x, y, 0) := by
  have h1 := clip_ok (x := x) h.1 (by have := h.2; omega)
  have h2 := clip_ok (x := y) (by have := h; unfold okI at this; omega) h.2.2
  unfold m_mk
  rw [h1, h2, if_pos ⟨rfl, rfl, rfl⟩]
  rfl
theorem mkR {x1 y1 x2 y2 : Int64} {b1 b2 : Int32} (h : (¬ b1 = 0 ∧ ¬ b2 = 0) ∨ (b1 = 0 ∧ b2 = 0 ∧ x1 = x2 ∧ y1 = y2 ∧ x1.toInt ≤ y1.toInt)) : zR (iv_look x1 y1 b1) (m_mk x2 y2 b2) := by
  rcases h with ⟨h1, h2⟩ | ⟨rfl, rfl, rfl, rfl, h⟩
  · exact Or.inl ⟨stk_l _ _ _ h1, stk_m _ _ _ h2⟩
  · by_cases hx : okI x1 y1
    · rw [mk_l hx, mk_m hx]
      exact Or.inr ⟨rfl, rfl, rfl, rfl, hx⟩
    · refine Or.inl ⟨?_, ?_⟩
      · unfold iv_look
        rw [if_pos]
        · decide
        · apply Classical.byContradiction
          intro q
          apply hx
          have q1 : ¬ x1 < -1073741824 := fun z => q (Or.inl z)
          have q2 : ¬ 1073741824 < y1 := fun z => q (Or.inr z)
          rw [Int64.lt_iff_toInt_lt, i64_big.2] at q1
          rw [Int64.lt_iff_toInt_lt, i64_big.1] at q2
          exact ⟨by omega, h, by omega⟩
      · show ¬ (if _ then _ else _) = _
        rw [if_neg]
        · decide
        · rintro ⟨-, c1, c2⟩
          apply hx
          have k1 : -1073741824 ≤ (m_clip x1).toInt := by
            unfold m_clip
            split
            · rw [i64_big.1]; decide
            · split
              · rw [i64_big.2]; decide
              · rename_i q; rw [Int64.lt_iff_toInt_lt, i64_big.2] at q; omega
          have k2 : (m_clip y1).toInt ≤ 1073741824 := by
            unfold m_clip
            split
            · rw [i64_big.1]; decide
            · split
              · rw [i64_big.2]; decide
              · rename_i q _; rw [Int64.lt_iff_toInt_lt, i64_big.1] at q; omega
          rw [c1] at k1
          rw [c2] at k2
          exact ⟨k1, h, k2⟩
theorem add_i {x y : Int64} (h : -9223372036854775808 ≤ x.toInt + y.toInt) (h2 : x.toInt + y.toInt < 9223372036854775808) : (x + y).toInt = x.toInt + y.toInt := by
  rw [Int64.toInt_add]; exact Int.bmod_eq_of_le (by omega) (by omega)
theorem mul_i {x y : Int64} (h : -9223372036854775808 ≤ x.toInt * y.toInt) (h2 : x.toInt * y.toInt < 9223372036854775808) : (x * y).toInt = x.toInt * y.toInt := by
  rw [Int64.toInt_mul]; exact Int.bmod_eq_of_le (by omega) (by omega)
theorem neg_i {x : Int64} (h : -9223372036854775808 < x.toInt) (h2 : x.toInt ≤ 9223372036854775807) : (-x).toInt = -x.toInt := by
  rw [Int64.toInt_neg]; exact Int.bmod_eq_of_le (by omega) (by omega)
theorem sub_i {x y : Int64} (h : -9223372036854775808 ≤ x.toInt - y.toInt) (h2 : x.toInt - y.toInt < 9223372036854775808) : (x - y).toInt = x.toInt - y.toInt := by
  rw [Int64.toInt_sub]; exact Int.bmod_eq_of_le (by omega) (by omega)
theorem shr_i (x : Int64) : (x >>> ((nI 20).toInt64 &&& 63)).toInt = x.toInt / 1048576 := by
  have h : ((nI 20).toInt64 &&& 63) = 20 := by decide
  rw [h, ← Int64.toInt_toBitVec, Int64.toBitVec_shiftRight]
  have h2 : ((20 : Int64).toBitVec.smod (64 : BitVec 64)) = 20#64 := by decide
  have h2' : ((20 : Int64).toBitVec.smod 64) = 20#64 := by decide
  rw [h2', BitVec.sshiftRight', BitVec.toInt_sshiftRight, Int64.toInt_toBitVec, Int.shiftRight_eq_div_pow]
  rfl
theorem prod_b {x y : Int} (hx : -1073741824 ≤ x) (hx2 : x ≤ 1073741824) (hy : -1073741824 ≤ y) (hy2 : y ≤ 1073741824) : -1152921504606846976 ≤ x * y ∧ x * y ≤ 1152921504606846976 := by
  have h : (x * y).natAbs ≤ 1073741824 * 1073741824 := by
    rw [Int.natAbs_mul]
    exact Nat.mul_le_mul (by omega) (by omega)
  omega
theorem tm_ok {a b c d : Int64} (h : okI a b) (k : okI c d) : (tm_lo a b c d).toInt ≤ (tm_hi a b c d).toInt := by
  obtain ⟨h1, h2, h3⟩ := h
  obtain ⟨k1, k2, k3⟩ := k
  have p1 := prod_b (x := a.toInt) (y := c.toInt) (by omega) (by omega) (by omega) (by omega)
  have p2 := prod_b (x := a.toInt) (y := d.toInt) (by omega) (by omega) (by omega) (by omega)
  have p3 := prod_b (x := b.toInt) (y := c.toInt) (by omega) (by omega) (by omega) (by omega)
  have p4 := prod_b (x := b.toInt) (y := d.toInt) (by omega) (by omega) (by omega) (by omega)
  have e1 := mul_i (x := a) (y := c) (by omega) (by omega)
  have e2 := mul_i (x := a) (y := d) (by omega) (by omega)
  have e3 := mul_i (x := b) (y := c) (by omega) (by omega)
  have e4 := mul_i (x := b) (y := d) (by omega) (by omega)
  unfold tm_lo tm_hi
  have m1 : (lmax (lmax (a * c) (a * d)) (lmax (b * c) (b * d))).toInt = max (max (a.toInt * c.toInt) (a.toInt * d.toInt)) (max (b.toInt * c.toInt) (b.toInt * d.toInt)) := by
    rw [lmax_i, lmax_i, lmax_i, e1, e2, e3, e4]
  have m2 : (lmin (lmin (a * c) (a * d)) (lmin (b * c) (b * d))).toInt = min (min (a.toInt * c.toInt) (a.toInt * d.toInt)) (min (b.toInt * c.toInt) (b.toInt * d.toInt)) := by
    rw [lmin_i, lmin_i, lmin_i, e1, e2, e3, e4]
  have n1 := neg_i (x := lmax (lmax (a * c) (a * d)) (lmax (b * c) (b * d))) (by omega) (by omega)
  have s1 := shr_i (-lmax (lmax (a * c) (a * d)) (lmax (b * c) (b * d)))
  have n2 := neg_i (x := (-lmax (lmax (a * c) (a * d)) (lmax (b * c) (b * d))) >>> ((nI 20).toInt64 &&& 63)) (by omega) (by omega)
  rw [n2, s1, n1, shr_i, m1, m2]
  omega
theorem zR_it {a b : zz} {x y : Int64} (h : zR a b) (k : a.2.2 = 0 → okI x y) : zR (iT iv_look a x y) (iT m_mk b x y) := by
  rcases h with ⟨h1, h2⟩ | ⟨h1, h2, h3, h4, h5⟩
  · exact Or.inl ⟨stk_l _ _ _ h1, stk_m _ _ _ h2⟩
  · unfold iT
    rw [← h3, ← h4]
    exact mkR (Or.inr ⟨h1, h2, rfl, rfl, tm_ok h5 (k h1)⟩)
theorem zR_is {a b : zz} {x y x2 y2 : Int64} (h : zR a b) (k : a.2.2 = 0 → x = x2 ∧ y = y2 ∧ okI x y) : zR (iS iv_look a x y) (iS m_mk b x2 y2) := by
  rcases h with ⟨h1, h2⟩ | ⟨h1, h2, h3, h4, h5⟩
  · exact Or.inl ⟨stk_l _ _ _ h1, stk_m _ _ _ h2⟩
  · obtain ⟨rfl, rfl, k3⟩ := k h1
    unfold iS
    rw [← h3, ← h4]
    refine mkR (Or.inr ⟨h1, h2, rfl, rfl, ?_⟩)
    obtain ⟨q1, q2, q3⟩ := h5
    obtain ⟨p1, p2, p3⟩ := k3
    rw [add_i (by omega) (by omega), add_i (by omega) (by omega)]
    omega
theorem stk_it {mk : mkT} (hs : stk mk) {a : zz} {x y : Int64} (h : ¬ a.2.2 = 0) : ¬ (iT mk a x y).2.2 = 0 := hs _ _ _ h
theorem stk_is {mk : mkT} (hs : stk mk) {a : zz} {x y : Int64} (h : ¬ a.2.2 = 0) : ¬ (iS mk a x y).2.2 = 0 := hs _ _ _ h
theorem stk_pT {mk : mkT} (hs : stk mk) {x y : Int64} : ∀ (n : Nat) {a : zz}, ¬ a.2.2 = 0 → ¬ (pT mk n a x y).2.2 = 0
  | 0, _, h => h
  | n + 1, _, h => stk_pT hs n (stk_it hs h)
theorem stk_tV {mk : mkT} (hs : stk mk) {pw : Nat → Nat} {t : Nat} {bl bh : Nat → Int64} : ∀ (v : Nat) {a : zz}, ¬ a.2.2 = 0 → ¬ (tV mk pw t bl bh v a).2.2 = 0
  | 0, _, h => h
  | v + 1, _, h => stk_pT hs _ (stk_tV hs v h)
theorem zR_pT {x y : Int64} : ∀ (n : Nat) {a b : zz}, zR a b → (0 < n → a.2.2 = 0 → okI x y) → zR (pT iv_look n a x y) (pT m_mk n b x y)
  | 0, _, _, h, _ => h
  | n + 1, a, b, h, k => zR_pT n (zR_it h (k (by omega))) (fun _ q => Classical.byContradiction fun z => stk_it stk_l (fun w => z (k (by omega) w)) q)
theorem zR_tV {pw : Nat → Nat} {t : Nat} {b1 c1 b2 c2 : Nat → Int64} : ∀ (v : Nat) {a b : zz}, zR a b → (∀ u, u < v → 0 < pw (t * 3 + u) → a.2.2 = 0 → b1 u = b2 u ∧ c1 u = c2 u ∧ okI (b1 u) (c1 u)) → zR (tV iv_look pw t b1 c1 v a) (tV m_mk pw t b2 c2 v b)
  | 0, _, _, h, _ => h
  | v + 1, a, b, h, k => by
    have ih := zR_tV v h (fun u hu => k u (by omega))
    show zR (pT _ _ _ _ _) (pT _ _ _ _ _)
    by_cases hp : 0 < pw (t * 3 + v)
    · by_cases ha : a.2.2 = 0
      · obtain ⟨k1, k2, k3⟩ := k v (by omega) hp ha
        rw [← k1, ← k2]
        exact zR_pT _ ih (fun _ _ => k3)
      · have hb : ¬ b.2.2 = 0 := fun q => by rcases h with h | h; exact h.2 q; exact ha h.1
        exact Or.inl ⟨stk_pT stk_l _ (stk_tV stk_l v ha), stk_pT stk_m _ (stk_tV stk_m v hb)⟩
    · have h0 : pw (t * 3 + v) = 0 := by omega
      rw [h0]
      exact ih
theorem stk_vS {mk : mkT} (hs : stk mk) {f g : Nat → Int64} {pw : Nat → Nat} {bl bh : Nat → Int64} {be : Int32} (h : ¬ be = 0) : ∀ n, ¬ (vS mk f g pw bl bh be n).2.2 = 0
  | 0 => h
  | n + 1 => stk_is hs (stk_tV hs 3 (stk_vS hs h n))
theorem stk_vM {mk : mkT} (hs : stk mk) {f g : Nat → Int64} {pw : Nat → Nat} {bl bh : Nat → Int64} {be : Int32} (h : ¬ be = 0) : ∀ n, ¬ (vM mk f g pw bl bh be n).2.2 = 0
  | 0 => h
  | n + 1 => stk_is hs (stk_tV hs 3 (hs _ _ _ (stk_vM hs h n)))
theorem okI_0 : okI 0 0 := ⟨by decide, by decide, by decide⟩
theorem zR_vS {f g f2 g2 : Nat → Int64} {pw pw2 : Nat → Nat} {b1 c1 b2 c2 : Nat → Int64} {e1 e2 : Int32} (he : e1 = 0 ↔ e2 = 0) : ∀ n, (∀ t, t < n → f t = f2 t ∧ g t = g2 t ∧ okI (f t) (g t)) → (∀ t u, t < n → u < 3 → pw (t * 3 + u) = pw2 (t * 3 + u)) →
    (∀ t u, t < n → u < 3 → 0 < pw (t * 3 + u) → b1 u = b2 u ∧ c1 u = c2 u ∧ okI (b1 u) (c1 u)) → zR (vS iv_look f g pw b1 c1 e1 n) (vM m_mk f2 g2 pw2 b2 c2 e2 n)
  | 0, _, _, _ => by
    by_cases h : e1 = 0
    · exact Or.inr ⟨h, he.mp h, rfl, rfl, okI_0⟩
    · exact Or.inl ⟨h, fun q => h (he.mpr q)⟩
  | n + 1, hf, hp, hb => by
    have ih := zR_vS he n (fun t ht => hf t (by omega)) (fun t u ht => hp t u (by omega)) (fun t u ht => hb t u (by omega))
    obtain ⟨f1, f2', f3⟩ := hf n (by omega)
    have hz : zR (f n, g n, (vS iv_look f g pw b1 c1 e1 n).2.2) (m_mk (f2 n) (g2 n) (vM m_mk f2 g2 pw2 b2 c2 e2 n).2.2) := by
      rcases ih with ⟨i1, i2⟩ | ⟨i1, i2, -⟩
      · exact Or.inl ⟨i1, stk_m _ _ _ i2⟩
      · rw [i2, ← f1, ← f2', mk_m f3]
        exact Or.inr ⟨i1, rfl, rfl, rfl, f3⟩
    have h3 : tV m_mk pw2 n b2 c2 3 (m_mk (f2 n) (g2 n) (vM m_mk f2 g2 pw2 b2 c2 e2 n).2.2) = tV m_mk pw n b2 c2 3 (m_mk (f2 n) (g2 n) (vM m_mk f2 g2 pw2 b2 c2 e2 n).2.2) := by
      simp only [tV, hp n 0 (by omega) (by omega), hp n 1 (by omega) (by omega), hp n 2 (by omega) (by omega)]
    show zR (iS _ _ _ _) (iS _ _ _ _)
    rw [h3]
    have hv := zR_tV (pw := pw) (t := n) 3 hz (fun u hu h0 _ => hb n u (by omega) hu h0)
    refine zR_is hv (fun q => ?_)
    rcases ih with ⟨i1, i2⟩ | ⟨-, -, i3, i4, i5⟩
    · exact absurd q (stk_tV stk_l 3 i1)
    · exact ⟨i3, i4, i5⟩
/-! the proof of a box: class and reference -/
def aR (n : Nat) (f g f2 g2 : Nat → Int64) : Prop := ∀ u, u < n → f u = f2 u ∧ g u = g2 u ∧ okI (f u) (g u)
abbrev s3 : Type := (Nat → Int64) × (Nat → Int64) × Int32
def sR (n : Nat) (a b : s3) : Prop := (¬ a.2.2 = 0 ∧ ¬ b.2.2 = 0) ∨ (a.2.2 = 0 ∧ b.2.2 = 0 ∧ aR n a.1 a.2.1 b.1 b.2.1)
def polyR (ns n : Nat) (f g f2 g2 : Nat → Int64) (pw pw2 : Nat → Nat) : Prop := ∀ t, t < n → f t = f2 t ∧ g t = g2 t ∧ okI (f t) (g t) ∧ ∀ u, u < 3 → pw (t * 3 + u) = pw2 (t * 3 + u) ∧ (0 < pw (t * 3 + u) → u < ns)
def pR (ns : Nat) (nt : Nat → Nat) (F G : Nat → Nat → Int64) (PW : Nat → Nat → Nat) (mn : Nat → Nat) (fl fh : Nat → Int64) (pw : Nat → Nat) : Prop :=
  ∀ v, v < ns → nt v = mn v ∧ polyR ns (nt v) (F v) (G v) (fun t => fl (12 * v + t)) (fun t => fh (12 * v + t)) (PW v) (fun j => pw (36 * v + j))
theorem aR.sub {n k : Nat} {f g f2 g2 : Nat → Int64} (h : aR n f g f2 g2) (hk : k ≤ n) : aR k f g f2 g2 := fun u hu => h u (by omega)
theorem aR.ok {n : Nat} {f g f2 g2 : Nat → Int64} (h : aR n f g f2 g2) {u : Nat} (hu : u < n) : okI (f u) (g u) := (h u hu).2.2
theorem upL_eq (f : Nat → Int64) (k : Nat) (x : Int64) : vp_updL f k x k = x := by unfold vp_updL; rw [if_pos rfl]
theorem upL_ne (f : Nat → Int64) {k j : Nat} (x : Int64) (h : ¬ j = k) : vp_updL f k x j = f j := by unfold vp_updL; rw [if_neg h]
theorem sR_upd {n : Nat} {a b : s3} {x y : zz} (h : sR n a b) (hz : zR x y) (hx : ¬ a.2.2 = 0 → ¬ x.2.2 = 0) (hy : ¬ b.2.2 = 0 → ¬ y.2.2 = 0) : sR (n + 1) (vp_updL a.1 n x.1, vp_updL a.2.1 n x.2.1, x.2.2) (vp_updL b.1 n y.1, vp_updL b.2.1 n y.2.1, y.2.2) := by
  rcases hz with ⟨z1, z2⟩ | ⟨z1, z2, z3, z4, z5⟩
  · exact Or.inl ⟨z1, z2⟩
  · rcases h with ⟨h1, h2⟩ | ⟨h1, h2, h3⟩
    · exact absurd z1 (hx h1)
    · refine Or.inr ⟨z1, z2, fun u hu => ?_⟩
      by_cases hn : u = n
      · subst hn
        show vp_updL _ _ _ _ = vp_updL _ _ _ _ ∧ vp_updL _ _ _ _ = vp_updL _ _ _ _ ∧ okI (vp_updL _ _ _ _) (vp_updL _ _ _ _)
        rw [upL_eq, upL_eq, upL_eq, upL_eq]
        exact ⟨z3, z4, z5⟩
      · show vp_updL _ _ _ _ = vp_updL _ _ _ _ ∧ vp_updL _ _ _ _ = vp_updL _ _ _ _ ∧ okI (vp_updL _ _ _ _) (vp_updL _ _ _ _)
        rw [upL_ne _ _ hn, upL_ne _ _ hn, upL_ne _ _ hn, upL_ne _ _ hn]
        exact h3 u (by omega)
section PV
variable {ns : Nat} {nt : Nat → Nat} {F G : Nat → Nat → Int64} {PW : Nat → Nat → Nat} {mn : Nat → Nat} {fl fh : Nat → Int64} {pw : Nat → Nat} {gl gh al ah xl xh x2 y2 pf pg pf2 pg2 : Nat → Int64} {ht : Int64} {be b2 : Int32}
theorem polyR.vS {n : Nat} {f g f2 g2 : Nat → Int64} {pw pw2 : Nat → Nat} (h : polyR ns n f g f2 g2 pw pw2) (hb : aR ns gl gh al ah) (he : be = 0 ↔ b2 = 0) : zR (vS iv_look f g pw gl gh be n) (vM m_mk f2 g2 pw2 al ah b2 n) :=
  zR_vS he n (fun t ht => ⟨(h t ht).1, (h t ht).2.1, (h t ht).2.2.1⟩) (fun t u ht hu => ((h t ht).2.2.2 u hu).1) (fun t u ht hu h0 => hb u (((h t ht).2.2.2 u hu).2 h0))
theorem rV_R (hp : pR ns nt F G PW mn fl fh pw) (hg : aR ns gl gh al ah) (hx : aR ns xl xh x2 y2) (ho : okI 0 ht) (he : be = 0 ↔ b2 = 0) {v : Nat} (hv : v < ns) : zR (rV iv_look nt F G PW gl gh xl xh ht be v) (rVM m_mk mn fl fh pw al ah x2 y2 ht b2 v) := by
  obtain ⟨p1, p2⟩ := hp v hv
  unfold rV rVM
  rw [← p1]
  exact zR_is (zR_it (p2.vS hg he) (fun _ => ho)) (fun _ => hx v hv)
theorem rV_stk (h : ¬ be = 0) {v : Nat} : ¬ (rV iv_look nt F G PW gl gh xl xh ht be v).2.2 = 0 := stk_is stk_l (stk_it stk_l (stk_vS stk_l h _))
theorem rVM_stk (h : ¬ be = 0) {v : Nat} : ¬ (rVM m_mk mn fl fh pw al ah xl xh ht be v).2.2 = 0 := stk_is stk_m (stk_it stk_m (stk_vM stk_m h _))
theorem rCM_stk (h : ¬ be = 0) : ∀ n, ¬ (rCM m_mk mn fl fh pw al ah xl xh ht pf pg be n).2.2 = 0
  | 0 => h
  | n + 1 => rVM_stk (rCM_stk h n)
theorem rC_R (hp : pR ns nt F G PW mn fl fh pw) (hg : aR ns gl gh al ah) (hx : aR ns xl xh x2 y2) (ho : okI 0 ht) (he : be = 0) (he2 : b2 = 0) : ∀ n, n ≤ ns → sR n (rC iv_look nt F G PW gl gh xl xh ht pf pg be n) (rCM m_mk mn fl fh pw al ah x2 y2 ht pf2 pg2 b2 n)
  | 0, _ => Or.inr ⟨he, he2, fun u hu => by omega⟩
  | n + 1, hn => by
    have ih := rC_R hp hg hx ho he he2 n (by omega)
    have hq : (rC iv_look nt F G PW gl gh xl xh ht pf pg be n).2.2 = 0 ↔ (rCM m_mk mn fl fh pw al ah x2 y2 ht pf2 pg2 b2 n).2.2 = 0 := by
      rcases ih with ⟨i1, i2⟩ | ⟨i1, i2, -⟩
      · exact ⟨fun q => absurd q i1, fun q => absurd q i2⟩
      · exact ⟨fun _ => i2, fun _ => i1⟩
    exact sR_upd ih (rV_R hp hg hx ho hq (by omega)) (fun q => rV_stk q) (fun q => rVM_stk q)
theorem rC_ge {mk : mkT} : ∀ n u, n ≤ u → (rC mk nt F G PW gl gh xl xh ht pf pg be n).1 u = pf u ∧ (rC mk nt F G PW gl gh xl xh ht pf pg be n).2.1 u = pg u
  | 0, _, _ => ⟨rfl, rfl⟩
  | n + 1, u, h => ⟨(upL_ne _ _ (by omega)).trans (rC_ge n u (by omega)).1, (upL_ne _ _ (by omega)).trans (rC_ge n u (by omega)).2⟩
theorem rC_at {mk : mkT} {u : Nat} : ∀ n, u < n → (rC mk nt F G PW gl gh xl xh ht pf pg be n).1 u = (rV mk nt F G PW gl gh xl xh ht (rC mk nt F G PW gl gh xl xh ht pf pg be u).2.2 u).1 ∧ (rC mk nt F G PW gl gh xl xh ht pf pg be n).2.1 u = (rV mk nt F G PW gl gh xl xh ht (rC mk nt F G PW gl gh xl xh ht pf pg be u).2.2 u).2.1
  | n + 1, h => by
    by_cases hu : u = n
    · subst hu
      exact ⟨upL_eq _ _ _, upL_eq _ _ _⟩
    · have ih := rC_at (mk := mk) n (show u < n by omega)
      exact ⟨(upL_ne _ _ hu).trans ih.1, (upL_ne _ _ hu).trans ih.2⟩
theorem rW_wi {mk : mkT} {N : Nat} : ∀ n, n ≤ N → rW mk nt F G PW gl gh xl xh ht pf pg be n = wiM (rC mk nt F G PW gl gh xl xh ht pf pg be N).1 (rC mk nt F G PW gl gh xl xh ht pf pg be N).2.1 gl gh n
  | 0, _ => rfl
  | n + 1, h => by
    have h1 := rC_at (mk := mk) (nt := nt) (F := F) (G := G) (PW := PW) (gl := gl) (gh := gh) (xl := xl) (xh := xh) (ht := ht) (pf := pf) (pg := pg) (be := be) (u := n) N h
    show (_ && _ && _) = (_ && _ && _)
    rw [rW_wi (N := N) n (by omega), h1.1, h1.2]
theorem wi_R {f g f2 g2 : Nat → Int64} : ∀ n, aR n f g f2 g2 → aR n gl gh al ah → wiM f g gl gh n = wiM f2 g2 al ah n
  | 0, _, _ => rfl
  | n + 1, h, k => by
    show (_ && _ && _) = (_ && _ && _)
    rw [wi_R n (h.sub (by omega)) (k.sub (by omega)), (h n (by omega)).1, (h n (by omega)).2.1, (k n (by omega)).1, (k n (by omega)).2.1]
theorem wC_ge {mk : mkT} : ∀ n u, n ≤ u → (wC mk pf pg gl gh be n).1 u = gl u ∧ (wC mk pf pg gl gh be n).2.1 u = gh u
  | 0, _, _ => ⟨rfl, rfl⟩
  | n + 1, u, h => ⟨(upL_ne _ _ (by omega)).trans (wC_ge n u (by omega)).1, (upL_ne _ _ (by omega)).trans (wC_ge n u (by omega)).2⟩
theorem wM_ok {a b : Int64} (h1 : -1073741824 ≤ a.toInt) (h2 : a.toInt ≤ b.toInt) (h3 : b.toInt ≤ 1073741824) : (a - wM a b).toInt ≤ (b + wM a b).toInt := by
  have d := sub_i (x := b) (y := a) (by omega) (by omega)
  have h8 : (8 : Int64).toInt = 8 := by decide
  have q := div_i (x := b - a) (y := 8) (by decide)
  rw [d, h8] at q
  have t := tdiv_pos (x := b.toInt - a.toInt) (y := 8) (by omega) (by decide)
  have h9 : (1 : Int64).toInt = 1 := by decide
  have e := add_i (x := (b - a) / 8) (y := 1) (by omega) (by omega)
  have e1 : (wM a b).toInt = (b.toInt - a.toInt).tdiv 8 + 1 := by unfold wM; rw [e, q, h9]
  rw [sub_i (by omega) (by omega), add_i (by omega) (by omega)]
  omega
theorem wC_stk {mk : mkT} (hs : stk mk) (h : ¬ be = 0) : ∀ n, ¬ (wC mk pf pg gl gh be n).2.2 = 0
  | 0 => h
  | n + 1 => hs _ _ _ (wC_stk hs h n)
theorem wC_R {N : Nat} (hp : aR N pf pg pf2 pg2) (hg : aR N gl gh al ah) (he : be = 0) (he2 : b2 = 0) : ∀ n, n ≤ N → sR n (wC iv_look pf pg gl gh be n) (wC m_mk pf2 pg2 al ah b2 n)
  | 0, _ => Or.inr ⟨he, he2, fun u hu => by omega⟩
  | n + 1, hn => by
    have ih := wC_R hp hg he he2 n (by omega)
    have g1 := wC_ge (mk := iv_look) (pf := pf) (pg := pg) (gl := gl) (gh := gh) (be := be) n n (Nat.le_refl _)
    have g2 := wC_ge (mk := m_mk) (pf := pf2) (pg := pg2) (gl := al) (gh := ah) (be := b2) n n (Nat.le_refl _)
    refine sR_upd ih ?_ (stk_l _ _ _) (stk_m _ _ _)
    unfold wV
    rw [g1.1, g1.2, g2.1, g2.2]
    obtain ⟨p1, p2, p3⟩ := hp n (by omega)
    obtain ⟨q1, q2, q3⟩ := hg n (by omega)
    rw [← p1, ← p2, ← q1, ← q2]
    rcases ih with ⟨i1, i2⟩ | ⟨i1, i2, -⟩
    · exact mkR (Or.inl ⟨i1, i2⟩)
    · refine mkR (Or.inr ⟨i1, i2, rfl, rfl, ?_⟩)
      have a1 := lmin_i (gl n) (pf n)
      have a2 := lmax_i (gh n) (pg n)
      obtain ⟨u1, u2, u3⟩ := p3
      obtain ⟨w1, w2, w3⟩ := q3
      exact wM_ok (by omega) (by omega) (by omega)
theorem pvM_stk : ∀ (n : Nat) (fst : Bool) (S : pSt), ¬ S.2.2.2.2 = 0 → ¬ (pvM mn fl fh pw ns xl xh ht n fst S).2.2.2.2.2 = 0
  | 0, _, _, h => h
  | n + 1, fst, S, h => by
    have h1 := rCM_stk (mn := mn) (fl := fl) (fh := fh) (pw := pw) (al := S.1) (ah := S.2.1) (xl := xl) (xh := xh) (ht := ht) (pf := S.2.2.1) (pg := S.2.2.2.1) h ns
    unfold pvM
    split
    · exact h1
    · exact pvM_stk n _ _ (wC_stk stk_m h1 _)
def pvQ (ns : Nat) (a : Int32 × pSt) (b : Bool × pSt) : Prop :=
  (a.1 = nI 0 ∧ b.1 = true ∧ a.2.2.2.2.2 = 0 ∧ b.2.2.2.2.2 = 0 ∧ aR ns a.2.2.2.1 a.2.2.2.2.1 b.2.2.2.1 b.2.2.2.2.1) ∨ (a.1 = nI 1 ∧ b.1 = false ∧ b.2.2.2.2.2 = 0) ∨ (a.1 = nI 2 ∧ ¬ b.2.2.2.2.2 = 0)
theorem pv_R (hp : pR ns nt F G PW mn fl fh pw) (hx : aR ns xl xh x2 y2) (ho : okI 0 ht) : ∀ (n : Nat) (fst : Bool) (S T : pSt), S.2.2.2.2 = 0 → T.2.2.2.2 = 0 → aR ns S.1 S.2.1 T.1 T.2.1 → pvQ ns (pvR iv_look nt F G PW ns xl xh ht n fst S) (pvM mn fl fh pw ns x2 y2 ht n fst T)
  | 0, _, _, _, _, hT, _ => Or.inr (Or.inl ⟨rfl, rfl, hT⟩)
  | n + 1, fst, S, T, hS, hT, hg => by
    have hC := rC_R hp hg hx ho hS hT ns (Nat.le_refl _) (pf := S.2.2.1) (pg := S.2.2.2.1) (pf2 := T.2.2.1) (pg2 := T.2.2.2.1)
    have hWi := rW_wi (mk := iv_look) (nt := nt) (F := F) (G := G) (PW := PW) (gl := S.1) (gh := S.2.1) (xl := xl) (xh := xh) (ht := ht) (pf := S.2.2.1) (pg := S.2.2.2.1) (be := S.2.2.2.2) (N := ns) ns (Nat.le_refl _)
    unfold pvR pvM
    rcases hC with ⟨c1, c2⟩ | ⟨c1, c2, c3⟩
    · rw [if_neg c1]
      refine Or.inr (Or.inr ⟨rfl, ?_⟩)
      split
      · exact c2
      · exact pvM_stk n _ _ (wC_stk stk_m c2 _)
    · rw [if_pos c1, hWi, wi_R ns c3 hg]
      by_cases hq : fst = false ∧ wiM (rCM m_mk mn fl fh pw T.1 T.2.1 x2 y2 ht T.2.2.1 T.2.2.2.1 T.2.2.2.2 ns).1 (rCM m_mk mn fl fh pw T.1 T.2.1 x2 y2 ht T.2.2.1 T.2.2.2.1 T.2.2.2.2 ns).2.1 T.1 T.2.1 ns = true
      · rw [if_pos hq, if_pos hq]
        exact Or.inl ⟨rfl, rfl, c1, c2, c3⟩
      · rw [if_neg hq, if_neg hq]
        rcases wC_R c3 hg c1 c2 ns (Nat.le_refl _) with ⟨d1, d2⟩ | ⟨d1, d2, d3⟩
        · rw [if_neg d1]
          exact Or.inr (Or.inr ⟨rfl, pvM_stk n _ _ d2⟩)
        · rw [if_pos d1]
          exact pv_R hp hx ho n false _ _ d1 d2 d3
end PV
/-! the series: class and reference -/
def eo (f g f2 g2 : Nat → Int64) (i : Nat) : Prop := f i = f2 i ∧ g i = g2 i ∧ okI (f i) (g i)
theorem zz_it (be : Int32) (x y : Int64) : iT m_mk (0, 0, be) x y = m_mk 0 0 be := by
  have h1 : tm_lo 0 0 x y = 0 := by
    unfold tm_lo
    rw [Int64.zero_mul, Int64.zero_mul]
    decide
  have h2 : tm_hi 0 0 x y = 0 := by
    unfold tm_hi
    rw [Int64.zero_mul, Int64.zero_mul]
    decide
  show m_mk (tm_lo 0 0 x y) (tm_hi 0 0 x y) be = _
  rw [h1, h2]
section SER
variable {pl ph pl2 ph2 sl sh sl2 sh2 : Nat → Int64} {r v k : Nat} {be b2 : Int32}
theorem prK_stk {mk : mkT} (hs : stk mk) (h : ¬ be = 0) : ∀ n, ¬ (prK mk pl ph sl sh r v k be n).2.2 = 0
  | 0 => h
  | n + 1 => stk_is hs (stk_it hs (prK_stk hs h n))
theorem prK_R (he : be = 0 ↔ b2 = 0) : ∀ n, (∀ j, j < n → eo pl ph pl2 ph2 (r * 10 + j)) → (∀ j, j < n → eo sl sh sl2 sh2 (v * 10 + (k - j))) → zR (prK iv_look pl ph sl sh r v k be n) (prK m_mk pl2 ph2 sl2 sh2 r v k b2 n)
  | 0, _, _ => by
    by_cases h : be = 0
    · exact Or.inr ⟨h, he.mp h, rfl, rfl, okI_0⟩
    · exact Or.inl ⟨h, fun q => h (he.mpr q)⟩
  | n + 1, hp, hq => by
    have ih := prK_R he n (fun j hj => hp j (by omega)) (fun j hj => hq j (by omega))
    obtain ⟨p1, p2, p3⟩ := hp n (by omega)
    obtain ⟨q1, q2, q3⟩ := hq n (by omega)
    show zR (iS _ _ _ _) (iS _ _ _ _)
    rw [← p1, ← p2, ← q1, ← q2]
    have hz : zR (pl (r * 10 + n), ph (r * 10 + n), (prK iv_look pl ph sl sh r v k be n).2.2) (pl (r * 10 + n), ph (r * 10 + n), (prK m_mk pl2 ph2 sl2 sh2 r v k b2 n).2.2) := by
      rcases ih with ⟨i1, i2⟩ | ⟨i1, i2, -⟩
      · exact Or.inl ⟨i1, i2⟩
      · exact Or.inr ⟨i1, i2, rfl, rfl, p3⟩
    refine zR_is (zR_it hz (fun _ => q3)) (fun q => ?_)
    rcases ih with ⟨i1, i2⟩ | ⟨-, -, i3, i4, i5⟩
    · exact absurd q (stk_it stk_l i1)
    · exact ⟨i3, i4, i5⟩
theorem prK_more {a : zz} (h1 : zR a (prK m_mk pl2 ph2 sl2 sh2 r v k b2 1)) : ∀ n, (∀ j, 0 < j → j ≤ n → pl2 (r * 10 + j) = 0 ∧ ph2 (r * 10 + j) = 0) → zR a (prK m_mk pl2 ph2 sl2 sh2 r v k b2 (n + 1))
  | 0, _ => h1
  | n + 1, h0 => by
    have ih := prK_more h1 n (fun j hj hn => h0 j hj (by omega))
    obtain ⟨z1, z2⟩ := h0 (n + 1) (by omega) (Nat.le_refl _)
    show zR a (iS m_mk (iT m_mk (pl2 (r * 10 + (n + 1)), ph2 (r * 10 + (n + 1)), (prK m_mk pl2 ph2 sl2 sh2 r v k b2 (n + 1)).2.2) _ _) _ _)
    rw [z1, z2, zz_it]
    rcases ih with ⟨i1, i2⟩ | ⟨i1, i2, i3, i4, i5⟩
    · exact Or.inl ⟨i1, stk_is stk_m (stk_m _ _ _ i2)⟩
    · rw [i2, mk_m okI_0]
      show zR a (m_mk (0 + _) (0 + _) 0)
      rw [Int64.zero_add, Int64.zero_add, ← i3, ← i4, mk_m i5]
      exact Or.inr ⟨i1, rfl, rfl, rfl, i5⟩
/-- only column k of the rows a..b-1 may differ -/
def fr (k a b : Nat) (f f' : Nat → Int64) : Prop := ∀ i, (∀ r, a ≤ r → r < b → ¬ i = r * 10 + k) → f' i = f i
theorem fr_rf {k a b : Nat} {f : Nat → Int64} : fr k a b f f := fun _ _ => rfl
theorem fr_tr {k a b : Nat} {f g h : Nat → Int64} (h1 : fr k a b f g) (h2 : fr k a b g h) : fr k a b f h := fun i hi => (h2 i hi).trans (h1 i hi)
theorem fr_up {k a b r : Nat} {f : Nat → Int64} {x : Int64} (h1 : a ≤ r) (h2 : r < b) : fr k a b f (vp_updL f (r * 10 + k) x) := fun _ hi => upL_ne _ _ (hi r h1 h2)
theorem fr_w {k a b c d : Nat} {f g : Nat → Int64} (h : fr k a b f g) (h1 : c ≤ a) (h2 : b ≤ d) : fr k c d f g := fun i hi => h i (fun r q1 q2 => hi r (by omega) (by omega))
theorem fr_col {k a b r j : Nat} {f g : Nat → Int64} (h : fr k a b f g) (hk : k < 10) (hj : j < 10) (hn : ¬ j = k) : g (r * 10 + j) = f (r * 10 + j) := h _ (fun q _ _ => by omega)
theorem fr_row {k a b r j : Nat} {f g : Nat → Int64} (h : fr k a b f g) (hk : k < 10) (hj : j < 10) (hn : r < a ∨ b ≤ r) : g (r * 10 + j) = f (r * 10 + j) := h _ (fun q _ _ => by omega)
/-- the term's state after m factors -/
abbrev tR (k r0 m : Nat) (S0 T0 S T : tSt) : Prop := (S.2.2.2.1 = r0 + m) ∧ (T.2.2.2.1 = r0 + m) ∧ (fr k r0 (r0 + m + 1) S0.1 S.1) ∧ (fr k r0 (r0 + m + 1) S0.2.1 S.2.1) ∧ (fr k r0 (r0 + m + 1) T0.1 T.1) ∧ (fr k r0 (r0 + m + 1) T0.2.1 T.2.1) ∧ (zR S.2.2.1 T.2.2.1) ∧ (0 < k → T.1 (r0 * 10 + k) = 0 ∧ T.2.1 (r0 * 10 + k) = 0) ∧ ((m = 0 ∧ S.2.2.2.2 = 0 ∧ T.2.2.2.2 = k) ∨ (0 < m ∧ S.2.2.2.2 = k ∧ T.2.2.2.2 = k)) ∧ (S.2.2.1.2.2 = 0 → ∀ i, i ≤ m → eo S.1 S.2.1 T.1 T.2.1 ((r0 + i) * 10 + k))
theorem tR.rw1 {k r0 m : Nat} {S0 T0 S T : tSt} (h9 : tR k r0 m S0 T0 S T) : S.2.2.2.1 = r0 + m := h9.1
theorem tR.rw2 {k r0 m : Nat} {S0 T0 S T : tSt} (h9 : tR k r0 m S0 T0 S T) : T.2.2.2.1 = r0 + m := h9.2.1
theorem tR.f1 {k r0 m : Nat} {S0 T0 S T : tSt} (h9 : tR k r0 m S0 T0 S T) : fr k r0 (r0 + m + 1) S0.1 S.1 := h9.2.2.1
theorem tR.f2 {k r0 m : Nat} {S0 T0 S T : tSt} (h9 : tR k r0 m S0 T0 S T) : fr k r0 (r0 + m + 1) S0.2.1 S.2.1 := h9.2.2.2.1
theorem tR.f3 {k r0 m : Nat} {S0 T0 S T : tSt} (h9 : tR k r0 m S0 T0 S T) : fr k r0 (r0 + m + 1) T0.1 T.1 := h9.2.2.2.2.1
theorem tR.f4 {k r0 m : Nat} {S0 T0 S T : tSt} (h9 : tR k r0 m S0 T0 S T) : fr k r0 (r0 + m + 1) T0.2.1 T.2.1 := h9.2.2.2.2.2.1
theorem tR.z {k r0 m : Nat} {S0 T0 S T : tSt} (h9 : tR k r0 m S0 T0 S T) : zR S.2.2.1 T.2.2.1 := h9.2.2.2.2.2.2.1
theorem tR.n1 {k r0 m : Nat} {S0 T0 S T : tSt} (h9 : tR k r0 m S0 T0 S T) : 0 < k → T.1 (r0 * 10 + k) = 0 ∧ T.2.1 (r0 * 10 + k) = 0 := h9.2.2.2.2.2.2.2.1
theorem tR.la {k r0 m : Nat} {S0 T0 S T : tSt} (h9 : tR k r0 m S0 T0 S T) : (m = 0 ∧ S.2.2.2.2 = 0 ∧ T.2.2.2.2 = k) ∨ (0 < m ∧ S.2.2.2.2 = k ∧ T.2.2.2.2 = k) := h9.2.2.2.2.2.2.2.2.1
theorem tR.c {k r0 m : Nat} {S0 T0 S T : tSt} (h9 : tR k r0 m S0 T0 S T) : S.2.2.1.2.2 = 0 → ∀ i, i ≤ m → eo S.1 S.2.1 T.1 T.2.1 ((r0 + i) * 10 + k) := h9.2.2.2.2.2.2.2.2.2
theorem tS_R {r0 m M : Nat} {S0 T0 S T : tSt} (h : tR k r0 m S0 T0 S T) (hk : k < 10) (hm : m < M) (hs : ∀ j, j ≤ k → eo sl sh sl2 sh2 (v * 10 + j)) (h0 : ∀ i j, i < M → j < k → eo S0.1 S0.2.1 T0.1 T0.2.1 ((r0 + i) * 10 + j)) (hn : ∀ j, 0 < j → j < k → T0.1 (r0 * 10 + j) = 0 ∧ T0.2.1 (r0 * 10 + j) = 0) :
    tR k r0 (m + 1) S0 T0 (tS iv_look sl sh k v S) (tS m_mk sl2 sh2 k v T) := by
  have hz : zR (prK iv_look S.1 S.2.1 sl sh S.2.2.2.1 v k S.2.2.1.2.2 (S.2.2.2.2 + 1)) (prK m_mk T.1 T.2.1 sl2 sh2 T.2.2.2.1 v k T.2.2.1.2.2 (T.2.2.2.2 + 1)) := by
    by_cases hf : S.2.2.1.2.2 = 0
    · have hf2 : T.2.2.1.2.2 = 0 := by rcases h.z with ⟨q, -⟩ | ⟨-, q, -⟩; exact absurd hf q; exact q
      have hc := h.c hf m (Nat.le_refl _)
      rw [h.rw1, h.rw2]
      have he : ∀ j, j ≤ k → eo S.1 S.2.1 T.1 T.2.1 ((r0 + m) * 10 + j) := by
        intro j hj
        by_cases hjk : j = k
        · subst hjk; exact hc
        · unfold eo
          rw [fr_col h.f1 hk (by omega) hjk, fr_col h.f2 hk (by omega) hjk, fr_col h.f3 hk (by omega) hjk, fr_col h.f4 hk (by omega) hjk]
          exact h0 m j (by omega) (by omega)
      have hb : S.2.2.1.2.2 = 0 ↔ T.2.2.1.2.2 = 0 := ⟨fun _ => hf2, fun _ => hf⟩
      rcases h.la with ⟨m0, l1, l2⟩ | ⟨m0, l1, l2⟩
      · rw [l1, l2]
        refine prK_more ?_ k ?_
        · exact prK_R hb 1 (fun j hj => he j (by omega)) (fun j hj => hs _ (by omega))
        · intro j hj hjk
          subst m0
          by_cases hq : j = k
          · subst hq; exact h.n1 hj
          · rw [Nat.add_zero, fr_col h.f3 hk (by omega) hq, fr_col h.f4 hk (by omega) hq]
            exact hn j hj (by omega)
      · rw [l1, l2]
        exact prK_R hb (k + 1) (fun j hj => he j (by omega)) (fun j hj => hs _ (by omega))
    · have hf2 : ¬ T.2.2.1.2.2 = 0 := by rcases h.z with ⟨-, q⟩ | ⟨q, -⟩; exact q; exact absurd q hf
      exact Or.inl ⟨prK_stk stk_l hf _, prK_stk stk_m hf2 _⟩
  have r1 := h.rw1
  have r2 := h.rw2
  refine ⟨by show S.2.2.2.1 + 1 = _; omega, by show T.2.2.2.1 + 1 = _; omega, ?_, ?_, ?_, ?_, hz, ?_, Or.inr ⟨by omega, rfl, rfl⟩, ?_⟩
  · exact fr_tr (fr_w h.f1 (Nat.le_refl _) (by omega)) (fr_up (by omega) (by omega))
  · exact fr_tr (fr_w h.f2 (Nat.le_refl _) (by omega)) (fr_up (by omega) (by omega))
  · exact fr_tr (fr_w h.f3 (Nat.le_refl _) (by omega)) (fr_up (by omega) (by omega))
  · exact fr_tr (fr_w h.f4 (Nat.le_refl _) (by omega)) (fr_up (by omega) (by omega))
  · intro h9
    have := h.n1 h9
    show vp_updL _ _ _ _ = _ ∧ vp_updL _ _ _ _ = _
    rw [upL_ne _ _ (by omega), upL_ne _ _ (by omega)]
    exact this
  · intro hf i hi
    have hf1 : S.2.2.1.2.2 = 0 := Classical.byContradiction fun q => prK_stk stk_l q _ hf
    show vp_updL _ _ _ _ = vp_updL _ _ _ _ ∧ vp_updL _ _ _ _ = vp_updL _ _ _ _ ∧ okI (vp_updL _ _ _ _) (vp_updL _ _ _ _)
    by_cases hq : i = m + 1
    · have e1 : (r0 + i) * 10 + k = (S.2.2.2.1 + 1) * 10 + k := by rw [r1, hq]; omega
      have e2 : (r0 + i) * 10 + k = (T.2.2.2.1 + 1) * 10 + k := by rw [r2, hq]; omega
      rw [e1, upL_eq, upL_eq, ← e1, e2, upL_eq, upL_eq]
      rcases hz with ⟨q, -⟩ | ⟨-, -, q3, q4, q5⟩
      · exact absurd hf q
      · exact ⟨q3, q4, q5⟩
    · rw [upL_ne _ _ (by omega), upL_ne _ _ (by omega), upL_ne _ _ (by omega), upL_ne _ _ (by omega)]
      exact h.c hf1 i (by omega)
theorem tP_R {r0 M : Nat} {S0 T0 : tSt} (hk : k < 10) (h0 : ∀ i j, i < M → j < k → eo S0.1 S0.2.1 T0.1 T0.2.1 ((r0 + i) * 10 + j)) (hn : ∀ j, 0 < j → j < k → T0.1 (r0 * 10 + j) = 0 ∧ T0.2.1 (r0 * 10 + j) = 0) :
    ∀ (n m : Nat) {S T : tSt}, tR k r0 m S0 T0 S T → m + n ≤ M → (0 < n → ∀ j, j ≤ k → eo sl sh sl2 sh2 (v * 10 + j)) → tR k r0 (m + n) S0 T0 (tP iv_look sl sh k v n S) (tP m_mk sl2 sh2 k v n T)
  | 0, _, _, _, h, _, _ => h
  | n + 1, m, S, T, h, hm, hs => by
    have h1 := tS_R (v := v) (M := M) h hk (by omega) (hs (by omega)) h0 hn
    have h2 := tP_R hk h0 hn n (m + 1) h1 (by omega) (fun _ => hs (by omega))
    have e : m + (n + 1) = m + 1 + n := by omega
    rw [e]
    exact h2
theorem tA_R {ns r0 M : Nat} {S0 T0 S T : tSt} {pw : Nat → Nat} {t : Nat} (hk : k < 10) (h0 : ∀ i j, i < M → j < k → eo S0.1 S0.2.1 T0.1 T0.2.1 ((r0 + i) * 10 + j)) (hn : ∀ j, 0 < j → j < k → T0.1 (r0 * 10 + j) = 0 ∧ T0.2.1 (r0 * 10 + j) = 0)
    (hz : tR k r0 0 S0 T0 S T) (hs : ∀ v j, v < ns → j ≤ k → eo sl sh sl2 sh2 (v * 10 + j)) : ∀ u, pSum pw t u ≤ M → (∀ v, v < u → 0 < pw (t * 3 + v) → v < ns) → tR k r0 (pSum pw t u) S0 T0 (tA iv_look sl sh k pw t u S) (tA m_mk sl2 sh2 k pw t u T)
  | 0, _, _ => hz
  | u + 1, hM, hp => by
    have hM2 : pSum pw t u + pw (t * 3 + u) ≤ M := hM
    have ih := tA_R hk h0 hn hz hs u (by omega) (fun v hv => hp v (by omega))
    exact tP_R hk h0 hn _ _ ih hM2 (fun h9 j hj => hs u j (hp u (by omega) h9) hj)
theorem tA_stk {mk : mkT} (hm : stk mk) {pw : Nat → Nat} {t : Nat} : ∀ u {S : tSt}, ¬ S.2.2.1.2.2 = 0 → ¬ (tA mk sl sh k pw t u S).2.2.1.2.2 = 0
  | 0, _, h => h
  | u + 1, S, h => by
    have ih := tA_stk hm (pw := pw) (t := t) u h
    have : ∀ (n : Nat) (S : tSt), ¬ S.2.2.1.2.2 = 0 → ¬ (tP mk sl sh k u n S).2.2.1.2.2 = 0 := by
      intro n
      induction n with
      | zero => exact fun _ q => q
      | succ n i => exact fun S q => i _ (prK_stk hm q _)
    exact this _ _ ih
theorem nT_stk {mk : mkT} (hm : stk mk) {f g : Nat → Int64} {pw : Nat → Nat} {fr0 la : Nat} (h : ¬ be = 0) : ∀ n, ¬ (nT mk f g pw sl sh k fr0 la pl ph be n).2.2.2.2 = 0
  | 0 => h
  | n + 1 => by
    have ih := nT_stk hm (f := f) (g := g) (pw := pw) (fr0 := fr0) (la := la) h n
    refine stk_is hm (tA_stk hm 3 ?_)
    show ¬ (t0z _ _ _ _ _).2.2 = 0
    unfold t0z
    split
    · exact ih
    · exact ih
end SER
/-! sums of terms, one coefficient, all coefficients -/
section SER2
variable {pl ph pl2 ph2 sl sh sl2 sh2 : Nat → Int64} {k ns : Nat} {be b2 : Int32} {f g f2 g2 : Nat → Int64} {pw pw2 : Nat → Nat} {f0 N : Nat}
abbrev nR (k f0 n : Nat) (pw : Nat → Nat) (pl ph pl2 ph2 : Nat → Int64) (A B : nSt) : Prop := (fr k f0 (f0 + n * 7) pl A.1) ∧ (fr k f0 (f0 + n * 7) ph A.2.1) ∧ (fr k f0 (f0 + n * 7) pl2 B.1) ∧ (fr k f0 (f0 + n * 7) ph2 B.2.1) ∧ (zR A.2.2 B.2.2) ∧ (0 < k → ∀ t, t < n → B.1 ((f0 + t * 7) * 10 + k) = 0 ∧ B.2.1 ((f0 + t * 7) * 10 + k) = 0) ∧ (A.2.2.2.2 = 0 → ∀ t i, t < n → i ≤ pSum pw t 3 → eo A.1 A.2.1 B.1 B.2.1 ((f0 + t * 7 + i) * 10 + k))
theorem nR.w1 {k f0 n : Nat} {pw : Nat → Nat} {pl ph pl2 ph2 : Nat → Int64} {A B : nSt} (h9 : nR k f0 n pw pl ph pl2 ph2 A B) : fr k f0 (f0 + n * 7) pl A.1 := h9.1
theorem nR.w2 {k f0 n : Nat} {pw : Nat → Nat} {pl ph pl2 ph2 : Nat → Int64} {A B : nSt} (h9 : nR k f0 n pw pl ph pl2 ph2 A B) : fr k f0 (f0 + n * 7) ph A.2.1 := h9.2.1
theorem nR.w3 {k f0 n : Nat} {pw : Nat → Nat} {pl ph pl2 ph2 : Nat → Int64} {A B : nSt} (h9 : nR k f0 n pw pl ph pl2 ph2 A B) : fr k f0 (f0 + n * 7) pl2 B.1 := h9.2.2.1
theorem nR.w4 {k f0 n : Nat} {pw : Nat → Nat} {pl ph pl2 ph2 : Nat → Int64} {A B : nSt} (h9 : nR k f0 n pw pl ph pl2 ph2 A B) : fr k f0 (f0 + n * 7) ph2 B.2.1 := h9.2.2.2.1
theorem nR.z {k f0 n : Nat} {pw : Nat → Nat} {pl ph pl2 ph2 : Nat → Int64} {A B : nSt} (h9 : nR k f0 n pw pl ph pl2 ph2 A B) : zR A.2.2 B.2.2 := h9.2.2.2.2.1
theorem nR.n1 {k f0 n : Nat} {pw : Nat → Nat} {pl ph pl2 ph2 : Nat → Int64} {A B : nSt} (h9 : nR k f0 n pw pl ph pl2 ph2 A B) : 0 < k → ∀ t, t < n → B.1 ((f0 + t * 7) * 10 + k) = 0 ∧ B.2.1 ((f0 + t * 7) * 10 + k) = 0 := h9.2.2.2.2.2.1
theorem nR.c {k f0 n : Nat} {pw : Nat → Nat} {pl ph pl2 ph2 : Nat → Int64} {A B : nSt} (h9 : nR k f0 n pw pl ph pl2 ph2 A B) : A.2.2.2.2 = 0 → ∀ t i, t < n → i ≤ pSum pw t 3 → eo A.1 A.2.1 B.1 B.2.1 ((f0 + t * 7 + i) * 10 + k) := h9.2.2.2.2.2.2
theorem tA_pw {mk : mkT} {t : Nat} {S : tSt} (h : ∀ u, u < 3 → pw (t * 3 + u) = pw2 (t * 3 + u)) : tA mk sl sh k pw2 t 3 S = tA mk sl sh k pw t 3 S := by
  simp only [tA, h 0 (by omega), h 1 (by omega), h 2 (by omega)]
theorem nT_R (hk : k < 10) (hp : polyR ns N f g f2 g2 pw pw2) (h6 : ∀ t, t < N → pSum pw t 3 ≤ 6) (hs : ∀ v j, v < ns → j ≤ k → eo sl sh sl2 sh2 (v * 10 + j)) (he : be = 0) (he2 : b2 = 0)
    (h0 : ∀ t i j, t < N → i ≤ pSum pw t 3 → j < k → eo pl ph pl2 ph2 ((f0 + t * 7 + i) * 10 + j)) (hn : ∀ t j, t < N → 0 < j → j < k → pl2 ((f0 + t * 7) * 10 + j) = 0 ∧ ph2 ((f0 + t * 7) * 10 + j) = 0) :
    ∀ n, n ≤ N → nR k f0 n pw pl ph pl2 ph2 (nT iv_look f g pw sl sh k f0 0 pl ph be n) (nT m_mk f2 g2 pw2 sl2 sh2 k f0 k pl2 ph2 b2 n)
  | 0, _ => ⟨fr_rf, fr_rf, fr_rf, fr_rf, Or.inr ⟨he, he2, rfl, rfl, okI_0⟩, fun _ t ht => by omega, fun _ t i ht => by omega⟩
  | n + 1, hN => by
    have ih := nT_R hk hp h6 hs he he2 h0 hn n (by omega)
    obtain ⟨p1, p2, p3, p4⟩ := hp n (by omega)
    have h6n := h6 n (by omega)
    have hpw : ∀ (S : tSt), tA m_mk sl2 sh2 k pw2 n 3 S = tA m_mk sl2 sh2 k pw n 3 S := fun S => tA_pw (fun u hu => (p4 u hu).1)
    generalize hA : nT iv_look f g pw sl sh k f0 0 pl ph be n = A at ih
    generalize hB : nT m_mk f2 g2 pw2 sl2 sh2 k f0 k pl2 ph2 b2 n = B at ih
    have hz0 : zR (t0z f g n k A.2.2.2.2) (t0z f2 g2 n k B.2.2.2.2) := by
      unfold t0z
      rcases ih.z with ⟨i1, i2⟩ | ⟨i1, i2, -⟩
      · split
        · exact Or.inl ⟨i1, i2⟩
        · exact Or.inl ⟨i1, i2⟩
      · split
        · exact Or.inr ⟨i1, i2, p1, p2, p3⟩
        · exact Or.inr ⟨i1, i2, rfl, rfl, okI_0⟩
    have hI : tR k (f0 + n * 7) 0 (A.1, A.2.1, (0, 0, 0), 0, 0) (B.1, B.2.1, (0, 0, 0), 0, 0) (tI f g n k (f0 + n * 7) 0 A.1 A.2.1 A.2.2.2.2) (tI f2 g2 n k (f0 + n * 7) k B.1 B.2.1 B.2.2.2.2) := by
      refine ⟨rfl, rfl, fr_up (by omega) (by omega), fr_up (by omega) (by omega), fr_up (by omega) (by omega), fr_up (by omega) (by omega), hz0, ?_, Or.inl ⟨rfl, rfl, rfl⟩, ?_⟩
      · intro h9
        show vp_updL _ _ _ _ = _ ∧ vp_updL _ _ _ _ = _
        rw [upL_eq, upL_eq]
        unfold t0z
        rw [if_neg (by omega)]
        exact ⟨rfl, rfl⟩
      · intro hf i hi
        obtain rfl : i = 0 := by omega
        show vp_updL _ _ _ _ = vp_updL _ _ _ _ ∧ vp_updL _ _ _ _ = vp_updL _ _ _ _ ∧ okI (vp_updL _ _ _ _) (vp_updL _ _ _ _)
        rw [Nat.add_zero, upL_eq, upL_eq, upL_eq, upL_eq]
        rcases hz0 with ⟨q, -⟩ | ⟨-, -, q3, q4, q5⟩
        · exact absurd hf q
        · exact ⟨q3, q4, q5⟩
    have hT := tA_R (sl := sl) (sh := sh) (sl2 := sl2) (sh2 := sh2) (ns := ns) (r0 := f0 + n * 7) (M := pSum pw n 3 + 1) (pw := pw) (t := n) hk
      (by
        intro i j hi hj
        show A.1 _ = B.1 _ ∧ A.2.1 _ = B.2.1 _ ∧ okI (A.1 _) (A.2.1 _)
        rw [fr_row ih.w1 hk (by omega) (by omega), fr_row ih.w2 hk (by omega) (by omega), fr_row ih.w3 hk (by omega) (by omega), fr_row ih.w4 hk (by omega) (by omega)]
        exact h0 n i j (by omega) (by omega) hj)
      (by
        intro j hj hjk
        show B.1 _ = _ ∧ B.2.1 _ = _
        rw [fr_row ih.w3 hk (by omega) (by omega), fr_row ih.w4 hk (by omega) (by omega)]
        exact hn n j (by omega) hj hjk)
      hI hs 3 (by omega) (fun v hv h9 => (p4 v hv).2 h9)
    have hC : ∀ (Z : tSt), Z = tA iv_look sl sh k pw n 3 (tI f g n k (f0 + n * 7) 0 A.1 A.2.1 A.2.2.2.2) → nT iv_look f g pw sl sh k f0 0 pl ph be (n + 1) = (Z.1, Z.2.1, iS iv_look Z.2.2.1 A.2.2.1 A.2.2.2.1) := by
      rintro Z rfl
      rw [← hA]
      rfl
    have hD : ∀ (Z : tSt), Z = tA m_mk sl2 sh2 k pw n 3 (tI f2 g2 n k (f0 + n * 7) k B.1 B.2.1 B.2.2.2.2) → nT m_mk f2 g2 pw2 sl2 sh2 k f0 k pl2 ph2 b2 (n + 1) = (Z.1, Z.2.1, iS m_mk Z.2.2.1 B.2.2.1 B.2.2.2.1) := by
      rintro Z rfl
      rw [← hpw, ← hB]
      rfl
    generalize hX : tA iv_look sl sh k pw n 3 (tI f g n k (f0 + n * 7) 0 A.1 A.2.1 A.2.2.2.2) = X at hT
    generalize hY : tA m_mk sl2 sh2 k pw n 3 (tI f2 g2 n k (f0 + n * 7) k B.1 B.2.1 B.2.2.2.2) = Y at hT
    rw [hC X hX.symm, hD Y hY.symm]
    have hfl : X.2.2.1.2.2 = 0 → A.2.2.2.2 = 0 := fun q => Classical.byContradiction fun z => by
      rw [← hX] at q
      refine tA_stk stk_l 3 ?_ q
      show ¬ (t0z _ _ _ _ _).2.2 = 0
      unfold t0z
      split
      · exact z
      · exact z
    refine ⟨?_, ?_, ?_, ?_, ?_, ?_, ?_⟩
    · exact fr_tr (fr_w ih.w1 (Nat.le_refl _) (by omega)) (fr_w hT.f1 (by omega) (by omega))
    · exact fr_tr (fr_w ih.w2 (Nat.le_refl _) (by omega)) (fr_w hT.f2 (by omega) (by omega))
    · exact fr_tr (fr_w ih.w3 (Nat.le_refl _) (by omega)) (fr_w hT.f3 (by omega) (by omega))
    · exact fr_tr (fr_w ih.w4 (Nat.le_refl _) (by omega)) (fr_w hT.f4 (by omega) (by omega))
    · refine zR_is hT.z (fun q => ?_)
      rcases ih.z with ⟨i1, -⟩ | ⟨-, -, i3, i4, i5⟩
      · exact absurd (hfl q) i1
      · exact ⟨i3, i4, i5⟩
    · intro h9 t ht
      show Y.1 _ = _ ∧ Y.2.1 _ = _
      by_cases hq : t = n
      · subst hq
        exact hT.n1 h9
      · rw [fr_row hT.f3 hk hk (by omega), fr_row hT.f4 hk hk (by omega)]
        exact ih.n1 h9 t (by omega)
    · intro hf t i ht hi
      have hf1 : X.2.2.1.2.2 = 0 := Classical.byContradiction fun q => stk_is stk_l q hf
      show X.1 _ = Y.1 _ ∧ X.2.1 _ = Y.2.1 _ ∧ okI (X.1 _) (X.2.1 _)
      by_cases hq : t = n
      · subst hq
        exact hT.c hf1 i hi
      · have h6t := h6 t (by omega)
        rw [fr_row hT.f1 hk hk (by omega), fr_row hT.f2 hk hk (by omega), fr_row hT.f3 hk hk (by omega), fr_row hT.f4 hk hk (by omega)]
        exact ih.c (hfl hf1) t i (by omega) hi
end SER2
theorem dn_b {x y : Int64} (hy : 0 < y.toInt) (hx : -1073741824 ≤ x.toInt) (hx2 : x.toInt ≤ 1073741824) : (dn x y).toInt * y.toInt ≤ x.toInt ∧ x.toInt < (dn x y).toInt * y.toInt + y.toInt := by
  have q1 := div_i (x := x) hy
  have q2 := divm_i (x := x) hy
  have h1 : (1 : Int64).toInt = 1 := by decide
  unfold dn
  by_cases hn : 0 ≤ x.toInt
  · have t := tdiv_pos hn hy
    rw [if_neg (by rw [Int64.lt_iff_toInt_lt, q2]; omega), q1]
    exact ⟨t.2.2.1, t.2.2.2⟩
  · have t := tdiv_neg (x := x.toInt) (by omega) hy
    split
    · rename_i q
      rw [Int64.lt_iff_toInt_lt, q2] at q
      rw [sub_i (by omega) (by omega), q1, h1, Int.sub_mul]
      omega
    · rename_i q
      rw [Int64.lt_iff_toInt_lt, q2] at q
      rw [q1]
      omega
theorem k1_L {k : Nat} (hk : k < 10) : (nI k).toInt64 + 1 = (nI (k + 1)).toInt64 ∧ (nI (k + 1)).toInt64.toInt = (k : Int) + 1 := by
  have h1 : (1 : Int64).toInt = 1 := by decide
  have a := nI_l (n := k) (by omega)
  have b := nI_l (n := k + 1) (by omega)
  have c := lN_toInt (n := k) (by omega)
  have d := lN_toInt (n := k + 1) (by omega)
  refine ⟨Int64.toInt_inj.mp ?_, by rw [b, d]; omega⟩
  rw [a, b, d, add_i (by omega) (by omega), c, h1]
  omega
theorem ov_ok {x y : Int64} {k : Nat} (hk : k < 10) (h : okI x y) : okI (dn x (nI (k + 1)).toInt64) (-dn (-y) (nI (k + 1)).toInt64) := by
  obtain ⟨h1, h2, h3⟩ := h
  have e := (k1_L hk).2
  have hn := neg_i (x := y) (by omega) (by omega)
  have a := dn_b (x := x) (y := (nI (k + 1)).toInt64) (by omega) h1 (by omega)
  have b := dn_b (x := -y) (y := (nI (k + 1)).toInt64) (by omega) (by omega) (by omega)
  rw [e] at a b
  rw [hn] at b
  unfold okI
  generalize (dn x (nI (k + 1)).toInt64).toInt = p at a ⊢
  generalize hq : dn (-y) (nI (k + 1)).toInt64 = q at b ⊢
  have hb : -1073741824 ≤ q.toInt ∧ q.toInt ≤ 1073741824 ∧ p + q.toInt ≤ 0 ∧ -1073741824 ≤ p := by
    match k, hk with
    | 0, _ => omega
    | 1, _ => omega
    | 2, _ => omega
    | 3, _ => omega
    | 4, _ => omega
    | 5, _ => omega
    | 6, _ => omega
    | 7, _ => omega
    | 8, _ => omega
    | 9, _ => omega
  rw [neg_i (by omega) (by omega)]
  omega
theorem ov_R {a b : zz} {k : Nat} (hk : k < 10) (h : zR a b) : zR (ov_lo a k, ov_hi a k, a.2.2) (ovM b k) := by
  have e := k1_L hk
  have e2 : ov_lo a k = dn a.1 (nI (k + 1)).toInt64 := (dn_fdiv (by rw [e.2]; omega)).symm
  have e3 : ov_hi a k = -dn (-a.2.1) (nI (k + 1)).toInt64 := by unfold ov_hi; rw [dn_fdiv (by rw [e.2]; omega)]
  unfold ovM
  rw [e.1, e2, e3]
  rcases h with ⟨h1, h2⟩ | ⟨h1, h2, h3, h4, h5⟩
  · exact Or.inl ⟨h1, stk_m _ _ _ h2⟩
  · have o := ov_ok hk h5
    rw [h2, ← h3, ← h4, mk_m o]
    exact Or.inr ⟨h1, rfl, rfl, rfl, o⟩
section FILL
variable {ns : Nat} {nt : Nat → Nat} {F G : Nat → Nat → Int64} {PW : Nat → Nat → Nat} {mn : Nat → Nat} {fl fh : Nat → Int64} {pw : Nat → Nat} {ro k : Nat}
/-- at coefficient k the first v sides are done -/
abbrev fR (ns : Nat) (nt : Nat → Nat) (PW : Nat → Nat → Nat) (ro k v : Nat) (S T : fSt) : Prop := (S.2.2.2.2 = 0 ↔ T.2.2.2.2 = 0) ∧ (S.2.2.2.2 = 0 → ∀ u j, u < ns → (j ≤ k ∨ (j = k + 1 ∧ u < v)) → eo S.1 S.2.1 (fun i => T.1 (ro + i)) (fun i => T.2.1 (ro + i)) (u * 10 + j)) ∧ (S.2.2.2.2 = 0 → ∀ u t i j, u < ns → t < nt u → i ≤ pSum (PW u) t 3 → (j < k ∨ (j = k ∧ u < v)) → eo S.2.2.1 S.2.2.2.1 T.2.2.1 T.2.2.2.1 ((u * 84 + t * 7 + i) * 10 + j)) ∧ (S.2.2.2.2 = 0 → ∀ u t j, u < ns → t < nt u → 0 < j → (j < k ∨ (j = k ∧ u < v)) → T.2.2.1 ((u * 84 + t * 7) * 10 + j) = 0 ∧ T.2.2.2.1 ((u * 84 + t * 7) * 10 + j) = 0)
theorem fR.gg {ns : Nat} {nt : Nat → Nat} {PW : Nat → Nat → Nat} {ro k v : Nat} {S T : fSt} (h9 : fR ns nt PW ro k v S T) : S.2.2.2.2 = 0 ↔ T.2.2.2.2 = 0 := h9.1
theorem fR.s {ns : Nat} {nt : Nat → Nat} {PW : Nat → Nat → Nat} {ro k v : Nat} {S T : fSt} (h9 : fR ns nt PW ro k v S T) : S.2.2.2.2 = 0 → ∀ u j, u < ns → (j ≤ k ∨ (j = k + 1 ∧ u < v)) → eo S.1 S.2.1 (fun i => T.1 (ro + i)) (fun i => T.2.1 (ro + i)) (u * 10 + j) := h9.2.1
theorem fR.p {ns : Nat} {nt : Nat → Nat} {PW : Nat → Nat → Nat} {ro k v : Nat} {S T : fSt} (h9 : fR ns nt PW ro k v S T) : S.2.2.2.2 = 0 → ∀ u t i j, u < ns → t < nt u → i ≤ pSum (PW u) t 3 → (j < k ∨ (j = k ∧ u < v)) → eo S.2.2.1 S.2.2.2.1 T.2.2.1 T.2.2.2.1 ((u * 84 + t * 7 + i) * 10 + j) := h9.2.2.1
theorem fR.n {ns : Nat} {nt : Nat → Nat} {PW : Nat → Nat → Nat} {ro k v : Nat} {S T : fSt} (h9 : fR ns nt PW ro k v S T) : S.2.2.2.2 = 0 → ∀ u t j, u < ns → t < nt u → 0 < j → (j < k ∨ (j = k ∧ u < v)) → T.2.2.1 ((u * 84 + t * 7) * 10 + j) = 0 ∧ T.2.2.2.1 ((u * 84 + t * 7) * 10 + j) = 0 := h9.2.2.2
theorem fI_R (ok : pOk ns nt PW) (hp : pR ns nt F G PW mn fl fh pw) (hk : k + 1 < 10) {S T : fSt} (h : fR ns nt PW ro k 0 S T) : ∀ v, v ≤ ns → fR ns nt PW ro k v (fI iv_look nt F G PW 0 k v S) (fIM mn fl fh pw ro k v T)
  | 0, _ => h
  | v + 1, hv => by
    have ih := fI_R ok hp hk h v (by omega)
    obtain ⟨q1, q2⟩ := hp v (by omega)
    obtain ⟨o1, o2, o3⟩ := ok.2 v (by omega)
    have hC : ∀ A, A = fI iv_look nt F G PW 0 k v S → ∀ Z, Z = nT iv_look (F v) (G v) (PW v) A.1 A.2.1 k (v * 84) 0 A.2.2.1 A.2.2.2.1 A.2.2.2.2 (nt v) → fI iv_look nt F G PW 0 k (v + 1) S = (vp_updL A.1 (v * 10 + (k + 1)) (ov_lo Z.2.2 k), vp_updL A.2.1 (v * 10 + (k + 1)) (ov_hi Z.2.2 k), Z.1, Z.2.1, Z.2.2.2.2) := by
      rintro A rfl Z rfl
      rfl
    have hD : ∀ B, B = fIM mn fl fh pw ro k v T → ∀ Z, Z = nTM mn fl fh pw ro k v B → fIM mn fl fh pw ro k (v + 1) T = (vp_updL B.1 (ro + 10 * v + k + 1) (ovM Z.2.2 k).1, vp_updL B.2.1 (ro + 10 * v + k + 1) (ovM Z.2.2 k).2.1, Z.1, Z.2.1, (ovM Z.2.2 k).2.2) := by
      rintro B rfl Z rfl
      rfl
    generalize hA : fI iv_look nt F G PW 0 k v S = A at ih
    generalize hB : fIM mn fl fh pw ro k v T = B at ih
    generalize hX : nT iv_look (F v) (G v) (PW v) A.1 A.2.1 k (v * 84) 0 A.2.2.1 A.2.2.2.1 A.2.2.2.2 (nt v) = X
    generalize hY : nTM mn fl fh pw ro k v B = Y
    rw [hC A hA.symm X hX.symm, hD B hB.symm Y hY.symm]
    by_cases hf : A.2.2.2.2 = 0
    · have hf2 := ih.gg.mp hf
      have hn := nT_R (k := k) (ns := ns) (f := F v) (g := G v) (f2 := fun t => fl (12 * v + t)) (g2 := fun t => fh (12 * v + t)) (pw := PW v) (pw2 := fun j => pw (36 * v + j)) (f0 := v * 84) (N := nt v) (sl := A.1) (sh := A.2.1) (sl2 := fun i => B.1 (ro + i)) (sh2 := fun i => B.2.1 (ro + i))
        (by omega) q2 o3 (fun u j hu hj => ih.s hf u j hu (Or.inl hj)) hf hf2 (fun t i j ht hi hj => ih.p hf v t i j (by omega) ht hi (Or.inl hj)) (fun t j ht h0 hj => ih.n hf v t j (by omega) ht h0 (Or.inl hj)) (nt v) (Nat.le_refl _)
      have hY2 : nT m_mk (fun t => fl (12 * v + t)) (fun t => fh (12 * v + t)) (fun j => pw (36 * v + j)) (fun i => B.1 (ro + i)) (fun i => B.2.1 (ro + i)) k (v * 84) k B.2.2.1 B.2.2.2.1 B.2.2.2.2 (nt v) = Y := by
        rw [← hY, q1, Nat.mul_comm v 84]
        rfl
      rw [hX, hY2] at hn
      have hz := ov_R (k := k) (by omega) hn.z
      have hk10 : k < 10 := by omega
      have hzf : X.2.2.2.2 = 0 ↔ (ovM Y.2.2 k).2.2 = 0 := by
        rcases hz with ⟨z1, z2⟩ | ⟨z1, z2, -⟩
        · exact ⟨fun q => absurd q z1, fun q => absurd q z2⟩
        · exact ⟨fun _ => z2, fun _ => z1⟩
      refine ⟨hzf, ?_, ?_, ?_⟩
      · intro h9 u j hu hj
        show vp_updL _ _ _ _ = vp_updL _ _ _ _ ∧ vp_updL _ _ _ _ = vp_updL _ _ _ _ ∧ okI (vp_updL _ _ _ _) (vp_updL _ _ _ _)
        by_cases hq : u = v ∧ j = k + 1
        · obtain ⟨rfl, rfl⟩ := hq
          have e : ro + (u * 10 + (k + 1)) = ro + 10 * u + k + 1 := by omega
          rw [e, upL_eq, upL_eq, upL_eq, upL_eq]
          rcases hz with ⟨z1, -⟩ | ⟨-, -, z3, z4, z5⟩
          · exact absurd h9 z1
          · exact ⟨z3, z4, z5⟩
        · have hne : ¬ u * 10 + j = v * 10 + (k + 1) := by omega
          rw [upL_ne _ _ hne, upL_ne _ _ hne, upL_ne _ _ (by omega), upL_ne _ _ (by omega)]
          exact ih.s hf u j hu (by omega)
      · intro h9 u t i j hu ht hi hj
        have oi := (ok.2 u hu).2.2 t ht
        have ot := (ok.2 u hu).2.1
        show X.1 _ = Y.1 _ ∧ X.2.1 _ = Y.2.1 _ ∧ okI (X.1 _) (X.2.1 _)
        by_cases hq : u = v ∧ j = k
        · obtain ⟨rfl, rfl⟩ := hq
          exact hn.c h9 t i ht hi
        · have hr : (u * 84 + t * 7 + i < v * 84 ∨ v * 84 + nt v * 7 ≤ u * 84 + t * 7 + i) ∨ ¬ j = k := by omega
          rcases hr with hr | hr
          · rw [fr_row hn.w1 hk10 (by omega) hr, fr_row hn.w2 hk10 (by omega) hr, fr_row hn.w3 hk10 (by omega) hr, fr_row hn.w4 hk10 (by omega) hr]
            exact ih.p hf u t i j hu ht hi (by omega)
          · rw [fr_col hn.w1 hk10 (by omega) hr, fr_col hn.w2 hk10 (by omega) hr, fr_col hn.w3 hk10 (by omega) hr, fr_col hn.w4 hk10 (by omega) hr]
            exact ih.p hf u t i j hu ht hi (by omega)
      · intro h9 u t j hu ht h0 hj
        have ot := (ok.2 u hu).2.1
        show Y.1 _ = _ ∧ Y.2.1 _ = _
        by_cases hq : u = v ∧ j = k
        · obtain ⟨rfl, rfl⟩ := hq
          exact hn.n1 h0 t ht
        · have hr : (u * 84 + t * 7 < v * 84 ∨ v * 84 + nt v * 7 ≤ u * 84 + t * 7) ∨ ¬ j = k := by omega
          rcases hr with hr | hr
          · rw [fr_row hn.w3 hk10 (by omega) hr, fr_row hn.w4 hk10 (by omega) hr]
            exact ih.n hf u t j hu ht h0 (by omega)
          · rw [fr_col hn.w3 hk10 (by omega) hr, fr_col hn.w4 hk10 (by omega) hr]
            exact ih.n hf u t j hu ht h0 (by omega)
    · have hf2 : ¬ B.2.2.2.2 = 0 := fun q => hf (ih.gg.mpr q)
      have g1 : ¬ X.2.2.2.2 = 0 := by rw [← hX]; exact nT_stk stk_l hf _
      have g2 : ¬ (ovM Y.2.2 k).2.2 = 0 := by rw [← hY]; exact stk_m _ _ _ (nT_stk stk_m hf2 _)
      exact ⟨⟨fun q => absurd q g1, fun q => absurd q g2⟩, fun q => absurd q g1, fun q => absurd q g1, fun q => absurd q g1⟩
theorem fIM_stk {T : fSt} (h : ¬ T.2.2.2.2 = 0) : ∀ v, ¬ (fIM mn fl fh pw ro k v T).2.2.2.2 = 0
  | 0 => h
  | v + 1 => stk_m _ _ _ (nT_stk stk_m (fIM_stk h v) _)
theorem fO_R (ok : pOk ns nt PW) (hp : pR ns nt F G PW mn fl fh pw) {S T : fSt} (h : fR ns nt PW ro 0 0 S T) : ∀ n, n < 10 → fR ns nt PW ro n 0 (fO nt F G PW ns n S) (fOM mn fl fh pw ro ns n T)
  | 0, _ => h
  | n + 1, hn => by
    have ih := fO_R ok hp h n (by omega)
    unfold fO fOM
    generalize fO nt F G PW ns n S = A at ih ⊢
    generalize fOM mn fl fh pw ro ns n T = B at ih ⊢
    by_cases hf : A.2.2.2.2 = 0
    · rw [if_pos hf]
      have hi := fI_R ok hp (k := n) hn ih ns (Nat.le_refl _)
      exact ⟨hi.gg, fun h9 u j hu hj => hi.s h9 u j hu (by omega), fun h9 u t i j hu ht hi' hj => hi.p h9 u t i j hu ht hi' (by omega), fun h9 u t j hu ht h0 hj => hi.n h9 u t j hu ht h0 (by omega)⟩
    · rw [if_neg hf]
      have g2 := fIM_stk (mn := mn) (fl := fl) (fh := fh) (pw := pw) (ro := ro) (k := n) (fun q => hf (ih.gg.mpr q) : ¬ B.2.2.2.2 = 0) ns
      exact ⟨⟨fun q => absurd q hf, fun q => absurd q g2⟩, fun q => absurd q hf, fun q => absurd q hf, fun q => absurd q hf⟩
theorem fOM_stk {T : fSt} (h : ¬ T.2.2.2.2 = 0) : ∀ n, ¬ (fOM mn fl fh pw ro ns n T).2.2.2.2 = 0
  | 0 => h
  | n + 1 => fIM_stk (fOM_stk h n) ns
theorem fIM_keep {T : fSt} {i : Nat} (hk : k + 1 < 10) : ∀ v, (i < ro ∨ ro + 10 * v ≤ i) → (fIM mn fl fh pw ro k v T).1 i = T.1 i ∧ (fIM mn fl fh pw ro k v T).2.1 i = T.2.1 i
  | 0, _ => ⟨rfl, rfl⟩
  | v + 1, h => ⟨(upL_ne _ _ (by omega)).trans (fIM_keep hk v (by omega)).1, (upL_ne _ _ (by omega)).trans (fIM_keep hk v (by omega)).2⟩
theorem fOM_keep {T : fSt} {i : Nat} (h : i < ro ∨ ro + 10 * ns ≤ i) : ∀ n, n < 10 → (fOM mn fl fh pw ro ns n T).1 i = T.1 i ∧ (fOM mn fl fh pw ro ns n T).2.1 i = T.2.1 i
  | 0, _ => ⟨rfl, rfl⟩
  | n + 1, hn => by
    have a := fIM_keep (mn := mn) (fl := fl) (fh := fh) (pw := pw) (T := fOM mn fl fh pw ro ns n T) (k := n) hn ns h
    have b := fOM_keep (T := T) h n (by omega)
    exact ⟨a.1.trans b.1, a.2.trans b.2⟩
theorem fB_at {bl bh sl sh : Nat → Int64} : ∀ n u, u < n → (fB bl bh sl sh n).1 (u * 10) = bl u ∧ (fB bl bh sl sh n).2 (u * 10) = bh u
  | n + 1, u, h => by
    by_cases hq : u = n
    · subst hq
      exact ⟨upL_eq _ _ _, upL_eq _ _ _⟩
    · have ih := fB_at (bl := bl) (bh := bh) (sl := sl) (sh := sh) n u (by omega)
      exact ⟨(upL_ne _ _ (by omega)).trans ih.1, (upL_ne _ _ (by omega)).trans ih.2⟩
theorem pBx_at {pr : Int32} {xl xh pf pg sl sh : Nat → Int64} : ∀ n u, u < n → (pBx pr ro xl xh pf pg sl sh n).1 (ro + 10 * u) = (if pr = 0 then xl u else pf u) ∧ (pBx pr ro xl xh pf pg sl sh n).2 (ro + 10 * u) = (if pr = 0 then xh u else pg u)
  | n + 1, u, h => by
    by_cases hq : u = n
    · subst hq
      exact ⟨upL_eq _ _ _, upL_eq _ _ _⟩
    · have ih := pBx_at (pr := pr) (xl := xl) (xh := xh) (pf := pf) (pg := pg) (sl := sl) (sh := sh) n u (by omega)
      exact ⟨(upL_ne _ _ (by omega)).trans ih.1, (upL_ne _ _ (by omega)).trans ih.2⟩
theorem pBx_keep {pr : Int32} {xl xh pf pg sl sh : Nat → Int64} {i : Nat} : ∀ n, (i < ro ∨ ro + 10 * n ≤ i) → (pBx pr ro xl xh pf pg sl sh n).1 i = sl i ∧ (pBx pr ro xl xh pf pg sl sh n).2 i = sh i
  | 0, _ => ⟨rfl, rfl⟩
  | n + 1, h => ⟨(upL_ne _ _ (by omega)).trans (pBx_keep n (by omega)).1, (upL_ne _ _ (by omega)).trans (pBx_keep n (by omega)).2⟩
/-- a fill over equal boxes -/
theorem fill_R (ok : pOk ns nt PW) (hp : pR ns nt F G PW mn fl fh pw) {bl bh b2l b2h sl sh pl ph pl2 ph2 tl th : Nat → Int64} {be b2 : Int32} (he : be = 0) (he2 : b2 = 0) (hb : aR ns bl bh b2l b2h) (ht : ∀ u, u < ns → tl (ro + 10 * u) = b2l u ∧ th (ro + 10 * u) = b2h u) {n : Nat} (hn : n < 10) :
    fR ns nt PW ro n 0 (fO nt F G PW ns n ((fB bl bh sl sh ns).1, (fB bl bh sl sh ns).2, pl, ph, be)) (fOM mn fl fh pw ro ns n (tl, th, pl2, ph2, b2)) := by
  refine fO_R ok hp ⟨⟨fun _ => he2, fun _ => he⟩, ?_, fun _ u t i j hu hT hi hj => by omega, fun _ u t j hu hT h0 hj => by omega⟩ n hn
  intro _ u j hu hj
  obtain rfl : j = 0 := by omega
  have a := fB_at (bl := bl) (bh := bh) (sl := sl) (sh := sh) ns u hu
  have c := ht u hu
  obtain ⟨b1, b3, b4⟩ := hb u hu
  have e : ro + (u * 10 + 0) = ro + 10 * u := by omega
  show (fB bl bh sl sh ns).1 (u * 10 + 0) = tl (ro + (u * 10 + 0)) ∧ (fB bl bh sl sh ns).2 (u * 10 + 0) = th (ro + (u * 10 + 0)) ∧ okI ((fB bl bh sl sh ns).1 (u * 10 + 0)) ((fB bl bh sl sh ns).2 (u * 10 + 0))
  rw [Nat.add_zero, a.1, a.2, ← Nat.add_zero (u * 10), e, c.1, c.2]
  exact ⟨b1, b3, b4⟩
end FILL
/-! narrowing: class and reference -/
section NARROW
variable {ns : Nat} {nt : Nat → Nat} {F G : Nat → Nat → Int64} {PW : Nat → Nat → Nat} {mn : Nat → Nat} {fl fh : Nat → Int64} {pw : Nat → Nat}
theorem aU_stk {mk : mkT} (hs : stk mk) {sl sh : Nat → Int64} {v : Nat} {ht : Int64} : ∀ n {z : zz}, ¬ z.2.2 = 0 → ¬ (aU mk sl sh v ht n z).2.2 = 0
  | 0, _, h => h
  | n + 1, _, h => aU_stk hs n (stk_is hs (stk_it hs h))
theorem aU_R {sl sh sl2 sh2 : Nat → Int64} {v : Nat} {ht : Int64} (ho : okI ht ht) : ∀ n {a b : zz}, zR a b → (∀ j, j < n → eo sl sh sl2 sh2 (v * 10 + j)) → zR (aU iv_look sl sh v ht n a) (aU m_mk sl2 sh2 v ht n b)
  | 0, _, _, h, _ => h
  | n + 1, a, b, h, hs => aU_R ho n (zR_is (zR_it h (fun _ => ho)) (fun _ => hs n (by omega))) (fun j hj => hs j (by omega))
theorem kp_ok {lo hi x y : Int64} (h : okI lo hi) (k : okI x y) : okI (kp_lo lo hi x y) (kp_hi lo hi x y) := by
  have a := lmin_i hi y
  have b := lmax_i lo x
  obtain ⟨h1, h2, h3⟩ := h
  obtain ⟨k1, k2, k3⟩ := k
  unfold kp_lo kp_hi
  by_cases q : lmin hi y < lmax lo x
  · rw [if_pos q, if_pos q]
    exact ⟨k1, k2, k3⟩
  · rw [if_neg q, if_neg q]
    rw [Int64.lt_iff_toInt_lt] at q
    exact ⟨by omega, by omega, by omega⟩
theorem nL_R {sl sh sl2 sh2 rl rh rl2 rh2 pf pg pf2 pg2 nl nh nl2 nh2 : Nat → Int64} {ht : Int64} {od : Nat} {be b2 : Int32} (ho : okI ht ht) (he : be = 0) (he2 : b2 = 0) (hs : ∀ u j, u < ns → j ≤ od → eo sl sh sl2 sh2 (u * 10 + j)) (hr : aR ns rl rh rl2 rh2) (hp : aR ns pf pg pf2 pg2) :
    ∀ n, n ≤ ns → sR n (nL iv_look sl sh rl rh pf pg ht od nl nh be n) (nL m_mk sl2 sh2 rl2 rh2 pf2 pg2 ht od nl2 nh2 b2 n)
  | 0, _ => Or.inr ⟨he, he2, fun u hu => by omega⟩
  | n + 1, hn => by
    have ih := nL_R ho he he2 hs hr hp n (by omega) (nl := nl) (nh := nh) (nl2 := nl2) (nh2 := nh2)
    unfold nL
    generalize nL iv_look sl sh rl rh pf pg ht od nl nh be n = A at ih ⊢
    generalize nL m_mk sl2 sh2 rl2 rh2 pf2 pg2 ht od nl2 nh2 b2 n = B at ih ⊢
    obtain ⟨r1, r2, r3⟩ := hr n (by omega)
    obtain ⟨p1, p2, p3⟩ := hp n (by omega)
    have hz : zR (nV iv_look sl sh rl rh ht od A.2.2 n) (nV m_mk sl2 sh2 rl2 rh2 ht od B.2.2 n) := by
      refine aU_R ho _ ?_ (fun j hj => hs n j (by omega) (by omega))
      rcases ih with ⟨i1, i2⟩ | ⟨i1, i2, -⟩
      · exact Or.inl ⟨i1, i2⟩
      · exact Or.inr ⟨i1, i2, r1, r2, r3⟩
    have s1 : ¬ A.2.2 = 0 → ¬ (nV iv_look sl sh rl rh ht od A.2.2 n).2.2 = 0 := fun q => aU_stk stk_l _ q
    have s2 : ¬ B.2.2 = 0 → ¬ (nV m_mk sl2 sh2 rl2 rh2 ht od B.2.2 n).2.2 = 0 := fun q => aU_stk stk_m _ q
    generalize nV iv_look sl sh rl rh ht od A.2.2 n = X at hz s1 ⊢
    generalize nV m_mk sl2 sh2 rl2 rh2 ht od B.2.2 n = Y at hz s2 ⊢
    have hz2 : zR (kp_lo X.1 X.2.1 (pf n) (pg n), kp_hi X.1 X.2.1 (pf n) (pg n), X.2.2) (kp_lo Y.1 Y.2.1 (pf2 n) (pg2 n), kp_hi Y.1 Y.2.1 (pf2 n) (pg2 n), Y.2.2) := by
      rcases hz with ⟨z1, z2⟩ | ⟨z1, z2, z3, z4, z5⟩
      · exact Or.inl ⟨z1, z2⟩
      · rw [← z3, ← z4, ← p1, ← p2]
        exact Or.inr ⟨z1, z2, rfl, rfl, kp_ok z5 p3⟩
    exact sR_upd ih hz2 s1 s2
theorem nL_stk {mk : mkT} (hm : stk mk) {sl sh rl rh pf pg nl nh : Nat → Int64} {ht : Int64} {od : Nat} {be : Int32} (h : ¬ be = 0) : ∀ n, ¬ (nL mk sl sh rl rh pf pg ht od nl nh be n).2.2 = 0
  | 0 => h
  | n + 1 => aU_stk hm _ (nL_stk hm h n)
theorem rsC_at {sl sh rl rh : Nat → Int64} {od : Nat} : ∀ n u, u < n → (rsC sl sh od rl rh n).1 u = sl (u * 10 + (od + 1)) ∧ (rsC sl sh od rl rh n).2 u = sh (u * 10 + (od + 1))
  | n + 1, u, h => by
    by_cases hq : u = n
    · subst hq
      exact ⟨upL_eq _ _ _, upL_eq _ _ _⟩
    · have ih := rsC_at (sl := sl) (sh := sh) (rl := rl) (rh := rh) (od := od) n u (by omega)
      exact ⟨(upL_ne _ _ hq).trans ih.1, (upL_ne _ _ hq).trans ih.2⟩
def nwQ (ns : Nat) (a : Int32 × (Nat → Int64) × (Nat → Int64)) (b : s3) : Prop := (a.1 = nI 0 ∧ b.2.2 = 0 ∧ aR ns a.2.1 a.2.2 b.1 b.2.1) ∨ (a.1 = nI 2 ∧ ¬ b.2.2 = 0)
theorem nw_R (ok : pOk ns nt PW) (hp : pR ns nt F G PW mn fl fh pw) {xl xh x2 y2 pf pg pf2 pg2 sl sh sl2 sh2 pl ph pl2 ph2 rl rh nl nh nl2 nh2 : Nat → Int64} {ht : Int64} {od : Nat} {be b2 : Int32} (hx : aR ns xl xh x2 y2) (hq : aR ns pf pg pf2 pg2) (ho : okI ht ht) (hod : od < 9) (he : be = 0) (he2 : b2 = 0) :
    nwQ ns (nwR nt F G PW ns xl xh pf pg sl sh pl ph rl rh nl nh ht od be) (auR mn fl fh pw ns od x2 y2 pf2 pg2 sl2 sh2 pl2 ph2 b2 ht nl2 nh2) := by
  have hns := ok.1
  have hD : ∀ D1, D1 = fO nt F G PW ns (od + 1) (fS0 pf pg sl sh pl ph ns) → ∀ D2, D2 = fO nt F G PW ns od (fS0 xl xh D1.1 D1.2.1 D1.2.2.1 D1.2.2.2.1 ns) → ∀ N, N = nL iv_look D2.1 D2.2.1 (rsC D1.1 D1.2.1 od rl rh ns).1 (rsC D1.1 D1.2.1 od rl rh ns).2 pf pg ht od nl nh be ns →
      nwR nt F G PW ns xl xh pf pg sl sh pl ph rl rh nl nh ht od be = if D1.2.2.2.2 = 0 then (if D2.2.2.2.2 = 0 then (if N.2.2 = 0 then nI 0 else nI 2, N.1, N.2.1) else (nI 2, nl, nh)) else (nI 2, nl, nh) := by
    rintro D1 rfl D2 rfl N rfl
    rfl
  generalize hD1 : fO nt F G PW ns (od + 1) (fS0 pf pg sl sh pl ph ns) = D1 at hD
  generalize hD2 : fO nt F G PW ns od (fS0 xl xh D1.1 D1.2.1 D1.2.2.1 D1.2.2.2.1 ns) = D2
  rw [hD D1 rfl D2 hD2.symm _ rfl]
  have n0 : nI 0 = (0 : Int32) := by decide
  have hB := fill_R (ro := 0) ok hp (bl := xl) (bh := xh) (b2l := x2) (b2h := y2) (sl := D1.1) (sh := D1.2.1) (pl := D1.2.2.1) (ph := D1.2.2.2.1) (pl2 := pl2) (ph2 := ph2) (tl := (pBx (nI 0) 0 x2 y2 pf2 pg2 sl2 sh2 ns).1) (th := (pBx (nI 0) 0 x2 y2 pf2 pg2 sl2 sh2 ns).2) (be := nI 0) (b2 := b2) n0 he2 hx
    (fun u hu => pBx_at (ro := 0) (pr := nI 0) (xl := x2) (xh := y2) (pf := pf2) (pg := pg2) (sl := sl2) (sh := sh2) ns u hu) (n := od) (by omega)
  change fR ns nt PW 0 od 0 (fO nt F G PW ns od (fS0 xl xh D1.1 D1.2.1 D1.2.2.1 D1.2.2.2.1 ns)) (auB mn fl fh pw ns od x2 y2 pf2 pg2 sl2 sh2 pl2 ph2 b2) at hB
  rw [hD2] at hB
  unfold auR auD auC
  generalize auB mn fl fh pw ns od x2 y2 pf2 pg2 sl2 sh2 pl2 ph2 b2 = B at hB ⊢
  by_cases hf : B.2.2.2.2 = 0
  · have hf2 := hB.gg.mpr hf
    have hP := fill_R (ro := 30) ok hp (bl := pf) (bh := pg) (b2l := pf2) (b2h := pg2) (sl := sl) (sh := sh) (pl := pl) (ph := ph) (pl2 := B.2.2.1) (ph2 := B.2.2.2.1) (tl := (pBx (nI 1) 30 x2 y2 pf2 pg2 B.1 B.2.1 ns).1) (th := (pBx (nI 1) 30 x2 y2 pf2 pg2 B.1 B.2.1 ns).2) (be := nI 0) (b2 := B.2.2.2.2) n0 hf hq
      (fun u hu => pBx_at (ro := 30) (pr := nI 1) (xl := x2) (xh := y2) (pf := pf2) (pg := pg2) (sl := B.1) (sh := B.2.1) ns u hu) (n := od + 1) (by omega)
    change fR ns nt PW 30 (od + 1) 0 (fO nt F G PW ns (od + 1) (fS0 pf pg sl sh pl ph ns)) _ at hP
    rw [hD1] at hP
    have hkeep : ∀ i, i < 30 → (fOM mn fl fh pw 30 ns (od + 1) ((pBx (nI 1) 30 x2 y2 pf2 pg2 B.1 B.2.1 ns).1, (pBx (nI 1) 30 x2 y2 pf2 pg2 B.1 B.2.1 ns).2, B.2.2.1, B.2.2.2.1, B.2.2.2.2)).1 i = B.1 i ∧ (fOM mn fl fh pw 30 ns (od + 1) ((pBx (nI 1) 30 x2 y2 pf2 pg2 B.1 B.2.1 ns).1, (pBx (nI 1) 30 x2 y2 pf2 pg2 B.1 B.2.1 ns).2, B.2.2.1, B.2.2.2.1, B.2.2.2.2)).2.1 i = B.2.1 i := by
      intro i hi
      have a := fOM_keep (mn := mn) (fl := fl) (fh := fh) (pw := pw) (ro := 30) (ns := ns) (T := ((pBx (nI 1) 30 x2 y2 pf2 pg2 B.1 B.2.1 ns).1, (pBx (nI 1) 30 x2 y2 pf2 pg2 B.1 B.2.1 ns).2, B.2.2.1, B.2.2.2.1, B.2.2.2.2)) (i := i) (Or.inl hi) (od + 1) (by omega)
      have b := pBx_keep (ro := 30) (pr := nI 1) (xl := x2) (xh := y2) (pf := pf2) (pg := pg2) (sl := B.1) (sh := B.2.1) (i := i) ns (Or.inl hi)
      exact ⟨a.1.trans b.1, a.2.trans b.2⟩
    generalize fOM mn fl fh pw 30 ns (od + 1) ((pBx (nI 1) 30 x2 y2 pf2 pg2 B.1 B.2.1 ns).1, (pBx (nI 1) 30 x2 y2 pf2 pg2 B.1 B.2.1 ns).2, B.2.2.1, B.2.2.2.1, B.2.2.2.2) = D at hP hkeep ⊢
    by_cases hg : D.2.2.2.2 = 0
    · have hg2 := hP.gg.mpr hg
      rw [if_pos hg2, if_pos hf2]
      have hN := nL_R (ns := ns) (nl := nl) (nh := nh) (nl2 := nl2) (nh2 := nh2) (sl := D2.1) (sh := D2.2.1) (sl2 := D.1) (sh2 := D.2.1) (rl := (rsC D1.1 D1.2.1 od rl rh ns).1) (rh := (rsC D1.1 D1.2.1 od rl rh ns).2) (rl2 := fun v => D.1 (30 + 10 * v + od + 1)) (rh2 := fun v => D.2.1 (30 + 10 * v + od + 1)) (od := od) ho he hg
        (by
          intro u j hu hj
          have a := hB.s hf2 u j hu (Or.inl hj)
          have b := hkeep (u * 10 + j) (by omega)
          have e : 0 + (u * 10 + j) = u * 10 + j := by omega
          unfold eo at a ⊢
          rw [b.1, b.2]
          simp only [e] at a
          exact a)
        (by
          intro u hu
          have a := hP.s hg2 u (od + 1) hu (Or.inl (Nat.le_refl _))
          have b := rsC_at (sl := D1.1) (sh := D1.2.1) (rl := rl) (rh := rh) (od := od) ns u hu
          have e : 30 + (u * 10 + (od + 1)) = 30 + 10 * u + od + 1 := by omega
          unfold eo at a
          simp only [e] at a
          rw [b.1, b.2]
          exact a)
        hq ns (Nat.le_refl _)
      rcases hN with ⟨c1, c2⟩ | ⟨c1, c2, c3⟩
      · rw [if_neg c1]
        exact Or.inr ⟨rfl, c2⟩
      · rw [if_pos c1]
        exact Or.inl ⟨rfl, c2, c3⟩
    · have hg2 : ¬ D1.2.2.2.2 = 0 := fun q => hg (hP.gg.mp q)
      rw [if_neg hg2]
      exact Or.inr ⟨rfl, nL_stk stk_m hg _⟩
  · have hf2 : ¬ D2.2.2.2.2 = 0 := fun q => hf (hB.gg.mp q)
    have hfs : ∀ T : fSt, T.2.2.2.2 = B.2.2.2.2 → ¬ (fOM mn fl fh pw 30 ns (od + 1) T).2.2.2.2 = 0 := fun T hT => fOM_stk (by rw [hT]; exact hf) _
    refine Or.inr ⟨?_, nL_stk stk_m (by refine hfs _ ?_; rfl) _⟩
    by_cases hz : D1.2.2.2.2 = 0
    · rw [if_pos hz, if_neg hf2]
    · rw [if_neg hz]
theorem sg_R {hc : Int32} {cn : Nat} {cf cg : Nat → Int64} {cpw : Nat → Nat} {xl xh x2 y2 al ah : Nat → Int64} (hcn : ¬ hc = 0 → cn = mn 3 ∧ polyR ns cn cf cg (fun t => fl (12 * 3 + t)) (fun t => fh (12 * 3 + t)) cpw (fun j => pw (36 * 3 + j))) (hx : aR ns xl xh x2 y2) : sgR hc cn cf cg cpw xl xh = sgM hc mn fl fh pw ns x2 y2 al ah := by
  unfold sgR sgM
  by_cases h : hc = 0
  · rw [if_pos h, if_pos h]
  · rw [if_neg h, if_neg h]
    obtain ⟨h1, h2⟩ := hcn h
    rw [← h1]
    have hz := h2.vS (gl := xl) (gh := xh) (al := cpN x2 al ns) (ah := cpN y2 ah ns) (be := nI 0) (b2 := nI 0) (by
      intro u hu
      unfold cpN
      rw [if_pos hu, if_pos hu]
      exact hx u hu) Iff.rfl
    unfold sgO
    rcases hz with ⟨z1, z2⟩ | ⟨z1, z2, z3, z4, -⟩
    · rw [if_neg z1, if_neg z2]
    · rw [if_pos z1, if_pos z2, z3, z4]
end NARROW
/-! one try, told without what lies about -/
abbrev z0 : Nat → Int64 := fun _ => 0
def cO (mn : Nat → Nat) (fl fh : Nat → Int64) (pw : Nat → Nat) (ns od : Nat) (xl xh : Nat → Int64) (q : Nat) : Int32 := trR mn fl fh pw ns od xl xh z0 z0 z0 z0 z0 z0 z0 z0 q
def cPl (mn : Nat → Nat) (fl fh : Nat → Int64) (pw : Nat → Nat) (ns od : Nat) (xl xh : Nat → Int64) (q : Nat) : Nat → Int64 := (trP mn fl fh pw ns od xl xh z0 z0 z0 z0 z0 z0 z0 z0 q).2.2.2.1
def cPh (mn : Nat → Nat) (fl fh : Nat → Int64) (pw : Nat → Nat) (ns od : Nat) (xl xh : Nat → Int64) (q : Nat) : Nat → Int64 := (trP mn fl fh pw ns od xl xh z0 z0 z0 z0 z0 z0 z0 z0 q).2.2.2.2.1
def cNl (mn : Nat → Nat) (fl fh : Nat → Int64) (pw : Nat → Nat) (ns od : Nat) (xl xh : Nat → Int64) (q : Nat) : Nat → Int64 := (trU mn fl fh pw ns od xl xh z0 z0 z0 z0 z0 z0 z0 z0 q).1
def cNh (mn : Nat → Nat) (fl fh : Nat → Int64) (pw : Nat → Nat) (ns od : Nat) (xl xh : Nat → Int64) (q : Nat) : Nat → Int64 := (trU mn fl fh pw ns od xl xh z0 z0 z0 z0 z0 z0 z0 z0 q).2.1
theorem hT_a : ∀ q : Fin 21, (nI (2 ^ (20 - q.val))).toInt64 = hT q.val ∧ okI 0 (hT q.val) ∧ okI (hT q.val) (hT q.val) := by
  unfold okI
  decide
theorem hT_i {q : Nat} (h : q ≤ 20) : (nI (2 ^ (20 - q))).toInt64 = hT q ∧ okI 0 (hT q) ∧ okI (hT q) (hT q) := hT_a ⟨q, by omega⟩
theorem nI0 : nI 0 = (0 : Int32) := rfl
section TRY
variable {ns : Nat} {nt : Nat → Nat} {F G : Nat → Nat → Int64} {PW : Nat → Nat → Nat} {mn : Nat → Nat} {fl fh : Nat → Int64} {pw : Nat → Nat}
theorem aR_cpN {xl xh x2 y2 al ah : Nat → Int64} (h : aR ns xl xh x2 y2) : aR ns xl xh (cpN x2 al ns) (cpN y2 ah ns) := fun u hu => by
  unfold cpN
  rw [if_pos hu, if_pos hu]
  exact h u hu
/-- the class's prove against the reference's, whatever lies about -/
theorem try_P (hp : pR ns nt F G PW mn fl fh pw) {xl xh x2 y2 pf pg pf2 pg2 al ah sl sh pl ph : Nat → Int64} (hx : aR ns xl xh x2 y2) {q od : Nat} (hq : q ≤ 20) {ht : Int64} (hh : ht = hT q) : pvQ ns (pvR iv_look nt F G PW ns xl xh ht 8 true (xl, xh, pf, pg, nI 0)) (trP mn fl fh pw ns od x2 y2 pf2 pg2 al ah sl sh pl ph q) := by
  subst hh
  exact pv_R hp hx (hT_i hq).2.1 8 true (xl, xh, pf, pg, nI 0) (cpN x2 al ns, cpN y2 ah ns, pf2, pg2, nI 0) nI0 nI0 (aR_cpN hx)
theorem tr_cases {od : Nat} {x2 y2 pf2 pg2 al ah sl sh pl ph : Nat → Int64} {q : Nat} {P : Bool × pSt} {U : s3} (hP : P = trP mn fl fh pw ns od x2 y2 pf2 pg2 al ah sl sh pl ph q) (hU : U = trU mn fl fh pw ns od x2 y2 pf2 pg2 al ah sl sh pl ph q) :
    trR mn fl fh pw ns od x2 y2 pf2 pg2 al ah sl sh pl ph q = if P.1 = true ∧ P.2.2.2.2.2 = 0 then (if U.2.2 = 0 then nI 0 else nI 2) else (if P.2.2.2.2.2 = 0 then nI 1 else nI 2) := by
  subst hP
  subst hU
  rfl
theorem n012 : ¬ nI 0 = nI 1 ∧ ¬ nI 0 = nI 2 ∧ ¬ nI 1 = nI 2 := by decide
/-- a whole try of the class against the reference's, whatever lies about -/
theorem try_R (ok : pOk ns nt PW) (hp : pR ns nt F G PW mn fl fh pw) {xl xh x2 y2 pf pg pf2 pg2 al ah sl sh pl ph sl2 sh2 pl2 ph2 rl rh nl nh : Nat → Int64} (hx : aR ns xl xh x2 y2) {q od : Nat} (hq : q ≤ 20) (hod : od < 9) {ht : Int64} (hh : ht = hT q) {A : Int32 × pSt} (hA : A = pvR iv_look nt F G PW ns xl xh ht 8 true (xl, xh, pf, pg, nI 0))
    {N : Int32 × (Nat → Int64) × (Nat → Int64)} (hN : A.1 = nI 0 → N = nwR nt F G PW ns xl xh A.2.2.2.1 A.2.2.2.2.1 sl sh pl ph rl rh nl nh ht od A.2.2.2.2.2) :
    (¬ A.1 = nI 0 ∧ trR mn fl fh pw ns od x2 y2 pf2 pg2 al ah sl2 sh2 pl2 ph2 q = A.1) ∨ (A.1 = nI 0 ∧ trR mn fl fh pw ns od x2 y2 pf2 pg2 al ah sl2 sh2 pl2 ph2 q = N.1 ∧ (N.1 = nI 0 ∨ N.1 = nI 2) ∧
      (N.1 = nI 0 → aR ns A.2.2.2.1 A.2.2.2.2.1 (trP mn fl fh pw ns od x2 y2 pf2 pg2 al ah sl2 sh2 pl2 ph2 q).2.2.2.1 (trP mn fl fh pw ns od x2 y2 pf2 pg2 al ah sl2 sh2 pl2 ph2 q).2.2.2.2.1 ∧ aR ns N.2.1 N.2.2 (trU mn fl fh pw ns od x2 y2 pf2 pg2 al ah sl2 sh2 pl2 ph2 q).1 (trU mn fl fh pw ns od x2 y2 pf2 pg2 al ah sl2 sh2 pl2 ph2 q).2.1)) := by
  have h := try_P hp (pf := pf) (pg := pg) (pf2 := pf2) (pg2 := pg2) (al := al) (ah := ah) (sl := sl2) (sh := sh2) (pl := pl2) (ph := ph2) hx (od := od) hq hh
  rw [← hA] at h
  have hU : trU mn fl fh pw ns od x2 y2 pf2 pg2 al ah sl2 sh2 pl2 ph2 q = auR mn fl fh pw ns od x2 y2 (trP mn fl fh pw ns od x2 y2 pf2 pg2 al ah sl2 sh2 pl2 ph2 q).2.2.2.1 (trP mn fl fh pw ns od x2 y2 pf2 pg2 al ah sl2 sh2 pl2 ph2 q).2.2.2.2.1 sl2 sh2 pl2 ph2 (trP mn fl fh pw ns od x2 y2 pf2 pg2 al ah sl2 sh2 pl2 ph2 q).2.2.2.2.2 (hT q) (trP mn fl fh pw ns od x2 y2 pf2 pg2 al ah sl2 sh2 pl2 ph2 q).2.1 (trP mn fl fh pw ns od x2 y2 pf2 pg2 al ah sl2 sh2 pl2 ph2 q).2.2.1 := rfl
  have hR := tr_cases (mn := mn) (fl := fl) (fh := fh) (pw := pw) (ns := ns) (od := od) (x2 := x2) (y2 := y2) (pf2 := pf2) (pg2 := pg2) (al := al) (ah := ah) (sl := sl2) (sh := sh2) (pl := pl2) (ph := ph2) (q := q) rfl rfl
  generalize trP mn fl fh pw ns od x2 y2 pf2 pg2 al ah sl2 sh2 pl2 ph2 q = P at h hU hR ⊢
  generalize trU mn fl fh pw ns od x2 y2 pf2 pg2 al ah sl2 sh2 pl2 ph2 q = U at hU hR ⊢
  rcases h with ⟨h1, h2, h3, h4, h5⟩ | ⟨h1, h2, h3⟩ | ⟨h1, h2⟩
  · refine Or.inr ⟨h1, ?_⟩
    have hw := nw_R ok hp (sl := sl) (sh := sh) (sl2 := sl2) (sh2 := sh2) (pl := pl) (ph := ph) (pl2 := pl2) (ph2 := ph2) (rl := rl) (rh := rh) (nl := nl) (nh := nh) (nl2 := P.2.1) (nh2 := P.2.2.1) (od := od) (ht := hT q) hx h5 (hT_i hq).2.2 hod h3 h4
    rw [← hU, ← hh, ← hN h1] at hw
    rw [hR, if_pos ⟨h2, h4⟩]
    rcases hw with ⟨w1, w2, w3⟩ | ⟨w1, w2⟩
    · rw [if_pos w2]
      exact ⟨w1.symm, Or.inl w1, fun _ => ⟨h5, w3⟩⟩
    · rw [if_neg w2]
      exact ⟨w1.symm, Or.inr w1, fun q9 => absurd (q9.symm.trans w1) n012.2.1⟩
  · refine Or.inl ⟨fun q9 => n012.1 (q9.symm.trans h1), ?_⟩
    rw [hR, if_neg (fun q9 => by rw [h2] at q9; exact absurd q9.1 (by decide)), if_pos h3, h1]
  · refine Or.inl ⟨fun q9 => n012.2.1 (q9.symm.trans h1), ?_⟩
    rw [hR, if_neg (fun q9 => h2 q9.2), if_neg h2, h1]
/-- the reference's own try, whatever lies about -/
theorem try_M (ok : mOk ns mn pw) (hp : pR ns mn (fun v t => fl (12 * v + t)) (fun v t => fh (12 * v + t)) (fun v j => pw (36 * v + j)) mn fl fh pw) {x2 y2 x3 y3 pf2 pg2 al ah sl2 sh2 pl2 ph2 : Nat → Int64} (hx : aR ns x2 y2 x3 y3) {q od : Nat} (hq : q ≤ 20) (hod : od < 9) :
    trR mn fl fh pw ns od x2 y2 pf2 pg2 al ah sl2 sh2 pl2 ph2 q = cO mn fl fh pw ns od x3 y3 q ∧ (cO mn fl fh pw ns od x3 y3 q = nI 0 →
      aR ns (trP mn fl fh pw ns od x2 y2 pf2 pg2 al ah sl2 sh2 pl2 ph2 q).2.2.2.1 (trP mn fl fh pw ns od x2 y2 pf2 pg2 al ah sl2 sh2 pl2 ph2 q).2.2.2.2.1 (cPl mn fl fh pw ns od x3 y3 q) (cPh mn fl fh pw ns od x3 y3 q) ∧
      aR ns (trU mn fl fh pw ns od x2 y2 pf2 pg2 al ah sl2 sh2 pl2 ph2 q).1 (trU mn fl fh pw ns od x2 y2 pf2 pg2 al ah sl2 sh2 pl2 ph2 q).2.1 (cNl mn fl fh pw ns od x3 y3 q) (cNh mn fl fh pw ns od x3 y3 q)) := by
  have ok2 : pOk ns mn (fun v j => pw (36 * v + j)) := ok
  have hx2 : aR ns x3 y3 x2 y2 := fun u hu => by
    obtain ⟨a, b, c⟩ := hx u hu
    exact ⟨a.symm, b.symm, by rw [← a, ← b]; exact c⟩
  have hx3 : aR ns x3 y3 x3 y3 := fun u hu => ⟨rfl, rfl, (hx2 u hu).2.2⟩
  have h1 := try_R ok2 hp (pf := z0) (pg := z0) (pf2 := pf2) (pg2 := pg2) (al := al) (ah := ah) (sl := z0) (sh := z0) (pl := z0) (ph := z0) (sl2 := sl2) (sh2 := sh2) (pl2 := pl2) (ph2 := ph2) (rl := z0) (rh := z0) (nl := z0) (nh := z0) hx2 hq hod rfl (A := _) rfl (N := _) (fun _ => rfl)
  have h2 := try_R ok2 hp (pf := z0) (pg := z0) (pf2 := z0) (pg2 := z0) (al := z0) (ah := z0) (sl := z0) (sh := z0) (pl := z0) (ph := z0) (sl2 := z0) (sh2 := z0) (pl2 := z0) (ph2 := z0) (rl := z0) (rh := z0) (nl := z0) (nh := z0) hx3 hq hod rfl (A := _) rfl (N := _) (fun _ => rfl)
  unfold cO cPl cPh cNl cNh
  have tr : ∀ {f g f1 g1 f2 g2 : Nat → Int64}, aR ns f g f1 g1 → aR ns f g f2 g2 → aR ns f1 g1 f2 g2 := fun h k u hu => by
    obtain ⟨a, b, c⟩ := h u hu
    obtain ⟨d, e, _⟩ := k u hu
    exact ⟨a.symm.trans d, b.symm.trans e, by rw [← a, ← b]; exact c⟩
  rcases h1 with ⟨a1, a2⟩ | ⟨a1, a2, a3, a4⟩
  · rcases h2 with ⟨b1, b2⟩ | ⟨b1, b2, b3, b4⟩
    · exact ⟨a2.trans b2.symm, fun q9 => absurd (b2.symm.trans q9) b1⟩
    · exact absurd b1 a1
  · rcases h2 with ⟨b1, b2⟩ | ⟨b1, b2, b3, b4⟩
    · exact absurd a1 b1
    · exact ⟨a2.trans b2.symm, fun q9 => ⟨tr (a4 (b2.symm.trans q9)).1 (b4 (b2.symm.trans q9)).1, tr (a4 (b2.symm.trans q9)).2 (b4 (b2.symm.trans q9)).2⟩⟩
end TRY
/-- the shift at which the tries end -/
def goL (o : Nat → Int32) : Nat → Nat → Nat
  | 0, q => q
  | n + 1, q => if o q = nI 1 then (if q < 16 then goL o n (q + 1) else q) else q
