/-! where a reader stops, bounded -/
def eb {α : Type} (res : Except Nat (Nat × α)) (b : Nat) : Prop := match res with
  | .error e => e ≤ b
  | .ok q => q.1 ≤ b
theorem eb.up {α : Type} {res : Except Nat (Nat × α)} {b b2 : Nat} (h : eb res b) (h2 : b ≤ b2) : eb res b2 := by
  cases res with
  | error e => exact Nat.le_trans (show e ≤ b from h) h2
  | ok q => exact Nat.le_trans (show q.1 ≤ b from h) h2
theorem dgs_1 {sv : Nat → Nat} : ∀ (k pl x : Nat), (dgs sv k pl x).1 ≤ pl + k
  | 0, pl, x => Nat.le_refl _
  | k + 1, pl, x => by
    unfold dgs
    split
    · exact Nat.le_trans (dgs_1 k _ _) (by omega)
    · exact Nat.le_add_right _ _
theorem rN_eb {sv : Nat → Nat} {pl : Nat} : eb (rN sv pl) (pl + 6) := by
  have h1 := dgs_1 (sv := sv) 3 pl 0
  have h2 := dgs_1 (sv := sv) 2 ((dgs sv 3 pl 0).1 + 1) 0
  unfold rN
  split
  · split
    · split
      · show (dgs sv 3 pl 0).1 + 1 ≤ pl + 6
        omega
      · show (dgs sv 2 ((dgs sv 3 pl 0).1 + 1) 0).1 ≤ pl + 6
        omega
    · show (dgs sv 3 pl 0).1 + 1 ≤ pl + 6
      omega
  · show (dgs sv 3 pl 0).1 ≤ pl + 6
    omega
theorem rH_eb {sv : Nat → Nat} {pl : Nat} : eb (rH sv pl) (pl + 6) := by
  unfold rH
  split
  · exact rN_eb
  · split
    · show pl ≤ pl + 6
      omega
    · show pl ≤ pl + 6
      omega
theorem rP_eb {sv : Nat → Nat} {pl ro : Nat} : eb (rP sv pl ro) (pl + 2) := by
  unfold rP
  split
  · split
    · exact Nat.le_refl _
    · exact Nat.le_succ _
  · exact Nat.le_add_right pl 2
theorem rF_eb {sv : Nat → Nat} {b : Nat} : ∀ (k pl ro : Nat) (pw : Nat → Nat) (fp : Nat → Int32), eb (rF sv b k pl ro pw fp) (pl + 3 * k)
  | 0, pl, ro, pw, fp => Nat.le_refl _
  | k + 1, pl, ro, pw, fp => by
    unfold rF
    split
    · split
      · exact Nat.le_add_right _ _
      · have h := rP_eb (sv := sv) (pl := pl + 1) (ro := ro)
        generalize rP sv (pl + 1) ro = X at h ⊢
        cases X with
        | error e =>
          have h : e ≤ pl + 1 + 2 := h
          exact Nat.le_trans h (by omega)
        | ok q =>
          obtain ⟨p1, q1⟩ := q
          have h : p1 ≤ pl + 1 + 2 := h
          exact (rF_eb k p1 _ _ _).up (by omega)
    · exact Nat.le_add_right _ _
theorem rT_eb {sv : Nat → Nat} {pl nt : Nat} {ng : Int32} {f g : Nat → Int64} {pw : Nat → Nat} {fp : Nat → Int32} : eb (rT sv pl ng nt f g pw fp) (pl + 27) := by
  have h := rH_eb (sv := sv) (pl := pl)
  unfold rT
  generalize rH sv pl = X at h ⊢
  cases X with
  | error e =>
    have h : e ≤ pl + 6 := h
    exact Nat.le_trans h (by omega)
  | ok q =>
    obtain ⟨p1, a1, b1⟩ := q
    have h : p1 ≤ pl + 6 := h
    have h2 := rF_eb (sv := sv) (b := (nt + 1 - 1) * 3) 7 p1 6 (pw_new pw nt) fp
    dsimp only
    generalize rF sv ((nt + 1 - 1) * 3) 7 p1 6 (pw_new pw nt) fp = Y at h2 ⊢
    cases Y with
    | error e =>
      have h2 : e ≤ p1 + 3 * 7 := h2
      exact Nat.le_trans h2 (by omega)
    | ok q =>
      obtain ⟨p2, w2, f2⟩ := q
      have h2 : p2 ≤ p1 + 3 * 7 := h2
      exact Nat.le_trans h2 (by omega)
theorem rQ_eb {sv : Nat → Nat} : ∀ (k pl : Nat) (ng : Int32) (nt : Nat) (f g : Nat → Int64) (pw : Nat → Nat) (fp : Nat → Int32), eb (rQ sv k pl ng nt f g pw fp) (pl + 28 * k)
  | 0, pl, ng, nt, f, g, pw, fp => by
    show pl - 1 ≤ pl + 28 * 0
    omega
  | k + 1, pl, ng, nt, f, g, pw, fp => by
    have h := rT_eb (sv := sv) (pl := pl) (nt := nt) (ng := ng) (f := f) (g := g) (pw := pw) (fp := fp)
    unfold rQ
    generalize rT sv pl ng nt f g pw fp = X at h ⊢
    cases X with
    | error e =>
      have h : e ≤ pl + 27 := h
      exact Nat.le_trans h (by omega)
    | ok q =>
      obtain ⟨p2, x2, y2, w2, z2⟩ := q
      have h : p2 ≤ pl + 27 := h
      dsimp only
      split
      · exact (rQ_eb k _ _ _ _ _ _ _).up (by omega)
      · split
        · exact (rQ_eb k _ _ _ _ _ _ _).up (by omega)
        · exact Nat.le_trans h (by omega)
theorem rE_eb {sv : Nat → Nat} {pl nm : Nat} {f g : Nat → Int64} {pw : Nat → Nat} {fp : Nat → Int32} : eb (rE sv pl nm f g pw fp) (pl + 340) := by
  unfold rE
  split
  · split
    · have h : eb (rPo sv (pl + 1 + 1) f g pw fp) (pl + 339) := by
        unfold rPo
        split
        · exact (rQ_eb 12 _ _ _ _ _ _ _).up (by omega)
        · exact (rQ_eb 12 _ _ _ _ _ _ _).up (by omega)
      generalize rPo sv (pl + 1 + 1) f g pw fp = X at h ⊢
      cases X with
      | error e =>
        have h : e ≤ pl + 339 := h
        exact Nat.le_trans h (by omega)
      | ok q =>
        obtain ⟨p2, n2, x2, y2, w2, z2⟩ := q
        have h : p2 ≤ pl + 339 := h
        dsimp only
        split
        · exact Nat.succ_le_succ h
        · exact Nat.le_trans h (by omega)
    · exact Nat.add_le_add_left (by omega) pl
  · exact Nat.le_add_right _ _
theorem nI_m1 {e : Nat} (h : e < 2 ^ 31) : ¬ nI e = -1 := by
  intro q
  have h1 := nI_toInt h
  rw [q] at h1
  have h2 : (-1 : Int32).toInt = -1 := by decide
  omega
theorem rdF_ne {sv : Nat → Nat} {v pl : Nat} {hc : Bool} {fp : Nat → Int32} {D : cD} {er : Int32} (hp : pl < 10000) (h : rdF sv v hc pl fp D = .error er) : ¬ er = -1 := by
  unfold rdF at h
  split at h
  · split at h
    · cases h
    · rename_i h2
      cases h
      exact h2
  · cases h
    exact nI_m1 (by omega)
theorem rdG_ne {sv : Nat → Nat} {v pl : Nat} {fp : Nat → Int32} {D : cD} {er : Int32} (hp : pl + 340 < 10000) (h : rdG sv v pl fp D = .error er) : ¬ er = -1 := by
  unfold rdG at h
  split at h
  · have h9 := rE_eb (sv := sv) (pl := pl) (nm := 103) (f := z0) (g := z0) (pw := zp) (fp := fp)
    cases hE : rE sv pl 103 z0 z0 zp fp with
    | error e =>
      rw [hE] at h h9
      have h9 : e ≤ pl + 340 := h9
      cases h
      exact nI_m1 (by omega)
    | ok q =>
      obtain ⟨p2, n2, x2, y2, w2, z2⟩ := q
      rw [hE] at h h9
      have h9 : p2 ≤ pl + 340 := h9
      exact rdF_ne (by omega) h
  · exact rdF_ne (by omega) h
set_option maxRecDepth 4000 in
theorem rdL_ne {sv : Nat → Nat} (k : Nat) : ∀ (v pl : Nat) (fp : Nat → Int32) (D : cD) (er : Int32), pl + (340 * k + 340) < 10000 → rdL sv k v pl fp D = .error er → ¬ er = -1 := by
  induction k with
  | zero =>
    intro v pl fp D er hp h
    rw [rdL] at h
    exact rdG_ne (by omega) h
  | succ k ih =>
    intro v pl fp D er hp h
    rw [rdL] at h
    split at h
    · have h9 := rE_eb (sv := sv) (pl := pl) (nm := 120 + v) (f := z0) (g := z0) (pw := zp) (fp := fp)
      cases hE : rE sv pl (120 + v) z0 z0 zp fp with
      | error e =>
        rw [hE] at h h9
        have h9 : e ≤ pl + 340 := h9
        cases h
        exact nI_m1 (by omega)
      | ok q =>
        obtain ⟨p2, n2, x2, y2, w2, z2⟩ := q
        rw [hE] at h h9
        have h9 : p2 ≤ pl + 340 := h9
        have h8 : p2 + (340 * k + 340) < 10000 := by omega
        exact ih (v + 1) p2 _ _ _ h8 h
    · have h8 : pl + 340 < 10000 := by omega
      exact rdG_ne h8 h
set_option maxRecDepth 4000 in
theorem rdS_ne {sv : Nat → Nat} {fp : Nat → Int32} {D : cD} {er : Int32} (h : rdS sv fp D = .error er) : ¬ er = -1 := by
  unfold rdS at h
  have h9 := rE_eb (sv := sv) (pl := 0) (nm := 120) (f := z0) (g := z0) (pw := zp) (fp := fp)
  cases hE : rE sv 0 120 z0 z0 zp fp with
  | error e =>
    rw [hE] at h h9
    have h9 : e ≤ 0 + 340 := h9
    cases h
    exact nI_m1 (by omega)
  | ok q =>
    obtain ⟨p2, n2, x2, y2, w2, z2⟩ := q
    rw [hE] at h h9
    have h9 : p2 ≤ 0 + 340 := h9
    exact rdL_ne 2 1 p2 _ _ _ (by omega) h
/-! what stays true from call to call -/
def GI (k : Nat) (P : PB) (A : AS) (od hz co ln : Nat) (tb : Nat → Nat) : Prop :=
  P.ok ∧ runG hz co A ∧ hz % 16 = 0 ∧ hz ≤ 67108864 ∧ od < 9 ∧ co ≤ 10 ∧ ln ≤ 240 ∧ (∀ i, tb i < 128) ∧ (∀ i, i < ln → 33 ≤ tb i) ∧ A.h.bxs ≤ 1 + 201 * k ∧ A.tri ≤ 3400 * k
theorem GI.up {k : Nat} {P : PB} {A : AS} {od hz co ln : Nat} {tb : Nat → Nat} (h : GI k P A od hz co ln tb) : GI (k + 1) P A od hz co ln tb := by
  obtain ⟨h1, h2, h3, h4, h5, h6, h7, h8, h9, h10, h11⟩ := h
  exact ⟨h1, h2, h3, h4, h5, h6, h7, h8, h9, by omega, by omega⟩
theorem GI.ln0 {k : Nat} {P : PB} {A : AS} {od hz co ln : Nat} {tb : Nat → Nat} (h : GI k P A od hz co ln tb) : GI k P A od hz co 0 tb := by
  obtain ⟨h1, h2, h3, h4, h5, h6, h7, h8, h9, h10, h11⟩ := h
  exact ⟨h1, h2, h3, h4, h5, h6, by omega, h8, fun i hi => by omega, h10, h11⟩
theorem anA_g {P : PB} {co hz : Nat} {sl sh : Nat → Int64} (hc : co ≤ 10) : runG hz co (anA P co sl sh) := by
  refine ⟨Nat.zero_le _, rfl, ?_, Nat.le_refl _, ?_⟩
  · show co ≤ 16
    omega
  · show 0 ≤ 2
    omega
theorem anA_b {P : PB} {co : Nat} {sl sh : Nat → Int64} : (anA P co sl sh).h.bxs ≤ 1 ∧ (anA P co sl sh).tri = 0 := by
  refine ⟨?_, rfl⟩
  unfold anA
  by_cases h : P.ns = 0
  · rw [if_pos h]
    exact Nat.zero_le _
  · rw [if_neg h]
    exact Nat.le_refl 1
theorem GI.anew {k : Nat} {P P2 : PB} {A : AS} {od hz co ln : Nat} {tb : Nat → Nat} {sl sh : Nat → Int64} (h : GI k P A od hz co ln tb) (hP : P2.ok) : GI (k + 1) P2 (anA P2 co sl sh) od hz co ln tb := by
  obtain ⟨h1, h2, h3, h4, h5, h6, h7, h8, h9, h10, h11⟩ := h
  have hb := anA_b (P := P2) (co := co) (sl := sl) (sh := sh)
  exact ⟨hP, anA_g h6, h3, h4, h5, h6, h7, h8, h9, by omega, by omega⟩
theorem GI.set {k : Nat} {P : PB} {A : AS} {od hz co ln o h c9 : Nat} {tb : Nat → Nat} {sl sh : Nat → Int64} (g : GI k P A od hz co ln tb) (ho : o < 9) (hh : h ≤ 67108864) (h16 : h % 16 = 0) (hc : c9 ≤ 10) : GI (k + 1) P (anA P c9 sl sh) o h c9 ln tb := by
  obtain ⟨h1, h2, h3, h4, h5, h6, h7, h8, h9, h10, h11⟩ := g
  have hb := anA_b (P := P) (co := c9) (sl := sl) (sh := sh)
  exact ⟨h1, anA_g hc, h16, hh, ho, hc, h7, h8, h9, by omega, by omega⟩
theorem stA_g {P : PB} {od hz co : Nat} (hz16 : hz % 16 = 0) : ∀ (n : Nat) (A : AS) (d : Nat), runG hz co A → runG hz co (stA P od hz co n A d).1 ∧ (stA P od hz co n A d).1.h.bxs ≤ A.h.bxs + n ∧ (stA P od hz co n A d).1.tri ≤ A.tri + 17 * n
  | 0, A, d, hg => ⟨hg, Nat.le_refl _, Nat.le_refl _⟩
  | n + 1, A, d, hg => by
    unfold stA
    by_cases ht : A.tim < hz
    · rw [if_pos ht]
      have hg1 := goA_g (P := P) (od := od) hg hz16 ht
      have hb := goA_nb (P := P) (od := od) (hz := hz) (co := co) (A := A)
      have hb2 := hb.2 hg
      by_cases hr : (goA P od hz co A).rfd = nI 0
      · rw [if_pos hr]
        obtain ⟨a1, a2, a3⟩ := stA_g hz16 n (goA P od hz co A) (d + 1) hg1
        refine ⟨a1, ?_, ?_⟩
        · have := hb.1
          omega
        · omega
      · rw [if_neg hr]
        refine ⟨hg1, ?_, ?_⟩
        · have := hb.1
          show (goA P od hz co A).h.bxs ≤ A.h.bxs + (n + 1)
          omega
        · show (goA P od hz co A).tri ≤ A.tri + 17 * (n + 1)
          omega
    · rw [if_neg ht]
      refine ⟨hg, ?_, ?_⟩
      · show A.h.bxs ≤ A.h.bxs + (n + 1)
        omega
      · show A.tri ≤ A.tri + 17 * (n + 1)
        omega
theorem GI.step {k : Nat} {P : PB} {A A1 : AS} {od hz co ln N d1 : Nat} {b : Bool} {tb : Nat → Nat} (h : GI k P A od hz co ln tb) (hN : N ≤ 200) (e : stA P od hz co N A 0 = (A1, d1, b)) : GI (k + 1) P A1 od hz co ln tb := by
  obtain ⟨h1, h2, h3, h4, h5, h6, h7, h8, h9, h10, h11⟩ := h
  have hs := stA_g (P := P) (od := od) h3 N A 0 h2
  rw [e] at hs
  obtain ⟨a1, a2, a3⟩ := hs
  have a2 : A1.h.bxs ≤ A.h.bxs + N := a2
  have a3 : A1.tri ≤ A.tri + 17 * N := a3
  exact ⟨h1, a1, h3, h4, h5, h6, h7, h8, h9, by omega, by omega⟩
theorem tyB_b {tb : Nat → Nat} {w : Int64} {ln N : Nat} (hN : ∀ k, k < N → 33 ≤ byN w k ∧ byN w k ≤ 126) (h1 : ∀ i, tb i < 128) (h2 : ∀ i, i < ln → 33 ≤ tb i) : ∀ d, d ≤ N → (∀ i, tyB tb w ln N d i < 128) ∧ ∀ i, i < ln + d → 33 ≤ tyB tb w ln N d i
  | 0, _ => ⟨h1, h2⟩
  | d + 1, hd => by
    obtain ⟨a1, a2⟩ := tyB_b hN h1 h2 d (by omega)
    have hb := hN (N - 1 - d) (by omega)
    unfold tyB va_up
    refine ⟨fun i => ?_, fun i hi => ?_⟩
    · by_cases h : i = ln + d
      · simp only [h, if_true]
        omega
      · simp only [h, if_false]
        exact a1 i
    · by_cases h : i = ln + d
      · simp only [h, if_true]
        omega
      · simp only [h, if_false]
        exact a2 i (by omega)
theorem GI.type {k : Nat} {P : PB} {A : AS} {od hz co ln N : Nat} {tb : Nat → Nat} {w : Int64} (h : GI k P A od hz co ln tb) (hN2 : ln + N ≤ 240) (hby : ∀ k, k < N → 33 ≤ byN w k ∧ byN w k ≤ 126) : GI (k + 1) P A od hz co (ln + N) (tyB tb w ln N N) := by
  obtain ⟨h1, h2, h3, h4, h5, h6, h7, h8, h9, h10, h11⟩ := h
  obtain ⟨a1, a2⟩ := tyB_b hby h8 h9 N (Nat.le_refl _)
  exact ⟨h1, h2, h3, h4, h5, h6, hN2, a1, a2, by omega, by omega⟩
theorem see_no {tb : Nat → Nat} {ln : Nat} (h : ∀ i, i < ln → 33 ≤ tb i) : ∀ i, i < ln → ¬ see tb ln i = 0 := by
  intro i hi
  unfold see
  rw [if_pos hi]
  have := h i hi
  omega
theorem st_no {k1 k2 k3 : Int32} (h : ¬ stBad k1 k2 k3) : ∃ o h9 c9 : Nat, k1 = nI o ∧ k2 = nI h9 ∧ k3 = nI c9 ∧ o ≤ 8 ∧ h9 ≤ 67108864 ∧ c9 ≤ 10 ∧ h9 % 16 = 0 := by
  have a1 : ¬ k1 < nI 1 := fun q => h (Or.inl q)
  have a2 : ¬ nI 8 < k1 := fun q => h (Or.inr (Or.inl q))
  have a3 : ¬ k3 < 0 := fun q => h (Or.inr (Or.inr (Or.inl q)))
  have a4 : ¬ ¬ k3 ≤ nI 10 := fun q => h (Or.inr (Or.inr (Or.inr (Or.inl q))))
  have a5 : ¬ k2 < 0 := fun q => h (Or.inr (Or.inr (Or.inr (Or.inr (Or.inl q)))))
  have a6 : ¬ nI 67108864 < k2 := fun q => h (Or.inr (Or.inr (Or.inr (Or.inr (Or.inr (Or.inl q))))))
  have a7 : ¬ ¬ k2 - k2 / nI 16 * nI 16 = 0 := fun q => h (Or.inr (Or.inr (Or.inr (Or.inr (Or.inr (Or.inr q))))))
  have a10 : ¬ k1 < 0 := by
    intro q
    apply a1
    rw [Int32.lt_iff_toInt_lt] at q ⊢
    rw [nI_toInt (by decide)]
    have : (0 : Int32).toInt = 0 := by decide
    omega
  obtain ⟨o, ho, rfl⟩ := nI_of a10
  obtain ⟨h9, hh, rfl⟩ := nI_of a5
  obtain ⟨c9, hc, rfl⟩ := nI_of a3
  rw [nI_ltI (by decide) ho] at a2
  rw [nI_ltI (by decide) hh] at a6
  rw [nI_leI hc (by decide)] at a4
  refine ⟨o, h9, c9, rfl, rfl, rfl, by omega, by omega, by omega, ?_⟩
  have a7 := Classical.not_not.mp a7
  have h2 := congrArg Int32.toInt a7
  have e0 : (0 : Int32).toInt = 0 := by decide
  have e1 : (nI h9 / nI 16).toInt = (h9 : Int) / 16 := by
    rw [Int32.toInt_div, nI_toInt hh, nI_toInt (by decide)]
    rw [Int.tdiv_eq_ediv_of_nonneg (by omega)]
    rw [Int.bmod_eq_of_le (by omega) (by omega)]
    rfl
  have e2 : (nI h9 / nI 16 * nI 16).toInt = (h9 : Int) / 16 * 16 := by
    rw [Int32.toInt_mul, e1, nI_toInt (by decide)]
    rw [Int.bmod_eq_of_le (by omega) (by omega)]
    rfl
  rw [Int32.toInt_sub, e2, nI_toInt hh, e0] at h2
  rw [Int.bmod_eq_of_le (by omega) (by omega)] at h2
  omega
theorem n_no {n : Int32} (h : ¬ (n < nI 1 ∨ ¬ n ≤ nI 200)) : ∃ N : Nat, n = nI N ∧ 1 ≤ N ∧ N ≤ 200 := by
  have a1 : ¬ n < nI 1 := fun q => h (Or.inl q)
  have a2 : ¬ ¬ n ≤ nI 200 := fun q => h (Or.inr q)
  have a10 : ¬ n < 0 := by
    intro q
    apply a1
    rw [Int32.lt_iff_toInt_lt] at q ⊢
    rw [nI_toInt (by decide)]
    have : (0 : Int32).toInt = 0 := by decide
    omega
  obtain ⟨N, hN, rfl⟩ := nI_of a10
  rw [nI_ltI hN (by decide)] at a1
  rw [nI_leI hN (by decide)] at a2
  exact ⟨N, rfl, by omega, by omega⟩
theorem hb_no {ns : Nat} {v w : Int32} (hn : ns ≤ 3) (h : ¬ hbf ns v w = 0) : ∃ v1 w1 : Nat, v = nI v1 ∧ w = nI w1 ∧ ((v1 < ns ∧ w1 < 4) ∨ (v1 = 3 ∧ w1 < 2)) := by
  unfold hbf at h
  by_cases h3 : v = nI 3
  · rw [if_pos h3] at h
    by_cases hw : w = 0 ∨ w = nI 1
    · rcases hw with hw | hw
      · exact ⟨3, 0, h3, hw.trans nI_0.symm, Or.inr ⟨rfl, by decide⟩⟩
      · exact ⟨3, 1, h3, hw, Or.inr ⟨rfl, by decide⟩⟩
    · rw [if_neg hw] at h
      exact absurd nI_0 h
  · rw [if_neg h3] at h
    by_cases hw : v < 0 ∨ nI ns ≤ v ∨ w < 0 ∨ nI 4 ≤ w
    · rw [if_pos hw] at h
      exact absurd nI_0 h
    · have b1 : ¬ v < 0 := fun q => hw (Or.inl q)
      have b2 : ¬ nI ns ≤ v := fun q => hw (Or.inr (Or.inl q))
      have b3 : ¬ w < 0 := fun q => hw (Or.inr (Or.inr (Or.inl q)))
      have b4 : ¬ nI 4 ≤ w := fun q => hw (Or.inr (Or.inr (Or.inr q)))
      obtain ⟨v1, hv, rfl⟩ := nI_of b1
      obtain ⟨w1, hw1, rfl⟩ := nI_of b3
      rw [nI_leI (by omega) hv] at b2
      rw [nI_leI (by decide) hw1] at b4
      exact ⟨v1, w1, rfl, rfl, Or.inl ⟨by omega, by omega⟩⟩
theorem in_bad {i : Int32} {n k : Nat} : inB i n k = 0 ↔ (i < 0 ∨ nI n ≤ i ∨ nI k ≤ i) := by
  unfold inB
  by_cases q : i < 0 ∨ nI n ≤ i ∨ nI k ≤ i
  · rw [if_pos q]
    exact ⟨fun _ => q, fun _ => nI_0⟩
  · rw [if_neg q]
    exact ⟨fun z => absurd z (by decide), fun z => absurd z q⟩
theorem cf_no9 {ns : Nat} {v k : Int32} (hn : ns ≤ 3) (h : ¬ cfBad v ns k) : ∃ v1 k1 : Nat, v = nI v1 ∧ k = nI k1 ∧ v1 < ns ∧ k1 < 10 := by
  have b1 : ¬ v < 0 := fun q => h (Or.inl q)
  have b2 : ¬ nI ns ≤ v := fun q => h (Or.inr (Or.inl q))
  have b3 : ¬ k < 0 := fun q => h (Or.inr (Or.inr (Or.inl q)))
  have b4 : ¬ nI 10 ≤ k := fun q => h (Or.inr (Or.inr (Or.inr q)))
  obtain ⟨v1, hv, rfl⟩ := nI_of b1
  obtain ⟨k1, hk, rfl⟩ := nI_of b3
  rw [nI_leI (by omega) hv] at b2
  rw [nI_leI (by decide) hk] at b4
  exact ⟨v1, k1, rfl, rfl, by omega, by omega⟩
/-! both worlds, side by side -/
theorem XR.at0 {cJ cI cB cY : ClassId} {P : PB} {A : AS} {od hz co : Nat} {sl sh : Nat → Int64} {ln : Nat} {tb : Nat → Nat} {flt : Int32} {fo : Nat} {w9 : va_W} (h9 : XR cJ cI cB cY P A od hz co sl sh ln tb flt fo w9) : bo_at0 fo 0 w9 := by
  refine h9 _ ?_
  intros
  rename_i e9 hpc hrc hfi
  exact ⟨0, _, by rw [e9]; rfl⟩
theorem XR.crg {cJ cI cB cY : ClassId} {P : PB} {A : AS} {od hz co : Nat} {sl sh : Nat → Int64} {ln : Nat} {tb : Nat → Nat} {flt : Int32} {fo : Nat} {w9 : va_W} (h9 : XR cJ cI cB cY P A od hz co sl sh ln tb flt fo w9) : A.h.crg ≤ A.h.bxs := by
  refine h9 _ ?_
  intros
  rename_i e9 hpc hrc hfi
  rw [← hrc.2.2.1.1, ← hrc.2.2.1.2.1]
  exact hrc.2.2.1.2.2.2.2.2.1
theorem MR.at0 {cJ cI cB cY : ClassId} {P : PB} {A : AS} {od hz co : Nat} {sl sh : Nat → Int64} {ln : Nat} {tb : Nat → Nat} {flt thn : Int32} {mo : Nat} {w9 : va_W} (h9 : MR cJ cI cB cY P A od hz co sl sh ln tb flt thn mo w9) : bo_at0 mo 10 w9 := by
  refine h9 _ ?_
  intros
  rename_i e9 hpc hrc hfi
  exact ⟨0, _, by rw [e9]; rfl⟩
def GJ (cJ cI cB cY : ClassId) (k fo mo : Nat) (X Y : va_W) : Prop := ∃ (P : PB) (A : AS) (od hz co : Nat) (sl sh : Nat → Int64) (ln : Nat) (tb : Nat → Nat) (flt thn : Int32), GI k P A od hz co ln tb ∧ XR cJ cI cB cY P A od hz co sl sh ln tb flt fo X ∧ MR cJ cI cB cY P A od hz co sl sh ln tb flt thn mo Y
theorem GJ.F {cJ cI cB cY : ClassId} {k fo mo : Nat} {X Y : va_W} (h : GJ cJ cI cB cY k fo mo X Y) : bo_at0 fo 0 X := by
  obtain ⟨P, A, od, hz, co, sl, sh, ln, tb, flt, thn, hG, hX, hM⟩ := h
  exact hX.at0
theorem GJ.M {cJ cI cB cY : ClassId} {k fo mo : Nat} {X Y : va_W} (h : GJ cJ cI cB cY k fo mo X Y) : bo_at0 mo 10 Y := by
  obtain ⟨P, A, od, hz, co, sl, sh, ln, tb, flt, thn, hG, hX, hM⟩ := h
  exact hM.at0
theorem GJ.up {cJ cI cB cY : ClassId} {k fo mo : Nat} {X Y : va_W} (h : GJ cJ cI cB cY k fo mo X Y) : GJ cJ cI cB cY (k + 1) fo mo X Y := by
  obtain ⟨P, A, od, hz, co, sl, sh, ln, tb, flt, thn, hG, hX, hM⟩ := h
  exact ⟨P, A, od, hz, co, sl, sh, ln, tb, flt, thn, hG.up, hX, hM⟩
abbrev LK2 (l : Launch) (D : va_G) (cJ cI cB cY : ClassId) (k fo mo : Nat) (X Y : va_W) (yF : MethodName) (wF : List Cond) (rF : Room) (aF : List Value) (yM : MethodName) (wM : List Cond) (rM : Room) (aM : List Value) : Prop := ∃ (rv : Int32) (PX PY : va_W → Prop),
  bo_i (S := va_W) l D bo_cl (bo_ty cJ cI cB cY) yF wF rF aF X (fun r w1 => r = rv ∧ PX w1) id ∧ bo_i (S := va_W) l D bo_cl (bo_ty cJ cI cB cY) yM wM rM aM Y (fun r w1 => r = rv ∧ PY w1) id ∧ ∀ X' Y', PX X' → PY Y' → GJ cJ cI cB cY (k + 1) fo mo X' Y'
abbrev LK3 (l : Launch) (D : va_G) (cJ cI cB cY : ClassId) (k fo mo oa : Nat) (X Y : va_W) (yL : MethodName) (wL : List Cond) (aL : List Value) (yM : MethodName) (wM : List Cond) (rM : Room) (aM : List Value) : Prop := ∃ (kv rv : Int32) (PX PY : va_W → Prop),
  (∀ f, bo_h (S := va_W) l D bo_cl (bo_ty cJ cI cB cY) yL wL bo_rmh aL (bo_out cJ oa f :: X) (hpost cJ oa kv rv PX) id) ∧ bo_i (S := va_W) l D bo_cl (bo_ty cJ cI cB cY) yM wM rM aM Y (fun r w1 => r = rv ∧ PY w1) id ∧
  (∀ Y', PY Y' → bo_at0 mo 10 Y' ∧ bo_i (S := va_W) l D bo_cl (bo_ty cJ cI cB cY) yy_M_thrown (bo_w yy_M_thrown bb_M_thrown 1 (some .int)) (bo_rm 0 0) [.ref mo] Y' (fun r w1 => r = kv ∧ PY w1) id) ∧ ∀ X' Y', PX X' → PY Y' → GJ cJ cI cB cY (k + 1) fo mo X' Y'

theorem lk_fault {l : Launch} {D : va_G} {cJ cI cB cY : ClassId} {k fo mo : Nat} {X Y : va_W}  (hk : k ≤ 512) (h : GJ cJ cI cB cY k fo mo X Y) : LK2 l D cJ cI cB cY k fo mo X Y yy_F_fault (bo_w yy_F_fault bb_F_fault 1 (some .int)) (bo_rm 0 0) [.ref fo] yy_M_fault (bo_w yy_M_fault bb_M_fault 1 (some .int)) (bo_rm 0 0) [.ref mo] := by
  obtain ⟨P, A, od, hz, co, sl, sh, ln, tb, flt, thn, hG, hX, hM⟩ := h
  obtain ⟨g1, g2, g3, g4, g5, g6, g7, g8, g9, g10, g11⟩ := id hG
  refine ⟨_, _, _, k_F_fault hX, k_M_fault hM, fun X' Y' hx hy => ⟨P, A, od, hz, co, sl, sh, ln, tb, flt, _, hG.up, hx, hy⟩⟩

theorem lk_state {l : Launch} {D : va_G} {cJ cI cB cY : ClassId} {k fo mo : Nat} {X Y : va_W} (wh : Int32) (hk : k ≤ 512) (h : GJ cJ cI cB cY k fo mo X Y) : LK2 l D cJ cI cB cY k fo mo X Y yy_F_state (bo_w yy_F_state bb_F_state 2 (some .int)) (bo_rm 0 0) [.ref fo, .int wh] yy_M_state (bo_w yy_M_state bb_M_state 2 (some .int)) (bo_rm 0 0) [.ref mo, .int wh] := by
  obtain ⟨P, A, od, hz, co, sl, sh, ln, tb, flt, thn, hG, hX, hM⟩ := h
  obtain ⟨g1, g2, g3, g4, g5, g6, g7, g8, g9, g10, g11⟩ := id hG
  refine ⟨_, _, _, k_F_state wh hX, k_M_state wh hM, fun X' Y' hx hy => ⟨P, A, od, hz, co, sl, sh, ln, tb, flt, _, hG.up, hx, hy⟩⟩

theorem lk_type {l : Launch} {D : va_G} {cJ cI cB cY : ClassId} {k fo mo : Nat} {X Y : va_W} (w : Int64) (n : Int32) (hk : k ≤ 512) (h : GJ cJ cI cB cY k fo mo X Y) : LK2 l D cJ cI cB cY k fo mo X Y yy_F_type (bo_w yy_F_type bb_F_type 6 (some .boolean)) (bo_rm 1 22) [.ref fo, .long w, .int n] yy_M_type (bo_w yy_M_type bb_M_type 6 (some .boolean)) (bo_rm 0 0) [.ref mo, .long w, .int n] := by
  obtain ⟨P, A, od, hz, co, sl, sh, ln, tb, flt, thn, hG, hX, hM⟩ := h
  obtain ⟨g1, g2, g3, g4, g5, g6, g7, g8, g9, g10, g11⟩ := id hG
  by_cases hb : tyP w n ln
  · obtain ⟨N, rfl, hN1, hN8, hN2, hby⟩ := hb
    refine ⟨_, _, _, k_F_typeOk w N g7 hN1 hN8 hN2 hby hX, k_M_typeOk w N g7 hN1 hN8 hN2 hby hM, fun X' Y' hx hy => ⟨P, A, od, hz, co, sl, sh, _, _, flt, _, hG.type hN2 hby, hx, hy⟩⟩
  · refine ⟨_, _, _, k_F_typeBad w n g7 hb hX, k_M_typeBad w n g7 hb hM, fun X' Y' hx hy => ⟨P, A, od, hz, co, sl, sh, ln, tb, flt, _, hG.up, hx, hy⟩⟩

theorem lk_begin {l : Launch} {D : va_G} {cJ cI cB cY : ClassId} {k fo mo : Nat} {X Y : va_W} (v y1 y2 : Int32) (hk : k ≤ 512) (h : GJ cJ cI cB cY k fo mo X Y) : LK2 l D cJ cI cB cY k fo mo X Y yy_F_begin (bo_w yy_F_begin bb_F_begin 4 (some .boolean)) (bo_rm 5 132) [.ref fo, .int v, .int y1, .int y2] yy_M_begin (bo_w yy_M_begin bb_M_begin 4 (some .boolean)) (bo_rm 7 178) [.ref mo, .int v, .int y1, .int y2] := by
  obtain ⟨P, A, od, hz, co, sl, sh, ln, tb, flt, thn, hG, hX, hM⟩ := h
  obtain ⟨g1, g2, g3, g4, g5, g6, g7, g8, g9, g10, g11⟩ := id hG
  by_cases hb : bgBad P.ns v y1 y2
  · refine ⟨_, _, _, k_F_beginBad v y1 y2 g1 hb hX, k_M_beginBad v y1 y2 g1 hb hM, fun X' Y' hx hy => ⟨P, A, od, hz, co, sl, sh, ln, tb, flt, _, hG.up, hx, hy⟩⟩
  · refine ⟨_, _, _, k_F_beginOk v y1 y2 g1 hb hX, k_M_beginOk v y1 y2 g1 hb hM, fun X' Y' hx hy => ⟨P, _, od, hz, co, _, _, ln, tb, flt, _, hG.anew g1, hx, hy⟩⟩

theorem lk_settle {l : Launch} {D : va_G} {cJ cI cB cY : ClassId} {k fo mo : Nat} {X Y : va_W} (k1 k2 k3 : Int32) (hk : k ≤ 512) (h : GJ cJ cI cB cY k fo mo X Y) : LK2 l D cJ cI cB cY k fo mo X Y yy_F_settle (bo_w yy_F_settle bb_F_settle 4 (some .boolean)) (bo_rm 5 132) [.ref fo, .int k1, .int k2, .int k3] yy_M_settle (bo_w yy_M_settle bb_M_settle 4 (some .boolean)) (bo_rm 7 178) [.ref mo, .int k1, .int k2, .int k3] := by
  obtain ⟨P, A, od, hz, co, sl, sh, ln, tb, flt, thn, hG, hX, hM⟩ := h
  obtain ⟨g1, g2, g3, g4, g5, g6, g7, g8, g9, g10, g11⟩ := id hG
  by_cases hb : stBad k1 k2 k3
  · refine ⟨_, _, _, k_F_settleBad k1 k2 k3 g1 hb hX, k_M_settleBad k1 k2 k3 g1 hb hM, fun X' Y' hx hy => ⟨P, A, od, hz, co, sl, sh, ln, tb, flt, _, hG.up, hx, hy⟩⟩
  · obtain ⟨o, h9, c9, rfl, rfl, rfl, b1, b2, b3, b4⟩ := st_no hb
    refine ⟨_, _, _, k_F_settleOk o h9 c9 g1 b1 b2 b3 hb hX, k_M_settleOk o h9 c9 g1 b1 b2 b3 hb hM, fun X' Y' hx hy => ⟨P, _, o, h9, c9, sl, sh, ln, tb, flt, _, hG.set (by omega) b2 b4 b3, hx, hy⟩⟩

theorem lk_compile {l : Launch} {D : va_G} {cJ cI cB cY : ClassId} (hlst : l.stackTraces = false) {k fo mo oa : Nat} {X Y : va_W}  (hk : k ≤ 512) (h : GJ cJ cI cB cY k fo mo X Y) : LK3 l D cJ cI cB cY k fo mo oa X Y yy_L_compile (bo_wh yy_L_compile bb_L_compile 3 (some .int) [(0, 8, 11, 13)]) [.ref fo, .ref oa] yy_M_compile (bo_w yy_M_compile bb_M_compile 2 (some .int)) (bo_rm 7 178) [.ref mo] := by
  obtain ⟨P, A, od, hz, co, sl, sh, ln, tb, flt, thn, hG, hX, hM⟩ := h
  obtain ⟨g1, g2, g3, g4, g5, g6, g7, g8, g9, g10, g11⟩ := id hG
  have hs1 := see_no g9
  have hsv : ∀ i, ¬ see tb ln i = 0 → i < 240 := fun i hi => Nat.lt_of_lt_of_le (see_lt hi) g7
  cases hT : rdS (see tb ln) fp0 cD0 with
  | error er =>
    have hne := rdS_ne hT
    refine ⟨_, _, _, _, fun f => h_compileIAE hX.at0 (k_F_compileBad hlst er g7 g8 hT hne hX), k_M_compileBad er g7 g8 hs1 hT hM, fun Y' hy => ⟨hy.at0, k_M_thrown hy⟩, fun X' Y' hx hy => ⟨P, A, od, hz, co, sl, sh, 0, tb, er, _, hG.ln0.up, hx, hy⟩⟩
  | ok z =>
    obtain ⟨v, hc9, DD⟩ := z
    have hok := mk_ok (rdS_ok hsv hT)
    refine ⟨_, _, _, _, fun f => h_compileOk hX.at0 (k_F_compileOk v hc9 DD g7 g8 hT hX), k_M_compileOk v hc9 DD g7 g8 hs1 hT hM, fun Y' hy => ⟨hy.at0, k_M_thrown hy⟩, fun X' Y' hx hy => ⟨_, _, od, hz, co, _, _, 0, tb, _, _, hG.ln0.anew hok, hx, hy⟩⟩

theorem lk_step {l : Launch} {D : va_G} {cJ cI cB cY : ClassId} (hlst : l.stackTraces = false) {k fo mo oa : Nat} {X Y : va_W} (n : Int32) (hk : k ≤ 512) (h : GJ cJ cI cB cY k fo mo X Y) : LK3 l D cJ cI cB cY k fo mo oa X Y yy_L_step (bo_wh yy_L_step bb_L_step 4 (some .int) [(0, 9, 12, 19), (0, 9, 15, 21), (0, 9, 18, 13)]) [.ref fo, .int n, .ref oa] yy_M_step (bo_w yy_M_step bb_M_step 3 (some .int)) (bo_rm 9 242) [.ref mo, .int n] := by
  obtain ⟨P, A, od, hz, co, sl, sh, ln, tb, flt, thn, hG, hX, hM⟩ := h
  obtain ⟨g1, g2, g3, g4, g5, g6, g7, g8, g9, g10, g11⟩ := id hG
  have hM9 := k_M_step (l := l) (D := D) n g1 g2 g3 g4 g5 (by omega) (by omega) hM
  by_cases h0 : P.ns = 0
  · rw [stF_1 h0] at hM9
    refine ⟨_, _, _, _, fun f => h_stepISE hX.at0 (k_F_stepISE hlst n h0 hX), hM9, fun Y' hy => ⟨hy.at0, k_M_thrown hy⟩, fun X' Y' hx hy => ⟨P, A, od, hz, co, sl, sh, ln, tb, flt, _, hG.up, hx, hy⟩⟩
  · by_cases hn : n < nI 1 ∨ ¬ n ≤ nI 200
    · rw [stF_3 h0 hn] at hM9
      refine ⟨_, _, _, _, fun f => h_stepIAE hX.at0 (k_F_stepIAE hlst n g1 h0 hn hX), hM9, fun Y' hy => ⟨hy.at0, k_M_thrown hy⟩, fun X' Y' hx hy => ⟨P, A, od, hz, co, sl, sh, ln, tb, flt, _, hG.up, hx, hy⟩⟩
    · obtain ⟨N, rfl, hN1, hN2⟩ := n_no hn
      cases hst : stA P od hz co N A 0 with
      | mk A1 z =>
        obtain ⟨d1, b⟩ := z
        cases b with
        | true =>
          rw [stF_0 h0 hn rfl hN2 hst] at hM9
          refine ⟨_, _, _, _, fun f => h_stepOk hX.at0 (k_F_stepOk A1 N d1 g1 g2 g3 g4 g5 (by omega) (by omega) h0 hN1 hN2 hst hX), hM9, fun Y' hy => ⟨hy.at0, k_M_thrown hy⟩, fun X' Y' hx hy => ⟨P, A1, od, hz, co, sl, sh, ln, tb, flt, _, hG.step hN2 hst, hx, hy⟩⟩
        | false =>
          rw [stF_2 h0 hn rfl hN2 hst] at hM9
          refine ⟨_, _, _, _, fun f => h_stepARE hX.at0 (k_F_stepARE hlst A1 N d1 g1 g2 g3 g4 g5 (by omega) (by omega) h0 hN1 hN2 hst hX), hM9, fun Y' hy => ⟨hy.at0, k_M_thrown hy⟩, fun X' Y' hx hy => ⟨P, A1, od, hz, co, sl, sh, ln, tb, flt, _, hG.step hN2 hst, hx, hy⟩⟩

theorem lk_box {l : Launch} {D : va_G} {cJ cI cB cY : ClassId} (hlst : l.stackTraces = false) {k fo mo oa : Nat} {X Y : va_W} (i v w : Int32) (hk : k ≤ 512) (h : GJ cJ cI cB cY k fo mo X Y) : LK3 l D cJ cI cB cY k fo mo oa X Y yy_L_box (bo_wh yy_L_box bb_L_box 6 (some .int) [(0, 12, 15, 27)]) [.ref fo, .int i, .int v, .int w, .ref oa] yy_M_box (bo_w yy_M_box bb_M_box 7 (some .int)) (bo_rm 0 0) [.ref mo, .int i, .int v, .int w] := by
  obtain ⟨P, A, od, hz, co, sl, sh, ln, tb, flt, thn, hG, hX, hM⟩ := h
  obtain ⟨g1, g2, g3, g4, g5, g6, g7, g8, g9, g10, g11⟩ := id hG
  by_cases hb : inB i A.h.bxs 400 = 0 ∨ hbf P.ns v w = 0
  · refine ⟨_, _, _, _, fun f => h_boxIOB hX.at0 (k_F_boxBad hlst i v w hb hX), k_M_boxBad i v w g1 (by omega) (hb.elim (fun q => Or.inl (in_bad.mp q)) (fun q => Or.inr (q.trans nI_0.symm))) hM, fun Y' hy => ⟨hy.at0, k_M_thrown hy⟩, fun X' Y' hx hy => ⟨P, A, od, hz, co, sl, sh, ln, tb, flt, _, hG.up, hx, hy⟩⟩
  · have hb2 : ¬ (bxBad i A.h.bxs ∨ hbf P.ns v w = nI 0) := fun q => hb (q.elim (fun z => Or.inl (in_bad.mpr z)) (fun z => Or.inr (z.trans nI_0)))
    obtain ⟨j, hj, hj4, rfl⟩ := in_no (by omega) (by decide) (fun q => hb (Or.inl q))
    obtain ⟨v1, w1, rfl, rfl, hvw⟩ := hb_no g1.1 (fun q => hb (Or.inr q))
    have hM9 := k_M_boxOk (l := l) (D := D) (nI j) (nI v1) (nI w1) g1 (by omega) hb2 hM
    rw [nI_clamp (show j < 2 ^ 31 by omega)] at hM9
    refine ⟨_, _, _, _, fun f => h_boxOk hX.at0 (k_F_boxOk j v1 w1 g1 hj hj4 (by omega) hvw hX), hM9, fun Y' hy => ⟨hy.at0, k_M_thrown hy⟩, fun X' Y' hx hy => ⟨P, A, od, hz, co, sl, sh, ln, tb, flt, _, hG.up, hx, hy⟩⟩

theorem lk_crossing {l : Launch} {D : va_G} {cJ cI cB cY : ClassId} (hlst : l.stackTraces = false) {k fo mo oa : Nat} {X Y : va_W} (i w : Int32) (hk : k ≤ 512) (h : GJ cJ cI cB cY k fo mo X Y) : LK3 l D cJ cI cB cY k fo mo oa X Y yy_L_crossing (bo_wh yy_L_crossing bb_L_crossing 5 (some .int) [(0, 10, 13, 27)]) [.ref fo, .int i, .int w, .ref oa] yy_M_crossing (bo_w yy_M_crossing bb_M_crossing 3 (some .int)) (bo_rm 0 0) [.ref mo, .int i, .int w] := by
  obtain ⟨P, A, od, hz, co, sl, sh, ln, tb, flt, thn, hG, hX, hM⟩ := h
  obtain ⟨g1, g2, g3, g4, g5, g6, g7, g8, g9, g10, g11⟩ := id hG
  have hcr := hX.crg
  by_cases hb : inB i A.h.crg 100 = 0 ∨ w < 0 ∨ nI 3 ≤ w
  · have hb2 : xgBad i A.h.crg 100 w 3 := by
      rcases hb with q | q
      · rcases in_bad.mp q with z | z | z
        · exact Or.inl z
        · exact Or.inr (Or.inl z)
        · exact Or.inr (Or.inr (Or.inl z))
      · exact Or.inr (Or.inr (Or.inr q))
    refine ⟨_, _, _, _, fun f => h_crossingIOB hX.at0 (k_F_crossingBad hlst i w hb hX), k_M_crossingBad i w (by omega) hb2 hM, fun Y' hy => ⟨hy.at0, k_M_thrown hy⟩, fun X' Y' hx hy => ⟨P, A, od, hz, co, sl, sh, ln, tb, flt, _, hG.up, hx, hy⟩⟩
  · have hb2 : ¬ xgBad i A.h.crg 100 w 3 := by
      rintro (z | z | z | z)
      · exact hb (Or.inl (in_bad.mpr (Or.inl z)))
      · exact hb (Or.inl (in_bad.mpr (Or.inr (Or.inl z))))
      · exact hb (Or.inl (in_bad.mpr (Or.inr (Or.inr z))))
      · exact hb (Or.inr z)
    obtain ⟨j, hj, hj4, rfl⟩ := in_no (by omega) (by decide) (fun q => hb (Or.inl q))
    obtain ⟨w1, hw1, rfl⟩ := nI_of (fun q => hb (Or.inr (Or.inl q)))
    have hw2 : ¬ nI 3 ≤ nI w1 := fun q => hb (Or.inr (Or.inr q))
    rw [nI_leI (by decide) hw1] at hw2
    refine ⟨_, _, _, _, fun f => h_crossingOk hX.at0 (k_F_crossingOk j w1 hj hj4 (by omega) (by omega) hX), k_M_crossingOk j w1 (by omega) hj hj4 (by omega) hb2 hM, fun Y' hy => ⟨hy.at0, k_M_thrown hy⟩, fun X' Y' hx hy => ⟨P, A, od, hz, co, sl, sh, ln, tb, flt, _, hG.up, hx, hy⟩⟩

theorem lk_coefficient {l : Launch} {D : va_G} {cJ cI cB cY : ClassId} (hlst : l.stackTraces = false) {k fo mo oa : Nat} {X Y : va_W} (v q hg : Int32) (hk : k ≤ 512) (h : GJ cJ cI cB cY k fo mo X Y) : LK3 l D cJ cI cB cY k fo mo oa X Y yy_L_coefficient (bo_wh yy_L_coefficient bb_L_coefficient 6 (some .int) [(0, 12, 15, 27), (0, 12, 19, 21)]) [.ref fo, .int v, .int q, .int hg, .ref oa] yy_M_coefficient (bo_w yy_M_coefficient bb_M_coefficient 4 (some .int)) (bo_rm 6 168) [.ref mo, .int v, .int q, .int hg] := by
  obtain ⟨P, A, od, hz, co, sl, sh, ln, tb, flt, thn, hG, hX, hM⟩ := h
  obtain ⟨g1, g2, g3, g4, g5, g6, g7, g8, g9, g10, g11⟩ := id hG
  by_cases hb : cfBad v P.ns q
  · refine ⟨_, _, _, _, fun f => h_coefficientIOB hX.at0 (k_F_coefBad hlst v q hg hb hX), k_M_coefBad v q hg hb hM, fun Y' hy => ⟨hy.at0, k_M_thrown hy⟩, fun X' Y' hx hy => ⟨P, A, od, hz, co, sl, sh, ln, tb, flt, _, hG.up, hx, hy⟩⟩
  · obtain ⟨v1, q1, rfl, rfl, hv, hq⟩ := cf_no9 g1.1 hb
    by_cases hbe : (cfB P A q1).2.2.2.2 = 0
    · refine ⟨_, _, _, _, fun f => h_coefficientOk hX.at0 (k_F_coefOk v1 q1 hg hv hq hbe hX), k_M_coefOk v1 q1 hg g1 hv hq hb hbe hM, fun Y' hy => ⟨hy.at0, k_M_thrown hy⟩, fun X' Y' hx hy => ⟨P, A, od, hz, co, sl, sh, ln, tb, flt, _, hG.up, hx, hy⟩⟩
    · refine ⟨_, _, _, _, fun f => h_coefficientARE hX.at0 (k_F_coefARE hlst v1 q1 hg hv hq hbe hX), k_M_coefARE v1 q1 hg g1 hv hq hb hbe hM, fun Y' hy => ⟨hy.at0, k_M_thrown hy⟩, fun X' Y' hx hy => ⟨P, A, od, hz, co, sl, sh, ln, tb, flt, _, hG.up, hx, hy⟩⟩
