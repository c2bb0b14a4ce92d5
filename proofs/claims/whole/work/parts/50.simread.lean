/-! what is read does not hang on what lay there before; what is read is good -/
theorem dgs_le {sv : Nat → Nat} : ∀ (k pl x m : Nat), x ≤ m → (dgs sv k pl x).2 ≤ (m + 1) * 10 ^ k - 1
  | 0, _, x, m, h => by show x ≤ _; omega
  | k + 1, pl, x, m, h => by
    unfold dgs
    split
    · rename_i hc
      have ih := dgs_le (sv := sv) k (pl + 1) (x * 10 + (sv pl - 48)) (m * 10 + 9) (by omega)
      have e : (m * 10 + 9 + 1) * 10 ^ k = (m + 1) * 10 ^ (k + 1) := by rw [Nat.pow_succ]; rw [show m * 10 + 9 + 1 = (m + 1) * 10 by omega, Nat.mul_assoc, Nat.mul_comm 10 (10 ^ k)]
      omega
    · have h1 : (m + 1) * 1 ≤ (m + 1) * 10 ^ (k + 1) := Nat.mul_le_mul_left _ (Nat.pos_of_ne_zero (by intro q; exact absurd q (Nat.ne_of_gt (Nat.pow_pos (by decide)))))
      show x ≤ _
      omega
theorem rN_b {sv : Nat → Nat} {pl p1 a1 b1 : Nat} (h : rN sv pl = .ok (p1, a1, b1)) : a1 ≤ 999 ∧ 0 < b1 ∧ b1 ≤ 99 := by
  have h3 := dgs_le (sv := sv) 3 pl 0 0 (Nat.le_refl _)
  have h2 := dgs_le (sv := sv) 2 ((dgs sv 3 pl 0).1 + 1) 0 0 (Nat.le_refl _)
  unfold rN at h
  split at h
  · split at h
    · split at h
      · exact absurd h (by simp)
      · simp only [Except.ok.injEq, Prod.mk.injEq] at h
        omega
    · exact absurd h (by simp)
  · simp only [Except.ok.injEq, Prod.mk.injEq] at h
    omega
theorem tn_ok {a b : Nat} (ha : a ≤ 999) (hb : 0 < b) (hb2 : b ≤ 99) : okI (tn_lo a b) (tn_hi a b) := by
  have e1 := nI_l (n := a) (by omega)
  have e2 := nI_l (n := b) (by omega)
  have e3 := lN_toInt (n := a) (by omega)
  have e4 := lN_toInt (n := b) (by omega)
  have m : (1048576 : Int64).toInt = 1048576 := by decide
  have hn : (-nI a).toInt64 = -(nI a).toInt64 := toL_neg (by omega)
  have hx : ((nI a).toInt64 * 1048576).toInt = (a : Int) * 1048576 := by
    rw [mul_i, e1, e3, m]
    · rw [e1, e3, m]; omega
    · rw [e1, e3, m]; omega
  have hy : ((-nI a).toInt64 * 1048576).toInt = -((a : Int) * 1048576) := by
    rw [hn, i64_neg_mul, neg_i, hx]
    · rw [hx]; omega
    · rw [hx]; omega
  have hbi : (nI b).toInt64.toInt = (b : Int) := by rw [e2, e4]
  unfold tn_lo tn_hi
  rw [← dn_fdiv (x := (nI a).toInt64 * 1048576) (by rw [hbi]; omega), ← dn_fdiv (x := (-nI a).toInt64 * 1048576) (by rw [hbi]; omega)]
  have p := dn_b (x := (nI a).toInt64 * 1048576) (y := (nI b).toInt64) (by rw [hbi]; omega) (by rw [hx]; omega) (by rw [hx]; omega)
  have q := dn_b (x := (-nI a).toInt64 * 1048576) (y := (nI b).toInt64) (by rw [hbi]; omega) (by rw [hy]; omega) (by rw [hy]; omega)
  rw [hx, hbi] at p
  rw [hy, hbi] at q
  generalize dn ((nI a).toInt64 * 1048576) (nI b).toInt64 = L at p ⊢
  generalize dn ((-nI a).toInt64 * 1048576) (nI b).toInt64 = R at q ⊢
  have b0 : (0 : Int) < (b : Int) := by omega
  have c1 : L.toInt + R.toInt ≤ 0 := by
    refine Int.le_of_mul_le_mul_right ?_ b0
    rw [Int.add_mul]; omega
  have c2 : (-1 : Int) < L.toInt := by
    refine Int.lt_of_mul_lt_mul_right (a := (b : Int)) ?_ (by omega)
    omega
  have c3 : (-1073741824 : Int) ≤ R.toInt := by
    have : (-1073741824 : Int) < R.toInt + 1 := by
      refine Int.lt_of_mul_lt_mul_right (a := (b : Int)) ?_ (by omega)
      rw [Int.add_mul]; omega
    omega
  have c4 := neg_i (x := R) (by omega) (by omega)
  exact ⟨by omega, by omega, by omega⟩
theorem okI_neg {x y : Int64} (h : okI x y) : okI (-y) (-x) := by
  obtain ⟨h1, h2, h3⟩ := h
  have a := neg_i (x := x) (by omega) (by omega)
  have b := neg_i (x := y) (by omega) (by omega)
  exact ⟨by omega, by omega, by omega⟩
theorem up_eq {α : Type} (f : Nat → α) (k : Nat) (x : α) : va_up f k x k = x := by unfold va_up; rw [if_pos rfl]
theorem up_ne {α : Type} (f : Nat → α) {k j : Nat} (x : α) (h : ¬ j = k) : va_up f k x j = f j := by unfold va_up; rw [if_neg h]
theorem fpN_ne {fp : Nat → Int32} {v pl u : Nat} (hp : pl < 2 ^ 31) (h : u = v ∨ ¬ fp u = -1) : ¬ fpN fp v pl u = -1 := by
  have h2 : ¬ nI pl = -1 := by
    intro q
    have h1 := nI_toInt hp
    rw [q] at h1
    have : (-1 : Int32).toInt = -1 := by decide
    omega
  unfold fpN upd
  split
  · show ¬ (if u = v then nI pl else fp u) = -1
    by_cases huv : u = v
    · rw [if_pos huv]; exact h2
    · rw [if_neg huv]; exact h.resolve_left huv
  · rename_i hv
    rcases h with rfl | h
    · exact hv
    · exact h
theorem rP_b {sv : Nat → Nat} {pl ro p1 q1 : Nat} (h : rP sv pl ro = .ok (p1, q1)) (hr : 0 < ro) : q1 ≤ ro := by
  unfold rP at h
  split at h
  · split at h
    · simp only [Except.ok.injEq, Prod.mk.injEq] at h; omega
    · exact absurd h (by simp)
  · simp only [Except.ok.injEq, Prod.mk.injEq] at h; omega
def rfR (b ro : Nat) (pw pw' : Nat → Nat) (fp : Nat → Int32) (a c : rfT) : Prop := match a, c with
  | .error e, .error e' => e = e'
  | .ok (p, w, z), .ok (p', w', z') => p = p' ∧ z = z' ∧ (∀ i, pw i = pw' i → w i = w' i) ∧ (∀ i, i < b ∨ b + 3 ≤ i → w i = pw i) ∧ w b + w (b + 1) + w (b + 2) ≤ pw b + pw (b + 1) + pw (b + 2) + ro ∧ (∀ u, ¬ fp u = -1 → ¬ z u = -1) ∧ (∀ u, u < 3 → 0 < w (b + u) → 0 < pw (b + u) ∨ ¬ z u = -1)
  | _, _ => False
theorem rF_R {sv : Nat → Nat} (hsv : ∀ i, ¬ sv i = 0 → i < 240) {b : Nat} : ∀ (k pl ro : Nat) (pw pw' : Nat → Nat) (fp : Nat → Int32), rfR b ro pw pw' fp (rF sv b k pl ro pw fp) (rF sv b k pl ro pw' fp)
  | 0, _, _, _, _, _ => rfl
  | k + 1, pl, ro, pw, pw', fp => by
    unfold rF
    by_cases h1 : 120 ≤ sv pl ∧ sv pl ≤ 122
    · rw [if_pos h1, if_pos h1]
      by_cases h2 : ro = 0
      · rw [if_pos h2, if_pos h2]
        exact rfl
      · rw [if_neg h2, if_neg h2]
        cases hP : rP sv (pl + 1) ro with
        | error e => exact rfl
        | ok z =>
          obtain ⟨p1, q1⟩ := z
          have hq := rP_b hP (by omega)
          have hpl := hsv pl (by omega)
          have ih := rF_R hsv (b := b) k p1 (ro - q1) (va_up pw (b + (sv pl - 120)) (pw (b + (sv pl - 120)) + q1)) (va_up pw' (b + (sv pl - 120)) (pw' (b + (sv pl - 120)) + q1)) (fpN fp (sv pl - 120) pl)
          dsimp only
          generalize rF sv b k p1 (ro - q1) (va_up pw (b + (sv pl - 120)) (pw (b + (sv pl - 120)) + q1)) (fpN fp (sv pl - 120) pl) = X at ih ⊢
          generalize rF sv b k p1 (ro - q1) (va_up pw' (b + (sv pl - 120)) (pw' (b + (sv pl - 120)) + q1)) (fpN fp (sv pl - 120) pl) = Y at ih ⊢
          cases X with
          | error e =>
            cases Y with
            | error e' => exact ih
            | ok z' => exact ih.elim
          | ok z =>
            cases Y with
            | error e' => exact ih.elim
            | ok z' =>
              obtain ⟨p, w, zz⟩ := z
              obtain ⟨p', w', zz'⟩ := z'
              obtain ⟨i1, i2, i3, i4, i5, i6, i7⟩ := ih
              generalize hv : sv pl - 120 = v at *
              have hv3 : v < 3 := by omega
              refine ⟨i1, i2, ?_, ?_, ?_, ?_, ?_⟩
              · intro i hi
                apply i3
                by_cases hq2 : i = b + v
                · subst hq2; rw [up_eq, up_eq, hi]
                · rw [up_ne _ _ hq2, up_ne _ _ hq2, hi]
              · intro i hi
                rw [i4 i hi, up_ne _ _ (by omega)]
              · have hs : va_up pw (b + v) (pw (b + v) + q1) b + va_up pw (b + v) (pw (b + v) + q1) (b + 1) + va_up pw (b + v) (pw (b + v) + q1) (b + 2) = pw b + pw (b + 1) + pw (b + 2) + q1 := by
                  rcases (show v = 0 ∨ v = 1 ∨ v = 2 by omega) with rfl | rfl | rfl
                  · rw [Nat.add_zero, up_eq, up_ne _ _ (by omega), up_ne _ _ (by omega)]; omega
                  · rw [up_eq, up_ne _ _ (by omega), up_ne _ _ (by omega)]; omega
                  · rw [up_eq, up_ne _ _ (by omega), up_ne _ _ (by omega)]; omega
                omega
              · intro u hu
                exact i6 u (fpN_ne (by omega) (Or.inr hu))
              · intro u hu h0
                rcases i7 u hu h0 with h9 | h9
                · by_cases hq2 : u = v
                  · exact Or.inr (i6 u (fpN_ne (by omega) (Or.inl hq2)))
                  · rw [up_ne _ _ (by omega)] at h9
                    exact Or.inl h9
                · exact Or.inr h9
    · rw [if_neg h1, if_neg h1]
      exact ⟨rfl, rfl, fun i hi => hi, fun i _ => rfl, by omega, fun u hu => hu, fun u _ h => Or.inl h⟩
/-- n terms agree and are good -/
def tmR (n : Nat) (f g f' g' : Nat → Int64) (pw pw' : Nat → Nat) (fp : Nat → Int32) : Prop := ∀ t, t < n → f t = f' t ∧ g t = g' t ∧ okI (f t) (g t) ∧ pSum pw t 3 ≤ 6 ∧ ∀ u, u < 3 → pw (t * 3 + u) = pw' (t * 3 + u) ∧ (0 < pw (t * 3 + u) → ¬ fp u = -1)
def rtR (n : Nat) (fp : Nat → Int32) (a c : rtT) : Prop := match a, c with
  | .error e, .error e' => e = e'
  | .ok (p, x, y, w, z), .ok (p', x', y', w', z') => p = p' ∧ z = z' ∧ tmR (n + 1) x y x' y' w w' z ∧ (∀ u, ¬ fp u = -1 → ¬ z u = -1)
  | _, _ => False
theorem rT_R {sv : Nat → Nat} (hsv : ∀ i, ¬ sv i = 0 → i < 240) {pl n : Nat} {ng : Int32} {f g f' g' : Nat → Int64} {pw pw' : Nat → Nat} {fp : Nat → Int32} (h : tmR n f g f' g' pw pw' fp) : rtR n fp (rT sv pl ng n f g pw fp) (rT sv pl ng n f' g' pw' fp) := by
  unfold rT
  cases hH : rH sv pl with
  | error e => exact rfl
  | ok z =>
    obtain ⟨p1, a1, b1⟩ := z
    have hab : a1 ≤ 999 ∧ 0 < b1 ∧ b1 ≤ 99 := by
      unfold rH at hH
      split at hH
      · exact rN_b hH
      · split at hH
        · simp only [Except.ok.injEq, Prod.mk.injEq] at hH; omega
        · exact absurd hH (by simp)
    have hok := tn_ok hab.1 hab.2.1 hab.2.2
    have hF := rF_R hsv (b := (n + 1 - 1) * 3) 7 p1 6 (pw_new pw n) (pw_new pw' n) fp
    dsimp only
    generalize rF sv ((n + 1 - 1) * 3) 7 p1 6 (pw_new pw n) fp = X at hF ⊢
    generalize rF sv ((n + 1 - 1) * 3) 7 p1 6 (pw_new pw' n) fp = Y at hF ⊢
    cases X with
    | error e =>
      cases Y with
      | error e' => exact hF
      | ok z' => exact hF.elim
    | ok z =>
      cases Y with
      | error e' => exact hF.elim
      | ok z' =>
        obtain ⟨p, w, zz⟩ := z
        obtain ⟨p', w', zz'⟩ := z'
        obtain ⟨i1, i2, i3, i4, i5, i6, i7⟩ := hF
        rw [Nat.add_sub_cancel] at i4 i5 i7
        have n0 : ∀ (P : Nat → Nat) (u : Nat), u < 3 → pw_new P n (n * 3 + u) = 0 := fun P u hu => by unfold pw_new; rw [if_pos (by omega)]
        have n1 : ∀ (P : Nat → Nat) (i : Nat), i < n * 3 → pw_new P n i = P i := fun P i hi => by unfold pw_new; rw [if_neg (by omega)]
        refine ⟨i1, i2, ?_, i6⟩
        intro t ht
        by_cases hq : t = n
        · subst hq
          rw [upL_eq, upL_eq, upL_eq, upL_eq]
          refine ⟨rfl, rfl, ?_, ?_, ?_⟩
          · split
            · exact hok
            · exact okI_neg hok
          · have a0 := n0 pw 0 (by omega)
            have a1 := n0 pw 1 (by omega)
            have a2 := n0 pw 2 (by omega)
            rw [Nat.add_zero] at a0
            show 0 + w (t * 3 + 0) + w (t * 3 + 1) + w (t * 3 + 2) ≤ 6
            rw [Nat.add_zero]
            omega
          · intro u hu
            refine ⟨i3 _ (by rw [n0 pw u hu, n0 pw' u hu]), fun h0 => ?_⟩
            rcases i7 u hu h0 with h9 | h9
            · rw [n0 pw u hu] at h9; omega
            · exact h9
        · obtain ⟨t1, t2, t3, t4, t5⟩ := h t (by omega)
          rw [upL_ne _ _ hq, upL_ne _ _ hq, upL_ne _ _ hq, upL_ne _ _ hq]
          have k : ∀ u, u < 3 → w (t * 3 + u) = pw (t * 3 + u) := fun u hu => by rw [i4 _ (by omega), n1 pw _ (by omega)]
          refine ⟨t1, t2, t3, ?_, ?_⟩
          · show 0 + w (t * 3 + 0) + w (t * 3 + 1) + w (t * 3 + 2) ≤ 6
            rw [k 0 (by omega), k 1 (by omega), k 2 (by omega)]
            exact t4
          · intro u hu
            refine ⟨i3 _ (by rw [n1 pw _ (by omega), n1 pw' _ (by omega)]; exact (t5 u hu).1), fun h0 => ?_⟩
            rw [k u hu] at h0
            exact i6 u ((t5 u hu).2 h0)
def rqR (fp : Nat → Int32) (a c : rqT) : Prop := match a, c with
  | .error e, .error e' => e = e'
  | .ok (p, n, x, y, w, z), .ok (p', n', x', y', w', z') => p = p' ∧ n = n' ∧ z = z' ∧ 0 < n ∧ n ≤ 12 ∧ tmR n x y x' y' w w' z ∧ (∀ u, ¬ fp u = -1 → ¬ z u = -1)
  | _, _ => False
theorem rqR_mono {fp fp2 : Nat → Int32} {a c : rqT} (h : rqR fp2 a c) (hm : ∀ u, ¬ fp u = -1 → ¬ fp2 u = -1) : rqR fp a c := by
  cases a with
  | error e => cases c with
    | error e' => exact h
    | ok z' => exact h.elim
  | ok z => cases c with
    | error e' => exact h.elim
    | ok z' =>
      obtain ⟨i1, i2, i3, i4, i5, i6, i7⟩ := h
      exact ⟨i1, i2, i3, i4, i5, i6, fun u hu => i7 u (hm u hu)⟩
theorem rQ_R {sv : Nat → Nat} (hsv : ∀ i, ¬ sv i = 0 → i < 240) : ∀ (k : Nat) (pl n : Nat) (ng : Int32) (f g f' g' : Nat → Int64) (pw pw' : Nat → Nat) (fp : Nat → Int32), n + k = 12 → tmR n f g f' g' pw pw' fp → rqR fp (rQ sv k pl ng n f g pw fp) (rQ sv k pl ng n f' g' pw' fp)
  | 0, _, _, _, _, _, _, _, _, _, _, _, _ => rfl
  | k + 1, pl, n, ng, f, g, f', g', pw, pw', fp, hk, h => by
    have hT := rT_R hsv (pl := pl) (ng := ng) h
    unfold rQ
    generalize rT sv pl ng n f g pw fp = X at hT ⊢
    generalize rT sv pl ng n f' g' pw' fp = Y at hT ⊢
    cases X with
    | error e =>
      cases Y with
      | error e' => exact hT
      | ok z' => exact hT.elim
    | ok z =>
      cases Y with
      | error e' => exact hT.elim
      | ok z' =>
        obtain ⟨p, x, y, w, zz⟩ := z
        obtain ⟨p', x', y', w', zz'⟩ := z'
        obtain ⟨i1, i2, i3, i4⟩ := hT
        subst i1
        subst i2
        dsimp only
        by_cases h1 : sv p = 43
        · rw [if_pos h1, if_pos h1]
          exact rqR_mono (rQ_R hsv k _ _ _ _ _ _ _ _ _ _ (by omega) i3) i4
        · rw [if_neg h1, if_neg h1]
          by_cases h2 : sv p = 45
          · rw [if_pos h2, if_pos h2]
            exact rqR_mono (rQ_R hsv k _ _ _ _ _ _ _ _ _ _ (by omega) i3) i4
          · rw [if_neg h2, if_neg h2]
            exact ⟨rfl, rfl, rfl, by omega, by omega, i3, i4⟩
theorem rPo_R {sv : Nat → Nat} (hsv : ∀ i, ¬ sv i = 0 → i < 240) {pl : Nat} {f g f' g' : Nat → Int64} {pw pw' : Nat → Nat} {fp : Nat → Int32} : rqR fp (rPo sv pl f g pw fp) (rPo sv pl f' g' pw' fp) := by
  unfold rPo
  split
  · exact rQ_R hsv 12 _ 0 _ _ _ _ _ _ _ _ rfl (fun t ht => by omega)
  · exact rQ_R hsv 12 _ 0 _ _ _ _ _ _ _ _ rfl (fun t ht => by omega)
theorem rE_R {sv : Nat → Nat} (hsv : ∀ i, ¬ sv i = 0 → i < 240) {pl nm : Nat} {f g f' g' : Nat → Int64} {pw pw' : Nat → Nat} {fp : Nat → Int32} : rqR fp (rE sv pl nm f g pw fp) (rE sv pl nm f' g' pw' fp) := by
  have h := rPo_R hsv (pl := pl + 1 + 1) (f := f) (g := g) (f' := f') (g' := g') (pw := pw) (pw' := pw') (fp := fp)
  unfold rE
  by_cases h1 : sv pl = nm
  · rw [if_pos h1, if_pos h1]
    by_cases h2 : sv (pl + 1) = 61
    · rw [if_pos h2, if_pos h2]
      generalize rPo sv (pl + 1 + 1) f g pw fp = X at h ⊢
      generalize rPo sv (pl + 1 + 1) f' g' pw' fp = Y at h ⊢
      cases X with
      | error e =>
        cases Y with
        | error e' => exact h
        | ok z' => exact h.elim
      | ok z =>
        cases Y with
        | error e' => exact h.elim
        | ok z' =>
          obtain ⟨p, n, x, y, w, zz⟩ := z
          obtain ⟨p', n', x', y', w', zz'⟩ := z'
          obtain ⟨i1, i2, i3, i4, i5, i6, i7⟩ := h
          subst i1
          dsimp only
          by_cases h3 : sv p = 59
          · rw [if_pos h3, if_pos h3]
            exact ⟨rfl, i2, i3, i4, i5, i6, i7⟩
          · rw [if_neg h3, if_neg h3]
            exact rfl
    · rw [if_neg h2, if_neg h2]
      exact rfl
  · rw [if_neg h1, if_neg h1]
    exact rfl
/-! the whole problem, as the document reads it -/
abbrev pD : Type := Nat × (Nat → Int64) × (Nat → Int64) × (Nat → Nat)
abbrev cD : Type := Nat → pD
def dset (D : cD) (p : Nat) (x : pD) : cD := fun i => if i = p then x else D i
abbrev rdT : Type := Except Int32 (Nat × Bool × cD)
abbrev zp : Nat → Nat := fun _ => 0
def rdF (sv : Nat → Nat) (v : Nat) (hc : Bool) (pl : Nat) (fp : Nat → Int32) (D : cD) : rdT :=
  if sv pl = 0 then (if fwS fp (3 - v) v (-1) = -1 then .ok (v, hc, D) else .error (fwS fp (3 - v) v (-1))) else .error (nI pl)
def rdG (sv : Nat → Nat) (v : Nat) (pl : Nat) (fp : Nat → Int32) (D : cD) : rdT :=
  if sv pl = 103 then match rE sv pl 103 z0 z0 zp fp with
    | .error e => .error (nI e)
    | .ok (p2, n2, x2, y2, w2, z2) => rdF sv v true p2 z2 (dset D 3 (n2, x2, y2, w2))
  else rdF sv v false pl fp D
def rdL (sv : Nat → Nat) : Nat → Nat → Nat → (Nat → Int32) → cD → rdT
  | 0, v, pl, fp, D => rdG sv v pl fp D
  | k + 1, v, pl, fp, D => if sv pl = 120 + v then match rE sv pl (120 + v) z0 z0 zp fp with
      | .error e => .error (nI e)
      | .ok (p2, n2, x2, y2, w2, z2) => rdL sv k (v + 1) p2 z2 (dset D v (n2, x2, y2, w2))
    else rdG sv v pl fp D
def fp0 : Nat → Int32 := fun _ => -1
def rdS (sv : Nat → Nat) (fp : Nat → Int32) (D : cD) : rdT := match rE sv 0 120 z0 z0 zp fp with
  | .error e => .error (nI e)
  | .ok (p2, n2, x2, y2, w2, z2) => rdL sv 2 1 p2 z2 (dset D 0 (n2, x2, y2, w2))
def gdP (ns : Nat) (x : pD) : Prop := 0 < x.1 ∧ x.1 ≤ 12 ∧ ∀ t, t < x.1 → okI (x.2.1 t) (x.2.2.1 t) ∧ pSum x.2.2.2 t 3 ≤ 6 ∧ ∀ u, u < 3 → 0 < x.2.2.2 (t * 3 + u) → u < ns
/-- good but for the letters, which are noted -/
def gdF (fp : Nat → Int32) (x : pD) : Prop := 0 < x.1 ∧ x.1 ≤ 12 ∧ ∀ t, t < x.1 → okI (x.2.1 t) (x.2.2.1 t) ∧ pSum x.2.2.2 t 3 ≤ 6 ∧ ∀ u, u < 3 → 0 < x.2.2.2 (t * 3 + u) → ¬ fp u = -1
def rdK (v : Nat) (hc : Bool) (D : cD) : Prop := 0 < v ∧ v ≤ 3 ∧ (∀ p, p < v → gdP v (D p)) ∧ (hc = true → gdP v (D 3))
theorem gdF_m {fp fp2 : Nat → Int32} {x : pD} (h : gdF fp x) (hm : ∀ u, ¬ fp u = -1 → ¬ fp2 u = -1) : gdF fp2 x := ⟨h.1, h.2.1, fun t ht => ⟨(h.2.2 t ht).1, (h.2.2 t ht).2.1, fun u hu h0 => hm u ((h.2.2 t ht).2.2 u hu h0)⟩⟩
theorem rqR_gd {fp : Nat → Int32} {p n : Nat} {x y : Nat → Int64} {w : Nat → Nat} {z : Nat → Int32} (h : rqR fp (.ok (p, n, x, y, w, z)) (.ok (p, n, x, y, w, z))) : gdF z (n, x, y, w) ∧ ∀ u, ¬ fp u = -1 → ¬ z u = -1 := by
  obtain ⟨-, -, -, h1, h2, h3, h4⟩ := h
  exact ⟨⟨h1, h2, fun t ht => ⟨(h3 t ht).2.2.1, (h3 t ht).2.2.2.1, fun u hu => ((h3 t ht).2.2.2.2 u hu).2⟩⟩, h4⟩
theorem fwS_mono {fp : Nat → Int32} : ∀ (k v : Nat) (a : Int32), ¬ a = -1 → ¬ fwS fp k v a = -1
  | 0, _, _, h => h
  | k + 1, v, a, h => by
    refine fwS_mono k (v + 1) _ ?_
    split
    · rename_i q; exact q.1
    · exact h
theorem fwS_no {fp : Nat → Int32} : ∀ (k v : Nat), fwS fp k v (-1) = -1 → ∀ u, v ≤ u → u < v + k → fp u = -1
  | 0, v, _, u, h1, h2 => by omega
  | k + 1, v, h, u, h1, h2 => by
    unfold fwS at h
    by_cases hv : fp v = -1
    · rw [if_neg (fun q => q.1 hv)] at h
      by_cases hu : u = v
      · rw [hu]; exact hv
      · exact fwS_no k (v + 1) h u (by omega) (by omega)
    · rw [if_pos ⟨hv, Or.inl rfl⟩] at h
      exact absurd h (fwS_mono k (v + 1) _ hv)
theorem dset_eq (D : cD) (p : Nat) (x : pD) : dset D p x p = x := by unfold dset; rw [if_pos rfl]
theorem dset_ne (D : cD) {p i : Nat} (x : pD) (h : ¬ i = p) : dset D p x i = D i := by unfold dset; rw [if_neg h]
section RD
variable {sv : Nat → Nat}
theorem rdF_ok {v : Nat} {hc : Bool} {pl : Nat} {fp : Nat → Int32} {D : cD} (h0 : 0 < v) (h3 : v ≤ 3) (hD : ∀ p, p < v → gdF fp (D p)) (hC : hc = true → gdF fp (D 3)) {v1 : Nat} {c1 : Bool} {D1 : cD} (h : rdF sv v hc pl fp D = .ok (v1, c1, D1)) : rdK v1 c1 D1 := by
  unfold rdF at h
  split at h
  · split at h
    · rename_i hf
      simp only [Except.ok.injEq, Prod.mk.injEq] at h
      obtain ⟨rfl, rfl, rfl⟩ := h
      have hn := fwS_no (3 - v) v hf
      have up : ∀ x : pD, gdF fp x → gdP v x := fun x hx => ⟨hx.1, hx.2.1, fun t ht => ⟨(hx.2.2 t ht).1, (hx.2.2 t ht).2.1, fun u hu h9 => Classical.byContradiction fun q => (hx.2.2 t ht).2.2 u hu h9 (hn u (by omega) (by omega))⟩⟩
      exact ⟨h0, h3, fun p hp => up _ (hD p hp), fun q => up _ (hC q)⟩
    · exact absurd h (by simp)
  · exact absurd h (by simp)
theorem rdG_ok (hsv : ∀ i, ¬ sv i = 0 → i < 240) {v : Nat} {pl : Nat} {fp : Nat → Int32} {D : cD} (h0 : 0 < v) (h3 : v ≤ 3) (hD : ∀ p, p < v → gdF fp (D p)) {v1 : Nat} {c1 : Bool} {D1 : cD} (h : rdG sv v pl fp D = .ok (v1, c1, D1)) : rdK v1 c1 D1 := by
  unfold rdG at h
  split at h
  · have hr := rE_R hsv (pl := pl) (nm := 103) (f := z0) (g := z0) (f' := z0) (g' := z0) (pw := zp) (pw' := zp) (fp := fp)
    cases hE : rE sv pl 103 z0 z0 zp fp with
    | error e => rw [hE] at h; exact absurd h (by simp)
    | ok z =>
      obtain ⟨p2, n2, x2, y2, w2, z2⟩ := z
      rw [hE] at h hr
      have hg := rqR_gd hr
      refine rdF_ok h0 h3 (fun p hp => ?_) (fun _ => ?_) h
      · rw [dset_ne _ _ (by omega)]
        exact gdF_m (hD p hp) hg.2
      · rw [dset_eq]
        exact hg.1
  · exact rdF_ok h0 h3 hD (fun q => absurd q (by decide)) h
theorem rdL_ok (hsv : ∀ i, ¬ sv i = 0 → i < 240) : ∀ (k v : Nat) {pl : Nat} {fp : Nat → Int32} {D : cD}, 0 < v → v + k = 3 → (∀ p, p < v → gdF fp (D p)) → ∀ {v1 : Nat} {c1 : Bool} {D1 : cD}, rdL sv k v pl fp D = .ok (v1, c1, D1) → rdK v1 c1 D1
  | 0, v, pl, fp, D, h0, h3, hD, v1, c1, D1, h => rdG_ok hsv h0 (by omega) hD h
  | k + 1, v, pl, fp, D, h0, h3, hD, v1, c1, D1, h => by
    unfold rdL at h
    split at h
    · have hr := rE_R hsv (pl := pl) (nm := 120 + v) (f := z0) (g := z0) (f' := z0) (g' := z0) (pw := zp) (pw' := zp) (fp := fp)
      cases hE : rE sv pl (120 + v) z0 z0 zp fp with
      | error e => rw [hE] at h; exact absurd h (by simp)
      | ok z =>
        obtain ⟨p2, n2, x2, y2, w2, z2⟩ := z
        rw [hE] at h hr
        have hg := rqR_gd hr
        refine rdL_ok hsv k (v + 1) (by omega) (by omega) (fun p hp => ?_) h
        by_cases hq : p = v
        · rw [hq, dset_eq]
          exact hg.1
        · rw [dset_ne _ _ hq]
          exact gdF_m (hD p (by omega)) hg.2
    · exact rdG_ok hsv h0 (by omega) hD h
theorem rdS_ok (hsv : ∀ i, ¬ sv i = 0 → i < 240) {fp : Nat → Int32} {D : cD} {v1 : Nat} {c1 : Bool} {D1 : cD} (h : rdS sv fp D = .ok (v1, c1, D1)) : rdK v1 c1 D1 := by
  unfold rdS at h
  have hr := rE_R hsv (pl := 0) (nm := 120) (f := z0) (g := z0) (f' := z0) (g' := z0) (pw := zp) (pw' := zp) (fp := fp)
  cases hE : rE sv 0 120 z0 z0 zp fp with
  | error e => rw [hE] at h; exact absurd h (by simp)
  | ok z =>
    obtain ⟨p2, n2, x2, y2, w2, z2⟩ := z
    rw [hE] at h hr
    have hg := rqR_gd hr
    refine rdL_ok hsv 2 1 (by omega) rfl (fun p hp => ?_) h
    obtain rfl : p = 0 := by omega
    rw [dset_eq]
    exact hg.1
end RD
/-! the tape of boxes and the crossings, told without what lies about -/
abbrev hA : Type := Nat × Nat × (Nat → Int32) × (Nat → Int32) × (Nat → Int32) × (Nat → Int32) × (Nat → Int32) × (Nat → Int32) × (Nat → Int32) × Int32 × Int32
abbrev hA.bxs (z9 : hA) : Nat := z9.1
abbrev hA.crg (z9 : hA) : Nat := z9.2.1
abbrev hA.KL (z9 : hA) : Nat → Int32 := z9.2.2.1
abbrev hA.KH (z9 : hA) : Nat → Int32 := z9.2.2.2.1
abbrev hA.QL (z9 : hA) : Nat → Int32 := z9.2.2.2.2.1
abbrev hA.QH (z9 : hA) : Nat → Int32 := z9.2.2.2.2.2.1
abbrev hA.KT (z9 : hA) : Nat → Int32 := z9.2.2.2.2.2.2.1
abbrev hA.KS (z9 : hA) : Nat → Int32 := z9.2.2.2.2.2.2.2.1
abbrev hA.X (z9 : hA) : Nat → Int32 := z9.2.2.2.2.2.2.2.2.1
abbrev hA.lsg (z9 : hA) : Int32 := z9.2.2.2.2.2.2.2.2.2.1
abbrev hA.lbx (z9 : hA) : Int32 := z9.2.2.2.2.2.2.2.2.2.2
def hA0 : hA := ⟨0, 0, fun _ => 0, fun _ => 0, fun _ => 0, fun _ => 0, fun _ => 0, fun _ => 0, fun _ => 0, 0, -1⟩
def addA (h : hA) (ns : Nat) (xl xh pf pg : Nat → Int64) (tm sg : Int32) : hA :=
  ⟨h.bxs + 1, (hN h.crg h.X h.lsg h.lbx h.bxs sg).1, kA h.KL h.bxs xl ns, kA h.KH h.bxs xh ns, kA h.QL h.bxs pf ns, kA h.QH h.bxs pg ns, kT h.KT h.bxs tm, kT h.KS h.bxs sg, (hN h.crg h.X h.lsg h.lbx h.bxs sg).2.1, (hN h.crg h.X h.lsg h.lbx h.bxs sg).2.2.1, (hN h.crg h.X h.lsg h.lbx h.bxs sg).2.2.2⟩
abbrev cxR (h : hA) (X : Nat → Int32) (ncr nb : Nat) (ls lsd : Int32) : Prop := (nb = h.bxs) ∧ (ncr = h.crg) ∧ (ls = h.lsg) ∧ (¬ ls = 0 → lsd = h.lbx) ∧ (∀ i w, i < ncr → i < 100 → w < 3 → X (i * 3 + w) = h.X (i * 3 + w)) ∧ (ncr ≤ nb) ∧ (nb = 0 → ls = 0)
theorem cxR.hb {h : hA} {X : Nat → Int32} {ncr nb : Nat} {ls lsd : Int32} (h9 : cxR h X ncr nb ls lsd) : nb = h.bxs := h9.1
theorem cxR.hc {h : hA} {X : Nat → Int32} {ncr nb : Nat} {ls lsd : Int32} (h9 : cxR h X ncr nb ls lsd) : ncr = h.crg := h9.2.1
theorem cxR.hs {h : hA} {X : Nat → Int32} {ncr nb : Nat} {ls lsd : Int32} (h9 : cxR h X ncr nb ls lsd) : ls = h.lsg := h9.2.2.1
theorem cxR.lb {h : hA} {X : Nat → Int32} {ncr nb : Nat} {ls lsd : Int32} (h9 : cxR h X ncr nb ls lsd) : ¬ ls = 0 → lsd = h.lbx := h9.2.2.2.1
theorem cxR.x {h : hA} {X : Nat → Int32} {ncr nb : Nat} {ls lsd : Int32} (h9 : cxR h X ncr nb ls lsd) : ∀ i w, i < ncr → i < 100 → w < 3 → X (i * 3 + w) = h.X (i * 3 + w) := h9.2.2.2.2.1
theorem cxR.le {h : hA} {X : Nat → Int32} {ncr nb : Nat} {ls lsd : Int32} (h9 : cxR h X ncr nb ls lsd) : ncr ≤ nb := h9.2.2.2.2.2.1
theorem cxR.l0 {h : hA} {X : Nat → Int32} {ncr nb : Nat} {ls lsd : Int32} (h9 : cxR h X ncr nb ls lsd) : nb = 0 → ls = 0 := h9.2.2.2.2.2.2
abbrev hRm (ns : Nat) (h : hA) (KL KH QL QH KT KS : Nat → Int32) (nb : Nat) : Prop := (∀ i v, i < nb → i < 400 → v < ns → KL (3 * i + v) = h.KL (3 * i + v) ∧ KH (3 * i + v) = h.KH (3 * i + v) ∧ QL (3 * i + v) = h.QL (3 * i + v) ∧ QH (3 * i + v) = h.QH (3 * i + v)) ∧ (∀ i, i < nb → i < 400 → KT i = h.KT i ∧ KS i = h.KS i)
theorem hRm.b {ns : Nat} {h : hA} {KL KH QL QH KT KS : Nat → Int32} {nb : Nat} (h9 : hRm ns h KL KH QL QH KT KS nb) : ∀ i v, i < nb → i < 400 → v < ns → KL (3 * i + v) = h.KL (3 * i + v) ∧ KH (3 * i + v) = h.KH (3 * i + v) ∧ QL (3 * i + v) = h.QL (3 * i + v) ∧ QH (3 * i + v) = h.QH (3 * i + v) := h9.1
theorem hRm.t {ns : Nat} {h : hA} {KL KH QL QH KT KS : Nat → Int32} {nb : Nat} (h9 : hRm ns h KL KH QL QH KT KS nb) : ∀ i, i < nb → i < 400 → KT i = h.KT i ∧ KS i = h.KS i := h9.2
abbrev hRc (ns : Nat) (h : hA) (B : Nat → Int32) (nb : Nat) : Prop := (∀ i v, i < nb → i < 400 → v < ns → B (i * 14 + v * 4) = h.KL (3 * i + v) ∧ B (i * 14 + v * 4 + 1) = h.KH (3 * i + v) ∧ B (i * 14 + v * 4 + 2) = h.QL (3 * i + v) ∧ B (i * 14 + v * 4 + 3) = h.QH (3 * i + v)) ∧ (∀ i, i < nb → i < 400 → B (i * 14 + 12) = h.KT i ∧ B (i * 14 + 12 + 1) = h.KS i)
theorem hRc.b {ns : Nat} {h : hA} {B : Nat → Int32} {nb : Nat} (h9 : hRc ns h B nb) : ∀ i v, i < nb → i < 400 → v < ns → B (i * 14 + v * 4) = h.KL (3 * i + v) ∧ B (i * 14 + v * 4 + 1) = h.KH (3 * i + v) ∧ B (i * 14 + v * 4 + 2) = h.QL (3 * i + v) ∧ B (i * 14 + v * 4 + 3) = h.QH (3 * i + v) := h9.1
theorem hRc.t {ns : Nat} {h : hA} {B : Nat → Int32} {nb : Nat} (h9 : hRc ns h B nb) : ∀ i, i < nb → i < 400 → B (i * 14 + 12) = h.KT i ∧ B (i * 14 + 12 + 1) = h.KS i := h9.2
theorem u_eq (f : Nat → Int32) (k : Nat) (x : Int32) : upd f k x k = x := by unfold upd; rw [if_pos rfl]
theorem u_ne (f : Nat → Int32) {k j : Nat} (x : Int32) (h : ¬ j = k) : upd f k x j = f j := by unfold upd; rw [if_neg h]
theorem neg_0 {x : Int32} (h : -x = 0) : x = 0 := by
  have := congrArg (fun y => -y) h
  simpa using this
theorem cx_add {h : hA} {X : Nat → Int32} {ncr nb : Nat} {ls lsd : Int32} (hc : cxR h X ncr nb ls lsd) {ns : Nat} {xl xh pf pg : Nat → Int64} {tm sg : Int32} {ncr1 : Nat} {X1 : Nat → Int32} {ls1 lsd1 : Int32} (e : (ncr1, X1, ls1, lsd1) = hN ncr X ls lsd nb sg) : cxR (addA h ns xl xh pf pg tm sg) X1 ncr1 (nb + 1) ls1 lsd1 := by
  obtain ⟨e1, e2, e3, e4, e5, e6, e7⟩ := hc
  have a1 : (addA h ns xl xh pf pg tm sg).bxs = h.bxs + 1 := rfl
  have a2 : (addA h ns xl xh pf pg tm sg).crg = (hN h.crg h.X h.lsg h.lbx h.bxs sg).1 := rfl
  have a3 : (addA h ns xl xh pf pg tm sg).lsg = (hN h.crg h.X h.lsg h.lbx h.bxs sg).2.2.1 := rfl
  have a4 : (addA h ns xl xh pf pg tm sg).lbx = (hN h.crg h.X h.lsg h.lbx h.bxs sg).2.2.2 := rfl
  have a5 : (addA h ns xl xh pf pg tm sg).X = (hN h.crg h.X h.lsg h.lbx h.bxs sg).2.1 := rfl
  unfold hN at e a2 a3 a4 a5
  by_cases hs : sg = 0
  · rw [if_pos hs] at e a2 a3 a4 a5
    simp only [Prod.mk.injEq] at e
    obtain ⟨rfl, rfl, rfl, rfl⟩ := e
    refine ⟨by rw [a1, e1], by rw [a2, e2], by rw [a3, e3], fun q => by rw [a4, e4 q], fun i w h1 h2 h3 => by rw [a5]; exact e5 i w h1 h2 h3, by omega, fun q => by omega⟩
  · rw [if_neg hs] at e a2 a3 a4 a5
    simp only [Prod.mk.injEq] at e
    obtain ⟨r1, r2, r3, r4⟩ := e
    unfold hX at r1 r2 a2 a5
    rw [← e3] at a2 a5
    by_cases hl : ls = -sg
    · rw [if_pos hl] at r1 r2 a2 a5
      have hb := e4 (fun q => hs (neg_0 (hl.symm.trans q)))
      have hnb : 0 < nb := by
        rcases Nat.eq_zero_or_pos nb with h9 | h9
        · exact absurd (neg_0 (hl.symm.trans (e7 h9))) hs
        · exact h9
      refine ⟨by rw [a1, e1], by rw [a2, r1, e2], by rw [a3, r3], fun q => by rw [a4, r4, e1], ?_, by rw [r1]; show ncr + 1 ≤ _; omega, fun q => by omega⟩
      intro i w h1 h2 h3
      rw [r1] at h1
      rw [r2, a5]
      show xC _ _ _ _ _ _ = xC _ _ _ _ _ _
      rw [← e2, ← e1, ← hb]
      unfold xC
      by_cases h4 : ncr < 100
      · rw [if_pos h4, if_pos h4]
        change i < ncr + 1 at h1
        by_cases h5 : i = ncr
        · subst h5
          rcases (show w = 0 ∨ w = 1 ∨ w = 2 by omega) with rfl | rfl | rfl
          · rw [u_ne _ _ (by omega), u_ne _ _ (by omega), Nat.add_zero, u_eq, u_ne _ _ (by omega), u_ne _ _ (by omega), u_eq]
          · rw [u_ne _ _ (by omega), u_eq, u_ne _ _ (by omega), u_eq]
          · rw [u_eq, u_eq]
        · rw [u_ne _ _ (by omega), u_ne _ _ (by omega), u_ne _ _ (by omega), u_ne _ _ (by omega), u_ne _ _ (by omega), u_ne _ _ (by omega)]
          exact e5 i w (by omega) h2 h3
      · rw [if_neg h4, if_neg h4]
        change i < ncr + 1 at h1
        exact e5 i w (by omega) h2 h3
    · rw [if_neg hl] at r1 r2 a2 a5
      refine ⟨by rw [a1, e1], by rw [a2, r1, e2], by rw [a3, r3], fun q => by rw [a4, r4, e1], ?_, by rw [r1]; show ncr ≤ _; omega, fun q => by omega⟩
      intro i w h1 h2 h3
      rw [r1] at h1
      rw [r2, a5]
      exact e5 i w h1 h2 h3
theorem kL_at {K : Nat → Int32} {n : Nat} {x : Nat → Int64} : ∀ (m j : Nat), kL K n x m j = if 3 * n ≤ j ∧ j < 3 * n + m then (x (j - 3 * n)).toInt32 else K j
  | 0, j => by rw [if_neg (by omega)]; rfl
  | m + 1, j => by
    show upd _ _ _ _ = _
    by_cases h : j = 3 * n + m
    · rw [h, u_eq, if_pos (by omega), show 3 * n + m - 3 * n = m by omega]
    · rw [u_ne _ _ h, kL_at m j]
      by_cases h2 : 3 * n ≤ j ∧ j < 3 * n + m
      · rw [if_pos h2, if_pos (by omega)]
      · rw [if_neg h2, if_neg (by omega)]
theorem kA_R {K K2 : Nat → Int32} {n ns : Nat} {x x2 : Nat → Int64} (hx : ∀ u, u < ns → x u = x2 u) (hns : ns ≤ 3) {i v : Nat} (hi : i < n + 1) (h4 : i < 400) (hv : v < ns) (hK : i < n → K (3 * i + v) = K2 (3 * i + v)) : kA K n x ns (3 * i + v) = kA K2 n x2 ns (3 * i + v) := by
  unfold kA
  by_cases h : n < 400
  · rw [if_pos h, if_pos h, kL_at, kL_at]
    by_cases hin : i = n
    · subst hin
      rw [if_pos (by omega), if_pos (by omega), hx _ (by omega)]
    · rw [if_neg (by omega), if_neg (by omega)]
      exact hK (by omega)
  · rw [if_neg h, if_neg h]
    exact hK (by omega)
theorem kT_R {K K2 : Nat → Int32} {n : Nat} {x : Int32} {i : Nat} (hi : i < n + 1) (h4 : i < 400) (hK : i < n → K i = K2 i) : kT K n x i = kT K2 n x i := by
  unfold kT
  by_cases h : n < 400
  · rw [if_pos h, if_pos h]
    by_cases hin : i = n
    · rw [hin, u_eq, u_eq]
    · rw [u_ne _ _ hin, u_ne _ _ hin]
      exact hK (by omega)
  · rw [if_neg h, if_neg h]
    exact hK (by omega)
theorem hm_add {ns : Nat} {h : hA} {KL KH QL QH KT KS : Nat → Int32} {nb : Nat} (hh : hRm ns h KL KH QL QH KT KS nb) (hnb : nb = h.bxs) (hns : ns ≤ 3) {xl xh x2 y2 pf pg p2 q2 : Nat → Int64} (hx : aR ns xl xh x2 y2) (hp : aR ns pf pg p2 q2) {tm sg : Int32} :
    hRm ns (addA h ns x2 y2 p2 q2 tm sg) (kA KL nb xl ns) (kA KH nb xh ns) (kA QL nb pf ns) (kA QH nb pg ns) (kT KT nb tm) (kT KS nb sg) (nb + 1) := by
  subst hnb
  refine ⟨fun i v hi h4 hv => ⟨?_, ?_, ?_, ?_⟩, fun i hi h4 => ⟨?_, ?_⟩⟩
  · exact kA_R (fun u hu => (hx u hu).1) hns hi h4 hv (fun q => (hh.b i v q h4 hv).1)
  · exact kA_R (fun u hu => (hx u hu).2.1) hns hi h4 hv (fun q => (hh.b i v q h4 hv).2.1)
  · exact kA_R (fun u hu => (hp u hu).1) hns hi h4 hv (fun q => (hh.b i v q h4 hv).2.2.1)
  · exact kA_R (fun u hu => (hp u hu).2.1) hns hi h4 hv (fun q => (hh.b i v q h4 hv).2.2.2)
  · exact kT_R hi h4 (fun q => (hh.t i q h4).1)
  · exact kT_R hi h4 (fun q => (hh.t i q h4).2)
theorem bL_out {B : Nat → Int32} {n : Nat} {xl xh pf pg : Nat → Int64} : ∀ (m j : Nat), (j < n * 14 ∨ n * 14 + m * 4 ≤ j) → bL B n xl xh pf pg m j = B j
  | 0, j, _ => rfl
  | m + 1, j, h => by
    show upd (upd (upd (upd _ _ _) _ _) _ _) _ _ _ = _
    rw [u_ne _ _ (by omega), u_ne _ _ (by omega), u_ne _ _ (by omega), u_ne _ _ (by omega)]
    exact bL_out m j (by omega)
theorem bL_in {B : Nat → Int32} {n : Nat} {xl xh pf pg : Nat → Int64} {v : Nat} : ∀ (m : Nat), v < m → bL B n xl xh pf pg m (n * 14 + v * 4) = (xl v).toInt32 ∧ bL B n xl xh pf pg m (n * 14 + v * 4 + 1) = (xh v).toInt32 ∧ bL B n xl xh pf pg m (n * 14 + v * 4 + 2) = (pf v).toInt32 ∧ bL B n xl xh pf pg m (n * 14 + v * 4 + 3) = (pg v).toInt32
  | m + 1, h => by
    show upd (upd (upd (upd _ _ _) _ _) _ _) _ _ _ = _ ∧ upd (upd (upd (upd _ _ _) _ _) _ _) _ _ _ = _ ∧ upd (upd (upd (upd _ _ _) _ _) _ _) _ _ _ = _ ∧ upd (upd (upd (upd _ _ _) _ _) _ _) _ _ _ = _
    by_cases hq : v = m
    · subst hq
      refine ⟨?_, ?_, ?_, ?_⟩
      · rw [u_ne _ _ (by omega), u_ne _ _ (by omega), u_ne _ _ (by omega), u_eq]
      · rw [u_ne _ _ (by omega), u_ne _ _ (by omega), u_eq]
      · rw [u_ne _ _ (by omega), u_eq]
      · rw [u_eq]
    · have ih := bL_in (B := B) (n := n) (xl := xl) (xh := xh) (pf := pf) (pg := pg) (v := v) m (by omega)
      refine ⟨?_, ?_, ?_, ?_⟩
      · rw [u_ne _ _ (by omega), u_ne _ _ (by omega), u_ne _ _ (by omega), u_ne _ _ (by omega)]; exact ih.1
      · rw [u_ne _ _ (by omega), u_ne _ _ (by omega), u_ne _ _ (by omega), u_ne _ _ (by omega)]; exact ih.2.1
      · rw [u_ne _ _ (by omega), u_ne _ _ (by omega), u_ne _ _ (by omega), u_ne _ _ (by omega)]; exact ih.2.2.1
      · rw [u_ne _ _ (by omega), u_ne _ _ (by omega), u_ne _ _ (by omega), u_ne _ _ (by omega)]; exact ih.2.2.2
theorem kA_old {K : Nat → Int32} {n ns i v : Nat} {x : Nat → Int64} (h : i < n) (hv : v < 3) : kA K n x ns (3 * i + v) = K (3 * i + v) := by
  unfold kA
  split
  · rw [kL_at, if_neg (by omega)]
  · rfl
theorem kA_new {K : Nat → Int32} {n ns v : Nat} {x : Nat → Int64} (h : n < 400) (hv : v < ns) : kA K n x ns (3 * n + v) = (x v).toInt32 := by
  unfold kA
  rw [if_pos h, kL_at, if_pos (by omega), show 3 * n + v - 3 * n = v by omega]
theorem kT_old {K : Nat → Int32} {n i : Nat} {x : Int32} (h : i < n) : kT K n x i = K i := by
  unfold kT
  split
  · rw [u_ne _ _ (by omega)]
  · rfl
theorem kT_new {K : Nat → Int32} {n : Nat} {x : Int32} (h : n < 400) : kT K n x n = x := by
  unfold kT
  rw [if_pos h, u_eq]
theorem bAdd_old {B : Nat → Int32} {n : Nat} {xl xh pf pg : Nat → Int64} {tm sg : Int32} {j : Nat} (h : j < n * 14) : bAdd B n xl xh pf pg tm sg j = B j := by
  unfold bAdd
  split
  · rw [u_ne _ _ (by omega), u_ne _ _ (by omega), bL_out 3 j (by omega)]
  · rfl
theorem hc_add {ns : Nat} {h : hA} {B : Nat → Int32} {nb : Nat} (hh : hRc ns h B nb) (hnb : nb = h.bxs) (hns : ns ≤ 3) {xl xh x2 y2 pf pg p2 q2 : Nat → Int64} (hx : aR ns xl xh x2 y2) (hp : aR ns pf pg p2 q2) {tm sg : Int32} :
    hRc ns (addA h ns x2 y2 p2 q2 tm sg) (bAdd B nb xl xh pf pg tm sg) (nb + 1) := by
  subst hnb
  have a1 : (addA h ns x2 y2 p2 q2 tm sg).KL = kA h.KL h.bxs x2 ns := rfl
  have a2 : (addA h ns x2 y2 p2 q2 tm sg).KH = kA h.KH h.bxs y2 ns := rfl
  have a3 : (addA h ns x2 y2 p2 q2 tm sg).QL = kA h.QL h.bxs p2 ns := rfl
  have a4 : (addA h ns x2 y2 p2 q2 tm sg).QH = kA h.QH h.bxs q2 ns := rfl
  have a5 : (addA h ns x2 y2 p2 q2 tm sg).KT = kT h.KT h.bxs tm := rfl
  have a6 : (addA h ns x2 y2 p2 q2 tm sg).KS = kT h.KS h.bxs sg := rfl
  refine ⟨fun i v hi h4 hv => ?_, fun i hi h4 => ?_⟩
  · rw [a1, a2, a3, a4]
    by_cases hq : i = h.bxs
    · subst hq
      have ib := bL_in (B := B) (n := h.bxs) (xl := xl) (xh := xh) (pf := pf) (pg := pg) (v := v) 3 (by omega)
      rw [kA_new h4 hv, kA_new h4 hv, kA_new h4 hv, kA_new h4 hv, ← (hx v hv).1, ← (hx v hv).2.1, ← (hp v hv).1, ← (hp v hv).2.1]
      unfold bAdd
      rw [if_pos h4]
      refine ⟨?_, ?_, ?_, ?_⟩
      · rw [u_ne _ _ (by omega), u_ne _ _ (by omega)]; exact ib.1
      · rw [u_ne _ _ (by omega), u_ne _ _ (by omega)]; exact ib.2.1
      · rw [u_ne _ _ (by omega), u_ne _ _ (by omega)]; exact ib.2.2.1
      · rw [u_ne _ _ (by omega), u_ne _ _ (by omega)]; exact ib.2.2.2
    · have hi2 : i < h.bxs := by omega
      rw [kA_old hi2 (by omega), kA_old hi2 (by omega), kA_old hi2 (by omega), kA_old hi2 (by omega), bAdd_old (by omega), bAdd_old (by omega), bAdd_old (by omega), bAdd_old (by omega)]
      exact hh.b i v hi2 h4 hv
  · rw [a5, a6]
    by_cases hq : i = h.bxs
    · subst hq
      rw [kT_new h4, kT_new h4]
      unfold bAdd
      rw [if_pos h4]
      exact ⟨by rw [u_ne _ _ (by omega), u_eq], by rw [u_eq]⟩
    · have hi2 : i < h.bxs := by omega
      rw [kT_old hi2, kT_old hi2, bAdd_old (by omega), bAdd_old (by omega)]
      exact hh.t i hi2 h4
/-! a run, told without what lies about -/
abbrev PB : Type := Nat × Int32 × (Nat → Nat) × (Nat → Int64) × (Nat → Int64) × (Nat → Nat)
abbrev PB.ns (z9 : PB) : Nat := z9.1
abbrev PB.crs (z9 : PB) : Int32 := z9.2.1
abbrev PB.mn (z9 : PB) : Nat → Nat := z9.2.2.1
abbrev PB.fl (z9 : PB) : Nat → Int64 := z9.2.2.2.1
abbrev PB.fh (z9 : PB) : Nat → Int64 := z9.2.2.2.2.1
abbrev PB.pw (z9 : PB) : Nat → Nat := z9.2.2.2.2.2
abbrev AS : Type := Nat × Nat × Nat × Nat × Int32 × (Nat → Int64) × (Nat → Int64) × hA
abbrev AS.tim (z9 : AS) : Nat := z9.1
abbrev AS.shf (z9 : AS) : Nat := z9.2.1
abbrev AS.clm (z9 : AS) : Nat := z9.2.2.1
abbrev AS.tri (z9 : AS) : Nat := z9.2.2.2.1
abbrev AS.rfd (z9 : AS) : Int32 := z9.2.2.2.2.1
abbrev AS.xl (z9 : AS) : Nat → Int64 := z9.2.2.2.2.2.1
abbrev AS.xh (z9 : AS) : Nat → Int64 := z9.2.2.2.2.2.2.1
abbrev AS.h (z9 : AS) : hA := z9.2.2.2.2.2.2.2
def PB.o (P : PB) (od : Nat) (A : AS) : Nat → Int32 := cO P.mn P.fl P.fh P.pw P.ns od A.xl A.xh
def PB.s0 (A : AS) (hz : Nat) : Nat := fit A.tim hz (16 - A.shf) A.shf
def PB.q (P : PB) (od hz : Nat) (A : AS) : Nat := goL (P.o od A) 17 (PB.s0 A hz)
def PB.nl (P : PB) (od hz : Nat) (A : AS) : Nat → Int64 := cNl P.mn P.fl P.fh P.pw P.ns od A.xl A.xh (P.q od hz A)
def PB.nh (P : PB) (od hz : Nat) (A : AS) : Nat → Int64 := cNh P.mn P.fl P.fh P.pw P.ns od A.xl A.xh (P.q od hz A)
def PB.pl (P : PB) (od hz : Nat) (A : AS) : Nat → Int64 := cPl P.mn P.fl P.fh P.pw P.ns od A.xl A.xh (P.q od hz A)
def PB.ph (P : PB) (od hz : Nat) (A : AS) : Nat → Int64 := cPh P.mn P.fl P.fh P.pw P.ns od A.xl A.xh (P.q od hz A)
def PB.sg (P : PB) (xl xh : Nat → Int64) : Int32 := sgM P.crs P.mn P.fl P.fh P.pw P.ns xl xh z0 z0
def goA (P : PB) (od hz co : Nat) (A : AS) : AS :=
  if P.o od A (P.q od hz A) = nI 0 then
    ⟨A.tim + 2 ^ (20 - P.q od hz A), (adC (P.q od hz A) A.shf A.clm co).2, (adC (P.q od hz A) A.shf A.clm co).1, A.tri + (P.q od hz A - PB.s0 A hz + 1), nI 0, P.nl od hz A, P.nh od hz A,
      addA A.h P.ns (P.nl od hz A) (P.nh od hz A) (P.pl od hz A) (P.ph od hz A) (nI (A.tim + 2 ^ (20 - P.q od hz A))) (P.sg (P.nl od hz A) (P.nh od hz A))⟩
  else ⟨A.tim, A.shf, A.clm, A.tri + (P.q od hz A - PB.s0 A hz + 1), P.o od A (P.q od hz A), A.xl, A.xh, A.h⟩
def stA (P : PB) (od hz co : Nat) : Nat → AS → Nat → AS × Nat × Bool
  | 0, A, d => (A, d, true)
  | n + 1, A, d => if A.tim < hz then (if (goA P od hz co A).rfd = nI 0 then stA P od hz co n (goA P od hz co A) (d + 1) else (goA P od hz co A, d, false)) else (A, d, true)
def anA (P : PB) (co : Nat) (sl sh : Nat → Int64) : AS := ⟨0, co, 0, 0, nI 0, sl, sh, if P.ns = 0 then hA0 else addA hA0 P.ns sl sh sl sh (nI 0) (P.sg sl sh)⟩
abbrev runR (A : AS) (tm sf cm tr : Nat) (rf : Int32) : Prop := (tm = A.tim) ∧ (sf = A.shf) ∧ (cm = A.clm) ∧ (tr = A.tri) ∧ (rf = A.rfd)
theorem runR.tm {A : AS} {tm sf cm tr : Nat} {rf : Int32} (h9 : runR A tm sf cm tr rf) : tm = A.tim := h9.1
theorem runR.sf {A : AS} {tm sf cm tr : Nat} {rf : Int32} (h9 : runR A tm sf cm tr rf) : sf = A.shf := h9.2.1
theorem runR.cm {A : AS} {tm sf cm tr : Nat} {rf : Int32} (h9 : runR A tm sf cm tr rf) : cm = A.clm := h9.2.2.1
theorem runR.tr {A : AS} {tm sf cm tr : Nat} {rf : Int32} (h9 : runR A tm sf cm tr rf) : tr = A.tri := h9.2.2.2.1
theorem runR.rf {A : AS} {tm sf cm tr : Nat} {rf : Int32} (h9 : runR A tm sf cm tr rf) : rf = A.rfd := h9.2.2.2.2
/-- what holds of every run -/
abbrev runG (hz co : Nat) (A : AS) : Prop := (A.tim ≤ hz) ∧ (A.tim % 16 = 0) ∧ (A.shf ≤ 16) ∧ (co ≤ A.shf) ∧ (A.clm ≤ 2)
theorem runG.tm {hz co : Nat} {A : AS} (h9 : runG hz co A) : A.tim ≤ hz := h9.1
theorem runG.t16 {hz co : Nat} {A : AS} (h9 : runG hz co A) : A.tim % 16 = 0 := h9.2.1
theorem runG.sf {hz co : Nat} {A : AS} (h9 : runG hz co A) : A.shf ≤ 16 := h9.2.2.1
theorem runG.co {hz co : Nat} {A : AS} (h9 : runG hz co A) : co ≤ A.shf := h9.2.2.2.1
theorem runG.cm {hz co : Nat} {A : AS} (h9 : runG hz co A) : A.clm ≤ 2 := h9.2.2.2.2
abbrev RC (ns : Nat) (A : AS) (tm sf cm tr : Nat) (rf : Int32) (xl xh : Nat → Int64) (B X : Nat → Int32) (nb ncr : Nat) (ls lsd : Int32) : Prop := (runR A tm sf cm tr rf) ∧ (aR ns xl xh A.xl A.xh) ∧ (cxR A.h X ncr nb ls lsd) ∧ (hRc ns A.h B nb)
theorem RC.r {ns : Nat} {A : AS} {tm sf cm tr : Nat} {rf : Int32} {xl xh : Nat → Int64} {B X : Nat → Int32} {nb ncr : Nat} {ls lsd : Int32} (h9 : RC ns A tm sf cm tr rf xl xh B X nb ncr ls lsd) : runR A tm sf cm tr rf := h9.1
theorem RC.x {ns : Nat} {A : AS} {tm sf cm tr : Nat} {rf : Int32} {xl xh : Nat → Int64} {B X : Nat → Int32} {nb ncr : Nat} {ls lsd : Int32} (h9 : RC ns A tm sf cm tr rf xl xh B X nb ncr ls lsd) : aR ns xl xh A.xl A.xh := h9.2.1
theorem RC.c {ns : Nat} {A : AS} {tm sf cm tr : Nat} {rf : Int32} {xl xh : Nat → Int64} {B X : Nat → Int32} {nb ncr : Nat} {ls lsd : Int32} (h9 : RC ns A tm sf cm tr rf xl xh B X nb ncr ls lsd) : cxR A.h X ncr nb ls lsd := h9.2.2.1
theorem RC.b {ns : Nat} {A : AS} {tm sf cm tr : Nat} {rf : Int32} {xl xh : Nat → Int64} {B X : Nat → Int32} {nb ncr : Nat} {ls lsd : Int32} (h9 : RC ns A tm sf cm tr rf xl xh B X nb ncr ls lsd) : hRc ns A.h B nb := h9.2.2.2
abbrev RM (ns : Nat) (A : AS) (tm sf cm tr : Nat) (rf : Int32) (xl xh : Nat → Int64) (KL KH QL QH KT KS X : Nat → Int32) (nb ncr : Nat) (ls lsd : Int32) : Prop := (runR A tm sf cm tr rf) ∧ (aR ns xl xh A.xl A.xh) ∧ (cxR A.h X ncr nb ls lsd) ∧ (hRm ns A.h KL KH QL QH KT KS nb)
theorem RM.r {ns : Nat} {A : AS} {tm sf cm tr : Nat} {rf : Int32} {xl xh : Nat → Int64} {KL KH QL QH KT KS X : Nat → Int32} {nb ncr : Nat} {ls lsd : Int32} (h9 : RM ns A tm sf cm tr rf xl xh KL KH QL QH KT KS X nb ncr ls lsd) : runR A tm sf cm tr rf := h9.1
theorem RM.x {ns : Nat} {A : AS} {tm sf cm tr : Nat} {rf : Int32} {xl xh : Nat → Int64} {KL KH QL QH KT KS X : Nat → Int32} {nb ncr : Nat} {ls lsd : Int32} (h9 : RM ns A tm sf cm tr rf xl xh KL KH QL QH KT KS X nb ncr ls lsd) : aR ns xl xh A.xl A.xh := h9.2.1
theorem RM.c {ns : Nat} {A : AS} {tm sf cm tr : Nat} {rf : Int32} {xl xh : Nat → Int64} {KL KH QL QH KT KS X : Nat → Int32} {nb ncr : Nat} {ls lsd : Int32} (h9 : RM ns A tm sf cm tr rf xl xh KL KH QL QH KT KS X nb ncr ls lsd) : cxR A.h X ncr nb ls lsd := h9.2.2.1
theorem RM.b {ns : Nat} {A : AS} {tm sf cm tr : Nat} {rf : Int32} {xl xh : Nat → Int64} {KL KH QL QH KT KS X : Nat → Int32} {nb ncr : Nat} {ls lsd : Int32} (h9 : RM ns A tm sf cm tr rf xl xh KL KH QL QH KT KS X nb ncr ls lsd) : hRm ns A.h KL KH QL QH KT KS nb := h9.2.2.2
theorem fit_le {tm hz : Nat} : ∀ (n q : Nat), q ≤ fit tm hz n q ∧ fit tm hz n q ≤ q + n
  | 0, q => ⟨Nat.le_refl _, Nat.le_refl _⟩
  | n + 1, q => by
    unfold fit
    split
    · omega
    · have := fit_le (tm := tm) (hz := hz) n (q + 1)
      omega
theorem p16 {q : Nat} (h : q ≤ 16) : 2 ^ (20 - q) % 16 = 0 := by
  have e : 20 - q = 4 + (16 - q) := by omega
  rw [e, Nat.pow_add]
  exact Nat.mul_mod_right 16 _
theorem fit_fits {tm hz : Nat} (h1 : tm < hz) (h2 : tm % 16 = 0) (h3 : hz % 16 = 0) : ∀ (n q : Nat), q + n = 16 → tm + 2 ^ (20 - fit tm hz n q) ≤ hz
  | 0, q, h => by
    have e : q = 16 := by omega
    subst e
    show tm + 2 ^ (20 - 16) ≤ hz
    have : 2 ^ (20 - 16) = 16 := rfl
    omega
  | n + 1, q, h => by
    unfold fit
    split
    · assumption
    · exact fit_fits h1 h2 h3 n (q + 1) (by omega)
theorem goL_le {o : Nat → Int32} : ∀ (n q : Nat), q ≤ 16 → q ≤ goL o n q ∧ goL o n q ≤ 16
  | 0, q, h => ⟨Nat.le_refl _, h⟩
  | n + 1, q, h => by
    unfold goL
    split
    · split
      · have := goL_le (o := o) n (q + 1) (by omega)
        omega
      · exact ⟨Nat.le_refl _, h⟩
    · exact ⟨Nat.le_refl _, h⟩
theorem goL_end {o : Nat → Int32} {n q : Nat} (h : ¬ o q = nI 1 ∨ 16 ≤ q) : goL o n q = q := by
  cases n with
  | zero => rfl
  | succ n =>
    unfold goL
    rcases h with h | h
    · rw [if_neg h]
    · split
      · rw [if_neg (by omega)]
      · rfl
theorem goL_step {o : Nat → Int32} {n q : Nat} (h : o q = nI 1) (h2 : q < 16) : goL o (n + 1) q = goL o n (q + 1) := by
  rw [goL, if_pos h, if_pos h2]
theorem q_le {P : PB} {od hz : Nat} {A : AS} {co : Nat} (g : runG hz co A) : A.shf ≤ PB.s0 A hz ∧ PB.s0 A hz ≤ P.q od hz A ∧ P.q od hz A ≤ 16 := by
  have h1 := fit_le (tm := A.tim) (hz := hz) (16 - A.shf) A.shf
  have hs := g.sf
  have h3 : PB.s0 A hz ≤ 16 := by show fit A.tim hz (16 - A.shf) A.shf ≤ 16; omega
  have h2 := goL_le (o := P.o od A) 17 (PB.s0 A hz) h3
  exact ⟨h1.1, h2.1, h2.2⟩
theorem adC_le {q sf cm co : Nat} (h : q ≤ 16) (h2 : co ≤ q) (h3 : cm ≤ 2) : (adC q sf cm co).2 ≤ 16 ∧ co ≤ (adC q sf cm co).2 ∧ (adC q sf cm co).1 ≤ 2 := by
  unfold adC
  by_cases h5 : (if sf < q then 0 else cm + 1) = 3
  · rw [if_pos h5]
    show (if co < q then q - 1 else q) ≤ 16 ∧ co ≤ (if co < q then q - 1 else q) ∧ 0 ≤ 2
    split <;> omega
  · rw [if_neg h5]
    show q ≤ 16 ∧ co ≤ q ∧ (if sf < q then 0 else cm + 1) ≤ 2
    by_cases h6 : sf < q
    · rw [if_pos h6]; omega
    · rw [if_neg h6] at h5 ⊢; omega
theorem goA_g {P : PB} {od hz co : Nat} {A : AS} (g : runG hz co A) (hz16 : hz % 16 = 0) (ht : A.tim < hz) : runG hz co (goA P od hz co A) := by
  have hq := q_le (P := P) (od := od) g
  have hf := fit_fits ht g.t16 hz16 (16 - A.shf) A.shf (by have := g.sf; omega)
  have hco := g.co
  unfold goA
  split
  · have ha := adC_le (q := P.q od hz A) (sf := A.shf) (cm := A.clm) (co := co) hq.2.2 (by omega) g.cm
    have hp : 2 ^ (20 - P.q od hz A) ≤ 2 ^ (20 - fit A.tim hz (16 - A.shf) A.shf) := Nat.pow_le_pow_right (by decide) (by have : fit A.tim hz (16 - A.shf) A.shf ≤ P.q od hz A := hq.2.1; omega)
    have h6 := p16 hq.2.2
    have h7 := g.t16
    exact ⟨by show A.tim + _ ≤ hz; omega, by show (A.tim + _) % 16 = 0; omega, ha.1, ha.2.1, ha.2.2⟩
  · exact ⟨g.tm, g.t16, g.sf, g.co, g.cm⟩
theorem goA_bad {P : PB} {od hz co : Nat} {A : AS} (h : ¬ P.o od A (P.q od hz A) = nI 0) : goA P od hz co A = ⟨A.tim, A.shf, A.clm, A.tri + (P.q od hz A - PB.s0 A hz + 1), P.o od A (P.q od hz A), A.xl, A.xh, A.h⟩ := if_neg h
theorem goA_good {P : PB} {od hz co : Nat} {A : AS} (h : P.o od A (P.q od hz A) = nI 0) : goA P od hz co A = ⟨A.tim + 2 ^ (20 - P.q od hz A), (adC (P.q od hz A) A.shf A.clm co).2, (adC (P.q od hz A) A.shf A.clm co).1, A.tri + (P.q od hz A - PB.s0 A hz + 1), nI 0, P.nl od hz A, P.nh od hz A,
      addA A.h P.ns (P.nl od hz A) (P.nh od hz A) (P.pl od hz A) (P.ph od hz A) (nI (A.tim + 2 ^ (20 - P.q od hz A))) (P.sg (P.nl od hz A) (P.nh od hz A))⟩ := if_pos h
/-- the class's step, put together -/
theorem RC_bad {ns : Nat} {P : PB} {od hz co : Nat} {A : AS} {tm sf cm tr : Nat} {rf : Int32} {xl xh : Nat → Int64} {B X : Nat → Int32} {nb ncr : Nat} {ls lsd : Int32} (h : RC ns A tm sf cm tr rf xl xh B X nb ncr ls lsd) (ho : ¬ P.o od A (P.q od hz A) = nI 0) {tr1 : Nat} {rf1 : Int32} (h1 : tr1 = tr + (P.q od hz A - PB.s0 A hz + 1)) (h2 : rf1 = P.o od A (P.q od hz A)) : RC ns (goA P od hz co A) tm sf cm tr1 rf1 xl xh B X nb ncr ls lsd ∧ ¬ (goA P od hz co A).rfd = nI 0 := by
  rw [goA_bad ho]
  exact ⟨⟨⟨h.r.tm, h.r.sf, h.r.cm, by rw [h1, h.r.tr], h2⟩, h.x, h.c, h.b⟩, ho⟩
theorem RM_bad {ns : Nat} {P : PB} {od hz co : Nat} {A : AS} {tm sf cm tr : Nat} {rf : Int32} {xl xh : Nat → Int64} {KL KH QL QH KT KS X : Nat → Int32} {nb ncr : Nat} {ls lsd : Int32} (h : RM ns A tm sf cm tr rf xl xh KL KH QL QH KT KS X nb ncr ls lsd) (ho : ¬ P.o od A (P.q od hz A) = nI 0) {tr1 : Nat} {rf1 : Int32} (h1 : tr1 = tr + (P.q od hz A - PB.s0 A hz + 1)) (h2 : rf1 = P.o od A (P.q od hz A)) : RM ns (goA P od hz co A) tm sf cm tr1 rf1 xl xh KL KH QL QH KT KS X nb ncr ls lsd ∧ ¬ (goA P od hz co A).rfd = nI 0 := by
  rw [goA_bad ho]
  exact ⟨⟨⟨h.r.tm, h.r.sf, h.r.cm, by rw [h1, h.r.tr], h2⟩, h.x, h.c, h.b⟩, ho⟩
theorem RC_good {P : PB} {od hz co : Nat} {A : AS} {tm sf cm tr : Nat} {rf : Int32} {xl xh : Nat → Int64} {B X : Nat → Int32} {nb ncr : Nat} {ls lsd : Int32} (hns : P.ns ≤ 3) (h : RC P.ns A tm sf cm tr rf xl xh B X nb ncr ls lsd) (ho : P.o od A (P.q od hz A) = nI 0)
    {tm1 sf1 cm1 tr1 : Nat} {rf1 sg : Int32} {nl nh pf pg : Nat → Int64} {B1 X1 : Nat → Int32} {ncr1 : Nat} {ls1 lsd1 : Int32} (h0 : tm1 = tm + 2 ^ (20 - P.q od hz A)) (h1 : tr1 = tr + (P.q od hz A - PB.s0 A hz + 1)) (h2 : rf1 = nI 0) (hx : aR P.ns nl nh (P.nl od hz A) (P.nh od hz A)) (hp : aR P.ns pf pg (P.pl od hz A) (P.ph od hz A))
    (hs : sg = P.sg (P.nl od hz A) (P.nh od hz A)) (hB : B1 = bAdd B nb nl nh pf pg (nI tm1) sg) (hN1 : (ncr1, X1, ls1, lsd1) = hN ncr X ls lsd nb sg) (ha : (cm1, sf1) = adC (P.q od hz A) sf cm co) : RC P.ns (goA P od hz co A) tm1 sf1 cm1 tr1 rf1 nl nh B1 X1 (nb + 1) ncr1 ls1 lsd1 ∧ (goA P od hz co A).rfd = nI 0 := by
  have e1 := h.r.tm
  rw [h.r.sf, h.r.cm] at ha
  rw [goA_good ho]
  subst hs
  subst hB
  rw [e1] at h0
  subst h0
  exact ⟨⟨⟨rfl, (congrArg Prod.snd ha), (congrArg Prod.fst ha), by rw [h1, h.r.tr], h2⟩, hx, cx_add h.c hN1, hc_add h.b h.c.hb hns hx hp⟩, rfl⟩
theorem RM_good {P : PB} {od hz co : Nat} {A : AS} {tm sf cm tr : Nat} {rf : Int32} {xl xh : Nat → Int64} {KL KH QL QH KT KS X : Nat → Int32} {nb ncr : Nat} {ls lsd : Int32} (hns : P.ns ≤ 3) (h : RM P.ns A tm sf cm tr rf xl xh KL KH QL QH KT KS X nb ncr ls lsd) (ho : P.o od A (P.q od hz A) = nI 0)
    {tm1 sf1 cm1 tr1 : Nat} {rf1 sg : Int32} {nl nh pf pg : Nat → Int64} {KL1 KH1 QL1 QH1 KT1 KS1 X1 : Nat → Int32} {ncr1 : Nat} {ls1 lsd1 : Int32} (h0 : tm1 = tm + 2 ^ (20 - P.q od hz A)) (h1 : tr1 = tr + (P.q od hz A - PB.s0 A hz + 1)) (h2 : rf1 = nI 0) (hx : aR P.ns nl nh (P.nl od hz A) (P.nh od hz A)) (hp : aR P.ns pf pg (P.pl od hz A) (P.ph od hz A))
    (hs : sg = P.sg (P.nl od hz A) (P.nh od hz A)) (k1 : KL1 = kA KL nb nl P.ns) (k2 : KH1 = kA KH nb nh P.ns) (k3 : QL1 = kA QL nb pf P.ns) (k4 : QH1 = kA QH nb pg P.ns) (k5 : KT1 = kT KT nb (nI tm1)) (k6 : KS1 = kT KS nb sg) (hN1 : (ncr1, X1, ls1, lsd1) = hN ncr X ls lsd nb sg) (ha : (cm1, sf1) = adC (P.q od hz A) sf cm co) : RM P.ns (goA P od hz co A) tm1 sf1 cm1 tr1 rf1 nl nh KL1 KH1 QL1 QH1 KT1 KS1 X1 (nb + 1) ncr1 ls1 lsd1 ∧ (goA P od hz co A).rfd = nI 0 := by
  have e1 := h.r.tm
  rw [h.r.sf, h.r.cm] at ha
  rw [goA_good ho]
  subst hs
  subst k1; subst k2; subst k3; subst k4; subst k5; subst k6
  rw [e1] at h0
  subst h0
  exact ⟨⟨⟨rfl, (congrArg Prod.snd ha), (congrArg Prod.fst ha), by rw [h1, h.r.tr], h2⟩, hx, cx_add h.c hN1, hm_add h.b h.c.hb hns hx hp⟩, rfl⟩
theorem goA_nb {P : PB} {od hz co : Nat} {A : AS} : (goA P od hz co A).h.bxs ≤ A.h.bxs + 1 ∧ ((runG hz co A) → (goA P od hz co A).tri ≤ A.tri + 17) := by
  refine ⟨?_, fun g => ?_⟩
  · unfold goA
    split
    · exact Nat.le_refl _
    · exact Nat.le_succ _
  · have hq := q_le (P := P) (od := od) g
    unfold goA
    split
    · show A.tri + _ ≤ _; omega
    · show A.tri + _ ≤ _; omega
/-! the reference's problem -/
def pbP (x : pD) (p : Nat) (NM : Nat → Int32) (NL NH : Nat → Int64) (NP : Nat → Int32) : Prop := x.1 ≤ 12 ∧ NM p = nI x.1 ∧ ∀ t, t < x.1 → NL (12 * p + t) = x.2.1 t ∧ NH (12 * p + t) = x.2.2.1 t ∧ ∀ u, u < 3 → NP (36 * p + (t * 3 + u)) = nI (x.2.2.2 (t * 3 + u))
section PBM
variable {sv : Nat → Nat} {tpd p1 : Nat} {PW : Nat → Nat} {NL NH NL1 NH1 : Nat → Int64} {NM NM1 NP1 fp fp1 : Nat → Int32} {wrg1 : Int32} {at0 att1 nm : Nat}
theorem rEa_1 {f g : Nat → Int64} {pw : Nat → Nat} (h : sv at0 = nm) (h2 : sv (at0 + 1) = 61) {p n : Nat} {x y : Nat → Int64} {w : Nat → Nat} {z : Nat → Int32} (hr : rPo sv (at0 + 1 + 1) f g pw fp = .ok (p, n, x, y, w, z)) (h3 : sv p = 59) : rE sv at0 nm f g pw fp = .ok (p + 1, n, x, y, w, z) := by
  unfold rE
  rw [if_pos h, if_pos h2, hr]
  dsimp only
  rw [if_pos h3]
theorem rEa_2 {f g : Nat → Int64} {pw : Nat → Nat} (h : sv at0 = nm) (h2 : sv (at0 + 1) = 61) {p n : Nat} {x y : Nat → Int64} {w : Nat → Nat} {z : Nat → Int32} (hr : rPo sv (at0 + 1 + 1) f g pw fp = .ok (p, n, x, y, w, z)) (h3 : ¬ sv p = 59) : rE sv at0 nm f g pw fp = .error p := by
  unfold rE
  rw [if_pos h, if_pos h2, hr]
  dsimp only
  rw [if_neg h3]
theorem rEa_3 {f g : Nat → Int64} {pw : Nat → Nat} (h : sv at0 = nm) (h2 : sv (at0 + 1) = 61) {e : Nat} (hr : rPo sv (at0 + 1 + 1) f g pw fp = .error e) : rE sv at0 nm f g pw fp = .error e := by
  unfold rE
  rw [if_pos h, if_pos h2, hr]
theorem rEa_4 {f g : Nat → Int64} {pw : Nat → Nat} (h : sv at0 = nm) (h2 : ¬ sv (at0 + 1) = 61) : rE sv at0 nm f g pw fp = .error (at0 + 1) := by
  unfold rE
  rw [if_pos h, if_neg h2]
theorem rEa_5 {f g : Nat → Int64} {pw : Nat → Nat} (h : ¬ sv at0 = nm) : rE sv at0 nm f g pw fp = .error at0 := by
  unfold rE
  rw [if_neg h]
theorem rqR_er {a c : rqT} {e : Nat} (h : rqR fp a c) (ha : a = .error e) : c = .error e := by
  subst ha
  cases c with
  | error e' => rw [show e = e' from h]
  | ok z => exact h.elim
theorem rqR_ok {a c : rqT} {p n : Nat} {x y : Nat → Int64} {w : Nat → Nat} {z : Nat → Int32} (h : rqR fp a c) (ha : a = .ok (p, n, x, y, w, z)) : ∃ x2 y2 w2, c = .ok (p, n, x2, y2, w2, z) ∧ n ≤ 12 ∧ tmR n x y x2 y2 w w2 z := by
  subst ha
  cases c with
  | error e' => exact h.elim
  | ok z2 =>
    obtain ⟨p', n', x', y', w', z'⟩ := z2
    obtain ⟨h1, h2, h3, h4, h5, h6, h7⟩ := h
    subst h1; subst h2; subst h3
    exact ⟨x', y', w', rfl, h5, h6⟩
def pbO (sv : Nat → Nat) (at0 nm : Nat) (fp : Nat → Int32) (tpd p1 : Nat) (PW : Nat → Nat) (NL NH : Nat → Int64) (NM : Nat → Int32) (att1 : Nat) (wrg1 : Int32) (NL1 NH1 : Nat → Int64) (NP1 NM1 fp1 : Nat → Int32) : Prop :=
  (∃ e, rE sv at0 nm z0 z0 zp fp = .error e ∧ wrg1 = nI e ∧ e < 300) ∨
  (∃ n x y w, rE sv at0 nm z0 z0 zp fp = .ok (att1, n, x, y, w, fp1) ∧ wrg1 = -1 ∧ att1 ≤ tpd ∧ pbP (n, x, y, w) p1 NM1 NL1 NH1 NP1 ∧ (∀ q, ¬ q = p1 → NM1 q = NM q) ∧ oth 12 p1 NL1 NL ∧ oth 12 p1 NH1 NH ∧ oth 36 p1 NP1 (fun i => nI (PW i)))
theorem pbO_of (hsv : ∀ i, ¬ sv i = 0 → i < 240) (hn : sv at0 = nm) (he : sv (at0 + 1) = 61) (hM : rpM (rPo sv (at0 + 1 + 1) (vw 12 p1 NL) (vw 12 p1 NH) (vw 36 p1 PW) fp) sv tpd p1 PW NL NH NM att1 wrg1 NL1 NH1 NP1 NM1 fp1) : pbO sv at0 nm fp tpd p1 PW NL NH NM att1 wrg1 NL1 NH1 NP1 NM1 fp1 := by
  have hR := rE_R hsv (pl := at0) (nm := nm) (f := vw 12 p1 NL) (g := vw 12 p1 NH) (f' := z0) (g' := z0) (pw := vw 36 p1 PW) (pw' := zp) (fp := fp)
  cases hr : rPo sv (at0 + 1 + 1) (vw 12 p1 NL) (vw 12 p1 NH) (vw 36 p1 PW) fp with
  | error e =>
    rw [hr] at hM
    exact Or.inl ⟨e, rqR_er hR (rEa_3 hn he hr), hM.1, hM.2⟩
  | ok z =>
    obtain ⟨p, n, x, y, w, z⟩ := z
    rw [hr] at hM
    change (if sv p = 59 then _ else _) at hM
    by_cases h9 : sv p = 59
    · rw [if_pos h9] at hM
      obtain ⟨m1, m2, m3, m4, m5, m6, m7, m8, m9, m10, PW1, m11, m12, m13⟩ := hM
      obtain ⟨x2, y2, w2, e1, e2, e3⟩ := rqR_ok hR (rEa_1 hn he hr h9)
      refine Or.inr ⟨n, x2, y2, w2, ?_, m1, by omega, ⟨m4, by rw [m6]; exact u_eq _ _ _, ?_⟩, fun q hq => by rw [m6]; exact u_ne _ _ hq, m8, m10, ?_⟩
      · rw [e1, m2, m5]
      · intro t ht
        obtain ⟨t1, t2, t3, t4, t5⟩ := e3 t ht
        refine ⟨?_, ?_, ?_⟩
        · show NL1 (12 * p1 + t) = x2 t
          rw [← t1, ← m7]
          rfl
        · show NH1 (12 * p1 + t) = y2 t
          rw [← t2, ← m9]
          rfl
        · intro u hu
          rw [m11]
          show nI (PW1 (36 * p1 + (t * 3 + u))) = nI (w2 (t * 3 + u))
          rw [← (t5 u hu).1, ← m12]
          rfl
      · intro j hj
        rw [m11]
        show nI (PW1 j) = nI (PW j)
        rw [m13 j hj]
    · rw [if_neg h9] at hM
      exact Or.inl ⟨p, rqR_er hR (rEa_2 hn he hr h9), hM.1, hM.2⟩
theorem pbP_keep {x : pD} {p : Nat} {NP : Nat → Int32} (h : pbP x p NM NL NH NP) (hq : ¬ p = p1) (h1 : ∀ q, ¬ q = p1 → NM1 q = NM q) (h2 : oth 12 p1 NL1 NL) (h3 : oth 12 p1 NH1 NH) (h4 : oth 36 p1 NP1 NP) : pbP x p NM1 NL1 NH1 NP1 := by
  obtain ⟨a1, a2, a3⟩ := h
  refine ⟨a1, (h1 p hq).trans a2, fun t ht => ⟨?_, ?_, fun u hu => ?_⟩⟩
  · rw [h2 _ (by omega)]; exact (a3 t ht).1
  · rw [h3 _ (by omega)]; exact (a3 t ht).2.1
  · rw [h4 _ (by omega)]; exact (a3 t ht).2.2 u hu
/-- at the head of the reference's loop over the equations -/
def pbI (T : rdT) (sv : Nat → Nat) (tpd ms mr v : Nat) (wrg : Int32) (att : Nat) (nwc : Int32) (NM : Nat → Int32) (NL NH : Nat → Int64) (NP fp : Nat → Int32) : Prop :=
  v ≤ 3 ∧ att ≤ 300 ∧ ((wrg = -1 ∧ ∃ D : cD, (∀ p, p < v → pbP (D p) p NM NL NH NP) ∧ ((mr = 1 ∧ ms + v = 4 ∧ ((v = 0 ∧ att = 0 ∧ rdS sv fp D = T) ∨ (0 < v ∧ att < tpd ∧ rdL sv (3 - v) v att fp D = T))) ∨
    (mr = 0 ∧ 0 < v ∧ att ≤ tpd ∧ ∃ hc : Bool, nwc = bI hc ∧ (hc = true → pbP (D 3) 3 NM NL NH NP) ∧ rdF sv v hc att fp D = T))) ∨ (∃ e, wrg = nI e ∧ e < 300 ∧ T = .error (nI e)))
theorem rdG_end {v pl : Nat} {D : cD} (h : sv pl = 0) (k : Nat) : rdL sv k v pl fp D = rdF sv v false pl fp D := by
  cases k with
  | zero => show rdG _ _ _ _ _ = _; unfold rdG; rw [if_neg (by omega)]
  | succ k => unfold rdL; rw [if_neg (by omega)]; unfold rdG; rw [if_neg (by omega)]
end PBM
section PBN
variable {T : rdT} {sv : Nat → Nat} {tpd ms mr v : Nat} {wrg : Int32} {att : Nat} {nwc : Int32} {NM NM1 NP1 fp fp1 : Nat → Int32} {NL NH NL1 NH1 : Nat → Int64} {PW : Nat → Nat} {D : cD}
/-- what is still to be read -/
def pbA (T : rdT) (sv : Nat → Nat) (tpd v att : Nat) (fp : Nat → Int32) (D : cD) : Prop := (v = 0 ∧ att = 0 ∧ rdS sv fp D = T) ∨ (0 < v ∧ att < tpd ∧ rdL sv (3 - v) v att fp D = T)
theorem pbI_good {NP : Nat → Int32} (h : pbI T sv tpd ms mr v wrg att nwc NM NL NH NP fp) (hw : wrg < 0) (hm : ¬ mr = 0) : wrg = -1 ∧ v ≤ 3 ∧ att ≤ tpd ∧ ∃ D nn, ms = nn + 1 ∧ nn + 1 + v = 4 ∧ (∀ p, p < v → pbP (D p) p NM NL NH NP) ∧ pbA T sv tpd v att fp D := by
  obtain ⟨h1, h2, ⟨h3, D, h4, ⟨h5, h6, h7⟩ | ⟨h5, -⟩⟩ | ⟨e, h3, h4, -⟩⟩ := h
  · refine ⟨h3, h1, ?_, D, 3 - v, by omega, by omega, h4, h7⟩
    rcases h7 with ⟨-, q, -⟩ | ⟨-, q, -⟩ <;> omega
  · exact absurd h5 hm
  · exact absurd hw (by rw [h3]; exact nI_pos (by omega))
theorem pb_side (h : pbA T sv tpd v att fp D) (hv : v < 3) (hs : sv att = 120 + v) : (match rE sv att (120 + v) z0 z0 zp fp with
      | .error e => (.error (nI e) : rdT)
      | .ok (p2, n2, x2, y2, w2, z2) => rdL sv (3 - (v + 1)) (v + 1) p2 z2 (dset D v (n2, x2, y2, w2))) = T := by
  rcases h with ⟨rfl, rfl, h⟩ | ⟨h0, h1, h⟩
  · exact h
  · have e : 3 - v = (3 - (v + 1)) + 1 := by omega
    rw [e, rdL, if_pos hs] at h
    exact h
theorem pb_cx (h : pbA T sv tpd v att fp D) (hv : 0 < v) (hs : sv att = 103) : (match rE sv att 103 z0 z0 zp fp with
      | .error e => (.error (nI e) : rdT)
      | .ok (p2, n2, x2, y2, w2, z2) => rdF sv v true p2 z2 (dset D 3 (n2, x2, y2, w2))) = T := by
  rcases h with ⟨rfl, -, -⟩ | ⟨h0, h1, h⟩
  · omega
  · have hg : rdL sv (3 - v) v att fp D = rdG sv v att fp D := by
      cases hk : 3 - v with
      | zero => rfl
      | succ k => rw [rdL, if_neg (by omega)]
    rw [hg, rdG, if_pos hs] at h
    exact h
theorem pb_none (h : pbA T sv tpd v att fp D) (hs1 : ∀ i, i < tpd → ¬ sv i = 0) (h1 : ¬ (v < 3 ∧ sv att = 120 + v)) (h2 : ¬ (0 < v ∧ sv att = 103)) : T = .error (nI att) := by
  rcases h with ⟨rfl, rfl, h⟩ | ⟨h0, h3, h⟩
  · unfold rdS at h
    rw [rEa_5 (fun q => h1 ⟨by omega, q⟩)] at h
    exact h.symm
  · have hg : rdL sv (3 - v) v att fp D = rdG sv v att fp D := by
      cases hk : 3 - v with
      | zero => rfl
      | succ k => rw [rdL, if_neg (fun q => h1 ⟨by omega, q⟩)]
    rw [hg, rdG, if_neg (fun q => h2 ⟨h0, q⟩), rdF, if_neg (hs1 att h3)] at h
    exact h.symm
theorem pbI_er {NP : Nat → Int32} {e : Nat} (hv : v ≤ 3) (ha : att ≤ 300) (he : e < 300) (hw : wrg = nI e) (hT : T = .error (nI e)) : pbI T sv tpd ms mr v wrg att nwc NM NL NH NP fp := ⟨hv, ha, Or.inr ⟨e, hw, he, hT⟩⟩
theorem pb_back1 {nn att1 : Nat} {wrg1 : Int32} {mr1 : Nat} {nwc1 : Int32} (h : pbA T sv tpd v att fp D) (hD : ∀ p, p < v → pbP (D p) p NM NL NH (fun i => nI (PW i))) (hn : nn + 1 + v = 4) (hv : v < 3) (hs : sv att = 120 + v) (hs0 : ∀ i, tpd ≤ i → sv i = 0) (ha : att1 ≤ 300) (hc : nwc1 = nI 0) (hO : pbO sv att (120 + v) fp tpd v PW NL NH NM att1 wrg1 NL1 NH1 NP1 NM1 fp1) (hm : (mr1 = 1 ∧ att1 < tpd) ∨ (mr1 = 0 ∧ tpd ≤ att1)) : pbI T sv tpd nn mr1 (v + 1) wrg1 att1 nwc1 NM1 NL1 NH1 NP1 fp1 := by
  have hT := pb_side h hv hs
  rcases hO with ⟨e, o1, o2, o3⟩ | ⟨n, x, y, w, o1, o2, o3, o4, o5, o6, o7, o8⟩
  · rw [o1] at hT
    exact pbI_er (by omega) ha o3 o2 hT.symm
  · rw [o1] at hT
    dsimp only at hT
    refine ⟨by omega, ha, Or.inl ⟨o2, dset D v (n, x, y, w), fun p hp => ?_, ?_⟩⟩
    · by_cases hq : p = v
      · subst hq; rw [dset_eq]; exact o4
      · rw [dset_ne _ _ hq]; exact pbP_keep (hD p (by omega)) hq o5 o6 o7 o8
    · rcases hm with ⟨m1, m2⟩ | ⟨m1, m2⟩
      · exact Or.inl ⟨m1, by omega, Or.inr ⟨by omega, m2, hT⟩⟩
      · refine Or.inr ⟨m1, by omega, o3, false, hc, fun q => absurd q (by decide), ?_⟩
        rw [← rdG_end (hs0 att1 m2) (3 - (v + 1))]
        exact hT
theorem pb_back2 {nn att1 : Nat} {wrg1 : Int32} {mr1 : Nat} {nwc1 : Int32} (h : pbA T sv tpd v att fp D) (hD : ∀ p, p < v → pbP (D p) p NM NL NH (fun i => nI (PW i))) (hv : v ≤ 3) (hv0 : 0 < v) (hs : sv att = 103) (ha : att1 ≤ 300) (hc : nwc1 = nI 1) (hO : pbO sv att 103 fp tpd 3 PW NL NH NM att1 wrg1 NL1 NH1 NP1 NM1 fp1) (hm : mr1 = 0) : pbI T sv tpd nn mr1 v wrg1 att1 nwc1 NM1 NL1 NH1 NP1 fp1 := by
  have hT := pb_cx h hv0 hs
  rcases hO with ⟨e, o1, o2, o3⟩ | ⟨n, x, y, w, o1, o2, o3, o4, o5, o6, o7, o8⟩
  · rw [o1] at hT
    exact pbI_er hv ha o3 o2 hT.symm
  · rw [o1] at hT
    dsimp only at hT
    refine ⟨hv, ha, Or.inl ⟨o2, dset D 3 (n, x, y, w), fun p hp => ?_, Or.inr ⟨hm, hv0, o3, true, hc, fun _ => ?_, hT⟩⟩⟩
    · rw [dset_ne _ _ (by omega)]; exact pbP_keep (hD p (by omega)) (by omega) o5 o6 o7 o8
    · rw [dset_eq]; exact o4
theorem pb_back3 (h : pbA T sv tpd v att fp D) (hv : v < 3) (hs : sv att = 120 + v) (he : ¬ sv (att + 1) = 61) : T = .error (nI (att + 1)) := by
  have hT := pb_side h hv hs
  rw [rEa_4 hs he] at hT
  exact hT.symm
theorem pb_back4 (h : pbA T sv tpd v att fp D) (hv : 0 < v) (hs : sv att = 103) (he : ¬ sv (att + 1) = 61) : T = .error (nI (att + 1)) := by
  have hT := pb_cx h hv hs
  rw [rEa_4 hs he] at hT
  exact hT.symm
/-- behind the loop -/
def pbJ (T : rdT) (v : Nat) (wrg nwc : Int32) (NM : Nat → Int32) (NL NH : Nat → Int64) (NP fp : Nat → Int32) : Prop :=
  (wrg = -1 ∧ 0 < v ∧ v ≤ 3 ∧ ∃ (D : cD) (hc : Bool), nwc = bI hc ∧ (∀ p, p < v → pbP (D p) p NM NL NH NP) ∧ (hc = true → pbP (D 3) 3 NM NL NH NP) ∧ T = if fwS fp (3 - v) v (-1) = -1 then .ok (v, hc, D) else .error (fwS fp (3 - v) v (-1))) ∨ (∃ e, wrg = nI e ∧ e < 300 ∧ T = .error (nI e))
theorem pbJ_of {NP : Nat → Int32} (h : pbI T sv tpd ms mr v wrg att nwc NM NL NH NP fp) (hx : mr = 0 ∨ ¬ wrg < 0) (hs0 : ∀ i, tpd ≤ i → sv i = 0) (hs1 : ∀ i, i < tpd → ¬ sv i = 0) (htp : tpd ≤ 240) {wrg2 : Int32} (h2 : (wrg < 0 ∧ att < tpd ∧ wrg2 = nI att) ∨ (¬ (wrg < 0 ∧ att < tpd) ∧ wrg2 = wrg)) : pbJ T v wrg2 nwc NM NL NH NP fp := by
  obtain ⟨a1, a2, ⟨a3, D, a4, ⟨a5, -⟩ | ⟨a5, a6, a7, hc, a8, a9, a10⟩⟩ | ⟨e, a3, a4, a5⟩⟩ := h
  · rcases hx with q | q
    · omega
    · exact absurd (by rw [a3]; decide) q
  · rcases h2 with ⟨b1, b2, b3⟩ | ⟨b1, b3⟩
    · rw [rdF, if_neg (hs1 att b2)] at a10
      exact Or.inr ⟨att, b3, by omega, a10.symm⟩
    · have hat : tpd ≤ att := Nat.le_of_not_lt (fun q => b1 ⟨by rw [a3]; decide, q⟩)
      rw [rdF, if_pos (hs0 att hat)] at a10
      exact Or.inl ⟨b3.trans a3, a6, a1, D, hc, a8, a4, a9, a10.symm⟩
  · have hw : ¬ wrg < 0 := by rw [a3]; exact nI_pos (by omega)
    rcases h2 with ⟨b1, -⟩ | ⟨-, b3⟩
    · exact absurd b1 hw
    · exact Or.inr ⟨e, b3.trans a3, a4, a5⟩
/-- in the last loop -/
def pbK (T : rdT) (v u : Nat) (wrg nwc : Int32) (NM : Nat → Int32) (NL NH : Nat → Int64) (NP fp : Nat → Int32) : Prop :=
  (wrg = -1 ∧ 0 < v ∧ v ≤ u ∧ u ≤ 3 ∧ (∀ i, v ≤ i → i < u → fp i = -1) ∧ pbJ T v (-1) nwc NM NL NH NP fp) ∨ (¬ wrg < 0 ∧ T = .error wrg)
def rmQ (T : rdT) (wrg : Int32) (v : Nat) (nwc : Int32) (NM : Nat → Int32) (NL NH : Nat → Int64) (NP : Nat → Int32) : Prop := match T with
  | .error e => wrg = e ∧ ¬ e < 0
  | .ok (v1, hc, D) => wrg = -1 ∧ v = v1 ∧ nwc = bI hc ∧ (∀ p, p < v1 → pbP (D p) p NM NL NH NP) ∧ (hc = true → pbP (D 3) 3 NM NL NH NP)
theorem pbK_0 {NP : Nat → Int32} (h : pbJ T v wrg nwc NM NL NH NP fp) : pbK T v v wrg nwc NM NL NH NP fp := by
  rcases h with h | ⟨e, h1, h2, h3⟩
  · exact Or.inl ⟨h.1, h.2.1, Nat.le_refl _, h.2.2.1, fun i h1 h2 => by omega, Or.inl ⟨rfl, h.2⟩⟩
  · exact Or.inr ⟨by rw [h1]; exact nI_pos (by omega), by rw [h3, h1]⟩
theorem fwS_skip : ∀ (u v : Nat), v ≤ u → u ≤ 3 → (∀ i, v ≤ i → i < u → fp i = -1) → fwS fp (3 - v) v (-1) = fwS fp (3 - u) u (-1)
  | 0, v, h, _, _ => by rw [show v = 0 by omega]
  | u + 1, v, h, h3, hi => by
    by_cases hq : v = u + 1
    · rw [hq]
    · rw [fwS_skip u v (by omega) (by omega) (fun i h1 h2 => hi i h1 (by omega)), show 3 - u = (3 - (u + 1)) + 1 by omega, fwS, if_neg (fun q => q.1 (hi u (by omega) (by omega)))]
theorem pbK_step0 {u : Nat} {NP : Nat → Int32} (h : pbK T v u wrg nwc NM NL NH NP fp) (hw : wrg < 0) (hu : u < 3) (hf : fp u = -1) : pbK T v (u + 1) wrg nwc NM NL NH NP fp := by
  rcases h with ⟨a1, a2, a3, a4, a5, a6⟩ | ⟨a1, -⟩
  · refine Or.inl ⟨a1, a2, by omega, by omega, fun i h1 h2 => ?_, a6⟩
    by_cases hq : i = u
    · rw [hq]; exact hf
    · exact a5 i h1 (by omega)
  · exact absurd hw a1
theorem pbK_step1 {u : Nat} {NP : Nat → Int32} {x wrg1 : Int32} (h : pbK T v u wrg nwc NM NL NH NP fp) (hw : wrg < 0) (hu : u < 3) (hg : fpG fp) (hf : ¬ fp u = -1) (ho : (u = 1 ∧ x = if ¬ fp 2 < 0 ∧ fp 2 < fp 1 then fp 2 else fp 1) ∨ (¬ u = 1 ∧ x = fp u)) (hx : wrg1 = x) {u1 : Nat} : pbK T v u1 wrg1 nwc NM NL NH NP fp := by
  rcases h with ⟨a1, a2, a3, a4, a5, a6⟩ | ⟨a1, -⟩
  · rcases a6 with ⟨-, b1, b2, D, hc, b3, b4, b5, b6⟩ | ⟨e, c1, c2, c3⟩
    · rw [fwS_skip u v a3 a4 a5] at b6
      have hpos : ∀ i, i < 3 → ¬ fp i = -1 → ¬ fp i < 0 := fun i hi q => (hg i hi).resolve_left q
      have key : fwS fp (3 - u) u (-1) = x ∧ ¬ x < 0 := by
        rcases ho with ⟨rfl, ho⟩ | ⟨hu1, ho⟩
        · have e2 : fwS fp (3 - 1) 1 (-1) = if ¬ fp 2 = -1 ∧ (fp 1 = -1 ∨ fp 2 < fp 1) then fp 2 else fp 1 := by
            show fwS fp 1 2 (if ¬ fp 1 = -1 ∧ ((-1 : Int32) = -1 ∨ fp 1 < -1) then fp 1 else -1) = _
            rw [if_pos ⟨hf, Or.inl rfl⟩]
            rfl
          rw [e2, ho]
          by_cases h2 : fp 2 = -1
          · rw [if_neg (fun q => q.1 h2), if_neg (fun q => q.1 (by rw [h2]; decide))]
            exact ⟨rfl, hpos 1 (by omega) hf⟩
          · have h3 := hpos 2 (by omega) h2
            by_cases h4 : fp 2 < fp 1
            · rw [if_pos ⟨h2, Or.inr h4⟩, if_pos ⟨h3, h4⟩]
              exact ⟨rfl, h3⟩
            · rw [if_neg (fun q => q.2.elim hf h4), if_neg (fun q => h4 q.2)]
              exact ⟨rfl, hpos 1 (by omega) hf⟩
        · have hu2 : u = 2 := by omega
          subst hu2
          have e2 : fwS fp (3 - 2) 2 (-1) = fp 2 := by
            show fwS fp 0 3 (if ¬ fp 2 = -1 ∧ ((-1 : Int32) = -1 ∨ fp 2 < -1) then fp 2 else -1) = _
            rw [if_pos ⟨hf, Or.inl rfl⟩]
            rfl
          rw [e2, ho]
          exact ⟨rfl, hpos 2 (by omega) hf⟩
      have hne : ¬ x = -1 := fun q => key.2 (by rw [q]; decide)
      rw [key.1, if_neg hne] at b6
      exact Or.inr ⟨by rw [hx]; exact key.2, by rw [b6, hx]⟩
    · exact absurd (show (-1 : Int32) < 0 by decide) (by rw [c1]; exact nI_pos (by omega))
  · exact absurd hw a1
theorem pbK_end {u : Nat} {NP : Nat → Int32} (h : pbK T v u wrg nwc NM NL NH NP fp) (hx : ¬ wrg < 0 ∨ 3 ≤ u) : rmQ T wrg v nwc NM NL NH NP := by
  rcases h with ⟨a1, a2, a3, a4, a5, a6⟩ | ⟨a1, a2⟩
  · have hu : u = 3 := by
      rcases hx with q | q
      · exact absurd (by rw [a1]; decide) q
      · omega
    subst hu
    rcases a6 with ⟨-, b1, b2, D, hc, b3, b4, b5, b6⟩ | ⟨e, c1, c2, c3⟩
    · rw [fwS_skip 3 v a3 a4 a5] at b6
      have e3 : fwS fp (3 - 3) 3 (-1) = -1 := rfl
      rw [e3, if_pos rfl] at b6
      rw [b6]
      exact ⟨a1, rfl, b3, b4, b5⟩
    · exact absurd (show (-1 : Int32) < 0 by decide) (by rw [c1]; exact nI_pos (by omega))
  · rw [a2]
    exact ⟨rfl, a1⟩
end PBN
/-! the class's problem -/
def pcP (x : pD) (n : Nat) (f g : Nat → Int64) (pw : Nat → Nat) : Prop := n = x.1 ∧ ∀ t, t < x.1 → f t = x.2.1 t ∧ g t = x.2.2.1 t ∧ ∀ u, u < 3 → pw (t * 3 + u) = x.2.2.2 (t * 3 + u)
section PCP
variable {sv : Nat → Nat} {fp fp1 : Nat → Int32} {ln pl pl1 nm nt1 : Nat} {fl r fl1 : Int32} {f g f1 g1 : Nat → Int64} {pw pw1 : Nat → Nat} {T : rdT} {v : Nat} {D : cD}
def pcO (sv : Nat → Nat) (pl nm : Nat) (fp : Nat → Int32) (ln : Nat) (fl r : Int32) (pl1 : Nat) (fl1 : Int32) (nt1 : Nat) (f1 g1 : Nat → Int64) (pw1 : Nat → Nat) (fp1 : Nat → Int32) : Prop :=
  (∃ e, rE sv pl nm z0 z0 zp fp = .error e ∧ r = nI 0 ∧ fl1 = nI e) ∨ (∃ n x y w, rE sv pl nm z0 z0 zp fp = .ok (pl1, n, x, y, w, fp1) ∧ r = nI 1 ∧ fl1 = fl ∧ pl1 ≤ ln ∧ pcP (n, x, y, w) nt1 f1 g1 pw1)
theorem pcO_of (hsv : ∀ i, ¬ sv i = 0 → i < 240) (h : rqQ (rE sv pl nm f g pw fp) ln fl r pl1 fl1 nt1 f1 g1 pw1 fp1) : pcO sv pl nm fp ln fl r pl1 fl1 nt1 f1 g1 pw1 fp1 := by
  have hR := rE_R hsv (pl := pl) (nm := nm) (f := f) (g := g) (f' := z0) (g' := z0) (pw := pw) (pw' := zp) (fp := fp)
  cases hr : rE sv pl nm f g pw fp with
  | error e =>
    rw [hr] at h
    exact Or.inl ⟨e, rqR_er hR hr, h.1, h.2⟩
  | ok z =>
    obtain ⟨p, n, x, y, w, z⟩ := z
    rw [hr] at h
    obtain ⟨h1, h2, h3, h4, h5, h6, h7, h8, h9⟩ := h
    obtain ⟨x2, y2, w2, e1, e2, e3⟩ := rqR_ok hR hr
    subst h2; subst h4; subst h5; subst h6; subst h7; subst h8
    exact Or.inr ⟨_, x2, y2, w2, e1, h1, h3, h9, rfl, fun t ht => ⟨(e3 t ht).1, (e3 t ht).2.1, fun u hu => ((e3 t ht).2.2.2.2 u hu).1⟩⟩
/-- good: what is still to be read; not good: the fault -/
def pcT (T R : rdT) (gd fl : Int32) (pl ln : Nat) : Prop := (gd = nI 1 ∧ R = T ∧ pl ≤ ln) ∨ (gd = nI 0 ∧ ∃ e, fl = nI e ∧ T = .error (nI e))
theorem pc_0 (h : rdS sv fp D = T) (hO : pcO sv 0 120 fp ln fl r pl1 fl1 nt1 f1 g1 pw1 fp1) : ∃ x : pD, (¬ r = 0 → pcP x nt1 f1 g1 pw1) ∧ pcT T (rdL sv 2 1 pl1 fp1 (dset D 0 x)) r fl1 pl1 ln := by
  unfold rdS at h
  rcases hO with ⟨e, o1, o2, o3⟩ | ⟨n, x, y, w, o1, o2, o3, o4, o5⟩
  · rw [o1] at h
    exact ⟨(0, z0, z0, zp), fun q => absurd (o2.trans nI0) q, Or.inr ⟨o2, e, o3, h.symm⟩⟩
  · rw [o1] at h
    exact ⟨(n, x, y, w), fun _ => o5, Or.inl ⟨o2, h, o4⟩⟩
theorem pc_1 {k : Nat} (h : rdL sv (k + 1) v pl fp D = T) (hs : sv pl = 120 + v) (hO : pcO sv pl (120 + v) fp ln fl r pl1 fl1 nt1 f1 g1 pw1 fp1) : ∃ x : pD, (¬ r = 0 → pcP x nt1 f1 g1 pw1) ∧ pcT T (rdL sv k (v + 1) pl1 fp1 (dset D v x)) r fl1 pl1 ln := by
  rw [rdL, if_pos hs] at h
  rcases hO with ⟨e, o1, o2, o3⟩ | ⟨n, x, y, w, o1, o2, o3, o4, o5⟩
  · rw [o1] at h
    exact ⟨(0, z0, z0, zp), fun q => absurd (o2.trans nI0) q, Or.inr ⟨o2, e, o3, h.symm⟩⟩
  · rw [o1] at h
    exact ⟨(n, x, y, w), fun _ => o5, Or.inl ⟨o2, h, o4⟩⟩
theorem pc_G {k : Nat} (h : rdL sv k v pl fp D = T) (hs : k = 0 ∨ ¬ sv pl = 120 + v) : rdG sv v pl fp D = T := by
  cases k with
  | zero => exact h
  | succ k => rw [rdL, if_neg (hs.resolve_left (by omega))] at h; exact h
theorem pc_3 (h : rdG sv v pl fp D = T) (hs : sv pl = 103) (hO : pcO sv pl 103 fp ln fl r pl1 fl1 nt1 f1 g1 pw1 fp1) : ∃ x : pD, (¬ r = 0 → pcP x nt1 f1 g1 pw1) ∧ pcT T (rdF sv v true pl1 fp1 (dset D 3 x)) r fl1 pl1 ln := by
  rw [rdG, if_pos hs] at h
  rcases hO with ⟨e, o1, o2, o3⟩ | ⟨n, x, y, w, o1, o2, o3, o4, o5⟩
  · rw [o1] at h
    exact ⟨(0, z0, z0, zp), fun q => absurd (o2.trans nI0) q, Or.inr ⟨o2, e, o3, h.symm⟩⟩
  · rw [o1] at h
    exact ⟨(n, x, y, w), fun _ => o5, Or.inl ⟨o2, h, o4⟩⟩
theorem pc_F (h : rdG sv v pl fp D = T) (hs : ¬ sv pl = 103) : rdF sv v false pl fp D = T := by
  rw [rdG, if_neg hs] at h; exact h
/-- what reading answers -/
def rcQ (T : rdT) (r : Int32) (sd : Nat) (hc : Int32) (P : Nat → pD → Prop) : Prop := match T with
  | .error e => r = e
  | .ok (v1, c1, D1) => r = -1 ∧ sd = v1 ∧ hc = bI c1 ∧ (∀ p, p < v1 → P p (D1 p)) ∧ (c1 = true → P 3 (D1 3))
theorem pc_end1 {hc : Bool} {P : Nat → pD → Prop} {h1 : Int32} (h : rdF sv v hc pl fp D = T) (hs : sv pl = 0) (hP : ∀ p, p < v → P p (D p)) (h3 : hc = true → P 3 (D 3)) (hh : h1 = bI hc) (hr : r = fwS fp (3 - v) v (-1)) : rcQ T r v h1 P := by
  rw [rdF, if_pos hs] at h
  by_cases hq : fwS fp (3 - v) v (-1) = -1
  · rw [if_pos hq] at h
    rw [← h]
    exact ⟨hr.trans hq, rfl, hh, hP, h3⟩
  · rw [if_neg hq] at h
    rw [← h]
    exact hr
theorem pc_end2 {hc : Bool} {P : Nat → pD → Prop} {h1 : Int32} {sd : Nat} (h : rdF sv v hc pl fp D = T) (hs : ¬ sv pl = 0) (hr : r = nI pl) : rcQ T r sd h1 P := by
  rw [rdF, if_neg hs] at h
  rw [← h]
  exact hr
theorem pc_end3 {P : Nat → pD → Prop} {h1 : Int32} {sd e : Nat} (h : T = .error (nI e)) (hr : r = nI e) : rcQ T r sd h1 P := by
  rw [h]
  exact hr
end PCP
/-! a problem, told without what lies about -/
def PB.F (P : PB) (v t : Nat) : Int64 := P.fl (12 * v + t)
def PB.G (P : PB) (v t : Nat) : Int64 := P.fh (12 * v + t)
def PB.W (P : PB) (v j : Nat) : Nat := P.pw (36 * v + j)
abbrev PB.ok (P : PB) : Prop := (P.ns ≤ 3) ∧ (pOk P.ns P.mn P.W) ∧ (pR P.ns P.mn P.F P.G P.W P.mn P.fl P.fh P.pw) ∧ (¬ P.crs = 0 → 0 < P.mn 3 ∧ P.mn 3 ≤ 12 ∧ (∀ t, t < P.mn 3 → pSum (P.W 3) t 3 ≤ 6) ∧ polyR P.ns (P.mn 3) (P.F 3) (P.G 3) (P.F 3) (P.G 3) (P.W 3) (P.W 3))
theorem PB.ok.ns {P : PB} (h9 : PB.ok P) : P.ns ≤ 3 := h9.1
theorem PB.ok.p {P : PB} (h9 : PB.ok P) : pOk P.ns P.mn P.W := h9.2.1
theorem PB.ok.r {P : PB} (h9 : PB.ok P) : pR P.ns P.mn P.F P.G P.W P.mn P.fl P.fh P.pw := h9.2.2.1
theorem PB.ok.c {P : PB} (h9 : PB.ok P) : ¬ P.crs = 0 → 0 < P.mn 3 ∧ P.mn 3 ≤ 12 ∧ (∀ t, t < P.mn 3 → pSum (P.W 3) t 3 ≤ 6) ∧ polyR P.ns (P.mn 3) (P.F 3) (P.G 3) (P.F 3) (P.G 3) (P.W 3) (P.W 3) := h9.2.2.2
/-- the class holds it -/
abbrev pbC (P : PB) (ns : Nat) (hc : Int32) (nt : Nat → Nat) (F G : Nat → Nat → Int64) (PW : Nat → Nat → Nat) (cn : Nat) (cf cg : Nat → Int64) (cpw : Nat → Nat) : Prop := (ns = P.ns) ∧ (hc = P.crs) ∧ (pOk P.ns nt PW) ∧ (pR P.ns nt F G PW P.mn P.fl P.fh P.pw) ∧ (¬ P.crs = 0 → cn = P.mn 3 ∧ polyR P.ns cn cf cg (P.F 3) (P.G 3) cpw (P.W 3)) ∧ (cOk hc cn cpw)
theorem pbC.hn {P : PB} {ns : Nat} {hc : Int32} {nt : Nat → Nat} {F G : Nat → Nat → Int64} {PW : Nat → Nat → Nat} {cn : Nat} {cf cg : Nat → Int64} {cpw : Nat → Nat} (h9 : pbC P ns hc nt F G PW cn cf cg cpw) : ns = P.ns := h9.1
theorem pbC.hh {P : PB} {ns : Nat} {hc : Int32} {nt : Nat → Nat} {F G : Nat → Nat → Int64} {PW : Nat → Nat → Nat} {cn : Nat} {cf cg : Nat → Int64} {cpw : Nat → Nat} (h9 : pbC P ns hc nt F G PW cn cf cg cpw) : hc = P.crs := h9.2.1
theorem pbC.p {P : PB} {ns : Nat} {hc : Int32} {nt : Nat → Nat} {F G : Nat → Nat → Int64} {PW : Nat → Nat → Nat} {cn : Nat} {cf cg : Nat → Int64} {cpw : Nat → Nat} (h9 : pbC P ns hc nt F G PW cn cf cg cpw) : pOk P.ns nt PW := h9.2.2.1
theorem pbC.r {P : PB} {ns : Nat} {hc : Int32} {nt : Nat → Nat} {F G : Nat → Nat → Int64} {PW : Nat → Nat → Nat} {cn : Nat} {cf cg : Nat → Int64} {cpw : Nat → Nat} (h9 : pbC P ns hc nt F G PW cn cf cg cpw) : pR P.ns nt F G PW P.mn P.fl P.fh P.pw := h9.2.2.2.1
theorem pbC.c {P : PB} {ns : Nat} {hc : Int32} {nt : Nat → Nat} {F G : Nat → Nat → Int64} {PW : Nat → Nat → Nat} {cn : Nat} {cf cg : Nat → Int64} {cpw : Nat → Nat} (h9 : pbC P ns hc nt F G PW cn cf cg cpw) : ¬ P.crs = 0 → cn = P.mn 3 ∧ polyR P.ns cn cf cg (P.F 3) (P.G 3) cpw (P.W 3) := h9.2.2.2.2.1
theorem pbC.k {P : PB} {ns : Nat} {hc : Int32} {nt : Nat → Nat} {F G : Nat → Nat → Int64} {PW : Nat → Nat → Nat} {cn : Nat} {cf cg : Nat → Int64} {cpw : Nat → Nat} (h9 : pbC P ns hc nt F G PW cn cf cg cpw) : cOk hc cn cpw := h9.2.2.2.2.2
/-- the reference holds it -/
abbrev pbM (P : PB) (ns : Nat) (crs : Int32) (mn : Nat → Nat) (fl fh : Nat → Int64) (pw : Nat → Nat) : Prop := (ns = P.ns) ∧ (crs = P.crs) ∧ (mOk P.ns mn pw) ∧ (pR P.ns P.mn P.F P.G P.W mn fl fh pw) ∧ (¬ P.crs = 0 → P.mn 3 = mn 3 ∧ polyR P.ns (P.mn 3) (P.F 3) (P.G 3) (fun t => fl (12 * 3 + t)) (fun t => fh (12 * 3 + t)) (P.W 3) (fun j => pw (36 * 3 + j))) ∧ (cOkM crs mn pw)
theorem pbM.hn {P : PB} {ns : Nat} {crs : Int32} {mn : Nat → Nat} {fl fh : Nat → Int64} {pw : Nat → Nat} (h9 : pbM P ns crs mn fl fh pw) : ns = P.ns := h9.1
theorem pbM.hh {P : PB} {ns : Nat} {crs : Int32} {mn : Nat → Nat} {fl fh : Nat → Int64} {pw : Nat → Nat} (h9 : pbM P ns crs mn fl fh pw) : crs = P.crs := h9.2.1
theorem pbM.p {P : PB} {ns : Nat} {crs : Int32} {mn : Nat → Nat} {fl fh : Nat → Int64} {pw : Nat → Nat} (h9 : pbM P ns crs mn fl fh pw) : mOk P.ns mn pw := h9.2.2.1
theorem pbM.r {P : PB} {ns : Nat} {crs : Int32} {mn : Nat → Nat} {fl fh : Nat → Int64} {pw : Nat → Nat} (h9 : pbM P ns crs mn fl fh pw) : pR P.ns P.mn P.F P.G P.W mn fl fh pw := h9.2.2.2.1
theorem pbM.c {P : PB} {ns : Nat} {crs : Int32} {mn : Nat → Nat} {fl fh : Nat → Int64} {pw : Nat → Nat} (h9 : pbM P ns crs mn fl fh pw) : ¬ P.crs = 0 → P.mn 3 = mn 3 ∧ polyR P.ns (P.mn 3) (P.F 3) (P.G 3) (fun t => fl (12 * 3 + t)) (fun t => fh (12 * 3 + t)) (P.W 3) (fun j => pw (36 * 3 + j)) := h9.2.2.2.2.1
theorem pbM.k {P : PB} {ns : Nat} {crs : Int32} {mn : Nat → Nat} {fl fh : Nat → Int64} {pw : Nat → Nat} (h9 : pbM P ns crs mn fl fh pw) : cOkM crs mn pw := h9.2.2.2.2.2
def mkPB (v : Nat) (hc : Bool) (D : cD) : PB := ⟨v, bI hc, fun p => (D p).1, fun i => (D (i / 12)).2.1 (i % 12), fun i => (D (i / 12)).2.2.1 (i % 12), fun i => (D (i / 36)).2.2.2 (i % 36)⟩
theorem mkPB_F {v : Nat} {hc : Bool} {D : cD} {p t : Nat} (ht : t < 12) : (mkPB v hc D).F p t = (D p).2.1 t ∧ (mkPB v hc D).G p t = (D p).2.2.1 t := by
  have e1 : (12 * p + t) / 12 = p := by omega
  have e2 : (12 * p + t) % 12 = t := by omega
  show (D ((12 * p + t) / 12)).2.1 ((12 * p + t) % 12) = _ ∧ (D ((12 * p + t) / 12)).2.2.1 ((12 * p + t) % 12) = _
  rw [e1, e2]
  exact ⟨rfl, rfl⟩
theorem mkPB_W {v : Nat} {hc : Bool} {D : cD} {p j : Nat} (ht : j < 36) : (mkPB v hc D).W p j = (D p).2.2.2 j := by
  have e1 : (36 * p + j) / 36 = p := by omega
  have e2 : (36 * p + j) % 36 = j := by omega
  show (D ((36 * p + j) / 36)).2.2.2 ((36 * p + j) % 36) = _
  rw [e1, e2]
theorem pSum_c {pw pw2 : Nat → Nat} {t : Nat} (h : ∀ u, u < 3 → pw (t * 3 + u) = pw2 (t * 3 + u)) : pSum pw t 3 = pSum pw2 t 3 := by
  show 0 + pw (t * 3 + 0) + pw (t * 3 + 1) + pw (t * 3 + 2) = 0 + pw2 (t * 3 + 0) + pw2 (t * 3 + 1) + pw2 (t * 3 + 2)
  rw [h 0 (by omega), h 1 (by omega), h 2 (by omega)]
theorem gdP_poly {v : Nat} {x : pD} (h : gdP v x) {f g f2 g2 : Nat → Int64} {pw pw2 : Nat → Nat} (h1 : ∀ t, t < x.1 → f t = x.2.1 t ∧ g t = x.2.2.1 t ∧ ∀ u, u < 3 → pw (t * 3 + u) = x.2.2.2 (t * 3 + u)) (h2 : ∀ t, t < x.1 → f2 t = x.2.1 t ∧ g2 t = x.2.2.1 t ∧ ∀ u, u < 3 → pw2 (t * 3 + u) = x.2.2.2 (t * 3 + u)) :
    polyR v x.1 f g f2 g2 pw pw2 ∧ ∀ t, t < x.1 → pSum pw t 3 ≤ 6 := by
  refine ⟨fun t ht => ?_, fun t ht => ?_⟩
  · obtain ⟨a1, a2, a3⟩ := h1 t ht
    obtain ⟨b1, b2, b3⟩ := h2 t ht
    obtain ⟨g1, g2', g3⟩ := h.2.2 t ht
    exact ⟨a1.trans b1.symm, a2.trans b2.symm, by rw [a1, a2]; exact g1, fun u hu => ⟨(a3 u hu).trans (b3 u hu).symm, fun q => g3 u hu (by rw [← a3 u hu]; exact q)⟩⟩
  · rw [pSum_c (h1 t ht).2.2]
    exact (h.2.2 t ht).2.1
theorem mk_self {v : Nat} {hc : Bool} {D : cD} {p : Nat} (h : gdP v (D p)) : ∀ t, t < (D p).1 → (mkPB v hc D).F p t = (D p).2.1 t ∧ (mkPB v hc D).G p t = (D p).2.2.1 t ∧ ∀ u, u < 3 → (mkPB v hc D).W p (t * 3 + u) = (D p).2.2.2 (t * 3 + u) := fun t ht => by
  have h12 := h.2.1
  exact ⟨(mkPB_F (by omega)).1, (mkPB_F (by omega)).2, fun u hu => mkPB_W (by omega)⟩
theorem mk_ok {v : Nat} {hc : Bool} {D : cD} (h : rdK v hc D) : (mkPB v hc D).ok := by
  obtain ⟨h0, h3, hD, hC⟩ := h
  refine ⟨h3, ⟨h3, fun p hp => ?_⟩, fun p hp => ?_, fun hq => ?_⟩
  · have g := hD p hp
    exact ⟨g.1, g.2.1, (gdP_poly g (mk_self (hc := hc) g) (mk_self (hc := hc) g)).2⟩
  · have g := hD p hp
    exact ⟨rfl, (gdP_poly g (mk_self (hc := hc) g) (mk_self (hc := hc) g)).1⟩
  · have hc1 : hc = true := by
      cases hc with
      | true => rfl
      | false => exact absurd rfl hq
    have g := hC hc1
    have gg := gdP_poly g (mk_self (hc := hc) g) (mk_self (hc := hc) g)
    exact ⟨g.1, g.2.1, gg.2, gg.1⟩
theorem mk_C {v : Nat} {hc : Bool} {D : cD} (h : rdK v hc D) {nt : Nat → Nat} {F G : Nat → Nat → Int64} {PW : Nat → Nat → Nat} {cn : Nat} {cf cg : Nat → Int64} {cpw : Nat → Nat} (hp : ∀ p, p < v → pcP (D p) (nt p) (F p) (G p) (PW p)) (hC : hc = true → pcP (D 3) cn cf cg cpw) : pbC (mkPB v hc D) v (bI hc) nt F G PW cn cf cg cpw := by
  obtain ⟨h0, h3, hD, hG⟩ := h
  have hb : ¬ bI hc = 0 → hc = true := fun hq => by
    cases hc with
    | true => rfl
    | false => exact absurd rfl hq
  refine ⟨rfl, rfl, ⟨h3, fun p hp1 => ?_⟩, fun p hp1 => ?_, fun hq => ?_, fun hq => ?_⟩
  · have g := hD p hp1
    obtain ⟨a1, a2⟩ := hp p hp1
    rw [a1]
    exact ⟨g.1, g.2.1, (gdP_poly g a2 (mk_self (hc := hc) g)).2⟩
  · have g := hD p hp1
    obtain ⟨a1, a2⟩ := hp p hp1
    rw [a1]
    exact ⟨rfl, (gdP_poly g a2 (mk_self (hc := hc) g)).1⟩
  · have g := hG (hb hq)
    obtain ⟨a1, a2⟩ := hC (hb hq)
    rw [a1]
    exact ⟨rfl, (gdP_poly g a2 (mk_self (hc := hc) g)).1⟩
  · have g := hG (hb hq)
    obtain ⟨a1, a2⟩ := hC (hb hq)
    rw [a1]
    exact ⟨g.1, g.2.1, (gdP_poly g a2 (mk_self (hc := hc) g)).2⟩
def unI (x : Int32) : Nat := x.toBitVec.toNat
theorem nI_unI (x : Int32) : nI (unI x) = x := by
  unfold nI unI
  apply Int32.toBitVec_inj.mp
  show BitVec.ofNat 32 _ = _
  rw [BitVec.ofNat_toNat, BitVec.setWidth_eq]
theorem unI_nI {k : Nat} (h : k < 2 ^ 31) : unI (nI k) = k := by
  unfold nI unI
  show (BitVec.ofNat 32 k).toNat = k
  rw [BitVec.toNat_ofNat]
  omega
theorem mk_M {v : Nat} {hc : Bool} {D : cD} (h : rdK v hc D) {NM NP : Nat → Int32} {fl fh : Nat → Int64} (hp : ∀ p, p < v → pbP (D p) p NM fl fh NP) (hC : hc = true → pbP (D 3) 3 NM fl fh NP) : pbM (mkPB v hc D) v (bI hc) (fun i => unI (NM i)) fl fh (fun i => unI (NP i)) := by
  obtain ⟨h0, h3, hD, hG⟩ := h
  have hb : ¬ bI hc = 0 → hc = true := fun hq => by
    cases hc with
    | true => rfl
    | false => exact absurd rfl hq
  have up : ∀ p, p < 4 → gdP v (D p) → pbP (D p) p NM fl fh NP → unI (NM p) = (D p).1 ∧ ∀ t, t < (D p).1 → fl (12 * p + t) = (D p).2.1 t ∧ fh (12 * p + t) = (D p).2.2.1 t ∧ ∀ u, u < 3 → unI (NP (36 * p + (t * 3 + u))) = (D p).2.2.2 (t * 3 + u) := by
    intro p hp4 g a
    obtain ⟨a1, a2, a3⟩ := a
    have h12 := g.2.1
    refine ⟨by rw [a2]; exact unI_nI (by omega), fun t ht => ⟨(a3 t ht).1, (a3 t ht).2.1, fun u hu => ?_⟩⟩
    rw [(a3 t ht).2.2 u hu]
    refine unI_nI ?_
    have h6 := (g.2.2 t ht).2.1
    change 0 + (D p).2.2.2 (t * 3 + 0) + (D p).2.2.2 (t * 3 + 1) + (D p).2.2.2 (t * 3 + 2) ≤ 6 at h6
    rcases (show u = 0 ∨ u = 1 ∨ u = 2 by omega) with rfl | rfl | rfl <;> omega
  refine ⟨rfl, rfl, ⟨h3, fun p hp1 => ?_⟩, fun p hp1 => ?_, fun hq => ?_, fun hq => ?_⟩
  · have hp1 : p < v := hp1
    have g := hD p hp1
    obtain ⟨a1, a2⟩ := up p (by omega) g (hp p hp1)
    show 0 < unI (NM p) ∧ unI (NM p) ≤ 12 ∧ ∀ t, t < unI (NM p) → _
    rw [a1]
    exact ⟨g.1, g.2.1, (gdP_poly (pw := fun j => unI (NP (36 * p + j))) (f := fun t => fl (12 * p + t)) (g := fun t => fh (12 * p + t)) g a2 (mk_self (hc := hc) g)).2⟩
  · have hp1 : p < v := hp1
    have g := hD p hp1
    obtain ⟨a1, a2⟩ := up p (by omega) g (hp p hp1)
    exact ⟨a1.symm, (gdP_poly (pw2 := fun j => unI (NP (36 * p + j))) (f2 := fun t => fl (12 * p + t)) (g2 := fun t => fh (12 * p + t)) g (mk_self (hc := hc) g) a2).1⟩
  · have g := hG (hb hq)
    obtain ⟨a1, a2⟩ := up 3 (by omega) g (hC (hb hq))
    exact ⟨a1.symm, (gdP_poly (pw2 := fun j => unI (NP (36 * 3 + j))) (f2 := fun t => fl (12 * 3 + t)) (g2 := fun t => fh (12 * 3 + t)) g (mk_self (hc := hc) g) a2).1⟩
  · have g := hG (hb hq)
    obtain ⟨a1, a2⟩ := up 3 (by omega) g (hC (hb hq))
    show 0 < unI (NM 3) ∧ unI (NM 3) ≤ 12 ∧ ∀ t, t < unI (NM 3) → _
    rw [a1]
    exact ⟨g.1, g.2.1, (gdP_poly (pw := fun j => unI (NP (36 * 3 + j))) (f := fun t => fl (12 * 3 + t)) (g := fun t => fh (12 * 3 + t)) g a2 (mk_self (hc := hc) g)).2⟩
/-- no problem at all -/
def PB0 : PB := ⟨0, 0, fun _ => 0, fun _ => 0, fun _ => 0, fun _ => 0⟩
theorem PB0_ok : PB0.ok := ⟨by decide, ⟨by decide, fun v hv => absurd hv (Nat.not_lt_zero v)⟩, fun v hv => absurd hv (Nat.not_lt_zero v), fun q => absurd rfl q⟩
section TRYP
variable {P : PB}
/-- the class's try -/
theorem tryC (ok : P.ok) {ns : Nat} {hc : Int32} {nt : Nat → Nat} {F G : Nat → Nat → Int64} {PW : Nat → Nat → Nat} {cn : Nat} {cf cg : Nat → Int64} {cpw : Nat → Nat} (h : pbC P ns hc nt F G PW cn cf cg cpw) {A : AS} {xl xh pf pg sl sh pl ph rl rh nl nh : Nat → Int64} (hx : aR P.ns xl xh A.xl A.xh) {q od : Nat} (hq : q ≤ 20) (hod : od < 9) {ht : Int64} (hh : ht = hT q)
    {X : Int32 × pSt} (hA : X = pvR iv_look nt F G PW ns xl xh ht 8 true (xl, xh, pf, pg, nI 0)) {N : Int32 × (Nat → Int64) × (Nat → Int64)} (hN : X.1 = nI 0 → N = nwR nt F G PW ns xl xh X.2.2.2.1 X.2.2.2.2.1 sl sh pl ph rl rh nl nh ht od X.2.2.2.2.2) :
    (¬ X.1 = nI 0 ∧ P.o od A q = X.1) ∨ (X.1 = nI 0 ∧ P.o od A q = N.1 ∧ (N.1 = nI 0 ∨ N.1 = nI 2) ∧
      (N.1 = nI 0 → aR P.ns X.2.2.2.1 X.2.2.2.2.1 (cPl P.mn P.fl P.fh P.pw P.ns od A.xl A.xh q) (cPh P.mn P.fl P.fh P.pw P.ns od A.xl A.xh q) ∧ aR P.ns N.2.1 N.2.2 (cNl P.mn P.fl P.fh P.pw P.ns od A.xl A.xh q) (cNh P.mn P.fl P.fh P.pw P.ns od A.xl A.xh q))) := by
  have e := h.hn
  subst e
  exact try_R h.p h.r hx hq hod hh hA hN
/-- the reference's try -/
theorem tryM (ok : P.ok) {ns : Nat} {crs : Int32} {mn : Nat → Nat} {fl fh : Nat → Int64} {pw : Nat → Nat} (h : pbM P ns crs mn fl fh pw) {A : AS} {x2 y2 pf2 pg2 al ah sl2 sh2 pl2 ph2 : Nat → Int64} (hx : aR P.ns x2 y2 A.xl A.xh) {q od : Nat} (hq : q ≤ 20) (hod : od < 9) :
    trR mn fl fh pw ns od x2 y2 pf2 pg2 al ah sl2 sh2 pl2 ph2 q = P.o od A q ∧ (P.o od A q = nI 0 →
      aR P.ns (trP mn fl fh pw ns od x2 y2 pf2 pg2 al ah sl2 sh2 pl2 ph2 q).2.2.2.1 (trP mn fl fh pw ns od x2 y2 pf2 pg2 al ah sl2 sh2 pl2 ph2 q).2.2.2.2.1 (cPl P.mn P.fl P.fh P.pw P.ns od A.xl A.xh q) (cPh P.mn P.fl P.fh P.pw P.ns od A.xl A.xh q) ∧
      aR P.ns (trU mn fl fh pw ns od x2 y2 pf2 pg2 al ah sl2 sh2 pl2 ph2 q).1 (trU mn fl fh pw ns od x2 y2 pf2 pg2 al ah sl2 sh2 pl2 ph2 q).2.1 (cNl P.mn P.fl P.fh P.pw P.ns od A.xl A.xh q) (cNh P.mn P.fl P.fh P.pw P.ns od A.xl A.xh q)) := by
  have e := h.hn
  subst e
  have hx2 : aR P.ns A.xl A.xh x2 y2 := fun u hu => by
    obtain ⟨a, b, c⟩ := hx u hu
    exact ⟨a.symm, b.symm, by rw [← a, ← b]; exact c⟩
  have hx3 : aR P.ns A.xl A.xh A.xl A.xh := fun u hu => ⟨rfl, rfl, (hx2 u hu).2.2⟩
  have h1 := try_R ok.p h.r (pf := z0) (pg := z0) (pf2 := pf2) (pg2 := pg2) (al := al) (ah := ah) (sl := z0) (sh := z0) (pl := z0) (ph := z0) (sl2 := sl2) (sh2 := sh2) (pl2 := pl2) (ph2 := ph2) (rl := z0) (rh := z0) (nl := z0) (nh := z0) hx2 hq hod rfl (A := _) rfl (N := _) (fun _ => rfl)
  have h2 := try_R ok.p ok.r (pf := z0) (pg := z0) (pf2 := z0) (pg2 := z0) (al := z0) (ah := z0) (sl := z0) (sh := z0) (pl := z0) (ph := z0) (sl2 := z0) (sh2 := z0) (pl2 := z0) (ph2 := z0) (rl := z0) (rh := z0) (nl := z0) (nh := z0) hx3 hq hod rfl (A := _) rfl (N := _) (fun _ => rfl)
  unfold PB.o cO cPl cPh cNl cNh
  have tr : ∀ {f g f1 g1 f2 g2 : Nat → Int64}, aR P.ns f g f1 g1 → aR P.ns f g f2 g2 → aR P.ns f1 g1 f2 g2 := fun h k u hu => by
    obtain ⟨a, b, c⟩ := h u hu
    obtain ⟨d, e, _⟩ := k u hu
    exact ⟨a.symm.trans d, b.symm.trans e, by rw [← a, ← b]; exact c⟩
  rcases h1 with ⟨a1, a2⟩ | ⟨a1, a2, a3, a4⟩
  · rcases h2 with ⟨b1, b2⟩ | ⟨b1, b2, b3, b4⟩
    · exact ⟨a2.trans b2.symm, fun q9 => absurd (b2.symm.trans q9) b1⟩
    · exact absurd b1 a1
  · rcases h2 with ⟨b1, b2⟩ | ⟨b1, b2, b3, b4⟩
    · exact absurd a1 b1
    · exact ⟨a2.trans b2.symm, fun q9 => ⟨tr (a4 (b2.symm.trans q9)).1 (b4 (b2.symm.trans q9)).1, tr (a4 (b2.symm.trans q9)).2 (b4 (b2.symm.trans q9)).2⟩⟩
theorem sgC {ns : Nat} {hc : Int32} {nt : Nat → Nat} {F G : Nat → Nat → Int64} {PW : Nat → Nat → Nat} {cn : Nat} {cf cg : Nat → Int64} {cpw : Nat → Nat} (h : pbC P ns hc nt F G PW cn cf cg cpw) {xl xh x2 y2 : Nat → Int64} (hx : aR P.ns xl xh x2 y2) : sgR hc cn cf cg cpw xl xh = P.sg x2 y2 := by
  have e := h.hh
  subst e
  exact sg_R h.c hx
theorem sgMM (ok : P.ok) {ns : Nat} {crs : Int32} {mn : Nat → Nat} {fl fh : Nat → Int64} {pw : Nat → Nat} (h : pbM P ns crs mn fl fh pw) {xl xh x2 y2 al ah : Nat → Int64} (hx : aR P.ns xl xh x2 y2) : sgM crs mn fl fh pw ns xl xh al ah = P.sg x2 y2 := by
  have e := h.hh
  subst e
  have e := h.hn
  subst e
  have hx2 : aR P.ns x2 y2 xl xh := fun u hu => by
    obtain ⟨a, b, c⟩ := hx u hu
    exact ⟨a.symm, b.symm, by rw [← a, ← b]; exact c⟩
  have hx3 : aR P.ns x2 y2 x2 y2 := fun u hu => ⟨rfl, rfl, (hx2 u hu).2.2⟩
  have h1 := sg_R (ns := P.ns) (mn := mn) (fl := fl) (fh := fh) (pw := pw) (hc := P.crs) (cn := P.mn 3) (cf := P.F 3) (cg := P.G 3) (cpw := P.W 3) (al := al) (ah := ah) h.c hx2
  have h2 := sg_R (ns := P.ns) (mn := P.mn) (fl := P.fl) (fh := P.fh) (pw := P.pw) (hc := P.crs) (cn := P.mn 3) (cf := P.F 3) (cg := P.G 3) (cpw := P.W 3) (al := z0) (ah := z0) (fun q => ⟨rfl, (ok.c q).2.2.2⟩) hx3
  exact h1.symm.trans h2
end TRYP
/-! starting anew, coefficients -/
section ANEW
variable {P : PB}
theorem cx_0 {h : hA} (hh : h = hA0) {X : Nat → Int32} {lsd : Int32} : cxR h X 0 0 (nI 0) lsd := by
  subst hh
  exact ⟨rfl, rfl, rfl, fun q => absurd rfl q, fun i w h1 => by omega, Nat.le_refl _, fun _ => rfl⟩
/-- the class's run starts anew -/
theorem anC {ns : Nat} {hc : Int32} {nt : Nat → Nat} {F G : Nat → Nat → Int64} {PW : Nat → Nat → Nat} {cn : Nat} {cf cg : Nat → Int64} {cpw : Nat → Nat} (hns : P.ns ≤ 3) (h : pbC P ns hc nt F G PW cn cf cg cpw) {fl fh sl sh : Nat → Int64} (hf : aR P.ns fl fh sl sh) {co : Nat} {B X B1 X1 : Nat → Int32} {nb1 ncr1 : Nat} {ls1 lsd1 : Int32} (e : (nb1, B1, ncr1, X1, ls1, lsd1) = rsH ns B X fl fh (sgR hc cn cf cg cpw fl fh)) :
    RC P.ns (anA P co sl sh) 0 co 0 0 (nI 0) fl fh B1 X1 nb1 ncr1 ls1 lsd1 := by
  rw [sgC h hf, h.hn] at e
  have a1 : (anA P co sl sh).h = if P.ns = 0 then hA0 else addA hA0 P.ns sl sh sl sh (nI 0) (P.sg sl sh) := rfl
  unfold rsH at e
  refine ⟨⟨rfl, rfl, rfl, rfl, rfl⟩, hf, ?_, ?_⟩
  · rw [a1]
    by_cases h0 : P.ns = 0
    · rw [if_pos h0] at e ⊢
      simp only [Prod.mk.injEq] at e
      obtain ⟨rfl, rfl, rfl, rfl, rfl, rfl⟩ := e
      exact cx_0 rfl
    · rw [if_neg h0] at e ⊢
      simp only [Prod.mk.injEq] at e
      obtain ⟨rfl, rfl, e3⟩ := e
      exact cx_add (cx_0 rfl) e3
  · rw [a1]
    by_cases h0 : P.ns = 0
    · rw [if_pos h0] at e ⊢
      simp only [Prod.mk.injEq] at e
      obtain ⟨rfl, rfl, rfl, rfl, rfl, rfl⟩ := e
      exact ⟨fun i v hi => by omega, fun i hi => by omega⟩
    · rw [if_neg h0] at e ⊢
      simp only [Prod.mk.injEq] at e
      obtain ⟨rfl, rfl, e3⟩ := e
      exact hc_add (h := hA0) (nb := 0) ⟨fun i v hi => by omega, fun i hi => by omega⟩ rfl hns hf hf
/-- the reference's run starts anew -/
theorem anM (ok : P.ok) {ns : Nat} {crs : Int32} {mn : Nat → Nat} {fl fh : Nat → Int64} {pw : Nat → Nat} (h : pbM P ns crs mn fl fh pw) {sL sH sl sh xl xh pf pg al ah xl1 xh1 : Nat → Int64} (hf : aR P.ns sL sH sl sh) {co : Nat} {KL KH QL QH KT KS X KL1 KH1 QL1 QH1 KT1 KS1 X1 : Nat → Int32} {bxs1 crg1 : Nat} {lbx lsg1 lbx1 : Int32}
    (e : (ns = 0 → bxs1 = 0 ∧ crg1 = 0 ∧ lsg1 = nI 0 ∧ X1 = X) ∧ (¬ ns = 0 → bxs1 = 1 ∧ xl1 = cpN sL xl ns ∧ xh1 = cpN sH xh ns ∧ KL1 = kA KL 0 (cpN sL xl ns) ns ∧ KH1 = kA KH 0 (cpN sH xh ns) ns ∧ QL1 = kA QL 0 (cpN sL pf ns) ns ∧ QH1 = kA QH 0 (cpN sH pg ns) ns ∧ KT1 = kT KT 0 (nI 0) ∧ KS1 = kT KS 0 (sgM crs mn fl fh pw ns (cpN sL xl ns) (cpN sH xh ns) al ah) ∧ (crg1, X1, lsg1, lbx1) = hN 0 X (nI 0) lbx 0 (sgM crs mn fl fh pw ns (cpN sL xl ns) (cpN sH xh ns) al ah))) :
    RM P.ns (anA P co sl sh) 0 co 0 0 (nI 0) xl1 xh1 KL1 KH1 QL1 QH1 KT1 KS1 X1 bxs1 crg1 lsg1 lbx1 := by
  have hn := h.hn
  have a1 : (anA P co sl sh).h = if P.ns = 0 then hA0 else addA hA0 P.ns sl sh sl sh (nI 0) (P.sg sl sh) := rfl
  have cp : ∀ f g : Nat → Int64, aR P.ns (cpN sL f P.ns) (cpN sH g P.ns) sl sh := fun f g u hu => by
    unfold cpN
    rw [if_pos hu, if_pos hu]
    exact hf u hu
  by_cases h0 : P.ns = 0
  · obtain ⟨e1, e2, e3, e4⟩ := e.1 (hn.trans h0)
    rw [if_pos h0] at a1
    subst e1; subst e2; subst e3
    exact ⟨⟨rfl, rfl, rfl, rfl, rfl⟩, fun u hu => by omega, by rw [a1]; exact cx_0 rfl, ⟨fun i v hi => by omega, fun i hi => by omega⟩⟩
  · obtain ⟨e1, e2, e3, e4, e5, e6, e7, e8, e9, e10⟩ := e.2 (fun q => h0 (hn.symm.trans q))
    rw [if_neg h0] at a1
    subst hn
    have hs := sgMM ok h (al := al) (ah := ah) (cp xl xh)
    rw [hs] at e9 e10
    subst e1; subst e2; subst e3; subst e4; subst e5; subst e6; subst e7; subst e8; subst e9
    refine ⟨⟨rfl, rfl, rfl, rfl, rfl⟩, cp _ _, ?_, ?_⟩
    · rw [a1]
      exact cx_add (cx_0 rfl) e10
    · rw [a1]
      exact hm_add (h := hA0) (nb := 0) ⟨fun i v hi => by omega, fun i hi => by omega⟩ rfl ok.ns (cp _ _) (cp _ _)
theorem anG {co hz : Nat} {sl sh : Nat → Int64} (h : co ≤ 10) : runG hz co (anA P co sl sh) := ⟨Nat.zero_le _, rfl, by show co ≤ 16; omega, Nat.le_refl _, Nat.zero_le _⟩
/-- the coefficients over the box, told without what lies about -/
def cfB (P : PB) (A : AS) (k : Nat) : fSt := fOM P.mn P.fl P.fh P.pw 0 P.ns k ((pBx (nI 0) 0 A.xl A.xh z0 z0 z0 z0 P.ns).1, (pBx (nI 0) 0 A.xl A.xh z0 z0 z0 z0 P.ns).2, z0, z0, nI 0)
theorem cfC {ns : Nat} {hc : Int32} {nt : Nat → Nat} {F G : Nat → Nat → Int64} {PW : Nat → Nat → Nat} {cn : Nat} {cf cg : Nat → Int64} {cpw : Nat → Nat} (h : pbC P ns hc nt F G PW cn cf cg cpw) {A : AS} {xl xh sl sh pl ph : Nat → Int64} (hx : aR P.ns xl xh A.xl A.xh) {k : Nat} (hk : k < 10) {S : fSt} (hS : S = fO nt F G PW ns k (fS0 xl xh sl sh pl ph ns)) :
    (S.2.2.2.2 = 0 ↔ (cfB P A k).2.2.2.2 = 0) ∧ (S.2.2.2.2 = 0 → ∀ v, v < P.ns → S.1 (v * 10 + k) = (cfB P A k).1 (10 * v + k) ∧ S.2.1 (v * 10 + k) = (cfB P A k).2.1 (10 * v + k)) := by
  have e := h.hn
  subst e
  have hr := fill_R (ro := 0) h.p h.r (bl := xl) (bh := xh) (b2l := A.xl) (b2h := A.xh) (sl := sl) (sh := sh) (pl := pl) (ph := ph) (pl2 := z0) (ph2 := z0) (tl := (pBx (nI 0) 0 A.xl A.xh z0 z0 z0 z0 P.ns).1) (th := (pBx (nI 0) 0 A.xl A.xh z0 z0 z0 z0 P.ns).2) (be := nI 0) (b2 := nI 0) nI0 nI0 hx
    (fun u hu => pBx_at (ro := 0) (pr := nI 0) (xl := A.xl) (xh := A.xh) (pf := z0) (pg := z0) (sl := z0) (sh := z0) P.ns u hu) (n := k) hk
  change fR P.ns nt PW 0 k 0 (fO nt F G PW P.ns k (fS0 xl xh sl sh pl ph P.ns)) (cfB P A k) at hr
  rw [← hS] at hr
  refine ⟨hr.gg, fun h0 v hv => ?_⟩
  have a := hr.s h0 v k hv (Or.inl (Nat.le_refl _))
  have e : 0 + (v * 10 + k) = 10 * v + k := by omega
  unfold eo at a
  simp only [e] at a
  exact ⟨a.1, a.2.1⟩
theorem cfM (ok : P.ok) {ns : Nat} {crs : Int32} {mn : Nat → Nat} {fl fh : Nat → Int64} {pw : Nat → Nat} (h : pbM P ns crs mn fl fh pw) {A : AS} {xl xh pf pg sl sh pl ph : Nat → Int64} (hx : aR P.ns xl xh A.xl A.xh) {k : Nat} (hk : k < 10) {S : fSt} (hS : S = mcS mn fl fh pw ns k xl xh pf pg sl sh pl ph) :
    (S.2.2.2.2 = 0 ↔ (cfB P A k).2.2.2.2 = 0) ∧ (S.2.2.2.2 = 0 → ∀ v, v < P.ns → S.1 (10 * v + k) = (cfB P A k).1 (10 * v + k) ∧ S.2.1 (10 * v + k) = (cfB P A k).2.1 (10 * v + k)) := by
  have e := h.hn
  subst e
  have hx2 : aR P.ns A.xl A.xh xl xh := fun u hu => by
    obtain ⟨a, b, c⟩ := hx u hu
    exact ⟨a.symm, b.symm, by rw [← a, ← b]; exact c⟩
  have hx3 : aR P.ns A.xl A.xh A.xl A.xh := fun u hu => ⟨rfl, rfl, (hx2 u hu).2.2⟩
  have h1 := fill_R (ro := 0) ok.p h.r (bl := A.xl) (bh := A.xh) (b2l := xl) (b2h := xh) (sl := z0) (sh := z0) (pl := z0) (ph := z0) (pl2 := pl) (ph2 := ph) (tl := (pBx (nI 0) 0 xl xh pf pg sl sh P.ns).1) (th := (pBx (nI 0) 0 xl xh pf pg sl sh P.ns).2) (be := nI 0) (b2 := nI 0) nI0 nI0 hx2
    (fun u hu => pBx_at (ro := 0) (pr := nI 0) (xl := xl) (xh := xh) (pf := pf) (pg := pg) (sl := sl) (sh := sh) P.ns u hu) (n := k) hk
  have h2 := fill_R (ro := 0) ok.p ok.r (bl := A.xl) (bh := A.xh) (b2l := A.xl) (b2h := A.xh) (sl := z0) (sh := z0) (pl := z0) (ph := z0) (pl2 := z0) (ph2 := z0) (tl := (pBx (nI 0) 0 A.xl A.xh z0 z0 z0 z0 P.ns).1) (th := (pBx (nI 0) 0 A.xl A.xh z0 z0 z0 z0 P.ns).2) (be := nI 0) (b2 := nI 0) nI0 nI0 hx3
    (fun u hu => pBx_at (ro := 0) (pr := nI 0) (xl := A.xl) (xh := A.xh) (pf := z0) (pg := z0) (sl := z0) (sh := z0) P.ns u hu) (n := k) hk
  change fR P.ns P.mn P.W 0 k 0 _ (mcS mn fl fh pw P.ns k xl xh pf pg sl sh pl ph) at h1
  change fR P.ns P.mn P.W 0 k 0 _ (cfB P A k) at h2
  rw [← hS] at h1
  refine ⟨h1.gg.symm.trans h2.gg, fun h0 v hv => ?_⟩
  have h00 := h1.gg.mpr h0
  have a := h1.s h00 v k hv (Or.inl (Nat.le_refl _))
  have b := h2.s h00 v k hv (Or.inl (Nat.le_refl _))
  have e : 0 + (v * 10 + k) = 10 * v + k := by omega
  unfold eo at a b
  simp only [e] at a b
  exact ⟨a.1.symm.trans b.1, a.2.1.symm.trans b.2.1⟩
end ANEW
