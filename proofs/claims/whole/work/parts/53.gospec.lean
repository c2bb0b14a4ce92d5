/-! the reference's step -/
theorem fit_16 {tm hz q : Nat} (h1 : tm < hz) (h2 : tm % 16 = 0) (h3 : hz % 16 = 0) (hq : q ≤ 16) (h : hz < tm + 2 ^ (20 - q)) : q < 16 := by
  rcases Nat.lt_or_ge q 16 with h9 | h9
  · exact h9
  · obtain rfl : q = 16 := by omega
    have : 2 ^ (20 - 16) = 16 := rfl
    omega
theorem fit_up {tm hz q : Nat} (hq : q < 16) (h : hz < tm + 2 ^ (20 - q)) : fit tm hz (16 - q) q = fit tm hz (16 - (q + 1)) (q + 1) := by
  rw [show 16 - q = (16 - (q + 1)) + 1 by omega, fit, if_neg (by omega)]
theorem fit_at {tm hz q : Nat} (h : tm + 2 ^ (20 - q) ≤ hz) (n : Nat) : fit tm hz n q = q := by
  cases n with
  | zero => rfl
  | succ n => rw [fit, if_pos h]
theorem o_3 (P : PB) (od : Nat) (A : AS) (q : Nat) : P.o od A q = nI 0 ∨ P.o od A q = nI 1 ∨ P.o od A q = nI 2 := by
  show trR P.mn P.fl P.fh P.pw P.ns od A.xl A.xh z0 z0 z0 z0 z0 z0 z0 z0 q = _ ∨ trR P.mn P.fl P.fh P.pw P.ns od A.xl A.xh z0 z0 z0 z0 z0 z0 z0 z0 q = _ ∨ trR P.mn P.fl P.fh P.pw P.ns od A.xl A.xh z0 z0 z0 z0 z0 z0 z0 z0 q = _
  unfold trR
  split
  · split
    · exact Or.inl rfl
    · exact Or.inr (Or.inr rfl)
  · split
    · exact Or.inr (Or.inl rfl)
    · exact Or.inr (Or.inr rfl)
theorem o_le {P : PB} {od : Nat} {A : AS} {q : Nat} (h : P.o od A q ≤ 0) : P.o od A q = nI 0 := by
  rcases o_3 P od A q with e | e | e
  · exact e
  · rw [e] at h; exact absurd h (by decide)
  · rw [e] at h; exact absurd h (by decide)
theorem o_gt {P : PB} {od : Nat} {A : AS} {q : Nat} (h : ¬ P.o od A q ≤ 0) : ¬ P.o od A q = nI 0 := fun e => h (by rw [e]; decide)
abbrev trG (P : PB) (od : Nat) (A : AS) (q : Nat) (pf pg al ah : Nat → Int64) : Prop := P.o od A q = nI 0 → aR P.ns pf pg (cPl P.mn P.fl P.fh P.pw P.ns od A.xl A.xh q) (cPh P.mn P.fl P.fh P.pw P.ns od A.xl A.xh q) ∧ aR P.ns al ah (cNl P.mn P.fl P.fh P.pw P.ns od A.xl A.xh q) (cNh P.mn P.fl P.fh P.pw P.ns od A.xl A.xh q)
theorem trG_of {P : PB} (ok : P.ok) {ns : Nat} {crs : Int32} {mn : Nat → Nat} {fl fh : Nat → Int64} {pw : Nat → Nat} (h : pbM P ns crs mn fl fh pw) {A : AS} {xl xh pf pg al ah sl sh pl ph al1 ah1 pf1 pg1 : Nat → Int64} (hx : aR P.ns xl xh A.xl A.xh) {sq od : Nat} (hq : sq ≤ 20) (hod : od < 9) {r : Int32}
    (hu : r = trR mn fl fh pw ns od xl xh pf pg al ah sl sh pl ph sq ∧ (r = nI 0 → al1 = (trU mn fl fh pw ns od xl xh pf pg al ah sl sh pl ph sq).1 ∧ ah1 = (trU mn fl fh pw ns od xl xh pf pg al ah sl sh pl ph sq).2.1 ∧ pf1 = (trP mn fl fh pw ns od xl xh pf pg al ah sl sh pl ph sq).2.2.2.1 ∧ pg1 = (trP mn fl fh pw ns od xl xh pf pg al ah sl sh pl ph sq).2.2.2.2.1)) : r = P.o od A sq ∧ trG P od A sq pf1 pg1 al1 ah1 := by
  have t := tryM ok h (pf2 := pf) (pg2 := pg) (al := al) (ah := ah) (sl2 := sl) (sh2 := sh) (pl2 := pl) (ph2 := ph) hx hq hod
  have e := hu.1.trans t.1
  refine ⟨e, fun h0 => ?_⟩
  obtain ⟨u1, u2, u3, u4⟩ := hu.2 (e.trans h0)
  rw [u1, u2, u3, u4]
  exact t.2 h0
theorem RM_goodN {P : PB} {od hz co ns : Nat} {A : AS} {tm sf cm tr : Nat} {rf : Int32} {xl xh : Nat → Int64} {KL KH QL QH KT KS X : Nat → Int32} {nb ncr : Nat} {ls lsd : Int32} (hn : ns = P.ns) (hns : P.ns ≤ 3) (h : RM P.ns A tm sf cm tr rf xl xh KL KH QL QH KT KS X nb ncr ls lsd) (ho : P.o od A (P.q od hz A) = nI 0)
    {tm1 sf1 cm1 tr1 : Nat} {rf1 sg : Int32} {nl nh pf pg : Nat → Int64} {KL1 KH1 QL1 QH1 KT1 KS1 X1 : Nat → Int32} {ncr1 : Nat} {ls1 lsd1 : Int32} (h0 : tm1 = tm + 2 ^ (20 - P.q od hz A)) (h1 : tr1 = tr + (P.q od hz A - PB.s0 A hz + 1)) (h2 : rf1 = nI 0) (hx : aR P.ns nl nh (P.nl od hz A) (P.nh od hz A)) (hp : aR P.ns pf pg (P.pl od hz A) (P.ph od hz A))
    (hs : sg = P.sg (P.nl od hz A) (P.nh od hz A)) (k1 : KL1 = kA KL nb nl ns) (k2 : KH1 = kA KH nb nh ns) (k3 : QL1 = kA QL nb pf ns) (k4 : QH1 = kA QH nb pg ns) (k5 : KT1 = kT KT nb (nI tm1)) (k6 : KS1 = kT KS nb sg) (hN1 : (ncr1, X1, ls1, lsd1) = hN ncr X ls lsd nb sg) (ha : (cm1, sf1) = adC (P.q od hz A) sf cm co) : RM P.ns (goA P od hz co A) tm1 sf1 cm1 tr1 rf1 nl nh KL1 KH1 QL1 QH1 KT1 KS1 X1 (nb + 1) ncr1 ls1 lsd1 ∧ (goA P od hz co A).rfd = nI 0 := by
  subst hn
  exact RM_good hns h ho h0 h1 h2 hx hp hs k1 k2 k3 k4 k5 k6 hN1 ha
def stF (P : PB) (od hz co : Nat) (n : Int32) (A : AS) : AS × Int32 × Int32 := if P.ns = 0 then (A, nI 1, nI 0) else if n < nI 1 ∨ ¬ n ≤ nI 200 then (A, nI 3, nI 0) else
  if (stA P od hz co n.toNatClampNeg A 0).2.2 = true then ((stA P od hz co n.toNatClampNeg A 0).1, nI 0, nI (stA P od hz co n.toNatClampNeg A 0).2.1) else ((stA P od hz co n.toNatClampNeg A 0).1, nI 2, nI 0)
