/-! contents of arrays by their places; copies -/
theorem bo_cellJ {c n : Nat} {f f' : Nat → Int64} (h : ∀ j, j < n → f j = f' j) : vp_cell c (n, .inr (.inl f)) = vp_cell c (n, .inr (.inl f')) := by
  have e1 : (fun j : Fin n => Value.long (f j.val)) = (fun j : Fin n => Value.long (f' j.val)) := funext fun j => by rw [h j.val j.isLt]
  rw [vp_cell_l, vp_cell_l]
  show ({ cls := c, slots := Array.ofFn (n := n) fun j => Value.long (f j.val), vm := .none } : Cell) = { cls := c, slots := Array.ofFn (n := n) fun j => Value.long (f' j.val), vm := .none }
  rw [e1]
theorem bo_cellI {c n : Nat} {f f' : Nat → Int32} (h : ∀ j, j < n → f j = f' j) : vp_cell c (n, .inl f) = vp_cell c (n, .inl f') := by
  have e1 : (fun j : Fin n => Value.int (f j.val)) = (fun j : Fin n => Value.int (f' j.val)) := funext fun j => by rw [h j.val j.isLt]
  rw [vp_cell_i, vp_cell_i]
  show ({ cls := c, slots := Array.ofFn (n := n) fun j => Value.int (f j.val), vm := .none } : Cell) = { cls := c, slots := Array.ofFn (n := n) fun j => Value.int (f' j.val), vm := .none }
  rw [e1]
theorem bo_extJ {D : va_G} {cl : List vw_C} {ws : va_W} {H : Heap} {a c n : Nat} {f : Nat → Int64} (hP : va_P D cl ws H) (k : Nat) (he : ws[k]? = some (a, .inl (c, n, .inr (.inl f)))) (f' : Nat → Int64) (h : ∀ j, j < n → f j = f' j) : va_P D cl (ws.set k (a, .inl (c, n, .inr (.inl f')))) H := by
  intro i q hq
  by_cases hik : i = k
  · subst hik
    rw [List.getElem?_set_self (List.getElem?_eq_some_iff.mp he).1] at hq
    cases hq
    have h1 := hP i _ he
    show H[a]? = some (vp_cell c (n, .inr (.inl f')))
    rw [← bo_cellJ h]
    exact h1
  · rw [List.getElem?_set_ne (Ne.symm hik)] at hq
    exact hP i q hq
theorem bo_extI {D : va_G} {cl : List vw_C} {ws : va_W} {H : Heap} {a c n : Nat} {f : Nat → Int32} (hP : va_P D cl ws H) (k : Nat) (he : ws[k]? = some (a, .inl (c, n, .inl f))) (f' : Nat → Int32) (h : ∀ j, j < n → f j = f' j) : va_P D cl (ws.set k (a, .inl (c, n, .inl f'))) H := by
  intro i q hq
  by_cases hik : i = k
  · subst hik
    rw [List.getElem?_set_self (List.getElem?_eq_some_iff.mp he).1] at hq
    cases hq
    have h1 := hP i _ he
    show H[a]? = some (vp_cell c (n, .inl f'))
    rw [← bo_cellI h]
    exact h1
  · rw [List.getElem?_set_ne (Ne.symm hik)] at hq
    exact hP i q hq
theorem bo_cp {f g : Nat → Int64} {n : Nat} : ∀ j, j < n → va_cpy f g 0 0 n j = f j := fun j h => by rw [pk_cpy_in (Nat.zero_le _) (by omega)]; simp
theorem bo_updN (pw : Nat → Nat) (k e : Nat) : ∀ j, upd (fun i => nI (pw i)) k (nI e) j = nI (va_up pw k e j) := by
  intro j
  unfold upd va_up
  split <;> rfl
section CPY
variable {p : Program} {l : Launch} {e : Env} {R : Room} {s : State} {m : MethodId} {args : Array Value} {below : List Frame} {meth : Method} {c : Code} {H : Heap} {locs : List Loc} {cells slots : Nat} {Q : State → Prop}
variable {pc : Nat} {ls : Array Slot} {rest : List Value} {D : va_G} {cl : List vw_C} {tys : List (ClassId × FieldType)} {A : Nat → Prop} {H0 : Heap} {ws : va_W} {a : Nat}
theorem bo_copyl {cc : ByteArray} (hexec : p.tables.exec = Jvm.exec) (hb : c.code = cc) (hml : c.maxLocals = ls.size) {own : String} {index : Nat} (hown : s.vm.findClass own = some m.cls) (hlink : (Cond.methodLink own index arraycopyName).before args s = true) (hnat : (Cond.native arraycopyName).before args s = true) (hstat : (Cond.static arraycopyName).before args s = true) (hini : (Cond.initialized "java/lang/System").before args s = true)
    (hK : va_K D cl tys s) (hP : va_P D cl ws H) (hD : va_D A ws) (hS : va_S A H0 H locs) (q0 q1 t0 t1 : Nat) {a0 : Nat} {c0 c1 : ClassId} {n0 n1 : Nat} {f g : Nat → Int64} (ha0 : ws[q0]? = some (a0, .inl (c0, n0, .inr (.inl f)))) (ha1 : ws[q1]? = some (a, .inl (c1, n1, .inr (.inl g)))) (ht0 : tys[t0]? = some (c0, .long)) (ht1 : tys[t1]? = some (c1, .long))
    {n : Nat} (h4 : n ≤ n0) (h5 : n ≤ n1) (hn : n < 2 ^ 31) (hframes : 1 ≤ R.frames) (hlocals : (rest.map fun v => v.category).sum + (nativeFrameWords "java/lang/System" "arraycopy" 5 + 11) ≤ R.locals) (hdg : decode cc pc = .ok (.invokestatic index, 3))
    (kk : ∀ (H1 : Heap) (locs1 : List Loc), va_P D cl (ws.set q1 (a, .inl (c1, n1, .inr (.inl (va_cpy f g 0 0 n))))) H1 → va_D A (ws.set q1 (a, .inl (c1, n1, .inr (.inl (va_cpy f g 0 0 n))))) → va_S A H0 H1 locs1 → W p l e R s m args below meth c H1 locs1 cells slots Q (F0 m (pc + 3) ls rest)) :
    W p l e R s m args below meth c H locs cells slots Q (F0 m pc ls (.int (nI n) :: .int (nI 0) :: .ref a :: .int (nI 0) :: .ref a0 :: rest)) := by
  have e0 : (nI 0).toNatClampNeg = 0 := by decide
  have en : (nI n).toNatClampNeg = n := nI_clamp hn
  refine va_copyl hexec hb hml hown hlink hnat hstat hini hK hP hD hS q0 q1 t0 t1 ha0 ha1 ht0 ht1 rfl (by decide) (by decide) (nI_pos hn) (by rw [e0, en]; omega) (by rw [e0, en]; omega) (fun _ _ => rfl) hframes hlocals hdg ?_
  rw [e0, en]
  exact kk
end CPY
theorem wd_364 : (Jvm.Cond.native ({ cls := "java/lang/System", name := "arraycopy", desc := "(Ljava/lang/Object;ILjava/lang/Object;II)V" } : Jvm.MethodName)) ∈ bo_tb := List.mem_filter.mpr ⟨List.mem_of_getElem? (i := 422) (by decide +kernel), by decide +kernel⟩
/-! polynomials over boxes, with a maker of intervals mk -/
abbrev zz : Type := Int64 × Int64 × Int32
abbrev mkT : Type := Int64 → Int64 → Int32 → zz
def iT (mk : mkT) (z : zz) (x y : Int64) : zz := mk (tm_lo z.1 z.2.1 x y) (tm_hi z.1 z.2.1 x y) z.2.2
def iS (mk : mkT) (z : zz) (x y : Int64) : zz := mk (z.1 + x) (z.2.1 + y) z.2.2
def pT (mk : mkT) : Nat → zz → Int64 → Int64 → zz
  | 0, z, _, _ => z
  | k + 1, z, x, y => pT mk k (iT mk z x y) x y
def tV (mk : mkT) (pw : Nat → Nat) (t : Nat) (bl bh : Nat → Int64) : Nat → zz → zz
  | 0, z => z
  | v + 1, z => pT mk (pw (t * 3 + v)) (tV mk pw t bl bh v z) (bl v) (bh v)
def vS (mk : mkT) (f g : Nat → Int64) (pw : Nat → Nat) (bl bh : Nat → Int64) (be : Int32) : Nat → zz
  | 0 => (0, 0, be)
  | t + 1 => iS mk (tV mk pw t bl bh 3 (f t, g t, (vS mk f g pw bl bh be t).2.2)) (vS mk f g pw bl bh be t).1 (vS mk f g pw bl bh be t).2.1
def tn_lo (x y : Nat) : Int64 := fdiv ((nI x).toInt64 * 1048576) (nI y).toInt64
def tn_hi (x y : Nat) : Int64 := -fdiv ((-nI x).toInt64 * 1048576) (nI y).toInt64
def pw_new (pw : Nat → Nat) (nt : Nat) : Nat → Nat := fun i => if nt * 3 ≤ i ∧ i < nt * 3 + 3 then 0 else pw i
def pSum (pw : Nat → Nat) (t : Nat) : Nat → Nat
  | 0 => 0
  | v + 1 => pSum pw t v + pw (t * 3 + v)
theorem pSum_le (pw : Nat → Nat) (t : Nat) {v : Nat} (h : v < 3) : pSum pw t v + pw (t * 3 + v) ≤ pSum pw t 3 := by
  rcases (show v = 0 ∨ v = 1 ∨ v = 2 by omega) with rfl | rfl | rfl <;> simp only [pSum] <;> omega
theorem up0_J {f : Nat → Int64} {i : Nat} (hf : ∀ j, j < i → f j = 0) : ∀ j, j < i + 1 → vp_updL f i 0 j = 0 := by
  intro j hj
  by_cases hji : j = i
  · subst hji
    exact pk_uLs
  · rw [pk_uLn hji]
    exact hf j (by omega)
theorem pf_step {pf : Nat → Int32} {pw : Nat → Nat} {a v : Nat} (h : ∀ j, pf j = nI (if a ≤ j ∧ j < a + v then 0 else pw j)) : ∀ j, upd pf (a + v) (nI 0) j = nI (if a ≤ j ∧ j < a + (v + 1) then 0 else pw j) := by
  intro j
  unfold upd
  by_cases hj : j = a + v
  · rw [if_pos hj, if_pos (by omega)]
  · rw [if_neg hj, h j]
    congr 1
    by_cases hq : a ≤ j ∧ j < a + v
    · rw [if_pos hq, if_pos (by omega)]
    · rw [if_neg hq, if_neg (by omega)]
theorem pf_end {pf : Nat → Int32} {pw : Nat → Nat} {nt v : Nat} (h : ∀ j, pf j = nI (if nt * 3 ≤ j ∧ j < nt * 3 + v then 0 else pw j)) (h3 : 3 ≤ v) (h4 : v ≤ 3) : ∀ j, pf j = nI (pw_new pw nt j) := by
  have hv : v = 3 := by omega
  subst hv
  exact h
