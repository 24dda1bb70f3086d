/-! The run predicate over pictures: X holds all that stays fixed in a method's run -/
abbrev ww_G : Type := va_G × (ClassId × ClassId × ClassId × ClassId)
abbrev ww_t (g : ww_G) : List (ClassId × FieldType) := [(g.2.1, .int), (g.2.2.1, .boolean), (g.2.2.2.1, .array .int), (g.2.2.2.2, .long)]
abbrev ww_X : Type := ww_G × Program × Launch × Env × Room × State × MethodId × Array Value × List Frame × Method × Code × (Nat → Prop) × Heap × Nat × (State → Prop)
def RW (X : ww_X) (kc ks pc : Nat) (lv : List (Nat × Value)) (st : List Value) (ws : va_W) : Prop := match X with
  | (g, p, l, e, R, s, m, args, below, meth, c, A, H0, nL, Q) => ∀ (H : Heap) (locs : List Loc) (ls : Array Slot), va_P g.1 vwCl ws H → va_D A ws → va_S A H0 H locs → lv_has ls nL lv → W p l e R s m args below meth c H locs kc ks Q (F0 m pc ls st)
def ww_C (X : ww_X) (cc : ByteArray) (n0 : Nat) (own : String) (Ts : List Cond) (rm : Room) : Prop := match X with
  | (g, p, _, _, R, s, m, args, _, meth, c, A, H0, nL, _) => p.tables.exec = Jvm.exec ∧ c.code = cc ∧ c.maxLocals = n0 ∧ nL = n0 ∧ s.vm.findClass own = some m.cls ∧ (∀ w ∈ Ts, w.before args s = true) ∧ va_K g.1 vwCl (ww_t g) s ∧ (∀ q, H0.size ≤ q → A q) ∧ meth.locks = false ∧ R = rm
section
variable {X : ww_X} {cc : ByteArray} {n0 : Nat} {own : String} {Ts : List Cond} {rm : Room} {kc ks pc : Nat} {lv lv' : List (Nat × Value)} {st : List Value} {ws ws' : va_W}
theorem r_iadd {x y v : Int32} (C : ww_C X cc n0 own Ts rm) (hd : decode cc pc = .ok (.iadd, 1)) (hv : x + y = v) (k : RW X kc ks (pc + 1) lv (.int v :: st) ws) : RW X kc ks pc lv (.int y :: .int x :: st) ws := by
  obtain ⟨g, p, l, e, R, s, m, args, below, meth, c, A, H0, nL, Q⟩ := X
  obtain ⟨hx, hb, hml, rfl, hown, hts, hK, hA, hlocks, rfl⟩ := C
  intro H locs ls hP hD hS hl
  subst hv
  exact lv_iadd hx hb hd (k H locs ls hP hD hS hl)
theorem r_isub {x y v : Int32} (C : ww_C X cc n0 own Ts rm) (hd : decode cc pc = .ok (.isub, 1)) (hv : x - y = v) (k : RW X kc ks (pc + 1) lv (.int v :: st) ws) : RW X kc ks pc lv (.int y :: .int x :: st) ws := by
  obtain ⟨g, p, l, e, R, s, m, args, below, meth, c, A, H0, nL, Q⟩ := X
  obtain ⟨hx, hb, hml, rfl, hown, hts, hK, hA, hlocks, rfl⟩ := C
  intro H locs ls hP hD hS hl
  subst hv
  exact lv_isub hx hb hd (k H locs ls hP hD hS hl)
theorem r_imul {x y v : Int32} (C : ww_C X cc n0 own Ts rm) (hd : decode cc pc = .ok (.imul, 1)) (hv : x * y = v) (k : RW X kc ks (pc + 1) lv (.int v :: st) ws) : RW X kc ks pc lv (.int y :: .int x :: st) ws := by
  obtain ⟨g, p, l, e, R, s, m, args, below, meth, c, A, H0, nL, Q⟩ := X
  obtain ⟨hx, hb, hml, rfl, hown, hts, hK, hA, hlocks, rfl⟩ := C
  intro H locs ls hP hD hS hl
  subst hv
  exact lv_imul hx hb hd (k H locs ls hP hD hS hl)
theorem r_iand {x y v : Int32} (C : ww_C X cc n0 own Ts rm) (hd : decode cc pc = .ok (.iand, 1)) (hv : x &&& y = v) (k : RW X kc ks (pc + 1) lv (.int v :: st) ws) : RW X kc ks pc lv (.int y :: .int x :: st) ws := by
  obtain ⟨g, p, l, e, R, s, m, args, below, meth, c, A, H0, nL, Q⟩ := X
  obtain ⟨hx, hb, hml, rfl, hown, hts, hK, hA, hlocks, rfl⟩ := C
  intro H locs ls hP hD hS hl
  subst hv
  exact lv_iand hx hb hd (k H locs ls hP hD hS hl)
theorem r_ior {x y v : Int32} (C : ww_C X cc n0 own Ts rm) (hd : decode cc pc = .ok (.ior, 1)) (hv : x ||| y = v) (k : RW X kc ks (pc + 1) lv (.int v :: st) ws) : RW X kc ks pc lv (.int y :: .int x :: st) ws := by
  obtain ⟨g, p, l, e, R, s, m, args, below, meth, c, A, H0, nL, Q⟩ := X
  obtain ⟨hx, hb, hml, rfl, hown, hts, hK, hA, hlocks, rfl⟩ := C
  intro H locs ls hP hD hS hl
  subst hv
  exact lv_ior hx hb hd (k H locs ls hP hD hS hl)
theorem r_ixor {x y v : Int32} (C : ww_C X cc n0 own Ts rm) (hd : decode cc pc = .ok (.ixor, 1)) (hv : x ^^^ y = v) (k : RW X kc ks (pc + 1) lv (.int v :: st) ws) : RW X kc ks pc lv (.int y :: .int x :: st) ws := by
  obtain ⟨g, p, l, e, R, s, m, args, below, meth, c, A, H0, nL, Q⟩ := X
  obtain ⟨hx, hb, hml, rfl, hown, hts, hK, hA, hlocks, rfl⟩ := C
  intro H locs ls hP hD hS hl
  subst hv
  exact lv_ixor hx hb hd (k H locs ls hP hD hS hl)
theorem r_ishl {x y v : Int32} (C : ww_C X cc n0 own Ts rm) (hd : decode cc pc = .ok (.ishl, 1)) (hv : x <<< (y &&& 31) = v) (k : RW X kc ks (pc + 1) lv (.int v :: st) ws) : RW X kc ks pc lv (.int y :: .int x :: st) ws := by
  obtain ⟨g, p, l, e, R, s, m, args, below, meth, c, A, H0, nL, Q⟩ := X
  obtain ⟨hx, hb, hml, rfl, hown, hts, hK, hA, hlocks, rfl⟩ := C
  intro H locs ls hP hD hS hl
  subst hv
  exact lv_ishl hx hb hd (k H locs ls hP hD hS hl)
theorem r_ishr {x y v : Int32} (C : ww_C X cc n0 own Ts rm) (hd : decode cc pc = .ok (.ishr, 1)) (hv : x >>> (y &&& 31) = v) (k : RW X kc ks (pc + 1) lv (.int v :: st) ws) : RW X kc ks pc lv (.int y :: .int x :: st) ws := by
  obtain ⟨g, p, l, e, R, s, m, args, below, meth, c, A, H0, nL, Q⟩ := X
  obtain ⟨hx, hb, hml, rfl, hown, hts, hK, hA, hlocks, rfl⟩ := C
  intro H locs ls hP hD hS hl
  subst hv
  exact lv_ishr hx hb hd (k H locs ls hP hD hS hl)
theorem r_idiv {x y v : Int32} (C : ww_C X cc n0 own Ts rm) (hd : decode cc pc = .ok (.idiv, 1)) (hne : ¬ y = 0) (hv : x / y = v) (k : RW X kc ks (pc + 1) lv (.int v :: st) ws) : RW X kc ks pc lv (.int y :: .int x :: st) ws := by
  obtain ⟨g, p, l, e, R, s, m, args, below, meth, c, A, H0, nL, Q⟩ := X
  obtain ⟨hx, hb, hml, rfl, hown, hts, hK, hA, hlocks, rfl⟩ := C
  intro H locs ls hP hD hS hl
  subst hv
  exact lv_idiv hx hb hd hne (k H locs ls hP hD hS hl)
theorem r_irem {x y v : Int32} (C : ww_C X cc n0 own Ts rm) (hd : decode cc pc = .ok (.irem, 1)) (hne : ¬ y = 0) (hv : x - x / y * y = v) (k : RW X kc ks (pc + 1) lv (.int v :: st) ws) : RW X kc ks pc lv (.int y :: .int x :: st) ws := by
  obtain ⟨g, p, l, e, R, s, m, args, below, meth, c, A, H0, nL, Q⟩ := X
  obtain ⟨hx, hb, hml, rfl, hown, hts, hK, hA, hlocks, rfl⟩ := C
  intro H locs ls hP hD hS hl
  subst hv
  exact lv_irem hx hb hd hne (k H locs ls hP hD hS hl)
theorem r_iushr {x y v : Int32} (C : ww_C X cc n0 own Ts rm) (hd : decode cc pc = .ok (.iushr, 1)) (hv : (x.toUInt32 >>> (y.toUInt32 &&& Int32.toUInt32 31)).toInt32 = v) (k : RW X kc ks (pc + 1) lv (.int v :: st) ws) : RW X kc ks pc lv (.int y :: .int x :: st) ws := by
  obtain ⟨g, p, l, e, R, s, m, args, below, meth, c, A, H0, nL, Q⟩ := X
  obtain ⟨hx, hb, hml, rfl, hown, hts, hK, hA, hlocks, rfl⟩ := C
  intro H locs ls hP hD hS hl
  exact lv_iushr hx hb hd hv (k H locs ls hP hD hS hl)
theorem r_ladd {x y v : Int64} (C : ww_C X cc n0 own Ts rm) (hd : decode cc pc = .ok (.ladd, 1)) (hv : x + y = v) (k : RW X kc ks (pc + 1) lv (.long v :: st) ws) : RW X kc ks pc lv (.long y :: .long x :: st) ws := by
  obtain ⟨g, p, l, e, R, s, m, args, below, meth, c, A, H0, nL, Q⟩ := X
  obtain ⟨hx, hb, hml, rfl, hown, hts, hK, hA, hlocks, rfl⟩ := C
  intro H locs ls hP hD hS hl
  subst hv
  exact lv_ladd hx hb hd (k H locs ls hP hD hS hl)
theorem r_lmul {x y v : Int64} (C : ww_C X cc n0 own Ts rm) (hd : decode cc pc = .ok (.lmul, 1)) (hv : x * y = v) (k : RW X kc ks (pc + 1) lv (.long v :: st) ws) : RW X kc ks pc lv (.long y :: .long x :: st) ws := by
  obtain ⟨g, p, l, e, R, s, m, args, below, meth, c, A, H0, nL, Q⟩ := X
  obtain ⟨hx, hb, hml, rfl, hown, hts, hK, hA, hlocks, rfl⟩ := C
  intro H locs ls hP hD hS hl
  subst hv
  exact lv_lmul hx hb hd (k H locs ls hP hD hS hl)
theorem r_land {x y v : Int64} (C : ww_C X cc n0 own Ts rm) (hd : decode cc pc = .ok (.land, 1)) (hv : x &&& y = v) (k : RW X kc ks (pc + 1) lv (.long v :: st) ws) : RW X kc ks pc lv (.long y :: .long x :: st) ws := by
  obtain ⟨g, p, l, e, R, s, m, args, below, meth, c, A, H0, nL, Q⟩ := X
  obtain ⟨hx, hb, hml, rfl, hown, hts, hK, hA, hlocks, rfl⟩ := C
  intro H locs ls hP hD hS hl
  subst hv
  exact lv_land hx hb hd (k H locs ls hP hD hS hl)
theorem r_lor {x y v : Int64} (C : ww_C X cc n0 own Ts rm) (hd : decode cc pc = .ok (.lor, 1)) (hv : x ||| y = v) (k : RW X kc ks (pc + 1) lv (.long v :: st) ws) : RW X kc ks pc lv (.long y :: .long x :: st) ws := by
  obtain ⟨g, p, l, e, R, s, m, args, below, meth, c, A, H0, nL, Q⟩ := X
  obtain ⟨hx, hb, hml, rfl, hown, hts, hK, hA, hlocks, rfl⟩ := C
  intro H locs ls hP hD hS hl
  subst hv
  exact lv_lor hx hb hd (k H locs ls hP hD hS hl)
theorem r_lrem {x y v : Int64} (C : ww_C X cc n0 own Ts rm) (hd : decode cc pc = .ok (.lrem, 1)) (hne : ¬ y = 0) (hv : x - x / y * y = v) (k : RW X kc ks (pc + 1) lv (.long v :: st) ws) : RW X kc ks pc lv (.long y :: .long x :: st) ws := by
  obtain ⟨g, p, l, e, R, s, m, args, below, meth, c, A, H0, nL, Q⟩ := X
  obtain ⟨hx, hb, hml, rfl, hown, hts, hK, hA, hlocks, rfl⟩ := C
  intro H locs ls hP hD hS hl
  subst hv
  exact lv_lrem hx hb hd hne (k H locs ls hP hD hS hl)
theorem r_lshl {x v : Int64} {y : Int32} (C : ww_C X cc n0 own Ts rm) (hd : decode cc pc = .ok (.lshl, 1)) (hv : x <<< (y.toInt64 &&& 63) = v) (k : RW X kc ks (pc + 1) lv (.long v :: st) ws) : RW X kc ks pc lv (.int y :: .long x :: st) ws := by
  obtain ⟨g, p, l, e, R, s, m, args, below, meth, c, A, H0, nL, Q⟩ := X
  obtain ⟨hx, hb, hml, rfl, hown, hts, hK, hA, hlocks, rfl⟩ := C
  intro H locs ls hP hD hS hl
  exact lv_lshl hx hb hd hv (k H locs ls hP hD hS hl)
theorem r_lushr {x v : Int64} {y : Int32} (C : ww_C X cc n0 own Ts rm) (hd : decode cc pc = .ok (.lushr, 1)) (hv : (x.toUInt64 >>> (y.toInt64.toUInt64 &&& Int64.toUInt64 63)).toInt64 = v) (k : RW X kc ks (pc + 1) lv (.long v :: st) ws) : RW X kc ks pc lv (.int y :: .long x :: st) ws := by
  obtain ⟨g, p, l, e, R, s, m, args, below, meth, c, A, H0, nL, Q⟩ := X
  obtain ⟨hx, hb, hml, rfl, hown, hts, hK, hA, hlocks, rfl⟩ := C
  intro H locs ls hP hD hS hl
  exact lv_lushr hx hb hd hv (k H locs ls hP hD hS hl)
theorem r_lcmp {x y : Int64} {v : Int32} (C : ww_C X cc n0 own Ts rm) (hd : decode cc pc = .ok (.lcmp, 1)) (hv : lg_cmp x y = v) (k : RW X kc ks (pc + 1) lv (.int v :: st) ws) : RW X kc ks pc lv (.long y :: .long x :: st) ws := by
  obtain ⟨g, p, l, e, R, s, m, args, below, meth, c, A, H0, nL, Q⟩ := X
  obtain ⟨hx, hb, hml, rfl, hown, hts, hK, hA, hlocks, rfl⟩ := C
  intro H locs ls hP hD hS hl
  subst hv
  exact W.lcmp hx hb hd (k H locs ls hP hD hS hl)
theorem r_ineg {x v : Int32} (C : ww_C X cc n0 own Ts rm) (hd : decode cc pc = .ok (.ineg, 1)) (hv : -x = v) (k : RW X kc ks (pc + 1) lv (.int v :: st) ws) : RW X kc ks pc lv (.int x :: st) ws := by
  obtain ⟨g, p, l, e, R, s, m, args, below, meth, c, A, H0, nL, Q⟩ := X
  obtain ⟨hx, hb, hml, rfl, hown, hts, hK, hA, hlocks, rfl⟩ := C
  intro H locs ls hP hD hS hl
  subst hv
  exact lv_ineg hx hb hd (k H locs ls hP hD hS hl)
theorem r_l2i {x : Int64} {v : Int32} (C : ww_C X cc n0 own Ts rm) (hd : decode cc pc = .ok (.l2i, 1)) (hv : x.toInt32 = v) (k : RW X kc ks (pc + 1) lv (.int v :: st) ws) : RW X kc ks pc lv (.long x :: st) ws := by
  obtain ⟨g, p, l, e, R, s, m, args, below, meth, c, A, H0, nL, Q⟩ := X
  obtain ⟨hx, hb, hml, rfl, hown, hts, hK, hA, hlocks, rfl⟩ := C
  intro H locs ls hP hD hS hl
  exact lv_l2i hx hb hd hv (k H locs ls hP hD hS hl)
theorem r_i2l {x : Int32} {v : Int64} (C : ww_C X cc n0 own Ts rm) (hd : decode cc pc = .ok (.i2l, 1)) (hv : x.toInt64 = v) (k : RW X kc ks (pc + 1) lv (.long v :: st) ws) : RW X kc ks pc lv (.int x :: st) ws := by
  obtain ⟨g, p, l, e, R, s, m, args, below, meth, c, A, H0, nL, Q⟩ := X
  obtain ⟨hx, hb, hml, rfl, hown, hts, hK, hA, hlocks, rfl⟩ := C
  intro H locs ls hP hD hS hl
  exact lv_i2l hx hb hd hv (k H locs ls hP hD hS hl)
theorem r_dup {a : Value} (C : ww_C X cc n0 own Ts rm) (hd : decode cc pc = .ok (.dup, 1)) (ha : a.category = 1) (k : RW X kc ks (pc + 1) lv (a :: a :: st) ws) : RW X kc ks pc lv (a :: st) ws := by
  obtain ⟨g, p, l, e, R, s, m, args, below, meth, c, A, H0, nL, Q⟩ := X
  obtain ⟨hx, hb, hml, rfl, hown, hts, hK, hA, hlocks, rfl⟩ := C
  intro H locs ls hP hD hS hl
  exact lv_dup hx hb hd ha (k H locs ls hP hD hS hl)
theorem r_dup2 {a b : Value} (C : ww_C X cc n0 own Ts rm) (hd : decode cc pc = .ok (.dup2, 1)) (ha : a.category = 1) (hb2 : b.category = 1) (k : RW X kc ks (pc + 1) lv (a :: b :: a :: b :: st) ws) : RW X kc ks pc lv (a :: b :: st) ws := by
  obtain ⟨g, p, l, e, R, s, m, args, below, meth, c, A, H0, nL, Q⟩ := X
  obtain ⟨hx, hb, hml, rfl, hown, hts, hK, hA, hlocks, rfl⟩ := C
  intro H locs ls hP hD hS hl
  exact lv_dup2_11 hx hb hd ha hb2 (k H locs ls hP hD hS hl)
theorem r_dup2L {a : Value} (C : ww_C X cc n0 own Ts rm) (hd : decode cc pc = .ok (.dup2, 1)) (ha : a.category = 2) (k : RW X kc ks (pc + 1) lv (a :: a :: st) ws) : RW X kc ks pc lv (a :: st) ws := by
  obtain ⟨g, p, l, e, R, s, m, args, below, meth, c, A, H0, nL, Q⟩ := X
  obtain ⟨hx, hb, hml, rfl, hown, hts, hK, hA, hlocks, rfl⟩ := C
  intro H locs ls hP hD hS hl
  exact lv_dup2_2 hx hb hd ha (k H locs ls hP hD hS hl)
theorem r_dup_x1 {a b : Value} (C : ww_C X cc n0 own Ts rm) (hd : decode cc pc = .ok (.dup_x1, 1)) (ha : a.category = 1) (hb2 : b.category = 1) (k : RW X kc ks (pc + 1) lv (a :: b :: a :: st) ws) : RW X kc ks pc lv (a :: b :: st) ws := by
  obtain ⟨g, p, l, e, R, s, m, args, below, meth, c, A, H0, nL, Q⟩ := X
  obtain ⟨hx, hb, hml, rfl, hown, hts, hK, hA, hlocks, rfl⟩ := C
  intro H locs ls hP hD hS hl
  exact lv_dup_x1 hx hb hd ha hb2 (k H locs ls hP hD hS hl)
theorem r_dup_x2 {a b d : Value} (C : ww_C X cc n0 own Ts rm) (hd : decode cc pc = .ok (.dup_x2, 1)) (ha : a.category = 1) (hb2 : b.category = 1) (hd2 : d.category = 1) (k : RW X kc ks (pc + 1) lv (a :: b :: d :: a :: st) ws) : RW X kc ks pc lv (a :: b :: d :: st) ws := by
  obtain ⟨g, p, l, e, R, s, m, args, below, meth, c, A, H0, nL, Q⟩ := X
  obtain ⟨hx, hb, hml, rfl, hown, hts, hK, hA, hlocks, rfl⟩ := C
  intro H locs ls hP hD hS hl
  exact lv_dup_x2 hx hb hd ha hb2 hd2 (k H locs ls hP hD hS hl)
theorem r_pop {a : Value} (C : ww_C X cc n0 own Ts rm) (hd : decode cc pc = .ok (.pop, 1)) (ha : a.category = 1) (k : RW X kc ks (pc + 1) lv st ws) : RW X kc ks pc lv (a :: st) ws := by
  obtain ⟨g, p, l, e, R, s, m, args, below, meth, c, A, H0, nL, Q⟩ := X
  obtain ⟨hx, hb, hml, rfl, hown, hts, hK, hA, hlocks, rfl⟩ := C
  intro H locs ls hP hD hS hl
  exact lv_pop hx hb hd ha (k H locs ls hP hD hS hl)
theorem r_if_eq {x : Int32} {off : Int} {tgt : Nat} (C : ww_C X cc n0 own Ts rm) (hd : decode cc pc = .ok (.ifCond .eq off, 3)) (ht : (pc : Int) + off = (tgt : Int)) (kt : x = 0 → RW X kc ks tgt lv st ws) (kf : ¬ x = 0 → RW X kc ks (pc + 3) lv st ws) : RW X kc ks pc lv (.int x :: st) ws := by
  obtain ⟨g, p, l, e, R, s, m, args, below, meth, c, A, H0, nL, Q⟩ := X
  obtain ⟨hx, hb, hml, rfl, hown, hts, hK, hA, hlocks, rfl⟩ := C
  intro H locs ls hP hD hS hl
  exact lv_if_eq hx hb hd ht (fun h => kt h H locs ls hP hD hS hl) (fun h => kf h H locs ls hP hD hS hl)
theorem r_if_ne {x : Int32} {off : Int} {tgt : Nat} (C : ww_C X cc n0 own Ts rm) (hd : decode cc pc = .ok (.ifCond .ne off, 3)) (ht : (pc : Int) + off = (tgt : Int)) (kt : ¬ x = 0 → RW X kc ks tgt lv st ws) (kf : x = 0 → RW X kc ks (pc + 3) lv st ws) : RW X kc ks pc lv (.int x :: st) ws := by
  obtain ⟨g, p, l, e, R, s, m, args, below, meth, c, A, H0, nL, Q⟩ := X
  obtain ⟨hx, hb, hml, rfl, hown, hts, hK, hA, hlocks, rfl⟩ := C
  intro H locs ls hP hD hS hl
  exact lv_if_ne hx hb hd ht (fun h => kt h H locs ls hP hD hS hl) (fun h => kf h H locs ls hP hD hS hl)
theorem r_if_lt {x : Int32} {off : Int} {tgt : Nat} (C : ww_C X cc n0 own Ts rm) (hd : decode cc pc = .ok (.ifCond .lt off, 3)) (ht : (pc : Int) + off = (tgt : Int)) (kt : x < 0 → RW X kc ks tgt lv st ws) (kf : ¬ x < 0 → RW X kc ks (pc + 3) lv st ws) : RW X kc ks pc lv (.int x :: st) ws := by
  obtain ⟨g, p, l, e, R, s, m, args, below, meth, c, A, H0, nL, Q⟩ := X
  obtain ⟨hx, hb, hml, rfl, hown, hts, hK, hA, hlocks, rfl⟩ := C
  intro H locs ls hP hD hS hl
  exact lv_if_lt hx hb hd ht (fun h => kt h H locs ls hP hD hS hl) (fun h => kf h H locs ls hP hD hS hl)
theorem r_if_ge {x : Int32} {off : Int} {tgt : Nat} (C : ww_C X cc n0 own Ts rm) (hd : decode cc pc = .ok (.ifCond .ge off, 3)) (ht : (pc : Int) + off = (tgt : Int)) (kt : 0 ≤ x → RW X kc ks tgt lv st ws) (kf : ¬ 0 ≤ x → RW X kc ks (pc + 3) lv st ws) : RW X kc ks pc lv (.int x :: st) ws := by
  obtain ⟨g, p, l, e, R, s, m, args, below, meth, c, A, H0, nL, Q⟩ := X
  obtain ⟨hx, hb, hml, rfl, hown, hts, hK, hA, hlocks, rfl⟩ := C
  intro H locs ls hP hD hS hl
  exact lv_if_ge hx hb hd ht (fun h => kt h H locs ls hP hD hS hl) (fun h => kf h H locs ls hP hD hS hl)
theorem r_if_gt {x : Int32} {off : Int} {tgt : Nat} (C : ww_C X cc n0 own Ts rm) (hd : decode cc pc = .ok (.ifCond .gt off, 3)) (ht : (pc : Int) + off = (tgt : Int)) (kt : 0 < x → RW X kc ks tgt lv st ws) (kf : ¬ 0 < x → RW X kc ks (pc + 3) lv st ws) : RW X kc ks pc lv (.int x :: st) ws := by
  obtain ⟨g, p, l, e, R, s, m, args, below, meth, c, A, H0, nL, Q⟩ := X
  obtain ⟨hx, hb, hml, rfl, hown, hts, hK, hA, hlocks, rfl⟩ := C
  intro H locs ls hP hD hS hl
  exact lv_if_gt hx hb hd ht (fun h => kt h H locs ls hP hD hS hl) (fun h => kf h H locs ls hP hD hS hl)
theorem r_if_le {x : Int32} {off : Int} {tgt : Nat} (C : ww_C X cc n0 own Ts rm) (hd : decode cc pc = .ok (.ifCond .le off, 3)) (ht : (pc : Int) + off = (tgt : Int)) (kt : x ≤ 0 → RW X kc ks tgt lv st ws) (kf : ¬ x ≤ 0 → RW X kc ks (pc + 3) lv st ws) : RW X kc ks pc lv (.int x :: st) ws := by
  obtain ⟨g, p, l, e, R, s, m, args, below, meth, c, A, H0, nL, Q⟩ := X
  obtain ⟨hx, hb, hml, rfl, hown, hts, hK, hA, hlocks, rfl⟩ := C
  intro H locs ls hP hD hS hl
  exact lv_if_le hx hb hd ht (fun h => kt h H locs ls hP hD hS hl) (fun h => kf h H locs ls hP hD hS hl)
theorem r_icmp_eq {x y : Int32} {off : Int} {tgt : Nat} (C : ww_C X cc n0 own Ts rm) (hd : decode cc pc = .ok (.if_icmp .eq off, 3)) (ht : (pc : Int) + off = (tgt : Int)) (kt : x = y → RW X kc ks tgt lv st ws) (kf : ¬ x = y → RW X kc ks (pc + 3) lv st ws) : RW X kc ks pc lv (.int y :: .int x :: st) ws := by
  obtain ⟨g, p, l, e, R, s, m, args, below, meth, c, A, H0, nL, Q⟩ := X
  obtain ⟨hx, hb, hml, rfl, hown, hts, hK, hA, hlocks, rfl⟩ := C
  intro H locs ls hP hD hS hl
  exact lv_icmp_eq hx hb hd ht (fun h => kt h H locs ls hP hD hS hl) (fun h => kf h H locs ls hP hD hS hl)
theorem r_icmp_ne {x y : Int32} {off : Int} {tgt : Nat} (C : ww_C X cc n0 own Ts rm) (hd : decode cc pc = .ok (.if_icmp .ne off, 3)) (ht : (pc : Int) + off = (tgt : Int)) (kt : ¬ x = y → RW X kc ks tgt lv st ws) (kf : x = y → RW X kc ks (pc + 3) lv st ws) : RW X kc ks pc lv (.int y :: .int x :: st) ws := by
  obtain ⟨g, p, l, e, R, s, m, args, below, meth, c, A, H0, nL, Q⟩ := X
  obtain ⟨hx, hb, hml, rfl, hown, hts, hK, hA, hlocks, rfl⟩ := C
  intro H locs ls hP hD hS hl
  exact lv_icmp_ne hx hb hd ht (fun h => kt h H locs ls hP hD hS hl) (fun h => kf h H locs ls hP hD hS hl)
theorem r_icmp_lt {x y : Int32} {off : Int} {tgt : Nat} (C : ww_C X cc n0 own Ts rm) (hd : decode cc pc = .ok (.if_icmp .lt off, 3)) (ht : (pc : Int) + off = (tgt : Int)) (kt : x < y → RW X kc ks tgt lv st ws) (kf : ¬ x < y → RW X kc ks (pc + 3) lv st ws) : RW X kc ks pc lv (.int y :: .int x :: st) ws := by
  obtain ⟨g, p, l, e, R, s, m, args, below, meth, c, A, H0, nL, Q⟩ := X
  obtain ⟨hx, hb, hml, rfl, hown, hts, hK, hA, hlocks, rfl⟩ := C
  intro H locs ls hP hD hS hl
  exact lv_icmp_lt hx hb hd ht (fun h => kt h H locs ls hP hD hS hl) (fun h => kf h H locs ls hP hD hS hl)
theorem r_icmp_ge {x y : Int32} {off : Int} {tgt : Nat} (C : ww_C X cc n0 own Ts rm) (hd : decode cc pc = .ok (.if_icmp .ge off, 3)) (ht : (pc : Int) + off = (tgt : Int)) (kt : y ≤ x → RW X kc ks tgt lv st ws) (kf : ¬ y ≤ x → RW X kc ks (pc + 3) lv st ws) : RW X kc ks pc lv (.int y :: .int x :: st) ws := by
  obtain ⟨g, p, l, e, R, s, m, args, below, meth, c, A, H0, nL, Q⟩ := X
  obtain ⟨hx, hb, hml, rfl, hown, hts, hK, hA, hlocks, rfl⟩ := C
  intro H locs ls hP hD hS hl
  exact lv_icmp_ge hx hb hd ht (fun h => kt h H locs ls hP hD hS hl) (fun h => kf h H locs ls hP hD hS hl)
theorem r_icmp_gt {x y : Int32} {off : Int} {tgt : Nat} (C : ww_C X cc n0 own Ts rm) (hd : decode cc pc = .ok (.if_icmp .gt off, 3)) (ht : (pc : Int) + off = (tgt : Int)) (kt : y < x → RW X kc ks tgt lv st ws) (kf : ¬ y < x → RW X kc ks (pc + 3) lv st ws) : RW X kc ks pc lv (.int y :: .int x :: st) ws := by
  obtain ⟨g, p, l, e, R, s, m, args, below, meth, c, A, H0, nL, Q⟩ := X
  obtain ⟨hx, hb, hml, rfl, hown, hts, hK, hA, hlocks, rfl⟩ := C
  intro H locs ls hP hD hS hl
  exact lv_icmp_gt hx hb hd ht (fun h => kt h H locs ls hP hD hS hl) (fun h => kf h H locs ls hP hD hS hl)
theorem r_icmp_le {x y : Int32} {off : Int} {tgt : Nat} (C : ww_C X cc n0 own Ts rm) (hd : decode cc pc = .ok (.if_icmp .le off, 3)) (ht : (pc : Int) + off = (tgt : Int)) (kt : x ≤ y → RW X kc ks tgt lv st ws) (kf : ¬ x ≤ y → RW X kc ks (pc + 3) lv st ws) : RW X kc ks pc lv (.int y :: .int x :: st) ws := by
  obtain ⟨g, p, l, e, R, s, m, args, below, meth, c, A, H0, nL, Q⟩ := X
  obtain ⟨hx, hb, hml, rfl, hown, hts, hK, hA, hlocks, rfl⟩ := C
  intro H locs ls hP hD hS hl
  exact lv_icmp_le hx hb hd ht (fun h => kt h H locs ls hP hD hS hl) (fun h => kf h H locs ls hP hD hS hl)
theorem r_goto {off : Int} {tgt : Nat} (C : ww_C X cc n0 own Ts rm) (hd : decode cc pc = .ok (.goto off, 3)) (ht : (pc : Int) + off = (tgt : Int)) (k : RW X kc ks tgt lv st ws) : RW X kc ks pc lv st ws := by
  obtain ⟨g, p, l, e, R, s, m, args, below, meth, c, A, H0, nL, Q⟩ := X
  obtain ⟨hx, hb, hml, rfl, hown, hts, hK, hA, hlocks, rfl⟩ := C
  intro H locs ls hP hD hS hl
  exact lv_goto hx hb hd ht (k H locs ls hP hD hS hl)
theorem r_iconst {n : Int} {v : Int32} (C : ww_C X cc n0 own Ts rm) (hd : decode cc pc = .ok (.iconst n, 1)) (hv : Int32.ofInt n = v) (k : RW X kc ks (pc + 1) lv (.int v :: st) ws) : RW X kc ks pc lv st ws := by
  obtain ⟨g, p, l, e, R, s, m, args, below, meth, c, A, H0, nL, Q⟩ := X
  obtain ⟨hx, hb, hml, rfl, hown, hts, hK, hA, hlocks, rfl⟩ := C
  intro H locs ls hP hD hS hl
  exact lv_iconst hx hb hd hv (k H locs ls hP hD hS hl)
theorem r_bipush {n : Int} {v : Int32} (C : ww_C X cc n0 own Ts rm) (hd : decode cc pc = .ok (.bipush n, 2)) (hv : (Int8.ofInt n).toInt32 = v) (k : RW X kc ks (pc + 2) lv (.int v :: st) ws) : RW X kc ks pc lv st ws := by
  obtain ⟨g, p, l, e, R, s, m, args, below, meth, c, A, H0, nL, Q⟩ := X
  obtain ⟨hx, hb, hml, rfl, hown, hts, hK, hA, hlocks, rfl⟩ := C
  intro H locs ls hP hD hS hl
  exact lv_bipush hx hb hd hv (k H locs ls hP hD hS hl)
theorem r_sipush {n : Int} {v : Int32} (C : ww_C X cc n0 own Ts rm) (hd : decode cc pc = .ok (.sipush n, 3)) (hv : (Int16.ofInt n).toInt32 = v) (k : RW X kc ks (pc + 3) lv (.int v :: st) ws) : RW X kc ks pc lv st ws := by
  obtain ⟨g, p, l, e, R, s, m, args, below, meth, c, A, H0, nL, Q⟩ := X
  obtain ⟨hx, hb, hml, rfl, hown, hts, hK, hA, hlocks, rfl⟩ := C
  intro H locs ls hP hD hS hl
  exact lv_sipush hx hb hd hv (k H locs ls hP hD hS hl)
theorem r_lconst {n : Fin 2} {v : Int64} (C : ww_C X cc n0 own Ts rm) (hd : decode cc pc = .ok (.lconst n, 1)) (hv : Int64.ofNat (n : Nat) = v) (k : RW X kc ks (pc + 1) lv (.long v :: st) ws) : RW X kc ks pc lv st ws := by
  obtain ⟨g, p, l, e, R, s, m, args, below, meth, c, A, H0, nL, Q⟩ := X
  obtain ⟨hx, hb, hml, rfl, hown, hts, hK, hA, hlocks, rfl⟩ := C
  intro H locs ls hP hD hS hl
  exact lv_lconst hx hb hd hv (k H locs ls hP hD hS hl)
theorem r_ldc {index : Nat} {v : Int32} (C : ww_C X cc n0 own Ts rm) (hd : decode cc pc = .ok (.ldc index, 2)) (hm : Cond.constant own index v ∈ Ts) (k : RW X kc ks (pc + 2) lv (.int v :: st) ws) : RW X kc ks pc lv st ws := by
  obtain ⟨g, p, l, e, R, s, m, args, below, meth, c, A, H0, nL, Q⟩ := X
  obtain ⟨hx, hb, hml, rfl, hown, hts, hK, hA, hlocks, rfl⟩ := C
  intro H locs ls hP hD hS hl
  exact lv_ldc hx hb hown (hts _ hm) hd (k H locs ls hP hD hS hl)
theorem r_ldcw {index : Nat} {v : Int32} (C : ww_C X cc n0 own Ts rm) (hd : decode cc pc = .ok (.ldc_w index, 3)) (hm : Cond.constant own index v ∈ Ts) (k : RW X kc ks (pc + 3) lv (.int v :: st) ws) : RW X kc ks pc lv st ws := by
  obtain ⟨g, p, l, e, R, s, m, args, below, meth, c, A, H0, nL, Q⟩ := X
  obtain ⟨hx, hb, hml, rfl, hown, hts, hK, hA, hlocks, rfl⟩ := C
  intro H locs ls hP hD hS hl
  exact lv_ldcw hx hb hown (hts _ hm) hd (k H locs ls hP hD hS hl)
theorem r_ldc2 {index : Nat} {v : Int64} (C : ww_C X cc n0 own Ts rm) (hd : decode cc pc = .ok (.ldc2_w index, 3)) (hm : Cond.constantLong own index v ∈ Ts) (k : RW X kc ks (pc + 3) lv (.long v :: st) ws) : RW X kc ks pc lv st ws := by
  obtain ⟨g, p, l, e, R, s, m, args, below, meth, c, A, H0, nL, Q⟩ := X
  obtain ⟨hx, hb, hml, rfl, hown, hts, hK, hA, hlocks, rfl⟩ := C
  intro H locs ls hP hD hS hl
  exact lv_ldc2 hx hb hown (hts _ hm) hd (k H locs ls hP hD hS hl)
theorem r_iload_n {k0 : Fin 4} {i : Nat} {x : Int32} (C : ww_C X cc n0 own Ts rm) (hd : decode cc pc = .ok (.iload_n k0, 1)) (j : Nat) (hi : (k0 : Nat) = i) (hj : lv[j]? = some (i, .int x)) (k : RW X kc ks (pc + 1) lv (.int x :: st) ws) : RW X kc ks pc lv st ws := by
  obtain ⟨g, p, l, e, R, s, m, args, below, meth, c, A, H0, nL, Q⟩ := X
  obtain ⟨hx, hb, hml, rfl, hown, hts, hK, hA, hlocks, rfl⟩ := C
  intro H locs ls hP hD hS hl
  exact lv_iload_n hx hb hd hi (lv_at hl j hj) (k H locs ls hP hD hS hl)
theorem r_iload {i : Nat} {x : Int32} (C : ww_C X cc n0 own Ts rm) (hd : decode cc pc = .ok (.iload i, 2)) (j : Nat) (hj : lv[j]? = some (i, .int x)) (k : RW X kc ks (pc + 2) lv (.int x :: st) ws) : RW X kc ks pc lv st ws := by
  obtain ⟨g, p, l, e, R, s, m, args, below, meth, c, A, H0, nL, Q⟩ := X
  obtain ⟨hx, hb, hml, rfl, hown, hts, hK, hA, hlocks, rfl⟩ := C
  intro H locs ls hP hD hS hl
  exact lv_iload hx hb hd (lv_at hl j hj) (k H locs ls hP hD hS hl)
theorem r_lload_n {k0 : Fin 4} {i : Nat} {x : Int64} (C : ww_C X cc n0 own Ts rm) (hd : decode cc pc = .ok (.lload_n k0, 1)) (j : Nat) (hi : (k0 : Nat) = i) (hj : lv[j]? = some (i, .long x)) (k : RW X kc ks (pc + 1) lv (.long x :: st) ws) : RW X kc ks pc lv st ws := by
  obtain ⟨g, p, l, e, R, s, m, args, below, meth, c, A, H0, nL, Q⟩ := X
  obtain ⟨hx, hb, hml, rfl, hown, hts, hK, hA, hlocks, rfl⟩ := C
  intro H locs ls hP hD hS hl
  exact lv_lload_n hx hb hd hi (lv_at hl j hj) (k H locs ls hP hD hS hl)
theorem r_lload {i : Nat} {x : Int64} (C : ww_C X cc n0 own Ts rm) (hd : decode cc pc = .ok (.lload i, 2)) (j : Nat) (hj : lv[j]? = some (i, .long x)) (k : RW X kc ks (pc + 2) lv (.long x :: st) ws) : RW X kc ks pc lv st ws := by
  obtain ⟨g, p, l, e, R, s, m, args, below, meth, c, A, H0, nL, Q⟩ := X
  obtain ⟨hx, hb, hml, rfl, hown, hts, hK, hA, hlocks, rfl⟩ := C
  intro H locs ls hP hD hS hl
  exact lv_lload hx hb hd (lv_at hl j hj) (k H locs ls hP hD hS hl)
theorem r_aload_n {k0 : Fin 4} {i : Nat} {x : Nat} (C : ww_C X cc n0 own Ts rm) (hd : decode cc pc = .ok (.aload_n k0, 1)) (j : Nat) (hi : (k0 : Nat) = i) (hj : lv[j]? = some (i, .ref x)) (k : RW X kc ks (pc + 1) lv (.ref x :: st) ws) : RW X kc ks pc lv st ws := by
  obtain ⟨g, p, l, e, R, s, m, args, below, meth, c, A, H0, nL, Q⟩ := X
  obtain ⟨hx, hb, hml, rfl, hown, hts, hK, hA, hlocks, rfl⟩ := C
  intro H locs ls hP hD hS hl
  exact lv_aload_n hx hb hd hi (lv_at hl j hj) (k H locs ls hP hD hS hl)
theorem r_aload {i : Nat} {x : Nat} (C : ww_C X cc n0 own Ts rm) (hd : decode cc pc = .ok (.aload i, 2)) (j : Nat) (hj : lv[j]? = some (i, .ref x)) (k : RW X kc ks (pc + 2) lv (.ref x :: st) ws) : RW X kc ks pc lv st ws := by
  obtain ⟨g, p, l, e, R, s, m, args, below, meth, c, A, H0, nL, Q⟩ := X
  obtain ⟨hx, hb, hml, rfl, hown, hts, hK, hA, hlocks, rfl⟩ := C
  intro H locs ls hP hD hS hl
  exact lv_aload hx hb hd (lv_at hl j hj) (k H locs ls hP hD hS hl)
theorem r_istore_n {k0 : Fin 4} {i : Nat} {x : Int32} (C : ww_C X cc n0 own Ts rm) (hd : decode cc pc = .ok (.istore_n k0, 1)) (hi : (k0 : Nat) = i) (hn : i < n0) (ps : List Nat) (hl9 : lv_pick ((i, Value.int x) :: lv.filter (fun q => !(q.1 == i) && !(q.1 + 1 == i && q.2.category == 2))) ps = lv') (k : RW X kc ks (pc + 1) lv' st ws) : RW X kc ks pc lv (Value.int x :: st) ws := by
  obtain ⟨g, p, l, e, R, s, m, args, below, meth, c, A, H0, nL, Q⟩ := X
  obtain ⟨hx, hb, hml, rfl, hown, hts, hK, hA, hlocks, rfl⟩ := C
  intro H locs ls hP hD hS hl
  exact lv_istore_n hx hb hd hi hl hn rfl (fun ls2 hl2 => k H locs ls2 hP hD hS (lv_sub hl2 ps hl9))
theorem r_istore {i : Nat} {x : Int32} (C : ww_C X cc n0 own Ts rm) (hd : decode cc pc = .ok (.istore i, 2)) (hn : i < n0) (ps : List Nat) (hl9 : lv_pick ((i, Value.int x) :: lv.filter (fun q => !(q.1 == i) && !(q.1 + 1 == i && q.2.category == 2))) ps = lv') (k : RW X kc ks (pc + 2) lv' st ws) : RW X kc ks pc lv (Value.int x :: st) ws := by
  obtain ⟨g, p, l, e, R, s, m, args, below, meth, c, A, H0, nL, Q⟩ := X
  obtain ⟨hx, hb, hml, rfl, hown, hts, hK, hA, hlocks, rfl⟩ := C
  intro H locs ls hP hD hS hl
  exact lv_istore hx hb hd hl hn rfl (fun ls2 hl2 => k H locs ls2 hP hD hS (lv_sub hl2 ps hl9))
theorem r_lstore_n {k0 : Fin 4} {i : Nat} {x : Int64} (C : ww_C X cc n0 own Ts rm) (hd : decode cc pc = .ok (.lstore_n k0, 1)) (hi : (k0 : Nat) = i) (hn : i + 1 < n0) (ps : List Nat) (hl9 : lv_pick ((i, Value.long x) :: lv.filter (fun q => !(q.1 == i) && (!(q.1 == i + 1) && !(q.1 + 1 == i && q.2.category == 2)))) ps = lv') (k : RW X kc ks (pc + 1) lv' st ws) : RW X kc ks pc lv (Value.long x :: st) ws := by
  obtain ⟨g, p, l, e, R, s, m, args, below, meth, c, A, H0, nL, Q⟩ := X
  obtain ⟨hx, hb, hml, rfl, hown, hts, hK, hA, hlocks, rfl⟩ := C
  intro H locs ls hP hD hS hl
  exact lv_lstore_n hx hb hd hi hl hn rfl (fun ls2 hl2 => k H locs ls2 hP hD hS (lv_sub hl2 ps hl9))
theorem r_lstore {i : Nat} {x : Int64} (C : ww_C X cc n0 own Ts rm) (hd : decode cc pc = .ok (.lstore i, 2)) (hn : i + 1 < n0) (ps : List Nat) (hl9 : lv_pick ((i, Value.long x) :: lv.filter (fun q => !(q.1 == i) && (!(q.1 == i + 1) && !(q.1 + 1 == i && q.2.category == 2)))) ps = lv') (k : RW X kc ks (pc + 2) lv' st ws) : RW X kc ks pc lv (Value.long x :: st) ws := by
  obtain ⟨g, p, l, e, R, s, m, args, below, meth, c, A, H0, nL, Q⟩ := X
  obtain ⟨hx, hb, hml, rfl, hown, hts, hK, hA, hlocks, rfl⟩ := C
  intro H locs ls hP hD hS hl
  exact lv_lstore hx hb hd hl hn rfl (fun ls2 hl2 => k H locs ls2 hP hD hS (lv_sub hl2 ps hl9))
theorem r_astore_n {k0 : Fin 4} {i : Nat} {x : Nat} (C : ww_C X cc n0 own Ts rm) (hd : decode cc pc = .ok (.astore_n k0, 1)) (hi : (k0 : Nat) = i) (hn : i < n0) (ps : List Nat) (hl9 : lv_pick ((i, Value.ref x) :: lv.filter (fun q => !(q.1 == i) && !(q.1 + 1 == i && q.2.category == 2))) ps = lv') (k : RW X kc ks (pc + 1) lv' st ws) : RW X kc ks pc lv (Value.ref x :: st) ws := by
  obtain ⟨g, p, l, e, R, s, m, args, below, meth, c, A, H0, nL, Q⟩ := X
  obtain ⟨hx, hb, hml, rfl, hown, hts, hK, hA, hlocks, rfl⟩ := C
  intro H locs ls hP hD hS hl
  exact lv_astore_n hx hb hd hi hl hn rfl (fun ls2 hl2 => k H locs ls2 hP hD hS (lv_sub hl2 ps hl9))
theorem r_astore {i : Nat} {x : Nat} (C : ww_C X cc n0 own Ts rm) (hd : decode cc pc = .ok (.astore i, 2)) (hn : i < n0) (ps : List Nat) (hl9 : lv_pick ((i, Value.ref x) :: lv.filter (fun q => !(q.1 == i) && !(q.1 + 1 == i && q.2.category == 2))) ps = lv') (k : RW X kc ks (pc + 2) lv' st ws) : RW X kc ks pc lv (Value.ref x :: st) ws := by
  obtain ⟨g, p, l, e, R, s, m, args, below, meth, c, A, H0, nL, Q⟩ := X
  obtain ⟨hx, hb, hml, rfl, hown, hts, hK, hA, hlocks, rfl⟩ := C
  intro H locs ls hP hD hS hl
  exact lv_astore hx hb hd hl hn rfl (fun ls2 hl2 => k H locs ls2 hP hD hS (lv_sub hl2 ps hl9))
theorem r_iinc {i : Nat} {n : Int} {x v : Int32} (C : ww_C X cc n0 own Ts rm) (hd : decode cc pc = .ok (.iinc i n, 3)) (j : Nat) (hj : lv[j]? = some (i, .int x)) (hv : x + Int32.ofInt n = v) (hn : i < n0) (ps : List Nat) (hl9 : lv_pick ((i, Value.int v) :: lv.filter (fun q => !(q.1 == i) && !(q.1 + 1 == i && q.2.category == 2))) ps = lv') (k : RW X kc ks (pc + 3) lv' st ws) : RW X kc ks pc lv st ws := by
  obtain ⟨g, p, l, e, R, s, m, args, below, meth, c, A, H0, nL, Q⟩ := X
  obtain ⟨hx, hb, hml, rfl, hown, hts, hK, hA, hlocks, rfl⟩ := C
  intro H locs ls hP hD hS hl
  exact lv_iinc hx hb hd hl hj hv hn rfl (fun ls2 hl2 => k H locs ls2 hP hD hS (lv_sub hl2 ps hl9))
theorem r_top {x y : Int32} (h : x = y) (k : RW X kc ks pc lv (.int y :: st) ws) : RW X kc ks pc lv (.int x :: st) ws := h ▸ k
theorem r_lv (ps : List Nat) (h : lv_pick lv ps = lv') (k : RW X kc ks pc lv' st ws) : RW X kc ks pc lv st ws := by
  obtain ⟨g, p, l, e, R, s, m, args, below, meth, c, A, H0, nL, Q⟩ := X
  intro H locs ls hP hD hS hl
  exact k H locs ls hP hD hS (lv_sub hl ps h)
theorem r_widen {kc2 ks2 : Nat} (h1 : kc ≤ kc2) (h2 : ks ≤ ks2) (k : RW X kc2 ks2 pc lv st ws) : RW X kc ks pc lv st ws := by
  obtain ⟨g, p, l, e, R, s, m, args, below, meth, c, A, H0, nL, Q⟩ := X
  intro H locs ls hP hD hS hl
  exact W.widen h1 h2 (k H locs ls hP hD hS hl)
/-- two pictures of one heap: the same addresses, and what the second says holds where the first does -/
theorem r_ws (ha : ws'.map Prod.fst = ws.map Prod.fst) (h : ∀ (g : ww_G) (H : Heap), va_P g.1 vwCl ws H → va_P g.1 vwCl ws' H) (k : RW X kc ks pc lv st ws') : RW X kc ks pc lv st ws := by
  obtain ⟨g, p, l, e, R, s, m, args, below, meth, c, A, H0, nL, Q⟩ := X
  intro H locs ls hP hD hS hl
  refine k H locs ls (h g H hP) ?_ hS hl
  have hadr : ∀ (i : Nat) (q : Nat × va_E), ws'[i]? = some q → ∃ q2, ws[i]? = some q2 ∧ q2.1 = q.1 := by
    intro i q hq
    have h1 : (ws'.map Prod.fst)[i]? = some q.1 := by rw [List.getElem?_map, hq]; rfl
    rw [ha, List.getElem?_map] at h1
    cases h2 : ws[i]? with
    | none => rw [h2] at h1; cases h1
    | some q2 => rw [h2] at h1; exact ⟨q2, rfl, Option.some.inj h1⟩
  refine ⟨fun i j p q hi hj e => ?_, fun i q hi => ?_⟩
  · obtain ⟨p2, hp2, ep⟩ := hadr i p hi
    obtain ⟨q2, hq2, eq⟩ := hadr j q hj
    exact hD.1 i j p2 q2 hp2 hq2 (by rw [ep, eq, e])
  · obtain ⟨q2, hq2, eq⟩ := hadr i q hi
    rw [← eq]
    exact hD.2 i q2 hq2
theorem r_get {C0 : String} {T : u_T} {N ci index a : Nat} {fs : List Value} {v : Value} (C : ww_C X cc n0 own Ts rm) (hd : decode cc pc = .ok (.getfield index, 3)) (hin : ∀ w ∈ u_ws C0 T N, w ∈ Ts) (k : Nat) (hm : Cond.fieldLink own index (T k).1 (T k).2.1 (T k).2.2.1 ∈ Ts) (q0 : Nat) (he : ws[q0]? = some (a, .inr (ci, fs))) (hc : vwCl[ci]? = some (C0, T, N)) (hk : k < N) (hv : fs[k]? = some v) (kk : RW X kc ks (pc + 3) lv (v :: st) ws) : RW X kc ks pc lv (.ref a :: st) ws := by
  obtain ⟨g, p, l, e, R, s, m, args, below, meth, c, A, H0, nL, Q⟩ := X
  obtain ⟨hx, hb, hml, rfl, hown, hts, hK, hA, hlocks, rfl⟩ := C
  intro H locs ls hP hD hS hl
  exact va_get hx hb hts hin hown hK hP q0 he hc k hk (hts _ hm) (fun _ h9 => h9) hv hd (kk H locs ls hP hD hS hl)
theorem r_put {C0 : String} {T : u_T} {N ci index a : Nat} {fs : List Value} {v : Value} {ty : FieldType} (C : ww_C X cc n0 own Ts rm) (hd : decode cc pc = .ok (.putfield index, 3)) (hin : ∀ w ∈ u_ws C0 T N, w ∈ Ts) (ty0 : Nat → FieldType) (hty : ∀ k, k < N → parseFieldDescriptor (T k).2.2.1 = some (ty0 k)) (hnm : ∀ a, a < N → ∀ b, b < N → a ≠ b → (T a).2.1 ≠ (T b).2.1) (k : Nat) (hm : Cond.fieldLink own index (T k).1 (T k).2.1 (T k).2.2.1 ∈ Ts) (q0 : Nat) (he : ws[q0]? = some (a, .inr (ci, fs))) (hc : vwCl[ci]? = some (C0, T, N)) (hk : k < N) (hfin : (T k).2.2.2 = false) (hd2 : ty0 k = ty) (hn : narrow ty v = v) (hfit : fits ty v = true) (hl0 : k < fs.length) (hws : ws.set q0 (a, .inr (ci, fs.set k v)) = ws') (kk : RW X kc ks (pc + 3) lv st ws') : RW X kc ks pc lv (v :: .ref a :: st) ws := by
  obtain ⟨g, p, l, e, R, s, m, args, below, meth, c, A, H0, nL, Q⟩ := X
  obtain ⟨hx, hb, hml, rfl, hown, hts, hK, hA, hlocks, rfl⟩ := C
  intro H locs ls hP hD hS hl
  subst hws
  subst hd2
  exact va_put hx hb hts hin ty0 hty hnm hown hK hP hD hS q0 he hc k hk (hts _ hm) (fun _ h9 => h9) hfin (hty k hk) hn hfit hl0 hd (fun H1 locs1 hP1 hD1 hS1 => kk H1 locs1 ls hP1 hD1 hS1 hl)
theorem r_iald {a n i : Nat} {f : Nat → Int32} (C : ww_C X cc n0 own Ts rm) (hd : decode cc pc = .ok (.iaload, 1)) (q0 : Nat) (ha : ws[q0]? = some (a, .inl (X.1.2.1, n, .inl f))) (hi : i < n) (hn : n < 2147483648) (k : RW X kc ks (pc + 1) lv (.int (f i) :: st) ws) : RW X kc ks pc lv (.int (nI i) :: .ref a :: st) ws := by
  obtain ⟨g, p, l, e, R, s, m, args, below, meth, c, A, H0, nL, Q⟩ := X
  obtain ⟨hx, hb, hml, rfl, hown, hts, hK, hA, hlocks, rfl⟩ := C
  intro H locs ls hP hD hS hl
  have hk9 := k H locs ls hP hD hS hl
  have e9 : (nI i).toNatClampNeg = i := nI_clamp (by omega)
  refine va_iald hx hb hK hP q0 0 ha rfl (vp_in_nI hi hn) hd ?_
  rw [e9]
  exact hk9
theorem r_zald {a n i : Nat} {f : Nat → Int32} (C : ww_C X cc n0 own Ts rm) (hd : decode cc pc = .ok (.baload, 1)) (q0 : Nat) (ha : ws[q0]? = some (a, .inl (X.1.2.2.1, n, .inl f))) (hi : i < n) (hn : n < 2147483648) (k : RW X kc ks (pc + 1) lv (.int (f i) :: st) ws) : RW X kc ks pc lv (.int (nI i) :: .ref a :: st) ws := by
  obtain ⟨g, p, l, e, R, s, m, args, below, meth, c, A, H0, nL, Q⟩ := X
  obtain ⟨hx, hb, hml, rfl, hown, hts, hK, hA, hlocks, rfl⟩ := C
  intro H locs ls hP hD hS hl
  have hk9 := k H locs ls hP hD hS hl
  have e9 : (nI i).toNatClampNeg = i := nI_clamp (by omega)
  refine va_zald hx hb hK hP q0 1 ha rfl (vp_in_nI hi hn) hd ?_
  rw [e9]
  exact hk9
theorem r_iast {a n i : Nat} {f : Nat → Int32} {x : Int32} (C : ww_C X cc n0 own Ts rm) (hd : decode cc pc = .ok (.iastore, 1)) (q0 : Nat) (ha : ws[q0]? = some (a, .inl (X.1.2.1, n, .inl f))) (hi : i < n) (hn : n < 2147483648) (hws : ws.set q0 (a, .inl (X.1.2.1, n, .inl (upd f i (x)))) = ws') (k : RW X kc ks (pc + 1) lv st ws') : RW X kc ks pc lv (.int x :: .int (nI i) :: .ref a :: st) ws := by
  obtain ⟨g, p, l, e, R, s, m, args, below, meth, c, A, H0, nL, Q⟩ := X
  obtain ⟨hx, hb, hml, rfl, hown, hts, hK, hA, hlocks, rfl⟩ := C
  intro H locs ls hP hD hS hl
  subst hws
  have e9 : (nI i).toNatClampNeg = i := nI_clamp (by omega)
  refine va_iast hx hb hK hP hD hS q0 0 ha rfl (vp_in_nI hi hn) hd (fun H1 locs1 hP1 hD1 hS1 => ?_)
  rw [e9] at hP1 hD1
  exact k H1 locs1 ls hP1 hD1 hS1 hl
theorem r_zast {a n i : Nat} {f : Nat → Int32} {x : Int32} (C : ww_C X cc n0 own Ts rm) (hd : decode cc pc = .ok (.bastore, 1)) (q0 : Nat) (ha : ws[q0]? = some (a, .inl (X.1.2.2.1, n, .inl f))) (hi : i < n) (hn : n < 2147483648) (hws : ws.set q0 (a, .inl (X.1.2.2.1, n, .inl (upd f i (vp_nar .boolean x)))) = ws') (k : RW X kc ks (pc + 1) lv st ws') : RW X kc ks pc lv (.int x :: .int (nI i) :: .ref a :: st) ws := by
  obtain ⟨g, p, l, e, R, s, m, args, below, meth, c, A, H0, nL, Q⟩ := X
  obtain ⟨hx, hb, hml, rfl, hown, hts, hK, hA, hlocks, rfl⟩ := C
  intro H locs ls hP hD hS hl
  subst hws
  have e9 : (nI i).toNatClampNeg = i := nI_clamp (by omega)
  refine va_zast hx hb hK hP hD hS q0 1 ha rfl (vp_in_nI hi hn) hd (fun H1 locs1 hP1 hD1 hS1 => ?_)
  rw [e9] at hP1 hD1
  exact k H1 locs1 ls hP1 hD1 hS1 hl
theorem r_alen {a : Nat} {x : vp_A} {v : Int32} (C : ww_C X cc n0 own Ts rm) (hd : decode cc pc = .ok (.arraylength, 1)) (q0 t0 : Nat) {cA : ClassId} (ha : ws[q0]? = some (a, .inl (cA, x))) {ty : FieldType} (ht : (ww_t X.1)[t0]? = some (cA, ty)) (hv : Int32.ofNat x.1 = v) (k : RW X kc ks (pc + 1) lv (.int v :: st) ws) : RW X kc ks pc lv (.ref a :: st) ws := by
  obtain ⟨g, p, l, e, R, s, m, args, below, meth, c, A, H0, nL, Q⟩ := X
  obtain ⟨hx, hb, hml, rfl, hown, hts, hK, hA, hlocks, rfl⟩ := C
  intro H locs ls hP hD hS hl
  exact va_alen hx hb hK hP q0 t0 ha ht hv hd (k H locs ls hP hD hS hl)
theorem r_lald {a n i : Nat} {f : Nat → Int64} (C : ww_C X cc n0 own Ts rm) (hd : decode cc pc = .ok (.laload, 1)) (q0 : Nat) (ha : ws[q0]? = some (a, .inl (X.1.2.2.2.2, n, .inr (.inl f)))) (hi : i < n) (hn : n < 2147483648) (k : RW X kc ks (pc + 1) lv (.long (f i) :: st) ws) : RW X kc ks pc lv (.int (nI i) :: .ref a :: st) ws := by
  obtain ⟨g, p, l, e, R, s, m, args, below, meth, c, A, H0, nL, Q⟩ := X
  obtain ⟨hx, hb, hml, rfl, hown, hts, hK, hA, hlocks, rfl⟩ := C
  intro H locs ls hP hD hS hl
  have hk9 := k H locs ls hP hD hS hl
  have e9 : (nI i).toNatClampNeg = i := nI_clamp (by omega)
  refine va_lald hx hb hK hP q0 3 ha rfl (vp_in_nI hi hn) hd ?_
  rw [e9]
  exact hk9
theorem r_last {a n i : Nat} {f : Nat → Int64} {x : Int64} (C : ww_C X cc n0 own Ts rm) (hd : decode cc pc = .ok (.lastore, 1)) (q0 : Nat) (ha : ws[q0]? = some (a, .inl (X.1.2.2.2.2, n, .inr (.inl f)))) (hi : i < n) (hn : n < 2147483648) (hws : ws.set q0 (a, .inl (X.1.2.2.2.2, n, .inr (.inl (vp_updL f i x)))) = ws') (k : RW X kc ks (pc + 1) lv st ws') : RW X kc ks pc lv (.long x :: .int (nI i) :: .ref a :: st) ws := by
  obtain ⟨g, p, l, e, R, s, m, args, below, meth, c, A, H0, nL, Q⟩ := X
  obtain ⟨hx, hb, hml, rfl, hown, hts, hK, hA, hlocks, rfl⟩ := C
  intro H locs ls hP hD hS hl
  subst hws
  have e9 : (nI i).toNatClampNeg = i := nI_clamp (by omega)
  refine va_last hx hb hK hP hD hS q0 3 ha rfl (vp_in_nI hi hn) hd (fun H1 locs1 hP1 hD1 hS1 => ?_)
  rw [e9] at hP1 hD1
  exact k H1 locs1 ls hP1 hD1 hS1 hl
end
