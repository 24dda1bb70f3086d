/-! throws that leave a method, and their catching; helpers with tables -/
def vy_ok : Cond → Bool
  | .castable _ _ => true
  | .declares _ => true
  | w => w.onTables && w.keeps
theorem vy_warm {w : Cond} (h : vy_ok w = true) {s U : State} (hW : s.WarmedH U.vm) (hz : va_Nw w s) : va_Nw w U := by
  cases w <;> first
    | exact va_Nw.warmC hW hz
    | exact va_Nw.warmD hW hz
    | exact word_at hW (Or.inl h) hz
abbrev vy_EA : String := "java/lang/ArrayIndexOutOfBoundsException"
abbrev vy_EI : String := "java/lang/IllegalArgumentException"
abbrev vy_NA : List String := ["java/lang/IndexOutOfBoundsException", "java/lang/RuntimeException", "java/lang/Exception"]
abbrev vy_NI : List String := ["java/lang/RuntimeException", "java/lang/Exception"]
def vy_LA : List Cond := Cond.classLink RX10 65 vy_EA :: Cond.initialized vy_EA :: vx_atS RX10 69 vy_EA vy_NA
def vy_LI : List Cond := Cond.classLink RX10 72 vy_EI :: Cond.initialized vy_EI :: vx_atS RX10 76 vy_EI vy_NI
def vy_TL : List Cond := vy_LA ++ (vy_LI ++ [Cond.classLink RL 13 vy_EA, Cond.classLink RL 15 vy_EI, Cond.castable vy_EA vy_EA, Cond.castable vy_EI vy_EI])
theorem vy_TL_ok : ∀ w ∈ vy_TL, vy_ok w = true := by decide +kernel
theorem vy_TL_on : ∀ w ∈ vy_TL, w.onTables = true := by decide +kernel
abbrev vy_S : Type := Nat × Nat × Nat × Nat
def vy_F (sa : vy_S) (A : Nat → Prop) (U : State) : Prop := (∀ w ∈ vy_TL, va_Nw w U) ∧ vx_Zq Bundle.tN "UNASSIGNED_STACK" Bundle.steD A U U.heap ∧ vx_Zq Bundle.tN "SUPPRESSED_SENTINEL" Bundle.listD A U U.heap ∧
  vk_R RX10 67 "there is no such cell" sa.1 U ∧ vk_R RX10 74 "there is no such theme" sa.2.1 U ∧ vk_R RX10 77 "easy is 0, 1 or 2" sa.2.2.1 U ∧ vk_R RX10 79 "least is from 0 to most" sa.2.2.2 U ∧ va_Nc vy_EI vy_EA U
theorem vy_F.call {sa : vy_S} {A : Nat → Prop} {U : State} (h : vy_F sa A U) (a : Array Value) (g0 : JFrame) (mk : MethodId) : vy_F sa A (U.calling g0 mk a) :=
  ⟨fun w hw => va_Nw.same (vy_TL_on w hw) (u := U) (U := U.calling g0 mk a) rfl (h.1 w hw), vx_Zq.moved (u := U) (U := U.calling g0 mk a) (Vm.Alike.refl U.vm) h.2.1, vx_Zq.moved (u := U) (U := U.calling g0 mk a) (Vm.Alike.refl U.vm) h.2.2.1,
    vk_R.same (u := U) (U := U.calling g0 mk a) rfl h.2.2.2.1, vk_R.same (u := U) (U := U.calling g0 mk a) rfl h.2.2.2.2.1, vk_R.same (u := U) (U := U.calling g0 mk a) rfl h.2.2.2.2.2.1, vk_R.same (u := U) (U := U.calling g0 mk a) rfl h.2.2.2.2.2.2.1, va_Nc.moved (u := U) (U := U.calling g0 mk a) (Vm.Alike.refl U.vm) h.2.2.2.2.2.2.2⟩
theorem vy_F.down {sa : vy_S} {A B : Nat → Prop} {s U : State} {H : Heap} {locs : List Loc} (h : vy_F sa A s) (hU : U.heap = H) (hW : s.WarmedH U.vm) (hS : va_S A s.heap H locs) (hB : ∀ q, B q → A q) : vy_F sa B U := by
  obtain ⟨h1, h2, h3, h4, h5, h6, h7, h8⟩ := h
  refine ⟨fun w hw => vy_warm (vy_TL_ok w hw) hW (h1 w hw), ?_, ?_, vk_R.warm hW h4, vk_R.warm hW h5, vk_R.warm hW h6, vk_R.warm hW h7, va_Nc.moved hW.alike h8⟩
  · rw [hU]; exact vx_Zq.narrow (vx_Zq.moved hW.alike (h2.kept hS.2.1)) hB
  · rw [hU]; exact vx_Zq.narrow (vx_Zq.moved hW.alike (h3.kept hS.2.1)) hB
/-- a method that throws: from any heap that holds the picture wc it throws E, and the picture is as it was -/
def CTX (g : ww_G) (l : Launch) (sa : vy_S) (y : MethodName) (wd : List Cond) (rm : Room) (av : List Value) (wc : va_W) (E : String) : Prop :=
  ∀ sz : Nat, vx_Met l y wd rm (va_Pc av (fun U => vy_F sa (va_A wc sz) U ∧ U.heap.size = sz ∧ va_P g.1 vwCl wc U.heap ∧ va_K g.1 vwCl (ww_t g) U ∧ va_D (fun _ => True) wc))
    (fun _ _ _ _ => False) (fun E9 st t => E9 = E ∧ va_P g.1 vwCl wc t.heap ∧ va_F (va_A wc sz) st t) rm.cells rm.slots (va_A wc sz)
def vy_J (X : ww_X) (sa : vy_S) (wc : va_W) (E : String) : Prop := match X with
  | (g, _, l, _, R, s, _, args, below, _, c, A, H0, _, Q) => l.stackTraces = false ∧ vy_F sa A s ∧ H0 = s.heap ∧ (∀ x ∈ c.exceptionTable.toList, False) ∧ Q = vx_MQ below (fun _ _ _ _ => False) (fun E9 st t => E9 = E ∧ va_P g.1 vwCl wc t.heap ∧ va_F A st t) args s R.cells R.slots A
theorem CTX.of {g : ww_G} {l : Launch} {sa : vy_S} {y : MethodName} {wd wd' : List Cond} {rm : Room} {av : List Value} {wc : va_W} {E : String} (cc : ByteArray) (n0 : Nat) (ret : Option FieldType) (own : String) (hl9 : l.stackTraces = false)
    (hy : plainName y.cls = true) (hw : wd = Cond.code y cc n0 ret :: wd') (hown0 : y.cls = own) (hav : (lg_sl av).length ≤ n0)
    (body : ∀ X : ww_X, X.1 = g → X.2.2.1 = l → ww_C X cc n0 own wd rm → vy_J X sa wc E → RW X 0 0 0 (lv_args 0 av) [] wc) :
    CTX g l sa y wd rm av wc E := by
  intro sz
  refine vx_ofW (cc := cc) (maxL := n0) (ret := ret) hy hw ?_
  intro p e s m args below meth c s₁ B hml hEx hv
  obtain ⟨rfl, hF, hsz, hP, hK, hD0⟩ := hv
  have hts := atoms_spec (ws := wd) B.pre
  have hown : s.vm.findClass own = some m.cls := by rw [← hown0]; exact findClass_of_methodNamed B.named
  have hlocks := B.notSynchronized
  subst hsz
  have hD := hD0.self (sz := s.heap.size)
  have hl := lv_entry av (n := n0) hav
  rw [lg_entry_eq]
  have hA : ∀ q : Nat, s.heap.size ≤ q → va_A wc s.heap.size q := fun q h => Or.inr h
  exact body (g, p, l, e, rm, s, m, av.toArray, below, meth, c, va_A wc s.heap.size, s.heap, n0, _) rfl rfl ⟨B.exec, B.bytes, hml, rfl, hown, hts, hK, hA, hlocks, rfl⟩ ⟨hl9, hF, rfl, hEx, rfl⟩ s.heap [] _ hP hD va_S.rf hl
section
variable {X : ww_X} {cc : ByteArray} {n0 : Nat} {Ts : List Cond} {rm : Room} {kc ks pc : Nat} {lv : List (Nat × Value)} {st : List Value} {ws wc : va_W} {sa : vy_S} {E : String}
theorem r_throw {names : List String} {ik is ic sk : Nat} {text : String} (C : ww_C X cc n0 RX10 Ts rm) (J : vy_J X sa wc E) (hE : Bundle.fit E = true) (hn : ∀ n ∈ names, Bundle.fit n = true)
    (hin : ∀ w ∈ Cond.classLink RX10 ik E :: Cond.initialized E :: vx_atS RX10 ic E names, w ∈ vy_TL) (hstr : ∀ (A : Nat → Prop) (U : State), vy_F sa A U → vk_R RX10 is text sk U)
    (d0 : decode cc pc = .ok (.new ik, 3)) (d3 : decode cc (pc + 3) = .ok (.dup, 1)) (d4 : decode cc (pc + 4) = .ok (.ldc is, 2)) (d6 : decode cc (pc + 6) = .ok (.invokespecial ic, 3)) (d9 : decode cc (pc + 9) = .ok (.athrow, 1))
    (hR : names.length + 3 < rm.frames ∧ 13 * (names.length + 1) + 43 ≤ rm.locals ∧ 1 ≤ rm.cells ∧ 6 ≤ rm.slots) : RW X 0 0 pc lv [] wc := by
  obtain ⟨g, p, l, e, R, s, m, args, below, meth, c, A, H0, nL, Q⟩ := X
  obtain ⟨hx, hb, hml, rfl, hown, hts, hK, hA, hlocks, rfl⟩ := C
  obtain ⟨hl9, hF, rfl, hEx, rfl⟩ := J
  intro H locs ls hP hD hS hl
  have hu : ∀ w ∈ Cond.classLink RX10 ik E :: Cond.initialized E :: vx_atS RX10 ic E names, w.before args s = true := fun w hw => va_Nw.use (vy_TL_on w (hin w hw)) (hF.1 w (hin w hw))
  exact vx_throwS hx hb hl9 hown hE hn (hu _ List.mem_cons_self) (hu _ (List.mem_cons_of_mem _ List.mem_cons_self)) (hstr A s hF) (fun w hw => hu w (List.mem_cons_of_mem _ (List.mem_cons_of_mem _ hw)))
    (fun w hw => by unfold vx_ot; rw [vy_TL_on w (hin w hw)]; rfl) hF.2.1 hF.2.2.1 hS (hl.1.trans hml.symm) d0 d3 d4 d6 d9 (fun x h => (hEx x h).elim) hR.1 (by have := hR.2.1; simp only [List.map_nil, List.sum_nil]; omega) (by have := hR.2.2.1; omega) (by have := hR.2.2.2; omega) hlocks
    (fun t _ h1 h2 => ⟨rfl, fun k q hq => (hP k q hq).kept (h2 q.1 (hP k q hq).lt), Nat.le_trans hS.1 h1, fun q h3 h4 => (h2 q (Nat.lt_of_lt_of_le h3 hS.1)).trans (hS.2.1 q h3 h4)⟩) hS.2.2 (by have := hR.2.2.1; omega) (by have := hR.2.2.2; omega)
end
/-! the search for a handler -/
def vy_Fi (e : Env) (s : State) (f : JFrame) (a : Addr) (h : Handler) (vm' : Vm) : Prop :=
  ∀ (Q : Handler → Pre) (E : CtlPost) (d : Bool) (acts : List Action), wp (findHandler f a) Q E e d acts s ↔ Q h d acts (s.setVm vm')
section
variable {Q : Handler → Pre} {E : CtlPost} {e : Env} {d : Bool} {acts : List Action} {s : State} {f : JFrame} {a : Addr}
theorem vy_link {x : ExceptionTableEntry} {t : List ExceptionTableEntry} {c : ClassId} {cell : Cell} (hx : covers x f.pc = true) (h0 : x.catchType ≠ 0)
    (hl : s.vm.ClassLinks e.platform f.method.cls x.catchType c) (hcell : s.heap[a]? = some cell) (hobj : ∀ k, cell.vm ≠ .statics k)
    (hk : ∃ k, s.vm.classes[cell.cls]? = some k) (hc : ∃ k, s.vm.classes[c]? = some k) :
    wp (findHandler.go f a (x :: t)) Q E e d acts s ↔ if s.vm.assignable cell.cls c = true then Q (.found x.handlerPc) d acts (s.setVm (s.vm.noted f.method.cls x.catchType (.cls c))) else wp (findHandler.go f a t) Q E e d acts (s.setVm (s.vm.noted f.method.cls x.catchType (.cls c))) := by
  simp only [covers] at hx
  obtain ⟨ha, ht⟩ := (resolveClass_links e.toSetting hl).op (op := VmOp.resolveClass f.method.cls x.catchType) rfl
  have hal : s.vm.Alike (s.vm.noted f.method.cls x.catchType (.cls c)) := (Vm.Alike.refl s.vm).noted _ _ _
  obtain ⟨k1, hk1⟩ := hk
  obtain ⟨k2, hk2⟩ := hc
  obtain ⟨k1', hk1', -⟩ := hal.2.2 _ _ hk1
  obtain ⟨k2', hk2', -⟩ := hal.2.2 _ _ hk2
  have e1 : (s.vm.noted f.method.cls x.catchType (.cls c)).assignable cell.cls c = s.vm.assignable cell.cls c := hal.assignable ..
  cases hfit : s.vm.assignable cell.cls c <;> rw [hfit] at e1 <;> simp [findHandler.go, hx, h0, ha, ht, hcell, hobj, hk1', hk2', e1, VmOp.dirties, VmOp.acts]
end
theorem vy_go {e : Env} {s₀ : State} {f : JFrame} {a : Addr} {cell : Cell} (hobj : ∀ k, cell.vm ≠ .statics k) (hk0 : ∃ k, s₀.vm.classes[cell.cls]? = some k)
    (x : ExceptionTableEntry) (rest : List ExceptionTableEntry) (hx : covers x f.pc = true) (h0 : x.catchType ≠ 0) {cT : ClassId} (hl : s₀.vm.ClassLinks e.platform f.method.cls x.catchType cT) (hfit : s₀.vm.assignable cell.cls cT = true) :
    ∀ (pre : List ExceptionTableEntry) (S : State), s₀.WarmedH S.vm → S.heap[a]? = some cell → (∀ y ∈ pre, covers y f.pc = false ∨ (y.catchType ≠ 0 ∧ ∃ c, s₀.vm.ClassLinks e.platform f.method.cls y.catchType c ∧ s₀.vm.assignable cell.cls c = false)) →
      ∃ vm', s₀.WarmedH vm' ∧ ∀ (Q : Handler → Pre) (E : CtlPost) (d : Bool) (acts : List Action), wp (findHandler.go f a (pre ++ x :: rest)) Q E e d acts S ↔ Q (.found x.handlerPc) d acts (S.setVm vm') := by
  obtain ⟨k0, hk0⟩ := hk0
  intro pre
  induction pre with
  | nil =>
    intro S hW hcell _
    obtain ⟨k0', hk0', -⟩ := hW.alike.2.2 _ _ hk0
    obtain ⟨dk, _, _, kt, hd, _, _, _, _, hkt, _, hopen⟩ := hl.here
    obtain ⟨kt', hkt', -⟩ := hW.alike.2.2 _ _ hkt
    refine ⟨_, hW.noted hd hopen (State.rightAt_cls hl), fun Q E d acts => ?_⟩
    rw [List.nil_append, vy_link hx h0 (hW.classLinks hl) hcell hobj ⟨k0', hk0'⟩ ⟨kt', hkt'⟩, if_pos (by rw [hW.alike.assignable]; exact hfit)]
  | cons y ys ih =>
    intro S hW hcell hpass
    obtain ⟨k0', hk0', -⟩ := hW.alike.2.2 _ _ hk0
    have hrest := fun z (hz : z ∈ ys) => hpass z (List.mem_cons_of_mem _ hz)
    by_cases hcov : covers y f.pc = true
    · rcases hpass y List.mem_cons_self with h | ⟨h9, c, hl9, hno⟩
      · rw [h] at hcov; cases hcov
      · obtain ⟨dk, _, _, kt, hd, _, _, _, _, hkt, _, hopen⟩ := hl9.here
        obtain ⟨kt', hkt', -⟩ := hW.alike.2.2 _ _ hkt
        obtain ⟨vm', hW', hq⟩ := ih (S.setVm (S.vm.noted f.method.cls y.catchType (.cls c))) (hW.noted hd hopen (State.rightAt_cls hl9)) hcell hrest
        refine ⟨vm', hW', fun Q E d acts => ?_⟩
        rw [List.cons_append, vy_link hcov h9 (hW.classLinks hl9) hcell hobj ⟨k0', hk0'⟩ ⟨kt', hkt'⟩, if_neg (by rw [hW.alike.assignable, hno]; decide)]
        exact hq Q E d acts
    · obtain ⟨vm', hW', hq⟩ := ih S hW hcell hrest
      refine ⟨vm', hW', fun Q E d acts => ?_⟩
      rw [List.cons_append, W.findHandler_go_skip (by simpa using hcov)]
      exact hq Q E d acts
theorem vy_caught {tb : Tables} {e : Env} {s target : State} {g : JFrame} {c : Code} {below : List Frame} {a : Addr} (h : At s g.method c below) {pc : Nat} {vm' : Vm}
    (hfind : vy_Fi e ((s.setTop g).pushFrame (.throwing a)) g a (.found pc) vm') (hrest : Steps tb e below ((s.setVm vm').setTop { g with pc := pc, stack := [.ref a] }) target) :
    Steps tb e below ((s.setTop g).pushFrame (.throwing a)) target := by
  obtain ⟨hgo, hw⟩ := h.throwing a
  refine Steps.head hgo hw ?_
  have hst : (stepThrowing e ((s.setTop g).pushFrame (.throwing a)) a (.java g :: s.frames.tail)).Is ((((s.setTop g).pushFrame (.throwing a)).setVm vm').setFrames (.java { g with pc := pc, stack := [.ref a] } :: s.frames.tail)) [] := by
    simp only [stepThrowing, searchFrame, vmDo]
    generalize hr : Sem.go _ e false [] ((s.setTop g).pushFrame (.throwing a)) = res
    obtain ⟨as, rfl, ha⟩ := Sem.eq_ok_of hr (a := Handler.found pc) (s' := ((s.setTop g).pushFrame (.throwing a)).setVm vm') (acts' := []) (by simp [hfind _ _ _ _])
    exact ⟨rfl, ha⟩
  rw [stepThread_throwing (frames_entered h.top _), hst.1]
  obtain ⟨g₀, hg⟩ := Option.isSome_iff_exists.mp h.top
  obtain ⟨r, hr⟩ := State.topJava?_eq_some.mp hg
  have hr' : (s.setVm vm').frames = .java g₀ :: r := hr
  have sfs : ∀ (u : State) (F G : List Frame), ((u.setFrames F).setVm vm').setFrames G = (u.setVm vm').setFrames G := fun u F G => by
    have h1 : (u.setFrames F).setVm vm' = (u.setVm vm').setFrames F := rfl
    rw [h1, State.setFrames_setFrames]
  rw [State.setTop_of_frames _ hr'] at hrest
  rw [hr, List.tail_cons, State.pushFrame, sfs, State.setTop_of_frames _ hr, sfs]
  exact hrest
section
variable {p : Program} {l : Launch} {e : Env} {R : Room} {s : State} {m : MethodId} {args : Array Value} {below : List Frame} {meth : Method} {c : Code} {H : Heap} {locs : List Loc} {cells slots : Nat} {Q : State → Prop} {ls : Array Slot} {rest : List Value} {pc : Nat}
theorem vy_catch {own name : String} {E : String} {ce : Cell} {q : Addr} (hown : s.vm.findClass own = some m.cls) (pre : List ExceptionTableEntry) (x : ExceptionTableEntry) (suf : List ExceptionTableEntry) (hsplit : c.exceptionTable.toList = pre ++ x :: suf)
    (hpass : ∀ z ∈ pre, covers z pc = false ∨ (z.catchType ≠ 0 ∧ ∃ nm : String, (Cond.classLink own z.catchType nm).before args s = true ∧ va_Nc E nm s)) (hx : covers x pc = true) (h0 : x.catchType ≠ 0)
    (hlink : (Cond.classLink own x.catchType name).before args s = true) (hcast : (Cond.castable E name).before args s = true) (hcell : H[q]? = some ce) (hv : ce.vm = .none) (hcl : s.vm.findClass E = some ce.cls)
    (kk : W p l e R s m args below meth c H locs cells slots Q (F0 m x.handlerPc ls [.ref q])) : vx_W p l e R s m args below meth c H locs cells slots Q (F0 m pc ls rest) q := by
  intro T hT X
  have hpl : e.platform.magicAccessors = ({} : Platform).magicAccessors := by rw [X.admits.platform]
  obtain ⟨c3, c4, hc3, hc4, hasg⟩ := Cond.castable_spec hcast
  cases Option.some.inj (hc3.symm.trans hcl)
  obtain ⟨c5, hc5, hcl5⟩ := Cond.classLink_spec hown hlink e.platform hpl
  cases Option.some.inj (hc4.symm.trans hc5)
  have hk0 : ∃ k, s.vm.classes[ce.cls]? = some k := by obtain ⟨k9, h9, -⟩ := Vm.findClass_spec hcl; exact ⟨k9, h9⟩
  have hcT : (((T.setTop (F0 m pc ls rest)).pushFrame (.throwing q))).heap[q]? = some ce := by show T.heap[q]? = some ce; rw [hT]; exact hcell
  obtain ⟨vm', hW', hq⟩ := vy_go (e := e) (s₀ := s) (f := F0 m pc ls rest) (a := q) (cell := ce) (fun k => VmData.ne_statics_of (by rw [hv]; rfl) k) hk0 x suf hx h0 hcl5 hasg pre ((T.setTop (F0 m pc ls rest)).pushFrame (.throwing q)) X.warmed hcT
    (fun z hz => by
      rcases hpass z hz with h | ⟨hz0, nm, hl1, hn1⟩
      · exact Or.inl h
      · obtain ⟨c6, hc6, hcl6⟩ := Cond.classLink_spec hown hl1 e.platform hpl
        obtain ⟨a8, b8, h1, h2, h3⟩ := hn1
        cases Option.some.inj (h1.symm.trans hcl)
        cases Option.some.inj (h2.symm.trans hc6)
        exact Or.inr ⟨hz0, _, hcl6, h3⟩)
  have hfi : vy_Fi e ((T.setTop (F0 m pc ls rest)).pushFrame (.throwing q)) (F0 m pc ls rest) q (.found x.handlerPc) vm' := fun Q9 E9 d9 acts9 => by
    rw [W.findHandler_eq (meth := meth) (code := c) X.method' X.code, hsplit]
    exact hq Q9 E9 d9 acts9
  obtain ⟨t, a1, b1⟩ := kk (T.setVm vm') hT (X.noted hW')
  exact ⟨t, vy_caught (g := F0 m pc ls rest) X.here hfi a1, b1⟩
end
/-! methods with a table, and the call of one that throws -/
def vy_K (X : ww_X) (sa : vy_S) (hh : List (Nat × Nat × Nat × Nat)) : Prop := match X with
  | (_, _, _, _, _, s, _, _, _, _, c, A, H0, _, _) => vy_F sa A s ∧ H0 = s.heap ∧ c.exceptionTable.toList = tableOf hh
def vy_K0 (X : ww_X) (sa : vy_S) : Prop := match X with
  | (_, _, _, _, _, s, _, _, _, _, _, A, H0, _, _) => vy_F sa A s ∧ H0 = s.heap
def CTW (g : ww_G) (l : Launch) (sa : vy_S) (y : MethodName) (wd : List Cond) (rm : Room) (av : List Value) (wc : va_W) {S : Type} (post : Option Value → S → Prop) (w1 : S → va_W) : Prop :=
  ∀ sz : Nat, Met l y wd rm (va_Pc av (fun U => vy_F sa (va_A wc sz) U ∧ U.heap.size = sz ∧ va_P g.1 vwCl wc U.heap ∧ va_K g.1 vwCl (ww_t g) U ∧ va_D (fun _ => True) wc))
    (fun _ st oc t => (∃ (v : Option Value) (u : S), oc = .returned v ∧ post v u ∧ va_P g.1 vwCl (w1 u) t.heap ∧ va_D (va_A wc sz) (w1 u)) ∧ va_F (va_A wc sz) st t) rm.cells rm.slots (va_A wc sz)
theorem CTW.of {g : ww_G} {l : Launch} {sa : vy_S} {y : MethodName} {wd wd' : List Cond} {rm : Room} {av : List Value} {wc : va_W} {S : Type} {post : Option Value → S → Prop} {w1 : S → va_W} (cc : ByteArray) (n0 : Nat) (ret : Option FieldType) (own : String) (hh : List (Nat × Nat × Nat × Nat))
    (hy : plainName y.cls = true) (hw : wd = Cond.codeWith y cc n0 ret hh :: wd') (hown0 : y.cls = own) (hav : (lg_sl av).length ≤ n0)
    (body : ∀ X : ww_X, X.1 = g → X.2.2.1 = l → ww_C X cc n0 own wd rm → vy_K X sa hh → (∀ (pc : Nat) (lv : List (Nat × Value)) (v : Option Value) (u : S), post v u → ww_ret cc pc ret v → RW X rm.cells rm.slots pc lv v.toList (w1 u)) → RW X 0 0 0 (lv_args 0 av) [] wc) :
    CTW g l sa y wd rm av wc post w1 := by
  intro sz
  refine va_MetW (hh := hh) (cc := cc) (maxL := n0) (ret := ret) hy hw ?_
  intro p e s m args below meth c s₁ B hml hv
  obtain ⟨rfl, hF, hsz, hP, hK, hD0⟩ := hv
  have hts := atoms_spec (ws := wd) B.pre
  have hown : s.vm.findClass own = some m.cls := by rw [← hown0]; exact findClass_of_methodNamed B.named
  have hlocks := B.notSynchronized
  have htab : c.exceptionTable.toList = tableOf hh := vx_table (x := y) B (hts _ (by rw [hw]; exact List.mem_cons_self))
  subst hsz
  have hD := hD0.self (sz := s.heap.size)
  have hl := lv_entry av (n := n0) hav
  rw [lg_entry_eq]
  generalize hAe : va_A wc s.heap.size = A at hD hF ⊢
  have hA : ∀ q : Nat, s.heap.size ≤ q → A q := fun q h => by rw [← hAe]; exact Or.inr h
  refine body (g, p, l, e, rm, s, m, av.toArray, below, meth, c, A, s.heap, n0, _) rfl rfl ⟨B.exec, B.bytes, hml, rfl, hown, hts, hK, hA, hlocks, rfl⟩ ⟨hF, rfl, htab⟩ ?_ s.heap [] _ hP hD va_S.rf hl
  intro pc lv v u hpost hret H locs ls hP1 hD1 hS1 hl1
  rcases hret with ⟨rfl, hr0, hd⟩ | ⟨x, rfl, hd, hr0⟩
  · exact W.vret B.exec B.bytes (B.returns.trans hr0) (fun t ht hW => ⟨⟨none, u, rfl, hpost, by rw [ht]; exact hP1, hD1⟩, hS1.F ht⟩) hS1.2.2 hd
  · rcases hr0 with hr0 | ⟨hr0, hx⟩
    · exact W.iret B.exec B.bytes (B.returns.trans hr0) (fun t ht hW => ⟨⟨_, u, rfl, hpost, by rw [ht]; exact hP1, hD1⟩, hS1.F ht⟩) hS1.2.2 hd
    · exact W.zret B.exec B.bytes (B.returns.trans hr0) (by rcases hx with rfl | rfl <;> rfl) (fun t ht hW => ⟨⟨_, u, rfl, hpost, by rw [ht]; exact hP1, hD1⟩, hS1.F ht⟩) hS1.2.2 hd
theorem vy_pre {g : ww_G} {s : State} {H : Heap} {A : Nat → Prop} {av : List Value} {wc : va_W} {sa : vy_S} {locs : List Loc} (hF : vy_F sa A s) (hS : va_S A s.heap H locs) (hFc : ∀ q, va_A wc H.size q → A q) (hP : va_P g.1 vwCl wc H) (hK : va_K g.1 vwCl (ww_t g) s) (hD : va_D A wc) : FrameBlind (va_Pc av (fun U => vy_F sa (va_A wc H.size) U ∧ U.heap.size = H.size ∧ va_P g.1 vwCl wc U.heap ∧ va_K g.1 vwCl (ww_t g) U ∧ va_D (fun _ => True) wc)) ∧ ∀ U : State, U.heap = H → s.WarmedH U.vm → va_Pc av (fun U => vy_F sa (va_A wc H.size) U ∧ U.heap.size = H.size ∧ va_P g.1 vwCl wc U.heap ∧ va_K g.1 vwCl (ww_t g) U ∧ va_D (fun _ => True) wc) av.toArray U :=
  ⟨fun a U g0 mk q => by obtain ⟨q0, qE, q1, qP, qK, qD⟩ := q; exact ⟨q0, qE.call a g0 mk, q1, qP, va_K.moved (u := U) (U := U.calling g0 mk a) (Vm.Alike.refl U.vm) qK, qD⟩, fun U hU hW => ⟨rfl, hF.down hU hW hS hFc, by rw [hU], by rw [hU]; exact hP, va_K.moved hW.alike hK, hD.weaken (fun _ _ _ _ => trivial)⟩⟩
section
variable {X : ww_X} {cc : ByteArray} {n0 : Nat} {own : String} {Ts : List Cond} {rm : Room} {kc ks pc : Nat} {lv : List (Nat × Value)} {st : List Value} {ws : va_W}
variable {y : MethodName} {wd wd' : List Cond} {rmY : Room} {b : Nat} {As : List Value} {wc : va_W} {S : Type} {post : Option Value → S → Prop} {w1 : S → va_W} {index n maxL : Nat} {bytes : ByteArray} {ret : Option FieldType} {rest : List Value} {ws' : S → va_W} {sa : vy_S} {E : String} {hh : List (Nat × Nat × Nat × Nat)}
theorem vy_same {D : va_G} {H H1 : Heap} {A : Nat → Prop} {is : List Nat} (hP : va_P D vwCl ws H) (hD : va_D A ws) (hC : is.map (fun i => ws[i]?) = wc.map some) (hP1 : va_P D vwCl wc H1) (hk : ∀ q : Nat, q < H.size → ¬ va_A wc H.size q → H1[q]? = H[q]?) : va_P D vwCl ws H1 := by
  intro k q hq
  obtain ⟨qa, qe⟩ := q
  by_cases hin : va_A wc H.size qa
  · rcases hin with ⟨k2, e9, h⟩ | h
    · obtain ⟨i, g1, g2⟩ := ww_pos hC k2 _ h
      have hij := hD.1 k i (qa, qe) (qa, e9) hq g2 rfl
      subst hij
      have e8 : (qa, qe) = (qa, e9) := Option.some.inj (hq.symm.trans g2)
      rw [e8]
      exact hP1 k2 _ h
    · exact absurd (hP k _ hq).lt (by show ¬ qa < H.size; omega)
  · exact (hP k _ hq).kept (hk qa (hP k _ hq).lt hin)
/-- the call of a method that throws E, caught here -/
theorem r_callX {CC : String} {ci N : Nat} {T : u_T} {fs : List Value} (C : ww_C X cc n0 RL Ts rm) (J : vy_K X sa hh) (hd : decode cc pc = .ok (.invokevirtual index, 3)) (hM : CTX X.1 X.2.2.1 sa y wd rmY (.ref b :: As) wc E) (hg : GoodIn Ts (wsV RL index CC y wd)) (hw : wd = Cond.code y bytes maxL ret :: wd')
    (hdesc : y.cls = CC ∧ y.cls ≠ "java/lang/invoke/MethodHandle" ∧ y.cls ≠ "java/lang/invoke/VarHandle" ∧ (parseMethodDescriptor y.desc).map (fun d => d.parameters.length) = some n) (hn : As.length = n) (hR : rmY.frames + 1 ≤ rm.frames ∧ 8 + (maxL + 11) + rmY.locals ≤ rm.locals) (hcs : kc + rmY.cells ≤ rm.cells ∧ ks + rmY.slots ≤ rm.slots)
    (hst : st = As.reverse ++ .ref b :: rest) (hsum : (rest.map fun v => v.category).sum ≤ 8) (q0 : Nat) (hq : wc[q0]? = some (b, .inr (ci, fs))) (hci : vwCl[ci]? = some (CC, T, N)) (is : List Nat) (hnd : va_nd is = true) (hC : is.map (fun i => ws[i]?) = wc.map some)
    (pre : List ExceptionTableEntry) (x : ExceptionTableEntry) (suf : List ExceptionTableEntry) (hsplit : tableOf hh = pre ++ x :: suf) (hpass : ∀ z ∈ pre, covers z pc = false ∨ (z.catchType ≠ 0 ∧ Cond.classLink RL z.catchType vy_EA ∈ vy_TL ∧ E = vy_EI)) (hx : covers x pc = true) (h0 : x.catchType ≠ 0) (hlink : Cond.classLink RL x.catchType E ∈ vy_TL) (hcast : Cond.castable E E ∈ vy_TL)
    (kk : ∀ q : Nat, RW X (kc + rmY.cells) (ks + rmY.slots) x.handlerPc lv [.ref q] ws) : RW X kc ks pc lv st ws := by
  obtain ⟨g, p, l, e, R, s, m, args, below, meth, c, A, H0, nL, Q⟩ := X
  obtain ⟨hx9, hb, hml, rfl, hown, hts, hK, hA, hlocks, rfl⟩ := C
  obtain ⟨hF, rfl, htab⟩ := J
  intro H locs ls hP hD hS hl
  subst hst
  have hPc := ww_subP (ws := ws) hP hC
  have hDc := ww_subD (ws := ws) hD hnd hC
  have hFc := va_free (wc := wc) hD hS hA is hC
  obtain ⟨hbl, hpre⟩ := vy_pre (av := .ref b :: As) hF hS hFc hPc hK hDc
  intro T hT X9
  rcases vx_runV (As := As) (rest := rest) (g := F0 m pc ls (As.reverse ++ .ref b :: rest)) ⟨hx9, hb, hml, hown, hts⟩ (hM H.size) (cwV n hts hg hw rfl rfl hdesc hR) ⟨hbl, va_recv hK hPc hci hq, hpre⟩ rfl hn hl.1 rfl (lv_room hsum) hd hcs T hT X9 with ⟨v, st₀, t, T', L, h8, X', hL, e1, e2, hfalse, st⟩ | ⟨q, st₀, t, T', L, E9, ce, h8, X', hL, e1, e2, ⟨rfl, hP1, hz, hk⟩, hce, hcv, hcl, st⟩
  · exact hfalse.elim
  · rw [h8] at hz hk
    have hP2 : va_P g.1 vwCl ws T'.heap := vy_same hP hD hC (by rw [e1]; exact hP1) (fun q h1 h2 => by rw [e1]; exact hk q h1 h2)
    have hS2 : va_S A s.heap T'.heap (locs ++ L) := ⟨Nat.le_trans hS.1 (by rw [e1]; exact hz), fun q h1 h2 => by rw [e1, hk q (Nat.lt_of_lt_of_le h1 hS.1) (fun z => h2 (hFc q z))]; exact hS.2.1 q h1 h2, fun q hq => by
      rcases List.mem_append.mp hq with h | h
      · exact hS.2.2 q h
      · exact hFc _ (hL q h)⟩
    obtain ⟨t2, a1, b1⟩ := vy_catch (E := E9) (name := E9) (rest := rest) (pc := pc) (ls := ls) hown pre x suf (htab.trans hsplit) (fun z hz => by
      rcases hpass z hz with h | ⟨h1, h2, h3⟩
      · exact Or.inl h
      · exact Or.inr ⟨h1, vy_EA, va_Nw.use (vy_TL_on _ h2) (hF.1 _ h2), by rw [h3]; exact hF.2.2.2.2.2.2.2⟩) hx h0 (va_Nw.use (vy_TL_on _ hlink) (hF.1 _ hlink)) (va_Nw.use (vy_TL_on _ hcast) (hF.1 _ hcast)) (by rw [e1]; exact hce) hcv hcl (kk q T'.heap (locs ++ L) ls hP2 hD hS2 hl) T' rfl X'
    exact ⟨t2, st.trans a1, b1⟩
/-- the call of a static method with a table; the world's tail pl is left alone -/
theorem r_callSW {wx pl : va_W} (C : ww_C X cc n0 own Ts rm) (hF0 : vy_K0 X sa) (hd : decode cc pc = .ok (.invokestatic index, 3)) (hM : CTW X.1 X.2.2.1 sa y wd rmY As wc post w1) (hg : GoodIn Ts (va_wsS own index y wd)) (hw : wd = Cond.codeWith y bytes maxL ret hh :: wd')
    (hdesc : y.cls ≠ "java/lang/invoke/MethodHandle" ∧ y.cls ≠ "java/lang/invoke/VarHandle" ∧ (parseMethodDescriptor y.desc).map (fun d => d.parameters.length) = some n) (hn : As.length = n) (hR : rmY.frames + 1 ≤ rm.frames ∧ 8 + (maxL + 11) + rmY.locals ≤ rm.locals) (hcs : kc + rmY.cells ≤ rm.cells ∧ ks + rmY.slots ≤ rm.slots)
    (hst : st = As.reverse ++ rest) (hsum : (rest.map fun v => v.category).sum ≤ 8) (is : List Nat) (hnd : va_nd is = true) (hlt : ∀ i ∈ is, i < wx.length) (hC : is.map (fun i => wx[i]?) = wc.map some) (hadr : ∀ u, (w1 u).map Prod.fst = wc.map Prod.fst) (hws : ∀ u, ww_put wx is (w1 u) = ws' u)
    (kk : ∀ (v : Option Value) (u : S), post v u → RW X (kc + rmY.cells) (ks + rmY.slots) (pc + 3) lv (v.toList ++ rest) (ws' u ++ pl)) : RW X kc ks pc lv st (wx ++ pl) := by
  obtain ⟨g, p, l, e, R, s, m, args, below, meth, c, A, H0, nL, Q⟩ := X
  obtain ⟨hx, hb, hml, rfl, hown, hts, hK, hA, hlocks, rfl⟩ := C
  obtain ⟨hF, rfl⟩ := hF0
  intro H locs ls hP hD hS hl
  subst hst
  have hC2 : is.map (fun i => (wx ++ pl)[i]?) = wc.map some := by
    rw [← hC]
    exact List.map_congr_left (fun i hi => List.getElem?_append_left (hlt i hi))
  have hPc := ww_subP (ws := wx ++ pl) hP hC2
  have hDc := ww_subD (ws := wx ++ pl) hD hnd hC2
  have hFc := va_free (wc := wc) hD hS hA is hC2
  obtain ⟨hbl, hpre⟩ := vy_pre (av := As) hF hS hFc hPc hK hDc
  refine ww_callg (vx_runSW (hh := hh) (As := As) (rest := rest) ⟨hx, hb, hml, hown, hts⟩ (hM H.size) (vx_cwSW n hts hg hw rfl rfl hdesc hR) ⟨hbl, hpre⟩ rfl hn hl.1 rfl (lv_room hsum) hd hcs) hS hFc (fun v u H1 locs1 hp hP1 hD1 hk hS1 => ?_)
  obtain ⟨hP2, hD2⟩ := ww_join (wo := w1 u) (wn := []) hP hD is hC2 (hadr u) hk hFc (by rw [List.append_nil]; exact hP1) (by rw [List.append_nil]; exact hD1)
  have hw2 : ww_put (wx ++ pl) is (w1 u) ++ [] = ws' u ++ pl := by
    rw [List.append_nil, ww_put_left _ _ _ _ hlt, hws u]
  rw [hw2] at hP2 hD2
  exact kk v u hp H1 locs1 ls hP2 hD2 hS1 hl
end
