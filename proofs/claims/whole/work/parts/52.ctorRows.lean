/-! constructors: facts beyond the words, rows of allocation -/
def ww_ax (U : State) : Prop := ∃ (cA comp : ClassId) (kA kC : Class) (cd : ClassId), U.vm.findClass "[[I" = some cA ∧ U.vm.findClass "[I" = some comp ∧ U.vm.classes[cA]? = some kA ∧ kA.kind = .array comp (.array .int) ∧ U.vm.classes[comp]? = some kC ∧ kC.kind = .array cd .int
theorem ww_ax.moved {u U : State} (hvm : u.vm.Alike U.vm) (h : ww_ax u) : ww_ax U := by
  obtain ⟨cA, comp, kA, kC, cd, h1, h2, h3, h4, h5, h6⟩ := h
  obtain ⟨k1, hk1, e1⟩ := hvm.2.2 _ _ h3
  obtain ⟨k2, hk2, e2⟩ := hvm.2.2 _ _ h5
  exact ⟨cA, comp, k1, k2, cd, by rw [hvm.findClass]; exact h1, by rw [hvm.findClass]; exact h2, hk1, by rw [e1]; exact h4, hk2, by rw [e2]; exact h6⟩
def ww_E (U : State) : Prop := ww_ax U ∧ va_Nw (.methodLinkNest RX10 37 yX0_init RX10) U ∧ va_Nw (.methodLinkNest RX5 50 yX2_init RX10) U
theorem ww_E.warm {s U : State} (hW : s.WarmedH U.vm) (h : ww_E s) : ww_E U := ⟨h.1.moved hW.alike, va_Nw.warmM hW h.2.1, va_Nw.warmM hW h.2.2⟩
theorem ww_E.same {u U : State} (e : u.vm = U.vm) (h : ww_E u) : ww_E U := ⟨h.1.moved (by rw [e]; exact Vm.Alike.refl _), va_Nw.same rfl e h.2.1, va_Nw.same rfl e h.2.2⟩
def ww_I (X : ww_X) : Prop := match X with
  | (_, _, _, _, _, s, _, _, _, meth, _, _, _, _, _) => meth.name = "<init>" ∧ ww_E s
def CTK (g : ww_G) (l : Launch) (y : MethodName) (wd : List Cond) (rm : Room) (av : List Value) (wc : va_W) {S : Type} (post : Option Value → S → Prop) (w1 : S → va_W) : Prop :=
  ∀ sz : Nat, Met l y wd rm (va_Pc av (fun U => ww_E U ∧ U.heap.size = sz ∧ va_P g.1 vwCl wc U.heap ∧ va_K g.1 vwCl (ww_t g) U ∧ va_D (fun _ => True) wc))
    (fun _ st oc t => (∃ (v : Option Value) (u : S), oc = .returned v ∧ post v u ∧ va_P g.1 vwCl (w1 u) t.heap ∧ va_D (va_A wc sz) (w1 u)) ∧ va_F (va_A wc sz) st t) rm.cells rm.slots (va_A wc sz)
theorem CTK.of {g : ww_G} {l : Launch} {y : MethodName} {wd wd' : List Cond} {rm : Room} {av : List Value} {wc : va_W} {S : Type} {post : Option Value → S → Prop} {w1 : S → va_W} (cc : ByteArray) (n0 : Nat) (ret : Option FieldType) (own : String)
    (hy : plainName y.cls = true) (hnm : y.name = "<init>") (hw : wd = Cond.code y cc n0 ret :: wd') (hown0 : y.cls = own) (hav : (lg_sl av).length ≤ n0)
    (body : ∀ X : ww_X, X.1 = g → X.2.2.1 = l → ww_C X cc n0 own wd rm → ww_I X → (∀ (pc : Nat) (lv : List (Nat × Value)) (v : Option Value) (u : S), post v u → ww_ret cc pc ret v → RW X rm.cells rm.slots pc lv v.toList (w1 u)) → RW X 0 0 0 (lv_args 0 av) [] wc) :
    CTK g l y wd rm av wc post w1 := by
  intro sz
  refine Met.ofW (cc := cc) (maxL := n0) (ret := ret) hy hw ?_
  intro p e s m args below meth c s₁ B hml hv
  obtain ⟨rfl, hE, hsz, hP, hK, hD0⟩ := hv
  have hts := atoms_spec (ws := wd) B.pre
  have hown : s.vm.findClass own = some m.cls := by rw [← hown0]; exact findClass_of_methodNamed B.named
  have hlocks := B.notSynchronized
  have hnam : meth.name = "<init>" := by rw [← hnm]; exact (name_of_methodNamed B.named B.method).1
  subst hsz
  have hD := hD0.self (sz := s.heap.size)
  have hl := lv_entry av (n := n0) hav
  rw [lg_entry_eq]
  generalize hAe : va_A wc s.heap.size = A at hD ⊢
  have hA : ∀ q : Nat, s.heap.size ≤ q → A q := fun q h => by rw [← hAe]; exact Or.inr h
  refine body (g, p, l, e, rm, s, m, av.toArray, below, meth, c, A, s.heap, n0, _) rfl rfl ⟨B.exec, B.bytes, hml, rfl, hown, hts, hK, hA, hlocks, rfl⟩ ⟨hnam, hE⟩ ?_ s.heap [] _ hP hD va_S.rf hl
  intro pc lv v u hpost hret H locs ls hP1 hD1 hS1 hl1
  rcases hret with ⟨rfl, hr0, hd⟩ | ⟨x, rfl, hd, hr0⟩
  · exact W.vret B.exec B.bytes (B.returns.trans hr0) (fun t ht hW => ⟨⟨none, u, rfl, hpost, by rw [ht]; exact hP1, hD1⟩, hS1.F ht⟩) hS1.2.2 hd
  · rcases hr0 with hr0 | ⟨hr0, hx⟩
    · exact W.iret B.exec B.bytes (B.returns.trans hr0) (fun t ht hW => ⟨⟨_, u, rfl, hpost, by rw [ht]; exact hP1, hD1⟩, hS1.F ht⟩) hS1.2.2 hd
    · exact W.zret B.exec B.bytes (B.returns.trans hr0) (by rcases hx with rfl | rfl <;> rfl) (fun t ht hW => ⟨⟨_, u, rfl, hpost, by rw [ht]; exact hP1, hD1⟩, hS1.F ht⟩) hS1.2.2 hd
theorem ww_preK {g : ww_G} {s : State} {H : Heap} {A : Nat → Prop} {av : List Value} {wc : va_W} (hE : ww_E s) (hP : va_P g.1 vwCl wc H) (hK : va_K g.1 vwCl (ww_t g) s) (hD : va_D A wc) : FrameBlind (va_Pc av (fun U => ww_E U ∧ U.heap.size = H.size ∧ va_P g.1 vwCl wc U.heap ∧ va_K g.1 vwCl (ww_t g) U ∧ va_D (fun _ => True) wc)) ∧ ∀ U : State, U.heap = H → s.WarmedH U.vm → va_Pc av (fun U => ww_E U ∧ U.heap.size = H.size ∧ va_P g.1 vwCl wc U.heap ∧ va_K g.1 vwCl (ww_t g) U ∧ va_D (fun _ => True) wc) av.toArray U :=
  ⟨fun a U g0 mk q => by obtain ⟨q0, qE, q1, qP, qK, qD⟩ := q; exact ⟨q0, qE.same (U := U.calling g0 mk a) rfl, q1, qP, va_K.moved (u := U) (U := U.calling g0 mk a) (Vm.Alike.refl U.vm) qK, qD⟩, fun U hU hW => ⟨rfl, hE.warm hW, by rw [hU], by rw [hU]; exact hP, va_K.moved hW.alike hK, hD.weaken (fun _ _ _ _ => trivial)⟩⟩
section
variable {X : ww_X} {cc : ByteArray} {n0 : Nat} {own : String} {Ts : List Cond} {rm : Room} {kc ks pc : Nat} {lv : List (Nat × Value)} {st : List Value} {ws : va_W}
variable {y : MethodName} {wd wd' : List Cond} {rmY : Room} {b : Nat} {As : List Value} {wc : va_W} {S : Type} {post : Option Value → S → Prop} {w1 : S → va_W} {index n maxL : Nat} {bytes : ByteArray} {rest : List Value} {ws' : S → va_W}
theorem ww_plT {a pl b : va_W} : ((a ++ pl) ++ b).Perm ((a ++ b) ++ pl) := by
  rw [List.append_assoc, List.append_assoc]
  exact List.Perm.append_left a List.perm_append_comm
/-- a constructor's call; the world's tail pl is left alone -/
theorem r_callIK {wx pl : va_W} (C : ww_C X cc n0 own Ts rm) (hI : ww_I X) (hd : decode cc pc = .ok (.invokespecial index, 3)) (hM : CTK X.1 X.2.2.1 y wd rmY (.ref b :: As) wc post w1) (hg : GoodIn Ts wd) (hw : wd = Cond.code y bytes maxL none :: wd')
    (hi1 : Cond.initialized y.cls ∈ Ts) (hi2 : Cond.methodLink own index y ∈ Ts) (hi3 : Cond.instanceMethod y ∈ Ts) (hnm : y.name = "<init>")
    (hdesc : y.cls ≠ "java/lang/invoke/MethodHandle" ∧ y.cls ≠ "java/lang/invoke/VarHandle" ∧ (parseMethodDescriptor y.desc).map (fun d => d.parameters.length) = some n) (hn : As.length = n) (hR : rmY.frames + 1 ≤ rm.frames ∧ 8 + (maxL + 11) + rmY.locals ≤ rm.locals) (hcs : kc + rmY.cells ≤ rm.cells ∧ ks + rmY.slots ≤ rm.slots)
    (hst : st = As.reverse ++ .ref b :: rest) (hsum : (rest.map fun v => v.category).sum ≤ 8) (is : List Nat) (hnd : is.Nodup) (hlt : ∀ i ∈ is, i < wx.length) (hC : is.map (fun i => wx[i]?) = wc.map some) (wo wn : S → va_W) (hw1 : ∀ u, w1 u = wo u ++ wn u) (hadr : ∀ u, (wo u).map Prod.fst = wc.map Prod.fst) (hws : ∀ u, ww_put wx is (wo u) ++ wn u = ws' u)
    (kk : ∀ (v : Option Value) (u : S), post v u → RW X (kc + rmY.cells) (ks + rmY.slots) (pc + 3) lv (v.toList ++ rest) (ws' u ++ pl)) : RW X kc ks pc lv st (wx ++ pl) := by
  have hperm : ∀ u, (ww_put wx is (wo u) ++ pl) ++ wn u = (ww_put wx is (wo u) ++ pl) ++ wn u := fun _ => rfl
  obtain ⟨g, p, l, e, R, s, m, args, below, meth, c, A, H0, nL, Q⟩ := X
  obtain ⟨hx, hb, hml, rfl, hown, hts, hK, hA, hlocks, rfl⟩ := C
  intro H locs ls hP hD hS hl
  subst hst
  have hC2 : is.map (fun i => (wx ++ pl)[i]?) = wc.map some := by
    rw [← hC]
    refine List.map_congr_left (fun i hi => ?_)
    rw [List.getElem?_append_left (hlt i hi)]
  have hPc := ww_subP (ws := wx ++ pl) hP hC2
  have hDc := ww_subD2 (ws := wx ++ pl) hD hnd hC2
  have hFc := va_free (wc := wc) hD hS hA is hC2
  obtain ⟨hbl, hpre⟩ := ww_preK (av := .ref b :: As) hI.2 hPc hK hDc
  refine ww_callg (va_runI (As := As) (rest := rest) ⟨hx, hb, hml, hown, hts⟩ (hM H.size) (cwI n hts hg hw rfl rfl (hts _ hi1) (hts _ hi2) (hts _ hi3) hnm hdesc hR) ⟨hbl, hpre⟩ rfl hn hl.1 rfl (lv_room hsum) hd hcs) hS hFc (fun v u H1 locs1 hp hP1 hD1 hk hS1 => ?_)
  rw [hw1 u] at hP1 hD1
  obtain ⟨hP2, hD2⟩ := ww_join hP hD is hC2 (hadr u) hk hFc hP1 hD1
  rw [ww_put_left _ _ _ _ hlt] at hP2 hD2
  refine r_perm (X := (g, p, l, e, R, s, m, args, below, meth, c, A, H0, nL, Q)) (ws := (ww_put wx is (wo u) ++ pl) ++ wn u) (ws' := ws' u ++ pl) ?_ (kk v u hp) H1 locs1 ls hP2 hD2 hS1 hl
  rw [← hws u]
  exact ww_plT
theorem r_callIKN {wx pl : va_W} {host : String} (C : ww_C X cc n0 own Ts rm) (hI : ww_I X) (hd : decode cc pc = .ok (.invokespecial index, 3)) (hM : CTK X.1 X.2.2.1 y wd rmY (.ref b :: As) wc post w1) (hg : GoodIn Ts wd) (hw : wd = Cond.code y bytes maxL none :: wd')
    (hi1 : Cond.initialized y.cls ∈ Ts) (hi2 : ∀ s, ww_E s → va_Nw (.methodLinkNest own index y host) s) (hi3 : Cond.instanceMethod y ∈ Ts) (hnm : y.name = "<init>")
    (hdesc : y.cls ≠ "java/lang/invoke/MethodHandle" ∧ y.cls ≠ "java/lang/invoke/VarHandle" ∧ (parseMethodDescriptor y.desc).map (fun d => d.parameters.length) = some n) (hn : As.length = n) (hR : rmY.frames + 1 ≤ rm.frames ∧ 8 + (maxL + 11) + rmY.locals ≤ rm.locals) (hcs : kc + rmY.cells ≤ rm.cells ∧ ks + rmY.slots ≤ rm.slots)
    (hst : st = As.reverse ++ .ref b :: rest) (hsum : (rest.map fun v => v.category).sum ≤ 8) (is : List Nat) (hnd : is.Nodup) (hlt : ∀ i ∈ is, i < wx.length) (hC : is.map (fun i => wx[i]?) = wc.map some) (wo wn : S → va_W) (hw1 : ∀ u, w1 u = wo u ++ wn u) (hadr : ∀ u, (wo u).map Prod.fst = wc.map Prod.fst) (hws : ∀ u, ww_put wx is (wo u) ++ wn u = ws' u)
    (kk : ∀ (v : Option Value) (u : S), post v u → RW X (kc + rmY.cells) (ks + rmY.slots) (pc + 3) lv (v.toList ++ rest) (ws' u ++ pl)) : RW X kc ks pc lv st (wx ++ pl) := by
  obtain ⟨g, p, l, e, R, s, m, args, below, meth, c, A, H0, nL, Q⟩ := X
  obtain ⟨hx, hb, hml, rfl, hown, hts, hK, hA, hlocks, rfl⟩ := C
  intro H locs ls hP hD hS hl
  subst hst
  have hC2 : is.map (fun i => (wx ++ pl)[i]?) = wc.map some := by
    rw [← hC]
    refine List.map_congr_left (fun i hi => ?_)
    rw [List.getElem?_append_left (hlt i hi)]
  have hPc := ww_subP (ws := wx ++ pl) hP hC2
  have hDc := ww_subD2 (ws := wx ++ pl) hD hnd hC2
  have hFc := va_free (wc := wc) hD hS hA is hC2
  obtain ⟨hbl, hpre⟩ := ww_preK (av := .ref b :: As) hI.2 hPc hK hDc
  refine ww_callg (va_runIN (As := As) (rest := rest) ⟨hx, hb, hml, hown, hts⟩ (hM H.size) ⟨va_cnB n hts hg hw rfl rfl (hi2 s hI.2) (hts _ hi1) hdesc hR, hnm, hts _ hi3⟩ ⟨hbl, hpre⟩ rfl hn hl.1 rfl (lv_room hsum) hd hcs) hS hFc (fun v u H1 locs1 hp hP1 hD1 hk hS1 => ?_)
  rw [hw1 u] at hP1 hD1
  obtain ⟨hP2, hD2⟩ := ww_join hP hD is hC2 (hadr u) hk hFc hP1 hD1
  rw [ww_put_left _ _ _ _ hlt] at hP2 hD2
  refine r_perm (X := (g, p, l, e, R, s, m, args, below, meth, c, A, H0, nL, Q)) (ws := (ww_put wx is (wo u) ++ pl) ++ wn u) (ws' := ws' u ++ pl) ?_ (kk v u hp) H1 locs1 ls hP2 hD2 hS1 hl
  rw [← hws u]
  exact ww_plT
theorem r_new {wx pl : va_W} {C0 : String} {T : u_T} {N ci : Nat} {fs : List Value} (C : ww_C X cc n0 own Ts rm) (hd : decode cc pc = .ok (.new index, 3)) (hin : ∀ w ∈ u_ws C0 T N, w ∈ Ts) (ty : Nat → FieldType) (hty : ∀ k, k < N → parseFieldDescriptor (T k).2.2.1 = some (ty k)) (hcl : Cond.classLink own index C0 ∈ Ts) (hinst : Cond.instantiable C0 N ∈ Ts) (hini : Cond.initialized C0 ∈ Ts) (hc : vwCl[ci]? = some (C0, T, N)) (hfs : ∀ j, j < N → defaultValue (ty j) = vp_V fs j) (hcs : kc + 1 ≤ rm.cells ∧ ks + N ≤ rm.slots)
    (k : ∀ q, RW X (kc + 1) (ks + N) (pc + 3) lv (.ref q :: st) ((wx ++ [(q, .inr (ci, fs))]) ++ pl)) : RW X kc ks pc lv st (wx ++ pl) := by
  obtain ⟨g, p, l, e, R, s, m, args, below, meth, c, A, H0, nL, Q⟩ := X
  obtain ⟨hx, hb, hml, rfl, hown, hts, hK, hA, hlocks, rfl⟩ := C
  intro H locs ls hP hD hS hl
  refine va_new hx hb hts hin ty hty hown (hts _ hcl) (hts _ hinst) (hts _ hini) hK hP hD hS hA hc hfs hcs.1 hcs.2 hd (fun q H1 hP1 hD1 hS1 => ?_)
  exact r_perm (X := (g, p, l, e, R, s, m, args, below, meth, c, A, H0, nL, Q)) ww_plT (k q) H1 locs ls hP1 hD1 hS1 hl
theorem r_newaI {wx pl : va_W} {N : Nat} (C : ww_C X cc n0 own Ts rm) (hd : decode cc pc = .ok (.newarray .int, 2)) (harr : Cond.arrayClass .int ∈ Ts) (hN : N < 1000000) (hcs : kc + 1 ≤ rm.cells ∧ ks + N ≤ rm.slots)
    (k : ∀ q, RW X (kc + 1) (ks + N) (pc + 2) lv (.ref q :: st) ((wx ++ [(q, .inl (X.1.2.1, N, .inl (fun _ => 0)))]) ++ pl)) : RW X kc ks pc lv (.int (nI N) :: st) (wx ++ pl) := by
  obtain ⟨g, p, l, e, R, s, m, args, below, meth, c, A, H0, nL, Q⟩ := X
  obtain ⟨hx, hb, hml, rfl, hown, hts, hK, hA, hlocks, rfl⟩ := C
  intro H locs ls hP hD hS hl
  refine va_newa (atype := .int) hx hb (hts _ harr) (ty := .int) rfl hK hP hD hS hA (a0 := (N, .inl (fun _ => 0))) (fun cA => rfl) (nI_pos (by omega)) (nI_clamp (by omega)) (by show N * 4 ≤ _; omega) hcs.1 hcs.2 hd (fun q cA H1 hK1 hP1 hD1 hS1 => ?_)
  have e1 : s.vm.findClass ("[" ++ FieldType.int.toString) = some cA := (hK1.2 4 (cA, .int) rfl).2
  have e2 : s.vm.findClass ("[" ++ FieldType.int.toString) = some g.2.1 := (hK.2 0 (g.2.1, .int) rfl).2
  obtain rfl : g.2.1 = cA := Option.some.inj (e2.symm.trans e1)
  exact r_perm (X := (g, p, l, e, R, s, m, args, below, meth, c, A, H0, nL, Q)) ww_plT (k q) H1 locs ls hP1 hD1 hS1 hl
theorem r_newaZ {wx pl : va_W} {N : Nat} (C : ww_C X cc n0 own Ts rm) (hd : decode cc pc = .ok (.newarray .boolean, 2)) (harr : Cond.arrayClass .boolean ∈ Ts) (hN : N < 1000000) (hcs : kc + 1 ≤ rm.cells ∧ ks + N ≤ rm.slots)
    (k : ∀ q, RW X (kc + 1) (ks + N) (pc + 2) lv (.ref q :: st) ((wx ++ [(q, .inl (X.1.2.2.1, N, .inl (fun _ => 0)))]) ++ pl)) : RW X kc ks pc lv (.int (nI N) :: st) (wx ++ pl) := by
  obtain ⟨g, p, l, e, R, s, m, args, below, meth, c, A, H0, nL, Q⟩ := X
  obtain ⟨hx, hb, hml, rfl, hown, hts, hK, hA, hlocks, rfl⟩ := C
  intro H locs ls hP hD hS hl
  refine va_newa (atype := .boolean) hx hb (hts _ harr) (ty := .boolean) rfl hK hP hD hS hA (a0 := (N, .inl (fun _ => 0))) (fun cA => rfl) (nI_pos (by omega)) (nI_clamp (by omega)) (by show N * 1 ≤ _; omega) hcs.1 hcs.2 hd (fun q cA H1 hK1 hP1 hD1 hS1 => ?_)
  have e1 : s.vm.findClass ("[" ++ FieldType.boolean.toString) = some cA := (hK1.2 4 (cA, .boolean) rfl).2
  have e2 : s.vm.findClass ("[" ++ FieldType.boolean.toString) = some g.2.2.1 := (hK.2 1 (g.2.2.1, .boolean) rfl).2
  obtain rfl : g.2.2.1 = cA := Option.some.inj (e2.symm.trans e1)
  exact r_perm (X := (g, p, l, e, R, s, m, args, below, meth, c, A, H0, nL, Q)) ww_plT (k q) H1 locs ls hP1 hD1 hS1 hl
theorem r_newaJ {wx pl : va_W} {N : Nat} (C : ww_C X cc n0 own Ts rm) (hd : decode cc pc = .ok (.newarray .long, 2)) (harr : Cond.arrayClass .long ∈ Ts) (hN : N < 1000000) (hcs : kc + 1 ≤ rm.cells ∧ ks + N ≤ rm.slots)
    (k : ∀ q, RW X (kc + 1) (ks + N) (pc + 2) lv (.ref q :: st) ((wx ++ [(q, .inl (X.1.2.2.2.2, N, .inr (.inl (fun _ => 0))))]) ++ pl)) : RW X kc ks pc lv (.int (nI N) :: st) (wx ++ pl) := by
  obtain ⟨g, p, l, e, R, s, m, args, below, meth, c, A, H0, nL, Q⟩ := X
  obtain ⟨hx, hb, hml, rfl, hown, hts, hK, hA, hlocks, rfl⟩ := C
  intro H locs ls hP hD hS hl
  refine va_newa (atype := .long) hx hb (hts _ harr) (ty := .long) rfl hK hP hD hS hA (a0 := (N, .inr (.inl (fun _ => 0)))) (fun cA => rfl) (nI_pos (by omega)) (nI_clamp (by omega)) (by show N * 8 ≤ _; omega) hcs.1 hcs.2 hd (fun q cA H1 hK1 hP1 hD1 hS1 => ?_)
  have e1 : s.vm.findClass ("[" ++ FieldType.long.toString) = some cA := (hK1.2 4 (cA, .long) rfl).2
  have e2 : s.vm.findClass ("[" ++ FieldType.long.toString) = some g.2.2.2.2 := (hK.2 3 (g.2.2.2.2, .long) rfl).2
  obtain rfl : g.2.2.2.2 = cA := Option.some.inj (e2.symm.trans e1)
  exact r_perm (X := (g, p, l, e, R, s, m, args, below, meth, c, A, H0, nL, Q)) ww_plT (k q) H1 locs ls hP1 hD1 hS1 hl
theorem r_putF {C0 : String} {T : u_T} {N ci : Nat} {fs : List Value} {ws' : va_W} {a : Nat} {ty : FieldType} {v : Value} (C : ww_C X cc n0 own Ts rm) (hI : ww_I X) (hd : decode cc pc = .ok (.putfield index, 3)) (hin : ∀ w ∈ u_ws C0 T N, w ∈ Ts) (ty0 : Nat → FieldType) (hty : ∀ k, k < N → parseFieldDescriptor (T k).2.2.1 = some (ty0 k)) (hnm : ∀ a, a < N → ∀ b, b < N → a ≠ b → (T a).2.1 ≠ (T b).2.1) (k : Nat) (hlink : Cond.fieldLink own index (T k).1 (T k).2.1 (T k).2.2.1 ∈ Ts) (q0 : Nat) (he : ws[q0]? = some (a, .inr (ci, fs))) (hc : vwCl[ci]? = some (C0, T, N)) (hk : k < N) (hfin : (T k).2.2.2 = true) (hdecl : (T k).1 = own) (hdt : parseFieldDescriptor (T k).2.2.1 = some ty) (hn : narrow ty v = v) (hfit : fits ty v = true) (hl0 : k < fs.length) (hws : ws.set q0 (a, .inr (ci, fs.set k v)) = ws')
    (kk : RW X kc ks (pc + 3) lv st ws') : RW X kc ks pc lv (v :: .ref a :: st) ws := by
  obtain ⟨g, p, l, e, R, s, m, args, below, meth, c, A, H0, nL, Q⟩ := X
  obtain ⟨hx, hb, hml, rfl, hown, hts, hK, hA, hlocks, rfl⟩ := C
  intro H locs ls hP hD hS hl
  subst hws
  exact va_putF hx hb hts hin ty0 hty hnm hown hK hP hD hS q0 he hc k hk (hts _ hlink) (fun _ h => h) hfin hI.1 hdecl hdt hn hfit hl0 hd (fun H1 locs1 hP1 hD1 hS1 => kk H1 locs1 ls hP1 hD1 hS1 hl)
end
