/-! Contracts over pictures, and calls -/
def ww_put : va_W → List Nat → va_W → va_W
  | ws, i :: is, x :: xs => ww_put (ws.set i x) is xs
  | ws, [], _ => ws
  | ws, _ :: _, [] => ws
theorem ww_put_get : ∀ (is : List Nat) (xs ws : va_W) (k : Nat) (q : Nat × va_E), (ww_put ws is xs)[k]? = some q → (∃ j : Nat, is[j]? = some k ∧ xs[j]? = some q) ∨ (ws[k]? = some q ∧ ∀ (j : Nat) (x : Nat × va_E), is[j]? = some k → xs[j]? = some x → False) := by
  intro is
  induction is with
  | nil =>
    intro xs ws k q h
    exact Or.inr ⟨by simpa [ww_put] using h, fun j x h1 => by simp at h1⟩
  | cons i is ih =>
    intro xs ws k q h
    cases xs with
    | nil => exact Or.inr ⟨by simpa [ww_put] using h, fun j x _ h2 => by simp at h2⟩
    | cons x xs =>
      rcases ih xs (ws.set i x) k q h with ⟨j, h1, h2⟩ | ⟨h1, h2⟩
      · exact Or.inl ⟨j + 1, by simpa using h1, by simpa using h2⟩
      · by_cases hki : i = k
        · subst hki
          rw [List.getElem?_set] at h1
          simp only [if_true] at h1
          by_cases hl : i < ws.length
          · rw [if_pos hl] at h1
            exact Or.inl ⟨0, by simp, by simpa using h1⟩
          · rw [if_neg hl] at h1; cases h1
        · rw [List.getElem?_set_ne hki] at h1
          refine Or.inr ⟨h1, fun j y g1 g2 => ?_⟩
          cases j with
          | zero => simp at g1; exact hki g1
          | succ j => exact h2 j y (by simpa using g1) (by simpa using g2)
theorem ww_put_fst : ∀ (is : List Nat) (xs ws : va_W), (∀ (j i : Nat) (x : Nat × va_E), is[j]? = some i → xs[j]? = some x → ∃ q, ws[i]? = some q ∧ q.1 = x.1) → (ww_put ws is xs).map Prod.fst = ws.map Prod.fst := by
  intro is
  induction is with
  | nil => intro xs ws _; simp [ww_put]
  | cons i is ih =>
    intro xs ws h
    cases xs with
    | nil => simp [ww_put]
    | cons x xs =>
      obtain ⟨q, hq, e⟩ := h 0 i x (by simp) (by simp)
      have hs : (ws.set i x).map Prod.fst = ws.map Prod.fst := by
        apply List.ext_getElem?
        intro k
        rw [List.getElem?_map, List.getElem?_map, List.getElem?_set]
        by_cases hk : i = k
        · subst hk
          have hl : i < ws.length := (List.getElem?_eq_some_iff.mp hq).1
          simp [hl, hq, e]
          have h9 := List.getElem?_eq_some_iff.mp hq
          obtain ⟨h91, h92⟩ := h9
          rw [h92, e]
        · simp [hk]
      show (ww_put (ws.set i x) is xs).map Prod.fst = _
      rw [ih xs (ws.set i x) (fun j i2 y g1 g2 => ?_), hs]
      obtain ⟨q2, hq2, e2⟩ := h (j + 1) i2 y (by simpa using g1) (by simpa using g2)
      have h3 : ((ws.set i x).map Prod.fst)[i2]? = some q2.1 := by rw [hs, List.getElem?_map, hq2]; rfl
      rw [List.getElem?_map] at h3
      cases h4 : (ws.set i x)[i2]? with
      | none => rw [h4] at h3; cases h3
      | some q3 => rw [h4] at h3; exact ⟨q3, rfl, (Option.some.inj h3).trans e2⟩
theorem ww_Dof {A : Nat → Prop} {ws ws' : va_W} (ha : ws'.map Prod.fst = ws.map Prod.fst) (hD : va_D A ws) : va_D A ws' := by
  have hadr : ∀ (i : Nat) (q : Nat × va_E), ws'[i]? = some q → ∃ q2, ws[i]? = some q2 ∧ q2.1 = q.1 := by
    intro i q hq
    have h1 : (ws'.map Prod.fst)[i]? = some q.1 := by rw [List.getElem?_map, hq]; rfl
    rw [ha, List.getElem?_map] at h1
    cases h2 : ws[i]? with
    | none => rw [h2] at h1; cases h1
    | some q2 => rw [h2] at h1; exact ⟨q2, rfl, Option.some.inj h1⟩
  refine ⟨fun i j p q hi hj e => ?_, fun i q hi => ?_⟩
  · obtain ⟨p2, hp2, ep⟩ := hadr i p hi
    obtain ⟨q2, hq2, eq⟩ := hadr j q hj
    exact hD.1 i j p2 q2 hp2 hq2 (by rw [ep, eq, e])
  · obtain ⟨q2, hq2, eq⟩ := hadr i q hi
    rw [← eq]
    exact hD.2 i q2 hq2
theorem ww_pos {ws wc : va_W} {is : List Nat} (hs : is.map (fun i => ws[i]?) = wc.map some) (k : Nat) (q : Nat × va_E) (hq : wc[k]? = some q) : ∃ i, is[k]? = some i ∧ ws[i]? = some q := by
  have h1 : (is.map (fun i => ws[i]?))[k]? = some (some q) := by rw [hs, List.getElem?_map, hq]; rfl
  rw [List.getElem?_map] at h1
  cases hi : is[k]? with
  | none => rw [hi] at h1; cases h1
  | some i => rw [hi] at h1; exact ⟨i, rfl, Option.some.inj h1⟩
theorem ww_pos2 {ws wc : va_W} {is : List Nat} (hs : is.map (fun i => ws[i]?) = wc.map some) (k i : Nat) (hi : is[k]? = some i) : ∃ q, wc[k]? = some q ∧ ws[i]? = some q := by
  have h1 : (wc.map some)[k]? = some (ws[i]?) := by rw [← hs, List.getElem?_map, hi]; rfl
  rw [List.getElem?_map] at h1
  cases hq : wc[k]? with
  | none => rw [hq] at h1; cases h1
  | some q => rw [hq] at h1; exact ⟨q, rfl, (Option.some.inj h1).symm⟩
theorem ww_fstAt {a b : va_W} (h : a.map Prod.fst = b.map Prod.fst) {k : Nat} {q : Nat × va_E} (hq : b[k]? = some q) : ∃ x, a[k]? = some x ∧ x.1 = q.1 := by
  have h1 : (a.map Prod.fst)[k]? = some q.1 := by rw [h, List.getElem?_map, hq]; rfl
  rw [List.getElem?_map] at h1
  cases h2 : a[k]? with
  | none => rw [h2] at h1; cases h1
  | some x => rw [h2] at h1; exact ⟨x, rfl, Option.some.inj h1⟩
theorem ww_join {A0 : Nat → Prop} {D : va_G} {cl : List vw_C} {ws wc wo wn : va_W} {H H1 : Heap} (hP : va_P D cl ws H) (hD : va_D A0 ws) (is : List Nat) (hC : is.map (fun i => ws[i]?) = wc.map some) (hadr : wo.map Prod.fst = wc.map Prod.fst)
    (hk : ∀ q : Nat, q < H.size → ¬ va_A wc H.size q → H1[q]? = H[q]?) (hF : ∀ q, va_A wc H.size q → A0 q) (hP1 : va_P D cl (wo ++ wn) H1) (hD1 : va_D (va_A wc H.size) (wo ++ wn)) : va_P D cl (ww_put ws is wo ++ wn) H1 ∧ va_D A0 (ww_put ws is wo ++ wn) := by
  have hfst : (ww_put ws is wo).map Prod.fst = ws.map Prod.fst := by
    refine ww_put_fst is wo ws (fun j i x h1 h2 => ?_)
    obtain ⟨q, g1, g2⟩ := ww_pos2 hC j i h1
    obtain ⟨x2, g3, g4⟩ := ww_fstAt hadr g1
    cases Option.some.inj (h2.symm.trans g3)
    exact ⟨q, g2, g4.symm⟩
  have hn : va_P D cl wn H1 := fun k q hq => hP1 (wo.length + k) q (by rw [List.getElem?_append_right (by omega)]; simpa using hq)
  have hlt : ∀ (k : Nat) (q : Nat × va_E), (ww_put ws is wo)[k]? = some q → q.1 < H.size := by
    intro k q hq
    obtain ⟨x, h1, h2⟩ := ww_fstAt hfst.symm hq
    rw [← h2]
    exact (hP k x h1).lt
  refine ⟨va_P.app (fun k q hq => ?_) hn, va_D.app (ww_Dof hfst hD) ?_ ?_⟩
  · rcases ww_put_get is wo ws k q hq with ⟨j, h1, h2⟩ | ⟨h1, h2⟩
    · exact hP1 j q (by rw [List.getElem?_append_left (List.getElem?_eq_some_iff.mp h2).1]; exact h2)
    · have hl := (hP k q h1).lt
      refine (hP k q h1).kept (hk q.1 hl (fun h => ?_))
      rcases h with ⟨k2, e, h⟩ | h
      · obtain ⟨i, g1, g2⟩ := ww_pos hC k2 _ h
        have hij := hD.1 k i q (q.1, e) h1 g2 rfl
        subst hij
        obtain ⟨x, g3, -⟩ := ww_fstAt hadr h
        exact h2 k2 x g1 g3
      · omega
  · refine ⟨fun i j p q hi hj e => ?_, fun k q hq => ?_⟩
    · have := hD1.1 (wo.length + i) (wo.length + j) p q (by rw [List.getElem?_append_right (by omega)]; simpa using hi) (by rw [List.getElem?_append_right (by omega)]; simpa using hj) e
      omega
    · exact hF _ (hD1.2 (wo.length + k) q (by rw [List.getElem?_append_right (by omega)]; simpa using hq))
  · intro i j x y hx hy hxy
    have h1 := hlt i x hx
    have h2 := hD1.2 (wo.length + j) y (by rw [List.getElem?_append_right (by omega)]; simpa using hy)
    rcases h2 with ⟨k2, e, h⟩ | h
    · obtain ⟨z, g3, g4⟩ := ww_fstAt hadr h
      have hlz : k2 < wo.length := (List.getElem?_eq_some_iff.mp g3).1
      have := hD1.1 k2 (wo.length + j) z y (by rw [List.getElem?_append_left hlz]; exact g3) (by rw [List.getElem?_append_right (by omega)]; simpa using hy) g4
      omega
    · omega
/-- a method's contract: from any heap that holds the picture wc it returns v with 'post v u', and the heap holds w1 u -/
def CT (g : ww_G) (l : Launch) (y : MethodName) (wd : List Cond) (rm : Room) (av : List Value) (wc : va_W) {S : Type} (post : Option Value → S → Prop) (w1 : S → va_W) : Prop :=
  ∀ sz : Nat, Met l y wd rm (va_Pc av (fun U => U.heap.size = sz ∧ va_P g.1 vwCl wc U.heap ∧ va_K g.1 vwCl (ww_t g) U ∧ va_D (fun _ => True) wc))
    (fun _ st oc t => (∃ (v : Option Value) (u : S), oc = .returned v ∧ post v u ∧ va_P g.1 vwCl (w1 u) t.heap ∧ va_D (va_A wc sz) (w1 u)) ∧ va_F (va_A wc sz) st t) rm.cells rm.slots (va_A wc sz)
def ww_ret (cc : ByteArray) (pc : Nat) (ret : Option FieldType) (v : Option Value) : Prop :=
  (v = none ∧ ret = none ∧ decode cc pc = .ok (.return_, 1)) ∨ ∃ x : Int32, v = some (.int x) ∧ decode cc pc = .ok (.ireturn, 1) ∧ (ret = some .int ∨ (ret = some .boolean ∧ (x = 0 ∨ x = 1)))
theorem CT.of {g : ww_G} {l : Launch} {y : MethodName} {wd wd' : List Cond} {rm : Room} {av : List Value} {wc : va_W} {S : Type} {post : Option Value → S → Prop} {w1 : S → va_W} (cc : ByteArray) (n0 : Nat) (ret : Option FieldType) (own : String)
    (hy : plainName y.cls = true) (hw : wd = Cond.code y cc n0 ret :: wd') (hown0 : y.cls = own) (hav : (lg_sl av).length ≤ n0)
    (body : ∀ X : ww_X, X.1 = g → X.2.2.1 = l → ww_C X cc n0 own wd rm → (∀ (pc : Nat) (lv : List (Nat × Value)) (v : Option Value) (u : S), post v u → ww_ret cc pc ret v → RW X rm.cells rm.slots pc lv v.toList (w1 u)) → RW X 0 0 0 (lv_args 0 av) [] wc) :
    CT g l y wd rm av wc post w1 := by
  intro sz
  refine Met.ofW (cc := cc) (maxL := n0) (ret := ret) hy hw ?_
  intro p e s m args below meth c s₁ B hml hv
  obtain ⟨rfl, hsz, hP, hK, hD0⟩ := hv
  have hts := atoms_spec (ws := wd) B.pre
  have hown : s.vm.findClass own = some m.cls := by rw [← hown0]; exact findClass_of_methodNamed B.named
  have hlocks := B.notSynchronized
  subst hsz
  have hD := hD0.self (sz := s.heap.size)
  have hl := lv_entry av (n := n0) hav
  rw [lg_entry_eq]
  generalize hAe : va_A wc s.heap.size = A at hD ⊢
  have hA : ∀ q : Nat, s.heap.size ≤ q → A q := fun q h => by rw [← hAe]; exact Or.inr h
  refine body (g, p, l, e, rm, s, m, av.toArray, below, meth, c, A, s.heap, n0, _) rfl rfl ⟨B.exec, B.bytes, hml, rfl, hown, hts, hK, hA, hlocks, rfl⟩ ?_ s.heap [] _ hP hD va_S.rf hl
  intro pc lv v u hpost hret H locs ls hP1 hD1 hS1 hl1
  rcases hret with ⟨rfl, hr0, hd⟩ | ⟨x, rfl, hd, hr0⟩
  · exact W.vret B.exec B.bytes (B.returns.trans hr0) (fun t ht hW => ⟨⟨none, u, rfl, hpost, by rw [ht]; exact hP1, hD1⟩, hS1.F ht⟩) hS1.2.2 hd
  · rcases hr0 with hr0 | ⟨hr0, hx⟩
    · exact W.iret B.exec B.bytes (B.returns.trans hr0) (fun t ht hW => ⟨⟨_, u, rfl, hpost, by rw [ht]; exact hP1, hD1⟩, hS1.F ht⟩) hS1.2.2 hd
    · exact W.zret B.exec B.bytes (B.returns.trans hr0) (by rcases hx with rfl | rfl <;> rfl) (fun t ht hW => ⟨⟨_, u, rfl, hpost, by rw [ht]; exact hP1, hD1⟩, hS1.F ht⟩) hS1.2.2 hd
section
variable {p : Program} {l : Launch} {e : Env} {R : Room} {s : State} {m : MethodId} {args : Array Value} {below : List Frame} {meth : Method} {c : Code} {H : Heap} {locs : List Loc} {cells slots : Nat} {Q : State → Prop}
theorem ww_callg {D : va_G} {wc : va_W} {S : Type} {post : Option Value → S → Prop} {w1 : S → va_W} {A0 : Nat → Prop} {H0 : Heap} {mc ms pc : Nat} {ls : Array Slot} {st0 rest : List Value}
    (hr : va_Run p l e R s m args below meth c H locs cells slots mc ms (F0 m pc ls st0) rest (fun st oc t => (∃ (v : Option Value) (u : S), oc = .returned v ∧ post v u ∧ va_P D vwCl (w1 u) t.heap ∧ va_D (va_A wc H.size) (w1 u)) ∧ va_F (va_A wc H.size) st t) (va_A wc H.size))
    (hS : va_S A0 H0 H locs) (hF : ∀ q, va_A wc H.size q → A0 q)
    (kk : ∀ (v : Option Value) (u : S) (H1 : Heap) (locs1 : List Loc), post v u → va_P D vwCl (w1 u) H1 → va_D (va_A wc H.size) (w1 u) → (∀ q : Nat, q < H.size → ¬ va_A wc H.size q → H1[q]? = H[q]?) → va_S A0 H0 H1 locs1 → W p l e R s m args below meth c H1 locs1 (cells + mc) (slots + ms) Q (F0 m (pc + 3) ls (v.toList ++ rest))) : W p l e R s m args below meth c H locs cells slots Q (F0 m pc ls st0) := by
  intro T hT X
  obtain ⟨v, st₀, t, T', L, h0, X', hL, e1, e2, ⟨⟨v2, u, hv, hp, hP1, hD1⟩, hz, hk⟩, st⟩ := hr T hT X
  cases hv
  rw [h0] at hz hk
  obtain ⟨t2, a1, b1⟩ := kk v u T'.heap (locs ++ L) hp (by rw [e1]; exact hP1) hD1 (fun q h1 h2 => by rw [e1]; exact hk q h1 h2)
    ⟨Nat.le_trans hS.1 (by rw [e1]; exact hz), fun q h1 h2 => by rw [e1, hk q (Nat.lt_of_lt_of_le h1 hS.1) (fun z => h2 (hF q z))]; exact hS.2.1 q h1 h2, fun q hq => by
      rcases List.mem_append.mp hq with h | h
      · exact hS.2.2 q h
      · exact hF _ (hL q h)⟩ T' rfl X'
  exact ⟨t2, st t2 a1, b1⟩
end
section
variable {X : ww_X} {cc : ByteArray} {n0 : Nat} {own : String} {Ts : List Cond} {rm : Room} {kc ks pc : Nat} {lv : List (Nat × Value)} {st : List Value} {ws : va_W}
variable {y : MethodName} {wd wd' : List Cond} {rmY : Room} {b : Nat} {As : List Value} {wc : va_W} {S : Type} {post : Option Value → S → Prop} {w1 : S → va_W} {index n maxL : Nat} {bytes : ByteArray} {ret : Option FieldType} {rest : List Value} {ws' : S → va_W}
theorem ww_pre {g : ww_G} {s : State} {H : Heap} {A : Nat → Prop} {av : List Value} (hP : va_P g.1 vwCl wc H) (hK : va_K g.1 vwCl (ww_t g) s) (hD : va_D A wc) : FrameBlind (va_Pc av (fun U => U.heap.size = H.size ∧ va_P g.1 vwCl wc U.heap ∧ va_K g.1 vwCl (ww_t g) U ∧ va_D (fun _ => True) wc)) ∧ ∀ U : State, U.heap = H → s.WarmedH U.vm → va_Pc av (fun U => U.heap.size = H.size ∧ va_P g.1 vwCl wc U.heap ∧ va_K g.1 vwCl (ww_t g) U ∧ va_D (fun _ => True) wc) av.toArray U :=
  ⟨fun a U g0 mk q => by obtain ⟨q0, q1, qP, qK, qD⟩ := q; exact ⟨q0, q1, qP, va_K.moved (u := U) (U := U.calling g0 mk a) (Vm.Alike.refl U.vm) qK, qD⟩, fun U hU hW => ⟨rfl, by rw [hU], by rw [hU]; exact hP, va_K.moved hW.alike hK, hD.weaken (fun _ _ _ _ => trivial)⟩⟩
theorem ww_subP {D : va_G} {H : Heap} {is : List Nat} (hP : va_P D vwCl ws H) (hC : is.map (fun i => ws[i]?) = wc.map some) : va_P D vwCl wc H := fun k q hq => by
  obtain ⟨i, -, h2⟩ := ww_pos hC k q hq
  exact hP i q h2
theorem ww_subD {A : Nat → Prop} {is : List Nat} (hD : va_D A ws) (hn : va_nd is = true) (hC : is.map (fun i => ws[i]?) = wc.map some) : va_D A wc := hD.sub is hn hC
theorem r_callV {CC : String} {ci N : Nat} {T : u_T} {fs : List Value} (C : ww_C X cc n0 own Ts rm) (hd : decode cc pc = .ok (.invokevirtual index, 3)) (hM : CT X.1 X.2.2.1 y wd rmY (.ref b :: As) wc post w1) (hg : GoodIn Ts (wsV own index CC y wd)) (hw : wd = Cond.code y bytes maxL ret :: wd')
    (hdesc : y.cls = CC ∧ y.cls ≠ "java/lang/invoke/MethodHandle" ∧ y.cls ≠ "java/lang/invoke/VarHandle" ∧ (parseMethodDescriptor y.desc).map (fun d => d.parameters.length) = some n) (hn : As.length = n) (hR : rmY.frames + 1 ≤ rm.frames ∧ 8 + (maxL + 11) + rmY.locals ≤ rm.locals) (hcs : kc + rmY.cells ≤ rm.cells ∧ ks + rmY.slots ≤ rm.slots)
    (hst : st = As.reverse ++ .ref b :: rest) (hsum : (rest.map fun v => v.category).sum ≤ 8) (q0 : Nat) (hq : wc[q0]? = some (b, .inr (ci, fs))) (hci : vwCl[ci]? = some (CC, T, N)) (is : List Nat) (hnd : va_nd is = true) (hC : is.map (fun i => ws[i]?) = wc.map some) (wo wn : S → va_W) (hw1 : ∀ u, w1 u = wo u ++ wn u) (hadr : ∀ u, (wo u).map Prod.fst = wc.map Prod.fst) (hws : ∀ u, ww_put ws is (wo u) ++ wn u = ws' u)
    (kk : ∀ (v : Option Value) (u : S), post v u → RW X (kc + rmY.cells) (ks + rmY.slots) (pc + 3) lv (v.toList ++ rest) (ws' u)) : RW X kc ks pc lv st ws := by
  obtain ⟨g, p, l, e, R, s, m, args, below, meth, c, A, H0, nL, Q⟩ := X
  obtain ⟨hx, hb, hml, rfl, hown, hts, hK, hA, hlocks, rfl⟩ := C
  intro H locs ls hP hD hS hl
  subst hst
  have hPc := ww_subP (ws := ws) hP hC
  have hDc := ww_subD (ws := ws) hD hnd hC
  have hFc := va_free (wc := wc) hD hS hA is hC
  obtain ⟨hbl, hpre⟩ := ww_pre (av := .ref b :: As) hPc hK hDc
  refine ww_callg (va_runV (As := As) (rest := rest) ⟨hx, hb, hml, hown, hts⟩ (hM H.size) (cwV n hts hg hw rfl rfl hdesc hR) ⟨hbl, va_recv hK hPc hci hq, hpre⟩ rfl hn hl.1 rfl (lv_room hsum) hd hcs) hS hFc (fun v u H1 locs1 hp hP1 hD1 hk hS1 => ?_)
  rw [hw1 u] at hP1 hD1
  obtain ⟨hP2, hD2⟩ := ww_join hP hD is hC (hadr u) hk hFc hP1 hD1
  rw [hws u] at hP2 hD2
  exact kk v u hp H1 locs1 ls hP2 hD2 hS1 hl
theorem r_callS (C : ww_C X cc n0 own Ts rm) (hd : decode cc pc = .ok (.invokestatic index, 3)) (hM : CT X.1 X.2.2.1 y wd rmY As wc post w1) (hg : GoodIn Ts (va_wsS own index y wd)) (hw : wd = Cond.code y bytes maxL ret :: wd')
    (hdesc : y.cls ≠ "java/lang/invoke/MethodHandle" ∧ y.cls ≠ "java/lang/invoke/VarHandle" ∧ (parseMethodDescriptor y.desc).map (fun d => d.parameters.length) = some n) (hn : As.length = n) (hR : rmY.frames + 1 ≤ rm.frames ∧ 8 + (maxL + 11) + rmY.locals ≤ rm.locals) (hcs : kc + rmY.cells ≤ rm.cells ∧ ks + rmY.slots ≤ rm.slots)
    (hst : st = As.reverse ++ rest) (hsum : (rest.map fun v => v.category).sum ≤ 8) (is : List Nat) (hnd : va_nd is = true) (hC : is.map (fun i => ws[i]?) = wc.map some) (wo wn : S → va_W) (hw1 : ∀ u, w1 u = wo u ++ wn u) (hadr : ∀ u, (wo u).map Prod.fst = wc.map Prod.fst) (hws : ∀ u, ww_put ws is (wo u) ++ wn u = ws' u)
    (kk : ∀ (v : Option Value) (u : S), post v u → RW X (kc + rmY.cells) (ks + rmY.slots) (pc + 3) lv (v.toList ++ rest) (ws' u)) : RW X kc ks pc lv st ws := by
  obtain ⟨g, p, l, e, R, s, m, args, below, meth, c, A, H0, nL, Q⟩ := X
  obtain ⟨hx, hb, hml, rfl, hown, hts, hK, hA, hlocks, rfl⟩ := C
  intro H locs ls hP hD hS hl
  subst hst
  have hPc := ww_subP (ws := ws) hP hC
  have hDc := ww_subD (ws := ws) hD hnd hC
  have hFc := va_free (wc := wc) hD hS hA is hC
  obtain ⟨hbl, hpre⟩ := ww_pre (av := As) hPc hK hDc
  refine ww_callg (va_runS (As := As) (rest := rest) ⟨hx, hb, hml, hown, hts⟩ (hM H.size) (va_cwS n hts hg hw rfl rfl hdesc hR) ⟨hbl, hpre⟩ rfl hn hl.1 rfl (lv_room hsum) hd hcs) hS hFc (fun v u H1 locs1 hp hP1 hD1 hk hS1 => ?_)
  rw [hw1 u] at hP1 hD1
  obtain ⟨hP2, hD2⟩ := ww_join hP hD is hC (hadr u) hk hFc hP1 hD1
  rw [hws u] at hP2 hD2
  exact kk v u hp H1 locs1 ls hP2 hD2 hS1 hl
theorem r_callI (C : ww_C X cc n0 own Ts rm) (hd : decode cc pc = .ok (.invokespecial index, 3)) (hM : CT X.1 X.2.2.1 y wd rmY (.ref b :: As) wc post w1) (hg : GoodIn Ts wd) (hw : wd = Cond.code y bytes maxL none :: wd')
    (hi1 : Cond.initialized y.cls ∈ Ts) (hi2 : Cond.methodLink own index y ∈ Ts) (hi3 : Cond.instanceMethod y ∈ Ts) (hnm : y.name = "<init>")
    (hdesc : y.cls ≠ "java/lang/invoke/MethodHandle" ∧ y.cls ≠ "java/lang/invoke/VarHandle" ∧ (parseMethodDescriptor y.desc).map (fun d => d.parameters.length) = some n) (hn : As.length = n) (hR : rmY.frames + 1 ≤ rm.frames ∧ 8 + (maxL + 11) + rmY.locals ≤ rm.locals) (hcs : kc + rmY.cells ≤ rm.cells ∧ ks + rmY.slots ≤ rm.slots)
    (hst : st = As.reverse ++ .ref b :: rest) (hsum : (rest.map fun v => v.category).sum ≤ 8) (is : List Nat) (hnd : va_nd is = true) (hC : is.map (fun i => ws[i]?) = wc.map some) (wo wn : S → va_W) (hw1 : ∀ u, w1 u = wo u ++ wn u) (hadr : ∀ u, (wo u).map Prod.fst = wc.map Prod.fst) (hws : ∀ u, ww_put ws is (wo u) ++ wn u = ws' u)
    (kk : ∀ (v : Option Value) (u : S), post v u → RW X (kc + rmY.cells) (ks + rmY.slots) (pc + 3) lv (v.toList ++ rest) (ws' u)) : RW X kc ks pc lv st ws := by
  obtain ⟨g, p, l, e, R, s, m, args, below, meth, c, A, H0, nL, Q⟩ := X
  obtain ⟨hx, hb, hml, rfl, hown, hts, hK, hA, hlocks, rfl⟩ := C
  intro H locs ls hP hD hS hl
  subst hst
  have hPc := ww_subP (ws := ws) hP hC
  have hDc := ww_subD (ws := ws) hD hnd hC
  have hFc := va_free (wc := wc) hD hS hA is hC
  obtain ⟨hbl, hpre⟩ := ww_pre (av := .ref b :: As) hPc hK hDc
  refine ww_callg (va_runI (As := As) (rest := rest) ⟨hx, hb, hml, hown, hts⟩ (hM H.size) (cwI n hts hg hw rfl rfl (hts _ hi1) (hts _ hi2) (hts _ hi3) hnm hdesc hR) ⟨hbl, hpre⟩ rfl hn hl.1 rfl (lv_room hsum) hd hcs) hS hFc (fun v u H1 locs1 hp hP1 hD1 hk hS1 => ?_)
  rw [hw1 u] at hP1 hD1
  obtain ⟨hP2, hD2⟩ := ww_join hP hD is hC (hadr u) hk hFc hP1 hD1
  rw [hws u] at hP2 hD2
  exact kk v u hp H1 locs1 ls hP2 hD2 hS1 hl
/-- calls that make nothing -/
theorem r_callV0 {CC : String} {ci N : Nat} {T : u_T} {fs : List Value} (C : ww_C X cc n0 own Ts rm) (hd : decode cc pc = .ok (.invokevirtual index, 3)) (hM : CT X.1 X.2.2.1 y wd rmY (.ref b :: As) wc post w1) (hg : GoodIn Ts (wsV own index CC y wd)) (hw : wd = Cond.code y bytes maxL ret :: wd')
    (hdesc : y.cls = CC ∧ y.cls ≠ "java/lang/invoke/MethodHandle" ∧ y.cls ≠ "java/lang/invoke/VarHandle" ∧ (parseMethodDescriptor y.desc).map (fun d => d.parameters.length) = some n) (hn : As.length = n) (hR : rmY.frames + 1 ≤ rm.frames ∧ 8 + (maxL + 11) + rmY.locals ≤ rm.locals) (hz : rmY.cells = 0 ∧ rmY.slots = 0) (hcs : kc ≤ rm.cells ∧ ks ≤ rm.slots)
    (hst : st = As.reverse ++ .ref b :: rest) (hsum : (rest.map fun v => v.category).sum ≤ 8) (q0 : Nat) (hq : wc[q0]? = some (b, .inr (ci, fs))) (hci : vwCl[ci]? = some (CC, T, N)) (is : List Nat) (hnd : va_nd is = true) (hC : is.map (fun i => ws[i]?) = wc.map some) (hadr : ∀ u, (w1 u).map Prod.fst = wc.map Prod.fst) (hws : ∀ u, ww_put ws is (w1 u) = ws' u)
    (kk : ∀ (v : Option Value) (u : S), post v u → RW X kc ks (pc + 3) lv (v.toList ++ rest) (ws' u)) : RW X kc ks pc lv st ws :=
  r_callV C hd hM hg hw hdesc hn hR (by rw [hz.1, hz.2]; exact hcs) hst hsum q0 hq hci is hnd hC w1 (fun _ => []) (fun u => (List.append_nil _).symm) hadr (fun u => (List.append_nil _).trans (hws u)) (fun v u h => by rw [hz.1, hz.2]; exact kk v u h)
theorem r_callS0 (C : ww_C X cc n0 own Ts rm) (hd : decode cc pc = .ok (.invokestatic index, 3)) (hM : CT X.1 X.2.2.1 y wd rmY As wc post w1) (hg : GoodIn Ts (va_wsS own index y wd)) (hw : wd = Cond.code y bytes maxL ret :: wd')
    (hdesc : y.cls ≠ "java/lang/invoke/MethodHandle" ∧ y.cls ≠ "java/lang/invoke/VarHandle" ∧ (parseMethodDescriptor y.desc).map (fun d => d.parameters.length) = some n) (hn : As.length = n) (hR : rmY.frames + 1 ≤ rm.frames ∧ 8 + (maxL + 11) + rmY.locals ≤ rm.locals) (hz : rmY.cells = 0 ∧ rmY.slots = 0) (hcs : kc ≤ rm.cells ∧ ks ≤ rm.slots)
    (hst : st = As.reverse ++ rest) (hsum : (rest.map fun v => v.category).sum ≤ 8) (is : List Nat) (hnd : va_nd is = true) (hC : is.map (fun i => ws[i]?) = wc.map some) (hadr : ∀ u, (w1 u).map Prod.fst = wc.map Prod.fst) (hws : ∀ u, ww_put ws is (w1 u) = ws' u)
    (kk : ∀ (v : Option Value) (u : S), post v u → RW X kc ks (pc + 3) lv (v.toList ++ rest) (ws' u)) : RW X kc ks pc lv st ws :=
  r_callS C hd hM hg hw hdesc hn hR (by rw [hz.1, hz.2]; exact hcs) hst hsum is hnd hC w1 (fun _ => []) (fun u => (List.append_nil _).symm) hadr (fun u => (List.append_nil _).trans (hws u)) (fun v u h => by rw [hz.1, hz.2]; exact kk v u h)
end
abbrev ww_rm (n : Nat) : Room := { frames := n, cells := 0, slots := 0, locals := 40 * n }
