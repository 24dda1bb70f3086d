/-! an int[a][b] made at once -/
def mnO (c : ClassId) (N h0 : Nat) : Nat → Cell
  | 0 => { cls := c, slots := Array.replicate N .null, vm := .none }
  | i + 1 => (mnO c N h0 i).setSlot i (.ref (h0 + 1 + i))
def mnI (d : ClassId) (M : Nat) : Cell := { cls := d, slots := Array.replicate M (.int 0), vm := .none }
def mnS (s : State) (c d : ClassId) (N M : Nat) : Nat → State
  | 0 => s.pushCell (mnO c N s.heap.size 0)
  | i + 1 => ((mnS s c d N M i).pushCell (mnI d M)).setCell s.heap.size (mnO c N s.heap.size (i + 1))
theorem mnO_is (c : ClassId) (N h0 : Nat) : ∀ i, (mnO c N h0 i).cls = c ∧ (mnO c N h0 i).vm = .none ∧ (mnO c N h0 i).slots.size = N
  | 0 => ⟨rfl, rfl, by simp [mnO]⟩
  | i + 1 => by
    have h := mnO_is c N h0 i
    simp [mnO, Cell.setSlot, h.1, h.2.1, h.2.2]
theorem mnS_is (s : State) (c d : ClassId) (N M : Nat) : ∀ i, (mnS s c d N M i).heap.size = s.heap.size + 1 + i ∧ (mnS s c d N M i).heap[s.heap.size]? = some (mnO c N s.heap.size i) ∧ (mnS s c d N M i).vm = s.vm ∧ (mnS s c d N M i).slotsUsed = s.slotsUsed + N + i * M
  | 0 => ⟨by simp [mnS], by simp [mnS], rfl, by simp [mnS, mnO]⟩
  | i + 1 => by
    obtain ⟨h1, h2, h3, h4⟩ := mnS_is s c d N M i
    have hlt : s.heap.size < (mnS s c d N M i).heap.size := by omega
    refine ⟨?_, State.heap_setCell_self (by rw [State.heap_pushCell_of_lt (h := hlt)]; exact h2), by simp [mnS, h3], ?_⟩
    · simp [mnS, State.setCell, h1]; omega
    · simp [mnS, h4, mnI, Nat.succ_mul]; omega
theorem mnS_top (s : State) (f : JFrame) (c d : ClassId) (N M : Nat) : ∀ i, mnS (s.setTop f) c d N M i = (mnS s c d N M i).setTop f
  | 0 => rfl
  | i + 1 => by simp only [mnS, mnS_top s f c d N M i, State.heap_setTop, State.pushCell_setTop, State.setCell_setTop]
theorem mnS_old (s : State) (c d : ClassId) (N M : Nat) {a : Addr} (ha : a < s.heap.size) : ∀ i, (mnS s c d N M i).heap[a]? = s.heap[a]?
  | 0 => State.heap_pushCell_of_lt _ _ ha
  | i + 1 => by
    have h1 := (mnS_is s c d N M i).1
    show (((mnS s c d N M i).pushCell (mnI d M)).setCell s.heap.size _).heap[a]? = _
    rw [State.heap_setCell_other (Nat.ne_of_gt ha), State.heap_pushCell_of_lt (h := Nat.lt_of_lt_of_le ha (by rw [h1]; omega))]
    exact mnS_old s c d N M ha i
theorem mnS_in (s : State) (c d : ClassId) (N M : Nat) : ∀ i j, j < i → (mnS s c d N M i).heap[s.heap.size + 1 + j]? = some (mnI d M)
  | 0, j, h => absurd h (Nat.not_lt_zero j)
  | i + 1, j, h => by
    have h1 := (mnS_is s c d N M i).1
    show (((mnS s c d N M i).pushCell (mnI d M)).setCell s.heap.size _).heap[s.heap.size + 1 + j]? = _
    rw [State.heap_setCell_other (show s.heap.size ≠ s.heap.size + 1 + j by omega)]
    by_cases q : j = i
    · subst q
      rw [← h1]
      exact State.heap_pushCell_size _ _
    · rw [State.heap_pushCell_of_lt (h := (show s.heap.size + 1 + j < (mnS s c d N M i).heap.size by rw [h1]; omega))]
      exact mnS_in s c d N M i j (by omega)
theorem mnO_arr (c : ClassId) (N h0 : Nat) : ∀ i : Nat, mnO c N h0 i = arrV c N (fun j => va_rf (if j < i then some (h0 + 1 + j) else none))
  | 0 => by
    show ({ cls := c, slots := Array.replicate N .null, vm := .none } : Cell) = _
    rw [arrV_new]
    refine congrArg (arrV c N) (funext fun j => ?_)
    simp [va_rf]
  | i + 1 => by
    show (mnO c N h0 i).setSlot i (.ref (h0 + 1 + i)) = _
    rw [mnO_arr c N h0 i, arrV_store]
    refine congrArg (arrV c N) (funext fun j => ?_)
    by_cases e : j = i
    · subst e; simp [updV, va_rf]
    · by_cases h : j < i
      · simp [updV, e, h, Nat.lt_succ_of_lt h]
      · simp [updV, e, h, show ¬ j < i + 1 by omega]
section
variable {E : CtlPost} {e : Env} {d : Bool} {acts : List Action} {s : State}
theorem mn_new {c comp : ClassId} {k : Class} {type : FieldType} {len : Nat} {v0 : Value} (hk : s.vm.classes[c]? = some k) (hkind : k.kind = .array comp type)
    (hlimit : ¬ len > e.platform.arrayLengthLimit) (hheap : ¬ len * componentBytes type > e.platform.maxHeapBytes) (hfit : fits type v0 = true) (hdef : v0.isDefault = true) {Q : Addr → Pre}
    (h1 : s.heap.size < e.platform.maxCells) (h2 : s.slotsUsed + len ≤ e.platform.maxSlots)
    (hq : Q s.heap.size d acts (s.pushCell { cls := c, slots := Array.replicate len v0, vm := .none })) : wp (Jvm.newArray c len v0) Q E e d acts s := by
  have hall : allocActs (Array.replicate len v0) s.heap.size acts = acts := by
    unfold allocActs
    rw [if_pos (by rw [Array.all_replicate]; split <;> simp [hdef])]
  have hfs : ∀ i v, (Array.replicate len v0)[i]? = some v → s.fitsSlot c .none i v = true := fun i v hv => by
    rw [Array.getElem?_replicate] at hv
    by_cases q : i < len
    · rw [if_pos q] at hv; cases hv; simp [State.fitsSlot, State.slotType?, hk, hkind, hfit]
    · rw [if_neg q] at hv; cases hv
  simp only [Jvm.newArray, Jvm.arrayFits, wp_bind', W.ask, W.ite, hlimit, if_false, wp_pure', W.theClass, hk, hkind, hheap, W.alloc, W.stop, Option.some.injEq, exists_eq_left', Array.size_replicate, hall]
  rw [if_neg (by omega)]
  exact ⟨h1, h2, hfs, hq⟩
theorem mn_one {comp cd : ClassId} {kc : Class} {m : Int32} {M : Nat} (hM : m.toNatClampNeg = M) (hkc : s.vm.classes[comp]? = some kc) (hkindc : kc.kind = .array cd .int) (hm : ¬ m < 0)
    (hl2 : ¬ M > e.platform.arrayLengthLimit) (hh2 : ¬ M * 4 > e.platform.maxHeapBytes) (h1 : s.heap.size < e.platform.maxCells) (h2 : s.slotsUsed + M ≤ e.platform.maxSlots)
    {Q : Addr → Pre} (hq : Q s.heap.size d acts (s.pushCell (mnI comp M))) : wp (multianewarray.make comp [m]) Q E e d acts s := by
  subst hM
  rw [multianewarray.make]
  simp only [wp_bind', W.ite, hm, if_false, wp_pure', W.theClass, hkc, hkindc, Option.some.injEq, exists_eq_left']
  exact mn_new hkc hkindc hl2 hh2 rfl rfl h1 h2 hq
theorem mn_two {c comp cd : ClassId} {k kc : Class} {n m : Int32} {N M : Nat} (hN : n.toNatClampNeg = N) (hM : m.toNatClampNeg = M) (hk : s.vm.classes[c]? = some k) (hkind : k.kind = .array comp (.array .int)) (hkc : s.vm.classes[comp]? = some kc) (hkindc : kc.kind = .array cd .int) (hn : ¬ n < 0) (hm : ¬ m < 0)
    (hl1 : ¬ N > e.platform.arrayLengthLimit) (hh1 : ¬ N * 4 > e.platform.maxHeapBytes) (hl2 : ¬ M > e.platform.arrayLengthLimit) (hh2 : ¬ M * 4 > e.platform.maxHeapBytes)
    (hc : s.heap.size + 1 + N ≤ e.platform.maxCells) (hs : s.slotsUsed + N + N * M ≤ e.platform.maxSlots)
    {Q : Addr → Pre} (hq : ∀ d' acts', Q s.heap.size d' acts' (mnS s c comp N M N)) : wp (multianewarray.make c [n, m]) Q E e d acts s := by
  subst hN
  have hfind : ([m].find? (· < 0)) = none := by simp [hm]
  have hmul0 : 0 ≤ n.toNatClampNeg * M := Nat.zero_le _
  rw [multianewarray.make]
  simp only [wp_bind', W.ite, hn, if_false, wp_pure', W.theClass, hk, hkind, Option.some.injEq, exists_eq_left']
  refine mn_new hk hkind hl1 hh1 rfl rfl (by omega) (by omega) ?_
  simp only [hfind]
  rw [ite_self, wp_bind', Std.Legacy.Range.forIn_eq_forIn_range']
  rw [show ([:n.toNatClampNeg] : Std.Legacy.Range).size = n.toNatClampNeg by simp [Std.Legacy.Range.size]]
  show wp (forIn (List.range' 0 n.toNatClampNeg 1) PUnit.unit _) _ E e d acts _
  refine wp_forIn_inv (fun rest s' => ∃ i, i ≤ n.toNatClampNeg ∧ rest = List.range' i (n.toNatClampNeg - i) ∧ s' = mnS s c comp n.toNatClampNeg M i) _ _ ⟨0, Nat.zero_le _, rfl, rfl⟩ ?_ ?_
  · rintro x rest s' d' acts' Q' ⟨i, hi, hl, rfl⟩ hnext
    have hlt : i < n.toNatClampNeg := Classical.byContradiction fun h => by
      rw [show n.toNatClampNeg - i = 0 by omega] at hl; simp at hl
    rw [show n.toNatClampNeg - i = (n.toNatClampNeg - (i + 1)) + 1 by omega, List.range'_succ] at hl
    obtain ⟨rfl, hrest⟩ := List.cons.inj hl
    obtain ⟨f1, f2, f3, f4⟩ := mnS_is s c comp n.toNatClampNeg M x
    obtain ⟨o1, o2, o3⟩ := mnO_is c n.toNatClampNeg s.heap.size x
    have hmul : x * M + M ≤ n.toNatClampNeg * M := by
      have := Nat.mul_le_mul_right M (show x + 1 ≤ n.toNatClampNeg from hlt)
      rw [Nat.succ_mul] at this; exact this
    simp only [wp_bind']
    refine mn_one hM (by rw [f3]; exact hkc) hkindc hm hl2 hh2 (by rw [f1]; omega) (by rw [f4]; omega) ?_
    simp only [wp_bind', W.writeLoc, wp_pure']
    refine ⟨mnO c n.toNatClampNeg s.heap.size x, by rw [State.heap_pushCell_of_lt (h := (show s.heap.size < (mnS s c comp n.toNatClampNeg M x).heap.size by rw [f1]; omega))]; exact f2, by rw [o2]; simp, by rw [o3]; exact hlt, ?_, hnext _ _ _ ⟨x + 1, hlt, hrest, ?_⟩⟩
    · rw [o1, o2]
      simp [State.fitsSlot, State.slotType?, f3, hk, hkind]
      rfl
    · rw [f1]; rfl
  · rintro s' d' acts' ⟨i, hi, hl, rfl⟩
    have hiN : i = n.toNatClampNeg := Classical.byContradiction fun h => by
      rw [show n.toNatClampNeg - i = (n.toNatClampNeg - (i + 1)) + 1 by omega, List.range'_succ] at hl; cases hl
    subst hiN
    simp only [wp_pure']
    exact hq _ _
end
section
variable {p : Program} {l : Launch} {e : Env} {R : Room} {s : State} {m : MethodId} {args : Array Value} {below : List Frame} {meth : Method} {c : Code} {T : State} {locs : List Loc} {cells slots : Nat}
theorem mn_stand (X : Stand p l e R s m args below meth c T locs cells slots) (cA comp : ClassId) (N M : Nat) : ∀ i, Stand p l e R s m args below meth c (mnS T cA comp N M i) (locs ++ (List.range i).map fun j => ⟨T.heap.size, j⟩) (cells + 1 + i) (slots + N + i * M)
  | 0 => by
    have h := X.pushed (mnO cA N T.heap.size 0)
    rw [(mnO_is cA N T.heap.size 0).2.2] at h
    simpa [mnS] using h
  | i + 1 => by
    obtain ⟨f1, f2, -, -⟩ := mnS_is T cA comp N M i
    have h := ((mn_stand X cA comp N M i).pushed (mnI comp M)).stored (show ((mnS T cA comp N M i).pushCell (mnI comp M)).heap[T.heap.size]? = some (mnO cA N T.heap.size i) by rw [State.heap_pushCell_of_lt (h := (show T.heap.size < (mnS T cA comp N M i).heap.size by rw [f1]; omega))]; exact f2) i (.ref (T.heap.size + 1 + i))
    rw [show (mnI comp M).slots.size = M by simp [mnI]] at h
    rw [show (locs ++ (List.range (i + 1)).map fun j => (⟨T.heap.size, j⟩ : Loc)) = (locs ++ (List.range i).map fun j => (⟨T.heap.size, j⟩ : Loc)) ++ [⟨T.heap.size, i⟩] by simp [List.range_succ, List.append_assoc], show slots + N + (i + 1) * M = slots + N + i * M + M by rw [Nat.succ_mul]; omega]
    exact h
theorem mn_step (X : Stand p l e R s m args below meth c T locs cells slots) (hexec : p.tables.exec = Jvm.exec) {own : String} {index : Nat} (hown : s.vm.findClass own = some m.cls) (hclink : (Cond.classLink own index "[[I").before args s = true) (hax : ww_ax s)
    {g : JFrame} (hg : g.method = m) (hdg : decode c.code g.pc = .ok (.multianewarray index 2, 4)) {n k : Int32} {N M : Nat} {rest : List Value} (hstack : g.stack = .int k :: .int n :: rest) (hN : n.toNatClampNeg = N) (hM : k.toNatClampNeg = M)
    (hn : ¬ n < 0) (hk : ¬ k < 0) (hb1 : N ≤ 100000) (hb2 : M ≤ 100000) (hcells : cells + (1 + N) ≤ R.cells) (hslots : slots + (N + N * M) ≤ R.slots) :
    ∃ (vm₁ : Vm) (cA comp : ClassId), s.vm.findClass "[[I" = some cA ∧ s.vm.findClass "[I" = some comp ∧ Stand p l e R s m args below meth c (mnS (T.setVm vm₁) cA comp N M N) locs (cells + 1 + N) (slots + N + N * M) ∧
      ∀ target, Steps p.tables e below ((mnS (T.setVm vm₁) cA comp N M N).setTop { g with pc := g.pc + 4, stack := .ref T.heap.size :: rest }) target → Steps p.tables e below (T.setTop g) target := by
  subst hg
  have hpl : e.platform.magicAccessors = ({} : Platform).magicAccessors := by rw [X.admits.platform]
  obtain ⟨cA, comp, kA, kC, cd, hnameA, hcomp, hkA, hkindA, hkC, hkindC⟩ := hax
  obtain ⟨c0, hfc0, hcl⟩ := Cond.classLink_spec hown hclink e.platform hpl
  cases hnameA.symm.trans hfc0
  obtain ⟨hg₁, hwarm₁, hready₁⟩ := State.classEntry (e := e) X.warmed hcl
  generalize T.vm.noted g.method.cls index (.cls cA) = vm₁ at hg₁ hwarm₁ hready₁
  have hal : s.vm.Alike vm₁ := hwarm₁.alike
  obtain ⟨kA₁, hkA₁, heA⟩ := hal.2.2 _ _ hkA
  obtain ⟨kC₁, hkC₁, heC⟩ := hal.2.2 _ _ hkC
  have X₁ := X.noted hwarm₁
  obtain ⟨hr1, hr2⟩ := X.roomAbove hcells hslots
  have XF := mn_stand X₁ cA comp N M N
  refine ⟨vm₁, cA, comp, hnameA, hcomp, XF.dropFresh (fun x hx => ?_), fun target hrest => ?_⟩
  · obtain ⟨j, -, rfl⟩ := List.mem_map.mp hx
    exact X.heapGrown
  have hal1 := Launch.admits_arrayLengthLimit X.admits
  have hal2 := Launch.admits_maxHeapBytes X.admits
  jvm_step X.here [hexec, hdg]
  simp only [multianewarray.sem, wp_bind', W.resolveClassAt_links (State.method?_setTop g X.here.top) hg₁]
  rw [W.popN, if_neg (by decide)]
  refine ⟨g, State.topJava?_setTop' (s := T.setVm vm₁) g X.here.top, [.int n, .int k], rest, rfl, hstack, ?_⟩
  simp only [List.mapM_cons, List.mapM_nil, wp_bind', wp_pure']
  refine mn_two hN hM (k := kA₁) (kc := kC₁) (comp := comp) (cd := cd) hkA₁ (by rw [heA]; exact hkindA) hkC₁ (by rw [heC]; exact hkindC) hn hk (by rw [hal1]; omega) (by rw [hal2]; omega) (by rw [hal1]; omega) (by rw [hal2]; omega) (by show T.heap.size + 1 + _ ≤ _; omega) (by show T.slotsUsed + _ + _ ≤ _; omega) (fun d' acts' => ?_)
  have eS : ((T.setTop g).setVm vm₁).setTop { g with stack := rest } = (T.setVm vm₁).setTop { g with stack := rest } := by
    show ((T.setVm vm₁).setTop g).setTop _ = _
    rw [State.setTop_setTop]
  rw [eS, mnS_top]
  simp only [wp_bind', W.mark, W.pushRef, State.topJava?_setTop' _ XF.here.top, Option.some.injEq, exists_eq_left', State.setTop_setTop, State.heap_setTop]
  intro acts
  simp [jvm, XF.here.top]
  exact hrest
end
def ww_pl (cI : ClassId) (b a : Nat) (r : Nat → Nat) (f : Nat → Nat → Int32) : va_W := (List.range a).map (fun u => (r u, .inl (cI, b, .inl (f u))))
