/-! the law: mathematics of its state, and rows of its own -/
theorem cloP_ext {n N : Nat} {A : Nat → Nat} {g g' : Nat → Option Nat} (h : ∀ c, c < N → g c = g' c) (c : Nat) : cloP n N A g c ↔ cloP n N A g' c :=
  ⟨fun w b h1 h2 h3 => w b h1 (fun d hd q => h2 d hd (by rw [← h d hd]; exact q)) h3, fun w b h1 h2 h3 => w b h1 (fun d hd q => h2 d hd (by rw [h d hd]; exact q)) h3⟩
theorem leftN_ext {n N : Nat} {A : Nat → Nat} {g g' : Nat → Option Nat} (h : ∀ c, c < N → g c = g' c) : leftN n N A g = leftN n N A g' := cn_congr (fun c _ => not_congr (cloP_ext h c))
theorem leftN_le {n N : Nat} {A : Nat → Nat} {g : Nat → Option Nat} : leftN n N A g ≤ N := cn_le N
theorem needP_ext {n N ss : Nat} {lf : Nat → Nat} {g g' : Nat → Option Nat} (h : ∀ c, c < N → g c = g' c) : needP n N lf ss g ↔ needP n N lf ss g' := by
  unfold needP
  rw [cntS_ext (b := woF lf ss g) (b' := woF lf ss g') (fun c hc => by unfold woF; rw [h c hc])]
  exact and_congr ⟨fun ⟨c, hc, e, q⟩ => ⟨c, hc, e, by rw [← h c hc]; exact q⟩, fun ⟨c, hc, e, q⟩ => ⟨c, hc, e, by rw [h c hc]; exact q⟩⟩ Iff.rfl
theorem okB_of {n N : Nat} {g W0 : Nat → Option Nat} (h : ofW g W0) (hok : okB n N W0) : okB n N g :=
  ⟨fun c v e => hok.1 c v (h c v e), fun c d v hc hd hcd ht e1 e2 => hok.2 c d v hc hd hcd ht (h c v e1) (h d v e2)⟩
theorem tryF_ma {n N ez rs tk pb : Nat} {lf th : Nat → Nat} {la ma mb : Int32} {x : Int64} (hn : (n = 4 ∧ N = 16) ∨ (n = 6 ∧ N = 36)) (h : ∀ k, k ≤ 36 → (nI k ≤ ma ↔ nI k ≤ mb)) : tryF n N lf th ez la ma x rs tk pb = tryF n N lf th ez la mb x rs tk pb := by
  have e : ∀ (g : Nat → Option Nat) (E : Prop), metP ez la ma (fil N g) E = metP ez la mb (fil N g) E := fun g E => propext (by
    unfold metP
    have := fil_le N g
    exact and_congr Iff.rfl (and_congr (h _ (by omega)) Iff.rfl))
  unfold tryF
  simp only [e]
theorem makF_ma {n N ez : Nat} {lf th : Nat → Nat} {la ma mb : Int32} (hn : (n = 4 ∧ N = 16) ∨ (n = 6 ∧ N = 36)) (h : ∀ k, k ≤ 36 → (nI k ≤ ma ↔ nI k ≤ mb)) : ∀ (k : Nat) (x : Int64) (t rs tk pb : Nat), makF n N lf th ez la ma k x t rs tk pb = makF n N lf th ez la mb k x t rs tk pb
  | 0, _, _, _, _, _ => rfl
  | k + 1, x, t, rs, tk, pb => by
    have e := tryF_ma (ez := ez) (rs := rs) (tk := tk) (pb := pb) (lf := lf) (th := th) (la := la) (x := x) hn h
    by_cases w : (tryF n N lf th ez la ma x rs tk pb).1
    · rw [makF_t w, makF_t (ma := mb) (by rw [← e]; exact w), e]
    · rw [makF_f w, makF_f (ma := mb) (by rw [← e]; exact w), e]
      exact makF_ma hn h k _ _ _ _ _
theorem td_M {n N gn un : Nat} {M : MKT} (h : M.1 → gn = fil N M.2.2.2.2.2.2.2 ∧ un = leftN n N (asA M.2.2.2.2.2.2.1) M.2.2.2.2.2.2.2) (j : Nat) : teM n N M j = tdF M.2.2.1 M.2.2.2.1 M.2.2.2.2.1 M.2.2.2.2.2.1 M.1 gn un M.2.1 j := by
  unfold teM tdF
  by_cases w : M.1
  · obtain ⟨e1, e2⟩ := h w
    rw [e1, e2]
  · have a1 : dI (M.1 ∧ leftN n N (asA M.2.2.2.2.2.2.1) M.2.2.2.2.2.2.2 = 0) = 0 := dI_f (fun q => w q.1)
    have a2 : dI (M.1 ∧ un = 0) = 0 := dI_f (fun q => w q.1)
    simp only [a1, a2, if_neg w]
theorem td_0 (j : Nat) (hj : j < 7) : (fun _ => 0 : Nat → Nat) j = tdF 0 0 0 0 False 0 0 0 j := by
  have a2 : dI (False ∧ (0 : Nat) = 0) = 0 := dI_f (fun q => q.1)
  have a3 : hb 0 = 0 := by decide
  unfold tdF
  rcases (show j = 0 ∨ j = 1 ∨ j = 2 ∨ j = 3 ∨ j = 4 ∨ j = 5 ∨ j = 6 by omega) with rfl | rfl | rfl | rfl | rfl | rfl | rfl <;> simp [a2, a3, dI_f (fun q : False => q)]
theorem uO_nI {ty : Nat → Nat} {k w w' : Nat} (h : nI w = nI w') : ∀ i, nO (uO ty k w) i = nO (uO ty k w') i := fun i => by
  show nI (uO ty k w i) = nI (uO ty k w' i)
  unfold uO
  by_cases e : i = k
  · rw [if_pos e, if_pos e]; exact h
  · rw [if_neg e, if_neg e]
theorem uO_th {th : Nat → Nat} {j k m : Nat} (h : ∀ c, th c < m) (hk : k < m) : ∀ c, uO th j k c < m := fun c => by
  unfold uO
  by_cases e : c = j
  · rw [if_pos e]; exact hk
  · rw [if_neg e]; exact h c
theorem and15 (z : Int32) : ∃ w, w < 16 ∧ z &&& nI 15 = nI w := by
  refine ⟨(z &&& nI 15).toInt.toNat, ?_, ?_⟩
  · have h1 : (z &&& nI 15).toBitVec.toNat ≤ 15 := by
      rw [Int32.toBitVec_and, BitVec.toNat_and]
      have : (nI 15).toBitVec.toNat = 15 := by decide
      rw [this]
      exact Nat.and_le_right
    have h2 : (z &&& nI 15).toInt = ((z &&& nI 15).toBitVec.toNat : Int) := by
      show (z &&& nI 15).toBitVec.toInt = _
      rw [BitVec.toInt_eq_toNat_of_lt]
      have : (z &&& nI 15).toBitVec.toNat ≤ 15 := h1
      omega
    rw [h2]
    have : (z &&& nI 15).toBitVec.toNat ≤ 15 := h1
    omega
  · have h1 : (z &&& nI 15).toBitVec.toNat ≤ 15 := by
      rw [Int32.toBitVec_and, BitVec.toNat_and]
      have : (nI 15).toBitVec.toNat = 15 := by decide
      rw [this]
      exact Nat.and_le_right
    have h2 : (z &&& nI 15).toInt = ((z &&& nI 15).toBitVec.toNat : Int) := by
      show (z &&& nI 15).toBitVec.toInt = _
      rw [BitVec.toInt_eq_toNat_of_lt]
      have : (z &&& nI 15).toBitVec.toNat ≤ 15 := h1
      omega
    have h3 : (z &&& nI 15).toBitVec.toNat ≤ 15 := h1
    apply Int32.toInt_inj.mp
    rw [nI_toInt (by omega)]
    omega
theorem lp_le {i L : Nat} (hi : i < 3000) (hL : L ≤ 2049) : (nI L - nI 4 < nI i ↔ ¬ (i + 4 ≤ L)) := by
  by_cases h : 4 ≤ L
  · rw [pk_sub h, nI_ltI (by omega) (by omega)]
    omega
  · have e : ∀ L, L < 4 → nI L - nI 4 < 0 := by decide
    have h1 := e L (by omega)
    have h2 : (0 : Int32) ≤ nI i := nI_pos' (by omega)
    exact ⟨fun _ => by omega, fun _ => Int32.lt_of_lt_of_le h1 h2⟩
theorem lg_same {a b : Int64} (h : a = b) : lg_cmp a b = 0 := (lg_cmp_eq a b).mpr h
theorem vp_upd0 {f : Nat → Int64} {v : Int64} : vp_updL f 0 v 0 = v := if_pos rfl
/-! the script -/
def vs_X (X : ww_X) (b L : Nat) (xs : Nat → Int32) : Prop := match X with
  | (_, _, _, _, _, s, _, _, _, _, _, A, H0, _, _) => va_X b L xs s H0 ∧ b < H0.size ∧ ¬ A b
section
variable {X : ww_X} {cc : ByteArray} {n0 : Nat} {own : String} {Ts : List Cond} {rm : Room} {kc ks pc : Nat} {lv : List (Nat × Value)} {st : List Value} {ws : va_W} {b L : Nat} {xs : Nat → Int32}
theorem r_slen (C : ww_C X cc n0 own Ts rm) (S : vs_X X b L xs) (hd : decode cc pc = .ok (.arraylength, 1)) (k : RW X kc ks (pc + 1) lv (.int (nI L) :: st) ws) : RW X kc ks pc lv (.ref b :: st) ws := by
  obtain ⟨g, p, l, e, R, s, m, args, below, meth, c, A, H0, nL, Q⟩ := X
  obtain ⟨hx, hb, hml, rfl, hown, hts, hK, hA, hlocks, rfl⟩ := C
  obtain ⟨hX, hbl, hbA⟩ := S
  intro H locs ls hP hD hS hl
  exact va_slen hx hb hX hbl hbA hS hd (k H locs ls hP hD hS hl)
theorem r_sald {i : Nat} (C : ww_C X cc n0 own Ts rm) (S : vs_X X b L xs) (hd : decode cc pc = .ok (.iaload, 1)) (hi : i < L) (hL : L < 2147483648) (k : RW X kc ks (pc + 1) lv (.int (xs i) :: st) ws) : RW X kc ks pc lv (.int (nI i) :: .ref b :: st) ws := by
  obtain ⟨g, p, l, e, R, s, m, args, below, meth, c, A, H0, nL, Q⟩ := X
  obtain ⟨hx, hb, hml, rfl, hown, hts, hK, hA, hlocks, rfl⟩ := C
  obtain ⟨hX, hbl, hbA⟩ := S
  intro H locs ls hP hD hS hl
  have hk9 := k H locs ls hP hD hS hl
  have e9 : (nI i).toNatClampNeg = i := nI_clamp (by omega)
  refine va_sld hx hb hX hbl hbA hS (vp_in_nI hi hL) hd ?_
  rw [e9]
  exact hk9
end
/-- the contract of the law's 'cell': it reads the script -/
def CTS (g : ww_G) (l : Launch) (y : MethodName) (wd : List Cond) (rm : Room) (av : List Value) (b L : Nat) (xs : Nat → Int32) (r : Int32) : Prop :=
  ∀ sz : Nat, Met l y wd rm (va_Pc av (fun U => U.heap.size = sz ∧ va_X b L xs U U.heap ∧ b < sz ∧ va_K g.1 vwCl (ww_t g) U))
    (fun _ st oc t => (∃ (v : Option Value) (_ : Unit), oc = .returned v ∧ v = some (.int r) ∧ va_P g.1 vwCl [] t.heap ∧ va_D (va_A [] sz) []) ∧ va_F (va_A [] sz) st t) rm.cells rm.slots (va_A [] sz)
theorem ww_P0 {D : va_G} {H : Heap} : va_P D vwCl [] H := fun k q h => by simp at h
theorem ww_D0 {A : Nat → Prop} : va_D A [] := ⟨fun i j p q h => by simp at h, fun k q h => by simp at h⟩
theorem CTS.of {g : ww_G} {l : Launch} {y : MethodName} {wd wd' : List Cond} {rm : Room} {av : List Value} {b L : Nat} {xs : Nat → Int32} {r : Int32} (cc : ByteArray) (n0 : Nat) (own : String)
    (hy : plainName y.cls = true) (hw : wd = Cond.code y cc n0 (some .int) :: wd') (hown0 : y.cls = own) (hav : (lg_sl av).length ≤ n0)
    (body : ∀ X : ww_X, X.1 = g → X.2.2.1 = l → ww_C X cc n0 own wd rm → vs_X X b L xs → (∀ (pc : Nat) (lv : List (Nat × Value)), decode cc pc = .ok (.ireturn, 1) → RW X rm.cells rm.slots pc lv [.int r] []) → RW X 0 0 0 (lv_args 0 av) [] []) :
    CTS g l y wd rm av b L xs r := by
  intro sz
  refine Met.ofW (cc := cc) (maxL := n0) (ret := some .int) hy hw ?_
  intro p e s m args below meth c s₁ B hml hv
  obtain ⟨rfl, hsz, hX, hb, hK⟩ := hv
  have hts := atoms_spec (ws := wd) B.pre
  have hown : s.vm.findClass own = some m.cls := by rw [← hown0]; exact findClass_of_methodNamed B.named
  have hlocks := B.notSynchronized
  subst hsz
  have hl := lv_entry av (n := n0) hav
  rw [lg_entry_eq]
  have hbA : ¬ va_A [] s.heap.size b := fun h => by
    rcases h with ⟨k, e9, h⟩ | h
    · simp at h
    · omega
  generalize hAe : va_A [] s.heap.size = A at hbA ⊢
  have hA : ∀ q : Nat, s.heap.size ≤ q → A q := fun q h => by rw [← hAe]; exact Or.inr h
  refine body (g, p, l, e, rm, s, m, av.toArray, below, meth, c, A, s.heap, n0, _) rfl rfl ⟨B.exec, B.bytes, hml, rfl, hown, hts, hK, hA, hlocks, rfl⟩ ⟨hX, hb, hbA⟩ ?_ s.heap [] _ ww_P0 ww_D0 va_S.rf hl
  intro pc lv hd H locs ls hP1 hD1 hS1 hl1
  exact W.iret B.exec B.bytes B.returns (fun t ht hW => ⟨⟨_, (), rfl, rfl, ww_P0, ww_D0⟩, hS1.F ht⟩) hS1.2.2 hd
def kdS (L : Nat) (xs : Nat → Int32) : Int32 := if 0 < L then xs 0 else 0
theorem c_L_cell {g : ww_G} {l : Launch} {b L : Nat} {xs : Nat → Int32} (hL : L ≤ 2049) : CTS g l yL_cell wsL_cell (ww_rm 1) [.ref b, .int (nI 0)] b L xs (kdS L xs) := by
  refine CTS.of cL_cell 2 RL (by decide +kernel) rfl rfl (Nat.le_of_ble_eq_true rfl) ?_
  intro X hg hl C S hret
  subst hg; subst hl
  show RW X 0 0 0 [(0, .ref b), (1, .int (nI 0))] [] []
  refine r_iload_n C dL_cell_0 1 rfl rfl ?_
  refine r_aload_n C dL_cell_1 0 rfl rfl ?_
  refine r_slen C S dL_cell_2 ?_
  refine r_icmp_ge (tgt := 12) C dL_cell_3 (by decide) (fun h => ?_) (fun h => ?_)
  · have h : L ≤ 0 := (nI_leI (by omega) (by omega)).mp h
    refine r_iconst C dL_cell_12 (v := 0) (by decide) ?_
    have e : kdS L xs = 0 := if_neg (by omega)
    rw [e] at hret
    exact hret _ _ dL_cell_13
  · have h : ¬ L ≤ 0 := fun e9 => h ((nI_leI (by omega) (by omega)).mpr e9)
    refine r_aload_n C dL_cell_6 0 rfl rfl ?_
    refine r_iload_n C dL_cell_7 1 rfl rfl ?_
    refine r_sald C S dL_cell_8 (by omega) (by omega) ?_
    refine r_goto (tgt := 13) C dL_cell_9 (by decide) ?_
    have e : kdS L xs = xs 0 := if_pos (by omega)
    rw [e] at hret
    exact hret _ _ dL_cell_13
section
variable {X : ww_X} {cc : ByteArray} {n0 : Nat} {own : String} {Ts : List Cond} {rm : Room} {kc ks pc : Nat} {lv : List (Nat × Value)} {st : List Value} {ws : va_W} {b L : Nat} {xs : Nat → Int32}
variable {y : MethodName} {wd wd' : List Cond} {rmY : Room} {As : List Value} {index n maxL : Nat} {bytes : ByteArray} {ret : Option FieldType} {rest : List Value} {r : Int32}
def vs_H (X : ww_X) : Prop := match X with
  | (_, _, _, _, _, s, _, _, _, _, _, _, H0, _, _) => H0 = s.heap
theorem r_callSS (C : ww_C X cc n0 own Ts rm) (S : vs_X X b L xs) (hH : vs_H X) (hd : decode cc pc = .ok (.invokestatic index, 3)) (hM : CTS X.1 X.2.2.1 y wd rmY As b L xs r) (hg : GoodIn Ts (va_wsS own index y wd)) (hw : wd = Cond.code y bytes maxL ret :: wd')
    (hdesc : y.cls ≠ "java/lang/invoke/MethodHandle" ∧ y.cls ≠ "java/lang/invoke/VarHandle" ∧ (parseMethodDescriptor y.desc).map (fun d => d.parameters.length) = some n) (hn : As.length = n) (hR : rmY.frames + 1 ≤ rm.frames ∧ 8 + (maxL + 11) + rmY.locals ≤ rm.locals) (hz : rmY.cells = 0 ∧ rmY.slots = 0) (hcs : kc ≤ rm.cells ∧ ks ≤ rm.slots)
    (hst : st = As.reverse ++ rest) (hsum : (rest.map fun v => v.category).sum ≤ 8)
    (kk : RW X kc ks (pc + 3) lv (.int r :: rest) ws) : RW X kc ks pc lv st ws := by
  obtain ⟨g, p, l, e, R, s, m, args, below, meth, c, A, H0, nL, Q⟩ := X
  obtain ⟨hx, hb, hml, rfl, hown, hts, hK, hA, hlocks, rfl⟩ := C
  obtain ⟨hX, hbl, hbA⟩ := S
  obtain rfl := hH
  intro H locs ls hP hD hS hl
  subst hst
  have hC : ([] : List Nat).map (fun i => ws[i]?) = ([] : va_W).map some := rfl
  have hFc := va_free (wc := []) hD hS hA [] hC
  have hX2 : va_X b L xs s H := hX.kept (hS.2.1 b hbl hbA)
  have hbH : b < H.size := Nat.lt_of_lt_of_le hbl hS.1
  refine ww_callg (wc := []) (w1 := fun _ => []) (post := fun v _ => v = some (.int r)) (va_runS (As := As) (rest := rest) ⟨hx, hb, hml, hown, hts⟩ (hM H.size) (va_cwS n hts hg hw rfl rfl hdesc hR)
    ⟨fun a U g0 mk q => by obtain ⟨q0, q1, qX, qb, qK⟩ := q; exact ⟨q0, q1, va_X.moved (u := U) (U := U.calling g0 mk a) (Vm.Alike.refl U.vm) qX, qb, va_K.moved (u := U) (U := U.calling g0 mk a) (Vm.Alike.refl U.vm) qK⟩, fun U hU hW => ⟨rfl, by rw [hU], by rw [hU]; exact va_X.moved hW.alike hX2, hbH, va_K.moved hW.alike hK⟩⟩ rfl hn hl.1 rfl (lv_room hsum) hd (by rw [hz.1, hz.2]; exact hcs)) hS hFc (fun v u H1 locs1 hp hP1 hD1 hk hS1 => ?_)
  obtain ⟨hP2, hD2⟩ := ww_join (wo := []) (wn := []) hP hD [] hC rfl hk hFc ww_P0 ww_D0
  have hw2 : ww_put ws [] [] ++ [] = ws := by rw [List.append_nil]; rfl
  rw [hw2] at hP2 hD2
  subst hp
  rw [hz.1, hz.2]
  exact kk H1 locs1 ls hP2 hD2 hS1 hl
end
/-! the ends of the law -/
theorem vs_nil {p : Program} {l : Launch} {e : Env} {R : Room} {s : State} {m : MethodId} {args : Array Value} {below : List Frame} {meth : Method} {c : Code} {T : State} {locs : List Loc} {cells slots : Nat} (X : Stand p l e R s m args below meth c T locs cells slots) (h : ∀ z ∈ locs, s.heap.size ≤ z.base) : Stand p l e R s m args below meth c T [] cells slots := by
  refine ⟨X.admits, X.cas, X.clock, X.frames, X.room, X.hears, X.method, X.code, X.here, X.tail, X.warmed, X.limits, X.bytes, ?_⟩
  obtain ⟨h1, h2, h3, h4, h5, h6⟩ := X.same
  refine ⟨h1, h2, h3, h4, h5, fun a c9 hc => ?_⟩
  obtain ⟨d, e1, e2, e3, e4⟩ := h6 a c9 hc
  refine ⟨d, e1, e2, e3, fun i _ => e4 i (fun hm => ?_)⟩
  have h7 := h _ hm
  have h8 := (Array.getElem?_eq_some_iff.mp hc).1
  exact absurd h8 (Nat.not_lt.mpr h7)
def ww_EX (X : ww_X) : Prop := match X with
  | (_, _, _, _, _, s, _, _, _, _, _, _, _, _, _) => ww_E s
section
variable {X : ww_X} {cc : ByteArray} {n0 : Nat} {own : String} {Ts : List Cond} {rm : Room} {kc ks pc : Nat} {lv : List (Nat × Value)} {st : List Value}
variable {y : MethodName} {wd wd' : List Cond} {rmY : Room} {b : Nat} {As : List Value} {wc : va_W} {S : Type} {post : Option Value → S → Prop} {w1 : S → va_W} {index n maxL : Nat} {bytes : ByteArray} {rest : List Value} {ws' : S → va_W}
theorem r_callIE {wx pl : va_W} (C : ww_C X cc n0 own Ts rm) (hE : ww_EX X) (hd : decode cc pc = .ok (.invokespecial index, 3)) (hM : CTK X.1 X.2.2.1 y wd rmY (.ref b :: As) wc post w1) (hg : GoodIn Ts wd) (hw : wd = Cond.code y bytes maxL none :: wd')
    (hi1 : Cond.initialized y.cls ∈ Ts) (hi2 : Cond.methodLink own index y ∈ Ts) (hi3 : Cond.instanceMethod y ∈ Ts) (hnm : y.name = "<init>")
    (hdesc : y.cls ≠ "java/lang/invoke/MethodHandle" ∧ y.cls ≠ "java/lang/invoke/VarHandle" ∧ (parseMethodDescriptor y.desc).map (fun d => d.parameters.length) = some n) (hn : As.length = n) (hR : rmY.frames + 1 ≤ rm.frames ∧ 8 + (maxL + 11) + rmY.locals ≤ rm.locals) (hcs : kc + rmY.cells ≤ rm.cells ∧ ks + rmY.slots ≤ rm.slots)
    (hst : st = As.reverse ++ .ref b :: rest) (hsum : (rest.map fun v => v.category).sum ≤ 8) (is : List Nat) (hnd : is.Nodup) (hlt : ∀ i ∈ is, i < wx.length) (hC : is.map (fun i => wx[i]?) = wc.map some) (wo wn : S → va_W) (hw1 : ∀ u, w1 u = wo u ++ wn u) (hadr : ∀ u, (wo u).map Prod.fst = wc.map Prod.fst) (hws : ∀ u, ww_put wx is (wo u) ++ wn u = ws' u)
    (kk : ∀ (v : Option Value) (u : S), post v u → RW X (kc + rmY.cells) (ks + rmY.slots) (pc + 3) lv (v.toList ++ rest) (ws' u ++ pl)) : RW X kc ks pc lv st (wx ++ pl) := by
  obtain ⟨g, p, l, e, R, s, m, args, below, meth, c, A, H0, nL, Q⟩ := X
  obtain ⟨hx, hb, hml, rfl, hown, hts, hK, hA, hlocks, rfl⟩ := C
  intro H locs ls hP hD hS hl
  subst hst
  have hC2 : is.map (fun i => (wx ++ pl)[i]?) = wc.map some := by
    rw [← hC]
    refine List.map_congr_left (fun i hi => ?_)
    rw [List.getElem?_append_left (hlt i hi)]
  have hPc := ww_subP (ws := wx ++ pl) hP hC2
  have hDc := ww_subD2 (ws := wx ++ pl) hD hnd hC2
  have hFc := va_free (wc := wc) hD hS hA is hC2
  obtain ⟨hbl, hpre⟩ := ww_preK (av := .ref b :: As) hE hPc hK hDc
  refine ww_callg (va_runI (As := As) (rest := rest) ⟨hx, hb, hml, hown, hts⟩ (hM H.size) (cwI n hts hg hw rfl rfl (hts _ hi1) (hts _ hi2) (hts _ hi3) hnm hdesc hR) ⟨hbl, hpre⟩ rfl hn hl.1 rfl (lv_room hsum) hd hcs) hS hFc (fun v u H1 locs1 hp hP1 hD1 hk hS1 => ?_)
  rw [hw1 u] at hP1 hD1
  obtain ⟨hP2, hD2⟩ := ww_join hP hD is hC2 (hadr u) hk hFc hP1 hD1
  rw [ww_put_left _ _ _ _ hlt] at hP2 hD2
  refine r_perm (X := (g, p, l, e, R, s, m, args, below, meth, c, A, H0, nL, Q)) (ws := (ww_put wx is (wo u) ++ pl) ++ wn u) (ws' := ws' u ++ pl) ?_ (kk v u hp) H1 locs1 ls hP2 hD2 hS1 hl
  rw [← hws u]
  exact ww_plT
end
/-! facts out of words -/
theorem vz_rc {args : Array Value} {s : State} {t : FieldType} (h : (Cond.arrayClass t).before args s = true) (ho : ∀ C, t ≠ .object C) : ∃ c : ClassId, ArrOfT s c t ∧ va_RA s c t := by
  obtain ⟨c, k, comp, h1, h2, h3⟩ := Cond.arrayClass_spec h
  refine ⟨c, fun N z => ⟨(fun q hq => by cases hq), k, h2, comp, h3⟩, ?_⟩
  cases t <;> first | exact h1 | exact absurd rfl (ho _)
theorem vz_over {args : Array Value} {s : State} {t : FieldType} (h : (Cond.arrayOver (.array t)).before args s = true) :
    ∃ comp c k, s.vm.findClass (FieldType.array t).toString = some comp ∧ s.vm.classes[c]? = some k ∧ k.kind = .array comp (.array t) ∧ s.vm.findClass ("[" ++ (FieldType.array t).toString) = some c := by
  simp only [Cond.before, Cond.holds, Cond.value, beq_iff_eq] at h
  cases hc : s.vm.findClass (FieldType.array t).toString with
  | none => simp [hc] at h
  | some comp =>
    simp only [hc, Option.bind_some, Option.bind_eq_some_iff, Option.map_eq_some_iff] at h
    obtain ⟨c, hi, k, hk, hb⟩ := h
    obtain ⟨hlt, hp, -⟩ := Array.findIdx?_eq_some_iff_getElem.mp hi
    have hkk : s.vm.classes[c] = k := (Array.getElem?_eq_some_iff.mp hk).2
    rw [hkk] at hp
    cases hkind : k.kind with
    | array component ty =>
      rw [hkind] at hb hp
      simp at hb hp
      exact ⟨comp, c, k, rfl, hk, by rw [hkind, hp, hb.1], hb.2⟩
    | _ => rw [hkind] at hb; simp at hb
theorem vz_str {args : Array Value} {s : State} {own C : String} {k : Nat} (h : (Cond.exactly (.string own k) C).before args s = true) : ∃ a, (Term.string own k).eval args s none [] s = some (.ref a) := by
  simp only [Cond.before, Cond.holds, Cond.value] at h
  cases e : (Term.string own k).eval args s none [] s with
  | none => simp [e] at h
  | some v =>
    cases v with
    | ref a => exact ⟨a, rfl⟩
    | _ => rw [e] at h; cases hf : s.vm.findClass C <;> simp [hf] at h
