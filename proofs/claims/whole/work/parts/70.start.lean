def R_law : String := "SeedMakersLaw"
def lw_P (b : Addr) (xs : List Int32) (args : Array Value) (s : State) : Prop := args = #[.ref b] ∧ s.IntsAt b xs ∧ xs.length ≤ 2049 ∧ (Jvm.Cond.and given_1 narrow_1).before args s = true
def lw_Q (_ : Array Value) (s : State) (o : Outcome) (t : State) : Prop := o = .returned (some (.int 1)) ∧ Framed s o t [] 636609 7186244
def lw_Z (below : List Frame) (a : Array Value) (s : State) : State → Prop := fun t => ∃ o, t.status = .running ∧ Ended t below o ∧ lw_Q a s o t
/-- the law's own end, with 1 on the stack, nothing written that was there before, its room as the claim has it -/
theorem lw_ret {p : Program} {l : Launch} {e : Env} {s : State} {m : MethodId} {below : List Frame} {meth : Method} {c : Code} {b : Nat} (hx : p.tables.exec = Jvm.exec) (hb : c.code = code) (hr : meth.sig.returnType = ret) (hlocks : meth.locks = false) {pc : Nat} {H : Heap} {ls : Array Slot} (hdg : decode code pc = .ok (.ireturn, 1)) : W p l e room_1 s m #[Value.ref b] below meth c H [] 636609 7186244 (lw_Z below #[Value.ref b] s) (F0 m pc ls [.int 1]) := by
  intro T hT X
  obtain ⟨fs, hret, hrun, hended, hW, hframe⟩ := X.leave (v := some (.int 1)) (hlocks := hlocks) (fun h => by rw [hr] at h; cases h)
  have hmeth' : T.vm.method? m = some meth := X.method'
  refine ⟨T.setFrames fs, ?_, .returned (some (.int 1)), hrun, hended, rfl, ⟨_, rfl⟩, hW, hframe⟩
  jvm_step X.here [X.here.top, hx, hb, hdg, hmeth', hr, ret, narrow_b1]
  (try refine ⟨rfl, ?_⟩); (try refine ⟨rfl, ?_⟩)
  first | (intro acts; rw [hret _ acts rfl rfl rfl]) | rw [hret _ _ rfl rfl rfl]
  exact Steps.refl _
/-- what holds at the law's entry: the machine, the code, the tables' words (any of lw_tbl by 'hts w (by decide +kernel)'), the script of L ints xs at the cell b, what the Statement gives of the start (any of its parts by flat_of_before) -/
def lw_At (p : Program) (s : State) (m : MethodId) (meth : Method) (c : Code) (b L : Nat) (xs : Nat → Int32) : Prop :=
  p.tables.exec = Jvm.exec ∧ c.code = code ∧ meth.sig.returnType = ret ∧ c.maxLocals = 7 ∧ s.vm.findClass R_law = some m.cls ∧ (∀ w ∈ lw_tbl, w.before #[Value.ref b] s = true) ∧ va_X b L xs s s.heap ∧ b < s.heap.size ∧ meth.locks = false ∧ (Jvm.Cond.and given_1 narrow_1).before #[Value.ref b] s = true
theorem vk_R_of {own tx : String} {k a : Nat} {A : Array Value} {U : State} (h1 : (Cond.stringRef own k tx).before A U = true) (h2 : (Term.string own k).eval A U none [] U = some (.ref a)) : vk_R own k tx a U := ⟨h1, h2⟩
theorem whole_start {p : Program} {e : Env} {s : State} {m : MethodId} {below : List Frame} {meth : Method} {c : Code} (l : Launch) (hl9 : l.stackTraces = false) {b L : Nat} {xs : Nat → Int32} (hL : L ≤ 2049) (C0 : lw_At p s m meth c b L xs) : W p l e room_1 s m #[Value.ref b] below meth c s.heap [] 0 0 (lw_Z below #[Value.ref b] s) (entryFrame m ([Value.ref b] : List Value).toArray 7) := by
  obtain ⟨hx, hb, hr, hml, hown, hts, hX, hbl, hlocks, hgv⟩ := C0
  have hs := flat_of_before _ hgv
  obtain ⟨c0, i0, k0⟩ := u_known (C := RJx00060) (T := TJx00060) (N := 6) (n := 6) hts lwin_wsJx000600 (hts (.instantiable RJx00060 6) (by decide +kernel))
  obtain ⟨c1, i1, k1⟩ := u_known (C := RX0) (T := TX0) (N := 3) (n := 3) hts lwin_wsX00 (hts (.instantiable RX0 3) (by decide +kernel))
  obtain ⟨c2, i2, k2⟩ := u_known (C := RX1) (T := TX1) (N := 5) (n := 5) hts lwin_wsX10 (hts (.instantiable RX1 5) (by decide +kernel))
  obtain ⟨c3, i3, k3⟩ := u_known (C := RX2) (T := TX2) (N := 1) (n := 1) hts lwin_wsX20 (hts (.instantiable RX2 1) (by decide +kernel))
  obtain ⟨c4, i4, k4⟩ := u_known (C := RX3) (T := TX3) (N := 3) (n := 3) hts lwin_wsX30 (hts (.instantiable RX3 3) (by decide +kernel))
  obtain ⟨c5, i5, k5⟩ := u_known (C := RX4) (T := TX4) (N := 7) (n := 7) hts lwin_wsX40 (hts (.instantiable RX4 7) (by decide +kernel))
  obtain ⟨c6, i6, k6⟩ := u_known (C := RX5) (T := TX5) (N := 20) (n := 20) hts lwin_wsX50 (hts (.instantiable RX5 20) (by decide +kernel))
  obtain ⟨c7, i7, k7⟩ := u_known (C := RX6) (T := TX6) (N := 2) (n := 2) hts lwin_wsX60 (hts (.instantiable RX6 2) (by decide +kernel))
  obtain ⟨c8, i8, k8⟩ := u_known (C := RX7) (T := TX7) (N := 2) (n := 2) hts lwin_wsX70 (hts (.instantiable RX7 2) (by decide +kernel))
  obtain ⟨c9, i9, k9⟩ := u_known (C := RX8) (T := TX8) (N := 4) (n := 4) hts lwin_wsX80 (hts (.instantiable RX8 4) (by decide +kernel))
  obtain ⟨c10, i10, k10⟩ := u_known (C := RX9) (T := TX9) (N := 5) (n := 5) hts lwin_wsX90 (hts (.instantiable RX9 5) (by decide +kernel))
  obtain ⟨c11, i11, k11⟩ := u_known (C := RX10) (T := TX10) (N := 6) (n := 6) hts lwin_wsX100 (hts (.instantiable RX10 6) (by decide +kernel))
  obtain ⟨c12, i12, k12⟩ := u_known (C := RX11) (T := TX11) (N := 22) (n := 22) hts lwin_wsX110 (hts (.instantiable RX11 22) (by decide +kernel))
  obtain ⟨cI, kI, cd, a1, a2, a3⟩ := Cond.arrayClass_spec (hts (.arrayClass .int) (by decide +kernel))
  obtain ⟨cZ, z1, z2⟩ := vz_rc (t := .boolean) (hts (.arrayClass .boolean) (by decide +kernel)) (fun _ h => by cases h)
  obtain ⟨cJ, j1, j2⟩ := vz_rc (t := .long) (hts (.arrayClass .long) (by decide +kernel)) (fun _ h => by cases h)
  obtain ⟨comp, cA, kA, o1, o2, o3, o4⟩ := vz_over (t := .int) (hts (.arrayOver (.array .int)) (by decide +kernel))
  have ecI : comp = cI := Option.some.inj (o1.symm.trans a1)
  subst ecI
  obtain ⟨g, hg⟩ : ∃ z : ww_G, z = (((fun k => if k = 0 then c0 else if k = 1 then c1 else if k = 2 then c2 else if k = 3 then c3 else if k = 4 then c4 else if k = 5 then c5 else if k = 6 then c6 else if k = 7 then c7 else if k = 8 then c8 else if k = 9 then c9 else if k = 10 then c10 else if k = 11 then c11 else c12), (fun k => if k = 0 then i0 else if k = 1 then i1 else if k = 2 then i2 else if k = 3 then i3 else if k = 4 then i4 else if k = 5 then i5 else if k = 6 then i6 else if k = 7 then i7 else if k = 8 then i8 else if k = 9 then i9 else if k = 10 then i10 else if k = 11 then i11 else i12)), (comp, cZ, cA, cJ)) := ⟨_, rfl⟩
  have hK : va_K g.1 vwCl (ww_t g) s := by
    rw [hg]
    refine ⟨fun k q hq => ?_, fun k q hq => ?_⟩
    · match k, hq with
      | 0, hq => cases hq; exact k0
      | 1, hq => cases hq; exact k1
      | 2, hq => cases hq; exact k2
      | 3, hq => cases hq; exact k3
      | 4, hq => cases hq; exact k4
      | 5, hq => cases hq; exact k5
      | 6, hq => cases hq; exact k6
      | 7, hq => cases hq; exact k7
      | 8, hq => cases hq; exact k8
      | 9, hq => cases hq; exact k9
      | 10, hq => cases hq; exact k10
      | 11, hq => cases hq; exact k11
      | 12, hq => cases hq; exact k12
      | k + 13, hq => simp [vwCl] at hq
    · match k, hq with
      | 0, hq => cases hq; exact ⟨fun N z => ⟨(fun q hq => by cases hq), kI, a2, cd, a3⟩, a1⟩
      | 1, hq => cases hq; exact ⟨z1, z2⟩
      | 2, hq => cases hq; exact ⟨fun N z => ⟨(fun q hq => by cases hq), kA, o2, comp, o3⟩, o4⟩
      | 3, hq => cases hq; exact ⟨j1, j2⟩
      | k + 4, hq => simp at hq
  clear hg
  obtain ⟨s1, e1⟩ := vz_str (hs (.exactly (.string RX10 67) "java/lang/String") (by decide +kernel))
  obtain ⟨s2, e2⟩ := vz_str (hs (.exactly (.string RX10 74) "java/lang/String") (by decide +kernel))
  obtain ⟨s3, e3⟩ := vz_str (hs (.exactly (.string RX10 77) "java/lang/String") (by decide +kernel))
  obtain ⟨s4, e4⟩ := vz_str (hs (.exactly (.string RX10 79) "java/lang/String") (by decide +kernel))
  have hF : vy_F (s1, s2, s3, s4) (fun q => s.heap.size ≤ q) s := ⟨fun w hw => va_Nw.of (vy_TL_on w hw) (hts w (lwin_TL w hw)),
    vx_Zqof (hts (.laysStatic Bundle.tN "UNASSIGNED_STACK" Bundle.steD) (by decide +kernel)) (hts (.initialized Bundle.tN) (by decide +kernel)) (hs (.isRef (.static Bundle.tN "UNASSIGNED_STACK" Bundle.steD)) (by decide +kernel)) (fun a h9 => Nat.not_le.mpr h9),
    vx_Zqof (hts (.laysStatic Bundle.tN "SUPPRESSED_SENTINEL" Bundle.listD) (by decide +kernel)) (hts (.initialized Bundle.tN) (by decide +kernel)) (hs (.isRef (.static Bundle.tN "SUPPRESSED_SENTINEL" Bundle.listD)) (by decide +kernel)) (fun a h9 => Nat.not_le.mpr h9),
    vk_R_of (hts (.stringRef RX10 67 "there is no such cell") (by decide +kernel)) e1, vk_R_of (hts (.stringRef RX10 74 "there is no such theme") (by decide +kernel)) e2, vk_R_of (hts (.stringRef RX10 77 "easy is 0, 1 or 2") (by decide +kernel)) e3, vk_R_of (hts (.stringRef RX10 79 "least is from 0 to most") (by decide +kernel)) e4,
    va_Nc.of (hs (.not (.castable vy_EI vy_EA)) (by decide +kernel))⟩
  have hE : ww_E s := ⟨⟨cA, comp, kA, kI, cd, o4, a1, o2, o3, a2, a3⟩, va_Nw.of rfl (hts (.methodLinkNest RX10 37 yX0_init RX10) (by decide +kernel)), va_Nw.of rfl (hts (.methodLinkNest RX5 50 yX2_init RX10) (by decide +kernel))⟩
  have hl := lv_entry ([Value.ref b]) (n := 7) (Nat.le_of_ble_eq_true rfl)
  rw [lg_entry_eq]
  refine law_all (X := (g, p, l, e, room_1, s, m, #[Value.ref b], below, meth, c, (fun q => s.heap.size ≤ q), s.heap, 7, lw_Z below #[Value.ref b] s)) (sa := (s1, s2, s3, s4)) (b := b) (L := L) (xs := xs)
    ⟨hx, hb, hml, rfl, hown, fun w hw => hts w (wsL_law_in w hw), hK, fun q h => h, hlocks, rfl⟩ ⟨hF, rfl⟩ ⟨hX, hbl, Nat.not_le.mpr hbl⟩ hl9 rfl hE hL ?_ s.heap [] _ ww_P0 ww_D0 va_S.rf hl
  intro lv ws H locs ls hP hD hS hl T hT X9
  exact lw_ret hx hb hr hlocks dL_law_597 T hT (vs_nil X9 hS.2.2)
set_option maxHeartbeats 4000000 in
theorem lw_walk (l : Launch) (hl9 : l.stackTraces = false) (b : Addr) (xs : List Int32) : MetFree l x (headSpec (Jvm.Cond.code x code maxLocals ret :: tables_1) room_1) (lw_P b xs) (fun _ _ _ _ _ => True) lw_Q := by
  refine MetFree.of_bodyS (code := code) (maxLocals := maxLocals) (ret := ret) (by decide) ?_ ?_
  · intro args s m h hn
    obtain ⟨meth, c, h1, h2, h3, h4, h5, h6, -, -⟩ := Cond.code_spec hn (atoms_spec (ws := Jvm.Cond.code x code maxLocals ret :: tables_1) h _ List.mem_cons_self)
    exact ⟨meth, c, h1, h2, h3, h4, h5, h6⟩
  · intro p e s m args below meth c s₁ B hml0 hP _
    obtain ⟨rfl, hx, hbd, hgv⟩ := hP
    obtain ⟨scr, harrAt, hlist, hof, hsmall⟩ := hx
    obtain ⟨hcb, hkn, -, -⟩ := State.arrayAt?_spec harrAt
    have hown : s.vm.findClass R_law = some m.cls := findClass_of_methodNamed B.named
    have hts0 : ∀ c ∈ (Jvm.Cond.code x code maxLocals ret :: tables_1), c.before #[Value.ref b] s = true := atoms_spec (ws := Jvm.Cond.code x code maxLocals ret :: tables_1) B.pre
    have hts : ∀ w ∈ lw_tbl, w.before #[Value.ref b] s = true := k2_hts_sels lw_privs (fun w hw => hts0 w (List.mem_cons_of_mem _ hw)) lw_privs_ok
    have hml : c.maxLocals = 7 := B.maxLocals_eq (hts0 _ List.mem_cons_self)
    have X₀ : Stand p l e room_1 s m #[Value.ref b] below meth c s₁ [] 0 0 := Stand.of_body B
    have hh0 : s₁.heap = s.heap := by rw [B.state]; rfl
    have hsz : scr.slots.size = xs.length := by rw [← Array.length_toList, hlist, List.length_map]
    have hval : ∀ j : Nat, j < xs.length → scr.slots[j]? = some (.int (xs.getD j 0)) := fun j hj => by
      rw [← Array.getElem?_toList, hlist]
      simp [hj]
    have hbl : b < s.heap.size := (Array.getElem?_eq_some_iff.mp hcb).1
    have hX : va_X b xs.length (fun j => xs.getD j 0) s s.heap := ⟨scr, hcb, hof, hkn, hsz, hval⟩
    have K : W p l e room_1 s m #[Value.ref b] below meth c s₁.heap [] 0 0 (lw_Z below #[Value.ref b] s) (entryFrame m ([Value.ref b] : List Value).toArray 7) := by
      rw [hh0]
      exact whole_start l hl9 hbd ⟨B.exec, B.bytes, B.returns, hml, hown, hts, hX, hbl, B.notSynchronized, hgv⟩
    obtain ⟨t, a1, o, b1, b2, b3⟩ := K s₁ rfl X₀
    exact ⟨t, o, a1, b1, b2, b3⟩
theorem lw_pre_spec {args : Array Value} {s : State} (h : (Jvm.Cond.and given_1 narrow_1).before args s = true) (hr : rest_1_c.before args s = true) : ∃ (b : Addr) (xs : List Int32), lw_P b xs args s := by
  have hs := flat_of_before _ h
  have hq := flat_of_before _ hr
  have hc : (Cond.count 1).before args s = true := hs _ (by decide +kernel)
  have harr : (Cond.arrayOf (.arg 0) .int).before args s = true := hs _ (by decide +kernel)
  have hle : (Cond.le (.length (.arg 0)) (.int 2049)).before args s = true := hs _ (by decide +kernel)
  have hlen : (Cond.isInt (.length (.arg 0))).before args s = true := hq _ (by decide +kernel)
  have hall : (Cond.all (.arg 0) (.isInt (.elem (.arg 0) (.index 0)))).before args s = true := hq _ (by decide +kernel)
  obtain ⟨b, xs, hb, hx⟩ := State.ints_of_pre rfl harr hlen hall
  have hsm : xs.length < 2 ^ 31 := hx.choose_spec.2.2.2
  have hev : (Term.length (.arg 0)).eval args s none [] s = some (.int xs.length.toInt32) := hx.length_eval hb
  have hv := Cond.le_ints hev (show (Term.int 2049).eval args s none [] s = some (.int 2049) from rfl)
  have hd : xs.length.toInt32 ≤ 2049 := by
    simpa [Cond.before, Cond.holds, hv] using hle
  have hN : xs.length ≤ 2049 := (Int32.ofNat_le_ofNat hsm (by decide)).mp (show Int32.ofNat xs.length ≤ Int32.ofNat 2049 from hd)
  exact ⟨b, xs, Cond.one_arg hc (show args[0]? = some (.ref b) from hb), hx, hN, h⟩
theorem lw_comes (l : Launch) (hl9 : l.stackTraces = false) : Comes l x (Jvm.Cond.code x code maxLocals ret :: tables_1) room_1 (fun tb e args s => Calls_1 tb e args s ∧ rest_1 tb e args s ∧ Pre_1 tb e args s)
    (fun _ _ args s o t => lw_Q args s o t) := by
  intro p e ha hc hk s m args below hf hfit hheap happ hpre
  obtain ⟨b, xs, hP⟩ := lw_pre_spec hpre.2.2 hpre.2.1
  obtain ⟨k, o, h1, h2, h3, hQ⟩ := lw_walk l hl9 b xs p e ha hc hk s m args below hf ((Spec.applies_iff_loose hf).mp happ).1 hP trivial
  exact ⟨k, o, h1, h2, h3, hQ⟩
theorem lw_frame {s t : State} {o : Outcome} {args : Array Value} (h : Framed s o t [] 636609 7186244) :
    Framed s o t (fieldLocs frame_1_writes args s ++ arrayLocs frame_1_arrays args s ++ staticLocs frame_1_statics s) 636609 7186244 := h
theorem lw_limb (L : Cond) (hL : ∀ (args : Array Value) (s t : State), L.after args s (.returned (some (.int 1))) t = true) :
    ArmFor flags0 classFile x code maxLocals ret World_1 tables_1 room_1 Calls_1 rest_1 Pre_1
      (fun tb e a s o t => postC L tb e a s o t ∧ Framed s o t (fieldLocs frame_1_writes a s ++ arrayLocs frame_1_arrays a s ++ staticLocs frame_1_statics s) 636609 7186244) := by
  intro l hfl _ _ p e ha hc hk s m args below hf hfit hheap happ hpre
  obtain ⟨k, o, h1, h2, h3, rfl, hF⟩ := lw_comes l (by unfold Launch.stackTraces; rw [hfl]; decide +kernel) p e ha hc hk s m args below hf hfit hheap happ hpre
  exact ⟨k, _, h1, h2, h3, hL args s _, lw_frame hF⟩
