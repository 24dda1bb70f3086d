/-! more rows: switches, copies; the draws, the symmetries and the text as mathematics -/
section
variable {X : ww_X} {cc : ByteArray} {n0 : Nat} {own : String} {Ts : List Cond} {rm : Room} {kc ks pc : Nat} {lv lv' : List (Nat × Value)} {st : List Value} {ws ws' : va_W}
theorem r_tsOut {dflt lo hi : Int} {offs : Array Int} {len : Nat} {x : Int32} {tgt : Nat} (C : ww_C X cc n0 own Ts rm) (hd : decode cc pc = .ok (.tableswitch dflt lo hi offs, len)) (h : x.toInt < lo ∨ hi < x.toInt) (ht : (pc : Int) + dflt = (tgt : Int)) (k : RW X kc ks tgt lv st ws) : RW X kc ks pc lv (.int x :: st) ws := by
  obtain ⟨g, p, l, e, R, s, m, args, below, meth, c, A, H0, nL, Q⟩ := X
  obtain ⟨hx, hb, hml, rfl, hown, hts, hK, hA, hlocks, rfl⟩ := C
  intro H locs ls hP hD hS hl
  exact lv_tableOut hx hb hd h ht (k H locs ls hP hD hS hl)
theorem r_tsIn {dflt lo hi : Int} {offs : Array Int} {len : Nat} {x : Int32} {off : Int} {tgt : Nat} (C : ww_C X cc n0 own Ts rm) (hd : decode cc pc = .ok (.tableswitch dflt lo hi offs, len)) (h1 : ¬ x.toInt < lo) (h2 : ¬ hi < x.toInt) (ho : offs[(x.toInt - lo).toNat]? = some off) (ht : (pc : Int) + off = (tgt : Int)) (k : RW X kc ks tgt lv st ws) : RW X kc ks pc lv (.int x :: st) ws := by
  obtain ⟨g, p, l, e, R, s, m, args, below, meth, c, A, H0, nL, Q⟩ := X
  obtain ⟨hx, hb, hml, rfl, hown, hts, hK, hA, hlocks, rfl⟩ := C
  intro H locs ls hP hD hS hl
  exact lv_tableIn hx hb hd h1 h2 ho ht (k H locs ls hP hD hS hl)
theorem r_copyI {index a a0 n0' n1 n : Nat} {f g : Nat → Int32} (C : ww_C X cc n0 own Ts rm) (hd : decode cc pc = .ok (.invokestatic index, 3)) (hm : Cond.methodLink own index arraycopyName ∈ Ts ∧ Cond.native arraycopyName ∈ Ts ∧ Cond.static arraycopyName ∈ Ts ∧ Cond.initialized "java/lang/System" ∈ Ts) (q0 q1 : Nat) (ha0 : ws[q0]? = some (a0, .inl (X.1.2.1, n0', .inl f))) (ha1 : ws[q1]? = some (a, .inl (X.1.2.1, n1, .inl g))) (h0 : n ≤ n0') (h1 : n1 = n) (hn : n < 2147483648) (hf : 1 ≤ rm.frames) (hlo : 40 ≤ rm.locals) (hsum : (st.map fun v => v.category).sum ≤ 8) (hws : ws.set q1 (a, .inl (X.1.2.1, n1, .inl f)) = ws') (k : RW X kc ks (pc + 3) lv st ws') : RW X kc ks pc lv (.int (nI n) :: .int (nI 0) :: .ref a :: .int (nI 0) :: .ref a0 :: st) ws := by
  obtain ⟨G, p, l, e, R, s, m, args, below, meth, c, A, H0, nL, Q⟩ := X
  obtain ⟨hx, hb, hml, rfl, hown, hts, hK, hA, hlocks, rfl⟩ := C
  intro H locs ls hP hD hS hl
  subst hws
  subst h1
  have e9 : (nI n1).toNatClampNeg = n1 := nI_clamp hn
  have e0 : (nI 0).toNatClampNeg = 0 := nI_clamp (by omega)
  refine va_copyi hx hb (hml.trans hl.1.symm) hown (hts _ hm.1) (hts _ hm.2.1) (hts _ hm.2.2.1) (hts _ hm.2.2.2) hK hP hD hS q0 q1 0 0 (ty := .int) ha0 ha1 rfl rfl rfl (by decide) (by decide) (nI_pos hn) (by rw [e9, e0]; omega) (by rw [e9, e0]; omega) (fun _ _ => rfl) hf ?_ hd (fun H1 locs1 hP1 hD1 hS1 => ?_)
  · have : nativeFrameWords "java/lang/System" "arraycopy" 5 + 11 ≤ 32 := by decide +kernel
    omega
  · rw [e9, e0] at hP1 hD1
    have hl1 : q1 < ws.length := (List.getElem?_eq_some_iff.mp ha1).1
    have hD2 : va_D A (ws.set q1 (a, .inl (G.2.1, n1, .inl f))) := hD.set ha1
    refine k H1 locs1 ls (fun i q hi => ?_) hD2 hS1 hl
    by_cases hq : q1 = i
    · subst hq
      rw [List.getElem?_set_self hl1] at hi
      cases hi
      have h2 : H1[a]? = some (vp_cell G.2.1 (n1, .inl (va_cpy f g 0 0 n1))) := hP1 q1 _ (List.getElem?_set_self hl1)
      show H1[a]? = some (vp_cell G.2.1 (n1, .inl f))
      rw [h2, vp_cell_i, vp_cell_i, ww_arrV (f' := fun j => .int (f j)) (fun j hj => by rw [pk_cpy_in (by omega) (by omega)]; simp)]
    · rw [List.getElem?_set_ne hq] at hi
      exact hP1 i q (by rw [List.getElem?_set_ne hq]; exact hi)
end
/-! drawing -/
noncomputable def wy (n N : Nat) (b : Nat → Option Nat) (d : Nat) : Nat := pcb (mkN (mayP n N b d)) 6
theorem pcb_le {m : Nat} : ∀ t, pcb m t ≤ t
  | 0 => Nat.le_refl 0
  | t + 1 => by
    have := pcb_le (m := m) t
    have h := Bool.toNat_le (m.testBit t)
    show pcb m t + _ ≤ t + 1
    omega
theorem wy_le (n N : Nat) (b : Nat → Option Nat) (d : Nat) : wy n N b d ≤ 6 := pcb_le 6
theorem wy_cn {n N : Nat} (hn : (n = 4 ∧ N = 16) ∨ (n = 6 ∧ N = 36)) (b : Nat → Option Nat) (d : Nat) : wy n N b d = cn (mayP n N b d) n := by
  unfold wy
  rw [cn_pcb (Nat.le_refl 6), cn_cut (n := n) (fun v h => h.1) (by omega)]
def isBest (n N : Nat) (b : Nat → Option Nat) (c : Nat) : Prop := c < N ∧ b c = none ∧ (∀ d, d < N → b d = none → wy n N b c ≤ wy n N b d) ∧ ∀ d, d < c → b d = none → wy n N b c < wy n N b d
theorem isBest_u {n N : Nat} {b : Nat → Option Nat} {c d : Nat} (hc : isBest n N b c) (hd : isBest n N b d) : c = d := by
  rcases Nat.lt_trichotomy c d with q | q | q
  · have h1 := hd.2.2.2 c q hc.2.1
    have h2 := hc.2.2.1 d hd.1 hd.2.1
    omega
  · exact q
  · have h1 := hc.2.2.2 d q hd.2.1
    have h2 := hd.2.2.1 c hc.1 hc.2.1
    omega
noncomputable def bestC (n N : Nat) (b : Nat → Option Nat) : Nat := Classical.epsilon (isBest n N b)
theorem bestC_is {n N : Nat} {b : Nat → Option Nat} {c : Nat} (h : isBest n N b c) : bestC n N b = c := isBest_u (Classical.epsilon_spec (p := isBest n N b) ⟨c, h⟩) h
noncomputable def kthV (P : Nat → Prop) (j : Nat) : Nat := Classical.epsilon (fun v => P v ∧ cn P v = j)
theorem kthV_is {P : Nat → Prop} {v j : Nat} (h : P v) (e : cn P v = j) : kthV P j = v := by
  have h2 := Classical.epsilon_spec (p := fun v => P v ∧ cn P v = j) ⟨v, h, e⟩
  exact cn_inj (P := P) h2.1 h (h2.2.trans e.symm)
noncomputable def drawF (n N : Nat) : Nat → Int64 → (Nat → Option Nat) → Bool × Int64 × (Nat → Option Nat)
  | 0, x, b => (true, x, b)
  | k + 1, x, b => if wy n N b (bestC n N b) = 0 then (false, x, b) else drawF n N k (nx x) (ub b (bestC n N b) (some (kthV (mayP n N b (bestC n N b)) (hb (nx x) % wy n N b (bestC n N b)))))
theorem drawF_0 {n N k : Nat} {x : Int64} {b : Nat → Option Nat} {c : Nat} (hc : isBest n N b c) (h : wy n N b c = 0) : drawF n N (k + 1) x b = (false, x, b) := by
  unfold drawF
  rw [bestC_is hc, if_pos h]
theorem drawF_s {n N k : Nat} {x : Int64} {b : Nat → Option Nat} {c v : Nat} (hc : isBest n N b c) (h : ¬ wy n N b c = 0) (hv : mayP n N b c v) (e : cn (mayP n N b c) v = hb (nx x) % wy n N b c) : drawF n N (k + 1) x b = drawF n N k (nx x) (ub b c (some v)) := by
  rw [drawF, bestC_is hc, if_neg h, kthV_is hv e]
/-- how many cells are filled -/
noncomputable def fil (N : Nat) (b : Nat → Option Nat) : Nat := cn (fun c => b c ≠ none) N
theorem cn_all {P : Nat → Prop} : ∀ {N : Nat}, (∀ c, c < N → P c) → cn P N = N
  | 0, _ => rfl
  | N + 1, h => by
    show cn P N + dI (P N) = N + 1
    rw [cn_all (fun c q => h c (by omega)), dI_t (h N (by omega))]
theorem cn_ex {P : Nat → Prop} : ∀ {N : Nat}, cn P N < N → ∃ c, c < N ∧ ¬ P c
  | 0, h => by omega
  | N + 1, h => by
    by_cases q : P N
    · have h2 : cn P N + dI (P N) < N + 1 := h
      rw [dI_t q] at h2
      obtain ⟨c, q1, q2⟩ := cn_ex (P := P) (N := N) (by omega)
      exact ⟨c, by omega, q2⟩
    · exact ⟨N, by omega, q⟩
theorem cn_full {P : Nat → Prop} {N : Nat} (h : cn P N = N) : ∀ c, c < N → P c := by
  induction N with
  | zero => intro c q; omega
  | succ N ih =>
    have h2 : cn P N + dI (P N) = N + 1 := h
    have h3 := cn_le (P := P) N
    have hPN : P N := Classical.byContradiction (fun q => by rw [dI_f q] at h2; omega)
    rw [dI_t hPN] at h2
    intro c q
    by_cases e : c = N
    · rw [e]; exact hPN
    · exact ih (by omega) c (by omega)
theorem cn_congr {P Q : Nat → Prop} : ∀ {N : Nat}, (∀ c, c < N → (P c ↔ Q c)) → cn P N = cn Q N
  | 0, _ => rfl
  | N + 1, h => by
    show cn P N + dI (P N) = cn Q N + dI (Q N)
    rw [cn_congr (fun c q => h c (by omega)), dI_iff (h N (by omega))]
theorem or_ne {A B : Prop} (h : ¬ A) : (A ∨ B) ↔ B := ⟨fun q => q.elim (fun a => absurd a h) id, Or.inr⟩
theorem cn_add1 {P Q : Nat → Prop} {a : Nat} : ∀ {N : Nat}, a < N → ¬ P a → (∀ c, Q c ↔ c = a ∨ P c) → cn Q N = cn P N + 1
  | 0, h, _, _ => by omega
  | N + 1, h, ha, hq => by
    show cn Q N + dI (Q N) = cn P N + dI (P N) + 1
    by_cases e : a = N
    · subst e
      rw [dI_t ((hq a).mpr (Or.inl rfl)), dI_f ha, cn_congr (P := Q) (Q := P) (fun c q => (hq c).trans (or_ne (by omega)))]
    · rw [cn_add1 (by omega) ha hq, dI_iff ((hq N).trans (or_ne (fun w => e w.symm)))]
      omega
theorem fil_put {N c v : Nat} {b : Nat → Option Nat} (hc : c < N) (h0 : b c = none) : fil N (ub b c (some v)) = fil N b + 1 := by
  unfold fil
  refine cn_add1 hc (fun w => w h0) (fun d => ?_)
  by_cases e : d = c
  · subst e; rw [ub_s]; simp
  · rw [ub_n e]; exact (or_ne e).symm
theorem fil_0 {N : Nat} : fil N (fun _ => none) = 0 := by
  unfold fil
  induction N with
  | zero => rfl
  | succ N ih =>
    show cn _ N + dI _ = 0
    rw [ih, dI_f (fun w => w rfl)]
/-! symmetries -/
def mv (n k c : Nat) : Nat := match k with
  | 1 => n * (n - 1 - c / n) + (n - 1) - c % n
  | 2 => n * (c / n) + (n - 1) - c % n
  | 3 => n * (c % n) + (n - 1) - c / n
  | _ => c
def orb (n k c : Nat) : Nat → Nat × Nat
  | 0 => (c, c)
  | t + 1 => (mv n k (orb n k c t).1, min (orb n k c t).2 (mv n k (orb n k c t).1))
def lfS (n k c : Nat) : Nat := (orb n k c 4).2
theorem mv_lt {n N k c : Nat} (hn : (n = 4 ∧ N = 16) ∨ (n = 6 ∧ N = 36)) (hc : c < N) : mv n k c < N := by
  unfold mv
  rcases hn with ⟨rfl, rfl⟩ | ⟨rfl, rfl⟩ <;> split <;> omega
theorem orb_lt {n N k c : Nat} (hn : (n = 4 ∧ N = 16) ∨ (n = 6 ∧ N = 36)) (hc : c < N) : ∀ t, (orb n k c t).1 < N ∧ (orb n k c t).2 < N
  | 0 => ⟨hc, hc⟩
  | t + 1 => by
    obtain ⟨h1, h2⟩ := orb_lt hn hc t
    have h3 := mv_lt (k := k) hn h1
    refine ⟨h3, ?_⟩
    show min _ _ < N
    omega
theorem lfS_lt {n N k c : Nat} (hn : (n = 4 ∧ N = 16) ∨ (n = 6 ∧ N = 36)) (hc : c < N) : lfS n k c < N := (orb_lt hn hc 4).2
/-! the text -/
noncomputable def rdB (n N : Nat) (b : Nat → Option Nat) (c t : Nat) : Option (Nat → Option Nat) := if t = 46 then some b else @ite _ (49 ≤ t ∧ mayP n N b c (t - 49)) (Classical.propDecidable _) (some (ub b c (some (t - 49)))) none
theorem rdB_pt {n N c t : Nat} {b : Nat → Option Nat} (h : t = 46) : rdB n N b c t = some b := by unfold rdB; rw [if_pos h]
theorem rdB_dg {n N c t : Nat} {b : Nat → Option Nat} (h : 49 ≤ t) (hm : mayP n N b c (t - 49)) : rdB n N b c t = some (ub b c (some (t - 49))) := by unfold rdB; rw [if_neg (by omega), if_pos ⟨h, hm⟩]
theorem rdB_no {n N c t : Nat} {b : Nat → Option Nat} (h : ¬ t = 46) (hm : ¬ (49 ≤ t ∧ mayP n N b c (t - 49))) : rdB n N b c t = none := by unfold rdB; rw [if_neg h, if_neg hm]
noncomputable def rdF (n N : Nat) (ty : Nat → Nat) (len : Nat) : Nat → Nat → (Nat → Option Nat) → Option Nat × (Nat → Option Nat)
  | 0, _, b => (if N < len then some N else none, b)
  | k + 1, c, b => if len ≤ c then (some c, b) else match rdB n N b c (ty c) with
    | none => (some c, b)
    | some b' => rdF n N ty len k (c + 1) b'
theorem sub49 {t : Nat} (h : t < 1073741824) : nI t - nI 49 < 0 ↔ t < 49 := by
  rw [Int32.lt_iff_toInt_lt, pk_sub_toInt (by omega) (by omega), Int32.toInt_zero]
  omega
theorem r_mmin {X : ww_X} {cc : ByteArray} {n0 : Nat} {own : String} {Ts : List Cond} {rm : Room} {kc ks pc : Nat} {lv : List (Nat × Value)} {st : List Value} {ws : va_W} {index a b : Nat} (C : ww_C X cc n0 own Ts rm) (hd : decode cc pc = .ok (.invokestatic index, 3)) (hm : Cond.methodLink own index Lib.Math.min.name ∈ Ts ∧ Cond.static Lib.Math.min.name ∈ Ts ∧ Cond.initialized "java/lang/Math" ∈ Ts ∧ Cond.code Lib.Math.min.name Lib.Math.min.code 2 (some .int) ∈ Ts) (hf : 1 ≤ rm.frames) (hlo : 21 ≤ rm.locals) (hsum : (st.map fun v => v.category).sum ≤ 8) (hc : kc ≤ rm.cells ∧ ks ≤ rm.slots) (ha : a < 2147483648) (hb2 : b < 2147483648) (k : RW X kc ks (pc + 3) lv (.int (nI (min a b)) :: st) ws) : RW X kc ks pc lv (.int (nI b) :: .int (nI a) :: st) ws := by
  obtain ⟨g, p, l, e, R, s, m, args, below, meth, c, A, H0, nL, Q⟩ := X
  obtain ⟨hx, hb, hml, rfl, hown, hts, hK, hA, hlocks, rfl⟩ := C
  intro H locs ls hP hD hS hl
  refine va_mmin hx hb (hml.trans hl.1.symm) hown (hts _ hm.1) (hts _ hm.2.1) (hts _ hm.2.2.1) (hts _ hm.2.2.2) hf (by omega) hc.1 hc.2 hd ?_
  have e9 : (if nI b < nI a then nI b else nI a) = nI (min a b) := by
    by_cases q : b < a
    · rw [if_pos (nI_lt q ha), show min a b = b by omega]
    · rw [if_neg (nI_nlt (by omega) hb2), show min a b = a by omega]
  rw [e9]
  exact k H locs ls hP hD hS hl
