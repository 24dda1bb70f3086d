/-! small rows: truth values, an array's other writing, constructors -/
noncomputable def bz (P : Prop) : Int32 := @ite _ P (Classical.propDecidable P) 1 0
theorem bz_t {P : Prop} (h : P) : bz P = 1 := by unfold bz; exact if_pos h
theorem bz_f {P : Prop} (h : ¬ P) : bz P = 0 := by unfold bz; exact if_neg h
theorem bz_0 {P : Prop} : bz P = 0 ↔ ¬ P := by
  constructor
  · intro h hP
    rw [bz_t hP] at h
    exact absurd h (by decide)
  · exact bz_f
theorem bz_n0 {P : Prop} : ¬ bz P = 0 ↔ P := by
  constructor
  · intro h
    exact Classical.byContradiction (fun hP => h (bz_f hP))
  · intro h e
    exact bz_0.mp e h
theorem bz_01 (P : Prop) : bz P = 0 ∨ bz P = 1 := by
  by_cases h : P
  · exact Or.inr (bz_t h)
  · exact Or.inl (bz_f h)
theorem bz_iff {P Q : Prop} (h : P ↔ Q) : bz P = bz Q := by rw [propext h]
theorem bz_nar (P : Prop) : narrow .boolean (.int (bz P)) = .int (bz P) := by rcases bz_01 P with h | h <;> rw [h] <;> rfl
theorem bz_fit (P : Prop) : fits .boolean (.int (bz P)) = true := by rcases bz_01 P with h | h <;> rw [h] <;> rfl
theorem bz_vp (P : Prop) : vp_nar .boolean (bz P) = bz P := by rcases bz_01 P with h | h <;> rw [h] <;> rfl
theorem ww_arrV {cA : ClassId} {n : Nat} {f f' : Nat → Value} (h : ∀ j, j < n → f j = f' j) : arrV cA n f = arrV cA n f' := by
  unfold arrV
  congr 1
  apply Array.ext
  · simp
  · intro i h1 h2
    simp at h1
    simp [h i h1]
section
variable {X : ww_X} {cc : ByteArray} {n0 : Nat} {own : String} {Ts : List Cond} {rm : Room} {kc ks pc : Nat} {lv lv' : List (Nat × Value)} {st : List Value} {ws ws' : va_W}
theorem r_arrI {a n : Nat} {cA : ClassId} {f f' : Nat → Int32} (q0 : Nat) (ha : ws[q0]? = some (a, .inl (cA, n, .inl f))) (h : ∀ j, j < n → f j = f' j) (hws : ws.set q0 (a, .inl (cA, n, .inl f')) = ws') (k : RW X kc ks pc lv st ws') : RW X kc ks pc lv st ws := by
  obtain ⟨g, p, l, e, R, s, m, args, below, meth, c, A, H0, nL, Q⟩ := X
  subst hws
  intro H locs ls hP hD hS hl
  refine k H locs ls ?_ (hD.set ha) hS hl
  refine hP.set hD ha ?_ (fun q _ => rfl)
  have h0 : H[a]? = some (vp_cell cA (n, .inl f)) := hP q0 _ ha
  show H[a]? = some (vp_cell cA (n, .inl f'))
  rw [h0, vp_cell_i, vp_cell_i, ww_arrV (f' := fun j => .int (f' j)) (fun j hj => by rw [h j hj])]
theorem r_arrZ {a n : Nat} {cA : ClassId} {f f' : Nat → Int32} (q0 : Nat) (ha : ws[q0]? = some (a, .inl (cA, n, .inl f))) (h : ∀ j, j < n → f j = f' j) (hws : ws.set q0 (a, .inl (cA, n, .inl f')) = ws') (k : RW X kc ks pc lv st ws') : RW X kc ks pc lv st ws := r_arrI q0 ha h hws k
theorem r_objInit {index a : Nat} (C : ww_C X cc n0 own Ts rm) (hd : decode cc pc = .ok (.invokespecial index, 3)) (hm : Cond.methodLink own index objectInit ∈ Ts ∧ Cond.instanceMethod objectInit ∈ Ts ∧ Cond.code objectInit ⟨#[0xb1]⟩ 1 none ∈ Ts) (hf : 1 ≤ rm.frames) (hlo : 20 ≤ rm.locals) (hsum : (st.map fun v => v.category).sum ≤ 8) (k : RW X kc ks (pc + 3) lv st ws) : RW X kc ks pc lv (.ref a :: st) ws := by
  obtain ⟨g, p, l, e, R, s, m, args, below, meth, c, A, H0, nL, Q⟩ := X
  obtain ⟨hx, hb, hml, rfl, hown, hts, hK, hA, hlocks, rfl⟩ := C
  intro H locs ls hP hD hS hl
  refine W.objInit hx hb hown (hts _ hm.1) (hts _ hm.2.1) (hts _ hm.2.2) rfl (by rw [hml]; exact hl.1) rfl hd hf ?_ ?_
  · have := lv_room (m := m) (pc := pc) (ls := ls) (rest := .ref a :: st) hsum
    show 2 * (F0 m pc ls (.ref a :: st)).monitorRoom + _ + 12 ≤ _
    omega
  · exact k H locs ls hP hD hS hl
end
