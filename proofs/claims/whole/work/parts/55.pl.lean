/-! the rows of units: a tail of arrays -/
theorem ww_plsplit {cI : ClassId} {b a u : Nat} {r : Nat → Nat} {f : Nat → Nat → Int32} (hu : u < a) : ww_pl cI b a r f = (List.range u).map (fun v => (r v, .inl (cI, b, .inl (f v)))) ++ (r u, .inl (cI, b, .inl (f u))) :: (List.range' (u + 1) (a - u - 1)).map (fun v => (r v, .inl (cI, b, .inl (f v)))) := by
  unfold ww_pl
  rw [List.range_eq_range', List.range_eq_range', show a = u + (1 + (a - u - 1)) by omega, ← List.range'_append_1, ← List.range'_append_1, List.map_append, List.map_append]
  simp
theorem ww_plup {cI : ClassId} {b a u : Nat} {r : Nat → Nat} {f : Nat → Nat → Int32} {z : Nat → Int32} (hu : u < a) : ww_pl cI b a r (fun v => if v = u then z else f v) = (List.range u).map (fun v => (r v, .inl (cI, b, .inl (f v)))) ++ (r u, .inl (cI, b, .inl z)) :: (List.range' (u + 1) (a - u - 1)).map (fun v => (r v, .inl (cI, b, .inl (f v)))) := by
  rw [ww_plsplit hu, if_pos rfl]
  congr 1
  · refine List.map_congr_left (fun v hv => ?_)
    rw [if_neg (by have := List.mem_range.mp hv; omega)]
  · congr 1
    refine List.map_congr_left (fun v hv => ?_)
    rw [if_neg (by have := List.mem_range'_1.mp hv; omega)]
section
variable {X : ww_X} {cc : ByteArray} {n0 : Nat} {own : String} {Ts : List Cond} {rm : Room} {kc ks pc : Nat} {lv : List (Nat × Value)} {st : List Value}
theorem r_iastP {wx : va_W} {a b u j : Nat} {r : Nat → Nat} {f : Nat → Nat → Int32} {x : Int32} (C : ww_C X cc n0 own Ts rm) (hd : decode cc pc = .ok (.iastore, 1)) (hu : u < a) (hj : j < b) (hb : b < 2147483648)
    (k : RW X kc ks (pc + 1) lv st (wx ++ ww_pl X.1.2.1 b a r (fun v => if v = u then upd (f u) j x else f v))) : RW X kc ks pc lv (.int x :: .int (nI j) :: .ref (r u) :: st) (wx ++ ww_pl X.1.2.1 b a r f) := by
  rw [ww_plup hu] at k
  rw [ww_plsplit hu]
  generalize (List.range u).map (fun v => ((r v, .inl (X.1.2.1, b, .inl (f v))) : Nat × va_E)) = p1 at k ⊢
  generalize (List.range' (u + 1) (a - u - 1)).map (fun v => ((r v, .inl (X.1.2.1, b, .inl (f v))) : Nat × va_E)) = p2 at k ⊢
  refine r_perm ww_mid ?_
  refine r_iast C hd wx.length (n := b) (f := f u) (by simp) hj hb (ws' := (wx ++ [(r u, .inl (X.1.2.1, b, .inl (upd (f u) j x)))]) ++ (p1 ++ p2)) (by simp) ?_
  exact r_perm ww_mid.symm k
theorem r_pl {wx : va_W} {a b : Nat} {cI : ClassId} {r : Nat → Nat} {f f' : Nat → Nat → Int32} (h : ∀ u, u < a → ∀ j, j < b → f u j = f' u j) (k : RW X kc ks pc lv st (wx ++ ww_pl cI b a r f')) : RW X kc ks pc lv st (wx ++ ww_pl cI b a r f) := by
  obtain ⟨g, p, l, e, R, s, m, args, below, meth, c, A, H0, nL, Q⟩ := X
  intro H locs ls hP hD hS hl
  have hP1 : va_P g.1 vwCl wx H := fun i q hi => hP i q (by rw [List.getElem?_append_left (List.getElem?_eq_some_iff.mp hi).1]; exact hi)
  have hP2 : va_P g.1 vwCl (ww_pl cI b a r f') H := fun i q hi => by
    unfold ww_pl at hi
    rw [List.getElem?_map] at hi
    by_cases q1 : i < a
    · rw [List.getElem?_range q1] at hi
      cases hi
      have h1 := hP (wx.length + i) (r i, .inl (cI, b, .inl (f i))) (by rw [List.getElem?_append_right (by omega)]; unfold ww_pl; rw [List.getElem?_map, show wx.length + i - wx.length = i by omega, List.getElem?_range q1]; rfl)
      have e1 : vp_cell cI (b, .inl (f i)) = vp_cell cI (b, .inl (f' i)) := ww_arrV (fun j q => congrArg Value.int (h i q1 j q))
      show H[r i]? = some (vp_cell cI (b, .inl (f' i)))
      rw [← e1]; exact h1
    · rw [List.getElem?_eq_none (by simpa using q1)] at hi; cases hi
  refine k H locs ls (hP1.app hP2) (ww_Dof ?_ hD) hS hl
  rw [List.map_append, List.map_append]
  congr 1
  unfold ww_pl
  rw [List.map_map, List.map_map]
  rfl
theorem r_mna {wx : va_W} {index a b : Nat} (C : ww_C X cc n0 own Ts rm) (hI : ww_I X) (hd : decode cc pc = .ok (.multianewarray index 2, 4)) (hcl : Cond.classLink own index "[[I" ∈ Ts) (ha : a ≤ 1000) (hb0 : b ≤ 1000) (hcs : kc + (1 + a) ≤ rm.cells ∧ ks + (a + a * b) ≤ rm.slots)
    (k : ∀ (q : Nat) (r : Nat → Nat), RW X (kc + 1 + a) (ks + a + a * b) (pc + 4) lv (.ref q :: st) ((wx ++ [(q, .inl (X.1.2.2.2.1, a, .inr (.inr (.inr (.inr (fun i => some (r i)))))))]) ++ ww_pl X.1.2.1 b a r (fun _ _ => 0))) : RW X kc ks pc lv (.int (nI b) :: .int (nI a) :: st) (wx ++ []) := by
  obtain ⟨g, p, l, e, R, s, m, args, below, meth, c, A, H0, nL, Q⟩ := X
  obtain ⟨hx, hb, hml, rfl, hown, hts, hK, hA, hlocks, rfl⟩ := C
  intro H locs ls hP hD hS hl
  rw [List.append_nil] at hP hD
  intro T hT Xs
  obtain ⟨vm₁, cA, comp, hcA, hcomp, X', step⟩ := mn_step Xs hx hown (hts _ hcl) hI.2.1 (g := F0 m pc ls (.int (nI b) :: .int (nI a) :: st)) rfl (by rw [hb]; exact hd) rfl (nI_clamp (by omega)) (nI_clamp (by omega)) (nI_pos (by omega)) (nI_pos (by omega)) (by omega) (by omega) hcs.1 hcs.2
  have e1 : s.vm.findClass "[[I" = some g.2.2.2.1 := (hK.2 2 (g.2.2.2.1, .array .int) rfl).2
  have e2 : s.vm.findClass "[I" = some g.2.1 := (hK.2 0 (g.2.1, .int) rfl).2
  obtain rfl : g.2.2.2.1 = cA := Option.some.inj (e1.symm.trans hcA)
  obtain rfl : g.2.1 = comp := Option.some.inj (e2.symm.trans hcomp)
  generalize hF : mnS (T.setVm vm₁) g.2.2.2.1 g.2.1 a b a = F at X' step
  have hTh : (T.setVm vm₁).heap = H := hT
  obtain ⟨f1, f2, -, -⟩ := mnS_is (T.setVm vm₁) g.2.2.2.1 g.2.1 a b a
  rw [hF, hTh] at f1 f2
  have hold : ∀ x : Nat, x < H.size → F.heap[x]? = H[x]? := fun x hx => by
    have := mnS_old (T.setVm vm₁) g.2.2.2.1 g.2.1 a b (a := x) (by rw [hTh]; exact hx) a
    rw [hF, hTh] at this; exact this
  have hrow : ∀ j : Nat, j < a → F.heap[H.size + 1 + j]? = some (mnI g.2.1 b) := fun j hj => by
    have := mnS_in (T.setVm vm₁) g.2.2.2.1 g.2.1 a b a j hj
    rw [hF, hTh] at this; exact this
  have hP0 : va_P g.1 vwCl wx F.heap := hP.kept (fun i x hx => hold x.1 ((hP i x hx).lt))
  have hP1 : va_P g.1 vwCl (wx ++ [(H.size, .inl (g.2.2.2.1, a, .inr (.inr (.inr (.inr (fun i => some (H.size + 1 + i)))))))]) F.heap := hP0.app (fun i x hx => by
    have h0 : i < 1 := (List.getElem?_eq_some_iff.mp hx).1
    rw [show i = 0 by omega] at hx
    cases hx
    show F.heap[H.size]? = some (vp_cell _ _)
    rw [f2, vp_cell_q, mnO_arr]
    exact congrArg some (ww_arrV (fun j q => by rw [if_pos q])))
  have hP2 : va_P g.1 vwCl (ww_pl g.2.1 b a (fun i => H.size + 1 + i) (fun _ _ => 0)) F.heap := fun i x hx => by
    unfold ww_pl at hx
    rw [List.getElem?_map] at hx
    by_cases q1 : i < a
    · rw [List.getElem?_range q1] at hx
      cases hx
      show F.heap[H.size + 1 + i]? = some (vp_cell g.2.1 (b, .inl (fun _ => 0)))
      rw [hrow i q1]
      exact congrArg some (arrV_new g.2.1 b (.int 0))
    · rw [List.getElem?_eq_none (by simpa using q1)] at hx; cases hx
  have hD1 := hD.push (e := .inl (g.2.2.2.1, a, .inr (.inr (.inr (.inr (fun i => some (H.size + 1 + i))))))) hP rfl (hA _ hS.1)
  have hpl : ∀ (i : Nat) (x : Nat × va_E), (ww_pl g.2.1 b a (fun i => H.size + 1 + i) (fun _ _ => 0))[i]? = some x → x.1 = H.size + 1 + i := fun i x hx => by
    unfold ww_pl at hx
    rw [List.getElem?_map] at hx
    by_cases q1 : i < a
    · rw [List.getElem?_range q1] at hx; cases hx; rfl
    · rw [List.getElem?_eq_none (by simpa using q1)] at hx; cases hx
  have hle : ∀ (i : Nat) (x : Nat × va_E), (wx ++ [(H.size, .inl (g.2.2.2.1, a, .inr (.inr (.inr (.inr (fun i => some (H.size + 1 + i)))))))])[i]? = some x → x.1 ≤ H.size := fun i x hx => by
    rcases List.mem_append.mp (List.mem_of_getElem? hx) with h | h
    · obtain ⟨j, hj⟩ := List.getElem?_of_mem h
      exact Nat.le_of_lt ((hP j x hj).lt)
    · rw [List.mem_singleton.mp h]; exact Nat.le_refl _
  have hD2 : va_D A (ww_pl g.2.1 b a (fun i => H.size + 1 + i) (fun _ _ => 0)) := ⟨fun i j x y hi hj e => by
    have h1 := hpl i x hi
    have h2 := hpl j y hj
    omega, fun i x hx => hA _ (by rw [hpl i x hx]; have := hS.1; omega)⟩
  obtain ⟨t, a1, b1⟩ := k H.size (fun i => H.size + 1 + i) F.heap locs ls (hP1.app hP2) (hD1.app hD2 (fun i j x y hi hj e => by
    have h1 := hle i x hi
    have h2 := hpl j y hj
    omega)) ⟨Nat.le_trans hS.1 (by omega), fun q h1 h2 => (hold q (Nat.lt_of_lt_of_le h1 hS.1)).trans (hS.2.1 q h1 h2), hS.2.2⟩ hl F rfl X'
  refine ⟨t, step t ?_, b1⟩
  rw [hT]
  exact a1
end
