def woF (lf : Nat → Nat) (ss : Nat) (gv : Nat → Option Nat) : Nat → Option Nat := fun c => if lf c = ss then none else gv c
theorem okB_sub {n N : Nat} {gv g2 : Nat → Option Nat} (hok : okB n N gv) (h : ∀ c v, g2 c = some v → gv c = some v) : okB n N g2 :=
  ⟨fun c v e => hok.1 c v (h c v e), fun c d v hc hd hne ht e1 e2 => hok.2 c d v hc hd hne ht (h c v e1) (h d v e2)⟩
theorem okB_wo {n N ss : Nat} {lf : Nat → Nat} {gv : Nat → Option Nat} (hok : okB n N gv) : okB n N (woF lf ss gv) := okB_sub hok (fun c v e => by
  unfold woF at e
  by_cases q : lf c = ss
  · rw [if_pos q] at e; cases e
  · rw [if_neg q] at e; exact e)
noncomputable def emF (N : Nat) (th lf : Nat → Nat) (gv : Nat → Option Nat) : Nat → Option Nat := fun c => @ite _ (∃ d, d < N ∧ th d = 2 ∧ lf d = lf c) (Classical.propDecidable _) none (gv c)
theorem emF_t {N c : Nat} {th lf : Nat → Nat} {gv : Nat → Option Nat} (h : ∃ d, d < N ∧ th d = 2 ∧ lf d = lf c) : emF N th lf gv c = none := by unfold emF; rw [if_pos h]
theorem emF_f {N c : Nat} {th lf : Nat → Nat} {gv : Nat → Option Nat} (h : ¬ ∃ d, d < N ∧ th d = 2 ∧ lf d = lf c) : emF N th lf gv c = gv c := by unfold emF; rw [if_neg h]
theorem okB_em {n N : Nat} {th lf : Nat → Nat} {gv : Nat → Option Nat} (hok : okB n N gv) : okB n N (emF N th lf gv) := okB_sub hok (fun c v e => by
  by_cases q : ∃ d, d < N ∧ th d = 2 ∧ lf d = lf c
  · rw [emF_t q] at e; cases e
  · rw [emF_f q] at e; exact e)
theorem em_skip {N i : Nat} {th lf : Nat → Nat} {gv g1 : Nat → Option Nat} (h : ∀ c, (c < i → g1 c = emF N th lf gv c) ∧ (i ≤ c → g1 c = gv c)) (hi : ¬ ∃ d, d < N ∧ th d = 2 ∧ lf d = lf i) : ∀ c, (c < i + 1 → g1 c = emF N th lf gv c) ∧ (i + 1 ≤ c → g1 c = gv c) := by
  intro c
  refine ⟨fun q => ?_, fun q => (h c).2 (by omega)⟩
  by_cases e : c = i
  · rw [e, emF_f hi]; exact (h i).2 (Nat.le_refl i)
  · exact (h c).1 (by omega)
theorem em_put {N i : Nat} {th lf : Nat → Nat} {gv g1 : Nat → Option Nat} (h : ∀ c, (c < i → g1 c = emF N th lf gv c) ∧ (i ≤ c → g1 c = gv c)) (hi : ∃ d, d < N ∧ th d = 2 ∧ lf d = lf i) : ∀ c, (c < i + 1 → ub g1 i none c = emF N th lf gv c) ∧ (i + 1 ≤ c → ub g1 i none c = gv c) := by
  intro c
  by_cases e : c = i
  · subst e
    exact ⟨fun _ => by rw [ub_s, emF_t hi], fun q => by omega⟩
  · rw [ub_n e]
    exact ⟨fun q => (h c).1 (by omega), fun q => (h c).2 (by omega)⟩
theorem ns_skip {N i : Nat} {th lf : Nat → Nat} (h : ∀ c, c < i → (∃ d, d < N ∧ th d = 2 ∧ lf d = lf c) → th c ≠ 1) (hi : ¬ ∃ d, d < N ∧ th d = 2 ∧ lf d = lf i) : ∀ c, c < i + 1 → (∃ d, d < N ∧ th d = 2 ∧ lf d = lf c) → th c ≠ 1 := by
  intro c q w
  by_cases e : c = i
  · rw [e] at w; exact absurd w hi
  · exact h c (by omega) w
theorem ns_put {N i : Nat} {th lf : Nat → Nat} (h : ∀ c, c < i → (∃ d, d < N ∧ th d = 2 ∧ lf d = lf c) → th c ≠ 1) (hi : ¬ th i = 1) : ∀ c, c < i + 1 → (∃ d, d < N ∧ th d = 2 ∧ lf d = lf c) → th c ≠ 1 := by
  intro c q w
  by_cases e : c = i
  · rw [e]; exact hi
  · exact h c (by omega) w
def soP (i ss : Nat) (lf : Nat → Nat) (gv : Nat → Option Nat) : Prop := ∃ c, c < i ∧ lf c = ss ∧ gv c ≠ none
theorem so_S {i ss : Nat} {so : Prop} {lf : Nat → Nat} {gv : Nat → Option Nat} (h : so ↔ soP i ss lf gv) : (so ∨ (lf i = ss ∧ gv i ≠ none)) ↔ soP (i + 1) ss lf gv := by
  constructor
  · rintro (q | q)
    · obtain ⟨c, q1, q2⟩ := h.mp q
      exact ⟨c, by omega, q2⟩
    · exact ⟨i, by omega, q⟩
  · rintro ⟨c, q1, q2⟩
    by_cases e : c = i
    · subst e; exact Or.inr q2
    · exact Or.inl (h.mpr ⟨c, by omega, q2⟩)
/-- the sets that are put in the row, by their least cells -/
def rowP (N : Nat) (lf th : Nat → Nat) (gv : Nat → Option Nat) : Nat → Prop := fun c => lf c = c ∧ gv c ≠ none ∧ ¬ ∃ d, d < N ∧ th d = 1 ∧ lf d = c
theorem row_S {k i : Nat} {P : Nat → Prop} {r1 : Nat → Nat} (h : ∀ j, j < k → r1 j = kthV P j) (hP : P i) (hk : k = cn P i) : ∀ j, j < k + 1 → uO r1 k i j = kthV P j := by
  intro j q
  unfold uO
  by_cases e : j = k
  · rw [if_pos e, e, kthV_is hP hk.symm]
  · rw [if_neg e]; exact h j (by omega)
noncomputable def drawW (n N : Nat) : Nat → Int64 → Nat → Bool × Int64 × Nat × (Nat → Option Nat)
  | 0, x, r => (false, x, r, fun _ => none)
  | k + 1, x, r => @ite _ ((drawF n N N x (fun _ => none)).1 = true) (Classical.propDecidable _) (true, (drawF n N N x (fun _ => none)).2.1, r, (drawF n N N x (fun _ => none)).2.2) (drawW n N k (drawF n N N x (fun _ => none)).2.1 (r + 1))
theorem drawW_t {n N j k r : Nat} {x : Int64} (hj : j = k + 1) (h : (drawF n N N x (fun _ => none)).1 = true) : drawW n N j x r = (true, (drawF n N N x (fun _ => none)).2.1, r, (drawF n N N x (fun _ => none)).2.2) := by rw [hj, drawW, if_pos h]
theorem drawW_f {n N j k r : Nat} {x : Int64} (hj : j = k + 1) (h : ¬ (drawF n N N x (fun _ => none)).1 = true) : drawW n N j x r = drawW n N k (drawF n N N x (fun _ => none)).2.1 (r + 1) := by rw [hj, drawW, if_neg h]
theorem fX5_needsSet_32 : Cond.fieldLink RX5 32 (TX5 0).1 (TX5 0).2.1 (TX5 0).2.2.1 ∈ wsX5_needsSet := List.mem_of_getElem? (i := 1) rfl
theorem iX5_needsSet_X5 : ∀ w ∈ wsX50, w ∈ wsX5_needsSet := by decide +kernel
theorem fX5_needsSet_80 : Cond.fieldLink RX5 80 (TX4 1).1 (TX4 1).2.1 (TX4 1).2.2.1 ∈ wsX5_needsSet := List.mem_of_getElem? (i := 2) rfl
theorem iX5_needsSet_X4 : ∀ w ∈ wsX40, w ∈ wsX5_needsSet := by decide +kernel
theorem fX5_needsSet_76 : Cond.fieldLink RX5 76 (TX5 6).1 (TX5 6).2.1 (TX5 6).2.2.1 ∈ wsX5_needsSet := List.mem_of_getElem? (i := 7) rfl
theorem fX5_needsSet_98 : Cond.fieldLink RX5 98 (TX5 12).1 (TX5 12).2.1 (TX5 12).2.2.1 ∈ wsX5_needsSet := List.mem_of_getElem? (i := 6) rfl
theorem fX5_needsSet_36 : Cond.fieldLink RX5 36 (TX5 1).1 (TX5 1).2.1 (TX5 1).2.2.1 ∈ wsX5_needsSet := List.mem_of_getElem? (i := 3) rfl
theorem fX5_needsSet_158 : Cond.fieldLink RX5 158 (TX6 1).1 (TX6 1).2.1 (TX6 1).2.2.1 ∈ wsX5_needsSet := List.mem_of_getElem? (i := 4) rfl
theorem iX5_needsSet_X6 : ∀ w ∈ wsX60, w ∈ wsX5_needsSet := by decide +kernel
theorem fX5_needsSet_88 : Cond.fieldLink RX5 88 (TX5 9).1 (TX5 9).2.1 (TX5 9).2.2.1 ∈ wsX5_needsSet := List.mem_of_getElem? (i := 5) rfl
set_option maxHeartbeats 4000000 in
set_option maxRecDepth 100000 in
theorem c_X5_needsSet {g : ww_G} {l : Launch} {n : Nat} {N : Nat} {aG : Nat} {gr : Nat} {gc : Nat} {gb : Nat} {gu : Nat} {aM : Nat} {aE : Nat} {aTh : Nat} {aA : Nat} {aD : Nat} {aQ : Nat} {aW : Nat} {aH : Nat} {aWh : Nat} {aGv : Nat} {aMk : Nat} {aRw : Nat} {aWo : Nat} {md : Prop} {tm : Nat} {rs : Nat} {tk : Nat} {pb : Nat} {gn : Nat} {un : Nat} {aL : Nat} {lf : Nat → Nat} {gv : Nat → Option Nat} {wo : Nat → Int32} {ss : Nat} {aO : Nat} {lim : Nat} {fd : Nat} {o : Nat → Nat} {vB : Nat} {vS : Nat} {vR : Nat} {vC : Nat} {vX : Nat} {vf : Nat → Int32} {vfR : Nat → Int32} {vfC : Nat → Int32} {vfB : Nat → Int32} (hn : (n = 4 ∧ N = 16) ∨ (n = 6 ∧ N = 36)) (hlf : ∀ c, c < N → lf c < N) (hok : okB n N gv) (hss : ss < N) : CT g l yX5_needsSet wsX5_needsSet (ww_rm 61) [.ref aM, .int (nI ss)] ([(aM, .inr (6, [.ref aG, .ref aE, .ref aTh, .ref aA, .ref aD, .ref aQ, .ref aW, .ref aH, .ref aWh, .ref aGv, .ref aMk, .ref aRw, .ref aWo, .int (bz md), .int (nI tm), .int (nI rs), .int (nI tk), .int (nI pb), .int (nI gn), .int (nI un)])), (aG, .inr (5, [.int (nI n), .int (nI N), .int (nI (2 ^ n - 1)), .ref gr, .ref gc, .ref gb, .ref gu])), (gr, .inl (g.2.1, N, .inl (gR n))), (gc, .inl (g.2.1, N, .inl (gC n))), (gb, .inl (g.2.1, N, .inl (gB n))), (aE, .inr (7, [.ref aG, .ref aL])), (aL, .inl (g.2.1, N, .inl (nO lf))), (aGv, .inl (g.2.1, N, .inl (eb gv))), (aWo, .inl (g.2.1, N, .inl wo)), (aW, .inr (9, [.ref vB, .ref aO, .int (nI lim), .int (nI fd)])), (aO, .inl (g.2.1, N, .inl (nO o))), (vB, .inr (2, [.ref aG, .ref vS, .ref vR, .ref vC, .ref vX])), (vS, .inl (g.2.1, N, .inl vf)), (vR, .inl (g.2.1, n, .inl vfR)), (vC, .inl (g.2.1, n, .inl vfC)), (vX, .inl (g.2.1, n, .inl vfB))]) (S := Nat × Nat × (Nat → Nat) × (Nat → Int32) × (Nat → Int32) × (Nat → Int32) × (Nat → Int32)) (fun v u => v = some (.int (bz (soP N ss lf gv ∧ 1 < min 2 (0 + cntS n N (woF lf ss gv)))))) (fun u => [(aM, .inr (6, [.ref aG, .ref aE, .ref aTh, .ref aA, .ref aD, .ref aQ, .ref aW, .ref aH, .ref aWh, .ref aGv, .ref aMk, .ref aRw, .ref aWo, .int (bz md), .int (nI tm), .int (nI rs), .int (nI tk), .int (nI pb), .int (nI gn), .int (nI un)])), (aG, .inr (5, [.int (nI n), .int (nI N), .int (nI (2 ^ n - 1)), .ref gr, .ref gc, .ref gb, .ref gu])), (gr, .inl (g.2.1, N, .inl (gR n))), (gc, .inl (g.2.1, N, .inl (gC n))), (gb, .inl (g.2.1, N, .inl (gB n))), (aE, .inr (7, [.ref aG, .ref aL])), (aL, .inl (g.2.1, N, .inl (nO lf))), (aGv, .inl (g.2.1, N, .inl (eb gv))), (aWo, .inl (g.2.1, N, .inl (eb (woF lf ss gv)))), (aW, .inr (9, [.ref vB, .ref aO, .int (nI u.1), .int (nI u.2.1)])), (aO, .inl (g.2.1, N, .inl (nO u.2.2.1))), (vB, .inr (2, [.ref aG, .ref vS, .ref vR, .ref vC, .ref vX])), (vS, .inl (g.2.1, N, .inl u.2.2.2.1)), (vR, .inl (g.2.1, n, .inl u.2.2.2.2.1)), (vC, .inl (g.2.1, n, .inl u.2.2.2.2.2.1)), (vX, .inl (g.2.1, n, .inl u.2.2.2.2.2.2))]) := by
  refine CT.of cX5_needsSet 5 (some .boolean) RX5 (by decide +kernel) rfl rfl (Nat.le_of_ble_eq_true rfl) ?_
  intro X hg hl C hret
  subst hg; subst hl
  show RW X 0 0 0 [(0, .ref aM), (1, .int (nI ss))] [] [(aM, .inr (6, [.ref aG, .ref aE, .ref aTh, .ref aA, .ref aD, .ref aQ, .ref aW, .ref aH, .ref aWh, .ref aGv, .ref aMk, .ref aRw, .ref aWo, .int (bz md), .int (nI tm), .int (nI rs), .int (nI tk), .int (nI pb), .int (nI gn), .int (nI un)])), (aG, .inr (5, [.int (nI n), .int (nI N), .int (nI (2 ^ n - 1)), .ref gr, .ref gc, .ref gb, .ref gu])), (gr, .inl (X.1.2.1, N, .inl (gR n))), (gc, .inl (X.1.2.1, N, .inl (gC n))), (gb, .inl (X.1.2.1, N, .inl (gB n))), (aE, .inr (7, [.ref aG, .ref aL])), (aL, .inl (X.1.2.1, N, .inl (nO lf))), (aGv, .inl (X.1.2.1, N, .inl (eb gv))), (aWo, .inl (X.1.2.1, N, .inl wo)), (aW, .inr (9, [.ref vB, .ref aO, .int (nI lim), .int (nI fd)])), (aO, .inl (X.1.2.1, N, .inl (nO o))), (vB, .inr (2, [.ref aG, .ref vS, .ref vR, .ref vC, .ref vX])), (vS, .inl (X.1.2.1, N, .inl vf)), (vR, .inl (X.1.2.1, n, .inl vfR)), (vC, .inl (X.1.2.1, n, .inl vfC)), (vX, .inl (X.1.2.1, n, .inl vfB))]
  refine r_iconst C dX5_needsSet_0 (v := bz False) (by rw [bz_f id]; decide) ?_
  refine r_istore_n C dX5_needsSet_1 rfl (by decide) [1, 2, 0] (lv' := [(0, .ref aM), (1, .int (nI ss)), (2, .int (bz False))]) rfl ?_
  refine r_iconst C dX5_needsSet_2 (v := nI 0) (by decide) ?_
  refine r_istore_n C dX5_needsSet_3 rfl (by decide) [1, 2, 3, 0] (lv' := [(0, .ref aM), (1, .int (nI ss)), (2, .int (bz False)), (3, .int (nI 0))]) rfl ?_
  have L4 : ∀ (d4 : Nat) (i : Nat) (so : Prop) (w1 : Nat → Int32), (N - i) < d4 → (i ≤ N) → (so ↔ soP i ss lf gv) → (∀ c, c < i → w1 c = eo (woF lf ss gv c)) → RW X 0 0 4 [(0, .ref aM), (1, .int (nI ss)), (2, .int (bz so)), (3, .int (nI i))] [] [(aM, .inr (6, [.ref aG, .ref aE, .ref aTh, .ref aA, .ref aD, .ref aQ, .ref aW, .ref aH, .ref aWh, .ref aGv, .ref aMk, .ref aRw, .ref aWo, .int (bz md), .int (nI tm), .int (nI rs), .int (nI tk), .int (nI pb), .int (nI gn), .int (nI un)])), (aG, .inr (5, [.int (nI n), .int (nI N), .int (nI (2 ^ n - 1)), .ref gr, .ref gc, .ref gb, .ref gu])), (gr, .inl (X.1.2.1, N, .inl (gR n))), (gc, .inl (X.1.2.1, N, .inl (gC n))), (gb, .inl (X.1.2.1, N, .inl (gB n))), (aE, .inr (7, [.ref aG, .ref aL])), (aL, .inl (X.1.2.1, N, .inl (nO lf))), (aGv, .inl (X.1.2.1, N, .inl (eb gv))), (aWo, .inl (X.1.2.1, N, .inl w1)), (aW, .inr (9, [.ref vB, .ref aO, .int (nI lim), .int (nI fd)])), (aO, .inl (X.1.2.1, N, .inl (nO o))), (vB, .inr (2, [.ref aG, .ref vS, .ref vR, .ref vC, .ref vX])), (vS, .inl (X.1.2.1, N, .inl vf)), (vR, .inl (X.1.2.1, n, .inl vfR)), (vC, .inl (X.1.2.1, n, .inl vfC)), (vX, .inl (X.1.2.1, n, .inl vfB))] := by
    intro d4
    induction d4 with
    | zero => intro i so w1 hd4; exact absurd hd4 (Nat.not_lt_zero _)
    | succ d4 ih4 =>
      intro i so w1 hd4 hi hso hw1
      refine r_iload_n C dX5_needsSet_4 3 rfl rfl ?_
      refine r_aload_n C dX5_needsSet_5 0 rfl rfl ?_
      refine r_get C dX5_needsSet_6 iX5_needsSet_X5 0 fX5_needsSet_32 0 rfl rfl (by decide) rfl ?_
      refine r_get C dX5_needsSet_9 iX5_needsSet_X4 1 fX5_needsSet_80 1 rfl rfl (by decide) rfl ?_
      refine r_icmp_ge (tgt := 86) C dX5_needsSet_12 (by decide) (fun h12 => ?_) (fun h12 => ?_)
      · have h12 : N ≤ i := (nI_leI (by omega) (by omega)).mp h12
        have hiN : i = N := by omega
        have hso2 : so ↔ soP N ss lf gv := by rw [hiN] at hso; exact hso
        refine r_arrI 8 rfl (fun j q => hw1 j (by omega)) (ws' := [(aM, .inr (6, [.ref aG, .ref aE, .ref aTh, .ref aA, .ref aD, .ref aQ, .ref aW, .ref aH, .ref aWh, .ref aGv, .ref aMk, .ref aRw, .ref aWo, .int (bz md), .int (nI tm), .int (nI rs), .int (nI tk), .int (nI pb), .int (nI gn), .int (nI un)])), (aG, .inr (5, [.int (nI n), .int (nI N), .int (nI (2 ^ n - 1)), .ref gr, .ref gc, .ref gb, .ref gu])), (gr, .inl (X.1.2.1, N, .inl (gR n))), (gc, .inl (X.1.2.1, N, .inl (gC n))), (gb, .inl (X.1.2.1, N, .inl (gB n))), (aE, .inr (7, [.ref aG, .ref aL])), (aL, .inl (X.1.2.1, N, .inl (nO lf))), (aGv, .inl (X.1.2.1, N, .inl (eb gv))), (aWo, .inl (X.1.2.1, N, .inl (eb (woF lf ss gv)))), (aW, .inr (9, [.ref vB, .ref aO, .int (nI lim), .int (nI fd)])), (aO, .inl (X.1.2.1, N, .inl (nO o))), (vB, .inr (2, [.ref aG, .ref vS, .ref vR, .ref vC, .ref vX])), (vS, .inl (X.1.2.1, N, .inl vf)), (vR, .inl (X.1.2.1, n, .inl vfR)), (vC, .inl (X.1.2.1, n, .inl vfC)), (vX, .inl (X.1.2.1, n, .inl vfB))]) rfl ?_
        refine r_iload_n C dX5_needsSet_86 2 rfl rfl ?_
        refine r_if_eq (tgt := 110) C dX5_needsSet_87 (by decide) (fun h87 => ?_) (fun h87 => ?_)
        · have h87 : ¬ (so) := bz_0.mp h87
          refine r_iconst C dX5_needsSet_110 (v := nI 0) (by decide) ?_
          refine r_top (y := bz (soP N ss lf gv ∧ 1 < min 2 (0 + cntS n N (woF lf ss gv)))) ((bz_f (fun w => h87 (hso2.mpr w.1))).symm) ?_
          exact hret _ _ _ (lim, fd, o, vf, vfR, vfC, vfB) rfl (Or.inr ⟨_, rfl, dX5_needsSet_111, Or.inr ⟨rfl, bz_01 _⟩⟩)
        · have h87 : so := bz_n0.mp h87
          refine r_aload_n C dX5_needsSet_90 0 rfl rfl ?_
          refine r_get C dX5_needsSet_91 iX5_needsSet_X5 6 fX5_needsSet_76 0 rfl rfl (by decide) rfl ?_
          refine r_aload_n C dX5_needsSet_94 0 rfl rfl ?_
          refine r_get C dX5_needsSet_95 iX5_needsSet_X5 12 fX5_needsSet_98 0 rfl rfl (by decide) rfl ?_
          refine r_iconst C dX5_needsSet_98 (v := nI 2) (by decide) ?_
          refine r_callV0 (n := 2) (ws' := fun (u : (Nat → Nat)) => [(aM, .inr (6, [.ref aG, .ref aE, .ref aTh, .ref aA, .ref aD, .ref aQ, .ref aW, .ref aH, .ref aWh, .ref aGv, .ref aMk, .ref aRw, .ref aWo, .int (bz md), .int (nI tm), .int (nI rs), .int (nI tk), .int (nI pb), .int (nI gn), .int (nI un)])), (aG, .inr (5, [.int (nI n), .int (nI N), .int (nI (2 ^ n - 1)), .ref gr, .ref gc, .ref gb, .ref gu])), (gr, .inl (X.1.2.1, N, .inl (gR n))), (gc, .inl (X.1.2.1, N, .inl (gC n))), (gb, .inl (X.1.2.1, N, .inl (gB n))), (aE, .inr (7, [.ref aG, .ref aL])), (aL, .inl (X.1.2.1, N, .inl (nO lf))), (aGv, .inl (X.1.2.1, N, .inl (eb gv))), (aWo, .inl (X.1.2.1, N, .inl (eb (woF lf ss gv)))), (aW, .inr (9, [.ref vB, .ref aO, .int (nI 2), .int (nI (min 2 (0 + cntS n N (woF lf ss gv))))])), (aO, .inl (X.1.2.1, N, .inl (nO u))), (vB, .inr (2, [.ref aG, .ref vS, .ref vR, .ref vC, .ref vX])), (vS, .inl (X.1.2.1, N, .inl (eb (woF lf ss gv)))), (vR, .inl (X.1.2.1, n, .inl (mR n N (woF lf ss gv)))), (vC, .inl (X.1.2.1, n, .inl (mC n N (woF lf ss gv)))), (vX, .inl (X.1.2.1, n, .inl (mB n N (woF lf ss gv))))]) C dX5_needsSet_99 (c_X8_count (g := X.1) (l := X.2.2.1) (n := n) (N := N) (aG := aG) (gr := gr) (gc := gc) (gb := gb) (gu := gu) (aB := vB) (aS := vS) (aR := vR) (aC := vC) (aX := vX) (f := vf) (fR := vfR) (fC := vfC) (fB := vfB) (aW := aW) (aO := aO) (lim := lim) (fd := fd) (o := o) (aV := aWo) (gv := woF lf ss gv) (most := 2) (hn := (by first | assumption | omega)) (hok := (okB_wo hok)) (hm0 := (by omega)) (hm1 := (by omega))) gX5_needsSet_X8_count rfl (by decide +kernel) rfl ⟨Nat.le_of_ble_eq_true rfl, Nat.le_of_ble_eq_true rfl⟩ ⟨rfl, rfl⟩ ⟨Nat.zero_le _, Nat.zero_le _⟩ (rest := []) rfl (Nat.le_of_ble_eq_true rfl) 0 rfl rfl [9, 10, 1, 2, 3, 4, 11, 12, 13, 14, 15, 8] (by decide) rfl (fun u => Eq.trans (b := [aW, aO, aG, gr, gc, gb, vB, vS, vR, vC, vX, aWo]) rfl rfl) (fun u => rfl) (fun v u hp => ?_)
          obtain ⟨o9_1, rfl⟩ : ∃ z, z = u := ⟨_, rfl⟩
          obtain rfl := hp
          show RW X 0 0 102 [(0, .ref aM), (1, .int (nI ss)), (2, .int (bz so)), (3, .int (nI i))] [.int (nI (min 2 (0 + cntS n N (woF lf ss gv))))] [(aM, .inr (6, [.ref aG, .ref aE, .ref aTh, .ref aA, .ref aD, .ref aQ, .ref aW, .ref aH, .ref aWh, .ref aGv, .ref aMk, .ref aRw, .ref aWo, .int (bz md), .int (nI tm), .int (nI rs), .int (nI tk), .int (nI pb), .int (nI gn), .int (nI un)])), (aG, .inr (5, [.int (nI n), .int (nI N), .int (nI (2 ^ n - 1)), .ref gr, .ref gc, .ref gb, .ref gu])), (gr, .inl (X.1.2.1, N, .inl (gR n))), (gc, .inl (X.1.2.1, N, .inl (gC n))), (gb, .inl (X.1.2.1, N, .inl (gB n))), (aE, .inr (7, [.ref aG, .ref aL])), (aL, .inl (X.1.2.1, N, .inl (nO lf))), (aGv, .inl (X.1.2.1, N, .inl (eb gv))), (aWo, .inl (X.1.2.1, N, .inl (eb (woF lf ss gv)))), (aW, .inr (9, [.ref vB, .ref aO, .int (nI 2), .int (nI (min 2 (0 + cntS n N (woF lf ss gv))))])), (aO, .inl (X.1.2.1, N, .inl (nO o9_1))), (vB, .inr (2, [.ref aG, .ref vS, .ref vR, .ref vC, .ref vX])), (vS, .inl (X.1.2.1, N, .inl (eb (woF lf ss gv)))), (vR, .inl (X.1.2.1, n, .inl (mR n N (woF lf ss gv)))), (vC, .inl (X.1.2.1, n, .inl (mC n N (woF lf ss gv)))), (vX, .inl (X.1.2.1, n, .inl (mB n N (woF lf ss gv))))]
          refine r_iconst C dX5_needsSet_102 (v := nI 1) (by decide) ?_
          refine r_icmp_le (tgt := 110) C dX5_needsSet_103 (by decide) (fun h103 => ?_) (fun h103 => ?_)
          · have h103 : (min 2 (0 + cntS n N (woF lf ss gv))) ≤ 1 := (nI_leI (by omega) (by omega)).mp h103
            refine r_iconst C dX5_needsSet_110 (v := nI 0) (by decide) ?_
            refine r_top (y := bz (soP N ss lf gv ∧ 1 < min 2 (0 + cntS n N (woF lf ss gv)))) ((bz_f (fun w => absurd w.2 (by omega))).symm) ?_
            exact hret _ _ _ (2, min 2 (0 + cntS n N (woF lf ss gv)), o9_1, eb (woF lf ss gv), mR n N (woF lf ss gv), mC n N (woF lf ss gv), mB n N (woF lf ss gv)) rfl (Or.inr ⟨_, rfl, dX5_needsSet_111, Or.inr ⟨rfl, bz_01 _⟩⟩)
          · have h103 : ¬ ((min 2 (0 + cntS n N (woF lf ss gv))) ≤ 1) := fun e9 => h103 ((nI_leI (by omega) (by omega)).mpr e9)
            refine r_iconst C dX5_needsSet_106 (v := nI 1) (by decide) ?_
            refine r_goto (tgt := 111) C dX5_needsSet_107 (by decide) ?_
            refine r_top (y := bz (soP N ss lf gv ∧ 1 < min 2 (0 + cntS n N (woF lf ss gv)))) ((bz_t ⟨hso2.mp h87, by omega⟩).symm) ?_
            exact hret _ _ _ (2, min 2 (0 + cntS n N (woF lf ss gv)), o9_1, eb (woF lf ss gv), mR n N (woF lf ss gv), mC n N (woF lf ss gv), mB n N (woF lf ss gv)) rfl (Or.inr ⟨_, rfl, dX5_needsSet_111, Or.inr ⟨rfl, bz_01 _⟩⟩)
      · have h12 : ¬ (N ≤ i) := fun e9 => h12 ((nI_leI (by omega) (by omega)).mpr e9)
        have hlfi := hlf i (by omega)
        refine r_aload_n C dX5_needsSet_15 0 rfl rfl ?_
        refine r_get C dX5_needsSet_16 iX5_needsSet_X5 1 fX5_needsSet_36 0 rfl rfl (by decide) rfl ?_
        refine r_get C dX5_needsSet_19 iX5_needsSet_X6 1 fX5_needsSet_158 5 rfl rfl (by decide) rfl ?_
        refine r_iload_n C dX5_needsSet_22 3 rfl rfl ?_
        refine r_iald C dX5_needsSet_23 6 rfl (by omega) (by omega) ?_
        show RW X 0 0 24 [(0, .ref aM), (1, .int (nI ss)), (2, .int (bz so)), (3, .int (nI i))] [.int (nI (lf i))] [(aM, .inr (6, [.ref aG, .ref aE, .ref aTh, .ref aA, .ref aD, .ref aQ, .ref aW, .ref aH, .ref aWh, .ref aGv, .ref aMk, .ref aRw, .ref aWo, .int (bz md), .int (nI tm), .int (nI rs), .int (nI tk), .int (nI pb), .int (nI gn), .int (nI un)])), (aG, .inr (5, [.int (nI n), .int (nI N), .int (nI (2 ^ n - 1)), .ref gr, .ref gc, .ref gb, .ref gu])), (gr, .inl (X.1.2.1, N, .inl (gR n))), (gc, .inl (X.1.2.1, N, .inl (gC n))), (gb, .inl (X.1.2.1, N, .inl (gB n))), (aE, .inr (7, [.ref aG, .ref aL])), (aL, .inl (X.1.2.1, N, .inl (nO lf))), (aGv, .inl (X.1.2.1, N, .inl (eb gv))), (aWo, .inl (X.1.2.1, N, .inl w1)), (aW, .inr (9, [.ref vB, .ref aO, .int (nI lim), .int (nI fd)])), (aO, .inl (X.1.2.1, N, .inl (nO o))), (vB, .inr (2, [.ref aG, .ref vS, .ref vR, .ref vC, .ref vX])), (vS, .inl (X.1.2.1, N, .inl vf)), (vR, .inl (X.1.2.1, n, .inl vfR)), (vC, .inl (X.1.2.1, n, .inl vfC)), (vX, .inl (X.1.2.1, n, .inl vfB))]
        refine r_iload_n C dX5_needsSet_24 1 rfl rfl ?_
        refine r_icmp_ne (tgt := 32) C dX5_needsSet_25 (by decide) (fun h25 => ?_) (fun h25 => ?_)
        · have h25 : ¬ ((lf i) = ss) := fun e9 => h25 ((nI_eq (by omega) (by omega)).mpr e9)
          refine r_iconst C dX5_needsSet_32 (v := nI 0) (by decide) ?_
          refine r_istore C dX5_needsSet_33 (by decide) [1, 2, 3, 4, 0] (lv' := [(0, .ref aM), (1, .int (nI ss)), (2, .int (bz so)), (3, .int (nI i)), (4, .int (nI 0))]) rfl ?_
          refine r_iload_n C dX5_needsSet_35 2 rfl rfl ?_
          refine r_if_ne (tgt := 53) C dX5_needsSet_36 (by decide) (fun h36 => ?_) (fun h36 => ?_)
          · have h36 : so := bz_n0.mp h36
            refine r_iconst C dX5_needsSet_53 (v := nI 1) (by decide) ?_
            refine r_goto (tgt := 58) C dX5_needsSet_54 (by decide) ?_
            refine r_top (y := bz (so ∨ (lf i = ss ∧ gv i ≠ none))) (bz_t (Or.inl h36)).symm ?_
            refine r_istore_n C dX5_needsSet_58 rfl (by decide) [1, 2, 0, 3, 4] (lv' := [(0, .ref aM), (1, .int (nI ss)), (2, .int (bz (so ∨ (lf i = ss ∧ gv i ≠ none)))), (3, .int (nI i)), (4, .int (nI 0))]) rfl ?_
            refine r_aload_n C dX5_needsSet_59 0 rfl rfl ?_
            refine r_get C dX5_needsSet_60 iX5_needsSet_X5 12 fX5_needsSet_98 0 rfl rfl (by decide) rfl ?_
            refine r_iload_n C dX5_needsSet_63 3 rfl rfl ?_
            refine r_iload C dX5_needsSet_64 4 rfl ?_
            refine r_if_eq (tgt := 73) C dX5_needsSet_66 (by decide) (fun h66 => ?_) (fun h66 => ?_)
            · have h66 : 0 = 0 := (nI_eq (b := 0) (by omega) (by omega)).mp h66
              refine r_aload_n C dX5_needsSet_73 0 rfl rfl ?_
              refine r_get C dX5_needsSet_74 iX5_needsSet_X5 9 fX5_needsSet_88 0 rfl rfl (by decide) rfl ?_
              refine r_iload_n C dX5_needsSet_77 3 rfl rfl ?_
              refine r_iald C dX5_needsSet_78 7 rfl (by omega) (by omega) ?_
              refine r_iast C dX5_needsSet_79 8 rfl (by omega) (by omega) (ws' := [(aM, .inr (6, [.ref aG, .ref aE, .ref aTh, .ref aA, .ref aD, .ref aQ, .ref aW, .ref aH, .ref aWh, .ref aGv, .ref aMk, .ref aRw, .ref aWo, .int (bz md), .int (nI tm), .int (nI rs), .int (nI tk), .int (nI pb), .int (nI gn), .int (nI un)])), (aG, .inr (5, [.int (nI n), .int (nI N), .int (nI (2 ^ n - 1)), .ref gr, .ref gc, .ref gb, .ref gu])), (gr, .inl (X.1.2.1, N, .inl (gR n))), (gc, .inl (X.1.2.1, N, .inl (gC n))), (gb, .inl (X.1.2.1, N, .inl (gB n))), (aE, .inr (7, [.ref aG, .ref aL])), (aL, .inl (X.1.2.1, N, .inl (nO lf))), (aGv, .inl (X.1.2.1, N, .inl (eb gv))), (aWo, .inl (X.1.2.1, N, .inl (upd w1 i ((eb gv) i)))), (aW, .inr (9, [.ref vB, .ref aO, .int (nI lim), .int (nI fd)])), (aO, .inl (X.1.2.1, N, .inl (nO o))), (vB, .inr (2, [.ref aG, .ref vS, .ref vR, .ref vC, .ref vX])), (vS, .inl (X.1.2.1, N, .inl vf)), (vR, .inl (X.1.2.1, n, .inl vfR)), (vC, .inl (X.1.2.1, n, .inl vfC)), (vX, .inl (X.1.2.1, n, .inl vfB))]) rfl ?_
              refine r_iinc C dX5_needsSet_80 3 rfl (v := nI (i + 1)) (nI_add _ _) (by decide) [1, 2, 3, 0, 4] (lv' := [(0, .ref aM), (1, .int (nI ss)), (2, .int (bz (so ∨ (lf i = ss ∧ gv i ≠ none)))), (3, .int (nI (i + 1))), (4, .int (nI 0))]) rfl ?_
              refine r_goto (tgt := 4) C dX5_needsSet_83 (by decide) ?_
              refine r_lv [0, 1, 2, 3] (lv' := [(0, .ref aM), (1, .int (nI ss)), (2, .int (bz (so ∨ (lf i = ss ∧ gv i ≠ none)))), (3, .int (nI (i + 1)))]) rfl ?_
              exact ih4 (i + 1) (so ∨ (lf i = ss ∧ gv i ≠ none)) (upd w1 i ((eb gv) i)) (by omega) (by omega) (so_S hso) (up_S (Q := fun c y => y = eo (woF lf ss gv c)) hw1 (by unfold woF; rw [if_neg h25]))
            · have h66 : ¬ (0 = 0) := fun e9 => h66 ((nI_eq (b := 0) (by omega) (by omega)).mpr e9)
              exact absurd rfl h66
          · have h36 : ¬ (so) := bz_0.mp h36
            refine r_iload C dX5_needsSet_39 4 rfl ?_
            refine r_if_eq (tgt := 57) C dX5_needsSet_41 (by decide) (fun h41 => ?_) (fun h41 => ?_)
            · have h41 : 0 = 0 := (nI_eq (b := 0) (by omega) (by omega)).mp h41
              refine r_iconst C dX5_needsSet_57 (v := nI 0) (by decide) ?_
              refine r_top (y := bz (so ∨ (lf i = ss ∧ gv i ≠ none))) (bz_f (fun w => w.elim h36 (fun q => h25 q.1))).symm ?_
              refine r_istore_n C dX5_needsSet_58 rfl (by decide) [1, 2, 0, 3, 4] (lv' := [(0, .ref aM), (1, .int (nI ss)), (2, .int (bz (so ∨ (lf i = ss ∧ gv i ≠ none)))), (3, .int (nI i)), (4, .int (nI 0))]) rfl ?_
              refine r_aload_n C dX5_needsSet_59 0 rfl rfl ?_
              refine r_get C dX5_needsSet_60 iX5_needsSet_X5 12 fX5_needsSet_98 0 rfl rfl (by decide) rfl ?_
              refine r_iload_n C dX5_needsSet_63 3 rfl rfl ?_
              refine r_iload C dX5_needsSet_64 4 rfl ?_
              refine r_if_eq (tgt := 73) C dX5_needsSet_66 (by decide) (fun h66 => ?_) (fun h66 => ?_)
              · have h66 : 0 = 0 := (nI_eq (b := 0) (by omega) (by omega)).mp h66
                refine r_aload_n C dX5_needsSet_73 0 rfl rfl ?_
                refine r_get C dX5_needsSet_74 iX5_needsSet_X5 9 fX5_needsSet_88 0 rfl rfl (by decide) rfl ?_
                refine r_iload_n C dX5_needsSet_77 3 rfl rfl ?_
                refine r_iald C dX5_needsSet_78 7 rfl (by omega) (by omega) ?_
                refine r_iast C dX5_needsSet_79 8 rfl (by omega) (by omega) (ws' := [(aM, .inr (6, [.ref aG, .ref aE, .ref aTh, .ref aA, .ref aD, .ref aQ, .ref aW, .ref aH, .ref aWh, .ref aGv, .ref aMk, .ref aRw, .ref aWo, .int (bz md), .int (nI tm), .int (nI rs), .int (nI tk), .int (nI pb), .int (nI gn), .int (nI un)])), (aG, .inr (5, [.int (nI n), .int (nI N), .int (nI (2 ^ n - 1)), .ref gr, .ref gc, .ref gb, .ref gu])), (gr, .inl (X.1.2.1, N, .inl (gR n))), (gc, .inl (X.1.2.1, N, .inl (gC n))), (gb, .inl (X.1.2.1, N, .inl (gB n))), (aE, .inr (7, [.ref aG, .ref aL])), (aL, .inl (X.1.2.1, N, .inl (nO lf))), (aGv, .inl (X.1.2.1, N, .inl (eb gv))), (aWo, .inl (X.1.2.1, N, .inl (upd w1 i ((eb gv) i)))), (aW, .inr (9, [.ref vB, .ref aO, .int (nI lim), .int (nI fd)])), (aO, .inl (X.1.2.1, N, .inl (nO o))), (vB, .inr (2, [.ref aG, .ref vS, .ref vR, .ref vC, .ref vX])), (vS, .inl (X.1.2.1, N, .inl vf)), (vR, .inl (X.1.2.1, n, .inl vfR)), (vC, .inl (X.1.2.1, n, .inl vfC)), (vX, .inl (X.1.2.1, n, .inl vfB))]) rfl ?_
                refine r_iinc C dX5_needsSet_80 3 rfl (v := nI (i + 1)) (nI_add _ _) (by decide) [1, 2, 3, 0, 4] (lv' := [(0, .ref aM), (1, .int (nI ss)), (2, .int (bz (so ∨ (lf i = ss ∧ gv i ≠ none)))), (3, .int (nI (i + 1))), (4, .int (nI 0))]) rfl ?_
                refine r_goto (tgt := 4) C dX5_needsSet_83 (by decide) ?_
                refine r_lv [0, 1, 2, 3] (lv' := [(0, .ref aM), (1, .int (nI ss)), (2, .int (bz (so ∨ (lf i = ss ∧ gv i ≠ none)))), (3, .int (nI (i + 1)))]) rfl ?_
                exact ih4 (i + 1) (so ∨ (lf i = ss ∧ gv i ≠ none)) (upd w1 i ((eb gv) i)) (by omega) (by omega) (so_S hso) (up_S (Q := fun c y => y = eo (woF lf ss gv c)) hw1 (by unfold woF; rw [if_neg h25]))
              · have h66 : ¬ (0 = 0) := fun e9 => h66 ((nI_eq (b := 0) (by omega) (by omega)).mpr e9)
                exact absurd rfl h66
            · have h41 : ¬ (0 = 0) := fun e9 => h41 ((nI_eq (b := 0) (by omega) (by omega)).mpr e9)
              exact absurd rfl h41
        · have h25 : (lf i) = ss := (nI_eq (by omega) (by omega)).mp h25
          refine r_iconst C dX5_needsSet_28 (v := nI 1) (by decide) ?_
          refine r_goto (tgt := 33) C dX5_needsSet_29 (by decide) ?_
          refine r_istore C dX5_needsSet_33 (by decide) [1, 2, 3, 4, 0] (lv' := [(0, .ref aM), (1, .int (nI ss)), (2, .int (bz so)), (3, .int (nI i)), (4, .int (nI 1))]) rfl ?_
          refine r_iload_n C dX5_needsSet_35 2 rfl rfl ?_
          refine r_if_ne (tgt := 53) C dX5_needsSet_36 (by decide) (fun h36 => ?_) (fun h36 => ?_)
          · have h36 : so := bz_n0.mp h36
            refine r_iconst C dX5_needsSet_53 (v := nI 1) (by decide) ?_
            refine r_goto (tgt := 58) C dX5_needsSet_54 (by decide) ?_
            refine r_top (y := bz (so ∨ (lf i = ss ∧ gv i ≠ none))) (bz_t (Or.inl h36)).symm ?_
            refine r_istore_n C dX5_needsSet_58 rfl (by decide) [1, 2, 0, 3, 4] (lv' := [(0, .ref aM), (1, .int (nI ss)), (2, .int (bz (so ∨ (lf i = ss ∧ gv i ≠ none)))), (3, .int (nI i)), (4, .int (nI 1))]) rfl ?_
            refine r_aload_n C dX5_needsSet_59 0 rfl rfl ?_
            refine r_get C dX5_needsSet_60 iX5_needsSet_X5 12 fX5_needsSet_98 0 rfl rfl (by decide) rfl ?_
            refine r_iload_n C dX5_needsSet_63 3 rfl rfl ?_
            refine r_iload C dX5_needsSet_64 4 rfl ?_
            refine r_if_eq (tgt := 73) C dX5_needsSet_66 (by decide) (fun h66 => ?_) (fun h66 => ?_)
            · have h66 : 1 = 0 := (nI_eq (b := 0) (by omega) (by omega)).mp h66
              exact absurd h66 (by omega)
            · have h66 : ¬ (1 = 0) := fun e9 => h66 ((nI_eq (b := 0) (by omega) (by omega)).mpr e9)
              refine r_iconst C dX5_needsSet_69 (v := (-1)) (by decide) ?_
              refine r_goto (tgt := 79) C dX5_needsSet_70 (by decide) ?_
              refine r_iast C dX5_needsSet_79 8 rfl (by omega) (by omega) (ws' := [(aM, .inr (6, [.ref aG, .ref aE, .ref aTh, .ref aA, .ref aD, .ref aQ, .ref aW, .ref aH, .ref aWh, .ref aGv, .ref aMk, .ref aRw, .ref aWo, .int (bz md), .int (nI tm), .int (nI rs), .int (nI tk), .int (nI pb), .int (nI gn), .int (nI un)])), (aG, .inr (5, [.int (nI n), .int (nI N), .int (nI (2 ^ n - 1)), .ref gr, .ref gc, .ref gb, .ref gu])), (gr, .inl (X.1.2.1, N, .inl (gR n))), (gc, .inl (X.1.2.1, N, .inl (gC n))), (gb, .inl (X.1.2.1, N, .inl (gB n))), (aE, .inr (7, [.ref aG, .ref aL])), (aL, .inl (X.1.2.1, N, .inl (nO lf))), (aGv, .inl (X.1.2.1, N, .inl (eb gv))), (aWo, .inl (X.1.2.1, N, .inl (upd w1 i (-1)))), (aW, .inr (9, [.ref vB, .ref aO, .int (nI lim), .int (nI fd)])), (aO, .inl (X.1.2.1, N, .inl (nO o))), (vB, .inr (2, [.ref aG, .ref vS, .ref vR, .ref vC, .ref vX])), (vS, .inl (X.1.2.1, N, .inl vf)), (vR, .inl (X.1.2.1, n, .inl vfR)), (vC, .inl (X.1.2.1, n, .inl vfC)), (vX, .inl (X.1.2.1, n, .inl vfB))]) rfl ?_
              refine r_iinc C dX5_needsSet_80 3 rfl (v := nI (i + 1)) (nI_add _ _) (by decide) [1, 2, 3, 0, 4] (lv' := [(0, .ref aM), (1, .int (nI ss)), (2, .int (bz (so ∨ (lf i = ss ∧ gv i ≠ none)))), (3, .int (nI (i + 1))), (4, .int (nI 1))]) rfl ?_
              refine r_goto (tgt := 4) C dX5_needsSet_83 (by decide) ?_
              refine r_lv [0, 1, 2, 3] (lv' := [(0, .ref aM), (1, .int (nI ss)), (2, .int (bz (so ∨ (lf i = ss ∧ gv i ≠ none)))), (3, .int (nI (i + 1)))]) rfl ?_
              exact ih4 (i + 1) (so ∨ (lf i = ss ∧ gv i ≠ none)) (upd w1 i (-1)) (by omega) (by omega) (so_S hso) (up_S (Q := fun c y => y = eo (woF lf ss gv c)) hw1 (by unfold woF; rw [if_pos h25]; rfl))
          · have h36 : ¬ (so) := bz_0.mp h36
            refine r_iload C dX5_needsSet_39 4 rfl ?_
            refine r_if_eq (tgt := 57) C dX5_needsSet_41 (by decide) (fun h41 => ?_) (fun h41 => ?_)
            · have h41 : 1 = 0 := (nI_eq (b := 0) (by omega) (by omega)).mp h41
              exact absurd h41 (by omega)
            · have h41 : ¬ (1 = 0) := fun e9 => h41 ((nI_eq (b := 0) (by omega) (by omega)).mpr e9)
              refine r_aload_n C dX5_needsSet_44 0 rfl rfl ?_
              refine r_get C dX5_needsSet_45 iX5_needsSet_X5 9 fX5_needsSet_88 0 rfl rfl (by decide) rfl ?_
              refine r_iload_n C dX5_needsSet_48 3 rfl rfl ?_
              refine r_iald C dX5_needsSet_49 7 rfl (by omega) (by omega) ?_
              refine r_if_lt (tgt := 57) C dX5_needsSet_50 (by decide) (fun h50 => ?_) (fun h50 => ?_)
              · refine r_iconst C dX5_needsSet_57 (v := nI 0) (by decide) ?_
                refine r_top (y := bz (so ∨ (lf i = ss ∧ gv i ≠ none))) (bz_f (fun w => w.elim h36 (fun q => q.2 (eo_none h50 (hok.1 i) (by omega))))).symm ?_
                refine r_istore_n C dX5_needsSet_58 rfl (by decide) [1, 2, 0, 3, 4] (lv' := [(0, .ref aM), (1, .int (nI ss)), (2, .int (bz (so ∨ (lf i = ss ∧ gv i ≠ none)))), (3, .int (nI i)), (4, .int (nI 1))]) rfl ?_
                refine r_aload_n C dX5_needsSet_59 0 rfl rfl ?_
                refine r_get C dX5_needsSet_60 iX5_needsSet_X5 12 fX5_needsSet_98 0 rfl rfl (by decide) rfl ?_
                refine r_iload_n C dX5_needsSet_63 3 rfl rfl ?_
                refine r_iload C dX5_needsSet_64 4 rfl ?_
                refine r_if_eq (tgt := 73) C dX5_needsSet_66 (by decide) (fun h66 => ?_) (fun h66 => ?_)
                · have h66 : 1 = 0 := (nI_eq (b := 0) (by omega) (by omega)).mp h66
                  exact absurd h66 (by omega)
                · have h66 : ¬ (1 = 0) := fun e9 => h66 ((nI_eq (b := 0) (by omega) (by omega)).mpr e9)
                  refine r_iconst C dX5_needsSet_69 (v := (-1)) (by decide) ?_
                  refine r_goto (tgt := 79) C dX5_needsSet_70 (by decide) ?_
                  refine r_iast C dX5_needsSet_79 8 rfl (by omega) (by omega) (ws' := [(aM, .inr (6, [.ref aG, .ref aE, .ref aTh, .ref aA, .ref aD, .ref aQ, .ref aW, .ref aH, .ref aWh, .ref aGv, .ref aMk, .ref aRw, .ref aWo, .int (bz md), .int (nI tm), .int (nI rs), .int (nI tk), .int (nI pb), .int (nI gn), .int (nI un)])), (aG, .inr (5, [.int (nI n), .int (nI N), .int (nI (2 ^ n - 1)), .ref gr, .ref gc, .ref gb, .ref gu])), (gr, .inl (X.1.2.1, N, .inl (gR n))), (gc, .inl (X.1.2.1, N, .inl (gC n))), (gb, .inl (X.1.2.1, N, .inl (gB n))), (aE, .inr (7, [.ref aG, .ref aL])), (aL, .inl (X.1.2.1, N, .inl (nO lf))), (aGv, .inl (X.1.2.1, N, .inl (eb gv))), (aWo, .inl (X.1.2.1, N, .inl (upd w1 i (-1)))), (aW, .inr (9, [.ref vB, .ref aO, .int (nI lim), .int (nI fd)])), (aO, .inl (X.1.2.1, N, .inl (nO o))), (vB, .inr (2, [.ref aG, .ref vS, .ref vR, .ref vC, .ref vX])), (vS, .inl (X.1.2.1, N, .inl vf)), (vR, .inl (X.1.2.1, n, .inl vfR)), (vC, .inl (X.1.2.1, n, .inl vfC)), (vX, .inl (X.1.2.1, n, .inl vfB))]) rfl ?_
                  refine r_iinc C dX5_needsSet_80 3 rfl (v := nI (i + 1)) (nI_add _ _) (by decide) [1, 2, 3, 0, 4] (lv' := [(0, .ref aM), (1, .int (nI ss)), (2, .int (bz (so ∨ (lf i = ss ∧ gv i ≠ none)))), (3, .int (nI (i + 1))), (4, .int (nI 1))]) rfl ?_
                  refine r_goto (tgt := 4) C dX5_needsSet_83 (by decide) ?_
                  refine r_lv [0, 1, 2, 3] (lv' := [(0, .ref aM), (1, .int (nI ss)), (2, .int (bz (so ∨ (lf i = ss ∧ gv i ≠ none)))), (3, .int (nI (i + 1)))]) rfl ?_
                  exact ih4 (i + 1) (so ∨ (lf i = ss ∧ gv i ≠ none)) (upd w1 i (-1)) (by omega) (by omega) (so_S hso) (up_S (Q := fun c y => y = eo (woF lf ss gv c)) hw1 (by unfold woF; rw [if_pos h25]; rfl))
              · refine r_iconst C dX5_needsSet_53 (v := nI 1) (by decide) ?_
                refine r_goto (tgt := 58) C dX5_needsSet_54 (by decide) ?_
                refine r_top (y := bz (so ∨ (lf i = ss ∧ gv i ≠ none))) (bz_t (Or.inr ⟨h25, eo_nn h50⟩)).symm ?_
                refine r_istore_n C dX5_needsSet_58 rfl (by decide) [1, 2, 0, 3, 4] (lv' := [(0, .ref aM), (1, .int (nI ss)), (2, .int (bz (so ∨ (lf i = ss ∧ gv i ≠ none)))), (3, .int (nI i)), (4, .int (nI 1))]) rfl ?_
                refine r_aload_n C dX5_needsSet_59 0 rfl rfl ?_
                refine r_get C dX5_needsSet_60 iX5_needsSet_X5 12 fX5_needsSet_98 0 rfl rfl (by decide) rfl ?_
                refine r_iload_n C dX5_needsSet_63 3 rfl rfl ?_
                refine r_iload C dX5_needsSet_64 4 rfl ?_
                refine r_if_eq (tgt := 73) C dX5_needsSet_66 (by decide) (fun h66 => ?_) (fun h66 => ?_)
                · have h66 : 1 = 0 := (nI_eq (b := 0) (by omega) (by omega)).mp h66
                  exact absurd h66 (by omega)
                · have h66 : ¬ (1 = 0) := fun e9 => h66 ((nI_eq (b := 0) (by omega) (by omega)).mpr e9)
                  refine r_iconst C dX5_needsSet_69 (v := (-1)) (by decide) ?_
                  refine r_goto (tgt := 79) C dX5_needsSet_70 (by decide) ?_
                  refine r_iast C dX5_needsSet_79 8 rfl (by omega) (by omega) (ws' := [(aM, .inr (6, [.ref aG, .ref aE, .ref aTh, .ref aA, .ref aD, .ref aQ, .ref aW, .ref aH, .ref aWh, .ref aGv, .ref aMk, .ref aRw, .ref aWo, .int (bz md), .int (nI tm), .int (nI rs), .int (nI tk), .int (nI pb), .int (nI gn), .int (nI un)])), (aG, .inr (5, [.int (nI n), .int (nI N), .int (nI (2 ^ n - 1)), .ref gr, .ref gc, .ref gb, .ref gu])), (gr, .inl (X.1.2.1, N, .inl (gR n))), (gc, .inl (X.1.2.1, N, .inl (gC n))), (gb, .inl (X.1.2.1, N, .inl (gB n))), (aE, .inr (7, [.ref aG, .ref aL])), (aL, .inl (X.1.2.1, N, .inl (nO lf))), (aGv, .inl (X.1.2.1, N, .inl (eb gv))), (aWo, .inl (X.1.2.1, N, .inl (upd w1 i (-1)))), (aW, .inr (9, [.ref vB, .ref aO, .int (nI lim), .int (nI fd)])), (aO, .inl (X.1.2.1, N, .inl (nO o))), (vB, .inr (2, [.ref aG, .ref vS, .ref vR, .ref vC, .ref vX])), (vS, .inl (X.1.2.1, N, .inl vf)), (vR, .inl (X.1.2.1, n, .inl vfR)), (vC, .inl (X.1.2.1, n, .inl vfC)), (vX, .inl (X.1.2.1, n, .inl vfB))]) rfl ?_
                  refine r_iinc C dX5_needsSet_80 3 rfl (v := nI (i + 1)) (nI_add _ _) (by decide) [1, 2, 3, 0, 4] (lv' := [(0, .ref aM), (1, .int (nI ss)), (2, .int (bz (so ∨ (lf i = ss ∧ gv i ≠ none)))), (3, .int (nI (i + 1))), (4, .int (nI 1))]) rfl ?_
                  refine r_goto (tgt := 4) C dX5_needsSet_83 (by decide) ?_
                  refine r_lv [0, 1, 2, 3] (lv' := [(0, .ref aM), (1, .int (nI ss)), (2, .int (bz (so ∨ (lf i = ss ∧ gv i ≠ none)))), (3, .int (nI (i + 1)))]) rfl ?_
                  exact ih4 (i + 1) (so ∨ (lf i = ss ∧ gv i ≠ none)) (upd w1 i (-1)) (by omega) (by omega) (so_S hso) (up_S (Q := fun c y => y = eo (woF lf ss gv c)) hw1 (by unfold woF; rw [if_pos h25]; rfl))
  exact L4 ((N - 0) + 1) 0 False wo (Nat.lt_succ_self _) (Nat.zero_le _) (⟨False.elim, fun ⟨c, q, _⟩ => absurd q (Nat.not_lt_zero c)⟩) (fun c q => absurd q (Nat.not_lt_zero c))
theorem fX5_layRow_32 : Cond.fieldLink RX5 32 (TX5 0).1 (TX5 0).2.1 (TX5 0).2.2.1 ∈ wsX5_layRow := List.mem_of_getElem? (i := 1) rfl
theorem iX5_layRow_X5 : ∀ w ∈ wsX50, w ∈ wsX5_layRow := by decide +kernel
theorem fX5_layRow_80 : Cond.fieldLink RX5 80 (TX4 1).1 (TX4 1).2.1 (TX4 1).2.2.1 ∈ wsX5_layRow := List.mem_of_getElem? (i := 2) rfl
theorem iX5_layRow_X4 : ∀ w ∈ wsX40, w ∈ wsX5_layRow := by decide +kernel
theorem fX5_layRow_36 : Cond.fieldLink RX5 36 (TX5 1).1 (TX5 1).2.1 (TX5 1).2.2.1 ∈ wsX5_layRow := List.mem_of_getElem? (i := 3) rfl
theorem fX5_layRow_158 : Cond.fieldLink RX5 158 (TX6 1).1 (TX6 1).2.1 (TX6 1).2.2.1 ∈ wsX5_layRow := List.mem_of_getElem? (i := 4) rfl
theorem iX5_layRow_X6 : ∀ w ∈ wsX60, w ∈ wsX5_layRow := by decide +kernel
theorem fX5_layRow_88 : Cond.fieldLink RX5 88 (TX5 9).1 (TX5 9).2.1 (TX5 9).2.2.1 ∈ wsX5_layRow := List.mem_of_getElem? (i := 5) rfl
theorem fX5_layRow_91 : Cond.fieldLink RX5 91 (TX5 10).1 (TX5 10).2.1 (TX5 10).2.2.1 ∈ wsX5_layRow := List.mem_of_getElem? (i := 6) rfl
theorem fX5_layRow_95 : Cond.fieldLink RX5 95 (TX5 11).1 (TX5 11).2.1 (TX5 11).2.2.1 ∈ wsX5_layRow := List.mem_of_getElem? (i := 7) rfl
set_option maxHeartbeats 4000000 in
set_option maxRecDepth 100000 in
theorem c_X5_layRow {g : ww_G} {l : Launch} {n : Nat} {N : Nat} {aG : Nat} {gr : Nat} {gc : Nat} {gb : Nat} {gu : Nat} {aM : Nat} {aE : Nat} {aTh : Nat} {aA : Nat} {aD : Nat} {aQ : Nat} {aW : Nat} {aH : Nat} {aWh : Nat} {aGv : Nat} {aMk : Nat} {aRw : Nat} {aWo : Nat} {md : Prop} {tm : Nat} {rs : Nat} {tk : Nat} {pb : Nat} {gn : Nat} {un : Nat} {aL : Nat} {lf : Nat → Nat} {th : Nat → Nat} {gv : Nat → Option Nat} {mk : Nat → Int32} {ro : Nat → Nat} (hn : (n = 4 ∧ N = 16) ∨ (n = 6 ∧ N = 36)) (hlf : ∀ c, c < N → lf c < N) (hth : ∀ c, th c < 3) (hok : ∀ c v, gv c = some v → v < n) : CT g l yX5_layRow wsX5_layRow (ww_rm 2) [.ref aM] ([(aM, .inr (6, [.ref aG, .ref aE, .ref aTh, .ref aA, .ref aD, .ref aQ, .ref aW, .ref aH, .ref aWh, .ref aGv, .ref aMk, .ref aRw, .ref aWo, .int (bz md), .int (nI tm), .int (nI rs), .int (nI tk), .int (nI pb), .int (nI gn), .int (nI un)])), (aG, .inr (5, [.int (nI n), .int (nI N), .int (nI (2 ^ n - 1)), .ref gr, .ref gc, .ref gb, .ref gu])), (aE, .inr (7, [.ref aG, .ref aL])), (aL, .inl (g.2.1, N, .inl (nO lf))), (aTh, .inl (g.2.1, N, .inl (nO th))), (aGv, .inl (g.2.1, N, .inl (eb gv))), (aMk, .inl (g.2.2.1, N, .inl mk)), (aRw, .inl (g.2.1, N, .inl (nO ro)))]) (S := (Nat → Nat)) (fun v u => v = some (.int (nI (cn (rowP N lf th gv) N))) ∧ (∀ j, j < cn (rowP N lf th gv) N → u j = kthV (rowP N lf th gv) j)) (fun u => [(aM, .inr (6, [.ref aG, .ref aE, .ref aTh, .ref aA, .ref aD, .ref aQ, .ref aW, .ref aH, .ref aWh, .ref aGv, .ref aMk, .ref aRw, .ref aWo, .int (bz md), .int (nI tm), .int (nI rs), .int (nI tk), .int (nI pb), .int (nI gn), .int (nI un)])), (aG, .inr (5, [.int (nI n), .int (nI N), .int (nI (2 ^ n - 1)), .ref gr, .ref gc, .ref gb, .ref gu])), (aE, .inr (7, [.ref aG, .ref aL])), (aL, .inl (g.2.1, N, .inl (nO lf))), (aTh, .inl (g.2.1, N, .inl (nO th))), (aGv, .inl (g.2.1, N, .inl (eb gv))), (aMk, .inl (g.2.2.1, N, .inl (fun c => bz (∃ d, d < N ∧ th d = 1 ∧ lf d = c)))), (aRw, .inl (g.2.1, N, .inl (nO u)))]) := by
  refine CT.of cX5_layRow 3 (some .int) RX5 (by decide +kernel) rfl rfl (Nat.le_of_ble_eq_true rfl) ?_
  intro X hg hl C hret
  subst hg; subst hl
  show RW X 0 0 0 [(0, .ref aM)] [] [(aM, .inr (6, [.ref aG, .ref aE, .ref aTh, .ref aA, .ref aD, .ref aQ, .ref aW, .ref aH, .ref aWh, .ref aGv, .ref aMk, .ref aRw, .ref aWo, .int (bz md), .int (nI tm), .int (nI rs), .int (nI tk), .int (nI pb), .int (nI gn), .int (nI un)])), (aG, .inr (5, [.int (nI n), .int (nI N), .int (nI (2 ^ n - 1)), .ref gr, .ref gc, .ref gb, .ref gu])), (aE, .inr (7, [.ref aG, .ref aL])), (aL, .inl (X.1.2.1, N, .inl (nO lf))), (aTh, .inl (X.1.2.1, N, .inl (nO th))), (aGv, .inl (X.1.2.1, N, .inl (eb gv))), (aMk, .inl (X.1.2.2.1, N, .inl mk)), (aRw, .inl (X.1.2.1, N, .inl (nO ro)))]
  refine r_aload_n C dX5_layRow_0 0 rfl rfl ?_
  refine r_iconst C dX5_layRow_1 (v := nI 1) (by decide) ?_
  refine r_callV0 (n := 1) (ws' := fun (u : Unit) => [(aM, .inr (6, [.ref aG, .ref aE, .ref aTh, .ref aA, .ref aD, .ref aQ, .ref aW, .ref aH, .ref aWh, .ref aGv, .ref aMk, .ref aRw, .ref aWo, .int (bz md), .int (nI tm), .int (nI rs), .int (nI tk), .int (nI pb), .int (nI gn), .int (nI un)])), (aG, .inr (5, [.int (nI n), .int (nI N), .int (nI (2 ^ n - 1)), .ref gr, .ref gc, .ref gb, .ref gu])), (aE, .inr (7, [.ref aG, .ref aL])), (aL, .inl (X.1.2.1, N, .inl (nO lf))), (aTh, .inl (X.1.2.1, N, .inl (nO th))), (aGv, .inl (X.1.2.1, N, .inl (eb gv))), (aMk, .inl (X.1.2.2.1, N, .inl (fun c => bz (∃ d, d < N ∧ th d = 1 ∧ lf d = c)))), (aRw, .inl (X.1.2.1, N, .inl (nO ro)))]) C dX5_layRow_2 (c_X5_markSetsWith (g := X.1) (l := X.2.2.1) (n := n) (N := N) (aG := aG) (gr := gr) (gc := gc) (gb := gb) (gu := gu) (aM := aM) (aE := aE) (aTh := aTh) (aA := aA) (aD := aD) (aQ := aQ) (aW := aW) (aH := aH) (aWh := aWh) (aGv := aGv) (aMk := aMk) (aRw := aRw) (aWo := aWo) (md := md) (tm := tm) (rs := rs) (tk := tk) (pb := pb) (gn := gn) (un := un) (aL := aL) (lf := lf) (th := th) (mk := mk) (t := 1) (hn := (by first | assumption | omega)) (hlf := (by first | assumption | omega)) (hth := (by first | assumption | omega)) (ht := (by omega))) gX5_layRow_X5_markSetsWith rfl (by decide +kernel) rfl ⟨Nat.le_of_ble_eq_true rfl, Nat.le_of_ble_eq_true rfl⟩ ⟨rfl, rfl⟩ ⟨Nat.zero_le _, Nat.zero_le _⟩ (rest := []) rfl (Nat.le_of_ble_eq_true rfl) 0 rfl rfl [0, 1, 2, 3, 4, 6] (by decide) rfl (fun u => Eq.trans (b := [aM, aG, aE, aL, aTh, aMk]) rfl rfl) (fun u => rfl) (fun v u hp => ?_)
  obtain rfl := hp
  show RW X 0 0 5 [(0, .ref aM)] [] [(aM, .inr (6, [.ref aG, .ref aE, .ref aTh, .ref aA, .ref aD, .ref aQ, .ref aW, .ref aH, .ref aWh, .ref aGv, .ref aMk, .ref aRw, .ref aWo, .int (bz md), .int (nI tm), .int (nI rs), .int (nI tk), .int (nI pb), .int (nI gn), .int (nI un)])), (aG, .inr (5, [.int (nI n), .int (nI N), .int (nI (2 ^ n - 1)), .ref gr, .ref gc, .ref gb, .ref gu])), (aE, .inr (7, [.ref aG, .ref aL])), (aL, .inl (X.1.2.1, N, .inl (nO lf))), (aTh, .inl (X.1.2.1, N, .inl (nO th))), (aGv, .inl (X.1.2.1, N, .inl (eb gv))), (aMk, .inl (X.1.2.2.1, N, .inl (fun c => bz (∃ d, d < N ∧ th d = 1 ∧ lf d = c)))), (aRw, .inl (X.1.2.1, N, .inl (nO ro)))]
  refine r_iconst C dX5_layRow_5 (v := nI 0) (by decide) ?_
  refine r_istore_n C dX5_layRow_6 rfl (by decide) [1, 0] (lv' := [(0, .ref aM), (1, .int (nI 0))]) rfl ?_
  refine r_iconst C dX5_layRow_7 (v := nI 0) (by decide) ?_
  refine r_istore_n C dX5_layRow_8 rfl (by decide) [1, 2, 0] (lv' := [(0, .ref aM), (1, .int (nI 0)), (2, .int (nI 0))]) rfl ?_
  have L9 : ∀ (d9 : Nat) (k : Nat) (i : Nat) (r1 : Nat → Nat), (N - i) < d9 → (i ≤ N) → (k = cn (rowP N lf th gv) i) → (∀ j, j < k → r1 j = kthV (rowP N lf th gv) j) → RW X 0 0 9 [(0, .ref aM), (1, .int (nI k)), (2, .int (nI i))] [] [(aM, .inr (6, [.ref aG, .ref aE, .ref aTh, .ref aA, .ref aD, .ref aQ, .ref aW, .ref aH, .ref aWh, .ref aGv, .ref aMk, .ref aRw, .ref aWo, .int (bz md), .int (nI tm), .int (nI rs), .int (nI tk), .int (nI pb), .int (nI gn), .int (nI un)])), (aG, .inr (5, [.int (nI n), .int (nI N), .int (nI (2 ^ n - 1)), .ref gr, .ref gc, .ref gb, .ref gu])), (aE, .inr (7, [.ref aG, .ref aL])), (aL, .inl (X.1.2.1, N, .inl (nO lf))), (aTh, .inl (X.1.2.1, N, .inl (nO th))), (aGv, .inl (X.1.2.1, N, .inl (eb gv))), (aMk, .inl (X.1.2.2.1, N, .inl (fun c => bz (∃ d, d < N ∧ th d = 1 ∧ lf d = c)))), (aRw, .inl (X.1.2.1, N, .inl (nO r1)))] := by
    intro d9
    induction d9 with
    | zero => intro k i r1 hd9; exact absurd hd9 (Nat.not_lt_zero _)
    | succ d9 ih9 =>
      intro k i r1 hd9 hi hk hr1
      refine r_iload_n C dX5_layRow_9 2 rfl rfl ?_
      refine r_aload_n C dX5_layRow_10 0 rfl rfl ?_
      refine r_get C dX5_layRow_11 iX5_layRow_X5 0 fX5_layRow_32 0 rfl rfl (by decide) rfl ?_
      refine r_get C dX5_layRow_14 iX5_layRow_X4 1 fX5_layRow_80 1 rfl rfl (by decide) rfl ?_
      refine r_icmp_ge (tgt := 67) C dX5_layRow_17 (by decide) (fun h17 => ?_) (fun h17 => ?_)
      · have h17 : N ≤ i := (nI_leI (by omega) (by omega)).mp h17
        refine r_iload_n C dX5_layRow_67 1 rfl rfl ?_
        refine r_top (y := nI (cn (rowP N lf th gv) N)) (congrArg nI (by rw [hk, show i = N by omega])) ?_
        exact hret _ _ _ (r1) ⟨rfl, fun j q => hr1 j (by rw [hk, show i = N by omega]; exact q)⟩ (Or.inr ⟨_, rfl, dX5_layRow_68, Or.inl rfl⟩)
      · have h17 : ¬ (N ≤ i) := fun e9 => h17 ((nI_leI (by omega) (by omega)).mpr e9)
        have hlfi := hlf i (by omega)
        have hki := cn_le (P := rowP N lf th gv) i
        refine r_aload_n C dX5_layRow_20 0 rfl rfl ?_
        refine r_get C dX5_layRow_21 iX5_layRow_X5 1 fX5_layRow_36 0 rfl rfl (by decide) rfl ?_
        refine r_get C dX5_layRow_24 iX5_layRow_X6 1 fX5_layRow_158 2 rfl rfl (by decide) rfl ?_
        refine r_iload_n C dX5_layRow_27 2 rfl rfl ?_
        refine r_iald C dX5_layRow_28 3 rfl (by omega) (by omega) ?_
        show RW X 0 0 29 [(0, .ref aM), (1, .int (nI k)), (2, .int (nI i))] [.int (nI (lf i))] [(aM, .inr (6, [.ref aG, .ref aE, .ref aTh, .ref aA, .ref aD, .ref aQ, .ref aW, .ref aH, .ref aWh, .ref aGv, .ref aMk, .ref aRw, .ref aWo, .int (bz md), .int (nI tm), .int (nI rs), .int (nI tk), .int (nI pb), .int (nI gn), .int (nI un)])), (aG, .inr (5, [.int (nI n), .int (nI N), .int (nI (2 ^ n - 1)), .ref gr, .ref gc, .ref gb, .ref gu])), (aE, .inr (7, [.ref aG, .ref aL])), (aL, .inl (X.1.2.1, N, .inl (nO lf))), (aTh, .inl (X.1.2.1, N, .inl (nO th))), (aGv, .inl (X.1.2.1, N, .inl (eb gv))), (aMk, .inl (X.1.2.2.1, N, .inl (fun c => bz (∃ d, d < N ∧ th d = 1 ∧ lf d = c)))), (aRw, .inl (X.1.2.1, N, .inl (nO r1)))]
        refine r_iload_n C dX5_layRow_29 2 rfl rfl ?_
        refine r_icmp_ne (tgt := 61) C dX5_layRow_30 (by decide) (fun h30 => ?_) (fun h30 => ?_)
        · have h30 : ¬ ((lf i) = i) := fun e9 => h30 ((nI_eq (by omega) (by omega)).mpr e9)
          refine r_iinc C dX5_layRow_61 2 rfl (v := nI (i + 1)) (nI_add _ _) (by decide) [1, 2, 0] (lv' := [(0, .ref aM), (1, .int (nI k)), (2, .int (nI (i + 1)))]) rfl ?_
          refine r_goto (tgt := 9) C dX5_layRow_64 (by decide) ?_
          exact ih9 k (i + 1) r1 (by omega) (by omega) (by show k = _ + dI _; rw [dI_f (fun w => h30 w.1)]; exact hk) hr1
        · have h30 : (lf i) = i := (nI_eq (by omega) (by omega)).mp h30
          refine r_aload_n C dX5_layRow_33 0 rfl rfl ?_
          refine r_get C dX5_layRow_34 iX5_layRow_X5 9 fX5_layRow_88 0 rfl rfl (by decide) rfl ?_
          refine r_iload_n C dX5_layRow_37 2 rfl rfl ?_
          refine r_iald C dX5_layRow_38 5 rfl (by omega) (by omega) ?_
          refine r_if_lt (tgt := 61) C dX5_layRow_39 (by decide) (fun h39 => ?_) (fun h39 => ?_)
          · refine r_iinc C dX5_layRow_61 2 rfl (v := nI (i + 1)) (nI_add _ _) (by decide) [1, 2, 0] (lv' := [(0, .ref aM), (1, .int (nI k)), (2, .int (nI (i + 1)))]) rfl ?_
            refine r_goto (tgt := 9) C dX5_layRow_64 (by decide) ?_
            exact ih9 k (i + 1) r1 (by omega) (by omega) (by show k = _ + dI _; rw [dI_f (fun w => w.2.1 (eo_none h39 (hok i) (by omega)))]; exact hk) hr1
          · refine r_aload_n C dX5_layRow_42 0 rfl rfl ?_
            refine r_get C dX5_layRow_43 iX5_layRow_X5 10 fX5_layRow_91 0 rfl rfl (by decide) rfl ?_
            refine r_iload_n C dX5_layRow_46 2 rfl rfl ?_
            refine r_zald C dX5_layRow_47 6 rfl (by omega) (by omega) ?_
            refine r_top (y := bz (∃ d, d < N ∧ th d = 1 ∧ lf d = i)) rfl ?_
            refine r_if_ne (tgt := 61) C dX5_layRow_48 (by decide) (fun h48 => ?_) (fun h48 => ?_)
            · have h48 : ∃ d, d < N ∧ th d = 1 ∧ lf d = i := bz_n0.mp h48
              refine r_iinc C dX5_layRow_61 2 rfl (v := nI (i + 1)) (nI_add _ _) (by decide) [1, 2, 0] (lv' := [(0, .ref aM), (1, .int (nI k)), (2, .int (nI (i + 1)))]) rfl ?_
              refine r_goto (tgt := 9) C dX5_layRow_64 (by decide) ?_
              exact ih9 k (i + 1) r1 (by omega) (by omega) (by show k = _ + dI _; rw [dI_f (fun w => w.2.2 h48)]; exact hk) hr1
            · have h48 : ¬ (∃ d, d < N ∧ th d = 1 ∧ lf d = i) := bz_0.mp h48
              refine r_aload_n C dX5_layRow_51 0 rfl rfl ?_
              refine r_get C dX5_layRow_52 iX5_layRow_X5 11 fX5_layRow_95 0 rfl rfl (by decide) rfl ?_
              refine r_iload_n C dX5_layRow_55 1 rfl rfl ?_
              refine r_iload_n C dX5_layRow_56 2 rfl rfl ?_
              refine r_iast C dX5_layRow_57 7 rfl (by omega) (by omega) (ws' := [(aM, .inr (6, [.ref aG, .ref aE, .ref aTh, .ref aA, .ref aD, .ref aQ, .ref aW, .ref aH, .ref aWh, .ref aGv, .ref aMk, .ref aRw, .ref aWo, .int (bz md), .int (nI tm), .int (nI rs), .int (nI tk), .int (nI pb), .int (nI gn), .int (nI un)])), (aG, .inr (5, [.int (nI n), .int (nI N), .int (nI (2 ^ n - 1)), .ref gr, .ref gc, .ref gb, .ref gu])), (aE, .inr (7, [.ref aG, .ref aL])), (aL, .inl (X.1.2.1, N, .inl (nO lf))), (aTh, .inl (X.1.2.1, N, .inl (nO th))), (aGv, .inl (X.1.2.1, N, .inl (eb gv))), (aMk, .inl (X.1.2.2.1, N, .inl (fun c => bz (∃ d, d < N ∧ th d = 1 ∧ lf d = c)))), (aRw, .inl (X.1.2.1, N, .inl (upd (nO r1) k (nI i))))]) rfl ?_
              rw [nO_u]
              show RW X 0 0 58 [(0, .ref aM), (1, .int (nI k)), (2, .int (nI i))] [] [(aM, .inr (6, [.ref aG, .ref aE, .ref aTh, .ref aA, .ref aD, .ref aQ, .ref aW, .ref aH, .ref aWh, .ref aGv, .ref aMk, .ref aRw, .ref aWo, .int (bz md), .int (nI tm), .int (nI rs), .int (nI tk), .int (nI pb), .int (nI gn), .int (nI un)])), (aG, .inr (5, [.int (nI n), .int (nI N), .int (nI (2 ^ n - 1)), .ref gr, .ref gc, .ref gb, .ref gu])), (aE, .inr (7, [.ref aG, .ref aL])), (aL, .inl (X.1.2.1, N, .inl (nO lf))), (aTh, .inl (X.1.2.1, N, .inl (nO th))), (aGv, .inl (X.1.2.1, N, .inl (eb gv))), (aMk, .inl (X.1.2.2.1, N, .inl (fun c => bz (∃ d, d < N ∧ th d = 1 ∧ lf d = c)))), (aRw, .inl (X.1.2.1, N, .inl (nO (uO r1 k i))))]
              refine r_iinc C dX5_layRow_58 1 rfl (v := nI (k + 1)) (nI_add _ _) (by decide) [1, 0, 2] (lv' := [(0, .ref aM), (1, .int (nI (k + 1))), (2, .int (nI i))]) rfl ?_
              refine r_iinc C dX5_layRow_61 2 rfl (v := nI (i + 1)) (nI_add _ _) (by decide) [1, 2, 0] (lv' := [(0, .ref aM), (1, .int (nI (k + 1))), (2, .int (nI (i + 1)))]) rfl ?_
              refine r_goto (tgt := 9) C dX5_layRow_64 (by decide) ?_
              exact ih9 (k + 1) (i + 1) (uO r1 k i) (by omega) (by omega) (by show k + 1 = _ + dI _; rw [dI_t ⟨h30, eo_nn h39, h48⟩, hk]) (row_S hr1 ⟨h30, eo_nn h39, h48⟩ hk)
  exact L9 ((N - 0) + 1) 0 0 ro (Nat.lt_succ_self _) (Nat.zero_le _) rfl (fun j q => absurd q (Nat.not_lt_zero j))
theorem fX5_takeOutEmptySets_32 : Cond.fieldLink RX5 32 (TX5 0).1 (TX5 0).2.1 (TX5 0).2.2.1 ∈ wsX5_takeOutEmptySets := List.mem_of_getElem? (i := 1) rfl
theorem iX5_takeOutEmptySets_X5 : ∀ w ∈ wsX50, w ∈ wsX5_takeOutEmptySets := by decide +kernel
theorem fX5_takeOutEmptySets_80 : Cond.fieldLink RX5 80 (TX4 1).1 (TX4 1).2.1 (TX4 1).2.2.1 ∈ wsX5_takeOutEmptySets := List.mem_of_getElem? (i := 2) rfl
theorem iX5_takeOutEmptySets_X4 : ∀ w ∈ wsX40, w ∈ wsX5_takeOutEmptySets := by decide +kernel
theorem fX5_takeOutEmptySets_76 : Cond.fieldLink RX5 76 (TX5 6).1 (TX5 6).2.1 (TX5 6).2.2.1 ∈ wsX5_takeOutEmptySets := List.mem_of_getElem? (i := 8) rfl
theorem fX5_takeOutEmptySets_88 : Cond.fieldLink RX5 88 (TX5 9).1 (TX5 9).2.1 (TX5 9).2.2.1 ∈ wsX5_takeOutEmptySets := List.mem_of_getElem? (i := 7) rfl
theorem fX5_takeOutEmptySets_91 : Cond.fieldLink RX5 91 (TX5 10).1 (TX5 10).2.1 (TX5 10).2.2.1 ∈ wsX5_takeOutEmptySets := List.mem_of_getElem? (i := 3) rfl
theorem fX5_takeOutEmptySets_36 : Cond.fieldLink RX5 36 (TX5 1).1 (TX5 1).2.1 (TX5 1).2.2.1 ∈ wsX5_takeOutEmptySets := List.mem_of_getElem? (i := 4) rfl
theorem fX5_takeOutEmptySets_158 : Cond.fieldLink RX5 158 (TX6 1).1 (TX6 1).2.1 (TX6 1).2.2.1 ∈ wsX5_takeOutEmptySets := List.mem_of_getElem? (i := 5) rfl
theorem iX5_takeOutEmptySets_X6 : ∀ w ∈ wsX60, w ∈ wsX5_takeOutEmptySets := by decide +kernel
theorem fX5_takeOutEmptySets_40 : Cond.fieldLink RX5 40 (TX5 2).1 (TX5 2).2.1 (TX5 2).2.2.1 ∈ wsX5_takeOutEmptySets := List.mem_of_getElem? (i := 6) rfl
set_option maxHeartbeats 4000000 in
set_option maxRecDepth 100000 in
theorem c_X5_takeOutEmptySets {g : ww_G} {l : Launch} {n : Nat} {N : Nat} {aG : Nat} {gr : Nat} {gc : Nat} {gb : Nat} {gu : Nat} {aM : Nat} {aE : Nat} {aTh : Nat} {aA : Nat} {aD : Nat} {aQ : Nat} {aW : Nat} {aH : Nat} {aWh : Nat} {aGv : Nat} {aMk : Nat} {aRw : Nat} {aWo : Nat} {md : Prop} {tm : Nat} {rs : Nat} {tk : Nat} {pb : Nat} {gn : Nat} {un : Nat} {aL : Nat} {lf : Nat → Nat} {th : Nat → Nat} {gv : Nat → Option Nat} {mk : Nat → Int32} {aO : Nat} {lim : Nat} {fd : Nat} {o : Nat → Nat} {vB : Nat} {vS : Nat} {vR : Nat} {vC : Nat} {vX : Nat} {vf : Nat → Int32} {vfR : Nat → Int32} {vfC : Nat → Int32} {vfB : Nat → Int32} (hn : (n = 4 ∧ N = 16) ∨ (n = 6 ∧ N = 36)) (hlf : ∀ c, c < N → lf c < N) (hth : ∀ c, th c < 3) (hok : okB n N gv) : CT g l yX5_takeOutEmptySets wsX5_takeOutEmptySets (ww_rm 61) [.ref aM] ([(aM, .inr (6, [.ref aG, .ref aE, .ref aTh, .ref aA, .ref aD, .ref aQ, .ref aW, .ref aH, .ref aWh, .ref aGv, .ref aMk, .ref aRw, .ref aWo, .int (bz md), .int (nI tm), .int (nI rs), .int (nI tk), .int (nI pb), .int (nI gn), .int (nI un)])), (aG, .inr (5, [.int (nI n), .int (nI N), .int (nI (2 ^ n - 1)), .ref gr, .ref gc, .ref gb, .ref gu])), (gr, .inl (g.2.1, N, .inl (gR n))), (gc, .inl (g.2.1, N, .inl (gC n))), (gb, .inl (g.2.1, N, .inl (gB n))), (aE, .inr (7, [.ref aG, .ref aL])), (aL, .inl (g.2.1, N, .inl (nO lf))), (aTh, .inl (g.2.1, N, .inl (nO th))), (aGv, .inl (g.2.1, N, .inl (eb gv))), (aMk, .inl (g.2.2.1, N, .inl mk)), (aW, .inr (9, [.ref vB, .ref aO, .int (nI lim), .int (nI fd)])), (aO, .inl (g.2.1, N, .inl (nO o))), (vB, .inr (2, [.ref aG, .ref vS, .ref vR, .ref vC, .ref vX])), (vS, .inl (g.2.1, N, .inl vf)), (vR, .inl (g.2.1, n, .inl vfR)), (vC, .inl (g.2.1, n, .inl vfC)), (vX, .inl (g.2.1, n, .inl vfB))]) (S := (Nat → Option Nat) × Nat × Nat × (Nat → Nat) × (Nat → Int32) × (Nat → Int32) × (Nat → Int32) × (Nat → Int32)) (fun v u => v = some (.int (bz ((∀ c, c < N → (∃ d, d < N ∧ th d = 2 ∧ lf d = lf c) → th c ≠ 1) ∧ min 2 (0 + cntS n N (emF N th lf gv)) < 2))) ∧ (((∀ c, c < N → (∃ d, d < N ∧ th d = 2 ∧ lf d = lf c) → th c ≠ 1) ∧ min 2 (0 + cntS n N (emF N th lf gv)) < 2) → u.1 = emF N th lf gv)) (fun u => [(aM, .inr (6, [.ref aG, .ref aE, .ref aTh, .ref aA, .ref aD, .ref aQ, .ref aW, .ref aH, .ref aWh, .ref aGv, .ref aMk, .ref aRw, .ref aWo, .int (bz md), .int (nI tm), .int (nI rs), .int (nI tk), .int (nI pb), .int (nI gn), .int (nI un)])), (aG, .inr (5, [.int (nI n), .int (nI N), .int (nI (2 ^ n - 1)), .ref gr, .ref gc, .ref gb, .ref gu])), (gr, .inl (g.2.1, N, .inl (gR n))), (gc, .inl (g.2.1, N, .inl (gC n))), (gb, .inl (g.2.1, N, .inl (gB n))), (aE, .inr (7, [.ref aG, .ref aL])), (aL, .inl (g.2.1, N, .inl (nO lf))), (aTh, .inl (g.2.1, N, .inl (nO th))), (aGv, .inl (g.2.1, N, .inl (eb u.1))), (aMk, .inl (g.2.2.1, N, .inl (fun c => bz (∃ d, d < N ∧ th d = 2 ∧ lf d = c)))), (aW, .inr (9, [.ref vB, .ref aO, .int (nI u.2.1), .int (nI u.2.2.1)])), (aO, .inl (g.2.1, N, .inl (nO u.2.2.2.1))), (vB, .inr (2, [.ref aG, .ref vS, .ref vR, .ref vC, .ref vX])), (vS, .inl (g.2.1, N, .inl u.2.2.2.2.1)), (vR, .inl (g.2.1, n, .inl u.2.2.2.2.2.1)), (vC, .inl (g.2.1, n, .inl u.2.2.2.2.2.2.1)), (vX, .inl (g.2.1, n, .inl u.2.2.2.2.2.2.2))]) := by
  refine CT.of cX5_takeOutEmptySets 2 (some .boolean) RX5 (by decide +kernel) rfl rfl (Nat.le_of_ble_eq_true rfl) ?_
  intro X hg hl C hret
  subst hg; subst hl
  show RW X 0 0 0 [(0, .ref aM)] [] [(aM, .inr (6, [.ref aG, .ref aE, .ref aTh, .ref aA, .ref aD, .ref aQ, .ref aW, .ref aH, .ref aWh, .ref aGv, .ref aMk, .ref aRw, .ref aWo, .int (bz md), .int (nI tm), .int (nI rs), .int (nI tk), .int (nI pb), .int (nI gn), .int (nI un)])), (aG, .inr (5, [.int (nI n), .int (nI N), .int (nI (2 ^ n - 1)), .ref gr, .ref gc, .ref gb, .ref gu])), (gr, .inl (X.1.2.1, N, .inl (gR n))), (gc, .inl (X.1.2.1, N, .inl (gC n))), (gb, .inl (X.1.2.1, N, .inl (gB n))), (aE, .inr (7, [.ref aG, .ref aL])), (aL, .inl (X.1.2.1, N, .inl (nO lf))), (aTh, .inl (X.1.2.1, N, .inl (nO th))), (aGv, .inl (X.1.2.1, N, .inl (eb gv))), (aMk, .inl (X.1.2.2.1, N, .inl mk)), (aW, .inr (9, [.ref vB, .ref aO, .int (nI lim), .int (nI fd)])), (aO, .inl (X.1.2.1, N, .inl (nO o))), (vB, .inr (2, [.ref aG, .ref vS, .ref vR, .ref vC, .ref vX])), (vS, .inl (X.1.2.1, N, .inl vf)), (vR, .inl (X.1.2.1, n, .inl vfR)), (vC, .inl (X.1.2.1, n, .inl vfC)), (vX, .inl (X.1.2.1, n, .inl vfB))]
  refine r_aload_n C dX5_takeOutEmptySets_0 0 rfl rfl ?_
  refine r_iconst C dX5_takeOutEmptySets_1 (v := nI 2) (by decide) ?_
  refine r_callV0 (n := 1) (ws' := fun (u : Unit) => [(aM, .inr (6, [.ref aG, .ref aE, .ref aTh, .ref aA, .ref aD, .ref aQ, .ref aW, .ref aH, .ref aWh, .ref aGv, .ref aMk, .ref aRw, .ref aWo, .int (bz md), .int (nI tm), .int (nI rs), .int (nI tk), .int (nI pb), .int (nI gn), .int (nI un)])), (aG, .inr (5, [.int (nI n), .int (nI N), .int (nI (2 ^ n - 1)), .ref gr, .ref gc, .ref gb, .ref gu])), (gr, .inl (X.1.2.1, N, .inl (gR n))), (gc, .inl (X.1.2.1, N, .inl (gC n))), (gb, .inl (X.1.2.1, N, .inl (gB n))), (aE, .inr (7, [.ref aG, .ref aL])), (aL, .inl (X.1.2.1, N, .inl (nO lf))), (aTh, .inl (X.1.2.1, N, .inl (nO th))), (aGv, .inl (X.1.2.1, N, .inl (eb gv))), (aMk, .inl (X.1.2.2.1, N, .inl (fun c => bz (∃ d, d < N ∧ th d = 2 ∧ lf d = c)))), (aW, .inr (9, [.ref vB, .ref aO, .int (nI lim), .int (nI fd)])), (aO, .inl (X.1.2.1, N, .inl (nO o))), (vB, .inr (2, [.ref aG, .ref vS, .ref vR, .ref vC, .ref vX])), (vS, .inl (X.1.2.1, N, .inl vf)), (vR, .inl (X.1.2.1, n, .inl vfR)), (vC, .inl (X.1.2.1, n, .inl vfC)), (vX, .inl (X.1.2.1, n, .inl vfB))]) C dX5_takeOutEmptySets_2 (c_X5_markSetsWith (g := X.1) (l := X.2.2.1) (n := n) (N := N) (aG := aG) (gr := gr) (gc := gc) (gb := gb) (gu := gu) (aM := aM) (aE := aE) (aTh := aTh) (aA := aA) (aD := aD) (aQ := aQ) (aW := aW) (aH := aH) (aWh := aWh) (aGv := aGv) (aMk := aMk) (aRw := aRw) (aWo := aWo) (md := md) (tm := tm) (rs := rs) (tk := tk) (pb := pb) (gn := gn) (un := un) (aL := aL) (lf := lf) (th := th) (mk := mk) (t := 2) (hn := (by first | assumption | omega)) (hlf := (by first | assumption | omega)) (hth := (by first | assumption | omega)) (ht := (by omega))) gX5_takeOutEmptySets_X5_markSetsWith rfl (by decide +kernel) rfl ⟨Nat.le_of_ble_eq_true rfl, Nat.le_of_ble_eq_true rfl⟩ ⟨rfl, rfl⟩ ⟨Nat.zero_le _, Nat.zero_le _⟩ (rest := []) rfl (Nat.le_of_ble_eq_true rfl) 0 rfl rfl [0, 1, 5, 6, 7, 9] (by decide) rfl (fun u => Eq.trans (b := [aM, aG, aE, aL, aTh, aMk]) rfl rfl) (fun u => rfl) (fun v u hp => ?_)
  obtain rfl := hp
  show RW X 0 0 5 [(0, .ref aM)] [] [(aM, .inr (6, [.ref aG, .ref aE, .ref aTh, .ref aA, .ref aD, .ref aQ, .ref aW, .ref aH, .ref aWh, .ref aGv, .ref aMk, .ref aRw, .ref aWo, .int (bz md), .int (nI tm), .int (nI rs), .int (nI tk), .int (nI pb), .int (nI gn), .int (nI un)])), (aG, .inr (5, [.int (nI n), .int (nI N), .int (nI (2 ^ n - 1)), .ref gr, .ref gc, .ref gb, .ref gu])), (gr, .inl (X.1.2.1, N, .inl (gR n))), (gc, .inl (X.1.2.1, N, .inl (gC n))), (gb, .inl (X.1.2.1, N, .inl (gB n))), (aE, .inr (7, [.ref aG, .ref aL])), (aL, .inl (X.1.2.1, N, .inl (nO lf))), (aTh, .inl (X.1.2.1, N, .inl (nO th))), (aGv, .inl (X.1.2.1, N, .inl (eb gv))), (aMk, .inl (X.1.2.2.1, N, .inl (fun c => bz (∃ d, d < N ∧ th d = 2 ∧ lf d = c)))), (aW, .inr (9, [.ref vB, .ref aO, .int (nI lim), .int (nI fd)])), (aO, .inl (X.1.2.1, N, .inl (nO o))), (vB, .inr (2, [.ref aG, .ref vS, .ref vR, .ref vC, .ref vX])), (vS, .inl (X.1.2.1, N, .inl vf)), (vR, .inl (X.1.2.1, n, .inl vfR)), (vC, .inl (X.1.2.1, n, .inl vfC)), (vX, .inl (X.1.2.1, n, .inl vfB))]
  refine r_iconst C dX5_takeOutEmptySets_5 (v := nI 0) (by decide) ?_
  refine r_istore_n C dX5_takeOutEmptySets_6 rfl (by decide) [1, 0] (lv' := [(0, .ref aM), (1, .int (nI 0))]) rfl ?_
  have L7 : ∀ (d7 : Nat) (i : Nat) (g1 : Nat → Option Nat), (N - i) < d7 → (i ≤ N) → (∀ c, (c < i → g1 c = emF N th lf gv c) ∧ (i ≤ c → g1 c = gv c)) → (∀ c, c < i → (∃ d, d < N ∧ th d = 2 ∧ lf d = lf c) → th c ≠ 1) → RW X 0 0 7 [(0, .ref aM), (1, .int (nI i))] [] [(aM, .inr (6, [.ref aG, .ref aE, .ref aTh, .ref aA, .ref aD, .ref aQ, .ref aW, .ref aH, .ref aWh, .ref aGv, .ref aMk, .ref aRw, .ref aWo, .int (bz md), .int (nI tm), .int (nI rs), .int (nI tk), .int (nI pb), .int (nI gn), .int (nI un)])), (aG, .inr (5, [.int (nI n), .int (nI N), .int (nI (2 ^ n - 1)), .ref gr, .ref gc, .ref gb, .ref gu])), (gr, .inl (X.1.2.1, N, .inl (gR n))), (gc, .inl (X.1.2.1, N, .inl (gC n))), (gb, .inl (X.1.2.1, N, .inl (gB n))), (aE, .inr (7, [.ref aG, .ref aL])), (aL, .inl (X.1.2.1, N, .inl (nO lf))), (aTh, .inl (X.1.2.1, N, .inl (nO th))), (aGv, .inl (X.1.2.1, N, .inl (eb g1))), (aMk, .inl (X.1.2.2.1, N, .inl (fun c => bz (∃ d, d < N ∧ th d = 2 ∧ lf d = c)))), (aW, .inr (9, [.ref vB, .ref aO, .int (nI lim), .int (nI fd)])), (aO, .inl (X.1.2.1, N, .inl (nO o))), (vB, .inr (2, [.ref aG, .ref vS, .ref vR, .ref vC, .ref vX])), (vS, .inl (X.1.2.1, N, .inl vf)), (vR, .inl (X.1.2.1, n, .inl vfR)), (vC, .inl (X.1.2.1, n, .inl vfC)), (vX, .inl (X.1.2.1, n, .inl vfB))] := by
    intro d7
    induction d7 with
    | zero => intro i g1 hd7; exact absurd hd7 (Nat.not_lt_zero _)
    | succ d7 ih7 =>
      intro i g1 hd7 hi hg1 hns
      refine r_iload_n C dX5_takeOutEmptySets_7 1 rfl rfl ?_
      refine r_aload_n C dX5_takeOutEmptySets_8 0 rfl rfl ?_
      refine r_get C dX5_takeOutEmptySets_9 iX5_takeOutEmptySets_X5 0 fX5_takeOutEmptySets_32 0 rfl rfl (by decide) rfl ?_
      refine r_get C dX5_takeOutEmptySets_12 iX5_takeOutEmptySets_X4 1 fX5_takeOutEmptySets_80 1 rfl rfl (by decide) rfl ?_
      refine r_icmp_ge (tgt := 60) C dX5_takeOutEmptySets_15 (by decide) (fun h15 => ?_) (fun h15 => ?_)
      · have h15 : N ≤ i := (nI_leI (by omega) (by omega)).mp h15
        refine r_arrI 8 rfl (fun j q => congrArg eo ((hg1 j).1 (by omega))) (ws' := [(aM, .inr (6, [.ref aG, .ref aE, .ref aTh, .ref aA, .ref aD, .ref aQ, .ref aW, .ref aH, .ref aWh, .ref aGv, .ref aMk, .ref aRw, .ref aWo, .int (bz md), .int (nI tm), .int (nI rs), .int (nI tk), .int (nI pb), .int (nI gn), .int (nI un)])), (aG, .inr (5, [.int (nI n), .int (nI N), .int (nI (2 ^ n - 1)), .ref gr, .ref gc, .ref gb, .ref gu])), (gr, .inl (X.1.2.1, N, .inl (gR n))), (gc, .inl (X.1.2.1, N, .inl (gC n))), (gb, .inl (X.1.2.1, N, .inl (gB n))), (aE, .inr (7, [.ref aG, .ref aL])), (aL, .inl (X.1.2.1, N, .inl (nO lf))), (aTh, .inl (X.1.2.1, N, .inl (nO th))), (aGv, .inl (X.1.2.1, N, .inl (eb (emF N th lf gv)))), (aMk, .inl (X.1.2.2.1, N, .inl (fun c => bz (∃ d, d < N ∧ th d = 2 ∧ lf d = c)))), (aW, .inr (9, [.ref vB, .ref aO, .int (nI lim), .int (nI fd)])), (aO, .inl (X.1.2.1, N, .inl (nO o))), (vB, .inr (2, [.ref aG, .ref vS, .ref vR, .ref vC, .ref vX])), (vS, .inl (X.1.2.1, N, .inl vf)), (vR, .inl (X.1.2.1, n, .inl vfR)), (vC, .inl (X.1.2.1, n, .inl vfC)), (vX, .inl (X.1.2.1, n, .inl vfB))]) rfl ?_
        refine r_aload_n C dX5_takeOutEmptySets_60 0 rfl rfl ?_
        refine r_get C dX5_takeOutEmptySets_61 iX5_takeOutEmptySets_X5 6 fX5_takeOutEmptySets_76 0 rfl rfl (by decide) rfl ?_
        refine r_aload_n C dX5_takeOutEmptySets_64 0 rfl rfl ?_
        refine r_get C dX5_takeOutEmptySets_65 iX5_takeOutEmptySets_X5 9 fX5_takeOutEmptySets_88 0 rfl rfl (by decide) rfl ?_
        refine r_iconst C dX5_takeOutEmptySets_68 (v := nI 2) (by decide) ?_
        refine r_callV0 (n := 2) (ws' := fun (u : (Nat → Nat)) => [(aM, .inr (6, [.ref aG, .ref aE, .ref aTh, .ref aA, .ref aD, .ref aQ, .ref aW, .ref aH, .ref aWh, .ref aGv, .ref aMk, .ref aRw, .ref aWo, .int (bz md), .int (nI tm), .int (nI rs), .int (nI tk), .int (nI pb), .int (nI gn), .int (nI un)])), (aG, .inr (5, [.int (nI n), .int (nI N), .int (nI (2 ^ n - 1)), .ref gr, .ref gc, .ref gb, .ref gu])), (gr, .inl (X.1.2.1, N, .inl (gR n))), (gc, .inl (X.1.2.1, N, .inl (gC n))), (gb, .inl (X.1.2.1, N, .inl (gB n))), (aE, .inr (7, [.ref aG, .ref aL])), (aL, .inl (X.1.2.1, N, .inl (nO lf))), (aTh, .inl (X.1.2.1, N, .inl (nO th))), (aGv, .inl (X.1.2.1, N, .inl (eb (emF N th lf gv)))), (aMk, .inl (X.1.2.2.1, N, .inl (fun c => bz (∃ d, d < N ∧ th d = 2 ∧ lf d = c)))), (aW, .inr (9, [.ref vB, .ref aO, .int (nI 2), .int (nI (min 2 (0 + cntS n N (emF N th lf gv))))])), (aO, .inl (X.1.2.1, N, .inl (nO u))), (vB, .inr (2, [.ref aG, .ref vS, .ref vR, .ref vC, .ref vX])), (vS, .inl (X.1.2.1, N, .inl (eb (emF N th lf gv)))), (vR, .inl (X.1.2.1, n, .inl (mR n N (emF N th lf gv)))), (vC, .inl (X.1.2.1, n, .inl (mC n N (emF N th lf gv)))), (vX, .inl (X.1.2.1, n, .inl (mB n N (emF N th lf gv))))]) C dX5_takeOutEmptySets_69 (c_X8_count (g := X.1) (l := X.2.2.1) (n := n) (N := N) (aG := aG) (gr := gr) (gc := gc) (gb := gb) (gu := gu) (aB := vB) (aS := vS) (aR := vR) (aC := vC) (aX := vX) (f := vf) (fR := vfR) (fC := vfC) (fB := vfB) (aW := aW) (aO := aO) (lim := lim) (fd := fd) (o := o) (aV := aGv) (gv := emF N th lf gv) (most := 2) (hn := (by first | assumption | omega)) (hok := (okB_em hok)) (hm0 := (by omega)) (hm1 := (by omega))) gX5_takeOutEmptySets_X8_count rfl (by decide +kernel) rfl ⟨Nat.le_of_ble_eq_true rfl, Nat.le_of_ble_eq_true rfl⟩ ⟨rfl, rfl⟩ ⟨Nat.zero_le _, Nat.zero_le _⟩ (rest := []) rfl (Nat.le_of_ble_eq_true rfl) 0 rfl rfl [10, 11, 1, 2, 3, 4, 12, 13, 14, 15, 16, 8] (by decide) rfl (fun u => Eq.trans (b := [aW, aO, aG, gr, gc, gb, vB, vS, vR, vC, vX, aGv]) rfl rfl) (fun u => rfl) (fun v u hp => ?_)
        obtain ⟨o9_2, rfl⟩ : ∃ z, z = u := ⟨_, rfl⟩
        obtain rfl := hp
        show RW X 0 0 72 [(0, .ref aM), (1, .int (nI i))] [.int (nI (min 2 (0 + cntS n N (emF N th lf gv))))] [(aM, .inr (6, [.ref aG, .ref aE, .ref aTh, .ref aA, .ref aD, .ref aQ, .ref aW, .ref aH, .ref aWh, .ref aGv, .ref aMk, .ref aRw, .ref aWo, .int (bz md), .int (nI tm), .int (nI rs), .int (nI tk), .int (nI pb), .int (nI gn), .int (nI un)])), (aG, .inr (5, [.int (nI n), .int (nI N), .int (nI (2 ^ n - 1)), .ref gr, .ref gc, .ref gb, .ref gu])), (gr, .inl (X.1.2.1, N, .inl (gR n))), (gc, .inl (X.1.2.1, N, .inl (gC n))), (gb, .inl (X.1.2.1, N, .inl (gB n))), (aE, .inr (7, [.ref aG, .ref aL])), (aL, .inl (X.1.2.1, N, .inl (nO lf))), (aTh, .inl (X.1.2.1, N, .inl (nO th))), (aGv, .inl (X.1.2.1, N, .inl (eb (emF N th lf gv)))), (aMk, .inl (X.1.2.2.1, N, .inl (fun c => bz (∃ d, d < N ∧ th d = 2 ∧ lf d = c)))), (aW, .inr (9, [.ref vB, .ref aO, .int (nI 2), .int (nI (min 2 (0 + cntS n N (emF N th lf gv))))])), (aO, .inl (X.1.2.1, N, .inl (nO o9_2))), (vB, .inr (2, [.ref aG, .ref vS, .ref vR, .ref vC, .ref vX])), (vS, .inl (X.1.2.1, N, .inl (eb (emF N th lf gv)))), (vR, .inl (X.1.2.1, n, .inl (mR n N (emF N th lf gv)))), (vC, .inl (X.1.2.1, n, .inl (mC n N (emF N th lf gv)))), (vX, .inl (X.1.2.1, n, .inl (mB n N (emF N th lf gv))))]
        refine r_iconst C dX5_takeOutEmptySets_72 (v := nI 2) (by decide) ?_
        refine r_icmp_ge (tgt := 80) C dX5_takeOutEmptySets_73 (by decide) (fun h73 => ?_) (fun h73 => ?_)
        · have h73 : 2 ≤ (min 2 (0 + cntS n N (emF N th lf gv))) := (nI_leI (by omega) (by omega)).mp h73
          refine r_iconst C dX5_takeOutEmptySets_80 (v := nI 0) (by decide) ?_
          refine r_top (y := bz ((∀ c, c < N → (∃ d, d < N ∧ th d = 2 ∧ lf d = lf c) → th c ≠ 1) ∧ min 2 (0 + cntS n N (emF N th lf gv)) < 2)) ((bz_f (fun w => absurd w.2 (by omega))).symm) ?_
          exact hret _ _ _ (emF N th lf gv, 2, min 2 (0 + cntS n N (emF N th lf gv)), o9_2, eb (emF N th lf gv), mR n N (emF N th lf gv), mC n N (emF N th lf gv), mB n N (emF N th lf gv)) ⟨rfl, fun _ => rfl⟩ (Or.inr ⟨_, rfl, dX5_takeOutEmptySets_81, Or.inr ⟨rfl, bz_01 _⟩⟩)
        · have h73 : ¬ (2 ≤ (min 2 (0 + cntS n N (emF N th lf gv)))) := fun e9 => h73 ((nI_leI (by omega) (by omega)).mpr e9)
          refine r_iconst C dX5_takeOutEmptySets_76 (v := nI 1) (by decide) ?_
          refine r_goto (tgt := 81) C dX5_takeOutEmptySets_77 (by decide) ?_
          refine r_top (y := bz ((∀ c, c < N → (∃ d, d < N ∧ th d = 2 ∧ lf d = lf c) → th c ≠ 1) ∧ min 2 (0 + cntS n N (emF N th lf gv)) < 2)) ((bz_t ⟨fun c q => hns c (by omega), by omega⟩).symm) ?_
          exact hret _ _ _ (emF N th lf gv, 2, min 2 (0 + cntS n N (emF N th lf gv)), o9_2, eb (emF N th lf gv), mR n N (emF N th lf gv), mC n N (emF N th lf gv), mB n N (emF N th lf gv)) ⟨rfl, fun _ => rfl⟩ (Or.inr ⟨_, rfl, dX5_takeOutEmptySets_81, Or.inr ⟨rfl, bz_01 _⟩⟩)
      · have h15 : ¬ (N ≤ i) := fun e9 => h15 ((nI_leI (by omega) (by omega)).mpr e9)
        refine r_aload_n C dX5_takeOutEmptySets_18 0 rfl rfl ?_
        refine r_get C dX5_takeOutEmptySets_19 iX5_takeOutEmptySets_X5 10 fX5_takeOutEmptySets_91 0 rfl rfl (by decide) rfl ?_
        refine r_aload_n C dX5_takeOutEmptySets_22 0 rfl rfl ?_
        refine r_get C dX5_takeOutEmptySets_23 iX5_takeOutEmptySets_X5 1 fX5_takeOutEmptySets_36 0 rfl rfl (by decide) rfl ?_
        refine r_get C dX5_takeOutEmptySets_26 iX5_takeOutEmptySets_X6 1 fX5_takeOutEmptySets_158 5 rfl rfl (by decide) rfl ?_
        refine r_iload_n C dX5_takeOutEmptySets_29 1 rfl rfl ?_
        refine r_iald C dX5_takeOutEmptySets_30 6 rfl (by omega) (by omega) ?_
        show RW X 0 0 31 [(0, .ref aM), (1, .int (nI i))] [.int (nI (lf i)), .ref aMk] [(aM, .inr (6, [.ref aG, .ref aE, .ref aTh, .ref aA, .ref aD, .ref aQ, .ref aW, .ref aH, .ref aWh, .ref aGv, .ref aMk, .ref aRw, .ref aWo, .int (bz md), .int (nI tm), .int (nI rs), .int (nI tk), .int (nI pb), .int (nI gn), .int (nI un)])), (aG, .inr (5, [.int (nI n), .int (nI N), .int (nI (2 ^ n - 1)), .ref gr, .ref gc, .ref gb, .ref gu])), (gr, .inl (X.1.2.1, N, .inl (gR n))), (gc, .inl (X.1.2.1, N, .inl (gC n))), (gb, .inl (X.1.2.1, N, .inl (gB n))), (aE, .inr (7, [.ref aG, .ref aL])), (aL, .inl (X.1.2.1, N, .inl (nO lf))), (aTh, .inl (X.1.2.1, N, .inl (nO th))), (aGv, .inl (X.1.2.1, N, .inl (eb g1))), (aMk, .inl (X.1.2.2.1, N, .inl (fun c => bz (∃ d, d < N ∧ th d = 2 ∧ lf d = c)))), (aW, .inr (9, [.ref vB, .ref aO, .int (nI lim), .int (nI fd)])), (aO, .inl (X.1.2.1, N, .inl (nO o))), (vB, .inr (2, [.ref aG, .ref vS, .ref vR, .ref vC, .ref vX])), (vS, .inl (X.1.2.1, N, .inl vf)), (vR, .inl (X.1.2.1, n, .inl vfR)), (vC, .inl (X.1.2.1, n, .inl vfC)), (vX, .inl (X.1.2.1, n, .inl vfB))]
        refine r_zald C dX5_takeOutEmptySets_31 9 rfl (hlf i (by omega)) (by omega) ?_
        refine r_top (y := bz (∃ d, d < N ∧ th d = 2 ∧ lf d = lf i)) rfl ?_
        refine r_if_eq (tgt := 54) C dX5_takeOutEmptySets_32 (by decide) (fun h32 => ?_) (fun h32 => ?_)
        · have h32 : ¬ (∃ d, d < N ∧ th d = 2 ∧ lf d = lf i) := bz_0.mp h32
          refine r_iinc C dX5_takeOutEmptySets_54 1 rfl (v := nI (i + 1)) (nI_add _ _) (by decide) [1, 0] (lv' := [(0, .ref aM), (1, .int (nI (i + 1)))]) rfl ?_
          refine r_goto (tgt := 7) C dX5_takeOutEmptySets_57 (by decide) ?_
          exact ih7 (i + 1) g1 (by omega) (by omega) (em_skip hg1 h32) (ns_skip hns h32)
        · have h32 : ∃ d, d < N ∧ th d = 2 ∧ lf d = lf i := bz_n0.mp h32
          refine r_aload_n C dX5_takeOutEmptySets_35 0 rfl rfl ?_
          refine r_get C dX5_takeOutEmptySets_36 iX5_takeOutEmptySets_X5 2 fX5_takeOutEmptySets_40 0 rfl rfl (by decide) rfl ?_
          refine r_iload_n C dX5_takeOutEmptySets_39 1 rfl rfl ?_
          refine r_iald C dX5_takeOutEmptySets_40 7 rfl (by omega) (by omega) ?_
          show RW X 0 0 41 [(0, .ref aM), (1, .int (nI i))] [.int (nI (th i))] [(aM, .inr (6, [.ref aG, .ref aE, .ref aTh, .ref aA, .ref aD, .ref aQ, .ref aW, .ref aH, .ref aWh, .ref aGv, .ref aMk, .ref aRw, .ref aWo, .int (bz md), .int (nI tm), .int (nI rs), .int (nI tk), .int (nI pb), .int (nI gn), .int (nI un)])), (aG, .inr (5, [.int (nI n), .int (nI N), .int (nI (2 ^ n - 1)), .ref gr, .ref gc, .ref gb, .ref gu])), (gr, .inl (X.1.2.1, N, .inl (gR n))), (gc, .inl (X.1.2.1, N, .inl (gC n))), (gb, .inl (X.1.2.1, N, .inl (gB n))), (aE, .inr (7, [.ref aG, .ref aL])), (aL, .inl (X.1.2.1, N, .inl (nO lf))), (aTh, .inl (X.1.2.1, N, .inl (nO th))), (aGv, .inl (X.1.2.1, N, .inl (eb g1))), (aMk, .inl (X.1.2.2.1, N, .inl (fun c => bz (∃ d, d < N ∧ th d = 2 ∧ lf d = c)))), (aW, .inr (9, [.ref vB, .ref aO, .int (nI lim), .int (nI fd)])), (aO, .inl (X.1.2.1, N, .inl (nO o))), (vB, .inr (2, [.ref aG, .ref vS, .ref vR, .ref vC, .ref vX])), (vS, .inl (X.1.2.1, N, .inl vf)), (vR, .inl (X.1.2.1, n, .inl vfR)), (vC, .inl (X.1.2.1, n, .inl vfC)), (vX, .inl (X.1.2.1, n, .inl vfB))]
          refine r_iconst C dX5_takeOutEmptySets_41 (v := nI 1) (by decide) ?_
          have hthi := hth i
          refine r_icmp_ne (tgt := 47) C dX5_takeOutEmptySets_42 (by decide) (fun h42 => ?_) (fun h42 => ?_)
          · have h42 : ¬ ((th i) = 1) := fun e9 => h42 ((nI_eq (by omega) (by omega)).mpr e9)
            refine r_aload_n C dX5_takeOutEmptySets_47 0 rfl rfl ?_
            refine r_get C dX5_takeOutEmptySets_48 iX5_takeOutEmptySets_X5 9 fX5_takeOutEmptySets_88 0 rfl rfl (by decide) rfl ?_
            refine r_iload_n C dX5_takeOutEmptySets_51 1 rfl rfl ?_
            refine r_iconst C dX5_takeOutEmptySets_52 (v := (-1)) (by decide) ?_
            refine r_iast C dX5_takeOutEmptySets_53 8 rfl (by omega) (by omega) (ws' := [(aM, .inr (6, [.ref aG, .ref aE, .ref aTh, .ref aA, .ref aD, .ref aQ, .ref aW, .ref aH, .ref aWh, .ref aGv, .ref aMk, .ref aRw, .ref aWo, .int (bz md), .int (nI tm), .int (nI rs), .int (nI tk), .int (nI pb), .int (nI gn), .int (nI un)])), (aG, .inr (5, [.int (nI n), .int (nI N), .int (nI (2 ^ n - 1)), .ref gr, .ref gc, .ref gb, .ref gu])), (gr, .inl (X.1.2.1, N, .inl (gR n))), (gc, .inl (X.1.2.1, N, .inl (gC n))), (gb, .inl (X.1.2.1, N, .inl (gB n))), (aE, .inr (7, [.ref aG, .ref aL])), (aL, .inl (X.1.2.1, N, .inl (nO lf))), (aTh, .inl (X.1.2.1, N, .inl (nO th))), (aGv, .inl (X.1.2.1, N, .inl (upd (eb g1) i (-1)))), (aMk, .inl (X.1.2.2.1, N, .inl (fun c => bz (∃ d, d < N ∧ th d = 2 ∧ lf d = c)))), (aW, .inr (9, [.ref vB, .ref aO, .int (nI lim), .int (nI fd)])), (aO, .inl (X.1.2.1, N, .inl (nO o))), (vB, .inr (2, [.ref aG, .ref vS, .ref vR, .ref vC, .ref vX])), (vS, .inl (X.1.2.1, N, .inl vf)), (vR, .inl (X.1.2.1, n, .inl vfR)), (vC, .inl (X.1.2.1, n, .inl vfC)), (vX, .inl (X.1.2.1, n, .inl vfB))]) rfl ?_
            rw [eb_0]
            show RW X 0 0 54 [(0, .ref aM), (1, .int (nI i))] [] [(aM, .inr (6, [.ref aG, .ref aE, .ref aTh, .ref aA, .ref aD, .ref aQ, .ref aW, .ref aH, .ref aWh, .ref aGv, .ref aMk, .ref aRw, .ref aWo, .int (bz md), .int (nI tm), .int (nI rs), .int (nI tk), .int (nI pb), .int (nI gn), .int (nI un)])), (aG, .inr (5, [.int (nI n), .int (nI N), .int (nI (2 ^ n - 1)), .ref gr, .ref gc, .ref gb, .ref gu])), (gr, .inl (X.1.2.1, N, .inl (gR n))), (gc, .inl (X.1.2.1, N, .inl (gC n))), (gb, .inl (X.1.2.1, N, .inl (gB n))), (aE, .inr (7, [.ref aG, .ref aL])), (aL, .inl (X.1.2.1, N, .inl (nO lf))), (aTh, .inl (X.1.2.1, N, .inl (nO th))), (aGv, .inl (X.1.2.1, N, .inl (eb (ub g1 i none)))), (aMk, .inl (X.1.2.2.1, N, .inl (fun c => bz (∃ d, d < N ∧ th d = 2 ∧ lf d = c)))), (aW, .inr (9, [.ref vB, .ref aO, .int (nI lim), .int (nI fd)])), (aO, .inl (X.1.2.1, N, .inl (nO o))), (vB, .inr (2, [.ref aG, .ref vS, .ref vR, .ref vC, .ref vX])), (vS, .inl (X.1.2.1, N, .inl vf)), (vR, .inl (X.1.2.1, n, .inl vfR)), (vC, .inl (X.1.2.1, n, .inl vfC)), (vX, .inl (X.1.2.1, n, .inl vfB))]
            refine r_iinc C dX5_takeOutEmptySets_54 1 rfl (v := nI (i + 1)) (nI_add _ _) (by decide) [1, 0] (lv' := [(0, .ref aM), (1, .int (nI (i + 1)))]) rfl ?_
            refine r_goto (tgt := 7) C dX5_takeOutEmptySets_57 (by decide) ?_
            exact ih7 (i + 1) (ub g1 i none) (by omega) (by omega) (em_put hg1 h32) (ns_put hns h42)
          · have h42 : (th i) = 1 := (nI_eq (by omega) (by omega)).mp h42
            refine r_iconst C dX5_takeOutEmptySets_45 (v := nI 0) (by decide) ?_
            refine r_top (y := bz ((∀ c, c < N → (∃ d, d < N ∧ th d = 2 ∧ lf d = lf c) → th c ≠ 1) ∧ min 2 (0 + cntS n N (emF N th lf gv)) < 2)) ((bz_f (fun w => w.1 i (by omega) h32 h42)).symm) ?_
            exact hret _ _ _ (g1, lim, fd, o, vf, vfR, vfC, vfB) ⟨rfl, fun w => absurd h42 (w.1 i (by omega) h32)⟩ (Or.inr ⟨_, rfl, dX5_takeOutEmptySets_46, Or.inr ⟨rfl, bz_01 _⟩⟩)
  exact L7 ((N - 0) + 1) 0 gv (Nat.lt_succ_self _) (Nat.zero_le _) (fun c => ⟨fun q => absurd q (Nat.not_lt_zero c), fun _ => rfl⟩) (fun c q => absurd q (Nat.not_lt_zero c))
theorem fX5_drawWhole_60 : Cond.fieldLink RX5 60 (TX5 4).1 (TX5 4).2.1 (TX5 4).2.2.1 ∈ wsX5_drawWhole := List.mem_of_getElem? (i := 1) rfl
theorem iX5_drawWhole_X5 : ∀ w ∈ wsX50, w ∈ wsX5_drawWhole := by decide +kernel
theorem fX5_drawWhole_146 : Cond.fieldLink RX5 146 (TX3 2).1 (TX3 2).2.1 (TX3 2).2.2.1 ∈ wsX5_drawWhole := List.mem_of_getElem? (i := 3) rfl
theorem iX5_drawWhole_X3 : ∀ w ∈ wsX30, w ∈ wsX5_drawWhole := by decide +kernel
theorem fX5_drawWhole_150 : Cond.fieldLink RX5 150 (TX1 1).1 (TX1 1).2.1 (TX1 1).2.2.1 ∈ wsX5_drawWhole := List.mem_of_getElem? (i := 4) rfl
theorem iX5_drawWhole_X1 : ∀ w ∈ wsX10, w ∈ wsX5_drawWhole := by decide +kernel
theorem fX5_drawWhole_85 : Cond.fieldLink RX5 85 (TX5 8).1 (TX5 8).2.1 (TX5 8).2.2.1 ∈ wsX5_drawWhole := List.mem_of_getElem? (i := 5) rfl
theorem acX5_drawWhole_124 : Cond.methodLink RX5 124 arraycopyName ∈ wsX5_drawWhole ∧ Cond.native arraycopyName ∈ wsX5_drawWhole ∧ Cond.static arraycopyName ∈ wsX5_drawWhole ∧ Cond.initialized "java/lang/System" ∈ wsX5_drawWhole := ⟨List.mem_of_getElem? (i := 6) rfl, List.mem_of_getElem? (i := 7) rfl, List.mem_of_getElem? (i := 8) rfl, List.mem_of_getElem? (i := 9) rfl⟩
theorem fX5_drawWhole_88 : Cond.fieldLink RX5 88 (TX5 9).1 (TX5 9).2.1 (TX5 9).2.2.1 ∈ wsX5_drawWhole := List.mem_of_getElem? (i := 10) rfl
theorem fX5_drawWhole_17 : Cond.fieldLink RX5 17 (TX5 15).1 (TX5 15).2.1 (TX5 15).2.2.1 ∈ wsX5_drawWhole := List.mem_of_getElem? (i := 2) rfl
set_option maxHeartbeats 4000000 in
set_option maxRecDepth 100000 in
theorem c_X5_drawWhole {g : ww_G} {l : Launch} {n : Nat} {N : Nat} {aG : Nat} {gr : Nat} {gc : Nat} {gb : Nat} {gu : Nat} {aM : Nat} {aE : Nat} {aTh : Nat} {aA : Nat} {aD : Nat} {aQ : Nat} {aW : Nat} {aH : Nat} {aWh : Nat} {aGv : Nat} {aMk : Nat} {aRw : Nat} {aWo : Nat} {md : Prop} {tm : Nat} {rs : Nat} {tk : Nat} {pb : Nat} {gn : Nat} {un : Nat} {x : Int64} {wh : Nat → Option Nat} {gv : Nat → Option Nat} {dB : Nat} {dS : Nat} {dR : Nat} {dC : Nat} {dX : Nat} {df : Nat → Int32} {dfR : Nat → Int32} {dfC : Nat → Int32} {dfB : Nat → Int32} (hn : (n = 4 ∧ N = 16) ∨ (n = 6 ∧ N = 36)) : CT g l yX5_drawWhole wsX5_drawWhole (ww_rm 5) [.ref aM] ([(aM, .inr (6, [.ref aG, .ref aE, .ref aTh, .ref aA, .ref aD, .ref aQ, .ref aW, .ref aH, .ref aWh, .ref aGv, .ref aMk, .ref aRw, .ref aWo, .int (bz md), .int (nI tm), .int (nI rs), .int (nI tk), .int (nI pb), .int (nI gn), .int (nI un)])), (aD, .inr (4, [.ref aG, .ref aH, .ref dB])), (aH, .inr (3, [.long x])), (aG, .inr (5, [.int (nI n), .int (nI N), .int (nI (2 ^ n - 1)), .ref gr, .ref gc, .ref gb, .ref gu])), (gr, .inl (g.2.1, N, .inl (gR n))), (gc, .inl (g.2.1, N, .inl (gC n))), (gb, .inl (g.2.1, N, .inl (gB n))), (dB, .inr (2, [.ref aG, .ref dS, .ref dR, .ref dC, .ref dX])), (dS, .inl (g.2.1, N, .inl df)), (dR, .inl (g.2.1, n, .inl dfR)), (dC, .inl (g.2.1, n, .inl dfC)), (dX, .inl (g.2.1, n, .inl dfB)), (aWh, .inl (g.2.1, N, .inl (eb wh))), (aGv, .inl (g.2.1, N, .inl (eb gv)))]) (S := (Nat → Option Nat) × (Nat → Option Nat) × (Nat → Int32) × (Nat → Int32) × (Nat → Int32) × (Nat → Int32)) (fun v u => v = some (.int (bz ((drawW n N 200 x rs).1 = true))) ∧ ((drawW n N 200 x rs).1 = true → u.1 = (drawW n N 200 x rs).2.2.2 ∧ u.2.1 = (drawW n N 200 x rs).2.2.2)) (fun u => [(aM, .inr (6, [.ref aG, .ref aE, .ref aTh, .ref aA, .ref aD, .ref aQ, .ref aW, .ref aH, .ref aWh, .ref aGv, .ref aMk, .ref aRw, .ref aWo, .int (bz md), .int (nI tm), .int (nI ((drawW n N 200 x rs).2.2.1)), .int (nI tk), .int (nI pb), .int (nI gn), .int (nI un)])), (aD, .inr (4, [.ref aG, .ref aH, .ref dB])), (aH, .inr (3, [.long ((drawW n N 200 x rs).2.1)])), (aG, .inr (5, [.int (nI n), .int (nI N), .int (nI (2 ^ n - 1)), .ref gr, .ref gc, .ref gb, .ref gu])), (gr, .inl (g.2.1, N, .inl (gR n))), (gc, .inl (g.2.1, N, .inl (gC n))), (gb, .inl (g.2.1, N, .inl (gB n))), (dB, .inr (2, [.ref aG, .ref dS, .ref dR, .ref dC, .ref dX])), (dS, .inl (g.2.1, N, .inl u.2.2.1)), (dR, .inl (g.2.1, n, .inl u.2.2.2.1)), (dC, .inl (g.2.1, n, .inl u.2.2.2.2.1)), (dX, .inl (g.2.1, n, .inl u.2.2.2.2.2)), (aWh, .inl (g.2.1, N, .inl (eb u.1))), (aGv, .inl (g.2.1, N, .inl (eb u.2.1)))]) := by
  refine CT.of cX5_drawWhole 3 (some .boolean) RX5 (by decide +kernel) rfl rfl (Nat.le_of_ble_eq_true rfl) ?_
  intro X hg hl C hret
  subst hg; subst hl
  show RW X 0 0 0 [(0, .ref aM)] [] [(aM, .inr (6, [.ref aG, .ref aE, .ref aTh, .ref aA, .ref aD, .ref aQ, .ref aW, .ref aH, .ref aWh, .ref aGv, .ref aMk, .ref aRw, .ref aWo, .int (bz md), .int (nI tm), .int (nI rs), .int (nI tk), .int (nI pb), .int (nI gn), .int (nI un)])), (aD, .inr (4, [.ref aG, .ref aH, .ref dB])), (aH, .inr (3, [.long x])), (aG, .inr (5, [.int (nI n), .int (nI N), .int (nI (2 ^ n - 1)), .ref gr, .ref gc, .ref gb, .ref gu])), (gr, .inl (X.1.2.1, N, .inl (gR n))), (gc, .inl (X.1.2.1, N, .inl (gC n))), (gb, .inl (X.1.2.1, N, .inl (gB n))), (dB, .inr (2, [.ref aG, .ref dS, .ref dR, .ref dC, .ref dX])), (dS, .inl (X.1.2.1, N, .inl df)), (dR, .inl (X.1.2.1, n, .inl dfR)), (dC, .inl (X.1.2.1, n, .inl dfC)), (dX, .inl (X.1.2.1, n, .inl dfB)), (aWh, .inl (X.1.2.1, N, .inl (eb wh))), (aGv, .inl (X.1.2.1, N, .inl (eb gv)))]
  refine r_iconst C dX5_drawWhole_0 (v := bz False) (by rw [bz_f id]; decide) ?_
  refine r_istore_n C dX5_drawWhole_1 rfl (by decide) [1, 0] (lv' := [(0, .ref aM), (1, .int (bz False))]) rfl ?_
  refine r_iconst C dX5_drawWhole_2 (v := nI 0) (by decide) ?_
  refine r_istore_n C dX5_drawWhole_3 rfl (by decide) [1, 2, 0] (lv' := [(0, .ref aM), (1, .int (bz False)), (2, .int (nI 0))]) rfl ?_
  have L4 : ∀ (d4 : Nat) (i : Nat) (fl : Prop) (x1 : Int64) (r1 : Nat) (b1 : Nat → Option Nat) (f1 : Nat → Int32) (f2 : Nat → Int32) (f3 : Nat → Int32) (f4 : Nat → Int32), (200 - i) < d4 → (i ≤ 200) → (fl → drawW n N 200 x rs = (true, x1, r1, b1) ∧ f1 = eb b1) → (¬ fl → drawW n N 200 x rs = drawW n N (200 - i) x1 r1) → RW X 0 0 4 [(0, .ref aM), (1, .int (bz fl)), (2, .int (nI i))] [] [(aM, .inr (6, [.ref aG, .ref aE, .ref aTh, .ref aA, .ref aD, .ref aQ, .ref aW, .ref aH, .ref aWh, .ref aGv, .ref aMk, .ref aRw, .ref aWo, .int (bz md), .int (nI tm), .int (nI r1), .int (nI tk), .int (nI pb), .int (nI gn), .int (nI un)])), (aD, .inr (4, [.ref aG, .ref aH, .ref dB])), (aH, .inr (3, [.long x1])), (aG, .inr (5, [.int (nI n), .int (nI N), .int (nI (2 ^ n - 1)), .ref gr, .ref gc, .ref gb, .ref gu])), (gr, .inl (X.1.2.1, N, .inl (gR n))), (gc, .inl (X.1.2.1, N, .inl (gC n))), (gb, .inl (X.1.2.1, N, .inl (gB n))), (dB, .inr (2, [.ref aG, .ref dS, .ref dR, .ref dC, .ref dX])), (dS, .inl (X.1.2.1, N, .inl f1)), (dR, .inl (X.1.2.1, n, .inl f2)), (dC, .inl (X.1.2.1, n, .inl f3)), (dX, .inl (X.1.2.1, n, .inl f4)), (aWh, .inl (X.1.2.1, N, .inl (eb wh))), (aGv, .inl (X.1.2.1, N, .inl (eb gv)))] := by
    intro d4
    induction d4 with
    | zero => intro i fl x1 r1 b1 f1 f2 f3 f4 hd4; exact absurd hd4 (Nat.not_lt_zero _)
    | succ d4 ih4 =>
      intro i fl x1 r1 b1 f1 f2 f3 f4 hd4 hi hF0 hF1
      refine r_iload_n C dX5_drawWhole_4 2 rfl rfl ?_
      refine r_sipush C dX5_drawWhole_5 (v := nI 200) (by decide) ?_
      refine r_icmp_ge (tgt := 43) C dX5_drawWhole_8 (by decide) (fun h8 => ?_) (fun h8 => ?_)
      · have h8 : 200 ≤ i := (nI_leI (by omega) (by omega)).mp h8
        refine r_iload_n C dX5_drawWhole_43 1 rfl rfl ?_
        have hend : ¬ fl → 200 ≤ i := fun _ => h8
        refine r_if_eq (tgt := 89) C dX5_drawWhole_44 (by decide) (fun h44 => ?_) (fun h44 => ?_)
        · have h44 : ¬ (fl) := bz_0.mp h44
          refine r_iload_n C dX5_drawWhole_89 1 rfl rfl ?_
          have hF0 : drawW n N 200 x rs = (false, x1, r1, fun _ => none) := by
            rw [hF1 h44, show 200 - i = 0 by have := hend h44; omega]; rfl
          rw [hF0] at hret
          refine r_top (y := bz (false = true)) (bz_iff ⟨fun w => absurd w h44, fun w => by cases w⟩) ?_
          exact hret _ _ _ (wh, gv, f1, f2, f3, f4) ⟨rfl, fun w => by cases w⟩ (Or.inr ⟨_, rfl, dX5_drawWhole_90, Or.inr ⟨rfl, bz_01 _⟩⟩)
        · have h44 : fl := bz_n0.mp h44
          rw [(hF0 h44).2]
          show RW X 0 0 47 [(0, .ref aM), (1, .int (bz fl)), (2, .int (nI i))] [] [(aM, .inr (6, [.ref aG, .ref aE, .ref aTh, .ref aA, .ref aD, .ref aQ, .ref aW, .ref aH, .ref aWh, .ref aGv, .ref aMk, .ref aRw, .ref aWo, .int (bz md), .int (nI tm), .int (nI r1), .int (nI tk), .int (nI pb), .int (nI gn), .int (nI un)])), (aD, .inr (4, [.ref aG, .ref aH, .ref dB])), (aH, .inr (3, [.long x1])), (aG, .inr (5, [.int (nI n), .int (nI N), .int (nI (2 ^ n - 1)), .ref gr, .ref gc, .ref gb, .ref gu])), (gr, .inl (X.1.2.1, N, .inl (gR n))), (gc, .inl (X.1.2.1, N, .inl (gC n))), (gb, .inl (X.1.2.1, N, .inl (gB n))), (dB, .inr (2, [.ref aG, .ref dS, .ref dR, .ref dC, .ref dX])), (dS, .inl (X.1.2.1, N, .inl (eb b1))), (dR, .inl (X.1.2.1, n, .inl f2)), (dC, .inl (X.1.2.1, n, .inl f3)), (dX, .inl (X.1.2.1, n, .inl f4)), (aWh, .inl (X.1.2.1, N, .inl (eb wh))), (aGv, .inl (X.1.2.1, N, .inl (eb gv)))]
          refine r_aload_n C dX5_drawWhole_47 0 rfl rfl ?_
          refine r_get C dX5_drawWhole_48 iX5_drawWhole_X5 4 fX5_drawWhole_60 0 rfl rfl (by decide) rfl ?_
          refine r_get C dX5_drawWhole_51 iX5_drawWhole_X3 2 fX5_drawWhole_146 1 rfl rfl (by decide) rfl ?_
          refine r_get C dX5_drawWhole_54 iX5_drawWhole_X1 1 fX5_drawWhole_150 7 rfl rfl (by decide) rfl ?_
          refine r_iconst C dX5_drawWhole_57 (v := nI 0) (by decide) ?_
          refine r_aload_n C dX5_drawWhole_58 0 rfl rfl ?_
          refine r_get C dX5_drawWhole_59 iX5_drawWhole_X5 8 fX5_drawWhole_85 0 rfl rfl (by decide) rfl ?_
          refine r_iconst C dX5_drawWhole_62 (v := nI 0) (by decide) ?_
          refine r_aload_n C dX5_drawWhole_63 0 rfl rfl ?_
          refine r_get C dX5_drawWhole_64 iX5_drawWhole_X5 8 fX5_drawWhole_85 0 rfl rfl (by decide) rfl ?_
          refine r_alen C dX5_drawWhole_67 12 0 rfl rfl (v := nI N) rfl ?_
          refine r_copyI C dX5_drawWhole_68 acX5_drawWhole_124 8 12 rfl rfl (by omega) rfl (by omega) (by decide) (by decide) (by decide) (ws' := [(aM, .inr (6, [.ref aG, .ref aE, .ref aTh, .ref aA, .ref aD, .ref aQ, .ref aW, .ref aH, .ref aWh, .ref aGv, .ref aMk, .ref aRw, .ref aWo, .int (bz md), .int (nI tm), .int (nI r1), .int (nI tk), .int (nI pb), .int (nI gn), .int (nI un)])), (aD, .inr (4, [.ref aG, .ref aH, .ref dB])), (aH, .inr (3, [.long x1])), (aG, .inr (5, [.int (nI n), .int (nI N), .int (nI (2 ^ n - 1)), .ref gr, .ref gc, .ref gb, .ref gu])), (gr, .inl (X.1.2.1, N, .inl (gR n))), (gc, .inl (X.1.2.1, N, .inl (gC n))), (gb, .inl (X.1.2.1, N, .inl (gB n))), (dB, .inr (2, [.ref aG, .ref dS, .ref dR, .ref dC, .ref dX])), (dS, .inl (X.1.2.1, N, .inl (eb b1))), (dR, .inl (X.1.2.1, n, .inl f2)), (dC, .inl (X.1.2.1, n, .inl f3)), (dX, .inl (X.1.2.1, n, .inl f4)), (aWh, .inl (X.1.2.1, N, .inl (eb b1))), (aGv, .inl (X.1.2.1, N, .inl (eb gv)))]) rfl ?_
          refine r_aload_n C dX5_drawWhole_71 0 rfl rfl ?_
          refine r_get C dX5_drawWhole_72 iX5_drawWhole_X5 8 fX5_drawWhole_85 0 rfl rfl (by decide) rfl ?_
          refine r_iconst C dX5_drawWhole_75 (v := nI 0) (by decide) ?_
          refine r_aload_n C dX5_drawWhole_76 0 rfl rfl ?_
          refine r_get C dX5_drawWhole_77 iX5_drawWhole_X5 9 fX5_drawWhole_88 0 rfl rfl (by decide) rfl ?_
          refine r_iconst C dX5_drawWhole_80 (v := nI 0) (by decide) ?_
          refine r_aload_n C dX5_drawWhole_81 0 rfl rfl ?_
          refine r_get C dX5_drawWhole_82 iX5_drawWhole_X5 9 fX5_drawWhole_88 0 rfl rfl (by decide) rfl ?_
          refine r_alen C dX5_drawWhole_85 13 0 rfl rfl (v := nI N) rfl ?_
          refine r_copyI C dX5_drawWhole_86 acX5_drawWhole_124 12 13 rfl rfl (by omega) rfl (by omega) (by decide) (by decide) (by decide) (ws' := [(aM, .inr (6, [.ref aG, .ref aE, .ref aTh, .ref aA, .ref aD, .ref aQ, .ref aW, .ref aH, .ref aWh, .ref aGv, .ref aMk, .ref aRw, .ref aWo, .int (bz md), .int (nI tm), .int (nI r1), .int (nI tk), .int (nI pb), .int (nI gn), .int (nI un)])), (aD, .inr (4, [.ref aG, .ref aH, .ref dB])), (aH, .inr (3, [.long x1])), (aG, .inr (5, [.int (nI n), .int (nI N), .int (nI (2 ^ n - 1)), .ref gr, .ref gc, .ref gb, .ref gu])), (gr, .inl (X.1.2.1, N, .inl (gR n))), (gc, .inl (X.1.2.1, N, .inl (gC n))), (gb, .inl (X.1.2.1, N, .inl (gB n))), (dB, .inr (2, [.ref aG, .ref dS, .ref dR, .ref dC, .ref dX])), (dS, .inl (X.1.2.1, N, .inl (eb b1))), (dR, .inl (X.1.2.1, n, .inl f2)), (dC, .inl (X.1.2.1, n, .inl f3)), (dX, .inl (X.1.2.1, n, .inl f4)), (aWh, .inl (X.1.2.1, N, .inl (eb b1))), (aGv, .inl (X.1.2.1, N, .inl (eb b1)))]) rfl ?_
          refine r_iload_n C dX5_drawWhole_89 1 rfl rfl ?_
          have hF0 := (hF0 h44).1
          rw [hF0] at hret
          refine r_top (y := bz (true = true)) (bz_iff ⟨fun _ => rfl, fun _ => h44⟩) ?_
          exact hret _ _ _ (b1, b1, eb b1, f2, f3, f4) ⟨rfl, fun _ => ⟨rfl, rfl⟩⟩ (Or.inr ⟨_, rfl, dX5_drawWhole_90, Or.inr ⟨rfl, bz_01 _⟩⟩)
      · have h8 : ¬ (200 ≤ i) := fun e9 => h8 ((nI_leI (by omega) (by omega)).mpr e9)
        refine r_iload_n C dX5_drawWhole_11 1 rfl rfl ?_
        refine r_if_ne (tgt := 43) C dX5_drawWhole_12 (by decide) (fun h12 => ?_) (fun h12 => ?_)
        · have h12 : fl := bz_n0.mp h12
          refine r_iload_n C dX5_drawWhole_43 1 rfl rfl ?_
          have hend : ¬ fl → 200 ≤ i := fun w => absurd h12 w
          refine r_if_eq (tgt := 89) C dX5_drawWhole_44 (by decide) (fun h44 => ?_) (fun h44 => ?_)
          · have h44 : ¬ (fl) := bz_0.mp h44
            refine r_iload_n C dX5_drawWhole_89 1 rfl rfl ?_
            have hF0 : drawW n N 200 x rs = (false, x1, r1, fun _ => none) := by
              rw [hF1 h44, show 200 - i = 0 by have := hend h44; omega]; rfl
            rw [hF0] at hret
            refine r_top (y := bz (false = true)) (bz_iff ⟨fun w => absurd w h44, fun w => by cases w⟩) ?_
            exact hret _ _ _ (wh, gv, f1, f2, f3, f4) ⟨rfl, fun w => by cases w⟩ (Or.inr ⟨_, rfl, dX5_drawWhole_90, Or.inr ⟨rfl, bz_01 _⟩⟩)
          · have h44 : fl := bz_n0.mp h44
            rw [(hF0 h44).2]
            show RW X 0 0 47 [(0, .ref aM), (1, .int (bz fl)), (2, .int (nI i))] [] [(aM, .inr (6, [.ref aG, .ref aE, .ref aTh, .ref aA, .ref aD, .ref aQ, .ref aW, .ref aH, .ref aWh, .ref aGv, .ref aMk, .ref aRw, .ref aWo, .int (bz md), .int (nI tm), .int (nI r1), .int (nI tk), .int (nI pb), .int (nI gn), .int (nI un)])), (aD, .inr (4, [.ref aG, .ref aH, .ref dB])), (aH, .inr (3, [.long x1])), (aG, .inr (5, [.int (nI n), .int (nI N), .int (nI (2 ^ n - 1)), .ref gr, .ref gc, .ref gb, .ref gu])), (gr, .inl (X.1.2.1, N, .inl (gR n))), (gc, .inl (X.1.2.1, N, .inl (gC n))), (gb, .inl (X.1.2.1, N, .inl (gB n))), (dB, .inr (2, [.ref aG, .ref dS, .ref dR, .ref dC, .ref dX])), (dS, .inl (X.1.2.1, N, .inl (eb b1))), (dR, .inl (X.1.2.1, n, .inl f2)), (dC, .inl (X.1.2.1, n, .inl f3)), (dX, .inl (X.1.2.1, n, .inl f4)), (aWh, .inl (X.1.2.1, N, .inl (eb wh))), (aGv, .inl (X.1.2.1, N, .inl (eb gv)))]
            refine r_aload_n C dX5_drawWhole_47 0 rfl rfl ?_
            refine r_get C dX5_drawWhole_48 iX5_drawWhole_X5 4 fX5_drawWhole_60 0 rfl rfl (by decide) rfl ?_
            refine r_get C dX5_drawWhole_51 iX5_drawWhole_X3 2 fX5_drawWhole_146 1 rfl rfl (by decide) rfl ?_
            refine r_get C dX5_drawWhole_54 iX5_drawWhole_X1 1 fX5_drawWhole_150 7 rfl rfl (by decide) rfl ?_
            refine r_iconst C dX5_drawWhole_57 (v := nI 0) (by decide) ?_
            refine r_aload_n C dX5_drawWhole_58 0 rfl rfl ?_
            refine r_get C dX5_drawWhole_59 iX5_drawWhole_X5 8 fX5_drawWhole_85 0 rfl rfl (by decide) rfl ?_
            refine r_iconst C dX5_drawWhole_62 (v := nI 0) (by decide) ?_
            refine r_aload_n C dX5_drawWhole_63 0 rfl rfl ?_
            refine r_get C dX5_drawWhole_64 iX5_drawWhole_X5 8 fX5_drawWhole_85 0 rfl rfl (by decide) rfl ?_
            refine r_alen C dX5_drawWhole_67 12 0 rfl rfl (v := nI N) rfl ?_
            refine r_copyI C dX5_drawWhole_68 acX5_drawWhole_124 8 12 rfl rfl (by omega) rfl (by omega) (by decide) (by decide) (by decide) (ws' := [(aM, .inr (6, [.ref aG, .ref aE, .ref aTh, .ref aA, .ref aD, .ref aQ, .ref aW, .ref aH, .ref aWh, .ref aGv, .ref aMk, .ref aRw, .ref aWo, .int (bz md), .int (nI tm), .int (nI r1), .int (nI tk), .int (nI pb), .int (nI gn), .int (nI un)])), (aD, .inr (4, [.ref aG, .ref aH, .ref dB])), (aH, .inr (3, [.long x1])), (aG, .inr (5, [.int (nI n), .int (nI N), .int (nI (2 ^ n - 1)), .ref gr, .ref gc, .ref gb, .ref gu])), (gr, .inl (X.1.2.1, N, .inl (gR n))), (gc, .inl (X.1.2.1, N, .inl (gC n))), (gb, .inl (X.1.2.1, N, .inl (gB n))), (dB, .inr (2, [.ref aG, .ref dS, .ref dR, .ref dC, .ref dX])), (dS, .inl (X.1.2.1, N, .inl (eb b1))), (dR, .inl (X.1.2.1, n, .inl f2)), (dC, .inl (X.1.2.1, n, .inl f3)), (dX, .inl (X.1.2.1, n, .inl f4)), (aWh, .inl (X.1.2.1, N, .inl (eb b1))), (aGv, .inl (X.1.2.1, N, .inl (eb gv)))]) rfl ?_
            refine r_aload_n C dX5_drawWhole_71 0 rfl rfl ?_
            refine r_get C dX5_drawWhole_72 iX5_drawWhole_X5 8 fX5_drawWhole_85 0 rfl rfl (by decide) rfl ?_
            refine r_iconst C dX5_drawWhole_75 (v := nI 0) (by decide) ?_
            refine r_aload_n C dX5_drawWhole_76 0 rfl rfl ?_
            refine r_get C dX5_drawWhole_77 iX5_drawWhole_X5 9 fX5_drawWhole_88 0 rfl rfl (by decide) rfl ?_
            refine r_iconst C dX5_drawWhole_80 (v := nI 0) (by decide) ?_
            refine r_aload_n C dX5_drawWhole_81 0 rfl rfl ?_
            refine r_get C dX5_drawWhole_82 iX5_drawWhole_X5 9 fX5_drawWhole_88 0 rfl rfl (by decide) rfl ?_
            refine r_alen C dX5_drawWhole_85 13 0 rfl rfl (v := nI N) rfl ?_
            refine r_copyI C dX5_drawWhole_86 acX5_drawWhole_124 12 13 rfl rfl (by omega) rfl (by omega) (by decide) (by decide) (by decide) (ws' := [(aM, .inr (6, [.ref aG, .ref aE, .ref aTh, .ref aA, .ref aD, .ref aQ, .ref aW, .ref aH, .ref aWh, .ref aGv, .ref aMk, .ref aRw, .ref aWo, .int (bz md), .int (nI tm), .int (nI r1), .int (nI tk), .int (nI pb), .int (nI gn), .int (nI un)])), (aD, .inr (4, [.ref aG, .ref aH, .ref dB])), (aH, .inr (3, [.long x1])), (aG, .inr (5, [.int (nI n), .int (nI N), .int (nI (2 ^ n - 1)), .ref gr, .ref gc, .ref gb, .ref gu])), (gr, .inl (X.1.2.1, N, .inl (gR n))), (gc, .inl (X.1.2.1, N, .inl (gC n))), (gb, .inl (X.1.2.1, N, .inl (gB n))), (dB, .inr (2, [.ref aG, .ref dS, .ref dR, .ref dC, .ref dX])), (dS, .inl (X.1.2.1, N, .inl (eb b1))), (dR, .inl (X.1.2.1, n, .inl f2)), (dC, .inl (X.1.2.1, n, .inl f3)), (dX, .inl (X.1.2.1, n, .inl f4)), (aWh, .inl (X.1.2.1, N, .inl (eb b1))), (aGv, .inl (X.1.2.1, N, .inl (eb b1)))]) rfl ?_
            refine r_iload_n C dX5_drawWhole_89 1 rfl rfl ?_
            have hF0 := (hF0 h44).1
            rw [hF0] at hret
            refine r_top (y := bz (true = true)) (bz_iff ⟨fun _ => rfl, fun _ => h44⟩) ?_
            exact hret _ _ _ (b1, b1, eb b1, f2, f3, f4) ⟨rfl, fun _ => ⟨rfl, rfl⟩⟩ (Or.inr ⟨_, rfl, dX5_drawWhole_90, Or.inr ⟨rfl, bz_01 _⟩⟩)
        · have h12 : ¬ (fl) := bz_0.mp h12
          refine r_aload_n C dX5_drawWhole_15 0 rfl rfl ?_
          refine r_get C dX5_drawWhole_16 iX5_drawWhole_X5 4 fX5_drawWhole_60 0 rfl rfl (by decide) rfl ?_
          refine r_callV0 (n := 0) (ws' := fun (u : Unit) => [(aM, .inr (6, [.ref aG, .ref aE, .ref aTh, .ref aA, .ref aD, .ref aQ, .ref aW, .ref aH, .ref aWh, .ref aGv, .ref aMk, .ref aRw, .ref aWo, .int (bz md), .int (nI tm), .int (nI r1), .int (nI tk), .int (nI pb), .int (nI gn), .int (nI un)])), (aD, .inr (4, [.ref aG, .ref aH, .ref dB])), (aH, .inr (3, [.long ((drawF n N N x1 (fun _ => none)).2.1)])), (aG, .inr (5, [.int (nI n), .int (nI N), .int (nI (2 ^ n - 1)), .ref gr, .ref gc, .ref gb, .ref gu])), (gr, .inl (X.1.2.1, N, .inl (gR n))), (gc, .inl (X.1.2.1, N, .inl (gC n))), (gb, .inl (X.1.2.1, N, .inl (gB n))), (dB, .inr (2, [.ref aG, .ref dS, .ref dR, .ref dC, .ref dX])), (dS, .inl (X.1.2.1, N, .inl (eb ((drawF n N N x1 (fun _ => none)).2.2)))), (dR, .inl (X.1.2.1, n, .inl (mR n N ((drawF n N N x1 (fun _ => none)).2.2)))), (dC, .inl (X.1.2.1, n, .inl (mC n N ((drawF n N N x1 (fun _ => none)).2.2)))), (dX, .inl (X.1.2.1, n, .inl (mB n N ((drawF n N N x1 (fun _ => none)).2.2)))), (aWh, .inl (X.1.2.1, N, .inl (eb wh))), (aGv, .inl (X.1.2.1, N, .inl (eb gv)))]) C dX5_drawWhole_19 (c_X3_fill (g := X.1) (l := X.2.2.1) (n := n) (N := N) (aG := aG) (gr := gr) (gc := gc) (gb := gb) (gu := gu) (aB := dB) (aS := dS) (aR := dR) (aC := dC) (aX := dX) (f := f1) (fR := f2) (fC := f3) (fB := f4) (aD := aD) (aH := aH) (x := x1) (hn := (by first | assumption | omega))) gX5_drawWhole_X3_fill rfl (by decide +kernel) rfl ⟨Nat.le_of_ble_eq_true rfl, Nat.le_of_ble_eq_true rfl⟩ ⟨rfl, rfl⟩ ⟨Nat.zero_le _, Nat.zero_le _⟩ (rest := []) rfl (Nat.le_of_ble_eq_true rfl) 0 rfl rfl [1, 2, 3, 4, 5, 6, 7, 8, 9, 10, 11] (by decide) rfl (fun u => Eq.trans (b := [aD, aH, aG, gr, gc, gb, dB, dS, dR, dC, dX]) rfl rfl) (fun u => rfl) (fun v u hp => ?_)
          obtain rfl := hp
          show RW X 0 0 22 [(0, .ref aM), (1, .int (bz fl)), (2, .int (nI i))] [.int (bz ((drawF n N N x1 (fun _ => none)).1 = true))] [(aM, .inr (6, [.ref aG, .ref aE, .ref aTh, .ref aA, .ref aD, .ref aQ, .ref aW, .ref aH, .ref aWh, .ref aGv, .ref aMk, .ref aRw, .ref aWo, .int (bz md), .int (nI tm), .int (nI r1), .int (nI tk), .int (nI pb), .int (nI gn), .int (nI un)])), (aD, .inr (4, [.ref aG, .ref aH, .ref dB])), (aH, .inr (3, [.long ((drawF n N N x1 (fun _ => none)).2.1)])), (aG, .inr (5, [.int (nI n), .int (nI N), .int (nI (2 ^ n - 1)), .ref gr, .ref gc, .ref gb, .ref gu])), (gr, .inl (X.1.2.1, N, .inl (gR n))), (gc, .inl (X.1.2.1, N, .inl (gC n))), (gb, .inl (X.1.2.1, N, .inl (gB n))), (dB, .inr (2, [.ref aG, .ref dS, .ref dR, .ref dC, .ref dX])), (dS, .inl (X.1.2.1, N, .inl (eb ((drawF n N N x1 (fun _ => none)).2.2)))), (dR, .inl (X.1.2.1, n, .inl (mR n N ((drawF n N N x1 (fun _ => none)).2.2)))), (dC, .inl (X.1.2.1, n, .inl (mC n N ((drawF n N N x1 (fun _ => none)).2.2)))), (dX, .inl (X.1.2.1, n, .inl (mB n N ((drawF n N N x1 (fun _ => none)).2.2)))), (aWh, .inl (X.1.2.1, N, .inl (eb wh))), (aGv, .inl (X.1.2.1, N, .inl (eb gv)))]
          refine r_istore_n C dX5_drawWhole_22 rfl (by decide) [1, 0, 2] (lv' := [(0, .ref aM), (1, .int (bz ((drawF n N N x1 (fun _ => none)).1 = true))), (2, .int (nI i))]) rfl ?_
          refine r_iload_n C dX5_drawWhole_23 1 rfl rfl ?_
          refine r_if_ne (tgt := 37) C dX5_drawWhole_24 (by decide) (fun h24 => ?_) (fun h24 => ?_)
          · have h24 : (drawF n N N x1 (fun _ => none)).1 = true := bz_n0.mp h24
            refine r_iinc C dX5_drawWhole_37 2 rfl (v := nI (i + 1)) (nI_add _ _) (by decide) [1, 2, 0] (lv' := [(0, .ref aM), (1, .int (bz ((drawF n N N x1 (fun _ => none)).1 = true))), (2, .int (nI (i + 1)))]) rfl ?_
            refine r_goto (tgt := 4) C dX5_drawWhole_40 (by decide) ?_
            exact ih4 (i + 1) ((drawF n N N x1 (fun _ => none)).1 = true) ((drawF n N N x1 (fun _ => none)).2.1) r1 ((drawF n N N x1 (fun _ => none)).2.2) (eb (drawF n N N x1 (fun _ => none)).2.2) (mR n N (drawF n N N x1 (fun _ => none)).2.2) (mC n N (drawF n N N x1 (fun _ => none)).2.2) (mB n N (drawF n N N x1 (fun _ => none)).2.2) (by omega) (by omega) (fun _ => ⟨by rw [(hF1 h12).trans (drawW_t (show 200 - i = (200 - (i + 1)) + 1 by omega) h24)], rfl⟩) (fun w => absurd h24 w)
          · have h24 : ¬ ((drawF n N N x1 (fun _ => none)).1 = true) := bz_0.mp h24
            refine r_aload_n C dX5_drawWhole_27 0 rfl rfl ?_
            refine r_dup C dX5_drawWhole_28 rfl ?_
            refine r_get C dX5_drawWhole_29 iX5_drawWhole_X5 15 fX5_drawWhole_17 0 rfl rfl (by decide) rfl ?_
            refine r_iconst C dX5_drawWhole_32 (v := nI 1) (by decide) ?_
            refine r_iadd C dX5_drawWhole_33 (v := nI (r1 + 1)) (nI_add _ _) ?_
            refine r_put C dX5_drawWhole_34 iX5_drawWhole_X5 tyX5 tyX5_ok nmX5 15 fX5_drawWhole_17 0 rfl rfl (by decide) rfl rfl rfl rfl (Nat.le_of_ble_eq_true rfl) (ws' := [(aM, .inr (6, [.ref aG, .ref aE, .ref aTh, .ref aA, .ref aD, .ref aQ, .ref aW, .ref aH, .ref aWh, .ref aGv, .ref aMk, .ref aRw, .ref aWo, .int (bz md), .int (nI tm), .int (nI (r1 + 1)), .int (nI tk), .int (nI pb), .int (nI gn), .int (nI un)])), (aD, .inr (4, [.ref aG, .ref aH, .ref dB])), (aH, .inr (3, [.long ((drawF n N N x1 (fun _ => none)).2.1)])), (aG, .inr (5, [.int (nI n), .int (nI N), .int (nI (2 ^ n - 1)), .ref gr, .ref gc, .ref gb, .ref gu])), (gr, .inl (X.1.2.1, N, .inl (gR n))), (gc, .inl (X.1.2.1, N, .inl (gC n))), (gb, .inl (X.1.2.1, N, .inl (gB n))), (dB, .inr (2, [.ref aG, .ref dS, .ref dR, .ref dC, .ref dX])), (dS, .inl (X.1.2.1, N, .inl (eb ((drawF n N N x1 (fun _ => none)).2.2)))), (dR, .inl (X.1.2.1, n, .inl (mR n N ((drawF n N N x1 (fun _ => none)).2.2)))), (dC, .inl (X.1.2.1, n, .inl (mC n N ((drawF n N N x1 (fun _ => none)).2.2)))), (dX, .inl (X.1.2.1, n, .inl (mB n N ((drawF n N N x1 (fun _ => none)).2.2)))), (aWh, .inl (X.1.2.1, N, .inl (eb wh))), (aGv, .inl (X.1.2.1, N, .inl (eb gv)))]) rfl ?_
            refine r_iinc C dX5_drawWhole_37 2 rfl (v := nI (i + 1)) (nI_add _ _) (by decide) [1, 2, 0] (lv' := [(0, .ref aM), (1, .int (bz ((drawF n N N x1 (fun _ => none)).1 = true))), (2, .int (nI (i + 1)))]) rfl ?_
            refine r_goto (tgt := 4) C dX5_drawWhole_40 (by decide) ?_
            exact ih4 (i + 1) ((drawF n N N x1 (fun _ => none)).1 = true) ((drawF n N N x1 (fun _ => none)).2.1) (r1 + 1) b1 (eb (drawF n N N x1 (fun _ => none)).2.2) (mR n N (drawF n N N x1 (fun _ => none)).2.2) (mC n N (drawF n N N x1 (fun _ => none)).2.2) (mB n N (drawF n N N x1 (fun _ => none)).2.2) (by omega) (by omega) (fun w => absurd w h24) (fun _ => (hF1 h12).trans (drawW_f (show 200 - i = (200 - (i + 1)) + 1 by omega) h24))
  exact L4 ((200 - 0) + 1) 0 False x rs (fun _ => none) df dfR dfC dfB (Nat.lt_succ_self _) (Nat.zero_le _) False.elim (fun _ => rfl)
theorem fX5_startAt_7 : Cond.fieldLink RX5 7 (TX5 13).1 (TX5 13).2.1 (TX5 13).2.2.1 ∈ wsX5_startAt := List.mem_of_getElem? (i := 1) rfl
theorem iX5_startAt_X5 : ∀ w ∈ wsX50, w ∈ wsX5_startAt := by decide +kernel
theorem fX5_startAt_13 : Cond.fieldLink RX5 13 (TX5 14).1 (TX5 14).2.1 (TX5 14).2.2.1 ∈ wsX5_startAt := List.mem_of_getElem? (i := 2) rfl
theorem fX5_startAt_17 : Cond.fieldLink RX5 17 (TX5 15).1 (TX5 15).2.1 (TX5 15).2.2.1 ∈ wsX5_startAt := List.mem_of_getElem? (i := 3) rfl
theorem fX5_startAt_20 : Cond.fieldLink RX5 20 (TX5 16).1 (TX5 16).2.1 (TX5 16).2.2.1 ∈ wsX5_startAt := List.mem_of_getElem? (i := 4) rfl
theorem fX5_startAt_23 : Cond.fieldLink RX5 23 (TX5 17).1 (TX5 17).2.1 (TX5 17).2.2.1 ∈ wsX5_startAt := List.mem_of_getElem? (i := 5) rfl
theorem fX5_startAt_51 : Cond.fieldLink RX5 51 (TX5 7).1 (TX5 7).2.1 (TX5 7).2.2.1 ∈ wsX5_startAt := List.mem_of_getElem? (i := 6) rfl
set_option maxHeartbeats 4000000 in
set_option maxRecDepth 100000 in
theorem c_X5_startAt {g : ww_G} {l : Launch} {aM : Nat} {aE : Nat} {aTh : Nat} {aA : Nat} {aD : Nat} {aQ : Nat} {aW : Nat} {aH : Nat} {aWh : Nat} {aGv : Nat} {aMk : Nat} {aRw : Nat} {aWo : Nat} {md : Prop} {tm : Nat} {rs : Nat} {tk : Nat} {pb : Nat} {gn : Nat} {un : Nat} {aG : Nat} {x : Int64} {y : Int64}  : CT g l yX5_startAt wsX5_startAt (ww_rm 2) [.ref aM, .long y] ([(aM, .inr (6, [.ref aG, .ref aE, .ref aTh, .ref aA, .ref aD, .ref aQ, .ref aW, .ref aH, .ref aWh, .ref aGv, .ref aMk, .ref aRw, .ref aWo, .int (bz md), .int (nI tm), .int (nI rs), .int (nI tk), .int (nI pb), .int (nI gn), .int (nI un)])), (aH, .inr (3, [.long x]))]) (S := Unit) (fun v u => v = none) (fun u => [(aM, .inr (6, [.ref aG, .ref aE, .ref aTh, .ref aA, .ref aD, .ref aQ, .ref aW, .ref aH, .ref aWh, .ref aGv, .ref aMk, .ref aRw, .ref aWo, .int (bz False), .int (nI 0), .int (nI 0), .int (nI 0), .int (nI 0), .int (nI gn), .int (nI un)])), (aH, .inr (3, [.long y]))]) := by
  refine CT.of cX5_startAt 3 none RX5 (by decide +kernel) rfl rfl (Nat.le_of_ble_eq_true rfl) ?_
  intro X hg hl C hret
  subst hg; subst hl
  show RW X 0 0 0 [(0, .ref aM), (1, .long y)] [] [(aM, .inr (6, [.ref aG, .ref aE, .ref aTh, .ref aA, .ref aD, .ref aQ, .ref aW, .ref aH, .ref aWh, .ref aGv, .ref aMk, .ref aRw, .ref aWo, .int (bz md), .int (nI tm), .int (nI rs), .int (nI tk), .int (nI pb), .int (nI gn), .int (nI un)])), (aH, .inr (3, [.long x]))]
  refine r_aload_n C dX5_startAt_0 0 rfl rfl ?_
  refine r_iconst C dX5_startAt_1 (v := bz False) (by rw [bz_f id]; decide) ?_
  refine r_put C dX5_startAt_2 iX5_startAt_X5 tyX5 tyX5_ok nmX5 13 fX5_startAt_7 0 rfl rfl (by decide) rfl rfl (bz_nar _) (bz_fit _) (Nat.le_of_ble_eq_true rfl) (ws' := [(aM, .inr (6, [.ref aG, .ref aE, .ref aTh, .ref aA, .ref aD, .ref aQ, .ref aW, .ref aH, .ref aWh, .ref aGv, .ref aMk, .ref aRw, .ref aWo, .int (bz False), .int (nI tm), .int (nI rs), .int (nI tk), .int (nI pb), .int (nI gn), .int (nI un)])), (aH, .inr (3, [.long x]))]) rfl ?_
  refine r_aload_n C dX5_startAt_5 0 rfl rfl ?_
  refine r_iconst C dX5_startAt_6 (v := nI 0) (by decide) ?_
  refine r_put C dX5_startAt_7 iX5_startAt_X5 tyX5 tyX5_ok nmX5 14 fX5_startAt_13 0 rfl rfl (by decide) rfl rfl rfl rfl (Nat.le_of_ble_eq_true rfl) (ws' := [(aM, .inr (6, [.ref aG, .ref aE, .ref aTh, .ref aA, .ref aD, .ref aQ, .ref aW, .ref aH, .ref aWh, .ref aGv, .ref aMk, .ref aRw, .ref aWo, .int (bz False), .int (nI 0), .int (nI rs), .int (nI tk), .int (nI pb), .int (nI gn), .int (nI un)])), (aH, .inr (3, [.long x]))]) rfl ?_
  refine r_aload_n C dX5_startAt_10 0 rfl rfl ?_
  refine r_iconst C dX5_startAt_11 (v := nI 0) (by decide) ?_
  refine r_put C dX5_startAt_12 iX5_startAt_X5 tyX5 tyX5_ok nmX5 15 fX5_startAt_17 0 rfl rfl (by decide) rfl rfl rfl rfl (Nat.le_of_ble_eq_true rfl) (ws' := [(aM, .inr (6, [.ref aG, .ref aE, .ref aTh, .ref aA, .ref aD, .ref aQ, .ref aW, .ref aH, .ref aWh, .ref aGv, .ref aMk, .ref aRw, .ref aWo, .int (bz False), .int (nI 0), .int (nI 0), .int (nI tk), .int (nI pb), .int (nI gn), .int (nI un)])), (aH, .inr (3, [.long x]))]) rfl ?_
  refine r_aload_n C dX5_startAt_15 0 rfl rfl ?_
  refine r_iconst C dX5_startAt_16 (v := nI 0) (by decide) ?_
  refine r_put C dX5_startAt_17 iX5_startAt_X5 tyX5 tyX5_ok nmX5 16 fX5_startAt_20 0 rfl rfl (by decide) rfl rfl rfl rfl (Nat.le_of_ble_eq_true rfl) (ws' := [(aM, .inr (6, [.ref aG, .ref aE, .ref aTh, .ref aA, .ref aD, .ref aQ, .ref aW, .ref aH, .ref aWh, .ref aGv, .ref aMk, .ref aRw, .ref aWo, .int (bz False), .int (nI 0), .int (nI 0), .int (nI 0), .int (nI pb), .int (nI gn), .int (nI un)])), (aH, .inr (3, [.long x]))]) rfl ?_
  refine r_aload_n C dX5_startAt_20 0 rfl rfl ?_
  refine r_iconst C dX5_startAt_21 (v := nI 0) (by decide) ?_
  refine r_put C dX5_startAt_22 iX5_startAt_X5 tyX5 tyX5_ok nmX5 17 fX5_startAt_23 0 rfl rfl (by decide) rfl rfl rfl rfl (Nat.le_of_ble_eq_true rfl) (ws' := [(aM, .inr (6, [.ref aG, .ref aE, .ref aTh, .ref aA, .ref aD, .ref aQ, .ref aW, .ref aH, .ref aWh, .ref aGv, .ref aMk, .ref aRw, .ref aWo, .int (bz False), .int (nI 0), .int (nI 0), .int (nI 0), .int (nI 0), .int (nI gn), .int (nI un)])), (aH, .inr (3, [.long x]))]) rfl ?_
  refine r_aload_n C dX5_startAt_25 0 rfl rfl ?_
  refine r_get C dX5_startAt_26 iX5_startAt_X5 7 fX5_startAt_51 0 rfl rfl (by decide) rfl ?_
  refine r_lload_n C dX5_startAt_29 1 rfl rfl ?_
  refine r_callV0 (n := 1) (ws' := fun (u : Unit) => [(aM, .inr (6, [.ref aG, .ref aE, .ref aTh, .ref aA, .ref aD, .ref aQ, .ref aW, .ref aH, .ref aWh, .ref aGv, .ref aMk, .ref aRw, .ref aWo, .int (bz False), .int (nI 0), .int (nI 0), .int (nI 0), .int (nI 0), .int (nI gn), .int (nI un)])), (aH, .inr (3, [.long y]))]) C dX5_startAt_30 (c_X2_startAt (g := X.1) (l := X.2.2.1) (aH := aH) (x := x) (y := y) ) gX5_startAt_X2_startAt rfl (by decide +kernel) rfl ⟨Nat.le_of_ble_eq_true rfl, Nat.le_of_ble_eq_true rfl⟩ ⟨rfl, rfl⟩ ⟨Nat.zero_le _, Nat.zero_le _⟩ (rest := []) rfl (Nat.le_of_ble_eq_true rfl) 0 rfl rfl [1] (by decide) rfl (fun u => Eq.trans (b := [aH]) rfl rfl) (fun u => rfl) (fun v u hp => ?_)
  obtain rfl := hp
  show RW X 0 0 33 [(0, .ref aM), (1, .long y)] [] [(aM, .inr (6, [.ref aG, .ref aE, .ref aTh, .ref aA, .ref aD, .ref aQ, .ref aW, .ref aH, .ref aWh, .ref aGv, .ref aMk, .ref aRw, .ref aWo, .int (bz False), .int (nI 0), .int (nI 0), .int (nI 0), .int (nI 0), .int (nI gn), .int (nI un)])), (aH, .inr (3, [.long y]))]
  exact hret _ _ _ () rfl (Or.inl ⟨rfl, rfl, dX5_startAt_33⟩)
