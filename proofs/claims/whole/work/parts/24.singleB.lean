theorem subA_none {n N c : Nat} {b : Nat → Option Nat} {A : Nat → Nat} (hA : fulA n N A) (hb : subA N b A) (hn : (n = 4 ∧ N = 16) ∨ (n = 6 ∧ N = 36)) (hc : c < N) (h : eo (b c) < 0) : b c = none :=
  eo_none (n := n) h (fun v e => by rw [hb c v hc e]; exact hA.1 c hc) (by omega)
theorem fil_lt {N : Nat} {so : Prop} {P : Nat → Prop} {i : Nat} {b b1 : Nat → Option Nat} (h0 : ¬ so → b1 = b ∧ ∀ c, c < i → P c) (h1 : so → fil N b < fil N b1) : fil N b < fil N b1 + 1 := by
  by_cases q : so
  · have := h1 q; omega
  · rw [(h0 q).1]; omega
theorem fil_lt2 {N : Nat} {so : Prop} {P : Nat → Prop} {i : Nat} {b b1 : Nat → Option Nat} (h0 : ¬ so → b1 = b ∧ ∀ c, c < i → P c) (h1 : so → fil N b < fil N b1) : fil N b < fil N b1 + 1 := fil_lt h0 h1
theorem mkN_n0 {P : Nat → Prop} {v : Nat} (h : mkN P = 0) (hP : P v) (hv : v < 6) : False := by
  have := (mkN_tb P hv).mpr hP
  rw [h] at this
  exact absurd this (by simp)
theorem fil_go {N : Nat} {s1 s2 P Q : Prop} {b1 b2 b3 : Nat → Option Nat} (h1 : ¬ s1 → b2 = b1 ∧ P) (h2 : s1 → fil N b1 < fil N b2) (h3 : ¬ s2 → b3 = b2 ∧ Q) (h4 : s2 → fil N b2 < fil N b3) (h : s1 ∨ s2) : fil N b1 < fil N b3 := by
  by_cases q1 : s1
  · have := h2 q1
    by_cases q2 : s2
    · have := h4 q2; omega
    · rw [(h3 q2).1]; omega
  · have q2 : s2 := h.resolve_left q1
    have := h4 q2
    rw [(h1 q1).1] at this
    exact this
theorem closed_of {n N : Nat} {A : Nat → Nat} {b : Nat → Option Nat} (hn : (n = 4 ∧ N = 16) ∨ (n = 6 ∧ N = 36)) (hA : fulA n N A) (hb : subA N b A) (h1 : ∀ c, c < N → ¬ (b c = none ∧ ∀ u, mayP n N b c u → u = A c)) (h2 : ∀ u, u < 3 * n → ∀ j, j < n → b (unF n u j) = none → ∀ v, mayP n N b (unF n u j) v → ¬ loneP n N b (unF n u) n v) : closedB n N A b := by
  rintro c ⟨hc, h0, h | ⟨k, hk, h⟩⟩
  · exact h1 c hc ⟨h0, h⟩
  · obtain ⟨hu, j, hj, hjc⟩ := unC_ok hn hk hc
    have hU := isUn_F hn hk hu
    obtain ⟨e1, e2⟩ := lone_of hA hb hU hj hjc h0 h
    have hlt : k * n + uk n k c < 3 * n := by
      rcases (show k = 0 ∨ k = 1 ∨ k = 2 by omega) with rfl | rfl | rfl <;> omega
    exact h2 _ hlt j hj e1.1 _ e1.2 e2
theorem fX7_fillLoneSymbols_7 : Cond.fieldLink RX7 7 (TX7 0).1 (TX7 0).2.1 (TX7 0).2.2.1 ∈ wsX7_fillLoneSymbols := List.mem_of_getElem? (i := 1) rfl
theorem iX7_fillLoneSymbols_X7 : ∀ w ∈ wsX70, w ∈ wsX7_fillLoneSymbols := by decide +kernel
theorem fX7_fillLoneSymbols_26 : Cond.fieldLink RX7 26 (TX4 1).1 (TX4 1).2.1 (TX4 1).2.2.1 ∈ wsX7_fillLoneSymbols := List.mem_of_getElem? (i := 2) rfl
theorem iX7_fillLoneSymbols_X4 : ∀ w ∈ wsX40, w ∈ wsX7_fillLoneSymbols := by decide +kernel
theorem fX7_fillLoneSymbols_18 : Cond.fieldLink RX7 18 (TX7 1).1 (TX7 1).2.1 (TX7 1).2.2.1 ∈ wsX7_fillLoneSymbols := List.mem_of_getElem? (i := 3) rfl
set_option maxHeartbeats 4000000 in
set_option maxRecDepth 100000 in
theorem c_X7_fillLoneSymbols {g : ww_G} {l : Launch} {n : Nat} {N : Nat} {aG : Nat} {gr : Nat} {gc : Nat} {gb : Nat} {gu : Nat} {aB : Nat} {aS : Nat} {aR : Nat} {aC : Nat} {aX : Nat} {b : Nat → Option Nat} {aQ : Nat} {A : Nat → Nat} {gv : Nat → Option Nat} (hn : (n = 4 ∧ N = 16) ∨ (n = 6 ∧ N = 36)) (hA : fulA n N A) (hI : invK n N A gv b) : CT g l yX7_fillLoneSymbols wsX7_fillLoneSymbols (ww_rm 3) [.ref aQ] ([(aQ, .inr (8, [.ref aG, .ref aB])), (aG, .inr (5, [.int (nI n), .int (nI N), .int (nI (2 ^ n - 1)), .ref gr, .ref gc, .ref gb, .ref gu])), (gr, .inl (g.2.1, N, .inl (gR n))), (gc, .inl (g.2.1, N, .inl (gC n))), (gb, .inl (g.2.1, N, .inl (gB n))), (aB, .inr (2, [.ref aG, .ref aS, .ref aR, .ref aC, .ref aX])), (aS, .inl (g.2.1, N, .inl (eb b))), (aR, .inl (g.2.1, n, .inl (mR n N b))), (aC, .inl (g.2.1, n, .inl (mC n N b))), (aX, .inl (g.2.1, n, .inl (mB n N b)))]) (S := Prop × (Nat → Option Nat)) (fun v u => v = some (.int (bz u.1)) ∧ (invK n N A gv u.2) ∧ (¬ u.1 → u.2 = b ∧ ∀ c, c < N → ¬ (b c = none ∧ ∀ u, mayP n N b c u → u = A c)) ∧ (u.1 → fil N b < fil N u.2)) (fun u => [(aQ, .inr (8, [.ref aG, .ref aB])), (aG, .inr (5, [.int (nI n), .int (nI N), .int (nI (2 ^ n - 1)), .ref gr, .ref gc, .ref gb, .ref gu])), (gr, .inl (g.2.1, N, .inl (gR n))), (gc, .inl (g.2.1, N, .inl (gC n))), (gb, .inl (g.2.1, N, .inl (gB n))), (aB, .inr (2, [.ref aG, .ref aS, .ref aR, .ref aC, .ref aX])), (aS, .inl (g.2.1, N, .inl (eb u.2))), (aR, .inl (g.2.1, n, .inl (mR n N u.2))), (aC, .inl (g.2.1, n, .inl (mC n N u.2))), (aX, .inl (g.2.1, n, .inl (mB n N u.2)))]) := by
  refine CT.of cX7_fillLoneSymbols 4 (some .boolean) RX7 (by decide +kernel) rfl rfl (Nat.le_of_ble_eq_true rfl) ?_
  intro X hg hl C hret
  subst hg; subst hl
  show RW X 0 0 0 [(0, .ref aQ)] [] [(aQ, .inr (8, [.ref aG, .ref aB])), (aG, .inr (5, [.int (nI n), .int (nI N), .int (nI (2 ^ n - 1)), .ref gr, .ref gc, .ref gb, .ref gu])), (gr, .inl (X.1.2.1, N, .inl (gR n))), (gc, .inl (X.1.2.1, N, .inl (gC n))), (gb, .inl (X.1.2.1, N, .inl (gB n))), (aB, .inr (2, [.ref aG, .ref aS, .ref aR, .ref aC, .ref aX])), (aS, .inl (X.1.2.1, N, .inl (eb b))), (aR, .inl (X.1.2.1, n, .inl (mR n N b))), (aC, .inl (X.1.2.1, n, .inl (mC n N b))), (aX, .inl (X.1.2.1, n, .inl (mB n N b)))]
  refine r_iconst C dX7_fillLoneSymbols_0 (v := bz False) (by rw [bz_f id]; decide) ?_
  refine r_istore_n C dX7_fillLoneSymbols_1 rfl (by decide) [1, 0] (lv' := [(0, .ref aQ), (1, .int (bz False))]) rfl ?_
  refine r_iconst C dX7_fillLoneSymbols_2 (v := nI 0) (by decide) ?_
  refine r_istore_n C dX7_fillLoneSymbols_3 rfl (by decide) [1, 2, 0] (lv' := [(0, .ref aQ), (1, .int (bz False)), (2, .int (nI 0))]) rfl ?_
  have L4 : ∀ (d4 : Nat) (i : Nat) (so : Prop) (b1 : Nat → Option Nat), (N - i) < d4 → (i ≤ N) → (invK n N A gv b1) → (¬ so → b1 = b ∧ ∀ c, c < i → ¬ (b c = none ∧ ∀ u, mayP n N b c u → u = A c)) → (so → fil N b < fil N b1) → RW X 0 0 4 [(0, .ref aQ), (1, .int (bz so)), (2, .int (nI i))] [] [(aQ, .inr (8, [.ref aG, .ref aB])), (aG, .inr (5, [.int (nI n), .int (nI N), .int (nI (2 ^ n - 1)), .ref gr, .ref gc, .ref gb, .ref gu])), (gr, .inl (X.1.2.1, N, .inl (gR n))), (gc, .inl (X.1.2.1, N, .inl (gC n))), (gb, .inl (X.1.2.1, N, .inl (gB n))), (aB, .inr (2, [.ref aG, .ref aS, .ref aR, .ref aC, .ref aX])), (aS, .inl (X.1.2.1, N, .inl (eb b1))), (aR, .inl (X.1.2.1, n, .inl (mR n N b1))), (aC, .inl (X.1.2.1, n, .inl (mC n N b1))), (aX, .inl (X.1.2.1, n, .inl (mB n N b1)))] := by
    intro d4
    induction d4 with
    | zero => intro i so b1 hd4; exact absurd hd4 (Nat.not_lt_zero _)
    | succ d4 ih4 =>
      intro i so b1 hd4 hi hI1 hs0 hs1
      refine r_iload_n C dX7_fillLoneSymbols_4 2 rfl rfl ?_
      refine r_aload_n C dX7_fillLoneSymbols_5 0 rfl rfl ?_
      refine r_get C dX7_fillLoneSymbols_6 iX7_fillLoneSymbols_X7 0 fX7_fillLoneSymbols_7 0 rfl rfl (by decide) rfl ?_
      refine r_get C dX7_fillLoneSymbols_9 iX7_fillLoneSymbols_X4 1 fX7_fillLoneSymbols_26 1 rfl rfl (by decide) rfl ?_
      refine r_icmp_ge (tgt := 63) C dX7_fillLoneSymbols_12 (by decide) (fun h12 => ?_) (fun h12 => ?_)
      · have h12 : N ≤ i := (nI_leI (by omega) (by omega)).mp h12
        refine r_iload_n C dX7_fillLoneSymbols_63 1 rfl rfl ?_
        exact hret _ _ _ (so, b1) ⟨rfl, hI1, fun q => ⟨(hs0 q).1, fun c hc => (hs0 q).2 c (by omega)⟩, hs1⟩ (Or.inr ⟨_, rfl, dX7_fillLoneSymbols_64, Or.inr ⟨rfl, bz_01 _⟩⟩)
      · have h12 : ¬ (N ≤ i) := fun e9 => h12 ((nI_leI (by omega) (by omega)).mpr e9)
        refine r_aload_n C dX7_fillLoneSymbols_15 0 rfl rfl ?_
        refine r_get C dX7_fillLoneSymbols_16 iX7_fillLoneSymbols_X7 1 fX7_fillLoneSymbols_18 0 rfl rfl (by decide) rfl ?_
        refine r_iload_n C dX7_fillLoneSymbols_19 2 rfl rfl ?_
        refine r_callV0 (n := 1) (ws' := fun (u : Unit) => [(aQ, .inr (8, [.ref aG, .ref aB])), (aG, .inr (5, [.int (nI n), .int (nI N), .int (nI (2 ^ n - 1)), .ref gr, .ref gc, .ref gb, .ref gu])), (gr, .inl (X.1.2.1, N, .inl (gR n))), (gc, .inl (X.1.2.1, N, .inl (gC n))), (gb, .inl (X.1.2.1, N, .inl (gB n))), (aB, .inr (2, [.ref aG, .ref aS, .ref aR, .ref aC, .ref aX])), (aS, .inl (X.1.2.1, N, .inl (eb b1))), (aR, .inl (X.1.2.1, n, .inl (mR n N b1))), (aC, .inl (X.1.2.1, n, .inl (mC n N b1))), (aX, .inl (X.1.2.1, n, .inl (mB n N b1)))]) C dX7_fillLoneSymbols_20 (c_X1_isEmpty (g := X.1) (l := X.2.2.1) (N := N) (aG := aG) (aB := aB) (aS := aS) (aR := aR) (aC := aC) (aX := aX) (f := eb b1) (c := i) (hN := (by omega)) (hc := (by omega))) gX7_fillLoneSymbols_X1_isEmpty rfl (by decide +kernel) rfl ⟨Nat.le_of_ble_eq_true rfl, Nat.le_of_ble_eq_true rfl⟩ ⟨rfl, rfl⟩ ⟨Nat.zero_le _, Nat.zero_le _⟩ (rest := []) rfl (Nat.le_of_ble_eq_true rfl) 0 rfl rfl [5, 6] (by decide) rfl (fun u => Eq.trans (b := [aB, aS]) rfl rfl) (fun u => rfl) (fun v u hp => ?_)
        obtain rfl := hp
        show RW X 0 0 23 [(0, .ref aQ), (1, .int (bz so)), (2, .int (nI i))] [.int (bz ((eb b1) i < 0))] [(aQ, .inr (8, [.ref aG, .ref aB])), (aG, .inr (5, [.int (nI n), .int (nI N), .int (nI (2 ^ n - 1)), .ref gr, .ref gc, .ref gb, .ref gu])), (gr, .inl (X.1.2.1, N, .inl (gR n))), (gc, .inl (X.1.2.1, N, .inl (gC n))), (gb, .inl (X.1.2.1, N, .inl (gB n))), (aB, .inr (2, [.ref aG, .ref aS, .ref aR, .ref aC, .ref aX])), (aS, .inl (X.1.2.1, N, .inl (eb b1))), (aR, .inl (X.1.2.1, n, .inl (mR n N b1))), (aC, .inl (X.1.2.1, n, .inl (mC n N b1))), (aX, .inl (X.1.2.1, n, .inl (mB n N b1)))]
        refine r_if_eq (tgt := 57) C dX7_fillLoneSymbols_23 (by decide) (fun h23 => ?_) (fun h23 => ?_)
        · have h23 : ¬ ((eb b1) i < 0) := bz_0.mp h23
          refine r_iinc C dX7_fillLoneSymbols_57 2 rfl (v := nI (i + 1)) (nI_add _ _) (by decide) [1, 2, 0] (lv' := [(0, .ref aQ), (1, .int (bz so)), (2, .int (nI (i + 1)))]) rfl ?_
          refine r_goto (tgt := 4) C dX7_fillLoneSymbols_60 (by decide) ?_
          exact ih4 (i + 1) so b1 (by omega) (by omega) hI1 (fun q => ⟨(hs0 q).1, fun c hc => by
                        by_cases e : c = i
                        · rw [e]; intro w; rw [← (hs0 q).1] at w; exact h23 (by show eo (b1 i) < 0; rw [w.1]; decide)
                        · exact (hs0 q).2 c (by omega)⟩) hs1
        · have h23 : (eb b1) i < 0 := bz_n0.mp h23
          have h0i : b1 i = none := subA_none hA hI1.1 hn (by omega) h23
          refine r_aload_n C dX7_fillLoneSymbols_26 0 rfl rfl ?_
          refine r_get C dX7_fillLoneSymbols_27 iX7_fillLoneSymbols_X7 1 fX7_fillLoneSymbols_18 0 rfl rfl (by decide) rfl ?_
          refine r_iload_n C dX7_fillLoneSymbols_30 2 rfl rfl ?_
          refine r_callV0 (n := 1) (ws' := fun (u : Unit) => [(aQ, .inr (8, [.ref aG, .ref aB])), (aG, .inr (5, [.int (nI n), .int (nI N), .int (nI (2 ^ n - 1)), .ref gr, .ref gc, .ref gb, .ref gu])), (gr, .inl (X.1.2.1, N, .inl (gR n))), (gc, .inl (X.1.2.1, N, .inl (gC n))), (gb, .inl (X.1.2.1, N, .inl (gB n))), (aB, .inr (2, [.ref aG, .ref aS, .ref aR, .ref aC, .ref aX])), (aS, .inl (X.1.2.1, N, .inl (eb b1))), (aR, .inl (X.1.2.1, n, .inl (mR n N b1))), (aC, .inl (X.1.2.1, n, .inl (mC n N b1))), (aX, .inl (X.1.2.1, n, .inl (mB n N b1)))]) C dX7_fillLoneSymbols_31 (c_X1_may (g := X.1) (l := X.2.2.1) (n := n) (N := N) (aG := aG) (gr := gr) (gc := gc) (gb := gb) (gu := gu) (aB := aB) (aS := aS) (aR := aR) (aC := aC) (aX := aX) (b := b1) (c := i) (hn := (by first | assumption | omega)) (hc := (by first | assumption | omega))) gX7_fillLoneSymbols_X1_may rfl (by decide +kernel) rfl ⟨Nat.le_of_ble_eq_true rfl, Nat.le_of_ble_eq_true rfl⟩ ⟨rfl, rfl⟩ ⟨Nat.zero_le _, Nat.zero_le _⟩ (rest := []) rfl (Nat.le_of_ble_eq_true rfl) 4 rfl rfl [1, 2, 3, 4, 5, 6, 7, 8, 9] (by decide) rfl (fun u => Eq.trans (b := [aG, gr, gc, gb, aB, aS, aR, aC, aX]) rfl rfl) (fun u => rfl) (fun v u hp => ?_)
          obtain rfl := hp
          show RW X 0 0 34 [(0, .ref aQ), (1, .int (bz so)), (2, .int (nI i))] [.int (nI (mkN (mayP n N b1 i)))] [(aQ, .inr (8, [.ref aG, .ref aB])), (aG, .inr (5, [.int (nI n), .int (nI N), .int (nI (2 ^ n - 1)), .ref gr, .ref gc, .ref gb, .ref gu])), (gr, .inl (X.1.2.1, N, .inl (gR n))), (gc, .inl (X.1.2.1, N, .inl (gC n))), (gb, .inl (X.1.2.1, N, .inl (gB n))), (aB, .inr (2, [.ref aG, .ref aS, .ref aR, .ref aC, .ref aX])), (aS, .inl (X.1.2.1, N, .inl (eb b1))), (aR, .inl (X.1.2.1, n, .inl (mR n N b1))), (aC, .inl (X.1.2.1, n, .inl (mC n N b1))), (aX, .inl (X.1.2.1, n, .inl (mB n N b1)))]
          refine r_istore_n C dX7_fillLoneSymbols_34 rfl (by decide) [1, 2, 3, 0] (lv' := [(0, .ref aQ), (1, .int (bz so)), (2, .int (nI i)), (3, .int (nI (mkN (mayP n N b1 i))))]) rfl ?_
          refine r_iload_n C dX7_fillLoneSymbols_35 3 rfl rfl ?_
          refine r_callS0 (n := 1) (ws' := fun (u : Unit) => [(aQ, .inr (8, [.ref aG, .ref aB])), (aG, .inr (5, [.int (nI n), .int (nI N), .int (nI (2 ^ n - 1)), .ref gr, .ref gc, .ref gb, .ref gu])), (gr, .inl (X.1.2.1, N, .inl (gR n))), (gc, .inl (X.1.2.1, N, .inl (gC n))), (gb, .inl (X.1.2.1, N, .inl (gB n))), (aB, .inr (2, [.ref aG, .ref aS, .ref aR, .ref aC, .ref aX])), (aS, .inl (X.1.2.1, N, .inl (eb b1))), (aR, .inl (X.1.2.1, n, .inl (mR n N b1))), (aC, .inl (X.1.2.1, n, .inl (mC n N b1))), (aX, .inl (X.1.2.1, n, .inl (mB n N b1)))]) C dX7_fillLoneSymbols_36 (c_J6_bitCount_0f7a4 (g := X.1) (l := X.2.2.1) (m := mkN (mayP n N b1 i)) (hm := (mkN_lt _))) gX7_fillLoneSymbols_J6_bitCount_0f7a4 rfl (by decide +kernel) rfl ⟨Nat.le_of_ble_eq_true rfl, Nat.le_of_ble_eq_true rfl⟩ ⟨rfl, rfl⟩ ⟨Nat.zero_le _, Nat.zero_le _⟩ (rest := []) rfl (Nat.le_of_ble_eq_true rfl) [] (by decide) rfl (fun u => Eq.trans (b := []) rfl rfl) (fun u => rfl) (fun v u hp => ?_)
          obtain rfl := hp
          show RW X 0 0 39 [(0, .ref aQ), (1, .int (bz so)), (2, .int (nI i)), (3, .int (nI (mkN (mayP n N b1 i))))] [.int (nI (pcb (mkN (mayP n N b1 i)) 6))] [(aQ, .inr (8, [.ref aG, .ref aB])), (aG, .inr (5, [.int (nI n), .int (nI N), .int (nI (2 ^ n - 1)), .ref gr, .ref gc, .ref gb, .ref gu])), (gr, .inl (X.1.2.1, N, .inl (gR n))), (gc, .inl (X.1.2.1, N, .inl (gC n))), (gb, .inl (X.1.2.1, N, .inl (gB n))), (aB, .inr (2, [.ref aG, .ref aS, .ref aR, .ref aC, .ref aX])), (aS, .inl (X.1.2.1, N, .inl (eb b1))), (aR, .inl (X.1.2.1, n, .inl (mR n N b1))), (aC, .inl (X.1.2.1, n, .inl (mC n N b1))), (aX, .inl (X.1.2.1, n, .inl (mB n N b1)))]
          have hpl := pcb_le (m := mkN (mayP n N b1 i)) 6
          refine r_iconst C dX7_fillLoneSymbols_39 (v := nI 1) (by decide) ?_
          refine r_icmp_ne (tgt := 57) C dX7_fillLoneSymbols_40 (by decide) (fun h40 => ?_) (fun h40 => ?_)
          · have h40 : ¬ ((pcb (mkN (mayP n N b1 i)) 6) = 1) := fun e9 => h40 ((nI_eq (by omega) (by omega)).mpr e9)
            refine r_iinc C dX7_fillLoneSymbols_57 2 rfl (v := nI (i + 1)) (nI_add _ _) (by decide) [1, 2, 0, 3] (lv' := [(0, .ref aQ), (1, .int (bz so)), (2, .int (nI (i + 1))), (3, .int (nI (mkN (mayP n N b1 i))))]) rfl ?_
            refine r_goto (tgt := 4) C dX7_fillLoneSymbols_60 (by decide) ?_
            refine r_lv [0, 1, 2] (lv' := [(0, .ref aQ), (1, .int (bz so)), (2, .int (nI (i + 1)))]) rfl ?_
            exact ih4 (i + 1) so b1 (by omega) (by omega) hI1 (fun q => ⟨(hs0 q).1, fun c hc => by
                          by_cases e : c = i
                          · rw [e]; intro w; rw [← (hs0 q).1] at w; exact nak_n hn hA hI1.1 (by omega) h0i h40 w.2
                          · exact (hs0 q).2 c (by omega)⟩) hs1
          · have h40 : (pcb (mkN (mayP n N b1 i)) 6) = 1 := (nI_eq (by omega) (by omega)).mp h40
            refine r_aload_n C dX7_fillLoneSymbols_43 0 rfl rfl ?_
            refine r_get C dX7_fillLoneSymbols_44 iX7_fillLoneSymbols_X7 1 fX7_fillLoneSymbols_18 0 rfl rfl (by decide) rfl ?_
            refine r_iload_n C dX7_fillLoneSymbols_47 2 rfl rfl ?_
            refine r_iload_n C dX7_fillLoneSymbols_48 3 rfl rfl ?_
            have hnk := nak_1 hn hA hI1.1 (show i < N by omega) h0i h40
            refine r_callS0 (n := 1) (ws' := fun (u : Unit) => [(aQ, .inr (8, [.ref aG, .ref aB])), (aG, .inr (5, [.int (nI n), .int (nI N), .int (nI (2 ^ n - 1)), .ref gr, .ref gc, .ref gb, .ref gu])), (gr, .inl (X.1.2.1, N, .inl (gR n))), (gc, .inl (X.1.2.1, N, .inl (gC n))), (gb, .inl (X.1.2.1, N, .inl (gB n))), (aB, .inr (2, [.ref aG, .ref aS, .ref aR, .ref aC, .ref aX])), (aS, .inl (X.1.2.1, N, .inl (eb b1))), (aR, .inl (X.1.2.1, n, .inl (mR n N b1))), (aC, .inl (X.1.2.1, n, .inl (mC n N b1))), (aX, .inl (X.1.2.1, n, .inl (mB n N b1)))]) C dX7_fillLoneSymbols_49 (c_J6_numberOfTrailingZeros_0f7a4 (g := X.1) (l := X.2.2.1) (m := mkN (mayP n N b1 i)) (hm := (mkN_lt _)) (h0m := hnk.2.1)) gX7_fillLoneSymbols_J6_numberOfTrailingZeros_0f7a4 rfl (by decide +kernel) rfl ⟨Nat.le_of_ble_eq_true rfl, Nat.le_of_ble_eq_true rfl⟩ ⟨rfl, rfl⟩ ⟨Nat.zero_le _, Nat.zero_le _⟩ (rest := [.int (nI i), .ref aB]) rfl (Nat.le_of_ble_eq_true rfl) [] (by decide) rfl (fun u => Eq.trans (b := []) rfl rfl) (fun u => rfl) (fun v u hp => ?_)
            obtain rfl := hp
            show RW X 0 0 52 [(0, .ref aQ), (1, .int (bz so)), (2, .int (nI i)), (3, .int (nI (mkN (mayP n N b1 i))))] [.int (nI (ntz (mkN (mayP n N b1 i)))), .int (nI i), .ref aB] [(aQ, .inr (8, [.ref aG, .ref aB])), (aG, .inr (5, [.int (nI n), .int (nI N), .int (nI (2 ^ n - 1)), .ref gr, .ref gc, .ref gb, .ref gu])), (gr, .inl (X.1.2.1, N, .inl (gR n))), (gc, .inl (X.1.2.1, N, .inl (gC n))), (gb, .inl (X.1.2.1, N, .inl (gB n))), (aB, .inr (2, [.ref aG, .ref aS, .ref aR, .ref aC, .ref aX])), (aS, .inl (X.1.2.1, N, .inl (eb b1))), (aR, .inl (X.1.2.1, n, .inl (mR n N b1))), (aC, .inl (X.1.2.1, n, .inl (mC n N b1))), (aX, .inl (X.1.2.1, n, .inl (mB n N b1)))]
            refine r_callV0 (n := 2) (ws' := fun (u : Unit) => [(aQ, .inr (8, [.ref aG, .ref aB])), (aG, .inr (5, [.int (nI n), .int (nI N), .int (nI (2 ^ n - 1)), .ref gr, .ref gc, .ref gb, .ref gu])), (gr, .inl (X.1.2.1, N, .inl (gR n))), (gc, .inl (X.1.2.1, N, .inl (gC n))), (gb, .inl (X.1.2.1, N, .inl (gB n))), (aB, .inr (2, [.ref aG, .ref aS, .ref aR, .ref aC, .ref aX])), (aS, .inl (X.1.2.1, N, .inl (eb (ub b1 i (some (ntz (mkN (mayP n N b1 i)))))))), (aR, .inl (X.1.2.1, n, .inl (mR n N (ub b1 i (some (ntz (mkN (mayP n N b1 i)))))))), (aC, .inl (X.1.2.1, n, .inl (mC n N (ub b1 i (some (ntz (mkN (mayP n N b1 i)))))))), (aX, .inl (X.1.2.1, n, .inl (mB n N (ub b1 i (some (ntz (mkN (mayP n N b1 i))))))))]) C dX7_fillLoneSymbols_52 (c_X1_put (g := X.1) (l := X.2.2.1) (n := n) (N := N) (aG := aG) (gr := gr) (gc := gc) (gb := gb) (gu := gu) (aB := aB) (aS := aS) (aR := aR) (aC := aC) (aX := aX) (b := b1) (c := i) (v := ntz (mkN (mayP n N b1 i))) (hn := (by first | assumption | omega)) (hc := (by first | assumption | omega)) (h0 := h0i) (hm := (by rw [hnk.2.2]; exact may_A hA hI1.1 (by omega) h0i))) gX7_fillLoneSymbols_X1_put rfl (by decide +kernel) rfl ⟨Nat.le_of_ble_eq_true rfl, Nat.le_of_ble_eq_true rfl⟩ ⟨rfl, rfl⟩ ⟨Nat.zero_le _, Nat.zero_le _⟩ (rest := []) rfl (Nat.le_of_ble_eq_true rfl) 4 rfl rfl [1, 2, 3, 4, 5, 6, 7, 8, 9] (by decide) rfl (fun u => Eq.trans (b := [aG, gr, gc, gb, aB, aS, aR, aC, aX]) rfl rfl) (fun u => rfl) (fun v u hp => ?_)
            obtain rfl := hp
            show RW X 0 0 55 [(0, .ref aQ), (1, .int (bz so)), (2, .int (nI i)), (3, .int (nI (mkN (mayP n N b1 i))))] [] [(aQ, .inr (8, [.ref aG, .ref aB])), (aG, .inr (5, [.int (nI n), .int (nI N), .int (nI (2 ^ n - 1)), .ref gr, .ref gc, .ref gb, .ref gu])), (gr, .inl (X.1.2.1, N, .inl (gR n))), (gc, .inl (X.1.2.1, N, .inl (gC n))), (gb, .inl (X.1.2.1, N, .inl (gB n))), (aB, .inr (2, [.ref aG, .ref aS, .ref aR, .ref aC, .ref aX])), (aS, .inl (X.1.2.1, N, .inl (eb (ub b1 i (some (ntz (mkN (mayP n N b1 i)))))))), (aR, .inl (X.1.2.1, n, .inl (mR n N (ub b1 i (some (ntz (mkN (mayP n N b1 i)))))))), (aC, .inl (X.1.2.1, n, .inl (mC n N (ub b1 i (some (ntz (mkN (mayP n N b1 i)))))))), (aX, .inl (X.1.2.1, n, .inl (mB n N (ub b1 i (some (ntz (mkN (mayP n N b1 i))))))))]
            refine r_iconst C dX7_fillLoneSymbols_55 (v := bz True) (by rw [bz_t trivial]; decide) ?_
            refine r_istore_n C dX7_fillLoneSymbols_56 rfl (by decide) [1, 0, 2, 3] (lv' := [(0, .ref aQ), (1, .int (bz True)), (2, .int (nI i)), (3, .int (nI (mkN (mayP n N b1 i))))]) rfl ?_
            refine r_iinc C dX7_fillLoneSymbols_57 2 rfl (v := nI (i + 1)) (nI_add _ _) (by decide) [1, 2, 0, 3] (lv' := [(0, .ref aQ), (1, .int (bz True)), (2, .int (nI (i + 1))), (3, .int (nI (mkN (mayP n N b1 i))))]) rfl ?_
            refine r_goto (tgt := 4) C dX7_fillLoneSymbols_60 (by decide) ?_
            refine r_lv [0, 1, 2] (lv' := [(0, .ref aQ), (1, .int (bz True)), (2, .int (nI (i + 1)))]) rfl ?_
            exact ih4 (i + 1) True (ub b1 i (some (ntz (mkN (mayP n N b1 i))))) (by omega) (by omega) (by rw [hnk.2.2]; exact invK_put hI1 (clo_of hI1 ⟨by omega, h0i, Or.inl hnk.1⟩)) (fun q => absurd trivial q) (fun _ => by rw [fil_put (by omega) h0i]; exact fil_lt hs0 hs1)
  exact L4 ((N - 0) + 1) 0 False b (Nat.lt_succ_self _) (Nat.zero_le _) hI (fun _ => ⟨rfl, fun c q => absurd q (Nat.not_lt_zero c)⟩) False.elim
theorem fX7_symbolsOfOneCell_18 : Cond.fieldLink RX7 18 (TX7 1).1 (TX7 1).2.1 (TX7 1).2.2.1 ∈ wsX7_symbolsOfOneCell := List.mem_of_getElem? (i := 1) rfl
theorem iX7_symbolsOfOneCell_X7 : ∀ w ∈ wsX70, w ∈ wsX7_symbolsOfOneCell := by decide +kernel
set_option maxHeartbeats 4000000 in
set_option maxRecDepth 100000 in
theorem c_X7_symbolsOfOneCell {g : ww_G} {l : Launch} {n : Nat} {N : Nat} {aG : Nat} {gr : Nat} {gc : Nat} {gb : Nat} {gu : Nat} {aB : Nat} {aS : Nat} {aR : Nat} {aC : Nat} {aX : Nat} {b : Nat → Option Nat} {aQ : Nat} {A : Nat → Nat} {gv : Nat → Option Nat} {aU : Nat} {uf : Nat → Nat} (hn : (n = 4 ∧ N = 16) ∨ (n = 6 ∧ N = 36)) (hA : fulA n N A) (hI : invK n N A gv b) (huf : ∀ j, j < n → uf j < N) : CT g l yX7_symbolsOfOneCell wsX7_symbolsOfOneCell (ww_rm 2) [.ref aQ, .ref aU] ([(aQ, .inr (8, [.ref aG, .ref aB])), (aG, .inr (5, [.int (nI n), .int (nI N), .int (nI (2 ^ n - 1)), .ref gr, .ref gc, .ref gb, .ref gu])), (gr, .inl (g.2.1, N, .inl (gR n))), (gc, .inl (g.2.1, N, .inl (gC n))), (gb, .inl (g.2.1, N, .inl (gB n))), (aB, .inr (2, [.ref aG, .ref aS, .ref aR, .ref aC, .ref aX])), (aS, .inl (g.2.1, N, .inl (eb b))), (aR, .inl (g.2.1, n, .inl (mR n N b))), (aC, .inl (g.2.1, n, .inl (mC n N b))), (aX, .inl (g.2.1, n, .inl (mB n N b))), (aU, .inl (g.2.1, n, .inl (nO uf)))]) (S := Unit) (fun v u => v = some (.int (nI (mkN (loneP n N b uf n))))) (fun u => [(aQ, .inr (8, [.ref aG, .ref aB])), (aG, .inr (5, [.int (nI n), .int (nI N), .int (nI (2 ^ n - 1)), .ref gr, .ref gc, .ref gb, .ref gu])), (gr, .inl (g.2.1, N, .inl (gR n))), (gc, .inl (g.2.1, N, .inl (gC n))), (gb, .inl (g.2.1, N, .inl (gB n))), (aB, .inr (2, [.ref aG, .ref aS, .ref aR, .ref aC, .ref aX])), (aS, .inl (g.2.1, N, .inl (eb b))), (aR, .inl (g.2.1, n, .inl (mR n N b))), (aC, .inl (g.2.1, n, .inl (mC n N b))), (aX, .inl (g.2.1, n, .inl (mB n N b))), (aU, .inl (g.2.1, n, .inl (nO uf)))]) := by
  refine CT.of cX7_symbolsOfOneCell 6 (some .int) RX7 (by decide +kernel) rfl rfl (Nat.le_of_ble_eq_true rfl) ?_
  intro X hg hl C hret
  subst hg; subst hl
  show RW X 0 0 0 [(0, .ref aQ), (1, .ref aU)] [] [(aQ, .inr (8, [.ref aG, .ref aB])), (aG, .inr (5, [.int (nI n), .int (nI N), .int (nI (2 ^ n - 1)), .ref gr, .ref gc, .ref gb, .ref gu])), (gr, .inl (X.1.2.1, N, .inl (gR n))), (gc, .inl (X.1.2.1, N, .inl (gC n))), (gb, .inl (X.1.2.1, N, .inl (gB n))), (aB, .inr (2, [.ref aG, .ref aS, .ref aR, .ref aC, .ref aX])), (aS, .inl (X.1.2.1, N, .inl (eb b))), (aR, .inl (X.1.2.1, n, .inl (mR n N b))), (aC, .inl (X.1.2.1, n, .inl (mC n N b))), (aX, .inl (X.1.2.1, n, .inl (mB n N b))), (aU, .inl (X.1.2.1, n, .inl (nO uf)))]
  refine r_iconst C dX7_symbolsOfOneCell_0 (v := nI (mkN (onceP n N b uf 0))) (by rw [mkN_0 (fun v ⟨j, q, _⟩ => absurd q (Nat.not_lt_zero j))]; decide) ?_
  refine r_istore_n C dX7_symbolsOfOneCell_1 rfl (by decide) [1, 2, 0] (lv' := [(0, .ref aQ), (1, .ref aU), (2, .int (nI (mkN (onceP n N b uf 0))))]) rfl ?_
  refine r_iconst C dX7_symbolsOfOneCell_2 (v := nI (mkN (twiceP n N b uf 0))) (by rw [mkN_0 (fun v ⟨j1, j2, _, q, _⟩ => absurd q (Nat.not_lt_zero j2))]; decide) ?_
  refine r_istore_n C dX7_symbolsOfOneCell_3 rfl (by decide) [1, 2, 3, 0] (lv' := [(0, .ref aQ), (1, .ref aU), (2, .int (nI (mkN (onceP n N b uf 0)))), (3, .int (nI (mkN (twiceP n N b uf 0))))]) rfl ?_
  refine r_iconst C dX7_symbolsOfOneCell_4 (v := nI 0) (by decide) ?_
  refine r_istore C dX7_symbolsOfOneCell_5 (by decide) [1, 2, 3, 4, 0] (lv' := [(0, .ref aQ), (1, .ref aU), (2, .int (nI (mkN (onceP n N b uf 0)))), (3, .int (nI (mkN (twiceP n N b uf 0)))), (4, .int (nI 0))]) rfl ?_
  have L7 : ∀ (d7 : Nat) (i : Nat), (n - i) < d7 → (i ≤ n) → RW X 0 0 7 [(0, .ref aQ), (1, .ref aU), (2, .int (nI (mkN (onceP n N b uf i)))), (3, .int (nI (mkN (twiceP n N b uf i)))), (4, .int (nI i))] [] [(aQ, .inr (8, [.ref aG, .ref aB])), (aG, .inr (5, [.int (nI n), .int (nI N), .int (nI (2 ^ n - 1)), .ref gr, .ref gc, .ref gb, .ref gu])), (gr, .inl (X.1.2.1, N, .inl (gR n))), (gc, .inl (X.1.2.1, N, .inl (gC n))), (gb, .inl (X.1.2.1, N, .inl (gB n))), (aB, .inr (2, [.ref aG, .ref aS, .ref aR, .ref aC, .ref aX])), (aS, .inl (X.1.2.1, N, .inl (eb b))), (aR, .inl (X.1.2.1, n, .inl (mR n N b))), (aC, .inl (X.1.2.1, n, .inl (mC n N b))), (aX, .inl (X.1.2.1, n, .inl (mB n N b))), (aU, .inl (X.1.2.1, n, .inl (nO uf)))] := by
    intro d7
    induction d7 with
    | zero => intro i hd7; exact absurd hd7 (Nat.not_lt_zero _)
    | succ d7 ih7 =>
      intro i hd7 hi
      refine r_iload C dX7_symbolsOfOneCell_7 4 rfl ?_
      refine r_aload_n C dX7_symbolsOfOneCell_9 1 rfl rfl ?_
      refine r_alen C dX7_symbolsOfOneCell_10 10 0 rfl rfl (v := nI n) rfl ?_
      refine r_icmp_ge (tgt := 59) C dX7_symbolsOfOneCell_11 (by decide) (fun h11 => ?_) (fun h11 => ?_)
      · have h11 : n ≤ i := (nI_leI (by omega) (by omega)).mp h11
        refine r_iload_n C dX7_symbolsOfOneCell_59 2 rfl rfl ?_
        refine r_iload_n C dX7_symbolsOfOneCell_60 3 rfl rfl ?_
        refine r_iconst C dX7_symbolsOfOneCell_61 (v := (-1)) (by decide) ?_
        refine r_ixor C dX7_symbolsOfOneCell_62 (v := nI (mkN (twiceP n N b uf i)) ^^^ (-1)) rfl ?_
        refine r_iand C dX7_symbolsOfOneCell_63 (v := nI (mkN (loneP n N b uf i))) lone_m ?_
        refine r_top (y := nI (mkN (loneP n N b uf n))) (by rw [show i = n by omega]) ?_
        exact hret _ _ _ () rfl (Or.inr ⟨_, rfl, dX7_symbolsOfOneCell_64, Or.inl rfl⟩)
      · have h11 : ¬ (n ≤ i) := fun e9 => h11 ((nI_leI (by omega) (by omega)).mpr e9)
        have hufi := huf i (by omega)
        refine r_aload_n C dX7_symbolsOfOneCell_14 0 rfl rfl ?_
        refine r_get C dX7_symbolsOfOneCell_15 iX7_symbolsOfOneCell_X7 1 fX7_symbolsOfOneCell_18 0 rfl rfl (by decide) rfl ?_
        refine r_aload_n C dX7_symbolsOfOneCell_18 1 rfl rfl ?_
        refine r_iload C dX7_symbolsOfOneCell_19 4 rfl ?_
        refine r_iald C dX7_symbolsOfOneCell_21 10 rfl (by omega) (by omega) ?_
        show RW X 0 0 22 [(0, .ref aQ), (1, .ref aU), (2, .int (nI (mkN (onceP n N b uf i)))), (3, .int (nI (mkN (twiceP n N b uf i)))), (4, .int (nI i))] [.int (nI (uf i)), .ref aB] [(aQ, .inr (8, [.ref aG, .ref aB])), (aG, .inr (5, [.int (nI n), .int (nI N), .int (nI (2 ^ n - 1)), .ref gr, .ref gc, .ref gb, .ref gu])), (gr, .inl (X.1.2.1, N, .inl (gR n))), (gc, .inl (X.1.2.1, N, .inl (gC n))), (gb, .inl (X.1.2.1, N, .inl (gB n))), (aB, .inr (2, [.ref aG, .ref aS, .ref aR, .ref aC, .ref aX])), (aS, .inl (X.1.2.1, N, .inl (eb b))), (aR, .inl (X.1.2.1, n, .inl (mR n N b))), (aC, .inl (X.1.2.1, n, .inl (mC n N b))), (aX, .inl (X.1.2.1, n, .inl (mB n N b))), (aU, .inl (X.1.2.1, n, .inl (nO uf)))]
        refine r_callV0 (n := 1) (ws' := fun (u : Unit) => [(aQ, .inr (8, [.ref aG, .ref aB])), (aG, .inr (5, [.int (nI n), .int (nI N), .int (nI (2 ^ n - 1)), .ref gr, .ref gc, .ref gb, .ref gu])), (gr, .inl (X.1.2.1, N, .inl (gR n))), (gc, .inl (X.1.2.1, N, .inl (gC n))), (gb, .inl (X.1.2.1, N, .inl (gB n))), (aB, .inr (2, [.ref aG, .ref aS, .ref aR, .ref aC, .ref aX])), (aS, .inl (X.1.2.1, N, .inl (eb b))), (aR, .inl (X.1.2.1, n, .inl (mR n N b))), (aC, .inl (X.1.2.1, n, .inl (mC n N b))), (aX, .inl (X.1.2.1, n, .inl (mB n N b))), (aU, .inl (X.1.2.1, n, .inl (nO uf)))]) C dX7_symbolsOfOneCell_22 (c_X1_isEmpty (g := X.1) (l := X.2.2.1) (N := N) (aG := aG) (aB := aB) (aS := aS) (aR := aR) (aC := aC) (aX := aX) (f := eb b) (c := uf i) (hN := (by omega)) (hc := hufi)) gX7_symbolsOfOneCell_X1_isEmpty rfl (by decide +kernel) rfl ⟨Nat.le_of_ble_eq_true rfl, Nat.le_of_ble_eq_true rfl⟩ ⟨rfl, rfl⟩ ⟨Nat.zero_le _, Nat.zero_le _⟩ (rest := []) rfl (Nat.le_of_ble_eq_true rfl) 0 rfl rfl [5, 6] (by decide) rfl (fun u => Eq.trans (b := [aB, aS]) rfl rfl) (fun u => rfl) (fun v u hp => ?_)
        obtain rfl := hp
        show RW X 0 0 25 [(0, .ref aQ), (1, .ref aU), (2, .int (nI (mkN (onceP n N b uf i)))), (3, .int (nI (mkN (twiceP n N b uf i)))), (4, .int (nI i))] [.int (bz ((eb b) (uf i) < 0))] [(aQ, .inr (8, [.ref aG, .ref aB])), (aG, .inr (5, [.int (nI n), .int (nI N), .int (nI (2 ^ n - 1)), .ref gr, .ref gc, .ref gb, .ref gu])), (gr, .inl (X.1.2.1, N, .inl (gR n))), (gc, .inl (X.1.2.1, N, .inl (gC n))), (gb, .inl (X.1.2.1, N, .inl (gB n))), (aB, .inr (2, [.ref aG, .ref aS, .ref aR, .ref aC, .ref aX])), (aS, .inl (X.1.2.1, N, .inl (eb b))), (aR, .inl (X.1.2.1, n, .inl (mR n N b))), (aC, .inl (X.1.2.1, n, .inl (mC n N b))), (aX, .inl (X.1.2.1, n, .inl (mB n N b))), (aU, .inl (X.1.2.1, n, .inl (nO uf)))]
        refine r_if_eq (tgt := 53) C dX7_symbolsOfOneCell_25 (by decide) (fun h25 => ?_) (fun h25 => ?_)
        · have h25 : ¬ ((eb b) (uf i) < 0) := bz_0.mp h25
          refine r_iinc C dX7_symbolsOfOneCell_53 4 rfl (v := nI (i + 1)) (nI_add _ _) (by decide) [1, 2, 3, 4, 0] (lv' := [(0, .ref aQ), (1, .ref aU), (2, .int (nI (mkN (onceP n N b uf i)))), (3, .int (nI (mkN (twiceP n N b uf i)))), (4, .int (nI (i + 1)))]) rfl ?_
          refine r_goto (tgt := 7) C dX7_symbolsOfOneCell_56 (by decide) ?_
          have hne : b (uf i) ≠ none := fun w => h25 (by show eo (b (uf i)) < 0; rw [w]; decide)
          rw [once_N hne, twice_N hne]
          exact ih7 (i + 1) (by omega) (by omega)
        · have h25 : (eb b) (uf i) < 0 := bz_n0.mp h25
          have h0i : b (uf i) = none := subA_none hA hI.1 hn hufi h25
          refine r_aload_n C dX7_symbolsOfOneCell_28 0 rfl rfl ?_
          refine r_get C dX7_symbolsOfOneCell_29 iX7_symbolsOfOneCell_X7 1 fX7_symbolsOfOneCell_18 0 rfl rfl (by decide) rfl ?_
          refine r_aload_n C dX7_symbolsOfOneCell_32 1 rfl rfl ?_
          refine r_iload C dX7_symbolsOfOneCell_33 4 rfl ?_
          refine r_iald C dX7_symbolsOfOneCell_35 10 rfl (by omega) (by omega) ?_
          show RW X 0 0 36 [(0, .ref aQ), (1, .ref aU), (2, .int (nI (mkN (onceP n N b uf i)))), (3, .int (nI (mkN (twiceP n N b uf i)))), (4, .int (nI i))] [.int (nI (uf i)), .ref aB] [(aQ, .inr (8, [.ref aG, .ref aB])), (aG, .inr (5, [.int (nI n), .int (nI N), .int (nI (2 ^ n - 1)), .ref gr, .ref gc, .ref gb, .ref gu])), (gr, .inl (X.1.2.1, N, .inl (gR n))), (gc, .inl (X.1.2.1, N, .inl (gC n))), (gb, .inl (X.1.2.1, N, .inl (gB n))), (aB, .inr (2, [.ref aG, .ref aS, .ref aR, .ref aC, .ref aX])), (aS, .inl (X.1.2.1, N, .inl (eb b))), (aR, .inl (X.1.2.1, n, .inl (mR n N b))), (aC, .inl (X.1.2.1, n, .inl (mC n N b))), (aX, .inl (X.1.2.1, n, .inl (mB n N b))), (aU, .inl (X.1.2.1, n, .inl (nO uf)))]
          refine r_callV0 (n := 1) (ws' := fun (u : Unit) => [(aQ, .inr (8, [.ref aG, .ref aB])), (aG, .inr (5, [.int (nI n), .int (nI N), .int (nI (2 ^ n - 1)), .ref gr, .ref gc, .ref gb, .ref gu])), (gr, .inl (X.1.2.1, N, .inl (gR n))), (gc, .inl (X.1.2.1, N, .inl (gC n))), (gb, .inl (X.1.2.1, N, .inl (gB n))), (aB, .inr (2, [.ref aG, .ref aS, .ref aR, .ref aC, .ref aX])), (aS, .inl (X.1.2.1, N, .inl (eb b))), (aR, .inl (X.1.2.1, n, .inl (mR n N b))), (aC, .inl (X.1.2.1, n, .inl (mC n N b))), (aX, .inl (X.1.2.1, n, .inl (mB n N b))), (aU, .inl (X.1.2.1, n, .inl (nO uf)))]) C dX7_symbolsOfOneCell_36 (c_X1_may (g := X.1) (l := X.2.2.1) (n := n) (N := N) (aG := aG) (gr := gr) (gc := gc) (gb := gb) (gu := gu) (aB := aB) (aS := aS) (aR := aR) (aC := aC) (aX := aX) (b := b) (c := uf i) (hn := (by first | assumption | omega)) (hc := hufi)) gX7_symbolsOfOneCell_X1_may rfl (by decide +kernel) rfl ⟨Nat.le_of_ble_eq_true rfl, Nat.le_of_ble_eq_true rfl⟩ ⟨rfl, rfl⟩ ⟨Nat.zero_le _, Nat.zero_le _⟩ (rest := []) rfl (Nat.le_of_ble_eq_true rfl) 4 rfl rfl [1, 2, 3, 4, 5, 6, 7, 8, 9] (by decide) rfl (fun u => Eq.trans (b := [aG, gr, gc, gb, aB, aS, aR, aC, aX]) rfl rfl) (fun u => rfl) (fun v u hp => ?_)
          obtain rfl := hp
          show RW X 0 0 39 [(0, .ref aQ), (1, .ref aU), (2, .int (nI (mkN (onceP n N b uf i)))), (3, .int (nI (mkN (twiceP n N b uf i)))), (4, .int (nI i))] [.int (nI (mkN (mayP n N b (uf i))))] [(aQ, .inr (8, [.ref aG, .ref aB])), (aG, .inr (5, [.int (nI n), .int (nI N), .int (nI (2 ^ n - 1)), .ref gr, .ref gc, .ref gb, .ref gu])), (gr, .inl (X.1.2.1, N, .inl (gR n))), (gc, .inl (X.1.2.1, N, .inl (gC n))), (gb, .inl (X.1.2.1, N, .inl (gB n))), (aB, .inr (2, [.ref aG, .ref aS, .ref aR, .ref aC, .ref aX])), (aS, .inl (X.1.2.1, N, .inl (eb b))), (aR, .inl (X.1.2.1, n, .inl (mR n N b))), (aC, .inl (X.1.2.1, n, .inl (mC n N b))), (aX, .inl (X.1.2.1, n, .inl (mB n N b))), (aU, .inl (X.1.2.1, n, .inl (nO uf)))]
          refine r_istore C dX7_symbolsOfOneCell_39 (by decide) [1, 2, 3, 4, 5, 0] (lv' := [(0, .ref aQ), (1, .ref aU), (2, .int (nI (mkN (onceP n N b uf i)))), (3, .int (nI (mkN (twiceP n N b uf i)))), (4, .int (nI i)), (5, .int (nI (mkN (mayP n N b (uf i)))))]) rfl ?_
          refine r_iload_n C dX7_symbolsOfOneCell_41 3 rfl rfl ?_
          refine r_iload_n C dX7_symbolsOfOneCell_42 2 rfl rfl ?_
          refine r_iload C dX7_symbolsOfOneCell_43 5 rfl ?_
          refine r_iand C dX7_symbolsOfOneCell_45 (v := nI (mkN (fun v => onceP n N b uf i v ∧ mayP n N b (uf i) v))) (mkN_and (fun _ => Iff.rfl)) ?_
          refine r_ior C dX7_symbolsOfOneCell_46 (v := nI (mkN (twiceP n N b uf (i + 1)))) (mkN_or (twice_S h0i)) ?_
          refine r_istore_n C dX7_symbolsOfOneCell_47 rfl (by decide) [1, 2, 3, 0, 4, 5] (lv' := [(0, .ref aQ), (1, .ref aU), (2, .int (nI (mkN (onceP n N b uf i)))), (3, .int (nI (mkN (twiceP n N b uf (i + 1))))), (4, .int (nI i)), (5, .int (nI (mkN (mayP n N b (uf i)))))]) rfl ?_
          refine r_iload_n C dX7_symbolsOfOneCell_48 2 rfl rfl ?_
          refine r_iload C dX7_symbolsOfOneCell_49 5 rfl ?_
          refine r_ior C dX7_symbolsOfOneCell_51 (v := nI (mkN (onceP n N b uf (i + 1)))) (mkN_or (once_S h0i)) ?_
          refine r_istore_n C dX7_symbolsOfOneCell_52 rfl (by decide) [1, 2, 0, 3, 4, 5] (lv' := [(0, .ref aQ), (1, .ref aU), (2, .int (nI (mkN (onceP n N b uf (i + 1))))), (3, .int (nI (mkN (twiceP n N b uf (i + 1))))), (4, .int (nI i)), (5, .int (nI (mkN (mayP n N b (uf i)))))]) rfl ?_
          refine r_iinc C dX7_symbolsOfOneCell_53 4 rfl (v := nI (i + 1)) (nI_add _ _) (by decide) [1, 2, 3, 4, 0, 5] (lv' := [(0, .ref aQ), (1, .ref aU), (2, .int (nI (mkN (onceP n N b uf (i + 1))))), (3, .int (nI (mkN (twiceP n N b uf (i + 1))))), (4, .int (nI (i + 1))), (5, .int (nI (mkN (mayP n N b (uf i)))))]) rfl ?_
          refine r_goto (tgt := 7) C dX7_symbolsOfOneCell_56 (by decide) ?_
          refine r_lv [0, 1, 2, 3, 4] (lv' := [(0, .ref aQ), (1, .ref aU), (2, .int (nI (mkN (onceP n N b uf (i + 1))))), (3, .int (nI (mkN (twiceP n N b uf (i + 1))))), (4, .int (nI (i + 1)))]) rfl ?_
          exact ih7 (i + 1) (by omega) (by omega)
  exact L7 ((n - 0) + 1) 0 (Nat.lt_succ_self _) (Nat.zero_le _)
theorem fX7_fillFrom_18 : Cond.fieldLink RX7 18 (TX7 1).1 (TX7 1).2.1 (TX7 1).2.2.1 ∈ wsX7_fillFrom := List.mem_of_getElem? (i := 1) rfl
theorem iX7_fillFrom_X7 : ∀ w ∈ wsX70, w ∈ wsX7_fillFrom := by decide +kernel
set_option maxHeartbeats 4000000 in
set_option maxRecDepth 100000 in
theorem c_X7_fillFrom {g : ww_G} {l : Launch} {n : Nat} {N : Nat} {aG : Nat} {gr : Nat} {gc : Nat} {gb : Nat} {gu : Nat} {aB : Nat} {aS : Nat} {aR : Nat} {aC : Nat} {aX : Nat} {b : Nat → Option Nat} {aQ : Nat} {A : Nat → Nat} {gv : Nat → Option Nat} {aU : Nat} {uf : Nat → Nat} {k : Nat} (hn : (n = 4 ∧ N = 16) ∨ (n = 6 ∧ N = 36)) (hA : fulA n N A) (hI : invK n N A gv b) (hu : isUn n N k uf) : CT g l yX7_fillFrom wsX7_fillFrom (ww_rm 3) [.ref aQ, .ref aU, .int (nI (mkN (loneP n N b uf n)))] ([(aQ, .inr (8, [.ref aG, .ref aB])), (aG, .inr (5, [.int (nI n), .int (nI N), .int (nI (2 ^ n - 1)), .ref gr, .ref gc, .ref gb, .ref gu])), (gr, .inl (g.2.1, N, .inl (gR n))), (gc, .inl (g.2.1, N, .inl (gC n))), (gb, .inl (g.2.1, N, .inl (gB n))), (aB, .inr (2, [.ref aG, .ref aS, .ref aR, .ref aC, .ref aX])), (aS, .inl (g.2.1, N, .inl (eb b))), (aR, .inl (g.2.1, n, .inl (mR n N b))), (aC, .inl (g.2.1, n, .inl (mC n N b))), (aX, .inl (g.2.1, n, .inl (mB n N b))), (aU, .inl (g.2.1, n, .inl (nO uf)))]) (S := Prop × (Nat → Option Nat)) (fun v u => v = some (.int (bz u.1)) ∧ (invK n N A gv u.2) ∧ (¬ u.1 → u.2 = b ∧ ∀ j, j < n → b (uf j) = none → ∀ v, mayP n N b (uf j) v → ¬ loneP n N b uf n v) ∧ (u.1 → fil N b < fil N u.2)) (fun u => [(aQ, .inr (8, [.ref aG, .ref aB])), (aG, .inr (5, [.int (nI n), .int (nI N), .int (nI (2 ^ n - 1)), .ref gr, .ref gc, .ref gb, .ref gu])), (gr, .inl (g.2.1, N, .inl (gR n))), (gc, .inl (g.2.1, N, .inl (gC n))), (gb, .inl (g.2.1, N, .inl (gB n))), (aB, .inr (2, [.ref aG, .ref aS, .ref aR, .ref aC, .ref aX])), (aS, .inl (g.2.1, N, .inl (eb u.2))), (aR, .inl (g.2.1, n, .inl (mR n N u.2))), (aC, .inl (g.2.1, n, .inl (mC n N u.2))), (aX, .inl (g.2.1, n, .inl (mB n N u.2))), (aU, .inl (g.2.1, n, .inl (nO uf)))]) := by
  refine CT.of cX7_fillFrom 6 (some .boolean) RX7 (by decide +kernel) rfl rfl (Nat.le_of_ble_eq_true rfl) ?_
  intro X hg hl C hret
  subst hg; subst hl
  show RW X 0 0 0 [(0, .ref aQ), (1, .ref aU), (2, .int (nI (mkN (loneP n N b uf n))))] [] [(aQ, .inr (8, [.ref aG, .ref aB])), (aG, .inr (5, [.int (nI n), .int (nI N), .int (nI (2 ^ n - 1)), .ref gr, .ref gc, .ref gb, .ref gu])), (gr, .inl (X.1.2.1, N, .inl (gR n))), (gc, .inl (X.1.2.1, N, .inl (gC n))), (gb, .inl (X.1.2.1, N, .inl (gB n))), (aB, .inr (2, [.ref aG, .ref aS, .ref aR, .ref aC, .ref aX])), (aS, .inl (X.1.2.1, N, .inl (eb b))), (aR, .inl (X.1.2.1, n, .inl (mR n N b))), (aC, .inl (X.1.2.1, n, .inl (mC n N b))), (aX, .inl (X.1.2.1, n, .inl (mB n N b))), (aU, .inl (X.1.2.1, n, .inl (nO uf)))]
  refine r_iconst C dX7_fillFrom_0 (v := bz False) (by rw [bz_f id]; decide) ?_
  refine r_istore_n C dX7_fillFrom_1 rfl (by decide) [1, 2, 3, 0] (lv' := [(0, .ref aQ), (1, .ref aU), (2, .int (nI (mkN (loneP n N b uf n)))), (3, .int (bz False))]) rfl ?_
  refine r_iconst C dX7_fillFrom_2 (v := nI 0) (by decide) ?_
  refine r_istore C dX7_fillFrom_3 (by decide) [1, 2, 3, 4, 0] (lv' := [(0, .ref aQ), (1, .ref aU), (2, .int (nI (mkN (loneP n N b uf n)))), (3, .int (bz False)), (4, .int (nI 0))]) rfl ?_
  have L5 : ∀ (d5 : Nat) (i : Nat) (so : Prop) (b1 : Nat → Option Nat), (n - i) < d5 → (i ≤ n) → (invK n N A gv b1) → (leB N b b1) → (¬ so → b1 = b ∧ ∀ j, j < i → b (uf j) = none → ∀ v, mayP n N b (uf j) v → ¬ loneP n N b uf n v) → (so → fil N b < fil N b1) → RW X 0 0 5 [(0, .ref aQ), (1, .ref aU), (2, .int (nI (mkN (loneP n N b uf n)))), (3, .int (bz so)), (4, .int (nI i))] [] [(aQ, .inr (8, [.ref aG, .ref aB])), (aG, .inr (5, [.int (nI n), .int (nI N), .int (nI (2 ^ n - 1)), .ref gr, .ref gc, .ref gb, .ref gu])), (gr, .inl (X.1.2.1, N, .inl (gR n))), (gc, .inl (X.1.2.1, N, .inl (gC n))), (gb, .inl (X.1.2.1, N, .inl (gB n))), (aB, .inr (2, [.ref aG, .ref aS, .ref aR, .ref aC, .ref aX])), (aS, .inl (X.1.2.1, N, .inl (eb b1))), (aR, .inl (X.1.2.1, n, .inl (mR n N b1))), (aC, .inl (X.1.2.1, n, .inl (mC n N b1))), (aX, .inl (X.1.2.1, n, .inl (mB n N b1))), (aU, .inl (X.1.2.1, n, .inl (nO uf)))] := by
    intro d5
    induction d5 with
    | zero => intro i so b1 hd5; exact absurd hd5 (Nat.not_lt_zero _)
    | succ d5 ih5 =>
      intro i so b1 hd5 hi hI1 hle hs0 hs1
      refine r_iload C dX7_fillFrom_5 4 rfl ?_
      refine r_aload_n C dX7_fillFrom_7 1 rfl rfl ?_
      refine r_alen C dX7_fillFrom_8 10 0 rfl rfl (v := nI n) rfl ?_
      refine r_icmp_ge (tgt := 70) C dX7_fillFrom_9 (by decide) (fun h9 => ?_) (fun h9 => ?_)
      · have h9 : n ≤ i := (nI_leI (by omega) (by omega)).mp h9
        refine r_iload_n C dX7_fillFrom_70 3 rfl rfl ?_
        exact hret _ _ _ (so, b1) ⟨rfl, hI1, fun q => ⟨(hs0 q).1, fun j hj => (hs0 q).2 j (by omega)⟩, hs1⟩ (Or.inr ⟨_, rfl, dX7_fillFrom_71, Or.inr ⟨rfl, bz_01 _⟩⟩)
      · have h9 : ¬ (n ≤ i) := fun e9 => h9 ((nI_leI (by omega) (by omega)).mpr e9)
        have hufi := hu.2.1 i (by omega)
        refine r_aload_n C dX7_fillFrom_12 0 rfl rfl ?_
        refine r_get C dX7_fillFrom_13 iX7_fillFrom_X7 1 fX7_fillFrom_18 0 rfl rfl (by decide) rfl ?_
        refine r_aload_n C dX7_fillFrom_16 1 rfl rfl ?_
        refine r_iload C dX7_fillFrom_17 4 rfl ?_
        refine r_iald C dX7_fillFrom_19 10 rfl (by omega) (by omega) ?_
        show RW X 0 0 20 [(0, .ref aQ), (1, .ref aU), (2, .int (nI (mkN (loneP n N b uf n)))), (3, .int (bz so)), (4, .int (nI i))] [.int (nI (uf i)), .ref aB] [(aQ, .inr (8, [.ref aG, .ref aB])), (aG, .inr (5, [.int (nI n), .int (nI N), .int (nI (2 ^ n - 1)), .ref gr, .ref gc, .ref gb, .ref gu])), (gr, .inl (X.1.2.1, N, .inl (gR n))), (gc, .inl (X.1.2.1, N, .inl (gC n))), (gb, .inl (X.1.2.1, N, .inl (gB n))), (aB, .inr (2, [.ref aG, .ref aS, .ref aR, .ref aC, .ref aX])), (aS, .inl (X.1.2.1, N, .inl (eb b1))), (aR, .inl (X.1.2.1, n, .inl (mR n N b1))), (aC, .inl (X.1.2.1, n, .inl (mC n N b1))), (aX, .inl (X.1.2.1, n, .inl (mB n N b1))), (aU, .inl (X.1.2.1, n, .inl (nO uf)))]
        refine r_callV0 (n := 1) (ws' := fun (u : Unit) => [(aQ, .inr (8, [.ref aG, .ref aB])), (aG, .inr (5, [.int (nI n), .int (nI N), .int (nI (2 ^ n - 1)), .ref gr, .ref gc, .ref gb, .ref gu])), (gr, .inl (X.1.2.1, N, .inl (gR n))), (gc, .inl (X.1.2.1, N, .inl (gC n))), (gb, .inl (X.1.2.1, N, .inl (gB n))), (aB, .inr (2, [.ref aG, .ref aS, .ref aR, .ref aC, .ref aX])), (aS, .inl (X.1.2.1, N, .inl (eb b1))), (aR, .inl (X.1.2.1, n, .inl (mR n N b1))), (aC, .inl (X.1.2.1, n, .inl (mC n N b1))), (aX, .inl (X.1.2.1, n, .inl (mB n N b1))), (aU, .inl (X.1.2.1, n, .inl (nO uf)))]) C dX7_fillFrom_20 (c_X1_isEmpty (g := X.1) (l := X.2.2.1) (N := N) (aG := aG) (aB := aB) (aS := aS) (aR := aR) (aC := aC) (aX := aX) (f := eb b1) (c := uf i) (hN := (by omega)) (hc := hufi)) gX7_fillFrom_X1_isEmpty rfl (by decide +kernel) rfl ⟨Nat.le_of_ble_eq_true rfl, Nat.le_of_ble_eq_true rfl⟩ ⟨rfl, rfl⟩ ⟨Nat.zero_le _, Nat.zero_le _⟩ (rest := []) rfl (Nat.le_of_ble_eq_true rfl) 0 rfl rfl [5, 6] (by decide) rfl (fun u => Eq.trans (b := [aB, aS]) rfl rfl) (fun u => rfl) (fun v u hp => ?_)
        obtain rfl := hp
        show RW X 0 0 23 [(0, .ref aQ), (1, .ref aU), (2, .int (nI (mkN (loneP n N b uf n)))), (3, .int (bz so)), (4, .int (nI i))] [.int (bz ((eb b1) (uf i) < 0))] [(aQ, .inr (8, [.ref aG, .ref aB])), (aG, .inr (5, [.int (nI n), .int (nI N), .int (nI (2 ^ n - 1)), .ref gr, .ref gc, .ref gb, .ref gu])), (gr, .inl (X.1.2.1, N, .inl (gR n))), (gc, .inl (X.1.2.1, N, .inl (gC n))), (gb, .inl (X.1.2.1, N, .inl (gB n))), (aB, .inr (2, [.ref aG, .ref aS, .ref aR, .ref aC, .ref aX])), (aS, .inl (X.1.2.1, N, .inl (eb b1))), (aR, .inl (X.1.2.1, n, .inl (mR n N b1))), (aC, .inl (X.1.2.1, n, .inl (mC n N b1))), (aX, .inl (X.1.2.1, n, .inl (mB n N b1))), (aU, .inl (X.1.2.1, n, .inl (nO uf)))]
        refine r_if_eq (tgt := 64) C dX7_fillFrom_23 (by decide) (fun h23 => ?_) (fun h23 => ?_)
        · have h23 : ¬ ((eb b1) (uf i) < 0) := bz_0.mp h23
          refine r_iinc C dX7_fillFrom_64 4 rfl (v := nI (i + 1)) (nI_add _ _) (by decide) [1, 2, 3, 4, 0] (lv' := [(0, .ref aQ), (1, .ref aU), (2, .int (nI (mkN (loneP n N b uf n)))), (3, .int (bz so)), (4, .int (nI (i + 1)))]) rfl ?_
          refine r_goto (tgt := 5) C dX7_fillFrom_67 (by decide) ?_
          exact ih5 (i + 1) so b1 (by omega) (by omega) hI1 hle (fun q => ⟨(hs0 q).1, fun j hj => by
                        by_cases e : j = i
                        · rw [e]; intro w; rw [← (hs0 q).1] at w; exact absurd (show eo (b1 (uf i)) < 0 by rw [w]; decide) h23
                        · exact (hs0 q).2 j (by omega)⟩) hs1
        · have h23 : (eb b1) (uf i) < 0 := bz_n0.mp h23
          have h0i : b1 (uf i) = none := subA_none hA hI1.1 hn hufi h23
          refine r_aload_n C dX7_fillFrom_26 0 rfl rfl ?_
          refine r_get C dX7_fillFrom_27 iX7_fillFrom_X7 1 fX7_fillFrom_18 0 rfl rfl (by decide) rfl ?_
          refine r_aload_n C dX7_fillFrom_30 1 rfl rfl ?_
          refine r_iload C dX7_fillFrom_31 4 rfl ?_
          refine r_iald C dX7_fillFrom_33 10 rfl (by omega) (by omega) ?_
          show RW X 0 0 34 [(0, .ref aQ), (1, .ref aU), (2, .int (nI (mkN (loneP n N b uf n)))), (3, .int (bz so)), (4, .int (nI i))] [.int (nI (uf i)), .ref aB] [(aQ, .inr (8, [.ref aG, .ref aB])), (aG, .inr (5, [.int (nI n), .int (nI N), .int (nI (2 ^ n - 1)), .ref gr, .ref gc, .ref gb, .ref gu])), (gr, .inl (X.1.2.1, N, .inl (gR n))), (gc, .inl (X.1.2.1, N, .inl (gC n))), (gb, .inl (X.1.2.1, N, .inl (gB n))), (aB, .inr (2, [.ref aG, .ref aS, .ref aR, .ref aC, .ref aX])), (aS, .inl (X.1.2.1, N, .inl (eb b1))), (aR, .inl (X.1.2.1, n, .inl (mR n N b1))), (aC, .inl (X.1.2.1, n, .inl (mC n N b1))), (aX, .inl (X.1.2.1, n, .inl (mB n N b1))), (aU, .inl (X.1.2.1, n, .inl (nO uf)))]
          refine r_callV0 (n := 1) (ws' := fun (u : Unit) => [(aQ, .inr (8, [.ref aG, .ref aB])), (aG, .inr (5, [.int (nI n), .int (nI N), .int (nI (2 ^ n - 1)), .ref gr, .ref gc, .ref gb, .ref gu])), (gr, .inl (X.1.2.1, N, .inl (gR n))), (gc, .inl (X.1.2.1, N, .inl (gC n))), (gb, .inl (X.1.2.1, N, .inl (gB n))), (aB, .inr (2, [.ref aG, .ref aS, .ref aR, .ref aC, .ref aX])), (aS, .inl (X.1.2.1, N, .inl (eb b1))), (aR, .inl (X.1.2.1, n, .inl (mR n N b1))), (aC, .inl (X.1.2.1, n, .inl (mC n N b1))), (aX, .inl (X.1.2.1, n, .inl (mB n N b1))), (aU, .inl (X.1.2.1, n, .inl (nO uf)))]) C dX7_fillFrom_34 (c_X1_may (g := X.1) (l := X.2.2.1) (n := n) (N := N) (aG := aG) (gr := gr) (gc := gc) (gb := gb) (gu := gu) (aB := aB) (aS := aS) (aR := aR) (aC := aC) (aX := aX) (b := b1) (c := uf i) (hn := (by first | assumption | omega)) (hc := hufi)) gX7_fillFrom_X1_may rfl (by decide +kernel) rfl ⟨Nat.le_of_ble_eq_true rfl, Nat.le_of_ble_eq_true rfl⟩ ⟨rfl, rfl⟩ ⟨Nat.zero_le _, Nat.zero_le _⟩ (rest := []) rfl (Nat.le_of_ble_eq_true rfl) 4 rfl rfl [1, 2, 3, 4, 5, 6, 7, 8, 9] (by decide) rfl (fun u => Eq.trans (b := [aG, gr, gc, gb, aB, aS, aR, aC, aX]) rfl rfl) (fun u => rfl) (fun v u hp => ?_)
          obtain rfl := hp
          show RW X 0 0 37 [(0, .ref aQ), (1, .ref aU), (2, .int (nI (mkN (loneP n N b uf n)))), (3, .int (bz so)), (4, .int (nI i))] [.int (nI (mkN (mayP n N b1 (uf i))))] [(aQ, .inr (8, [.ref aG, .ref aB])), (aG, .inr (5, [.int (nI n), .int (nI N), .int (nI (2 ^ n - 1)), .ref gr, .ref gc, .ref gb, .ref gu])), (gr, .inl (X.1.2.1, N, .inl (gR n))), (gc, .inl (X.1.2.1, N, .inl (gC n))), (gb, .inl (X.1.2.1, N, .inl (gB n))), (aB, .inr (2, [.ref aG, .ref aS, .ref aR, .ref aC, .ref aX])), (aS, .inl (X.1.2.1, N, .inl (eb b1))), (aR, .inl (X.1.2.1, n, .inl (mR n N b1))), (aC, .inl (X.1.2.1, n, .inl (mC n N b1))), (aX, .inl (X.1.2.1, n, .inl (mB n N b1))), (aU, .inl (X.1.2.1, n, .inl (nO uf)))]
          refine r_iload_n C dX7_fillFrom_37 2 rfl rfl ?_
          refine r_iand C dX7_fillFrom_38 (v := nI (mkN (fun v => mayP n N b1 (uf i) v ∧ loneP n N b uf n v))) (mkN_and (fun _ => Iff.rfl)) ?_
          refine r_istore C dX7_fillFrom_39 (by decide) [1, 2, 3, 4, 5, 0] (lv' := [(0, .ref aQ), (1, .ref aU), (2, .int (nI (mkN (loneP n N b uf n)))), (3, .int (bz so)), (4, .int (nI i)), (5, .int (nI (mkN (fun v => mayP n N b1 (uf i) v ∧ loneP n N b uf n v))))]) rfl ?_
          refine r_iload C dX7_fillFrom_41 5 rfl ?_
          have hhl := mkN_lt (fun v => mayP n N b1 (uf i) v ∧ loneP n N b uf n v)
          refine r_if_eq (tgt := 64) C dX7_fillFrom_43 (by decide) (fun h43 => ?_) (fun h43 => ?_)
          · have h43 : (mkN (fun v => mayP n N b1 (uf i) v ∧ loneP n N b uf n v)) = 0 := (nI_eq (b := 0) (by omega) (by omega)).mp h43
            refine r_iinc C dX7_fillFrom_64 4 rfl (v := nI (i + 1)) (nI_add _ _) (by decide) [1, 2, 3, 4, 0, 5] (lv' := [(0, .ref aQ), (1, .ref aU), (2, .int (nI (mkN (loneP n N b uf n)))), (3, .int (bz so)), (4, .int (nI (i + 1))), (5, .int (nI (mkN (fun v => mayP n N b1 (uf i) v ∧ loneP n N b uf n v))))]) rfl ?_
            refine r_goto (tgt := 5) C dX7_fillFrom_67 (by decide) ?_
            refine r_lv [0, 1, 2, 3, 4] (lv' := [(0, .ref aQ), (1, .ref aU), (2, .int (nI (mkN (loneP n N b uf n)))), (3, .int (bz so)), (4, .int (nI (i + 1)))]) rfl ?_
            exact ih5 (i + 1) so b1 (by omega) (by omega) hI1 hle (fun q => ⟨(hs0 q).1, fun j hj => by
                          by_cases e : j = i
                          · rw [e]; intro w v hm hl; rw [← (hs0 q).1] at hm; exact mkN_n0 h43 ⟨hm, hl⟩ (by have := hm.1; omega)
                          · exact (hs0 q).2 j (by omega)⟩) hs1
          · have h43 : ¬ ((mkN (fun v => mayP n N b1 (uf i) v ∧ loneP n N b uf n v)) = 0) := fun e9 => h43 ((nI_eq (b := 0) (by omega) (by omega)).mpr e9)
            have htz := ntz_tb (mkN (fun v => mayP n N b1 (uf i) v ∧ loneP n N b uf n v)) (mkN_lt _) (Nat.pos_of_ne_zero h43)
            have hmt := (mkN_tb _ htz.1).mp htz.2.1
            have hmb := may_mono hI.1 hI1.1 hle hmt.1
            have h0b : b (uf i) = none := Classical.byContradiction (fun w => hle _ hufi w h0i)
            have hid := hid_A hA hI.1 hu (show i < n by omega) ⟨h0b, hmb⟩ hmt.2
            refine r_aload_n C dX7_fillFrom_46 0 rfl rfl ?_
            refine r_get C dX7_fillFrom_47 iX7_fillFrom_X7 1 fX7_fillFrom_18 0 rfl rfl (by decide) rfl ?_
            refine r_aload_n C dX7_fillFrom_50 1 rfl rfl ?_
            refine r_iload C dX7_fillFrom_51 4 rfl ?_
            refine r_iald C dX7_fillFrom_53 10 rfl (by omega) (by omega) ?_
            show RW X 0 0 54 [(0, .ref aQ), (1, .ref aU), (2, .int (nI (mkN (loneP n N b uf n)))), (3, .int (bz so)), (4, .int (nI i)), (5, .int (nI (mkN (fun v => mayP n N b1 (uf i) v ∧ loneP n N b uf n v))))] [.int (nI (uf i)), .ref aB] [(aQ, .inr (8, [.ref aG, .ref aB])), (aG, .inr (5, [.int (nI n), .int (nI N), .int (nI (2 ^ n - 1)), .ref gr, .ref gc, .ref gb, .ref gu])), (gr, .inl (X.1.2.1, N, .inl (gR n))), (gc, .inl (X.1.2.1, N, .inl (gC n))), (gb, .inl (X.1.2.1, N, .inl (gB n))), (aB, .inr (2, [.ref aG, .ref aS, .ref aR, .ref aC, .ref aX])), (aS, .inl (X.1.2.1, N, .inl (eb b1))), (aR, .inl (X.1.2.1, n, .inl (mR n N b1))), (aC, .inl (X.1.2.1, n, .inl (mC n N b1))), (aX, .inl (X.1.2.1, n, .inl (mB n N b1))), (aU, .inl (X.1.2.1, n, .inl (nO uf)))]
            refine r_iload C dX7_fillFrom_54 5 rfl ?_
            refine r_callS0 (n := 1) (ws' := fun (u : Unit) => [(aQ, .inr (8, [.ref aG, .ref aB])), (aG, .inr (5, [.int (nI n), .int (nI N), .int (nI (2 ^ n - 1)), .ref gr, .ref gc, .ref gb, .ref gu])), (gr, .inl (X.1.2.1, N, .inl (gR n))), (gc, .inl (X.1.2.1, N, .inl (gC n))), (gb, .inl (X.1.2.1, N, .inl (gB n))), (aB, .inr (2, [.ref aG, .ref aS, .ref aR, .ref aC, .ref aX])), (aS, .inl (X.1.2.1, N, .inl (eb b1))), (aR, .inl (X.1.2.1, n, .inl (mR n N b1))), (aC, .inl (X.1.2.1, n, .inl (mC n N b1))), (aX, .inl (X.1.2.1, n, .inl (mB n N b1))), (aU, .inl (X.1.2.1, n, .inl (nO uf)))]) C dX7_fillFrom_56 (c_J6_numberOfTrailingZeros_0f7a4 (g := X.1) (l := X.2.2.1) (m := mkN (fun v => mayP n N b1 (uf i) v ∧ loneP n N b uf n v)) (hm := (mkN_lt _)) (h0m := (Nat.pos_of_ne_zero h43))) gX7_fillFrom_J6_numberOfTrailingZeros_0f7a4 rfl (by decide +kernel) rfl ⟨Nat.le_of_ble_eq_true rfl, Nat.le_of_ble_eq_true rfl⟩ ⟨rfl, rfl⟩ ⟨Nat.zero_le _, Nat.zero_le _⟩ (rest := [.int (nI (uf i)), .ref aB]) rfl (Nat.le_of_ble_eq_true rfl) [] (by decide) rfl (fun u => Eq.trans (b := []) rfl rfl) (fun u => rfl) (fun v u hp => ?_)
            obtain rfl := hp
            show RW X 0 0 59 [(0, .ref aQ), (1, .ref aU), (2, .int (nI (mkN (loneP n N b uf n)))), (3, .int (bz so)), (4, .int (nI i)), (5, .int (nI (mkN (fun v => mayP n N b1 (uf i) v ∧ loneP n N b uf n v))))] [.int (nI (ntz (mkN (fun v => mayP n N b1 (uf i) v ∧ loneP n N b uf n v)))), .int (nI (uf i)), .ref aB] [(aQ, .inr (8, [.ref aG, .ref aB])), (aG, .inr (5, [.int (nI n), .int (nI N), .int (nI (2 ^ n - 1)), .ref gr, .ref gc, .ref gb, .ref gu])), (gr, .inl (X.1.2.1, N, .inl (gR n))), (gc, .inl (X.1.2.1, N, .inl (gC n))), (gb, .inl (X.1.2.1, N, .inl (gB n))), (aB, .inr (2, [.ref aG, .ref aS, .ref aR, .ref aC, .ref aX])), (aS, .inl (X.1.2.1, N, .inl (eb b1))), (aR, .inl (X.1.2.1, n, .inl (mR n N b1))), (aC, .inl (X.1.2.1, n, .inl (mC n N b1))), (aX, .inl (X.1.2.1, n, .inl (mB n N b1))), (aU, .inl (X.1.2.1, n, .inl (nO uf)))]
            refine r_callV0 (n := 2) (ws' := fun (u : Unit) => [(aQ, .inr (8, [.ref aG, .ref aB])), (aG, .inr (5, [.int (nI n), .int (nI N), .int (nI (2 ^ n - 1)), .ref gr, .ref gc, .ref gb, .ref gu])), (gr, .inl (X.1.2.1, N, .inl (gR n))), (gc, .inl (X.1.2.1, N, .inl (gC n))), (gb, .inl (X.1.2.1, N, .inl (gB n))), (aB, .inr (2, [.ref aG, .ref aS, .ref aR, .ref aC, .ref aX])), (aS, .inl (X.1.2.1, N, .inl (eb (ub b1 (uf i) (some (ntz (mkN (fun v => mayP n N b1 (uf i) v ∧ loneP n N b uf n v)))))))), (aR, .inl (X.1.2.1, n, .inl (mR n N (ub b1 (uf i) (some (ntz (mkN (fun v => mayP n N b1 (uf i) v ∧ loneP n N b uf n v)))))))), (aC, .inl (X.1.2.1, n, .inl (mC n N (ub b1 (uf i) (some (ntz (mkN (fun v => mayP n N b1 (uf i) v ∧ loneP n N b uf n v)))))))), (aX, .inl (X.1.2.1, n, .inl (mB n N (ub b1 (uf i) (some (ntz (mkN (fun v => mayP n N b1 (uf i) v ∧ loneP n N b uf n v)))))))), (aU, .inl (X.1.2.1, n, .inl (nO uf)))]) C dX7_fillFrom_59 (c_X1_put (g := X.1) (l := X.2.2.1) (n := n) (N := N) (aG := aG) (gr := gr) (gc := gc) (gb := gb) (gu := gu) (aB := aB) (aS := aS) (aR := aR) (aC := aC) (aX := aX) (b := b1) (c := uf i) (v := ntz (mkN (fun v => mayP n N b1 (uf i) v ∧ loneP n N b uf n v))) (hn := (by first | assumption | omega)) (hc := hufi) (h0 := h0i) (hm := hmt.1)) gX7_fillFrom_X1_put rfl (by decide +kernel) rfl ⟨Nat.le_of_ble_eq_true rfl, Nat.le_of_ble_eq_true rfl⟩ ⟨rfl, rfl⟩ ⟨Nat.zero_le _, Nat.zero_le _⟩ (rest := []) rfl (Nat.le_of_ble_eq_true rfl) 4 rfl rfl [1, 2, 3, 4, 5, 6, 7, 8, 9] (by decide) rfl (fun u => Eq.trans (b := [aG, gr, gc, gb, aB, aS, aR, aC, aX]) rfl rfl) (fun u => rfl) (fun v u hp => ?_)
            obtain rfl := hp
            show RW X 0 0 62 [(0, .ref aQ), (1, .ref aU), (2, .int (nI (mkN (loneP n N b uf n)))), (3, .int (bz so)), (4, .int (nI i)), (5, .int (nI (mkN (fun v => mayP n N b1 (uf i) v ∧ loneP n N b uf n v))))] [] [(aQ, .inr (8, [.ref aG, .ref aB])), (aG, .inr (5, [.int (nI n), .int (nI N), .int (nI (2 ^ n - 1)), .ref gr, .ref gc, .ref gb, .ref gu])), (gr, .inl (X.1.2.1, N, .inl (gR n))), (gc, .inl (X.1.2.1, N, .inl (gC n))), (gb, .inl (X.1.2.1, N, .inl (gB n))), (aB, .inr (2, [.ref aG, .ref aS, .ref aR, .ref aC, .ref aX])), (aS, .inl (X.1.2.1, N, .inl (eb (ub b1 (uf i) (some (ntz (mkN (fun v => mayP n N b1 (uf i) v ∧ loneP n N b uf n v)))))))), (aR, .inl (X.1.2.1, n, .inl (mR n N (ub b1 (uf i) (some (ntz (mkN (fun v => mayP n N b1 (uf i) v ∧ loneP n N b uf n v)))))))), (aC, .inl (X.1.2.1, n, .inl (mC n N (ub b1 (uf i) (some (ntz (mkN (fun v => mayP n N b1 (uf i) v ∧ loneP n N b uf n v)))))))), (aX, .inl (X.1.2.1, n, .inl (mB n N (ub b1 (uf i) (some (ntz (mkN (fun v => mayP n N b1 (uf i) v ∧ loneP n N b uf n v)))))))), (aU, .inl (X.1.2.1, n, .inl (nO uf)))]
            refine r_iconst C dX7_fillFrom_62 (v := bz True) (by rw [bz_t trivial]; decide) ?_
            refine r_istore_n C dX7_fillFrom_63 rfl (by decide) [1, 2, 3, 0, 4, 5] (lv' := [(0, .ref aQ), (1, .ref aU), (2, .int (nI (mkN (loneP n N b uf n)))), (3, .int (bz True)), (4, .int (nI i)), (5, .int (nI (mkN (fun v => mayP n N b1 (uf i) v ∧ loneP n N b uf n v))))]) rfl ?_
            refine r_iinc C dX7_fillFrom_64 4 rfl (v := nI (i + 1)) (nI_add _ _) (by decide) [1, 2, 3, 4, 0, 5] (lv' := [(0, .ref aQ), (1, .ref aU), (2, .int (nI (mkN (loneP n N b uf n)))), (3, .int (bz True)), (4, .int (nI (i + 1))), (5, .int (nI (mkN (fun v => mayP n N b1 (uf i) v ∧ loneP n N b uf n v))))]) rfl ?_
            refine r_goto (tgt := 5) C dX7_fillFrom_67 (by decide) ?_
            refine r_lv [0, 1, 2, 3, 4] (lv' := [(0, .ref aQ), (1, .ref aU), (2, .int (nI (mkN (loneP n N b uf n)))), (3, .int (bz True)), (4, .int (nI (i + 1)))]) rfl ?_
            exact ih5 (i + 1) True (ub b1 (uf i) (some (ntz (mkN (fun v => mayP n N b1 (uf i) v ∧ loneP n N b uf n v))))) (by omega) (by omega) (by rw [← hid.1]; exact invK_put hI1 (clo_of hI hid.2)) (leB_tr hle leB_put) (fun q => absurd trivial q) (fun _ => by rw [fil_put hufi h0i]; exact fil_lt2 hs0 hs1)
  exact L5 ((n - 0) + 1) 0 False b (Nat.lt_succ_self _) (Nat.zero_le _) hI (fun _ _ q => q) (fun _ => ⟨rfl, fun c q => absurd q (Nat.not_lt_zero c)⟩) False.elim
theorem fX7_fillLoneCells_7 : Cond.fieldLink RX7 7 (TX7 0).1 (TX7 0).2.1 (TX7 0).2.2.1 ∈ wsX7_fillLoneCells := List.mem_of_getElem? (i := 1) rfl
theorem iX7_fillLoneCells_X7 : ∀ w ∈ wsX70, w ∈ wsX7_fillLoneCells := by decide +kernel
theorem fX7_fillLoneCells_59 : Cond.fieldLink RX7 59 (TX4 6).1 (TX4 6).2.1 (TX4 6).2.2.1 ∈ wsX7_fillLoneCells := List.mem_of_getElem? (i := 2) rfl
theorem iX7_fillLoneCells_X4 : ∀ w ∈ wsX40, w ∈ wsX7_fillLoneCells := by decide +kernel
set_option maxHeartbeats 4000000 in
set_option maxRecDepth 100000 in
theorem c_X7_fillLoneCells {g : ww_G} {l : Launch} {n : Nat} {N : Nat} {aG : Nat} {gr : Nat} {gc : Nat} {gb : Nat} {gu : Nat} {aB : Nat} {aS : Nat} {aR : Nat} {aC : Nat} {aX : Nat} {b : Nat → Option Nat} {aQ : Nat} {A : Nat → Nat} {gv : Nat → Option Nat} {ra : Nat → Nat} {pl : va_W} (hn : (n = 4 ∧ N = 16) ∨ (n = 6 ∧ N = 36)) (hA : fulA n N A) (hI : invK n N A gv b) (hpl : ∀ u, u < 3 * n → ∃ p1 p2, pl = p1 ++ (ra u, .inl (g.2.1, n, .inl (nO (unF n u)))) :: p2) : CT g l yX7_fillLoneCells wsX7_fillLoneCells (ww_rm 4) [.ref aQ] ([(aQ, .inr (8, [.ref aG, .ref aB])), (aG, .inr (5, [.int (nI n), .int (nI N), .int (nI (2 ^ n - 1)), .ref gr, .ref gc, .ref gb, .ref gu])), (gr, .inl (g.2.1, N, .inl (gR n))), (gc, .inl (g.2.1, N, .inl (gC n))), (gb, .inl (g.2.1, N, .inl (gB n))), (gu, .inl (g.2.2.2.1, 3 * n, .inr (.inr (.inr (.inr (fun j => some (ra j))))))), (aB, .inr (2, [.ref aG, .ref aS, .ref aR, .ref aC, .ref aX])), (aS, .inl (g.2.1, N, .inl (eb b))), (aR, .inl (g.2.1, n, .inl (mR n N b))), (aC, .inl (g.2.1, n, .inl (mC n N b))), (aX, .inl (g.2.1, n, .inl (mB n N b)))] ++ pl) (S := Prop × (Nat → Option Nat)) (fun v u => v = some (.int (bz u.1)) ∧ (invK n N A gv u.2) ∧ (¬ u.1 → u.2 = b ∧ ∀ u, u < 3 * n → ∀ j, j < n → b (unF n u j) = none → ∀ v, mayP n N b (unF n u j) v → ¬ loneP n N b (unF n u) n v) ∧ (u.1 → fil N b < fil N u.2)) (fun u => ([(aQ, .inr (8, [.ref aG, .ref aB])), (aG, .inr (5, [.int (nI n), .int (nI N), .int (nI (2 ^ n - 1)), .ref gr, .ref gc, .ref gb, .ref gu])), (gr, .inl (g.2.1, N, .inl (gR n))), (gc, .inl (g.2.1, N, .inl (gC n))), (gb, .inl (g.2.1, N, .inl (gB n))), (gu, .inl (g.2.2.2.1, 3 * n, .inr (.inr (.inr (.inr (fun j => some (ra j))))))), (aB, .inr (2, [.ref aG, .ref aS, .ref aR, .ref aC, .ref aX])), (aS, .inl (g.2.1, N, .inl (eb u.2))), (aR, .inl (g.2.1, n, .inl (mR n N u.2))), (aC, .inl (g.2.1, n, .inl (mC n N u.2))), (aX, .inl (g.2.1, n, .inl (mB n N u.2)))] ++ pl)) := by
  refine CT.of cX7_fillLoneCells 4 (some .boolean) RX7 (by decide +kernel) rfl rfl (Nat.le_of_ble_eq_true rfl) ?_
  intro X hg hl C hret
  subst hg; subst hl
  show RW X 0 0 0 [(0, .ref aQ)] [] ([(aQ, .inr (8, [.ref aG, .ref aB])), (aG, .inr (5, [.int (nI n), .int (nI N), .int (nI (2 ^ n - 1)), .ref gr, .ref gc, .ref gb, .ref gu])), (gr, .inl (X.1.2.1, N, .inl (gR n))), (gc, .inl (X.1.2.1, N, .inl (gC n))), (gb, .inl (X.1.2.1, N, .inl (gB n))), (gu, .inl (X.1.2.2.2.1, 3 * n, .inr (.inr (.inr (.inr (fun j => some (ra j))))))), (aB, .inr (2, [.ref aG, .ref aS, .ref aR, .ref aC, .ref aX])), (aS, .inl (X.1.2.1, N, .inl (eb b))), (aR, .inl (X.1.2.1, n, .inl (mR n N b))), (aC, .inl (X.1.2.1, n, .inl (mC n N b))), (aX, .inl (X.1.2.1, n, .inl (mB n N b)))] ++ pl)
  refine r_iconst C dX7_fillLoneCells_0 (v := bz False) (by rw [bz_f id]; decide) ?_
  refine r_istore_n C dX7_fillLoneCells_1 rfl (by decide) [1, 0] (lv' := [(0, .ref aQ), (1, .int (bz False))]) rfl ?_
  refine r_iconst C dX7_fillLoneCells_2 (v := nI 0) (by decide) ?_
  refine r_istore_n C dX7_fillLoneCells_3 rfl (by decide) [1, 2, 0] (lv' := [(0, .ref aQ), (1, .int (bz False)), (2, .int (nI 0))]) rfl ?_
  have L4 : ∀ (d4 : Nat) (i : Nat) (so : Prop) (b1 : Nat → Option Nat), (3 * n - i) < d4 → (i ≤ 3 * n) → (invK n N A gv b1) → (¬ so → b1 = b ∧ ∀ u, u < i → ∀ j, j < n → b (unF n u j) = none → ∀ v, mayP n N b (unF n u j) v → ¬ loneP n N b (unF n u) n v) → (so → fil N b < fil N b1) → RW X 0 0 4 [(0, .ref aQ), (1, .int (bz so)), (2, .int (nI i))] [] ([(aQ, .inr (8, [.ref aG, .ref aB])), (aG, .inr (5, [.int (nI n), .int (nI N), .int (nI (2 ^ n - 1)), .ref gr, .ref gc, .ref gb, .ref gu])), (gr, .inl (X.1.2.1, N, .inl (gR n))), (gc, .inl (X.1.2.1, N, .inl (gC n))), (gb, .inl (X.1.2.1, N, .inl (gB n))), (gu, .inl (X.1.2.2.2.1, 3 * n, .inr (.inr (.inr (.inr (fun j => some (ra j))))))), (aB, .inr (2, [.ref aG, .ref aS, .ref aR, .ref aC, .ref aX])), (aS, .inl (X.1.2.1, N, .inl (eb b1))), (aR, .inl (X.1.2.1, n, .inl (mR n N b1))), (aC, .inl (X.1.2.1, n, .inl (mC n N b1))), (aX, .inl (X.1.2.1, n, .inl (mB n N b1)))] ++ pl) := by
    intro d4
    induction d4 with
    | zero => intro i so b1 hd4; exact absurd hd4 (Nat.not_lt_zero _)
    | succ d4 ih4 =>
      intro i so b1 hd4 hi hI1 hs0 hs1
      refine r_iload_n C dX7_fillLoneCells_4 2 rfl rfl ?_
      refine r_aload_n C dX7_fillLoneCells_5 0 rfl rfl ?_
      refine r_get C dX7_fillLoneCells_6 iX7_fillLoneCells_X7 0 fX7_fillLoneCells_7 0 rfl rfl (by decide) rfl ?_
      refine r_get C dX7_fillLoneCells_9 iX7_fillLoneCells_X4 6 fX7_fillLoneCells_59 1 rfl rfl (by decide) rfl ?_
      refine r_alen C dX7_fillLoneCells_12 5 2 rfl rfl (v := nI (3 * n)) rfl ?_
      refine r_icmp_ge (tgt := 59) C dX7_fillLoneCells_13 (by decide) (fun h13 => ?_) (fun h13 => ?_)
      · have h13 : (3 * n) ≤ i := (nI_leI (by omega) (by omega)).mp h13
        refine r_iload_n C dX7_fillLoneCells_59 1 rfl rfl ?_
        exact hret _ _ _ (so, b1) ⟨rfl, hI1, fun q => ⟨(hs0 q).1, fun u hu => (hs0 q).2 u (by omega)⟩, hs1⟩ (Or.inr ⟨_, rfl, dX7_fillLoneCells_60, Or.inr ⟨rfl, bz_01 _⟩⟩)
      · have h13 : ¬ ((3 * n) ≤ i) := fun e9 => h13 ((nI_leI (by omega) (by omega)).mpr e9)
        refine r_aload_n C dX7_fillLoneCells_16 0 rfl rfl ?_
        refine r_aload_n C dX7_fillLoneCells_17 0 rfl rfl ?_
        refine r_get C dX7_fillLoneCells_18 iX7_fillLoneCells_X7 0 fX7_fillLoneCells_7 0 rfl rfl (by decide) rfl ?_
        refine r_get C dX7_fillLoneCells_21 iX7_fillLoneCells_X4 6 fX7_fillLoneCells_59 1 rfl rfl (by decide) rfl ?_
        refine r_iload_n C dX7_fillLoneCells_24 2 rfl rfl ?_
        refine r_aald C dX7_fillLoneCells_25 5 rfl (by omega) (by omega) ?_
        obtain ⟨p1, p2, hp⟩ := hpl i (by omega)
        obtain ⟨k, t, hk, ht, hkt⟩ := unit_kt hn (show i < 3 * n by omega)
        have hU : isUn n N k (unF n i) := by rw [hkt]; exact isUn_F hn hk ht
        refine r_perm (ws' := ([(aQ, .inr (8, [.ref aG, .ref aB])), (aG, .inr (5, [.int (nI n), .int (nI N), .int (nI (2 ^ n - 1)), .ref gr, .ref gc, .ref gb, .ref gu])), (gr, .inl (X.1.2.1, N, .inl (gR n))), (gc, .inl (X.1.2.1, N, .inl (gC n))), (gb, .inl (X.1.2.1, N, .inl (gB n))), (gu, .inl (X.1.2.2.2.1, 3 * n, .inr (.inr (.inr (.inr (fun j => some (ra j))))))), (aB, .inr (2, [.ref aG, .ref aS, .ref aR, .ref aC, .ref aX])), (aS, .inl (X.1.2.1, N, .inl (eb b1))), (aR, .inl (X.1.2.1, n, .inl (mR n N b1))), (aC, .inl (X.1.2.1, n, .inl (mC n N b1))), (aX, .inl (X.1.2.1, n, .inl (mB n N b1))), (ra i, .inl (X.1.2.1, n, .inl (nO (unF n i))))] ++ (p1 ++ p2))) (by rw [hp]; exact ww_mid (a := [(aQ, .inr (8, [.ref aG, .ref aB])), (aG, .inr (5, [.int (nI n), .int (nI N), .int (nI (2 ^ n - 1)), .ref gr, .ref gc, .ref gb, .ref gu])), (gr, .inl (X.1.2.1, N, .inl (gR n))), (gc, .inl (X.1.2.1, N, .inl (gC n))), (gb, .inl (X.1.2.1, N, .inl (gB n))), (gu, .inl (X.1.2.2.2.1, 3 * n, .inr (.inr (.inr (.inr (fun j => some (ra j))))))), (aB, .inr (2, [.ref aG, .ref aS, .ref aR, .ref aC, .ref aX])), (aS, .inl (X.1.2.1, N, .inl (eb b1))), (aR, .inl (X.1.2.1, n, .inl (mR n N b1))), (aC, .inl (X.1.2.1, n, .inl (mC n N b1))), (aX, .inl (X.1.2.1, n, .inl (mB n N b1)))]) (p1 := p1) (p2 := p2)) ?_
        refine r_callV0 (n := 1) (ws' := fun (u : Unit) => ([(aQ, .inr (8, [.ref aG, .ref aB])), (aG, .inr (5, [.int (nI n), .int (nI N), .int (nI (2 ^ n - 1)), .ref gr, .ref gc, .ref gb, .ref gu])), (gr, .inl (X.1.2.1, N, .inl (gR n))), (gc, .inl (X.1.2.1, N, .inl (gC n))), (gb, .inl (X.1.2.1, N, .inl (gB n))), (gu, .inl (X.1.2.2.2.1, 3 * n, .inr (.inr (.inr (.inr (fun j => some (ra j))))))), (aB, .inr (2, [.ref aG, .ref aS, .ref aR, .ref aC, .ref aX])), (aS, .inl (X.1.2.1, N, .inl (eb b1))), (aR, .inl (X.1.2.1, n, .inl (mR n N b1))), (aC, .inl (X.1.2.1, n, .inl (mC n N b1))), (aX, .inl (X.1.2.1, n, .inl (mB n N b1))), (ra i, .inl (X.1.2.1, n, .inl (nO (unF n i))))] ++ (p1 ++ p2))) C dX7_fillLoneCells_26 (c_X7_symbolsOfOneCell (g := X.1) (l := X.2.2.1) (n := n) (N := N) (aG := aG) (gr := gr) (gc := gc) (gb := gb) (gu := gu) (aB := aB) (aS := aS) (aR := aR) (aC := aC) (aX := aX) (b := b1) (aQ := aQ) (A := A) (gv := gv) (aU := ra i) (uf := unF n i) (hn := (by first | assumption | omega)) (hA := (by first | assumption | omega)) (hI := hI1) (huf := hU.2.1)) gX7_fillLoneCells_X7_symbolsOfOneCell rfl (by decide +kernel) rfl ⟨Nat.le_of_ble_eq_true rfl, Nat.le_of_ble_eq_true rfl⟩ ⟨rfl, rfl⟩ ⟨Nat.zero_le _, Nat.zero_le _⟩ (rest := []) rfl (Nat.le_of_ble_eq_true rfl) 0 rfl rfl [0, 1, 2, 3, 4, 6, 7, 8, 9, 10, 11] (by decide) rfl (fun u => Eq.trans (b := [aQ, aG, gr, gc, gb, aB, aS, aR, aC, aX, ra i]) rfl rfl) (fun u => rfl) (fun v u hp => ?_)
        obtain rfl := hp
        show RW X 0 0 29 [(0, .ref aQ), (1, .int (bz so)), (2, .int (nI i))] [.int (nI (mkN (loneP n N b1 (unF n i) n)))] ([(aQ, .inr (8, [.ref aG, .ref aB])), (aG, .inr (5, [.int (nI n), .int (nI N), .int (nI (2 ^ n - 1)), .ref gr, .ref gc, .ref gb, .ref gu])), (gr, .inl (X.1.2.1, N, .inl (gR n))), (gc, .inl (X.1.2.1, N, .inl (gC n))), (gb, .inl (X.1.2.1, N, .inl (gB n))), (gu, .inl (X.1.2.2.2.1, 3 * n, .inr (.inr (.inr (.inr (fun j => some (ra j))))))), (aB, .inr (2, [.ref aG, .ref aS, .ref aR, .ref aC, .ref aX])), (aS, .inl (X.1.2.1, N, .inl (eb b1))), (aR, .inl (X.1.2.1, n, .inl (mR n N b1))), (aC, .inl (X.1.2.1, n, .inl (mC n N b1))), (aX, .inl (X.1.2.1, n, .inl (mB n N b1))), (ra i, .inl (X.1.2.1, n, .inl (nO (unF n i))))] ++ (p1 ++ p2))
        refine r_istore_n C dX7_fillLoneCells_29 rfl (by decide) [1, 2, 3, 0] (lv' := [(0, .ref aQ), (1, .int (bz so)), (2, .int (nI i)), (3, .int (nI (mkN (loneP n N b1 (unF n i) n))))]) rfl ?_
        refine r_iload_n C dX7_fillLoneCells_30 3 rfl rfl ?_
        have hhl := mkN_lt (loneP n N b1 (unF n i) n)
        refine r_if_eq (tgt := 53) C dX7_fillLoneCells_31 (by decide) (fun h31 => ?_) (fun h31 => ?_)
        · have h31 : (mkN (loneP n N b1 (unF n i) n)) = 0 := (nI_eq (b := 0) (by omega) (by omega)).mp h31
          refine r_perm (ws' := ([(aQ, .inr (8, [.ref aG, .ref aB])), (aG, .inr (5, [.int (nI n), .int (nI N), .int (nI (2 ^ n - 1)), .ref gr, .ref gc, .ref gb, .ref gu])), (gr, .inl (X.1.2.1, N, .inl (gR n))), (gc, .inl (X.1.2.1, N, .inl (gC n))), (gb, .inl (X.1.2.1, N, .inl (gB n))), (gu, .inl (X.1.2.2.2.1, 3 * n, .inr (.inr (.inr (.inr (fun j => some (ra j))))))), (aB, .inr (2, [.ref aG, .ref aS, .ref aR, .ref aC, .ref aX])), (aS, .inl (X.1.2.1, N, .inl (eb b1))), (aR, .inl (X.1.2.1, n, .inl (mR n N b1))), (aC, .inl (X.1.2.1, n, .inl (mC n N b1))), (aX, .inl (X.1.2.1, n, .inl (mB n N b1)))] ++ pl)) (by rw [hp]; exact (ww_mid (a := [(aQ, .inr (8, [.ref aG, .ref aB])), (aG, .inr (5, [.int (nI n), .int (nI N), .int (nI (2 ^ n - 1)), .ref gr, .ref gc, .ref gb, .ref gu])), (gr, .inl (X.1.2.1, N, .inl (gR n))), (gc, .inl (X.1.2.1, N, .inl (gC n))), (gb, .inl (X.1.2.1, N, .inl (gB n))), (gu, .inl (X.1.2.2.2.1, 3 * n, .inr (.inr (.inr (.inr (fun j => some (ra j))))))), (aB, .inr (2, [.ref aG, .ref aS, .ref aR, .ref aC, .ref aX])), (aS, .inl (X.1.2.1, N, .inl (eb b1))), (aR, .inl (X.1.2.1, n, .inl (mR n N b1))), (aC, .inl (X.1.2.1, n, .inl (mC n N b1))), (aX, .inl (X.1.2.1, n, .inl (mB n N b1)))]) (p1 := p1) (p2 := p2)).symm) ?_
          refine r_iinc C dX7_fillLoneCells_53 2 rfl (v := nI (i + 1)) (nI_add _ _) (by decide) [1, 2, 0, 3] (lv' := [(0, .ref aQ), (1, .int (bz so)), (2, .int (nI (i + 1))), (3, .int (nI (mkN (loneP n N b1 (unF n i) n))))]) rfl ?_
          refine r_goto (tgt := 4) C dX7_fillLoneCells_56 (by decide) ?_
          refine r_lv [0, 1, 2] (lv' := [(0, .ref aQ), (1, .int (bz so)), (2, .int (nI (i + 1)))]) rfl ?_
          exact ih4 (i + 1) so b1 (by omega) (by omega) hI1 (fun q => ⟨(hs0 q).1, fun u hu => by
                        by_cases e : u = i
                        · rw [e]; intro j hj w v hm hl; rw [← (hs0 q).1] at hl; exact mkN_n0 h31 hl (by have := hm.1; omega)
                        · exact (hs0 q).2 u (by omega)⟩) hs1
        · have h31 : ¬ ((mkN (loneP n N b1 (unF n i) n)) = 0) := fun e9 => h31 ((nI_eq (b := 0) (by omega) (by omega)).mpr e9)
          refine r_aload_n C dX7_fillLoneCells_34 0 rfl rfl ?_
          refine r_aload_n C dX7_fillLoneCells_35 0 rfl rfl ?_
          refine r_get C dX7_fillLoneCells_36 iX7_fillLoneCells_X7 0 fX7_fillLoneCells_7 0 rfl rfl (by decide) rfl ?_
          refine r_get C dX7_fillLoneCells_39 iX7_fillLoneCells_X4 6 fX7_fillLoneCells_59 1 rfl rfl (by decide) rfl ?_
          refine r_iload_n C dX7_fillLoneCells_42 2 rfl rfl ?_
          refine r_aald C dX7_fillLoneCells_43 5 rfl (by omega) (by omega) ?_
          refine r_iload_n C dX7_fillLoneCells_44 3 rfl rfl ?_
          refine r_callV0 (n := 2) (ws' := fun (u : Prop × (Nat → Option Nat)) => ([(aQ, .inr (8, [.ref aG, .ref aB])), (aG, .inr (5, [.int (nI n), .int (nI N), .int (nI (2 ^ n - 1)), .ref gr, .ref gc, .ref gb, .ref gu])), (gr, .inl (X.1.2.1, N, .inl (gR n))), (gc, .inl (X.1.2.1, N, .inl (gC n))), (gb, .inl (X.1.2.1, N, .inl (gB n))), (gu, .inl (X.1.2.2.2.1, 3 * n, .inr (.inr (.inr (.inr (fun j => some (ra j))))))), (aB, .inr (2, [.ref aG, .ref aS, .ref aR, .ref aC, .ref aX])), (aS, .inl (X.1.2.1, N, .inl (eb u.2))), (aR, .inl (X.1.2.1, n, .inl (mR n N u.2))), (aC, .inl (X.1.2.1, n, .inl (mC n N u.2))), (aX, .inl (X.1.2.1, n, .inl (mB n N u.2))), (ra i, .inl (X.1.2.1, n, .inl (nO (unF n i))))] ++ (p1 ++ p2))) C dX7_fillLoneCells_45 (c_X7_fillFrom (g := X.1) (l := X.2.2.1) (n := n) (N := N) (aG := aG) (gr := gr) (gc := gc) (gb := gb) (gu := gu) (aB := aB) (aS := aS) (aR := aR) (aC := aC) (aX := aX) (b := b1) (aQ := aQ) (A := A) (gv := gv) (aU := ra i) (uf := unF n i) (k := k) (hn := (by first | assumption | omega)) (hA := (by first | assumption | omega)) (hI := hI1) (hu := hU)) gX7_fillLoneCells_X7_fillFrom rfl (by decide +kernel) rfl ⟨Nat.le_of_ble_eq_true rfl, Nat.le_of_ble_eq_true rfl⟩ ⟨rfl, rfl⟩ ⟨Nat.zero_le _, Nat.zero_le _⟩ (rest := []) rfl (Nat.le_of_ble_eq_true rfl) 0 rfl rfl [0, 1, 2, 3, 4, 6, 7, 8, 9, 10, 11] (by decide) rfl (fun u => Eq.trans (b := [aQ, aG, gr, gc, gb, aB, aS, aR, aC, aX, ra i]) rfl rfl) (fun u => rfl) (fun v u hp => ?_)
          obtain ⟨s2, b2⟩ := u
          obtain ⟨rfl, p45_0, p45_1, p45_2⟩ := hp
          try dsimp only at p45_0 p45_1 p45_2
          show RW X 0 0 48 [(0, .ref aQ), (1, .int (bz so)), (2, .int (nI i)), (3, .int (nI (mkN (loneP n N b1 (unF n i) n))))] [.int (bz s2)] ([(aQ, .inr (8, [.ref aG, .ref aB])), (aG, .inr (5, [.int (nI n), .int (nI N), .int (nI (2 ^ n - 1)), .ref gr, .ref gc, .ref gb, .ref gu])), (gr, .inl (X.1.2.1, N, .inl (gR n))), (gc, .inl (X.1.2.1, N, .inl (gC n))), (gb, .inl (X.1.2.1, N, .inl (gB n))), (gu, .inl (X.1.2.2.2.1, 3 * n, .inr (.inr (.inr (.inr (fun j => some (ra j))))))), (aB, .inr (2, [.ref aG, .ref aS, .ref aR, .ref aC, .ref aX])), (aS, .inl (X.1.2.1, N, .inl (eb b2))), (aR, .inl (X.1.2.1, n, .inl (mR n N b2))), (aC, .inl (X.1.2.1, n, .inl (mC n N b2))), (aX, .inl (X.1.2.1, n, .inl (mB n N b2))), (ra i, .inl (X.1.2.1, n, .inl (nO (unF n i))))] ++ (p1 ++ p2))
          refine r_if_eq (tgt := 53) C dX7_fillLoneCells_48 (by decide) (fun h48 => ?_) (fun h48 => ?_)
          · have h48 : ¬ (s2) := bz_0.mp h48
            refine r_perm (ws' := ([(aQ, .inr (8, [.ref aG, .ref aB])), (aG, .inr (5, [.int (nI n), .int (nI N), .int (nI (2 ^ n - 1)), .ref gr, .ref gc, .ref gb, .ref gu])), (gr, .inl (X.1.2.1, N, .inl (gR n))), (gc, .inl (X.1.2.1, N, .inl (gC n))), (gb, .inl (X.1.2.1, N, .inl (gB n))), (gu, .inl (X.1.2.2.2.1, 3 * n, .inr (.inr (.inr (.inr (fun j => some (ra j))))))), (aB, .inr (2, [.ref aG, .ref aS, .ref aR, .ref aC, .ref aX])), (aS, .inl (X.1.2.1, N, .inl (eb b2))), (aR, .inl (X.1.2.1, n, .inl (mR n N b2))), (aC, .inl (X.1.2.1, n, .inl (mC n N b2))), (aX, .inl (X.1.2.1, n, .inl (mB n N b2)))] ++ pl)) (by rw [hp]; exact (ww_mid (a := [(aQ, .inr (8, [.ref aG, .ref aB])), (aG, .inr (5, [.int (nI n), .int (nI N), .int (nI (2 ^ n - 1)), .ref gr, .ref gc, .ref gb, .ref gu])), (gr, .inl (X.1.2.1, N, .inl (gR n))), (gc, .inl (X.1.2.1, N, .inl (gC n))), (gb, .inl (X.1.2.1, N, .inl (gB n))), (gu, .inl (X.1.2.2.2.1, 3 * n, .inr (.inr (.inr (.inr (fun j => some (ra j))))))), (aB, .inr (2, [.ref aG, .ref aS, .ref aR, .ref aC, .ref aX])), (aS, .inl (X.1.2.1, N, .inl (eb b2))), (aR, .inl (X.1.2.1, n, .inl (mR n N b2))), (aC, .inl (X.1.2.1, n, .inl (mC n N b2))), (aX, .inl (X.1.2.1, n, .inl (mB n N b2)))]) (p1 := p1) (p2 := p2)).symm) ?_
            refine r_iinc C dX7_fillLoneCells_53 2 rfl (v := nI (i + 1)) (nI_add _ _) (by decide) [1, 2, 0, 3] (lv' := [(0, .ref aQ), (1, .int (bz so)), (2, .int (nI (i + 1))), (3, .int (nI (mkN (loneP n N b1 (unF n i) n))))]) rfl ?_
            refine r_goto (tgt := 4) C dX7_fillLoneCells_56 (by decide) ?_
            refine r_lv [0, 1, 2] (lv' := [(0, .ref aQ), (1, .int (bz so)), (2, .int (nI (i + 1)))]) rfl ?_
            exact ih4 (i + 1) so b2 (by omega) (by omega) p45_0 (fun q => ⟨((p45_1 h48).1).trans (hs0 q).1, fun u hu => by
                          by_cases e : u = i
                          · rw [e]; have h9 := (p45_1 h48).2; rw [(hs0 q).1] at h9; exact h9
                          · exact (hs0 q).2 u (by omega)⟩) (fun q => by rw [(p45_1 h48).1]; exact hs1 q)
          · have h48 : s2 := bz_n0.mp h48
            refine r_iconst C dX7_fillLoneCells_51 (v := bz True) (by rw [bz_t trivial]; decide) ?_
            refine r_istore_n C dX7_fillLoneCells_52 rfl (by decide) [1, 0, 2, 3] (lv' := [(0, .ref aQ), (1, .int (bz True)), (2, .int (nI i)), (3, .int (nI (mkN (loneP n N b1 (unF n i) n))))]) rfl ?_
            refine r_perm (ws' := ([(aQ, .inr (8, [.ref aG, .ref aB])), (aG, .inr (5, [.int (nI n), .int (nI N), .int (nI (2 ^ n - 1)), .ref gr, .ref gc, .ref gb, .ref gu])), (gr, .inl (X.1.2.1, N, .inl (gR n))), (gc, .inl (X.1.2.1, N, .inl (gC n))), (gb, .inl (X.1.2.1, N, .inl (gB n))), (gu, .inl (X.1.2.2.2.1, 3 * n, .inr (.inr (.inr (.inr (fun j => some (ra j))))))), (aB, .inr (2, [.ref aG, .ref aS, .ref aR, .ref aC, .ref aX])), (aS, .inl (X.1.2.1, N, .inl (eb b2))), (aR, .inl (X.1.2.1, n, .inl (mR n N b2))), (aC, .inl (X.1.2.1, n, .inl (mC n N b2))), (aX, .inl (X.1.2.1, n, .inl (mB n N b2)))] ++ pl)) (by rw [hp]; exact (ww_mid (a := [(aQ, .inr (8, [.ref aG, .ref aB])), (aG, .inr (5, [.int (nI n), .int (nI N), .int (nI (2 ^ n - 1)), .ref gr, .ref gc, .ref gb, .ref gu])), (gr, .inl (X.1.2.1, N, .inl (gR n))), (gc, .inl (X.1.2.1, N, .inl (gC n))), (gb, .inl (X.1.2.1, N, .inl (gB n))), (gu, .inl (X.1.2.2.2.1, 3 * n, .inr (.inr (.inr (.inr (fun j => some (ra j))))))), (aB, .inr (2, [.ref aG, .ref aS, .ref aR, .ref aC, .ref aX])), (aS, .inl (X.1.2.1, N, .inl (eb b2))), (aR, .inl (X.1.2.1, n, .inl (mR n N b2))), (aC, .inl (X.1.2.1, n, .inl (mC n N b2))), (aX, .inl (X.1.2.1, n, .inl (mB n N b2)))]) (p1 := p1) (p2 := p2)).symm) ?_
            refine r_iinc C dX7_fillLoneCells_53 2 rfl (v := nI (i + 1)) (nI_add _ _) (by decide) [1, 2, 0, 3] (lv' := [(0, .ref aQ), (1, .int (bz True)), (2, .int (nI (i + 1))), (3, .int (nI (mkN (loneP n N b1 (unF n i) n))))]) rfl ?_
            refine r_goto (tgt := 4) C dX7_fillLoneCells_56 (by decide) ?_
            refine r_lv [0, 1, 2] (lv' := [(0, .ref aQ), (1, .int (bz True)), (2, .int (nI (i + 1)))]) rfl ?_
            exact ih4 (i + 1) True b2 (by omega) (by omega) p45_0 (fun q => absurd trivial q) (fun _ => by have h9 := p45_2 h48; have h8 := fil_lt hs0 hs1; omega)
  exact L4 ((3 * n - 0) + 1) 0 False b (Nat.lt_succ_self _) (Nat.zero_le _) hI (fun _ => ⟨rfl, fun c q => absurd q (Nat.not_lt_zero c)⟩) False.elim
theorem fX7_countUnknown_18 : Cond.fieldLink RX7 18 (TX7 1).1 (TX7 1).2.1 (TX7 1).2.2.1 ∈ wsX7_countUnknown := List.mem_of_getElem? (i := 1) rfl
theorem iX7_countUnknown_X7 : ∀ w ∈ wsX70, w ∈ wsX7_countUnknown := by decide +kernel
theorem fX7_countUnknown_7 : Cond.fieldLink RX7 7 (TX7 0).1 (TX7 0).2.1 (TX7 0).2.2.1 ∈ wsX7_countUnknown := List.mem_of_getElem? (i := 2) rfl
theorem fX7_countUnknown_26 : Cond.fieldLink RX7 26 (TX4 1).1 (TX4 1).2.1 (TX4 1).2.2.1 ∈ wsX7_countUnknown := List.mem_of_getElem? (i := 3) rfl
theorem iX7_countUnknown_X4 : ∀ w ∈ wsX40, w ∈ wsX7_countUnknown := by decide +kernel
set_option maxHeartbeats 4000000 in
set_option maxRecDepth 100000 in
theorem c_X7_countUnknown {g : ww_G} {l : Launch} {n : Nat} {N : Nat} {aG : Nat} {gr : Nat} {gc : Nat} {gb : Nat} {gu : Nat} {aB : Nat} {aS : Nat} {aR : Nat} {aC : Nat} {aX : Nat} {f : Nat → Int32} {fR : Nat → Int32} {fC : Nat → Int32} {fB : Nat → Int32} {aQ : Nat} {A : Nat → Nat} {gv : Nat → Option Nat} {ra : Nat → Nat} {pl : va_W} {aV : Nat} (hn : (n = 4 ∧ N = 16) ∨ (n = 6 ∧ N = 36)) (hA : fulA n N A) (hok : okB n N gv) (hsub : subA N gv A) (hpl : ∀ u, u < 3 * n → ∃ p1 p2, pl = p1 ++ (ra u, .inl (g.2.1, n, .inl (nO (unF n u)))) :: p2) : CT g l yX7_countUnknown wsX7_countUnknown (ww_rm 5) [.ref aQ, .ref aV] ([(aQ, .inr (8, [.ref aG, .ref aB])), (aG, .inr (5, [.int (nI n), .int (nI N), .int (nI (2 ^ n - 1)), .ref gr, .ref gc, .ref gb, .ref gu])), (gr, .inl (g.2.1, N, .inl (gR n))), (gc, .inl (g.2.1, N, .inl (gC n))), (gb, .inl (g.2.1, N, .inl (gB n))), (gu, .inl (g.2.2.2.1, 3 * n, .inr (.inr (.inr (.inr (fun j => some (ra j))))))), (aB, .inr (2, [.ref aG, .ref aS, .ref aR, .ref aC, .ref aX])), (aS, .inl (g.2.1, N, .inl f)), (aR, .inl (g.2.1, n, .inl fR)), (aC, .inl (g.2.1, n, .inl fC)), (aX, .inl (g.2.1, n, .inl fB)), (aV, .inl (g.2.1, N, .inl (eb gv)))] ++ pl) (S := (Nat → Option Nat)) (fun v u => v = some (.int (nI (leftN n N A gv)))) (fun u => ([(aQ, .inr (8, [.ref aG, .ref aB])), (aG, .inr (5, [.int (nI n), .int (nI N), .int (nI (2 ^ n - 1)), .ref gr, .ref gc, .ref gb, .ref gu])), (gr, .inl (g.2.1, N, .inl (gR n))), (gc, .inl (g.2.1, N, .inl (gC n))), (gb, .inl (g.2.1, N, .inl (gB n))), (gu, .inl (g.2.2.2.1, 3 * n, .inr (.inr (.inr (.inr (fun j => some (ra j))))))), (aB, .inr (2, [.ref aG, .ref aS, .ref aR, .ref aC, .ref aX])), (aS, .inl (g.2.1, N, .inl (eb u))), (aR, .inl (g.2.1, n, .inl (mR n N u))), (aC, .inl (g.2.1, n, .inl (mC n N u))), (aX, .inl (g.2.1, n, .inl (mB n N u))), (aV, .inl (g.2.1, N, .inl (eb gv)))] ++ pl)) := by
  refine CT.of cX7_countUnknown 6 (some .int) RX7 (by decide +kernel) rfl rfl (Nat.le_of_ble_eq_true rfl) ?_
  intro X hg hl C hret
  subst hg; subst hl
  show RW X 0 0 0 [(0, .ref aQ), (1, .ref aV)] [] ([(aQ, .inr (8, [.ref aG, .ref aB])), (aG, .inr (5, [.int (nI n), .int (nI N), .int (nI (2 ^ n - 1)), .ref gr, .ref gc, .ref gb, .ref gu])), (gr, .inl (X.1.2.1, N, .inl (gR n))), (gc, .inl (X.1.2.1, N, .inl (gC n))), (gb, .inl (X.1.2.1, N, .inl (gB n))), (gu, .inl (X.1.2.2.2.1, 3 * n, .inr (.inr (.inr (.inr (fun j => some (ra j))))))), (aB, .inr (2, [.ref aG, .ref aS, .ref aR, .ref aC, .ref aX])), (aS, .inl (X.1.2.1, N, .inl f)), (aR, .inl (X.1.2.1, n, .inl fR)), (aC, .inl (X.1.2.1, n, .inl fC)), (aX, .inl (X.1.2.1, n, .inl fB)), (aV, .inl (X.1.2.1, N, .inl (eb gv)))] ++ pl)
  refine r_aload_n C dX7_countUnknown_0 0 rfl rfl ?_
  refine r_get C dX7_countUnknown_1 iX7_countUnknown_X7 1 fX7_countUnknown_18 0 rfl rfl (by decide) rfl ?_
  refine r_aload_n C dX7_countUnknown_4 1 rfl rfl ?_
  refine r_callV0 (n := 1) (ws' := fun (u : Unit) => ([(aQ, .inr (8, [.ref aG, .ref aB])), (aG, .inr (5, [.int (nI n), .int (nI N), .int (nI (2 ^ n - 1)), .ref gr, .ref gc, .ref gb, .ref gu])), (gr, .inl (X.1.2.1, N, .inl (gR n))), (gc, .inl (X.1.2.1, N, .inl (gC n))), (gb, .inl (X.1.2.1, N, .inl (gB n))), (gu, .inl (X.1.2.2.2.1, 3 * n, .inr (.inr (.inr (.inr (fun j => some (ra j))))))), (aB, .inr (2, [.ref aG, .ref aS, .ref aR, .ref aC, .ref aX])), (aS, .inl (X.1.2.1, N, .inl (eb gv))), (aR, .inl (X.1.2.1, n, .inl (mR n N gv))), (aC, .inl (X.1.2.1, n, .inl (mC n N gv))), (aX, .inl (X.1.2.1, n, .inl (mB n N gv))), (aV, .inl (X.1.2.1, N, .inl (eb gv)))] ++ pl)) C dX7_countUnknown_5 (c_X1_putAll (g := X.1) (l := X.2.2.1) (n := n) (N := N) (aG := aG) (gr := gr) (gc := gc) (gb := gb) (gu := gu) (aB := aB) (aS := aS) (aR := aR) (aC := aC) (aX := aX) (f := f) (fR := fR) (fC := fC) (fB := fB) (aV := aV) (gv := gv) (hn := (by first | assumption | omega)) (hok := (by first | assumption | omega))) gX7_countUnknown_X1_putAll rfl (by decide +kernel) rfl ⟨Nat.le_of_ble_eq_true rfl, Nat.le_of_ble_eq_true rfl⟩ ⟨rfl, rfl⟩ ⟨Nat.zero_le _, Nat.zero_le _⟩ (rest := []) rfl (Nat.le_of_ble_eq_true rfl) 4 rfl rfl [1, 2, 3, 4, 6, 7, 8, 9, 10, 11] (by decide) rfl (fun u => Eq.trans (b := [aG, gr, gc, gb, aB, aS, aR, aC, aX, aV]) rfl rfl) (fun u => rfl) (fun v u hp => ?_)
  obtain rfl := hp
  show RW X 0 0 8 [(0, .ref aQ), (1, .ref aV)] [] ([(aQ, .inr (8, [.ref aG, .ref aB])), (aG, .inr (5, [.int (nI n), .int (nI N), .int (nI (2 ^ n - 1)), .ref gr, .ref gc, .ref gb, .ref gu])), (gr, .inl (X.1.2.1, N, .inl (gR n))), (gc, .inl (X.1.2.1, N, .inl (gC n))), (gb, .inl (X.1.2.1, N, .inl (gB n))), (gu, .inl (X.1.2.2.2.1, 3 * n, .inr (.inr (.inr (.inr (fun j => some (ra j))))))), (aB, .inr (2, [.ref aG, .ref aS, .ref aR, .ref aC, .ref aX])), (aS, .inl (X.1.2.1, N, .inl (eb gv))), (aR, .inl (X.1.2.1, n, .inl (mR n N gv))), (aC, .inl (X.1.2.1, n, .inl (mC n N gv))), (aX, .inl (X.1.2.1, n, .inl (mB n N gv))), (aV, .inl (X.1.2.1, N, .inl (eb gv)))] ++ pl)
  refine r_iconst C dX7_countUnknown_8 (v := bz True) (by rw [bz_t trivial]; decide) ?_
  refine r_istore_n C dX7_countUnknown_9 rfl (by decide) [1, 2, 0] (lv' := [(0, .ref aQ), (1, .ref aV), (2, .int (bz True))]) rfl ?_
  refine r_iconst C dX7_countUnknown_10 (v := nI 0) (by decide) ?_
  refine r_istore_n C dX7_countUnknown_11 rfl (by decide) [1, 2, 3, 0] (lv' := [(0, .ref aQ), (1, .ref aV), (2, .int (bz True)), (3, .int (nI 0))]) rfl ?_
  have L12 : ∀ (d12 : Nat) (rd : Nat) (mo : Prop) (b1 : Nat → Option Nat), (N + 1 - rd) < d12 → (rd ≤ N + 1) → (invK n N A gv b1) → (mo → rd ≤ fil N b1) → (¬ mo → closedB n N A b1) → RW X 0 0 12 [(0, .ref aQ), (1, .ref aV), (2, .int (bz mo)), (3, .int (nI rd))] [] ([(aQ, .inr (8, [.ref aG, .ref aB])), (aG, .inr (5, [.int (nI n), .int (nI N), .int (nI (2 ^ n - 1)), .ref gr, .ref gc, .ref gb, .ref gu])), (gr, .inl (X.1.2.1, N, .inl (gR n))), (gc, .inl (X.1.2.1, N, .inl (gC n))), (gb, .inl (X.1.2.1, N, .inl (gB n))), (gu, .inl (X.1.2.2.2.1, 3 * n, .inr (.inr (.inr (.inr (fun j => some (ra j))))))), (aB, .inr (2, [.ref aG, .ref aS, .ref aR, .ref aC, .ref aX])), (aS, .inl (X.1.2.1, N, .inl (eb b1))), (aR, .inl (X.1.2.1, n, .inl (mR n N b1))), (aC, .inl (X.1.2.1, n, .inl (mC n N b1))), (aX, .inl (X.1.2.1, n, .inl (mB n N b1))), (aV, .inl (X.1.2.1, N, .inl (eb gv)))] ++ pl) := by
    intro d12
    induction d12 with
    | zero => intro rd mo b1 hd12; exact absurd hd12 (Nat.not_lt_zero _)
    | succ d12 ih12 =>
      intro rd mo b1 hd12 hrd hI1 hm1 hm0
      refine r_iload_n C dX7_countUnknown_12 3 rfl rfl ?_
      refine r_aload_n C dX7_countUnknown_13 0 rfl rfl ?_
      refine r_get C dX7_countUnknown_14 iX7_countUnknown_X7 0 fX7_countUnknown_7 0 rfl rfl (by decide) rfl ?_
      refine r_get C dX7_countUnknown_17 iX7_countUnknown_X4 1 fX7_countUnknown_26 1 rfl rfl (by decide) rfl ?_
      refine r_icmp_gt (tgt := 61) C dX7_countUnknown_20 (by decide) (fun h20 => ?_) (fun h20 => ?_)
      · have h20 : N < rd := (nI_ltI (by omega) (by omega)).mp h20
        have hcl : closedB n N A b1 := hm0 (fun w => by have h9 := hm1 w; have h8 := cn_le (P := fun c => b1 c ≠ none) N; have h7 : fil N b1 ≤ N := h8; omega)
        refine r_iconst C dX7_countUnknown_61 (v := nI 0) (by decide) ?_
        refine r_istore_n C dX7_countUnknown_62 rfl (by decide) [1, 2, 3, 0] (lv' := [(0, .ref aQ), (1, .ref aV), (2, .int (bz mo)), (3, .int (nI 0))]) rfl ?_
        refine r_iconst C dX7_countUnknown_63 (v := nI 0) (by decide) ?_
        refine r_istore C dX7_countUnknown_64 (by decide) [1, 2, 3, 4, 0] (lv' := [(0, .ref aQ), (1, .ref aV), (2, .int (bz mo)), (3, .int (nI 0)), (4, .int (nI 0))]) rfl ?_
        have L66 : ∀ (d66 : Nat) (k : Nat) (c : Nat), (N - c) < d66 → (c ≤ N) → (k = cn (fun d => b1 d = none) c) → RW X 0 0 66 [(0, .ref aQ), (3, .int (nI k)), (4, .int (nI c))] [] ([(aQ, .inr (8, [.ref aG, .ref aB])), (aG, .inr (5, [.int (nI n), .int (nI N), .int (nI (2 ^ n - 1)), .ref gr, .ref gc, .ref gb, .ref gu])), (gr, .inl (X.1.2.1, N, .inl (gR n))), (gc, .inl (X.1.2.1, N, .inl (gC n))), (gb, .inl (X.1.2.1, N, .inl (gB n))), (gu, .inl (X.1.2.2.2.1, 3 * n, .inr (.inr (.inr (.inr (fun j => some (ra j))))))), (aB, .inr (2, [.ref aG, .ref aS, .ref aR, .ref aC, .ref aX])), (aS, .inl (X.1.2.1, N, .inl (eb b1))), (aR, .inl (X.1.2.1, n, .inl (mR n N b1))), (aC, .inl (X.1.2.1, n, .inl (mC n N b1))), (aX, .inl (X.1.2.1, n, .inl (mB n N b1))), (aV, .inl (X.1.2.1, N, .inl (eb gv)))] ++ pl) := by
          intro d66
          induction d66 with
          | zero => intro k c hd66; exact absurd hd66 (Nat.not_lt_zero _)
          | succ d66 ih66 =>
            intro k c hd66 hc hk
            refine r_iload C dX7_countUnknown_66 2 rfl ?_
            refine r_aload_n C dX7_countUnknown_68 0 rfl rfl ?_
            refine r_get C dX7_countUnknown_69 iX7_countUnknown_X7 0 fX7_countUnknown_7 0 rfl rfl (by decide) rfl ?_
            refine r_get C dX7_countUnknown_72 iX7_countUnknown_X4 1 fX7_countUnknown_26 1 rfl rfl (by decide) rfl ?_
            refine r_icmp_ge (tgt := 99) C dX7_countUnknown_75 (by decide) (fun h75 => ?_) (fun h75 => ?_)
            · have h75 : N ≤ c := (nI_leI (by omega) (by omega)).mp h75
              refine r_iload_n C dX7_countUnknown_99 1 rfl rfl ?_
              refine r_top (y := nI (leftN n N A gv)) (congrArg nI (by rw [hk, show c = N by omega]; exact left_end hI1 hcl)) ?_
              exact hret _ _ _ (b1) rfl (Or.inr ⟨_, rfl, dX7_countUnknown_100, Or.inl rfl⟩)
            · have h75 : ¬ (N ≤ c) := fun e9 => h75 ((nI_leI (by omega) (by omega)).mpr e9)
              refine r_aload_n C dX7_countUnknown_78 0 rfl rfl ?_
              refine r_get C dX7_countUnknown_79 iX7_countUnknown_X7 1 fX7_countUnknown_18 0 rfl rfl (by decide) rfl ?_
              refine r_iload C dX7_countUnknown_82 2 rfl ?_
              refine r_callV0 (n := 1) (ws' := fun (u : Unit) => ([(aQ, .inr (8, [.ref aG, .ref aB])), (aG, .inr (5, [.int (nI n), .int (nI N), .int (nI (2 ^ n - 1)), .ref gr, .ref gc, .ref gb, .ref gu])), (gr, .inl (X.1.2.1, N, .inl (gR n))), (gc, .inl (X.1.2.1, N, .inl (gC n))), (gb, .inl (X.1.2.1, N, .inl (gB n))), (gu, .inl (X.1.2.2.2.1, 3 * n, .inr (.inr (.inr (.inr (fun j => some (ra j))))))), (aB, .inr (2, [.ref aG, .ref aS, .ref aR, .ref aC, .ref aX])), (aS, .inl (X.1.2.1, N, .inl (eb b1))), (aR, .inl (X.1.2.1, n, .inl (mR n N b1))), (aC, .inl (X.1.2.1, n, .inl (mC n N b1))), (aX, .inl (X.1.2.1, n, .inl (mB n N b1))), (aV, .inl (X.1.2.1, N, .inl (eb gv)))] ++ pl)) C dX7_countUnknown_84 (c_X1_isEmpty (g := X.1) (l := X.2.2.1) (N := N) (aG := aG) (aB := aB) (aS := aS) (aR := aR) (aC := aC) (aX := aX) (f := eb b1) (c := c) (hN := (by omega)) (hc := (by omega))) gX7_countUnknown_X1_isEmpty rfl (by decide +kernel) rfl ⟨Nat.le_of_ble_eq_true rfl, Nat.le_of_ble_eq_true rfl⟩ ⟨rfl, rfl⟩ ⟨Nat.zero_le _, Nat.zero_le _⟩ (rest := []) rfl (Nat.le_of_ble_eq_true rfl) 0 rfl rfl [6, 7] (by decide) rfl (fun u => Eq.trans (b := [aB, aS]) rfl rfl) (fun u => rfl) (fun v u hp => ?_)
              obtain rfl := hp
              show RW X 0 0 87 [(0, .ref aQ), (3, .int (nI k)), (4, .int (nI c))] [.int (bz ((eb b1) c < 0))] ([(aQ, .inr (8, [.ref aG, .ref aB])), (aG, .inr (5, [.int (nI n), .int (nI N), .int (nI (2 ^ n - 1)), .ref gr, .ref gc, .ref gb, .ref gu])), (gr, .inl (X.1.2.1, N, .inl (gR n))), (gc, .inl (X.1.2.1, N, .inl (gC n))), (gb, .inl (X.1.2.1, N, .inl (gB n))), (gu, .inl (X.1.2.2.2.1, 3 * n, .inr (.inr (.inr (.inr (fun j => some (ra j))))))), (aB, .inr (2, [.ref aG, .ref aS, .ref aR, .ref aC, .ref aX])), (aS, .inl (X.1.2.1, N, .inl (eb b1))), (aR, .inl (X.1.2.1, n, .inl (mR n N b1))), (aC, .inl (X.1.2.1, n, .inl (mC n N b1))), (aX, .inl (X.1.2.1, n, .inl (mB n N b1))), (aV, .inl (X.1.2.1, N, .inl (eb gv)))] ++ pl)
              refine r_if_eq (tgt := 93) C dX7_countUnknown_87 (by decide) (fun h87 => ?_) (fun h87 => ?_)
              · have h87 : ¬ ((eb b1) c < 0) := bz_0.mp h87
                refine r_iinc C dX7_countUnknown_93 2 rfl (v := nI (c + 1)) (nI_add _ _) (by decide) [1, 2, 0] (lv' := [(0, .ref aQ), (3, .int (nI k)), (4, .int (nI (c + 1)))]) rfl ?_
                refine r_goto (tgt := 66) C dX7_countUnknown_96 (by decide) ?_
                exact ih66 k (c + 1) (by omega) (by omega) (by show k = _ + dI _; rw [dI_f (fun w => h87 (by show eo (b1 c) < 0; rw [w]; decide))]; exact hk)
              · have h87 : (eb b1) c < 0 := bz_n0.mp h87
                refine r_iinc C dX7_countUnknown_90 1 rfl (v := nI (k + 1)) (nI_add _ _) (by decide) [1, 0, 2] (lv' := [(0, .ref aQ), (3, .int (nI (k + 1))), (4, .int (nI c))]) rfl ?_
                refine r_iinc C dX7_countUnknown_93 2 rfl (v := nI (c + 1)) (nI_add _ _) (by decide) [1, 2, 0] (lv' := [(0, .ref aQ), (3, .int (nI (k + 1))), (4, .int (nI (c + 1)))]) rfl ?_
                refine r_goto (tgt := 66) C dX7_countUnknown_96 (by decide) ?_
                exact ih66 (k + 1) (c + 1) (by omega) (by omega) (by show k + 1 = _ + dI _; rw [dI_t (subA_none hA hI1.1 hn (by omega) h87), hk])
        refine r_lv [0, 3, 4] (lv' := [(0, .ref aQ), (3, .int (nI 0)), (4, .int (nI 0))]) rfl ?_
        exact L66 ((N - 0) + 1) 0 0 (Nat.lt_succ_self _) (Nat.zero_le _) rfl
      · have h20 : ¬ (N < rd) := fun e9 => h20 ((nI_ltI (by omega) (by omega)).mpr e9)
        refine r_iload_n C dX7_countUnknown_23 2 rfl rfl ?_
        refine r_if_eq (tgt := 61) C dX7_countUnknown_24 (by decide) (fun h24 => ?_) (fun h24 => ?_)
        · have h24 : ¬ (mo) := bz_0.mp h24
          have hcl : closedB n N A b1 := hm0 h24
          refine r_iconst C dX7_countUnknown_61 (v := nI 0) (by decide) ?_
          refine r_istore_n C dX7_countUnknown_62 rfl (by decide) [1, 2, 3, 0] (lv' := [(0, .ref aQ), (1, .ref aV), (2, .int (bz mo)), (3, .int (nI 0))]) rfl ?_
          refine r_iconst C dX7_countUnknown_63 (v := nI 0) (by decide) ?_
          refine r_istore C dX7_countUnknown_64 (by decide) [1, 2, 3, 4, 0] (lv' := [(0, .ref aQ), (1, .ref aV), (2, .int (bz mo)), (3, .int (nI 0)), (4, .int (nI 0))]) rfl ?_
          have L66 : ∀ (d66 : Nat) (k : Nat) (c : Nat), (N - c) < d66 → (c ≤ N) → (k = cn (fun d => b1 d = none) c) → RW X 0 0 66 [(0, .ref aQ), (3, .int (nI k)), (4, .int (nI c))] [] ([(aQ, .inr (8, [.ref aG, .ref aB])), (aG, .inr (5, [.int (nI n), .int (nI N), .int (nI (2 ^ n - 1)), .ref gr, .ref gc, .ref gb, .ref gu])), (gr, .inl (X.1.2.1, N, .inl (gR n))), (gc, .inl (X.1.2.1, N, .inl (gC n))), (gb, .inl (X.1.2.1, N, .inl (gB n))), (gu, .inl (X.1.2.2.2.1, 3 * n, .inr (.inr (.inr (.inr (fun j => some (ra j))))))), (aB, .inr (2, [.ref aG, .ref aS, .ref aR, .ref aC, .ref aX])), (aS, .inl (X.1.2.1, N, .inl (eb b1))), (aR, .inl (X.1.2.1, n, .inl (mR n N b1))), (aC, .inl (X.1.2.1, n, .inl (mC n N b1))), (aX, .inl (X.1.2.1, n, .inl (mB n N b1))), (aV, .inl (X.1.2.1, N, .inl (eb gv)))] ++ pl) := by
            intro d66
            induction d66 with
            | zero => intro k c hd66; exact absurd hd66 (Nat.not_lt_zero _)
            | succ d66 ih66 =>
              intro k c hd66 hc hk
              refine r_iload C dX7_countUnknown_66 2 rfl ?_
              refine r_aload_n C dX7_countUnknown_68 0 rfl rfl ?_
              refine r_get C dX7_countUnknown_69 iX7_countUnknown_X7 0 fX7_countUnknown_7 0 rfl rfl (by decide) rfl ?_
              refine r_get C dX7_countUnknown_72 iX7_countUnknown_X4 1 fX7_countUnknown_26 1 rfl rfl (by decide) rfl ?_
              refine r_icmp_ge (tgt := 99) C dX7_countUnknown_75 (by decide) (fun h75 => ?_) (fun h75 => ?_)
              · have h75 : N ≤ c := (nI_leI (by omega) (by omega)).mp h75
                refine r_iload_n C dX7_countUnknown_99 1 rfl rfl ?_
                refine r_top (y := nI (leftN n N A gv)) (congrArg nI (by rw [hk, show c = N by omega]; exact left_end hI1 hcl)) ?_
                exact hret _ _ _ (b1) rfl (Or.inr ⟨_, rfl, dX7_countUnknown_100, Or.inl rfl⟩)
              · have h75 : ¬ (N ≤ c) := fun e9 => h75 ((nI_leI (by omega) (by omega)).mpr e9)
                refine r_aload_n C dX7_countUnknown_78 0 rfl rfl ?_
                refine r_get C dX7_countUnknown_79 iX7_countUnknown_X7 1 fX7_countUnknown_18 0 rfl rfl (by decide) rfl ?_
                refine r_iload C dX7_countUnknown_82 2 rfl ?_
                refine r_callV0 (n := 1) (ws' := fun (u : Unit) => ([(aQ, .inr (8, [.ref aG, .ref aB])), (aG, .inr (5, [.int (nI n), .int (nI N), .int (nI (2 ^ n - 1)), .ref gr, .ref gc, .ref gb, .ref gu])), (gr, .inl (X.1.2.1, N, .inl (gR n))), (gc, .inl (X.1.2.1, N, .inl (gC n))), (gb, .inl (X.1.2.1, N, .inl (gB n))), (gu, .inl (X.1.2.2.2.1, 3 * n, .inr (.inr (.inr (.inr (fun j => some (ra j))))))), (aB, .inr (2, [.ref aG, .ref aS, .ref aR, .ref aC, .ref aX])), (aS, .inl (X.1.2.1, N, .inl (eb b1))), (aR, .inl (X.1.2.1, n, .inl (mR n N b1))), (aC, .inl (X.1.2.1, n, .inl (mC n N b1))), (aX, .inl (X.1.2.1, n, .inl (mB n N b1))), (aV, .inl (X.1.2.1, N, .inl (eb gv)))] ++ pl)) C dX7_countUnknown_84 (c_X1_isEmpty (g := X.1) (l := X.2.2.1) (N := N) (aG := aG) (aB := aB) (aS := aS) (aR := aR) (aC := aC) (aX := aX) (f := eb b1) (c := c) (hN := (by omega)) (hc := (by omega))) gX7_countUnknown_X1_isEmpty rfl (by decide +kernel) rfl ⟨Nat.le_of_ble_eq_true rfl, Nat.le_of_ble_eq_true rfl⟩ ⟨rfl, rfl⟩ ⟨Nat.zero_le _, Nat.zero_le _⟩ (rest := []) rfl (Nat.le_of_ble_eq_true rfl) 0 rfl rfl [6, 7] (by decide) rfl (fun u => Eq.trans (b := [aB, aS]) rfl rfl) (fun u => rfl) (fun v u hp => ?_)
                obtain rfl := hp
                show RW X 0 0 87 [(0, .ref aQ), (3, .int (nI k)), (4, .int (nI c))] [.int (bz ((eb b1) c < 0))] ([(aQ, .inr (8, [.ref aG, .ref aB])), (aG, .inr (5, [.int (nI n), .int (nI N), .int (nI (2 ^ n - 1)), .ref gr, .ref gc, .ref gb, .ref gu])), (gr, .inl (X.1.2.1, N, .inl (gR n))), (gc, .inl (X.1.2.1, N, .inl (gC n))), (gb, .inl (X.1.2.1, N, .inl (gB n))), (gu, .inl (X.1.2.2.2.1, 3 * n, .inr (.inr (.inr (.inr (fun j => some (ra j))))))), (aB, .inr (2, [.ref aG, .ref aS, .ref aR, .ref aC, .ref aX])), (aS, .inl (X.1.2.1, N, .inl (eb b1))), (aR, .inl (X.1.2.1, n, .inl (mR n N b1))), (aC, .inl (X.1.2.1, n, .inl (mC n N b1))), (aX, .inl (X.1.2.1, n, .inl (mB n N b1))), (aV, .inl (X.1.2.1, N, .inl (eb gv)))] ++ pl)
                refine r_if_eq (tgt := 93) C dX7_countUnknown_87 (by decide) (fun h87 => ?_) (fun h87 => ?_)
                · have h87 : ¬ ((eb b1) c < 0) := bz_0.mp h87
                  refine r_iinc C dX7_countUnknown_93 2 rfl (v := nI (c + 1)) (nI_add _ _) (by decide) [1, 2, 0] (lv' := [(0, .ref aQ), (3, .int (nI k)), (4, .int (nI (c + 1)))]) rfl ?_
                  refine r_goto (tgt := 66) C dX7_countUnknown_96 (by decide) ?_
                  exact ih66 k (c + 1) (by omega) (by omega) (by show k = _ + dI _; rw [dI_f (fun w => h87 (by show eo (b1 c) < 0; rw [w]; decide))]; exact hk)
                · have h87 : (eb b1) c < 0 := bz_n0.mp h87
                  refine r_iinc C dX7_countUnknown_90 1 rfl (v := nI (k + 1)) (nI_add _ _) (by decide) [1, 0, 2] (lv' := [(0, .ref aQ), (3, .int (nI (k + 1))), (4, .int (nI c))]) rfl ?_
                  refine r_iinc C dX7_countUnknown_93 2 rfl (v := nI (c + 1)) (nI_add _ _) (by decide) [1, 2, 0] (lv' := [(0, .ref aQ), (3, .int (nI (k + 1))), (4, .int (nI (c + 1)))]) rfl ?_
                  refine r_goto (tgt := 66) C dX7_countUnknown_96 (by decide) ?_
                  exact ih66 (k + 1) (c + 1) (by omega) (by omega) (by show k + 1 = _ + dI _; rw [dI_t (subA_none hA hI1.1 hn (by omega) h87), hk])
          refine r_lv [0, 3, 4] (lv' := [(0, .ref aQ), (3, .int (nI 0)), (4, .int (nI 0))]) rfl ?_
          exact L66 ((N - 0) + 1) 0 0 (Nat.lt_succ_self _) (Nat.zero_le _) rfl
        · have h24 : mo := bz_n0.mp h24
          refine r_aload_n C dX7_countUnknown_27 0 rfl rfl ?_
          refine r_callV0 (n := 0) (ws' := fun (u : Prop × (Nat → Option Nat)) => ([(aQ, .inr (8, [.ref aG, .ref aB])), (aG, .inr (5, [.int (nI n), .int (nI N), .int (nI (2 ^ n - 1)), .ref gr, .ref gc, .ref gb, .ref gu])), (gr, .inl (X.1.2.1, N, .inl (gR n))), (gc, .inl (X.1.2.1, N, .inl (gC n))), (gb, .inl (X.1.2.1, N, .inl (gB n))), (gu, .inl (X.1.2.2.2.1, 3 * n, .inr (.inr (.inr (.inr (fun j => some (ra j))))))), (aB, .inr (2, [.ref aG, .ref aS, .ref aR, .ref aC, .ref aX])), (aS, .inl (X.1.2.1, N, .inl (eb u.2))), (aR, .inl (X.1.2.1, n, .inl (mR n N u.2))), (aC, .inl (X.1.2.1, n, .inl (mC n N u.2))), (aX, .inl (X.1.2.1, n, .inl (mB n N u.2))), (aV, .inl (X.1.2.1, N, .inl (eb gv)))] ++ pl)) C dX7_countUnknown_28 (c_X7_fillLoneSymbols (g := X.1) (l := X.2.2.1) (n := n) (N := N) (aG := aG) (gr := gr) (gc := gc) (gb := gb) (gu := gu) (aB := aB) (aS := aS) (aR := aR) (aC := aC) (aX := aX) (b := b1) (aQ := aQ) (A := A) (gv := gv) (hn := (by first | assumption | omega)) (hA := (by first | assumption | omega)) (hI := hI1)) gX7_countUnknown_X7_fillLoneSymbols rfl (by decide +kernel) rfl ⟨Nat.le_of_ble_eq_true rfl, Nat.le_of_ble_eq_true rfl⟩ ⟨rfl, rfl⟩ ⟨Nat.zero_le _, Nat.zero_le _⟩ (rest := []) rfl (Nat.le_of_ble_eq_true rfl) 0 rfl rfl [0, 1, 2, 3, 4, 6, 7, 8, 9, 10] (by decide) rfl (fun u => Eq.trans (b := [aQ, aG, gr, gc, gb, aB, aS, aR, aC, aX]) rfl rfl) (fun u => rfl) (fun v u hp => ?_)
          obtain ⟨s1, b2⟩ := u
          obtain ⟨rfl, p28_0, p28_1, p28_2⟩ := hp
          try dsimp only at p28_0 p28_1 p28_2
          show RW X 0 0 31 [(0, .ref aQ), (1, .ref aV), (2, .int (bz mo)), (3, .int (nI rd))] [.int (bz s1)] ([(aQ, .inr (8, [.ref aG, .ref aB])), (aG, .inr (5, [.int (nI n), .int (nI N), .int (nI (2 ^ n - 1)), .ref gr, .ref gc, .ref gb, .ref gu])), (gr, .inl (X.1.2.1, N, .inl (gR n))), (gc, .inl (X.1.2.1, N, .inl (gC n))), (gb, .inl (X.1.2.1, N, .inl (gB n))), (gu, .inl (X.1.2.2.2.1, 3 * n, .inr (.inr (.inr (.inr (fun j => some (ra j))))))), (aB, .inr (2, [.ref aG, .ref aS, .ref aR, .ref aC, .ref aX])), (aS, .inl (X.1.2.1, N, .inl (eb b2))), (aR, .inl (X.1.2.1, n, .inl (mR n N b2))), (aC, .inl (X.1.2.1, n, .inl (mC n N b2))), (aX, .inl (X.1.2.1, n, .inl (mB n N b2))), (aV, .inl (X.1.2.1, N, .inl (eb gv)))] ++ pl)
          refine r_istore C dX7_countUnknown_31 (by decide) [1, 2, 3, 4, 0] (lv' := [(0, .ref aQ), (1, .ref aV), (2, .int (bz mo)), (3, .int (nI rd)), (4, .int (bz s1))]) rfl ?_
          refine r_aload_n C dX7_countUnknown_33 0 rfl rfl ?_
          refine r_callV0t (n := 0) (pl := pl) (w1x := fun (u : Prop × (Nat → Option Nat)) => [(aQ, .inr (8, [.ref aG, .ref aB])), (aG, .inr (5, [.int (nI n), .int (nI N), .int (nI (2 ^ n - 1)), .ref gr, .ref gc, .ref gb, .ref gu])), (gr, .inl (X.1.2.1, N, .inl (gR n))), (gc, .inl (X.1.2.1, N, .inl (gC n))), (gb, .inl (X.1.2.1, N, .inl (gB n))), (gu, .inl (X.1.2.2.2.1, 3 * n, .inr (.inr (.inr (.inr (fun j => some (ra j))))))), (aB, .inr (2, [.ref aG, .ref aS, .ref aR, .ref aC, .ref aX])), (aS, .inl (X.1.2.1, N, .inl (eb u.2))), (aR, .inl (X.1.2.1, n, .inl (mR n N u.2))), (aC, .inl (X.1.2.1, n, .inl (mC n N u.2))), (aX, .inl (X.1.2.1, n, .inl (mB n N u.2)))]) (wx' := fun (u : Prop × (Nat → Option Nat)) => [(aQ, .inr (8, [.ref aG, .ref aB])), (aG, .inr (5, [.int (nI n), .int (nI N), .int (nI (2 ^ n - 1)), .ref gr, .ref gc, .ref gb, .ref gu])), (gr, .inl (X.1.2.1, N, .inl (gR n))), (gc, .inl (X.1.2.1, N, .inl (gC n))), (gb, .inl (X.1.2.1, N, .inl (gB n))), (gu, .inl (X.1.2.2.2.1, 3 * n, .inr (.inr (.inr (.inr (fun j => some (ra j))))))), (aB, .inr (2, [.ref aG, .ref aS, .ref aR, .ref aC, .ref aX])), (aS, .inl (X.1.2.1, N, .inl (eb u.2))), (aR, .inl (X.1.2.1, n, .inl (mR n N u.2))), (aC, .inl (X.1.2.1, n, .inl (mC n N u.2))), (aX, .inl (X.1.2.1, n, .inl (mB n N u.2))), (aV, .inl (X.1.2.1, N, .inl (eb gv)))]) C dX7_countUnknown_34 (c_X7_fillLoneCells (g := X.1) (l := X.2.2.1) (n := n) (N := N) (aG := aG) (gr := gr) (gc := gc) (gb := gb) (gu := gu) (aB := aB) (aS := aS) (aR := aR) (aC := aC) (aX := aX) (b := b2) (aQ := aQ) (A := A) (gv := gv) (ra := ra) (pl := pl) (hn := (by first | assumption | omega)) (hA := (by first | assumption | omega)) (hI := p28_0) (hpl := hpl)) gX7_countUnknown_X7_fillLoneCells rfl (by decide +kernel) rfl ⟨Nat.le_of_ble_eq_true rfl, Nat.le_of_ble_eq_true rfl⟩ ⟨rfl, rfl⟩ ⟨Nat.zero_le _, Nat.zero_le _⟩ (rest := []) rfl (Nat.le_of_ble_eq_true rfl) 0 rfl rfl [0, 1, 2, 3, 4, 5, 6, 7, 8, 9, 10] (by decide) (show ∀ i ∈ ([0, 1, 2, 3, 4, 5, 6, 7, 8, 9, 10] : List Nat), i < 12 by decide) rfl (fun u => Eq.trans (b := [aQ, aG, gr, gc, gb, gu, aB, aS, aR, aC, aX]) rfl rfl) (fun u => rfl) (fun v u hp => ?_)
          obtain ⟨s2, b3⟩ := u
          obtain ⟨rfl, p34_0, p34_1, p34_2⟩ := hp
          try dsimp only at p34_0 p34_1 p34_2
          show RW X 0 0 37 [(0, .ref aQ), (1, .ref aV), (2, .int (bz mo)), (3, .int (nI rd)), (4, .int (bz s1))] [.int (bz s2)] ([(aQ, .inr (8, [.ref aG, .ref aB])), (aG, .inr (5, [.int (nI n), .int (nI N), .int (nI (2 ^ n - 1)), .ref gr, .ref gc, .ref gb, .ref gu])), (gr, .inl (X.1.2.1, N, .inl (gR n))), (gc, .inl (X.1.2.1, N, .inl (gC n))), (gb, .inl (X.1.2.1, N, .inl (gB n))), (gu, .inl (X.1.2.2.2.1, 3 * n, .inr (.inr (.inr (.inr (fun j => some (ra j))))))), (aB, .inr (2, [.ref aG, .ref aS, .ref aR, .ref aC, .ref aX])), (aS, .inl (X.1.2.1, N, .inl (eb b3))), (aR, .inl (X.1.2.1, n, .inl (mR n N b3))), (aC, .inl (X.1.2.1, n, .inl (mC n N b3))), (aX, .inl (X.1.2.1, n, .inl (mB n N b3))), (aV, .inl (X.1.2.1, N, .inl (eb gv)))] ++ pl)
          refine r_istore C dX7_countUnknown_37 (by decide) [1, 2, 3, 4, 5, 0] (lv' := [(0, .ref aQ), (1, .ref aV), (2, .int (bz mo)), (3, .int (nI rd)), (4, .int (bz s1)), (5, .int (bz s2))]) rfl ?_
          refine r_iload C dX7_countUnknown_39 4 rfl ?_
          refine r_if_ne (tgt := 49) C dX7_countUnknown_41 (by decide) (fun h41 => ?_) (fun h41 => ?_)
          · have h41 : s1 := bz_n0.mp h41
            refine r_iconst C dX7_countUnknown_49 (v := nI 1) (by decide) ?_
            refine r_goto (tgt := 54) C dX7_countUnknown_50 (by decide) ?_
            refine r_top (y := bz (s1 ∨ s2)) (bz_t (Or.inl h41)).symm ?_
            refine r_istore_n C dX7_countUnknown_54 rfl (by decide) [1, 2, 0, 3, 4, 5] (lv' := [(0, .ref aQ), (1, .ref aV), (2, .int (bz (s1 ∨ s2))), (3, .int (nI rd)), (4, .int (bz s1)), (5, .int (bz s2))]) rfl ?_
            refine r_iinc C dX7_countUnknown_55 3 rfl (v := nI (rd + 1)) (nI_add _ _) (by decide) [1, 2, 3, 0, 4, 5] (lv' := [(0, .ref aQ), (1, .ref aV), (2, .int (bz (s1 ∨ s2))), (3, .int (nI (rd + 1))), (4, .int (bz s1)), (5, .int (bz s2))]) rfl ?_
            refine r_goto (tgt := 12) C dX7_countUnknown_58 (by decide) ?_
            refine r_lv [0, 1, 2, 3] (lv' := [(0, .ref aQ), (1, .ref aV), (2, .int (bz (s1 ∨ s2))), (3, .int (nI (rd + 1)))]) rfl ?_
            exact ih12 (rd + 1) (s1 ∨ s2) b3 (by omega) (by omega) p34_0 (fun q => by have h9 := hm1 h24; have := fil_go p28_1 p28_2 p34_1 p34_2 q; omega) (fun q => by
                          have e2 := p28_1 (fun w => q (Or.inl w))
                          have e3 := p34_1 (fun w => q (Or.inr w))
                          rw [e3.1, e2.1]
                          have e4 := e3.2
                          rw [e2.1] at e4
                          exact closed_of hn hA hI1.1 e2.2 e4)
          · have h41 : ¬ (s1) := bz_0.mp h41
            refine r_iload C dX7_countUnknown_44 5 rfl ?_
            refine r_if_eq (tgt := 53) C dX7_countUnknown_46 (by decide) (fun h46 => ?_) (fun h46 => ?_)
            · have h46 : ¬ (s2) := bz_0.mp h46
              refine r_iconst C dX7_countUnknown_53 (v := nI 0) (by decide) ?_
              refine r_top (y := bz (s1 ∨ s2)) (bz_f (fun w => w.elim h41 h46)).symm ?_
              refine r_istore_n C dX7_countUnknown_54 rfl (by decide) [1, 2, 0, 3, 4, 5] (lv' := [(0, .ref aQ), (1, .ref aV), (2, .int (bz (s1 ∨ s2))), (3, .int (nI rd)), (4, .int (bz s1)), (5, .int (bz s2))]) rfl ?_
              refine r_iinc C dX7_countUnknown_55 3 rfl (v := nI (rd + 1)) (nI_add _ _) (by decide) [1, 2, 3, 0, 4, 5] (lv' := [(0, .ref aQ), (1, .ref aV), (2, .int (bz (s1 ∨ s2))), (3, .int (nI (rd + 1))), (4, .int (bz s1)), (5, .int (bz s2))]) rfl ?_
              refine r_goto (tgt := 12) C dX7_countUnknown_58 (by decide) ?_
              refine r_lv [0, 1, 2, 3] (lv' := [(0, .ref aQ), (1, .ref aV), (2, .int (bz (s1 ∨ s2))), (3, .int (nI (rd + 1)))]) rfl ?_
              exact ih12 (rd + 1) (s1 ∨ s2) b3 (by omega) (by omega) p34_0 (fun q => by have h9 := hm1 h24; have := fil_go p28_1 p28_2 p34_1 p34_2 q; omega) (fun q => by
                            have e2 := p28_1 (fun w => q (Or.inl w))
                            have e3 := p34_1 (fun w => q (Or.inr w))
                            rw [e3.1, e2.1]
                            have e4 := e3.2
                            rw [e2.1] at e4
                            exact closed_of hn hA hI1.1 e2.2 e4)
            · have h46 : s2 := bz_n0.mp h46
              refine r_iconst C dX7_countUnknown_49 (v := nI 1) (by decide) ?_
              refine r_goto (tgt := 54) C dX7_countUnknown_50 (by decide) ?_
              refine r_top (y := bz (s1 ∨ s2)) (bz_t (Or.inr h46)).symm ?_
              refine r_istore_n C dX7_countUnknown_54 rfl (by decide) [1, 2, 0, 3, 4, 5] (lv' := [(0, .ref aQ), (1, .ref aV), (2, .int (bz (s1 ∨ s2))), (3, .int (nI rd)), (4, .int (bz s1)), (5, .int (bz s2))]) rfl ?_
              refine r_iinc C dX7_countUnknown_55 3 rfl (v := nI (rd + 1)) (nI_add _ _) (by decide) [1, 2, 3, 0, 4, 5] (lv' := [(0, .ref aQ), (1, .ref aV), (2, .int (bz (s1 ∨ s2))), (3, .int (nI (rd + 1))), (4, .int (bz s1)), (5, .int (bz s2))]) rfl ?_
              refine r_goto (tgt := 12) C dX7_countUnknown_58 (by decide) ?_
              refine r_lv [0, 1, 2, 3] (lv' := [(0, .ref aQ), (1, .ref aV), (2, .int (bz (s1 ∨ s2))), (3, .int (nI (rd + 1)))]) rfl ?_
              exact ih12 (rd + 1) (s1 ∨ s2) b3 (by omega) (by omega) p34_0 (fun q => by have h9 := hm1 h24; have := fil_go p28_1 p28_2 p34_1 p34_2 q; omega) (fun q => by
                            have e2 := p28_1 (fun w => q (Or.inl w))
                            have e3 := p34_1 (fun w => q (Or.inr w))
                            rw [e3.1, e2.1]
                            have e4 := e3.2
                            rw [e2.1] at e4
                            exact closed_of hn hA hI1.1 e2.2 e4)
  exact L12 ((N + 1 - 0) + 1) 0 True gv (Nat.lt_succ_self _) (by omega) (invK_0 hsub) (fun _ => Nat.zero_le _) (fun q => absurd trivial q)
