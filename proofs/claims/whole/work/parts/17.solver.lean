theorem fX1_putAll_7 : Cond.fieldLink RX1 7 (TX1 0).1 (TX1 0).2.1 (TX1 0).2.2.1 ∈ wsX1_putAll := List.mem_of_getElem? (i := 1) rfl
theorem iX1_putAll_X1 : ∀ w ∈ wsX10, w ∈ wsX1_putAll := by decide +kernel
theorem fX1_putAll_13 : Cond.fieldLink RX1 13 (TX4 1).1 (TX4 1).2.1 (TX4 1).2.2.1 ∈ wsX1_putAll := List.mem_of_getElem? (i := 2) rfl
theorem iX1_putAll_X4 : ∀ w ∈ wsX40, w ∈ wsX1_putAll := by decide +kernel
set_option maxHeartbeats 4000000 in
set_option maxRecDepth 100000 in
theorem c_X1_putAll {g : ww_G} {l : Launch} {n : Nat} {N : Nat} {aG : Nat} {gr : Nat} {gc : Nat} {gb : Nat} {gu : Nat} {aB : Nat} {aS : Nat} {aR : Nat} {aC : Nat} {aX : Nat} {f : Nat → Int32} {fR : Nat → Int32} {fC : Nat → Int32} {fB : Nat → Int32} {aV : Nat} {gv : Nat → Option Nat} (hn : (n = 4 ∧ N = 16) ∨ (n = 6 ∧ N = 36)) (hok : okB n N gv) : CT g l yX1_putAll wsX1_putAll (ww_rm 3) [.ref aB, .ref aV] ([(aG, .inr (5, [.int (nI n), .int (nI N), .int (nI (2 ^ n - 1)), .ref gr, .ref gc, .ref gb, .ref gu])), (gr, .inl (g.2.1, N, .inl (gR n))), (gc, .inl (g.2.1, N, .inl (gC n))), (gb, .inl (g.2.1, N, .inl (gB n))), (aB, .inr (2, [.ref aG, .ref aS, .ref aR, .ref aC, .ref aX])), (aS, .inl (g.2.1, N, .inl f)), (aR, .inl (g.2.1, n, .inl fR)), (aC, .inl (g.2.1, n, .inl fC)), (aX, .inl (g.2.1, n, .inl fB)), (aV, .inl (g.2.1, N, .inl (eb gv)))]) (S := Unit) (fun v u => v = none) (fun u => [(aG, .inr (5, [.int (nI n), .int (nI N), .int (nI (2 ^ n - 1)), .ref gr, .ref gc, .ref gb, .ref gu])), (gr, .inl (g.2.1, N, .inl (gR n))), (gc, .inl (g.2.1, N, .inl (gC n))), (gb, .inl (g.2.1, N, .inl (gB n))), (aB, .inr (2, [.ref aG, .ref aS, .ref aR, .ref aC, .ref aX])), (aS, .inl (g.2.1, N, .inl (eb gv))), (aR, .inl (g.2.1, n, .inl (mR n N gv))), (aC, .inl (g.2.1, n, .inl (mC n N gv))), (aX, .inl (g.2.1, n, .inl (mB n N gv))), (aV, .inl (g.2.1, N, .inl (eb gv)))]) := by
  refine CT.of cX1_putAll 3 none RX1 (by decide +kernel) rfl rfl (Nat.le_of_ble_eq_true rfl) ?_
  intro X hg hl C hret
  subst hg; subst hl
  show RW X 0 0 0 [(0, .ref aB), (1, .ref aV)] [] [(aG, .inr (5, [.int (nI n), .int (nI N), .int (nI (2 ^ n - 1)), .ref gr, .ref gc, .ref gb, .ref gu])), (gr, .inl (X.1.2.1, N, .inl (gR n))), (gc, .inl (X.1.2.1, N, .inl (gC n))), (gb, .inl (X.1.2.1, N, .inl (gB n))), (aB, .inr (2, [.ref aG, .ref aS, .ref aR, .ref aC, .ref aX])), (aS, .inl (X.1.2.1, N, .inl f)), (aR, .inl (X.1.2.1, n, .inl fR)), (aC, .inl (X.1.2.1, n, .inl fC)), (aX, .inl (X.1.2.1, n, .inl fB)), (aV, .inl (X.1.2.1, N, .inl (eb gv)))]
  refine r_aload_n C dX1_putAll_0 0 rfl rfl ?_
  refine r_callV0 (n := 0) (ws' := fun u => [(aG, .inr (5, [.int (nI n), .int (nI N), .int (nI (2 ^ n - 1)), .ref gr, .ref gc, .ref gb, .ref gu])), (gr, .inl (X.1.2.1, N, .inl (gR n))), (gc, .inl (X.1.2.1, N, .inl (gC n))), (gb, .inl (X.1.2.1, N, .inl (gB n))), (aB, .inr (2, [.ref aG, .ref aS, .ref aR, .ref aC, .ref aX])), (aS, .inl (X.1.2.1, N, .inl (eb (fun _ => none)))), (aR, .inl (X.1.2.1, n, .inl (mR n N (fun _ => none)))), (aC, .inl (X.1.2.1, n, .inl (mC n N (fun _ => none)))), (aX, .inl (X.1.2.1, n, .inl (mB n N (fun _ => none)))), (aV, .inl (X.1.2.1, N, .inl (eb gv)))]) C dX1_putAll_1 (c_X1_clear (g := X.1) (l := X.2.2.1) (n := n) (N := N) (aG := aG) (gr := gr) (gc := gc) (gb := gb) (gu := gu) (aB := aB) (aS := aS) (aR := aR) (aC := aC) (aX := aX) (f := f) (fR := fR) (fC := fC) (fB := fB) (hn := (by first | assumption | omega))) gX1_putAll_X1_clear rfl (by decide +kernel) rfl ⟨Nat.le_of_ble_eq_true rfl, Nat.le_of_ble_eq_true rfl⟩ ⟨rfl, rfl⟩ ⟨Nat.zero_le _, Nat.zero_le _⟩ (rest := []) rfl (by decide) 4 rfl rfl [0, 1, 2, 3, 4, 5, 6, 7, 8] (by decide) rfl (fun u => rfl) (fun u => rfl) (fun v u hp => ?_)
  obtain rfl := hp
  show RW X 0 0 4 [(0, .ref aB), (1, .ref aV)] [] [(aG, .inr (5, [.int (nI n), .int (nI N), .int (nI (2 ^ n - 1)), .ref gr, .ref gc, .ref gb, .ref gu])), (gr, .inl (X.1.2.1, N, .inl (gR n))), (gc, .inl (X.1.2.1, N, .inl (gC n))), (gb, .inl (X.1.2.1, N, .inl (gB n))), (aB, .inr (2, [.ref aG, .ref aS, .ref aR, .ref aC, .ref aX])), (aS, .inl (X.1.2.1, N, .inl (eb (fun _ => none)))), (aR, .inl (X.1.2.1, n, .inl (mR n N (fun _ => none)))), (aC, .inl (X.1.2.1, n, .inl (mC n N (fun _ => none)))), (aX, .inl (X.1.2.1, n, .inl (mB n N (fun _ => none)))), (aV, .inl (X.1.2.1, N, .inl (eb gv)))]
  refine r_iconst C dX1_putAll_4 (v := nI 0) (by decide) ?_
  refine r_istore_n C dX1_putAll_5 rfl (by decide) [1, 2, 0] (lv' := [(0, .ref aB), (1, .ref aV), (2, .int (nI 0))]) rfl ?_
  have L6 : ∀ (d6 : Nat) (i : Nat) (b1 : Nat → Option Nat), (N - i) < d6 → (i ≤ N) → (b1 = preB gv i) → RW X 0 0 6 [(0, .ref aB), (1, .ref aV), (2, .int (nI i))] [] [(aG, .inr (5, [.int (nI n), .int (nI N), .int (nI (2 ^ n - 1)), .ref gr, .ref gc, .ref gb, .ref gu])), (gr, .inl (X.1.2.1, N, .inl (gR n))), (gc, .inl (X.1.2.1, N, .inl (gC n))), (gb, .inl (X.1.2.1, N, .inl (gB n))), (aB, .inr (2, [.ref aG, .ref aS, .ref aR, .ref aC, .ref aX])), (aS, .inl (X.1.2.1, N, .inl (eb b1))), (aR, .inl (X.1.2.1, n, .inl (mR n N b1))), (aC, .inl (X.1.2.1, n, .inl (mC n N b1))), (aX, .inl (X.1.2.1, n, .inl (mB n N b1))), (aV, .inl (X.1.2.1, N, .inl (eb gv)))] := by
    intro d6
    induction d6 with
    | zero => intro i b1 hd6; exact absurd hd6 (Nat.not_lt_zero _)
    | succ d6 ih6 =>
      intro i b1 hd6 hi hb1
      refine r_iload_n C dX1_putAll_6 2 rfl rfl ?_
      refine r_aload_n C dX1_putAll_7 0 rfl rfl ?_
      refine r_get C dX1_putAll_8 iX1_putAll_X1 0 fX1_putAll_7 4 rfl rfl (by decide) rfl ?_
      refine r_get C dX1_putAll_11 iX1_putAll_X4 1 fX1_putAll_13 0 rfl rfl (by decide) rfl ?_
      refine r_icmp_ge (tgt := 43) C dX1_putAll_14 (by decide) (fun h14 => ?_) (fun h14 => ?_)
      · have h14 : N ≤ i := (nI_leI (by omega) (by omega)).mp h14
        have hq : ∀ d, d < N → b1 d = gv d := fun d q => by rw [hb1, show i = N by omega]; exact preB_N d q
        refine r_arrI 5 rfl (fun j q => congrArg eo (hq j q)) (ws' := [(aG, .inr (5, [.int (nI n), .int (nI N), .int (nI (2 ^ n - 1)), .ref gr, .ref gc, .ref gb, .ref gu])), (gr, .inl (X.1.2.1, N, .inl (gR n))), (gc, .inl (X.1.2.1, N, .inl (gC n))), (gb, .inl (X.1.2.1, N, .inl (gB n))), (aB, .inr (2, [.ref aG, .ref aS, .ref aR, .ref aC, .ref aX])), (aS, .inl (X.1.2.1, N, .inl (eb gv))), (aR, .inl (X.1.2.1, n, .inl (mR n N b1))), (aC, .inl (X.1.2.1, n, .inl (mC n N b1))), (aX, .inl (X.1.2.1, n, .inl (mB n N b1))), (aV, .inl (X.1.2.1, N, .inl (eb gv)))]) rfl ?_
        refine r_arrI 6 rfl (fun j _ => mask_congr (p := fun d => d / n) hq j) (ws' := [(aG, .inr (5, [.int (nI n), .int (nI N), .int (nI (2 ^ n - 1)), .ref gr, .ref gc, .ref gb, .ref gu])), (gr, .inl (X.1.2.1, N, .inl (gR n))), (gc, .inl (X.1.2.1, N, .inl (gC n))), (gb, .inl (X.1.2.1, N, .inl (gB n))), (aB, .inr (2, [.ref aG, .ref aS, .ref aR, .ref aC, .ref aX])), (aS, .inl (X.1.2.1, N, .inl (eb gv))), (aR, .inl (X.1.2.1, n, .inl (mR n N gv))), (aC, .inl (X.1.2.1, n, .inl (mC n N b1))), (aX, .inl (X.1.2.1, n, .inl (mB n N b1))), (aV, .inl (X.1.2.1, N, .inl (eb gv)))]) rfl ?_
        refine r_arrI 7 rfl (fun j _ => mask_congr (p := fun d => d % n) hq j) (ws' := [(aG, .inr (5, [.int (nI n), .int (nI N), .int (nI (2 ^ n - 1)), .ref gr, .ref gc, .ref gb, .ref gu])), (gr, .inl (X.1.2.1, N, .inl (gR n))), (gc, .inl (X.1.2.1, N, .inl (gC n))), (gb, .inl (X.1.2.1, N, .inl (gB n))), (aB, .inr (2, [.ref aG, .ref aS, .ref aR, .ref aC, .ref aX])), (aS, .inl (X.1.2.1, N, .inl (eb gv))), (aR, .inl (X.1.2.1, n, .inl (mR n N gv))), (aC, .inl (X.1.2.1, n, .inl (mC n N gv))), (aX, .inl (X.1.2.1, n, .inl (mB n N b1))), (aV, .inl (X.1.2.1, N, .inl (eb gv)))]) rfl ?_
        refine r_arrI 8 rfl (fun j _ => mask_congr (p := fun d => bx n d) hq j) (ws' := [(aG, .inr (5, [.int (nI n), .int (nI N), .int (nI (2 ^ n - 1)), .ref gr, .ref gc, .ref gb, .ref gu])), (gr, .inl (X.1.2.1, N, .inl (gR n))), (gc, .inl (X.1.2.1, N, .inl (gC n))), (gb, .inl (X.1.2.1, N, .inl (gB n))), (aB, .inr (2, [.ref aG, .ref aS, .ref aR, .ref aC, .ref aX])), (aS, .inl (X.1.2.1, N, .inl (eb gv))), (aR, .inl (X.1.2.1, n, .inl (mR n N gv))), (aC, .inl (X.1.2.1, n, .inl (mC n N gv))), (aX, .inl (X.1.2.1, n, .inl (mB n N gv))), (aV, .inl (X.1.2.1, N, .inl (eb gv)))]) rfl ?_
        exact hret _ _ _ () rfl (Or.inl ⟨rfl, rfl, dX1_putAll_43⟩)
      · have h14 : ¬ (N ≤ i) := fun e9 => h14 ((nI_leI (by omega) (by omega)).mpr e9)
        refine r_iload_n C dX1_putAll_17 2 rfl rfl ?_
        refine r_aload_n C dX1_putAll_18 1 rfl rfl ?_
        refine r_alen C dX1_putAll_19 9 0 rfl rfl (v := nI N) rfl ?_
        refine r_icmp_ge (tgt := 43) C dX1_putAll_20 (by decide) (fun h20 => ?_) (fun h20 => ?_)
        · have h20 : N ≤ i := (nI_leI (by omega) (by omega)).mp h20
          exact absurd h20 h14
        · have h20 : ¬ (N ≤ i) := fun e9 => h20 ((nI_leI (by omega) (by omega)).mpr e9)
          refine r_aload_n C dX1_putAll_23 1 rfl rfl ?_
          refine r_iload_n C dX1_putAll_24 2 rfl rfl ?_
          refine r_iald C dX1_putAll_25 9 rfl (by omega) (by omega) ?_
          refine r_if_lt (tgt := 37) C dX1_putAll_26 (by decide) (fun h26 => ?_) (fun h26 => ?_)
          · refine r_iinc C dX1_putAll_37 2 rfl (v := nI (i + 1)) (nI_add _ _) (by decide) [1, 2, 0] (lv' := [(0, .ref aB), (1, .ref aV), (2, .int (nI (i + 1)))]) rfl ?_
            refine r_goto (tgt := 6) C dX1_putAll_40 (by decide) ?_
            exact ih6 (i + 1) b1 (by omega) (by omega) (by rw [hb1]; exact preB_none (eo_none h26 (hok.1 i) (by omega)))
          · obtain ⟨v, hv⟩ := eo_some h26
            refine r_aload_n C dX1_putAll_29 0 rfl rfl ?_
            refine r_iload_n C dX1_putAll_30 2 rfl rfl ?_
            refine r_aload_n C dX1_putAll_31 1 rfl rfl ?_
            refine r_iload_n C dX1_putAll_32 2 rfl rfl ?_
            refine r_iald C dX1_putAll_33 9 rfl (by omega) (by omega) ?_
            refine r_top (y := nI v) (by show eo (gv i) = nI v; rw [hv]; rfl) ?_
            refine r_callV0 (n := 2) (ws' := fun u => [(aG, .inr (5, [.int (nI n), .int (nI N), .int (nI (2 ^ n - 1)), .ref gr, .ref gc, .ref gb, .ref gu])), (gr, .inl (X.1.2.1, N, .inl (gR n))), (gc, .inl (X.1.2.1, N, .inl (gC n))), (gb, .inl (X.1.2.1, N, .inl (gB n))), (aB, .inr (2, [.ref aG, .ref aS, .ref aR, .ref aC, .ref aX])), (aS, .inl (X.1.2.1, N, .inl (eb (ub b1 i (some v))))), (aR, .inl (X.1.2.1, n, .inl (mR n N (ub b1 i (some v))))), (aC, .inl (X.1.2.1, n, .inl (mC n N (ub b1 i (some v))))), (aX, .inl (X.1.2.1, n, .inl (mB n N (ub b1 i (some v))))), (aV, .inl (X.1.2.1, N, .inl (eb gv)))]) C dX1_putAll_34 (c_X1_put (g := X.1) (l := X.2.2.1) (n := n) (N := N) (aG := aG) (gr := gr) (gc := gc) (gb := gb) (gu := gu) (aB := aB) (aS := aS) (aR := aR) (aC := aC) (aX := aX) (b := b1) (c := i) (v := v) (hn := (by first | assumption | omega)) (hc := (by first | assumption | omega)) (h0 := (by rw [hb1]; exact preB_at)) (hm := (by rw [hb1]; exact preB_may hok (by omega) hv))) gX1_putAll_X1_put rfl (by decide +kernel) rfl ⟨Nat.le_of_ble_eq_true rfl, Nat.le_of_ble_eq_true rfl⟩ ⟨rfl, rfl⟩ ⟨Nat.zero_le _, Nat.zero_le _⟩ (rest := []) rfl (by decide) 4 rfl rfl [0, 1, 2, 3, 4, 5, 6, 7, 8] (by decide) rfl (fun u => rfl) (fun u => rfl) (fun v u hp => ?_)
            obtain rfl := hp
            show RW X 0 0 37 [(0, .ref aB), (1, .ref aV), (2, .int (nI i))] [] [(aG, .inr (5, [.int (nI n), .int (nI N), .int (nI (2 ^ n - 1)), .ref gr, .ref gc, .ref gb, .ref gu])), (gr, .inl (X.1.2.1, N, .inl (gR n))), (gc, .inl (X.1.2.1, N, .inl (gC n))), (gb, .inl (X.1.2.1, N, .inl (gB n))), (aB, .inr (2, [.ref aG, .ref aS, .ref aR, .ref aC, .ref aX])), (aS, .inl (X.1.2.1, N, .inl (eb (ub b1 i (some v))))), (aR, .inl (X.1.2.1, n, .inl (mR n N (ub b1 i (some v))))), (aC, .inl (X.1.2.1, n, .inl (mC n N (ub b1 i (some v))))), (aX, .inl (X.1.2.1, n, .inl (mB n N (ub b1 i (some v))))), (aV, .inl (X.1.2.1, N, .inl (eb gv)))]
            refine r_iinc C dX1_putAll_37 2 rfl (v := nI (i + 1)) (nI_add _ _) (by decide) [1, 2, 0] (lv' := [(0, .ref aB), (1, .ref aV), (2, .int (nI (i + 1)))]) rfl ?_
            refine r_goto (tgt := 6) C dX1_putAll_40 (by decide) ?_
            exact ih6 (i + 1) (ub b1 i (some v)) (by omega) (by omega) (by rw [hb1]; exact preB_some hv)
  exact L6 ((N - 0) + 1) 0 (fun _ => none) (Nat.lt_succ_self _) (Nat.zero_le _) preB_0
theorem kX8_tightest_69 : Cond.constant RX8 69 (2147483647) ∈ wsX8_tightest := List.mem_of_getElem? (i := 1) rfl
theorem fX8_tightest_21 : Cond.fieldLink RX8 21 (TX8 0).1 (TX8 0).2.1 (TX8 0).2.2.1 ∈ wsX8_tightest := List.mem_of_getElem? (i := 2) rfl
theorem iX8_tightest_X8 : ∀ w ∈ wsX80, w ∈ wsX8_tightest := by decide +kernel
theorem fX8_tightest_30 : Cond.fieldLink RX8 30 (TX8 1).1 (TX8 1).2.1 (TX8 1).2.2.1 ∈ wsX8_tightest := List.mem_of_getElem? (i := 3) rfl
set_option maxHeartbeats 4000000 in
set_option maxRecDepth 100000 in
theorem c_X8_tightest {g : ww_G} {l : Launch} {n : Nat} {N : Nat} {aG : Nat} {gr : Nat} {gc : Nat} {gb : Nat} {gu : Nat} {aB : Nat} {aS : Nat} {aR : Nat} {aC : Nat} {aX : Nat} {b : Nat → Option Nat} {aW : Nat} {aO : Nat} {lim : Nat} {fd : Nat} {o : Nat → Nat} {k : Nat} (hn : (n = 4 ∧ N = 16) ∨ (n = 6 ∧ N = 36)) (hk1 : 1 ≤ k) (hk : k ≤ N) (ho : ∀ j, j < k → o j < N) : CT g l yX8_tightest wsX8_tightest (ww_rm 2) [.ref aW, .int (nI k)] ([(aW, .inr (9, [.ref aB, .ref aO, .int (nI lim), .int (nI fd)])), (aO, .inl (g.2.1, N, .inl (nO o))), (aG, .inr (5, [.int (nI n), .int (nI N), .int (nI (2 ^ n - 1)), .ref gr, .ref gc, .ref gb, .ref gu])), (gr, .inl (g.2.1, N, .inl (gR n))), (gc, .inl (g.2.1, N, .inl (gC n))), (gb, .inl (g.2.1, N, .inl (gB n))), (aB, .inr (2, [.ref aG, .ref aS, .ref aR, .ref aC, .ref aX])), (aS, .inl (g.2.1, N, .inl (eb b))), (aR, .inl (g.2.1, n, .inl (mR n N b))), (aC, .inl (g.2.1, n, .inl (mC n N b))), (aX, .inl (g.2.1, n, .inl (mB n N b)))]) (S := Nat) (fun v u => v = some (.int (nI u)) ∧ (u < k)) (fun u => [(aW, .inr (9, [.ref aB, .ref aO, .int (nI lim), .int (nI fd)])), (aO, .inl (g.2.1, N, .inl (nO o))), (aG, .inr (5, [.int (nI n), .int (nI N), .int (nI (2 ^ n - 1)), .ref gr, .ref gc, .ref gb, .ref gu])), (gr, .inl (g.2.1, N, .inl (gR n))), (gc, .inl (g.2.1, N, .inl (gC n))), (gb, .inl (g.2.1, N, .inl (gB n))), (aB, .inr (2, [.ref aG, .ref aS, .ref aR, .ref aC, .ref aX])), (aS, .inl (g.2.1, N, .inl (eb b))), (aR, .inl (g.2.1, n, .inl (mR n N b))), (aC, .inl (g.2.1, n, .inl (mC n N b))), (aX, .inl (g.2.1, n, .inl (mB n N b)))]) := by
  refine CT.of cX8_tightest 6 (some .int) RX8 (by decide +kernel) rfl rfl (Nat.le_of_ble_eq_true rfl) ?_
  intro X hg hl C hret
  subst hg; subst hl
  show RW X 0 0 0 [(0, .ref aW), (1, .int (nI k))] [] [(aW, .inr (9, [.ref aB, .ref aO, .int (nI lim), .int (nI fd)])), (aO, .inl (X.1.2.1, N, .inl (nO o))), (aG, .inr (5, [.int (nI n), .int (nI N), .int (nI (2 ^ n - 1)), .ref gr, .ref gc, .ref gb, .ref gu])), (gr, .inl (X.1.2.1, N, .inl (gR n))), (gc, .inl (X.1.2.1, N, .inl (gC n))), (gb, .inl (X.1.2.1, N, .inl (gB n))), (aB, .inr (2, [.ref aG, .ref aS, .ref aR, .ref aC, .ref aX])), (aS, .inl (X.1.2.1, N, .inl (eb b))), (aR, .inl (X.1.2.1, n, .inl (mR n N b))), (aC, .inl (X.1.2.1, n, .inl (mC n N b))), (aX, .inl (X.1.2.1, n, .inl (mB n N b)))]
  refine r_iconst C dX8_tightest_0 (v := nI 0) (by decide) ?_
  refine r_istore_n C dX8_tightest_1 rfl (by decide) [1, 2, 0] (lv' := [(0, .ref aW), (1, .int (nI k)), (2, .int (nI 0))]) rfl ?_
  refine r_ldc C dX8_tightest_2 kX8_tightest_69 ?_
  refine r_top (y := nI 2147483647) (by decide) ?_
  refine r_istore_n C dX8_tightest_4 rfl (by decide) [1, 2, 3, 0] (lv' := [(0, .ref aW), (1, .int (nI k)), (2, .int (nI 0)), (3, .int (nI 2147483647))]) rfl ?_
  refine r_iconst C dX8_tightest_5 (v := nI 0) (by decide) ?_
  refine r_istore C dX8_tightest_6 (by decide) [1, 2, 3, 4, 0] (lv' := [(0, .ref aW), (1, .int (nI k)), (2, .int (nI 0)), (3, .int (nI 2147483647)), (4, .int (nI 0))]) rfl ?_
  have L8 : ∀ (d8 : Nat) (be : Nat) (fw : Int32) (i : Nat), (k - i) < d8 → (be < k) → (i ≤ k) → RW X 0 0 8 [(0, .ref aW), (1, .int (nI k)), (2, .int (nI be)), (3, .int fw), (4, .int (nI i))] [] [(aW, .inr (9, [.ref aB, .ref aO, .int (nI lim), .int (nI fd)])), (aO, .inl (X.1.2.1, N, .inl (nO o))), (aG, .inr (5, [.int (nI n), .int (nI N), .int (nI (2 ^ n - 1)), .ref gr, .ref gc, .ref gb, .ref gu])), (gr, .inl (X.1.2.1, N, .inl (gR n))), (gc, .inl (X.1.2.1, N, .inl (gC n))), (gb, .inl (X.1.2.1, N, .inl (gB n))), (aB, .inr (2, [.ref aG, .ref aS, .ref aR, .ref aC, .ref aX])), (aS, .inl (X.1.2.1, N, .inl (eb b))), (aR, .inl (X.1.2.1, n, .inl (mR n N b))), (aC, .inl (X.1.2.1, n, .inl (mC n N b))), (aX, .inl (X.1.2.1, n, .inl (mB n N b)))] := by
    intro d8
    induction d8 with
    | zero => intro be fw i hd8; exact absurd hd8 (Nat.not_lt_zero _)
    | succ d8 ih8 =>
      intro be fw i hd8 hbe hi
      refine r_iload C dX8_tightest_8 4 rfl ?_
      refine r_iload_n C dX8_tightest_10 1 rfl rfl ?_
      refine r_icmp_ge (tgt := 56) C dX8_tightest_11 (by decide) (fun h11 => ?_) (fun h11 => ?_)
      · have h11 : k ≤ i := (nI_leI (by omega) (by omega)).mp h11
        refine r_iload_n C dX8_tightest_56 2 rfl rfl ?_
        exact hret _ _ _ (be) ⟨rfl, hbe⟩ (Or.inr ⟨_, rfl, dX8_tightest_57, Or.inl rfl⟩)
      · have h11 : ¬ (k ≤ i) := fun e9 => h11 ((nI_leI (by omega) (by omega)).mpr e9)
        refine r_iload_n C dX8_tightest_14 3 rfl rfl ?_
        refine r_iconst C dX8_tightest_15 (v := nI 1) (by decide) ?_
        refine r_icmp_le (tgt := 56) C dX8_tightest_16 (by decide) (fun h16 => ?_) (fun h16 => ?_)
        · refine r_iload_n C dX8_tightest_56 2 rfl rfl ?_
          exact hret _ _ _ (be) ⟨rfl, hbe⟩ (Or.inr ⟨_, rfl, dX8_tightest_57, Or.inl rfl⟩)
        · refine r_aload_n C dX8_tightest_19 0 rfl rfl ?_
          refine r_get C dX8_tightest_20 iX8_tightest_X8 0 fX8_tightest_21 0 rfl rfl (by decide) rfl ?_
          refine r_aload_n C dX8_tightest_23 0 rfl rfl ?_
          refine r_get C dX8_tightest_24 iX8_tightest_X8 1 fX8_tightest_30 0 rfl rfl (by decide) rfl ?_
          refine r_iload C dX8_tightest_27 4 rfl ?_
          refine r_iald C dX8_tightest_29 1 rfl (by omega) (by omega) ?_
          show RW X 0 0 30 [(0, .ref aW), (1, .int (nI k)), (2, .int (nI be)), (3, .int fw), (4, .int (nI i))] [.int (nI (o i)), .ref aB] [(aW, .inr (9, [.ref aB, .ref aO, .int (nI lim), .int (nI fd)])), (aO, .inl (X.1.2.1, N, .inl (nO o))), (aG, .inr (5, [.int (nI n), .int (nI N), .int (nI (2 ^ n - 1)), .ref gr, .ref gc, .ref gb, .ref gu])), (gr, .inl (X.1.2.1, N, .inl (gR n))), (gc, .inl (X.1.2.1, N, .inl (gC n))), (gb, .inl (X.1.2.1, N, .inl (gB n))), (aB, .inr (2, [.ref aG, .ref aS, .ref aR, .ref aC, .ref aX])), (aS, .inl (X.1.2.1, N, .inl (eb b))), (aR, .inl (X.1.2.1, n, .inl (mR n N b))), (aC, .inl (X.1.2.1, n, .inl (mC n N b))), (aX, .inl (X.1.2.1, n, .inl (mB n N b)))]
          refine r_callV0 (n := 1) (ws' := fun u => [(aW, .inr (9, [.ref aB, .ref aO, .int (nI lim), .int (nI fd)])), (aO, .inl (X.1.2.1, N, .inl (nO o))), (aG, .inr (5, [.int (nI n), .int (nI N), .int (nI (2 ^ n - 1)), .ref gr, .ref gc, .ref gb, .ref gu])), (gr, .inl (X.1.2.1, N, .inl (gR n))), (gc, .inl (X.1.2.1, N, .inl (gC n))), (gb, .inl (X.1.2.1, N, .inl (gB n))), (aB, .inr (2, [.ref aG, .ref aS, .ref aR, .ref aC, .ref aX])), (aS, .inl (X.1.2.1, N, .inl (eb b))), (aR, .inl (X.1.2.1, n, .inl (mR n N b))), (aC, .inl (X.1.2.1, n, .inl (mC n N b))), (aX, .inl (X.1.2.1, n, .inl (mB n N b)))]) C dX8_tightest_30 (c_X1_may (g := X.1) (l := X.2.2.1) (n := n) (N := N) (aG := aG) (gr := gr) (gc := gc) (gb := gb) (gu := gu) (aB := aB) (aS := aS) (aR := aR) (aC := aC) (aX := aX) (b := b) (c := o i) (hn := (by first | assumption | omega)) (hc := (ho i (by omega)))) gX8_tightest_X1_may rfl (by decide +kernel) rfl ⟨Nat.le_of_ble_eq_true rfl, Nat.le_of_ble_eq_true rfl⟩ ⟨rfl, rfl⟩ ⟨Nat.zero_le _, Nat.zero_le _⟩ (rest := []) rfl (by decide) 4 rfl rfl [2, 3, 4, 5, 6, 7, 8, 9, 10] (by decide) rfl (fun u => rfl) (fun u => rfl) (fun v u hp => ?_)
          obtain rfl := hp
          show RW X 0 0 33 [(0, .ref aW), (1, .int (nI k)), (2, .int (nI be)), (3, .int fw), (4, .int (nI i))] [.int (nI (mkN (mayP n N b (o i))))] [(aW, .inr (9, [.ref aB, .ref aO, .int (nI lim), .int (nI fd)])), (aO, .inl (X.1.2.1, N, .inl (nO o))), (aG, .inr (5, [.int (nI n), .int (nI N), .int (nI (2 ^ n - 1)), .ref gr, .ref gc, .ref gb, .ref gu])), (gr, .inl (X.1.2.1, N, .inl (gR n))), (gc, .inl (X.1.2.1, N, .inl (gC n))), (gb, .inl (X.1.2.1, N, .inl (gB n))), (aB, .inr (2, [.ref aG, .ref aS, .ref aR, .ref aC, .ref aX])), (aS, .inl (X.1.2.1, N, .inl (eb b))), (aR, .inl (X.1.2.1, n, .inl (mR n N b))), (aC, .inl (X.1.2.1, n, .inl (mC n N b))), (aX, .inl (X.1.2.1, n, .inl (mB n N b)))]
          refine r_callS0 (n := 1) (ws' := fun u => [(aW, .inr (9, [.ref aB, .ref aO, .int (nI lim), .int (nI fd)])), (aO, .inl (X.1.2.1, N, .inl (nO o))), (aG, .inr (5, [.int (nI n), .int (nI N), .int (nI (2 ^ n - 1)), .ref gr, .ref gc, .ref gb, .ref gu])), (gr, .inl (X.1.2.1, N, .inl (gR n))), (gc, .inl (X.1.2.1, N, .inl (gC n))), (gb, .inl (X.1.2.1, N, .inl (gB n))), (aB, .inr (2, [.ref aG, .ref aS, .ref aR, .ref aC, .ref aX])), (aS, .inl (X.1.2.1, N, .inl (eb b))), (aR, .inl (X.1.2.1, n, .inl (mR n N b))), (aC, .inl (X.1.2.1, n, .inl (mC n N b))), (aX, .inl (X.1.2.1, n, .inl (mB n N b)))]) C dX8_tightest_33 (c_J6_bitCount_0f7a4 (g := X.1) (l := X.2.2.1) (m := mkN (mayP n N b (o i))) (hm := (mkN_lt _))) gX8_tightest_J6_bitCount_0f7a4 rfl (by decide +kernel) rfl ⟨Nat.le_of_ble_eq_true rfl, Nat.le_of_ble_eq_true rfl⟩ ⟨rfl, rfl⟩ ⟨Nat.zero_le _, Nat.zero_le _⟩ (rest := []) rfl (by decide) [] (by decide) rfl (fun u => rfl) (fun u => rfl) (fun v u hp => ?_)
          obtain rfl := hp
          show RW X 0 0 36 [(0, .ref aW), (1, .int (nI k)), (2, .int (nI be)), (3, .int fw), (4, .int (nI i))] [.int (nI (pcb (mkN (mayP n N b (o i))) 6))] [(aW, .inr (9, [.ref aB, .ref aO, .int (nI lim), .int (nI fd)])), (aO, .inl (X.1.2.1, N, .inl (nO o))), (aG, .inr (5, [.int (nI n), .int (nI N), .int (nI (2 ^ n - 1)), .ref gr, .ref gc, .ref gb, .ref gu])), (gr, .inl (X.1.2.1, N, .inl (gR n))), (gc, .inl (X.1.2.1, N, .inl (gC n))), (gb, .inl (X.1.2.1, N, .inl (gB n))), (aB, .inr (2, [.ref aG, .ref aS, .ref aR, .ref aC, .ref aX])), (aS, .inl (X.1.2.1, N, .inl (eb b))), (aR, .inl (X.1.2.1, n, .inl (mR n N b))), (aC, .inl (X.1.2.1, n, .inl (mC n N b))), (aX, .inl (X.1.2.1, n, .inl (mB n N b)))]
          refine r_istore C dX8_tightest_36 (by decide) [1, 2, 3, 4, 5, 0] (lv' := [(0, .ref aW), (1, .int (nI k)), (2, .int (nI be)), (3, .int fw), (4, .int (nI i)), (5, .int (nI (pcb (mkN (mayP n N b (o i))) 6)))]) rfl ?_
          refine r_iload C dX8_tightest_38 5 rfl ?_
          refine r_iload_n C dX8_tightest_40 3 rfl rfl ?_
          refine r_icmp_ge (tgt := 50) C dX8_tightest_41 (by decide) (fun h41 => ?_) (fun h41 => ?_)
          · refine r_iinc C dX8_tightest_50 4 rfl (v := nI (i + 1)) (nI_add _ _) (by decide) [1, 2, 3, 4, 0, 5] (lv' := [(0, .ref aW), (1, .int (nI k)), (2, .int (nI be)), (3, .int fw), (4, .int (nI (i + 1))), (5, .int (nI (pcb (mkN (mayP n N b (o i))) 6)))]) rfl ?_
            refine r_goto (tgt := 8) C dX8_tightest_53 (by decide) ?_
            refine r_lv [0, 1, 2, 3, 4] (lv' := [(0, .ref aW), (1, .int (nI k)), (2, .int (nI be)), (3, .int fw), (4, .int (nI (i + 1)))]) rfl ?_
            exact ih8 be fw (i + 1) (by omega) (by omega) (by omega)
          · refine r_iload C dX8_tightest_44 5 rfl ?_
            refine r_istore_n C dX8_tightest_46 rfl (by decide) [1, 2, 3, 0, 4, 5] (lv' := [(0, .ref aW), (1, .int (nI k)), (2, .int (nI be)), (3, .int (nI (pcb (mkN (mayP n N b (o i))) 6))), (4, .int (nI i)), (5, .int (nI (pcb (mkN (mayP n N b (o i))) 6)))]) rfl ?_
            refine r_iload C dX8_tightest_47 4 rfl ?_
            refine r_istore_n C dX8_tightest_49 rfl (by decide) [1, 2, 0, 3, 4, 5] (lv' := [(0, .ref aW), (1, .int (nI k)), (2, .int (nI i)), (3, .int (nI (pcb (mkN (mayP n N b (o i))) 6))), (4, .int (nI i)), (5, .int (nI (pcb (mkN (mayP n N b (o i))) 6)))]) rfl ?_
            refine r_iinc C dX8_tightest_50 4 rfl (v := nI (i + 1)) (nI_add _ _) (by decide) [1, 2, 3, 4, 0, 5] (lv' := [(0, .ref aW), (1, .int (nI k)), (2, .int (nI i)), (3, .int (nI (pcb (mkN (mayP n N b (o i))) 6))), (4, .int (nI (i + 1))), (5, .int (nI (pcb (mkN (mayP n N b (o i))) 6)))]) rfl ?_
            refine r_goto (tgt := 8) C dX8_tightest_53 (by decide) ?_
            refine r_lv [0, 1, 2, 3, 4] (lv' := [(0, .ref aW), (1, .int (nI k)), (2, .int (nI i)), (3, .int (nI (pcb (mkN (mayP n N b (o i))) 6))), (4, .int (nI (i + 1)))]) rfl ?_
            exact ih8 i (nI (pcb (mkN (mayP n N b (o i))) 6)) (i + 1) (by omega) (by omega) (by omega)
  exact L8 ((k - 0) + 1) 0 (nI 2147483647) 0 (Nat.lt_succ_self _) (by omega) (Nat.zero_le _)
theorem fX8_search_30 : Cond.fieldLink RX8 30 (TX8 1).1 (TX8 1).2.1 (TX8 1).2.2.1 ∈ wsX8_search := List.mem_of_getElem? (i := 2) rfl
theorem iX8_search_X8 : ∀ w ∈ wsX80, w ∈ wsX8_search := by decide +kernel
theorem fX8_search_21 : Cond.fieldLink RX8 21 (TX8 0).1 (TX8 0).2.1 (TX8 0).2.2.1 ∈ wsX8_search := List.mem_of_getElem? (i := 3) rfl
theorem fX8_search_53 : Cond.fieldLink RX8 53 (TX1 0).1 (TX1 0).2.1 (TX1 0).2.2.1 ∈ wsX8_search := List.mem_of_getElem? (i := 4) rfl
theorem iX8_search_X1 : ∀ w ∈ wsX10, w ∈ wsX8_search := by decide +kernel
theorem fX8_search_57 : Cond.fieldLink RX8 57 (TX4 0).1 (TX4 0).2.1 (TX4 0).2.2.1 ∈ wsX8_search := List.mem_of_getElem? (i := 5) rfl
theorem iX8_search_X4 : ∀ w ∈ wsX40, w ∈ wsX8_search := by decide +kernel
theorem fX8_search_13 : Cond.fieldLink RX8 13 (TX8 3).1 (TX8 3).2.1 (TX8 3).2.2.1 ∈ wsX8_search := List.mem_of_getElem? (i := 1) rfl
theorem fX8_search_7 : Cond.fieldLink RX8 7 (TX8 2).1 (TX8 2).2.1 (TX8 2).2.2.1 ∈ wsX8_search := List.mem_of_getElem? (i := 6) rfl
set_option maxHeartbeats 4000000 in
set_option maxRecDepth 100000 in
theorem c_X8_search {g : ww_G} {l : Launch} : ∀ (k : Nat) {n : Nat} {N : Nat} {aG : Nat} {gr : Nat} {gc : Nat} {gb : Nat} {gu : Nat} {aB : Nat} {aS : Nat} {aR : Nat} {aC : Nat} {aX : Nat} {b : Nat → Option Nat} {aW : Nat} {aO : Nat} {lim : Nat} {fd : Nat} {o : Nat → Nat} (hn : (n = 4 ∧ N = 16) ∨ (n = 6 ∧ N = 36)) (hk : k ≤ N) (hok : okB n N b) (hen : enP N b o k) (hfl : fd < lim) (hlim : lim < 2147483648) , CT g l yX8_search wsX8_search (ww_rm (k + 5)) [.ref aW, .int (nI k)] ([(aW, .inr (9, [.ref aB, .ref aO, .int (nI lim), .int (nI fd)])), (aO, .inl (g.2.1, N, .inl (nO o))), (aG, .inr (5, [.int (nI n), .int (nI N), .int (nI (2 ^ n - 1)), .ref gr, .ref gc, .ref gb, .ref gu])), (gr, .inl (g.2.1, N, .inl (gR n))), (gc, .inl (g.2.1, N, .inl (gC n))), (gb, .inl (g.2.1, N, .inl (gB n))), (aB, .inr (2, [.ref aG, .ref aS, .ref aR, .ref aC, .ref aX])), (aS, .inl (g.2.1, N, .inl (eb b))), (aR, .inl (g.2.1, n, .inl (mR n N b))), (aC, .inl (g.2.1, n, .inl (mC n N b))), (aX, .inl (g.2.1, n, .inl (mB n N b)))]) (S := (Nat → Nat)) (fun v u => v = none ∧ (enP N b u k) ∧ (∀ j, k ≤ j → u j = o j)) (fun u => [(aW, .inr (9, [.ref aB, .ref aO, .int (nI lim), .int (nI (min lim (fd + cntS n N b)))])), (aO, .inl (g.2.1, N, .inl (nO u))), (aG, .inr (5, [.int (nI n), .int (nI N), .int (nI (2 ^ n - 1)), .ref gr, .ref gc, .ref gb, .ref gu])), (gr, .inl (g.2.1, N, .inl (gR n))), (gc, .inl (g.2.1, N, .inl (gC n))), (gb, .inl (g.2.1, N, .inl (gB n))), (aB, .inr (2, [.ref aG, .ref aS, .ref aR, .ref aC, .ref aX])), (aS, .inl (g.2.1, N, .inl (eb b))), (aR, .inl (g.2.1, n, .inl (mR n N b))), (aC, .inl (g.2.1, n, .inl (mC n N b))), (aX, .inl (g.2.1, n, .inl (mB n N b)))]) := by
  intro k
  induction k using Nat.strongRecOn with
  | ind k ihR =>
  intro n N aG gr gc gb gu aB aS aR aC aX b aW aO lim fd o hn hk hok hen hfl hlim
  refine CT.of cX8_search 6 none RX8 (by decide +kernel) rfl rfl (Nat.le_of_ble_eq_true rfl) ?_
  intro X hg hl C hret
  subst hg; subst hl
  show RW X 0 0 0 [(0, .ref aW), (1, .int (nI k))] [] [(aW, .inr (9, [.ref aB, .ref aO, .int (nI lim), .int (nI fd)])), (aO, .inl (X.1.2.1, N, .inl (nO o))), (aG, .inr (5, [.int (nI n), .int (nI N), .int (nI (2 ^ n - 1)), .ref gr, .ref gc, .ref gb, .ref gu])), (gr, .inl (X.1.2.1, N, .inl (gR n))), (gc, .inl (X.1.2.1, N, .inl (gC n))), (gb, .inl (X.1.2.1, N, .inl (gB n))), (aB, .inr (2, [.ref aG, .ref aS, .ref aR, .ref aC, .ref aX])), (aS, .inl (X.1.2.1, N, .inl (eb b))), (aR, .inl (X.1.2.1, n, .inl (mR n N b))), (aC, .inl (X.1.2.1, n, .inl (mC n N b))), (aX, .inl (X.1.2.1, n, .inl (mB n N b)))]
  refine r_iload_n C dX8_search_0 1 rfl rfl ?_
  refine r_iconst C dX8_search_1 (v := nI 1) (by decide) ?_
  refine r_icmp_ge (tgt := 16) C dX8_search_2 (by decide) (fun h2 => ?_) (fun h2 => ?_)
  · have h2 : 1 ≤ k := (nI_leI (by omega) (by omega)).mp h2
    refine r_iload_n C dX8_search_16 1 rfl rfl ?_
    refine r_aload_n C dX8_search_17 0 rfl rfl ?_
    refine r_get C dX8_search_18 iX8_search_X8 1 fX8_search_30 0 rfl rfl (by decide) rfl ?_
    refine r_alen C dX8_search_21 1 0 rfl rfl (v := nI N) rfl ?_
    refine r_icmp_le (tgt := 26) C dX8_search_22 (by decide) (fun h22 => ?_) (fun h22 => ?_)
    · have h22 : k ≤ N := (nI_leI (by omega) (by omega)).mp h22
      refine r_aload_n C dX8_search_26 0 rfl rfl ?_
      refine r_iload_n C dX8_search_27 1 rfl rfl ?_
      refine r_callV0 (n := 1) (ws' := fun u => [(aW, .inr (9, [.ref aB, .ref aO, .int (nI lim), .int (nI fd)])), (aO, .inl (X.1.2.1, N, .inl (nO o))), (aG, .inr (5, [.int (nI n), .int (nI N), .int (nI (2 ^ n - 1)), .ref gr, .ref gc, .ref gb, .ref gu])), (gr, .inl (X.1.2.1, N, .inl (gR n))), (gc, .inl (X.1.2.1, N, .inl (gC n))), (gb, .inl (X.1.2.1, N, .inl (gB n))), (aB, .inr (2, [.ref aG, .ref aS, .ref aR, .ref aC, .ref aX])), (aS, .inl (X.1.2.1, N, .inl (eb b))), (aR, .inl (X.1.2.1, n, .inl (mR n N b))), (aC, .inl (X.1.2.1, n, .inl (mC n N b))), (aX, .inl (X.1.2.1, n, .inl (mB n N b)))]) C dX8_search_28 (c_X8_tightest (g := X.1) (l := X.2.2.1) (n := n) (N := N) (aG := aG) (gr := gr) (gc := gc) (gb := gb) (gu := gu) (aB := aB) (aS := aS) (aR := aR) (aC := aC) (aX := aX) (b := b) (aW := aW) (aO := aO) (lim := lim) (fd := fd) (o := o) (k := k) (hn := (by first | assumption | omega)) (hk1 := h2) (hk := (by first | assumption | omega)) (ho := (fun j q => (hen.1 j q).1))) gX8_search_X8_tightest rfl (by decide +kernel) rfl (by constructor <;> (simp only [ww_rm]; omega)) ⟨rfl, rfl⟩ ⟨Nat.zero_le _, Nat.zero_le _⟩ (rest := []) rfl (by decide) 0 rfl rfl [0, 1, 2, 3, 4, 5, 6, 7, 8, 9, 10] (by decide) rfl (fun u => rfl) (fun u => rfl) (fun v u hp => ?_)
      obtain ⟨a, rfl⟩ : ∃ z, z = u := ⟨_, rfl⟩
      obtain ⟨rfl, p28_0⟩ := hp
      show RW X 0 0 31 [(0, .ref aW), (1, .int (nI k))] [.int (nI a)] [(aW, .inr (9, [.ref aB, .ref aO, .int (nI lim), .int (nI fd)])), (aO, .inl (X.1.2.1, N, .inl (nO o))), (aG, .inr (5, [.int (nI n), .int (nI N), .int (nI (2 ^ n - 1)), .ref gr, .ref gc, .ref gb, .ref gu])), (gr, .inl (X.1.2.1, N, .inl (gR n))), (gc, .inl (X.1.2.1, N, .inl (gC n))), (gb, .inl (X.1.2.1, N, .inl (gB n))), (aB, .inr (2, [.ref aG, .ref aS, .ref aR, .ref aC, .ref aX])), (aS, .inl (X.1.2.1, N, .inl (eb b))), (aR, .inl (X.1.2.1, n, .inl (mR n N b))), (aC, .inl (X.1.2.1, n, .inl (mC n N b))), (aX, .inl (X.1.2.1, n, .inl (mB n N b)))]
      have hac : o a < N := (hen.1 a p28_0).1
      have h0c : b (o a) = none := (hen.1 a p28_0).2
      have hsw := enP_swap (u := 0) hen p28_0
      refine r_istore_n C dX8_search_31 rfl (by decide) [1, 2, 0] (lv' := [(0, .ref aW), (1, .int (nI k)), (2, .int (nI a))]) rfl ?_
      refine r_aload_n C dX8_search_32 0 rfl rfl ?_
      refine r_get C dX8_search_33 iX8_search_X8 1 fX8_search_30 0 rfl rfl (by decide) rfl ?_
      refine r_iload_n C dX8_search_36 2 rfl rfl ?_
      refine r_iald C dX8_search_37 1 rfl (by omega) (by omega) ?_
      show RW X 0 0 38 [(0, .ref aW), (1, .int (nI k)), (2, .int (nI a))] [.int (nI (o a))] [(aW, .inr (9, [.ref aB, .ref aO, .int (nI lim), .int (nI fd)])), (aO, .inl (X.1.2.1, N, .inl (nO o))), (aG, .inr (5, [.int (nI n), .int (nI N), .int (nI (2 ^ n - 1)), .ref gr, .ref gc, .ref gb, .ref gu])), (gr, .inl (X.1.2.1, N, .inl (gR n))), (gc, .inl (X.1.2.1, N, .inl (gC n))), (gb, .inl (X.1.2.1, N, .inl (gB n))), (aB, .inr (2, [.ref aG, .ref aS, .ref aR, .ref aC, .ref aX])), (aS, .inl (X.1.2.1, N, .inl (eb b))), (aR, .inl (X.1.2.1, n, .inl (mR n N b))), (aC, .inl (X.1.2.1, n, .inl (mC n N b))), (aX, .inl (X.1.2.1, n, .inl (mB n N b)))]
      refine r_istore_n C dX8_search_38 rfl (by decide) [1, 2, 3, 0] (lv' := [(0, .ref aW), (1, .int (nI k)), (2, .int (nI a)), (3, .int (nI (o a)))]) rfl ?_
      refine r_aload_n C dX8_search_39 0 rfl rfl ?_
      refine r_get C dX8_search_40 iX8_search_X8 1 fX8_search_30 0 rfl rfl (by decide) rfl ?_
      refine r_iload_n C dX8_search_43 2 rfl rfl ?_
      refine r_aload_n C dX8_search_44 0 rfl rfl ?_
      refine r_get C dX8_search_45 iX8_search_X8 1 fX8_search_30 0 rfl rfl (by decide) rfl ?_
      refine r_iload_n C dX8_search_48 1 rfl rfl ?_
      refine r_iconst C dX8_search_49 (v := nI 1) (by decide) ?_
      refine r_isub C dX8_search_50 (v := nI (k - 1)) (pk_sub (by omega)) ?_
      refine r_iald C dX8_search_51 1 rfl (by omega) (by omega) ?_
      show RW X 0 0 52 [(0, .ref aW), (1, .int (nI k)), (2, .int (nI a)), (3, .int (nI (o a)))] [.int (nI (o (k - 1))), .int (nI a), .ref aO] [(aW, .inr (9, [.ref aB, .ref aO, .int (nI lim), .int (nI fd)])), (aO, .inl (X.1.2.1, N, .inl (nO o))), (aG, .inr (5, [.int (nI n), .int (nI N), .int (nI (2 ^ n - 1)), .ref gr, .ref gc, .ref gb, .ref gu])), (gr, .inl (X.1.2.1, N, .inl (gR n))), (gc, .inl (X.1.2.1, N, .inl (gC n))), (gb, .inl (X.1.2.1, N, .inl (gB n))), (aB, .inr (2, [.ref aG, .ref aS, .ref aR, .ref aC, .ref aX])), (aS, .inl (X.1.2.1, N, .inl (eb b))), (aR, .inl (X.1.2.1, n, .inl (mR n N b))), (aC, .inl (X.1.2.1, n, .inl (mC n N b))), (aX, .inl (X.1.2.1, n, .inl (mB n N b)))]
      refine r_iast C dX8_search_52 1 rfl (by omega) (by omega) (ws' := [(aW, .inr (9, [.ref aB, .ref aO, .int (nI lim), .int (nI fd)])), (aO, .inl (X.1.2.1, N, .inl (upd (nO o) a (nI (o (k - 1)))))), (aG, .inr (5, [.int (nI n), .int (nI N), .int (nI (2 ^ n - 1)), .ref gr, .ref gc, .ref gb, .ref gu])), (gr, .inl (X.1.2.1, N, .inl (gR n))), (gc, .inl (X.1.2.1, N, .inl (gC n))), (gb, .inl (X.1.2.1, N, .inl (gB n))), (aB, .inr (2, [.ref aG, .ref aS, .ref aR, .ref aC, .ref aX])), (aS, .inl (X.1.2.1, N, .inl (eb b))), (aR, .inl (X.1.2.1, n, .inl (mR n N b))), (aC, .inl (X.1.2.1, n, .inl (mC n N b))), (aX, .inl (X.1.2.1, n, .inl (mB n N b)))]) rfl ?_
      refine r_aload_n C dX8_search_53 0 rfl rfl ?_
      refine r_get C dX8_search_54 iX8_search_X8 1 fX8_search_30 0 rfl rfl (by decide) rfl ?_
      refine r_iload_n C dX8_search_57 1 rfl rfl ?_
      refine r_iconst C dX8_search_58 (v := nI 1) (by decide) ?_
      refine r_isub C dX8_search_59 (v := nI (k - 1)) (pk_sub (by omega)) ?_
      refine r_iload_n C dX8_search_60 3 rfl rfl ?_
      refine r_iast C dX8_search_61 1 rfl (by omega) (by omega) (ws' := [(aW, .inr (9, [.ref aB, .ref aO, .int (nI lim), .int (nI fd)])), (aO, .inl (X.1.2.1, N, .inl (upd (upd (nO o) a (nI (o (k - 1)))) (k - 1) (nI (o a))))), (aG, .inr (5, [.int (nI n), .int (nI N), .int (nI (2 ^ n - 1)), .ref gr, .ref gc, .ref gb, .ref gu])), (gr, .inl (X.1.2.1, N, .inl (gR n))), (gc, .inl (X.1.2.1, N, .inl (gC n))), (gb, .inl (X.1.2.1, N, .inl (gB n))), (aB, .inr (2, [.ref aG, .ref aS, .ref aR, .ref aC, .ref aX])), (aS, .inl (X.1.2.1, N, .inl (eb b))), (aR, .inl (X.1.2.1, n, .inl (mR n N b))), (aC, .inl (X.1.2.1, n, .inl (mC n N b))), (aX, .inl (X.1.2.1, n, .inl (mB n N b)))]) rfl ?_
      rw [nO_u, nO_u]
      show RW X 0 0 62 [(0, .ref aW), (1, .int (nI k)), (2, .int (nI a)), (3, .int (nI (o a)))] [] [(aW, .inr (9, [.ref aB, .ref aO, .int (nI lim), .int (nI fd)])), (aO, .inl (X.1.2.1, N, .inl (nO (uO (uO o a (o (k - 1))) (k - 1) (o a))))), (aG, .inr (5, [.int (nI n), .int (nI N), .int (nI (2 ^ n - 1)), .ref gr, .ref gc, .ref gb, .ref gu])), (gr, .inl (X.1.2.1, N, .inl (gR n))), (gc, .inl (X.1.2.1, N, .inl (gC n))), (gb, .inl (X.1.2.1, N, .inl (gB n))), (aB, .inr (2, [.ref aG, .ref aS, .ref aR, .ref aC, .ref aX])), (aS, .inl (X.1.2.1, N, .inl (eb b))), (aR, .inl (X.1.2.1, n, .inl (mR n N b))), (aC, .inl (X.1.2.1, n, .inl (mC n N b))), (aX, .inl (X.1.2.1, n, .inl (mB n N b)))]
      refine r_aload_n C dX8_search_62 0 rfl rfl ?_
      refine r_get C dX8_search_63 iX8_search_X8 0 fX8_search_21 0 rfl rfl (by decide) rfl ?_
      refine r_iload_n C dX8_search_66 3 rfl rfl ?_
      refine r_callV0 (n := 1) (ws' := fun u => [(aW, .inr (9, [.ref aB, .ref aO, .int (nI lim), .int (nI fd)])), (aO, .inl (X.1.2.1, N, .inl (nO (uO (uO o a (o (k - 1))) (k - 1) (o a))))), (aG, .inr (5, [.int (nI n), .int (nI N), .int (nI (2 ^ n - 1)), .ref gr, .ref gc, .ref gb, .ref gu])), (gr, .inl (X.1.2.1, N, .inl (gR n))), (gc, .inl (X.1.2.1, N, .inl (gC n))), (gb, .inl (X.1.2.1, N, .inl (gB n))), (aB, .inr (2, [.ref aG, .ref aS, .ref aR, .ref aC, .ref aX])), (aS, .inl (X.1.2.1, N, .inl (eb b))), (aR, .inl (X.1.2.1, n, .inl (mR n N b))), (aC, .inl (X.1.2.1, n, .inl (mC n N b))), (aX, .inl (X.1.2.1, n, .inl (mB n N b)))]) C dX8_search_67 (c_X1_may (g := X.1) (l := X.2.2.1) (n := n) (N := N) (aG := aG) (gr := gr) (gc := gc) (gb := gb) (gu := gu) (aB := aB) (aS := aS) (aR := aR) (aC := aC) (aX := aX) (b := b) (c := o a) (hn := (by first | assumption | omega)) (hc := hac)) gX8_search_X1_may rfl (by decide +kernel) rfl (by constructor <;> (simp only [ww_rm]; omega)) ⟨rfl, rfl⟩ ⟨Nat.zero_le _, Nat.zero_le _⟩ (rest := []) rfl (by decide) 4 rfl rfl [2, 3, 4, 5, 6, 7, 8, 9, 10] (by decide) rfl (fun u => rfl) (fun u => rfl) (fun v u hp => ?_)
      obtain rfl := hp
      show RW X 0 0 70 [(0, .ref aW), (1, .int (nI k)), (2, .int (nI a)), (3, .int (nI (o a)))] [.int (nI (mkN (mayP n N b (o a))))] [(aW, .inr (9, [.ref aB, .ref aO, .int (nI lim), .int (nI fd)])), (aO, .inl (X.1.2.1, N, .inl (nO (uO (uO o a (o (k - 1))) (k - 1) (o a))))), (aG, .inr (5, [.int (nI n), .int (nI N), .int (nI (2 ^ n - 1)), .ref gr, .ref gc, .ref gb, .ref gu])), (gr, .inl (X.1.2.1, N, .inl (gR n))), (gc, .inl (X.1.2.1, N, .inl (gC n))), (gb, .inl (X.1.2.1, N, .inl (gB n))), (aB, .inr (2, [.ref aG, .ref aS, .ref aR, .ref aC, .ref aX])), (aS, .inl (X.1.2.1, N, .inl (eb b))), (aR, .inl (X.1.2.1, n, .inl (mR n N b))), (aC, .inl (X.1.2.1, n, .inl (mC n N b))), (aX, .inl (X.1.2.1, n, .inl (mB n N b)))]
      refine r_istore C dX8_search_70 (by decide) [1, 2, 3, 4, 0] (lv' := [(0, .ref aW), (1, .int (nI k)), (2, .int (nI a)), (3, .int (nI (o a))), (4, .int (nI (mkN (mayP n N b (o a)))))]) rfl ?_
      refine r_iconst C dX8_search_72 (v := nI 0) (by decide) ?_
      refine r_istore C dX8_search_73 (by decide) [1, 2, 3, 4, 5, 0] (lv' := [(0, .ref aW), (1, .int (nI k)), (2, .int (nI a)), (3, .int (nI (o a))), (4, .int (nI (mkN (mayP n N b (o a))))), (5, .int (nI 0))]) rfl ?_
      have L75 : ∀ (d75 : Nat) (s : Nat) (o1 : Nat → Nat) (F : Nat), (n - s) < d75 → (s ≤ n) → (F = min lim (fd + sumV s (fun v => cntS n N (ub b (o a) (some v)) * dI (mayP n N b (o a) v)))) → (enP N (ub b (o a) (some 0)) o1 (k - 1)) → (o1 (k - 1) = o a) → (∀ j, k ≤ j → o1 j = o j) → RW X 0 0 75 [(0, .ref aW), (1, .int (nI k)), (3, .int (nI (o a))), (4, .int (nI (mkN (mayP n N b (o a))))), (5, .int (nI s))] [] [(aW, .inr (9, [.ref aB, .ref aO, .int (nI lim), .int (nI F)])), (aO, .inl (X.1.2.1, N, .inl (nO o1))), (aG, .inr (5, [.int (nI n), .int (nI N), .int (nI (2 ^ n - 1)), .ref gr, .ref gc, .ref gb, .ref gu])), (gr, .inl (X.1.2.1, N, .inl (gR n))), (gc, .inl (X.1.2.1, N, .inl (gC n))), (gb, .inl (X.1.2.1, N, .inl (gB n))), (aB, .inr (2, [.ref aG, .ref aS, .ref aR, .ref aC, .ref aX])), (aS, .inl (X.1.2.1, N, .inl (eb b))), (aR, .inl (X.1.2.1, n, .inl (mR n N b))), (aC, .inl (X.1.2.1, n, .inl (mC n N b))), (aX, .inl (X.1.2.1, n, .inl (mB n N b)))] := by
        intro d75
        induction d75 with
        | zero => intro s o1 F hd75; exact absurd hd75 (Nat.not_lt_zero _)
        | succ d75 ih75 =>
          intro s o1 F hd75 hs hF hen1 hoc hoj
          refine r_iload C dX8_search_75 4 rfl ?_
          refine r_aload_n C dX8_search_77 0 rfl rfl ?_
          refine r_get C dX8_search_78 iX8_search_X8 0 fX8_search_21 0 rfl rfl (by decide) rfl ?_
          refine r_get C dX8_search_81 iX8_search_X1 0 fX8_search_53 6 rfl rfl (by decide) rfl ?_
          refine r_get C dX8_search_84 iX8_search_X4 0 fX8_search_57 2 rfl rfl (by decide) rfl ?_
          refine r_icmp_ge (tgt := 142) C dX8_search_87 (by decide) (fun h87 => ?_) (fun h87 => ?_)
          · have h87 : n ≤ s := (nI_leI (by omega) (by omega)).mp h87
            have e1 : F = min lim (fd + cntS n N b) := by
              rw [hF, cntS_split hac h0c, show s = n by omega]
            rw [e1]
            exact hret _ _ _ (o1) ⟨rfl, enP_back hen1 h2 hac h0c hoc, hoj⟩ (Or.inl ⟨rfl, rfl, dX8_search_142⟩)
          · have h87 : ¬ (n ≤ s) := fun e9 => h87 ((nI_leI (by omega) (by omega)).mpr e9)
            refine r_aload_n C dX8_search_90 0 rfl rfl ?_
            refine r_get C dX8_search_91 iX8_search_X8 3 fX8_search_13 0 rfl rfl (by decide) rfl ?_
            refine r_aload_n C dX8_search_94 0 rfl rfl ?_
            refine r_get C dX8_search_95 iX8_search_X8 2 fX8_search_7 0 rfl rfl (by decide) rfl ?_
            refine r_icmp_ge (tgt := 142) C dX8_search_98 (by decide) (fun h98 => ?_) (fun h98 => ?_)
            · have h98 : lim ≤ F := (nI_leI (by omega) (by omega)).mp h98
              have e1 : F = min lim (fd + cntS n N b) := by
                have hle := sumV_le (f := fun v => cntS n N (ub b (o a) (some v)) * dI (mayP n N b (o a) v)) hs
                rw [← cntS_split hac h0c] at hle
                omega
              rw [e1]
              exact hret _ _ _ (o1) ⟨rfl, enP_back hen1 h2 hac h0c hoc, hoj⟩ (Or.inl ⟨rfl, rfl, dX8_search_142⟩)
            · have h98 : ¬ (lim ≤ F) := fun e9 => h98 ((nI_leI (by omega) (by omega)).mpr e9)
              refine r_iload C dX8_search_101 3 rfl ?_
              refine r_iload C dX8_search_103 4 rfl ?_
              refine r_ishr C dX8_search_105 (v := nI (mkN (mayP n N b (o a)) >>> s)) (shr_s _ (mkN_lt _) s (by omega)) ?_
              refine r_iconst C dX8_search_106 (v := nI 1) (by decide) ?_
              refine r_iand C dX8_search_107 (v := nI (((mkN (mayP n N b (o a))).testBit s).toNat)) (bit_s _ (mkN_lt _) s (by omega)) ?_
              have hb9 : (((mkN (mayP n N b (o a))).testBit s).toNat) ≤ 1 := Bool.toNat_le _
              refine r_if_eq (tgt := 136) C dX8_search_108 (by decide) (fun h108 => ?_) (fun h108 => ?_)
              · have h108 : (((mkN (mayP n N b (o a))).testBit s).toNat) = 0 := (nI_eq (b := 0) (by omega) (by omega)).mp h108
                refine r_iinc C dX8_search_136 4 rfl (v := nI (s + 1)) (nI_add _ _) (by decide) [1, 2, 3, 4, 0] (lv' := [(0, .ref aW), (1, .int (nI k)), (3, .int (nI (o a))), (4, .int (nI (mkN (mayP n N b (o a))))), (5, .int (nI (s + 1)))]) rfl ?_
                refine r_goto (tgt := 75) C dX8_search_139 (by decide) ?_
                exact ih75 (s + 1) o1 F (by omega) (by omega) (by rw [hF]; show _ = min lim (fd + (sumV s _ + cntS n N (ub b (o a) (some s)) * dI (mayP n N b (o a) s))); rw [dI_f (bit_0 (P := mayP n N b (o a)) (by omega) h108), Nat.mul_zero, Nat.add_zero]) hen1 hoc hoj
              · have h108 : ¬ ((((mkN (mayP n N b (o a))).testBit s).toNat) = 0) := fun e9 => h108 ((nI_eq (b := 0) (by omega) (by omega)).mpr e9)
                have hPs := bit_1 (P := mayP n N b (o a)) (by omega) h108
                refine r_aload_n C dX8_search_111 0 rfl rfl ?_
                refine r_get C dX8_search_112 iX8_search_X8 0 fX8_search_21 0 rfl rfl (by decide) rfl ?_
                refine r_iload_n C dX8_search_115 2 rfl rfl ?_
                refine r_iload C dX8_search_116 4 rfl ?_
                refine r_callV0 (n := 2) (ws' := fun u => [(aW, .inr (9, [.ref aB, .ref aO, .int (nI lim), .int (nI F)])), (aO, .inl (X.1.2.1, N, .inl (nO o1))), (aG, .inr (5, [.int (nI n), .int (nI N), .int (nI (2 ^ n - 1)), .ref gr, .ref gc, .ref gb, .ref gu])), (gr, .inl (X.1.2.1, N, .inl (gR n))), (gc, .inl (X.1.2.1, N, .inl (gC n))), (gb, .inl (X.1.2.1, N, .inl (gB n))), (aB, .inr (2, [.ref aG, .ref aS, .ref aR, .ref aC, .ref aX])), (aS, .inl (X.1.2.1, N, .inl (eb (ub b (o a) (some s))))), (aR, .inl (X.1.2.1, n, .inl (mR n N (ub b (o a) (some s))))), (aC, .inl (X.1.2.1, n, .inl (mC n N (ub b (o a) (some s))))), (aX, .inl (X.1.2.1, n, .inl (mB n N (ub b (o a) (some s)))))]) C dX8_search_118 (c_X1_put (g := X.1) (l := X.2.2.1) (n := n) (N := N) (aG := aG) (gr := gr) (gc := gc) (gb := gb) (gu := gu) (aB := aB) (aS := aS) (aR := aR) (aC := aC) (aX := aX) (b := b) (c := o a) (v := s) (hn := (by first | assumption | omega)) (hc := hac) (h0 := h0c) (hm := hPs)) gX8_search_X1_put rfl (by decide +kernel) rfl (by constructor <;> (simp only [ww_rm]; omega)) ⟨rfl, rfl⟩ ⟨Nat.zero_le _, Nat.zero_le _⟩ (rest := []) rfl (by decide) 4 rfl rfl [2, 3, 4, 5, 6, 7, 8, 9, 10] (by decide) rfl (fun u => rfl) (fun u => rfl) (fun v u hp => ?_)
                obtain rfl := hp
                show RW X 0 0 121 [(0, .ref aW), (1, .int (nI k)), (3, .int (nI (o a))), (4, .int (nI (mkN (mayP n N b (o a))))), (5, .int (nI s))] [] [(aW, .inr (9, [.ref aB, .ref aO, .int (nI lim), .int (nI F)])), (aO, .inl (X.1.2.1, N, .inl (nO o1))), (aG, .inr (5, [.int (nI n), .int (nI N), .int (nI (2 ^ n - 1)), .ref gr, .ref gc, .ref gb, .ref gu])), (gr, .inl (X.1.2.1, N, .inl (gR n))), (gc, .inl (X.1.2.1, N, .inl (gC n))), (gb, .inl (X.1.2.1, N, .inl (gB n))), (aB, .inr (2, [.ref aG, .ref aS, .ref aR, .ref aC, .ref aX])), (aS, .inl (X.1.2.1, N, .inl (eb (ub b (o a) (some s))))), (aR, .inl (X.1.2.1, n, .inl (mR n N (ub b (o a) (some s))))), (aC, .inl (X.1.2.1, n, .inl (mC n N (ub b (o a) (some s))))), (aX, .inl (X.1.2.1, n, .inl (mB n N (ub b (o a) (some s)))))]
                refine r_aload_n C dX8_search_121 0 rfl rfl ?_
                refine r_iload_n C dX8_search_122 1 rfl rfl ?_
                refine r_iconst C dX8_search_123 (v := nI 1) (by decide) ?_
                refine r_isub C dX8_search_124 (v := nI (k - 1)) (pk_sub (by omega)) ?_
                refine r_callV0 (n := 1) (ws' := fun u => [(aW, .inr (9, [.ref aB, .ref aO, .int (nI lim), .int (nI (min lim (F + cntS n N (ub b (o a) (some s)))))])), (aO, .inl (X.1.2.1, N, .inl (nO u))), (aG, .inr (5, [.int (nI n), .int (nI N), .int (nI (2 ^ n - 1)), .ref gr, .ref gc, .ref gb, .ref gu])), (gr, .inl (X.1.2.1, N, .inl (gR n))), (gc, .inl (X.1.2.1, N, .inl (gC n))), (gb, .inl (X.1.2.1, N, .inl (gB n))), (aB, .inr (2, [.ref aG, .ref aS, .ref aR, .ref aC, .ref aX])), (aS, .inl (X.1.2.1, N, .inl (eb (ub b (o a) (some s))))), (aR, .inl (X.1.2.1, n, .inl (mR n N (ub b (o a) (some s))))), (aC, .inl (X.1.2.1, n, .inl (mC n N (ub b (o a) (some s))))), (aX, .inl (X.1.2.1, n, .inl (mB n N (ub b (o a) (some s)))))]) C dX8_search_125 (ihR (k - 1) (by omega) (n := n) (N := N) (aG := aG) (gr := gr) (gc := gc) (gb := gb) (gu := gu) (aB := aB) (aS := aS) (aR := aR) (aC := aC) (aX := aX) (b := ub b (o a) (some s)) (aW := aW) (aO := aO) (lim := lim) (fd := F) (o := o1) (hn := (by first | assumption | omega)) (hk := (by omega)) (hok := (okB_put hok hPs)) (hen := (enP_ub hen1)) (hfl := (by omega)) (hlim := (by first | assumption | omega))) gX8_search_X8_search rfl (by decide +kernel) rfl (by constructor <;> (simp only [ww_rm]; omega)) ⟨rfl, rfl⟩ ⟨Nat.zero_le _, Nat.zero_le _⟩ (rest := []) rfl (by decide) 0 rfl rfl [0, 1, 2, 3, 4, 5, 6, 7, 8, 9, 10] (by decide) rfl (fun u => rfl) (fun u => rfl) (fun v u hp => ?_)
                obtain ⟨o9_4, rfl⟩ : ∃ z, z = u := ⟨_, rfl⟩
                obtain ⟨rfl, p125_0, p125_1⟩ := hp
                show RW X 0 0 128 [(0, .ref aW), (1, .int (nI k)), (3, .int (nI (o a))), (4, .int (nI (mkN (mayP n N b (o a))))), (5, .int (nI s))] [] [(aW, .inr (9, [.ref aB, .ref aO, .int (nI lim), .int (nI (min lim (F + cntS n N (ub b (o a) (some s)))))])), (aO, .inl (X.1.2.1, N, .inl (nO o9_4))), (aG, .inr (5, [.int (nI n), .int (nI N), .int (nI (2 ^ n - 1)), .ref gr, .ref gc, .ref gb, .ref gu])), (gr, .inl (X.1.2.1, N, .inl (gR n))), (gc, .inl (X.1.2.1, N, .inl (gC n))), (gb, .inl (X.1.2.1, N, .inl (gB n))), (aB, .inr (2, [.ref aG, .ref aS, .ref aR, .ref aC, .ref aX])), (aS, .inl (X.1.2.1, N, .inl (eb (ub b (o a) (some s))))), (aR, .inl (X.1.2.1, n, .inl (mR n N (ub b (o a) (some s))))), (aC, .inl (X.1.2.1, n, .inl (mC n N (ub b (o a) (some s))))), (aX, .inl (X.1.2.1, n, .inl (mB n N (ub b (o a) (some s)))))]
                refine r_aload_n C dX8_search_128 0 rfl rfl ?_
                refine r_get C dX8_search_129 iX8_search_X8 0 fX8_search_21 0 rfl rfl (by decide) rfl ?_
                refine r_iload_n C dX8_search_132 2 rfl rfl ?_
                refine r_callV0 (n := 1) (ws' := fun u => [(aW, .inr (9, [.ref aB, .ref aO, .int (nI lim), .int (nI (min lim (F + cntS n N (ub b (o a) (some s)))))])), (aO, .inl (X.1.2.1, N, .inl (nO o9_4))), (aG, .inr (5, [.int (nI n), .int (nI N), .int (nI (2 ^ n - 1)), .ref gr, .ref gc, .ref gb, .ref gu])), (gr, .inl (X.1.2.1, N, .inl (gR n))), (gc, .inl (X.1.2.1, N, .inl (gC n))), (gb, .inl (X.1.2.1, N, .inl (gB n))), (aB, .inr (2, [.ref aG, .ref aS, .ref aR, .ref aC, .ref aX])), (aS, .inl (X.1.2.1, N, .inl (eb (ub (ub b (o a) (some s)) (o a) none)))), (aR, .inl (X.1.2.1, n, .inl (mR n N (ub (ub b (o a) (some s)) (o a) none)))), (aC, .inl (X.1.2.1, n, .inl (mC n N (ub (ub b (o a) (some s)) (o a) none)))), (aX, .inl (X.1.2.1, n, .inl (mB n N (ub (ub b (o a) (some s)) (o a) none))))]) C dX8_search_133 (c_X1_takeOut (g := X.1) (l := X.2.2.1) (n := n) (N := N) (aG := aG) (gr := gr) (gc := gc) (gb := gb) (gu := gu) (aB := aB) (aS := aS) (aR := aR) (aC := aC) (aX := aX) (b := ub b (o a) (some s)) (c := o a) (v := s) (hn := (by first | assumption | omega)) (hc := hac) (hv6 := (by omega)) (h0 := ub_s) (hm := (fun d q1 q2 q3 => by rw [ub_n q2]; exact hPs.2 d q1 q3))) gX8_search_X1_takeOut rfl (by decide +kernel) rfl (by constructor <;> (simp only [ww_rm]; omega)) ⟨rfl, rfl⟩ ⟨Nat.zero_le _, Nat.zero_le _⟩ (rest := []) rfl (by decide) 4 rfl rfl [2, 3, 4, 5, 6, 7, 8, 9, 10] (by decide) rfl (fun u => rfl) (fun u => rfl) (fun v u hp => ?_)
                obtain rfl := hp
                show RW X 0 0 136 [(0, .ref aW), (1, .int (nI k)), (3, .int (nI (o a))), (4, .int (nI (mkN (mayP n N b (o a))))), (5, .int (nI s))] [] [(aW, .inr (9, [.ref aB, .ref aO, .int (nI lim), .int (nI (min lim (F + cntS n N (ub b (o a) (some s)))))])), (aO, .inl (X.1.2.1, N, .inl (nO o9_4))), (aG, .inr (5, [.int (nI n), .int (nI N), .int (nI (2 ^ n - 1)), .ref gr, .ref gc, .ref gb, .ref gu])), (gr, .inl (X.1.2.1, N, .inl (gR n))), (gc, .inl (X.1.2.1, N, .inl (gC n))), (gb, .inl (X.1.2.1, N, .inl (gB n))), (aB, .inr (2, [.ref aG, .ref aS, .ref aR, .ref aC, .ref aX])), (aS, .inl (X.1.2.1, N, .inl (eb (ub (ub b (o a) (some s)) (o a) none)))), (aR, .inl (X.1.2.1, n, .inl (mR n N (ub (ub b (o a) (some s)) (o a) none)))), (aC, .inl (X.1.2.1, n, .inl (mC n N (ub (ub b (o a) (some s)) (o a) none)))), (aX, .inl (X.1.2.1, n, .inl (mB n N (ub (ub b (o a) (some s)) (o a) none))))]
                rw [ub_ub h0c]
                show RW X 0 0 136 [(0, .ref aW), (1, .int (nI k)), (3, .int (nI (o a))), (4, .int (nI (mkN (mayP n N b (o a))))), (5, .int (nI s))] [] [(aW, .inr (9, [.ref aB, .ref aO, .int (nI lim), .int (nI (min lim (F + cntS n N (ub b (o a) (some s)))))])), (aO, .inl (X.1.2.1, N, .inl (nO o9_4))), (aG, .inr (5, [.int (nI n), .int (nI N), .int (nI (2 ^ n - 1)), .ref gr, .ref gc, .ref gb, .ref gu])), (gr, .inl (X.1.2.1, N, .inl (gR n))), (gc, .inl (X.1.2.1, N, .inl (gC n))), (gb, .inl (X.1.2.1, N, .inl (gB n))), (aB, .inr (2, [.ref aG, .ref aS, .ref aR, .ref aC, .ref aX])), (aS, .inl (X.1.2.1, N, .inl (eb b))), (aR, .inl (X.1.2.1, n, .inl (mR n N b))), (aC, .inl (X.1.2.1, n, .inl (mC n N b))), (aX, .inl (X.1.2.1, n, .inl (mB n N b)))]
                refine r_iinc C dX8_search_136 4 rfl (v := nI (s + 1)) (nI_add _ _) (by decide) [1, 2, 3, 4, 0] (lv' := [(0, .ref aW), (1, .int (nI k)), (3, .int (nI (o a))), (4, .int (nI (mkN (mayP n N b (o a))))), (5, .int (nI (s + 1)))]) rfl ?_
                refine r_goto (tgt := 75) C dX8_search_139 (by decide) ?_
                exact ih75 (s + 1) o9_4 (min lim (F + cntS n N (ub b (o a) (some s)))) (by omega) (by omega) (by rw [hF]; show _ = min lim (fd + (sumV s _ + cntS n N (ub b (o a) (some s)) * _)); rw [dI_t hPs, Nat.mul_one]; omega) (enP_ub p125_0) ((p125_1 (k - 1) (by omega)).trans hoc) (fun j q => (p125_1 j (by omega)).trans (hoj j q))
      refine r_lv [0, 1, 3, 4, 5] (lv' := [(0, .ref aW), (1, .int (nI k)), (3, .int (nI (o a))), (4, .int (nI (mkN (mayP n N b (o a))))), (5, .int (nI 0))]) rfl ?_
      exact L75 ((n - 0) + 1) 0 (uO (uO o a (o (k - 1))) (k - 1) (o a)) fd (Nat.lt_succ_self _) (Nat.zero_le _) (by show fd = min lim (fd + 0); omega) hsw.1 hsw.2.1 hsw.2.2
    · have h22 : ¬ (k ≤ N) := fun e9 => h22 ((nI_leI (by omega) (by omega)).mpr e9)
      exact absurd hk h22
  · have h2 : ¬ (1 ≤ k) := fun e9 => h2 ((nI_leI (by omega) (by omega)).mpr e9)
    refine r_aload_n C dX8_search_5 0 rfl rfl ?_
    refine r_dup C dX8_search_6 rfl ?_
    refine r_get C dX8_search_7 iX8_search_X8 3 fX8_search_13 0 rfl rfl (by decide) rfl ?_
    refine r_iconst C dX8_search_10 (v := nI 1) (by decide) ?_
    refine r_iadd C dX8_search_11 (v := nI (fd + 1)) (nI_add _ _) ?_
    refine r_put C dX8_search_12 iX8_search_X8 tyX8 tyX8_ok nmX8 3 fX8_search_13 0 rfl rfl (by decide) rfl rfl rfl rfl (Nat.le_of_ble_eq_true rfl) (ws' := [(aW, .inr (9, [.ref aB, .ref aO, .int (nI lim), .int (nI (fd + 1))])), (aO, .inl (X.1.2.1, N, .inl (nO o))), (aG, .inr (5, [.int (nI n), .int (nI N), .int (nI (2 ^ n - 1)), .ref gr, .ref gc, .ref gb, .ref gu])), (gr, .inl (X.1.2.1, N, .inl (gR n))), (gc, .inl (X.1.2.1, N, .inl (gC n))), (gb, .inl (X.1.2.1, N, .inl (gB n))), (aB, .inr (2, [.ref aG, .ref aS, .ref aR, .ref aC, .ref aX])), (aS, .inl (X.1.2.1, N, .inl (eb b))), (aR, .inl (X.1.2.1, n, .inl (mR n N b))), (aC, .inl (X.1.2.1, n, .inl (mC n N b))), (aX, .inl (X.1.2.1, n, .inl (mB n N b)))]) rfl ?_
    have e1 : fd + 1 = min lim (fd + cntS n N b) := by
      rw [cntS_full hok (fun c q1 q2 => by obtain ⟨j, q3, _⟩ := hen.2.1 c q1 q2; omega)]; omega
    rw [e1]
    exact hret _ _ _ (o) ⟨rfl, hen, fun _ _ => rfl⟩ (Or.inl ⟨rfl, rfl, dX8_search_15⟩)
