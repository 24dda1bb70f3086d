theorem fX1_flip_26 : Cond.fieldLink RX1 26 (TX1 2).1 (TX1 2).2.1 (TX1 2).2.2.1 ∈ wsX1_flip := List.mem_of_getElem? (i := 1) rfl
theorem iX1_flip_X1 : ∀ w ∈ wsX10, w ∈ wsX1_flip := by decide +kernel
theorem fX1_flip_7 : Cond.fieldLink RX1 7 (TX1 0).1 (TX1 0).2.1 (TX1 0).2.2.1 ∈ wsX1_flip := List.mem_of_getElem? (i := 2) rfl
theorem fX1_flip_45 : Cond.fieldLink RX1 45 (TX4 3).1 (TX4 3).2.1 (TX4 3).2.2.1 ∈ wsX1_flip := List.mem_of_getElem? (i := 3) rfl
theorem iX1_flip_X4 : ∀ w ∈ wsX40, w ∈ wsX1_flip := by decide +kernel
theorem fX1_flip_29 : Cond.fieldLink RX1 29 (TX1 3).1 (TX1 3).2.1 (TX1 3).2.2.1 ∈ wsX1_flip := List.mem_of_getElem? (i := 4) rfl
theorem fX1_flip_48 : Cond.fieldLink RX1 48 (TX4 4).1 (TX4 4).2.1 (TX4 4).2.2.1 ∈ wsX1_flip := List.mem_of_getElem? (i := 5) rfl
theorem fX1_flip_32 : Cond.fieldLink RX1 32 (TX1 4).1 (TX1 4).2.1 (TX1 4).2.2.1 ∈ wsX1_flip := List.mem_of_getElem? (i := 6) rfl
theorem fX1_flip_51 : Cond.fieldLink RX1 51 (TX4 5).1 (TX4 5).2.1 (TX4 5).2.2.1 ∈ wsX1_flip := List.mem_of_getElem? (i := 7) rfl
set_option maxHeartbeats 4000000 in
set_option maxRecDepth 100000 in
theorem c_X1_flip {g : ww_G} {l : Launch} {n : Nat} {N : Nat} {aG : Nat} {gr : Nat} {gc : Nat} {gb : Nat} {gu : Nat} {aB : Nat} {aS : Nat} {aR : Nat} {aC : Nat} {aX : Nat} {f : Nat → Int32} {fR : Nat → Int32} {fC : Nat → Int32} {fB : Nat → Int32} {c : Nat} {x : Int32} (hn : (n = 4 ∧ N = 16) ∨ (n = 6 ∧ N = 36)) (hc : c < N) : CT g l yX1_flip wsX1_flip (ww_rm 1) [.ref aB, .int (nI c), .int x] ([(aG, .inr (5, [.int (nI n), .int (nI N), .int (nI (2 ^ n - 1)), .ref gr, .ref gc, .ref gb, .ref gu])), (gr, .inl (g.2.1, N, .inl (gR n))), (gc, .inl (g.2.1, N, .inl (gC n))), (gb, .inl (g.2.1, N, .inl (gB n))), (aB, .inr (2, [.ref aG, .ref aS, .ref aR, .ref aC, .ref aX])), (aS, .inl (g.2.1, N, .inl f)), (aR, .inl (g.2.1, n, .inl fR)), (aC, .inl (g.2.1, n, .inl fC)), (aX, .inl (g.2.1, n, .inl fB))]) (S := Unit) (fun v u => v = none) (fun u => [(aG, .inr (5, [.int (nI n), .int (nI N), .int (nI (2 ^ n - 1)), .ref gr, .ref gc, .ref gb, .ref gu])), (gr, .inl (g.2.1, N, .inl (gR n))), (gc, .inl (g.2.1, N, .inl (gC n))), (gb, .inl (g.2.1, N, .inl (gB n))), (aB, .inr (2, [.ref aG, .ref aS, .ref aR, .ref aC, .ref aX])), (aS, .inl (g.2.1, N, .inl f)), (aR, .inl (g.2.1, n, .inl (upd fR (c / n) (fR (c / n) ^^^ x)))), (aC, .inl (g.2.1, n, .inl (upd fC (c % n) (fC (c % n) ^^^ x)))), (aX, .inl (g.2.1, n, .inl (upd fB (bx n c) (fB (bx n c) ^^^ x))))]) := by
  refine CT.of cX1_flip 3 none RX1 (by decide +kernel) rfl rfl (Nat.le_of_ble_eq_true rfl) ?_
  intro X hg hl C hret
  subst hg; subst hl
  show RW X 0 0 0 [(0, .ref aB), (1, .int (nI c)), (2, .int x)] [] [(aG, .inr (5, [.int (nI n), .int (nI N), .int (nI (2 ^ n - 1)), .ref gr, .ref gc, .ref gb, .ref gu])), (gr, .inl (X.1.2.1, N, .inl (gR n))), (gc, .inl (X.1.2.1, N, .inl (gC n))), (gb, .inl (X.1.2.1, N, .inl (gB n))), (aB, .inr (2, [.ref aG, .ref aS, .ref aR, .ref aC, .ref aX])), (aS, .inl (X.1.2.1, N, .inl f)), (aR, .inl (X.1.2.1, n, .inl fR)), (aC, .inl (X.1.2.1, n, .inl fC)), (aX, .inl (X.1.2.1, n, .inl fB))]
  refine r_aload_n C dX1_flip_0 0 rfl rfl ?_
  refine r_get C dX1_flip_1 iX1_flip_X1 2 fX1_flip_26 4 rfl rfl (by decide) rfl ?_
  refine r_aload_n C dX1_flip_4 0 rfl rfl ?_
  refine r_get C dX1_flip_5 iX1_flip_X1 0 fX1_flip_7 4 rfl rfl (by decide) rfl ?_
  refine r_get C dX1_flip_8 iX1_flip_X4 3 fX1_flip_45 0 rfl rfl (by decide) rfl ?_
  refine r_iload_n C dX1_flip_11 1 rfl rfl ?_
  refine r_iald C dX1_flip_12 1 rfl (by omega) (by omega) ?_
  show RW X 0 0 13 [(0, .ref aB), (1, .int (nI c)), (2, .int x)] [.int (nI (c / n)), .ref aR] [(aG, .inr (5, [.int (nI n), .int (nI N), .int (nI (2 ^ n - 1)), .ref gr, .ref gc, .ref gb, .ref gu])), (gr, .inl (X.1.2.1, N, .inl (gR n))), (gc, .inl (X.1.2.1, N, .inl (gC n))), (gb, .inl (X.1.2.1, N, .inl (gB n))), (aB, .inr (2, [.ref aG, .ref aS, .ref aR, .ref aC, .ref aX])), (aS, .inl (X.1.2.1, N, .inl f)), (aR, .inl (X.1.2.1, n, .inl fR)), (aC, .inl (X.1.2.1, n, .inl fC)), (aX, .inl (X.1.2.1, n, .inl fB))]
  refine r_dup2 C dX1_flip_13 rfl rfl ?_
  refine r_iald C dX1_flip_14 6 rfl (dv_lt hn hc) (by omega) ?_
  refine r_iload_n C dX1_flip_15 2 rfl rfl ?_
  refine r_ixor C dX1_flip_16 (v := (fR (c / n)) ^^^ x) rfl ?_
  refine r_iast C dX1_flip_17 6 rfl (dv_lt hn hc) (by omega) (ws' := [(aG, .inr (5, [.int (nI n), .int (nI N), .int (nI (2 ^ n - 1)), .ref gr, .ref gc, .ref gb, .ref gu])), (gr, .inl (X.1.2.1, N, .inl (gR n))), (gc, .inl (X.1.2.1, N, .inl (gC n))), (gb, .inl (X.1.2.1, N, .inl (gB n))), (aB, .inr (2, [.ref aG, .ref aS, .ref aR, .ref aC, .ref aX])), (aS, .inl (X.1.2.1, N, .inl f)), (aR, .inl (X.1.2.1, n, .inl (upd fR (c / n) ((fR (c / n)) ^^^ x)))), (aC, .inl (X.1.2.1, n, .inl fC)), (aX, .inl (X.1.2.1, n, .inl fB))]) rfl ?_
  refine r_aload_n C dX1_flip_18 0 rfl rfl ?_
  refine r_get C dX1_flip_19 iX1_flip_X1 3 fX1_flip_29 4 rfl rfl (by decide) rfl ?_
  refine r_aload_n C dX1_flip_22 0 rfl rfl ?_
  refine r_get C dX1_flip_23 iX1_flip_X1 0 fX1_flip_7 4 rfl rfl (by decide) rfl ?_
  refine r_get C dX1_flip_26 iX1_flip_X4 4 fX1_flip_48 0 rfl rfl (by decide) rfl ?_
  refine r_iload_n C dX1_flip_29 1 rfl rfl ?_
  refine r_iald C dX1_flip_30 2 rfl (by omega) (by omega) ?_
  show RW X 0 0 31 [(0, .ref aB), (1, .int (nI c)), (2, .int x)] [.int (nI (c % n)), .ref aC] [(aG, .inr (5, [.int (nI n), .int (nI N), .int (nI (2 ^ n - 1)), .ref gr, .ref gc, .ref gb, .ref gu])), (gr, .inl (X.1.2.1, N, .inl (gR n))), (gc, .inl (X.1.2.1, N, .inl (gC n))), (gb, .inl (X.1.2.1, N, .inl (gB n))), (aB, .inr (2, [.ref aG, .ref aS, .ref aR, .ref aC, .ref aX])), (aS, .inl (X.1.2.1, N, .inl f)), (aR, .inl (X.1.2.1, n, .inl (upd fR (c / n) ((fR (c / n)) ^^^ x)))), (aC, .inl (X.1.2.1, n, .inl fC)), (aX, .inl (X.1.2.1, n, .inl fB))]
  refine r_dup2 C dX1_flip_31 rfl rfl ?_
  refine r_iald C dX1_flip_32 7 rfl (md_lt hn) (by omega) ?_
  refine r_iload_n C dX1_flip_33 2 rfl rfl ?_
  refine r_ixor C dX1_flip_34 (v := (fC (c % n)) ^^^ x) rfl ?_
  refine r_iast C dX1_flip_35 7 rfl (md_lt hn) (by omega) (ws' := [(aG, .inr (5, [.int (nI n), .int (nI N), .int (nI (2 ^ n - 1)), .ref gr, .ref gc, .ref gb, .ref gu])), (gr, .inl (X.1.2.1, N, .inl (gR n))), (gc, .inl (X.1.2.1, N, .inl (gC n))), (gb, .inl (X.1.2.1, N, .inl (gB n))), (aB, .inr (2, [.ref aG, .ref aS, .ref aR, .ref aC, .ref aX])), (aS, .inl (X.1.2.1, N, .inl f)), (aR, .inl (X.1.2.1, n, .inl (upd fR (c / n) ((fR (c / n)) ^^^ x)))), (aC, .inl (X.1.2.1, n, .inl (upd fC (c % n) ((fC (c % n)) ^^^ x)))), (aX, .inl (X.1.2.1, n, .inl fB))]) rfl ?_
  refine r_aload_n C dX1_flip_36 0 rfl rfl ?_
  refine r_get C dX1_flip_37 iX1_flip_X1 4 fX1_flip_32 4 rfl rfl (by decide) rfl ?_
  refine r_aload_n C dX1_flip_40 0 rfl rfl ?_
  refine r_get C dX1_flip_41 iX1_flip_X1 0 fX1_flip_7 4 rfl rfl (by decide) rfl ?_
  refine r_get C dX1_flip_44 iX1_flip_X4 5 fX1_flip_51 0 rfl rfl (by decide) rfl ?_
  refine r_iload_n C dX1_flip_47 1 rfl rfl ?_
  refine r_iald C dX1_flip_48 3 rfl (by omega) (by omega) ?_
  show RW X 0 0 49 [(0, .ref aB), (1, .int (nI c)), (2, .int x)] [.int (nI (bx n c)), .ref aX] [(aG, .inr (5, [.int (nI n), .int (nI N), .int (nI (2 ^ n - 1)), .ref gr, .ref gc, .ref gb, .ref gu])), (gr, .inl (X.1.2.1, N, .inl (gR n))), (gc, .inl (X.1.2.1, N, .inl (gC n))), (gb, .inl (X.1.2.1, N, .inl (gB n))), (aB, .inr (2, [.ref aG, .ref aS, .ref aR, .ref aC, .ref aX])), (aS, .inl (X.1.2.1, N, .inl f)), (aR, .inl (X.1.2.1, n, .inl (upd fR (c / n) ((fR (c / n)) ^^^ x)))), (aC, .inl (X.1.2.1, n, .inl (upd fC (c % n) ((fC (c % n)) ^^^ x)))), (aX, .inl (X.1.2.1, n, .inl fB))]
  refine r_dup2 C dX1_flip_49 rfl rfl ?_
  refine r_iald C dX1_flip_50 8 rfl (bx_lt hn hc) (by omega) ?_
  refine r_iload_n C dX1_flip_51 2 rfl rfl ?_
  refine r_ixor C dX1_flip_52 (v := (fB (bx n c)) ^^^ x) rfl ?_
  refine r_iast C dX1_flip_53 8 rfl (bx_lt hn hc) (by omega) (ws' := [(aG, .inr (5, [.int (nI n), .int (nI N), .int (nI (2 ^ n - 1)), .ref gr, .ref gc, .ref gb, .ref gu])), (gr, .inl (X.1.2.1, N, .inl (gR n))), (gc, .inl (X.1.2.1, N, .inl (gC n))), (gb, .inl (X.1.2.1, N, .inl (gB n))), (aB, .inr (2, [.ref aG, .ref aS, .ref aR, .ref aC, .ref aX])), (aS, .inl (X.1.2.1, N, .inl f)), (aR, .inl (X.1.2.1, n, .inl (upd fR (c / n) ((fR (c / n)) ^^^ x)))), (aC, .inl (X.1.2.1, n, .inl (upd fC (c % n) ((fC (c % n)) ^^^ x)))), (aX, .inl (X.1.2.1, n, .inl (upd fB (bx n c) ((fB (bx n c)) ^^^ x))))]) rfl ?_
  exact hret _ _ _ () rfl (Or.inl ⟨rfl, rfl, dX1_flip_54⟩)
theorem fX1_isEmpty_19 : Cond.fieldLink RX1 19 (TX1 1).1 (TX1 1).2.1 (TX1 1).2.2.1 ∈ wsX1_isEmpty := List.mem_of_getElem? (i := 1) rfl
theorem iX1_isEmpty_X1 : ∀ w ∈ wsX10, w ∈ wsX1_isEmpty := by decide +kernel
set_option maxHeartbeats 4000000 in
set_option maxRecDepth 100000 in
theorem c_X1_isEmpty {g : ww_G} {l : Launch} {N : Nat} {aG : Nat} {aB : Nat} {aS : Nat} {aR : Nat} {aC : Nat} {aX : Nat} {f : Nat → Int32} {c : Nat} (hN : N < 2147483648) (hc : c < N) : CT g l yX1_isEmpty wsX1_isEmpty (ww_rm 1) [.ref aB, .int (nI c)] ([(aB, .inr (2, [.ref aG, .ref aS, .ref aR, .ref aC, .ref aX])), (aS, .inl (g.2.1, N, .inl f))]) (S := Unit) (fun v u => v = some (.int (bz (f c < 0)))) (fun u => [(aB, .inr (2, [.ref aG, .ref aS, .ref aR, .ref aC, .ref aX])), (aS, .inl (g.2.1, N, .inl f))]) := by
  refine CT.of cX1_isEmpty 2 (some .boolean) RX1 (by decide +kernel) rfl rfl (Nat.le_of_ble_eq_true rfl) ?_
  intro X hg hl C hret
  subst hg; subst hl
  show RW X 0 0 0 [(0, .ref aB), (1, .int (nI c))] [] [(aB, .inr (2, [.ref aG, .ref aS, .ref aR, .ref aC, .ref aX])), (aS, .inl (X.1.2.1, N, .inl f))]
  refine r_aload_n C dX1_isEmpty_0 0 rfl rfl ?_
  refine r_get C dX1_isEmpty_1 iX1_isEmpty_X1 1 fX1_isEmpty_19 0 rfl rfl (by decide) rfl ?_
  refine r_iload_n C dX1_isEmpty_4 1 rfl rfl ?_
  refine r_iald C dX1_isEmpty_5 1 rfl (by omega) (by omega) ?_
  refine r_if_ge (tgt := 13) C dX1_isEmpty_6 (by decide) (fun h6 => ?_) (fun h6 => ?_)
  · refine r_iconst C dX1_isEmpty_13 (v := nI 0) (by decide) ?_
    refine r_top (y := bz (f c < 0)) ((bz_f (Int32.not_lt.mpr h6)).symm) ?_
    exact hret _ _ _ () rfl (Or.inr ⟨_, rfl, dX1_isEmpty_14, Or.inr ⟨rfl, bz_01 _⟩⟩)
  · refine r_iconst C dX1_isEmpty_9 (v := nI 1) (by decide) ?_
    refine r_goto (tgt := 14) C dX1_isEmpty_10 (by decide) ?_
    refine r_top (y := bz (f c < 0)) ((bz_t (Int32.not_le.mp h6)).symm) ?_
    exact hret _ _ _ () rfl (Or.inr ⟨_, rfl, dX1_isEmpty_14, Or.inr ⟨rfl, bz_01 _⟩⟩)
theorem fX1_may_7 : Cond.fieldLink RX1 7 (TX1 0).1 (TX1 0).2.1 (TX1 0).2.2.1 ∈ wsX1_may := List.mem_of_getElem? (i := 1) rfl
theorem iX1_may_X1 : ∀ w ∈ wsX10, w ∈ wsX1_may := by decide +kernel
theorem fX1_may_42 : Cond.fieldLink RX1 42 (TX4 2).1 (TX4 2).2.1 (TX4 2).2.2.1 ∈ wsX1_may := List.mem_of_getElem? (i := 2) rfl
theorem iX1_may_X4 : ∀ w ∈ wsX40, w ∈ wsX1_may := by decide +kernel
theorem fX1_may_26 : Cond.fieldLink RX1 26 (TX1 2).1 (TX1 2).2.1 (TX1 2).2.2.1 ∈ wsX1_may := List.mem_of_getElem? (i := 3) rfl
theorem fX1_may_45 : Cond.fieldLink RX1 45 (TX4 3).1 (TX4 3).2.1 (TX4 3).2.2.1 ∈ wsX1_may := List.mem_of_getElem? (i := 4) rfl
theorem fX1_may_29 : Cond.fieldLink RX1 29 (TX1 3).1 (TX1 3).2.1 (TX1 3).2.2.1 ∈ wsX1_may := List.mem_of_getElem? (i := 5) rfl
theorem fX1_may_48 : Cond.fieldLink RX1 48 (TX4 4).1 (TX4 4).2.1 (TX4 4).2.2.1 ∈ wsX1_may := List.mem_of_getElem? (i := 6) rfl
theorem fX1_may_32 : Cond.fieldLink RX1 32 (TX1 4).1 (TX1 4).2.1 (TX1 4).2.2.1 ∈ wsX1_may := List.mem_of_getElem? (i := 7) rfl
theorem fX1_may_51 : Cond.fieldLink RX1 51 (TX4 5).1 (TX4 5).2.1 (TX4 5).2.2.1 ∈ wsX1_may := List.mem_of_getElem? (i := 8) rfl
set_option maxHeartbeats 4000000 in
set_option maxRecDepth 100000 in
theorem c_X1_may {g : ww_G} {l : Launch} {n : Nat} {N : Nat} {aG : Nat} {gr : Nat} {gc : Nat} {gb : Nat} {gu : Nat} {aB : Nat} {aS : Nat} {aR : Nat} {aC : Nat} {aX : Nat} {b : Nat → Option Nat} {c : Nat} (hn : (n = 4 ∧ N = 16) ∨ (n = 6 ∧ N = 36)) (hc : c < N) : CT g l yX1_may wsX1_may (ww_rm 1) [.ref aB, .int (nI c)] ([(aG, .inr (5, [.int (nI n), .int (nI N), .int (nI (2 ^ n - 1)), .ref gr, .ref gc, .ref gb, .ref gu])), (gr, .inl (g.2.1, N, .inl (gR n))), (gc, .inl (g.2.1, N, .inl (gC n))), (gb, .inl (g.2.1, N, .inl (gB n))), (aB, .inr (2, [.ref aG, .ref aS, .ref aR, .ref aC, .ref aX])), (aS, .inl (g.2.1, N, .inl (eb b))), (aR, .inl (g.2.1, n, .inl (mR n N b))), (aC, .inl (g.2.1, n, .inl (mC n N b))), (aX, .inl (g.2.1, n, .inl (mB n N b)))]) (S := Unit) (fun v u => v = some (.int (nI (mkN (mayP n N b c))))) (fun u => [(aG, .inr (5, [.int (nI n), .int (nI N), .int (nI (2 ^ n - 1)), .ref gr, .ref gc, .ref gb, .ref gu])), (gr, .inl (g.2.1, N, .inl (gR n))), (gc, .inl (g.2.1, N, .inl (gC n))), (gb, .inl (g.2.1, N, .inl (gB n))), (aB, .inr (2, [.ref aG, .ref aS, .ref aR, .ref aC, .ref aX])), (aS, .inl (g.2.1, N, .inl (eb b))), (aR, .inl (g.2.1, n, .inl (mR n N b))), (aC, .inl (g.2.1, n, .inl (mC n N b))), (aX, .inl (g.2.1, n, .inl (mB n N b)))]) := by
  refine CT.of cX1_may 2 (some .int) RX1 (by decide +kernel) rfl rfl (Nat.le_of_ble_eq_true rfl) ?_
  intro X hg hl C hret
  subst hg; subst hl
  show RW X 0 0 0 [(0, .ref aB), (1, .int (nI c))] [] [(aG, .inr (5, [.int (nI n), .int (nI N), .int (nI (2 ^ n - 1)), .ref gr, .ref gc, .ref gb, .ref gu])), (gr, .inl (X.1.2.1, N, .inl (gR n))), (gc, .inl (X.1.2.1, N, .inl (gC n))), (gb, .inl (X.1.2.1, N, .inl (gB n))), (aB, .inr (2, [.ref aG, .ref aS, .ref aR, .ref aC, .ref aX])), (aS, .inl (X.1.2.1, N, .inl (eb b))), (aR, .inl (X.1.2.1, n, .inl (mR n N b))), (aC, .inl (X.1.2.1, n, .inl (mC n N b))), (aX, .inl (X.1.2.1, n, .inl (mB n N b)))]
  refine r_aload_n C dX1_may_0 0 rfl rfl ?_
  refine r_get C dX1_may_1 iX1_may_X1 0 fX1_may_7 4 rfl rfl (by decide) rfl ?_
  refine r_get C dX1_may_4 iX1_may_X4 2 fX1_may_42 0 rfl rfl (by decide) rfl ?_
  refine r_aload_n C dX1_may_7 0 rfl rfl ?_
  refine r_get C dX1_may_8 iX1_may_X1 2 fX1_may_26 4 rfl rfl (by decide) rfl ?_
  refine r_aload_n C dX1_may_11 0 rfl rfl ?_
  refine r_get C dX1_may_12 iX1_may_X1 0 fX1_may_7 4 rfl rfl (by decide) rfl ?_
  refine r_get C dX1_may_15 iX1_may_X4 3 fX1_may_45 0 rfl rfl (by decide) rfl ?_
  refine r_iload_n C dX1_may_18 1 rfl rfl ?_
  refine r_iald C dX1_may_19 1 rfl (by omega) (by omega) ?_
  show RW X 0 0 20 [(0, .ref aB), (1, .int (nI c))] [.int (nI (c / n)), .ref aR, .int (nI (2 ^ n - 1))] [(aG, .inr (5, [.int (nI n), .int (nI N), .int (nI (2 ^ n - 1)), .ref gr, .ref gc, .ref gb, .ref gu])), (gr, .inl (X.1.2.1, N, .inl (gR n))), (gc, .inl (X.1.2.1, N, .inl (gC n))), (gb, .inl (X.1.2.1, N, .inl (gB n))), (aB, .inr (2, [.ref aG, .ref aS, .ref aR, .ref aC, .ref aX])), (aS, .inl (X.1.2.1, N, .inl (eb b))), (aR, .inl (X.1.2.1, n, .inl (mR n N b))), (aC, .inl (X.1.2.1, n, .inl (mC n N b))), (aX, .inl (X.1.2.1, n, .inl (mB n N b)))]
  refine r_iald C dX1_may_20 6 rfl (dv_lt hn hc) (by omega) ?_
  refine r_aload_n C dX1_may_21 0 rfl rfl ?_
  refine r_get C dX1_may_22 iX1_may_X1 3 fX1_may_29 4 rfl rfl (by decide) rfl ?_
  refine r_aload_n C dX1_may_25 0 rfl rfl ?_
  refine r_get C dX1_may_26 iX1_may_X1 0 fX1_may_7 4 rfl rfl (by decide) rfl ?_
  refine r_get C dX1_may_29 iX1_may_X4 4 fX1_may_48 0 rfl rfl (by decide) rfl ?_
  refine r_iload_n C dX1_may_32 1 rfl rfl ?_
  refine r_iald C dX1_may_33 2 rfl (by omega) (by omega) ?_
  show RW X 0 0 34 [(0, .ref aB), (1, .int (nI c))] [.int (nI (c % n)), .ref aC, .int ((mR n N b) (c / n)), .int (nI (2 ^ n - 1))] [(aG, .inr (5, [.int (nI n), .int (nI N), .int (nI (2 ^ n - 1)), .ref gr, .ref gc, .ref gb, .ref gu])), (gr, .inl (X.1.2.1, N, .inl (gR n))), (gc, .inl (X.1.2.1, N, .inl (gC n))), (gb, .inl (X.1.2.1, N, .inl (gB n))), (aB, .inr (2, [.ref aG, .ref aS, .ref aR, .ref aC, .ref aX])), (aS, .inl (X.1.2.1, N, .inl (eb b))), (aR, .inl (X.1.2.1, n, .inl (mR n N b))), (aC, .inl (X.1.2.1, n, .inl (mC n N b))), (aX, .inl (X.1.2.1, n, .inl (mB n N b)))]
  refine r_iald C dX1_may_34 7 rfl (md_lt hn) (by omega) ?_
  refine r_ior C dX1_may_35 (v := ((mR n N b) (c / n)) ||| ((mC n N b) (c % n))) rfl ?_
  refine r_aload_n C dX1_may_36 0 rfl rfl ?_
  refine r_get C dX1_may_37 iX1_may_X1 4 fX1_may_32 4 rfl rfl (by decide) rfl ?_
  refine r_aload_n C dX1_may_40 0 rfl rfl ?_
  refine r_get C dX1_may_41 iX1_may_X1 0 fX1_may_7 4 rfl rfl (by decide) rfl ?_
  refine r_get C dX1_may_44 iX1_may_X4 5 fX1_may_51 0 rfl rfl (by decide) rfl ?_
  refine r_iload_n C dX1_may_47 1 rfl rfl ?_
  refine r_iald C dX1_may_48 3 rfl (by omega) (by omega) ?_
  show RW X 0 0 49 [(0, .ref aB), (1, .int (nI c))] [.int (nI (bx n c)), .ref aX, .int (((mR n N b) (c / n)) ||| ((mC n N b) (c % n))), .int (nI (2 ^ n - 1))] [(aG, .inr (5, [.int (nI n), .int (nI N), .int (nI (2 ^ n - 1)), .ref gr, .ref gc, .ref gb, .ref gu])), (gr, .inl (X.1.2.1, N, .inl (gR n))), (gc, .inl (X.1.2.1, N, .inl (gC n))), (gb, .inl (X.1.2.1, N, .inl (gB n))), (aB, .inr (2, [.ref aG, .ref aS, .ref aR, .ref aC, .ref aX])), (aS, .inl (X.1.2.1, N, .inl (eb b))), (aR, .inl (X.1.2.1, n, .inl (mR n N b))), (aC, .inl (X.1.2.1, n, .inl (mC n N b))), (aX, .inl (X.1.2.1, n, .inl (mB n N b)))]
  refine r_iald C dX1_may_49 8 rfl (bx_lt hn hc) (by omega) ?_
  refine r_ior C dX1_may_50 (v := (((mR n N b) (c / n)) ||| ((mC n N b) (c % n))) ||| ((mB n N b) (bx n c))) rfl ?_
  refine r_iconst C dX1_may_51 (v := (-1)) (by decide) ?_
  refine r_ixor C dX1_may_52 (v := ((((mR n N b) (c / n)) ||| ((mC n N b) (c % n))) ||| ((mB n N b) (bx n c))) ^^^ (-1)) rfl ?_
  refine r_iand C dX1_may_53 (v := (nI (2 ^ n - 1)) &&& (((((mR n N b) (c / n)) ||| ((mC n N b) (c % n))) ||| ((mB n N b) (bx n c))) ^^^ (-1))) rfl ?_
  refine r_top (y := nI (mkN (mayP n N b c))) (may_mask hn) ?_
  exact hret _ _ _ () rfl (Or.inr ⟨_, rfl, dX1_may_54, Or.inl rfl⟩)
theorem fX1_put_19 : Cond.fieldLink RX1 19 (TX1 1).1 (TX1 1).2.1 (TX1 1).2.2.1 ∈ wsX1_put := List.mem_of_getElem? (i := 1) rfl
theorem iX1_put_X1 : ∀ w ∈ wsX10, w ∈ wsX1_put := by decide +kernel
set_option maxHeartbeats 4000000 in
set_option maxRecDepth 100000 in
theorem c_X1_put {g : ww_G} {l : Launch} {n : Nat} {N : Nat} {aG : Nat} {gr : Nat} {gc : Nat} {gb : Nat} {gu : Nat} {aB : Nat} {aS : Nat} {aR : Nat} {aC : Nat} {aX : Nat} {b : Nat → Option Nat} {c : Nat} {v : Nat} (hn : (n = 4 ∧ N = 16) ∨ (n = 6 ∧ N = 36)) (hc : c < N) (h0 : b c = none) (hm : mayP n N b c v) : CT g l yX1_put wsX1_put (ww_rm 2) [.ref aB, .int (nI c), .int (nI v)] ([(aG, .inr (5, [.int (nI n), .int (nI N), .int (nI (2 ^ n - 1)), .ref gr, .ref gc, .ref gb, .ref gu])), (gr, .inl (g.2.1, N, .inl (gR n))), (gc, .inl (g.2.1, N, .inl (gC n))), (gb, .inl (g.2.1, N, .inl (gB n))), (aB, .inr (2, [.ref aG, .ref aS, .ref aR, .ref aC, .ref aX])), (aS, .inl (g.2.1, N, .inl (eb b))), (aR, .inl (g.2.1, n, .inl (mR n N b))), (aC, .inl (g.2.1, n, .inl (mC n N b))), (aX, .inl (g.2.1, n, .inl (mB n N b)))]) (S := Unit) (fun v u => v = none) (fun u => [(aG, .inr (5, [.int (nI n), .int (nI N), .int (nI (2 ^ n - 1)), .ref gr, .ref gc, .ref gb, .ref gu])), (gr, .inl (g.2.1, N, .inl (gR n))), (gc, .inl (g.2.1, N, .inl (gC n))), (gb, .inl (g.2.1, N, .inl (gB n))), (aB, .inr (2, [.ref aG, .ref aS, .ref aR, .ref aC, .ref aX])), (aS, .inl (g.2.1, N, .inl (eb (ub b c (some v))))), (aR, .inl (g.2.1, n, .inl (mR n N (ub b c (some v))))), (aC, .inl (g.2.1, n, .inl (mC n N (ub b c (some v))))), (aX, .inl (g.2.1, n, .inl (mB n N (ub b c (some v)))))]) := by
  refine CT.of cX1_put 3 none RX1 (by decide +kernel) rfl rfl (Nat.le_of_ble_eq_true rfl) ?_
  intro X hg hl C hret
  subst hg; subst hl
  show RW X 0 0 0 [(0, .ref aB), (1, .int (nI c)), (2, .int (nI v))] [] [(aG, .inr (5, [.int (nI n), .int (nI N), .int (nI (2 ^ n - 1)), .ref gr, .ref gc, .ref gb, .ref gu])), (gr, .inl (X.1.2.1, N, .inl (gR n))), (gc, .inl (X.1.2.1, N, .inl (gC n))), (gb, .inl (X.1.2.1, N, .inl (gB n))), (aB, .inr (2, [.ref aG, .ref aS, .ref aR, .ref aC, .ref aX])), (aS, .inl (X.1.2.1, N, .inl (eb b))), (aR, .inl (X.1.2.1, n, .inl (mR n N b))), (aC, .inl (X.1.2.1, n, .inl (mC n N b))), (aX, .inl (X.1.2.1, n, .inl (mB n N b)))]
  have hv6 : v < 6 := by have := hm.1; omega
  refine r_aload_n C dX1_put_0 0 rfl rfl ?_
  refine r_get C dX1_put_1 iX1_put_X1 1 fX1_put_19 4 rfl rfl (by decide) rfl ?_
  refine r_iload_n C dX1_put_4 1 rfl rfl ?_
  refine r_iload_n C dX1_put_5 2 rfl rfl ?_
  refine r_iast C dX1_put_6 5 rfl (by omega) (by omega) (ws' := [(aG, .inr (5, [.int (nI n), .int (nI N), .int (nI (2 ^ n - 1)), .ref gr, .ref gc, .ref gb, .ref gu])), (gr, .inl (X.1.2.1, N, .inl (gR n))), (gc, .inl (X.1.2.1, N, .inl (gC n))), (gb, .inl (X.1.2.1, N, .inl (gB n))), (aB, .inr (2, [.ref aG, .ref aS, .ref aR, .ref aC, .ref aX])), (aS, .inl (X.1.2.1, N, .inl (upd (eb b) c (nI v)))), (aR, .inl (X.1.2.1, n, .inl (mR n N b))), (aC, .inl (X.1.2.1, n, .inl (mC n N b))), (aX, .inl (X.1.2.1, n, .inl (mB n N b)))]) rfl ?_
  refine r_aload_n C dX1_put_7 0 rfl rfl ?_
  refine r_iload_n C dX1_put_8 1 rfl rfl ?_
  refine r_iconst C dX1_put_9 (v := nI 1) (by decide) ?_
  refine r_iload_n C dX1_put_10 2 rfl rfl ?_
  refine r_ishl C dX1_put_11 (v := nI (2 ^ v)) (sh1 v hv6) ?_
  refine r_callV0 (n := 2) (ws' := fun u => [(aG, .inr (5, [.int (nI n), .int (nI N), .int (nI (2 ^ n - 1)), .ref gr, .ref gc, .ref gb, .ref gu])), (gr, .inl (X.1.2.1, N, .inl (gR n))), (gc, .inl (X.1.2.1, N, .inl (gC n))), (gb, .inl (X.1.2.1, N, .inl (gB n))), (aB, .inr (2, [.ref aG, .ref aS, .ref aR, .ref aC, .ref aX])), (aS, .inl (X.1.2.1, N, .inl (upd (eb b) c (nI v)))), (aR, .inl (X.1.2.1, n, .inl (upd (mR n N b) (c / n) ((mR n N b) (c / n) ^^^ (nI (2 ^ v)))))), (aC, .inl (X.1.2.1, n, .inl (upd (mC n N b) (c % n) ((mC n N b) (c % n) ^^^ (nI (2 ^ v)))))), (aX, .inl (X.1.2.1, n, .inl (upd (mB n N b) (bx n c) ((mB n N b) (bx n c) ^^^ (nI (2 ^ v))))))]) C dX1_put_12 (c_X1_flip (g := X.1) (l := X.2.2.1) (n := n) (N := N) (aG := aG) (gr := gr) (gc := gc) (gb := gb) (gu := gu) (aB := aB) (aS := aS) (aR := aR) (aC := aC) (aX := aX) (f := upd (eb b) c (nI v)) (fR := mR n N b) (fC := mC n N b) (fB := mB n N b) (c := c) (x := nI (2 ^ v)) (hn := (by first | assumption | omega)) (hc := (by first | assumption | omega))) gX1_put_X1_flip rfl (by decide +kernel) rfl ⟨Nat.le_of_ble_eq_true rfl, Nat.le_of_ble_eq_true rfl⟩ ⟨rfl, rfl⟩ ⟨Nat.zero_le _, Nat.zero_le _⟩ (rest := []) rfl (by decide) 4 rfl rfl [0, 1, 2, 3, 4, 5, 6, 7, 8] (by decide) rfl (fun u => rfl) (fun u => rfl) (fun v u hp => ?_)
  obtain rfl := hp
  show RW X 0 0 15 [(0, .ref aB), (1, .int (nI c)), (2, .int (nI v))] [] [(aG, .inr (5, [.int (nI n), .int (nI N), .int (nI (2 ^ n - 1)), .ref gr, .ref gc, .ref gb, .ref gu])), (gr, .inl (X.1.2.1, N, .inl (gR n))), (gc, .inl (X.1.2.1, N, .inl (gC n))), (gb, .inl (X.1.2.1, N, .inl (gB n))), (aB, .inr (2, [.ref aG, .ref aS, .ref aR, .ref aC, .ref aX])), (aS, .inl (X.1.2.1, N, .inl (upd (eb b) c (nI v)))), (aR, .inl (X.1.2.1, n, .inl (upd (mR n N b) (c / n) ((mR n N b) (c / n) ^^^ (nI (2 ^ v)))))), (aC, .inl (X.1.2.1, n, .inl (upd (mC n N b) (c % n) ((mC n N b) (c % n) ^^^ (nI (2 ^ v)))))), (aX, .inl (X.1.2.1, n, .inl (upd (mB n N b) (bx n c) ((mB n N b) (bx n c) ^^^ (nI (2 ^ v))))))]
  refine r_arrI 5 rfl (fun j _ => by rw [eb_s]) (ws' := [(aG, .inr (5, [.int (nI n), .int (nI N), .int (nI (2 ^ n - 1)), .ref gr, .ref gc, .ref gb, .ref gu])), (gr, .inl (X.1.2.1, N, .inl (gR n))), (gc, .inl (X.1.2.1, N, .inl (gC n))), (gb, .inl (X.1.2.1, N, .inl (gB n))), (aB, .inr (2, [.ref aG, .ref aS, .ref aR, .ref aC, .ref aX])), (aS, .inl (X.1.2.1, N, .inl (eb (ub b c (some v))))), (aR, .inl (X.1.2.1, n, .inl (upd (mR n N b) (c / n) ((mR n N b) (c / n) ^^^ (nI (2 ^ v)))))), (aC, .inl (X.1.2.1, n, .inl (upd (mC n N b) (c % n) ((mC n N b) (c % n) ^^^ (nI (2 ^ v)))))), (aX, .inl (X.1.2.1, n, .inl (upd (mB n N b) (bx n c) ((mB n N b) (bx n c) ^^^ (nI (2 ^ v))))))]) rfl ?_
  refine r_arrI 6 rfl (fun j _ => congrFun (mask_put (n := n) (fun d => d / n) hc hv6 h0 (fun d q1 q2 => hm.2 d q1 (Or.inl q2.symm))) j) (ws' := [(aG, .inr (5, [.int (nI n), .int (nI N), .int (nI (2 ^ n - 1)), .ref gr, .ref gc, .ref gb, .ref gu])), (gr, .inl (X.1.2.1, N, .inl (gR n))), (gc, .inl (X.1.2.1, N, .inl (gC n))), (gb, .inl (X.1.2.1, N, .inl (gB n))), (aB, .inr (2, [.ref aG, .ref aS, .ref aR, .ref aC, .ref aX])), (aS, .inl (X.1.2.1, N, .inl (eb (ub b c (some v))))), (aR, .inl (X.1.2.1, n, .inl (mR n N (ub b c (some v))))), (aC, .inl (X.1.2.1, n, .inl (upd (mC n N b) (c % n) ((mC n N b) (c % n) ^^^ (nI (2 ^ v)))))), (aX, .inl (X.1.2.1, n, .inl (upd (mB n N b) (bx n c) ((mB n N b) (bx n c) ^^^ (nI (2 ^ v))))))]) rfl ?_
  refine r_arrI 7 rfl (fun j _ => congrFun (mask_put (n := n) (fun d => d % n) hc hv6 h0 (fun d q1 q2 => hm.2 d q1 (Or.inr (Or.inl q2.symm)))) j) (ws' := [(aG, .inr (5, [.int (nI n), .int (nI N), .int (nI (2 ^ n - 1)), .ref gr, .ref gc, .ref gb, .ref gu])), (gr, .inl (X.1.2.1, N, .inl (gR n))), (gc, .inl (X.1.2.1, N, .inl (gC n))), (gb, .inl (X.1.2.1, N, .inl (gB n))), (aB, .inr (2, [.ref aG, .ref aS, .ref aR, .ref aC, .ref aX])), (aS, .inl (X.1.2.1, N, .inl (eb (ub b c (some v))))), (aR, .inl (X.1.2.1, n, .inl (mR n N (ub b c (some v))))), (aC, .inl (X.1.2.1, n, .inl (mC n N (ub b c (some v))))), (aX, .inl (X.1.2.1, n, .inl (upd (mB n N b) (bx n c) ((mB n N b) (bx n c) ^^^ (nI (2 ^ v))))))]) rfl ?_
  refine r_arrI 8 rfl (fun j _ => congrFun (mask_put (n := n) (fun d => bx n d) hc hv6 h0 (fun d q1 q2 => hm.2 d q1 (Or.inr (Or.inr q2.symm)))) j) (ws' := [(aG, .inr (5, [.int (nI n), .int (nI N), .int (nI (2 ^ n - 1)), .ref gr, .ref gc, .ref gb, .ref gu])), (gr, .inl (X.1.2.1, N, .inl (gR n))), (gc, .inl (X.1.2.1, N, .inl (gC n))), (gb, .inl (X.1.2.1, N, .inl (gB n))), (aB, .inr (2, [.ref aG, .ref aS, .ref aR, .ref aC, .ref aX])), (aS, .inl (X.1.2.1, N, .inl (eb (ub b c (some v))))), (aR, .inl (X.1.2.1, n, .inl (mR n N (ub b c (some v))))), (aC, .inl (X.1.2.1, n, .inl (mC n N (ub b c (some v))))), (aX, .inl (X.1.2.1, n, .inl (mB n N (ub b c (some v)))))]) rfl ?_
  exact hret _ _ _ () rfl (Or.inl ⟨rfl, rfl, dX1_put_15⟩)
theorem fX1_takeOut_19 : Cond.fieldLink RX1 19 (TX1 1).1 (TX1 1).2.1 (TX1 1).2.2.1 ∈ wsX1_takeOut := List.mem_of_getElem? (i := 1) rfl
theorem iX1_takeOut_X1 : ∀ w ∈ wsX10, w ∈ wsX1_takeOut := by decide +kernel
set_option maxHeartbeats 4000000 in
set_option maxRecDepth 100000 in
theorem c_X1_takeOut {g : ww_G} {l : Launch} {n : Nat} {N : Nat} {aG : Nat} {gr : Nat} {gc : Nat} {gb : Nat} {gu : Nat} {aB : Nat} {aS : Nat} {aR : Nat} {aC : Nat} {aX : Nat} {b : Nat → Option Nat} {c : Nat} {v : Nat} (hn : (n = 4 ∧ N = 16) ∨ (n = 6 ∧ N = 36)) (hc : c < N) (hv6 : v < 6) (h0 : b c = some v) (hm : ∀ d, d < N → d ≠ c → tog n c d → b d ≠ some v) : CT g l yX1_takeOut wsX1_takeOut (ww_rm 2) [.ref aB, .int (nI c)] ([(aG, .inr (5, [.int (nI n), .int (nI N), .int (nI (2 ^ n - 1)), .ref gr, .ref gc, .ref gb, .ref gu])), (gr, .inl (g.2.1, N, .inl (gR n))), (gc, .inl (g.2.1, N, .inl (gC n))), (gb, .inl (g.2.1, N, .inl (gB n))), (aB, .inr (2, [.ref aG, .ref aS, .ref aR, .ref aC, .ref aX])), (aS, .inl (g.2.1, N, .inl (eb b))), (aR, .inl (g.2.1, n, .inl (mR n N b))), (aC, .inl (g.2.1, n, .inl (mC n N b))), (aX, .inl (g.2.1, n, .inl (mB n N b)))]) (S := Unit) (fun v u => v = none) (fun u => [(aG, .inr (5, [.int (nI n), .int (nI N), .int (nI (2 ^ n - 1)), .ref gr, .ref gc, .ref gb, .ref gu])), (gr, .inl (g.2.1, N, .inl (gR n))), (gc, .inl (g.2.1, N, .inl (gC n))), (gb, .inl (g.2.1, N, .inl (gB n))), (aB, .inr (2, [.ref aG, .ref aS, .ref aR, .ref aC, .ref aX])), (aS, .inl (g.2.1, N, .inl (eb (ub b c none)))), (aR, .inl (g.2.1, n, .inl (mR n N (ub b c none)))), (aC, .inl (g.2.1, n, .inl (mC n N (ub b c none)))), (aX, .inl (g.2.1, n, .inl (mB n N (ub b c none))))]) := by
  refine CT.of cX1_takeOut 3 none RX1 (by decide +kernel) rfl rfl (Nat.le_of_ble_eq_true rfl) ?_
  intro X hg hl C hret
  subst hg; subst hl
  show RW X 0 0 0 [(0, .ref aB), (1, .int (nI c))] [] [(aG, .inr (5, [.int (nI n), .int (nI N), .int (nI (2 ^ n - 1)), .ref gr, .ref gc, .ref gb, .ref gu])), (gr, .inl (X.1.2.1, N, .inl (gR n))), (gc, .inl (X.1.2.1, N, .inl (gC n))), (gb, .inl (X.1.2.1, N, .inl (gB n))), (aB, .inr (2, [.ref aG, .ref aS, .ref aR, .ref aC, .ref aX])), (aS, .inl (X.1.2.1, N, .inl (eb b))), (aR, .inl (X.1.2.1, n, .inl (mR n N b))), (aC, .inl (X.1.2.1, n, .inl (mC n N b))), (aX, .inl (X.1.2.1, n, .inl (mB n N b)))]
  refine r_aload_n C dX1_takeOut_0 0 rfl rfl ?_
  refine r_get C dX1_takeOut_1 iX1_takeOut_X1 1 fX1_takeOut_19 4 rfl rfl (by decide) rfl ?_
  refine r_iload_n C dX1_takeOut_4 1 rfl rfl ?_
  refine r_iald C dX1_takeOut_5 5 rfl (by omega) (by omega) ?_
  refine r_top (y := nI v) (by show eo (b c) = nI v; rw [h0]; rfl) ?_
  refine r_istore_n C dX1_takeOut_6 rfl (by decide) [1, 2, 0] (lv' := [(0, .ref aB), (1, .int (nI c)), (2, .int (nI v))]) rfl ?_
  refine r_iload_n C dX1_takeOut_7 2 rfl rfl ?_
  refine r_if_lt (tgt := 26) C dX1_takeOut_8 (by decide) (fun h8 => ?_) (fun h8 => ?_)
  · exact absurd h8 (nI_pos (by omega))
  · refine r_aload_n C dX1_takeOut_11 0 rfl rfl ?_
    refine r_get C dX1_takeOut_12 iX1_takeOut_X1 1 fX1_takeOut_19 4 rfl rfl (by decide) rfl ?_
    refine r_iload_n C dX1_takeOut_15 1 rfl rfl ?_
    refine r_iconst C dX1_takeOut_16 (v := (-1)) (by decide) ?_
    refine r_iast C dX1_takeOut_17 5 rfl (by omega) (by omega) (ws' := [(aG, .inr (5, [.int (nI n), .int (nI N), .int (nI (2 ^ n - 1)), .ref gr, .ref gc, .ref gb, .ref gu])), (gr, .inl (X.1.2.1, N, .inl (gR n))), (gc, .inl (X.1.2.1, N, .inl (gC n))), (gb, .inl (X.1.2.1, N, .inl (gB n))), (aB, .inr (2, [.ref aG, .ref aS, .ref aR, .ref aC, .ref aX])), (aS, .inl (X.1.2.1, N, .inl (upd (eb b) c (-1)))), (aR, .inl (X.1.2.1, n, .inl (mR n N b))), (aC, .inl (X.1.2.1, n, .inl (mC n N b))), (aX, .inl (X.1.2.1, n, .inl (mB n N b)))]) rfl ?_
    refine r_aload_n C dX1_takeOut_18 0 rfl rfl ?_
    refine r_iload_n C dX1_takeOut_19 1 rfl rfl ?_
    refine r_iconst C dX1_takeOut_20 (v := nI 1) (by decide) ?_
    refine r_iload_n C dX1_takeOut_21 2 rfl rfl ?_
    refine r_ishl C dX1_takeOut_22 (v := nI (2 ^ v)) (sh1 v hv6) ?_
    refine r_callV0 (n := 2) (ws' := fun u => [(aG, .inr (5, [.int (nI n), .int (nI N), .int (nI (2 ^ n - 1)), .ref gr, .ref gc, .ref gb, .ref gu])), (gr, .inl (X.1.2.1, N, .inl (gR n))), (gc, .inl (X.1.2.1, N, .inl (gC n))), (gb, .inl (X.1.2.1, N, .inl (gB n))), (aB, .inr (2, [.ref aG, .ref aS, .ref aR, .ref aC, .ref aX])), (aS, .inl (X.1.2.1, N, .inl (upd (eb b) c (-1)))), (aR, .inl (X.1.2.1, n, .inl (upd (mR n N b) (c / n) ((mR n N b) (c / n) ^^^ (nI (2 ^ v)))))), (aC, .inl (X.1.2.1, n, .inl (upd (mC n N b) (c % n) ((mC n N b) (c % n) ^^^ (nI (2 ^ v)))))), (aX, .inl (X.1.2.1, n, .inl (upd (mB n N b) (bx n c) ((mB n N b) (bx n c) ^^^ (nI (2 ^ v))))))]) C dX1_takeOut_23 (c_X1_flip (g := X.1) (l := X.2.2.1) (n := n) (N := N) (aG := aG) (gr := gr) (gc := gc) (gb := gb) (gu := gu) (aB := aB) (aS := aS) (aR := aR) (aC := aC) (aX := aX) (f := upd (eb b) c (-1)) (fR := mR n N b) (fC := mC n N b) (fB := mB n N b) (c := c) (x := nI (2 ^ v)) (hn := (by first | assumption | omega)) (hc := (by first | assumption | omega))) gX1_takeOut_X1_flip rfl (by decide +kernel) rfl ⟨Nat.le_of_ble_eq_true rfl, Nat.le_of_ble_eq_true rfl⟩ ⟨rfl, rfl⟩ ⟨Nat.zero_le _, Nat.zero_le _⟩ (rest := []) rfl (by decide) 4 rfl rfl [0, 1, 2, 3, 4, 5, 6, 7, 8] (by decide) rfl (fun u => rfl) (fun u => rfl) (fun v u hp => ?_)
    obtain rfl := hp
    show RW X 0 0 26 [(0, .ref aB), (1, .int (nI c)), (2, .int (nI v))] [] [(aG, .inr (5, [.int (nI n), .int (nI N), .int (nI (2 ^ n - 1)), .ref gr, .ref gc, .ref gb, .ref gu])), (gr, .inl (X.1.2.1, N, .inl (gR n))), (gc, .inl (X.1.2.1, N, .inl (gC n))), (gb, .inl (X.1.2.1, N, .inl (gB n))), (aB, .inr (2, [.ref aG, .ref aS, .ref aR, .ref aC, .ref aX])), (aS, .inl (X.1.2.1, N, .inl (upd (eb b) c (-1)))), (aR, .inl (X.1.2.1, n, .inl (upd (mR n N b) (c / n) ((mR n N b) (c / n) ^^^ (nI (2 ^ v)))))), (aC, .inl (X.1.2.1, n, .inl (upd (mC n N b) (c % n) ((mC n N b) (c % n) ^^^ (nI (2 ^ v)))))), (aX, .inl (X.1.2.1, n, .inl (upd (mB n N b) (bx n c) ((mB n N b) (bx n c) ^^^ (nI (2 ^ v))))))]
    refine r_arrI 5 rfl (fun j _ => by rw [eb_0]) (ws' := [(aG, .inr (5, [.int (nI n), .int (nI N), .int (nI (2 ^ n - 1)), .ref gr, .ref gc, .ref gb, .ref gu])), (gr, .inl (X.1.2.1, N, .inl (gR n))), (gc, .inl (X.1.2.1, N, .inl (gC n))), (gb, .inl (X.1.2.1, N, .inl (gB n))), (aB, .inr (2, [.ref aG, .ref aS, .ref aR, .ref aC, .ref aX])), (aS, .inl (X.1.2.1, N, .inl (eb (ub b c none)))), (aR, .inl (X.1.2.1, n, .inl (upd (mR n N b) (c / n) ((mR n N b) (c / n) ^^^ (nI (2 ^ v)))))), (aC, .inl (X.1.2.1, n, .inl (upd (mC n N b) (c % n) ((mC n N b) (c % n) ^^^ (nI (2 ^ v)))))), (aX, .inl (X.1.2.1, n, .inl (upd (mB n N b) (bx n c) ((mB n N b) (bx n c) ^^^ (nI (2 ^ v))))))]) rfl ?_
    refine r_arrI 6 rfl (fun j _ => congrFun (mask_out (n := n) (fun d => d / n) hc hv6 h0 (fun d q1 q0 q2 => hm d q1 q0 (Or.inl q2.symm))) j) (ws' := [(aG, .inr (5, [.int (nI n), .int (nI N), .int (nI (2 ^ n - 1)), .ref gr, .ref gc, .ref gb, .ref gu])), (gr, .inl (X.1.2.1, N, .inl (gR n))), (gc, .inl (X.1.2.1, N, .inl (gC n))), (gb, .inl (X.1.2.1, N, .inl (gB n))), (aB, .inr (2, [.ref aG, .ref aS, .ref aR, .ref aC, .ref aX])), (aS, .inl (X.1.2.1, N, .inl (eb (ub b c none)))), (aR, .inl (X.1.2.1, n, .inl (mR n N (ub b c none)))), (aC, .inl (X.1.2.1, n, .inl (upd (mC n N b) (c % n) ((mC n N b) (c % n) ^^^ (nI (2 ^ v)))))), (aX, .inl (X.1.2.1, n, .inl (upd (mB n N b) (bx n c) ((mB n N b) (bx n c) ^^^ (nI (2 ^ v))))))]) rfl ?_
    refine r_arrI 7 rfl (fun j _ => congrFun (mask_out (n := n) (fun d => d % n) hc hv6 h0 (fun d q1 q0 q2 => hm d q1 q0 (Or.inr (Or.inl q2.symm)))) j) (ws' := [(aG, .inr (5, [.int (nI n), .int (nI N), .int (nI (2 ^ n - 1)), .ref gr, .ref gc, .ref gb, .ref gu])), (gr, .inl (X.1.2.1, N, .inl (gR n))), (gc, .inl (X.1.2.1, N, .inl (gC n))), (gb, .inl (X.1.2.1, N, .inl (gB n))), (aB, .inr (2, [.ref aG, .ref aS, .ref aR, .ref aC, .ref aX])), (aS, .inl (X.1.2.1, N, .inl (eb (ub b c none)))), (aR, .inl (X.1.2.1, n, .inl (mR n N (ub b c none)))), (aC, .inl (X.1.2.1, n, .inl (mC n N (ub b c none)))), (aX, .inl (X.1.2.1, n, .inl (upd (mB n N b) (bx n c) ((mB n N b) (bx n c) ^^^ (nI (2 ^ v))))))]) rfl ?_
    refine r_arrI 8 rfl (fun j _ => congrFun (mask_out (n := n) (fun d => bx n d) hc hv6 h0 (fun d q1 q0 q2 => hm d q1 q0 (Or.inr (Or.inr q2.symm)))) j) (ws' := [(aG, .inr (5, [.int (nI n), .int (nI N), .int (nI (2 ^ n - 1)), .ref gr, .ref gc, .ref gb, .ref gu])), (gr, .inl (X.1.2.1, N, .inl (gR n))), (gc, .inl (X.1.2.1, N, .inl (gC n))), (gb, .inl (X.1.2.1, N, .inl (gB n))), (aB, .inr (2, [.ref aG, .ref aS, .ref aR, .ref aC, .ref aX])), (aS, .inl (X.1.2.1, N, .inl (eb (ub b c none)))), (aR, .inl (X.1.2.1, n, .inl (mR n N (ub b c none)))), (aC, .inl (X.1.2.1, n, .inl (mC n N (ub b c none)))), (aX, .inl (X.1.2.1, n, .inl (mB n N (ub b c none))))]) rfl ?_
    exact hret _ _ _ () rfl (Or.inl ⟨rfl, rfl, dX1_takeOut_26⟩)
theorem fX1_clear_7 : Cond.fieldLink RX1 7 (TX1 0).1 (TX1 0).2.1 (TX1 0).2.2.1 ∈ wsX1_clear := List.mem_of_getElem? (i := 1) rfl
theorem iX1_clear_X1 : ∀ w ∈ wsX10, w ∈ wsX1_clear := by decide +kernel
theorem fX1_clear_13 : Cond.fieldLink RX1 13 (TX4 1).1 (TX4 1).2.1 (TX4 1).2.2.1 ∈ wsX1_clear := List.mem_of_getElem? (i := 2) rfl
theorem iX1_clear_X4 : ∀ w ∈ wsX40, w ∈ wsX1_clear := by decide +kernel
theorem fX1_clear_23 : Cond.fieldLink RX1 23 (TX4 0).1 (TX4 0).2.1 (TX4 0).2.2.1 ∈ wsX1_clear := List.mem_of_getElem? (i := 4) rfl
theorem fX1_clear_26 : Cond.fieldLink RX1 26 (TX1 2).1 (TX1 2).2.1 (TX1 2).2.2.1 ∈ wsX1_clear := List.mem_of_getElem? (i := 5) rfl
theorem fX1_clear_29 : Cond.fieldLink RX1 29 (TX1 3).1 (TX1 3).2.1 (TX1 3).2.2.1 ∈ wsX1_clear := List.mem_of_getElem? (i := 6) rfl
theorem fX1_clear_32 : Cond.fieldLink RX1 32 (TX1 4).1 (TX1 4).2.1 (TX1 4).2.2.1 ∈ wsX1_clear := List.mem_of_getElem? (i := 7) rfl
theorem fX1_clear_19 : Cond.fieldLink RX1 19 (TX1 1).1 (TX1 1).2.1 (TX1 1).2.2.1 ∈ wsX1_clear := List.mem_of_getElem? (i := 3) rfl
set_option maxHeartbeats 4000000 in
set_option maxRecDepth 100000 in
theorem c_X1_clear {g : ww_G} {l : Launch} {n : Nat} {N : Nat} {aG : Nat} {gr : Nat} {gc : Nat} {gb : Nat} {gu : Nat} {aB : Nat} {aS : Nat} {aR : Nat} {aC : Nat} {aX : Nat} {f : Nat → Int32} {fR : Nat → Int32} {fC : Nat → Int32} {fB : Nat → Int32} (hn : (n = 4 ∧ N = 16) ∨ (n = 6 ∧ N = 36)) : CT g l yX1_clear wsX1_clear (ww_rm 1) [.ref aB] ([(aG, .inr (5, [.int (nI n), .int (nI N), .int (nI (2 ^ n - 1)), .ref gr, .ref gc, .ref gb, .ref gu])), (gr, .inl (g.2.1, N, .inl (gR n))), (gc, .inl (g.2.1, N, .inl (gC n))), (gb, .inl (g.2.1, N, .inl (gB n))), (aB, .inr (2, [.ref aG, .ref aS, .ref aR, .ref aC, .ref aX])), (aS, .inl (g.2.1, N, .inl f)), (aR, .inl (g.2.1, n, .inl fR)), (aC, .inl (g.2.1, n, .inl fC)), (aX, .inl (g.2.1, n, .inl fB))]) (S := Unit) (fun v u => v = none) (fun u => [(aG, .inr (5, [.int (nI n), .int (nI N), .int (nI (2 ^ n - 1)), .ref gr, .ref gc, .ref gb, .ref gu])), (gr, .inl (g.2.1, N, .inl (gR n))), (gc, .inl (g.2.1, N, .inl (gC n))), (gb, .inl (g.2.1, N, .inl (gB n))), (aB, .inr (2, [.ref aG, .ref aS, .ref aR, .ref aC, .ref aX])), (aS, .inl (g.2.1, N, .inl (eb (fun _ => none)))), (aR, .inl (g.2.1, n, .inl (mR n N (fun _ => none)))), (aC, .inl (g.2.1, n, .inl (mC n N (fun _ => none)))), (aX, .inl (g.2.1, n, .inl (mB n N (fun _ => none))))]) := by
  refine CT.of cX1_clear 2 none RX1 (by decide +kernel) rfl rfl (Nat.le_of_ble_eq_true rfl) ?_
  intro X hg hl C hret
  subst hg; subst hl
  show RW X 0 0 0 [(0, .ref aB)] [] [(aG, .inr (5, [.int (nI n), .int (nI N), .int (nI (2 ^ n - 1)), .ref gr, .ref gc, .ref gb, .ref gu])), (gr, .inl (X.1.2.1, N, .inl (gR n))), (gc, .inl (X.1.2.1, N, .inl (gC n))), (gb, .inl (X.1.2.1, N, .inl (gB n))), (aB, .inr (2, [.ref aG, .ref aS, .ref aR, .ref aC, .ref aX])), (aS, .inl (X.1.2.1, N, .inl f)), (aR, .inl (X.1.2.1, n, .inl fR)), (aC, .inl (X.1.2.1, n, .inl fC)), (aX, .inl (X.1.2.1, n, .inl fB))]
  refine r_iconst C dX1_clear_0 (v := nI 0) (by decide) ?_
  refine r_istore_n C dX1_clear_1 rfl (by decide) [1, 0] (lv' := [(0, .ref aB), (1, .int (nI 0))]) rfl ?_
  have L2 : ∀ (d2 : Nat) (i : Nat) (f1 : Nat → Int32), (N - i) < d2 → (i ≤ N) → (∀ c, c < i → f1 c = -1) → RW X 0 0 2 [(0, .ref aB), (1, .int (nI i))] [] [(aG, .inr (5, [.int (nI n), .int (nI N), .int (nI (2 ^ n - 1)), .ref gr, .ref gc, .ref gb, .ref gu])), (gr, .inl (X.1.2.1, N, .inl (gR n))), (gc, .inl (X.1.2.1, N, .inl (gC n))), (gb, .inl (X.1.2.1, N, .inl (gB n))), (aB, .inr (2, [.ref aG, .ref aS, .ref aR, .ref aC, .ref aX])), (aS, .inl (X.1.2.1, N, .inl f1)), (aR, .inl (X.1.2.1, n, .inl fR)), (aC, .inl (X.1.2.1, n, .inl fC)), (aX, .inl (X.1.2.1, n, .inl fB))] := by
    intro d2
    induction d2 with
    | zero => intro i f1 hd2; exact absurd hd2 (Nat.not_lt_zero _)
    | succ d2 ih2 =>
      intro i f1 hd2 hi hf
      refine r_iload_n C dX1_clear_2 1 rfl rfl ?_
      refine r_aload_n C dX1_clear_3 0 rfl rfl ?_
      refine r_get C dX1_clear_4 iX1_clear_X1 0 fX1_clear_7 4 rfl rfl (by decide) rfl ?_
      refine r_get C dX1_clear_7 iX1_clear_X4 1 fX1_clear_13 0 rfl rfl (by decide) rfl ?_
      refine r_icmp_ge (tgt := 26) C dX1_clear_10 (by decide) (fun h10 => ?_) (fun h10 => ?_)
      · have h10 : N ≤ i := (nI_leI (by omega) (by omega)).mp h10
        refine r_iconst C dX1_clear_26 (v := nI 0) (by decide) ?_
        refine r_istore_n C dX1_clear_27 rfl (by decide) [1, 0] (lv' := [(0, .ref aB), (1, .int (nI 0))]) rfl ?_
        have L28 : ∀ (d28 : Nat) (k : Nat) (f2 : Nat → Int32) (f3 : Nat → Int32) (f4 : Nat → Int32), (n - k) < d28 → (k ≤ n) → (∀ c, c < k → f2 c = 0 ∧ f3 c = 0 ∧ f4 c = 0) → RW X 0 0 28 [(0, .ref aB), (1, .int (nI k))] [] [(aG, .inr (5, [.int (nI n), .int (nI N), .int (nI (2 ^ n - 1)), .ref gr, .ref gc, .ref gb, .ref gu])), (gr, .inl (X.1.2.1, N, .inl (gR n))), (gc, .inl (X.1.2.1, N, .inl (gC n))), (gb, .inl (X.1.2.1, N, .inl (gB n))), (aB, .inr (2, [.ref aG, .ref aS, .ref aR, .ref aC, .ref aX])), (aS, .inl (X.1.2.1, N, .inl f1)), (aR, .inl (X.1.2.1, n, .inl f2)), (aC, .inl (X.1.2.1, n, .inl f3)), (aX, .inl (X.1.2.1, n, .inl f4))] := by
          intro d28
          induction d28 with
          | zero => intro k f2 f3 f4 hd28; exact absurd hd28 (Nat.not_lt_zero _)
          | succ d28 ih28 =>
            intro k f2 f3 f4 hd28 hk hf2
            refine r_iload_n C dX1_clear_28 1 rfl rfl ?_
            refine r_aload_n C dX1_clear_29 0 rfl rfl ?_
            refine r_get C dX1_clear_30 iX1_clear_X1 0 fX1_clear_7 4 rfl rfl (by decide) rfl ?_
            refine r_get C dX1_clear_33 iX1_clear_X4 0 fX1_clear_23 0 rfl rfl (by decide) rfl ?_
            refine r_icmp_ge (tgt := 66) C dX1_clear_36 (by decide) (fun h36 => ?_) (fun h36 => ?_)
            · have h36 : n ≤ k := (nI_leI (by omega) (by omega)).mp h36
              have hz : nI (mkN (fun _ => False)) = 0 := by rw [← mkN_of (m := 0) (by omega) (fun i _ => by simp)]; rfl
              have hr : ∀ (p : Nat → Nat) (j : Nat), nI (mkN (fun v => ∃ d, d < N ∧ p d = j ∧ (none : Option Nat) = some v)) = 0 := fun p j => by rw [← hz]; exact congrArg nI (mkN_ext (fun i _ => by simp))
              refine r_arrI 5 rfl (fun j q => hf j (by omega)) (ws' := [(aG, .inr (5, [.int (nI n), .int (nI N), .int (nI (2 ^ n - 1)), .ref gr, .ref gc, .ref gb, .ref gu])), (gr, .inl (X.1.2.1, N, .inl (gR n))), (gc, .inl (X.1.2.1, N, .inl (gC n))), (gb, .inl (X.1.2.1, N, .inl (gB n))), (aB, .inr (2, [.ref aG, .ref aS, .ref aR, .ref aC, .ref aX])), (aS, .inl (X.1.2.1, N, .inl (eb (fun _ => none)))), (aR, .inl (X.1.2.1, n, .inl f2)), (aC, .inl (X.1.2.1, n, .inl f3)), (aX, .inl (X.1.2.1, n, .inl f4))]) rfl ?_
              refine r_arrI 6 rfl (fun j q => (hf2 j (by omega)).1.trans (hr (fun d => d / n) j).symm) (ws' := [(aG, .inr (5, [.int (nI n), .int (nI N), .int (nI (2 ^ n - 1)), .ref gr, .ref gc, .ref gb, .ref gu])), (gr, .inl (X.1.2.1, N, .inl (gR n))), (gc, .inl (X.1.2.1, N, .inl (gC n))), (gb, .inl (X.1.2.1, N, .inl (gB n))), (aB, .inr (2, [.ref aG, .ref aS, .ref aR, .ref aC, .ref aX])), (aS, .inl (X.1.2.1, N, .inl (eb (fun _ => none)))), (aR, .inl (X.1.2.1, n, .inl (mR n N (fun _ => none)))), (aC, .inl (X.1.2.1, n, .inl f3)), (aX, .inl (X.1.2.1, n, .inl f4))]) rfl ?_
              refine r_arrI 7 rfl (fun j q => (hf2 j (by omega)).2.1.trans (hr (fun d => d % n) j).symm) (ws' := [(aG, .inr (5, [.int (nI n), .int (nI N), .int (nI (2 ^ n - 1)), .ref gr, .ref gc, .ref gb, .ref gu])), (gr, .inl (X.1.2.1, N, .inl (gR n))), (gc, .inl (X.1.2.1, N, .inl (gC n))), (gb, .inl (X.1.2.1, N, .inl (gB n))), (aB, .inr (2, [.ref aG, .ref aS, .ref aR, .ref aC, .ref aX])), (aS, .inl (X.1.2.1, N, .inl (eb (fun _ => none)))), (aR, .inl (X.1.2.1, n, .inl (mR n N (fun _ => none)))), (aC, .inl (X.1.2.1, n, .inl (mC n N (fun _ => none)))), (aX, .inl (X.1.2.1, n, .inl f4))]) rfl ?_
              refine r_arrI 8 rfl (fun j q => (hf2 j (by omega)).2.2.trans (hr (fun d => bx n d) j).symm) (ws' := [(aG, .inr (5, [.int (nI n), .int (nI N), .int (nI (2 ^ n - 1)), .ref gr, .ref gc, .ref gb, .ref gu])), (gr, .inl (X.1.2.1, N, .inl (gR n))), (gc, .inl (X.1.2.1, N, .inl (gC n))), (gb, .inl (X.1.2.1, N, .inl (gB n))), (aB, .inr (2, [.ref aG, .ref aS, .ref aR, .ref aC, .ref aX])), (aS, .inl (X.1.2.1, N, .inl (eb (fun _ => none)))), (aR, .inl (X.1.2.1, n, .inl (mR n N (fun _ => none)))), (aC, .inl (X.1.2.1, n, .inl (mC n N (fun _ => none)))), (aX, .inl (X.1.2.1, n, .inl (mB n N (fun _ => none))))]) rfl ?_
              exact hret _ _ _ () rfl (Or.inl ⟨rfl, rfl, dX1_clear_66⟩)
            · have h36 : ¬ (n ≤ k) := fun e9 => h36 ((nI_leI (by omega) (by omega)).mpr e9)
              refine r_aload_n C dX1_clear_39 0 rfl rfl ?_
              refine r_get C dX1_clear_40 iX1_clear_X1 2 fX1_clear_26 4 rfl rfl (by decide) rfl ?_
              refine r_iload_n C dX1_clear_43 1 rfl rfl ?_
              refine r_iconst C dX1_clear_44 (v := nI 0) (by decide) ?_
              refine r_iast C dX1_clear_45 6 rfl (by omega) (by omega) (ws' := [(aG, .inr (5, [.int (nI n), .int (nI N), .int (nI (2 ^ n - 1)), .ref gr, .ref gc, .ref gb, .ref gu])), (gr, .inl (X.1.2.1, N, .inl (gR n))), (gc, .inl (X.1.2.1, N, .inl (gC n))), (gb, .inl (X.1.2.1, N, .inl (gB n))), (aB, .inr (2, [.ref aG, .ref aS, .ref aR, .ref aC, .ref aX])), (aS, .inl (X.1.2.1, N, .inl f1)), (aR, .inl (X.1.2.1, n, .inl (upd f2 k (nI 0)))), (aC, .inl (X.1.2.1, n, .inl f3)), (aX, .inl (X.1.2.1, n, .inl f4))]) rfl ?_
              refine r_aload_n C dX1_clear_46 0 rfl rfl ?_
              refine r_get C dX1_clear_47 iX1_clear_X1 3 fX1_clear_29 4 rfl rfl (by decide) rfl ?_
              refine r_iload_n C dX1_clear_50 1 rfl rfl ?_
              refine r_iconst C dX1_clear_51 (v := nI 0) (by decide) ?_
              refine r_iast C dX1_clear_52 7 rfl (by omega) (by omega) (ws' := [(aG, .inr (5, [.int (nI n), .int (nI N), .int (nI (2 ^ n - 1)), .ref gr, .ref gc, .ref gb, .ref gu])), (gr, .inl (X.1.2.1, N, .inl (gR n))), (gc, .inl (X.1.2.1, N, .inl (gC n))), (gb, .inl (X.1.2.1, N, .inl (gB n))), (aB, .inr (2, [.ref aG, .ref aS, .ref aR, .ref aC, .ref aX])), (aS, .inl (X.1.2.1, N, .inl f1)), (aR, .inl (X.1.2.1, n, .inl (upd f2 k (nI 0)))), (aC, .inl (X.1.2.1, n, .inl (upd f3 k (nI 0)))), (aX, .inl (X.1.2.1, n, .inl f4))]) rfl ?_
              refine r_aload_n C dX1_clear_53 0 rfl rfl ?_
              refine r_get C dX1_clear_54 iX1_clear_X1 4 fX1_clear_32 4 rfl rfl (by decide) rfl ?_
              refine r_iload_n C dX1_clear_57 1 rfl rfl ?_
              refine r_iconst C dX1_clear_58 (v := nI 0) (by decide) ?_
              refine r_iast C dX1_clear_59 8 rfl (by omega) (by omega) (ws' := [(aG, .inr (5, [.int (nI n), .int (nI N), .int (nI (2 ^ n - 1)), .ref gr, .ref gc, .ref gb, .ref gu])), (gr, .inl (X.1.2.1, N, .inl (gR n))), (gc, .inl (X.1.2.1, N, .inl (gC n))), (gb, .inl (X.1.2.1, N, .inl (gB n))), (aB, .inr (2, [.ref aG, .ref aS, .ref aR, .ref aC, .ref aX])), (aS, .inl (X.1.2.1, N, .inl f1)), (aR, .inl (X.1.2.1, n, .inl (upd f2 k (nI 0)))), (aC, .inl (X.1.2.1, n, .inl (upd f3 k (nI 0)))), (aX, .inl (X.1.2.1, n, .inl (upd f4 k (nI 0))))]) rfl ?_
              refine r_iinc C dX1_clear_60 1 rfl (v := nI (k + 1)) (nI_add _ _) (by decide) [1, 0] (lv' := [(0, .ref aB), (1, .int (nI (k + 1)))]) rfl ?_
              refine r_goto (tgt := 28) C dX1_clear_63 (by decide) ?_
              exact ih28 (k + 1) (upd f2 k (nI 0)) (upd f3 k (nI 0)) (upd f4 k (nI 0)) (by omega) (by omega) (fun c q => ⟨up_S (Q := fun _ y => y = 0) (fun c q => (hf2 c q).1) rfl c q, up_S (Q := fun _ y => y = 0) (fun c q => (hf2 c q).2.1) rfl c q, up_S (Q := fun _ y => y = 0) (fun c q => (hf2 c q).2.2) rfl c q⟩)
        exact L28 ((n - 0) + 1) 0 fR fC fB (Nat.lt_succ_self _) (Nat.zero_le _) (fun c q => absurd q (Nat.not_lt_zero c))
      · have h10 : ¬ (N ≤ i) := fun e9 => h10 ((nI_leI (by omega) (by omega)).mpr e9)
        refine r_aload_n C dX1_clear_13 0 rfl rfl ?_
        refine r_get C dX1_clear_14 iX1_clear_X1 1 fX1_clear_19 4 rfl rfl (by decide) rfl ?_
        refine r_iload_n C dX1_clear_17 1 rfl rfl ?_
        refine r_iconst C dX1_clear_18 (v := (-1)) (by decide) ?_
        refine r_iast C dX1_clear_19 5 rfl (by omega) (by omega) (ws' := [(aG, .inr (5, [.int (nI n), .int (nI N), .int (nI (2 ^ n - 1)), .ref gr, .ref gc, .ref gb, .ref gu])), (gr, .inl (X.1.2.1, N, .inl (gR n))), (gc, .inl (X.1.2.1, N, .inl (gC n))), (gb, .inl (X.1.2.1, N, .inl (gB n))), (aB, .inr (2, [.ref aG, .ref aS, .ref aR, .ref aC, .ref aX])), (aS, .inl (X.1.2.1, N, .inl (upd f1 i (-1)))), (aR, .inl (X.1.2.1, n, .inl fR)), (aC, .inl (X.1.2.1, n, .inl fC)), (aX, .inl (X.1.2.1, n, .inl fB))]) rfl ?_
        refine r_iinc C dX1_clear_20 1 rfl (v := nI (i + 1)) (nI_add _ _) (by decide) [1, 0] (lv' := [(0, .ref aB), (1, .int (nI (i + 1)))]) rfl ?_
        refine r_goto (tgt := 2) C dX1_clear_23 (by decide) ?_
        exact ih2 (i + 1) (upd f1 i (-1)) (by omega) (by omega) (up_S (Q := fun _ y => y = -1) hf rfl)
  exact L2 ((N - 0) + 1) 0 f (Nat.lt_succ_self _) (Nat.zero_le _) (fun c q => absurd q (Nat.not_lt_zero c))
