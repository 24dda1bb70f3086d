theorem eo_nn {o : Option Nat} (h : ¬ eo o < 0) : o ≠ none := fun e => by rw [e] at h; exact h (by decide)
theorem ex_skip {k : Nat} {P : Nat → Prop} (h : ¬ P k) : (∃ d, d < k ∧ P d) ↔ ∃ d, d < k + 1 ∧ P d :=
  ⟨fun ⟨d, q, w⟩ => ⟨d, by omega, w⟩, fun ⟨d, q, w⟩ => ⟨d, by
    have : d ≠ k := fun e => h (e ▸ w)
    omega, w⟩⟩
theorem mk_S {N k t : Nat} {m2 : Nat → Int32} {th lf : Nat → Nat} (h : ∀ c, c < N → m2 c = bz (∃ d, d < k ∧ th d = t ∧ lf d = c)) (hk : th k = t) : ∀ c, c < N → upd m2 (lf k) (vp_nar .boolean (nI 1)) c = bz (∃ d, d < k + 1 ∧ th d = t ∧ lf d = c) := by
  intro c q
  by_cases e : c = lf k
  · subst e
    rw [pk_us, bz_t ⟨k, by omega, hk, rfl⟩]
    rfl
  · rw [pk_un e, h c q]
    exact bz_iff (ex_skip (P := fun d => th d = t ∧ lf d = c) (fun w => e w.2.symm))
def mixF : Nat → Int64 → (Nat → Nat) → Int64 × (Nat → Nat)
  | 0, x, r => (x, r)
  | i + 1, x, r => mixF i (nx x) (uO (uO r (i + 1) (r (hb (nx x) % (i + 1 + 1)))) (hb (nx x) % (i + 1 + 1)) (r (i + 1)))
theorem i32_m1 (x : Int32) : x + Int32.ofInt (-1) = x - nI 1 := by
  rw [Int32.sub_eq_add_neg]; congr 1
theorem sub1 {k : Nat} (h : k < 1073741824) : nI k - nI 1 < nI 1 ↔ k < 2 := by
  rw [Int32.lt_iff_toInt_lt, pk_sub_toInt (by omega) (by omega), nI_toInt (by omega)]
  omega
theorem fX5_countGivens_32 : Cond.fieldLink RX5 32 (TX5 0).1 (TX5 0).2.1 (TX5 0).2.2.1 ∈ wsX5_countGivens := List.mem_of_getElem? (i := 1) rfl
theorem iX5_countGivens_X5 : ∀ w ∈ wsX50, w ∈ wsX5_countGivens := by decide +kernel
theorem fX5_countGivens_80 : Cond.fieldLink RX5 80 (TX4 1).1 (TX4 1).2.1 (TX4 1).2.2.1 ∈ wsX5_countGivens := List.mem_of_getElem? (i := 2) rfl
theorem iX5_countGivens_X4 : ∀ w ∈ wsX40, w ∈ wsX5_countGivens := by decide +kernel
theorem fX5_countGivens_88 : Cond.fieldLink RX5 88 (TX5 9).1 (TX5 9).2.1 (TX5 9).2.2.1 ∈ wsX5_countGivens := List.mem_of_getElem? (i := 3) rfl
set_option maxHeartbeats 4000000 in
set_option maxRecDepth 100000 in
theorem c_X5_countGivens {g : ww_G} {l : Launch} {n : Nat} {N : Nat} {aG : Nat} {gr : Nat} {gc : Nat} {gb : Nat} {gu : Nat} {aM : Nat} {aE : Nat} {aTh : Nat} {aA : Nat} {aD : Nat} {aQ : Nat} {aW : Nat} {aH : Nat} {aWh : Nat} {aGv : Nat} {aMk : Nat} {aRw : Nat} {aWo : Nat} {md : Prop} {tm : Nat} {rs : Nat} {tk : Nat} {pb : Nat} {gn : Nat} {un : Nat} {gv : Nat → Option Nat} (hn : (n = 4 ∧ N = 16) ∨ (n = 6 ∧ N = 36)) (hok : ∀ c v, gv c = some v → v < n) : CT g l yX5_countGivens wsX5_countGivens (ww_rm 1) [.ref aM] ([(aM, .inr (6, [.ref aG, .ref aE, .ref aTh, .ref aA, .ref aD, .ref aQ, .ref aW, .ref aH, .ref aWh, .ref aGv, .ref aMk, .ref aRw, .ref aWo, .int (bz md), .int (nI tm), .int (nI rs), .int (nI tk), .int (nI pb), .int (nI gn), .int (nI un)])), (aG, .inr (5, [.int (nI n), .int (nI N), .int (nI (2 ^ n - 1)), .ref gr, .ref gc, .ref gb, .ref gu])), (aGv, .inl (g.2.1, N, .inl (eb gv)))]) (S := Unit) (fun v u => v = some (.int (nI (fil N gv)))) (fun u => [(aM, .inr (6, [.ref aG, .ref aE, .ref aTh, .ref aA, .ref aD, .ref aQ, .ref aW, .ref aH, .ref aWh, .ref aGv, .ref aMk, .ref aRw, .ref aWo, .int (bz md), .int (nI tm), .int (nI rs), .int (nI tk), .int (nI pb), .int (nI gn), .int (nI un)])), (aG, .inr (5, [.int (nI n), .int (nI N), .int (nI (2 ^ n - 1)), .ref gr, .ref gc, .ref gb, .ref gu])), (aGv, .inl (g.2.1, N, .inl (eb gv)))]) := by
  refine CT.of cX5_countGivens 3 (some .int) RX5 (by decide +kernel) rfl rfl (Nat.le_of_ble_eq_true rfl) ?_
  intro X hg hl C hret
  subst hg; subst hl
  show RW X 0 0 0 [(0, .ref aM)] [] [(aM, .inr (6, [.ref aG, .ref aE, .ref aTh, .ref aA, .ref aD, .ref aQ, .ref aW, .ref aH, .ref aWh, .ref aGv, .ref aMk, .ref aRw, .ref aWo, .int (bz md), .int (nI tm), .int (nI rs), .int (nI tk), .int (nI pb), .int (nI gn), .int (nI un)])), (aG, .inr (5, [.int (nI n), .int (nI N), .int (nI (2 ^ n - 1)), .ref gr, .ref gc, .ref gb, .ref gu])), (aGv, .inl (X.1.2.1, N, .inl (eb gv)))]
  refine r_iconst C dX5_countGivens_0 (v := nI 0) (by decide) ?_
  refine r_istore_n C dX5_countGivens_1 rfl (by decide) [1, 0] (lv' := [(0, .ref aM), (1, .int (nI 0))]) rfl ?_
  refine r_iconst C dX5_countGivens_2 (v := nI 0) (by decide) ?_
  refine r_istore_n C dX5_countGivens_3 rfl (by decide) [1, 2, 0] (lv' := [(0, .ref aM), (1, .int (nI 0)), (2, .int (nI 0))]) rfl ?_
  have L4 : ∀ (d4 : Nat) (k : Nat) (i : Nat), (N - i) < d4 → (i ≤ N) → (k = cn (fun c => gv c ≠ none) i) → RW X 0 0 4 [(0, .ref aM), (1, .int (nI k)), (2, .int (nI i))] [] [(aM, .inr (6, [.ref aG, .ref aE, .ref aTh, .ref aA, .ref aD, .ref aQ, .ref aW, .ref aH, .ref aWh, .ref aGv, .ref aMk, .ref aRw, .ref aWo, .int (bz md), .int (nI tm), .int (nI rs), .int (nI tk), .int (nI pb), .int (nI gn), .int (nI un)])), (aG, .inr (5, [.int (nI n), .int (nI N), .int (nI (2 ^ n - 1)), .ref gr, .ref gc, .ref gb, .ref gu])), (aGv, .inl (X.1.2.1, N, .inl (eb gv)))] := by
    intro d4
    induction d4 with
    | zero => intro k i hd4; exact absurd hd4 (Nat.not_lt_zero _)
    | succ d4 ih4 =>
      intro k i hd4 hi hk
      refine r_iload_n C dX5_countGivens_4 2 rfl rfl ?_
      refine r_aload_n C dX5_countGivens_5 0 rfl rfl ?_
      refine r_get C dX5_countGivens_6 iX5_countGivens_X5 0 fX5_countGivens_32 0 rfl rfl (by decide) rfl ?_
      refine r_get C dX5_countGivens_9 iX5_countGivens_X4 1 fX5_countGivens_80 1 rfl rfl (by decide) rfl ?_
      refine r_icmp_ge (tgt := 33) C dX5_countGivens_12 (by decide) (fun h12 => ?_) (fun h12 => ?_)
      · have h12 : N ≤ i := (nI_leI (by omega) (by omega)).mp h12
        refine r_iload_n C dX5_countGivens_33 1 rfl rfl ?_
        refine r_top (y := nI (fil N gv)) (congrArg nI (by rw [hk, show i = N by omega]; rfl)) ?_
        exact hret _ _ _ () rfl (Or.inr ⟨_, rfl, dX5_countGivens_34, Or.inl rfl⟩)
      · have h12 : ¬ (N ≤ i) := fun e9 => h12 ((nI_leI (by omega) (by omega)).mpr e9)
        refine r_aload_n C dX5_countGivens_15 0 rfl rfl ?_
        refine r_get C dX5_countGivens_16 iX5_countGivens_X5 9 fX5_countGivens_88 0 rfl rfl (by decide) rfl ?_
        refine r_iload_n C dX5_countGivens_19 2 rfl rfl ?_
        refine r_iald C dX5_countGivens_20 2 rfl (by omega) (by omega) ?_
        refine r_if_lt (tgt := 27) C dX5_countGivens_21 (by decide) (fun h21 => ?_) (fun h21 => ?_)
        · refine r_iinc C dX5_countGivens_27 2 rfl (v := nI (i + 1)) (nI_add _ _) (by decide) [1, 2, 0] (lv' := [(0, .ref aM), (1, .int (nI k)), (2, .int (nI (i + 1)))]) rfl ?_
          refine r_goto (tgt := 4) C dX5_countGivens_30 (by decide) ?_
          exact ih4 k (i + 1) (by omega) (by omega) (by show k = _ + dI _; rw [dI_f (fun w => w (eo_none h21 (hok i) (by omega)))]; exact hk)
        · refine r_iinc C dX5_countGivens_24 1 rfl (v := nI (k + 1)) (nI_add _ _) (by decide) [1, 0, 2] (lv' := [(0, .ref aM), (1, .int (nI (k + 1))), (2, .int (nI i))]) rfl ?_
          refine r_iinc C dX5_countGivens_27 2 rfl (v := nI (i + 1)) (nI_add _ _) (by decide) [1, 2, 0] (lv' := [(0, .ref aM), (1, .int (nI (k + 1))), (2, .int (nI (i + 1)))]) rfl ?_
          refine r_goto (tgt := 4) C dX5_countGivens_30 (by decide) ?_
          exact ih4 (k + 1) (i + 1) (by omega) (by omega) (by show k + 1 = _ + dI _; rw [dI_t (eo_nn h21), hk])
  exact L4 ((N - 0) + 1) 0 0 (Nat.lt_succ_self _) (Nat.zero_le _) rfl
theorem fX5_markSetsWith_32 : Cond.fieldLink RX5 32 (TX5 0).1 (TX5 0).2.1 (TX5 0).2.2.1 ∈ wsX5_markSetsWith := List.mem_of_getElem? (i := 1) rfl
theorem iX5_markSetsWith_X5 : ∀ w ∈ wsX50, w ∈ wsX5_markSetsWith := by decide +kernel
theorem fX5_markSetsWith_80 : Cond.fieldLink RX5 80 (TX4 1).1 (TX4 1).2.1 (TX4 1).2.2.1 ∈ wsX5_markSetsWith := List.mem_of_getElem? (i := 2) rfl
theorem iX5_markSetsWith_X4 : ∀ w ∈ wsX40, w ∈ wsX5_markSetsWith := by decide +kernel
theorem fX5_markSetsWith_40 : Cond.fieldLink RX5 40 (TX5 2).1 (TX5 2).2.1 (TX5 2).2.2.1 ∈ wsX5_markSetsWith := List.mem_of_getElem? (i := 4) rfl
theorem fX5_markSetsWith_91 : Cond.fieldLink RX5 91 (TX5 10).1 (TX5 10).2.1 (TX5 10).2.2.1 ∈ wsX5_markSetsWith := List.mem_of_getElem? (i := 3) rfl
theorem fX5_markSetsWith_36 : Cond.fieldLink RX5 36 (TX5 1).1 (TX5 1).2.1 (TX5 1).2.2.1 ∈ wsX5_markSetsWith := List.mem_of_getElem? (i := 5) rfl
theorem fX5_markSetsWith_158 : Cond.fieldLink RX5 158 (TX6 1).1 (TX6 1).2.1 (TX6 1).2.2.1 ∈ wsX5_markSetsWith := List.mem_of_getElem? (i := 6) rfl
theorem iX5_markSetsWith_X6 : ∀ w ∈ wsX60, w ∈ wsX5_markSetsWith := by decide +kernel
set_option maxHeartbeats 4000000 in
set_option maxRecDepth 100000 in
theorem c_X5_markSetsWith {g : ww_G} {l : Launch} {n : Nat} {N : Nat} {aG : Nat} {gr : Nat} {gc : Nat} {gb : Nat} {gu : Nat} {aM : Nat} {aE : Nat} {aTh : Nat} {aA : Nat} {aD : Nat} {aQ : Nat} {aW : Nat} {aH : Nat} {aWh : Nat} {aGv : Nat} {aMk : Nat} {aRw : Nat} {aWo : Nat} {md : Prop} {tm : Nat} {rs : Nat} {tk : Nat} {pb : Nat} {gn : Nat} {un : Nat} {aL : Nat} {lf : Nat → Nat} {th : Nat → Nat} {mk : Nat → Int32} {t : Nat} (hn : (n = 4 ∧ N = 16) ∨ (n = 6 ∧ N = 36)) (hlf : ∀ c, c < N → lf c < N) (hth : ∀ c, th c < 3) (ht : t < 3) : CT g l yX5_markSetsWith wsX5_markSetsWith (ww_rm 1) [.ref aM, .int (nI t)] ([(aM, .inr (6, [.ref aG, .ref aE, .ref aTh, .ref aA, .ref aD, .ref aQ, .ref aW, .ref aH, .ref aWh, .ref aGv, .ref aMk, .ref aRw, .ref aWo, .int (bz md), .int (nI tm), .int (nI rs), .int (nI tk), .int (nI pb), .int (nI gn), .int (nI un)])), (aG, .inr (5, [.int (nI n), .int (nI N), .int (nI (2 ^ n - 1)), .ref gr, .ref gc, .ref gb, .ref gu])), (aE, .inr (7, [.ref aG, .ref aL])), (aL, .inl (g.2.1, N, .inl (nO lf))), (aTh, .inl (g.2.1, N, .inl (nO th))), (aMk, .inl (g.2.2.1, N, .inl mk))]) (S := Unit) (fun v u => v = none) (fun u => [(aM, .inr (6, [.ref aG, .ref aE, .ref aTh, .ref aA, .ref aD, .ref aQ, .ref aW, .ref aH, .ref aWh, .ref aGv, .ref aMk, .ref aRw, .ref aWo, .int (bz md), .int (nI tm), .int (nI rs), .int (nI tk), .int (nI pb), .int (nI gn), .int (nI un)])), (aG, .inr (5, [.int (nI n), .int (nI N), .int (nI (2 ^ n - 1)), .ref gr, .ref gc, .ref gb, .ref gu])), (aE, .inr (7, [.ref aG, .ref aL])), (aL, .inl (g.2.1, N, .inl (nO lf))), (aTh, .inl (g.2.1, N, .inl (nO th))), (aMk, .inl (g.2.2.1, N, .inl (fun c => bz (∃ d, d < N ∧ th d = t ∧ lf d = c))))]) := by
  refine CT.of cX5_markSetsWith 3 none RX5 (by decide +kernel) rfl rfl (Nat.le_of_ble_eq_true rfl) ?_
  intro X hg hl C hret
  subst hg; subst hl
  show RW X 0 0 0 [(0, .ref aM), (1, .int (nI t))] [] [(aM, .inr (6, [.ref aG, .ref aE, .ref aTh, .ref aA, .ref aD, .ref aQ, .ref aW, .ref aH, .ref aWh, .ref aGv, .ref aMk, .ref aRw, .ref aWo, .int (bz md), .int (nI tm), .int (nI rs), .int (nI tk), .int (nI pb), .int (nI gn), .int (nI un)])), (aG, .inr (5, [.int (nI n), .int (nI N), .int (nI (2 ^ n - 1)), .ref gr, .ref gc, .ref gb, .ref gu])), (aE, .inr (7, [.ref aG, .ref aL])), (aL, .inl (X.1.2.1, N, .inl (nO lf))), (aTh, .inl (X.1.2.1, N, .inl (nO th))), (aMk, .inl (X.1.2.2.1, N, .inl mk))]
  refine r_iconst C dX5_markSetsWith_0 (v := nI 0) (by decide) ?_
  refine r_istore_n C dX5_markSetsWith_1 rfl (by decide) [1, 2, 0] (lv' := [(0, .ref aM), (1, .int (nI t)), (2, .int (nI 0))]) rfl ?_
  have L2 : ∀ (d2 : Nat) (i : Nat) (m1 : Nat → Int32), (N - i) < d2 → (i ≤ N) → (∀ c, c < i → m1 c = 0) → RW X 0 0 2 [(0, .ref aM), (1, .int (nI t)), (2, .int (nI i))] [] [(aM, .inr (6, [.ref aG, .ref aE, .ref aTh, .ref aA, .ref aD, .ref aQ, .ref aW, .ref aH, .ref aWh, .ref aGv, .ref aMk, .ref aRw, .ref aWo, .int (bz md), .int (nI tm), .int (nI rs), .int (nI tk), .int (nI pb), .int (nI gn), .int (nI un)])), (aG, .inr (5, [.int (nI n), .int (nI N), .int (nI (2 ^ n - 1)), .ref gr, .ref gc, .ref gb, .ref gu])), (aE, .inr (7, [.ref aG, .ref aL])), (aL, .inl (X.1.2.1, N, .inl (nO lf))), (aTh, .inl (X.1.2.1, N, .inl (nO th))), (aMk, .inl (X.1.2.2.1, N, .inl m1))] := by
    intro d2
    induction d2 with
    | zero => intro i m1 hd2; exact absurd hd2 (Nat.not_lt_zero _)
    | succ d2 ih2 =>
      intro i m1 hd2 hi hm1
      refine r_iload_n C dX5_markSetsWith_2 2 rfl rfl ?_
      refine r_aload_n C dX5_markSetsWith_3 0 rfl rfl ?_
      refine r_get C dX5_markSetsWith_4 iX5_markSetsWith_X5 0 fX5_markSetsWith_32 0 rfl rfl (by decide) rfl ?_
      refine r_get C dX5_markSetsWith_7 iX5_markSetsWith_X4 1 fX5_markSetsWith_80 1 rfl rfl (by decide) rfl ?_
      refine r_icmp_ge (tgt := 26) C dX5_markSetsWith_10 (by decide) (fun h10 => ?_) (fun h10 => ?_)
      · have h10 : N ≤ i := (nI_leI (by omega) (by omega)).mp h10
        refine r_iconst C dX5_markSetsWith_26 (v := nI 0) (by decide) ?_
        refine r_istore_n C dX5_markSetsWith_27 rfl (by decide) [1, 2, 0] (lv' := [(0, .ref aM), (1, .int (nI t)), (2, .int (nI 0))]) rfl ?_
        have L28 : ∀ (d28 : Nat) (k : Nat) (m2 : Nat → Int32), (N - k) < d28 → (k ≤ N) → (∀ c, c < N → m2 c = bz (∃ d, d < k ∧ th d = t ∧ lf d = c)) → RW X 0 0 28 [(0, .ref aM), (1, .int (nI t)), (2, .int (nI k))] [] [(aM, .inr (6, [.ref aG, .ref aE, .ref aTh, .ref aA, .ref aD, .ref aQ, .ref aW, .ref aH, .ref aWh, .ref aGv, .ref aMk, .ref aRw, .ref aWo, .int (bz md), .int (nI tm), .int (nI rs), .int (nI tk), .int (nI pb), .int (nI gn), .int (nI un)])), (aG, .inr (5, [.int (nI n), .int (nI N), .int (nI (2 ^ n - 1)), .ref gr, .ref gc, .ref gb, .ref gu])), (aE, .inr (7, [.ref aG, .ref aL])), (aL, .inl (X.1.2.1, N, .inl (nO lf))), (aTh, .inl (X.1.2.1, N, .inl (nO th))), (aMk, .inl (X.1.2.2.1, N, .inl m2))] := by
          intro d28
          induction d28 with
          | zero => intro k m2 hd28; exact absurd hd28 (Nat.not_lt_zero _)
          | succ d28 ih28 =>
            intro k m2 hd28 hk hm2
            refine r_iload_n C dX5_markSetsWith_28 2 rfl rfl ?_
            refine r_aload_n C dX5_markSetsWith_29 0 rfl rfl ?_
            refine r_get C dX5_markSetsWith_30 iX5_markSetsWith_X5 0 fX5_markSetsWith_32 0 rfl rfl (by decide) rfl ?_
            refine r_get C dX5_markSetsWith_33 iX5_markSetsWith_X4 1 fX5_markSetsWith_80 1 rfl rfl (by decide) rfl ?_
            refine r_icmp_ge (tgt := 70) C dX5_markSetsWith_36 (by decide) (fun h36 => ?_) (fun h36 => ?_)
            · have h36 : N ≤ k := (nI_leI (by omega) (by omega)).mp h36
              refine r_arrZ 5 rfl (fun c q => by rw [hm2 c q, show k = N by omega]) (ws' := [(aM, .inr (6, [.ref aG, .ref aE, .ref aTh, .ref aA, .ref aD, .ref aQ, .ref aW, .ref aH, .ref aWh, .ref aGv, .ref aMk, .ref aRw, .ref aWo, .int (bz md), .int (nI tm), .int (nI rs), .int (nI tk), .int (nI pb), .int (nI gn), .int (nI un)])), (aG, .inr (5, [.int (nI n), .int (nI N), .int (nI (2 ^ n - 1)), .ref gr, .ref gc, .ref gb, .ref gu])), (aE, .inr (7, [.ref aG, .ref aL])), (aL, .inl (X.1.2.1, N, .inl (nO lf))), (aTh, .inl (X.1.2.1, N, .inl (nO th))), (aMk, .inl (X.1.2.2.1, N, .inl (fun c => bz (∃ d, d < N ∧ th d = t ∧ lf d = c))))]) rfl ?_
              exact hret _ _ _ () rfl (Or.inl ⟨rfl, rfl, dX5_markSetsWith_70⟩)
            · have h36 : ¬ (N ≤ k) := fun e9 => h36 ((nI_leI (by omega) (by omega)).mpr e9)
              refine r_aload_n C dX5_markSetsWith_39 0 rfl rfl ?_
              refine r_get C dX5_markSetsWith_40 iX5_markSetsWith_X5 2 fX5_markSetsWith_40 0 rfl rfl (by decide) rfl ?_
              refine r_iload_n C dX5_markSetsWith_43 2 rfl rfl ?_
              refine r_iald C dX5_markSetsWith_44 4 rfl (by omega) (by omega) ?_
              show RW X 0 0 45 [(0, .ref aM), (1, .int (nI t)), (2, .int (nI k))] [.int (nI (th k))] [(aM, .inr (6, [.ref aG, .ref aE, .ref aTh, .ref aA, .ref aD, .ref aQ, .ref aW, .ref aH, .ref aWh, .ref aGv, .ref aMk, .ref aRw, .ref aWo, .int (bz md), .int (nI tm), .int (nI rs), .int (nI tk), .int (nI pb), .int (nI gn), .int (nI un)])), (aG, .inr (5, [.int (nI n), .int (nI N), .int (nI (2 ^ n - 1)), .ref gr, .ref gc, .ref gb, .ref gu])), (aE, .inr (7, [.ref aG, .ref aL])), (aL, .inl (X.1.2.1, N, .inl (nO lf))), (aTh, .inl (X.1.2.1, N, .inl (nO th))), (aMk, .inl (X.1.2.2.1, N, .inl m2))]
              refine r_iload_n C dX5_markSetsWith_45 1 rfl rfl ?_
              have hthk := hth k
              refine r_icmp_ne (tgt := 64) C dX5_markSetsWith_46 (by decide) (fun h46 => ?_) (fun h46 => ?_)
              · have h46 : ¬ ((th k) = t) := fun e9 => h46 ((nI_eq (by omega) (by omega)).mpr e9)
                refine r_iinc C dX5_markSetsWith_64 2 rfl (v := nI (k + 1)) (nI_add _ _) (by decide) [1, 2, 0] (lv' := [(0, .ref aM), (1, .int (nI t)), (2, .int (nI (k + 1)))]) rfl ?_
                refine r_goto (tgt := 28) C dX5_markSetsWith_67 (by decide) ?_
                exact ih28 (k + 1) m2 (by omega) (by omega) (fun c q => (hm2 c q).trans (bz_iff (ex_skip (P := fun d => th d = t ∧ lf d = c) (fun w => h46 w.1))))
              · have h46 : (th k) = t := (nI_eq (by omega) (by omega)).mp h46
                refine r_aload_n C dX5_markSetsWith_49 0 rfl rfl ?_
                refine r_get C dX5_markSetsWith_50 iX5_markSetsWith_X5 10 fX5_markSetsWith_91 0 rfl rfl (by decide) rfl ?_
                refine r_aload_n C dX5_markSetsWith_53 0 rfl rfl ?_
                refine r_get C dX5_markSetsWith_54 iX5_markSetsWith_X5 1 fX5_markSetsWith_36 0 rfl rfl (by decide) rfl ?_
                refine r_get C dX5_markSetsWith_57 iX5_markSetsWith_X6 1 fX5_markSetsWith_158 2 rfl rfl (by decide) rfl ?_
                refine r_iload_n C dX5_markSetsWith_60 2 rfl rfl ?_
                refine r_iald C dX5_markSetsWith_61 3 rfl (by omega) (by omega) ?_
                show RW X 0 0 62 [(0, .ref aM), (1, .int (nI t)), (2, .int (nI k))] [.int (nI (lf k)), .ref aMk] [(aM, .inr (6, [.ref aG, .ref aE, .ref aTh, .ref aA, .ref aD, .ref aQ, .ref aW, .ref aH, .ref aWh, .ref aGv, .ref aMk, .ref aRw, .ref aWo, .int (bz md), .int (nI tm), .int (nI rs), .int (nI tk), .int (nI pb), .int (nI gn), .int (nI un)])), (aG, .inr (5, [.int (nI n), .int (nI N), .int (nI (2 ^ n - 1)), .ref gr, .ref gc, .ref gb, .ref gu])), (aE, .inr (7, [.ref aG, .ref aL])), (aL, .inl (X.1.2.1, N, .inl (nO lf))), (aTh, .inl (X.1.2.1, N, .inl (nO th))), (aMk, .inl (X.1.2.2.1, N, .inl m2))]
                refine r_iconst C dX5_markSetsWith_62 (v := nI 1) (by decide) ?_
                refine r_zast C dX5_markSetsWith_63 5 rfl (hlf k (by omega)) (by omega) (ws' := [(aM, .inr (6, [.ref aG, .ref aE, .ref aTh, .ref aA, .ref aD, .ref aQ, .ref aW, .ref aH, .ref aWh, .ref aGv, .ref aMk, .ref aRw, .ref aWo, .int (bz md), .int (nI tm), .int (nI rs), .int (nI tk), .int (nI pb), .int (nI gn), .int (nI un)])), (aG, .inr (5, [.int (nI n), .int (nI N), .int (nI (2 ^ n - 1)), .ref gr, .ref gc, .ref gb, .ref gu])), (aE, .inr (7, [.ref aG, .ref aL])), (aL, .inl (X.1.2.1, N, .inl (nO lf))), (aTh, .inl (X.1.2.1, N, .inl (nO th))), (aMk, .inl (X.1.2.2.1, N, .inl (upd m2 (lf k) (vp_nar .boolean (nI 1)))))]) rfl ?_
                refine r_iinc C dX5_markSetsWith_64 2 rfl (v := nI (k + 1)) (nI_add _ _) (by decide) [1, 2, 0] (lv' := [(0, .ref aM), (1, .int (nI t)), (2, .int (nI (k + 1)))]) rfl ?_
                refine r_goto (tgt := 28) C dX5_markSetsWith_67 (by decide) ?_
                exact ih28 (k + 1) (upd m2 (lf k) (vp_nar .boolean (nI 1))) (by omega) (by omega) (mk_S hm2 h46)
        exact L28 ((N - 0) + 1) 0 m1 (Nat.lt_succ_self _) (Nat.zero_le _) (fun c q => (hm1 c (by omega)).trans (bz_f (fun ⟨d, q1, _⟩ => absurd q1 (Nat.not_lt_zero d))).symm)
      · have h10 : ¬ (N ≤ i) := fun e9 => h10 ((nI_leI (by omega) (by omega)).mpr e9)
        refine r_aload_n C dX5_markSetsWith_13 0 rfl rfl ?_
        refine r_get C dX5_markSetsWith_14 iX5_markSetsWith_X5 10 fX5_markSetsWith_91 0 rfl rfl (by decide) rfl ?_
        refine r_iload_n C dX5_markSetsWith_17 2 rfl rfl ?_
        refine r_iconst C dX5_markSetsWith_18 (v := nI 0) (by decide) ?_
        refine r_zast C dX5_markSetsWith_19 5 rfl (by omega) (by omega) (ws' := [(aM, .inr (6, [.ref aG, .ref aE, .ref aTh, .ref aA, .ref aD, .ref aQ, .ref aW, .ref aH, .ref aWh, .ref aGv, .ref aMk, .ref aRw, .ref aWo, .int (bz md), .int (nI tm), .int (nI rs), .int (nI tk), .int (nI pb), .int (nI gn), .int (nI un)])), (aG, .inr (5, [.int (nI n), .int (nI N), .int (nI (2 ^ n - 1)), .ref gr, .ref gc, .ref gb, .ref gu])), (aE, .inr (7, [.ref aG, .ref aL])), (aL, .inl (X.1.2.1, N, .inl (nO lf))), (aTh, .inl (X.1.2.1, N, .inl (nO th))), (aMk, .inl (X.1.2.2.1, N, .inl (upd m1 i (vp_nar .boolean (nI 0)))))]) rfl ?_
        refine r_iinc C dX5_markSetsWith_20 2 rfl (v := nI (i + 1)) (nI_add _ _) (by decide) [1, 2, 0] (lv' := [(0, .ref aM), (1, .int (nI t)), (2, .int (nI (i + 1)))]) rfl ?_
        refine r_goto (tgt := 2) C dX5_markSetsWith_23 (by decide) ?_
        exact ih2 (i + 1) (upd m1 i (vp_nar .boolean (nI 0))) (by omega) (by omega) (up_S (Q := fun _ y => y = 0) hm1 rfl)
  exact L2 ((N - 0) + 1) 0 mk (Nat.lt_succ_self _) (Nat.zero_le _) (fun c q => absurd q (Nat.not_lt_zero c))
theorem fX5_mixRow_51 : Cond.fieldLink RX5 51 (TX5 7).1 (TX5 7).2.1 (TX5 7).2.2.1 ∈ wsX5_mixRow := List.mem_of_getElem? (i := 1) rfl
theorem iX5_mixRow_X5 : ∀ w ∈ wsX50, w ∈ wsX5_mixRow := by decide +kernel
theorem fX5_mixRow_95 : Cond.fieldLink RX5 95 (TX5 11).1 (TX5 11).2.1 (TX5 11).2.2.1 ∈ wsX5_mixRow := List.mem_of_getElem? (i := 2) rfl
set_option maxHeartbeats 4000000 in
set_option maxRecDepth 100000 in
theorem c_X5_mixRow {g : ww_G} {l : Launch} {n : Nat} {N : Nat} {aG : Nat} {gr : Nat} {gc : Nat} {gb : Nat} {gu : Nat} {aM : Nat} {aE : Nat} {aTh : Nat} {aA : Nat} {aD : Nat} {aQ : Nat} {aW : Nat} {aH : Nat} {aWh : Nat} {aGv : Nat} {aMk : Nat} {aRw : Nat} {aWo : Nat} {md : Prop} {tm : Nat} {rs : Nat} {tk : Nat} {pb : Nat} {gn : Nat} {un : Nat} {ro : Nat → Nat} {ln : Nat} {x : Int64} (hn : (n = 4 ∧ N = 16) ∨ (n = 6 ∧ N = 36)) (hln : ln ≤ N) : CT g l yX5_mixRow wsX5_mixRow (ww_rm 3) [.ref aM, .int (nI ln)] ([(aM, .inr (6, [.ref aG, .ref aE, .ref aTh, .ref aA, .ref aD, .ref aQ, .ref aW, .ref aH, .ref aWh, .ref aGv, .ref aMk, .ref aRw, .ref aWo, .int (bz md), .int (nI tm), .int (nI rs), .int (nI tk), .int (nI pb), .int (nI gn), .int (nI un)])), (aRw, .inl (g.2.1, N, .inl (nO ro))), (aH, .inr (3, [.long x]))]) (S := Unit) (fun v u => v = none) (fun u => [(aM, .inr (6, [.ref aG, .ref aE, .ref aTh, .ref aA, .ref aD, .ref aQ, .ref aW, .ref aH, .ref aWh, .ref aGv, .ref aMk, .ref aRw, .ref aWo, .int (bz md), .int (nI tm), .int (nI rs), .int (nI tk), .int (nI pb), .int (nI gn), .int (nI un)])), (aRw, .inl (g.2.1, N, .inl (nO (mixF (ln - 1) x ro).2))), (aH, .inr (3, [.long ((mixF (ln - 1) x ro).1)]))]) := by
  refine CT.of cX5_mixRow 5 none RX5 (by decide +kernel) rfl rfl (Nat.le_of_ble_eq_true rfl) ?_
  intro X hg hl C hret
  subst hg; subst hl
  show RW X 0 0 0 [(0, .ref aM), (1, .int (nI ln))] [] [(aM, .inr (6, [.ref aG, .ref aE, .ref aTh, .ref aA, .ref aD, .ref aQ, .ref aW, .ref aH, .ref aWh, .ref aGv, .ref aMk, .ref aRw, .ref aWo, .int (bz md), .int (nI tm), .int (nI rs), .int (nI tk), .int (nI pb), .int (nI gn), .int (nI un)])), (aRw, .inl (X.1.2.1, N, .inl (nO ro))), (aH, .inr (3, [.long x]))]
  refine r_iload_n C dX5_mixRow_0 1 rfl rfl ?_
  refine r_iconst C dX5_mixRow_1 (v := nI 1) (by decide) ?_
  refine r_isub C dX5_mixRow_2 (v := nI ln - nI 1) rfl ?_
  refine r_istore_n C dX5_mixRow_3 rfl (by decide) [1, 2, 0] (lv' := [(0, .ref aM), (1, .int (nI ln)), (2, .int (nI ln - nI 1))]) rfl ?_
  have L4 : ∀ (d4 : Nat) (k : Nat) (x1 : Int64) (r1 : Nat → Nat), k < d4 → (k ≤ ln) → (mixF (ln - 1) x ro = mixF (k - 1) x1 r1) → RW X 0 0 4 [(0, .ref aM), (2, .int (nI k - nI 1))] [] [(aM, .inr (6, [.ref aG, .ref aE, .ref aTh, .ref aA, .ref aD, .ref aQ, .ref aW, .ref aH, .ref aWh, .ref aGv, .ref aMk, .ref aRw, .ref aWo, .int (bz md), .int (nI tm), .int (nI rs), .int (nI tk), .int (nI pb), .int (nI gn), .int (nI un)])), (aRw, .inl (X.1.2.1, N, .inl (nO r1))), (aH, .inr (3, [.long x1]))] := by
    intro d4
    induction d4 with
    | zero => intro k x1 r1 hd4; exact absurd hd4 (Nat.not_lt_zero _)
    | succ d4 ih4 =>
      intro k x1 r1 hd4 hk hF
      refine r_iload_n C dX5_mixRow_4 1 rfl rfl ?_
      refine r_iconst C dX5_mixRow_5 (v := nI 1) (by decide) ?_
      refine r_icmp_lt (tgt := 54) C dX5_mixRow_6 (by decide) (fun h6 => ?_) (fun h6 => ?_)
      · have hk1 : k < 2 := (sub1 (k := k) (by omega)).mp h6
        have hF0 : mixF (ln - 1) x ro = (x1, r1) := by rw [hF, show k - 1 = 0 by omega]; rfl
        rw [hF0] at hret
        exact hret _ _ _ () rfl (Or.inl ⟨rfl, rfl, dX5_mixRow_54⟩)
      · have hk2 : 2 ≤ k := by have := mt (sub1 (k := k) (by omega)).mpr h6; omega
        rw [pk_sub (show 1 ≤ k by omega)]
        show RW X 0 0 9 [(0, .ref aM), (2, .int (nI (k - 1)))] [] [(aM, .inr (6, [.ref aG, .ref aE, .ref aTh, .ref aA, .ref aD, .ref aQ, .ref aW, .ref aH, .ref aWh, .ref aGv, .ref aMk, .ref aRw, .ref aWo, .int (bz md), .int (nI tm), .int (nI rs), .int (nI tk), .int (nI pb), .int (nI gn), .int (nI un)])), (aRw, .inl (X.1.2.1, N, .inl (nO r1))), (aH, .inr (3, [.long x1]))]
        refine r_aload_n C dX5_mixRow_9 0 rfl rfl ?_
        refine r_get C dX5_mixRow_10 iX5_mixRow_X5 7 fX5_mixRow_51 0 rfl rfl (by decide) rfl ?_
        refine r_iload_n C dX5_mixRow_13 1 rfl rfl ?_
        refine r_iconst C dX5_mixRow_14 (v := nI 1) (by decide) ?_
        refine r_iadd C dX5_mixRow_15 (v := nI ((k - 1) + 1)) (nI_add _ _) ?_
        refine r_callV0 (n := 1) (ws' := fun u => [(aM, .inr (6, [.ref aG, .ref aE, .ref aTh, .ref aA, .ref aD, .ref aQ, .ref aW, .ref aH, .ref aWh, .ref aGv, .ref aMk, .ref aRw, .ref aWo, .int (bz md), .int (nI tm), .int (nI rs), .int (nI tk), .int (nI pb), .int (nI gn), .int (nI un)])), (aRw, .inl (X.1.2.1, N, .inl (nO r1))), (aH, .inr (3, [.long (nx x1)]))]) C dX5_mixRow_16 (c_X2_below (g := X.1) (l := X.2.2.1) (aH := aH) (x := x1) (k := (k - 1) + 1) (hk := (by omega)) (hk2 := (by omega))) gX5_mixRow_X2_below rfl (by decide +kernel) rfl ⟨Nat.le_of_ble_eq_true rfl, Nat.le_of_ble_eq_true rfl⟩ ⟨rfl, rfl⟩ ⟨Nat.zero_le _, Nat.zero_le _⟩ (rest := []) rfl (Nat.le_of_ble_eq_true rfl) 0 rfl rfl [2] (by decide) rfl (fun u => Eq.trans (b := [aH]) rfl rfl) (fun u => rfl) (fun v u hp => ?_)
        obtain rfl := hp
        show RW X 0 0 19 [(0, .ref aM), (2, .int (nI (k - 1)))] [.int (nI (hb (nx x1) % ((k - 1) + 1)))] [(aM, .inr (6, [.ref aG, .ref aE, .ref aTh, .ref aA, .ref aD, .ref aQ, .ref aW, .ref aH, .ref aWh, .ref aGv, .ref aMk, .ref aRw, .ref aWo, .int (bz md), .int (nI tm), .int (nI rs), .int (nI tk), .int (nI pb), .int (nI gn), .int (nI un)])), (aRw, .inl (X.1.2.1, N, .inl (nO r1))), (aH, .inr (3, [.long (nx x1)]))]
        have hj9 : hb (nx x1) % (k - 1 + 1) < k - 1 + 1 := Nat.mod_lt _ (by omega)
        refine r_istore_n C dX5_mixRow_19 rfl (by decide) [1, 2, 0] (lv' := [(0, .ref aM), (2, .int (nI (k - 1))), (3, .int (nI (hb (nx x1) % ((k - 1) + 1))))]) rfl ?_
        refine r_aload_n C dX5_mixRow_20 0 rfl rfl ?_
        refine r_get C dX5_mixRow_21 iX5_mixRow_X5 11 fX5_mixRow_95 0 rfl rfl (by decide) rfl ?_
        refine r_iload_n C dX5_mixRow_24 1 rfl rfl ?_
        refine r_iald C dX5_mixRow_25 1 rfl (by omega) (by omega) ?_
        show RW X 0 0 26 [(0, .ref aM), (2, .int (nI (k - 1))), (3, .int (nI (hb (nx x1) % ((k - 1) + 1))))] [.int (nI (r1 (k - 1)))] [(aM, .inr (6, [.ref aG, .ref aE, .ref aTh, .ref aA, .ref aD, .ref aQ, .ref aW, .ref aH, .ref aWh, .ref aGv, .ref aMk, .ref aRw, .ref aWo, .int (bz md), .int (nI tm), .int (nI rs), .int (nI tk), .int (nI pb), .int (nI gn), .int (nI un)])), (aRw, .inl (X.1.2.1, N, .inl (nO r1))), (aH, .inr (3, [.long (nx x1)]))]
        refine r_istore C dX5_mixRow_26 (by decide) [1, 2, 3, 0] (lv' := [(0, .ref aM), (2, .int (nI (k - 1))), (3, .int (nI (hb (nx x1) % ((k - 1) + 1)))), (4, .int (nI (r1 (k - 1))))]) rfl ?_
        refine r_aload_n C dX5_mixRow_28 0 rfl rfl ?_
        refine r_get C dX5_mixRow_29 iX5_mixRow_X5 11 fX5_mixRow_95 0 rfl rfl (by decide) rfl ?_
        refine r_iload_n C dX5_mixRow_32 1 rfl rfl ?_
        refine r_aload_n C dX5_mixRow_33 0 rfl rfl ?_
        refine r_get C dX5_mixRow_34 iX5_mixRow_X5 11 fX5_mixRow_95 0 rfl rfl (by decide) rfl ?_
        refine r_iload_n C dX5_mixRow_37 2 rfl rfl ?_
        refine r_iald C dX5_mixRow_38 1 rfl (by omega) (by omega) ?_
        show RW X 0 0 39 [(0, .ref aM), (2, .int (nI (k - 1))), (3, .int (nI (hb (nx x1) % ((k - 1) + 1)))), (4, .int (nI (r1 (k - 1))))] [.int (nI (r1 (hb (nx x1) % ((k - 1) + 1)))), .int (nI (k - 1)), .ref aRw] [(aM, .inr (6, [.ref aG, .ref aE, .ref aTh, .ref aA, .ref aD, .ref aQ, .ref aW, .ref aH, .ref aWh, .ref aGv, .ref aMk, .ref aRw, .ref aWo, .int (bz md), .int (nI tm), .int (nI rs), .int (nI tk), .int (nI pb), .int (nI gn), .int (nI un)])), (aRw, .inl (X.1.2.1, N, .inl (nO r1))), (aH, .inr (3, [.long (nx x1)]))]
        refine r_iast C dX5_mixRow_39 1 rfl (by omega) (by omega) (ws' := [(aM, .inr (6, [.ref aG, .ref aE, .ref aTh, .ref aA, .ref aD, .ref aQ, .ref aW, .ref aH, .ref aWh, .ref aGv, .ref aMk, .ref aRw, .ref aWo, .int (bz md), .int (nI tm), .int (nI rs), .int (nI tk), .int (nI pb), .int (nI gn), .int (nI un)])), (aRw, .inl (X.1.2.1, N, .inl (upd (nO r1) (k - 1) (nI (r1 (hb (nx x1) % ((k - 1) + 1))))))), (aH, .inr (3, [.long (nx x1)]))]) rfl ?_
        refine r_aload_n C dX5_mixRow_40 0 rfl rfl ?_
        refine r_get C dX5_mixRow_41 iX5_mixRow_X5 11 fX5_mixRow_95 0 rfl rfl (by decide) rfl ?_
        refine r_iload_n C dX5_mixRow_44 2 rfl rfl ?_
        refine r_iload C dX5_mixRow_45 3 rfl ?_
        refine r_iast C dX5_mixRow_47 1 rfl (by omega) (by omega) (ws' := [(aM, .inr (6, [.ref aG, .ref aE, .ref aTh, .ref aA, .ref aD, .ref aQ, .ref aW, .ref aH, .ref aWh, .ref aGv, .ref aMk, .ref aRw, .ref aWo, .int (bz md), .int (nI tm), .int (nI rs), .int (nI tk), .int (nI pb), .int (nI gn), .int (nI un)])), (aRw, .inl (X.1.2.1, N, .inl (upd (upd (nO r1) (k - 1) (nI (r1 (hb (nx x1) % ((k - 1) + 1))))) (hb (nx x1) % ((k - 1) + 1)) (nI (r1 (k - 1)))))), (aH, .inr (3, [.long (nx x1)]))]) rfl ?_
        rw [nO_u, nO_u]
        show RW X 0 0 48 [(0, .ref aM), (2, .int (nI (k - 1))), (3, .int (nI (hb (nx x1) % ((k - 1) + 1)))), (4, .int (nI (r1 (k - 1))))] [] [(aM, .inr (6, [.ref aG, .ref aE, .ref aTh, .ref aA, .ref aD, .ref aQ, .ref aW, .ref aH, .ref aWh, .ref aGv, .ref aMk, .ref aRw, .ref aWo, .int (bz md), .int (nI tm), .int (nI rs), .int (nI tk), .int (nI pb), .int (nI gn), .int (nI un)])), (aRw, .inl (X.1.2.1, N, .inl (nO (uO (uO r1 (k - 1) (r1 (hb (nx x1) % (k - 1 + 1)))) (hb (nx x1) % (k - 1 + 1)) (r1 (k - 1)))))), (aH, .inr (3, [.long (nx x1)]))]
        refine r_iinc C dX5_mixRow_48 1 rfl (v := nI (k - 1) - nI 1) (i32_m1 _) (by decide) [1, 0, 2, 3] (lv' := [(0, .ref aM), (2, .int (nI (k - 1) - nI 1)), (3, .int (nI (hb (nx x1) % ((k - 1) + 1)))), (4, .int (nI (r1 (k - 1))))]) rfl ?_
        refine r_goto (tgt := 4) C dX5_mixRow_51 (by decide) ?_
        refine r_lv [0, 1] (lv' := [(0, .ref aM), (2, .int (nI (k - 1) - nI 1))]) rfl ?_
        exact ih4 (k - 1) (nx x1) (uO (uO r1 (k - 1) (r1 (hb (nx x1) % (k - 1 + 1)))) (hb (nx x1) % (k - 1 + 1)) (r1 (k - 1))) (by omega) (by omega) (by rw [hF, show k - 1 = (k - 1 - 1) + 1 by omega, mixF, show k - 1 - 1 + 1 + 1 = k - 1 + 1 by omega, show k - 1 - 1 + 1 = k - 1 by omega])
  refine r_lv [0, 2] (lv' := [(0, .ref aM), (2, .int (nI ln - nI 1))]) rfl ?_
  exact L4 (ln + 1) ln x ro (Nat.lt_succ_self _) (Nat.le_refl _) rfl
