theorem okB_none (n N : Nat) : okB n N (fun _ => none) := ⟨fun _ _ e => (by cases e), fun _ _ _ _ _ _ _ e => (by cases e)⟩
theorem rdF_len {n N len k c : Nat} {ty : Nat → Nat} {b : Nat → Option Nat} (h : len ≤ c) : rdF n N ty len (k + 1) c b = (some c, b) := by rw [rdF, if_pos h]
theorem rdF_no {n N len k c : Nat} {ty : Nat → Nat} {b : Nat → Option Nat} (h : ¬ len ≤ c) (e : rdB n N b c (ty c) = none) : rdF n N ty len (k + 1) c b = (some c, b) := by rw [rdF, if_neg h, e]
theorem rdF_s {n N len k c : Nat} {ty : Nat → Nat} {b b' : Nat → Option Nat} (h : ¬ len ≤ c) (e : rdB n N b c (ty c) = some b') : rdF n N ty len (k + 1) c b = rdF n N ty len k (c + 1) b' := by rw [rdF, if_neg h, e]
theorem rdB_keep {n N c t d : Nat} {b b' : Nat → Option Nat} (h : rdB n N b c t = some b') (hd : d ≠ c) (h0 : b d = none) : b' d = none := by
  unfold rdB at h
  by_cases e : t = 46
  · rw [if_pos e] at h; cases h; exact h0
  · rw [if_neg e] at h
    by_cases q : 49 ≤ t ∧ mayP n N b c (t - 49)
    · rw [if_pos q] at h; cases h; rw [ub_n hd]; exact h0
    · rw [if_neg q] at h; cases h
def tiP (n N : Nat) (b : Nat → Option Nat) (i be fw : Nat) : Prop := (fw = 2147483647 ∧ ∀ d, d < i → b d ≠ none) ∨ (be < i ∧ b be = none ∧ fw = wy n N b be ∧ (∀ d, d < i → b d = none → fw ≤ wy n N b d) ∧ ∀ d, d < be → b d = none → fw < wy n N b d)
theorem tiP_full {n N i be fw : Nat} {b : Nat → Option Nat} (h : tiP n N b i be fw) (hb : b i ≠ none) : tiP n N b (i + 1) be fw := by
  have k : ∀ (P : Nat → Prop), (∀ d, d < i → b d = none → P d) → ∀ d, d < i + 1 → b d = none → P d := fun P h d q e => by
    by_cases w : d = i
    · rw [w] at e; exact absurd e hb
    · exact h d (by omega) e
  rcases h with ⟨h1, h2⟩ | ⟨h1, h2, h3, h4, h5⟩
  · exact Or.inl ⟨h1, fun d q => by
      by_cases w : d = i
      · rw [w]; exact hb
      · exact h2 d (by omega)⟩
  · exact Or.inr ⟨by omega, h2, h3, k _ h4, h5⟩
theorem tiP_old {n N i be fw : Nat} {b : Nat → Option Nat} (h : tiP n N b i be fw) (hw : fw ≤ wy n N b i) : tiP n N b (i + 1) be fw := by
  rcases h with ⟨h1, h2⟩ | ⟨h1, h2, h3, h4, h5⟩
  · have := wy_le n N b i; omega
  · exact Or.inr ⟨by omega, h2, h3, fun d q e => by
      by_cases w : d = i
      · rw [w]; exact hw
      · exact h4 d (by omega) e, h5⟩
theorem tiP_new {n N i be fw : Nat} {b : Nat → Option Nat} (h : tiP n N b i be fw) (hb : b i = none) (hw : wy n N b i < fw) : tiP n N b (i + 1) i (wy n N b i) := by
  have k : ∀ d, d < i → b d = none → wy n N b i < wy n N b d := by
    rcases h with ⟨h1, h2⟩ | ⟨h1, h2, h3, h4, h5⟩
    · exact fun d q e => absurd e (h2 d q)
    · exact fun d q e => by have := h4 d q e; omega
  exact Or.inr ⟨by omega, hb, rfl, fun d q e => by
    by_cases w : d = i
    · rw [w]; exact Nat.le_refl _
    · exact Nat.le_of_lt (k d (by omega) e), k⟩
theorem tiP_end {n N be fw : Nat} {b : Nat → Option Nat} (h : tiP n N b N be fw) (hx : ∃ c, c < N ∧ b c = none) : isBest n N b be := by
  rcases h with ⟨h1, h2⟩ | ⟨h1, h2, h3, h4, h5⟩
  · obtain ⟨c, q1, q2⟩ := hx
    exact absurd q2 (h2 c q1)
  · subst h3; exact ⟨h1, h2, h4, h5⟩
theorem fX9_read_7 : Cond.fieldLink RX9 7 (TX9 3).1 (TX9 3).2.1 (TX9 3).2.2.1 ∈ wsX9_read := List.mem_of_getElem? (i := 1) rfl
theorem iX9_read_X9 : ∀ w ∈ wsX90, w ∈ wsX9_read := by decide +kernel
theorem fX9_read_22 : Cond.fieldLink RX9 22 (TX9 1).1 (TX9 1).2.1 (TX9 1).2.2.1 ∈ wsX9_read := List.mem_of_getElem? (i := 2) rfl
theorem fX9_read_13 : Cond.fieldLink RX9 13 (TX9 0).1 (TX9 0).2.1 (TX9 0).2.2.1 ∈ wsX9_read := List.mem_of_getElem? (i := 3) rfl
theorem fX9_read_37 : Cond.fieldLink RX9 37 (TX4 1).1 (TX4 1).2.1 (TX4 1).2.2.1 ∈ wsX9_read := List.mem_of_getElem? (i := 4) rfl
theorem iX9_read_X4 : ∀ w ∈ wsX40, w ∈ wsX9_read := by decide +kernel
theorem fX9_read_26 : Cond.fieldLink RX9 26 (TX9 2).1 (TX9 2).2.1 (TX9 2).2.2.1 ∈ wsX9_read := List.mem_of_getElem? (i := 5) rfl
set_option maxHeartbeats 4000000 in
set_option maxRecDepth 100000 in
theorem c_X9_read {g : ww_G} {l : Launch} {n : Nat} {N : Nat} {aG : Nat} {gr : Nat} {gc : Nat} {gb : Nat} {gu : Nat} {aB : Nat} {aS : Nat} {aR : Nat} {aC : Nat} {aX : Nat} {b : Nat → Option Nat} {aT : Nat} {aY : Nat} {len : Nat} {ty : Nat → Nat} (hn : (n = 4 ∧ N = 16) ∨ (n = 6 ∧ N = 36)) (hlen : len ≤ 60) (hty : ∀ j, ty j < 1073741824) : CT g l yX9_read wsX9_read (ww_rm 4) [.ref aT] ([(aT, .inr (10, [.ref aG, .ref aB, .ref aY, .int (nI len), .ref aS])), (aY, .inl (g.2.1, 60, .inl (nO ty))), (aG, .inr (5, [.int (nI n), .int (nI N), .int (nI (2 ^ n - 1)), .ref gr, .ref gc, .ref gb, .ref gu])), (gr, .inl (g.2.1, N, .inl (gR n))), (gc, .inl (g.2.1, N, .inl (gC n))), (gb, .inl (g.2.1, N, .inl (gB n))), (aB, .inr (2, [.ref aG, .ref aS, .ref aR, .ref aC, .ref aX])), (aS, .inl (g.2.1, N, .inl (eb b))), (aR, .inl (g.2.1, n, .inl (mR n N b))), (aC, .inl (g.2.1, n, .inl (mC n N b))), (aX, .inl (g.2.1, n, .inl (mB n N b)))]) (S := Unit) (fun v u => v = some (.int (eo (rdF n N ty len N 0 (fun _ => none)).1))) (fun u => [(aT, .inr (10, [.ref aG, .ref aB, .ref aY, .int (nI 0), .ref aS])), (aY, .inl (g.2.1, 60, .inl (nO ty))), (aG, .inr (5, [.int (nI n), .int (nI N), .int (nI (2 ^ n - 1)), .ref gr, .ref gc, .ref gb, .ref gu])), (gr, .inl (g.2.1, N, .inl (gR n))), (gc, .inl (g.2.1, N, .inl (gC n))), (gb, .inl (g.2.1, N, .inl (gB n))), (aB, .inr (2, [.ref aG, .ref aS, .ref aR, .ref aC, .ref aX])), (aS, .inl (g.2.1, N, .inl (eb ((rdF n N ty len N 0 (fun _ => none)).2)))), (aR, .inl (g.2.1, n, .inl (mR n N ((rdF n N ty len N 0 (fun _ => none)).2)))), (aC, .inl (g.2.1, n, .inl (mC n N ((rdF n N ty len N 0 (fun _ => none)).2)))), (aX, .inl (g.2.1, n, .inl (mB n N ((rdF n N ty len N 0 (fun _ => none)).2))))]) := by
  refine CT.of cX9_read 3 (some .int) RX9 (by decide +kernel) rfl rfl (Nat.le_of_ble_eq_true rfl) ?_
  intro X hg hl C hret
  subst hg; subst hl
  show RW X 0 0 0 [(0, .ref aT)] [] [(aT, .inr (10, [.ref aG, .ref aB, .ref aY, .int (nI len), .ref aS])), (aY, .inl (X.1.2.1, 60, .inl (nO ty))), (aG, .inr (5, [.int (nI n), .int (nI N), .int (nI (2 ^ n - 1)), .ref gr, .ref gc, .ref gb, .ref gu])), (gr, .inl (X.1.2.1, N, .inl (gR n))), (gc, .inl (X.1.2.1, N, .inl (gC n))), (gb, .inl (X.1.2.1, N, .inl (gB n))), (aB, .inr (2, [.ref aG, .ref aS, .ref aR, .ref aC, .ref aX])), (aS, .inl (X.1.2.1, N, .inl (eb b))), (aR, .inl (X.1.2.1, n, .inl (mR n N b))), (aC, .inl (X.1.2.1, n, .inl (mC n N b))), (aX, .inl (X.1.2.1, n, .inl (mB n N b)))]
  refine r_aload_n C dX9_read_0 0 rfl rfl ?_
  refine r_get C dX9_read_1 iX9_read_X9 3 fX9_read_7 0 rfl rfl (by decide) rfl ?_
  refine r_istore_n C dX9_read_4 rfl (by decide) [1, 0] (lv' := [(0, .ref aT), (1, .int (nI len))]) rfl ?_
  refine r_aload_n C dX9_read_5 0 rfl rfl ?_
  refine r_iconst C dX9_read_6 (v := nI 0) (by decide) ?_
  refine r_put C dX9_read_7 iX9_read_X9 tyX9 tyX9_ok nmX9 3 fX9_read_7 0 rfl rfl (by decide) rfl rfl rfl rfl (Nat.le_of_ble_eq_true rfl) (ws' := [(aT, .inr (10, [.ref aG, .ref aB, .ref aY, .int (nI 0), .ref aS])), (aY, .inl (X.1.2.1, 60, .inl (nO ty))), (aG, .inr (5, [.int (nI n), .int (nI N), .int (nI (2 ^ n - 1)), .ref gr, .ref gc, .ref gb, .ref gu])), (gr, .inl (X.1.2.1, N, .inl (gR n))), (gc, .inl (X.1.2.1, N, .inl (gC n))), (gb, .inl (X.1.2.1, N, .inl (gB n))), (aB, .inr (2, [.ref aG, .ref aS, .ref aR, .ref aC, .ref aX])), (aS, .inl (X.1.2.1, N, .inl (eb b))), (aR, .inl (X.1.2.1, n, .inl (mR n N b))), (aC, .inl (X.1.2.1, n, .inl (mC n N b))), (aX, .inl (X.1.2.1, n, .inl (mB n N b)))]) rfl ?_
  refine r_aload_n C dX9_read_10 0 rfl rfl ?_
  refine r_get C dX9_read_11 iX9_read_X9 1 fX9_read_22 0 rfl rfl (by decide) rfl ?_
  refine r_callV0 (n := 0) (ws' := fun u => [(aT, .inr (10, [.ref aG, .ref aB, .ref aY, .int (nI 0), .ref aS])), (aY, .inl (X.1.2.1, 60, .inl (nO ty))), (aG, .inr (5, [.int (nI n), .int (nI N), .int (nI (2 ^ n - 1)), .ref gr, .ref gc, .ref gb, .ref gu])), (gr, .inl (X.1.2.1, N, .inl (gR n))), (gc, .inl (X.1.2.1, N, .inl (gC n))), (gb, .inl (X.1.2.1, N, .inl (gB n))), (aB, .inr (2, [.ref aG, .ref aS, .ref aR, .ref aC, .ref aX])), (aS, .inl (X.1.2.1, N, .inl (eb (fun _ => none)))), (aR, .inl (X.1.2.1, n, .inl (mR n N (fun _ => none)))), (aC, .inl (X.1.2.1, n, .inl (mC n N (fun _ => none)))), (aX, .inl (X.1.2.1, n, .inl (mB n N (fun _ => none))))]) C dX9_read_14 (c_X1_clear (g := X.1) (l := X.2.2.1) (n := n) (N := N) (aG := aG) (gr := gr) (gc := gc) (gb := gb) (gu := gu) (aB := aB) (aS := aS) (aR := aR) (aC := aC) (aX := aX) (f := eb b) (fR := mR n N b) (fC := mC n N b) (fB := mB n N b) (hn := (by first | assumption | omega))) gX9_read_X1_clear rfl (by decide +kernel) rfl ⟨Nat.le_of_ble_eq_true rfl, Nat.le_of_ble_eq_true rfl⟩ ⟨rfl, rfl⟩ ⟨Nat.zero_le _, Nat.zero_le _⟩ (rest := []) rfl (Nat.le_of_ble_eq_true rfl) 4 rfl rfl [2, 3, 4, 5, 6, 7, 8, 9, 10] (by decide) rfl (fun u => Eq.trans (b := [aG, gr, gc, gb, aB, aS, aR, aC, aX]) rfl rfl) (fun u => rfl) (fun v u hp => ?_)
  obtain rfl := hp
  show RW X 0 0 17 [(0, .ref aT), (1, .int (nI len))] [] [(aT, .inr (10, [.ref aG, .ref aB, .ref aY, .int (nI 0), .ref aS])), (aY, .inl (X.1.2.1, 60, .inl (nO ty))), (aG, .inr (5, [.int (nI n), .int (nI N), .int (nI (2 ^ n - 1)), .ref gr, .ref gc, .ref gb, .ref gu])), (gr, .inl (X.1.2.1, N, .inl (gR n))), (gc, .inl (X.1.2.1, N, .inl (gC n))), (gb, .inl (X.1.2.1, N, .inl (gB n))), (aB, .inr (2, [.ref aG, .ref aS, .ref aR, .ref aC, .ref aX])), (aS, .inl (X.1.2.1, N, .inl (eb (fun _ => none)))), (aR, .inl (X.1.2.1, n, .inl (mR n N (fun _ => none)))), (aC, .inl (X.1.2.1, n, .inl (mC n N (fun _ => none)))), (aX, .inl (X.1.2.1, n, .inl (mB n N (fun _ => none))))]
  refine r_iconst C dX9_read_17 (v := nI 0) (by decide) ?_
  refine r_istore_n C dX9_read_18 rfl (by decide) [1, 2, 0] (lv' := [(0, .ref aT), (1, .int (nI len)), (2, .int (nI 0))]) rfl ?_
  have L19 : ∀ (d19 : Nat) (c : Nat) (b1 : Nat → Option Nat), (N - c) < d19 → (c ≤ N) → (rdF n N ty len N 0 (fun _ => none) = rdF n N ty len (N - c) c b1) → (∀ d, c ≤ d → b1 d = none) → RW X 0 0 19 [(0, .ref aT), (1, .int (nI len)), (2, .int (nI c))] [] [(aT, .inr (10, [.ref aG, .ref aB, .ref aY, .int (nI 0), .ref aS])), (aY, .inl (X.1.2.1, 60, .inl (nO ty))), (aG, .inr (5, [.int (nI n), .int (nI N), .int (nI (2 ^ n - 1)), .ref gr, .ref gc, .ref gb, .ref gu])), (gr, .inl (X.1.2.1, N, .inl (gR n))), (gc, .inl (X.1.2.1, N, .inl (gC n))), (gb, .inl (X.1.2.1, N, .inl (gB n))), (aB, .inr (2, [.ref aG, .ref aS, .ref aR, .ref aC, .ref aX])), (aS, .inl (X.1.2.1, N, .inl (eb b1))), (aR, .inl (X.1.2.1, n, .inl (mR n N b1))), (aC, .inl (X.1.2.1, n, .inl (mC n N b1))), (aX, .inl (X.1.2.1, n, .inl (mB n N b1)))] := by
    intro d19
    induction d19 with
    | zero => intro c b1 hd19; exact absurd hd19 (Nat.not_lt_zero _)
    | succ d19 ih19 =>
      intro c b1 hd19 hc hF hb1
      refine r_iload_n C dX9_read_19 2 rfl rfl ?_
      refine r_aload_n C dX9_read_20 0 rfl rfl ?_
      refine r_get C dX9_read_21 iX9_read_X9 0 fX9_read_13 0 rfl rfl (by decide) rfl ?_
      refine r_get C dX9_read_24 iX9_read_X4 1 fX9_read_37 2 rfl rfl (by decide) rfl ?_
      refine r_icmp_ge (tgt := 57) C dX9_read_27 (by decide) (fun h27 => ?_) (fun h27 => ?_)
      · have h27 : N ≤ c := (nI_leI (by omega) (by omega)).mp h27
        refine r_iload_n C dX9_read_57 1 rfl rfl ?_
        refine r_aload_n C dX9_read_58 0 rfl rfl ?_
        refine r_get C dX9_read_59 iX9_read_X9 0 fX9_read_13 0 rfl rfl (by decide) rfl ?_
        refine r_get C dX9_read_62 iX9_read_X4 1 fX9_read_37 2 rfl rfl (by decide) rfl ?_
        refine r_icmp_le (tgt := 78) C dX9_read_65 (by decide) (fun h65 => ?_) (fun h65 => ?_)
        · have h65 : len ≤ N := (nI_leI (by omega) (by omega)).mp h65
          refine r_iconst C dX9_read_78 (v := (-1)) (by decide) ?_
          have hcN : c = N := by omega
          have hF0 : rdF n N ty len N 0 (fun _ => none) = (none, b1) := by
            rw [hF, hcN, Nat.sub_self]; show (if N < len then some N else none, b1) = _; rw [if_neg (by omega)]
          rw [hF0] at hret
          exact hret _ _ _ () rfl (Or.inr ⟨_, rfl, dX9_read_79, Or.inl rfl⟩)
        · have h65 : ¬ (len ≤ N) := fun e9 => h65 ((nI_leI (by omega) (by omega)).mpr e9)
          refine r_aload_n C dX9_read_68 0 rfl rfl ?_
          refine r_get C dX9_read_69 iX9_read_X9 0 fX9_read_13 0 rfl rfl (by decide) rfl ?_
          refine r_get C dX9_read_72 iX9_read_X4 1 fX9_read_37 2 rfl rfl (by decide) rfl ?_
          refine r_goto (tgt := 79) C dX9_read_75 (by decide) ?_
          have hcN : c = N := by omega
          have hF0 : rdF n N ty len N 0 (fun _ => none) = (some N, b1) := by
            rw [hF, hcN, Nat.sub_self]; show (if N < len then some N else none, b1) = _; rw [if_pos (by omega)]
          rw [hF0] at hret
          exact hret _ _ _ () rfl (Or.inr ⟨_, rfl, dX9_read_79, Or.inl rfl⟩)
      · have h27 : ¬ (N ≤ c) := fun e9 => h27 ((nI_leI (by omega) (by omega)).mpr e9)
        refine r_iload_n C dX9_read_30 2 rfl rfl ?_
        refine r_iload_n C dX9_read_31 1 rfl rfl ?_
        refine r_icmp_ge (tgt := 49) C dX9_read_32 (by decide) (fun h32 => ?_) (fun h32 => ?_)
        · have h32 : len ≤ c := (nI_leI (by omega) (by omega)).mp h32
          refine r_iload_n C dX9_read_49 2 rfl rfl ?_
          have hF0 : rdF n N ty len N 0 (fun _ => none) = (some c, b1) := by
            rw [hF, show N - c = (N - (c + 1)) + 1 by omega]; exact rdF_len h32
          rw [hF0] at hret
          exact hret _ _ _ () rfl (Or.inr ⟨_, rfl, dX9_read_50, Or.inl rfl⟩)
        · have h32 : ¬ (len ≤ c) := fun e9 => h32 ((nI_leI (by omega) (by omega)).mpr e9)
          refine r_aload_n C dX9_read_35 0 rfl rfl ?_
          refine r_iload_n C dX9_read_36 2 rfl rfl ?_
          refine r_aload_n C dX9_read_37 0 rfl rfl ?_
          refine r_get C dX9_read_38 iX9_read_X9 2 fX9_read_26 0 rfl rfl (by decide) rfl ?_
          refine r_iload_n C dX9_read_41 2 rfl rfl ?_
          refine r_iald C dX9_read_42 1 rfl (by omega) (by omega) ?_
          show RW X 0 0 43 [(0, .ref aT), (1, .int (nI len)), (2, .int (nI c))] [.int (nI (ty c)), .int (nI c), .ref aT] [(aT, .inr (10, [.ref aG, .ref aB, .ref aY, .int (nI 0), .ref aS])), (aY, .inl (X.1.2.1, 60, .inl (nO ty))), (aG, .inr (5, [.int (nI n), .int (nI N), .int (nI (2 ^ n - 1)), .ref gr, .ref gc, .ref gb, .ref gu])), (gr, .inl (X.1.2.1, N, .inl (gR n))), (gc, .inl (X.1.2.1, N, .inl (gC n))), (gb, .inl (X.1.2.1, N, .inl (gB n))), (aB, .inr (2, [.ref aG, .ref aS, .ref aR, .ref aC, .ref aX])), (aS, .inl (X.1.2.1, N, .inl (eb b1))), (aR, .inl (X.1.2.1, n, .inl (mR n N b1))), (aC, .inl (X.1.2.1, n, .inl (mC n N b1))), (aX, .inl (X.1.2.1, n, .inl (mB n N b1)))]
          refine r_callV0 (n := 2) (ws' := fun u => [(aT, .inr (10, [.ref aG, .ref aB, .ref aY, .int (nI 0), .ref aS])), (aY, .inl (X.1.2.1, 60, .inl (nO ty))), (aG, .inr (5, [.int (nI n), .int (nI N), .int (nI (2 ^ n - 1)), .ref gr, .ref gc, .ref gb, .ref gu])), (gr, .inl (X.1.2.1, N, .inl (gR n))), (gc, .inl (X.1.2.1, N, .inl (gC n))), (gb, .inl (X.1.2.1, N, .inl (gB n))), (aB, .inr (2, [.ref aG, .ref aS, .ref aR, .ref aC, .ref aX])), (aS, .inl (X.1.2.1, N, .inl (eb u))), (aR, .inl (X.1.2.1, n, .inl (mR n N u))), (aC, .inl (X.1.2.1, n, .inl (mC n N u))), (aX, .inl (X.1.2.1, n, .inl (mB n N u)))]) C dX9_read_43 (c_X9_readByte (g := X.1) (l := X.2.2.1) (n := n) (N := N) (aG := aG) (gr := gr) (gc := gc) (gb := gb) (gu := gu) (aB := aB) (aS := aS) (aR := aR) (aC := aC) (aX := aX) (b := b1) (aT := aT) (aY := aY) (len := 0) (ty := ty) (c := c) (t := ty c) (hn := (by first | assumption | omega)) (hc := (by omega)) (h0 := (hb1 c (Nat.le_refl c))) (ht := (hty c))) gX9_read_X9_readByte rfl (by decide +kernel) rfl ⟨Nat.le_of_ble_eq_true rfl, Nat.le_of_ble_eq_true rfl⟩ ⟨rfl, rfl⟩ ⟨Nat.zero_le _, Nat.zero_le _⟩ (rest := []) rfl (Nat.le_of_ble_eq_true rfl) 0 rfl rfl [0, 1, 2, 3, 4, 5, 6, 7, 8, 9, 10] (by decide) rfl (fun u => Eq.trans (b := [aT, aY, aG, gr, gc, gb, aB, aS, aR, aC, aX]) rfl rfl) (fun u => rfl) (fun v u hp => ?_)
          obtain ⟨b9, rfl⟩ : ∃ z, z = u := ⟨_, rfl⟩
          obtain ⟨rfl, p43_0⟩ := hp
          show RW X 0 0 46 [(0, .ref aT), (1, .int (nI len)), (2, .int (nI c))] [.int (bz (rdB n N b1 c (ty c) ≠ none))] [(aT, .inr (10, [.ref aG, .ref aB, .ref aY, .int (nI 0), .ref aS])), (aY, .inl (X.1.2.1, 60, .inl (nO ty))), (aG, .inr (5, [.int (nI n), .int (nI N), .int (nI (2 ^ n - 1)), .ref gr, .ref gc, .ref gb, .ref gu])), (gr, .inl (X.1.2.1, N, .inl (gR n))), (gc, .inl (X.1.2.1, N, .inl (gC n))), (gb, .inl (X.1.2.1, N, .inl (gB n))), (aB, .inr (2, [.ref aG, .ref aS, .ref aR, .ref aC, .ref aX])), (aS, .inl (X.1.2.1, N, .inl (eb b9))), (aR, .inl (X.1.2.1, n, .inl (mR n N b9))), (aC, .inl (X.1.2.1, n, .inl (mC n N b9))), (aX, .inl (X.1.2.1, n, .inl (mB n N b9)))]
          refine r_if_ne (tgt := 51) C dX9_read_46 (by decide) (fun h46 => ?_) (fun h46 => ?_)
          · have h46 : rdB n N b1 c (ty c) ≠ none := bz_n0.mp h46
            refine r_iinc C dX9_read_51 2 rfl (v := nI (c + 1)) (nI_add _ _) (by decide) [1, 2, 0] (lv' := [(0, .ref aT), (1, .int (nI len)), (2, .int (nI (c + 1)))]) rfl ?_
            refine r_goto (tgt := 19) C dX9_read_54 (by decide) ?_
            obtain ⟨b2, hb2⟩ : ∃ z, rdB n N b1 c (ty c) = some z := Option.ne_none_iff_exists'.mp h46
            have hb9 : b9 = b2 := by rw [p43_0, hb2]; rfl
            exact ih19 (c + 1) b9 (by omega) (by omega) (by rw [hF, show N - c = (N - (c + 1)) + 1 by omega, hb9]; exact rdF_s h32 hb2) (fun d q => by rw [hb9]; exact rdB_keep hb2 (by omega) (hb1 d (by omega)))
          · have h46 : ¬ (rdB n N b1 c (ty c) ≠ none) := bz_0.mp h46
            refine r_iload_n C dX9_read_49 2 rfl rfl ?_
            have hno : rdB n N b1 c (ty c) = none := Classical.byContradiction h46
            have hb9 : b9 = b1 := by rw [p43_0, hno]; rfl
            have hF0 : rdF n N ty len N 0 (fun _ => none) = (some c, b9) := by
              rw [hF, hb9, show N - c = (N - (c + 1)) + 1 by omega]; exact rdF_no h32 hno
            rw [hF0] at hret
            exact hret _ _ _ () rfl (Or.inr ⟨_, rfl, dX9_read_50, Or.inl rfl⟩)
  exact L19 ((N - 0) + 1) 0 (fun _ => none) (Nat.lt_succ_self _) (Nat.zero_le _) rfl (fun _ _ => rfl)
theorem kX3_tightest_61 : Cond.constant RX3 61 (2147483647) ∈ wsX3_tightest := List.mem_of_getElem? (i := 1) rfl
theorem fX3_tightest_7 : Cond.fieldLink RX3 7 (TX3 0).1 (TX3 0).2.1 (TX3 0).2.2.1 ∈ wsX3_tightest := List.mem_of_getElem? (i := 2) rfl
theorem iX3_tightest_X3 : ∀ w ∈ wsX30, w ∈ wsX3_tightest := by decide +kernel
theorem fX3_tightest_29 : Cond.fieldLink RX3 29 (TX4 1).1 (TX4 1).2.1 (TX4 1).2.2.1 ∈ wsX3_tightest := List.mem_of_getElem? (i := 3) rfl
theorem iX3_tightest_X4 : ∀ w ∈ wsX40, w ∈ wsX3_tightest := by decide +kernel
theorem fX3_tightest_22 : Cond.fieldLink RX3 22 (TX3 2).1 (TX3 2).2.1 (TX3 2).2.2.1 ∈ wsX3_tightest := List.mem_of_getElem? (i := 4) rfl
set_option maxHeartbeats 4000000 in
set_option maxRecDepth 100000 in
theorem c_X3_tightest {g : ww_G} {l : Launch} {n : Nat} {N : Nat} {aG : Nat} {gr : Nat} {gc : Nat} {gb : Nat} {gu : Nat} {aB : Nat} {aS : Nat} {aR : Nat} {aC : Nat} {aX : Nat} {b : Nat → Option Nat} {aD : Nat} {aH : Nat} {x : Int64} (hn : (n = 4 ∧ N = 16) ∨ (n = 6 ∧ N = 36)) (hex : ∃ c, c < N ∧ b c = none) (hok : ∀ c v, b c = some v → v < n) : CT g l yX3_tightest wsX3_tightest (ww_rm 2) [.ref aD] ([(aD, .inr (4, [.ref aG, .ref aH, .ref aB])), (aH, .inr (3, [.long x])), (aG, .inr (5, [.int (nI n), .int (nI N), .int (nI (2 ^ n - 1)), .ref gr, .ref gc, .ref gb, .ref gu])), (gr, .inl (g.2.1, N, .inl (gR n))), (gc, .inl (g.2.1, N, .inl (gC n))), (gb, .inl (g.2.1, N, .inl (gB n))), (aB, .inr (2, [.ref aG, .ref aS, .ref aR, .ref aC, .ref aX])), (aS, .inl (g.2.1, N, .inl (eb b))), (aR, .inl (g.2.1, n, .inl (mR n N b))), (aC, .inl (g.2.1, n, .inl (mC n N b))), (aX, .inl (g.2.1, n, .inl (mB n N b)))]) (S := Nat) (fun v u => v = some (.int (nI u)) ∧ (isBest n N b u)) (fun u => [(aD, .inr (4, [.ref aG, .ref aH, .ref aB])), (aH, .inr (3, [.long x])), (aG, .inr (5, [.int (nI n), .int (nI N), .int (nI (2 ^ n - 1)), .ref gr, .ref gc, .ref gb, .ref gu])), (gr, .inl (g.2.1, N, .inl (gR n))), (gc, .inl (g.2.1, N, .inl (gC n))), (gb, .inl (g.2.1, N, .inl (gB n))), (aB, .inr (2, [.ref aG, .ref aS, .ref aR, .ref aC, .ref aX])), (aS, .inl (g.2.1, N, .inl (eb b))), (aR, .inl (g.2.1, n, .inl (mR n N b))), (aC, .inl (g.2.1, n, .inl (mC n N b))), (aX, .inl (g.2.1, n, .inl (mB n N b)))]) := by
  refine CT.of cX3_tightest 5 (some .int) RX3 (by decide +kernel) rfl rfl (Nat.le_of_ble_eq_true rfl) ?_
  intro X hg hl C hret
  subst hg; subst hl
  show RW X 0 0 0 [(0, .ref aD)] [] [(aD, .inr (4, [.ref aG, .ref aH, .ref aB])), (aH, .inr (3, [.long x])), (aG, .inr (5, [.int (nI n), .int (nI N), .int (nI (2 ^ n - 1)), .ref gr, .ref gc, .ref gb, .ref gu])), (gr, .inl (X.1.2.1, N, .inl (gR n))), (gc, .inl (X.1.2.1, N, .inl (gC n))), (gb, .inl (X.1.2.1, N, .inl (gB n))), (aB, .inr (2, [.ref aG, .ref aS, .ref aR, .ref aC, .ref aX])), (aS, .inl (X.1.2.1, N, .inl (eb b))), (aR, .inl (X.1.2.1, n, .inl (mR n N b))), (aC, .inl (X.1.2.1, n, .inl (mC n N b))), (aX, .inl (X.1.2.1, n, .inl (mB n N b)))]
  refine r_iconst C dX3_tightest_0 (v := nI 0) (by decide) ?_
  refine r_istore_n C dX3_tightest_1 rfl (by decide) [1, 0] (lv' := [(0, .ref aD), (1, .int (nI 0))]) rfl ?_
  refine r_ldc C dX3_tightest_2 kX3_tightest_61 ?_
  refine r_top (y := nI 2147483647) (by decide) ?_
  refine r_istore_n C dX3_tightest_4 rfl (by decide) [1, 2, 0] (lv' := [(0, .ref aD), (1, .int (nI 0)), (2, .int (nI 2147483647))]) rfl ?_
  refine r_iconst C dX3_tightest_5 (v := nI 0) (by decide) ?_
  refine r_istore_n C dX3_tightest_6 rfl (by decide) [1, 2, 3, 0] (lv' := [(0, .ref aD), (1, .int (nI 0)), (2, .int (nI 2147483647)), (3, .int (nI 0))]) rfl ?_
  have L7 : ∀ (d7 : Nat) (be : Nat) (fw : Nat) (i : Nat), (N - i) < d7 → (i ≤ N) → (fw < 2147483648) → (tiP n N b i be fw) → RW X 0 0 7 [(0, .ref aD), (1, .int (nI be)), (2, .int (nI fw)), (3, .int (nI i))] [] [(aD, .inr (4, [.ref aG, .ref aH, .ref aB])), (aH, .inr (3, [.long x])), (aG, .inr (5, [.int (nI n), .int (nI N), .int (nI (2 ^ n - 1)), .ref gr, .ref gc, .ref gb, .ref gu])), (gr, .inl (X.1.2.1, N, .inl (gR n))), (gc, .inl (X.1.2.1, N, .inl (gC n))), (gb, .inl (X.1.2.1, N, .inl (gB n))), (aB, .inr (2, [.ref aG, .ref aS, .ref aR, .ref aC, .ref aX])), (aS, .inl (X.1.2.1, N, .inl (eb b))), (aR, .inl (X.1.2.1, n, .inl (mR n N b))), (aC, .inl (X.1.2.1, n, .inl (mC n N b))), (aX, .inl (X.1.2.1, n, .inl (mB n N b)))] := by
    intro d7
    induction d7 with
    | zero => intro be fw i hd7; exact absurd hd7 (Nat.not_lt_zero _)
    | succ d7 ih7 =>
      intro be fw i hd7 hi hfw ht
      refine r_iload_n C dX3_tightest_7 3 rfl rfl ?_
      refine r_aload_n C dX3_tightest_8 0 rfl rfl ?_
      refine r_get C dX3_tightest_9 iX3_tightest_X3 0 fX3_tightest_7 0 rfl rfl (by decide) rfl ?_
      refine r_get C dX3_tightest_12 iX3_tightest_X4 1 fX3_tightest_29 2 rfl rfl (by decide) rfl ?_
      refine r_icmp_ge (tgt := 59) C dX3_tightest_15 (by decide) (fun h15 => ?_) (fun h15 => ?_)
      · have h15 : N ≤ i := (nI_leI (by omega) (by omega)).mp h15
        refine r_iload_n C dX3_tightest_59 1 rfl rfl ?_
        have ht2 : tiP n N b N be fw := by
          have e : i = N := by omega
          rw [e] at ht; exact ht
        exact hret _ _ _ (be) ⟨rfl, tiP_end ht2 hex⟩ (Or.inr ⟨_, rfl, dX3_tightest_60, Or.inl rfl⟩)
      · have h15 : ¬ (N ≤ i) := fun e9 => h15 ((nI_leI (by omega) (by omega)).mpr e9)
        refine r_aload_n C dX3_tightest_18 0 rfl rfl ?_
        refine r_get C dX3_tightest_19 iX3_tightest_X3 2 fX3_tightest_22 0 rfl rfl (by decide) rfl ?_
        refine r_iload_n C dX3_tightest_22 3 rfl rfl ?_
        refine r_callV0 (n := 1) (ws' := fun u => [(aD, .inr (4, [.ref aG, .ref aH, .ref aB])), (aH, .inr (3, [.long x])), (aG, .inr (5, [.int (nI n), .int (nI N), .int (nI (2 ^ n - 1)), .ref gr, .ref gc, .ref gb, .ref gu])), (gr, .inl (X.1.2.1, N, .inl (gR n))), (gc, .inl (X.1.2.1, N, .inl (gC n))), (gb, .inl (X.1.2.1, N, .inl (gB n))), (aB, .inr (2, [.ref aG, .ref aS, .ref aR, .ref aC, .ref aX])), (aS, .inl (X.1.2.1, N, .inl (eb b))), (aR, .inl (X.1.2.1, n, .inl (mR n N b))), (aC, .inl (X.1.2.1, n, .inl (mC n N b))), (aX, .inl (X.1.2.1, n, .inl (mB n N b)))]) C dX3_tightest_23 (c_X1_isEmpty (g := X.1) (l := X.2.2.1) (N := N) (aG := aG) (aB := aB) (aS := aS) (aR := aR) (aC := aC) (aX := aX) (f := eb b) (c := i) (hN := (by omega)) (hc := (by omega))) gX3_tightest_X1_isEmpty rfl (by decide +kernel) rfl ⟨Nat.le_of_ble_eq_true rfl, Nat.le_of_ble_eq_true rfl⟩ ⟨rfl, rfl⟩ ⟨Nat.zero_le _, Nat.zero_le _⟩ (rest := []) rfl (Nat.le_of_ble_eq_true rfl) 0 rfl rfl [6, 7] (by decide) rfl (fun u => Eq.trans (b := [aB, aS]) rfl rfl) (fun u => rfl) (fun v u hp => ?_)
        obtain rfl := hp
        show RW X 0 0 26 [(0, .ref aD), (1, .int (nI be)), (2, .int (nI fw)), (3, .int (nI i))] [.int (bz ((eb b) i < 0))] [(aD, .inr (4, [.ref aG, .ref aH, .ref aB])), (aH, .inr (3, [.long x])), (aG, .inr (5, [.int (nI n), .int (nI N), .int (nI (2 ^ n - 1)), .ref gr, .ref gc, .ref gb, .ref gu])), (gr, .inl (X.1.2.1, N, .inl (gR n))), (gc, .inl (X.1.2.1, N, .inl (gC n))), (gb, .inl (X.1.2.1, N, .inl (gB n))), (aB, .inr (2, [.ref aG, .ref aS, .ref aR, .ref aC, .ref aX])), (aS, .inl (X.1.2.1, N, .inl (eb b))), (aR, .inl (X.1.2.1, n, .inl (mR n N b))), (aC, .inl (X.1.2.1, n, .inl (mC n N b))), (aX, .inl (X.1.2.1, n, .inl (mB n N b)))]
        refine r_if_eq (tgt := 53) C dX3_tightest_26 (by decide) (fun h26 => ?_) (fun h26 => ?_)
        · have h26 : ¬ ((eb b) i < 0) := bz_0.mp h26
          refine r_iinc C dX3_tightest_53 3 rfl (v := nI (i + 1)) (nI_add _ _) (by decide) [1, 2, 3, 0] (lv' := [(0, .ref aD), (1, .int (nI be)), (2, .int (nI fw)), (3, .int (nI (i + 1)))]) rfl ?_
          refine r_goto (tgt := 7) C dX3_tightest_56 (by decide) ?_
          exact ih7 be fw (i + 1) (by omega) (by omega) hfw (tiP_full ht (fun e => h26 (by show eo (b i) < 0; rw [e]; decide)))
        · have h26 : (eb b) i < 0 := bz_n0.mp h26
          refine r_aload_n C dX3_tightest_29 0 rfl rfl ?_
          refine r_get C dX3_tightest_30 iX3_tightest_X3 2 fX3_tightest_22 0 rfl rfl (by decide) rfl ?_
          refine r_iload_n C dX3_tightest_33 3 rfl rfl ?_
          refine r_callV0 (n := 1) (ws' := fun u => [(aD, .inr (4, [.ref aG, .ref aH, .ref aB])), (aH, .inr (3, [.long x])), (aG, .inr (5, [.int (nI n), .int (nI N), .int (nI (2 ^ n - 1)), .ref gr, .ref gc, .ref gb, .ref gu])), (gr, .inl (X.1.2.1, N, .inl (gR n))), (gc, .inl (X.1.2.1, N, .inl (gC n))), (gb, .inl (X.1.2.1, N, .inl (gB n))), (aB, .inr (2, [.ref aG, .ref aS, .ref aR, .ref aC, .ref aX])), (aS, .inl (X.1.2.1, N, .inl (eb b))), (aR, .inl (X.1.2.1, n, .inl (mR n N b))), (aC, .inl (X.1.2.1, n, .inl (mC n N b))), (aX, .inl (X.1.2.1, n, .inl (mB n N b)))]) C dX3_tightest_34 (c_X1_may (g := X.1) (l := X.2.2.1) (n := n) (N := N) (aG := aG) (gr := gr) (gc := gc) (gb := gb) (gu := gu) (aB := aB) (aS := aS) (aR := aR) (aC := aC) (aX := aX) (b := b) (c := i) (hn := (by first | assumption | omega)) (hc := (by first | assumption | omega))) gX3_tightest_X1_may rfl (by decide +kernel) rfl ⟨Nat.le_of_ble_eq_true rfl, Nat.le_of_ble_eq_true rfl⟩ ⟨rfl, rfl⟩ ⟨Nat.zero_le _, Nat.zero_le _⟩ (rest := []) rfl (Nat.le_of_ble_eq_true rfl) 4 rfl rfl [2, 3, 4, 5, 6, 7, 8, 9, 10] (by decide) rfl (fun u => Eq.trans (b := [aG, gr, gc, gb, aB, aS, aR, aC, aX]) rfl rfl) (fun u => rfl) (fun v u hp => ?_)
          obtain rfl := hp
          show RW X 0 0 37 [(0, .ref aD), (1, .int (nI be)), (2, .int (nI fw)), (3, .int (nI i))] [.int (nI (mkN (mayP n N b i)))] [(aD, .inr (4, [.ref aG, .ref aH, .ref aB])), (aH, .inr (3, [.long x])), (aG, .inr (5, [.int (nI n), .int (nI N), .int (nI (2 ^ n - 1)), .ref gr, .ref gc, .ref gb, .ref gu])), (gr, .inl (X.1.2.1, N, .inl (gR n))), (gc, .inl (X.1.2.1, N, .inl (gC n))), (gb, .inl (X.1.2.1, N, .inl (gB n))), (aB, .inr (2, [.ref aG, .ref aS, .ref aR, .ref aC, .ref aX])), (aS, .inl (X.1.2.1, N, .inl (eb b))), (aR, .inl (X.1.2.1, n, .inl (mR n N b))), (aC, .inl (X.1.2.1, n, .inl (mC n N b))), (aX, .inl (X.1.2.1, n, .inl (mB n N b)))]
          refine r_callS0 (n := 1) (ws' := fun u => [(aD, .inr (4, [.ref aG, .ref aH, .ref aB])), (aH, .inr (3, [.long x])), (aG, .inr (5, [.int (nI n), .int (nI N), .int (nI (2 ^ n - 1)), .ref gr, .ref gc, .ref gb, .ref gu])), (gr, .inl (X.1.2.1, N, .inl (gR n))), (gc, .inl (X.1.2.1, N, .inl (gC n))), (gb, .inl (X.1.2.1, N, .inl (gB n))), (aB, .inr (2, [.ref aG, .ref aS, .ref aR, .ref aC, .ref aX])), (aS, .inl (X.1.2.1, N, .inl (eb b))), (aR, .inl (X.1.2.1, n, .inl (mR n N b))), (aC, .inl (X.1.2.1, n, .inl (mC n N b))), (aX, .inl (X.1.2.1, n, .inl (mB n N b)))]) C dX3_tightest_37 (c_J6_bitCount_0f7a4 (g := X.1) (l := X.2.2.1) (m := mkN (mayP n N b i)) (hm := (mkN_lt _))) gX3_tightest_J6_bitCount_0f7a4 rfl (by decide +kernel) rfl ⟨Nat.le_of_ble_eq_true rfl, Nat.le_of_ble_eq_true rfl⟩ ⟨rfl, rfl⟩ ⟨Nat.zero_le _, Nat.zero_le _⟩ (rest := []) rfl (Nat.le_of_ble_eq_true rfl) [] (by decide) rfl (fun u => Eq.trans (b := []) rfl rfl) (fun u => rfl) (fun v u hp => ?_)
          obtain rfl := hp
          show RW X 0 0 40 [(0, .ref aD), (1, .int (nI be)), (2, .int (nI fw)), (3, .int (nI i))] [.int (nI (pcb (mkN (mayP n N b i)) 6))] [(aD, .inr (4, [.ref aG, .ref aH, .ref aB])), (aH, .inr (3, [.long x])), (aG, .inr (5, [.int (nI n), .int (nI N), .int (nI (2 ^ n - 1)), .ref gr, .ref gc, .ref gb, .ref gu])), (gr, .inl (X.1.2.1, N, .inl (gR n))), (gc, .inl (X.1.2.1, N, .inl (gC n))), (gb, .inl (X.1.2.1, N, .inl (gB n))), (aB, .inr (2, [.ref aG, .ref aS, .ref aR, .ref aC, .ref aX])), (aS, .inl (X.1.2.1, N, .inl (eb b))), (aR, .inl (X.1.2.1, n, .inl (mR n N b))), (aC, .inl (X.1.2.1, n, .inl (mC n N b))), (aX, .inl (X.1.2.1, n, .inl (mB n N b)))]
          have hwl := wy_le n N b i
          refine r_top (y := nI (wy n N b i)) rfl ?_
          refine r_istore C dX3_tightest_40 (by decide) [1, 2, 3, 4, 0] (lv' := [(0, .ref aD), (1, .int (nI be)), (2, .int (nI fw)), (3, .int (nI i)), (4, .int (nI (wy n N b i)))]) rfl ?_
          refine r_iload C dX3_tightest_42 4 rfl ?_
          refine r_iload_n C dX3_tightest_44 2 rfl rfl ?_
          refine r_icmp_ge (tgt := 53) C dX3_tightest_45 (by decide) (fun h45 => ?_) (fun h45 => ?_)
          · have h45 : fw ≤ (wy n N b i) := (nI_leI (by omega) (by omega)).mp h45
            refine r_iinc C dX3_tightest_53 3 rfl (v := nI (i + 1)) (nI_add _ _) (by decide) [1, 2, 3, 0, 4] (lv' := [(0, .ref aD), (1, .int (nI be)), (2, .int (nI fw)), (3, .int (nI (i + 1))), (4, .int (nI (wy n N b i)))]) rfl ?_
            refine r_goto (tgt := 7) C dX3_tightest_56 (by decide) ?_
            refine r_lv [0, 1, 2, 3] (lv' := [(0, .ref aD), (1, .int (nI be)), (2, .int (nI fw)), (3, .int (nI (i + 1)))]) rfl ?_
            exact ih7 be fw (i + 1) (by omega) (by omega) hfw (tiP_old ht (by omega))
          · have h45 : ¬ (fw ≤ (wy n N b i)) := fun e9 => h45 ((nI_leI (by omega) (by omega)).mpr e9)
            refine r_iload C dX3_tightest_48 4 rfl ?_
            refine r_istore_n C dX3_tightest_50 rfl (by decide) [1, 2, 0, 3, 4] (lv' := [(0, .ref aD), (1, .int (nI be)), (2, .int (nI (wy n N b i))), (3, .int (nI i)), (4, .int (nI (wy n N b i)))]) rfl ?_
            refine r_iload_n C dX3_tightest_51 3 rfl rfl ?_
            refine r_istore_n C dX3_tightest_52 rfl (by decide) [1, 0, 2, 3, 4] (lv' := [(0, .ref aD), (1, .int (nI i)), (2, .int (nI (wy n N b i))), (3, .int (nI i)), (4, .int (nI (wy n N b i)))]) rfl ?_
            refine r_iinc C dX3_tightest_53 3 rfl (v := nI (i + 1)) (nI_add _ _) (by decide) [1, 2, 3, 0, 4] (lv' := [(0, .ref aD), (1, .int (nI i)), (2, .int (nI (wy n N b i))), (3, .int (nI (i + 1))), (4, .int (nI (wy n N b i)))]) rfl ?_
            refine r_goto (tgt := 7) C dX3_tightest_56 (by decide) ?_
            refine r_lv [0, 1, 2, 3] (lv' := [(0, .ref aD), (1, .int (nI i)), (2, .int (nI (wy n N b i))), (3, .int (nI (i + 1)))]) rfl ?_
            exact ih7 i (wy n N b i) (i + 1) (by omega) (by omega) (by omega) (tiP_new ht (eo_none h26 (hok i) (by omega)) (by omega))
  exact L7 ((N - 0) + 1) 0 2147483647 0 (Nat.lt_succ_self _) (Nat.zero_le _) (by omega) (Or.inl ⟨rfl, fun d q => absurd q (Nat.not_lt_zero d)⟩)

set_option maxHeartbeats 4000000 in
set_option maxRecDepth 100000 in
theorem c_X3_symbolAt {g : ww_G} {l : Launch} {m : Nat} {j : Nat} (hm : m < 64) (hj6 : j < 6) (hj : j < pcb m 6) : CT g l yX3_symbolAt wsX3_symbolAt (ww_rm 2) [.int (nI m), .int (nI j)] ([]) (S := Unit) (fun v u => v = some (.int (nI (ntz (drK m j))))) (fun u => []) := by
  refine CT.of cX3_symbolAt 4 (some .int) RX3 (by decide +kernel) rfl rfl (Nat.le_of_ble_eq_true rfl) ?_
  intro X hg hl C hret
  subst hg; subst hl
  show RW X 0 0 0 [(0, .int (nI m)), (1, .int (nI j))] [] []
  refine r_iload_n C dX3_symbolAt_0 0 rfl rfl ?_
  refine r_istore_n C dX3_symbolAt_1 rfl (by decide) [1, 2, 0] (lv' := [(0, .int (nI m)), (1, .int (nI j)), (2, .int (nI m))]) rfl ?_
  refine r_iconst C dX3_symbolAt_2 (v := nI 0) (by decide) ?_
  refine r_istore_n C dX3_symbolAt_3 rfl (by decide) [1, 2, 3, 0] (lv' := [(0, .int (nI m)), (1, .int (nI j)), (2, .int (nI m)), (3, .int (nI 0))]) rfl ?_
  have L4 : ∀ (d4 : Nat) (i : Nat), (j - i) < d4 → (i ≤ j) → RW X 0 0 4 [(0, .int (nI m)), (1, .int (nI j)), (2, .int (nI (drK m i))), (3, .int (nI i))] [] [] := by
    intro d4
    induction d4 with
    | zero => intro i hd4; exact absurd hd4 (Nat.not_lt_zero _)
    | succ d4 ih4 =>
      intro i hd4 hi
      refine r_iload_n C dX3_symbolAt_4 3 rfl rfl ?_
      refine r_iload_n C dX3_symbolAt_5 1 rfl rfl ?_
      refine r_icmp_ge (tgt := 21) C dX3_symbolAt_6 (by decide) (fun h6 => ?_) (fun h6 => ?_)
      · have h6 : j ≤ i := (nI_leI (by omega) (by omega)).mp h6
        refine r_iload_n C dX3_symbolAt_21 2 rfl rfl ?_
        refine r_callS0 (n := 1) (ws' := fun u => []) C dX3_symbolAt_22 (c_J6_numberOfTrailingZeros_0f7a4 (g := X.1) (l := X.2.2.1) (m := drK m i) (hm := (drK_lt hm i)) (h0m := (by rw [show i = j by omega]; exact (kth_m m hm j hj6 hj).1))) gX3_symbolAt_J6_numberOfTrailingZeros_0f7a4 rfl (by decide +kernel) rfl ⟨Nat.le_of_ble_eq_true rfl, Nat.le_of_ble_eq_true rfl⟩ ⟨rfl, rfl⟩ ⟨Nat.zero_le _, Nat.zero_le _⟩ (rest := []) rfl (Nat.le_of_ble_eq_true rfl) [] (by decide) rfl (fun u => Eq.trans (b := []) rfl rfl) (fun u => rfl) (fun v u hp => ?_)
        obtain rfl := hp
        show RW X 0 0 25 [(0, .int (nI m)), (1, .int (nI j)), (2, .int (nI (drK m i))), (3, .int (nI i))] [.int (nI (ntz (drK m i)))] []
        refine r_top (y := nI (ntz (drK m j))) (by rw [show i = j by omega]) ?_
        exact hret _ _ _ () rfl (Or.inr ⟨_, rfl, dX3_symbolAt_25, Or.inl rfl⟩)
      · have h6 : ¬ (j ≤ i) := fun e9 => h6 ((nI_leI (by omega) (by omega)).mpr e9)
        refine r_iload_n C dX3_symbolAt_9 2 rfl rfl ?_
        refine r_iload_n C dX3_symbolAt_10 2 rfl rfl ?_
        refine r_iconst C dX3_symbolAt_11 (v := nI 1) (by decide) ?_
        refine r_isub C dX3_symbolAt_12 (v := nI (drK m i) - nI 1) rfl ?_
        refine r_iand C dX3_symbolAt_13 (v := nI (drK m (i + 1))) (drB_i _ (drK_lt hm i)) ?_
        refine r_istore_n C dX3_symbolAt_14 rfl (by decide) [1, 2, 0, 3] (lv' := [(0, .int (nI m)), (1, .int (nI j)), (2, .int (nI (drK m (i + 1)))), (3, .int (nI i))]) rfl ?_
        refine r_iinc C dX3_symbolAt_15 3 rfl (v := nI (i + 1)) (nI_add _ _) (by decide) [1, 2, 3, 0] (lv' := [(0, .int (nI m)), (1, .int (nI j)), (2, .int (nI (drK m (i + 1)))), (3, .int (nI (i + 1)))]) rfl ?_
        refine r_goto (tgt := 4) C dX3_symbolAt_18 (by decide) ?_
        exact ih4 (i + 1) (by omega) (by omega)
  exact L4 ((j - 0) + 1) 0 (Nat.lt_succ_self _) (Nat.zero_le _)
theorem fX3_fill_22 : Cond.fieldLink RX3 22 (TX3 2).1 (TX3 2).2.1 (TX3 2).2.2.1 ∈ wsX3_fill := List.mem_of_getElem? (i := 1) rfl
theorem iX3_fill_X3 : ∀ w ∈ wsX30, w ∈ wsX3_fill := by decide +kernel
theorem fX3_fill_7 : Cond.fieldLink RX3 7 (TX3 0).1 (TX3 0).2.1 (TX3 0).2.2.1 ∈ wsX3_fill := List.mem_of_getElem? (i := 2) rfl
theorem fX3_fill_29 : Cond.fieldLink RX3 29 (TX4 1).1 (TX4 1).2.1 (TX4 1).2.2.1 ∈ wsX3_fill := List.mem_of_getElem? (i := 3) rfl
theorem iX3_fill_X4 : ∀ w ∈ wsX40, w ∈ wsX3_fill := by decide +kernel
theorem fX3_fill_13 : Cond.fieldLink RX3 13 (TX3 1).1 (TX3 1).2.1 (TX3 1).2.2.1 ∈ wsX3_fill := List.mem_of_getElem? (i := 4) rfl
set_option maxHeartbeats 4000000 in
set_option maxRecDepth 100000 in
theorem c_X3_fill {g : ww_G} {l : Launch} {n : Nat} {N : Nat} {aG : Nat} {gr : Nat} {gc : Nat} {gb : Nat} {gu : Nat} {aB : Nat} {aS : Nat} {aR : Nat} {aC : Nat} {aX : Nat} {f : Nat → Int32} {fR : Nat → Int32} {fC : Nat → Int32} {fB : Nat → Int32} {aD : Nat} {aH : Nat} {x : Int64} (hn : (n = 4 ∧ N = 16) ∨ (n = 6 ∧ N = 36)) : CT g l yX3_fill wsX3_fill (ww_rm 4) [.ref aD] ([(aD, .inr (4, [.ref aG, .ref aH, .ref aB])), (aH, .inr (3, [.long x])), (aG, .inr (5, [.int (nI n), .int (nI N), .int (nI (2 ^ n - 1)), .ref gr, .ref gc, .ref gb, .ref gu])), (gr, .inl (g.2.1, N, .inl (gR n))), (gc, .inl (g.2.1, N, .inl (gC n))), (gb, .inl (g.2.1, N, .inl (gB n))), (aB, .inr (2, [.ref aG, .ref aS, .ref aR, .ref aC, .ref aX])), (aS, .inl (g.2.1, N, .inl f)), (aR, .inl (g.2.1, n, .inl fR)), (aC, .inl (g.2.1, n, .inl fC)), (aX, .inl (g.2.1, n, .inl fB))]) (S := Unit) (fun v u => v = some (.int (bz ((drawF n N N x (fun _ => none)).1 = true)))) (fun u => [(aD, .inr (4, [.ref aG, .ref aH, .ref aB])), (aH, .inr (3, [.long ((drawF n N N x (fun _ => none)).2.1)])), (aG, .inr (5, [.int (nI n), .int (nI N), .int (nI (2 ^ n - 1)), .ref gr, .ref gc, .ref gb, .ref gu])), (gr, .inl (g.2.1, N, .inl (gR n))), (gc, .inl (g.2.1, N, .inl (gC n))), (gb, .inl (g.2.1, N, .inl (gB n))), (aB, .inr (2, [.ref aG, .ref aS, .ref aR, .ref aC, .ref aX])), (aS, .inl (g.2.1, N, .inl (eb ((drawF n N N x (fun _ => none)).2.2)))), (aR, .inl (g.2.1, n, .inl (mR n N ((drawF n N N x (fun _ => none)).2.2)))), (aC, .inl (g.2.1, n, .inl (mC n N ((drawF n N N x (fun _ => none)).2.2)))), (aX, .inl (g.2.1, n, .inl (mB n N ((drawF n N N x (fun _ => none)).2.2))))]) := by
  refine CT.of cX3_fill 5 (some .boolean) RX3 (by decide +kernel) rfl rfl (Nat.le_of_ble_eq_true rfl) ?_
  intro X hg hl C hret
  subst hg; subst hl
  show RW X 0 0 0 [(0, .ref aD)] [] [(aD, .inr (4, [.ref aG, .ref aH, .ref aB])), (aH, .inr (3, [.long x])), (aG, .inr (5, [.int (nI n), .int (nI N), .int (nI (2 ^ n - 1)), .ref gr, .ref gc, .ref gb, .ref gu])), (gr, .inl (X.1.2.1, N, .inl (gR n))), (gc, .inl (X.1.2.1, N, .inl (gC n))), (gb, .inl (X.1.2.1, N, .inl (gB n))), (aB, .inr (2, [.ref aG, .ref aS, .ref aR, .ref aC, .ref aX])), (aS, .inl (X.1.2.1, N, .inl f)), (aR, .inl (X.1.2.1, n, .inl fR)), (aC, .inl (X.1.2.1, n, .inl fC)), (aX, .inl (X.1.2.1, n, .inl fB))]
  refine r_aload_n C dX3_fill_0 0 rfl rfl ?_
  refine r_get C dX3_fill_1 iX3_fill_X3 2 fX3_fill_22 0 rfl rfl (by decide) rfl ?_
  refine r_callV0 (n := 0) (ws' := fun u => [(aD, .inr (4, [.ref aG, .ref aH, .ref aB])), (aH, .inr (3, [.long x])), (aG, .inr (5, [.int (nI n), .int (nI N), .int (nI (2 ^ n - 1)), .ref gr, .ref gc, .ref gb, .ref gu])), (gr, .inl (X.1.2.1, N, .inl (gR n))), (gc, .inl (X.1.2.1, N, .inl (gC n))), (gb, .inl (X.1.2.1, N, .inl (gB n))), (aB, .inr (2, [.ref aG, .ref aS, .ref aR, .ref aC, .ref aX])), (aS, .inl (X.1.2.1, N, .inl (eb (fun _ => none)))), (aR, .inl (X.1.2.1, n, .inl (mR n N (fun _ => none)))), (aC, .inl (X.1.2.1, n, .inl (mC n N (fun _ => none)))), (aX, .inl (X.1.2.1, n, .inl (mB n N (fun _ => none))))]) C dX3_fill_4 (c_X1_clear (g := X.1) (l := X.2.2.1) (n := n) (N := N) (aG := aG) (gr := gr) (gc := gc) (gb := gb) (gu := gu) (aB := aB) (aS := aS) (aR := aR) (aC := aC) (aX := aX) (f := f) (fR := fR) (fC := fC) (fB := fB) (hn := (by first | assumption | omega))) gX3_fill_X1_clear rfl (by decide +kernel) rfl ⟨Nat.le_of_ble_eq_true rfl, Nat.le_of_ble_eq_true rfl⟩ ⟨rfl, rfl⟩ ⟨Nat.zero_le _, Nat.zero_le _⟩ (rest := []) rfl (Nat.le_of_ble_eq_true rfl) 4 rfl rfl [2, 3, 4, 5, 6, 7, 8, 9, 10] (by decide) rfl (fun u => Eq.trans (b := [aG, gr, gc, gb, aB, aS, aR, aC, aX]) rfl rfl) (fun u => rfl) (fun v u hp => ?_)
  obtain rfl := hp
  show RW X 0 0 7 [(0, .ref aD)] [] [(aD, .inr (4, [.ref aG, .ref aH, .ref aB])), (aH, .inr (3, [.long x])), (aG, .inr (5, [.int (nI n), .int (nI N), .int (nI (2 ^ n - 1)), .ref gr, .ref gc, .ref gb, .ref gu])), (gr, .inl (X.1.2.1, N, .inl (gR n))), (gc, .inl (X.1.2.1, N, .inl (gC n))), (gb, .inl (X.1.2.1, N, .inl (gB n))), (aB, .inr (2, [.ref aG, .ref aS, .ref aR, .ref aC, .ref aX])), (aS, .inl (X.1.2.1, N, .inl (eb (fun _ => none)))), (aR, .inl (X.1.2.1, n, .inl (mR n N (fun _ => none)))), (aC, .inl (X.1.2.1, n, .inl (mC n N (fun _ => none)))), (aX, .inl (X.1.2.1, n, .inl (mB n N (fun _ => none))))]
  refine r_iconst C dX3_fill_7 (v := nI 0) (by decide) ?_
  refine r_istore_n C dX3_fill_8 rfl (by decide) [1, 0] (lv' := [(0, .ref aD), (1, .int (nI 0))]) rfl ?_
  have L9 : ∀ (d9 : Nat) (i : Nat) (x1 : Int64) (b1 : Nat → Option Nat), (N - i) < d9 → (i ≤ N) → (drawF n N N x (fun _ => none) = drawF n N (N - i) x1 b1) → (okB n N b1) → (fil N b1 = i) → RW X 0 0 9 [(0, .ref aD), (1, .int (nI i))] [] [(aD, .inr (4, [.ref aG, .ref aH, .ref aB])), (aH, .inr (3, [.long x1])), (aG, .inr (5, [.int (nI n), .int (nI N), .int (nI (2 ^ n - 1)), .ref gr, .ref gc, .ref gb, .ref gu])), (gr, .inl (X.1.2.1, N, .inl (gR n))), (gc, .inl (X.1.2.1, N, .inl (gC n))), (gb, .inl (X.1.2.1, N, .inl (gB n))), (aB, .inr (2, [.ref aG, .ref aS, .ref aR, .ref aC, .ref aX])), (aS, .inl (X.1.2.1, N, .inl (eb b1))), (aR, .inl (X.1.2.1, n, .inl (mR n N b1))), (aC, .inl (X.1.2.1, n, .inl (mC n N b1))), (aX, .inl (X.1.2.1, n, .inl (mB n N b1)))] := by
    intro d9
    induction d9 with
    | zero => intro i x1 b1 hd9; exact absurd hd9 (Nat.not_lt_zero _)
    | succ d9 ih9 =>
      intro i x1 b1 hd9 hi hF hok hfil
      refine r_iload_n C dX3_fill_9 1 rfl rfl ?_
      refine r_aload_n C dX3_fill_10 0 rfl rfl ?_
      refine r_get C dX3_fill_11 iX3_fill_X3 0 fX3_fill_7 0 rfl rfl (by decide) rfl ?_
      refine r_get C dX3_fill_14 iX3_fill_X4 1 fX3_fill_29 2 rfl rfl (by decide) rfl ?_
      refine r_icmp_ge (tgt := 74) C dX3_fill_17 (by decide) (fun h17 => ?_) (fun h17 => ?_)
      · have h17 : N ≤ i := (nI_leI (by omega) (by omega)).mp h17
        refine r_iconst C dX3_fill_74 (v := nI 1) (by decide) ?_
        have hF0 : drawF n N N x (fun _ => none) = (true, x1, b1) := by
          rw [hF, show N - i = 0 by omega]; rfl
        rw [hF0] at hret
        refine r_top (y := bz (true = true)) ((bz_t rfl).symm) ?_
        exact hret _ _ _ () rfl (Or.inr ⟨_, rfl, dX3_fill_75, Or.inr ⟨rfl, bz_01 _⟩⟩)
      · have h17 : ¬ (N ≤ i) := fun e9 => h17 ((nI_leI (by omega) (by omega)).mpr e9)
        refine r_aload_n C dX3_fill_20 0 rfl rfl ?_
        refine r_callV0 (n := 0) (ws' := fun u => [(aD, .inr (4, [.ref aG, .ref aH, .ref aB])), (aH, .inr (3, [.long x1])), (aG, .inr (5, [.int (nI n), .int (nI N), .int (nI (2 ^ n - 1)), .ref gr, .ref gc, .ref gb, .ref gu])), (gr, .inl (X.1.2.1, N, .inl (gR n))), (gc, .inl (X.1.2.1, N, .inl (gC n))), (gb, .inl (X.1.2.1, N, .inl (gB n))), (aB, .inr (2, [.ref aG, .ref aS, .ref aR, .ref aC, .ref aX])), (aS, .inl (X.1.2.1, N, .inl (eb b1))), (aR, .inl (X.1.2.1, n, .inl (mR n N b1))), (aC, .inl (X.1.2.1, n, .inl (mC n N b1))), (aX, .inl (X.1.2.1, n, .inl (mB n N b1)))]) C dX3_fill_21 (c_X3_tightest (g := X.1) (l := X.2.2.1) (n := n) (N := N) (aG := aG) (gr := gr) (gc := gc) (gb := gb) (gu := gu) (aB := aB) (aS := aS) (aR := aR) (aC := aC) (aX := aX) (b := b1) (aD := aD) (aH := aH) (x := x1) (hn := (by first | assumption | omega)) (hex := (by obtain ⟨c, q1, q2⟩ := cn_ex (P := fun c => b1 c ≠ none) (N := N) (by show fil N b1 < N; omega); exact ⟨c, q1, Classical.byContradiction q2⟩)) (hok := hok.1)) gX3_fill_X3_tightest rfl (by decide +kernel) rfl ⟨Nat.le_of_ble_eq_true rfl, Nat.le_of_ble_eq_true rfl⟩ ⟨rfl, rfl⟩ ⟨Nat.zero_le _, Nat.zero_le _⟩ (rest := []) rfl (Nat.le_of_ble_eq_true rfl) 0 rfl rfl [0, 1, 2, 3, 4, 5, 6, 7, 8, 9, 10] (by decide) rfl (fun u => Eq.trans (b := [aD, aH, aG, gr, gc, gb, aB, aS, aR, aC, aX]) rfl rfl) (fun u => rfl) (fun v u hp => ?_)
        obtain ⟨r, rfl⟩ : ∃ z, z = u := ⟨_, rfl⟩
        obtain ⟨rfl, p21_0⟩ := hp
        show RW X 0 0 24 [(0, .ref aD), (1, .int (nI i))] [.int (nI r)] [(aD, .inr (4, [.ref aG, .ref aH, .ref aB])), (aH, .inr (3, [.long x1])), (aG, .inr (5, [.int (nI n), .int (nI N), .int (nI (2 ^ n - 1)), .ref gr, .ref gc, .ref gb, .ref gu])), (gr, .inl (X.1.2.1, N, .inl (gR n))), (gc, .inl (X.1.2.1, N, .inl (gC n))), (gb, .inl (X.1.2.1, N, .inl (gB n))), (aB, .inr (2, [.ref aG, .ref aS, .ref aR, .ref aC, .ref aX])), (aS, .inl (X.1.2.1, N, .inl (eb b1))), (aR, .inl (X.1.2.1, n, .inl (mR n N b1))), (aC, .inl (X.1.2.1, n, .inl (mC n N b1))), (aX, .inl (X.1.2.1, n, .inl (mB n N b1)))]
        refine r_istore_n C dX3_fill_24 rfl (by decide) [1, 2, 0] (lv' := [(0, .ref aD), (1, .int (nI i)), (2, .int (nI r))]) rfl ?_
        refine r_aload_n C dX3_fill_25 0 rfl rfl ?_
        refine r_get C dX3_fill_26 iX3_fill_X3 2 fX3_fill_22 0 rfl rfl (by decide) rfl ?_
        refine r_iload_n C dX3_fill_29 2 rfl rfl ?_
        refine r_callV0 (n := 1) (ws' := fun u => [(aD, .inr (4, [.ref aG, .ref aH, .ref aB])), (aH, .inr (3, [.long x1])), (aG, .inr (5, [.int (nI n), .int (nI N), .int (nI (2 ^ n - 1)), .ref gr, .ref gc, .ref gb, .ref gu])), (gr, .inl (X.1.2.1, N, .inl (gR n))), (gc, .inl (X.1.2.1, N, .inl (gC n))), (gb, .inl (X.1.2.1, N, .inl (gB n))), (aB, .inr (2, [.ref aG, .ref aS, .ref aR, .ref aC, .ref aX])), (aS, .inl (X.1.2.1, N, .inl (eb b1))), (aR, .inl (X.1.2.1, n, .inl (mR n N b1))), (aC, .inl (X.1.2.1, n, .inl (mC n N b1))), (aX, .inl (X.1.2.1, n, .inl (mB n N b1)))]) C dX3_fill_30 (c_X1_may (g := X.1) (l := X.2.2.1) (n := n) (N := N) (aG := aG) (gr := gr) (gc := gc) (gb := gb) (gu := gu) (aB := aB) (aS := aS) (aR := aR) (aC := aC) (aX := aX) (b := b1) (c := r) (hn := (by first | assumption | omega)) (hc := p21_0.1)) gX3_fill_X1_may rfl (by decide +kernel) rfl ⟨Nat.le_of_ble_eq_true rfl, Nat.le_of_ble_eq_true rfl⟩ ⟨rfl, rfl⟩ ⟨Nat.zero_le _, Nat.zero_le _⟩ (rest := []) rfl (Nat.le_of_ble_eq_true rfl) 4 rfl rfl [2, 3, 4, 5, 6, 7, 8, 9, 10] (by decide) rfl (fun u => Eq.trans (b := [aG, gr, gc, gb, aB, aS, aR, aC, aX]) rfl rfl) (fun u => rfl) (fun v u hp => ?_)
        obtain rfl := hp
        show RW X 0 0 33 [(0, .ref aD), (1, .int (nI i)), (2, .int (nI r))] [.int (nI (mkN (mayP n N b1 r)))] [(aD, .inr (4, [.ref aG, .ref aH, .ref aB])), (aH, .inr (3, [.long x1])), (aG, .inr (5, [.int (nI n), .int (nI N), .int (nI (2 ^ n - 1)), .ref gr, .ref gc, .ref gb, .ref gu])), (gr, .inl (X.1.2.1, N, .inl (gR n))), (gc, .inl (X.1.2.1, N, .inl (gC n))), (gb, .inl (X.1.2.1, N, .inl (gB n))), (aB, .inr (2, [.ref aG, .ref aS, .ref aR, .ref aC, .ref aX])), (aS, .inl (X.1.2.1, N, .inl (eb b1))), (aR, .inl (X.1.2.1, n, .inl (mR n N b1))), (aC, .inl (X.1.2.1, n, .inl (mC n N b1))), (aX, .inl (X.1.2.1, n, .inl (mB n N b1)))]
        refine r_istore_n C dX3_fill_33 rfl (by decide) [1, 2, 3, 0] (lv' := [(0, .ref aD), (1, .int (nI i)), (2, .int (nI r)), (3, .int (nI (mkN (mayP n N b1 r))))]) rfl ?_
        refine r_iload_n C dX3_fill_34 3 rfl rfl ?_
        refine r_callS0 (n := 1) (ws' := fun u => [(aD, .inr (4, [.ref aG, .ref aH, .ref aB])), (aH, .inr (3, [.long x1])), (aG, .inr (5, [.int (nI n), .int (nI N), .int (nI (2 ^ n - 1)), .ref gr, .ref gc, .ref gb, .ref gu])), (gr, .inl (X.1.2.1, N, .inl (gR n))), (gc, .inl (X.1.2.1, N, .inl (gC n))), (gb, .inl (X.1.2.1, N, .inl (gB n))), (aB, .inr (2, [.ref aG, .ref aS, .ref aR, .ref aC, .ref aX])), (aS, .inl (X.1.2.1, N, .inl (eb b1))), (aR, .inl (X.1.2.1, n, .inl (mR n N b1))), (aC, .inl (X.1.2.1, n, .inl (mC n N b1))), (aX, .inl (X.1.2.1, n, .inl (mB n N b1)))]) C dX3_fill_35 (c_J6_bitCount_0f7a4 (g := X.1) (l := X.2.2.1) (m := mkN (mayP n N b1 r)) (hm := (mkN_lt _))) gX3_fill_J6_bitCount_0f7a4 rfl (by decide +kernel) rfl ⟨Nat.le_of_ble_eq_true rfl, Nat.le_of_ble_eq_true rfl⟩ ⟨rfl, rfl⟩ ⟨Nat.zero_le _, Nat.zero_le _⟩ (rest := []) rfl (Nat.le_of_ble_eq_true rfl) [] (by decide) rfl (fun u => Eq.trans (b := []) rfl rfl) (fun u => rfl) (fun v u hp => ?_)
        obtain rfl := hp
        show RW X 0 0 38 [(0, .ref aD), (1, .int (nI i)), (2, .int (nI r)), (3, .int (nI (mkN (mayP n N b1 r))))] [.int (nI (pcb (mkN (mayP n N b1 r)) 6))] [(aD, .inr (4, [.ref aG, .ref aH, .ref aB])), (aH, .inr (3, [.long x1])), (aG, .inr (5, [.int (nI n), .int (nI N), .int (nI (2 ^ n - 1)), .ref gr, .ref gc, .ref gb, .ref gu])), (gr, .inl (X.1.2.1, N, .inl (gR n))), (gc, .inl (X.1.2.1, N, .inl (gC n))), (gb, .inl (X.1.2.1, N, .inl (gB n))), (aB, .inr (2, [.ref aG, .ref aS, .ref aR, .ref aC, .ref aX])), (aS, .inl (X.1.2.1, N, .inl (eb b1))), (aR, .inl (X.1.2.1, n, .inl (mR n N b1))), (aC, .inl (X.1.2.1, n, .inl (mC n N b1))), (aX, .inl (X.1.2.1, n, .inl (mB n N b1)))]
        have hwl := wy_le n N b1 r
        refine r_top (y := nI (wy n N b1 r)) rfl ?_
        refine r_istore C dX3_fill_38 (by decide) [1, 2, 3, 4, 0] (lv' := [(0, .ref aD), (1, .int (nI i)), (2, .int (nI r)), (3, .int (nI (mkN (mayP n N b1 r)))), (4, .int (nI (wy n N b1 r)))]) rfl ?_
        refine r_iload C dX3_fill_40 4 rfl ?_
        refine r_if_ne (tgt := 47) C dX3_fill_42 (by decide) (fun h42 => ?_) (fun h42 => ?_)
        · have h42 : ¬ ((wy n N b1 r) = 0) := fun e9 => h42 ((nI_eq (b := 0) (by omega) (by omega)).mpr e9)
          refine r_aload_n C dX3_fill_47 0 rfl rfl ?_
          refine r_get C dX3_fill_48 iX3_fill_X3 2 fX3_fill_22 0 rfl rfl (by decide) rfl ?_
          refine r_iload_n C dX3_fill_51 2 rfl rfl ?_
          refine r_iload_n C dX3_fill_52 3 rfl rfl ?_
          refine r_aload_n C dX3_fill_53 0 rfl rfl ?_
          refine r_get C dX3_fill_54 iX3_fill_X3 1 fX3_fill_13 0 rfl rfl (by decide) rfl ?_
          refine r_iload C dX3_fill_57 4 rfl ?_
          refine r_callV0 (n := 1) (ws' := fun u => [(aD, .inr (4, [.ref aG, .ref aH, .ref aB])), (aH, .inr (3, [.long (nx x1)])), (aG, .inr (5, [.int (nI n), .int (nI N), .int (nI (2 ^ n - 1)), .ref gr, .ref gc, .ref gb, .ref gu])), (gr, .inl (X.1.2.1, N, .inl (gR n))), (gc, .inl (X.1.2.1, N, .inl (gC n))), (gb, .inl (X.1.2.1, N, .inl (gB n))), (aB, .inr (2, [.ref aG, .ref aS, .ref aR, .ref aC, .ref aX])), (aS, .inl (X.1.2.1, N, .inl (eb b1))), (aR, .inl (X.1.2.1, n, .inl (mR n N b1))), (aC, .inl (X.1.2.1, n, .inl (mC n N b1))), (aX, .inl (X.1.2.1, n, .inl (mB n N b1)))]) C dX3_fill_59 (c_X2_below (g := X.1) (l := X.2.2.1) (aH := aH) (x := x1) (k := wy n N b1 r) (hk := (by omega)) (hk2 := (by omega))) gX3_fill_X2_below rfl (by decide +kernel) rfl ⟨Nat.le_of_ble_eq_true rfl, Nat.le_of_ble_eq_true rfl⟩ ⟨rfl, rfl⟩ ⟨Nat.zero_le _, Nat.zero_le _⟩ (rest := [.int (nI (mkN (mayP n N b1 r))), .int (nI r), .ref aB]) rfl (Nat.le_of_ble_eq_true rfl) 0 rfl rfl [1] (by decide) rfl (fun u => Eq.trans (b := [aH]) rfl rfl) (fun u => rfl) (fun v u hp => ?_)
          obtain rfl := hp
          show RW X 0 0 62 [(0, .ref aD), (1, .int (nI i)), (2, .int (nI r)), (3, .int (nI (mkN (mayP n N b1 r)))), (4, .int (nI (wy n N b1 r)))] [.int (nI (hb (nx x1) % (wy n N b1 r))), .int (nI (mkN (mayP n N b1 r))), .int (nI r), .ref aB] [(aD, .inr (4, [.ref aG, .ref aH, .ref aB])), (aH, .inr (3, [.long (nx x1)])), (aG, .inr (5, [.int (nI n), .int (nI N), .int (nI (2 ^ n - 1)), .ref gr, .ref gc, .ref gb, .ref gu])), (gr, .inl (X.1.2.1, N, .inl (gR n))), (gc, .inl (X.1.2.1, N, .inl (gC n))), (gb, .inl (X.1.2.1, N, .inl (gB n))), (aB, .inr (2, [.ref aG, .ref aS, .ref aR, .ref aC, .ref aX])), (aS, .inl (X.1.2.1, N, .inl (eb b1))), (aR, .inl (X.1.2.1, n, .inl (mR n N b1))), (aC, .inl (X.1.2.1, n, .inl (mC n N b1))), (aX, .inl (X.1.2.1, n, .inl (mB n N b1)))]
          have hj0 : hb (nx x1) % wy n N b1 r < wy n N b1 r := Nat.mod_lt _ (by omega)
          have hkt := kth_m (mkN (mayP n N b1 r)) (mkN_lt _) (hb (nx x1) % wy n N b1 r) (by omega) hj0
          have hmv : mayP n N b1 r (ntz (drK (mkN (mayP n N b1 r)) (hb (nx x1) % wy n N b1 r))) := (mkN_tb _ hkt.2.1).mp hkt.2.2.1
          have hcv : cn (mayP n N b1 r) (ntz (drK (mkN (mayP n N b1 r)) (hb (nx x1) % wy n N b1 r))) = hb (nx x1) % wy n N b1 r := (cn_pcb (by omega)).symm.trans hkt.2.2.2
          refine r_callS0 (n := 2) (ws' := fun u => [(aD, .inr (4, [.ref aG, .ref aH, .ref aB])), (aH, .inr (3, [.long (nx x1)])), (aG, .inr (5, [.int (nI n), .int (nI N), .int (nI (2 ^ n - 1)), .ref gr, .ref gc, .ref gb, .ref gu])), (gr, .inl (X.1.2.1, N, .inl (gR n))), (gc, .inl (X.1.2.1, N, .inl (gC n))), (gb, .inl (X.1.2.1, N, .inl (gB n))), (aB, .inr (2, [.ref aG, .ref aS, .ref aR, .ref aC, .ref aX])), (aS, .inl (X.1.2.1, N, .inl (eb b1))), (aR, .inl (X.1.2.1, n, .inl (mR n N b1))), (aC, .inl (X.1.2.1, n, .inl (mC n N b1))), (aX, .inl (X.1.2.1, n, .inl (mB n N b1)))]) C dX3_fill_62 (c_X3_symbolAt (g := X.1) (l := X.2.2.1) (m := mkN (mayP n N b1 r)) (j := hb (nx x1) % (wy n N b1 r)) (hm := (mkN_lt _)) (hj6 := (by omega)) (hj := hj0)) gX3_fill_X3_symbolAt rfl (by decide +kernel) rfl ⟨Nat.le_of_ble_eq_true rfl, Nat.le_of_ble_eq_true rfl⟩ ⟨rfl, rfl⟩ ⟨Nat.zero_le _, Nat.zero_le _⟩ (rest := [.int (nI r), .ref aB]) rfl (Nat.le_of_ble_eq_true rfl) [] (by decide) rfl (fun u => Eq.trans (b := []) rfl rfl) (fun u => rfl) (fun v u hp => ?_)
          obtain rfl := hp
          show RW X 0 0 65 [(0, .ref aD), (1, .int (nI i)), (2, .int (nI r)), (3, .int (nI (mkN (mayP n N b1 r)))), (4, .int (nI (wy n N b1 r)))] [.int (nI (ntz (drK (mkN (mayP n N b1 r)) (hb (nx x1) % (wy n N b1 r))))), .int (nI r), .ref aB] [(aD, .inr (4, [.ref aG, .ref aH, .ref aB])), (aH, .inr (3, [.long (nx x1)])), (aG, .inr (5, [.int (nI n), .int (nI N), .int (nI (2 ^ n - 1)), .ref gr, .ref gc, .ref gb, .ref gu])), (gr, .inl (X.1.2.1, N, .inl (gR n))), (gc, .inl (X.1.2.1, N, .inl (gC n))), (gb, .inl (X.1.2.1, N, .inl (gB n))), (aB, .inr (2, [.ref aG, .ref aS, .ref aR, .ref aC, .ref aX])), (aS, .inl (X.1.2.1, N, .inl (eb b1))), (aR, .inl (X.1.2.1, n, .inl (mR n N b1))), (aC, .inl (X.1.2.1, n, .inl (mC n N b1))), (aX, .inl (X.1.2.1, n, .inl (mB n N b1)))]
          refine r_callV0 (n := 2) (ws' := fun u => [(aD, .inr (4, [.ref aG, .ref aH, .ref aB])), (aH, .inr (3, [.long (nx x1)])), (aG, .inr (5, [.int (nI n), .int (nI N), .int (nI (2 ^ n - 1)), .ref gr, .ref gc, .ref gb, .ref gu])), (gr, .inl (X.1.2.1, N, .inl (gR n))), (gc, .inl (X.1.2.1, N, .inl (gC n))), (gb, .inl (X.1.2.1, N, .inl (gB n))), (aB, .inr (2, [.ref aG, .ref aS, .ref aR, .ref aC, .ref aX])), (aS, .inl (X.1.2.1, N, .inl (eb (ub b1 r (some (ntz (drK (mkN (mayP n N b1 r)) (hb (nx x1) % (wy n N b1 r))))))))), (aR, .inl (X.1.2.1, n, .inl (mR n N (ub b1 r (some (ntz (drK (mkN (mayP n N b1 r)) (hb (nx x1) % (wy n N b1 r))))))))), (aC, .inl (X.1.2.1, n, .inl (mC n N (ub b1 r (some (ntz (drK (mkN (mayP n N b1 r)) (hb (nx x1) % (wy n N b1 r))))))))), (aX, .inl (X.1.2.1, n, .inl (mB n N (ub b1 r (some (ntz (drK (mkN (mayP n N b1 r)) (hb (nx x1) % (wy n N b1 r)))))))))]) C dX3_fill_65 (c_X1_put (g := X.1) (l := X.2.2.1) (n := n) (N := N) (aG := aG) (gr := gr) (gc := gc) (gb := gb) (gu := gu) (aB := aB) (aS := aS) (aR := aR) (aC := aC) (aX := aX) (b := b1) (c := r) (v := ntz (drK (mkN (mayP n N b1 r)) (hb (nx x1) % (wy n N b1 r)))) (hn := (by first | assumption | omega)) (hc := p21_0.1) (h0 := p21_0.2.1) (hm := hmv)) gX3_fill_X1_put rfl (by decide +kernel) rfl ⟨Nat.le_of_ble_eq_true rfl, Nat.le_of_ble_eq_true rfl⟩ ⟨rfl, rfl⟩ ⟨Nat.zero_le _, Nat.zero_le _⟩ (rest := []) rfl (Nat.le_of_ble_eq_true rfl) 4 rfl rfl [2, 3, 4, 5, 6, 7, 8, 9, 10] (by decide) rfl (fun u => Eq.trans (b := [aG, gr, gc, gb, aB, aS, aR, aC, aX]) rfl rfl) (fun u => rfl) (fun v u hp => ?_)
          obtain rfl := hp
          show RW X 0 0 68 [(0, .ref aD), (1, .int (nI i)), (2, .int (nI r)), (3, .int (nI (mkN (mayP n N b1 r)))), (4, .int (nI (wy n N b1 r)))] [] [(aD, .inr (4, [.ref aG, .ref aH, .ref aB])), (aH, .inr (3, [.long (nx x1)])), (aG, .inr (5, [.int (nI n), .int (nI N), .int (nI (2 ^ n - 1)), .ref gr, .ref gc, .ref gb, .ref gu])), (gr, .inl (X.1.2.1, N, .inl (gR n))), (gc, .inl (X.1.2.1, N, .inl (gC n))), (gb, .inl (X.1.2.1, N, .inl (gB n))), (aB, .inr (2, [.ref aG, .ref aS, .ref aR, .ref aC, .ref aX])), (aS, .inl (X.1.2.1, N, .inl (eb (ub b1 r (some (ntz (drK (mkN (mayP n N b1 r)) (hb (nx x1) % (wy n N b1 r))))))))), (aR, .inl (X.1.2.1, n, .inl (mR n N (ub b1 r (some (ntz (drK (mkN (mayP n N b1 r)) (hb (nx x1) % (wy n N b1 r))))))))), (aC, .inl (X.1.2.1, n, .inl (mC n N (ub b1 r (some (ntz (drK (mkN (mayP n N b1 r)) (hb (nx x1) % (wy n N b1 r))))))))), (aX, .inl (X.1.2.1, n, .inl (mB n N (ub b1 r (some (ntz (drK (mkN (mayP n N b1 r)) (hb (nx x1) % (wy n N b1 r)))))))))]
          refine r_iinc C dX3_fill_68 1 rfl (v := nI (i + 1)) (nI_add _ _) (by decide) [1, 0, 2, 3, 4] (lv' := [(0, .ref aD), (1, .int (nI (i + 1))), (2, .int (nI r)), (3, .int (nI (mkN (mayP n N b1 r)))), (4, .int (nI (wy n N b1 r)))]) rfl ?_
          refine r_goto (tgt := 9) C dX3_fill_71 (by decide) ?_
          refine r_lv [0, 1] (lv' := [(0, .ref aD), (1, .int (nI (i + 1)))]) rfl ?_
          exact ih9 (i + 1) (nx x1) (ub b1 r (some (ntz (drK (mkN (mayP n N b1 r)) (hb (nx x1) % wy n N b1 r))))) (by omega) (by omega) (by rw [hF, show N - i = (N - (i + 1)) + 1 by omega]; exact drawF_s p21_0 h42 hmv hcv) (okB_put hok hmv) (by rw [fil_put p21_0.1 p21_0.2.1, hfil])
        · have h42 : (wy n N b1 r) = 0 := (nI_eq (b := 0) (by omega) (by omega)).mp h42
          refine r_iconst C dX3_fill_45 (v := nI 0) (by decide) ?_
          have hF0 : drawF n N N x (fun _ => none) = (false, x1, b1) := by
            rw [hF, show N - i = (N - (i + 1)) + 1 by omega]; exact drawF_0 p21_0 h42
          rw [hF0] at hret
          refine r_top (y := bz (false = true)) ((bz_f (by decide)).symm) ?_
          exact hret _ _ _ () rfl (Or.inr ⟨_, rfl, dX3_fill_46, Or.inr ⟨rfl, bz_01 _⟩⟩)
  exact L9 ((N - 0) + 1) 0 x (fun _ => none) (Nat.lt_succ_self _) (Nat.zero_le _) rfl (okB_none n N) fil_0
